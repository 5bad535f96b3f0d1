set_option maxHeartbeats 4000000 in
theorem w_X7_reckon_0 {X : hf_X} {d k n t : Nat} {T : hf_T} {I : hf_I} {L : hf_L} {P : hf_P} {Q : Option Value → hf_M → Prop} {x2 : Int32} {x3 : Int32} (hs : hf_Lay t T P) (h : hf_G X Y_X7_reckon (d + 1) k n 20 [some (.ref 132), some (.ref 124), none, none, some (.int 0), some (.int (if (I 124 6) < x3 then (I 124 6) else x3)), some (.int (if 0 < x2 then x2 else 0)), none, none, none, none] [] (t, T, I, L, P) Q) : hf_G X Y_X7_reckon (d + 1) k n 0 (hf_en [.ref 132, .ref 124, .int x2, .int x3] 11) [] (t, T, I, L, P) Q := by
  show hf_G X Y_X7_reckon (d + 1) k n 0 [some (.ref 132), some (.ref 124), some (.int x2), some (.int x3), none, none, none, none, none, none, none] [] (t, T, I, L, P) Q
  refine hf_iconst (v := 0) dX7_reckon_0 (by decide) ?_
  refine hf_istore (l2 := [some (.ref 132), some (.ref 124), some (.int x2), some (.int x3), some (.int 0), none, none, none, none, none, none]) dX7_reckon_1 (by decide) rfl ?_
  refine hf_iload_n dX7_reckon_3 rfl rfl ?_
  refine hf_aload_n dX7_reckon_4 rfl rfl ?_
  refine hf_geti (c := 9) (j := 6) dX7_reckon_5 (hs.2.1 124 _ rfl) (hf_lin hs 124 rfl) (by decide) (by decide) hw212 (Or.inl rfl) ?_
  refine hf_mmin dX7_reckon_8 hw511 (Nat.le_of_ble_eq_true rfl) ?_
  refine hf_istore (l2 := [some (.ref 132), some (.ref 124), some (.int x2), some (.int x3), some (.int 0), some (.int (if (I 124 6) < x3 then (I 124 6) else x3)), none, none, none, none, none]) dX7_reckon_11 (by decide) rfl ?_
  refine hf_iconst (v := 0) dX7_reckon_13 (by decide) ?_
  refine hf_iload_n dX7_reckon_14 rfl rfl ?_
  refine hf_mmax dX7_reckon_15 hw514 (Nat.le_of_ble_eq_true rfl) ?_
  refine hf_istore (l2 := [some (.ref 132), some (.ref 124), some (.int x2), some (.int x3), some (.int 0), some (.int (if (I 124 6) < x3 then (I 124 6) else x3)), some (.int (if 0 < x2 then x2 else 0)), none, none, none, none]) dX7_reckon_18 (by decide) rfl ?_
  refine hf_drop (l' := [some (.ref 132), some (.ref 124), none, none, some (.int 0), some (.int (if (I 124 6) < x3 then (I 124 6) else x3)), some (.int (if 0 < x2 then x2 else 0)), none, none, none, none]) (by simp [hf_sub]) ?_
  exact h

set_option maxHeartbeats 4000000 in
theorem w_X7_reckon_20 {X : hf_X} {d k n t : Nat} {T : hf_T} {I : hf_I} {L : hf_L} {P : hf_P} {Q : Option Value → hf_M → Prop} {x4 : Int32} {x5 : Int32} {x6 : Int32} (hs : hf_Lay t T P) (h : (x5 ≤ (x6 + 1) → (x4 = 1 → Q (some (.int 1)) (t, T, (hf_up I 132 2 (I 134 0)), L, P)) ∧ (¬ (x4 = 1) → Q (some (.int 0)) (t, T, I, L, P))) ∧ (¬ (x5 ≤ (x6 + 1)) → vp_in x6 800 ∧ (vp_in (x6 + 1) 800 ∧ ((1 < (I 125 x6.toNatClampNeg) → (9 < (I 125 x6.toNatClampNeg) → (1 ≤ x4 → vp_in (x4 - 1) 52 ∧ (((I 134 (((x4 - 1)).toNatClampNeg)) = 0 → (¬ (I 125 x6.toNatClampNeg) = 10 → (¬ (I 125 x6.toNatClampNeg) = 11 → hf_G X Y_X7_reckon (d + 1) k n 20 [some (.ref 132), some (.ref 124), none, none, some (.int x4), some (.int x5), some (.int ((x6 + (if 0 < (I 125 (((x6 + 1)).toNatClampNeg)) then (I 125 (((x6 + 1)).toNatClampNeg)) else 0)) + 2)), none, none, none, none] [] (t, T, I, L, P) Q) ∧ ((I 125 x6.toNatClampNeg) = 11 → hf_G X Y_X7_reckon (d + 1) k n 20 [some (.ref 132), some (.ref 124), none, none, some (.int (x4 + (-1))), some (.int x5), some (.int (x6 + 2)), none, none, none, none] [] (t, T, I, L, P) Q)) ∧ ((I 125 x6.toNatClampNeg) = 10 → vp_in (x4 - 1) 52 ∧ (hf_G X Y_X7_reckon (d + 1) k n 20 [some (.ref 132), some (.ref 124), none, none, some (.int x4), some (.int x5), some (.int (x6 + 2)), none, none, none, none] [] (t, T, (hf_up I 134 (((x4 - 1)).toNatClampNeg) 1), L, P) Q))) ∧ (¬ ((I 134 (((x4 - 1)).toNatClampNeg)) = 0) → (¬ (I 125 x6.toNatClampNeg) = 10 → (¬ (I 125 x6.toNatClampNeg) = 11 → hf_G X Y_X7_reckon (d + 1) k n 20 [some (.ref 132), some (.ref 124), none, none, some (.int (x4 + (-1))), some (.int x5), some (.int (x6 + 2)), none, none, none, none] [] (t, T, I, L, P) Q) ∧ ((I 125 x6.toNatClampNeg) = 11 → hf_G X Y_X7_reckon (d + 1) k n 20 [some (.ref 132), some (.ref 124), none, none, some (.int x4), some (.int x5), some (.int ((x6 + (if 0 < (I 125 (((x6 + 1)).toNatClampNeg)) then (I 125 (((x6 + 1)).toNatClampNeg)) else 0)) + 2)), none, none, none, none] [] (t, T, I, L, P) Q)) ∧ ((I 125 x6.toNatClampNeg) = 10 → vp_in (x4 - 1) 52 ∧ (hf_G X Y_X7_reckon (d + 1) k n 20 [some (.ref 132), some (.ref 124), none, none, some (.int x4), some (.int x5), some (.int (x6 + 2)), none, none, none, none] [] (t, T, (hf_up I 134 (((x4 - 1)).toNatClampNeg) 0), L, P) Q))))) ∧ (¬ (1 ≤ x4) → Q (some (.int 0)) (t, T, I, L, P))) ∧ (¬ (9 < (I 125 x6.toNatClampNeg)) → (2 ≤ x4 → vp_in (x4 - 2) 52 ∧ (vp_in (x4 - 1) 52 ∧ (hf_G X Y_X7_join d 0 0 0 (hf_en [.int (I 125 x6.toNatClampNeg), .long ((I 134 (((x4 - 2)).toNatClampNeg)).toInt64), .long ((I 134 (((x4 - 1)).toNatClampNeg)).toInt64)] 5) [] (t, T, I, L, P) (fun r M => hf_G X Y_X7_reckon (d + 1) k n 137 [some (.ref 132), some (.ref 124), none, none, some (.int x4), some (.int x5), some (.int x6), none, none, none, none] (r.toList ++ []) M Q)))) ∧ (¬ (2 ≤ x4) → Q (some (.int 0)) (t, T, I, L, P)))) ∧ (¬ (1 < (I 125 x6.toNatClampNeg)) → (x4 < 52 → (¬ (I 125 x6.toNatClampNeg) = 1 → vp_in x4 52 ∧ (hf_G X Y_X7_reckon (d + 1) k n 20 [some (.ref 132), some (.ref 124), none, none, some (.int (x4 + 1)), some (.int x5), some (.int (x6 + 2)), none, none, none, none] [] (t, T, (hf_up I 134 x4.toNatClampNeg (I 125 (((x6 + 1)).toNatClampNeg))), L, P) Q)) ∧ ((I 125 x6.toNatClampNeg) = 1 → ((I 125 (((x6 + 1)).toNatClampNeg)) < 0 → vp_in x4 52 ∧ (hf_G X Y_X7_reckon (d + 1) k n 20 [some (.ref 132), some (.ref 124), none, none, some (.int (x4 + 1)), some (.int x5), some (.int (x6 + 2)), none, none, none, none] [] (t, T, (hf_up I 134 x4.toNatClampNeg (-1)), L, P) Q)) ∧ (¬ ((I 125 (((x6 + 1)).toNatClampNeg)) < 0) → (37 ≤ (I 125 (((x6 + 1)).toNatClampNeg)) → vp_in x4 52 ∧ (hf_G X Y_X7_reckon (d + 1) k n 20 [some (.ref 132), some (.ref 124), none, none, some (.int (x4 + 1)), some (.int x5), some (.int (x6 + 2)), none, none, none, none] [] (t, T, (hf_up I 134 x4.toNatClampNeg (-1)), L, P) Q)) ∧ (¬ (37 ≤ (I 125 (((x6 + 1)).toNatClampNeg))) → vp_in (I 125 (((x6 + 1)).toNatClampNeg)) 37 ∧ (vp_in x4 52 ∧ (hf_G X Y_X7_reckon (d + 1) k n 20 [some (.ref 132), some (.ref 124), none, none, some (.int (x4 + 1)), some (.int x5), some (.int (x6 + 2)), none, none, none, none] [] (t, T, (hf_up I 134 x4.toNatClampNeg (I 133 (((I 125 (((x6 + 1)).toNatClampNeg))).toNatClampNeg))), L, P) Q)))))) ∧ (¬ (x4 < 52) → Q (some (.int 0)) (t, T, I, L, P))))))) : hf_G X Y_X7_reckon (d + 1) k n 20 [some (.ref 132), some (.ref 124), none, none, some (.int x4), some (.int x5), some (.int x6), none, none, none, none] [] (t, T, I, L, P) Q := by
  refine hf_iload dX7_reckon_20 rfl ?_
  refine hf_iconst (v := 1) dX7_reckon_22 (by decide) ?_
  refine hf_iadd dX7_reckon_23 ?_
  refine hf_iload dX7_reckon_24 rfl ?_
  refine hf_icmp_ge (tgt := 273) dX7_reckon_26 (by decide) (fun hc => ?_) (fun hc => ?_)
  · replace h := h.1 hc
    refine hf_iload dX7_reckon_273 rfl ?_
    refine hf_iconst (v := 1) dX7_reckon_275 (by decide) ?_
    refine hf_icmp_eq (tgt := 281) dX7_reckon_276 (by decide) (fun hc => ?_) (fun hc => ?_)
    · replace h := h.1 hc
      refine hf_aload_n dX7_reckon_281 rfl rfl ?_
      refine hf_aload_n dX7_reckon_282 rfl rfl ?_
      refine hf_getr (b := 134) (c := 7) (j := 1) dX7_reckon_283 (hs.2.1 132 _ rfl) (hf_lin hs 132 rfl) (by decide) (by decide) hw254 rfl (hs.2.2 132 1 _ rfl) ?_
      refine hf_iconst (v := 0) dX7_reckon_286 (by decide) ?_
      refine hf_iald_k (j := 0) (by decide) dX7_reckon_287 (hs.2.1 134 _ rfl) (hf_lin hs 134 rfl) (hf_vin (by decide)) ?_
      refine hf_puti (c := 7) (j := 2) dX7_reckon_288 (hs.2.1 132 _ rfl) (hf_lin hs 132 rfl) (by decide) (by decide) hw255 rfl rfl ?_
      refine hf_iconst (v := 1) dX7_reckon_291 (by decide) ?_
      refine hf_ireturn dX7_reckon_292 rfl (by decide) ?_
      exact h
    · replace h := h.2 hc
      refine hf_iconst (v := 0) dX7_reckon_279 (by decide) ?_
      refine hf_ireturn dX7_reckon_280 rfl (by decide) ?_
      exact h
  · replace h := h.2 hc
    refine hf_aload_n dX7_reckon_29 rfl rfl ?_
    refine hf_getr (b := 125) (c := 9) (j := 0) dX7_reckon_30 (hs.2.1 124 _ rfl) (hf_lin hs 124 rfl) (by decide) (by decide) hw196 rfl (hs.2.2 124 0 _ rfl) ?_
    refine hf_iload dX7_reckon_33 rfl ?_
    refine hf_iald dX7_reckon_35 (hs.2.1 125 _ rfl) (hf_lin hs 125 rfl) h.1 ?_
    replace h := h.2
    refine hf_istore (l2 := [some (.ref 132), some (.ref 124), none, none, some (.int x4), some (.int x5), some (.int x6), some (.int (I 125 x6.toNatClampNeg)), none, none, none]) dX7_reckon_36 (by decide) rfl ?_
    refine hf_aload_n dX7_reckon_38 rfl rfl ?_
    refine hf_getr (b := 125) (c := 9) (j := 0) dX7_reckon_39 (hs.2.1 124 _ rfl) (hf_lin hs 124 rfl) (by decide) (by decide) hw196 rfl (hs.2.2 124 0 _ rfl) ?_
    refine hf_iload dX7_reckon_42 rfl ?_
    refine hf_iconst (v := 1) dX7_reckon_44 (by decide) ?_
    refine hf_iadd dX7_reckon_45 ?_
    refine hf_iald dX7_reckon_46 (hs.2.1 125 _ rfl) (hf_lin hs 125 rfl) h.1 ?_
    replace h := h.2
    refine hf_istore (l2 := [some (.ref 132), some (.ref 124), none, none, some (.int x4), some (.int x5), some (.int x6), some (.int (I 125 x6.toNatClampNeg)), some (.int (I 125 (((x6 + 1)).toNatClampNeg))), none, none]) dX7_reckon_47 (by decide) rfl ?_
    refine hf_iload dX7_reckon_49 rfl ?_
    refine hf_iconst (v := 1) dX7_reckon_51 (by decide) ?_
    refine hf_icmp_gt (tgt := 97) dX7_reckon_52 (by decide) (fun hc => ?_) (fun hc => ?_)
    · replace h := h.1 hc
      refine hf_iload dX7_reckon_97 rfl ?_
      refine hf_bipush (v := 9) dX7_reckon_99 (by decide) ?_
      refine hf_icmp_gt (tgt := 177) dX7_reckon_101 (by decide) (fun hc => ?_) (fun hc => ?_)
      · replace h := h.1 hc
        refine hf_iload dX7_reckon_177 rfl ?_
        refine hf_iconst (v := 1) dX7_reckon_179 (by decide) ?_
        refine hf_icmp_ge (tgt := 185) dX7_reckon_180 (by decide) (fun hc => ?_) (fun hc => ?_)
        · replace h := h.1 hc
          refine hf_aload_n dX7_reckon_185 rfl rfl ?_
          refine hf_getr (b := 134) (c := 7) (j := 1) dX7_reckon_186 (hs.2.1 132 _ rfl) (hf_lin hs 132 rfl) (by decide) (by decide) hw254 rfl (hs.2.2 132 1 _ rfl) ?_
          refine hf_iload dX7_reckon_189 rfl ?_
          refine hf_iconst (v := 1) dX7_reckon_191 (by decide) ?_
          refine hf_isub dX7_reckon_192 ?_
          refine hf_iald dX7_reckon_193 (hs.2.1 134 _ rfl) (hf_lin hs 134 rfl) h.1 ?_
          replace h := h.2
          refine hf_if_eq (tgt := 201) dX7_reckon_194 (by decide) (fun hc => ?_) (fun hc => ?_)
          · replace h := h.1 hc
            refine hf_iconst (v := 0) dX7_reckon_201 (by decide) ?_
            refine hf_istore (l2 := [some (.ref 132), some (.ref 124), none, none, some (.int x4), some (.int x5), some (.int x6), some (.int (I 125 x6.toNatClampNeg)), some (.int (I 125 (((x6 + 1)).toNatClampNeg))), some (.int 0), none]) dX7_reckon_202 (by decide) rfl ?_
            refine hf_iload dX7_reckon_204 rfl ?_
            refine hf_bipush (v := 10) dX7_reckon_206 (by decide) ?_
            refine hf_icmp_ne (tgt := 233) dX7_reckon_208 (by decide) (fun hc => ?_) (fun hc => ?_)
            · replace h := h.1 hc
              refine hf_iload dX7_reckon_233 rfl ?_
              refine hf_iload dX7_reckon_235 rfl ?_
              refine hf_bipush (v := 11) dX7_reckon_237 (by decide) ?_
              refine hf_icmp_ne (tgt := 246) dX7_reckon_239 (by decide) (fun hc => ?_) (fun hc => ?_)
              · replace h := h.1 hc
                refine hf_iconst (v := 0) dX7_reckon_246 (by decide) ?_
                refine hf_icmp_ne (tgt := 264) dX7_reckon_247 (by decide) (fun hc => absurd (show ¬ (0 : Int32) = (0 : Int32) from hc) (by decide)) (fun _ => ?_)
                refine hf_iload dX7_reckon_250 rfl ?_
                refine hf_iconst (v := 0) dX7_reckon_252 (by decide) ?_
                refine hf_iload dX7_reckon_253 rfl ?_
                refine hf_mmax dX7_reckon_255 hw514 (Nat.le_of_ble_eq_true rfl) ?_
                refine hf_iadd dX7_reckon_258 ?_
                refine hf_istore (l2 := [some (.ref 132), some (.ref 124), none, none, some (.int x4), some (.int x5), some (.int (x6 + (if 0 < (I 125 (((x6 + 1)).toNatClampNeg)) then (I 125 (((x6 + 1)).toNatClampNeg)) else 0))), some (.int (I 125 x6.toNatClampNeg)), some (.int (I 125 (((x6 + 1)).toNatClampNeg))), some (.int 0), none]) dX7_reckon_259 (by decide) rfl ?_
                refine hf_goto (tgt := 267) dX7_reckon_261 (by decide) ?_
                refine hf_iinc (v := ((x6 + (if 0 < (I 125 (((x6 + 1)).toNatClampNeg)) then (I 125 (((x6 + 1)).toNatClampNeg)) else 0)) + 2)) (l2 := [some (.ref 132), some (.ref 124), none, none, some (.int x4), some (.int x5), some (.int ((x6 + (if 0 < (I 125 (((x6 + 1)).toNatClampNeg)) then (I 125 (((x6 + 1)).toNatClampNeg)) else 0)) + 2)), some (.int (I 125 x6.toNatClampNeg)), some (.int (I 125 (((x6 + 1)).toNatClampNeg))), some (.int 0), none]) dX7_reckon_267 (by decide) rfl rfl rfl ?_
                refine hf_goto (tgt := 20) dX7_reckon_270 (by decide) ?_
                refine hf_drop (l' := [some (.ref 132), some (.ref 124), none, none, some (.int x4), some (.int x5), some (.int ((x6 + (if 0 < (I 125 (((x6 + 1)).toNatClampNeg)) then (I 125 (((x6 + 1)).toNatClampNeg)) else 0)) + 2)), none, none, none, none]) (by simp [hf_sub]) ?_
                exact h
              · replace h := h.2 hc
                refine hf_iconst (v := 1) dX7_reckon_242 (by decide) ?_
                refine hf_goto (tgt := 247) dX7_reckon_243 (by decide) ?_
                refine hf_icmp_ne (tgt := 264) dX7_reckon_247 (by decide) (fun _ => ?_) (fun hc => absurd (show (0 : Int32) = (1 : Int32) from hc) (by decide))
                refine hf_iinc (v := (x4 + (-1))) (l2 := [some (.ref 132), some (.ref 124), none, none, some (.int (x4 + (-1))), some (.int x5), some (.int x6), some (.int (I 125 x6.toNatClampNeg)), some (.int (I 125 (((x6 + 1)).toNatClampNeg))), some (.int 0), none]) dX7_reckon_264 (by decide) rfl rfl rfl ?_
                refine hf_iinc (v := (x6 + 2)) (l2 := [some (.ref 132), some (.ref 124), none, none, some (.int (x4 + (-1))), some (.int x5), some (.int (x6 + 2)), some (.int (I 125 x6.toNatClampNeg)), some (.int (I 125 (((x6 + 1)).toNatClampNeg))), some (.int 0), none]) dX7_reckon_267 (by decide) rfl rfl rfl ?_
                refine hf_goto (tgt := 20) dX7_reckon_270 (by decide) ?_
                refine hf_drop (l' := [some (.ref 132), some (.ref 124), none, none, some (.int (x4 + (-1))), some (.int x5), some (.int (x6 + 2)), none, none, none, none]) (by simp [hf_sub]) ?_
                exact h
            · replace h := h.2 hc
              refine hf_aload_n dX7_reckon_211 rfl rfl ?_
              refine hf_getr (b := 134) (c := 7) (j := 1) dX7_reckon_212 (hs.2.1 132 _ rfl) (hf_lin hs 132 rfl) (by decide) (by decide) hw254 rfl (hs.2.2 132 1 _ rfl) ?_
              refine hf_iload dX7_reckon_215 rfl ?_
              refine hf_iconst (v := 1) dX7_reckon_217 (by decide) ?_
              refine hf_isub dX7_reckon_218 ?_
              refine hf_iload dX7_reckon_219 rfl ?_
              refine hf_if_eq (tgt := 228) dX7_reckon_221 (by decide) (fun _ => ?_) (fun hc => absurd (show (0 : Int32) = (0 : Int32) by decide) hc)
              refine hf_iconst (v := 1) dX7_reckon_228 (by decide) ?_
              refine hf_iast dX7_reckon_229 (hs.2.1 134 _ rfl) (hf_lin hs 134 rfl) h.1 ?_
              replace h := h.2
              refine hf_goto (tgt := 267) dX7_reckon_230 (by decide) ?_
              refine hf_iinc (v := (x6 + 2)) (l2 := [some (.ref 132), some (.ref 124), none, none, some (.int x4), some (.int x5), some (.int (x6 + 2)), some (.int (I 125 x6.toNatClampNeg)), some (.int (I 125 (((x6 + 1)).toNatClampNeg))), some (.int 0), none]) dX7_reckon_267 (by decide) rfl rfl rfl ?_
              refine hf_goto (tgt := 20) dX7_reckon_270 (by decide) ?_
              refine hf_drop (l' := [some (.ref 132), some (.ref 124), none, none, some (.int x4), some (.int x5), some (.int (x6 + 2)), none, none, none, none]) (by simp [hf_sub]) ?_
              exact h
          · replace h := h.2 hc
            refine hf_iconst (v := 1) dX7_reckon_197 (by decide) ?_
            refine hf_goto (tgt := 202) dX7_reckon_198 (by decide) ?_
            refine hf_istore (l2 := [some (.ref 132), some (.ref 124), none, none, some (.int x4), some (.int x5), some (.int x6), some (.int (I 125 x6.toNatClampNeg)), some (.int (I 125 (((x6 + 1)).toNatClampNeg))), some (.int 1), none]) dX7_reckon_202 (by decide) rfl ?_
            refine hf_iload dX7_reckon_204 rfl ?_
            refine hf_bipush (v := 10) dX7_reckon_206 (by decide) ?_
            refine hf_icmp_ne (tgt := 233) dX7_reckon_208 (by decide) (fun hc => ?_) (fun hc => ?_)
            · replace h := h.1 hc
              refine hf_iload dX7_reckon_233 rfl ?_
              refine hf_iload dX7_reckon_235 rfl ?_
              refine hf_bipush (v := 11) dX7_reckon_237 (by decide) ?_
              refine hf_icmp_ne (tgt := 246) dX7_reckon_239 (by decide) (fun hc => ?_) (fun hc => ?_)
              · replace h := h.1 hc
                refine hf_iconst (v := 0) dX7_reckon_246 (by decide) ?_
                refine hf_icmp_ne (tgt := 264) dX7_reckon_247 (by decide) (fun _ => ?_) (fun hc => absurd (show (1 : Int32) = (0 : Int32) from hc) (by decide))
                refine hf_iinc (v := (x4 + (-1))) (l2 := [some (.ref 132), some (.ref 124), none, none, some (.int (x4 + (-1))), some (.int x5), some (.int x6), some (.int (I 125 x6.toNatClampNeg)), some (.int (I 125 (((x6 + 1)).toNatClampNeg))), some (.int 1), none]) dX7_reckon_264 (by decide) rfl rfl rfl ?_
                refine hf_iinc (v := (x6 + 2)) (l2 := [some (.ref 132), some (.ref 124), none, none, some (.int (x4 + (-1))), some (.int x5), some (.int (x6 + 2)), some (.int (I 125 x6.toNatClampNeg)), some (.int (I 125 (((x6 + 1)).toNatClampNeg))), some (.int 1), none]) dX7_reckon_267 (by decide) rfl rfl rfl ?_
                refine hf_goto (tgt := 20) dX7_reckon_270 (by decide) ?_
                refine hf_drop (l' := [some (.ref 132), some (.ref 124), none, none, some (.int (x4 + (-1))), some (.int x5), some (.int (x6 + 2)), none, none, none, none]) (by simp [hf_sub]) ?_
                exact h
              · replace h := h.2 hc
                refine hf_iconst (v := 1) dX7_reckon_242 (by decide) ?_
                refine hf_goto (tgt := 247) dX7_reckon_243 (by decide) ?_
                refine hf_icmp_ne (tgt := 264) dX7_reckon_247 (by decide) (fun hc => absurd (show ¬ (1 : Int32) = (1 : Int32) from hc) (by decide)) (fun _ => ?_)
                refine hf_iload dX7_reckon_250 rfl ?_
                refine hf_iconst (v := 0) dX7_reckon_252 (by decide) ?_
                refine hf_iload dX7_reckon_253 rfl ?_
                refine hf_mmax dX7_reckon_255 hw514 (Nat.le_of_ble_eq_true rfl) ?_
                refine hf_iadd dX7_reckon_258 ?_
                refine hf_istore (l2 := [some (.ref 132), some (.ref 124), none, none, some (.int x4), some (.int x5), some (.int (x6 + (if 0 < (I 125 (((x6 + 1)).toNatClampNeg)) then (I 125 (((x6 + 1)).toNatClampNeg)) else 0))), some (.int (I 125 x6.toNatClampNeg)), some (.int (I 125 (((x6 + 1)).toNatClampNeg))), some (.int 1), none]) dX7_reckon_259 (by decide) rfl ?_
                refine hf_goto (tgt := 267) dX7_reckon_261 (by decide) ?_
                refine hf_iinc (v := ((x6 + (if 0 < (I 125 (((x6 + 1)).toNatClampNeg)) then (I 125 (((x6 + 1)).toNatClampNeg)) else 0)) + 2)) (l2 := [some (.ref 132), some (.ref 124), none, none, some (.int x4), some (.int x5), some (.int ((x6 + (if 0 < (I 125 (((x6 + 1)).toNatClampNeg)) then (I 125 (((x6 + 1)).toNatClampNeg)) else 0)) + 2)), some (.int (I 125 x6.toNatClampNeg)), some (.int (I 125 (((x6 + 1)).toNatClampNeg))), some (.int 1), none]) dX7_reckon_267 (by decide) rfl rfl rfl ?_
                refine hf_goto (tgt := 20) dX7_reckon_270 (by decide) ?_
                refine hf_drop (l' := [some (.ref 132), some (.ref 124), none, none, some (.int x4), some (.int x5), some (.int ((x6 + (if 0 < (I 125 (((x6 + 1)).toNatClampNeg)) then (I 125 (((x6 + 1)).toNatClampNeg)) else 0)) + 2)), none, none, none, none]) (by simp [hf_sub]) ?_
                exact h
            · replace h := h.2 hc
              refine hf_aload_n dX7_reckon_211 rfl rfl ?_
              refine hf_getr (b := 134) (c := 7) (j := 1) dX7_reckon_212 (hs.2.1 132 _ rfl) (hf_lin hs 132 rfl) (by decide) (by decide) hw254 rfl (hs.2.2 132 1 _ rfl) ?_
              refine hf_iload dX7_reckon_215 rfl ?_
              refine hf_iconst (v := 1) dX7_reckon_217 (by decide) ?_
              refine hf_isub dX7_reckon_218 ?_
              refine hf_iload dX7_reckon_219 rfl ?_
              refine hf_if_eq (tgt := 228) dX7_reckon_221 (by decide) (fun hc => absurd (show (1 : Int32) = (0 : Int32) from hc) (by decide)) (fun _ => ?_)
              refine hf_iconst (v := 0) dX7_reckon_224 (by decide) ?_
              refine hf_goto (tgt := 229) dX7_reckon_225 (by decide) ?_
              refine hf_iast dX7_reckon_229 (hs.2.1 134 _ rfl) (hf_lin hs 134 rfl) h.1 ?_
              replace h := h.2
              refine hf_goto (tgt := 267) dX7_reckon_230 (by decide) ?_
              refine hf_iinc (v := (x6 + 2)) (l2 := [some (.ref 132), some (.ref 124), none, none, some (.int x4), some (.int x5), some (.int (x6 + 2)), some (.int (I 125 x6.toNatClampNeg)), some (.int (I 125 (((x6 + 1)).toNatClampNeg))), some (.int 1), none]) dX7_reckon_267 (by decide) rfl rfl rfl ?_
              refine hf_goto (tgt := 20) dX7_reckon_270 (by decide) ?_
              refine hf_drop (l' := [some (.ref 132), some (.ref 124), none, none, some (.int x4), some (.int x5), some (.int (x6 + 2)), none, none, none, none]) (by simp [hf_sub]) ?_
              exact h
        · replace h := h.2 hc
          refine hf_iconst (v := 0) dX7_reckon_183 (by decide) ?_
          refine hf_ireturn dX7_reckon_184 rfl (by decide) ?_
          exact h
      · replace h := h.2 hc
        refine hf_iload dX7_reckon_104 rfl ?_
        refine hf_iconst (v := 2) dX7_reckon_106 (by decide) ?_
        refine hf_icmp_ge (tgt := 112) dX7_reckon_107 (by decide) (fun hc => ?_) (fun hc => ?_)
        · replace h := h.1 hc
          refine hf_iload dX7_reckon_112 rfl ?_
          refine hf_aload_n dX7_reckon_114 rfl rfl ?_
          refine hf_getr (b := 134) (c := 7) (j := 1) dX7_reckon_115 (hs.2.1 132 _ rfl) (hf_lin hs 132 rfl) (by decide) (by decide) hw254 rfl (hs.2.2 132 1 _ rfl) ?_
          refine hf_iload dX7_reckon_118 rfl ?_
          refine hf_iconst (v := 2) dX7_reckon_120 (by decide) ?_
          refine hf_isub dX7_reckon_121 ?_
          refine hf_iald dX7_reckon_122 (hs.2.1 134 _ rfl) (hf_lin hs 134 rfl) h.1 ?_
          replace h := h.2
          refine hf_i2l dX7_reckon_123 ?_
          refine hf_aload_n dX7_reckon_124 rfl rfl ?_
          refine hf_getr (b := 134) (c := 7) (j := 1) dX7_reckon_125 (hs.2.1 132 _ rfl) (hf_lin hs 132 rfl) (by decide) (by decide) hw254 rfl (hs.2.2 132 1 _ rfl) ?_
          refine hf_iload dX7_reckon_128 rfl ?_
          refine hf_iconst (v := 1) dX7_reckon_130 (by decide) ?_
          refine hf_isub dX7_reckon_131 ?_
          refine hf_iald dX7_reckon_132 (hs.2.1 134 _ rfl) (hf_lin hs 134 rfl) h.1 ?_
          replace h := h.2
          refine hf_i2l dX7_reckon_133 ?_
          exact hf_callS (as := [.int (I 125 x6.toNatClampNeg), .long ((I 134 (((x4 - 2)).toNatClampNeg)).toInt64), .long ((I 134 (((x4 - 1)).toNatClampNeg)).toInt64)]) ok_X7_join dX7_reckon_134 hw518 hw519 rfl (Nat.le_of_ble_eq_true rfl) rfl (Nat.le_of_ble_eq_true rfl) (Nat.zero_le _) (Nat.zero_le _) (hf_mono (fun r M q => hf_drop (l' := [some (.ref 132), some (.ref 124), none, none, some (.int x4), some (.int x5), some (.int x6), none, none, none, none]) (by simp [hf_sub]) q) h)
        · replace h := h.2 hc
          refine hf_iconst (v := 0) dX7_reckon_110 (by decide) ?_
          refine hf_ireturn dX7_reckon_111 rfl (by decide) ?_
          exact h
    · replace h := h.2 hc
      refine hf_iload dX7_reckon_55 rfl ?_
      refine hf_aload_n dX7_reckon_57 rfl rfl ?_
      refine hf_getr (b := 134) (c := 7) (j := 1) dX7_reckon_58 (hs.2.1 132 _ rfl) (hf_lin hs 132 rfl) (by decide) (by decide) hw254 rfl (hs.2.2 132 1 _ rfl) ?_
      refine hf_alen dX7_reckon_61 (hs.2.1 134 _ rfl) (by decide) (hf_lin hs 134 rfl) ?_
      refine hf_icmp_lt (tgt := 67) dX7_reckon_62 (by decide) (fun hc => ?_) (fun hc => ?_)
      · replace h := h.1 hc
        refine hf_aload_n dX7_reckon_67 rfl rfl ?_
        refine hf_getr (b := 134) (c := 7) (j := 1) dX7_reckon_68 (hs.2.1 132 _ rfl) (hf_lin hs 132 rfl) (by decide) (by decide) hw254 rfl (hs.2.2 132 1 _ rfl) ?_
        refine hf_iload dX7_reckon_71 rfl ?_
        refine hf_iload dX7_reckon_73 rfl ?_
        refine hf_iconst (v := 1) dX7_reckon_75 (by decide) ?_
        refine hf_icmp_ne (tgt := 88) dX7_reckon_76 (by decide) (fun hc => ?_) (fun hc => ?_)
        · replace h := h.1 hc
          refine hf_iload dX7_reckon_88 rfl ?_
          refine hf_iast dX7_reckon_90 (hs.2.1 134 _ rfl) (hf_lin hs 134 rfl) h.1 ?_
          replace h := h.2
          refine hf_iinc (v := (x4 + 1)) (l2 := [some (.ref 132), some (.ref 124), none, none, some (.int (x4 + 1)), some (.int x5), some (.int x6), some (.int (I 125 x6.toNatClampNeg)), some (.int (I 125 (((x6 + 1)).toNatClampNeg))), none, none]) dX7_reckon_91 (by decide) rfl rfl rfl ?_
          refine hf_goto (tgt := 267) dX7_reckon_94 (by decide) ?_
          refine hf_iinc (v := (x6 + 2)) (l2 := [some (.ref 132), some (.ref 124), none, none, some (.int (x4 + 1)), some (.int x5), some (.int (x6 + 2)), some (.int (I 125 x6.toNatClampNeg)), some (.int (I 125 (((x6 + 1)).toNatClampNeg))), none, none]) dX7_reckon_267 (by decide) rfl rfl rfl ?_
          refine hf_goto (tgt := 20) dX7_reckon_270 (by decide) ?_
          refine hf_drop (l' := [some (.ref 132), some (.ref 124), none, none, some (.int (x4 + 1)), some (.int x5), some (.int (x6 + 2)), none, none, none, none]) (by simp [hf_sub]) ?_
          exact h
        · replace h := h.2 hc
          refine hf_aload_n dX7_reckon_79 rfl rfl ?_
          refine hf_iload dX7_reckon_80 rfl ?_
          refine hf_callV (c := 7) (as := [.int (I 125 (((x6 + 1)).toNatClampNeg))]) ok_X7_factAt dX7_reckon_82 hw515 hw516 hw1561 (hs.2.1 132 _ rfl) (by decide) (hf_lin hs 132 rfl) rfl (Nat.le_of_ble_eq_true rfl) rfl (Nat.le_of_ble_eq_true rfl) (Nat.zero_le _) (Nat.zero_le _) ?_
          show hf_G X Y_X7_factAt d _ _ 0 [some (.ref 132), some (.int (I 125 (((x6 + 1)).toNatClampNeg)))] [] (t, T, I, L, P) _
          refine hf_iload_n dX7_factAt_0 rfl rfl ?_
          refine hf_if_lt (tgt := 19) dX7_factAt_1 (by decide) (fun hc => ?_) (fun hc => ?_)
          · replace h := h.1 hc
            refine hf_iconst (v := (-1)) dX7_factAt_19 (by decide) ?_
            refine hf_ireturn dX7_factAt_20 rfl rfl ?_
            show hf_G X Y_X7_reckon (d + 1) _ _ 85 [some (.ref 132), some (.ref 124), none, none, some (.int x4), some (.int x5), some (.int x6), some (.int (I 125 x6.toNatClampNeg)), some (.int (I 125 (((x6 + 1)).toNatClampNeg))), none, none] [.int (-1), .int x4, .ref 134] (t, T, I, L, P) _
            refine hf_goto (tgt := 90) dX7_reckon_85 (by decide) ?_
            refine hf_iast dX7_reckon_90 (hs.2.1 134 _ rfl) (hf_lin hs 134 rfl) h.1 ?_
            replace h := h.2
            refine hf_iinc (v := (x4 + 1)) (l2 := [some (.ref 132), some (.ref 124), none, none, some (.int (x4 + 1)), some (.int x5), some (.int x6), some (.int (I 125 x6.toNatClampNeg)), some (.int (I 125 (((x6 + 1)).toNatClampNeg))), none, none]) dX7_reckon_91 (by decide) rfl rfl rfl ?_
            refine hf_goto (tgt := 267) dX7_reckon_94 (by decide) ?_
            refine hf_iinc (v := (x6 + 2)) (l2 := [some (.ref 132), some (.ref 124), none, none, some (.int (x4 + 1)), some (.int x5), some (.int (x6 + 2)), some (.int (I 125 x6.toNatClampNeg)), some (.int (I 125 (((x6 + 1)).toNatClampNeg))), none, none]) dX7_reckon_267 (by decide) rfl rfl rfl ?_
            refine hf_goto (tgt := 20) dX7_reckon_270 (by decide) ?_
            refine hf_drop (l' := [some (.ref 132), some (.ref 124), none, none, some (.int (x4 + 1)), some (.int x5), some (.int (x6 + 2)), none, none, none, none]) (by simp [hf_sub]) ?_
            exact h
          · replace h := h.2 hc
            refine hf_iload_n dX7_factAt_4 rfl rfl ?_
            refine hf_bipush (v := 37) dX7_factAt_5 (by decide) ?_
            refine hf_icmp_ge (tgt := 19) dX7_factAt_7 (by decide) (fun hc => ?_) (fun hc => ?_)
            · replace h := h.1 hc
              refine hf_iconst (v := (-1)) dX7_factAt_19 (by decide) ?_
              refine hf_ireturn dX7_factAt_20 rfl rfl ?_
              show hf_G X Y_X7_reckon (d + 1) _ _ 85 [some (.ref 132), some (.ref 124), none, none, some (.int x4), some (.int x5), some (.int x6), some (.int (I 125 x6.toNatClampNeg)), some (.int (I 125 (((x6 + 1)).toNatClampNeg))), none, none] [.int (-1), .int x4, .ref 134] (t, T, I, L, P) _
              refine hf_goto (tgt := 90) dX7_reckon_85 (by decide) ?_
              refine hf_iast dX7_reckon_90 (hs.2.1 134 _ rfl) (hf_lin hs 134 rfl) h.1 ?_
              replace h := h.2
              refine hf_iinc (v := (x4 + 1)) (l2 := [some (.ref 132), some (.ref 124), none, none, some (.int (x4 + 1)), some (.int x5), some (.int x6), some (.int (I 125 x6.toNatClampNeg)), some (.int (I 125 (((x6 + 1)).toNatClampNeg))), none, none]) dX7_reckon_91 (by decide) rfl rfl rfl ?_
              refine hf_goto (tgt := 267) dX7_reckon_94 (by decide) ?_
              refine hf_iinc (v := (x6 + 2)) (l2 := [some (.ref 132), some (.ref 124), none, none, some (.int (x4 + 1)), some (.int x5), some (.int (x6 + 2)), some (.int (I 125 x6.toNatClampNeg)), some (.int (I 125 (((x6 + 1)).toNatClampNeg))), none, none]) dX7_reckon_267 (by decide) rfl rfl rfl ?_
              refine hf_goto (tgt := 20) dX7_reckon_270 (by decide) ?_
              refine hf_drop (l' := [some (.ref 132), some (.ref 124), none, none, some (.int (x4 + 1)), some (.int x5), some (.int (x6 + 2)), none, none, none, none]) (by simp [hf_sub]) ?_
              exact h
            · replace h := h.2 hc
              refine hf_aload_n dX7_factAt_10 rfl rfl ?_
              refine hf_getr (b := 133) (c := 7) (j := 0) dX7_factAt_11 (hs.2.1 132 _ rfl) (hf_lin hs 132 rfl) (by decide) (by decide) hw251 rfl (hs.2.2 132 0 _ rfl) ?_
              refine hf_iload_n dX7_factAt_14 rfl rfl ?_
              refine hf_iald dX7_factAt_15 (hs.2.1 133 _ rfl) (hf_lin hs 133 rfl) h.1 ?_
              replace h := h.2
              refine hf_goto (tgt := 20) dX7_factAt_16 (by decide) ?_
              refine hf_ireturn dX7_factAt_20 rfl rfl ?_
              show hf_G X Y_X7_reckon (d + 1) _ _ 85 [some (.ref 132), some (.ref 124), none, none, some (.int x4), some (.int x5), some (.int x6), some (.int (I 125 x6.toNatClampNeg)), some (.int (I 125 (((x6 + 1)).toNatClampNeg))), none, none] [.int (I 133 (((I 125 (((x6 + 1)).toNatClampNeg))).toNatClampNeg)), .int x4, .ref 134] (t, T, I, L, P) _
              refine hf_goto (tgt := 90) dX7_reckon_85 (by decide) ?_
              refine hf_iast dX7_reckon_90 (hs.2.1 134 _ rfl) (hf_lin hs 134 rfl) h.1 ?_
              replace h := h.2
              refine hf_iinc (v := (x4 + 1)) (l2 := [some (.ref 132), some (.ref 124), none, none, some (.int (x4 + 1)), some (.int x5), some (.int x6), some (.int (I 125 x6.toNatClampNeg)), some (.int (I 125 (((x6 + 1)).toNatClampNeg))), none, none]) dX7_reckon_91 (by decide) rfl rfl rfl ?_
              refine hf_goto (tgt := 267) dX7_reckon_94 (by decide) ?_
              refine hf_iinc (v := (x6 + 2)) (l2 := [some (.ref 132), some (.ref 124), none, none, some (.int (x4 + 1)), some (.int x5), some (.int (x6 + 2)), some (.int (I 125 x6.toNatClampNeg)), some (.int (I 125 (((x6 + 1)).toNatClampNeg))), none, none]) dX7_reckon_267 (by decide) rfl rfl rfl ?_
              refine hf_goto (tgt := 20) dX7_reckon_270 (by decide) ?_
              refine hf_drop (l' := [some (.ref 132), some (.ref 124), none, none, some (.int (x4 + 1)), some (.int x5), some (.int (x6 + 2)), none, none, none, none]) (by simp [hf_sub]) ?_
              exact h
      · replace h := h.2 hc
        refine hf_iconst (v := 0) dX7_reckon_65 (by decide) ?_
        refine hf_ireturn dX7_reckon_66 rfl (by decide) ?_
        exact h

set_option maxHeartbeats 4000000 in
theorem w_X7_reckon_137 {X : hf_X} {d k n t : Nat} {T : hf_T} {I : hf_I} {L : hf_L} {P : hf_P} {Q : Option Value → hf_M → Prop} {x4 : Int32} {x5 : Int32} {x6 : Int32} {s0 : Int64} (hs : hf_Lay t T P) (h : (0 < (lg_cmp s0 1000000000) → Q (some (.int 0)) (t, T, I, L, P)) ∧ (¬ (0 < (lg_cmp s0 1000000000)) → (0 ≤ (lg_cmp s0 (-1000000000)) → vp_in ((x4 + (-1)) - 1) 52 ∧ (hf_G X Y_X7_reckon d k n 20 [some (.ref 132), some (.ref 124), none, none, some (.int (x4 + (-1))), some (.int x5), some (.int (x6 + 2)), none, none, none, none] [] (t, T, (hf_up I 134 ((((x4 + (-1)) - 1)).toNatClampNeg) s0.toInt32), L, P) Q)) ∧ (¬ (0 ≤ (lg_cmp s0 (-1000000000))) → Q (some (.int 0)) (t, T, I, L, P)))) : hf_G X Y_X7_reckon d k n 137 [some (.ref 132), some (.ref 124), none, none, some (.int x4), some (.int x5), some (.int x6), none, none, none, none] [.long s0] (t, T, I, L, P) Q := by
  refine hf_lstore (l2 := [some (.ref 132), some (.ref 124), none, none, some (.int x4), some (.int x5), some (.int x6), none, none, some (.long s0), none]) dX7_reckon_137 (by decide) rfl ?_
  refine hf_lload dX7_reckon_139 rfl ?_
  refine hf_ldc2 (v := 1000000000) dX7_reckon_141 hw522 ?_
  refine hf_lcmp dX7_reckon_144 ?_
  refine hf_if_gt (tgt := 157) dX7_reckon_145 (by decide) (fun hc => ?_) (fun hc => ?_)
  · replace h := h.1 hc
    refine hf_iconst (v := 0) dX7_reckon_157 (by decide) ?_
    refine hf_ireturn dX7_reckon_158 rfl (by decide) ?_
    exact h
  · replace h := h.2 hc
    refine hf_lload dX7_reckon_148 rfl ?_
    refine hf_ldc2 (v := (-1000000000)) dX7_reckon_150 hw523 ?_
    refine hf_lcmp dX7_reckon_153 ?_
    refine hf_if_ge (tgt := 159) dX7_reckon_154 (by decide) (fun hc => ?_) (fun hc => ?_)
    · replace h := h.1 hc
      refine hf_iinc (v := (x4 + (-1))) (l2 := [some (.ref 132), some (.ref 124), none, none, some (.int (x4 + (-1))), some (.int x5), some (.int x6), none, none, some (.long s0), none]) dX7_reckon_159 (by decide) rfl rfl rfl ?_
      refine hf_aload_n dX7_reckon_162 rfl rfl ?_
      refine hf_getr (b := 134) (c := 7) (j := 1) dX7_reckon_163 (hs.2.1 132 _ rfl) (hf_lin hs 132 rfl) (by decide) (by decide) hw254 rfl (hs.2.2 132 1 _ rfl) ?_
      refine hf_iload dX7_reckon_166 rfl ?_
      refine hf_iconst (v := 1) dX7_reckon_168 (by decide) ?_
      refine hf_isub dX7_reckon_169 ?_
      refine hf_lload dX7_reckon_170 rfl ?_
      refine hf_l2i dX7_reckon_172 ?_
      refine hf_iast dX7_reckon_173 (hs.2.1 134 _ rfl) (hf_lin hs 134 rfl) h.1 ?_
      replace h := h.2
      refine hf_goto (tgt := 267) dX7_reckon_174 (by decide) ?_
      refine hf_iinc (v := (x6 + 2)) (l2 := [some (.ref 132), some (.ref 124), none, none, some (.int (x4 + (-1))), some (.int x5), some (.int (x6 + 2)), none, none, some (.long s0), none]) dX7_reckon_267 (by decide) rfl rfl rfl ?_
      refine hf_goto (tgt := 20) dX7_reckon_270 (by decide) ?_
      refine hf_drop (l' := [some (.ref 132), some (.ref 124), none, none, some (.int (x4 + (-1))), some (.int x5), some (.int (x6 + 2)), none, none, none, none]) (by simp [hf_sub]) ?_
      exact h
    · replace h := h.2 hc
      refine hf_iconst (v := 0) dX7_reckon_157 (by decide) ?_
      refine hf_ireturn dX7_reckon_158 rfl (by decide) ?_
      exact h

set_option maxHeartbeats 4000000 in
theorem w_X7_factAt_0 {X : hf_X} {d k n t : Nat} {T : hf_T} {I : hf_I} {L : hf_L} {P : hf_P} {Q : Option Value → hf_M → Prop} {x1 : Int32} (hs : hf_Lay t T P) (h : (x1 < 0 → Q (some (.int (-1))) (t, T, I, L, P)) ∧ (¬ (x1 < 0) → (37 ≤ x1 → Q (some (.int (-1))) (t, T, I, L, P)) ∧ (¬ (37 ≤ x1) → vp_in x1 37 ∧ (Q (some (.int (I 133 x1.toNatClampNeg))) (t, T, I, L, P))))) : hf_G X Y_X7_factAt d k n 0 (hf_en [.ref 132, .int x1] 2) [] (t, T, I, L, P) Q := by
  show hf_G X Y_X7_factAt d k n 0 [some (.ref 132), some (.int x1)] [] (t, T, I, L, P) Q
  refine hf_iload_n dX7_factAt_0 rfl rfl ?_
  refine hf_if_lt (tgt := 19) dX7_factAt_1 (by decide) (fun hc => ?_) (fun hc => ?_)
  · replace h := h.1 hc
    refine hf_iconst (v := (-1)) dX7_factAt_19 (by decide) ?_
    refine hf_ireturn dX7_factAt_20 rfl rfl ?_
    exact h
  · replace h := h.2 hc
    refine hf_iload_n dX7_factAt_4 rfl rfl ?_
    refine hf_bipush (v := 37) dX7_factAt_5 (by decide) ?_
    refine hf_icmp_ge (tgt := 19) dX7_factAt_7 (by decide) (fun hc => ?_) (fun hc => ?_)
    · replace h := h.1 hc
      refine hf_iconst (v := (-1)) dX7_factAt_19 (by decide) ?_
      refine hf_ireturn dX7_factAt_20 rfl rfl ?_
      exact h
    · replace h := h.2 hc
      refine hf_aload_n dX7_factAt_10 rfl rfl ?_
      refine hf_getr (b := 133) (c := 7) (j := 0) dX7_factAt_11 (hs.2.1 132 _ rfl) (hf_lin hs 132 rfl) (by decide) (by decide) hw251 rfl (hs.2.2 132 0 _ rfl) ?_
      refine hf_iload_n dX7_factAt_14 rfl rfl ?_
      refine hf_iald dX7_factAt_15 (hs.2.1 133 _ rfl) (hf_lin hs 133 rfl) h.1 ?_
      replace h := h.2
      refine hf_goto (tgt := 20) dX7_factAt_16 (by decide) ?_
      refine hf_ireturn dX7_factAt_20 rfl rfl ?_
      exact h

set_option maxHeartbeats 4000000 in
theorem w_X7_join_0 {X : hf_X} {d k n t : Nat} {T : hf_T} {I : hf_I} {L : hf_L} {P : hf_P} {Q : Option Value → hf_M → Prop} {x0 : Int32} {x1 : Int64} {x3 : Int64} (hs : hf_Lay t T P) (h : (x0 = 2 → Q (some (.long (x1 + x3))) (t, T, I, L, P)) ∧ (x0 = 3 → Q (some (.long (x1 - x3))) (t, T, I, L, P)) ∧ (x0 = 4 → Q (some (.long (x1 * x3))) (t, T, I, L, P)) ∧ (x0 = 5 → (¬ (lg_cmp x3 0) = 0 → ¬ x3 = 0 ∧ (Q (some (.long (x1 / x3))) (t, T, I, L, P))) ∧ ((lg_cmp x3 0) = 0 → Q (some (.long 1000000001)) (t, T, I, L, P))) ∧ (x0 = 6 → (¬ (lg_cmp x3 0) = 0 → ¬ x3 = 0 ∧ (Q (some (.long (x1 - x1 / x3 * x3))) (t, T, I, L, P))) ∧ ((lg_cmp x3 0) = 0 → Q (some (.long 1000000001)) (t, T, I, L, P))) ∧ (x0 = 7 → (0 ≤ (lg_cmp x1 x3) → Q (some (.long 0)) (t, T, I, L, P)) ∧ (¬ (0 ≤ (lg_cmp x1 x3)) → Q (some (.long 1)) (t, T, I, L, P))) ∧ (x0 = 8 → ((lg_cmp x1 x3) ≤ 0 → Q (some (.long 0)) (t, T, I, L, P)) ∧ (¬ ((lg_cmp x1 x3) ≤ 0) → Q (some (.long 1)) (t, T, I, L, P))) ∧ (x0.toInt < 2 ∨ 8 < x0.toInt → (¬ (lg_cmp x1 x3) = 0 → Q (some (.long 0)) (t, T, I, L, P)) ∧ ((lg_cmp x1 x3) = 0 → Q (some (.long 1)) (t, T, I, L, P)))) : hf_G X Y_X7_join d k n 0 (hf_en [.int x0, .long x1, .long x3] 5) [] (t, T, I, L, P) Q := by
  show hf_G X Y_X7_join d k n 0 [some (.int x0), some (.long x1), none, some (.long x3), none] [] (t, T, I, L, P) Q
  refine hf_iload_n dX7_join_0 rfl rfl ?_
  rcases hf_swc x0 2 6 with hq | ⟨j, hj, hq⟩
  · refine hf_tableOut (tgt := 112) dX7_join_1 (by omega) (by decide) ?_
    replace h := h.2.2.2.2.2.2.2 (by omega)
    refine hf_lload_n dX7_join_112 rfl rfl ?_
    refine hf_lload_n dX7_join_113 rfl rfl ?_
    refine hf_lcmp dX7_join_114 ?_
    refine hf_if_ne (tgt := 122) dX7_join_115 (by decide) (fun hc => ?_) (fun hc => ?_)
    · replace h := h.1 hc
      refine hf_lconst (v := 0) dX7_join_122 (by decide) ?_
      refine hf_lreturn dX7_join_123 rfl ?_
      exact h
    · replace h := h.2 hc
      refine hf_lconst (v := 1) dX7_join_118 (by decide) ?_
      refine hf_goto (tgt := 123) dX7_join_119 (by decide) ?_
      refine hf_lreturn dX7_join_123 rfl ?_
      exact h
  · match j, hj with
    | 0, _ =>
      have hx : x0 = 2 := hf_swi hq (by decide)
      refine hf_tableIn (off := 43) (tgt := 44) dX7_join_1 (by rw [hx]; decide) (by rw [hx]; decide) (by rw [hx]; rfl) (by decide) ?_
      replace h := h.1 hx
      refine hf_lload_n dX7_join_44 rfl rfl ?_
      refine hf_lload_n dX7_join_45 rfl rfl ?_
      refine hf_ladd dX7_join_46 ?_
      refine hf_lreturn dX7_join_47 rfl ?_
      exact h
    | 1, _ =>
      have hx : x0 = 3 := hf_swi hq (by decide)
      refine hf_tableIn (off := 47) (tgt := 48) dX7_join_1 (by rw [hx]; decide) (by rw [hx]; decide) (by rw [hx]; rfl) (by decide) ?_
      replace h := h.2.1 hx
      refine hf_lload_n dX7_join_48 rfl rfl ?_
      refine hf_lload_n dX7_join_49 rfl rfl ?_
      refine hf_lsub dX7_join_50 ?_
      refine hf_lreturn dX7_join_51 rfl ?_
      exact h
    | 2, _ =>
      have hx : x0 = 4 := hf_swi hq (by decide)
      refine hf_tableIn (off := 51) (tgt := 52) dX7_join_1 (by rw [hx]; decide) (by rw [hx]; decide) (by rw [hx]; rfl) (by decide) ?_
      replace h := h.2.2.1 hx
      refine hf_lload_n dX7_join_52 rfl rfl ?_
      refine hf_lload_n dX7_join_53 rfl rfl ?_
      refine hf_lmul dX7_join_54 ?_
      refine hf_lreturn dX7_join_55 rfl ?_
      exact h
    | 3, _ =>
      have hx : x0 = 5 := hf_swi hq (by decide)
      refine hf_tableIn (off := 55) (tgt := 56) dX7_join_1 (by rw [hx]; decide) (by rw [hx]; decide) (by rw [hx]; rfl) (by decide) ?_
      replace h := h.2.2.2.1 hx
      refine hf_lload_n dX7_join_56 rfl rfl ?_
      refine hf_lconst (v := 0) dX7_join_57 (by decide) ?_
      refine hf_lcmp dX7_join_58 ?_
      refine hf_if_ne (tgt := 68) dX7_join_59 (by decide) (fun hc => ?_) (fun hc => ?_)
      · replace h := h.1 hc
        refine hf_lload_n dX7_join_68 rfl rfl ?_
        refine hf_lload_n dX7_join_69 rfl rfl ?_
        refine hf_ldiv dX7_join_70 h.1 ?_
        replace h := h.2
        refine hf_lreturn dX7_join_71 rfl ?_
        exact h
      · replace h := h.2 hc
        refine hf_ldc2 (v := 1000000001) dX7_join_62 hw521 ?_
        refine hf_goto (tgt := 71) dX7_join_65 (by decide) ?_
        refine hf_lreturn dX7_join_71 rfl ?_
        exact h
    | 4, _ =>
      have hx : x0 = 6 := hf_swi hq (by decide)
      refine hf_tableIn (off := 71) (tgt := 72) dX7_join_1 (by rw [hx]; decide) (by rw [hx]; decide) (by rw [hx]; rfl) (by decide) ?_
      replace h := h.2.2.2.2.1 hx
      refine hf_lload_n dX7_join_72 rfl rfl ?_
      refine hf_lconst (v := 0) dX7_join_73 (by decide) ?_
      refine hf_lcmp dX7_join_74 ?_
      refine hf_if_ne (tgt := 84) dX7_join_75 (by decide) (fun hc => ?_) (fun hc => ?_)
      · replace h := h.1 hc
        refine hf_lload_n dX7_join_84 rfl rfl ?_
        refine hf_lload_n dX7_join_85 rfl rfl ?_
        refine hf_lrem dX7_join_86 h.1 ?_
        replace h := h.2
        refine hf_lreturn dX7_join_87 rfl ?_
        exact h
      · replace h := h.2 hc
        refine hf_ldc2 (v := 1000000001) dX7_join_78 hw521 ?_
        refine hf_goto (tgt := 87) dX7_join_81 (by decide) ?_
        refine hf_lreturn dX7_join_87 rfl ?_
        exact h
    | 5, _ =>
      have hx : x0 = 7 := hf_swi hq (by decide)
      refine hf_tableIn (off := 87) (tgt := 88) dX7_join_1 (by rw [hx]; decide) (by rw [hx]; decide) (by rw [hx]; rfl) (by decide) ?_
      replace h := h.2.2.2.2.2.1 hx
      refine hf_lload_n dX7_join_88 rfl rfl ?_
      refine hf_lload_n dX7_join_89 rfl rfl ?_
      refine hf_lcmp dX7_join_90 ?_
      refine hf_if_ge (tgt := 98) dX7_join_91 (by decide) (fun hc => ?_) (fun hc => ?_)
      · replace h := h.1 hc
        refine hf_lconst (v := 0) dX7_join_98 (by decide) ?_
        refine hf_lreturn dX7_join_99 rfl ?_
        exact h
      · replace h := h.2 hc
        refine hf_lconst (v := 1) dX7_join_94 (by decide) ?_
        refine hf_goto (tgt := 99) dX7_join_95 (by decide) ?_
        refine hf_lreturn dX7_join_99 rfl ?_
        exact h
    | 6, _ =>
      have hx : x0 = 8 := hf_swi hq (by decide)
      refine hf_tableIn (off := 99) (tgt := 100) dX7_join_1 (by rw [hx]; decide) (by rw [hx]; decide) (by rw [hx]; rfl) (by decide) ?_
      replace h := h.2.2.2.2.2.2.1 hx
      refine hf_lload_n dX7_join_100 rfl rfl ?_
      refine hf_lload_n dX7_join_101 rfl rfl ?_
      refine hf_lcmp dX7_join_102 ?_
      refine hf_if_le (tgt := 110) dX7_join_103 (by decide) (fun hc => ?_) (fun hc => ?_)
      · replace h := h.1 hc
        refine hf_lconst (v := 0) dX7_join_110 (by decide) ?_
        refine hf_lreturn dX7_join_111 rfl ?_
        exact h
      · replace h := h.2 hc
        refine hf_lconst (v := 1) dX7_join_106 (by decide) ?_
        refine hf_goto (tgt := 111) dX7_join_107 (by decide) ?_
        refine hf_lreturn dX7_join_111 rfl ?_
        exact h
    | j + 7, hj => exact absurd hj (by omega)
