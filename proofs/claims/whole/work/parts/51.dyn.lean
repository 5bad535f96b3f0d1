/-! a TEXT that stands anywhere: its cell and those of its six rows -/
def hf_Tx (t : Nat) (T : hf_T) (P : hf_P) (tx z m c0 c1 c2 c3 c4 c5 : Nat) : Prop := T tx = (9, 0) ∧ (100 ≤ tx ∧ tx < 100 + t) ∧ (P tx 0 = some c0 ∧ T c0 = (100, z) ∧ (100 ≤ c0 ∧ c0 < 100 + t)) ∧ (P tx 1 = some c1 ∧ T c1 = (100, m) ∧ (100 ≤ c1 ∧ c1 < 100 + t)) ∧ (P tx 2 = some c2 ∧ T c2 = (100, m) ∧ (100 ≤ c2 ∧ c2 < 100 + t)) ∧ (P tx 3 = some c3 ∧ T c3 = (100, m) ∧ (100 ≤ c3 ∧ c3 < 100 + t)) ∧ (P tx 4 = some c4 ∧ T c4 = (100, m) ∧ (100 ≤ c4 ∧ c4 < 100 + t)) ∧ (P tx 5 = some c5 ∧ T c5 = (100, m) ∧ (100 ≤ c5 ∧ c5 < 100 + t)) ∧ True
set_option maxHeartbeats 4000000 in
theorem w_X7_reckon_0_d {X : hf_X} {d k n t : Nat} {T : hf_T} {I : hf_I} {L : hf_L} {P : hf_P} {Q : Option Value → hf_M → Prop} {x2 : Int32} {x3 : Int32} (hs : hf_Lay t T P) {tx z m c0 c1 c2 c3 c4 c5 : Nat} (hx : hf_Tx t T P tx z m c0 c1 c2 c3 c4 c5) (h : hf_G X Y_X7_reckon (d + 1) k n 20 [some (.ref 132), some (.ref tx), none, none, some (.int 0), some (.int (if (I tx 6) < x3 then (I tx 6) else x3)), some (.int (if 0 < x2 then x2 else 0)), none, none, none, none] [] (t, T, I, L, P) Q) : hf_G X Y_X7_reckon (d + 1) k n 0 (hf_en [.ref 132, .ref tx, .int x2, .int x3] 11) [] (t, T, I, L, P) Q := by
  show hf_G X Y_X7_reckon (d + 1) k n 0 [some (.ref 132), some (.ref tx), some (.int x2), some (.int x3), none, none, none, none, none, none, none] [] (t, T, I, L, P) Q
  refine hf_iconst (v := 0) dX7_reckon_0 (by decide) ?_
  refine hf_istore (l2 := [some (.ref 132), some (.ref tx), some (.int x2), some (.int x3), some (.int 0), none, none, none, none, none, none]) dX7_reckon_1 (by decide) rfl ?_
  refine hf_iload_n dX7_reckon_3 rfl rfl ?_
  refine hf_aload_n dX7_reckon_4 rfl rfl ?_
  refine hf_geti (c := 9) (j := 6) dX7_reckon_5 hx.1 hx.2.1 (by decide) (by decide) hw212 (Or.inl rfl) ?_
  refine hf_mmin dX7_reckon_8 hw511 (Nat.le_of_ble_eq_true rfl) ?_
  refine hf_istore (l2 := [some (.ref 132), some (.ref tx), some (.int x2), some (.int x3), some (.int 0), some (.int (if (I tx 6) < x3 then (I tx 6) else x3)), none, none, none, none, none]) dX7_reckon_11 (by decide) rfl ?_
  refine hf_iconst (v := 0) dX7_reckon_13 (by decide) ?_
  refine hf_iload_n dX7_reckon_14 rfl rfl ?_
  refine hf_mmax dX7_reckon_15 hw514 (Nat.le_of_ble_eq_true rfl) ?_
  refine hf_istore (l2 := [some (.ref 132), some (.ref tx), some (.int x2), some (.int x3), some (.int 0), some (.int (if (I tx 6) < x3 then (I tx 6) else x3)), some (.int (if 0 < x2 then x2 else 0)), none, none, none, none]) dX7_reckon_18 (by decide) rfl ?_
  refine hf_drop (l' := [some (.ref 132), some (.ref tx), none, none, some (.int 0), some (.int (if (I tx 6) < x3 then (I tx 6) else x3)), some (.int (if 0 < x2 then x2 else 0)), none, none, none, none]) (by simp [hf_sub]) ?_
  exact h

set_option maxHeartbeats 4000000 in
theorem w_X7_reckon_20_d {X : hf_X} {d k n t : Nat} {T : hf_T} {I : hf_I} {L : hf_L} {P : hf_P} {Q : Option Value → hf_M → Prop} {x4 : Int32} {x5 : Int32} {x6 : Int32} (hs : hf_Lay t T P) {tx z m c0 c1 c2 c3 c4 c5 : Nat} (hx : hf_Tx t T P tx z m c0 c1 c2 c3 c4 c5) (h : (x5 ≤ (x6 + 1) → (x4 = 1 → Q (some (.int 1)) (t, T, (hf_up I 132 2 (I 134 0)), L, P)) ∧ (¬ (x4 = 1) → Q (some (.int 0)) (t, T, I, L, P))) ∧ (¬ (x5 ≤ (x6 + 1)) → vp_in x6 z ∧ (vp_in (x6 + 1) z ∧ ((1 < (I c0 x6.toNatClampNeg) → (9 < (I c0 x6.toNatClampNeg) → (1 ≤ x4 → vp_in (x4 - 1) 52 ∧ (((I 134 (((x4 - 1)).toNatClampNeg)) = 0 → (¬ (I c0 x6.toNatClampNeg) = 10 → (¬ (I c0 x6.toNatClampNeg) = 11 → hf_G X Y_X7_reckon (d + 1) k n 20 [some (.ref 132), some (.ref tx), none, none, some (.int x4), some (.int x5), some (.int ((x6 + (if 0 < (I c0 (((x6 + 1)).toNatClampNeg)) then (I c0 (((x6 + 1)).toNatClampNeg)) else 0)) + 2)), none, none, none, none] [] (t, T, I, L, P) Q) ∧ ((I c0 x6.toNatClampNeg) = 11 → hf_G X Y_X7_reckon (d + 1) k n 20 [some (.ref 132), some (.ref tx), none, none, some (.int (x4 + (-1))), some (.int x5), some (.int (x6 + 2)), none, none, none, none] [] (t, T, I, L, P) Q)) ∧ ((I c0 x6.toNatClampNeg) = 10 → vp_in (x4 - 1) 52 ∧ (hf_G X Y_X7_reckon (d + 1) k n 20 [some (.ref 132), some (.ref tx), none, none, some (.int x4), some (.int x5), some (.int (x6 + 2)), none, none, none, none] [] (t, T, (hf_up I 134 (((x4 - 1)).toNatClampNeg) 1), L, P) Q))) ∧ (¬ ((I 134 (((x4 - 1)).toNatClampNeg)) = 0) → (¬ (I c0 x6.toNatClampNeg) = 10 → (¬ (I c0 x6.toNatClampNeg) = 11 → hf_G X Y_X7_reckon (d + 1) k n 20 [some (.ref 132), some (.ref tx), none, none, some (.int (x4 + (-1))), some (.int x5), some (.int (x6 + 2)), none, none, none, none] [] (t, T, I, L, P) Q) ∧ ((I c0 x6.toNatClampNeg) = 11 → hf_G X Y_X7_reckon (d + 1) k n 20 [some (.ref 132), some (.ref tx), none, none, some (.int x4), some (.int x5), some (.int ((x6 + (if 0 < (I c0 (((x6 + 1)).toNatClampNeg)) then (I c0 (((x6 + 1)).toNatClampNeg)) else 0)) + 2)), none, none, none, none] [] (t, T, I, L, P) Q)) ∧ ((I c0 x6.toNatClampNeg) = 10 → vp_in (x4 - 1) 52 ∧ (hf_G X Y_X7_reckon (d + 1) k n 20 [some (.ref 132), some (.ref tx), none, none, some (.int x4), some (.int x5), some (.int (x6 + 2)), none, none, none, none] [] (t, T, (hf_up I 134 (((x4 - 1)).toNatClampNeg) 0), L, P) Q))))) ∧ (¬ (1 ≤ x4) → Q (some (.int 0)) (t, T, I, L, P))) ∧ (¬ (9 < (I c0 x6.toNatClampNeg)) → (2 ≤ x4 → vp_in (x4 - 2) 52 ∧ (vp_in (x4 - 1) 52 ∧ (hf_G X Y_X7_join d 0 0 0 (hf_en [.int (I c0 x6.toNatClampNeg), .long ((I 134 (((x4 - 2)).toNatClampNeg)).toInt64), .long ((I 134 (((x4 - 1)).toNatClampNeg)).toInt64)] 5) [] (t, T, I, L, P) (fun r M => hf_G X Y_X7_reckon (d + 1) k n 137 [some (.ref 132), some (.ref tx), none, none, some (.int x4), some (.int x5), some (.int x6), none, none, none, none] (r.toList ++ []) M Q)))) ∧ (¬ (2 ≤ x4) → Q (some (.int 0)) (t, T, I, L, P)))) ∧ (¬ (1 < (I c0 x6.toNatClampNeg)) → (x4 < 52 → (¬ (I c0 x6.toNatClampNeg) = 1 → vp_in x4 52 ∧ (hf_G X Y_X7_reckon (d + 1) k n 20 [some (.ref 132), some (.ref tx), none, none, some (.int (x4 + 1)), some (.int x5), some (.int (x6 + 2)), none, none, none, none] [] (t, T, (hf_up I 134 x4.toNatClampNeg (I c0 (((x6 + 1)).toNatClampNeg))), L, P) Q)) ∧ ((I c0 x6.toNatClampNeg) = 1 → ((I c0 (((x6 + 1)).toNatClampNeg)) < 0 → vp_in x4 52 ∧ (hf_G X Y_X7_reckon (d + 1) k n 20 [some (.ref 132), some (.ref tx), none, none, some (.int (x4 + 1)), some (.int x5), some (.int (x6 + 2)), none, none, none, none] [] (t, T, (hf_up I 134 x4.toNatClampNeg (-1)), L, P) Q)) ∧ (¬ ((I c0 (((x6 + 1)).toNatClampNeg)) < 0) → (37 ≤ (I c0 (((x6 + 1)).toNatClampNeg)) → vp_in x4 52 ∧ (hf_G X Y_X7_reckon (d + 1) k n 20 [some (.ref 132), some (.ref tx), none, none, some (.int (x4 + 1)), some (.int x5), some (.int (x6 + 2)), none, none, none, none] [] (t, T, (hf_up I 134 x4.toNatClampNeg (-1)), L, P) Q)) ∧ (¬ (37 ≤ (I c0 (((x6 + 1)).toNatClampNeg))) → vp_in (I c0 (((x6 + 1)).toNatClampNeg)) 37 ∧ (vp_in x4 52 ∧ (hf_G X Y_X7_reckon (d + 1) k n 20 [some (.ref 132), some (.ref tx), none, none, some (.int (x4 + 1)), some (.int x5), some (.int (x6 + 2)), none, none, none, none] [] (t, T, (hf_up I 134 x4.toNatClampNeg (I 133 (((I c0 (((x6 + 1)).toNatClampNeg))).toNatClampNeg))), L, P) Q)))))) ∧ (¬ (x4 < 52) → Q (some (.int 0)) (t, T, I, L, P))))))) : hf_G X Y_X7_reckon (d + 1) k n 20 [some (.ref 132), some (.ref tx), none, none, some (.int x4), some (.int x5), some (.int x6), none, none, none, none] [] (t, T, I, L, P) Q := by
  refine hf_iload dX7_reckon_20 rfl ?_
  refine hf_iconst (v := 1) dX7_reckon_22 (by decide) ?_
  refine hf_iadd dX7_reckon_23 ?_
  refine hf_iload dX7_reckon_24 rfl ?_
  refine hf_icmp_ge (tgt := 273) dX7_reckon_26 (by decide) (fun hc => ?_) (fun hc => ?_)
  · replace h := h.1 hc
    refine hf_iload dX7_reckon_273 rfl ?_
    refine hf_iconst (v := 1) dX7_reckon_275 (by decide) ?_
    refine hf_icmp_eq (tgt := 281) dX7_reckon_276 (by decide) (fun hc => ?_) (fun hc => ?_)
    · replace h := h.1 hc
      refine hf_aload_n dX7_reckon_281 rfl rfl ?_
      refine hf_aload_n dX7_reckon_282 rfl rfl ?_
      refine hf_getr (b := 134) (c := 7) (j := 1) dX7_reckon_283 (hs.2.1 132 _ rfl) (hf_lin hs 132 rfl) (by decide) (by decide) hw254 rfl (hs.2.2 132 1 _ rfl) ?_
      refine hf_iconst (v := 0) dX7_reckon_286 (by decide) ?_
      refine hf_iald_k (j := 0) (by decide) dX7_reckon_287 (hs.2.1 134 _ rfl) (hf_lin hs 134 rfl) (hf_vin (by decide)) ?_
      refine hf_puti (c := 7) (j := 2) dX7_reckon_288 (hs.2.1 132 _ rfl) (hf_lin hs 132 rfl) (by decide) (by decide) hw255 rfl rfl ?_
      refine hf_iconst (v := 1) dX7_reckon_291 (by decide) ?_
      refine hf_ireturn dX7_reckon_292 rfl (by decide) ?_
      exact h
    · replace h := h.2 hc
      refine hf_iconst (v := 0) dX7_reckon_279 (by decide) ?_
      refine hf_ireturn dX7_reckon_280 rfl (by decide) ?_
      exact h
  · replace h := h.2 hc
    refine hf_aload_n dX7_reckon_29 rfl rfl ?_
    refine hf_getr (b := c0) (c := 9) (j := 0) dX7_reckon_30 hx.1 hx.2.1 (by decide) (by decide) hw196 rfl hx.2.2.1.1 ?_
    refine hf_iload dX7_reckon_33 rfl ?_
    refine hf_iald dX7_reckon_35 hx.2.2.1.2.1 hx.2.2.1.2.2 h.1 ?_
    replace h := h.2
    refine hf_istore (l2 := [some (.ref 132), some (.ref tx), none, none, some (.int x4), some (.int x5), some (.int x6), some (.int (I c0 x6.toNatClampNeg)), none, none, none]) dX7_reckon_36 (by decide) rfl ?_
    refine hf_aload_n dX7_reckon_38 rfl rfl ?_
    refine hf_getr (b := c0) (c := 9) (j := 0) dX7_reckon_39 hx.1 hx.2.1 (by decide) (by decide) hw196 rfl hx.2.2.1.1 ?_
    refine hf_iload dX7_reckon_42 rfl ?_
    refine hf_iconst (v := 1) dX7_reckon_44 (by decide) ?_
    refine hf_iadd dX7_reckon_45 ?_
    refine hf_iald dX7_reckon_46 hx.2.2.1.2.1 hx.2.2.1.2.2 h.1 ?_
    replace h := h.2
    refine hf_istore (l2 := [some (.ref 132), some (.ref tx), none, none, some (.int x4), some (.int x5), some (.int x6), some (.int (I c0 x6.toNatClampNeg)), some (.int (I c0 (((x6 + 1)).toNatClampNeg))), none, none]) dX7_reckon_47 (by decide) rfl ?_
    refine hf_iload dX7_reckon_49 rfl ?_
    refine hf_iconst (v := 1) dX7_reckon_51 (by decide) ?_
    refine hf_icmp_gt (tgt := 97) dX7_reckon_52 (by decide) (fun hc => ?_) (fun hc => ?_)
    · replace h := h.1 hc
      refine hf_iload dX7_reckon_97 rfl ?_
      refine hf_bipush (v := 9) dX7_reckon_99 (by decide) ?_
      refine hf_icmp_gt (tgt := 177) dX7_reckon_101 (by decide) (fun hc => ?_) (fun hc => ?_)
      · replace h := h.1 hc
        refine hf_iload dX7_reckon_177 rfl ?_
        refine hf_iconst (v := 1) dX7_reckon_179 (by decide) ?_
        refine hf_icmp_ge (tgt := 185) dX7_reckon_180 (by decide) (fun hc => ?_) (fun hc => ?_)
        · replace h := h.1 hc
          refine hf_aload_n dX7_reckon_185 rfl rfl ?_
          refine hf_getr (b := 134) (c := 7) (j := 1) dX7_reckon_186 (hs.2.1 132 _ rfl) (hf_lin hs 132 rfl) (by decide) (by decide) hw254 rfl (hs.2.2 132 1 _ rfl) ?_
          refine hf_iload dX7_reckon_189 rfl ?_
          refine hf_iconst (v := 1) dX7_reckon_191 (by decide) ?_
          refine hf_isub dX7_reckon_192 ?_
          refine hf_iald dX7_reckon_193 (hs.2.1 134 _ rfl) (hf_lin hs 134 rfl) h.1 ?_
          replace h := h.2
          refine hf_if_eq (tgt := 201) dX7_reckon_194 (by decide) (fun hc => ?_) (fun hc => ?_)
          · replace h := h.1 hc
            refine hf_iconst (v := 0) dX7_reckon_201 (by decide) ?_
            refine hf_istore (l2 := [some (.ref 132), some (.ref tx), none, none, some (.int x4), some (.int x5), some (.int x6), some (.int (I c0 x6.toNatClampNeg)), some (.int (I c0 (((x6 + 1)).toNatClampNeg))), some (.int 0), none]) dX7_reckon_202 (by decide) rfl ?_
            refine hf_iload dX7_reckon_204 rfl ?_
            refine hf_bipush (v := 10) dX7_reckon_206 (by decide) ?_
            refine hf_icmp_ne (tgt := 233) dX7_reckon_208 (by decide) (fun hc => ?_) (fun hc => ?_)
            · replace h := h.1 hc
              refine hf_iload dX7_reckon_233 rfl ?_
              refine hf_iload dX7_reckon_235 rfl ?_
              refine hf_bipush (v := 11) dX7_reckon_237 (by decide) ?_
              refine hf_icmp_ne (tgt := 246) dX7_reckon_239 (by decide) (fun hc => ?_) (fun hc => ?_)
              · replace h := h.1 hc
                refine hf_iconst (v := 0) dX7_reckon_246 (by decide) ?_
                refine hf_icmp_ne (tgt := 264) dX7_reckon_247 (by decide) (fun hc => absurd (show ¬ (0 : Int32) = (0 : Int32) from hc) (by decide)) (fun _ => ?_)
                refine hf_iload dX7_reckon_250 rfl ?_
                refine hf_iconst (v := 0) dX7_reckon_252 (by decide) ?_
                refine hf_iload dX7_reckon_253 rfl ?_
                refine hf_mmax dX7_reckon_255 hw514 (Nat.le_of_ble_eq_true rfl) ?_
                refine hf_iadd dX7_reckon_258 ?_
                refine hf_istore (l2 := [some (.ref 132), some (.ref tx), none, none, some (.int x4), some (.int x5), some (.int (x6 + (if 0 < (I c0 (((x6 + 1)).toNatClampNeg)) then (I c0 (((x6 + 1)).toNatClampNeg)) else 0))), some (.int (I c0 x6.toNatClampNeg)), some (.int (I c0 (((x6 + 1)).toNatClampNeg))), some (.int 0), none]) dX7_reckon_259 (by decide) rfl ?_
                refine hf_goto (tgt := 267) dX7_reckon_261 (by decide) ?_
                refine hf_iinc (v := ((x6 + (if 0 < (I c0 (((x6 + 1)).toNatClampNeg)) then (I c0 (((x6 + 1)).toNatClampNeg)) else 0)) + 2)) (l2 := [some (.ref 132), some (.ref tx), none, none, some (.int x4), some (.int x5), some (.int ((x6 + (if 0 < (I c0 (((x6 + 1)).toNatClampNeg)) then (I c0 (((x6 + 1)).toNatClampNeg)) else 0)) + 2)), some (.int (I c0 x6.toNatClampNeg)), some (.int (I c0 (((x6 + 1)).toNatClampNeg))), some (.int 0), none]) dX7_reckon_267 (by decide) rfl rfl rfl ?_
                refine hf_goto (tgt := 20) dX7_reckon_270 (by decide) ?_
                refine hf_drop (l' := [some (.ref 132), some (.ref tx), none, none, some (.int x4), some (.int x5), some (.int ((x6 + (if 0 < (I c0 (((x6 + 1)).toNatClampNeg)) then (I c0 (((x6 + 1)).toNatClampNeg)) else 0)) + 2)), none, none, none, none]) (by simp [hf_sub]) ?_
                exact h
              · replace h := h.2 hc
                refine hf_iconst (v := 1) dX7_reckon_242 (by decide) ?_
                refine hf_goto (tgt := 247) dX7_reckon_243 (by decide) ?_
                refine hf_icmp_ne (tgt := 264) dX7_reckon_247 (by decide) (fun _ => ?_) (fun hc => absurd (show (0 : Int32) = (1 : Int32) from hc) (by decide))
                refine hf_iinc (v := (x4 + (-1))) (l2 := [some (.ref 132), some (.ref tx), none, none, some (.int (x4 + (-1))), some (.int x5), some (.int x6), some (.int (I c0 x6.toNatClampNeg)), some (.int (I c0 (((x6 + 1)).toNatClampNeg))), some (.int 0), none]) dX7_reckon_264 (by decide) rfl rfl rfl ?_
                refine hf_iinc (v := (x6 + 2)) (l2 := [some (.ref 132), some (.ref tx), none, none, some (.int (x4 + (-1))), some (.int x5), some (.int (x6 + 2)), some (.int (I c0 x6.toNatClampNeg)), some (.int (I c0 (((x6 + 1)).toNatClampNeg))), some (.int 0), none]) dX7_reckon_267 (by decide) rfl rfl rfl ?_
                refine hf_goto (tgt := 20) dX7_reckon_270 (by decide) ?_
                refine hf_drop (l' := [some (.ref 132), some (.ref tx), none, none, some (.int (x4 + (-1))), some (.int x5), some (.int (x6 + 2)), none, none, none, none]) (by simp [hf_sub]) ?_
                exact h
            · replace h := h.2 hc
              refine hf_aload_n dX7_reckon_211 rfl rfl ?_
              refine hf_getr (b := 134) (c := 7) (j := 1) dX7_reckon_212 (hs.2.1 132 _ rfl) (hf_lin hs 132 rfl) (by decide) (by decide) hw254 rfl (hs.2.2 132 1 _ rfl) ?_
              refine hf_iload dX7_reckon_215 rfl ?_
              refine hf_iconst (v := 1) dX7_reckon_217 (by decide) ?_
              refine hf_isub dX7_reckon_218 ?_
              refine hf_iload dX7_reckon_219 rfl ?_
              refine hf_if_eq (tgt := 228) dX7_reckon_221 (by decide) (fun _ => ?_) (fun hc => absurd (show (0 : Int32) = (0 : Int32) by decide) hc)
              refine hf_iconst (v := 1) dX7_reckon_228 (by decide) ?_
              refine hf_iast dX7_reckon_229 (hs.2.1 134 _ rfl) (hf_lin hs 134 rfl) h.1 ?_
              replace h := h.2
              refine hf_goto (tgt := 267) dX7_reckon_230 (by decide) ?_
              refine hf_iinc (v := (x6 + 2)) (l2 := [some (.ref 132), some (.ref tx), none, none, some (.int x4), some (.int x5), some (.int (x6 + 2)), some (.int (I c0 x6.toNatClampNeg)), some (.int (I c0 (((x6 + 1)).toNatClampNeg))), some (.int 0), none]) dX7_reckon_267 (by decide) rfl rfl rfl ?_
              refine hf_goto (tgt := 20) dX7_reckon_270 (by decide) ?_
              refine hf_drop (l' := [some (.ref 132), some (.ref tx), none, none, some (.int x4), some (.int x5), some (.int (x6 + 2)), none, none, none, none]) (by simp [hf_sub]) ?_
              exact h
          · replace h := h.2 hc
            refine hf_iconst (v := 1) dX7_reckon_197 (by decide) ?_
            refine hf_goto (tgt := 202) dX7_reckon_198 (by decide) ?_
            refine hf_istore (l2 := [some (.ref 132), some (.ref tx), none, none, some (.int x4), some (.int x5), some (.int x6), some (.int (I c0 x6.toNatClampNeg)), some (.int (I c0 (((x6 + 1)).toNatClampNeg))), some (.int 1), none]) dX7_reckon_202 (by decide) rfl ?_
            refine hf_iload dX7_reckon_204 rfl ?_
            refine hf_bipush (v := 10) dX7_reckon_206 (by decide) ?_
            refine hf_icmp_ne (tgt := 233) dX7_reckon_208 (by decide) (fun hc => ?_) (fun hc => ?_)
            · replace h := h.1 hc
              refine hf_iload dX7_reckon_233 rfl ?_
              refine hf_iload dX7_reckon_235 rfl ?_
              refine hf_bipush (v := 11) dX7_reckon_237 (by decide) ?_
              refine hf_icmp_ne (tgt := 246) dX7_reckon_239 (by decide) (fun hc => ?_) (fun hc => ?_)
              · replace h := h.1 hc
                refine hf_iconst (v := 0) dX7_reckon_246 (by decide) ?_
                refine hf_icmp_ne (tgt := 264) dX7_reckon_247 (by decide) (fun _ => ?_) (fun hc => absurd (show (1 : Int32) = (0 : Int32) from hc) (by decide))
                refine hf_iinc (v := (x4 + (-1))) (l2 := [some (.ref 132), some (.ref tx), none, none, some (.int (x4 + (-1))), some (.int x5), some (.int x6), some (.int (I c0 x6.toNatClampNeg)), some (.int (I c0 (((x6 + 1)).toNatClampNeg))), some (.int 1), none]) dX7_reckon_264 (by decide) rfl rfl rfl ?_
                refine hf_iinc (v := (x6 + 2)) (l2 := [some (.ref 132), some (.ref tx), none, none, some (.int (x4 + (-1))), some (.int x5), some (.int (x6 + 2)), some (.int (I c0 x6.toNatClampNeg)), some (.int (I c0 (((x6 + 1)).toNatClampNeg))), some (.int 1), none]) dX7_reckon_267 (by decide) rfl rfl rfl ?_
                refine hf_goto (tgt := 20) dX7_reckon_270 (by decide) ?_
                refine hf_drop (l' := [some (.ref 132), some (.ref tx), none, none, some (.int (x4 + (-1))), some (.int x5), some (.int (x6 + 2)), none, none, none, none]) (by simp [hf_sub]) ?_
                exact h
              · replace h := h.2 hc
                refine hf_iconst (v := 1) dX7_reckon_242 (by decide) ?_
                refine hf_goto (tgt := 247) dX7_reckon_243 (by decide) ?_
                refine hf_icmp_ne (tgt := 264) dX7_reckon_247 (by decide) (fun hc => absurd (show ¬ (1 : Int32) = (1 : Int32) from hc) (by decide)) (fun _ => ?_)
                refine hf_iload dX7_reckon_250 rfl ?_
                refine hf_iconst (v := 0) dX7_reckon_252 (by decide) ?_
                refine hf_iload dX7_reckon_253 rfl ?_
                refine hf_mmax dX7_reckon_255 hw514 (Nat.le_of_ble_eq_true rfl) ?_
                refine hf_iadd dX7_reckon_258 ?_
                refine hf_istore (l2 := [some (.ref 132), some (.ref tx), none, none, some (.int x4), some (.int x5), some (.int (x6 + (if 0 < (I c0 (((x6 + 1)).toNatClampNeg)) then (I c0 (((x6 + 1)).toNatClampNeg)) else 0))), some (.int (I c0 x6.toNatClampNeg)), some (.int (I c0 (((x6 + 1)).toNatClampNeg))), some (.int 1), none]) dX7_reckon_259 (by decide) rfl ?_
                refine hf_goto (tgt := 267) dX7_reckon_261 (by decide) ?_
                refine hf_iinc (v := ((x6 + (if 0 < (I c0 (((x6 + 1)).toNatClampNeg)) then (I c0 (((x6 + 1)).toNatClampNeg)) else 0)) + 2)) (l2 := [some (.ref 132), some (.ref tx), none, none, some (.int x4), some (.int x5), some (.int ((x6 + (if 0 < (I c0 (((x6 + 1)).toNatClampNeg)) then (I c0 (((x6 + 1)).toNatClampNeg)) else 0)) + 2)), some (.int (I c0 x6.toNatClampNeg)), some (.int (I c0 (((x6 + 1)).toNatClampNeg))), some (.int 1), none]) dX7_reckon_267 (by decide) rfl rfl rfl ?_
                refine hf_goto (tgt := 20) dX7_reckon_270 (by decide) ?_
                refine hf_drop (l' := [some (.ref 132), some (.ref tx), none, none, some (.int x4), some (.int x5), some (.int ((x6 + (if 0 < (I c0 (((x6 + 1)).toNatClampNeg)) then (I c0 (((x6 + 1)).toNatClampNeg)) else 0)) + 2)), none, none, none, none]) (by simp [hf_sub]) ?_
                exact h
            · replace h := h.2 hc
              refine hf_aload_n dX7_reckon_211 rfl rfl ?_
              refine hf_getr (b := 134) (c := 7) (j := 1) dX7_reckon_212 (hs.2.1 132 _ rfl) (hf_lin hs 132 rfl) (by decide) (by decide) hw254 rfl (hs.2.2 132 1 _ rfl) ?_
              refine hf_iload dX7_reckon_215 rfl ?_
              refine hf_iconst (v := 1) dX7_reckon_217 (by decide) ?_
              refine hf_isub dX7_reckon_218 ?_
              refine hf_iload dX7_reckon_219 rfl ?_
              refine hf_if_eq (tgt := 228) dX7_reckon_221 (by decide) (fun hc => absurd (show (1 : Int32) = (0 : Int32) from hc) (by decide)) (fun _ => ?_)
              refine hf_iconst (v := 0) dX7_reckon_224 (by decide) ?_
              refine hf_goto (tgt := 229) dX7_reckon_225 (by decide) ?_
              refine hf_iast dX7_reckon_229 (hs.2.1 134 _ rfl) (hf_lin hs 134 rfl) h.1 ?_
              replace h := h.2
              refine hf_goto (tgt := 267) dX7_reckon_230 (by decide) ?_
              refine hf_iinc (v := (x6 + 2)) (l2 := [some (.ref 132), some (.ref tx), none, none, some (.int x4), some (.int x5), some (.int (x6 + 2)), some (.int (I c0 x6.toNatClampNeg)), some (.int (I c0 (((x6 + 1)).toNatClampNeg))), some (.int 1), none]) dX7_reckon_267 (by decide) rfl rfl rfl ?_
              refine hf_goto (tgt := 20) dX7_reckon_270 (by decide) ?_
              refine hf_drop (l' := [some (.ref 132), some (.ref tx), none, none, some (.int x4), some (.int x5), some (.int (x6 + 2)), none, none, none, none]) (by simp [hf_sub]) ?_
              exact h
        · replace h := h.2 hc
          refine hf_iconst (v := 0) dX7_reckon_183 (by decide) ?_
          refine hf_ireturn dX7_reckon_184 rfl (by decide) ?_
          exact h
      · replace h := h.2 hc
        refine hf_iload dX7_reckon_104 rfl ?_
        refine hf_iconst (v := 2) dX7_reckon_106 (by decide) ?_
        refine hf_icmp_ge (tgt := 112) dX7_reckon_107 (by decide) (fun hc => ?_) (fun hc => ?_)
        · replace h := h.1 hc
          refine hf_iload dX7_reckon_112 rfl ?_
          refine hf_aload_n dX7_reckon_114 rfl rfl ?_
          refine hf_getr (b := 134) (c := 7) (j := 1) dX7_reckon_115 (hs.2.1 132 _ rfl) (hf_lin hs 132 rfl) (by decide) (by decide) hw254 rfl (hs.2.2 132 1 _ rfl) ?_
          refine hf_iload dX7_reckon_118 rfl ?_
          refine hf_iconst (v := 2) dX7_reckon_120 (by decide) ?_
          refine hf_isub dX7_reckon_121 ?_
          refine hf_iald dX7_reckon_122 (hs.2.1 134 _ rfl) (hf_lin hs 134 rfl) h.1 ?_
          replace h := h.2
          refine hf_i2l dX7_reckon_123 ?_
          refine hf_aload_n dX7_reckon_124 rfl rfl ?_
          refine hf_getr (b := 134) (c := 7) (j := 1) dX7_reckon_125 (hs.2.1 132 _ rfl) (hf_lin hs 132 rfl) (by decide) (by decide) hw254 rfl (hs.2.2 132 1 _ rfl) ?_
          refine hf_iload dX7_reckon_128 rfl ?_
          refine hf_iconst (v := 1) dX7_reckon_130 (by decide) ?_
          refine hf_isub dX7_reckon_131 ?_
          refine hf_iald dX7_reckon_132 (hs.2.1 134 _ rfl) (hf_lin hs 134 rfl) h.1 ?_
          replace h := h.2
          refine hf_i2l dX7_reckon_133 ?_
          exact hf_callS (as := [.int (I c0 x6.toNatClampNeg), .long ((I 134 (((x4 - 2)).toNatClampNeg)).toInt64), .long ((I 134 (((x4 - 1)).toNatClampNeg)).toInt64)]) ok_X7_join dX7_reckon_134 hw518 hw519 rfl (Nat.le_of_ble_eq_true rfl) rfl (Nat.le_of_ble_eq_true rfl) (Nat.zero_le _) (Nat.zero_le _) (hf_mono (fun r M q => hf_drop (l' := [some (.ref 132), some (.ref tx), none, none, some (.int x4), some (.int x5), some (.int x6), none, none, none, none]) (by simp [hf_sub]) q) h)
        · replace h := h.2 hc
          refine hf_iconst (v := 0) dX7_reckon_110 (by decide) ?_
          refine hf_ireturn dX7_reckon_111 rfl (by decide) ?_
          exact h
    · replace h := h.2 hc
      refine hf_iload dX7_reckon_55 rfl ?_
      refine hf_aload_n dX7_reckon_57 rfl rfl ?_
      refine hf_getr (b := 134) (c := 7) (j := 1) dX7_reckon_58 (hs.2.1 132 _ rfl) (hf_lin hs 132 rfl) (by decide) (by decide) hw254 rfl (hs.2.2 132 1 _ rfl) ?_
      refine hf_alen dX7_reckon_61 (hs.2.1 134 _ rfl) (by decide) (hf_lin hs 134 rfl) ?_
      refine hf_icmp_lt (tgt := 67) dX7_reckon_62 (by decide) (fun hc => ?_) (fun hc => ?_)
      · replace h := h.1 hc
        refine hf_aload_n dX7_reckon_67 rfl rfl ?_
        refine hf_getr (b := 134) (c := 7) (j := 1) dX7_reckon_68 (hs.2.1 132 _ rfl) (hf_lin hs 132 rfl) (by decide) (by decide) hw254 rfl (hs.2.2 132 1 _ rfl) ?_
        refine hf_iload dX7_reckon_71 rfl ?_
        refine hf_iload dX7_reckon_73 rfl ?_
        refine hf_iconst (v := 1) dX7_reckon_75 (by decide) ?_
        refine hf_icmp_ne (tgt := 88) dX7_reckon_76 (by decide) (fun hc => ?_) (fun hc => ?_)
        · replace h := h.1 hc
          refine hf_iload dX7_reckon_88 rfl ?_
          refine hf_iast dX7_reckon_90 (hs.2.1 134 _ rfl) (hf_lin hs 134 rfl) h.1 ?_
          replace h := h.2
          refine hf_iinc (v := (x4 + 1)) (l2 := [some (.ref 132), some (.ref tx), none, none, some (.int (x4 + 1)), some (.int x5), some (.int x6), some (.int (I c0 x6.toNatClampNeg)), some (.int (I c0 (((x6 + 1)).toNatClampNeg))), none, none]) dX7_reckon_91 (by decide) rfl rfl rfl ?_
          refine hf_goto (tgt := 267) dX7_reckon_94 (by decide) ?_
          refine hf_iinc (v := (x6 + 2)) (l2 := [some (.ref 132), some (.ref tx), none, none, some (.int (x4 + 1)), some (.int x5), some (.int (x6 + 2)), some (.int (I c0 x6.toNatClampNeg)), some (.int (I c0 (((x6 + 1)).toNatClampNeg))), none, none]) dX7_reckon_267 (by decide) rfl rfl rfl ?_
          refine hf_goto (tgt := 20) dX7_reckon_270 (by decide) ?_
          refine hf_drop (l' := [some (.ref 132), some (.ref tx), none, none, some (.int (x4 + 1)), some (.int x5), some (.int (x6 + 2)), none, none, none, none]) (by simp [hf_sub]) ?_
          exact h
        · replace h := h.2 hc
          refine hf_aload_n dX7_reckon_79 rfl rfl ?_
          refine hf_iload dX7_reckon_80 rfl ?_
          refine hf_callV (c := 7) (as := [.int (I c0 (((x6 + 1)).toNatClampNeg))]) ok_X7_factAt dX7_reckon_82 hw515 hw516 hw1561 (hs.2.1 132 _ rfl) (by decide) (hf_lin hs 132 rfl) rfl (Nat.le_of_ble_eq_true rfl) rfl (Nat.le_of_ble_eq_true rfl) (Nat.zero_le _) (Nat.zero_le _) ?_
          show hf_G X Y_X7_factAt d _ _ 0 [some (.ref 132), some (.int (I c0 (((x6 + 1)).toNatClampNeg)))] [] (t, T, I, L, P) _
          refine hf_iload_n dX7_factAt_0 rfl rfl ?_
          refine hf_if_lt (tgt := 19) dX7_factAt_1 (by decide) (fun hc => ?_) (fun hc => ?_)
          · replace h := h.1 hc
            refine hf_iconst (v := (-1)) dX7_factAt_19 (by decide) ?_
            refine hf_ireturn dX7_factAt_20 rfl rfl ?_
            show hf_G X Y_X7_reckon (d + 1) _ _ 85 [some (.ref 132), some (.ref tx), none, none, some (.int x4), some (.int x5), some (.int x6), some (.int (I c0 x6.toNatClampNeg)), some (.int (I c0 (((x6 + 1)).toNatClampNeg))), none, none] [.int (-1), .int x4, .ref 134] (t, T, I, L, P) _
            refine hf_goto (tgt := 90) dX7_reckon_85 (by decide) ?_
            refine hf_iast dX7_reckon_90 (hs.2.1 134 _ rfl) (hf_lin hs 134 rfl) h.1 ?_
            replace h := h.2
            refine hf_iinc (v := (x4 + 1)) (l2 := [some (.ref 132), some (.ref tx), none, none, some (.int (x4 + 1)), some (.int x5), some (.int x6), some (.int (I c0 x6.toNatClampNeg)), some (.int (I c0 (((x6 + 1)).toNatClampNeg))), none, none]) dX7_reckon_91 (by decide) rfl rfl rfl ?_
            refine hf_goto (tgt := 267) dX7_reckon_94 (by decide) ?_
            refine hf_iinc (v := (x6 + 2)) (l2 := [some (.ref 132), some (.ref tx), none, none, some (.int (x4 + 1)), some (.int x5), some (.int (x6 + 2)), some (.int (I c0 x6.toNatClampNeg)), some (.int (I c0 (((x6 + 1)).toNatClampNeg))), none, none]) dX7_reckon_267 (by decide) rfl rfl rfl ?_
            refine hf_goto (tgt := 20) dX7_reckon_270 (by decide) ?_
            refine hf_drop (l' := [some (.ref 132), some (.ref tx), none, none, some (.int (x4 + 1)), some (.int x5), some (.int (x6 + 2)), none, none, none, none]) (by simp [hf_sub]) ?_
            exact h
          · replace h := h.2 hc
            refine hf_iload_n dX7_factAt_4 rfl rfl ?_
            refine hf_bipush (v := 37) dX7_factAt_5 (by decide) ?_
            refine hf_icmp_ge (tgt := 19) dX7_factAt_7 (by decide) (fun hc => ?_) (fun hc => ?_)
            · replace h := h.1 hc
              refine hf_iconst (v := (-1)) dX7_factAt_19 (by decide) ?_
              refine hf_ireturn dX7_factAt_20 rfl rfl ?_
              show hf_G X Y_X7_reckon (d + 1) _ _ 85 [some (.ref 132), some (.ref tx), none, none, some (.int x4), some (.int x5), some (.int x6), some (.int (I c0 x6.toNatClampNeg)), some (.int (I c0 (((x6 + 1)).toNatClampNeg))), none, none] [.int (-1), .int x4, .ref 134] (t, T, I, L, P) _
              refine hf_goto (tgt := 90) dX7_reckon_85 (by decide) ?_
              refine hf_iast dX7_reckon_90 (hs.2.1 134 _ rfl) (hf_lin hs 134 rfl) h.1 ?_
              replace h := h.2
              refine hf_iinc (v := (x4 + 1)) (l2 := [some (.ref 132), some (.ref tx), none, none, some (.int (x4 + 1)), some (.int x5), some (.int x6), some (.int (I c0 x6.toNatClampNeg)), some (.int (I c0 (((x6 + 1)).toNatClampNeg))), none, none]) dX7_reckon_91 (by decide) rfl rfl rfl ?_
              refine hf_goto (tgt := 267) dX7_reckon_94 (by decide) ?_
              refine hf_iinc (v := (x6 + 2)) (l2 := [some (.ref 132), some (.ref tx), none, none, some (.int (x4 + 1)), some (.int x5), some (.int (x6 + 2)), some (.int (I c0 x6.toNatClampNeg)), some (.int (I c0 (((x6 + 1)).toNatClampNeg))), none, none]) dX7_reckon_267 (by decide) rfl rfl rfl ?_
              refine hf_goto (tgt := 20) dX7_reckon_270 (by decide) ?_
              refine hf_drop (l' := [some (.ref 132), some (.ref tx), none, none, some (.int (x4 + 1)), some (.int x5), some (.int (x6 + 2)), none, none, none, none]) (by simp [hf_sub]) ?_
              exact h
            · replace h := h.2 hc
              refine hf_aload_n dX7_factAt_10 rfl rfl ?_
              refine hf_getr (b := 133) (c := 7) (j := 0) dX7_factAt_11 (hs.2.1 132 _ rfl) (hf_lin hs 132 rfl) (by decide) (by decide) hw251 rfl (hs.2.2 132 0 _ rfl) ?_
              refine hf_iload_n dX7_factAt_14 rfl rfl ?_
              refine hf_iald dX7_factAt_15 (hs.2.1 133 _ rfl) (hf_lin hs 133 rfl) h.1 ?_
              replace h := h.2
              refine hf_goto (tgt := 20) dX7_factAt_16 (by decide) ?_
              refine hf_ireturn dX7_factAt_20 rfl rfl ?_
              show hf_G X Y_X7_reckon (d + 1) _ _ 85 [some (.ref 132), some (.ref tx), none, none, some (.int x4), some (.int x5), some (.int x6), some (.int (I c0 x6.toNatClampNeg)), some (.int (I c0 (((x6 + 1)).toNatClampNeg))), none, none] [.int (I 133 (((I c0 (((x6 + 1)).toNatClampNeg))).toNatClampNeg)), .int x4, .ref 134] (t, T, I, L, P) _
              refine hf_goto (tgt := 90) dX7_reckon_85 (by decide) ?_
              refine hf_iast dX7_reckon_90 (hs.2.1 134 _ rfl) (hf_lin hs 134 rfl) h.1 ?_
              replace h := h.2
              refine hf_iinc (v := (x4 + 1)) (l2 := [some (.ref 132), some (.ref tx), none, none, some (.int (x4 + 1)), some (.int x5), some (.int x6), some (.int (I c0 x6.toNatClampNeg)), some (.int (I c0 (((x6 + 1)).toNatClampNeg))), none, none]) dX7_reckon_91 (by decide) rfl rfl rfl ?_
              refine hf_goto (tgt := 267) dX7_reckon_94 (by decide) ?_
              refine hf_iinc (v := (x6 + 2)) (l2 := [some (.ref 132), some (.ref tx), none, none, some (.int (x4 + 1)), some (.int x5), some (.int (x6 + 2)), some (.int (I c0 x6.toNatClampNeg)), some (.int (I c0 (((x6 + 1)).toNatClampNeg))), none, none]) dX7_reckon_267 (by decide) rfl rfl rfl ?_
              refine hf_goto (tgt := 20) dX7_reckon_270 (by decide) ?_
              refine hf_drop (l' := [some (.ref 132), some (.ref tx), none, none, some (.int (x4 + 1)), some (.int x5), some (.int (x6 + 2)), none, none, none, none]) (by simp [hf_sub]) ?_
              exact h
      · replace h := h.2 hc
        refine hf_iconst (v := 0) dX7_reckon_65 (by decide) ?_
        refine hf_ireturn dX7_reckon_66 rfl (by decide) ?_
        exact h

set_option maxHeartbeats 4000000 in
theorem w_X7_reckon_137_d {X : hf_X} {d k n t : Nat} {T : hf_T} {I : hf_I} {L : hf_L} {P : hf_P} {Q : Option Value → hf_M → Prop} {x4 : Int32} {x5 : Int32} {x6 : Int32} {s0 : Int64} (hs : hf_Lay t T P) {tx z m c0 c1 c2 c3 c4 c5 : Nat} (hx : hf_Tx t T P tx z m c0 c1 c2 c3 c4 c5) (h : (0 < (lg_cmp s0 1000000000) → Q (some (.int 0)) (t, T, I, L, P)) ∧ (¬ (0 < (lg_cmp s0 1000000000)) → (0 ≤ (lg_cmp s0 (-1000000000)) → vp_in ((x4 + (-1)) - 1) 52 ∧ (hf_G X Y_X7_reckon d k n 20 [some (.ref 132), some (.ref tx), none, none, some (.int (x4 + (-1))), some (.int x5), some (.int (x6 + 2)), none, none, none, none] [] (t, T, (hf_up I 134 ((((x4 + (-1)) - 1)).toNatClampNeg) s0.toInt32), L, P) Q)) ∧ (¬ (0 ≤ (lg_cmp s0 (-1000000000))) → Q (some (.int 0)) (t, T, I, L, P)))) : hf_G X Y_X7_reckon d k n 137 [some (.ref 132), some (.ref tx), none, none, some (.int x4), some (.int x5), some (.int x6), none, none, none, none] [.long s0] (t, T, I, L, P) Q := by
  refine hf_lstore (l2 := [some (.ref 132), some (.ref tx), none, none, some (.int x4), some (.int x5), some (.int x6), none, none, some (.long s0), none]) dX7_reckon_137 (by decide) rfl ?_
  refine hf_lload dX7_reckon_139 rfl ?_
  refine hf_ldc2 (v := 1000000000) dX7_reckon_141 hw522 ?_
  refine hf_lcmp dX7_reckon_144 ?_
  refine hf_if_gt (tgt := 157) dX7_reckon_145 (by decide) (fun hc => ?_) (fun hc => ?_)
  · replace h := h.1 hc
    refine hf_iconst (v := 0) dX7_reckon_157 (by decide) ?_
    refine hf_ireturn dX7_reckon_158 rfl (by decide) ?_
    exact h
  · replace h := h.2 hc
    refine hf_lload dX7_reckon_148 rfl ?_
    refine hf_ldc2 (v := (-1000000000)) dX7_reckon_150 hw523 ?_
    refine hf_lcmp dX7_reckon_153 ?_
    refine hf_if_ge (tgt := 159) dX7_reckon_154 (by decide) (fun hc => ?_) (fun hc => ?_)
    · replace h := h.1 hc
      refine hf_iinc (v := (x4 + (-1))) (l2 := [some (.ref 132), some (.ref tx), none, none, some (.int (x4 + (-1))), some (.int x5), some (.int x6), none, none, some (.long s0), none]) dX7_reckon_159 (by decide) rfl rfl rfl ?_
      refine hf_aload_n dX7_reckon_162 rfl rfl ?_
      refine hf_getr (b := 134) (c := 7) (j := 1) dX7_reckon_163 (hs.2.1 132 _ rfl) (hf_lin hs 132 rfl) (by decide) (by decide) hw254 rfl (hs.2.2 132 1 _ rfl) ?_
      refine hf_iload dX7_reckon_166 rfl ?_
      refine hf_iconst (v := 1) dX7_reckon_168 (by decide) ?_
      refine hf_isub dX7_reckon_169 ?_
      refine hf_lload dX7_reckon_170 rfl ?_
      refine hf_l2i dX7_reckon_172 ?_
      refine hf_iast dX7_reckon_173 (hs.2.1 134 _ rfl) (hf_lin hs 134 rfl) h.1 ?_
      replace h := h.2
      refine hf_goto (tgt := 267) dX7_reckon_174 (by decide) ?_
      refine hf_iinc (v := (x6 + 2)) (l2 := [some (.ref 132), some (.ref tx), none, none, some (.int (x4 + (-1))), some (.int x5), some (.int (x6 + 2)), none, none, some (.long s0), none]) dX7_reckon_267 (by decide) rfl rfl rfl ?_
      refine hf_goto (tgt := 20) dX7_reckon_270 (by decide) ?_
      refine hf_drop (l' := [some (.ref 132), some (.ref tx), none, none, some (.int (x4 + (-1))), some (.int x5), some (.int (x6 + 2)), none, none, none, none]) (by simp [hf_sub]) ?_
      exact h
    · replace h := h.2 hc
      refine hf_iconst (v := 0) dX7_reckon_157 (by decide) ?_
      refine hf_ireturn dX7_reckon_158 rfl (by decide) ?_
      exact h

set_option maxHeartbeats 4000000 in
theorem w_X4_findHolding_0_d {X : hf_X} {d k n t : Nat} {T : hf_T} {I : hf_I} {L : hf_L} {P : hf_P} {Q : Option Value → hf_M → Prop} {x1 : Int32} (hs : hf_Lay t T P) {tx z m c0 c1 c2 c3 c4 c5 : Nat} (hx : hf_Tx t T P tx z m c0 c1 c2 c3 c4 c5) (hP : I 101 16 < 0 ∨ P 111 (I 101 16).toNatClampNeg = some tx) (h : ((I 101 16) < 0 → Q (some (.int 0)) (t, T, I, L, P)) ∧ (¬ ((I 101 16) < 0) → ((I 101 16) < (I 101 15) → vp_in (I 101 16) 6 ∧ (hf_G X Y_X4_findHolding d k n 58 [some (.ref 135), some (.int x1), some (.ref tx), some (.int ((I tx 7) - 1)), none] [] (t, T, I, L, P) Q)) ∧ (¬ ((I 101 16) < (I 101 15)) → Q (some (.int 0)) (t, T, I, L, P)))) : hf_G X Y_X4_findHolding d k n 0 (hf_en [.ref 135, .int x1] 5) [] (t, T, I, L, P) Q := by
  show hf_G X Y_X4_findHolding d k n 0 [some (.ref 135), some (.int x1), none, none, none] [] (t, T, I, L, P) Q
  refine hf_aload_n dX4_findHolding_0 rfl rfl ?_
  refine hf_getr (b := 101) (c := 4) (j := 0) dX4_findHolding_1 (hs.2.1 135 _ rfl) (hf_lin hs 135 rfl) (by decide) (by decide) hw267 rfl (hs.2.2 135 0 _ rfl) ?_
  refine hf_geti (c := 1) (j := 16) dX4_findHolding_4 (hs.2.1 101 _ rfl) (hf_lin hs 101 rfl) (by decide) (by decide) hw151 (Or.inl rfl) ?_
  refine hf_if_lt (tgt := 27) dX4_findHolding_7 (by decide) (fun hc => ?_) (fun hc => ?_)
  · replace h := h.1 hc
    refine hf_iconst (v := 0) dX4_findHolding_27 (by decide) ?_
    refine hf_ireturn dX4_findHolding_28 rfl (by decide) ?_
    exact h
  · replace h := h.2 hc
    refine hf_aload_n dX4_findHolding_10 rfl rfl ?_
    refine hf_getr (b := 101) (c := 4) (j := 0) dX4_findHolding_11 (hs.2.1 135 _ rfl) (hf_lin hs 135 rfl) (by decide) (by decide) hw267 rfl (hs.2.2 135 0 _ rfl) ?_
    refine hf_geti (c := 1) (j := 16) dX4_findHolding_14 (hs.2.1 101 _ rfl) (hf_lin hs 101 rfl) (by decide) (by decide) hw151 (Or.inl rfl) ?_
    refine hf_aload_n dX4_findHolding_17 rfl rfl ?_
    refine hf_getr (b := 101) (c := 4) (j := 0) dX4_findHolding_18 (hs.2.1 135 _ rfl) (hf_lin hs 135 rfl) (by decide) (by decide) hw267 rfl (hs.2.2 135 0 _ rfl) ?_
    refine hf_geti (c := 1) (j := 15) dX4_findHolding_21 (hs.2.1 101 _ rfl) (hf_lin hs 101 rfl) (by decide) (by decide) hw148 (Or.inl rfl) ?_
    refine hf_icmp_lt (tgt := 29) dX4_findHolding_24 (by decide) (fun hc => ?_) (fun hc => ?_)
    · replace h := h.1 hc
      refine hf_aload_n dX4_findHolding_29 rfl rfl ?_
      refine hf_getr (b := 101) (c := 4) (j := 0) dX4_findHolding_30 (hs.2.1 135 _ rfl) (hf_lin hs 135 rfl) (by decide) (by decide) hw267 rfl (hs.2.2 135 0 _ rfl) ?_
      refine hf_getr (b := 111) (c := 1) (j := 4) dX4_findHolding_33 (hs.2.1 101 _ rfl) (hf_lin hs 101 rfl) (by decide) (by decide) hw113 rfl (hs.2.2 101 4 _ rfl) ?_
      refine hf_aload_n dX4_findHolding_36 rfl rfl ?_
      refine hf_getr (b := 101) (c := 4) (j := 0) dX4_findHolding_37 (hs.2.1 135 _ rfl) (hf_lin hs 135 rfl) (by decide) (by decide) hw267 rfl (hs.2.2 135 0 _ rfl) ?_
      refine hf_geti (c := 1) (j := 16) dX4_findHolding_40 (hs.2.1 101 _ rfl) (hf_lin hs 101 rfl) (by decide) (by decide) hw151 (Or.inl rfl) ?_
      refine hf_aldq (b := tx) dX4_findHolding_43 (hs.2.1 111 _ rfl) (by decide) (hf_lin hs 111 rfl) h.1 (hP.resolve_left (by assumption)) ?_
      replace h := h.2
      refine hf_astore_n (l2 := [some (.ref 135), some (.int x1), some (.ref tx), none, none]) dX4_findHolding_44 rfl (by decide) rfl ?_
      refine hf_aload_n dX4_findHolding_45 rfl rfl ?_
      refine hf_ifnonnull (tgt := 51) dX4_findHolding_46 (by decide) ?_
      refine hf_aload_n dX4_findHolding_51 rfl rfl ?_
      refine hf_geti (c := 9) (j := 7) dX4_findHolding_52 hx.1 hx.2.1 (by decide) (by decide) hw216 (Or.inl rfl) ?_
      refine hf_iconst (v := 1) dX4_findHolding_55 (by decide) ?_
      refine hf_isub dX4_findHolding_56 ?_
      refine hf_istore_n (l2 := [some (.ref 135), some (.int x1), some (.ref tx), some (.int ((I tx 7) - 1)), none]) dX4_findHolding_57 rfl (by decide) rfl ?_
      exact h
    · replace h := h.2 hc
      refine hf_iconst (v := 0) dX4_findHolding_27 (by decide) ?_
      refine hf_ireturn dX4_findHolding_28 rfl (by decide) ?_
      exact h

set_option maxHeartbeats 4000000 in
theorem w_X4_findHolding_58_d {X : hf_X} {d k n t : Nat} {T : hf_T} {I : hf_I} {L : hf_L} {P : hf_P} {Q : Option Value → hf_M → Prop} {x1 : Int32} {x3 : Int32} (hs : hf_Lay t T P) {tx z m c0 c1 c2 c3 c4 c5 : Nat} (hx : hf_Tx t T P tx z m c0 c1 c2 c3 c4 c5) (h : (x3 < 0 → Q (some (.int 0)) (t, T, I, L, P)) ∧ (¬ (x3 < 0) → vp_in x3 m ∧ (((I c1 x3.toNatClampNeg) = x1 → vp_in x3 m ∧ (vp_in x3 m ∧ (((I c4 x3.toNatClampNeg) ≤ (I c3 x3.toNatClampNeg) → vp_in x3 m ∧ (vp_in x3 m ∧ (((I c3 x3.toNatClampNeg) ≤ (I c2 x3.toNatClampNeg) → Q (some (.int 1)) (t, T, I, L, P)) ∧ (¬ ((I c3 x3.toNatClampNeg) ≤ (I c2 x3.toNatClampNeg)) → vp_in x3 m ∧ (vp_in x3 m ∧ (hf_G X Y_X7_reckon d 0 0 0 (hf_en [.ref 132, .ref tx, .int (I c2 x3.toNatClampNeg), .int (I c3 x3.toNatClampNeg)] 11) [] (t, T, I, L, P) (fun r M => hf_G X Y_X4_findHolding (d + 1) k n 151 [some (.ref 135), some (.int x1), some (.ref tx), some (.int x3), none] (r.toList ++ []) M Q))))))) ∧ (¬ ((I c4 x3.toNatClampNeg) ≤ (I c3 x3.toNatClampNeg)) → vp_in x3 m ∧ (vp_in x3 m ∧ (hf_G X Y_X7_reckon d 0 0 0 (hf_en [.ref 132, .ref tx, .int (I c3 x3.toNatClampNeg), .int (I c4 x3.toNatClampNeg)] 11) [] (t, T, I, L, P) (fun r M => hf_G X Y_X4_findHolding (d + 1) k n 103 [some (.ref 135), some (.int x1), some (.ref tx), some (.int x3), none] (r.toList ++ []) M Q))))))) ∧ (¬ ((I c1 x3.toNatClampNeg) = x1) → hf_G X Y_X4_findHolding (d + 1) k n 58 [some (.ref 135), some (.int x1), some (.ref tx), some (.int (x3 + (-1))), none] [] (t, T, I, L, P) Q)))) : hf_G X Y_X4_findHolding (d + 1) k n 58 [some (.ref 135), some (.int x1), some (.ref tx), some (.int x3), none] [] (t, T, I, L, P) Q := by
  refine hf_iload_n dX4_findHolding_58 rfl rfl ?_
  refine hf_if_lt (tgt := 162) dX4_findHolding_59 (by decide) (fun hc => ?_) (fun hc => ?_)
  · replace h := h.1 hc
    refine hf_iconst (v := 0) dX4_findHolding_162 (by decide) ?_
    refine hf_ireturn dX4_findHolding_163 rfl (by decide) ?_
    exact h
  · replace h := h.2 hc
    refine hf_aload_n dX4_findHolding_62 rfl rfl ?_
    refine hf_getr (b := c1) (c := 9) (j := 1) dX4_findHolding_63 hx.1 hx.2.1 (by decide) (by decide) hw198 rfl hx.2.2.2.1.1 ?_
    refine hf_iload_n dX4_findHolding_66 rfl rfl ?_
    refine hf_iald dX4_findHolding_67 hx.2.2.2.1.2.1 hx.2.2.2.1.2.2 h.1 ?_
    replace h := h.2
    refine hf_iload_n dX4_findHolding_68 rfl rfl ?_
    refine hf_icmp_eq (tgt := 75) dX4_findHolding_69 (by decide) (fun hc => ?_) (fun hc => ?_)
    · replace h := h.1 hc
      refine hf_aload_n dX4_findHolding_75 rfl rfl ?_
      refine hf_iload_n dX4_findHolding_76 rfl rfl ?_
      refine hf_callV (c := 9) (as := [.int x3]) ok_X9_hasTest dX4_findHolding_77 hw503 hw504 hw505 hx.1 (by decide) hx.2.1 rfl (Nat.le_of_ble_eq_true rfl) rfl (Nat.le_of_ble_eq_true rfl) (Nat.zero_le _) (Nat.zero_le _) ?_
      show hf_G X Y_X9_hasTest d _ _ 0 [some (.ref tx), some (.int x3)] [] (t, T, I, L, P) _
      refine hf_aload_n dX9_hasTest_0 rfl rfl ?_
      refine hf_getr (b := c3) (c := 9) (j := 3) dX9_hasTest_1 hx.1 hx.2.1 (by decide) (by decide) hw203 rfl hx.2.2.2.2.2.1.1 ?_
      refine hf_iload_n dX9_hasTest_4 rfl rfl ?_
      refine hf_iald dX9_hasTest_5 hx.2.2.2.2.2.1.2.1 hx.2.2.2.2.2.1.2.2 h.1 ?_
      replace h := h.2
      refine hf_aload_n dX9_hasTest_6 rfl rfl ?_
      refine hf_getr (b := c4) (c := 9) (j := 4) dX9_hasTest_7 hx.1 hx.2.1 (by decide) (by decide) hw206 rfl hx.2.2.2.2.2.2.1.1 ?_
      refine hf_iload_n dX9_hasTest_10 rfl rfl ?_
      refine hf_iald dX9_hasTest_11 hx.2.2.2.2.2.2.1.2.1 hx.2.2.2.2.2.2.1.2.2 h.1 ?_
      replace h := h.2
      refine hf_icmp_ge (tgt := 19) dX9_hasTest_12 (by decide) (fun hc => ?_) (fun hc => ?_)
      · replace h := h.1 hc
        refine hf_iconst (v := 0) dX9_hasTest_19 (by decide) ?_
        refine hf_ireturn dX9_hasTest_20 rfl (by decide) ?_
        show hf_G X Y_X4_findHolding (d + 1) _ _ 80 [some (.ref 135), some (.int x1), some (.ref tx), some (.int x3), none] [.int 0] (t, T, I, L, P) _
        refine hf_if_eq (tgt := 123) dX4_findHolding_80 (by decide) (fun _ => ?_) (fun hc => absurd (show (0 : Int32) = (0 : Int32) by decide) hc)
        refine hf_aload_n dX4_findHolding_123 rfl rfl ?_
        refine hf_iload_n dX4_findHolding_124 rfl rfl ?_
        refine hf_callV (c := 9) (as := [.int x3]) ok_X9_hasSum dX4_findHolding_125 hw524 hw525 hw526 hx.1 (by decide) hx.2.1 rfl (Nat.le_of_ble_eq_true rfl) rfl (Nat.le_of_ble_eq_true rfl) (Nat.zero_le _) (Nat.zero_le _) ?_
        show hf_G X Y_X9_hasSum d _ _ 0 [some (.ref tx), some (.int x3)] [] (t, T, I, L, P) _
        refine hf_aload_n dX9_hasSum_0 rfl rfl ?_
        refine hf_getr (b := c2) (c := 9) (j := 2) dX9_hasSum_1 hx.1 hx.2.1 (by decide) (by decide) hw200 rfl hx.2.2.2.2.1.1 ?_
        refine hf_iload_n dX9_hasSum_4 rfl rfl ?_
        refine hf_iald dX9_hasSum_5 hx.2.2.2.2.1.2.1 hx.2.2.2.2.1.2.2 h.1 ?_
        replace h := h.2
        refine hf_aload_n dX9_hasSum_6 rfl rfl ?_
        refine hf_getr (b := c3) (c := 9) (j := 3) dX9_hasSum_7 hx.1 hx.2.1 (by decide) (by decide) hw203 rfl hx.2.2.2.2.2.1.1 ?_
        refine hf_iload_n dX9_hasSum_10 rfl rfl ?_
        refine hf_iald dX9_hasSum_11 hx.2.2.2.2.2.1.2.1 hx.2.2.2.2.2.1.2.2 h.1 ?_
        replace h := h.2
        refine hf_icmp_ge (tgt := 19) dX9_hasSum_12 (by decide) (fun hc => ?_) (fun hc => ?_)
        · replace h := h.1 hc
          refine hf_iconst (v := 0) dX9_hasSum_19 (by decide) ?_
          refine hf_ireturn dX9_hasSum_20 rfl (by decide) ?_
          show hf_G X Y_X4_findHolding (d + 1) _ _ 128 [some (.ref 135), some (.int x1), some (.ref tx), some (.int x3), none] [.int 0] (t, T, I, L, P) _
          refine hf_if_eq (tgt := 154) dX4_findHolding_128 (by decide) (fun _ => ?_) (fun hc => absurd (show (0 : Int32) = (0 : Int32) by decide) hc)
          refine hf_iconst (v := 1) dX4_findHolding_154 (by decide) ?_
          refine hf_ireturn dX4_findHolding_155 rfl (by decide) ?_
          exact h
        · replace h := h.2 hc
          refine hf_iconst (v := 1) dX9_hasSum_15 (by decide) ?_
          refine hf_goto (tgt := 20) dX9_hasSum_16 (by decide) ?_
          refine hf_ireturn dX9_hasSum_20 rfl (by decide) ?_
          show hf_G X Y_X4_findHolding (d + 1) _ _ 128 [some (.ref 135), some (.int x1), some (.ref tx), some (.int x3), none] [.int 1] (t, T, I, L, P) _
          refine hf_if_eq (tgt := 154) dX4_findHolding_128 (by decide) (fun hc => absurd (show (1 : Int32) = (0 : Int32) from hc) (by decide)) (fun _ => ?_)
          refine hf_aload_n dX4_findHolding_131 rfl rfl ?_
          refine hf_getr (b := 132) (c := 4) (j := 1) dX4_findHolding_132 (hs.2.1 135 _ rfl) (hf_lin hs 135 rfl) (by decide) (by decide) hw268 rfl (hs.2.2 135 1 _ rfl) ?_
          refine hf_aload_n dX4_findHolding_135 rfl rfl ?_
          refine hf_aload_n dX4_findHolding_136 rfl rfl ?_
          refine hf_getr (b := c2) (c := 9) (j := 2) dX4_findHolding_137 hx.1 hx.2.1 (by decide) (by decide) hw201 rfl hx.2.2.2.2.1.1 ?_
          refine hf_iload_n dX4_findHolding_140 rfl rfl ?_
          refine hf_iald dX4_findHolding_141 hx.2.2.2.2.1.2.1 hx.2.2.2.2.1.2.2 h.1 ?_
          replace h := h.2
          refine hf_aload_n dX4_findHolding_142 rfl rfl ?_
          refine hf_getr (b := c3) (c := 9) (j := 3) dX4_findHolding_143 hx.1 hx.2.1 (by decide) (by decide) hw204 rfl hx.2.2.2.2.2.1.1 ?_
          refine hf_iload_n dX4_findHolding_146 rfl rfl ?_
          refine hf_iald dX4_findHolding_147 hx.2.2.2.2.2.1.2.1 hx.2.2.2.2.2.1.2.2 h.1 ?_
          replace h := h.2
          exact hf_callV (c := 7) (as := [.ref tx, .int (I c2 x3.toNatClampNeg), .int (I c3 x3.toNatClampNeg)]) ok_X7_reckon dX4_findHolding_148 hw507 hw508 hw509 (hs.2.1 132 _ rfl) (by decide) (hf_lin hs 132 rfl) rfl (Nat.le_of_ble_eq_true rfl) rfl (Nat.le_of_ble_eq_true rfl) (Nat.zero_le _) (Nat.zero_le _) h
      · replace h := h.2 hc
        refine hf_iconst (v := 1) dX9_hasTest_15 (by decide) ?_
        refine hf_goto (tgt := 20) dX9_hasTest_16 (by decide) ?_
        refine hf_ireturn dX9_hasTest_20 rfl (by decide) ?_
        show hf_G X Y_X4_findHolding (d + 1) _ _ 80 [some (.ref 135), some (.int x1), some (.ref tx), some (.int x3), none] [.int 1] (t, T, I, L, P) _
        refine hf_if_eq (tgt := 123) dX4_findHolding_80 (by decide) (fun hc => absurd (show (1 : Int32) = (0 : Int32) from hc) (by decide)) (fun _ => ?_)
        refine hf_aload_n dX4_findHolding_83 rfl rfl ?_
        refine hf_getr (b := 132) (c := 4) (j := 1) dX4_findHolding_84 (hs.2.1 135 _ rfl) (hf_lin hs 135 rfl) (by decide) (by decide) hw268 rfl (hs.2.2 135 1 _ rfl) ?_
        refine hf_aload_n dX4_findHolding_87 rfl rfl ?_
        refine hf_aload_n dX4_findHolding_88 rfl rfl ?_
        refine hf_getr (b := c3) (c := 9) (j := 3) dX4_findHolding_89 hx.1 hx.2.1 (by decide) (by decide) hw204 rfl hx.2.2.2.2.2.1.1 ?_
        refine hf_iload_n dX4_findHolding_92 rfl rfl ?_
        refine hf_iald dX4_findHolding_93 hx.2.2.2.2.2.1.2.1 hx.2.2.2.2.2.1.2.2 h.1 ?_
        replace h := h.2
        refine hf_aload_n dX4_findHolding_94 rfl rfl ?_
        refine hf_getr (b := c4) (c := 9) (j := 4) dX4_findHolding_95 hx.1 hx.2.1 (by decide) (by decide) hw207 rfl hx.2.2.2.2.2.2.1.1 ?_
        refine hf_iload_n dX4_findHolding_98 rfl rfl ?_
        refine hf_iald dX4_findHolding_99 hx.2.2.2.2.2.2.1.2.1 hx.2.2.2.2.2.2.1.2.2 h.1 ?_
        replace h := h.2
        exact hf_callV (c := 7) (as := [.ref tx, .int (I c3 x3.toNatClampNeg), .int (I c4 x3.toNatClampNeg)]) ok_X7_reckon dX4_findHolding_100 hw507 hw508 hw509 (hs.2.1 132 _ rfl) (by decide) (hf_lin hs 132 rfl) rfl (Nat.le_of_ble_eq_true rfl) rfl (Nat.le_of_ble_eq_true rfl) (Nat.zero_le _) (Nat.zero_le _) h
    · replace h := h.2 hc
      refine hf_goto (tgt := 156) dX4_findHolding_72 (by decide) ?_
      refine hf_iinc (v := (x3 + (-1))) (l2 := [some (.ref 135), some (.int x1), some (.ref tx), some (.int (x3 + (-1))), none]) dX4_findHolding_156 (by decide) rfl rfl rfl ?_
      refine hf_goto (tgt := 58) dX4_findHolding_159 (by decide) ?_
      exact h

set_option maxHeartbeats 4000000 in
theorem w_X4_findHolding_151_d {X : hf_X} {d k n t : Nat} {T : hf_T} {I : hf_I} {L : hf_L} {P : hf_P} {Q : Option Value → hf_M → Prop} {x1 : Int32} {x3 : Int32} {s0 : Int32} (hs : hf_Lay t T P) {tx z m c0 c1 c2 c3 c4 c5 : Nat} (hx : hf_Tx t T P tx z m c0 c1 c2 c3 c4 c5) (h : (s0 = 0 → hf_G X Y_X4_findHolding d k n 58 [some (.ref 135), some (.int x1), some (.ref tx), some (.int (x3 + (-1))), none] [] (t, T, I, L, P) Q) ∧ (¬ (s0 = 0) → Q (some (.int 1)) (t, T, I, L, P))) : hf_G X Y_X4_findHolding d k n 151 [some (.ref 135), some (.int x1), some (.ref tx), some (.int x3), none] [.int s0] (t, T, I, L, P) Q := by
  refine hf_if_eq (tgt := 156) dX4_findHolding_151 (by decide) (fun hc => ?_) (fun hc => ?_)
  · replace h := h.1 hc
    refine hf_iinc (v := (x3 + (-1))) (l2 := [some (.ref 135), some (.int x1), some (.ref tx), some (.int (x3 + (-1))), none]) dX4_findHolding_156 (by decide) rfl rfl rfl ?_
    refine hf_goto (tgt := 58) dX4_findHolding_159 (by decide) ?_
    exact h
  · replace h := h.2 hc
    refine hf_iconst (v := 1) dX4_findHolding_154 (by decide) ?_
    refine hf_ireturn dX4_findHolding_155 rfl (by decide) ?_
    exact h

set_option maxHeartbeats 4000000 in
theorem w_X4_findHolding_103_d {X : hf_X} {d k n t : Nat} {T : hf_T} {I : hf_I} {L : hf_L} {P : hf_P} {Q : Option Value → hf_M → Prop} {x1 : Int32} {x3 : Int32} {s0 : Int32} (hs : hf_Lay t T P) {tx z m c0 c1 c2 c3 c4 c5 : Nat} (hx : hf_Tx t T P tx z m c0 c1 c2 c3 c4 c5) (h : (s0 = 0 → hf_G X Y_X4_findHolding (d + 1) k n 58 [some (.ref 135), some (.int x1), some (.ref tx), some (.int (x3 + (-1))), none] [] (t, T, I, L, P) Q) ∧ (¬ (s0 = 0) → (¬ (I 132 2) = 0 → vp_in x3 m ∧ (vp_in x3 m ∧ (((I c3 x3.toNatClampNeg) ≤ (I c2 x3.toNatClampNeg) → Q (some (.int 1)) (t, T, I, L, P)) ∧ (¬ ((I c3 x3.toNatClampNeg) ≤ (I c2 x3.toNatClampNeg)) → vp_in x3 m ∧ (vp_in x3 m ∧ (hf_G X Y_X7_reckon d 0 0 0 (hf_en [.ref 132, .ref tx, .int (I c2 x3.toNatClampNeg), .int (I c3 x3.toNatClampNeg)] 11) [] (t, T, I, L, P) (fun r M => hf_G X Y_X4_findHolding (d + 1) k n 151 [some (.ref 135), some (.int x1), some (.ref tx), some (.int x3), none] (r.toList ++ []) M Q))))))) ∧ ((I 132 2) = 0 → hf_G X Y_X4_findHolding (d + 1) k n 58 [some (.ref 135), some (.int x1), some (.ref tx), some (.int (x3 + (-1))), none] [] (t, T, I, L, P) Q))) : hf_G X Y_X4_findHolding (d + 1) k n 103 [some (.ref 135), some (.int x1), some (.ref tx), some (.int x3), none] [.int s0] (t, T, I, L, P) Q := by
  refine hf_istore (l2 := [some (.ref 135), some (.int x1), some (.ref tx), some (.int x3), some (.int s0)]) dX4_findHolding_103 (by decide) rfl ?_
  refine hf_iload dX4_findHolding_105 rfl ?_
  refine hf_if_eq (tgt := 156) dX4_findHolding_107 (by decide) (fun hc => ?_) (fun hc => ?_)
  · replace h := h.1 hc
    refine hf_iinc (v := (x3 + (-1))) (l2 := [some (.ref 135), some (.int x1), some (.ref tx), some (.int (x3 + (-1))), some (.int s0)]) dX4_findHolding_156 (by decide) rfl rfl rfl ?_
    refine hf_goto (tgt := 58) dX4_findHolding_159 (by decide) ?_
    refine hf_drop (l' := [some (.ref 135), some (.int x1), some (.ref tx), some (.int (x3 + (-1))), none]) (by simp [hf_sub]) ?_
    exact h
  · replace h := h.2 hc
    refine hf_aload_n dX4_findHolding_110 rfl rfl ?_
    refine hf_getr (b := 132) (c := 4) (j := 1) dX4_findHolding_111 (hs.2.1 135 _ rfl) (hf_lin hs 135 rfl) (by decide) (by decide) hw268 rfl (hs.2.2 135 1 _ rfl) ?_
    refine hf_geti (c := 7) (j := 2) dX4_findHolding_114 (hs.2.1 132 _ rfl) (hf_lin hs 132 rfl) (by decide) (by decide) hw256 (Or.inl rfl) ?_
    refine hf_if_ne (tgt := 123) dX4_findHolding_117 (by decide) (fun hc => ?_) (fun hc => ?_)
    · replace h := h.1 hc
      refine hf_aload_n dX4_findHolding_123 rfl rfl ?_
      refine hf_iload_n dX4_findHolding_124 rfl rfl ?_
      refine hf_callV (c := 9) (as := [.int x3]) ok_X9_hasSum dX4_findHolding_125 hw524 hw525 hw526 hx.1 (by decide) hx.2.1 rfl (Nat.le_of_ble_eq_true rfl) rfl (Nat.le_of_ble_eq_true rfl) (Nat.zero_le _) (Nat.zero_le _) ?_
      show hf_G X Y_X9_hasSum d _ _ 0 [some (.ref tx), some (.int x3)] [] (t, T, I, L, P) _
      refine hf_aload_n dX9_hasSum_0 rfl rfl ?_
      refine hf_getr (b := c2) (c := 9) (j := 2) dX9_hasSum_1 hx.1 hx.2.1 (by decide) (by decide) hw200 rfl hx.2.2.2.2.1.1 ?_
      refine hf_iload_n dX9_hasSum_4 rfl rfl ?_
      refine hf_iald dX9_hasSum_5 hx.2.2.2.2.1.2.1 hx.2.2.2.2.1.2.2 h.1 ?_
      replace h := h.2
      refine hf_aload_n dX9_hasSum_6 rfl rfl ?_
      refine hf_getr (b := c3) (c := 9) (j := 3) dX9_hasSum_7 hx.1 hx.2.1 (by decide) (by decide) hw203 rfl hx.2.2.2.2.2.1.1 ?_
      refine hf_iload_n dX9_hasSum_10 rfl rfl ?_
      refine hf_iald dX9_hasSum_11 hx.2.2.2.2.2.1.2.1 hx.2.2.2.2.2.1.2.2 h.1 ?_
      replace h := h.2
      refine hf_icmp_ge (tgt := 19) dX9_hasSum_12 (by decide) (fun hc => ?_) (fun hc => ?_)
      · replace h := h.1 hc
        refine hf_iconst (v := 0) dX9_hasSum_19 (by decide) ?_
        refine hf_ireturn dX9_hasSum_20 rfl (by decide) ?_
        show hf_G X Y_X4_findHolding (d + 1) _ _ 128 [some (.ref 135), some (.int x1), some (.ref tx), some (.int x3), some (.int s0)] [.int 0] (t, T, I, L, P) _
        refine hf_if_eq (tgt := 154) dX4_findHolding_128 (by decide) (fun _ => ?_) (fun hc => absurd (show (0 : Int32) = (0 : Int32) by decide) hc)
        refine hf_iconst (v := 1) dX4_findHolding_154 (by decide) ?_
        refine hf_ireturn dX4_findHolding_155 rfl (by decide) ?_
        exact h
      · replace h := h.2 hc
        refine hf_iconst (v := 1) dX9_hasSum_15 (by decide) ?_
        refine hf_goto (tgt := 20) dX9_hasSum_16 (by decide) ?_
        refine hf_ireturn dX9_hasSum_20 rfl (by decide) ?_
        show hf_G X Y_X4_findHolding (d + 1) _ _ 128 [some (.ref 135), some (.int x1), some (.ref tx), some (.int x3), some (.int s0)] [.int 1] (t, T, I, L, P) _
        refine hf_if_eq (tgt := 154) dX4_findHolding_128 (by decide) (fun hc => absurd (show (1 : Int32) = (0 : Int32) from hc) (by decide)) (fun _ => ?_)
        refine hf_aload_n dX4_findHolding_131 rfl rfl ?_
        refine hf_getr (b := 132) (c := 4) (j := 1) dX4_findHolding_132 (hs.2.1 135 _ rfl) (hf_lin hs 135 rfl) (by decide) (by decide) hw268 rfl (hs.2.2 135 1 _ rfl) ?_
        refine hf_aload_n dX4_findHolding_135 rfl rfl ?_
        refine hf_aload_n dX4_findHolding_136 rfl rfl ?_
        refine hf_getr (b := c2) (c := 9) (j := 2) dX4_findHolding_137 hx.1 hx.2.1 (by decide) (by decide) hw201 rfl hx.2.2.2.2.1.1 ?_
        refine hf_iload_n dX4_findHolding_140 rfl rfl ?_
        refine hf_iald dX4_findHolding_141 hx.2.2.2.2.1.2.1 hx.2.2.2.2.1.2.2 h.1 ?_
        replace h := h.2
        refine hf_aload_n dX4_findHolding_142 rfl rfl ?_
        refine hf_getr (b := c3) (c := 9) (j := 3) dX4_findHolding_143 hx.1 hx.2.1 (by decide) (by decide) hw204 rfl hx.2.2.2.2.2.1.1 ?_
        refine hf_iload_n dX4_findHolding_146 rfl rfl ?_
        refine hf_iald dX4_findHolding_147 hx.2.2.2.2.2.1.2.1 hx.2.2.2.2.2.1.2.2 h.1 ?_
        replace h := h.2
        exact hf_callV (c := 7) (as := [.ref tx, .int (I c2 x3.toNatClampNeg), .int (I c3 x3.toNatClampNeg)]) ok_X7_reckon dX4_findHolding_148 hw507 hw508 hw509 (hs.2.1 132 _ rfl) (by decide) (hf_lin hs 132 rfl) rfl (Nat.le_of_ble_eq_true rfl) rfl (Nat.le_of_ble_eq_true rfl) (Nat.zero_le _) (Nat.zero_le _) (hf_mono (fun r M q => hf_drop (l' := [some (.ref 135), some (.int x1), some (.ref tx), some (.int x3), none]) (by simp [hf_sub]) q) h)
    · replace h := h.2 hc
      refine hf_goto (tgt := 156) dX4_findHolding_120 (by decide) ?_
      refine hf_iinc (v := (x3 + (-1))) (l2 := [some (.ref 135), some (.int x1), some (.ref tx), some (.int (x3 + (-1))), some (.int s0)]) dX4_findHolding_156 (by decide) rfl rfl rfl ?_
      refine hf_goto (tgt := 58) dX4_findHolding_159 (by decide) ?_
      refine hf_drop (l' := [some (.ref 135), some (.int x1), some (.ref tx), some (.int (x3 + (-1))), none]) (by simp [hf_sub]) ?_
      exact h
