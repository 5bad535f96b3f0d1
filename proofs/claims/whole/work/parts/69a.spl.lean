set_option maxHeartbeats 4000000 in
theorem w_X12_splits_0_x {X : hf_X} {d k n t : Nat} {T : hf_T} {I : hf_I} {L : hf_L} {P : hf_P} {Q : Option Value → hf_M → Prop} {x1 : Int32} (hs : hf_Lay t T P) (h : hf_G X Y_X12_splits d k n 7 [some (.ref 156), some (.int x1), some (.int 0), none, none, none] [] (t, T, (hf_up I 156 15 0), L, P) Q) : hf_G X Y_X12_splits d k n 0 (hf_en [.ref 156, .int x1] 6) [] (t, T, I, L, P) Q := by
  show hf_G X Y_X12_splits d k n 0 [some (.ref 156), some (.int x1), none, none, none, none] [] (t, T, I, L, P) Q
  refine hf_aload_n dX12_splits_0 rfl rfl ?_
  refine hf_iconst (v := 0) dX12_splits_1 (by decide) ?_
  refine hf_puti (c := 12) (j := 15) dX12_splits_2 (hs.2.1 156 _ rfl) (hf_lin hs 156 rfl) (by decide) (by decide) hw1051 rfl rfl ?_
  refine hf_iconst (v := 0) dX12_splits_5 (by decide) ?_
  refine hf_istore_n (l2 := [some (.ref 156), some (.int x1), some (.int 0), none, none, none]) dX12_splits_6 rfl (by decide) rfl ?_
  exact h

set_option maxHeartbeats 4000000 in
theorem w_X12_splits_7_x {X : hf_X} {d k n t : Nat} {T : hf_T} {I : hf_I} {L : hf_L} {P : hf_P} {Q : Option Value → hf_M → Prop} {x1 : Int32} {x2 : Int32} (hs : hf_Lay t T P) (h : (x1 ≤ x2 → vp_in (I 156 15) 401 ∧ (vp_in (I 156 15) 401 ∧ (vp_in (I 156 15) 401 ∧ (Q none (t, T, (hf_up (hf_up (hf_up I 167 (((I 156 15)).toNatClampNeg) x1) 165 (((I 156 15)).toNatClampNeg) 0) 166 (((I 156 15)).toNatClampNeg) 0), L, P))))) ∧ (¬ (x1 ≤ x2) → vp_in x2 400 ∧ ((¬ (I 163 x2.toNatClampNeg) = 32 → hf_G X Y_X12_splits d k n 31 [some (.ref 156), some (.int x1), some (.int x2), some (.int (I 163 x2.toNatClampNeg)), none, none] [] (t, T, I, L, P) Q) ∧ ((I 163 x2.toNatClampNeg) = 32 → hf_G X Y_X12_splits d k n 7 [some (.ref 156), some (.int x1), some (.int (x2 + 1)), none, none, none] [] (t, T, I, L, P) Q)))) : hf_G X Y_X12_splits d k n 7 [some (.ref 156), some (.int x1), some (.int x2), none, none, none] [] (t, T, I, L, P) Q := by
  refine hf_iload_n dX12_splits_7 rfl rfl ?_
  refine hf_iload_n dX12_splits_8 rfl rfl ?_
  refine hf_icmp_ge (tgt := 263) dX12_splits_9 (by decide) (fun hc => ?_) (fun hc => ?_)
  · replace h := h.1 hc
    refine hf_aload_n dX12_splits_263 rfl rfl ?_
    refine hf_getr (b := 167) (c := 12) (j := 14) dX12_splits_264 (hs.2.1 156 _ rfl) (hf_lin hs 156 rfl) (by decide) (by decide) hw1050 rfl (hs.2.2 156 14 _ rfl) ?_
    refine hf_aload_n dX12_splits_267 rfl rfl ?_
    refine hf_geti (c := 12) (j := 15) dX12_splits_268 (hs.2.1 156 _ rfl) (hf_lin hs 156 rfl) (by decide) (by decide) hw1051 (Or.inl rfl) ?_
    refine hf_iload_n dX12_splits_271 rfl rfl ?_
    refine hf_iast dX12_splits_272 (hs.2.1 167 _ rfl) (hf_lin hs 167 rfl) h.1 ?_
    replace h := h.2
    refine hf_aload_n dX12_splits_273 rfl rfl ?_
    refine hf_getr (b := 165) (c := 12) (j := 12) dX12_splits_274 (hs.2.1 156 _ rfl) (hf_lin hs 156 rfl) (by decide) (by decide) hw1048 rfl (hs.2.2 156 12 _ rfl) ?_
    refine hf_aload_n dX12_splits_277 rfl rfl ?_
    refine hf_geti (c := 12) (j := 15) dX12_splits_278 (hs.2.1 156 _ rfl) (hf_lin hs 156 rfl) (by decide) (by decide) hw1051 (Or.inl rfl) ?_
    refine hf_iconst (v := 0) dX12_splits_281 (by decide) ?_
    refine hf_iast dX12_splits_282 (hs.2.1 165 _ rfl) (hf_lin hs 165 rfl) h.1 ?_
    replace h := h.2
    refine hf_aload_n dX12_splits_283 rfl rfl ?_
    refine hf_getr (b := 166) (c := 12) (j := 13) dX12_splits_284 (hs.2.1 156 _ rfl) (hf_lin hs 156 rfl) (by decide) (by decide) hw1049 rfl (hs.2.2 156 13 _ rfl) ?_
    refine hf_aload_n dX12_splits_287 rfl rfl ?_
    refine hf_geti (c := 12) (j := 15) dX12_splits_288 (hs.2.1 156 _ rfl) (hf_lin hs 156 rfl) (by decide) (by decide) hw1051 (Or.inl rfl) ?_
    refine hf_iconst (v := 0) dX12_splits_291 (by decide) ?_
    refine hf_iast dX12_splits_292 (hs.2.1 166 _ rfl) (hf_lin hs 166 rfl) h.1 ?_
    replace h := h.2
    refine hf_return dX12_splits_293 rfl ?_
    exact h
  · replace h := h.2 hc
    refine hf_aload_n dX12_splits_12 rfl rfl ?_
    refine hf_getr (b := 163) (c := 12) (j := 8) dX12_splits_13 (hs.2.1 156 _ rfl) (hf_lin hs 156 rfl) (by decide) (by decide) hw1044 rfl (hs.2.2 156 8 _ rfl) ?_
    refine hf_iload_n dX12_splits_16 rfl rfl ?_
    refine hf_bald dX12_splits_17 (hs.2.1 163 _ rfl) (hf_lin hs 163 rfl) h.1 ?_
    replace h := h.2
    refine hf_istore_n (l2 := [some (.ref 156), some (.int x1), some (.int x2), some (.int (I 163 x2.toNatClampNeg)), none, none]) dX12_splits_18 rfl (by decide) rfl ?_
    refine hf_iload_n dX12_splits_19 rfl rfl ?_
    refine hf_bipush (v := 32) dX12_splits_20 (by decide) ?_
    refine hf_icmp_ne (tgt := 31) dX12_splits_22 (by decide) (fun hc => ?_) (fun hc => ?_)
    · replace h := h.1 hc
      exact h
    · replace h := h.2 hc
      refine hf_iinc (v := (x2 + 1)) (l2 := [some (.ref 156), some (.int x1), some (.int (x2 + 1)), some (.int (I 163 x2.toNatClampNeg)), none, none]) dX12_splits_25 (by decide) rfl rfl rfl ?_
      refine hf_goto (tgt := 7) dX12_splits_28 (by decide) ?_
      refine hf_drop (l' := [some (.ref 156), some (.int x1), some (.int (x2 + 1)), none, none, none]) (by simp [hf_sub]) ?_
      exact h

set_option maxHeartbeats 4000000 in
theorem w_X12_splits_31_x {X : hf_X} {d k n t : Nat} {T : hf_T} {I : hf_I} {L : hf_L} {P : hf_P} {Q : Option Value → hf_M → Prop} {x1 : Int32} {x2 : Int32} {x3 : Int32} (hs : hf_Lay t T P) (h : (x3 < 97 → hf_G X Y_X12_splits (d + 1) k n 68 [some (.ref 156), some (.int x1), some (.int x2), some (.int x3), some (.int (x2 + 1)), none] [] (t, T, I, L, P) Q) ∧ (¬ (x3 < 97) → (122 < x3 → hf_G X Y_X12_splits (d + 1) k n 68 [some (.ref 156), some (.int x1), some (.int x2), some (.int x3), some (.int (x2 + 1)), none] [] (t, T, I, L, P) Q) ∧ (¬ (122 < x3) → hf_G X Y_X12_splits (d + 1) k n 43 [some (.ref 156), some (.int x1), some (.int x2), some (.int x3), some (.int (x2 + 1)), none] [] (t, T, I, L, P) Q))) : hf_G X Y_X12_splits (d + 1) k n 31 [some (.ref 156), some (.int x1), some (.int x2), some (.int x3), none, none] [] (t, T, I, L, P) Q := by
  refine hf_iload_n dX12_splits_31 rfl rfl ?_
  refine hf_iconst (v := 1) dX12_splits_32 (by decide) ?_
  refine hf_iadd dX12_splits_33 ?_
  refine hf_istore (l2 := [some (.ref 156), some (.int x1), some (.int x2), some (.int x3), some (.int (x2 + 1)), none]) dX12_splits_34 (by decide) rfl ?_
  refine hf_iload_n dX12_splits_36 rfl rfl ?_
  refine hf_callS (as := [.int x3]) ok_X12_isSmall dX12_splits_37 hw1289 hw1290 rfl (Nat.le_of_ble_eq_true rfl) rfl (Nat.le_of_ble_eq_true rfl) (Nat.zero_le _) (Nat.zero_le _) ?_
  show hf_G X Y_X12_isSmall d _ _ 0 [some (.int x3)] [] (t, T, I, L, P) _
  refine hf_iload_n dX12_isSmall_0 rfl rfl ?_
  refine hf_bipush (v := 97) dX12_isSmall_1 (by decide) ?_
  refine hf_icmp_lt (tgt := 16) dX12_isSmall_3 (by decide) (fun hc => ?_) (fun hc => ?_)
  · replace h := h.1 hc
    refine hf_iconst (v := 0) dX12_isSmall_16 (by decide) ?_
    refine hf_ireturn dX12_isSmall_17 rfl (by decide) ?_
    show hf_G X Y_X12_splits (d + 1) _ _ 40 [some (.ref 156), some (.int x1), some (.int x2), some (.int x3), some (.int (x2 + 1)), none] [.int 0] (t, T, I, L, P) _
    refine hf_if_eq (tgt := 68) dX12_splits_40 (by decide) (fun _ => ?_) (fun hc => absurd (show (0 : Int32) = (0 : Int32) by decide) hc)
    exact h
  · replace h := h.2 hc
    refine hf_iload_n dX12_isSmall_6 rfl rfl ?_
    refine hf_bipush (v := 122) dX12_isSmall_7 (by decide) ?_
    refine hf_icmp_gt (tgt := 16) dX12_isSmall_9 (by decide) (fun hc => ?_) (fun hc => ?_)
    · replace h := h.1 hc
      refine hf_iconst (v := 0) dX12_isSmall_16 (by decide) ?_
      refine hf_ireturn dX12_isSmall_17 rfl (by decide) ?_
      show hf_G X Y_X12_splits (d + 1) _ _ 40 [some (.ref 156), some (.int x1), some (.int x2), some (.int x3), some (.int (x2 + 1)), none] [.int 0] (t, T, I, L, P) _
      refine hf_if_eq (tgt := 68) dX12_splits_40 (by decide) (fun _ => ?_) (fun hc => absurd (show (0 : Int32) = (0 : Int32) by decide) hc)
      exact h
    · replace h := h.2 hc
      refine hf_iconst (v := 1) dX12_isSmall_12 (by decide) ?_
      refine hf_goto (tgt := 17) dX12_isSmall_13 (by decide) ?_
      refine hf_ireturn dX12_isSmall_17 rfl (by decide) ?_
      show hf_G X Y_X12_splits (d + 1) _ _ 40 [some (.ref 156), some (.int x1), some (.int x2), some (.int x3), some (.int (x2 + 1)), none] [.int 1] (t, T, I, L, P) _
      refine hf_if_eq (tgt := 68) dX12_splits_40 (by decide) (fun hc => absurd (show (1 : Int32) = (0 : Int32) from hc) (by decide)) (fun _ => ?_)
      exact h

set_option maxHeartbeats 4000000 in
theorem w_X12_splits_68_x {X : hf_X} {d k n t : Nat} {T : hf_T} {I : hf_I} {L : hf_L} {P : hf_P} {Q : Option Value → hf_M → Prop} {x1 : Int32} {x2 : Int32} {x3 : Int32} {x4 : Int32} (hs : hf_Lay t T P) (h : (x3 < 48 → hf_G X Y_X12_splits (d + 1) k n 100 [some (.ref 156), some (.int x1), some (.int x2), some (.int x3), some (.int x4), none] [] (t, T, I, L, P) Q) ∧ (¬ (x3 < 48) → (57 < x3 → hf_G X Y_X12_splits (d + 1) k n 100 [some (.ref 156), some (.int x1), some (.int x2), some (.int x3), some (.int x4), none] [] (t, T, I, L, P) Q) ∧ (¬ (57 < x3) → hf_G X Y_X12_splits (d + 1) k n 75 [some (.ref 156), some (.int x1), some (.int x2), some (.int x3), some (.int x4), none] [] (t, T, I, L, P) Q))) : hf_G X Y_X12_splits (d + 1) k n 68 [some (.ref 156), some (.int x1), some (.int x2), some (.int x3), some (.int x4), none] [] (t, T, I, L, P) Q := by
  refine hf_iload_n dX12_splits_68 rfl rfl ?_
  refine hf_callS (as := [.int x3]) ok_X12_isDigit dX12_splits_69 hw1292 hw1293 rfl (Nat.le_of_ble_eq_true rfl) rfl (Nat.le_of_ble_eq_true rfl) (Nat.zero_le _) (Nat.zero_le _) ?_
  show hf_G X Y_X12_isDigit d _ _ 0 [some (.int x3)] [] (t, T, I, L, P) _
  refine hf_iload_n dX12_isDigit_0 rfl rfl ?_
  refine hf_bipush (v := 48) dX12_isDigit_1 (by decide) ?_
  refine hf_icmp_lt (tgt := 16) dX12_isDigit_3 (by decide) (fun hc => ?_) (fun hc => ?_)
  · replace h := h.1 hc
    refine hf_iconst (v := 0) dX12_isDigit_16 (by decide) ?_
    refine hf_ireturn dX12_isDigit_17 rfl (by decide) ?_
    show hf_G X Y_X12_splits (d + 1) _ _ 72 [some (.ref 156), some (.int x1), some (.int x2), some (.int x3), some (.int x4), none] [.int 0] (t, T, I, L, P) _
    refine hf_if_eq (tgt := 100) dX12_splits_72 (by decide) (fun _ => ?_) (fun hc => absurd (show (0 : Int32) = (0 : Int32) by decide) hc)
    exact h
  · replace h := h.2 hc
    refine hf_iload_n dX12_isDigit_6 rfl rfl ?_
    refine hf_bipush (v := 57) dX12_isDigit_7 (by decide) ?_
    refine hf_icmp_gt (tgt := 16) dX12_isDigit_9 (by decide) (fun hc => ?_) (fun hc => ?_)
    · replace h := h.1 hc
      refine hf_iconst (v := 0) dX12_isDigit_16 (by decide) ?_
      refine hf_ireturn dX12_isDigit_17 rfl (by decide) ?_
      show hf_G X Y_X12_splits (d + 1) _ _ 72 [some (.ref 156), some (.int x1), some (.int x2), some (.int x3), some (.int x4), none] [.int 0] (t, T, I, L, P) _
      refine hf_if_eq (tgt := 100) dX12_splits_72 (by decide) (fun _ => ?_) (fun hc => absurd (show (0 : Int32) = (0 : Int32) by decide) hc)
      exact h
    · replace h := h.2 hc
      refine hf_iconst (v := 1) dX12_isDigit_12 (by decide) ?_
      refine hf_goto (tgt := 17) dX12_isDigit_13 (by decide) ?_
      refine hf_ireturn dX12_isDigit_17 rfl (by decide) ?_
      show hf_G X Y_X12_splits (d + 1) _ _ 72 [some (.ref 156), some (.int x1), some (.int x2), some (.int x3), some (.int x4), none] [.int 1] (t, T, I, L, P) _
      refine hf_if_eq (tgt := 100) dX12_splits_72 (by decide) (fun hc => absurd (show (1 : Int32) = (0 : Int32) from hc) (by decide)) (fun _ => ?_)
      exact h

set_option maxHeartbeats 4000000 in
theorem w_X12_splits_43_x {X : hf_X} {d k n t : Nat} {T : hf_T} {I : hf_I} {L : hf_L} {P : hf_P} {Q : Option Value → hf_M → Prop} {x1 : Int32} {x2 : Int32} {x3 : Int32} {x4 : Int32} (hs : hf_Lay t T P) (h : (x1 ≤ x4 → hf_G X Y_X12_splits (d + 1) k n 68 [some (.ref 156), some (.int x1), some (.int x2), some (.int x3), some (.int x4), none] [] (t, T, I, L, P) Q) ∧ (¬ (x1 ≤ x4) → vp_in x4 400 ∧ (((I 163 x4.toNatClampNeg) < 97 → hf_G X Y_X12_splits (d + 1) k n 68 [some (.ref 156), some (.int x1), some (.int x2), some (.int x3), some (.int x4), none] [] (t, T, I, L, P) Q) ∧ (¬ ((I 163 x4.toNatClampNeg) < 97) → (122 < (I 163 x4.toNatClampNeg) → hf_G X Y_X12_splits (d + 1) k n 68 [some (.ref 156), some (.int x1), some (.int x2), some (.int x3), some (.int x4), none] [] (t, T, I, L, P) Q) ∧ (¬ (122 < (I 163 x4.toNatClampNeg)) → hf_G X Y_X12_splits (d + 1) k n 43 [some (.ref 156), some (.int x1), some (.int x2), some (.int x3), some (.int (x4 + 1)), none] [] (t, T, I, L, P) Q))))) : hf_G X Y_X12_splits (d + 1) k n 43 [some (.ref 156), some (.int x1), some (.int x2), some (.int x3), some (.int x4), none] [] (t, T, I, L, P) Q := by
  refine hf_iload dX12_splits_43 rfl ?_
  refine hf_iload_n dX12_splits_45 rfl rfl ?_
  refine hf_icmp_ge (tgt := 68) dX12_splits_46 (by decide) (fun hc => ?_) (fun hc => ?_)
  · replace h := h.1 hc
    exact h
  · replace h := h.2 hc
    refine hf_aload_n dX12_splits_49 rfl rfl ?_
    refine hf_getr (b := 163) (c := 12) (j := 8) dX12_splits_50 (hs.2.1 156 _ rfl) (hf_lin hs 156 rfl) (by decide) (by decide) hw1044 rfl (hs.2.2 156 8 _ rfl) ?_
    refine hf_iload dX12_splits_53 rfl ?_
    refine hf_bald dX12_splits_55 (hs.2.1 163 _ rfl) (hf_lin hs 163 rfl) h.1 ?_
    replace h := h.2
    refine hf_callS (as := [.int (I 163 x4.toNatClampNeg)]) ok_X12_isSmall dX12_splits_56 hw1289 hw1290 rfl (Nat.le_of_ble_eq_true rfl) rfl (Nat.le_of_ble_eq_true rfl) (Nat.zero_le _) (Nat.zero_le _) ?_
    show hf_G X Y_X12_isSmall d _ _ 0 [some (.int (I 163 x4.toNatClampNeg))] [] (t, T, I, L, P) _
    refine hf_iload_n dX12_isSmall_0 rfl rfl ?_
    refine hf_bipush (v := 97) dX12_isSmall_1 (by decide) ?_
    refine hf_icmp_lt (tgt := 16) dX12_isSmall_3 (by decide) (fun hc => ?_) (fun hc => ?_)
    · replace h := h.1 hc
      refine hf_iconst (v := 0) dX12_isSmall_16 (by decide) ?_
      refine hf_ireturn dX12_isSmall_17 rfl (by decide) ?_
      show hf_G X Y_X12_splits (d + 1) _ _ 59 [some (.ref 156), some (.int x1), some (.int x2), some (.int x3), some (.int x4), none] [.int 0] (t, T, I, L, P) _
      refine hf_if_eq (tgt := 68) dX12_splits_59 (by decide) (fun _ => ?_) (fun hc => absurd (show (0 : Int32) = (0 : Int32) by decide) hc)
      exact h
    · replace h := h.2 hc
      refine hf_iload_n dX12_isSmall_6 rfl rfl ?_
      refine hf_bipush (v := 122) dX12_isSmall_7 (by decide) ?_
      refine hf_icmp_gt (tgt := 16) dX12_isSmall_9 (by decide) (fun hc => ?_) (fun hc => ?_)
      · replace h := h.1 hc
        refine hf_iconst (v := 0) dX12_isSmall_16 (by decide) ?_
        refine hf_ireturn dX12_isSmall_17 rfl (by decide) ?_
        show hf_G X Y_X12_splits (d + 1) _ _ 59 [some (.ref 156), some (.int x1), some (.int x2), some (.int x3), some (.int x4), none] [.int 0] (t, T, I, L, P) _
        refine hf_if_eq (tgt := 68) dX12_splits_59 (by decide) (fun _ => ?_) (fun hc => absurd (show (0 : Int32) = (0 : Int32) by decide) hc)
        exact h
      · replace h := h.2 hc
        refine hf_iconst (v := 1) dX12_isSmall_12 (by decide) ?_
        refine hf_goto (tgt := 17) dX12_isSmall_13 (by decide) ?_
        refine hf_ireturn dX12_isSmall_17 rfl (by decide) ?_
        show hf_G X Y_X12_splits (d + 1) _ _ 59 [some (.ref 156), some (.int x1), some (.int x2), some (.int x3), some (.int x4), none] [.int 1] (t, T, I, L, P) _
        refine hf_if_eq (tgt := 68) dX12_splits_59 (by decide) (fun hc => absurd (show (1 : Int32) = (0 : Int32) from hc) (by decide)) (fun _ => ?_)
        refine hf_iinc (v := (x4 + 1)) (l2 := [some (.ref 156), some (.int x1), some (.int x2), some (.int x3), some (.int (x4 + 1)), none]) dX12_splits_62 (by decide) rfl rfl rfl ?_
        refine hf_goto (tgt := 43) dX12_splits_65 (by decide) ?_
        exact h

set_option maxHeartbeats 4000000 in
theorem w_X12_splits_100_x {X : hf_X} {d k n t : Nat} {T : hf_T} {I : hf_I} {L : hf_L} {P : hf_P} {Q : Option Value → hf_M → Prop} {x1 : Int32} {x2 : Int32} {x3 : Int32} {x4 : Int32} (hs : hf_Lay t T P) (h : vp_in (I 156 15) 401 ∧ (vp_in (I 156 15) 401 ∧ ((x3 < 97 → hf_G X Y_X12_splits (d + 1) k n 145 [some (.ref 156), some (.int x1), some (.int x2), some (.int x3), some (.int x4), none] [.int (I 156 15), .ref 165] (t, T, (hf_up (hf_up I 167 (((I 156 15)).toNatClampNeg) x2) 166 (((I 156 15)).toNatClampNeg) 0), L, P) Q) ∧ (¬ (x3 < 97) → (122 < x3 → hf_G X Y_X12_splits (d + 1) k n 145 [some (.ref 156), some (.int x1), some (.int x2), some (.int x3), some (.int x4), none] [.int (I 156 15), .ref 165] (t, T, (hf_up (hf_up I 167 (((I 156 15)).toNatClampNeg) x2) 166 (((I 156 15)).toNatClampNeg) 0), L, P) Q) ∧ (¬ (122 < x3) → hf_G X Y_X12_wordAt d 0 0 0 (hf_en [.ref 156, .int x2, .int x4] 8) [] (t, T, (hf_up (hf_up I 167 (((I 156 15)).toNatClampNeg) x2) 166 (((I 156 15)).toNatClampNeg) 0), L, P) (fun r M => hf_G X Y_X12_splits (d + 1) k n 142 [some (.ref 156), some (.int x1), some (.int x2), some (.int x3), some (.int x4), none] (r.toList ++ [.int (I 156 15), .ref 165]) M Q)))))) : hf_G X Y_X12_splits (d + 1) k n 100 [some (.ref 156), some (.int x1), some (.int x2), some (.int x3), some (.int x4), none] [] (t, T, I, L, P) Q := by
  refine hf_aload_n dX12_splits_100 rfl rfl ?_
  refine hf_getr (b := 167) (c := 12) (j := 14) dX12_splits_101 (hs.2.1 156 _ rfl) (hf_lin hs 156 rfl) (by decide) (by decide) hw1050 rfl (hs.2.2 156 14 _ rfl) ?_
  refine hf_aload_n dX12_splits_104 rfl rfl ?_
  refine hf_geti (c := 12) (j := 15) dX12_splits_105 (hs.2.1 156 _ rfl) (hf_lin hs 156 rfl) (by decide) (by decide) hw1051 (Or.inl rfl) ?_
  refine hf_iload_n dX12_splits_108 rfl rfl ?_
  refine hf_iast dX12_splits_109 (hs.2.1 167 _ rfl) (hf_lin hs 167 rfl) h.1 ?_
  replace h := h.2
  refine hf_aload_n dX12_splits_110 rfl rfl ?_
  refine hf_getr (b := 166) (c := 12) (j := 13) dX12_splits_111 (hs.2.1 156 _ rfl) (hf_lin hs 156 rfl) (by decide) (by decide) hw1049 rfl (hs.2.2 156 13 _ rfl) ?_
  refine hf_aload_n dX12_splits_114 rfl rfl ?_
  refine hf_geti (c := 12) (j := 15) dX12_splits_115 (hs.2.1 156 _ rfl) (hf_lin hs 156 rfl) (by decide) (by decide) hw1051 (Or.inl rfl) ?_
  refine hf_iconst (v := 0) dX12_splits_118 (by decide) ?_
  refine hf_iast dX12_splits_119 (hs.2.1 166 _ rfl) (hf_lin hs 166 rfl) h.1 ?_
  replace h := h.2
  refine hf_aload_n dX12_splits_120 rfl rfl ?_
  refine hf_getr (b := 165) (c := 12) (j := 12) dX12_splits_121 (hs.2.1 156 _ rfl) (hf_lin hs 156 rfl) (by decide) (by decide) hw1048 rfl (hs.2.2 156 12 _ rfl) ?_
  refine hf_aload_n dX12_splits_124 rfl rfl ?_
  refine hf_geti (c := 12) (j := 15) dX12_splits_125 (hs.2.1 156 _ rfl) (hf_lin hs 156 rfl) (by decide) (by decide) hw1051 (Or.inl rfl) ?_
  refine hf_iload_n dX12_splits_128 rfl rfl ?_
  refine hf_callS (as := [.int x3]) ok_X12_isSmall dX12_splits_129 hw1289 hw1290 rfl (Nat.le_of_ble_eq_true rfl) rfl (Nat.le_of_ble_eq_true rfl) (Nat.zero_le _) (Nat.zero_le _) ?_
  show hf_G X Y_X12_isSmall d _ _ 0 [some (.int x3)] [] (t, T, (hf_up (hf_up I 167 (((I 156 15)).toNatClampNeg) x2) 166 (((I 156 15)).toNatClampNeg) 0), L, P) _
  refine hf_iload_n dX12_isSmall_0 rfl rfl ?_
  refine hf_bipush (v := 97) dX12_isSmall_1 (by decide) ?_
  refine hf_icmp_lt (tgt := 16) dX12_isSmall_3 (by decide) (fun hc => ?_) (fun hc => ?_)
  · replace h := h.1 hc
    refine hf_iconst (v := 0) dX12_isSmall_16 (by decide) ?_
    refine hf_ireturn dX12_isSmall_17 rfl (by decide) ?_
    show hf_G X Y_X12_splits (d + 1) _ _ 132 [some (.ref 156), some (.int x1), some (.int x2), some (.int x3), some (.int x4), none] [.int 0, .int (I 156 15), .ref 165] (t, T, (hf_up (hf_up I 167 (((I 156 15)).toNatClampNeg) x2) 166 (((I 156 15)).toNatClampNeg) 0), L, P) _
    refine hf_if_eq (tgt := 145) dX12_splits_132 (by decide) (fun _ => ?_) (fun hc => absurd (show (0 : Int32) = (0 : Int32) by decide) hc)
    exact h
  · replace h := h.2 hc
    refine hf_iload_n dX12_isSmall_6 rfl rfl ?_
    refine hf_bipush (v := 122) dX12_isSmall_7 (by decide) ?_
    refine hf_icmp_gt (tgt := 16) dX12_isSmall_9 (by decide) (fun hc => ?_) (fun hc => ?_)
    · replace h := h.1 hc
      refine hf_iconst (v := 0) dX12_isSmall_16 (by decide) ?_
      refine hf_ireturn dX12_isSmall_17 rfl (by decide) ?_
      show hf_G X Y_X12_splits (d + 1) _ _ 132 [some (.ref 156), some (.int x1), some (.int x2), some (.int x3), some (.int x4), none] [.int 0, .int (I 156 15), .ref 165] (t, T, (hf_up (hf_up I 167 (((I 156 15)).toNatClampNeg) x2) 166 (((I 156 15)).toNatClampNeg) 0), L, P) _
      refine hf_if_eq (tgt := 145) dX12_splits_132 (by decide) (fun _ => ?_) (fun hc => absurd (show (0 : Int32) = (0 : Int32) by decide) hc)
      exact h
    · replace h := h.2 hc
      refine hf_iconst (v := 1) dX12_isSmall_12 (by decide) ?_
      refine hf_goto (tgt := 17) dX12_isSmall_13 (by decide) ?_
      refine hf_ireturn dX12_isSmall_17 rfl (by decide) ?_
      show hf_G X Y_X12_splits (d + 1) _ _ 132 [some (.ref 156), some (.int x1), some (.int x2), some (.int x3), some (.int x4), none] [.int 1, .int (I 156 15), .ref 165] (t, T, (hf_up (hf_up I 167 (((I 156 15)).toNatClampNeg) x2) 166 (((I 156 15)).toNatClampNeg) 0), L, P) _
      refine hf_if_eq (tgt := 145) dX12_splits_132 (by decide) (fun hc => absurd (show (1 : Int32) = (0 : Int32) from hc) (by decide)) (fun _ => ?_)
      refine hf_aload_n dX12_splits_135 rfl rfl ?_
      refine hf_iload_n dX12_splits_136 rfl rfl ?_
      refine hf_iload dX12_splits_137 rfl ?_
      exact hf_callV (c := 12) (as := [.int x2, .int x4]) ok_X12_wordAt dX12_splits_139 hw1295 hw1296 hw1628 (hs.2.1 156 _ rfl) (by decide) (hf_lin hs 156 rfl) rfl (Nat.le_of_ble_eq_true rfl) rfl (Nat.le_of_ble_eq_true rfl) (Nat.zero_le _) (Nat.zero_le _) h

set_option maxHeartbeats 4000000 in
theorem w_X12_splits_75_x {X : hf_X} {d k n t : Nat} {T : hf_T} {I : hf_I} {L : hf_L} {P : hf_P} {Q : Option Value → hf_M → Prop} {x1 : Int32} {x2 : Int32} {x3 : Int32} {x4 : Int32} (hs : hf_Lay t T P) (h : (x1 ≤ x4 → hf_G X Y_X12_splits (d + 1) k n 100 [some (.ref 156), some (.int x1), some (.int x2), some (.int x3), some (.int x4), none] [] (t, T, I, L, P) Q) ∧ (¬ (x1 ≤ x4) → vp_in x4 400 ∧ (((I 163 x4.toNatClampNeg) < 48 → hf_G X Y_X12_splits (d + 1) k n 100 [some (.ref 156), some (.int x1), some (.int x2), some (.int x3), some (.int x4), none] [] (t, T, I, L, P) Q) ∧ (¬ ((I 163 x4.toNatClampNeg) < 48) → (57 < (I 163 x4.toNatClampNeg) → hf_G X Y_X12_splits (d + 1) k n 100 [some (.ref 156), some (.int x1), some (.int x2), some (.int x3), some (.int x4), none] [] (t, T, I, L, P) Q) ∧ (¬ (57 < (I 163 x4.toNatClampNeg)) → hf_G X Y_X12_splits (d + 1) k n 75 [some (.ref 156), some (.int x1), some (.int x2), some (.int x3), some (.int (x4 + 1)), none] [] (t, T, I, L, P) Q))))) : hf_G X Y_X12_splits (d + 1) k n 75 [some (.ref 156), some (.int x1), some (.int x2), some (.int x3), some (.int x4), none] [] (t, T, I, L, P) Q := by
  refine hf_iload dX12_splits_75 rfl ?_
  refine hf_iload_n dX12_splits_77 rfl rfl ?_
  refine hf_icmp_ge (tgt := 100) dX12_splits_78 (by decide) (fun hc => ?_) (fun hc => ?_)
  · replace h := h.1 hc
    exact h
  · replace h := h.2 hc
    refine hf_aload_n dX12_splits_81 rfl rfl ?_
    refine hf_getr (b := 163) (c := 12) (j := 8) dX12_splits_82 (hs.2.1 156 _ rfl) (hf_lin hs 156 rfl) (by decide) (by decide) hw1044 rfl (hs.2.2 156 8 _ rfl) ?_
    refine hf_iload dX12_splits_85 rfl ?_
    refine hf_bald dX12_splits_87 (hs.2.1 163 _ rfl) (hf_lin hs 163 rfl) h.1 ?_
    replace h := h.2
    refine hf_callS (as := [.int (I 163 x4.toNatClampNeg)]) ok_X12_isDigit dX12_splits_88 hw1292 hw1293 rfl (Nat.le_of_ble_eq_true rfl) rfl (Nat.le_of_ble_eq_true rfl) (Nat.zero_le _) (Nat.zero_le _) ?_
    show hf_G X Y_X12_isDigit d _ _ 0 [some (.int (I 163 x4.toNatClampNeg))] [] (t, T, I, L, P) _
    refine hf_iload_n dX12_isDigit_0 rfl rfl ?_
    refine hf_bipush (v := 48) dX12_isDigit_1 (by decide) ?_
    refine hf_icmp_lt (tgt := 16) dX12_isDigit_3 (by decide) (fun hc => ?_) (fun hc => ?_)
    · replace h := h.1 hc
      refine hf_iconst (v := 0) dX12_isDigit_16 (by decide) ?_
      refine hf_ireturn dX12_isDigit_17 rfl (by decide) ?_
      show hf_G X Y_X12_splits (d + 1) _ _ 91 [some (.ref 156), some (.int x1), some (.int x2), some (.int x3), some (.int x4), none] [.int 0] (t, T, I, L, P) _
      refine hf_if_eq (tgt := 100) dX12_splits_91 (by decide) (fun _ => ?_) (fun hc => absurd (show (0 : Int32) = (0 : Int32) by decide) hc)
      exact h
    · replace h := h.2 hc
      refine hf_iload_n dX12_isDigit_6 rfl rfl ?_
      refine hf_bipush (v := 57) dX12_isDigit_7 (by decide) ?_
      refine hf_icmp_gt (tgt := 16) dX12_isDigit_9 (by decide) (fun hc => ?_) (fun hc => ?_)
      · replace h := h.1 hc
        refine hf_iconst (v := 0) dX12_isDigit_16 (by decide) ?_
        refine hf_ireturn dX12_isDigit_17 rfl (by decide) ?_
        show hf_G X Y_X12_splits (d + 1) _ _ 91 [some (.ref 156), some (.int x1), some (.int x2), some (.int x3), some (.int x4), none] [.int 0] (t, T, I, L, P) _
        refine hf_if_eq (tgt := 100) dX12_splits_91 (by decide) (fun _ => ?_) (fun hc => absurd (show (0 : Int32) = (0 : Int32) by decide) hc)
        exact h
      · replace h := h.2 hc
        refine hf_iconst (v := 1) dX12_isDigit_12 (by decide) ?_
        refine hf_goto (tgt := 17) dX12_isDigit_13 (by decide) ?_
        refine hf_ireturn dX12_isDigit_17 rfl (by decide) ?_
        show hf_G X Y_X12_splits (d + 1) _ _ 91 [some (.ref 156), some (.int x1), some (.int x2), some (.int x3), some (.int x4), none] [.int 1] (t, T, I, L, P) _
        refine hf_if_eq (tgt := 100) dX12_splits_91 (by decide) (fun hc => absurd (show (1 : Int32) = (0 : Int32) from hc) (by decide)) (fun _ => ?_)
        refine hf_iinc (v := (x4 + 1)) (l2 := [some (.ref 156), some (.int x1), some (.int x2), some (.int x3), some (.int (x4 + 1)), none]) dX12_splits_94 (by decide) rfl rfl rfl ?_
        refine hf_goto (tgt := 75) dX12_splits_97 (by decide) ?_
        exact h

set_option maxHeartbeats 4000000 in
theorem w_X12_splits_145_x {X : hf_X} {d k n t : Nat} {T : hf_T} {I : hf_I} {L : hf_L} {P : hf_P} {Q : Option Value → hf_M → Prop} {x1 : Int32} {x2 : Int32} {x3 : Int32} {x4 : Int32} {s0 : Int32} (hs : hf_Lay t T P) (h : (x3 < 48 → hf_G X Y_X12_splits (d + 1) k n 165 [some (.ref 156), some (.int x1), some (.int x2), some (.int x3), some (.int x4), none] [.int (100 + (x3 &&& 255)), .int s0, .ref 165] (t, T, I, L, P) Q) ∧ (¬ (x3 < 48) → (57 < x3 → hf_G X Y_X12_splits (d + 1) k n 165 [some (.ref 156), some (.int x1), some (.int x2), some (.int x3), some (.int x4), none] [.int (100 + (x3 &&& 255)), .int s0, .ref 165] (t, T, I, L, P) Q) ∧ (¬ (57 < x3) → hf_G X Y_X12_splits (d + 1) k n 165 [some (.ref 156), some (.int x1), some (.int x2), some (.int x3), some (.int x4), none] [.int 50, .int s0, .ref 165] (t, T, I, L, P) Q))) : hf_G X Y_X12_splits (d + 1) k n 145 [some (.ref 156), some (.int x1), some (.int x2), some (.int x3), some (.int x4), none] [.int s0, .ref 165] (t, T, I, L, P) Q := by
  refine hf_iload_n dX12_splits_145 rfl rfl ?_
  refine hf_callS (as := [.int x3]) ok_X12_isDigit dX12_splits_146 hw1292 hw1293 rfl (Nat.le_of_ble_eq_true rfl) rfl (Nat.le_of_ble_eq_true rfl) (Nat.zero_le _) (Nat.zero_le _) ?_
  show hf_G X Y_X12_isDigit d _ _ 0 [some (.int x3)] [] (t, T, I, L, P) _
  refine hf_iload_n dX12_isDigit_0 rfl rfl ?_
  refine hf_bipush (v := 48) dX12_isDigit_1 (by decide) ?_
  refine hf_icmp_lt (tgt := 16) dX12_isDigit_3 (by decide) (fun hc => ?_) (fun hc => ?_)
  · replace h := h.1 hc
    refine hf_iconst (v := 0) dX12_isDigit_16 (by decide) ?_
    refine hf_ireturn dX12_isDigit_17 rfl (by decide) ?_
    show hf_G X Y_X12_splits (d + 1) _ _ 149 [some (.ref 156), some (.int x1), some (.int x2), some (.int x3), some (.int x4), none] [.int 0, .int s0, .ref 165] (t, T, I, L, P) _
    refine hf_if_eq (tgt := 157) dX12_splits_149 (by decide) (fun _ => ?_) (fun hc => absurd (show (0 : Int32) = (0 : Int32) by decide) hc)
    refine hf_bipush (v := 100) dX12_splits_157 (by decide) ?_
    refine hf_iload_n dX12_splits_159 rfl rfl ?_
    refine hf_sipush (v := 255) dX12_splits_160 (by decide) ?_
    refine hf_iand dX12_splits_163 ?_
    refine hf_iadd dX12_splits_164 ?_
    exact h
  · replace h := h.2 hc
    refine hf_iload_n dX12_isDigit_6 rfl rfl ?_
    refine hf_bipush (v := 57) dX12_isDigit_7 (by decide) ?_
    refine hf_icmp_gt (tgt := 16) dX12_isDigit_9 (by decide) (fun hc => ?_) (fun hc => ?_)
    · replace h := h.1 hc
      refine hf_iconst (v := 0) dX12_isDigit_16 (by decide) ?_
      refine hf_ireturn dX12_isDigit_17 rfl (by decide) ?_
      show hf_G X Y_X12_splits (d + 1) _ _ 149 [some (.ref 156), some (.int x1), some (.int x2), some (.int x3), some (.int x4), none] [.int 0, .int s0, .ref 165] (t, T, I, L, P) _
      refine hf_if_eq (tgt := 157) dX12_splits_149 (by decide) (fun _ => ?_) (fun hc => absurd (show (0 : Int32) = (0 : Int32) by decide) hc)
      refine hf_bipush (v := 100) dX12_splits_157 (by decide) ?_
      refine hf_iload_n dX12_splits_159 rfl rfl ?_
      refine hf_sipush (v := 255) dX12_splits_160 (by decide) ?_
      refine hf_iand dX12_splits_163 ?_
      refine hf_iadd dX12_splits_164 ?_
      exact h
    · replace h := h.2 hc
      refine hf_iconst (v := 1) dX12_isDigit_12 (by decide) ?_
      refine hf_goto (tgt := 17) dX12_isDigit_13 (by decide) ?_
      refine hf_ireturn dX12_isDigit_17 rfl (by decide) ?_
      show hf_G X Y_X12_splits (d + 1) _ _ 149 [some (.ref 156), some (.int x1), some (.int x2), some (.int x3), some (.int x4), none] [.int 1, .int s0, .ref 165] (t, T, I, L, P) _
      refine hf_if_eq (tgt := 157) dX12_splits_149 (by decide) (fun hc => absurd (show (1 : Int32) = (0 : Int32) from hc) (by decide)) (fun _ => ?_)
      refine hf_bipush (v := 50) dX12_splits_152 (by decide) ?_
      refine hf_goto (tgt := 165) dX12_splits_154 (by decide) ?_
      exact h

set_option maxHeartbeats 4000000 in
theorem w_X12_splits_142_x {X : hf_X} {d k n t : Nat} {T : hf_T} {I : hf_I} {L : hf_L} {P : hf_P} {Q : Option Value → hf_M → Prop} {x1 : Int32} {x2 : Int32} {x3 : Int32} {x4 : Int32} {s0 : Int32} {s1 : Int32} (hs : hf_Lay t T P) (h : hf_G X Y_X12_splits d k n 165 [some (.ref 156), some (.int x1), some (.int x2), some (.int x3), some (.int x4), none] [.int s0, .int s1, .ref 165] (t, T, I, L, P) Q) : hf_G X Y_X12_splits d k n 142 [some (.ref 156), some (.int x1), some (.int x2), some (.int x3), some (.int x4), none] [.int s0, .int s1, .ref 165] (t, T, I, L, P) Q := by
  refine hf_goto (tgt := 165) dX12_splits_142 (by decide) ?_
  exact h

set_option maxHeartbeats 4000000 in
theorem w_X12_splits_165_x {X : hf_X} {d k n t : Nat} {T : hf_T} {I : hf_I} {L : hf_L} {P : hf_P} {Q : Option Value → hf_M → Prop} {x1 : Int32} {x2 : Int32} {x3 : Int32} {x4 : Int32} {s0 : Int32} {s1 : Int32} (hs : hf_Lay t T P) (h : vp_in s1 401 ∧ (hf_G X Y_X12_splits d k n 169 [some (.ref 156), some (.int x1), none, some (.int x3), some (.int x4), some (.int x2)] [] (t, T, (hf_up I 165 s1.toNatClampNeg s0), L, P) Q)) : hf_G X Y_X12_splits d k n 165 [some (.ref 156), some (.int x1), some (.int x2), some (.int x3), some (.int x4), none] [.int s0, .int s1, .ref 165] (t, T, I, L, P) Q := by
  refine hf_iast dX12_splits_165 (hs.2.1 165 _ rfl) (hf_lin hs 165 rfl) h.1 ?_
  replace h := h.2
  refine hf_iload_n dX12_splits_166 rfl rfl ?_
  refine hf_istore (l2 := [some (.ref 156), some (.int x1), some (.int x2), some (.int x3), some (.int x4), some (.int x2)]) dX12_splits_167 (by decide) rfl ?_
  refine hf_drop (l' := [some (.ref 156), some (.int x1), none, some (.int x3), some (.int x4), some (.int x2)]) (by simp [hf_sub]) ?_
  exact h

set_option maxHeartbeats 4000000 in
theorem w_X12_splits_169_x {X : hf_X} {d k n t : Nat} {T : hf_T} {I : hf_I} {L : hf_L} {P : hf_P} {Q : Option Value → hf_M → Prop} {x1 : Int32} {x3 : Int32} {x4 : Int32} {x5 : Int32} (hs : hf_Lay t T P) (h : (x4 ≤ x5 → hf_G X Y_X12_splits (d + 1) k n 247 [some (.ref 156), some (.int x1), none, none, some (.int x4), none] [] (t, T, I, L, P) Q) ∧ (¬ (x4 ≤ x5) → (x3 < 48 → hf_G X Y_X12_splits (d + 1) k n 247 [some (.ref 156), some (.int x1), none, none, some (.int x4), none] [] (t, T, I, L, P) Q) ∧ (¬ (x3 < 48) → (57 < x3 → hf_G X Y_X12_splits (d + 1) k n 247 [some (.ref 156), some (.int x1), none, none, some (.int x4), none] [] (t, T, I, L, P) Q) ∧ (¬ (57 < x3) → hf_G X Y_X12_splits (d + 1) k n 183 [some (.ref 156), some (.int x1), none, some (.int x3), some (.int x4), some (.int x5)] [] (t, T, I, L, P) Q)))) : hf_G X Y_X12_splits (d + 1) k n 169 [some (.ref 156), some (.int x1), none, some (.int x3), some (.int x4), some (.int x5)] [] (t, T, I, L, P) Q := by
  refine hf_iload dX12_splits_169 rfl ?_
  refine hf_iload dX12_splits_171 rfl ?_
  refine hf_icmp_ge (tgt := 247) dX12_splits_173 (by decide) (fun hc => ?_) (fun hc => ?_)
  · replace h := h.1 hc
    refine hf_drop (l' := [some (.ref 156), some (.int x1), none, none, some (.int x4), none]) (by simp [hf_sub]) ?_
    exact h
  · replace h := h.2 hc
    refine hf_iload_n dX12_splits_176 rfl rfl ?_
    refine hf_callS (as := [.int x3]) ok_X12_isDigit dX12_splits_177 hw1292 hw1293 rfl (Nat.le_of_ble_eq_true rfl) rfl (Nat.le_of_ble_eq_true rfl) (Nat.zero_le _) (Nat.zero_le _) ?_
    show hf_G X Y_X12_isDigit d _ _ 0 [some (.int x3)] [] (t, T, I, L, P) _
    refine hf_iload_n dX12_isDigit_0 rfl rfl ?_
    refine hf_bipush (v := 48) dX12_isDigit_1 (by decide) ?_
    refine hf_icmp_lt (tgt := 16) dX12_isDigit_3 (by decide) (fun hc => ?_) (fun hc => ?_)
    · replace h := h.1 hc
      refine hf_iconst (v := 0) dX12_isDigit_16 (by decide) ?_
      refine hf_ireturn dX12_isDigit_17 rfl (by decide) ?_
      show hf_G X Y_X12_splits (d + 1) _ _ 180 [some (.ref 156), some (.int x1), none, some (.int x3), some (.int x4), some (.int x5)] [.int 0] (t, T, I, L, P) _
      refine hf_if_eq (tgt := 247) dX12_splits_180 (by decide) (fun _ => ?_) (fun hc => absurd (show (0 : Int32) = (0 : Int32) by decide) hc)
      refine hf_drop (l' := [some (.ref 156), some (.int x1), none, none, some (.int x4), none]) (by simp [hf_sub]) ?_
      exact h
    · replace h := h.2 hc
      refine hf_iload_n dX12_isDigit_6 rfl rfl ?_
      refine hf_bipush (v := 57) dX12_isDigit_7 (by decide) ?_
      refine hf_icmp_gt (tgt := 16) dX12_isDigit_9 (by decide) (fun hc => ?_) (fun hc => ?_)
      · replace h := h.1 hc
        refine hf_iconst (v := 0) dX12_isDigit_16 (by decide) ?_
        refine hf_ireturn dX12_isDigit_17 rfl (by decide) ?_
        show hf_G X Y_X12_splits (d + 1) _ _ 180 [some (.ref 156), some (.int x1), none, some (.int x3), some (.int x4), some (.int x5)] [.int 0] (t, T, I, L, P) _
        refine hf_if_eq (tgt := 247) dX12_splits_180 (by decide) (fun _ => ?_) (fun hc => absurd (show (0 : Int32) = (0 : Int32) by decide) hc)
        refine hf_drop (l' := [some (.ref 156), some (.int x1), none, none, some (.int x4), none]) (by simp [hf_sub]) ?_
        exact h
      · replace h := h.2 hc
        refine hf_iconst (v := 1) dX12_isDigit_12 (by decide) ?_
        refine hf_goto (tgt := 17) dX12_isDigit_13 (by decide) ?_
        refine hf_ireturn dX12_isDigit_17 rfl (by decide) ?_
        show hf_G X Y_X12_splits (d + 1) _ _ 180 [some (.ref 156), some (.int x1), none, some (.int x3), some (.int x4), some (.int x5)] [.int 1] (t, T, I, L, P) _
        refine hf_if_eq (tgt := 247) dX12_splits_180 (by decide) (fun hc => absurd (show (1 : Int32) = (0 : Int32) from hc) (by decide)) (fun _ => ?_)
        exact h

set_option maxHeartbeats 4000000 in
theorem w_X12_splits_247_x {X : hf_X} {d k n t : Nat} {T : hf_T} {I : hf_I} {L : hf_L} {P : hf_P} {Q : Option Value → hf_M → Prop} {x1 : Int32} {x4 : Int32} (hs : hf_Lay t T P) (h : hf_G X Y_X12_splits d k n 7 [some (.ref 156), some (.int x1), some (.int x4), none, none, none] [] (t, T, (hf_up I 156 15 ((I 156 15) + 1)), L, P) Q) : hf_G X Y_X12_splits d k n 247 [some (.ref 156), some (.int x1), none, none, some (.int x4), none] [] (t, T, I, L, P) Q := by
  refine hf_aload_n dX12_splits_247 rfl rfl ?_
  refine hf_dup dX12_splits_248 rfl ?_
  refine hf_geti (c := 12) (j := 15) dX12_splits_249 (hs.2.1 156 _ rfl) (hf_lin hs 156 rfl) (by decide) (by decide) hw1051 (Or.inl rfl) ?_
  refine hf_iconst (v := 1) dX12_splits_252 (by decide) ?_
  refine hf_iadd dX12_splits_253 ?_
  refine hf_puti (c := 12) (j := 15) dX12_splits_254 (hs.2.1 156 _ rfl) (hf_lin hs 156 rfl) (by decide) (by decide) hw1051 rfl rfl ?_
  refine hf_iload dX12_splits_257 rfl ?_
  refine hf_istore_n (l2 := [some (.ref 156), some (.int x1), some (.int x4), none, some (.int x4), none]) dX12_splits_259 rfl (by decide) rfl ?_
  refine hf_goto (tgt := 7) dX12_splits_260 (by decide) ?_
  refine hf_drop (l' := [some (.ref 156), some (.int x1), some (.int x4), none, none, none]) (by simp [hf_sub]) ?_
  exact h

set_option maxHeartbeats 4000000 in
theorem w_X12_splits_183_x {X : hf_X} {d k n t : Nat} {T : hf_T} {I : hf_I} {L : hf_L} {P : hf_P} {Q : Option Value → hf_M → Prop} {x1 : Int32} {x3 : Int32} {x4 : Int32} {x5 : Int32} (hs : hf_Lay t T P) (h : vp_in (I 156 15) 401 ∧ (((I 166 (((I 156 15)).toNatClampNeg)) ≤ 1000000 → vp_in (I 156 15) 401 ∧ (vp_in x5 400 ∧ (vp_in (I 156 15) 401 ∧ (hf_G X Y_X12_splits d k n 169 [some (.ref 156), some (.int x1), none, some (.int x3), some (.int x4), some (.int (x5 + 1))] [] (t, T, (hf_up I 166 (((I 156 15)).toNatClampNeg) (((10 * (I 166 (((I 156 15)).toNatClampNeg))) + (I 163 x5.toNatClampNeg)) - 48)), L, P) Q)))) ∧ (¬ ((I 166 (((I 156 15)).toNatClampNeg)) ≤ 1000000) → vp_in (I 156 15) 401 ∧ (vp_in (I 156 15) 401 ∧ (hf_G X Y_X12_splits d k n 169 [some (.ref 156), some (.int x1), none, some (.int x3), some (.int x4), some (.int (x5 + 1))] [] (t, T, (hf_up I 166 (((I 156 15)).toNatClampNeg) (I 166 (((I 156 15)).toNatClampNeg))), L, P) Q))))) : hf_G X Y_X12_splits d k n 183 [some (.ref 156), some (.int x1), none, some (.int x3), some (.int x4), some (.int x5)] [] (t, T, I, L, P) Q := by
  refine hf_aload_n dX12_splits_183 rfl rfl ?_
  refine hf_getr (b := 166) (c := 12) (j := 13) dX12_splits_184 (hs.2.1 156 _ rfl) (hf_lin hs 156 rfl) (by decide) (by decide) hw1049 rfl (hs.2.2 156 13 _ rfl) ?_
  refine hf_aload_n dX12_splits_187 rfl rfl ?_
  refine hf_geti (c := 12) (j := 15) dX12_splits_188 (hs.2.1 156 _ rfl) (hf_lin hs 156 rfl) (by decide) (by decide) hw1051 (Or.inl rfl) ?_
  refine hf_aload_n dX12_splits_191 rfl rfl ?_
  refine hf_getr (b := 166) (c := 12) (j := 13) dX12_splits_192 (hs.2.1 156 _ rfl) (hf_lin hs 156 rfl) (by decide) (by decide) hw1049 rfl (hs.2.2 156 13 _ rfl) ?_
  refine hf_aload_n dX12_splits_195 rfl rfl ?_
  refine hf_geti (c := 12) (j := 15) dX12_splits_196 (hs.2.1 156 _ rfl) (hf_lin hs 156 rfl) (by decide) (by decide) hw1051 (Or.inl rfl) ?_
  refine hf_iald dX12_splits_199 (hs.2.1 166 _ rfl) (hf_lin hs 166 rfl) h.1 ?_
  replace h := h.2
  refine hf_ldc (v := 1000000) dX12_splits_200 hw1298 ?_
  refine hf_icmp_le (tgt := 217) dX12_splits_202 (by decide) (fun hc => ?_) (fun hc => ?_)
  · replace h := h.1 hc
    refine hf_bipush (v := 10) dX12_splits_217 (by decide) ?_
    refine hf_aload_n dX12_splits_219 rfl rfl ?_
    refine hf_getr (b := 166) (c := 12) (j := 13) dX12_splits_220 (hs.2.1 156 _ rfl) (hf_lin hs 156 rfl) (by decide) (by decide) hw1049 rfl (hs.2.2 156 13 _ rfl) ?_
    refine hf_aload_n dX12_splits_223 rfl rfl ?_
    refine hf_geti (c := 12) (j := 15) dX12_splits_224 (hs.2.1 156 _ rfl) (hf_lin hs 156 rfl) (by decide) (by decide) hw1051 (Or.inl rfl) ?_
    refine hf_iald dX12_splits_227 (hs.2.1 166 _ rfl) (hf_lin hs 166 rfl) h.1 ?_
    replace h := h.2
    refine hf_imul dX12_splits_228 ?_
    refine hf_aload_n dX12_splits_229 rfl rfl ?_
    refine hf_getr (b := 163) (c := 12) (j := 8) dX12_splits_230 (hs.2.1 156 _ rfl) (hf_lin hs 156 rfl) (by decide) (by decide) hw1044 rfl (hs.2.2 156 8 _ rfl) ?_
    refine hf_iload dX12_splits_233 rfl ?_
    refine hf_bald dX12_splits_235 (hs.2.1 163 _ rfl) (hf_lin hs 163 rfl) h.1 ?_
    replace h := h.2
    refine hf_iadd dX12_splits_236 ?_
    refine hf_bipush (v := 48) dX12_splits_237 (by decide) ?_
    refine hf_isub dX12_splits_239 ?_
    refine hf_iast dX12_splits_240 (hs.2.1 166 _ rfl) (hf_lin hs 166 rfl) h.1 ?_
    replace h := h.2
    refine hf_iinc (v := (x5 + 1)) (l2 := [some (.ref 156), some (.int x1), none, some (.int x3), some (.int x4), some (.int (x5 + 1))]) dX12_splits_241 (by decide) rfl rfl rfl ?_
    refine hf_goto (tgt := 169) dX12_splits_244 (by decide) ?_
    exact h
  · replace h := h.2 hc
    refine hf_aload_n dX12_splits_205 rfl rfl ?_
    refine hf_getr (b := 166) (c := 12) (j := 13) dX12_splits_206 (hs.2.1 156 _ rfl) (hf_lin hs 156 rfl) (by decide) (by decide) hw1049 rfl (hs.2.2 156 13 _ rfl) ?_
    refine hf_aload_n dX12_splits_209 rfl rfl ?_
    refine hf_geti (c := 12) (j := 15) dX12_splits_210 (hs.2.1 156 _ rfl) (hf_lin hs 156 rfl) (by decide) (by decide) hw1051 (Or.inl rfl) ?_
    refine hf_iald dX12_splits_213 (hs.2.1 166 _ rfl) (hf_lin hs 166 rfl) h.1 ?_
    replace h := h.2
    refine hf_goto (tgt := 240) dX12_splits_214 (by decide) ?_
    refine hf_iast dX12_splits_240 (hs.2.1 166 _ rfl) (hf_lin hs 166 rfl) h.1 ?_
    replace h := h.2
    refine hf_iinc (v := (x5 + 1)) (l2 := [some (.ref 156), some (.int x1), none, some (.int x3), some (.int x4), some (.int (x5 + 1))]) dX12_splits_241 (by decide) rfl rfl rfl ?_
    refine hf_goto (tgt := 169) dX12_splits_244 (by decide) ?_
    exact h
