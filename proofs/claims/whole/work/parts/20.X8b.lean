set_option maxHeartbeats 4000000 in
theorem w_X8_widthOf_0 {X : hf_X} {d k n t : Nat} {T : hf_T} {I : hf_I} {L : hf_L} {P : hf_P} {Q : Option Value → hf_M → Prop} {x1 : Int32} (hs : hf_Lay t T P) (h : hf_G X Y_J6_bitCount_0f7a4 d 0 0 0 (hf_en [.int x1] 1) [] (t, T, I, L, P) (fun r M => hf_G X Y_X8_widthOf (d + 1) k n 5 [some (.ref 136), some (.int x1), none, none] (r.toList ++ [.int 0]) M Q)) : hf_G X Y_X8_widthOf (d + 1) k n 0 (hf_en [.ref 136, .int x1] 4) [] (t, T, I, L, P) Q := by
  show hf_G X Y_X8_widthOf (d + 1) k n 0 [some (.ref 136), some (.int x1), none, none] [] (t, T, I, L, P) Q
  refine hf_iconst (v := 0) dX8_widthOf_0 (by decide) ?_
  refine hf_iload_n dX8_widthOf_1 rfl rfl ?_
  exact hf_callS (as := [.int x1]) ok_J6_bitCount_0f7a4 dX8_widthOf_2 hw898 hw899 rfl (Nat.le_of_ble_eq_true rfl) rfl (Nat.le_of_ble_eq_true rfl) (Nat.zero_le _) (Nat.zero_le _) h

set_option maxHeartbeats 4000000 in
theorem w_X8_widthOf_5 {X : hf_X} {d k n t : Nat} {T : hf_T} {I : hf_I} {L : hf_L} {P : hf_P} {Q : Option Value → hf_M → Prop} {x1 : Int32} {s0 : Int32} {s1 : Int32} (hs : hf_Lay t T P) (h : hf_G X Y_X8_widthOf (d + 1) k n 18 [some (.ref 136), some (.int x1), some (.int ((if s1 < (s0 - 1) then (s0 - 1) else s1) * (I 136 10))), some (.int 0)] [] (t, T, I, L, P) Q) : hf_G X Y_X8_widthOf (d + 1) k n 5 [some (.ref 136), some (.int x1), none, none] [.int s0, .int s1] (t, T, I, L, P) Q := by
  refine hf_iconst (v := 1) dX8_widthOf_5 (by decide) ?_
  refine hf_isub dX8_widthOf_6 ?_
  refine hf_mmax dX8_widthOf_7 hw897 (Nat.le_of_ble_eq_true rfl) ?_
  refine hf_aload_n dX8_widthOf_10 rfl rfl ?_
  refine hf_geti (c := 8) (j := 10) dX8_widthOf_11 (hs.2.1 136 _ rfl) (hf_lin hs 136 rfl) (by decide) (by decide) hw288 (Or.inl rfl) ?_
  refine hf_imul dX8_widthOf_14 ?_
  refine hf_istore_n (l2 := [some (.ref 136), some (.int x1), some (.int ((if s1 < (s0 - 1) then (s0 - 1) else s1) * (I 136 10))), none]) dX8_widthOf_15 rfl (by decide) rfl ?_
  refine hf_iconst (v := 0) dX8_widthOf_16 (by decide) ?_
  refine hf_istore_n (l2 := [some (.ref 136), some (.int x1), some (.int ((if s1 < (s0 - 1) then (s0 - 1) else s1) * (I 136 10))), some (.int 0)]) dX8_widthOf_17 rfl (by decide) rfl ?_
  exact h

set_option maxHeartbeats 4000000 in
theorem w_X8_widthOf_18 {X : hf_X} {d k n t : Nat} {T : hf_T} {I : hf_I} {L : hf_L} {P : hf_P} {Q : Option Value → hf_M → Prop} {x1 : Int32} {x2 : Int32} {x3 : Int32} (hs : hf_Lay t T P) (h : ((I 136 9) ≤ x3 → Q (some (.int x2)) (t, T, I, L, P)) ∧ (¬ ((I 136 9) ≤ x3) → (¬ ((x1 >>> (x3 &&& 31)) &&& 1) = 0 → vp_in x3 6 ∧ ((¬ (I 141 x3.toNatClampNeg) = (-1) → vp_in x3 6 ∧ (hf_G X Y_X8_widthOf d k n 18 [some (.ref 136), some (.int x1), some (.int (x2 + (I 141 x3.toNatClampNeg))), some (.int (x3 + 1))] [] (t, T, I, L, P) Q)) ∧ ((I 141 x3.toNatClampNeg) = (-1) → Q (some (.int (-1))) (t, T, I, L, P)))) ∧ (((x1 >>> (x3 &&& 31)) &&& 1) = 0 → hf_G X Y_X8_widthOf d k n 18 [some (.ref 136), some (.int x1), some (.int x2), some (.int (x3 + 1))] [] (t, T, I, L, P) Q))) : hf_G X Y_X8_widthOf d k n 18 [some (.ref 136), some (.int x1), some (.int x2), some (.int x3)] [] (t, T, I, L, P) Q := by
  refine hf_iload_n dX8_widthOf_18 rfl rfl ?_
  refine hf_aload_n dX8_widthOf_19 rfl rfl ?_
  refine hf_geti (c := 8) (j := 9) dX8_widthOf_20 (hs.2.1 136 _ rfl) (hf_lin hs 136 rfl) (by decide) (by decide) hw287 (Or.inl rfl) ?_
  refine hf_icmp_ge (tgt := 64) dX8_widthOf_23 (by decide) (fun hc => ?_) (fun hc => ?_)
  · replace h := h.1 hc
    refine hf_iload_n dX8_widthOf_64 rfl rfl ?_
    refine hf_ireturn dX8_widthOf_65 rfl rfl ?_
    exact h
  · replace h := h.2 hc
    refine hf_iload_n dX8_widthOf_26 rfl rfl ?_
    refine hf_iload_n dX8_widthOf_27 rfl rfl ?_
    refine hf_ishr dX8_widthOf_28 ?_
    refine hf_iconst (v := 1) dX8_widthOf_29 (by decide) ?_
    refine hf_iand dX8_widthOf_30 ?_
    refine hf_if_ne (tgt := 37) dX8_widthOf_31 (by decide) (fun hc => ?_) (fun hc => ?_)
    · replace h := h.1 hc
      refine hf_aload_n dX8_widthOf_37 rfl rfl ?_
      refine hf_getr (b := 141) (c := 8) (j := 6) dX8_widthOf_38 (hs.2.1 136 _ rfl) (hf_lin hs 136 rfl) (by decide) (by decide) hw284 rfl (hs.2.2 136 6 _ rfl) ?_
      refine hf_iload_n dX8_widthOf_41 rfl rfl ?_
      refine hf_iald dX8_widthOf_42 (hs.2.1 141 _ rfl) (hf_lin hs 141 rfl) h.1 ?_
      replace h := h.2
      refine hf_iconst (v := (-1)) dX8_widthOf_43 (by decide) ?_
      refine hf_icmp_ne (tgt := 49) dX8_widthOf_44 (by decide) (fun hc => ?_) (fun hc => ?_)
      · replace h := h.1 hc
        refine hf_iload_n dX8_widthOf_49 rfl rfl ?_
        refine hf_aload_n dX8_widthOf_50 rfl rfl ?_
        refine hf_getr (b := 141) (c := 8) (j := 6) dX8_widthOf_51 (hs.2.1 136 _ rfl) (hf_lin hs 136 rfl) (by decide) (by decide) hw284 rfl (hs.2.2 136 6 _ rfl) ?_
        refine hf_iload_n dX8_widthOf_54 rfl rfl ?_
        refine hf_iald dX8_widthOf_55 (hs.2.1 141 _ rfl) (hf_lin hs 141 rfl) h.1 ?_
        replace h := h.2
        refine hf_iadd dX8_widthOf_56 ?_
        refine hf_istore_n (l2 := [some (.ref 136), some (.int x1), some (.int (x2 + (I 141 x3.toNatClampNeg))), some (.int x3)]) dX8_widthOf_57 rfl (by decide) rfl ?_
        refine hf_iinc (v := (x3 + 1)) (l2 := [some (.ref 136), some (.int x1), some (.int (x2 + (I 141 x3.toNatClampNeg))), some (.int (x3 + 1))]) dX8_widthOf_58 (by decide) rfl rfl rfl ?_
        refine hf_goto (tgt := 18) dX8_widthOf_61 (by decide) ?_
        exact h
      · replace h := h.2 hc
        refine hf_iconst (v := (-1)) dX8_widthOf_47 (by decide) ?_
        refine hf_ireturn dX8_widthOf_48 rfl rfl ?_
        exact h
    · replace h := h.2 hc
      refine hf_goto (tgt := 58) dX8_widthOf_34 (by decide) ?_
      refine hf_iinc (v := (x3 + 1)) (l2 := [some (.ref 136), some (.int x1), some (.int x2), some (.int (x3 + 1))]) dX8_widthOf_58 (by decide) rfl rfl rfl ?_
      refine hf_goto (tgt := 18) dX8_widthOf_61 (by decide) ?_
      exact h
