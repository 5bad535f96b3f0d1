set_option maxHeartbeats 4000000 in
theorem w_X2_choose_0 {X : hf_X} {d k n t : Nat} {T : hf_T} {I : hf_I} {L : hf_L} {P : hf_P} {Q : Option Value → hf_M → Prop}  (hs : hf_Lay t T P) (h : hf_G X Y_X2_sort d 0 0 0 (hf_en [.ref 144, .ref 101] 4) [] (t, T, I, L, P) (fun r M => hf_G X Y_X2_choose (d + 1) k n 5 [some (.ref 144), some (.ref 101), none] (r.toList ++ []) M Q)) : hf_G X Y_X2_choose (d + 1) k n 0 (hf_en [.ref 144, .ref 101] 3) [] (t, T, I, L, P) Q := by
  show hf_G X Y_X2_choose (d + 1) k n 0 [some (.ref 144), some (.ref 101), none] [] (t, T, I, L, P) Q
  refine hf_aload_n dX2_choose_0 rfl rfl ?_
  refine hf_aload_n dX2_choose_1 rfl rfl ?_
  exact hf_callV (c := 2) (as := [.ref 101]) ok_X2_sort dX2_choose_2 hw979 hw980 hw1599 (hs.2.1 144 _ rfl) (by decide) (hf_lin hs 144 rfl) rfl (Nat.le_of_ble_eq_true rfl) rfl (Nat.le_of_ble_eq_true rfl) (Nat.zero_le _) (Nat.zero_le _) h

set_option maxHeartbeats 4000000 in
theorem w_X2_choose_5 {X : hf_X} {d k n t : Nat} {T : hf_T} {I : hf_I} {L : hf_L} {P : hf_P} {Q : Option Value → hf_M → Prop}  (hs : hf_Lay t T P) (h : hf_G X Y_X2_choose d k n 22 [some (.ref 144), some (.ref 101), some (.int 1)] [] (t, T, (hf_up (hf_up (hf_up I 144 2 0) 144 3 0) 144 4 0), L, P) Q) : hf_G X Y_X2_choose d k n 5 [some (.ref 144), some (.ref 101), none] [] (t, T, I, L, P) Q := by
  refine hf_aload_n dX2_choose_5 rfl rfl ?_
  refine hf_iconst (v := 0) dX2_choose_6 (by decide) ?_
  refine hf_puti (c := 2) (j := 2) dX2_choose_7 (hs.2.1 144 _ rfl) (hf_lin hs 144 rfl) (by decide) (by decide) hw330 rfl rfl ?_
  refine hf_aload_n dX2_choose_10 rfl rfl ?_
  refine hf_iconst (v := 0) dX2_choose_11 (by decide) ?_
  refine hf_puti (c := 2) (j := 3) dX2_choose_12 (hs.2.1 144 _ rfl) (hf_lin hs 144 rfl) (by decide) (by decide) hw332 rfl rfl ?_
  refine hf_aload_n dX2_choose_15 rfl rfl ?_
  refine hf_iconst (v := 0) dX2_choose_16 (by decide) ?_
  refine hf_puti (c := 2) (j := 4) dX2_choose_17 (hs.2.1 144 _ rfl) (hf_lin hs 144 rfl) (by decide) (by decide) hw334 rfl rfl ?_
  refine hf_iconst (v := 1) dX2_choose_20 (by decide) ?_
  refine hf_istore_n (l2 := [some (.ref 144), some (.ref 101), some (.int 1)]) dX2_choose_21 rfl (by decide) rfl ?_
  exact h

set_option maxHeartbeats 4000000 in
theorem w_X2_choose_22 {X : hf_X} {d k n t : Nat} {T : hf_T} {I : hf_I} {L : hf_L} {P : hf_P} {Q : Option Value → hf_M → Prop} {x2 : Int32} (hs : hf_Lay t T P) (h : ((1 <<< ((I 144 1) &&& 31)) ≤ x2 → Q none (t, T, I, L, P)) ∧ (¬ ((1 <<< ((I 144 1) &&& 31)) ≤ x2) → hf_G X Y_X2_weigh d 0 0 0 (hf_en [.ref 144, .ref 101, .int x2] 7) [] (t, T, I, L, P) (fun r M => hf_G X Y_X2_choose (d + 1) k n 38 [some (.ref 144), some (.ref 101), some (.int x2)] (r.toList ++ []) M Q))) : hf_G X Y_X2_choose (d + 1) k n 22 [some (.ref 144), some (.ref 101), some (.int x2)] [] (t, T, I, L, P) Q := by
  refine hf_iload_n dX2_choose_22 rfl rfl ?_
  refine hf_iconst (v := 1) dX2_choose_23 (by decide) ?_
  refine hf_aload_n dX2_choose_24 rfl rfl ?_
  refine hf_geti (c := 2) (j := 1) dX2_choose_25 (hs.2.1 144 _ rfl) (hf_lin hs 144 rfl) (by decide) (by decide) hw329 (Or.inl rfl) ?_
  refine hf_ishl dX2_choose_28 ?_
  refine hf_icmp_ge (tgt := 44) dX2_choose_29 (by decide) (fun hc => ?_) (fun hc => ?_)
  · replace h := h.1 hc
    refine hf_return dX2_choose_44 rfl ?_
    exact h
  · replace h := h.2 hc
    refine hf_aload_n dX2_choose_32 rfl rfl ?_
    refine hf_aload_n dX2_choose_33 rfl rfl ?_
    refine hf_iload_n dX2_choose_34 rfl rfl ?_
    exact hf_callV (c := 2) (as := [.ref 101, .int x2]) ok_X2_weigh dX2_choose_35 hw982 hw983 hw1600 (hs.2.1 144 _ rfl) (by decide) (hf_lin hs 144 rfl) rfl (Nat.le_of_ble_eq_true rfl) rfl (Nat.le_of_ble_eq_true rfl) (Nat.zero_le _) (Nat.zero_le _) h

set_option maxHeartbeats 4000000 in
theorem w_X2_choose_38 {X : hf_X} {d k n t : Nat} {T : hf_T} {I : hf_I} {L : hf_L} {P : hf_P} {Q : Option Value → hf_M → Prop} {x2 : Int32} (hs : hf_Lay t T P) (h : hf_G X Y_X2_choose d k n 22 [some (.ref 144), some (.ref 101), some (.int (x2 + 1))] [] (t, T, I, L, P) Q) : hf_G X Y_X2_choose d k n 38 [some (.ref 144), some (.ref 101), some (.int x2)] [] (t, T, I, L, P) Q := by
  refine hf_iinc (v := (x2 + 1)) (l2 := [some (.ref 144), some (.ref 101), some (.int (x2 + 1))]) dX2_choose_38 (by decide) rfl rfl rfl ?_
  refine hf_goto (tgt := 22) dX2_choose_41 (by decide) ?_
  exact h

set_option maxHeartbeats 4000000 in
theorem w_X2_sort_0 {X : hf_X} {d k n t : Nat} {T : hf_T} {I : hf_I} {L : hf_L} {P : hf_P} {Q : Option Value → hf_M → Prop}  (hs : hf_Lay t T P) (h : hf_G X Y_X2_sort d k n 10 [some (.ref 144), some (.ref 101), some (.int 0), none] [] (t, T, (hf_up I 144 1 (I 101 19)), L, P) Q) : hf_G X Y_X2_sort d k n 0 (hf_en [.ref 144, .ref 101] 4) [] (t, T, I, L, P) Q := by
  show hf_G X Y_X2_sort d k n 0 [some (.ref 144), some (.ref 101), none, none] [] (t, T, I, L, P) Q
  refine hf_aload_n dX2_sort_0 rfl rfl ?_
  refine hf_aload_n dX2_sort_1 rfl rfl ?_
  refine hf_geti (c := 1) (j := 19) dX2_sort_2 (hs.2.1 101 _ rfl) (hf_lin hs 101 rfl) (by decide) (by decide) hw159 (Or.inl rfl) ?_
  refine hf_puti (c := 2) (j := 1) dX2_sort_5 (hs.2.1 144 _ rfl) (hf_lin hs 144 rfl) (by decide) (by decide) hw329 rfl rfl ?_
  refine hf_iconst (v := 0) dX2_sort_8 (by decide) ?_
  refine hf_istore_n (l2 := [some (.ref 144), some (.ref 101), some (.int 0), none]) dX2_sort_9 rfl (by decide) rfl ?_
  exact h

set_option maxHeartbeats 4000000 in
theorem w_X2_sort_10 {X : hf_X} {d k n t : Nat} {T : hf_T} {I : hf_I} {L : hf_L} {P : hf_P} {Q : Option Value → hf_M → Prop} {x2 : Int32} (hs : hf_Lay t T P) (h : ((I 144 1) ≤ x2 → Q none (t, T, I, L, P)) ∧ (¬ ((I 144 1) ≤ x2) → hf_G X Y_X2_sort d k n 20 [some (.ref 144), some (.ref 101), some (.int x2), some (.int x2)] [] (t, T, I, L, P) Q)) : hf_G X Y_X2_sort d k n 10 [some (.ref 144), some (.ref 101), some (.int x2), none] [] (t, T, I, L, P) Q := by
  refine hf_iload_n dX2_sort_10 rfl rfl ?_
  refine hf_aload_n dX2_sort_11 rfl rfl ?_
  refine hf_geti (c := 2) (j := 1) dX2_sort_12 (hs.2.1 144 _ rfl) (hf_lin hs 144 rfl) (by decide) (by decide) hw329 (Or.inl rfl) ?_
  refine hf_icmp_ge (tgt := 79) dX2_sort_15 (by decide) (fun hc => ?_) (fun hc => ?_)
  · replace h := h.1 hc
    refine hf_return dX2_sort_79 rfl ?_
    exact h
  · replace h := h.2 hc
    refine hf_iload_n dX2_sort_18 rfl rfl ?_
    refine hf_istore_n (l2 := [some (.ref 144), some (.ref 101), some (.int x2), some (.int x2)]) dX2_sort_19 rfl (by decide) rfl ?_
    exact h

set_option maxHeartbeats 4000000 in
theorem w_X2_sort_20 {X : hf_X} {d k n t : Nat} {T : hf_T} {I : hf_I} {L : hf_L} {P : hf_P} {Q : Option Value → hf_M → Prop} {x2 : Int32} {x3 : Int32} (hs : hf_Lay t T P) (h : (x3 ≤ 0 → vp_in x3 8 ∧ (hf_G X Y_X2_sort d k n 10 [some (.ref 144), some (.ref 101), some (.int (x2 + 1)), none] [] (t, T, (hf_up I 145 x3.toNatClampNeg x2), L, P) Q)) ∧ (¬ (x3 ≤ 0) → vp_in (x3 - 1) 8 ∧ (vp_in (I 145 (((x3 - 1)).toNatClampNeg)) 8 ∧ (vp_in x2 8 ∧ (((I 119 (((I 145 (((x3 - 1)).toNatClampNeg))).toNatClampNeg)) ≤ (I 119 x2.toNatClampNeg) → vp_in x3 8 ∧ (hf_G X Y_X2_sort d k n 10 [some (.ref 144), some (.ref 101), some (.int (x2 + 1)), none] [] (t, T, (hf_up I 145 x3.toNatClampNeg x2), L, P) Q)) ∧ (¬ ((I 119 (((I 145 (((x3 - 1)).toNatClampNeg))).toNatClampNeg)) ≤ (I 119 x2.toNatClampNeg)) → vp_in (x3 - 1) 8 ∧ (vp_in x3 8 ∧ (hf_G X Y_X2_sort d k n 20 [some (.ref 144), some (.ref 101), some (.int x2), some (.int (x3 + (-1)))] [] (t, T, (hf_up I 145 x3.toNatClampNeg (I 145 (((x3 - 1)).toNatClampNeg))), L, P) Q)))))))) : hf_G X Y_X2_sort d k n 20 [some (.ref 144), some (.ref 101), some (.int x2), some (.int x3)] [] (t, T, I, L, P) Q := by
  refine hf_iload_n dX2_sort_20 rfl rfl ?_
  refine hf_if_le (tgt := 66) dX2_sort_21 (by decide) (fun hc => ?_) (fun hc => ?_)
  · replace h := h.1 hc
    refine hf_aload_n dX2_sort_66 rfl rfl ?_
    refine hf_getr (b := 145) (c := 2) (j := 0) dX2_sort_67 (hs.2.1 144 _ rfl) (hf_lin hs 144 rfl) (by decide) (by decide) hw328 rfl (hs.2.2 144 0 _ rfl) ?_
    refine hf_iload_n dX2_sort_70 rfl rfl ?_
    refine hf_iload_n dX2_sort_71 rfl rfl ?_
    refine hf_iast dX2_sort_72 (hs.2.1 145 _ rfl) (hf_lin hs 145 rfl) h.1 ?_
    replace h := h.2
    refine hf_iinc (v := (x2 + 1)) (l2 := [some (.ref 144), some (.ref 101), some (.int (x2 + 1)), some (.int x3)]) dX2_sort_73 (by decide) rfl rfl rfl ?_
    refine hf_goto (tgt := 10) dX2_sort_76 (by decide) ?_
    refine hf_drop (l' := [some (.ref 144), some (.ref 101), some (.int (x2 + 1)), none]) (by simp [hf_sub]) ?_
    exact h
  · replace h := h.2 hc
    refine hf_aload_n dX2_sort_24 rfl rfl ?_
    refine hf_getr (b := 119) (c := 1) (j := 10) dX2_sort_25 (hs.2.1 101 _ rfl) (hf_lin hs 101 rfl) (by decide) (by decide) hw131 rfl (hs.2.2 101 10 _ rfl) ?_
    refine hf_aload_n dX2_sort_28 rfl rfl ?_
    refine hf_getr (b := 145) (c := 2) (j := 0) dX2_sort_29 (hs.2.1 144 _ rfl) (hf_lin hs 144 rfl) (by decide) (by decide) hw328 rfl (hs.2.2 144 0 _ rfl) ?_
    refine hf_iload_n dX2_sort_32 rfl rfl ?_
    refine hf_iconst (v := 1) dX2_sort_33 (by decide) ?_
    refine hf_isub dX2_sort_34 ?_
    refine hf_iald dX2_sort_35 (hs.2.1 145 _ rfl) (hf_lin hs 145 rfl) h.1 ?_
    replace h := h.2
    refine hf_iald dX2_sort_36 (hs.2.1 119 _ rfl) (hf_lin hs 119 rfl) h.1 ?_
    replace h := h.2
    refine hf_aload_n dX2_sort_37 rfl rfl ?_
    refine hf_getr (b := 119) (c := 1) (j := 10) dX2_sort_38 (hs.2.1 101 _ rfl) (hf_lin hs 101 rfl) (by decide) (by decide) hw131 rfl (hs.2.2 101 10 _ rfl) ?_
    refine hf_iload_n dX2_sort_41 rfl rfl ?_
    refine hf_iald dX2_sort_42 (hs.2.1 119 _ rfl) (hf_lin hs 119 rfl) h.1 ?_
    replace h := h.2
    refine hf_icmp_le (tgt := 66) dX2_sort_43 (by decide) (fun hc => ?_) (fun hc => ?_)
    · replace h := h.1 hc
      refine hf_aload_n dX2_sort_66 rfl rfl ?_
      refine hf_getr (b := 145) (c := 2) (j := 0) dX2_sort_67 (hs.2.1 144 _ rfl) (hf_lin hs 144 rfl) (by decide) (by decide) hw328 rfl (hs.2.2 144 0 _ rfl) ?_
      refine hf_iload_n dX2_sort_70 rfl rfl ?_
      refine hf_iload_n dX2_sort_71 rfl rfl ?_
      refine hf_iast dX2_sort_72 (hs.2.1 145 _ rfl) (hf_lin hs 145 rfl) h.1 ?_
      replace h := h.2
      refine hf_iinc (v := (x2 + 1)) (l2 := [some (.ref 144), some (.ref 101), some (.int (x2 + 1)), some (.int x3)]) dX2_sort_73 (by decide) rfl rfl rfl ?_
      refine hf_goto (tgt := 10) dX2_sort_76 (by decide) ?_
      refine hf_drop (l' := [some (.ref 144), some (.ref 101), some (.int (x2 + 1)), none]) (by simp [hf_sub]) ?_
      exact h
    · replace h := h.2 hc
      refine hf_aload_n dX2_sort_46 rfl rfl ?_
      refine hf_getr (b := 145) (c := 2) (j := 0) dX2_sort_47 (hs.2.1 144 _ rfl) (hf_lin hs 144 rfl) (by decide) (by decide) hw328 rfl (hs.2.2 144 0 _ rfl) ?_
      refine hf_iload_n dX2_sort_50 rfl rfl ?_
      refine hf_aload_n dX2_sort_51 rfl rfl ?_
      refine hf_getr (b := 145) (c := 2) (j := 0) dX2_sort_52 (hs.2.1 144 _ rfl) (hf_lin hs 144 rfl) (by decide) (by decide) hw328 rfl (hs.2.2 144 0 _ rfl) ?_
      refine hf_iload_n dX2_sort_55 rfl rfl ?_
      refine hf_iconst (v := 1) dX2_sort_56 (by decide) ?_
      refine hf_isub dX2_sort_57 ?_
      refine hf_iald dX2_sort_58 (hs.2.1 145 _ rfl) (hf_lin hs 145 rfl) h.1 ?_
      replace h := h.2
      refine hf_iast dX2_sort_59 (hs.2.1 145 _ rfl) (hf_lin hs 145 rfl) h.1 ?_
      replace h := h.2
      refine hf_iinc (v := (x3 + (-1))) (l2 := [some (.ref 144), some (.ref 101), some (.int x2), some (.int (x3 + (-1)))]) dX2_sort_60 (by decide) rfl rfl rfl ?_
      refine hf_goto (tgt := 20) dX2_sort_63 (by decide) ?_
      exact h

set_option maxHeartbeats 4000000 in
theorem w_X2_weigh_0 {X : hf_X} {d k n t : Nat} {T : hf_T} {I : hf_I} {L : hf_L} {P : hf_P} {Q : Option Value → hf_M → Prop} {x2 : Int32} (hs : hf_Lay t T P) (h : hf_G X Y_X2_weigh d k n 8 [some (.ref 144), some (.ref 101), some (.int x2), some (.int 0), some (.int 0), some (.int 0), none] [] (t, T, I, L, P) Q) : hf_G X Y_X2_weigh d k n 0 (hf_en [.ref 144, .ref 101, .int x2] 7) [] (t, T, I, L, P) Q := by
  show hf_G X Y_X2_weigh d k n 0 [some (.ref 144), some (.ref 101), some (.int x2), none, none, none, none] [] (t, T, I, L, P) Q
  refine hf_iconst (v := 0) dX2_weigh_0 (by decide) ?_
  refine hf_istore_n (l2 := [some (.ref 144), some (.ref 101), some (.int x2), some (.int 0), none, none, none]) dX2_weigh_1 rfl (by decide) rfl ?_
  refine hf_iconst (v := 0) dX2_weigh_2 (by decide) ?_
  refine hf_istore (l2 := [some (.ref 144), some (.ref 101), some (.int x2), some (.int 0), some (.int 0), none, none]) dX2_weigh_3 (by decide) rfl ?_
  refine hf_iconst (v := 0) dX2_weigh_5 (by decide) ?_
  refine hf_istore (l2 := [some (.ref 144), some (.ref 101), some (.int x2), some (.int 0), some (.int 0), some (.int 0), none]) dX2_weigh_6 (by decide) rfl ?_
  exact h

set_option maxHeartbeats 4000000 in
theorem w_X2_weigh_8 {X : hf_X} {d k n t : Nat} {T : hf_T} {I : hf_I} {L : hf_L} {P : hf_P} {Q : Option Value → hf_M → Prop} {x2 : Int32} {x3 : Int32} {x4 : Int32} {x5 : Int32} (hs : hf_Lay t T P) (h : ((I 144 1) ≤ x5 → ((I 144 2) < x3 → Q none (t, T, (hf_up (hf_up (hf_up I 144 2 x3) 144 3 x2) 144 4 x4), L, P)) ∧ (¬ ((I 144 2) < x3) → Q none (t, T, I, L, P))) ∧ (¬ ((I 144 1) ≤ x5) → vp_in x5 8 ∧ ((¬ ((x2 >>> ((I 145 x5.toNatClampNeg) &&& 31)) &&& 1) = 0 → vp_in (I 145 x5.toNatClampNeg) 8 ∧ (vp_in (I 145 x5.toNatClampNeg) 8 ∧ (((x4 + (I 118 (((I 145 x5.toNatClampNeg)).toNatClampNeg))) ≤ (I 119 (((I 145 x5.toNatClampNeg)).toNatClampNeg)) → vp_in (I 145 x5.toNatClampNeg) 8 ∧ (hf_G X Y_X2_weigh d k n 8 [some (.ref 144), some (.ref 101), some (.int x2), some (.int (x3 + (I 120 (((I 145 x5.toNatClampNeg)).toNatClampNeg)))), some (.int (x4 + (I 118 (((I 145 x5.toNatClampNeg)).toNatClampNeg)))), some (.int (x5 + 1)), none] [] (t, T, I, L, P) Q)) ∧ (¬ ((x4 + (I 118 (((I 145 x5.toNatClampNeg)).toNatClampNeg))) ≤ (I 119 (((I 145 x5.toNatClampNeg)).toNatClampNeg))) → Q none (t, T, I, L, P))))) ∧ (((x2 >>> ((I 145 x5.toNatClampNeg) &&& 31)) &&& 1) = 0 → hf_G X Y_X2_weigh d k n 8 [some (.ref 144), some (.ref 101), some (.int x2), some (.int x3), some (.int x4), some (.int (x5 + 1)), none] [] (t, T, I, L, P) Q)))) : hf_G X Y_X2_weigh d k n 8 [some (.ref 144), some (.ref 101), some (.int x2), some (.int x3), some (.int x4), some (.int x5), none] [] (t, T, I, L, P) Q := by
  refine hf_iload dX2_weigh_8 rfl ?_
  refine hf_aload_n dX2_weigh_10 rfl rfl ?_
  refine hf_geti (c := 2) (j := 1) dX2_weigh_11 (hs.2.1 144 _ rfl) (hf_lin hs 144 rfl) (by decide) (by decide) hw329 (Or.inl rfl) ?_
  refine hf_icmp_ge (tgt := 79) dX2_weigh_14 (by decide) (fun hc => ?_) (fun hc => ?_)
  · replace h := h.1 hc
    refine hf_iload_n dX2_weigh_79 rfl rfl ?_
    refine hf_aload_n dX2_weigh_80 rfl rfl ?_
    refine hf_geti (c := 2) (j := 2) dX2_weigh_81 (hs.2.1 144 _ rfl) (hf_lin hs 144 rfl) (by decide) (by decide) hw330 (Or.inl rfl) ?_
    refine hf_icmp_gt (tgt := 88) dX2_weigh_84 (by decide) (fun hc => ?_) (fun hc => ?_)
    · replace h := h.1 hc
      refine hf_aload_n dX2_weigh_88 rfl rfl ?_
      refine hf_iload_n dX2_weigh_89 rfl rfl ?_
      refine hf_puti (c := 2) (j := 2) dX2_weigh_90 (hs.2.1 144 _ rfl) (hf_lin hs 144 rfl) (by decide) (by decide) hw330 rfl rfl ?_
      refine hf_aload_n dX2_weigh_93 rfl rfl ?_
      refine hf_iload_n dX2_weigh_94 rfl rfl ?_
      refine hf_puti (c := 2) (j := 3) dX2_weigh_95 (hs.2.1 144 _ rfl) (hf_lin hs 144 rfl) (by decide) (by decide) hw332 rfl rfl ?_
      refine hf_aload_n dX2_weigh_98 rfl rfl ?_
      refine hf_iload dX2_weigh_99 rfl ?_
      refine hf_puti (c := 2) (j := 4) dX2_weigh_101 (hs.2.1 144 _ rfl) (hf_lin hs 144 rfl) (by decide) (by decide) hw334 rfl rfl ?_
      refine hf_return dX2_weigh_104 rfl ?_
      exact h
    · replace h := h.2 hc
      refine hf_return dX2_weigh_87 rfl ?_
      exact h
  · replace h := h.2 hc
    refine hf_aload_n dX2_weigh_17 rfl rfl ?_
    refine hf_getr (b := 145) (c := 2) (j := 0) dX2_weigh_18 (hs.2.1 144 _ rfl) (hf_lin hs 144 rfl) (by decide) (by decide) hw328 rfl (hs.2.2 144 0 _ rfl) ?_
    refine hf_iload dX2_weigh_21 rfl ?_
    refine hf_iald dX2_weigh_23 (hs.2.1 145 _ rfl) (hf_lin hs 145 rfl) h.1 ?_
    replace h := h.2
    refine hf_istore (l2 := [some (.ref 144), some (.ref 101), some (.int x2), some (.int x3), some (.int x4), some (.int x5), some (.int (I 145 x5.toNatClampNeg))]) dX2_weigh_24 (by decide) rfl ?_
    refine hf_iload_n dX2_weigh_26 rfl rfl ?_
    refine hf_iload dX2_weigh_27 rfl ?_
    refine hf_ishr dX2_weigh_29 ?_
    refine hf_iconst (v := 1) dX2_weigh_30 (by decide) ?_
    refine hf_iand dX2_weigh_31 ?_
    refine hf_if_ne (tgt := 38) dX2_weigh_32 (by decide) (fun hc => ?_) (fun hc => ?_)
    · replace h := h.1 hc
      refine hf_iload dX2_weigh_38 rfl ?_
      refine hf_aload_n dX2_weigh_40 rfl rfl ?_
      refine hf_getr (b := 118) (c := 1) (j := 9) dX2_weigh_41 (hs.2.1 101 _ rfl) (hf_lin hs 101 rfl) (by decide) (by decide) hw128 rfl (hs.2.2 101 9 _ rfl) ?_
      refine hf_iload dX2_weigh_44 rfl ?_
      refine hf_iald dX2_weigh_46 (hs.2.1 118 _ rfl) (hf_lin hs 118 rfl) h.1 ?_
      replace h := h.2
      refine hf_iadd dX2_weigh_47 ?_
      refine hf_istore (l2 := [some (.ref 144), some (.ref 101), some (.int x2), some (.int x3), some (.int (x4 + (I 118 (((I 145 x5.toNatClampNeg)).toNatClampNeg)))), some (.int x5), some (.int (I 145 x5.toNatClampNeg))]) dX2_weigh_48 (by decide) rfl ?_
      refine hf_iload dX2_weigh_50 rfl ?_
      refine hf_aload_n dX2_weigh_52 rfl rfl ?_
      refine hf_getr (b := 119) (c := 1) (j := 10) dX2_weigh_53 (hs.2.1 101 _ rfl) (hf_lin hs 101 rfl) (by decide) (by decide) hw131 rfl (hs.2.2 101 10 _ rfl) ?_
      refine hf_iload dX2_weigh_56 rfl ?_
      refine hf_iald dX2_weigh_58 (hs.2.1 119 _ rfl) (hf_lin hs 119 rfl) h.1 ?_
      replace h := h.2
      refine hf_icmp_le (tgt := 63) dX2_weigh_59 (by decide) (fun hc => ?_) (fun hc => ?_)
      · replace h := h.1 hc
        refine hf_iload_n dX2_weigh_63 rfl rfl ?_
        refine hf_aload_n dX2_weigh_64 rfl rfl ?_
        refine hf_getr (b := 120) (c := 1) (j := 11) dX2_weigh_65 (hs.2.1 101 _ rfl) (hf_lin hs 101 rfl) (by decide) (by decide) hw134 rfl (hs.2.2 101 11 _ rfl) ?_
        refine hf_iload dX2_weigh_68 rfl ?_
        refine hf_iald dX2_weigh_70 (hs.2.1 120 _ rfl) (hf_lin hs 120 rfl) h.1 ?_
        replace h := h.2
        refine hf_iadd dX2_weigh_71 ?_
        refine hf_istore_n (l2 := [some (.ref 144), some (.ref 101), some (.int x2), some (.int (x3 + (I 120 (((I 145 x5.toNatClampNeg)).toNatClampNeg)))), some (.int (x4 + (I 118 (((I 145 x5.toNatClampNeg)).toNatClampNeg)))), some (.int x5), some (.int (I 145 x5.toNatClampNeg))]) dX2_weigh_72 rfl (by decide) rfl ?_
        refine hf_iinc (v := (x5 + 1)) (l2 := [some (.ref 144), some (.ref 101), some (.int x2), some (.int (x3 + (I 120 (((I 145 x5.toNatClampNeg)).toNatClampNeg)))), some (.int (x4 + (I 118 (((I 145 x5.toNatClampNeg)).toNatClampNeg)))), some (.int (x5 + 1)), some (.int (I 145 x5.toNatClampNeg))]) dX2_weigh_73 (by decide) rfl rfl rfl ?_
        refine hf_goto (tgt := 8) dX2_weigh_76 (by decide) ?_
        refine hf_drop (l' := [some (.ref 144), some (.ref 101), some (.int x2), some (.int (x3 + (I 120 (((I 145 x5.toNatClampNeg)).toNatClampNeg)))), some (.int (x4 + (I 118 (((I 145 x5.toNatClampNeg)).toNatClampNeg)))), some (.int (x5 + 1)), none]) (by simp [hf_sub]) ?_
        exact h
      · replace h := h.2 hc
        refine hf_return dX2_weigh_62 rfl ?_
        exact h
    · replace h := h.2 hc
      refine hf_goto (tgt := 73) dX2_weigh_35 (by decide) ?_
      refine hf_iinc (v := (x5 + 1)) (l2 := [some (.ref 144), some (.ref 101), some (.int x2), some (.int x3), some (.int x4), some (.int (x5 + 1)), some (.int (I 145 x5.toNatClampNeg))]) dX2_weigh_73 (by decide) rfl rfl rfl ?_
      refine hf_goto (tgt := 8) dX2_weigh_76 (by decide) ?_
      refine hf_drop (l' := [some (.ref 144), some (.ref 101), some (.int x2), some (.int x3), some (.int x4), some (.int (x5 + 1)), none]) (by simp [hf_sub]) ?_
      exact h

set_option maxHeartbeats 4000000 in
theorem w_X2_inOrder_0 {X : hf_X} {d k n t : Nat} {T : hf_T} {I : hf_I} {L : hf_L} {P : hf_P} {Q : Option Value → hf_M → Prop} {x1 : Int32} (hs : hf_Lay t T P) (h : hf_G X Y_X2_inOrder d k n 4 [some (.ref 144), some (.int x1), some (.int 0), some (.int 0)] [] (t, T, I, L, P) Q) : hf_G X Y_X2_inOrder d k n 0 (hf_en [.ref 144, .int x1] 4) [] (t, T, I, L, P) Q := by
  show hf_G X Y_X2_inOrder d k n 0 [some (.ref 144), some (.int x1), none, none] [] (t, T, I, L, P) Q
  refine hf_iconst (v := 0) dX2_inOrder_0 (by decide) ?_
  refine hf_istore_n (l2 := [some (.ref 144), some (.int x1), some (.int 0), none]) dX2_inOrder_1 rfl (by decide) rfl ?_
  refine hf_iconst (v := 0) dX2_inOrder_2 (by decide) ?_
  refine hf_istore_n (l2 := [some (.ref 144), some (.int x1), some (.int 0), some (.int 0)]) dX2_inOrder_3 rfl (by decide) rfl ?_
  exact h

set_option maxHeartbeats 4000000 in
theorem w_X2_inOrder_4 {X : hf_X} {d k n t : Nat} {T : hf_T} {I : hf_I} {L : hf_L} {P : hf_P} {Q : Option Value → hf_M → Prop} {x1 : Int32} {x2 : Int32} {x3 : Int32} (hs : hf_Lay t T P) (h : ((I 144 1) ≤ x3 → Q (some (.int (-1))) (t, T, I, L, P)) ∧ (¬ ((I 144 1) ≤ x3) → vp_in x3 8 ∧ ((¬ (((I 144 3) >>> ((I 145 x3.toNatClampNeg) &&& 31)) &&& 1) = 0 → (¬ x2 = x1 → hf_G X Y_X2_inOrder d k n 4 [some (.ref 144), some (.int x1), some (.int (x2 + 1)), some (.int (x3 + 1))] [] (t, T, I, L, P) Q) ∧ (x2 = x1 → vp_in x3 8 ∧ (Q (some (.int (I 145 x3.toNatClampNeg))) (t, T, I, L, P)))) ∧ ((((I 144 3) >>> ((I 145 x3.toNatClampNeg) &&& 31)) &&& 1) = 0 → hf_G X Y_X2_inOrder d k n 4 [some (.ref 144), some (.int x1), some (.int x2), some (.int (x3 + 1))] [] (t, T, I, L, P) Q)))) : hf_G X Y_X2_inOrder d k n 4 [some (.ref 144), some (.int x1), some (.int x2), some (.int x3)] [] (t, T, I, L, P) Q := by
  refine hf_iload_n dX2_inOrder_4 rfl rfl ?_
  refine hf_aload_n dX2_inOrder_5 rfl rfl ?_
  refine hf_geti (c := 2) (j := 1) dX2_inOrder_6 (hs.2.1 144 _ rfl) (hf_lin hs 144 rfl) (by decide) (by decide) hw329 (Or.inl rfl) ?_
  refine hf_icmp_ge (tgt := 52) dX2_inOrder_9 (by decide) (fun hc => ?_) (fun hc => ?_)
  · replace h := h.1 hc
    refine hf_iconst (v := (-1)) dX2_inOrder_52 (by decide) ?_
    refine hf_ireturn dX2_inOrder_53 rfl rfl ?_
    exact h
  · replace h := h.2 hc
    refine hf_aload_n dX2_inOrder_12 rfl rfl ?_
    refine hf_geti (c := 2) (j := 3) dX2_inOrder_13 (hs.2.1 144 _ rfl) (hf_lin hs 144 rfl) (by decide) (by decide) hw332 (Or.inl rfl) ?_
    refine hf_aload_n dX2_inOrder_16 rfl rfl ?_
    refine hf_getr (b := 145) (c := 2) (j := 0) dX2_inOrder_17 (hs.2.1 144 _ rfl) (hf_lin hs 144 rfl) (by decide) (by decide) hw328 rfl (hs.2.2 144 0 _ rfl) ?_
    refine hf_iload_n dX2_inOrder_20 rfl rfl ?_
    refine hf_iald dX2_inOrder_21 (hs.2.1 145 _ rfl) (hf_lin hs 145 rfl) h.1 ?_
    replace h := h.2
    refine hf_ishr dX2_inOrder_22 ?_
    refine hf_iconst (v := 1) dX2_inOrder_23 (by decide) ?_
    refine hf_iand dX2_inOrder_24 ?_
    refine hf_if_ne (tgt := 31) dX2_inOrder_25 (by decide) (fun hc => ?_) (fun hc => ?_)
    · replace h := h.1 hc
      refine hf_iload_n dX2_inOrder_31 rfl rfl ?_
      refine hf_iload_n dX2_inOrder_32 rfl rfl ?_
      refine hf_icmp_ne (tgt := 43) dX2_inOrder_33 (by decide) (fun hc => ?_) (fun hc => ?_)
      · replace h := h.1 hc
        refine hf_iinc (v := (x2 + 1)) (l2 := [some (.ref 144), some (.int x1), some (.int (x2 + 1)), some (.int x3)]) dX2_inOrder_43 (by decide) rfl rfl rfl ?_
        refine hf_iinc (v := (x3 + 1)) (l2 := [some (.ref 144), some (.int x1), some (.int (x2 + 1)), some (.int (x3 + 1))]) dX2_inOrder_46 (by decide) rfl rfl rfl ?_
        refine hf_goto (tgt := 4) dX2_inOrder_49 (by decide) ?_
        exact h
      · replace h := h.2 hc
        refine hf_aload_n dX2_inOrder_36 rfl rfl ?_
        refine hf_getr (b := 145) (c := 2) (j := 0) dX2_inOrder_37 (hs.2.1 144 _ rfl) (hf_lin hs 144 rfl) (by decide) (by decide) hw328 rfl (hs.2.2 144 0 _ rfl) ?_
        refine hf_iload_n dX2_inOrder_40 rfl rfl ?_
        refine hf_iald dX2_inOrder_41 (hs.2.1 145 _ rfl) (hf_lin hs 145 rfl) h.1 ?_
        replace h := h.2
        refine hf_ireturn dX2_inOrder_42 rfl rfl ?_
        exact h
    · replace h := h.2 hc
      refine hf_goto (tgt := 46) dX2_inOrder_28 (by decide) ?_
      refine hf_iinc (v := (x3 + 1)) (l2 := [some (.ref 144), some (.int x1), some (.int x2), some (.int (x3 + 1))]) dX2_inOrder_46 (by decide) rfl rfl rfl ?_
      refine hf_goto (tgt := 4) dX2_inOrder_49 (by decide) ?_
      exact h
