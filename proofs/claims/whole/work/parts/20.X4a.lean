set_option maxHeartbeats 4000000 in
theorem w_X4_lossOf_0 {X : hf_X} {d k n t : Nat} {T : hf_T} {I : hf_I} {L : hf_L} {P : hf_P} {Q : Option Value → hf_M → Prop} {x1 : Int32} {x2 : Int32} (hs : hf_Lay t T P) (h : hf_G X Y_X4_tellWord d 0 0 0 (hf_en [.ref 135, .int x1, .int x2] 5) [] (t, T, I, L, P) (fun r M => hf_G X Y_X4_lossOf (d + 1) k n 6 [some (.ref 135), some (.int x1), none] (r.toList ++ []) M Q)) : hf_G X Y_X4_lossOf (d + 1) k n 0 (hf_en [.ref 135, .int x1, .int x2] 3) [] (t, T, I, L, P) Q := by
  show hf_G X Y_X4_lossOf (d + 1) k n 0 [some (.ref 135), some (.int x1), some (.int x2)] [] (t, T, I, L, P) Q
  refine hf_aload_n dX4_lossOf_0 rfl rfl ?_
  refine hf_iload_n dX4_lossOf_1 rfl rfl ?_
  refine hf_iload_n dX4_lossOf_2 rfl rfl ?_
  exact hf_callV (c := 4) (as := [.int x1, .int x2]) ok_X4_tellWord dX4_lossOf_3 hw494 hw495 hw1558 (hs.2.1 135 _ rfl) (by decide) (hf_lin hs 135 rfl) rfl (Nat.le_of_ble_eq_true rfl) rfl (Nat.le_of_ble_eq_true rfl) (Nat.zero_le _) (Nat.zero_le _) (hf_mono (fun r M q => hf_drop (l' := [some (.ref 135), some (.int x1), none]) (by simp [hf_sub]) q) h)

set_option maxHeartbeats 4000000 in
theorem w_X4_lossOf_6 {X : hf_X} {d k n t : Nat} {T : hf_T} {I : hf_I} {L : hf_L} {P : hf_P} {Q : Option Value → hf_M → Prop} {x1 : Int32} (hs : hf_Lay t T P) (h : hf_G X Y_X4_findHolding d 0 0 0 (hf_en [.ref 135, .int 0] 5) [] (t, T, I, L, P) (fun r M => hf_G X Y_X4_lossOf (d + 1) k n 11 [some (.ref 135), some (.int x1), none] (r.toList ++ []) M Q)) : hf_G X Y_X4_lossOf (d + 1) k n 6 [some (.ref 135), some (.int x1), none] [] (t, T, I, L, P) Q := by
  refine hf_aload_n dX4_lossOf_6 rfl rfl ?_
  refine hf_iconst (v := 0) dX4_lossOf_7 (by decide) ?_
  exact hf_callV (c := 4) (as := [.int 0]) ok_X4_findHolding dX4_lossOf_8 hw500 hw501 hw1560 (hs.2.1 135 _ rfl) (by decide) (hf_lin hs 135 rfl) rfl (Nat.le_of_ble_eq_true rfl) rfl (Nat.le_of_ble_eq_true rfl) (Nat.zero_le _) (Nat.zero_le _) h

set_option maxHeartbeats 4000000 in
theorem w_X4_lossOf_11 {X : hf_X} {d k n t : Nat} {T : hf_T} {I : hf_I} {L : hf_L} {P : hf_P} {Q : Option Value → hf_M → Prop} {x1 : Int32} {s0 : Int32} (hs : hf_Lay t T P) (h : (s0 = 0 → vp_in x1 16 ∧ (Q (some (.int (I 107 x1.toNatClampNeg))) (t, T, I, L, P))) ∧ (¬ (s0 = 0) → Q (some (.int (if 0 < (if (I 132 2) < 999 then (I 132 2) else 999) then (if (I 132 2) < 999 then (I 132 2) else 999) else 0))) (t, T, I, L, P))) : hf_G X Y_X4_lossOf (d + 2) k n 11 [some (.ref 135), some (.int x1), none] [.int s0] (t, T, I, L, P) Q := by
  refine hf_if_eq (tgt := 27) dX4_lossOf_11 (by decide) (fun hc => ?_) (fun hc => ?_)
  · replace h := h.1 hc
    refine hf_aload_n dX4_lossOf_27 rfl rfl ?_
    refine hf_getr (b := 101) (c := 4) (j := 0) dX4_lossOf_28 (hs.2.1 135 _ rfl) (hf_lin hs 135 rfl) (by decide) (by decide) hw267 rfl (hs.2.2 135 0 _ rfl) ?_
    refine hf_getr (b := 105) (c := 1) (j := 3) dX4_lossOf_31 (hs.2.1 101 _ rfl) (hf_lin hs 101 rfl) (by decide) (by decide) hw108 rfl (hs.2.2 101 3 _ rfl) ?_
    refine hf_getr (b := 107) (c := 10) (j := 1) dX4_lossOf_34 (hs.2.1 105 _ rfl) (hf_lin hs 105 rfl) (by decide) (by decide) hw48 rfl (hs.2.2 105 1 _ rfl) ?_
    refine hf_iload_n dX4_lossOf_37 rfl rfl ?_
    refine hf_iald dX4_lossOf_38 (hs.2.1 107 _ rfl) (hf_lin hs 107 rfl) h.1 ?_
    replace h := h.2
    refine hf_ireturn dX4_lossOf_39 rfl rfl ?_
    exact h
  · replace h := h.2 hc
    refine hf_aload_n dX4_lossOf_14 rfl rfl ?_
    refine hf_getr (b := 132) (c := 4) (j := 1) dX4_lossOf_15 (hs.2.1 135 _ rfl) (hf_lin hs 135 rfl) (by decide) (by decide) hw268 rfl (hs.2.2 135 1 _ rfl) ?_
    refine hf_geti (c := 7) (j := 2) dX4_lossOf_18 (hs.2.1 132 _ rfl) (hf_lin hs 132 rfl) (by decide) (by decide) hw256 (Or.inl rfl) ?_
    refine hf_callS (as := [.int (I 132 2)]) ok_X4_nearestCost dX4_lossOf_21 hw528 hw529 rfl (Nat.le_of_ble_eq_true rfl) rfl (Nat.le_of_ble_eq_true rfl) (Nat.zero_le _) (Nat.zero_le _) ?_
    show hf_G X Y_X4_nearestCost (d + 1) _ _ 0 [some (.int (I 132 2))] [] (t, T, I, L, P) _
    refine hf_iconst (v := 0) dX4_nearestCost_0 (by decide) ?_
    refine hf_sipush (v := 999) dX4_nearestCost_1 (by decide) ?_
    refine hf_iload_n dX4_nearestCost_4 rfl rfl ?_
    refine hf_mmin dX4_nearestCost_5 hw531 (Nat.le_of_ble_eq_true rfl) ?_
    refine hf_mmax dX4_nearestCost_8 hw532 (Nat.le_of_ble_eq_true rfl) ?_
    refine hf_ireturn dX4_nearestCost_11 rfl rfl ?_
    show hf_G X Y_X4_lossOf (d + 2) _ _ 24 [some (.ref 135), some (.int x1), none] [.int (if 0 < (if (I 132 2) < 999 then (I 132 2) else 999) then (if (I 132 2) < 999 then (I 132 2) else 999) else 0)] (t, T, I, L, P) _
    refine hf_goto (tgt := 39) dX4_lossOf_24 (by decide) ?_
    refine hf_ireturn dX4_lossOf_39 rfl rfl ?_
    exact h

set_option maxHeartbeats 4000000 in
theorem w_X4_isBarred_0 {X : hf_X} {d k n t : Nat} {T : hf_T} {I : hf_I} {L : hf_L} {P : hf_P} {Q : Option Value → hf_M → Prop} {x1 : Int32} {x2 : Int32} (hs : hf_Lay t T P) (h : hf_G X Y_X4_tellWord d 0 0 0 (hf_en [.ref 135, .int x1, .int x2] 5) [] (t, T, I, L, P) (fun r M => hf_G X Y_X4_isBarred (d + 1) k n 6 [some (.ref 135), none, none] (r.toList ++ []) M Q)) : hf_G X Y_X4_isBarred (d + 1) k n 0 (hf_en [.ref 135, .int x1, .int x2] 3) [] (t, T, I, L, P) Q := by
  show hf_G X Y_X4_isBarred (d + 1) k n 0 [some (.ref 135), some (.int x1), some (.int x2)] [] (t, T, I, L, P) Q
  refine hf_aload_n dX4_isBarred_0 rfl rfl ?_
  refine hf_iload_n dX4_isBarred_1 rfl rfl ?_
  refine hf_iload_n dX4_isBarred_2 rfl rfl ?_
  exact hf_callV (c := 4) (as := [.int x1, .int x2]) ok_X4_tellWord dX4_isBarred_3 hw494 hw495 hw1558 (hs.2.1 135 _ rfl) (by decide) (hf_lin hs 135 rfl) rfl (Nat.le_of_ble_eq_true rfl) rfl (Nat.le_of_ble_eq_true rfl) (Nat.zero_le _) (Nat.zero_le _) (hf_mono (fun r M q => hf_drop (l' := [some (.ref 135), none, none]) (by simp [hf_sub]) q) h)

set_option maxHeartbeats 4000000 in
theorem w_X4_isBarred_6 {X : hf_X} {d k n t : Nat} {T : hf_T} {I : hf_I} {L : hf_L} {P : hf_P} {Q : Option Value → hf_M → Prop}  (hs : hf_Lay t T P) (h : hf_G X Y_X4_findHolding d 0 0 0 (hf_en [.ref 135, .int 2] 5) [] (t, T, I, L, P) (fun r M => hf_G X Y_X4_isBarred (d + 1) k n 11 [none, none, none] (r.toList ++ []) M Q)) : hf_G X Y_X4_isBarred (d + 1) k n 6 [some (.ref 135), none, none] [] (t, T, I, L, P) Q := by
  refine hf_aload_n dX4_isBarred_6 rfl rfl ?_
  refine hf_iconst (v := 2) dX4_isBarred_7 (by decide) ?_
  exact hf_callV (c := 4) (as := [.int 2]) ok_X4_findHolding dX4_isBarred_8 hw500 hw501 hw1560 (hs.2.1 135 _ rfl) (by decide) (hf_lin hs 135 rfl) rfl (Nat.le_of_ble_eq_true rfl) rfl (Nat.le_of_ble_eq_true rfl) (Nat.zero_le _) (Nat.zero_le _) (hf_mono (fun r M q => hf_drop (l' := [none, none, none]) (by simp [hf_sub]) q) h)

set_option maxHeartbeats 4000000 in
theorem w_X4_isBarred_11 {X : hf_X} {d k n t : Nat} {T : hf_T} {I : hf_I} {L : hf_L} {P : hf_P} {Q : Option Value → hf_M → Prop} {s0 : Int32} (hs : hf_Lay t T P) (h : narrow .boolean (.int s0) = .int s0 ∧ (Q (some (.int s0)) (t, T, I, L, P))) : hf_G X Y_X4_isBarred d k n 11 [none, none, none] [.int s0] (t, T, I, L, P) Q := by
  refine hf_ireturn dX4_isBarred_11 rfl h.1 ?_
  replace h := h.2
  exact h

set_option maxHeartbeats 4000000 in
theorem w_X4_costOf_0 {X : hf_X} {d k n t : Nat} {T : hf_T} {I : hf_I} {L : hf_L} {P : hf_P} {Q : Option Value → hf_M → Prop} {x1 : Int32} {x2 : Int32} {x3 : Int32} {x4 : Int32} {x5 : Int32} (hs : hf_Lay t T P) (h : hf_G X Y_X4_costOf d k n 12 [some (.ref 135), some (.int x1), some (.int x2), some (.int x3), some (.int x4), some (.int x5), some (.ref 133), some (.int 0)] [] (t, T, I, L, P) Q) : hf_G X Y_X4_costOf d k n 0 (hf_en [.ref 135, .int x1, .int x2, .int x3, .int x4, .int x5] 8) [] (t, T, I, L, P) Q := by
  show hf_G X Y_X4_costOf d k n 0 [some (.ref 135), some (.int x1), some (.int x2), some (.int x3), some (.int x4), some (.int x5), none, none] [] (t, T, I, L, P) Q
  refine hf_aload_n dX4_costOf_0 rfl rfl ?_
  refine hf_getr (b := 132) (c := 4) (j := 1) dX4_costOf_1 (hs.2.1 135 _ rfl) (hf_lin hs 135 rfl) (by decide) (by decide) hw268 rfl (hs.2.2 135 1 _ rfl) ?_
  refine hf_getr (b := 133) (c := 7) (j := 0) dX4_costOf_4 (hs.2.1 132 _ rfl) (hf_lin hs 132 rfl) (by decide) (by decide) hw252 rfl (hs.2.2 132 0 _ rfl) ?_
  refine hf_astore (l2 := [some (.ref 135), some (.int x1), some (.int x2), some (.int x3), some (.int x4), some (.int x5), some (.ref 133), none]) dX4_costOf_7 (by decide) rfl ?_
  refine hf_iconst (v := 0) dX4_costOf_9 (by decide) ?_
  refine hf_istore (l2 := [some (.ref 135), some (.int x1), some (.int x2), some (.int x3), some (.int x4), some (.int x5), some (.ref 133), some (.int 0)]) dX4_costOf_10 (by decide) rfl ?_
  exact h

set_option maxHeartbeats 4000000 in
theorem w_X4_costOf_12 {X : hf_X} {d k n t : Nat} {T : hf_T} {I : hf_I} {L : hf_L} {P : hf_P} {Q : Option Value → hf_M → Prop} {x1 : Int32} {x2 : Int32} {x3 : Int32} {x4 : Int32} {x5 : Int32} {x7 : Int32} (hs : hf_Lay t T P) (h : (4 < x7 → (x4 = 0 → (x5 = 0 → hf_G X Y_X4_tellAlways d 0 0 0 (hf_en [.ref 135, .int (I 101 14)] 2) [] (t, T, (hf_up (hf_up (hf_up (hf_up (hf_up I 133 5 x1) 133 6 x2) 133 7 x3) 133 8 0) 133 9 0), L, P) (fun r M => hf_G X Y_X4_costOf (d + 1) k n 88 [some (.ref 135), none, some (.int x2), none, some (.int x4), none, none, none] (r.toList ++ []) M Q)) ∧ (¬ (x5 = 0) → hf_G X Y_X4_tellAlways d 0 0 0 (hf_en [.ref 135, .int (I 101 14)] 2) [] (t, T, (hf_up (hf_up (hf_up (hf_up (hf_up I 133 5 x1) 133 6 x2) 133 7 x3) 133 8 0) 133 9 1), L, P) (fun r M => hf_G X Y_X4_costOf (d + 1) k n 88 [some (.ref 135), none, some (.int x2), none, some (.int x4), none, none, none] (r.toList ++ []) M Q))) ∧ (¬ (x4 = 0) → (x5 = 0 → hf_G X Y_X4_tellAlways d 0 0 0 (hf_en [.ref 135, .int (I 101 14)] 2) [] (t, T, (hf_up (hf_up (hf_up (hf_up (hf_up I 133 5 x1) 133 6 x2) 133 7 x3) 133 8 1) 133 9 0), L, P) (fun r M => hf_G X Y_X4_costOf (d + 1) k n 88 [some (.ref 135), none, some (.int x2), none, some (.int x4), none, none, none] (r.toList ++ []) M Q)) ∧ (¬ (x5 = 0) → hf_G X Y_X4_tellAlways d 0 0 0 (hf_en [.ref 135, .int (I 101 14)] 2) [] (t, T, (hf_up (hf_up (hf_up (hf_up (hf_up I 133 5 x1) 133 6 x2) 133 7 x3) 133 8 1) 133 9 1), L, P) (fun r M => hf_G X Y_X4_costOf (d + 1) k n 88 [some (.ref 135), none, some (.int x2), none, some (.int x4), none, none, none] (r.toList ++ []) M Q)))) ∧ (¬ (4 < x7) → vp_in x7 37 ∧ (hf_G X Y_X4_costOf (d + 1) k n 12 [some (.ref 135), some (.int x1), some (.int x2), some (.int x3), some (.int x4), some (.int x5), some (.ref 133), some (.int (x7 + 1))] [] (t, T, (hf_up I 133 x7.toNatClampNeg (-1)), L, P) Q))) : hf_G X Y_X4_costOf (d + 1) k n 12 [some (.ref 135), some (.int x1), some (.int x2), some (.int x3), some (.int x4), some (.int x5), some (.ref 133), some (.int x7)] [] (t, T, I, L, P) Q := by
  refine hf_iload dX4_costOf_12 rfl ?_
  refine hf_iconst (v := 4) dX4_costOf_14 (by decide) ?_
  refine hf_icmp_gt (tgt := 30) dX4_costOf_15 (by decide) (fun hc => ?_) (fun hc => ?_)
  · replace h := h.1 hc
    refine hf_aload dX4_costOf_30 rfl ?_
    refine hf_iconst (v := 5) dX4_costOf_32 (by decide) ?_
    refine hf_iload_n dX4_costOf_33 rfl rfl ?_
    refine hf_iast_k (j := 5) (by decide) dX4_costOf_34 (hs.2.1 133 _ rfl) (hf_lin hs 133 rfl) (hf_vin (by decide)) ?_
    refine hf_aload dX4_costOf_35 rfl ?_
    refine hf_bipush (v := 6) dX4_costOf_37 (by decide) ?_
    refine hf_iload_n dX4_costOf_39 rfl rfl ?_
    refine hf_iast_k (j := 6) (by decide) dX4_costOf_40 (hs.2.1 133 _ rfl) (hf_lin hs 133 rfl) (hf_vin (by decide)) ?_
    refine hf_aload dX4_costOf_41 rfl ?_
    refine hf_bipush (v := 7) dX4_costOf_43 (by decide) ?_
    refine hf_iload_n dX4_costOf_45 rfl rfl ?_
    refine hf_iast_k (j := 7) (by decide) dX4_costOf_46 (hs.2.1 133 _ rfl) (hf_lin hs 133 rfl) (hf_vin (by decide)) ?_
    refine hf_aload dX4_costOf_47 rfl ?_
    refine hf_bipush (v := 8) dX4_costOf_49 (by decide) ?_
    refine hf_iload dX4_costOf_51 rfl ?_
    refine hf_if_eq (tgt := 60) dX4_costOf_53 (by decide) (fun hc => ?_) (fun hc => ?_)
    · replace h := h.1 hc
      refine hf_iconst (v := 0) dX4_costOf_60 (by decide) ?_
      refine hf_iast_k (j := 8) (by decide) dX4_costOf_61 (hs.2.1 133 _ rfl) (hf_lin hs 133 rfl) (hf_vin (by decide)) ?_
      refine hf_aload dX4_costOf_62 rfl ?_
      refine hf_bipush (v := 9) dX4_costOf_64 (by decide) ?_
      refine hf_iload dX4_costOf_66 rfl ?_
      refine hf_if_eq (tgt := 75) dX4_costOf_68 (by decide) (fun hc => ?_) (fun hc => ?_)
      · replace h := h.1 hc
        refine hf_iconst (v := 0) dX4_costOf_75 (by decide) ?_
        refine hf_iast_k (j := 9) (by decide) dX4_costOf_76 (hs.2.1 133 _ rfl) (hf_lin hs 133 rfl) (hf_vin (by decide)) ?_
        refine hf_aload_n dX4_costOf_77 rfl rfl ?_
        refine hf_aload_n dX4_costOf_78 rfl rfl ?_
        refine hf_getr (b := 101) (c := 4) (j := 0) dX4_costOf_79 (hs.2.1 135 _ rfl) (hf_lin hs 135 rfl) (by decide) (by decide) hw267 rfl (hs.2.2 135 0 _ rfl) ?_
        refine hf_geti (c := 1) (j := 14) dX4_costOf_82 (hs.2.1 101 _ rfl) (hf_lin hs 101 rfl) (by decide) (by decide) hw145 (Or.inl rfl) ?_
        exact hf_callV (c := 4) (as := [.int (I 101 14)]) ok_X4_tellAlways dX4_costOf_85 hw497 hw498 hw1559 (hs.2.1 135 _ rfl) (by decide) (hf_lin hs 135 rfl) rfl (Nat.le_of_ble_eq_true rfl) rfl (Nat.le_of_ble_eq_true rfl) (Nat.zero_le _) (Nat.zero_le _) (hf_mono (fun r M q => hf_drop (l' := [some (.ref 135), none, some (.int x2), none, some (.int x4), none, none, none]) (by simp [hf_sub]) q) h)
      · replace h := h.2 hc
        refine hf_iconst (v := 1) dX4_costOf_71 (by decide) ?_
        refine hf_goto (tgt := 76) dX4_costOf_72 (by decide) ?_
        refine hf_iast_k (j := 9) (by decide) dX4_costOf_76 (hs.2.1 133 _ rfl) (hf_lin hs 133 rfl) (hf_vin (by decide)) ?_
        refine hf_aload_n dX4_costOf_77 rfl rfl ?_
        refine hf_aload_n dX4_costOf_78 rfl rfl ?_
        refine hf_getr (b := 101) (c := 4) (j := 0) dX4_costOf_79 (hs.2.1 135 _ rfl) (hf_lin hs 135 rfl) (by decide) (by decide) hw267 rfl (hs.2.2 135 0 _ rfl) ?_
        refine hf_geti (c := 1) (j := 14) dX4_costOf_82 (hs.2.1 101 _ rfl) (hf_lin hs 101 rfl) (by decide) (by decide) hw145 (Or.inl rfl) ?_
        exact hf_callV (c := 4) (as := [.int (I 101 14)]) ok_X4_tellAlways dX4_costOf_85 hw497 hw498 hw1559 (hs.2.1 135 _ rfl) (by decide) (hf_lin hs 135 rfl) rfl (Nat.le_of_ble_eq_true rfl) rfl (Nat.le_of_ble_eq_true rfl) (Nat.zero_le _) (Nat.zero_le _) (hf_mono (fun r M q => hf_drop (l' := [some (.ref 135), none, some (.int x2), none, some (.int x4), none, none, none]) (by simp [hf_sub]) q) h)
    · replace h := h.2 hc
      refine hf_iconst (v := 1) dX4_costOf_56 (by decide) ?_
      refine hf_goto (tgt := 61) dX4_costOf_57 (by decide) ?_
      refine hf_iast_k (j := 8) (by decide) dX4_costOf_61 (hs.2.1 133 _ rfl) (hf_lin hs 133 rfl) (hf_vin (by decide)) ?_
      refine hf_aload dX4_costOf_62 rfl ?_
      refine hf_bipush (v := 9) dX4_costOf_64 (by decide) ?_
      refine hf_iload dX4_costOf_66 rfl ?_
      refine hf_if_eq (tgt := 75) dX4_costOf_68 (by decide) (fun hc => ?_) (fun hc => ?_)
      · replace h := h.1 hc
        refine hf_iconst (v := 0) dX4_costOf_75 (by decide) ?_
        refine hf_iast_k (j := 9) (by decide) dX4_costOf_76 (hs.2.1 133 _ rfl) (hf_lin hs 133 rfl) (hf_vin (by decide)) ?_
        refine hf_aload_n dX4_costOf_77 rfl rfl ?_
        refine hf_aload_n dX4_costOf_78 rfl rfl ?_
        refine hf_getr (b := 101) (c := 4) (j := 0) dX4_costOf_79 (hs.2.1 135 _ rfl) (hf_lin hs 135 rfl) (by decide) (by decide) hw267 rfl (hs.2.2 135 0 _ rfl) ?_
        refine hf_geti (c := 1) (j := 14) dX4_costOf_82 (hs.2.1 101 _ rfl) (hf_lin hs 101 rfl) (by decide) (by decide) hw145 (Or.inl rfl) ?_
        exact hf_callV (c := 4) (as := [.int (I 101 14)]) ok_X4_tellAlways dX4_costOf_85 hw497 hw498 hw1559 (hs.2.1 135 _ rfl) (by decide) (hf_lin hs 135 rfl) rfl (Nat.le_of_ble_eq_true rfl) rfl (Nat.le_of_ble_eq_true rfl) (Nat.zero_le _) (Nat.zero_le _) (hf_mono (fun r M q => hf_drop (l' := [some (.ref 135), none, some (.int x2), none, some (.int x4), none, none, none]) (by simp [hf_sub]) q) h)
      · replace h := h.2 hc
        refine hf_iconst (v := 1) dX4_costOf_71 (by decide) ?_
        refine hf_goto (tgt := 76) dX4_costOf_72 (by decide) ?_
        refine hf_iast_k (j := 9) (by decide) dX4_costOf_76 (hs.2.1 133 _ rfl) (hf_lin hs 133 rfl) (hf_vin (by decide)) ?_
        refine hf_aload_n dX4_costOf_77 rfl rfl ?_
        refine hf_aload_n dX4_costOf_78 rfl rfl ?_
        refine hf_getr (b := 101) (c := 4) (j := 0) dX4_costOf_79 (hs.2.1 135 _ rfl) (hf_lin hs 135 rfl) (by decide) (by decide) hw267 rfl (hs.2.2 135 0 _ rfl) ?_
        refine hf_geti (c := 1) (j := 14) dX4_costOf_82 (hs.2.1 101 _ rfl) (hf_lin hs 101 rfl) (by decide) (by decide) hw145 (Or.inl rfl) ?_
        exact hf_callV (c := 4) (as := [.int (I 101 14)]) ok_X4_tellAlways dX4_costOf_85 hw497 hw498 hw1559 (hs.2.1 135 _ rfl) (by decide) (hf_lin hs 135 rfl) rfl (Nat.le_of_ble_eq_true rfl) rfl (Nat.le_of_ble_eq_true rfl) (Nat.zero_le _) (Nat.zero_le _) (hf_mono (fun r M q => hf_drop (l' := [some (.ref 135), none, some (.int x2), none, some (.int x4), none, none, none]) (by simp [hf_sub]) q) h)
  · replace h := h.2 hc
    refine hf_aload dX4_costOf_18 rfl ?_
    refine hf_iload dX4_costOf_20 rfl ?_
    refine hf_iconst (v := (-1)) dX4_costOf_22 (by decide) ?_
    refine hf_iast dX4_costOf_23 (hs.2.1 133 _ rfl) (hf_lin hs 133 rfl) h.1 ?_
    replace h := h.2
    refine hf_iinc (v := (x7 + 1)) (l2 := [some (.ref 135), some (.int x1), some (.int x2), some (.int x3), some (.int x4), some (.int x5), some (.ref 133), some (.int (x7 + 1))]) dX4_costOf_24 (by decide) rfl rfl rfl ?_
    refine hf_goto (tgt := 12) dX4_costOf_27 (by decide) ?_
    exact h

set_option maxHeartbeats 4000000 in
theorem w_X4_costOf_88 {X : hf_X} {d k n t : Nat} {T : hf_T} {I : hf_I} {L : hf_L} {P : hf_P} {Q : Option Value → hf_M → Prop} {x2 : Int32} {x4 : Int32} (hs : hf_Lay t T P) (h : hf_G X Y_X4_findHolding d 0 0 0 (hf_en [.ref 135, .int 1] 5) [] (t, T, I, L, P) (fun r M => hf_G X Y_X4_costOf (d + 1) k n 93 [some (.ref 135), none, some (.int x2), none, some (.int x4), none, none, none] (r.toList ++ []) M Q)) : hf_G X Y_X4_costOf (d + 1) k n 88 [some (.ref 135), none, some (.int x2), none, some (.int x4), none, none, none] [] (t, T, I, L, P) Q := by
  refine hf_aload_n dX4_costOf_88 rfl rfl ?_
  refine hf_iconst (v := 1) dX4_costOf_89 (by decide) ?_
  exact hf_callV (c := 4) (as := [.int 1]) ok_X4_findHolding dX4_costOf_90 hw500 hw501 hw1560 (hs.2.1 135 _ rfl) (by decide) (hf_lin hs 135 rfl) rfl (Nat.le_of_ble_eq_true rfl) rfl (Nat.le_of_ble_eq_true rfl) (Nat.zero_le _) (Nat.zero_le _) h

set_option maxHeartbeats 4000000 in
theorem w_X4_costOf_93 {X : hf_X} {d k n t : Nat} {T : hf_T} {I : hf_I} {L : hf_L} {P : hf_P} {Q : Option Value → hf_M → Prop} {x2 : Int32} {x4 : Int32} {s0 : Int32} (hs : hf_Lay t T P) (h : (s0 = 0 → (x4 = 0 → Q (some (.int ((if 0 < x2 then x2 else 0) + 0))) (t, T, I, L, P)) ∧ (¬ (x4 = 0) → Q (some (.int ((if 0 < x2 then x2 else 0) + 20))) (t, T, I, L, P))) ∧ (¬ (s0 = 0) → Q (some (.int (if 0 < (if (I 132 2) < 999 then (I 132 2) else 999) then (if (I 132 2) < 999 then (I 132 2) else 999) else 0))) (t, T, I, L, P))) : hf_G X Y_X4_costOf (d + 2) k n 93 [some (.ref 135), none, some (.int x2), none, some (.int x4), none, none, none] [.int s0] (t, T, I, L, P) Q := by
  refine hf_if_eq (tgt := 107) dX4_costOf_93 (by decide) (fun hc => ?_) (fun hc => ?_)
  · replace h := h.1 hc
    refine hf_iconst (v := 0) dX4_costOf_107 (by decide) ?_
    refine hf_iload_n dX4_costOf_108 rfl rfl ?_
    refine hf_mmax dX4_costOf_109 hw532 (Nat.le_of_ble_eq_true rfl) ?_
    refine hf_iload dX4_costOf_112 rfl ?_
    refine hf_if_eq (tgt := 122) dX4_costOf_114 (by decide) (fun hc => ?_) (fun hc => ?_)
    · replace h := h.1 hc
      refine hf_iconst (v := 0) dX4_costOf_122 (by decide) ?_
      refine hf_iadd dX4_costOf_123 ?_
      refine hf_ireturn dX4_costOf_124 rfl rfl ?_
      exact h
    · replace h := h.2 hc
      refine hf_bipush (v := 20) dX4_costOf_117 (by decide) ?_
      refine hf_goto (tgt := 123) dX4_costOf_119 (by decide) ?_
      refine hf_iadd dX4_costOf_123 ?_
      refine hf_ireturn dX4_costOf_124 rfl rfl ?_
      exact h
  · replace h := h.2 hc
    refine hf_aload_n dX4_costOf_96 rfl rfl ?_
    refine hf_getr (b := 132) (c := 4) (j := 1) dX4_costOf_97 (hs.2.1 135 _ rfl) (hf_lin hs 135 rfl) (by decide) (by decide) hw268 rfl (hs.2.2 135 1 _ rfl) ?_
    refine hf_geti (c := 7) (j := 2) dX4_costOf_100 (hs.2.1 132 _ rfl) (hf_lin hs 132 rfl) (by decide) (by decide) hw256 (Or.inl rfl) ?_
    refine hf_callS (as := [.int (I 132 2)]) ok_X4_nearestCost dX4_costOf_103 hw528 hw529 rfl (Nat.le_of_ble_eq_true rfl) rfl (Nat.le_of_ble_eq_true rfl) (Nat.zero_le _) (Nat.zero_le _) ?_
    show hf_G X Y_X4_nearestCost (d + 1) _ _ 0 [some (.int (I 132 2))] [] (t, T, I, L, P) _
    refine hf_iconst (v := 0) dX4_nearestCost_0 (by decide) ?_
    refine hf_sipush (v := 999) dX4_nearestCost_1 (by decide) ?_
    refine hf_iload_n dX4_nearestCost_4 rfl rfl ?_
    refine hf_mmin dX4_nearestCost_5 hw531 (Nat.le_of_ble_eq_true rfl) ?_
    refine hf_mmax dX4_nearestCost_8 hw532 (Nat.le_of_ble_eq_true rfl) ?_
    refine hf_ireturn dX4_nearestCost_11 rfl rfl ?_
    show hf_G X Y_X4_costOf (d + 2) _ _ 106 [some (.ref 135), none, some (.int x2), none, some (.int x4), none, none, none] [.int (if 0 < (if (I 132 2) < 999 then (I 132 2) else 999) then (if (I 132 2) < 999 then (I 132 2) else 999) else 0)] (t, T, I, L, P) _
    refine hf_ireturn dX4_costOf_106 rfl rfl ?_
    exact h

set_option maxHeartbeats 4000000 in
theorem w_X4_headLineCost_0 {X : hf_X} {d k n t : Nat} {T : hf_T} {I : hf_I} {L : hf_L} {P : hf_P} {Q : Option Value → hf_M → Prop} {x1 : Int32} (hs : hf_Lay t T P) (h : hf_G X Y_X3_manyIn d 0 0 0 (hf_en [.ref 114, .int x1] 4) [] (t, T, I, L, P) (fun r M => hf_G X Y_X4_headLineCost (d + 1) k n 11 [some (.ref 135), some (.int x1), none, none] (r.toList ++ []) M Q)) : hf_G X Y_X4_headLineCost (d + 1) k n 0 (hf_en [.ref 135, .int x1] 4) [] (t, T, I, L, P) Q := by
  show hf_G X Y_X4_headLineCost (d + 1) k n 0 [some (.ref 135), some (.int x1), none, none] [] (t, T, I, L, P) Q
  refine hf_aload_n dX4_headLineCost_0 rfl rfl ?_
  refine hf_getr (b := 101) (c := 4) (j := 0) dX4_headLineCost_1 (hs.2.1 135 _ rfl) (hf_lin hs 135 rfl) (by decide) (by decide) hw267 rfl (hs.2.2 135 0 _ rfl) ?_
  refine hf_getr (b := 114) (c := 1) (j := 7) dX4_headLineCost_4 (hs.2.1 101 _ rfl) (hf_lin hs 101 rfl) (by decide) (by decide) hw124 rfl (hs.2.2 101 7 _ rfl) ?_
  refine hf_iload_n dX4_headLineCost_7 rfl rfl ?_
  exact hf_callV (c := 3) (as := [.int x1]) ok_X3_manyIn dX4_headLineCost_8 hw767 hw700 hw701 (hs.2.1 114 _ rfl) (by decide) (hf_lin hs 114 rfl) rfl (Nat.le_of_ble_eq_true rfl) rfl (Nat.le_of_ble_eq_true rfl) (Nat.zero_le _) (Nat.zero_le _) h

set_option maxHeartbeats 4000000 in
theorem w_X4_headLineCost_11 {X : hf_X} {d k n t : Nat} {T : hf_T} {I : hf_I} {L : hf_L} {P : hf_P} {Q : Option Value → hf_M → Prop} {x1 : Int32} {s0 : Int32} (hs : hf_Lay t T P) (h : (¬ s0 = 0 → hf_G X Y_X1_lineWidth d 0 0 0 (hf_en [.ref 101, .int x1] 5) [] (t, T, I, L, P) (fun r M => hf_G X Y_X4_headLineCost (d + 1) k n 33 [some (.ref 135), some (.int x1), some (.int s0), none] (r.toList ++ [.int (I 101 12)]) M Q)) ∧ (s0 = 0 → Q (some (.int 0)) (t, T, I, L, P))) : hf_G X Y_X4_headLineCost (d + 1) k n 11 [some (.ref 135), some (.int x1), none, none] [.int s0] (t, T, I, L, P) Q := by
  refine hf_istore_n (l2 := [some (.ref 135), some (.int x1), some (.int s0), none]) dX4_headLineCost_11 rfl (by decide) rfl ?_
  refine hf_iload_n dX4_headLineCost_12 rfl rfl ?_
  refine hf_if_ne (tgt := 18) dX4_headLineCost_13 (by decide) (fun hc => ?_) (fun hc => ?_)
  · replace h := h.1 hc
    refine hf_aload_n dX4_headLineCost_18 rfl rfl ?_
    refine hf_getr (b := 101) (c := 4) (j := 0) dX4_headLineCost_19 (hs.2.1 135 _ rfl) (hf_lin hs 135 rfl) (by decide) (by decide) hw267 rfl (hs.2.2 135 0 _ rfl) ?_
    refine hf_geti (c := 1) (j := 12) dX4_headLineCost_22 (hs.2.1 101 _ rfl) (hf_lin hs 101 rfl) (by decide) (by decide) hw138 (Or.inl rfl) ?_
    refine hf_aload_n dX4_headLineCost_25 rfl rfl ?_
    refine hf_getr (b := 101) (c := 4) (j := 0) dX4_headLineCost_26 (hs.2.1 135 _ rfl) (hf_lin hs 135 rfl) (by decide) (by decide) hw267 rfl (hs.2.2 135 0 _ rfl) ?_
    refine hf_iload_n dX4_headLineCost_29 rfl rfl ?_
    exact hf_callV (c := 1) (as := [.int x1]) ok_X1_lineWidth dX4_headLineCost_30 hw768 hw688 hw689 (hs.2.1 101 _ rfl) (by decide) (hf_lin hs 101 rfl) rfl (Nat.le_of_ble_eq_true rfl) rfl (Nat.le_of_ble_eq_true rfl) (Nat.zero_le _) (Nat.zero_le _) h
  · replace h := h.2 hc
    refine hf_iconst (v := 0) dX4_headLineCost_16 (by decide) ?_
    refine hf_ireturn dX4_headLineCost_17 rfl rfl ?_
    exact h

set_option maxHeartbeats 4000000 in
theorem w_X4_headLineCost_33 {X : hf_X} {d k n t : Nat} {T : hf_T} {I : hf_I} {L : hf_L} {P : hf_P} {Q : Option Value → hf_M → Prop} {x1 : Int32} {x2 : Int32} {s0 : Int32} {s1 : Int32} (hs : hf_Lay t T P) (h : hf_G X Y_X1_isAlike d 0 0 0 (hf_en [.ref 101, .int x1] 4) [] (t, T, I, L, P) (fun r M => hf_G X Y_X4_headLineCost (d + 1) k n 47 [some (.ref 135), some (.int x1), none, none] (r.toList ++ [.int x2, .int (s1 - s0), .int x1, .ref 135]) M Q)) : hf_G X Y_X4_headLineCost (d + 1) k n 33 [some (.ref 135), some (.int x1), some (.int x2), none] [.int s0, .int s1] (t, T, I, L, P) Q := by
  refine hf_isub dX4_headLineCost_33 ?_
  refine hf_istore_n (l2 := [some (.ref 135), some (.int x1), some (.int x2), some (.int (s1 - s0))]) dX4_headLineCost_34 rfl (by decide) rfl ?_
  refine hf_aload_n dX4_headLineCost_35 rfl rfl ?_
  refine hf_iload_n dX4_headLineCost_36 rfl rfl ?_
  refine hf_iload_n dX4_headLineCost_37 rfl rfl ?_
  refine hf_iload_n dX4_headLineCost_38 rfl rfl ?_
  refine hf_aload_n dX4_headLineCost_39 rfl rfl ?_
  refine hf_getr (b := 101) (c := 4) (j := 0) dX4_headLineCost_40 (hs.2.1 135 _ rfl) (hf_lin hs 135 rfl) (by decide) (by decide) hw267 rfl (hs.2.2 135 0 _ rfl) ?_
  refine hf_iload_n dX4_headLineCost_43 rfl rfl ?_
  exact hf_callV (c := 1) (as := [.int x1]) ok_X1_isAlike dX4_headLineCost_44 hw769 hw770 hw771 (hs.2.1 101 _ rfl) (by decide) (hf_lin hs 101 rfl) rfl (Nat.le_of_ble_eq_true rfl) rfl (Nat.le_of_ble_eq_true rfl) (Nat.zero_le _) (Nat.zero_le _) (hf_mono (fun r M q => hf_drop (l' := [some (.ref 135), some (.int x1), none, none]) (by simp [hf_sub]) q) h)

set_option maxHeartbeats 4000000 in
theorem w_X4_headLineCost_47 {X : hf_X} {d k n t : Nat} {T : hf_T} {I : hf_I} {L : hf_L} {P : hf_P} {Q : Option Value → hf_M → Prop} {x1 : Int32} {s0 : Int32} {s1 : Int32} {s2 : Int32} {s3 : Int32} (hs : hf_Lay t T P) (h : hf_G X Y_X1_isEcho d 0 0 0 (hf_en [.ref 101, .int x1] 3) [] (t, T, I, L, P) (fun r M => hf_G X Y_X4_headLineCost (d + 1) k n 55 [none, none, none, none] (r.toList ++ [.int s0, .int s1, .int s2, .int s3, .ref 135]) M Q)) : hf_G X Y_X4_headLineCost (d + 1) k n 47 [some (.ref 135), some (.int x1), none, none] [.int s0, .int s1, .int s2, .int s3, .ref 135] (t, T, I, L, P) Q := by
  refine hf_aload_n dX4_headLineCost_47 rfl rfl ?_
  refine hf_getr (b := 101) (c := 4) (j := 0) dX4_headLineCost_48 (hs.2.1 135 _ rfl) (hf_lin hs 135 rfl) (by decide) (by decide) hw267 rfl (hs.2.2 135 0 _ rfl) ?_
  refine hf_iload_n dX4_headLineCost_51 rfl rfl ?_
  exact hf_callV (c := 1) (as := [.int x1]) ok_X1_isEcho dX4_headLineCost_52 hw782 hw783 hw784 (hs.2.1 101 _ rfl) (by decide) (hf_lin hs 101 rfl) rfl (Nat.le_of_ble_eq_true rfl) rfl (Nat.le_of_ble_eq_true rfl) (Nat.zero_le _) (Nat.zero_le _) (hf_mono (fun r M q => hf_drop (l' := [none, none, none, none]) (by simp [hf_sub]) q) h)

set_option maxHeartbeats 4000000 in
theorem w_X4_headLineCost_55 {X : hf_X} {d k n t : Nat} {T : hf_T} {I : hf_I} {L : hf_L} {P : hf_P} {Q : Option Value → hf_M → Prop} {s0 : Int32} {s1 : Int32} {s2 : Int32} {s3 : Int32} {s4 : Int32} (hs : hf_Lay t T P) (h : hf_G X Y_X4_costOf d 0 0 0 (hf_en [.ref 135, .int s4, .int s3, .int s2, .int s1, .int s0] 8) [] (t, T, I, L, P) (fun r M => hf_G X Y_X4_headLineCost (d + 1) k n 58 [none, none, none, none] (r.toList ++ []) M Q)) : hf_G X Y_X4_headLineCost (d + 1) k n 55 [none, none, none, none] [.int s0, .int s1, .int s2, .int s3, .int s4, .ref 135] (t, T, I, L, P) Q := by
  exact hf_callV (c := 4) (as := [.int s4, .int s3, .int s2, .int s1, .int s0]) ok_X4_costOf dX4_headLineCost_55 hw786 hw787 hw788 (hs.2.1 135 _ rfl) (by decide) (hf_lin hs 135 rfl) rfl (Nat.le_of_ble_eq_true rfl) rfl (Nat.le_of_ble_eq_true rfl) (Nat.zero_le _) (Nat.zero_le _) h

set_option maxHeartbeats 4000000 in
theorem w_X4_headLineCost_58 {X : hf_X} {d k n t : Nat} {T : hf_T} {I : hf_I} {L : hf_L} {P : hf_P} {Q : Option Value → hf_M → Prop} {s0 : Int32} (hs : hf_Lay t T P) (h : Q (some (.int s0)) (t, T, I, L, P)) : hf_G X Y_X4_headLineCost d k n 58 [none, none, none, none] [.int s0] (t, T, I, L, P) Q := by
  refine hf_ireturn dX4_headLineCost_58 rfl rfl ?_
  exact h

set_option maxHeartbeats 4000000 in
theorem w_X4_nearestCost_0 {X : hf_X} {d k n t : Nat} {T : hf_T} {I : hf_I} {L : hf_L} {P : hf_P} {Q : Option Value → hf_M → Prop} {x0 : Int32} (hs : hf_Lay t T P) (h : Q (some (.int (if 0 < (if x0 < 999 then x0 else 999) then (if x0 < 999 then x0 else 999) else 0))) (t, T, I, L, P)) : hf_G X Y_X4_nearestCost (d + 1) k n 0 (hf_en [.int x0] 1) [] (t, T, I, L, P) Q := by
  show hf_G X Y_X4_nearestCost (d + 1) k n 0 [some (.int x0)] [] (t, T, I, L, P) Q
  refine hf_iconst (v := 0) dX4_nearestCost_0 (by decide) ?_
  refine hf_sipush (v := 999) dX4_nearestCost_1 (by decide) ?_
  refine hf_iload_n dX4_nearestCost_4 rfl rfl ?_
  refine hf_mmin dX4_nearestCost_5 hw531 (Nat.le_of_ble_eq_true rfl) ?_
  refine hf_mmax dX4_nearestCost_8 hw532 (Nat.le_of_ble_eq_true rfl) ?_
  refine hf_ireturn dX4_nearestCost_11 rfl rfl ?_
  exact h

set_option maxHeartbeats 4000000 in
theorem w_X4_tellWord_0 {X : hf_X} {d k n t : Nat} {T : hf_T} {I : hf_I} {L : hf_L} {P : hf_P} {Q : Option Value → hf_M → Prop} {x1 : Int32} {x2 : Int32} (hs : hf_Lay t T P) (h : vp_in x1 16 ∧ (vp_in x1 16 ∧ (vp_in x1 16 ∧ (vp_in x1 16 ∧ (hf_G X Y_X4_tellWord d k n 75 [some (.ref 135), none, some (.int x2), some (.ref 133), some (.int 5)] [] (t, T, (hf_up (hf_up (hf_up (hf_up (hf_up I 133 0 x1) 133 1 (I 106 x1.toNatClampNeg)) 133 2 (I 107 x1.toNatClampNeg)) 133 3 (I 108 x1.toNatClampNeg)) 133 4 (I 109 x1.toNatClampNeg)), L, P) Q))))) : hf_G X Y_X4_tellWord d k n 0 (hf_en [.ref 135, .int x1, .int x2] 5) [] (t, T, I, L, P) Q := by
  show hf_G X Y_X4_tellWord d k n 0 [some (.ref 135), some (.int x1), some (.int x2), none, none] [] (t, T, I, L, P) Q
  refine hf_aload_n dX4_tellWord_0 rfl rfl ?_
  refine hf_getr (b := 132) (c := 4) (j := 1) dX4_tellWord_1 (hs.2.1 135 _ rfl) (hf_lin hs 135 rfl) (by decide) (by decide) hw268 rfl (hs.2.2 135 1 _ rfl) ?_
  refine hf_getr (b := 133) (c := 7) (j := 0) dX4_tellWord_4 (hs.2.1 132 _ rfl) (hf_lin hs 132 rfl) (by decide) (by decide) hw252 rfl (hs.2.2 132 0 _ rfl) ?_
  refine hf_astore_n (l2 := [some (.ref 135), some (.int x1), some (.int x2), some (.ref 133), none]) dX4_tellWord_7 rfl (by decide) rfl ?_
  refine hf_aload_n dX4_tellWord_8 rfl rfl ?_
  refine hf_iconst (v := 0) dX4_tellWord_9 (by decide) ?_
  refine hf_iload_n dX4_tellWord_10 rfl rfl ?_
  refine hf_iast_k (j := 0) (by decide) dX4_tellWord_11 (hs.2.1 133 _ rfl) (hf_lin hs 133 rfl) (hf_vin (by decide)) ?_
  refine hf_aload_n dX4_tellWord_12 rfl rfl ?_
  refine hf_iconst (v := 1) dX4_tellWord_13 (by decide) ?_
  refine hf_aload_n dX4_tellWord_14 rfl rfl ?_
  refine hf_getr (b := 101) (c := 4) (j := 0) dX4_tellWord_15 (hs.2.1 135 _ rfl) (hf_lin hs 135 rfl) (by decide) (by decide) hw267 rfl (hs.2.2 135 0 _ rfl) ?_
  refine hf_getr (b := 105) (c := 1) (j := 3) dX4_tellWord_18 (hs.2.1 101 _ rfl) (hf_lin hs 101 rfl) (by decide) (by decide) hw108 rfl (hs.2.2 101 3 _ rfl) ?_
  refine hf_getr (b := 106) (c := 10) (j := 0) dX4_tellWord_21 (hs.2.1 105 _ rfl) (hf_lin hs 105 rfl) (by decide) (by decide) hw45 rfl (hs.2.2 105 0 _ rfl) ?_
  refine hf_iload_n dX4_tellWord_24 rfl rfl ?_
  refine hf_iald dX4_tellWord_25 (hs.2.1 106 _ rfl) (hf_lin hs 106 rfl) h.1 ?_
  replace h := h.2
  refine hf_iast_k (j := 1) (by decide) dX4_tellWord_26 (hs.2.1 133 _ rfl) (hf_lin hs 133 rfl) (hf_vin (by decide)) ?_
  refine hf_aload_n dX4_tellWord_27 rfl rfl ?_
  refine hf_iconst (v := 2) dX4_tellWord_28 (by decide) ?_
  refine hf_aload_n dX4_tellWord_29 rfl rfl ?_
  refine hf_getr (b := 101) (c := 4) (j := 0) dX4_tellWord_30 (hs.2.1 135 _ rfl) (hf_lin hs 135 rfl) (by decide) (by decide) hw267 rfl (hs.2.2 135 0 _ rfl) ?_
  refine hf_getr (b := 105) (c := 1) (j := 3) dX4_tellWord_33 (hs.2.1 101 _ rfl) (hf_lin hs 101 rfl) (by decide) (by decide) hw108 rfl (hs.2.2 101 3 _ rfl) ?_
  refine hf_getr (b := 107) (c := 10) (j := 1) dX4_tellWord_36 (hs.2.1 105 _ rfl) (hf_lin hs 105 rfl) (by decide) (by decide) hw48 rfl (hs.2.2 105 1 _ rfl) ?_
  refine hf_iload_n dX4_tellWord_39 rfl rfl ?_
  refine hf_iald dX4_tellWord_40 (hs.2.1 107 _ rfl) (hf_lin hs 107 rfl) h.1 ?_
  replace h := h.2
  refine hf_iast_k (j := 2) (by decide) dX4_tellWord_41 (hs.2.1 133 _ rfl) (hf_lin hs 133 rfl) (hf_vin (by decide)) ?_
  refine hf_aload_n dX4_tellWord_42 rfl rfl ?_
  refine hf_iconst (v := 3) dX4_tellWord_43 (by decide) ?_
  refine hf_aload_n dX4_tellWord_44 rfl rfl ?_
  refine hf_getr (b := 101) (c := 4) (j := 0) dX4_tellWord_45 (hs.2.1 135 _ rfl) (hf_lin hs 135 rfl) (by decide) (by decide) hw267 rfl (hs.2.2 135 0 _ rfl) ?_
  refine hf_getr (b := 105) (c := 1) (j := 3) dX4_tellWord_48 (hs.2.1 101 _ rfl) (hf_lin hs 101 rfl) (by decide) (by decide) hw108 rfl (hs.2.2 101 3 _ rfl) ?_
  refine hf_getr (b := 108) (c := 10) (j := 2) dX4_tellWord_51 (hs.2.1 105 _ rfl) (hf_lin hs 105 rfl) (by decide) (by decide) hw52 rfl (hs.2.2 105 2 _ rfl) ?_
  refine hf_iload_n dX4_tellWord_54 rfl rfl ?_
  refine hf_iald dX4_tellWord_55 (hs.2.1 108 _ rfl) (hf_lin hs 108 rfl) h.1 ?_
  replace h := h.2
  refine hf_iast_k (j := 3) (by decide) dX4_tellWord_56 (hs.2.1 133 _ rfl) (hf_lin hs 133 rfl) (hf_vin (by decide)) ?_
  refine hf_aload_n dX4_tellWord_57 rfl rfl ?_
  refine hf_iconst (v := 4) dX4_tellWord_58 (by decide) ?_
  refine hf_aload_n dX4_tellWord_59 rfl rfl ?_
  refine hf_getr (b := 101) (c := 4) (j := 0) dX4_tellWord_60 (hs.2.1 135 _ rfl) (hf_lin hs 135 rfl) (by decide) (by decide) hw267 rfl (hs.2.2 135 0 _ rfl) ?_
  refine hf_getr (b := 105) (c := 1) (j := 3) dX4_tellWord_63 (hs.2.1 101 _ rfl) (hf_lin hs 101 rfl) (by decide) (by decide) hw108 rfl (hs.2.2 101 3 _ rfl) ?_
  refine hf_getr (b := 109) (c := 10) (j := 3) dX4_tellWord_66 (hs.2.1 105 _ rfl) (hf_lin hs 105 rfl) (by decide) (by decide) hw57 rfl (hs.2.2 105 3 _ rfl) ?_
  refine hf_iload_n dX4_tellWord_69 rfl rfl ?_
  refine hf_iald dX4_tellWord_70 (hs.2.1 109 _ rfl) (hf_lin hs 109 rfl) h.1 ?_
  replace h := h.2
  refine hf_iast_k (j := 4) (by decide) dX4_tellWord_71 (hs.2.1 133 _ rfl) (hf_lin hs 133 rfl) (hf_vin (by decide)) ?_
  refine hf_iconst (v := 5) dX4_tellWord_72 (by decide) ?_
  refine hf_istore (l2 := [some (.ref 135), some (.int x1), some (.int x2), some (.ref 133), some (.int 5)]) dX4_tellWord_73 (by decide) rfl ?_
  refine hf_drop (l' := [some (.ref 135), none, some (.int x2), some (.ref 133), some (.int 5)]) (by simp [hf_sub]) ?_
  exact h

set_option maxHeartbeats 4000000 in
theorem w_X4_tellWord_75 {X : hf_X} {d k n t : Nat} {T : hf_T} {I : hf_I} {L : hf_L} {P : hf_P} {Q : Option Value → hf_M → Prop} {x2 : Int32} {x4 : Int32} (hs : hf_Lay t T P) (h : (9 < x4 → hf_G X Y_X4_tellAlways d 0 0 0 (hf_en [.ref 135, .int x2] 2) [] (t, T, I, L, P) (fun r M => hf_G X Y_X4_tellWord (d + 1) k n 98 [none, none, none, none, none] (r.toList ++ []) M Q)) ∧ (¬ (9 < x4) → vp_in x4 37 ∧ (hf_G X Y_X4_tellWord (d + 1) k n 75 [some (.ref 135), none, some (.int x2), some (.ref 133), some (.int (x4 + 1))] [] (t, T, (hf_up I 133 x4.toNatClampNeg (-1)), L, P) Q))) : hf_G X Y_X4_tellWord (d + 1) k n 75 [some (.ref 135), none, some (.int x2), some (.ref 133), some (.int x4)] [] (t, T, I, L, P) Q := by
  refine hf_iload dX4_tellWord_75 rfl ?_
  refine hf_bipush (v := 9) dX4_tellWord_77 (by decide) ?_
  refine hf_icmp_gt (tgt := 93) dX4_tellWord_79 (by decide) (fun hc => ?_) (fun hc => ?_)
  · replace h := h.1 hc
    refine hf_aload_n dX4_tellWord_93 rfl rfl ?_
    refine hf_iload_n dX4_tellWord_94 rfl rfl ?_
    exact hf_callV (c := 4) (as := [.int x2]) ok_X4_tellAlways dX4_tellWord_95 hw497 hw498 hw1559 (hs.2.1 135 _ rfl) (by decide) (hf_lin hs 135 rfl) rfl (Nat.le_of_ble_eq_true rfl) rfl (Nat.le_of_ble_eq_true rfl) (Nat.zero_le _) (Nat.zero_le _) (hf_mono (fun r M q => hf_drop (l' := [none, none, none, none, none]) (by simp [hf_sub]) q) h)
  · replace h := h.2 hc
    refine hf_aload_n dX4_tellWord_82 rfl rfl ?_
    refine hf_iload dX4_tellWord_83 rfl ?_
    refine hf_iconst (v := (-1)) dX4_tellWord_85 (by decide) ?_
    refine hf_iast dX4_tellWord_86 (hs.2.1 133 _ rfl) (hf_lin hs 133 rfl) h.1 ?_
    replace h := h.2
    refine hf_iinc (v := (x4 + 1)) (l2 := [some (.ref 135), none, some (.int x2), some (.ref 133), some (.int (x4 + 1))]) dX4_tellWord_87 (by decide) rfl rfl rfl ?_
    refine hf_goto (tgt := 75) dX4_tellWord_90 (by decide) ?_
    exact h

set_option maxHeartbeats 4000000 in
theorem w_X4_tellWord_98 {X : hf_X} {d k n t : Nat} {T : hf_T} {I : hf_I} {L : hf_L} {P : hf_P} {Q : Option Value → hf_M → Prop}  (hs : hf_Lay t T P) (h : Q none (t, T, I, L, P)) : hf_G X Y_X4_tellWord d k n 98 [none, none, none, none, none] [] (t, T, I, L, P) Q := by
  refine hf_return dX4_tellWord_98 rfl ?_
  exact h

set_option maxHeartbeats 4000000 in
theorem w_X4_tellAlways_0 {X : hf_X} {d k n t : Nat} {T : hf_T} {I : hf_I} {L : hf_L} {P : hf_P} {Q : Option Value → hf_M → Prop} {x1 : Int32} (hs : hf_Lay t T P) (h : Q none (t, T, (hf_up (hf_up (hf_up I 133 10 x1) 133 11 (I 104 0)) 133 12 (I 104 1)), L, P)) : hf_G X Y_X4_tellAlways d k n 0 (hf_en [.ref 135, .int x1] 2) [] (t, T, I, L, P) Q := by
  show hf_G X Y_X4_tellAlways d k n 0 [some (.ref 135), some (.int x1)] [] (t, T, I, L, P) Q
  refine hf_aload_n dX4_tellAlways_0 rfl rfl ?_
  refine hf_getr (b := 132) (c := 4) (j := 1) dX4_tellAlways_1 (hs.2.1 135 _ rfl) (hf_lin hs 135 rfl) (by decide) (by decide) hw268 rfl (hs.2.2 135 1 _ rfl) ?_
  refine hf_getr (b := 133) (c := 7) (j := 0) dX4_tellAlways_4 (hs.2.1 132 _ rfl) (hf_lin hs 132 rfl) (by decide) (by decide) hw252 rfl (hs.2.2 132 0 _ rfl) ?_
  refine hf_bipush (v := 10) dX4_tellAlways_7 (by decide) ?_
  refine hf_iload_n dX4_tellAlways_9 rfl rfl ?_
  refine hf_iast_k (j := 10) (by decide) dX4_tellAlways_10 (hs.2.1 133 _ rfl) (hf_lin hs 133 rfl) (hf_vin (by decide)) ?_
  refine hf_aload_n dX4_tellAlways_11 rfl rfl ?_
  refine hf_getr (b := 132) (c := 4) (j := 1) dX4_tellAlways_12 (hs.2.1 135 _ rfl) (hf_lin hs 135 rfl) (by decide) (by decide) hw268 rfl (hs.2.2 135 1 _ rfl) ?_
  refine hf_getr (b := 133) (c := 7) (j := 0) dX4_tellAlways_15 (hs.2.1 132 _ rfl) (hf_lin hs 132 rfl) (by decide) (by decide) hw252 rfl (hs.2.2 132 0 _ rfl) ?_
  refine hf_bipush (v := 11) dX4_tellAlways_18 (by decide) ?_
  refine hf_aload_n dX4_tellAlways_20 rfl rfl ?_
  refine hf_getr (b := 101) (c := 4) (j := 0) dX4_tellAlways_21 (hs.2.1 135 _ rfl) (hf_lin hs 135 rfl) (by decide) (by decide) hw267 rfl (hs.2.2 135 0 _ rfl) ?_
  refine hf_getr (b := 104) (c := 1) (j := 2) dX4_tellAlways_24 (hs.2.1 101 _ rfl) (hf_lin hs 101 rfl) (by decide) (by decide) hw106 rfl (hs.2.2 101 2 _ rfl) ?_
  refine hf_iconst (v := 0) dX4_tellAlways_27 (by decide) ?_
  refine hf_iald_k (j := 0) (by decide) dX4_tellAlways_28 (hs.2.1 104 _ rfl) (hf_lin hs 104 rfl) (hf_vin (by decide)) ?_
  refine hf_iast_k (j := 11) (by decide) dX4_tellAlways_29 (hs.2.1 133 _ rfl) (hf_lin hs 133 rfl) (hf_vin (by decide)) ?_
  refine hf_aload_n dX4_tellAlways_30 rfl rfl ?_
  refine hf_getr (b := 132) (c := 4) (j := 1) dX4_tellAlways_31 (hs.2.1 135 _ rfl) (hf_lin hs 135 rfl) (by decide) (by decide) hw268 rfl (hs.2.2 135 1 _ rfl) ?_
  refine hf_getr (b := 133) (c := 7) (j := 0) dX4_tellAlways_34 (hs.2.1 132 _ rfl) (hf_lin hs 132 rfl) (by decide) (by decide) hw252 rfl (hs.2.2 132 0 _ rfl) ?_
  refine hf_bipush (v := 12) dX4_tellAlways_37 (by decide) ?_
  refine hf_aload_n dX4_tellAlways_39 rfl rfl ?_
  refine hf_getr (b := 101) (c := 4) (j := 0) dX4_tellAlways_40 (hs.2.1 135 _ rfl) (hf_lin hs 135 rfl) (by decide) (by decide) hw267 rfl (hs.2.2 135 0 _ rfl) ?_
  refine hf_getr (b := 104) (c := 1) (j := 2) dX4_tellAlways_43 (hs.2.1 101 _ rfl) (hf_lin hs 101 rfl) (by decide) (by decide) hw106 rfl (hs.2.2 101 2 _ rfl) ?_
  refine hf_iconst (v := 1) dX4_tellAlways_46 (by decide) ?_
  refine hf_iald_k (j := 1) (by decide) dX4_tellAlways_47 (hs.2.1 104 _ rfl) (hf_lin hs 104 rfl) (hf_vin (by decide)) ?_
  refine hf_iast_k (j := 12) (by decide) dX4_tellAlways_48 (hs.2.1 133 _ rfl) (hf_lin hs 133 rfl) (hf_vin (by decide)) ?_
  refine hf_return dX4_tellAlways_49 rfl ?_
  exact h
