set_option maxHeartbeats 4000000 in
theorem w_X12_termOf_0 {X : hf_X} {d k n t : Nat} {T : hf_T} {I : hf_I} {L : hf_L} {P : hf_P} {Q : Option Value → hf_M → Prop} {x1 : Int32} (hs : hf_Lay t T P) (h : hf_G X Y_X12_partOf d 0 0 0 (hf_en [.ref 156, .int x1] 4) [] (t, T, I, L, P) (fun r M => hf_G X Y_X12_termOf (d + 1) k n 5 [some (.ref 156), some (.int x1), none, none, none, none, none] (r.toList ++ []) M Q)) : hf_G X Y_X12_termOf (d + 1) k n 0 (hf_en [.ref 156, .int x1] 7) [] (t, T, I, L, P) Q := by
  show hf_G X Y_X12_termOf (d + 1) k n 0 [some (.ref 156), some (.int x1), none, none, none, none, none] [] (t, T, I, L, P) Q
  refine hf_aload_n dX12_termOf_0 rfl rfl ?_
  refine hf_iload_n dX12_termOf_1 rfl rfl ?_
  exact hf_callV (c := 12) (as := [.int x1]) ok_X12_partOf dX12_termOf_2 hw1223 hw1224 hw1616 (hs.2.1 156 _ rfl) (by decide) (hf_lin hs 156 rfl) rfl (Nat.le_of_ble_eq_true rfl) rfl (Nat.le_of_ble_eq_true rfl) (Nat.zero_le _) (Nat.zero_le _) h

set_option maxHeartbeats 4000000 in
theorem w_X12_termOf_5 {X : hf_X} {d k n t : Nat} {T : hf_T} {I : hf_I} {L : hf_L} {P : hf_P} {Q : Option Value → hf_M → Prop} {x1 : Int32} {s0 : Int64} (hs : hf_Lay t T P) (h : hf_G X Y_X12_termOf d k n 6 [some (.ref 156), some (.int x1), some (.long s0), none, none, none, none] [] (t, T, I, L, P) Q) : hf_G X Y_X12_termOf d k n 5 [some (.ref 156), some (.int x1), none, none, none, none, none] [.long s0] (t, T, I, L, P) Q := by
  refine hf_lstore_n (l2 := [some (.ref 156), some (.int x1), some (.long s0), none, none, none, none]) dX12_termOf_5 rfl (by decide) rfl ?_
  exact h

set_option maxHeartbeats 4000000 in
theorem w_X12_termOf_6 {X : hf_X} {d k n t : Nat} {T : hf_T} {I : hf_I} {L : hf_L} {P : hf_P} {Q : Option Value → hf_M → Prop} {x1 : Int32} {x2 : Int64} (hs : hf_Lay t T P) (h : hf_G X Y_X12_codeAt d 0 0 0 (hf_en [.ref 156, .int (I 156 19)] 2) [] (t, T, I, L, P) (fun r M => hf_G X Y_X12_termOf (d + 1) k n 14 [some (.ref 156), some (.int x1), some (.long x2), none, none, none, none] (r.toList ++ []) M Q)) : hf_G X Y_X12_termOf (d + 1) k n 6 [some (.ref 156), some (.int x1), some (.long x2), none, none, none, none] [] (t, T, I, L, P) Q := by
  refine hf_aload_n dX12_termOf_6 rfl rfl ?_
  refine hf_aload_n dX12_termOf_7 rfl rfl ?_
  refine hf_geti (c := 12) (j := 19) dX12_termOf_8 (hs.2.1 156 _ rfl) (hf_lin hs 156 rfl) (by decide) (by decide) hw1055 (Or.inl rfl) ?_
  exact hf_callV (c := 12) (as := [.int (I 156 19)]) ok_X12_codeAt dX12_termOf_11 hw1214 hw1215 hw1613 (hs.2.1 156 _ rfl) (by decide) (hf_lin hs 156 rfl) rfl (Nat.le_of_ble_eq_true rfl) rfl (Nat.le_of_ble_eq_true rfl) (Nat.zero_le _) (Nat.zero_le _) h

set_option maxHeartbeats 4000000 in
theorem w_X12_termOf_14 {X : hf_X} {d k n t : Nat} {T : hf_T} {I : hf_I} {L : hf_L} {P : hf_P} {Q : Option Value → hf_M → Prop} {x1 : Int32} {x2 : Int64} {s0 : Int32} (hs : hf_Lay t T P) (h : (s0 = 142 → hf_G X Y_X12_codeAt d 0 0 0 (hf_en [.ref 156, .int (I 156 19)] 2) [] (t, T, I, L, P) (fun r M => hf_G X Y_X12_termOf (d + 1) k n 62 [some (.ref 156), some (.int x1), some (.long x2), none, none, none, none] (r.toList ++ []) M Q)) ∧ (¬ (s0 = 142) → hf_G X Y_X12_codeAt d 0 0 0 (hf_en [.ref 156, .int (I 156 19)] 2) [] (t, T, I, L, P) (fun r M => hf_G X Y_X12_termOf (d + 1) k n 30 [some (.ref 156), some (.int x1), some (.long x2), none, none, none, none] (r.toList ++ []) M Q))) : hf_G X Y_X12_termOf (d + 1) k n 14 [some (.ref 156), some (.int x1), some (.long x2), none, none, none, none] [.int s0] (t, T, I, L, P) Q := by
  refine hf_bipush (v := 42) dX12_termOf_14 (by decide) ?_
  refine hf_callS (as := [.int 42]) ok_X12_sign dX12_termOf_16 hw1226 hw1227 rfl (Nat.le_of_ble_eq_true rfl) rfl (Nat.le_of_ble_eq_true rfl) (Nat.zero_le _) (Nat.zero_le _) ?_
  show hf_G X Y_X12_sign d _ _ 0 [some (.int 42)] [] (t, T, I, L, P) _
  refine hf_bipush (v := 100) dX12_sign_0 (by decide) ?_
  refine hf_iload_n dX12_sign_2 rfl rfl ?_
  refine hf_iadd dX12_sign_3 ?_
  rw [show ((100 + 42) : Int32) = 142 by decide]
  refine hf_ireturn dX12_sign_4 rfl rfl ?_
  show hf_G X Y_X12_termOf (d + 1) _ _ 19 [some (.ref 156), some (.int x1), some (.long x2), none, none, none, none] [.int 142, .int s0] (t, T, I, L, P) _
  refine hf_icmp_eq (tgt := 54) dX12_termOf_19 (by decide) (fun hc => ?_) (fun hc => ?_)
  · replace h := h.1 hc
    refine hf_aload_n dX12_termOf_54 rfl rfl ?_
    refine hf_aload_n dX12_termOf_55 rfl rfl ?_
    refine hf_geti (c := 12) (j := 19) dX12_termOf_56 (hs.2.1 156 _ rfl) (hf_lin hs 156 rfl) (by decide) (by decide) hw1055 (Or.inl rfl) ?_
    exact hf_callV (c := 12) (as := [.int (I 156 19)]) ok_X12_codeAt dX12_termOf_59 hw1214 hw1215 hw1613 (hs.2.1 156 _ rfl) (by decide) (hf_lin hs 156 rfl) rfl (Nat.le_of_ble_eq_true rfl) rfl (Nat.le_of_ble_eq_true rfl) (Nat.zero_le _) (Nat.zero_le _) h
  · replace h := h.2 hc
    refine hf_aload_n dX12_termOf_22 rfl rfl ?_
    refine hf_aload_n dX12_termOf_23 rfl rfl ?_
    refine hf_geti (c := 12) (j := 19) dX12_termOf_24 (hs.2.1 156 _ rfl) (hf_lin hs 156 rfl) (by decide) (by decide) hw1055 (Or.inl rfl) ?_
    exact hf_callV (c := 12) (as := [.int (I 156 19)]) ok_X12_codeAt dX12_termOf_27 hw1214 hw1215 hw1613 (hs.2.1 156 _ rfl) (by decide) (hf_lin hs 156 rfl) rfl (Nat.le_of_ble_eq_true rfl) rfl (Nat.le_of_ble_eq_true rfl) (Nat.zero_le _) (Nat.zero_le _) h

set_option maxHeartbeats 4000000 in
theorem w_X12_termOf_62 {X : hf_X} {d k n t : Nat} {T : hf_T} {I : hf_I} {L : hf_L} {P : hf_P} {Q : Option Value → hf_M → Prop} {x1 : Int32} {x2 : Int64} {s0 : Int32} (hs : hf_Lay t T P) (h : hf_G X Y_X12_partOf d 0 0 0 (hf_en [.ref 156, .int x1] 4) [] (t, T, (hf_up I 156 19 ((I 156 19) + 1)), L, P) (fun r M => hf_G X Y_X12_termOf (d + 1) k n 79 [some (.ref 156), some (.int x1), some (.long x2), none, some (.int s0), none, none] (r.toList ++ []) M Q)) : hf_G X Y_X12_termOf (d + 1) k n 62 [some (.ref 156), some (.int x1), some (.long x2), none, none, none, none] [.int s0] (t, T, I, L, P) Q := by
  refine hf_istore (l2 := [some (.ref 156), some (.int x1), some (.long x2), none, some (.int s0), none, none]) dX12_termOf_62 (by decide) rfl ?_
  refine hf_aload_n dX12_termOf_64 rfl rfl ?_
  refine hf_dup dX12_termOf_65 rfl ?_
  refine hf_geti (c := 12) (j := 19) dX12_termOf_66 (hs.2.1 156 _ rfl) (hf_lin hs 156 rfl) (by decide) (by decide) hw1055 (Or.inl rfl) ?_
  refine hf_iconst (v := 1) dX12_termOf_69 (by decide) ?_
  refine hf_iadd dX12_termOf_70 ?_
  refine hf_puti (c := 12) (j := 19) dX12_termOf_71 (hs.2.1 156 _ rfl) (hf_lin hs 156 rfl) (by decide) (by decide) hw1055 rfl rfl ?_
  refine hf_aload_n dX12_termOf_74 rfl rfl ?_
  refine hf_iload_n dX12_termOf_75 rfl rfl ?_
  exact hf_callV (c := 12) (as := [.int x1]) ok_X12_partOf dX12_termOf_76 hw1223 hw1224 hw1616 (hs.2.1 156 _ rfl) (by decide) (hf_lin hs 156 rfl) rfl (Nat.le_of_ble_eq_true rfl) rfl (Nat.le_of_ble_eq_true rfl) (Nat.zero_le _) (Nat.zero_le _) h

set_option maxHeartbeats 4000000 in
theorem w_X12_termOf_30 {X : hf_X} {d k n t : Nat} {T : hf_T} {I : hf_I} {L : hf_L} {P : hf_P} {Q : Option Value → hf_M → Prop} {x1 : Int32} {x2 : Int64} {s0 : Int32} (hs : hf_Lay t T P) (h : (s0 = 147 → hf_G X Y_X12_codeAt d 0 0 0 (hf_en [.ref 156, .int (I 156 19)] 2) [] (t, T, I, L, P) (fun r M => hf_G X Y_X12_termOf (d + 1) k n 62 [some (.ref 156), some (.int x1), some (.long x2), none, none, none, none] (r.toList ++ []) M Q)) ∧ (¬ (s0 = 147) → hf_G X Y_X12_codeAt d 0 0 0 (hf_en [.ref 156, .int (I 156 19)] 2) [] (t, T, I, L, P) (fun r M => hf_G X Y_X12_termOf (d + 1) k n 46 [some (.ref 156), some (.int x1), some (.long x2), none, none, none, none] (r.toList ++ []) M Q))) : hf_G X Y_X12_termOf (d + 1) k n 30 [some (.ref 156), some (.int x1), some (.long x2), none, none, none, none] [.int s0] (t, T, I, L, P) Q := by
  refine hf_bipush (v := 47) dX12_termOf_30 (by decide) ?_
  refine hf_callS (as := [.int 47]) ok_X12_sign dX12_termOf_32 hw1226 hw1227 rfl (Nat.le_of_ble_eq_true rfl) rfl (Nat.le_of_ble_eq_true rfl) (Nat.zero_le _) (Nat.zero_le _) ?_
  show hf_G X Y_X12_sign d _ _ 0 [some (.int 47)] [] (t, T, I, L, P) _
  refine hf_bipush (v := 100) dX12_sign_0 (by decide) ?_
  refine hf_iload_n dX12_sign_2 rfl rfl ?_
  refine hf_iadd dX12_sign_3 ?_
  rw [show ((100 + 47) : Int32) = 147 by decide]
  refine hf_ireturn dX12_sign_4 rfl rfl ?_
  show hf_G X Y_X12_termOf (d + 1) _ _ 35 [some (.ref 156), some (.int x1), some (.long x2), none, none, none, none] [.int 147, .int s0] (t, T, I, L, P) _
  refine hf_icmp_eq (tgt := 54) dX12_termOf_35 (by decide) (fun hc => ?_) (fun hc => ?_)
  · replace h := h.1 hc
    refine hf_aload_n dX12_termOf_54 rfl rfl ?_
    refine hf_aload_n dX12_termOf_55 rfl rfl ?_
    refine hf_geti (c := 12) (j := 19) dX12_termOf_56 (hs.2.1 156 _ rfl) (hf_lin hs 156 rfl) (by decide) (by decide) hw1055 (Or.inl rfl) ?_
    exact hf_callV (c := 12) (as := [.int (I 156 19)]) ok_X12_codeAt dX12_termOf_59 hw1214 hw1215 hw1613 (hs.2.1 156 _ rfl) (by decide) (hf_lin hs 156 rfl) rfl (Nat.le_of_ble_eq_true rfl) rfl (Nat.le_of_ble_eq_true rfl) (Nat.zero_le _) (Nat.zero_le _) h
  · replace h := h.2 hc
    refine hf_aload_n dX12_termOf_38 rfl rfl ?_
    refine hf_aload_n dX12_termOf_39 rfl rfl ?_
    refine hf_geti (c := 12) (j := 19) dX12_termOf_40 (hs.2.1 156 _ rfl) (hf_lin hs 156 rfl) (by decide) (by decide) hw1055 (Or.inl rfl) ?_
    exact hf_callV (c := 12) (as := [.int (I 156 19)]) ok_X12_codeAt dX12_termOf_43 hw1214 hw1215 hw1613 (hs.2.1 156 _ rfl) (by decide) (hf_lin hs 156 rfl) rfl (Nat.le_of_ble_eq_true rfl) rfl (Nat.le_of_ble_eq_true rfl) (Nat.zero_le _) (Nat.zero_le _) h

set_option maxHeartbeats 4000000 in
theorem w_X12_termOf_79 {X : hf_X} {d k n t : Nat} {T : hf_T} {I : hf_I} {L : hf_L} {P : hf_P} {Q : Option Value → hf_M → Prop} {x1 : Int32} {x2 : Int64} {x4 : Int32} {s0 : Int64} (hs : hf_Lay t T P) (h : (x4 = 142 → (¬ x4 = 142 → (¬ x4 = 147 → ¬ s0 = 0 ∧ (hf_G X Y_X12_bounded d 0 0 0 (hf_en [.ref 156, .long (x2 - x2 / s0 * s0), .int x1] 4) [] (t, T, I, L, P) (fun r M => hf_G X Y_X12_termOf (d + 1) k n 164 [some (.ref 156), some (.int x1), none, none, none, none, none] (r.toList ++ []) M Q))) ∧ (x4 = 147 → ¬ s0 = 0 ∧ (hf_G X Y_X12_bounded d 0 0 0 (hf_en [.ref 156, .long (x2 / s0), .int x1] 4) [] (t, T, I, L, P) (fun r M => hf_G X Y_X12_termOf (d + 1) k n 164 [some (.ref 156), some (.int x1), none, none, none, none, none] (r.toList ++ []) M Q)))) ∧ (x4 = 142 → hf_G X Y_X12_bounded d 0 0 0 (hf_en [.ref 156, .long (x2 * s0), .int x1] 4) [] (t, T, I, L, P) (fun r M => hf_G X Y_X12_termOf (d + 1) k n 164 [some (.ref 156), some (.int x1), none, none, none, none, none] (r.toList ++ []) M Q))) ∧ (¬ (x4 = 142) → (¬ (lg_cmp s0 0) = 0 → (¬ x4 = 142 → (¬ x4 = 147 → ¬ s0 = 0 ∧ (hf_G X Y_X12_bounded d 0 0 0 (hf_en [.ref 156, .long (x2 - x2 / s0 * s0), .int x1] 4) [] (t, T, I, L, P) (fun r M => hf_G X Y_X12_termOf (d + 1) k n 164 [some (.ref 156), some (.int x1), none, none, none, none, none] (r.toList ++ []) M Q))) ∧ (x4 = 147 → ¬ s0 = 0 ∧ (hf_G X Y_X12_bounded d 0 0 0 (hf_en [.ref 156, .long (x2 / s0), .int x1] 4) [] (t, T, I, L, P) (fun r M => hf_G X Y_X12_termOf (d + 1) k n 164 [some (.ref 156), some (.int x1), none, none, none, none, none] (r.toList ++ []) M Q)))) ∧ (x4 = 142 → hf_G X Y_X12_bounded d 0 0 0 (hf_en [.ref 156, .long (x2 * s0), .int x1] 4) [] (t, T, I, L, P) (fun r M => hf_G X Y_X12_termOf (d + 1) k n 164 [some (.ref 156), some (.int x1), none, none, none, none, none] (r.toList ++ []) M Q))) ∧ ((lg_cmp s0 0) = 0 → (¬ (I 156 21) = 0 → (¬ x4 = 142 → (¬ x4 = 147 → hf_G X Y_X12_bounded d 0 0 0 (hf_en [.ref 156, .long (x2 - x2 / 1 * 1), .int x1] 4) [] (t, T, (hf_up I 156 21 1), L, P) (fun r M => hf_G X Y_X12_termOf (d + 1) k n 164 [some (.ref 156), some (.int x1), none, none, none, none, none] (r.toList ++ []) M Q)) ∧ (x4 = 147 → hf_G X Y_X12_bounded d 0 0 0 (hf_en [.ref 156, .long (x2 / 1), .int x1] 4) [] (t, T, (hf_up I 156 21 1), L, P) (fun r M => hf_G X Y_X12_termOf (d + 1) k n 164 [some (.ref 156), some (.int x1), none, none, none, none, none] (r.toList ++ []) M Q))) ∧ (x4 = 142 → hf_G X Y_X12_bounded d 0 0 0 (hf_en [.ref 156, .long (x2 * 1), .int x1] 4) [] (t, T, (hf_up I 156 21 1), L, P) (fun r M => hf_G X Y_X12_termOf (d + 1) k n 164 [some (.ref 156), some (.int x1), none, none, none, none, none] (r.toList ++ []) M Q))) ∧ ((I 156 21) = 0 → (x1 = 0 → (¬ x4 = 142 → (¬ x4 = 147 → hf_G X Y_X12_bounded d 0 0 0 (hf_en [.ref 156, .long (x2 - x2 / 1 * 1), .int x1] 4) [] (t, T, (hf_up I 156 21 0), L, P) (fun r M => hf_G X Y_X12_termOf (d + 1) k n 164 [some (.ref 156), some (.int x1), none, none, none, none, none] (r.toList ++ []) M Q)) ∧ (x4 = 147 → hf_G X Y_X12_bounded d 0 0 0 (hf_en [.ref 156, .long (x2 / 1), .int x1] 4) [] (t, T, (hf_up I 156 21 0), L, P) (fun r M => hf_G X Y_X12_termOf (d + 1) k n 164 [some (.ref 156), some (.int x1), none, none, none, none, none] (r.toList ++ []) M Q))) ∧ (x4 = 142 → hf_G X Y_X12_bounded d 0 0 0 (hf_en [.ref 156, .long (x2 * 1), .int x1] 4) [] (t, T, (hf_up I 156 21 0), L, P) (fun r M => hf_G X Y_X12_termOf (d + 1) k n 164 [some (.ref 156), some (.int x1), none, none, none, none, none] (r.toList ++ []) M Q))) ∧ (¬ (x1 = 0) → (¬ x4 = 142 → (¬ x4 = 147 → hf_G X Y_X12_bounded d 0 0 0 (hf_en [.ref 156, .long (x2 - x2 / 1 * 1), .int x1] 4) [] (t, T, (hf_up I 156 21 1), L, P) (fun r M => hf_G X Y_X12_termOf (d + 1) k n 164 [some (.ref 156), some (.int x1), none, none, none, none, none] (r.toList ++ []) M Q)) ∧ (x4 = 147 → hf_G X Y_X12_bounded d 0 0 0 (hf_en [.ref 156, .long (x2 / 1), .int x1] 4) [] (t, T, (hf_up I 156 21 1), L, P) (fun r M => hf_G X Y_X12_termOf (d + 1) k n 164 [some (.ref 156), some (.int x1), none, none, none, none, none] (r.toList ++ []) M Q))) ∧ (x4 = 142 → hf_G X Y_X12_bounded d 0 0 0 (hf_en [.ref 156, .long (x2 * 1), .int x1] 4) [] (t, T, (hf_up I 156 21 1), L, P) (fun r M => hf_G X Y_X12_termOf (d + 1) k n 164 [some (.ref 156), some (.int x1), none, none, none, none, none] (r.toList ++ []) M Q))))))) : hf_G X Y_X12_termOf (d + 1) k n 79 [some (.ref 156), some (.int x1), some (.long x2), none, some (.int x4), none, none] [.long s0] (t, T, I, L, P) Q := by
  refine hf_lstore (l2 := [some (.ref 156), some (.int x1), some (.long x2), none, some (.int x4), some (.long s0), none]) dX12_termOf_79 (by decide) rfl ?_
  refine hf_iload dX12_termOf_81 rfl ?_
  refine hf_bipush (v := 42) dX12_termOf_83 (by decide) ?_
  refine hf_callS (as := [.int 42]) ok_X12_sign dX12_termOf_85 hw1226 hw1227 rfl (Nat.le_of_ble_eq_true rfl) rfl (Nat.le_of_ble_eq_true rfl) (Nat.zero_le _) (Nat.zero_le _) ?_
  show hf_G X Y_X12_sign d _ _ 0 [some (.int 42)] [] (t, T, I, L, P) _
  refine hf_bipush (v := 100) dX12_sign_0 (by decide) ?_
  refine hf_iload_n dX12_sign_2 rfl rfl ?_
  refine hf_iadd dX12_sign_3 ?_
  rw [show ((100 + 42) : Int32) = 142 by decide]
  refine hf_ireturn dX12_sign_4 rfl rfl ?_
  show hf_G X Y_X12_termOf (d + 1) _ _ 88 [some (.ref 156), some (.int x1), some (.long x2), none, some (.int x4), some (.long s0), none] [.int 142, .int x4] (t, T, I, L, P) _
  refine hf_icmp_eq (tgt := 121) dX12_termOf_88 (by decide) (fun hc => ?_) (fun hc => ?_)
  · replace h := h.1 hc
    refine hf_aload_n dX12_termOf_121 rfl rfl ?_
    refine hf_iload dX12_termOf_122 rfl ?_
    refine hf_bipush (v := 42) dX12_termOf_124 (by decide) ?_
    refine hf_callS (as := [.int 42]) ok_X12_sign dX12_termOf_126 hw1226 hw1227 rfl (Nat.le_of_ble_eq_true rfl) rfl (Nat.le_of_ble_eq_true rfl) (Nat.zero_le _) (Nat.zero_le _) ?_
    show hf_G X Y_X12_sign d _ _ 0 [some (.int 42)] [] (t, T, I, L, P) _
    refine hf_bipush (v := 100) dX12_sign_0 (by decide) ?_
    refine hf_iload_n dX12_sign_2 rfl rfl ?_
    refine hf_iadd dX12_sign_3 ?_
    rw [show ((100 + 42) : Int32) = 142 by decide]
    refine hf_ireturn dX12_sign_4 rfl rfl ?_
    show hf_G X Y_X12_termOf (d + 1) _ _ 129 [some (.ref 156), some (.int x1), some (.long x2), none, some (.int x4), some (.long s0), none] [.int 142, .int x4, .ref 156] (t, T, I, L, P) _
    refine hf_icmp_ne (tgt := 139) dX12_termOf_129 (by decide) (fun hc => ?_) (fun hc => ?_)
    · replace h := h.1 hc
      refine hf_iload dX12_termOf_139 rfl ?_
      refine hf_bipush (v := 47) dX12_termOf_141 (by decide) ?_
      refine hf_callS (as := [.int 47]) ok_X12_sign dX12_termOf_143 hw1226 hw1227 rfl (Nat.le_of_ble_eq_true rfl) rfl (Nat.le_of_ble_eq_true rfl) (Nat.zero_le _) (Nat.zero_le _) ?_
      show hf_G X Y_X12_sign d _ _ 0 [some (.int 47)] [] (t, T, I, L, P) _
      refine hf_bipush (v := 100) dX12_sign_0 (by decide) ?_
      refine hf_iload_n dX12_sign_2 rfl rfl ?_
      refine hf_iadd dX12_sign_3 ?_
      rw [show ((100 + 47) : Int32) = 147 by decide]
      refine hf_ireturn dX12_sign_4 rfl rfl ?_
      show hf_G X Y_X12_termOf (d + 1) _ _ 146 [some (.ref 156), some (.int x1), some (.long x2), none, some (.int x4), some (.long s0), none] [.int 147, .int x4, .ref 156] (t, T, I, L, P) _
      refine hf_icmp_ne (tgt := 156) dX12_termOf_146 (by decide) (fun hc => ?_) (fun hc => ?_)
      · replace h := h.1 hc
        refine hf_lload_n dX12_termOf_156 rfl rfl ?_
        refine hf_lload dX12_termOf_157 rfl ?_
        refine hf_lrem dX12_termOf_159 h.1 ?_
        replace h := h.2
        refine hf_iload_n dX12_termOf_160 rfl rfl ?_
        exact hf_callV (c := 12) (as := [.long (x2 - x2 / s0 * s0), .int x1]) ok_X12_bounded dX12_termOf_161 hw1238 hw1239 hw1620 (hs.2.1 156 _ rfl) (by decide) (hf_lin hs 156 rfl) rfl (Nat.le_of_ble_eq_true rfl) rfl (Nat.le_of_ble_eq_true rfl) (Nat.zero_le _) (Nat.zero_le _) (hf_mono (fun r M q => hf_drop (l' := [some (.ref 156), some (.int x1), none, none, none, none, none]) (by simp [hf_sub]) q) h)
      · replace h := h.2 hc
        refine hf_lload_n dX12_termOf_149 rfl rfl ?_
        refine hf_lload dX12_termOf_150 rfl ?_
        refine hf_ldiv dX12_termOf_152 h.1 ?_
        replace h := h.2
        refine hf_goto (tgt := 160) dX12_termOf_153 (by decide) ?_
        refine hf_iload_n dX12_termOf_160 rfl rfl ?_
        exact hf_callV (c := 12) (as := [.long (x2 / s0), .int x1]) ok_X12_bounded dX12_termOf_161 hw1238 hw1239 hw1620 (hs.2.1 156 _ rfl) (by decide) (hf_lin hs 156 rfl) rfl (Nat.le_of_ble_eq_true rfl) rfl (Nat.le_of_ble_eq_true rfl) (Nat.zero_le _) (Nat.zero_le _) (hf_mono (fun r M q => hf_drop (l' := [some (.ref 156), some (.int x1), none, none, none, none, none]) (by simp [hf_sub]) q) h)
    · replace h := h.2 hc
      refine hf_lload_n dX12_termOf_132 rfl rfl ?_
      refine hf_lload dX12_termOf_133 rfl ?_
      refine hf_lmul dX12_termOf_135 ?_
      refine hf_goto (tgt := 160) dX12_termOf_136 (by decide) ?_
      refine hf_iload_n dX12_termOf_160 rfl rfl ?_
      exact hf_callV (c := 12) (as := [.long (x2 * s0), .int x1]) ok_X12_bounded dX12_termOf_161 hw1238 hw1239 hw1620 (hs.2.1 156 _ rfl) (by decide) (hf_lin hs 156 rfl) rfl (Nat.le_of_ble_eq_true rfl) rfl (Nat.le_of_ble_eq_true rfl) (Nat.zero_le _) (Nat.zero_le _) (hf_mono (fun r M q => hf_drop (l' := [some (.ref 156), some (.int x1), none, none, none, none, none]) (by simp [hf_sub]) q) h)
  · replace h := h.2 hc
    refine hf_lload dX12_termOf_91 rfl ?_
    refine hf_lconst (v := 0) dX12_termOf_93 (by decide) ?_
    refine hf_lcmp dX12_termOf_94 ?_
    refine hf_if_ne (tgt := 121) dX12_termOf_95 (by decide) (fun hc => ?_) (fun hc => ?_)
    · replace h := h.1 hc
      refine hf_aload_n dX12_termOf_121 rfl rfl ?_
      refine hf_iload dX12_termOf_122 rfl ?_
      refine hf_bipush (v := 42) dX12_termOf_124 (by decide) ?_
      refine hf_callS (as := [.int 42]) ok_X12_sign dX12_termOf_126 hw1226 hw1227 rfl (Nat.le_of_ble_eq_true rfl) rfl (Nat.le_of_ble_eq_true rfl) (Nat.zero_le _) (Nat.zero_le _) ?_
      show hf_G X Y_X12_sign d _ _ 0 [some (.int 42)] [] (t, T, I, L, P) _
      refine hf_bipush (v := 100) dX12_sign_0 (by decide) ?_
      refine hf_iload_n dX12_sign_2 rfl rfl ?_
      refine hf_iadd dX12_sign_3 ?_
      rw [show ((100 + 42) : Int32) = 142 by decide]
      refine hf_ireturn dX12_sign_4 rfl rfl ?_
      show hf_G X Y_X12_termOf (d + 1) _ _ 129 [some (.ref 156), some (.int x1), some (.long x2), none, some (.int x4), some (.long s0), none] [.int 142, .int x4, .ref 156] (t, T, I, L, P) _
      refine hf_icmp_ne (tgt := 139) dX12_termOf_129 (by decide) (fun hc => ?_) (fun hc => ?_)
      · replace h := h.1 hc
        refine hf_iload dX12_termOf_139 rfl ?_
        refine hf_bipush (v := 47) dX12_termOf_141 (by decide) ?_
        refine hf_callS (as := [.int 47]) ok_X12_sign dX12_termOf_143 hw1226 hw1227 rfl (Nat.le_of_ble_eq_true rfl) rfl (Nat.le_of_ble_eq_true rfl) (Nat.zero_le _) (Nat.zero_le _) ?_
        show hf_G X Y_X12_sign d _ _ 0 [some (.int 47)] [] (t, T, I, L, P) _
        refine hf_bipush (v := 100) dX12_sign_0 (by decide) ?_
        refine hf_iload_n dX12_sign_2 rfl rfl ?_
        refine hf_iadd dX12_sign_3 ?_
        rw [show ((100 + 47) : Int32) = 147 by decide]
        refine hf_ireturn dX12_sign_4 rfl rfl ?_
        show hf_G X Y_X12_termOf (d + 1) _ _ 146 [some (.ref 156), some (.int x1), some (.long x2), none, some (.int x4), some (.long s0), none] [.int 147, .int x4, .ref 156] (t, T, I, L, P) _
        refine hf_icmp_ne (tgt := 156) dX12_termOf_146 (by decide) (fun hc => ?_) (fun hc => ?_)
        · replace h := h.1 hc
          refine hf_lload_n dX12_termOf_156 rfl rfl ?_
          refine hf_lload dX12_termOf_157 rfl ?_
          refine hf_lrem dX12_termOf_159 h.1 ?_
          replace h := h.2
          refine hf_iload_n dX12_termOf_160 rfl rfl ?_
          exact hf_callV (c := 12) (as := [.long (x2 - x2 / s0 * s0), .int x1]) ok_X12_bounded dX12_termOf_161 hw1238 hw1239 hw1620 (hs.2.1 156 _ rfl) (by decide) (hf_lin hs 156 rfl) rfl (Nat.le_of_ble_eq_true rfl) rfl (Nat.le_of_ble_eq_true rfl) (Nat.zero_le _) (Nat.zero_le _) (hf_mono (fun r M q => hf_drop (l' := [some (.ref 156), some (.int x1), none, none, none, none, none]) (by simp [hf_sub]) q) h)
        · replace h := h.2 hc
          refine hf_lload_n dX12_termOf_149 rfl rfl ?_
          refine hf_lload dX12_termOf_150 rfl ?_
          refine hf_ldiv dX12_termOf_152 h.1 ?_
          replace h := h.2
          refine hf_goto (tgt := 160) dX12_termOf_153 (by decide) ?_
          refine hf_iload_n dX12_termOf_160 rfl rfl ?_
          exact hf_callV (c := 12) (as := [.long (x2 / s0), .int x1]) ok_X12_bounded dX12_termOf_161 hw1238 hw1239 hw1620 (hs.2.1 156 _ rfl) (by decide) (hf_lin hs 156 rfl) rfl (Nat.le_of_ble_eq_true rfl) rfl (Nat.le_of_ble_eq_true rfl) (Nat.zero_le _) (Nat.zero_le _) (hf_mono (fun r M q => hf_drop (l' := [some (.ref 156), some (.int x1), none, none, none, none, none]) (by simp [hf_sub]) q) h)
      · replace h := h.2 hc
        refine hf_lload_n dX12_termOf_132 rfl rfl ?_
        refine hf_lload dX12_termOf_133 rfl ?_
        refine hf_lmul dX12_termOf_135 ?_
        refine hf_goto (tgt := 160) dX12_termOf_136 (by decide) ?_
        refine hf_iload_n dX12_termOf_160 rfl rfl ?_
        exact hf_callV (c := 12) (as := [.long (x2 * s0), .int x1]) ok_X12_bounded dX12_termOf_161 hw1238 hw1239 hw1620 (hs.2.1 156 _ rfl) (by decide) (hf_lin hs 156 rfl) rfl (Nat.le_of_ble_eq_true rfl) rfl (Nat.le_of_ble_eq_true rfl) (Nat.zero_le _) (Nat.zero_le _) (hf_mono (fun r M q => hf_drop (l' := [some (.ref 156), some (.int x1), none, none, none, none, none]) (by simp [hf_sub]) q) h)
    · replace h := h.2 hc
      refine hf_aload_n dX12_termOf_98 rfl rfl ?_
      refine hf_aload_n dX12_termOf_99 rfl rfl ?_
      refine hf_geti (c := 12) (j := 21) dX12_termOf_100 (hs.2.1 156 _ rfl) (hf_lin hs 156 rfl) (by decide) (by decide) hw1057 (Or.inr rfl) ?_
      refine hf_if_ne (tgt := 110) dX12_termOf_103 (by decide) (fun hc => ?_) (fun hc => ?_)
      · replace h := h.1 hc
        refine hf_iconst (v := 1) dX12_termOf_110 (by decide) ?_
        refine hf_goto (tgt := 115) dX12_termOf_111 (by decide) ?_
        refine hf_putz (c := 12) (j := 21) dX12_termOf_115 (hs.2.1 156 _ rfl) (hf_lin hs 156 rfl) (by decide) (by decide) hw1057 rfl rfl (by decide) ?_
        refine hf_lconst (v := 1) dX12_termOf_118 (by decide) ?_
        refine hf_lstore (l2 := [some (.ref 156), some (.int x1), some (.long x2), none, some (.int x4), some (.long 1), none]) dX12_termOf_119 (by decide) rfl ?_
        refine hf_aload_n dX12_termOf_121 rfl rfl ?_
        refine hf_iload dX12_termOf_122 rfl ?_
        refine hf_bipush (v := 42) dX12_termOf_124 (by decide) ?_
        refine hf_callS (as := [.int 42]) ok_X12_sign dX12_termOf_126 hw1226 hw1227 rfl (Nat.le_of_ble_eq_true rfl) rfl (Nat.le_of_ble_eq_true rfl) (Nat.zero_le _) (Nat.zero_le _) ?_
        show hf_G X Y_X12_sign d _ _ 0 [some (.int 42)] [] (t, T, (hf_up I 156 21 1), L, P) _
        refine hf_bipush (v := 100) dX12_sign_0 (by decide) ?_
        refine hf_iload_n dX12_sign_2 rfl rfl ?_
        refine hf_iadd dX12_sign_3 ?_
        rw [show ((100 + 42) : Int32) = 142 by decide]
        refine hf_ireturn dX12_sign_4 rfl rfl ?_
        show hf_G X Y_X12_termOf (d + 1) _ _ 129 [some (.ref 156), some (.int x1), some (.long x2), none, some (.int x4), some (.long 1), none] [.int 142, .int x4, .ref 156] (t, T, (hf_up I 156 21 1), L, P) _
        refine hf_icmp_ne (tgt := 139) dX12_termOf_129 (by decide) (fun hc => ?_) (fun hc => ?_)
        · replace h := h.1 hc
          refine hf_iload dX12_termOf_139 rfl ?_
          refine hf_bipush (v := 47) dX12_termOf_141 (by decide) ?_
          refine hf_callS (as := [.int 47]) ok_X12_sign dX12_termOf_143 hw1226 hw1227 rfl (Nat.le_of_ble_eq_true rfl) rfl (Nat.le_of_ble_eq_true rfl) (Nat.zero_le _) (Nat.zero_le _) ?_
          show hf_G X Y_X12_sign d _ _ 0 [some (.int 47)] [] (t, T, (hf_up I 156 21 1), L, P) _
          refine hf_bipush (v := 100) dX12_sign_0 (by decide) ?_
          refine hf_iload_n dX12_sign_2 rfl rfl ?_
          refine hf_iadd dX12_sign_3 ?_
          rw [show ((100 + 47) : Int32) = 147 by decide]
          refine hf_ireturn dX12_sign_4 rfl rfl ?_
          show hf_G X Y_X12_termOf (d + 1) _ _ 146 [some (.ref 156), some (.int x1), some (.long x2), none, some (.int x4), some (.long 1), none] [.int 147, .int x4, .ref 156] (t, T, (hf_up I 156 21 1), L, P) _
          refine hf_icmp_ne (tgt := 156) dX12_termOf_146 (by decide) (fun hc => ?_) (fun hc => ?_)
          · replace h := h.1 hc
            refine hf_lload_n dX12_termOf_156 rfl rfl ?_
            refine hf_lload dX12_termOf_157 rfl ?_
            refine hf_lrem dX12_termOf_159 (by decide) ?_
            refine hf_iload_n dX12_termOf_160 rfl rfl ?_
            exact hf_callV (c := 12) (as := [.long (x2 - x2 / 1 * 1), .int x1]) ok_X12_bounded dX12_termOf_161 hw1238 hw1239 hw1620 (hs.2.1 156 _ rfl) (by decide) (hf_lin hs 156 rfl) rfl (Nat.le_of_ble_eq_true rfl) rfl (Nat.le_of_ble_eq_true rfl) (Nat.zero_le _) (Nat.zero_le _) (hf_mono (fun r M q => hf_drop (l' := [some (.ref 156), some (.int x1), none, none, none, none, none]) (by simp [hf_sub]) q) h)
          · replace h := h.2 hc
            refine hf_lload_n dX12_termOf_149 rfl rfl ?_
            refine hf_lload dX12_termOf_150 rfl ?_
            refine hf_ldiv dX12_termOf_152 (by decide) ?_
            refine hf_goto (tgt := 160) dX12_termOf_153 (by decide) ?_
            refine hf_iload_n dX12_termOf_160 rfl rfl ?_
            exact hf_callV (c := 12) (as := [.long (x2 / 1), .int x1]) ok_X12_bounded dX12_termOf_161 hw1238 hw1239 hw1620 (hs.2.1 156 _ rfl) (by decide) (hf_lin hs 156 rfl) rfl (Nat.le_of_ble_eq_true rfl) rfl (Nat.le_of_ble_eq_true rfl) (Nat.zero_le _) (Nat.zero_le _) (hf_mono (fun r M q => hf_drop (l' := [some (.ref 156), some (.int x1), none, none, none, none, none]) (by simp [hf_sub]) q) h)
        · replace h := h.2 hc
          refine hf_lload_n dX12_termOf_132 rfl rfl ?_
          refine hf_lload dX12_termOf_133 rfl ?_
          refine hf_lmul dX12_termOf_135 ?_
          refine hf_goto (tgt := 160) dX12_termOf_136 (by decide) ?_
          refine hf_iload_n dX12_termOf_160 rfl rfl ?_
          exact hf_callV (c := 12) (as := [.long (x2 * 1), .int x1]) ok_X12_bounded dX12_termOf_161 hw1238 hw1239 hw1620 (hs.2.1 156 _ rfl) (by decide) (hf_lin hs 156 rfl) rfl (Nat.le_of_ble_eq_true rfl) rfl (Nat.le_of_ble_eq_true rfl) (Nat.zero_le _) (Nat.zero_le _) (hf_mono (fun r M q => hf_drop (l' := [some (.ref 156), some (.int x1), none, none, none, none, none]) (by simp [hf_sub]) q) h)
      · replace h := h.2 hc
        refine hf_iload_n dX12_termOf_106 rfl rfl ?_
        refine hf_if_eq (tgt := 114) dX12_termOf_107 (by decide) (fun hc => ?_) (fun hc => ?_)
        · replace h := h.1 hc
          refine hf_iconst (v := 0) dX12_termOf_114 (by decide) ?_
          refine hf_putz (c := 12) (j := 21) dX12_termOf_115 (hs.2.1 156 _ rfl) (hf_lin hs 156 rfl) (by decide) (by decide) hw1057 rfl rfl (by decide) ?_
          refine hf_lconst (v := 1) dX12_termOf_118 (by decide) ?_
          refine hf_lstore (l2 := [some (.ref 156), some (.int x1), some (.long x2), none, some (.int x4), some (.long 1), none]) dX12_termOf_119 (by decide) rfl ?_
          refine hf_aload_n dX12_termOf_121 rfl rfl ?_
          refine hf_iload dX12_termOf_122 rfl ?_
          refine hf_bipush (v := 42) dX12_termOf_124 (by decide) ?_
          refine hf_callS (as := [.int 42]) ok_X12_sign dX12_termOf_126 hw1226 hw1227 rfl (Nat.le_of_ble_eq_true rfl) rfl (Nat.le_of_ble_eq_true rfl) (Nat.zero_le _) (Nat.zero_le _) ?_
          show hf_G X Y_X12_sign d _ _ 0 [some (.int 42)] [] (t, T, (hf_up I 156 21 0), L, P) _
          refine hf_bipush (v := 100) dX12_sign_0 (by decide) ?_
          refine hf_iload_n dX12_sign_2 rfl rfl ?_
          refine hf_iadd dX12_sign_3 ?_
          rw [show ((100 + 42) : Int32) = 142 by decide]
          refine hf_ireturn dX12_sign_4 rfl rfl ?_
          show hf_G X Y_X12_termOf (d + 1) _ _ 129 [some (.ref 156), some (.int x1), some (.long x2), none, some (.int x4), some (.long 1), none] [.int 142, .int x4, .ref 156] (t, T, (hf_up I 156 21 0), L, P) _
          refine hf_icmp_ne (tgt := 139) dX12_termOf_129 (by decide) (fun hc => ?_) (fun hc => ?_)
          · replace h := h.1 hc
            refine hf_iload dX12_termOf_139 rfl ?_
            refine hf_bipush (v := 47) dX12_termOf_141 (by decide) ?_
            refine hf_callS (as := [.int 47]) ok_X12_sign dX12_termOf_143 hw1226 hw1227 rfl (Nat.le_of_ble_eq_true rfl) rfl (Nat.le_of_ble_eq_true rfl) (Nat.zero_le _) (Nat.zero_le _) ?_
            show hf_G X Y_X12_sign d _ _ 0 [some (.int 47)] [] (t, T, (hf_up I 156 21 0), L, P) _
            refine hf_bipush (v := 100) dX12_sign_0 (by decide) ?_
            refine hf_iload_n dX12_sign_2 rfl rfl ?_
            refine hf_iadd dX12_sign_3 ?_
            rw [show ((100 + 47) : Int32) = 147 by decide]
            refine hf_ireturn dX12_sign_4 rfl rfl ?_
            show hf_G X Y_X12_termOf (d + 1) _ _ 146 [some (.ref 156), some (.int x1), some (.long x2), none, some (.int x4), some (.long 1), none] [.int 147, .int x4, .ref 156] (t, T, (hf_up I 156 21 0), L, P) _
            refine hf_icmp_ne (tgt := 156) dX12_termOf_146 (by decide) (fun hc => ?_) (fun hc => ?_)
            · replace h := h.1 hc
              refine hf_lload_n dX12_termOf_156 rfl rfl ?_
              refine hf_lload dX12_termOf_157 rfl ?_
              refine hf_lrem dX12_termOf_159 (by decide) ?_
              refine hf_iload_n dX12_termOf_160 rfl rfl ?_
              exact hf_callV (c := 12) (as := [.long (x2 - x2 / 1 * 1), .int x1]) ok_X12_bounded dX12_termOf_161 hw1238 hw1239 hw1620 (hs.2.1 156 _ rfl) (by decide) (hf_lin hs 156 rfl) rfl (Nat.le_of_ble_eq_true rfl) rfl (Nat.le_of_ble_eq_true rfl) (Nat.zero_le _) (Nat.zero_le _) (hf_mono (fun r M q => hf_drop (l' := [some (.ref 156), some (.int x1), none, none, none, none, none]) (by simp [hf_sub]) q) h)
            · replace h := h.2 hc
              refine hf_lload_n dX12_termOf_149 rfl rfl ?_
              refine hf_lload dX12_termOf_150 rfl ?_
              refine hf_ldiv dX12_termOf_152 (by decide) ?_
              refine hf_goto (tgt := 160) dX12_termOf_153 (by decide) ?_
              refine hf_iload_n dX12_termOf_160 rfl rfl ?_
              exact hf_callV (c := 12) (as := [.long (x2 / 1), .int x1]) ok_X12_bounded dX12_termOf_161 hw1238 hw1239 hw1620 (hs.2.1 156 _ rfl) (by decide) (hf_lin hs 156 rfl) rfl (Nat.le_of_ble_eq_true rfl) rfl (Nat.le_of_ble_eq_true rfl) (Nat.zero_le _) (Nat.zero_le _) (hf_mono (fun r M q => hf_drop (l' := [some (.ref 156), some (.int x1), none, none, none, none, none]) (by simp [hf_sub]) q) h)
          · replace h := h.2 hc
            refine hf_lload_n dX12_termOf_132 rfl rfl ?_
            refine hf_lload dX12_termOf_133 rfl ?_
            refine hf_lmul dX12_termOf_135 ?_
            refine hf_goto (tgt := 160) dX12_termOf_136 (by decide) ?_
            refine hf_iload_n dX12_termOf_160 rfl rfl ?_
            exact hf_callV (c := 12) (as := [.long (x2 * 1), .int x1]) ok_X12_bounded dX12_termOf_161 hw1238 hw1239 hw1620 (hs.2.1 156 _ rfl) (by decide) (hf_lin hs 156 rfl) rfl (Nat.le_of_ble_eq_true rfl) rfl (Nat.le_of_ble_eq_true rfl) (Nat.zero_le _) (Nat.zero_le _) (hf_mono (fun r M q => hf_drop (l' := [some (.ref 156), some (.int x1), none, none, none, none, none]) (by simp [hf_sub]) q) h)
        · replace h := h.2 hc
          refine hf_iconst (v := 1) dX12_termOf_110 (by decide) ?_
          refine hf_goto (tgt := 115) dX12_termOf_111 (by decide) ?_
          refine hf_putz (c := 12) (j := 21) dX12_termOf_115 (hs.2.1 156 _ rfl) (hf_lin hs 156 rfl) (by decide) (by decide) hw1057 rfl rfl (by decide) ?_
          refine hf_lconst (v := 1) dX12_termOf_118 (by decide) ?_
          refine hf_lstore (l2 := [some (.ref 156), some (.int x1), some (.long x2), none, some (.int x4), some (.long 1), none]) dX12_termOf_119 (by decide) rfl ?_
          refine hf_aload_n dX12_termOf_121 rfl rfl ?_
          refine hf_iload dX12_termOf_122 rfl ?_
          refine hf_bipush (v := 42) dX12_termOf_124 (by decide) ?_
          refine hf_callS (as := [.int 42]) ok_X12_sign dX12_termOf_126 hw1226 hw1227 rfl (Nat.le_of_ble_eq_true rfl) rfl (Nat.le_of_ble_eq_true rfl) (Nat.zero_le _) (Nat.zero_le _) ?_
          show hf_G X Y_X12_sign d _ _ 0 [some (.int 42)] [] (t, T, (hf_up I 156 21 1), L, P) _
          refine hf_bipush (v := 100) dX12_sign_0 (by decide) ?_
          refine hf_iload_n dX12_sign_2 rfl rfl ?_
          refine hf_iadd dX12_sign_3 ?_
          rw [show ((100 + 42) : Int32) = 142 by decide]
          refine hf_ireturn dX12_sign_4 rfl rfl ?_
          show hf_G X Y_X12_termOf (d + 1) _ _ 129 [some (.ref 156), some (.int x1), some (.long x2), none, some (.int x4), some (.long 1), none] [.int 142, .int x4, .ref 156] (t, T, (hf_up I 156 21 1), L, P) _
          refine hf_icmp_ne (tgt := 139) dX12_termOf_129 (by decide) (fun hc => ?_) (fun hc => ?_)
          · replace h := h.1 hc
            refine hf_iload dX12_termOf_139 rfl ?_
            refine hf_bipush (v := 47) dX12_termOf_141 (by decide) ?_
            refine hf_callS (as := [.int 47]) ok_X12_sign dX12_termOf_143 hw1226 hw1227 rfl (Nat.le_of_ble_eq_true rfl) rfl (Nat.le_of_ble_eq_true rfl) (Nat.zero_le _) (Nat.zero_le _) ?_
            show hf_G X Y_X12_sign d _ _ 0 [some (.int 47)] [] (t, T, (hf_up I 156 21 1), L, P) _
            refine hf_bipush (v := 100) dX12_sign_0 (by decide) ?_
            refine hf_iload_n dX12_sign_2 rfl rfl ?_
            refine hf_iadd dX12_sign_3 ?_
            rw [show ((100 + 47) : Int32) = 147 by decide]
            refine hf_ireturn dX12_sign_4 rfl rfl ?_
            show hf_G X Y_X12_termOf (d + 1) _ _ 146 [some (.ref 156), some (.int x1), some (.long x2), none, some (.int x4), some (.long 1), none] [.int 147, .int x4, .ref 156] (t, T, (hf_up I 156 21 1), L, P) _
            refine hf_icmp_ne (tgt := 156) dX12_termOf_146 (by decide) (fun hc => ?_) (fun hc => ?_)
            · replace h := h.1 hc
              refine hf_lload_n dX12_termOf_156 rfl rfl ?_
              refine hf_lload dX12_termOf_157 rfl ?_
              refine hf_lrem dX12_termOf_159 (by decide) ?_
              refine hf_iload_n dX12_termOf_160 rfl rfl ?_
              exact hf_callV (c := 12) (as := [.long (x2 - x2 / 1 * 1), .int x1]) ok_X12_bounded dX12_termOf_161 hw1238 hw1239 hw1620 (hs.2.1 156 _ rfl) (by decide) (hf_lin hs 156 rfl) rfl (Nat.le_of_ble_eq_true rfl) rfl (Nat.le_of_ble_eq_true rfl) (Nat.zero_le _) (Nat.zero_le _) (hf_mono (fun r M q => hf_drop (l' := [some (.ref 156), some (.int x1), none, none, none, none, none]) (by simp [hf_sub]) q) h)
            · replace h := h.2 hc
              refine hf_lload_n dX12_termOf_149 rfl rfl ?_
              refine hf_lload dX12_termOf_150 rfl ?_
              refine hf_ldiv dX12_termOf_152 (by decide) ?_
              refine hf_goto (tgt := 160) dX12_termOf_153 (by decide) ?_
              refine hf_iload_n dX12_termOf_160 rfl rfl ?_
              exact hf_callV (c := 12) (as := [.long (x2 / 1), .int x1]) ok_X12_bounded dX12_termOf_161 hw1238 hw1239 hw1620 (hs.2.1 156 _ rfl) (by decide) (hf_lin hs 156 rfl) rfl (Nat.le_of_ble_eq_true rfl) rfl (Nat.le_of_ble_eq_true rfl) (Nat.zero_le _) (Nat.zero_le _) (hf_mono (fun r M q => hf_drop (l' := [some (.ref 156), some (.int x1), none, none, none, none, none]) (by simp [hf_sub]) q) h)
          · replace h := h.2 hc
            refine hf_lload_n dX12_termOf_132 rfl rfl ?_
            refine hf_lload dX12_termOf_133 rfl ?_
            refine hf_lmul dX12_termOf_135 ?_
            refine hf_goto (tgt := 160) dX12_termOf_136 (by decide) ?_
            refine hf_iload_n dX12_termOf_160 rfl rfl ?_
            exact hf_callV (c := 12) (as := [.long (x2 * 1), .int x1]) ok_X12_bounded dX12_termOf_161 hw1238 hw1239 hw1620 (hs.2.1 156 _ rfl) (by decide) (hf_lin hs 156 rfl) rfl (Nat.le_of_ble_eq_true rfl) rfl (Nat.le_of_ble_eq_true rfl) (Nat.zero_le _) (Nat.zero_le _) (hf_mono (fun r M q => hf_drop (l' := [some (.ref 156), some (.int x1), none, none, none, none, none]) (by simp [hf_sub]) q) h)

set_option maxHeartbeats 4000000 in
theorem w_X12_termOf_46 {X : hf_X} {d k n t : Nat} {T : hf_T} {I : hf_I} {L : hf_L} {P : hf_P} {Q : Option Value → hf_M → Prop} {x1 : Int32} {x2 : Int64} {s0 : Int32} (hs : hf_Lay t T P) (h : (¬ s0 = 137 → Q (some (.long x2)) (t, T, I, L, P)) ∧ (s0 = 137 → hf_G X Y_X12_codeAt d 0 0 0 (hf_en [.ref 156, .int (I 156 19)] 2) [] (t, T, I, L, P) (fun r M => hf_G X Y_X12_termOf (d + 1) k n 62 [some (.ref 156), some (.int x1), some (.long x2), none, none, none, none] (r.toList ++ []) M Q))) : hf_G X Y_X12_termOf (d + 1) k n 46 [some (.ref 156), some (.int x1), some (.long x2), none, none, none, none] [.int s0] (t, T, I, L, P) Q := by
  refine hf_bipush (v := 37) dX12_termOf_46 (by decide) ?_
  refine hf_callS (as := [.int 37]) ok_X12_sign dX12_termOf_48 hw1226 hw1227 rfl (Nat.le_of_ble_eq_true rfl) rfl (Nat.le_of_ble_eq_true rfl) (Nat.zero_le _) (Nat.zero_le _) ?_
  show hf_G X Y_X12_sign d _ _ 0 [some (.int 37)] [] (t, T, I, L, P) _
  refine hf_bipush (v := 100) dX12_sign_0 (by decide) ?_
  refine hf_iload_n dX12_sign_2 rfl rfl ?_
  refine hf_iadd dX12_sign_3 ?_
  rw [show ((100 + 37) : Int32) = 137 by decide]
  refine hf_ireturn dX12_sign_4 rfl rfl ?_
  show hf_G X Y_X12_termOf (d + 1) _ _ 51 [some (.ref 156), some (.int x1), some (.long x2), none, none, none, none] [.int 137, .int s0] (t, T, I, L, P) _
  refine hf_icmp_ne (tgt := 168) dX12_termOf_51 (by decide) (fun hc => ?_) (fun hc => ?_)
  · replace h := h.1 hc
    refine hf_lload_n dX12_termOf_168 rfl rfl ?_
    refine hf_lreturn dX12_termOf_169 rfl ?_
    exact h
  · replace h := h.2 hc
    refine hf_aload_n dX12_termOf_54 rfl rfl ?_
    refine hf_aload_n dX12_termOf_55 rfl rfl ?_
    refine hf_geti (c := 12) (j := 19) dX12_termOf_56 (hs.2.1 156 _ rfl) (hf_lin hs 156 rfl) (by decide) (by decide) hw1055 (Or.inl rfl) ?_
    exact hf_callV (c := 12) (as := [.int (I 156 19)]) ok_X12_codeAt dX12_termOf_59 hw1214 hw1215 hw1613 (hs.2.1 156 _ rfl) (by decide) (hf_lin hs 156 rfl) rfl (Nat.le_of_ble_eq_true rfl) rfl (Nat.le_of_ble_eq_true rfl) (Nat.zero_le _) (Nat.zero_le _) h

set_option maxHeartbeats 4000000 in
theorem w_X12_termOf_164 {X : hf_X} {d k n t : Nat} {T : hf_T} {I : hf_I} {L : hf_L} {P : hf_P} {Q : Option Value → hf_M → Prop} {x1 : Int32} {s0 : Int64} (hs : hf_Lay t T P) (h : hf_G X Y_X12_termOf d k n 6 [some (.ref 156), some (.int x1), some (.long s0), none, none, none, none] [] (t, T, I, L, P) Q) : hf_G X Y_X12_termOf d k n 164 [some (.ref 156), some (.int x1), none, none, none, none, none] [.long s0] (t, T, I, L, P) Q := by
  refine hf_lstore_n (l2 := [some (.ref 156), some (.int x1), some (.long s0), none, none, none, none]) dX12_termOf_164 rfl (by decide) rfl ?_
  refine hf_goto (tgt := 6) dX12_termOf_165 (by decide) ?_
  exact h

set_option maxHeartbeats 4000000 in
theorem w_X12_partOf_0 {X : hf_X} {d k n t : Nat} {T : hf_T} {I : hf_I} {L : hf_L} {P : hf_P} {Q : Option Value → hf_M → Prop} {x1 : Int32} (hs : hf_Lay t T P) (h : hf_G X Y_X12_passes0 d 0 0 0 (hf_en [.ref 156, .int 191] 3) [] (t, T, I, L, P) (fun r M => hf_G X Y_X12_partOf (d + 1) k n 9 [some (.ref 156), some (.int x1), none, none] (r.toList ++ []) M Q)) : hf_G X Y_X12_partOf (d + 1) k n 0 (hf_en [.ref 156, .int x1] 4) [] (t, T, I, L, P) Q := by
  show hf_G X Y_X12_partOf (d + 1) k n 0 [some (.ref 156), some (.int x1), none, none] [] (t, T, I, L, P) Q
  refine hf_aload_n dX12_partOf_0 rfl rfl ?_
  refine hf_bipush (v := 91) dX12_partOf_1 (by decide) ?_
  refine hf_callS (as := [.int 91]) ok_X12_sign dX12_partOf_3 hw1226 hw1227 rfl (Nat.le_of_ble_eq_true rfl) rfl (Nat.le_of_ble_eq_true rfl) (Nat.zero_le _) (Nat.zero_le _) ?_
  show hf_G X Y_X12_sign d _ _ 0 [some (.int 91)] [] (t, T, I, L, P) _
  refine hf_bipush (v := 100) dX12_sign_0 (by decide) ?_
  refine hf_iload_n dX12_sign_2 rfl rfl ?_
  refine hf_iadd dX12_sign_3 ?_
  rw [show ((100 + 91) : Int32) = 191 by decide]
  refine hf_ireturn dX12_sign_4 rfl rfl ?_
  show hf_G X Y_X12_partOf (d + 1) _ _ 6 [some (.ref 156), some (.int x1), none, none] [.int 191, .ref 156] (t, T, I, L, P) _
  exact hf_callV (c := 12) (as := [.int 191]) ok_X12_passes0 dX12_partOf_6 hw1229 hw1230 hw1617 (hs.2.1 156 _ rfl) (by decide) (hf_lin hs 156 rfl) rfl (Nat.le_of_ble_eq_true rfl) rfl (Nat.le_of_ble_eq_true rfl) (Nat.zero_le _) (Nat.zero_le _) h

set_option maxHeartbeats 4000000 in
theorem w_X12_partOf_9 {X : hf_X} {d k n t : Nat} {T : hf_T} {I : hf_I} {L : hf_L} {P : hf_P} {Q : Option Value → hf_M → Prop} {x1 : Int32} {s0 : Int32} (hs : hf_Lay t T P) (h : (s0 = 0 → hf_G X Y_X12_codeAt d 0 0 0 (hf_en [.ref 156, .int (I 156 19)] 2) [] (t, T, I, L, P) (fun r M => hf_G X Y_X12_partOf (d + 1) k n 38 [some (.ref 156), some (.int x1), none, none] (r.toList ++ []) M Q)) ∧ (¬ (s0 = 0) → hf_G X Y_X12_sumOf d 0 0 0 (hf_en [.ref 156, .int x1] 7) [] (t, T, I, L, P) (fun r M => hf_G X Y_X12_partOf (d + 1) k n 17 [some (.ref 156), none, none, none] (r.toList ++ []) M Q))) : hf_G X Y_X12_partOf (d + 1) k n 9 [some (.ref 156), some (.int x1), none, none] [.int s0] (t, T, I, L, P) Q := by
  refine hf_if_eq (tgt := 30) dX12_partOf_9 (by decide) (fun hc => ?_) (fun hc => ?_)
  · replace h := h.1 hc
    refine hf_aload_n dX12_partOf_30 rfl rfl ?_
    refine hf_aload_n dX12_partOf_31 rfl rfl ?_
    refine hf_geti (c := 12) (j := 19) dX12_partOf_32 (hs.2.1 156 _ rfl) (hf_lin hs 156 rfl) (by decide) (by decide) hw1055 (Or.inl rfl) ?_
    exact hf_callV (c := 12) (as := [.int (I 156 19)]) ok_X12_codeAt dX12_partOf_35 hw1214 hw1215 hw1613 (hs.2.1 156 _ rfl) (by decide) (hf_lin hs 156 rfl) rfl (Nat.le_of_ble_eq_true rfl) rfl (Nat.le_of_ble_eq_true rfl) (Nat.zero_le _) (Nat.zero_le _) h
  · replace h := h.2 hc
    refine hf_aload_n dX12_partOf_12 rfl rfl ?_
    refine hf_iload_n dX12_partOf_13 rfl rfl ?_
    exact hf_callV (c := 12) (as := [.int x1]) ok_X12_sumOf dX12_partOf_14 hw1217 hw1218 hw1614 (hs.2.1 156 _ rfl) (by decide) (hf_lin hs 156 rfl) rfl (Nat.le_of_ble_eq_true rfl) rfl (Nat.le_of_ble_eq_true rfl) (Nat.zero_le _) (Nat.zero_le _) (hf_mono (fun r M q => hf_drop (l' := [some (.ref 156), none, none, none]) (by simp [hf_sub]) q) h)

set_option maxHeartbeats 4000000 in
theorem w_X12_partOf_38 {X : hf_X} {d k n t : Nat} {T : hf_T} {I : hf_I} {L : hf_L} {P : hf_P} {Q : Option Value → hf_M → Prop} {x1 : Int32} {s0 : Int32} (hs : hf_Lay t T P) (h : ((I 156 22) = 0 → (x1 = 0 → Q (some (.long 0)) (t, T, (hf_up I 156 19 ((I 156 19) + 1)), L, P)) ∧ (¬ (x1 = 0) → ((I 156 21) = 0 → (¬ s0 = 50 → ((I 156 22) = 0 → vp_in (s0 - 8) 13 ∧ (Q (some (.long ((I 168 (((s0 - 8)).toNatClampNeg)).toInt64))) (t, T, (hf_up I 156 19 ((I 156 19) + 1)), L, P))) ∧ (¬ ((I 156 22) = 0) → hf_G X Y_X12_settingOf d 0 0 0 (hf_en [.ref 156, .int s0, .int 0] 3) [] (t, T, (hf_up I 156 19 ((I 156 19) + 1)), L, P) (fun r M => hf_G X Y_X12_partOf (d + 1) k n 143 [none, none, none, none] (r.toList ++ []) M Q))) ∧ (s0 = 50 → vp_in ((3129 + ((I 156 19) + 1)) - 1) 5929 ∧ (Q (some (.long ((I 158 ((((3129 + ((I 156 19) + 1)) - 1)).toNatClampNeg)).toInt64))) (t, T, (hf_up I 156 19 ((I 156 19) + 1)), L, P)))) ∧ (¬ ((I 156 21) = 0) → Q (some (.long 0)) (t, T, (hf_up I 156 19 ((I 156 19) + 1)), L, P)))) ∧ (¬ ((I 156 22) = 0) → (s0 = 24 → vp_in (3129 + ((I 156 19) + 1)) 5929 ∧ ((x1 = 0 → Q (some (.long 0)) (t, T, (hf_up (hf_up I 156 19 ((I 156 19) + 1)) 156 19 (((I 156 19) + 1) + 1)), L, P)) ∧ (¬ (x1 = 0) → ((I 156 21) = 0 → (¬ s0 = 50 → ((I 156 22) = 0 → vp_in (s0 - 8) 13 ∧ (Q (some (.long ((I 168 (((s0 - 8)).toNatClampNeg)).toInt64))) (t, T, (hf_up (hf_up I 156 19 ((I 156 19) + 1)) 156 19 (((I 156 19) + 1) + 1)), L, P))) ∧ (¬ ((I 156 22) = 0) → hf_G X Y_X12_settingOf d 0 0 0 (hf_en [.ref 156, .int s0, .int (I 158 (((3129 + ((I 156 19) + 1))).toNatClampNeg))] 3) [] (t, T, (hf_up (hf_up I 156 19 ((I 156 19) + 1)) 156 19 (((I 156 19) + 1) + 1)), L, P) (fun r M => hf_G X Y_X12_partOf (d + 1) k n 143 [none, none, none, none] (r.toList ++ []) M Q))) ∧ (s0 = 50 → vp_in ((3129 + (((I 156 19) + 1) + 1)) - 1) 5929 ∧ (Q (some (.long ((I 158 ((((3129 + (((I 156 19) + 1) + 1)) - 1)).toNatClampNeg)).toInt64))) (t, T, (hf_up (hf_up I 156 19 ((I 156 19) + 1)) 156 19 (((I 156 19) + 1) + 1)), L, P)))) ∧ (¬ ((I 156 21) = 0) → Q (some (.long 0)) (t, T, (hf_up (hf_up I 156 19 ((I 156 19) + 1)) 156 19 (((I 156 19) + 1) + 1)), L, P))))) ∧ (¬ (s0 = 24) → (¬ s0 = 9 → (x1 = 0 → Q (some (.long 0)) (t, T, (hf_up I 156 19 ((I 156 19) + 1)), L, P)) ∧ (¬ (x1 = 0) → ((I 156 21) = 0 → (¬ s0 = 50 → ((I 156 22) = 0 → vp_in (s0 - 8) 13 ∧ (Q (some (.long ((I 168 (((s0 - 8)).toNatClampNeg)).toInt64))) (t, T, (hf_up I 156 19 ((I 156 19) + 1)), L, P))) ∧ (¬ ((I 156 22) = 0) → hf_G X Y_X12_settingOf d 0 0 0 (hf_en [.ref 156, .int s0, .int 0] 3) [] (t, T, (hf_up I 156 19 ((I 156 19) + 1)), L, P) (fun r M => hf_G X Y_X12_partOf (d + 1) k n 143 [none, none, none, none] (r.toList ++ []) M Q))) ∧ (s0 = 50 → vp_in ((3129 + ((I 156 19) + 1)) - 1) 5929 ∧ (Q (some (.long ((I 158 ((((3129 + ((I 156 19) + 1)) - 1)).toNatClampNeg)).toInt64))) (t, T, (hf_up I 156 19 ((I 156 19) + 1)), L, P)))) ∧ (¬ ((I 156 21) = 0) → Q (some (.long 0)) (t, T, (hf_up I 156 19 ((I 156 19) + 1)), L, P)))) ∧ (s0 = 9 → vp_in (3129 + ((I 156 19) + 1)) 5929 ∧ ((x1 = 0 → Q (some (.long 0)) (t, T, (hf_up (hf_up I 156 19 ((I 156 19) + 1)) 156 19 (((I 156 19) + 1) + 1)), L, P)) ∧ (¬ (x1 = 0) → ((I 156 21) = 0 → (¬ s0 = 50 → ((I 156 22) = 0 → vp_in (s0 - 8) 13 ∧ (Q (some (.long ((I 168 (((s0 - 8)).toNatClampNeg)).toInt64))) (t, T, (hf_up (hf_up I 156 19 ((I 156 19) + 1)) 156 19 (((I 156 19) + 1) + 1)), L, P))) ∧ (¬ ((I 156 22) = 0) → hf_G X Y_X12_settingOf d 0 0 0 (hf_en [.ref 156, .int s0, .int (I 158 (((3129 + ((I 156 19) + 1))).toNatClampNeg))] 3) [] (t, T, (hf_up (hf_up I 156 19 ((I 156 19) + 1)) 156 19 (((I 156 19) + 1) + 1)), L, P) (fun r M => hf_G X Y_X12_partOf (d + 1) k n 143 [none, none, none, none] (r.toList ++ []) M Q))) ∧ (s0 = 50 → vp_in ((3129 + (((I 156 19) + 1) + 1)) - 1) 5929 ∧ (Q (some (.long ((I 158 ((((3129 + (((I 156 19) + 1) + 1)) - 1)).toNatClampNeg)).toInt64))) (t, T, (hf_up (hf_up I 156 19 ((I 156 19) + 1)) 156 19 (((I 156 19) + 1) + 1)), L, P)))) ∧ (¬ ((I 156 21) = 0) → Q (some (.long 0)) (t, T, (hf_up (hf_up I 156 19 ((I 156 19) + 1)) 156 19 (((I 156 19) + 1) + 1)), L, P)))))))) : hf_G X Y_X12_partOf (d + 1) k n 38 [some (.ref 156), some (.int x1), none, none] [.int s0] (t, T, I, L, P) Q := by
  refine hf_istore_n (l2 := [some (.ref 156), some (.int x1), some (.int s0), none]) dX12_partOf_38 rfl (by decide) rfl ?_
  refine hf_iconst (v := 0) dX12_partOf_39 (by decide) ?_
  refine hf_istore_n (l2 := [some (.ref 156), some (.int x1), some (.int s0), some (.int 0)]) dX12_partOf_40 rfl (by decide) rfl ?_
  refine hf_aload_n dX12_partOf_41 rfl rfl ?_
  refine hf_dup dX12_partOf_42 rfl ?_
  refine hf_geti (c := 12) (j := 19) dX12_partOf_43 (hs.2.1 156 _ rfl) (hf_lin hs 156 rfl) (by decide) (by decide) hw1055 (Or.inl rfl) ?_
  refine hf_iconst (v := 1) dX12_partOf_46 (by decide) ?_
  refine hf_iadd dX12_partOf_47 ?_
  refine hf_puti (c := 12) (j := 19) dX12_partOf_48 (hs.2.1 156 _ rfl) (hf_lin hs 156 rfl) (by decide) (by decide) hw1055 rfl rfl ?_
  refine hf_aload_n dX12_partOf_51 rfl rfl ?_
  refine hf_geti (c := 12) (j := 22) dX12_partOf_52 (hs.2.1 156 _ rfl) (hf_lin hs 156 rfl) (by decide) (by decide) hw1058 (Or.inr rfl) ?_
  refine hf_if_eq (tgt := 94) dX12_partOf_55 (by decide) (fun hc => ?_) (fun hc => ?_)
  · replace h := h.1 hc
    refine hf_iload_n dX12_partOf_94 rfl rfl ?_
    refine hf_if_eq (tgt := 105) dX12_partOf_95 (by decide) (fun hc => ?_) (fun hc => ?_)
    · replace h := h.1 hc
      refine hf_lconst (v := 0) dX12_partOf_105 (by decide) ?_
      refine hf_lreturn dX12_partOf_106 rfl ?_
      exact h
    · replace h := h.2 hc
      refine hf_aload_n dX12_partOf_98 rfl rfl ?_
      refine hf_geti (c := 12) (j := 21) dX12_partOf_99 (hs.2.1 156 _ rfl) (hf_lin hs 156 rfl) (by decide) (by decide) hw1057 (Or.inr rfl) ?_
      refine hf_if_eq (tgt := 107) dX12_partOf_102 (by decide) (fun hc => ?_) (fun hc => ?_)
      · replace h := h.1 hc
        refine hf_iload_n dX12_partOf_107 rfl rfl ?_
        refine hf_bipush (v := 50) dX12_partOf_108 (by decide) ?_
        refine hf_icmp_ne (tgt := 130) dX12_partOf_110 (by decide) (fun hc => ?_) (fun hc => ?_)
        · replace h := h.1 hc
          refine hf_aload_n dX12_partOf_130 rfl rfl ?_
          refine hf_geti (c := 12) (j := 22) dX12_partOf_131 (hs.2.1 156 _ rfl) (hf_lin hs 156 rfl) (by decide) (by decide) hw1058 (Or.inr rfl) ?_
          refine hf_if_eq (tgt := 147) dX12_partOf_134 (by decide) (fun hc => ?_) (fun hc => ?_)
          · replace h := h.1 hc
            refine hf_aload_n dX12_partOf_147 rfl rfl ?_
            refine hf_getr (b := 168) (c := 12) (j := 23) dX12_partOf_148 (hs.2.1 156 _ rfl) (hf_lin hs 156 rfl) (by decide) (by decide) hw1059 rfl (hs.2.2 156 23 _ rfl) ?_
            refine hf_iload_n dX12_partOf_151 rfl rfl ?_
            refine hf_bipush (v := 8) dX12_partOf_152 (by decide) ?_
            refine hf_isub dX12_partOf_154 ?_
            refine hf_iald dX12_partOf_155 (hs.2.1 168 _ rfl) (hf_lin hs 168 rfl) h.1 ?_
            replace h := h.2
            refine hf_i2l dX12_partOf_156 ?_
            refine hf_lreturn dX12_partOf_157 rfl ?_
            exact h
          · replace h := h.2 hc
            refine hf_aload_n dX12_partOf_137 rfl rfl ?_
            refine hf_iload_n dX12_partOf_138 rfl rfl ?_
            refine hf_iload_n dX12_partOf_139 rfl rfl ?_
            exact hf_callV (c := 12) (as := [.int s0, .int 0]) ok_X12_settingOf dX12_partOf_140 hw1232 hw1233 hw1618 (hs.2.1 156 _ rfl) (by decide) (hf_lin hs 156 rfl) rfl (Nat.le_of_ble_eq_true rfl) rfl (Nat.le_of_ble_eq_true rfl) (Nat.zero_le _) (Nat.zero_le _) (hf_mono (fun r M q => hf_drop (l' := [none, none, none, none]) (by simp [hf_sub]) q) h)
        · replace h := h.2 hc
          refine hf_aload_n dX12_partOf_113 rfl rfl ?_
          refine hf_getr (b := 158) (c := 12) (j := 2) dX12_partOf_114 (hs.2.1 156 _ rfl) (hf_lin hs 156 rfl) (by decide) (by decide) hw1038 rfl (hs.2.2 156 2 _ rfl) ?_
          refine hf_sipush (v := 3129) dX12_partOf_117 (by decide) ?_
          refine hf_aload_n dX12_partOf_120 rfl rfl ?_
          refine hf_geti (c := 12) (j := 19) dX12_partOf_121 (hs.2.1 156 _ rfl) (hf_lin hs 156 rfl) (by decide) (by decide) hw1055 (Or.inl rfl) ?_
          refine hf_iadd dX12_partOf_124 ?_
          refine hf_iconst (v := 1) dX12_partOf_125 (by decide) ?_
          refine hf_isub dX12_partOf_126 ?_
          refine hf_iald dX12_partOf_127 (hs.2.1 158 _ rfl) (hf_lin hs 158 rfl) h.1 ?_
          replace h := h.2
          refine hf_i2l dX12_partOf_128 ?_
          refine hf_lreturn dX12_partOf_129 rfl ?_
          exact h
      · replace h := h.2 hc
        refine hf_lconst (v := 0) dX12_partOf_105 (by decide) ?_
        refine hf_lreturn dX12_partOf_106 rfl ?_
        exact h
  · replace h := h.2 hc
    refine hf_iload_n dX12_partOf_58 rfl rfl ?_
    refine hf_bipush (v := 24) dX12_partOf_59 (by decide) ?_
    refine hf_icmp_eq (tgt := 70) dX12_partOf_61 (by decide) (fun hc => ?_) (fun hc => ?_)
    · replace h := h.1 hc
      refine hf_aload_n dX12_partOf_70 rfl rfl ?_
      refine hf_getr (b := 158) (c := 12) (j := 2) dX12_partOf_71 (hs.2.1 156 _ rfl) (hf_lin hs 156 rfl) (by decide) (by decide) hw1038 rfl (hs.2.2 156 2 _ rfl) ?_
      refine hf_sipush (v := 3129) dX12_partOf_74 (by decide) ?_
      refine hf_aload_n dX12_partOf_77 rfl rfl ?_
      refine hf_geti (c := 12) (j := 19) dX12_partOf_78 (hs.2.1 156 _ rfl) (hf_lin hs 156 rfl) (by decide) (by decide) hw1055 (Or.inl rfl) ?_
      refine hf_iadd dX12_partOf_81 ?_
      refine hf_iald dX12_partOf_82 (hs.2.1 158 _ rfl) (hf_lin hs 158 rfl) h.1 ?_
      replace h := h.2
      refine hf_istore_n (l2 := [some (.ref 156), some (.int x1), some (.int s0), some (.int (I 158 (((3129 + ((I 156 19) + 1))).toNatClampNeg)))]) dX12_partOf_83 rfl (by decide) rfl ?_
      refine hf_aload_n dX12_partOf_84 rfl rfl ?_
      refine hf_dup dX12_partOf_85 rfl ?_
      refine hf_geti (c := 12) (j := 19) dX12_partOf_86 (hs.2.1 156 _ rfl) (hf_lin hs 156 rfl) (by decide) (by decide) hw1055 (Or.inl rfl) ?_
      refine hf_iconst (v := 1) dX12_partOf_89 (by decide) ?_
      refine hf_iadd dX12_partOf_90 ?_
      refine hf_puti (c := 12) (j := 19) dX12_partOf_91 (hs.2.1 156 _ rfl) (hf_lin hs 156 rfl) (by decide) (by decide) hw1055 rfl rfl ?_
      refine hf_iload_n dX12_partOf_94 rfl rfl ?_
      refine hf_if_eq (tgt := 105) dX12_partOf_95 (by decide) (fun hc => ?_) (fun hc => ?_)
      · replace h := h.1 hc
        refine hf_lconst (v := 0) dX12_partOf_105 (by decide) ?_
        refine hf_lreturn dX12_partOf_106 rfl ?_
        exact h
      · replace h := h.2 hc
        refine hf_aload_n dX12_partOf_98 rfl rfl ?_
        refine hf_geti (c := 12) (j := 21) dX12_partOf_99 (hs.2.1 156 _ rfl) (hf_lin hs 156 rfl) (by decide) (by decide) hw1057 (Or.inr rfl) ?_
        refine hf_if_eq (tgt := 107) dX12_partOf_102 (by decide) (fun hc => ?_) (fun hc => ?_)
        · replace h := h.1 hc
          refine hf_iload_n dX12_partOf_107 rfl rfl ?_
          refine hf_bipush (v := 50) dX12_partOf_108 (by decide) ?_
          refine hf_icmp_ne (tgt := 130) dX12_partOf_110 (by decide) (fun hc => ?_) (fun hc => ?_)
          · replace h := h.1 hc
            refine hf_aload_n dX12_partOf_130 rfl rfl ?_
            refine hf_geti (c := 12) (j := 22) dX12_partOf_131 (hs.2.1 156 _ rfl) (hf_lin hs 156 rfl) (by decide) (by decide) hw1058 (Or.inr rfl) ?_
            refine hf_if_eq (tgt := 147) dX12_partOf_134 (by decide) (fun hc => ?_) (fun hc => ?_)
            · replace h := h.1 hc
              refine hf_aload_n dX12_partOf_147 rfl rfl ?_
              refine hf_getr (b := 168) (c := 12) (j := 23) dX12_partOf_148 (hs.2.1 156 _ rfl) (hf_lin hs 156 rfl) (by decide) (by decide) hw1059 rfl (hs.2.2 156 23 _ rfl) ?_
              refine hf_iload_n dX12_partOf_151 rfl rfl ?_
              refine hf_bipush (v := 8) dX12_partOf_152 (by decide) ?_
              refine hf_isub dX12_partOf_154 ?_
              refine hf_iald dX12_partOf_155 (hs.2.1 168 _ rfl) (hf_lin hs 168 rfl) h.1 ?_
              replace h := h.2
              refine hf_i2l dX12_partOf_156 ?_
              refine hf_lreturn dX12_partOf_157 rfl ?_
              exact h
            · replace h := h.2 hc
              refine hf_aload_n dX12_partOf_137 rfl rfl ?_
              refine hf_iload_n dX12_partOf_138 rfl rfl ?_
              refine hf_iload_n dX12_partOf_139 rfl rfl ?_
              exact hf_callV (c := 12) (as := [.int s0, .int (I 158 (((3129 + ((I 156 19) + 1))).toNatClampNeg))]) ok_X12_settingOf dX12_partOf_140 hw1232 hw1233 hw1618 (hs.2.1 156 _ rfl) (by decide) (hf_lin hs 156 rfl) rfl (Nat.le_of_ble_eq_true rfl) rfl (Nat.le_of_ble_eq_true rfl) (Nat.zero_le _) (Nat.zero_le _) (hf_mono (fun r M q => hf_drop (l' := [none, none, none, none]) (by simp [hf_sub]) q) h)
          · replace h := h.2 hc
            refine hf_aload_n dX12_partOf_113 rfl rfl ?_
            refine hf_getr (b := 158) (c := 12) (j := 2) dX12_partOf_114 (hs.2.1 156 _ rfl) (hf_lin hs 156 rfl) (by decide) (by decide) hw1038 rfl (hs.2.2 156 2 _ rfl) ?_
            refine hf_sipush (v := 3129) dX12_partOf_117 (by decide) ?_
            refine hf_aload_n dX12_partOf_120 rfl rfl ?_
            refine hf_geti (c := 12) (j := 19) dX12_partOf_121 (hs.2.1 156 _ rfl) (hf_lin hs 156 rfl) (by decide) (by decide) hw1055 (Or.inl rfl) ?_
            refine hf_iadd dX12_partOf_124 ?_
            refine hf_iconst (v := 1) dX12_partOf_125 (by decide) ?_
            refine hf_isub dX12_partOf_126 ?_
            refine hf_iald dX12_partOf_127 (hs.2.1 158 _ rfl) (hf_lin hs 158 rfl) h.1 ?_
            replace h := h.2
            refine hf_i2l dX12_partOf_128 ?_
            refine hf_lreturn dX12_partOf_129 rfl ?_
            exact h
        · replace h := h.2 hc
          refine hf_lconst (v := 0) dX12_partOf_105 (by decide) ?_
          refine hf_lreturn dX12_partOf_106 rfl ?_
          exact h
    · replace h := h.2 hc
      refine hf_iload_n dX12_partOf_64 rfl rfl ?_
      refine hf_bipush (v := 9) dX12_partOf_65 (by decide) ?_
      refine hf_icmp_ne (tgt := 94) dX12_partOf_67 (by decide) (fun hc => ?_) (fun hc => ?_)
      · replace h := h.1 hc
        refine hf_iload_n dX12_partOf_94 rfl rfl ?_
        refine hf_if_eq (tgt := 105) dX12_partOf_95 (by decide) (fun hc => ?_) (fun hc => ?_)
        · replace h := h.1 hc
          refine hf_lconst (v := 0) dX12_partOf_105 (by decide) ?_
          refine hf_lreturn dX12_partOf_106 rfl ?_
          exact h
        · replace h := h.2 hc
          refine hf_aload_n dX12_partOf_98 rfl rfl ?_
          refine hf_geti (c := 12) (j := 21) dX12_partOf_99 (hs.2.1 156 _ rfl) (hf_lin hs 156 rfl) (by decide) (by decide) hw1057 (Or.inr rfl) ?_
          refine hf_if_eq (tgt := 107) dX12_partOf_102 (by decide) (fun hc => ?_) (fun hc => ?_)
          · replace h := h.1 hc
            refine hf_iload_n dX12_partOf_107 rfl rfl ?_
            refine hf_bipush (v := 50) dX12_partOf_108 (by decide) ?_
            refine hf_icmp_ne (tgt := 130) dX12_partOf_110 (by decide) (fun hc => ?_) (fun hc => ?_)
            · replace h := h.1 hc
              refine hf_aload_n dX12_partOf_130 rfl rfl ?_
              refine hf_geti (c := 12) (j := 22) dX12_partOf_131 (hs.2.1 156 _ rfl) (hf_lin hs 156 rfl) (by decide) (by decide) hw1058 (Or.inr rfl) ?_
              refine hf_if_eq (tgt := 147) dX12_partOf_134 (by decide) (fun hc => ?_) (fun hc => ?_)
              · replace h := h.1 hc
                refine hf_aload_n dX12_partOf_147 rfl rfl ?_
                refine hf_getr (b := 168) (c := 12) (j := 23) dX12_partOf_148 (hs.2.1 156 _ rfl) (hf_lin hs 156 rfl) (by decide) (by decide) hw1059 rfl (hs.2.2 156 23 _ rfl) ?_
                refine hf_iload_n dX12_partOf_151 rfl rfl ?_
                refine hf_bipush (v := 8) dX12_partOf_152 (by decide) ?_
                refine hf_isub dX12_partOf_154 ?_
                refine hf_iald dX12_partOf_155 (hs.2.1 168 _ rfl) (hf_lin hs 168 rfl) h.1 ?_
                replace h := h.2
                refine hf_i2l dX12_partOf_156 ?_
                refine hf_lreturn dX12_partOf_157 rfl ?_
                exact h
              · replace h := h.2 hc
                refine hf_aload_n dX12_partOf_137 rfl rfl ?_
                refine hf_iload_n dX12_partOf_138 rfl rfl ?_
                refine hf_iload_n dX12_partOf_139 rfl rfl ?_
                exact hf_callV (c := 12) (as := [.int s0, .int 0]) ok_X12_settingOf dX12_partOf_140 hw1232 hw1233 hw1618 (hs.2.1 156 _ rfl) (by decide) (hf_lin hs 156 rfl) rfl (Nat.le_of_ble_eq_true rfl) rfl (Nat.le_of_ble_eq_true rfl) (Nat.zero_le _) (Nat.zero_le _) (hf_mono (fun r M q => hf_drop (l' := [none, none, none, none]) (by simp [hf_sub]) q) h)
            · replace h := h.2 hc
              refine hf_aload_n dX12_partOf_113 rfl rfl ?_
              refine hf_getr (b := 158) (c := 12) (j := 2) dX12_partOf_114 (hs.2.1 156 _ rfl) (hf_lin hs 156 rfl) (by decide) (by decide) hw1038 rfl (hs.2.2 156 2 _ rfl) ?_
              refine hf_sipush (v := 3129) dX12_partOf_117 (by decide) ?_
              refine hf_aload_n dX12_partOf_120 rfl rfl ?_
              refine hf_geti (c := 12) (j := 19) dX12_partOf_121 (hs.2.1 156 _ rfl) (hf_lin hs 156 rfl) (by decide) (by decide) hw1055 (Or.inl rfl) ?_
              refine hf_iadd dX12_partOf_124 ?_
              refine hf_iconst (v := 1) dX12_partOf_125 (by decide) ?_
              refine hf_isub dX12_partOf_126 ?_
              refine hf_iald dX12_partOf_127 (hs.2.1 158 _ rfl) (hf_lin hs 158 rfl) h.1 ?_
              replace h := h.2
              refine hf_i2l dX12_partOf_128 ?_
              refine hf_lreturn dX12_partOf_129 rfl ?_
              exact h
          · replace h := h.2 hc
            refine hf_lconst (v := 0) dX12_partOf_105 (by decide) ?_
            refine hf_lreturn dX12_partOf_106 rfl ?_
            exact h
      · replace h := h.2 hc
        refine hf_aload_n dX12_partOf_70 rfl rfl ?_
        refine hf_getr (b := 158) (c := 12) (j := 2) dX12_partOf_71 (hs.2.1 156 _ rfl) (hf_lin hs 156 rfl) (by decide) (by decide) hw1038 rfl (hs.2.2 156 2 _ rfl) ?_
        refine hf_sipush (v := 3129) dX12_partOf_74 (by decide) ?_
        refine hf_aload_n dX12_partOf_77 rfl rfl ?_
        refine hf_geti (c := 12) (j := 19) dX12_partOf_78 (hs.2.1 156 _ rfl) (hf_lin hs 156 rfl) (by decide) (by decide) hw1055 (Or.inl rfl) ?_
        refine hf_iadd dX12_partOf_81 ?_
        refine hf_iald dX12_partOf_82 (hs.2.1 158 _ rfl) (hf_lin hs 158 rfl) h.1 ?_
        replace h := h.2
        refine hf_istore_n (l2 := [some (.ref 156), some (.int x1), some (.int s0), some (.int (I 158 (((3129 + ((I 156 19) + 1))).toNatClampNeg)))]) dX12_partOf_83 rfl (by decide) rfl ?_
        refine hf_aload_n dX12_partOf_84 rfl rfl ?_
        refine hf_dup dX12_partOf_85 rfl ?_
        refine hf_geti (c := 12) (j := 19) dX12_partOf_86 (hs.2.1 156 _ rfl) (hf_lin hs 156 rfl) (by decide) (by decide) hw1055 (Or.inl rfl) ?_
        refine hf_iconst (v := 1) dX12_partOf_89 (by decide) ?_
        refine hf_iadd dX12_partOf_90 ?_
        refine hf_puti (c := 12) (j := 19) dX12_partOf_91 (hs.2.1 156 _ rfl) (hf_lin hs 156 rfl) (by decide) (by decide) hw1055 rfl rfl ?_
        refine hf_iload_n dX12_partOf_94 rfl rfl ?_
        refine hf_if_eq (tgt := 105) dX12_partOf_95 (by decide) (fun hc => ?_) (fun hc => ?_)
        · replace h := h.1 hc
          refine hf_lconst (v := 0) dX12_partOf_105 (by decide) ?_
          refine hf_lreturn dX12_partOf_106 rfl ?_
          exact h
        · replace h := h.2 hc
          refine hf_aload_n dX12_partOf_98 rfl rfl ?_
          refine hf_geti (c := 12) (j := 21) dX12_partOf_99 (hs.2.1 156 _ rfl) (hf_lin hs 156 rfl) (by decide) (by decide) hw1057 (Or.inr rfl) ?_
          refine hf_if_eq (tgt := 107) dX12_partOf_102 (by decide) (fun hc => ?_) (fun hc => ?_)
          · replace h := h.1 hc
            refine hf_iload_n dX12_partOf_107 rfl rfl ?_
            refine hf_bipush (v := 50) dX12_partOf_108 (by decide) ?_
            refine hf_icmp_ne (tgt := 130) dX12_partOf_110 (by decide) (fun hc => ?_) (fun hc => ?_)
            · replace h := h.1 hc
              refine hf_aload_n dX12_partOf_130 rfl rfl ?_
              refine hf_geti (c := 12) (j := 22) dX12_partOf_131 (hs.2.1 156 _ rfl) (hf_lin hs 156 rfl) (by decide) (by decide) hw1058 (Or.inr rfl) ?_
              refine hf_if_eq (tgt := 147) dX12_partOf_134 (by decide) (fun hc => ?_) (fun hc => ?_)
              · replace h := h.1 hc
                refine hf_aload_n dX12_partOf_147 rfl rfl ?_
                refine hf_getr (b := 168) (c := 12) (j := 23) dX12_partOf_148 (hs.2.1 156 _ rfl) (hf_lin hs 156 rfl) (by decide) (by decide) hw1059 rfl (hs.2.2 156 23 _ rfl) ?_
                refine hf_iload_n dX12_partOf_151 rfl rfl ?_
                refine hf_bipush (v := 8) dX12_partOf_152 (by decide) ?_
                refine hf_isub dX12_partOf_154 ?_
                refine hf_iald dX12_partOf_155 (hs.2.1 168 _ rfl) (hf_lin hs 168 rfl) h.1 ?_
                replace h := h.2
                refine hf_i2l dX12_partOf_156 ?_
                refine hf_lreturn dX12_partOf_157 rfl ?_
                exact h
              · replace h := h.2 hc
                refine hf_aload_n dX12_partOf_137 rfl rfl ?_
                refine hf_iload_n dX12_partOf_138 rfl rfl ?_
                refine hf_iload_n dX12_partOf_139 rfl rfl ?_
                exact hf_callV (c := 12) (as := [.int s0, .int (I 158 (((3129 + ((I 156 19) + 1))).toNatClampNeg))]) ok_X12_settingOf dX12_partOf_140 hw1232 hw1233 hw1618 (hs.2.1 156 _ rfl) (by decide) (hf_lin hs 156 rfl) rfl (Nat.le_of_ble_eq_true rfl) rfl (Nat.le_of_ble_eq_true rfl) (Nat.zero_le _) (Nat.zero_le _) (hf_mono (fun r M q => hf_drop (l' := [none, none, none, none]) (by simp [hf_sub]) q) h)
            · replace h := h.2 hc
              refine hf_aload_n dX12_partOf_113 rfl rfl ?_
              refine hf_getr (b := 158) (c := 12) (j := 2) dX12_partOf_114 (hs.2.1 156 _ rfl) (hf_lin hs 156 rfl) (by decide) (by decide) hw1038 rfl (hs.2.2 156 2 _ rfl) ?_
              refine hf_sipush (v := 3129) dX12_partOf_117 (by decide) ?_
              refine hf_aload_n dX12_partOf_120 rfl rfl ?_
              refine hf_geti (c := 12) (j := 19) dX12_partOf_121 (hs.2.1 156 _ rfl) (hf_lin hs 156 rfl) (by decide) (by decide) hw1055 (Or.inl rfl) ?_
              refine hf_iadd dX12_partOf_124 ?_
              refine hf_iconst (v := 1) dX12_partOf_125 (by decide) ?_
              refine hf_isub dX12_partOf_126 ?_
              refine hf_iald dX12_partOf_127 (hs.2.1 158 _ rfl) (hf_lin hs 158 rfl) h.1 ?_
              replace h := h.2
              refine hf_i2l dX12_partOf_128 ?_
              refine hf_lreturn dX12_partOf_129 rfl ?_
              exact h
          · replace h := h.2 hc
            refine hf_lconst (v := 0) dX12_partOf_105 (by decide) ?_
            refine hf_lreturn dX12_partOf_106 rfl ?_
            exact h

set_option maxHeartbeats 4000000 in
theorem w_X12_partOf_17 {X : hf_X} {d k n t : Nat} {T : hf_T} {I : hf_I} {L : hf_L} {P : hf_P} {Q : Option Value → hf_M → Prop} {s0 : Int64} (hs : hf_Lay t T P) (h : Q (some (.long s0)) (t, T, (hf_up I 156 19 ((I 156 19) + 1)), L, P)) : hf_G X Y_X12_partOf d k n 17 [some (.ref 156), none, none, none] [.long s0] (t, T, I, L, P) Q := by
  refine hf_lstore_n (l2 := [some (.ref 156), none, some (.long s0), none]) dX12_partOf_17 rfl (by decide) rfl ?_
  refine hf_aload_n dX12_partOf_18 rfl rfl ?_
  refine hf_dup dX12_partOf_19 rfl ?_
  refine hf_geti (c := 12) (j := 19) dX12_partOf_20 (hs.2.1 156 _ rfl) (hf_lin hs 156 rfl) (by decide) (by decide) hw1055 (Or.inl rfl) ?_
  refine hf_iconst (v := 1) dX12_partOf_23 (by decide) ?_
  refine hf_iadd dX12_partOf_24 ?_
  refine hf_puti (c := 12) (j := 19) dX12_partOf_25 (hs.2.1 156 _ rfl) (hf_lin hs 156 rfl) (by decide) (by decide) hw1055 rfl rfl ?_
  refine hf_lload_n dX12_partOf_28 rfl rfl ?_
  refine hf_lreturn dX12_partOf_29 rfl ?_
  exact h

set_option maxHeartbeats 4000000 in
theorem w_X12_partOf_143 {X : hf_X} {d k n t : Nat} {T : hf_T} {I : hf_I} {L : hf_L} {P : hf_P} {Q : Option Value → hf_M → Prop} {s0 : Int32} (hs : hf_Lay t T P) (h : Q (some (.long s0.toInt64)) (t, T, I, L, P)) : hf_G X Y_X12_partOf d k n 143 [none, none, none, none] [.int s0] (t, T, I, L, P) Q := by
  refine hf_i2l dX12_partOf_143 ?_
  refine hf_goto (tgt := 157) dX12_partOf_144 (by decide) ?_
  refine hf_lreturn dX12_partOf_157 rfl ?_
  exact h

set_option maxHeartbeats 4000000 in
theorem w_X12_settingOf_0 {X : hf_X} {d k n t : Nat} {T : hf_T} {I : hf_I} {L : hf_L} {P : hf_P} {Q : Option Value → hf_M → Prop} {x1 : Int32} {x2 : Int32} (hs : hf_Lay t T P) (h : (x1 = 13 → Q (some (.int (I 158 25))) (t, T, I, L, P)) ∧ (x1 = 14 → (x2 < 0 → Q (some (.int (-1))) (t, T, I, L, P)) ∧ (¬ (x2 < 0) → (((I 158 316) - 1) < x2 → Q (some (.int (-1))) (t, T, I, L, P)) ∧ (¬ (((I 158 316) - 1) < x2) → vp_in ((53 + (13 * x2)) + 0) 5929 ∧ (Q (some (.int (I 158 ((((53 + (13 * x2)) + 0)).toNatClampNeg)))) (t, T, I, L, P))))) ∧ (x1 = 15 → (x2 < 0 → Q (some (.int (-1))) (t, T, I, L, P)) ∧ (¬ (x2 < 0) → (((I 158 316) - 1) < x2 → Q (some (.int (-1))) (t, T, I, L, P)) ∧ (¬ (((I 158 316) - 1) < x2) → vp_in ((53 + (13 * x2)) + 0) 5929 ∧ (Q (some (.int (I 158 ((((53 + (13 * x2)) + 0)).toNatClampNeg)))) (t, T, I, L, P))))) ∧ (x1 = 16 → (x2 < 0 → Q (some (.int (-1))) (t, T, I, L, P)) ∧ (¬ (x2 < 0) → (((I 158 316) - 1) < x2 → Q (some (.int (-1))) (t, T, I, L, P)) ∧ (¬ (((I 158 316) - 1) < x2) → vp_in ((53 + (13 * x2)) + 0) 5929 ∧ (Q (some (.int (I 158 ((((53 + (13 * x2)) + 0)).toNatClampNeg)))) (t, T, I, L, P))))) ∧ (x1 = 17 → (x2 < 0 → Q (some (.int (-1))) (t, T, I, L, P)) ∧ (¬ (x2 < 0) → (((I 158 316) - 1) < x2 → Q (some (.int (-1))) (t, T, I, L, P)) ∧ (¬ (((I 158 316) - 1) < x2) → vp_in ((53 + (13 * x2)) + 0) 5929 ∧ (Q (some (.int (I 158 ((((53 + (13 * x2)) + 0)).toNatClampNeg)))) (t, T, I, L, P))))) ∧ (x1 = 18 → Q (some (.int (I 158 315))) (t, T, I, L, P)) ∧ (x1 = 19 → (x2 < 0 → Q (some (.int (-1))) (t, T, I, L, P)) ∧ (¬ (x2 < 0) → (((I 158 316) - 1) < x2 → Q (some (.int (-1))) (t, T, I, L, P)) ∧ (¬ (((I 158 316) - 1) < x2) → vp_in ((53 + (13 * x2)) + 0) 5929 ∧ (Q (some (.int (I 158 ((((53 + (13 * x2)) + 0)).toNatClampNeg)))) (t, T, I, L, P))))) ∧ (x1 = 20 → (x2 < 0 → Q (some (.int (-1))) (t, T, I, L, P)) ∧ (¬ (x2 < 0) → (((I 158 316) - 1) < x2 → Q (some (.int (-1))) (t, T, I, L, P)) ∧ (¬ (((I 158 316) - 1) < x2) → vp_in ((53 + (13 * x2)) + 0) 5929 ∧ (Q (some (.int (I 158 ((((53 + (13 * x2)) + 0)).toNatClampNeg)))) (t, T, I, L, P))))) ∧ (x1 = 21 → Q (some (.int (I 158 24))) (t, T, I, L, P)) ∧ (x1 = 22 → hf_G X Y_X12_broadIn (d + 1) 0 0 0 (hf_en [.ref 156, .int (I 158 25)] 5) [] (t, T, I, L, P) (fun r M => hf_G X Y_X12_settingOf (d + 2) k n 99 [none, none, none] (r.toList ++ [.int (I 158 313)]) M Q)) ∧ (x1 = 23 → Q (some (.int (I 156 24))) (t, T, I, L, P)) ∧ (x1 = 24 → (x2 < 0 → Q (some (.int (-1))) (t, T, I, L, P)) ∧ (¬ (x2 < 0) → (((I 158 316) - 1) < x2 → Q (some (.int (-1))) (t, T, I, L, P)) ∧ (¬ (((I 158 316) - 1) < x2) → hf_G X Y_X12_broadOf (d + 1) 0 0 0 (hf_en [.ref 156, .int x2, .int (I 158 315)] 5) [] (t, T, I, L, P) (fun r M => hf_G X Y_X12_settingOf (d + 2) k n 136 [none, none, none] (r.toList ++ []) M Q)))) ∧ (x1.toInt < 13 ∨ 24 < x1.toInt → (x2 < 0 → Q (some (.int (-1))) (t, T, I, L, P)) ∧ (¬ (x2 < 0) → (((I 158 316) - 1) < x2 → Q (some (.int (-1))) (t, T, I, L, P)) ∧ (¬ (((I 158 316) - 1) < x2) → vp_in ((53 + (13 * x2)) + 0) 5929 ∧ (Q (some (.int (I 158 ((((53 + (13 * x2)) + 0)).toNatClampNeg)))) (t, T, I, L, P)))))) : hf_G X Y_X12_settingOf (d + 2) k n 0 (hf_en [.ref 156, .int x1, .int x2] 3) [] (t, T, I, L, P) Q := by
  show hf_G X Y_X12_settingOf (d + 2) k n 0 [some (.ref 156), some (.int x1), some (.int x2)] [] (t, T, I, L, P) Q
  refine hf_iload_n dX12_settingOf_0 rfl rfl ?_
  rcases hf_swc x1 13 11 with hq | ⟨j, hj, hq⟩
  · refine hf_tableOut (tgt := 141) dX12_settingOf_1 (by omega) (by decide) ?_
    replace h := h.2.2.2.2.2.2.2.2.2.2.2.2 (by omega)
    refine hf_aload_n dX12_settingOf_141 rfl rfl ?_
    refine hf_iload_n dX12_settingOf_142 rfl rfl ?_
    refine hf_callV (c := 12) (as := [.int x2]) ok_X12_isWord dX12_settingOf_143 hw1196 hw1197 hw1607 (hs.2.1 156 _ rfl) (by decide) (hf_lin hs 156 rfl) rfl (Nat.le_of_ble_eq_true rfl) rfl (Nat.le_of_ble_eq_true rfl) (Nat.zero_le _) (Nat.zero_le _) ?_
    show hf_G X Y_X12_isWord (d + 1) _ _ 0 [some (.ref 156), some (.int x2)] [] (t, T, I, L, P) _
    refine hf_iload_n dX12_isWord_0 rfl rfl ?_
    refine hf_iconst (v := 0) dX12_isWord_1 (by decide) ?_
    refine hf_aload_n dX12_isWord_2 rfl rfl ?_
    refine hf_getr (b := 158) (c := 12) (j := 2) dX12_isWord_3 (hs.2.1 156 _ rfl) (hf_lin hs 156 rfl) (by decide) (by decide) hw1038 rfl (hs.2.2 156 2 _ rfl) ?_
    refine hf_sipush (v := 316) dX12_isWord_6 (by decide) ?_
    refine hf_iald_k (j := 316) (by decide) dX12_isWord_9 (hs.2.1 158 _ rfl) (hf_lin hs 158 rfl) (hf_vin (by decide)) ?_
    refine hf_iconst (v := 1) dX12_isWord_10 (by decide) ?_
    refine hf_isub dX12_isWord_11 ?_
    refine hf_callS (as := [.int x2, .int 0, .int ((I 158 316) - 1)]) ok_X12_lies dX12_isWord_12 hw1143 hw1144 rfl (Nat.le_of_ble_eq_true rfl) rfl (Nat.le_of_ble_eq_true rfl) (Nat.zero_le _) (Nat.zero_le _) ?_
    show hf_G X Y_X12_lies d _ _ 0 [some (.int x2), some (.int 0), some (.int ((I 158 316) - 1))] [] (t, T, I, L, P) _
    refine hf_iload_n dX12_lies_0 rfl rfl ?_
    refine hf_iload_n dX12_lies_1 rfl rfl ?_
    refine hf_icmp_lt (tgt := 14) dX12_lies_2 (by decide) (fun hc => ?_) (fun hc => ?_)
    · replace h := h.1 hc
      refine hf_iconst (v := 0) dX12_lies_14 (by decide) ?_
      refine hf_ireturn dX12_lies_15 rfl (by decide) ?_
      show hf_G X Y_X12_isWord (d + 1) _ _ 15 [some (.ref 156), some (.int x2)] [.int 0] (t, T, I, L, P) _
      refine hf_ireturn dX12_isWord_15 rfl (by decide) ?_
      show hf_G X Y_X12_settingOf (d + 2) _ _ 146 [some (.ref 156), some (.int x1), some (.int x2)] [.int 0] (t, T, I, L, P) _
      refine hf_if_eq (tgt := 158) dX12_settingOf_146 (by decide) (fun _ => ?_) (fun hc => absurd (show (0 : Int32) = (0 : Int32) by decide) hc)
      refine hf_iconst (v := (-1)) dX12_settingOf_158 (by decide) ?_
      refine hf_ireturn dX12_settingOf_159 rfl rfl ?_
      exact h
    · replace h := h.2 hc
      refine hf_iload_n dX12_lies_5 rfl rfl ?_
      refine hf_iload_n dX12_lies_6 rfl rfl ?_
      refine hf_icmp_gt (tgt := 14) dX12_lies_7 (by decide) (fun hc => ?_) (fun hc => ?_)
      · replace h := h.1 hc
        refine hf_iconst (v := 0) dX12_lies_14 (by decide) ?_
        refine hf_ireturn dX12_lies_15 rfl (by decide) ?_
        show hf_G X Y_X12_isWord (d + 1) _ _ 15 [some (.ref 156), some (.int x2)] [.int 0] (t, T, I, L, P) _
        refine hf_ireturn dX12_isWord_15 rfl (by decide) ?_
        show hf_G X Y_X12_settingOf (d + 2) _ _ 146 [some (.ref 156), some (.int x1), some (.int x2)] [.int 0] (t, T, I, L, P) _
        refine hf_if_eq (tgt := 158) dX12_settingOf_146 (by decide) (fun _ => ?_) (fun hc => absurd (show (0 : Int32) = (0 : Int32) by decide) hc)
        refine hf_iconst (v := (-1)) dX12_settingOf_158 (by decide) ?_
        refine hf_ireturn dX12_settingOf_159 rfl rfl ?_
        exact h
      · replace h := h.2 hc
        refine hf_iconst (v := 1) dX12_lies_10 (by decide) ?_
        refine hf_goto (tgt := 15) dX12_lies_11 (by decide) ?_
        refine hf_ireturn dX12_lies_15 rfl (by decide) ?_
        show hf_G X Y_X12_isWord (d + 1) _ _ 15 [some (.ref 156), some (.int x2)] [.int 1] (t, T, I, L, P) _
        refine hf_ireturn dX12_isWord_15 rfl (by decide) ?_
        show hf_G X Y_X12_settingOf (d + 2) _ _ 146 [some (.ref 156), some (.int x1), some (.int x2)] [.int 1] (t, T, I, L, P) _
        refine hf_if_eq (tgt := 158) dX12_settingOf_146 (by decide) (fun hc => absurd (show (1 : Int32) = (0 : Int32) from hc) (by decide)) (fun _ => ?_)
        refine hf_aload_n dX12_settingOf_149 rfl rfl ?_
        refine hf_iload_n dX12_settingOf_150 rfl rfl ?_
        refine hf_iconst (v := 0) dX12_settingOf_151 (by decide) ?_
        refine hf_callV (c := 12) (as := [.int x2, .int 0]) ok_X12_fact dX12_settingOf_152 hw1189 hw1190 hw1606 (hs.2.1 156 _ rfl) (by decide) (hf_lin hs 156 rfl) rfl (Nat.le_of_ble_eq_true rfl) rfl (Nat.le_of_ble_eq_true rfl) (Nat.zero_le _) (Nat.zero_le _) ?_
        show hf_G X Y_X12_fact (d + 1) _ _ 0 [some (.ref 156), some (.int x2), some (.int 0)] [] (t, T, I, L, P) _
        refine hf_aload_n dX12_fact_0 rfl rfl ?_
        refine hf_getr (b := 158) (c := 12) (j := 2) dX12_fact_1 (hs.2.1 156 _ rfl) (hf_lin hs 156 rfl) (by decide) (by decide) hw1038 rfl (hs.2.2 156 2 _ rfl) ?_
        refine hf_bipush (v := 53) dX12_fact_4 (by decide) ?_
        refine hf_bipush (v := 13) dX12_fact_6 (by decide) ?_
        refine hf_iload_n dX12_fact_8 rfl rfl ?_
        refine hf_imul dX12_fact_9 ?_
        refine hf_iadd dX12_fact_10 ?_
        refine hf_iload_n dX12_fact_11 rfl rfl ?_
        refine hf_iadd dX12_fact_12 ?_
        refine hf_iald dX12_fact_13 (hs.2.1 158 _ rfl) (hf_lin hs 158 rfl) h.1 ?_
        replace h := h.2
        refine hf_ireturn dX12_fact_14 rfl rfl ?_
        show hf_G X Y_X12_settingOf (d + 2) _ _ 155 [some (.ref 156), some (.int x1), some (.int x2)] [.int (I 158 ((((53 + (13 * x2)) + 0)).toNatClampNeg))] (t, T, I, L, P) _
        refine hf_goto (tgt := 159) dX12_settingOf_155 (by decide) ?_
        refine hf_ireturn dX12_settingOf_159 rfl rfl ?_
        exact h
  · match j, hj with
    | 0, _ =>
      have hx : x1 = 13 := hf_swi hq (by decide)
      refine hf_tableIn (off := 71) (tgt := 72) dX12_settingOf_1 (by rw [hx]; decide) (by rw [hx]; decide) (by rw [hx]; rfl) (by decide) ?_
      replace h := h.1 hx
      refine hf_aload_n dX12_settingOf_72 rfl rfl ?_
      refine hf_getr (b := 158) (c := 12) (j := 2) dX12_settingOf_73 (hs.2.1 156 _ rfl) (hf_lin hs 156 rfl) (by decide) (by decide) hw1038 rfl (hs.2.2 156 2 _ rfl) ?_
      refine hf_bipush (v := 25) dX12_settingOf_76 (by decide) ?_
      refine hf_iald_k (j := 25) (by decide) dX12_settingOf_78 (hs.2.1 158 _ rfl) (hf_lin hs 158 rfl) (hf_vin (by decide)) ?_
      refine hf_ireturn dX12_settingOf_79 rfl rfl ?_
      exact h
    | 1, _ =>
      have hx : x1 = 14 := hf_swi hq (by decide)
      refine hf_tableIn (off := 140) (tgt := 141) dX12_settingOf_1 (by rw [hx]; decide) (by rw [hx]; decide) (by rw [hx]; rfl) (by decide) ?_
      replace h := h.2.1 hx
      refine hf_aload_n dX12_settingOf_141 rfl rfl ?_
      refine hf_iload_n dX12_settingOf_142 rfl rfl ?_
      refine hf_callV (c := 12) (as := [.int x2]) ok_X12_isWord dX12_settingOf_143 hw1196 hw1197 hw1607 (hs.2.1 156 _ rfl) (by decide) (hf_lin hs 156 rfl) rfl (Nat.le_of_ble_eq_true rfl) rfl (Nat.le_of_ble_eq_true rfl) (Nat.zero_le _) (Nat.zero_le _) ?_
      show hf_G X Y_X12_isWord (d + 1) _ _ 0 [some (.ref 156), some (.int x2)] [] (t, T, I, L, P) _
      refine hf_iload_n dX12_isWord_0 rfl rfl ?_
      refine hf_iconst (v := 0) dX12_isWord_1 (by decide) ?_
      refine hf_aload_n dX12_isWord_2 rfl rfl ?_
      refine hf_getr (b := 158) (c := 12) (j := 2) dX12_isWord_3 (hs.2.1 156 _ rfl) (hf_lin hs 156 rfl) (by decide) (by decide) hw1038 rfl (hs.2.2 156 2 _ rfl) ?_
      refine hf_sipush (v := 316) dX12_isWord_6 (by decide) ?_
      refine hf_iald_k (j := 316) (by decide) dX12_isWord_9 (hs.2.1 158 _ rfl) (hf_lin hs 158 rfl) (hf_vin (by decide)) ?_
      refine hf_iconst (v := 1) dX12_isWord_10 (by decide) ?_
      refine hf_isub dX12_isWord_11 ?_
      refine hf_callS (as := [.int x2, .int 0, .int ((I 158 316) - 1)]) ok_X12_lies dX12_isWord_12 hw1143 hw1144 rfl (Nat.le_of_ble_eq_true rfl) rfl (Nat.le_of_ble_eq_true rfl) (Nat.zero_le _) (Nat.zero_le _) ?_
      show hf_G X Y_X12_lies d _ _ 0 [some (.int x2), some (.int 0), some (.int ((I 158 316) - 1))] [] (t, T, I, L, P) _
      refine hf_iload_n dX12_lies_0 rfl rfl ?_
      refine hf_iload_n dX12_lies_1 rfl rfl ?_
      refine hf_icmp_lt (tgt := 14) dX12_lies_2 (by decide) (fun hc => ?_) (fun hc => ?_)
      · replace h := h.1 hc
        refine hf_iconst (v := 0) dX12_lies_14 (by decide) ?_
        refine hf_ireturn dX12_lies_15 rfl (by decide) ?_
        show hf_G X Y_X12_isWord (d + 1) _ _ 15 [some (.ref 156), some (.int x2)] [.int 0] (t, T, I, L, P) _
        refine hf_ireturn dX12_isWord_15 rfl (by decide) ?_
        show hf_G X Y_X12_settingOf (d + 2) _ _ 146 [some (.ref 156), some (.int x1), some (.int x2)] [.int 0] (t, T, I, L, P) _
        refine hf_if_eq (tgt := 158) dX12_settingOf_146 (by decide) (fun _ => ?_) (fun hc => absurd (show (0 : Int32) = (0 : Int32) by decide) hc)
        refine hf_iconst (v := (-1)) dX12_settingOf_158 (by decide) ?_
        refine hf_ireturn dX12_settingOf_159 rfl rfl ?_
        exact h
      · replace h := h.2 hc
        refine hf_iload_n dX12_lies_5 rfl rfl ?_
        refine hf_iload_n dX12_lies_6 rfl rfl ?_
        refine hf_icmp_gt (tgt := 14) dX12_lies_7 (by decide) (fun hc => ?_) (fun hc => ?_)
        · replace h := h.1 hc
          refine hf_iconst (v := 0) dX12_lies_14 (by decide) ?_
          refine hf_ireturn dX12_lies_15 rfl (by decide) ?_
          show hf_G X Y_X12_isWord (d + 1) _ _ 15 [some (.ref 156), some (.int x2)] [.int 0] (t, T, I, L, P) _
          refine hf_ireturn dX12_isWord_15 rfl (by decide) ?_
          show hf_G X Y_X12_settingOf (d + 2) _ _ 146 [some (.ref 156), some (.int x1), some (.int x2)] [.int 0] (t, T, I, L, P) _
          refine hf_if_eq (tgt := 158) dX12_settingOf_146 (by decide) (fun _ => ?_) (fun hc => absurd (show (0 : Int32) = (0 : Int32) by decide) hc)
          refine hf_iconst (v := (-1)) dX12_settingOf_158 (by decide) ?_
          refine hf_ireturn dX12_settingOf_159 rfl rfl ?_
          exact h
        · replace h := h.2 hc
          refine hf_iconst (v := 1) dX12_lies_10 (by decide) ?_
          refine hf_goto (tgt := 15) dX12_lies_11 (by decide) ?_
          refine hf_ireturn dX12_lies_15 rfl (by decide) ?_
          show hf_G X Y_X12_isWord (d + 1) _ _ 15 [some (.ref 156), some (.int x2)] [.int 1] (t, T, I, L, P) _
          refine hf_ireturn dX12_isWord_15 rfl (by decide) ?_
          show hf_G X Y_X12_settingOf (d + 2) _ _ 146 [some (.ref 156), some (.int x1), some (.int x2)] [.int 1] (t, T, I, L, P) _
          refine hf_if_eq (tgt := 158) dX12_settingOf_146 (by decide) (fun hc => absurd (show (1 : Int32) = (0 : Int32) from hc) (by decide)) (fun _ => ?_)
          refine hf_aload_n dX12_settingOf_149 rfl rfl ?_
          refine hf_iload_n dX12_settingOf_150 rfl rfl ?_
          refine hf_iconst (v := 0) dX12_settingOf_151 (by decide) ?_
          refine hf_callV (c := 12) (as := [.int x2, .int 0]) ok_X12_fact dX12_settingOf_152 hw1189 hw1190 hw1606 (hs.2.1 156 _ rfl) (by decide) (hf_lin hs 156 rfl) rfl (Nat.le_of_ble_eq_true rfl) rfl (Nat.le_of_ble_eq_true rfl) (Nat.zero_le _) (Nat.zero_le _) ?_
          show hf_G X Y_X12_fact (d + 1) _ _ 0 [some (.ref 156), some (.int x2), some (.int 0)] [] (t, T, I, L, P) _
          refine hf_aload_n dX12_fact_0 rfl rfl ?_
          refine hf_getr (b := 158) (c := 12) (j := 2) dX12_fact_1 (hs.2.1 156 _ rfl) (hf_lin hs 156 rfl) (by decide) (by decide) hw1038 rfl (hs.2.2 156 2 _ rfl) ?_
          refine hf_bipush (v := 53) dX12_fact_4 (by decide) ?_
          refine hf_bipush (v := 13) dX12_fact_6 (by decide) ?_
          refine hf_iload_n dX12_fact_8 rfl rfl ?_
          refine hf_imul dX12_fact_9 ?_
          refine hf_iadd dX12_fact_10 ?_
          refine hf_iload_n dX12_fact_11 rfl rfl ?_
          refine hf_iadd dX12_fact_12 ?_
          refine hf_iald dX12_fact_13 (hs.2.1 158 _ rfl) (hf_lin hs 158 rfl) h.1 ?_
          replace h := h.2
          refine hf_ireturn dX12_fact_14 rfl rfl ?_
          show hf_G X Y_X12_settingOf (d + 2) _ _ 155 [some (.ref 156), some (.int x1), some (.int x2)] [.int (I 158 ((((53 + (13 * x2)) + 0)).toNatClampNeg))] (t, T, I, L, P) _
          refine hf_goto (tgt := 159) dX12_settingOf_155 (by decide) ?_
          refine hf_ireturn dX12_settingOf_159 rfl rfl ?_
          exact h
    | 2, _ =>
      have hx : x1 = 15 := hf_swi hq (by decide)
      refine hf_tableIn (off := 140) (tgt := 141) dX12_settingOf_1 (by rw [hx]; decide) (by rw [hx]; decide) (by rw [hx]; rfl) (by decide) ?_
      replace h := h.2.2.1 hx
      refine hf_aload_n dX12_settingOf_141 rfl rfl ?_
      refine hf_iload_n dX12_settingOf_142 rfl rfl ?_
      refine hf_callV (c := 12) (as := [.int x2]) ok_X12_isWord dX12_settingOf_143 hw1196 hw1197 hw1607 (hs.2.1 156 _ rfl) (by decide) (hf_lin hs 156 rfl) rfl (Nat.le_of_ble_eq_true rfl) rfl (Nat.le_of_ble_eq_true rfl) (Nat.zero_le _) (Nat.zero_le _) ?_
      show hf_G X Y_X12_isWord (d + 1) _ _ 0 [some (.ref 156), some (.int x2)] [] (t, T, I, L, P) _
      refine hf_iload_n dX12_isWord_0 rfl rfl ?_
      refine hf_iconst (v := 0) dX12_isWord_1 (by decide) ?_
      refine hf_aload_n dX12_isWord_2 rfl rfl ?_
      refine hf_getr (b := 158) (c := 12) (j := 2) dX12_isWord_3 (hs.2.1 156 _ rfl) (hf_lin hs 156 rfl) (by decide) (by decide) hw1038 rfl (hs.2.2 156 2 _ rfl) ?_
      refine hf_sipush (v := 316) dX12_isWord_6 (by decide) ?_
      refine hf_iald_k (j := 316) (by decide) dX12_isWord_9 (hs.2.1 158 _ rfl) (hf_lin hs 158 rfl) (hf_vin (by decide)) ?_
      refine hf_iconst (v := 1) dX12_isWord_10 (by decide) ?_
      refine hf_isub dX12_isWord_11 ?_
      refine hf_callS (as := [.int x2, .int 0, .int ((I 158 316) - 1)]) ok_X12_lies dX12_isWord_12 hw1143 hw1144 rfl (Nat.le_of_ble_eq_true rfl) rfl (Nat.le_of_ble_eq_true rfl) (Nat.zero_le _) (Nat.zero_le _) ?_
      show hf_G X Y_X12_lies d _ _ 0 [some (.int x2), some (.int 0), some (.int ((I 158 316) - 1))] [] (t, T, I, L, P) _
      refine hf_iload_n dX12_lies_0 rfl rfl ?_
      refine hf_iload_n dX12_lies_1 rfl rfl ?_
      refine hf_icmp_lt (tgt := 14) dX12_lies_2 (by decide) (fun hc => ?_) (fun hc => ?_)
      · replace h := h.1 hc
        refine hf_iconst (v := 0) dX12_lies_14 (by decide) ?_
        refine hf_ireturn dX12_lies_15 rfl (by decide) ?_
        show hf_G X Y_X12_isWord (d + 1) _ _ 15 [some (.ref 156), some (.int x2)] [.int 0] (t, T, I, L, P) _
        refine hf_ireturn dX12_isWord_15 rfl (by decide) ?_
        show hf_G X Y_X12_settingOf (d + 2) _ _ 146 [some (.ref 156), some (.int x1), some (.int x2)] [.int 0] (t, T, I, L, P) _
        refine hf_if_eq (tgt := 158) dX12_settingOf_146 (by decide) (fun _ => ?_) (fun hc => absurd (show (0 : Int32) = (0 : Int32) by decide) hc)
        refine hf_iconst (v := (-1)) dX12_settingOf_158 (by decide) ?_
        refine hf_ireturn dX12_settingOf_159 rfl rfl ?_
        exact h
      · replace h := h.2 hc
        refine hf_iload_n dX12_lies_5 rfl rfl ?_
        refine hf_iload_n dX12_lies_6 rfl rfl ?_
        refine hf_icmp_gt (tgt := 14) dX12_lies_7 (by decide) (fun hc => ?_) (fun hc => ?_)
        · replace h := h.1 hc
          refine hf_iconst (v := 0) dX12_lies_14 (by decide) ?_
          refine hf_ireturn dX12_lies_15 rfl (by decide) ?_
          show hf_G X Y_X12_isWord (d + 1) _ _ 15 [some (.ref 156), some (.int x2)] [.int 0] (t, T, I, L, P) _
          refine hf_ireturn dX12_isWord_15 rfl (by decide) ?_
          show hf_G X Y_X12_settingOf (d + 2) _ _ 146 [some (.ref 156), some (.int x1), some (.int x2)] [.int 0] (t, T, I, L, P) _
          refine hf_if_eq (tgt := 158) dX12_settingOf_146 (by decide) (fun _ => ?_) (fun hc => absurd (show (0 : Int32) = (0 : Int32) by decide) hc)
          refine hf_iconst (v := (-1)) dX12_settingOf_158 (by decide) ?_
          refine hf_ireturn dX12_settingOf_159 rfl rfl ?_
          exact h
        · replace h := h.2 hc
          refine hf_iconst (v := 1) dX12_lies_10 (by decide) ?_
          refine hf_goto (tgt := 15) dX12_lies_11 (by decide) ?_
          refine hf_ireturn dX12_lies_15 rfl (by decide) ?_
          show hf_G X Y_X12_isWord (d + 1) _ _ 15 [some (.ref 156), some (.int x2)] [.int 1] (t, T, I, L, P) _
          refine hf_ireturn dX12_isWord_15 rfl (by decide) ?_
          show hf_G X Y_X12_settingOf (d + 2) _ _ 146 [some (.ref 156), some (.int x1), some (.int x2)] [.int 1] (t, T, I, L, P) _
          refine hf_if_eq (tgt := 158) dX12_settingOf_146 (by decide) (fun hc => absurd (show (1 : Int32) = (0 : Int32) from hc) (by decide)) (fun _ => ?_)
          refine hf_aload_n dX12_settingOf_149 rfl rfl ?_
          refine hf_iload_n dX12_settingOf_150 rfl rfl ?_
          refine hf_iconst (v := 0) dX12_settingOf_151 (by decide) ?_
          refine hf_callV (c := 12) (as := [.int x2, .int 0]) ok_X12_fact dX12_settingOf_152 hw1189 hw1190 hw1606 (hs.2.1 156 _ rfl) (by decide) (hf_lin hs 156 rfl) rfl (Nat.le_of_ble_eq_true rfl) rfl (Nat.le_of_ble_eq_true rfl) (Nat.zero_le _) (Nat.zero_le _) ?_
          show hf_G X Y_X12_fact (d + 1) _ _ 0 [some (.ref 156), some (.int x2), some (.int 0)] [] (t, T, I, L, P) _
          refine hf_aload_n dX12_fact_0 rfl rfl ?_
          refine hf_getr (b := 158) (c := 12) (j := 2) dX12_fact_1 (hs.2.1 156 _ rfl) (hf_lin hs 156 rfl) (by decide) (by decide) hw1038 rfl (hs.2.2 156 2 _ rfl) ?_
          refine hf_bipush (v := 53) dX12_fact_4 (by decide) ?_
          refine hf_bipush (v := 13) dX12_fact_6 (by decide) ?_
          refine hf_iload_n dX12_fact_8 rfl rfl ?_
          refine hf_imul dX12_fact_9 ?_
          refine hf_iadd dX12_fact_10 ?_
          refine hf_iload_n dX12_fact_11 rfl rfl ?_
          refine hf_iadd dX12_fact_12 ?_
          refine hf_iald dX12_fact_13 (hs.2.1 158 _ rfl) (hf_lin hs 158 rfl) h.1 ?_
          replace h := h.2
          refine hf_ireturn dX12_fact_14 rfl rfl ?_
          show hf_G X Y_X12_settingOf (d + 2) _ _ 155 [some (.ref 156), some (.int x1), some (.int x2)] [.int (I 158 ((((53 + (13 * x2)) + 0)).toNatClampNeg))] (t, T, I, L, P) _
          refine hf_goto (tgt := 159) dX12_settingOf_155 (by decide) ?_
          refine hf_ireturn dX12_settingOf_159 rfl rfl ?_
          exact h
    | 3, _ =>
      have hx : x1 = 16 := hf_swi hq (by decide)
      refine hf_tableIn (off := 140) (tgt := 141) dX12_settingOf_1 (by rw [hx]; decide) (by rw [hx]; decide) (by rw [hx]; rfl) (by decide) ?_
      replace h := h.2.2.2.1 hx
      refine hf_aload_n dX12_settingOf_141 rfl rfl ?_
      refine hf_iload_n dX12_settingOf_142 rfl rfl ?_
      refine hf_callV (c := 12) (as := [.int x2]) ok_X12_isWord dX12_settingOf_143 hw1196 hw1197 hw1607 (hs.2.1 156 _ rfl) (by decide) (hf_lin hs 156 rfl) rfl (Nat.le_of_ble_eq_true rfl) rfl (Nat.le_of_ble_eq_true rfl) (Nat.zero_le _) (Nat.zero_le _) ?_
      show hf_G X Y_X12_isWord (d + 1) _ _ 0 [some (.ref 156), some (.int x2)] [] (t, T, I, L, P) _
      refine hf_iload_n dX12_isWord_0 rfl rfl ?_
      refine hf_iconst (v := 0) dX12_isWord_1 (by decide) ?_
      refine hf_aload_n dX12_isWord_2 rfl rfl ?_
      refine hf_getr (b := 158) (c := 12) (j := 2) dX12_isWord_3 (hs.2.1 156 _ rfl) (hf_lin hs 156 rfl) (by decide) (by decide) hw1038 rfl (hs.2.2 156 2 _ rfl) ?_
      refine hf_sipush (v := 316) dX12_isWord_6 (by decide) ?_
      refine hf_iald_k (j := 316) (by decide) dX12_isWord_9 (hs.2.1 158 _ rfl) (hf_lin hs 158 rfl) (hf_vin (by decide)) ?_
      refine hf_iconst (v := 1) dX12_isWord_10 (by decide) ?_
      refine hf_isub dX12_isWord_11 ?_
      refine hf_callS (as := [.int x2, .int 0, .int ((I 158 316) - 1)]) ok_X12_lies dX12_isWord_12 hw1143 hw1144 rfl (Nat.le_of_ble_eq_true rfl) rfl (Nat.le_of_ble_eq_true rfl) (Nat.zero_le _) (Nat.zero_le _) ?_
      show hf_G X Y_X12_lies d _ _ 0 [some (.int x2), some (.int 0), some (.int ((I 158 316) - 1))] [] (t, T, I, L, P) _
      refine hf_iload_n dX12_lies_0 rfl rfl ?_
      refine hf_iload_n dX12_lies_1 rfl rfl ?_
      refine hf_icmp_lt (tgt := 14) dX12_lies_2 (by decide) (fun hc => ?_) (fun hc => ?_)
      · replace h := h.1 hc
        refine hf_iconst (v := 0) dX12_lies_14 (by decide) ?_
        refine hf_ireturn dX12_lies_15 rfl (by decide) ?_
        show hf_G X Y_X12_isWord (d + 1) _ _ 15 [some (.ref 156), some (.int x2)] [.int 0] (t, T, I, L, P) _
        refine hf_ireturn dX12_isWord_15 rfl (by decide) ?_
        show hf_G X Y_X12_settingOf (d + 2) _ _ 146 [some (.ref 156), some (.int x1), some (.int x2)] [.int 0] (t, T, I, L, P) _
        refine hf_if_eq (tgt := 158) dX12_settingOf_146 (by decide) (fun _ => ?_) (fun hc => absurd (show (0 : Int32) = (0 : Int32) by decide) hc)
        refine hf_iconst (v := (-1)) dX12_settingOf_158 (by decide) ?_
        refine hf_ireturn dX12_settingOf_159 rfl rfl ?_
        exact h
      · replace h := h.2 hc
        refine hf_iload_n dX12_lies_5 rfl rfl ?_
        refine hf_iload_n dX12_lies_6 rfl rfl ?_
        refine hf_icmp_gt (tgt := 14) dX12_lies_7 (by decide) (fun hc => ?_) (fun hc => ?_)
        · replace h := h.1 hc
          refine hf_iconst (v := 0) dX12_lies_14 (by decide) ?_
          refine hf_ireturn dX12_lies_15 rfl (by decide) ?_
          show hf_G X Y_X12_isWord (d + 1) _ _ 15 [some (.ref 156), some (.int x2)] [.int 0] (t, T, I, L, P) _
          refine hf_ireturn dX12_isWord_15 rfl (by decide) ?_
          show hf_G X Y_X12_settingOf (d + 2) _ _ 146 [some (.ref 156), some (.int x1), some (.int x2)] [.int 0] (t, T, I, L, P) _
          refine hf_if_eq (tgt := 158) dX12_settingOf_146 (by decide) (fun _ => ?_) (fun hc => absurd (show (0 : Int32) = (0 : Int32) by decide) hc)
          refine hf_iconst (v := (-1)) dX12_settingOf_158 (by decide) ?_
          refine hf_ireturn dX12_settingOf_159 rfl rfl ?_
          exact h
        · replace h := h.2 hc
          refine hf_iconst (v := 1) dX12_lies_10 (by decide) ?_
          refine hf_goto (tgt := 15) dX12_lies_11 (by decide) ?_
          refine hf_ireturn dX12_lies_15 rfl (by decide) ?_
          show hf_G X Y_X12_isWord (d + 1) _ _ 15 [some (.ref 156), some (.int x2)] [.int 1] (t, T, I, L, P) _
          refine hf_ireturn dX12_isWord_15 rfl (by decide) ?_
          show hf_G X Y_X12_settingOf (d + 2) _ _ 146 [some (.ref 156), some (.int x1), some (.int x2)] [.int 1] (t, T, I, L, P) _
          refine hf_if_eq (tgt := 158) dX12_settingOf_146 (by decide) (fun hc => absurd (show (1 : Int32) = (0 : Int32) from hc) (by decide)) (fun _ => ?_)
          refine hf_aload_n dX12_settingOf_149 rfl rfl ?_
          refine hf_iload_n dX12_settingOf_150 rfl rfl ?_
          refine hf_iconst (v := 0) dX12_settingOf_151 (by decide) ?_
          refine hf_callV (c := 12) (as := [.int x2, .int 0]) ok_X12_fact dX12_settingOf_152 hw1189 hw1190 hw1606 (hs.2.1 156 _ rfl) (by decide) (hf_lin hs 156 rfl) rfl (Nat.le_of_ble_eq_true rfl) rfl (Nat.le_of_ble_eq_true rfl) (Nat.zero_le _) (Nat.zero_le _) ?_
          show hf_G X Y_X12_fact (d + 1) _ _ 0 [some (.ref 156), some (.int x2), some (.int 0)] [] (t, T, I, L, P) _
          refine hf_aload_n dX12_fact_0 rfl rfl ?_
          refine hf_getr (b := 158) (c := 12) (j := 2) dX12_fact_1 (hs.2.1 156 _ rfl) (hf_lin hs 156 rfl) (by decide) (by decide) hw1038 rfl (hs.2.2 156 2 _ rfl) ?_
          refine hf_bipush (v := 53) dX12_fact_4 (by decide) ?_
          refine hf_bipush (v := 13) dX12_fact_6 (by decide) ?_
          refine hf_iload_n dX12_fact_8 rfl rfl ?_
          refine hf_imul dX12_fact_9 ?_
          refine hf_iadd dX12_fact_10 ?_
          refine hf_iload_n dX12_fact_11 rfl rfl ?_
          refine hf_iadd dX12_fact_12 ?_
          refine hf_iald dX12_fact_13 (hs.2.1 158 _ rfl) (hf_lin hs 158 rfl) h.1 ?_
          replace h := h.2
          refine hf_ireturn dX12_fact_14 rfl rfl ?_
          show hf_G X Y_X12_settingOf (d + 2) _ _ 155 [some (.ref 156), some (.int x1), some (.int x2)] [.int (I 158 ((((53 + (13 * x2)) + 0)).toNatClampNeg))] (t, T, I, L, P) _
          refine hf_goto (tgt := 159) dX12_settingOf_155 (by decide) ?_
          refine hf_ireturn dX12_settingOf_159 rfl rfl ?_
          exact h
    | 4, _ =>
      have hx : x1 = 17 := hf_swi hq (by decide)
      refine hf_tableIn (off := 140) (tgt := 141) dX12_settingOf_1 (by rw [hx]; decide) (by rw [hx]; decide) (by rw [hx]; rfl) (by decide) ?_
      replace h := h.2.2.2.2.1 hx
      refine hf_aload_n dX12_settingOf_141 rfl rfl ?_
      refine hf_iload_n dX12_settingOf_142 rfl rfl ?_
      refine hf_callV (c := 12) (as := [.int x2]) ok_X12_isWord dX12_settingOf_143 hw1196 hw1197 hw1607 (hs.2.1 156 _ rfl) (by decide) (hf_lin hs 156 rfl) rfl (Nat.le_of_ble_eq_true rfl) rfl (Nat.le_of_ble_eq_true rfl) (Nat.zero_le _) (Nat.zero_le _) ?_
      show hf_G X Y_X12_isWord (d + 1) _ _ 0 [some (.ref 156), some (.int x2)] [] (t, T, I, L, P) _
      refine hf_iload_n dX12_isWord_0 rfl rfl ?_
      refine hf_iconst (v := 0) dX12_isWord_1 (by decide) ?_
      refine hf_aload_n dX12_isWord_2 rfl rfl ?_
      refine hf_getr (b := 158) (c := 12) (j := 2) dX12_isWord_3 (hs.2.1 156 _ rfl) (hf_lin hs 156 rfl) (by decide) (by decide) hw1038 rfl (hs.2.2 156 2 _ rfl) ?_
      refine hf_sipush (v := 316) dX12_isWord_6 (by decide) ?_
      refine hf_iald_k (j := 316) (by decide) dX12_isWord_9 (hs.2.1 158 _ rfl) (hf_lin hs 158 rfl) (hf_vin (by decide)) ?_
      refine hf_iconst (v := 1) dX12_isWord_10 (by decide) ?_
      refine hf_isub dX12_isWord_11 ?_
      refine hf_callS (as := [.int x2, .int 0, .int ((I 158 316) - 1)]) ok_X12_lies dX12_isWord_12 hw1143 hw1144 rfl (Nat.le_of_ble_eq_true rfl) rfl (Nat.le_of_ble_eq_true rfl) (Nat.zero_le _) (Nat.zero_le _) ?_
      show hf_G X Y_X12_lies d _ _ 0 [some (.int x2), some (.int 0), some (.int ((I 158 316) - 1))] [] (t, T, I, L, P) _
      refine hf_iload_n dX12_lies_0 rfl rfl ?_
      refine hf_iload_n dX12_lies_1 rfl rfl ?_
      refine hf_icmp_lt (tgt := 14) dX12_lies_2 (by decide) (fun hc => ?_) (fun hc => ?_)
      · replace h := h.1 hc
        refine hf_iconst (v := 0) dX12_lies_14 (by decide) ?_
        refine hf_ireturn dX12_lies_15 rfl (by decide) ?_
        show hf_G X Y_X12_isWord (d + 1) _ _ 15 [some (.ref 156), some (.int x2)] [.int 0] (t, T, I, L, P) _
        refine hf_ireturn dX12_isWord_15 rfl (by decide) ?_
        show hf_G X Y_X12_settingOf (d + 2) _ _ 146 [some (.ref 156), some (.int x1), some (.int x2)] [.int 0] (t, T, I, L, P) _
        refine hf_if_eq (tgt := 158) dX12_settingOf_146 (by decide) (fun _ => ?_) (fun hc => absurd (show (0 : Int32) = (0 : Int32) by decide) hc)
        refine hf_iconst (v := (-1)) dX12_settingOf_158 (by decide) ?_
        refine hf_ireturn dX12_settingOf_159 rfl rfl ?_
        exact h
      · replace h := h.2 hc
        refine hf_iload_n dX12_lies_5 rfl rfl ?_
        refine hf_iload_n dX12_lies_6 rfl rfl ?_
        refine hf_icmp_gt (tgt := 14) dX12_lies_7 (by decide) (fun hc => ?_) (fun hc => ?_)
        · replace h := h.1 hc
          refine hf_iconst (v := 0) dX12_lies_14 (by decide) ?_
          refine hf_ireturn dX12_lies_15 rfl (by decide) ?_
          show hf_G X Y_X12_isWord (d + 1) _ _ 15 [some (.ref 156), some (.int x2)] [.int 0] (t, T, I, L, P) _
          refine hf_ireturn dX12_isWord_15 rfl (by decide) ?_
          show hf_G X Y_X12_settingOf (d + 2) _ _ 146 [some (.ref 156), some (.int x1), some (.int x2)] [.int 0] (t, T, I, L, P) _
          refine hf_if_eq (tgt := 158) dX12_settingOf_146 (by decide) (fun _ => ?_) (fun hc => absurd (show (0 : Int32) = (0 : Int32) by decide) hc)
          refine hf_iconst (v := (-1)) dX12_settingOf_158 (by decide) ?_
          refine hf_ireturn dX12_settingOf_159 rfl rfl ?_
          exact h
        · replace h := h.2 hc
          refine hf_iconst (v := 1) dX12_lies_10 (by decide) ?_
          refine hf_goto (tgt := 15) dX12_lies_11 (by decide) ?_
          refine hf_ireturn dX12_lies_15 rfl (by decide) ?_
          show hf_G X Y_X12_isWord (d + 1) _ _ 15 [some (.ref 156), some (.int x2)] [.int 1] (t, T, I, L, P) _
          refine hf_ireturn dX12_isWord_15 rfl (by decide) ?_
          show hf_G X Y_X12_settingOf (d + 2) _ _ 146 [some (.ref 156), some (.int x1), some (.int x2)] [.int 1] (t, T, I, L, P) _
          refine hf_if_eq (tgt := 158) dX12_settingOf_146 (by decide) (fun hc => absurd (show (1 : Int32) = (0 : Int32) from hc) (by decide)) (fun _ => ?_)
          refine hf_aload_n dX12_settingOf_149 rfl rfl ?_
          refine hf_iload_n dX12_settingOf_150 rfl rfl ?_
          refine hf_iconst (v := 0) dX12_settingOf_151 (by decide) ?_
          refine hf_callV (c := 12) (as := [.int x2, .int 0]) ok_X12_fact dX12_settingOf_152 hw1189 hw1190 hw1606 (hs.2.1 156 _ rfl) (by decide) (hf_lin hs 156 rfl) rfl (Nat.le_of_ble_eq_true rfl) rfl (Nat.le_of_ble_eq_true rfl) (Nat.zero_le _) (Nat.zero_le _) ?_
          show hf_G X Y_X12_fact (d + 1) _ _ 0 [some (.ref 156), some (.int x2), some (.int 0)] [] (t, T, I, L, P) _
          refine hf_aload_n dX12_fact_0 rfl rfl ?_
          refine hf_getr (b := 158) (c := 12) (j := 2) dX12_fact_1 (hs.2.1 156 _ rfl) (hf_lin hs 156 rfl) (by decide) (by decide) hw1038 rfl (hs.2.2 156 2 _ rfl) ?_
          refine hf_bipush (v := 53) dX12_fact_4 (by decide) ?_
          refine hf_bipush (v := 13) dX12_fact_6 (by decide) ?_
          refine hf_iload_n dX12_fact_8 rfl rfl ?_
          refine hf_imul dX12_fact_9 ?_
          refine hf_iadd dX12_fact_10 ?_
          refine hf_iload_n dX12_fact_11 rfl rfl ?_
          refine hf_iadd dX12_fact_12 ?_
          refine hf_iald dX12_fact_13 (hs.2.1 158 _ rfl) (hf_lin hs 158 rfl) h.1 ?_
          replace h := h.2
          refine hf_ireturn dX12_fact_14 rfl rfl ?_
          show hf_G X Y_X12_settingOf (d + 2) _ _ 155 [some (.ref 156), some (.int x1), some (.int x2)] [.int (I 158 ((((53 + (13 * x2)) + 0)).toNatClampNeg))] (t, T, I, L, P) _
          refine hf_goto (tgt := 159) dX12_settingOf_155 (by decide) ?_
          refine hf_ireturn dX12_settingOf_159 rfl rfl ?_
          exact h
    | 5, _ =>
      have hx : x1 = 18 := hf_swi hq (by decide)
      refine hf_tableIn (off := 105) (tgt := 106) dX12_settingOf_1 (by rw [hx]; decide) (by rw [hx]; decide) (by rw [hx]; rfl) (by decide) ?_
      replace h := h.2.2.2.2.2.1 hx
      refine hf_aload_n dX12_settingOf_106 rfl rfl ?_
      refine hf_getr (b := 158) (c := 12) (j := 2) dX12_settingOf_107 (hs.2.1 156 _ rfl) (hf_lin hs 156 rfl) (by decide) (by decide) hw1038 rfl (hs.2.2 156 2 _ rfl) ?_
      refine hf_sipush (v := 315) dX12_settingOf_110 (by decide) ?_
      refine hf_iald_k (j := 315) (by decide) dX12_settingOf_113 (hs.2.1 158 _ rfl) (hf_lin hs 158 rfl) (hf_vin (by decide)) ?_
      refine hf_ireturn dX12_settingOf_114 rfl rfl ?_
      exact h
    | 6, _ =>
      have hx : x1 = 19 := hf_swi hq (by decide)
      refine hf_tableIn (off := 140) (tgt := 141) dX12_settingOf_1 (by rw [hx]; decide) (by rw [hx]; decide) (by rw [hx]; rfl) (by decide) ?_
      replace h := h.2.2.2.2.2.2.1 hx
      refine hf_aload_n dX12_settingOf_141 rfl rfl ?_
      refine hf_iload_n dX12_settingOf_142 rfl rfl ?_
      refine hf_callV (c := 12) (as := [.int x2]) ok_X12_isWord dX12_settingOf_143 hw1196 hw1197 hw1607 (hs.2.1 156 _ rfl) (by decide) (hf_lin hs 156 rfl) rfl (Nat.le_of_ble_eq_true rfl) rfl (Nat.le_of_ble_eq_true rfl) (Nat.zero_le _) (Nat.zero_le _) ?_
      show hf_G X Y_X12_isWord (d + 1) _ _ 0 [some (.ref 156), some (.int x2)] [] (t, T, I, L, P) _
      refine hf_iload_n dX12_isWord_0 rfl rfl ?_
      refine hf_iconst (v := 0) dX12_isWord_1 (by decide) ?_
      refine hf_aload_n dX12_isWord_2 rfl rfl ?_
      refine hf_getr (b := 158) (c := 12) (j := 2) dX12_isWord_3 (hs.2.1 156 _ rfl) (hf_lin hs 156 rfl) (by decide) (by decide) hw1038 rfl (hs.2.2 156 2 _ rfl) ?_
      refine hf_sipush (v := 316) dX12_isWord_6 (by decide) ?_
      refine hf_iald_k (j := 316) (by decide) dX12_isWord_9 (hs.2.1 158 _ rfl) (hf_lin hs 158 rfl) (hf_vin (by decide)) ?_
      refine hf_iconst (v := 1) dX12_isWord_10 (by decide) ?_
      refine hf_isub dX12_isWord_11 ?_
      refine hf_callS (as := [.int x2, .int 0, .int ((I 158 316) - 1)]) ok_X12_lies dX12_isWord_12 hw1143 hw1144 rfl (Nat.le_of_ble_eq_true rfl) rfl (Nat.le_of_ble_eq_true rfl) (Nat.zero_le _) (Nat.zero_le _) ?_
      show hf_G X Y_X12_lies d _ _ 0 [some (.int x2), some (.int 0), some (.int ((I 158 316) - 1))] [] (t, T, I, L, P) _
      refine hf_iload_n dX12_lies_0 rfl rfl ?_
      refine hf_iload_n dX12_lies_1 rfl rfl ?_
      refine hf_icmp_lt (tgt := 14) dX12_lies_2 (by decide) (fun hc => ?_) (fun hc => ?_)
      · replace h := h.1 hc
        refine hf_iconst (v := 0) dX12_lies_14 (by decide) ?_
        refine hf_ireturn dX12_lies_15 rfl (by decide) ?_
        show hf_G X Y_X12_isWord (d + 1) _ _ 15 [some (.ref 156), some (.int x2)] [.int 0] (t, T, I, L, P) _
        refine hf_ireturn dX12_isWord_15 rfl (by decide) ?_
        show hf_G X Y_X12_settingOf (d + 2) _ _ 146 [some (.ref 156), some (.int x1), some (.int x2)] [.int 0] (t, T, I, L, P) _
        refine hf_if_eq (tgt := 158) dX12_settingOf_146 (by decide) (fun _ => ?_) (fun hc => absurd (show (0 : Int32) = (0 : Int32) by decide) hc)
        refine hf_iconst (v := (-1)) dX12_settingOf_158 (by decide) ?_
        refine hf_ireturn dX12_settingOf_159 rfl rfl ?_
        exact h
      · replace h := h.2 hc
        refine hf_iload_n dX12_lies_5 rfl rfl ?_
        refine hf_iload_n dX12_lies_6 rfl rfl ?_
        refine hf_icmp_gt (tgt := 14) dX12_lies_7 (by decide) (fun hc => ?_) (fun hc => ?_)
        · replace h := h.1 hc
          refine hf_iconst (v := 0) dX12_lies_14 (by decide) ?_
          refine hf_ireturn dX12_lies_15 rfl (by decide) ?_
          show hf_G X Y_X12_isWord (d + 1) _ _ 15 [some (.ref 156), some (.int x2)] [.int 0] (t, T, I, L, P) _
          refine hf_ireturn dX12_isWord_15 rfl (by decide) ?_
          show hf_G X Y_X12_settingOf (d + 2) _ _ 146 [some (.ref 156), some (.int x1), some (.int x2)] [.int 0] (t, T, I, L, P) _
          refine hf_if_eq (tgt := 158) dX12_settingOf_146 (by decide) (fun _ => ?_) (fun hc => absurd (show (0 : Int32) = (0 : Int32) by decide) hc)
          refine hf_iconst (v := (-1)) dX12_settingOf_158 (by decide) ?_
          refine hf_ireturn dX12_settingOf_159 rfl rfl ?_
          exact h
        · replace h := h.2 hc
          refine hf_iconst (v := 1) dX12_lies_10 (by decide) ?_
          refine hf_goto (tgt := 15) dX12_lies_11 (by decide) ?_
          refine hf_ireturn dX12_lies_15 rfl (by decide) ?_
          show hf_G X Y_X12_isWord (d + 1) _ _ 15 [some (.ref 156), some (.int x2)] [.int 1] (t, T, I, L, P) _
          refine hf_ireturn dX12_isWord_15 rfl (by decide) ?_
          show hf_G X Y_X12_settingOf (d + 2) _ _ 146 [some (.ref 156), some (.int x1), some (.int x2)] [.int 1] (t, T, I, L, P) _
          refine hf_if_eq (tgt := 158) dX12_settingOf_146 (by decide) (fun hc => absurd (show (1 : Int32) = (0 : Int32) from hc) (by decide)) (fun _ => ?_)
          refine hf_aload_n dX12_settingOf_149 rfl rfl ?_
          refine hf_iload_n dX12_settingOf_150 rfl rfl ?_
          refine hf_iconst (v := 0) dX12_settingOf_151 (by decide) ?_
          refine hf_callV (c := 12) (as := [.int x2, .int 0]) ok_X12_fact dX12_settingOf_152 hw1189 hw1190 hw1606 (hs.2.1 156 _ rfl) (by decide) (hf_lin hs 156 rfl) rfl (Nat.le_of_ble_eq_true rfl) rfl (Nat.le_of_ble_eq_true rfl) (Nat.zero_le _) (Nat.zero_le _) ?_
          show hf_G X Y_X12_fact (d + 1) _ _ 0 [some (.ref 156), some (.int x2), some (.int 0)] [] (t, T, I, L, P) _
          refine hf_aload_n dX12_fact_0 rfl rfl ?_
          refine hf_getr (b := 158) (c := 12) (j := 2) dX12_fact_1 (hs.2.1 156 _ rfl) (hf_lin hs 156 rfl) (by decide) (by decide) hw1038 rfl (hs.2.2 156 2 _ rfl) ?_
          refine hf_bipush (v := 53) dX12_fact_4 (by decide) ?_
          refine hf_bipush (v := 13) dX12_fact_6 (by decide) ?_
          refine hf_iload_n dX12_fact_8 rfl rfl ?_
          refine hf_imul dX12_fact_9 ?_
          refine hf_iadd dX12_fact_10 ?_
          refine hf_iload_n dX12_fact_11 rfl rfl ?_
          refine hf_iadd dX12_fact_12 ?_
          refine hf_iald dX12_fact_13 (hs.2.1 158 _ rfl) (hf_lin hs 158 rfl) h.1 ?_
          replace h := h.2
          refine hf_ireturn dX12_fact_14 rfl rfl ?_
          show hf_G X Y_X12_settingOf (d + 2) _ _ 155 [some (.ref 156), some (.int x1), some (.int x2)] [.int (I 158 ((((53 + (13 * x2)) + 0)).toNatClampNeg))] (t, T, I, L, P) _
          refine hf_goto (tgt := 159) dX12_settingOf_155 (by decide) ?_
          refine hf_ireturn dX12_settingOf_159 rfl rfl ?_
          exact h
    | 7, _ =>
      have hx : x1 = 20 := hf_swi hq (by decide)
      refine hf_tableIn (off := 140) (tgt := 141) dX12_settingOf_1 (by rw [hx]; decide) (by rw [hx]; decide) (by rw [hx]; rfl) (by decide) ?_
      replace h := h.2.2.2.2.2.2.2.1 hx
      refine hf_aload_n dX12_settingOf_141 rfl rfl ?_
      refine hf_iload_n dX12_settingOf_142 rfl rfl ?_
      refine hf_callV (c := 12) (as := [.int x2]) ok_X12_isWord dX12_settingOf_143 hw1196 hw1197 hw1607 (hs.2.1 156 _ rfl) (by decide) (hf_lin hs 156 rfl) rfl (Nat.le_of_ble_eq_true rfl) rfl (Nat.le_of_ble_eq_true rfl) (Nat.zero_le _) (Nat.zero_le _) ?_
      show hf_G X Y_X12_isWord (d + 1) _ _ 0 [some (.ref 156), some (.int x2)] [] (t, T, I, L, P) _
      refine hf_iload_n dX12_isWord_0 rfl rfl ?_
      refine hf_iconst (v := 0) dX12_isWord_1 (by decide) ?_
      refine hf_aload_n dX12_isWord_2 rfl rfl ?_
      refine hf_getr (b := 158) (c := 12) (j := 2) dX12_isWord_3 (hs.2.1 156 _ rfl) (hf_lin hs 156 rfl) (by decide) (by decide) hw1038 rfl (hs.2.2 156 2 _ rfl) ?_
      refine hf_sipush (v := 316) dX12_isWord_6 (by decide) ?_
      refine hf_iald_k (j := 316) (by decide) dX12_isWord_9 (hs.2.1 158 _ rfl) (hf_lin hs 158 rfl) (hf_vin (by decide)) ?_
      refine hf_iconst (v := 1) dX12_isWord_10 (by decide) ?_
      refine hf_isub dX12_isWord_11 ?_
      refine hf_callS (as := [.int x2, .int 0, .int ((I 158 316) - 1)]) ok_X12_lies dX12_isWord_12 hw1143 hw1144 rfl (Nat.le_of_ble_eq_true rfl) rfl (Nat.le_of_ble_eq_true rfl) (Nat.zero_le _) (Nat.zero_le _) ?_
      show hf_G X Y_X12_lies d _ _ 0 [some (.int x2), some (.int 0), some (.int ((I 158 316) - 1))] [] (t, T, I, L, P) _
      refine hf_iload_n dX12_lies_0 rfl rfl ?_
      refine hf_iload_n dX12_lies_1 rfl rfl ?_
      refine hf_icmp_lt (tgt := 14) dX12_lies_2 (by decide) (fun hc => ?_) (fun hc => ?_)
      · replace h := h.1 hc
        refine hf_iconst (v := 0) dX12_lies_14 (by decide) ?_
        refine hf_ireturn dX12_lies_15 rfl (by decide) ?_
        show hf_G X Y_X12_isWord (d + 1) _ _ 15 [some (.ref 156), some (.int x2)] [.int 0] (t, T, I, L, P) _
        refine hf_ireturn dX12_isWord_15 rfl (by decide) ?_
        show hf_G X Y_X12_settingOf (d + 2) _ _ 146 [some (.ref 156), some (.int x1), some (.int x2)] [.int 0] (t, T, I, L, P) _
        refine hf_if_eq (tgt := 158) dX12_settingOf_146 (by decide) (fun _ => ?_) (fun hc => absurd (show (0 : Int32) = (0 : Int32) by decide) hc)
        refine hf_iconst (v := (-1)) dX12_settingOf_158 (by decide) ?_
        refine hf_ireturn dX12_settingOf_159 rfl rfl ?_
        exact h
      · replace h := h.2 hc
        refine hf_iload_n dX12_lies_5 rfl rfl ?_
        refine hf_iload_n dX12_lies_6 rfl rfl ?_
        refine hf_icmp_gt (tgt := 14) dX12_lies_7 (by decide) (fun hc => ?_) (fun hc => ?_)
        · replace h := h.1 hc
          refine hf_iconst (v := 0) dX12_lies_14 (by decide) ?_
          refine hf_ireturn dX12_lies_15 rfl (by decide) ?_
          show hf_G X Y_X12_isWord (d + 1) _ _ 15 [some (.ref 156), some (.int x2)] [.int 0] (t, T, I, L, P) _
          refine hf_ireturn dX12_isWord_15 rfl (by decide) ?_
          show hf_G X Y_X12_settingOf (d + 2) _ _ 146 [some (.ref 156), some (.int x1), some (.int x2)] [.int 0] (t, T, I, L, P) _
          refine hf_if_eq (tgt := 158) dX12_settingOf_146 (by decide) (fun _ => ?_) (fun hc => absurd (show (0 : Int32) = (0 : Int32) by decide) hc)
          refine hf_iconst (v := (-1)) dX12_settingOf_158 (by decide) ?_
          refine hf_ireturn dX12_settingOf_159 rfl rfl ?_
          exact h
        · replace h := h.2 hc
          refine hf_iconst (v := 1) dX12_lies_10 (by decide) ?_
          refine hf_goto (tgt := 15) dX12_lies_11 (by decide) ?_
          refine hf_ireturn dX12_lies_15 rfl (by decide) ?_
          show hf_G X Y_X12_isWord (d + 1) _ _ 15 [some (.ref 156), some (.int x2)] [.int 1] (t, T, I, L, P) _
          refine hf_ireturn dX12_isWord_15 rfl (by decide) ?_
          show hf_G X Y_X12_settingOf (d + 2) _ _ 146 [some (.ref 156), some (.int x1), some (.int x2)] [.int 1] (t, T, I, L, P) _
          refine hf_if_eq (tgt := 158) dX12_settingOf_146 (by decide) (fun hc => absurd (show (1 : Int32) = (0 : Int32) from hc) (by decide)) (fun _ => ?_)
          refine hf_aload_n dX12_settingOf_149 rfl rfl ?_
          refine hf_iload_n dX12_settingOf_150 rfl rfl ?_
          refine hf_iconst (v := 0) dX12_settingOf_151 (by decide) ?_
          refine hf_callV (c := 12) (as := [.int x2, .int 0]) ok_X12_fact dX12_settingOf_152 hw1189 hw1190 hw1606 (hs.2.1 156 _ rfl) (by decide) (hf_lin hs 156 rfl) rfl (Nat.le_of_ble_eq_true rfl) rfl (Nat.le_of_ble_eq_true rfl) (Nat.zero_le _) (Nat.zero_le _) ?_
          show hf_G X Y_X12_fact (d + 1) _ _ 0 [some (.ref 156), some (.int x2), some (.int 0)] [] (t, T, I, L, P) _
          refine hf_aload_n dX12_fact_0 rfl rfl ?_
          refine hf_getr (b := 158) (c := 12) (j := 2) dX12_fact_1 (hs.2.1 156 _ rfl) (hf_lin hs 156 rfl) (by decide) (by decide) hw1038 rfl (hs.2.2 156 2 _ rfl) ?_
          refine hf_bipush (v := 53) dX12_fact_4 (by decide) ?_
          refine hf_bipush (v := 13) dX12_fact_6 (by decide) ?_
          refine hf_iload_n dX12_fact_8 rfl rfl ?_
          refine hf_imul dX12_fact_9 ?_
          refine hf_iadd dX12_fact_10 ?_
          refine hf_iload_n dX12_fact_11 rfl rfl ?_
          refine hf_iadd dX12_fact_12 ?_
          refine hf_iald dX12_fact_13 (hs.2.1 158 _ rfl) (hf_lin hs 158 rfl) h.1 ?_
          replace h := h.2
          refine hf_ireturn dX12_fact_14 rfl rfl ?_
          show hf_G X Y_X12_settingOf (d + 2) _ _ 155 [some (.ref 156), some (.int x1), some (.int x2)] [.int (I 158 ((((53 + (13 * x2)) + 0)).toNatClampNeg))] (t, T, I, L, P) _
          refine hf_goto (tgt := 159) dX12_settingOf_155 (by decide) ?_
          refine hf_ireturn dX12_settingOf_159 rfl rfl ?_
          exact h
    | 8, _ =>
      have hx : x1 = 21 := hf_swi hq (by decide)
      refine hf_tableIn (off := 63) (tgt := 64) dX12_settingOf_1 (by rw [hx]; decide) (by rw [hx]; decide) (by rw [hx]; rfl) (by decide) ?_
      replace h := h.2.2.2.2.2.2.2.2.1 hx
      refine hf_aload_n dX12_settingOf_64 rfl rfl ?_
      refine hf_getr (b := 158) (c := 12) (j := 2) dX12_settingOf_65 (hs.2.1 156 _ rfl) (hf_lin hs 156 rfl) (by decide) (by decide) hw1038 rfl (hs.2.2 156 2 _ rfl) ?_
      refine hf_bipush (v := 24) dX12_settingOf_68 (by decide) ?_
      refine hf_iald_k (j := 24) (by decide) dX12_settingOf_70 (hs.2.1 158 _ rfl) (hf_lin hs 158 rfl) (hf_vin (by decide)) ?_
      refine hf_ireturn dX12_settingOf_71 rfl rfl ?_
      exact h
    | 9, _ =>
      have hx : x1 = 22 := hf_swi hq (by decide)
      refine hf_tableIn (off := 79) (tgt := 80) dX12_settingOf_1 (by rw [hx]; decide) (by rw [hx]; decide) (by rw [hx]; rfl) (by decide) ?_
      replace h := h.2.2.2.2.2.2.2.2.2.1 hx
      refine hf_aload_n dX12_settingOf_80 rfl rfl ?_
      refine hf_getr (b := 158) (c := 12) (j := 2) dX12_settingOf_81 (hs.2.1 156 _ rfl) (hf_lin hs 156 rfl) (by decide) (by decide) hw1038 rfl (hs.2.2 156 2 _ rfl) ?_
      refine hf_sipush (v := 313) dX12_settingOf_84 (by decide) ?_
      refine hf_iald_k (j := 313) (by decide) dX12_settingOf_87 (hs.2.1 158 _ rfl) (hf_lin hs 158 rfl) (hf_vin (by decide)) ?_
      refine hf_aload_n dX12_settingOf_88 rfl rfl ?_
      refine hf_aload_n dX12_settingOf_89 rfl rfl ?_
      refine hf_getr (b := 158) (c := 12) (j := 2) dX12_settingOf_90 (hs.2.1 156 _ rfl) (hf_lin hs 156 rfl) (by decide) (by decide) hw1038 rfl (hs.2.2 156 2 _ rfl) ?_
      refine hf_bipush (v := 25) dX12_settingOf_93 (by decide) ?_
      refine hf_iald_k (j := 25) (by decide) dX12_settingOf_95 (hs.2.1 158 _ rfl) (hf_lin hs 158 rfl) (hf_vin (by decide)) ?_
      exact hf_callV (c := 12) (as := [.int (I 158 25)]) ok_X12_broadIn dX12_settingOf_96 hw1235 hw1236 hw1619 (hs.2.1 156 _ rfl) (by decide) (hf_lin hs 156 rfl) rfl (Nat.le_of_ble_eq_true rfl) rfl (Nat.le_of_ble_eq_true rfl) (Nat.zero_le _) (Nat.zero_le _) (hf_mono (fun r M q => hf_drop (l' := [none, none, none]) (by simp [hf_sub]) q) h)
    | 10, _ =>
      have hx : x1 = 23 := hf_swi hq (by decide)
      refine hf_tableIn (off := 100) (tgt := 101) dX12_settingOf_1 (by rw [hx]; decide) (by rw [hx]; decide) (by rw [hx]; rfl) (by decide) ?_
      replace h := h.2.2.2.2.2.2.2.2.2.2.1 hx
      refine hf_aload_n dX12_settingOf_101 rfl rfl ?_
      refine hf_geti (c := 12) (j := 24) dX12_settingOf_102 (hs.2.1 156 _ rfl) (hf_lin hs 156 rfl) (by decide) (by decide) hw1060 (Or.inl rfl) ?_
      refine hf_ireturn dX12_settingOf_105 rfl rfl ?_
      exact h
    | 11, _ =>
      have hx : x1 = 24 := hf_swi hq (by decide)
      refine hf_tableIn (off := 114) (tgt := 115) dX12_settingOf_1 (by rw [hx]; decide) (by rw [hx]; decide) (by rw [hx]; rfl) (by decide) ?_
      replace h := h.2.2.2.2.2.2.2.2.2.2.2.1 hx
      refine hf_aload_n dX12_settingOf_115 rfl rfl ?_
      refine hf_iload_n dX12_settingOf_116 rfl rfl ?_
      refine hf_callV (c := 12) (as := [.int x2]) ok_X12_isWord dX12_settingOf_117 hw1196 hw1197 hw1607 (hs.2.1 156 _ rfl) (by decide) (hf_lin hs 156 rfl) rfl (Nat.le_of_ble_eq_true rfl) rfl (Nat.le_of_ble_eq_true rfl) (Nat.zero_le _) (Nat.zero_le _) ?_
      show hf_G X Y_X12_isWord (d + 1) _ _ 0 [some (.ref 156), some (.int x2)] [] (t, T, I, L, P) _
      refine hf_iload_n dX12_isWord_0 rfl rfl ?_
      refine hf_iconst (v := 0) dX12_isWord_1 (by decide) ?_
      refine hf_aload_n dX12_isWord_2 rfl rfl ?_
      refine hf_getr (b := 158) (c := 12) (j := 2) dX12_isWord_3 (hs.2.1 156 _ rfl) (hf_lin hs 156 rfl) (by decide) (by decide) hw1038 rfl (hs.2.2 156 2 _ rfl) ?_
      refine hf_sipush (v := 316) dX12_isWord_6 (by decide) ?_
      refine hf_iald_k (j := 316) (by decide) dX12_isWord_9 (hs.2.1 158 _ rfl) (hf_lin hs 158 rfl) (hf_vin (by decide)) ?_
      refine hf_iconst (v := 1) dX12_isWord_10 (by decide) ?_
      refine hf_isub dX12_isWord_11 ?_
      refine hf_callS (as := [.int x2, .int 0, .int ((I 158 316) - 1)]) ok_X12_lies dX12_isWord_12 hw1143 hw1144 rfl (Nat.le_of_ble_eq_true rfl) rfl (Nat.le_of_ble_eq_true rfl) (Nat.zero_le _) (Nat.zero_le _) ?_
      show hf_G X Y_X12_lies d _ _ 0 [some (.int x2), some (.int 0), some (.int ((I 158 316) - 1))] [] (t, T, I, L, P) _
      refine hf_iload_n dX12_lies_0 rfl rfl ?_
      refine hf_iload_n dX12_lies_1 rfl rfl ?_
      refine hf_icmp_lt (tgt := 14) dX12_lies_2 (by decide) (fun hc => ?_) (fun hc => ?_)
      · replace h := h.1 hc
        refine hf_iconst (v := 0) dX12_lies_14 (by decide) ?_
        refine hf_ireturn dX12_lies_15 rfl (by decide) ?_
        show hf_G X Y_X12_isWord (d + 1) _ _ 15 [some (.ref 156), some (.int x2)] [.int 0] (t, T, I, L, P) _
        refine hf_ireturn dX12_isWord_15 rfl (by decide) ?_
        show hf_G X Y_X12_settingOf (d + 2) _ _ 120 [some (.ref 156), some (.int x1), some (.int x2)] [.int 0] (t, T, I, L, P) _
        refine hf_if_eq (tgt := 139) dX12_settingOf_120 (by decide) (fun _ => ?_) (fun hc => absurd (show (0 : Int32) = (0 : Int32) by decide) hc)
        refine hf_iconst (v := (-1)) dX12_settingOf_139 (by decide) ?_
        refine hf_ireturn dX12_settingOf_140 rfl rfl ?_
        exact h
      · replace h := h.2 hc
        refine hf_iload_n dX12_lies_5 rfl rfl ?_
        refine hf_iload_n dX12_lies_6 rfl rfl ?_
        refine hf_icmp_gt (tgt := 14) dX12_lies_7 (by decide) (fun hc => ?_) (fun hc => ?_)
        · replace h := h.1 hc
          refine hf_iconst (v := 0) dX12_lies_14 (by decide) ?_
          refine hf_ireturn dX12_lies_15 rfl (by decide) ?_
          show hf_G X Y_X12_isWord (d + 1) _ _ 15 [some (.ref 156), some (.int x2)] [.int 0] (t, T, I, L, P) _
          refine hf_ireturn dX12_isWord_15 rfl (by decide) ?_
          show hf_G X Y_X12_settingOf (d + 2) _ _ 120 [some (.ref 156), some (.int x1), some (.int x2)] [.int 0] (t, T, I, L, P) _
          refine hf_if_eq (tgt := 139) dX12_settingOf_120 (by decide) (fun _ => ?_) (fun hc => absurd (show (0 : Int32) = (0 : Int32) by decide) hc)
          refine hf_iconst (v := (-1)) dX12_settingOf_139 (by decide) ?_
          refine hf_ireturn dX12_settingOf_140 rfl rfl ?_
          exact h
        · replace h := h.2 hc
          refine hf_iconst (v := 1) dX12_lies_10 (by decide) ?_
          refine hf_goto (tgt := 15) dX12_lies_11 (by decide) ?_
          refine hf_ireturn dX12_lies_15 rfl (by decide) ?_
          show hf_G X Y_X12_isWord (d + 1) _ _ 15 [some (.ref 156), some (.int x2)] [.int 1] (t, T, I, L, P) _
          refine hf_ireturn dX12_isWord_15 rfl (by decide) ?_
          show hf_G X Y_X12_settingOf (d + 2) _ _ 120 [some (.ref 156), some (.int x1), some (.int x2)] [.int 1] (t, T, I, L, P) _
          refine hf_if_eq (tgt := 139) dX12_settingOf_120 (by decide) (fun hc => absurd (show (1 : Int32) = (0 : Int32) from hc) (by decide)) (fun _ => ?_)
          refine hf_aload_n dX12_settingOf_123 rfl rfl ?_
          refine hf_iload_n dX12_settingOf_124 rfl rfl ?_
          refine hf_aload_n dX12_settingOf_125 rfl rfl ?_
          refine hf_getr (b := 158) (c := 12) (j := 2) dX12_settingOf_126 (hs.2.1 156 _ rfl) (hf_lin hs 156 rfl) (by decide) (by decide) hw1038 rfl (hs.2.2 156 2 _ rfl) ?_
          refine hf_sipush (v := 315) dX12_settingOf_129 (by decide) ?_
          refine hf_iald_k (j := 315) (by decide) dX12_settingOf_132 (hs.2.1 158 _ rfl) (hf_lin hs 158 rfl) (hf_vin (by decide)) ?_
          exact hf_callV (c := 12) (as := [.int x2, .int (I 158 315)]) ok_X12_broadOf dX12_settingOf_133 hw1199 hw1200 hw1608 (hs.2.1 156 _ rfl) (by decide) (hf_lin hs 156 rfl) rfl (Nat.le_of_ble_eq_true rfl) rfl (Nat.le_of_ble_eq_true rfl) (Nat.zero_le _) (Nat.zero_le _) (hf_mono (fun r M q => hf_drop (l' := [none, none, none]) (by simp [hf_sub]) q) h)
    | j + 12, hj => exact absurd hj (by omega)

set_option maxHeartbeats 4000000 in
theorem w_X12_settingOf_99 {X : hf_X} {d k n t : Nat} {T : hf_T} {I : hf_I} {L : hf_L} {P : hf_P} {Q : Option Value → hf_M → Prop} {s0 : Int32} {s1 : Int32} (hs : hf_Lay t T P) (h : Q (some (.int (s1 - s0))) (t, T, I, L, P)) : hf_G X Y_X12_settingOf d k n 99 [none, none, none] [.int s0, .int s1] (t, T, I, L, P) Q := by
  refine hf_isub dX12_settingOf_99 ?_
  refine hf_ireturn dX12_settingOf_100 rfl rfl ?_
  exact h

set_option maxHeartbeats 4000000 in
theorem w_X12_settingOf_136 {X : hf_X} {d k n t : Nat} {T : hf_T} {I : hf_I} {L : hf_L} {P : hf_P} {Q : Option Value → hf_M → Prop} {s0 : Int32} (hs : hf_Lay t T P) (h : Q (some (.int s0)) (t, T, I, L, P)) : hf_G X Y_X12_settingOf d k n 136 [none, none, none] [.int s0] (t, T, I, L, P) Q := by
  refine hf_goto (tgt := 140) dX12_settingOf_136 (by decide) ?_
  refine hf_ireturn dX12_settingOf_140 rfl rfl ?_
  exact h

set_option maxHeartbeats 4000000 in
theorem w_X12_testOf_0 {X : hf_X} {d k n t : Nat} {T : hf_T} {I : hf_I} {L : hf_L} {P : hf_P} {Q : Option Value → hf_M → Prop} {x1 : Int32} (hs : hf_Lay t T P) (h : hf_G X Y_X12_bothOf d 0 0 0 (hf_en [.ref 156, .int x1] 4) [] (t, T, I, L, P) (fun r M => hf_G X Y_X12_testOf (d + 1) k n 5 [some (.ref 156), some (.int x1), none, none] (r.toList ++ []) M Q)) : hf_G X Y_X12_testOf (d + 1) k n 0 (hf_en [.ref 156, .int x1] 4) [] (t, T, I, L, P) Q := by
  show hf_G X Y_X12_testOf (d + 1) k n 0 [some (.ref 156), some (.int x1), none, none] [] (t, T, I, L, P) Q
  refine hf_aload_n dX12_testOf_0 rfl rfl ?_
  refine hf_iload_n dX12_testOf_1 rfl rfl ?_
  exact hf_callV (c := 12) (as := [.int x1]) ok_X12_bothOf dX12_testOf_2 hw1246 hw1247 hw1622 (hs.2.1 156 _ rfl) (by decide) (hf_lin hs 156 rfl) rfl (Nat.le_of_ble_eq_true rfl) rfl (Nat.le_of_ble_eq_true rfl) (Nat.zero_le _) (Nat.zero_le _) h

set_option maxHeartbeats 4000000 in
theorem w_X12_testOf_5 {X : hf_X} {d k n t : Nat} {T : hf_T} {I : hf_I} {L : hf_L} {P : hf_P} {Q : Option Value → hf_M → Prop} {x1 : Int32} {s0 : Int32} (hs : hf_Lay t T P) (h : hf_G X Y_X12_testOf d k n 6 [some (.ref 156), some (.int x1), some (.int s0), none] [] (t, T, I, L, P) Q) : hf_G X Y_X12_testOf d k n 5 [some (.ref 156), some (.int x1), none, none] [.int s0] (t, T, I, L, P) Q := by
  refine hf_istore_n (l2 := [some (.ref 156), some (.int x1), some (.int s0), none]) dX12_testOf_5 rfl (by decide) rfl ?_
  exact h

set_option maxHeartbeats 4000000 in
theorem w_X12_testOf_6 {X : hf_X} {d k n t : Nat} {T : hf_T} {I : hf_I} {L : hf_L} {P : hf_P} {Q : Option Value → hf_M → Prop} {x1 : Int32} {x2 : Int32} (hs : hf_Lay t T P) (h : hf_G X Y_X12_passes0 d 0 0 0 (hf_en [.ref 156, .int 5] 3) [] (t, T, I, L, P) (fun r M => hf_G X Y_X12_testOf (d + 1) k n 11 [some (.ref 156), some (.int x1), some (.int x2), none] (r.toList ++ []) M Q)) : hf_G X Y_X12_testOf (d + 1) k n 6 [some (.ref 156), some (.int x1), some (.int x2), none] [] (t, T, I, L, P) Q := by
  refine hf_aload_n dX12_testOf_6 rfl rfl ?_
  refine hf_iconst (v := 5) dX12_testOf_7 (by decide) ?_
  exact hf_callV (c := 12) (as := [.int 5]) ok_X12_passes0 dX12_testOf_8 hw1229 hw1230 hw1617 (hs.2.1 156 _ rfl) (by decide) (hf_lin hs 156 rfl) rfl (Nat.le_of_ble_eq_true rfl) rfl (Nat.le_of_ble_eq_true rfl) (Nat.zero_le _) (Nat.zero_le _) h

set_option maxHeartbeats 4000000 in
theorem w_X12_testOf_11 {X : hf_X} {d k n t : Nat} {T : hf_T} {I : hf_I} {L : hf_L} {P : hf_P} {Q : Option Value → hf_M → Prop} {x1 : Int32} {x2 : Int32} {s0 : Int32} (hs : hf_Lay t T P) (h : (s0 = 0 → narrow .boolean (.int x2) = .int x2 ∧ (Q (some (.int x2)) (t, T, I, L, P))) ∧ (¬ (s0 = 0) → (x1 = 0 → hf_G X Y_X12_bothOf d 0 0 0 (hf_en [.ref 156, .int 0] 4) [] (t, T, I, L, P) (fun r M => hf_G X Y_X12_testOf (d + 1) k n 31 [some (.ref 156), some (.int x1), some (.int x2), none] (r.toList ++ []) M Q)) ∧ (¬ (x1 = 0) → (¬ x2 = 0 → hf_G X Y_X12_bothOf d 0 0 0 (hf_en [.ref 156, .int 0] 4) [] (t, T, I, L, P) (fun r M => hf_G X Y_X12_testOf (d + 1) k n 31 [some (.ref 156), some (.int x1), some (.int x2), none] (r.toList ++ []) M Q)) ∧ (x2 = 0 → hf_G X Y_X12_bothOf d 0 0 0 (hf_en [.ref 156, .int 1] 4) [] (t, T, I, L, P) (fun r M => hf_G X Y_X12_testOf (d + 1) k n 31 [some (.ref 156), some (.int x1), some (.int x2), none] (r.toList ++ []) M Q))))) : hf_G X Y_X12_testOf (d + 1) k n 11 [some (.ref 156), some (.int x1), some (.int x2), none] [.int s0] (t, T, I, L, P) Q := by
  refine hf_if_eq (tgt := 49) dX12_testOf_11 (by decide) (fun hc => ?_) (fun hc => ?_)
  · replace h := h.1 hc
    refine hf_iload_n dX12_testOf_49 rfl rfl ?_
    refine hf_ireturn dX12_testOf_50 rfl h.1 ?_
    replace h := h.2
    exact h
  · replace h := h.2 hc
    refine hf_aload_n dX12_testOf_14 rfl rfl ?_
    refine hf_iload_n dX12_testOf_15 rfl rfl ?_
    refine hf_if_eq (tgt := 27) dX12_testOf_16 (by decide) (fun hc => ?_) (fun hc => ?_)
    · replace h := h.1 hc
      refine hf_iconst (v := 0) dX12_testOf_27 (by decide) ?_
      exact hf_callV (c := 12) (as := [.int 0]) ok_X12_bothOf dX12_testOf_28 hw1246 hw1247 hw1622 (hs.2.1 156 _ rfl) (by decide) (hf_lin hs 156 rfl) rfl (Nat.le_of_ble_eq_true rfl) rfl (Nat.le_of_ble_eq_true rfl) (Nat.zero_le _) (Nat.zero_le _) h
    · replace h := h.2 hc
      refine hf_iload_n dX12_testOf_19 rfl rfl ?_
      refine hf_if_ne (tgt := 27) dX12_testOf_20 (by decide) (fun hc => ?_) (fun hc => ?_)
      · replace h := h.1 hc
        refine hf_iconst (v := 0) dX12_testOf_27 (by decide) ?_
        exact hf_callV (c := 12) (as := [.int 0]) ok_X12_bothOf dX12_testOf_28 hw1246 hw1247 hw1622 (hs.2.1 156 _ rfl) (by decide) (hf_lin hs 156 rfl) rfl (Nat.le_of_ble_eq_true rfl) rfl (Nat.le_of_ble_eq_true rfl) (Nat.zero_le _) (Nat.zero_le _) h
      · replace h := h.2 hc
        refine hf_iconst (v := 1) dX12_testOf_23 (by decide) ?_
        refine hf_goto (tgt := 28) dX12_testOf_24 (by decide) ?_
        exact hf_callV (c := 12) (as := [.int 1]) ok_X12_bothOf dX12_testOf_28 hw1246 hw1247 hw1622 (hs.2.1 156 _ rfl) (by decide) (hf_lin hs 156 rfl) rfl (Nat.le_of_ble_eq_true rfl) rfl (Nat.le_of_ble_eq_true rfl) (Nat.zero_le _) (Nat.zero_le _) h

set_option maxHeartbeats 4000000 in
theorem w_X12_testOf_31 {X : hf_X} {d k n t : Nat} {T : hf_T} {I : hf_I} {L : hf_L} {P : hf_P} {Q : Option Value → hf_M → Prop} {x1 : Int32} {x2 : Int32} {s0 : Int32} (hs : hf_Lay t T P) (h : (¬ x2 = 0 → hf_G X Y_X12_testOf d k n 6 [some (.ref 156), some (.int x1), some (.int 1), none] [] (t, T, I, L, P) Q) ∧ (x2 = 0 → (s0 = 0 → hf_G X Y_X12_testOf d k n 6 [some (.ref 156), some (.int x1), some (.int 0), none] [] (t, T, I, L, P) Q) ∧ (¬ (s0 = 0) → hf_G X Y_X12_testOf d k n 6 [some (.ref 156), some (.int x1), some (.int 1), none] [] (t, T, I, L, P) Q))) : hf_G X Y_X12_testOf d k n 31 [some (.ref 156), some (.int x1), some (.int x2), none] [.int s0] (t, T, I, L, P) Q := by
  refine hf_istore_n (l2 := [some (.ref 156), some (.int x1), some (.int x2), some (.int s0)]) dX12_testOf_31 rfl (by decide) rfl ?_
  refine hf_iload_n dX12_testOf_32 rfl rfl ?_
  refine hf_if_ne (tgt := 40) dX12_testOf_33 (by decide) (fun hc => ?_) (fun hc => ?_)
  · replace h := h.1 hc
    refine hf_iconst (v := 1) dX12_testOf_40 (by decide) ?_
    refine hf_goto (tgt := 45) dX12_testOf_41 (by decide) ?_
    refine hf_istore_n (l2 := [some (.ref 156), some (.int x1), some (.int 1), some (.int s0)]) dX12_testOf_45 rfl (by decide) rfl ?_
    refine hf_goto (tgt := 6) dX12_testOf_46 (by decide) ?_
    refine hf_drop (l' := [some (.ref 156), some (.int x1), some (.int 1), none]) (by simp [hf_sub]) ?_
    exact h
  · replace h := h.2 hc
    refine hf_iload_n dX12_testOf_36 rfl rfl ?_
    refine hf_if_eq (tgt := 44) dX12_testOf_37 (by decide) (fun hc => ?_) (fun hc => ?_)
    · replace h := h.1 hc
      refine hf_iconst (v := 0) dX12_testOf_44 (by decide) ?_
      refine hf_istore_n (l2 := [some (.ref 156), some (.int x1), some (.int 0), some (.int s0)]) dX12_testOf_45 rfl (by decide) rfl ?_
      refine hf_goto (tgt := 6) dX12_testOf_46 (by decide) ?_
      refine hf_drop (l' := [some (.ref 156), some (.int x1), some (.int 0), none]) (by simp [hf_sub]) ?_
      exact h
    · replace h := h.2 hc
      refine hf_iconst (v := 1) dX12_testOf_40 (by decide) ?_
      refine hf_goto (tgt := 45) dX12_testOf_41 (by decide) ?_
      refine hf_istore_n (l2 := [some (.ref 156), some (.int x1), some (.int 1), some (.int s0)]) dX12_testOf_45 rfl (by decide) rfl ?_
      refine hf_goto (tgt := 6) dX12_testOf_46 (by decide) ?_
      refine hf_drop (l' := [some (.ref 156), some (.int x1), some (.int 1), none]) (by simp [hf_sub]) ?_
      exact h

set_option maxHeartbeats 4000000 in
theorem w_X12_bothOf_0 {X : hf_X} {d k n t : Nat} {T : hf_T} {I : hf_I} {L : hf_L} {P : hf_P} {Q : Option Value → hf_M → Prop} {x1 : Int32} (hs : hf_Lay t T P) (h : hf_G X Y_X12_plainOf d 0 0 0 (hf_en [.ref 156, .int x1] 3) [] (t, T, I, L, P) (fun r M => hf_G X Y_X12_bothOf (d + 1) k n 5 [some (.ref 156), some (.int x1), none, none] (r.toList ++ []) M Q)) : hf_G X Y_X12_bothOf (d + 1) k n 0 (hf_en [.ref 156, .int x1] 4) [] (t, T, I, L, P) Q := by
  show hf_G X Y_X12_bothOf (d + 1) k n 0 [some (.ref 156), some (.int x1), none, none] [] (t, T, I, L, P) Q
  refine hf_aload_n dX12_bothOf_0 rfl rfl ?_
  refine hf_iload_n dX12_bothOf_1 rfl rfl ?_
  exact hf_callV (c := 12) (as := [.int x1]) ok_X12_plainOf dX12_bothOf_2 hw1249 hw1250 hw1623 (hs.2.1 156 _ rfl) (by decide) (hf_lin hs 156 rfl) rfl (Nat.le_of_ble_eq_true rfl) rfl (Nat.le_of_ble_eq_true rfl) (Nat.zero_le _) (Nat.zero_le _) h

set_option maxHeartbeats 4000000 in
theorem w_X12_bothOf_5 {X : hf_X} {d k n t : Nat} {T : hf_T} {I : hf_I} {L : hf_L} {P : hf_P} {Q : Option Value → hf_M → Prop} {x1 : Int32} {s0 : Int32} (hs : hf_Lay t T P) (h : hf_G X Y_X12_bothOf d k n 6 [some (.ref 156), some (.int x1), some (.int s0), none] [] (t, T, I, L, P) Q) : hf_G X Y_X12_bothOf d k n 5 [some (.ref 156), some (.int x1), none, none] [.int s0] (t, T, I, L, P) Q := by
  refine hf_istore_n (l2 := [some (.ref 156), some (.int x1), some (.int s0), none]) dX12_bothOf_5 rfl (by decide) rfl ?_
  exact h

set_option maxHeartbeats 4000000 in
theorem w_X12_bothOf_6 {X : hf_X} {d k n t : Nat} {T : hf_T} {I : hf_I} {L : hf_L} {P : hf_P} {Q : Option Value → hf_M → Prop} {x1 : Int32} {x2 : Int32} (hs : hf_Lay t T P) (h : hf_G X Y_X12_passes0 d 0 0 0 (hf_en [.ref 156, .int 6] 3) [] (t, T, I, L, P) (fun r M => hf_G X Y_X12_bothOf (d + 1) k n 12 [some (.ref 156), some (.int x1), some (.int x2), none] (r.toList ++ []) M Q)) : hf_G X Y_X12_bothOf (d + 1) k n 6 [some (.ref 156), some (.int x1), some (.int x2), none] [] (t, T, I, L, P) Q := by
  refine hf_aload_n dX12_bothOf_6 rfl rfl ?_
  refine hf_bipush (v := 6) dX12_bothOf_7 (by decide) ?_
  exact hf_callV (c := 12) (as := [.int 6]) ok_X12_passes0 dX12_bothOf_9 hw1229 hw1230 hw1617 (hs.2.1 156 _ rfl) (by decide) (hf_lin hs 156 rfl) rfl (Nat.le_of_ble_eq_true rfl) rfl (Nat.le_of_ble_eq_true rfl) (Nat.zero_le _) (Nat.zero_le _) h

set_option maxHeartbeats 4000000 in
theorem w_X12_bothOf_12 {X : hf_X} {d k n t : Nat} {T : hf_T} {I : hf_I} {L : hf_L} {P : hf_P} {Q : Option Value → hf_M → Prop} {x1 : Int32} {x2 : Int32} {s0 : Int32} (hs : hf_Lay t T P) (h : (s0 = 0 → narrow .boolean (.int x2) = .int x2 ∧ (Q (some (.int x2)) (t, T, I, L, P))) ∧ (¬ (s0 = 0) → (x1 = 0 → hf_G X Y_X12_plainOf d 0 0 0 (hf_en [.ref 156, .int 0] 3) [] (t, T, I, L, P) (fun r M => hf_G X Y_X12_bothOf (d + 1) k n 32 [some (.ref 156), some (.int x1), some (.int x2), none] (r.toList ++ []) M Q)) ∧ (¬ (x1 = 0) → (x2 = 0 → hf_G X Y_X12_plainOf d 0 0 0 (hf_en [.ref 156, .int 0] 3) [] (t, T, I, L, P) (fun r M => hf_G X Y_X12_bothOf (d + 1) k n 32 [some (.ref 156), some (.int x1), some (.int x2), none] (r.toList ++ []) M Q)) ∧ (¬ (x2 = 0) → hf_G X Y_X12_plainOf d 0 0 0 (hf_en [.ref 156, .int 1] 3) [] (t, T, I, L, P) (fun r M => hf_G X Y_X12_bothOf (d + 1) k n 32 [some (.ref 156), some (.int x1), some (.int x2), none] (r.toList ++ []) M Q))))) : hf_G X Y_X12_bothOf (d + 1) k n 12 [some (.ref 156), some (.int x1), some (.int x2), none] [.int s0] (t, T, I, L, P) Q := by
  refine hf_if_eq (tgt := 50) dX12_bothOf_12 (by decide) (fun hc => ?_) (fun hc => ?_)
  · replace h := h.1 hc
    refine hf_iload_n dX12_bothOf_50 rfl rfl ?_
    refine hf_ireturn dX12_bothOf_51 rfl h.1 ?_
    replace h := h.2
    exact h
  · replace h := h.2 hc
    refine hf_aload_n dX12_bothOf_15 rfl rfl ?_
    refine hf_iload_n dX12_bothOf_16 rfl rfl ?_
    refine hf_if_eq (tgt := 28) dX12_bothOf_17 (by decide) (fun hc => ?_) (fun hc => ?_)
    · replace h := h.1 hc
      refine hf_iconst (v := 0) dX12_bothOf_28 (by decide) ?_
      exact hf_callV (c := 12) (as := [.int 0]) ok_X12_plainOf dX12_bothOf_29 hw1249 hw1250 hw1623 (hs.2.1 156 _ rfl) (by decide) (hf_lin hs 156 rfl) rfl (Nat.le_of_ble_eq_true rfl) rfl (Nat.le_of_ble_eq_true rfl) (Nat.zero_le _) (Nat.zero_le _) h
    · replace h := h.2 hc
      refine hf_iload_n dX12_bothOf_20 rfl rfl ?_
      refine hf_if_eq (tgt := 28) dX12_bothOf_21 (by decide) (fun hc => ?_) (fun hc => ?_)
      · replace h := h.1 hc
        refine hf_iconst (v := 0) dX12_bothOf_28 (by decide) ?_
        exact hf_callV (c := 12) (as := [.int 0]) ok_X12_plainOf dX12_bothOf_29 hw1249 hw1250 hw1623 (hs.2.1 156 _ rfl) (by decide) (hf_lin hs 156 rfl) rfl (Nat.le_of_ble_eq_true rfl) rfl (Nat.le_of_ble_eq_true rfl) (Nat.zero_le _) (Nat.zero_le _) h
      · replace h := h.2 hc
        refine hf_iconst (v := 1) dX12_bothOf_24 (by decide) ?_
        refine hf_goto (tgt := 29) dX12_bothOf_25 (by decide) ?_
        exact hf_callV (c := 12) (as := [.int 1]) ok_X12_plainOf dX12_bothOf_29 hw1249 hw1250 hw1623 (hs.2.1 156 _ rfl) (by decide) (hf_lin hs 156 rfl) rfl (Nat.le_of_ble_eq_true rfl) rfl (Nat.le_of_ble_eq_true rfl) (Nat.zero_le _) (Nat.zero_le _) h

set_option maxHeartbeats 4000000 in
theorem w_X12_bothOf_32 {X : hf_X} {d k n t : Nat} {T : hf_T} {I : hf_I} {L : hf_L} {P : hf_P} {Q : Option Value → hf_M → Prop} {x1 : Int32} {x2 : Int32} {s0 : Int32} (hs : hf_Lay t T P) (h : (x2 = 0 → hf_G X Y_X12_bothOf d k n 6 [some (.ref 156), some (.int x1), some (.int 0), none] [] (t, T, I, L, P) Q) ∧ (¬ (x2 = 0) → (s0 = 0 → hf_G X Y_X12_bothOf d k n 6 [some (.ref 156), some (.int x1), some (.int 0), none] [] (t, T, I, L, P) Q) ∧ (¬ (s0 = 0) → hf_G X Y_X12_bothOf d k n 6 [some (.ref 156), some (.int x1), some (.int 1), none] [] (t, T, I, L, P) Q))) : hf_G X Y_X12_bothOf d k n 32 [some (.ref 156), some (.int x1), some (.int x2), none] [.int s0] (t, T, I, L, P) Q := by
  refine hf_istore_n (l2 := [some (.ref 156), some (.int x1), some (.int x2), some (.int s0)]) dX12_bothOf_32 rfl (by decide) rfl ?_
  refine hf_iload_n dX12_bothOf_33 rfl rfl ?_
  refine hf_if_eq (tgt := 45) dX12_bothOf_34 (by decide) (fun hc => ?_) (fun hc => ?_)
  · replace h := h.1 hc
    refine hf_iconst (v := 0) dX12_bothOf_45 (by decide) ?_
    refine hf_istore_n (l2 := [some (.ref 156), some (.int x1), some (.int 0), some (.int s0)]) dX12_bothOf_46 rfl (by decide) rfl ?_
    refine hf_goto (tgt := 6) dX12_bothOf_47 (by decide) ?_
    refine hf_drop (l' := [some (.ref 156), some (.int x1), some (.int 0), none]) (by simp [hf_sub]) ?_
    exact h
  · replace h := h.2 hc
    refine hf_iload_n dX12_bothOf_37 rfl rfl ?_
    refine hf_if_eq (tgt := 45) dX12_bothOf_38 (by decide) (fun hc => ?_) (fun hc => ?_)
    · replace h := h.1 hc
      refine hf_iconst (v := 0) dX12_bothOf_45 (by decide) ?_
      refine hf_istore_n (l2 := [some (.ref 156), some (.int x1), some (.int 0), some (.int s0)]) dX12_bothOf_46 rfl (by decide) rfl ?_
      refine hf_goto (tgt := 6) dX12_bothOf_47 (by decide) ?_
      refine hf_drop (l' := [some (.ref 156), some (.int x1), some (.int 0), none]) (by simp [hf_sub]) ?_
      exact h
    · replace h := h.2 hc
      refine hf_iconst (v := 1) dX12_bothOf_41 (by decide) ?_
      refine hf_goto (tgt := 46) dX12_bothOf_42 (by decide) ?_
      refine hf_istore_n (l2 := [some (.ref 156), some (.int x1), some (.int 1), some (.int s0)]) dX12_bothOf_46 rfl (by decide) rfl ?_
      refine hf_goto (tgt := 6) dX12_bothOf_47 (by decide) ?_
      refine hf_drop (l' := [some (.ref 156), some (.int x1), some (.int 1), none]) (by simp [hf_sub]) ?_
      exact h

set_option maxHeartbeats 4000000 in
theorem w_X12_plainOf_0 {X : hf_X} {d k n t : Nat} {T : hf_T} {I : hf_I} {L : hf_L} {P : hf_P} {Q : Option Value → hf_M → Prop} {x1 : Int32} (hs : hf_Lay t T P) (h : hf_G X Y_X12_plainOf d k n 2 [some (.ref 156), some (.int x1), some (.int 0)] [] (t, T, I, L, P) Q) : hf_G X Y_X12_plainOf d k n 0 (hf_en [.ref 156, .int x1] 3) [] (t, T, I, L, P) Q := by
  show hf_G X Y_X12_plainOf d k n 0 [some (.ref 156), some (.int x1), none] [] (t, T, I, L, P) Q
  refine hf_iconst (v := 0) dX12_plainOf_0 (by decide) ?_
  refine hf_istore_n (l2 := [some (.ref 156), some (.int x1), some (.int 0)]) dX12_plainOf_1 rfl (by decide) rfl ?_
  exact h

set_option maxHeartbeats 4000000 in
theorem w_X12_plainOf_2 {X : hf_X} {d k n t : Nat} {T : hf_T} {I : hf_I} {L : hf_L} {P : hf_P} {Q : Option Value → hf_M → Prop} {x1 : Int32} {x2 : Int32} (hs : hf_Lay t T P) (h : hf_G X Y_X12_passes0 d 0 0 0 (hf_en [.ref 156, .int 7] 3) [] (t, T, I, L, P) (fun r M => hf_G X Y_X12_plainOf (d + 1) k n 8 [some (.ref 156), some (.int x1), some (.int x2)] (r.toList ++ []) M Q)) : hf_G X Y_X12_plainOf (d + 1) k n 2 [some (.ref 156), some (.int x1), some (.int x2)] [] (t, T, I, L, P) Q := by
  refine hf_aload_n dX12_plainOf_2 rfl rfl ?_
  refine hf_bipush (v := 7) dX12_plainOf_3 (by decide) ?_
  exact hf_callV (c := 12) (as := [.int 7]) ok_X12_passes0 dX12_plainOf_5 hw1229 hw1230 hw1617 (hs.2.1 156 _ rfl) (by decide) (hf_lin hs 156 rfl) rfl (Nat.le_of_ble_eq_true rfl) rfl (Nat.le_of_ble_eq_true rfl) (Nat.zero_le _) (Nat.zero_le _) h

set_option maxHeartbeats 4000000 in
theorem w_X12_plainOf_8 {X : hf_X} {d k n t : Nat} {T : hf_T} {I : hf_I} {L : hf_L} {P : hf_P} {Q : Option Value → hf_M → Prop} {x1 : Int32} {x2 : Int32} {s0 : Int32} (hs : hf_Lay t T P) (h : (s0 = 0 → hf_G X Y_X12_positiveOf d 0 0 0 (hf_en [.ref 156, .int x1] 7) [] (t, T, I, L, P) (fun r M => hf_G X Y_X12_plainOf (d + 1) k n 29 [none, none, some (.int x2)] (r.toList ++ []) M Q)) ∧ (¬ (s0 = 0) → (¬ x2 = 0 → hf_G X Y_X12_plainOf (d + 1) k n 2 [some (.ref 156), some (.int x1), some (.int 0)] [] (t, T, I, L, P) Q) ∧ (x2 = 0 → hf_G X Y_X12_plainOf (d + 1) k n 2 [some (.ref 156), some (.int x1), some (.int 1)] [] (t, T, I, L, P) Q))) : hf_G X Y_X12_plainOf (d + 1) k n 8 [some (.ref 156), some (.int x1), some (.int x2)] [.int s0] (t, T, I, L, P) Q := by
  refine hf_if_eq (tgt := 24) dX12_plainOf_8 (by decide) (fun hc => ?_) (fun hc => ?_)
  · replace h := h.1 hc
    refine hf_aload_n dX12_plainOf_24 rfl rfl ?_
    refine hf_iload_n dX12_plainOf_25 rfl rfl ?_
    exact hf_callV (c := 12) (as := [.int x1]) ok_X12_positiveOf dX12_plainOf_26 hw1252 hw1253 hw1624 (hs.2.1 156 _ rfl) (by decide) (hf_lin hs 156 rfl) rfl (Nat.le_of_ble_eq_true rfl) rfl (Nat.le_of_ble_eq_true rfl) (Nat.zero_le _) (Nat.zero_le _) (hf_mono (fun r M q => hf_drop (l' := [none, none, some (.int x2)]) (by simp [hf_sub]) q) h)
  · replace h := h.2 hc
    refine hf_iload_n dX12_plainOf_11 rfl rfl ?_
    refine hf_if_ne (tgt := 19) dX12_plainOf_12 (by decide) (fun hc => ?_) (fun hc => ?_)
    · replace h := h.1 hc
      refine hf_iconst (v := 0) dX12_plainOf_19 (by decide) ?_
      refine hf_istore_n (l2 := [some (.ref 156), some (.int x1), some (.int 0)]) dX12_plainOf_20 rfl (by decide) rfl ?_
      refine hf_goto (tgt := 2) dX12_plainOf_21 (by decide) ?_
      exact h
    · replace h := h.2 hc
      refine hf_iconst (v := 1) dX12_plainOf_15 (by decide) ?_
      refine hf_goto (tgt := 20) dX12_plainOf_16 (by decide) ?_
      refine hf_istore_n (l2 := [some (.ref 156), some (.int x1), some (.int 1)]) dX12_plainOf_20 rfl (by decide) rfl ?_
      refine hf_goto (tgt := 2) dX12_plainOf_21 (by decide) ?_
      exact h

set_option maxHeartbeats 4000000 in
theorem w_X12_plainOf_29 {X : hf_X} {d k n t : Nat} {T : hf_T} {I : hf_I} {L : hf_L} {P : hf_P} {Q : Option Value → hf_M → Prop} {x2 : Int32} {s0 : Int32} (hs : hf_Lay t T P) (h : (s0 = x2 → Q (some (.int 0)) (t, T, I, L, P)) ∧ (¬ (s0 = x2) → Q (some (.int 1)) (t, T, I, L, P))) : hf_G X Y_X12_plainOf d k n 29 [none, none, some (.int x2)] [.int s0] (t, T, I, L, P) Q := by
  refine hf_iload_n dX12_plainOf_29 rfl rfl ?_
  refine hf_icmp_eq (tgt := 37) dX12_plainOf_30 (by decide) (fun hc => ?_) (fun hc => ?_)
  · replace h := h.1 hc
    refine hf_iconst (v := 0) dX12_plainOf_37 (by decide) ?_
    refine hf_ireturn dX12_plainOf_38 rfl (by decide) ?_
    exact h
  · replace h := h.2 hc
    refine hf_iconst (v := 1) dX12_plainOf_33 (by decide) ?_
    refine hf_goto (tgt := 38) dX12_plainOf_34 (by decide) ?_
    refine hf_ireturn dX12_plainOf_38 rfl (by decide) ?_
    exact h

set_option maxHeartbeats 4000000 in
theorem w_X12_positiveOf_0 {X : hf_X} {d k n t : Nat} {T : hf_T} {I : hf_I} {L : hf_L} {P : hf_P} {Q : Option Value → hf_M → Prop} {x1 : Int32} (hs : hf_Lay t T P) (h : hf_G X Y_X12_passes0 d 0 0 0 (hf_en [.ref 156, .int 140] 3) [] (t, T, I, L, P) (fun r M => hf_G X Y_X12_positiveOf (d + 1) k n 9 [some (.ref 156), some (.int x1), none, none, none, none, none] (r.toList ++ []) M Q)) : hf_G X Y_X12_positiveOf (d + 1) k n 0 (hf_en [.ref 156, .int x1] 7) [] (t, T, I, L, P) Q := by
  show hf_G X Y_X12_positiveOf (d + 1) k n 0 [some (.ref 156), some (.int x1), none, none, none, none, none] [] (t, T, I, L, P) Q
  refine hf_aload_n dX12_positiveOf_0 rfl rfl ?_
  refine hf_bipush (v := 40) dX12_positiveOf_1 (by decide) ?_
  refine hf_callS (as := [.int 40]) ok_X12_sign dX12_positiveOf_3 hw1226 hw1227 rfl (Nat.le_of_ble_eq_true rfl) rfl (Nat.le_of_ble_eq_true rfl) (Nat.zero_le _) (Nat.zero_le _) ?_
  show hf_G X Y_X12_sign d _ _ 0 [some (.int 40)] [] (t, T, I, L, P) _
  refine hf_bipush (v := 100) dX12_sign_0 (by decide) ?_
  refine hf_iload_n dX12_sign_2 rfl rfl ?_
  refine hf_iadd dX12_sign_3 ?_
  rw [show ((100 + 40) : Int32) = 140 by decide]
  refine hf_ireturn dX12_sign_4 rfl rfl ?_
  show hf_G X Y_X12_positiveOf (d + 1) _ _ 6 [some (.ref 156), some (.int x1), none, none, none, none, none] [.int 140, .ref 156] (t, T, I, L, P) _
  exact hf_callV (c := 12) (as := [.int 140]) ok_X12_passes0 dX12_positiveOf_6 hw1229 hw1230 hw1617 (hs.2.1 156 _ rfl) (by decide) (hf_lin hs 156 rfl) rfl (Nat.le_of_ble_eq_true rfl) rfl (Nat.le_of_ble_eq_true rfl) (Nat.zero_le _) (Nat.zero_le _) h

set_option maxHeartbeats 4000000 in
theorem w_X12_positiveOf_9 {X : hf_X} {d k n t : Nat} {T : hf_T} {I : hf_I} {L : hf_L} {P : hf_P} {Q : Option Value → hf_M → Prop} {x1 : Int32} {s0 : Int32} (hs : hf_Lay t T P) (h : (s0 = 0 → hf_G X Y_X12_sumOf d 0 0 0 (hf_en [.ref 156, .int x1] 7) [] (t, T, I, L, P) (fun r M => hf_G X Y_X12_positiveOf (d + 1) k n 35 [some (.ref 156), some (.int x1), none, none, none, none, none] (r.toList ++ []) M Q)) ∧ (¬ (s0 = 0) → hf_G X Y_X12_testOf d 0 0 0 (hf_en [.ref 156, .int x1] 4) [] (t, T, I, L, P) (fun r M => hf_G X Y_X12_positiveOf (d + 1) k n 17 [some (.ref 156), none, none, none, none, none, none] (r.toList ++ []) M Q))) : hf_G X Y_X12_positiveOf (d + 1) k n 9 [some (.ref 156), some (.int x1), none, none, none, none, none] [.int s0] (t, T, I, L, P) Q := by
  refine hf_if_eq (tgt := 30) dX12_positiveOf_9 (by decide) (fun hc => ?_) (fun hc => ?_)
  · replace h := h.1 hc
    refine hf_aload_n dX12_positiveOf_30 rfl rfl ?_
    refine hf_iload_n dX12_positiveOf_31 rfl rfl ?_
    exact hf_callV (c := 12) (as := [.int x1]) ok_X12_sumOf dX12_positiveOf_32 hw1217 hw1218 hw1614 (hs.2.1 156 _ rfl) (by decide) (hf_lin hs 156 rfl) rfl (Nat.le_of_ble_eq_true rfl) rfl (Nat.le_of_ble_eq_true rfl) (Nat.zero_le _) (Nat.zero_le _) h
  · replace h := h.2 hc
    refine hf_aload_n dX12_positiveOf_12 rfl rfl ?_
    refine hf_iload_n dX12_positiveOf_13 rfl rfl ?_
    exact hf_callV (c := 12) (as := [.int x1]) ok_X12_testOf dX12_positiveOf_14 hw1243 hw1244 hw1621 (hs.2.1 156 _ rfl) (by decide) (hf_lin hs 156 rfl) rfl (Nat.le_of_ble_eq_true rfl) rfl (Nat.le_of_ble_eq_true rfl) (Nat.zero_le _) (Nat.zero_le _) (hf_mono (fun r M q => hf_drop (l' := [some (.ref 156), none, none, none, none, none, none]) (by simp [hf_sub]) q) h)

set_option maxHeartbeats 4000000 in
theorem w_X12_positiveOf_35 {X : hf_X} {d k n t : Nat} {T : hf_T} {I : hf_I} {L : hf_L} {P : hf_P} {Q : Option Value → hf_M → Prop} {x1 : Int32} {s0 : Int64} (hs : hf_Lay t T P) (h : hf_G X Y_X12_codeAt d 0 0 0 (hf_en [.ref 156, .int (I 156 19)] 2) [] (t, T, I, L, P) (fun r M => hf_G X Y_X12_positiveOf (d + 1) k n 44 [some (.ref 156), some (.int x1), some (.long s0), none, none, none, none] (r.toList ++ []) M Q)) : hf_G X Y_X12_positiveOf (d + 1) k n 35 [some (.ref 156), some (.int x1), none, none, none, none, none] [.long s0] (t, T, I, L, P) Q := by
  refine hf_lstore_n (l2 := [some (.ref 156), some (.int x1), some (.long s0), none, none, none, none]) dX12_positiveOf_35 rfl (by decide) rfl ?_
  refine hf_aload_n dX12_positiveOf_36 rfl rfl ?_
  refine hf_aload_n dX12_positiveOf_37 rfl rfl ?_
  refine hf_geti (c := 12) (j := 19) dX12_positiveOf_38 (hs.2.1 156 _ rfl) (hf_lin hs 156 rfl) (by decide) (by decide) hw1055 (Or.inl rfl) ?_
  exact hf_callV (c := 12) (as := [.int (I 156 19)]) ok_X12_codeAt dX12_positiveOf_41 hw1214 hw1215 hw1613 (hs.2.1 156 _ rfl) (by decide) (hf_lin hs 156 rfl) rfl (Nat.le_of_ble_eq_true rfl) rfl (Nat.le_of_ble_eq_true rfl) (Nat.zero_le _) (Nat.zero_le _) h

set_option maxHeartbeats 4000000 in
theorem w_X12_positiveOf_17 {X : hf_X} {d k n t : Nat} {T : hf_T} {I : hf_I} {L : hf_L} {P : hf_P} {Q : Option Value → hf_M → Prop} {s0 : Int32} (hs : hf_Lay t T P) (h : narrow .boolean (.int s0) = .int s0 ∧ (Q (some (.int s0)) (t, T, (hf_up I 156 19 ((I 156 19) + 1)), L, P))) : hf_G X Y_X12_positiveOf d k n 17 [some (.ref 156), none, none, none, none, none, none] [.int s0] (t, T, I, L, P) Q := by
  refine hf_istore_n (l2 := [some (.ref 156), none, some (.int s0), none, none, none, none]) dX12_positiveOf_17 rfl (by decide) rfl ?_
  refine hf_aload_n dX12_positiveOf_18 rfl rfl ?_
  refine hf_dup dX12_positiveOf_19 rfl ?_
  refine hf_geti (c := 12) (j := 19) dX12_positiveOf_20 (hs.2.1 156 _ rfl) (hf_lin hs 156 rfl) (by decide) (by decide) hw1055 (Or.inl rfl) ?_
  refine hf_iconst (v := 1) dX12_positiveOf_23 (by decide) ?_
  refine hf_iadd dX12_positiveOf_24 ?_
  refine hf_puti (c := 12) (j := 19) dX12_positiveOf_25 (hs.2.1 156 _ rfl) (hf_lin hs 156 rfl) (by decide) (by decide) hw1055 rfl rfl ?_
  refine hf_iload_n dX12_positiveOf_28 rfl rfl ?_
  refine hf_ireturn dX12_positiveOf_29 rfl h.1 ?_
  replace h := h.2
  exact h

set_option maxHeartbeats 4000000 in
theorem w_X12_positiveOf_44 {X : hf_X} {d k n t : Nat} {T : hf_T} {I : hf_I} {L : hf_L} {P : hf_P} {Q : Option Value → hf_M → Prop} {x1 : Int32} {x2 : Int64} {s0 : Int32} (hs : hf_Lay t T P) (h : hf_G X Y_X12_sumOf d 0 0 0 (hf_en [.ref 156, .int x1] 7) [] (t, T, (hf_up I 156 19 ((I 156 19) + 1)), L, P) (fun r M => hf_G X Y_X12_positiveOf (d + 1) k n 61 [some (.ref 156), some (.int x1), some (.long x2), none, some (.int s0), none, none] (r.toList ++ []) M Q)) : hf_G X Y_X12_positiveOf (d + 1) k n 44 [some (.ref 156), some (.int x1), some (.long x2), none, none, none, none] [.int s0] (t, T, I, L, P) Q := by
  refine hf_istore (l2 := [some (.ref 156), some (.int x1), some (.long x2), none, some (.int s0), none, none]) dX12_positiveOf_44 (by decide) rfl ?_
  refine hf_aload_n dX12_positiveOf_46 rfl rfl ?_
  refine hf_dup dX12_positiveOf_47 rfl ?_
  refine hf_geti (c := 12) (j := 19) dX12_positiveOf_48 (hs.2.1 156 _ rfl) (hf_lin hs 156 rfl) (by decide) (by decide) hw1055 (Or.inl rfl) ?_
  refine hf_iconst (v := 1) dX12_positiveOf_51 (by decide) ?_
  refine hf_iadd dX12_positiveOf_52 ?_
  refine hf_puti (c := 12) (j := 19) dX12_positiveOf_53 (hs.2.1 156 _ rfl) (hf_lin hs 156 rfl) (by decide) (by decide) hw1055 rfl rfl ?_
  refine hf_aload_n dX12_positiveOf_56 rfl rfl ?_
  refine hf_iload_n dX12_positiveOf_57 rfl rfl ?_
  exact hf_callV (c := 12) (as := [.int x1]) ok_X12_sumOf dX12_positiveOf_58 hw1217 hw1218 hw1614 (hs.2.1 156 _ rfl) (by decide) (hf_lin hs 156 rfl) rfl (Nat.le_of_ble_eq_true rfl) rfl (Nat.le_of_ble_eq_true rfl) (Nat.zero_le _) (Nat.zero_le _) h

set_option maxHeartbeats 4000000 in
theorem w_X12_positiveOf_61 {X : hf_X} {d k n t : Nat} {T : hf_T} {I : hf_I} {L : hf_L} {P : hf_P} {Q : Option Value → hf_M → Prop} {x1 : Int32} {x2 : Int64} {x4 : Int32} {s0 : Int64} (hs : hf_Lay t T P) (h : (x1 = 0 → Q (some (.int 0)) (t, T, I, L, P)) ∧ (¬ (x1 = 0) → (¬ (I 156 21) = 0 → Q (some (.int 0)) (t, T, I, L, P)) ∧ ((I 156 21) = 0 → (¬ x4 = 160 → (¬ x4 = 162 → (¬ (lg_cmp x2 s0) = 0 → Q (some (.int 0)) (t, T, I, L, P)) ∧ ((lg_cmp x2 s0) = 0 → Q (some (.int 1)) (t, T, I, L, P))) ∧ (x4 = 162 → ((lg_cmp x2 s0) ≤ 0 → Q (some (.int 0)) (t, T, I, L, P)) ∧ (¬ ((lg_cmp x2 s0) ≤ 0) → Q (some (.int 1)) (t, T, I, L, P)))) ∧ (x4 = 160 → (0 ≤ (lg_cmp x2 s0) → Q (some (.int 0)) (t, T, I, L, P)) ∧ (¬ (0 ≤ (lg_cmp x2 s0)) → Q (some (.int 1)) (t, T, I, L, P)))))) : hf_G X Y_X12_positiveOf (d + 1) k n 61 [some (.ref 156), some (.int x1), some (.long x2), none, some (.int x4), none, none] [.long s0] (t, T, I, L, P) Q := by
  refine hf_lstore (l2 := [some (.ref 156), some (.int x1), some (.long x2), none, some (.int x4), some (.long s0), none]) dX12_positiveOf_61 (by decide) rfl ?_
  refine hf_iload_n dX12_positiveOf_63 rfl rfl ?_
  refine hf_if_eq (tgt := 125) dX12_positiveOf_64 (by decide) (fun hc => ?_) (fun hc => ?_)
  · replace h := h.1 hc
    refine hf_iconst (v := 0) dX12_positiveOf_125 (by decide) ?_
    refine hf_ireturn dX12_positiveOf_126 rfl (by decide) ?_
    exact h
  · replace h := h.2 hc
    refine hf_aload_n dX12_positiveOf_67 rfl rfl ?_
    refine hf_geti (c := 12) (j := 21) dX12_positiveOf_68 (hs.2.1 156 _ rfl) (hf_lin hs 156 rfl) (by decide) (by decide) hw1057 (Or.inr rfl) ?_
    refine hf_if_ne (tgt := 125) dX12_positiveOf_71 (by decide) (fun hc => ?_) (fun hc => ?_)
    · replace h := h.1 hc
      refine hf_iconst (v := 0) dX12_positiveOf_125 (by decide) ?_
      refine hf_ireturn dX12_positiveOf_126 rfl (by decide) ?_
      exact h
    · replace h := h.2 hc
      refine hf_iload dX12_positiveOf_74 rfl ?_
      refine hf_bipush (v := 60) dX12_positiveOf_76 (by decide) ?_
      refine hf_callS (as := [.int 60]) ok_X12_sign dX12_positiveOf_78 hw1226 hw1227 rfl (Nat.le_of_ble_eq_true rfl) rfl (Nat.le_of_ble_eq_true rfl) (Nat.zero_le _) (Nat.zero_le _) ?_
      show hf_G X Y_X12_sign d _ _ 0 [some (.int 60)] [] (t, T, I, L, P) _
      refine hf_bipush (v := 100) dX12_sign_0 (by decide) ?_
      refine hf_iload_n dX12_sign_2 rfl rfl ?_
      refine hf_iadd dX12_sign_3 ?_
      rw [show ((100 + 60) : Int32) = 160 by decide]
      refine hf_ireturn dX12_sign_4 rfl rfl ?_
      show hf_G X Y_X12_positiveOf (d + 1) _ _ 81 [some (.ref 156), some (.int x1), some (.long x2), none, some (.int x4), some (.long s0), none] [.int 160, .int x4] (t, T, I, L, P) _
      refine hf_icmp_ne (tgt := 94) dX12_positiveOf_81 (by decide) (fun hc => ?_) (fun hc => ?_)
      · replace h := h.1 hc
        refine hf_iload dX12_positiveOf_94 rfl ?_
        refine hf_bipush (v := 62) dX12_positiveOf_96 (by decide) ?_
        refine hf_callS (as := [.int 62]) ok_X12_sign dX12_positiveOf_98 hw1226 hw1227 rfl (Nat.le_of_ble_eq_true rfl) rfl (Nat.le_of_ble_eq_true rfl) (Nat.zero_le _) (Nat.zero_le _) ?_
        show hf_G X Y_X12_sign d _ _ 0 [some (.int 62)] [] (t, T, I, L, P) _
        refine hf_bipush (v := 100) dX12_sign_0 (by decide) ?_
        refine hf_iload_n dX12_sign_2 rfl rfl ?_
        refine hf_iadd dX12_sign_3 ?_
        rw [show ((100 + 62) : Int32) = 162 by decide]
        refine hf_ireturn dX12_sign_4 rfl rfl ?_
        show hf_G X Y_X12_positiveOf (d + 1) _ _ 101 [some (.ref 156), some (.int x1), some (.long x2), none, some (.int x4), some (.long s0), none] [.int 162, .int x4] (t, T, I, L, P) _
        refine hf_icmp_ne (tgt := 114) dX12_positiveOf_101 (by decide) (fun hc => ?_) (fun hc => ?_)
        · replace h := h.1 hc
          refine hf_lload_n dX12_positiveOf_114 rfl rfl ?_
          refine hf_lload dX12_positiveOf_115 rfl ?_
          refine hf_lcmp dX12_positiveOf_117 ?_
          refine hf_if_ne (tgt := 125) dX12_positiveOf_118 (by decide) (fun hc => ?_) (fun hc => ?_)
          · replace h := h.1 hc
            refine hf_iconst (v := 0) dX12_positiveOf_125 (by decide) ?_
            refine hf_ireturn dX12_positiveOf_126 rfl (by decide) ?_
            exact h
          · replace h := h.2 hc
            refine hf_iconst (v := 1) dX12_positiveOf_121 (by decide) ?_
            refine hf_goto (tgt := 126) dX12_positiveOf_122 (by decide) ?_
            refine hf_ireturn dX12_positiveOf_126 rfl (by decide) ?_
            exact h
        · replace h := h.2 hc
          refine hf_lload_n dX12_positiveOf_104 rfl rfl ?_
          refine hf_lload dX12_positiveOf_105 rfl ?_
          refine hf_lcmp dX12_positiveOf_107 ?_
          refine hf_if_le (tgt := 125) dX12_positiveOf_108 (by decide) (fun hc => ?_) (fun hc => ?_)
          · replace h := h.1 hc
            refine hf_iconst (v := 0) dX12_positiveOf_125 (by decide) ?_
            refine hf_ireturn dX12_positiveOf_126 rfl (by decide) ?_
            exact h
          · replace h := h.2 hc
            refine hf_goto (tgt := 121) dX12_positiveOf_111 (by decide) ?_
            refine hf_iconst (v := 1) dX12_positiveOf_121 (by decide) ?_
            refine hf_goto (tgt := 126) dX12_positiveOf_122 (by decide) ?_
            refine hf_ireturn dX12_positiveOf_126 rfl (by decide) ?_
            exact h
      · replace h := h.2 hc
        refine hf_lload_n dX12_positiveOf_84 rfl rfl ?_
        refine hf_lload dX12_positiveOf_85 rfl ?_
        refine hf_lcmp dX12_positiveOf_87 ?_
        refine hf_if_ge (tgt := 125) dX12_positiveOf_88 (by decide) (fun hc => ?_) (fun hc => ?_)
        · replace h := h.1 hc
          refine hf_iconst (v := 0) dX12_positiveOf_125 (by decide) ?_
          refine hf_ireturn dX12_positiveOf_126 rfl (by decide) ?_
          exact h
        · replace h := h.2 hc
          refine hf_goto (tgt := 121) dX12_positiveOf_91 (by decide) ?_
          refine hf_iconst (v := 1) dX12_positiveOf_121 (by decide) ?_
          refine hf_goto (tgt := 126) dX12_positiveOf_122 (by decide) ?_
          refine hf_ireturn dX12_positiveOf_126 rfl (by decide) ?_
          exact h

set_option maxHeartbeats 4000000 in
theorem w_X12_tells_0 {X : hf_X} {d k n t : Nat} {T : hf_T} {I : hf_I} {L : hf_L} {P : hf_P} {Q : Option Value → hf_M → Prop} {x1 : Int32} {x2 : Int32} {x3 : Int32} (hs : hf_Lay t T P) (h : (¬ (I 158 321) = (-1) → vp_in (322 + (I 158 321)) 5929 ∧ (hf_G X Y_X12_tells d k n 103 [some (.ref 156), some (.int x1), none, none, some (.long x3.toInt64), none, none, none, none, none, none] [] (t, T, (hf_up (hf_up (hf_up (hf_up (hf_up (hf_up I 168 10 x2) 168 11 (I 158 311)) 168 12 (I 158 312)) 156 22 0) 156 19 (400 * (I 158 321))) 156 20 ((400 * (I 158 321)) + (I 158 (((322 + (I 158 321))).toNatClampNeg)))), L, P) Q)) ∧ ((I 158 321) = (-1) → Q (some (.int x3)) (t, T, I, L, P))) : hf_G X Y_X12_tells d k n 0 (hf_en [.ref 156, .int x1, .int x2, .int x3] 11) [] (t, T, I, L, P) Q := by
  show hf_G X Y_X12_tells d k n 0 [some (.ref 156), some (.int x1), some (.int x2), some (.int x3), none, none, none, none, none, none, none] [] (t, T, I, L, P) Q
  refine hf_aload_n dX12_tells_0 rfl rfl ?_
  refine hf_getr (b := 158) (c := 12) (j := 2) dX12_tells_1 (hs.2.1 156 _ rfl) (hf_lin hs 156 rfl) (by decide) (by decide) hw1038 rfl (hs.2.2 156 2 _ rfl) ?_
  refine hf_sipush (v := 321) dX12_tells_4 (by decide) ?_
  refine hf_iald_k (j := 321) (by decide) dX12_tells_7 (hs.2.1 158 _ rfl) (hf_lin hs 158 rfl) (hf_vin (by decide)) ?_
  refine hf_iconst (v := (-1)) dX12_tells_8 (by decide) ?_
  refine hf_icmp_ne (tgt := 14) dX12_tells_9 (by decide) (fun hc => ?_) (fun hc => ?_)
  · replace h := h.1 hc
    refine hf_aload_n dX12_tells_14 rfl rfl ?_
    refine hf_getr (b := 168) (c := 12) (j := 23) dX12_tells_15 (hs.2.1 156 _ rfl) (hf_lin hs 156 rfl) (by decide) (by decide) hw1059 rfl (hs.2.2 156 23 _ rfl) ?_
    refine hf_bipush (v := 10) dX12_tells_18 (by decide) ?_
    refine hf_iload_n dX12_tells_20 rfl rfl ?_
    refine hf_iast_k (j := 10) (by decide) dX12_tells_21 (hs.2.1 168 _ rfl) (hf_lin hs 168 rfl) (hf_vin (by decide)) ?_
    refine hf_aload_n dX12_tells_22 rfl rfl ?_
    refine hf_getr (b := 168) (c := 12) (j := 23) dX12_tells_23 (hs.2.1 156 _ rfl) (hf_lin hs 156 rfl) (by decide) (by decide) hw1059 rfl (hs.2.2 156 23 _ rfl) ?_
    refine hf_bipush (v := 11) dX12_tells_26 (by decide) ?_
    refine hf_aload_n dX12_tells_28 rfl rfl ?_
    refine hf_getr (b := 158) (c := 12) (j := 2) dX12_tells_29 (hs.2.1 156 _ rfl) (hf_lin hs 156 rfl) (by decide) (by decide) hw1038 rfl (hs.2.2 156 2 _ rfl) ?_
    refine hf_sipush (v := 311) dX12_tells_32 (by decide) ?_
    refine hf_iald_k (j := 311) (by decide) dX12_tells_35 (hs.2.1 158 _ rfl) (hf_lin hs 158 rfl) (hf_vin (by decide)) ?_
    refine hf_iast_k (j := 11) (by decide) dX12_tells_36 (hs.2.1 168 _ rfl) (hf_lin hs 168 rfl) (hf_vin (by decide)) ?_
    refine hf_aload_n dX12_tells_37 rfl rfl ?_
    refine hf_getr (b := 168) (c := 12) (j := 23) dX12_tells_38 (hs.2.1 156 _ rfl) (hf_lin hs 156 rfl) (by decide) (by decide) hw1059 rfl (hs.2.2 156 23 _ rfl) ?_
    refine hf_bipush (v := 12) dX12_tells_41 (by decide) ?_
    refine hf_aload_n dX12_tells_43 rfl rfl ?_
    refine hf_getr (b := 158) (c := 12) (j := 2) dX12_tells_44 (hs.2.1 156 _ rfl) (hf_lin hs 156 rfl) (by decide) (by decide) hw1038 rfl (hs.2.2 156 2 _ rfl) ?_
    refine hf_sipush (v := 312) dX12_tells_47 (by decide) ?_
    refine hf_iald_k (j := 312) (by decide) dX12_tells_50 (hs.2.1 158 _ rfl) (hf_lin hs 158 rfl) (hf_vin (by decide)) ?_
    refine hf_iast_k (j := 12) (by decide) dX12_tells_51 (hs.2.1 168 _ rfl) (hf_lin hs 168 rfl) (hf_vin (by decide)) ?_
    refine hf_aload_n dX12_tells_52 rfl rfl ?_
    refine hf_iconst (v := 0) dX12_tells_53 (by decide) ?_
    refine hf_putz (c := 12) (j := 22) dX12_tells_54 (hs.2.1 156 _ rfl) (hf_lin hs 156 rfl) (by decide) (by decide) hw1058 rfl rfl (by decide) ?_
    refine hf_iload_n dX12_tells_57 rfl rfl ?_
    refine hf_i2l dX12_tells_58 ?_
    refine hf_lstore (l2 := [some (.ref 156), some (.int x1), some (.int x2), some (.int x3), some (.long x3.toInt64), none, none, none, none, none, none]) dX12_tells_59 (by decide) rfl ?_
    refine hf_aload_n dX12_tells_61 rfl rfl ?_
    refine hf_sipush (v := 400) dX12_tells_62 (by decide) ?_
    refine hf_aload_n dX12_tells_65 rfl rfl ?_
    refine hf_getr (b := 158) (c := 12) (j := 2) dX12_tells_66 (hs.2.1 156 _ rfl) (hf_lin hs 156 rfl) (by decide) (by decide) hw1038 rfl (hs.2.2 156 2 _ rfl) ?_
    refine hf_sipush (v := 321) dX12_tells_69 (by decide) ?_
    refine hf_iald_k (j := 321) (by decide) dX12_tells_72 (hs.2.1 158 _ rfl) (hf_lin hs 158 rfl) (hf_vin (by decide)) ?_
    refine hf_imul dX12_tells_73 ?_
    refine hf_puti (c := 12) (j := 19) dX12_tells_74 (hs.2.1 156 _ rfl) (hf_lin hs 156 rfl) (by decide) (by decide) hw1055 rfl rfl ?_
    refine hf_aload_n dX12_tells_77 rfl rfl ?_
    refine hf_aload_n dX12_tells_78 rfl rfl ?_
    refine hf_geti (c := 12) (j := 19) dX12_tells_79 (hs.2.1 156 _ rfl) (hf_lin hs 156 rfl) (by decide) (by decide) hw1055 (Or.inl rfl) ?_
    refine hf_aload_n dX12_tells_82 rfl rfl ?_
    refine hf_getr (b := 158) (c := 12) (j := 2) dX12_tells_83 (hs.2.1 156 _ rfl) (hf_lin hs 156 rfl) (by decide) (by decide) hw1038 rfl (hs.2.2 156 2 _ rfl) ?_
    refine hf_sipush (v := 322) dX12_tells_86 (by decide) ?_
    refine hf_aload_n dX12_tells_89 rfl rfl ?_
    refine hf_getr (b := 158) (c := 12) (j := 2) dX12_tells_90 (hs.2.1 156 _ rfl) (hf_lin hs 156 rfl) (by decide) (by decide) hw1038 rfl (hs.2.2 156 2 _ rfl) ?_
    refine hf_sipush (v := 321) dX12_tells_93 (by decide) ?_
    refine hf_iald_k (j := 321) (by decide) dX12_tells_96 (hs.2.1 158 _ rfl) (hf_lin hs 158 rfl) (hf_vin (by decide)) ?_
    refine hf_iadd dX12_tells_97 ?_
    refine hf_iald dX12_tells_98 (hs.2.1 158 _ rfl) (hf_lin hs 158 rfl) h.1 ?_
    replace h := h.2
    refine hf_iadd dX12_tells_99 ?_
    refine hf_puti (c := 12) (j := 20) dX12_tells_100 (hs.2.1 156 _ rfl) (hf_lin hs 156 rfl) (by decide) (by decide) hw1056 rfl rfl ?_
    refine hf_drop (l' := [some (.ref 156), some (.int x1), none, none, some (.long x3.toInt64), none, none, none, none, none, none]) (by simp [hf_sub]) ?_
    exact h
  · replace h := h.2 hc
    refine hf_iload_n dX12_tells_12 rfl rfl ?_
    refine hf_ireturn dX12_tells_13 rfl rfl ?_
    exact h

set_option maxHeartbeats 4000000 in
theorem w_X12_tells_103 {X : hf_X} {d k n t : Nat} {T : hf_T} {I : hf_I} {L : hf_L} {P : hf_P} {Q : Option Value → hf_M → Prop} {x1 : Int32} {x4 : Int64} (hs : hf_Lay t T P) (h : ((I 156 20) ≤ (I 156 19) → Q (some (.int x4.toInt32)) (t, T, I, L, P)) ∧ (¬ ((I 156 20) ≤ (I 156 19)) → hf_G X Y_X12_codeAt d 0 0 0 (hf_en [.ref 156, .int (I 156 19)] 2) [] (t, T, I, L, P) (fun r M => hf_G X Y_X12_tells (d + 1) k n 122 [some (.ref 156), some (.int x1), none, none, some (.long x4), none, none, none, none, none, none] (r.toList ++ []) M Q))) : hf_G X Y_X12_tells (d + 1) k n 103 [some (.ref 156), some (.int x1), none, none, some (.long x4), none, none, none, none, none, none] [] (t, T, I, L, P) Q := by
  refine hf_aload_n dX12_tells_103 rfl rfl ?_
  refine hf_geti (c := 12) (j := 19) dX12_tells_104 (hs.2.1 156 _ rfl) (hf_lin hs 156 rfl) (by decide) (by decide) hw1055 (Or.inl rfl) ?_
  refine hf_aload_n dX12_tells_107 rfl rfl ?_
  refine hf_geti (c := 12) (j := 20) dX12_tells_108 (hs.2.1 156 _ rfl) (hf_lin hs 156 rfl) (by decide) (by decide) hw1056 (Or.inl rfl) ?_
  refine hf_icmp_ge (tgt := 256) dX12_tells_111 (by decide) (fun hc => ?_) (fun hc => ?_)
  · replace h := h.1 hc
    refine hf_lload dX12_tells_256 rfl ?_
    refine hf_l2i dX12_tells_258 ?_
    refine hf_ireturn dX12_tells_259 rfl rfl ?_
    exact h
  · replace h := h.2 hc
    refine hf_aload_n dX12_tells_114 rfl rfl ?_
    refine hf_aload_n dX12_tells_115 rfl rfl ?_
    refine hf_geti (c := 12) (j := 19) dX12_tells_116 (hs.2.1 156 _ rfl) (hf_lin hs 156 rfl) (by decide) (by decide) hw1055 (Or.inl rfl) ?_
    exact hf_callV (c := 12) (as := [.int (I 156 19)]) ok_X12_codeAt dX12_tells_119 hw1214 hw1215 hw1613 (hs.2.1 156 _ rfl) (by decide) (hf_lin hs 156 rfl) rfl (Nat.le_of_ble_eq_true rfl) rfl (Nat.le_of_ble_eq_true rfl) (Nat.zero_le _) (Nat.zero_le _) h

set_option maxHeartbeats 4000000 in
theorem w_X12_tells_122 {X : hf_X} {d k n t : Nat} {T : hf_T} {I : hf_I} {L : hf_L} {P : hf_P} {Q : Option Value → hf_M → Prop} {x1 : Int32} {x4 : Int64} {s0 : Int32} (hs : hf_Lay t T P) (h : (¬ s0 = 3 → hf_G X Y_X12_sumOf d 0 0 0 (hf_en [.ref 156, .int 1] 7) [] (t, T, (hf_up (hf_up I 156 21 0) 156 19 ((I 156 19) + 1)), L, P) (fun r M => hf_G X Y_X12_tells (d + 1) k n 154 [some (.ref 156), some (.int x1), none, none, some (.long x4), none, some (.int s0), none, none, none, none] (r.toList ++ []) M Q)) ∧ (s0 = 3 → hf_G X Y_X12_passes0 d 0 0 0 (hf_en [.ref 156, .int 4] 3) [] (t, T, (hf_up (hf_up (hf_up I 156 21 0) 156 19 ((I 156 19) + 1)) 156 21 0), L, P) (fun r M => hf_G X Y_X12_tells (d + 1) k n 172 [some (.ref 156), some (.int x1), none, none, some (.long x4), none, some (.int s0), some (.long 1), none, some (.int 0), none] (r.toList ++ []) M Q))) : hf_G X Y_X12_tells (d + 1) k n 122 [some (.ref 156), some (.int x1), none, none, some (.long x4), none, none, none, none, none, none] [.int s0] (t, T, I, L, P) Q := by
  refine hf_istore (l2 := [some (.ref 156), some (.int x1), none, none, some (.long x4), none, some (.int s0), none, none, none, none]) dX12_tells_122 (by decide) rfl ?_
  refine hf_aload_n dX12_tells_124 rfl rfl ?_
  refine hf_iconst (v := 0) dX12_tells_125 (by decide) ?_
  refine hf_putz (c := 12) (j := 21) dX12_tells_126 (hs.2.1 156 _ rfl) (hf_lin hs 156 rfl) (by decide) (by decide) hw1057 rfl rfl (by decide) ?_
  refine hf_aload_n dX12_tells_129 rfl rfl ?_
  refine hf_dup dX12_tells_130 rfl ?_
  refine hf_geti (c := 12) (j := 19) dX12_tells_131 (hs.2.1 156 _ rfl) (hf_lin hs 156 rfl) (by decide) (by decide) hw1055 (Or.inl rfl) ?_
  refine hf_iconst (v := 1) dX12_tells_134 (by decide) ?_
  refine hf_iadd dX12_tells_135 ?_
  refine hf_puti (c := 12) (j := 19) dX12_tells_136 (hs.2.1 156 _ rfl) (hf_lin hs 156 rfl) (by decide) (by decide) hw1055 rfl rfl ?_
  refine hf_iload dX12_tells_139 rfl ?_
  refine hf_iconst (v := 3) dX12_tells_141 (by decide) ?_
  refine hf_icmp_ne (tgt := 149) dX12_tells_142 (by decide) (fun hc => ?_) (fun hc => ?_)
  · replace h := h.1 hc
    refine hf_aload_n dX12_tells_149 rfl rfl ?_
    refine hf_iconst (v := 1) dX12_tells_150 (by decide) ?_
    exact hf_callV (c := 12) (as := [.int 1]) ok_X12_sumOf dX12_tells_151 hw1217 hw1218 hw1614 (hs.2.1 156 _ rfl) (by decide) (hf_lin hs 156 rfl) rfl (Nat.le_of_ble_eq_true rfl) rfl (Nat.le_of_ble_eq_true rfl) (Nat.zero_le _) (Nat.zero_le _) h
  · replace h := h.2 hc
    refine hf_lconst (v := 1) dX12_tells_145 (by decide) ?_
    refine hf_goto (tgt := 154) dX12_tells_146 (by decide) ?_
    refine hf_lstore (l2 := [some (.ref 156), some (.int x1), none, none, some (.long x4), none, some (.int s0), some (.long 1), none, none, none]) dX12_tells_154 (by decide) rfl ?_
    refine hf_aload_n dX12_tells_156 rfl rfl ?_
    refine hf_geti (c := 12) (j := 21) dX12_tells_157 (hs.2.1 156 _ rfl) (hf_lin hs 156 rfl) (by decide) (by decide) hw1057 (Or.inr rfl) ?_
    refine hf_istore (l2 := [some (.ref 156), some (.int x1), none, none, some (.long x4), none, some (.int s0), some (.long 1), none, some (.int 0), none]) dX12_tells_160 (by decide) rfl ?_
    refine hf_aload_n dX12_tells_162 rfl rfl ?_
    refine hf_iconst (v := 0) dX12_tells_163 (by decide) ?_
    refine hf_putz (c := 12) (j := 21) dX12_tells_164 (hs.2.1 156 _ rfl) (hf_lin hs 156 rfl) (by decide) (by decide) hw1057 rfl rfl (by decide) ?_
    refine hf_aload_n dX12_tells_167 rfl rfl ?_
    refine hf_iconst (v := 4) dX12_tells_168 (by decide) ?_
    exact hf_callV (c := 12) (as := [.int 4]) ok_X12_passes0 dX12_tells_169 hw1229 hw1230 hw1617 (hs.2.1 156 _ rfl) (by decide) (hf_lin hs 156 rfl) rfl (Nat.le_of_ble_eq_true rfl) rfl (Nat.le_of_ble_eq_true rfl) (Nat.zero_le _) (Nat.zero_le _) h

set_option maxHeartbeats 4000000 in
theorem w_X12_tells_154 {X : hf_X} {d k n t : Nat} {T : hf_T} {I : hf_I} {L : hf_L} {P : hf_P} {Q : Option Value → hf_M → Prop} {x1 : Int32} {x4 : Int64} {x6 : Int32} {s0 : Int64} (hs : hf_Lay t T P) (h : hf_G X Y_X12_passes0 d 0 0 0 (hf_en [.ref 156, .int 4] 3) [] (t, T, (hf_up I 156 21 0), L, P) (fun r M => hf_G X Y_X12_tells (d + 1) k n 172 [some (.ref 156), some (.int x1), none, none, some (.long x4), none, some (.int x6), some (.long s0), none, some (.int (I 156 21)), none] (r.toList ++ []) M Q)) : hf_G X Y_X12_tells (d + 1) k n 154 [some (.ref 156), some (.int x1), none, none, some (.long x4), none, some (.int x6), none, none, none, none] [.long s0] (t, T, I, L, P) Q := by
  refine hf_lstore (l2 := [some (.ref 156), some (.int x1), none, none, some (.long x4), none, some (.int x6), some (.long s0), none, none, none]) dX12_tells_154 (by decide) rfl ?_
  refine hf_aload_n dX12_tells_156 rfl rfl ?_
  refine hf_geti (c := 12) (j := 21) dX12_tells_157 (hs.2.1 156 _ rfl) (hf_lin hs 156 rfl) (by decide) (by decide) hw1057 (Or.inr rfl) ?_
  refine hf_istore (l2 := [some (.ref 156), some (.int x1), none, none, some (.long x4), none, some (.int x6), some (.long s0), none, some (.int (I 156 21)), none]) dX12_tells_160 (by decide) rfl ?_
  refine hf_aload_n dX12_tells_162 rfl rfl ?_
  refine hf_iconst (v := 0) dX12_tells_163 (by decide) ?_
  refine hf_putz (c := 12) (j := 21) dX12_tells_164 (hs.2.1 156 _ rfl) (hf_lin hs 156 rfl) (by decide) (by decide) hw1057 rfl rfl (by decide) ?_
  refine hf_aload_n dX12_tells_167 rfl rfl ?_
  refine hf_iconst (v := 4) dX12_tells_168 (by decide) ?_
  exact hf_callV (c := 12) (as := [.int 4]) ok_X12_passes0 dX12_tells_169 hw1229 hw1230 hw1617 (hs.2.1 156 _ rfl) (by decide) (hf_lin hs 156 rfl) rfl (Nat.le_of_ble_eq_true rfl) rfl (Nat.le_of_ble_eq_true rfl) (Nat.zero_le _) (Nat.zero_le _) h

set_option maxHeartbeats 4000000 in
theorem w_X12_tells_172 {X : hf_X} {d k n t : Nat} {T : hf_T} {I : hf_I} {L : hf_L} {P : hf_P} {Q : Option Value → hf_M → Prop} {x1 : Int32} {x4 : Int64} {x6 : Int32} {x7 : Int64} {x9 : Int32} {s0 : Int32} (hs : hf_Lay t T P) (h : (s0 = 0 → (¬ x6 = x1 → hf_G X Y_X12_tells (d + 1) k n 103 [some (.ref 156), some (.int x1), none, none, some (.long x4), none, none, none, none, none, none] [] (t, T, (hf_up I 156 19 ((I 156 19) + 1)), L, P) Q) ∧ (x6 = x1 → (¬ (I 156 21) = 0 → hf_G X Y_X12_tells (d + 1) k n 103 [some (.ref 156), some (.int x1), none, none, some (.long x4), none, none, none, none, none, none] [] (t, T, (hf_up I 156 19 ((I 156 19) + 1)), L, P) Q) ∧ ((I 156 21) = 0 → (¬ x9 = 0 → hf_G X Y_X12_tells (d + 1) k n 103 [some (.ref 156), some (.int x1), none, none, some (.long x4), none, none, none, none, none, none] [] (t, T, (hf_up I 156 19 ((I 156 19) + 1)), L, P) Q) ∧ (x9 = 0 → (0 ≤ (lg_cmp x7 0) → ((lg_cmp x7 999) ≤ 0 → hf_G X Y_X12_tells (d + 1) k n 103 [some (.ref 156), some (.int x1), none, none, some (.long x7), none, none, none, none, none, none] [] (t, T, (hf_up I 156 19 ((I 156 19) + 1)), L, P) Q) ∧ (¬ ((lg_cmp x7 999) ≤ 0) → hf_G X Y_X12_tells (d + 1) k n 103 [some (.ref 156), some (.int x1), none, none, some (.long 999), none, none, none, none, none, none] [] (t, T, (hf_up I 156 19 ((I 156 19) + 1)), L, P) Q)) ∧ (¬ (0 ≤ (lg_cmp x7 0)) → hf_G X Y_X12_tells (d + 1) k n 103 [some (.ref 156), some (.int x1), none, none, some (.long 0), none, none, none, none, none, none] [] (t, T, (hf_up I 156 19 ((I 156 19) + 1)), L, P) Q))))) ∧ (¬ (s0 = 0) → hf_G X Y_X12_testOf d 0 0 0 (hf_en [.ref 156, .int 1] 4) [] (t, T, I, L, P) (fun r M => hf_G X Y_X12_tells (d + 1) k n 180 [some (.ref 156), some (.int x1), none, none, some (.long x4), none, some (.int x6), some (.long x7), none, some (.int x9), none] (r.toList ++ []) M Q))) : hf_G X Y_X12_tells (d + 1) k n 172 [some (.ref 156), some (.int x1), none, none, some (.long x4), none, some (.int x6), some (.long x7), none, some (.int x9), none] [.int s0] (t, T, I, L, P) Q := by
  refine hf_if_eq (tgt := 183) dX12_tells_172 (by decide) (fun hc => ?_) (fun hc => ?_)
  · replace h := h.1 hc
    refine hf_iconst (v := 1) dX12_tells_183 (by decide) ?_
    refine hf_goto (tgt := 188) dX12_tells_184 (by decide) ?_
    refine hf_istore (l2 := [some (.ref 156), some (.int x1), none, none, some (.long x4), none, some (.int x6), some (.long x7), none, some (.int x9), some (.int 1)]) dX12_tells_188 (by decide) rfl ?_
    refine hf_iload dX12_tells_190 rfl ?_
    refine hf_iload_n dX12_tells_192 rfl rfl ?_
    refine hf_icmp_ne (tgt := 243) dX12_tells_193 (by decide) (fun hc => ?_) (fun hc => ?_)
    · replace h := h.1 hc
      refine hf_aload_n dX12_tells_243 rfl rfl ?_
      refine hf_dup dX12_tells_244 rfl ?_
      refine hf_geti (c := 12) (j := 19) dX12_tells_245 (hs.2.1 156 _ rfl) (hf_lin hs 156 rfl) (by decide) (by decide) hw1055 (Or.inl rfl) ?_
      refine hf_iconst (v := 1) dX12_tells_248 (by decide) ?_
      refine hf_iadd dX12_tells_249 ?_
      refine hf_puti (c := 12) (j := 19) dX12_tells_250 (hs.2.1 156 _ rfl) (hf_lin hs 156 rfl) (by decide) (by decide) hw1055 rfl rfl ?_
      refine hf_goto (tgt := 103) dX12_tells_253 (by decide) ?_
      refine hf_drop (l' := [some (.ref 156), some (.int x1), none, none, some (.long x4), none, none, none, none, none, none]) (by simp [hf_sub]) ?_
      exact h
    · replace h := h.2 hc
      refine hf_iload dX12_tells_196 rfl ?_
      refine hf_if_eq (tgt := 243) dX12_tells_198 (by decide) (fun hc => absurd (show (1 : Int32) = (0 : Int32) from hc) (by decide)) (fun _ => ?_)
      refine hf_aload_n dX12_tells_201 rfl rfl ?_
      refine hf_geti (c := 12) (j := 21) dX12_tells_202 (hs.2.1 156 _ rfl) (hf_lin hs 156 rfl) (by decide) (by decide) hw1057 (Or.inr rfl) ?_
      refine hf_if_ne (tgt := 243) dX12_tells_205 (by decide) (fun hc => ?_) (fun hc => ?_)
      · replace h := h.1 hc
        refine hf_aload_n dX12_tells_243 rfl rfl ?_
        refine hf_dup dX12_tells_244 rfl ?_
        refine hf_geti (c := 12) (j := 19) dX12_tells_245 (hs.2.1 156 _ rfl) (hf_lin hs 156 rfl) (by decide) (by decide) hw1055 (Or.inl rfl) ?_
        refine hf_iconst (v := 1) dX12_tells_248 (by decide) ?_
        refine hf_iadd dX12_tells_249 ?_
        refine hf_puti (c := 12) (j := 19) dX12_tells_250 (hs.2.1 156 _ rfl) (hf_lin hs 156 rfl) (by decide) (by decide) hw1055 rfl rfl ?_
        refine hf_goto (tgt := 103) dX12_tells_253 (by decide) ?_
        refine hf_drop (l' := [some (.ref 156), some (.int x1), none, none, some (.long x4), none, none, none, none, none, none]) (by simp [hf_sub]) ?_
        exact h
      · replace h := h.2 hc
        refine hf_iload dX12_tells_208 rfl ?_
        refine hf_if_ne (tgt := 243) dX12_tells_210 (by decide) (fun hc => ?_) (fun hc => ?_)
        · replace h := h.1 hc
          refine hf_aload_n dX12_tells_243 rfl rfl ?_
          refine hf_dup dX12_tells_244 rfl ?_
          refine hf_geti (c := 12) (j := 19) dX12_tells_245 (hs.2.1 156 _ rfl) (hf_lin hs 156 rfl) (by decide) (by decide) hw1055 (Or.inl rfl) ?_
          refine hf_iconst (v := 1) dX12_tells_248 (by decide) ?_
          refine hf_iadd dX12_tells_249 ?_
          refine hf_puti (c := 12) (j := 19) dX12_tells_250 (hs.2.1 156 _ rfl) (hf_lin hs 156 rfl) (by decide) (by decide) hw1055 rfl rfl ?_
          refine hf_goto (tgt := 103) dX12_tells_253 (by decide) ?_
          refine hf_drop (l' := [some (.ref 156), some (.int x1), none, none, some (.long x4), none, none, none, none, none, none]) (by simp [hf_sub]) ?_
          exact h
        · replace h := h.2 hc
          refine hf_lload dX12_tells_213 rfl ?_
          refine hf_lconst (v := 0) dX12_tells_215 (by decide) ?_
          refine hf_lcmp dX12_tells_216 ?_
          refine hf_if_ge (tgt := 224) dX12_tells_217 (by decide) (fun hc => ?_) (fun hc => ?_)
          · replace h := h.1 hc
            refine hf_lload dX12_tells_224 rfl ?_
            refine hf_ldc2 (v := 999) dX12_tells_226 hw1255 ?_
            refine hf_lcmp dX12_tells_229 ?_
            refine hf_if_le (tgt := 239) dX12_tells_230 (by decide) (fun hc => ?_) (fun hc => ?_)
            · replace h := h.1 hc
              refine hf_lload dX12_tells_239 rfl ?_
              refine hf_lstore (l2 := [some (.ref 156), some (.int x1), none, none, some (.long x7), none, some (.int x6), some (.long x7), none, some (.int x9), some (.int 1)]) dX12_tells_241 (by decide) rfl ?_
              refine hf_aload_n dX12_tells_243 rfl rfl ?_
              refine hf_dup dX12_tells_244 rfl ?_
              refine hf_geti (c := 12) (j := 19) dX12_tells_245 (hs.2.1 156 _ rfl) (hf_lin hs 156 rfl) (by decide) (by decide) hw1055 (Or.inl rfl) ?_
              refine hf_iconst (v := 1) dX12_tells_248 (by decide) ?_
              refine hf_iadd dX12_tells_249 ?_
              refine hf_puti (c := 12) (j := 19) dX12_tells_250 (hs.2.1 156 _ rfl) (hf_lin hs 156 rfl) (by decide) (by decide) hw1055 rfl rfl ?_
              refine hf_goto (tgt := 103) dX12_tells_253 (by decide) ?_
              refine hf_drop (l' := [some (.ref 156), some (.int x1), none, none, some (.long x7), none, none, none, none, none, none]) (by simp [hf_sub]) ?_
              exact h
            · replace h := h.2 hc
              refine hf_ldc2 (v := 999) dX12_tells_233 hw1255 ?_
              refine hf_goto (tgt := 241) dX12_tells_236 (by decide) ?_
              refine hf_lstore (l2 := [some (.ref 156), some (.int x1), none, none, some (.long 999), none, some (.int x6), some (.long x7), none, some (.int x9), some (.int 1)]) dX12_tells_241 (by decide) rfl ?_
              refine hf_aload_n dX12_tells_243 rfl rfl ?_
              refine hf_dup dX12_tells_244 rfl ?_
              refine hf_geti (c := 12) (j := 19) dX12_tells_245 (hs.2.1 156 _ rfl) (hf_lin hs 156 rfl) (by decide) (by decide) hw1055 (Or.inl rfl) ?_
              refine hf_iconst (v := 1) dX12_tells_248 (by decide) ?_
              refine hf_iadd dX12_tells_249 ?_
              refine hf_puti (c := 12) (j := 19) dX12_tells_250 (hs.2.1 156 _ rfl) (hf_lin hs 156 rfl) (by decide) (by decide) hw1055 rfl rfl ?_
              refine hf_goto (tgt := 103) dX12_tells_253 (by decide) ?_
              refine hf_drop (l' := [some (.ref 156), some (.int x1), none, none, some (.long 999), none, none, none, none, none, none]) (by simp [hf_sub]) ?_
              exact h
          · replace h := h.2 hc
            refine hf_lconst (v := 0) dX12_tells_220 (by decide) ?_
            refine hf_goto (tgt := 241) dX12_tells_221 (by decide) ?_
            refine hf_lstore (l2 := [some (.ref 156), some (.int x1), none, none, some (.long 0), none, some (.int x6), some (.long x7), none, some (.int x9), some (.int 1)]) dX12_tells_241 (by decide) rfl ?_
            refine hf_aload_n dX12_tells_243 rfl rfl ?_
            refine hf_dup dX12_tells_244 rfl ?_
            refine hf_geti (c := 12) (j := 19) dX12_tells_245 (hs.2.1 156 _ rfl) (hf_lin hs 156 rfl) (by decide) (by decide) hw1055 (Or.inl rfl) ?_
            refine hf_iconst (v := 1) dX12_tells_248 (by decide) ?_
            refine hf_iadd dX12_tells_249 ?_
            refine hf_puti (c := 12) (j := 19) dX12_tells_250 (hs.2.1 156 _ rfl) (hf_lin hs 156 rfl) (by decide) (by decide) hw1055 rfl rfl ?_
            refine hf_goto (tgt := 103) dX12_tells_253 (by decide) ?_
            refine hf_drop (l' := [some (.ref 156), some (.int x1), none, none, some (.long 0), none, none, none, none, none, none]) (by simp [hf_sub]) ?_
            exact h
  · replace h := h.2 hc
    refine hf_aload_n dX12_tells_175 rfl rfl ?_
    refine hf_iconst (v := 1) dX12_tells_176 (by decide) ?_
    exact hf_callV (c := 12) (as := [.int 1]) ok_X12_testOf dX12_tells_177 hw1243 hw1244 hw1621 (hs.2.1 156 _ rfl) (by decide) (hf_lin hs 156 rfl) rfl (Nat.le_of_ble_eq_true rfl) rfl (Nat.le_of_ble_eq_true rfl) (Nat.zero_le _) (Nat.zero_le _) h

set_option maxHeartbeats 4000000 in
theorem w_X12_tells_180 {X : hf_X} {d k n t : Nat} {T : hf_T} {I : hf_I} {L : hf_L} {P : hf_P} {Q : Option Value → hf_M → Prop} {x1 : Int32} {x4 : Int64} {x6 : Int32} {x7 : Int64} {x9 : Int32} {s0 : Int32} (hs : hf_Lay t T P) (h : (s0 = 0 → (¬ x6 = x1 → hf_G X Y_X12_tells d k n 103 [some (.ref 156), some (.int x1), none, none, some (.long x4), none, none, none, none, none, none] [] (t, T, (hf_up I 156 19 ((I 156 19) + 1)), L, P) Q) ∧ (x6 = x1 → hf_G X Y_X12_tells d k n 103 [some (.ref 156), some (.int x1), none, none, some (.long x4), none, none, none, none, none, none] [] (t, T, (hf_up I 156 19 ((I 156 19) + 1)), L, P) Q)) ∧ (¬ (s0 = 0) → (¬ x6 = x1 → hf_G X Y_X12_tells d k n 103 [some (.ref 156), some (.int x1), none, none, some (.long x4), none, none, none, none, none, none] [] (t, T, (hf_up I 156 19 ((I 156 19) + 1)), L, P) Q) ∧ (x6 = x1 → (¬ (I 156 21) = 0 → hf_G X Y_X12_tells d k n 103 [some (.ref 156), some (.int x1), none, none, some (.long x4), none, none, none, none, none, none] [] (t, T, (hf_up I 156 19 ((I 156 19) + 1)), L, P) Q) ∧ ((I 156 21) = 0 → (¬ x9 = 0 → hf_G X Y_X12_tells d k n 103 [some (.ref 156), some (.int x1), none, none, some (.long x4), none, none, none, none, none, none] [] (t, T, (hf_up I 156 19 ((I 156 19) + 1)), L, P) Q) ∧ (x9 = 0 → (0 ≤ (lg_cmp x7 0) → ((lg_cmp x7 999) ≤ 0 → hf_G X Y_X12_tells d k n 103 [some (.ref 156), some (.int x1), none, none, some (.long x7), none, none, none, none, none, none] [] (t, T, (hf_up I 156 19 ((I 156 19) + 1)), L, P) Q) ∧ (¬ ((lg_cmp x7 999) ≤ 0) → hf_G X Y_X12_tells d k n 103 [some (.ref 156), some (.int x1), none, none, some (.long 999), none, none, none, none, none, none] [] (t, T, (hf_up I 156 19 ((I 156 19) + 1)), L, P) Q)) ∧ (¬ (0 ≤ (lg_cmp x7 0)) → hf_G X Y_X12_tells d k n 103 [some (.ref 156), some (.int x1), none, none, some (.long 0), none, none, none, none, none, none] [] (t, T, (hf_up I 156 19 ((I 156 19) + 1)), L, P) Q)))))) : hf_G X Y_X12_tells d k n 180 [some (.ref 156), some (.int x1), none, none, some (.long x4), none, some (.int x6), some (.long x7), none, some (.int x9), none] [.int s0] (t, T, I, L, P) Q := by
  refine hf_if_eq (tgt := 187) dX12_tells_180 (by decide) (fun hc => ?_) (fun hc => ?_)
  · replace h := h.1 hc
    refine hf_iconst (v := 0) dX12_tells_187 (by decide) ?_
    refine hf_istore (l2 := [some (.ref 156), some (.int x1), none, none, some (.long x4), none, some (.int x6), some (.long x7), none, some (.int x9), some (.int 0)]) dX12_tells_188 (by decide) rfl ?_
    refine hf_iload dX12_tells_190 rfl ?_
    refine hf_iload_n dX12_tells_192 rfl rfl ?_
    refine hf_icmp_ne (tgt := 243) dX12_tells_193 (by decide) (fun hc => ?_) (fun hc => ?_)
    · replace h := h.1 hc
      refine hf_aload_n dX12_tells_243 rfl rfl ?_
      refine hf_dup dX12_tells_244 rfl ?_
      refine hf_geti (c := 12) (j := 19) dX12_tells_245 (hs.2.1 156 _ rfl) (hf_lin hs 156 rfl) (by decide) (by decide) hw1055 (Or.inl rfl) ?_
      refine hf_iconst (v := 1) dX12_tells_248 (by decide) ?_
      refine hf_iadd dX12_tells_249 ?_
      refine hf_puti (c := 12) (j := 19) dX12_tells_250 (hs.2.1 156 _ rfl) (hf_lin hs 156 rfl) (by decide) (by decide) hw1055 rfl rfl ?_
      refine hf_goto (tgt := 103) dX12_tells_253 (by decide) ?_
      refine hf_drop (l' := [some (.ref 156), some (.int x1), none, none, some (.long x4), none, none, none, none, none, none]) (by simp [hf_sub]) ?_
      exact h
    · replace h := h.2 hc
      refine hf_iload dX12_tells_196 rfl ?_
      refine hf_if_eq (tgt := 243) dX12_tells_198 (by decide) (fun _ => ?_) (fun hc => absurd (show (0 : Int32) = (0 : Int32) by decide) hc)
      refine hf_aload_n dX12_tells_243 rfl rfl ?_
      refine hf_dup dX12_tells_244 rfl ?_
      refine hf_geti (c := 12) (j := 19) dX12_tells_245 (hs.2.1 156 _ rfl) (hf_lin hs 156 rfl) (by decide) (by decide) hw1055 (Or.inl rfl) ?_
      refine hf_iconst (v := 1) dX12_tells_248 (by decide) ?_
      refine hf_iadd dX12_tells_249 ?_
      refine hf_puti (c := 12) (j := 19) dX12_tells_250 (hs.2.1 156 _ rfl) (hf_lin hs 156 rfl) (by decide) (by decide) hw1055 rfl rfl ?_
      refine hf_goto (tgt := 103) dX12_tells_253 (by decide) ?_
      refine hf_drop (l' := [some (.ref 156), some (.int x1), none, none, some (.long x4), none, none, none, none, none, none]) (by simp [hf_sub]) ?_
      exact h
  · replace h := h.2 hc
    refine hf_iconst (v := 1) dX12_tells_183 (by decide) ?_
    refine hf_goto (tgt := 188) dX12_tells_184 (by decide) ?_
    refine hf_istore (l2 := [some (.ref 156), some (.int x1), none, none, some (.long x4), none, some (.int x6), some (.long x7), none, some (.int x9), some (.int 1)]) dX12_tells_188 (by decide) rfl ?_
    refine hf_iload dX12_tells_190 rfl ?_
    refine hf_iload_n dX12_tells_192 rfl rfl ?_
    refine hf_icmp_ne (tgt := 243) dX12_tells_193 (by decide) (fun hc => ?_) (fun hc => ?_)
    · replace h := h.1 hc
      refine hf_aload_n dX12_tells_243 rfl rfl ?_
      refine hf_dup dX12_tells_244 rfl ?_
      refine hf_geti (c := 12) (j := 19) dX12_tells_245 (hs.2.1 156 _ rfl) (hf_lin hs 156 rfl) (by decide) (by decide) hw1055 (Or.inl rfl) ?_
      refine hf_iconst (v := 1) dX12_tells_248 (by decide) ?_
      refine hf_iadd dX12_tells_249 ?_
      refine hf_puti (c := 12) (j := 19) dX12_tells_250 (hs.2.1 156 _ rfl) (hf_lin hs 156 rfl) (by decide) (by decide) hw1055 rfl rfl ?_
      refine hf_goto (tgt := 103) dX12_tells_253 (by decide) ?_
      refine hf_drop (l' := [some (.ref 156), some (.int x1), none, none, some (.long x4), none, none, none, none, none, none]) (by simp [hf_sub]) ?_
      exact h
    · replace h := h.2 hc
      refine hf_iload dX12_tells_196 rfl ?_
      refine hf_if_eq (tgt := 243) dX12_tells_198 (by decide) (fun hc => absurd (show (1 : Int32) = (0 : Int32) from hc) (by decide)) (fun _ => ?_)
      refine hf_aload_n dX12_tells_201 rfl rfl ?_
      refine hf_geti (c := 12) (j := 21) dX12_tells_202 (hs.2.1 156 _ rfl) (hf_lin hs 156 rfl) (by decide) (by decide) hw1057 (Or.inr rfl) ?_
      refine hf_if_ne (tgt := 243) dX12_tells_205 (by decide) (fun hc => ?_) (fun hc => ?_)
      · replace h := h.1 hc
        refine hf_aload_n dX12_tells_243 rfl rfl ?_
        refine hf_dup dX12_tells_244 rfl ?_
        refine hf_geti (c := 12) (j := 19) dX12_tells_245 (hs.2.1 156 _ rfl) (hf_lin hs 156 rfl) (by decide) (by decide) hw1055 (Or.inl rfl) ?_
        refine hf_iconst (v := 1) dX12_tells_248 (by decide) ?_
        refine hf_iadd dX12_tells_249 ?_
        refine hf_puti (c := 12) (j := 19) dX12_tells_250 (hs.2.1 156 _ rfl) (hf_lin hs 156 rfl) (by decide) (by decide) hw1055 rfl rfl ?_
        refine hf_goto (tgt := 103) dX12_tells_253 (by decide) ?_
        refine hf_drop (l' := [some (.ref 156), some (.int x1), none, none, some (.long x4), none, none, none, none, none, none]) (by simp [hf_sub]) ?_
        exact h
      · replace h := h.2 hc
        refine hf_iload dX12_tells_208 rfl ?_
        refine hf_if_ne (tgt := 243) dX12_tells_210 (by decide) (fun hc => ?_) (fun hc => ?_)
        · replace h := h.1 hc
          refine hf_aload_n dX12_tells_243 rfl rfl ?_
          refine hf_dup dX12_tells_244 rfl ?_
          refine hf_geti (c := 12) (j := 19) dX12_tells_245 (hs.2.1 156 _ rfl) (hf_lin hs 156 rfl) (by decide) (by decide) hw1055 (Or.inl rfl) ?_
          refine hf_iconst (v := 1) dX12_tells_248 (by decide) ?_
          refine hf_iadd dX12_tells_249 ?_
          refine hf_puti (c := 12) (j := 19) dX12_tells_250 (hs.2.1 156 _ rfl) (hf_lin hs 156 rfl) (by decide) (by decide) hw1055 rfl rfl ?_
          refine hf_goto (tgt := 103) dX12_tells_253 (by decide) ?_
          refine hf_drop (l' := [some (.ref 156), some (.int x1), none, none, some (.long x4), none, none, none, none, none, none]) (by simp [hf_sub]) ?_
          exact h
        · replace h := h.2 hc
          refine hf_lload dX12_tells_213 rfl ?_
          refine hf_lconst (v := 0) dX12_tells_215 (by decide) ?_
          refine hf_lcmp dX12_tells_216 ?_
          refine hf_if_ge (tgt := 224) dX12_tells_217 (by decide) (fun hc => ?_) (fun hc => ?_)
          · replace h := h.1 hc
            refine hf_lload dX12_tells_224 rfl ?_
            refine hf_ldc2 (v := 999) dX12_tells_226 hw1255 ?_
            refine hf_lcmp dX12_tells_229 ?_
            refine hf_if_le (tgt := 239) dX12_tells_230 (by decide) (fun hc => ?_) (fun hc => ?_)
            · replace h := h.1 hc
              refine hf_lload dX12_tells_239 rfl ?_
              refine hf_lstore (l2 := [some (.ref 156), some (.int x1), none, none, some (.long x7), none, some (.int x6), some (.long x7), none, some (.int x9), some (.int 1)]) dX12_tells_241 (by decide) rfl ?_
              refine hf_aload_n dX12_tells_243 rfl rfl ?_
              refine hf_dup dX12_tells_244 rfl ?_
              refine hf_geti (c := 12) (j := 19) dX12_tells_245 (hs.2.1 156 _ rfl) (hf_lin hs 156 rfl) (by decide) (by decide) hw1055 (Or.inl rfl) ?_
              refine hf_iconst (v := 1) dX12_tells_248 (by decide) ?_
              refine hf_iadd dX12_tells_249 ?_
              refine hf_puti (c := 12) (j := 19) dX12_tells_250 (hs.2.1 156 _ rfl) (hf_lin hs 156 rfl) (by decide) (by decide) hw1055 rfl rfl ?_
              refine hf_goto (tgt := 103) dX12_tells_253 (by decide) ?_
              refine hf_drop (l' := [some (.ref 156), some (.int x1), none, none, some (.long x7), none, none, none, none, none, none]) (by simp [hf_sub]) ?_
              exact h
            · replace h := h.2 hc
              refine hf_ldc2 (v := 999) dX12_tells_233 hw1255 ?_
              refine hf_goto (tgt := 241) dX12_tells_236 (by decide) ?_
              refine hf_lstore (l2 := [some (.ref 156), some (.int x1), none, none, some (.long 999), none, some (.int x6), some (.long x7), none, some (.int x9), some (.int 1)]) dX12_tells_241 (by decide) rfl ?_
              refine hf_aload_n dX12_tells_243 rfl rfl ?_
              refine hf_dup dX12_tells_244 rfl ?_
              refine hf_geti (c := 12) (j := 19) dX12_tells_245 (hs.2.1 156 _ rfl) (hf_lin hs 156 rfl) (by decide) (by decide) hw1055 (Or.inl rfl) ?_
              refine hf_iconst (v := 1) dX12_tells_248 (by decide) ?_
              refine hf_iadd dX12_tells_249 ?_
              refine hf_puti (c := 12) (j := 19) dX12_tells_250 (hs.2.1 156 _ rfl) (hf_lin hs 156 rfl) (by decide) (by decide) hw1055 rfl rfl ?_
              refine hf_goto (tgt := 103) dX12_tells_253 (by decide) ?_
              refine hf_drop (l' := [some (.ref 156), some (.int x1), none, none, some (.long 999), none, none, none, none, none, none]) (by simp [hf_sub]) ?_
              exact h
          · replace h := h.2 hc
            refine hf_lconst (v := 0) dX12_tells_220 (by decide) ?_
            refine hf_goto (tgt := 241) dX12_tells_221 (by decide) ?_
            refine hf_lstore (l2 := [some (.ref 156), some (.int x1), none, none, some (.long 0), none, some (.int x6), some (.long x7), none, some (.int x9), some (.int 1)]) dX12_tells_241 (by decide) rfl ?_
            refine hf_aload_n dX12_tells_243 rfl rfl ?_
            refine hf_dup dX12_tells_244 rfl ?_
            refine hf_geti (c := 12) (j := 19) dX12_tells_245 (hs.2.1 156 _ rfl) (hf_lin hs 156 rfl) (by decide) (by decide) hw1055 (Or.inl rfl) ?_
            refine hf_iconst (v := 1) dX12_tells_248 (by decide) ?_
            refine hf_iadd dX12_tells_249 ?_
            refine hf_puti (c := 12) (j := 19) dX12_tells_250 (hs.2.1 156 _ rfl) (hf_lin hs 156 rfl) (by decide) (by decide) hw1055 rfl rfl ?_
            refine hf_goto (tgt := 103) dX12_tells_253 (by decide) ?_
            refine hf_drop (l' := [some (.ref 156), some (.int x1), none, none, some (.long 0), none, none, none, none, none, none]) (by simp [hf_sub]) ?_
            exact h

set_option maxHeartbeats 4000000 in
theorem w_X12_setsWord_0 {X : hf_X} {d k n t : Nat} {T : hf_T} {I : hf_I} {L : hf_L} {P : hf_P} {Q : Option Value → hf_M → Prop} {x1 : Int32} (hs : hf_Lay t T P) (h : vp_in ((53 + (13 * x1)) + 0) 5929 ∧ (vp_in ((53 + (13 * x1)) + 1) 5929 ∧ (vp_in ((53 + (13 * x1)) + 2) 5929 ∧ (vp_in ((53 + (13 * x1)) + 3) 5929 ∧ (hf_G X Y_X12_setsWord (d + 1) k n 57 [some (.ref 156), none, some (.int 5)] [] (t, T, (hf_up (hf_up (hf_up (hf_up (hf_up I 168 0 x1) 168 1 (I 158 ((((53 + (13 * x1)) + 0)).toNatClampNeg))) 168 2 (I 158 ((((53 + (13 * x1)) + 1)).toNatClampNeg))) 168 3 (I 158 ((((53 + (13 * x1)) + 2)).toNatClampNeg))) 168 4 (I 158 ((((53 + (13 * x1)) + 3)).toNatClampNeg))), L, P) Q))))) : hf_G X Y_X12_setsWord (d + 1) k n 0 (hf_en [.ref 156, .int x1] 3) [] (t, T, I, L, P) Q := by
  show hf_G X Y_X12_setsWord (d + 1) k n 0 [some (.ref 156), some (.int x1), none] [] (t, T, I, L, P) Q
  refine hf_aload_n dX12_setsWord_0 rfl rfl ?_
  refine hf_getr (b := 168) (c := 12) (j := 23) dX12_setsWord_1 (hs.2.1 156 _ rfl) (hf_lin hs 156 rfl) (by decide) (by decide) hw1059 rfl (hs.2.2 156 23 _ rfl) ?_
  refine hf_iconst (v := 0) dX12_setsWord_4 (by decide) ?_
  refine hf_iload_n dX12_setsWord_5 rfl rfl ?_
  refine hf_iast_k (j := 0) (by decide) dX12_setsWord_6 (hs.2.1 168 _ rfl) (hf_lin hs 168 rfl) (hf_vin (by decide)) ?_
  refine hf_aload_n dX12_setsWord_7 rfl rfl ?_
  refine hf_getr (b := 168) (c := 12) (j := 23) dX12_setsWord_8 (hs.2.1 156 _ rfl) (hf_lin hs 156 rfl) (by decide) (by decide) hw1059 rfl (hs.2.2 156 23 _ rfl) ?_
  refine hf_iconst (v := 1) dX12_setsWord_11 (by decide) ?_
  refine hf_aload_n dX12_setsWord_12 rfl rfl ?_
  refine hf_iload_n dX12_setsWord_13 rfl rfl ?_
  refine hf_iconst (v := 0) dX12_setsWord_14 (by decide) ?_
  refine hf_callV (c := 12) (as := [.int x1, .int 0]) ok_X12_fact dX12_setsWord_15 hw1189 hw1190 hw1606 (hs.2.1 156 _ rfl) (by decide) (hf_lin hs 156 rfl) rfl (Nat.le_of_ble_eq_true rfl) rfl (Nat.le_of_ble_eq_true rfl) (Nat.zero_le _) (Nat.zero_le _) ?_
  show hf_G X Y_X12_fact d _ _ 0 [some (.ref 156), some (.int x1), some (.int 0)] [] (t, T, (hf_up I 168 0 x1), L, P) _
  refine hf_aload_n dX12_fact_0 rfl rfl ?_
  refine hf_getr (b := 158) (c := 12) (j := 2) dX12_fact_1 (hs.2.1 156 _ rfl) (hf_lin hs 156 rfl) (by decide) (by decide) hw1038 rfl (hs.2.2 156 2 _ rfl) ?_
  refine hf_bipush (v := 53) dX12_fact_4 (by decide) ?_
  refine hf_bipush (v := 13) dX12_fact_6 (by decide) ?_
  refine hf_iload_n dX12_fact_8 rfl rfl ?_
  refine hf_imul dX12_fact_9 ?_
  refine hf_iadd dX12_fact_10 ?_
  refine hf_iload_n dX12_fact_11 rfl rfl ?_
  refine hf_iadd dX12_fact_12 ?_
  refine hf_iald dX12_fact_13 (hs.2.1 158 _ rfl) (hf_lin hs 158 rfl) h.1 ?_
  replace h := h.2
  refine hf_ireturn dX12_fact_14 rfl rfl ?_
  show hf_G X Y_X12_setsWord (d + 1) _ _ 18 [some (.ref 156), some (.int x1), none] [.int (I 158 ((((53 + (13 * x1)) + 0)).toNatClampNeg)), .int 1, .ref 168] (t, T, (hf_up I 168 0 x1), L, P) _
  refine hf_iast_k (j := 1) (by decide) dX12_setsWord_18 (hs.2.1 168 _ rfl) (hf_lin hs 168 rfl) (hf_vin (by decide)) ?_
  refine hf_aload_n dX12_setsWord_19 rfl rfl ?_
  refine hf_getr (b := 168) (c := 12) (j := 23) dX12_setsWord_20 (hs.2.1 156 _ rfl) (hf_lin hs 156 rfl) (by decide) (by decide) hw1059 rfl (hs.2.2 156 23 _ rfl) ?_
  refine hf_iconst (v := 2) dX12_setsWord_23 (by decide) ?_
  refine hf_aload_n dX12_setsWord_24 rfl rfl ?_
  refine hf_iload_n dX12_setsWord_25 rfl rfl ?_
  refine hf_iconst (v := 1) dX12_setsWord_26 (by decide) ?_
  refine hf_callV (c := 12) (as := [.int x1, .int 1]) ok_X12_fact dX12_setsWord_27 hw1189 hw1190 hw1606 (hs.2.1 156 _ rfl) (by decide) (hf_lin hs 156 rfl) rfl (Nat.le_of_ble_eq_true rfl) rfl (Nat.le_of_ble_eq_true rfl) (Nat.zero_le _) (Nat.zero_le _) ?_
  show hf_G X Y_X12_fact d _ _ 0 [some (.ref 156), some (.int x1), some (.int 1)] [] (t, T, (hf_up (hf_up I 168 0 x1) 168 1 (I 158 ((((53 + (13 * x1)) + 0)).toNatClampNeg))), L, P) _
  refine hf_aload_n dX12_fact_0 rfl rfl ?_
  refine hf_getr (b := 158) (c := 12) (j := 2) dX12_fact_1 (hs.2.1 156 _ rfl) (hf_lin hs 156 rfl) (by decide) (by decide) hw1038 rfl (hs.2.2 156 2 _ rfl) ?_
  refine hf_bipush (v := 53) dX12_fact_4 (by decide) ?_
  refine hf_bipush (v := 13) dX12_fact_6 (by decide) ?_
  refine hf_iload_n dX12_fact_8 rfl rfl ?_
  refine hf_imul dX12_fact_9 ?_
  refine hf_iadd dX12_fact_10 ?_
  refine hf_iload_n dX12_fact_11 rfl rfl ?_
  refine hf_iadd dX12_fact_12 ?_
  refine hf_iald dX12_fact_13 (hs.2.1 158 _ rfl) (hf_lin hs 158 rfl) h.1 ?_
  replace h := h.2
  refine hf_ireturn dX12_fact_14 rfl rfl ?_
  show hf_G X Y_X12_setsWord (d + 1) _ _ 30 [some (.ref 156), some (.int x1), none] [.int (I 158 ((((53 + (13 * x1)) + 1)).toNatClampNeg)), .int 2, .ref 168] (t, T, (hf_up (hf_up I 168 0 x1) 168 1 (I 158 ((((53 + (13 * x1)) + 0)).toNatClampNeg))), L, P) _
  refine hf_iast_k (j := 2) (by decide) dX12_setsWord_30 (hs.2.1 168 _ rfl) (hf_lin hs 168 rfl) (hf_vin (by decide)) ?_
  refine hf_aload_n dX12_setsWord_31 rfl rfl ?_
  refine hf_getr (b := 168) (c := 12) (j := 23) dX12_setsWord_32 (hs.2.1 156 _ rfl) (hf_lin hs 156 rfl) (by decide) (by decide) hw1059 rfl (hs.2.2 156 23 _ rfl) ?_
  refine hf_iconst (v := 3) dX12_setsWord_35 (by decide) ?_
  refine hf_aload_n dX12_setsWord_36 rfl rfl ?_
  refine hf_iload_n dX12_setsWord_37 rfl rfl ?_
  refine hf_iconst (v := 2) dX12_setsWord_38 (by decide) ?_
  refine hf_callV (c := 12) (as := [.int x1, .int 2]) ok_X12_fact dX12_setsWord_39 hw1189 hw1190 hw1606 (hs.2.1 156 _ rfl) (by decide) (hf_lin hs 156 rfl) rfl (Nat.le_of_ble_eq_true rfl) rfl (Nat.le_of_ble_eq_true rfl) (Nat.zero_le _) (Nat.zero_le _) ?_
  show hf_G X Y_X12_fact d _ _ 0 [some (.ref 156), some (.int x1), some (.int 2)] [] (t, T, (hf_up (hf_up (hf_up I 168 0 x1) 168 1 (I 158 ((((53 + (13 * x1)) + 0)).toNatClampNeg))) 168 2 (I 158 ((((53 + (13 * x1)) + 1)).toNatClampNeg))), L, P) _
  refine hf_aload_n dX12_fact_0 rfl rfl ?_
  refine hf_getr (b := 158) (c := 12) (j := 2) dX12_fact_1 (hs.2.1 156 _ rfl) (hf_lin hs 156 rfl) (by decide) (by decide) hw1038 rfl (hs.2.2 156 2 _ rfl) ?_
  refine hf_bipush (v := 53) dX12_fact_4 (by decide) ?_
  refine hf_bipush (v := 13) dX12_fact_6 (by decide) ?_
  refine hf_iload_n dX12_fact_8 rfl rfl ?_
  refine hf_imul dX12_fact_9 ?_
  refine hf_iadd dX12_fact_10 ?_
  refine hf_iload_n dX12_fact_11 rfl rfl ?_
  refine hf_iadd dX12_fact_12 ?_
  refine hf_iald dX12_fact_13 (hs.2.1 158 _ rfl) (hf_lin hs 158 rfl) h.1 ?_
  replace h := h.2
  refine hf_ireturn dX12_fact_14 rfl rfl ?_
  show hf_G X Y_X12_setsWord (d + 1) _ _ 42 [some (.ref 156), some (.int x1), none] [.int (I 158 ((((53 + (13 * x1)) + 2)).toNatClampNeg)), .int 3, .ref 168] (t, T, (hf_up (hf_up (hf_up I 168 0 x1) 168 1 (I 158 ((((53 + (13 * x1)) + 0)).toNatClampNeg))) 168 2 (I 158 ((((53 + (13 * x1)) + 1)).toNatClampNeg))), L, P) _
  refine hf_iast_k (j := 3) (by decide) dX12_setsWord_42 (hs.2.1 168 _ rfl) (hf_lin hs 168 rfl) (hf_vin (by decide)) ?_
  refine hf_aload_n dX12_setsWord_43 rfl rfl ?_
  refine hf_getr (b := 168) (c := 12) (j := 23) dX12_setsWord_44 (hs.2.1 156 _ rfl) (hf_lin hs 156 rfl) (by decide) (by decide) hw1059 rfl (hs.2.2 156 23 _ rfl) ?_
  refine hf_iconst (v := 4) dX12_setsWord_47 (by decide) ?_
  refine hf_aload_n dX12_setsWord_48 rfl rfl ?_
  refine hf_iload_n dX12_setsWord_49 rfl rfl ?_
  refine hf_iconst (v := 3) dX12_setsWord_50 (by decide) ?_
  refine hf_callV (c := 12) (as := [.int x1, .int 3]) ok_X12_fact dX12_setsWord_51 hw1189 hw1190 hw1606 (hs.2.1 156 _ rfl) (by decide) (hf_lin hs 156 rfl) rfl (Nat.le_of_ble_eq_true rfl) rfl (Nat.le_of_ble_eq_true rfl) (Nat.zero_le _) (Nat.zero_le _) ?_
  show hf_G X Y_X12_fact d _ _ 0 [some (.ref 156), some (.int x1), some (.int 3)] [] (t, T, (hf_up (hf_up (hf_up (hf_up I 168 0 x1) 168 1 (I 158 ((((53 + (13 * x1)) + 0)).toNatClampNeg))) 168 2 (I 158 ((((53 + (13 * x1)) + 1)).toNatClampNeg))) 168 3 (I 158 ((((53 + (13 * x1)) + 2)).toNatClampNeg))), L, P) _
  refine hf_aload_n dX12_fact_0 rfl rfl ?_
  refine hf_getr (b := 158) (c := 12) (j := 2) dX12_fact_1 (hs.2.1 156 _ rfl) (hf_lin hs 156 rfl) (by decide) (by decide) hw1038 rfl (hs.2.2 156 2 _ rfl) ?_
  refine hf_bipush (v := 53) dX12_fact_4 (by decide) ?_
  refine hf_bipush (v := 13) dX12_fact_6 (by decide) ?_
  refine hf_iload_n dX12_fact_8 rfl rfl ?_
  refine hf_imul dX12_fact_9 ?_
  refine hf_iadd dX12_fact_10 ?_
  refine hf_iload_n dX12_fact_11 rfl rfl ?_
  refine hf_iadd dX12_fact_12 ?_
  refine hf_iald dX12_fact_13 (hs.2.1 158 _ rfl) (hf_lin hs 158 rfl) h.1 ?_
  replace h := h.2
  refine hf_ireturn dX12_fact_14 rfl rfl ?_
  show hf_G X Y_X12_setsWord (d + 1) _ _ 54 [some (.ref 156), some (.int x1), none] [.int (I 158 ((((53 + (13 * x1)) + 3)).toNatClampNeg)), .int 4, .ref 168] (t, T, (hf_up (hf_up (hf_up (hf_up I 168 0 x1) 168 1 (I 158 ((((53 + (13 * x1)) + 0)).toNatClampNeg))) 168 2 (I 158 ((((53 + (13 * x1)) + 1)).toNatClampNeg))) 168 3 (I 158 ((((53 + (13 * x1)) + 2)).toNatClampNeg))), L, P) _
  refine hf_iast_k (j := 4) (by decide) dX12_setsWord_54 (hs.2.1 168 _ rfl) (hf_lin hs 168 rfl) (hf_vin (by decide)) ?_
  refine hf_iconst (v := 5) dX12_setsWord_55 (by decide) ?_
  refine hf_istore_n (l2 := [some (.ref 156), some (.int x1), some (.int 5)]) dX12_setsWord_56 rfl (by decide) rfl ?_
  refine hf_drop (l' := [some (.ref 156), none, some (.int 5)]) (by simp [hf_sub]) ?_
  exact h

set_option maxHeartbeats 4000000 in
theorem w_X12_setsWord_57 {X : hf_X} {d k n t : Nat} {T : hf_T} {I : hf_I} {L : hf_L} {P : hf_P} {Q : Option Value → hf_M → Prop} {x2 : Int32} (hs : hf_Lay t T P) (h : (10 ≤ x2 → Q none (t, T, I, L, P)) ∧ (¬ (10 ≤ x2) → vp_in x2 13 ∧ (hf_G X Y_X12_setsWord d k n 57 [some (.ref 156), none, some (.int (x2 + 1))] [] (t, T, (hf_up I 168 x2.toNatClampNeg (-1)), L, P) Q))) : hf_G X Y_X12_setsWord d k n 57 [some (.ref 156), none, some (.int x2)] [] (t, T, I, L, P) Q := by
  refine hf_iload_n dX12_setsWord_57 rfl rfl ?_
  refine hf_bipush (v := 10) dX12_setsWord_58 (by decide) ?_
  refine hf_icmp_ge (tgt := 76) dX12_setsWord_60 (by decide) (fun hc => ?_) (fun hc => ?_)
  · replace h := h.1 hc
    refine hf_return dX12_setsWord_76 rfl ?_
    exact h
  · replace h := h.2 hc
    refine hf_aload_n dX12_setsWord_63 rfl rfl ?_
    refine hf_getr (b := 168) (c := 12) (j := 23) dX12_setsWord_64 (hs.2.1 156 _ rfl) (hf_lin hs 156 rfl) (by decide) (by decide) hw1059 rfl (hs.2.2 156 23 _ rfl) ?_
    refine hf_iload_n dX12_setsWord_67 rfl rfl ?_
    refine hf_iconst (v := (-1)) dX12_setsWord_68 (by decide) ?_
    refine hf_iast dX12_setsWord_69 (hs.2.1 168 _ rfl) (hf_lin hs 168 rfl) h.1 ?_
    replace h := h.2
    refine hf_iinc (v := (x2 + 1)) (l2 := [some (.ref 156), none, some (.int (x2 + 1))]) dX12_setsWord_70 (by decide) rfl rfl rfl ?_
    refine hf_goto (tgt := 57) dX12_setsWord_73 (by decide) ?_
    exact h

set_option maxHeartbeats 4000000 in
theorem w_X12_losesOf_0 {X : hf_X} {d k n t : Nat} {T : hf_T} {I : hf_I} {L : hf_L} {P : hf_P} {Q : Option Value → hf_M → Prop} {x1 : Int32} (hs : hf_Lay t T P) (h : hf_G X Y_X12_setsWord d 0 0 0 (hf_en [.ref 156, .int x1] 3) [] (t, T, I, L, P) (fun r M => hf_G X Y_X12_losesOf (d + 1) k n 5 [some (.ref 156), some (.int x1)] (r.toList ++ []) M Q)) : hf_G X Y_X12_losesOf (d + 1) k n 0 (hf_en [.ref 156, .int x1] 2) [] (t, T, I, L, P) Q := by
  show hf_G X Y_X12_losesOf (d + 1) k n 0 [some (.ref 156), some (.int x1)] [] (t, T, I, L, P) Q
  refine hf_aload_n dX12_losesOf_0 rfl rfl ?_
  refine hf_iload_n dX12_losesOf_1 rfl rfl ?_
  exact hf_callV (c := 12) (as := [.int x1]) ok_X12_setsWord dX12_losesOf_2 hw1208 hw1209 hw1611 (hs.2.1 156 _ rfl) (by decide) (hf_lin hs 156 rfl) rfl (Nat.le_of_ble_eq_true rfl) rfl (Nat.le_of_ble_eq_true rfl) (Nat.zero_le _) (Nat.zero_le _) h

set_option maxHeartbeats 4000000 in
theorem w_X12_losesOf_5 {X : hf_X} {d k n t : Nat} {T : hf_T} {I : hf_I} {L : hf_L} {P : hf_P} {Q : Option Value → hf_M → Prop} {x1 : Int32} (hs : hf_Lay t T P) (h : vp_in ((53 + (13 * x1)) + 1) 5929 ∧ (hf_G X Y_X12_tells d 0 0 0 (hf_en [.ref 156, .int 1, .int (I 158 315), .int (I 158 ((((53 + (13 * x1)) + 1)).toNatClampNeg))] 11) [] (t, T, I, L, P) (fun r M => hf_G X Y_X12_losesOf (d + 1) k n 24 [none, none] (r.toList ++ []) M Q))) : hf_G X Y_X12_losesOf (d + 1) k n 5 [some (.ref 156), some (.int x1)] [] (t, T, I, L, P) Q := by
  refine hf_aload_n dX12_losesOf_5 rfl rfl ?_
  refine hf_iconst (v := 1) dX12_losesOf_6 (by decide) ?_
  refine hf_aload_n dX12_losesOf_7 rfl rfl ?_
  refine hf_getr (b := 158) (c := 12) (j := 2) dX12_losesOf_8 (hs.2.1 156 _ rfl) (hf_lin hs 156 rfl) (by decide) (by decide) hw1038 rfl (hs.2.2 156 2 _ rfl) ?_
  refine hf_sipush (v := 315) dX12_losesOf_11 (by decide) ?_
  refine hf_iald_k (j := 315) (by decide) dX12_losesOf_14 (hs.2.1 158 _ rfl) (hf_lin hs 158 rfl) (hf_vin (by decide)) ?_
  refine hf_aload_n dX12_losesOf_15 rfl rfl ?_
  refine hf_iload_n dX12_losesOf_16 rfl rfl ?_
  refine hf_iconst (v := 1) dX12_losesOf_17 (by decide) ?_
  refine hf_callV (c := 12) (as := [.int x1, .int 1]) ok_X12_fact dX12_losesOf_18 hw1189 hw1190 hw1606 (hs.2.1 156 _ rfl) (by decide) (hf_lin hs 156 rfl) rfl (Nat.le_of_ble_eq_true rfl) rfl (Nat.le_of_ble_eq_true rfl) (Nat.zero_le _) (Nat.zero_le _) ?_
  show hf_G X Y_X12_fact d _ _ 0 [some (.ref 156), some (.int x1), some (.int 1)] [] (t, T, I, L, P) _
  refine hf_aload_n dX12_fact_0 rfl rfl ?_
  refine hf_getr (b := 158) (c := 12) (j := 2) dX12_fact_1 (hs.2.1 156 _ rfl) (hf_lin hs 156 rfl) (by decide) (by decide) hw1038 rfl (hs.2.2 156 2 _ rfl) ?_
  refine hf_bipush (v := 53) dX12_fact_4 (by decide) ?_
  refine hf_bipush (v := 13) dX12_fact_6 (by decide) ?_
  refine hf_iload_n dX12_fact_8 rfl rfl ?_
  refine hf_imul dX12_fact_9 ?_
  refine hf_iadd dX12_fact_10 ?_
  refine hf_iload_n dX12_fact_11 rfl rfl ?_
  refine hf_iadd dX12_fact_12 ?_
  refine hf_iald dX12_fact_13 (hs.2.1 158 _ rfl) (hf_lin hs 158 rfl) h.1 ?_
  replace h := h.2
  refine hf_ireturn dX12_fact_14 rfl rfl ?_
  show hf_G X Y_X12_losesOf (d + 1) _ _ 21 [some (.ref 156), some (.int x1)] [.int (I 158 ((((53 + (13 * x1)) + 1)).toNatClampNeg)), .int (I 158 315), .int 1, .ref 156] (t, T, I, L, P) _
  exact hf_callV (c := 12) (as := [.int 1, .int (I 158 315), .int (I 158 ((((53 + (13 * x1)) + 1)).toNatClampNeg))]) ok_X12_tells dX12_losesOf_21 hw1211 hw1212 hw1612 (hs.2.1 156 _ rfl) (by decide) (hf_lin hs 156 rfl) rfl (Nat.le_of_ble_eq_true rfl) rfl (Nat.le_of_ble_eq_true rfl) (Nat.zero_le _) (Nat.zero_le _) (hf_mono (fun r M q => hf_drop (l' := [none, none]) (by simp [hf_sub]) q) h)

set_option maxHeartbeats 4000000 in
theorem w_X12_losesOf_24 {X : hf_X} {d k n t : Nat} {T : hf_T} {I : hf_I} {L : hf_L} {P : hf_P} {Q : Option Value → hf_M → Prop} {s0 : Int32} (hs : hf_Lay t T P) (h : Q (some (.int s0)) (t, T, I, L, P)) : hf_G X Y_X12_losesOf d k n 24 [none, none] [.int s0] (t, T, I, L, P) Q := by
  refine hf_ireturn dX12_losesOf_24 rfl rfl ?_
  exact h

set_option maxHeartbeats 4000000 in
theorem w_X12_isBarred_0 {X : hf_X} {d k n t : Nat} {T : hf_T} {I : hf_I} {L : hf_L} {P : hf_P} {Q : Option Value → hf_M → Prop} {x1 : Int32} {x2 : Int32} (hs : hf_Lay t T P) (h : hf_G X Y_X12_setsWord d 0 0 0 (hf_en [.ref 156, .int x1] 3) [] (t, T, I, L, P) (fun r M => hf_G X Y_X12_isBarred (d + 1) k n 5 [some (.ref 156), none, some (.int x2)] (r.toList ++ []) M Q)) : hf_G X Y_X12_isBarred (d + 1) k n 0 (hf_en [.ref 156, .int x1, .int x2] 3) [] (t, T, I, L, P) Q := by
  show hf_G X Y_X12_isBarred (d + 1) k n 0 [some (.ref 156), some (.int x1), some (.int x2)] [] (t, T, I, L, P) Q
  refine hf_aload_n dX12_isBarred_0 rfl rfl ?_
  refine hf_iload_n dX12_isBarred_1 rfl rfl ?_
  exact hf_callV (c := 12) (as := [.int x1]) ok_X12_setsWord dX12_isBarred_2 hw1208 hw1209 hw1611 (hs.2.1 156 _ rfl) (by decide) (hf_lin hs 156 rfl) rfl (Nat.le_of_ble_eq_true rfl) rfl (Nat.le_of_ble_eq_true rfl) (Nat.zero_le _) (Nat.zero_le _) (hf_mono (fun r M q => hf_drop (l' := [some (.ref 156), none, some (.int x2)]) (by simp [hf_sub]) q) h)

set_option maxHeartbeats 4000000 in
theorem w_X12_isBarred_5 {X : hf_X} {d k n t : Nat} {T : hf_T} {I : hf_I} {L : hf_L} {P : hf_P} {Q : Option Value → hf_M → Prop} {x2 : Int32} (hs : hf_Lay t T P) (h : hf_G X Y_X12_tells d 0 0 0 (hf_en [.ref 156, .int 3, .int x2, .int 0] 11) [] (t, T, I, L, P) (fun r M => hf_G X Y_X12_isBarred (d + 1) k n 12 [none, none, none] (r.toList ++ []) M Q)) : hf_G X Y_X12_isBarred (d + 1) k n 5 [some (.ref 156), none, some (.int x2)] [] (t, T, I, L, P) Q := by
  refine hf_aload_n dX12_isBarred_5 rfl rfl ?_
  refine hf_iconst (v := 3) dX12_isBarred_6 (by decide) ?_
  refine hf_iload_n dX12_isBarred_7 rfl rfl ?_
  refine hf_iconst (v := 0) dX12_isBarred_8 (by decide) ?_
  exact hf_callV (c := 12) (as := [.int 3, .int x2, .int 0]) ok_X12_tells dX12_isBarred_9 hw1211 hw1212 hw1612 (hs.2.1 156 _ rfl) (by decide) (hf_lin hs 156 rfl) rfl (Nat.le_of_ble_eq_true rfl) rfl (Nat.le_of_ble_eq_true rfl) (Nat.zero_le _) (Nat.zero_le _) (hf_mono (fun r M q => hf_drop (l' := [none, none, none]) (by simp [hf_sub]) q) h)

set_option maxHeartbeats 4000000 in
theorem w_X12_isBarred_12 {X : hf_X} {d k n t : Nat} {T : hf_T} {I : hf_I} {L : hf_L} {P : hf_P} {Q : Option Value → hf_M → Prop} {s0 : Int32} (hs : hf_Lay t T P) (h : (¬ s0 = 1 → Q (some (.int 0)) (t, T, I, L, P)) ∧ (s0 = 1 → Q (some (.int 1)) (t, T, I, L, P))) : hf_G X Y_X12_isBarred d k n 12 [none, none, none] [.int s0] (t, T, I, L, P) Q := by
  refine hf_iconst (v := 1) dX12_isBarred_12 (by decide) ?_
  refine hf_icmp_ne (tgt := 20) dX12_isBarred_13 (by decide) (fun hc => ?_) (fun hc => ?_)
  · replace h := h.1 hc
    refine hf_iconst (v := 0) dX12_isBarred_20 (by decide) ?_
    refine hf_ireturn dX12_isBarred_21 rfl (by decide) ?_
    exact h
  · replace h := h.2 hc
    refine hf_iconst (v := 1) dX12_isBarred_16 (by decide) ?_
    refine hf_goto (tgt := 21) dX12_isBarred_17 (by decide) ?_
    refine hf_ireturn dX12_isBarred_21 rfl (by decide) ?_
    exact h

set_option maxHeartbeats 4000000 in
theorem w_X12_costOf_0 {X : hf_X} {d k n t : Nat} {T : hf_T} {I : hf_I} {L : hf_L} {P : hf_P} {Q : Option Value → hf_M → Prop} {x1 : Int32} {x2 : Int32} {x3 : Int32} {x4 : Int32} {x5 : Int32} (hs : hf_Lay t T P) (h : hf_G X Y_X12_costOf d k n 3 [some (.ref 156), some (.int x1), some (.int x2), some (.int x3), some (.int x4), some (.int x5), some (.int 0)] [] (t, T, I, L, P) Q) : hf_G X Y_X12_costOf d k n 0 (hf_en [.ref 156, .int x1, .int x2, .int x3, .int x4, .int x5] 7) [] (t, T, I, L, P) Q := by
  show hf_G X Y_X12_costOf d k n 0 [some (.ref 156), some (.int x1), some (.int x2), some (.int x3), some (.int x4), some (.int x5), none] [] (t, T, I, L, P) Q
  refine hf_iconst (v := 0) dX12_costOf_0 (by decide) ?_
  refine hf_istore (l2 := [some (.ref 156), some (.int x1), some (.int x2), some (.int x3), some (.int x4), some (.int x5), some (.int 0)]) dX12_costOf_1 (by decide) rfl ?_
  exact h

set_option maxHeartbeats 4000000 in
theorem w_X12_costOf_3 {X : hf_X} {d k n t : Nat} {T : hf_T} {I : hf_I} {L : hf_L} {P : hf_P} {Q : Option Value → hf_M → Prop} {x1 : Int32} {x2 : Int32} {x3 : Int32} {x4 : Int32} {x5 : Int32} {x6 : Int32} (hs : hf_Lay t T P) (h : (5 ≤ x6 → (0 ≤ x2 → hf_G X Y_X12_tells d 0 0 0 (hf_en [.ref 156, .int 2, .int (I 158 315), .int (x2 + (20 * x4))] 11) [] (t, T, (hf_up (hf_up (hf_up (hf_up (hf_up I 168 5 x1) 168 6 x2) 168 7 x3) 168 8 x4) 168 9 x5), L, P) (fun r M => hf_G X Y_X12_costOf (d + 1) k n 88 [none, none, none, none, none, none, none] (r.toList ++ []) M Q)) ∧ (¬ (0 ≤ x2) → hf_G X Y_X12_tells d 0 0 0 (hf_en [.ref 156, .int 2, .int (I 158 315), .int (0 + (20 * x4))] 11) [] (t, T, (hf_up (hf_up (hf_up (hf_up (hf_up I 168 5 x1) 168 6 x2) 168 7 x3) 168 8 x4) 168 9 x5), L, P) (fun r M => hf_G X Y_X12_costOf (d + 1) k n 88 [none, none, none, none, none, none, none] (r.toList ++ []) M Q))) ∧ (¬ (5 ≤ x6) → vp_in x6 13 ∧ (hf_G X Y_X12_costOf (d + 1) k n 3 [some (.ref 156), some (.int x1), some (.int x2), some (.int x3), some (.int x4), some (.int x5), some (.int (x6 + 1))] [] (t, T, (hf_up I 168 x6.toNatClampNeg (-1)), L, P) Q))) : hf_G X Y_X12_costOf (d + 1) k n 3 [some (.ref 156), some (.int x1), some (.int x2), some (.int x3), some (.int x4), some (.int x5), some (.int x6)] [] (t, T, I, L, P) Q := by
  refine hf_iload dX12_costOf_3 rfl ?_
  refine hf_iconst (v := 5) dX12_costOf_5 (by decide) ?_
  refine hf_icmp_ge (tgt := 23) dX12_costOf_6 (by decide) (fun hc => ?_) (fun hc => ?_)
  · replace h := h.1 hc
    refine hf_aload_n dX12_costOf_23 rfl rfl ?_
    refine hf_getr (b := 168) (c := 12) (j := 23) dX12_costOf_24 (hs.2.1 156 _ rfl) (hf_lin hs 156 rfl) (by decide) (by decide) hw1059 rfl (hs.2.2 156 23 _ rfl) ?_
    refine hf_iconst (v := 5) dX12_costOf_27 (by decide) ?_
    refine hf_iload_n dX12_costOf_28 rfl rfl ?_
    refine hf_iast_k (j := 5) (by decide) dX12_costOf_29 (hs.2.1 168 _ rfl) (hf_lin hs 168 rfl) (hf_vin (by decide)) ?_
    refine hf_aload_n dX12_costOf_30 rfl rfl ?_
    refine hf_getr (b := 168) (c := 12) (j := 23) dX12_costOf_31 (hs.2.1 156 _ rfl) (hf_lin hs 156 rfl) (by decide) (by decide) hw1059 rfl (hs.2.2 156 23 _ rfl) ?_
    refine hf_bipush (v := 6) dX12_costOf_34 (by decide) ?_
    refine hf_iload_n dX12_costOf_36 rfl rfl ?_
    refine hf_iast_k (j := 6) (by decide) dX12_costOf_37 (hs.2.1 168 _ rfl) (hf_lin hs 168 rfl) (hf_vin (by decide)) ?_
    refine hf_aload_n dX12_costOf_38 rfl rfl ?_
    refine hf_getr (b := 168) (c := 12) (j := 23) dX12_costOf_39 (hs.2.1 156 _ rfl) (hf_lin hs 156 rfl) (by decide) (by decide) hw1059 rfl (hs.2.2 156 23 _ rfl) ?_
    refine hf_bipush (v := 7) dX12_costOf_42 (by decide) ?_
    refine hf_iload_n dX12_costOf_44 rfl rfl ?_
    refine hf_iast_k (j := 7) (by decide) dX12_costOf_45 (hs.2.1 168 _ rfl) (hf_lin hs 168 rfl) (hf_vin (by decide)) ?_
    refine hf_aload_n dX12_costOf_46 rfl rfl ?_
    refine hf_getr (b := 168) (c := 12) (j := 23) dX12_costOf_47 (hs.2.1 156 _ rfl) (hf_lin hs 156 rfl) (by decide) (by decide) hw1059 rfl (hs.2.2 156 23 _ rfl) ?_
    refine hf_bipush (v := 8) dX12_costOf_50 (by decide) ?_
    refine hf_iload dX12_costOf_52 rfl ?_
    refine hf_iast_k (j := 8) (by decide) dX12_costOf_54 (hs.2.1 168 _ rfl) (hf_lin hs 168 rfl) (hf_vin (by decide)) ?_
    refine hf_aload_n dX12_costOf_55 rfl rfl ?_
    refine hf_getr (b := 168) (c := 12) (j := 23) dX12_costOf_56 (hs.2.1 156 _ rfl) (hf_lin hs 156 rfl) (by decide) (by decide) hw1059 rfl (hs.2.2 156 23 _ rfl) ?_
    refine hf_bipush (v := 9) dX12_costOf_59 (by decide) ?_
    refine hf_iload dX12_costOf_61 rfl ?_
    refine hf_iast_k (j := 9) (by decide) dX12_costOf_63 (hs.2.1 168 _ rfl) (hf_lin hs 168 rfl) (hf_vin (by decide)) ?_
    refine hf_aload_n dX12_costOf_64 rfl rfl ?_
    refine hf_iconst (v := 2) dX12_costOf_65 (by decide) ?_
    refine hf_aload_n dX12_costOf_66 rfl rfl ?_
    refine hf_getr (b := 158) (c := 12) (j := 2) dX12_costOf_67 (hs.2.1 156 _ rfl) (hf_lin hs 156 rfl) (by decide) (by decide) hw1038 rfl (hs.2.2 156 2 _ rfl) ?_
    refine hf_sipush (v := 315) dX12_costOf_70 (by decide) ?_
    refine hf_iald_k (j := 315) (by decide) dX12_costOf_73 (hs.2.1 158 _ rfl) (hf_lin hs 158 rfl) (hf_vin (by decide)) ?_
    refine hf_iconst (v := 0) dX12_costOf_74 (by decide) ?_
    refine hf_iload_n dX12_costOf_75 rfl rfl ?_
    refine hf_callS (as := [.int 0, .int x2]) ok_X12_greater dX12_costOf_76 hw1384 hw1385 rfl (Nat.le_of_ble_eq_true rfl) rfl (Nat.le_of_ble_eq_true rfl) (Nat.zero_le _) (Nat.zero_le _) ?_
    show hf_G X Y_X12_greater d _ _ 0 [some (.int 0), some (.int x2)] [] (t, T, (hf_up (hf_up (hf_up (hf_up (hf_up I 168 5 x1) 168 6 x2) 168 7 x3) 168 8 x4) 168 9 x5), L, P) _
    refine hf_iload_n dX12_greater_0 rfl rfl ?_
    refine hf_iload_n dX12_greater_1 rfl rfl ?_
    refine hf_icmp_le (tgt := 9) dX12_greater_2 (by decide) (fun hc => ?_) (fun hc => ?_)
    · replace h := h.1 hc
      refine hf_iload_n dX12_greater_9 rfl rfl ?_
      refine hf_ireturn dX12_greater_10 rfl rfl ?_
      show hf_G X Y_X12_costOf (d + 1) _ _ 79 [some (.ref 156), some (.int x1), some (.int x2), some (.int x3), some (.int x4), some (.int x5), some (.int x6)] [.int x2, .int (I 158 315), .int 2, .ref 156] (t, T, (hf_up (hf_up (hf_up (hf_up (hf_up I 168 5 x1) 168 6 x2) 168 7 x3) 168 8 x4) 168 9 x5), L, P) _
      refine hf_bipush (v := 20) dX12_costOf_79 (by decide) ?_
      refine hf_iload dX12_costOf_81 rfl ?_
      refine hf_imul dX12_costOf_83 ?_
      refine hf_iadd dX12_costOf_84 ?_
      exact hf_callV (c := 12) (as := [.int 2, .int (I 158 315), .int (x2 + (20 * x4))]) ok_X12_tells dX12_costOf_85 hw1211 hw1212 hw1612 (hs.2.1 156 _ rfl) (by decide) (hf_lin hs 156 rfl) rfl (Nat.le_of_ble_eq_true rfl) rfl (Nat.le_of_ble_eq_true rfl) (Nat.zero_le _) (Nat.zero_le _) (hf_mono (fun r M q => hf_drop (l' := [none, none, none, none, none, none, none]) (by simp [hf_sub]) q) h)
    · replace h := h.2 hc
      refine hf_iload_n dX12_greater_5 rfl rfl ?_
      refine hf_goto (tgt := 10) dX12_greater_6 (by decide) ?_
      refine hf_ireturn dX12_greater_10 rfl rfl ?_
      show hf_G X Y_X12_costOf (d + 1) _ _ 79 [some (.ref 156), some (.int x1), some (.int x2), some (.int x3), some (.int x4), some (.int x5), some (.int x6)] [.int 0, .int (I 158 315), .int 2, .ref 156] (t, T, (hf_up (hf_up (hf_up (hf_up (hf_up I 168 5 x1) 168 6 x2) 168 7 x3) 168 8 x4) 168 9 x5), L, P) _
      refine hf_bipush (v := 20) dX12_costOf_79 (by decide) ?_
      refine hf_iload dX12_costOf_81 rfl ?_
      refine hf_imul dX12_costOf_83 ?_
      refine hf_iadd dX12_costOf_84 ?_
      exact hf_callV (c := 12) (as := [.int 2, .int (I 158 315), .int (0 + (20 * x4))]) ok_X12_tells dX12_costOf_85 hw1211 hw1212 hw1612 (hs.2.1 156 _ rfl) (by decide) (hf_lin hs 156 rfl) rfl (Nat.le_of_ble_eq_true rfl) rfl (Nat.le_of_ble_eq_true rfl) (Nat.zero_le _) (Nat.zero_le _) (hf_mono (fun r M q => hf_drop (l' := [none, none, none, none, none, none, none]) (by simp [hf_sub]) q) h)
  · replace h := h.2 hc
    refine hf_aload_n dX12_costOf_9 rfl rfl ?_
    refine hf_getr (b := 168) (c := 12) (j := 23) dX12_costOf_10 (hs.2.1 156 _ rfl) (hf_lin hs 156 rfl) (by decide) (by decide) hw1059 rfl (hs.2.2 156 23 _ rfl) ?_
    refine hf_iload dX12_costOf_13 rfl ?_
    refine hf_iconst (v := (-1)) dX12_costOf_15 (by decide) ?_
    refine hf_iast dX12_costOf_16 (hs.2.1 168 _ rfl) (hf_lin hs 168 rfl) h.1 ?_
    replace h := h.2
    refine hf_iinc (v := (x6 + 1)) (l2 := [some (.ref 156), some (.int x1), some (.int x2), some (.int x3), some (.int x4), some (.int x5), some (.int (x6 + 1))]) dX12_costOf_17 (by decide) rfl rfl rfl ?_
    refine hf_goto (tgt := 3) dX12_costOf_20 (by decide) ?_
    exact h

set_option maxHeartbeats 4000000 in
theorem w_X12_costOf_88 {X : hf_X} {d k n t : Nat} {T : hf_T} {I : hf_I} {L : hf_L} {P : hf_P} {Q : Option Value → hf_M → Prop} {s0 : Int32} (hs : hf_Lay t T P) (h : Q (some (.int s0)) (t, T, I, L, P)) : hf_G X Y_X12_costOf d k n 88 [none, none, none, none, none, none, none] [.int s0] (t, T, I, L, P) Q := by
  refine hf_ireturn dX12_costOf_88 rfl rfl ?_
  exact h

set_option maxHeartbeats 4000000 in
theorem w_X12_broadIn_0 {X : hf_X} {d k n t : Nat} {T : hf_T} {I : hf_I} {L : hf_L} {P : hf_P} {Q : Option Value → hf_M → Prop} {x1 : Int32} (hs : hf_Lay t T P) (h : hf_G X Y_X12_broadIn d k n 7 [some (.ref 156), some (.int x1), some (.int 0), some (.int 0), some (.int 0)] [] (t, T, I, L, P) Q) : hf_G X Y_X12_broadIn d k n 0 (hf_en [.ref 156, .int x1] 5) [] (t, T, I, L, P) Q := by
  show hf_G X Y_X12_broadIn d k n 0 [some (.ref 156), some (.int x1), none, none, none] [] (t, T, I, L, P) Q
  refine hf_iconst (v := 0) dX12_broadIn_0 (by decide) ?_
  refine hf_istore_n (l2 := [some (.ref 156), some (.int x1), some (.int 0), none, none]) dX12_broadIn_1 rfl (by decide) rfl ?_
  refine hf_iconst (v := 0) dX12_broadIn_2 (by decide) ?_
  refine hf_istore_n (l2 := [some (.ref 156), some (.int x1), some (.int 0), some (.int 0), none]) dX12_broadIn_3 rfl (by decide) rfl ?_
  refine hf_iconst (v := 0) dX12_broadIn_4 (by decide) ?_
  refine hf_istore (l2 := [some (.ref 156), some (.int x1), some (.int 0), some (.int 0), some (.int 0)]) dX12_broadIn_5 (by decide) rfl ?_
  exact h

set_option maxHeartbeats 4000000 in
theorem w_X12_broadIn_7 {X : hf_X} {d k n t : Nat} {T : hf_T} {I : hf_I} {L : hf_L} {P : hf_P} {Q : Option Value → hf_M → Prop} {x1 : Int32} {x2 : Int32} {x3 : Int32} {x4 : Int32} (hs : hf_Lay t T P) (h : ((I 158 24) ≤ x4 → Q (some (.int x2)) (t, T, I, L, P)) ∧ (¬ ((I 158 24) ≤ x4) → vp_in (12 + x4) 5929 ∧ (((I 158 (((12 + x4)).toNatClampNeg)) = x1 → vp_in (0 + x4) 5929 ∧ (hf_G X Y_X12_broadOf d 0 0 0 (hf_en [.ref 156, .int (I 158 (((0 + x4)).toNatClampNeg)), .int (I 158 315)] 5) [] (t, T, I, L, P) (fun r M => hf_G X Y_X12_broadIn (d + 1) k n 58 [some (.ref 156), some (.int x1), none, some (.int x3), some (.int x4)] (r.toList ++ [.int x2]) M Q))) ∧ (¬ ((I 158 (((12 + x4)).toNatClampNeg)) = x1) → hf_G X Y_X12_broadIn (d + 1) k n 7 [some (.ref 156), some (.int x1), some (.int x2), some (.int x3), some (.int (x4 + 1))] [] (t, T, I, L, P) Q)))) : hf_G X Y_X12_broadIn (d + 1) k n 7 [some (.ref 156), some (.int x1), some (.int x2), some (.int x3), some (.int x4)] [] (t, T, I, L, P) Q := by
  refine hf_iload dX12_broadIn_7 rfl ?_
  refine hf_aload_n dX12_broadIn_9 rfl rfl ?_
  refine hf_getr (b := 158) (c := 12) (j := 2) dX12_broadIn_10 (hs.2.1 156 _ rfl) (hf_lin hs 156 rfl) (by decide) (by decide) hw1038 rfl (hs.2.2 156 2 _ rfl) ?_
  refine hf_bipush (v := 24) dX12_broadIn_13 (by decide) ?_
  refine hf_iald_k (j := 24) (by decide) dX12_broadIn_15 (hs.2.1 158 _ rfl) (hf_lin hs 158 rfl) (hf_vin (by decide)) ?_
  refine hf_icmp_ge (tgt := 92) dX12_broadIn_16 (by decide) (fun hc => ?_) (fun hc => ?_)
  · replace h := h.1 hc
    refine hf_iload_n dX12_broadIn_92 rfl rfl ?_
    refine hf_ireturn dX12_broadIn_93 rfl rfl ?_
    exact h
  · replace h := h.2 hc
    refine hf_aload_n dX12_broadIn_19 rfl rfl ?_
    refine hf_getr (b := 158) (c := 12) (j := 2) dX12_broadIn_20 (hs.2.1 156 _ rfl) (hf_lin hs 156 rfl) (by decide) (by decide) hw1038 rfl (hs.2.2 156 2 _ rfl) ?_
    refine hf_bipush (v := 12) dX12_broadIn_23 (by decide) ?_
    refine hf_iload dX12_broadIn_25 rfl ?_
    refine hf_iadd dX12_broadIn_27 ?_
    refine hf_iald dX12_broadIn_28 (hs.2.1 158 _ rfl) (hf_lin hs 158 rfl) h.1 ?_
    replace h := h.2
    refine hf_iload_n dX12_broadIn_29 rfl rfl ?_
    refine hf_icmp_eq (tgt := 36) dX12_broadIn_30 (by decide) (fun hc => ?_) (fun hc => ?_)
    · replace h := h.1 hc
      refine hf_iload_n dX12_broadIn_36 rfl rfl ?_
      refine hf_aload_n dX12_broadIn_37 rfl rfl ?_
      refine hf_aload_n dX12_broadIn_38 rfl rfl ?_
      refine hf_getr (b := 158) (c := 12) (j := 2) dX12_broadIn_39 (hs.2.1 156 _ rfl) (hf_lin hs 156 rfl) (by decide) (by decide) hw1038 rfl (hs.2.2 156 2 _ rfl) ?_
      refine hf_iconst (v := 0) dX12_broadIn_42 (by decide) ?_
      refine hf_iload dX12_broadIn_43 rfl ?_
      refine hf_iadd dX12_broadIn_45 ?_
      refine hf_iald dX12_broadIn_46 (hs.2.1 158 _ rfl) (hf_lin hs 158 rfl) h.1 ?_
      replace h := h.2
      refine hf_aload_n dX12_broadIn_47 rfl rfl ?_
      refine hf_getr (b := 158) (c := 12) (j := 2) dX12_broadIn_48 (hs.2.1 156 _ rfl) (hf_lin hs 156 rfl) (by decide) (by decide) hw1038 rfl (hs.2.2 156 2 _ rfl) ?_
      refine hf_sipush (v := 315) dX12_broadIn_51 (by decide) ?_
      refine hf_iald_k (j := 315) (by decide) dX12_broadIn_54 (hs.2.1 158 _ rfl) (hf_lin hs 158 rfl) (hf_vin (by decide)) ?_
      exact hf_callV (c := 12) (as := [.int (I 158 (((0 + x4)).toNatClampNeg)), .int (I 158 315)]) ok_X12_broadOf dX12_broadIn_55 hw1199 hw1200 hw1608 (hs.2.1 156 _ rfl) (by decide) (hf_lin hs 156 rfl) rfl (Nat.le_of_ble_eq_true rfl) rfl (Nat.le_of_ble_eq_true rfl) (Nat.zero_le _) (Nat.zero_le _) (hf_mono (fun r M q => hf_drop (l' := [some (.ref 156), some (.int x1), none, some (.int x3), some (.int x4)]) (by simp [hf_sub]) q) h)
    · replace h := h.2 hc
      refine hf_goto (tgt := 86) dX12_broadIn_33 (by decide) ?_
      refine hf_iinc (v := (x4 + 1)) (l2 := [some (.ref 156), some (.int x1), some (.int x2), some (.int x3), some (.int (x4 + 1))]) dX12_broadIn_86 (by decide) rfl rfl rfl ?_
      refine hf_goto (tgt := 7) dX12_broadIn_89 (by decide) ?_
      exact h

set_option maxHeartbeats 4000000 in
theorem w_X12_broadIn_58 {X : hf_X} {d k n t : Nat} {T : hf_T} {I : hf_I} {L : hf_L} {P : hf_P} {Q : Option Value → hf_M → Prop} {x1 : Int32} {x3 : Int32} {x4 : Int32} {s0 : Int32} {s1 : Int32} (hs : hf_Lay t T P) (h : (x3 ≤ 0 → hf_G X Y_X12_broadIn (d + 1) k n 7 [some (.ref 156), some (.int x1), some (.int (s1 + (s0 + 0))), some (.int (x3 + 1)), some (.int (x4 + 1))] [] (t, T, I, L, P) Q) ∧ (¬ (x3 ≤ 0) → hf_G X Y_X12_broadIn (d + 1) k n 7 [some (.ref 156), some (.int x1), some (.int (s1 + (s0 + (((I 158 52) * ((I 158 315) + 2)) / 2)))), some (.int (x3 + 1)), some (.int (x4 + 1))] [] (t, T, I, L, P) Q)) : hf_G X Y_X12_broadIn (d + 1) k n 58 [some (.ref 156), some (.int x1), none, some (.int x3), some (.int x4)] [.int s0, .int s1] (t, T, I, L, P) Q := by
  refine hf_iload_n dX12_broadIn_58 rfl rfl ?_
  refine hf_if_le (tgt := 79) dX12_broadIn_59 (by decide) (fun hc => ?_) (fun hc => ?_)
  · replace h := h.1 hc
    refine hf_iconst (v := 0) dX12_broadIn_79 (by decide) ?_
    refine hf_iadd dX12_broadIn_80 ?_
    refine hf_iadd dX12_broadIn_81 ?_
    refine hf_istore_n (l2 := [some (.ref 156), some (.int x1), some (.int (s1 + (s0 + 0))), some (.int x3), some (.int x4)]) dX12_broadIn_82 rfl (by decide) rfl ?_
    refine hf_iinc (v := (x3 + 1)) (l2 := [some (.ref 156), some (.int x1), some (.int (s1 + (s0 + 0))), some (.int (x3 + 1)), some (.int x4)]) dX12_broadIn_83 (by decide) rfl rfl rfl ?_
    refine hf_iinc (v := (x4 + 1)) (l2 := [some (.ref 156), some (.int x1), some (.int (s1 + (s0 + 0))), some (.int (x3 + 1)), some (.int (x4 + 1))]) dX12_broadIn_86 (by decide) rfl rfl rfl ?_
    refine hf_goto (tgt := 7) dX12_broadIn_89 (by decide) ?_
    exact h
  · replace h := h.2 hc
    refine hf_aload_n dX12_broadIn_62 rfl rfl ?_
    refine hf_bipush (v := 26) dX12_broadIn_63 (by decide) ?_
    refine hf_aload_n dX12_broadIn_65 rfl rfl ?_
    refine hf_getr (b := 158) (c := 12) (j := 2) dX12_broadIn_66 (hs.2.1 156 _ rfl) (hf_lin hs 156 rfl) (by decide) (by decide) hw1038 rfl (hs.2.2 156 2 _ rfl) ?_
    refine hf_sipush (v := 315) dX12_broadIn_69 (by decide) ?_
    refine hf_iald_k (j := 315) (by decide) dX12_broadIn_72 (hs.2.1 158 _ rfl) (hf_lin hs 158 rfl) (hf_vin (by decide)) ?_
    refine hf_callV (c := 12) (as := [.int 26, .int (I 158 315)]) ok_X12_hairsOf dX12_broadIn_73 hw1202 hw1203 hw1609 (hs.2.1 156 _ rfl) (by decide) (hf_lin hs 156 rfl) rfl (Nat.le_of_ble_eq_true rfl) rfl (Nat.le_of_ble_eq_true rfl) (Nat.zero_le _) (Nat.zero_le _) ?_
    show hf_G X Y_X12_hairsOf d _ _ 0 [some (.ref 156), some (.int 26), some (.int (I 158 315))] [] (t, T, I, L, P) _
    refine hf_aload_n dX12_hairsOf_0 rfl rfl ?_
    refine hf_getr (b := 158) (c := 12) (j := 2) dX12_hairsOf_1 (hs.2.1 156 _ rfl) (hf_lin hs 156 rfl) (by decide) (by decide) hw1038 rfl (hs.2.2 156 2 _ rfl) ?_
    refine hf_bipush (v := 26) dX12_hairsOf_4 (by decide) ?_
    refine hf_iload_n dX12_hairsOf_6 rfl rfl ?_
    refine hf_iadd dX12_hairsOf_7 ?_
    rw [show ((26 + 26) : Int32) = 52 by decide]
    refine hf_iald_k (j := 52) (by decide) dX12_hairsOf_8 (hs.2.1 158 _ rfl) (hf_lin hs 158 rfl) (hf_vin (by decide)) ?_
    refine hf_iload_n dX12_hairsOf_9 rfl rfl ?_
    refine hf_iconst (v := 2) dX12_hairsOf_10 (by decide) ?_
    refine hf_iadd dX12_hairsOf_11 ?_
    refine hf_imul dX12_hairsOf_12 ?_
    refine hf_iconst (v := 2) dX12_hairsOf_13 (by decide) ?_
    refine hf_idiv dX12_hairsOf_14 (by decide) ?_
    refine hf_ireturn dX12_hairsOf_15 rfl rfl ?_
    show hf_G X Y_X12_broadIn (d + 1) _ _ 76 [some (.ref 156), some (.int x1), none, some (.int x3), some (.int x4)] [.int (((I 158 52) * ((I 158 315) + 2)) / 2), .int s0, .int s1] (t, T, I, L, P) _
    refine hf_goto (tgt := 80) dX12_broadIn_76 (by decide) ?_
    refine hf_iadd dX12_broadIn_80 ?_
    refine hf_iadd dX12_broadIn_81 ?_
    refine hf_istore_n (l2 := [some (.ref 156), some (.int x1), some (.int (s1 + (s0 + (((I 158 52) * ((I 158 315) + 2)) / 2)))), some (.int x3), some (.int x4)]) dX12_broadIn_82 rfl (by decide) rfl ?_
    refine hf_iinc (v := (x3 + 1)) (l2 := [some (.ref 156), some (.int x1), some (.int (s1 + (s0 + (((I 158 52) * ((I 158 315) + 2)) / 2)))), some (.int (x3 + 1)), some (.int x4)]) dX12_broadIn_83 (by decide) rfl rfl rfl ?_
    refine hf_iinc (v := (x4 + 1)) (l2 := [some (.ref 156), some (.int x1), some (.int (s1 + (s0 + (((I 158 52) * ((I 158 315) + 2)) / 2)))), some (.int (x3 + 1)), some (.int (x4 + 1))]) dX12_broadIn_86 (by decide) rfl rfl rfl ?_
    refine hf_goto (tgt := 7) dX12_broadIn_89 (by decide) ?_
    exact h

set_option maxHeartbeats 4000000 in
theorem w_X12_manyIn_0 {X : hf_X} {d k n t : Nat} {T : hf_T} {I : hf_I} {L : hf_L} {P : hf_P} {Q : Option Value → hf_M → Prop} {x1 : Int32} (hs : hf_Lay t T P) (h : hf_G X Y_X12_manyIn d k n 4 [some (.ref 156), some (.int x1), some (.int 0), some (.int 0)] [] (t, T, I, L, P) Q) : hf_G X Y_X12_manyIn d k n 0 (hf_en [.ref 156, .int x1] 4) [] (t, T, I, L, P) Q := by
  show hf_G X Y_X12_manyIn d k n 0 [some (.ref 156), some (.int x1), none, none] [] (t, T, I, L, P) Q
  refine hf_iconst (v := 0) dX12_manyIn_0 (by decide) ?_
  refine hf_istore_n (l2 := [some (.ref 156), some (.int x1), some (.int 0), none]) dX12_manyIn_1 rfl (by decide) rfl ?_
  refine hf_iconst (v := 0) dX12_manyIn_2 (by decide) ?_
  refine hf_istore_n (l2 := [some (.ref 156), some (.int x1), some (.int 0), some (.int 0)]) dX12_manyIn_3 rfl (by decide) rfl ?_
  exact h

set_option maxHeartbeats 4000000 in
theorem w_X12_manyIn_4 {X : hf_X} {d k n t : Nat} {T : hf_T} {I : hf_I} {L : hf_L} {P : hf_P} {Q : Option Value → hf_M → Prop} {x1 : Int32} {x2 : Int32} {x3 : Int32} (hs : hf_Lay t T P) (h : ((I 158 24) ≤ x3 → Q (some (.int x2)) (t, T, I, L, P)) ∧ (¬ ((I 158 24) ≤ x3) → vp_in (12 + x3) 5929 ∧ ((¬ (I 158 (((12 + x3)).toNatClampNeg)) = x1 → hf_G X Y_X12_manyIn d k n 4 [some (.ref 156), some (.int x1), some (.int (x2 + 0)), some (.int (x3 + 1))] [] (t, T, I, L, P) Q) ∧ ((I 158 (((12 + x3)).toNatClampNeg)) = x1 → hf_G X Y_X12_manyIn d k n 4 [some (.ref 156), some (.int x1), some (.int (x2 + 1)), some (.int (x3 + 1))] [] (t, T, I, L, P) Q)))) : hf_G X Y_X12_manyIn d k n 4 [some (.ref 156), some (.int x1), some (.int x2), some (.int x3)] [] (t, T, I, L, P) Q := by
  refine hf_iload_n dX12_manyIn_4 rfl rfl ?_
  refine hf_aload_n dX12_manyIn_5 rfl rfl ?_
  refine hf_getr (b := 158) (c := 12) (j := 2) dX12_manyIn_6 (hs.2.1 156 _ rfl) (hf_lin hs 156 rfl) (by decide) (by decide) hw1038 rfl (hs.2.2 156 2 _ rfl) ?_
  refine hf_bipush (v := 24) dX12_manyIn_9 (by decide) ?_
  refine hf_iald_k (j := 24) (by decide) dX12_manyIn_11 (hs.2.1 158 _ rfl) (hf_lin hs 158 rfl) (hf_vin (by decide)) ?_
  refine hf_icmp_ge (tgt := 42) dX12_manyIn_12 (by decide) (fun hc => ?_) (fun hc => ?_)
  · replace h := h.1 hc
    refine hf_iload_n dX12_manyIn_42 rfl rfl ?_
    refine hf_ireturn dX12_manyIn_43 rfl rfl ?_
    exact h
  · replace h := h.2 hc
    refine hf_iload_n dX12_manyIn_15 rfl rfl ?_
    refine hf_aload_n dX12_manyIn_16 rfl rfl ?_
    refine hf_getr (b := 158) (c := 12) (j := 2) dX12_manyIn_17 (hs.2.1 156 _ rfl) (hf_lin hs 156 rfl) (by decide) (by decide) hw1038 rfl (hs.2.2 156 2 _ rfl) ?_
    refine hf_bipush (v := 12) dX12_manyIn_20 (by decide) ?_
    refine hf_iload_n dX12_manyIn_22 rfl rfl ?_
    refine hf_iadd dX12_manyIn_23 ?_
    refine hf_iald dX12_manyIn_24 (hs.2.1 158 _ rfl) (hf_lin hs 158 rfl) h.1 ?_
    replace h := h.2
    refine hf_iload_n dX12_manyIn_25 rfl rfl ?_
    refine hf_icmp_ne (tgt := 33) dX12_manyIn_26 (by decide) (fun hc => ?_) (fun hc => ?_)
    · replace h := h.1 hc
      refine hf_iconst (v := 0) dX12_manyIn_33 (by decide) ?_
      refine hf_iadd dX12_manyIn_34 ?_
      refine hf_istore_n (l2 := [some (.ref 156), some (.int x1), some (.int (x2 + 0)), some (.int x3)]) dX12_manyIn_35 rfl (by decide) rfl ?_
      refine hf_iinc (v := (x3 + 1)) (l2 := [some (.ref 156), some (.int x1), some (.int (x2 + 0)), some (.int (x3 + 1))]) dX12_manyIn_36 (by decide) rfl rfl rfl ?_
      refine hf_goto (tgt := 4) dX12_manyIn_39 (by decide) ?_
      exact h
    · replace h := h.2 hc
      refine hf_iconst (v := 1) dX12_manyIn_29 (by decide) ?_
      refine hf_goto (tgt := 34) dX12_manyIn_30 (by decide) ?_
      refine hf_iadd dX12_manyIn_34 ?_
      refine hf_istore_n (l2 := [some (.ref 156), some (.int x1), some (.int (x2 + 1)), some (.int x3)]) dX12_manyIn_35 rfl (by decide) rfl ?_
      refine hf_iinc (v := (x3 + 1)) (l2 := [some (.ref 156), some (.int x1), some (.int (x2 + 1)), some (.int (x3 + 1))]) dX12_manyIn_36 (by decide) rfl rfl rfl ?_
      refine hf_goto (tgt := 4) dX12_manyIn_39 (by decide) ?_
      exact h

set_option maxHeartbeats 4000000 in
theorem w_X12_firstIn_0 {X : hf_X} {d k n t : Nat} {T : hf_T} {I : hf_I} {L : hf_L} {P : hf_P} {Q : Option Value → hf_M → Prop} {x1 : Int32} (hs : hf_Lay t T P) (h : hf_G X Y_X12_firstIn d k n 2 [some (.ref 156), some (.int x1), some (.int 0)] [] (t, T, I, L, P) Q) : hf_G X Y_X12_firstIn d k n 0 (hf_en [.ref 156, .int x1] 3) [] (t, T, I, L, P) Q := by
  show hf_G X Y_X12_firstIn d k n 0 [some (.ref 156), some (.int x1), none] [] (t, T, I, L, P) Q
  refine hf_iconst (v := 0) dX12_firstIn_0 (by decide) ?_
  refine hf_istore_n (l2 := [some (.ref 156), some (.int x1), some (.int 0)]) dX12_firstIn_1 rfl (by decide) rfl ?_
  exact h

set_option maxHeartbeats 4000000 in
theorem w_X12_firstIn_2 {X : hf_X} {d k n t : Nat} {T : hf_T} {I : hf_I} {L : hf_L} {P : hf_P} {Q : Option Value → hf_M → Prop} {x1 : Int32} {x2 : Int32} (hs : hf_Lay t T P) (h : ((I 158 24) ≤ x2 → Q (some (.int (-1))) (t, T, I, L, P)) ∧ (¬ ((I 158 24) ≤ x2) → vp_in (12 + x2) 5929 ∧ ((¬ (I 158 (((12 + x2)).toNatClampNeg)) = x1 → hf_G X Y_X12_firstIn d k n 2 [some (.ref 156), some (.int x1), some (.int (x2 + 1))] [] (t, T, I, L, P) Q) ∧ ((I 158 (((12 + x2)).toNatClampNeg)) = x1 → vp_in (0 + x2) 5929 ∧ (Q (some (.int (I 158 (((0 + x2)).toNatClampNeg)))) (t, T, I, L, P)))))) : hf_G X Y_X12_firstIn d k n 2 [some (.ref 156), some (.int x1), some (.int x2)] [] (t, T, I, L, P) Q := by
  refine hf_iload_n dX12_firstIn_2 rfl rfl ?_
  refine hf_aload_n dX12_firstIn_3 rfl rfl ?_
  refine hf_getr (b := 158) (c := 12) (j := 2) dX12_firstIn_4 (hs.2.1 156 _ rfl) (hf_lin hs 156 rfl) (by decide) (by decide) hw1038 rfl (hs.2.2 156 2 _ rfl) ?_
  refine hf_bipush (v := 24) dX12_firstIn_7 (by decide) ?_
  refine hf_iald_k (j := 24) (by decide) dX12_firstIn_9 (hs.2.1 158 _ rfl) (hf_lin hs 158 rfl) (hf_vin (by decide)) ?_
  refine hf_icmp_ge (tgt := 41) dX12_firstIn_10 (by decide) (fun hc => ?_) (fun hc => ?_)
  · replace h := h.1 hc
    refine hf_iconst (v := (-1)) dX12_firstIn_41 (by decide) ?_
    refine hf_ireturn dX12_firstIn_42 rfl rfl ?_
    exact h
  · replace h := h.2 hc
    refine hf_aload_n dX12_firstIn_13 rfl rfl ?_
    refine hf_getr (b := 158) (c := 12) (j := 2) dX12_firstIn_14 (hs.2.1 156 _ rfl) (hf_lin hs 156 rfl) (by decide) (by decide) hw1038 rfl (hs.2.2 156 2 _ rfl) ?_
    refine hf_bipush (v := 12) dX12_firstIn_17 (by decide) ?_
    refine hf_iload_n dX12_firstIn_19 rfl rfl ?_
    refine hf_iadd dX12_firstIn_20 ?_
    refine hf_iald dX12_firstIn_21 (hs.2.1 158 _ rfl) (hf_lin hs 158 rfl) h.1 ?_
    replace h := h.2
    refine hf_iload_n dX12_firstIn_22 rfl rfl ?_
    refine hf_icmp_ne (tgt := 35) dX12_firstIn_23 (by decide) (fun hc => ?_) (fun hc => ?_)
    · replace h := h.1 hc
      refine hf_iinc (v := (x2 + 1)) (l2 := [some (.ref 156), some (.int x1), some (.int (x2 + 1))]) dX12_firstIn_35 (by decide) rfl rfl rfl ?_
      refine hf_goto (tgt := 2) dX12_firstIn_38 (by decide) ?_
      exact h
    · replace h := h.2 hc
      refine hf_aload_n dX12_firstIn_26 rfl rfl ?_
      refine hf_getr (b := 158) (c := 12) (j := 2) dX12_firstIn_27 (hs.2.1 156 _ rfl) (hf_lin hs 156 rfl) (by decide) (by decide) hw1038 rfl (hs.2.2 156 2 _ rfl) ?_
      refine hf_iconst (v := 0) dX12_firstIn_30 (by decide) ?_
      refine hf_iload_n dX12_firstIn_31 rfl rfl ?_
      refine hf_iadd dX12_firstIn_32 ?_
      refine hf_iald dX12_firstIn_33 (hs.2.1 158 _ rfl) (hf_lin hs 158 rfl) h.1 ?_
      replace h := h.2
      refine hf_ireturn dX12_firstIn_34 rfl rfl ?_
      exact h

set_option maxHeartbeats 4000000 in
theorem w_X12_alikeIn_0 {X : hf_X} {d k n t : Nat} {T : hf_T} {I : hf_I} {L : hf_L} {P : hf_P} {Q : Option Value → hf_M → Prop} {x1 : Int32} (hs : hf_Lay t T P) (h : (x1 = 0 → Q (some (.int 0)) (t, T, I, L, P)) ∧ (¬ (x1 = 0) → hf_G X Y_X12_firstIn d 0 0 0 (hf_en [.ref 156, .int x1] 3) [] (t, T, I, L, P) (fun r M => hf_G X Y_X12_alikeIn (d + 1) k n 9 [some (.ref 156), some (.int x1)] (r.toList ++ []) M Q))) : hf_G X Y_X12_alikeIn (d + 1) k n 0 (hf_en [.ref 156, .int x1] 2) [] (t, T, I, L, P) Q := by
  show hf_G X Y_X12_alikeIn (d + 1) k n 0 [some (.ref 156), some (.int x1)] [] (t, T, I, L, P) Q
  refine hf_iload_n dX12_alikeIn_0 rfl rfl ?_
  refine hf_if_eq (tgt := 24) dX12_alikeIn_1 (by decide) (fun hc => ?_) (fun hc => ?_)
  · replace h := h.1 hc
    refine hf_iconst (v := 0) dX12_alikeIn_24 (by decide) ?_
    refine hf_ireturn dX12_alikeIn_25 rfl rfl ?_
    exact h
  · replace h := h.2 hc
    refine hf_aload_n dX12_alikeIn_4 rfl rfl ?_
    refine hf_iload_n dX12_alikeIn_5 rfl rfl ?_
    exact hf_callV (c := 12) (as := [.int x1]) ok_X12_firstIn dX12_alikeIn_6 hw1375 hw1376 hw1649 (hs.2.1 156 _ rfl) (by decide) (hf_lin hs 156 rfl) rfl (Nat.le_of_ble_eq_true rfl) rfl (Nat.le_of_ble_eq_true rfl) (Nat.zero_le _) (Nat.zero_le _) h

set_option maxHeartbeats 4000000 in
theorem w_X12_alikeIn_9 {X : hf_X} {d k n t : Nat} {T : hf_T} {I : hf_I} {L : hf_L} {P : hf_P} {Q : Option Value → hf_M → Prop} {x1 : Int32} {s0 : Int32} (hs : hf_Lay t T P) (h : (s0 = (-1) → Q (some (.int 0)) (t, T, I, L, P)) ∧ (¬ (s0 = (-1)) → hf_G X Y_X12_firstIn d 0 0 0 (hf_en [.ref 156, .int (x1 - 1)] 3) [] (t, T, I, L, P) (fun r M => hf_G X Y_X12_alikeIn (d + 1) k n 20 [some (.ref 156), some (.int x1)] (r.toList ++ []) M Q))) : hf_G X Y_X12_alikeIn (d + 1) k n 9 [some (.ref 156), some (.int x1)] [.int s0] (t, T, I, L, P) Q := by
  refine hf_iconst (v := (-1)) dX12_alikeIn_9 (by decide) ?_
  refine hf_icmp_eq (tgt := 24) dX12_alikeIn_10 (by decide) (fun hc => ?_) (fun hc => ?_)
  · replace h := h.1 hc
    refine hf_iconst (v := 0) dX12_alikeIn_24 (by decide) ?_
    refine hf_ireturn dX12_alikeIn_25 rfl rfl ?_
    exact h
  · replace h := h.2 hc
    refine hf_aload_n dX12_alikeIn_13 rfl rfl ?_
    refine hf_iload_n dX12_alikeIn_14 rfl rfl ?_
    refine hf_iconst (v := 1) dX12_alikeIn_15 (by decide) ?_
    refine hf_isub dX12_alikeIn_16 ?_
    exact hf_callV (c := 12) (as := [.int (x1 - 1)]) ok_X12_firstIn dX12_alikeIn_17 hw1375 hw1376 hw1649 (hs.2.1 156 _ rfl) (by decide) (hf_lin hs 156 rfl) rfl (Nat.le_of_ble_eq_true rfl) rfl (Nat.le_of_ble_eq_true rfl) (Nat.zero_le _) (Nat.zero_le _) h

set_option maxHeartbeats 4000000 in
theorem w_X12_alikeIn_20 {X : hf_X} {d k n t : Nat} {T : hf_T} {I : hf_I} {L : hf_L} {P : hf_P} {Q : Option Value → hf_M → Prop} {x1 : Int32} {s0 : Int32} (hs : hf_Lay t T P) (h : (¬ s0 = (-1) → hf_G X Y_X12_firstIn d 0 0 0 (hf_en [.ref 156, .int x1] 3) [] (t, T, I, L, P) (fun r M => hf_G X Y_X12_alikeIn (d + 1) k n 32 [some (.ref 156), some (.int x1)] (r.toList ++ [.ref 156]) M Q)) ∧ (s0 = (-1) → Q (some (.int 0)) (t, T, I, L, P))) : hf_G X Y_X12_alikeIn (d + 1) k n 20 [some (.ref 156), some (.int x1)] [.int s0] (t, T, I, L, P) Q := by
  refine hf_iconst (v := (-1)) dX12_alikeIn_20 (by decide) ?_
  refine hf_icmp_ne (tgt := 26) dX12_alikeIn_21 (by decide) (fun hc => ?_) (fun hc => ?_)
  · replace h := h.1 hc
    refine hf_aload_n dX12_alikeIn_26 rfl rfl ?_
    refine hf_aload_n dX12_alikeIn_27 rfl rfl ?_
    refine hf_iload_n dX12_alikeIn_28 rfl rfl ?_
    exact hf_callV (c := 12) (as := [.int x1]) ok_X12_firstIn dX12_alikeIn_29 hw1375 hw1376 hw1649 (hs.2.1 156 _ rfl) (by decide) (hf_lin hs 156 rfl) rfl (Nat.le_of_ble_eq_true rfl) rfl (Nat.le_of_ble_eq_true rfl) (Nat.zero_le _) (Nat.zero_le _) h
  · replace h := h.2 hc
    refine hf_iconst (v := 0) dX12_alikeIn_24 (by decide) ?_
    refine hf_ireturn dX12_alikeIn_25 rfl rfl ?_
    exact h

set_option maxHeartbeats 4000000 in
theorem w_X12_alikeIn_32 {X : hf_X} {d k n t : Nat} {T : hf_T} {I : hf_I} {L : hf_L} {P : hf_P} {Q : Option Value → hf_M → Prop} {x1 : Int32} {s0 : Int32} (hs : hf_Lay t T P) (h : vp_in ((53 + (13 * s0)) + 4) 5929 ∧ (hf_G X Y_X12_firstIn d 0 0 0 (hf_en [.ref 156, .int (x1 - 1)] 3) [] (t, T, I, L, P) (fun r M => hf_G X Y_X12_alikeIn (d + 1) k n 44 [none, none] (r.toList ++ [.ref 156, .int (I 158 ((((53 + (13 * s0)) + 4)).toNatClampNeg))]) M Q))) : hf_G X Y_X12_alikeIn (d + 1) k n 32 [some (.ref 156), some (.int x1)] [.int s0, .ref 156] (t, T, I, L, P) Q := by
  refine hf_iconst (v := 4) dX12_alikeIn_32 (by decide) ?_
  refine hf_callV (c := 12) (as := [.int s0, .int 4]) ok_X12_fact dX12_alikeIn_33 hw1189 hw1190 hw1606 (hs.2.1 156 _ rfl) (by decide) (hf_lin hs 156 rfl) rfl (Nat.le_of_ble_eq_true rfl) rfl (Nat.le_of_ble_eq_true rfl) (Nat.zero_le _) (Nat.zero_le _) ?_
  show hf_G X Y_X12_fact d _ _ 0 [some (.ref 156), some (.int s0), some (.int 4)] [] (t, T, I, L, P) _
  refine hf_aload_n dX12_fact_0 rfl rfl ?_
  refine hf_getr (b := 158) (c := 12) (j := 2) dX12_fact_1 (hs.2.1 156 _ rfl) (hf_lin hs 156 rfl) (by decide) (by decide) hw1038 rfl (hs.2.2 156 2 _ rfl) ?_
  refine hf_bipush (v := 53) dX12_fact_4 (by decide) ?_
  refine hf_bipush (v := 13) dX12_fact_6 (by decide) ?_
  refine hf_iload_n dX12_fact_8 rfl rfl ?_
  refine hf_imul dX12_fact_9 ?_
  refine hf_iadd dX12_fact_10 ?_
  refine hf_iload_n dX12_fact_11 rfl rfl ?_
  refine hf_iadd dX12_fact_12 ?_
  refine hf_iald dX12_fact_13 (hs.2.1 158 _ rfl) (hf_lin hs 158 rfl) h.1 ?_
  replace h := h.2
  refine hf_ireturn dX12_fact_14 rfl rfl ?_
  show hf_G X Y_X12_alikeIn (d + 1) _ _ 36 [some (.ref 156), some (.int x1)] [.int (I 158 ((((53 + (13 * s0)) + 4)).toNatClampNeg))] (t, T, I, L, P) _
  refine hf_aload_n dX12_alikeIn_36 rfl rfl ?_
  refine hf_aload_n dX12_alikeIn_37 rfl rfl ?_
  refine hf_iload_n dX12_alikeIn_38 rfl rfl ?_
  refine hf_iconst (v := 1) dX12_alikeIn_39 (by decide) ?_
  refine hf_isub dX12_alikeIn_40 ?_
  exact hf_callV (c := 12) (as := [.int (x1 - 1)]) ok_X12_firstIn dX12_alikeIn_41 hw1375 hw1376 hw1649 (hs.2.1 156 _ rfl) (by decide) (hf_lin hs 156 rfl) rfl (Nat.le_of_ble_eq_true rfl) rfl (Nat.le_of_ble_eq_true rfl) (Nat.zero_le _) (Nat.zero_le _) (hf_mono (fun r M q => hf_drop (l' := [none, none]) (by simp [hf_sub]) q) h)

set_option maxHeartbeats 4000000 in
theorem w_X12_alikeIn_44 {X : hf_X} {d k n t : Nat} {T : hf_T} {I : hf_I} {L : hf_L} {P : hf_P} {Q : Option Value → hf_M → Prop} {s0 : Int32} {s2 : Int32} (hs : hf_Lay t T P) (h : vp_in ((53 + (13 * s0)) + 4) 5929 ∧ ((¬ s2 = (I 158 ((((53 + (13 * s0)) + 4)).toNatClampNeg)) → Q (some (.int 0)) (t, T, I, L, P)) ∧ (s2 = (I 158 ((((53 + (13 * s0)) + 4)).toNatClampNeg)) → Q (some (.int 1)) (t, T, I, L, P)))) : hf_G X Y_X12_alikeIn (d + 1) k n 44 [none, none] [.int s0, .ref 156, .int s2] (t, T, I, L, P) Q := by
  refine hf_iconst (v := 4) dX12_alikeIn_44 (by decide) ?_
  refine hf_callV (c := 12) (as := [.int s0, .int 4]) ok_X12_fact dX12_alikeIn_45 hw1189 hw1190 hw1606 (hs.2.1 156 _ rfl) (by decide) (hf_lin hs 156 rfl) rfl (Nat.le_of_ble_eq_true rfl) rfl (Nat.le_of_ble_eq_true rfl) (Nat.zero_le _) (Nat.zero_le _) ?_
  show hf_G X Y_X12_fact d _ _ 0 [some (.ref 156), some (.int s0), some (.int 4)] [] (t, T, I, L, P) _
  refine hf_aload_n dX12_fact_0 rfl rfl ?_
  refine hf_getr (b := 158) (c := 12) (j := 2) dX12_fact_1 (hs.2.1 156 _ rfl) (hf_lin hs 156 rfl) (by decide) (by decide) hw1038 rfl (hs.2.2 156 2 _ rfl) ?_
  refine hf_bipush (v := 53) dX12_fact_4 (by decide) ?_
  refine hf_bipush (v := 13) dX12_fact_6 (by decide) ?_
  refine hf_iload_n dX12_fact_8 rfl rfl ?_
  refine hf_imul dX12_fact_9 ?_
  refine hf_iadd dX12_fact_10 ?_
  refine hf_iload_n dX12_fact_11 rfl rfl ?_
  refine hf_iadd dX12_fact_12 ?_
  refine hf_iald dX12_fact_13 (hs.2.1 158 _ rfl) (hf_lin hs 158 rfl) h.1 ?_
  replace h := h.2
  refine hf_ireturn dX12_fact_14 rfl rfl ?_
  show hf_G X Y_X12_alikeIn (d + 1) _ _ 48 [none, none] [.int (I 158 ((((53 + (13 * s0)) + 4)).toNatClampNeg)), .int s2] (t, T, I, L, P) _
  refine hf_icmp_ne (tgt := 55) dX12_alikeIn_48 (by decide) (fun hc => ?_) (fun hc => ?_)
  · replace h := h.1 hc
    refine hf_iconst (v := 0) dX12_alikeIn_55 (by decide) ?_
    refine hf_ireturn dX12_alikeIn_56 rfl rfl ?_
    exact h
  · replace h := h.2 hc
    refine hf_iconst (v := 1) dX12_alikeIn_51 (by decide) ?_
    refine hf_goto (tgt := 56) dX12_alikeIn_52 (by decide) ?_
    refine hf_ireturn dX12_alikeIn_56 rfl rfl ?_
    exact h

set_option maxHeartbeats 4000000 in
theorem w_X12_echoIn_0 {X : hf_X} {d k n t : Nat} {T : hf_T} {I : hf_I} {L : hf_L} {P : hf_P} {Q : Option Value → hf_M → Prop} {x1 : Int32} (hs : hf_Lay t T P) (h : hf_G X Y_X12_echoIn d k n 4 [some (.ref 156), some (.int x1), some (.int 0), some (.int 0)] [] (t, T, I, L, P) Q) : hf_G X Y_X12_echoIn d k n 0 (hf_en [.ref 156, .int x1] 4) [] (t, T, I, L, P) Q := by
  show hf_G X Y_X12_echoIn d k n 0 [some (.ref 156), some (.int x1), none, none] [] (t, T, I, L, P) Q
  refine hf_iconst (v := 0) dX12_echoIn_0 (by decide) ?_
  refine hf_istore_n (l2 := [some (.ref 156), some (.int x1), some (.int 0), none]) dX12_echoIn_1 rfl (by decide) rfl ?_
  refine hf_iconst (v := 0) dX12_echoIn_2 (by decide) ?_
  refine hf_istore_n (l2 := [some (.ref 156), some (.int x1), some (.int 0), some (.int 0)]) dX12_echoIn_3 rfl (by decide) rfl ?_
  exact h

set_option maxHeartbeats 4000000 in
theorem w_X12_echoIn_4 {X : hf_X} {d k n t : Nat} {T : hf_T} {I : hf_I} {L : hf_L} {P : hf_P} {Q : Option Value → hf_M → Prop} {x1 : Int32} {x2 : Int32} {x3 : Int32} (hs : hf_Lay t T P) (h : ((I 158 24) ≤ x3 → Q (some (.int x2)) (t, T, I, L, P)) ∧ (¬ ((I 158 24) ≤ x3) → vp_in (12 + x3) 5929 ∧ ((¬ (I 158 (((12 + x3)).toNatClampNeg)) = x1 → hf_G X Y_X12_echoIn d k n 4 [some (.ref 156), some (.int x1), some (.int x2), some (.int (x3 + 1))] [] (t, T, I, L, P) Q) ∧ ((I 158 (((12 + x3)).toNatClampNeg)) = x1 → vp_in (0 + x3) 5929 ∧ (vp_in (275 + x1) 5929 ∧ ((¬ (I 158 (((0 + x3)).toNatClampNeg)) = (I 158 (((275 + x1)).toNatClampNeg)) → hf_G X Y_X12_echoIn d k n 4 [some (.ref 156), some (.int x1), some (.int x2), some (.int (x3 + 1))] [] (t, T, I, L, P) Q) ∧ ((I 158 (((0 + x3)).toNatClampNeg)) = (I 158 (((275 + x1)).toNatClampNeg)) → hf_G X Y_X12_echoIn d k n 4 [some (.ref 156), some (.int x1), some (.int 1), some (.int (x3 + 1))] [] (t, T, I, L, P) Q))))))) : hf_G X Y_X12_echoIn d k n 4 [some (.ref 156), some (.int x1), some (.int x2), some (.int x3)] [] (t, T, I, L, P) Q := by
  refine hf_iload_n dX12_echoIn_4 rfl rfl ?_
  refine hf_aload_n dX12_echoIn_5 rfl rfl ?_
  refine hf_getr (b := 158) (c := 12) (j := 2) dX12_echoIn_6 (hs.2.1 156 _ rfl) (hf_lin hs 156 rfl) (by decide) (by decide) hw1038 rfl (hs.2.2 156 2 _ rfl) ?_
  refine hf_bipush (v := 24) dX12_echoIn_9 (by decide) ?_
  refine hf_iald_k (j := 24) (by decide) dX12_echoIn_11 (hs.2.1 158 _ rfl) (hf_lin hs 158 rfl) (hf_vin (by decide)) ?_
  refine hf_icmp_ge (tgt := 61) dX12_echoIn_12 (by decide) (fun hc => ?_) (fun hc => ?_)
  · replace h := h.1 hc
    refine hf_iload_n dX12_echoIn_61 rfl rfl ?_
    refine hf_ireturn dX12_echoIn_62 rfl rfl ?_
    exact h
  · replace h := h.2 hc
    refine hf_aload_n dX12_echoIn_15 rfl rfl ?_
    refine hf_getr (b := 158) (c := 12) (j := 2) dX12_echoIn_16 (hs.2.1 156 _ rfl) (hf_lin hs 156 rfl) (by decide) (by decide) hw1038 rfl (hs.2.2 156 2 _ rfl) ?_
    refine hf_bipush (v := 12) dX12_echoIn_19 (by decide) ?_
    refine hf_iload_n dX12_echoIn_21 rfl rfl ?_
    refine hf_iadd dX12_echoIn_22 ?_
    refine hf_iald dX12_echoIn_23 (hs.2.1 158 _ rfl) (hf_lin hs 158 rfl) h.1 ?_
    replace h := h.2
    refine hf_iload_n dX12_echoIn_24 rfl rfl ?_
    refine hf_icmp_ne (tgt := 53) dX12_echoIn_25 (by decide) (fun hc => ?_) (fun hc => ?_)
    · replace h := h.1 hc
      refine hf_iload_n dX12_echoIn_53 rfl rfl ?_
      refine hf_istore_n (l2 := [some (.ref 156), some (.int x1), some (.int x2), some (.int x3)]) dX12_echoIn_54 rfl (by decide) rfl ?_
      refine hf_iinc (v := (x3 + 1)) (l2 := [some (.ref 156), some (.int x1), some (.int x2), some (.int (x3 + 1))]) dX12_echoIn_55 (by decide) rfl rfl rfl ?_
      refine hf_goto (tgt := 4) dX12_echoIn_58 (by decide) ?_
      exact h
    · replace h := h.2 hc
      refine hf_aload_n dX12_echoIn_28 rfl rfl ?_
      refine hf_getr (b := 158) (c := 12) (j := 2) dX12_echoIn_29 (hs.2.1 156 _ rfl) (hf_lin hs 156 rfl) (by decide) (by decide) hw1038 rfl (hs.2.2 156 2 _ rfl) ?_
      refine hf_iconst (v := 0) dX12_echoIn_32 (by decide) ?_
      refine hf_iload_n dX12_echoIn_33 rfl rfl ?_
      refine hf_iadd dX12_echoIn_34 ?_
      refine hf_iald dX12_echoIn_35 (hs.2.1 158 _ rfl) (hf_lin hs 158 rfl) h.1 ?_
      replace h := h.2
      refine hf_aload_n dX12_echoIn_36 rfl rfl ?_
      refine hf_getr (b := 158) (c := 12) (j := 2) dX12_echoIn_37 (hs.2.1 156 _ rfl) (hf_lin hs 156 rfl) (by decide) (by decide) hw1038 rfl (hs.2.2 156 2 _ rfl) ?_
      refine hf_sipush (v := 275) dX12_echoIn_40 (by decide) ?_
      refine hf_iload_n dX12_echoIn_43 rfl rfl ?_
      refine hf_iadd dX12_echoIn_44 ?_
      refine hf_iald dX12_echoIn_45 (hs.2.1 158 _ rfl) (hf_lin hs 158 rfl) h.1 ?_
      replace h := h.2
      refine hf_icmp_ne (tgt := 53) dX12_echoIn_46 (by decide) (fun hc => ?_) (fun hc => ?_)
      · replace h := h.1 hc
        refine hf_iload_n dX12_echoIn_53 rfl rfl ?_
        refine hf_istore_n (l2 := [some (.ref 156), some (.int x1), some (.int x2), some (.int x3)]) dX12_echoIn_54 rfl (by decide) rfl ?_
        refine hf_iinc (v := (x3 + 1)) (l2 := [some (.ref 156), some (.int x1), some (.int x2), some (.int (x3 + 1))]) dX12_echoIn_55 (by decide) rfl rfl rfl ?_
        refine hf_goto (tgt := 4) dX12_echoIn_58 (by decide) ?_
        exact h
      · replace h := h.2 hc
        refine hf_iconst (v := 1) dX12_echoIn_49 (by decide) ?_
        refine hf_goto (tgt := 54) dX12_echoIn_50 (by decide) ?_
        refine hf_istore_n (l2 := [some (.ref 156), some (.int x1), some (.int 1), some (.int x3)]) dX12_echoIn_54 rfl (by decide) rfl ?_
        refine hf_iinc (v := (x3 + 1)) (l2 := [some (.ref 156), some (.int x1), some (.int 1), some (.int (x3 + 1))]) dX12_echoIn_55 (by decide) rfl rfl rfl ?_
        refine hf_goto (tgt := 4) dX12_echoIn_58 (by decide) ?_
        exact h

set_option maxHeartbeats 4000000 in
theorem w_X12_costIn_0 {X : hf_X} {d k n t : Nat} {T : hf_T} {I : hf_I} {L : hf_L} {P : hf_P} {Q : Option Value → hf_M → Prop} {x1 : Int32} (hs : hf_Lay t T P) (h : hf_G X Y_X12_manyIn d 0 0 0 (hf_en [.ref 156, .int x1] 4) [] (t, T, I, L, P) (fun r M => hf_G X Y_X12_costIn (d + 1) k n 5 [some (.ref 156), some (.int x1)] (r.toList ++ []) M Q)) : hf_G X Y_X12_costIn (d + 1) k n 0 (hf_en [.ref 156, .int x1] 2) [] (t, T, I, L, P) Q := by
  show hf_G X Y_X12_costIn (d + 1) k n 0 [some (.ref 156), some (.int x1)] [] (t, T, I, L, P) Q
  refine hf_aload_n dX12_costIn_0 rfl rfl ?_
  refine hf_iload_n dX12_costIn_1 rfl rfl ?_
  exact hf_callV (c := 12) (as := [.int x1]) ok_X12_manyIn dX12_costIn_2 hw1366 hw1367 hw1646 (hs.2.1 156 _ rfl) (by decide) (hf_lin hs 156 rfl) rfl (Nat.le_of_ble_eq_true rfl) rfl (Nat.le_of_ble_eq_true rfl) (Nat.zero_le _) (Nat.zero_le _) h

set_option maxHeartbeats 4000000 in
theorem w_X12_costIn_5 {X : hf_X} {d k n t : Nat} {T : hf_T} {I : hf_I} {L : hf_L} {P : hf_P} {Q : Option Value → hf_M → Prop} {x1 : Int32} {s0 : Int32} (hs : hf_Lay t T P) (h : (¬ s0 = 0 → hf_G X Y_X12_broadIn d 0 0 0 (hf_en [.ref 156, .int x1] 5) [] (t, T, I, L, P) (fun r M => hf_G X Y_X12_costIn (d + 1) k n 27 [some (.ref 156), some (.int x1)] (r.toList ++ [.int (I 158 313), .int x1, .ref 156]) M Q)) ∧ (s0 = 0 → Q (some (.int 0)) (t, T, I, L, P))) : hf_G X Y_X12_costIn (d + 1) k n 5 [some (.ref 156), some (.int x1)] [.int s0] (t, T, I, L, P) Q := by
  refine hf_if_ne (tgt := 12) dX12_costIn_5 (by decide) (fun hc => ?_) (fun hc => ?_)
  · replace h := h.1 hc
    refine hf_aload_n dX12_costIn_12 rfl rfl ?_
    refine hf_iload_n dX12_costIn_13 rfl rfl ?_
    refine hf_aload_n dX12_costIn_14 rfl rfl ?_
    refine hf_getr (b := 158) (c := 12) (j := 2) dX12_costIn_15 (hs.2.1 156 _ rfl) (hf_lin hs 156 rfl) (by decide) (by decide) hw1038 rfl (hs.2.2 156 2 _ rfl) ?_
    refine hf_sipush (v := 313) dX12_costIn_18 (by decide) ?_
    refine hf_iald_k (j := 313) (by decide) dX12_costIn_21 (hs.2.1 158 _ rfl) (hf_lin hs 158 rfl) (hf_vin (by decide)) ?_
    refine hf_aload_n dX12_costIn_22 rfl rfl ?_
    refine hf_iload_n dX12_costIn_23 rfl rfl ?_
    exact hf_callV (c := 12) (as := [.int x1]) ok_X12_broadIn dX12_costIn_24 hw1235 hw1236 hw1619 (hs.2.1 156 _ rfl) (by decide) (hf_lin hs 156 rfl) rfl (Nat.le_of_ble_eq_true rfl) rfl (Nat.le_of_ble_eq_true rfl) (Nat.zero_le _) (Nat.zero_le _) h
  · replace h := h.2 hc
    refine hf_iconst (v := 0) dX12_costIn_8 (by decide) ?_
    refine hf_goto (tgt := 46) dX12_costIn_9 (by decide) ?_
    refine hf_ireturn dX12_costIn_46 rfl rfl ?_
    exact h

set_option maxHeartbeats 4000000 in
theorem w_X12_costIn_27 {X : hf_X} {d k n t : Nat} {T : hf_T} {I : hf_I} {L : hf_L} {P : hf_P} {Q : Option Value → hf_M → Prop} {x1 : Int32} {s0 : Int32} {s1 : Int32} {s2 : Int32} (hs : hf_Lay t T P) (h : hf_G X Y_X12_manyIn d 0 0 0 (hf_en [.ref 156, .int x1] 4) [] (t, T, I, L, P) (fun r M => hf_G X Y_X12_costIn (d + 1) k n 33 [some (.ref 156), some (.int x1)] (r.toList ++ [.int (s1 - s0), .int s2, .ref 156]) M Q)) : hf_G X Y_X12_costIn (d + 1) k n 27 [some (.ref 156), some (.int x1)] [.int s0, .int s1, .int s2, .ref 156] (t, T, I, L, P) Q := by
  refine hf_isub dX12_costIn_27 ?_
  refine hf_aload_n dX12_costIn_28 rfl rfl ?_
  refine hf_iload_n dX12_costIn_29 rfl rfl ?_
  exact hf_callV (c := 12) (as := [.int x1]) ok_X12_manyIn dX12_costIn_30 hw1366 hw1367 hw1646 (hs.2.1 156 _ rfl) (by decide) (hf_lin hs 156 rfl) rfl (Nat.le_of_ble_eq_true rfl) rfl (Nat.le_of_ble_eq_true rfl) (Nat.zero_le _) (Nat.zero_le _) h

set_option maxHeartbeats 4000000 in
theorem w_X12_costIn_33 {X : hf_X} {d k n t : Nat} {T : hf_T} {I : hf_I} {L : hf_L} {P : hf_P} {Q : Option Value → hf_M → Prop} {x1 : Int32} {s0 : Int32} {s1 : Int32} {s2 : Int32} (hs : hf_Lay t T P) (h : hf_G X Y_X12_alikeIn d 0 0 0 (hf_en [.ref 156, .int x1] 2) [] (t, T, I, L, P) (fun r M => hf_G X Y_X12_costIn (d + 1) k n 38 [some (.ref 156), some (.int x1)] (r.toList ++ [.int s0, .int s1, .int s2, .ref 156]) M Q)) : hf_G X Y_X12_costIn (d + 1) k n 33 [some (.ref 156), some (.int x1)] [.int s0, .int s1, .int s2, .ref 156] (t, T, I, L, P) Q := by
  refine hf_aload_n dX12_costIn_33 rfl rfl ?_
  refine hf_iload_n dX12_costIn_34 rfl rfl ?_
  exact hf_callV (c := 12) (as := [.int x1]) ok_X12_alikeIn dX12_costIn_35 hw1372 hw1373 hw1648 (hs.2.1 156 _ rfl) (by decide) (hf_lin hs 156 rfl) rfl (Nat.le_of_ble_eq_true rfl) rfl (Nat.le_of_ble_eq_true rfl) (Nat.zero_le _) (Nat.zero_le _) h

set_option maxHeartbeats 4000000 in
theorem w_X12_costIn_38 {X : hf_X} {d k n t : Nat} {T : hf_T} {I : hf_I} {L : hf_L} {P : hf_P} {Q : Option Value → hf_M → Prop} {x1 : Int32} {s0 : Int32} {s1 : Int32} {s2 : Int32} {s3 : Int32} (hs : hf_Lay t T P) (h : hf_G X Y_X12_echoIn d 0 0 0 (hf_en [.ref 156, .int x1] 4) [] (t, T, I, L, P) (fun r M => hf_G X Y_X12_costIn (d + 1) k n 43 [none, none] (r.toList ++ [.int s0, .int s1, .int s2, .int s3, .ref 156]) M Q)) : hf_G X Y_X12_costIn (d + 1) k n 38 [some (.ref 156), some (.int x1)] [.int s0, .int s1, .int s2, .int s3, .ref 156] (t, T, I, L, P) Q := by
  refine hf_aload_n dX12_costIn_38 rfl rfl ?_
  refine hf_iload_n dX12_costIn_39 rfl rfl ?_
  exact hf_callV (c := 12) (as := [.int x1]) ok_X12_echoIn dX12_costIn_40 hw1378 hw1379 hw1650 (hs.2.1 156 _ rfl) (by decide) (hf_lin hs 156 rfl) rfl (Nat.le_of_ble_eq_true rfl) rfl (Nat.le_of_ble_eq_true rfl) (Nat.zero_le _) (Nat.zero_le _) (hf_mono (fun r M q => hf_drop (l' := [none, none]) (by simp [hf_sub]) q) h)

set_option maxHeartbeats 4000000 in
theorem w_X12_costIn_43 {X : hf_X} {d k n t : Nat} {T : hf_T} {I : hf_I} {L : hf_L} {P : hf_P} {Q : Option Value → hf_M → Prop} {s0 : Int32} {s1 : Int32} {s2 : Int32} {s3 : Int32} {s4 : Int32} (hs : hf_Lay t T P) (h : hf_G X Y_X12_costOf d 0 0 0 (hf_en [.ref 156, .int s4, .int s3, .int s2, .int s1, .int s0] 7) [] (t, T, I, L, P) (fun r M => hf_G X Y_X12_costIn (d + 1) k n 46 [none, none] (r.toList ++ []) M Q)) : hf_G X Y_X12_costIn (d + 1) k n 43 [none, none] [.int s0, .int s1, .int s2, .int s3, .int s4, .ref 156] (t, T, I, L, P) Q := by
  exact hf_callV (c := 12) (as := [.int s4, .int s3, .int s2, .int s1, .int s0]) ok_X12_costOf dX12_costIn_43 hw1381 hw1382 hw1651 (hs.2.1 156 _ rfl) (by decide) (hf_lin hs 156 rfl) rfl (Nat.le_of_ble_eq_true rfl) rfl (Nat.le_of_ble_eq_true rfl) (Nat.zero_le _) (Nat.zero_le _) h

set_option maxHeartbeats 4000000 in
theorem w_X12_costIn_46 {X : hf_X} {d k n t : Nat} {T : hf_T} {I : hf_I} {L : hf_L} {P : hf_P} {Q : Option Value → hf_M → Prop} {s0 : Int32} (hs : hf_Lay t T P) (h : Q (some (.int s0)) (t, T, I, L, P)) : hf_G X Y_X12_costIn d k n 46 [none, none] [.int s0] (t, T, I, L, P) Q := by
  refine hf_ireturn dX12_costIn_46 rfl rfl ?_
  exact h
