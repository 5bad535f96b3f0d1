set_option maxHeartbeats 4000000 in
theorem w_X8_solve_0 {X : hf_X} {d k n t : Nat} {T : hf_T} {I : hf_I} {L : hf_L} {P : hf_P} {Q : Option Value → hf_M → Prop} {x1 : Int32} (hs : hf_Lay t T P) (h : (¬ (I 136 15) = x1 → hf_G X Y_X8_prepare d 0 0 0 (hf_en [.ref 136, .int (I 101 14)] 4) [] (t, T, (hf_up I 136 15 x1), L, P) (fun r M => hf_G X Y_X8_solve (d + 1) k n 25 [some (.ref 136), none, none, none] (r.toList ++ []) M Q)) ∧ ((I 136 15) = x1 → Q none (t, T, I, L, P))) : hf_G X Y_X8_solve (d + 1) k n 0 (hf_en [.ref 136, .int x1] 4) [] (t, T, I, L, P) Q := by
  show hf_G X Y_X8_solve (d + 1) k n 0 [some (.ref 136), some (.int x1), none, none] [] (t, T, I, L, P) Q
  refine hf_aload_n dX8_solve_0 rfl rfl ?_
  refine hf_geti (c := 8) (j := 15) dX8_solve_1 (hs.2.1 136 _ rfl) (hf_lin hs 136 rfl) (by decide) (by decide) hw293 (Or.inl rfl) ?_
  refine hf_iload_n dX8_solve_4 rfl rfl ?_
  refine hf_icmp_ne (tgt := 9) dX8_solve_5 (by decide) (fun hc => ?_) (fun hc => ?_)
  · replace h := h.1 hc
    refine hf_aload_n dX8_solve_9 rfl rfl ?_
    refine hf_iload_n dX8_solve_10 rfl rfl ?_
    refine hf_puti (c := 8) (j := 15) dX8_solve_11 (hs.2.1 136 _ rfl) (hf_lin hs 136 rfl) (by decide) (by decide) hw293 rfl rfl ?_
    refine hf_aload_n dX8_solve_14 rfl rfl ?_
    refine hf_aload_n dX8_solve_15 rfl rfl ?_
    refine hf_getr (b := 101) (c := 8) (j := 0) dX8_solve_16 (hs.2.1 136 _ rfl) (hf_lin hs 136 rfl) (by decide) (by decide) hw278 rfl (hs.2.2 136 0 _ rfl) ?_
    refine hf_geti (c := 1) (j := 14) dX8_solve_19 (hs.2.1 101 _ rfl) (hf_lin hs 101 rfl) (by decide) (by decide) hw144 (Or.inl rfl) ?_
    exact hf_callV (c := 8) (as := [.int (I 101 14)]) ok_X8_prepare dX8_solve_22 hw812 hw813 hw1586 (hs.2.1 136 _ rfl) (by decide) (hf_lin hs 136 rfl) rfl (Nat.le_of_ble_eq_true rfl) rfl (Nat.le_of_ble_eq_true rfl) (Nat.zero_le _) (Nat.zero_le _) (hf_mono (fun r M q => hf_drop (l' := [some (.ref 136), none, none, none]) (by simp [hf_sub]) q) h)
  · replace h := h.2 hc
    refine hf_return dX8_solve_8 rfl ?_
    exact h

set_option maxHeartbeats 4000000 in
theorem w_X8_solve_25 {X : hf_X} {d k n t : Nat} {T : hf_T} {I : hf_I} {L : hf_L} {P : hf_P} {Q : Option Value → hf_M → Prop}  (hs : hf_Lay t T P) (h : hf_G X Y_X8_hasRow d 0 0 0 (hf_en [.ref 136] 2) [] (t, T, (hf_up (hf_up I 136 17 0) 136 18 (-1)), (hf_upL L 136 16 1152921504606846976), P) (fun r M => hf_G X Y_X8_solve (d + 1) k n 46 [some (.ref 136), none, none, none] (r.toList ++ []) M Q)) : hf_G X Y_X8_solve (d + 1) k n 25 [some (.ref 136), none, none, none] [] (t, T, I, L, P) Q := by
  refine hf_aload_n dX8_solve_25 rfl rfl ?_
  refine hf_ldc2 (v := 1152921504606846976) dX8_solve_26 hw277 ?_
  refine hf_putl (c := 8) (j := 16) dX8_solve_29 (hs.2.1 136 _ rfl) (hf_lin hs 136 rfl) (by decide) (by decide) hw294 rfl rfl ?_
  refine hf_aload_n dX8_solve_32 rfl rfl ?_
  refine hf_iconst (v := 0) dX8_solve_33 (by decide) ?_
  refine hf_puti (c := 8) (j := 17) dX8_solve_34 (hs.2.1 136 _ rfl) (hf_lin hs 136 rfl) (by decide) (by decide) hw296 rfl rfl ?_
  refine hf_aload_n dX8_solve_37 rfl rfl ?_
  refine hf_iconst (v := (-1)) dX8_solve_38 (by decide) ?_
  refine hf_puti (c := 8) (j := 18) dX8_solve_39 (hs.2.1 136 _ rfl) (hf_lin hs 136 rfl) (by decide) (by decide) hw298 rfl rfl ?_
  refine hf_aload_n dX8_solve_42 rfl rfl ?_
  exact hf_callV (c := 8) (as := []) ok_X8_hasRow dX8_solve_43 hw822 hw823 hw1588 (hs.2.1 136 _ rfl) (by decide) (hf_lin hs 136 rfl) rfl (Nat.le_of_ble_eq_true rfl) rfl (Nat.le_of_ble_eq_true rfl) (Nat.zero_le _) (Nat.zero_le _) h

set_option maxHeartbeats 4000000 in
theorem w_X8_solve_46 {X : hf_X} {d k n t : Nat} {T : hf_T} {I : hf_I} {L : hf_L} {P : hf_P} {Q : Option Value → hf_M → Prop} {s0 : Int32} (hs : hf_Lay t T P) (h : (¬ s0 = 0 → hf_G X Y_X8_solve d k n 57 [some (.ref 136), none, some (.int ((I 136 9) - 1)), none] [] (t, T, I, L, P) Q) ∧ (s0 = 0 → Q none (t, T, I, L, P))) : hf_G X Y_X8_solve d k n 46 [some (.ref 136), none, none, none] [.int s0] (t, T, I, L, P) Q := by
  refine hf_if_ne (tgt := 50) dX8_solve_46 (by decide) (fun hc => ?_) (fun hc => ?_)
  · replace h := h.1 hc
    refine hf_aload_n dX8_solve_50 rfl rfl ?_
    refine hf_geti (c := 8) (j := 9) dX8_solve_51 (hs.2.1 136 _ rfl) (hf_lin hs 136 rfl) (by decide) (by decide) hw287 (Or.inl rfl) ?_
    refine hf_iconst (v := 1) dX8_solve_54 (by decide) ?_
    refine hf_isub dX8_solve_55 ?_
    refine hf_istore_n (l2 := [some (.ref 136), none, some (.int ((I 136 9) - 1)), none]) dX8_solve_56 rfl (by decide) rfl ?_
    exact h
  · replace h := h.2 hc
    refine hf_return dX8_solve_49 rfl ?_
    exact h

set_option maxHeartbeats 4000000 in
theorem w_X8_solve_57 {X : hf_X} {d k n t : Nat} {T : hf_T} {I : hf_I} {L : hf_L} {P : hf_P} {Q : Option Value → hf_M → Prop} {x2 : Int32} (hs : hf_Lay t T P) (h : (x2 ≤ 0 → hf_G X Y_X8_fillTails d 0 0 0 (hf_en [.ref 136, .int 0, .int 0] 10) [] (t, T, I, L, P) (fun r M => hf_G X Y_X8_solve (d + 1) k n 103 [some (.ref 136), none, none, none] (r.toList ++ []) M Q)) ∧ (¬ (x2 ≤ 0) → hf_G X Y_X8_solve (d + 1) k n 63 [some (.ref 136), none, some (.int x2), some (.int 1)] [] (t, T, I, L, P) Q)) : hf_G X Y_X8_solve (d + 1) k n 57 [some (.ref 136), none, some (.int x2), none] [] (t, T, I, L, P) Q := by
  refine hf_iload_n dX8_solve_57 rfl rfl ?_
  refine hf_if_le (tgt := 97) dX8_solve_58 (by decide) (fun hc => ?_) (fun hc => ?_)
  · replace h := h.1 hc
    refine hf_aload_n dX8_solve_97 rfl rfl ?_
    refine hf_iconst (v := 0) dX8_solve_98 (by decide) ?_
    refine hf_iconst (v := 0) dX8_solve_99 (by decide) ?_
    exact hf_callV (c := 8) (as := [.int 0, .int 0]) ok_X8_fillTails dX8_solve_100 hw825 hw826 hw1589 (hs.2.1 136 _ rfl) (by decide) (hf_lin hs 136 rfl) rfl (Nat.le_of_ble_eq_true rfl) rfl (Nat.le_of_ble_eq_true rfl) (Nat.zero_le _) (Nat.zero_le _) (hf_mono (fun r M q => hf_drop (l' := [some (.ref 136), none, none, none]) (by simp [hf_sub]) q) h)
  · replace h := h.2 hc
    refine hf_iconst (v := 1) dX8_solve_61 (by decide) ?_
    refine hf_istore_n (l2 := [some (.ref 136), none, some (.int x2), some (.int 1)]) dX8_solve_62 rfl (by decide) rfl ?_
    exact h

set_option maxHeartbeats 4000000 in
theorem w_X8_solve_63 {X : hf_X} {d k n t : Nat} {T : hf_T} {I : hf_I} {L : hf_L} {P : hf_P} {Q : Option Value → hf_M → Prop} {x2 : Int32} {x3 : Int32} (hs : hf_Lay t T P) (h : (x2 < x3 → hf_G X Y_X8_solve (d + 1) k n 57 [some (.ref 136), none, some (.int (x2 + (-1))), none] [] (t, T, I, L, P) Q) ∧ (¬ (x2 < x3) → ((I 101 13) ≤ x3 → hf_G X Y_X8_solve (d + 1) k n 57 [some (.ref 136), none, some (.int (x2 + (-1))), none] [] (t, T, I, L, P) Q) ∧ (¬ ((I 101 13) ≤ x3) → hf_G X Y_X8_fillTails d 0 0 0 (hf_en [.ref 136, .int x2, .int x3] 10) [] (t, T, I, L, P) (fun r M => hf_G X Y_X8_solve (d + 1) k n 85 [some (.ref 136), none, some (.int x2), some (.int x3)] (r.toList ++ []) M Q)))) : hf_G X Y_X8_solve (d + 1) k n 63 [some (.ref 136), none, some (.int x2), some (.int x3)] [] (t, T, I, L, P) Q := by
  refine hf_iload_n dX8_solve_63 rfl rfl ?_
  refine hf_iload_n dX8_solve_64 rfl rfl ?_
  refine hf_icmp_gt (tgt := 91) dX8_solve_65 (by decide) (fun hc => ?_) (fun hc => ?_)
  · replace h := h.1 hc
    refine hf_iinc (v := (x2 + (-1))) (l2 := [some (.ref 136), none, some (.int (x2 + (-1))), some (.int x3)]) dX8_solve_91 (by decide) rfl rfl rfl ?_
    refine hf_goto (tgt := 57) dX8_solve_94 (by decide) ?_
    refine hf_drop (l' := [some (.ref 136), none, some (.int (x2 + (-1))), none]) (by simp [hf_sub]) ?_
    exact h
  · replace h := h.2 hc
    refine hf_iload_n dX8_solve_68 rfl rfl ?_
    refine hf_aload_n dX8_solve_69 rfl rfl ?_
    refine hf_getr (b := 101) (c := 8) (j := 0) dX8_solve_70 (hs.2.1 136 _ rfl) (hf_lin hs 136 rfl) (by decide) (by decide) hw278 rfl (hs.2.2 136 0 _ rfl) ?_
    refine hf_geti (c := 1) (j := 13) dX8_solve_73 (hs.2.1 101 _ rfl) (hf_lin hs 101 rfl) (by decide) (by decide) hw141 (Or.inl rfl) ?_
    refine hf_icmp_ge (tgt := 91) dX8_solve_76 (by decide) (fun hc => ?_) (fun hc => ?_)
    · replace h := h.1 hc
      refine hf_iinc (v := (x2 + (-1))) (l2 := [some (.ref 136), none, some (.int (x2 + (-1))), some (.int x3)]) dX8_solve_91 (by decide) rfl rfl rfl ?_
      refine hf_goto (tgt := 57) dX8_solve_94 (by decide) ?_
      refine hf_drop (l' := [some (.ref 136), none, some (.int (x2 + (-1))), none]) (by simp [hf_sub]) ?_
      exact h
    · replace h := h.2 hc
      refine hf_aload_n dX8_solve_79 rfl rfl ?_
      refine hf_iload_n dX8_solve_80 rfl rfl ?_
      refine hf_iload_n dX8_solve_81 rfl rfl ?_
      exact hf_callV (c := 8) (as := [.int x2, .int x3]) ok_X8_fillTails dX8_solve_82 hw825 hw826 hw1589 (hs.2.1 136 _ rfl) (by decide) (hf_lin hs 136 rfl) rfl (Nat.le_of_ble_eq_true rfl) rfl (Nat.le_of_ble_eq_true rfl) (Nat.zero_le _) (Nat.zero_le _) h

set_option maxHeartbeats 4000000 in
theorem w_X8_solve_103 {X : hf_X} {d k n t : Nat} {T : hf_T} {I : hf_I} {L : hf_L} {P : hf_P} {Q : Option Value → hf_M → Prop}  (hs : hf_Lay t T P) (h : hf_G X Y_X8_leastTail d 0 0 0 (hf_en [.ref 136, .int 0, .int 0, .int (-1)] 9) [] (t, T, (hf_up I 136 17 (I 143 0)), L, P) (fun r M => hf_G X Y_X8_solve (d + 1) k n 121 [some (.ref 136), none, none, none] (r.toList ++ [.ref 136]) M Q)) : hf_G X Y_X8_solve (d + 1) k n 103 [some (.ref 136), none, none, none] [] (t, T, I, L, P) Q := by
  refine hf_aload_n dX8_solve_103 rfl rfl ?_
  refine hf_aload_n dX8_solve_104 rfl rfl ?_
  refine hf_getr (b := 143) (c := 8) (j := 8) dX8_solve_105 (hs.2.1 136 _ rfl) (hf_lin hs 136 rfl) (by decide) (by decide) hw286 rfl (hs.2.2 136 8 _ rfl) ?_
  refine hf_iconst (v := 0) dX8_solve_108 (by decide) ?_
  refine hf_iald_k (j := 0) (by decide) dX8_solve_109 (hs.2.1 143 _ rfl) (hf_lin hs 143 rfl) (hf_vin (by decide)) ?_
  refine hf_puti (c := 8) (j := 17) dX8_solve_110 (hs.2.1 136 _ rfl) (hf_lin hs 136 rfl) (by decide) (by decide) hw296 rfl rfl ?_
  refine hf_aload_n dX8_solve_113 rfl rfl ?_
  refine hf_aload_n dX8_solve_114 rfl rfl ?_
  refine hf_iconst (v := 0) dX8_solve_115 (by decide) ?_
  refine hf_iconst (v := 0) dX8_solve_116 (by decide) ?_
  refine hf_iconst (v := (-1)) dX8_solve_117 (by decide) ?_
  exact hf_callV (c := 8) (as := [.int 0, .int 0, .int (-1)]) ok_X8_leastTail dX8_solve_118 hw844 hw845 hw1593 (hs.2.1 136 _ rfl) (by decide) (hf_lin hs 136 rfl) rfl (Nat.le_of_ble_eq_true rfl) rfl (Nat.le_of_ble_eq_true rfl) (Nat.zero_le _) (Nat.zero_le _) h

set_option maxHeartbeats 4000000 in
theorem w_X8_solve_85 {X : hf_X} {d k n t : Nat} {T : hf_T} {I : hf_I} {L : hf_L} {P : hf_P} {Q : Option Value → hf_M → Prop} {x2 : Int32} {x3 : Int32} (hs : hf_Lay t T P) (h : hf_G X Y_X8_solve d k n 63 [some (.ref 136), none, some (.int x2), some (.int (x3 + 1))] [] (t, T, I, L, P) Q) : hf_G X Y_X8_solve d k n 85 [some (.ref 136), none, some (.int x2), some (.int x3)] [] (t, T, I, L, P) Q := by
  refine hf_iinc (v := (x3 + 1)) (l2 := [some (.ref 136), none, some (.int x2), some (.int (x3 + 1))]) dX8_solve_85 (by decide) rfl rfl rfl ?_
  refine hf_goto (tgt := 63) dX8_solve_88 (by decide) ?_
  exact h

set_option maxHeartbeats 4000000 in
theorem w_X8_solve_121 {X : hf_X} {d k n t : Nat} {T : hf_T} {I : hf_I} {L : hf_L} {P : hf_P} {Q : Option Value → hf_M → Prop} {s0 : Int64} (hs : hf_Lay t T P) (h : hf_G X Y_X8_seekTruest d 0 0 0 (hf_en [.ref 136, .int 0, .int 1, .int (-1), .int 0, .long 0] 15) [] (t, T, I, (hf_upL L 136 16 s0), P) (fun r M => hf_G X Y_X8_solve (d + 1) k n 133 [some (.ref 136), none, none, none] (r.toList ++ []) M Q)) : hf_G X Y_X8_solve (d + 1) k n 121 [some (.ref 136), none, none, none] [.long s0, .ref 136] (t, T, I, L, P) Q := by
  refine hf_putl (c := 8) (j := 16) dX8_solve_121 (hs.2.1 136 _ rfl) (hf_lin hs 136 rfl) (by decide) (by decide) hw294 rfl rfl ?_
  refine hf_aload_n dX8_solve_124 rfl rfl ?_
  refine hf_iconst (v := 0) dX8_solve_125 (by decide) ?_
  refine hf_iconst (v := 1) dX8_solve_126 (by decide) ?_
  refine hf_iconst (v := (-1)) dX8_solve_127 (by decide) ?_
  refine hf_iconst (v := 0) dX8_solve_128 (by decide) ?_
  refine hf_lconst (v := 0) dX8_solve_129 (by decide) ?_
  exact hf_callV (c := 8) (as := [.int 0, .int 1, .int (-1), .int 0, .long 0]) ok_X8_seekTruest dX8_solve_130 hw854 hw855 hw1594 (hs.2.1 136 _ rfl) (by decide) (hf_lin hs 136 rfl) rfl (Nat.le_of_ble_eq_true rfl) rfl (Nat.le_of_ble_eq_true rfl) (Nat.zero_le _) (Nat.zero_le _) h

set_option maxHeartbeats 4000000 in
theorem w_X8_solve_133 {X : hf_X} {d k n t : Nat} {T : hf_T} {I : hf_I} {L : hf_L} {P : hf_P} {Q : Option Value → hf_M → Prop}  (hs : hf_Lay t T P) (h : ((I 136 18) = (-1) → Q none (t, T, I, L, P)) ∧ (¬ ((I 136 18) = (-1)) → hf_G X Y_X8_rowCost d 0 0 0 (hf_en [.ref 136, .long (L 136 19)] 8) [] (t, T, I, L, P) (fun r M => hf_G X Y_X8_solve (d + 1) k n 154 [none, none, none, none] (r.toList ++ [.long (L 136 19), .ref 136]) M Q))) : hf_G X Y_X8_solve (d + 1) k n 133 [some (.ref 136), none, none, none] [] (t, T, I, L, P) Q := by
  refine hf_aload_n dX8_solve_133 rfl rfl ?_
  refine hf_geti (c := 8) (j := 18) dX8_solve_134 (hs.2.1 136 _ rfl) (hf_lin hs 136 rfl) (by decide) (by decide) hw298 (Or.inl rfl) ?_
  refine hf_iconst (v := (-1)) dX8_solve_137 (by decide) ?_
  refine hf_icmp_eq (tgt := 161) dX8_solve_138 (by decide) (fun hc => ?_) (fun hc => ?_)
  · replace h := h.1 hc
    refine hf_return dX8_solve_161 rfl ?_
    exact h
  · replace h := h.2 hc
    refine hf_aload_n dX8_solve_141 rfl rfl ?_
    refine hf_dup dX8_solve_142 rfl ?_
    refine hf_getl (c := 8) (j := 19) dX8_solve_143 (hs.2.1 136 _ rfl) (hf_lin hs 136 rfl) (by decide) (by decide) hw300 rfl ?_
    refine hf_aload_n dX8_solve_146 rfl rfl ?_
    refine hf_aload_n dX8_solve_147 rfl rfl ?_
    refine hf_getl (c := 8) (j := 19) dX8_solve_148 (hs.2.1 136 _ rfl) (hf_lin hs 136 rfl) (by decide) (by decide) hw300 rfl ?_
    exact hf_callV (c := 8) (as := [.long (L 136 19)]) ok_X8_rowCost dX8_solve_151 hw857 hw858 hw1595 (hs.2.1 136 _ rfl) (by decide) (hf_lin hs 136 rfl) rfl (Nat.le_of_ble_eq_true rfl) rfl (Nat.le_of_ble_eq_true rfl) (Nat.zero_le _) (Nat.zero_le _) (hf_mono (fun r M q => hf_drop (l' := [none, none, none, none]) (by simp [hf_sub]) q) h)

set_option maxHeartbeats 4000000 in
theorem w_X8_solve_154 {X : hf_X} {d k n t : Nat} {T : hf_T} {I : hf_I} {L : hf_L} {P : hf_P} {Q : Option Value → hf_M → Prop} {s0 : Int32} {s1 : Int64} (hs : hf_Lay t T P) (h : Q none (t, T, I, (hf_upL L 136 19 (s1 + (s0.toInt64 <<< ((30 : Int32).toInt64 &&& 63)))), P)) : hf_G X Y_X8_solve (d + 1) k n 154 [none, none, none, none] [.int s0, .long s1, .ref 136] (t, T, I, L, P) Q := by
  refine hf_callSN (host := RX11) (as := [.int s0]) ok_X11_costKey dX8_solve_154 (by decide +kernel) hw833 rfl (Nat.le_of_ble_eq_true rfl) rfl (Nat.le_of_ble_eq_true rfl) (Nat.zero_le _) (Nat.zero_le _) ?_
  show hf_G X Y_X11_costKey d _ _ 0 [some (.int s0)] [] (t, T, I, L, P) _
  refine hf_iload_n dX11_costKey_0 rfl rfl ?_
  refine hf_i2l dX11_costKey_1 ?_
  refine hf_bipush (v := 30) dX11_costKey_2 (by decide) ?_
  refine hf_lshl dX11_costKey_4 rfl ?_
  refine hf_lreturn dX11_costKey_5 rfl ?_
  show hf_G X Y_X8_solve (d + 1) _ _ 157 [none, none, none, none] [.long (s0.toInt64 <<< ((30 : Int32).toInt64 &&& 63)), .long s1, .ref 136] (t, T, I, L, P) _
  refine hf_ladd dX8_solve_157 ?_
  refine hf_putl (c := 8) (j := 19) dX8_solve_158 (hs.2.1 136 _ rfl) (hf_lin hs 136 rfl) (by decide) (by decide) hw300 rfl rfl ?_
  refine hf_return dX8_solve_161 rfl ?_
  exact h

set_option maxHeartbeats 4000000 in
theorem w_X8_prepare_0 {X : hf_X} {d k n t : Nat} {T : hf_T} {I : hf_I} {L : hf_L} {P : hf_P} {Q : Option Value → hf_M → Prop} {x1 : Int32} (hs : hf_Lay t T P) (h : hf_G X Y_X8_prepare (d + 1) k n 27 [some (.ref 136), some (.int x1), some (.int 0), none] [] (t, T, (hf_up (hf_up I 136 9 (I 101 17)) 136 10 (((I 102 26) * (x1 + 2)) / 2)), L, P) Q) : hf_G X Y_X8_prepare (d + 1) k n 0 (hf_en [.ref 136, .int x1] 4) [] (t, T, I, L, P) Q := by
  show hf_G X Y_X8_prepare (d + 1) k n 0 [some (.ref 136), some (.int x1), none, none] [] (t, T, I, L, P) Q
  refine hf_aload_n dX8_prepare_0 rfl rfl ?_
  refine hf_aload_n dX8_prepare_1 rfl rfl ?_
  refine hf_getr (b := 101) (c := 8) (j := 0) dX8_prepare_2 (hs.2.1 136 _ rfl) (hf_lin hs 136 rfl) (by decide) (by decide) hw278 rfl (hs.2.2 136 0 _ rfl) ?_
  refine hf_geti (c := 1) (j := 17) dX8_prepare_5 (hs.2.1 101 _ rfl) (hf_lin hs 101 rfl) (by decide) (by decide) hw154 (Or.inl rfl) ?_
  refine hf_puti (c := 8) (j := 9) dX8_prepare_8 (hs.2.1 136 _ rfl) (hf_lin hs 136 rfl) (by decide) (by decide) hw287 rfl rfl ?_
  refine hf_aload_n dX8_prepare_11 rfl rfl ?_
  refine hf_aload_n dX8_prepare_12 rfl rfl ?_
  refine hf_getr (b := 101) (c := 8) (j := 0) dX8_prepare_13 (hs.2.1 136 _ rfl) (hf_lin hs 136 rfl) (by decide) (by decide) hw278 rfl (hs.2.2 136 0 _ rfl) ?_
  refine hf_bipush (v := 26) dX8_prepare_16 (by decide) ?_
  refine hf_iload_n dX8_prepare_18 rfl rfl ?_
  refine hf_callV (c := 1) (as := [.int 26, .int x1]) ok_X1_letterWidth dX8_prepare_19 hw815 hw483 hw484 (hs.2.1 101 _ rfl) (by decide) (hf_lin hs 101 rfl) rfl (Nat.le_of_ble_eq_true rfl) rfl (Nat.le_of_ble_eq_true rfl) (Nat.zero_le _) (Nat.zero_le _) ?_
  show hf_G X Y_X1_letterWidth d _ _ 0 [some (.ref 101), some (.int 26), some (.int x1)] [] (t, T, (hf_up I 136 9 (I 101 17)), L, P) _
  refine hf_aload_n dX1_letterWidth_0 rfl rfl ?_
  refine hf_getr (b := 102) (c := 1) (j := 0) dX1_letterWidth_1 (hs.2.1 101 _ rfl) (hf_lin hs 101 rfl) (by decide) (by decide) hw99 rfl (hs.2.2 101 0 _ rfl) ?_
  refine hf_iload_n dX1_letterWidth_4 rfl rfl ?_
  refine hf_iald_k (j := 26) (by decide) dX1_letterWidth_5 (hs.2.1 102 _ rfl) (hf_lin hs 102 rfl) (hf_vin (by decide)) ?_
  refine hf_iload_n dX1_letterWidth_6 rfl rfl ?_
  refine hf_iconst (v := 2) dX1_letterWidth_7 (by decide) ?_
  refine hf_iadd dX1_letterWidth_8 ?_
  refine hf_imul dX1_letterWidth_9 ?_
  refine hf_iconst (v := 2) dX1_letterWidth_10 (by decide) ?_
  refine hf_idiv dX1_letterWidth_11 (by decide) ?_
  refine hf_ireturn dX1_letterWidth_12 rfl rfl ?_
  show hf_G X Y_X8_prepare (d + 1) _ _ 22 [some (.ref 136), some (.int x1), none, none] [.int (((I 102 26) * (x1 + 2)) / 2), .ref 136] (t, T, (hf_up I 136 9 (I 101 17)), L, P) _
  refine hf_puti (c := 8) (j := 10) dX8_prepare_22 (hs.2.1 136 _ rfl) (hf_lin hs 136 rfl) (by decide) (by decide) hw288 rfl rfl ?_
  refine hf_iconst (v := 0) dX8_prepare_25 (by decide) ?_
  refine hf_istore_n (l2 := [some (.ref 136), some (.int x1), some (.int 0), none]) dX8_prepare_26 rfl (by decide) rfl ?_
  exact h

set_option maxHeartbeats 4000000 in
theorem w_X8_prepare_27 {X : hf_X} {d k n t : Nat} {T : hf_T} {I : hf_I} {L : hf_L} {P : hf_P} {Q : Option Value → hf_M → Prop} {x1 : Int32} {x2 : Int32} (hs : hf_Lay t T P) (h : ((I 136 9) ≤ x2 → hf_G X Y_X8_prepare d k n 57 [some (.ref 136), some (.int x1), some (.int 0), none] [] (t, T, I, L, P) Q) ∧ (¬ ((I 136 9) ≤ x2) → vp_in x2 6 ∧ (vp_in x2 6 ∧ (hf_G X Y_X8_prepare d k n 27 [some (.ref 136), some (.int x1), some (.int (x2 + 1)), none] [] (t, T, (hf_up (hf_up I 140 x2.toNatClampNeg 0) 141 x2.toNatClampNeg (-1)), L, P) Q)))) : hf_G X Y_X8_prepare d k n 27 [some (.ref 136), some (.int x1), some (.int x2), none] [] (t, T, I, L, P) Q := by
  refine hf_iload_n dX8_prepare_27 rfl rfl ?_
  refine hf_aload_n dX8_prepare_28 rfl rfl ?_
  refine hf_geti (c := 8) (j := 9) dX8_prepare_29 (hs.2.1 136 _ rfl) (hf_lin hs 136 rfl) (by decide) (by decide) hw287 (Or.inl rfl) ?_
  refine hf_icmp_ge (tgt := 55) dX8_prepare_32 (by decide) (fun hc => ?_) (fun hc => ?_)
  · replace h := h.1 hc
    refine hf_iconst (v := 0) dX8_prepare_55 (by decide) ?_
    refine hf_istore_n (l2 := [some (.ref 136), some (.int x1), some (.int 0), none]) dX8_prepare_56 rfl (by decide) rfl ?_
    exact h
  · replace h := h.2 hc
    refine hf_aload_n dX8_prepare_35 rfl rfl ?_
    refine hf_getr (b := 140) (c := 8) (j := 5) dX8_prepare_36 (hs.2.1 136 _ rfl) (hf_lin hs 136 rfl) (by decide) (by decide) hw283 rfl (hs.2.2 136 5 _ rfl) ?_
    refine hf_iload_n dX8_prepare_39 rfl rfl ?_
    refine hf_iconst (v := 0) dX8_prepare_40 (by decide) ?_
    refine hf_iast dX8_prepare_41 (hs.2.1 140 _ rfl) (hf_lin hs 140 rfl) h.1 ?_
    replace h := h.2
    refine hf_aload_n dX8_prepare_42 rfl rfl ?_
    refine hf_getr (b := 141) (c := 8) (j := 6) dX8_prepare_43 (hs.2.1 136 _ rfl) (hf_lin hs 136 rfl) (by decide) (by decide) hw284 rfl (hs.2.2 136 6 _ rfl) ?_
    refine hf_iload_n dX8_prepare_46 rfl rfl ?_
    refine hf_iconst (v := (-1)) dX8_prepare_47 (by decide) ?_
    refine hf_iast dX8_prepare_48 (hs.2.1 141 _ rfl) (hf_lin hs 141 rfl) h.1 ?_
    replace h := h.2
    refine hf_iinc (v := (x2 + 1)) (l2 := [some (.ref 136), some (.int x1), some (.int (x2 + 1)), none]) dX8_prepare_49 (by decide) rfl rfl rfl ?_
    refine hf_goto (tgt := 27) dX8_prepare_52 (by decide) ?_
    exact h

set_option maxHeartbeats 4000000 in
theorem w_X8_prepare_57 {X : hf_X} {d k n t : Nat} {T : hf_T} {I : hf_I} {L : hf_L} {P : hf_P} {Q : Option Value → hf_M → Prop} {x1 : Int32} {x2 : Int32} (hs : hf_Lay t T P) (h : ((I 105 5) ≤ x2 → Q none (t, T, I, L, P)) ∧ (¬ ((I 105 5) ≤ x2) → hf_G X Y_X4_isBarred d 0 0 0 (hf_en [.ref 135, .int x2, .int x1] 3) [] (t, T, I, L, P) (fun r M => hf_G X Y_X8_prepare (d + 1) k n 80 [some (.ref 136), some (.int x1), some (.int x2), none] (r.toList ++ []) M Q))) : hf_G X Y_X8_prepare (d + 1) k n 57 [some (.ref 136), some (.int x1), some (.int x2), none] [] (t, T, I, L, P) Q := by
  refine hf_iload_n dX8_prepare_57 rfl rfl ?_
  refine hf_aload_n dX8_prepare_58 rfl rfl ?_
  refine hf_getr (b := 101) (c := 8) (j := 0) dX8_prepare_59 (hs.2.1 136 _ rfl) (hf_lin hs 136 rfl) (by decide) (by decide) hw278 rfl (hs.2.2 136 0 _ rfl) ?_
  refine hf_getr (b := 105) (c := 1) (j := 3) dX8_prepare_62 (hs.2.1 101 _ rfl) (hf_lin hs 101 rfl) (by decide) (by decide) hw110 rfl (hs.2.2 101 3 _ rfl) ?_
  refine hf_geti (c := 10) (j := 5) dX8_prepare_65 (hs.2.1 105 _ rfl) (hf_lin hs 105 rfl) (by decide) (by decide) hw62 (Or.inl rfl) ?_
  refine hf_icmp_ge (tgt := 168) dX8_prepare_68 (by decide) (fun hc => ?_) (fun hc => ?_)
  · replace h := h.1 hc
    refine hf_return dX8_prepare_168 rfl ?_
    exact h
  · replace h := h.2 hc
    refine hf_aload_n dX8_prepare_71 rfl rfl ?_
    refine hf_getr (b := 135) (c := 8) (j := 1) dX8_prepare_72 (hs.2.1 136 _ rfl) (hf_lin hs 136 rfl) (by decide) (by decide) hw279 rfl (hs.2.2 136 1 _ rfl) ?_
    refine hf_iload_n dX8_prepare_75 rfl rfl ?_
    refine hf_iload_n dX8_prepare_76 rfl rfl ?_
    exact hf_callV (c := 4) (as := [.int x2, .int x1]) ok_X4_isBarred dX8_prepare_77 hw816 hw534 hw535 (hs.2.1 135 _ rfl) (by decide) (hf_lin hs 135 rfl) rfl (Nat.le_of_ble_eq_true rfl) rfl (Nat.le_of_ble_eq_true rfl) (Nat.zero_le _) (Nat.zero_le _) h

set_option maxHeartbeats 4000000 in
theorem w_X8_prepare_80 {X : hf_X} {d k n t : Nat} {T : hf_T} {I : hf_I} {L : hf_L} {P : hf_P} {Q : Option Value → hf_M → Prop} {x1 : Int32} {x2 : Int32} {s0 : Int32} (hs : hf_Lay t T P) (h : (s0 = 0 → hf_G X Y_X1_wordWidth d 0 0 0 (hf_en [.ref 101, .int x2, .int x1] 6) [] (t, T, I, L, P) (fun r M => hf_G X Y_X8_prepare (d + 1) k n 100 [some (.ref 136), some (.int x1), some (.int x2), none] (r.toList ++ [.int x2, .ref 137]) M Q)) ∧ (¬ (s0 = 0) → hf_G X Y_X8_prepare (d + 1) k n 57 [some (.ref 136), some (.int x1), some (.int (x2 + 1)), none] [] (t, T, I, L, P) Q)) : hf_G X Y_X8_prepare (d + 1) k n 80 [some (.ref 136), some (.int x1), some (.int x2), none] [.int s0] (t, T, I, L, P) Q := by
  refine hf_if_eq (tgt := 86) dX8_prepare_80 (by decide) (fun hc => ?_) (fun hc => ?_)
  · replace h := h.1 hc
    refine hf_aload_n dX8_prepare_86 rfl rfl ?_
    refine hf_getr (b := 137) (c := 8) (j := 2) dX8_prepare_87 (hs.2.1 136 _ rfl) (hf_lin hs 136 rfl) (by decide) (by decide) hw280 rfl (hs.2.2 136 2 _ rfl) ?_
    refine hf_iload_n dX8_prepare_90 rfl rfl ?_
    refine hf_aload_n dX8_prepare_91 rfl rfl ?_
    refine hf_getr (b := 101) (c := 8) (j := 0) dX8_prepare_92 (hs.2.1 136 _ rfl) (hf_lin hs 136 rfl) (by decide) (by decide) hw278 rfl (hs.2.2 136 0 _ rfl) ?_
    refine hf_iload_n dX8_prepare_95 rfl rfl ?_
    refine hf_iload_n dX8_prepare_96 rfl rfl ?_
    exact hf_callV (c := 1) (as := [.int x2, .int x1]) ok_X1_wordWidth dX8_prepare_97 hw817 hw479 hw480 (hs.2.1 101 _ rfl) (by decide) (hf_lin hs 101 rfl) rfl (Nat.le_of_ble_eq_true rfl) rfl (Nat.le_of_ble_eq_true rfl) (Nat.zero_le _) (Nat.zero_le _) h
  · replace h := h.2 hc
    refine hf_goto (tgt := 162) dX8_prepare_83 (by decide) ?_
    refine hf_iinc (v := (x2 + 1)) (l2 := [some (.ref 136), some (.int x1), some (.int (x2 + 1)), none]) dX8_prepare_162 (by decide) rfl rfl rfl ?_
    refine hf_goto (tgt := 57) dX8_prepare_165 (by decide) ?_
    exact h

set_option maxHeartbeats 4000000 in
theorem w_X8_prepare_100 {X : hf_X} {d k n t : Nat} {T : hf_T} {I : hf_I} {L : hf_L} {P : hf_P} {Q : Option Value → hf_M → Prop} {x1 : Int32} {x2 : Int32} {s0 : Int32} {s1 : Int32} (hs : hf_Lay t T P) (h : vp_in s1 16 ∧ (hf_G X Y_X4_lossOf d 0 0 0 (hf_en [.ref 135, .int x2, .int x1] 3) [] (t, T, (hf_up I 137 s1.toNatClampNeg s0), L, P) (fun r M => hf_G X Y_X8_prepare (d + 1) k n 115 [some (.ref 136), some (.int x1), some (.int x2), none] (r.toList ++ [.int x2, .ref 138]) M Q))) : hf_G X Y_X8_prepare (d + 1) k n 100 [some (.ref 136), some (.int x1), some (.int x2), none] [.int s0, .int s1, .ref 137] (t, T, I, L, P) Q := by
  refine hf_iast dX8_prepare_100 (hs.2.1 137 _ rfl) (hf_lin hs 137 rfl) h.1 ?_
  replace h := h.2
  refine hf_aload_n dX8_prepare_101 rfl rfl ?_
  refine hf_getr (b := 138) (c := 8) (j := 3) dX8_prepare_102 (hs.2.1 136 _ rfl) (hf_lin hs 136 rfl) (by decide) (by decide) hw281 rfl (hs.2.2 136 3 _ rfl) ?_
  refine hf_iload_n dX8_prepare_105 rfl rfl ?_
  refine hf_aload_n dX8_prepare_106 rfl rfl ?_
  refine hf_getr (b := 135) (c := 8) (j := 1) dX8_prepare_107 (hs.2.1 136 _ rfl) (hf_lin hs 136 rfl) (by decide) (by decide) hw279 rfl (hs.2.2 136 1 _ rfl) ?_
  refine hf_iload_n dX8_prepare_110 rfl rfl ?_
  refine hf_iload_n dX8_prepare_111 rfl rfl ?_
  exact hf_callV (c := 4) (as := [.int x2, .int x1]) ok_X4_lossOf dX8_prepare_112 hw818 hw491 hw492 (hs.2.1 135 _ rfl) (by decide) (hf_lin hs 135 rfl) rfl (Nat.le_of_ble_eq_true rfl) rfl (Nat.le_of_ble_eq_true rfl) (Nat.zero_le _) (Nat.zero_le _) h

set_option maxHeartbeats 4000000 in
theorem w_X8_prepare_115 {X : hf_X} {d k n t : Nat} {T : hf_T} {I : hf_I} {L : hf_L} {P : hf_P} {Q : Option Value → hf_M → Prop} {x1 : Int32} {x2 : Int32} {s0 : Int32} {s1 : Int32} (hs : hf_Lay t T P) (h : vp_in s1 16 ∧ (hf_G X Y_X8_prepare d k n 118 [some (.ref 136), some (.int x1), some (.int x2), some (.int 0)] [] (t, T, (hf_up I 138 s1.toNatClampNeg s0), L, P) Q)) : hf_G X Y_X8_prepare d k n 115 [some (.ref 136), some (.int x1), some (.int x2), none] [.int s0, .int s1, .ref 138] (t, T, I, L, P) Q := by
  refine hf_iast dX8_prepare_115 (hs.2.1 138 _ rfl) (hf_lin hs 138 rfl) h.1 ?_
  replace h := h.2
  refine hf_iconst (v := 0) dX8_prepare_116 (by decide) ?_
  refine hf_istore_n (l2 := [some (.ref 136), some (.int x1), some (.int x2), some (.int 0)]) dX8_prepare_117 rfl (by decide) rfl ?_
  exact h

set_option maxHeartbeats 4000000 in
theorem w_X8_prepare_118 {X : hf_X} {d k n t : Nat} {T : hf_T} {I : hf_I} {L : hf_L} {P : hf_P} {Q : Option Value → hf_M → Prop} {x1 : Int32} {x2 : Int32} {x3 : Int32} (hs : hf_Lay t T P) (h : ((I 136 9) ≤ x3 → hf_G X Y_X8_prepare (d + 1) k n 57 [some (.ref 136), some (.int x1), some (.int (x2 + 1)), none] [] (t, T, I, L, P) Q) ∧ (¬ ((I 136 9) ≤ x3) → vp_in x3 6 ∧ (vp_in x2 16 ∧ ((¬ (I 112 x3.toNatClampNeg) = (I 106 x2.toNatClampNeg) → hf_G X Y_X8_prepare (d + 1) k n 118 [some (.ref 136), some (.int x1), some (.int x2), some (.int (x3 + 1))] [] (t, T, I, L, P) Q) ∧ ((I 112 x3.toNatClampNeg) = (I 106 x2.toNatClampNeg) → hf_G X Y_X8_addChoice d 0 0 0 (hf_en [.ref 136, .int x3, .int x2] 3) [] (t, T, I, L, P) (fun r M => hf_G X Y_X8_prepare (d + 1) k n 156 [some (.ref 136), some (.int x1), some (.int x2), some (.int x3)] (r.toList ++ []) M Q)))))) : hf_G X Y_X8_prepare (d + 1) k n 118 [some (.ref 136), some (.int x1), some (.int x2), some (.int x3)] [] (t, T, I, L, P) Q := by
  refine hf_iload_n dX8_prepare_118 rfl rfl ?_
  refine hf_aload_n dX8_prepare_119 rfl rfl ?_
  refine hf_geti (c := 8) (j := 9) dX8_prepare_120 (hs.2.1 136 _ rfl) (hf_lin hs 136 rfl) (by decide) (by decide) hw287 (Or.inl rfl) ?_
  refine hf_icmp_ge (tgt := 162) dX8_prepare_123 (by decide) (fun hc => ?_) (fun hc => ?_)
  · replace h := h.1 hc
    refine hf_iinc (v := (x2 + 1)) (l2 := [some (.ref 136), some (.int x1), some (.int (x2 + 1)), some (.int x3)]) dX8_prepare_162 (by decide) rfl rfl rfl ?_
    refine hf_goto (tgt := 57) dX8_prepare_165 (by decide) ?_
    refine hf_drop (l' := [some (.ref 136), some (.int x1), some (.int (x2 + 1)), none]) (by simp [hf_sub]) ?_
    exact h
  · replace h := h.2 hc
    refine hf_aload_n dX8_prepare_126 rfl rfl ?_
    refine hf_getr (b := 101) (c := 8) (j := 0) dX8_prepare_127 (hs.2.1 136 _ rfl) (hf_lin hs 136 rfl) (by decide) (by decide) hw278 rfl (hs.2.2 136 0 _ rfl) ?_
    refine hf_getr (b := 112) (c := 1) (j := 5) dX8_prepare_130 (hs.2.1 101 _ rfl) (hf_lin hs 101 rfl) (by decide) (by decide) hw116 rfl (hs.2.2 101 5 _ rfl) ?_
    refine hf_iload_n dX8_prepare_133 rfl rfl ?_
    refine hf_iald dX8_prepare_134 (hs.2.1 112 _ rfl) (hf_lin hs 112 rfl) h.1 ?_
    replace h := h.2
    refine hf_aload_n dX8_prepare_135 rfl rfl ?_
    refine hf_getr (b := 101) (c := 8) (j := 0) dX8_prepare_136 (hs.2.1 136 _ rfl) (hf_lin hs 136 rfl) (by decide) (by decide) hw278 rfl (hs.2.2 136 0 _ rfl) ?_
    refine hf_getr (b := 105) (c := 1) (j := 3) dX8_prepare_139 (hs.2.1 101 _ rfl) (hf_lin hs 101 rfl) (by decide) (by decide) hw110 rfl (hs.2.2 101 3 _ rfl) ?_
    refine hf_getr (b := 106) (c := 10) (j := 0) dX8_prepare_142 (hs.2.1 105 _ rfl) (hf_lin hs 105 rfl) (by decide) (by decide) hw43 rfl (hs.2.2 105 0 _ rfl) ?_
    refine hf_iload_n dX8_prepare_145 rfl rfl ?_
    refine hf_iald dX8_prepare_146 (hs.2.1 106 _ rfl) (hf_lin hs 106 rfl) h.1 ?_
    replace h := h.2
    refine hf_icmp_ne (tgt := 156) dX8_prepare_147 (by decide) (fun hc => ?_) (fun hc => ?_)
    · replace h := h.1 hc
      refine hf_iinc (v := (x3 + 1)) (l2 := [some (.ref 136), some (.int x1), some (.int x2), some (.int (x3 + 1))]) dX8_prepare_156 (by decide) rfl rfl rfl ?_
      refine hf_goto (tgt := 118) dX8_prepare_159 (by decide) ?_
      exact h
    · replace h := h.2 hc
      refine hf_aload_n dX8_prepare_150 rfl rfl ?_
      refine hf_iload_n dX8_prepare_151 rfl rfl ?_
      refine hf_iload_n dX8_prepare_152 rfl rfl ?_
      exact hf_callV (c := 8) (as := [.int x3, .int x2]) ok_X8_addChoice dX8_prepare_153 hw819 hw820 hw1587 (hs.2.1 136 _ rfl) (by decide) (hf_lin hs 136 rfl) rfl (Nat.le_of_ble_eq_true rfl) rfl (Nat.le_of_ble_eq_true rfl) (Nat.zero_le _) (Nat.zero_le _) h

set_option maxHeartbeats 4000000 in
theorem w_X8_prepare_156 {X : hf_X} {d k n t : Nat} {T : hf_T} {I : hf_I} {L : hf_L} {P : hf_P} {Q : Option Value → hf_M → Prop} {x1 : Int32} {x2 : Int32} {x3 : Int32} (hs : hf_Lay t T P) (h : hf_G X Y_X8_prepare d k n 118 [some (.ref 136), some (.int x1), some (.int x2), some (.int (x3 + 1))] [] (t, T, I, L, P) Q) : hf_G X Y_X8_prepare d k n 156 [some (.ref 136), some (.int x1), some (.int x2), some (.int x3)] [] (t, T, I, L, P) Q := by
  refine hf_iinc (v := (x3 + 1)) (l2 := [some (.ref 136), some (.int x1), some (.int x2), some (.int (x3 + 1))]) dX8_prepare_156 (by decide) rfl rfl rfl ?_
  refine hf_goto (tgt := 118) dX8_prepare_159 (by decide) ?_
  exact h

set_option maxHeartbeats 4000000 in
theorem w_X8_addChoice_0 {X : hf_X} {d k n t : Nat} {T : hf_T} {I : hf_I} {L : hf_L} {P : hf_P} {Q : Option Value → hf_M → Prop} {x1 : Int32} {x2 : Int32} (hs : hf_Lay t T P) (h : vp_in x1 6 ∧ (((I 140 x1.toNatClampNeg) < 3 → vp_in x1 6 ∧ (vp_in ((x1 * 3) + (I 140 x1.toNatClampNeg)) 18 ∧ (vp_in x1 6 ∧ (vp_in x1 6 ∧ (vp_in x1 6 ∧ (((I 141 x1.toNatClampNeg) = (-1) → vp_in x2 16 ∧ (vp_in x1 6 ∧ (Q none (t, T, (hf_up (hf_up (hf_up I 139 ((((x1 * 3) + (I 140 x1.toNatClampNeg))).toNatClampNeg) x2) 140 x1.toNatClampNeg ((I 140 x1.toNatClampNeg) + 1)) 141 x1.toNatClampNeg (I 137 x2.toNatClampNeg)), L, P)))) ∧ (¬ ((I 141 x1.toNatClampNeg) = (-1)) → vp_in x2 16 ∧ (vp_in x1 6 ∧ (((I 141 x1.toNatClampNeg) ≤ (I 137 x2.toNatClampNeg) → Q none (t, T, (hf_up (hf_up I 139 ((((x1 * 3) + (I 140 x1.toNatClampNeg))).toNatClampNeg) x2) 140 x1.toNatClampNeg ((I 140 x1.toNatClampNeg) + 1)), L, P)) ∧ (¬ ((I 141 x1.toNatClampNeg) ≤ (I 137 x2.toNatClampNeg)) → vp_in x2 16 ∧ (vp_in x1 6 ∧ (Q none (t, T, (hf_up (hf_up (hf_up I 139 ((((x1 * 3) + (I 140 x1.toNatClampNeg))).toNatClampNeg) x2) 140 x1.toNatClampNeg ((I 140 x1.toNatClampNeg) + 1)) 141 x1.toNatClampNeg (I 137 x2.toNatClampNeg)), L, P))))))))))))) ∧ (¬ ((I 140 x1.toNatClampNeg) < 3) → Q none (t, T, I, L, P)))) : hf_G X Y_X8_addChoice d k n 0 (hf_en [.ref 136, .int x1, .int x2] 3) [] (t, T, I, L, P) Q := by
  show hf_G X Y_X8_addChoice d k n 0 [some (.ref 136), some (.int x1), some (.int x2)] [] (t, T, I, L, P) Q
  refine hf_aload_n dX8_addChoice_0 rfl rfl ?_
  refine hf_getr (b := 140) (c := 8) (j := 5) dX8_addChoice_1 (hs.2.1 136 _ rfl) (hf_lin hs 136 rfl) (by decide) (by decide) hw283 rfl (hs.2.2 136 5 _ rfl) ?_
  refine hf_iload_n dX8_addChoice_4 rfl rfl ?_
  refine hf_iald dX8_addChoice_5 (hs.2.1 140 _ rfl) (hf_lin hs 140 rfl) h.1 ?_
  replace h := h.2
  refine hf_iconst (v := 3) dX8_addChoice_6 (by decide) ?_
  refine hf_icmp_lt (tgt := 11) dX8_addChoice_7 (by decide) (fun hc => ?_) (fun hc => ?_)
  · replace h := h.1 hc
    refine hf_aload_n dX8_addChoice_11 rfl rfl ?_
    refine hf_getr (b := 139) (c := 8) (j := 4) dX8_addChoice_12 (hs.2.1 136 _ rfl) (hf_lin hs 136 rfl) (by decide) (by decide) hw282 rfl (hs.2.2 136 4 _ rfl) ?_
    refine hf_iload_n dX8_addChoice_15 rfl rfl ?_
    refine hf_iconst (v := 3) dX8_addChoice_16 (by decide) ?_
    refine hf_imul dX8_addChoice_17 ?_
    refine hf_aload_n dX8_addChoice_18 rfl rfl ?_
    refine hf_getr (b := 140) (c := 8) (j := 5) dX8_addChoice_19 (hs.2.1 136 _ rfl) (hf_lin hs 136 rfl) (by decide) (by decide) hw283 rfl (hs.2.2 136 5 _ rfl) ?_
    refine hf_iload_n dX8_addChoice_22 rfl rfl ?_
    refine hf_iald dX8_addChoice_23 (hs.2.1 140 _ rfl) (hf_lin hs 140 rfl) h.1 ?_
    replace h := h.2
    refine hf_iadd dX8_addChoice_24 ?_
    refine hf_iload_n dX8_addChoice_25 rfl rfl ?_
    refine hf_iast dX8_addChoice_26 (hs.2.1 139 _ rfl) (hf_lin hs 139 rfl) h.1 ?_
    replace h := h.2
    refine hf_aload_n dX8_addChoice_27 rfl rfl ?_
    refine hf_getr (b := 140) (c := 8) (j := 5) dX8_addChoice_28 (hs.2.1 136 _ rfl) (hf_lin hs 136 rfl) (by decide) (by decide) hw283 rfl (hs.2.2 136 5 _ rfl) ?_
    refine hf_iload_n dX8_addChoice_31 rfl rfl ?_
    refine hf_dup2 dX8_addChoice_32 rfl rfl ?_
    refine hf_iald dX8_addChoice_33 (hs.2.1 140 _ rfl) (hf_lin hs 140 rfl) h.1 ?_
    replace h := h.2
    refine hf_iconst (v := 1) dX8_addChoice_34 (by decide) ?_
    refine hf_iadd dX8_addChoice_35 ?_
    refine hf_iast dX8_addChoice_36 (hs.2.1 140 _ rfl) (hf_lin hs 140 rfl) h.1 ?_
    replace h := h.2
    refine hf_aload_n dX8_addChoice_37 rfl rfl ?_
    refine hf_getr (b := 141) (c := 8) (j := 6) dX8_addChoice_38 (hs.2.1 136 _ rfl) (hf_lin hs 136 rfl) (by decide) (by decide) hw284 rfl (hs.2.2 136 6 _ rfl) ?_
    refine hf_iload_n dX8_addChoice_41 rfl rfl ?_
    refine hf_iald dX8_addChoice_42 (hs.2.1 141 _ rfl) (hf_lin hs 141 rfl) h.1 ?_
    replace h := h.2
    refine hf_iconst (v := (-1)) dX8_addChoice_43 (by decide) ?_
    refine hf_icmp_eq (tgt := 62) dX8_addChoice_44 (by decide) (fun hc => ?_) (fun hc => ?_)
    · replace h := h.1 hc
      refine hf_aload_n dX8_addChoice_62 rfl rfl ?_
      refine hf_getr (b := 141) (c := 8) (j := 6) dX8_addChoice_63 (hs.2.1 136 _ rfl) (hf_lin hs 136 rfl) (by decide) (by decide) hw284 rfl (hs.2.2 136 6 _ rfl) ?_
      refine hf_iload_n dX8_addChoice_66 rfl rfl ?_
      refine hf_aload_n dX8_addChoice_67 rfl rfl ?_
      refine hf_getr (b := 137) (c := 8) (j := 2) dX8_addChoice_68 (hs.2.1 136 _ rfl) (hf_lin hs 136 rfl) (by decide) (by decide) hw280 rfl (hs.2.2 136 2 _ rfl) ?_
      refine hf_iload_n dX8_addChoice_71 rfl rfl ?_
      refine hf_iald dX8_addChoice_72 (hs.2.1 137 _ rfl) (hf_lin hs 137 rfl) h.1 ?_
      replace h := h.2
      refine hf_iast dX8_addChoice_73 (hs.2.1 141 _ rfl) (hf_lin hs 141 rfl) h.1 ?_
      replace h := h.2
      refine hf_return dX8_addChoice_74 rfl ?_
      exact h
    · replace h := h.2 hc
      refine hf_aload_n dX8_addChoice_47 rfl rfl ?_
      refine hf_getr (b := 137) (c := 8) (j := 2) dX8_addChoice_48 (hs.2.1 136 _ rfl) (hf_lin hs 136 rfl) (by decide) (by decide) hw280 rfl (hs.2.2 136 2 _ rfl) ?_
      refine hf_iload_n dX8_addChoice_51 rfl rfl ?_
      refine hf_iald dX8_addChoice_52 (hs.2.1 137 _ rfl) (hf_lin hs 137 rfl) h.1 ?_
      replace h := h.2
      refine hf_aload_n dX8_addChoice_53 rfl rfl ?_
      refine hf_getr (b := 141) (c := 8) (j := 6) dX8_addChoice_54 (hs.2.1 136 _ rfl) (hf_lin hs 136 rfl) (by decide) (by decide) hw284 rfl (hs.2.2 136 6 _ rfl) ?_
      refine hf_iload_n dX8_addChoice_57 rfl rfl ?_
      refine hf_iald dX8_addChoice_58 (hs.2.1 141 _ rfl) (hf_lin hs 141 rfl) h.1 ?_
      replace h := h.2
      refine hf_icmp_ge (tgt := 74) dX8_addChoice_59 (by decide) (fun hc => ?_) (fun hc => ?_)
      · replace h := h.1 hc
        refine hf_return dX8_addChoice_74 rfl ?_
        exact h
      · replace h := h.2 hc
        refine hf_aload_n dX8_addChoice_62 rfl rfl ?_
        refine hf_getr (b := 141) (c := 8) (j := 6) dX8_addChoice_63 (hs.2.1 136 _ rfl) (hf_lin hs 136 rfl) (by decide) (by decide) hw284 rfl (hs.2.2 136 6 _ rfl) ?_
        refine hf_iload_n dX8_addChoice_66 rfl rfl ?_
        refine hf_aload_n dX8_addChoice_67 rfl rfl ?_
        refine hf_getr (b := 137) (c := 8) (j := 2) dX8_addChoice_68 (hs.2.1 136 _ rfl) (hf_lin hs 136 rfl) (by decide) (by decide) hw280 rfl (hs.2.2 136 2 _ rfl) ?_
        refine hf_iload_n dX8_addChoice_71 rfl rfl ?_
        refine hf_iald dX8_addChoice_72 (hs.2.1 137 _ rfl) (hf_lin hs 137 rfl) h.1 ?_
        replace h := h.2
        refine hf_iast dX8_addChoice_73 (hs.2.1 141 _ rfl) (hf_lin hs 141 rfl) h.1 ?_
        replace h := h.2
        refine hf_return dX8_addChoice_74 rfl ?_
        exact h
  · replace h := h.2 hc
    refine hf_return dX8_addChoice_10 rfl ?_
    exact h

set_option maxHeartbeats 4000000 in
theorem w_X8_hasRow_0 {X : hf_X} {d k n t : Nat} {T : hf_T} {I : hf_I} {L : hf_L} {P : hf_P} {Q : Option Value → hf_M → Prop}  (hs : hf_Lay t T P) (h : hf_G X Y_X8_hasRow d k n 2 [some (.ref 136), some (.int 0)] [] (t, T, I, L, P) Q) : hf_G X Y_X8_hasRow d k n 0 (hf_en [.ref 136] 2) [] (t, T, I, L, P) Q := by
  show hf_G X Y_X8_hasRow d k n 0 [some (.ref 136), none] [] (t, T, I, L, P) Q
  refine hf_iconst (v := 0) dX8_hasRow_0 (by decide) ?_
  refine hf_istore_n (l2 := [some (.ref 136), some (.int 0)]) dX8_hasRow_1 rfl (by decide) rfl ?_
  exact h

set_option maxHeartbeats 4000000 in
theorem w_X8_hasRow_2 {X : hf_X} {d k n t : Nat} {T : hf_T} {I : hf_I} {L : hf_L} {P : hf_P} {Q : Option Value → hf_M → Prop} {x1 : Int32} (hs : hf_Lay t T P) (h : ((I 136 9) ≤ x1 → ((I 136 9) ≤ 0 → Q (some (.int 0)) (t, T, I, L, P)) ∧ (¬ ((I 136 9) ≤ 0) → Q (some (.int 1)) (t, T, I, L, P))) ∧ (¬ ((I 136 9) ≤ x1) → vp_in x1 6 ∧ ((¬ (I 140 x1.toNatClampNeg) = 0 → hf_G X Y_X8_hasRow d k n 2 [some (.ref 136), some (.int (x1 + 1))] [] (t, T, I, L, P) Q) ∧ ((I 140 x1.toNatClampNeg) = 0 → Q (some (.int 0)) (t, T, I, L, P))))) : hf_G X Y_X8_hasRow d k n 2 [some (.ref 136), some (.int x1)] [] (t, T, I, L, P) Q := by
  refine hf_iload_n dX8_hasRow_2 rfl rfl ?_
  refine hf_aload_n dX8_hasRow_3 rfl rfl ?_
  refine hf_geti (c := 8) (j := 9) dX8_hasRow_4 (hs.2.1 136 _ rfl) (hf_lin hs 136 rfl) (by decide) (by decide) hw287 (Or.inl rfl) ?_
  refine hf_icmp_ge (tgt := 27) dX8_hasRow_7 (by decide) (fun hc => ?_) (fun hc => ?_)
  · replace h := h.1 hc
    refine hf_aload_n dX8_hasRow_27 rfl rfl ?_
    refine hf_geti (c := 8) (j := 9) dX8_hasRow_28 (hs.2.1 136 _ rfl) (hf_lin hs 136 rfl) (by decide) (by decide) hw287 (Or.inl rfl) ?_
    refine hf_if_le (tgt := 38) dX8_hasRow_31 (by decide) (fun hc => ?_) (fun hc => ?_)
    · replace h := h.1 hc
      refine hf_iconst (v := 0) dX8_hasRow_38 (by decide) ?_
      refine hf_ireturn dX8_hasRow_39 rfl (by decide) ?_
      exact h
    · replace h := h.2 hc
      refine hf_iconst (v := 1) dX8_hasRow_34 (by decide) ?_
      refine hf_goto (tgt := 39) dX8_hasRow_35 (by decide) ?_
      refine hf_ireturn dX8_hasRow_39 rfl (by decide) ?_
      exact h
  · replace h := h.2 hc
    refine hf_aload_n dX8_hasRow_10 rfl rfl ?_
    refine hf_getr (b := 140) (c := 8) (j := 5) dX8_hasRow_11 (hs.2.1 136 _ rfl) (hf_lin hs 136 rfl) (by decide) (by decide) hw283 rfl (hs.2.2 136 5 _ rfl) ?_
    refine hf_iload_n dX8_hasRow_14 rfl rfl ?_
    refine hf_iald dX8_hasRow_15 (hs.2.1 140 _ rfl) (hf_lin hs 140 rfl) h.1 ?_
    replace h := h.2
    refine hf_if_ne (tgt := 21) dX8_hasRow_16 (by decide) (fun hc => ?_) (fun hc => ?_)
    · replace h := h.1 hc
      refine hf_iinc (v := (x1 + 1)) (l2 := [some (.ref 136), some (.int (x1 + 1))]) dX8_hasRow_21 (by decide) rfl rfl rfl ?_
      refine hf_goto (tgt := 2) dX8_hasRow_24 (by decide) ?_
      exact h
    · replace h := h.2 hc
      refine hf_iconst (v := 0) dX8_hasRow_19 (by decide) ?_
      refine hf_ireturn dX8_hasRow_20 rfl (by decide) ?_
      exact h

set_option maxHeartbeats 4000000 in
theorem w_X8_tailPlace_0 {X : hf_X} {d k n t : Nat} {T : hf_T} {I : hf_I} {L : hf_L} {P : hf_P} {Q : Option Value → hf_M → Prop} {x0 : Int32} {x1 : Int32} {x2 : Int32} {x3 : Int32} (hs : hf_Lay t T P) (h : (x3 = 0 → Q (some (.int ((((((x0 * 4) + x1) * 3) + x2) * 2) + 0))) (t, T, I, L, P)) ∧ (¬ (x3 = 0) → Q (some (.int ((((((x0 * 4) + x1) * 3) + x2) * 2) + 1))) (t, T, I, L, P))) : hf_G X Y_X8_tailPlace d k n 0 (hf_en [.int x0, .int x1, .int x2, .int x3] 4) [] (t, T, I, L, P) Q := by
  show hf_G X Y_X8_tailPlace d k n 0 [some (.int x0), some (.int x1), some (.int x2), some (.int x3)] [] (t, T, I, L, P) Q
  refine hf_iload_n dX8_tailPlace_0 rfl rfl ?_
  refine hf_iconst (v := 4) dX8_tailPlace_1 (by decide) ?_
  refine hf_imul dX8_tailPlace_2 ?_
  refine hf_iload_n dX8_tailPlace_3 rfl rfl ?_
  refine hf_iadd dX8_tailPlace_4 ?_
  refine hf_iconst (v := 3) dX8_tailPlace_5 (by decide) ?_
  refine hf_imul dX8_tailPlace_6 ?_
  refine hf_iload_n dX8_tailPlace_7 rfl rfl ?_
  refine hf_iadd dX8_tailPlace_8 ?_
  refine hf_iconst (v := 2) dX8_tailPlace_9 (by decide) ?_
  refine hf_imul dX8_tailPlace_10 ?_
  refine hf_iload_n dX8_tailPlace_11 rfl rfl ?_
  refine hf_if_eq (tgt := 19) dX8_tailPlace_12 (by decide) (fun hc => ?_) (fun hc => ?_)
  · replace h := h.1 hc
    refine hf_iconst (v := 0) dX8_tailPlace_19 (by decide) ?_
    refine hf_iadd dX8_tailPlace_20 ?_
    refine hf_ireturn dX8_tailPlace_21 rfl rfl ?_
    exact h
  · replace h := h.2 hc
    refine hf_iconst (v := 1) dX8_tailPlace_15 (by decide) ?_
    refine hf_goto (tgt := 20) dX8_tailPlace_16 (by decide) ?_
    refine hf_iadd dX8_tailPlace_20 ?_
    refine hf_ireturn dX8_tailPlace_21 rfl rfl ?_
    exact h

set_option maxHeartbeats 4000000 in
theorem w_X8_fillTails_0 {X : hf_X} {d k n t : Nat} {T : hf_T} {I : hf_I} {L : hf_L} {P : hf_P} {Q : Option Value → hf_M → Prop} {x1 : Int32} {x2 : Int32} (hs : hf_Lay t T P) (h : vp_in ((x1 * 4) + x2) 24 ∧ ((¬ x1 = 0 → hf_G X Y_X8_fillTails (d + 1) k n 37 [some (.ref 136), some (.int x1), some (.int x2), some (.long (1 <<< ((5 - x1).toInt64 &&& 63))), none, some (.int 0), none, none, none, none] [] (t, T, (hf_up (hf_up (hf_up I 136 11 x1) 136 12 x2) 143 ((((x1 * 4) + x2)).toNatClampNeg) 0), L, P) Q) ∧ (x1 = 0 → hf_G X Y_X8_fillTails (d + 1) k n 37 [some (.ref 136), some (.int x1), some (.int x2), some (.long 0), none, some (.int 0), none, none, none, none] [] (t, T, (hf_up (hf_up (hf_up I 136 11 x1) 136 12 x2) 143 ((((x1 * 4) + x2)).toNatClampNeg) 0), L, P) Q))) : hf_G X Y_X8_fillTails (d + 1) k n 0 (hf_en [.ref 136, .int x1, .int x2] 10) [] (t, T, I, L, P) Q := by
  show hf_G X Y_X8_fillTails (d + 1) k n 0 [some (.ref 136), some (.int x1), some (.int x2), none, none, none, none, none, none, none] [] (t, T, I, L, P) Q
  refine hf_aload_n dX8_fillTails_0 rfl rfl ?_
  refine hf_iload_n dX8_fillTails_1 rfl rfl ?_
  refine hf_puti (c := 8) (j := 11) dX8_fillTails_2 (hs.2.1 136 _ rfl) (hf_lin hs 136 rfl) (by decide) (by decide) hw289 rfl rfl ?_
  refine hf_aload_n dX8_fillTails_5 rfl rfl ?_
  refine hf_iload_n dX8_fillTails_6 rfl rfl ?_
  refine hf_puti (c := 8) (j := 12) dX8_fillTails_7 (hs.2.1 136 _ rfl) (hf_lin hs 136 rfl) (by decide) (by decide) hw290 rfl rfl ?_
  refine hf_aload_n dX8_fillTails_10 rfl rfl ?_
  refine hf_getr (b := 143) (c := 8) (j := 8) dX8_fillTails_11 (hs.2.1 136 _ rfl) (hf_lin hs 136 rfl) (by decide) (by decide) hw286 rfl (hs.2.2 136 8 _ rfl) ?_
  refine hf_iload_n dX8_fillTails_14 rfl rfl ?_
  refine hf_iconst (v := 4) dX8_fillTails_15 (by decide) ?_
  refine hf_imul dX8_fillTails_16 ?_
  refine hf_iload_n dX8_fillTails_17 rfl rfl ?_
  refine hf_iadd dX8_fillTails_18 ?_
  refine hf_iconst (v := 0) dX8_fillTails_19 (by decide) ?_
  refine hf_iast dX8_fillTails_20 (hs.2.1 143 _ rfl) (hf_lin hs 143 rfl) h.1 ?_
  replace h := h.2
  refine hf_iload_n dX8_fillTails_21 rfl rfl ?_
  refine hf_if_ne (tgt := 29) dX8_fillTails_22 (by decide) (fun hc => ?_) (fun hc => ?_)
  · replace h := h.1 hc
    refine hf_iload_n dX8_fillTails_29 rfl rfl ?_
    refine hf_callSN (host := RX11) (as := [.int x1]) ok_X11_turnKey dX8_fillTails_30 (by decide +kernel) hw828 rfl (Nat.le_of_ble_eq_true rfl) rfl (Nat.le_of_ble_eq_true rfl) (Nat.zero_le _) (Nat.zero_le _) ?_
    show hf_G X Y_X11_turnKey d _ _ 0 [some (.int x1)] [] (t, T, (hf_up (hf_up (hf_up I 136 11 x1) 136 12 x2) 143 ((((x1 * 4) + x2)).toNatClampNeg) 0), L, P) _
    refine hf_lconst (v := 1) dX11_turnKey_0 (by decide) ?_
    refine hf_iconst (v := 5) dX11_turnKey_1 (by decide) ?_
    refine hf_iload_n dX11_turnKey_2 rfl rfl ?_
    refine hf_isub dX11_turnKey_3 ?_
    refine hf_lshl dX11_turnKey_4 rfl ?_
    refine hf_lreturn dX11_turnKey_5 rfl ?_
    show hf_G X Y_X8_fillTails (d + 1) _ _ 33 [some (.ref 136), some (.int x1), some (.int x2), none, none, none, none, none, none, none] [.long (1 <<< ((5 - x1).toInt64 &&& 63))] (t, T, (hf_up (hf_up (hf_up I 136 11 x1) 136 12 x2) 143 ((((x1 * 4) + x2)).toNatClampNeg) 0), L, P) _
    refine hf_lstore_n (l2 := [some (.ref 136), some (.int x1), some (.int x2), some (.long (1 <<< ((5 - x1).toInt64 &&& 63))), none, none, none, none, none, none]) dX8_fillTails_33 rfl (by decide) rfl ?_
    refine hf_iconst (v := 0) dX8_fillTails_34 (by decide) ?_
    refine hf_istore (l2 := [some (.ref 136), some (.int x1), some (.int x2), some (.long (1 <<< ((5 - x1).toInt64 &&& 63))), none, some (.int 0), none, none, none, none]) dX8_fillTails_35 (by decide) rfl ?_
    exact h
  · replace h := h.2 hc
    refine hf_lconst (v := 0) dX8_fillTails_25 (by decide) ?_
    refine hf_goto (tgt := 33) dX8_fillTails_26 (by decide) ?_
    refine hf_lstore_n (l2 := [some (.ref 136), some (.int x1), some (.int x2), some (.long 0), none, none, none, none, none, none]) dX8_fillTails_33 rfl (by decide) rfl ?_
    refine hf_iconst (v := 0) dX8_fillTails_34 (by decide) ?_
    refine hf_istore (l2 := [some (.ref 136), some (.int x1), some (.int x2), some (.long 0), none, some (.int 0), none, none, none, none]) dX8_fillTails_35 (by decide) rfl ?_
    exact h

set_option maxHeartbeats 4000000 in
theorem w_X8_fillTails_37 {X : hf_X} {d k n t : Nat} {T : hf_T} {I : hf_I} {L : hf_L} {P : hf_P} {Q : Option Value → hf_M → Prop} {x1 : Int32} {x2 : Int32} {x3 : Int64} {x5 : Int32} (hs : hf_Lay t T P) (h : vp_in x1 6 ∧ (((I 140 x1.toNatClampNeg) ≤ x5 → Q none (t, T, I, L, P)) ∧ (¬ ((I 140 x1.toNatClampNeg) ≤ x5) → vp_in ((x1 * 3) + x5) 18 ∧ (vp_in x2 4 ∧ ((¬ (I 139 ((((x1 * 3) + x5)).toNatClampNeg)) = (I 113 x2.toNatClampNeg) → hf_G X Y_X8_fillTails d k n 89 [some (.ref 136), some (.int x1), some (.int x2), some (.long x3), none, some (.int x5), some (.int 0), some (.int 0), none, none] [] (t, T, (hf_up I 136 13 (I 139 ((((x1 * 3) + x5)).toNatClampNeg))), L, P) Q) ∧ ((I 139 ((((x1 * 3) + x5)).toNatClampNeg)) = (I 113 x2.toNatClampNeg) → hf_G X Y_X8_fillTails d k n 89 [some (.ref 136), some (.int x1), some (.int x2), some (.long x3), none, some (.int x5), some (.int 1), some (.int 0), none, none] [] (t, T, (hf_up I 136 13 (I 139 ((((x1 * 3) + x5)).toNatClampNeg))), L, P) Q)))))) : hf_G X Y_X8_fillTails d k n 37 [some (.ref 136), some (.int x1), some (.int x2), some (.long x3), none, some (.int x5), none, none, none, none] [] (t, T, I, L, P) Q := by
  refine hf_iload dX8_fillTails_37 rfl ?_
  refine hf_aload_n dX8_fillTails_39 rfl rfl ?_
  refine hf_getr (b := 140) (c := 8) (j := 5) dX8_fillTails_40 (hs.2.1 136 _ rfl) (hf_lin hs 136 rfl) (by decide) (by decide) hw283 rfl (hs.2.2 136 5 _ rfl) ?_
  refine hf_iload_n dX8_fillTails_43 rfl rfl ?_
  refine hf_iald dX8_fillTails_44 (hs.2.1 140 _ rfl) (hf_lin hs 140 rfl) h.1 ?_
  replace h := h.2
  refine hf_icmp_ge (tgt := 191) dX8_fillTails_45 (by decide) (fun hc => ?_) (fun hc => ?_)
  · replace h := h.1 hc
    refine hf_return dX8_fillTails_191 rfl ?_
    exact h
  · replace h := h.2 hc
    refine hf_aload_n dX8_fillTails_48 rfl rfl ?_
    refine hf_aload_n dX8_fillTails_49 rfl rfl ?_
    refine hf_getr (b := 139) (c := 8) (j := 4) dX8_fillTails_50 (hs.2.1 136 _ rfl) (hf_lin hs 136 rfl) (by decide) (by decide) hw282 rfl (hs.2.2 136 4 _ rfl) ?_
    refine hf_iload_n dX8_fillTails_53 rfl rfl ?_
    refine hf_iconst (v := 3) dX8_fillTails_54 (by decide) ?_
    refine hf_imul dX8_fillTails_55 ?_
    refine hf_iload dX8_fillTails_56 rfl ?_
    refine hf_iadd dX8_fillTails_58 ?_
    refine hf_iald dX8_fillTails_59 (hs.2.1 139 _ rfl) (hf_lin hs 139 rfl) h.1 ?_
    replace h := h.2
    refine hf_puti (c := 8) (j := 13) dX8_fillTails_60 (hs.2.1 136 _ rfl) (hf_lin hs 136 rfl) (by decide) (by decide) hw291 rfl rfl ?_
    refine hf_aload_n dX8_fillTails_63 rfl rfl ?_
    refine hf_geti (c := 8) (j := 13) dX8_fillTails_64 (hs.2.1 136 _ rfl) (hf_lin hs 136 rfl) (by decide) (by decide) hw291 (Or.inl rfl) ?_
    refine hf_aload_n dX8_fillTails_67 rfl rfl ?_
    refine hf_getr (b := 101) (c := 8) (j := 0) dX8_fillTails_68 (hs.2.1 136 _ rfl) (hf_lin hs 136 rfl) (by decide) (by decide) hw278 rfl (hs.2.2 136 0 _ rfl) ?_
    refine hf_getr (b := 113) (c := 1) (j := 6) dX8_fillTails_71 (hs.2.1 101 _ rfl) (hf_lin hs 101 rfl) (by decide) (by decide) hw119 rfl (hs.2.2 101 6 _ rfl) ?_
    refine hf_iload_n dX8_fillTails_74 rfl rfl ?_
    refine hf_iald dX8_fillTails_75 (hs.2.1 113 _ rfl) (hf_lin hs 113 rfl) h.1 ?_
    replace h := h.2
    refine hf_icmp_ne (tgt := 83) dX8_fillTails_76 (by decide) (fun hc => ?_) (fun hc => ?_)
    · replace h := h.1 hc
      refine hf_iconst (v := 0) dX8_fillTails_83 (by decide) ?_
      refine hf_istore (l2 := [some (.ref 136), some (.int x1), some (.int x2), some (.long x3), none, some (.int x5), some (.int 0), none, none, none]) dX8_fillTails_84 (by decide) rfl ?_
      refine hf_iconst (v := 0) dX8_fillTails_86 (by decide) ?_
      refine hf_istore (l2 := [some (.ref 136), some (.int x1), some (.int x2), some (.long x3), none, some (.int x5), some (.int 0), some (.int 0), none, none]) dX8_fillTails_87 (by decide) rfl ?_
      exact h
    · replace h := h.2 hc
      refine hf_iconst (v := 1) dX8_fillTails_79 (by decide) ?_
      refine hf_goto (tgt := 84) dX8_fillTails_80 (by decide) ?_
      refine hf_istore (l2 := [some (.ref 136), some (.int x1), some (.int x2), some (.long x3), none, some (.int x5), some (.int 1), none, none, none]) dX8_fillTails_84 (by decide) rfl ?_
      refine hf_iconst (v := 0) dX8_fillTails_86 (by decide) ?_
      refine hf_istore (l2 := [some (.ref 136), some (.int x1), some (.int x2), some (.long x3), none, some (.int x5), some (.int 1), some (.int 0), none, none]) dX8_fillTails_87 (by decide) rfl ?_
      exact h

set_option maxHeartbeats 4000000 in
theorem w_X8_fillTails_89 {X : hf_X} {d k n t : Nat} {T : hf_T} {I : hf_I} {L : hf_L} {P : hf_P} {Q : Option Value → hf_M → Prop} {x1 : Int32} {x2 : Int32} {x3 : Int64} {x5 : Int32} {x6 : Int32} {x7 : Int32} (hs : hf_Lay t T P) (h : (2 ≤ x7 → hf_G X Y_X8_fillTails (d + 2) k n 37 [some (.ref 136), some (.int x1), some (.int x2), some (.long x3), none, some (.int (x5 + 1)), none, none, none, none] [] (t, T, I, L, P) Q) ∧ (¬ (2 ≤ x7) → (¬ x7 = 1 → vp_in (I 136 13) 16 ∧ (vp_in (I 136 13) 16 ∧ (hf_G X Y_X8_spread (d + 1) 0 0 0 (hf_en [.ref 136, .int x1, .int (I 137 (((I 136 13)).toNatClampNeg)), .long (x3 + (((I 138 (((I 136 13)).toNatClampNeg)).toInt64 <<< ((30 : Int32).toInt64 &&& 63)) + ((I 136 13).toInt64 <<< ((6 + (4 * (5 - x1))).toInt64 &&& 63)))), .int x6] 11) [] (t, T, (hf_up I 136 14 0), (hf_upL L 136 16 1152921504606846976), P) (fun r M => hf_G X Y_X8_fillTails (d + 2) k n 159 [some (.ref 136), some (.int x1), some (.int x2), some (.long x3), none, some (.int x5), some (.int x6), some (.int x7), none, none] (r.toList ++ []) M Q)))) ∧ (x7 = 1 → vp_in (I 136 13) 16 ∧ ((x2 ≤ 0 → vp_in ((((((x1 * 4) + x2) * 3) + x5) * 2) + 1) 144 ∧ (hf_G X Y_X8_fillTails (d + 2) k n 89 [some (.ref 136), some (.int x1), some (.int x2), some (.long x3), none, some (.int x5), some (.int x6), some (.int (x7 + 1)), none, none] [] (t, T, (hf_up I 136 14 1), (hf_upL (hf_upL L 136 16 1152921504606846976) 142 ((((((((x1 * 4) + x2) * 3) + x5) * 2) + 1)).toNatClampNeg) 1152921504606846976), P) Q)) ∧ (¬ (x2 ≤ 0) → vp_in (I 136 13) 16 ∧ (hf_G X Y_X8_spread (d + 1) 0 0 0 (hf_en [.ref 136, .int x1, .int (I 137 (((I 136 13)).toNatClampNeg)), .long (x3 + (((I 138 (((I 136 13)).toNatClampNeg)).toInt64 <<< ((30 : Int32).toInt64 &&& 63)) + ((I 136 13).toInt64 <<< ((6 + (4 * (5 - x1))).toInt64 &&& 63)))), .int x6] 11) [] (t, T, (hf_up I 136 14 1), (hf_upL L 136 16 1152921504606846976), P) (fun r M => hf_G X Y_X8_fillTails (d + 2) k n 159 [some (.ref 136), some (.int x1), some (.int x2), some (.long x3), none, some (.int x5), some (.int x6), some (.int x7), none, none] (r.toList ++ []) M Q))))))) : hf_G X Y_X8_fillTails (d + 2) k n 89 [some (.ref 136), some (.int x1), some (.int x2), some (.long x3), none, some (.int x5), some (.int x6), some (.int x7), none, none] [] (t, T, I, L, P) Q := by
  refine hf_iload dX8_fillTails_89 rfl ?_
  refine hf_iconst (v := 2) dX8_fillTails_91 (by decide) ?_
  refine hf_icmp_ge (tgt := 185) dX8_fillTails_92 (by decide) (fun hc => ?_) (fun hc => ?_)
  · replace h := h.1 hc
    refine hf_iinc (v := (x5 + 1)) (l2 := [some (.ref 136), some (.int x1), some (.int x2), some (.long x3), none, some (.int (x5 + 1)), some (.int x6), some (.int x7), none, none]) dX8_fillTails_185 (by decide) rfl rfl rfl ?_
    refine hf_goto (tgt := 37) dX8_fillTails_188 (by decide) ?_
    refine hf_drop (l' := [some (.ref 136), some (.int x1), some (.int x2), some (.long x3), none, some (.int (x5 + 1)), none, none, none, none]) (by simp [hf_sub]) ?_
    exact h
  · replace h := h.2 hc
    refine hf_aload_n dX8_fillTails_95 rfl rfl ?_
    refine hf_iload dX8_fillTails_96 rfl ?_
    refine hf_iconst (v := 1) dX8_fillTails_98 (by decide) ?_
    refine hf_icmp_ne (tgt := 106) dX8_fillTails_99 (by decide) (fun hc => ?_) (fun hc => ?_)
    · replace h := h.1 hc
      refine hf_iconst (v := 0) dX8_fillTails_106 (by decide) ?_
      refine hf_putz (c := 8) (j := 14) dX8_fillTails_107 (hs.2.1 136 _ rfl) (hf_lin hs 136 rfl) (by decide) (by decide) hw292 rfl rfl (by decide) ?_
      refine hf_aload_n dX8_fillTails_110 rfl rfl ?_
      refine hf_ldc2 (v := 1152921504606846976) dX8_fillTails_111 hw277 ?_
      refine hf_putl (c := 8) (j := 16) dX8_fillTails_114 (hs.2.1 136 _ rfl) (hf_lin hs 136 rfl) (by decide) (by decide) hw294 rfl rfl ?_
      refine hf_lload_n dX8_fillTails_117 rfl rfl ?_
      refine hf_aload_n dX8_fillTails_118 rfl rfl ?_
      refine hf_iload_n dX8_fillTails_119 rfl rfl ?_
      refine hf_aload_n dX8_fillTails_120 rfl rfl ?_
      refine hf_geti (c := 8) (j := 13) dX8_fillTails_121 (hs.2.1 136 _ rfl) (hf_lin hs 136 rfl) (by decide) (by decide) hw291 (Or.inl rfl) ?_
      refine hf_callV (c := 8) (as := [.int x1, .int (I 136 13)]) ok_X8_choiceKey dX8_fillTails_124 hw830 hw831 hw1590 (hs.2.1 136 _ rfl) (by decide) (hf_lin hs 136 rfl) rfl (Nat.le_of_ble_eq_true rfl) rfl (Nat.le_of_ble_eq_true rfl) (Nat.zero_le _) (Nat.zero_le _) ?_
      show hf_G X Y_X8_choiceKey (d + 1) _ _ 0 [some (.ref 136), some (.int x1), some (.int (I 136 13))] [] (t, T, (hf_up I 136 14 0), (hf_upL L 136 16 1152921504606846976), P) _
      refine hf_aload_n dX8_choiceKey_0 rfl rfl ?_
      refine hf_getr (b := 138) (c := 8) (j := 3) dX8_choiceKey_1 (hs.2.1 136 _ rfl) (hf_lin hs 136 rfl) (by decide) (by decide) hw281 rfl (hs.2.2 136 3 _ rfl) ?_
      refine hf_iload_n dX8_choiceKey_4 rfl rfl ?_
      refine hf_iald dX8_choiceKey_5 (hs.2.1 138 _ rfl) (hf_lin hs 138 rfl) h.1 ?_
      replace h := h.2
      refine hf_callSN (host := RX11) (as := [.int (I 138 (((I 136 13)).toNatClampNeg))]) ok_X11_costKey dX8_choiceKey_6 (by decide +kernel) hw833 rfl (Nat.le_of_ble_eq_true rfl) rfl (Nat.le_of_ble_eq_true rfl) (Nat.zero_le _) (Nat.zero_le _) ?_
      show hf_G X Y_X11_costKey d _ _ 0 [some (.int (I 138 (((I 136 13)).toNatClampNeg)))] [] (t, T, (hf_up I 136 14 0), (hf_upL L 136 16 1152921504606846976), P) _
      refine hf_iload_n dX11_costKey_0 rfl rfl ?_
      refine hf_i2l dX11_costKey_1 ?_
      refine hf_bipush (v := 30) dX11_costKey_2 (by decide) ?_
      refine hf_lshl dX11_costKey_4 rfl ?_
      refine hf_lreturn dX11_costKey_5 rfl ?_
      show hf_G X Y_X8_choiceKey (d + 1) _ _ 9 [some (.ref 136), some (.int x1), some (.int (I 136 13))] [.long ((I 138 (((I 136 13)).toNatClampNeg)).toInt64 <<< ((30 : Int32).toInt64 &&& 63))] (t, T, (hf_up I 136 14 0), (hf_upL L 136 16 1152921504606846976), P) _
      refine hf_iload_n dX8_choiceKey_9 rfl rfl ?_
      refine hf_iload_n dX8_choiceKey_10 rfl rfl ?_
      refine hf_callSN (host := RX11) (as := [.int x1, .int (I 136 13)]) ok_X11_wordKey dX8_choiceKey_11 (by decide +kernel) hw835 rfl (Nat.le_of_ble_eq_true rfl) rfl (Nat.le_of_ble_eq_true rfl) (Nat.zero_le _) (Nat.zero_le _) ?_
      show hf_G X Y_X11_wordKey d _ _ 0 [some (.int x1), some (.int (I 136 13))] [] (t, T, (hf_up I 136 14 0), (hf_upL L 136 16 1152921504606846976), P) _
      refine hf_iload_n dX11_wordKey_0 rfl rfl ?_
      refine hf_i2l dX11_wordKey_1 ?_
      refine hf_bipush (v := 6) dX11_wordKey_2 (by decide) ?_
      refine hf_iconst (v := 4) dX11_wordKey_4 (by decide) ?_
      refine hf_iconst (v := 5) dX11_wordKey_5 (by decide) ?_
      refine hf_iload_n dX11_wordKey_6 rfl rfl ?_
      refine hf_isub dX11_wordKey_7 ?_
      refine hf_imul dX11_wordKey_8 ?_
      refine hf_iadd dX11_wordKey_9 ?_
      refine hf_lshl dX11_wordKey_10 rfl ?_
      refine hf_lreturn dX11_wordKey_11 rfl ?_
      show hf_G X Y_X8_choiceKey (d + 1) _ _ 14 [some (.ref 136), some (.int x1), some (.int (I 136 13))] [.long ((I 136 13).toInt64 <<< ((6 + (4 * (5 - x1))).toInt64 &&& 63)), .long ((I 138 (((I 136 13)).toNatClampNeg)).toInt64 <<< ((30 : Int32).toInt64 &&& 63))] (t, T, (hf_up I 136 14 0), (hf_upL L 136 16 1152921504606846976), P) _
      refine hf_ladd dX8_choiceKey_14 ?_
      refine hf_lreturn dX8_choiceKey_15 rfl ?_
      show hf_G X Y_X8_fillTails (d + 2) _ _ 127 [some (.ref 136), some (.int x1), some (.int x2), some (.long x3), none, some (.int x5), some (.int x6), some (.int x7), none, none] [.long (((I 138 (((I 136 13)).toNatClampNeg)).toInt64 <<< ((30 : Int32).toInt64 &&& 63)) + ((I 136 13).toInt64 <<< ((6 + (4 * (5 - x1))).toInt64 &&& 63))), .long x3] (t, T, (hf_up I 136 14 0), (hf_upL L 136 16 1152921504606846976), P) _
      refine hf_ladd dX8_fillTails_127 ?_
      refine hf_lstore (l2 := [some (.ref 136), some (.int x1), some (.int x2), some (.long x3), none, some (.int x5), some (.int x6), some (.int x7), some (.long (x3 + (((I 138 (((I 136 13)).toNatClampNeg)).toInt64 <<< ((30 : Int32).toInt64 &&& 63)) + ((I 136 13).toInt64 <<< ((6 + (4 * (5 - x1))).toInt64 &&& 63))))), none]) dX8_fillTails_128 (by decide) rfl ?_
      refine hf_aload_n dX8_fillTails_130 rfl rfl ?_
      refine hf_geti (c := 8) (j := 14) dX8_fillTails_131 (hs.2.1 136 _ rfl) (hf_lin hs 136 rfl) (by decide) (by decide) hw292 (Or.inr rfl) ?_
      refine hf_if_eq (tgt := 141) dX8_fillTails_134 (by decide) (fun _ => ?_) (fun hc => absurd (show (0 : Int32) = (0 : Int32) by decide) hc)
      refine hf_aload_n dX8_fillTails_141 rfl rfl ?_
      refine hf_iload_n dX8_fillTails_142 rfl rfl ?_
      refine hf_aload_n dX8_fillTails_143 rfl rfl ?_
      refine hf_getr (b := 137) (c := 8) (j := 2) dX8_fillTails_144 (hs.2.1 136 _ rfl) (hf_lin hs 136 rfl) (by decide) (by decide) hw280 rfl (hs.2.2 136 2 _ rfl) ?_
      refine hf_aload_n dX8_fillTails_147 rfl rfl ?_
      refine hf_geti (c := 8) (j := 13) dX8_fillTails_148 (hs.2.1 136 _ rfl) (hf_lin hs 136 rfl) (by decide) (by decide) hw291 (Or.inl rfl) ?_
      refine hf_iald dX8_fillTails_151 (hs.2.1 137 _ rfl) (hf_lin hs 137 rfl) h.1 ?_
      replace h := h.2
      refine hf_lload dX8_fillTails_152 rfl ?_
      refine hf_iload dX8_fillTails_154 rfl ?_
      exact hf_callV (c := 8) (as := [.int x1, .int (I 137 (((I 136 13)).toNatClampNeg)), .long (x3 + (((I 138 (((I 136 13)).toNatClampNeg)).toInt64 <<< ((30 : Int32).toInt64 &&& 63)) + ((I 136 13).toInt64 <<< ((6 + (4 * (5 - x1))).toInt64 &&& 63)))), .int x6]) ok_X8_spread dX8_fillTails_156 hw837 hw838 hw1591 (hs.2.1 136 _ rfl) (by decide) (hf_lin hs 136 rfl) rfl (Nat.le_of_ble_eq_true rfl) rfl (Nat.le_of_ble_eq_true rfl) (Nat.zero_le _) (Nat.zero_le _) (hf_mono (fun r M q => hf_drop (l' := [some (.ref 136), some (.int x1), some (.int x2), some (.long x3), none, some (.int x5), some (.int x6), some (.int x7), none, none]) (by simp [hf_sub]) q) h)
    · replace h := h.2 hc
      refine hf_iconst (v := 1) dX8_fillTails_102 (by decide) ?_
      refine hf_goto (tgt := 107) dX8_fillTails_103 (by decide) ?_
      refine hf_putz (c := 8) (j := 14) dX8_fillTails_107 (hs.2.1 136 _ rfl) (hf_lin hs 136 rfl) (by decide) (by decide) hw292 rfl rfl (by decide) ?_
      refine hf_aload_n dX8_fillTails_110 rfl rfl ?_
      refine hf_ldc2 (v := 1152921504606846976) dX8_fillTails_111 hw277 ?_
      refine hf_putl (c := 8) (j := 16) dX8_fillTails_114 (hs.2.1 136 _ rfl) (hf_lin hs 136 rfl) (by decide) (by decide) hw294 rfl rfl ?_
      refine hf_lload_n dX8_fillTails_117 rfl rfl ?_
      refine hf_aload_n dX8_fillTails_118 rfl rfl ?_
      refine hf_iload_n dX8_fillTails_119 rfl rfl ?_
      refine hf_aload_n dX8_fillTails_120 rfl rfl ?_
      refine hf_geti (c := 8) (j := 13) dX8_fillTails_121 (hs.2.1 136 _ rfl) (hf_lin hs 136 rfl) (by decide) (by decide) hw291 (Or.inl rfl) ?_
      refine hf_callV (c := 8) (as := [.int x1, .int (I 136 13)]) ok_X8_choiceKey dX8_fillTails_124 hw830 hw831 hw1590 (hs.2.1 136 _ rfl) (by decide) (hf_lin hs 136 rfl) rfl (Nat.le_of_ble_eq_true rfl) rfl (Nat.le_of_ble_eq_true rfl) (Nat.zero_le _) (Nat.zero_le _) ?_
      show hf_G X Y_X8_choiceKey (d + 1) _ _ 0 [some (.ref 136), some (.int x1), some (.int (I 136 13))] [] (t, T, (hf_up I 136 14 1), (hf_upL L 136 16 1152921504606846976), P) _
      refine hf_aload_n dX8_choiceKey_0 rfl rfl ?_
      refine hf_getr (b := 138) (c := 8) (j := 3) dX8_choiceKey_1 (hs.2.1 136 _ rfl) (hf_lin hs 136 rfl) (by decide) (by decide) hw281 rfl (hs.2.2 136 3 _ rfl) ?_
      refine hf_iload_n dX8_choiceKey_4 rfl rfl ?_
      refine hf_iald dX8_choiceKey_5 (hs.2.1 138 _ rfl) (hf_lin hs 138 rfl) h.1 ?_
      replace h := h.2
      refine hf_callSN (host := RX11) (as := [.int (I 138 (((I 136 13)).toNatClampNeg))]) ok_X11_costKey dX8_choiceKey_6 (by decide +kernel) hw833 rfl (Nat.le_of_ble_eq_true rfl) rfl (Nat.le_of_ble_eq_true rfl) (Nat.zero_le _) (Nat.zero_le _) ?_
      show hf_G X Y_X11_costKey d _ _ 0 [some (.int (I 138 (((I 136 13)).toNatClampNeg)))] [] (t, T, (hf_up I 136 14 1), (hf_upL L 136 16 1152921504606846976), P) _
      refine hf_iload_n dX11_costKey_0 rfl rfl ?_
      refine hf_i2l dX11_costKey_1 ?_
      refine hf_bipush (v := 30) dX11_costKey_2 (by decide) ?_
      refine hf_lshl dX11_costKey_4 rfl ?_
      refine hf_lreturn dX11_costKey_5 rfl ?_
      show hf_G X Y_X8_choiceKey (d + 1) _ _ 9 [some (.ref 136), some (.int x1), some (.int (I 136 13))] [.long ((I 138 (((I 136 13)).toNatClampNeg)).toInt64 <<< ((30 : Int32).toInt64 &&& 63))] (t, T, (hf_up I 136 14 1), (hf_upL L 136 16 1152921504606846976), P) _
      refine hf_iload_n dX8_choiceKey_9 rfl rfl ?_
      refine hf_iload_n dX8_choiceKey_10 rfl rfl ?_
      refine hf_callSN (host := RX11) (as := [.int x1, .int (I 136 13)]) ok_X11_wordKey dX8_choiceKey_11 (by decide +kernel) hw835 rfl (Nat.le_of_ble_eq_true rfl) rfl (Nat.le_of_ble_eq_true rfl) (Nat.zero_le _) (Nat.zero_le _) ?_
      show hf_G X Y_X11_wordKey d _ _ 0 [some (.int x1), some (.int (I 136 13))] [] (t, T, (hf_up I 136 14 1), (hf_upL L 136 16 1152921504606846976), P) _
      refine hf_iload_n dX11_wordKey_0 rfl rfl ?_
      refine hf_i2l dX11_wordKey_1 ?_
      refine hf_bipush (v := 6) dX11_wordKey_2 (by decide) ?_
      refine hf_iconst (v := 4) dX11_wordKey_4 (by decide) ?_
      refine hf_iconst (v := 5) dX11_wordKey_5 (by decide) ?_
      refine hf_iload_n dX11_wordKey_6 rfl rfl ?_
      refine hf_isub dX11_wordKey_7 ?_
      refine hf_imul dX11_wordKey_8 ?_
      refine hf_iadd dX11_wordKey_9 ?_
      refine hf_lshl dX11_wordKey_10 rfl ?_
      refine hf_lreturn dX11_wordKey_11 rfl ?_
      show hf_G X Y_X8_choiceKey (d + 1) _ _ 14 [some (.ref 136), some (.int x1), some (.int (I 136 13))] [.long ((I 136 13).toInt64 <<< ((6 + (4 * (5 - x1))).toInt64 &&& 63)), .long ((I 138 (((I 136 13)).toNatClampNeg)).toInt64 <<< ((30 : Int32).toInt64 &&& 63))] (t, T, (hf_up I 136 14 1), (hf_upL L 136 16 1152921504606846976), P) _
      refine hf_ladd dX8_choiceKey_14 ?_
      refine hf_lreturn dX8_choiceKey_15 rfl ?_
      show hf_G X Y_X8_fillTails (d + 2) _ _ 127 [some (.ref 136), some (.int x1), some (.int x2), some (.long x3), none, some (.int x5), some (.int x6), some (.int x7), none, none] [.long (((I 138 (((I 136 13)).toNatClampNeg)).toInt64 <<< ((30 : Int32).toInt64 &&& 63)) + ((I 136 13).toInt64 <<< ((6 + (4 * (5 - x1))).toInt64 &&& 63))), .long x3] (t, T, (hf_up I 136 14 1), (hf_upL L 136 16 1152921504606846976), P) _
      refine hf_ladd dX8_fillTails_127 ?_
      refine hf_lstore (l2 := [some (.ref 136), some (.int x1), some (.int x2), some (.long x3), none, some (.int x5), some (.int x6), some (.int x7), some (.long (x3 + (((I 138 (((I 136 13)).toNatClampNeg)).toInt64 <<< ((30 : Int32).toInt64 &&& 63)) + ((I 136 13).toInt64 <<< ((6 + (4 * (5 - x1))).toInt64 &&& 63))))), none]) dX8_fillTails_128 (by decide) rfl ?_
      refine hf_aload_n dX8_fillTails_130 rfl rfl ?_
      refine hf_geti (c := 8) (j := 14) dX8_fillTails_131 (hs.2.1 136 _ rfl) (hf_lin hs 136 rfl) (by decide) (by decide) hw292 (Or.inr rfl) ?_
      refine hf_if_eq (tgt := 141) dX8_fillTails_134 (by decide) (fun hc => absurd (show (1 : Int32) = (0 : Int32) from hc) (by decide)) (fun _ => ?_)
      refine hf_iload_n dX8_fillTails_137 rfl rfl ?_
      refine hf_if_le (tgt := 159) dX8_fillTails_138 (by decide) (fun hc => ?_) (fun hc => ?_)
      · replace h := h.1 hc
        refine hf_aload_n dX8_fillTails_159 rfl rfl ?_
        refine hf_getr (b := 142) (c := 8) (j := 7) dX8_fillTails_160 (hs.2.1 136 _ rfl) (hf_lin hs 136 rfl) (by decide) (by decide) hw285 rfl (hs.2.2 136 7 _ rfl) ?_
        refine hf_iload_n dX8_fillTails_163 rfl rfl ?_
        refine hf_iload_n dX8_fillTails_164 rfl rfl ?_
        refine hf_iload dX8_fillTails_165 rfl ?_
        refine hf_aload_n dX8_fillTails_167 rfl rfl ?_
        refine hf_geti (c := 8) (j := 14) dX8_fillTails_168 (hs.2.1 136 _ rfl) (hf_lin hs 136 rfl) (by decide) (by decide) hw292 (Or.inr rfl) ?_
        refine hf_callS (as := [.int x1, .int x2, .int x5, .int 1]) ok_X8_tailPlace dX8_fillTails_171 hw848 hw849 rfl (Nat.le_of_ble_eq_true rfl) rfl (Nat.le_of_ble_eq_true rfl) (Nat.zero_le _) (Nat.zero_le _) ?_
        show hf_G X Y_X8_tailPlace (d + 1) _ _ 0 [some (.int x1), some (.int x2), some (.int x5), some (.int 1)] [] (t, T, (hf_up I 136 14 1), (hf_upL L 136 16 1152921504606846976), P) _
        refine hf_iload_n dX8_tailPlace_0 rfl rfl ?_
        refine hf_iconst (v := 4) dX8_tailPlace_1 (by decide) ?_
        refine hf_imul dX8_tailPlace_2 ?_
        refine hf_iload_n dX8_tailPlace_3 rfl rfl ?_
        refine hf_iadd dX8_tailPlace_4 ?_
        refine hf_iconst (v := 3) dX8_tailPlace_5 (by decide) ?_
        refine hf_imul dX8_tailPlace_6 ?_
        refine hf_iload_n dX8_tailPlace_7 rfl rfl ?_
        refine hf_iadd dX8_tailPlace_8 ?_
        refine hf_iconst (v := 2) dX8_tailPlace_9 (by decide) ?_
        refine hf_imul dX8_tailPlace_10 ?_
        refine hf_iload_n dX8_tailPlace_11 rfl rfl ?_
        refine hf_if_eq (tgt := 19) dX8_tailPlace_12 (by decide) (fun hc => absurd (show (1 : Int32) = (0 : Int32) from hc) (by decide)) (fun _ => ?_)
        refine hf_iconst (v := 1) dX8_tailPlace_15 (by decide) ?_
        refine hf_goto (tgt := 20) dX8_tailPlace_16 (by decide) ?_
        refine hf_iadd dX8_tailPlace_20 ?_
        refine hf_ireturn dX8_tailPlace_21 rfl rfl ?_
        show hf_G X Y_X8_fillTails (d + 2) _ _ 174 [some (.ref 136), some (.int x1), some (.int x2), some (.long x3), none, some (.int x5), some (.int x6), some (.int x7), some (.long (x3 + (((I 138 (((I 136 13)).toNatClampNeg)).toInt64 <<< ((30 : Int32).toInt64 &&& 63)) + ((I 136 13).toInt64 <<< ((6 + (4 * (5 - x1))).toInt64 &&& 63))))), none] [.int ((((((x1 * 4) + x2) * 3) + x5) * 2) + 1), .ref 142] (t, T, (hf_up I 136 14 1), (hf_upL L 136 16 1152921504606846976), P) _
        refine hf_aload_n dX8_fillTails_174 rfl rfl ?_
        refine hf_getl (c := 8) (j := 16) dX8_fillTails_175 (hs.2.1 136 _ rfl) (hf_lin hs 136 rfl) (by decide) (by decide) hw294 rfl ?_
        refine hf_last dX8_fillTails_178 (hs.2.1 142 _ rfl) (hf_lin hs 142 rfl) h.1 ?_
        replace h := h.2
        refine hf_iinc (v := (x7 + 1)) (l2 := [some (.ref 136), some (.int x1), some (.int x2), some (.long x3), none, some (.int x5), some (.int x6), some (.int (x7 + 1)), some (.long (x3 + (((I 138 (((I 136 13)).toNatClampNeg)).toInt64 <<< ((30 : Int32).toInt64 &&& 63)) + ((I 136 13).toInt64 <<< ((6 + (4 * (5 - x1))).toInt64 &&& 63))))), none]) dX8_fillTails_179 (by decide) rfl rfl rfl ?_
        refine hf_goto (tgt := 89) dX8_fillTails_182 (by decide) ?_
        refine hf_drop (l' := [some (.ref 136), some (.int x1), some (.int x2), some (.long x3), none, some (.int x5), some (.int x6), some (.int (x7 + 1)), none, none]) (by simp [hf_sub]) ?_
        exact h
      · replace h := h.2 hc
        refine hf_aload_n dX8_fillTails_141 rfl rfl ?_
        refine hf_iload_n dX8_fillTails_142 rfl rfl ?_
        refine hf_aload_n dX8_fillTails_143 rfl rfl ?_
        refine hf_getr (b := 137) (c := 8) (j := 2) dX8_fillTails_144 (hs.2.1 136 _ rfl) (hf_lin hs 136 rfl) (by decide) (by decide) hw280 rfl (hs.2.2 136 2 _ rfl) ?_
        refine hf_aload_n dX8_fillTails_147 rfl rfl ?_
        refine hf_geti (c := 8) (j := 13) dX8_fillTails_148 (hs.2.1 136 _ rfl) (hf_lin hs 136 rfl) (by decide) (by decide) hw291 (Or.inl rfl) ?_
        refine hf_iald dX8_fillTails_151 (hs.2.1 137 _ rfl) (hf_lin hs 137 rfl) h.1 ?_
        replace h := h.2
        refine hf_lload dX8_fillTails_152 rfl ?_
        refine hf_iload dX8_fillTails_154 rfl ?_
        exact hf_callV (c := 8) (as := [.int x1, .int (I 137 (((I 136 13)).toNatClampNeg)), .long (x3 + (((I 138 (((I 136 13)).toNatClampNeg)).toInt64 <<< ((30 : Int32).toInt64 &&& 63)) + ((I 136 13).toInt64 <<< ((6 + (4 * (5 - x1))).toInt64 &&& 63)))), .int x6]) ok_X8_spread dX8_fillTails_156 hw837 hw838 hw1591 (hs.2.1 136 _ rfl) (by decide) (hf_lin hs 136 rfl) rfl (Nat.le_of_ble_eq_true rfl) rfl (Nat.le_of_ble_eq_true rfl) (Nat.zero_le _) (Nat.zero_le _) (hf_mono (fun r M q => hf_drop (l' := [some (.ref 136), some (.int x1), some (.int x2), some (.long x3), none, some (.int x5), some (.int x6), some (.int x7), none, none]) (by simp [hf_sub]) q) h)

set_option maxHeartbeats 4000000 in
theorem w_X8_fillTails_159 {X : hf_X} {d k n t : Nat} {T : hf_T} {I : hf_I} {L : hf_L} {P : hf_P} {Q : Option Value → hf_M → Prop} {x1 : Int32} {x2 : Int32} {x3 : Int64} {x5 : Int32} {x6 : Int32} {x7 : Int32} (hs : hf_Lay t T P) (h : ((I 136 14) = 0 → vp_in ((((((x1 * 4) + x2) * 3) + x5) * 2) + 0) 144 ∧ (hf_G X Y_X8_fillTails (d + 1) k n 89 [some (.ref 136), some (.int x1), some (.int x2), some (.long x3), none, some (.int x5), some (.int x6), some (.int (x7 + 1)), none, none] [] (t, T, I, (hf_upL L 142 ((((((((x1 * 4) + x2) * 3) + x5) * 2) + 0)).toNatClampNeg) (L 136 16)), P) Q)) ∧ (¬ ((I 136 14) = 0) → vp_in ((((((x1 * 4) + x2) * 3) + x5) * 2) + 1) 144 ∧ (hf_G X Y_X8_fillTails (d + 1) k n 89 [some (.ref 136), some (.int x1), some (.int x2), some (.long x3), none, some (.int x5), some (.int x6), some (.int (x7 + 1)), none, none] [] (t, T, I, (hf_upL L 142 ((((((((x1 * 4) + x2) * 3) + x5) * 2) + 1)).toNatClampNeg) (L 136 16)), P) Q))) : hf_G X Y_X8_fillTails (d + 1) k n 159 [some (.ref 136), some (.int x1), some (.int x2), some (.long x3), none, some (.int x5), some (.int x6), some (.int x7), none, none] [] (t, T, I, L, P) Q := by
  refine hf_aload_n dX8_fillTails_159 rfl rfl ?_
  refine hf_getr (b := 142) (c := 8) (j := 7) dX8_fillTails_160 (hs.2.1 136 _ rfl) (hf_lin hs 136 rfl) (by decide) (by decide) hw285 rfl (hs.2.2 136 7 _ rfl) ?_
  refine hf_iload_n dX8_fillTails_163 rfl rfl ?_
  refine hf_iload_n dX8_fillTails_164 rfl rfl ?_
  refine hf_iload dX8_fillTails_165 rfl ?_
  refine hf_aload_n dX8_fillTails_167 rfl rfl ?_
  refine hf_geti (c := 8) (j := 14) dX8_fillTails_168 (hs.2.1 136 _ rfl) (hf_lin hs 136 rfl) (by decide) (by decide) hw292 (Or.inr rfl) ?_
  refine hf_callS (as := [.int x1, .int x2, .int x5, .int (I 136 14)]) ok_X8_tailPlace dX8_fillTails_171 hw848 hw849 rfl (Nat.le_of_ble_eq_true rfl) rfl (Nat.le_of_ble_eq_true rfl) (Nat.zero_le _) (Nat.zero_le _) ?_
  show hf_G X Y_X8_tailPlace d _ _ 0 [some (.int x1), some (.int x2), some (.int x5), some (.int (I 136 14))] [] (t, T, I, L, P) _
  refine hf_iload_n dX8_tailPlace_0 rfl rfl ?_
  refine hf_iconst (v := 4) dX8_tailPlace_1 (by decide) ?_
  refine hf_imul dX8_tailPlace_2 ?_
  refine hf_iload_n dX8_tailPlace_3 rfl rfl ?_
  refine hf_iadd dX8_tailPlace_4 ?_
  refine hf_iconst (v := 3) dX8_tailPlace_5 (by decide) ?_
  refine hf_imul dX8_tailPlace_6 ?_
  refine hf_iload_n dX8_tailPlace_7 rfl rfl ?_
  refine hf_iadd dX8_tailPlace_8 ?_
  refine hf_iconst (v := 2) dX8_tailPlace_9 (by decide) ?_
  refine hf_imul dX8_tailPlace_10 ?_
  refine hf_iload_n dX8_tailPlace_11 rfl rfl ?_
  refine hf_if_eq (tgt := 19) dX8_tailPlace_12 (by decide) (fun hc => ?_) (fun hc => ?_)
  · replace h := h.1 hc
    refine hf_iconst (v := 0) dX8_tailPlace_19 (by decide) ?_
    refine hf_iadd dX8_tailPlace_20 ?_
    refine hf_ireturn dX8_tailPlace_21 rfl rfl ?_
    show hf_G X Y_X8_fillTails (d + 1) _ _ 174 [some (.ref 136), some (.int x1), some (.int x2), some (.long x3), none, some (.int x5), some (.int x6), some (.int x7), none, none] [.int ((((((x1 * 4) + x2) * 3) + x5) * 2) + 0), .ref 142] (t, T, I, L, P) _
    refine hf_aload_n dX8_fillTails_174 rfl rfl ?_
    refine hf_getl (c := 8) (j := 16) dX8_fillTails_175 (hs.2.1 136 _ rfl) (hf_lin hs 136 rfl) (by decide) (by decide) hw294 rfl ?_
    refine hf_last dX8_fillTails_178 (hs.2.1 142 _ rfl) (hf_lin hs 142 rfl) h.1 ?_
    replace h := h.2
    refine hf_iinc (v := (x7 + 1)) (l2 := [some (.ref 136), some (.int x1), some (.int x2), some (.long x3), none, some (.int x5), some (.int x6), some (.int (x7 + 1)), none, none]) dX8_fillTails_179 (by decide) rfl rfl rfl ?_
    refine hf_goto (tgt := 89) dX8_fillTails_182 (by decide) ?_
    exact h
  · replace h := h.2 hc
    refine hf_iconst (v := 1) dX8_tailPlace_15 (by decide) ?_
    refine hf_goto (tgt := 20) dX8_tailPlace_16 (by decide) ?_
    refine hf_iadd dX8_tailPlace_20 ?_
    refine hf_ireturn dX8_tailPlace_21 rfl rfl ?_
    show hf_G X Y_X8_fillTails (d + 1) _ _ 174 [some (.ref 136), some (.int x1), some (.int x2), some (.long x3), none, some (.int x5), some (.int x6), some (.int x7), none, none] [.int ((((((x1 * 4) + x2) * 3) + x5) * 2) + 1), .ref 142] (t, T, I, L, P) _
    refine hf_aload_n dX8_fillTails_174 rfl rfl ?_
    refine hf_getl (c := 8) (j := 16) dX8_fillTails_175 (hs.2.1 136 _ rfl) (hf_lin hs 136 rfl) (by decide) (by decide) hw294 rfl ?_
    refine hf_last dX8_fillTails_178 (hs.2.1 142 _ rfl) (hf_lin hs 142 rfl) h.1 ?_
    replace h := h.2
    refine hf_iinc (v := (x7 + 1)) (l2 := [some (.ref 136), some (.int x1), some (.int x2), some (.long x3), none, some (.int x5), some (.int x6), some (.int (x7 + 1)), none, none]) dX8_fillTails_179 (by decide) rfl rfl rfl ?_
    refine hf_goto (tgt := 89) dX8_fillTails_182 (by decide) ?_
    exact h

set_option maxHeartbeats 4000000 in
theorem w_X8_choiceKey_0 {X : hf_X} {d k n t : Nat} {T : hf_T} {I : hf_I} {L : hf_L} {P : hf_P} {Q : Option Value → hf_M → Prop} {x1 : Int32} {x2 : Int32} (hs : hf_Lay t T P) (h : vp_in x2 16 ∧ (Q (some (.long (((I 138 x2.toNatClampNeg).toInt64 <<< ((30 : Int32).toInt64 &&& 63)) + (x2.toInt64 <<< ((6 + (4 * (5 - x1))).toInt64 &&& 63))))) (t, T, I, L, P))) : hf_G X Y_X8_choiceKey (d + 1) k n 0 (hf_en [.ref 136, .int x1, .int x2] 3) [] (t, T, I, L, P) Q := by
  show hf_G X Y_X8_choiceKey (d + 1) k n 0 [some (.ref 136), some (.int x1), some (.int x2)] [] (t, T, I, L, P) Q
  refine hf_aload_n dX8_choiceKey_0 rfl rfl ?_
  refine hf_getr (b := 138) (c := 8) (j := 3) dX8_choiceKey_1 (hs.2.1 136 _ rfl) (hf_lin hs 136 rfl) (by decide) (by decide) hw281 rfl (hs.2.2 136 3 _ rfl) ?_
  refine hf_iload_n dX8_choiceKey_4 rfl rfl ?_
  refine hf_iald dX8_choiceKey_5 (hs.2.1 138 _ rfl) (hf_lin hs 138 rfl) h.1 ?_
  replace h := h.2
  refine hf_callSN (host := RX11) (as := [.int (I 138 x2.toNatClampNeg)]) ok_X11_costKey dX8_choiceKey_6 (by decide +kernel) hw833 rfl (Nat.le_of_ble_eq_true rfl) rfl (Nat.le_of_ble_eq_true rfl) (Nat.zero_le _) (Nat.zero_le _) ?_
  show hf_G X Y_X11_costKey d _ _ 0 [some (.int (I 138 x2.toNatClampNeg))] [] (t, T, I, L, P) _
  refine hf_iload_n dX11_costKey_0 rfl rfl ?_
  refine hf_i2l dX11_costKey_1 ?_
  refine hf_bipush (v := 30) dX11_costKey_2 (by decide) ?_
  refine hf_lshl dX11_costKey_4 rfl ?_
  refine hf_lreturn dX11_costKey_5 rfl ?_
  show hf_G X Y_X8_choiceKey (d + 1) _ _ 9 [some (.ref 136), some (.int x1), some (.int x2)] [.long ((I 138 x2.toNatClampNeg).toInt64 <<< ((30 : Int32).toInt64 &&& 63))] (t, T, I, L, P) _
  refine hf_iload_n dX8_choiceKey_9 rfl rfl ?_
  refine hf_iload_n dX8_choiceKey_10 rfl rfl ?_
  refine hf_callSN (host := RX11) (as := [.int x1, .int x2]) ok_X11_wordKey dX8_choiceKey_11 (by decide +kernel) hw835 rfl (Nat.le_of_ble_eq_true rfl) rfl (Nat.le_of_ble_eq_true rfl) (Nat.zero_le _) (Nat.zero_le _) ?_
  show hf_G X Y_X11_wordKey d _ _ 0 [some (.int x1), some (.int x2)] [] (t, T, I, L, P) _
  refine hf_iload_n dX11_wordKey_0 rfl rfl ?_
  refine hf_i2l dX11_wordKey_1 ?_
  refine hf_bipush (v := 6) dX11_wordKey_2 (by decide) ?_
  refine hf_iconst (v := 4) dX11_wordKey_4 (by decide) ?_
  refine hf_iconst (v := 5) dX11_wordKey_5 (by decide) ?_
  refine hf_iload_n dX11_wordKey_6 rfl rfl ?_
  refine hf_isub dX11_wordKey_7 ?_
  refine hf_imul dX11_wordKey_8 ?_
  refine hf_iadd dX11_wordKey_9 ?_
  refine hf_lshl dX11_wordKey_10 rfl ?_
  refine hf_lreturn dX11_wordKey_11 rfl ?_
  show hf_G X Y_X8_choiceKey (d + 1) _ _ 14 [some (.ref 136), some (.int x1), some (.int x2)] [.long (x2.toInt64 <<< ((6 + (4 * (5 - x1))).toInt64 &&& 63)), .long ((I 138 x2.toNatClampNeg).toInt64 <<< ((30 : Int32).toInt64 &&& 63))] (t, T, I, L, P) _
  refine hf_ladd dX8_choiceKey_14 ?_
  refine hf_lreturn dX8_choiceKey_15 rfl ?_
  exact h

set_option maxHeartbeats 4000000 in
theorem w_X8_spread_0 {X : hf_X} {d k n t : Nat} {T : hf_T} {I : hf_I} {L : hf_L} {P : hf_P} {Q : Option Value → hf_M → Prop} {x1 : Int32} {x2 : Int32} {x3 : Int64} {x5 : Int32} (hs : hf_Lay t T P) (h : ((I 101 12) < x2 → Q none (t, T, I, L, P)) ∧ (¬ ((I 101 12) < x2) → (x1 < (I 136 9) → hf_G X Y_X8_waysBehind d 0 0 0 (hf_en [.ref 136, .int (x1 + 1)] 2) [] (t, T, I, L, P) (fun r M => hf_G X Y_X8_spread (d + 1) k n 31 [some (.ref 136), none, some (.int x2), some (.long x3), none, some (.int x5), some (.int (x1 + 1)), none, none, none, none] (r.toList ++ []) M Q)) ∧ (¬ (x1 < (I 136 9)) → Q none (t, T, I, L, P)))) : hf_G X Y_X8_spread (d + 1) k n 0 (hf_en [.ref 136, .int x1, .int x2, .long x3, .int x5] 11) [] (t, T, I, L, P) Q := by
  show hf_G X Y_X8_spread (d + 1) k n 0 [some (.ref 136), some (.int x1), some (.int x2), some (.long x3), none, some (.int x5), none, none, none, none, none] [] (t, T, I, L, P) Q
  refine hf_iload_n dX8_spread_0 rfl rfl ?_
  refine hf_aload_n dX8_spread_1 rfl rfl ?_
  refine hf_getr (b := 101) (c := 8) (j := 0) dX8_spread_2 (hs.2.1 136 _ rfl) (hf_lin hs 136 rfl) (by decide) (by decide) hw278 rfl (hs.2.2 136 0 _ rfl) ?_
  refine hf_geti (c := 1) (j := 12) dX8_spread_5 (hs.2.1 101 _ rfl) (hf_lin hs 101 rfl) (by decide) (by decide) hw139 (Or.inl rfl) ?_
  refine hf_icmp_gt (tgt := 19) dX8_spread_8 (by decide) (fun hc => ?_) (fun hc => ?_)
  · replace h := h.1 hc
    refine hf_return dX8_spread_19 rfl ?_
    exact h
  · replace h := h.2 hc
    refine hf_iload_n dX8_spread_11 rfl rfl ?_
    refine hf_aload_n dX8_spread_12 rfl rfl ?_
    refine hf_geti (c := 8) (j := 9) dX8_spread_13 (hs.2.1 136 _ rfl) (hf_lin hs 136 rfl) (by decide) (by decide) hw287 (Or.inl rfl) ?_
    refine hf_icmp_lt (tgt := 20) dX8_spread_16 (by decide) (fun hc => ?_) (fun hc => ?_)
    · replace h := h.1 hc
      refine hf_iload_n dX8_spread_20 rfl rfl ?_
      refine hf_iconst (v := 1) dX8_spread_21 (by decide) ?_
      refine hf_iadd dX8_spread_22 ?_
      refine hf_istore (l2 := [some (.ref 136), some (.int x1), some (.int x2), some (.long x3), none, some (.int x5), some (.int (x1 + 1)), none, none, none, none]) dX8_spread_23 (by decide) rfl ?_
      refine hf_aload_n dX8_spread_25 rfl rfl ?_
      refine hf_iload dX8_spread_26 rfl ?_
      exact hf_callV (c := 8) (as := [.int (x1 + 1)]) ok_X8_waysBehind dX8_spread_28 hw840 hw841 hw1592 (hs.2.1 136 _ rfl) (by decide) (hf_lin hs 136 rfl) rfl (Nat.le_of_ble_eq_true rfl) rfl (Nat.le_of_ble_eq_true rfl) (Nat.zero_le _) (Nat.zero_le _) (hf_mono (fun r M q => hf_drop (l' := [some (.ref 136), none, some (.int x2), some (.long x3), none, some (.int x5), some (.int (x1 + 1)), none, none, none, none]) (by simp [hf_sub]) q) h)
    · replace h := h.2 hc
      refine hf_return dX8_spread_19 rfl ?_
      exact h

set_option maxHeartbeats 4000000 in
theorem w_X8_spread_31 {X : hf_X} {d k n t : Nat} {T : hf_T} {I : hf_I} {L : hf_L} {P : hf_P} {Q : Option Value → hf_M → Prop} {x2 : Int32} {x3 : Int64} {x5 : Int32} {x6 : Int32} {s0 : Int32} (hs : hf_Lay t T P) (h : (s0 ≤ 0 → (¬ x6 = (I 136 9) → hf_G X Y_X8_spread (d + 1) k n 166 [some (.ref 136), none, some (.int x2), some (.long x3), none, some (.int x5), some (.int x6), none, some (.int 0), none, none] [] (t, T, I, L, P) Q) ∧ (x6 = (I 136 9) → Q none (t, T, I, L, P))) ∧ (¬ (s0 ≤ 0) → (¬ (I 136 14) = 0 → hf_G X Y_X4_costOf d 0 0 0 (hf_en [.ref 135, .int (I 136 12), .int ((I 101 12) - x2), .int (x6 - (I 136 11)), .int (I 136 14), .int x5] 8) [] (t, T, I, L, P) (fun r M => hf_G X Y_X8_spread (d + 1) k n 99 [some (.ref 136), none, some (.int x2), some (.long x3), none, some (.int x5), some (.int x6), none, none, none, none] (r.toList ++ []) M Q)) ∧ ((I 136 14) = 0 → vp_in (((I 136 11) * 4) + (I 136 12)) 24 ∧ (vp_in (((I 136 11) * 4) + (I 136 12)) 24 ∧ (hf_G X Y_X4_costOf d 0 0 0 (hf_en [.ref 135, .int (I 136 12), .int ((I 101 12) - x2), .int (x6 - (I 136 11)), .int (I 136 14), .int x5] 8) [] (t, T, (hf_up I 143 (((((I 136 11) * 4) + (I 136 12))).toNatClampNeg) ((I 143 (((((I 136 11) * 4) + (I 136 12))).toNatClampNeg)) + s0)), L, P) (fun r M => hf_G X Y_X8_spread (d + 1) k n 99 [some (.ref 136), none, some (.int x2), some (.long x3), none, some (.int x5), some (.int x6), none, none, none, none] (r.toList ++ []) M Q)))))) : hf_G X Y_X8_spread (d + 1) k n 31 [some (.ref 136), none, some (.int x2), some (.long x3), none, some (.int x5), some (.int x6), none, none, none, none] [.int s0] (t, T, I, L, P) Q := by
  refine hf_istore (l2 := [some (.ref 136), none, some (.int x2), some (.long x3), none, some (.int x5), some (.int x6), some (.int s0), none, none, none]) dX8_spread_31 (by decide) rfl ?_
  refine hf_iload dX8_spread_33 rfl ?_
  refine hf_if_le (tgt := 153) dX8_spread_35 (by decide) (fun hc => ?_) (fun hc => ?_)
  · replace h := h.1 hc
    refine hf_iload dX8_spread_153 rfl ?_
    refine hf_aload_n dX8_spread_155 rfl rfl ?_
    refine hf_geti (c := 8) (j := 9) dX8_spread_156 (hs.2.1 136 _ rfl) (hf_lin hs 136 rfl) (by decide) (by decide) hw287 (Or.inl rfl) ?_
    refine hf_icmp_ne (tgt := 163) dX8_spread_159 (by decide) (fun hc => ?_) (fun hc => ?_)
    · replace h := h.1 hc
      refine hf_iconst (v := 0) dX8_spread_163 (by decide) ?_
      refine hf_istore (l2 := [some (.ref 136), none, some (.int x2), some (.long x3), none, some (.int x5), some (.int x6), some (.int s0), some (.int 0), none, none]) dX8_spread_164 (by decide) rfl ?_
      refine hf_drop (l' := [some (.ref 136), none, some (.int x2), some (.long x3), none, some (.int x5), some (.int x6), none, some (.int 0), none, none]) (by simp [hf_sub]) ?_
      exact h
    · replace h := h.2 hc
      refine hf_return dX8_spread_162 rfl ?_
      exact h
  · replace h := h.2 hc
    refine hf_aload_n dX8_spread_38 rfl rfl ?_
    refine hf_geti (c := 8) (j := 14) dX8_spread_39 (hs.2.1 136 _ rfl) (hf_lin hs 136 rfl) (by decide) (by decide) hw292 (Or.inr rfl) ?_
    refine hf_if_ne (tgt := 66) dX8_spread_42 (by decide) (fun hc => ?_) (fun hc => ?_)
    · replace h := h.1 hc
      refine hf_aload_n dX8_spread_66 rfl rfl ?_
      refine hf_getr (b := 135) (c := 8) (j := 1) dX8_spread_67 (hs.2.1 136 _ rfl) (hf_lin hs 136 rfl) (by decide) (by decide) hw279 rfl (hs.2.2 136 1 _ rfl) ?_
      refine hf_aload_n dX8_spread_70 rfl rfl ?_
      refine hf_geti (c := 8) (j := 12) dX8_spread_71 (hs.2.1 136 _ rfl) (hf_lin hs 136 rfl) (by decide) (by decide) hw290 (Or.inl rfl) ?_
      refine hf_aload_n dX8_spread_74 rfl rfl ?_
      refine hf_getr (b := 101) (c := 8) (j := 0) dX8_spread_75 (hs.2.1 136 _ rfl) (hf_lin hs 136 rfl) (by decide) (by decide) hw278 rfl (hs.2.2 136 0 _ rfl) ?_
      refine hf_geti (c := 1) (j := 12) dX8_spread_78 (hs.2.1 101 _ rfl) (hf_lin hs 101 rfl) (by decide) (by decide) hw139 (Or.inl rfl) ?_
      refine hf_iload_n dX8_spread_81 rfl rfl ?_
      refine hf_isub dX8_spread_82 ?_
      refine hf_iload dX8_spread_83 rfl ?_
      refine hf_aload_n dX8_spread_85 rfl rfl ?_
      refine hf_geti (c := 8) (j := 11) dX8_spread_86 (hs.2.1 136 _ rfl) (hf_lin hs 136 rfl) (by decide) (by decide) hw289 (Or.inl rfl) ?_
      refine hf_isub dX8_spread_89 ?_
      refine hf_aload_n dX8_spread_90 rfl rfl ?_
      refine hf_geti (c := 8) (j := 14) dX8_spread_91 (hs.2.1 136 _ rfl) (hf_lin hs 136 rfl) (by decide) (by decide) hw292 (Or.inr rfl) ?_
      refine hf_iload dX8_spread_94 rfl ?_
      exact hf_callV (c := 4) (as := [.int (I 136 12), .int ((I 101 12) - x2), .int (x6 - (I 136 11)), .int (I 136 14), .int x5]) ok_X4_costOf dX8_spread_96 hw843 hw787 hw788 (hs.2.1 135 _ rfl) (by decide) (hf_lin hs 135 rfl) rfl (Nat.le_of_ble_eq_true rfl) rfl (Nat.le_of_ble_eq_true rfl) (Nat.zero_le _) (Nat.zero_le _) (hf_mono (fun r M q => hf_drop (l' := [some (.ref 136), none, some (.int x2), some (.long x3), none, some (.int x5), some (.int x6), none, none, none, none]) (by simp [hf_sub]) q) h)
    · replace h := h.2 hc
      refine hf_aload_n dX8_spread_45 rfl rfl ?_
      refine hf_getr (b := 143) (c := 8) (j := 8) dX8_spread_46 (hs.2.1 136 _ rfl) (hf_lin hs 136 rfl) (by decide) (by decide) hw286 rfl (hs.2.2 136 8 _ rfl) ?_
      refine hf_aload_n dX8_spread_49 rfl rfl ?_
      refine hf_geti (c := 8) (j := 11) dX8_spread_50 (hs.2.1 136 _ rfl) (hf_lin hs 136 rfl) (by decide) (by decide) hw289 (Or.inl rfl) ?_
      refine hf_iconst (v := 4) dX8_spread_53 (by decide) ?_
      refine hf_imul dX8_spread_54 ?_
      refine hf_aload_n dX8_spread_55 rfl rfl ?_
      refine hf_geti (c := 8) (j := 12) dX8_spread_56 (hs.2.1 136 _ rfl) (hf_lin hs 136 rfl) (by decide) (by decide) hw290 (Or.inl rfl) ?_
      refine hf_iadd dX8_spread_59 ?_
      refine hf_dup2 dX8_spread_60 rfl rfl ?_
      refine hf_iald dX8_spread_61 (hs.2.1 143 _ rfl) (hf_lin hs 143 rfl) h.1 ?_
      replace h := h.2
      refine hf_iload dX8_spread_62 rfl ?_
      refine hf_iadd dX8_spread_64 ?_
      refine hf_iast dX8_spread_65 (hs.2.1 143 _ rfl) (hf_lin hs 143 rfl) h.1 ?_
      replace h := h.2
      refine hf_aload_n dX8_spread_66 rfl rfl ?_
      refine hf_getr (b := 135) (c := 8) (j := 1) dX8_spread_67 (hs.2.1 136 _ rfl) (hf_lin hs 136 rfl) (by decide) (by decide) hw279 rfl (hs.2.2 136 1 _ rfl) ?_
      refine hf_aload_n dX8_spread_70 rfl rfl ?_
      refine hf_geti (c := 8) (j := 12) dX8_spread_71 (hs.2.1 136 _ rfl) (hf_lin hs 136 rfl) (by decide) (by decide) hw290 (Or.inl rfl) ?_
      refine hf_aload_n dX8_spread_74 rfl rfl ?_
      refine hf_getr (b := 101) (c := 8) (j := 0) dX8_spread_75 (hs.2.1 136 _ rfl) (hf_lin hs 136 rfl) (by decide) (by decide) hw278 rfl (hs.2.2 136 0 _ rfl) ?_
      refine hf_geti (c := 1) (j := 12) dX8_spread_78 (hs.2.1 101 _ rfl) (hf_lin hs 101 rfl) (by decide) (by decide) hw139 (Or.inl rfl) ?_
      refine hf_iload_n dX8_spread_81 rfl rfl ?_
      refine hf_isub dX8_spread_82 ?_
      refine hf_iload dX8_spread_83 rfl ?_
      refine hf_aload_n dX8_spread_85 rfl rfl ?_
      refine hf_geti (c := 8) (j := 11) dX8_spread_86 (hs.2.1 136 _ rfl) (hf_lin hs 136 rfl) (by decide) (by decide) hw289 (Or.inl rfl) ?_
      refine hf_isub dX8_spread_89 ?_
      refine hf_aload_n dX8_spread_90 rfl rfl ?_
      refine hf_geti (c := 8) (j := 14) dX8_spread_91 (hs.2.1 136 _ rfl) (hf_lin hs 136 rfl) (by decide) (by decide) hw292 (Or.inr rfl) ?_
      refine hf_iload dX8_spread_94 rfl ?_
      exact hf_callV (c := 4) (as := [.int (I 136 12), .int ((I 101 12) - x2), .int (x6 - (I 136 11)), .int (I 136 14), .int x5]) ok_X4_costOf dX8_spread_96 hw843 hw787 hw788 (hs.2.1 135 _ rfl) (by decide) (hf_lin hs 135 rfl) rfl (Nat.le_of_ble_eq_true rfl) rfl (Nat.le_of_ble_eq_true rfl) (Nat.zero_le _) (Nat.zero_le _) (hf_mono (fun r M q => hf_drop (l' := [some (.ref 136), none, some (.int x2), some (.long x3), none, some (.int x5), some (.int x6), none, none, none, none]) (by simp [hf_sub]) q) h)

set_option maxHeartbeats 4000000 in
theorem w_X8_spread_166 {X : hf_X} {d k n t : Nat} {T : hf_T} {I : hf_I} {L : hf_L} {P : hf_P} {Q : Option Value → hf_M → Prop} {x2 : Int32} {x3 : Int64} {x5 : Int32} {x6 : Int32} {x8 : Int32} (hs : hf_Lay t T P) (h : vp_in x6 6 ∧ (((I 140 x6.toNatClampNeg) ≤ x8 → Q none (t, T, I, L, P)) ∧ (¬ ((I 140 x6.toNatClampNeg) ≤ x8) → vp_in ((x6 * 3) + x8) 18 ∧ ((¬ x5 = 0 → vp_in (I 139 ((((x6 * 3) + x8)).toNatClampNeg)) 16 ∧ (vp_in (I 139 ((((x6 * 3) + x8)).toNatClampNeg)) 16 ∧ (hf_G X Y_X8_spread (d + 1) 0 0 0 (hf_en [.ref 136, .int x6, .int ((x2 + (I 136 10)) + (I 137 (((I 139 ((((x6 * 3) + x8)).toNatClampNeg))).toNatClampNeg))), .long (x3 + (((I 138 (((I 139 ((((x6 * 3) + x8)).toNatClampNeg))).toNatClampNeg)).toInt64 <<< ((30 : Int32).toInt64 &&& 63)) + ((I 139 ((((x6 * 3) + x8)).toNatClampNeg)).toInt64 <<< ((6 + (4 * (5 - x6))).toInt64 &&& 63)))), .int 1] 11) [] (t, T, I, L, P) (fun r M => hf_G X Y_X8_spread (d + 2) k n 253 [some (.ref 136), none, some (.int x2), some (.long x3), none, some (.int x5), some (.int x6), none, some (.int x8), none, none] (r.toList ++ []) M Q)))) ∧ (x5 = 0 → vp_in (I 136 12) 4 ∧ ((¬ (I 139 ((((x6 * 3) + x8)).toNatClampNeg)) = (I 113 (((I 136 12)).toNatClampNeg)) → vp_in (I 139 ((((x6 * 3) + x8)).toNatClampNeg)) 16 ∧ (vp_in (I 139 ((((x6 * 3) + x8)).toNatClampNeg)) 16 ∧ (hf_G X Y_X8_spread (d + 1) 0 0 0 (hf_en [.ref 136, .int x6, .int ((x2 + (I 136 10)) + (I 137 (((I 139 ((((x6 * 3) + x8)).toNatClampNeg))).toNatClampNeg))), .long (x3 + (((I 138 (((I 139 ((((x6 * 3) + x8)).toNatClampNeg))).toNatClampNeg)).toInt64 <<< ((30 : Int32).toInt64 &&& 63)) + ((I 139 ((((x6 * 3) + x8)).toNatClampNeg)).toInt64 <<< ((6 + (4 * (5 - x6))).toInt64 &&& 63)))), .int 0] 11) [] (t, T, I, L, P) (fun r M => hf_G X Y_X8_spread (d + 2) k n 253 [some (.ref 136), none, some (.int x2), some (.long x3), none, some (.int x5), some (.int x6), none, some (.int x8), none, none] (r.toList ++ []) M Q)))) ∧ ((I 139 ((((x6 * 3) + x8)).toNatClampNeg)) = (I 113 (((I 136 12)).toNatClampNeg)) → vp_in (I 139 ((((x6 * 3) + x8)).toNatClampNeg)) 16 ∧ (vp_in (I 139 ((((x6 * 3) + x8)).toNatClampNeg)) 16 ∧ (hf_G X Y_X8_spread (d + 1) 0 0 0 (hf_en [.ref 136, .int x6, .int ((x2 + (I 136 10)) + (I 137 (((I 139 ((((x6 * 3) + x8)).toNatClampNeg))).toNatClampNeg))), .long (x3 + (((I 138 (((I 139 ((((x6 * 3) + x8)).toNatClampNeg))).toNatClampNeg)).toInt64 <<< ((30 : Int32).toInt64 &&& 63)) + ((I 139 ((((x6 * 3) + x8)).toNatClampNeg)).toInt64 <<< ((6 + (4 * (5 - x6))).toInt64 &&& 63)))), .int 1] 11) [] (t, T, I, L, P) (fun r M => hf_G X Y_X8_spread (d + 2) k n 253 [some (.ref 136), none, some (.int x2), some (.long x3), none, some (.int x5), some (.int x6), none, some (.int x8), none, none] (r.toList ++ []) M Q)))))))))) : hf_G X Y_X8_spread (d + 2) k n 166 [some (.ref 136), none, some (.int x2), some (.long x3), none, some (.int x5), some (.int x6), none, some (.int x8), none, none] [] (t, T, I, L, P) Q := by
  refine hf_iload dX8_spread_166 rfl ?_
  refine hf_aload_n dX8_spread_168 rfl rfl ?_
  refine hf_getr (b := 140) (c := 8) (j := 5) dX8_spread_169 (hs.2.1 136 _ rfl) (hf_lin hs 136 rfl) (by decide) (by decide) hw283 rfl (hs.2.2 136 5 _ rfl) ?_
  refine hf_iload dX8_spread_172 rfl ?_
  refine hf_iald dX8_spread_174 (hs.2.1 140 _ rfl) (hf_lin hs 140 rfl) h.1 ?_
  replace h := h.2
  refine hf_icmp_ge (tgt := 259) dX8_spread_175 (by decide) (fun hc => ?_) (fun hc => ?_)
  · replace h := h.1 hc
    refine hf_return dX8_spread_259 rfl ?_
    exact h
  · replace h := h.2 hc
    refine hf_aload_n dX8_spread_178 rfl rfl ?_
    refine hf_getr (b := 139) (c := 8) (j := 4) dX8_spread_179 (hs.2.1 136 _ rfl) (hf_lin hs 136 rfl) (by decide) (by decide) hw282 rfl (hs.2.2 136 4 _ rfl) ?_
    refine hf_iload dX8_spread_182 rfl ?_
    refine hf_iconst (v := 3) dX8_spread_184 (by decide) ?_
    refine hf_imul dX8_spread_185 ?_
    refine hf_iload dX8_spread_186 rfl ?_
    refine hf_iadd dX8_spread_188 ?_
    refine hf_iald dX8_spread_189 (hs.2.1 139 _ rfl) (hf_lin hs 139 rfl) h.1 ?_
    replace h := h.2
    refine hf_istore (l2 := [some (.ref 136), none, some (.int x2), some (.long x3), none, some (.int x5), some (.int x6), none, some (.int x8), some (.int (I 139 ((((x6 * 3) + x8)).toNatClampNeg))), none]) dX8_spread_190 (by decide) rfl ?_
    refine hf_iload dX8_spread_192 rfl ?_
    refine hf_if_ne (tgt := 214) dX8_spread_194 (by decide) (fun hc => ?_) (fun hc => ?_)
    · replace h := h.1 hc
      refine hf_iconst (v := 1) dX8_spread_214 (by decide) ?_
      refine hf_goto (tgt := 219) dX8_spread_215 (by decide) ?_
      refine hf_istore (l2 := [some (.ref 136), none, some (.int x2), some (.long x3), none, some (.int x5), some (.int x6), none, some (.int x8), some (.int (I 139 ((((x6 * 3) + x8)).toNatClampNeg))), some (.int 1)]) dX8_spread_219 (by decide) rfl ?_
      refine hf_aload_n dX8_spread_221 rfl rfl ?_
      refine hf_iload dX8_spread_222 rfl ?_
      refine hf_iload_n dX8_spread_224 rfl rfl ?_
      refine hf_aload_n dX8_spread_225 rfl rfl ?_
      refine hf_geti (c := 8) (j := 10) dX8_spread_226 (hs.2.1 136 _ rfl) (hf_lin hs 136 rfl) (by decide) (by decide) hw288 (Or.inl rfl) ?_
      refine hf_iadd dX8_spread_229 ?_
      refine hf_aload_n dX8_spread_230 rfl rfl ?_
      refine hf_getr (b := 137) (c := 8) (j := 2) dX8_spread_231 (hs.2.1 136 _ rfl) (hf_lin hs 136 rfl) (by decide) (by decide) hw280 rfl (hs.2.2 136 2 _ rfl) ?_
      refine hf_iload dX8_spread_234 rfl ?_
      refine hf_iald dX8_spread_236 (hs.2.1 137 _ rfl) (hf_lin hs 137 rfl) h.1 ?_
      replace h := h.2
      refine hf_iadd dX8_spread_237 ?_
      refine hf_lload_n dX8_spread_238 rfl rfl ?_
      refine hf_aload_n dX8_spread_239 rfl rfl ?_
      refine hf_iload dX8_spread_240 rfl ?_
      refine hf_iload dX8_spread_242 rfl ?_
      refine hf_callV (c := 8) (as := [.int x6, .int (I 139 ((((x6 * 3) + x8)).toNatClampNeg))]) ok_X8_choiceKey dX8_spread_244 hw830 hw831 hw1590 (hs.2.1 136 _ rfl) (by decide) (hf_lin hs 136 rfl) rfl (Nat.le_of_ble_eq_true rfl) rfl (Nat.le_of_ble_eq_true rfl) (Nat.zero_le _) (Nat.zero_le _) ?_
      show hf_G X Y_X8_choiceKey (d + 1) _ _ 0 [some (.ref 136), some (.int x6), some (.int (I 139 ((((x6 * 3) + x8)).toNatClampNeg)))] [] (t, T, I, L, P) _
      refine hf_aload_n dX8_choiceKey_0 rfl rfl ?_
      refine hf_getr (b := 138) (c := 8) (j := 3) dX8_choiceKey_1 (hs.2.1 136 _ rfl) (hf_lin hs 136 rfl) (by decide) (by decide) hw281 rfl (hs.2.2 136 3 _ rfl) ?_
      refine hf_iload_n dX8_choiceKey_4 rfl rfl ?_
      refine hf_iald dX8_choiceKey_5 (hs.2.1 138 _ rfl) (hf_lin hs 138 rfl) h.1 ?_
      replace h := h.2
      refine hf_callSN (host := RX11) (as := [.int (I 138 (((I 139 ((((x6 * 3) + x8)).toNatClampNeg))).toNatClampNeg))]) ok_X11_costKey dX8_choiceKey_6 (by decide +kernel) hw833 rfl (Nat.le_of_ble_eq_true rfl) rfl (Nat.le_of_ble_eq_true rfl) (Nat.zero_le _) (Nat.zero_le _) ?_
      show hf_G X Y_X11_costKey d _ _ 0 [some (.int (I 138 (((I 139 ((((x6 * 3) + x8)).toNatClampNeg))).toNatClampNeg)))] [] (t, T, I, L, P) _
      refine hf_iload_n dX11_costKey_0 rfl rfl ?_
      refine hf_i2l dX11_costKey_1 ?_
      refine hf_bipush (v := 30) dX11_costKey_2 (by decide) ?_
      refine hf_lshl dX11_costKey_4 rfl ?_
      refine hf_lreturn dX11_costKey_5 rfl ?_
      show hf_G X Y_X8_choiceKey (d + 1) _ _ 9 [some (.ref 136), some (.int x6), some (.int (I 139 ((((x6 * 3) + x8)).toNatClampNeg)))] [.long ((I 138 (((I 139 ((((x6 * 3) + x8)).toNatClampNeg))).toNatClampNeg)).toInt64 <<< ((30 : Int32).toInt64 &&& 63))] (t, T, I, L, P) _
      refine hf_iload_n dX8_choiceKey_9 rfl rfl ?_
      refine hf_iload_n dX8_choiceKey_10 rfl rfl ?_
      refine hf_callSN (host := RX11) (as := [.int x6, .int (I 139 ((((x6 * 3) + x8)).toNatClampNeg))]) ok_X11_wordKey dX8_choiceKey_11 (by decide +kernel) hw835 rfl (Nat.le_of_ble_eq_true rfl) rfl (Nat.le_of_ble_eq_true rfl) (Nat.zero_le _) (Nat.zero_le _) ?_
      show hf_G X Y_X11_wordKey d _ _ 0 [some (.int x6), some (.int (I 139 ((((x6 * 3) + x8)).toNatClampNeg)))] [] (t, T, I, L, P) _
      refine hf_iload_n dX11_wordKey_0 rfl rfl ?_
      refine hf_i2l dX11_wordKey_1 ?_
      refine hf_bipush (v := 6) dX11_wordKey_2 (by decide) ?_
      refine hf_iconst (v := 4) dX11_wordKey_4 (by decide) ?_
      refine hf_iconst (v := 5) dX11_wordKey_5 (by decide) ?_
      refine hf_iload_n dX11_wordKey_6 rfl rfl ?_
      refine hf_isub dX11_wordKey_7 ?_
      refine hf_imul dX11_wordKey_8 ?_
      refine hf_iadd dX11_wordKey_9 ?_
      refine hf_lshl dX11_wordKey_10 rfl ?_
      refine hf_lreturn dX11_wordKey_11 rfl ?_
      show hf_G X Y_X8_choiceKey (d + 1) _ _ 14 [some (.ref 136), some (.int x6), some (.int (I 139 ((((x6 * 3) + x8)).toNatClampNeg)))] [.long ((I 139 ((((x6 * 3) + x8)).toNatClampNeg)).toInt64 <<< ((6 + (4 * (5 - x6))).toInt64 &&& 63)), .long ((I 138 (((I 139 ((((x6 * 3) + x8)).toNatClampNeg))).toNatClampNeg)).toInt64 <<< ((30 : Int32).toInt64 &&& 63))] (t, T, I, L, P) _
      refine hf_ladd dX8_choiceKey_14 ?_
      refine hf_lreturn dX8_choiceKey_15 rfl ?_
      show hf_G X Y_X8_spread (d + 2) _ _ 247 [some (.ref 136), none, some (.int x2), some (.long x3), none, some (.int x5), some (.int x6), none, some (.int x8), some (.int (I 139 ((((x6 * 3) + x8)).toNatClampNeg))), some (.int 1)] [.long (((I 138 (((I 139 ((((x6 * 3) + x8)).toNatClampNeg))).toNatClampNeg)).toInt64 <<< ((30 : Int32).toInt64 &&& 63)) + ((I 139 ((((x6 * 3) + x8)).toNatClampNeg)).toInt64 <<< ((6 + (4 * (5 - x6))).toInt64 &&& 63))), .long x3, .int ((x2 + (I 136 10)) + (I 137 (((I 139 ((((x6 * 3) + x8)).toNatClampNeg))).toNatClampNeg))), .int x6, .ref 136] (t, T, I, L, P) _
      refine hf_ladd dX8_spread_247 ?_
      refine hf_iload dX8_spread_248 rfl ?_
      exact hf_callV (c := 8) (as := [.int x6, .int ((x2 + (I 136 10)) + (I 137 (((I 139 ((((x6 * 3) + x8)).toNatClampNeg))).toNatClampNeg))), .long (x3 + (((I 138 (((I 139 ((((x6 * 3) + x8)).toNatClampNeg))).toNatClampNeg)).toInt64 <<< ((30 : Int32).toInt64 &&& 63)) + ((I 139 ((((x6 * 3) + x8)).toNatClampNeg)).toInt64 <<< ((6 + (4 * (5 - x6))).toInt64 &&& 63)))), .int 1]) ok_X8_spread dX8_spread_250 hw837 hw838 hw1591 (hs.2.1 136 _ rfl) (by decide) (hf_lin hs 136 rfl) rfl (Nat.le_of_ble_eq_true rfl) rfl (Nat.le_of_ble_eq_true rfl) (Nat.zero_le _) (Nat.zero_le _) (hf_mono (fun r M q => hf_drop (l' := [some (.ref 136), none, some (.int x2), some (.long x3), none, some (.int x5), some (.int x6), none, some (.int x8), none, none]) (by simp [hf_sub]) q) h)
    · replace h := h.2 hc
      refine hf_iload dX8_spread_197 rfl ?_
      refine hf_aload_n dX8_spread_199 rfl rfl ?_
      refine hf_getr (b := 101) (c := 8) (j := 0) dX8_spread_200 (hs.2.1 136 _ rfl) (hf_lin hs 136 rfl) (by decide) (by decide) hw278 rfl (hs.2.2 136 0 _ rfl) ?_
      refine hf_getr (b := 113) (c := 1) (j := 6) dX8_spread_203 (hs.2.1 101 _ rfl) (hf_lin hs 101 rfl) (by decide) (by decide) hw119 rfl (hs.2.2 101 6 _ rfl) ?_
      refine hf_aload_n dX8_spread_206 rfl rfl ?_
      refine hf_geti (c := 8) (j := 12) dX8_spread_207 (hs.2.1 136 _ rfl) (hf_lin hs 136 rfl) (by decide) (by decide) hw290 (Or.inl rfl) ?_
      refine hf_iald dX8_spread_210 (hs.2.1 113 _ rfl) (hf_lin hs 113 rfl) h.1 ?_
      replace h := h.2
      refine hf_icmp_ne (tgt := 218) dX8_spread_211 (by decide) (fun hc => ?_) (fun hc => ?_)
      · replace h := h.1 hc
        refine hf_iconst (v := 0) dX8_spread_218 (by decide) ?_
        refine hf_istore (l2 := [some (.ref 136), none, some (.int x2), some (.long x3), none, some (.int x5), some (.int x6), none, some (.int x8), some (.int (I 139 ((((x6 * 3) + x8)).toNatClampNeg))), some (.int 0)]) dX8_spread_219 (by decide) rfl ?_
        refine hf_aload_n dX8_spread_221 rfl rfl ?_
        refine hf_iload dX8_spread_222 rfl ?_
        refine hf_iload_n dX8_spread_224 rfl rfl ?_
        refine hf_aload_n dX8_spread_225 rfl rfl ?_
        refine hf_geti (c := 8) (j := 10) dX8_spread_226 (hs.2.1 136 _ rfl) (hf_lin hs 136 rfl) (by decide) (by decide) hw288 (Or.inl rfl) ?_
        refine hf_iadd dX8_spread_229 ?_
        refine hf_aload_n dX8_spread_230 rfl rfl ?_
        refine hf_getr (b := 137) (c := 8) (j := 2) dX8_spread_231 (hs.2.1 136 _ rfl) (hf_lin hs 136 rfl) (by decide) (by decide) hw280 rfl (hs.2.2 136 2 _ rfl) ?_
        refine hf_iload dX8_spread_234 rfl ?_
        refine hf_iald dX8_spread_236 (hs.2.1 137 _ rfl) (hf_lin hs 137 rfl) h.1 ?_
        replace h := h.2
        refine hf_iadd dX8_spread_237 ?_
        refine hf_lload_n dX8_spread_238 rfl rfl ?_
        refine hf_aload_n dX8_spread_239 rfl rfl ?_
        refine hf_iload dX8_spread_240 rfl ?_
        refine hf_iload dX8_spread_242 rfl ?_
        refine hf_callV (c := 8) (as := [.int x6, .int (I 139 ((((x6 * 3) + x8)).toNatClampNeg))]) ok_X8_choiceKey dX8_spread_244 hw830 hw831 hw1590 (hs.2.1 136 _ rfl) (by decide) (hf_lin hs 136 rfl) rfl (Nat.le_of_ble_eq_true rfl) rfl (Nat.le_of_ble_eq_true rfl) (Nat.zero_le _) (Nat.zero_le _) ?_
        show hf_G X Y_X8_choiceKey (d + 1) _ _ 0 [some (.ref 136), some (.int x6), some (.int (I 139 ((((x6 * 3) + x8)).toNatClampNeg)))] [] (t, T, I, L, P) _
        refine hf_aload_n dX8_choiceKey_0 rfl rfl ?_
        refine hf_getr (b := 138) (c := 8) (j := 3) dX8_choiceKey_1 (hs.2.1 136 _ rfl) (hf_lin hs 136 rfl) (by decide) (by decide) hw281 rfl (hs.2.2 136 3 _ rfl) ?_
        refine hf_iload_n dX8_choiceKey_4 rfl rfl ?_
        refine hf_iald dX8_choiceKey_5 (hs.2.1 138 _ rfl) (hf_lin hs 138 rfl) h.1 ?_
        replace h := h.2
        refine hf_callSN (host := RX11) (as := [.int (I 138 (((I 139 ((((x6 * 3) + x8)).toNatClampNeg))).toNatClampNeg))]) ok_X11_costKey dX8_choiceKey_6 (by decide +kernel) hw833 rfl (Nat.le_of_ble_eq_true rfl) rfl (Nat.le_of_ble_eq_true rfl) (Nat.zero_le _) (Nat.zero_le _) ?_
        show hf_G X Y_X11_costKey d _ _ 0 [some (.int (I 138 (((I 139 ((((x6 * 3) + x8)).toNatClampNeg))).toNatClampNeg)))] [] (t, T, I, L, P) _
        refine hf_iload_n dX11_costKey_0 rfl rfl ?_
        refine hf_i2l dX11_costKey_1 ?_
        refine hf_bipush (v := 30) dX11_costKey_2 (by decide) ?_
        refine hf_lshl dX11_costKey_4 rfl ?_
        refine hf_lreturn dX11_costKey_5 rfl ?_
        show hf_G X Y_X8_choiceKey (d + 1) _ _ 9 [some (.ref 136), some (.int x6), some (.int (I 139 ((((x6 * 3) + x8)).toNatClampNeg)))] [.long ((I 138 (((I 139 ((((x6 * 3) + x8)).toNatClampNeg))).toNatClampNeg)).toInt64 <<< ((30 : Int32).toInt64 &&& 63))] (t, T, I, L, P) _
        refine hf_iload_n dX8_choiceKey_9 rfl rfl ?_
        refine hf_iload_n dX8_choiceKey_10 rfl rfl ?_
        refine hf_callSN (host := RX11) (as := [.int x6, .int (I 139 ((((x6 * 3) + x8)).toNatClampNeg))]) ok_X11_wordKey dX8_choiceKey_11 (by decide +kernel) hw835 rfl (Nat.le_of_ble_eq_true rfl) rfl (Nat.le_of_ble_eq_true rfl) (Nat.zero_le _) (Nat.zero_le _) ?_
        show hf_G X Y_X11_wordKey d _ _ 0 [some (.int x6), some (.int (I 139 ((((x6 * 3) + x8)).toNatClampNeg)))] [] (t, T, I, L, P) _
        refine hf_iload_n dX11_wordKey_0 rfl rfl ?_
        refine hf_i2l dX11_wordKey_1 ?_
        refine hf_bipush (v := 6) dX11_wordKey_2 (by decide) ?_
        refine hf_iconst (v := 4) dX11_wordKey_4 (by decide) ?_
        refine hf_iconst (v := 5) dX11_wordKey_5 (by decide) ?_
        refine hf_iload_n dX11_wordKey_6 rfl rfl ?_
        refine hf_isub dX11_wordKey_7 ?_
        refine hf_imul dX11_wordKey_8 ?_
        refine hf_iadd dX11_wordKey_9 ?_
        refine hf_lshl dX11_wordKey_10 rfl ?_
        refine hf_lreturn dX11_wordKey_11 rfl ?_
        show hf_G X Y_X8_choiceKey (d + 1) _ _ 14 [some (.ref 136), some (.int x6), some (.int (I 139 ((((x6 * 3) + x8)).toNatClampNeg)))] [.long ((I 139 ((((x6 * 3) + x8)).toNatClampNeg)).toInt64 <<< ((6 + (4 * (5 - x6))).toInt64 &&& 63)), .long ((I 138 (((I 139 ((((x6 * 3) + x8)).toNatClampNeg))).toNatClampNeg)).toInt64 <<< ((30 : Int32).toInt64 &&& 63))] (t, T, I, L, P) _
        refine hf_ladd dX8_choiceKey_14 ?_
        refine hf_lreturn dX8_choiceKey_15 rfl ?_
        show hf_G X Y_X8_spread (d + 2) _ _ 247 [some (.ref 136), none, some (.int x2), some (.long x3), none, some (.int x5), some (.int x6), none, some (.int x8), some (.int (I 139 ((((x6 * 3) + x8)).toNatClampNeg))), some (.int 0)] [.long (((I 138 (((I 139 ((((x6 * 3) + x8)).toNatClampNeg))).toNatClampNeg)).toInt64 <<< ((30 : Int32).toInt64 &&& 63)) + ((I 139 ((((x6 * 3) + x8)).toNatClampNeg)).toInt64 <<< ((6 + (4 * (5 - x6))).toInt64 &&& 63))), .long x3, .int ((x2 + (I 136 10)) + (I 137 (((I 139 ((((x6 * 3) + x8)).toNatClampNeg))).toNatClampNeg))), .int x6, .ref 136] (t, T, I, L, P) _
        refine hf_ladd dX8_spread_247 ?_
        refine hf_iload dX8_spread_248 rfl ?_
        exact hf_callV (c := 8) (as := [.int x6, .int ((x2 + (I 136 10)) + (I 137 (((I 139 ((((x6 * 3) + x8)).toNatClampNeg))).toNatClampNeg))), .long (x3 + (((I 138 (((I 139 ((((x6 * 3) + x8)).toNatClampNeg))).toNatClampNeg)).toInt64 <<< ((30 : Int32).toInt64 &&& 63)) + ((I 139 ((((x6 * 3) + x8)).toNatClampNeg)).toInt64 <<< ((6 + (4 * (5 - x6))).toInt64 &&& 63)))), .int 0]) ok_X8_spread dX8_spread_250 hw837 hw838 hw1591 (hs.2.1 136 _ rfl) (by decide) (hf_lin hs 136 rfl) rfl (Nat.le_of_ble_eq_true rfl) rfl (Nat.le_of_ble_eq_true rfl) (Nat.zero_le _) (Nat.zero_le _) (hf_mono (fun r M q => hf_drop (l' := [some (.ref 136), none, some (.int x2), some (.long x3), none, some (.int x5), some (.int x6), none, some (.int x8), none, none]) (by simp [hf_sub]) q) h)
      · replace h := h.2 hc
        refine hf_iconst (v := 1) dX8_spread_214 (by decide) ?_
        refine hf_goto (tgt := 219) dX8_spread_215 (by decide) ?_
        refine hf_istore (l2 := [some (.ref 136), none, some (.int x2), some (.long x3), none, some (.int x5), some (.int x6), none, some (.int x8), some (.int (I 139 ((((x6 * 3) + x8)).toNatClampNeg))), some (.int 1)]) dX8_spread_219 (by decide) rfl ?_
        refine hf_aload_n dX8_spread_221 rfl rfl ?_
        refine hf_iload dX8_spread_222 rfl ?_
        refine hf_iload_n dX8_spread_224 rfl rfl ?_
        refine hf_aload_n dX8_spread_225 rfl rfl ?_
        refine hf_geti (c := 8) (j := 10) dX8_spread_226 (hs.2.1 136 _ rfl) (hf_lin hs 136 rfl) (by decide) (by decide) hw288 (Or.inl rfl) ?_
        refine hf_iadd dX8_spread_229 ?_
        refine hf_aload_n dX8_spread_230 rfl rfl ?_
        refine hf_getr (b := 137) (c := 8) (j := 2) dX8_spread_231 (hs.2.1 136 _ rfl) (hf_lin hs 136 rfl) (by decide) (by decide) hw280 rfl (hs.2.2 136 2 _ rfl) ?_
        refine hf_iload dX8_spread_234 rfl ?_
        refine hf_iald dX8_spread_236 (hs.2.1 137 _ rfl) (hf_lin hs 137 rfl) h.1 ?_
        replace h := h.2
        refine hf_iadd dX8_spread_237 ?_
        refine hf_lload_n dX8_spread_238 rfl rfl ?_
        refine hf_aload_n dX8_spread_239 rfl rfl ?_
        refine hf_iload dX8_spread_240 rfl ?_
        refine hf_iload dX8_spread_242 rfl ?_
        refine hf_callV (c := 8) (as := [.int x6, .int (I 139 ((((x6 * 3) + x8)).toNatClampNeg))]) ok_X8_choiceKey dX8_spread_244 hw830 hw831 hw1590 (hs.2.1 136 _ rfl) (by decide) (hf_lin hs 136 rfl) rfl (Nat.le_of_ble_eq_true rfl) rfl (Nat.le_of_ble_eq_true rfl) (Nat.zero_le _) (Nat.zero_le _) ?_
        show hf_G X Y_X8_choiceKey (d + 1) _ _ 0 [some (.ref 136), some (.int x6), some (.int (I 139 ((((x6 * 3) + x8)).toNatClampNeg)))] [] (t, T, I, L, P) _
        refine hf_aload_n dX8_choiceKey_0 rfl rfl ?_
        refine hf_getr (b := 138) (c := 8) (j := 3) dX8_choiceKey_1 (hs.2.1 136 _ rfl) (hf_lin hs 136 rfl) (by decide) (by decide) hw281 rfl (hs.2.2 136 3 _ rfl) ?_
        refine hf_iload_n dX8_choiceKey_4 rfl rfl ?_
        refine hf_iald dX8_choiceKey_5 (hs.2.1 138 _ rfl) (hf_lin hs 138 rfl) h.1 ?_
        replace h := h.2
        refine hf_callSN (host := RX11) (as := [.int (I 138 (((I 139 ((((x6 * 3) + x8)).toNatClampNeg))).toNatClampNeg))]) ok_X11_costKey dX8_choiceKey_6 (by decide +kernel) hw833 rfl (Nat.le_of_ble_eq_true rfl) rfl (Nat.le_of_ble_eq_true rfl) (Nat.zero_le _) (Nat.zero_le _) ?_
        show hf_G X Y_X11_costKey d _ _ 0 [some (.int (I 138 (((I 139 ((((x6 * 3) + x8)).toNatClampNeg))).toNatClampNeg)))] [] (t, T, I, L, P) _
        refine hf_iload_n dX11_costKey_0 rfl rfl ?_
        refine hf_i2l dX11_costKey_1 ?_
        refine hf_bipush (v := 30) dX11_costKey_2 (by decide) ?_
        refine hf_lshl dX11_costKey_4 rfl ?_
        refine hf_lreturn dX11_costKey_5 rfl ?_
        show hf_G X Y_X8_choiceKey (d + 1) _ _ 9 [some (.ref 136), some (.int x6), some (.int (I 139 ((((x6 * 3) + x8)).toNatClampNeg)))] [.long ((I 138 (((I 139 ((((x6 * 3) + x8)).toNatClampNeg))).toNatClampNeg)).toInt64 <<< ((30 : Int32).toInt64 &&& 63))] (t, T, I, L, P) _
        refine hf_iload_n dX8_choiceKey_9 rfl rfl ?_
        refine hf_iload_n dX8_choiceKey_10 rfl rfl ?_
        refine hf_callSN (host := RX11) (as := [.int x6, .int (I 139 ((((x6 * 3) + x8)).toNatClampNeg))]) ok_X11_wordKey dX8_choiceKey_11 (by decide +kernel) hw835 rfl (Nat.le_of_ble_eq_true rfl) rfl (Nat.le_of_ble_eq_true rfl) (Nat.zero_le _) (Nat.zero_le _) ?_
        show hf_G X Y_X11_wordKey d _ _ 0 [some (.int x6), some (.int (I 139 ((((x6 * 3) + x8)).toNatClampNeg)))] [] (t, T, I, L, P) _
        refine hf_iload_n dX11_wordKey_0 rfl rfl ?_
        refine hf_i2l dX11_wordKey_1 ?_
        refine hf_bipush (v := 6) dX11_wordKey_2 (by decide) ?_
        refine hf_iconst (v := 4) dX11_wordKey_4 (by decide) ?_
        refine hf_iconst (v := 5) dX11_wordKey_5 (by decide) ?_
        refine hf_iload_n dX11_wordKey_6 rfl rfl ?_
        refine hf_isub dX11_wordKey_7 ?_
        refine hf_imul dX11_wordKey_8 ?_
        refine hf_iadd dX11_wordKey_9 ?_
        refine hf_lshl dX11_wordKey_10 rfl ?_
        refine hf_lreturn dX11_wordKey_11 rfl ?_
        show hf_G X Y_X8_choiceKey (d + 1) _ _ 14 [some (.ref 136), some (.int x6), some (.int (I 139 ((((x6 * 3) + x8)).toNatClampNeg)))] [.long ((I 139 ((((x6 * 3) + x8)).toNatClampNeg)).toInt64 <<< ((6 + (4 * (5 - x6))).toInt64 &&& 63)), .long ((I 138 (((I 139 ((((x6 * 3) + x8)).toNatClampNeg))).toNatClampNeg)).toInt64 <<< ((30 : Int32).toInt64 &&& 63))] (t, T, I, L, P) _
        refine hf_ladd dX8_choiceKey_14 ?_
        refine hf_lreturn dX8_choiceKey_15 rfl ?_
        show hf_G X Y_X8_spread (d + 2) _ _ 247 [some (.ref 136), none, some (.int x2), some (.long x3), none, some (.int x5), some (.int x6), none, some (.int x8), some (.int (I 139 ((((x6 * 3) + x8)).toNatClampNeg))), some (.int 1)] [.long (((I 138 (((I 139 ((((x6 * 3) + x8)).toNatClampNeg))).toNatClampNeg)).toInt64 <<< ((30 : Int32).toInt64 &&& 63)) + ((I 139 ((((x6 * 3) + x8)).toNatClampNeg)).toInt64 <<< ((6 + (4 * (5 - x6))).toInt64 &&& 63))), .long x3, .int ((x2 + (I 136 10)) + (I 137 (((I 139 ((((x6 * 3) + x8)).toNatClampNeg))).toNatClampNeg))), .int x6, .ref 136] (t, T, I, L, P) _
        refine hf_ladd dX8_spread_247 ?_
        refine hf_iload dX8_spread_248 rfl ?_
        exact hf_callV (c := 8) (as := [.int x6, .int ((x2 + (I 136 10)) + (I 137 (((I 139 ((((x6 * 3) + x8)).toNatClampNeg))).toNatClampNeg))), .long (x3 + (((I 138 (((I 139 ((((x6 * 3) + x8)).toNatClampNeg))).toNatClampNeg)).toInt64 <<< ((30 : Int32).toInt64 &&& 63)) + ((I 139 ((((x6 * 3) + x8)).toNatClampNeg)).toInt64 <<< ((6 + (4 * (5 - x6))).toInt64 &&& 63)))), .int 1]) ok_X8_spread dX8_spread_250 hw837 hw838 hw1591 (hs.2.1 136 _ rfl) (by decide) (hf_lin hs 136 rfl) rfl (Nat.le_of_ble_eq_true rfl) rfl (Nat.le_of_ble_eq_true rfl) (Nat.zero_le _) (Nat.zero_le _) (hf_mono (fun r M q => hf_drop (l' := [some (.ref 136), none, some (.int x2), some (.long x3), none, some (.int x5), some (.int x6), none, some (.int x8), none, none]) (by simp [hf_sub]) q) h)

set_option maxHeartbeats 4000000 in
theorem w_X8_spread_99 {X : hf_X} {d k n t : Nat} {T : hf_T} {I : hf_I} {L : hf_L} {P : hf_P} {Q : Option Value → hf_M → Prop} {x2 : Int32} {x3 : Int64} {x5 : Int32} {x6 : Int32} {s0 : Int32} (hs : hf_Lay t T P) (h : (¬ x6 = (I 136 9) → hf_G X Y_X8_leastTail d 0 0 0 (hf_en [.ref 136, .int x6, .int ((I 136 12) + 1), .int (I 136 13)] 9) [] (t, T, I, L, P) (fun r M => hf_G X Y_X8_spread (d + 1) k n 130 [some (.ref 136), none, some (.int x2), some (.long x3), none, some (.int x5), some (.int x6), none, some (.int s0), none, none] (r.toList ++ []) M Q)) ∧ (x6 = (I 136 9) → (¬ x6 = (I 136 9) → hf_G X Y_X8_spread (d + 1) k n 166 [some (.ref 136), none, some (.int x2), some (.long x3), none, some (.int x5), some (.int x6), none, some (.int 0), none, none] [] (t, T, I, (hf_upL L 136 16 (if ((x3 + (s0.toInt64 <<< ((30 : Int32).toInt64 &&& 63))) + 0) < (L 136 16) then ((x3 + (s0.toInt64 <<< ((30 : Int32).toInt64 &&& 63))) + 0) else (L 136 16))), P) Q) ∧ (x6 = (I 136 9) → Q none (t, T, I, (hf_upL L 136 16 (if ((x3 + (s0.toInt64 <<< ((30 : Int32).toInt64 &&& 63))) + 0) < (L 136 16) then ((x3 + (s0.toInt64 <<< ((30 : Int32).toInt64 &&& 63))) + 0) else (L 136 16))), P)))) : hf_G X Y_X8_spread (d + 1) k n 99 [some (.ref 136), none, some (.int x2), some (.long x3), none, some (.int x5), some (.int x6), none, none, none, none] [.int s0] (t, T, I, L, P) Q := by
  refine hf_istore (l2 := [some (.ref 136), none, some (.int x2), some (.long x3), none, some (.int x5), some (.int x6), none, some (.int s0), none, none]) dX8_spread_99 (by decide) rfl ?_
  refine hf_iload dX8_spread_101 rfl ?_
  refine hf_aload_n dX8_spread_103 rfl rfl ?_
  refine hf_geti (c := 8) (j := 9) dX8_spread_104 (hs.2.1 136 _ rfl) (hf_lin hs 136 rfl) (by decide) (by decide) hw287 (Or.inl rfl) ?_
  refine hf_icmp_ne (tgt := 114) dX8_spread_107 (by decide) (fun hc => ?_) (fun hc => ?_)
  · replace h := h.1 hc
    refine hf_aload_n dX8_spread_114 rfl rfl ?_
    refine hf_iload dX8_spread_115 rfl ?_
    refine hf_aload_n dX8_spread_117 rfl rfl ?_
    refine hf_geti (c := 8) (j := 12) dX8_spread_118 (hs.2.1 136 _ rfl) (hf_lin hs 136 rfl) (by decide) (by decide) hw290 (Or.inl rfl) ?_
    refine hf_iconst (v := 1) dX8_spread_121 (by decide) ?_
    refine hf_iadd dX8_spread_122 ?_
    refine hf_aload_n dX8_spread_123 rfl rfl ?_
    refine hf_geti (c := 8) (j := 13) dX8_spread_124 (hs.2.1 136 _ rfl) (hf_lin hs 136 rfl) (by decide) (by decide) hw291 (Or.inl rfl) ?_
    exact hf_callV (c := 8) (as := [.int x6, .int ((I 136 12) + 1), .int (I 136 13)]) ok_X8_leastTail dX8_spread_127 hw844 hw845 hw1593 (hs.2.1 136 _ rfl) (by decide) (hf_lin hs 136 rfl) rfl (Nat.le_of_ble_eq_true rfl) rfl (Nat.le_of_ble_eq_true rfl) (Nat.zero_le _) (Nat.zero_le _) h
  · replace h := h.2 hc
    refine hf_lconst (v := 0) dX8_spread_110 (by decide) ?_
    refine hf_goto (tgt := 130) dX8_spread_111 (by decide) ?_
    refine hf_lstore (l2 := [some (.ref 136), none, some (.int x2), some (.long x3), none, some (.int x5), some (.int x6), none, some (.int s0), some (.long 0), none]) dX8_spread_130 (by decide) rfl ?_
    refine hf_aload_n dX8_spread_132 rfl rfl ?_
    refine hf_aload_n dX8_spread_133 rfl rfl ?_
    refine hf_getl (c := 8) (j := 16) dX8_spread_134 (hs.2.1 136 _ rfl) (hf_lin hs 136 rfl) (by decide) (by decide) hw294 rfl ?_
    refine hf_lload_n dX8_spread_137 rfl rfl ?_
    refine hf_iload dX8_spread_138 rfl ?_
    refine hf_callSN (host := RX11) (as := [.int s0]) ok_X11_costKey dX8_spread_140 (by decide +kernel) hw833 rfl (Nat.le_of_ble_eq_true rfl) rfl (Nat.le_of_ble_eq_true rfl) (Nat.zero_le _) (Nat.zero_le _) ?_
    show hf_G X Y_X11_costKey d _ _ 0 [some (.int s0)] [] (t, T, I, L, P) _
    refine hf_iload_n dX11_costKey_0 rfl rfl ?_
    refine hf_i2l dX11_costKey_1 ?_
    refine hf_bipush (v := 30) dX11_costKey_2 (by decide) ?_
    refine hf_lshl dX11_costKey_4 rfl ?_
    refine hf_lreturn dX11_costKey_5 rfl ?_
    show hf_G X Y_X8_spread (d + 1) _ _ 143 [some (.ref 136), none, some (.int x2), some (.long x3), none, some (.int x5), some (.int x6), none, some (.int s0), some (.long 0), none] [.long (s0.toInt64 <<< ((30 : Int32).toInt64 &&& 63)), .long x3, .long (L 136 16), .ref 136] (t, T, I, L, P) _
    refine hf_ladd dX8_spread_143 ?_
    refine hf_lload dX8_spread_144 rfl ?_
    refine hf_ladd dX8_spread_146 ?_
    refine hf_mminl dX8_spread_147 hw851 (Nat.le_of_ble_eq_true rfl) ?_
    refine hf_putl (c := 8) (j := 16) dX8_spread_150 (hs.2.1 136 _ rfl) (hf_lin hs 136 rfl) (by decide) (by decide) hw294 rfl rfl ?_
    refine hf_iload dX8_spread_153 rfl ?_
    refine hf_aload_n dX8_spread_155 rfl rfl ?_
    refine hf_geti (c := 8) (j := 9) dX8_spread_156 (hs.2.1 136 _ rfl) (hf_lin hs 136 rfl) (by decide) (by decide) hw287 (Or.inl rfl) ?_
    refine hf_icmp_ne (tgt := 163) dX8_spread_159 (by decide) (fun hc => ?_) (fun hc => ?_)
    · replace h := h.1 hc
      refine hf_iconst (v := 0) dX8_spread_163 (by decide) ?_
      refine hf_istore (l2 := [some (.ref 136), none, some (.int x2), some (.long x3), none, some (.int x5), some (.int x6), none, some (.int 0), some (.long 0), none]) dX8_spread_164 (by decide) rfl ?_
      refine hf_drop (l' := [some (.ref 136), none, some (.int x2), some (.long x3), none, some (.int x5), some (.int x6), none, some (.int 0), none, none]) (by simp [hf_sub]) ?_
      exact h
    · replace h := h.2 hc
      refine hf_return dX8_spread_162 rfl ?_
      exact h

set_option maxHeartbeats 4000000 in
theorem w_X8_spread_253 {X : hf_X} {d k n t : Nat} {T : hf_T} {I : hf_I} {L : hf_L} {P : hf_P} {Q : Option Value → hf_M → Prop} {x2 : Int32} {x3 : Int64} {x5 : Int32} {x6 : Int32} {x8 : Int32} (hs : hf_Lay t T P) (h : hf_G X Y_X8_spread d k n 166 [some (.ref 136), none, some (.int x2), some (.long x3), none, some (.int x5), some (.int x6), none, some (.int (x8 + 1)), none, none] [] (t, T, I, L, P) Q) : hf_G X Y_X8_spread d k n 253 [some (.ref 136), none, some (.int x2), some (.long x3), none, some (.int x5), some (.int x6), none, some (.int x8), none, none] [] (t, T, I, L, P) Q := by
  refine hf_iinc (v := (x8 + 1)) (l2 := [some (.ref 136), none, some (.int x2), some (.long x3), none, some (.int x5), some (.int x6), none, some (.int (x8 + 1)), none, none]) dX8_spread_253 (by decide) rfl rfl rfl ?_
  refine hf_goto (tgt := 166) dX8_spread_256 (by decide) ?_
  exact h

set_option maxHeartbeats 4000000 in
theorem w_X8_spread_130 {X : hf_X} {d k n t : Nat} {T : hf_T} {I : hf_I} {L : hf_L} {P : hf_P} {Q : Option Value → hf_M → Prop} {x2 : Int32} {x3 : Int64} {x5 : Int32} {x6 : Int32} {x8 : Int32} {s0 : Int64} (hs : hf_Lay t T P) (h : (¬ x6 = (I 136 9) → hf_G X Y_X8_spread (d + 1) k n 166 [some (.ref 136), none, some (.int x2), some (.long x3), none, some (.int x5), some (.int x6), none, some (.int 0), none, none] [] (t, T, I, (hf_upL L 136 16 (if ((x3 + (x8.toInt64 <<< ((30 : Int32).toInt64 &&& 63))) + s0) < (L 136 16) then ((x3 + (x8.toInt64 <<< ((30 : Int32).toInt64 &&& 63))) + s0) else (L 136 16))), P) Q) ∧ (x6 = (I 136 9) → Q none (t, T, I, (hf_upL L 136 16 (if ((x3 + (x8.toInt64 <<< ((30 : Int32).toInt64 &&& 63))) + s0) < (L 136 16) then ((x3 + (x8.toInt64 <<< ((30 : Int32).toInt64 &&& 63))) + s0) else (L 136 16))), P))) : hf_G X Y_X8_spread (d + 1) k n 130 [some (.ref 136), none, some (.int x2), some (.long x3), none, some (.int x5), some (.int x6), none, some (.int x8), none, none] [.long s0] (t, T, I, L, P) Q := by
  refine hf_lstore (l2 := [some (.ref 136), none, some (.int x2), some (.long x3), none, some (.int x5), some (.int x6), none, some (.int x8), some (.long s0), none]) dX8_spread_130 (by decide) rfl ?_
  refine hf_aload_n dX8_spread_132 rfl rfl ?_
  refine hf_aload_n dX8_spread_133 rfl rfl ?_
  refine hf_getl (c := 8) (j := 16) dX8_spread_134 (hs.2.1 136 _ rfl) (hf_lin hs 136 rfl) (by decide) (by decide) hw294 rfl ?_
  refine hf_lload_n dX8_spread_137 rfl rfl ?_
  refine hf_iload dX8_spread_138 rfl ?_
  refine hf_callSN (host := RX11) (as := [.int x8]) ok_X11_costKey dX8_spread_140 (by decide +kernel) hw833 rfl (Nat.le_of_ble_eq_true rfl) rfl (Nat.le_of_ble_eq_true rfl) (Nat.zero_le _) (Nat.zero_le _) ?_
  show hf_G X Y_X11_costKey d _ _ 0 [some (.int x8)] [] (t, T, I, L, P) _
  refine hf_iload_n dX11_costKey_0 rfl rfl ?_
  refine hf_i2l dX11_costKey_1 ?_
  refine hf_bipush (v := 30) dX11_costKey_2 (by decide) ?_
  refine hf_lshl dX11_costKey_4 rfl ?_
  refine hf_lreturn dX11_costKey_5 rfl ?_
  show hf_G X Y_X8_spread (d + 1) _ _ 143 [some (.ref 136), none, some (.int x2), some (.long x3), none, some (.int x5), some (.int x6), none, some (.int x8), some (.long s0), none] [.long (x8.toInt64 <<< ((30 : Int32).toInt64 &&& 63)), .long x3, .long (L 136 16), .ref 136] (t, T, I, L, P) _
  refine hf_ladd dX8_spread_143 ?_
  refine hf_lload dX8_spread_144 rfl ?_
  refine hf_ladd dX8_spread_146 ?_
  refine hf_mminl dX8_spread_147 hw851 (Nat.le_of_ble_eq_true rfl) ?_
  refine hf_putl (c := 8) (j := 16) dX8_spread_150 (hs.2.1 136 _ rfl) (hf_lin hs 136 rfl) (by decide) (by decide) hw294 rfl rfl ?_
  refine hf_iload dX8_spread_153 rfl ?_
  refine hf_aload_n dX8_spread_155 rfl rfl ?_
  refine hf_geti (c := 8) (j := 9) dX8_spread_156 (hs.2.1 136 _ rfl) (hf_lin hs 136 rfl) (by decide) (by decide) hw287 (Or.inl rfl) ?_
  refine hf_icmp_ne (tgt := 163) dX8_spread_159 (by decide) (fun hc => ?_) (fun hc => ?_)
  · replace h := h.1 hc
    refine hf_iconst (v := 0) dX8_spread_163 (by decide) ?_
    refine hf_istore (l2 := [some (.ref 136), none, some (.int x2), some (.long x3), none, some (.int x5), some (.int x6), none, some (.int 0), some (.long s0), none]) dX8_spread_164 (by decide) rfl ?_
    refine hf_drop (l' := [some (.ref 136), none, some (.int x2), some (.long x3), none, some (.int x5), some (.int x6), none, some (.int 0), none, none]) (by simp [hf_sub]) ?_
    exact h
  · replace h := h.2 hc
    refine hf_return dX8_spread_162 rfl ?_
    exact h

set_option maxHeartbeats 4000000 in
theorem w_X8_waysBehind_0 {X : hf_X} {d k n t : Nat} {T : hf_T} {I : hf_I} {L : hf_L} {P : hf_P} {Q : Option Value → hf_M → Prop} {x1 : Int32} (hs : hf_Lay t T P) (h : (¬ x1 = (I 136 9) → ((I 101 13) ≤ ((I 136 12) + 1) → Q (some (.int 0)) (t, T, I, L, P)) ∧ (¬ ((I 101 13) ≤ ((I 136 12) + 1)) → vp_in (((x1 * 4) + (I 136 12)) + 1) 24 ∧ (Q (some (.int (I 143 (((((x1 * 4) + (I 136 12)) + 1)).toNatClampNeg)))) (t, T, I, L, P)))) ∧ (x1 = (I 136 9) → Q (some (.int 1)) (t, T, I, L, P))) : hf_G X Y_X8_waysBehind d k n 0 (hf_en [.ref 136, .int x1] 2) [] (t, T, I, L, P) Q := by
  show hf_G X Y_X8_waysBehind d k n 0 [some (.ref 136), some (.int x1)] [] (t, T, I, L, P) Q
  refine hf_iload_n dX8_waysBehind_0 rfl rfl ?_
  refine hf_aload_n dX8_waysBehind_1 rfl rfl ?_
  refine hf_geti (c := 8) (j := 9) dX8_waysBehind_2 (hs.2.1 136 _ rfl) (hf_lin hs 136 rfl) (by decide) (by decide) hw287 (Or.inl rfl) ?_
  refine hf_icmp_ne (tgt := 10) dX8_waysBehind_5 (by decide) (fun hc => ?_) (fun hc => ?_)
  · replace h := h.1 hc
    refine hf_aload_n dX8_waysBehind_10 rfl rfl ?_
    refine hf_geti (c := 8) (j := 12) dX8_waysBehind_11 (hs.2.1 136 _ rfl) (hf_lin hs 136 rfl) (by decide) (by decide) hw290 (Or.inl rfl) ?_
    refine hf_iconst (v := 1) dX8_waysBehind_14 (by decide) ?_
    refine hf_iadd dX8_waysBehind_15 ?_
    refine hf_aload_n dX8_waysBehind_16 rfl rfl ?_
    refine hf_getr (b := 101) (c := 8) (j := 0) dX8_waysBehind_17 (hs.2.1 136 _ rfl) (hf_lin hs 136 rfl) (by decide) (by decide) hw278 rfl (hs.2.2 136 0 _ rfl) ?_
    refine hf_geti (c := 1) (j := 13) dX8_waysBehind_20 (hs.2.1 101 _ rfl) (hf_lin hs 101 rfl) (by decide) (by decide) hw141 (Or.inl rfl) ?_
    refine hf_icmp_ge (tgt := 44) dX8_waysBehind_23 (by decide) (fun hc => ?_) (fun hc => ?_)
    · replace h := h.1 hc
      refine hf_iconst (v := 0) dX8_waysBehind_44 (by decide) ?_
      refine hf_ireturn dX8_waysBehind_45 rfl rfl ?_
      exact h
    · replace h := h.2 hc
      refine hf_aload_n dX8_waysBehind_26 rfl rfl ?_
      refine hf_getr (b := 143) (c := 8) (j := 8) dX8_waysBehind_27 (hs.2.1 136 _ rfl) (hf_lin hs 136 rfl) (by decide) (by decide) hw286 rfl (hs.2.2 136 8 _ rfl) ?_
      refine hf_iload_n dX8_waysBehind_30 rfl rfl ?_
      refine hf_iconst (v := 4) dX8_waysBehind_31 (by decide) ?_
      refine hf_imul dX8_waysBehind_32 ?_
      refine hf_aload_n dX8_waysBehind_33 rfl rfl ?_
      refine hf_geti (c := 8) (j := 12) dX8_waysBehind_34 (hs.2.1 136 _ rfl) (hf_lin hs 136 rfl) (by decide) (by decide) hw290 (Or.inl rfl) ?_
      refine hf_iadd dX8_waysBehind_37 ?_
      refine hf_iconst (v := 1) dX8_waysBehind_38 (by decide) ?_
      refine hf_iadd dX8_waysBehind_39 ?_
      refine hf_iald dX8_waysBehind_40 (hs.2.1 143 _ rfl) (hf_lin hs 143 rfl) h.1 ?_
      replace h := h.2
      refine hf_goto (tgt := 45) dX8_waysBehind_41 (by decide) ?_
      refine hf_ireturn dX8_waysBehind_45 rfl rfl ?_
      exact h
  · replace h := h.2 hc
    refine hf_iconst (v := 1) dX8_waysBehind_8 (by decide) ?_
    refine hf_ireturn dX8_waysBehind_9 rfl rfl ?_
    exact h

set_option maxHeartbeats 4000000 in
theorem w_X8_leastTail_0 {X : hf_X} {d k n t : Nat} {T : hf_T} {I : hf_I} {L : hf_L} {P : hf_P} {Q : Option Value → hf_M → Prop} {x1 : Int32} {x2 : Int32} {x3 : Int32} (hs : hf_Lay t T P) (h : hf_G X Y_X8_leastTail d k n 8 [some (.ref 136), some (.int x1), some (.int x2), some (.int x3), some (.long 1152921504606846976), none, some (.int 0), none, none] [] (t, T, I, L, P) Q) : hf_G X Y_X8_leastTail d k n 0 (hf_en [.ref 136, .int x1, .int x2, .int x3] 9) [] (t, T, I, L, P) Q := by
  show hf_G X Y_X8_leastTail d k n 0 [some (.ref 136), some (.int x1), some (.int x2), some (.int x3), none, none, none, none, none] [] (t, T, I, L, P) Q
  refine hf_ldc2 (v := 1152921504606846976) dX8_leastTail_0 hw277 ?_
  refine hf_lstore (l2 := [some (.ref 136), some (.int x1), some (.int x2), some (.int x3), some (.long 1152921504606846976), none, none, none, none]) dX8_leastTail_3 (by decide) rfl ?_
  refine hf_iconst (v := 0) dX8_leastTail_5 (by decide) ?_
  refine hf_istore (l2 := [some (.ref 136), some (.int x1), some (.int x2), some (.int x3), some (.long 1152921504606846976), none, some (.int 0), none, none]) dX8_leastTail_6 (by decide) rfl ?_
  exact h

set_option maxHeartbeats 4000000 in
theorem w_X8_leastTail_8 {X : hf_X} {d k n t : Nat} {T : hf_T} {I : hf_I} {L : hf_L} {P : hf_P} {Q : Option Value → hf_M → Prop} {x1 : Int32} {x2 : Int32} {x3 : Int32} {x4 : Int64} {x6 : Int32} (hs : hf_Lay t T P) (h : vp_in x1 6 ∧ (((I 140 x1.toNatClampNeg) ≤ x6 → Q (some (.long x4)) (t, T, I, L, P)) ∧ (¬ ((I 140 x1.toNatClampNeg) ≤ x6) → vp_in ((x1 * 3) + x6) 18 ∧ ((x3 = (-1) → vp_in ((((((x1 * 4) + x2) * 3) + x6) * 2) + 0) 144 ∧ (hf_G X Y_X8_leastTail (d + 2) k n 8 [some (.ref 136), some (.int x1), some (.int x2), some (.int x3), some (.long (if (L 142 ((((((((x1 * 4) + x2) * 3) + x6) * 2) + 0)).toNatClampNeg)) < x4 then (L 142 ((((((((x1 * 4) + x2) * 3) + x6) * 2) + 0)).toNatClampNeg)) else x4)), none, some (.int (x6 + 1)), none, none] [] (t, T, I, L, P) Q)) ∧ (¬ (x3 = (-1)) → vp_in (x3 * 9) 144 ∧ (vp_in ((I 139 ((((x1 * 3) + x6)).toNatClampNeg)) * 9) 144 ∧ ((¬ (I 110 (((x3 * 9)).toNatClampNeg)) = (I 110 ((((I 139 ((((x1 * 3) + x6)).toNatClampNeg)) * 9)).toNatClampNeg)) → vp_in ((((((x1 * 4) + x2) * 3) + x6) * 2) + 0) 144 ∧ (hf_G X Y_X8_leastTail (d + 2) k n 8 [some (.ref 136), some (.int x1), some (.int x2), some (.int x3), some (.long (if (L 142 ((((((((x1 * 4) + x2) * 3) + x6) * 2) + 0)).toNatClampNeg)) < x4 then (L 142 ((((((((x1 * 4) + x2) * 3) + x6) * 2) + 0)).toNatClampNeg)) else x4)), none, some (.int (x6 + 1)), none, none] [] (t, T, I, L, P) Q)) ∧ ((I 110 (((x3 * 9)).toNatClampNeg)) = (I 110 ((((I 139 ((((x1 * 3) + x6)).toNatClampNeg)) * 9)).toNatClampNeg)) → vp_in ((((((x1 * 4) + x2) * 3) + x6) * 2) + 1) 144 ∧ (hf_G X Y_X8_leastTail (d + 2) k n 8 [some (.ref 136), some (.int x1), some (.int x2), some (.int x3), some (.long (if (L 142 ((((((((x1 * 4) + x2) * 3) + x6) * 2) + 1)).toNatClampNeg)) < x4 then (L 142 ((((((((x1 * 4) + x2) * 3) + x6) * 2) + 1)).toNatClampNeg)) else x4)), none, some (.int (x6 + 1)), none, none] [] (t, T, I, L, P) Q))))))))) : hf_G X Y_X8_leastTail (d + 2) k n 8 [some (.ref 136), some (.int x1), some (.int x2), some (.int x3), some (.long x4), none, some (.int x6), none, none] [] (t, T, I, L, P) Q := by
  refine hf_iload dX8_leastTail_8 rfl ?_
  refine hf_aload_n dX8_leastTail_10 rfl rfl ?_
  refine hf_getr (b := 140) (c := 8) (j := 5) dX8_leastTail_11 (hs.2.1 136 _ rfl) (hf_lin hs 136 rfl) (by decide) (by decide) hw283 rfl (hs.2.2 136 5 _ rfl) ?_
  refine hf_iload_n dX8_leastTail_14 rfl rfl ?_
  refine hf_iald dX8_leastTail_15 (hs.2.1 140 _ rfl) (hf_lin hs 140 rfl) h.1 ?_
  replace h := h.2
  refine hf_icmp_ge (tgt := 87) dX8_leastTail_16 (by decide) (fun hc => ?_) (fun hc => ?_)
  · replace h := h.1 hc
    refine hf_lload dX8_leastTail_87 rfl ?_
    refine hf_lreturn dX8_leastTail_89 rfl ?_
    exact h
  · replace h := h.2 hc
    refine hf_aload_n dX8_leastTail_19 rfl rfl ?_
    refine hf_getr (b := 139) (c := 8) (j := 4) dX8_leastTail_20 (hs.2.1 136 _ rfl) (hf_lin hs 136 rfl) (by decide) (by decide) hw282 rfl (hs.2.2 136 4 _ rfl) ?_
    refine hf_iload_n dX8_leastTail_23 rfl rfl ?_
    refine hf_iconst (v := 3) dX8_leastTail_24 (by decide) ?_
    refine hf_imul dX8_leastTail_25 ?_
    refine hf_iload dX8_leastTail_26 rfl ?_
    refine hf_iadd dX8_leastTail_28 ?_
    refine hf_iald dX8_leastTail_29 (hs.2.1 139 _ rfl) (hf_lin hs 139 rfl) h.1 ?_
    replace h := h.2
    refine hf_istore (l2 := [some (.ref 136), some (.int x1), some (.int x2), some (.int x3), some (.long x4), none, some (.int x6), some (.int (I 139 ((((x1 * 3) + x6)).toNatClampNeg))), none]) dX8_leastTail_30 (by decide) rfl ?_
    refine hf_iload_n dX8_leastTail_32 rfl rfl ?_
    refine hf_iconst (v := (-1)) dX8_leastTail_33 (by decide) ?_
    refine hf_icmp_eq (tgt := 57) dX8_leastTail_34 (by decide) (fun hc => ?_) (fun hc => ?_)
    · replace h := h.1 hc
      refine hf_iconst (v := 0) dX8_leastTail_57 (by decide) ?_
      refine hf_istore (l2 := [some (.ref 136), some (.int x1), some (.int x2), some (.int x3), some (.long x4), none, some (.int x6), some (.int (I 139 ((((x1 * 3) + x6)).toNatClampNeg))), some (.int 0)]) dX8_leastTail_58 (by decide) rfl ?_
      refine hf_lload dX8_leastTail_60 rfl ?_
      refine hf_aload_n dX8_leastTail_62 rfl rfl ?_
      refine hf_getr (b := 142) (c := 8) (j := 7) dX8_leastTail_63 (hs.2.1 136 _ rfl) (hf_lin hs 136 rfl) (by decide) (by decide) hw285 rfl (hs.2.2 136 7 _ rfl) ?_
      refine hf_iload_n dX8_leastTail_66 rfl rfl ?_
      refine hf_iload_n dX8_leastTail_67 rfl rfl ?_
      refine hf_iload dX8_leastTail_68 rfl ?_
      refine hf_iload dX8_leastTail_70 rfl ?_
      refine hf_callS (as := [.int x1, .int x2, .int x6, .int 0]) ok_X8_tailPlace dX8_leastTail_72 hw848 hw849 rfl (Nat.le_of_ble_eq_true rfl) rfl (Nat.le_of_ble_eq_true rfl) (Nat.zero_le _) (Nat.zero_le _) ?_
      show hf_G X Y_X8_tailPlace (d + 1) _ _ 0 [some (.int x1), some (.int x2), some (.int x6), some (.int 0)] [] (t, T, I, L, P) _
      refine hf_iload_n dX8_tailPlace_0 rfl rfl ?_
      refine hf_iconst (v := 4) dX8_tailPlace_1 (by decide) ?_
      refine hf_imul dX8_tailPlace_2 ?_
      refine hf_iload_n dX8_tailPlace_3 rfl rfl ?_
      refine hf_iadd dX8_tailPlace_4 ?_
      refine hf_iconst (v := 3) dX8_tailPlace_5 (by decide) ?_
      refine hf_imul dX8_tailPlace_6 ?_
      refine hf_iload_n dX8_tailPlace_7 rfl rfl ?_
      refine hf_iadd dX8_tailPlace_8 ?_
      refine hf_iconst (v := 2) dX8_tailPlace_9 (by decide) ?_
      refine hf_imul dX8_tailPlace_10 ?_
      refine hf_iload_n dX8_tailPlace_11 rfl rfl ?_
      refine hf_if_eq (tgt := 19) dX8_tailPlace_12 (by decide) (fun _ => ?_) (fun hc => absurd (show (0 : Int32) = (0 : Int32) by decide) hc)
      refine hf_iconst (v := 0) dX8_tailPlace_19 (by decide) ?_
      refine hf_iadd dX8_tailPlace_20 ?_
      refine hf_ireturn dX8_tailPlace_21 rfl rfl ?_
      show hf_G X Y_X8_leastTail (d + 2) _ _ 75 [some (.ref 136), some (.int x1), some (.int x2), some (.int x3), some (.long x4), none, some (.int x6), some (.int (I 139 ((((x1 * 3) + x6)).toNatClampNeg))), some (.int 0)] [.int ((((((x1 * 4) + x2) * 3) + x6) * 2) + 0), .ref 142, .long x4] (t, T, I, L, P) _
      refine hf_lald dX8_leastTail_75 (hs.2.1 142 _ rfl) (hf_lin hs 142 rfl) h.1 ?_
      replace h := h.2
      refine hf_mminl dX8_leastTail_76 hw851 (Nat.le_of_ble_eq_true rfl) ?_
      refine hf_lstore (l2 := [some (.ref 136), some (.int x1), some (.int x2), some (.int x3), some (.long (if (L 142 ((((((((x1 * 4) + x2) * 3) + x6) * 2) + 0)).toNatClampNeg)) < x4 then (L 142 ((((((((x1 * 4) + x2) * 3) + x6) * 2) + 0)).toNatClampNeg)) else x4)), none, some (.int x6), some (.int (I 139 ((((x1 * 3) + x6)).toNatClampNeg))), some (.int 0)]) dX8_leastTail_79 (by decide) rfl ?_
      refine hf_iinc (v := (x6 + 1)) (l2 := [some (.ref 136), some (.int x1), some (.int x2), some (.int x3), some (.long (if (L 142 ((((((((x1 * 4) + x2) * 3) + x6) * 2) + 0)).toNatClampNeg)) < x4 then (L 142 ((((((((x1 * 4) + x2) * 3) + x6) * 2) + 0)).toNatClampNeg)) else x4)), none, some (.int (x6 + 1)), some (.int (I 139 ((((x1 * 3) + x6)).toNatClampNeg))), some (.int 0)]) dX8_leastTail_81 (by decide) rfl rfl rfl ?_
      refine hf_goto (tgt := 8) dX8_leastTail_84 (by decide) ?_
      refine hf_drop (l' := [some (.ref 136), some (.int x1), some (.int x2), some (.int x3), some (.long (if (L 142 ((((((((x1 * 4) + x2) * 3) + x6) * 2) + 0)).toNatClampNeg)) < x4 then (L 142 ((((((((x1 * 4) + x2) * 3) + x6) * 2) + 0)).toNatClampNeg)) else x4)), none, some (.int (x6 + 1)), none, none]) (by simp [hf_sub]) ?_
      exact h
    · replace h := h.2 hc
      refine hf_aload_n dX8_leastTail_37 rfl rfl ?_
      refine hf_getr (b := 101) (c := 8) (j := 0) dX8_leastTail_38 (hs.2.1 136 _ rfl) (hf_lin hs 136 rfl) (by decide) (by decide) hw278 rfl (hs.2.2 136 0 _ rfl) ?_
      refine hf_getr (b := 105) (c := 1) (j := 3) dX8_leastTail_41 (hs.2.1 101 _ rfl) (hf_lin hs 101 rfl) (by decide) (by decide) hw110 rfl (hs.2.2 101 3 _ rfl) ?_
      refine hf_iload_n dX8_leastTail_44 rfl rfl ?_
      refine hf_iload dX8_leastTail_45 rfl ?_
      refine hf_callV (c := 10) (as := [.int x3, .int (I 139 ((((x1 * 3) + x6)).toNatClampNeg))]) ok_X10_beginAlike dX8_leastTail_47 hw847 hw778 hw779 (hs.2.1 105 _ rfl) (by decide) (hf_lin hs 105 rfl) rfl (Nat.le_of_ble_eq_true rfl) rfl (Nat.le_of_ble_eq_true rfl) (Nat.zero_le _) (Nat.zero_le _) ?_
      show hf_G X Y_X10_beginAlike (d + 1) _ _ 0 [some (.ref 105), some (.int x3), some (.int (I 139 ((((x1 * 3) + x6)).toNatClampNeg)))] [] (t, T, I, L, P) _
      refine hf_aload_n dX10_beginAlike_0 rfl rfl ?_
      refine hf_iload_n dX10_beginAlike_1 rfl rfl ?_
      refine hf_callV (c := 10) (as := [.int x3]) ok_X10_firstLetter dX10_beginAlike_2 hw781 hw487 hw488 (hs.2.1 105 _ rfl) (by decide) (hf_lin hs 105 rfl) rfl (Nat.le_of_ble_eq_true rfl) rfl (Nat.le_of_ble_eq_true rfl) (Nat.zero_le _) (Nat.zero_le _) ?_
      show hf_G X Y_X10_firstLetter d _ _ 0 [some (.ref 105), some (.int x3)] [] (t, T, I, L, P) _
      refine hf_aload_n dX10_firstLetter_0 rfl rfl ?_
      refine hf_getr (b := 110) (c := 10) (j := 4) dX10_firstLetter_1 (hs.2.1 105 _ rfl) (hf_lin hs 105 rfl) (by decide) (by decide) hw59 rfl (hs.2.2 105 4 _ rfl) ?_
      refine hf_iload_n dX10_firstLetter_4 rfl rfl ?_
      refine hf_bipush (v := 9) dX10_firstLetter_5 (by decide) ?_
      refine hf_imul dX10_firstLetter_7 ?_
      refine hf_bald dX10_firstLetter_8 (hs.2.1 110 _ rfl) (hf_lin hs 110 rfl) h.1 ?_
      replace h := h.2
      refine hf_ireturn dX10_firstLetter_9 rfl rfl ?_
      show hf_G X Y_X10_beginAlike (d + 1) _ _ 5 [some (.ref 105), some (.int x3), some (.int (I 139 ((((x1 * 3) + x6)).toNatClampNeg)))] [.int (I 110 (((x3 * 9)).toNatClampNeg))] (t, T, I, L, P) _
      refine hf_aload_n dX10_beginAlike_5 rfl rfl ?_
      refine hf_iload_n dX10_beginAlike_6 rfl rfl ?_
      refine hf_callV (c := 10) (as := [.int (I 139 ((((x1 * 3) + x6)).toNatClampNeg))]) ok_X10_firstLetter dX10_beginAlike_7 hw781 hw487 hw488 (hs.2.1 105 _ rfl) (by decide) (hf_lin hs 105 rfl) rfl (Nat.le_of_ble_eq_true rfl) rfl (Nat.le_of_ble_eq_true rfl) (Nat.zero_le _) (Nat.zero_le _) ?_
      show hf_G X Y_X10_firstLetter d _ _ 0 [some (.ref 105), some (.int (I 139 ((((x1 * 3) + x6)).toNatClampNeg)))] [] (t, T, I, L, P) _
      refine hf_aload_n dX10_firstLetter_0 rfl rfl ?_
      refine hf_getr (b := 110) (c := 10) (j := 4) dX10_firstLetter_1 (hs.2.1 105 _ rfl) (hf_lin hs 105 rfl) (by decide) (by decide) hw59 rfl (hs.2.2 105 4 _ rfl) ?_
      refine hf_iload_n dX10_firstLetter_4 rfl rfl ?_
      refine hf_bipush (v := 9) dX10_firstLetter_5 (by decide) ?_
      refine hf_imul dX10_firstLetter_7 ?_
      refine hf_bald dX10_firstLetter_8 (hs.2.1 110 _ rfl) (hf_lin hs 110 rfl) h.1 ?_
      replace h := h.2
      refine hf_ireturn dX10_firstLetter_9 rfl rfl ?_
      show hf_G X Y_X10_beginAlike (d + 1) _ _ 10 [some (.ref 105), some (.int x3), some (.int (I 139 ((((x1 * 3) + x6)).toNatClampNeg)))] [.int (I 110 ((((I 139 ((((x1 * 3) + x6)).toNatClampNeg)) * 9)).toNatClampNeg)), .int (I 110 (((x3 * 9)).toNatClampNeg))] (t, T, I, L, P) _
      refine hf_icmp_ne (tgt := 17) dX10_beginAlike_10 (by decide) (fun hc => ?_) (fun hc => ?_)
      · replace h := h.1 hc
        refine hf_iconst (v := 0) dX10_beginAlike_17 (by decide) ?_
        refine hf_ireturn dX10_beginAlike_18 rfl (by decide) ?_
        show hf_G X Y_X8_leastTail (d + 2) _ _ 50 [some (.ref 136), some (.int x1), some (.int x2), some (.int x3), some (.long x4), none, some (.int x6), some (.int (I 139 ((((x1 * 3) + x6)).toNatClampNeg))), none] [.int 0] (t, T, I, L, P) _
        refine hf_if_eq (tgt := 57) dX8_leastTail_50 (by decide) (fun _ => ?_) (fun hc => absurd (show (0 : Int32) = (0 : Int32) by decide) hc)
        refine hf_iconst (v := 0) dX8_leastTail_57 (by decide) ?_
        refine hf_istore (l2 := [some (.ref 136), some (.int x1), some (.int x2), some (.int x3), some (.long x4), none, some (.int x6), some (.int (I 139 ((((x1 * 3) + x6)).toNatClampNeg))), some (.int 0)]) dX8_leastTail_58 (by decide) rfl ?_
        refine hf_lload dX8_leastTail_60 rfl ?_
        refine hf_aload_n dX8_leastTail_62 rfl rfl ?_
        refine hf_getr (b := 142) (c := 8) (j := 7) dX8_leastTail_63 (hs.2.1 136 _ rfl) (hf_lin hs 136 rfl) (by decide) (by decide) hw285 rfl (hs.2.2 136 7 _ rfl) ?_
        refine hf_iload_n dX8_leastTail_66 rfl rfl ?_
        refine hf_iload_n dX8_leastTail_67 rfl rfl ?_
        refine hf_iload dX8_leastTail_68 rfl ?_
        refine hf_iload dX8_leastTail_70 rfl ?_
        refine hf_callS (as := [.int x1, .int x2, .int x6, .int 0]) ok_X8_tailPlace dX8_leastTail_72 hw848 hw849 rfl (Nat.le_of_ble_eq_true rfl) rfl (Nat.le_of_ble_eq_true rfl) (Nat.zero_le _) (Nat.zero_le _) ?_
        show hf_G X Y_X8_tailPlace (d + 1) _ _ 0 [some (.int x1), some (.int x2), some (.int x6), some (.int 0)] [] (t, T, I, L, P) _
        refine hf_iload_n dX8_tailPlace_0 rfl rfl ?_
        refine hf_iconst (v := 4) dX8_tailPlace_1 (by decide) ?_
        refine hf_imul dX8_tailPlace_2 ?_
        refine hf_iload_n dX8_tailPlace_3 rfl rfl ?_
        refine hf_iadd dX8_tailPlace_4 ?_
        refine hf_iconst (v := 3) dX8_tailPlace_5 (by decide) ?_
        refine hf_imul dX8_tailPlace_6 ?_
        refine hf_iload_n dX8_tailPlace_7 rfl rfl ?_
        refine hf_iadd dX8_tailPlace_8 ?_
        refine hf_iconst (v := 2) dX8_tailPlace_9 (by decide) ?_
        refine hf_imul dX8_tailPlace_10 ?_
        refine hf_iload_n dX8_tailPlace_11 rfl rfl ?_
        refine hf_if_eq (tgt := 19) dX8_tailPlace_12 (by decide) (fun _ => ?_) (fun hc => absurd (show (0 : Int32) = (0 : Int32) by decide) hc)
        refine hf_iconst (v := 0) dX8_tailPlace_19 (by decide) ?_
        refine hf_iadd dX8_tailPlace_20 ?_
        refine hf_ireturn dX8_tailPlace_21 rfl rfl ?_
        show hf_G X Y_X8_leastTail (d + 2) _ _ 75 [some (.ref 136), some (.int x1), some (.int x2), some (.int x3), some (.long x4), none, some (.int x6), some (.int (I 139 ((((x1 * 3) + x6)).toNatClampNeg))), some (.int 0)] [.int ((((((x1 * 4) + x2) * 3) + x6) * 2) + 0), .ref 142, .long x4] (t, T, I, L, P) _
        refine hf_lald dX8_leastTail_75 (hs.2.1 142 _ rfl) (hf_lin hs 142 rfl) h.1 ?_
        replace h := h.2
        refine hf_mminl dX8_leastTail_76 hw851 (Nat.le_of_ble_eq_true rfl) ?_
        refine hf_lstore (l2 := [some (.ref 136), some (.int x1), some (.int x2), some (.int x3), some (.long (if (L 142 ((((((((x1 * 4) + x2) * 3) + x6) * 2) + 0)).toNatClampNeg)) < x4 then (L 142 ((((((((x1 * 4) + x2) * 3) + x6) * 2) + 0)).toNatClampNeg)) else x4)), none, some (.int x6), some (.int (I 139 ((((x1 * 3) + x6)).toNatClampNeg))), some (.int 0)]) dX8_leastTail_79 (by decide) rfl ?_
        refine hf_iinc (v := (x6 + 1)) (l2 := [some (.ref 136), some (.int x1), some (.int x2), some (.int x3), some (.long (if (L 142 ((((((((x1 * 4) + x2) * 3) + x6) * 2) + 0)).toNatClampNeg)) < x4 then (L 142 ((((((((x1 * 4) + x2) * 3) + x6) * 2) + 0)).toNatClampNeg)) else x4)), none, some (.int (x6 + 1)), some (.int (I 139 ((((x1 * 3) + x6)).toNatClampNeg))), some (.int 0)]) dX8_leastTail_81 (by decide) rfl rfl rfl ?_
        refine hf_goto (tgt := 8) dX8_leastTail_84 (by decide) ?_
        refine hf_drop (l' := [some (.ref 136), some (.int x1), some (.int x2), some (.int x3), some (.long (if (L 142 ((((((((x1 * 4) + x2) * 3) + x6) * 2) + 0)).toNatClampNeg)) < x4 then (L 142 ((((((((x1 * 4) + x2) * 3) + x6) * 2) + 0)).toNatClampNeg)) else x4)), none, some (.int (x6 + 1)), none, none]) (by simp [hf_sub]) ?_
        exact h
      · replace h := h.2 hc
        refine hf_iconst (v := 1) dX10_beginAlike_13 (by decide) ?_
        refine hf_goto (tgt := 18) dX10_beginAlike_14 (by decide) ?_
        refine hf_ireturn dX10_beginAlike_18 rfl (by decide) ?_
        show hf_G X Y_X8_leastTail (d + 2) _ _ 50 [some (.ref 136), some (.int x1), some (.int x2), some (.int x3), some (.long x4), none, some (.int x6), some (.int (I 139 ((((x1 * 3) + x6)).toNatClampNeg))), none] [.int 1] (t, T, I, L, P) _
        refine hf_if_eq (tgt := 57) dX8_leastTail_50 (by decide) (fun hc => absurd (show (1 : Int32) = (0 : Int32) from hc) (by decide)) (fun _ => ?_)
        refine hf_iconst (v := 1) dX8_leastTail_53 (by decide) ?_
        refine hf_goto (tgt := 58) dX8_leastTail_54 (by decide) ?_
        refine hf_istore (l2 := [some (.ref 136), some (.int x1), some (.int x2), some (.int x3), some (.long x4), none, some (.int x6), some (.int (I 139 ((((x1 * 3) + x6)).toNatClampNeg))), some (.int 1)]) dX8_leastTail_58 (by decide) rfl ?_
        refine hf_lload dX8_leastTail_60 rfl ?_
        refine hf_aload_n dX8_leastTail_62 rfl rfl ?_
        refine hf_getr (b := 142) (c := 8) (j := 7) dX8_leastTail_63 (hs.2.1 136 _ rfl) (hf_lin hs 136 rfl) (by decide) (by decide) hw285 rfl (hs.2.2 136 7 _ rfl) ?_
        refine hf_iload_n dX8_leastTail_66 rfl rfl ?_
        refine hf_iload_n dX8_leastTail_67 rfl rfl ?_
        refine hf_iload dX8_leastTail_68 rfl ?_
        refine hf_iload dX8_leastTail_70 rfl ?_
        refine hf_callS (as := [.int x1, .int x2, .int x6, .int 1]) ok_X8_tailPlace dX8_leastTail_72 hw848 hw849 rfl (Nat.le_of_ble_eq_true rfl) rfl (Nat.le_of_ble_eq_true rfl) (Nat.zero_le _) (Nat.zero_le _) ?_
        show hf_G X Y_X8_tailPlace (d + 1) _ _ 0 [some (.int x1), some (.int x2), some (.int x6), some (.int 1)] [] (t, T, I, L, P) _
        refine hf_iload_n dX8_tailPlace_0 rfl rfl ?_
        refine hf_iconst (v := 4) dX8_tailPlace_1 (by decide) ?_
        refine hf_imul dX8_tailPlace_2 ?_
        refine hf_iload_n dX8_tailPlace_3 rfl rfl ?_
        refine hf_iadd dX8_tailPlace_4 ?_
        refine hf_iconst (v := 3) dX8_tailPlace_5 (by decide) ?_
        refine hf_imul dX8_tailPlace_6 ?_
        refine hf_iload_n dX8_tailPlace_7 rfl rfl ?_
        refine hf_iadd dX8_tailPlace_8 ?_
        refine hf_iconst (v := 2) dX8_tailPlace_9 (by decide) ?_
        refine hf_imul dX8_tailPlace_10 ?_
        refine hf_iload_n dX8_tailPlace_11 rfl rfl ?_
        refine hf_if_eq (tgt := 19) dX8_tailPlace_12 (by decide) (fun hc => absurd (show (1 : Int32) = (0 : Int32) from hc) (by decide)) (fun _ => ?_)
        refine hf_iconst (v := 1) dX8_tailPlace_15 (by decide) ?_
        refine hf_goto (tgt := 20) dX8_tailPlace_16 (by decide) ?_
        refine hf_iadd dX8_tailPlace_20 ?_
        refine hf_ireturn dX8_tailPlace_21 rfl rfl ?_
        show hf_G X Y_X8_leastTail (d + 2) _ _ 75 [some (.ref 136), some (.int x1), some (.int x2), some (.int x3), some (.long x4), none, some (.int x6), some (.int (I 139 ((((x1 * 3) + x6)).toNatClampNeg))), some (.int 1)] [.int ((((((x1 * 4) + x2) * 3) + x6) * 2) + 1), .ref 142, .long x4] (t, T, I, L, P) _
        refine hf_lald dX8_leastTail_75 (hs.2.1 142 _ rfl) (hf_lin hs 142 rfl) h.1 ?_
        replace h := h.2
        refine hf_mminl dX8_leastTail_76 hw851 (Nat.le_of_ble_eq_true rfl) ?_
        refine hf_lstore (l2 := [some (.ref 136), some (.int x1), some (.int x2), some (.int x3), some (.long (if (L 142 ((((((((x1 * 4) + x2) * 3) + x6) * 2) + 1)).toNatClampNeg)) < x4 then (L 142 ((((((((x1 * 4) + x2) * 3) + x6) * 2) + 1)).toNatClampNeg)) else x4)), none, some (.int x6), some (.int (I 139 ((((x1 * 3) + x6)).toNatClampNeg))), some (.int 1)]) dX8_leastTail_79 (by decide) rfl ?_
        refine hf_iinc (v := (x6 + 1)) (l2 := [some (.ref 136), some (.int x1), some (.int x2), some (.int x3), some (.long (if (L 142 ((((((((x1 * 4) + x2) * 3) + x6) * 2) + 1)).toNatClampNeg)) < x4 then (L 142 ((((((((x1 * 4) + x2) * 3) + x6) * 2) + 1)).toNatClampNeg)) else x4)), none, some (.int (x6 + 1)), some (.int (I 139 ((((x1 * 3) + x6)).toNatClampNeg))), some (.int 1)]) dX8_leastTail_81 (by decide) rfl rfl rfl ?_
        refine hf_goto (tgt := 8) dX8_leastTail_84 (by decide) ?_
        refine hf_drop (l' := [some (.ref 136), some (.int x1), some (.int x2), some (.int x3), some (.long (if (L 142 ((((((((x1 * 4) + x2) * 3) + x6) * 2) + 1)).toNatClampNeg)) < x4 then (L 142 ((((((((x1 * 4) + x2) * 3) + x6) * 2) + 1)).toNatClampNeg)) else x4)), none, some (.int (x6 + 1)), none, none]) (by simp [hf_sub]) ?_
        exact h

set_option maxHeartbeats 4000000 in
theorem w_X8_seekTruest_0 {X : hf_X} {d k n t : Nat} {T : hf_T} {I : hf_I} {L : hf_L} {P : hf_P} {Q : Option Value → hf_M → Prop} {x1 : Int32} {x2 : Int32} {x3 : Int32} {x4 : Int32} {x5 : Int64} (hs : hf_Lay t T P) (h : (x1 < (I 136 9) → hf_G X Y_X8_seekTruest d k n 32 [some (.ref 136), some (.int x1), some (.int x2), some (.int x3), some (.int x4), some (.long x5), none, some (.int 0), none, none, none, none, none, none, none] [] (t, T, I, L, P) Q) ∧ (¬ (x1 < (I 136 9)) → ((I 136 18) < x2 → Q none (t, T, (hf_up I 136 18 x2), (hf_upL L 136 19 x5), P)) ∧ (¬ ((I 136 18) < x2) → Q none (t, T, I, L, P)))) : hf_G X Y_X8_seekTruest d k n 0 (hf_en [.ref 136, .int x1, .int x2, .int x3, .int x4, .long x5] 15) [] (t, T, I, L, P) Q := by
  show hf_G X Y_X8_seekTruest d k n 0 [some (.ref 136), some (.int x1), some (.int x2), some (.int x3), some (.int x4), some (.long x5), none, none, none, none, none, none, none, none, none] [] (t, T, I, L, P) Q
  refine hf_iload_n dX8_seekTruest_0 rfl rfl ?_
  refine hf_aload_n dX8_seekTruest_1 rfl rfl ?_
  refine hf_geti (c := 8) (j := 9) dX8_seekTruest_2 (hs.2.1 136 _ rfl) (hf_lin hs 136 rfl) (by decide) (by decide) hw287 (Or.inl rfl) ?_
  refine hf_icmp_lt (tgt := 29) dX8_seekTruest_5 (by decide) (fun hc => ?_) (fun hc => ?_)
  · replace h := h.1 hc
    refine hf_iconst (v := 0) dX8_seekTruest_29 (by decide) ?_
    refine hf_istore (l2 := [some (.ref 136), some (.int x1), some (.int x2), some (.int x3), some (.int x4), some (.long x5), none, some (.int 0), none, none, none, none, none, none, none]) dX8_seekTruest_30 (by decide) rfl ?_
    exact h
  · replace h := h.2 hc
    refine hf_iload_n dX8_seekTruest_8 rfl rfl ?_
    refine hf_aload_n dX8_seekTruest_9 rfl rfl ?_
    refine hf_geti (c := 8) (j := 18) dX8_seekTruest_10 (hs.2.1 136 _ rfl) (hf_lin hs 136 rfl) (by decide) (by decide) hw298 (Or.inl rfl) ?_
    refine hf_icmp_gt (tgt := 17) dX8_seekTruest_13 (by decide) (fun hc => ?_) (fun hc => ?_)
    · replace h := h.1 hc
      refine hf_aload_n dX8_seekTruest_17 rfl rfl ?_
      refine hf_iload_n dX8_seekTruest_18 rfl rfl ?_
      refine hf_puti (c := 8) (j := 18) dX8_seekTruest_19 (hs.2.1 136 _ rfl) (hf_lin hs 136 rfl) (by decide) (by decide) hw298 rfl rfl ?_
      refine hf_aload_n dX8_seekTruest_22 rfl rfl ?_
      refine hf_lload dX8_seekTruest_23 rfl ?_
      refine hf_putl (c := 8) (j := 19) dX8_seekTruest_25 (hs.2.1 136 _ rfl) (hf_lin hs 136 rfl) (by decide) (by decide) hw300 rfl rfl ?_
      refine hf_return dX8_seekTruest_28 rfl ?_
      exact h
    · replace h := h.2 hc
      refine hf_return dX8_seekTruest_16 rfl ?_
      exact h

set_option maxHeartbeats 4000000 in
theorem w_X8_seekTruest_32 {X : hf_X} {d k n t : Nat} {T : hf_T} {I : hf_I} {L : hf_L} {P : hf_P} {Q : Option Value → hf_M → Prop} {x1 : Int32} {x2 : Int32} {x3 : Int32} {x4 : Int32} {x5 : Int64} {x7 : Int32} (hs : hf_Lay t T P) (h : vp_in x1 6 ∧ (((I 140 x1.toNatClampNeg) ≤ x7 → Q none (t, T, I, L, P)) ∧ (¬ ((I 140 x1.toNatClampNeg) ≤ x7) → vp_in ((x1 * 3) + x7) 18 ∧ (vp_in (I 139 ((((x1 * 3) + x7)).toNatClampNeg)) 16 ∧ (vp_in (I 139 ((((x1 * 3) + x7)).toNatClampNeg)) 16 ∧ ((x1 ≤ 0 → vp_in (I 139 ((((x1 * 3) + x7)).toNatClampNeg)) 16 ∧ (((I 101 12) < (I 137 (((I 139 ((((x1 * 3) + x7)).toNatClampNeg))).toNatClampNeg)) → hf_G X Y_X8_seekTruest (d + 1) k n 32 [some (.ref 136), some (.int x1), some (.int x2), some (.int x3), some (.int x4), some (.long x5), none, some (.int (x7 + 1)), none, none, none, none, none, none, none] [] (t, T, I, L, P) Q) ∧ (¬ ((I 101 12) < (I 137 (((I 139 ((((x1 * 3) + x7)).toNatClampNeg))).toNatClampNeg))) → ((I 101 13) ≤ (x3 + 1) → hf_G X Y_X8_seekTruest (d + 1) k n 32 [some (.ref 136), some (.int x1), some (.int x2), some (.int x3), some (.int x4), some (.long x5), none, some (.int (x7 + 1)), none, none, none, none, none, none, none] [] (t, T, I, L, P) Q) ∧ (¬ ((I 101 13) ≤ (x3 + 1)) → (¬ x1 = 0 → vp_in (I 139 ((((x1 * 3) + x7)).toNatClampNeg)) 16 ∧ (hf_G X Y_X8_seekTruest d 0 0 0 (hf_en [.ref 136, .int (x1 + 1), .int (x2 * (I 108 (((I 139 ((((x1 * 3) + x7)).toNatClampNeg))).toNatClampNeg))), .int (x3 + 1), .int (I 137 (((I 139 ((((x1 * 3) + x7)).toNatClampNeg))).toNatClampNeg)), .long ((x5 + ((I 139 ((((x1 * 3) + x7)).toNatClampNeg)).toInt64 <<< ((6 + (4 * (5 - x1))).toInt64 &&& 63))) + (1 <<< ((5 - x1).toInt64 &&& 63)))] 15) [] (t, T, I, L, P) (fun r M => hf_G X Y_X8_seekTruest (d + 1) k n 202 [some (.ref 136), some (.int x1), some (.int x2), some (.int x3), some (.int x4), some (.long x5), none, some (.int x7), none, none, none, none, none, none, none] (r.toList ++ []) M Q))) ∧ (x1 = 0 → vp_in (I 139 ((((x1 * 3) + x7)).toNatClampNeg)) 16 ∧ (hf_G X Y_X8_seekTruest d 0 0 0 (hf_en [.ref 136, .int (x1 + 1), .int (x2 * (I 108 (((I 139 ((((x1 * 3) + x7)).toNatClampNeg))).toNatClampNeg))), .int (x3 + 1), .int (I 137 (((I 139 ((((x1 * 3) + x7)).toNatClampNeg))).toNatClampNeg)), .long ((x5 + ((I 139 ((((x1 * 3) + x7)).toNatClampNeg)).toInt64 <<< ((6 + (4 * (5 - x1))).toInt64 &&& 63))) + 0)] 15) [] (t, T, I, L, P) (fun r M => hf_G X Y_X8_seekTruest (d + 1) k n 202 [some (.ref 136), some (.int x1), some (.int x2), some (.int x3), some (.int x4), some (.long x5), none, some (.int x7), none, none, none, none, none, none, none] (r.toList ++ []) M Q))))))) ∧ (¬ (x1 ≤ 0) → ((I 101 12) < ((x4 + (I 136 10)) + (I 137 (((I 139 ((((x1 * 3) + x7)).toNatClampNeg))).toNatClampNeg))) → vp_in (I 139 ((((x1 * 3) + x7)).toNatClampNeg)) 16 ∧ (((I 101 12) < (I 137 (((I 139 ((((x1 * 3) + x7)).toNatClampNeg))).toNatClampNeg)) → hf_G X Y_X8_seekTruest (d + 1) k n 32 [some (.ref 136), some (.int x1), some (.int x2), some (.int x3), some (.int x4), some (.long x5), none, some (.int (x7 + 1)), none, none, none, none, none, none, none] [] (t, T, I, L, P) Q) ∧ (¬ ((I 101 12) < (I 137 (((I 139 ((((x1 * 3) + x7)).toNatClampNeg))).toNatClampNeg))) → ((I 101 13) ≤ (x3 + 1) → hf_G X Y_X8_seekTruest (d + 1) k n 32 [some (.ref 136), some (.int x1), some (.int x2), some (.int x3), some (.int x4), some (.long x5), none, some (.int (x7 + 1)), none, none, none, none, none, none, none] [] (t, T, I, L, P) Q) ∧ (¬ ((I 101 13) ≤ (x3 + 1)) → (¬ x1 = 0 → vp_in (I 139 ((((x1 * 3) + x7)).toNatClampNeg)) 16 ∧ (hf_G X Y_X8_seekTruest d 0 0 0 (hf_en [.ref 136, .int (x1 + 1), .int (x2 * (I 108 (((I 139 ((((x1 * 3) + x7)).toNatClampNeg))).toNatClampNeg))), .int (x3 + 1), .int (I 137 (((I 139 ((((x1 * 3) + x7)).toNatClampNeg))).toNatClampNeg)), .long ((x5 + ((I 139 ((((x1 * 3) + x7)).toNatClampNeg)).toInt64 <<< ((6 + (4 * (5 - x1))).toInt64 &&& 63))) + (1 <<< ((5 - x1).toInt64 &&& 63)))] 15) [] (t, T, I, L, P) (fun r M => hf_G X Y_X8_seekTruest (d + 1) k n 202 [some (.ref 136), some (.int x1), some (.int x2), some (.int x3), some (.int x4), some (.long x5), none, some (.int x7), none, none, none, none, none, none, none] (r.toList ++ []) M Q))) ∧ (x1 = 0 → vp_in (I 139 ((((x1 * 3) + x7)).toNatClampNeg)) 16 ∧ (hf_G X Y_X8_seekTruest d 0 0 0 (hf_en [.ref 136, .int (x1 + 1), .int (x2 * (I 108 (((I 139 ((((x1 * 3) + x7)).toNatClampNeg))).toNatClampNeg))), .int (x3 + 1), .int (I 137 (((I 139 ((((x1 * 3) + x7)).toNatClampNeg))).toNatClampNeg)), .long ((x5 + ((I 139 ((((x1 * 3) + x7)).toNatClampNeg)).toInt64 <<< ((6 + (4 * (5 - x1))).toInt64 &&& 63))) + 0)] 15) [] (t, T, I, L, P) (fun r M => hf_G X Y_X8_seekTruest (d + 1) k n 202 [some (.ref 136), some (.int x1), some (.int x2), some (.int x3), some (.int x4), some (.long x5), none, some (.int x7), none, none, none, none, none, none, none] (r.toList ++ []) M Q))))))) ∧ (¬ ((I 101 12) < ((x4 + (I 136 10)) + (I 137 (((I 139 ((((x1 * 3) + x7)).toNatClampNeg))).toNatClampNeg)))) → hf_G X Y_X8_seekTruest d 0 0 0 (hf_en [.ref 136, .int (x1 + 1), .int (x2 * (I 108 (((I 139 ((((x1 * 3) + x7)).toNatClampNeg))).toNatClampNeg))), .int x3, .int ((x4 + (I 136 10)) + (I 137 (((I 139 ((((x1 * 3) + x7)).toNatClampNeg))).toNatClampNeg))), .long (x5 + ((I 139 ((((x1 * 3) + x7)).toNatClampNeg)).toInt64 <<< ((6 + (4 * (5 - x1))).toInt64 &&& 63)))] 15) [] (t, T, I, L, P) (fun r M => hf_G X Y_X8_seekTruest (d + 1) k n 131 [some (.ref 136), some (.int x1), some (.int x2), some (.int x3), some (.int x4), some (.long x5), none, some (.int x7), none, none, none, none, none, none, none] (r.toList ++ []) M Q))))))))) : hf_G X Y_X8_seekTruest (d + 1) k n 32 [some (.ref 136), some (.int x1), some (.int x2), some (.int x3), some (.int x4), some (.long x5), none, some (.int x7), none, none, none, none, none, none, none] [] (t, T, I, L, P) Q := by
  refine hf_iload dX8_seekTruest_32 rfl ?_
  refine hf_aload_n dX8_seekTruest_34 rfl rfl ?_
  refine hf_getr (b := 140) (c := 8) (j := 5) dX8_seekTruest_35 (hs.2.1 136 _ rfl) (hf_lin hs 136 rfl) (by decide) (by decide) hw283 rfl (hs.2.2 136 5 _ rfl) ?_
  refine hf_iload_n dX8_seekTruest_38 rfl rfl ?_
  refine hf_iald dX8_seekTruest_39 (hs.2.1 140 _ rfl) (hf_lin hs 140 rfl) h.1 ?_
  replace h := h.2
  refine hf_icmp_ge (tgt := 208) dX8_seekTruest_40 (by decide) (fun hc => ?_) (fun hc => ?_)
  · replace h := h.1 hc
    refine hf_return dX8_seekTruest_208 rfl ?_
    exact h
  · replace h := h.2 hc
    refine hf_aload_n dX8_seekTruest_43 rfl rfl ?_
    refine hf_getr (b := 139) (c := 8) (j := 4) dX8_seekTruest_44 (hs.2.1 136 _ rfl) (hf_lin hs 136 rfl) (by decide) (by decide) hw282 rfl (hs.2.2 136 4 _ rfl) ?_
    refine hf_iload_n dX8_seekTruest_47 rfl rfl ?_
    refine hf_iconst (v := 3) dX8_seekTruest_48 (by decide) ?_
    refine hf_imul dX8_seekTruest_49 ?_
    refine hf_iload dX8_seekTruest_50 rfl ?_
    refine hf_iadd dX8_seekTruest_52 ?_
    refine hf_iald dX8_seekTruest_53 (hs.2.1 139 _ rfl) (hf_lin hs 139 rfl) h.1 ?_
    replace h := h.2
    refine hf_istore (l2 := [some (.ref 136), some (.int x1), some (.int x2), some (.int x3), some (.int x4), some (.long x5), none, some (.int x7), some (.int (I 139 ((((x1 * 3) + x7)).toNatClampNeg))), none, none, none, none, none, none]) dX8_seekTruest_54 (by decide) rfl ?_
    refine hf_iload_n dX8_seekTruest_56 rfl rfl ?_
    refine hf_aload_n dX8_seekTruest_57 rfl rfl ?_
    refine hf_getr (b := 101) (c := 8) (j := 0) dX8_seekTruest_58 (hs.2.1 136 _ rfl) (hf_lin hs 136 rfl) (by decide) (by decide) hw278 rfl (hs.2.2 136 0 _ rfl) ?_
    refine hf_getr (b := 105) (c := 1) (j := 3) dX8_seekTruest_61 (hs.2.1 101 _ rfl) (hf_lin hs 101 rfl) (by decide) (by decide) hw110 rfl (hs.2.2 101 3 _ rfl) ?_
    refine hf_getr (b := 108) (c := 10) (j := 2) dX8_seekTruest_64 (hs.2.1 105 _ rfl) (hf_lin hs 105 rfl) (by decide) (by decide) hw54 rfl (hs.2.2 105 2 _ rfl) ?_
    refine hf_iload dX8_seekTruest_67 rfl ?_
    refine hf_iald dX8_seekTruest_69 (hs.2.1 108 _ rfl) (hf_lin hs 108 rfl) h.1 ?_
    replace h := h.2
    refine hf_imul dX8_seekTruest_70 ?_
    refine hf_istore (l2 := [some (.ref 136), some (.int x1), some (.int x2), some (.int x3), some (.int x4), some (.long x5), none, some (.int x7), some (.int (I 139 ((((x1 * 3) + x7)).toNatClampNeg))), some (.int (x2 * (I 108 (((I 139 ((((x1 * 3) + x7)).toNatClampNeg))).toNatClampNeg)))), none, none, none, none, none]) dX8_seekTruest_71 (by decide) rfl ?_
    refine hf_lload dX8_seekTruest_73 rfl ?_
    refine hf_iload_n dX8_seekTruest_75 rfl rfl ?_
    refine hf_iload dX8_seekTruest_76 rfl ?_
    refine hf_callSN (host := RX11) (as := [.int x1, .int (I 139 ((((x1 * 3) + x7)).toNatClampNeg))]) ok_X11_wordKey dX8_seekTruest_78 (by decide +kernel) hw835 rfl (Nat.le_of_ble_eq_true rfl) rfl (Nat.le_of_ble_eq_true rfl) (Nat.zero_le _) (Nat.zero_le _) ?_
    show hf_G X Y_X11_wordKey d _ _ 0 [some (.int x1), some (.int (I 139 ((((x1 * 3) + x7)).toNatClampNeg)))] [] (t, T, I, L, P) _
    refine hf_iload_n dX11_wordKey_0 rfl rfl ?_
    refine hf_i2l dX11_wordKey_1 ?_
    refine hf_bipush (v := 6) dX11_wordKey_2 (by decide) ?_
    refine hf_iconst (v := 4) dX11_wordKey_4 (by decide) ?_
    refine hf_iconst (v := 5) dX11_wordKey_5 (by decide) ?_
    refine hf_iload_n dX11_wordKey_6 rfl rfl ?_
    refine hf_isub dX11_wordKey_7 ?_
    refine hf_imul dX11_wordKey_8 ?_
    refine hf_iadd dX11_wordKey_9 ?_
    refine hf_lshl dX11_wordKey_10 rfl ?_
    refine hf_lreturn dX11_wordKey_11 rfl ?_
    show hf_G X Y_X8_seekTruest (d + 1) _ _ 81 [some (.ref 136), some (.int x1), some (.int x2), some (.int x3), some (.int x4), some (.long x5), none, some (.int x7), some (.int (I 139 ((((x1 * 3) + x7)).toNatClampNeg))), some (.int (x2 * (I 108 (((I 139 ((((x1 * 3) + x7)).toNatClampNeg))).toNatClampNeg)))), none, none, none, none, none] [.long ((I 139 ((((x1 * 3) + x7)).toNatClampNeg)).toInt64 <<< ((6 + (4 * (5 - x1))).toInt64 &&& 63)), .long x5] (t, T, I, L, P) _
    refine hf_ladd dX8_seekTruest_81 ?_
    refine hf_lstore (l2 := [some (.ref 136), some (.int x1), some (.int x2), some (.int x3), some (.int x4), some (.long x5), none, some (.int x7), some (.int (I 139 ((((x1 * 3) + x7)).toNatClampNeg))), some (.int (x2 * (I 108 (((I 139 ((((x1 * 3) + x7)).toNatClampNeg))).toNatClampNeg)))), some (.long (x5 + ((I 139 ((((x1 * 3) + x7)).toNatClampNeg)).toInt64 <<< ((6 + (4 * (5 - x1))).toInt64 &&& 63)))), none, none, none, none]) dX8_seekTruest_82 (by decide) rfl ?_
    refine hf_iload dX8_seekTruest_84 rfl ?_
    refine hf_aload_n dX8_seekTruest_86 rfl rfl ?_
    refine hf_geti (c := 8) (j := 10) dX8_seekTruest_87 (hs.2.1 136 _ rfl) (hf_lin hs 136 rfl) (by decide) (by decide) hw288 (Or.inl rfl) ?_
    refine hf_iadd dX8_seekTruest_90 ?_
    refine hf_aload_n dX8_seekTruest_91 rfl rfl ?_
    refine hf_getr (b := 137) (c := 8) (j := 2) dX8_seekTruest_92 (hs.2.1 136 _ rfl) (hf_lin hs 136 rfl) (by decide) (by decide) hw280 rfl (hs.2.2 136 2 _ rfl) ?_
    refine hf_iload dX8_seekTruest_95 rfl ?_
    refine hf_iald dX8_seekTruest_97 (hs.2.1 137 _ rfl) (hf_lin hs 137 rfl) h.1 ?_
    replace h := h.2
    refine hf_iadd dX8_seekTruest_98 ?_
    refine hf_istore (l2 := [some (.ref 136), some (.int x1), some (.int x2), some (.int x3), some (.int x4), some (.long x5), none, some (.int x7), some (.int (I 139 ((((x1 * 3) + x7)).toNatClampNeg))), some (.int (x2 * (I 108 (((I 139 ((((x1 * 3) + x7)).toNatClampNeg))).toNatClampNeg)))), some (.long (x5 + ((I 139 ((((x1 * 3) + x7)).toNatClampNeg)).toInt64 <<< ((6 + (4 * (5 - x1))).toInt64 &&& 63)))), none, some (.int ((x4 + (I 136 10)) + (I 137 (((I 139 ((((x1 * 3) + x7)).toNatClampNeg))).toNatClampNeg)))), none, none]) dX8_seekTruest_99 (by decide) rfl ?_
    refine hf_iload_n dX8_seekTruest_101 rfl rfl ?_
    refine hf_if_le (tgt := 134) dX8_seekTruest_102 (by decide) (fun hc => ?_) (fun hc => ?_)
    · replace h := h.1 hc
      refine hf_aload_n dX8_seekTruest_134 rfl rfl ?_
      refine hf_getr (b := 137) (c := 8) (j := 2) dX8_seekTruest_135 (hs.2.1 136 _ rfl) (hf_lin hs 136 rfl) (by decide) (by decide) hw280 rfl (hs.2.2 136 2 _ rfl) ?_
      refine hf_iload dX8_seekTruest_138 rfl ?_
      refine hf_iald dX8_seekTruest_140 (hs.2.1 137 _ rfl) (hf_lin hs 137 rfl) h.1 ?_
      replace h := h.2
      refine hf_aload_n dX8_seekTruest_141 rfl rfl ?_
      refine hf_getr (b := 101) (c := 8) (j := 0) dX8_seekTruest_142 (hs.2.1 136 _ rfl) (hf_lin hs 136 rfl) (by decide) (by decide) hw278 rfl (hs.2.2 136 0 _ rfl) ?_
      refine hf_geti (c := 1) (j := 12) dX8_seekTruest_145 (hs.2.1 101 _ rfl) (hf_lin hs 101 rfl) (by decide) (by decide) hw139 (Or.inl rfl) ?_
      refine hf_icmp_gt (tgt := 202) dX8_seekTruest_148 (by decide) (fun hc => ?_) (fun hc => ?_)
      · replace h := h.1 hc
        refine hf_iinc (v := (x7 + 1)) (l2 := [some (.ref 136), some (.int x1), some (.int x2), some (.int x3), some (.int x4), some (.long x5), none, some (.int (x7 + 1)), some (.int (I 139 ((((x1 * 3) + x7)).toNatClampNeg))), some (.int (x2 * (I 108 (((I 139 ((((x1 * 3) + x7)).toNatClampNeg))).toNatClampNeg)))), some (.long (x5 + ((I 139 ((((x1 * 3) + x7)).toNatClampNeg)).toInt64 <<< ((6 + (4 * (5 - x1))).toInt64 &&& 63)))), none, some (.int ((x4 + (I 136 10)) + (I 137 (((I 139 ((((x1 * 3) + x7)).toNatClampNeg))).toNatClampNeg)))), none, none]) dX8_seekTruest_202 (by decide) rfl rfl rfl ?_
        refine hf_goto (tgt := 32) dX8_seekTruest_205 (by decide) ?_
        refine hf_drop (l' := [some (.ref 136), some (.int x1), some (.int x2), some (.int x3), some (.int x4), some (.long x5), none, some (.int (x7 + 1)), none, none, none, none, none, none, none]) (by simp [hf_sub]) ?_
        exact h
      · replace h := h.2 hc
        refine hf_iload_n dX8_seekTruest_151 rfl rfl ?_
        refine hf_iconst (v := 1) dX8_seekTruest_152 (by decide) ?_
        refine hf_iadd dX8_seekTruest_153 ?_
        refine hf_aload_n dX8_seekTruest_154 rfl rfl ?_
        refine hf_getr (b := 101) (c := 8) (j := 0) dX8_seekTruest_155 (hs.2.1 136 _ rfl) (hf_lin hs 136 rfl) (by decide) (by decide) hw278 rfl (hs.2.2 136 0 _ rfl) ?_
        refine hf_geti (c := 1) (j := 13) dX8_seekTruest_158 (hs.2.1 101 _ rfl) (hf_lin hs 101 rfl) (by decide) (by decide) hw141 (Or.inl rfl) ?_
        refine hf_icmp_ge (tgt := 202) dX8_seekTruest_161 (by decide) (fun hc => ?_) (fun hc => ?_)
        · replace h := h.1 hc
          refine hf_iinc (v := (x7 + 1)) (l2 := [some (.ref 136), some (.int x1), some (.int x2), some (.int x3), some (.int x4), some (.long x5), none, some (.int (x7 + 1)), some (.int (I 139 ((((x1 * 3) + x7)).toNatClampNeg))), some (.int (x2 * (I 108 (((I 139 ((((x1 * 3) + x7)).toNatClampNeg))).toNatClampNeg)))), some (.long (x5 + ((I 139 ((((x1 * 3) + x7)).toNatClampNeg)).toInt64 <<< ((6 + (4 * (5 - x1))).toInt64 &&& 63)))), none, some (.int ((x4 + (I 136 10)) + (I 137 (((I 139 ((((x1 * 3) + x7)).toNatClampNeg))).toNatClampNeg)))), none, none]) dX8_seekTruest_202 (by decide) rfl rfl rfl ?_
          refine hf_goto (tgt := 32) dX8_seekTruest_205 (by decide) ?_
          refine hf_drop (l' := [some (.ref 136), some (.int x1), some (.int x2), some (.int x3), some (.int x4), some (.long x5), none, some (.int (x7 + 1)), none, none, none, none, none, none, none]) (by simp [hf_sub]) ?_
          exact h
        · replace h := h.2 hc
          refine hf_iload_n dX8_seekTruest_164 rfl rfl ?_
          refine hf_if_ne (tgt := 172) dX8_seekTruest_165 (by decide) (fun hc => ?_) (fun hc => ?_)
          · replace h := h.1 hc
            refine hf_iload_n dX8_seekTruest_172 rfl rfl ?_
            refine hf_callSN (host := RX11) (as := [.int x1]) ok_X11_turnKey dX8_seekTruest_173 (by decide +kernel) hw828 rfl (Nat.le_of_ble_eq_true rfl) rfl (Nat.le_of_ble_eq_true rfl) (Nat.zero_le _) (Nat.zero_le _) ?_
            show hf_G X Y_X11_turnKey d _ _ 0 [some (.int x1)] [] (t, T, I, L, P) _
            refine hf_lconst (v := 1) dX11_turnKey_0 (by decide) ?_
            refine hf_iconst (v := 5) dX11_turnKey_1 (by decide) ?_
            refine hf_iload_n dX11_turnKey_2 rfl rfl ?_
            refine hf_isub dX11_turnKey_3 ?_
            refine hf_lshl dX11_turnKey_4 rfl ?_
            refine hf_lreturn dX11_turnKey_5 rfl ?_
            show hf_G X Y_X8_seekTruest (d + 1) _ _ 176 [some (.ref 136), some (.int x1), some (.int x2), some (.int x3), some (.int x4), some (.long x5), none, some (.int x7), some (.int (I 139 ((((x1 * 3) + x7)).toNatClampNeg))), some (.int (x2 * (I 108 (((I 139 ((((x1 * 3) + x7)).toNatClampNeg))).toNatClampNeg)))), some (.long (x5 + ((I 139 ((((x1 * 3) + x7)).toNatClampNeg)).toInt64 <<< ((6 + (4 * (5 - x1))).toInt64 &&& 63)))), none, some (.int ((x4 + (I 136 10)) + (I 137 (((I 139 ((((x1 * 3) + x7)).toNatClampNeg))).toNatClampNeg)))), none, none] [.long (1 <<< ((5 - x1).toInt64 &&& 63))] (t, T, I, L, P) _
            refine hf_lstore (l2 := [some (.ref 136), some (.int x1), some (.int x2), some (.int x3), some (.int x4), some (.long x5), none, some (.int x7), some (.int (I 139 ((((x1 * 3) + x7)).toNatClampNeg))), some (.int (x2 * (I 108 (((I 139 ((((x1 * 3) + x7)).toNatClampNeg))).toNatClampNeg)))), some (.long (x5 + ((I 139 ((((x1 * 3) + x7)).toNatClampNeg)).toInt64 <<< ((6 + (4 * (5 - x1))).toInt64 &&& 63)))), none, some (.int ((x4 + (I 136 10)) + (I 137 (((I 139 ((((x1 * 3) + x7)).toNatClampNeg))).toNatClampNeg)))), some (.long (1 <<< ((5 - x1).toInt64 &&& 63))), none]) dX8_seekTruest_176 (by decide) rfl ?_
            refine hf_aload_n dX8_seekTruest_178 rfl rfl ?_
            refine hf_iload_n dX8_seekTruest_179 rfl rfl ?_
            refine hf_iconst (v := 1) dX8_seekTruest_180 (by decide) ?_
            refine hf_iadd dX8_seekTruest_181 ?_
            refine hf_iload dX8_seekTruest_182 rfl ?_
            refine hf_iload_n dX8_seekTruest_184 rfl rfl ?_
            refine hf_iconst (v := 1) dX8_seekTruest_185 (by decide) ?_
            refine hf_iadd dX8_seekTruest_186 ?_
            refine hf_aload_n dX8_seekTruest_187 rfl rfl ?_
            refine hf_getr (b := 137) (c := 8) (j := 2) dX8_seekTruest_188 (hs.2.1 136 _ rfl) (hf_lin hs 136 rfl) (by decide) (by decide) hw280 rfl (hs.2.2 136 2 _ rfl) ?_
            refine hf_iload dX8_seekTruest_191 rfl ?_
            refine hf_iald dX8_seekTruest_193 (hs.2.1 137 _ rfl) (hf_lin hs 137 rfl) h.1 ?_
            replace h := h.2
            refine hf_lload dX8_seekTruest_194 rfl ?_
            refine hf_lload dX8_seekTruest_196 rfl ?_
            refine hf_ladd dX8_seekTruest_198 ?_
            exact hf_callV (c := 8) (as := [.int (x1 + 1), .int (x2 * (I 108 (((I 139 ((((x1 * 3) + x7)).toNatClampNeg))).toNatClampNeg))), .int (x3 + 1), .int (I 137 (((I 139 ((((x1 * 3) + x7)).toNatClampNeg))).toNatClampNeg)), .long ((x5 + ((I 139 ((((x1 * 3) + x7)).toNatClampNeg)).toInt64 <<< ((6 + (4 * (5 - x1))).toInt64 &&& 63))) + (1 <<< ((5 - x1).toInt64 &&& 63)))]) ok_X8_seekTruest dX8_seekTruest_199 hw854 hw855 hw1594 (hs.2.1 136 _ rfl) (by decide) (hf_lin hs 136 rfl) rfl (Nat.le_of_ble_eq_true rfl) rfl (Nat.le_of_ble_eq_true rfl) (Nat.zero_le _) (Nat.zero_le _) (hf_mono (fun r M q => hf_drop (l' := [some (.ref 136), some (.int x1), some (.int x2), some (.int x3), some (.int x4), some (.long x5), none, some (.int x7), none, none, none, none, none, none, none]) (by simp [hf_sub]) q) h)
          · replace h := h.2 hc
            refine hf_lconst (v := 0) dX8_seekTruest_168 (by decide) ?_
            refine hf_goto (tgt := 176) dX8_seekTruest_169 (by decide) ?_
            refine hf_lstore (l2 := [some (.ref 136), some (.int x1), some (.int x2), some (.int x3), some (.int x4), some (.long x5), none, some (.int x7), some (.int (I 139 ((((x1 * 3) + x7)).toNatClampNeg))), some (.int (x2 * (I 108 (((I 139 ((((x1 * 3) + x7)).toNatClampNeg))).toNatClampNeg)))), some (.long (x5 + ((I 139 ((((x1 * 3) + x7)).toNatClampNeg)).toInt64 <<< ((6 + (4 * (5 - x1))).toInt64 &&& 63)))), none, some (.int ((x4 + (I 136 10)) + (I 137 (((I 139 ((((x1 * 3) + x7)).toNatClampNeg))).toNatClampNeg)))), some (.long 0), none]) dX8_seekTruest_176 (by decide) rfl ?_
            refine hf_aload_n dX8_seekTruest_178 rfl rfl ?_
            refine hf_iload_n dX8_seekTruest_179 rfl rfl ?_
            refine hf_iconst (v := 1) dX8_seekTruest_180 (by decide) ?_
            refine hf_iadd dX8_seekTruest_181 ?_
            refine hf_iload dX8_seekTruest_182 rfl ?_
            refine hf_iload_n dX8_seekTruest_184 rfl rfl ?_
            refine hf_iconst (v := 1) dX8_seekTruest_185 (by decide) ?_
            refine hf_iadd dX8_seekTruest_186 ?_
            refine hf_aload_n dX8_seekTruest_187 rfl rfl ?_
            refine hf_getr (b := 137) (c := 8) (j := 2) dX8_seekTruest_188 (hs.2.1 136 _ rfl) (hf_lin hs 136 rfl) (by decide) (by decide) hw280 rfl (hs.2.2 136 2 _ rfl) ?_
            refine hf_iload dX8_seekTruest_191 rfl ?_
            refine hf_iald dX8_seekTruest_193 (hs.2.1 137 _ rfl) (hf_lin hs 137 rfl) h.1 ?_
            replace h := h.2
            refine hf_lload dX8_seekTruest_194 rfl ?_
            refine hf_lload dX8_seekTruest_196 rfl ?_
            refine hf_ladd dX8_seekTruest_198 ?_
            exact hf_callV (c := 8) (as := [.int (x1 + 1), .int (x2 * (I 108 (((I 139 ((((x1 * 3) + x7)).toNatClampNeg))).toNatClampNeg))), .int (x3 + 1), .int (I 137 (((I 139 ((((x1 * 3) + x7)).toNatClampNeg))).toNatClampNeg)), .long ((x5 + ((I 139 ((((x1 * 3) + x7)).toNatClampNeg)).toInt64 <<< ((6 + (4 * (5 - x1))).toInt64 &&& 63))) + 0)]) ok_X8_seekTruest dX8_seekTruest_199 hw854 hw855 hw1594 (hs.2.1 136 _ rfl) (by decide) (hf_lin hs 136 rfl) rfl (Nat.le_of_ble_eq_true rfl) rfl (Nat.le_of_ble_eq_true rfl) (Nat.zero_le _) (Nat.zero_le _) (hf_mono (fun r M q => hf_drop (l' := [some (.ref 136), some (.int x1), some (.int x2), some (.int x3), some (.int x4), some (.long x5), none, some (.int x7), none, none, none, none, none, none, none]) (by simp [hf_sub]) q) h)
    · replace h := h.2 hc
      refine hf_iload dX8_seekTruest_105 rfl ?_
      refine hf_aload_n dX8_seekTruest_107 rfl rfl ?_
      refine hf_getr (b := 101) (c := 8) (j := 0) dX8_seekTruest_108 (hs.2.1 136 _ rfl) (hf_lin hs 136 rfl) (by decide) (by decide) hw278 rfl (hs.2.2 136 0 _ rfl) ?_
      refine hf_geti (c := 1) (j := 12) dX8_seekTruest_111 (hs.2.1 101 _ rfl) (hf_lin hs 101 rfl) (by decide) (by decide) hw139 (Or.inl rfl) ?_
      refine hf_icmp_gt (tgt := 134) dX8_seekTruest_114 (by decide) (fun hc => ?_) (fun hc => ?_)
      · replace h := h.1 hc
        refine hf_aload_n dX8_seekTruest_134 rfl rfl ?_
        refine hf_getr (b := 137) (c := 8) (j := 2) dX8_seekTruest_135 (hs.2.1 136 _ rfl) (hf_lin hs 136 rfl) (by decide) (by decide) hw280 rfl (hs.2.2 136 2 _ rfl) ?_
        refine hf_iload dX8_seekTruest_138 rfl ?_
        refine hf_iald dX8_seekTruest_140 (hs.2.1 137 _ rfl) (hf_lin hs 137 rfl) h.1 ?_
        replace h := h.2
        refine hf_aload_n dX8_seekTruest_141 rfl rfl ?_
        refine hf_getr (b := 101) (c := 8) (j := 0) dX8_seekTruest_142 (hs.2.1 136 _ rfl) (hf_lin hs 136 rfl) (by decide) (by decide) hw278 rfl (hs.2.2 136 0 _ rfl) ?_
        refine hf_geti (c := 1) (j := 12) dX8_seekTruest_145 (hs.2.1 101 _ rfl) (hf_lin hs 101 rfl) (by decide) (by decide) hw139 (Or.inl rfl) ?_
        refine hf_icmp_gt (tgt := 202) dX8_seekTruest_148 (by decide) (fun hc => ?_) (fun hc => ?_)
        · replace h := h.1 hc
          refine hf_iinc (v := (x7 + 1)) (l2 := [some (.ref 136), some (.int x1), some (.int x2), some (.int x3), some (.int x4), some (.long x5), none, some (.int (x7 + 1)), some (.int (I 139 ((((x1 * 3) + x7)).toNatClampNeg))), some (.int (x2 * (I 108 (((I 139 ((((x1 * 3) + x7)).toNatClampNeg))).toNatClampNeg)))), some (.long (x5 + ((I 139 ((((x1 * 3) + x7)).toNatClampNeg)).toInt64 <<< ((6 + (4 * (5 - x1))).toInt64 &&& 63)))), none, some (.int ((x4 + (I 136 10)) + (I 137 (((I 139 ((((x1 * 3) + x7)).toNatClampNeg))).toNatClampNeg)))), none, none]) dX8_seekTruest_202 (by decide) rfl rfl rfl ?_
          refine hf_goto (tgt := 32) dX8_seekTruest_205 (by decide) ?_
          refine hf_drop (l' := [some (.ref 136), some (.int x1), some (.int x2), some (.int x3), some (.int x4), some (.long x5), none, some (.int (x7 + 1)), none, none, none, none, none, none, none]) (by simp [hf_sub]) ?_
          exact h
        · replace h := h.2 hc
          refine hf_iload_n dX8_seekTruest_151 rfl rfl ?_
          refine hf_iconst (v := 1) dX8_seekTruest_152 (by decide) ?_
          refine hf_iadd dX8_seekTruest_153 ?_
          refine hf_aload_n dX8_seekTruest_154 rfl rfl ?_
          refine hf_getr (b := 101) (c := 8) (j := 0) dX8_seekTruest_155 (hs.2.1 136 _ rfl) (hf_lin hs 136 rfl) (by decide) (by decide) hw278 rfl (hs.2.2 136 0 _ rfl) ?_
          refine hf_geti (c := 1) (j := 13) dX8_seekTruest_158 (hs.2.1 101 _ rfl) (hf_lin hs 101 rfl) (by decide) (by decide) hw141 (Or.inl rfl) ?_
          refine hf_icmp_ge (tgt := 202) dX8_seekTruest_161 (by decide) (fun hc => ?_) (fun hc => ?_)
          · replace h := h.1 hc
            refine hf_iinc (v := (x7 + 1)) (l2 := [some (.ref 136), some (.int x1), some (.int x2), some (.int x3), some (.int x4), some (.long x5), none, some (.int (x7 + 1)), some (.int (I 139 ((((x1 * 3) + x7)).toNatClampNeg))), some (.int (x2 * (I 108 (((I 139 ((((x1 * 3) + x7)).toNatClampNeg))).toNatClampNeg)))), some (.long (x5 + ((I 139 ((((x1 * 3) + x7)).toNatClampNeg)).toInt64 <<< ((6 + (4 * (5 - x1))).toInt64 &&& 63)))), none, some (.int ((x4 + (I 136 10)) + (I 137 (((I 139 ((((x1 * 3) + x7)).toNatClampNeg))).toNatClampNeg)))), none, none]) dX8_seekTruest_202 (by decide) rfl rfl rfl ?_
            refine hf_goto (tgt := 32) dX8_seekTruest_205 (by decide) ?_
            refine hf_drop (l' := [some (.ref 136), some (.int x1), some (.int x2), some (.int x3), some (.int x4), some (.long x5), none, some (.int (x7 + 1)), none, none, none, none, none, none, none]) (by simp [hf_sub]) ?_
            exact h
          · replace h := h.2 hc
            refine hf_iload_n dX8_seekTruest_164 rfl rfl ?_
            refine hf_if_ne (tgt := 172) dX8_seekTruest_165 (by decide) (fun hc => ?_) (fun hc => ?_)
            · replace h := h.1 hc
              refine hf_iload_n dX8_seekTruest_172 rfl rfl ?_
              refine hf_callSN (host := RX11) (as := [.int x1]) ok_X11_turnKey dX8_seekTruest_173 (by decide +kernel) hw828 rfl (Nat.le_of_ble_eq_true rfl) rfl (Nat.le_of_ble_eq_true rfl) (Nat.zero_le _) (Nat.zero_le _) ?_
              show hf_G X Y_X11_turnKey d _ _ 0 [some (.int x1)] [] (t, T, I, L, P) _
              refine hf_lconst (v := 1) dX11_turnKey_0 (by decide) ?_
              refine hf_iconst (v := 5) dX11_turnKey_1 (by decide) ?_
              refine hf_iload_n dX11_turnKey_2 rfl rfl ?_
              refine hf_isub dX11_turnKey_3 ?_
              refine hf_lshl dX11_turnKey_4 rfl ?_
              refine hf_lreturn dX11_turnKey_5 rfl ?_
              show hf_G X Y_X8_seekTruest (d + 1) _ _ 176 [some (.ref 136), some (.int x1), some (.int x2), some (.int x3), some (.int x4), some (.long x5), none, some (.int x7), some (.int (I 139 ((((x1 * 3) + x7)).toNatClampNeg))), some (.int (x2 * (I 108 (((I 139 ((((x1 * 3) + x7)).toNatClampNeg))).toNatClampNeg)))), some (.long (x5 + ((I 139 ((((x1 * 3) + x7)).toNatClampNeg)).toInt64 <<< ((6 + (4 * (5 - x1))).toInt64 &&& 63)))), none, some (.int ((x4 + (I 136 10)) + (I 137 (((I 139 ((((x1 * 3) + x7)).toNatClampNeg))).toNatClampNeg)))), none, none] [.long (1 <<< ((5 - x1).toInt64 &&& 63))] (t, T, I, L, P) _
              refine hf_lstore (l2 := [some (.ref 136), some (.int x1), some (.int x2), some (.int x3), some (.int x4), some (.long x5), none, some (.int x7), some (.int (I 139 ((((x1 * 3) + x7)).toNatClampNeg))), some (.int (x2 * (I 108 (((I 139 ((((x1 * 3) + x7)).toNatClampNeg))).toNatClampNeg)))), some (.long (x5 + ((I 139 ((((x1 * 3) + x7)).toNatClampNeg)).toInt64 <<< ((6 + (4 * (5 - x1))).toInt64 &&& 63)))), none, some (.int ((x4 + (I 136 10)) + (I 137 (((I 139 ((((x1 * 3) + x7)).toNatClampNeg))).toNatClampNeg)))), some (.long (1 <<< ((5 - x1).toInt64 &&& 63))), none]) dX8_seekTruest_176 (by decide) rfl ?_
              refine hf_aload_n dX8_seekTruest_178 rfl rfl ?_
              refine hf_iload_n dX8_seekTruest_179 rfl rfl ?_
              refine hf_iconst (v := 1) dX8_seekTruest_180 (by decide) ?_
              refine hf_iadd dX8_seekTruest_181 ?_
              refine hf_iload dX8_seekTruest_182 rfl ?_
              refine hf_iload_n dX8_seekTruest_184 rfl rfl ?_
              refine hf_iconst (v := 1) dX8_seekTruest_185 (by decide) ?_
              refine hf_iadd dX8_seekTruest_186 ?_
              refine hf_aload_n dX8_seekTruest_187 rfl rfl ?_
              refine hf_getr (b := 137) (c := 8) (j := 2) dX8_seekTruest_188 (hs.2.1 136 _ rfl) (hf_lin hs 136 rfl) (by decide) (by decide) hw280 rfl (hs.2.2 136 2 _ rfl) ?_
              refine hf_iload dX8_seekTruest_191 rfl ?_
              refine hf_iald dX8_seekTruest_193 (hs.2.1 137 _ rfl) (hf_lin hs 137 rfl) h.1 ?_
              replace h := h.2
              refine hf_lload dX8_seekTruest_194 rfl ?_
              refine hf_lload dX8_seekTruest_196 rfl ?_
              refine hf_ladd dX8_seekTruest_198 ?_
              exact hf_callV (c := 8) (as := [.int (x1 + 1), .int (x2 * (I 108 (((I 139 ((((x1 * 3) + x7)).toNatClampNeg))).toNatClampNeg))), .int (x3 + 1), .int (I 137 (((I 139 ((((x1 * 3) + x7)).toNatClampNeg))).toNatClampNeg)), .long ((x5 + ((I 139 ((((x1 * 3) + x7)).toNatClampNeg)).toInt64 <<< ((6 + (4 * (5 - x1))).toInt64 &&& 63))) + (1 <<< ((5 - x1).toInt64 &&& 63)))]) ok_X8_seekTruest dX8_seekTruest_199 hw854 hw855 hw1594 (hs.2.1 136 _ rfl) (by decide) (hf_lin hs 136 rfl) rfl (Nat.le_of_ble_eq_true rfl) rfl (Nat.le_of_ble_eq_true rfl) (Nat.zero_le _) (Nat.zero_le _) (hf_mono (fun r M q => hf_drop (l' := [some (.ref 136), some (.int x1), some (.int x2), some (.int x3), some (.int x4), some (.long x5), none, some (.int x7), none, none, none, none, none, none, none]) (by simp [hf_sub]) q) h)
            · replace h := h.2 hc
              refine hf_lconst (v := 0) dX8_seekTruest_168 (by decide) ?_
              refine hf_goto (tgt := 176) dX8_seekTruest_169 (by decide) ?_
              refine hf_lstore (l2 := [some (.ref 136), some (.int x1), some (.int x2), some (.int x3), some (.int x4), some (.long x5), none, some (.int x7), some (.int (I 139 ((((x1 * 3) + x7)).toNatClampNeg))), some (.int (x2 * (I 108 (((I 139 ((((x1 * 3) + x7)).toNatClampNeg))).toNatClampNeg)))), some (.long (x5 + ((I 139 ((((x1 * 3) + x7)).toNatClampNeg)).toInt64 <<< ((6 + (4 * (5 - x1))).toInt64 &&& 63)))), none, some (.int ((x4 + (I 136 10)) + (I 137 (((I 139 ((((x1 * 3) + x7)).toNatClampNeg))).toNatClampNeg)))), some (.long 0), none]) dX8_seekTruest_176 (by decide) rfl ?_
              refine hf_aload_n dX8_seekTruest_178 rfl rfl ?_
              refine hf_iload_n dX8_seekTruest_179 rfl rfl ?_
              refine hf_iconst (v := 1) dX8_seekTruest_180 (by decide) ?_
              refine hf_iadd dX8_seekTruest_181 ?_
              refine hf_iload dX8_seekTruest_182 rfl ?_
              refine hf_iload_n dX8_seekTruest_184 rfl rfl ?_
              refine hf_iconst (v := 1) dX8_seekTruest_185 (by decide) ?_
              refine hf_iadd dX8_seekTruest_186 ?_
              refine hf_aload_n dX8_seekTruest_187 rfl rfl ?_
              refine hf_getr (b := 137) (c := 8) (j := 2) dX8_seekTruest_188 (hs.2.1 136 _ rfl) (hf_lin hs 136 rfl) (by decide) (by decide) hw280 rfl (hs.2.2 136 2 _ rfl) ?_
              refine hf_iload dX8_seekTruest_191 rfl ?_
              refine hf_iald dX8_seekTruest_193 (hs.2.1 137 _ rfl) (hf_lin hs 137 rfl) h.1 ?_
              replace h := h.2
              refine hf_lload dX8_seekTruest_194 rfl ?_
              refine hf_lload dX8_seekTruest_196 rfl ?_
              refine hf_ladd dX8_seekTruest_198 ?_
              exact hf_callV (c := 8) (as := [.int (x1 + 1), .int (x2 * (I 108 (((I 139 ((((x1 * 3) + x7)).toNatClampNeg))).toNatClampNeg))), .int (x3 + 1), .int (I 137 (((I 139 ((((x1 * 3) + x7)).toNatClampNeg))).toNatClampNeg)), .long ((x5 + ((I 139 ((((x1 * 3) + x7)).toNatClampNeg)).toInt64 <<< ((6 + (4 * (5 - x1))).toInt64 &&& 63))) + 0)]) ok_X8_seekTruest dX8_seekTruest_199 hw854 hw855 hw1594 (hs.2.1 136 _ rfl) (by decide) (hf_lin hs 136 rfl) rfl (Nat.le_of_ble_eq_true rfl) rfl (Nat.le_of_ble_eq_true rfl) (Nat.zero_le _) (Nat.zero_le _) (hf_mono (fun r M q => hf_drop (l' := [some (.ref 136), some (.int x1), some (.int x2), some (.int x3), some (.int x4), some (.long x5), none, some (.int x7), none, none, none, none, none, none, none]) (by simp [hf_sub]) q) h)
      · replace h := h.2 hc
        refine hf_aload_n dX8_seekTruest_117 rfl rfl ?_
        refine hf_iload_n dX8_seekTruest_118 rfl rfl ?_
        refine hf_iconst (v := 1) dX8_seekTruest_119 (by decide) ?_
        refine hf_iadd dX8_seekTruest_120 ?_
        refine hf_iload dX8_seekTruest_121 rfl ?_
        refine hf_iload_n dX8_seekTruest_123 rfl rfl ?_
        refine hf_iload dX8_seekTruest_124 rfl ?_
        refine hf_lload dX8_seekTruest_126 rfl ?_
        exact hf_callV (c := 8) (as := [.int (x1 + 1), .int (x2 * (I 108 (((I 139 ((((x1 * 3) + x7)).toNatClampNeg))).toNatClampNeg))), .int x3, .int ((x4 + (I 136 10)) + (I 137 (((I 139 ((((x1 * 3) + x7)).toNatClampNeg))).toNatClampNeg))), .long (x5 + ((I 139 ((((x1 * 3) + x7)).toNatClampNeg)).toInt64 <<< ((6 + (4 * (5 - x1))).toInt64 &&& 63)))]) ok_X8_seekTruest dX8_seekTruest_128 hw854 hw855 hw1594 (hs.2.1 136 _ rfl) (by decide) (hf_lin hs 136 rfl) rfl (Nat.le_of_ble_eq_true rfl) rfl (Nat.le_of_ble_eq_true rfl) (Nat.zero_le _) (Nat.zero_le _) (hf_mono (fun r M q => hf_drop (l' := [some (.ref 136), some (.int x1), some (.int x2), some (.int x3), some (.int x4), some (.long x5), none, some (.int x7), none, none, none, none, none, none, none]) (by simp [hf_sub]) q) h)

set_option maxHeartbeats 4000000 in
theorem w_X8_seekTruest_202 {X : hf_X} {d k n t : Nat} {T : hf_T} {I : hf_I} {L : hf_L} {P : hf_P} {Q : Option Value → hf_M → Prop} {x1 : Int32} {x2 : Int32} {x3 : Int32} {x4 : Int32} {x5 : Int64} {x7 : Int32} (hs : hf_Lay t T P) (h : hf_G X Y_X8_seekTruest d k n 32 [some (.ref 136), some (.int x1), some (.int x2), some (.int x3), some (.int x4), some (.long x5), none, some (.int (x7 + 1)), none, none, none, none, none, none, none] [] (t, T, I, L, P) Q) : hf_G X Y_X8_seekTruest d k n 202 [some (.ref 136), some (.int x1), some (.int x2), some (.int x3), some (.int x4), some (.long x5), none, some (.int x7), none, none, none, none, none, none, none] [] (t, T, I, L, P) Q := by
  refine hf_iinc (v := (x7 + 1)) (l2 := [some (.ref 136), some (.int x1), some (.int x2), some (.int x3), some (.int x4), some (.long x5), none, some (.int (x7 + 1)), none, none, none, none, none, none, none]) dX8_seekTruest_202 (by decide) rfl rfl rfl ?_
  refine hf_goto (tgt := 32) dX8_seekTruest_205 (by decide) ?_
  exact h

set_option maxHeartbeats 4000000 in
theorem w_X8_seekTruest_131 {X : hf_X} {d k n t : Nat} {T : hf_T} {I : hf_I} {L : hf_L} {P : hf_P} {Q : Option Value → hf_M → Prop} {x1 : Int32} {x2 : Int32} {x3 : Int32} {x4 : Int32} {x5 : Int64} {x7 : Int32} (hs : hf_Lay t T P) (h : hf_G X Y_X8_seekTruest d k n 32 [some (.ref 136), some (.int x1), some (.int x2), some (.int x3), some (.int x4), some (.long x5), none, some (.int (x7 + 1)), none, none, none, none, none, none, none] [] (t, T, I, L, P) Q) : hf_G X Y_X8_seekTruest d k n 131 [some (.ref 136), some (.int x1), some (.int x2), some (.int x3), some (.int x4), some (.long x5), none, some (.int x7), none, none, none, none, none, none, none] [] (t, T, I, L, P) Q := by
  refine hf_goto (tgt := 202) dX8_seekTruest_131 (by decide) ?_
  refine hf_iinc (v := (x7 + 1)) (l2 := [some (.ref 136), some (.int x1), some (.int x2), some (.int x3), some (.int x4), some (.long x5), none, some (.int (x7 + 1)), none, none, none, none, none, none, none]) dX8_seekTruest_202 (by decide) rfl rfl rfl ?_
  refine hf_goto (tgt := 32) dX8_seekTruest_205 (by decide) ?_
  exact h

set_option maxHeartbeats 4000000 in
theorem w_X8_rowCost_0 {X : hf_X} {d k n t : Nat} {T : hf_T} {I : hf_I} {L : hf_L} {P : hf_P} {Q : Option Value → hf_M → Prop} {x1 : Int64} (hs : hf_Lay t T P) (h : hf_G X Y_X8_rowCost d k n 14 [some (.ref 136), some (.long x1), none, some (.int 0), some (.int 0), some (.int 0), some (.int (-1)), some (.int 0)] [] (t, T, I, L, P) Q) : hf_G X Y_X8_rowCost d k n 0 (hf_en [.ref 136, .long x1] 8) [] (t, T, I, L, P) Q := by
  show hf_G X Y_X8_rowCost d k n 0 [some (.ref 136), some (.long x1), none, none, none, none, none, none] [] (t, T, I, L, P) Q
  refine hf_iconst (v := 0) dX8_rowCost_0 (by decide) ?_
  refine hf_istore_n (l2 := [some (.ref 136), some (.long x1), none, some (.int 0), none, none, none, none]) dX8_rowCost_1 rfl (by decide) rfl ?_
  refine hf_iconst (v := 0) dX8_rowCost_2 (by decide) ?_
  refine hf_istore (l2 := [some (.ref 136), some (.long x1), none, some (.int 0), some (.int 0), none, none, none]) dX8_rowCost_3 (by decide) rfl ?_
  refine hf_iconst (v := 0) dX8_rowCost_5 (by decide) ?_
  refine hf_istore (l2 := [some (.ref 136), some (.long x1), none, some (.int 0), some (.int 0), some (.int 0), none, none]) dX8_rowCost_6 (by decide) rfl ?_
  refine hf_iconst (v := (-1)) dX8_rowCost_8 (by decide) ?_
  refine hf_istore (l2 := [some (.ref 136), some (.long x1), none, some (.int 0), some (.int 0), some (.int 0), some (.int (-1)), none]) dX8_rowCost_9 (by decide) rfl ?_
  refine hf_iconst (v := 0) dX8_rowCost_11 (by decide) ?_
  refine hf_istore (l2 := [some (.ref 136), some (.long x1), none, some (.int 0), some (.int 0), some (.int 0), some (.int (-1)), some (.int 0)]) dX8_rowCost_12 (by decide) rfl ?_
  exact h

set_option maxHeartbeats 4000000 in
theorem w_X8_rowCost_14 {X : hf_X} {d k n t : Nat} {T : hf_T} {I : hf_I} {L : hf_L} {P : hf_P} {Q : Option Value → hf_M → Prop} {x1 : Int64} {x3 : Int32} {x4 : Int32} {x5 : Int32} {x6 : Int32} {x7 : Int32} (hs : hf_Lay t T P) (h : ((I 136 9) ≤ x7 → Q (some (.int x3)) (t, T, I, L, P)) ∧ (¬ ((I 136 9) ≤ x7) → vp_in ((x1 >>> ((6 + (4 * (5 - x7))).toInt64 &&& 63)).toInt32 &&& 15) 16 ∧ (((I 136 9) ≤ (x7 + 1) → hf_G X Y_X8_rowLineCost (d + 1) 0 0 0 (hf_en [.ref 136, .long x1, .int x4, .int (x7 + 1), .int x5, .int x6] 11) [] (t, T, I, L, P) (fun r M => hf_G X Y_X8_rowCost (d + 2) k n 78 [some (.ref 136), some (.long x1), none, none, some (.int x4), some (.int x5), none, some (.int x7)] (r.toList ++ [.int (x3 + (I 138 ((((x1 >>> ((6 + (4 * (5 - x7))).toInt64 &&& 63)).toInt32 &&& 15)).toNatClampNeg)))]) M Q)) ∧ (¬ ((I 136 9) ≤ (x7 + 1)) → ((lg_cmp (x1 &&& (1 <<< ((5 - (x7 + 1)).toInt64 &&& 63))) 0) = 0 → hf_G X Y_X8_rowCost (d + 2) k n 14 [some (.ref 136), some (.long x1), none, some (.int (x3 + (I 138 ((((x1 >>> ((6 + (4 * (5 - x7))).toInt64 &&& 63)).toInt32 &&& 15)).toNatClampNeg)))), some (.int x4), some (.int x5), some (.int x6), some (.int (x7 + 1))] [] (t, T, I, L, P) Q) ∧ (¬ ((lg_cmp (x1 &&& (1 <<< ((5 - (x7 + 1)).toInt64 &&& 63))) 0) = 0) → hf_G X Y_X8_rowLineCost (d + 1) 0 0 0 (hf_en [.ref 136, .long x1, .int x4, .int (x7 + 1), .int x5, .int x6] 11) [] (t, T, I, L, P) (fun r M => hf_G X Y_X8_rowCost (d + 2) k n 78 [some (.ref 136), some (.long x1), none, none, some (.int x4), some (.int x5), none, some (.int x7)] (r.toList ++ [.int (x3 + (I 138 ((((x1 >>> ((6 + (4 * (5 - x7))).toInt64 &&& 63)).toInt32 &&& 15)).toNatClampNeg)))]) M Q)))))) : hf_G X Y_X8_rowCost (d + 2) k n 14 [some (.ref 136), some (.long x1), none, some (.int x3), some (.int x4), some (.int x5), some (.int x6), some (.int x7)] [] (t, T, I, L, P) Q := by
  refine hf_iload dX8_rowCost_14 rfl ?_
  refine hf_aload_n dX8_rowCost_16 rfl rfl ?_
  refine hf_geti (c := 8) (j := 9) dX8_rowCost_17 (hs.2.1 136 _ rfl) (hf_lin hs 136 rfl) (by decide) (by decide) hw287 (Or.inl rfl) ?_
  refine hf_icmp_ge (tgt := 103) dX8_rowCost_20 (by decide) (fun hc => ?_) (fun hc => ?_)
  · replace h := h.1 hc
    refine hf_iload_n dX8_rowCost_103 rfl rfl ?_
    refine hf_ireturn dX8_rowCost_104 rfl rfl ?_
    exact h
  · replace h := h.2 hc
    refine hf_iload_n dX8_rowCost_23 rfl rfl ?_
    refine hf_aload_n dX8_rowCost_24 rfl rfl ?_
    refine hf_getr (b := 138) (c := 8) (j := 3) dX8_rowCost_25 (hs.2.1 136 _ rfl) (hf_lin hs 136 rfl) (by decide) (by decide) hw281 rfl (hs.2.2 136 3 _ rfl) ?_
    refine hf_lload_n dX8_rowCost_28 rfl rfl ?_
    refine hf_iload dX8_rowCost_29 rfl ?_
    refine hf_callSN (host := RX11) (as := [.long x1, .int x7]) ok_X11_wordIn dX8_rowCost_31 (by decide +kernel) hw860 rfl (Nat.le_of_ble_eq_true rfl) rfl (Nat.le_of_ble_eq_true rfl) (Nat.zero_le _) (Nat.zero_le _) ?_
    show hf_G X Y_X11_wordIn (d + 1) _ _ 0 [some (.long x1), none, some (.int x7)] [] (t, T, I, L, P) _
    refine hf_lload_n dX11_wordIn_0 rfl rfl ?_
    refine hf_bipush (v := 6) dX11_wordIn_1 (by decide) ?_
    refine hf_iconst (v := 4) dX11_wordIn_3 (by decide) ?_
    refine hf_iconst (v := 5) dX11_wordIn_4 (by decide) ?_
    refine hf_iload_n dX11_wordIn_5 rfl rfl ?_
    refine hf_isub dX11_wordIn_6 ?_
    refine hf_imul dX11_wordIn_7 ?_
    refine hf_iadd dX11_wordIn_8 ?_
    refine hf_lshr dX11_wordIn_9 rfl ?_
    refine hf_l2i dX11_wordIn_10 ?_
    refine hf_bipush (v := 15) dX11_wordIn_11 (by decide) ?_
    refine hf_iand dX11_wordIn_13 ?_
    refine hf_ireturn dX11_wordIn_14 rfl rfl ?_
    show hf_G X Y_X8_rowCost (d + 2) _ _ 34 [some (.ref 136), some (.long x1), none, some (.int x3), some (.int x4), some (.int x5), some (.int x6), some (.int x7)] [.int ((x1 >>> ((6 + (4 * (5 - x7))).toInt64 &&& 63)).toInt32 &&& 15), .ref 138, .int x3] (t, T, I, L, P) _
    refine hf_iald dX8_rowCost_34 (hs.2.1 138 _ rfl) (hf_lin hs 138 rfl) h.1 ?_
    replace h := h.2
    refine hf_iadd dX8_rowCost_35 ?_
    refine hf_istore_n (l2 := [some (.ref 136), some (.long x1), none, some (.int (x3 + (I 138 ((((x1 >>> ((6 + (4 * (5 - x7))).toInt64 &&& 63)).toInt32 &&& 15)).toNatClampNeg)))), some (.int x4), some (.int x5), some (.int x6), some (.int x7)]) dX8_rowCost_36 rfl (by decide) rfl ?_
    refine hf_iload dX8_rowCost_37 rfl ?_
    refine hf_iconst (v := 1) dX8_rowCost_39 (by decide) ?_
    refine hf_iadd dX8_rowCost_40 ?_
    refine hf_aload_n dX8_rowCost_41 rfl rfl ?_
    refine hf_geti (c := 8) (j := 9) dX8_rowCost_42 (hs.2.1 136 _ rfl) (hf_lin hs 136 rfl) (by decide) (by decide) hw287 (Or.inl rfl) ?_
    refine hf_icmp_ge (tgt := 62) dX8_rowCost_45 (by decide) (fun hc => ?_) (fun hc => ?_)
    · replace h := h.1 hc
      refine hf_iload_n dX8_rowCost_62 rfl rfl ?_
      refine hf_aload_n dX8_rowCost_63 rfl rfl ?_
      refine hf_lload_n dX8_rowCost_64 rfl rfl ?_
      refine hf_iload dX8_rowCost_65 rfl ?_
      refine hf_iload dX8_rowCost_67 rfl ?_
      refine hf_iconst (v := 1) dX8_rowCost_69 (by decide) ?_
      refine hf_iadd dX8_rowCost_70 ?_
      refine hf_iload dX8_rowCost_71 rfl ?_
      refine hf_iload dX8_rowCost_73 rfl ?_
      exact hf_callV (c := 8) (as := [.long x1, .int x4, .int (x7 + 1), .int x5, .int x6]) ok_X8_rowLineCost dX8_rowCost_75 hw865 hw866 hw1596 (hs.2.1 136 _ rfl) (by decide) (hf_lin hs 136 rfl) rfl (Nat.le_of_ble_eq_true rfl) rfl (Nat.le_of_ble_eq_true rfl) (Nat.zero_le _) (Nat.zero_le _) (hf_mono (fun r M q => hf_drop (l' := [some (.ref 136), some (.long x1), none, none, some (.int x4), some (.int x5), none, some (.int x7)]) (by simp [hf_sub]) q) h)
    · replace h := h.2 hc
      refine hf_lload_n dX8_rowCost_48 rfl rfl ?_
      refine hf_iload dX8_rowCost_49 rfl ?_
      refine hf_iconst (v := 1) dX8_rowCost_51 (by decide) ?_
      refine hf_iadd dX8_rowCost_52 ?_
      refine hf_callSN (host := RX11) (as := [.long x1, .int (x7 + 1)]) ok_X11_turnsIn dX8_rowCost_53 (by decide +kernel) hw862 rfl (Nat.le_of_ble_eq_true rfl) rfl (Nat.le_of_ble_eq_true rfl) (Nat.zero_le _) (Nat.zero_le _) ?_
      show hf_G X Y_X11_turnsIn (d + 1) _ _ 0 [some (.long x1), none, some (.int (x7 + 1))] [] (t, T, I, L, P) _
      refine hf_lload_n dX11_turnsIn_0 rfl rfl ?_
      refine hf_iload_n dX11_turnsIn_1 rfl rfl ?_
      refine hf_callS (as := [.int (x7 + 1)]) ok_X11_turnKey dX11_turnsIn_2 hw864 hw828 rfl (Nat.le_of_ble_eq_true rfl) rfl (Nat.le_of_ble_eq_true rfl) (Nat.zero_le _) (Nat.zero_le _) ?_
      show hf_G X Y_X11_turnKey d _ _ 0 [some (.int (x7 + 1))] [] (t, T, I, L, P) _
      refine hf_lconst (v := 1) dX11_turnKey_0 (by decide) ?_
      refine hf_iconst (v := 5) dX11_turnKey_1 (by decide) ?_
      refine hf_iload_n dX11_turnKey_2 rfl rfl ?_
      refine hf_isub dX11_turnKey_3 ?_
      refine hf_lshl dX11_turnKey_4 rfl ?_
      refine hf_lreturn dX11_turnKey_5 rfl ?_
      show hf_G X Y_X11_turnsIn (d + 1) _ _ 5 [some (.long x1), none, some (.int (x7 + 1))] [.long (1 <<< ((5 - (x7 + 1)).toInt64 &&& 63)), .long x1] (t, T, I, L, P) _
      refine hf_land dX11_turnsIn_5 ?_
      refine hf_lconst (v := 0) dX11_turnsIn_6 (by decide) ?_
      refine hf_lcmp dX11_turnsIn_7 ?_
      refine hf_if_eq (tgt := 15) dX11_turnsIn_8 (by decide) (fun hc => ?_) (fun hc => ?_)
      · replace h := h.1 hc
        refine hf_iconst (v := 0) dX11_turnsIn_15 (by decide) ?_
        refine hf_ireturn dX11_turnsIn_16 rfl (by decide) ?_
        show hf_G X Y_X8_rowCost (d + 2) _ _ 56 [some (.ref 136), some (.long x1), none, some (.int (x3 + (I 138 ((((x1 >>> ((6 + (4 * (5 - x7))).toInt64 &&& 63)).toInt32 &&& 15)).toNatClampNeg)))), some (.int x4), some (.int x5), some (.int x6), some (.int x7)] [.int 0] (t, T, I, L, P) _
        refine hf_if_ne (tgt := 62) dX8_rowCost_56 (by decide) (fun hc => absurd (show ¬ (0 : Int32) = (0 : Int32) from hc) (by decide)) (fun _ => ?_)
        refine hf_goto (tgt := 97) dX8_rowCost_59 (by decide) ?_
        refine hf_iinc (v := (x7 + 1)) (l2 := [some (.ref 136), some (.long x1), none, some (.int (x3 + (I 138 ((((x1 >>> ((6 + (4 * (5 - x7))).toInt64 &&& 63)).toInt32 &&& 15)).toNatClampNeg)))), some (.int x4), some (.int x5), some (.int x6), some (.int (x7 + 1))]) dX8_rowCost_97 (by decide) rfl rfl rfl ?_
        refine hf_goto (tgt := 14) dX8_rowCost_100 (by decide) ?_
        exact h
      · replace h := h.2 hc
        refine hf_iconst (v := 1) dX11_turnsIn_11 (by decide) ?_
        refine hf_goto (tgt := 16) dX11_turnsIn_12 (by decide) ?_
        refine hf_ireturn dX11_turnsIn_16 rfl (by decide) ?_
        show hf_G X Y_X8_rowCost (d + 2) _ _ 56 [some (.ref 136), some (.long x1), none, some (.int (x3 + (I 138 ((((x1 >>> ((6 + (4 * (5 - x7))).toInt64 &&& 63)).toInt32 &&& 15)).toNatClampNeg)))), some (.int x4), some (.int x5), some (.int x6), some (.int x7)] [.int 1] (t, T, I, L, P) _
        refine hf_if_ne (tgt := 62) dX8_rowCost_56 (by decide) (fun _ => ?_) (fun hc => absurd (show (1 : Int32) = (0 : Int32) from hc) (by decide))
        refine hf_iload_n dX8_rowCost_62 rfl rfl ?_
        refine hf_aload_n dX8_rowCost_63 rfl rfl ?_
        refine hf_lload_n dX8_rowCost_64 rfl rfl ?_
        refine hf_iload dX8_rowCost_65 rfl ?_
        refine hf_iload dX8_rowCost_67 rfl ?_
        refine hf_iconst (v := 1) dX8_rowCost_69 (by decide) ?_
        refine hf_iadd dX8_rowCost_70 ?_
        refine hf_iload dX8_rowCost_71 rfl ?_
        refine hf_iload dX8_rowCost_73 rfl ?_
        exact hf_callV (c := 8) (as := [.long x1, .int x4, .int (x7 + 1), .int x5, .int x6]) ok_X8_rowLineCost dX8_rowCost_75 hw865 hw866 hw1596 (hs.2.1 136 _ rfl) (by decide) (hf_lin hs 136 rfl) rfl (Nat.le_of_ble_eq_true rfl) rfl (Nat.le_of_ble_eq_true rfl) (Nat.zero_le _) (Nat.zero_le _) (hf_mono (fun r M q => hf_drop (l' := [some (.ref 136), some (.long x1), none, none, some (.int x4), some (.int x5), none, some (.int x7)]) (by simp [hf_sub]) q) h)

set_option maxHeartbeats 4000000 in
theorem w_X8_rowCost_78 {X : hf_X} {d k n t : Nat} {T : hf_T} {I : hf_I} {L : hf_L} {P : hf_P} {Q : Option Value → hf_M → Prop} {x1 : Int64} {x4 : Int32} {x5 : Int32} {x7 : Int32} {s0 : Int32} {s1 : Int32} (hs : hf_Lay t T P) (h : hf_G X Y_X8_rowCost (d + 1) k n 14 [some (.ref 136), some (.long x1), none, some (.int (s1 + s0)), some (.int (x7 + 1)), some (.int (x5 + 1)), some (.int ((x1 >>> ((6 + (4 * (5 - x4))).toInt64 &&& 63)).toInt32 &&& 15)), some (.int (x7 + 1))] [] (t, T, I, L, P) Q) : hf_G X Y_X8_rowCost (d + 1) k n 78 [some (.ref 136), some (.long x1), none, none, some (.int x4), some (.int x5), none, some (.int x7)] [.int s0, .int s1] (t, T, I, L, P) Q := by
  refine hf_iadd dX8_rowCost_78 ?_
  refine hf_istore_n (l2 := [some (.ref 136), some (.long x1), none, some (.int (s1 + s0)), some (.int x4), some (.int x5), none, some (.int x7)]) dX8_rowCost_79 rfl (by decide) rfl ?_
  refine hf_lload_n dX8_rowCost_80 rfl rfl ?_
  refine hf_iload dX8_rowCost_81 rfl ?_
  refine hf_callSN (host := RX11) (as := [.long x1, .int x4]) ok_X11_wordIn dX8_rowCost_83 (by decide +kernel) hw860 rfl (Nat.le_of_ble_eq_true rfl) rfl (Nat.le_of_ble_eq_true rfl) (Nat.zero_le _) (Nat.zero_le _) ?_
  show hf_G X Y_X11_wordIn d _ _ 0 [some (.long x1), none, some (.int x4)] [] (t, T, I, L, P) _
  refine hf_lload_n dX11_wordIn_0 rfl rfl ?_
  refine hf_bipush (v := 6) dX11_wordIn_1 (by decide) ?_
  refine hf_iconst (v := 4) dX11_wordIn_3 (by decide) ?_
  refine hf_iconst (v := 5) dX11_wordIn_4 (by decide) ?_
  refine hf_iload_n dX11_wordIn_5 rfl rfl ?_
  refine hf_isub dX11_wordIn_6 ?_
  refine hf_imul dX11_wordIn_7 ?_
  refine hf_iadd dX11_wordIn_8 ?_
  refine hf_lshr dX11_wordIn_9 rfl ?_
  refine hf_l2i dX11_wordIn_10 ?_
  refine hf_bipush (v := 15) dX11_wordIn_11 (by decide) ?_
  refine hf_iand dX11_wordIn_13 ?_
  refine hf_ireturn dX11_wordIn_14 rfl rfl ?_
  show hf_G X Y_X8_rowCost (d + 1) _ _ 86 [some (.ref 136), some (.long x1), none, some (.int (s1 + s0)), some (.int x4), some (.int x5), none, some (.int x7)] [.int ((x1 >>> ((6 + (4 * (5 - x4))).toInt64 &&& 63)).toInt32 &&& 15)] (t, T, I, L, P) _
  refine hf_istore (l2 := [some (.ref 136), some (.long x1), none, some (.int (s1 + s0)), some (.int x4), some (.int x5), some (.int ((x1 >>> ((6 + (4 * (5 - x4))).toInt64 &&& 63)).toInt32 &&& 15)), some (.int x7)]) dX8_rowCost_86 (by decide) rfl ?_
  refine hf_iload dX8_rowCost_88 rfl ?_
  refine hf_iconst (v := 1) dX8_rowCost_90 (by decide) ?_
  refine hf_iadd dX8_rowCost_91 ?_
  refine hf_istore (l2 := [some (.ref 136), some (.long x1), none, some (.int (s1 + s0)), some (.int (x7 + 1)), some (.int x5), some (.int ((x1 >>> ((6 + (4 * (5 - x4))).toInt64 &&& 63)).toInt32 &&& 15)), some (.int x7)]) dX8_rowCost_92 (by decide) rfl ?_
  refine hf_iinc (v := (x5 + 1)) (l2 := [some (.ref 136), some (.long x1), none, some (.int (s1 + s0)), some (.int (x7 + 1)), some (.int (x5 + 1)), some (.int ((x1 >>> ((6 + (4 * (5 - x4))).toInt64 &&& 63)).toInt32 &&& 15)), some (.int x7)]) dX8_rowCost_94 (by decide) rfl rfl rfl ?_
  refine hf_iinc (v := (x7 + 1)) (l2 := [some (.ref 136), some (.long x1), none, some (.int (s1 + s0)), some (.int (x7 + 1)), some (.int (x5 + 1)), some (.int ((x1 >>> ((6 + (4 * (5 - x4))).toInt64 &&& 63)).toInt32 &&& 15)), some (.int (x7 + 1))]) dX8_rowCost_97 (by decide) rfl rfl rfl ?_
  refine hf_goto (tgt := 14) dX8_rowCost_100 (by decide) ?_
  exact h

set_option maxHeartbeats 4000000 in
theorem w_X8_rowLineCost_0 {X : hf_X} {d k n t : Nat} {T : hf_T} {I : hf_I} {L : hf_L} {P : hf_P} {Q : Option Value → hf_M → Prop} {x1 : Int64} {x3 : Int32} {x4 : Int32} {x5 : Int32} {x6 : Int32} (hs : hf_Lay t T P) (h : hf_G X Y_X8_rowLineCost d k n 19 [some (.ref 136), some (.long x1), none, some (.int x3), some (.int x4), some (.int x5), some (.int x6), some (.int (((x4 - x3) - 1) * (I 136 10))), some (.int 0), some (.int x3), none] [] (t, T, I, L, P) Q) : hf_G X Y_X8_rowLineCost d k n 0 (hf_en [.ref 136, .long x1, .int x3, .int x4, .int x5, .int x6] 11) [] (t, T, I, L, P) Q := by
  show hf_G X Y_X8_rowLineCost d k n 0 [some (.ref 136), some (.long x1), none, some (.int x3), some (.int x4), some (.int x5), some (.int x6), none, none, none, none] [] (t, T, I, L, P) Q
  refine hf_iload dX8_rowLineCost_0 rfl ?_
  refine hf_iload_n dX8_rowLineCost_2 rfl rfl ?_
  refine hf_isub dX8_rowLineCost_3 ?_
  refine hf_iconst (v := 1) dX8_rowLineCost_4 (by decide) ?_
  refine hf_isub dX8_rowLineCost_5 ?_
  refine hf_aload_n dX8_rowLineCost_6 rfl rfl ?_
  refine hf_geti (c := 8) (j := 10) dX8_rowLineCost_7 (hs.2.1 136 _ rfl) (hf_lin hs 136 rfl) (by decide) (by decide) hw288 (Or.inl rfl) ?_
  refine hf_imul dX8_rowLineCost_10 ?_
  refine hf_istore (l2 := [some (.ref 136), some (.long x1), none, some (.int x3), some (.int x4), some (.int x5), some (.int x6), some (.int (((x4 - x3) - 1) * (I 136 10))), none, none, none]) dX8_rowLineCost_11 (by decide) rfl ?_
  refine hf_iconst (v := 0) dX8_rowLineCost_13 (by decide) ?_
  refine hf_istore (l2 := [some (.ref 136), some (.long x1), none, some (.int x3), some (.int x4), some (.int x5), some (.int x6), some (.int (((x4 - x3) - 1) * (I 136 10))), some (.int 0), none, none]) dX8_rowLineCost_14 (by decide) rfl ?_
  refine hf_iload_n dX8_rowLineCost_16 rfl rfl ?_
  refine hf_istore (l2 := [some (.ref 136), some (.long x1), none, some (.int x3), some (.int x4), some (.int x5), some (.int x6), some (.int (((x4 - x3) - 1) * (I 136 10))), some (.int 0), some (.int x3), none]) dX8_rowLineCost_17 (by decide) rfl ?_
  exact h

set_option maxHeartbeats 4000000 in
theorem w_X8_rowLineCost_19 {X : hf_X} {d k n t : Nat} {T : hf_T} {I : hf_I} {L : hf_L} {P : hf_P} {Q : Option Value → hf_M → Prop} {x1 : Int64} {x3 : Int32} {x4 : Int32} {x5 : Int32} {x6 : Int32} {x7 : Int32} {x8 : Int32} {x9 : Int32} (hs : hf_Lay t T P) (h : (x4 ≤ x9 → (x6 = (-1) → hf_G X Y_X4_costOf (d + 1) 0 0 0 (hf_en [.ref 135, .int x5, .int ((I 101 12) - x7), .int (x4 - x3), .int 0, .int x8] 8) [] (t, T, I, L, P) (fun r M => hf_G X Y_X8_rowLineCost (d + 2) k n 139 [none, none, none, none, none, none, none, none, none, none, none] (r.toList ++ []) M Q)) ∧ (¬ (x6 = (-1)) → vp_in (x6 * 9) 144 ∧ (vp_in (((x1 >>> ((6 + (4 * (5 - x3))).toInt64 &&& 63)).toInt32 &&& 15) * 9) 144 ∧ ((¬ (I 110 (((x6 * 9)).toNatClampNeg)) = (I 110 (((((x1 >>> ((6 + (4 * (5 - x3))).toInt64 &&& 63)).toInt32 &&& 15) * 9)).toNatClampNeg)) → hf_G X Y_X4_costOf (d + 1) 0 0 0 (hf_en [.ref 135, .int x5, .int ((I 101 12) - x7), .int (x4 - x3), .int 0, .int x8] 8) [] (t, T, I, L, P) (fun r M => hf_G X Y_X8_rowLineCost (d + 2) k n 139 [none, none, none, none, none, none, none, none, none, none, none] (r.toList ++ []) M Q)) ∧ ((I 110 (((x6 * 9)).toNatClampNeg)) = (I 110 (((((x1 >>> ((6 + (4 * (5 - x3))).toInt64 &&& 63)).toInt32 &&& 15) * 9)).toNatClampNeg)) → hf_G X Y_X4_costOf (d + 1) 0 0 0 (hf_en [.ref 135, .int x5, .int ((I 101 12) - x7), .int (x4 - x3), .int 1, .int x8] 8) [] (t, T, I, L, P) (fun r M => hf_G X Y_X8_rowLineCost (d + 2) k n 139 [none, none, none, none, none, none, none, none, none, none, none] (r.toList ++ []) M Q)))))) ∧ (¬ (x4 ≤ x9) → vp_in ((x1 >>> ((6 + (4 * (5 - x9))).toInt64 &&& 63)).toInt32 &&& 15) 16 ∧ ((¬ x8 = 0 → hf_G X Y_X8_rowLineCost (d + 2) k n 19 [some (.ref 136), some (.long x1), none, some (.int x3), some (.int x4), some (.int x5), some (.int x6), some (.int (x7 + (I 137 ((((x1 >>> ((6 + (4 * (5 - x9))).toInt64 &&& 63)).toInt32 &&& 15)).toNatClampNeg)))), some (.int 1), some (.int (x9 + 1)), none] [] (t, T, I, L, P) Q) ∧ (x8 = 0 → vp_in x5 4 ∧ ((¬ ((x1 >>> ((6 + (4 * (5 - x9))).toInt64 &&& 63)).toInt32 &&& 15) = (I 113 x5.toNatClampNeg) → hf_G X Y_X8_rowLineCost (d + 2) k n 19 [some (.ref 136), some (.long x1), none, some (.int x3), some (.int x4), some (.int x5), some (.int x6), some (.int (x7 + (I 137 ((((x1 >>> ((6 + (4 * (5 - x9))).toInt64 &&& 63)).toInt32 &&& 15)).toNatClampNeg)))), some (.int 0), some (.int (x9 + 1)), none] [] (t, T, I, L, P) Q) ∧ (((x1 >>> ((6 + (4 * (5 - x9))).toInt64 &&& 63)).toInt32 &&& 15) = (I 113 x5.toNatClampNeg) → hf_G X Y_X8_rowLineCost (d + 2) k n 19 [some (.ref 136), some (.long x1), none, some (.int x3), some (.int x4), some (.int x5), some (.int x6), some (.int (x7 + (I 137 ((((x1 >>> ((6 + (4 * (5 - x9))).toInt64 &&& 63)).toInt32 &&& 15)).toNatClampNeg)))), some (.int 1), some (.int (x9 + 1)), none] [] (t, T, I, L, P) Q)))))) : hf_G X Y_X8_rowLineCost (d + 2) k n 19 [some (.ref 136), some (.long x1), none, some (.int x3), some (.int x4), some (.int x5), some (.int x6), some (.int x7), some (.int x8), some (.int x9), none] [] (t, T, I, L, P) Q := by
  refine hf_iload dX8_rowLineCost_19 rfl ?_
  refine hf_iload dX8_rowLineCost_21 rfl ?_
  refine hf_icmp_ge (tgt := 79) dX8_rowLineCost_23 (by decide) (fun hc => ?_) (fun hc => ?_)
  · replace h := h.1 hc
    refine hf_iload dX8_rowLineCost_79 rfl ?_
    refine hf_iconst (v := (-1)) dX8_rowLineCost_81 (by decide) ?_
    refine hf_icmp_eq (tgt := 109) dX8_rowLineCost_82 (by decide) (fun hc => ?_) (fun hc => ?_)
    · replace h := h.1 hc
      refine hf_iconst (v := 0) dX8_rowLineCost_109 (by decide) ?_
      refine hf_istore (l2 := [some (.ref 136), some (.long x1), none, some (.int x3), some (.int x4), some (.int x5), some (.int x6), some (.int x7), some (.int x8), some (.int 0), none]) dX8_rowLineCost_110 (by decide) rfl ?_
      refine hf_aload_n dX8_rowLineCost_112 rfl rfl ?_
      refine hf_getr (b := 135) (c := 8) (j := 1) dX8_rowLineCost_113 (hs.2.1 136 _ rfl) (hf_lin hs 136 rfl) (by decide) (by decide) hw279 rfl (hs.2.2 136 1 _ rfl) ?_
      refine hf_iload dX8_rowLineCost_116 rfl ?_
      refine hf_aload_n dX8_rowLineCost_118 rfl rfl ?_
      refine hf_getr (b := 101) (c := 8) (j := 0) dX8_rowLineCost_119 (hs.2.1 136 _ rfl) (hf_lin hs 136 rfl) (by decide) (by decide) hw278 rfl (hs.2.2 136 0 _ rfl) ?_
      refine hf_geti (c := 1) (j := 12) dX8_rowLineCost_122 (hs.2.1 101 _ rfl) (hf_lin hs 101 rfl) (by decide) (by decide) hw139 (Or.inl rfl) ?_
      refine hf_iload dX8_rowLineCost_125 rfl ?_
      refine hf_isub dX8_rowLineCost_127 ?_
      refine hf_iload dX8_rowLineCost_128 rfl ?_
      refine hf_iload_n dX8_rowLineCost_130 rfl rfl ?_
      refine hf_isub dX8_rowLineCost_131 ?_
      refine hf_iload dX8_rowLineCost_132 rfl ?_
      refine hf_iload dX8_rowLineCost_134 rfl ?_
      exact hf_callV (c := 4) (as := [.int x5, .int ((I 101 12) - x7), .int (x4 - x3), .int 0, .int x8]) ok_X4_costOf dX8_rowLineCost_136 hw843 hw787 hw788 (hs.2.1 135 _ rfl) (by decide) (hf_lin hs 135 rfl) rfl (Nat.le_of_ble_eq_true rfl) rfl (Nat.le_of_ble_eq_true rfl) (Nat.zero_le _) (Nat.zero_le _) (hf_mono (fun r M q => hf_drop (l' := [none, none, none, none, none, none, none, none, none, none, none]) (by simp [hf_sub]) q) h)
    · replace h := h.2 hc
      refine hf_aload_n dX8_rowLineCost_85 rfl rfl ?_
      refine hf_getr (b := 101) (c := 8) (j := 0) dX8_rowLineCost_86 (hs.2.1 136 _ rfl) (hf_lin hs 136 rfl) (by decide) (by decide) hw278 rfl (hs.2.2 136 0 _ rfl) ?_
      refine hf_getr (b := 105) (c := 1) (j := 3) dX8_rowLineCost_89 (hs.2.1 101 _ rfl) (hf_lin hs 101 rfl) (by decide) (by decide) hw110 rfl (hs.2.2 101 3 _ rfl) ?_
      refine hf_iload dX8_rowLineCost_92 rfl ?_
      refine hf_lload_n dX8_rowLineCost_94 rfl rfl ?_
      refine hf_iload_n dX8_rowLineCost_95 rfl rfl ?_
      refine hf_callSN (host := RX11) (as := [.long x1, .int x3]) ok_X11_wordIn dX8_rowLineCost_96 (by decide +kernel) hw860 rfl (Nat.le_of_ble_eq_true rfl) rfl (Nat.le_of_ble_eq_true rfl) (Nat.zero_le _) (Nat.zero_le _) ?_
      show hf_G X Y_X11_wordIn (d + 1) _ _ 0 [some (.long x1), none, some (.int x3)] [] (t, T, I, L, P) _
      refine hf_lload_n dX11_wordIn_0 rfl rfl ?_
      refine hf_bipush (v := 6) dX11_wordIn_1 (by decide) ?_
      refine hf_iconst (v := 4) dX11_wordIn_3 (by decide) ?_
      refine hf_iconst (v := 5) dX11_wordIn_4 (by decide) ?_
      refine hf_iload_n dX11_wordIn_5 rfl rfl ?_
      refine hf_isub dX11_wordIn_6 ?_
      refine hf_imul dX11_wordIn_7 ?_
      refine hf_iadd dX11_wordIn_8 ?_
      refine hf_lshr dX11_wordIn_9 rfl ?_
      refine hf_l2i dX11_wordIn_10 ?_
      refine hf_bipush (v := 15) dX11_wordIn_11 (by decide) ?_
      refine hf_iand dX11_wordIn_13 ?_
      refine hf_ireturn dX11_wordIn_14 rfl rfl ?_
      show hf_G X Y_X8_rowLineCost (d + 2) _ _ 99 [some (.ref 136), some (.long x1), none, some (.int x3), some (.int x4), some (.int x5), some (.int x6), some (.int x7), some (.int x8), some (.int x9), none] [.int ((x1 >>> ((6 + (4 * (5 - x3))).toInt64 &&& 63)).toInt32 &&& 15), .int x6, .ref 105] (t, T, I, L, P) _
      refine hf_callV (c := 10) (as := [.int x6, .int ((x1 >>> ((6 + (4 * (5 - x3))).toInt64 &&& 63)).toInt32 &&& 15)]) ok_X10_beginAlike dX8_rowLineCost_99 hw847 hw778 hw779 (hs.2.1 105 _ rfl) (by decide) (hf_lin hs 105 rfl) rfl (Nat.le_of_ble_eq_true rfl) rfl (Nat.le_of_ble_eq_true rfl) (Nat.zero_le _) (Nat.zero_le _) ?_
      show hf_G X Y_X10_beginAlike (d + 1) _ _ 0 [some (.ref 105), some (.int x6), some (.int ((x1 >>> ((6 + (4 * (5 - x3))).toInt64 &&& 63)).toInt32 &&& 15))] [] (t, T, I, L, P) _
      refine hf_aload_n dX10_beginAlike_0 rfl rfl ?_
      refine hf_iload_n dX10_beginAlike_1 rfl rfl ?_
      refine hf_callV (c := 10) (as := [.int x6]) ok_X10_firstLetter dX10_beginAlike_2 hw781 hw487 hw488 (hs.2.1 105 _ rfl) (by decide) (hf_lin hs 105 rfl) rfl (Nat.le_of_ble_eq_true rfl) rfl (Nat.le_of_ble_eq_true rfl) (Nat.zero_le _) (Nat.zero_le _) ?_
      show hf_G X Y_X10_firstLetter d _ _ 0 [some (.ref 105), some (.int x6)] [] (t, T, I, L, P) _
      refine hf_aload_n dX10_firstLetter_0 rfl rfl ?_
      refine hf_getr (b := 110) (c := 10) (j := 4) dX10_firstLetter_1 (hs.2.1 105 _ rfl) (hf_lin hs 105 rfl) (by decide) (by decide) hw59 rfl (hs.2.2 105 4 _ rfl) ?_
      refine hf_iload_n dX10_firstLetter_4 rfl rfl ?_
      refine hf_bipush (v := 9) dX10_firstLetter_5 (by decide) ?_
      refine hf_imul dX10_firstLetter_7 ?_
      refine hf_bald dX10_firstLetter_8 (hs.2.1 110 _ rfl) (hf_lin hs 110 rfl) h.1 ?_
      replace h := h.2
      refine hf_ireturn dX10_firstLetter_9 rfl rfl ?_
      show hf_G X Y_X10_beginAlike (d + 1) _ _ 5 [some (.ref 105), some (.int x6), some (.int ((x1 >>> ((6 + (4 * (5 - x3))).toInt64 &&& 63)).toInt32 &&& 15))] [.int (I 110 (((x6 * 9)).toNatClampNeg))] (t, T, I, L, P) _
      refine hf_aload_n dX10_beginAlike_5 rfl rfl ?_
      refine hf_iload_n dX10_beginAlike_6 rfl rfl ?_
      refine hf_callV (c := 10) (as := [.int ((x1 >>> ((6 + (4 * (5 - x3))).toInt64 &&& 63)).toInt32 &&& 15)]) ok_X10_firstLetter dX10_beginAlike_7 hw781 hw487 hw488 (hs.2.1 105 _ rfl) (by decide) (hf_lin hs 105 rfl) rfl (Nat.le_of_ble_eq_true rfl) rfl (Nat.le_of_ble_eq_true rfl) (Nat.zero_le _) (Nat.zero_le _) ?_
      show hf_G X Y_X10_firstLetter d _ _ 0 [some (.ref 105), some (.int ((x1 >>> ((6 + (4 * (5 - x3))).toInt64 &&& 63)).toInt32 &&& 15))] [] (t, T, I, L, P) _
      refine hf_aload_n dX10_firstLetter_0 rfl rfl ?_
      refine hf_getr (b := 110) (c := 10) (j := 4) dX10_firstLetter_1 (hs.2.1 105 _ rfl) (hf_lin hs 105 rfl) (by decide) (by decide) hw59 rfl (hs.2.2 105 4 _ rfl) ?_
      refine hf_iload_n dX10_firstLetter_4 rfl rfl ?_
      refine hf_bipush (v := 9) dX10_firstLetter_5 (by decide) ?_
      refine hf_imul dX10_firstLetter_7 ?_
      refine hf_bald dX10_firstLetter_8 (hs.2.1 110 _ rfl) (hf_lin hs 110 rfl) h.1 ?_
      replace h := h.2
      refine hf_ireturn dX10_firstLetter_9 rfl rfl ?_
      show hf_G X Y_X10_beginAlike (d + 1) _ _ 10 [some (.ref 105), some (.int x6), some (.int ((x1 >>> ((6 + (4 * (5 - x3))).toInt64 &&& 63)).toInt32 &&& 15))] [.int (I 110 (((((x1 >>> ((6 + (4 * (5 - x3))).toInt64 &&& 63)).toInt32 &&& 15) * 9)).toNatClampNeg)), .int (I 110 (((x6 * 9)).toNatClampNeg))] (t, T, I, L, P) _
      refine hf_icmp_ne (tgt := 17) dX10_beginAlike_10 (by decide) (fun hc => ?_) (fun hc => ?_)
      · replace h := h.1 hc
        refine hf_iconst (v := 0) dX10_beginAlike_17 (by decide) ?_
        refine hf_ireturn dX10_beginAlike_18 rfl (by decide) ?_
        show hf_G X Y_X8_rowLineCost (d + 2) _ _ 102 [some (.ref 136), some (.long x1), none, some (.int x3), some (.int x4), some (.int x5), some (.int x6), some (.int x7), some (.int x8), some (.int x9), none] [.int 0] (t, T, I, L, P) _
        refine hf_if_eq (tgt := 109) dX8_rowLineCost_102 (by decide) (fun _ => ?_) (fun hc => absurd (show (0 : Int32) = (0 : Int32) by decide) hc)
        refine hf_iconst (v := 0) dX8_rowLineCost_109 (by decide) ?_
        refine hf_istore (l2 := [some (.ref 136), some (.long x1), none, some (.int x3), some (.int x4), some (.int x5), some (.int x6), some (.int x7), some (.int x8), some (.int 0), none]) dX8_rowLineCost_110 (by decide) rfl ?_
        refine hf_aload_n dX8_rowLineCost_112 rfl rfl ?_
        refine hf_getr (b := 135) (c := 8) (j := 1) dX8_rowLineCost_113 (hs.2.1 136 _ rfl) (hf_lin hs 136 rfl) (by decide) (by decide) hw279 rfl (hs.2.2 136 1 _ rfl) ?_
        refine hf_iload dX8_rowLineCost_116 rfl ?_
        refine hf_aload_n dX8_rowLineCost_118 rfl rfl ?_
        refine hf_getr (b := 101) (c := 8) (j := 0) dX8_rowLineCost_119 (hs.2.1 136 _ rfl) (hf_lin hs 136 rfl) (by decide) (by decide) hw278 rfl (hs.2.2 136 0 _ rfl) ?_
        refine hf_geti (c := 1) (j := 12) dX8_rowLineCost_122 (hs.2.1 101 _ rfl) (hf_lin hs 101 rfl) (by decide) (by decide) hw139 (Or.inl rfl) ?_
        refine hf_iload dX8_rowLineCost_125 rfl ?_
        refine hf_isub dX8_rowLineCost_127 ?_
        refine hf_iload dX8_rowLineCost_128 rfl ?_
        refine hf_iload_n dX8_rowLineCost_130 rfl rfl ?_
        refine hf_isub dX8_rowLineCost_131 ?_
        refine hf_iload dX8_rowLineCost_132 rfl ?_
        refine hf_iload dX8_rowLineCost_134 rfl ?_
        exact hf_callV (c := 4) (as := [.int x5, .int ((I 101 12) - x7), .int (x4 - x3), .int 0, .int x8]) ok_X4_costOf dX8_rowLineCost_136 hw843 hw787 hw788 (hs.2.1 135 _ rfl) (by decide) (hf_lin hs 135 rfl) rfl (Nat.le_of_ble_eq_true rfl) rfl (Nat.le_of_ble_eq_true rfl) (Nat.zero_le _) (Nat.zero_le _) (hf_mono (fun r M q => hf_drop (l' := [none, none, none, none, none, none, none, none, none, none, none]) (by simp [hf_sub]) q) h)
      · replace h := h.2 hc
        refine hf_iconst (v := 1) dX10_beginAlike_13 (by decide) ?_
        refine hf_goto (tgt := 18) dX10_beginAlike_14 (by decide) ?_
        refine hf_ireturn dX10_beginAlike_18 rfl (by decide) ?_
        show hf_G X Y_X8_rowLineCost (d + 2) _ _ 102 [some (.ref 136), some (.long x1), none, some (.int x3), some (.int x4), some (.int x5), some (.int x6), some (.int x7), some (.int x8), some (.int x9), none] [.int 1] (t, T, I, L, P) _
        refine hf_if_eq (tgt := 109) dX8_rowLineCost_102 (by decide) (fun hc => absurd (show (1 : Int32) = (0 : Int32) from hc) (by decide)) (fun _ => ?_)
        refine hf_iconst (v := 1) dX8_rowLineCost_105 (by decide) ?_
        refine hf_goto (tgt := 110) dX8_rowLineCost_106 (by decide) ?_
        refine hf_istore (l2 := [some (.ref 136), some (.long x1), none, some (.int x3), some (.int x4), some (.int x5), some (.int x6), some (.int x7), some (.int x8), some (.int 1), none]) dX8_rowLineCost_110 (by decide) rfl ?_
        refine hf_aload_n dX8_rowLineCost_112 rfl rfl ?_
        refine hf_getr (b := 135) (c := 8) (j := 1) dX8_rowLineCost_113 (hs.2.1 136 _ rfl) (hf_lin hs 136 rfl) (by decide) (by decide) hw279 rfl (hs.2.2 136 1 _ rfl) ?_
        refine hf_iload dX8_rowLineCost_116 rfl ?_
        refine hf_aload_n dX8_rowLineCost_118 rfl rfl ?_
        refine hf_getr (b := 101) (c := 8) (j := 0) dX8_rowLineCost_119 (hs.2.1 136 _ rfl) (hf_lin hs 136 rfl) (by decide) (by decide) hw278 rfl (hs.2.2 136 0 _ rfl) ?_
        refine hf_geti (c := 1) (j := 12) dX8_rowLineCost_122 (hs.2.1 101 _ rfl) (hf_lin hs 101 rfl) (by decide) (by decide) hw139 (Or.inl rfl) ?_
        refine hf_iload dX8_rowLineCost_125 rfl ?_
        refine hf_isub dX8_rowLineCost_127 ?_
        refine hf_iload dX8_rowLineCost_128 rfl ?_
        refine hf_iload_n dX8_rowLineCost_130 rfl rfl ?_
        refine hf_isub dX8_rowLineCost_131 ?_
        refine hf_iload dX8_rowLineCost_132 rfl ?_
        refine hf_iload dX8_rowLineCost_134 rfl ?_
        exact hf_callV (c := 4) (as := [.int x5, .int ((I 101 12) - x7), .int (x4 - x3), .int 1, .int x8]) ok_X4_costOf dX8_rowLineCost_136 hw843 hw787 hw788 (hs.2.1 135 _ rfl) (by decide) (hf_lin hs 135 rfl) rfl (Nat.le_of_ble_eq_true rfl) rfl (Nat.le_of_ble_eq_true rfl) (Nat.zero_le _) (Nat.zero_le _) (hf_mono (fun r M q => hf_drop (l' := [none, none, none, none, none, none, none, none, none, none, none]) (by simp [hf_sub]) q) h)
  · replace h := h.2 hc
    refine hf_lload_n dX8_rowLineCost_26 rfl rfl ?_
    refine hf_iload dX8_rowLineCost_27 rfl ?_
    refine hf_callSN (host := RX11) (as := [.long x1, .int x9]) ok_X11_wordIn dX8_rowLineCost_29 (by decide +kernel) hw860 rfl (Nat.le_of_ble_eq_true rfl) rfl (Nat.le_of_ble_eq_true rfl) (Nat.zero_le _) (Nat.zero_le _) ?_
    show hf_G X Y_X11_wordIn (d + 1) _ _ 0 [some (.long x1), none, some (.int x9)] [] (t, T, I, L, P) _
    refine hf_lload_n dX11_wordIn_0 rfl rfl ?_
    refine hf_bipush (v := 6) dX11_wordIn_1 (by decide) ?_
    refine hf_iconst (v := 4) dX11_wordIn_3 (by decide) ?_
    refine hf_iconst (v := 5) dX11_wordIn_4 (by decide) ?_
    refine hf_iload_n dX11_wordIn_5 rfl rfl ?_
    refine hf_isub dX11_wordIn_6 ?_
    refine hf_imul dX11_wordIn_7 ?_
    refine hf_iadd dX11_wordIn_8 ?_
    refine hf_lshr dX11_wordIn_9 rfl ?_
    refine hf_l2i dX11_wordIn_10 ?_
    refine hf_bipush (v := 15) dX11_wordIn_11 (by decide) ?_
    refine hf_iand dX11_wordIn_13 ?_
    refine hf_ireturn dX11_wordIn_14 rfl rfl ?_
    show hf_G X Y_X8_rowLineCost (d + 2) _ _ 32 [some (.ref 136), some (.long x1), none, some (.int x3), some (.int x4), some (.int x5), some (.int x6), some (.int x7), some (.int x8), some (.int x9), none] [.int ((x1 >>> ((6 + (4 * (5 - x9))).toInt64 &&& 63)).toInt32 &&& 15)] (t, T, I, L, P) _
    refine hf_istore (l2 := [some (.ref 136), some (.long x1), none, some (.int x3), some (.int x4), some (.int x5), some (.int x6), some (.int x7), some (.int x8), some (.int x9), some (.int ((x1 >>> ((6 + (4 * (5 - x9))).toInt64 &&& 63)).toInt32 &&& 15))]) dX8_rowLineCost_32 (by decide) rfl ?_
    refine hf_iload dX8_rowLineCost_34 rfl ?_
    refine hf_aload_n dX8_rowLineCost_36 rfl rfl ?_
    refine hf_getr (b := 137) (c := 8) (j := 2) dX8_rowLineCost_37 (hs.2.1 136 _ rfl) (hf_lin hs 136 rfl) (by decide) (by decide) hw280 rfl (hs.2.2 136 2 _ rfl) ?_
    refine hf_iload dX8_rowLineCost_40 rfl ?_
    refine hf_iald dX8_rowLineCost_42 (hs.2.1 137 _ rfl) (hf_lin hs 137 rfl) h.1 ?_
    replace h := h.2
    refine hf_iadd dX8_rowLineCost_43 ?_
    refine hf_istore (l2 := [some (.ref 136), some (.long x1), none, some (.int x3), some (.int x4), some (.int x5), some (.int x6), some (.int (x7 + (I 137 ((((x1 >>> ((6 + (4 * (5 - x9))).toInt64 &&& 63)).toInt32 &&& 15)).toNatClampNeg)))), some (.int x8), some (.int x9), some (.int ((x1 >>> ((6 + (4 * (5 - x9))).toInt64 &&& 63)).toInt32 &&& 15))]) dX8_rowLineCost_44 (by decide) rfl ?_
    refine hf_iload dX8_rowLineCost_46 rfl ?_
    refine hf_if_ne (tgt := 66) dX8_rowLineCost_48 (by decide) (fun hc => ?_) (fun hc => ?_)
    · replace h := h.1 hc
      refine hf_iconst (v := 1) dX8_rowLineCost_66 (by decide) ?_
      refine hf_goto (tgt := 71) dX8_rowLineCost_67 (by decide) ?_
      refine hf_istore (l2 := [some (.ref 136), some (.long x1), none, some (.int x3), some (.int x4), some (.int x5), some (.int x6), some (.int (x7 + (I 137 ((((x1 >>> ((6 + (4 * (5 - x9))).toInt64 &&& 63)).toInt32 &&& 15)).toNatClampNeg)))), some (.int 1), some (.int x9), some (.int ((x1 >>> ((6 + (4 * (5 - x9))).toInt64 &&& 63)).toInt32 &&& 15))]) dX8_rowLineCost_71 (by decide) rfl ?_
      refine hf_iinc (v := (x9 + 1)) (l2 := [some (.ref 136), some (.long x1), none, some (.int x3), some (.int x4), some (.int x5), some (.int x6), some (.int (x7 + (I 137 ((((x1 >>> ((6 + (4 * (5 - x9))).toInt64 &&& 63)).toInt32 &&& 15)).toNatClampNeg)))), some (.int 1), some (.int (x9 + 1)), some (.int ((x1 >>> ((6 + (4 * (5 - x9))).toInt64 &&& 63)).toInt32 &&& 15))]) dX8_rowLineCost_73 (by decide) rfl rfl rfl ?_
      refine hf_goto (tgt := 19) dX8_rowLineCost_76 (by decide) ?_
      refine hf_drop (l' := [some (.ref 136), some (.long x1), none, some (.int x3), some (.int x4), some (.int x5), some (.int x6), some (.int (x7 + (I 137 ((((x1 >>> ((6 + (4 * (5 - x9))).toInt64 &&& 63)).toInt32 &&& 15)).toNatClampNeg)))), some (.int 1), some (.int (x9 + 1)), none]) (by simp [hf_sub]) ?_
      exact h
    · replace h := h.2 hc
      refine hf_iload dX8_rowLineCost_51 rfl ?_
      refine hf_aload_n dX8_rowLineCost_53 rfl rfl ?_
      refine hf_getr (b := 101) (c := 8) (j := 0) dX8_rowLineCost_54 (hs.2.1 136 _ rfl) (hf_lin hs 136 rfl) (by decide) (by decide) hw278 rfl (hs.2.2 136 0 _ rfl) ?_
      refine hf_getr (b := 113) (c := 1) (j := 6) dX8_rowLineCost_57 (hs.2.1 101 _ rfl) (hf_lin hs 101 rfl) (by decide) (by decide) hw119 rfl (hs.2.2 101 6 _ rfl) ?_
      refine hf_iload dX8_rowLineCost_60 rfl ?_
      refine hf_iald dX8_rowLineCost_62 (hs.2.1 113 _ rfl) (hf_lin hs 113 rfl) h.1 ?_
      replace h := h.2
      refine hf_icmp_ne (tgt := 70) dX8_rowLineCost_63 (by decide) (fun hc => ?_) (fun hc => ?_)
      · replace h := h.1 hc
        refine hf_iconst (v := 0) dX8_rowLineCost_70 (by decide) ?_
        refine hf_istore (l2 := [some (.ref 136), some (.long x1), none, some (.int x3), some (.int x4), some (.int x5), some (.int x6), some (.int (x7 + (I 137 ((((x1 >>> ((6 + (4 * (5 - x9))).toInt64 &&& 63)).toInt32 &&& 15)).toNatClampNeg)))), some (.int 0), some (.int x9), some (.int ((x1 >>> ((6 + (4 * (5 - x9))).toInt64 &&& 63)).toInt32 &&& 15))]) dX8_rowLineCost_71 (by decide) rfl ?_
        refine hf_iinc (v := (x9 + 1)) (l2 := [some (.ref 136), some (.long x1), none, some (.int x3), some (.int x4), some (.int x5), some (.int x6), some (.int (x7 + (I 137 ((((x1 >>> ((6 + (4 * (5 - x9))).toInt64 &&& 63)).toInt32 &&& 15)).toNatClampNeg)))), some (.int 0), some (.int (x9 + 1)), some (.int ((x1 >>> ((6 + (4 * (5 - x9))).toInt64 &&& 63)).toInt32 &&& 15))]) dX8_rowLineCost_73 (by decide) rfl rfl rfl ?_
        refine hf_goto (tgt := 19) dX8_rowLineCost_76 (by decide) ?_
        refine hf_drop (l' := [some (.ref 136), some (.long x1), none, some (.int x3), some (.int x4), some (.int x5), some (.int x6), some (.int (x7 + (I 137 ((((x1 >>> ((6 + (4 * (5 - x9))).toInt64 &&& 63)).toInt32 &&& 15)).toNatClampNeg)))), some (.int 0), some (.int (x9 + 1)), none]) (by simp [hf_sub]) ?_
        exact h
      · replace h := h.2 hc
        refine hf_iconst (v := 1) dX8_rowLineCost_66 (by decide) ?_
        refine hf_goto (tgt := 71) dX8_rowLineCost_67 (by decide) ?_
        refine hf_istore (l2 := [some (.ref 136), some (.long x1), none, some (.int x3), some (.int x4), some (.int x5), some (.int x6), some (.int (x7 + (I 137 ((((x1 >>> ((6 + (4 * (5 - x9))).toInt64 &&& 63)).toInt32 &&& 15)).toNatClampNeg)))), some (.int 1), some (.int x9), some (.int ((x1 >>> ((6 + (4 * (5 - x9))).toInt64 &&& 63)).toInt32 &&& 15))]) dX8_rowLineCost_71 (by decide) rfl ?_
        refine hf_iinc (v := (x9 + 1)) (l2 := [some (.ref 136), some (.long x1), none, some (.int x3), some (.int x4), some (.int x5), some (.int x6), some (.int (x7 + (I 137 ((((x1 >>> ((6 + (4 * (5 - x9))).toInt64 &&& 63)).toInt32 &&& 15)).toNatClampNeg)))), some (.int 1), some (.int (x9 + 1)), some (.int ((x1 >>> ((6 + (4 * (5 - x9))).toInt64 &&& 63)).toInt32 &&& 15))]) dX8_rowLineCost_73 (by decide) rfl rfl rfl ?_
        refine hf_goto (tgt := 19) dX8_rowLineCost_76 (by decide) ?_
        refine hf_drop (l' := [some (.ref 136), some (.long x1), none, some (.int x3), some (.int x4), some (.int x5), some (.int x6), some (.int (x7 + (I 137 ((((x1 >>> ((6 + (4 * (5 - x9))).toInt64 &&& 63)).toInt32 &&& 15)).toNatClampNeg)))), some (.int 1), some (.int (x9 + 1)), none]) (by simp [hf_sub]) ?_
        exact h

set_option maxHeartbeats 4000000 in
theorem w_X8_rowLineCost_139 {X : hf_X} {d k n t : Nat} {T : hf_T} {I : hf_I} {L : hf_L} {P : hf_P} {Q : Option Value → hf_M → Prop} {s0 : Int32} (hs : hf_Lay t T P) (h : Q (some (.int s0)) (t, T, I, L, P)) : hf_G X Y_X8_rowLineCost d k n 139 [none, none, none, none, none, none, none, none, none, none, none] [.int s0] (t, T, I, L, P) Q := by
  refine hf_ireturn dX8_rowLineCost_139 rfl rfl ?_
  exact h

set_option maxHeartbeats 4000000 in
theorem w_X8_narrowestColumn_0 {X : hf_X} {d k n t : Nat} {T : hf_T} {I : hf_I} {L : hf_L} {P : hf_P} {Q : Option Value → hf_M → Prop} {x1 : Int32} (hs : hf_Lay t T P) (h : hf_G X Y_X8_prepare d 0 0 0 (hf_en [.ref 136, .int x1] 4) [] (t, T, I, L, P) (fun r M => hf_G X Y_X8_narrowestColumn (d + 1) k n 5 [some (.ref 136), none, none, none] (r.toList ++ []) M Q)) : hf_G X Y_X8_narrowestColumn (d + 1) k n 0 (hf_en [.ref 136, .int x1] 4) [] (t, T, I, L, P) Q := by
  show hf_G X Y_X8_narrowestColumn (d + 1) k n 0 [some (.ref 136), some (.int x1), none, none] [] (t, T, I, L, P) Q
  refine hf_aload_n dX8_narrowestColumn_0 rfl rfl ?_
  refine hf_iload_n dX8_narrowestColumn_1 rfl rfl ?_
  exact hf_callV (c := 8) (as := [.int x1]) ok_X8_prepare dX8_narrowestColumn_2 hw812 hw813 hw1586 (hs.2.1 136 _ rfl) (by decide) (hf_lin hs 136 rfl) rfl (Nat.le_of_ble_eq_true rfl) rfl (Nat.le_of_ble_eq_true rfl) (Nat.zero_le _) (Nat.zero_le _) (hf_mono (fun r M q => hf_drop (l' := [some (.ref 136), none, none, none]) (by simp [hf_sub]) q) h)

set_option maxHeartbeats 4000000 in
theorem w_X8_narrowestColumn_5 {X : hf_X} {d k n t : Nat} {T : hf_T} {I : hf_I} {L : hf_L} {P : hf_P} {Q : Option Value → hf_M → Prop}  (hs : hf_Lay t T P) (h : hf_G X Y_X8_hasRow d 0 0 0 (hf_en [.ref 136] 2) [] (t, T, I, L, P) (fun r M => hf_G X Y_X8_narrowestColumn (d + 1) k n 9 [some (.ref 136), none, none, none] (r.toList ++ []) M Q)) : hf_G X Y_X8_narrowestColumn (d + 1) k n 5 [some (.ref 136), none, none, none] [] (t, T, I, L, P) Q := by
  refine hf_aload_n dX8_narrowestColumn_5 rfl rfl ?_
  exact hf_callV (c := 8) (as := []) ok_X8_hasRow dX8_narrowestColumn_6 hw822 hw823 hw1588 (hs.2.1 136 _ rfl) (by decide) (hf_lin hs 136 rfl) rfl (Nat.le_of_ble_eq_true rfl) rfl (Nat.le_of_ble_eq_true rfl) (Nat.zero_le _) (Nat.zero_le _) h

set_option maxHeartbeats 4000000 in
theorem w_X8_narrowestColumn_9 {X : hf_X} {d k n t : Nat} {T : hf_T} {I : hf_I} {L : hf_L} {P : hf_P} {Q : Option Value → hf_M → Prop} {s0 : Int32} (hs : hf_Lay t T P) (h : (¬ s0 = 0 → hf_G X Y_X8_broadestLine d 0 0 0 (hf_en [.ref 136, .int 0] 6) [] (t, T, I, L, P) (fun r M => hf_G X Y_X8_narrowestColumn (d + 1) k n 19 [some (.ref 136), none, none, none] (r.toList ++ []) M Q)) ∧ (s0 = 0 → Q (some (.int (-1))) (t, T, I, L, P))) : hf_G X Y_X8_narrowestColumn (d + 1) k n 9 [some (.ref 136), none, none, none] [.int s0] (t, T, I, L, P) Q := by
  refine hf_if_ne (tgt := 14) dX8_narrowestColumn_9 (by decide) (fun hc => ?_) (fun hc => ?_)
  · replace h := h.1 hc
    refine hf_aload_n dX8_narrowestColumn_14 rfl rfl ?_
    refine hf_iconst (v := 0) dX8_narrowestColumn_15 (by decide) ?_
    exact hf_callV (c := 8) (as := [.int 0]) ok_X8_broadestLine dX8_narrowestColumn_16 hw894 hw895 hw1598 (hs.2.1 136 _ rfl) (by decide) (hf_lin hs 136 rfl) rfl (Nat.le_of_ble_eq_true rfl) rfl (Nat.le_of_ble_eq_true rfl) (Nat.zero_le _) (Nat.zero_le _) h
  · replace h := h.2 hc
    refine hf_iconst (v := (-1)) dX8_narrowestColumn_12 (by decide) ?_
    refine hf_ireturn dX8_narrowestColumn_13 rfl rfl ?_
    exact h

set_option maxHeartbeats 4000000 in
theorem w_X8_narrowestColumn_19 {X : hf_X} {d k n t : Nat} {T : hf_T} {I : hf_I} {L : hf_L} {P : hf_P} {Q : Option Value → hf_M → Prop} {s0 : Int32} (hs : hf_Lay t T P) (h : hf_G X Y_X8_narrowestColumn d k n 22 [some (.ref 136), none, some (.int s0), some (.int 2)] [] (t, T, I, L, P) Q) : hf_G X Y_X8_narrowestColumn d k n 19 [some (.ref 136), none, none, none] [.int s0] (t, T, I, L, P) Q := by
  refine hf_istore_n (l2 := [some (.ref 136), none, some (.int s0), none]) dX8_narrowestColumn_19 rfl (by decide) rfl ?_
  refine hf_iconst (v := 2) dX8_narrowestColumn_20 (by decide) ?_
  refine hf_istore_n (l2 := [some (.ref 136), none, some (.int s0), some (.int 2)]) dX8_narrowestColumn_21 rfl (by decide) rfl ?_
  exact h

set_option maxHeartbeats 4000000 in
theorem w_X8_narrowestColumn_22 {X : hf_X} {d k n t : Nat} {T : hf_T} {I : hf_I} {L : hf_L} {P : hf_P} {Q : Option Value → hf_M → Prop} {x2 : Int32} {x3 : Int32} (hs : hf_Lay t T P) (h : ((1 <<< ((I 136 9) &&& 31)) ≤ x3 → Q (some (.int x2)) (t, T, I, L, P)) ∧ (¬ ((1 <<< ((I 136 9) &&& 31)) ≤ x3) → hf_G X Y_J6_bitCount_0f7a4 d 0 0 0 (hf_en [.int x3] 1) [] (t, T, I, L, P) (fun r M => hf_G X Y_X8_narrowestColumn (d + 1) k n 36 [some (.ref 136), none, some (.int x2), some (.int x3)] (r.toList ++ []) M Q))) : hf_G X Y_X8_narrowestColumn (d + 1) k n 22 [some (.ref 136), none, some (.int x2), some (.int x3)] [] (t, T, I, L, P) Q := by
  refine hf_iload_n dX8_narrowestColumn_22 rfl rfl ?_
  refine hf_iconst (v := 1) dX8_narrowestColumn_23 (by decide) ?_
  refine hf_aload_n dX8_narrowestColumn_24 rfl rfl ?_
  refine hf_geti (c := 8) (j := 9) dX8_narrowestColumn_25 (hs.2.1 136 _ rfl) (hf_lin hs 136 rfl) (by decide) (by decide) hw287 (Or.inl rfl) ?_
  refine hf_ishl dX8_narrowestColumn_28 ?_
  refine hf_icmp_ge (tgt := 62) dX8_narrowestColumn_29 (by decide) (fun hc => ?_) (fun hc => ?_)
  · replace h := h.1 hc
    refine hf_iload_n dX8_narrowestColumn_62 rfl rfl ?_
    refine hf_ireturn dX8_narrowestColumn_63 rfl rfl ?_
    exact h
  · replace h := h.2 hc
    refine hf_iload_n dX8_narrowestColumn_32 rfl rfl ?_
    exact hf_callS (as := [.int x3]) ok_J6_bitCount_0f7a4 dX8_narrowestColumn_33 hw898 hw899 rfl (Nat.le_of_ble_eq_true rfl) rfl (Nat.le_of_ble_eq_true rfl) (Nat.zero_le _) (Nat.zero_le _) h

set_option maxHeartbeats 4000000 in
theorem w_X8_narrowestColumn_36 {X : hf_X} {d k n t : Nat} {T : hf_T} {I : hf_I} {L : hf_L} {P : hf_P} {Q : Option Value → hf_M → Prop} {x2 : Int32} {x3 : Int32} {s0 : Int32} (hs : hf_Lay t T P) (h : ((I 101 13) ≤ s0 → hf_G X Y_X8_narrowestColumn (d + 1) k n 22 [some (.ref 136), none, some (.int x2), some (.int (x3 + 2))] [] (t, T, I, L, P) Q) ∧ (¬ ((I 101 13) ≤ s0) → hf_G X Y_X8_broadestLine d 0 0 0 (hf_en [.ref 136, .int x3] 6) [] (t, T, I, L, P) (fun r M => hf_G X Y_X8_narrowestColumn (d + 1) k n 52 [some (.ref 136), none, none, some (.int x3)] (r.toList ++ [.int x2]) M Q))) : hf_G X Y_X8_narrowestColumn (d + 1) k n 36 [some (.ref 136), none, some (.int x2), some (.int x3)] [.int s0] (t, T, I, L, P) Q := by
  refine hf_aload_n dX8_narrowestColumn_36 rfl rfl ?_
  refine hf_getr (b := 101) (c := 8) (j := 0) dX8_narrowestColumn_37 (hs.2.1 136 _ rfl) (hf_lin hs 136 rfl) (by decide) (by decide) hw278 rfl (hs.2.2 136 0 _ rfl) ?_
  refine hf_geti (c := 1) (j := 13) dX8_narrowestColumn_40 (hs.2.1 101 _ rfl) (hf_lin hs 101 rfl) (by decide) (by decide) hw141 (Or.inl rfl) ?_
  refine hf_icmp_ge (tgt := 56) dX8_narrowestColumn_43 (by decide) (fun hc => ?_) (fun hc => ?_)
  · replace h := h.1 hc
    refine hf_iinc (v := (x3 + 2)) (l2 := [some (.ref 136), none, some (.int x2), some (.int (x3 + 2))]) dX8_narrowestColumn_56 (by decide) rfl rfl rfl ?_
    refine hf_goto (tgt := 22) dX8_narrowestColumn_59 (by decide) ?_
    exact h
  · replace h := h.2 hc
    refine hf_iload_n dX8_narrowestColumn_46 rfl rfl ?_
    refine hf_aload_n dX8_narrowestColumn_47 rfl rfl ?_
    refine hf_iload_n dX8_narrowestColumn_48 rfl rfl ?_
    exact hf_callV (c := 8) (as := [.int x3]) ok_X8_broadestLine dX8_narrowestColumn_49 hw894 hw895 hw1598 (hs.2.1 136 _ rfl) (by decide) (hf_lin hs 136 rfl) rfl (Nat.le_of_ble_eq_true rfl) rfl (Nat.le_of_ble_eq_true rfl) (Nat.zero_le _) (Nat.zero_le _) (hf_mono (fun r M q => hf_drop (l' := [some (.ref 136), none, none, some (.int x3)]) (by simp [hf_sub]) q) h)

set_option maxHeartbeats 4000000 in
theorem w_X8_narrowestColumn_52 {X : hf_X} {d k n t : Nat} {T : hf_T} {I : hf_I} {L : hf_L} {P : hf_P} {Q : Option Value → hf_M → Prop} {x3 : Int32} {s0 : Int32} {s1 : Int32} (hs : hf_Lay t T P) (h : hf_G X Y_X8_narrowestColumn (d + 1) k n 22 [some (.ref 136), none, some (.int (if s0 < s1 then s0 else s1)), some (.int (x3 + 2))] [] (t, T, I, L, P) Q) : hf_G X Y_X8_narrowestColumn (d + 1) k n 52 [some (.ref 136), none, none, some (.int x3)] [.int s0, .int s1] (t, T, I, L, P) Q := by
  refine hf_mmin dX8_narrowestColumn_52 hw904 (Nat.le_of_ble_eq_true rfl) ?_
  refine hf_istore_n (l2 := [some (.ref 136), none, some (.int (if s0 < s1 then s0 else s1)), some (.int x3)]) dX8_narrowestColumn_55 rfl (by decide) rfl ?_
  refine hf_iinc (v := (x3 + 2)) (l2 := [some (.ref 136), none, some (.int (if s0 < s1 then s0 else s1)), some (.int (x3 + 2))]) dX8_narrowestColumn_56 (by decide) rfl rfl rfl ?_
  refine hf_goto (tgt := 22) dX8_narrowestColumn_59 (by decide) ?_
  exact h

set_option maxHeartbeats 4000000 in
theorem w_X8_broadestLine_0 {X : hf_X} {d k n t : Nat} {T : hf_T} {I : hf_I} {L : hf_L} {P : hf_P} {Q : Option Value → hf_M → Prop} {x1 : Int32} (hs : hf_Lay t T P) (h : hf_G X Y_X8_broadestLine d k n 7 [some (.ref 136), some (.int x1), some (.int 0), some (.int 0), some (.int 0), none] [] (t, T, I, L, P) Q) : hf_G X Y_X8_broadestLine d k n 0 (hf_en [.ref 136, .int x1] 6) [] (t, T, I, L, P) Q := by
  show hf_G X Y_X8_broadestLine d k n 0 [some (.ref 136), some (.int x1), none, none, none, none] [] (t, T, I, L, P) Q
  refine hf_iconst (v := 0) dX8_broadestLine_0 (by decide) ?_
  refine hf_istore_n (l2 := [some (.ref 136), some (.int x1), some (.int 0), none, none, none]) dX8_broadestLine_1 rfl (by decide) rfl ?_
  refine hf_iconst (v := 0) dX8_broadestLine_2 (by decide) ?_
  refine hf_istore_n (l2 := [some (.ref 136), some (.int x1), some (.int 0), some (.int 0), none, none]) dX8_broadestLine_3 rfl (by decide) rfl ?_
  refine hf_iconst (v := 0) dX8_broadestLine_4 (by decide) ?_
  refine hf_istore (l2 := [some (.ref 136), some (.int x1), some (.int 0), some (.int 0), some (.int 0), none]) dX8_broadestLine_5 (by decide) rfl ?_
  exact h

set_option maxHeartbeats 4000000 in
theorem w_X8_broadestLine_7 {X : hf_X} {d k n t : Nat} {T : hf_T} {I : hf_I} {L : hf_L} {P : hf_P} {Q : Option Value → hf_M → Prop} {x1 : Int32} {x2 : Int32} {x3 : Int32} {x4 : Int32} (hs : hf_Lay t T P) (h : ((I 136 9) ≤ x4 → Q (some (.int x2)) (t, T, I, L, P)) ∧ (¬ ((I 136 9) ≤ x4) → (x4 = 0 → vp_in x4 6 ∧ (hf_G X Y_X8_broadestLine (d + 1) k n 7 [some (.ref 136), some (.int x1), some (.int (if x2 < (I 141 x4.toNatClampNeg) then (I 141 x4.toNatClampNeg) else x2)), some (.int (I 141 x4.toNatClampNeg)), some (.int (x4 + 1)), none] [] (t, T, I, L, P) Q)) ∧ (¬ (x4 = 0) → (¬ ((x1 >>> (x4 &&& 31)) &&& 1) = 1 → vp_in x4 6 ∧ (hf_G X Y_X8_broadestLine (d + 1) k n 7 [some (.ref 136), some (.int x1), some (.int (if x2 < ((x3 + (I 136 10)) + (I 141 x4.toNatClampNeg)) then ((x3 + (I 136 10)) + (I 141 x4.toNatClampNeg)) else x2)), some (.int ((x3 + (I 136 10)) + (I 141 x4.toNatClampNeg))), some (.int (x4 + 1)), none] [] (t, T, I, L, P) Q)) ∧ (((x1 >>> (x4 &&& 31)) &&& 1) = 1 → vp_in x4 6 ∧ (hf_G X Y_X8_broadestLine (d + 1) k n 7 [some (.ref 136), some (.int x1), some (.int (if x2 < (I 141 x4.toNatClampNeg) then (I 141 x4.toNatClampNeg) else x2)), some (.int (I 141 x4.toNatClampNeg)), some (.int (x4 + 1)), none] [] (t, T, I, L, P) Q))))) : hf_G X Y_X8_broadestLine (d + 1) k n 7 [some (.ref 136), some (.int x1), some (.int x2), some (.int x3), some (.int x4), none] [] (t, T, I, L, P) Q := by
  refine hf_iload dX8_broadestLine_7 rfl ?_
  refine hf_aload_n dX8_broadestLine_9 rfl rfl ?_
  refine hf_geti (c := 8) (j := 9) dX8_broadestLine_10 (hs.2.1 136 _ rfl) (hf_lin hs 136 rfl) (by decide) (by decide) hw287 (Or.inl rfl) ?_
  refine hf_icmp_ge (tgt := 80) dX8_broadestLine_13 (by decide) (fun hc => ?_) (fun hc => ?_)
  · replace h := h.1 hc
    refine hf_iload_n dX8_broadestLine_80 rfl rfl ?_
    refine hf_ireturn dX8_broadestLine_81 rfl rfl ?_
    exact h
  · replace h := h.2 hc
    refine hf_iload dX8_broadestLine_16 rfl ?_
    refine hf_if_eq (tgt := 31) dX8_broadestLine_18 (by decide) (fun hc => ?_) (fun hc => ?_)
    · replace h := h.1 hc
      refine hf_iconst (v := 1) dX8_broadestLine_31 (by decide) ?_
      refine hf_goto (tgt := 36) dX8_broadestLine_32 (by decide) ?_
      refine hf_istore (l2 := [some (.ref 136), some (.int x1), some (.int x2), some (.int x3), some (.int x4), some (.int 1)]) dX8_broadestLine_36 (by decide) rfl ?_
      refine hf_iload dX8_broadestLine_38 rfl ?_
      refine hf_if_eq (tgt := 53) dX8_broadestLine_40 (by decide) (fun hc => absurd (show (1 : Int32) = (0 : Int32) from hc) (by decide)) (fun _ => ?_)
      refine hf_aload_n dX8_broadestLine_43 rfl rfl ?_
      refine hf_getr (b := 141) (c := 8) (j := 6) dX8_broadestLine_44 (hs.2.1 136 _ rfl) (hf_lin hs 136 rfl) (by decide) (by decide) hw284 rfl (hs.2.2 136 6 _ rfl) ?_
      refine hf_iload dX8_broadestLine_47 rfl ?_
      refine hf_iald dX8_broadestLine_49 (hs.2.1 141 _ rfl) (hf_lin hs 141 rfl) h.1 ?_
      replace h := h.2
      refine hf_goto (tgt := 67) dX8_broadestLine_50 (by decide) ?_
      refine hf_istore_n (l2 := [some (.ref 136), some (.int x1), some (.int x2), some (.int (I 141 x4.toNatClampNeg)), some (.int x4), some (.int 1)]) dX8_broadestLine_67 rfl (by decide) rfl ?_
      refine hf_iload_n dX8_broadestLine_68 rfl rfl ?_
      refine hf_iload_n dX8_broadestLine_69 rfl rfl ?_
      refine hf_mmax dX8_broadestLine_70 hw897 (Nat.le_of_ble_eq_true rfl) ?_
      refine hf_istore_n (l2 := [some (.ref 136), some (.int x1), some (.int (if x2 < (I 141 x4.toNatClampNeg) then (I 141 x4.toNatClampNeg) else x2)), some (.int (I 141 x4.toNatClampNeg)), some (.int x4), some (.int 1)]) dX8_broadestLine_73 rfl (by decide) rfl ?_
      refine hf_iinc (v := (x4 + 1)) (l2 := [some (.ref 136), some (.int x1), some (.int (if x2 < (I 141 x4.toNatClampNeg) then (I 141 x4.toNatClampNeg) else x2)), some (.int (I 141 x4.toNatClampNeg)), some (.int (x4 + 1)), some (.int 1)]) dX8_broadestLine_74 (by decide) rfl rfl rfl ?_
      refine hf_goto (tgt := 7) dX8_broadestLine_77 (by decide) ?_
      refine hf_drop (l' := [some (.ref 136), some (.int x1), some (.int (if x2 < (I 141 x4.toNatClampNeg) then (I 141 x4.toNatClampNeg) else x2)), some (.int (I 141 x4.toNatClampNeg)), some (.int (x4 + 1)), none]) (by simp [hf_sub]) ?_
      exact h
    · replace h := h.2 hc
      refine hf_iload_n dX8_broadestLine_21 rfl rfl ?_
      refine hf_iload dX8_broadestLine_22 rfl ?_
      refine hf_ishr dX8_broadestLine_24 ?_
      refine hf_iconst (v := 1) dX8_broadestLine_25 (by decide) ?_
      refine hf_iand dX8_broadestLine_26 ?_
      refine hf_iconst (v := 1) dX8_broadestLine_27 (by decide) ?_
      refine hf_icmp_ne (tgt := 35) dX8_broadestLine_28 (by decide) (fun hc => ?_) (fun hc => ?_)
      · replace h := h.1 hc
        refine hf_iconst (v := 0) dX8_broadestLine_35 (by decide) ?_
        refine hf_istore (l2 := [some (.ref 136), some (.int x1), some (.int x2), some (.int x3), some (.int x4), some (.int 0)]) dX8_broadestLine_36 (by decide) rfl ?_
        refine hf_iload dX8_broadestLine_38 rfl ?_
        refine hf_if_eq (tgt := 53) dX8_broadestLine_40 (by decide) (fun _ => ?_) (fun hc => absurd (show (0 : Int32) = (0 : Int32) by decide) hc)
        refine hf_iload_n dX8_broadestLine_53 rfl rfl ?_
        refine hf_aload_n dX8_broadestLine_54 rfl rfl ?_
        refine hf_geti (c := 8) (j := 10) dX8_broadestLine_55 (hs.2.1 136 _ rfl) (hf_lin hs 136 rfl) (by decide) (by decide) hw288 (Or.inl rfl) ?_
        refine hf_iadd dX8_broadestLine_58 ?_
        refine hf_aload_n dX8_broadestLine_59 rfl rfl ?_
        refine hf_getr (b := 141) (c := 8) (j := 6) dX8_broadestLine_60 (hs.2.1 136 _ rfl) (hf_lin hs 136 rfl) (by decide) (by decide) hw284 rfl (hs.2.2 136 6 _ rfl) ?_
        refine hf_iload dX8_broadestLine_63 rfl ?_
        refine hf_iald dX8_broadestLine_65 (hs.2.1 141 _ rfl) (hf_lin hs 141 rfl) h.1 ?_
        replace h := h.2
        refine hf_iadd dX8_broadestLine_66 ?_
        refine hf_istore_n (l2 := [some (.ref 136), some (.int x1), some (.int x2), some (.int ((x3 + (I 136 10)) + (I 141 x4.toNatClampNeg))), some (.int x4), some (.int 0)]) dX8_broadestLine_67 rfl (by decide) rfl ?_
        refine hf_iload_n dX8_broadestLine_68 rfl rfl ?_
        refine hf_iload_n dX8_broadestLine_69 rfl rfl ?_
        refine hf_mmax dX8_broadestLine_70 hw897 (Nat.le_of_ble_eq_true rfl) ?_
        refine hf_istore_n (l2 := [some (.ref 136), some (.int x1), some (.int (if x2 < ((x3 + (I 136 10)) + (I 141 x4.toNatClampNeg)) then ((x3 + (I 136 10)) + (I 141 x4.toNatClampNeg)) else x2)), some (.int ((x3 + (I 136 10)) + (I 141 x4.toNatClampNeg))), some (.int x4), some (.int 0)]) dX8_broadestLine_73 rfl (by decide) rfl ?_
        refine hf_iinc (v := (x4 + 1)) (l2 := [some (.ref 136), some (.int x1), some (.int (if x2 < ((x3 + (I 136 10)) + (I 141 x4.toNatClampNeg)) then ((x3 + (I 136 10)) + (I 141 x4.toNatClampNeg)) else x2)), some (.int ((x3 + (I 136 10)) + (I 141 x4.toNatClampNeg))), some (.int (x4 + 1)), some (.int 0)]) dX8_broadestLine_74 (by decide) rfl rfl rfl ?_
        refine hf_goto (tgt := 7) dX8_broadestLine_77 (by decide) ?_
        refine hf_drop (l' := [some (.ref 136), some (.int x1), some (.int (if x2 < ((x3 + (I 136 10)) + (I 141 x4.toNatClampNeg)) then ((x3 + (I 136 10)) + (I 141 x4.toNatClampNeg)) else x2)), some (.int ((x3 + (I 136 10)) + (I 141 x4.toNatClampNeg))), some (.int (x4 + 1)), none]) (by simp [hf_sub]) ?_
        exact h
      · replace h := h.2 hc
        refine hf_iconst (v := 1) dX8_broadestLine_31 (by decide) ?_
        refine hf_goto (tgt := 36) dX8_broadestLine_32 (by decide) ?_
        refine hf_istore (l2 := [some (.ref 136), some (.int x1), some (.int x2), some (.int x3), some (.int x4), some (.int 1)]) dX8_broadestLine_36 (by decide) rfl ?_
        refine hf_iload dX8_broadestLine_38 rfl ?_
        refine hf_if_eq (tgt := 53) dX8_broadestLine_40 (by decide) (fun hc => absurd (show (1 : Int32) = (0 : Int32) from hc) (by decide)) (fun _ => ?_)
        refine hf_aload_n dX8_broadestLine_43 rfl rfl ?_
        refine hf_getr (b := 141) (c := 8) (j := 6) dX8_broadestLine_44 (hs.2.1 136 _ rfl) (hf_lin hs 136 rfl) (by decide) (by decide) hw284 rfl (hs.2.2 136 6 _ rfl) ?_
        refine hf_iload dX8_broadestLine_47 rfl ?_
        refine hf_iald dX8_broadestLine_49 (hs.2.1 141 _ rfl) (hf_lin hs 141 rfl) h.1 ?_
        replace h := h.2
        refine hf_goto (tgt := 67) dX8_broadestLine_50 (by decide) ?_
        refine hf_istore_n (l2 := [some (.ref 136), some (.int x1), some (.int x2), some (.int (I 141 x4.toNatClampNeg)), some (.int x4), some (.int 1)]) dX8_broadestLine_67 rfl (by decide) rfl ?_
        refine hf_iload_n dX8_broadestLine_68 rfl rfl ?_
        refine hf_iload_n dX8_broadestLine_69 rfl rfl ?_
        refine hf_mmax dX8_broadestLine_70 hw897 (Nat.le_of_ble_eq_true rfl) ?_
        refine hf_istore_n (l2 := [some (.ref 136), some (.int x1), some (.int (if x2 < (I 141 x4.toNatClampNeg) then (I 141 x4.toNatClampNeg) else x2)), some (.int (I 141 x4.toNatClampNeg)), some (.int x4), some (.int 1)]) dX8_broadestLine_73 rfl (by decide) rfl ?_
        refine hf_iinc (v := (x4 + 1)) (l2 := [some (.ref 136), some (.int x1), some (.int (if x2 < (I 141 x4.toNatClampNeg) then (I 141 x4.toNatClampNeg) else x2)), some (.int (I 141 x4.toNatClampNeg)), some (.int (x4 + 1)), some (.int 1)]) dX8_broadestLine_74 (by decide) rfl rfl rfl ?_
        refine hf_goto (tgt := 7) dX8_broadestLine_77 (by decide) ?_
        refine hf_drop (l' := [some (.ref 136), some (.int x1), some (.int (if x2 < (I 141 x4.toNatClampNeg) then (I 141 x4.toNatClampNeg) else x2)), some (.int (I 141 x4.toNatClampNeg)), some (.int (x4 + 1)), none]) (by simp [hf_sub]) ?_
        exact h

set_option maxHeartbeats 4000000 in
theorem w_X8_mostWorth_0 {X : hf_X} {d k n t : Nat} {T : hf_T} {I : hf_I} {L : hf_L} {P : hf_P} {Q : Option Value → hf_M → Prop} {x1 : Int32} (hs : hf_Lay t T P) (h : hf_G X Y_X8_prepare d 0 0 0 (hf_en [.ref 136, .int (I 101 14)] 4) [] (t, T, I, L, P) (fun r M => hf_G X Y_X8_mostWorth (d + 1) k n 11 [some (.ref 136), some (.int x1), none, none, none] (r.toList ++ []) M Q)) : hf_G X Y_X8_mostWorth (d + 1) k n 0 (hf_en [.ref 136, .int x1] 5) [] (t, T, I, L, P) Q := by
  show hf_G X Y_X8_mostWorth (d + 1) k n 0 [some (.ref 136), some (.int x1), none, none, none] [] (t, T, I, L, P) Q
  refine hf_aload_n dX8_mostWorth_0 rfl rfl ?_
  refine hf_aload_n dX8_mostWorth_1 rfl rfl ?_
  refine hf_getr (b := 101) (c := 8) (j := 0) dX8_mostWorth_2 (hs.2.1 136 _ rfl) (hf_lin hs 136 rfl) (by decide) (by decide) hw278 rfl (hs.2.2 136 0 _ rfl) ?_
  refine hf_geti (c := 1) (j := 14) dX8_mostWorth_5 (hs.2.1 101 _ rfl) (hf_lin hs 101 rfl) (by decide) (by decide) hw144 (Or.inl rfl) ?_
  exact hf_callV (c := 8) (as := [.int (I 101 14)]) ok_X8_prepare dX8_mostWorth_8 hw812 hw813 hw1586 (hs.2.1 136 _ rfl) (by decide) (hf_lin hs 136 rfl) rfl (Nat.le_of_ble_eq_true rfl) rfl (Nat.le_of_ble_eq_true rfl) (Nat.zero_le _) (Nat.zero_le _) h

set_option maxHeartbeats 4000000 in
theorem w_X8_mostWorth_11 {X : hf_X} {d k n t : Nat} {T : hf_T} {I : hf_I} {L : hf_L} {P : hf_P} {Q : Option Value → hf_M → Prop} {x1 : Int32} (hs : hf_Lay t T P) (h : hf_G X Y_X8_mostWorth d k n 15 [some (.ref 136), some (.int x1), some (.int 0), some (.int 1), none] [] (t, T, I, L, P) Q) : hf_G X Y_X8_mostWorth d k n 11 [some (.ref 136), some (.int x1), none, none, none] [] (t, T, I, L, P) Q := by
  refine hf_iconst (v := 0) dX8_mostWorth_11 (by decide) ?_
  refine hf_istore_n (l2 := [some (.ref 136), some (.int x1), some (.int 0), none, none]) dX8_mostWorth_12 rfl (by decide) rfl ?_
  refine hf_iconst (v := 1) dX8_mostWorth_13 (by decide) ?_
  refine hf_istore_n (l2 := [some (.ref 136), some (.int x1), some (.int 0), some (.int 1), none]) dX8_mostWorth_14 rfl (by decide) rfl ?_
  exact h

set_option maxHeartbeats 4000000 in
theorem w_X8_mostWorth_15 {X : hf_X} {d k n t : Nat} {T : hf_T} {I : hf_I} {L : hf_L} {P : hf_P} {Q : Option Value → hf_M → Prop} {x1 : Int32} {x2 : Int32} {x3 : Int32} (hs : hf_Lay t T P) (h : ((1 <<< ((I 136 9) &&& 31)) ≤ x3 → Q (some (.int x2)) (t, T, I, L, P)) ∧ (¬ ((1 <<< ((I 136 9) &&& 31)) ≤ x3) → hf_G X Y_X8_widthOf d 0 0 0 (hf_en [.ref 136, .int x3] 4) [] (t, T, I, L, P) (fun r M => hf_G X Y_X8_mostWorth (d + 1) k n 30 [some (.ref 136), some (.int x1), some (.int x2), some (.int x3), none] (r.toList ++ []) M Q))) : hf_G X Y_X8_mostWorth (d + 1) k n 15 [some (.ref 136), some (.int x1), some (.int x2), some (.int x3), none] [] (t, T, I, L, P) Q := by
  refine hf_iload_n dX8_mostWorth_15 rfl rfl ?_
  refine hf_iconst (v := 1) dX8_mostWorth_16 (by decide) ?_
  refine hf_aload_n dX8_mostWorth_17 rfl rfl ?_
  refine hf_geti (c := 8) (j := 9) dX8_mostWorth_18 (hs.2.1 136 _ rfl) (hf_lin hs 136 rfl) (by decide) (by decide) hw287 (Or.inl rfl) ?_
  refine hf_ishl dX8_mostWorth_21 ?_
  refine hf_icmp_ge (tgt := 65) dX8_mostWorth_22 (by decide) (fun hc => ?_) (fun hc => ?_)
  · replace h := h.1 hc
    refine hf_iload_n dX8_mostWorth_65 rfl rfl ?_
    refine hf_ireturn dX8_mostWorth_66 rfl rfl ?_
    exact h
  · replace h := h.2 hc
    refine hf_aload_n dX8_mostWorth_25 rfl rfl ?_
    refine hf_iload_n dX8_mostWorth_26 rfl rfl ?_
    exact hf_callV (c := 8) (as := [.int x3]) ok_X8_widthOf dX8_mostWorth_27 hw932 hw933 hw934 (hs.2.1 136 _ rfl) (by decide) (hf_lin hs 136 rfl) rfl (Nat.le_of_ble_eq_true rfl) rfl (Nat.le_of_ble_eq_true rfl) (Nat.zero_le _) (Nat.zero_le _) h

set_option maxHeartbeats 4000000 in
theorem w_X8_mostWorth_30 {X : hf_X} {d k n t : Nat} {T : hf_T} {I : hf_I} {L : hf_L} {P : hf_P} {Q : Option Value → hf_M → Prop} {x1 : Int32} {x2 : Int32} {x3 : Int32} {s0 : Int32} (hs : hf_Lay t T P) (h : (s0 = (-1) → hf_G X Y_X8_mostWorth (d + 1) k n 15 [some (.ref 136), some (.int x1), some (.int x2), some (.int (x3 + 1)), none] [] (t, T, I, L, P) Q) ∧ (¬ (s0 = (-1)) → (x1 < s0 → hf_G X Y_X8_mostWorth (d + 1) k n 15 [some (.ref 136), some (.int x1), some (.int x2), some (.int (x3 + 1)), none] [] (t, T, I, L, P) Q) ∧ (¬ (x1 < s0) → hf_G X Y_X8_worthOf d 0 0 0 (hf_en [.ref 136, .int x3] 4) [] (t, T, I, L, P) (fun r M => hf_G X Y_X8_mostWorth (d + 1) k n 49 [some (.ref 136), some (.int x1), some (.int x2), some (.int x3), none] (r.toList ++ []) M Q)))) : hf_G X Y_X8_mostWorth (d + 1) k n 30 [some (.ref 136), some (.int x1), some (.int x2), some (.int x3), none] [.int s0] (t, T, I, L, P) Q := by
  refine hf_istore (l2 := [some (.ref 136), some (.int x1), some (.int x2), some (.int x3), some (.int s0)]) dX8_mostWorth_30 (by decide) rfl ?_
  refine hf_iload dX8_mostWorth_32 rfl ?_
  refine hf_iconst (v := (-1)) dX8_mostWorth_34 (by decide) ?_
  refine hf_icmp_eq (tgt := 59) dX8_mostWorth_35 (by decide) (fun hc => ?_) (fun hc => ?_)
  · replace h := h.1 hc
    refine hf_iinc (v := (x3 + 1)) (l2 := [some (.ref 136), some (.int x1), some (.int x2), some (.int (x3 + 1)), some (.int s0)]) dX8_mostWorth_59 (by decide) rfl rfl rfl ?_
    refine hf_goto (tgt := 15) dX8_mostWorth_62 (by decide) ?_
    refine hf_drop (l' := [some (.ref 136), some (.int x1), some (.int x2), some (.int (x3 + 1)), none]) (by simp [hf_sub]) ?_
    exact h
  · replace h := h.2 hc
    refine hf_iload dX8_mostWorth_38 rfl ?_
    refine hf_iload_n dX8_mostWorth_40 rfl rfl ?_
    refine hf_icmp_gt (tgt := 59) dX8_mostWorth_41 (by decide) (fun hc => ?_) (fun hc => ?_)
    · replace h := h.1 hc
      refine hf_iinc (v := (x3 + 1)) (l2 := [some (.ref 136), some (.int x1), some (.int x2), some (.int (x3 + 1)), some (.int s0)]) dX8_mostWorth_59 (by decide) rfl rfl rfl ?_
      refine hf_goto (tgt := 15) dX8_mostWorth_62 (by decide) ?_
      refine hf_drop (l' := [some (.ref 136), some (.int x1), some (.int x2), some (.int (x3 + 1)), none]) (by simp [hf_sub]) ?_
      exact h
    · replace h := h.2 hc
      refine hf_aload_n dX8_mostWorth_44 rfl rfl ?_
      refine hf_iload_n dX8_mostWorth_45 rfl rfl ?_
      exact hf_callV (c := 8) (as := [.int x3]) ok_X8_worthOf dX8_mostWorth_46 hw936 hw937 hw938 (hs.2.1 136 _ rfl) (by decide) (hf_lin hs 136 rfl) rfl (Nat.le_of_ble_eq_true rfl) rfl (Nat.le_of_ble_eq_true rfl) (Nat.zero_le _) (Nat.zero_le _) (hf_mono (fun r M q => hf_drop (l' := [some (.ref 136), some (.int x1), some (.int x2), some (.int x3), none]) (by simp [hf_sub]) q) h)

set_option maxHeartbeats 4000000 in
theorem w_X8_mostWorth_49 {X : hf_X} {d k n t : Nat} {T : hf_T} {I : hf_I} {L : hf_L} {P : hf_P} {Q : Option Value → hf_M → Prop} {x1 : Int32} {x2 : Int32} {x3 : Int32} {s0 : Int32} (hs : hf_Lay t T P) (h : hf_G X Y_X8_worthOf d 0 0 0 (hf_en [.ref 136, .int x2] 4) [] (t, T, I, L, P) (fun r M => hf_G X Y_X8_mostWorth (d + 1) k n 54 [some (.ref 136), some (.int x1), some (.int x2), some (.int x3), none] (r.toList ++ [.int s0]) M Q)) : hf_G X Y_X8_mostWorth (d + 1) k n 49 [some (.ref 136), some (.int x1), some (.int x2), some (.int x3), none] [.int s0] (t, T, I, L, P) Q := by
  refine hf_aload_n dX8_mostWorth_49 rfl rfl ?_
  refine hf_iload_n dX8_mostWorth_50 rfl rfl ?_
  exact hf_callV (c := 8) (as := [.int x2]) ok_X8_worthOf dX8_mostWorth_51 hw936 hw937 hw938 (hs.2.1 136 _ rfl) (by decide) (hf_lin hs 136 rfl) rfl (Nat.le_of_ble_eq_true rfl) rfl (Nat.le_of_ble_eq_true rfl) (Nat.zero_le _) (Nat.zero_le _) h

set_option maxHeartbeats 4000000 in
theorem w_X8_mostWorth_54 {X : hf_X} {d k n t : Nat} {T : hf_T} {I : hf_I} {L : hf_L} {P : hf_P} {Q : Option Value → hf_M → Prop} {x1 : Int32} {x2 : Int32} {x3 : Int32} {s0 : Int32} {s1 : Int32} (hs : hf_Lay t T P) (h : (s1 ≤ s0 → hf_G X Y_X8_mostWorth d k n 15 [some (.ref 136), some (.int x1), some (.int x2), some (.int (x3 + 1)), none] [] (t, T, I, L, P) Q) ∧ (¬ (s1 ≤ s0) → hf_G X Y_X8_mostWorth d k n 15 [some (.ref 136), some (.int x1), some (.int x3), some (.int (x3 + 1)), none] [] (t, T, I, L, P) Q)) : hf_G X Y_X8_mostWorth d k n 54 [some (.ref 136), some (.int x1), some (.int x2), some (.int x3), none] [.int s0, .int s1] (t, T, I, L, P) Q := by
  refine hf_icmp_le (tgt := 59) dX8_mostWorth_54 (by decide) (fun hc => ?_) (fun hc => ?_)
  · replace h := h.1 hc
    refine hf_iinc (v := (x3 + 1)) (l2 := [some (.ref 136), some (.int x1), some (.int x2), some (.int (x3 + 1)), none]) dX8_mostWorth_59 (by decide) rfl rfl rfl ?_
    refine hf_goto (tgt := 15) dX8_mostWorth_62 (by decide) ?_
    exact h
  · replace h := h.2 hc
    refine hf_iload_n dX8_mostWorth_57 rfl rfl ?_
    refine hf_istore_n (l2 := [some (.ref 136), some (.int x1), some (.int x3), some (.int x3), none]) dX8_mostWorth_58 rfl (by decide) rfl ?_
    refine hf_iinc (v := (x3 + 1)) (l2 := [some (.ref 136), some (.int x1), some (.int x3), some (.int (x3 + 1)), none]) dX8_mostWorth_59 (by decide) rfl rfl rfl ?_
    refine hf_goto (tgt := 15) dX8_mostWorth_62 (by decide) ?_
    exact h

set_option maxHeartbeats 4000000 in
theorem w_X8_worthOf_0 {X : hf_X} {d k n t : Nat} {T : hf_T} {I : hf_I} {L : hf_L} {P : hf_P} {Q : Option Value → hf_M → Prop} {x1 : Int32} (hs : hf_Lay t T P) (h : hf_G X Y_X8_worthOf d k n 4 [some (.ref 136), some (.int x1), some (.int 0), some (.int 0)] [] (t, T, I, L, P) Q) : hf_G X Y_X8_worthOf d k n 0 (hf_en [.ref 136, .int x1] 4) [] (t, T, I, L, P) Q := by
  show hf_G X Y_X8_worthOf d k n 0 [some (.ref 136), some (.int x1), none, none] [] (t, T, I, L, P) Q
  refine hf_iconst (v := 0) dX8_worthOf_0 (by decide) ?_
  refine hf_istore_n (l2 := [some (.ref 136), some (.int x1), some (.int 0), none]) dX8_worthOf_1 rfl (by decide) rfl ?_
  refine hf_iconst (v := 0) dX8_worthOf_2 (by decide) ?_
  refine hf_istore_n (l2 := [some (.ref 136), some (.int x1), some (.int 0), some (.int 0)]) dX8_worthOf_3 rfl (by decide) rfl ?_
  exact h

set_option maxHeartbeats 4000000 in
theorem w_X8_worthOf_4 {X : hf_X} {d k n t : Nat} {T : hf_T} {I : hf_I} {L : hf_L} {P : hf_P} {Q : Option Value → hf_M → Prop} {x1 : Int32} {x2 : Int32} {x3 : Int32} (hs : hf_Lay t T P) (h : ((I 136 9) ≤ x3 → Q (some (.int x2)) (t, T, I, L, P)) ∧ (¬ ((I 136 9) ≤ x3) → (¬ ((x1 >>> (x3 &&& 31)) &&& 1) = 1 → hf_G X Y_X8_worthOf d k n 4 [some (.ref 136), some (.int x1), some (.int x2), some (.int (x3 + 1))] [] (t, T, I, L, P) Q) ∧ (((x1 >>> (x3 &&& 31)) &&& 1) = 1 → vp_in x3 6 ∧ (vp_in (I 112 x3.toNatClampNeg) 8 ∧ (hf_G X Y_X8_worthOf d k n 4 [some (.ref 136), some (.int x1), some (.int (x2 + (I 103 (((I 112 x3.toNatClampNeg)).toNatClampNeg)))), some (.int (x3 + 1))] [] (t, T, I, L, P) Q))))) : hf_G X Y_X8_worthOf d k n 4 [some (.ref 136), some (.int x1), some (.int x2), some (.int x3)] [] (t, T, I, L, P) Q := by
  refine hf_iload_n dX8_worthOf_4 rfl rfl ?_
  refine hf_aload_n dX8_worthOf_5 rfl rfl ?_
  refine hf_geti (c := 8) (j := 9) dX8_worthOf_6 (hs.2.1 136 _ rfl) (hf_lin hs 136 rfl) (by decide) (by decide) hw287 (Or.inl rfl) ?_
  refine hf_icmp_ge (tgt := 47) dX8_worthOf_9 (by decide) (fun hc => ?_) (fun hc => ?_)
  · replace h := h.1 hc
    refine hf_iload_n dX8_worthOf_47 rfl rfl ?_
    refine hf_ireturn dX8_worthOf_48 rfl rfl ?_
    exact h
  · replace h := h.2 hc
    refine hf_iload_n dX8_worthOf_12 rfl rfl ?_
    refine hf_iload_n dX8_worthOf_13 rfl rfl ?_
    refine hf_ishr dX8_worthOf_14 ?_
    refine hf_iconst (v := 1) dX8_worthOf_15 (by decide) ?_
    refine hf_iand dX8_worthOf_16 ?_
    refine hf_iconst (v := 1) dX8_worthOf_17 (by decide) ?_
    refine hf_icmp_ne (tgt := 41) dX8_worthOf_18 (by decide) (fun hc => ?_) (fun hc => ?_)
    · replace h := h.1 hc
      refine hf_iinc (v := (x3 + 1)) (l2 := [some (.ref 136), some (.int x1), some (.int x2), some (.int (x3 + 1))]) dX8_worthOf_41 (by decide) rfl rfl rfl ?_
      refine hf_goto (tgt := 4) dX8_worthOf_44 (by decide) ?_
      exact h
    · replace h := h.2 hc
      refine hf_iload_n dX8_worthOf_21 rfl rfl ?_
      refine hf_aload_n dX8_worthOf_22 rfl rfl ?_
      refine hf_getr (b := 101) (c := 8) (j := 0) dX8_worthOf_23 (hs.2.1 136 _ rfl) (hf_lin hs 136 rfl) (by decide) (by decide) hw278 rfl (hs.2.2 136 0 _ rfl) ?_
      refine hf_getr (b := 103) (c := 1) (j := 1) dX8_worthOf_26 (hs.2.1 101 _ rfl) (hf_lin hs 101 rfl) (by decide) (by decide) hw103 rfl (hs.2.2 101 1 _ rfl) ?_
      refine hf_aload_n dX8_worthOf_29 rfl rfl ?_
      refine hf_getr (b := 101) (c := 8) (j := 0) dX8_worthOf_30 (hs.2.1 136 _ rfl) (hf_lin hs 136 rfl) (by decide) (by decide) hw278 rfl (hs.2.2 136 0 _ rfl) ?_
      refine hf_getr (b := 112) (c := 1) (j := 5) dX8_worthOf_33 (hs.2.1 101 _ rfl) (hf_lin hs 101 rfl) (by decide) (by decide) hw116 rfl (hs.2.2 101 5 _ rfl) ?_
      refine hf_iload_n dX8_worthOf_36 rfl rfl ?_
      refine hf_iald dX8_worthOf_37 (hs.2.1 112 _ rfl) (hf_lin hs 112 rfl) h.1 ?_
      replace h := h.2
      refine hf_iald dX8_worthOf_38 (hs.2.1 103 _ rfl) (hf_lin hs 103 rfl) h.1 ?_
      replace h := h.2
      refine hf_iadd dX8_worthOf_39 ?_
      refine hf_istore_n (l2 := [some (.ref 136), some (.int x1), some (.int (x2 + (I 103 (((I 112 x3.toNatClampNeg)).toNatClampNeg)))), some (.int x3)]) dX8_worthOf_40 rfl (by decide) rfl ?_
      refine hf_iinc (v := (x3 + 1)) (l2 := [some (.ref 136), some (.int x1), some (.int (x2 + (I 103 (((I 112 x3.toNatClampNeg)).toNatClampNeg)))), some (.int (x3 + 1))]) dX8_worthOf_41 (by decide) rfl rfl rfl ?_
      refine hf_goto (tgt := 4) dX8_worthOf_44 (by decide) ?_
      exact h
