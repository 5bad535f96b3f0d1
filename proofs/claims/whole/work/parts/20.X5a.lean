set_option maxHeartbeats 4000000 in
theorem w_X5_reads_0 {X : hf_X} {d k n t : Nat} {T : hf_T} {I : hf_I} {L : hf_L} {P : hf_P} {Q : Option Value → hf_M → Prop} {x2 : Int32} {x3 : Int32} (hs : hf_Lay t T P) (h : (x3 = 0 ∨ x3 = 1) ∧ (hf_G X Y_X5_reads (d + 1) k n 54 [some (.ref 123), none, none, none, some (.int 0)] [] (t, T, (hf_up (hf_up (hf_up (hf_up (hf_up (hf_up (hf_up I 123 3 (if 400 < x2 then 400 else x2)) 123 4 x3) 123 5 0) 123 8 0) 123 1 (-1)) 124 6 0) 124 7 0), L, (hf_upP P 123 2 (some 122))) Q)) : hf_G X Y_X5_reads (d + 1) k n 0 (hf_en [.ref 123, .ref 122, .int x2, .int x3] 5) [] (t, T, I, L, P) Q := by
  show hf_G X Y_X5_reads (d + 1) k n 0 [some (.ref 123), some (.ref 122), some (.int x2), some (.int x3), none] [] (t, T, I, L, P) Q
  refine hf_aload_n dX5_reads_0 rfl rfl ?_
  refine hf_aload_n dX5_reads_1 rfl rfl ?_
  refine hf_putr (c := 5) (j := 2) dX5_reads_2 (hs.2.1 123 _ rfl) (hf_lin hs 123 rfl) (by decide) (by decide) hw230 (Or.inl rfl) rfl ?_
  refine hf_aload_n dX5_reads_5 rfl rfl ?_
  refine hf_iload_n dX5_reads_6 rfl rfl ?_
  refine hf_aload_n dX5_reads_7 rfl rfl ?_
  refine hf_alen dX5_reads_8 (hs.2.1 122 _ rfl) (by decide) (hf_lin hs 122 rfl) ?_
  refine hf_mmin dX5_reads_9 hw548 (Nat.le_of_ble_eq_true rfl) ?_
  refine hf_puti (c := 5) (j := 3) dX5_reads_12 (hs.2.1 123 _ rfl) (hf_lin hs 123 rfl) (by decide) (by decide) hw231 rfl rfl ?_
  refine hf_aload_n dX5_reads_15 rfl rfl ?_
  refine hf_iload_n dX5_reads_16 rfl rfl ?_
  refine hf_putz (c := 5) (j := 4) dX5_reads_17 (hs.2.1 123 _ rfl) (hf_lin hs 123 rfl) (by decide) (by decide) hw232 rfl rfl h.1 ?_
  replace h := h.2
  refine hf_aload_n dX5_reads_20 rfl rfl ?_
  refine hf_iconst (v := 0) dX5_reads_21 (by decide) ?_
  refine hf_puti (c := 5) (j := 5) dX5_reads_22 (hs.2.1 123 _ rfl) (hf_lin hs 123 rfl) (by decide) (by decide) hw233 rfl rfl ?_
  refine hf_aload_n dX5_reads_25 rfl rfl ?_
  refine hf_iconst (v := 0) dX5_reads_26 (by decide) ?_
  refine hf_puti (c := 5) (j := 8) dX5_reads_27 (hs.2.1 123 _ rfl) (hf_lin hs 123 rfl) (by decide) (by decide) hw236 rfl rfl ?_
  refine hf_aload_n dX5_reads_30 rfl rfl ?_
  refine hf_iconst (v := (-1)) dX5_reads_31 (by decide) ?_
  refine hf_puti (c := 5) (j := 1) dX5_reads_32 (hs.2.1 123 _ rfl) (hf_lin hs 123 rfl) (by decide) (by decide) hw228 rfl rfl ?_
  refine hf_aload_n dX5_reads_35 rfl rfl ?_
  refine hf_getr (b := 124) (c := 5) (j := 0) dX5_reads_36 (hs.2.1 123 _ rfl) (hf_lin hs 123 rfl) (by decide) (by decide) hw226 rfl (hs.2.2 123 0 _ rfl) ?_
  refine hf_iconst (v := 0) dX5_reads_39 (by decide) ?_
  refine hf_puti (c := 9) (j := 6) dX5_reads_40 (hs.2.1 124 _ rfl) (hf_lin hs 124 rfl) (by decide) (by decide) hw213 rfl rfl ?_
  refine hf_aload_n dX5_reads_43 rfl rfl ?_
  refine hf_getr (b := 124) (c := 5) (j := 0) dX5_reads_44 (hs.2.1 123 _ rfl) (hf_lin hs 123 rfl) (by decide) (by decide) hw226 rfl (hs.2.2 123 0 _ rfl) ?_
  refine hf_iconst (v := 0) dX5_reads_47 (by decide) ?_
  refine hf_puti (c := 9) (j := 7) dX5_reads_48 (hs.2.1 124 _ rfl) (hf_lin hs 124 rfl) (by decide) (by decide) hw215 rfl rfl ?_
  refine hf_iconst (v := 0) dX5_reads_51 (by decide) ?_
  refine hf_istore (l2 := [some (.ref 123), some (.ref 122), some (.int x2), some (.int x3), some (.int 0)]) dX5_reads_52 (by decide) rfl ?_
  refine hf_drop (l' := [some (.ref 123), none, none, none, some (.int 0)]) (by simp [hf_sub]) ?_
  exact h

set_option maxHeartbeats 4000000 in
theorem w_X5_reads_54 {X : hf_X} {d k n t : Nat} {T : hf_T} {I : hf_I} {L : hf_L} {P : hf_P} {Q : Option Value → hf_M → Prop} {x4 : Int32} (hs : hf_Lay t T P) (h : (12 ≤ x4 → hf_G X Y_X5_advance d 0 0 0 (hf_en [.ref 123] 2) [] (t, T, I, L, P) (fun r M => hf_G X Y_X5_reads (d + 1) k n 107 [some (.ref 123), none, none, none, none] (r.toList ++ []) M Q)) ∧ (¬ (12 ≤ x4) → hf_G X Y_X5_advance d 0 0 0 (hf_en [.ref 123] 2) [] (t, T, I, L, P) (fun r M => hf_G X Y_X5_reads (d + 1) k n 65 [some (.ref 123), none, none, none, some (.int x4)] (r.toList ++ []) M Q))) : hf_G X Y_X5_reads (d + 1) k n 54 [some (.ref 123), none, none, none, some (.int x4)] [] (t, T, I, L, P) Q := by
  refine hf_iload dX5_reads_54 rfl ?_
  refine hf_bipush (v := 12) dX5_reads_56 (by decide) ?_
  refine hf_icmp_ge (tgt := 103) dX5_reads_58 (by decide) (fun hc => ?_) (fun hc => ?_)
  · replace h := h.1 hc
    refine hf_aload_n dX5_reads_103 rfl rfl ?_
    exact hf_callV (c := 5) (as := []) ok_X5_advance dX5_reads_104 hw549 hw550 hw1563 (hs.2.1 123 _ rfl) (by decide) (hf_lin hs 123 rfl) rfl (Nat.le_of_ble_eq_true rfl) rfl (Nat.le_of_ble_eq_true rfl) (Nat.zero_le _) (Nat.zero_le _) (hf_mono (fun r M q => hf_drop (l' := [some (.ref 123), none, none, none, none]) (by simp [hf_sub]) q) h)
  · replace h := h.2 hc
    refine hf_aload_n dX5_reads_61 rfl rfl ?_
    exact hf_callV (c := 5) (as := []) ok_X5_advance dX5_reads_62 hw549 hw550 hw1563 (hs.2.1 123 _ rfl) (by decide) (hf_lin hs 123 rfl) rfl (Nat.le_of_ble_eq_true rfl) rfl (Nat.le_of_ble_eq_true rfl) (Nat.zero_le _) (Nat.zero_le _) h

set_option maxHeartbeats 4000000 in
theorem w_X5_reads_107 {X : hf_X} {d k n t : Nat} {T : hf_T} {I : hf_I} {L : hf_L} {P : hf_P} {Q : Option Value → hf_M → Prop}  (hs : hf_Lay t T P) (h : Q (some (.int 0)) (t, T, (hf_up I 123 1 (I 123 7)), L, P)) : hf_G X Y_X5_reads (d + 1) k n 107 [some (.ref 123), none, none, none, none] [] (t, T, I, L, P) Q := by
  refine hf_aload_n dX5_reads_107 rfl rfl ?_
  refine hf_callV (c := 5) (as := []) ok_X5_fails dX5_reads_108 hw607 hw608 hw1568 (hs.2.1 123 _ rfl) (by decide) (hf_lin hs 123 rfl) rfl (Nat.le_of_ble_eq_true rfl) rfl (Nat.le_of_ble_eq_true rfl) (Nat.zero_le _) (Nat.zero_le _) ?_
  show hf_G X Y_X5_fails d _ _ 0 [some (.ref 123)] [] (t, T, I, L, P) _
  refine hf_aload_n dX5_fails_0 rfl rfl ?_
  refine hf_aload_n dX5_fails_1 rfl rfl ?_
  refine hf_geti (c := 5) (j := 7) dX5_fails_2 (hs.2.1 123 _ rfl) (hf_lin hs 123 rfl) (by decide) (by decide) hw235 (Or.inl rfl) ?_
  refine hf_puti (c := 5) (j := 1) dX5_fails_5 (hs.2.1 123 _ rfl) (hf_lin hs 123 rfl) (by decide) (by decide) hw228 rfl rfl ?_
  refine hf_iconst (v := 0) dX5_fails_8 (by decide) ?_
  refine hf_ireturn dX5_fails_9 rfl (by decide) ?_
  show hf_G X Y_X5_reads (d + 1) _ _ 111 [some (.ref 123), none, none, none, none] [.int 0] (t, T, (hf_up I 123 1 (I 123 7)), L, P) _
  refine hf_ireturn dX5_reads_111 rfl (by decide) ?_
  exact h

set_option maxHeartbeats 4000000 in
theorem w_X5_reads_65 {X : hf_X} {d k n t : Nat} {T : hf_T} {I : hf_I} {L : hf_L} {P : hf_P} {Q : Option Value → hf_M → Prop} {x4 : Int32} (hs : hf_Lay t T P) (h : hf_G X Y_X5_readClause d 0 0 0 (hf_en [.ref 123] 6) [] (t, T, I, L, P) (fun r M => hf_G X Y_X5_reads (d + 1) k n 69 [some (.ref 123), none, none, none, some (.int x4)] (r.toList ++ []) M Q)) : hf_G X Y_X5_reads (d + 1) k n 65 [some (.ref 123), none, none, none, some (.int x4)] [] (t, T, I, L, P) Q := by
  refine hf_aload_n dX5_reads_65 rfl rfl ?_
  exact hf_callV (c := 5) (as := []) ok_X5_readClause dX5_reads_66 hw555 hw556 hw1565 (hs.2.1 123 _ rfl) (by decide) (hf_lin hs 123 rfl) rfl (Nat.le_of_ble_eq_true rfl) rfl (Nat.le_of_ble_eq_true rfl) (Nat.zero_le _) (Nat.zero_le _) h

set_option maxHeartbeats 4000000 in
theorem w_X5_reads_69 {X : hf_X} {d k n t : Nat} {T : hf_T} {I : hf_I} {L : hf_L} {P : hf_P} {Q : Option Value → hf_M → Prop} {x4 : Int32} {s0 : Int32} (hs : hf_Lay t T P) (h : (¬ s0 = 0 → (¬ (I 123 6) = 0 → hf_G X Y_X5_isSign d 0 0 0 (hf_en [.ref 123, .int 59] 2) [] (t, T, I, L, P) (fun r M => hf_G X Y_X5_reads (d + 1) k n 89 [some (.ref 123), none, none, none, some (.int x4)] (r.toList ++ []) M Q)) ∧ ((I 123 6) = 0 → Q (some (.int 1)) (t, T, I, L, P))) ∧ (s0 = 0 → Q (some (.int 0)) (t, T, I, L, P))) : hf_G X Y_X5_reads (d + 1) k n 69 [some (.ref 123), none, none, none, some (.int x4)] [.int s0] (t, T, I, L, P) Q := by
  refine hf_if_ne (tgt := 74) dX5_reads_69 (by decide) (fun hc => ?_) (fun hc => ?_)
  · replace h := h.1 hc
    refine hf_aload_n dX5_reads_74 rfl rfl ?_
    refine hf_geti (c := 5) (j := 6) dX5_reads_75 (hs.2.1 123 _ rfl) (hf_lin hs 123 rfl) (by decide) (by decide) hw234 (Or.inl rfl) ?_
    refine hf_if_ne (tgt := 83) dX5_reads_78 (by decide) (fun hc => ?_) (fun hc => ?_)
    · replace h := h.1 hc
      refine hf_aload_n dX5_reads_83 rfl rfl ?_
      refine hf_bipush (v := 59) dX5_reads_84 (by decide) ?_
      exact hf_callV (c := 5) (as := [.int 59]) ok_X5_isSign dX5_reads_86 hw619 hw620 hw1572 (hs.2.1 123 _ rfl) (by decide) (hf_lin hs 123 rfl) rfl (Nat.le_of_ble_eq_true rfl) rfl (Nat.le_of_ble_eq_true rfl) (Nat.zero_le _) (Nat.zero_le _) h
    · replace h := h.2 hc
      refine hf_iconst (v := 1) dX5_reads_81 (by decide) ?_
      refine hf_ireturn dX5_reads_82 rfl (by decide) ?_
      exact h
  · replace h := h.2 hc
    refine hf_iconst (v := 0) dX5_reads_72 (by decide) ?_
    refine hf_ireturn dX5_reads_73 rfl (by decide) ?_
    exact h

set_option maxHeartbeats 4000000 in
theorem w_X5_reads_89 {X : hf_X} {d k n t : Nat} {T : hf_T} {I : hf_I} {L : hf_L} {P : hf_P} {Q : Option Value → hf_M → Prop} {x4 : Int32} {s0 : Int32} (hs : hf_Lay t T P) (h : (¬ s0 = 0 → hf_G X Y_X5_reads (d + 1) k n 54 [some (.ref 123), none, none, none, some (.int (x4 + 1))] [] (t, T, I, L, P) Q) ∧ (s0 = 0 → Q (some (.int 0)) (t, T, (hf_up I 123 1 (I 123 7)), L, P))) : hf_G X Y_X5_reads (d + 1) k n 89 [some (.ref 123), none, none, none, some (.int x4)] [.int s0] (t, T, I, L, P) Q := by
  refine hf_if_ne (tgt := 97) dX5_reads_89 (by decide) (fun hc => ?_) (fun hc => ?_)
  · replace h := h.1 hc
    refine hf_iinc (v := (x4 + 1)) (l2 := [some (.ref 123), none, none, none, some (.int (x4 + 1))]) dX5_reads_97 (by decide) rfl rfl rfl ?_
    refine hf_goto (tgt := 54) dX5_reads_100 (by decide) ?_
    exact h
  · replace h := h.2 hc
    refine hf_aload_n dX5_reads_92 rfl rfl ?_
    refine hf_callV (c := 5) (as := []) ok_X5_fails dX5_reads_93 hw607 hw608 hw1568 (hs.2.1 123 _ rfl) (by decide) (hf_lin hs 123 rfl) rfl (Nat.le_of_ble_eq_true rfl) rfl (Nat.le_of_ble_eq_true rfl) (Nat.zero_le _) (Nat.zero_le _) ?_
    show hf_G X Y_X5_fails d _ _ 0 [some (.ref 123)] [] (t, T, I, L, P) _
    refine hf_aload_n dX5_fails_0 rfl rfl ?_
    refine hf_aload_n dX5_fails_1 rfl rfl ?_
    refine hf_geti (c := 5) (j := 7) dX5_fails_2 (hs.2.1 123 _ rfl) (hf_lin hs 123 rfl) (by decide) (by decide) hw235 (Or.inl rfl) ?_
    refine hf_puti (c := 5) (j := 1) dX5_fails_5 (hs.2.1 123 _ rfl) (hf_lin hs 123 rfl) (by decide) (by decide) hw228 rfl rfl ?_
    refine hf_iconst (v := 0) dX5_fails_8 (by decide) ?_
    refine hf_ireturn dX5_fails_9 rfl (by decide) ?_
    show hf_G X Y_X5_reads (d + 1) _ _ 96 [some (.ref 123), none, none, none, some (.int x4)] [.int 0] (t, T, (hf_up I 123 1 (I 123 7)), L, P) _
    refine hf_ireturn dX5_reads_96 rfl (by decide) ?_
    exact h

set_option maxHeartbeats 4000000 in
theorem w_X5_fails_0 {X : hf_X} {d k n t : Nat} {T : hf_T} {I : hf_I} {L : hf_L} {P : hf_P} {Q : Option Value → hf_M → Prop}  (hs : hf_Lay t T P) (hby : P 123 2 = some 122) (h : Q (some (.int 0)) (t, T, (hf_up I 123 1 (I 123 7)), L, P)) : hf_G X Y_X5_fails d k n 0 (hf_en [.ref 123] 1) [] (t, T, I, L, P) Q := by
  show hf_G X Y_X5_fails d k n 0 [some (.ref 123)] [] (t, T, I, L, P) Q
  refine hf_aload_n dX5_fails_0 rfl rfl ?_
  refine hf_aload_n dX5_fails_1 rfl rfl ?_
  refine hf_geti (c := 5) (j := 7) dX5_fails_2 (hs.2.1 123 _ rfl) (hf_lin hs 123 rfl) (by decide) (by decide) hw235 (Or.inl rfl) ?_
  refine hf_puti (c := 5) (j := 1) dX5_fails_5 (hs.2.1 123 _ rfl) (hf_lin hs 123 rfl) (by decide) (by decide) hw228 rfl rfl ?_
  refine hf_iconst (v := 0) dX5_fails_8 (by decide) ?_
  refine hf_ireturn dX5_fails_9 rfl (by decide) ?_
  exact h

set_option maxHeartbeats 4000000 in
theorem w_X5_advance_0 {X : hf_X} {d k n t : Nat} {T : hf_T} {I : hf_I} {L : hf_L} {P : hf_P} {Q : Option Value → hf_M → Prop}  (hs : hf_Lay t T P) (hby : P 123 2 = some 122) (h : hf_G X Y_X5_advance d k n 5 [some (.ref 123), some (.int (I 123 8))] [] (t, T, I, L, P) Q) : hf_G X Y_X5_advance d k n 0 (hf_en [.ref 123] 2) [] (t, T, I, L, P) Q := by
  show hf_G X Y_X5_advance d k n 0 [some (.ref 123), none] [] (t, T, I, L, P) Q
  refine hf_aload_n dX5_advance_0 rfl rfl ?_
  refine hf_geti (c := 5) (j := 8) dX5_advance_1 (hs.2.1 123 _ rfl) (hf_lin hs 123 rfl) (by decide) (by decide) hw236 (Or.inl rfl) ?_
  refine hf_istore_n (l2 := [some (.ref 123), some (.int (I 123 8))]) dX5_advance_4 rfl (by decide) rfl ?_
  exact h

set_option maxHeartbeats 4000000 in
theorem w_X5_advance_5 {X : hf_X} {d k n t : Nat} {T : hf_T} {I : hf_I} {L : hf_L} {P : hf_P} {Q : Option Value → hf_M → Prop} {x1 : Int32} (hs : hf_Lay t T P) (hby : P 123 2 = some 122) (h : ((I 123 3) ≤ x1 → hf_G X Y_X5_kindAt d 0 0 0 (hf_en [.ref 123, .int x1] 2) [] (t, T, (hf_up I 123 7 x1), L, P) (fun r M => hf_G X Y_X5_advance (d + 1) k n 41 [some (.ref 123), some (.int x1)] (r.toList ++ [.ref 123]) M Q)) ∧ (¬ ((I 123 3) ≤ x1) → vp_in x1 400 ∧ ((¬ (I 122 x1.toNatClampNeg) = 32 → hf_G X Y_X5_kindAt d 0 0 0 (hf_en [.ref 123, .int x1] 2) [] (t, T, (hf_up I 123 7 x1), L, P) (fun r M => hf_G X Y_X5_advance (d + 1) k n 41 [some (.ref 123), some (.int x1)] (r.toList ++ [.ref 123]) M Q)) ∧ ((I 122 x1.toNatClampNeg) = 32 → hf_G X Y_X5_advance (d + 1) k n 5 [some (.ref 123), some (.int (x1 + 1))] [] (t, T, I, L, P) Q)))) : hf_G X Y_X5_advance (d + 1) k n 5 [some (.ref 123), some (.int x1)] [] (t, T, I, L, P) Q := by
  refine hf_iload_n dX5_advance_5 rfl rfl ?_
  refine hf_aload_n dX5_advance_6 rfl rfl ?_
  refine hf_geti (c := 5) (j := 3) dX5_advance_7 (hs.2.1 123 _ rfl) (hf_lin hs 123 rfl) (by decide) (by decide) hw231 (Or.inl rfl) ?_
  refine hf_icmp_ge (tgt := 30) dX5_advance_10 (by decide) (fun hc => ?_) (fun hc => ?_)
  · replace h := h.1 hc
    refine hf_aload_n dX5_advance_30 rfl rfl ?_
    refine hf_iload_n dX5_advance_31 rfl rfl ?_
    refine hf_puti (c := 5) (j := 7) dX5_advance_32 (hs.2.1 123 _ rfl) (hf_lin hs 123 rfl) (by decide) (by decide) hw235 rfl rfl ?_
    refine hf_aload_n dX5_advance_35 rfl rfl ?_
    refine hf_aload_n dX5_advance_36 rfl rfl ?_
    refine hf_iload_n dX5_advance_37 rfl rfl ?_
    exact hf_callV (c := 5) (as := [.int x1]) ok_X5_kindAt dX5_advance_38 hw552 hw553 hw1564 (hs.2.1 123 _ rfl) (by decide) (hf_lin hs 123 rfl) rfl (Nat.le_of_ble_eq_true rfl) rfl (Nat.le_of_ble_eq_true rfl) (Nat.zero_le _) (Nat.zero_le _) h
  · replace h := h.2 hc
    refine hf_aload_n dX5_advance_13 rfl rfl ?_
    refine hf_getr (b := 122) (c := 5) (j := 2) dX5_advance_14 (hs.2.1 123 _ rfl) (hf_lin hs 123 rfl) (by decide) (by decide) hw230 rfl hby ?_
    refine hf_iload_n dX5_advance_17 rfl rfl ?_
    refine hf_bald dX5_advance_18 (hs.2.1 122 _ rfl) (hf_lin hs 122 rfl) h.1 ?_
    replace h := h.2
    refine hf_bipush (v := 32) dX5_advance_19 (by decide) ?_
    refine hf_icmp_ne (tgt := 30) dX5_advance_21 (by decide) (fun hc => ?_) (fun hc => ?_)
    · replace h := h.1 hc
      refine hf_aload_n dX5_advance_30 rfl rfl ?_
      refine hf_iload_n dX5_advance_31 rfl rfl ?_
      refine hf_puti (c := 5) (j := 7) dX5_advance_32 (hs.2.1 123 _ rfl) (hf_lin hs 123 rfl) (by decide) (by decide) hw235 rfl rfl ?_
      refine hf_aload_n dX5_advance_35 rfl rfl ?_
      refine hf_aload_n dX5_advance_36 rfl rfl ?_
      refine hf_iload_n dX5_advance_37 rfl rfl ?_
      exact hf_callV (c := 5) (as := [.int x1]) ok_X5_kindAt dX5_advance_38 hw552 hw553 hw1564 (hs.2.1 123 _ rfl) (by decide) (hf_lin hs 123 rfl) rfl (Nat.le_of_ble_eq_true rfl) rfl (Nat.le_of_ble_eq_true rfl) (Nat.zero_le _) (Nat.zero_le _) h
    · replace h := h.2 hc
      refine hf_iinc (v := (x1 + 1)) (l2 := [some (.ref 123), some (.int (x1 + 1))]) dX5_advance_24 (by decide) rfl rfl rfl ?_
      refine hf_goto (tgt := 5) dX5_advance_27 (by decide) ?_
      exact h

set_option maxHeartbeats 4000000 in
theorem w_X5_advance_41 {X : hf_X} {d k n t : Nat} {T : hf_T} {I : hf_I} {L : hf_L} {P : hf_P} {Q : Option Value → hf_M → Prop} {x1 : Int32} {s0 : Int32} (hs : hf_Lay t T P) (hby : P 123 2 = some 122) (h : ((I 123 3) ≤ x1 → (s0 = 1 → hf_G X Y_X5_advance d k n 71 [some (.ref 123), some (.int x1)] [] (t, T, (hf_up I 123 6 s0), L, P) Q) ∧ (¬ (s0 = 1) → (¬ s0 = 2 → Q none (t, T, (hf_up (hf_up I 123 6 s0) 123 8 x1), L, P)) ∧ (s0 = 2 → hf_G X Y_X5_advance d k n 71 [some (.ref 123), some (.int x1)] [] (t, T, (hf_up I 123 6 s0), L, P) Q))) ∧ (¬ ((I 123 3) ≤ x1) → (s0 = 1 → hf_G X Y_X5_advance d k n 71 [some (.ref 123), some (.int (x1 + 1))] [] (t, T, (hf_up I 123 6 s0), L, P) Q) ∧ (¬ (s0 = 1) → (¬ s0 = 2 → Q none (t, T, (hf_up (hf_up I 123 6 s0) 123 8 (x1 + 1)), L, P)) ∧ (s0 = 2 → hf_G X Y_X5_advance d k n 71 [some (.ref 123), some (.int (x1 + 1))] [] (t, T, (hf_up I 123 6 s0), L, P) Q)))) : hf_G X Y_X5_advance d k n 41 [some (.ref 123), some (.int x1)] [.int s0, .ref 123] (t, T, I, L, P) Q := by
  refine hf_puti (c := 5) (j := 6) dX5_advance_41 (hs.2.1 123 _ rfl) (hf_lin hs 123 rfl) (by decide) (by decide) hw234 rfl rfl ?_
  refine hf_iload_n dX5_advance_44 rfl rfl ?_
  refine hf_aload_n dX5_advance_45 rfl rfl ?_
  refine hf_geti (c := 5) (j := 3) dX5_advance_46 (hs.2.1 123 _ rfl) (hf_lin hs 123 rfl) (by decide) (by decide) hw231 (Or.inl rfl) ?_
  refine hf_icmp_ge (tgt := 55) dX5_advance_49 (by decide) (fun hc => ?_) (fun hc => ?_)
  · replace h := h.1 hc
    refine hf_aload_n dX5_advance_55 rfl rfl ?_
    refine hf_geti (c := 5) (j := 6) dX5_advance_56 (hs.2.1 123 _ rfl) (hf_lin hs 123 rfl) (by decide) (by decide) hw234 (Or.inl rfl) ?_
    refine hf_iconst (v := 1) dX5_advance_59 (by decide) ?_
    refine hf_icmp_eq (tgt := 71) dX5_advance_60 (by decide) (fun hc => ?_) (fun hc => ?_)
    · replace h := h.1 hc
      exact h
    · replace h := h.2 hc
      refine hf_aload_n dX5_advance_63 rfl rfl ?_
      refine hf_geti (c := 5) (j := 6) dX5_advance_64 (hs.2.1 123 _ rfl) (hf_lin hs 123 rfl) (by decide) (by decide) hw234 (Or.inl rfl) ?_
      refine hf_iconst (v := 2) dX5_advance_67 (by decide) ?_
      refine hf_icmp_ne (tgt := 97) dX5_advance_68 (by decide) (fun hc => ?_) (fun hc => ?_)
      · replace h := h.1 hc
        refine hf_aload_n dX5_advance_97 rfl rfl ?_
        refine hf_iload_n dX5_advance_98 rfl rfl ?_
        refine hf_puti (c := 5) (j := 8) dX5_advance_99 (hs.2.1 123 _ rfl) (hf_lin hs 123 rfl) (by decide) (by decide) hw236 rfl rfl ?_
        refine hf_return dX5_advance_102 rfl ?_
        exact h
      · replace h := h.2 hc
        exact h
  · replace h := h.2 hc
    refine hf_iinc (v := (x1 + 1)) (l2 := [some (.ref 123), some (.int (x1 + 1))]) dX5_advance_52 (by decide) rfl rfl rfl ?_
    refine hf_aload_n dX5_advance_55 rfl rfl ?_
    refine hf_geti (c := 5) (j := 6) dX5_advance_56 (hs.2.1 123 _ rfl) (hf_lin hs 123 rfl) (by decide) (by decide) hw234 (Or.inl rfl) ?_
    refine hf_iconst (v := 1) dX5_advance_59 (by decide) ?_
    refine hf_icmp_eq (tgt := 71) dX5_advance_60 (by decide) (fun hc => ?_) (fun hc => ?_)
    · replace h := h.1 hc
      exact h
    · replace h := h.2 hc
      refine hf_aload_n dX5_advance_63 rfl rfl ?_
      refine hf_geti (c := 5) (j := 6) dX5_advance_64 (hs.2.1 123 _ rfl) (hf_lin hs 123 rfl) (by decide) (by decide) hw234 (Or.inl rfl) ?_
      refine hf_iconst (v := 2) dX5_advance_67 (by decide) ?_
      refine hf_icmp_ne (tgt := 97) dX5_advance_68 (by decide) (fun hc => ?_) (fun hc => ?_)
      · replace h := h.1 hc
        refine hf_aload_n dX5_advance_97 rfl rfl ?_
        refine hf_iload_n dX5_advance_98 rfl rfl ?_
        refine hf_puti (c := 5) (j := 8) dX5_advance_99 (hs.2.1 123 _ rfl) (hf_lin hs 123 rfl) (by decide) (by decide) hw236 rfl rfl ?_
        refine hf_return dX5_advance_102 rfl ?_
        exact h
      · replace h := h.2 hc
        exact h

set_option maxHeartbeats 4000000 in
theorem w_X5_advance_71 {X : hf_X} {d k n t : Nat} {T : hf_T} {I : hf_I} {L : hf_L} {P : hf_P} {Q : Option Value → hf_M → Prop} {x1 : Int32} (hs : hf_Lay t T P) (hby : P 123 2 = some 122) (h : ((I 123 3) ≤ x1 → Q none (t, T, (hf_up I 123 8 x1), L, P)) ∧ (¬ ((I 123 3) ≤ x1) → hf_G X Y_X5_kindAt d 0 0 0 (hf_en [.ref 123, .int x1] 2) [] (t, T, I, L, P) (fun r M => hf_G X Y_X5_advance (d + 1) k n 84 [some (.ref 123), some (.int x1)] (r.toList ++ []) M Q))) : hf_G X Y_X5_advance (d + 1) k n 71 [some (.ref 123), some (.int x1)] [] (t, T, I, L, P) Q := by
  refine hf_iload_n dX5_advance_71 rfl rfl ?_
  refine hf_aload_n dX5_advance_72 rfl rfl ?_
  refine hf_geti (c := 5) (j := 3) dX5_advance_73 (hs.2.1 123 _ rfl) (hf_lin hs 123 rfl) (by decide) (by decide) hw231 (Or.inl rfl) ?_
  refine hf_icmp_ge (tgt := 97) dX5_advance_76 (by decide) (fun hc => ?_) (fun hc => ?_)
  · replace h := h.1 hc
    refine hf_aload_n dX5_advance_97 rfl rfl ?_
    refine hf_iload_n dX5_advance_98 rfl rfl ?_
    refine hf_puti (c := 5) (j := 8) dX5_advance_99 (hs.2.1 123 _ rfl) (hf_lin hs 123 rfl) (by decide) (by decide) hw236 rfl rfl ?_
    refine hf_return dX5_advance_102 rfl ?_
    exact h
  · replace h := h.2 hc
    refine hf_aload_n dX5_advance_79 rfl rfl ?_
    refine hf_iload_n dX5_advance_80 rfl rfl ?_
    exact hf_callV (c := 5) (as := [.int x1]) ok_X5_kindAt dX5_advance_81 hw552 hw553 hw1564 (hs.2.1 123 _ rfl) (by decide) (hf_lin hs 123 rfl) rfl (Nat.le_of_ble_eq_true rfl) rfl (Nat.le_of_ble_eq_true rfl) (Nat.zero_le _) (Nat.zero_le _) h

set_option maxHeartbeats 4000000 in
theorem w_X5_advance_84 {X : hf_X} {d k n t : Nat} {T : hf_T} {I : hf_I} {L : hf_L} {P : hf_P} {Q : Option Value → hf_M → Prop} {x1 : Int32} {s0 : Int32} (hs : hf_Lay t T P) (hby : P 123 2 = some 122) (h : (¬ s0 = (I 123 6) → Q none (t, T, (hf_up I 123 8 x1), L, P)) ∧ (s0 = (I 123 6) → hf_G X Y_X5_advance d k n 71 [some (.ref 123), some (.int (x1 + 1))] [] (t, T, I, L, P) Q)) : hf_G X Y_X5_advance d k n 84 [some (.ref 123), some (.int x1)] [.int s0] (t, T, I, L, P) Q := by
  refine hf_aload_n dX5_advance_84 rfl rfl ?_
  refine hf_geti (c := 5) (j := 6) dX5_advance_85 (hs.2.1 123 _ rfl) (hf_lin hs 123 rfl) (by decide) (by decide) hw234 (Or.inl rfl) ?_
  refine hf_icmp_ne (tgt := 97) dX5_advance_88 (by decide) (fun hc => ?_) (fun hc => ?_)
  · replace h := h.1 hc
    refine hf_aload_n dX5_advance_97 rfl rfl ?_
    refine hf_iload_n dX5_advance_98 rfl rfl ?_
    refine hf_puti (c := 5) (j := 8) dX5_advance_99 (hs.2.1 123 _ rfl) (hf_lin hs 123 rfl) (by decide) (by decide) hw236 rfl rfl ?_
    refine hf_return dX5_advance_102 rfl ?_
    exact h
  · replace h := h.2 hc
    refine hf_iinc (v := (x1 + 1)) (l2 := [some (.ref 123), some (.int (x1 + 1))]) dX5_advance_91 (by decide) rfl rfl rfl ?_
    refine hf_goto (tgt := 71) dX5_advance_94 (by decide) ?_
    exact h

set_option maxHeartbeats 4000000 in
theorem w_X5_kindAt_0 {X : hf_X} {d k n t : Nat} {T : hf_T} {I : hf_I} {L : hf_L} {P : hf_P} {Q : Option Value → hf_M → Prop} {x1 : Int32} (hs : hf_Lay t T P) (hby : P 123 2 = some 122) (h : (x1 < (I 123 3) → vp_in x1 400 ∧ (((I 122 x1.toNatClampNeg) < 97 → vp_in x1 400 ∧ (((I 122 x1.toNatClampNeg) < 48 → Q (some (.int 3)) (t, T, I, L, P)) ∧ (¬ ((I 122 x1.toNatClampNeg) < 48) → vp_in x1 400 ∧ ((57 < (I 122 x1.toNatClampNeg) → Q (some (.int 3)) (t, T, I, L, P)) ∧ (¬ (57 < (I 122 x1.toNatClampNeg)) → Q (some (.int 2)) (t, T, I, L, P)))))) ∧ (¬ ((I 122 x1.toNatClampNeg) < 97) → vp_in x1 400 ∧ ((122 < (I 122 x1.toNatClampNeg) → vp_in x1 400 ∧ (((I 122 x1.toNatClampNeg) < 48 → Q (some (.int 3)) (t, T, I, L, P)) ∧ (¬ ((I 122 x1.toNatClampNeg) < 48) → vp_in x1 400 ∧ ((57 < (I 122 x1.toNatClampNeg) → Q (some (.int 3)) (t, T, I, L, P)) ∧ (¬ (57 < (I 122 x1.toNatClampNeg)) → Q (some (.int 2)) (t, T, I, L, P)))))) ∧ (¬ (122 < (I 122 x1.toNatClampNeg)) → Q (some (.int 1)) (t, T, I, L, P)))))) ∧ (¬ (x1 < (I 123 3)) → Q (some (.int 0)) (t, T, I, L, P))) : hf_G X Y_X5_kindAt d k n 0 (hf_en [.ref 123, .int x1] 2) [] (t, T, I, L, P) Q := by
  show hf_G X Y_X5_kindAt d k n 0 [some (.ref 123), some (.int x1)] [] (t, T, I, L, P) Q
  refine hf_iload_n dX5_kindAt_0 rfl rfl ?_
  refine hf_aload_n dX5_kindAt_1 rfl rfl ?_
  refine hf_geti (c := 5) (j := 3) dX5_kindAt_2 (hs.2.1 123 _ rfl) (hf_lin hs 123 rfl) (by decide) (by decide) hw231 (Or.inl rfl) ?_
  refine hf_icmp_lt (tgt := 10) dX5_kindAt_5 (by decide) (fun hc => ?_) (fun hc => ?_)
  · replace h := h.1 hc
    refine hf_aload_n dX5_kindAt_10 rfl rfl ?_
    refine hf_getr (b := 122) (c := 5) (j := 2) dX5_kindAt_11 (hs.2.1 123 _ rfl) (hf_lin hs 123 rfl) (by decide) (by decide) hw230 rfl hby ?_
    refine hf_iload_n dX5_kindAt_14 rfl rfl ?_
    refine hf_bald dX5_kindAt_15 (hs.2.1 122 _ rfl) (hf_lin hs 122 rfl) h.1 ?_
    replace h := h.2
    refine hf_bipush (v := 97) dX5_kindAt_16 (by decide) ?_
    refine hf_icmp_lt (tgt := 34) dX5_kindAt_18 (by decide) (fun hc => ?_) (fun hc => ?_)
    · replace h := h.1 hc
      refine hf_aload_n dX5_kindAt_34 rfl rfl ?_
      refine hf_getr (b := 122) (c := 5) (j := 2) dX5_kindAt_35 (hs.2.1 123 _ rfl) (hf_lin hs 123 rfl) (by decide) (by decide) hw230 rfl hby ?_
      refine hf_iload_n dX5_kindAt_38 rfl rfl ?_
      refine hf_bald dX5_kindAt_39 (hs.2.1 122 _ rfl) (hf_lin hs 122 rfl) h.1 ?_
      replace h := h.2
      refine hf_bipush (v := 48) dX5_kindAt_40 (by decide) ?_
      refine hf_icmp_lt (tgt := 60) dX5_kindAt_42 (by decide) (fun hc => ?_) (fun hc => ?_)
      · replace h := h.1 hc
        refine hf_iconst (v := 3) dX5_kindAt_60 (by decide) ?_
        refine hf_ireturn dX5_kindAt_61 rfl rfl ?_
        exact h
      · replace h := h.2 hc
        refine hf_aload_n dX5_kindAt_45 rfl rfl ?_
        refine hf_getr (b := 122) (c := 5) (j := 2) dX5_kindAt_46 (hs.2.1 123 _ rfl) (hf_lin hs 123 rfl) (by decide) (by decide) hw230 rfl hby ?_
        refine hf_iload_n dX5_kindAt_49 rfl rfl ?_
        refine hf_bald dX5_kindAt_50 (hs.2.1 122 _ rfl) (hf_lin hs 122 rfl) h.1 ?_
        replace h := h.2
        refine hf_bipush (v := 57) dX5_kindAt_51 (by decide) ?_
        refine hf_icmp_gt (tgt := 60) dX5_kindAt_53 (by decide) (fun hc => ?_) (fun hc => ?_)
        · replace h := h.1 hc
          refine hf_iconst (v := 3) dX5_kindAt_60 (by decide) ?_
          refine hf_ireturn dX5_kindAt_61 rfl rfl ?_
          exact h
        · replace h := h.2 hc
          refine hf_iconst (v := 2) dX5_kindAt_56 (by decide) ?_
          refine hf_goto (tgt := 61) dX5_kindAt_57 (by decide) ?_
          refine hf_ireturn dX5_kindAt_61 rfl rfl ?_
          exact h
    · replace h := h.2 hc
      refine hf_aload_n dX5_kindAt_21 rfl rfl ?_
      refine hf_getr (b := 122) (c := 5) (j := 2) dX5_kindAt_22 (hs.2.1 123 _ rfl) (hf_lin hs 123 rfl) (by decide) (by decide) hw230 rfl hby ?_
      refine hf_iload_n dX5_kindAt_25 rfl rfl ?_
      refine hf_bald dX5_kindAt_26 (hs.2.1 122 _ rfl) (hf_lin hs 122 rfl) h.1 ?_
      replace h := h.2
      refine hf_bipush (v := 122) dX5_kindAt_27 (by decide) ?_
      refine hf_icmp_gt (tgt := 34) dX5_kindAt_29 (by decide) (fun hc => ?_) (fun hc => ?_)
      · replace h := h.1 hc
        refine hf_aload_n dX5_kindAt_34 rfl rfl ?_
        refine hf_getr (b := 122) (c := 5) (j := 2) dX5_kindAt_35 (hs.2.1 123 _ rfl) (hf_lin hs 123 rfl) (by decide) (by decide) hw230 rfl hby ?_
        refine hf_iload_n dX5_kindAt_38 rfl rfl ?_
        refine hf_bald dX5_kindAt_39 (hs.2.1 122 _ rfl) (hf_lin hs 122 rfl) h.1 ?_
        replace h := h.2
        refine hf_bipush (v := 48) dX5_kindAt_40 (by decide) ?_
        refine hf_icmp_lt (tgt := 60) dX5_kindAt_42 (by decide) (fun hc => ?_) (fun hc => ?_)
        · replace h := h.1 hc
          refine hf_iconst (v := 3) dX5_kindAt_60 (by decide) ?_
          refine hf_ireturn dX5_kindAt_61 rfl rfl ?_
          exact h
        · replace h := h.2 hc
          refine hf_aload_n dX5_kindAt_45 rfl rfl ?_
          refine hf_getr (b := 122) (c := 5) (j := 2) dX5_kindAt_46 (hs.2.1 123 _ rfl) (hf_lin hs 123 rfl) (by decide) (by decide) hw230 rfl hby ?_
          refine hf_iload_n dX5_kindAt_49 rfl rfl ?_
          refine hf_bald dX5_kindAt_50 (hs.2.1 122 _ rfl) (hf_lin hs 122 rfl) h.1 ?_
          replace h := h.2
          refine hf_bipush (v := 57) dX5_kindAt_51 (by decide) ?_
          refine hf_icmp_gt (tgt := 60) dX5_kindAt_53 (by decide) (fun hc => ?_) (fun hc => ?_)
          · replace h := h.1 hc
            refine hf_iconst (v := 3) dX5_kindAt_60 (by decide) ?_
            refine hf_ireturn dX5_kindAt_61 rfl rfl ?_
            exact h
          · replace h := h.2 hc
            refine hf_iconst (v := 2) dX5_kindAt_56 (by decide) ?_
            refine hf_goto (tgt := 61) dX5_kindAt_57 (by decide) ?_
            refine hf_ireturn dX5_kindAt_61 rfl rfl ?_
            exact h
      · replace h := h.2 hc
        refine hf_iconst (v := 1) dX5_kindAt_32 (by decide) ?_
        refine hf_ireturn dX5_kindAt_33 rfl rfl ?_
        exact h
  · replace h := h.2 hc
    refine hf_iconst (v := 0) dX5_kindAt_8 (by decide) ?_
    refine hf_ireturn dX5_kindAt_9 rfl rfl ?_
    exact h

set_option maxHeartbeats 4000000 in
theorem w_X5_isSign_0 {X : hf_X} {d k n t : Nat} {T : hf_T} {I : hf_I} {L : hf_L} {P : hf_P} {Q : Option Value → hf_M → Prop} {x1 : Int32} (hs : hf_Lay t T P) (hby : P 123 2 = some 122) (h : (¬ (I 123 6) = 3 → Q (some (.int 0)) (t, T, I, L, P)) ∧ ((I 123 6) = 3 → vp_in (I 123 7) 400 ∧ ((¬ (I 122 (((I 123 7)).toNatClampNeg)) = x1 → Q (some (.int 0)) (t, T, I, L, P)) ∧ ((I 122 (((I 123 7)).toNatClampNeg)) = x1 → Q (some (.int 1)) (t, T, I, L, P))))) : hf_G X Y_X5_isSign d k n 0 (hf_en [.ref 123, .int x1] 2) [] (t, T, I, L, P) Q := by
  show hf_G X Y_X5_isSign d k n 0 [some (.ref 123), some (.int x1)] [] (t, T, I, L, P) Q
  refine hf_aload_n dX5_isSign_0 rfl rfl ?_
  refine hf_geti (c := 5) (j := 6) dX5_isSign_1 (hs.2.1 123 _ rfl) (hf_lin hs 123 rfl) (by decide) (by decide) hw234 (Or.inl rfl) ?_
  refine hf_iconst (v := 3) dX5_isSign_4 (by decide) ?_
  refine hf_icmp_ne (tgt := 25) dX5_isSign_5 (by decide) (fun hc => ?_) (fun hc => ?_)
  · replace h := h.1 hc
    refine hf_iconst (v := 0) dX5_isSign_25 (by decide) ?_
    refine hf_ireturn dX5_isSign_26 rfl (by decide) ?_
    exact h
  · replace h := h.2 hc
    refine hf_aload_n dX5_isSign_8 rfl rfl ?_
    refine hf_getr (b := 122) (c := 5) (j := 2) dX5_isSign_9 (hs.2.1 123 _ rfl) (hf_lin hs 123 rfl) (by decide) (by decide) hw230 rfl hby ?_
    refine hf_aload_n dX5_isSign_12 rfl rfl ?_
    refine hf_geti (c := 5) (j := 7) dX5_isSign_13 (hs.2.1 123 _ rfl) (hf_lin hs 123 rfl) (by decide) (by decide) hw235 (Or.inl rfl) ?_
    refine hf_bald dX5_isSign_16 (hs.2.1 122 _ rfl) (hf_lin hs 122 rfl) h.1 ?_
    replace h := h.2
    refine hf_iload_n dX5_isSign_17 rfl rfl ?_
    refine hf_icmp_ne (tgt := 25) dX5_isSign_18 (by decide) (fun hc => ?_) (fun hc => ?_)
    · replace h := h.1 hc
      refine hf_iconst (v := 0) dX5_isSign_25 (by decide) ?_
      refine hf_ireturn dX5_isSign_26 rfl (by decide) ?_
      exact h
    · replace h := h.2 hc
      refine hf_iconst (v := 1) dX5_isSign_21 (by decide) ?_
      refine hf_goto (tgt := 26) dX5_isSign_22 (by decide) ?_
      refine hf_ireturn dX5_isSign_26 rfl (by decide) ?_
      exact h

set_option maxHeartbeats 4000000 in
theorem w_X5_isWord_0 {X : hf_X} {d k n t : Nat} {T : hf_T} {I : hf_I} {L : hf_L} {P : hf_P} {Q : Option Value → hf_M → Prop}  (hs : hf_Lay t T P) (hby : P 123 2 = some 122) {si : Nat} (hsi : si < 12) (h : (¬ (I 123 6) = 1 → Q (some (.int 0)) (t, T, I, L, P)) ∧ ((I 123 6) = 1 → hf_G X Y_X5_isSpelt (d + 1) 0 0 0 (hf_en [.ref 123, .ref (1 + si), .int 0, .int (Int32.ofNat (hf_sln.getD si 0))] 5) [] (t, T, I, L, P) (fun r M => hf_G X Y_X5_isWord (d + 2) k n 18 [none, none] (r.toList ++ []) M Q))) : hf_G X Y_X5_isWord (d + 2) k n 0 (hf_en [.ref 123, .ref (1 + si)] 2) [] (t, T, I, L, P) Q := by
  show hf_G X Y_X5_isWord (d + 2) k n 0 [some (.ref 123), some (.ref (1 + si))] [] (t, T, I, L, P) Q
  refine hf_aload_n dX5_isWord_0 rfl rfl ?_
  refine hf_geti (c := 5) (j := 6) dX5_isWord_1 (hs.2.1 123 _ rfl) (hf_lin hs 123 rfl) (by decide) (by decide) hw234 (Or.inl rfl) ?_
  refine hf_iconst (v := 1) dX5_isWord_4 (by decide) ?_
  refine hf_icmp_ne (tgt := 25) dX5_isWord_5 (by decide) (fun hc => ?_) (fun hc => ?_)
  · replace h := h.1 hc
    refine hf_iconst (v := 0) dX5_isWord_25 (by decide) ?_
    refine hf_ireturn dX5_isWord_26 rfl (by decide) ?_
    exact h
  · replace h := h.2 hc
    refine hf_aload_n dX5_isWord_8 rfl rfl ?_
    refine hf_aload_n dX5_isWord_9 rfl rfl ?_
    refine hf_iconst (v := 0) dX5_isWord_10 (by decide) ?_
    refine hf_aload_n dX5_isWord_11 rfl rfl ?_
    refine hf_strlen (i := si) hsi dX5_isWord_12 hw561 (Nat.le_of_ble_eq_true rfl) ?_
    exact hf_callV (c := 5) (as := [.ref (1 + si), .int 0, .int (Int32.ofNat (hf_sln.getD si 0))]) ok_X5_isSpelt dX5_isWord_15 hw604 hw605 hw1567 (hs.2.1 123 _ rfl) (by decide) (hf_lin hs 123 rfl) rfl (Nat.le_of_ble_eq_true rfl) rfl (Nat.le_of_ble_eq_true rfl) (Nat.zero_le _) (Nat.zero_le _) (hf_mono (fun r M q => hf_drop (l' := [none, none]) (by simp [hf_sub]) q) h)

set_option maxHeartbeats 4000000 in
theorem w_X5_isWord_18 {X : hf_X} {d k n t : Nat} {T : hf_T} {I : hf_I} {L : hf_L} {P : hf_P} {Q : Option Value → hf_M → Prop} {s0 : Int32} (hs : hf_Lay t T P) (hby : P 123 2 = some 122) {si : Nat} (hsi : si < 12) (h : (s0 = 0 → Q (some (.int 0)) (t, T, I, L, P)) ∧ (¬ (s0 = 0) → Q (some (.int 1)) (t, T, I, L, P))) : hf_G X Y_X5_isWord d k n 18 [none, none] [.int s0] (t, T, I, L, P) Q := by
  refine hf_if_eq (tgt := 25) dX5_isWord_18 (by decide) (fun hc => ?_) (fun hc => ?_)
  · replace h := h.1 hc
    refine hf_iconst (v := 0) dX5_isWord_25 (by decide) ?_
    refine hf_ireturn dX5_isWord_26 rfl (by decide) ?_
    exact h
  · replace h := h.2 hc
    refine hf_iconst (v := 1) dX5_isWord_21 (by decide) ?_
    refine hf_goto (tgt := 26) dX5_isWord_22 (by decide) ?_
    refine hf_ireturn dX5_isWord_26 rfl (by decide) ?_
    exact h

set_option maxHeartbeats 4000000 in
theorem w_X5_isSpelt_0 {X : hf_X} {d k n t : Nat} {T : hf_T} {I : hf_I} {L : hf_L} {P : hf_P} {Q : Option Value → hf_M → Prop} {x2 : Int32} {x3 : Int32} (hs : hf_Lay t T P) (hby : P 123 2 = some 122) {si : Nat} (hsi : si < 12) (h : (((I 123 8) - (I 123 7)) = (x3 - x2) → hf_G X Y_X5_isSpelt d k n 20 [some (.ref 123), some (.ref (1 + si)), some (.int x2), some (.int x3), some (.int x2)] [] (t, T, I, L, P) Q) ∧ (¬ (((I 123 8) - (I 123 7)) = (x3 - x2)) → Q (some (.int 0)) (t, T, I, L, P))) : hf_G X Y_X5_isSpelt d k n 0 (hf_en [.ref 123, .ref (1 + si), .int x2, .int x3] 5) [] (t, T, I, L, P) Q := by
  show hf_G X Y_X5_isSpelt d k n 0 [some (.ref 123), some (.ref (1 + si)), some (.int x2), some (.int x3), none] [] (t, T, I, L, P) Q
  refine hf_aload_n dX5_isSpelt_0 rfl rfl ?_
  refine hf_geti (c := 5) (j := 8) dX5_isSpelt_1 (hs.2.1 123 _ rfl) (hf_lin hs 123 rfl) (by decide) (by decide) hw236 (Or.inl rfl) ?_
  refine hf_aload_n dX5_isSpelt_4 rfl rfl ?_
  refine hf_geti (c := 5) (j := 7) dX5_isSpelt_5 (hs.2.1 123 _ rfl) (hf_lin hs 123 rfl) (by decide) (by decide) hw235 (Or.inl rfl) ?_
  refine hf_isub dX5_isSpelt_8 ?_
  refine hf_iload_n dX5_isSpelt_9 rfl rfl ?_
  refine hf_iload_n dX5_isSpelt_10 rfl rfl ?_
  refine hf_isub dX5_isSpelt_11 ?_
  refine hf_icmp_eq (tgt := 17) dX5_isSpelt_12 (by decide) (fun hc => ?_) (fun hc => ?_)
  · replace h := h.1 hc
    refine hf_iload_n dX5_isSpelt_17 rfl rfl ?_
    refine hf_istore (l2 := [some (.ref 123), some (.ref (1 + si)), some (.int x2), some (.int x3), some (.int x2)]) dX5_isSpelt_18 (by decide) rfl ?_
    exact h
  · replace h := h.2 hc
    refine hf_iconst (v := 0) dX5_isSpelt_15 (by decide) ?_
    refine hf_ireturn dX5_isSpelt_16 rfl (by decide) ?_
    exact h

set_option maxHeartbeats 4000000 in
theorem w_X5_isSpelt_20 {X : hf_X} {d k n t : Nat} {T : hf_T} {I : hf_I} {L : hf_L} {P : hf_P} {Q : Option Value → hf_M → Prop} {x2 : Int32} {x3 : Int32} {x4 : Int32} (hs : hf_Lay t T P) (hby : P 123 2 = some 122) {si : Nat} (hsi : si < 12) (h : (x3 ≤ x4 → Q (some (.int 1)) (t, T, I, L, P)) ∧ (¬ (x3 ≤ x4) → (¬ x4 < 0 ∧ x4 < Int32.ofNat (hf_sln.getD si 0) ∧ vp_in x4 (hf_sln.getD si 0)) ∧ (vp_in (((I 123 7) + x4) - x2) 400 ∧ ((((hf_sby.getD si []).getD x4.toNatClampNeg 0 &&& 255) = (I 122 (((((I 123 7) + x4) - x2)).toNatClampNeg)) → hf_G X Y_X5_isSpelt (d + 4) k n 20 [some (.ref 123), some (.ref (1 + si)), some (.int x2), some (.int x3), some (.int (x4 + 1))] [] (t, T, I, L, P) Q) ∧ (¬ (((hf_sby.getD si []).getD x4.toNatClampNeg 0 &&& 255) = (I 122 (((((I 123 7) + x4) - x2)).toNatClampNeg))) → Q (some (.int 0)) (t, T, I, L, P)))))) : hf_G X Y_X5_isSpelt (d + 4) k n 20 [some (.ref 123), some (.ref (1 + si)), some (.int x2), some (.int x3), some (.int x4)] [] (t, T, I, L, P) Q := by
  refine hf_iload dX5_isSpelt_20 rfl ?_
  refine hf_iload_n dX5_isSpelt_22 rfl rfl ?_
  refine hf_icmp_ge (tgt := 57) dX5_isSpelt_23 (by decide) (fun hc => ?_) (fun hc => ?_)
  · replace h := h.1 hc
    refine hf_iconst (v := 1) dX5_isSpelt_57 (by decide) ?_
    refine hf_ireturn dX5_isSpelt_58 rfl (by decide) ?_
    exact h
  · replace h := h.2 hc
    refine hf_aload_n dX5_isSpelt_26 rfl rfl ?_
    refine hf_iload dX5_isSpelt_27 rfl ?_
    refine hf_strchar (i := si) hsi h.1.1 h.1.2.1 h.1.2.2 dX5_isSpelt_29 hw570 (Nat.le_of_ble_eq_true rfl) ?_
    replace h := h.2
    refine hf_aload_n dX5_isSpelt_32 rfl rfl ?_
    refine hf_getr (b := 122) (c := 5) (j := 2) dX5_isSpelt_33 (hs.2.1 123 _ rfl) (hf_lin hs 123 rfl) (by decide) (by decide) hw230 rfl hby ?_
    refine hf_aload_n dX5_isSpelt_36 rfl rfl ?_
    refine hf_geti (c := 5) (j := 7) dX5_isSpelt_37 (hs.2.1 123 _ rfl) (hf_lin hs 123 rfl) (by decide) (by decide) hw235 (Or.inl rfl) ?_
    refine hf_iload dX5_isSpelt_40 rfl ?_
    refine hf_iadd dX5_isSpelt_42 ?_
    refine hf_iload_n dX5_isSpelt_43 rfl rfl ?_
    refine hf_isub dX5_isSpelt_44 ?_
    refine hf_bald dX5_isSpelt_45 (hs.2.1 122 _ rfl) (hf_lin hs 122 rfl) h.1 ?_
    replace h := h.2
    refine hf_icmp_eq (tgt := 51) dX5_isSpelt_46 (by decide) (fun hc => ?_) (fun hc => ?_)
    · replace h := h.1 hc
      refine hf_iinc (v := (x4 + 1)) (l2 := [some (.ref 123), some (.ref (1 + si)), some (.int x2), some (.int x3), some (.int (x4 + 1))]) dX5_isSpelt_51 (by decide) rfl rfl rfl ?_
      refine hf_goto (tgt := 20) dX5_isSpelt_54 (by decide) ?_
      exact h
    · replace h := h.2 hc
      refine hf_iconst (v := 0) dX5_isSpelt_49 (by decide) ?_
      refine hf_ireturn dX5_isSpelt_50 rfl (by decide) ?_
      exact h

set_option maxHeartbeats 4000000 in
theorem w_X5_placeIn_0 {X : hf_X} {d k n t : Nat} {T : hf_T} {I : hf_I} {L : hf_L} {P : hf_P} {Q : Option Value → hf_M → Prop}  (hs : hf_Lay t T P) (hby : P 123 2 = some 122) {si : Nat} (hsi : si < 12) (h : ((I 123 6) = 1 → hf_G X Y_X5_placeIn d k n 17 [some (.ref 123), some (.ref (1 + si)), some (.int 0), some (.int 0), some (.int 0)] [] (t, T, I, L, P) Q) ∧ (¬ ((I 123 6) = 1) → Q (some (.int (-1))) (t, T, I, L, P))) : hf_G X Y_X5_placeIn d k n 0 (hf_en [.ref 123, .ref (1 + si)] 5) [] (t, T, I, L, P) Q := by
  show hf_G X Y_X5_placeIn d k n 0 [some (.ref 123), some (.ref (1 + si)), none, none, none] [] (t, T, I, L, P) Q
  refine hf_aload_n dX5_placeIn_0 rfl rfl ?_
  refine hf_geti (c := 5) (j := 6) dX5_placeIn_1 (hs.2.1 123 _ rfl) (hf_lin hs 123 rfl) (by decide) (by decide) hw234 (Or.inl rfl) ?_
  refine hf_iconst (v := 1) dX5_placeIn_4 (by decide) ?_
  refine hf_icmp_eq (tgt := 10) dX5_placeIn_5 (by decide) (fun hc => ?_) (fun hc => ?_)
  · replace h := h.1 hc
    refine hf_iconst (v := 0) dX5_placeIn_10 (by decide) ?_
    refine hf_istore_n (l2 := [some (.ref 123), some (.ref (1 + si)), some (.int 0), none, none]) dX5_placeIn_11 rfl (by decide) rfl ?_
    refine hf_iconst (v := 0) dX5_placeIn_12 (by decide) ?_
    refine hf_istore_n (l2 := [some (.ref 123), some (.ref (1 + si)), some (.int 0), some (.int 0), none]) dX5_placeIn_13 rfl (by decide) rfl ?_
    refine hf_iconst (v := 0) dX5_placeIn_14 (by decide) ?_
    refine hf_istore (l2 := [some (.ref 123), some (.ref (1 + si)), some (.int 0), some (.int 0), some (.int 0)]) dX5_placeIn_15 (by decide) rfl ?_
    exact h
  · replace h := h.2 hc
    refine hf_iconst (v := (-1)) dX5_placeIn_8 (by decide) ?_
    refine hf_ireturn dX5_placeIn_9 rfl rfl ?_
    exact h

set_option maxHeartbeats 4000000 in
theorem w_X5_placeIn_17 {X : hf_X} {d k n t : Nat} {T : hf_T} {I : hf_I} {L : hf_L} {P : hf_P} {Q : Option Value → hf_M → Prop} {x2 : Int32} {x3 : Int32} {x4 : Int32} (hs : hf_Lay t T P) (hby : P 123 2 = some 122) {si : Nat} (hsi : si < 12) (h : ((Int32.ofNat (hf_sln.getD si 0)) < x4 → Q (some (.int (-1))) (t, T, I, L, P)) ∧ (¬ ((Int32.ofNat (hf_sln.getD si 0)) < x4) → ((Int32.ofNat (hf_sln.getD si 0)) ≤ x4 → hf_G X Y_X5_isSpelt (d + 3) 0 0 0 (hf_en [.ref 123, .ref (1 + si), .int x3, .int x4] 5) [] (t, T, I, L, P) (fun r M => hf_G X Y_X5_placeIn (d + 4) k n 57 [some (.ref 123), some (.ref (1 + si)), some (.int x2), none, some (.int x4)] (r.toList ++ []) M Q)) ∧ (¬ ((Int32.ofNat (hf_sln.getD si 0)) ≤ x4) → (¬ x4 < 0 ∧ x4 < Int32.ofNat (hf_sln.getD si 0) ∧ vp_in x4 (hf_sln.getD si 0)) ∧ ((((hf_sby.getD si []).getD x4.toNatClampNeg 0 &&& 255) = 32 → hf_G X Y_X5_isSpelt (d + 3) 0 0 0 (hf_en [.ref 123, .ref (1 + si), .int x3, .int x4] 5) [] (t, T, I, L, P) (fun r M => hf_G X Y_X5_placeIn (d + 4) k n 57 [some (.ref 123), some (.ref (1 + si)), some (.int x2), none, some (.int x4)] (r.toList ++ []) M Q)) ∧ (¬ (((hf_sby.getD si []).getD x4.toNatClampNeg 0 &&& 255) = 32) → hf_G X Y_X5_placeIn (d + 4) k n 17 [some (.ref 123), some (.ref (1 + si)), some (.int x2), some (.int x3), some (.int (x4 + 1))] [] (t, T, I, L, P) Q))))) : hf_G X Y_X5_placeIn (d + 4) k n 17 [some (.ref 123), some (.ref (1 + si)), some (.int x2), some (.int x3), some (.int x4)] [] (t, T, I, L, P) Q := by
  refine hf_iload dX5_placeIn_17 rfl ?_
  refine hf_aload_n dX5_placeIn_19 rfl rfl ?_
  refine hf_strlen (i := si) hsi dX5_placeIn_20 hw561 (Nat.le_of_ble_eq_true rfl) ?_
  refine hf_icmp_gt (tgt := 76) dX5_placeIn_23 (by decide) (fun hc => ?_) (fun hc => ?_)
  · replace h := h.1 hc
    refine hf_iconst (v := (-1)) dX5_placeIn_76 (by decide) ?_
    refine hf_ireturn dX5_placeIn_77 rfl rfl ?_
    exact h
  · replace h := h.2 hc
    refine hf_iload dX5_placeIn_26 rfl ?_
    refine hf_aload_n dX5_placeIn_28 rfl rfl ?_
    refine hf_strlen (i := si) hsi dX5_placeIn_29 hw561 (Nat.le_of_ble_eq_true rfl) ?_
    refine hf_icmp_ge (tgt := 49) dX5_placeIn_32 (by decide) (fun hc => ?_) (fun hc => ?_)
    · replace h := h.1 hc
      refine hf_aload_n dX5_placeIn_49 rfl rfl ?_
      refine hf_aload_n dX5_placeIn_50 rfl rfl ?_
      refine hf_iload_n dX5_placeIn_51 rfl rfl ?_
      refine hf_iload dX5_placeIn_52 rfl ?_
      exact hf_callV (c := 5) (as := [.ref (1 + si), .int x3, .int x4]) ok_X5_isSpelt dX5_placeIn_54 hw604 hw605 hw1567 (hs.2.1 123 _ rfl) (by decide) (hf_lin hs 123 rfl) rfl (Nat.le_of_ble_eq_true rfl) rfl (Nat.le_of_ble_eq_true rfl) (Nat.zero_le _) (Nat.zero_le _) (hf_mono (fun r M q => hf_drop (l' := [some (.ref 123), some (.ref (1 + si)), some (.int x2), none, some (.int x4)]) (by simp [hf_sub]) q) h)
    · replace h := h.2 hc
      refine hf_aload_n dX5_placeIn_35 rfl rfl ?_
      refine hf_iload dX5_placeIn_36 rfl ?_
      refine hf_strchar (i := si) hsi h.1.1 h.1.2.1 h.1.2.2 dX5_placeIn_38 hw570 (Nat.le_of_ble_eq_true rfl) ?_
      replace h := h.2
      refine hf_bipush (v := 32) dX5_placeIn_41 (by decide) ?_
      refine hf_icmp_eq (tgt := 49) dX5_placeIn_43 (by decide) (fun hc => ?_) (fun hc => ?_)
      · replace h := h.1 hc
        refine hf_aload_n dX5_placeIn_49 rfl rfl ?_
        refine hf_aload_n dX5_placeIn_50 rfl rfl ?_
        refine hf_iload_n dX5_placeIn_51 rfl rfl ?_
        refine hf_iload dX5_placeIn_52 rfl ?_
        exact hf_callV (c := 5) (as := [.ref (1 + si), .int x3, .int x4]) ok_X5_isSpelt dX5_placeIn_54 hw604 hw605 hw1567 (hs.2.1 123 _ rfl) (by decide) (hf_lin hs 123 rfl) rfl (Nat.le_of_ble_eq_true rfl) rfl (Nat.le_of_ble_eq_true rfl) (Nat.zero_le _) (Nat.zero_le _) (hf_mono (fun r M q => hf_drop (l' := [some (.ref 123), some (.ref (1 + si)), some (.int x2), none, some (.int x4)]) (by simp [hf_sub]) q) h)
      · replace h := h.2 hc
        refine hf_goto (tgt := 70) dX5_placeIn_46 (by decide) ?_
        refine hf_iinc (v := (x4 + 1)) (l2 := [some (.ref 123), some (.ref (1 + si)), some (.int x2), some (.int x3), some (.int (x4 + 1))]) dX5_placeIn_70 (by decide) rfl rfl rfl ?_
        refine hf_goto (tgt := 17) dX5_placeIn_73 (by decide) ?_
        exact h

set_option maxHeartbeats 4000000 in
theorem w_X5_placeIn_57 {X : hf_X} {d k n t : Nat} {T : hf_T} {I : hf_I} {L : hf_L} {P : hf_P} {Q : Option Value → hf_M → Prop} {x2 : Int32} {x4 : Int32} {s0 : Int32} (hs : hf_Lay t T P) (hby : P 123 2 = some 122) {si : Nat} (hsi : si < 12) (h : (s0 = 0 → hf_G X Y_X5_placeIn d k n 17 [some (.ref 123), some (.ref (1 + si)), some (.int (x2 + 1)), some (.int (x4 + 1)), some (.int (x4 + 1))] [] (t, T, I, L, P) Q) ∧ (¬ (s0 = 0) → Q (some (.int x2)) (t, T, I, L, P))) : hf_G X Y_X5_placeIn d k n 57 [some (.ref 123), some (.ref (1 + si)), some (.int x2), none, some (.int x4)] [.int s0] (t, T, I, L, P) Q := by
  refine hf_if_eq (tgt := 62) dX5_placeIn_57 (by decide) (fun hc => ?_) (fun hc => ?_)
  · replace h := h.1 hc
    refine hf_iinc (v := (x2 + 1)) (l2 := [some (.ref 123), some (.ref (1 + si)), some (.int (x2 + 1)), none, some (.int x4)]) dX5_placeIn_62 (by decide) rfl rfl rfl ?_
    refine hf_iload dX5_placeIn_65 rfl ?_
    refine hf_iconst (v := 1) dX5_placeIn_67 (by decide) ?_
    refine hf_iadd dX5_placeIn_68 ?_
    refine hf_istore_n (l2 := [some (.ref 123), some (.ref (1 + si)), some (.int (x2 + 1)), some (.int (x4 + 1)), some (.int x4)]) dX5_placeIn_69 rfl (by decide) rfl ?_
    refine hf_iinc (v := (x4 + 1)) (l2 := [some (.ref 123), some (.ref (1 + si)), some (.int (x2 + 1)), some (.int (x4 + 1)), some (.int (x4 + 1))]) dX5_placeIn_70 (by decide) rfl rfl rfl ?_
    refine hf_goto (tgt := 17) dX5_placeIn_73 (by decide) ?_
    exact h
  · replace h := h.2 hc
    refine hf_iload_n dX5_placeIn_60 rfl rfl ?_
    refine hf_ireturn dX5_placeIn_61 rfl rfl ?_
    exact h

set_option maxHeartbeats 4000000 in
theorem w_X5_numberTo_0 {X : hf_X} {d k n t : Nat} {T : hf_T} {I : hf_I} {L : hf_L} {P : hf_P} {Q : Option Value → hf_M → Prop} {x1 : Int32} (hs : hf_Lay t T P) (hby : P 123 2 = some 122) (h : ((I 123 6) = 2 → hf_G X Y_X5_numberTo d k n 17 [some (.ref 123), some (.int x1), some (.int 0), some (.int (I 123 7))] [] (t, T, I, L, P) Q) ∧ (¬ ((I 123 6) = 2) → Q (some (.int (-1))) (t, T, I, L, P))) : hf_G X Y_X5_numberTo d k n 0 (hf_en [.ref 123, .int x1] 4) [] (t, T, I, L, P) Q := by
  show hf_G X Y_X5_numberTo d k n 0 [some (.ref 123), some (.int x1), none, none] [] (t, T, I, L, P) Q
  refine hf_aload_n dX5_numberTo_0 rfl rfl ?_
  refine hf_geti (c := 5) (j := 6) dX5_numberTo_1 (hs.2.1 123 _ rfl) (hf_lin hs 123 rfl) (by decide) (by decide) hw234 (Or.inl rfl) ?_
  refine hf_iconst (v := 2) dX5_numberTo_4 (by decide) ?_
  refine hf_icmp_eq (tgt := 10) dX5_numberTo_5 (by decide) (fun hc => ?_) (fun hc => ?_)
  · replace h := h.1 hc
    refine hf_iconst (v := 0) dX5_numberTo_10 (by decide) ?_
    refine hf_istore_n (l2 := [some (.ref 123), some (.int x1), some (.int 0), none]) dX5_numberTo_11 rfl (by decide) rfl ?_
    refine hf_aload_n dX5_numberTo_12 rfl rfl ?_
    refine hf_geti (c := 5) (j := 7) dX5_numberTo_13 (hs.2.1 123 _ rfl) (hf_lin hs 123 rfl) (by decide) (by decide) hw235 (Or.inl rfl) ?_
    refine hf_istore_n (l2 := [some (.ref 123), some (.int x1), some (.int 0), some (.int (I 123 7))]) dX5_numberTo_16 rfl (by decide) rfl ?_
    exact h
  · replace h := h.2 hc
    refine hf_iconst (v := (-1)) dX5_numberTo_8 (by decide) ?_
    refine hf_ireturn dX5_numberTo_9 rfl rfl ?_
    exact h

set_option maxHeartbeats 4000000 in
theorem w_X5_numberTo_17 {X : hf_X} {d k n t : Nat} {T : hf_T} {I : hf_I} {L : hf_L} {P : hf_P} {Q : Option Value → hf_M → Prop} {x1 : Int32} {x2 : Int32} {x3 : Int32} (hs : hf_Lay t T P) (hby : P 123 2 = some 122) (h : ((I 123 8) ≤ x3 → (x1 < x2 → Q (some (.int (-1))) (t, T, I, L, P)) ∧ (¬ (x1 < x2) → Q (some (.int x2)) (t, T, I, L, P))) ∧ (¬ ((I 123 8) ≤ x3) → vp_in x3 400 ∧ (hf_G X Y_X5_numberTo (d + 1) k n 17 [some (.ref 123), some (.int x1), some (.int (if (((10 * x2) + (I 122 x3.toNatClampNeg)) - 48) < 1001 then (((10 * x2) + (I 122 x3.toNatClampNeg)) - 48) else 1001)), some (.int (x3 + 1))] [] (t, T, I, L, P) Q))) : hf_G X Y_X5_numberTo (d + 1) k n 17 [some (.ref 123), some (.int x1), some (.int x2), some (.int x3)] [] (t, T, I, L, P) Q := by
  refine hf_iload_n dX5_numberTo_17 rfl rfl ?_
  refine hf_aload_n dX5_numberTo_18 rfl rfl ?_
  refine hf_geti (c := 5) (j := 8) dX5_numberTo_19 (hs.2.1 123 _ rfl) (hf_lin hs 123 rfl) (by decide) (by decide) hw236 (Or.inl rfl) ?_
  refine hf_icmp_ge (tgt := 52) dX5_numberTo_22 (by decide) (fun hc => ?_) (fun hc => ?_)
  · replace h := h.1 hc
    refine hf_iload_n dX5_numberTo_52 rfl rfl ?_
    refine hf_iload_n dX5_numberTo_53 rfl rfl ?_
    refine hf_icmp_gt (tgt := 61) dX5_numberTo_54 (by decide) (fun hc => ?_) (fun hc => ?_)
    · replace h := h.1 hc
      refine hf_iconst (v := (-1)) dX5_numberTo_61 (by decide) ?_
      refine hf_ireturn dX5_numberTo_62 rfl rfl ?_
      exact h
    · replace h := h.2 hc
      refine hf_iload_n dX5_numberTo_57 rfl rfl ?_
      refine hf_goto (tgt := 62) dX5_numberTo_58 (by decide) ?_
      refine hf_ireturn dX5_numberTo_62 rfl rfl ?_
      exact h
  · replace h := h.2 hc
    refine hf_sipush (v := 1001) dX5_numberTo_25 (by decide) ?_
    refine hf_bipush (v := 10) dX5_numberTo_28 (by decide) ?_
    refine hf_iload_n dX5_numberTo_30 rfl rfl ?_
    refine hf_imul dX5_numberTo_31 ?_
    refine hf_aload_n dX5_numberTo_32 rfl rfl ?_
    refine hf_getr (b := 122) (c := 5) (j := 2) dX5_numberTo_33 (hs.2.1 123 _ rfl) (hf_lin hs 123 rfl) (by decide) (by decide) hw230 rfl hby ?_
    refine hf_iload_n dX5_numberTo_36 rfl rfl ?_
    refine hf_bald dX5_numberTo_37 (hs.2.1 122 _ rfl) (hf_lin hs 122 rfl) h.1 ?_
    replace h := h.2
    refine hf_iadd dX5_numberTo_38 ?_
    refine hf_bipush (v := 48) dX5_numberTo_39 (by decide) ?_
    refine hf_isub dX5_numberTo_41 ?_
    refine hf_mmin dX5_numberTo_42 hw548 (Nat.le_of_ble_eq_true rfl) ?_
    refine hf_istore_n (l2 := [some (.ref 123), some (.int x1), some (.int (if (((10 * x2) + (I 122 x3.toNatClampNeg)) - 48) < 1001 then (((10 * x2) + (I 122 x3.toNatClampNeg)) - 48) else 1001)), some (.int x3)]) dX5_numberTo_45 rfl (by decide) rfl ?_
    refine hf_iinc (v := (x3 + 1)) (l2 := [some (.ref 123), some (.int x1), some (.int (if (((10 * x2) + (I 122 x3.toNatClampNeg)) - 48) < 1001 then (((10 * x2) + (I 122 x3.toNatClampNeg)) - 48) else 1001)), some (.int (x3 + 1))]) dX5_numberTo_46 (by decide) rfl rfl rfl ?_
    refine hf_goto (tgt := 17) dX5_numberTo_49 (by decide) ?_
    exact h

set_option maxHeartbeats 4000000 in
theorem w_X5_readClause_0 {X : hf_X} {d k n t : Nat} {T : hf_T} {I : hf_I} {L : hf_L} {P : hf_P} {Q : Option Value → hf_M → Prop}  (hs : hf_Lay t T P) (hby : P 123 2 = some 122) (h : ((I 123 4) = 0 → hf_G X Y_X5_placeIn d 0 0 0 (hf_en [.ref 123, .ref 2] 5) [] (t, T, I, L, P) (fun r M => hf_G X Y_X5_readClause (d + 1) k n 18 [some (.ref 123), none, none, none, none, none] (r.toList ++ []) M Q)) ∧ (¬ ((I 123 4) = 0) → hf_G X Y_X5_placeIn d 0 0 0 (hf_en [.ref 123, .ref 1] 5) [] (t, T, I, L, P) (fun r M => hf_G X Y_X5_readClause (d + 1) k n 18 [some (.ref 123), none, none, none, none, none] (r.toList ++ []) M Q))) : hf_G X Y_X5_readClause (d + 1) k n 0 (hf_en [.ref 123] 6) [] (t, T, I, L, P) Q := by
  show hf_G X Y_X5_readClause (d + 1) k n 0 [some (.ref 123), none, none, none, none, none] [] (t, T, I, L, P) Q
  refine hf_aload_n dX5_readClause_0 rfl rfl ?_
  refine hf_aload_n dX5_readClause_1 rfl rfl ?_
  refine hf_geti (c := 5) (j := 4) dX5_readClause_2 (hs.2.1 123 _ rfl) (hf_lin hs 123 rfl) (by decide) (by decide) hw232 (Or.inr rfl) ?_
  refine hf_if_eq (tgt := 13) dX5_readClause_5 (by decide) (fun hc => ?_) (fun hc => ?_)
  · replace h := h.1 hc
    refine hf_ldcS (i := 1) dX5_readClause_13 rfl rfl ?_
    exact hf_callV (c := 5) (as := [.ref 2]) ok_X5_placeIn dX5_readClause_15 hw558 hw559 hw1566 (hs.2.1 123 _ rfl) (by decide) (hf_lin hs 123 rfl) rfl (Nat.le_of_ble_eq_true rfl) rfl (Nat.le_of_ble_eq_true rfl) (Nat.zero_le _) (Nat.zero_le _) h
  · replace h := h.2 hc
    refine hf_ldcS (i := 0) dX5_readClause_8 rfl rfl ?_
    refine hf_goto (tgt := 15) dX5_readClause_10 (by decide) ?_
    exact hf_callV (c := 5) (as := [.ref 1]) ok_X5_placeIn dX5_readClause_15 hw558 hw559 hw1566 (hs.2.1 123 _ rfl) (by decide) (hf_lin hs 123 rfl) rfl (Nat.le_of_ble_eq_true rfl) rfl (Nat.le_of_ble_eq_true rfl) (Nat.zero_le _) (Nat.zero_le _) h

set_option maxHeartbeats 4000000 in
theorem w_X5_readClause_18 {X : hf_X} {d k n t : Nat} {T : hf_T} {I : hf_I} {L : hf_L} {P : hf_P} {Q : Option Value → hf_M → Prop} {s0 : Int32} (hs : hf_Lay t T P) (hby : P 123 2 = some 122) (h : (¬ s0 = (-1) → hf_G X Y_X5_advance d 0 0 0 (hf_en [.ref 123] 2) [] (t, T, I, L, P) (fun r M => hf_G X Y_X5_readClause (d + 1) k n 33 [some (.ref 123), some (.int s0), none, none, none, none] (r.toList ++ []) M Q)) ∧ (s0 = (-1) → Q (some (.int 0)) (t, T, (hf_up I 123 1 (I 123 7)), L, P))) : hf_G X Y_X5_readClause (d + 1) k n 18 [some (.ref 123), none, none, none, none, none] [.int s0] (t, T, I, L, P) Q := by
  refine hf_istore_n (l2 := [some (.ref 123), some (.int s0), none, none, none, none]) dX5_readClause_18 rfl (by decide) rfl ?_
  refine hf_iload_n dX5_readClause_19 rfl rfl ?_
  refine hf_iconst (v := (-1)) dX5_readClause_20 (by decide) ?_
  refine hf_icmp_ne (tgt := 29) dX5_readClause_21 (by decide) (fun hc => ?_) (fun hc => ?_)
  · replace h := h.1 hc
    refine hf_aload_n dX5_readClause_29 rfl rfl ?_
    exact hf_callV (c := 5) (as := []) ok_X5_advance dX5_readClause_30 hw549 hw550 hw1563 (hs.2.1 123 _ rfl) (by decide) (hf_lin hs 123 rfl) rfl (Nat.le_of_ble_eq_true rfl) rfl (Nat.le_of_ble_eq_true rfl) (Nat.zero_le _) (Nat.zero_le _) h
  · replace h := h.2 hc
    refine hf_aload_n dX5_readClause_24 rfl rfl ?_
    refine hf_callV (c := 5) (as := []) ok_X5_fails dX5_readClause_25 hw607 hw608 hw1568 (hs.2.1 123 _ rfl) (by decide) (hf_lin hs 123 rfl) rfl (Nat.le_of_ble_eq_true rfl) rfl (Nat.le_of_ble_eq_true rfl) (Nat.zero_le _) (Nat.zero_le _) ?_
    show hf_G X Y_X5_fails d _ _ 0 [some (.ref 123)] [] (t, T, I, L, P) _
    refine hf_aload_n dX5_fails_0 rfl rfl ?_
    refine hf_aload_n dX5_fails_1 rfl rfl ?_
    refine hf_geti (c := 5) (j := 7) dX5_fails_2 (hs.2.1 123 _ rfl) (hf_lin hs 123 rfl) (by decide) (by decide) hw235 (Or.inl rfl) ?_
    refine hf_puti (c := 5) (j := 1) dX5_fails_5 (hs.2.1 123 _ rfl) (hf_lin hs 123 rfl) (by decide) (by decide) hw228 rfl rfl ?_
    refine hf_iconst (v := 0) dX5_fails_8 (by decide) ?_
    refine hf_ireturn dX5_fails_9 rfl (by decide) ?_
    show hf_G X Y_X5_readClause (d + 1) _ _ 28 [some (.ref 123), some (.int s0), none, none, none, none] [.int 0] (t, T, (hf_up I 123 1 (I 123 7)), L, P) _
    refine hf_ireturn dX5_readClause_28 rfl (by decide) ?_
    exact h

set_option maxHeartbeats 4000000 in
theorem w_X5_readClause_33 {X : hf_X} {d k n t : Nat} {T : hf_T} {I : hf_I} {L : hf_L} {P : hf_P} {Q : Option Value → hf_M → Prop} {x1 : Int32} (hs : hf_Lay t T P) (hby : P 123 2 = some 122) (h : ((I 123 4) = 0 → (x1 = 0 → hf_G X Y_X5_readSum d 0 0 0 (hf_en [.ref 123, .int 0] 4) [] (t, T, I, L, P) (fun r M => hf_G X Y_X5_readClause (d + 1) k n 85 [some (.ref 123), some (.int x1), some (.int (I 124 6)), none, none, none] (r.toList ++ []) M Q)) ∧ (¬ (x1 = 0) → (¬ x1 = 3 → (¬ (I 123 4) = 0 → hf_G X Y_X5_isWord d 0 0 0 (hf_en [.ref 123, .ref 4] 2) [] (t, T, I, L, P) (fun r M => hf_G X Y_X5_readClause (d + 1) k n 151 [some (.ref 123), some (.int x1), some (.int (I 124 6)), none, some (.int 1), some (.int (I 124 6))] (r.toList ++ []) M Q)) ∧ ((I 123 4) = 0 → hf_G X Y_X5_isWord d 0 0 0 (hf_en [.ref 123, .ref 3] 2) [] (t, T, I, L, P) (fun r M => hf_G X Y_X5_readClause (d + 1) k n 106 [some (.ref 123), some (.int x1), some (.int (I 124 6)), none, some (.int 1), none] (r.toList ++ []) M Q))) ∧ (x1 = 3 → hf_G X Y_X5_readSum d 0 0 0 (hf_en [.ref 123, .int 0] 4) [] (t, T, I, L, P) (fun r M => hf_G X Y_X5_readClause (d + 1) k n 85 [some (.ref 123), some (.int x1), some (.int (I 124 6)), none, none, none] (r.toList ++ []) M Q)))) ∧ (¬ ((I 123 4) = 0) → (x1 = 2 → (¬ (I 123 4) = 0 → hf_G X Y_X5_isWord d 0 0 0 (hf_en [.ref 123, .ref 4] 2) [] (t, T, I, L, P) (fun r M => hf_G X Y_X5_readClause (d + 1) k n 151 [some (.ref 123), some (.int x1), some (.int (I 124 6)), none, some (.int 1), some (.int (I 124 6))] (r.toList ++ []) M Q)) ∧ ((I 123 4) = 0 → hf_G X Y_X5_isWord d 0 0 0 (hf_en [.ref 123, .ref 3] 2) [] (t, T, I, L, P) (fun r M => hf_G X Y_X5_readClause (d + 1) k n 106 [some (.ref 123), some (.int x1), some (.int (I 124 6)), none, some (.int 1), none] (r.toList ++ []) M Q))) ∧ (¬ (x1 = 2) → hf_G X Y_X5_readSum d 0 0 0 (hf_en [.ref 123, .int 0] 4) [] (t, T, I, L, P) (fun r M => hf_G X Y_X5_readClause (d + 1) k n 85 [some (.ref 123), some (.int x1), some (.int (I 124 6)), none, none, none] (r.toList ++ []) M Q)))) : hf_G X Y_X5_readClause (d + 1) k n 33 [some (.ref 123), some (.int x1), none, none, none, none] [] (t, T, I, L, P) Q := by
  refine hf_aload_n dX5_readClause_33 rfl rfl ?_
  refine hf_getr (b := 124) (c := 5) (j := 0) dX5_readClause_34 (hs.2.1 123 _ rfl) (hf_lin hs 123 rfl) (by decide) (by decide) hw226 rfl (hs.2.2 123 0 _ rfl) ?_
  refine hf_geti (c := 9) (j := 6) dX5_readClause_37 (hs.2.1 124 _ rfl) (hf_lin hs 124 rfl) (by decide) (by decide) hw213 (Or.inl rfl) ?_
  refine hf_istore_n (l2 := [some (.ref 123), some (.int x1), some (.int (I 124 6)), none, none, none]) dX5_readClause_40 rfl (by decide) rfl ?_
  refine hf_aload_n dX5_readClause_41 rfl rfl ?_
  refine hf_geti (c := 5) (j := 4) dX5_readClause_42 (hs.2.1 123 _ rfl) (hf_lin hs 123 rfl) (by decide) (by decide) hw232 (Or.inr rfl) ?_
  refine hf_if_eq (tgt := 61) dX5_readClause_45 (by decide) (fun hc => ?_) (fun hc => ?_)
  · replace h := h.1 hc
    refine hf_iload_n dX5_readClause_61 rfl rfl ?_
    refine hf_if_eq (tgt := 70) dX5_readClause_62 (by decide) (fun hc => ?_) (fun hc => ?_)
    · replace h := h.1 hc
      refine hf_iconst (v := 1) dX5_readClause_70 (by decide) ?_
      refine hf_goto (tgt := 75) dX5_readClause_71 (by decide) ?_
      refine hf_istore_n (l2 := [some (.ref 123), some (.int x1), some (.int (I 124 6)), some (.int 1), none, none]) dX5_readClause_75 rfl (by decide) rfl ?_
      refine hf_iload_n dX5_readClause_76 rfl rfl ?_
      refine hf_if_eq (tgt := 90) dX5_readClause_77 (by decide) (fun hc => absurd (show (1 : Int32) = (0 : Int32) from hc) (by decide)) (fun _ => ?_)
      refine hf_aload_n dX5_readClause_80 rfl rfl ?_
      refine hf_iconst (v := 0) dX5_readClause_81 (by decide) ?_
      exact hf_callV (c := 5) (as := [.int 0]) ok_X5_readSum dX5_readClause_82 hw610 hw611 hw1569 (hs.2.1 123 _ rfl) (by decide) (hf_lin hs 123 rfl) rfl (Nat.le_of_ble_eq_true rfl) rfl (Nat.le_of_ble_eq_true rfl) (Nat.zero_le _) (Nat.zero_le _) (hf_mono (fun r M q => hf_drop (l' := [some (.ref 123), some (.int x1), some (.int (I 124 6)), none, none, none]) (by simp [hf_sub]) q) h)
    · replace h := h.2 hc
      refine hf_iload_n dX5_readClause_65 rfl rfl ?_
      refine hf_iconst (v := 3) dX5_readClause_66 (by decide) ?_
      refine hf_icmp_ne (tgt := 74) dX5_readClause_67 (by decide) (fun hc => ?_) (fun hc => ?_)
      · replace h := h.1 hc
        refine hf_iconst (v := 0) dX5_readClause_74 (by decide) ?_
        refine hf_istore_n (l2 := [some (.ref 123), some (.int x1), some (.int (I 124 6)), some (.int 0), none, none]) dX5_readClause_75 rfl (by decide) rfl ?_
        refine hf_iload_n dX5_readClause_76 rfl rfl ?_
        refine hf_if_eq (tgt := 90) dX5_readClause_77 (by decide) (fun _ => ?_) (fun hc => absurd (show (0 : Int32) = (0 : Int32) by decide) hc)
        refine hf_iconst (v := 1) dX5_readClause_90 (by decide) ?_
        refine hf_istore (l2 := [some (.ref 123), some (.int x1), some (.int (I 124 6)), some (.int 0), some (.int 1), none]) dX5_readClause_91 (by decide) rfl ?_
        refine hf_aload_n dX5_readClause_93 rfl rfl ?_
        refine hf_geti (c := 5) (j := 4) dX5_readClause_94 (hs.2.1 123 _ rfl) (hf_lin hs 123 rfl) (by decide) (by decide) hw232 (Or.inr rfl) ?_
        refine hf_if_ne (tgt := 136) dX5_readClause_97 (by decide) (fun hc => ?_) (fun hc => ?_)
        · replace h := h.1 hc
          refine hf_aload_n dX5_readClause_136 rfl rfl ?_
          refine hf_getr (b := 124) (c := 5) (j := 0) dX5_readClause_137 (hs.2.1 123 _ rfl) (hf_lin hs 123 rfl) (by decide) (by decide) hw226 rfl (hs.2.2 123 0 _ rfl) ?_
          refine hf_geti (c := 9) (j := 6) dX5_readClause_140 (hs.2.1 124 _ rfl) (hf_lin hs 124 rfl) (by decide) (by decide) hw213 (Or.inl rfl) ?_
          refine hf_istore (l2 := [some (.ref 123), some (.int x1), some (.int (I 124 6)), some (.int 0), some (.int 1), some (.int (I 124 6))]) dX5_readClause_143 (by decide) rfl ?_
          refine hf_aload_n dX5_readClause_145 rfl rfl ?_
          refine hf_ldcS (i := 3) dX5_readClause_146 rfl rfl ?_
          exact hf_callV (c := 5) (as := [.ref 4]) ok_X5_isWord dX5_readClause_148 hw635 hw636 hw1576 (hs.2.1 123 _ rfl) (by decide) (hf_lin hs 123 rfl) rfl (Nat.le_of_ble_eq_true rfl) rfl (Nat.le_of_ble_eq_true rfl) (Nat.zero_le _) (Nat.zero_le _) (hf_mono (fun r M q => hf_drop (l' := [some (.ref 123), some (.int x1), some (.int (I 124 6)), none, some (.int 1), some (.int (I 124 6))]) (by simp [hf_sub]) q) h)
        · replace h := h.2 hc
          refine hf_aload_n dX5_readClause_100 rfl rfl ?_
          refine hf_ldcS (i := 2) dX5_readClause_101 rfl rfl ?_
          exact hf_callV (c := 5) (as := [.ref 3]) ok_X5_isWord dX5_readClause_103 hw635 hw636 hw1576 (hs.2.1 123 _ rfl) (by decide) (hf_lin hs 123 rfl) rfl (Nat.le_of_ble_eq_true rfl) rfl (Nat.le_of_ble_eq_true rfl) (Nat.zero_le _) (Nat.zero_le _) (hf_mono (fun r M q => hf_drop (l' := [some (.ref 123), some (.int x1), some (.int (I 124 6)), none, some (.int 1), none]) (by simp [hf_sub]) q) h)
      · replace h := h.2 hc
        refine hf_iconst (v := 1) dX5_readClause_70 (by decide) ?_
        refine hf_goto (tgt := 75) dX5_readClause_71 (by decide) ?_
        refine hf_istore_n (l2 := [some (.ref 123), some (.int x1), some (.int (I 124 6)), some (.int 1), none, none]) dX5_readClause_75 rfl (by decide) rfl ?_
        refine hf_iload_n dX5_readClause_76 rfl rfl ?_
        refine hf_if_eq (tgt := 90) dX5_readClause_77 (by decide) (fun hc => absurd (show (1 : Int32) = (0 : Int32) from hc) (by decide)) (fun _ => ?_)
        refine hf_aload_n dX5_readClause_80 rfl rfl ?_
        refine hf_iconst (v := 0) dX5_readClause_81 (by decide) ?_
        exact hf_callV (c := 5) (as := [.int 0]) ok_X5_readSum dX5_readClause_82 hw610 hw611 hw1569 (hs.2.1 123 _ rfl) (by decide) (hf_lin hs 123 rfl) rfl (Nat.le_of_ble_eq_true rfl) rfl (Nat.le_of_ble_eq_true rfl) (Nat.zero_le _) (Nat.zero_le _) (hf_mono (fun r M q => hf_drop (l' := [some (.ref 123), some (.int x1), some (.int (I 124 6)), none, none, none]) (by simp [hf_sub]) q) h)
  · replace h := h.2 hc
    refine hf_iload_n dX5_readClause_48 rfl rfl ?_
    refine hf_iconst (v := 2) dX5_readClause_49 (by decide) ?_
    refine hf_icmp_eq (tgt := 57) dX5_readClause_50 (by decide) (fun hc => ?_) (fun hc => ?_)
    · replace h := h.1 hc
      refine hf_iconst (v := 0) dX5_readClause_57 (by decide) ?_
      refine hf_goto (tgt := 75) dX5_readClause_58 (by decide) ?_
      refine hf_istore_n (l2 := [some (.ref 123), some (.int x1), some (.int (I 124 6)), some (.int 0), none, none]) dX5_readClause_75 rfl (by decide) rfl ?_
      refine hf_iload_n dX5_readClause_76 rfl rfl ?_
      refine hf_if_eq (tgt := 90) dX5_readClause_77 (by decide) (fun _ => ?_) (fun hc => absurd (show (0 : Int32) = (0 : Int32) by decide) hc)
      refine hf_iconst (v := 1) dX5_readClause_90 (by decide) ?_
      refine hf_istore (l2 := [some (.ref 123), some (.int x1), some (.int (I 124 6)), some (.int 0), some (.int 1), none]) dX5_readClause_91 (by decide) rfl ?_
      refine hf_aload_n dX5_readClause_93 rfl rfl ?_
      refine hf_geti (c := 5) (j := 4) dX5_readClause_94 (hs.2.1 123 _ rfl) (hf_lin hs 123 rfl) (by decide) (by decide) hw232 (Or.inr rfl) ?_
      refine hf_if_ne (tgt := 136) dX5_readClause_97 (by decide) (fun hc => ?_) (fun hc => ?_)
      · replace h := h.1 hc
        refine hf_aload_n dX5_readClause_136 rfl rfl ?_
        refine hf_getr (b := 124) (c := 5) (j := 0) dX5_readClause_137 (hs.2.1 123 _ rfl) (hf_lin hs 123 rfl) (by decide) (by decide) hw226 rfl (hs.2.2 123 0 _ rfl) ?_
        refine hf_geti (c := 9) (j := 6) dX5_readClause_140 (hs.2.1 124 _ rfl) (hf_lin hs 124 rfl) (by decide) (by decide) hw213 (Or.inl rfl) ?_
        refine hf_istore (l2 := [some (.ref 123), some (.int x1), some (.int (I 124 6)), some (.int 0), some (.int 1), some (.int (I 124 6))]) dX5_readClause_143 (by decide) rfl ?_
        refine hf_aload_n dX5_readClause_145 rfl rfl ?_
        refine hf_ldcS (i := 3) dX5_readClause_146 rfl rfl ?_
        exact hf_callV (c := 5) (as := [.ref 4]) ok_X5_isWord dX5_readClause_148 hw635 hw636 hw1576 (hs.2.1 123 _ rfl) (by decide) (hf_lin hs 123 rfl) rfl (Nat.le_of_ble_eq_true rfl) rfl (Nat.le_of_ble_eq_true rfl) (Nat.zero_le _) (Nat.zero_le _) (hf_mono (fun r M q => hf_drop (l' := [some (.ref 123), some (.int x1), some (.int (I 124 6)), none, some (.int 1), some (.int (I 124 6))]) (by simp [hf_sub]) q) h)
      · replace h := h.2 hc
        refine hf_aload_n dX5_readClause_100 rfl rfl ?_
        refine hf_ldcS (i := 2) dX5_readClause_101 rfl rfl ?_
        exact hf_callV (c := 5) (as := [.ref 3]) ok_X5_isWord dX5_readClause_103 hw635 hw636 hw1576 (hs.2.1 123 _ rfl) (by decide) (hf_lin hs 123 rfl) rfl (Nat.le_of_ble_eq_true rfl) rfl (Nat.le_of_ble_eq_true rfl) (Nat.zero_le _) (Nat.zero_le _) (hf_mono (fun r M q => hf_drop (l' := [some (.ref 123), some (.int x1), some (.int (I 124 6)), none, some (.int 1), none]) (by simp [hf_sub]) q) h)
    · replace h := h.2 hc
      refine hf_iconst (v := 1) dX5_readClause_53 (by decide) ?_
      refine hf_goto (tgt := 75) dX5_readClause_54 (by decide) ?_
      refine hf_istore_n (l2 := [some (.ref 123), some (.int x1), some (.int (I 124 6)), some (.int 1), none, none]) dX5_readClause_75 rfl (by decide) rfl ?_
      refine hf_iload_n dX5_readClause_76 rfl rfl ?_
      refine hf_if_eq (tgt := 90) dX5_readClause_77 (by decide) (fun hc => absurd (show (1 : Int32) = (0 : Int32) from hc) (by decide)) (fun _ => ?_)
      refine hf_aload_n dX5_readClause_80 rfl rfl ?_
      refine hf_iconst (v := 0) dX5_readClause_81 (by decide) ?_
      exact hf_callV (c := 5) (as := [.int 0]) ok_X5_readSum dX5_readClause_82 hw610 hw611 hw1569 (hs.2.1 123 _ rfl) (by decide) (hf_lin hs 123 rfl) rfl (Nat.le_of_ble_eq_true rfl) rfl (Nat.le_of_ble_eq_true rfl) (Nat.zero_le _) (Nat.zero_le _) (hf_mono (fun r M q => hf_drop (l' := [some (.ref 123), some (.int x1), some (.int (I 124 6)), none, none, none]) (by simp [hf_sub]) q) h)

set_option maxHeartbeats 4000000 in
theorem w_X5_readClause_85 {X : hf_X} {d k n t : Nat} {T : hf_T} {I : hf_I} {L : hf_L} {P : hf_P} {Q : Option Value → hf_M → Prop} {x1 : Int32} {x2 : Int32} {s0 : Int32} (hs : hf_Lay t T P) (hby : P 123 2 = some 122) (h : (¬ s0 = 0 → (¬ (I 123 4) = 0 → hf_G X Y_X5_isWord d 0 0 0 (hf_en [.ref 123, .ref 4] 2) [] (t, T, I, L, P) (fun r M => hf_G X Y_X5_readClause (d + 1) k n 151 [some (.ref 123), some (.int x1), some (.int x2), none, some (.int 1), some (.int (I 124 6))] (r.toList ++ []) M Q)) ∧ ((I 123 4) = 0 → hf_G X Y_X5_isWord d 0 0 0 (hf_en [.ref 123, .ref 3] 2) [] (t, T, I, L, P) (fun r M => hf_G X Y_X5_readClause (d + 1) k n 106 [some (.ref 123), some (.int x1), some (.int x2), none, some (.int 1), none] (r.toList ++ []) M Q))) ∧ (s0 = 0 → Q (some (.int 0)) (t, T, I, L, P))) : hf_G X Y_X5_readClause (d + 1) k n 85 [some (.ref 123), some (.int x1), some (.int x2), none, none, none] [.int s0] (t, T, I, L, P) Q := by
  refine hf_if_ne (tgt := 90) dX5_readClause_85 (by decide) (fun hc => ?_) (fun hc => ?_)
  · replace h := h.1 hc
    refine hf_iconst (v := 1) dX5_readClause_90 (by decide) ?_
    refine hf_istore (l2 := [some (.ref 123), some (.int x1), some (.int x2), none, some (.int 1), none]) dX5_readClause_91 (by decide) rfl ?_
    refine hf_aload_n dX5_readClause_93 rfl rfl ?_
    refine hf_geti (c := 5) (j := 4) dX5_readClause_94 (hs.2.1 123 _ rfl) (hf_lin hs 123 rfl) (by decide) (by decide) hw232 (Or.inr rfl) ?_
    refine hf_if_ne (tgt := 136) dX5_readClause_97 (by decide) (fun hc => ?_) (fun hc => ?_)
    · replace h := h.1 hc
      refine hf_aload_n dX5_readClause_136 rfl rfl ?_
      refine hf_getr (b := 124) (c := 5) (j := 0) dX5_readClause_137 (hs.2.1 123 _ rfl) (hf_lin hs 123 rfl) (by decide) (by decide) hw226 rfl (hs.2.2 123 0 _ rfl) ?_
      refine hf_geti (c := 9) (j := 6) dX5_readClause_140 (hs.2.1 124 _ rfl) (hf_lin hs 124 rfl) (by decide) (by decide) hw213 (Or.inl rfl) ?_
      refine hf_istore (l2 := [some (.ref 123), some (.int x1), some (.int x2), none, some (.int 1), some (.int (I 124 6))]) dX5_readClause_143 (by decide) rfl ?_
      refine hf_aload_n dX5_readClause_145 rfl rfl ?_
      refine hf_ldcS (i := 3) dX5_readClause_146 rfl rfl ?_
      exact hf_callV (c := 5) (as := [.ref 4]) ok_X5_isWord dX5_readClause_148 hw635 hw636 hw1576 (hs.2.1 123 _ rfl) (by decide) (hf_lin hs 123 rfl) rfl (Nat.le_of_ble_eq_true rfl) rfl (Nat.le_of_ble_eq_true rfl) (Nat.zero_le _) (Nat.zero_le _) h
    · replace h := h.2 hc
      refine hf_aload_n dX5_readClause_100 rfl rfl ?_
      refine hf_ldcS (i := 2) dX5_readClause_101 rfl rfl ?_
      exact hf_callV (c := 5) (as := [.ref 3]) ok_X5_isWord dX5_readClause_103 hw635 hw636 hw1576 (hs.2.1 123 _ rfl) (by decide) (hf_lin hs 123 rfl) rfl (Nat.le_of_ble_eq_true rfl) rfl (Nat.le_of_ble_eq_true rfl) (Nat.zero_le _) (Nat.zero_le _) h
  · replace h := h.2 hc
    refine hf_iconst (v := 0) dX5_readClause_88 (by decide) ?_
    refine hf_ireturn dX5_readClause_89 rfl (by decide) ?_
    exact h

set_option maxHeartbeats 4000000 in
theorem w_X5_readClause_151 {X : hf_X} {d k n t : Nat} {T : hf_T} {I : hf_I} {L : hf_L} {P : hf_P} {Q : Option Value → hf_M → Prop} {x1 : Int32} {x2 : Int32} {x4 : Int32} {x5 : Int32} {s0 : Int32} (hs : hf_Lay t T P) (hby : P 123 2 = some 122) (h : (s0 = 0 → hf_G X Y_X9_addClause d 0 0 0 (hf_en [.ref 124, .int x1, .int x2, .int x5, .int x4] 5) [] (t, T, I, L, P) (fun r M => hf_G X Y_X5_readClause (d + 1) k n 181 [some (.ref 123), none, none, none, none, none] (r.toList ++ []) M Q)) ∧ (¬ (s0 = 0) → hf_G X Y_X5_advance d 0 0 0 (hf_en [.ref 123] 2) [] (t, T, I, L, P) (fun r M => hf_G X Y_X5_readClause (d + 1) k n 158 [some (.ref 123), some (.int x1), some (.int x2), none, some (.int x4), some (.int x5)] (r.toList ++ []) M Q))) : hf_G X Y_X5_readClause (d + 1) k n 151 [some (.ref 123), some (.int x1), some (.int x2), none, some (.int x4), some (.int x5)] [.int s0] (t, T, I, L, P) Q := by
  refine hf_if_eq (tgt := 168) dX5_readClause_151 (by decide) (fun hc => ?_) (fun hc => ?_)
  · replace h := h.1 hc
    refine hf_aload_n dX5_readClause_168 rfl rfl ?_
    refine hf_getr (b := 124) (c := 5) (j := 0) dX5_readClause_169 (hs.2.1 123 _ rfl) (hf_lin hs 123 rfl) (by decide) (by decide) hw226 rfl (hs.2.2 123 0 _ rfl) ?_
    refine hf_iload_n dX5_readClause_172 rfl rfl ?_
    refine hf_iload_n dX5_readClause_173 rfl rfl ?_
    refine hf_iload dX5_readClause_174 rfl ?_
    refine hf_iload dX5_readClause_176 rfl ?_
    exact hf_callV (c := 9) (as := [.int x1, .int x2, .int x5, .int x4]) ok_X9_addClause dX5_readClause_178 hw651 hw652 hw653 (hs.2.1 124 _ rfl) (by decide) (hf_lin hs 124 rfl) rfl (Nat.le_of_ble_eq_true rfl) rfl (Nat.le_of_ble_eq_true rfl) (Nat.zero_le _) (Nat.zero_le _) (hf_mono (fun r M q => hf_drop (l' := [some (.ref 123), none, none, none, none, none]) (by simp [hf_sub]) q) h)
  · replace h := h.2 hc
    refine hf_aload_n dX5_readClause_154 rfl rfl ?_
    exact hf_callV (c := 5) (as := []) ok_X5_advance dX5_readClause_155 hw549 hw550 hw1563 (hs.2.1 123 _ rfl) (by decide) (hf_lin hs 123 rfl) rfl (Nat.le_of_ble_eq_true rfl) rfl (Nat.le_of_ble_eq_true rfl) (Nat.zero_le _) (Nat.zero_le _) h

set_option maxHeartbeats 4000000 in
theorem w_X5_readClause_106 {X : hf_X} {d k n t : Nat} {T : hf_T} {I : hf_I} {L : hf_L} {P : hf_P} {Q : Option Value → hf_M → Prop} {x1 : Int32} {x2 : Int32} {x4 : Int32} {s0 : Int32} (hs : hf_Lay t T P) (hby : P 123 2 = some 122) (h : (s0 = 0 → hf_G X Y_X5_isWord d 0 0 0 (hf_en [.ref 123, .ref 4] 2) [] (t, T, I, L, P) (fun r M => hf_G X Y_X5_readClause (d + 1) k n 151 [some (.ref 123), some (.int x1), some (.int x2), none, some (.int x4), some (.int (I 124 6))] (r.toList ++ []) M Q)) ∧ (¬ (s0 = 0) → hf_G X Y_X5_advance d 0 0 0 (hf_en [.ref 123] 2) [] (t, T, I, L, P) (fun r M => hf_G X Y_X5_readClause (d + 1) k n 113 [some (.ref 123), some (.int x1), some (.int x2), none, none, none] (r.toList ++ []) M Q))) : hf_G X Y_X5_readClause (d + 1) k n 106 [some (.ref 123), some (.int x1), some (.int x2), none, some (.int x4), none] [.int s0] (t, T, I, L, P) Q := by
  refine hf_if_eq (tgt := 136) dX5_readClause_106 (by decide) (fun hc => ?_) (fun hc => ?_)
  · replace h := h.1 hc
    refine hf_aload_n dX5_readClause_136 rfl rfl ?_
    refine hf_getr (b := 124) (c := 5) (j := 0) dX5_readClause_137 (hs.2.1 123 _ rfl) (hf_lin hs 123 rfl) (by decide) (by decide) hw226 rfl (hs.2.2 123 0 _ rfl) ?_
    refine hf_geti (c := 9) (j := 6) dX5_readClause_140 (hs.2.1 124 _ rfl) (hf_lin hs 124 rfl) (by decide) (by decide) hw213 (Or.inl rfl) ?_
    refine hf_istore (l2 := [some (.ref 123), some (.int x1), some (.int x2), none, some (.int x4), some (.int (I 124 6))]) dX5_readClause_143 (by decide) rfl ?_
    refine hf_aload_n dX5_readClause_145 rfl rfl ?_
    refine hf_ldcS (i := 3) dX5_readClause_146 rfl rfl ?_
    exact hf_callV (c := 5) (as := [.ref 4]) ok_X5_isWord dX5_readClause_148 hw635 hw636 hw1576 (hs.2.1 123 _ rfl) (by decide) (hf_lin hs 123 rfl) rfl (Nat.le_of_ble_eq_true rfl) rfl (Nat.le_of_ble_eq_true rfl) (Nat.zero_le _) (Nat.zero_le _) h
  · replace h := h.2 hc
    refine hf_aload_n dX5_readClause_109 rfl rfl ?_
    exact hf_callV (c := 5) (as := []) ok_X5_advance dX5_readClause_110 hw549 hw550 hw1563 (hs.2.1 123 _ rfl) (by decide) (hf_lin hs 123 rfl) rfl (Nat.le_of_ble_eq_true rfl) rfl (Nat.le_of_ble_eq_true rfl) (Nat.zero_le _) (Nat.zero_le _) (hf_mono (fun r M q => hf_drop (l' := [some (.ref 123), some (.int x1), some (.int x2), none, none, none]) (by simp [hf_sub]) q) h)

set_option maxHeartbeats 4000000 in
theorem w_X5_readClause_181 {X : hf_X} {d k n t : Nat} {T : hf_T} {I : hf_I} {L : hf_L} {P : hf_P} {Q : Option Value → hf_M → Prop} {s0 : Int32} (hs : hf_Lay t T P) (hby : P 123 2 = some 122) (h : (¬ s0 = 0 → Q (some (.int 1)) (t, T, I, L, P)) ∧ (s0 = 0 → Q (some (.int 0)) (t, T, (hf_up I 123 1 (I 123 7)), L, P))) : hf_G X Y_X5_readClause (d + 1) k n 181 [some (.ref 123), none, none, none, none, none] [.int s0] (t, T, I, L, P) Q := by
  refine hf_if_ne (tgt := 191) dX5_readClause_181 (by decide) (fun hc => ?_) (fun hc => ?_)
  · replace h := h.1 hc
    refine hf_iconst (v := 1) dX5_readClause_191 (by decide) ?_
    refine hf_goto (tgt := 196) dX5_readClause_192 (by decide) ?_
    refine hf_ireturn dX5_readClause_196 rfl (by decide) ?_
    exact h
  · replace h := h.2 hc
    refine hf_aload_n dX5_readClause_184 rfl rfl ?_
    refine hf_callV (c := 5) (as := []) ok_X5_fails dX5_readClause_185 hw607 hw608 hw1568 (hs.2.1 123 _ rfl) (by decide) (hf_lin hs 123 rfl) rfl (Nat.le_of_ble_eq_true rfl) rfl (Nat.le_of_ble_eq_true rfl) (Nat.zero_le _) (Nat.zero_le _) ?_
    show hf_G X Y_X5_fails d _ _ 0 [some (.ref 123)] [] (t, T, I, L, P) _
    refine hf_aload_n dX5_fails_0 rfl rfl ?_
    refine hf_aload_n dX5_fails_1 rfl rfl ?_
    refine hf_geti (c := 5) (j := 7) dX5_fails_2 (hs.2.1 123 _ rfl) (hf_lin hs 123 rfl) (by decide) (by decide) hw235 (Or.inl rfl) ?_
    refine hf_puti (c := 5) (j := 1) dX5_fails_5 (hs.2.1 123 _ rfl) (hf_lin hs 123 rfl) (by decide) (by decide) hw228 rfl rfl ?_
    refine hf_iconst (v := 0) dX5_fails_8 (by decide) ?_
    refine hf_ireturn dX5_fails_9 rfl (by decide) ?_
    show hf_G X Y_X5_readClause (d + 1) _ _ 188 [some (.ref 123), none, none, none, none, none] [.int 0] (t, T, (hf_up I 123 1 (I 123 7)), L, P) _
    refine hf_if_eq (tgt := 195) dX5_readClause_188 (by decide) (fun _ => ?_) (fun hc => absurd (show (0 : Int32) = (0 : Int32) by decide) hc)
    refine hf_iconst (v := 0) dX5_readClause_195 (by decide) ?_
    refine hf_ireturn dX5_readClause_196 rfl (by decide) ?_
    exact h

set_option maxHeartbeats 4000000 in
theorem w_X5_readClause_158 {X : hf_X} {d k n t : Nat} {T : hf_T} {I : hf_I} {L : hf_L} {P : hf_P} {Q : Option Value → hf_M → Prop} {x1 : Int32} {x2 : Int32} {x4 : Int32} {x5 : Int32} (hs : hf_Lay t T P) (hby : P 123 2 = some 122) (h : hf_G X Y_X5_readTest d 0 0 0 (hf_en [.ref 123, .int 0] 4) [] (t, T, I, L, P) (fun r M => hf_G X Y_X5_readClause (d + 1) k n 163 [some (.ref 123), some (.int x1), some (.int x2), none, some (.int x4), some (.int x5)] (r.toList ++ []) M Q)) : hf_G X Y_X5_readClause (d + 1) k n 158 [some (.ref 123), some (.int x1), some (.int x2), none, some (.int x4), some (.int x5)] [] (t, T, I, L, P) Q := by
  refine hf_aload_n dX5_readClause_158 rfl rfl ?_
  refine hf_iconst (v := 0) dX5_readClause_159 (by decide) ?_
  exact hf_callV (c := 5) (as := [.int 0]) ok_X5_readTest dX5_readClause_160 hw638 hw639 hw1577 (hs.2.1 123 _ rfl) (by decide) (hf_lin hs 123 rfl) rfl (Nat.le_of_ble_eq_true rfl) rfl (Nat.le_of_ble_eq_true rfl) (Nat.zero_le _) (Nat.zero_le _) h

set_option maxHeartbeats 4000000 in
theorem w_X5_readClause_113 {X : hf_X} {d k n t : Nat} {T : hf_T} {I : hf_I} {L : hf_L} {P : hf_P} {Q : Option Value → hf_M → Prop} {x1 : Int32} {x2 : Int32} (hs : hf_Lay t T P) (hby : P 123 2 = some 122) (h : hf_G X Y_X5_numberTo d 0 0 0 (hf_en [.ref 123, .int 20] 4) [] (t, T, I, L, P) (fun r M => hf_G X Y_X5_readClause (d + 1) k n 119 [some (.ref 123), some (.int x1), some (.int x2), none, none, none] (r.toList ++ []) M Q)) : hf_G X Y_X5_readClause (d + 1) k n 113 [some (.ref 123), some (.int x1), some (.int x2), none, none, none] [] (t, T, I, L, P) Q := by
  refine hf_aload_n dX5_readClause_113 rfl rfl ?_
  refine hf_bipush (v := 20) dX5_readClause_114 (by decide) ?_
  exact hf_callV (c := 5) (as := [.int 20]) ok_X5_numberTo dX5_readClause_116 hw622 hw623 hw1573 (hs.2.1 123 _ rfl) (by decide) (hf_lin hs 123 rfl) rfl (Nat.le_of_ble_eq_true rfl) rfl (Nat.le_of_ble_eq_true rfl) (Nat.zero_le _) (Nat.zero_le _) h

set_option maxHeartbeats 4000000 in
theorem w_X5_readClause_163 {X : hf_X} {d k n t : Nat} {T : hf_T} {I : hf_I} {L : hf_L} {P : hf_P} {Q : Option Value → hf_M → Prop} {x1 : Int32} {x2 : Int32} {x4 : Int32} {x5 : Int32} {s0 : Int32} (hs : hf_Lay t T P) (hby : P 123 2 = some 122) (h : (¬ s0 = 0 → hf_G X Y_X9_addClause d 0 0 0 (hf_en [.ref 124, .int x1, .int x2, .int x5, .int x4] 5) [] (t, T, I, L, P) (fun r M => hf_G X Y_X5_readClause (d + 1) k n 181 [some (.ref 123), none, none, none, none, none] (r.toList ++ []) M Q)) ∧ (s0 = 0 → Q (some (.int 0)) (t, T, I, L, P))) : hf_G X Y_X5_readClause (d + 1) k n 163 [some (.ref 123), some (.int x1), some (.int x2), none, some (.int x4), some (.int x5)] [.int s0] (t, T, I, L, P) Q := by
  refine hf_if_ne (tgt := 168) dX5_readClause_163 (by decide) (fun hc => ?_) (fun hc => ?_)
  · replace h := h.1 hc
    refine hf_aload_n dX5_readClause_168 rfl rfl ?_
    refine hf_getr (b := 124) (c := 5) (j := 0) dX5_readClause_169 (hs.2.1 123 _ rfl) (hf_lin hs 123 rfl) (by decide) (by decide) hw226 rfl (hs.2.2 123 0 _ rfl) ?_
    refine hf_iload_n dX5_readClause_172 rfl rfl ?_
    refine hf_iload_n dX5_readClause_173 rfl rfl ?_
    refine hf_iload dX5_readClause_174 rfl ?_
    refine hf_iload dX5_readClause_176 rfl ?_
    exact hf_callV (c := 9) (as := [.int x1, .int x2, .int x5, .int x4]) ok_X9_addClause dX5_readClause_178 hw651 hw652 hw653 (hs.2.1 124 _ rfl) (by decide) (hf_lin hs 124 rfl) rfl (Nat.le_of_ble_eq_true rfl) rfl (Nat.le_of_ble_eq_true rfl) (Nat.zero_le _) (Nat.zero_le _) (hf_mono (fun r M q => hf_drop (l' := [some (.ref 123), none, none, none, none, none]) (by simp [hf_sub]) q) h)
  · replace h := h.2 hc
    refine hf_iconst (v := 0) dX5_readClause_166 (by decide) ?_
    refine hf_ireturn dX5_readClause_167 rfl (by decide) ?_
    exact h

set_option maxHeartbeats 4000000 in
theorem w_X5_readClause_119 {X : hf_X} {d k n t : Nat} {T : hf_T} {I : hf_I} {L : hf_L} {P : hf_P} {Q : Option Value → hf_M → Prop} {x1 : Int32} {x2 : Int32} {s0 : Int32} (hs : hf_Lay t T P) (hby : P 123 2 = some 122) (h : (1 ≤ s0 → hf_G X Y_X5_advance d 0 0 0 (hf_en [.ref 123] 2) [] (t, T, I, L, P) (fun r M => hf_G X Y_X5_readClause (d + 1) k n 136 [some (.ref 123), some (.int x1), some (.int x2), none, some (.int s0), none] (r.toList ++ []) M Q)) ∧ (¬ (1 ≤ s0) → Q (some (.int 0)) (t, T, (hf_up I 123 1 (I 123 7)), L, P))) : hf_G X Y_X5_readClause (d + 1) k n 119 [some (.ref 123), some (.int x1), some (.int x2), none, none, none] [.int s0] (t, T, I, L, P) Q := by
  refine hf_istore (l2 := [some (.ref 123), some (.int x1), some (.int x2), none, some (.int s0), none]) dX5_readClause_119 (by decide) rfl ?_
  refine hf_iload dX5_readClause_121 rfl ?_
  refine hf_iconst (v := 1) dX5_readClause_123 (by decide) ?_
  refine hf_icmp_ge (tgt := 132) dX5_readClause_124 (by decide) (fun hc => ?_) (fun hc => ?_)
  · replace h := h.1 hc
    refine hf_aload_n dX5_readClause_132 rfl rfl ?_
    exact hf_callV (c := 5) (as := []) ok_X5_advance dX5_readClause_133 hw549 hw550 hw1563 (hs.2.1 123 _ rfl) (by decide) (hf_lin hs 123 rfl) rfl (Nat.le_of_ble_eq_true rfl) rfl (Nat.le_of_ble_eq_true rfl) (Nat.zero_le _) (Nat.zero_le _) h
  · replace h := h.2 hc
    refine hf_aload_n dX5_readClause_127 rfl rfl ?_
    refine hf_callV (c := 5) (as := []) ok_X5_fails dX5_readClause_128 hw607 hw608 hw1568 (hs.2.1 123 _ rfl) (by decide) (hf_lin hs 123 rfl) rfl (Nat.le_of_ble_eq_true rfl) rfl (Nat.le_of_ble_eq_true rfl) (Nat.zero_le _) (Nat.zero_le _) ?_
    show hf_G X Y_X5_fails d _ _ 0 [some (.ref 123)] [] (t, T, I, L, P) _
    refine hf_aload_n dX5_fails_0 rfl rfl ?_
    refine hf_aload_n dX5_fails_1 rfl rfl ?_
    refine hf_geti (c := 5) (j := 7) dX5_fails_2 (hs.2.1 123 _ rfl) (hf_lin hs 123 rfl) (by decide) (by decide) hw235 (Or.inl rfl) ?_
    refine hf_puti (c := 5) (j := 1) dX5_fails_5 (hs.2.1 123 _ rfl) (hf_lin hs 123 rfl) (by decide) (by decide) hw228 rfl rfl ?_
    refine hf_iconst (v := 0) dX5_fails_8 (by decide) ?_
    refine hf_ireturn dX5_fails_9 rfl (by decide) ?_
    show hf_G X Y_X5_readClause (d + 1) _ _ 131 [some (.ref 123), some (.int x1), some (.int x2), none, some (.int s0), none] [.int 0] (t, T, (hf_up I 123 1 (I 123 7)), L, P) _
    refine hf_ireturn dX5_readClause_131 rfl (by decide) ?_
    exact h

set_option maxHeartbeats 4000000 in
theorem w_X5_readClause_136 {X : hf_X} {d k n t : Nat} {T : hf_T} {I : hf_I} {L : hf_L} {P : hf_P} {Q : Option Value → hf_M → Prop} {x1 : Int32} {x2 : Int32} {x4 : Int32} (hs : hf_Lay t T P) (hby : P 123 2 = some 122) (h : hf_G X Y_X5_isWord d 0 0 0 (hf_en [.ref 123, .ref 4] 2) [] (t, T, I, L, P) (fun r M => hf_G X Y_X5_readClause (d + 1) k n 151 [some (.ref 123), some (.int x1), some (.int x2), none, some (.int x4), some (.int (I 124 6))] (r.toList ++ []) M Q)) : hf_G X Y_X5_readClause (d + 1) k n 136 [some (.ref 123), some (.int x1), some (.int x2), none, some (.int x4), none] [] (t, T, I, L, P) Q := by
  refine hf_aload_n dX5_readClause_136 rfl rfl ?_
  refine hf_getr (b := 124) (c := 5) (j := 0) dX5_readClause_137 (hs.2.1 123 _ rfl) (hf_lin hs 123 rfl) (by decide) (by decide) hw226 rfl (hs.2.2 123 0 _ rfl) ?_
  refine hf_geti (c := 9) (j := 6) dX5_readClause_140 (hs.2.1 124 _ rfl) (hf_lin hs 124 rfl) (by decide) (by decide) hw213 (Or.inl rfl) ?_
  refine hf_istore (l2 := [some (.ref 123), some (.int x1), some (.int x2), none, some (.int x4), some (.int (I 124 6))]) dX5_readClause_143 (by decide) rfl ?_
  refine hf_aload_n dX5_readClause_145 rfl rfl ?_
  refine hf_ldcS (i := 3) dX5_readClause_146 rfl rfl ?_
  exact hf_callV (c := 5) (as := [.ref 4]) ok_X5_isWord dX5_readClause_148 hw635 hw636 hw1576 (hs.2.1 123 _ rfl) (by decide) (hf_lin hs 123 rfl) rfl (Nat.le_of_ble_eq_true rfl) rfl (Nat.le_of_ble_eq_true rfl) (Nat.zero_le _) (Nat.zero_le _) h

set_option maxHeartbeats 4000000 in
theorem w_X5_readTest_0 {X : hf_X} {d k n t : Nat} {T : hf_T} {I : hf_I} {L : hf_L} {P : hf_P} {Q : Option Value → hf_M → Prop} {x1 : Int32} (hs : hf_Lay t T P) (hby : P 123 2 = some 122) (h : hf_G X Y_X5_readBoth d 0 0 0 (hf_en [.ref 123, .int x1] 4) [] (t, T, I, L, P) (fun r M => hf_G X Y_X5_readTest (d + 1) k n 5 [some (.ref 123), some (.int x1), none, none] (r.toList ++ []) M Q)) : hf_G X Y_X5_readTest (d + 1) k n 0 (hf_en [.ref 123, .int x1] 4) [] (t, T, I, L, P) Q := by
  show hf_G X Y_X5_readTest (d + 1) k n 0 [some (.ref 123), some (.int x1), none, none] [] (t, T, I, L, P) Q
  refine hf_aload_n dX5_readTest_0 rfl rfl ?_
  refine hf_iload_n dX5_readTest_1 rfl rfl ?_
  exact hf_callV (c := 5) (as := [.int x1]) ok_X5_readBoth dX5_readTest_2 hw641 hw642 hw1578 (hs.2.1 123 _ rfl) (by decide) (hf_lin hs 123 rfl) rfl (Nat.le_of_ble_eq_true rfl) rfl (Nat.le_of_ble_eq_true rfl) (Nat.zero_le _) (Nat.zero_le _) h

set_option maxHeartbeats 4000000 in
theorem w_X5_readTest_5 {X : hf_X} {d k n t : Nat} {T : hf_T} {I : hf_I} {L : hf_L} {P : hf_P} {Q : Option Value → hf_M → Prop} {x1 : Int32} {s0 : Int32} (hs : hf_Lay t T P) (hby : P 123 2 = some 122) (h : (¬ s0 = 0 → hf_G X Y_X5_readTest d k n 12 [some (.ref 123), some (.int x1), some (.int 0), none] [] (t, T, I, L, P) Q) ∧ (s0 = 0 → Q (some (.int 0)) (t, T, I, L, P))) : hf_G X Y_X5_readTest d k n 5 [some (.ref 123), some (.int x1), none, none] [.int s0] (t, T, I, L, P) Q := by
  refine hf_if_ne (tgt := 10) dX5_readTest_5 (by decide) (fun hc => ?_) (fun hc => ?_)
  · replace h := h.1 hc
    refine hf_iconst (v := 0) dX5_readTest_10 (by decide) ?_
    refine hf_istore_n (l2 := [some (.ref 123), some (.int x1), some (.int 0), none]) dX5_readTest_11 rfl (by decide) rfl ?_
    exact h
  · replace h := h.2 hc
    refine hf_iconst (v := 0) dX5_readTest_8 (by decide) ?_
    refine hf_ireturn dX5_readTest_9 rfl (by decide) ?_
    exact h

set_option maxHeartbeats 4000000 in
theorem w_X5_readTest_12 {X : hf_X} {d k n t : Nat} {T : hf_T} {I : hf_I} {L : hf_L} {P : hf_P} {Q : Option Value → hf_M → Prop} {x1 : Int32} {x2 : Int32} (hs : hf_Lay t T P) (hby : P 123 2 = some 122) (h : (400 ≤ x2 → Q (some (.int 1)) (t, T, I, L, P)) ∧ (¬ (400 ≤ x2) → hf_G X Y_X5_isWord d 0 0 0 (hf_en [.ref 123, .ref 5] 2) [] (t, T, I, L, P) (fun r M => hf_G X Y_X5_readTest (d + 1) k n 25 [some (.ref 123), some (.int x1), some (.int x2), none] (r.toList ++ []) M Q))) : hf_G X Y_X5_readTest (d + 1) k n 12 [some (.ref 123), some (.int x1), some (.int x2), none] [] (t, T, I, L, P) Q := by
  refine hf_iload_n dX5_readTest_12 rfl rfl ?_
  refine hf_sipush (v := 400) dX5_readTest_13 (by decide) ?_
  refine hf_icmp_ge (tgt := 82) dX5_readTest_16 (by decide) (fun hc => ?_) (fun hc => ?_)
  · replace h := h.1 hc
    refine hf_iconst (v := 1) dX5_readTest_82 (by decide) ?_
    refine hf_ireturn dX5_readTest_83 rfl (by decide) ?_
    exact h
  · replace h := h.2 hc
    refine hf_aload_n dX5_readTest_19 rfl rfl ?_
    refine hf_ldcS (i := 4) dX5_readTest_20 rfl rfl ?_
    exact hf_callV (c := 5) (as := [.ref 5]) ok_X5_isWord dX5_readTest_22 hw635 hw636 hw1576 (hs.2.1 123 _ rfl) (by decide) (hf_lin hs 123 rfl) rfl (Nat.le_of_ble_eq_true rfl) rfl (Nat.le_of_ble_eq_true rfl) (Nat.zero_le _) (Nat.zero_le _) h

set_option maxHeartbeats 4000000 in
theorem w_X5_readTest_25 {X : hf_X} {d k n t : Nat} {T : hf_T} {I : hf_I} {L : hf_L} {P : hf_P} {Q : Option Value → hf_M → Prop} {x1 : Int32} {x2 : Int32} {s0 : Int32} (hs : hf_Lay t T P) (hby : P 123 2 = some 122) (h : (s0 = 0 → Q (some (.int 1)) (t, T, I, L, P)) ∧ (¬ (s0 = 0) → hf_G X Y_X9_addStep d 0 0 0 (hf_en [.ref 124, .int 11, .int 0] 3) [] (t, T, I, L, P) (fun r M => hf_G X Y_X5_readTest (d + 1) k n 46 [some (.ref 123), some (.int x1), some (.int x2), some (.int (I 124 6))] (r.toList ++ []) M Q))) : hf_G X Y_X5_readTest (d + 1) k n 25 [some (.ref 123), some (.int x1), some (.int x2), none] [.int s0] (t, T, I, L, P) Q := by
  refine hf_if_eq (tgt := 82) dX5_readTest_25 (by decide) (fun hc => ?_) (fun hc => ?_)
  · replace h := h.1 hc
    refine hf_iconst (v := 1) dX5_readTest_82 (by decide) ?_
    refine hf_ireturn dX5_readTest_83 rfl (by decide) ?_
    exact h
  · replace h := h.2 hc
    refine hf_aload_n dX5_readTest_28 rfl rfl ?_
    refine hf_getr (b := 124) (c := 5) (j := 0) dX5_readTest_29 (hs.2.1 123 _ rfl) (hf_lin hs 123 rfl) (by decide) (by decide) hw226 rfl (hs.2.2 123 0 _ rfl) ?_
    refine hf_geti (c := 9) (j := 6) dX5_readTest_32 (hs.2.1 124 _ rfl) (hf_lin hs 124 rfl) (by decide) (by decide) hw213 (Or.inl rfl) ?_
    refine hf_istore_n (l2 := [some (.ref 123), some (.int x1), some (.int x2), some (.int (I 124 6))]) dX5_readTest_35 rfl (by decide) rfl ?_
    refine hf_aload_n dX5_readTest_36 rfl rfl ?_
    refine hf_getr (b := 124) (c := 5) (j := 0) dX5_readTest_37 (hs.2.1 123 _ rfl) (hf_lin hs 123 rfl) (by decide) (by decide) hw226 rfl (hs.2.2 123 0 _ rfl) ?_
    refine hf_bipush (v := 11) dX5_readTest_40 (by decide) ?_
    refine hf_iconst (v := 0) dX5_readTest_42 (by decide) ?_
    exact hf_callV (c := 9) (as := [.int 11, .int 0]) ok_X9_addStep dX5_readTest_43 hw628 hw629 hw630 (hs.2.1 124 _ rfl) (by decide) (hf_lin hs 124 rfl) rfl (Nat.le_of_ble_eq_true rfl) rfl (Nat.le_of_ble_eq_true rfl) (Nat.zero_le _) (Nat.zero_le _) h

set_option maxHeartbeats 4000000 in
theorem w_X5_readTest_46 {X : hf_X} {d k n t : Nat} {T : hf_T} {I : hf_I} {L : hf_L} {P : hf_P} {Q : Option Value → hf_M → Prop} {x1 : Int32} {x2 : Int32} {x3 : Int32} {s0 : Int32} (hs : hf_Lay t T P) (hby : P 123 2 = some 122) (h : (¬ s0 = 0 → hf_G X Y_X5_advance d 0 0 0 (hf_en [.ref 123] 2) [] (t, T, I, L, P) (fun r M => hf_G X Y_X5_readTest (d + 1) k n 58 [some (.ref 123), some (.int x1), some (.int x2), some (.int x3)] (r.toList ++ []) M Q)) ∧ (s0 = 0 → Q (some (.int 0)) (t, T, (hf_up I 123 1 (I 123 7)), L, P))) : hf_G X Y_X5_readTest (d + 1) k n 46 [some (.ref 123), some (.int x1), some (.int x2), some (.int x3)] [.int s0] (t, T, I, L, P) Q := by
  refine hf_if_ne (tgt := 54) dX5_readTest_46 (by decide) (fun hc => ?_) (fun hc => ?_)
  · replace h := h.1 hc
    refine hf_aload_n dX5_readTest_54 rfl rfl ?_
    exact hf_callV (c := 5) (as := []) ok_X5_advance dX5_readTest_55 hw549 hw550 hw1563 (hs.2.1 123 _ rfl) (by decide) (hf_lin hs 123 rfl) rfl (Nat.le_of_ble_eq_true rfl) rfl (Nat.le_of_ble_eq_true rfl) (Nat.zero_le _) (Nat.zero_le _) h
  · replace h := h.2 hc
    refine hf_aload_n dX5_readTest_49 rfl rfl ?_
    refine hf_callV (c := 5) (as := []) ok_X5_fails dX5_readTest_50 hw607 hw608 hw1568 (hs.2.1 123 _ rfl) (by decide) (hf_lin hs 123 rfl) rfl (Nat.le_of_ble_eq_true rfl) rfl (Nat.le_of_ble_eq_true rfl) (Nat.zero_le _) (Nat.zero_le _) ?_
    show hf_G X Y_X5_fails d _ _ 0 [some (.ref 123)] [] (t, T, I, L, P) _
    refine hf_aload_n dX5_fails_0 rfl rfl ?_
    refine hf_aload_n dX5_fails_1 rfl rfl ?_
    refine hf_geti (c := 5) (j := 7) dX5_fails_2 (hs.2.1 123 _ rfl) (hf_lin hs 123 rfl) (by decide) (by decide) hw235 (Or.inl rfl) ?_
    refine hf_puti (c := 5) (j := 1) dX5_fails_5 (hs.2.1 123 _ rfl) (hf_lin hs 123 rfl) (by decide) (by decide) hw228 rfl rfl ?_
    refine hf_iconst (v := 0) dX5_fails_8 (by decide) ?_
    refine hf_ireturn dX5_fails_9 rfl (by decide) ?_
    show hf_G X Y_X5_readTest (d + 1) _ _ 53 [some (.ref 123), some (.int x1), some (.int x2), some (.int x3)] [.int 0] (t, T, (hf_up I 123 1 (I 123 7)), L, P) _
    refine hf_ireturn dX5_readTest_53 rfl (by decide) ?_
    exact h

set_option maxHeartbeats 4000000 in
theorem w_X5_readTest_58 {X : hf_X} {d k n t : Nat} {T : hf_T} {I : hf_I} {L : hf_L} {P : hf_P} {Q : Option Value → hf_M → Prop} {x1 : Int32} {x2 : Int32} {x3 : Int32} (hs : hf_Lay t T P) (hby : P 123 2 = some 122) (h : hf_G X Y_X5_readBoth d 0 0 0 (hf_en [.ref 123, .int x1] 4) [] (t, T, I, L, P) (fun r M => hf_G X Y_X5_readTest (d + 1) k n 63 [some (.ref 123), some (.int x1), some (.int x2), some (.int x3)] (r.toList ++ []) M Q)) : hf_G X Y_X5_readTest (d + 1) k n 58 [some (.ref 123), some (.int x1), some (.int x2), some (.int x3)] [] (t, T, I, L, P) Q := by
  refine hf_aload_n dX5_readTest_58 rfl rfl ?_
  refine hf_iload_n dX5_readTest_59 rfl rfl ?_
  exact hf_callV (c := 5) (as := [.int x1]) ok_X5_readBoth dX5_readTest_60 hw641 hw642 hw1578 (hs.2.1 123 _ rfl) (by decide) (hf_lin hs 123 rfl) rfl (Nat.le_of_ble_eq_true rfl) rfl (Nat.le_of_ble_eq_true rfl) (Nat.zero_le _) (Nat.zero_le _) h

set_option maxHeartbeats 4000000 in
theorem w_X5_readTest_63 {X : hf_X} {d k n t : Nat} {T : hf_T} {I : hf_I} {L : hf_L} {P : hf_P} {Q : Option Value → hf_M → Prop} {x1 : Int32} {x2 : Int32} {x3 : Int32} {s0 : Int32} (hs : hf_Lay t T P) (hby : P 123 2 = some 122) (h : (¬ s0 = 0 → hf_G X Y_X9_skipToHere d 0 0 0 (hf_en [.ref 124, .int x3] 2) [] (t, T, I, L, P) (fun r M => hf_G X Y_X5_readTest (d + 1) k n 76 [some (.ref 123), some (.int x1), some (.int x2), none] (r.toList ++ []) M Q)) ∧ (s0 = 0 → Q (some (.int 0)) (t, T, I, L, P))) : hf_G X Y_X5_readTest (d + 1) k n 63 [some (.ref 123), some (.int x1), some (.int x2), some (.int x3)] [.int s0] (t, T, I, L, P) Q := by
  refine hf_if_ne (tgt := 68) dX5_readTest_63 (by decide) (fun hc => ?_) (fun hc => ?_)
  · replace h := h.1 hc
    refine hf_aload_n dX5_readTest_68 rfl rfl ?_
    refine hf_getr (b := 124) (c := 5) (j := 0) dX5_readTest_69 (hs.2.1 123 _ rfl) (hf_lin hs 123 rfl) (by decide) (by decide) hw226 rfl (hs.2.2 123 0 _ rfl) ?_
    refine hf_iload_n dX5_readTest_72 rfl rfl ?_
    exact hf_callV (c := 9) (as := [.int x3]) ok_X9_skipToHere dX5_readTest_73 hw647 hw648 hw649 (hs.2.1 124 _ rfl) (by decide) (hf_lin hs 124 rfl) rfl (Nat.le_of_ble_eq_true rfl) rfl (Nat.le_of_ble_eq_true rfl) (Nat.zero_le _) (Nat.zero_le _) (hf_mono (fun r M q => hf_drop (l' := [some (.ref 123), some (.int x1), some (.int x2), none]) (by simp [hf_sub]) q) h)
  · replace h := h.2 hc
    refine hf_iconst (v := 0) dX5_readTest_66 (by decide) ?_
    refine hf_ireturn dX5_readTest_67 rfl (by decide) ?_
    exact h

set_option maxHeartbeats 4000000 in
theorem w_X5_readTest_76 {X : hf_X} {d k n t : Nat} {T : hf_T} {I : hf_I} {L : hf_L} {P : hf_P} {Q : Option Value → hf_M → Prop} {x1 : Int32} {x2 : Int32} (hs : hf_Lay t T P) (hby : P 123 2 = some 122) (h : hf_G X Y_X5_readTest d k n 12 [some (.ref 123), some (.int x1), some (.int (x2 + 1)), none] [] (t, T, I, L, P) Q) : hf_G X Y_X5_readTest d k n 76 [some (.ref 123), some (.int x1), some (.int x2), none] [] (t, T, I, L, P) Q := by
  refine hf_iinc (v := (x2 + 1)) (l2 := [some (.ref 123), some (.int x1), some (.int (x2 + 1)), none]) dX5_readTest_76 (by decide) rfl rfl rfl ?_
  refine hf_goto (tgt := 12) dX5_readTest_79 (by decide) ?_
  exact h

set_option maxHeartbeats 4000000 in
theorem w_X5_readBoth_0 {X : hf_X} {d k n t : Nat} {T : hf_T} {I : hf_I} {L : hf_L} {P : hf_P} {Q : Option Value → hf_M → Prop} {x1 : Int32} (hs : hf_Lay t T P) (hby : P 123 2 = some 122) (h : hf_G X Y_X5_readPlain d 0 0 0 (hf_en [.ref 123, .int x1] 4) [] (t, T, I, L, P) (fun r M => hf_G X Y_X5_readBoth (d + 1) k n 5 [some (.ref 123), some (.int x1), none, none] (r.toList ++ []) M Q)) : hf_G X Y_X5_readBoth (d + 1) k n 0 (hf_en [.ref 123, .int x1] 4) [] (t, T, I, L, P) Q := by
  show hf_G X Y_X5_readBoth (d + 1) k n 0 [some (.ref 123), some (.int x1), none, none] [] (t, T, I, L, P) Q
  refine hf_aload_n dX5_readBoth_0 rfl rfl ?_
  refine hf_iload_n dX5_readBoth_1 rfl rfl ?_
  exact hf_callV (c := 5) (as := [.int x1]) ok_X5_readPlain dX5_readBoth_2 hw644 hw645 hw1579 (hs.2.1 123 _ rfl) (by decide) (hf_lin hs 123 rfl) rfl (Nat.le_of_ble_eq_true rfl) rfl (Nat.le_of_ble_eq_true rfl) (Nat.zero_le _) (Nat.zero_le _) h

set_option maxHeartbeats 4000000 in
theorem w_X5_readBoth_5 {X : hf_X} {d k n t : Nat} {T : hf_T} {I : hf_I} {L : hf_L} {P : hf_P} {Q : Option Value → hf_M → Prop} {x1 : Int32} {s0 : Int32} (hs : hf_Lay t T P) (hby : P 123 2 = some 122) (h : (¬ s0 = 0 → hf_G X Y_X5_readBoth d k n 12 [some (.ref 123), some (.int x1), some (.int 0), none] [] (t, T, I, L, P) Q) ∧ (s0 = 0 → Q (some (.int 0)) (t, T, I, L, P))) : hf_G X Y_X5_readBoth d k n 5 [some (.ref 123), some (.int x1), none, none] [.int s0] (t, T, I, L, P) Q := by
  refine hf_if_ne (tgt := 10) dX5_readBoth_5 (by decide) (fun hc => ?_) (fun hc => ?_)
  · replace h := h.1 hc
    refine hf_iconst (v := 0) dX5_readBoth_10 (by decide) ?_
    refine hf_istore_n (l2 := [some (.ref 123), some (.int x1), some (.int 0), none]) dX5_readBoth_11 rfl (by decide) rfl ?_
    exact h
  · replace h := h.2 hc
    refine hf_iconst (v := 0) dX5_readBoth_8 (by decide) ?_
    refine hf_ireturn dX5_readBoth_9 rfl (by decide) ?_
    exact h

set_option maxHeartbeats 4000000 in
theorem w_X5_readBoth_12 {X : hf_X} {d k n t : Nat} {T : hf_T} {I : hf_I} {L : hf_L} {P : hf_P} {Q : Option Value → hf_M → Prop} {x1 : Int32} {x2 : Int32} (hs : hf_Lay t T P) (hby : P 123 2 = some 122) (h : (400 ≤ x2 → Q (some (.int 1)) (t, T, I, L, P)) ∧ (¬ (400 ≤ x2) → hf_G X Y_X5_isWord d 0 0 0 (hf_en [.ref 123, .ref 6] 2) [] (t, T, I, L, P) (fun r M => hf_G X Y_X5_readBoth (d + 1) k n 25 [some (.ref 123), some (.int x1), some (.int x2), none] (r.toList ++ []) M Q))) : hf_G X Y_X5_readBoth (d + 1) k n 12 [some (.ref 123), some (.int x1), some (.int x2), none] [] (t, T, I, L, P) Q := by
  refine hf_iload_n dX5_readBoth_12 rfl rfl ?_
  refine hf_sipush (v := 400) dX5_readBoth_13 (by decide) ?_
  refine hf_icmp_ge (tgt := 82) dX5_readBoth_16 (by decide) (fun hc => ?_) (fun hc => ?_)
  · replace h := h.1 hc
    refine hf_iconst (v := 1) dX5_readBoth_82 (by decide) ?_
    refine hf_ireturn dX5_readBoth_83 rfl (by decide) ?_
    exact h
  · replace h := h.2 hc
    refine hf_aload_n dX5_readBoth_19 rfl rfl ?_
    refine hf_ldcS (i := 5) dX5_readBoth_20 rfl rfl ?_
    exact hf_callV (c := 5) (as := [.ref 6]) ok_X5_isWord dX5_readBoth_22 hw635 hw636 hw1576 (hs.2.1 123 _ rfl) (by decide) (hf_lin hs 123 rfl) rfl (Nat.le_of_ble_eq_true rfl) rfl (Nat.le_of_ble_eq_true rfl) (Nat.zero_le _) (Nat.zero_le _) h

set_option maxHeartbeats 4000000 in
theorem w_X5_readBoth_25 {X : hf_X} {d k n t : Nat} {T : hf_T} {I : hf_I} {L : hf_L} {P : hf_P} {Q : Option Value → hf_M → Prop} {x1 : Int32} {x2 : Int32} {s0 : Int32} (hs : hf_Lay t T P) (hby : P 123 2 = some 122) (h : (s0 = 0 → Q (some (.int 1)) (t, T, I, L, P)) ∧ (¬ (s0 = 0) → hf_G X Y_X9_addStep d 0 0 0 (hf_en [.ref 124, .int 12, .int 0] 3) [] (t, T, I, L, P) (fun r M => hf_G X Y_X5_readBoth (d + 1) k n 46 [some (.ref 123), some (.int x1), some (.int x2), some (.int (I 124 6))] (r.toList ++ []) M Q))) : hf_G X Y_X5_readBoth (d + 1) k n 25 [some (.ref 123), some (.int x1), some (.int x2), none] [.int s0] (t, T, I, L, P) Q := by
  refine hf_if_eq (tgt := 82) dX5_readBoth_25 (by decide) (fun hc => ?_) (fun hc => ?_)
  · replace h := h.1 hc
    refine hf_iconst (v := 1) dX5_readBoth_82 (by decide) ?_
    refine hf_ireturn dX5_readBoth_83 rfl (by decide) ?_
    exact h
  · replace h := h.2 hc
    refine hf_aload_n dX5_readBoth_28 rfl rfl ?_
    refine hf_getr (b := 124) (c := 5) (j := 0) dX5_readBoth_29 (hs.2.1 123 _ rfl) (hf_lin hs 123 rfl) (by decide) (by decide) hw226 rfl (hs.2.2 123 0 _ rfl) ?_
    refine hf_geti (c := 9) (j := 6) dX5_readBoth_32 (hs.2.1 124 _ rfl) (hf_lin hs 124 rfl) (by decide) (by decide) hw213 (Or.inl rfl) ?_
    refine hf_istore_n (l2 := [some (.ref 123), some (.int x1), some (.int x2), some (.int (I 124 6))]) dX5_readBoth_35 rfl (by decide) rfl ?_
    refine hf_aload_n dX5_readBoth_36 rfl rfl ?_
    refine hf_getr (b := 124) (c := 5) (j := 0) dX5_readBoth_37 (hs.2.1 123 _ rfl) (hf_lin hs 123 rfl) (by decide) (by decide) hw226 rfl (hs.2.2 123 0 _ rfl) ?_
    refine hf_bipush (v := 12) dX5_readBoth_40 (by decide) ?_
    refine hf_iconst (v := 0) dX5_readBoth_42 (by decide) ?_
    exact hf_callV (c := 9) (as := [.int 12, .int 0]) ok_X9_addStep dX5_readBoth_43 hw628 hw629 hw630 (hs.2.1 124 _ rfl) (by decide) (hf_lin hs 124 rfl) rfl (Nat.le_of_ble_eq_true rfl) rfl (Nat.le_of_ble_eq_true rfl) (Nat.zero_le _) (Nat.zero_le _) h

set_option maxHeartbeats 4000000 in
theorem w_X5_readBoth_46 {X : hf_X} {d k n t : Nat} {T : hf_T} {I : hf_I} {L : hf_L} {P : hf_P} {Q : Option Value → hf_M → Prop} {x1 : Int32} {x2 : Int32} {x3 : Int32} {s0 : Int32} (hs : hf_Lay t T P) (hby : P 123 2 = some 122) (h : (¬ s0 = 0 → hf_G X Y_X5_advance d 0 0 0 (hf_en [.ref 123] 2) [] (t, T, I, L, P) (fun r M => hf_G X Y_X5_readBoth (d + 1) k n 58 [some (.ref 123), some (.int x1), some (.int x2), some (.int x3)] (r.toList ++ []) M Q)) ∧ (s0 = 0 → Q (some (.int 0)) (t, T, (hf_up I 123 1 (I 123 7)), L, P))) : hf_G X Y_X5_readBoth (d + 1) k n 46 [some (.ref 123), some (.int x1), some (.int x2), some (.int x3)] [.int s0] (t, T, I, L, P) Q := by
  refine hf_if_ne (tgt := 54) dX5_readBoth_46 (by decide) (fun hc => ?_) (fun hc => ?_)
  · replace h := h.1 hc
    refine hf_aload_n dX5_readBoth_54 rfl rfl ?_
    exact hf_callV (c := 5) (as := []) ok_X5_advance dX5_readBoth_55 hw549 hw550 hw1563 (hs.2.1 123 _ rfl) (by decide) (hf_lin hs 123 rfl) rfl (Nat.le_of_ble_eq_true rfl) rfl (Nat.le_of_ble_eq_true rfl) (Nat.zero_le _) (Nat.zero_le _) h
  · replace h := h.2 hc
    refine hf_aload_n dX5_readBoth_49 rfl rfl ?_
    refine hf_callV (c := 5) (as := []) ok_X5_fails dX5_readBoth_50 hw607 hw608 hw1568 (hs.2.1 123 _ rfl) (by decide) (hf_lin hs 123 rfl) rfl (Nat.le_of_ble_eq_true rfl) rfl (Nat.le_of_ble_eq_true rfl) (Nat.zero_le _) (Nat.zero_le _) ?_
    show hf_G X Y_X5_fails d _ _ 0 [some (.ref 123)] [] (t, T, I, L, P) _
    refine hf_aload_n dX5_fails_0 rfl rfl ?_
    refine hf_aload_n dX5_fails_1 rfl rfl ?_
    refine hf_geti (c := 5) (j := 7) dX5_fails_2 (hs.2.1 123 _ rfl) (hf_lin hs 123 rfl) (by decide) (by decide) hw235 (Or.inl rfl) ?_
    refine hf_puti (c := 5) (j := 1) dX5_fails_5 (hs.2.1 123 _ rfl) (hf_lin hs 123 rfl) (by decide) (by decide) hw228 rfl rfl ?_
    refine hf_iconst (v := 0) dX5_fails_8 (by decide) ?_
    refine hf_ireturn dX5_fails_9 rfl (by decide) ?_
    show hf_G X Y_X5_readBoth (d + 1) _ _ 53 [some (.ref 123), some (.int x1), some (.int x2), some (.int x3)] [.int 0] (t, T, (hf_up I 123 1 (I 123 7)), L, P) _
    refine hf_ireturn dX5_readBoth_53 rfl (by decide) ?_
    exact h

set_option maxHeartbeats 4000000 in
theorem w_X5_readBoth_58 {X : hf_X} {d k n t : Nat} {T : hf_T} {I : hf_I} {L : hf_L} {P : hf_P} {Q : Option Value → hf_M → Prop} {x1 : Int32} {x2 : Int32} {x3 : Int32} (hs : hf_Lay t T P) (hby : P 123 2 = some 122) (h : hf_G X Y_X5_readPlain d 0 0 0 (hf_en [.ref 123, .int x1] 4) [] (t, T, I, L, P) (fun r M => hf_G X Y_X5_readBoth (d + 1) k n 63 [some (.ref 123), some (.int x1), some (.int x2), some (.int x3)] (r.toList ++ []) M Q)) : hf_G X Y_X5_readBoth (d + 1) k n 58 [some (.ref 123), some (.int x1), some (.int x2), some (.int x3)] [] (t, T, I, L, P) Q := by
  refine hf_aload_n dX5_readBoth_58 rfl rfl ?_
  refine hf_iload_n dX5_readBoth_59 rfl rfl ?_
  exact hf_callV (c := 5) (as := [.int x1]) ok_X5_readPlain dX5_readBoth_60 hw644 hw645 hw1579 (hs.2.1 123 _ rfl) (by decide) (hf_lin hs 123 rfl) rfl (Nat.le_of_ble_eq_true rfl) rfl (Nat.le_of_ble_eq_true rfl) (Nat.zero_le _) (Nat.zero_le _) h

set_option maxHeartbeats 4000000 in
theorem w_X5_readBoth_63 {X : hf_X} {d k n t : Nat} {T : hf_T} {I : hf_I} {L : hf_L} {P : hf_P} {Q : Option Value → hf_M → Prop} {x1 : Int32} {x2 : Int32} {x3 : Int32} {s0 : Int32} (hs : hf_Lay t T P) (hby : P 123 2 = some 122) (h : (¬ s0 = 0 → hf_G X Y_X9_skipToHere d 0 0 0 (hf_en [.ref 124, .int x3] 2) [] (t, T, I, L, P) (fun r M => hf_G X Y_X5_readBoth (d + 1) k n 76 [some (.ref 123), some (.int x1), some (.int x2), none] (r.toList ++ []) M Q)) ∧ (s0 = 0 → Q (some (.int 0)) (t, T, I, L, P))) : hf_G X Y_X5_readBoth (d + 1) k n 63 [some (.ref 123), some (.int x1), some (.int x2), some (.int x3)] [.int s0] (t, T, I, L, P) Q := by
  refine hf_if_ne (tgt := 68) dX5_readBoth_63 (by decide) (fun hc => ?_) (fun hc => ?_)
  · replace h := h.1 hc
    refine hf_aload_n dX5_readBoth_68 rfl rfl ?_
    refine hf_getr (b := 124) (c := 5) (j := 0) dX5_readBoth_69 (hs.2.1 123 _ rfl) (hf_lin hs 123 rfl) (by decide) (by decide) hw226 rfl (hs.2.2 123 0 _ rfl) ?_
    refine hf_iload_n dX5_readBoth_72 rfl rfl ?_
    exact hf_callV (c := 9) (as := [.int x3]) ok_X9_skipToHere dX5_readBoth_73 hw647 hw648 hw649 (hs.2.1 124 _ rfl) (by decide) (hf_lin hs 124 rfl) rfl (Nat.le_of_ble_eq_true rfl) rfl (Nat.le_of_ble_eq_true rfl) (Nat.zero_le _) (Nat.zero_le _) (hf_mono (fun r M q => hf_drop (l' := [some (.ref 123), some (.int x1), some (.int x2), none]) (by simp [hf_sub]) q) h)
  · replace h := h.2 hc
    refine hf_iconst (v := 0) dX5_readBoth_66 (by decide) ?_
    refine hf_ireturn dX5_readBoth_67 rfl (by decide) ?_
    exact h

set_option maxHeartbeats 4000000 in
theorem w_X5_readBoth_76 {X : hf_X} {d k n t : Nat} {T : hf_T} {I : hf_I} {L : hf_L} {P : hf_P} {Q : Option Value → hf_M → Prop} {x1 : Int32} {x2 : Int32} (hs : hf_Lay t T P) (hby : P 123 2 = some 122) (h : hf_G X Y_X5_readBoth d k n 12 [some (.ref 123), some (.int x1), some (.int (x2 + 1)), none] [] (t, T, I, L, P) Q) : hf_G X Y_X5_readBoth d k n 76 [some (.ref 123), some (.int x1), some (.int x2), none] [] (t, T, I, L, P) Q := by
  refine hf_iinc (v := (x2 + 1)) (l2 := [some (.ref 123), some (.int x1), some (.int (x2 + 1)), none]) dX5_readBoth_76 (by decide) rfl rfl rfl ?_
  refine hf_goto (tgt := 12) dX5_readBoth_79 (by decide) ?_
  exact h

set_option maxHeartbeats 4000000 in
theorem w_X5_readPlain_0 {X : hf_X} {d k n t : Nat} {T : hf_T} {I : hf_I} {L : hf_L} {P : hf_P} {Q : Option Value → hf_M → Prop} {x1 : Int32} (hs : hf_Lay t T P) (hby : P 123 2 = some 122) (h : hf_G X Y_X5_readPlain d k n 4 [some (.ref 123), some (.int x1), some (.int 0), some (.int 0)] [] (t, T, I, L, P) Q) : hf_G X Y_X5_readPlain d k n 0 (hf_en [.ref 123, .int x1] 4) [] (t, T, I, L, P) Q := by
  show hf_G X Y_X5_readPlain d k n 0 [some (.ref 123), some (.int x1), none, none] [] (t, T, I, L, P) Q
  refine hf_iconst (v := 0) dX5_readPlain_0 (by decide) ?_
  refine hf_istore_n (l2 := [some (.ref 123), some (.int x1), some (.int 0), none]) dX5_readPlain_1 rfl (by decide) rfl ?_
  refine hf_iconst (v := 0) dX5_readPlain_2 (by decide) ?_
  refine hf_istore_n (l2 := [some (.ref 123), some (.int x1), some (.int 0), some (.int 0)]) dX5_readPlain_3 rfl (by decide) rfl ?_
  exact h

set_option maxHeartbeats 4000000 in
theorem w_X5_readPlain_4 {X : hf_X} {d k n t : Nat} {T : hf_T} {I : hf_I} {L : hf_L} {P : hf_P} {Q : Option Value → hf_M → Prop} {x1 : Int32} {x2 : Int32} {x3 : Int32} (hs : hf_Lay t T P) (hby : P 123 2 = some 122) (h : (400 ≤ x3 → hf_G X Y_X5_isSign d 0 0 0 (hf_en [.ref 123, .int 40] 2) [] (t, T, I, L, P) (fun r M => hf_G X Y_X5_readPlain (d + 1) k n 46 [some (.ref 123), some (.int x1), some (.int x2), none] (r.toList ++ []) M Q)) ∧ (¬ (400 ≤ x3) → hf_G X Y_X5_isWord d 0 0 0 (hf_en [.ref 123, .ref 7] 2) [] (t, T, I, L, P) (fun r M => hf_G X Y_X5_readPlain (d + 1) k n 17 [some (.ref 123), some (.int x1), some (.int x2), some (.int x3)] (r.toList ++ []) M Q))) : hf_G X Y_X5_readPlain (d + 1) k n 4 [some (.ref 123), some (.int x1), some (.int x2), some (.int x3)] [] (t, T, I, L, P) Q := by
  refine hf_iload_n dX5_readPlain_4 rfl rfl ?_
  refine hf_sipush (v := 400) dX5_readPlain_5 (by decide) ?_
  refine hf_icmp_ge (tgt := 40) dX5_readPlain_8 (by decide) (fun hc => ?_) (fun hc => ?_)
  · replace h := h.1 hc
    refine hf_aload_n dX5_readPlain_40 rfl rfl ?_
    refine hf_bipush (v := 40) dX5_readPlain_41 (by decide) ?_
    exact hf_callV (c := 5) (as := [.int 40]) ok_X5_isSign dX5_readPlain_43 hw619 hw620 hw1572 (hs.2.1 123 _ rfl) (by decide) (hf_lin hs 123 rfl) rfl (Nat.le_of_ble_eq_true rfl) rfl (Nat.le_of_ble_eq_true rfl) (Nat.zero_le _) (Nat.zero_le _) (hf_mono (fun r M q => hf_drop (l' := [some (.ref 123), some (.int x1), some (.int x2), none]) (by simp [hf_sub]) q) h)
  · replace h := h.2 hc
    refine hf_aload_n dX5_readPlain_11 rfl rfl ?_
    refine hf_ldcS (i := 6) dX5_readPlain_12 rfl rfl ?_
    exact hf_callV (c := 5) (as := [.ref 7]) ok_X5_isWord dX5_readPlain_14 hw635 hw636 hw1576 (hs.2.1 123 _ rfl) (by decide) (hf_lin hs 123 rfl) rfl (Nat.le_of_ble_eq_true rfl) rfl (Nat.le_of_ble_eq_true rfl) (Nat.zero_le _) (Nat.zero_le _) h

set_option maxHeartbeats 4000000 in
theorem w_X5_readPlain_46 {X : hf_X} {d k n t : Nat} {T : hf_T} {I : hf_I} {L : hf_L} {P : hf_P} {Q : Option Value → hf_M → Prop} {x1 : Int32} {x2 : Int32} {s0 : Int32} (hs : hf_Lay t T P) (hby : P 123 2 = some 122) (h : (s0 = 0 → hf_G X Y_X5_readSum d 0 0 0 (hf_en [.ref 123, .int x1] 4) [] (t, T, I, L, P) (fun r M => hf_G X Y_X5_readPlain (d + 1) k n 102 [some (.ref 123), some (.int x1), some (.int x2), none] (r.toList ++ []) M Q)) ∧ (¬ (s0 = 0) → (x1 < 8 → hf_G X Y_X5_advance d 0 0 0 (hf_en [.ref 123] 2) [] (t, T, I, L, P) (fun r M => hf_G X Y_X5_readPlain (d + 1) k n 64 [some (.ref 123), some (.int x1), some (.int x2), none] (r.toList ++ []) M Q)) ∧ (¬ (x1 < 8) → Q (some (.int 0)) (t, T, (hf_up I 123 1 (I 123 7)), L, P)))) : hf_G X Y_X5_readPlain (d + 1) k n 46 [some (.ref 123), some (.int x1), some (.int x2), none] [.int s0] (t, T, I, L, P) Q := by
  refine hf_if_eq (tgt := 97) dX5_readPlain_46 (by decide) (fun hc => ?_) (fun hc => ?_)
  · replace h := h.1 hc
    refine hf_aload_n dX5_readPlain_97 rfl rfl ?_
    refine hf_iload_n dX5_readPlain_98 rfl rfl ?_
    exact hf_callV (c := 5) (as := [.int x1]) ok_X5_readSum dX5_readPlain_99 hw610 hw611 hw1569 (hs.2.1 123 _ rfl) (by decide) (hf_lin hs 123 rfl) rfl (Nat.le_of_ble_eq_true rfl) rfl (Nat.le_of_ble_eq_true rfl) (Nat.zero_le _) (Nat.zero_le _) h
  · replace h := h.2 hc
    refine hf_iload_n dX5_readPlain_49 rfl rfl ?_
    refine hf_bipush (v := 8) dX5_readPlain_50 (by decide) ?_
    refine hf_icmp_lt (tgt := 60) dX5_readPlain_52 (by decide) (fun hc => ?_) (fun hc => ?_)
    · replace h := h.1 hc
      refine hf_aload_n dX5_readPlain_60 rfl rfl ?_
      exact hf_callV (c := 5) (as := []) ok_X5_advance dX5_readPlain_61 hw549 hw550 hw1563 (hs.2.1 123 _ rfl) (by decide) (hf_lin hs 123 rfl) rfl (Nat.le_of_ble_eq_true rfl) rfl (Nat.le_of_ble_eq_true rfl) (Nat.zero_le _) (Nat.zero_le _) h
    · replace h := h.2 hc
      refine hf_aload_n dX5_readPlain_55 rfl rfl ?_
      refine hf_callV (c := 5) (as := []) ok_X5_fails dX5_readPlain_56 hw607 hw608 hw1568 (hs.2.1 123 _ rfl) (by decide) (hf_lin hs 123 rfl) rfl (Nat.le_of_ble_eq_true rfl) rfl (Nat.le_of_ble_eq_true rfl) (Nat.zero_le _) (Nat.zero_le _) ?_
      show hf_G X Y_X5_fails d _ _ 0 [some (.ref 123)] [] (t, T, I, L, P) _
      refine hf_aload_n dX5_fails_0 rfl rfl ?_
      refine hf_aload_n dX5_fails_1 rfl rfl ?_
      refine hf_geti (c := 5) (j := 7) dX5_fails_2 (hs.2.1 123 _ rfl) (hf_lin hs 123 rfl) (by decide) (by decide) hw235 (Or.inl rfl) ?_
      refine hf_puti (c := 5) (j := 1) dX5_fails_5 (hs.2.1 123 _ rfl) (hf_lin hs 123 rfl) (by decide) (by decide) hw228 rfl rfl ?_
      refine hf_iconst (v := 0) dX5_fails_8 (by decide) ?_
      refine hf_ireturn dX5_fails_9 rfl (by decide) ?_
      show hf_G X Y_X5_readPlain (d + 1) _ _ 59 [some (.ref 123), some (.int x1), some (.int x2), none] [.int 0] (t, T, (hf_up I 123 1 (I 123 7)), L, P) _
      refine hf_ireturn dX5_readPlain_59 rfl (by decide) ?_
      exact h

set_option maxHeartbeats 4000000 in
theorem w_X5_readPlain_17 {X : hf_X} {d k n t : Nat} {T : hf_T} {I : hf_I} {L : hf_L} {P : hf_P} {Q : Option Value → hf_M → Prop} {x1 : Int32} {x2 : Int32} {x3 : Int32} {s0 : Int32} (hs : hf_Lay t T P) (hby : P 123 2 = some 122) (h : (s0 = 0 → hf_G X Y_X5_isSign d 0 0 0 (hf_en [.ref 123, .int 40] 2) [] (t, T, I, L, P) (fun r M => hf_G X Y_X5_readPlain (d + 1) k n 46 [some (.ref 123), some (.int x1), some (.int x2), none] (r.toList ++ []) M Q)) ∧ (¬ (s0 = 0) → (¬ x2 = 0 → hf_G X Y_X5_advance d 0 0 0 (hf_en [.ref 123] 2) [] (t, T, I, L, P) (fun r M => hf_G X Y_X5_readPlain (d + 1) k n 34 [some (.ref 123), some (.int x1), some (.int 0), some (.int x3)] (r.toList ++ []) M Q)) ∧ (x2 = 0 → hf_G X Y_X5_advance d 0 0 0 (hf_en [.ref 123] 2) [] (t, T, I, L, P) (fun r M => hf_G X Y_X5_readPlain (d + 1) k n 34 [some (.ref 123), some (.int x1), some (.int 1), some (.int x3)] (r.toList ++ []) M Q)))) : hf_G X Y_X5_readPlain (d + 1) k n 17 [some (.ref 123), some (.int x1), some (.int x2), some (.int x3)] [.int s0] (t, T, I, L, P) Q := by
  refine hf_if_eq (tgt := 40) dX5_readPlain_17 (by decide) (fun hc => ?_) (fun hc => ?_)
  · replace h := h.1 hc
    refine hf_aload_n dX5_readPlain_40 rfl rfl ?_
    refine hf_bipush (v := 40) dX5_readPlain_41 (by decide) ?_
    exact hf_callV (c := 5) (as := [.int 40]) ok_X5_isSign dX5_readPlain_43 hw619 hw620 hw1572 (hs.2.1 123 _ rfl) (by decide) (hf_lin hs 123 rfl) rfl (Nat.le_of_ble_eq_true rfl) rfl (Nat.le_of_ble_eq_true rfl) (Nat.zero_le _) (Nat.zero_le _) (hf_mono (fun r M q => hf_drop (l' := [some (.ref 123), some (.int x1), some (.int x2), none]) (by simp [hf_sub]) q) h)
  · replace h := h.2 hc
    refine hf_iload_n dX5_readPlain_20 rfl rfl ?_
    refine hf_if_ne (tgt := 28) dX5_readPlain_21 (by decide) (fun hc => ?_) (fun hc => ?_)
    · replace h := h.1 hc
      refine hf_iconst (v := 0) dX5_readPlain_28 (by decide) ?_
      refine hf_istore_n (l2 := [some (.ref 123), some (.int x1), some (.int 0), some (.int x3)]) dX5_readPlain_29 rfl (by decide) rfl ?_
      refine hf_aload_n dX5_readPlain_30 rfl rfl ?_
      exact hf_callV (c := 5) (as := []) ok_X5_advance dX5_readPlain_31 hw549 hw550 hw1563 (hs.2.1 123 _ rfl) (by decide) (hf_lin hs 123 rfl) rfl (Nat.le_of_ble_eq_true rfl) rfl (Nat.le_of_ble_eq_true rfl) (Nat.zero_le _) (Nat.zero_le _) h
    · replace h := h.2 hc
      refine hf_iconst (v := 1) dX5_readPlain_24 (by decide) ?_
      refine hf_goto (tgt := 29) dX5_readPlain_25 (by decide) ?_
      refine hf_istore_n (l2 := [some (.ref 123), some (.int x1), some (.int 1), some (.int x3)]) dX5_readPlain_29 rfl (by decide) rfl ?_
      refine hf_aload_n dX5_readPlain_30 rfl rfl ?_
      exact hf_callV (c := 5) (as := []) ok_X5_advance dX5_readPlain_31 hw549 hw550 hw1563 (hs.2.1 123 _ rfl) (by decide) (hf_lin hs 123 rfl) rfl (Nat.le_of_ble_eq_true rfl) rfl (Nat.le_of_ble_eq_true rfl) (Nat.zero_le _) (Nat.zero_le _) h

set_option maxHeartbeats 4000000 in
theorem w_X5_readPlain_102 {X : hf_X} {d k n t : Nat} {T : hf_T} {I : hf_I} {L : hf_L} {P : hf_P} {Q : Option Value → hf_M → Prop} {x1 : Int32} {x2 : Int32} {s0 : Int32} (hs : hf_Lay t T P) (hby : P 123 2 = some 122) (h : (¬ s0 = 0 → hf_G X Y_X5_signStep d 0 0 0 (hf_en [.ref 123, .ref 8, .int 7] 4) [] (t, T, I, L, P) (fun r M => hf_G X Y_X5_readPlain (d + 1) k n 115 [some (.ref 123), some (.int x1), some (.int x2), none] (r.toList ++ []) M Q)) ∧ (s0 = 0 → Q (some (.int 0)) (t, T, I, L, P))) : hf_G X Y_X5_readPlain (d + 1) k n 102 [some (.ref 123), some (.int x1), some (.int x2), none] [.int s0] (t, T, I, L, P) Q := by
  refine hf_if_ne (tgt := 107) dX5_readPlain_102 (by decide) (fun hc => ?_) (fun hc => ?_)
  · replace h := h.1 hc
    refine hf_aload_n dX5_readPlain_107 rfl rfl ?_
    refine hf_ldcS (i := 7) dX5_readPlain_108 rfl rfl ?_
    refine hf_bipush (v := 7) dX5_readPlain_110 (by decide) ?_
    exact hf_callV (c := 5) (as := [.ref 8, .int 7]) ok_X5_signStep dX5_readPlain_112 hw632 hw633 hw1575 (hs.2.1 123 _ rfl) (by decide) (hf_lin hs 123 rfl) rfl (Nat.le_of_ble_eq_true rfl) rfl (Nat.le_of_ble_eq_true rfl) (Nat.zero_le _) (Nat.zero_le _) h
  · replace h := h.2 hc
    refine hf_iconst (v := 0) dX5_readPlain_105 (by decide) ?_
    refine hf_ireturn dX5_readPlain_106 rfl (by decide) ?_
    exact h

set_option maxHeartbeats 4000000 in
theorem w_X5_readPlain_64 {X : hf_X} {d k n t : Nat} {T : hf_T} {I : hf_I} {L : hf_L} {P : hf_P} {Q : Option Value → hf_M → Prop} {x1 : Int32} {x2 : Int32} (hs : hf_Lay t T P) (hby : P 123 2 = some 122) (h : hf_G X Y_X5_readTest d 0 0 0 (hf_en [.ref 123, .int (x1 + 1)] 4) [] (t, T, I, L, P) (fun r M => hf_G X Y_X5_readPlain (d + 1) k n 71 [some (.ref 123), none, some (.int x2), none] (r.toList ++ []) M Q)) : hf_G X Y_X5_readPlain (d + 1) k n 64 [some (.ref 123), some (.int x1), some (.int x2), none] [] (t, T, I, L, P) Q := by
  refine hf_aload_n dX5_readPlain_64 rfl rfl ?_
  refine hf_iload_n dX5_readPlain_65 rfl rfl ?_
  refine hf_iconst (v := 1) dX5_readPlain_66 (by decide) ?_
  refine hf_iadd dX5_readPlain_67 ?_
  exact hf_callV (c := 5) (as := [.int (x1 + 1)]) ok_X5_readTest dX5_readPlain_68 hw638 hw639 hw1577 (hs.2.1 123 _ rfl) (by decide) (hf_lin hs 123 rfl) rfl (Nat.le_of_ble_eq_true rfl) rfl (Nat.le_of_ble_eq_true rfl) (Nat.zero_le _) (Nat.zero_le _) (hf_mono (fun r M q => hf_drop (l' := [some (.ref 123), none, some (.int x2), none]) (by simp [hf_sub]) q) h)

set_option maxHeartbeats 4000000 in
theorem w_X5_readPlain_34 {X : hf_X} {d k n t : Nat} {T : hf_T} {I : hf_I} {L : hf_L} {P : hf_P} {Q : Option Value → hf_M → Prop} {x1 : Int32} {x2 : Int32} {x3 : Int32} (hs : hf_Lay t T P) (hby : P 123 2 = some 122) (h : hf_G X Y_X5_readPlain d k n 4 [some (.ref 123), some (.int x1), some (.int x2), some (.int (x3 + 1))] [] (t, T, I, L, P) Q) : hf_G X Y_X5_readPlain d k n 34 [some (.ref 123), some (.int x1), some (.int x2), some (.int x3)] [] (t, T, I, L, P) Q := by
  refine hf_iinc (v := (x3 + 1)) (l2 := [some (.ref 123), some (.int x1), some (.int x2), some (.int (x3 + 1))]) dX5_readPlain_34 (by decide) rfl rfl rfl ?_
  refine hf_goto (tgt := 4) dX5_readPlain_37 (by decide) ?_
  exact h

set_option maxHeartbeats 4000000 in
theorem w_X5_readPlain_115 {X : hf_X} {d k n t : Nat} {T : hf_T} {I : hf_I} {L : hf_L} {P : hf_P} {Q : Option Value → hf_M → Prop} {x1 : Int32} {x2 : Int32} {s0 : Int32} (hs : hf_Lay t T P) (hby : P 123 2 = some 122) (h : (¬ s0 = (-1) → hf_G X Y_X5_advance d 0 0 0 (hf_en [.ref 123] 2) [] (t, T, I, L, P) (fun r M => hf_G X Y_X5_readPlain (d + 1) k n 130 [some (.ref 123), some (.int x1), some (.int x2), some (.int s0)] (r.toList ++ []) M Q)) ∧ (s0 = (-1) → Q (some (.int 0)) (t, T, (hf_up I 123 1 (I 123 7)), L, P))) : hf_G X Y_X5_readPlain (d + 1) k n 115 [some (.ref 123), some (.int x1), some (.int x2), none] [.int s0] (t, T, I, L, P) Q := by
  refine hf_istore_n (l2 := [some (.ref 123), some (.int x1), some (.int x2), some (.int s0)]) dX5_readPlain_115 rfl (by decide) rfl ?_
  refine hf_iload_n dX5_readPlain_116 rfl rfl ?_
  refine hf_iconst (v := (-1)) dX5_readPlain_117 (by decide) ?_
  refine hf_icmp_ne (tgt := 126) dX5_readPlain_118 (by decide) (fun hc => ?_) (fun hc => ?_)
  · replace h := h.1 hc
    refine hf_aload_n dX5_readPlain_126 rfl rfl ?_
    exact hf_callV (c := 5) (as := []) ok_X5_advance dX5_readPlain_127 hw549 hw550 hw1563 (hs.2.1 123 _ rfl) (by decide) (hf_lin hs 123 rfl) rfl (Nat.le_of_ble_eq_true rfl) rfl (Nat.le_of_ble_eq_true rfl) (Nat.zero_le _) (Nat.zero_le _) h
  · replace h := h.2 hc
    refine hf_aload_n dX5_readPlain_121 rfl rfl ?_
    refine hf_callV (c := 5) (as := []) ok_X5_fails dX5_readPlain_122 hw607 hw608 hw1568 (hs.2.1 123 _ rfl) (by decide) (hf_lin hs 123 rfl) rfl (Nat.le_of_ble_eq_true rfl) rfl (Nat.le_of_ble_eq_true rfl) (Nat.zero_le _) (Nat.zero_le _) ?_
    show hf_G X Y_X5_fails d _ _ 0 [some (.ref 123)] [] (t, T, I, L, P) _
    refine hf_aload_n dX5_fails_0 rfl rfl ?_
    refine hf_aload_n dX5_fails_1 rfl rfl ?_
    refine hf_geti (c := 5) (j := 7) dX5_fails_2 (hs.2.1 123 _ rfl) (hf_lin hs 123 rfl) (by decide) (by decide) hw235 (Or.inl rfl) ?_
    refine hf_puti (c := 5) (j := 1) dX5_fails_5 (hs.2.1 123 _ rfl) (hf_lin hs 123 rfl) (by decide) (by decide) hw228 rfl rfl ?_
    refine hf_iconst (v := 0) dX5_fails_8 (by decide) ?_
    refine hf_ireturn dX5_fails_9 rfl (by decide) ?_
    show hf_G X Y_X5_readPlain (d + 1) _ _ 125 [some (.ref 123), some (.int x1), some (.int x2), some (.int s0)] [.int 0] (t, T, (hf_up I 123 1 (I 123 7)), L, P) _
    refine hf_ireturn dX5_readPlain_125 rfl (by decide) ?_
    exact h

set_option maxHeartbeats 4000000 in
theorem w_X5_readPlain_71 {X : hf_X} {d k n t : Nat} {T : hf_T} {I : hf_I} {L : hf_L} {P : hf_P} {Q : Option Value → hf_M → Prop} {x2 : Int32} {s0 : Int32} (hs : hf_Lay t T P) (hby : P 123 2 = some 122) (h : (¬ s0 = 0 → hf_G X Y_X5_isSign d 0 0 0 (hf_en [.ref 123, .int 41] 2) [] (t, T, I, L, P) (fun r M => hf_G X Y_X5_readPlain (d + 1) k n 82 [some (.ref 123), none, some (.int x2), none] (r.toList ++ []) M Q)) ∧ (s0 = 0 → Q (some (.int 0)) (t, T, I, L, P))) : hf_G X Y_X5_readPlain (d + 1) k n 71 [some (.ref 123), none, some (.int x2), none] [.int s0] (t, T, I, L, P) Q := by
  refine hf_if_ne (tgt := 76) dX5_readPlain_71 (by decide) (fun hc => ?_) (fun hc => ?_)
  · replace h := h.1 hc
    refine hf_aload_n dX5_readPlain_76 rfl rfl ?_
    refine hf_bipush (v := 41) dX5_readPlain_77 (by decide) ?_
    exact hf_callV (c := 5) (as := [.int 41]) ok_X5_isSign dX5_readPlain_79 hw619 hw620 hw1572 (hs.2.1 123 _ rfl) (by decide) (hf_lin hs 123 rfl) rfl (Nat.le_of_ble_eq_true rfl) rfl (Nat.le_of_ble_eq_true rfl) (Nat.zero_le _) (Nat.zero_le _) h
  · replace h := h.2 hc
    refine hf_iconst (v := 0) dX5_readPlain_74 (by decide) ?_
    refine hf_ireturn dX5_readPlain_75 rfl (by decide) ?_
    exact h

set_option maxHeartbeats 4000000 in
theorem w_X5_readPlain_130 {X : hf_X} {d k n t : Nat} {T : hf_T} {I : hf_I} {L : hf_L} {P : hf_P} {Q : Option Value → hf_M → Prop} {x1 : Int32} {x2 : Int32} {x3 : Int32} (hs : hf_Lay t T P) (hby : P 123 2 = some 122) (h : hf_G X Y_X5_readSum d 0 0 0 (hf_en [.ref 123, .int x1] 4) [] (t, T, I, L, P) (fun r M => hf_G X Y_X5_readPlain (d + 1) k n 135 [some (.ref 123), none, some (.int x2), some (.int x3)] (r.toList ++ []) M Q)) : hf_G X Y_X5_readPlain (d + 1) k n 130 [some (.ref 123), some (.int x1), some (.int x2), some (.int x3)] [] (t, T, I, L, P) Q := by
  refine hf_aload_n dX5_readPlain_130 rfl rfl ?_
  refine hf_iload_n dX5_readPlain_131 rfl rfl ?_
  exact hf_callV (c := 5) (as := [.int x1]) ok_X5_readSum dX5_readPlain_132 hw610 hw611 hw1569 (hs.2.1 123 _ rfl) (by decide) (hf_lin hs 123 rfl) rfl (Nat.le_of_ble_eq_true rfl) rfl (Nat.le_of_ble_eq_true rfl) (Nat.zero_le _) (Nat.zero_le _) (hf_mono (fun r M q => hf_drop (l' := [some (.ref 123), none, some (.int x2), some (.int x3)]) (by simp [hf_sub]) q) h)

set_option maxHeartbeats 4000000 in
theorem w_X5_readPlain_82 {X : hf_X} {d k n t : Nat} {T : hf_T} {I : hf_I} {L : hf_L} {P : hf_P} {Q : Option Value → hf_M → Prop} {x2 : Int32} {s0 : Int32} (hs : hf_Lay t T P) (hby : P 123 2 = some 122) (h : (¬ s0 = 0 → hf_G X Y_X5_advance d 0 0 0 (hf_en [.ref 123] 2) [] (t, T, I, L, P) (fun r M => hf_G X Y_X5_readPlain (d + 1) k n 94 [some (.ref 123), none, some (.int x2), none] (r.toList ++ []) M Q)) ∧ (s0 = 0 → Q (some (.int 0)) (t, T, (hf_up I 123 1 (I 123 7)), L, P))) : hf_G X Y_X5_readPlain (d + 1) k n 82 [some (.ref 123), none, some (.int x2), none] [.int s0] (t, T, I, L, P) Q := by
  refine hf_if_ne (tgt := 90) dX5_readPlain_82 (by decide) (fun hc => ?_) (fun hc => ?_)
  · replace h := h.1 hc
    refine hf_aload_n dX5_readPlain_90 rfl rfl ?_
    exact hf_callV (c := 5) (as := []) ok_X5_advance dX5_readPlain_91 hw549 hw550 hw1563 (hs.2.1 123 _ rfl) (by decide) (hf_lin hs 123 rfl) rfl (Nat.le_of_ble_eq_true rfl) rfl (Nat.le_of_ble_eq_true rfl) (Nat.zero_le _) (Nat.zero_le _) h
  · replace h := h.2 hc
    refine hf_aload_n dX5_readPlain_85 rfl rfl ?_
    refine hf_callV (c := 5) (as := []) ok_X5_fails dX5_readPlain_86 hw607 hw608 hw1568 (hs.2.1 123 _ rfl) (by decide) (hf_lin hs 123 rfl) rfl (Nat.le_of_ble_eq_true rfl) rfl (Nat.le_of_ble_eq_true rfl) (Nat.zero_le _) (Nat.zero_le _) ?_
    show hf_G X Y_X5_fails d _ _ 0 [some (.ref 123)] [] (t, T, I, L, P) _
    refine hf_aload_n dX5_fails_0 rfl rfl ?_
    refine hf_aload_n dX5_fails_1 rfl rfl ?_
    refine hf_geti (c := 5) (j := 7) dX5_fails_2 (hs.2.1 123 _ rfl) (hf_lin hs 123 rfl) (by decide) (by decide) hw235 (Or.inl rfl) ?_
    refine hf_puti (c := 5) (j := 1) dX5_fails_5 (hs.2.1 123 _ rfl) (hf_lin hs 123 rfl) (by decide) (by decide) hw228 rfl rfl ?_
    refine hf_iconst (v := 0) dX5_fails_8 (by decide) ?_
    refine hf_ireturn dX5_fails_9 rfl (by decide) ?_
    show hf_G X Y_X5_readPlain (d + 1) _ _ 89 [some (.ref 123), none, some (.int x2), none] [.int 0] (t, T, (hf_up I 123 1 (I 123 7)), L, P) _
    refine hf_ireturn dX5_readPlain_89 rfl (by decide) ?_
    exact h

set_option maxHeartbeats 4000000 in
theorem w_X5_readPlain_135 {X : hf_X} {d k n t : Nat} {T : hf_T} {I : hf_I} {L : hf_L} {P : hf_P} {Q : Option Value → hf_M → Prop} {x2 : Int32} {x3 : Int32} {s0 : Int32} (hs : hf_Lay t T P) (hby : P 123 2 = some 122) (h : (¬ s0 = 0 → hf_G X Y_X9_addStep d 0 0 0 (hf_en [.ref 124, .int x3, .int 0] 3) [] (t, T, I, L, P) (fun r M => hf_G X Y_X5_readPlain (d + 1) k n 149 [some (.ref 123), none, some (.int x2), none] (r.toList ++ []) M Q)) ∧ (s0 = 0 → Q (some (.int 0)) (t, T, I, L, P))) : hf_G X Y_X5_readPlain (d + 1) k n 135 [some (.ref 123), none, some (.int x2), some (.int x3)] [.int s0] (t, T, I, L, P) Q := by
  refine hf_if_ne (tgt := 140) dX5_readPlain_135 (by decide) (fun hc => ?_) (fun hc => ?_)
  · replace h := h.1 hc
    refine hf_aload_n dX5_readPlain_140 rfl rfl ?_
    refine hf_getr (b := 124) (c := 5) (j := 0) dX5_readPlain_141 (hs.2.1 123 _ rfl) (hf_lin hs 123 rfl) (by decide) (by decide) hw226 rfl (hs.2.2 123 0 _ rfl) ?_
    refine hf_iload_n dX5_readPlain_144 rfl rfl ?_
    refine hf_iconst (v := 0) dX5_readPlain_145 (by decide) ?_
    exact hf_callV (c := 9) (as := [.int x3, .int 0]) ok_X9_addStep dX5_readPlain_146 hw628 hw629 hw630 (hs.2.1 124 _ rfl) (by decide) (hf_lin hs 124 rfl) rfl (Nat.le_of_ble_eq_true rfl) rfl (Nat.le_of_ble_eq_true rfl) (Nat.zero_le _) (Nat.zero_le _) (hf_mono (fun r M q => hf_drop (l' := [some (.ref 123), none, some (.int x2), none]) (by simp [hf_sub]) q) h)
  · replace h := h.2 hc
    refine hf_iconst (v := 0) dX5_readPlain_138 (by decide) ?_
    refine hf_ireturn dX5_readPlain_139 rfl (by decide) ?_
    exact h

set_option maxHeartbeats 4000000 in
theorem w_X5_readPlain_94 {X : hf_X} {d k n t : Nat} {T : hf_T} {I : hf_I} {L : hf_L} {P : hf_P} {Q : Option Value → hf_M → Prop} {x2 : Int32} (hs : hf_Lay t T P) (hby : P 123 2 = some 122) (h : (x2 = 0 → Q (some (.int 1)) (t, T, I, L, P)) ∧ (¬ (x2 = 0) → hf_G X Y_X9_addStep d 0 0 0 (hf_en [.ref 124, .int 10, .int 0] 3) [] (t, T, I, L, P) (fun r M => hf_G X Y_X5_readPlain (d + 1) k n 171 [some (.ref 123), none, none, none] (r.toList ++ []) M Q))) : hf_G X Y_X5_readPlain (d + 1) k n 94 [some (.ref 123), none, some (.int x2), none] [] (t, T, I, L, P) Q := by
  refine hf_goto (tgt := 157) dX5_readPlain_94 (by decide) ?_
  refine hf_iload_n dX5_readPlain_157 rfl rfl ?_
  refine hf_if_eq (tgt := 181) dX5_readPlain_158 (by decide) (fun hc => ?_) (fun hc => ?_)
  · replace h := h.1 hc
    refine hf_iconst (v := 1) dX5_readPlain_181 (by decide) ?_
    refine hf_goto (tgt := 186) dX5_readPlain_182 (by decide) ?_
    refine hf_ireturn dX5_readPlain_186 rfl (by decide) ?_
    exact h
  · replace h := h.2 hc
    refine hf_aload_n dX5_readPlain_161 rfl rfl ?_
    refine hf_getr (b := 124) (c := 5) (j := 0) dX5_readPlain_162 (hs.2.1 123 _ rfl) (hf_lin hs 123 rfl) (by decide) (by decide) hw226 rfl (hs.2.2 123 0 _ rfl) ?_
    refine hf_bipush (v := 10) dX5_readPlain_165 (by decide) ?_
    refine hf_iconst (v := 0) dX5_readPlain_167 (by decide) ?_
    exact hf_callV (c := 9) (as := [.int 10, .int 0]) ok_X9_addStep dX5_readPlain_168 hw628 hw629 hw630 (hs.2.1 124 _ rfl) (by decide) (hf_lin hs 124 rfl) rfl (Nat.le_of_ble_eq_true rfl) rfl (Nat.le_of_ble_eq_true rfl) (Nat.zero_le _) (Nat.zero_le _) (hf_mono (fun r M q => hf_drop (l' := [some (.ref 123), none, none, none]) (by simp [hf_sub]) q) h)

set_option maxHeartbeats 4000000 in
theorem w_X5_readPlain_149 {X : hf_X} {d k n t : Nat} {T : hf_T} {I : hf_I} {L : hf_L} {P : hf_P} {Q : Option Value → hf_M → Prop} {x2 : Int32} {s0 : Int32} (hs : hf_Lay t T P) (hby : P 123 2 = some 122) (h : (¬ s0 = 0 → (x2 = 0 → Q (some (.int 1)) (t, T, I, L, P)) ∧ (¬ (x2 = 0) → hf_G X Y_X9_addStep d 0 0 0 (hf_en [.ref 124, .int 10, .int 0] 3) [] (t, T, I, L, P) (fun r M => hf_G X Y_X5_readPlain (d + 1) k n 171 [some (.ref 123), none, none, none] (r.toList ++ []) M Q))) ∧ (s0 = 0 → Q (some (.int 0)) (t, T, (hf_up I 123 1 (I 123 7)), L, P))) : hf_G X Y_X5_readPlain (d + 1) k n 149 [some (.ref 123), none, some (.int x2), none] [.int s0] (t, T, I, L, P) Q := by
  refine hf_if_ne (tgt := 157) dX5_readPlain_149 (by decide) (fun hc => ?_) (fun hc => ?_)
  · replace h := h.1 hc
    refine hf_iload_n dX5_readPlain_157 rfl rfl ?_
    refine hf_if_eq (tgt := 181) dX5_readPlain_158 (by decide) (fun hc => ?_) (fun hc => ?_)
    · replace h := h.1 hc
      refine hf_iconst (v := 1) dX5_readPlain_181 (by decide) ?_
      refine hf_goto (tgt := 186) dX5_readPlain_182 (by decide) ?_
      refine hf_ireturn dX5_readPlain_186 rfl (by decide) ?_
      exact h
    · replace h := h.2 hc
      refine hf_aload_n dX5_readPlain_161 rfl rfl ?_
      refine hf_getr (b := 124) (c := 5) (j := 0) dX5_readPlain_162 (hs.2.1 123 _ rfl) (hf_lin hs 123 rfl) (by decide) (by decide) hw226 rfl (hs.2.2 123 0 _ rfl) ?_
      refine hf_bipush (v := 10) dX5_readPlain_165 (by decide) ?_
      refine hf_iconst (v := 0) dX5_readPlain_167 (by decide) ?_
      exact hf_callV (c := 9) (as := [.int 10, .int 0]) ok_X9_addStep dX5_readPlain_168 hw628 hw629 hw630 (hs.2.1 124 _ rfl) (by decide) (hf_lin hs 124 rfl) rfl (Nat.le_of_ble_eq_true rfl) rfl (Nat.le_of_ble_eq_true rfl) (Nat.zero_le _) (Nat.zero_le _) (hf_mono (fun r M q => hf_drop (l' := [some (.ref 123), none, none, none]) (by simp [hf_sub]) q) h)
  · replace h := h.2 hc
    refine hf_aload_n dX5_readPlain_152 rfl rfl ?_
    refine hf_callV (c := 5) (as := []) ok_X5_fails dX5_readPlain_153 hw607 hw608 hw1568 (hs.2.1 123 _ rfl) (by decide) (hf_lin hs 123 rfl) rfl (Nat.le_of_ble_eq_true rfl) rfl (Nat.le_of_ble_eq_true rfl) (Nat.zero_le _) (Nat.zero_le _) ?_
    show hf_G X Y_X5_fails d _ _ 0 [some (.ref 123)] [] (t, T, I, L, P) _
    refine hf_aload_n dX5_fails_0 rfl rfl ?_
    refine hf_aload_n dX5_fails_1 rfl rfl ?_
    refine hf_geti (c := 5) (j := 7) dX5_fails_2 (hs.2.1 123 _ rfl) (hf_lin hs 123 rfl) (by decide) (by decide) hw235 (Or.inl rfl) ?_
    refine hf_puti (c := 5) (j := 1) dX5_fails_5 (hs.2.1 123 _ rfl) (hf_lin hs 123 rfl) (by decide) (by decide) hw228 rfl rfl ?_
    refine hf_iconst (v := 0) dX5_fails_8 (by decide) ?_
    refine hf_ireturn dX5_fails_9 rfl (by decide) ?_
    show hf_G X Y_X5_readPlain (d + 1) _ _ 156 [some (.ref 123), none, some (.int x2), none] [.int 0] (t, T, (hf_up I 123 1 (I 123 7)), L, P) _
    refine hf_ireturn dX5_readPlain_156 rfl (by decide) ?_
    exact h

set_option maxHeartbeats 4000000 in
theorem w_X5_readPlain_171 {X : hf_X} {d k n t : Nat} {T : hf_T} {I : hf_I} {L : hf_L} {P : hf_P} {Q : Option Value → hf_M → Prop} {s0 : Int32} (hs : hf_Lay t T P) (hby : P 123 2 = some 122) (h : (¬ s0 = 0 → Q (some (.int 1)) (t, T, I, L, P)) ∧ (s0 = 0 → Q (some (.int 0)) (t, T, (hf_up I 123 1 (I 123 7)), L, P))) : hf_G X Y_X5_readPlain (d + 1) k n 171 [some (.ref 123), none, none, none] [.int s0] (t, T, I, L, P) Q := by
  refine hf_if_ne (tgt := 181) dX5_readPlain_171 (by decide) (fun hc => ?_) (fun hc => ?_)
  · replace h := h.1 hc
    refine hf_iconst (v := 1) dX5_readPlain_181 (by decide) ?_
    refine hf_goto (tgt := 186) dX5_readPlain_182 (by decide) ?_
    refine hf_ireturn dX5_readPlain_186 rfl (by decide) ?_
    exact h
  · replace h := h.2 hc
    refine hf_aload_n dX5_readPlain_174 rfl rfl ?_
    refine hf_callV (c := 5) (as := []) ok_X5_fails dX5_readPlain_175 hw607 hw608 hw1568 (hs.2.1 123 _ rfl) (by decide) (hf_lin hs 123 rfl) rfl (Nat.le_of_ble_eq_true rfl) rfl (Nat.le_of_ble_eq_true rfl) (Nat.zero_le _) (Nat.zero_le _) ?_
    show hf_G X Y_X5_fails d _ _ 0 [some (.ref 123)] [] (t, T, I, L, P) _
    refine hf_aload_n dX5_fails_0 rfl rfl ?_
    refine hf_aload_n dX5_fails_1 rfl rfl ?_
    refine hf_geti (c := 5) (j := 7) dX5_fails_2 (hs.2.1 123 _ rfl) (hf_lin hs 123 rfl) (by decide) (by decide) hw235 (Or.inl rfl) ?_
    refine hf_puti (c := 5) (j := 1) dX5_fails_5 (hs.2.1 123 _ rfl) (hf_lin hs 123 rfl) (by decide) (by decide) hw228 rfl rfl ?_
    refine hf_iconst (v := 0) dX5_fails_8 (by decide) ?_
    refine hf_ireturn dX5_fails_9 rfl (by decide) ?_
    show hf_G X Y_X5_readPlain (d + 1) _ _ 178 [some (.ref 123), none, none, none] [.int 0] (t, T, (hf_up I 123 1 (I 123 7)), L, P) _
    refine hf_if_eq (tgt := 185) dX5_readPlain_178 (by decide) (fun _ => ?_) (fun hc => absurd (show (0 : Int32) = (0 : Int32) by decide) hc)
    refine hf_iconst (v := 0) dX5_readPlain_185 (by decide) ?_
    refine hf_ireturn dX5_readPlain_186 rfl (by decide) ?_
    exact h

set_option maxHeartbeats 4000000 in
theorem w_X5_readSum_0 {X : hf_X} {d k n t : Nat} {T : hf_T} {I : hf_I} {L : hf_L} {P : hf_P} {Q : Option Value → hf_M → Prop} {x1 : Int32} (hs : hf_Lay t T P) (hby : P 123 2 = some 122) (h : hf_G X Y_X5_readTerm d 0 0 0 (hf_en [.ref 123, .int x1] 4) [] (t, T, I, L, P) (fun r M => hf_G X Y_X5_readSum (d + 1) k n 5 [some (.ref 123), some (.int x1), none, none] (r.toList ++ []) M Q)) : hf_G X Y_X5_readSum (d + 1) k n 0 (hf_en [.ref 123, .int x1] 4) [] (t, T, I, L, P) Q := by
  show hf_G X Y_X5_readSum (d + 1) k n 0 [some (.ref 123), some (.int x1), none, none] [] (t, T, I, L, P) Q
  refine hf_aload_n dX5_readSum_0 rfl rfl ?_
  refine hf_iload_n dX5_readSum_1 rfl rfl ?_
  exact hf_callV (c := 5) (as := [.int x1]) ok_X5_readTerm dX5_readSum_2 hw613 hw614 hw1570 (hs.2.1 123 _ rfl) (by decide) (hf_lin hs 123 rfl) rfl (Nat.le_of_ble_eq_true rfl) rfl (Nat.le_of_ble_eq_true rfl) (Nat.zero_le _) (Nat.zero_le _) h

set_option maxHeartbeats 4000000 in
theorem w_X5_readSum_5 {X : hf_X} {d k n t : Nat} {T : hf_T} {I : hf_I} {L : hf_L} {P : hf_P} {Q : Option Value → hf_M → Prop} {x1 : Int32} {s0 : Int32} (hs : hf_Lay t T P) (hby : P 123 2 = some 122) (h : (¬ s0 = 0 → hf_G X Y_X5_signStep d 0 0 0 (hf_en [.ref 123, .ref 9, .int 2] 4) [] (t, T, I, L, P) (fun r M => hf_G X Y_X5_readSum (d + 1) k n 17 [some (.ref 123), some (.int x1), none, none] (r.toList ++ []) M Q)) ∧ (s0 = 0 → Q (some (.int 0)) (t, T, I, L, P))) : hf_G X Y_X5_readSum (d + 1) k n 5 [some (.ref 123), some (.int x1), none, none] [.int s0] (t, T, I, L, P) Q := by
  refine hf_if_ne (tgt := 10) dX5_readSum_5 (by decide) (fun hc => ?_) (fun hc => ?_)
  · replace h := h.1 hc
    refine hf_aload_n dX5_readSum_10 rfl rfl ?_
    refine hf_ldcS (i := 8) dX5_readSum_11 rfl rfl ?_
    refine hf_iconst (v := 2) dX5_readSum_13 (by decide) ?_
    exact hf_callV (c := 5) (as := [.ref 9, .int 2]) ok_X5_signStep dX5_readSum_14 hw632 hw633 hw1575 (hs.2.1 123 _ rfl) (by decide) (hf_lin hs 123 rfl) rfl (Nat.le_of_ble_eq_true rfl) rfl (Nat.le_of_ble_eq_true rfl) (Nat.zero_le _) (Nat.zero_le _) h
  · replace h := h.2 hc
    refine hf_iconst (v := 0) dX5_readSum_8 (by decide) ?_
    refine hf_ireturn dX5_readSum_9 rfl (by decide) ?_
    exact h

set_option maxHeartbeats 4000000 in
theorem w_X5_readSum_17 {X : hf_X} {d k n t : Nat} {T : hf_T} {I : hf_I} {L : hf_L} {P : hf_P} {Q : Option Value → hf_M → Prop} {x1 : Int32} {s0 : Int32} (hs : hf_Lay t T P) (hby : P 123 2 = some 122) (h : hf_G X Y_X5_readSum d k n 20 [some (.ref 123), some (.int x1), some (.int s0), some (.int 0)] [] (t, T, I, L, P) Q) : hf_G X Y_X5_readSum d k n 17 [some (.ref 123), some (.int x1), none, none] [.int s0] (t, T, I, L, P) Q := by
  refine hf_istore_n (l2 := [some (.ref 123), some (.int x1), some (.int s0), none]) dX5_readSum_17 rfl (by decide) rfl ?_
  refine hf_iconst (v := 0) dX5_readSum_18 (by decide) ?_
  refine hf_istore_n (l2 := [some (.ref 123), some (.int x1), some (.int s0), some (.int 0)]) dX5_readSum_19 rfl (by decide) rfl ?_
  exact h

set_option maxHeartbeats 4000000 in
theorem w_X5_readSum_20 {X : hf_X} {d k n t : Nat} {T : hf_T} {I : hf_I} {L : hf_L} {P : hf_P} {Q : Option Value → hf_M → Prop} {x1 : Int32} {x2 : Int32} {x3 : Int32} (hs : hf_Lay t T P) (hby : P 123 2 = some 122) (h : (400 ≤ x3 → Q (some (.int 1)) (t, T, I, L, P)) ∧ (¬ (400 ≤ x3) → (x2 = (-1) → Q (some (.int 1)) (t, T, I, L, P)) ∧ (¬ (x2 = (-1)) → hf_G X Y_X5_advance d 0 0 0 (hf_en [.ref 123] 2) [] (t, T, I, L, P) (fun r M => hf_G X Y_X5_readSum (d + 1) k n 36 [some (.ref 123), some (.int x1), some (.int x2), some (.int x3)] (r.toList ++ []) M Q)))) : hf_G X Y_X5_readSum (d + 1) k n 20 [some (.ref 123), some (.int x1), some (.int x2), some (.int x3)] [] (t, T, I, L, P) Q := by
  refine hf_iload_n dX5_readSum_20 rfl rfl ?_
  refine hf_sipush (v := 400) dX5_readSum_21 (by decide) ?_
  refine hf_icmp_ge (tgt := 77) dX5_readSum_24 (by decide) (fun hc => ?_) (fun hc => ?_)
  · replace h := h.1 hc
    refine hf_iconst (v := 1) dX5_readSum_77 (by decide) ?_
    refine hf_ireturn dX5_readSum_78 rfl (by decide) ?_
    exact h
  · replace h := h.2 hc
    refine hf_iload_n dX5_readSum_27 rfl rfl ?_
    refine hf_iconst (v := (-1)) dX5_readSum_28 (by decide) ?_
    refine hf_icmp_eq (tgt := 77) dX5_readSum_29 (by decide) (fun hc => ?_) (fun hc => ?_)
    · replace h := h.1 hc
      refine hf_iconst (v := 1) dX5_readSum_77 (by decide) ?_
      refine hf_ireturn dX5_readSum_78 rfl (by decide) ?_
      exact h
    · replace h := h.2 hc
      refine hf_aload_n dX5_readSum_32 rfl rfl ?_
      exact hf_callV (c := 5) (as := []) ok_X5_advance dX5_readSum_33 hw549 hw550 hw1563 (hs.2.1 123 _ rfl) (by decide) (hf_lin hs 123 rfl) rfl (Nat.le_of_ble_eq_true rfl) rfl (Nat.le_of_ble_eq_true rfl) (Nat.zero_le _) (Nat.zero_le _) h

set_option maxHeartbeats 4000000 in
theorem w_X5_readSum_36 {X : hf_X} {d k n t : Nat} {T : hf_T} {I : hf_I} {L : hf_L} {P : hf_P} {Q : Option Value → hf_M → Prop} {x1 : Int32} {x2 : Int32} {x3 : Int32} (hs : hf_Lay t T P) (hby : P 123 2 = some 122) (h : hf_G X Y_X5_readTerm d 0 0 0 (hf_en [.ref 123, .int x1] 4) [] (t, T, I, L, P) (fun r M => hf_G X Y_X5_readSum (d + 1) k n 41 [some (.ref 123), some (.int x1), some (.int x2), some (.int x3)] (r.toList ++ []) M Q)) : hf_G X Y_X5_readSum (d + 1) k n 36 [some (.ref 123), some (.int x1), some (.int x2), some (.int x3)] [] (t, T, I, L, P) Q := by
  refine hf_aload_n dX5_readSum_36 rfl rfl ?_
  refine hf_iload_n dX5_readSum_37 rfl rfl ?_
  exact hf_callV (c := 5) (as := [.int x1]) ok_X5_readTerm dX5_readSum_38 hw613 hw614 hw1570 (hs.2.1 123 _ rfl) (by decide) (hf_lin hs 123 rfl) rfl (Nat.le_of_ble_eq_true rfl) rfl (Nat.le_of_ble_eq_true rfl) (Nat.zero_le _) (Nat.zero_le _) h

set_option maxHeartbeats 4000000 in
theorem w_X5_readSum_41 {X : hf_X} {d k n t : Nat} {T : hf_T} {I : hf_I} {L : hf_L} {P : hf_P} {Q : Option Value → hf_M → Prop} {x1 : Int32} {x2 : Int32} {x3 : Int32} {s0 : Int32} (hs : hf_Lay t T P) (hby : P 123 2 = some 122) (h : (¬ s0 = 0 → hf_G X Y_X9_addStep d 0 0 0 (hf_en [.ref 124, .int x2, .int 0] 3) [] (t, T, I, L, P) (fun r M => hf_G X Y_X5_readSum (d + 1) k n 55 [some (.ref 123), some (.int x1), none, some (.int x3)] (r.toList ++ []) M Q)) ∧ (s0 = 0 → Q (some (.int 0)) (t, T, I, L, P))) : hf_G X Y_X5_readSum (d + 1) k n 41 [some (.ref 123), some (.int x1), some (.int x2), some (.int x3)] [.int s0] (t, T, I, L, P) Q := by
  refine hf_if_ne (tgt := 46) dX5_readSum_41 (by decide) (fun hc => ?_) (fun hc => ?_)
  · replace h := h.1 hc
    refine hf_aload_n dX5_readSum_46 rfl rfl ?_
    refine hf_getr (b := 124) (c := 5) (j := 0) dX5_readSum_47 (hs.2.1 123 _ rfl) (hf_lin hs 123 rfl) (by decide) (by decide) hw226 rfl (hs.2.2 123 0 _ rfl) ?_
    refine hf_iload_n dX5_readSum_50 rfl rfl ?_
    refine hf_iconst (v := 0) dX5_readSum_51 (by decide) ?_
    exact hf_callV (c := 9) (as := [.int x2, .int 0]) ok_X9_addStep dX5_readSum_52 hw628 hw629 hw630 (hs.2.1 124 _ rfl) (by decide) (hf_lin hs 124 rfl) rfl (Nat.le_of_ble_eq_true rfl) rfl (Nat.le_of_ble_eq_true rfl) (Nat.zero_le _) (Nat.zero_le _) (hf_mono (fun r M q => hf_drop (l' := [some (.ref 123), some (.int x1), none, some (.int x3)]) (by simp [hf_sub]) q) h)
  · replace h := h.2 hc
    refine hf_iconst (v := 0) dX5_readSum_44 (by decide) ?_
    refine hf_ireturn dX5_readSum_45 rfl (by decide) ?_
    exact h

set_option maxHeartbeats 4000000 in
theorem w_X5_readSum_55 {X : hf_X} {d k n t : Nat} {T : hf_T} {I : hf_I} {L : hf_L} {P : hf_P} {Q : Option Value → hf_M → Prop} {x1 : Int32} {x3 : Int32} {s0 : Int32} (hs : hf_Lay t T P) (hby : P 123 2 = some 122) (h : (¬ s0 = 0 → hf_G X Y_X5_signStep d 0 0 0 (hf_en [.ref 123, .ref 9, .int 2] 4) [] (t, T, I, L, P) (fun r M => hf_G X Y_X5_readSum (d + 1) k n 70 [some (.ref 123), some (.int x1), none, some (.int x3)] (r.toList ++ []) M Q)) ∧ (s0 = 0 → Q (some (.int 0)) (t, T, (hf_up I 123 1 (I 123 7)), L, P))) : hf_G X Y_X5_readSum (d + 1) k n 55 [some (.ref 123), some (.int x1), none, some (.int x3)] [.int s0] (t, T, I, L, P) Q := by
  refine hf_if_ne (tgt := 63) dX5_readSum_55 (by decide) (fun hc => ?_) (fun hc => ?_)
  · replace h := h.1 hc
    refine hf_aload_n dX5_readSum_63 rfl rfl ?_
    refine hf_ldcS (i := 8) dX5_readSum_64 rfl rfl ?_
    refine hf_iconst (v := 2) dX5_readSum_66 (by decide) ?_
    exact hf_callV (c := 5) (as := [.ref 9, .int 2]) ok_X5_signStep dX5_readSum_67 hw632 hw633 hw1575 (hs.2.1 123 _ rfl) (by decide) (hf_lin hs 123 rfl) rfl (Nat.le_of_ble_eq_true rfl) rfl (Nat.le_of_ble_eq_true rfl) (Nat.zero_le _) (Nat.zero_le _) h
  · replace h := h.2 hc
    refine hf_aload_n dX5_readSum_58 rfl rfl ?_
    refine hf_callV (c := 5) (as := []) ok_X5_fails dX5_readSum_59 hw607 hw608 hw1568 (hs.2.1 123 _ rfl) (by decide) (hf_lin hs 123 rfl) rfl (Nat.le_of_ble_eq_true rfl) rfl (Nat.le_of_ble_eq_true rfl) (Nat.zero_le _) (Nat.zero_le _) ?_
    show hf_G X Y_X5_fails d _ _ 0 [some (.ref 123)] [] (t, T, I, L, P) _
    refine hf_aload_n dX5_fails_0 rfl rfl ?_
    refine hf_aload_n dX5_fails_1 rfl rfl ?_
    refine hf_geti (c := 5) (j := 7) dX5_fails_2 (hs.2.1 123 _ rfl) (hf_lin hs 123 rfl) (by decide) (by decide) hw235 (Or.inl rfl) ?_
    refine hf_puti (c := 5) (j := 1) dX5_fails_5 (hs.2.1 123 _ rfl) (hf_lin hs 123 rfl) (by decide) (by decide) hw228 rfl rfl ?_
    refine hf_iconst (v := 0) dX5_fails_8 (by decide) ?_
    refine hf_ireturn dX5_fails_9 rfl (by decide) ?_
    show hf_G X Y_X5_readSum (d + 1) _ _ 62 [some (.ref 123), some (.int x1), none, some (.int x3)] [.int 0] (t, T, (hf_up I 123 1 (I 123 7)), L, P) _
    refine hf_ireturn dX5_readSum_62 rfl (by decide) ?_
    exact h

set_option maxHeartbeats 4000000 in
theorem w_X5_readSum_70 {X : hf_X} {d k n t : Nat} {T : hf_T} {I : hf_I} {L : hf_L} {P : hf_P} {Q : Option Value → hf_M → Prop} {x1 : Int32} {x3 : Int32} {s0 : Int32} (hs : hf_Lay t T P) (hby : P 123 2 = some 122) (h : hf_G X Y_X5_readSum d k n 20 [some (.ref 123), some (.int x1), some (.int s0), some (.int (x3 + 1))] [] (t, T, I, L, P) Q) : hf_G X Y_X5_readSum d k n 70 [some (.ref 123), some (.int x1), none, some (.int x3)] [.int s0] (t, T, I, L, P) Q := by
  refine hf_istore_n (l2 := [some (.ref 123), some (.int x1), some (.int s0), some (.int x3)]) dX5_readSum_70 rfl (by decide) rfl ?_
  refine hf_iinc (v := (x3 + 1)) (l2 := [some (.ref 123), some (.int x1), some (.int s0), some (.int (x3 + 1))]) dX5_readSum_71 (by decide) rfl rfl rfl ?_
  refine hf_goto (tgt := 20) dX5_readSum_74 (by decide) ?_
  exact h

set_option maxHeartbeats 4000000 in
theorem w_X5_readTerm_0 {X : hf_X} {d k n t : Nat} {T : hf_T} {I : hf_I} {L : hf_L} {P : hf_P} {Q : Option Value → hf_M → Prop} {x1 : Int32} (hs : hf_Lay t T P) (hby : P 123 2 = some 122) (h : hf_G X Y_X5_readPart d 0 0 0 (hf_en [.ref 123, .int x1] 3) [] (t, T, I, L, P) (fun r M => hf_G X Y_X5_readTerm (d + 1) k n 5 [some (.ref 123), some (.int x1), none, none] (r.toList ++ []) M Q)) : hf_G X Y_X5_readTerm (d + 1) k n 0 (hf_en [.ref 123, .int x1] 4) [] (t, T, I, L, P) Q := by
  show hf_G X Y_X5_readTerm (d + 1) k n 0 [some (.ref 123), some (.int x1), none, none] [] (t, T, I, L, P) Q
  refine hf_aload_n dX5_readTerm_0 rfl rfl ?_
  refine hf_iload_n dX5_readTerm_1 rfl rfl ?_
  exact hf_callV (c := 5) (as := [.int x1]) ok_X5_readPart dX5_readTerm_2 hw616 hw617 hw1571 (hs.2.1 123 _ rfl) (by decide) (hf_lin hs 123 rfl) rfl (Nat.le_of_ble_eq_true rfl) rfl (Nat.le_of_ble_eq_true rfl) (Nat.zero_le _) (Nat.zero_le _) h

set_option maxHeartbeats 4000000 in
theorem w_X5_readTerm_5 {X : hf_X} {d k n t : Nat} {T : hf_T} {I : hf_I} {L : hf_L} {P : hf_P} {Q : Option Value → hf_M → Prop} {x1 : Int32} {s0 : Int32} (hs : hf_Lay t T P) (hby : P 123 2 = some 122) (h : (¬ s0 = 0 → hf_G X Y_X5_signStep d 0 0 0 (hf_en [.ref 123, .ref 10, .int 4] 4) [] (t, T, I, L, P) (fun r M => hf_G X Y_X5_readTerm (d + 1) k n 17 [some (.ref 123), some (.int x1), none, none] (r.toList ++ []) M Q)) ∧ (s0 = 0 → Q (some (.int 0)) (t, T, I, L, P))) : hf_G X Y_X5_readTerm (d + 1) k n 5 [some (.ref 123), some (.int x1), none, none] [.int s0] (t, T, I, L, P) Q := by
  refine hf_if_ne (tgt := 10) dX5_readTerm_5 (by decide) (fun hc => ?_) (fun hc => ?_)
  · replace h := h.1 hc
    refine hf_aload_n dX5_readTerm_10 rfl rfl ?_
    refine hf_ldcS (i := 9) dX5_readTerm_11 rfl rfl ?_
    refine hf_iconst (v := 4) dX5_readTerm_13 (by decide) ?_
    exact hf_callV (c := 5) (as := [.ref 10, .int 4]) ok_X5_signStep dX5_readTerm_14 hw632 hw633 hw1575 (hs.2.1 123 _ rfl) (by decide) (hf_lin hs 123 rfl) rfl (Nat.le_of_ble_eq_true rfl) rfl (Nat.le_of_ble_eq_true rfl) (Nat.zero_le _) (Nat.zero_le _) h
  · replace h := h.2 hc
    refine hf_iconst (v := 0) dX5_readTerm_8 (by decide) ?_
    refine hf_ireturn dX5_readTerm_9 rfl (by decide) ?_
    exact h

set_option maxHeartbeats 4000000 in
theorem w_X5_readTerm_17 {X : hf_X} {d k n t : Nat} {T : hf_T} {I : hf_I} {L : hf_L} {P : hf_P} {Q : Option Value → hf_M → Prop} {x1 : Int32} {s0 : Int32} (hs : hf_Lay t T P) (hby : P 123 2 = some 122) (h : hf_G X Y_X5_readTerm d k n 20 [some (.ref 123), some (.int x1), some (.int s0), some (.int 0)] [] (t, T, I, L, P) Q) : hf_G X Y_X5_readTerm d k n 17 [some (.ref 123), some (.int x1), none, none] [.int s0] (t, T, I, L, P) Q := by
  refine hf_istore_n (l2 := [some (.ref 123), some (.int x1), some (.int s0), none]) dX5_readTerm_17 rfl (by decide) rfl ?_
  refine hf_iconst (v := 0) dX5_readTerm_18 (by decide) ?_
  refine hf_istore_n (l2 := [some (.ref 123), some (.int x1), some (.int s0), some (.int 0)]) dX5_readTerm_19 rfl (by decide) rfl ?_
  exact h

set_option maxHeartbeats 4000000 in
theorem w_X5_readTerm_20 {X : hf_X} {d k n t : Nat} {T : hf_T} {I : hf_I} {L : hf_L} {P : hf_P} {Q : Option Value → hf_M → Prop} {x1 : Int32} {x2 : Int32} {x3 : Int32} (hs : hf_Lay t T P) (hby : P 123 2 = some 122) (h : (400 ≤ x3 → Q (some (.int 1)) (t, T, I, L, P)) ∧ (¬ (400 ≤ x3) → (x2 = (-1) → Q (some (.int 1)) (t, T, I, L, P)) ∧ (¬ (x2 = (-1)) → hf_G X Y_X5_advance d 0 0 0 (hf_en [.ref 123] 2) [] (t, T, I, L, P) (fun r M => hf_G X Y_X5_readTerm (d + 1) k n 36 [some (.ref 123), some (.int x1), some (.int x2), some (.int x3)] (r.toList ++ []) M Q)))) : hf_G X Y_X5_readTerm (d + 1) k n 20 [some (.ref 123), some (.int x1), some (.int x2), some (.int x3)] [] (t, T, I, L, P) Q := by
  refine hf_iload_n dX5_readTerm_20 rfl rfl ?_
  refine hf_sipush (v := 400) dX5_readTerm_21 (by decide) ?_
  refine hf_icmp_ge (tgt := 77) dX5_readTerm_24 (by decide) (fun hc => ?_) (fun hc => ?_)
  · replace h := h.1 hc
    refine hf_iconst (v := 1) dX5_readTerm_77 (by decide) ?_
    refine hf_ireturn dX5_readTerm_78 rfl (by decide) ?_
    exact h
  · replace h := h.2 hc
    refine hf_iload_n dX5_readTerm_27 rfl rfl ?_
    refine hf_iconst (v := (-1)) dX5_readTerm_28 (by decide) ?_
    refine hf_icmp_eq (tgt := 77) dX5_readTerm_29 (by decide) (fun hc => ?_) (fun hc => ?_)
    · replace h := h.1 hc
      refine hf_iconst (v := 1) dX5_readTerm_77 (by decide) ?_
      refine hf_ireturn dX5_readTerm_78 rfl (by decide) ?_
      exact h
    · replace h := h.2 hc
      refine hf_aload_n dX5_readTerm_32 rfl rfl ?_
      exact hf_callV (c := 5) (as := []) ok_X5_advance dX5_readTerm_33 hw549 hw550 hw1563 (hs.2.1 123 _ rfl) (by decide) (hf_lin hs 123 rfl) rfl (Nat.le_of_ble_eq_true rfl) rfl (Nat.le_of_ble_eq_true rfl) (Nat.zero_le _) (Nat.zero_le _) h

set_option maxHeartbeats 4000000 in
theorem w_X5_readTerm_36 {X : hf_X} {d k n t : Nat} {T : hf_T} {I : hf_I} {L : hf_L} {P : hf_P} {Q : Option Value → hf_M → Prop} {x1 : Int32} {x2 : Int32} {x3 : Int32} (hs : hf_Lay t T P) (hby : P 123 2 = some 122) (h : hf_G X Y_X5_readPart d 0 0 0 (hf_en [.ref 123, .int x1] 3) [] (t, T, I, L, P) (fun r M => hf_G X Y_X5_readTerm (d + 1) k n 41 [some (.ref 123), some (.int x1), some (.int x2), some (.int x3)] (r.toList ++ []) M Q)) : hf_G X Y_X5_readTerm (d + 1) k n 36 [some (.ref 123), some (.int x1), some (.int x2), some (.int x3)] [] (t, T, I, L, P) Q := by
  refine hf_aload_n dX5_readTerm_36 rfl rfl ?_
  refine hf_iload_n dX5_readTerm_37 rfl rfl ?_
  exact hf_callV (c := 5) (as := [.int x1]) ok_X5_readPart dX5_readTerm_38 hw616 hw617 hw1571 (hs.2.1 123 _ rfl) (by decide) (hf_lin hs 123 rfl) rfl (Nat.le_of_ble_eq_true rfl) rfl (Nat.le_of_ble_eq_true rfl) (Nat.zero_le _) (Nat.zero_le _) h

set_option maxHeartbeats 4000000 in
theorem w_X5_readTerm_41 {X : hf_X} {d k n t : Nat} {T : hf_T} {I : hf_I} {L : hf_L} {P : hf_P} {Q : Option Value → hf_M → Prop} {x1 : Int32} {x2 : Int32} {x3 : Int32} {s0 : Int32} (hs : hf_Lay t T P) (hby : P 123 2 = some 122) (h : (¬ s0 = 0 → hf_G X Y_X9_addStep d 0 0 0 (hf_en [.ref 124, .int x2, .int 0] 3) [] (t, T, I, L, P) (fun r M => hf_G X Y_X5_readTerm (d + 1) k n 55 [some (.ref 123), some (.int x1), none, some (.int x3)] (r.toList ++ []) M Q)) ∧ (s0 = 0 → Q (some (.int 0)) (t, T, I, L, P))) : hf_G X Y_X5_readTerm (d + 1) k n 41 [some (.ref 123), some (.int x1), some (.int x2), some (.int x3)] [.int s0] (t, T, I, L, P) Q := by
  refine hf_if_ne (tgt := 46) dX5_readTerm_41 (by decide) (fun hc => ?_) (fun hc => ?_)
  · replace h := h.1 hc
    refine hf_aload_n dX5_readTerm_46 rfl rfl ?_
    refine hf_getr (b := 124) (c := 5) (j := 0) dX5_readTerm_47 (hs.2.1 123 _ rfl) (hf_lin hs 123 rfl) (by decide) (by decide) hw226 rfl (hs.2.2 123 0 _ rfl) ?_
    refine hf_iload_n dX5_readTerm_50 rfl rfl ?_
    refine hf_iconst (v := 0) dX5_readTerm_51 (by decide) ?_
    exact hf_callV (c := 9) (as := [.int x2, .int 0]) ok_X9_addStep dX5_readTerm_52 hw628 hw629 hw630 (hs.2.1 124 _ rfl) (by decide) (hf_lin hs 124 rfl) rfl (Nat.le_of_ble_eq_true rfl) rfl (Nat.le_of_ble_eq_true rfl) (Nat.zero_le _) (Nat.zero_le _) (hf_mono (fun r M q => hf_drop (l' := [some (.ref 123), some (.int x1), none, some (.int x3)]) (by simp [hf_sub]) q) h)
  · replace h := h.2 hc
    refine hf_iconst (v := 0) dX5_readTerm_44 (by decide) ?_
    refine hf_ireturn dX5_readTerm_45 rfl (by decide) ?_
    exact h

set_option maxHeartbeats 4000000 in
theorem w_X5_readTerm_55 {X : hf_X} {d k n t : Nat} {T : hf_T} {I : hf_I} {L : hf_L} {P : hf_P} {Q : Option Value → hf_M → Prop} {x1 : Int32} {x3 : Int32} {s0 : Int32} (hs : hf_Lay t T P) (hby : P 123 2 = some 122) (h : (¬ s0 = 0 → hf_G X Y_X5_signStep d 0 0 0 (hf_en [.ref 123, .ref 10, .int 4] 4) [] (t, T, I, L, P) (fun r M => hf_G X Y_X5_readTerm (d + 1) k n 70 [some (.ref 123), some (.int x1), none, some (.int x3)] (r.toList ++ []) M Q)) ∧ (s0 = 0 → Q (some (.int 0)) (t, T, (hf_up I 123 1 (I 123 7)), L, P))) : hf_G X Y_X5_readTerm (d + 1) k n 55 [some (.ref 123), some (.int x1), none, some (.int x3)] [.int s0] (t, T, I, L, P) Q := by
  refine hf_if_ne (tgt := 63) dX5_readTerm_55 (by decide) (fun hc => ?_) (fun hc => ?_)
  · replace h := h.1 hc
    refine hf_aload_n dX5_readTerm_63 rfl rfl ?_
    refine hf_ldcS (i := 9) dX5_readTerm_64 rfl rfl ?_
    refine hf_iconst (v := 4) dX5_readTerm_66 (by decide) ?_
    exact hf_callV (c := 5) (as := [.ref 10, .int 4]) ok_X5_signStep dX5_readTerm_67 hw632 hw633 hw1575 (hs.2.1 123 _ rfl) (by decide) (hf_lin hs 123 rfl) rfl (Nat.le_of_ble_eq_true rfl) rfl (Nat.le_of_ble_eq_true rfl) (Nat.zero_le _) (Nat.zero_le _) h
  · replace h := h.2 hc
    refine hf_aload_n dX5_readTerm_58 rfl rfl ?_
    refine hf_callV (c := 5) (as := []) ok_X5_fails dX5_readTerm_59 hw607 hw608 hw1568 (hs.2.1 123 _ rfl) (by decide) (hf_lin hs 123 rfl) rfl (Nat.le_of_ble_eq_true rfl) rfl (Nat.le_of_ble_eq_true rfl) (Nat.zero_le _) (Nat.zero_le _) ?_
    show hf_G X Y_X5_fails d _ _ 0 [some (.ref 123)] [] (t, T, I, L, P) _
    refine hf_aload_n dX5_fails_0 rfl rfl ?_
    refine hf_aload_n dX5_fails_1 rfl rfl ?_
    refine hf_geti (c := 5) (j := 7) dX5_fails_2 (hs.2.1 123 _ rfl) (hf_lin hs 123 rfl) (by decide) (by decide) hw235 (Or.inl rfl) ?_
    refine hf_puti (c := 5) (j := 1) dX5_fails_5 (hs.2.1 123 _ rfl) (hf_lin hs 123 rfl) (by decide) (by decide) hw228 rfl rfl ?_
    refine hf_iconst (v := 0) dX5_fails_8 (by decide) ?_
    refine hf_ireturn dX5_fails_9 rfl (by decide) ?_
    show hf_G X Y_X5_readTerm (d + 1) _ _ 62 [some (.ref 123), some (.int x1), none, some (.int x3)] [.int 0] (t, T, (hf_up I 123 1 (I 123 7)), L, P) _
    refine hf_ireturn dX5_readTerm_62 rfl (by decide) ?_
    exact h

set_option maxHeartbeats 4000000 in
theorem w_X5_readTerm_70 {X : hf_X} {d k n t : Nat} {T : hf_T} {I : hf_I} {L : hf_L} {P : hf_P} {Q : Option Value → hf_M → Prop} {x1 : Int32} {x3 : Int32} {s0 : Int32} (hs : hf_Lay t T P) (hby : P 123 2 = some 122) (h : hf_G X Y_X5_readTerm d k n 20 [some (.ref 123), some (.int x1), some (.int s0), some (.int (x3 + 1))] [] (t, T, I, L, P) Q) : hf_G X Y_X5_readTerm d k n 70 [some (.ref 123), some (.int x1), none, some (.int x3)] [.int s0] (t, T, I, L, P) Q := by
  refine hf_istore_n (l2 := [some (.ref 123), some (.int x1), some (.int s0), some (.int x3)]) dX5_readTerm_70 rfl (by decide) rfl ?_
  refine hf_iinc (v := (x3 + 1)) (l2 := [some (.ref 123), some (.int x1), some (.int s0), some (.int (x3 + 1))]) dX5_readTerm_71 (by decide) rfl rfl rfl ?_
  refine hf_goto (tgt := 20) dX5_readTerm_74 (by decide) ?_
  exact h

set_option maxHeartbeats 4000000 in
theorem w_X5_signStep_0 {X : hf_X} {d k n t : Nat} {T : hf_T} {I : hf_I} {L : hf_L} {P : hf_P} {Q : Option Value → hf_M → Prop} {x2 : Int32} (hs : hf_Lay t T P) (hby : P 123 2 = some 122) {si : Nat} (hsi : si < 12) (h : ((I 123 6) = 3 → hf_G X Y_X5_signStep d k n 12 [some (.ref 123), some (.ref (1 + si)), some (.int x2), some (.int 0)] [] (t, T, I, L, P) Q) ∧ (¬ ((I 123 6) = 3) → Q (some (.int (-1))) (t, T, I, L, P))) : hf_G X Y_X5_signStep d k n 0 (hf_en [.ref 123, .ref (1 + si), .int x2] 4) [] (t, T, I, L, P) Q := by
  show hf_G X Y_X5_signStep d k n 0 [some (.ref 123), some (.ref (1 + si)), some (.int x2), none] [] (t, T, I, L, P) Q
  refine hf_aload_n dX5_signStep_0 rfl rfl ?_
  refine hf_geti (c := 5) (j := 6) dX5_signStep_1 (hs.2.1 123 _ rfl) (hf_lin hs 123 rfl) (by decide) (by decide) hw234 (Or.inl rfl) ?_
  refine hf_iconst (v := 3) dX5_signStep_4 (by decide) ?_
  refine hf_icmp_eq (tgt := 10) dX5_signStep_5 (by decide) (fun hc => ?_) (fun hc => ?_)
  · replace h := h.1 hc
    refine hf_iconst (v := 0) dX5_signStep_10 (by decide) ?_
    refine hf_istore_n (l2 := [some (.ref 123), some (.ref (1 + si)), some (.int x2), some (.int 0)]) dX5_signStep_11 rfl (by decide) rfl ?_
    exact h
  · replace h := h.2 hc
    refine hf_iconst (v := (-1)) dX5_signStep_8 (by decide) ?_
    refine hf_ireturn dX5_signStep_9 rfl rfl ?_
    exact h

set_option maxHeartbeats 4000000 in
theorem w_X5_signStep_12 {X : hf_X} {d k n t : Nat} {T : hf_T} {I : hf_I} {L : hf_L} {P : hf_P} {Q : Option Value → hf_M → Prop} {x2 : Int32} {x3 : Int32} (hs : hf_Lay t T P) (hby : P 123 2 = some 122) {si : Nat} (hsi : si < 12) (h : ((Int32.ofNat (hf_sln.getD si 0)) ≤ x3 → Q (some (.int (-1))) (t, T, I, L, P)) ∧ (¬ ((Int32.ofNat (hf_sln.getD si 0)) ≤ x3) → vp_in (I 123 7) 400 ∧ ((¬ x3 < 0 ∧ x3 < Int32.ofNat (hf_sln.getD si 0) ∧ vp_in x3 (hf_sln.getD si 0)) ∧ ((¬ (I 122 (((I 123 7)).toNatClampNeg)) = ((hf_sby.getD si []).getD x3.toNatClampNeg 0 &&& 255) → hf_G X Y_X5_signStep (d + 4) k n 12 [some (.ref 123), some (.ref (1 + si)), some (.int x2), some (.int (x3 + 1))] [] (t, T, I, L, P) Q) ∧ ((I 122 (((I 123 7)).toNatClampNeg)) = ((hf_sby.getD si []).getD x3.toNatClampNeg 0 &&& 255) → Q (some (.int (x2 + x3))) (t, T, I, L, P)))))) : hf_G X Y_X5_signStep (d + 4) k n 12 [some (.ref 123), some (.ref (1 + si)), some (.int x2), some (.int x3)] [] (t, T, I, L, P) Q := by
  refine hf_iload_n dX5_signStep_12 rfl rfl ?_
  refine hf_aload_n dX5_signStep_13 rfl rfl ?_
  refine hf_strlen (i := si) hsi dX5_signStep_14 hw561 (Nat.le_of_ble_eq_true rfl) ?_
  refine hf_icmp_ge (tgt := 47) dX5_signStep_17 (by decide) (fun hc => ?_) (fun hc => ?_)
  · replace h := h.1 hc
    refine hf_iconst (v := (-1)) dX5_signStep_47 (by decide) ?_
    refine hf_ireturn dX5_signStep_48 rfl rfl ?_
    exact h
  · replace h := h.2 hc
    refine hf_aload_n dX5_signStep_20 rfl rfl ?_
    refine hf_getr (b := 122) (c := 5) (j := 2) dX5_signStep_21 (hs.2.1 123 _ rfl) (hf_lin hs 123 rfl) (by decide) (by decide) hw230 rfl hby ?_
    refine hf_aload_n dX5_signStep_24 rfl rfl ?_
    refine hf_geti (c := 5) (j := 7) dX5_signStep_25 (hs.2.1 123 _ rfl) (hf_lin hs 123 rfl) (by decide) (by decide) hw235 (Or.inl rfl) ?_
    refine hf_bald dX5_signStep_28 (hs.2.1 122 _ rfl) (hf_lin hs 122 rfl) h.1 ?_
    replace h := h.2
    refine hf_aload_n dX5_signStep_29 rfl rfl ?_
    refine hf_iload_n dX5_signStep_30 rfl rfl ?_
    refine hf_strchar (i := si) hsi h.1.1 h.1.2.1 h.1.2.2 dX5_signStep_31 hw570 (Nat.le_of_ble_eq_true rfl) ?_
    replace h := h.2
    refine hf_icmp_ne (tgt := 41) dX5_signStep_34 (by decide) (fun hc => ?_) (fun hc => ?_)
    · replace h := h.1 hc
      refine hf_iinc (v := (x3 + 1)) (l2 := [some (.ref 123), some (.ref (1 + si)), some (.int x2), some (.int (x3 + 1))]) dX5_signStep_41 (by decide) rfl rfl rfl ?_
      refine hf_goto (tgt := 12) dX5_signStep_44 (by decide) ?_
      exact h
    · replace h := h.2 hc
      refine hf_iload_n dX5_signStep_37 rfl rfl ?_
      refine hf_iload_n dX5_signStep_38 rfl rfl ?_
      refine hf_iadd dX5_signStep_39 ?_
      refine hf_ireturn dX5_signStep_40 rfl rfl ?_
      exact h

set_option maxHeartbeats 4000000 in
theorem w_X5_readPart_0 {X : hf_X} {d k n t : Nat} {T : hf_T} {I : hf_I} {L : hf_L} {P : hf_P} {Q : Option Value → hf_M → Prop} {x1 : Int32} (hs : hf_Lay t T P) (hby : P 123 2 = some 122) (h : hf_G X Y_X5_isSign d 0 0 0 (hf_en [.ref 123, .int 91] 2) [] (t, T, I, L, P) (fun r M => hf_G X Y_X5_readPart (d + 1) k n 6 [some (.ref 123), some (.int x1), none] (r.toList ++ []) M Q)) : hf_G X Y_X5_readPart (d + 1) k n 0 (hf_en [.ref 123, .int x1] 3) [] (t, T, I, L, P) Q := by
  show hf_G X Y_X5_readPart (d + 1) k n 0 [some (.ref 123), some (.int x1), none] [] (t, T, I, L, P) Q
  refine hf_aload_n dX5_readPart_0 rfl rfl ?_
  refine hf_bipush (v := 91) dX5_readPart_1 (by decide) ?_
  exact hf_callV (c := 5) (as := [.int 91]) ok_X5_isSign dX5_readPart_3 hw619 hw620 hw1572 (hs.2.1 123 _ rfl) (by decide) (hf_lin hs 123 rfl) rfl (Nat.le_of_ble_eq_true rfl) rfl (Nat.le_of_ble_eq_true rfl) (Nat.zero_le _) (Nat.zero_le _) h

set_option maxHeartbeats 4000000 in
theorem w_X5_readPart_6 {X : hf_X} {d k n t : Nat} {T : hf_T} {I : hf_I} {L : hf_L} {P : hf_P} {Q : Option Value → hf_M → Prop} {x1 : Int32} {s0 : Int32} (hs : hf_Lay t T P) (hby : P 123 2 = some 122) (h : (s0 = 0 → ((I 123 5) < 50 → hf_G X Y_X5_numberTo d 0 0 0 (hf_en [.ref 123, .int 1000] 4) [] (t, T, (hf_up I 123 5 ((I 123 5) + 1)), L, P) (fun r M => hf_G X Y_X5_readPart (d + 1) k n 87 [some (.ref 123), none, none] (r.toList ++ []) M Q)) ∧ (¬ ((I 123 5) < 50) → Q (some (.int 0)) (t, T, (hf_up I 123 1 (I 123 7)), L, P))) ∧ (¬ (s0 = 0) → (x1 < 8 → hf_G X Y_X5_advance d 0 0 0 (hf_en [.ref 123] 2) [] (t, T, I, L, P) (fun r M => hf_G X Y_X5_readPart (d + 1) k n 24 [some (.ref 123), some (.int x1), none] (r.toList ++ []) M Q)) ∧ (¬ (x1 < 8) → Q (some (.int 0)) (t, T, (hf_up I 123 1 (I 123 7)), L, P)))) : hf_G X Y_X5_readPart (d + 1) k n 6 [some (.ref 123), some (.int x1), none] [.int s0] (t, T, I, L, P) Q := by
  refine hf_if_eq (tgt := 56) dX5_readPart_6 (by decide) (fun hc => ?_) (fun hc => ?_)
  · replace h := h.1 hc
    refine hf_aload_n dX5_readPart_56 rfl rfl ?_
    refine hf_geti (c := 5) (j := 5) dX5_readPart_57 (hs.2.1 123 _ rfl) (hf_lin hs 123 rfl) (by decide) (by decide) hw233 (Or.inl rfl) ?_
    refine hf_bipush (v := 50) dX5_readPart_60 (by decide) ?_
    refine hf_icmp_lt (tgt := 70) dX5_readPart_62 (by decide) (fun hc => ?_) (fun hc => ?_)
    · replace h := h.1 hc
      refine hf_aload_n dX5_readPart_70 rfl rfl ?_
      refine hf_dup dX5_readPart_71 rfl ?_
      refine hf_geti (c := 5) (j := 5) dX5_readPart_72 (hs.2.1 123 _ rfl) (hf_lin hs 123 rfl) (by decide) (by decide) hw233 (Or.inl rfl) ?_
      refine hf_iconst (v := 1) dX5_readPart_75 (by decide) ?_
      refine hf_iadd dX5_readPart_76 ?_
      refine hf_puti (c := 5) (j := 5) dX5_readPart_77 (hs.2.1 123 _ rfl) (hf_lin hs 123 rfl) (by decide) (by decide) hw233 rfl rfl ?_
      refine hf_aload_n dX5_readPart_80 rfl rfl ?_
      refine hf_sipush (v := 1000) dX5_readPart_81 (by decide) ?_
      exact hf_callV (c := 5) (as := [.int 1000]) ok_X5_numberTo dX5_readPart_84 hw622 hw623 hw1573 (hs.2.1 123 _ rfl) (by decide) (hf_lin hs 123 rfl) rfl (Nat.le_of_ble_eq_true rfl) rfl (Nat.le_of_ble_eq_true rfl) (Nat.zero_le _) (Nat.zero_le _) (hf_mono (fun r M q => hf_drop (l' := [some (.ref 123), none, none]) (by simp [hf_sub]) q) h)
    · replace h := h.2 hc
      refine hf_aload_n dX5_readPart_65 rfl rfl ?_
      refine hf_callV (c := 5) (as := []) ok_X5_fails dX5_readPart_66 hw607 hw608 hw1568 (hs.2.1 123 _ rfl) (by decide) (hf_lin hs 123 rfl) rfl (Nat.le_of_ble_eq_true rfl) rfl (Nat.le_of_ble_eq_true rfl) (Nat.zero_le _) (Nat.zero_le _) ?_
      show hf_G X Y_X5_fails d _ _ 0 [some (.ref 123)] [] (t, T, I, L, P) _
      refine hf_aload_n dX5_fails_0 rfl rfl ?_
      refine hf_aload_n dX5_fails_1 rfl rfl ?_
      refine hf_geti (c := 5) (j := 7) dX5_fails_2 (hs.2.1 123 _ rfl) (hf_lin hs 123 rfl) (by decide) (by decide) hw235 (Or.inl rfl) ?_
      refine hf_puti (c := 5) (j := 1) dX5_fails_5 (hs.2.1 123 _ rfl) (hf_lin hs 123 rfl) (by decide) (by decide) hw228 rfl rfl ?_
      refine hf_iconst (v := 0) dX5_fails_8 (by decide) ?_
      refine hf_ireturn dX5_fails_9 rfl (by decide) ?_
      show hf_G X Y_X5_readPart (d + 1) _ _ 69 [some (.ref 123), some (.int x1), none] [.int 0] (t, T, (hf_up I 123 1 (I 123 7)), L, P) _
      refine hf_ireturn dX5_readPart_69 rfl (by decide) ?_
      exact h
  · replace h := h.2 hc
    refine hf_iload_n dX5_readPart_9 rfl rfl ?_
    refine hf_bipush (v := 8) dX5_readPart_10 (by decide) ?_
    refine hf_icmp_lt (tgt := 20) dX5_readPart_12 (by decide) (fun hc => ?_) (fun hc => ?_)
    · replace h := h.1 hc
      refine hf_aload_n dX5_readPart_20 rfl rfl ?_
      exact hf_callV (c := 5) (as := []) ok_X5_advance dX5_readPart_21 hw549 hw550 hw1563 (hs.2.1 123 _ rfl) (by decide) (hf_lin hs 123 rfl) rfl (Nat.le_of_ble_eq_true rfl) rfl (Nat.le_of_ble_eq_true rfl) (Nat.zero_le _) (Nat.zero_le _) h
    · replace h := h.2 hc
      refine hf_aload_n dX5_readPart_15 rfl rfl ?_
      refine hf_callV (c := 5) (as := []) ok_X5_fails dX5_readPart_16 hw607 hw608 hw1568 (hs.2.1 123 _ rfl) (by decide) (hf_lin hs 123 rfl) rfl (Nat.le_of_ble_eq_true rfl) rfl (Nat.le_of_ble_eq_true rfl) (Nat.zero_le _) (Nat.zero_le _) ?_
      show hf_G X Y_X5_fails d _ _ 0 [some (.ref 123)] [] (t, T, I, L, P) _
      refine hf_aload_n dX5_fails_0 rfl rfl ?_
      refine hf_aload_n dX5_fails_1 rfl rfl ?_
      refine hf_geti (c := 5) (j := 7) dX5_fails_2 (hs.2.1 123 _ rfl) (hf_lin hs 123 rfl) (by decide) (by decide) hw235 (Or.inl rfl) ?_
      refine hf_puti (c := 5) (j := 1) dX5_fails_5 (hs.2.1 123 _ rfl) (hf_lin hs 123 rfl) (by decide) (by decide) hw228 rfl rfl ?_
      refine hf_iconst (v := 0) dX5_fails_8 (by decide) ?_
      refine hf_ireturn dX5_fails_9 rfl (by decide) ?_
      show hf_G X Y_X5_readPart (d + 1) _ _ 19 [some (.ref 123), some (.int x1), none] [.int 0] (t, T, (hf_up I 123 1 (I 123 7)), L, P) _
      refine hf_ireturn dX5_readPart_19 rfl (by decide) ?_
      exact h

set_option maxHeartbeats 4000000 in
theorem w_X5_readPart_87 {X : hf_X} {d k n t : Nat} {T : hf_T} {I : hf_I} {L : hf_L} {P : hf_P} {Q : Option Value → hf_M → Prop} {s0 : Int32} (hs : hf_Lay t T P) (hby : P 123 2 = some 122) (h : (¬ s0 = (-1) → hf_G X Y_X5_advance d 0 0 0 (hf_en [.ref 123] 2) [] (t, T, I, L, P) (fun r M => hf_G X Y_X5_readPart (d + 1) k n 102 [some (.ref 123), none, some (.int s0)] (r.toList ++ []) M Q)) ∧ (s0 = (-1) → hf_G X Y_X5_readFact d 0 0 0 (hf_en [.ref 123] 3) [] (t, T, I, L, P) (fun r M => hf_G X Y_X5_readPart (d + 1) k n 97 [none, none, none] (r.toList ++ []) M Q))) : hf_G X Y_X5_readPart (d + 1) k n 87 [some (.ref 123), none, none] [.int s0] (t, T, I, L, P) Q := by
  refine hf_istore_n (l2 := [some (.ref 123), none, some (.int s0)]) dX5_readPart_87 rfl (by decide) rfl ?_
  refine hf_iload_n dX5_readPart_88 rfl rfl ?_
  refine hf_iconst (v := (-1)) dX5_readPart_89 (by decide) ?_
  refine hf_icmp_ne (tgt := 98) dX5_readPart_90 (by decide) (fun hc => ?_) (fun hc => ?_)
  · replace h := h.1 hc
    refine hf_aload_n dX5_readPart_98 rfl rfl ?_
    exact hf_callV (c := 5) (as := []) ok_X5_advance dX5_readPart_99 hw549 hw550 hw1563 (hs.2.1 123 _ rfl) (by decide) (hf_lin hs 123 rfl) rfl (Nat.le_of_ble_eq_true rfl) rfl (Nat.le_of_ble_eq_true rfl) (Nat.zero_le _) (Nat.zero_le _) h
  · replace h := h.2 hc
    refine hf_aload_n dX5_readPart_93 rfl rfl ?_
    exact hf_callV (c := 5) (as := []) ok_X5_readFact dX5_readPart_94 hw625 hw626 hw1574 (hs.2.1 123 _ rfl) (by decide) (hf_lin hs 123 rfl) rfl (Nat.le_of_ble_eq_true rfl) rfl (Nat.le_of_ble_eq_true rfl) (Nat.zero_le _) (Nat.zero_le _) (hf_mono (fun r M q => hf_drop (l' := [none, none, none]) (by simp [hf_sub]) q) h)

set_option maxHeartbeats 4000000 in
theorem w_X5_readPart_24 {X : hf_X} {d k n t : Nat} {T : hf_T} {I : hf_I} {L : hf_L} {P : hf_P} {Q : Option Value → hf_M → Prop} {x1 : Int32} (hs : hf_Lay t T P) (hby : P 123 2 = some 122) (h : hf_G X Y_X5_readSum d 0 0 0 (hf_en [.ref 123, .int (x1 + 1)] 4) [] (t, T, I, L, P) (fun r M => hf_G X Y_X5_readPart (d + 1) k n 31 [some (.ref 123), none, none] (r.toList ++ []) M Q)) : hf_G X Y_X5_readPart (d + 1) k n 24 [some (.ref 123), some (.int x1), none] [] (t, T, I, L, P) Q := by
  refine hf_aload_n dX5_readPart_24 rfl rfl ?_
  refine hf_iload_n dX5_readPart_25 rfl rfl ?_
  refine hf_iconst (v := 1) dX5_readPart_26 (by decide) ?_
  refine hf_iadd dX5_readPart_27 ?_
  exact hf_callV (c := 5) (as := [.int (x1 + 1)]) ok_X5_readSum dX5_readPart_28 hw610 hw611 hw1569 (hs.2.1 123 _ rfl) (by decide) (hf_lin hs 123 rfl) rfl (Nat.le_of_ble_eq_true rfl) rfl (Nat.le_of_ble_eq_true rfl) (Nat.zero_le _) (Nat.zero_le _) (hf_mono (fun r M q => hf_drop (l' := [some (.ref 123), none, none]) (by simp [hf_sub]) q) h)

set_option maxHeartbeats 4000000 in
theorem w_X5_readPart_102 {X : hf_X} {d k n t : Nat} {T : hf_T} {I : hf_I} {L : hf_L} {P : hf_P} {Q : Option Value → hf_M → Prop} {x2 : Int32} (hs : hf_Lay t T P) (hby : P 123 2 = some 122) (h : hf_G X Y_X9_addStep d 0 0 0 (hf_en [.ref 124, .int 0, .int x2] 3) [] (t, T, I, L, P) (fun r M => hf_G X Y_X5_readPart (d + 1) k n 111 [some (.ref 123), none, none] (r.toList ++ []) M Q)) : hf_G X Y_X5_readPart (d + 1) k n 102 [some (.ref 123), none, some (.int x2)] [] (t, T, I, L, P) Q := by
  refine hf_aload_n dX5_readPart_102 rfl rfl ?_
  refine hf_getr (b := 124) (c := 5) (j := 0) dX5_readPart_103 (hs.2.1 123 _ rfl) (hf_lin hs 123 rfl) (by decide) (by decide) hw226 rfl (hs.2.2 123 0 _ rfl) ?_
  refine hf_iconst (v := 0) dX5_readPart_106 (by decide) ?_
  refine hf_iload_n dX5_readPart_107 rfl rfl ?_
  exact hf_callV (c := 9) (as := [.int 0, .int x2]) ok_X9_addStep dX5_readPart_108 hw628 hw629 hw630 (hs.2.1 124 _ rfl) (by decide) (hf_lin hs 124 rfl) rfl (Nat.le_of_ble_eq_true rfl) rfl (Nat.le_of_ble_eq_true rfl) (Nat.zero_le _) (Nat.zero_le _) (hf_mono (fun r M q => hf_drop (l' := [some (.ref 123), none, none]) (by simp [hf_sub]) q) h)

set_option maxHeartbeats 4000000 in
theorem w_X5_readPart_97 {X : hf_X} {d k n t : Nat} {T : hf_T} {I : hf_I} {L : hf_L} {P : hf_P} {Q : Option Value → hf_M → Prop} {s0 : Int32} (hs : hf_Lay t T P) (hby : P 123 2 = some 122) (h : narrow .boolean (.int s0) = .int s0 ∧ (Q (some (.int s0)) (t, T, I, L, P))) : hf_G X Y_X5_readPart d k n 97 [none, none, none] [.int s0] (t, T, I, L, P) Q := by
  refine hf_ireturn dX5_readPart_97 rfl h.1 ?_
  replace h := h.2
  exact h

set_option maxHeartbeats 4000000 in
theorem w_X5_readPart_31 {X : hf_X} {d k n t : Nat} {T : hf_T} {I : hf_I} {L : hf_L} {P : hf_P} {Q : Option Value → hf_M → Prop} {s0 : Int32} (hs : hf_Lay t T P) (hby : P 123 2 = some 122) (h : (¬ s0 = 0 → hf_G X Y_X5_isSign d 0 0 0 (hf_en [.ref 123, .int 93] 2) [] (t, T, I, L, P) (fun r M => hf_G X Y_X5_readPart (d + 1) k n 42 [some (.ref 123), none, none] (r.toList ++ []) M Q)) ∧ (s0 = 0 → Q (some (.int 0)) (t, T, I, L, P))) : hf_G X Y_X5_readPart (d + 1) k n 31 [some (.ref 123), none, none] [.int s0] (t, T, I, L, P) Q := by
  refine hf_if_ne (tgt := 36) dX5_readPart_31 (by decide) (fun hc => ?_) (fun hc => ?_)
  · replace h := h.1 hc
    refine hf_aload_n dX5_readPart_36 rfl rfl ?_
    refine hf_bipush (v := 93) dX5_readPart_37 (by decide) ?_
    exact hf_callV (c := 5) (as := [.int 93]) ok_X5_isSign dX5_readPart_39 hw619 hw620 hw1572 (hs.2.1 123 _ rfl) (by decide) (hf_lin hs 123 rfl) rfl (Nat.le_of_ble_eq_true rfl) rfl (Nat.le_of_ble_eq_true rfl) (Nat.zero_le _) (Nat.zero_le _) h
  · replace h := h.2 hc
    refine hf_iconst (v := 0) dX5_readPart_34 (by decide) ?_
    refine hf_ireturn dX5_readPart_35 rfl (by decide) ?_
    exact h

set_option maxHeartbeats 4000000 in
theorem w_X5_readPart_111 {X : hf_X} {d k n t : Nat} {T : hf_T} {I : hf_I} {L : hf_L} {P : hf_P} {Q : Option Value → hf_M → Prop} {s0 : Int32} (hs : hf_Lay t T P) (hby : P 123 2 = some 122) (h : (¬ s0 = 0 → Q (some (.int 1)) (t, T, I, L, P)) ∧ (s0 = 0 → Q (some (.int 0)) (t, T, (hf_up I 123 1 (I 123 7)), L, P))) : hf_G X Y_X5_readPart (d + 1) k n 111 [some (.ref 123), none, none] [.int s0] (t, T, I, L, P) Q := by
  refine hf_if_ne (tgt := 121) dX5_readPart_111 (by decide) (fun hc => ?_) (fun hc => ?_)
  · replace h := h.1 hc
    refine hf_iconst (v := 1) dX5_readPart_121 (by decide) ?_
    refine hf_goto (tgt := 126) dX5_readPart_122 (by decide) ?_
    refine hf_ireturn dX5_readPart_126 rfl (by decide) ?_
    exact h
  · replace h := h.2 hc
    refine hf_aload_n dX5_readPart_114 rfl rfl ?_
    refine hf_callV (c := 5) (as := []) ok_X5_fails dX5_readPart_115 hw607 hw608 hw1568 (hs.2.1 123 _ rfl) (by decide) (hf_lin hs 123 rfl) rfl (Nat.le_of_ble_eq_true rfl) rfl (Nat.le_of_ble_eq_true rfl) (Nat.zero_le _) (Nat.zero_le _) ?_
    show hf_G X Y_X5_fails d _ _ 0 [some (.ref 123)] [] (t, T, I, L, P) _
    refine hf_aload_n dX5_fails_0 rfl rfl ?_
    refine hf_aload_n dX5_fails_1 rfl rfl ?_
    refine hf_geti (c := 5) (j := 7) dX5_fails_2 (hs.2.1 123 _ rfl) (hf_lin hs 123 rfl) (by decide) (by decide) hw235 (Or.inl rfl) ?_
    refine hf_puti (c := 5) (j := 1) dX5_fails_5 (hs.2.1 123 _ rfl) (hf_lin hs 123 rfl) (by decide) (by decide) hw228 rfl rfl ?_
    refine hf_iconst (v := 0) dX5_fails_8 (by decide) ?_
    refine hf_ireturn dX5_fails_9 rfl (by decide) ?_
    show hf_G X Y_X5_readPart (d + 1) _ _ 118 [some (.ref 123), none, none] [.int 0] (t, T, (hf_up I 123 1 (I 123 7)), L, P) _
    refine hf_if_eq (tgt := 125) dX5_readPart_118 (by decide) (fun _ => ?_) (fun hc => absurd (show (0 : Int32) = (0 : Int32) by decide) hc)
    refine hf_iconst (v := 0) dX5_readPart_125 (by decide) ?_
    refine hf_ireturn dX5_readPart_126 rfl (by decide) ?_
    exact h

set_option maxHeartbeats 4000000 in
theorem w_X5_readPart_42 {X : hf_X} {d k n t : Nat} {T : hf_T} {I : hf_I} {L : hf_L} {P : hf_P} {Q : Option Value → hf_M → Prop} {s0 : Int32} (hs : hf_Lay t T P) (hby : P 123 2 = some 122) (h : (¬ s0 = 0 → hf_G X Y_X5_advance d 0 0 0 (hf_en [.ref 123] 2) [] (t, T, I, L, P) (fun r M => hf_G X Y_X5_readPart (d + 1) k n 54 [none, none, none] (r.toList ++ []) M Q)) ∧ (s0 = 0 → Q (some (.int 0)) (t, T, (hf_up I 123 1 (I 123 7)), L, P))) : hf_G X Y_X5_readPart (d + 1) k n 42 [some (.ref 123), none, none] [.int s0] (t, T, I, L, P) Q := by
  refine hf_if_ne (tgt := 50) dX5_readPart_42 (by decide) (fun hc => ?_) (fun hc => ?_)
  · replace h := h.1 hc
    refine hf_aload_n dX5_readPart_50 rfl rfl ?_
    exact hf_callV (c := 5) (as := []) ok_X5_advance dX5_readPart_51 hw549 hw550 hw1563 (hs.2.1 123 _ rfl) (by decide) (hf_lin hs 123 rfl) rfl (Nat.le_of_ble_eq_true rfl) rfl (Nat.le_of_ble_eq_true rfl) (Nat.zero_le _) (Nat.zero_le _) (hf_mono (fun r M q => hf_drop (l' := [none, none, none]) (by simp [hf_sub]) q) h)
  · replace h := h.2 hc
    refine hf_aload_n dX5_readPart_45 rfl rfl ?_
    refine hf_callV (c := 5) (as := []) ok_X5_fails dX5_readPart_46 hw607 hw608 hw1568 (hs.2.1 123 _ rfl) (by decide) (hf_lin hs 123 rfl) rfl (Nat.le_of_ble_eq_true rfl) rfl (Nat.le_of_ble_eq_true rfl) (Nat.zero_le _) (Nat.zero_le _) ?_
    show hf_G X Y_X5_fails d _ _ 0 [some (.ref 123)] [] (t, T, I, L, P) _
    refine hf_aload_n dX5_fails_0 rfl rfl ?_
    refine hf_aload_n dX5_fails_1 rfl rfl ?_
    refine hf_geti (c := 5) (j := 7) dX5_fails_2 (hs.2.1 123 _ rfl) (hf_lin hs 123 rfl) (by decide) (by decide) hw235 (Or.inl rfl) ?_
    refine hf_puti (c := 5) (j := 1) dX5_fails_5 (hs.2.1 123 _ rfl) (hf_lin hs 123 rfl) (by decide) (by decide) hw228 rfl rfl ?_
    refine hf_iconst (v := 0) dX5_fails_8 (by decide) ?_
    refine hf_ireturn dX5_fails_9 rfl (by decide) ?_
    show hf_G X Y_X5_readPart (d + 1) _ _ 49 [some (.ref 123), none, none] [.int 0] (t, T, (hf_up I 123 1 (I 123 7)), L, P) _
    refine hf_ireturn dX5_readPart_49 rfl (by decide) ?_
    exact h

set_option maxHeartbeats 4000000 in
theorem w_X5_readPart_54 {X : hf_X} {d k n t : Nat} {T : hf_T} {I : hf_I} {L : hf_L} {P : hf_P} {Q : Option Value → hf_M → Prop}  (hs : hf_Lay t T P) (hby : P 123 2 = some 122) (h : Q (some (.int 1)) (t, T, I, L, P)) : hf_G X Y_X5_readPart d k n 54 [none, none, none] [] (t, T, I, L, P) Q := by
  refine hf_iconst (v := 1) dX5_readPart_54 (by decide) ?_
  refine hf_ireturn dX5_readPart_55 rfl (by decide) ?_
  exact h

set_option maxHeartbeats 4000000 in
theorem w_X5_readFact_0 {X : hf_X} {d k n t : Nat} {T : hf_T} {I : hf_I} {L : hf_L} {P : hf_P} {Q : Option Value → hf_M → Prop}  (hs : hf_Lay t T P) (hby : P 123 2 = some 122) (h : ((I 123 4) = 0 → hf_G X Y_X5_placeIn d 0 0 0 (hf_en [.ref 123, .ref 12] 5) [] (t, T, I, L, P) (fun r M => hf_G X Y_X5_readFact (d + 1) k n 18 [some (.ref 123), none, none] (r.toList ++ []) M Q)) ∧ (¬ ((I 123 4) = 0) → hf_G X Y_X5_placeIn d 0 0 0 (hf_en [.ref 123, .ref 11] 5) [] (t, T, I, L, P) (fun r M => hf_G X Y_X5_readFact (d + 1) k n 18 [some (.ref 123), none, none] (r.toList ++ []) M Q))) : hf_G X Y_X5_readFact (d + 1) k n 0 (hf_en [.ref 123] 3) [] (t, T, I, L, P) Q := by
  show hf_G X Y_X5_readFact (d + 1) k n 0 [some (.ref 123), none, none] [] (t, T, I, L, P) Q
  refine hf_aload_n dX5_readFact_0 rfl rfl ?_
  refine hf_aload_n dX5_readFact_1 rfl rfl ?_
  refine hf_geti (c := 5) (j := 4) dX5_readFact_2 (hs.2.1 123 _ rfl) (hf_lin hs 123 rfl) (by decide) (by decide) hw232 (Or.inr rfl) ?_
  refine hf_if_eq (tgt := 13) dX5_readFact_5 (by decide) (fun hc => ?_) (fun hc => ?_)
  · replace h := h.1 hc
    refine hf_ldcS (i := 11) dX5_readFact_13 rfl rfl ?_
    exact hf_callV (c := 5) (as := [.ref 12]) ok_X5_placeIn dX5_readFact_15 hw558 hw559 hw1566 (hs.2.1 123 _ rfl) (by decide) (hf_lin hs 123 rfl) rfl (Nat.le_of_ble_eq_true rfl) rfl (Nat.le_of_ble_eq_true rfl) (Nat.zero_le _) (Nat.zero_le _) h
  · replace h := h.2 hc
    refine hf_ldcS (i := 10) dX5_readFact_8 rfl rfl ?_
    refine hf_goto (tgt := 15) dX5_readFact_10 (by decide) ?_
    exact hf_callV (c := 5) (as := [.ref 11]) ok_X5_placeIn dX5_readFact_15 hw558 hw559 hw1566 (hs.2.1 123 _ rfl) (by decide) (hf_lin hs 123 rfl) rfl (Nat.le_of_ble_eq_true rfl) rfl (Nat.le_of_ble_eq_true rfl) (Nat.zero_le _) (Nat.zero_le _) h

set_option maxHeartbeats 4000000 in
theorem w_X5_readFact_18 {X : hf_X} {d k n t : Nat} {T : hf_T} {I : hf_I} {L : hf_L} {P : hf_P} {Q : Option Value → hf_M → Prop} {s0 : Int32} (hs : hf_Lay t T P) (hby : P 123 2 = some 122) (h : (¬ s0 = (-1) → hf_G X Y_X5_advance d 0 0 0 (hf_en [.ref 123] 2) [] (t, T, I, L, P) (fun r M => hf_G X Y_X5_readFact (d + 1) k n 33 [some (.ref 123), some (.int s0), none] (r.toList ++ []) M Q)) ∧ (s0 = (-1) → Q (some (.int 0)) (t, T, (hf_up I 123 1 (I 123 7)), L, P))) : hf_G X Y_X5_readFact (d + 1) k n 18 [some (.ref 123), none, none] [.int s0] (t, T, I, L, P) Q := by
  refine hf_istore_n (l2 := [some (.ref 123), some (.int s0), none]) dX5_readFact_18 rfl (by decide) rfl ?_
  refine hf_iload_n dX5_readFact_19 rfl rfl ?_
  refine hf_iconst (v := (-1)) dX5_readFact_20 (by decide) ?_
  refine hf_icmp_ne (tgt := 29) dX5_readFact_21 (by decide) (fun hc => ?_) (fun hc => ?_)
  · replace h := h.1 hc
    refine hf_aload_n dX5_readFact_29 rfl rfl ?_
    exact hf_callV (c := 5) (as := []) ok_X5_advance dX5_readFact_30 hw549 hw550 hw1563 (hs.2.1 123 _ rfl) (by decide) (hf_lin hs 123 rfl) rfl (Nat.le_of_ble_eq_true rfl) rfl (Nat.le_of_ble_eq_true rfl) (Nat.zero_le _) (Nat.zero_le _) h
  · replace h := h.2 hc
    refine hf_aload_n dX5_readFact_24 rfl rfl ?_
    refine hf_callV (c := 5) (as := []) ok_X5_fails dX5_readFact_25 hw607 hw608 hw1568 (hs.2.1 123 _ rfl) (by decide) (hf_lin hs 123 rfl) rfl (Nat.le_of_ble_eq_true rfl) rfl (Nat.le_of_ble_eq_true rfl) (Nat.zero_le _) (Nat.zero_le _) ?_
    show hf_G X Y_X5_fails d _ _ 0 [some (.ref 123)] [] (t, T, I, L, P) _
    refine hf_aload_n dX5_fails_0 rfl rfl ?_
    refine hf_aload_n dX5_fails_1 rfl rfl ?_
    refine hf_geti (c := 5) (j := 7) dX5_fails_2 (hs.2.1 123 _ rfl) (hf_lin hs 123 rfl) (by decide) (by decide) hw235 (Or.inl rfl) ?_
    refine hf_puti (c := 5) (j := 1) dX5_fails_5 (hs.2.1 123 _ rfl) (hf_lin hs 123 rfl) (by decide) (by decide) hw228 rfl rfl ?_
    refine hf_iconst (v := 0) dX5_fails_8 (by decide) ?_
    refine hf_ireturn dX5_fails_9 rfl (by decide) ?_
    show hf_G X Y_X5_readFact (d + 1) _ _ 28 [some (.ref 123), some (.int s0), none] [.int 0] (t, T, (hf_up I 123 1 (I 123 7)), L, P) _
    refine hf_ireturn dX5_readFact_28 rfl (by decide) ?_
    exact h

set_option maxHeartbeats 4000000 in
theorem w_X5_readFact_33 {X : hf_X} {d k n t : Nat} {T : hf_T} {I : hf_I} {L : hf_L} {P : hf_P} {Q : Option Value → hf_M → Prop} {x1 : Int32} (hs : hf_Lay t T P) (hby : P 123 2 = some 122) (h : (¬ (I 123 4) = 0 → hf_G X Y_X9_addStep d 0 0 0 (hf_en [.ref 124, .int 1, .int x1] 3) [] (t, T, I, L, P) (fun r M => hf_G X Y_X5_readFact (d + 1) k n 89 [some (.ref 123), none, none] (r.toList ++ []) M Q)) ∧ ((I 123 4) = 0 → (x1 < 5 → hf_G X Y_X9_addStep d 0 0 0 (hf_en [.ref 124, .int 1, .int x1] 3) [] (t, T, I, L, P) (fun r M => hf_G X Y_X5_readFact (d + 1) k n 89 [some (.ref 123), none, none] (r.toList ++ []) M Q)) ∧ (¬ (x1 < 5) → hf_G X Y_X5_numberTo d 0 0 0 (hf_en [.ref 123, .int 15] 4) [] (t, T, I, L, P) (fun r M => hf_G X Y_X5_readFact (d + 1) k n 51 [some (.ref 123), some (.int x1), none] (r.toList ++ []) M Q)))) : hf_G X Y_X5_readFact (d + 1) k n 33 [some (.ref 123), some (.int x1), none] [] (t, T, I, L, P) Q := by
  refine hf_aload_n dX5_readFact_33 rfl rfl ?_
  refine hf_geti (c := 5) (j := 4) dX5_readFact_34 (hs.2.1 123 _ rfl) (hf_lin hs 123 rfl) (by decide) (by decide) hw232 (Or.inr rfl) ?_
  refine hf_if_ne (tgt := 80) dX5_readFact_37 (by decide) (fun hc => ?_) (fun hc => ?_)
  · replace h := h.1 hc
    refine hf_aload_n dX5_readFact_80 rfl rfl ?_
    refine hf_getr (b := 124) (c := 5) (j := 0) dX5_readFact_81 (hs.2.1 123 _ rfl) (hf_lin hs 123 rfl) (by decide) (by decide) hw226 rfl (hs.2.2 123 0 _ rfl) ?_
    refine hf_iconst (v := 1) dX5_readFact_84 (by decide) ?_
    refine hf_iload_n dX5_readFact_85 rfl rfl ?_
    exact hf_callV (c := 9) (as := [.int 1, .int x1]) ok_X9_addStep dX5_readFact_86 hw628 hw629 hw630 (hs.2.1 124 _ rfl) (by decide) (hf_lin hs 124 rfl) rfl (Nat.le_of_ble_eq_true rfl) rfl (Nat.le_of_ble_eq_true rfl) (Nat.zero_le _) (Nat.zero_le _) (hf_mono (fun r M q => hf_drop (l' := [some (.ref 123), none, none]) (by simp [hf_sub]) q) h)
  · replace h := h.2 hc
    refine hf_iload_n dX5_readFact_40 rfl rfl ?_
    refine hf_iconst (v := 5) dX5_readFact_41 (by decide) ?_
    refine hf_icmp_lt (tgt := 80) dX5_readFact_42 (by decide) (fun hc => ?_) (fun hc => ?_)
    · replace h := h.1 hc
      refine hf_aload_n dX5_readFact_80 rfl rfl ?_
      refine hf_getr (b := 124) (c := 5) (j := 0) dX5_readFact_81 (hs.2.1 123 _ rfl) (hf_lin hs 123 rfl) (by decide) (by decide) hw226 rfl (hs.2.2 123 0 _ rfl) ?_
      refine hf_iconst (v := 1) dX5_readFact_84 (by decide) ?_
      refine hf_iload_n dX5_readFact_85 rfl rfl ?_
      exact hf_callV (c := 9) (as := [.int 1, .int x1]) ok_X9_addStep dX5_readFact_86 hw628 hw629 hw630 (hs.2.1 124 _ rfl) (by decide) (hf_lin hs 124 rfl) rfl (Nat.le_of_ble_eq_true rfl) rfl (Nat.le_of_ble_eq_true rfl) (Nat.zero_le _) (Nat.zero_le _) (hf_mono (fun r M q => hf_drop (l' := [some (.ref 123), none, none]) (by simp [hf_sub]) q) h)
    · replace h := h.2 hc
      refine hf_aload_n dX5_readFact_45 rfl rfl ?_
      refine hf_bipush (v := 15) dX5_readFact_46 (by decide) ?_
      exact hf_callV (c := 5) (as := [.int 15]) ok_X5_numberTo dX5_readFact_48 hw622 hw623 hw1573 (hs.2.1 123 _ rfl) (by decide) (hf_lin hs 123 rfl) rfl (Nat.le_of_ble_eq_true rfl) rfl (Nat.le_of_ble_eq_true rfl) (Nat.zero_le _) (Nat.zero_le _) h

set_option maxHeartbeats 4000000 in
theorem w_X5_readFact_89 {X : hf_X} {d k n t : Nat} {T : hf_T} {I : hf_I} {L : hf_L} {P : hf_P} {Q : Option Value → hf_M → Prop} {s0 : Int32} (hs : hf_Lay t T P) (hby : P 123 2 = some 122) (h : (¬ s0 = 0 → Q (some (.int 1)) (t, T, I, L, P)) ∧ (s0 = 0 → Q (some (.int 0)) (t, T, (hf_up I 123 1 (I 123 7)), L, P))) : hf_G X Y_X5_readFact (d + 1) k n 89 [some (.ref 123), none, none] [.int s0] (t, T, I, L, P) Q := by
  refine hf_if_ne (tgt := 99) dX5_readFact_89 (by decide) (fun hc => ?_) (fun hc => ?_)
  · replace h := h.1 hc
    refine hf_iconst (v := 1) dX5_readFact_99 (by decide) ?_
    refine hf_goto (tgt := 104) dX5_readFact_100 (by decide) ?_
    refine hf_ireturn dX5_readFact_104 rfl (by decide) ?_
    exact h
  · replace h := h.2 hc
    refine hf_aload_n dX5_readFact_92 rfl rfl ?_
    refine hf_callV (c := 5) (as := []) ok_X5_fails dX5_readFact_93 hw607 hw608 hw1568 (hs.2.1 123 _ rfl) (by decide) (hf_lin hs 123 rfl) rfl (Nat.le_of_ble_eq_true rfl) rfl (Nat.le_of_ble_eq_true rfl) (Nat.zero_le _) (Nat.zero_le _) ?_
    show hf_G X Y_X5_fails d _ _ 0 [some (.ref 123)] [] (t, T, I, L, P) _
    refine hf_aload_n dX5_fails_0 rfl rfl ?_
    refine hf_aload_n dX5_fails_1 rfl rfl ?_
    refine hf_geti (c := 5) (j := 7) dX5_fails_2 (hs.2.1 123 _ rfl) (hf_lin hs 123 rfl) (by decide) (by decide) hw235 (Or.inl rfl) ?_
    refine hf_puti (c := 5) (j := 1) dX5_fails_5 (hs.2.1 123 _ rfl) (hf_lin hs 123 rfl) (by decide) (by decide) hw228 rfl rfl ?_
    refine hf_iconst (v := 0) dX5_fails_8 (by decide) ?_
    refine hf_ireturn dX5_fails_9 rfl (by decide) ?_
    show hf_G X Y_X5_readFact (d + 1) _ _ 96 [some (.ref 123), none, none] [.int 0] (t, T, (hf_up I 123 1 (I 123 7)), L, P) _
    refine hf_if_eq (tgt := 103) dX5_readFact_96 (by decide) (fun _ => ?_) (fun hc => absurd (show (0 : Int32) = (0 : Int32) by decide) hc)
    refine hf_iconst (v := 0) dX5_readFact_103 (by decide) ?_
    refine hf_ireturn dX5_readFact_104 rfl (by decide) ?_
    exact h

set_option maxHeartbeats 4000000 in
theorem w_X5_readFact_51 {X : hf_X} {d k n t : Nat} {T : hf_T} {I : hf_I} {L : hf_L} {P : hf_P} {Q : Option Value → hf_M → Prop} {x1 : Int32} {s0 : Int32} (hs : hf_Lay t T P) (hby : P 123 2 = some 122) (h : (¬ s0 = (-1) → hf_G X Y_X5_advance d 0 0 0 (hf_en [.ref 123] 2) [] (t, T, I, L, P) (fun r M => hf_G X Y_X5_readFact (d + 1) k n 66 [some (.ref 123), some (.int x1), some (.int s0)] (r.toList ++ []) M Q)) ∧ (s0 = (-1) → Q (some (.int 0)) (t, T, (hf_up I 123 1 (I 123 7)), L, P))) : hf_G X Y_X5_readFact (d + 1) k n 51 [some (.ref 123), some (.int x1), none] [.int s0] (t, T, I, L, P) Q := by
  refine hf_istore_n (l2 := [some (.ref 123), some (.int x1), some (.int s0)]) dX5_readFact_51 rfl (by decide) rfl ?_
  refine hf_iload_n dX5_readFact_52 rfl rfl ?_
  refine hf_iconst (v := (-1)) dX5_readFact_53 (by decide) ?_
  refine hf_icmp_ne (tgt := 62) dX5_readFact_54 (by decide) (fun hc => ?_) (fun hc => ?_)
  · replace h := h.1 hc
    refine hf_aload_n dX5_readFact_62 rfl rfl ?_
    exact hf_callV (c := 5) (as := []) ok_X5_advance dX5_readFact_63 hw549 hw550 hw1563 (hs.2.1 123 _ rfl) (by decide) (hf_lin hs 123 rfl) rfl (Nat.le_of_ble_eq_true rfl) rfl (Nat.le_of_ble_eq_true rfl) (Nat.zero_le _) (Nat.zero_le _) h
  · replace h := h.2 hc
    refine hf_aload_n dX5_readFact_57 rfl rfl ?_
    refine hf_callV (c := 5) (as := []) ok_X5_fails dX5_readFact_58 hw607 hw608 hw1568 (hs.2.1 123 _ rfl) (by decide) (hf_lin hs 123 rfl) rfl (Nat.le_of_ble_eq_true rfl) rfl (Nat.le_of_ble_eq_true rfl) (Nat.zero_le _) (Nat.zero_le _) ?_
    show hf_G X Y_X5_fails d _ _ 0 [some (.ref 123)] [] (t, T, I, L, P) _
    refine hf_aload_n dX5_fails_0 rfl rfl ?_
    refine hf_aload_n dX5_fails_1 rfl rfl ?_
    refine hf_geti (c := 5) (j := 7) dX5_fails_2 (hs.2.1 123 _ rfl) (hf_lin hs 123 rfl) (by decide) (by decide) hw235 (Or.inl rfl) ?_
    refine hf_puti (c := 5) (j := 1) dX5_fails_5 (hs.2.1 123 _ rfl) (hf_lin hs 123 rfl) (by decide) (by decide) hw228 rfl rfl ?_
    refine hf_iconst (v := 0) dX5_fails_8 (by decide) ?_
    refine hf_ireturn dX5_fails_9 rfl (by decide) ?_
    show hf_G X Y_X5_readFact (d + 1) _ _ 61 [some (.ref 123), some (.int x1), some (.int s0)] [.int 0] (t, T, (hf_up I 123 1 (I 123 7)), L, P) _
    refine hf_ireturn dX5_readFact_61 rfl (by decide) ?_
    exact h

set_option maxHeartbeats 4000000 in
theorem w_X5_readFact_66 {X : hf_X} {d k n t : Nat} {T : hf_T} {I : hf_I} {L : hf_L} {P : hf_P} {Q : Option Value → hf_M → Prop} {x1 : Int32} {x2 : Int32} (hs : hf_Lay t T P) (hby : P 123 2 = some 122) (h : (¬ x1 = 5 → hf_G X Y_X9_addStep d 0 0 0 (hf_en [.ref 124, .int 1, .int (21 + x2)] 3) [] (t, T, I, L, P) (fun r M => hf_G X Y_X5_readFact (d + 1) k n 89 [some (.ref 123), none, none] (r.toList ++ []) M Q)) ∧ (x1 = 5 → hf_G X Y_X9_addStep d 0 0 0 (hf_en [.ref 124, .int 1, .int (5 + x2)] 3) [] (t, T, I, L, P) (fun r M => hf_G X Y_X5_readFact (d + 1) k n 89 [some (.ref 123), none, none] (r.toList ++ []) M Q))) : hf_G X Y_X5_readFact (d + 1) k n 66 [some (.ref 123), some (.int x1), some (.int x2)] [] (t, T, I, L, P) Q := by
  refine hf_iload_n dX5_readFact_66 rfl rfl ?_
  refine hf_iconst (v := 5) dX5_readFact_67 (by decide) ?_
  refine hf_icmp_ne (tgt := 75) dX5_readFact_68 (by decide) (fun hc => ?_) (fun hc => ?_)
  · replace h := h.1 hc
    refine hf_bipush (v := 21) dX5_readFact_75 (by decide) ?_
    refine hf_iload_n dX5_readFact_77 rfl rfl ?_
    refine hf_iadd dX5_readFact_78 ?_
    refine hf_istore_n (l2 := [some (.ref 123), some (.int (21 + x2)), some (.int x2)]) dX5_readFact_79 rfl (by decide) rfl ?_
    refine hf_aload_n dX5_readFact_80 rfl rfl ?_
    refine hf_getr (b := 124) (c := 5) (j := 0) dX5_readFact_81 (hs.2.1 123 _ rfl) (hf_lin hs 123 rfl) (by decide) (by decide) hw226 rfl (hs.2.2 123 0 _ rfl) ?_
    refine hf_iconst (v := 1) dX5_readFact_84 (by decide) ?_
    refine hf_iload_n dX5_readFact_85 rfl rfl ?_
    exact hf_callV (c := 9) (as := [.int 1, .int (21 + x2)]) ok_X9_addStep dX5_readFact_86 hw628 hw629 hw630 (hs.2.1 124 _ rfl) (by decide) (hf_lin hs 124 rfl) rfl (Nat.le_of_ble_eq_true rfl) rfl (Nat.le_of_ble_eq_true rfl) (Nat.zero_le _) (Nat.zero_le _) (hf_mono (fun r M q => hf_drop (l' := [some (.ref 123), none, none]) (by simp [hf_sub]) q) h)
  · replace h := h.2 hc
    refine hf_iconst (v := 5) dX5_readFact_71 (by decide) ?_
    refine hf_goto (tgt := 77) dX5_readFact_72 (by decide) ?_
    refine hf_iload_n dX5_readFact_77 rfl rfl ?_
    refine hf_iadd dX5_readFact_78 ?_
    refine hf_istore_n (l2 := [some (.ref 123), some (.int (5 + x2)), some (.int x2)]) dX5_readFact_79 rfl (by decide) rfl ?_
    refine hf_aload_n dX5_readFact_80 rfl rfl ?_
    refine hf_getr (b := 124) (c := 5) (j := 0) dX5_readFact_81 (hs.2.1 123 _ rfl) (hf_lin hs 123 rfl) (by decide) (by decide) hw226 rfl (hs.2.2 123 0 _ rfl) ?_
    refine hf_iconst (v := 1) dX5_readFact_84 (by decide) ?_
    refine hf_iload_n dX5_readFact_85 rfl rfl ?_
    exact hf_callV (c := 9) (as := [.int 1, .int (5 + x2)]) ok_X9_addStep dX5_readFact_86 hw628 hw629 hw630 (hs.2.1 124 _ rfl) (by decide) (hf_lin hs 124 rfl) rfl (Nat.le_of_ble_eq_true rfl) rfl (Nat.le_of_ble_eq_true rfl) (Nat.zero_le _) (Nat.zero_le _) (hf_mono (fun r M q => hf_drop (l' := [some (.ref 123), none, none]) (by simp [hf_sub]) q) h)
