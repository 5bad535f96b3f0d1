set_option maxHeartbeats 4000000 in
theorem w_X11_placeWord_0 {X : hf_X} {d k n t : Nat} {T : hf_T} {I : hf_I} {L : hf_L} {P : hf_P} {Q : Option Value → hf_M → Prop} {x1 : Int32} (hs : hf_Lay t T P) (h : (x1 < 0 → Q (some (.int (-2))) (t, T, I, L, P)) ∧ (¬ (x1 < 0) → ((I 105 5) ≤ x1 → Q (some (.int (-2))) (t, T, I, L, P)) ∧ (¬ ((I 105 5) ≤ x1) → hf_G X Y_X1_lineWidth d 0 0 0 (hf_en [.ref 101, .int (I 114 3)] 5) [] (t, T, I, L, P) (fun r M => hf_G X Y_X11_placeWord (d + 1) k n 36 [some (.ref 100), some (.int x1), some (.ref 114), none] (r.toList ++ []) M Q)))) : hf_G X Y_X11_placeWord (d + 1) k n 0 (hf_en [.ref 100, .int x1] 4) [] (t, T, I, L, P) Q := by
  show hf_G X Y_X11_placeWord (d + 1) k n 0 [some (.ref 100), some (.int x1), none, none] [] (t, T, I, L, P) Q
  refine hf_aload_n dX11_placeWord_0 rfl rfl ?_
  refine hf_getr (b := 101) (c := 11) (j := 0) dX11_placeWord_1 (hs.2.1 100 _ rfl) (hf_lin hs 100 rfl) (by decide) (by decide) hw365 rfl (hs.2.2 100 0 _ rfl) ?_
  refine hf_getr (b := 114) (c := 1) (j := 7) dX11_placeWord_4 (hs.2.1 101 _ rfl) (hf_lin hs 101 rfl) (by decide) (by decide) hw123 rfl (hs.2.2 101 7 _ rfl) ?_
  refine hf_astore_n (l2 := [some (.ref 100), some (.int x1), some (.ref 114), none]) dX11_placeWord_7 rfl (by decide) rfl ?_
  refine hf_aload_n dX11_placeWord_8 rfl rfl ?_
  refine hf_getr (b := 101) (c := 11) (j := 0) dX11_placeWord_9 (hs.2.1 100 _ rfl) (hf_lin hs 100 rfl) (by decide) (by decide) hw365 rfl (hs.2.2 100 0 _ rfl) ?_
  refine hf_getr (b := 105) (c := 1) (j := 3) dX11_placeWord_12 (hs.2.1 101 _ rfl) (hf_lin hs 101 rfl) (by decide) (by decide) hw111 rfl (hs.2.2 101 3 _ rfl) ?_
  refine hf_iload_n dX11_placeWord_15 rfl rfl ?_
  refine hf_callV (c := 10) (as := [.int x1]) ok_X10_has dX11_placeWord_16 hw474 hw475 hw476 (hs.2.1 105 _ rfl) (by decide) (hf_lin hs 105 rfl) rfl (Nat.le_of_ble_eq_true rfl) rfl (Nat.le_of_ble_eq_true rfl) (Nat.zero_le _) (Nat.zero_le _) ?_
  show hf_G X Y_X10_has d _ _ 0 [some (.ref 105), some (.int x1)] [] (t, T, I, L, P) _
  refine hf_iload_n dX10_has_0 rfl rfl ?_
  refine hf_if_lt (tgt := 16) dX10_has_1 (by decide) (fun hc => ?_) (fun hc => ?_)
  · replace h := h.1 hc
    refine hf_iconst (v := 0) dX10_has_16 (by decide) ?_
    refine hf_ireturn dX10_has_17 rfl (by decide) ?_
    show hf_G X Y_X11_placeWord (d + 1) _ _ 19 [some (.ref 100), some (.int x1), some (.ref 114), none] [.int 0] (t, T, I, L, P) _
    refine hf_if_ne (tgt := 25) dX11_placeWord_19 (by decide) (fun hc => absurd (show ¬ (0 : Int32) = (0 : Int32) from hc) (by decide)) (fun _ => ?_)
    refine hf_bipush (v := (-2)) dX11_placeWord_22 (by decide) ?_
    refine hf_ireturn dX11_placeWord_24 rfl rfl ?_
    exact h
  · replace h := h.2 hc
    refine hf_iload_n dX10_has_4 rfl rfl ?_
    refine hf_aload_n dX10_has_5 rfl rfl ?_
    refine hf_geti (c := 10) (j := 5) dX10_has_6 (hs.2.1 105 _ rfl) (hf_lin hs 105 rfl) (by decide) (by decide) hw61 (Or.inl rfl) ?_
    refine hf_icmp_ge (tgt := 16) dX10_has_9 (by decide) (fun hc => ?_) (fun hc => ?_)
    · replace h := h.1 hc
      refine hf_iconst (v := 0) dX10_has_16 (by decide) ?_
      refine hf_ireturn dX10_has_17 rfl (by decide) ?_
      show hf_G X Y_X11_placeWord (d + 1) _ _ 19 [some (.ref 100), some (.int x1), some (.ref 114), none] [.int 0] (t, T, I, L, P) _
      refine hf_if_ne (tgt := 25) dX11_placeWord_19 (by decide) (fun hc => absurd (show ¬ (0 : Int32) = (0 : Int32) from hc) (by decide)) (fun _ => ?_)
      refine hf_bipush (v := (-2)) dX11_placeWord_22 (by decide) ?_
      refine hf_ireturn dX11_placeWord_24 rfl rfl ?_
      exact h
    · replace h := h.2 hc
      refine hf_iconst (v := 1) dX10_has_12 (by decide) ?_
      refine hf_goto (tgt := 17) dX10_has_13 (by decide) ?_
      refine hf_ireturn dX10_has_17 rfl (by decide) ?_
      show hf_G X Y_X11_placeWord (d + 1) _ _ 19 [some (.ref 100), some (.int x1), some (.ref 114), none] [.int 1] (t, T, I, L, P) _
      refine hf_if_ne (tgt := 25) dX11_placeWord_19 (by decide) (fun _ => ?_) (fun hc => absurd (show (1 : Int32) = (0 : Int32) from hc) (by decide))
      refine hf_aload_n dX11_placeWord_25 rfl rfl ?_
      refine hf_getr (b := 101) (c := 11) (j := 0) dX11_placeWord_26 (hs.2.1 100 _ rfl) (hf_lin hs 100 rfl) (by decide) (by decide) hw365 rfl (hs.2.2 100 0 _ rfl) ?_
      refine hf_aload_n dX11_placeWord_29 rfl rfl ?_
      refine hf_geti (c := 3) (j := 3) dX11_placeWord_30 (hs.2.1 114 _ rfl) (hf_lin hs 114 rfl) (by decide) (by decide) hw94 (Or.inl rfl) ?_
      exact hf_callV (c := 1) (as := [.int (I 114 3)]) ok_X1_lineWidth dX11_placeWord_33 hw687 hw688 hw689 (hs.2.1 101 _ rfl) (by decide) (hf_lin hs 101 rfl) rfl (Nat.le_of_ble_eq_true rfl) rfl (Nat.le_of_ble_eq_true rfl) (Nat.zero_le _) (Nat.zero_le _) h

set_option maxHeartbeats 4000000 in
theorem w_X11_placeWord_36 {X : hf_X} {d k n t : Nat} {T : hf_T} {I : hf_I} {L : hf_L} {P : hf_P} {Q : Option Value → hf_M → Prop} {x1 : Int32} {s0 : Int32} (hs : hf_Lay t T P) (h : hf_G X Y_X1_wordWidth d 0 0 0 (hf_en [.ref 101, .int x1, .int (I 101 14)] 6) [] (t, T, I, L, P) (fun r M => hf_G X Y_X11_placeWord (d + 1) k n 51 [some (.ref 100), some (.int x1), some (.ref 114), none] (r.toList ++ [.int s0]) M Q)) : hf_G X Y_X11_placeWord (d + 1) k n 36 [some (.ref 100), some (.int x1), some (.ref 114), none] [.int s0] (t, T, I, L, P) Q := by
  refine hf_aload_n dX11_placeWord_36 rfl rfl ?_
  refine hf_getr (b := 101) (c := 11) (j := 0) dX11_placeWord_37 (hs.2.1 100 _ rfl) (hf_lin hs 100 rfl) (by decide) (by decide) hw365 rfl (hs.2.2 100 0 _ rfl) ?_
  refine hf_iload_n dX11_placeWord_40 rfl rfl ?_
  refine hf_aload_n dX11_placeWord_41 rfl rfl ?_
  refine hf_getr (b := 101) (c := 11) (j := 0) dX11_placeWord_42 (hs.2.1 100 _ rfl) (hf_lin hs 100 rfl) (by decide) (by decide) hw365 rfl (hs.2.2 100 0 _ rfl) ?_
  refine hf_geti (c := 1) (j := 14) dX11_placeWord_45 (hs.2.1 101 _ rfl) (hf_lin hs 101 rfl) (by decide) (by decide) hw146 (Or.inl rfl) ?_
  exact hf_callV (c := 1) (as := [.int x1, .int (I 101 14)]) ok_X1_wordWidth dX11_placeWord_48 hw478 hw479 hw480 (hs.2.1 101 _ rfl) (by decide) (hf_lin hs 101 rfl) rfl (Nat.le_of_ble_eq_true rfl) rfl (Nat.le_of_ble_eq_true rfl) (Nat.zero_le _) (Nat.zero_le _) h

set_option maxHeartbeats 4000000 in
theorem w_X11_placeWord_51 {X : hf_X} {d k n t : Nat} {T : hf_T} {I : hf_I} {L : hf_L} {P : hf_P} {Q : Option Value → hf_M → Prop} {x1 : Int32} {s0 : Int32} {s1 : Int32} (hs : hf_Lay t T P) (h : hf_G X Y_X3_manyIn d 0 0 0 (hf_en [.ref 114, .int (I 114 3)] 4) [] (t, T, I, L, P) (fun r M => hf_G X Y_X11_placeWord (d + 1) k n 61 [some (.ref 100), some (.int x1), some (.ref 114), some (.int (s1 + s0))] (r.toList ++ []) M Q)) : hf_G X Y_X11_placeWord (d + 1) k n 51 [some (.ref 100), some (.int x1), some (.ref 114), none] [.int s0, .int s1] (t, T, I, L, P) Q := by
  refine hf_iadd dX11_placeWord_51 ?_
  refine hf_istore_n (l2 := [some (.ref 100), some (.int x1), some (.ref 114), some (.int (s1 + s0))]) dX11_placeWord_52 rfl (by decide) rfl ?_
  refine hf_aload_n dX11_placeWord_53 rfl rfl ?_
  refine hf_aload_n dX11_placeWord_54 rfl rfl ?_
  refine hf_geti (c := 3) (j := 3) dX11_placeWord_55 (hs.2.1 114 _ rfl) (hf_lin hs 114 rfl) (by decide) (by decide) hw94 (Or.inl rfl) ?_
  exact hf_callV (c := 3) (as := [.int (I 114 3)]) ok_X3_manyIn dX11_placeWord_58 hw699 hw700 hw701 (hs.2.1 114 _ rfl) (by decide) (hf_lin hs 114 rfl) rfl (Nat.le_of_ble_eq_true rfl) rfl (Nat.le_of_ble_eq_true rfl) (Nat.zero_le _) (Nat.zero_le _) h

set_option maxHeartbeats 4000000 in
theorem w_X11_placeWord_61 {X : hf_X} {d k n t : Nat} {T : hf_T} {I : hf_I} {L : hf_L} {P : hf_P} {Q : Option Value → hf_M → Prop} {x1 : Int32} {x3 : Int32} {s0 : Int32} (hs : hf_Lay t T P) (h : (s0 ≤ 0 → ((I 101 12) < x3 → Q (some (.int (-3))) (t, T, I, L, P)) ∧ (¬ ((I 101 12) < x3) → hf_G X Y_X4_isBarred d 0 0 0 (hf_en [.ref 135, .int x1, .int (I 101 14)] 3) [] (t, T, I, L, P) (fun r M => hf_G X Y_X11_placeWord (d + 1) k n 109 [some (.ref 100), some (.int x1), some (.ref 114), some (.int x3)] (r.toList ++ []) M Q))) ∧ (¬ (s0 ≤ 0) → ((I 101 12) < (x3 + (((I 102 26) * ((I 101 14) + 2)) / 2)) → Q (some (.int (-3))) (t, T, I, L, P)) ∧ (¬ ((I 101 12) < (x3 + (((I 102 26) * ((I 101 14) + 2)) / 2))) → hf_G X Y_X4_isBarred d 0 0 0 (hf_en [.ref 135, .int x1, .int (I 101 14)] 3) [] (t, T, I, L, P) (fun r M => hf_G X Y_X11_placeWord (d + 1) k n 109 [some (.ref 100), some (.int x1), some (.ref 114), some (.int (x3 + (((I 102 26) * ((I 101 14) + 2)) / 2)))] (r.toList ++ []) M Q)))) : hf_G X Y_X11_placeWord (d + 1) k n 61 [some (.ref 100), some (.int x1), some (.ref 114), some (.int x3)] [.int s0] (t, T, I, L, P) Q := by
  refine hf_if_le (tgt := 83) dX11_placeWord_61 (by decide) (fun hc => ?_) (fun hc => ?_)
  · replace h := h.1 hc
    refine hf_iload_n dX11_placeWord_83 rfl rfl ?_
    refine hf_aload_n dX11_placeWord_84 rfl rfl ?_
    refine hf_getr (b := 101) (c := 11) (j := 0) dX11_placeWord_85 (hs.2.1 100 _ rfl) (hf_lin hs 100 rfl) (by decide) (by decide) hw365 rfl (hs.2.2 100 0 _ rfl) ?_
    refine hf_geti (c := 1) (j := 12) dX11_placeWord_88 (hs.2.1 101 _ rfl) (hf_lin hs 101 rfl) (by decide) (by decide) hw137 (Or.inl rfl) ?_
    refine hf_icmp_gt (tgt := 112) dX11_placeWord_91 (by decide) (fun hc => ?_) (fun hc => ?_)
    · replace h := h.1 hc
      refine hf_bipush (v := (-3)) dX11_placeWord_112 (by decide) ?_
      refine hf_ireturn dX11_placeWord_114 rfl rfl ?_
      exact h
    · replace h := h.2 hc
      refine hf_aload_n dX11_placeWord_94 rfl rfl ?_
      refine hf_getr (b := 135) (c := 11) (j := 5) dX11_placeWord_95 (hs.2.1 100 _ rfl) (hf_lin hs 100 rfl) (by decide) (by decide) hw370 rfl (hs.2.2 100 5 _ rfl) ?_
      refine hf_iload_n dX11_placeWord_98 rfl rfl ?_
      refine hf_aload_n dX11_placeWord_99 rfl rfl ?_
      refine hf_getr (b := 101) (c := 11) (j := 0) dX11_placeWord_100 (hs.2.1 100 _ rfl) (hf_lin hs 100 rfl) (by decide) (by decide) hw365 rfl (hs.2.2 100 0 _ rfl) ?_
      refine hf_geti (c := 1) (j := 14) dX11_placeWord_103 (hs.2.1 101 _ rfl) (hf_lin hs 101 rfl) (by decide) (by decide) hw146 (Or.inl rfl) ?_
      exact hf_callV (c := 4) (as := [.int x1, .int (I 101 14)]) ok_X4_isBarred dX11_placeWord_106 hw533 hw534 hw535 (hs.2.1 135 _ rfl) (by decide) (hf_lin hs 135 rfl) rfl (Nat.le_of_ble_eq_true rfl) rfl (Nat.le_of_ble_eq_true rfl) (Nat.zero_le _) (Nat.zero_le _) h
  · replace h := h.2 hc
    refine hf_iload_n dX11_placeWord_64 rfl rfl ?_
    refine hf_aload_n dX11_placeWord_65 rfl rfl ?_
    refine hf_getr (b := 101) (c := 11) (j := 0) dX11_placeWord_66 (hs.2.1 100 _ rfl) (hf_lin hs 100 rfl) (by decide) (by decide) hw365 rfl (hs.2.2 100 0 _ rfl) ?_
    refine hf_bipush (v := 26) dX11_placeWord_69 (by decide) ?_
    refine hf_aload_n dX11_placeWord_71 rfl rfl ?_
    refine hf_getr (b := 101) (c := 11) (j := 0) dX11_placeWord_72 (hs.2.1 100 _ rfl) (hf_lin hs 100 rfl) (by decide) (by decide) hw365 rfl (hs.2.2 100 0 _ rfl) ?_
    refine hf_geti (c := 1) (j := 14) dX11_placeWord_75 (hs.2.1 101 _ rfl) (hf_lin hs 101 rfl) (by decide) (by decide) hw146 (Or.inl rfl) ?_
    refine hf_callV (c := 1) (as := [.int 26, .int (I 101 14)]) ok_X1_letterWidth dX11_placeWord_78 hw703 hw483 hw484 (hs.2.1 101 _ rfl) (by decide) (hf_lin hs 101 rfl) rfl (Nat.le_of_ble_eq_true rfl) rfl (Nat.le_of_ble_eq_true rfl) (Nat.zero_le _) (Nat.zero_le _) ?_
    show hf_G X Y_X1_letterWidth d _ _ 0 [some (.ref 101), some (.int 26), some (.int (I 101 14))] [] (t, T, I, L, P) _
    refine hf_aload_n dX1_letterWidth_0 rfl rfl ?_
    refine hf_getr (b := 102) (c := 1) (j := 0) dX1_letterWidth_1 (hs.2.1 101 _ rfl) (hf_lin hs 101 rfl) (by decide) (by decide) hw99 rfl (hs.2.2 101 0 _ rfl) ?_
    refine hf_iload_n dX1_letterWidth_4 rfl rfl ?_
    refine hf_iald_k (j := 26) (by decide) dX1_letterWidth_5 (hs.2.1 102 _ rfl) (hf_lin hs 102 rfl) (hf_vin (by decide)) ?_
    refine hf_iload_n dX1_letterWidth_6 rfl rfl ?_
    refine hf_iconst (v := 2) dX1_letterWidth_7 (by decide) ?_
    refine hf_iadd dX1_letterWidth_8 ?_
    refine hf_imul dX1_letterWidth_9 ?_
    refine hf_iconst (v := 2) dX1_letterWidth_10 (by decide) ?_
    refine hf_idiv dX1_letterWidth_11 (by decide) ?_
    refine hf_ireturn dX1_letterWidth_12 rfl rfl ?_
    show hf_G X Y_X11_placeWord (d + 1) _ _ 81 [some (.ref 100), some (.int x1), some (.ref 114), some (.int x3)] [.int (((I 102 26) * ((I 101 14) + 2)) / 2), .int x3] (t, T, I, L, P) _
    refine hf_iadd dX11_placeWord_81 ?_
    refine hf_istore_n (l2 := [some (.ref 100), some (.int x1), some (.ref 114), some (.int (x3 + (((I 102 26) * ((I 101 14) + 2)) / 2)))]) dX11_placeWord_82 rfl (by decide) rfl ?_
    refine hf_iload_n dX11_placeWord_83 rfl rfl ?_
    refine hf_aload_n dX11_placeWord_84 rfl rfl ?_
    refine hf_getr (b := 101) (c := 11) (j := 0) dX11_placeWord_85 (hs.2.1 100 _ rfl) (hf_lin hs 100 rfl) (by decide) (by decide) hw365 rfl (hs.2.2 100 0 _ rfl) ?_
    refine hf_geti (c := 1) (j := 12) dX11_placeWord_88 (hs.2.1 101 _ rfl) (hf_lin hs 101 rfl) (by decide) (by decide) hw137 (Or.inl rfl) ?_
    refine hf_icmp_gt (tgt := 112) dX11_placeWord_91 (by decide) (fun hc => ?_) (fun hc => ?_)
    · replace h := h.1 hc
      refine hf_bipush (v := (-3)) dX11_placeWord_112 (by decide) ?_
      refine hf_ireturn dX11_placeWord_114 rfl rfl ?_
      exact h
    · replace h := h.2 hc
      refine hf_aload_n dX11_placeWord_94 rfl rfl ?_
      refine hf_getr (b := 135) (c := 11) (j := 5) dX11_placeWord_95 (hs.2.1 100 _ rfl) (hf_lin hs 100 rfl) (by decide) (by decide) hw370 rfl (hs.2.2 100 5 _ rfl) ?_
      refine hf_iload_n dX11_placeWord_98 rfl rfl ?_
      refine hf_aload_n dX11_placeWord_99 rfl rfl ?_
      refine hf_getr (b := 101) (c := 11) (j := 0) dX11_placeWord_100 (hs.2.1 100 _ rfl) (hf_lin hs 100 rfl) (by decide) (by decide) hw365 rfl (hs.2.2 100 0 _ rfl) ?_
      refine hf_geti (c := 1) (j := 14) dX11_placeWord_103 (hs.2.1 101 _ rfl) (hf_lin hs 101 rfl) (by decide) (by decide) hw146 (Or.inl rfl) ?_
      exact hf_callV (c := 4) (as := [.int x1, .int (I 101 14)]) ok_X4_isBarred dX11_placeWord_106 hw533 hw534 hw535 (hs.2.1 135 _ rfl) (by decide) (hf_lin hs 135 rfl) rfl (Nat.le_of_ble_eq_true rfl) rfl (Nat.le_of_ble_eq_true rfl) (Nat.zero_le _) (Nat.zero_le _) h

set_option maxHeartbeats 4000000 in
theorem w_X11_placeWord_109 {X : hf_X} {d k n t : Nat} {T : hf_T} {I : hf_I} {L : hf_L} {P : hf_P} {Q : Option Value → hf_M → Prop} {x1 : Int32} {x3 : Int32} {s0 : Int32} (hs : hf_Lay t T P) (h : (s0 = 0 → ((I 114 2) < 12 → hf_G X Y_X6_keep d 0 0 0 (hf_en [.ref 148, .int 0, .ref 114] 4) [] (t, T, I, L, P) (fun r M => hf_G X Y_X11_placeWord (d + 1) k n 136 [some (.ref 100), some (.int x1), some (.ref 114), some (.int x3)] (r.toList ++ []) M Q)) ∧ (¬ ((I 114 2) < 12) → Q (some (.int (-5))) (t, T, I, L, P))) ∧ (¬ (s0 = 0) → Q (some (.int (-3))) (t, T, I, L, P))) : hf_G X Y_X11_placeWord (d + 1) k n 109 [some (.ref 100), some (.int x1), some (.ref 114), some (.int x3)] [.int s0] (t, T, I, L, P) Q := by
  refine hf_if_eq (tgt := 115) dX11_placeWord_109 (by decide) (fun hc => ?_) (fun hc => ?_)
  · replace h := h.1 hc
    refine hf_aload_n dX11_placeWord_115 rfl rfl ?_
    refine hf_geti (c := 3) (j := 2) dX11_placeWord_116 (hs.2.1 114 _ rfl) (hf_lin hs 114 rfl) (by decide) (by decide) hw89 (Or.inl rfl) ?_
    refine hf_bipush (v := 12) dX11_placeWord_119 (by decide) ?_
    refine hf_icmp_lt (tgt := 127) dX11_placeWord_121 (by decide) (fun hc => ?_) (fun hc => ?_)
    · replace h := h.1 hc
      refine hf_aload_n dX11_placeWord_127 rfl rfl ?_
      refine hf_getr (b := 148) (c := 11) (j := 9) dX11_placeWord_128 (hs.2.1 100 _ rfl) (hf_lin hs 100 rfl) (by decide) (by decide) hw374 rfl (hs.2.2 100 9 _ rfl) ?_
      refine hf_iconst (v := 0) dX11_placeWord_131 (by decide) ?_
      refine hf_aload_n dX11_placeWord_132 rfl rfl ?_
      exact hf_callV (c := 6) (as := [.int 0, .ref 114]) ok_X6_keep dX11_placeWord_133 hw704 hw705 hw706 (hs.2.1 148 _ rfl) (by decide) (hf_lin hs 148 rfl) rfl (Nat.le_of_ble_eq_true rfl) rfl (Nat.le_of_ble_eq_true rfl) (Nat.zero_le _) (Nat.zero_le _) h
    · replace h := h.2 hc
      refine hf_bipush (v := (-5)) dX11_placeWord_124 (by decide) ?_
      refine hf_ireturn dX11_placeWord_126 rfl rfl ?_
      exact h
  · replace h := h.2 hc
    refine hf_bipush (v := (-3)) dX11_placeWord_112 (by decide) ?_
    refine hf_ireturn dX11_placeWord_114 rfl rfl ?_
    exact h

set_option maxHeartbeats 4000000 in
theorem w_X11_placeWord_136 {X : hf_X} {d k n t : Nat} {T : hf_T} {I : hf_I} {L : hf_L} {P : hf_P} {Q : Option Value → hf_M → Prop} {x1 : Int32} {x3 : Int32} (hs : hf_Lay t T P) (h : hf_G X Y_X3_add d 0 0 0 (hf_en [.ref 114, .int x1] 2) [] (t, T, I, L, P) (fun r M => hf_G X Y_X11_placeWord (d + 1) k n 141 [some (.ref 100), none, none, some (.int x3)] (r.toList ++ []) M Q)) : hf_G X Y_X11_placeWord (d + 1) k n 136 [some (.ref 100), some (.int x1), some (.ref 114), some (.int x3)] [] (t, T, I, L, P) Q := by
  refine hf_aload_n dX11_placeWord_136 rfl rfl ?_
  refine hf_iload_n dX11_placeWord_137 rfl rfl ?_
  exact hf_callV (c := 3) (as := [.int x1]) ok_X3_add dX11_placeWord_138 hw709 hw710 hw711 (hs.2.1 114 _ rfl) (by decide) (hf_lin hs 114 rfl) rfl (Nat.le_of_ble_eq_true rfl) rfl (Nat.le_of_ble_eq_true rfl) (Nat.zero_le _) (Nat.zero_le _) (hf_mono (fun r M q => hf_drop (l' := [some (.ref 100), none, none, some (.int x3)]) (by simp [hf_sub]) q) h)

set_option maxHeartbeats 4000000 in
theorem w_X11_placeWord_141 {X : hf_X} {d k n t : Nat} {T : hf_T} {I : hf_I} {L : hf_L} {P : hf_P} {Q : Option Value → hf_M → Prop} {x3 : Int32} (hs : hf_Lay t T P) (h : Q (some (.int ((I 101 12) - x3))) (t, T, I, L, P)) : hf_G X Y_X11_placeWord d k n 141 [some (.ref 100), none, none, some (.int x3)] [] (t, T, I, L, P) Q := by
  refine hf_aload_n dX11_placeWord_141 rfl rfl ?_
  refine hf_getr (b := 101) (c := 11) (j := 0) dX11_placeWord_142 (hs.2.1 100 _ rfl) (hf_lin hs 100 rfl) (by decide) (by decide) hw365 rfl (hs.2.2 100 0 _ rfl) ?_
  refine hf_geti (c := 1) (j := 12) dX11_placeWord_145 (hs.2.1 101 _ rfl) (hf_lin hs 101 rfl) (by decide) (by decide) hw137 (Or.inl rfl) ?_
  refine hf_iload_n dX11_placeWord_148 rfl rfl ?_
  refine hf_isub dX11_placeWord_149 ?_
  refine hf_ireturn dX11_placeWord_150 rfl rfl ?_
  exact h

set_option maxHeartbeats 4000000 in
theorem w_X11_turnLine_0 {X : hf_X} {d k n t : Nat} {T : hf_T} {I : hf_I} {L : hf_L} {P : hf_P} {Q : Option Value → hf_M → Prop}  (hs : hf_Lay t T P) (h : hf_G X Y_X3_manyIn d 0 0 0 (hf_en [.ref 114, .int (I 114 3)] 4) [] (t, T, I, L, P) (fun r M => hf_G X Y_X11_turnLine (d + 1) k n 16 [some (.ref 100), some (.ref 114)] (r.toList ++ []) M Q)) : hf_G X Y_X11_turnLine (d + 1) k n 0 (hf_en [.ref 100] 2) [] (t, T, I, L, P) Q := by
  show hf_G X Y_X11_turnLine (d + 1) k n 0 [some (.ref 100), none] [] (t, T, I, L, P) Q
  refine hf_aload_n dX11_turnLine_0 rfl rfl ?_
  refine hf_getr (b := 101) (c := 11) (j := 0) dX11_turnLine_1 (hs.2.1 100 _ rfl) (hf_lin hs 100 rfl) (by decide) (by decide) hw365 rfl (hs.2.2 100 0 _ rfl) ?_
  refine hf_getr (b := 114) (c := 1) (j := 7) dX11_turnLine_4 (hs.2.1 101 _ rfl) (hf_lin hs 101 rfl) (by decide) (by decide) hw123 rfl (hs.2.2 101 7 _ rfl) ?_
  refine hf_astore_n (l2 := [some (.ref 100), some (.ref 114)]) dX11_turnLine_7 rfl (by decide) rfl ?_
  refine hf_aload_n dX11_turnLine_8 rfl rfl ?_
  refine hf_aload_n dX11_turnLine_9 rfl rfl ?_
  refine hf_geti (c := 3) (j := 3) dX11_turnLine_10 (hs.2.1 114 _ rfl) (hf_lin hs 114 rfl) (by decide) (by decide) hw94 (Or.inl rfl) ?_
  exact hf_callV (c := 3) (as := [.int (I 114 3)]) ok_X3_manyIn dX11_turnLine_13 hw699 hw700 hw701 (hs.2.1 114 _ rfl) (by decide) (hf_lin hs 114 rfl) rfl (Nat.le_of_ble_eq_true rfl) rfl (Nat.le_of_ble_eq_true rfl) (Nat.zero_le _) (Nat.zero_le _) h

set_option maxHeartbeats 4000000 in
theorem w_X11_turnLine_16 {X : hf_X} {d k n t : Nat} {T : hf_T} {I : hf_I} {L : hf_L} {P : hf_P} {Q : Option Value → hf_M → Prop} {s0 : Int32} (hs : hf_Lay t T P) (h : (s0 = 0 → Q (some (.int (-3))) (t, T, I, L, P)) ∧ (¬ (s0 = 0) → (((I 114 3) + 1) < (I 101 13) → hf_G X Y_X6_keep d 0 0 0 (hf_en [.ref 148, .int 1, .ref 114] 4) [] (t, T, I, L, P) (fun r M => hf_G X Y_X11_turnLine (d + 1) k n 47 [none, some (.ref 114)] (r.toList ++ []) M Q)) ∧ (¬ (((I 114 3) + 1) < (I 101 13)) → Q (some (.int (-3))) (t, T, I, L, P)))) : hf_G X Y_X11_turnLine (d + 1) k n 16 [some (.ref 100), some (.ref 114)] [.int s0] (t, T, I, L, P) Q := by
  refine hf_if_eq (tgt := 35) dX11_turnLine_16 (by decide) (fun hc => ?_) (fun hc => ?_)
  · replace h := h.1 hc
    refine hf_bipush (v := (-3)) dX11_turnLine_35 (by decide) ?_
    refine hf_ireturn dX11_turnLine_37 rfl rfl ?_
    exact h
  · replace h := h.2 hc
    refine hf_aload_n dX11_turnLine_19 rfl rfl ?_
    refine hf_geti (c := 3) (j := 3) dX11_turnLine_20 (hs.2.1 114 _ rfl) (hf_lin hs 114 rfl) (by decide) (by decide) hw94 (Or.inl rfl) ?_
    refine hf_iconst (v := 1) dX11_turnLine_23 (by decide) ?_
    refine hf_iadd dX11_turnLine_24 ?_
    refine hf_aload_n dX11_turnLine_25 rfl rfl ?_
    refine hf_getr (b := 101) (c := 11) (j := 0) dX11_turnLine_26 (hs.2.1 100 _ rfl) (hf_lin hs 100 rfl) (by decide) (by decide) hw365 rfl (hs.2.2 100 0 _ rfl) ?_
    refine hf_geti (c := 1) (j := 13) dX11_turnLine_29 (hs.2.1 101 _ rfl) (hf_lin hs 101 rfl) (by decide) (by decide) hw142 (Or.inl rfl) ?_
    refine hf_icmp_lt (tgt := 38) dX11_turnLine_32 (by decide) (fun hc => ?_) (fun hc => ?_)
    · replace h := h.1 hc
      refine hf_aload_n dX11_turnLine_38 rfl rfl ?_
      refine hf_getr (b := 148) (c := 11) (j := 9) dX11_turnLine_39 (hs.2.1 100 _ rfl) (hf_lin hs 100 rfl) (by decide) (by decide) hw374 rfl (hs.2.2 100 9 _ rfl) ?_
      refine hf_iconst (v := 1) dX11_turnLine_42 (by decide) ?_
      refine hf_aload_n dX11_turnLine_43 rfl rfl ?_
      exact hf_callV (c := 6) (as := [.int 1, .ref 114]) ok_X6_keep dX11_turnLine_44 hw704 hw705 hw706 (hs.2.1 148 _ rfl) (by decide) (hf_lin hs 148 rfl) rfl (Nat.le_of_ble_eq_true rfl) rfl (Nat.le_of_ble_eq_true rfl) (Nat.zero_le _) (Nat.zero_le _) (hf_mono (fun r M q => hf_drop (l' := [none, some (.ref 114)]) (by simp [hf_sub]) q) h)
    · replace h := h.2 hc
      refine hf_bipush (v := (-3)) dX11_turnLine_35 (by decide) ?_
      refine hf_ireturn dX11_turnLine_37 rfl rfl ?_
      exact h

set_option maxHeartbeats 4000000 in
theorem w_X11_turnLine_47 {X : hf_X} {d k n t : Nat} {T : hf_T} {I : hf_I} {L : hf_L} {P : hf_P} {Q : Option Value → hf_M → Prop}  (hs : hf_Lay t T P) (h : Q (some (.int ((I 114 3) + 1))) (t, T, (hf_up I 114 3 ((I 114 3) + 1)), L, P)) : hf_G X Y_X11_turnLine d k n 47 [none, some (.ref 114)] [] (t, T, I, L, P) Q := by
  refine hf_aload_n dX11_turnLine_47 rfl rfl ?_
  refine hf_dup dX11_turnLine_48 rfl ?_
  refine hf_geti (c := 3) (j := 3) dX11_turnLine_49 (hs.2.1 114 _ rfl) (hf_lin hs 114 rfl) (by decide) (by decide) hw94 (Or.inl rfl) ?_
  refine hf_iconst (v := 1) dX11_turnLine_52 (by decide) ?_
  refine hf_iadd dX11_turnLine_53 ?_
  refine hf_puti (c := 3) (j := 3) dX11_turnLine_54 (hs.2.1 114 _ rfl) (hf_lin hs 114 rfl) (by decide) (by decide) hw94 rfl rfl ?_
  refine hf_aload_n dX11_turnLine_57 rfl rfl ?_
  refine hf_geti (c := 3) (j := 3) dX11_turnLine_58 (hs.2.1 114 _ rfl) (hf_lin hs 114 rfl) (by decide) (by decide) hw94 (Or.inl rfl) ?_
  refine hf_ireturn dX11_turnLine_61 rfl rfl ?_
  exact h

set_option maxHeartbeats 4000000 in
theorem w_X11_emptyHead_0 {X : hf_X} {d k n t : Nat} {T : hf_T} {I : hf_I} {L : hf_L} {P : hf_P} {Q : Option Value → hf_M → Prop}  (hs : hf_Lay t T P) (h : (¬ (I 114 2) = 0 → hf_G X Y_X6_keep d 0 0 0 (hf_en [.ref 148, .int 2, .ref 114] 4) [] (t, T, I, L, P) (fun r M => hf_G X Y_X11_emptyHead (d + 1) k n 27 [none, some (.ref 114), none] (r.toList ++ []) M Q)) ∧ ((I 114 2) = 0 → Q (some (.int (-3))) (t, T, I, L, P))) : hf_G X Y_X11_emptyHead (d + 1) k n 0 (hf_en [.ref 100] 3) [] (t, T, I, L, P) Q := by
  show hf_G X Y_X11_emptyHead (d + 1) k n 0 [some (.ref 100), none, none] [] (t, T, I, L, P) Q
  refine hf_aload_n dX11_emptyHead_0 rfl rfl ?_
  refine hf_getr (b := 101) (c := 11) (j := 0) dX11_emptyHead_1 (hs.2.1 100 _ rfl) (hf_lin hs 100 rfl) (by decide) (by decide) hw365 rfl (hs.2.2 100 0 _ rfl) ?_
  refine hf_getr (b := 114) (c := 1) (j := 7) dX11_emptyHead_4 (hs.2.1 101 _ rfl) (hf_lin hs 101 rfl) (by decide) (by decide) hw123 rfl (hs.2.2 101 7 _ rfl) ?_
  refine hf_astore_n (l2 := [some (.ref 100), some (.ref 114), none]) dX11_emptyHead_7 rfl (by decide) rfl ?_
  refine hf_aload_n dX11_emptyHead_8 rfl rfl ?_
  refine hf_geti (c := 3) (j := 2) dX11_emptyHead_9 (hs.2.1 114 _ rfl) (hf_lin hs 114 rfl) (by decide) (by decide) hw89 (Or.inl rfl) ?_
  refine hf_if_ne (tgt := 18) dX11_emptyHead_12 (by decide) (fun hc => ?_) (fun hc => ?_)
  · replace h := h.1 hc
    refine hf_aload_n dX11_emptyHead_18 rfl rfl ?_
    refine hf_getr (b := 148) (c := 11) (j := 9) dX11_emptyHead_19 (hs.2.1 100 _ rfl) (hf_lin hs 100 rfl) (by decide) (by decide) hw374 rfl (hs.2.2 100 9 _ rfl) ?_
    refine hf_iconst (v := 2) dX11_emptyHead_22 (by decide) ?_
    refine hf_aload_n dX11_emptyHead_23 rfl rfl ?_
    exact hf_callV (c := 6) (as := [.int 2, .ref 114]) ok_X6_keep dX11_emptyHead_24 hw704 hw705 hw706 (hs.2.1 148 _ rfl) (by decide) (hf_lin hs 148 rfl) rfl (Nat.le_of_ble_eq_true rfl) rfl (Nat.le_of_ble_eq_true rfl) (Nat.zero_le _) (Nat.zero_le _) (hf_mono (fun r M q => hf_drop (l' := [none, some (.ref 114), none]) (by simp [hf_sub]) q) h)
  · replace h := h.2 hc
    refine hf_bipush (v := (-3)) dX11_emptyHead_15 (by decide) ?_
    refine hf_ireturn dX11_emptyHead_17 rfl rfl ?_
    exact h

set_option maxHeartbeats 4000000 in
theorem w_X11_emptyHead_27 {X : hf_X} {d k n t : Nat} {T : hf_T} {I : hf_I} {L : hf_L} {P : hf_P} {Q : Option Value → hf_M → Prop}  (hs : hf_Lay t T P) (h : Q (some (.int (I 114 2))) (t, T, (hf_up (hf_up I 114 2 0) 114 3 0), L, P)) : hf_G X Y_X11_emptyHead d k n 27 [none, some (.ref 114), none] [] (t, T, I, L, P) Q := by
  refine hf_aload_n dX11_emptyHead_27 rfl rfl ?_
  refine hf_geti (c := 3) (j := 2) dX11_emptyHead_28 (hs.2.1 114 _ rfl) (hf_lin hs 114 rfl) (by decide) (by decide) hw89 (Or.inl rfl) ?_
  refine hf_istore_n (l2 := [none, some (.ref 114), some (.int (I 114 2))]) dX11_emptyHead_31 rfl (by decide) rfl ?_
  refine hf_aload_n dX11_emptyHead_32 rfl rfl ?_
  refine hf_iconst (v := 0) dX11_emptyHead_33 (by decide) ?_
  refine hf_puti (c := 3) (j := 2) dX11_emptyHead_34 (hs.2.1 114 _ rfl) (hf_lin hs 114 rfl) (by decide) (by decide) hw89 rfl rfl ?_
  refine hf_aload_n dX11_emptyHead_37 rfl rfl ?_
  refine hf_iconst (v := 0) dX11_emptyHead_38 (by decide) ?_
  refine hf_puti (c := 3) (j := 3) dX11_emptyHead_39 (hs.2.1 114 _ rfl) (hf_lin hs 114 rfl) (by decide) (by decide) hw94 rfl rfl ?_
  refine hf_iload_n dX11_emptyHead_42 rfl rfl ?_
  refine hf_ireturn dX11_emptyHead_43 rfl rfl ?_
  exact h

set_option maxHeartbeats 4000000 in
theorem w_X11_runWholly_0 {X : hf_X} {d k n t : Nat} {T : hf_T} {I : hf_I} {L : hf_L} {P : hf_P} {Q : Option Value → hf_M → Prop}  (hs : hf_Lay t T P) (h : hf_G X Y_X6_takeFrom d 0 0 0 (hf_en [.ref 150, .ref 148] 2) [] (t, T, I, L, P) (fun r M => hf_G X Y_X11_runWholly (d + 1) k n 11 [some (.ref 100), some (.ref 124), none, none, none, none, none] (r.toList ++ []) M Q)) : hf_G X Y_X11_runWholly (d + 1) k n 0 (hf_en [.ref 100, .ref 124] 7) [] (t, T, I, L, P) Q := by
  show hf_G X Y_X11_runWholly (d + 1) k n 0 [some (.ref 100), some (.ref 124), none, none, none, none, none] [] (t, T, I, L, P) Q
  refine hf_aload_n dX11_runWholly_0 rfl rfl ?_
  refine hf_getr (b := 150) (c := 11) (j := 10) dX11_runWholly_1 (hs.2.1 100 _ rfl) (hf_lin hs 100 rfl) (by decide) (by decide) hw375 rfl (hs.2.2 100 10 _ rfl) ?_
  refine hf_aload_n dX11_runWholly_4 rfl rfl ?_
  refine hf_getr (b := 148) (c := 11) (j := 9) dX11_runWholly_5 (hs.2.1 100 _ rfl) (hf_lin hs 100 rfl) (by decide) (by decide) hw374 rfl (hs.2.2 100 9 _ rfl) ?_
  exact hf_callV (c := 6) (as := [.ref 148]) ok_X6_takeFrom dX11_runWholly_8 hw671 hw672 hw673 (hs.2.1 150 _ rfl) (by decide) (hf_lin hs 150 rfl) rfl (Nat.le_of_ble_eq_true rfl) rfl (Nat.le_of_ble_eq_true rfl) (Nat.zero_le _) (Nat.zero_le _) h

set_option maxHeartbeats 4000000 in
theorem w_X11_runWholly_11 {X : hf_X} {d k n t : Nat} {T : hf_T} {I : hf_I} {L : hf_L} {P : hf_P} {Q : Option Value → hf_M → Prop}  (hs : hf_Lay t T P) (h : hf_G X Y_X3_takeFrom d 0 0 0 (hf_en [.ref 152, .ref 114] 2) [] (t, T, I, L, P) (fun r M => hf_G X Y_X11_runWholly (d + 1) k n 25 [some (.ref 100), some (.ref 124), none, none, none, none, none] (r.toList ++ []) M Q)) : hf_G X Y_X11_runWholly (d + 1) k n 11 [some (.ref 100), some (.ref 124), none, none, none, none, none] [] (t, T, I, L, P) Q := by
  refine hf_aload_n dX11_runWholly_11 rfl rfl ?_
  refine hf_getr (b := 152) (c := 11) (j := 11) dX11_runWholly_12 (hs.2.1 100 _ rfl) (hf_lin hs 100 rfl) (by decide) (by decide) hw376 rfl (hs.2.2 100 11 _ rfl) ?_
  refine hf_aload_n dX11_runWholly_15 rfl rfl ?_
  refine hf_getr (b := 101) (c := 11) (j := 0) dX11_runWholly_16 (hs.2.1 100 _ rfl) (hf_lin hs 100 rfl) (by decide) (by decide) hw365 rfl (hs.2.2 100 0 _ rfl) ?_
  refine hf_getr (b := 114) (c := 1) (j := 7) dX11_runWholly_19 (hs.2.1 101 _ rfl) (hf_lin hs 101 rfl) (by decide) (by decide) hw123 rfl (hs.2.2 101 7 _ rfl) ?_
  exact hf_callV (c := 3) (as := [.ref 114]) ok_X3_takeFrom dX11_runWholly_22 hw676 hw677 hw678 (hs.2.1 152 _ rfl) (by decide) (hf_lin hs 152 rfl) rfl (Nat.le_of_ble_eq_true rfl) rfl (Nat.le_of_ble_eq_true rfl) (Nat.zero_le _) (Nat.zero_le _) h

set_option maxHeartbeats 4000000 in
theorem w_X11_runWholly_25 {X : hf_X} {d k n t : Nat} {T : hf_T} {I : hf_I} {L : hf_L} {P : hf_P} {Q : Option Value → hf_M → Prop}  (hs : hf_Lay t T P) (h : hf_G X Y_X11_runWholly d k n 38 [some (.ref 100), some (.ref 124), some (.int (I 101 14)), some (.int 0), some (.int 0), none, none] [] (t, T, I, L, P) Q) : hf_G X Y_X11_runWholly d k n 25 [some (.ref 100), some (.ref 124), none, none, none, none, none] [] (t, T, I, L, P) Q := by
  refine hf_aload_n dX11_runWholly_25 rfl rfl ?_
  refine hf_getr (b := 101) (c := 11) (j := 0) dX11_runWholly_26 (hs.2.1 100 _ rfl) (hf_lin hs 100 rfl) (by decide) (by decide) hw365 rfl (hs.2.2 100 0 _ rfl) ?_
  refine hf_geti (c := 1) (j := 14) dX11_runWholly_29 (hs.2.1 101 _ rfl) (hf_lin hs 101 rfl) (by decide) (by decide) hw146 (Or.inl rfl) ?_
  refine hf_istore_n (l2 := [some (.ref 100), some (.ref 124), some (.int (I 101 14)), none, none, none, none]) dX11_runWholly_32 rfl (by decide) rfl ?_
  refine hf_iconst (v := 0) dX11_runWholly_33 (by decide) ?_
  refine hf_istore_n (l2 := [some (.ref 100), some (.ref 124), some (.int (I 101 14)), some (.int 0), none, none, none]) dX11_runWholly_34 rfl (by decide) rfl ?_
  refine hf_iconst (v := 0) dX11_runWholly_35 (by decide) ?_
  refine hf_istore (l2 := [some (.ref 100), some (.ref 124), some (.int (I 101 14)), some (.int 0), some (.int 0), none, none]) dX11_runWholly_36 (by decide) rfl ?_
  exact h

set_option maxHeartbeats 4000000 in
theorem w_X11_runWholly_38 {X : hf_X} {d k n t : Nat} {T : hf_T} {I : hf_I} {L : hf_L} {P : hf_P} {Q : Option Value → hf_M → Prop} {x2 : Int32} {x3 : Int32} {x4 : Int32} (hs : hf_Lay t T P) (h : ((I 124 7) ≤ x4 → Q (some (.int x3)) (t, T, I, L, P)) ∧ (¬ ((I 124 7) ≤ x4) → hf_G X Y_X11_runWholly d k n 50 [some (.ref 100), some (.ref 124), some (.int x2), some (.int x3), some (.int x4), some (.int 0), none] [] (t, T, I, L, P) Q)) : hf_G X Y_X11_runWholly d k n 38 [some (.ref 100), some (.ref 124), some (.int x2), some (.int x3), some (.int x4), none, none] [] (t, T, I, L, P) Q := by
  refine hf_iload dX11_runWholly_38 rfl ?_
  refine hf_aload_n dX11_runWholly_40 rfl rfl ?_
  refine hf_geti (c := 9) (j := 7) dX11_runWholly_41 (hs.2.1 124 _ rfl) (hf_lin hs 124 rfl) (by decide) (by decide) hw217 (Or.inl rfl) ?_
  refine hf_icmp_ge (tgt := 148) dX11_runWholly_44 (by decide) (fun hc => ?_) (fun hc => ?_)
  · replace h := h.1 hc
    refine hf_iload_n dX11_runWholly_148 rfl rfl ?_
    refine hf_ireturn dX11_runWholly_149 rfl rfl ?_
    exact h
  · replace h := h.2 hc
    refine hf_iconst (v := 0) dX11_runWholly_47 (by decide) ?_
    refine hf_istore (l2 := [some (.ref 100), some (.ref 124), some (.int x2), some (.int x3), some (.int x4), some (.int 0), none]) dX11_runWholly_48 (by decide) rfl ?_
    exact h

set_option maxHeartbeats 4000000 in
theorem w_X11_runWholly_50 {X : hf_X} {d k n t : Nat} {T : hf_T} {I : hf_I} {L : hf_L} {P : hf_P} {Q : Option Value → hf_M → Prop} {x2 : Int32} {x3 : Int32} {x4 : Int32} {x5 : Int32} (hs : hf_Lay t T P) (h : vp_in x4 12 ∧ (((I 130 x4.toNatClampNeg) ≤ x5 → hf_G X Y_X11_runWholly (d + 1) k n 38 [some (.ref 100), some (.ref 124), some (.int x2), some (.int x3), some (.int (x4 + 1)), none, none] [] (t, T, I, L, P) Q) ∧ (¬ ((I 130 x4.toNatClampNeg) ≤ x5) → hf_G X Y_X11_runOnce d 0 0 0 (hf_en [.ref 100, .ref 124, .int x4, .int x3] 5) [] (t, T, I, L, P) (fun r M => hf_G X Y_X11_runWholly (d + 1) k n 70 [some (.ref 100), some (.ref 124), some (.int x2), some (.int x3), some (.int x4), some (.int x5), none] (r.toList ++ []) M Q)))) : hf_G X Y_X11_runWholly (d + 1) k n 50 [some (.ref 100), some (.ref 124), some (.int x2), some (.int x3), some (.int x4), some (.int x5), none] [] (t, T, I, L, P) Q := by
  refine hf_iload dX11_runWholly_50 rfl ?_
  refine hf_aload_n dX11_runWholly_52 rfl rfl ?_
  refine hf_getr (b := 130) (c := 9) (j := 5) dX11_runWholly_53 (hs.2.1 124 _ rfl) (hf_lin hs 124 rfl) (by decide) (by decide) hw210 rfl (hs.2.2 124 5 _ rfl) ?_
  refine hf_iload dX11_runWholly_56 rfl ?_
  refine hf_iald dX11_runWholly_58 (hs.2.1 130 _ rfl) (hf_lin hs 130 rfl) h.1 ?_
  replace h := h.2
  refine hf_icmp_ge (tgt := 142) dX11_runWholly_59 (by decide) (fun hc => ?_) (fun hc => ?_)
  · replace h := h.1 hc
    refine hf_iinc (v := (x4 + 1)) (l2 := [some (.ref 100), some (.ref 124), some (.int x2), some (.int x3), some (.int (x4 + 1)), some (.int x5), none]) dX11_runWholly_142 (by decide) rfl rfl rfl ?_
    refine hf_goto (tgt := 38) dX11_runWholly_145 (by decide) ?_
    refine hf_drop (l' := [some (.ref 100), some (.ref 124), some (.int x2), some (.int x3), some (.int (x4 + 1)), none, none]) (by simp [hf_sub]) ?_
    exact h
  · replace h := h.2 hc
    refine hf_aload_n dX11_runWholly_62 rfl rfl ?_
    refine hf_aload_n dX11_runWholly_63 rfl rfl ?_
    refine hf_iload dX11_runWholly_64 rfl ?_
    refine hf_iload_n dX11_runWholly_66 rfl rfl ?_
    exact hf_callV (c := 11) (as := [.ref 124, .int x4, .int x3]) ok_X11_runOnce dX11_runWholly_67 hw681 hw682 hw1581 (hs.2.1 100 _ rfl) (by decide) (hf_lin hs 100 rfl) rfl (Nat.le_of_ble_eq_true rfl) rfl (Nat.le_of_ble_eq_true rfl) (Nat.zero_le _) (Nat.zero_le _) h

set_option maxHeartbeats 4000000 in
theorem w_X11_runWholly_70 {X : hf_X} {d k n t : Nat} {T : hf_T} {I : hf_I} {L : hf_L} {P : hf_P} {Q : Option Value → hf_M → Prop} {x2 : Int32} {x3 : Int32} {x4 : Int32} {x5 : Int32} {s0 : Int32} (hs : hf_Lay t T P) (h : (0 ≤ s0 → hf_G X Y_X11_runWholly (d + 1) k n 50 [some (.ref 100), some (.ref 124), some (.int x2), some (.int (x3 + s0)), some (.int x4), some (.int (x5 + 1)), none] [] (t, T, I, L, P) Q) ∧ (¬ (0 ≤ s0) → hf_G X Y_X6_takeFrom d 0 0 0 (hf_en [.ref 148, .ref 150] 2) [] (t, T, I, L, P) (fun r M => hf_G X Y_X11_runWholly (d + 1) k n 88 [some (.ref 100), none, some (.int x2), none, some (.int x4), none, some (.int s0)] (r.toList ++ []) M Q))) : hf_G X Y_X11_runWholly (d + 1) k n 70 [some (.ref 100), some (.ref 124), some (.int x2), some (.int x3), some (.int x4), some (.int x5), none] [.int s0] (t, T, I, L, P) Q := by
  refine hf_istore (l2 := [some (.ref 100), some (.ref 124), some (.int x2), some (.int x3), some (.int x4), some (.int x5), some (.int s0)]) dX11_runWholly_70 (by decide) rfl ?_
  refine hf_iload dX11_runWholly_72 rfl ?_
  refine hf_if_ge (tgt := 131) dX11_runWholly_74 (by decide) (fun hc => ?_) (fun hc => ?_)
  · replace h := h.1 hc
    refine hf_iload_n dX11_runWholly_131 rfl rfl ?_
    refine hf_iload dX11_runWholly_132 rfl ?_
    refine hf_iadd dX11_runWholly_134 ?_
    refine hf_istore_n (l2 := [some (.ref 100), some (.ref 124), some (.int x2), some (.int (x3 + s0)), some (.int x4), some (.int x5), some (.int s0)]) dX11_runWholly_135 rfl (by decide) rfl ?_
    refine hf_iinc (v := (x5 + 1)) (l2 := [some (.ref 100), some (.ref 124), some (.int x2), some (.int (x3 + s0)), some (.int x4), some (.int (x5 + 1)), some (.int s0)]) dX11_runWholly_136 (by decide) rfl rfl rfl ?_
    refine hf_goto (tgt := 50) dX11_runWholly_139 (by decide) ?_
    refine hf_drop (l' := [some (.ref 100), some (.ref 124), some (.int x2), some (.int (x3 + s0)), some (.int x4), some (.int (x5 + 1)), none]) (by simp [hf_sub]) ?_
    exact h
  · replace h := h.2 hc
    refine hf_aload_n dX11_runWholly_77 rfl rfl ?_
    refine hf_getr (b := 148) (c := 11) (j := 9) dX11_runWholly_78 (hs.2.1 100 _ rfl) (hf_lin hs 100 rfl) (by decide) (by decide) hw374 rfl (hs.2.2 100 9 _ rfl) ?_
    refine hf_aload_n dX11_runWholly_81 rfl rfl ?_
    refine hf_getr (b := 150) (c := 11) (j := 10) dX11_runWholly_82 (hs.2.1 100 _ rfl) (hf_lin hs 100 rfl) (by decide) (by decide) hw375 rfl (hs.2.2 100 10 _ rfl) ?_
    exact hf_callV (c := 6) (as := [.ref 150]) ok_X6_takeFrom dX11_runWholly_85 hw671 hw672 hw673 (hs.2.1 148 _ rfl) (by decide) (hf_lin hs 148 rfl) rfl (Nat.le_of_ble_eq_true rfl) rfl (Nat.le_of_ble_eq_true rfl) (Nat.zero_le _) (Nat.zero_le _) (hf_mono (fun r M q => hf_drop (l' := [some (.ref 100), none, some (.int x2), none, some (.int x4), none, some (.int s0)]) (by simp [hf_sub]) q) h)

set_option maxHeartbeats 4000000 in
theorem w_X11_runWholly_88 {X : hf_X} {d k n t : Nat} {T : hf_T} {I : hf_I} {L : hf_L} {P : hf_P} {Q : Option Value → hf_M → Prop} {x2 : Int32} {x4 : Int32} {x6 : Int32} (hs : hf_Lay t T P) (h : hf_G X Y_X3_takeFrom d 0 0 0 (hf_en [.ref 114, .ref 152] 2) [] (t, T, I, L, P) (fun r M => hf_G X Y_X11_runWholly (d + 1) k n 102 [some (.ref 100), none, some (.int x2), none, some (.int x4), none, some (.int x6)] (r.toList ++ []) M Q)) : hf_G X Y_X11_runWholly (d + 1) k n 88 [some (.ref 100), none, some (.int x2), none, some (.int x4), none, some (.int x6)] [] (t, T, I, L, P) Q := by
  refine hf_aload_n dX11_runWholly_88 rfl rfl ?_
  refine hf_getr (b := 101) (c := 11) (j := 0) dX11_runWholly_89 (hs.2.1 100 _ rfl) (hf_lin hs 100 rfl) (by decide) (by decide) hw365 rfl (hs.2.2 100 0 _ rfl) ?_
  refine hf_getr (b := 114) (c := 1) (j := 7) dX11_runWholly_92 (hs.2.1 101 _ rfl) (hf_lin hs 101 rfl) (by decide) (by decide) hw123 rfl (hs.2.2 101 7 _ rfl) ?_
  refine hf_aload_n dX11_runWholly_95 rfl rfl ?_
  refine hf_getr (b := 152) (c := 11) (j := 11) dX11_runWholly_96 (hs.2.1 100 _ rfl) (hf_lin hs 100 rfl) (by decide) (by decide) hw376 rfl (hs.2.2 100 11 _ rfl) ?_
  exact hf_callV (c := 3) (as := [.ref 152]) ok_X3_takeFrom dX11_runWholly_99 hw676 hw677 hw678 (hs.2.1 114 _ rfl) (by decide) (hf_lin hs 114 rfl) rfl (Nat.le_of_ble_eq_true rfl) rfl (Nat.le_of_ble_eq_true rfl) (Nat.zero_le _) (Nat.zero_le _) h

set_option maxHeartbeats 4000000 in
theorem w_X11_runWholly_102 {X : hf_X} {d k n t : Nat} {T : hf_T} {I : hf_I} {L : hf_L} {P : hf_P} {Q : Option Value → hf_M → Prop} {x2 : Int32} {x4 : Int32} {x6 : Int32} (hs : hf_Lay t T P) (h : (¬ x6 = (-5) → Q (some (.int (-3))) (t, T, (hf_up (hf_up I 101 14 x2) 100 14 x4), L, P)) ∧ (x6 = (-5) → Q (some (.int (-5))) (t, T, (hf_up (hf_up I 101 14 x2) 100 14 x4), L, P))) : hf_G X Y_X11_runWholly d k n 102 [some (.ref 100), none, some (.int x2), none, some (.int x4), none, some (.int x6)] [] (t, T, I, L, P) Q := by
  refine hf_aload_n dX11_runWholly_102 rfl rfl ?_
  refine hf_getr (b := 101) (c := 11) (j := 0) dX11_runWholly_103 (hs.2.1 100 _ rfl) (hf_lin hs 100 rfl) (by decide) (by decide) hw365 rfl (hs.2.2 100 0 _ rfl) ?_
  refine hf_iload_n dX11_runWholly_106 rfl rfl ?_
  refine hf_puti (c := 1) (j := 14) dX11_runWholly_107 (hs.2.1 101 _ rfl) (hf_lin hs 101 rfl) (by decide) (by decide) hw146 rfl rfl ?_
  refine hf_aload_n dX11_runWholly_110 rfl rfl ?_
  refine hf_iload dX11_runWholly_111 rfl ?_
  refine hf_puti (c := 11) (j := 14) dX11_runWholly_113 (hs.2.1 100 _ rfl) (hf_lin hs 100 rfl) (by decide) (by decide) hw380 rfl rfl ?_
  refine hf_iload dX11_runWholly_116 rfl ?_
  refine hf_bipush (v := (-5)) dX11_runWholly_118 (by decide) ?_
  refine hf_icmp_ne (tgt := 128) dX11_runWholly_120 (by decide) (fun hc => ?_) (fun hc => ?_)
  · replace h := h.1 hc
    refine hf_bipush (v := (-3)) dX11_runWholly_128 (by decide) ?_
    refine hf_ireturn dX11_runWholly_130 rfl rfl ?_
    exact h
  · replace h := h.2 hc
    refine hf_bipush (v := (-5)) dX11_runWholly_123 (by decide) ?_
    refine hf_goto (tgt := 130) dX11_runWholly_125 (by decide) ?_
    refine hf_ireturn dX11_runWholly_130 rfl rfl ?_
    exact h

set_option maxHeartbeats 4000000 in
theorem w_X11_runOnce_0 {X : hf_X} {d k n t : Nat} {T : hf_T} {I : hf_I} {L : hf_L} {P : hf_P} {Q : Option Value → hf_M → Prop} {x2 : Int32} {x3 : Int32} (hs : hf_Lay t T P) (h : hf_G X Y_X11_tellFacts d 0 0 0 (hf_en [.ref 100, .int x3] 5) [] (t, T, I, L, P) (fun r M => hf_G X Y_X11_runOnce (d + 1) k n 5 [some (.ref 100), some (.ref 124), some (.int x2), none, none] (r.toList ++ []) M Q)) : hf_G X Y_X11_runOnce (d + 1) k n 0 (hf_en [.ref 100, .ref 124, .int x2, .int x3] 5) [] (t, T, I, L, P) Q := by
  show hf_G X Y_X11_runOnce (d + 1) k n 0 [some (.ref 100), some (.ref 124), some (.int x2), some (.int x3), none] [] (t, T, I, L, P) Q
  refine hf_aload_n dX11_runOnce_0 rfl rfl ?_
  refine hf_iload_n dX11_runOnce_1 rfl rfl ?_
  exact hf_callV (c := 11) (as := [.int x3]) ok_X11_tellFacts dX11_runOnce_2 hw684 hw685 hw1582 (hs.2.1 100 _ rfl) (by decide) (hf_lin hs 100 rfl) rfl (Nat.le_of_ble_eq_true rfl) rfl (Nat.le_of_ble_eq_true rfl) (Nat.zero_le _) (Nat.zero_le _) (hf_mono (fun r M q => hf_drop (l' := [some (.ref 100), some (.ref 124), some (.int x2), none, none]) (by simp [hf_sub]) q) h)

set_option maxHeartbeats 4000000 in
theorem w_X11_runOnce_5 {X : hf_X} {d k n t : Nat} {T : hf_T} {I : hf_I} {L : hf_L} {P : hf_P} {Q : Option Value → hf_M → Prop} {x2 : Int32} (hs : hf_Lay t T P) (h : hf_G X Y_X9_hasTest d 0 0 0 (hf_en [.ref 124, .int x2] 2) [] (t, T, I, L, P) (fun r M => hf_G X Y_X11_runOnce (d + 1) k n 10 [some (.ref 100), some (.ref 124), some (.int x2), none, none] (r.toList ++ []) M Q)) : hf_G X Y_X11_runOnce (d + 1) k n 5 [some (.ref 100), some (.ref 124), some (.int x2), none, none] [] (t, T, I, L, P) Q := by
  refine hf_aload_n dX11_runOnce_5 rfl rfl ?_
  refine hf_iload_n dX11_runOnce_6 rfl rfl ?_
  exact hf_callV (c := 9) (as := [.int x2]) ok_X9_hasTest dX11_runOnce_7 hw693 hw504 hw505 (hs.2.1 124 _ rfl) (by decide) (hf_lin hs 124 rfl) rfl (Nat.le_of_ble_eq_true rfl) rfl (Nat.le_of_ble_eq_true rfl) (Nat.zero_le _) (Nat.zero_le _) h

set_option maxHeartbeats 4000000 in
theorem w_X11_runOnce_10 {X : hf_X} {d k n t : Nat} {T : hf_T} {I : hf_I} {L : hf_L} {P : hf_P} {Q : Option Value → hf_M → Prop} {x2 : Int32} {s0 : Int32} (hs : hf_Lay t T P) (h : (s0 = 0 → hf_G X Y_X9_hasSum d 0 0 0 (hf_en [.ref 124, .int x2] 2) [] (t, T, I, L, P) (fun r M => hf_G X Y_X11_runOnce (d + 1) k n 57 [some (.ref 100), some (.ref 124), some (.int x2), none, none] (r.toList ++ []) M Q)) ∧ (¬ (s0 = 0) → vp_in x2 12 ∧ (vp_in x2 12 ∧ (hf_G X Y_X7_reckon d 0 0 0 (hf_en [.ref 132, .ref 124, .int (I 128 x2.toNatClampNeg), .int (I 129 x2.toNatClampNeg)] 11) [] (t, T, I, L, P) (fun r M => hf_G X Y_X11_runOnce (d + 1) k n 33 [some (.ref 100), some (.ref 124), some (.int x2), none, none] (r.toList ++ []) M Q))))) : hf_G X Y_X11_runOnce (d + 1) k n 10 [some (.ref 100), some (.ref 124), some (.int x2), none, none] [.int s0] (t, T, I, L, P) Q := by
  refine hf_if_eq (tgt := 52) dX11_runOnce_10 (by decide) (fun hc => ?_) (fun hc => ?_)
  · replace h := h.1 hc
    refine hf_aload_n dX11_runOnce_52 rfl rfl ?_
    refine hf_iload_n dX11_runOnce_53 rfl rfl ?_
    exact hf_callV (c := 9) (as := [.int x2]) ok_X9_hasSum dX11_runOnce_54 hw695 hw525 hw526 (hs.2.1 124 _ rfl) (by decide) (hf_lin hs 124 rfl) rfl (Nat.le_of_ble_eq_true rfl) rfl (Nat.le_of_ble_eq_true rfl) (Nat.zero_le _) (Nat.zero_le _) h
  · replace h := h.2 hc
    refine hf_aload_n dX11_runOnce_13 rfl rfl ?_
    refine hf_getr (b := 132) (c := 11) (j := 4) dX11_runOnce_14 (hs.2.1 100 _ rfl) (hf_lin hs 100 rfl) (by decide) (by decide) hw369 rfl (hs.2.2 100 4 _ rfl) ?_
    refine hf_aload_n dX11_runOnce_17 rfl rfl ?_
    refine hf_aload_n dX11_runOnce_18 rfl rfl ?_
    refine hf_getr (b := 128) (c := 9) (j := 3) dX11_runOnce_19 (hs.2.1 124 _ rfl) (hf_lin hs 124 rfl) (by decide) (by decide) hw205 rfl (hs.2.2 124 3 _ rfl) ?_
    refine hf_iload_n dX11_runOnce_22 rfl rfl ?_
    refine hf_iald dX11_runOnce_23 (hs.2.1 128 _ rfl) (hf_lin hs 128 rfl) h.1 ?_
    replace h := h.2
    refine hf_aload_n dX11_runOnce_24 rfl rfl ?_
    refine hf_getr (b := 129) (c := 9) (j := 4) dX11_runOnce_25 (hs.2.1 124 _ rfl) (hf_lin hs 124 rfl) (by decide) (by decide) hw208 rfl (hs.2.2 124 4 _ rfl) ?_
    refine hf_iload_n dX11_runOnce_28 rfl rfl ?_
    refine hf_iald dX11_runOnce_29 (hs.2.1 129 _ rfl) (hf_lin hs 129 rfl) h.1 ?_
    replace h := h.2
    exact hf_callV (c := 7) (as := [.ref 124, .int (I 128 x2.toNatClampNeg), .int (I 129 x2.toNatClampNeg)]) ok_X7_reckon dX11_runOnce_30 hw694 hw508 hw509 (hs.2.1 132 _ rfl) (by decide) (hf_lin hs 132 rfl) rfl (Nat.le_of_ble_eq_true rfl) rfl (Nat.le_of_ble_eq_true rfl) (Nat.zero_le _) (Nat.zero_le _) h

set_option maxHeartbeats 4000000 in
theorem w_X11_runOnce_57 {X : hf_X} {d k n t : Nat} {T : hf_T} {I : hf_I} {L : hf_L} {P : hf_P} {Q : Option Value → hf_M → Prop} {x2 : Int32} {s0 : Int32} (hs : hf_Lay t T P) (h : (s0 = 0 → vp_in x2 12 ∧ (((I 126 x2.toNatClampNeg) = 0 → hf_G X Y_X11_placeWord d 0 0 0 (hf_en [.ref 100, .int (I 132 2)] 4) [] (t, T, I, L, P) (fun r M => hf_G X Y_X11_runOnce (d + 1) k n 131 [none, none, none, none, none] (r.toList ++ []) M Q)) ∧ ((I 126 x2.toNatClampNeg) = 1 → hf_G X Y_X11_turnLine d 0 0 0 (hf_en [.ref 100] 2) [] (t, T, I, L, P) (fun r M => hf_G X Y_X11_runOnce (d + 1) k n 140 [none, none, none, none, none] (r.toList ++ []) M Q)) ∧ ((I 126 x2.toNatClampNeg) = 2 → hf_G X Y_X11_emptyHead d 0 0 0 (hf_en [.ref 100] 3) [] (t, T, I, L, P) (fun r M => hf_G X Y_X11_runOnce (d + 1) k n 149 [none, none, none, none, none] (r.toList ++ []) M Q)) ∧ ((I 126 x2.toNatClampNeg).toInt < 0 ∨ 2 < (I 126 x2.toNatClampNeg).toInt → hf_G X Y_X11_changeSize d 0 0 0 (hf_en [.ref 100, .int (I 132 2)] 3) [] (t, T, I, L, P) (fun r M => hf_G X Y_X11_runOnce (d + 1) k n 165 [none, none, none, none, none] (r.toList ++ []) M Q)))) ∧ (¬ (s0 = 0) → vp_in x2 12 ∧ (vp_in x2 12 ∧ (hf_G X Y_X7_reckon d 0 0 0 (hf_en [.ref 132, .ref 124, .int (I 127 x2.toNatClampNeg), .int (I 128 x2.toNatClampNeg)] 11) [] (t, T, I, L, P) (fun r M => hf_G X Y_X11_runOnce (d + 1) k n 80 [some (.ref 100), some (.ref 124), some (.int x2), none, none] (r.toList ++ []) M Q))))) : hf_G X Y_X11_runOnce (d + 1) k n 57 [some (.ref 100), some (.ref 124), some (.int x2), none, none] [.int s0] (t, T, I, L, P) Q := by
  refine hf_if_eq (tgt := 86) dX11_runOnce_57 (by decide) (fun hc => ?_) (fun hc => ?_)
  · replace h := h.1 hc
    refine hf_aload_n dX11_runOnce_86 rfl rfl ?_
    refine hf_getr (b := 126) (c := 9) (j := 1) dX11_runOnce_87 (hs.2.1 124 _ rfl) (hf_lin hs 124 rfl) (by decide) (by decide) hw199 rfl (hs.2.2 124 1 _ rfl) ?_
    refine hf_iload_n dX11_runOnce_90 rfl rfl ?_
    refine hf_iald dX11_runOnce_91 (hs.2.1 126 _ rfl) (hf_lin hs 126 rfl) h.1 ?_
    replace h := h.2
    rcases hf_swc (I 126 x2.toNatClampNeg) 0 2 with hq | ⟨j, hj, hq⟩
    · refine hf_tableOut (tgt := 154) dX11_runOnce_92 (by omega) (by decide) ?_
      replace h := h.2.2.2 (by omega)
      refine hf_aload_n dX11_runOnce_154 rfl rfl ?_
      refine hf_aload_n dX11_runOnce_155 rfl rfl ?_
      refine hf_getr (b := 132) (c := 11) (j := 4) dX11_runOnce_156 (hs.2.1 100 _ rfl) (hf_lin hs 100 rfl) (by decide) (by decide) hw369 rfl (hs.2.2 100 4 _ rfl) ?_
      refine hf_geti (c := 7) (j := 2) dX11_runOnce_159 (hs.2.1 132 _ rfl) (hf_lin hs 132 rfl) (by decide) (by decide) hw257 (Or.inl rfl) ?_
      exact hf_callV (c := 11) (as := [.int (I 132 2)]) ok_X11_changeSize dX11_runOnce_162 hw429 hw430 hw1555 (hs.2.1 100 _ rfl) (by decide) (hf_lin hs 100 rfl) rfl (Nat.le_of_ble_eq_true rfl) rfl (Nat.le_of_ble_eq_true rfl) (Nat.zero_le _) (Nat.zero_le _) (hf_mono (fun r M q => hf_drop (l' := [none, none, none, none, none]) (by simp [hf_sub]) q) h)
    · match j, hj with
      | 0, _ =>
        have hx : (I 126 x2.toNatClampNeg) = 0 := hf_swi hq (by decide)
        refine hf_tableIn (off := 28) (tgt := 120) dX11_runOnce_92 (by rw [hx]; decide) (by rw [hx]; decide) (by rw [hx]; rfl) (by decide) ?_
        replace h := h.1 hx
        refine hf_aload_n dX11_runOnce_120 rfl rfl ?_
        refine hf_aload_n dX11_runOnce_121 rfl rfl ?_
        refine hf_getr (b := 132) (c := 11) (j := 4) dX11_runOnce_122 (hs.2.1 100 _ rfl) (hf_lin hs 100 rfl) (by decide) (by decide) hw369 rfl (hs.2.2 100 4 _ rfl) ?_
        refine hf_geti (c := 7) (j := 2) dX11_runOnce_125 (hs.2.1 132 _ rfl) (hf_lin hs 132 rfl) (by decide) (by decide) hw257 (Or.inl rfl) ?_
        exact hf_callV (c := 11) (as := [.int (I 132 2)]) ok_X11_placeWord dX11_runOnce_128 hw696 hw697 hw1583 (hs.2.1 100 _ rfl) (by decide) (hf_lin hs 100 rfl) rfl (Nat.le_of_ble_eq_true rfl) rfl (Nat.le_of_ble_eq_true rfl) (Nat.zero_le _) (Nat.zero_le _) (hf_mono (fun r M q => hf_drop (l' := [none, none, none, none, none]) (by simp [hf_sub]) q) h)
      | 1, _ =>
        have hx : (I 126 x2.toNatClampNeg) = 1 := hf_swi hq (by decide)
        refine hf_tableIn (off := 44) (tgt := 136) dX11_runOnce_92 (by rw [hx]; decide) (by rw [hx]; decide) (by rw [hx]; rfl) (by decide) ?_
        replace h := h.2.1 hx
        refine hf_aload_n dX11_runOnce_136 rfl rfl ?_
        exact hf_callV (c := 11) (as := []) ok_X11_turnLine dX11_runOnce_137 hw713 hw714 hw1584 (hs.2.1 100 _ rfl) (by decide) (hf_lin hs 100 rfl) rfl (Nat.le_of_ble_eq_true rfl) rfl (Nat.le_of_ble_eq_true rfl) (Nat.zero_le _) (Nat.zero_le _) (hf_mono (fun r M q => hf_drop (l' := [none, none, none, none, none]) (by simp [hf_sub]) q) h)
      | 2, _ =>
        have hx : (I 126 x2.toNatClampNeg) = 2 := hf_swi hq (by decide)
        refine hf_tableIn (off := 53) (tgt := 145) dX11_runOnce_92 (by rw [hx]; decide) (by rw [hx]; decide) (by rw [hx]; rfl) (by decide) ?_
        replace h := h.2.2.1 hx
        refine hf_aload_n dX11_runOnce_145 rfl rfl ?_
        exact hf_callV (c := 11) (as := []) ok_X11_emptyHead dX11_runOnce_146 hw716 hw717 hw1585 (hs.2.1 100 _ rfl) (by decide) (hf_lin hs 100 rfl) rfl (Nat.le_of_ble_eq_true rfl) rfl (Nat.le_of_ble_eq_true rfl) (Nat.zero_le _) (Nat.zero_le _) (hf_mono (fun r M q => hf_drop (l' := [none, none, none, none, none]) (by simp [hf_sub]) q) h)
      | j + 3, hj => exact absurd hj (by omega)
  · replace h := h.2 hc
    refine hf_aload_n dX11_runOnce_60 rfl rfl ?_
    refine hf_getr (b := 132) (c := 11) (j := 4) dX11_runOnce_61 (hs.2.1 100 _ rfl) (hf_lin hs 100 rfl) (by decide) (by decide) hw369 rfl (hs.2.2 100 4 _ rfl) ?_
    refine hf_aload_n dX11_runOnce_64 rfl rfl ?_
    refine hf_aload_n dX11_runOnce_65 rfl rfl ?_
    refine hf_getr (b := 127) (c := 9) (j := 2) dX11_runOnce_66 (hs.2.1 124 _ rfl) (hf_lin hs 124 rfl) (by decide) (by decide) hw202 rfl (hs.2.2 124 2 _ rfl) ?_
    refine hf_iload_n dX11_runOnce_69 rfl rfl ?_
    refine hf_iald dX11_runOnce_70 (hs.2.1 127 _ rfl) (hf_lin hs 127 rfl) h.1 ?_
    replace h := h.2
    refine hf_aload_n dX11_runOnce_71 rfl rfl ?_
    refine hf_getr (b := 128) (c := 9) (j := 3) dX11_runOnce_72 (hs.2.1 124 _ rfl) (hf_lin hs 124 rfl) (by decide) (by decide) hw205 rfl (hs.2.2 124 3 _ rfl) ?_
    refine hf_iload_n dX11_runOnce_75 rfl rfl ?_
    refine hf_iald dX11_runOnce_76 (hs.2.1 128 _ rfl) (hf_lin hs 128 rfl) h.1 ?_
    replace h := h.2
    exact hf_callV (c := 7) (as := [.ref 124, .int (I 127 x2.toNatClampNeg), .int (I 128 x2.toNatClampNeg)]) ok_X7_reckon dX11_runOnce_77 hw694 hw508 hw509 (hs.2.1 132 _ rfl) (by decide) (hf_lin hs 132 rfl) rfl (Nat.le_of_ble_eq_true rfl) rfl (Nat.le_of_ble_eq_true rfl) (Nat.zero_le _) (Nat.zero_le _) h

set_option maxHeartbeats 4000000 in
theorem w_X11_runOnce_33 {X : hf_X} {d k n t : Nat} {T : hf_T} {I : hf_I} {L : hf_L} {P : hf_P} {Q : Option Value → hf_M → Prop} {x2 : Int32} {s0 : Int32} (hs : hf_Lay t T P) (h : (s0 = 0 → Q (some (.int 0)) (t, T, I, L, P)) ∧ (¬ (s0 = 0) → (¬ (I 132 2) = 0 → hf_G X Y_X9_hasSum d 0 0 0 (hf_en [.ref 124, .int x2] 2) [] (t, T, I, L, P) (fun r M => hf_G X Y_X11_runOnce (d + 1) k n 57 [some (.ref 100), some (.ref 124), some (.int x2), none, none] (r.toList ++ []) M Q)) ∧ ((I 132 2) = 0 → Q (some (.int 0)) (t, T, I, L, P)))) : hf_G X Y_X11_runOnce (d + 1) k n 33 [some (.ref 100), some (.ref 124), some (.int x2), none, none] [.int s0] (t, T, I, L, P) Q := by
  refine hf_istore (l2 := [some (.ref 100), some (.ref 124), some (.int x2), none, some (.int s0)]) dX11_runOnce_33 (by decide) rfl ?_
  refine hf_iload dX11_runOnce_35 rfl ?_
  refine hf_if_eq (tgt := 50) dX11_runOnce_37 (by decide) (fun hc => ?_) (fun hc => ?_)
  · replace h := h.1 hc
    refine hf_iconst (v := 0) dX11_runOnce_50 (by decide) ?_
    refine hf_ireturn dX11_runOnce_51 rfl rfl ?_
    exact h
  · replace h := h.2 hc
    refine hf_aload_n dX11_runOnce_40 rfl rfl ?_
    refine hf_getr (b := 132) (c := 11) (j := 4) dX11_runOnce_41 (hs.2.1 100 _ rfl) (hf_lin hs 100 rfl) (by decide) (by decide) hw369 rfl (hs.2.2 100 4 _ rfl) ?_
    refine hf_geti (c := 7) (j := 2) dX11_runOnce_44 (hs.2.1 132 _ rfl) (hf_lin hs 132 rfl) (by decide) (by decide) hw257 (Or.inl rfl) ?_
    refine hf_if_ne (tgt := 52) dX11_runOnce_47 (by decide) (fun hc => ?_) (fun hc => ?_)
    · replace h := h.1 hc
      refine hf_aload_n dX11_runOnce_52 rfl rfl ?_
      refine hf_iload_n dX11_runOnce_53 rfl rfl ?_
      exact hf_callV (c := 9) (as := [.int x2]) ok_X9_hasSum dX11_runOnce_54 hw695 hw525 hw526 (hs.2.1 124 _ rfl) (by decide) (hf_lin hs 124 rfl) rfl (Nat.le_of_ble_eq_true rfl) rfl (Nat.le_of_ble_eq_true rfl) (Nat.zero_le _) (Nat.zero_le _) (hf_mono (fun r M q => hf_drop (l' := [some (.ref 100), some (.ref 124), some (.int x2), none, none]) (by simp [hf_sub]) q) h)
    · replace h := h.2 hc
      refine hf_iconst (v := 0) dX11_runOnce_50 (by decide) ?_
      refine hf_ireturn dX11_runOnce_51 rfl rfl ?_
      exact h

set_option maxHeartbeats 4000000 in
theorem w_X11_runOnce_165 {X : hf_X} {d k n t : Nat} {T : hf_T} {I : hf_I} {L : hf_L} {P : hf_P} {Q : Option Value → hf_M → Prop} {s0 : Int32} (hs : hf_Lay t T P) (h : (0 ≤ s0 → Q (some (.int 1)) (t, T, I, L, P)) ∧ (¬ (0 ≤ s0) → Q (some (.int s0)) (t, T, I, L, P))) : hf_G X Y_X11_runOnce d k n 165 [none, none, none, none, none] [.int s0] (t, T, I, L, P) Q := by
  refine hf_istore (l2 := [none, none, none, none, some (.int s0)]) dX11_runOnce_165 (by decide) rfl ?_
  refine hf_iload dX11_runOnce_167 rfl ?_
  refine hf_if_ge (tgt := 177) dX11_runOnce_169 (by decide) (fun hc => ?_) (fun hc => ?_)
  · replace h := h.1 hc
    refine hf_iconst (v := 1) dX11_runOnce_177 (by decide) ?_
    refine hf_ireturn dX11_runOnce_178 rfl rfl ?_
    exact h
  · replace h := h.2 hc
    refine hf_iload dX11_runOnce_172 rfl ?_
    refine hf_goto (tgt := 178) dX11_runOnce_174 (by decide) ?_
    refine hf_ireturn dX11_runOnce_178 rfl rfl ?_
    exact h

set_option maxHeartbeats 4000000 in
theorem w_X11_runOnce_131 {X : hf_X} {d k n t : Nat} {T : hf_T} {I : hf_I} {L : hf_L} {P : hf_P} {Q : Option Value → hf_M → Prop} {s0 : Int32} (hs : hf_Lay t T P) (h : (0 ≤ s0 → Q (some (.int 1)) (t, T, I, L, P)) ∧ (¬ (0 ≤ s0) → Q (some (.int s0)) (t, T, I, L, P))) : hf_G X Y_X11_runOnce d k n 131 [none, none, none, none, none] [.int s0] (t, T, I, L, P) Q := by
  refine hf_istore (l2 := [none, none, none, none, some (.int s0)]) dX11_runOnce_131 (by decide) rfl ?_
  refine hf_goto (tgt := 167) dX11_runOnce_133 (by decide) ?_
  refine hf_iload dX11_runOnce_167 rfl ?_
  refine hf_if_ge (tgt := 177) dX11_runOnce_169 (by decide) (fun hc => ?_) (fun hc => ?_)
  · replace h := h.1 hc
    refine hf_iconst (v := 1) dX11_runOnce_177 (by decide) ?_
    refine hf_ireturn dX11_runOnce_178 rfl rfl ?_
    exact h
  · replace h := h.2 hc
    refine hf_iload dX11_runOnce_172 rfl ?_
    refine hf_goto (tgt := 178) dX11_runOnce_174 (by decide) ?_
    refine hf_ireturn dX11_runOnce_178 rfl rfl ?_
    exact h

set_option maxHeartbeats 4000000 in
theorem w_X11_runOnce_140 {X : hf_X} {d k n t : Nat} {T : hf_T} {I : hf_I} {L : hf_L} {P : hf_P} {Q : Option Value → hf_M → Prop} {s0 : Int32} (hs : hf_Lay t T P) (h : (0 ≤ s0 → Q (some (.int 1)) (t, T, I, L, P)) ∧ (¬ (0 ≤ s0) → Q (some (.int s0)) (t, T, I, L, P))) : hf_G X Y_X11_runOnce d k n 140 [none, none, none, none, none] [.int s0] (t, T, I, L, P) Q := by
  refine hf_istore (l2 := [none, none, none, none, some (.int s0)]) dX11_runOnce_140 (by decide) rfl ?_
  refine hf_goto (tgt := 167) dX11_runOnce_142 (by decide) ?_
  refine hf_iload dX11_runOnce_167 rfl ?_
  refine hf_if_ge (tgt := 177) dX11_runOnce_169 (by decide) (fun hc => ?_) (fun hc => ?_)
  · replace h := h.1 hc
    refine hf_iconst (v := 1) dX11_runOnce_177 (by decide) ?_
    refine hf_ireturn dX11_runOnce_178 rfl rfl ?_
    exact h
  · replace h := h.2 hc
    refine hf_iload dX11_runOnce_172 rfl ?_
    refine hf_goto (tgt := 178) dX11_runOnce_174 (by decide) ?_
    refine hf_ireturn dX11_runOnce_178 rfl rfl ?_
    exact h

set_option maxHeartbeats 4000000 in
theorem w_X11_runOnce_149 {X : hf_X} {d k n t : Nat} {T : hf_T} {I : hf_I} {L : hf_L} {P : hf_P} {Q : Option Value → hf_M → Prop} {s0 : Int32} (hs : hf_Lay t T P) (h : (0 ≤ s0 → Q (some (.int 1)) (t, T, I, L, P)) ∧ (¬ (0 ≤ s0) → Q (some (.int s0)) (t, T, I, L, P))) : hf_G X Y_X11_runOnce d k n 149 [none, none, none, none, none] [.int s0] (t, T, I, L, P) Q := by
  refine hf_istore (l2 := [none, none, none, none, some (.int s0)]) dX11_runOnce_149 (by decide) rfl ?_
  refine hf_goto (tgt := 167) dX11_runOnce_151 (by decide) ?_
  refine hf_iload dX11_runOnce_167 rfl ?_
  refine hf_if_ge (tgt := 177) dX11_runOnce_169 (by decide) (fun hc => ?_) (fun hc => ?_)
  · replace h := h.1 hc
    refine hf_iconst (v := 1) dX11_runOnce_177 (by decide) ?_
    refine hf_ireturn dX11_runOnce_178 rfl rfl ?_
    exact h
  · replace h := h.2 hc
    refine hf_iload dX11_runOnce_172 rfl ?_
    refine hf_goto (tgt := 178) dX11_runOnce_174 (by decide) ?_
    refine hf_ireturn dX11_runOnce_178 rfl rfl ?_
    exact h

set_option maxHeartbeats 4000000 in
theorem w_X11_runOnce_80 {X : hf_X} {d k n t : Nat} {T : hf_T} {I : hf_I} {L : hf_L} {P : hf_P} {Q : Option Value → hf_M → Prop} {x2 : Int32} {s0 : Int32} (hs : hf_Lay t T P) (h : (¬ s0 = 0 → vp_in x2 12 ∧ (((I 126 x2.toNatClampNeg) = 0 → hf_G X Y_X11_placeWord d 0 0 0 (hf_en [.ref 100, .int (I 132 2)] 4) [] (t, T, I, L, P) (fun r M => hf_G X Y_X11_runOnce (d + 1) k n 131 [none, none, none, none, none] (r.toList ++ []) M Q)) ∧ ((I 126 x2.toNatClampNeg) = 1 → hf_G X Y_X11_turnLine d 0 0 0 (hf_en [.ref 100] 2) [] (t, T, I, L, P) (fun r M => hf_G X Y_X11_runOnce (d + 1) k n 140 [none, none, none, none, none] (r.toList ++ []) M Q)) ∧ ((I 126 x2.toNatClampNeg) = 2 → hf_G X Y_X11_emptyHead d 0 0 0 (hf_en [.ref 100] 3) [] (t, T, I, L, P) (fun r M => hf_G X Y_X11_runOnce (d + 1) k n 149 [none, none, none, none, none] (r.toList ++ []) M Q)) ∧ ((I 126 x2.toNatClampNeg).toInt < 0 ∨ 2 < (I 126 x2.toNatClampNeg).toInt → hf_G X Y_X11_changeSize d 0 0 0 (hf_en [.ref 100, .int (I 132 2)] 3) [] (t, T, I, L, P) (fun r M => hf_G X Y_X11_runOnce (d + 1) k n 165 [none, none, none, none, none] (r.toList ++ []) M Q)))) ∧ (s0 = 0 → Q (some (.int (-3))) (t, T, I, L, P))) : hf_G X Y_X11_runOnce (d + 1) k n 80 [some (.ref 100), some (.ref 124), some (.int x2), none, none] [.int s0] (t, T, I, L, P) Q := by
  refine hf_if_ne (tgt := 86) dX11_runOnce_80 (by decide) (fun hc => ?_) (fun hc => ?_)
  · replace h := h.1 hc
    refine hf_aload_n dX11_runOnce_86 rfl rfl ?_
    refine hf_getr (b := 126) (c := 9) (j := 1) dX11_runOnce_87 (hs.2.1 124 _ rfl) (hf_lin hs 124 rfl) (by decide) (by decide) hw199 rfl (hs.2.2 124 1 _ rfl) ?_
    refine hf_iload_n dX11_runOnce_90 rfl rfl ?_
    refine hf_iald dX11_runOnce_91 (hs.2.1 126 _ rfl) (hf_lin hs 126 rfl) h.1 ?_
    replace h := h.2
    rcases hf_swc (I 126 x2.toNatClampNeg) 0 2 with hq | ⟨j, hj, hq⟩
    · refine hf_tableOut (tgt := 154) dX11_runOnce_92 (by omega) (by decide) ?_
      replace h := h.2.2.2 (by omega)
      refine hf_aload_n dX11_runOnce_154 rfl rfl ?_
      refine hf_aload_n dX11_runOnce_155 rfl rfl ?_
      refine hf_getr (b := 132) (c := 11) (j := 4) dX11_runOnce_156 (hs.2.1 100 _ rfl) (hf_lin hs 100 rfl) (by decide) (by decide) hw369 rfl (hs.2.2 100 4 _ rfl) ?_
      refine hf_geti (c := 7) (j := 2) dX11_runOnce_159 (hs.2.1 132 _ rfl) (hf_lin hs 132 rfl) (by decide) (by decide) hw257 (Or.inl rfl) ?_
      exact hf_callV (c := 11) (as := [.int (I 132 2)]) ok_X11_changeSize dX11_runOnce_162 hw429 hw430 hw1555 (hs.2.1 100 _ rfl) (by decide) (hf_lin hs 100 rfl) rfl (Nat.le_of_ble_eq_true rfl) rfl (Nat.le_of_ble_eq_true rfl) (Nat.zero_le _) (Nat.zero_le _) (hf_mono (fun r M q => hf_drop (l' := [none, none, none, none, none]) (by simp [hf_sub]) q) h)
    · match j, hj with
      | 0, _ =>
        have hx : (I 126 x2.toNatClampNeg) = 0 := hf_swi hq (by decide)
        refine hf_tableIn (off := 28) (tgt := 120) dX11_runOnce_92 (by rw [hx]; decide) (by rw [hx]; decide) (by rw [hx]; rfl) (by decide) ?_
        replace h := h.1 hx
        refine hf_aload_n dX11_runOnce_120 rfl rfl ?_
        refine hf_aload_n dX11_runOnce_121 rfl rfl ?_
        refine hf_getr (b := 132) (c := 11) (j := 4) dX11_runOnce_122 (hs.2.1 100 _ rfl) (hf_lin hs 100 rfl) (by decide) (by decide) hw369 rfl (hs.2.2 100 4 _ rfl) ?_
        refine hf_geti (c := 7) (j := 2) dX11_runOnce_125 (hs.2.1 132 _ rfl) (hf_lin hs 132 rfl) (by decide) (by decide) hw257 (Or.inl rfl) ?_
        exact hf_callV (c := 11) (as := [.int (I 132 2)]) ok_X11_placeWord dX11_runOnce_128 hw696 hw697 hw1583 (hs.2.1 100 _ rfl) (by decide) (hf_lin hs 100 rfl) rfl (Nat.le_of_ble_eq_true rfl) rfl (Nat.le_of_ble_eq_true rfl) (Nat.zero_le _) (Nat.zero_le _) (hf_mono (fun r M q => hf_drop (l' := [none, none, none, none, none]) (by simp [hf_sub]) q) h)
      | 1, _ =>
        have hx : (I 126 x2.toNatClampNeg) = 1 := hf_swi hq (by decide)
        refine hf_tableIn (off := 44) (tgt := 136) dX11_runOnce_92 (by rw [hx]; decide) (by rw [hx]; decide) (by rw [hx]; rfl) (by decide) ?_
        replace h := h.2.1 hx
        refine hf_aload_n dX11_runOnce_136 rfl rfl ?_
        exact hf_callV (c := 11) (as := []) ok_X11_turnLine dX11_runOnce_137 hw713 hw714 hw1584 (hs.2.1 100 _ rfl) (by decide) (hf_lin hs 100 rfl) rfl (Nat.le_of_ble_eq_true rfl) rfl (Nat.le_of_ble_eq_true rfl) (Nat.zero_le _) (Nat.zero_le _) (hf_mono (fun r M q => hf_drop (l' := [none, none, none, none, none]) (by simp [hf_sub]) q) h)
      | 2, _ =>
        have hx : (I 126 x2.toNatClampNeg) = 2 := hf_swi hq (by decide)
        refine hf_tableIn (off := 53) (tgt := 145) dX11_runOnce_92 (by rw [hx]; decide) (by rw [hx]; decide) (by rw [hx]; rfl) (by decide) ?_
        replace h := h.2.2.1 hx
        refine hf_aload_n dX11_runOnce_145 rfl rfl ?_
        exact hf_callV (c := 11) (as := []) ok_X11_emptyHead dX11_runOnce_146 hw716 hw717 hw1585 (hs.2.1 100 _ rfl) (by decide) (hf_lin hs 100 rfl) rfl (Nat.le_of_ble_eq_true rfl) rfl (Nat.le_of_ble_eq_true rfl) (Nat.zero_le _) (Nat.zero_le _) (hf_mono (fun r M q => hf_drop (l' := [none, none, none, none, none]) (by simp [hf_sub]) q) h)
      | j + 3, hj => exact absurd hj (by omega)
  · replace h := h.2 hc
    refine hf_bipush (v := (-3)) dX11_runOnce_83 (by decide) ?_
    refine hf_ireturn dX11_runOnce_85 rfl rfl ?_
    exact h

set_option maxHeartbeats 4000000 in
theorem w_X11_tellFacts_0 {X : hf_X} {d k n t : Nat} {T : hf_T} {I : hf_I} {L : hf_L} {P : hf_P} {Q : Option Value → hf_M → Prop} {x1 : Int32} (hs : hf_Lay t T P) (h : hf_G X Y_X1_lineWidth d 0 0 0 (hf_en [.ref 101, .int (I 114 3)] 5) [] (t, T, (hf_up (hf_up I 133 0 (I 114 2)) 133 1 (I 114 3)), L, P) (fun r M => hf_G X Y_X11_tellFacts (d + 1) k n 60 [some (.ref 100), some (.int x1), some (.ref 133), none, none] (r.toList ++ [.int (I 101 12), .int 2, .ref 133]) M Q)) : hf_G X Y_X11_tellFacts (d + 1) k n 0 (hf_en [.ref 100, .int x1] 5) [] (t, T, I, L, P) Q := by
  show hf_G X Y_X11_tellFacts (d + 1) k n 0 [some (.ref 100), some (.int x1), none, none, none] [] (t, T, I, L, P) Q
  refine hf_aload_n dX11_tellFacts_0 rfl rfl ?_
  refine hf_getr (b := 132) (c := 11) (j := 4) dX11_tellFacts_1 (hs.2.1 100 _ rfl) (hf_lin hs 100 rfl) (by decide) (by decide) hw369 rfl (hs.2.2 100 4 _ rfl) ?_
  refine hf_getr (b := 133) (c := 7) (j := 0) dX11_tellFacts_4 (hs.2.1 132 _ rfl) (hf_lin hs 132 rfl) (by decide) (by decide) hw253 rfl (hs.2.2 132 0 _ rfl) ?_
  refine hf_astore_n (l2 := [some (.ref 100), some (.int x1), some (.ref 133), none, none]) dX11_tellFacts_7 rfl (by decide) rfl ?_
  refine hf_aload_n dX11_tellFacts_8 rfl rfl ?_
  refine hf_iconst (v := 0) dX11_tellFacts_9 (by decide) ?_
  refine hf_aload_n dX11_tellFacts_10 rfl rfl ?_
  refine hf_getr (b := 101) (c := 11) (j := 0) dX11_tellFacts_11 (hs.2.1 100 _ rfl) (hf_lin hs 100 rfl) (by decide) (by decide) hw365 rfl (hs.2.2 100 0 _ rfl) ?_
  refine hf_getr (b := 114) (c := 1) (j := 7) dX11_tellFacts_14 (hs.2.1 101 _ rfl) (hf_lin hs 101 rfl) (by decide) (by decide) hw123 rfl (hs.2.2 101 7 _ rfl) ?_
  refine hf_geti (c := 3) (j := 2) dX11_tellFacts_17 (hs.2.1 114 _ rfl) (hf_lin hs 114 rfl) (by decide) (by decide) hw89 (Or.inl rfl) ?_
  refine hf_iast_k (j := 0) (by decide) dX11_tellFacts_20 (hs.2.1 133 _ rfl) (hf_lin hs 133 rfl) (hf_vin (by decide)) ?_
  refine hf_aload_n dX11_tellFacts_21 rfl rfl ?_
  refine hf_iconst (v := 1) dX11_tellFacts_22 (by decide) ?_
  refine hf_aload_n dX11_tellFacts_23 rfl rfl ?_
  refine hf_getr (b := 101) (c := 11) (j := 0) dX11_tellFacts_24 (hs.2.1 100 _ rfl) (hf_lin hs 100 rfl) (by decide) (by decide) hw365 rfl (hs.2.2 100 0 _ rfl) ?_
  refine hf_getr (b := 114) (c := 1) (j := 7) dX11_tellFacts_27 (hs.2.1 101 _ rfl) (hf_lin hs 101 rfl) (by decide) (by decide) hw123 rfl (hs.2.2 101 7 _ rfl) ?_
  refine hf_geti (c := 3) (j := 3) dX11_tellFacts_30 (hs.2.1 114 _ rfl) (hf_lin hs 114 rfl) (by decide) (by decide) hw94 (Or.inl rfl) ?_
  refine hf_iast_k (j := 1) (by decide) dX11_tellFacts_33 (hs.2.1 133 _ rfl) (hf_lin hs 133 rfl) (hf_vin (by decide)) ?_
  refine hf_aload_n dX11_tellFacts_34 rfl rfl ?_
  refine hf_iconst (v := 2) dX11_tellFacts_35 (by decide) ?_
  refine hf_aload_n dX11_tellFacts_36 rfl rfl ?_
  refine hf_getr (b := 101) (c := 11) (j := 0) dX11_tellFacts_37 (hs.2.1 100 _ rfl) (hf_lin hs 100 rfl) (by decide) (by decide) hw365 rfl (hs.2.2 100 0 _ rfl) ?_
  refine hf_geti (c := 1) (j := 12) dX11_tellFacts_40 (hs.2.1 101 _ rfl) (hf_lin hs 101 rfl) (by decide) (by decide) hw137 (Or.inl rfl) ?_
  refine hf_aload_n dX11_tellFacts_43 rfl rfl ?_
  refine hf_getr (b := 101) (c := 11) (j := 0) dX11_tellFacts_44 (hs.2.1 100 _ rfl) (hf_lin hs 100 rfl) (by decide) (by decide) hw365 rfl (hs.2.2 100 0 _ rfl) ?_
  refine hf_aload_n dX11_tellFacts_47 rfl rfl ?_
  refine hf_getr (b := 101) (c := 11) (j := 0) dX11_tellFacts_48 (hs.2.1 100 _ rfl) (hf_lin hs 100 rfl) (by decide) (by decide) hw365 rfl (hs.2.2 100 0 _ rfl) ?_
  refine hf_getr (b := 114) (c := 1) (j := 7) dX11_tellFacts_51 (hs.2.1 101 _ rfl) (hf_lin hs 101 rfl) (by decide) (by decide) hw123 rfl (hs.2.2 101 7 _ rfl) ?_
  refine hf_geti (c := 3) (j := 3) dX11_tellFacts_54 (hs.2.1 114 _ rfl) (hf_lin hs 114 rfl) (by decide) (by decide) hw94 (Or.inl rfl) ?_
  exact hf_callV (c := 1) (as := [.int (I 114 3)]) ok_X1_lineWidth dX11_tellFacts_57 hw687 hw688 hw689 (hs.2.1 101 _ rfl) (by decide) (hf_lin hs 101 rfl) rfl (Nat.le_of_ble_eq_true rfl) rfl (Nat.le_of_ble_eq_true rfl) (Nat.zero_le _) (Nat.zero_le _) h

set_option maxHeartbeats 4000000 in
theorem w_X11_tellFacts_60 {X : hf_X} {d k n t : Nat} {T : hf_T} {I : hf_I} {L : hf_L} {P : hf_P} {Q : Option Value → hf_M → Prop} {x1 : Int32} {s0 : Int32} {s1 : Int32} {s2 : Int32} (hs : hf_Lay t T P) (h : vp_in s2 37 ∧ (hf_G X Y_X11_tellFacts d k n 78 [some (.ref 100), none, some (.ref 133), some (.int 0), none] [] (t, T, (hf_up (hf_up (hf_up I 133 s2.toNatClampNeg (s1 - s0)) 133 3 x1) 133 4 (I 101 14)), L, P) Q)) : hf_G X Y_X11_tellFacts d k n 60 [some (.ref 100), some (.int x1), some (.ref 133), none, none] [.int s0, .int s1, .int s2, .ref 133] (t, T, I, L, P) Q := by
  refine hf_isub dX11_tellFacts_60 ?_
  refine hf_iast dX11_tellFacts_61 (hs.2.1 133 _ rfl) (hf_lin hs 133 rfl) h.1 ?_
  replace h := h.2
  refine hf_aload_n dX11_tellFacts_62 rfl rfl ?_
  refine hf_iconst (v := 3) dX11_tellFacts_63 (by decide) ?_
  refine hf_iload_n dX11_tellFacts_64 rfl rfl ?_
  refine hf_iast_k (j := 3) (by decide) dX11_tellFacts_65 (hs.2.1 133 _ rfl) (hf_lin hs 133 rfl) (hf_vin (by decide)) ?_
  refine hf_aload_n dX11_tellFacts_66 rfl rfl ?_
  refine hf_iconst (v := 4) dX11_tellFacts_67 (by decide) ?_
  refine hf_aload_n dX11_tellFacts_68 rfl rfl ?_
  refine hf_getr (b := 101) (c := 11) (j := 0) dX11_tellFacts_69 (hs.2.1 100 _ rfl) (hf_lin hs 100 rfl) (by decide) (by decide) hw365 rfl (hs.2.2 100 0 _ rfl) ?_
  refine hf_geti (c := 1) (j := 14) dX11_tellFacts_72 (hs.2.1 101 _ rfl) (hf_lin hs 101 rfl) (by decide) (by decide) hw146 (Or.inl rfl) ?_
  refine hf_iast_k (j := 4) (by decide) dX11_tellFacts_75 (hs.2.1 133 _ rfl) (hf_lin hs 133 rfl) (hf_vin (by decide)) ?_
  refine hf_iconst (v := 0) dX11_tellFacts_76 (by decide) ?_
  refine hf_istore_n (l2 := [some (.ref 100), some (.int x1), some (.ref 133), some (.int 0), none]) dX11_tellFacts_77 rfl (by decide) rfl ?_
  refine hf_drop (l' := [some (.ref 100), none, some (.ref 133), some (.int 0), none]) (by simp [hf_sub]) ?_
  exact h

set_option maxHeartbeats 4000000 in
theorem w_X11_tellFacts_78 {X : hf_X} {d k n t : Nat} {T : hf_T} {I : hf_I} {L : hf_L} {P : hf_P} {Q : Option Value → hf_M → Prop} {x3 : Int32} (hs : hf_Lay t T P) (h : (16 ≤ x3 → Q none (t, T, I, L, P)) ∧ (¬ (16 ≤ x3) → (x3 < 0 → vp_in (5 + x3) 37 ∧ (vp_in (21 + x3) 37 ∧ (hf_G X Y_X11_tellFacts (d + 1) k n 78 [some (.ref 100), none, some (.ref 133), some (.int (x3 + 1)), none] [] (t, T, (hf_up (hf_up I 133 (((5 + x3)).toNatClampNeg) (-1)) 133 (((21 + x3)).toNatClampNeg) (-1)), L, P) Q))) ∧ (¬ (x3 < 0) → ((I 105 5) ≤ x3 → vp_in (5 + x3) 37 ∧ (vp_in (21 + x3) 37 ∧ (hf_G X Y_X11_tellFacts (d + 1) k n 78 [some (.ref 100), none, some (.ref 133), some (.int (x3 + 1)), none] [] (t, T, (hf_up (hf_up I 133 (((5 + x3)).toNatClampNeg) (-1)) 133 (((21 + x3)).toNatClampNeg) (-1)), L, P) Q))) ∧ (¬ ((I 105 5) ≤ x3) → hf_G X Y_X1_wordWidth d 0 0 0 (hf_en [.ref 101, .int x3, .int (I 101 14)] 6) [] (t, T, I, L, P) (fun r M => hf_G X Y_X11_tellFacts (d + 1) k n 121 [some (.ref 100), none, some (.ref 133), some (.int x3), some (.int 1)] (r.toList ++ [.int (5 + x3), .ref 133]) M Q))))) : hf_G X Y_X11_tellFacts (d + 1) k n 78 [some (.ref 100), none, some (.ref 133), some (.int x3), none] [] (t, T, I, L, P) Q := by
  refine hf_iload_n dX11_tellFacts_78 rfl rfl ?_
  refine hf_bipush (v := 16) dX11_tellFacts_79 (by decide) ?_
  refine hf_icmp_ge (tgt := 159) dX11_tellFacts_81 (by decide) (fun hc => ?_) (fun hc => ?_)
  · replace h := h.1 hc
    refine hf_return dX11_tellFacts_159 rfl ?_
    exact h
  · replace h := h.2 hc
    refine hf_aload_n dX11_tellFacts_84 rfl rfl ?_
    refine hf_getr (b := 101) (c := 11) (j := 0) dX11_tellFacts_85 (hs.2.1 100 _ rfl) (hf_lin hs 100 rfl) (by decide) (by decide) hw365 rfl (hs.2.2 100 0 _ rfl) ?_
    refine hf_getr (b := 105) (c := 1) (j := 3) dX11_tellFacts_88 (hs.2.1 101 _ rfl) (hf_lin hs 101 rfl) (by decide) (by decide) hw111 rfl (hs.2.2 101 3 _ rfl) ?_
    refine hf_iload_n dX11_tellFacts_91 rfl rfl ?_
    refine hf_callV (c := 10) (as := [.int x3]) ok_X10_has dX11_tellFacts_92 hw474 hw475 hw476 (hs.2.1 105 _ rfl) (by decide) (hf_lin hs 105 rfl) rfl (Nat.le_of_ble_eq_true rfl) rfl (Nat.le_of_ble_eq_true rfl) (Nat.zero_le _) (Nat.zero_le _) ?_
    show hf_G X Y_X10_has d _ _ 0 [some (.ref 105), some (.int x3)] [] (t, T, I, L, P) _
    refine hf_iload_n dX10_has_0 rfl rfl ?_
    refine hf_if_lt (tgt := 16) dX10_has_1 (by decide) (fun hc => ?_) (fun hc => ?_)
    · replace h := h.1 hc
      refine hf_iconst (v := 0) dX10_has_16 (by decide) ?_
      refine hf_ireturn dX10_has_17 rfl (by decide) ?_
      show hf_G X Y_X11_tellFacts (d + 1) _ _ 95 [some (.ref 100), none, some (.ref 133), some (.int x3), none] [.int 0] (t, T, I, L, P) _
      refine hf_istore (l2 := [some (.ref 100), none, some (.ref 133), some (.int x3), some (.int 0)]) dX11_tellFacts_95 (by decide) rfl ?_
      refine hf_aload_n dX11_tellFacts_97 rfl rfl ?_
      refine hf_iconst (v := 5) dX11_tellFacts_98 (by decide) ?_
      refine hf_iload_n dX11_tellFacts_99 rfl rfl ?_
      refine hf_iadd dX11_tellFacts_100 ?_
      refine hf_iload dX11_tellFacts_101 rfl ?_
      refine hf_if_eq (tgt := 124) dX11_tellFacts_103 (by decide) (fun _ => ?_) (fun hc => absurd (show (0 : Int32) = (0 : Int32) by decide) hc)
      refine hf_iconst (v := (-1)) dX11_tellFacts_124 (by decide) ?_
      refine hf_iast dX11_tellFacts_125 (hs.2.1 133 _ rfl) (hf_lin hs 133 rfl) h.1 ?_
      replace h := h.2
      refine hf_aload_n dX11_tellFacts_126 rfl rfl ?_
      refine hf_bipush (v := 21) dX11_tellFacts_127 (by decide) ?_
      refine hf_iload_n dX11_tellFacts_129 rfl rfl ?_
      refine hf_iadd dX11_tellFacts_130 ?_
      refine hf_iload dX11_tellFacts_131 rfl ?_
      refine hf_if_eq (tgt := 151) dX11_tellFacts_133 (by decide) (fun _ => ?_) (fun hc => absurd (show (0 : Int32) = (0 : Int32) by decide) hc)
      refine hf_iconst (v := (-1)) dX11_tellFacts_151 (by decide) ?_
      refine hf_iast dX11_tellFacts_152 (hs.2.1 133 _ rfl) (hf_lin hs 133 rfl) h.1 ?_
      replace h := h.2
      refine hf_iinc (v := (x3 + 1)) (l2 := [some (.ref 100), none, some (.ref 133), some (.int (x3 + 1)), some (.int 0)]) dX11_tellFacts_153 (by decide) rfl rfl rfl ?_
      refine hf_goto (tgt := 78) dX11_tellFacts_156 (by decide) ?_
      refine hf_drop (l' := [some (.ref 100), none, some (.ref 133), some (.int (x3 + 1)), none]) (by simp [hf_sub]) ?_
      exact h
    · replace h := h.2 hc
      refine hf_iload_n dX10_has_4 rfl rfl ?_
      refine hf_aload_n dX10_has_5 rfl rfl ?_
      refine hf_geti (c := 10) (j := 5) dX10_has_6 (hs.2.1 105 _ rfl) (hf_lin hs 105 rfl) (by decide) (by decide) hw61 (Or.inl rfl) ?_
      refine hf_icmp_ge (tgt := 16) dX10_has_9 (by decide) (fun hc => ?_) (fun hc => ?_)
      · replace h := h.1 hc
        refine hf_iconst (v := 0) dX10_has_16 (by decide) ?_
        refine hf_ireturn dX10_has_17 rfl (by decide) ?_
        show hf_G X Y_X11_tellFacts (d + 1) _ _ 95 [some (.ref 100), none, some (.ref 133), some (.int x3), none] [.int 0] (t, T, I, L, P) _
        refine hf_istore (l2 := [some (.ref 100), none, some (.ref 133), some (.int x3), some (.int 0)]) dX11_tellFacts_95 (by decide) rfl ?_
        refine hf_aload_n dX11_tellFacts_97 rfl rfl ?_
        refine hf_iconst (v := 5) dX11_tellFacts_98 (by decide) ?_
        refine hf_iload_n dX11_tellFacts_99 rfl rfl ?_
        refine hf_iadd dX11_tellFacts_100 ?_
        refine hf_iload dX11_tellFacts_101 rfl ?_
        refine hf_if_eq (tgt := 124) dX11_tellFacts_103 (by decide) (fun _ => ?_) (fun hc => absurd (show (0 : Int32) = (0 : Int32) by decide) hc)
        refine hf_iconst (v := (-1)) dX11_tellFacts_124 (by decide) ?_
        refine hf_iast dX11_tellFacts_125 (hs.2.1 133 _ rfl) (hf_lin hs 133 rfl) h.1 ?_
        replace h := h.2
        refine hf_aload_n dX11_tellFacts_126 rfl rfl ?_
        refine hf_bipush (v := 21) dX11_tellFacts_127 (by decide) ?_
        refine hf_iload_n dX11_tellFacts_129 rfl rfl ?_
        refine hf_iadd dX11_tellFacts_130 ?_
        refine hf_iload dX11_tellFacts_131 rfl ?_
        refine hf_if_eq (tgt := 151) dX11_tellFacts_133 (by decide) (fun _ => ?_) (fun hc => absurd (show (0 : Int32) = (0 : Int32) by decide) hc)
        refine hf_iconst (v := (-1)) dX11_tellFacts_151 (by decide) ?_
        refine hf_iast dX11_tellFacts_152 (hs.2.1 133 _ rfl) (hf_lin hs 133 rfl) h.1 ?_
        replace h := h.2
        refine hf_iinc (v := (x3 + 1)) (l2 := [some (.ref 100), none, some (.ref 133), some (.int (x3 + 1)), some (.int 0)]) dX11_tellFacts_153 (by decide) rfl rfl rfl ?_
        refine hf_goto (tgt := 78) dX11_tellFacts_156 (by decide) ?_
        refine hf_drop (l' := [some (.ref 100), none, some (.ref 133), some (.int (x3 + 1)), none]) (by simp [hf_sub]) ?_
        exact h
      · replace h := h.2 hc
        refine hf_iconst (v := 1) dX10_has_12 (by decide) ?_
        refine hf_goto (tgt := 17) dX10_has_13 (by decide) ?_
        refine hf_ireturn dX10_has_17 rfl (by decide) ?_
        show hf_G X Y_X11_tellFacts (d + 1) _ _ 95 [some (.ref 100), none, some (.ref 133), some (.int x3), none] [.int 1] (t, T, I, L, P) _
        refine hf_istore (l2 := [some (.ref 100), none, some (.ref 133), some (.int x3), some (.int 1)]) dX11_tellFacts_95 (by decide) rfl ?_
        refine hf_aload_n dX11_tellFacts_97 rfl rfl ?_
        refine hf_iconst (v := 5) dX11_tellFacts_98 (by decide) ?_
        refine hf_iload_n dX11_tellFacts_99 rfl rfl ?_
        refine hf_iadd dX11_tellFacts_100 ?_
        refine hf_iload dX11_tellFacts_101 rfl ?_
        refine hf_if_eq (tgt := 124) dX11_tellFacts_103 (by decide) (fun hc => absurd (show (1 : Int32) = (0 : Int32) from hc) (by decide)) (fun _ => ?_)
        refine hf_aload_n dX11_tellFacts_106 rfl rfl ?_
        refine hf_getr (b := 101) (c := 11) (j := 0) dX11_tellFacts_107 (hs.2.1 100 _ rfl) (hf_lin hs 100 rfl) (by decide) (by decide) hw365 rfl (hs.2.2 100 0 _ rfl) ?_
        refine hf_iload_n dX11_tellFacts_110 rfl rfl ?_
        refine hf_aload_n dX11_tellFacts_111 rfl rfl ?_
        refine hf_getr (b := 101) (c := 11) (j := 0) dX11_tellFacts_112 (hs.2.1 100 _ rfl) (hf_lin hs 100 rfl) (by decide) (by decide) hw365 rfl (hs.2.2 100 0 _ rfl) ?_
        refine hf_geti (c := 1) (j := 14) dX11_tellFacts_115 (hs.2.1 101 _ rfl) (hf_lin hs 101 rfl) (by decide) (by decide) hw146 (Or.inl rfl) ?_
        exact hf_callV (c := 1) (as := [.int x3, .int (I 101 14)]) ok_X1_wordWidth dX11_tellFacts_118 hw478 hw479 hw480 (hs.2.1 101 _ rfl) (by decide) (hf_lin hs 101 rfl) rfl (Nat.le_of_ble_eq_true rfl) rfl (Nat.le_of_ble_eq_true rfl) (Nat.zero_le _) (Nat.zero_le _) h

set_option maxHeartbeats 4000000 in
theorem w_X11_tellFacts_121 {X : hf_X} {d k n t : Nat} {T : hf_T} {I : hf_I} {L : hf_L} {P : hf_P} {Q : Option Value → hf_M → Prop} {x3 : Int32} {x4 : Int32} {s0 : Int32} {s1 : Int32} (hs : hf_Lay t T P) (h : vp_in s1 37 ∧ ((x4 = 0 → vp_in (21 + x3) 37 ∧ (hf_G X Y_X11_tellFacts d k n 78 [some (.ref 100), none, some (.ref 133), some (.int (x3 + 1)), none] [] (t, T, (hf_up (hf_up I 133 s1.toNatClampNeg s0) 133 (((21 + x3)).toNatClampNeg) (-1)), L, P) Q)) ∧ (¬ (x4 = 0) → vp_in x3 16 ∧ (vp_in (21 + x3) 37 ∧ (hf_G X Y_X11_tellFacts d k n 78 [some (.ref 100), none, some (.ref 133), some (.int (x3 + 1)), none] [] (t, T, (hf_up (hf_up I 133 s1.toNatClampNeg s0) 133 (((21 + x3)).toNatClampNeg) (I 106 x3.toNatClampNeg)), L, P) Q))))) : hf_G X Y_X11_tellFacts d k n 121 [some (.ref 100), none, some (.ref 133), some (.int x3), some (.int x4)] [.int s0, .int s1, .ref 133] (t, T, I, L, P) Q := by
  refine hf_goto (tgt := 125) dX11_tellFacts_121 (by decide) ?_
  refine hf_iast dX11_tellFacts_125 (hs.2.1 133 _ rfl) (hf_lin hs 133 rfl) h.1 ?_
  replace h := h.2
  refine hf_aload_n dX11_tellFacts_126 rfl rfl ?_
  refine hf_bipush (v := 21) dX11_tellFacts_127 (by decide) ?_
  refine hf_iload_n dX11_tellFacts_129 rfl rfl ?_
  refine hf_iadd dX11_tellFacts_130 ?_
  refine hf_iload dX11_tellFacts_131 rfl ?_
  refine hf_if_eq (tgt := 151) dX11_tellFacts_133 (by decide) (fun hc => ?_) (fun hc => ?_)
  · replace h := h.1 hc
    refine hf_iconst (v := (-1)) dX11_tellFacts_151 (by decide) ?_
    refine hf_iast dX11_tellFacts_152 (hs.2.1 133 _ rfl) (hf_lin hs 133 rfl) h.1 ?_
    replace h := h.2
    refine hf_iinc (v := (x3 + 1)) (l2 := [some (.ref 100), none, some (.ref 133), some (.int (x3 + 1)), some (.int x4)]) dX11_tellFacts_153 (by decide) rfl rfl rfl ?_
    refine hf_goto (tgt := 78) dX11_tellFacts_156 (by decide) ?_
    refine hf_drop (l' := [some (.ref 100), none, some (.ref 133), some (.int (x3 + 1)), none]) (by simp [hf_sub]) ?_
    exact h
  · replace h := h.2 hc
    refine hf_aload_n dX11_tellFacts_136 rfl rfl ?_
    refine hf_getr (b := 101) (c := 11) (j := 0) dX11_tellFacts_137 (hs.2.1 100 _ rfl) (hf_lin hs 100 rfl) (by decide) (by decide) hw365 rfl (hs.2.2 100 0 _ rfl) ?_
    refine hf_getr (b := 105) (c := 1) (j := 3) dX11_tellFacts_140 (hs.2.1 101 _ rfl) (hf_lin hs 101 rfl) (by decide) (by decide) hw111 rfl (hs.2.2 101 3 _ rfl) ?_
    refine hf_getr (b := 106) (c := 10) (j := 0) dX11_tellFacts_143 (hs.2.1 105 _ rfl) (hf_lin hs 105 rfl) (by decide) (by decide) hw46 rfl (hs.2.2 105 0 _ rfl) ?_
    refine hf_iload_n dX11_tellFacts_146 rfl rfl ?_
    refine hf_iald dX11_tellFacts_147 (hs.2.1 106 _ rfl) (hf_lin hs 106 rfl) h.1 ?_
    replace h := h.2
    refine hf_goto (tgt := 152) dX11_tellFacts_148 (by decide) ?_
    refine hf_iast dX11_tellFacts_152 (hs.2.1 133 _ rfl) (hf_lin hs 133 rfl) h.1 ?_
    replace h := h.2
    refine hf_iinc (v := (x3 + 1)) (l2 := [some (.ref 100), none, some (.ref 133), some (.int (x3 + 1)), some (.int x4)]) dX11_tellFacts_153 (by decide) rfl rfl rfl ?_
    refine hf_goto (tgt := 78) dX11_tellFacts_156 (by decide) ?_
    refine hf_drop (l' := [some (.ref 100), none, some (.ref 133), some (.int (x3 + 1)), none]) (by simp [hf_sub]) ?_
    exact h

set_option maxHeartbeats 4000000 in
theorem w_X11_powerOfTen_0 {X : hf_X} {d k n t : Nat} {T : hf_T} {I : hf_I} {L : hf_L} {P : hf_P} {Q : Option Value → hf_M → Prop} {x0 : Int32} (hs : hf_Lay t T P) (h : hf_G X Y_X11_powerOfTen d k n 4 [some (.int x0), some (.int 1), some (.int 0)] [] (t, T, I, L, P) Q) : hf_G X Y_X11_powerOfTen d k n 0 (hf_en [.int x0] 3) [] (t, T, I, L, P) Q := by
  show hf_G X Y_X11_powerOfTen d k n 0 [some (.int x0), none, none] [] (t, T, I, L, P) Q
  refine hf_iconst (v := 1) dX11_powerOfTen_0 (by decide) ?_
  refine hf_istore_n (l2 := [some (.int x0), some (.int 1), none]) dX11_powerOfTen_1 rfl (by decide) rfl ?_
  refine hf_iconst (v := 0) dX11_powerOfTen_2 (by decide) ?_
  refine hf_istore_n (l2 := [some (.int x0), some (.int 1), some (.int 0)]) dX11_powerOfTen_3 rfl (by decide) rfl ?_
  exact h

set_option maxHeartbeats 4000000 in
theorem w_X11_powerOfTen_4 {X : hf_X} {d k n t : Nat} {T : hf_T} {I : hf_I} {L : hf_L} {P : hf_P} {Q : Option Value → hf_M → Prop} {x0 : Int32} {x1 : Int32} {x2 : Int32} (hs : hf_Lay t T P) (h : (x0 ≤ x2 → Q (some (.int x1)) (t, T, I, L, P)) ∧ (¬ (x0 ≤ x2) → hf_G X Y_X11_powerOfTen d k n 4 [some (.int x0), some (.int (x1 * 10)), some (.int (x2 + 1))] [] (t, T, I, L, P) Q)) : hf_G X Y_X11_powerOfTen d k n 4 [some (.int x0), some (.int x1), some (.int x2)] [] (t, T, I, L, P) Q := by
  refine hf_iload_n dX11_powerOfTen_4 rfl rfl ?_
  refine hf_iload_n dX11_powerOfTen_5 rfl rfl ?_
  refine hf_icmp_ge (tgt := 20) dX11_powerOfTen_6 (by decide) (fun hc => ?_) (fun hc => ?_)
  · replace h := h.1 hc
    refine hf_iload_n dX11_powerOfTen_20 rfl rfl ?_
    refine hf_ireturn dX11_powerOfTen_21 rfl rfl ?_
    exact h
  · replace h := h.2 hc
    refine hf_iload_n dX11_powerOfTen_9 rfl rfl ?_
    refine hf_bipush (v := 10) dX11_powerOfTen_10 (by decide) ?_
    refine hf_imul dX11_powerOfTen_12 ?_
    refine hf_istore_n (l2 := [some (.int x0), some (.int (x1 * 10)), some (.int x2)]) dX11_powerOfTen_13 rfl (by decide) rfl ?_
    refine hf_iinc (v := (x2 + 1)) (l2 := [some (.int x0), some (.int (x1 * 10)), some (.int (x2 + 1))]) dX11_powerOfTen_14 (by decide) rfl rfl rfl ?_
    refine hf_goto (tgt := 4) dX11_powerOfTen_17 (by decide) ?_
    exact h

set_option maxHeartbeats 4000000 in
theorem w_X11_commonDivisor_0 {X : hf_X} {d k n t : Nat} {T : hf_T} {I : hf_I} {L : hf_L} {P : hf_P} {Q : Option Value → hf_M → Prop} {x0 : Int32} {x1 : Int32} (hs : hf_Lay t T P) (h : hf_G X Y_X11_commonDivisor d k n 7 [none, none, some (.int x0), some (.int x1), some (.int 0), none] [] (t, T, I, L, P) Q) : hf_G X Y_X11_commonDivisor d k n 0 (hf_en [.int x0, .int x1] 6) [] (t, T, I, L, P) Q := by
  show hf_G X Y_X11_commonDivisor d k n 0 [some (.int x0), some (.int x1), none, none, none, none] [] (t, T, I, L, P) Q
  refine hf_iload_n dX11_commonDivisor_0 rfl rfl ?_
  refine hf_istore_n (l2 := [some (.int x0), some (.int x1), some (.int x0), none, none, none]) dX11_commonDivisor_1 rfl (by decide) rfl ?_
  refine hf_iload_n dX11_commonDivisor_2 rfl rfl ?_
  refine hf_istore_n (l2 := [some (.int x0), some (.int x1), some (.int x0), some (.int x1), none, none]) dX11_commonDivisor_3 rfl (by decide) rfl ?_
  refine hf_iconst (v := 0) dX11_commonDivisor_4 (by decide) ?_
  refine hf_istore (l2 := [some (.int x0), some (.int x1), some (.int x0), some (.int x1), some (.int 0), none]) dX11_commonDivisor_5 (by decide) rfl ?_
  refine hf_drop (l' := [none, none, some (.int x0), some (.int x1), some (.int 0), none]) (by simp [hf_sub]) ?_
  exact h

set_option maxHeartbeats 4000000 in
theorem w_X11_commonDivisor_7 {X : hf_X} {d k n t : Nat} {T : hf_T} {I : hf_I} {L : hf_L} {P : hf_P} {Q : Option Value → hf_M → Prop} {x2 : Int32} {x3 : Int32} {x4 : Int32} (hs : hf_Lay t T P) (h : (64 ≤ x4 → Q (some (.int (if 1 < x2 then x2 else 1))) (t, T, I, L, P)) ∧ (¬ (64 ≤ x4) → (x3 = 0 → Q (some (.int (if 1 < x2 then x2 else 1))) (t, T, I, L, P)) ∧ (¬ (x3 = 0) → ¬ x3 = 0 ∧ (hf_G X Y_X11_commonDivisor (d + 1) k n 7 [none, none, some (.int x3), some (.int (x2 - x2 / x3 * x3)), some (.int (x4 + 1)), none] [] (t, T, I, L, P) Q)))) : hf_G X Y_X11_commonDivisor (d + 1) k n 7 [none, none, some (.int x2), some (.int x3), some (.int x4), none] [] (t, T, I, L, P) Q := by
  refine hf_iload dX11_commonDivisor_7 rfl ?_
  refine hf_bipush (v := 64) dX11_commonDivisor_9 (by decide) ?_
  refine hf_icmp_ge (tgt := 34) dX11_commonDivisor_11 (by decide) (fun hc => ?_) (fun hc => ?_)
  · replace h := h.1 hc
    refine hf_iconst (v := 1) dX11_commonDivisor_34 (by decide) ?_
    refine hf_iload_n dX11_commonDivisor_35 rfl rfl ?_
    refine hf_mmax dX11_commonDivisor_36 hw905 (Nat.le_of_ble_eq_true rfl) ?_
    refine hf_ireturn dX11_commonDivisor_39 rfl rfl ?_
    exact h
  · replace h := h.2 hc
    refine hf_iload_n dX11_commonDivisor_14 rfl rfl ?_
    refine hf_if_eq (tgt := 34) dX11_commonDivisor_15 (by decide) (fun hc => ?_) (fun hc => ?_)
    · replace h := h.1 hc
      refine hf_iconst (v := 1) dX11_commonDivisor_34 (by decide) ?_
      refine hf_iload_n dX11_commonDivisor_35 rfl rfl ?_
      refine hf_mmax dX11_commonDivisor_36 hw905 (Nat.le_of_ble_eq_true rfl) ?_
      refine hf_ireturn dX11_commonDivisor_39 rfl rfl ?_
      exact h
    · replace h := h.2 hc
      refine hf_iload_n dX11_commonDivisor_18 rfl rfl ?_
      refine hf_iload_n dX11_commonDivisor_19 rfl rfl ?_
      refine hf_irem dX11_commonDivisor_20 h.1 ?_
      replace h := h.2
      refine hf_istore (l2 := [none, none, some (.int x2), some (.int x3), some (.int x4), some (.int (x2 - x2 / x3 * x3))]) dX11_commonDivisor_21 (by decide) rfl ?_
      refine hf_iload_n dX11_commonDivisor_23 rfl rfl ?_
      refine hf_istore_n (l2 := [none, none, some (.int x3), some (.int x3), some (.int x4), some (.int (x2 - x2 / x3 * x3))]) dX11_commonDivisor_24 rfl (by decide) rfl ?_
      refine hf_iload dX11_commonDivisor_25 rfl ?_
      refine hf_istore_n (l2 := [none, none, some (.int x3), some (.int (x2 - x2 / x3 * x3)), some (.int x4), some (.int (x2 - x2 / x3 * x3))]) dX11_commonDivisor_27 rfl (by decide) rfl ?_
      refine hf_iinc (v := (x4 + 1)) (l2 := [none, none, some (.int x3), some (.int (x2 - x2 / x3 * x3)), some (.int (x4 + 1)), some (.int (x2 - x2 / x3 * x3))]) dX11_commonDivisor_28 (by decide) rfl rfl rfl ?_
      refine hf_goto (tgt := 7) dX11_commonDivisor_31 (by decide) ?_
      refine hf_drop (l' := [none, none, some (.int x3), some (.int (x2 - x2 / x3 * x3)), some (.int (x4 + 1)), none]) (by simp [hf_sub]) ?_
      exact h

set_option maxHeartbeats 4000000 in
theorem w_X11_costKey_0 {X : hf_X} {d k n t : Nat} {T : hf_T} {I : hf_I} {L : hf_L} {P : hf_P} {Q : Option Value → hf_M → Prop} {x0 : Int32} (hs : hf_Lay t T P) (h : Q (some (.long (x0.toInt64 <<< ((30 : Int32).toInt64 &&& 63)))) (t, T, I, L, P)) : hf_G X Y_X11_costKey d k n 0 (hf_en [.int x0] 1) [] (t, T, I, L, P) Q := by
  show hf_G X Y_X11_costKey d k n 0 [some (.int x0)] [] (t, T, I, L, P) Q
  refine hf_iload_n dX11_costKey_0 rfl rfl ?_
  refine hf_i2l dX11_costKey_1 ?_
  refine hf_bipush (v := 30) dX11_costKey_2 (by decide) ?_
  refine hf_lshl dX11_costKey_4 rfl ?_
  refine hf_lreturn dX11_costKey_5 rfl ?_
  exact h

set_option maxHeartbeats 4000000 in
theorem w_X11_wordKey_0 {X : hf_X} {d k n t : Nat} {T : hf_T} {I : hf_I} {L : hf_L} {P : hf_P} {Q : Option Value → hf_M → Prop} {x0 : Int32} {x1 : Int32} (hs : hf_Lay t T P) (h : Q (some (.long (x1.toInt64 <<< ((6 + (4 * (5 - x0))).toInt64 &&& 63)))) (t, T, I, L, P)) : hf_G X Y_X11_wordKey d k n 0 (hf_en [.int x0, .int x1] 2) [] (t, T, I, L, P) Q := by
  show hf_G X Y_X11_wordKey d k n 0 [some (.int x0), some (.int x1)] [] (t, T, I, L, P) Q
  refine hf_iload_n dX11_wordKey_0 rfl rfl ?_
  refine hf_i2l dX11_wordKey_1 ?_
  refine hf_bipush (v := 6) dX11_wordKey_2 (by decide) ?_
  refine hf_iconst (v := 4) dX11_wordKey_4 (by decide) ?_
  refine hf_iconst (v := 5) dX11_wordKey_5 (by decide) ?_
  refine hf_iload_n dX11_wordKey_6 rfl rfl ?_
  refine hf_isub dX11_wordKey_7 ?_
  refine hf_imul dX11_wordKey_8 ?_
  refine hf_iadd dX11_wordKey_9 ?_
  refine hf_lshl dX11_wordKey_10 rfl ?_
  refine hf_lreturn dX11_wordKey_11 rfl ?_
  exact h

set_option maxHeartbeats 4000000 in
theorem w_X11_turnKey_0 {X : hf_X} {d k n t : Nat} {T : hf_T} {I : hf_I} {L : hf_L} {P : hf_P} {Q : Option Value → hf_M → Prop} {x0 : Int32} (hs : hf_Lay t T P) (h : Q (some (.long (1 <<< ((5 - x0).toInt64 &&& 63)))) (t, T, I, L, P)) : hf_G X Y_X11_turnKey d k n 0 (hf_en [.int x0] 1) [] (t, T, I, L, P) Q := by
  show hf_G X Y_X11_turnKey d k n 0 [some (.int x0)] [] (t, T, I, L, P) Q
  refine hf_lconst (v := 1) dX11_turnKey_0 (by decide) ?_
  refine hf_iconst (v := 5) dX11_turnKey_1 (by decide) ?_
  refine hf_iload_n dX11_turnKey_2 rfl rfl ?_
  refine hf_isub dX11_turnKey_3 ?_
  refine hf_lshl dX11_turnKey_4 rfl ?_
  refine hf_lreturn dX11_turnKey_5 rfl ?_
  exact h

set_option maxHeartbeats 4000000 in
theorem w_X11_costIn_0 {X : hf_X} {d k n t : Nat} {T : hf_T} {I : hf_I} {L : hf_L} {P : hf_P} {Q : Option Value → hf_M → Prop} {x0 : Int64} (hs : hf_Lay t T P) (h : Q (some (.int ((x0 >>> ((30 : Int32).toInt64 &&& 63)).toInt32))) (t, T, I, L, P)) : hf_G X Y_X11_costIn d k n 0 (hf_en [.long x0] 2) [] (t, T, I, L, P) Q := by
  show hf_G X Y_X11_costIn d k n 0 [some (.long x0), none] [] (t, T, I, L, P) Q
  refine hf_lload_n dX11_costIn_0 rfl rfl ?_
  refine hf_bipush (v := 30) dX11_costIn_1 (by decide) ?_
  refine hf_lshr dX11_costIn_3 rfl ?_
  refine hf_l2i dX11_costIn_4 ?_
  refine hf_ireturn dX11_costIn_5 rfl rfl ?_
  exact h

set_option maxHeartbeats 4000000 in
theorem w_X11_wordIn_0 {X : hf_X} {d k n t : Nat} {T : hf_T} {I : hf_I} {L : hf_L} {P : hf_P} {Q : Option Value → hf_M → Prop} {x0 : Int64} {x2 : Int32} (hs : hf_Lay t T P) (h : Q (some (.int ((x0 >>> ((6 + (4 * (5 - x2))).toInt64 &&& 63)).toInt32 &&& 15))) (t, T, I, L, P)) : hf_G X Y_X11_wordIn d k n 0 (hf_en [.long x0, .int x2] 3) [] (t, T, I, L, P) Q := by
  show hf_G X Y_X11_wordIn d k n 0 [some (.long x0), none, some (.int x2)] [] (t, T, I, L, P) Q
  refine hf_lload_n dX11_wordIn_0 rfl rfl ?_
  refine hf_bipush (v := 6) dX11_wordIn_1 (by decide) ?_
  refine hf_iconst (v := 4) dX11_wordIn_3 (by decide) ?_
  refine hf_iconst (v := 5) dX11_wordIn_4 (by decide) ?_
  refine hf_iload_n dX11_wordIn_5 rfl rfl ?_
  refine hf_isub dX11_wordIn_6 ?_
  refine hf_imul dX11_wordIn_7 ?_
  refine hf_iadd dX11_wordIn_8 ?_
  refine hf_lshr dX11_wordIn_9 rfl ?_
  refine hf_l2i dX11_wordIn_10 ?_
  refine hf_bipush (v := 15) dX11_wordIn_11 (by decide) ?_
  refine hf_iand dX11_wordIn_13 ?_
  refine hf_ireturn dX11_wordIn_14 rfl rfl ?_
  exact h

set_option maxHeartbeats 4000000 in
theorem w_X11_turnsIn_0 {X : hf_X} {d k n t : Nat} {T : hf_T} {I : hf_I} {L : hf_L} {P : hf_P} {Q : Option Value → hf_M → Prop} {x0 : Int64} {x2 : Int32} (hs : hf_Lay t T P) (h : ((lg_cmp (x0 &&& (1 <<< ((5 - x2).toInt64 &&& 63))) 0) = 0 → Q (some (.int 0)) (t, T, I, L, P)) ∧ (¬ ((lg_cmp (x0 &&& (1 <<< ((5 - x2).toInt64 &&& 63))) 0) = 0) → Q (some (.int 1)) (t, T, I, L, P))) : hf_G X Y_X11_turnsIn (d + 1) k n 0 (hf_en [.long x0, .int x2] 3) [] (t, T, I, L, P) Q := by
  show hf_G X Y_X11_turnsIn (d + 1) k n 0 [some (.long x0), none, some (.int x2)] [] (t, T, I, L, P) Q
  refine hf_lload_n dX11_turnsIn_0 rfl rfl ?_
  refine hf_iload_n dX11_turnsIn_1 rfl rfl ?_
  refine hf_callS (as := [.int x2]) ok_X11_turnKey dX11_turnsIn_2 hw864 hw828 rfl (Nat.le_of_ble_eq_true rfl) rfl (Nat.le_of_ble_eq_true rfl) (Nat.zero_le _) (Nat.zero_le _) ?_
  show hf_G X Y_X11_turnKey d _ _ 0 [some (.int x2)] [] (t, T, I, L, P) _
  refine hf_lconst (v := 1) dX11_turnKey_0 (by decide) ?_
  refine hf_iconst (v := 5) dX11_turnKey_1 (by decide) ?_
  refine hf_iload_n dX11_turnKey_2 rfl rfl ?_
  refine hf_isub dX11_turnKey_3 ?_
  refine hf_lshl dX11_turnKey_4 rfl ?_
  refine hf_lreturn dX11_turnKey_5 rfl ?_
  show hf_G X Y_X11_turnsIn (d + 1) _ _ 5 [some (.long x0), none, some (.int x2)] [.long (1 <<< ((5 - x2).toInt64 &&& 63)), .long x0] (t, T, I, L, P) _
  refine hf_land dX11_turnsIn_5 ?_
  refine hf_lconst (v := 0) dX11_turnsIn_6 (by decide) ?_
  refine hf_lcmp dX11_turnsIn_7 ?_
  refine hf_if_eq (tgt := 15) dX11_turnsIn_8 (by decide) (fun hc => ?_) (fun hc => ?_)
  · replace h := h.1 hc
    refine hf_iconst (v := 0) dX11_turnsIn_15 (by decide) ?_
    refine hf_ireturn dX11_turnsIn_16 rfl (by decide) ?_
    exact h
  · replace h := h.2 hc
    refine hf_iconst (v := 1) dX11_turnsIn_11 (by decide) ?_
    refine hf_goto (tgt := 16) dX11_turnsIn_12 (by decide) ?_
    refine hf_ireturn dX11_turnsIn_16 rfl (by decide) ?_
    exact h

set_option maxHeartbeats 4000000 in
theorem w_X11_linesIn_0 {X : hf_X} {d k n t : Nat} {T : hf_T} {I : hf_I} {L : hf_L} {P : hf_P} {Q : Option Value → hf_M → Prop} {x0 : Int64} (hs : hf_Lay t T P) (h : hf_G X Y_J13_bitCount_95d88 d 0 0 0 (hf_en [.long (x0 &&& 63)] 2) [] (t, T, I, L, P) (fun r M => hf_G X Y_X11_linesIn (d + 1) k n 9 [none, none] (r.toList ++ [.int 1]) M Q)) : hf_G X Y_X11_linesIn (d + 1) k n 0 (hf_en [.long x0] 2) [] (t, T, I, L, P) Q := by
  show hf_G X Y_X11_linesIn (d + 1) k n 0 [some (.long x0), none] [] (t, T, I, L, P) Q
  refine hf_iconst (v := 1) dX11_linesIn_0 (by decide) ?_
  refine hf_lload_n dX11_linesIn_1 rfl rfl ?_
  refine hf_ldc2 (v := 63) dX11_linesIn_2 hw874 ?_
  refine hf_land dX11_linesIn_5 ?_
  exact hf_callS (as := [.long (x0 &&& 63)]) ok_J13_bitCount_95d88 dX11_linesIn_6 hw875 hw876 rfl (Nat.le_of_ble_eq_true rfl) rfl (Nat.le_of_ble_eq_true rfl) (Nat.zero_le _) (Nat.zero_le _) (hf_mono (fun r M q => hf_drop (l' := [none, none]) (by simp [hf_sub]) q) h)

set_option maxHeartbeats 4000000 in
theorem w_X11_linesIn_9 {X : hf_X} {d k n t : Nat} {T : hf_T} {I : hf_I} {L : hf_L} {P : hf_P} {Q : Option Value → hf_M → Prop} {s0 : Int32} {s1 : Int32} (hs : hf_Lay t T P) (h : Q (some (.int (s1 + s0))) (t, T, I, L, P)) : hf_G X Y_X11_linesIn d k n 9 [none, none] [.int s0, .int s1] (t, T, I, L, P) Q := by
  refine hf_iadd dX11_linesIn_9 ?_
  refine hf_ireturn dX11_linesIn_10 rfl rfl ?_
  exact h

set_option maxHeartbeats 4000000 in
theorem w_X11_toldIn_0 {X : hf_X} {d k n t : Nat} {T : hf_T} {I : hf_I} {L : hf_L} {P : hf_P} {Q : Option Value → hf_M → Prop} {x1 : Int64} {x3 : Int32} (hs : hf_Lay t T P) (h : (9 ≤ x3 → (x3 < 3 → Q (some (.int (-1))) (t, T, I, L, P)) ∧ (¬ (x3 < 3) → (14 < x3 → Q (some (.int (-1))) (t, T, I, L, P)) ∧ (¬ (14 < x3) → ((x3 - 9) < (I 101 17) → (9 ≤ x3 → ((lg_cmp (x1 &&& (1 <<< ((5 - (x3 - 9)).toInt64 &&& 63))) 0) = 0 → Q (some (.int 0)) (t, T, I, L, P)) ∧ (¬ ((lg_cmp (x1 &&& (1 <<< ((5 - (x3 - 9)).toInt64 &&& 63))) 0) = 0) → Q (some (.int 1)) (t, T, I, L, P))) ∧ (¬ (9 ≤ x3) → Q (some (.int ((x1 >>> ((6 + (4 * (5 - (x3 - 9)))).toInt64 &&& 63)).toInt32 &&& 15))) (t, T, I, L, P))) ∧ (¬ ((x3 - 9) < (I 101 17)) → Q (some (.int (-1))) (t, T, I, L, P))))) ∧ (¬ (9 ≤ x3) → (x3 < 3 → Q (some (.int (-1))) (t, T, I, L, P)) ∧ (¬ (x3 < 3) → (14 < x3 → Q (some (.int (-1))) (t, T, I, L, P)) ∧ (¬ (14 < x3) → ((x3 - 3) < (I 101 17) → (9 ≤ x3 → ((lg_cmp (x1 &&& (1 <<< ((5 - (x3 - 3)).toInt64 &&& 63))) 0) = 0 → Q (some (.int 0)) (t, T, I, L, P)) ∧ (¬ ((lg_cmp (x1 &&& (1 <<< ((5 - (x3 - 3)).toInt64 &&& 63))) 0) = 0) → Q (some (.int 1)) (t, T, I, L, P))) ∧ (¬ (9 ≤ x3) → Q (some (.int ((x1 >>> ((6 + (4 * (5 - (x3 - 3)))).toInt64 &&& 63)).toInt32 &&& 15))) (t, T, I, L, P))) ∧ (¬ ((x3 - 3) < (I 101 17)) → Q (some (.int (-1))) (t, T, I, L, P)))))) : hf_G X Y_X11_toldIn (d + 2) k n 0 (hf_en [.ref 100, .long x1, .int x3] 5) [] (t, T, I, L, P) Q := by
  show hf_G X Y_X11_toldIn (d + 2) k n 0 [some (.ref 100), some (.long x1), none, some (.int x3), none] [] (t, T, I, L, P) Q
  refine hf_iload_n dX11_toldIn_0 rfl rfl ?_
  refine hf_bipush (v := 9) dX11_toldIn_1 (by decide) ?_
  refine hf_icmp_ge (tgt := 12) dX11_toldIn_3 (by decide) (fun hc => ?_) (fun hc => ?_)
  · replace h := h.1 hc
    refine hf_iload_n dX11_toldIn_12 rfl rfl ?_
    refine hf_bipush (v := 9) dX11_toldIn_13 (by decide) ?_
    refine hf_isub dX11_toldIn_15 ?_
    refine hf_istore (l2 := [some (.ref 100), some (.long x1), none, some (.int x3), some (.int (x3 - 9))]) dX11_toldIn_16 (by decide) rfl ?_
    refine hf_iload_n dX11_toldIn_18 rfl rfl ?_
    refine hf_iconst (v := 3) dX11_toldIn_19 (by decide) ?_
    refine hf_bipush (v := 14) dX11_toldIn_20 (by decide) ?_
    refine hf_callS (as := [.int x3, .int 3, .int 14]) ok_X11_within dX11_toldIn_22 hw405 hw406 rfl (Nat.le_of_ble_eq_true rfl) rfl (Nat.le_of_ble_eq_true rfl) (Nat.zero_le _) (Nat.zero_le _) ?_
    show hf_G X Y_X11_within (d + 1) _ _ 0 [some (.int x3), some (.int 3), some (.int 14)] [] (t, T, I, L, P) _
    refine hf_iload_n dX11_within_0 rfl rfl ?_
    refine hf_iload_n dX11_within_1 rfl rfl ?_
    refine hf_icmp_lt (tgt := 14) dX11_within_2 (by decide) (fun hc => ?_) (fun hc => ?_)
    · replace h := h.1 hc
      refine hf_iconst (v := 0) dX11_within_14 (by decide) ?_
      refine hf_ireturn dX11_within_15 rfl (by decide) ?_
      show hf_G X Y_X11_toldIn (d + 2) _ _ 25 [some (.ref 100), some (.long x1), none, some (.int x3), some (.int (x3 - 9))] [.int 0] (t, T, I, L, P) _
      refine hf_if_eq (tgt := 40) dX11_toldIn_25 (by decide) (fun _ => ?_) (fun hc => absurd (show (0 : Int32) = (0 : Int32) by decide) hc)
      refine hf_iconst (v := (-1)) dX11_toldIn_40 (by decide) ?_
      refine hf_ireturn dX11_toldIn_41 rfl rfl ?_
      exact h
    · replace h := h.2 hc
      refine hf_iload_n dX11_within_5 rfl rfl ?_
      refine hf_iload_n dX11_within_6 rfl rfl ?_
      refine hf_icmp_gt (tgt := 14) dX11_within_7 (by decide) (fun hc => ?_) (fun hc => ?_)
      · replace h := h.1 hc
        refine hf_iconst (v := 0) dX11_within_14 (by decide) ?_
        refine hf_ireturn dX11_within_15 rfl (by decide) ?_
        show hf_G X Y_X11_toldIn (d + 2) _ _ 25 [some (.ref 100), some (.long x1), none, some (.int x3), some (.int (x3 - 9))] [.int 0] (t, T, I, L, P) _
        refine hf_if_eq (tgt := 40) dX11_toldIn_25 (by decide) (fun _ => ?_) (fun hc => absurd (show (0 : Int32) = (0 : Int32) by decide) hc)
        refine hf_iconst (v := (-1)) dX11_toldIn_40 (by decide) ?_
        refine hf_ireturn dX11_toldIn_41 rfl rfl ?_
        exact h
      · replace h := h.2 hc
        refine hf_iconst (v := 1) dX11_within_10 (by decide) ?_
        refine hf_goto (tgt := 15) dX11_within_11 (by decide) ?_
        refine hf_ireturn dX11_within_15 rfl (by decide) ?_
        show hf_G X Y_X11_toldIn (d + 2) _ _ 25 [some (.ref 100), some (.long x1), none, some (.int x3), some (.int (x3 - 9))] [.int 1] (t, T, I, L, P) _
        refine hf_if_eq (tgt := 40) dX11_toldIn_25 (by decide) (fun hc => absurd (show (1 : Int32) = (0 : Int32) from hc) (by decide)) (fun _ => ?_)
        refine hf_iload dX11_toldIn_28 rfl ?_
        refine hf_aload_n dX11_toldIn_30 rfl rfl ?_
        refine hf_getr (b := 101) (c := 11) (j := 0) dX11_toldIn_31 (hs.2.1 100 _ rfl) (hf_lin hs 100 rfl) (by decide) (by decide) hw365 rfl (hs.2.2 100 0 _ rfl) ?_
        refine hf_geti (c := 1) (j := 17) dX11_toldIn_34 (hs.2.1 101 _ rfl) (hf_lin hs 101 rfl) (by decide) (by decide) hw155 (Or.inl rfl) ?_
        refine hf_icmp_lt (tgt := 42) dX11_toldIn_37 (by decide) (fun hc => ?_) (fun hc => ?_)
        · replace h := h.1 hc
          refine hf_iload_n dX11_toldIn_42 rfl rfl ?_
          refine hf_bipush (v := 9) dX11_toldIn_43 (by decide) ?_
          refine hf_icmp_ge (tgt := 55) dX11_toldIn_45 (by decide) (fun hc => ?_) (fun hc => ?_)
          · replace h := h.1 hc
            refine hf_lload_n dX11_toldIn_55 rfl rfl ?_
            refine hf_iload dX11_toldIn_56 rfl ?_
            refine hf_callS (as := [.long x1, .int (x3 - 9)]) ok_X11_turnsIn dX11_toldIn_58 hw885 hw862 rfl (Nat.le_of_ble_eq_true rfl) rfl (Nat.le_of_ble_eq_true rfl) (Nat.zero_le _) (Nat.zero_le _) ?_
            show hf_G X Y_X11_turnsIn (d + 1) _ _ 0 [some (.long x1), none, some (.int (x3 - 9))] [] (t, T, I, L, P) _
            refine hf_lload_n dX11_turnsIn_0 rfl rfl ?_
            refine hf_iload_n dX11_turnsIn_1 rfl rfl ?_
            refine hf_callS (as := [.int (x3 - 9)]) ok_X11_turnKey dX11_turnsIn_2 hw864 hw828 rfl (Nat.le_of_ble_eq_true rfl) rfl (Nat.le_of_ble_eq_true rfl) (Nat.zero_le _) (Nat.zero_le _) ?_
            show hf_G X Y_X11_turnKey d _ _ 0 [some (.int (x3 - 9))] [] (t, T, I, L, P) _
            refine hf_lconst (v := 1) dX11_turnKey_0 (by decide) ?_
            refine hf_iconst (v := 5) dX11_turnKey_1 (by decide) ?_
            refine hf_iload_n dX11_turnKey_2 rfl rfl ?_
            refine hf_isub dX11_turnKey_3 ?_
            refine hf_lshl dX11_turnKey_4 rfl ?_
            refine hf_lreturn dX11_turnKey_5 rfl ?_
            show hf_G X Y_X11_turnsIn (d + 1) _ _ 5 [some (.long x1), none, some (.int (x3 - 9))] [.long (1 <<< ((5 - (x3 - 9)).toInt64 &&& 63)), .long x1] (t, T, I, L, P) _
            refine hf_land dX11_turnsIn_5 ?_
            refine hf_lconst (v := 0) dX11_turnsIn_6 (by decide) ?_
            refine hf_lcmp dX11_turnsIn_7 ?_
            refine hf_if_eq (tgt := 15) dX11_turnsIn_8 (by decide) (fun hc => ?_) (fun hc => ?_)
            · replace h := h.1 hc
              refine hf_iconst (v := 0) dX11_turnsIn_15 (by decide) ?_
              refine hf_ireturn dX11_turnsIn_16 rfl (by decide) ?_
              show hf_G X Y_X11_toldIn (d + 2) _ _ 61 [some (.ref 100), some (.long x1), none, some (.int x3), some (.int (x3 - 9))] [.int 0] (t, T, I, L, P) _
              refine hf_if_eq (tgt := 68) dX11_toldIn_61 (by decide) (fun _ => ?_) (fun hc => absurd (show (0 : Int32) = (0 : Int32) by decide) hc)
              refine hf_iconst (v := 0) dX11_toldIn_68 (by decide) ?_
              refine hf_ireturn dX11_toldIn_69 rfl rfl ?_
              exact h
            · replace h := h.2 hc
              refine hf_iconst (v := 1) dX11_turnsIn_11 (by decide) ?_
              refine hf_goto (tgt := 16) dX11_turnsIn_12 (by decide) ?_
              refine hf_ireturn dX11_turnsIn_16 rfl (by decide) ?_
              show hf_G X Y_X11_toldIn (d + 2) _ _ 61 [some (.ref 100), some (.long x1), none, some (.int x3), some (.int (x3 - 9))] [.int 1] (t, T, I, L, P) _
              refine hf_if_eq (tgt := 68) dX11_toldIn_61 (by decide) (fun hc => absurd (show (1 : Int32) = (0 : Int32) from hc) (by decide)) (fun _ => ?_)
              refine hf_iconst (v := 1) dX11_toldIn_64 (by decide) ?_
              refine hf_goto (tgt := 69) dX11_toldIn_65 (by decide) ?_
              refine hf_ireturn dX11_toldIn_69 rfl rfl ?_
              exact h
          · replace h := h.2 hc
            refine hf_lload_n dX11_toldIn_48 rfl rfl ?_
            refine hf_iload dX11_toldIn_49 rfl ?_
            refine hf_callS (as := [.long x1, .int (x3 - 9)]) ok_X11_wordIn dX11_toldIn_51 hw884 hw860 rfl (Nat.le_of_ble_eq_true rfl) rfl (Nat.le_of_ble_eq_true rfl) (Nat.zero_le _) (Nat.zero_le _) ?_
            show hf_G X Y_X11_wordIn (d + 1) _ _ 0 [some (.long x1), none, some (.int (x3 - 9))] [] (t, T, I, L, P) _
            refine hf_lload_n dX11_wordIn_0 rfl rfl ?_
            refine hf_bipush (v := 6) dX11_wordIn_1 (by decide) ?_
            refine hf_iconst (v := 4) dX11_wordIn_3 (by decide) ?_
            refine hf_iconst (v := 5) dX11_wordIn_4 (by decide) ?_
            refine hf_iload_n dX11_wordIn_5 rfl rfl ?_
            refine hf_isub dX11_wordIn_6 ?_
            refine hf_imul dX11_wordIn_7 ?_
            refine hf_iadd dX11_wordIn_8 ?_
            refine hf_lshr dX11_wordIn_9 rfl ?_
            refine hf_l2i dX11_wordIn_10 ?_
            refine hf_bipush (v := 15) dX11_wordIn_11 (by decide) ?_
            refine hf_iand dX11_wordIn_13 ?_
            refine hf_ireturn dX11_wordIn_14 rfl rfl ?_
            show hf_G X Y_X11_toldIn (d + 2) _ _ 54 [some (.ref 100), some (.long x1), none, some (.int x3), some (.int (x3 - 9))] [.int ((x1 >>> ((6 + (4 * (5 - (x3 - 9)))).toInt64 &&& 63)).toInt32 &&& 15)] (t, T, I, L, P) _
            refine hf_ireturn dX11_toldIn_54 rfl rfl ?_
            exact h
        · replace h := h.2 hc
          refine hf_iconst (v := (-1)) dX11_toldIn_40 (by decide) ?_
          refine hf_ireturn dX11_toldIn_41 rfl rfl ?_
          exact h
  · replace h := h.2 hc
    refine hf_iload_n dX11_toldIn_6 rfl rfl ?_
    refine hf_iconst (v := 3) dX11_toldIn_7 (by decide) ?_
    refine hf_isub dX11_toldIn_8 ?_
    refine hf_goto (tgt := 16) dX11_toldIn_9 (by decide) ?_
    refine hf_istore (l2 := [some (.ref 100), some (.long x1), none, some (.int x3), some (.int (x3 - 3))]) dX11_toldIn_16 (by decide) rfl ?_
    refine hf_iload_n dX11_toldIn_18 rfl rfl ?_
    refine hf_iconst (v := 3) dX11_toldIn_19 (by decide) ?_
    refine hf_bipush (v := 14) dX11_toldIn_20 (by decide) ?_
    refine hf_callS (as := [.int x3, .int 3, .int 14]) ok_X11_within dX11_toldIn_22 hw405 hw406 rfl (Nat.le_of_ble_eq_true rfl) rfl (Nat.le_of_ble_eq_true rfl) (Nat.zero_le _) (Nat.zero_le _) ?_
    show hf_G X Y_X11_within (d + 1) _ _ 0 [some (.int x3), some (.int 3), some (.int 14)] [] (t, T, I, L, P) _
    refine hf_iload_n dX11_within_0 rfl rfl ?_
    refine hf_iload_n dX11_within_1 rfl rfl ?_
    refine hf_icmp_lt (tgt := 14) dX11_within_2 (by decide) (fun hc => ?_) (fun hc => ?_)
    · replace h := h.1 hc
      refine hf_iconst (v := 0) dX11_within_14 (by decide) ?_
      refine hf_ireturn dX11_within_15 rfl (by decide) ?_
      show hf_G X Y_X11_toldIn (d + 2) _ _ 25 [some (.ref 100), some (.long x1), none, some (.int x3), some (.int (x3 - 3))] [.int 0] (t, T, I, L, P) _
      refine hf_if_eq (tgt := 40) dX11_toldIn_25 (by decide) (fun _ => ?_) (fun hc => absurd (show (0 : Int32) = (0 : Int32) by decide) hc)
      refine hf_iconst (v := (-1)) dX11_toldIn_40 (by decide) ?_
      refine hf_ireturn dX11_toldIn_41 rfl rfl ?_
      exact h
    · replace h := h.2 hc
      refine hf_iload_n dX11_within_5 rfl rfl ?_
      refine hf_iload_n dX11_within_6 rfl rfl ?_
      refine hf_icmp_gt (tgt := 14) dX11_within_7 (by decide) (fun hc => ?_) (fun hc => ?_)
      · replace h := h.1 hc
        refine hf_iconst (v := 0) dX11_within_14 (by decide) ?_
        refine hf_ireturn dX11_within_15 rfl (by decide) ?_
        show hf_G X Y_X11_toldIn (d + 2) _ _ 25 [some (.ref 100), some (.long x1), none, some (.int x3), some (.int (x3 - 3))] [.int 0] (t, T, I, L, P) _
        refine hf_if_eq (tgt := 40) dX11_toldIn_25 (by decide) (fun _ => ?_) (fun hc => absurd (show (0 : Int32) = (0 : Int32) by decide) hc)
        refine hf_iconst (v := (-1)) dX11_toldIn_40 (by decide) ?_
        refine hf_ireturn dX11_toldIn_41 rfl rfl ?_
        exact h
      · replace h := h.2 hc
        refine hf_iconst (v := 1) dX11_within_10 (by decide) ?_
        refine hf_goto (tgt := 15) dX11_within_11 (by decide) ?_
        refine hf_ireturn dX11_within_15 rfl (by decide) ?_
        show hf_G X Y_X11_toldIn (d + 2) _ _ 25 [some (.ref 100), some (.long x1), none, some (.int x3), some (.int (x3 - 3))] [.int 1] (t, T, I, L, P) _
        refine hf_if_eq (tgt := 40) dX11_toldIn_25 (by decide) (fun hc => absurd (show (1 : Int32) = (0 : Int32) from hc) (by decide)) (fun _ => ?_)
        refine hf_iload dX11_toldIn_28 rfl ?_
        refine hf_aload_n dX11_toldIn_30 rfl rfl ?_
        refine hf_getr (b := 101) (c := 11) (j := 0) dX11_toldIn_31 (hs.2.1 100 _ rfl) (hf_lin hs 100 rfl) (by decide) (by decide) hw365 rfl (hs.2.2 100 0 _ rfl) ?_
        refine hf_geti (c := 1) (j := 17) dX11_toldIn_34 (hs.2.1 101 _ rfl) (hf_lin hs 101 rfl) (by decide) (by decide) hw155 (Or.inl rfl) ?_
        refine hf_icmp_lt (tgt := 42) dX11_toldIn_37 (by decide) (fun hc => ?_) (fun hc => ?_)
        · replace h := h.1 hc
          refine hf_iload_n dX11_toldIn_42 rfl rfl ?_
          refine hf_bipush (v := 9) dX11_toldIn_43 (by decide) ?_
          refine hf_icmp_ge (tgt := 55) dX11_toldIn_45 (by decide) (fun hc => ?_) (fun hc => ?_)
          · replace h := h.1 hc
            refine hf_lload_n dX11_toldIn_55 rfl rfl ?_
            refine hf_iload dX11_toldIn_56 rfl ?_
            refine hf_callS (as := [.long x1, .int (x3 - 3)]) ok_X11_turnsIn dX11_toldIn_58 hw885 hw862 rfl (Nat.le_of_ble_eq_true rfl) rfl (Nat.le_of_ble_eq_true rfl) (Nat.zero_le _) (Nat.zero_le _) ?_
            show hf_G X Y_X11_turnsIn (d + 1) _ _ 0 [some (.long x1), none, some (.int (x3 - 3))] [] (t, T, I, L, P) _
            refine hf_lload_n dX11_turnsIn_0 rfl rfl ?_
            refine hf_iload_n dX11_turnsIn_1 rfl rfl ?_
            refine hf_callS (as := [.int (x3 - 3)]) ok_X11_turnKey dX11_turnsIn_2 hw864 hw828 rfl (Nat.le_of_ble_eq_true rfl) rfl (Nat.le_of_ble_eq_true rfl) (Nat.zero_le _) (Nat.zero_le _) ?_
            show hf_G X Y_X11_turnKey d _ _ 0 [some (.int (x3 - 3))] [] (t, T, I, L, P) _
            refine hf_lconst (v := 1) dX11_turnKey_0 (by decide) ?_
            refine hf_iconst (v := 5) dX11_turnKey_1 (by decide) ?_
            refine hf_iload_n dX11_turnKey_2 rfl rfl ?_
            refine hf_isub dX11_turnKey_3 ?_
            refine hf_lshl dX11_turnKey_4 rfl ?_
            refine hf_lreturn dX11_turnKey_5 rfl ?_
            show hf_G X Y_X11_turnsIn (d + 1) _ _ 5 [some (.long x1), none, some (.int (x3 - 3))] [.long (1 <<< ((5 - (x3 - 3)).toInt64 &&& 63)), .long x1] (t, T, I, L, P) _
            refine hf_land dX11_turnsIn_5 ?_
            refine hf_lconst (v := 0) dX11_turnsIn_6 (by decide) ?_
            refine hf_lcmp dX11_turnsIn_7 ?_
            refine hf_if_eq (tgt := 15) dX11_turnsIn_8 (by decide) (fun hc => ?_) (fun hc => ?_)
            · replace h := h.1 hc
              refine hf_iconst (v := 0) dX11_turnsIn_15 (by decide) ?_
              refine hf_ireturn dX11_turnsIn_16 rfl (by decide) ?_
              show hf_G X Y_X11_toldIn (d + 2) _ _ 61 [some (.ref 100), some (.long x1), none, some (.int x3), some (.int (x3 - 3))] [.int 0] (t, T, I, L, P) _
              refine hf_if_eq (tgt := 68) dX11_toldIn_61 (by decide) (fun _ => ?_) (fun hc => absurd (show (0 : Int32) = (0 : Int32) by decide) hc)
              refine hf_iconst (v := 0) dX11_toldIn_68 (by decide) ?_
              refine hf_ireturn dX11_toldIn_69 rfl rfl ?_
              exact h
            · replace h := h.2 hc
              refine hf_iconst (v := 1) dX11_turnsIn_11 (by decide) ?_
              refine hf_goto (tgt := 16) dX11_turnsIn_12 (by decide) ?_
              refine hf_ireturn dX11_turnsIn_16 rfl (by decide) ?_
              show hf_G X Y_X11_toldIn (d + 2) _ _ 61 [some (.ref 100), some (.long x1), none, some (.int x3), some (.int (x3 - 3))] [.int 1] (t, T, I, L, P) _
              refine hf_if_eq (tgt := 68) dX11_toldIn_61 (by decide) (fun hc => absurd (show (1 : Int32) = (0 : Int32) from hc) (by decide)) (fun _ => ?_)
              refine hf_iconst (v := 1) dX11_toldIn_64 (by decide) ?_
              refine hf_goto (tgt := 69) dX11_toldIn_65 (by decide) ?_
              refine hf_ireturn dX11_toldIn_69 rfl rfl ?_
              exact h
          · replace h := h.2 hc
            refine hf_lload_n dX11_toldIn_48 rfl rfl ?_
            refine hf_iload dX11_toldIn_49 rfl ?_
            refine hf_callS (as := [.long x1, .int (x3 - 3)]) ok_X11_wordIn dX11_toldIn_51 hw884 hw860 rfl (Nat.le_of_ble_eq_true rfl) rfl (Nat.le_of_ble_eq_true rfl) (Nat.zero_le _) (Nat.zero_le _) ?_
            show hf_G X Y_X11_wordIn (d + 1) _ _ 0 [some (.long x1), none, some (.int (x3 - 3))] [] (t, T, I, L, P) _
            refine hf_lload_n dX11_wordIn_0 rfl rfl ?_
            refine hf_bipush (v := 6) dX11_wordIn_1 (by decide) ?_
            refine hf_iconst (v := 4) dX11_wordIn_3 (by decide) ?_
            refine hf_iconst (v := 5) dX11_wordIn_4 (by decide) ?_
            refine hf_iload_n dX11_wordIn_5 rfl rfl ?_
            refine hf_isub dX11_wordIn_6 ?_
            refine hf_imul dX11_wordIn_7 ?_
            refine hf_iadd dX11_wordIn_8 ?_
            refine hf_lshr dX11_wordIn_9 rfl ?_
            refine hf_l2i dX11_wordIn_10 ?_
            refine hf_bipush (v := 15) dX11_wordIn_11 (by decide) ?_
            refine hf_iand dX11_wordIn_13 ?_
            refine hf_ireturn dX11_wordIn_14 rfl rfl ?_
            show hf_G X Y_X11_toldIn (d + 2) _ _ 54 [some (.ref 100), some (.long x1), none, some (.int x3), some (.int (x3 - 3))] [.int ((x1 >>> ((6 + (4 * (5 - (x3 - 3)))).toInt64 &&& 63)).toInt32 &&& 15)] (t, T, I, L, P) _
            refine hf_ireturn dX11_toldIn_54 rfl rfl ?_
            exact h
        · replace h := h.2 hc
          refine hf_iconst (v := (-1)) dX11_toldIn_40 (by decide) ?_
          refine hf_ireturn dX11_toldIn_41 rfl rfl ?_
          exact h
