set_option maxHeartbeats 4000000 in
theorem w_X1_letterWidth_0 {X : hf_X} {d k n t : Nat} {T : hf_T} {I : hf_I} {L : hf_L} {P : hf_P} {Q : Option Value → hf_M → Prop} {x1 : Int32} {x2 : Int32} (hs : hf_Lay t T P) (h : vp_in x1 27 ∧ (Q (some (.int (((I 102 x1.toNatClampNeg) * (x2 + 2)) / 2))) (t, T, I, L, P))) : hf_G X Y_X1_letterWidth d k n 0 (hf_en [.ref 101, .int x1, .int x2] 3) [] (t, T, I, L, P) Q := by
  show hf_G X Y_X1_letterWidth d k n 0 [some (.ref 101), some (.int x1), some (.int x2)] [] (t, T, I, L, P) Q
  refine hf_aload_n dX1_letterWidth_0 rfl rfl ?_
  refine hf_getr (b := 102) (c := 1) (j := 0) dX1_letterWidth_1 (hs.2.1 101 _ rfl) (hf_lin hs 101 rfl) (by decide) (by decide) hw99 rfl (hs.2.2 101 0 _ rfl) ?_
  refine hf_iload_n dX1_letterWidth_4 rfl rfl ?_
  refine hf_iald dX1_letterWidth_5 (hs.2.1 102 _ rfl) (hf_lin hs 102 rfl) h.1 ?_
  replace h := h.2
  refine hf_iload_n dX1_letterWidth_6 rfl rfl ?_
  refine hf_iconst (v := 2) dX1_letterWidth_7 (by decide) ?_
  refine hf_iadd dX1_letterWidth_8 ?_
  refine hf_imul dX1_letterWidth_9 ?_
  refine hf_iconst (v := 2) dX1_letterWidth_10 (by decide) ?_
  refine hf_idiv dX1_letterWidth_11 (by decide) ?_
  refine hf_ireturn dX1_letterWidth_12 rfl rfl ?_
  exact h

set_option maxHeartbeats 4000000 in
theorem w_X1_wordWidth_0 {X : hf_X} {d k n t : Nat} {T : hf_T} {I : hf_I} {L : hf_L} {P : hf_P} {Q : Option Value → hf_M → Prop} {x1 : Int32} {x2 : Int32} (hs : hf_Lay t T P) (h : hf_G X Y_X1_wordWidth d k n 11 [some (.ref 101), some (.int x1), some (.int x2), some (.int 0), some (.int (x1 * 9)), some (.int 0)] [] (t, T, I, L, P) Q) : hf_G X Y_X1_wordWidth d k n 0 (hf_en [.ref 101, .int x1, .int x2] 6) [] (t, T, I, L, P) Q := by
  show hf_G X Y_X1_wordWidth d k n 0 [some (.ref 101), some (.int x1), some (.int x2), none, none, none] [] (t, T, I, L, P) Q
  refine hf_iconst (v := 0) dX1_wordWidth_0 (by decide) ?_
  refine hf_istore_n (l2 := [some (.ref 101), some (.int x1), some (.int x2), some (.int 0), none, none]) dX1_wordWidth_1 rfl (by decide) rfl ?_
  refine hf_iload_n dX1_wordWidth_2 rfl rfl ?_
  refine hf_bipush (v := 9) dX1_wordWidth_3 (by decide) ?_
  refine hf_imul dX1_wordWidth_5 ?_
  refine hf_istore (l2 := [some (.ref 101), some (.int x1), some (.int x2), some (.int 0), some (.int (x1 * 9)), none]) dX1_wordWidth_6 (by decide) rfl ?_
  refine hf_iconst (v := 0) dX1_wordWidth_8 (by decide) ?_
  refine hf_istore (l2 := [some (.ref 101), some (.int x1), some (.int x2), some (.int 0), some (.int (x1 * 9)), some (.int 0)]) dX1_wordWidth_9 (by decide) rfl ?_
  exact h

set_option maxHeartbeats 4000000 in
theorem w_X1_wordWidth_11 {X : hf_X} {d k n t : Nat} {T : hf_T} {I : hf_I} {L : hf_L} {P : hf_P} {Q : Option Value → hf_M → Prop} {x1 : Int32} {x2 : Int32} {x3 : Int32} {x4 : Int32} {x5 : Int32} (hs : hf_Lay t T P) (h : vp_in x1 16 ∧ (((I 109 x1.toNatClampNeg) ≤ x5 → Q (some (.int x3)) (t, T, I, L, P)) ∧ (¬ ((I 109 x1.toNatClampNeg) ≤ x5) → vp_in (x4 + x5) 144 ∧ (vp_in (I 110 (((x4 + x5)).toNatClampNeg)) 27 ∧ (hf_G X Y_X1_wordWidth (d + 1) k n 11 [some (.ref 101), some (.int x1), some (.int x2), some (.int (x3 + (((I 102 (((I 110 (((x4 + x5)).toNatClampNeg))).toNatClampNeg)) * (x2 + 2)) / 2))), some (.int x4), some (.int (x5 + 1))] [] (t, T, I, L, P) Q))))) : hf_G X Y_X1_wordWidth (d + 1) k n 11 [some (.ref 101), some (.int x1), some (.int x2), some (.int x3), some (.int x4), some (.int x5)] [] (t, T, I, L, P) Q := by
  refine hf_iload dX1_wordWidth_11 rfl ?_
  refine hf_aload_n dX1_wordWidth_13 rfl rfl ?_
  refine hf_getr (b := 105) (c := 1) (j := 3) dX1_wordWidth_14 (hs.2.1 101 _ rfl) (hf_lin hs 101 rfl) (by decide) (by decide) hw107 rfl (hs.2.2 101 3 _ rfl) ?_
  refine hf_getr (b := 109) (c := 10) (j := 3) dX1_wordWidth_17 (hs.2.1 105 _ rfl) (hf_lin hs 105 rfl) (by decide) (by decide) hw56 rfl (hs.2.2 105 3 _ rfl) ?_
  refine hf_iload_n dX1_wordWidth_20 rfl rfl ?_
  refine hf_iald dX1_wordWidth_21 (hs.2.1 109 _ rfl) (hf_lin hs 109 rfl) h.1 ?_
  replace h := h.2
  refine hf_icmp_ge (tgt := 52) dX1_wordWidth_22 (by decide) (fun hc => ?_) (fun hc => ?_)
  · replace h := h.1 hc
    refine hf_iload_n dX1_wordWidth_52 rfl rfl ?_
    refine hf_ireturn dX1_wordWidth_53 rfl rfl ?_
    exact h
  · replace h := h.2 hc
    refine hf_iload_n dX1_wordWidth_25 rfl rfl ?_
    refine hf_aload_n dX1_wordWidth_26 rfl rfl ?_
    refine hf_aload_n dX1_wordWidth_27 rfl rfl ?_
    refine hf_getr (b := 105) (c := 1) (j := 3) dX1_wordWidth_28 (hs.2.1 101 _ rfl) (hf_lin hs 101 rfl) (by decide) (by decide) hw107 rfl (hs.2.2 101 3 _ rfl) ?_
    refine hf_getr (b := 110) (c := 10) (j := 4) dX1_wordWidth_31 (hs.2.1 105 _ rfl) (hf_lin hs 105 rfl) (by decide) (by decide) hw60 rfl (hs.2.2 105 4 _ rfl) ?_
    refine hf_iload dX1_wordWidth_34 rfl ?_
    refine hf_iload dX1_wordWidth_36 rfl ?_
    refine hf_iadd dX1_wordWidth_38 ?_
    refine hf_bald dX1_wordWidth_39 (hs.2.1 110 _ rfl) (hf_lin hs 110 rfl) h.1 ?_
    replace h := h.2
    refine hf_iload_n dX1_wordWidth_40 rfl rfl ?_
    refine hf_callV (c := 1) (as := [.int (I 110 (((x4 + x5)).toNatClampNeg)), .int x2]) ok_X1_letterWidth dX1_wordWidth_41 hw482 hw483 hw484 (hs.2.1 101 _ rfl) (by decide) (hf_lin hs 101 rfl) rfl (Nat.le_of_ble_eq_true rfl) rfl (Nat.le_of_ble_eq_true rfl) (Nat.zero_le _) (Nat.zero_le _) ?_
    show hf_G X Y_X1_letterWidth d _ _ 0 [some (.ref 101), some (.int (I 110 (((x4 + x5)).toNatClampNeg))), some (.int x2)] [] (t, T, I, L, P) _
    refine hf_aload_n dX1_letterWidth_0 rfl rfl ?_
    refine hf_getr (b := 102) (c := 1) (j := 0) dX1_letterWidth_1 (hs.2.1 101 _ rfl) (hf_lin hs 101 rfl) (by decide) (by decide) hw99 rfl (hs.2.2 101 0 _ rfl) ?_
    refine hf_iload_n dX1_letterWidth_4 rfl rfl ?_
    refine hf_iald dX1_letterWidth_5 (hs.2.1 102 _ rfl) (hf_lin hs 102 rfl) h.1 ?_
    replace h := h.2
    refine hf_iload_n dX1_letterWidth_6 rfl rfl ?_
    refine hf_iconst (v := 2) dX1_letterWidth_7 (by decide) ?_
    refine hf_iadd dX1_letterWidth_8 ?_
    refine hf_imul dX1_letterWidth_9 ?_
    refine hf_iconst (v := 2) dX1_letterWidth_10 (by decide) ?_
    refine hf_idiv dX1_letterWidth_11 (by decide) ?_
    refine hf_ireturn dX1_letterWidth_12 rfl rfl ?_
    show hf_G X Y_X1_wordWidth (d + 1) _ _ 44 [some (.ref 101), some (.int x1), some (.int x2), some (.int x3), some (.int x4), some (.int x5)] [.int (((I 102 (((I 110 (((x4 + x5)).toNatClampNeg))).toNatClampNeg)) * (x2 + 2)) / 2), .int x3] (t, T, I, L, P) _
    refine hf_iadd dX1_wordWidth_44 ?_
    refine hf_istore_n (l2 := [some (.ref 101), some (.int x1), some (.int x2), some (.int (x3 + (((I 102 (((I 110 (((x4 + x5)).toNatClampNeg))).toNatClampNeg)) * (x2 + 2)) / 2))), some (.int x4), some (.int x5)]) dX1_wordWidth_45 rfl (by decide) rfl ?_
    refine hf_iinc (v := (x5 + 1)) (l2 := [some (.ref 101), some (.int x1), some (.int x2), some (.int (x3 + (((I 102 (((I 110 (((x4 + x5)).toNatClampNeg))).toNatClampNeg)) * (x2 + 2)) / 2))), some (.int x4), some (.int (x5 + 1))]) dX1_wordWidth_46 (by decide) rfl rfl rfl ?_
    refine hf_goto (tgt := 11) dX1_wordWidth_49 (by decide) ?_
    exact h

set_option maxHeartbeats 4000000 in
theorem w_X1_lineWidth_0 {X : hf_X} {d k n t : Nat} {T : hf_T} {I : hf_I} {L : hf_L} {P : hf_P} {Q : Option Value → hf_M → Prop} {x1 : Int32} (hs : hf_Lay t T P) (h : hf_G X Y_X1_lineWidth d k n 7 [some (.ref 101), some (.int x1), some (.int 0), some (.int 0), some (.int 0)] [] (t, T, I, L, P) Q) : hf_G X Y_X1_lineWidth d k n 0 (hf_en [.ref 101, .int x1] 5) [] (t, T, I, L, P) Q := by
  show hf_G X Y_X1_lineWidth d k n 0 [some (.ref 101), some (.int x1), none, none, none] [] (t, T, I, L, P) Q
  refine hf_iconst (v := 0) dX1_lineWidth_0 (by decide) ?_
  refine hf_istore_n (l2 := [some (.ref 101), some (.int x1), some (.int 0), none, none]) dX1_lineWidth_1 rfl (by decide) rfl ?_
  refine hf_iconst (v := 0) dX1_lineWidth_2 (by decide) ?_
  refine hf_istore_n (l2 := [some (.ref 101), some (.int x1), some (.int 0), some (.int 0), none]) dX1_lineWidth_3 rfl (by decide) rfl ?_
  refine hf_iconst (v := 0) dX1_lineWidth_4 (by decide) ?_
  refine hf_istore (l2 := [some (.ref 101), some (.int x1), some (.int 0), some (.int 0), some (.int 0)]) dX1_lineWidth_5 (by decide) rfl ?_
  exact h

set_option maxHeartbeats 4000000 in
theorem w_X1_lineWidth_7 {X : hf_X} {d k n t : Nat} {T : hf_T} {I : hf_I} {L : hf_L} {P : hf_P} {Q : Option Value → hf_M → Prop} {x1 : Int32} {x2 : Int32} {x3 : Int32} {x4 : Int32} (hs : hf_Lay t T P) (h : ((I 114 2) ≤ x4 → Q (some (.int (x2 + ((if 0 < (x3 - 1) then (x3 - 1) else 0) * (((I 102 26) * ((I 101 14) + 2)) / 2))))) (t, T, I, L, P)) ∧ (¬ ((I 114 2) ≤ x4) → vp_in x4 12 ∧ (((I 116 x4.toNatClampNeg) = x1 → vp_in x4 12 ∧ (hf_G X Y_X1_wordWidth d 0 0 0 (hf_en [.ref 101, .int (I 115 x4.toNatClampNeg), .int (I 101 14)] 6) [] (t, T, I, L, P) (fun r M => hf_G X Y_X1_lineWidth (d + 1) k n 55 [some (.ref 101), some (.int x1), none, some (.int x3), some (.int x4)] (r.toList ++ [.int x2]) M Q))) ∧ (¬ ((I 116 x4.toNatClampNeg) = x1) → hf_G X Y_X1_lineWidth (d + 1) k n 7 [some (.ref 101), some (.int x1), some (.int x2), some (.int x3), some (.int (x4 + 1))] [] (t, T, I, L, P) Q)))) : hf_G X Y_X1_lineWidth (d + 1) k n 7 [some (.ref 101), some (.int x1), some (.int x2), some (.int x3), some (.int x4)] [] (t, T, I, L, P) Q := by
  refine hf_iload dX1_lineWidth_7 rfl ?_
  refine hf_aload_n dX1_lineWidth_9 rfl rfl ?_
  refine hf_getr (b := 114) (c := 1) (j := 7) dX1_lineWidth_10 (hs.2.1 101 _ rfl) (hf_lin hs 101 rfl) (by decide) (by decide) hw121 rfl (hs.2.2 101 7 _ rfl) ?_
  refine hf_geti (c := 3) (j := 2) dX1_lineWidth_13 (hs.2.1 114 _ rfl) (hf_lin hs 114 rfl) (by decide) (by decide) hw91 (Or.inl rfl) ?_
  refine hf_icmp_ge (tgt := 66) dX1_lineWidth_16 (by decide) (fun hc => ?_) (fun hc => ?_)
  · replace h := h.1 hc
    refine hf_iload_n dX1_lineWidth_66 rfl rfl ?_
    refine hf_iconst (v := 0) dX1_lineWidth_67 (by decide) ?_
    refine hf_iload_n dX1_lineWidth_68 rfl rfl ?_
    refine hf_iconst (v := 1) dX1_lineWidth_69 (by decide) ?_
    refine hf_isub dX1_lineWidth_70 ?_
    refine hf_mmax dX1_lineWidth_71 hw692 (Nat.le_of_ble_eq_true rfl) ?_
    refine hf_aload_n dX1_lineWidth_74 rfl rfl ?_
    refine hf_bipush (v := 26) dX1_lineWidth_75 (by decide) ?_
    refine hf_aload_n dX1_lineWidth_77 rfl rfl ?_
    refine hf_geti (c := 1) (j := 14) dX1_lineWidth_78 (hs.2.1 101 _ rfl) (hf_lin hs 101 rfl) (by decide) (by decide) hw143 (Or.inl rfl) ?_
    refine hf_callV (c := 1) (as := [.int 26, .int (I 101 14)]) ok_X1_letterWidth dX1_lineWidth_81 hw482 hw483 hw484 (hs.2.1 101 _ rfl) (by decide) (hf_lin hs 101 rfl) rfl (Nat.le_of_ble_eq_true rfl) rfl (Nat.le_of_ble_eq_true rfl) (Nat.zero_le _) (Nat.zero_le _) ?_
    show hf_G X Y_X1_letterWidth d _ _ 0 [some (.ref 101), some (.int 26), some (.int (I 101 14))] [] (t, T, I, L, P) _
    refine hf_aload_n dX1_letterWidth_0 rfl rfl ?_
    refine hf_getr (b := 102) (c := 1) (j := 0) dX1_letterWidth_1 (hs.2.1 101 _ rfl) (hf_lin hs 101 rfl) (by decide) (by decide) hw99 rfl (hs.2.2 101 0 _ rfl) ?_
    refine hf_iload_n dX1_letterWidth_4 rfl rfl ?_
    refine hf_iald_k (j := 26) (by decide) dX1_letterWidth_5 (hs.2.1 102 _ rfl) (hf_lin hs 102 rfl) (hf_vin (by decide)) ?_
    refine hf_iload_n dX1_letterWidth_6 rfl rfl ?_
    refine hf_iconst (v := 2) dX1_letterWidth_7 (by decide) ?_
    refine hf_iadd dX1_letterWidth_8 ?_
    refine hf_imul dX1_letterWidth_9 ?_
    refine hf_iconst (v := 2) dX1_letterWidth_10 (by decide) ?_
    refine hf_idiv dX1_letterWidth_11 (by decide) ?_
    refine hf_ireturn dX1_letterWidth_12 rfl rfl ?_
    show hf_G X Y_X1_lineWidth (d + 1) _ _ 84 [some (.ref 101), some (.int x1), some (.int x2), some (.int x3), some (.int x4)] [.int (((I 102 26) * ((I 101 14) + 2)) / 2), .int (if 0 < (x3 - 1) then (x3 - 1) else 0), .int x2] (t, T, I, L, P) _
    refine hf_imul dX1_lineWidth_84 ?_
    refine hf_iadd dX1_lineWidth_85 ?_
    refine hf_ireturn dX1_lineWidth_86 rfl rfl ?_
    exact h
  · replace h := h.2 hc
    refine hf_aload_n dX1_lineWidth_19 rfl rfl ?_
    refine hf_getr (b := 114) (c := 1) (j := 7) dX1_lineWidth_20 (hs.2.1 101 _ rfl) (hf_lin hs 101 rfl) (by decide) (by decide) hw121 rfl (hs.2.2 101 7 _ rfl) ?_
    refine hf_getr (b := 116) (c := 3) (j := 1) dX1_lineWidth_23 (hs.2.1 114 _ rfl) (hf_lin hs 114 rfl) (by decide) (by decide) hw85 rfl (hs.2.2 114 1 _ rfl) ?_
    refine hf_iload dX1_lineWidth_26 rfl ?_
    refine hf_iald dX1_lineWidth_28 (hs.2.1 116 _ rfl) (hf_lin hs 116 rfl) h.1 ?_
    replace h := h.2
    refine hf_iload_n dX1_lineWidth_29 rfl rfl ?_
    refine hf_icmp_eq (tgt := 36) dX1_lineWidth_30 (by decide) (fun hc => ?_) (fun hc => ?_)
    · replace h := h.1 hc
      refine hf_iload_n dX1_lineWidth_36 rfl rfl ?_
      refine hf_aload_n dX1_lineWidth_37 rfl rfl ?_
      refine hf_aload_n dX1_lineWidth_38 rfl rfl ?_
      refine hf_getr (b := 114) (c := 1) (j := 7) dX1_lineWidth_39 (hs.2.1 101 _ rfl) (hf_lin hs 101 rfl) (by decide) (by decide) hw121 rfl (hs.2.2 101 7 _ rfl) ?_
      refine hf_getr (b := 115) (c := 3) (j := 0) dX1_lineWidth_42 (hs.2.1 114 _ rfl) (hf_lin hs 114 rfl) (by decide) (by decide) hw81 rfl (hs.2.2 114 0 _ rfl) ?_
      refine hf_iload dX1_lineWidth_45 rfl ?_
      refine hf_iald dX1_lineWidth_47 (hs.2.1 115 _ rfl) (hf_lin hs 115 rfl) h.1 ?_
      replace h := h.2
      refine hf_aload_n dX1_lineWidth_48 rfl rfl ?_
      refine hf_geti (c := 1) (j := 14) dX1_lineWidth_49 (hs.2.1 101 _ rfl) (hf_lin hs 101 rfl) (by decide) (by decide) hw143 (Or.inl rfl) ?_
      exact hf_callV (c := 1) (as := [.int (I 115 x4.toNatClampNeg), .int (I 101 14)]) ok_X1_wordWidth dX1_lineWidth_52 hw691 hw479 hw480 (hs.2.1 101 _ rfl) (by decide) (hf_lin hs 101 rfl) rfl (Nat.le_of_ble_eq_true rfl) rfl (Nat.le_of_ble_eq_true rfl) (Nat.zero_le _) (Nat.zero_le _) (hf_mono (fun r M q => hf_drop (l' := [some (.ref 101), some (.int x1), none, some (.int x3), some (.int x4)]) (by simp [hf_sub]) q) h)
    · replace h := h.2 hc
      refine hf_goto (tgt := 60) dX1_lineWidth_33 (by decide) ?_
      refine hf_iinc (v := (x4 + 1)) (l2 := [some (.ref 101), some (.int x1), some (.int x2), some (.int x3), some (.int (x4 + 1))]) dX1_lineWidth_60 (by decide) rfl rfl rfl ?_
      refine hf_goto (tgt := 7) dX1_lineWidth_63 (by decide) ?_
      exact h

set_option maxHeartbeats 4000000 in
theorem w_X1_lineWidth_55 {X : hf_X} {d k n t : Nat} {T : hf_T} {I : hf_I} {L : hf_L} {P : hf_P} {Q : Option Value → hf_M → Prop} {x1 : Int32} {x3 : Int32} {x4 : Int32} {s0 : Int32} {s1 : Int32} (hs : hf_Lay t T P) (h : hf_G X Y_X1_lineWidth d k n 7 [some (.ref 101), some (.int x1), some (.int (s1 + s0)), some (.int (x3 + 1)), some (.int (x4 + 1))] [] (t, T, I, L, P) Q) : hf_G X Y_X1_lineWidth d k n 55 [some (.ref 101), some (.int x1), none, some (.int x3), some (.int x4)] [.int s0, .int s1] (t, T, I, L, P) Q := by
  refine hf_iadd dX1_lineWidth_55 ?_
  refine hf_istore_n (l2 := [some (.ref 101), some (.int x1), some (.int (s1 + s0)), some (.int x3), some (.int x4)]) dX1_lineWidth_56 rfl (by decide) rfl ?_
  refine hf_iinc (v := (x3 + 1)) (l2 := [some (.ref 101), some (.int x1), some (.int (s1 + s0)), some (.int (x3 + 1)), some (.int x4)]) dX1_lineWidth_57 (by decide) rfl rfl rfl ?_
  refine hf_iinc (v := (x4 + 1)) (l2 := [some (.ref 101), some (.int x1), some (.int (s1 + s0)), some (.int (x3 + 1)), some (.int (x4 + 1))]) dX1_lineWidth_60 (by decide) rfl rfl rfl ?_
  refine hf_goto (tgt := 7) dX1_lineWidth_63 (by decide) ?_
  exact h

set_option maxHeartbeats 4000000 in
theorem w_X1_isAlike_0 {X : hf_X} {d k n t : Nat} {T : hf_T} {I : hf_I} {L : hf_L} {P : hf_P} {Q : Option Value → hf_M → Prop} {x1 : Int32} (hs : hf_Lay t T P) (h : hf_G X Y_X3_firstIn d 0 0 0 (hf_en [.ref 114, .int x1] 3) [] (t, T, I, L, P) (fun r M => hf_G X Y_X1_isAlike (d + 1) k n 8 [some (.ref 101), some (.int x1), none, none] (r.toList ++ []) M Q)) : hf_G X Y_X1_isAlike (d + 1) k n 0 (hf_en [.ref 101, .int x1] 4) [] (t, T, I, L, P) Q := by
  show hf_G X Y_X1_isAlike (d + 1) k n 0 [some (.ref 101), some (.int x1), none, none] [] (t, T, I, L, P) Q
  refine hf_aload_n dX1_isAlike_0 rfl rfl ?_
  refine hf_getr (b := 114) (c := 1) (j := 7) dX1_isAlike_1 (hs.2.1 101 _ rfl) (hf_lin hs 101 rfl) (by decide) (by decide) hw121 rfl (hs.2.2 101 7 _ rfl) ?_
  refine hf_iload_n dX1_isAlike_4 rfl rfl ?_
  exact hf_callV (c := 3) (as := [.int x1]) ok_X3_firstIn dX1_isAlike_5 hw773 hw774 hw775 (hs.2.1 114 _ rfl) (by decide) (hf_lin hs 114 rfl) rfl (Nat.le_of_ble_eq_true rfl) rfl (Nat.le_of_ble_eq_true rfl) (Nat.zero_le _) (Nat.zero_le _) h

set_option maxHeartbeats 4000000 in
theorem w_X1_isAlike_8 {X : hf_X} {d k n t : Nat} {T : hf_T} {I : hf_I} {L : hf_L} {P : hf_P} {Q : Option Value → hf_M → Prop} {x1 : Int32} {s0 : Int32} (hs : hf_Lay t T P) (h : hf_G X Y_X3_firstIn d 0 0 0 (hf_en [.ref 114, .int (x1 - 1)] 3) [] (t, T, I, L, P) (fun r M => hf_G X Y_X1_isAlike (d + 1) k n 19 [some (.ref 101), none, some (.int s0), none] (r.toList ++ []) M Q)) : hf_G X Y_X1_isAlike (d + 1) k n 8 [some (.ref 101), some (.int x1), none, none] [.int s0] (t, T, I, L, P) Q := by
  refine hf_istore_n (l2 := [some (.ref 101), some (.int x1), some (.int s0), none]) dX1_isAlike_8 rfl (by decide) rfl ?_
  refine hf_aload_n dX1_isAlike_9 rfl rfl ?_
  refine hf_getr (b := 114) (c := 1) (j := 7) dX1_isAlike_10 (hs.2.1 101 _ rfl) (hf_lin hs 101 rfl) (by decide) (by decide) hw121 rfl (hs.2.2 101 7 _ rfl) ?_
  refine hf_iload_n dX1_isAlike_13 rfl rfl ?_
  refine hf_iconst (v := 1) dX1_isAlike_14 (by decide) ?_
  refine hf_isub dX1_isAlike_15 ?_
  exact hf_callV (c := 3) (as := [.int (x1 - 1)]) ok_X3_firstIn dX1_isAlike_16 hw773 hw774 hw775 (hs.2.1 114 _ rfl) (by decide) (hf_lin hs 114 rfl) rfl (Nat.le_of_ble_eq_true rfl) rfl (Nat.le_of_ble_eq_true rfl) (Nat.zero_le _) (Nat.zero_le _) (hf_mono (fun r M q => hf_drop (l' := [some (.ref 101), none, some (.int s0), none]) (by simp [hf_sub]) q) h)

set_option maxHeartbeats 4000000 in
theorem w_X1_isAlike_19 {X : hf_X} {d k n t : Nat} {T : hf_T} {I : hf_I} {L : hf_L} {P : hf_P} {Q : Option Value → hf_M → Prop} {x2 : Int32} {s0 : Int32} (hs : hf_Lay t T P) (h : (x2 = (-1) → Q (some (.int 0)) (t, T, I, L, P)) ∧ (¬ (x2 = (-1)) → (s0 = (-1) → Q (some (.int 0)) (t, T, I, L, P)) ∧ (¬ (s0 = (-1)) → vp_in (x2 * 9) 144 ∧ (vp_in (s0 * 9) 144 ∧ ((¬ (I 110 (((x2 * 9)).toNatClampNeg)) = (I 110 (((s0 * 9)).toNatClampNeg)) → Q (some (.int 0)) (t, T, I, L, P)) ∧ ((I 110 (((x2 * 9)).toNatClampNeg)) = (I 110 (((s0 * 9)).toNatClampNeg)) → Q (some (.int 1)) (t, T, I, L, P))))))) : hf_G X Y_X1_isAlike (d + 2) k n 19 [some (.ref 101), none, some (.int x2), none] [.int s0] (t, T, I, L, P) Q := by
  refine hf_istore_n (l2 := [some (.ref 101), none, some (.int x2), some (.int s0)]) dX1_isAlike_19 rfl (by decide) rfl ?_
  refine hf_iload_n dX1_isAlike_20 rfl rfl ?_
  refine hf_iconst (v := (-1)) dX1_isAlike_21 (by decide) ?_
  refine hf_icmp_eq (tgt := 46) dX1_isAlike_22 (by decide) (fun hc => ?_) (fun hc => ?_)
  · replace h := h.1 hc
    refine hf_iconst (v := 0) dX1_isAlike_46 (by decide) ?_
    refine hf_ireturn dX1_isAlike_47 rfl (by decide) ?_
    exact h
  · replace h := h.2 hc
    refine hf_iload_n dX1_isAlike_25 rfl rfl ?_
    refine hf_iconst (v := (-1)) dX1_isAlike_26 (by decide) ?_
    refine hf_icmp_eq (tgt := 46) dX1_isAlike_27 (by decide) (fun hc => ?_) (fun hc => ?_)
    · replace h := h.1 hc
      refine hf_iconst (v := 0) dX1_isAlike_46 (by decide) ?_
      refine hf_ireturn dX1_isAlike_47 rfl (by decide) ?_
      exact h
    · replace h := h.2 hc
      refine hf_aload_n dX1_isAlike_30 rfl rfl ?_
      refine hf_getr (b := 105) (c := 1) (j := 3) dX1_isAlike_31 (hs.2.1 101 _ rfl) (hf_lin hs 101 rfl) (by decide) (by decide) hw107 rfl (hs.2.2 101 3 _ rfl) ?_
      refine hf_iload_n dX1_isAlike_34 rfl rfl ?_
      refine hf_iload_n dX1_isAlike_35 rfl rfl ?_
      refine hf_callV (c := 10) (as := [.int x2, .int s0]) ok_X10_beginAlike dX1_isAlike_36 hw777 hw778 hw779 (hs.2.1 105 _ rfl) (by decide) (hf_lin hs 105 rfl) rfl (Nat.le_of_ble_eq_true rfl) rfl (Nat.le_of_ble_eq_true rfl) (Nat.zero_le _) (Nat.zero_le _) ?_
      show hf_G X Y_X10_beginAlike (d + 1) _ _ 0 [some (.ref 105), some (.int x2), some (.int s0)] [] (t, T, I, L, P) _
      refine hf_aload_n dX10_beginAlike_0 rfl rfl ?_
      refine hf_iload_n dX10_beginAlike_1 rfl rfl ?_
      refine hf_callV (c := 10) (as := [.int x2]) ok_X10_firstLetter dX10_beginAlike_2 hw781 hw487 hw488 (hs.2.1 105 _ rfl) (by decide) (hf_lin hs 105 rfl) rfl (Nat.le_of_ble_eq_true rfl) rfl (Nat.le_of_ble_eq_true rfl) (Nat.zero_le _) (Nat.zero_le _) ?_
      show hf_G X Y_X10_firstLetter d _ _ 0 [some (.ref 105), some (.int x2)] [] (t, T, I, L, P) _
      refine hf_aload_n dX10_firstLetter_0 rfl rfl ?_
      refine hf_getr (b := 110) (c := 10) (j := 4) dX10_firstLetter_1 (hs.2.1 105 _ rfl) (hf_lin hs 105 rfl) (by decide) (by decide) hw59 rfl (hs.2.2 105 4 _ rfl) ?_
      refine hf_iload_n dX10_firstLetter_4 rfl rfl ?_
      refine hf_bipush (v := 9) dX10_firstLetter_5 (by decide) ?_
      refine hf_imul dX10_firstLetter_7 ?_
      refine hf_bald dX10_firstLetter_8 (hs.2.1 110 _ rfl) (hf_lin hs 110 rfl) h.1 ?_
      replace h := h.2
      refine hf_ireturn dX10_firstLetter_9 rfl rfl ?_
      show hf_G X Y_X10_beginAlike (d + 1) _ _ 5 [some (.ref 105), some (.int x2), some (.int s0)] [.int (I 110 (((x2 * 9)).toNatClampNeg))] (t, T, I, L, P) _
      refine hf_aload_n dX10_beginAlike_5 rfl rfl ?_
      refine hf_iload_n dX10_beginAlike_6 rfl rfl ?_
      refine hf_callV (c := 10) (as := [.int s0]) ok_X10_firstLetter dX10_beginAlike_7 hw781 hw487 hw488 (hs.2.1 105 _ rfl) (by decide) (hf_lin hs 105 rfl) rfl (Nat.le_of_ble_eq_true rfl) rfl (Nat.le_of_ble_eq_true rfl) (Nat.zero_le _) (Nat.zero_le _) ?_
      show hf_G X Y_X10_firstLetter d _ _ 0 [some (.ref 105), some (.int s0)] [] (t, T, I, L, P) _
      refine hf_aload_n dX10_firstLetter_0 rfl rfl ?_
      refine hf_getr (b := 110) (c := 10) (j := 4) dX10_firstLetter_1 (hs.2.1 105 _ rfl) (hf_lin hs 105 rfl) (by decide) (by decide) hw59 rfl (hs.2.2 105 4 _ rfl) ?_
      refine hf_iload_n dX10_firstLetter_4 rfl rfl ?_
      refine hf_bipush (v := 9) dX10_firstLetter_5 (by decide) ?_
      refine hf_imul dX10_firstLetter_7 ?_
      refine hf_bald dX10_firstLetter_8 (hs.2.1 110 _ rfl) (hf_lin hs 110 rfl) h.1 ?_
      replace h := h.2
      refine hf_ireturn dX10_firstLetter_9 rfl rfl ?_
      show hf_G X Y_X10_beginAlike (d + 1) _ _ 10 [some (.ref 105), some (.int x2), some (.int s0)] [.int (I 110 (((s0 * 9)).toNatClampNeg)), .int (I 110 (((x2 * 9)).toNatClampNeg))] (t, T, I, L, P) _
      refine hf_icmp_ne (tgt := 17) dX10_beginAlike_10 (by decide) (fun hc => ?_) (fun hc => ?_)
      · replace h := h.1 hc
        refine hf_iconst (v := 0) dX10_beginAlike_17 (by decide) ?_
        refine hf_ireturn dX10_beginAlike_18 rfl (by decide) ?_
        show hf_G X Y_X1_isAlike (d + 2) _ _ 39 [some (.ref 101), none, some (.int x2), some (.int s0)] [.int 0] (t, T, I, L, P) _
        refine hf_if_eq (tgt := 46) dX1_isAlike_39 (by decide) (fun _ => ?_) (fun hc => absurd (show (0 : Int32) = (0 : Int32) by decide) hc)
        refine hf_iconst (v := 0) dX1_isAlike_46 (by decide) ?_
        refine hf_ireturn dX1_isAlike_47 rfl (by decide) ?_
        exact h
      · replace h := h.2 hc
        refine hf_iconst (v := 1) dX10_beginAlike_13 (by decide) ?_
        refine hf_goto (tgt := 18) dX10_beginAlike_14 (by decide) ?_
        refine hf_ireturn dX10_beginAlike_18 rfl (by decide) ?_
        show hf_G X Y_X1_isAlike (d + 2) _ _ 39 [some (.ref 101), none, some (.int x2), some (.int s0)] [.int 1] (t, T, I, L, P) _
        refine hf_if_eq (tgt := 46) dX1_isAlike_39 (by decide) (fun hc => absurd (show (1 : Int32) = (0 : Int32) from hc) (by decide)) (fun _ => ?_)
        refine hf_iconst (v := 1) dX1_isAlike_42 (by decide) ?_
        refine hf_goto (tgt := 47) dX1_isAlike_43 (by decide) ?_
        refine hf_ireturn dX1_isAlike_47 rfl (by decide) ?_
        exact h

set_option maxHeartbeats 4000000 in
theorem w_X1_isEcho_0 {X : hf_X} {d k n t : Nat} {T : hf_T} {I : hf_I} {L : hf_L} {P : hf_P} {Q : Option Value → hf_M → Prop} {x1 : Int32} (hs : hf_Lay t T P) (h : hf_G X Y_X1_isEcho d k n 2 [some (.ref 101), some (.int x1), some (.int 0)] [] (t, T, I, L, P) Q) : hf_G X Y_X1_isEcho d k n 0 (hf_en [.ref 101, .int x1] 3) [] (t, T, I, L, P) Q := by
  show hf_G X Y_X1_isEcho d k n 0 [some (.ref 101), some (.int x1), none] [] (t, T, I, L, P) Q
  refine hf_iconst (v := 0) dX1_isEcho_0 (by decide) ?_
  refine hf_istore_n (l2 := [some (.ref 101), some (.int x1), some (.int 0)]) dX1_isEcho_1 rfl (by decide) rfl ?_
  exact h

set_option maxHeartbeats 4000000 in
theorem w_X1_isEcho_2 {X : hf_X} {d k n t : Nat} {T : hf_T} {I : hf_I} {L : hf_L} {P : hf_P} {Q : Option Value → hf_M → Prop} {x1 : Int32} {x2 : Int32} (hs : hf_Lay t T P) (h : ((I 114 2) ≤ x2 → Q (some (.int 0)) (t, T, I, L, P)) ∧ (¬ ((I 114 2) ≤ x2) → vp_in x2 12 ∧ ((¬ (I 116 x2.toNatClampNeg) = x1 → hf_G X Y_X1_isEcho d k n 2 [some (.ref 101), some (.int x1), some (.int (x2 + 1))] [] (t, T, I, L, P) Q) ∧ ((I 116 x2.toNatClampNeg) = x1 → vp_in x2 12 ∧ (vp_in x1 4 ∧ ((¬ (I 115 x2.toNatClampNeg) = (I 113 x1.toNatClampNeg) → hf_G X Y_X1_isEcho d k n 2 [some (.ref 101), some (.int x1), some (.int (x2 + 1))] [] (t, T, I, L, P) Q) ∧ ((I 115 x2.toNatClampNeg) = (I 113 x1.toNatClampNeg) → Q (some (.int 1)) (t, T, I, L, P)))))))) : hf_G X Y_X1_isEcho d k n 2 [some (.ref 101), some (.int x1), some (.int x2)] [] (t, T, I, L, P) Q := by
  refine hf_iload_n dX1_isEcho_2 rfl rfl ?_
  refine hf_aload_n dX1_isEcho_3 rfl rfl ?_
  refine hf_getr (b := 114) (c := 1) (j := 7) dX1_isEcho_4 (hs.2.1 101 _ rfl) (hf_lin hs 101 rfl) (by decide) (by decide) hw121 rfl (hs.2.2 101 7 _ rfl) ?_
  refine hf_geti (c := 3) (j := 2) dX1_isEcho_7 (hs.2.1 114 _ rfl) (hf_lin hs 114 rfl) (by decide) (by decide) hw91 (Or.inl rfl) ?_
  refine hf_icmp_ge (tgt := 52) dX1_isEcho_10 (by decide) (fun hc => ?_) (fun hc => ?_)
  · replace h := h.1 hc
    refine hf_iconst (v := 0) dX1_isEcho_52 (by decide) ?_
    refine hf_ireturn dX1_isEcho_53 rfl (by decide) ?_
    exact h
  · replace h := h.2 hc
    refine hf_aload_n dX1_isEcho_13 rfl rfl ?_
    refine hf_getr (b := 114) (c := 1) (j := 7) dX1_isEcho_14 (hs.2.1 101 _ rfl) (hf_lin hs 101 rfl) (by decide) (by decide) hw121 rfl (hs.2.2 101 7 _ rfl) ?_
    refine hf_getr (b := 116) (c := 3) (j := 1) dX1_isEcho_17 (hs.2.1 114 _ rfl) (hf_lin hs 114 rfl) (by decide) (by decide) hw85 rfl (hs.2.2 114 1 _ rfl) ?_
    refine hf_iload_n dX1_isEcho_20 rfl rfl ?_
    refine hf_iald dX1_isEcho_21 (hs.2.1 116 _ rfl) (hf_lin hs 116 rfl) h.1 ?_
    replace h := h.2
    refine hf_iload_n dX1_isEcho_22 rfl rfl ?_
    refine hf_icmp_ne (tgt := 46) dX1_isEcho_23 (by decide) (fun hc => ?_) (fun hc => ?_)
    · replace h := h.1 hc
      refine hf_iinc (v := (x2 + 1)) (l2 := [some (.ref 101), some (.int x1), some (.int (x2 + 1))]) dX1_isEcho_46 (by decide) rfl rfl rfl ?_
      refine hf_goto (tgt := 2) dX1_isEcho_49 (by decide) ?_
      exact h
    · replace h := h.2 hc
      refine hf_aload_n dX1_isEcho_26 rfl rfl ?_
      refine hf_getr (b := 114) (c := 1) (j := 7) dX1_isEcho_27 (hs.2.1 101 _ rfl) (hf_lin hs 101 rfl) (by decide) (by decide) hw121 rfl (hs.2.2 101 7 _ rfl) ?_
      refine hf_getr (b := 115) (c := 3) (j := 0) dX1_isEcho_30 (hs.2.1 114 _ rfl) (hf_lin hs 114 rfl) (by decide) (by decide) hw81 rfl (hs.2.2 114 0 _ rfl) ?_
      refine hf_iload_n dX1_isEcho_33 rfl rfl ?_
      refine hf_iald dX1_isEcho_34 (hs.2.1 115 _ rfl) (hf_lin hs 115 rfl) h.1 ?_
      replace h := h.2
      refine hf_aload_n dX1_isEcho_35 rfl rfl ?_
      refine hf_getr (b := 113) (c := 1) (j := 6) dX1_isEcho_36 (hs.2.1 101 _ rfl) (hf_lin hs 101 rfl) (by decide) (by decide) hw118 rfl (hs.2.2 101 6 _ rfl) ?_
      refine hf_iload_n dX1_isEcho_39 rfl rfl ?_
      refine hf_iald dX1_isEcho_40 (hs.2.1 113 _ rfl) (hf_lin hs 113 rfl) h.1 ?_
      replace h := h.2
      refine hf_icmp_ne (tgt := 46) dX1_isEcho_41 (by decide) (fun hc => ?_) (fun hc => ?_)
      · replace h := h.1 hc
        refine hf_iinc (v := (x2 + 1)) (l2 := [some (.ref 101), some (.int x1), some (.int (x2 + 1))]) dX1_isEcho_46 (by decide) rfl rfl rfl ?_
        refine hf_goto (tgt := 2) dX1_isEcho_49 (by decide) ?_
        exact h
      · replace h := h.2 hc
        refine hf_iconst (v := 1) dX1_isEcho_44 (by decide) ?_
        refine hf_ireturn dX1_isEcho_45 rfl (by decide) ?_
        exact h

set_option maxHeartbeats 4000000 in
theorem w_X1_mayStandFor_0 {X : hf_X} {d k n t : Nat} {T : hf_T} {I : hf_I} {L : hf_L} {P : hf_P} {Q : Option Value → hf_M → Prop} {x1 : Int32} {x2 : Int32} (hs : hf_Lay t T P) (h : vp_in x1 12 ∧ ((x2 = (I 115 x1.toNatClampNeg) → Q (some (.int 0)) (t, T, I, L, P)) ∧ (¬ (x2 = (I 115 x1.toNatClampNeg)) → vp_in x2 16 ∧ (vp_in (I 115 x1.toNatClampNeg) 16 ∧ ((¬ (I 106 x2.toNatClampNeg) = (I 106 (((I 115 x1.toNatClampNeg)).toNatClampNeg)) → Q (some (.int 0)) (t, T, I, L, P)) ∧ ((I 106 x2.toNatClampNeg) = (I 106 (((I 115 x1.toNatClampNeg)).toNatClampNeg)) → Q (some (.int 1)) (t, T, I, L, P))))))) : hf_G X Y_X1_mayStandFor d k n 0 (hf_en [.ref 101, .int x1, .int x2] 4) [] (t, T, I, L, P) Q := by
  show hf_G X Y_X1_mayStandFor d k n 0 [some (.ref 101), some (.int x1), some (.int x2), none] [] (t, T, I, L, P) Q
  refine hf_aload_n dX1_mayStandFor_0 rfl rfl ?_
  refine hf_getr (b := 114) (c := 1) (j := 7) dX1_mayStandFor_1 (hs.2.1 101 _ rfl) (hf_lin hs 101 rfl) (by decide) (by decide) hw121 rfl (hs.2.2 101 7 _ rfl) ?_
  refine hf_getr (b := 115) (c := 3) (j := 0) dX1_mayStandFor_4 (hs.2.1 114 _ rfl) (hf_lin hs 114 rfl) (by decide) (by decide) hw81 rfl (hs.2.2 114 0 _ rfl) ?_
  refine hf_iload_n dX1_mayStandFor_7 rfl rfl ?_
  refine hf_iald dX1_mayStandFor_8 (hs.2.1 115 _ rfl) (hf_lin hs 115 rfl) h.1 ?_
  replace h := h.2
  refine hf_istore_n (l2 := [some (.ref 101), some (.int x1), some (.int x2), some (.int (I 115 x1.toNatClampNeg))]) dX1_mayStandFor_9 rfl (by decide) rfl ?_
  refine hf_iload_n dX1_mayStandFor_10 rfl rfl ?_
  refine hf_iload_n dX1_mayStandFor_11 rfl rfl ?_
  refine hf_icmp_eq (tgt := 40) dX1_mayStandFor_12 (by decide) (fun hc => ?_) (fun hc => ?_)
  · replace h := h.1 hc
    refine hf_iconst (v := 0) dX1_mayStandFor_40 (by decide) ?_
    refine hf_ireturn dX1_mayStandFor_41 rfl (by decide) ?_
    exact h
  · replace h := h.2 hc
    refine hf_aload_n dX1_mayStandFor_15 rfl rfl ?_
    refine hf_getr (b := 105) (c := 1) (j := 3) dX1_mayStandFor_16 (hs.2.1 101 _ rfl) (hf_lin hs 101 rfl) (by decide) (by decide) hw107 rfl (hs.2.2 101 3 _ rfl) ?_
    refine hf_getr (b := 106) (c := 10) (j := 0) dX1_mayStandFor_19 (hs.2.1 105 _ rfl) (hf_lin hs 105 rfl) (by decide) (by decide) hw44 rfl (hs.2.2 105 0 _ rfl) ?_
    refine hf_iload_n dX1_mayStandFor_22 rfl rfl ?_
    refine hf_iald dX1_mayStandFor_23 (hs.2.1 106 _ rfl) (hf_lin hs 106 rfl) h.1 ?_
    replace h := h.2
    refine hf_aload_n dX1_mayStandFor_24 rfl rfl ?_
    refine hf_getr (b := 105) (c := 1) (j := 3) dX1_mayStandFor_25 (hs.2.1 101 _ rfl) (hf_lin hs 101 rfl) (by decide) (by decide) hw107 rfl (hs.2.2 101 3 _ rfl) ?_
    refine hf_getr (b := 106) (c := 10) (j := 0) dX1_mayStandFor_28 (hs.2.1 105 _ rfl) (hf_lin hs 105 rfl) (by decide) (by decide) hw44 rfl (hs.2.2 105 0 _ rfl) ?_
    refine hf_iload_n dX1_mayStandFor_31 rfl rfl ?_
    refine hf_iald dX1_mayStandFor_32 (hs.2.1 106 _ rfl) (hf_lin hs 106 rfl) h.1 ?_
    replace h := h.2
    refine hf_icmp_ne (tgt := 40) dX1_mayStandFor_33 (by decide) (fun hc => ?_) (fun hc => ?_)
    · replace h := h.1 hc
      refine hf_iconst (v := 0) dX1_mayStandFor_40 (by decide) ?_
      refine hf_ireturn dX1_mayStandFor_41 rfl (by decide) ?_
      exact h
    · replace h := h.2 hc
      refine hf_iconst (v := 1) dX1_mayStandFor_36 (by decide) ?_
      refine hf_goto (tgt := 41) dX1_mayStandFor_37 (by decide) ?_
      refine hf_ireturn dX1_mayStandFor_41 rfl (by decide) ?_
      exact h

set_option maxHeartbeats 4000000 in
theorem w_X1_isAsSeen_0 {X : hf_X} {d k n t : Nat} {T : hf_T} {I : hf_I} {L : hf_L} {P : hf_P} {Q : Option Value → hf_M → Prop} {x1 : Int32} {x2 : Int32} (hs : hf_Lay t T P) (h : hf_G X Y_X1_wordWidth d 0 0 0 (hf_en [.ref 101, .int x2, .int (I 101 14)] 6) [] (t, T, I, L, P) (fun r M => hf_G X Y_X1_isAsSeen (d + 1) k n 9 [some (.ref 101), some (.int x1), none, none, none, none, none] (r.toList ++ []) M Q)) : hf_G X Y_X1_isAsSeen (d + 1) k n 0 (hf_en [.ref 101, .int x1, .int x2] 7) [] (t, T, I, L, P) Q := by
  show hf_G X Y_X1_isAsSeen (d + 1) k n 0 [some (.ref 101), some (.int x1), some (.int x2), none, none, none, none] [] (t, T, I, L, P) Q
  refine hf_aload_n dX1_isAsSeen_0 rfl rfl ?_
  refine hf_iload_n dX1_isAsSeen_1 rfl rfl ?_
  refine hf_aload_n dX1_isAsSeen_2 rfl rfl ?_
  refine hf_geti (c := 1) (j := 14) dX1_isAsSeen_3 (hs.2.1 101 _ rfl) (hf_lin hs 101 rfl) (by decide) (by decide) hw143 (Or.inl rfl) ?_
  exact hf_callV (c := 1) (as := [.int x2, .int (I 101 14)]) ok_X1_wordWidth dX1_isAsSeen_6 hw691 hw479 hw480 (hs.2.1 101 _ rfl) (by decide) (hf_lin hs 101 rfl) rfl (Nat.le_of_ble_eq_true rfl) rfl (Nat.le_of_ble_eq_true rfl) (Nat.zero_le _) (Nat.zero_le _) (hf_mono (fun r M q => hf_drop (l' := [some (.ref 101), some (.int x1), none, none, none, none, none]) (by simp [hf_sub]) q) h)

set_option maxHeartbeats 4000000 in
theorem w_X1_isAsSeen_9 {X : hf_X} {d k n t : Nat} {T : hf_T} {I : hf_I} {L : hf_L} {P : hf_P} {Q : Option Value → hf_M → Prop} {x1 : Int32} {s0 : Int32} (hs : hf_Lay t T P) (h : vp_in x1 12 ∧ (hf_G X Y_X1_wordWidth d 0 0 0 (hf_en [.ref 101, .int (I 115 x1.toNatClampNeg), .int (I 101 14)] 6) [] (t, T, I, L, P) (fun r M => hf_G X Y_X1_isAsSeen (d + 1) k n 26 [some (.ref 101), some (.int x1), none, none, none, none, none] (r.toList ++ [.int s0]) M Q))) : hf_G X Y_X1_isAsSeen (d + 1) k n 9 [some (.ref 101), some (.int x1), none, none, none, none, none] [.int s0] (t, T, I, L, P) Q := by
  refine hf_aload_n dX1_isAsSeen_9 rfl rfl ?_
  refine hf_aload_n dX1_isAsSeen_10 rfl rfl ?_
  refine hf_getr (b := 114) (c := 1) (j := 7) dX1_isAsSeen_11 (hs.2.1 101 _ rfl) (hf_lin hs 101 rfl) (by decide) (by decide) hw121 rfl (hs.2.2 101 7 _ rfl) ?_
  refine hf_getr (b := 115) (c := 3) (j := 0) dX1_isAsSeen_14 (hs.2.1 114 _ rfl) (hf_lin hs 114 rfl) (by decide) (by decide) hw81 rfl (hs.2.2 114 0 _ rfl) ?_
  refine hf_iload_n dX1_isAsSeen_17 rfl rfl ?_
  refine hf_iald dX1_isAsSeen_18 (hs.2.1 115 _ rfl) (hf_lin hs 115 rfl) h.1 ?_
  replace h := h.2
  refine hf_aload_n dX1_isAsSeen_19 rfl rfl ?_
  refine hf_geti (c := 1) (j := 14) dX1_isAsSeen_20 (hs.2.1 101 _ rfl) (hf_lin hs 101 rfl) (by decide) (by decide) hw143 (Or.inl rfl) ?_
  exact hf_callV (c := 1) (as := [.int (I 115 x1.toNatClampNeg), .int (I 101 14)]) ok_X1_wordWidth dX1_isAsSeen_23 hw691 hw479 hw480 (hs.2.1 101 _ rfl) (by decide) (hf_lin hs 101 rfl) rfl (Nat.le_of_ble_eq_true rfl) rfl (Nat.le_of_ble_eq_true rfl) (Nat.zero_le _) (Nat.zero_le _) h

set_option maxHeartbeats 4000000 in
theorem w_X1_isAsSeen_26 {X : hf_X} {d k n t : Nat} {T : hf_T} {I : hf_I} {L : hf_L} {P : hf_P} {Q : Option Value → hf_M → Prop} {x1 : Int32} {s0 : Int32} {s1 : Int32} (hs : hf_Lay t T P) (h : hf_G X Y_X1_isAsSeen d k n 31 [some (.ref 101), some (.int x1), none, some (.int (s1 - s0)), some (.int 0), none, none] [] (t, T, I, L, P) Q) : hf_G X Y_X1_isAsSeen d k n 26 [some (.ref 101), some (.int x1), none, none, none, none, none] [.int s0, .int s1] (t, T, I, L, P) Q := by
  refine hf_isub dX1_isAsSeen_26 ?_
  refine hf_istore_n (l2 := [some (.ref 101), some (.int x1), none, some (.int (s1 - s0)), none, none, none]) dX1_isAsSeen_27 rfl (by decide) rfl ?_
  refine hf_iconst (v := 0) dX1_isAsSeen_28 (by decide) ?_
  refine hf_istore (l2 := [some (.ref 101), some (.int x1), none, some (.int (s1 - s0)), some (.int 0), none, none]) dX1_isAsSeen_29 (by decide) rfl ?_
  exact h

set_option maxHeartbeats 4000000 in
theorem w_X1_isAsSeen_31 {X : hf_X} {d k n t : Nat} {T : hf_T} {I : hf_I} {L : hf_L} {P : hf_P} {Q : Option Value → hf_M → Prop} {x1 : Int32} {x3 : Int32} {x4 : Int32} (hs : hf_Lay t T P) (h : ((I 101 18) ≤ x4 → Q (some (.int 1)) (t, T, I, L, P)) ∧ (¬ ((I 101 18) ≤ x4) → vp_in (2 * x4) 8 ∧ (hf_G X Y_X1_lineWidth d 0 0 0 (hf_en [.ref 101, .int (I 117 (((2 * x4)).toNatClampNeg))] 5) [] (t, T, I, L, P) (fun r M => hf_G X Y_X1_isAsSeen (d + 1) k n 57 [some (.ref 101), some (.int x1), none, some (.int x3), some (.int x4), some (.int (I 117 (((2 * x4)).toNatClampNeg))), none] (r.toList ++ []) M Q)))) : hf_G X Y_X1_isAsSeen (d + 1) k n 31 [some (.ref 101), some (.int x1), none, some (.int x3), some (.int x4), none, none] [] (t, T, I, L, P) Q := by
  refine hf_iload dX1_isAsSeen_31 rfl ?_
  refine hf_aload_n dX1_isAsSeen_33 rfl rfl ?_
  refine hf_geti (c := 1) (j := 18) dX1_isAsSeen_34 (hs.2.1 101 _ rfl) (hf_lin hs 101 rfl) (by decide) (by decide) hw156 (Or.inl rfl) ?_
  refine hf_icmp_ge (tgt := 103) dX1_isAsSeen_37 (by decide) (fun hc => ?_) (fun hc => ?_)
  · replace h := h.1 hc
    refine hf_iconst (v := 1) dX1_isAsSeen_103 (by decide) ?_
    refine hf_ireturn dX1_isAsSeen_104 rfl (by decide) ?_
    exact h
  · replace h := h.2 hc
    refine hf_aload_n dX1_isAsSeen_40 rfl rfl ?_
    refine hf_getr (b := 117) (c := 1) (j := 8) dX1_isAsSeen_41 (hs.2.1 101 _ rfl) (hf_lin hs 101 rfl) (by decide) (by decide) hw125 rfl (hs.2.2 101 8 _ rfl) ?_
    refine hf_iconst (v := 2) dX1_isAsSeen_44 (by decide) ?_
    refine hf_iload dX1_isAsSeen_45 rfl ?_
    refine hf_imul dX1_isAsSeen_47 ?_
    refine hf_iald dX1_isAsSeen_48 (hs.2.1 117 _ rfl) (hf_lin hs 117 rfl) h.1 ?_
    replace h := h.2
    refine hf_istore (l2 := [some (.ref 101), some (.int x1), none, some (.int x3), some (.int x4), some (.int (I 117 (((2 * x4)).toNatClampNeg))), none]) dX1_isAsSeen_49 (by decide) rfl ?_
    refine hf_aload_n dX1_isAsSeen_51 rfl rfl ?_
    refine hf_iload dX1_isAsSeen_52 rfl ?_
    exact hf_callV (c := 1) (as := [.int (I 117 (((2 * x4)).toNatClampNeg))]) ok_X1_lineWidth dX1_isAsSeen_54 hw962 hw688 hw689 (hs.2.1 101 _ rfl) (by decide) (hf_lin hs 101 rfl) rfl (Nat.le_of_ble_eq_true rfl) rfl (Nat.le_of_ble_eq_true rfl) (Nat.zero_le _) (Nat.zero_le _) h

set_option maxHeartbeats 4000000 in
theorem w_X1_isAsSeen_57 {X : hf_X} {d k n t : Nat} {T : hf_T} {I : hf_I} {L : hf_L} {P : hf_P} {Q : Option Value → hf_M → Prop} {x1 : Int32} {x3 : Int32} {x4 : Int32} {x5 : Int32} {s0 : Int32} (hs : hf_Lay t T P) (h : vp_in x1 12 ∧ ((¬ x5 = (I 116 x1.toNatClampNeg) → vp_in ((2 * x4) + 1) 8 ∧ (((s0 + 0) = (I 117 ((((2 * x4) + 1)).toNatClampNeg)) → hf_G X Y_X1_isAsSeen d k n 31 [some (.ref 101), some (.int x1), none, some (.int x3), some (.int (x4 + 1)), none, none] [] (t, T, I, L, P) Q) ∧ (¬ ((s0 + 0) = (I 117 ((((2 * x4) + 1)).toNatClampNeg))) → Q (some (.int 0)) (t, T, I, L, P)))) ∧ (x5 = (I 116 x1.toNatClampNeg) → vp_in ((2 * x4) + 1) 8 ∧ (((s0 + x3) = (I 117 ((((2 * x4) + 1)).toNatClampNeg)) → hf_G X Y_X1_isAsSeen d k n 31 [some (.ref 101), some (.int x1), none, some (.int x3), some (.int (x4 + 1)), none, none] [] (t, T, I, L, P) Q) ∧ (¬ ((s0 + x3) = (I 117 ((((2 * x4) + 1)).toNatClampNeg))) → Q (some (.int 0)) (t, T, I, L, P)))))) : hf_G X Y_X1_isAsSeen d k n 57 [some (.ref 101), some (.int x1), none, some (.int x3), some (.int x4), some (.int x5), none] [.int s0] (t, T, I, L, P) Q := by
  refine hf_iload dX1_isAsSeen_57 rfl ?_
  refine hf_aload_n dX1_isAsSeen_59 rfl rfl ?_
  refine hf_getr (b := 114) (c := 1) (j := 7) dX1_isAsSeen_60 (hs.2.1 101 _ rfl) (hf_lin hs 101 rfl) (by decide) (by decide) hw121 rfl (hs.2.2 101 7 _ rfl) ?_
  refine hf_getr (b := 116) (c := 3) (j := 1) dX1_isAsSeen_63 (hs.2.1 114 _ rfl) (hf_lin hs 114 rfl) (by decide) (by decide) hw85 rfl (hs.2.2 114 1 _ rfl) ?_
  refine hf_iload_n dX1_isAsSeen_66 rfl rfl ?_
  refine hf_iald dX1_isAsSeen_67 (hs.2.1 116 _ rfl) (hf_lin hs 116 rfl) h.1 ?_
  replace h := h.2
  refine hf_icmp_ne (tgt := 75) dX1_isAsSeen_68 (by decide) (fun hc => ?_) (fun hc => ?_)
  · replace h := h.1 hc
    refine hf_iconst (v := 0) dX1_isAsSeen_75 (by decide) ?_
    refine hf_iadd dX1_isAsSeen_76 ?_
    refine hf_istore (l2 := [some (.ref 101), some (.int x1), none, some (.int x3), some (.int x4), some (.int x5), some (.int (s0 + 0))]) dX1_isAsSeen_77 (by decide) rfl ?_
    refine hf_iload dX1_isAsSeen_79 rfl ?_
    refine hf_aload_n dX1_isAsSeen_81 rfl rfl ?_
    refine hf_getr (b := 117) (c := 1) (j := 8) dX1_isAsSeen_82 (hs.2.1 101 _ rfl) (hf_lin hs 101 rfl) (by decide) (by decide) hw125 rfl (hs.2.2 101 8 _ rfl) ?_
    refine hf_iconst (v := 2) dX1_isAsSeen_85 (by decide) ?_
    refine hf_iload dX1_isAsSeen_86 rfl ?_
    refine hf_imul dX1_isAsSeen_88 ?_
    refine hf_iconst (v := 1) dX1_isAsSeen_89 (by decide) ?_
    refine hf_iadd dX1_isAsSeen_90 ?_
    refine hf_iald dX1_isAsSeen_91 (hs.2.1 117 _ rfl) (hf_lin hs 117 rfl) h.1 ?_
    replace h := h.2
    refine hf_icmp_eq (tgt := 97) dX1_isAsSeen_92 (by decide) (fun hc => ?_) (fun hc => ?_)
    · replace h := h.1 hc
      refine hf_iinc (v := (x4 + 1)) (l2 := [some (.ref 101), some (.int x1), none, some (.int x3), some (.int (x4 + 1)), some (.int x5), some (.int (s0 + 0))]) dX1_isAsSeen_97 (by decide) rfl rfl rfl ?_
      refine hf_goto (tgt := 31) dX1_isAsSeen_100 (by decide) ?_
      refine hf_drop (l' := [some (.ref 101), some (.int x1), none, some (.int x3), some (.int (x4 + 1)), none, none]) (by simp [hf_sub]) ?_
      exact h
    · replace h := h.2 hc
      refine hf_iconst (v := 0) dX1_isAsSeen_95 (by decide) ?_
      refine hf_ireturn dX1_isAsSeen_96 rfl (by decide) ?_
      exact h
  · replace h := h.2 hc
    refine hf_iload_n dX1_isAsSeen_71 rfl rfl ?_
    refine hf_goto (tgt := 76) dX1_isAsSeen_72 (by decide) ?_
    refine hf_iadd dX1_isAsSeen_76 ?_
    refine hf_istore (l2 := [some (.ref 101), some (.int x1), none, some (.int x3), some (.int x4), some (.int x5), some (.int (s0 + x3))]) dX1_isAsSeen_77 (by decide) rfl ?_
    refine hf_iload dX1_isAsSeen_79 rfl ?_
    refine hf_aload_n dX1_isAsSeen_81 rfl rfl ?_
    refine hf_getr (b := 117) (c := 1) (j := 8) dX1_isAsSeen_82 (hs.2.1 101 _ rfl) (hf_lin hs 101 rfl) (by decide) (by decide) hw125 rfl (hs.2.2 101 8 _ rfl) ?_
    refine hf_iconst (v := 2) dX1_isAsSeen_85 (by decide) ?_
    refine hf_iload dX1_isAsSeen_86 rfl ?_
    refine hf_imul dX1_isAsSeen_88 ?_
    refine hf_iconst (v := 1) dX1_isAsSeen_89 (by decide) ?_
    refine hf_iadd dX1_isAsSeen_90 ?_
    refine hf_iald dX1_isAsSeen_91 (hs.2.1 117 _ rfl) (hf_lin hs 117 rfl) h.1 ?_
    replace h := h.2
    refine hf_icmp_eq (tgt := 97) dX1_isAsSeen_92 (by decide) (fun hc => ?_) (fun hc => ?_)
    · replace h := h.1 hc
      refine hf_iinc (v := (x4 + 1)) (l2 := [some (.ref 101), some (.int x1), none, some (.int x3), some (.int (x4 + 1)), some (.int x5), some (.int (s0 + x3))]) dX1_isAsSeen_97 (by decide) rfl rfl rfl ?_
      refine hf_goto (tgt := 31) dX1_isAsSeen_100 (by decide) ?_
      refine hf_drop (l' := [some (.ref 101), some (.int x1), none, some (.int x3), some (.int (x4 + 1)), none, none]) (by simp [hf_sub]) ?_
      exact h
    · replace h := h.2 hc
      refine hf_iconst (v := 0) dX1_isAsSeen_95 (by decide) ?_
      refine hf_ireturn dX1_isAsSeen_96 rfl (by decide) ?_
      exact h
