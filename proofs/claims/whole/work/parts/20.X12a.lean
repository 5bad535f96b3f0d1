set_option maxHeartbeats 4000000 in
theorem w_X12_lies_0 {X : hf_X} {d k n t : Nat} {T : hf_T} {I : hf_I} {L : hf_L} {P : hf_P} {Q : Option Value → hf_M → Prop} {x0 : Int32} {x1 : Int32} {x2 : Int32} (hs : hf_Lay t T P) (h : (x0 < x1 → Q (some (.int 0)) (t, T, I, L, P)) ∧ (¬ (x0 < x1) → (x2 < x0 → Q (some (.int 0)) (t, T, I, L, P)) ∧ (¬ (x2 < x0) → Q (some (.int 1)) (t, T, I, L, P)))) : hf_G X Y_X12_lies d k n 0 (hf_en [.int x0, .int x1, .int x2] 3) [] (t, T, I, L, P) Q := by
  show hf_G X Y_X12_lies d k n 0 [some (.int x0), some (.int x1), some (.int x2)] [] (t, T, I, L, P) Q
  refine hf_iload_n dX12_lies_0 rfl rfl ?_
  refine hf_iload_n dX12_lies_1 rfl rfl ?_
  refine hf_icmp_lt (tgt := 14) dX12_lies_2 (by decide) (fun hc => ?_) (fun hc => ?_)
  · replace h := h.1 hc
    refine hf_iconst (v := 0) dX12_lies_14 (by decide) ?_
    refine hf_ireturn dX12_lies_15 rfl (by decide) ?_
    exact h
  · replace h := h.2 hc
    refine hf_iload_n dX12_lies_5 rfl rfl ?_
    refine hf_iload_n dX12_lies_6 rfl rfl ?_
    refine hf_icmp_gt (tgt := 14) dX12_lies_7 (by decide) (fun hc => ?_) (fun hc => ?_)
    · replace h := h.1 hc
      refine hf_iconst (v := 0) dX12_lies_14 (by decide) ?_
      refine hf_ireturn dX12_lies_15 rfl (by decide) ?_
      exact h
    · replace h := h.2 hc
      refine hf_iconst (v := 1) dX12_lies_10 (by decide) ?_
      refine hf_goto (tgt := 15) dX12_lies_11 (by decide) ?_
      refine hf_ireturn dX12_lies_15 rfl (by decide) ?_
      exact h

set_option maxHeartbeats 4000000 in
theorem w_X12_refuses_0 {X : hf_X} {d k n t : Nat} {T : hf_T} {I : hf_I} {L : hf_L} {P : hf_P} {Q : Option Value → hf_M → Prop} {x1 : Int32} (hs : hf_Lay t T P) (h : vp_in (-x1) 7 ∧ (vp_in (-x1) 7 ∧ (Q (some (.int x1)) (t, T, (hf_up (hf_up I 156 0 x1) 157 (((-x1)).toNatClampNeg) ((I 157 (((-x1)).toNatClampNeg)) + 1)), L, P)))) : hf_G X Y_X12_refuses d k n 0 (hf_en [.ref 156, .int x1] 2) [] (t, T, I, L, P) Q := by
  show hf_G X Y_X12_refuses d k n 0 [some (.ref 156), some (.int x1)] [] (t, T, I, L, P) Q
  refine hf_aload_n dX12_refuses_0 rfl rfl ?_
  refine hf_iload_n dX12_refuses_1 rfl rfl ?_
  refine hf_puti (c := 12) (j := 0) dX12_refuses_2 (hs.2.1 156 _ rfl) (hf_lin hs 156 rfl) (by decide) (by decide) hw1036 rfl rfl ?_
  refine hf_aload_n dX12_refuses_5 rfl rfl ?_
  refine hf_getr (b := 157) (c := 12) (j := 1) dX12_refuses_6 (hs.2.1 156 _ rfl) (hf_lin hs 156 rfl) (by decide) (by decide) hw1037 rfl (hs.2.2 156 1 _ rfl) ?_
  refine hf_iload_n dX12_refuses_9 rfl rfl ?_
  refine hf_ineg dX12_refuses_10 ?_
  refine hf_dup2 dX12_refuses_11 rfl rfl ?_
  refine hf_iald dX12_refuses_12 (hs.2.1 157 _ rfl) (hf_lin hs 157 rfl) h.1 ?_
  replace h := h.2
  refine hf_iconst (v := 1) dX12_refuses_13 (by decide) ?_
  refine hf_iadd dX12_refuses_14 ?_
  refine hf_iast dX12_refuses_15 (hs.2.1 157 _ rfl) (hf_lin hs 157 rfl) h.1 ?_
  replace h := h.2
  refine hf_iload_n dX12_refuses_16 rfl rfl ?_
  refine hf_ireturn dX12_refuses_17 rfl rfl ?_
  exact h

set_option maxHeartbeats 4000000 in
theorem w_X12_good_0 {X : hf_X} {d k n t : Nat} {T : hf_T} {I : hf_I} {L : hf_L} {P : hf_P} {Q : Option Value → hf_M → Prop} {x1 : Int32} (hs : hf_Lay t T P) (h : Q (some (.int x1)) (t, T, (hf_up I 156 0 0), L, P)) : hf_G X Y_X12_good d k n 0 (hf_en [.ref 156, .int x1] 2) [] (t, T, I, L, P) Q := by
  show hf_G X Y_X12_good d k n 0 [some (.ref 156), some (.int x1)] [] (t, T, I, L, P) Q
  refine hf_aload_n dX12_good_0 rfl rfl ?_
  refine hf_iconst (v := 0) dX12_good_1 (by decide) ?_
  refine hf_puti (c := 12) (j := 0) dX12_good_2 (hs.2.1 156 _ rfl) (hf_lin hs 156 rfl) (by decide) (by decide) hw1036 rfl rfl ?_
  refine hf_iload_n dX12_good_5 rfl rfl ?_
  refine hf_ireturn dX12_good_6 rfl rfl ?_
  exact h

set_option maxHeartbeats 4000000 in
theorem w_X12_settled_0 {X : hf_X} {d k n t : Nat} {T : hf_T} {I : hf_I} {L : hf_L} {P : hf_P} {Q : Option Value → hf_M → Prop} {x1 : Int32} (hs : hf_Lay t T P) (h : Q (some (.int x1)) (t, T, (hf_up (hf_up I 156 27 0) 156 0 0), L, P)) : hf_G X Y_X12_settled (d + 1) k n 0 (hf_en [.ref 156, .int x1] 2) [] (t, T, I, L, P) Q := by
  show hf_G X Y_X12_settled (d + 1) k n 0 [some (.ref 156), some (.int x1)] [] (t, T, I, L, P) Q
  refine hf_aload_n dX12_settled_0 rfl rfl ?_
  refine hf_iconst (v := 0) dX12_settled_1 (by decide) ?_
  refine hf_puti (c := 12) (j := 27) dX12_settled_2 (hs.2.1 156 _ rfl) (hf_lin hs 156 rfl) (by decide) (by decide) hw1063 rfl rfl ?_
  refine hf_aload_n dX12_settled_5 rfl rfl ?_
  refine hf_iload_n dX12_settled_6 rfl rfl ?_
  refine hf_callV (c := 12) (as := [.int x1]) ok_X12_good dX12_settled_7 hw1149 hw1150 hw1602 (hs.2.1 156 _ rfl) (by decide) (hf_lin hs 156 rfl) rfl (Nat.le_of_ble_eq_true rfl) rfl (Nat.le_of_ble_eq_true rfl) (Nat.zero_le _) (Nat.zero_le _) ?_
  show hf_G X Y_X12_good d _ _ 0 [some (.ref 156), some (.int x1)] [] (t, T, (hf_up I 156 27 0), L, P) _
  refine hf_aload_n dX12_good_0 rfl rfl ?_
  refine hf_iconst (v := 0) dX12_good_1 (by decide) ?_
  refine hf_puti (c := 12) (j := 0) dX12_good_2 (hs.2.1 156 _ rfl) (hf_lin hs 156 rfl) (by decide) (by decide) hw1036 rfl rfl ?_
  refine hf_iload_n dX12_good_5 rfl rfl ?_
  refine hf_ireturn dX12_good_6 rfl rfl ?_
  show hf_G X Y_X12_settled (d + 1) _ _ 10 [some (.ref 156), some (.int x1)] [.int x1] (t, T, (hf_up (hf_up I 156 27 0) 156 0 0), L, P) _
  refine hf_ireturn dX12_settled_10 rfl rfl ?_
  exact h

set_option maxHeartbeats 4000000 in
theorem w_X12_isIn_0 {X : hf_X} {d k n t : Nat} {T : hf_T} {I : hf_I} {L : hf_L} {P : hf_P} {Q : Option Value → hf_M → Prop} {x0 : Int32} {x1 : Int32} (hs : hf_Lay t T P) (h : (¬ ((x0 >>> (x1 &&& 31)) &&& 1) = 1 → Q (some (.int 0)) (t, T, I, L, P)) ∧ (((x0 >>> (x1 &&& 31)) &&& 1) = 1 → Q (some (.int 1)) (t, T, I, L, P))) : hf_G X Y_X12_isIn d k n 0 (hf_en [.int x0, .int x1] 2) [] (t, T, I, L, P) Q := by
  show hf_G X Y_X12_isIn d k n 0 [some (.int x0), some (.int x1)] [] (t, T, I, L, P) Q
  refine hf_iload_n dX12_isIn_0 rfl rfl ?_
  refine hf_iload_n dX12_isIn_1 rfl rfl ?_
  refine hf_ishr dX12_isIn_2 ?_
  refine hf_iconst (v := 1) dX12_isIn_3 (by decide) ?_
  refine hf_iand dX12_isIn_4 ?_
  refine hf_iconst (v := 1) dX12_isIn_5 (by decide) ?_
  refine hf_icmp_ne (tgt := 13) dX12_isIn_6 (by decide) (fun hc => ?_) (fun hc => ?_)
  · replace h := h.1 hc
    refine hf_iconst (v := 0) dX12_isIn_13 (by decide) ?_
    refine hf_ireturn dX12_isIn_14 rfl (by decide) ?_
    exact h
  · replace h := h.2 hc
    refine hf_iconst (v := 1) dX12_isIn_9 (by decide) ?_
    refine hf_goto (tgt := 14) dX12_isIn_10 (by decide) ?_
    refine hf_ireturn dX12_isIn_14 rfl (by decide) ?_
    exact h

set_option maxHeartbeats 4000000 in
theorem w_X12_ones_0 {X : hf_X} {d k n t : Nat} {T : hf_T} {I : hf_I} {L : hf_L} {P : hf_P} {Q : Option Value → hf_M → Prop} {x0 : Int32} (hs : hf_Lay t T P) (h : hf_G X Y_X12_ones d k n 4 [some (.int x0), some (.int 0), some (.int 0)] [] (t, T, I, L, P) Q) : hf_G X Y_X12_ones d k n 0 (hf_en [.int x0] 3) [] (t, T, I, L, P) Q := by
  show hf_G X Y_X12_ones d k n 0 [some (.int x0), none, none] [] (t, T, I, L, P) Q
  refine hf_iconst (v := 0) dX12_ones_0 (by decide) ?_
  refine hf_istore_n (l2 := [some (.int x0), some (.int 0), none]) dX12_ones_1 rfl (by decide) rfl ?_
  refine hf_iconst (v := 0) dX12_ones_2 (by decide) ?_
  refine hf_istore_n (l2 := [some (.int x0), some (.int 0), some (.int 0)]) dX12_ones_3 rfl (by decide) rfl ?_
  exact h

set_option maxHeartbeats 4000000 in
theorem w_X12_ones_4 {X : hf_X} {d k n t : Nat} {T : hf_T} {I : hf_I} {L : hf_L} {P : hf_P} {Q : Option Value → hf_M → Prop} {x0 : Int32} {x1 : Int32} {x2 : Int32} (hs : hf_Lay t T P) (h : (8 ≤ x2 → Q (some (.int x1)) (t, T, I, L, P)) ∧ (¬ (8 ≤ x2) → hf_G X Y_X12_ones d k n 4 [some (.int x0), some (.int (x1 + ((x0 >>> (x2 &&& 31)) &&& 1))), some (.int (x2 + 1))] [] (t, T, I, L, P) Q)) : hf_G X Y_X12_ones d k n 4 [some (.int x0), some (.int x1), some (.int x2)] [] (t, T, I, L, P) Q := by
  refine hf_iload_n dX12_ones_4 rfl rfl ?_
  refine hf_bipush (v := 8) dX12_ones_5 (by decide) ?_
  refine hf_icmp_ge (tgt := 24) dX12_ones_7 (by decide) (fun hc => ?_) (fun hc => ?_)
  · replace h := h.1 hc
    refine hf_iload_n dX12_ones_24 rfl rfl ?_
    refine hf_ireturn dX12_ones_25 rfl rfl ?_
    exact h
  · replace h := h.2 hc
    refine hf_iload_n dX12_ones_10 rfl rfl ?_
    refine hf_iload_n dX12_ones_11 rfl rfl ?_
    refine hf_iload_n dX12_ones_12 rfl rfl ?_
    refine hf_ishr dX12_ones_13 ?_
    refine hf_iconst (v := 1) dX12_ones_14 (by decide) ?_
    refine hf_iand dX12_ones_15 ?_
    refine hf_iadd dX12_ones_16 ?_
    refine hf_istore_n (l2 := [some (.int x0), some (.int (x1 + ((x0 >>> (x2 &&& 31)) &&& 1))), some (.int x2)]) dX12_ones_17 rfl (by decide) rfl ?_
    refine hf_iinc (v := (x2 + 1)) (l2 := [some (.int x0), some (.int (x1 + ((x0 >>> (x2 &&& 31)) &&& 1))), some (.int (x2 + 1))]) dX12_ones_18 (by decide) rfl rfl rfl ?_
    refine hf_goto (tgt := 4) dX12_ones_21 (by decide) ?_
    exact h

set_option maxHeartbeats 4000000 in
theorem w_X12_greater_0 {X : hf_X} {d k n t : Nat} {T : hf_T} {I : hf_I} {L : hf_L} {P : hf_P} {Q : Option Value → hf_M → Prop} {x0 : Int32} {x1 : Int32} (hs : hf_Lay t T P) (h : (x0 ≤ x1 → Q (some (.int x1)) (t, T, I, L, P)) ∧ (¬ (x0 ≤ x1) → Q (some (.int x0)) (t, T, I, L, P))) : hf_G X Y_X12_greater d k n 0 (hf_en [.int x0, .int x1] 2) [] (t, T, I, L, P) Q := by
  show hf_G X Y_X12_greater d k n 0 [some (.int x0), some (.int x1)] [] (t, T, I, L, P) Q
  refine hf_iload_n dX12_greater_0 rfl rfl ?_
  refine hf_iload_n dX12_greater_1 rfl rfl ?_
  refine hf_icmp_le (tgt := 9) dX12_greater_2 (by decide) (fun hc => ?_) (fun hc => ?_)
  · replace h := h.1 hc
    refine hf_iload_n dX12_greater_9 rfl rfl ?_
    refine hf_ireturn dX12_greater_10 rfl rfl ?_
    exact h
  · replace h := h.2 hc
    refine hf_iload_n dX12_greater_5 rfl rfl ?_
    refine hf_goto (tgt := 10) dX12_greater_6 (by decide) ?_
    refine hf_ireturn dX12_greater_10 rfl rfl ?_
    exact h

set_option maxHeartbeats 4000000 in
theorem w_X12_common_0 {X : hf_X} {d k n t : Nat} {T : hf_T} {I : hf_I} {L : hf_L} {P : hf_P} {Q : Option Value → hf_M → Prop} {x0 : Int64} {x2 : Int64} (hs : hf_Lay t T P) (h : hf_G X Y_X12_common d k n 6 [none, none, none, none, some (.long x0), none, some (.long x2), none, none, none] [] (t, T, I, L, P) Q) : hf_G X Y_X12_common d k n 0 (hf_en [.long x0, .long x2] 10) [] (t, T, I, L, P) Q := by
  show hf_G X Y_X12_common d k n 0 [some (.long x0), none, some (.long x2), none, none, none, none, none, none, none] [] (t, T, I, L, P) Q
  refine hf_lload_n dX12_common_0 rfl rfl ?_
  refine hf_lstore (l2 := [some (.long x0), none, some (.long x2), none, some (.long x0), none, none, none, none, none]) dX12_common_1 (by decide) rfl ?_
  refine hf_lload_n dX12_common_3 rfl rfl ?_
  refine hf_lstore (l2 := [some (.long x0), none, some (.long x2), none, some (.long x0), none, some (.long x2), none, none, none]) dX12_common_4 (by decide) rfl ?_
  refine hf_drop (l' := [none, none, none, none, some (.long x0), none, some (.long x2), none, none, none]) (by simp [hf_sub]) ?_
  exact h

set_option maxHeartbeats 4000000 in
theorem w_X12_common_6 {X : hf_X} {d k n t : Nat} {T : hf_T} {I : hf_I} {L : hf_L} {P : hf_P} {Q : Option Value → hf_M → Prop} {x4 : Int64} {x6 : Int64} (hs : hf_Lay t T P) (h : ((lg_cmp x6 0) = 0 → Q (some (.long x4)) (t, T, I, L, P)) ∧ (¬ ((lg_cmp x6 0) = 0) → ¬ x6 = 0 ∧ (hf_G X Y_X12_common d k n 6 [none, none, none, none, some (.long x6), none, some (.long (x4 - x4 / x6 * x6)), none, none, none] [] (t, T, I, L, P) Q))) : hf_G X Y_X12_common d k n 6 [none, none, none, none, some (.long x4), none, some (.long x6), none, none, none] [] (t, T, I, L, P) Q := by
  refine hf_lload dX12_common_6 rfl ?_
  refine hf_lconst (v := 0) dX12_common_8 (by decide) ?_
  refine hf_lcmp dX12_common_9 ?_
  refine hf_if_eq (tgt := 31) dX12_common_10 (by decide) (fun hc => ?_) (fun hc => ?_)
  · replace h := h.1 hc
    refine hf_lload dX12_common_31 rfl ?_
    refine hf_lreturn dX12_common_33 rfl ?_
    exact h
  · replace h := h.2 hc
    refine hf_lload dX12_common_13 rfl ?_
    refine hf_lload dX12_common_15 rfl ?_
    refine hf_lrem dX12_common_17 h.1 ?_
    replace h := h.2
    refine hf_lstore (l2 := [none, none, none, none, some (.long x4), none, some (.long x6), none, some (.long (x4 - x4 / x6 * x6)), none]) dX12_common_18 (by decide) rfl ?_
    refine hf_lload dX12_common_20 rfl ?_
    refine hf_lstore (l2 := [none, none, none, none, some (.long x6), none, some (.long x6), none, some (.long (x4 - x4 / x6 * x6)), none]) dX12_common_22 (by decide) rfl ?_
    refine hf_lload dX12_common_24 rfl ?_
    refine hf_lstore (l2 := [none, none, none, none, some (.long x6), none, some (.long (x4 - x4 / x6 * x6)), none, some (.long (x4 - x4 / x6 * x6)), none]) dX12_common_26 (by decide) rfl ?_
    refine hf_goto (tgt := 6) dX12_common_28 (by decide) ?_
    refine hf_drop (l' := [none, none, none, none, some (.long x6), none, some (.long (x4 - x4 / x6 * x6)), none, none, none]) (by simp [hf_sub]) ?_
    exact h

set_option maxHeartbeats 4000000 in
theorem w_X12_image_0 {X : hf_X} {d k n t : Nat} {T : hf_T} {I : hf_I} {L : hf_L} {P : hf_P} {Q : Option Value → hf_M → Prop} {x1 : Int32} (hs : hf_Lay t T P) (h : (x1 < 0 → Q (some (.int (-1))) (t, T, (hf_up (hf_up I 156 0 (-1)) 157 1 ((I 157 1) + 1)), L, P)) ∧ (¬ (x1 < 0) → (1 < x1 → Q (some (.int (-1))) (t, T, (hf_up (hf_up I 156 0 (-1)) 157 1 ((I 157 1) + 1)), L, P)) ∧ (¬ (1 < x1) → hf_G X Y_X12_image (d + 1) k n 17 [some (.ref 156), some (.int x1), some (.int 0)] [] (t, T, I, L, P) Q))) : hf_G X Y_X12_image (d + 1) k n 0 (hf_en [.ref 156, .int x1] 3) [] (t, T, I, L, P) Q := by
  show hf_G X Y_X12_image (d + 1) k n 0 [some (.ref 156), some (.int x1), none] [] (t, T, I, L, P) Q
  refine hf_iload_n dX12_image_0 rfl rfl ?_
  refine hf_iconst (v := 0) dX12_image_1 (by decide) ?_
  refine hf_iconst (v := 1) dX12_image_2 (by decide) ?_
  refine hf_callS (as := [.int x1, .int 0, .int 1]) ok_X12_lies dX12_image_3 hw1143 hw1144 rfl (Nat.le_of_ble_eq_true rfl) rfl (Nat.le_of_ble_eq_true rfl) (Nat.zero_le _) (Nat.zero_le _) ?_
  show hf_G X Y_X12_lies d _ _ 0 [some (.int x1), some (.int 0), some (.int 1)] [] (t, T, I, L, P) _
  refine hf_iload_n dX12_lies_0 rfl rfl ?_
  refine hf_iload_n dX12_lies_1 rfl rfl ?_
  refine hf_icmp_lt (tgt := 14) dX12_lies_2 (by decide) (fun hc => ?_) (fun hc => ?_)
  · replace h := h.1 hc
    refine hf_iconst (v := 0) dX12_lies_14 (by decide) ?_
    refine hf_ireturn dX12_lies_15 rfl (by decide) ?_
    show hf_G X Y_X12_image (d + 1) _ _ 6 [some (.ref 156), some (.int x1), none] [.int 0] (t, T, I, L, P) _
    refine hf_if_ne (tgt := 15) dX12_image_6 (by decide) (fun hc => absurd (show ¬ (0 : Int32) = (0 : Int32) from hc) (by decide)) (fun _ => ?_)
    refine hf_aload_n dX12_image_9 rfl rfl ?_
    refine hf_iconst (v := (-1)) dX12_image_10 (by decide) ?_
    refine hf_callV (c := 12) (as := [.int (-1)]) ok_X12_refuses dX12_image_11 hw1146 hw1147 hw1601 (hs.2.1 156 _ rfl) (by decide) (hf_lin hs 156 rfl) rfl (Nat.le_of_ble_eq_true rfl) rfl (Nat.le_of_ble_eq_true rfl) (Nat.zero_le _) (Nat.zero_le _) ?_
    show hf_G X Y_X12_refuses d _ _ 0 [some (.ref 156), some (.int (-1))] [] (t, T, I, L, P) _
    refine hf_aload_n dX12_refuses_0 rfl rfl ?_
    refine hf_iload_n dX12_refuses_1 rfl rfl ?_
    refine hf_puti (c := 12) (j := 0) dX12_refuses_2 (hs.2.1 156 _ rfl) (hf_lin hs 156 rfl) (by decide) (by decide) hw1036 rfl rfl ?_
    refine hf_aload_n dX12_refuses_5 rfl rfl ?_
    refine hf_getr (b := 157) (c := 12) (j := 1) dX12_refuses_6 (hs.2.1 156 _ rfl) (hf_lin hs 156 rfl) (by decide) (by decide) hw1037 rfl (hs.2.2 156 1 _ rfl) ?_
    refine hf_iload_n dX12_refuses_9 rfl rfl ?_
    refine hf_ineg dX12_refuses_10 ?_
    rw [show (-(-1) : Int32) = 1 by decide]
    refine hf_dup2 dX12_refuses_11 rfl rfl ?_
    refine hf_iald_k (j := 1) (by decide) dX12_refuses_12 (hs.2.1 157 _ rfl) (hf_lin hs 157 rfl) (hf_vin (by decide)) ?_
    refine hf_iconst (v := 1) dX12_refuses_13 (by decide) ?_
    refine hf_iadd dX12_refuses_14 ?_
    refine hf_iast_k (j := 1) (by decide) dX12_refuses_15 (hs.2.1 157 _ rfl) (hf_lin hs 157 rfl) (hf_vin (by decide)) ?_
    refine hf_iload_n dX12_refuses_16 rfl rfl ?_
    refine hf_ireturn dX12_refuses_17 rfl rfl ?_
    show hf_G X Y_X12_image (d + 1) _ _ 14 [some (.ref 156), some (.int x1), none] [.int (-1)] (t, T, (hf_up (hf_up I 156 0 (-1)) 157 1 ((I 157 1) + 1)), L, P) _
    refine hf_ireturn dX12_image_14 rfl rfl ?_
    exact h
  · replace h := h.2 hc
    refine hf_iload_n dX12_lies_5 rfl rfl ?_
    refine hf_iload_n dX12_lies_6 rfl rfl ?_
    refine hf_icmp_gt (tgt := 14) dX12_lies_7 (by decide) (fun hc => ?_) (fun hc => ?_)
    · replace h := h.1 hc
      refine hf_iconst (v := 0) dX12_lies_14 (by decide) ?_
      refine hf_ireturn dX12_lies_15 rfl (by decide) ?_
      show hf_G X Y_X12_image (d + 1) _ _ 6 [some (.ref 156), some (.int x1), none] [.int 0] (t, T, I, L, P) _
      refine hf_if_ne (tgt := 15) dX12_image_6 (by decide) (fun hc => absurd (show ¬ (0 : Int32) = (0 : Int32) from hc) (by decide)) (fun _ => ?_)
      refine hf_aload_n dX12_image_9 rfl rfl ?_
      refine hf_iconst (v := (-1)) dX12_image_10 (by decide) ?_
      refine hf_callV (c := 12) (as := [.int (-1)]) ok_X12_refuses dX12_image_11 hw1146 hw1147 hw1601 (hs.2.1 156 _ rfl) (by decide) (hf_lin hs 156 rfl) rfl (Nat.le_of_ble_eq_true rfl) rfl (Nat.le_of_ble_eq_true rfl) (Nat.zero_le _) (Nat.zero_le _) ?_
      show hf_G X Y_X12_refuses d _ _ 0 [some (.ref 156), some (.int (-1))] [] (t, T, I, L, P) _
      refine hf_aload_n dX12_refuses_0 rfl rfl ?_
      refine hf_iload_n dX12_refuses_1 rfl rfl ?_
      refine hf_puti (c := 12) (j := 0) dX12_refuses_2 (hs.2.1 156 _ rfl) (hf_lin hs 156 rfl) (by decide) (by decide) hw1036 rfl rfl ?_
      refine hf_aload_n dX12_refuses_5 rfl rfl ?_
      refine hf_getr (b := 157) (c := 12) (j := 1) dX12_refuses_6 (hs.2.1 156 _ rfl) (hf_lin hs 156 rfl) (by decide) (by decide) hw1037 rfl (hs.2.2 156 1 _ rfl) ?_
      refine hf_iload_n dX12_refuses_9 rfl rfl ?_
      refine hf_ineg dX12_refuses_10 ?_
      rw [show (-(-1) : Int32) = 1 by decide]
      refine hf_dup2 dX12_refuses_11 rfl rfl ?_
      refine hf_iald_k (j := 1) (by decide) dX12_refuses_12 (hs.2.1 157 _ rfl) (hf_lin hs 157 rfl) (hf_vin (by decide)) ?_
      refine hf_iconst (v := 1) dX12_refuses_13 (by decide) ?_
      refine hf_iadd dX12_refuses_14 ?_
      refine hf_iast_k (j := 1) (by decide) dX12_refuses_15 (hs.2.1 157 _ rfl) (hf_lin hs 157 rfl) (hf_vin (by decide)) ?_
      refine hf_iload_n dX12_refuses_16 rfl rfl ?_
      refine hf_ireturn dX12_refuses_17 rfl rfl ?_
      show hf_G X Y_X12_image (d + 1) _ _ 14 [some (.ref 156), some (.int x1), none] [.int (-1)] (t, T, (hf_up (hf_up I 156 0 (-1)) 157 1 ((I 157 1) + 1)), L, P) _
      refine hf_ireturn dX12_image_14 rfl rfl ?_
      exact h
    · replace h := h.2 hc
      refine hf_iconst (v := 1) dX12_lies_10 (by decide) ?_
      refine hf_goto (tgt := 15) dX12_lies_11 (by decide) ?_
      refine hf_ireturn dX12_lies_15 rfl (by decide) ?_
      show hf_G X Y_X12_image (d + 1) _ _ 6 [some (.ref 156), some (.int x1), none] [.int 1] (t, T, I, L, P) _
      refine hf_if_ne (tgt := 15) dX12_image_6 (by decide) (fun _ => ?_) (fun hc => absurd (show (1 : Int32) = (0 : Int32) from hc) (by decide))
      refine hf_iconst (v := 0) dX12_image_15 (by decide) ?_
      refine hf_istore_n (l2 := [some (.ref 156), some (.int x1), some (.int 0)]) dX12_image_16 rfl (by decide) rfl ?_
      exact h

set_option maxHeartbeats 4000000 in
theorem w_X12_image_17 {X : hf_X} {d k n t : Nat} {T : hf_T} {I : hf_I} {L : hf_L} {P : hf_P} {Q : Option Value → hf_M → Prop} {x1 : Int32} {x2 : Int32} (hs : hf_Lay t T P) (h : (5929 ≤ x2 → vp_in x1 2 ∧ (Q (some (.int 0)) (t, T, (hf_up (hf_up I 160 x1.toNatClampNeg (vp_nar .boolean 1)) 156 0 0), L, P))) ∧ (¬ (5929 ≤ x2) → vp_in x2 5929 ∧ (vp_in ((5929 * x1) + x2) 11858 ∧ (hf_G X Y_X12_image (d + 1) k n 17 [some (.ref 156), some (.int x1), some (.int (x2 + 1))] [] (t, T, (hf_up I 159 ((((5929 * x1) + x2)).toNatClampNeg) (I 158 x2.toNatClampNeg)), L, P) Q)))) : hf_G X Y_X12_image (d + 1) k n 17 [some (.ref 156), some (.int x1), some (.int x2)] [] (t, T, I, L, P) Q := by
  refine hf_iload_n dX12_image_17 rfl rfl ?_
  refine hf_sipush (v := 5929) dX12_image_18 (by decide) ?_
  refine hf_icmp_ge (tgt := 48) dX12_image_21 (by decide) (fun hc => ?_) (fun hc => ?_)
  · replace h := h.1 hc
    refine hf_aload_n dX12_image_48 rfl rfl ?_
    refine hf_getr (b := 160) (c := 12) (j := 4) dX12_image_49 (hs.2.1 156 _ rfl) (hf_lin hs 156 rfl) (by decide) (by decide) hw1040 rfl (hs.2.2 156 4 _ rfl) ?_
    refine hf_iload_n dX12_image_52 rfl rfl ?_
    refine hf_iconst (v := 1) dX12_image_53 (by decide) ?_
    refine hf_zast dX12_image_54 (hs.2.1 160 _ rfl) (hf_lin hs 160 rfl) h.1 ?_
    replace h := h.2
    refine hf_aload_n dX12_image_55 rfl rfl ?_
    refine hf_iconst (v := 0) dX12_image_56 (by decide) ?_
    refine hf_callV (c := 12) (as := [.int 0]) ok_X12_good dX12_image_57 hw1149 hw1150 hw1602 (hs.2.1 156 _ rfl) (by decide) (hf_lin hs 156 rfl) rfl (Nat.le_of_ble_eq_true rfl) rfl (Nat.le_of_ble_eq_true rfl) (Nat.zero_le _) (Nat.zero_le _) ?_
    show hf_G X Y_X12_good d _ _ 0 [some (.ref 156), some (.int 0)] [] (t, T, (hf_up I 160 x1.toNatClampNeg (vp_nar .boolean 1)), L, P) _
    refine hf_aload_n dX12_good_0 rfl rfl ?_
    refine hf_iconst (v := 0) dX12_good_1 (by decide) ?_
    refine hf_puti (c := 12) (j := 0) dX12_good_2 (hs.2.1 156 _ rfl) (hf_lin hs 156 rfl) (by decide) (by decide) hw1036 rfl rfl ?_
    refine hf_iload_n dX12_good_5 rfl rfl ?_
    refine hf_ireturn dX12_good_6 rfl rfl ?_
    show hf_G X Y_X12_image (d + 1) _ _ 60 [some (.ref 156), some (.int x1), some (.int x2)] [.int 0] (t, T, (hf_up (hf_up I 160 x1.toNatClampNeg (vp_nar .boolean 1)) 156 0 0), L, P) _
    refine hf_ireturn dX12_image_60 rfl rfl ?_
    exact h
  · replace h := h.2 hc
    refine hf_aload_n dX12_image_24 rfl rfl ?_
    refine hf_getr (b := 159) (c := 12) (j := 3) dX12_image_25 (hs.2.1 156 _ rfl) (hf_lin hs 156 rfl) (by decide) (by decide) hw1039 rfl (hs.2.2 156 3 _ rfl) ?_
    refine hf_sipush (v := 5929) dX12_image_28 (by decide) ?_
    refine hf_iload_n dX12_image_31 rfl rfl ?_
    refine hf_imul dX12_image_32 ?_
    refine hf_iload_n dX12_image_33 rfl rfl ?_
    refine hf_iadd dX12_image_34 ?_
    refine hf_aload_n dX12_image_35 rfl rfl ?_
    refine hf_getr (b := 158) (c := 12) (j := 2) dX12_image_36 (hs.2.1 156 _ rfl) (hf_lin hs 156 rfl) (by decide) (by decide) hw1038 rfl (hs.2.2 156 2 _ rfl) ?_
    refine hf_iload_n dX12_image_39 rfl rfl ?_
    refine hf_iald dX12_image_40 (hs.2.1 158 _ rfl) (hf_lin hs 158 rfl) h.1 ?_
    replace h := h.2
    refine hf_iast dX12_image_41 (hs.2.1 159 _ rfl) (hf_lin hs 159 rfl) h.1 ?_
    replace h := h.2
    refine hf_iinc (v := (x2 + 1)) (l2 := [some (.ref 156), some (.int x1), some (.int (x2 + 1))]) dX12_image_42 (by decide) rfl rfl rfl ?_
    refine hf_goto (tgt := 17) dX12_image_45 (by decide) ?_
    exact h

set_option maxHeartbeats 4000000 in
theorem w_X12_back_0 {X : hf_X} {d k n t : Nat} {T : hf_T} {I : hf_I} {L : hf_L} {P : hf_P} {Q : Option Value → hf_M → Prop} {x1 : Int32} (hs : hf_Lay t T P) (h : (x1 < 0 → Q (some (.int (-1))) (t, T, (hf_up (hf_up I 156 0 (-1)) 157 1 ((I 157 1) + 1)), L, P)) ∧ (¬ (x1 < 0) → (1 < x1 → Q (some (.int (-1))) (t, T, (hf_up (hf_up I 156 0 (-1)) 157 1 ((I 157 1) + 1)), L, P)) ∧ (¬ (1 < x1) → vp_in x1 2 ∧ ((¬ (I 160 x1.toNatClampNeg) = 0 → hf_G X Y_X12_back (d + 1) k n 33 [some (.ref 156), some (.int x1), some (.int 0)] [] (t, T, I, L, P) Q) ∧ ((I 160 x1.toNatClampNeg) = 0 → Q (some (.int (-2))) (t, T, (hf_up (hf_up I 156 0 (-2)) 157 2 ((I 157 2) + 1)), L, P)))))) : hf_G X Y_X12_back (d + 1) k n 0 (hf_en [.ref 156, .int x1] 3) [] (t, T, I, L, P) Q := by
  show hf_G X Y_X12_back (d + 1) k n 0 [some (.ref 156), some (.int x1), none] [] (t, T, I, L, P) Q
  refine hf_iload_n dX12_back_0 rfl rfl ?_
  refine hf_iconst (v := 0) dX12_back_1 (by decide) ?_
  refine hf_iconst (v := 1) dX12_back_2 (by decide) ?_
  refine hf_callS (as := [.int x1, .int 0, .int 1]) ok_X12_lies dX12_back_3 hw1143 hw1144 rfl (Nat.le_of_ble_eq_true rfl) rfl (Nat.le_of_ble_eq_true rfl) (Nat.zero_le _) (Nat.zero_le _) ?_
  show hf_G X Y_X12_lies d _ _ 0 [some (.int x1), some (.int 0), some (.int 1)] [] (t, T, I, L, P) _
  refine hf_iload_n dX12_lies_0 rfl rfl ?_
  refine hf_iload_n dX12_lies_1 rfl rfl ?_
  refine hf_icmp_lt (tgt := 14) dX12_lies_2 (by decide) (fun hc => ?_) (fun hc => ?_)
  · replace h := h.1 hc
    refine hf_iconst (v := 0) dX12_lies_14 (by decide) ?_
    refine hf_ireturn dX12_lies_15 rfl (by decide) ?_
    show hf_G X Y_X12_back (d + 1) _ _ 6 [some (.ref 156), some (.int x1), none] [.int 0] (t, T, I, L, P) _
    refine hf_if_ne (tgt := 15) dX12_back_6 (by decide) (fun hc => absurd (show ¬ (0 : Int32) = (0 : Int32) from hc) (by decide)) (fun _ => ?_)
    refine hf_aload_n dX12_back_9 rfl rfl ?_
    refine hf_iconst (v := (-1)) dX12_back_10 (by decide) ?_
    refine hf_callV (c := 12) (as := [.int (-1)]) ok_X12_refuses dX12_back_11 hw1146 hw1147 hw1601 (hs.2.1 156 _ rfl) (by decide) (hf_lin hs 156 rfl) rfl (Nat.le_of_ble_eq_true rfl) rfl (Nat.le_of_ble_eq_true rfl) (Nat.zero_le _) (Nat.zero_le _) ?_
    show hf_G X Y_X12_refuses d _ _ 0 [some (.ref 156), some (.int (-1))] [] (t, T, I, L, P) _
    refine hf_aload_n dX12_refuses_0 rfl rfl ?_
    refine hf_iload_n dX12_refuses_1 rfl rfl ?_
    refine hf_puti (c := 12) (j := 0) dX12_refuses_2 (hs.2.1 156 _ rfl) (hf_lin hs 156 rfl) (by decide) (by decide) hw1036 rfl rfl ?_
    refine hf_aload_n dX12_refuses_5 rfl rfl ?_
    refine hf_getr (b := 157) (c := 12) (j := 1) dX12_refuses_6 (hs.2.1 156 _ rfl) (hf_lin hs 156 rfl) (by decide) (by decide) hw1037 rfl (hs.2.2 156 1 _ rfl) ?_
    refine hf_iload_n dX12_refuses_9 rfl rfl ?_
    refine hf_ineg dX12_refuses_10 ?_
    rw [show (-(-1) : Int32) = 1 by decide]
    refine hf_dup2 dX12_refuses_11 rfl rfl ?_
    refine hf_iald_k (j := 1) (by decide) dX12_refuses_12 (hs.2.1 157 _ rfl) (hf_lin hs 157 rfl) (hf_vin (by decide)) ?_
    refine hf_iconst (v := 1) dX12_refuses_13 (by decide) ?_
    refine hf_iadd dX12_refuses_14 ?_
    refine hf_iast_k (j := 1) (by decide) dX12_refuses_15 (hs.2.1 157 _ rfl) (hf_lin hs 157 rfl) (hf_vin (by decide)) ?_
    refine hf_iload_n dX12_refuses_16 rfl rfl ?_
    refine hf_ireturn dX12_refuses_17 rfl rfl ?_
    show hf_G X Y_X12_back (d + 1) _ _ 14 [some (.ref 156), some (.int x1), none] [.int (-1)] (t, T, (hf_up (hf_up I 156 0 (-1)) 157 1 ((I 157 1) + 1)), L, P) _
    refine hf_ireturn dX12_back_14 rfl rfl ?_
    exact h
  · replace h := h.2 hc
    refine hf_iload_n dX12_lies_5 rfl rfl ?_
    refine hf_iload_n dX12_lies_6 rfl rfl ?_
    refine hf_icmp_gt (tgt := 14) dX12_lies_7 (by decide) (fun hc => ?_) (fun hc => ?_)
    · replace h := h.1 hc
      refine hf_iconst (v := 0) dX12_lies_14 (by decide) ?_
      refine hf_ireturn dX12_lies_15 rfl (by decide) ?_
      show hf_G X Y_X12_back (d + 1) _ _ 6 [some (.ref 156), some (.int x1), none] [.int 0] (t, T, I, L, P) _
      refine hf_if_ne (tgt := 15) dX12_back_6 (by decide) (fun hc => absurd (show ¬ (0 : Int32) = (0 : Int32) from hc) (by decide)) (fun _ => ?_)
      refine hf_aload_n dX12_back_9 rfl rfl ?_
      refine hf_iconst (v := (-1)) dX12_back_10 (by decide) ?_
      refine hf_callV (c := 12) (as := [.int (-1)]) ok_X12_refuses dX12_back_11 hw1146 hw1147 hw1601 (hs.2.1 156 _ rfl) (by decide) (hf_lin hs 156 rfl) rfl (Nat.le_of_ble_eq_true rfl) rfl (Nat.le_of_ble_eq_true rfl) (Nat.zero_le _) (Nat.zero_le _) ?_
      show hf_G X Y_X12_refuses d _ _ 0 [some (.ref 156), some (.int (-1))] [] (t, T, I, L, P) _
      refine hf_aload_n dX12_refuses_0 rfl rfl ?_
      refine hf_iload_n dX12_refuses_1 rfl rfl ?_
      refine hf_puti (c := 12) (j := 0) dX12_refuses_2 (hs.2.1 156 _ rfl) (hf_lin hs 156 rfl) (by decide) (by decide) hw1036 rfl rfl ?_
      refine hf_aload_n dX12_refuses_5 rfl rfl ?_
      refine hf_getr (b := 157) (c := 12) (j := 1) dX12_refuses_6 (hs.2.1 156 _ rfl) (hf_lin hs 156 rfl) (by decide) (by decide) hw1037 rfl (hs.2.2 156 1 _ rfl) ?_
      refine hf_iload_n dX12_refuses_9 rfl rfl ?_
      refine hf_ineg dX12_refuses_10 ?_
      rw [show (-(-1) : Int32) = 1 by decide]
      refine hf_dup2 dX12_refuses_11 rfl rfl ?_
      refine hf_iald_k (j := 1) (by decide) dX12_refuses_12 (hs.2.1 157 _ rfl) (hf_lin hs 157 rfl) (hf_vin (by decide)) ?_
      refine hf_iconst (v := 1) dX12_refuses_13 (by decide) ?_
      refine hf_iadd dX12_refuses_14 ?_
      refine hf_iast_k (j := 1) (by decide) dX12_refuses_15 (hs.2.1 157 _ rfl) (hf_lin hs 157 rfl) (hf_vin (by decide)) ?_
      refine hf_iload_n dX12_refuses_16 rfl rfl ?_
      refine hf_ireturn dX12_refuses_17 rfl rfl ?_
      show hf_G X Y_X12_back (d + 1) _ _ 14 [some (.ref 156), some (.int x1), none] [.int (-1)] (t, T, (hf_up (hf_up I 156 0 (-1)) 157 1 ((I 157 1) + 1)), L, P) _
      refine hf_ireturn dX12_back_14 rfl rfl ?_
      exact h
    · replace h := h.2 hc
      refine hf_iconst (v := 1) dX12_lies_10 (by decide) ?_
      refine hf_goto (tgt := 15) dX12_lies_11 (by decide) ?_
      refine hf_ireturn dX12_lies_15 rfl (by decide) ?_
      show hf_G X Y_X12_back (d + 1) _ _ 6 [some (.ref 156), some (.int x1), none] [.int 1] (t, T, I, L, P) _
      refine hf_if_ne (tgt := 15) dX12_back_6 (by decide) (fun _ => ?_) (fun hc => absurd (show (1 : Int32) = (0 : Int32) from hc) (by decide))
      refine hf_aload_n dX12_back_15 rfl rfl ?_
      refine hf_getr (b := 160) (c := 12) (j := 4) dX12_back_16 (hs.2.1 156 _ rfl) (hf_lin hs 156 rfl) (by decide) (by decide) hw1040 rfl (hs.2.2 156 4 _ rfl) ?_
      refine hf_iload_n dX12_back_19 rfl rfl ?_
      refine hf_zald dX12_back_20 (hs.2.1 160 _ rfl) (hf_lin hs 160 rfl) h.1 ?_
      replace h := h.2
      refine hf_if_ne (tgt := 31) dX12_back_21 (by decide) (fun hc => ?_) (fun hc => ?_)
      · replace h := h.1 hc
        refine hf_iconst (v := 0) dX12_back_31 (by decide) ?_
        refine hf_istore_n (l2 := [some (.ref 156), some (.int x1), some (.int 0)]) dX12_back_32 rfl (by decide) rfl ?_
        exact h
      · replace h := h.2 hc
        refine hf_aload_n dX12_back_24 rfl rfl ?_
        refine hf_bipush (v := (-2)) dX12_back_25 (by decide) ?_
        refine hf_callV (c := 12) (as := [.int (-2)]) ok_X12_refuses dX12_back_27 hw1146 hw1147 hw1601 (hs.2.1 156 _ rfl) (by decide) (hf_lin hs 156 rfl) rfl (Nat.le_of_ble_eq_true rfl) rfl (Nat.le_of_ble_eq_true rfl) (Nat.zero_le _) (Nat.zero_le _) ?_
        show hf_G X Y_X12_refuses d _ _ 0 [some (.ref 156), some (.int (-2))] [] (t, T, I, L, P) _
        refine hf_aload_n dX12_refuses_0 rfl rfl ?_
        refine hf_iload_n dX12_refuses_1 rfl rfl ?_
        refine hf_puti (c := 12) (j := 0) dX12_refuses_2 (hs.2.1 156 _ rfl) (hf_lin hs 156 rfl) (by decide) (by decide) hw1036 rfl rfl ?_
        refine hf_aload_n dX12_refuses_5 rfl rfl ?_
        refine hf_getr (b := 157) (c := 12) (j := 1) dX12_refuses_6 (hs.2.1 156 _ rfl) (hf_lin hs 156 rfl) (by decide) (by decide) hw1037 rfl (hs.2.2 156 1 _ rfl) ?_
        refine hf_iload_n dX12_refuses_9 rfl rfl ?_
        refine hf_ineg dX12_refuses_10 ?_
        rw [show (-(-2) : Int32) = 2 by decide]
        refine hf_dup2 dX12_refuses_11 rfl rfl ?_
        refine hf_iald_k (j := 2) (by decide) dX12_refuses_12 (hs.2.1 157 _ rfl) (hf_lin hs 157 rfl) (hf_vin (by decide)) ?_
        refine hf_iconst (v := 1) dX12_refuses_13 (by decide) ?_
        refine hf_iadd dX12_refuses_14 ?_
        refine hf_iast_k (j := 2) (by decide) dX12_refuses_15 (hs.2.1 157 _ rfl) (hf_lin hs 157 rfl) (hf_vin (by decide)) ?_
        refine hf_iload_n dX12_refuses_16 rfl rfl ?_
        refine hf_ireturn dX12_refuses_17 rfl rfl ?_
        show hf_G X Y_X12_back (d + 1) _ _ 30 [some (.ref 156), some (.int x1), none] [.int (-2)] (t, T, (hf_up (hf_up I 156 0 (-2)) 157 2 ((I 157 2) + 1)), L, P) _
        refine hf_ireturn dX12_back_30 rfl rfl ?_
        exact h

set_option maxHeartbeats 4000000 in
theorem w_X12_back_33 {X : hf_X} {d k n t : Nat} {T : hf_T} {I : hf_I} {L : hf_L} {P : hf_P} {Q : Option Value → hf_M → Prop} {x1 : Int32} {x2 : Int32} (hs : hf_Lay t T P) (h : (5929 ≤ x2 → Q (some (.int 0)) (t, T, (hf_up (hf_up I 156 27 0) 156 0 0), L, P)) ∧ (¬ (5929 ≤ x2) → vp_in ((5929 * x1) + x2) 11858 ∧ (vp_in x2 5929 ∧ (hf_G X Y_X12_back (d + 2) k n 33 [some (.ref 156), some (.int x1), some (.int (x2 + 1))] [] (t, T, (hf_up I 158 x2.toNatClampNeg (I 159 ((((5929 * x1) + x2)).toNatClampNeg))), L, P) Q)))) : hf_G X Y_X12_back (d + 2) k n 33 [some (.ref 156), some (.int x1), some (.int x2)] [] (t, T, I, L, P) Q := by
  refine hf_iload_n dX12_back_33 rfl rfl ?_
  refine hf_sipush (v := 5929) dX12_back_34 (by decide) ?_
  refine hf_icmp_ge (tgt := 64) dX12_back_37 (by decide) (fun hc => ?_) (fun hc => ?_)
  · replace h := h.1 hc
    refine hf_aload_n dX12_back_64 rfl rfl ?_
    refine hf_iconst (v := 0) dX12_back_65 (by decide) ?_
    refine hf_callV (c := 12) (as := [.int 0]) ok_X12_settled dX12_back_66 hw1156 hw1157 hw1603 (hs.2.1 156 _ rfl) (by decide) (hf_lin hs 156 rfl) rfl (Nat.le_of_ble_eq_true rfl) rfl (Nat.le_of_ble_eq_true rfl) (Nat.zero_le _) (Nat.zero_le _) ?_
    show hf_G X Y_X12_settled (d + 1) _ _ 0 [some (.ref 156), some (.int 0)] [] (t, T, I, L, P) _
    refine hf_aload_n dX12_settled_0 rfl rfl ?_
    refine hf_iconst (v := 0) dX12_settled_1 (by decide) ?_
    refine hf_puti (c := 12) (j := 27) dX12_settled_2 (hs.2.1 156 _ rfl) (hf_lin hs 156 rfl) (by decide) (by decide) hw1063 rfl rfl ?_
    refine hf_aload_n dX12_settled_5 rfl rfl ?_
    refine hf_iload_n dX12_settled_6 rfl rfl ?_
    refine hf_callV (c := 12) (as := [.int 0]) ok_X12_good dX12_settled_7 hw1149 hw1150 hw1602 (hs.2.1 156 _ rfl) (by decide) (hf_lin hs 156 rfl) rfl (Nat.le_of_ble_eq_true rfl) rfl (Nat.le_of_ble_eq_true rfl) (Nat.zero_le _) (Nat.zero_le _) ?_
    show hf_G X Y_X12_good d _ _ 0 [some (.ref 156), some (.int 0)] [] (t, T, (hf_up I 156 27 0), L, P) _
    refine hf_aload_n dX12_good_0 rfl rfl ?_
    refine hf_iconst (v := 0) dX12_good_1 (by decide) ?_
    refine hf_puti (c := 12) (j := 0) dX12_good_2 (hs.2.1 156 _ rfl) (hf_lin hs 156 rfl) (by decide) (by decide) hw1036 rfl rfl ?_
    refine hf_iload_n dX12_good_5 rfl rfl ?_
    refine hf_ireturn dX12_good_6 rfl rfl ?_
    show hf_G X Y_X12_settled (d + 1) _ _ 10 [some (.ref 156), some (.int 0)] [.int 0] (t, T, (hf_up (hf_up I 156 27 0) 156 0 0), L, P) _
    refine hf_ireturn dX12_settled_10 rfl rfl ?_
    show hf_G X Y_X12_back (d + 2) _ _ 69 [some (.ref 156), some (.int x1), some (.int x2)] [.int 0] (t, T, (hf_up (hf_up I 156 27 0) 156 0 0), L, P) _
    refine hf_ireturn dX12_back_69 rfl rfl ?_
    exact h
  · replace h := h.2 hc
    refine hf_aload_n dX12_back_40 rfl rfl ?_
    refine hf_getr (b := 158) (c := 12) (j := 2) dX12_back_41 (hs.2.1 156 _ rfl) (hf_lin hs 156 rfl) (by decide) (by decide) hw1038 rfl (hs.2.2 156 2 _ rfl) ?_
    refine hf_iload_n dX12_back_44 rfl rfl ?_
    refine hf_aload_n dX12_back_45 rfl rfl ?_
    refine hf_getr (b := 159) (c := 12) (j := 3) dX12_back_46 (hs.2.1 156 _ rfl) (hf_lin hs 156 rfl) (by decide) (by decide) hw1039 rfl (hs.2.2 156 3 _ rfl) ?_
    refine hf_sipush (v := 5929) dX12_back_49 (by decide) ?_
    refine hf_iload_n dX12_back_52 rfl rfl ?_
    refine hf_imul dX12_back_53 ?_
    refine hf_iload_n dX12_back_54 rfl rfl ?_
    refine hf_iadd dX12_back_55 ?_
    refine hf_iald dX12_back_56 (hs.2.1 159 _ rfl) (hf_lin hs 159 rfl) h.1 ?_
    replace h := h.2
    refine hf_iast dX12_back_57 (hs.2.1 158 _ rfl) (hf_lin hs 158 rfl) h.1 ?_
    replace h := h.2
    refine hf_iinc (v := (x2 + 1)) (l2 := [some (.ref 156), some (.int x1), some (.int (x2 + 1))]) dX12_back_58 (by decide) rfl rfl rfl ?_
    refine hf_goto (tgt := 33) dX12_back_61 (by decide) ?_
    exact h

set_option maxHeartbeats 4000000 in
theorem w_X12_isWord_0 {X : hf_X} {d k n t : Nat} {T : hf_T} {I : hf_I} {L : hf_L} {P : hf_P} {Q : Option Value → hf_M → Prop} {x1 : Int32} (hs : hf_Lay t T P) (h : (x1 < 0 → Q (some (.int 0)) (t, T, I, L, P)) ∧ (¬ (x1 < 0) → (((I 158 316) - 1) < x1 → Q (some (.int 0)) (t, T, I, L, P)) ∧ (¬ (((I 158 316) - 1) < x1) → Q (some (.int 1)) (t, T, I, L, P)))) : hf_G X Y_X12_isWord (d + 1) k n 0 (hf_en [.ref 156, .int x1] 2) [] (t, T, I, L, P) Q := by
  show hf_G X Y_X12_isWord (d + 1) k n 0 [some (.ref 156), some (.int x1)] [] (t, T, I, L, P) Q
  refine hf_iload_n dX12_isWord_0 rfl rfl ?_
  refine hf_iconst (v := 0) dX12_isWord_1 (by decide) ?_
  refine hf_aload_n dX12_isWord_2 rfl rfl ?_
  refine hf_getr (b := 158) (c := 12) (j := 2) dX12_isWord_3 (hs.2.1 156 _ rfl) (hf_lin hs 156 rfl) (by decide) (by decide) hw1038 rfl (hs.2.2 156 2 _ rfl) ?_
  refine hf_sipush (v := 316) dX12_isWord_6 (by decide) ?_
  refine hf_iald_k (j := 316) (by decide) dX12_isWord_9 (hs.2.1 158 _ rfl) (hf_lin hs 158 rfl) (hf_vin (by decide)) ?_
  refine hf_iconst (v := 1) dX12_isWord_10 (by decide) ?_
  refine hf_isub dX12_isWord_11 ?_
  refine hf_callS (as := [.int x1, .int 0, .int ((I 158 316) - 1)]) ok_X12_lies dX12_isWord_12 hw1143 hw1144 rfl (Nat.le_of_ble_eq_true rfl) rfl (Nat.le_of_ble_eq_true rfl) (Nat.zero_le _) (Nat.zero_le _) ?_
  show hf_G X Y_X12_lies d _ _ 0 [some (.int x1), some (.int 0), some (.int ((I 158 316) - 1))] [] (t, T, I, L, P) _
  refine hf_iload_n dX12_lies_0 rfl rfl ?_
  refine hf_iload_n dX12_lies_1 rfl rfl ?_
  refine hf_icmp_lt (tgt := 14) dX12_lies_2 (by decide) (fun hc => ?_) (fun hc => ?_)
  · replace h := h.1 hc
    refine hf_iconst (v := 0) dX12_lies_14 (by decide) ?_
    refine hf_ireturn dX12_lies_15 rfl (by decide) ?_
    show hf_G X Y_X12_isWord (d + 1) _ _ 15 [some (.ref 156), some (.int x1)] [.int 0] (t, T, I, L, P) _
    refine hf_ireturn dX12_isWord_15 rfl (by decide) ?_
    exact h
  · replace h := h.2 hc
    refine hf_iload_n dX12_lies_5 rfl rfl ?_
    refine hf_iload_n dX12_lies_6 rfl rfl ?_
    refine hf_icmp_gt (tgt := 14) dX12_lies_7 (by decide) (fun hc => ?_) (fun hc => ?_)
    · replace h := h.1 hc
      refine hf_iconst (v := 0) dX12_lies_14 (by decide) ?_
      refine hf_ireturn dX12_lies_15 rfl (by decide) ?_
      show hf_G X Y_X12_isWord (d + 1) _ _ 15 [some (.ref 156), some (.int x1)] [.int 0] (t, T, I, L, P) _
      refine hf_ireturn dX12_isWord_15 rfl (by decide) ?_
      exact h
    · replace h := h.2 hc
      refine hf_iconst (v := 1) dX12_lies_10 (by decide) ?_
      refine hf_goto (tgt := 15) dX12_lies_11 (by decide) ?_
      refine hf_ireturn dX12_lies_15 rfl (by decide) ?_
      show hf_G X Y_X12_isWord (d + 1) _ _ 15 [some (.ref 156), some (.int x1)] [.int 1] (t, T, I, L, P) _
      refine hf_ireturn dX12_isWord_15 rfl (by decide) ?_
      exact h

set_option maxHeartbeats 4000000 in
theorem w_X12_fact_0 {X : hf_X} {d k n t : Nat} {T : hf_T} {I : hf_I} {L : hf_L} {P : hf_P} {Q : Option Value → hf_M → Prop} {x1 : Int32} {x2 : Int32} (hs : hf_Lay t T P) (h : vp_in ((53 + (13 * x1)) + x2) 5929 ∧ (Q (some (.int (I 158 ((((53 + (13 * x1)) + x2)).toNatClampNeg)))) (t, T, I, L, P))) : hf_G X Y_X12_fact d k n 0 (hf_en [.ref 156, .int x1, .int x2] 3) [] (t, T, I, L, P) Q := by
  show hf_G X Y_X12_fact d k n 0 [some (.ref 156), some (.int x1), some (.int x2)] [] (t, T, I, L, P) Q
  refine hf_aload_n dX12_fact_0 rfl rfl ?_
  refine hf_getr (b := 158) (c := 12) (j := 2) dX12_fact_1 (hs.2.1 156 _ rfl) (hf_lin hs 156 rfl) (by decide) (by decide) hw1038 rfl (hs.2.2 156 2 _ rfl) ?_
  refine hf_bipush (v := 53) dX12_fact_4 (by decide) ?_
  refine hf_bipush (v := 13) dX12_fact_6 (by decide) ?_
  refine hf_iload_n dX12_fact_8 rfl rfl ?_
  refine hf_imul dX12_fact_9 ?_
  refine hf_iadd dX12_fact_10 ?_
  refine hf_iload_n dX12_fact_11 rfl rfl ?_
  refine hf_iadd dX12_fact_12 ?_
  refine hf_iald dX12_fact_13 (hs.2.1 158 _ rfl) (hf_lin hs 158 rfl) h.1 ?_
  replace h := h.2
  refine hf_ireturn dX12_fact_14 rfl rfl ?_
  exact h

set_option maxHeartbeats 4000000 in
theorem w_X12_breadth_0 {X : hf_X} {d k n t : Nat} {T : hf_T} {I : hf_I} {L : hf_L} {P : hf_P} {Q : Option Value → hf_M → Prop} {x1 : Int32} {x2 : Int32} (hs : hf_Lay t T P) (h : (x1 < 0 → Q (some (.int (-1))) (t, T, (hf_up (hf_up I 156 0 (-1)) 157 1 ((I 157 1) + 1)), L, P)) ∧ (¬ (x1 < 0) → (26 < x1 → Q (some (.int (-1))) (t, T, (hf_up (hf_up I 156 0 (-1)) 157 1 ((I 157 1) + 1)), L, P)) ∧ (¬ (26 < x1) → (x2 < 1 → Q (some (.int (-1))) (t, T, (hf_up (hf_up I 156 0 (-1)) 157 1 ((I 157 1) + 1)), L, P)) ∧ (¬ (x2 < 1) → (20 < x2 → Q (some (.int (-1))) (t, T, (hf_up (hf_up I 156 0 (-1)) 157 1 ((I 157 1) + 1)), L, P)) ∧ (¬ (20 < x2) → vp_in (26 + x1) 5929 ∧ (vp_in (26 + x1) 5929 ∧ (Q (some (.int (I 158 (((26 + x1)).toNatClampNeg)))) (t, T, (hf_up (hf_up (hf_up I 158 (((26 + x1)).toNatClampNeg) x2) 156 27 0) 156 0 0), L, P)))))))) : hf_G X Y_X12_breadth (d + 2) k n 0 (hf_en [.ref 156, .int x1, .int x2] 4) [] (t, T, I, L, P) Q := by
  show hf_G X Y_X12_breadth (d + 2) k n 0 [some (.ref 156), some (.int x1), some (.int x2), none] [] (t, T, I, L, P) Q
  refine hf_iload_n dX12_breadth_0 rfl rfl ?_
  refine hf_iconst (v := 0) dX12_breadth_1 (by decide) ?_
  refine hf_bipush (v := 26) dX12_breadth_2 (by decide) ?_
  refine hf_callS (as := [.int x1, .int 0, .int 26]) ok_X12_lies dX12_breadth_4 hw1143 hw1144 rfl (Nat.le_of_ble_eq_true rfl) rfl (Nat.le_of_ble_eq_true rfl) (Nat.zero_le _) (Nat.zero_le _) ?_
  show hf_G X Y_X12_lies (d + 1) _ _ 0 [some (.int x1), some (.int 0), some (.int 26)] [] (t, T, I, L, P) _
  refine hf_iload_n dX12_lies_0 rfl rfl ?_
  refine hf_iload_n dX12_lies_1 rfl rfl ?_
  refine hf_icmp_lt (tgt := 14) dX12_lies_2 (by decide) (fun hc => ?_) (fun hc => ?_)
  · replace h := h.1 hc
    refine hf_iconst (v := 0) dX12_lies_14 (by decide) ?_
    refine hf_ireturn dX12_lies_15 rfl (by decide) ?_
    show hf_G X Y_X12_breadth (d + 2) _ _ 7 [some (.ref 156), some (.int x1), some (.int x2), none] [.int 0] (t, T, I, L, P) _
    refine hf_if_eq (tgt := 20) dX12_breadth_7 (by decide) (fun _ => ?_) (fun hc => absurd (show (0 : Int32) = (0 : Int32) by decide) hc)
    refine hf_aload_n dX12_breadth_20 rfl rfl ?_
    refine hf_iconst (v := (-1)) dX12_breadth_21 (by decide) ?_
    refine hf_callV (c := 12) (as := [.int (-1)]) ok_X12_refuses dX12_breadth_22 hw1146 hw1147 hw1601 (hs.2.1 156 _ rfl) (by decide) (hf_lin hs 156 rfl) rfl (Nat.le_of_ble_eq_true rfl) rfl (Nat.le_of_ble_eq_true rfl) (Nat.zero_le _) (Nat.zero_le _) ?_
    show hf_G X Y_X12_refuses (d + 1) _ _ 0 [some (.ref 156), some (.int (-1))] [] (t, T, I, L, P) _
    refine hf_aload_n dX12_refuses_0 rfl rfl ?_
    refine hf_iload_n dX12_refuses_1 rfl rfl ?_
    refine hf_puti (c := 12) (j := 0) dX12_refuses_2 (hs.2.1 156 _ rfl) (hf_lin hs 156 rfl) (by decide) (by decide) hw1036 rfl rfl ?_
    refine hf_aload_n dX12_refuses_5 rfl rfl ?_
    refine hf_getr (b := 157) (c := 12) (j := 1) dX12_refuses_6 (hs.2.1 156 _ rfl) (hf_lin hs 156 rfl) (by decide) (by decide) hw1037 rfl (hs.2.2 156 1 _ rfl) ?_
    refine hf_iload_n dX12_refuses_9 rfl rfl ?_
    refine hf_ineg dX12_refuses_10 ?_
    rw [show (-(-1) : Int32) = 1 by decide]
    refine hf_dup2 dX12_refuses_11 rfl rfl ?_
    refine hf_iald_k (j := 1) (by decide) dX12_refuses_12 (hs.2.1 157 _ rfl) (hf_lin hs 157 rfl) (hf_vin (by decide)) ?_
    refine hf_iconst (v := 1) dX12_refuses_13 (by decide) ?_
    refine hf_iadd dX12_refuses_14 ?_
    refine hf_iast_k (j := 1) (by decide) dX12_refuses_15 (hs.2.1 157 _ rfl) (hf_lin hs 157 rfl) (hf_vin (by decide)) ?_
    refine hf_iload_n dX12_refuses_16 rfl rfl ?_
    refine hf_ireturn dX12_refuses_17 rfl rfl ?_
    show hf_G X Y_X12_breadth (d + 2) _ _ 25 [some (.ref 156), some (.int x1), some (.int x2), none] [.int (-1)] (t, T, (hf_up (hf_up I 156 0 (-1)) 157 1 ((I 157 1) + 1)), L, P) _
    refine hf_ireturn dX12_breadth_25 rfl rfl ?_
    exact h
  · replace h := h.2 hc
    refine hf_iload_n dX12_lies_5 rfl rfl ?_
    refine hf_iload_n dX12_lies_6 rfl rfl ?_
    refine hf_icmp_gt (tgt := 14) dX12_lies_7 (by decide) (fun hc => ?_) (fun hc => ?_)
    · replace h := h.1 hc
      refine hf_iconst (v := 0) dX12_lies_14 (by decide) ?_
      refine hf_ireturn dX12_lies_15 rfl (by decide) ?_
      show hf_G X Y_X12_breadth (d + 2) _ _ 7 [some (.ref 156), some (.int x1), some (.int x2), none] [.int 0] (t, T, I, L, P) _
      refine hf_if_eq (tgt := 20) dX12_breadth_7 (by decide) (fun _ => ?_) (fun hc => absurd (show (0 : Int32) = (0 : Int32) by decide) hc)
      refine hf_aload_n dX12_breadth_20 rfl rfl ?_
      refine hf_iconst (v := (-1)) dX12_breadth_21 (by decide) ?_
      refine hf_callV (c := 12) (as := [.int (-1)]) ok_X12_refuses dX12_breadth_22 hw1146 hw1147 hw1601 (hs.2.1 156 _ rfl) (by decide) (hf_lin hs 156 rfl) rfl (Nat.le_of_ble_eq_true rfl) rfl (Nat.le_of_ble_eq_true rfl) (Nat.zero_le _) (Nat.zero_le _) ?_
      show hf_G X Y_X12_refuses (d + 1) _ _ 0 [some (.ref 156), some (.int (-1))] [] (t, T, I, L, P) _
      refine hf_aload_n dX12_refuses_0 rfl rfl ?_
      refine hf_iload_n dX12_refuses_1 rfl rfl ?_
      refine hf_puti (c := 12) (j := 0) dX12_refuses_2 (hs.2.1 156 _ rfl) (hf_lin hs 156 rfl) (by decide) (by decide) hw1036 rfl rfl ?_
      refine hf_aload_n dX12_refuses_5 rfl rfl ?_
      refine hf_getr (b := 157) (c := 12) (j := 1) dX12_refuses_6 (hs.2.1 156 _ rfl) (hf_lin hs 156 rfl) (by decide) (by decide) hw1037 rfl (hs.2.2 156 1 _ rfl) ?_
      refine hf_iload_n dX12_refuses_9 rfl rfl ?_
      refine hf_ineg dX12_refuses_10 ?_
      rw [show (-(-1) : Int32) = 1 by decide]
      refine hf_dup2 dX12_refuses_11 rfl rfl ?_
      refine hf_iald_k (j := 1) (by decide) dX12_refuses_12 (hs.2.1 157 _ rfl) (hf_lin hs 157 rfl) (hf_vin (by decide)) ?_
      refine hf_iconst (v := 1) dX12_refuses_13 (by decide) ?_
      refine hf_iadd dX12_refuses_14 ?_
      refine hf_iast_k (j := 1) (by decide) dX12_refuses_15 (hs.2.1 157 _ rfl) (hf_lin hs 157 rfl) (hf_vin (by decide)) ?_
      refine hf_iload_n dX12_refuses_16 rfl rfl ?_
      refine hf_ireturn dX12_refuses_17 rfl rfl ?_
      show hf_G X Y_X12_breadth (d + 2) _ _ 25 [some (.ref 156), some (.int x1), some (.int x2), none] [.int (-1)] (t, T, (hf_up (hf_up I 156 0 (-1)) 157 1 ((I 157 1) + 1)), L, P) _
      refine hf_ireturn dX12_breadth_25 rfl rfl ?_
      exact h
    · replace h := h.2 hc
      refine hf_iconst (v := 1) dX12_lies_10 (by decide) ?_
      refine hf_goto (tgt := 15) dX12_lies_11 (by decide) ?_
      refine hf_ireturn dX12_lies_15 rfl (by decide) ?_
      show hf_G X Y_X12_breadth (d + 2) _ _ 7 [some (.ref 156), some (.int x1), some (.int x2), none] [.int 1] (t, T, I, L, P) _
      refine hf_if_eq (tgt := 20) dX12_breadth_7 (by decide) (fun hc => absurd (show (1 : Int32) = (0 : Int32) from hc) (by decide)) (fun _ => ?_)
      refine hf_iload_n dX12_breadth_10 rfl rfl ?_
      refine hf_iconst (v := 1) dX12_breadth_11 (by decide) ?_
      refine hf_bipush (v := 20) dX12_breadth_12 (by decide) ?_
      refine hf_callS (as := [.int x2, .int 1, .int 20]) ok_X12_lies dX12_breadth_14 hw1143 hw1144 rfl (Nat.le_of_ble_eq_true rfl) rfl (Nat.le_of_ble_eq_true rfl) (Nat.zero_le _) (Nat.zero_le _) ?_
      show hf_G X Y_X12_lies (d + 1) _ _ 0 [some (.int x2), some (.int 1), some (.int 20)] [] (t, T, I, L, P) _
      refine hf_iload_n dX12_lies_0 rfl rfl ?_
      refine hf_iload_n dX12_lies_1 rfl rfl ?_
      refine hf_icmp_lt (tgt := 14) dX12_lies_2 (by decide) (fun hc => ?_) (fun hc => ?_)
      · replace h := h.1 hc
        refine hf_iconst (v := 0) dX12_lies_14 (by decide) ?_
        refine hf_ireturn dX12_lies_15 rfl (by decide) ?_
        show hf_G X Y_X12_breadth (d + 2) _ _ 17 [some (.ref 156), some (.int x1), some (.int x2), none] [.int 0] (t, T, I, L, P) _
        refine hf_if_ne (tgt := 26) dX12_breadth_17 (by decide) (fun hc => absurd (show ¬ (0 : Int32) = (0 : Int32) from hc) (by decide)) (fun _ => ?_)
        refine hf_aload_n dX12_breadth_20 rfl rfl ?_
        refine hf_iconst (v := (-1)) dX12_breadth_21 (by decide) ?_
        refine hf_callV (c := 12) (as := [.int (-1)]) ok_X12_refuses dX12_breadth_22 hw1146 hw1147 hw1601 (hs.2.1 156 _ rfl) (by decide) (hf_lin hs 156 rfl) rfl (Nat.le_of_ble_eq_true rfl) rfl (Nat.le_of_ble_eq_true rfl) (Nat.zero_le _) (Nat.zero_le _) ?_
        show hf_G X Y_X12_refuses (d + 1) _ _ 0 [some (.ref 156), some (.int (-1))] [] (t, T, I, L, P) _
        refine hf_aload_n dX12_refuses_0 rfl rfl ?_
        refine hf_iload_n dX12_refuses_1 rfl rfl ?_
        refine hf_puti (c := 12) (j := 0) dX12_refuses_2 (hs.2.1 156 _ rfl) (hf_lin hs 156 rfl) (by decide) (by decide) hw1036 rfl rfl ?_
        refine hf_aload_n dX12_refuses_5 rfl rfl ?_
        refine hf_getr (b := 157) (c := 12) (j := 1) dX12_refuses_6 (hs.2.1 156 _ rfl) (hf_lin hs 156 rfl) (by decide) (by decide) hw1037 rfl (hs.2.2 156 1 _ rfl) ?_
        refine hf_iload_n dX12_refuses_9 rfl rfl ?_
        refine hf_ineg dX12_refuses_10 ?_
        rw [show (-(-1) : Int32) = 1 by decide]
        refine hf_dup2 dX12_refuses_11 rfl rfl ?_
        refine hf_iald_k (j := 1) (by decide) dX12_refuses_12 (hs.2.1 157 _ rfl) (hf_lin hs 157 rfl) (hf_vin (by decide)) ?_
        refine hf_iconst (v := 1) dX12_refuses_13 (by decide) ?_
        refine hf_iadd dX12_refuses_14 ?_
        refine hf_iast_k (j := 1) (by decide) dX12_refuses_15 (hs.2.1 157 _ rfl) (hf_lin hs 157 rfl) (hf_vin (by decide)) ?_
        refine hf_iload_n dX12_refuses_16 rfl rfl ?_
        refine hf_ireturn dX12_refuses_17 rfl rfl ?_
        show hf_G X Y_X12_breadth (d + 2) _ _ 25 [some (.ref 156), some (.int x1), some (.int x2), none] [.int (-1)] (t, T, (hf_up (hf_up I 156 0 (-1)) 157 1 ((I 157 1) + 1)), L, P) _
        refine hf_ireturn dX12_breadth_25 rfl rfl ?_
        exact h
      · replace h := h.2 hc
        refine hf_iload_n dX12_lies_5 rfl rfl ?_
        refine hf_iload_n dX12_lies_6 rfl rfl ?_
        refine hf_icmp_gt (tgt := 14) dX12_lies_7 (by decide) (fun hc => ?_) (fun hc => ?_)
        · replace h := h.1 hc
          refine hf_iconst (v := 0) dX12_lies_14 (by decide) ?_
          refine hf_ireturn dX12_lies_15 rfl (by decide) ?_
          show hf_G X Y_X12_breadth (d + 2) _ _ 17 [some (.ref 156), some (.int x1), some (.int x2), none] [.int 0] (t, T, I, L, P) _
          refine hf_if_ne (tgt := 26) dX12_breadth_17 (by decide) (fun hc => absurd (show ¬ (0 : Int32) = (0 : Int32) from hc) (by decide)) (fun _ => ?_)
          refine hf_aload_n dX12_breadth_20 rfl rfl ?_
          refine hf_iconst (v := (-1)) dX12_breadth_21 (by decide) ?_
          refine hf_callV (c := 12) (as := [.int (-1)]) ok_X12_refuses dX12_breadth_22 hw1146 hw1147 hw1601 (hs.2.1 156 _ rfl) (by decide) (hf_lin hs 156 rfl) rfl (Nat.le_of_ble_eq_true rfl) rfl (Nat.le_of_ble_eq_true rfl) (Nat.zero_le _) (Nat.zero_le _) ?_
          show hf_G X Y_X12_refuses (d + 1) _ _ 0 [some (.ref 156), some (.int (-1))] [] (t, T, I, L, P) _
          refine hf_aload_n dX12_refuses_0 rfl rfl ?_
          refine hf_iload_n dX12_refuses_1 rfl rfl ?_
          refine hf_puti (c := 12) (j := 0) dX12_refuses_2 (hs.2.1 156 _ rfl) (hf_lin hs 156 rfl) (by decide) (by decide) hw1036 rfl rfl ?_
          refine hf_aload_n dX12_refuses_5 rfl rfl ?_
          refine hf_getr (b := 157) (c := 12) (j := 1) dX12_refuses_6 (hs.2.1 156 _ rfl) (hf_lin hs 156 rfl) (by decide) (by decide) hw1037 rfl (hs.2.2 156 1 _ rfl) ?_
          refine hf_iload_n dX12_refuses_9 rfl rfl ?_
          refine hf_ineg dX12_refuses_10 ?_
          rw [show (-(-1) : Int32) = 1 by decide]
          refine hf_dup2 dX12_refuses_11 rfl rfl ?_
          refine hf_iald_k (j := 1) (by decide) dX12_refuses_12 (hs.2.1 157 _ rfl) (hf_lin hs 157 rfl) (hf_vin (by decide)) ?_
          refine hf_iconst (v := 1) dX12_refuses_13 (by decide) ?_
          refine hf_iadd dX12_refuses_14 ?_
          refine hf_iast_k (j := 1) (by decide) dX12_refuses_15 (hs.2.1 157 _ rfl) (hf_lin hs 157 rfl) (hf_vin (by decide)) ?_
          refine hf_iload_n dX12_refuses_16 rfl rfl ?_
          refine hf_ireturn dX12_refuses_17 rfl rfl ?_
          show hf_G X Y_X12_breadth (d + 2) _ _ 25 [some (.ref 156), some (.int x1), some (.int x2), none] [.int (-1)] (t, T, (hf_up (hf_up I 156 0 (-1)) 157 1 ((I 157 1) + 1)), L, P) _
          refine hf_ireturn dX12_breadth_25 rfl rfl ?_
          exact h
        · replace h := h.2 hc
          refine hf_iconst (v := 1) dX12_lies_10 (by decide) ?_
          refine hf_goto (tgt := 15) dX12_lies_11 (by decide) ?_
          refine hf_ireturn dX12_lies_15 rfl (by decide) ?_
          show hf_G X Y_X12_breadth (d + 2) _ _ 17 [some (.ref 156), some (.int x1), some (.int x2), none] [.int 1] (t, T, I, L, P) _
          refine hf_if_ne (tgt := 26) dX12_breadth_17 (by decide) (fun _ => ?_) (fun hc => absurd (show (1 : Int32) = (0 : Int32) from hc) (by decide))
          refine hf_aload_n dX12_breadth_26 rfl rfl ?_
          refine hf_getr (b := 158) (c := 12) (j := 2) dX12_breadth_27 (hs.2.1 156 _ rfl) (hf_lin hs 156 rfl) (by decide) (by decide) hw1038 rfl (hs.2.2 156 2 _ rfl) ?_
          refine hf_bipush (v := 26) dX12_breadth_30 (by decide) ?_
          refine hf_iload_n dX12_breadth_32 rfl rfl ?_
          refine hf_iadd dX12_breadth_33 ?_
          refine hf_iald dX12_breadth_34 (hs.2.1 158 _ rfl) (hf_lin hs 158 rfl) h.1 ?_
          replace h := h.2
          refine hf_istore_n (l2 := [some (.ref 156), some (.int x1), some (.int x2), some (.int (I 158 (((26 + x1)).toNatClampNeg)))]) dX12_breadth_35 rfl (by decide) rfl ?_
          refine hf_aload_n dX12_breadth_36 rfl rfl ?_
          refine hf_getr (b := 158) (c := 12) (j := 2) dX12_breadth_37 (hs.2.1 156 _ rfl) (hf_lin hs 156 rfl) (by decide) (by decide) hw1038 rfl (hs.2.2 156 2 _ rfl) ?_
          refine hf_bipush (v := 26) dX12_breadth_40 (by decide) ?_
          refine hf_iload_n dX12_breadth_42 rfl rfl ?_
          refine hf_iadd dX12_breadth_43 ?_
          refine hf_iload_n dX12_breadth_44 rfl rfl ?_
          refine hf_iast dX12_breadth_45 (hs.2.1 158 _ rfl) (hf_lin hs 158 rfl) h.1 ?_
          replace h := h.2
          refine hf_aload_n dX12_breadth_46 rfl rfl ?_
          refine hf_iload_n dX12_breadth_47 rfl rfl ?_
          refine hf_callV (c := 12) (as := [.int (I 158 (((26 + x1)).toNatClampNeg))]) ok_X12_settled dX12_breadth_48 hw1156 hw1157 hw1603 (hs.2.1 156 _ rfl) (by decide) (hf_lin hs 156 rfl) rfl (Nat.le_of_ble_eq_true rfl) rfl (Nat.le_of_ble_eq_true rfl) (Nat.zero_le _) (Nat.zero_le _) ?_
          show hf_G X Y_X12_settled (d + 1) _ _ 0 [some (.ref 156), some (.int (I 158 (((26 + x1)).toNatClampNeg)))] [] (t, T, (hf_up I 158 (((26 + x1)).toNatClampNeg) x2), L, P) _
          refine hf_aload_n dX12_settled_0 rfl rfl ?_
          refine hf_iconst (v := 0) dX12_settled_1 (by decide) ?_
          refine hf_puti (c := 12) (j := 27) dX12_settled_2 (hs.2.1 156 _ rfl) (hf_lin hs 156 rfl) (by decide) (by decide) hw1063 rfl rfl ?_
          refine hf_aload_n dX12_settled_5 rfl rfl ?_
          refine hf_iload_n dX12_settled_6 rfl rfl ?_
          refine hf_callV (c := 12) (as := [.int (I 158 (((26 + x1)).toNatClampNeg))]) ok_X12_good dX12_settled_7 hw1149 hw1150 hw1602 (hs.2.1 156 _ rfl) (by decide) (hf_lin hs 156 rfl) rfl (Nat.le_of_ble_eq_true rfl) rfl (Nat.le_of_ble_eq_true rfl) (Nat.zero_le _) (Nat.zero_le _) ?_
          show hf_G X Y_X12_good d _ _ 0 [some (.ref 156), some (.int (I 158 (((26 + x1)).toNatClampNeg)))] [] (t, T, (hf_up (hf_up I 158 (((26 + x1)).toNatClampNeg) x2) 156 27 0), L, P) _
          refine hf_aload_n dX12_good_0 rfl rfl ?_
          refine hf_iconst (v := 0) dX12_good_1 (by decide) ?_
          refine hf_puti (c := 12) (j := 0) dX12_good_2 (hs.2.1 156 _ rfl) (hf_lin hs 156 rfl) (by decide) (by decide) hw1036 rfl rfl ?_
          refine hf_iload_n dX12_good_5 rfl rfl ?_
          refine hf_ireturn dX12_good_6 rfl rfl ?_
          show hf_G X Y_X12_settled (d + 1) _ _ 10 [some (.ref 156), some (.int (I 158 (((26 + x1)).toNatClampNeg)))] [.int (I 158 (((26 + x1)).toNatClampNeg))] (t, T, (hf_up (hf_up (hf_up I 158 (((26 + x1)).toNatClampNeg) x2) 156 27 0) 156 0 0), L, P) _
          refine hf_ireturn dX12_settled_10 rfl rfl ?_
          show hf_G X Y_X12_breadth (d + 2) _ _ 51 [some (.ref 156), some (.int x1), some (.int x2), some (.int (I 158 (((26 + x1)).toNatClampNeg)))] [.int (I 158 (((26 + x1)).toNatClampNeg))] (t, T, (hf_up (hf_up (hf_up I 158 (((26 + x1)).toNatClampNeg) x2) 156 27 0) 156 0 0), L, P) _
          refine hf_ireturn dX12_breadth_51 rfl rfl ?_
          exact h

set_option maxHeartbeats 4000000 in
theorem w_X12_column_0 {X : hf_X} {d k n t : Nat} {T : hf_T} {I : hf_I} {L : hf_L} {P : hf_P} {Q : Option Value → hf_M → Prop} {x1 : Int32} {x2 : Int32} (hs : hf_Lay t T P) (h : (x1 < 10 → Q (some (.int (-1))) (t, T, (hf_up (hf_up I 156 0 (-1)) 157 1 ((I 157 1) + 1)), L, P)) ∧ (¬ (x1 < 10) → (400 < x1 → Q (some (.int (-1))) (t, T, (hf_up (hf_up I 156 0 (-1)) 157 1 ((I 157 1) + 1)), L, P)) ∧ (¬ (400 < x1) → (x2 < 1 → Q (some (.int (-1))) (t, T, (hf_up (hf_up I 156 0 (-1)) 157 1 ((I 157 1) + 1)), L, P)) ∧ (¬ (x2 < 1) → (4 < x2 → Q (some (.int (-1))) (t, T, (hf_up (hf_up I 156 0 (-1)) 157 1 ((I 157 1) + 1)), L, P)) ∧ (¬ (4 < x2) → ((I 158 24) ≤ 0 → Q (some (.int 0)) (t, T, (hf_up (hf_up (hf_up (hf_up I 158 313 x1) 158 314 x2) 156 27 0) 156 0 0), L, P)) ∧ (¬ ((I 158 24) ≤ 0) → Q (some (.int (-3))) (t, T, (hf_up (hf_up I 156 0 (-3)) 157 3 ((I 157 3) + 1)), L, P))))))) : hf_G X Y_X12_column (d + 2) k n 0 (hf_en [.ref 156, .int x1, .int x2] 3) [] (t, T, I, L, P) Q := by
  show hf_G X Y_X12_column (d + 2) k n 0 [some (.ref 156), some (.int x1), some (.int x2)] [] (t, T, I, L, P) Q
  refine hf_iload_n dX12_column_0 rfl rfl ?_
  refine hf_bipush (v := 10) dX12_column_1 (by decide) ?_
  refine hf_sipush (v := 400) dX12_column_3 (by decide) ?_
  refine hf_callS (as := [.int x1, .int 10, .int 400]) ok_X12_lies dX12_column_6 hw1143 hw1144 rfl (Nat.le_of_ble_eq_true rfl) rfl (Nat.le_of_ble_eq_true rfl) (Nat.zero_le _) (Nat.zero_le _) ?_
  show hf_G X Y_X12_lies (d + 1) _ _ 0 [some (.int x1), some (.int 10), some (.int 400)] [] (t, T, I, L, P) _
  refine hf_iload_n dX12_lies_0 rfl rfl ?_
  refine hf_iload_n dX12_lies_1 rfl rfl ?_
  refine hf_icmp_lt (tgt := 14) dX12_lies_2 (by decide) (fun hc => ?_) (fun hc => ?_)
  · replace h := h.1 hc
    refine hf_iconst (v := 0) dX12_lies_14 (by decide) ?_
    refine hf_ireturn dX12_lies_15 rfl (by decide) ?_
    show hf_G X Y_X12_column (d + 2) _ _ 9 [some (.ref 156), some (.int x1), some (.int x2)] [.int 0] (t, T, I, L, P) _
    refine hf_if_eq (tgt := 21) dX12_column_9 (by decide) (fun _ => ?_) (fun hc => absurd (show (0 : Int32) = (0 : Int32) by decide) hc)
    refine hf_aload_n dX12_column_21 rfl rfl ?_
    refine hf_iconst (v := (-1)) dX12_column_22 (by decide) ?_
    refine hf_callV (c := 12) (as := [.int (-1)]) ok_X12_refuses dX12_column_23 hw1146 hw1147 hw1601 (hs.2.1 156 _ rfl) (by decide) (hf_lin hs 156 rfl) rfl (Nat.le_of_ble_eq_true rfl) rfl (Nat.le_of_ble_eq_true rfl) (Nat.zero_le _) (Nat.zero_le _) ?_
    show hf_G X Y_X12_refuses (d + 1) _ _ 0 [some (.ref 156), some (.int (-1))] [] (t, T, I, L, P) _
    refine hf_aload_n dX12_refuses_0 rfl rfl ?_
    refine hf_iload_n dX12_refuses_1 rfl rfl ?_
    refine hf_puti (c := 12) (j := 0) dX12_refuses_2 (hs.2.1 156 _ rfl) (hf_lin hs 156 rfl) (by decide) (by decide) hw1036 rfl rfl ?_
    refine hf_aload_n dX12_refuses_5 rfl rfl ?_
    refine hf_getr (b := 157) (c := 12) (j := 1) dX12_refuses_6 (hs.2.1 156 _ rfl) (hf_lin hs 156 rfl) (by decide) (by decide) hw1037 rfl (hs.2.2 156 1 _ rfl) ?_
    refine hf_iload_n dX12_refuses_9 rfl rfl ?_
    refine hf_ineg dX12_refuses_10 ?_
    rw [show (-(-1) : Int32) = 1 by decide]
    refine hf_dup2 dX12_refuses_11 rfl rfl ?_
    refine hf_iald_k (j := 1) (by decide) dX12_refuses_12 (hs.2.1 157 _ rfl) (hf_lin hs 157 rfl) (hf_vin (by decide)) ?_
    refine hf_iconst (v := 1) dX12_refuses_13 (by decide) ?_
    refine hf_iadd dX12_refuses_14 ?_
    refine hf_iast_k (j := 1) (by decide) dX12_refuses_15 (hs.2.1 157 _ rfl) (hf_lin hs 157 rfl) (hf_vin (by decide)) ?_
    refine hf_iload_n dX12_refuses_16 rfl rfl ?_
    refine hf_ireturn dX12_refuses_17 rfl rfl ?_
    show hf_G X Y_X12_column (d + 2) _ _ 26 [some (.ref 156), some (.int x1), some (.int x2)] [.int (-1)] (t, T, (hf_up (hf_up I 156 0 (-1)) 157 1 ((I 157 1) + 1)), L, P) _
    refine hf_ireturn dX12_column_26 rfl rfl ?_
    exact h
  · replace h := h.2 hc
    refine hf_iload_n dX12_lies_5 rfl rfl ?_
    refine hf_iload_n dX12_lies_6 rfl rfl ?_
    refine hf_icmp_gt (tgt := 14) dX12_lies_7 (by decide) (fun hc => ?_) (fun hc => ?_)
    · replace h := h.1 hc
      refine hf_iconst (v := 0) dX12_lies_14 (by decide) ?_
      refine hf_ireturn dX12_lies_15 rfl (by decide) ?_
      show hf_G X Y_X12_column (d + 2) _ _ 9 [some (.ref 156), some (.int x1), some (.int x2)] [.int 0] (t, T, I, L, P) _
      refine hf_if_eq (tgt := 21) dX12_column_9 (by decide) (fun _ => ?_) (fun hc => absurd (show (0 : Int32) = (0 : Int32) by decide) hc)
      refine hf_aload_n dX12_column_21 rfl rfl ?_
      refine hf_iconst (v := (-1)) dX12_column_22 (by decide) ?_
      refine hf_callV (c := 12) (as := [.int (-1)]) ok_X12_refuses dX12_column_23 hw1146 hw1147 hw1601 (hs.2.1 156 _ rfl) (by decide) (hf_lin hs 156 rfl) rfl (Nat.le_of_ble_eq_true rfl) rfl (Nat.le_of_ble_eq_true rfl) (Nat.zero_le _) (Nat.zero_le _) ?_
      show hf_G X Y_X12_refuses (d + 1) _ _ 0 [some (.ref 156), some (.int (-1))] [] (t, T, I, L, P) _
      refine hf_aload_n dX12_refuses_0 rfl rfl ?_
      refine hf_iload_n dX12_refuses_1 rfl rfl ?_
      refine hf_puti (c := 12) (j := 0) dX12_refuses_2 (hs.2.1 156 _ rfl) (hf_lin hs 156 rfl) (by decide) (by decide) hw1036 rfl rfl ?_
      refine hf_aload_n dX12_refuses_5 rfl rfl ?_
      refine hf_getr (b := 157) (c := 12) (j := 1) dX12_refuses_6 (hs.2.1 156 _ rfl) (hf_lin hs 156 rfl) (by decide) (by decide) hw1037 rfl (hs.2.2 156 1 _ rfl) ?_
      refine hf_iload_n dX12_refuses_9 rfl rfl ?_
      refine hf_ineg dX12_refuses_10 ?_
      rw [show (-(-1) : Int32) = 1 by decide]
      refine hf_dup2 dX12_refuses_11 rfl rfl ?_
      refine hf_iald_k (j := 1) (by decide) dX12_refuses_12 (hs.2.1 157 _ rfl) (hf_lin hs 157 rfl) (hf_vin (by decide)) ?_
      refine hf_iconst (v := 1) dX12_refuses_13 (by decide) ?_
      refine hf_iadd dX12_refuses_14 ?_
      refine hf_iast_k (j := 1) (by decide) dX12_refuses_15 (hs.2.1 157 _ rfl) (hf_lin hs 157 rfl) (hf_vin (by decide)) ?_
      refine hf_iload_n dX12_refuses_16 rfl rfl ?_
      refine hf_ireturn dX12_refuses_17 rfl rfl ?_
      show hf_G X Y_X12_column (d + 2) _ _ 26 [some (.ref 156), some (.int x1), some (.int x2)] [.int (-1)] (t, T, (hf_up (hf_up I 156 0 (-1)) 157 1 ((I 157 1) + 1)), L, P) _
      refine hf_ireturn dX12_column_26 rfl rfl ?_
      exact h
    · replace h := h.2 hc
      refine hf_iconst (v := 1) dX12_lies_10 (by decide) ?_
      refine hf_goto (tgt := 15) dX12_lies_11 (by decide) ?_
      refine hf_ireturn dX12_lies_15 rfl (by decide) ?_
      show hf_G X Y_X12_column (d + 2) _ _ 9 [some (.ref 156), some (.int x1), some (.int x2)] [.int 1] (t, T, I, L, P) _
      refine hf_if_eq (tgt := 21) dX12_column_9 (by decide) (fun hc => absurd (show (1 : Int32) = (0 : Int32) from hc) (by decide)) (fun _ => ?_)
      refine hf_iload_n dX12_column_12 rfl rfl ?_
      refine hf_iconst (v := 1) dX12_column_13 (by decide) ?_
      refine hf_iconst (v := 4) dX12_column_14 (by decide) ?_
      refine hf_callS (as := [.int x2, .int 1, .int 4]) ok_X12_lies dX12_column_15 hw1143 hw1144 rfl (Nat.le_of_ble_eq_true rfl) rfl (Nat.le_of_ble_eq_true rfl) (Nat.zero_le _) (Nat.zero_le _) ?_
      show hf_G X Y_X12_lies (d + 1) _ _ 0 [some (.int x2), some (.int 1), some (.int 4)] [] (t, T, I, L, P) _
      refine hf_iload_n dX12_lies_0 rfl rfl ?_
      refine hf_iload_n dX12_lies_1 rfl rfl ?_
      refine hf_icmp_lt (tgt := 14) dX12_lies_2 (by decide) (fun hc => ?_) (fun hc => ?_)
      · replace h := h.1 hc
        refine hf_iconst (v := 0) dX12_lies_14 (by decide) ?_
        refine hf_ireturn dX12_lies_15 rfl (by decide) ?_
        show hf_G X Y_X12_column (d + 2) _ _ 18 [some (.ref 156), some (.int x1), some (.int x2)] [.int 0] (t, T, I, L, P) _
        refine hf_if_ne (tgt := 27) dX12_column_18 (by decide) (fun hc => absurd (show ¬ (0 : Int32) = (0 : Int32) from hc) (by decide)) (fun _ => ?_)
        refine hf_aload_n dX12_column_21 rfl rfl ?_
        refine hf_iconst (v := (-1)) dX12_column_22 (by decide) ?_
        refine hf_callV (c := 12) (as := [.int (-1)]) ok_X12_refuses dX12_column_23 hw1146 hw1147 hw1601 (hs.2.1 156 _ rfl) (by decide) (hf_lin hs 156 rfl) rfl (Nat.le_of_ble_eq_true rfl) rfl (Nat.le_of_ble_eq_true rfl) (Nat.zero_le _) (Nat.zero_le _) ?_
        show hf_G X Y_X12_refuses (d + 1) _ _ 0 [some (.ref 156), some (.int (-1))] [] (t, T, I, L, P) _
        refine hf_aload_n dX12_refuses_0 rfl rfl ?_
        refine hf_iload_n dX12_refuses_1 rfl rfl ?_
        refine hf_puti (c := 12) (j := 0) dX12_refuses_2 (hs.2.1 156 _ rfl) (hf_lin hs 156 rfl) (by decide) (by decide) hw1036 rfl rfl ?_
        refine hf_aload_n dX12_refuses_5 rfl rfl ?_
        refine hf_getr (b := 157) (c := 12) (j := 1) dX12_refuses_6 (hs.2.1 156 _ rfl) (hf_lin hs 156 rfl) (by decide) (by decide) hw1037 rfl (hs.2.2 156 1 _ rfl) ?_
        refine hf_iload_n dX12_refuses_9 rfl rfl ?_
        refine hf_ineg dX12_refuses_10 ?_
        rw [show (-(-1) : Int32) = 1 by decide]
        refine hf_dup2 dX12_refuses_11 rfl rfl ?_
        refine hf_iald_k (j := 1) (by decide) dX12_refuses_12 (hs.2.1 157 _ rfl) (hf_lin hs 157 rfl) (hf_vin (by decide)) ?_
        refine hf_iconst (v := 1) dX12_refuses_13 (by decide) ?_
        refine hf_iadd dX12_refuses_14 ?_
        refine hf_iast_k (j := 1) (by decide) dX12_refuses_15 (hs.2.1 157 _ rfl) (hf_lin hs 157 rfl) (hf_vin (by decide)) ?_
        refine hf_iload_n dX12_refuses_16 rfl rfl ?_
        refine hf_ireturn dX12_refuses_17 rfl rfl ?_
        show hf_G X Y_X12_column (d + 2) _ _ 26 [some (.ref 156), some (.int x1), some (.int x2)] [.int (-1)] (t, T, (hf_up (hf_up I 156 0 (-1)) 157 1 ((I 157 1) + 1)), L, P) _
        refine hf_ireturn dX12_column_26 rfl rfl ?_
        exact h
      · replace h := h.2 hc
        refine hf_iload_n dX12_lies_5 rfl rfl ?_
        refine hf_iload_n dX12_lies_6 rfl rfl ?_
        refine hf_icmp_gt (tgt := 14) dX12_lies_7 (by decide) (fun hc => ?_) (fun hc => ?_)
        · replace h := h.1 hc
          refine hf_iconst (v := 0) dX12_lies_14 (by decide) ?_
          refine hf_ireturn dX12_lies_15 rfl (by decide) ?_
          show hf_G X Y_X12_column (d + 2) _ _ 18 [some (.ref 156), some (.int x1), some (.int x2)] [.int 0] (t, T, I, L, P) _
          refine hf_if_ne (tgt := 27) dX12_column_18 (by decide) (fun hc => absurd (show ¬ (0 : Int32) = (0 : Int32) from hc) (by decide)) (fun _ => ?_)
          refine hf_aload_n dX12_column_21 rfl rfl ?_
          refine hf_iconst (v := (-1)) dX12_column_22 (by decide) ?_
          refine hf_callV (c := 12) (as := [.int (-1)]) ok_X12_refuses dX12_column_23 hw1146 hw1147 hw1601 (hs.2.1 156 _ rfl) (by decide) (hf_lin hs 156 rfl) rfl (Nat.le_of_ble_eq_true rfl) rfl (Nat.le_of_ble_eq_true rfl) (Nat.zero_le _) (Nat.zero_le _) ?_
          show hf_G X Y_X12_refuses (d + 1) _ _ 0 [some (.ref 156), some (.int (-1))] [] (t, T, I, L, P) _
          refine hf_aload_n dX12_refuses_0 rfl rfl ?_
          refine hf_iload_n dX12_refuses_1 rfl rfl ?_
          refine hf_puti (c := 12) (j := 0) dX12_refuses_2 (hs.2.1 156 _ rfl) (hf_lin hs 156 rfl) (by decide) (by decide) hw1036 rfl rfl ?_
          refine hf_aload_n dX12_refuses_5 rfl rfl ?_
          refine hf_getr (b := 157) (c := 12) (j := 1) dX12_refuses_6 (hs.2.1 156 _ rfl) (hf_lin hs 156 rfl) (by decide) (by decide) hw1037 rfl (hs.2.2 156 1 _ rfl) ?_
          refine hf_iload_n dX12_refuses_9 rfl rfl ?_
          refine hf_ineg dX12_refuses_10 ?_
          rw [show (-(-1) : Int32) = 1 by decide]
          refine hf_dup2 dX12_refuses_11 rfl rfl ?_
          refine hf_iald_k (j := 1) (by decide) dX12_refuses_12 (hs.2.1 157 _ rfl) (hf_lin hs 157 rfl) (hf_vin (by decide)) ?_
          refine hf_iconst (v := 1) dX12_refuses_13 (by decide) ?_
          refine hf_iadd dX12_refuses_14 ?_
          refine hf_iast_k (j := 1) (by decide) dX12_refuses_15 (hs.2.1 157 _ rfl) (hf_lin hs 157 rfl) (hf_vin (by decide)) ?_
          refine hf_iload_n dX12_refuses_16 rfl rfl ?_
          refine hf_ireturn dX12_refuses_17 rfl rfl ?_
          show hf_G X Y_X12_column (d + 2) _ _ 26 [some (.ref 156), some (.int x1), some (.int x2)] [.int (-1)] (t, T, (hf_up (hf_up I 156 0 (-1)) 157 1 ((I 157 1) + 1)), L, P) _
          refine hf_ireturn dX12_column_26 rfl rfl ?_
          exact h
        · replace h := h.2 hc
          refine hf_iconst (v := 1) dX12_lies_10 (by decide) ?_
          refine hf_goto (tgt := 15) dX12_lies_11 (by decide) ?_
          refine hf_ireturn dX12_lies_15 rfl (by decide) ?_
          show hf_G X Y_X12_column (d + 2) _ _ 18 [some (.ref 156), some (.int x1), some (.int x2)] [.int 1] (t, T, I, L, P) _
          refine hf_if_ne (tgt := 27) dX12_column_18 (by decide) (fun _ => ?_) (fun hc => absurd (show (1 : Int32) = (0 : Int32) from hc) (by decide))
          refine hf_aload_n dX12_column_27 rfl rfl ?_
          refine hf_getr (b := 158) (c := 12) (j := 2) dX12_column_28 (hs.2.1 156 _ rfl) (hf_lin hs 156 rfl) (by decide) (by decide) hw1038 rfl (hs.2.2 156 2 _ rfl) ?_
          refine hf_bipush (v := 24) dX12_column_31 (by decide) ?_
          refine hf_iald_k (j := 24) (by decide) dX12_column_33 (hs.2.1 158 _ rfl) (hf_lin hs 158 rfl) (hf_vin (by decide)) ?_
          refine hf_if_le (tgt := 44) dX12_column_34 (by decide) (fun hc => ?_) (fun hc => ?_)
          · replace h := h.1 hc
            refine hf_aload_n dX12_column_44 rfl rfl ?_
            refine hf_getr (b := 158) (c := 12) (j := 2) dX12_column_45 (hs.2.1 156 _ rfl) (hf_lin hs 156 rfl) (by decide) (by decide) hw1038 rfl (hs.2.2 156 2 _ rfl) ?_
            refine hf_sipush (v := 313) dX12_column_48 (by decide) ?_
            refine hf_iload_n dX12_column_51 rfl rfl ?_
            refine hf_iast_k (j := 313) (by decide) dX12_column_52 (hs.2.1 158 _ rfl) (hf_lin hs 158 rfl) (hf_vin (by decide)) ?_
            refine hf_aload_n dX12_column_53 rfl rfl ?_
            refine hf_getr (b := 158) (c := 12) (j := 2) dX12_column_54 (hs.2.1 156 _ rfl) (hf_lin hs 156 rfl) (by decide) (by decide) hw1038 rfl (hs.2.2 156 2 _ rfl) ?_
            refine hf_sipush (v := 314) dX12_column_57 (by decide) ?_
            refine hf_iload_n dX12_column_60 rfl rfl ?_
            refine hf_iast_k (j := 314) (by decide) dX12_column_61 (hs.2.1 158 _ rfl) (hf_lin hs 158 rfl) (hf_vin (by decide)) ?_
            refine hf_aload_n dX12_column_62 rfl rfl ?_
            refine hf_iconst (v := 0) dX12_column_63 (by decide) ?_
            refine hf_callV (c := 12) (as := [.int 0]) ok_X12_settled dX12_column_64 hw1156 hw1157 hw1603 (hs.2.1 156 _ rfl) (by decide) (hf_lin hs 156 rfl) rfl (Nat.le_of_ble_eq_true rfl) rfl (Nat.le_of_ble_eq_true rfl) (Nat.zero_le _) (Nat.zero_le _) ?_
            show hf_G X Y_X12_settled (d + 1) _ _ 0 [some (.ref 156), some (.int 0)] [] (t, T, (hf_up (hf_up I 158 313 x1) 158 314 x2), L, P) _
            refine hf_aload_n dX12_settled_0 rfl rfl ?_
            refine hf_iconst (v := 0) dX12_settled_1 (by decide) ?_
            refine hf_puti (c := 12) (j := 27) dX12_settled_2 (hs.2.1 156 _ rfl) (hf_lin hs 156 rfl) (by decide) (by decide) hw1063 rfl rfl ?_
            refine hf_aload_n dX12_settled_5 rfl rfl ?_
            refine hf_iload_n dX12_settled_6 rfl rfl ?_
            refine hf_callV (c := 12) (as := [.int 0]) ok_X12_good dX12_settled_7 hw1149 hw1150 hw1602 (hs.2.1 156 _ rfl) (by decide) (hf_lin hs 156 rfl) rfl (Nat.le_of_ble_eq_true rfl) rfl (Nat.le_of_ble_eq_true rfl) (Nat.zero_le _) (Nat.zero_le _) ?_
            show hf_G X Y_X12_good d _ _ 0 [some (.ref 156), some (.int 0)] [] (t, T, (hf_up (hf_up (hf_up I 158 313 x1) 158 314 x2) 156 27 0), L, P) _
            refine hf_aload_n dX12_good_0 rfl rfl ?_
            refine hf_iconst (v := 0) dX12_good_1 (by decide) ?_
            refine hf_puti (c := 12) (j := 0) dX12_good_2 (hs.2.1 156 _ rfl) (hf_lin hs 156 rfl) (by decide) (by decide) hw1036 rfl rfl ?_
            refine hf_iload_n dX12_good_5 rfl rfl ?_
            refine hf_ireturn dX12_good_6 rfl rfl ?_
            show hf_G X Y_X12_settled (d + 1) _ _ 10 [some (.ref 156), some (.int 0)] [.int 0] (t, T, (hf_up (hf_up (hf_up (hf_up I 158 313 x1) 158 314 x2) 156 27 0) 156 0 0), L, P) _
            refine hf_ireturn dX12_settled_10 rfl rfl ?_
            show hf_G X Y_X12_column (d + 2) _ _ 67 [some (.ref 156), some (.int x1), some (.int x2)] [.int 0] (t, T, (hf_up (hf_up (hf_up (hf_up I 158 313 x1) 158 314 x2) 156 27 0) 156 0 0), L, P) _
            refine hf_ireturn dX12_column_67 rfl rfl ?_
            exact h
          · replace h := h.2 hc
            refine hf_aload_n dX12_column_37 rfl rfl ?_
            refine hf_bipush (v := (-3)) dX12_column_38 (by decide) ?_
            refine hf_callV (c := 12) (as := [.int (-3)]) ok_X12_refuses dX12_column_40 hw1146 hw1147 hw1601 (hs.2.1 156 _ rfl) (by decide) (hf_lin hs 156 rfl) rfl (Nat.le_of_ble_eq_true rfl) rfl (Nat.le_of_ble_eq_true rfl) (Nat.zero_le _) (Nat.zero_le _) ?_
            show hf_G X Y_X12_refuses (d + 1) _ _ 0 [some (.ref 156), some (.int (-3))] [] (t, T, I, L, P) _
            refine hf_aload_n dX12_refuses_0 rfl rfl ?_
            refine hf_iload_n dX12_refuses_1 rfl rfl ?_
            refine hf_puti (c := 12) (j := 0) dX12_refuses_2 (hs.2.1 156 _ rfl) (hf_lin hs 156 rfl) (by decide) (by decide) hw1036 rfl rfl ?_
            refine hf_aload_n dX12_refuses_5 rfl rfl ?_
            refine hf_getr (b := 157) (c := 12) (j := 1) dX12_refuses_6 (hs.2.1 156 _ rfl) (hf_lin hs 156 rfl) (by decide) (by decide) hw1037 rfl (hs.2.2 156 1 _ rfl) ?_
            refine hf_iload_n dX12_refuses_9 rfl rfl ?_
            refine hf_ineg dX12_refuses_10 ?_
            rw [show (-(-3) : Int32) = 3 by decide]
            refine hf_dup2 dX12_refuses_11 rfl rfl ?_
            refine hf_iald_k (j := 3) (by decide) dX12_refuses_12 (hs.2.1 157 _ rfl) (hf_lin hs 157 rfl) (hf_vin (by decide)) ?_
            refine hf_iconst (v := 1) dX12_refuses_13 (by decide) ?_
            refine hf_iadd dX12_refuses_14 ?_
            refine hf_iast_k (j := 3) (by decide) dX12_refuses_15 (hs.2.1 157 _ rfl) (hf_lin hs 157 rfl) (hf_vin (by decide)) ?_
            refine hf_iload_n dX12_refuses_16 rfl rfl ?_
            refine hf_ireturn dX12_refuses_17 rfl rfl ?_
            show hf_G X Y_X12_column (d + 2) _ _ 43 [some (.ref 156), some (.int x1), some (.int x2)] [.int (-3)] (t, T, (hf_up (hf_up I 156 0 (-3)) 157 3 ((I 157 3) + 1)), L, P) _
            refine hf_ireturn dX12_column_43 rfl rfl ?_
            exact h

set_option maxHeartbeats 4000000 in
theorem w_X12_sizes_0 {X : hf_X} {d k n t : Nat} {T : hf_T} {I : hf_I} {L : hf_L} {P : hf_P} {Q : Option Value → hf_M → Prop} {x1 : Int32} (hs : hf_Lay t T P) (h : (x1 < 0 → Q (some (.int (-1))) (t, T, I, L, P)) ∧ (¬ (x1 < 0) → (2 < x1 → Q (some (.int (-1))) (t, T, I, L, P)) ∧ (¬ (2 < x1) → ((I 158 24) ≤ 0 → Q (some (.int (I 158 315))) (t, T, (hf_up (hf_up I 158 315 x1) 156 27 0), L, P)) ∧ (¬ ((I 158 24) ≤ 0) → Q (some (.int (-3))) (t, T, I, L, P))))) : hf_G X Y_X12_sizes (d + 1) k n 0 (hf_en [.ref 156, .int x1] 3) [] (t, T, I, L, P) Q := by
  show hf_G X Y_X12_sizes (d + 1) k n 0 [some (.ref 156), some (.int x1), none] [] (t, T, I, L, P) Q
  refine hf_iload_n dX12_sizes_0 rfl rfl ?_
  refine hf_iconst (v := 0) dX12_sizes_1 (by decide) ?_
  refine hf_iconst (v := 2) dX12_sizes_2 (by decide) ?_
  refine hf_callS (as := [.int x1, .int 0, .int 2]) ok_X12_lies dX12_sizes_3 hw1143 hw1144 rfl (Nat.le_of_ble_eq_true rfl) rfl (Nat.le_of_ble_eq_true rfl) (Nat.zero_le _) (Nat.zero_le _) ?_
  show hf_G X Y_X12_lies d _ _ 0 [some (.int x1), some (.int 0), some (.int 2)] [] (t, T, I, L, P) _
  refine hf_iload_n dX12_lies_0 rfl rfl ?_
  refine hf_iload_n dX12_lies_1 rfl rfl ?_
  refine hf_icmp_lt (tgt := 14) dX12_lies_2 (by decide) (fun hc => ?_) (fun hc => ?_)
  · replace h := h.1 hc
    refine hf_iconst (v := 0) dX12_lies_14 (by decide) ?_
    refine hf_ireturn dX12_lies_15 rfl (by decide) ?_
    show hf_G X Y_X12_sizes (d + 1) _ _ 6 [some (.ref 156), some (.int x1), none] [.int 0] (t, T, I, L, P) _
    refine hf_if_ne (tgt := 11) dX12_sizes_6 (by decide) (fun hc => absurd (show ¬ (0 : Int32) = (0 : Int32) from hc) (by decide)) (fun _ => ?_)
    refine hf_iconst (v := (-1)) dX12_sizes_9 (by decide) ?_
    refine hf_ireturn dX12_sizes_10 rfl rfl ?_
    exact h
  · replace h := h.2 hc
    refine hf_iload_n dX12_lies_5 rfl rfl ?_
    refine hf_iload_n dX12_lies_6 rfl rfl ?_
    refine hf_icmp_gt (tgt := 14) dX12_lies_7 (by decide) (fun hc => ?_) (fun hc => ?_)
    · replace h := h.1 hc
      refine hf_iconst (v := 0) dX12_lies_14 (by decide) ?_
      refine hf_ireturn dX12_lies_15 rfl (by decide) ?_
      show hf_G X Y_X12_sizes (d + 1) _ _ 6 [some (.ref 156), some (.int x1), none] [.int 0] (t, T, I, L, P) _
      refine hf_if_ne (tgt := 11) dX12_sizes_6 (by decide) (fun hc => absurd (show ¬ (0 : Int32) = (0 : Int32) from hc) (by decide)) (fun _ => ?_)
      refine hf_iconst (v := (-1)) dX12_sizes_9 (by decide) ?_
      refine hf_ireturn dX12_sizes_10 rfl rfl ?_
      exact h
    · replace h := h.2 hc
      refine hf_iconst (v := 1) dX12_lies_10 (by decide) ?_
      refine hf_goto (tgt := 15) dX12_lies_11 (by decide) ?_
      refine hf_ireturn dX12_lies_15 rfl (by decide) ?_
      show hf_G X Y_X12_sizes (d + 1) _ _ 6 [some (.ref 156), some (.int x1), none] [.int 1] (t, T, I, L, P) _
      refine hf_if_ne (tgt := 11) dX12_sizes_6 (by decide) (fun _ => ?_) (fun hc => absurd (show (1 : Int32) = (0 : Int32) from hc) (by decide))
      refine hf_aload_n dX12_sizes_11 rfl rfl ?_
      refine hf_getr (b := 158) (c := 12) (j := 2) dX12_sizes_12 (hs.2.1 156 _ rfl) (hf_lin hs 156 rfl) (by decide) (by decide) hw1038 rfl (hs.2.2 156 2 _ rfl) ?_
      refine hf_bipush (v := 24) dX12_sizes_15 (by decide) ?_
      refine hf_iald_k (j := 24) (by decide) dX12_sizes_17 (hs.2.1 158 _ rfl) (hf_lin hs 158 rfl) (hf_vin (by decide)) ?_
      refine hf_if_le (tgt := 24) dX12_sizes_18 (by decide) (fun hc => ?_) (fun hc => ?_)
      · replace h := h.1 hc
        refine hf_aload_n dX12_sizes_24 rfl rfl ?_
        refine hf_getr (b := 158) (c := 12) (j := 2) dX12_sizes_25 (hs.2.1 156 _ rfl) (hf_lin hs 156 rfl) (by decide) (by decide) hw1038 rfl (hs.2.2 156 2 _ rfl) ?_
        refine hf_sipush (v := 315) dX12_sizes_28 (by decide) ?_
        refine hf_iald_k (j := 315) (by decide) dX12_sizes_31 (hs.2.1 158 _ rfl) (hf_lin hs 158 rfl) (hf_vin (by decide)) ?_
        refine hf_istore_n (l2 := [some (.ref 156), some (.int x1), some (.int (I 158 315))]) dX12_sizes_32 rfl (by decide) rfl ?_
        refine hf_aload_n dX12_sizes_33 rfl rfl ?_
        refine hf_getr (b := 158) (c := 12) (j := 2) dX12_sizes_34 (hs.2.1 156 _ rfl) (hf_lin hs 156 rfl) (by decide) (by decide) hw1038 rfl (hs.2.2 156 2 _ rfl) ?_
        refine hf_sipush (v := 315) dX12_sizes_37 (by decide) ?_
        refine hf_iload_n dX12_sizes_40 rfl rfl ?_
        refine hf_iast_k (j := 315) (by decide) dX12_sizes_41 (hs.2.1 158 _ rfl) (hf_lin hs 158 rfl) (hf_vin (by decide)) ?_
        refine hf_aload_n dX12_sizes_42 rfl rfl ?_
        refine hf_iconst (v := 0) dX12_sizes_43 (by decide) ?_
        refine hf_puti (c := 12) (j := 27) dX12_sizes_44 (hs.2.1 156 _ rfl) (hf_lin hs 156 rfl) (by decide) (by decide) hw1063 rfl rfl ?_
        refine hf_iload_n dX12_sizes_47 rfl rfl ?_
        refine hf_ireturn dX12_sizes_48 rfl rfl ?_
        exact h
      · replace h := h.2 hc
        refine hf_bipush (v := (-3)) dX12_sizes_21 (by decide) ?_
        refine hf_ireturn dX12_sizes_23 rfl rfl ?_
        exact h

set_option maxHeartbeats 4000000 in
theorem w_X12_size_0 {X : hf_X} {d k n t : Nat} {T : hf_T} {I : hf_I} {L : hf_L} {P : hf_P} {Q : Option Value → hf_M → Prop} {x1 : Int32} (hs : hf_Lay t T P) (h : hf_G X Y_X12_sizes d 0 0 0 (hf_en [.ref 156, .int x1] 3) [] (t, T, I, L, P) (fun r M => hf_G X Y_X12_size (d + 1) k n 6 [none, none] (r.toList ++ [.ref 156]) M Q)) : hf_G X Y_X12_size (d + 1) k n 0 (hf_en [.ref 156, .int x1] 2) [] (t, T, I, L, P) Q := by
  show hf_G X Y_X12_size (d + 1) k n 0 [some (.ref 156), some (.int x1)] [] (t, T, I, L, P) Q
  refine hf_aload_n dX12_size_0 rfl rfl ?_
  refine hf_aload_n dX12_size_1 rfl rfl ?_
  refine hf_iload_n dX12_size_2 rfl rfl ?_
  exact hf_callV (c := 12) (as := [.int x1]) ok_X12_sizes dX12_size_3 hw1171 hw1172 hw1604 (hs.2.1 156 _ rfl) (by decide) (hf_lin hs 156 rfl) rfl (Nat.le_of_ble_eq_true rfl) rfl (Nat.le_of_ble_eq_true rfl) (Nat.zero_le _) (Nat.zero_le _) (hf_mono (fun r M q => hf_drop (l' := [none, none]) (by simp [hf_sub]) q) h)

set_option maxHeartbeats 4000000 in
theorem w_X12_size_6 {X : hf_X} {d k n t : Nat} {T : hf_T} {I : hf_I} {L : hf_L} {P : hf_P} {Q : Option Value → hf_M → Prop} {s0 : Int32} (hs : hf_Lay t T P) (h : (0 ≤ s0 → Q (some (.int s0)) (t, T, (hf_up I 156 0 0), L, P)) ∧ (¬ (0 ≤ s0) → vp_in (-s0) 7 ∧ (vp_in (-s0) 7 ∧ (Q (some (.int s0)) (t, T, (hf_up (hf_up I 156 0 s0) 157 (((-s0)).toNatClampNeg) ((I 157 (((-s0)).toNatClampNeg)) + 1)), L, P))))) : hf_G X Y_X12_size (d + 2) k n 6 [none, none] [.int s0, .ref 156] (t, T, I, L, P) Q := by
  refine hf_callV (c := 12) (as := [.int s0]) ok_X12_goodOr dX12_size_6 hw1174 hw1175 hw1605 (hs.2.1 156 _ rfl) (by decide) (hf_lin hs 156 rfl) rfl (Nat.le_of_ble_eq_true rfl) rfl (Nat.le_of_ble_eq_true rfl) (Nat.zero_le _) (Nat.zero_le _) ?_
  show hf_G X Y_X12_goodOr (d + 1) _ _ 0 [some (.ref 156), some (.int s0)] [] (t, T, I, L, P) _
  refine hf_iload_n dX12_goodOr_0 rfl rfl ?_
  refine hf_if_ge (tgt := 12) dX12_goodOr_1 (by decide) (fun hc => ?_) (fun hc => ?_)
  · replace h := h.1 hc
    refine hf_aload_n dX12_goodOr_12 rfl rfl ?_
    refine hf_iload_n dX12_goodOr_13 rfl rfl ?_
    refine hf_callV (c := 12) (as := [.int s0]) ok_X12_good dX12_goodOr_14 hw1149 hw1150 hw1602 (hs.2.1 156 _ rfl) (by decide) (hf_lin hs 156 rfl) rfl (Nat.le_of_ble_eq_true rfl) rfl (Nat.le_of_ble_eq_true rfl) (Nat.zero_le _) (Nat.zero_le _) ?_
    show hf_G X Y_X12_good d _ _ 0 [some (.ref 156), some (.int s0)] [] (t, T, I, L, P) _
    refine hf_aload_n dX12_good_0 rfl rfl ?_
    refine hf_iconst (v := 0) dX12_good_1 (by decide) ?_
    refine hf_puti (c := 12) (j := 0) dX12_good_2 (hs.2.1 156 _ rfl) (hf_lin hs 156 rfl) (by decide) (by decide) hw1036 rfl rfl ?_
    refine hf_iload_n dX12_good_5 rfl rfl ?_
    refine hf_ireturn dX12_good_6 rfl rfl ?_
    show hf_G X Y_X12_goodOr (d + 1) _ _ 17 [some (.ref 156), some (.int s0)] [.int s0] (t, T, (hf_up I 156 0 0), L, P) _
    refine hf_ireturn dX12_goodOr_17 rfl rfl ?_
    show hf_G X Y_X12_size (d + 2) _ _ 9 [none, none] [.int s0] (t, T, (hf_up I 156 0 0), L, P) _
    refine hf_ireturn dX12_size_9 rfl rfl ?_
    exact h
  · replace h := h.2 hc
    refine hf_aload_n dX12_goodOr_4 rfl rfl ?_
    refine hf_iload_n dX12_goodOr_5 rfl rfl ?_
    refine hf_callV (c := 12) (as := [.int s0]) ok_X12_refuses dX12_goodOr_6 hw1146 hw1147 hw1601 (hs.2.1 156 _ rfl) (by decide) (hf_lin hs 156 rfl) rfl (Nat.le_of_ble_eq_true rfl) rfl (Nat.le_of_ble_eq_true rfl) (Nat.zero_le _) (Nat.zero_le _) ?_
    show hf_G X Y_X12_refuses d _ _ 0 [some (.ref 156), some (.int s0)] [] (t, T, I, L, P) _
    refine hf_aload_n dX12_refuses_0 rfl rfl ?_
    refine hf_iload_n dX12_refuses_1 rfl rfl ?_
    refine hf_puti (c := 12) (j := 0) dX12_refuses_2 (hs.2.1 156 _ rfl) (hf_lin hs 156 rfl) (by decide) (by decide) hw1036 rfl rfl ?_
    refine hf_aload_n dX12_refuses_5 rfl rfl ?_
    refine hf_getr (b := 157) (c := 12) (j := 1) dX12_refuses_6 (hs.2.1 156 _ rfl) (hf_lin hs 156 rfl) (by decide) (by decide) hw1037 rfl (hs.2.2 156 1 _ rfl) ?_
    refine hf_iload_n dX12_refuses_9 rfl rfl ?_
    refine hf_ineg dX12_refuses_10 ?_
    refine hf_dup2 dX12_refuses_11 rfl rfl ?_
    refine hf_iald dX12_refuses_12 (hs.2.1 157 _ rfl) (hf_lin hs 157 rfl) h.1 ?_
    replace h := h.2
    refine hf_iconst (v := 1) dX12_refuses_13 (by decide) ?_
    refine hf_iadd dX12_refuses_14 ?_
    refine hf_iast dX12_refuses_15 (hs.2.1 157 _ rfl) (hf_lin hs 157 rfl) h.1 ?_
    replace h := h.2
    refine hf_iload_n dX12_refuses_16 rfl rfl ?_
    refine hf_ireturn dX12_refuses_17 rfl rfl ?_
    show hf_G X Y_X12_goodOr (d + 1) _ _ 9 [some (.ref 156), some (.int s0)] [.int s0] (t, T, (hf_up (hf_up I 156 0 s0) 157 (((-s0)).toNatClampNeg) ((I 157 (((-s0)).toNatClampNeg)) + 1)), L, P) _
    refine hf_goto (tgt := 17) dX12_goodOr_9 (by decide) ?_
    refine hf_ireturn dX12_goodOr_17 rfl rfl ?_
    show hf_G X Y_X12_size (d + 2) _ _ 9 [none, none] [.int s0] (t, T, (hf_up (hf_up I 156 0 s0) 157 (((-s0)).toNatClampNeg) ((I 157 (((-s0)).toNatClampNeg)) + 1)), L, P) _
    refine hf_ireturn dX12_size_9 rfl rfl ?_
    exact h

set_option maxHeartbeats 4000000 in
theorem w_X12_worth_0 {X : hf_X} {d k n t : Nat} {T : hf_T} {I : hf_I} {L : hf_L} {P : hf_P} {Q : Option Value → hf_M → Prop} {x1 : Int32} {x2 : Int32} (hs : hf_Lay t T P) (h : (x1 < 0 → Q (some (.int (-1))) (t, T, (hf_up (hf_up I 156 0 (-1)) 157 1 ((I 157 1) + 1)), L, P)) ∧ (¬ (x1 < 0) → (7 < x1 → Q (some (.int (-1))) (t, T, (hf_up (hf_up I 156 0 (-1)) 157 1 ((I 157 1) + 1)), L, P)) ∧ (¬ (7 < x1) → (x2 < 0 → Q (some (.int (-1))) (t, T, (hf_up (hf_up I 156 0 (-1)) 157 1 ((I 157 1) + 1)), L, P)) ∧ (¬ (x2 < 0) → (99 < x2 → Q (some (.int (-1))) (t, T, (hf_up (hf_up I 156 0 (-1)) 157 1 ((I 157 1) + 1)), L, P)) ∧ (¬ (99 < x2) → vp_in (261 + x1) 5929 ∧ (vp_in (261 + x1) 5929 ∧ (Q (some (.int (I 158 (((261 + x1)).toNatClampNeg)))) (t, T, (hf_up (hf_up I 158 (((261 + x1)).toNatClampNeg) x2) 156 0 0), L, P)))))))) : hf_G X Y_X12_worth (d + 1) k n 0 (hf_en [.ref 156, .int x1, .int x2] 4) [] (t, T, I, L, P) Q := by
  show hf_G X Y_X12_worth (d + 1) k n 0 [some (.ref 156), some (.int x1), some (.int x2), none] [] (t, T, I, L, P) Q
  refine hf_iload_n dX12_worth_0 rfl rfl ?_
  refine hf_iconst (v := 0) dX12_worth_1 (by decide) ?_
  refine hf_bipush (v := 7) dX12_worth_2 (by decide) ?_
  refine hf_callS (as := [.int x1, .int 0, .int 7]) ok_X12_lies dX12_worth_4 hw1143 hw1144 rfl (Nat.le_of_ble_eq_true rfl) rfl (Nat.le_of_ble_eq_true rfl) (Nat.zero_le _) (Nat.zero_le _) ?_
  show hf_G X Y_X12_lies d _ _ 0 [some (.int x1), some (.int 0), some (.int 7)] [] (t, T, I, L, P) _
  refine hf_iload_n dX12_lies_0 rfl rfl ?_
  refine hf_iload_n dX12_lies_1 rfl rfl ?_
  refine hf_icmp_lt (tgt := 14) dX12_lies_2 (by decide) (fun hc => ?_) (fun hc => ?_)
  · replace h := h.1 hc
    refine hf_iconst (v := 0) dX12_lies_14 (by decide) ?_
    refine hf_ireturn dX12_lies_15 rfl (by decide) ?_
    show hf_G X Y_X12_worth (d + 1) _ _ 7 [some (.ref 156), some (.int x1), some (.int x2), none] [.int 0] (t, T, I, L, P) _
    refine hf_if_eq (tgt := 20) dX12_worth_7 (by decide) (fun _ => ?_) (fun hc => absurd (show (0 : Int32) = (0 : Int32) by decide) hc)
    refine hf_aload_n dX12_worth_20 rfl rfl ?_
    refine hf_iconst (v := (-1)) dX12_worth_21 (by decide) ?_
    refine hf_callV (c := 12) (as := [.int (-1)]) ok_X12_refuses dX12_worth_22 hw1146 hw1147 hw1601 (hs.2.1 156 _ rfl) (by decide) (hf_lin hs 156 rfl) rfl (Nat.le_of_ble_eq_true rfl) rfl (Nat.le_of_ble_eq_true rfl) (Nat.zero_le _) (Nat.zero_le _) ?_
    show hf_G X Y_X12_refuses d _ _ 0 [some (.ref 156), some (.int (-1))] [] (t, T, I, L, P) _
    refine hf_aload_n dX12_refuses_0 rfl rfl ?_
    refine hf_iload_n dX12_refuses_1 rfl rfl ?_
    refine hf_puti (c := 12) (j := 0) dX12_refuses_2 (hs.2.1 156 _ rfl) (hf_lin hs 156 rfl) (by decide) (by decide) hw1036 rfl rfl ?_
    refine hf_aload_n dX12_refuses_5 rfl rfl ?_
    refine hf_getr (b := 157) (c := 12) (j := 1) dX12_refuses_6 (hs.2.1 156 _ rfl) (hf_lin hs 156 rfl) (by decide) (by decide) hw1037 rfl (hs.2.2 156 1 _ rfl) ?_
    refine hf_iload_n dX12_refuses_9 rfl rfl ?_
    refine hf_ineg dX12_refuses_10 ?_
    rw [show (-(-1) : Int32) = 1 by decide]
    refine hf_dup2 dX12_refuses_11 rfl rfl ?_
    refine hf_iald_k (j := 1) (by decide) dX12_refuses_12 (hs.2.1 157 _ rfl) (hf_lin hs 157 rfl) (hf_vin (by decide)) ?_
    refine hf_iconst (v := 1) dX12_refuses_13 (by decide) ?_
    refine hf_iadd dX12_refuses_14 ?_
    refine hf_iast_k (j := 1) (by decide) dX12_refuses_15 (hs.2.1 157 _ rfl) (hf_lin hs 157 rfl) (hf_vin (by decide)) ?_
    refine hf_iload_n dX12_refuses_16 rfl rfl ?_
    refine hf_ireturn dX12_refuses_17 rfl rfl ?_
    show hf_G X Y_X12_worth (d + 1) _ _ 25 [some (.ref 156), some (.int x1), some (.int x2), none] [.int (-1)] (t, T, (hf_up (hf_up I 156 0 (-1)) 157 1 ((I 157 1) + 1)), L, P) _
    refine hf_ireturn dX12_worth_25 rfl rfl ?_
    exact h
  · replace h := h.2 hc
    refine hf_iload_n dX12_lies_5 rfl rfl ?_
    refine hf_iload_n dX12_lies_6 rfl rfl ?_
    refine hf_icmp_gt (tgt := 14) dX12_lies_7 (by decide) (fun hc => ?_) (fun hc => ?_)
    · replace h := h.1 hc
      refine hf_iconst (v := 0) dX12_lies_14 (by decide) ?_
      refine hf_ireturn dX12_lies_15 rfl (by decide) ?_
      show hf_G X Y_X12_worth (d + 1) _ _ 7 [some (.ref 156), some (.int x1), some (.int x2), none] [.int 0] (t, T, I, L, P) _
      refine hf_if_eq (tgt := 20) dX12_worth_7 (by decide) (fun _ => ?_) (fun hc => absurd (show (0 : Int32) = (0 : Int32) by decide) hc)
      refine hf_aload_n dX12_worth_20 rfl rfl ?_
      refine hf_iconst (v := (-1)) dX12_worth_21 (by decide) ?_
      refine hf_callV (c := 12) (as := [.int (-1)]) ok_X12_refuses dX12_worth_22 hw1146 hw1147 hw1601 (hs.2.1 156 _ rfl) (by decide) (hf_lin hs 156 rfl) rfl (Nat.le_of_ble_eq_true rfl) rfl (Nat.le_of_ble_eq_true rfl) (Nat.zero_le _) (Nat.zero_le _) ?_
      show hf_G X Y_X12_refuses d _ _ 0 [some (.ref 156), some (.int (-1))] [] (t, T, I, L, P) _
      refine hf_aload_n dX12_refuses_0 rfl rfl ?_
      refine hf_iload_n dX12_refuses_1 rfl rfl ?_
      refine hf_puti (c := 12) (j := 0) dX12_refuses_2 (hs.2.1 156 _ rfl) (hf_lin hs 156 rfl) (by decide) (by decide) hw1036 rfl rfl ?_
      refine hf_aload_n dX12_refuses_5 rfl rfl ?_
      refine hf_getr (b := 157) (c := 12) (j := 1) dX12_refuses_6 (hs.2.1 156 _ rfl) (hf_lin hs 156 rfl) (by decide) (by decide) hw1037 rfl (hs.2.2 156 1 _ rfl) ?_
      refine hf_iload_n dX12_refuses_9 rfl rfl ?_
      refine hf_ineg dX12_refuses_10 ?_
      rw [show (-(-1) : Int32) = 1 by decide]
      refine hf_dup2 dX12_refuses_11 rfl rfl ?_
      refine hf_iald_k (j := 1) (by decide) dX12_refuses_12 (hs.2.1 157 _ rfl) (hf_lin hs 157 rfl) (hf_vin (by decide)) ?_
      refine hf_iconst (v := 1) dX12_refuses_13 (by decide) ?_
      refine hf_iadd dX12_refuses_14 ?_
      refine hf_iast_k (j := 1) (by decide) dX12_refuses_15 (hs.2.1 157 _ rfl) (hf_lin hs 157 rfl) (hf_vin (by decide)) ?_
      refine hf_iload_n dX12_refuses_16 rfl rfl ?_
      refine hf_ireturn dX12_refuses_17 rfl rfl ?_
      show hf_G X Y_X12_worth (d + 1) _ _ 25 [some (.ref 156), some (.int x1), some (.int x2), none] [.int (-1)] (t, T, (hf_up (hf_up I 156 0 (-1)) 157 1 ((I 157 1) + 1)), L, P) _
      refine hf_ireturn dX12_worth_25 rfl rfl ?_
      exact h
    · replace h := h.2 hc
      refine hf_iconst (v := 1) dX12_lies_10 (by decide) ?_
      refine hf_goto (tgt := 15) dX12_lies_11 (by decide) ?_
      refine hf_ireturn dX12_lies_15 rfl (by decide) ?_
      show hf_G X Y_X12_worth (d + 1) _ _ 7 [some (.ref 156), some (.int x1), some (.int x2), none] [.int 1] (t, T, I, L, P) _
      refine hf_if_eq (tgt := 20) dX12_worth_7 (by decide) (fun hc => absurd (show (1 : Int32) = (0 : Int32) from hc) (by decide)) (fun _ => ?_)
      refine hf_iload_n dX12_worth_10 rfl rfl ?_
      refine hf_iconst (v := 0) dX12_worth_11 (by decide) ?_
      refine hf_bipush (v := 99) dX12_worth_12 (by decide) ?_
      refine hf_callS (as := [.int x2, .int 0, .int 99]) ok_X12_lies dX12_worth_14 hw1143 hw1144 rfl (Nat.le_of_ble_eq_true rfl) rfl (Nat.le_of_ble_eq_true rfl) (Nat.zero_le _) (Nat.zero_le _) ?_
      show hf_G X Y_X12_lies d _ _ 0 [some (.int x2), some (.int 0), some (.int 99)] [] (t, T, I, L, P) _
      refine hf_iload_n dX12_lies_0 rfl rfl ?_
      refine hf_iload_n dX12_lies_1 rfl rfl ?_
      refine hf_icmp_lt (tgt := 14) dX12_lies_2 (by decide) (fun hc => ?_) (fun hc => ?_)
      · replace h := h.1 hc
        refine hf_iconst (v := 0) dX12_lies_14 (by decide) ?_
        refine hf_ireturn dX12_lies_15 rfl (by decide) ?_
        show hf_G X Y_X12_worth (d + 1) _ _ 17 [some (.ref 156), some (.int x1), some (.int x2), none] [.int 0] (t, T, I, L, P) _
        refine hf_if_ne (tgt := 26) dX12_worth_17 (by decide) (fun hc => absurd (show ¬ (0 : Int32) = (0 : Int32) from hc) (by decide)) (fun _ => ?_)
        refine hf_aload_n dX12_worth_20 rfl rfl ?_
        refine hf_iconst (v := (-1)) dX12_worth_21 (by decide) ?_
        refine hf_callV (c := 12) (as := [.int (-1)]) ok_X12_refuses dX12_worth_22 hw1146 hw1147 hw1601 (hs.2.1 156 _ rfl) (by decide) (hf_lin hs 156 rfl) rfl (Nat.le_of_ble_eq_true rfl) rfl (Nat.le_of_ble_eq_true rfl) (Nat.zero_le _) (Nat.zero_le _) ?_
        show hf_G X Y_X12_refuses d _ _ 0 [some (.ref 156), some (.int (-1))] [] (t, T, I, L, P) _
        refine hf_aload_n dX12_refuses_0 rfl rfl ?_
        refine hf_iload_n dX12_refuses_1 rfl rfl ?_
        refine hf_puti (c := 12) (j := 0) dX12_refuses_2 (hs.2.1 156 _ rfl) (hf_lin hs 156 rfl) (by decide) (by decide) hw1036 rfl rfl ?_
        refine hf_aload_n dX12_refuses_5 rfl rfl ?_
        refine hf_getr (b := 157) (c := 12) (j := 1) dX12_refuses_6 (hs.2.1 156 _ rfl) (hf_lin hs 156 rfl) (by decide) (by decide) hw1037 rfl (hs.2.2 156 1 _ rfl) ?_
        refine hf_iload_n dX12_refuses_9 rfl rfl ?_
        refine hf_ineg dX12_refuses_10 ?_
        rw [show (-(-1) : Int32) = 1 by decide]
        refine hf_dup2 dX12_refuses_11 rfl rfl ?_
        refine hf_iald_k (j := 1) (by decide) dX12_refuses_12 (hs.2.1 157 _ rfl) (hf_lin hs 157 rfl) (hf_vin (by decide)) ?_
        refine hf_iconst (v := 1) dX12_refuses_13 (by decide) ?_
        refine hf_iadd dX12_refuses_14 ?_
        refine hf_iast_k (j := 1) (by decide) dX12_refuses_15 (hs.2.1 157 _ rfl) (hf_lin hs 157 rfl) (hf_vin (by decide)) ?_
        refine hf_iload_n dX12_refuses_16 rfl rfl ?_
        refine hf_ireturn dX12_refuses_17 rfl rfl ?_
        show hf_G X Y_X12_worth (d + 1) _ _ 25 [some (.ref 156), some (.int x1), some (.int x2), none] [.int (-1)] (t, T, (hf_up (hf_up I 156 0 (-1)) 157 1 ((I 157 1) + 1)), L, P) _
        refine hf_ireturn dX12_worth_25 rfl rfl ?_
        exact h
      · replace h := h.2 hc
        refine hf_iload_n dX12_lies_5 rfl rfl ?_
        refine hf_iload_n dX12_lies_6 rfl rfl ?_
        refine hf_icmp_gt (tgt := 14) dX12_lies_7 (by decide) (fun hc => ?_) (fun hc => ?_)
        · replace h := h.1 hc
          refine hf_iconst (v := 0) dX12_lies_14 (by decide) ?_
          refine hf_ireturn dX12_lies_15 rfl (by decide) ?_
          show hf_G X Y_X12_worth (d + 1) _ _ 17 [some (.ref 156), some (.int x1), some (.int x2), none] [.int 0] (t, T, I, L, P) _
          refine hf_if_ne (tgt := 26) dX12_worth_17 (by decide) (fun hc => absurd (show ¬ (0 : Int32) = (0 : Int32) from hc) (by decide)) (fun _ => ?_)
          refine hf_aload_n dX12_worth_20 rfl rfl ?_
          refine hf_iconst (v := (-1)) dX12_worth_21 (by decide) ?_
          refine hf_callV (c := 12) (as := [.int (-1)]) ok_X12_refuses dX12_worth_22 hw1146 hw1147 hw1601 (hs.2.1 156 _ rfl) (by decide) (hf_lin hs 156 rfl) rfl (Nat.le_of_ble_eq_true rfl) rfl (Nat.le_of_ble_eq_true rfl) (Nat.zero_le _) (Nat.zero_le _) ?_
          show hf_G X Y_X12_refuses d _ _ 0 [some (.ref 156), some (.int (-1))] [] (t, T, I, L, P) _
          refine hf_aload_n dX12_refuses_0 rfl rfl ?_
          refine hf_iload_n dX12_refuses_1 rfl rfl ?_
          refine hf_puti (c := 12) (j := 0) dX12_refuses_2 (hs.2.1 156 _ rfl) (hf_lin hs 156 rfl) (by decide) (by decide) hw1036 rfl rfl ?_
          refine hf_aload_n dX12_refuses_5 rfl rfl ?_
          refine hf_getr (b := 157) (c := 12) (j := 1) dX12_refuses_6 (hs.2.1 156 _ rfl) (hf_lin hs 156 rfl) (by decide) (by decide) hw1037 rfl (hs.2.2 156 1 _ rfl) ?_
          refine hf_iload_n dX12_refuses_9 rfl rfl ?_
          refine hf_ineg dX12_refuses_10 ?_
          rw [show (-(-1) : Int32) = 1 by decide]
          refine hf_dup2 dX12_refuses_11 rfl rfl ?_
          refine hf_iald_k (j := 1) (by decide) dX12_refuses_12 (hs.2.1 157 _ rfl) (hf_lin hs 157 rfl) (hf_vin (by decide)) ?_
          refine hf_iconst (v := 1) dX12_refuses_13 (by decide) ?_
          refine hf_iadd dX12_refuses_14 ?_
          refine hf_iast_k (j := 1) (by decide) dX12_refuses_15 (hs.2.1 157 _ rfl) (hf_lin hs 157 rfl) (hf_vin (by decide)) ?_
          refine hf_iload_n dX12_refuses_16 rfl rfl ?_
          refine hf_ireturn dX12_refuses_17 rfl rfl ?_
          show hf_G X Y_X12_worth (d + 1) _ _ 25 [some (.ref 156), some (.int x1), some (.int x2), none] [.int (-1)] (t, T, (hf_up (hf_up I 156 0 (-1)) 157 1 ((I 157 1) + 1)), L, P) _
          refine hf_ireturn dX12_worth_25 rfl rfl ?_
          exact h
        · replace h := h.2 hc
          refine hf_iconst (v := 1) dX12_lies_10 (by decide) ?_
          refine hf_goto (tgt := 15) dX12_lies_11 (by decide) ?_
          refine hf_ireturn dX12_lies_15 rfl (by decide) ?_
          show hf_G X Y_X12_worth (d + 1) _ _ 17 [some (.ref 156), some (.int x1), some (.int x2), none] [.int 1] (t, T, I, L, P) _
          refine hf_if_ne (tgt := 26) dX12_worth_17 (by decide) (fun _ => ?_) (fun hc => absurd (show (1 : Int32) = (0 : Int32) from hc) (by decide))
          refine hf_aload_n dX12_worth_26 rfl rfl ?_
          refine hf_getr (b := 158) (c := 12) (j := 2) dX12_worth_27 (hs.2.1 156 _ rfl) (hf_lin hs 156 rfl) (by decide) (by decide) hw1038 rfl (hs.2.2 156 2 _ rfl) ?_
          refine hf_sipush (v := 261) dX12_worth_30 (by decide) ?_
          refine hf_iload_n dX12_worth_33 rfl rfl ?_
          refine hf_iadd dX12_worth_34 ?_
          refine hf_iald dX12_worth_35 (hs.2.1 158 _ rfl) (hf_lin hs 158 rfl) h.1 ?_
          replace h := h.2
          refine hf_istore_n (l2 := [some (.ref 156), some (.int x1), some (.int x2), some (.int (I 158 (((261 + x1)).toNatClampNeg)))]) dX12_worth_36 rfl (by decide) rfl ?_
          refine hf_aload_n dX12_worth_37 rfl rfl ?_
          refine hf_getr (b := 158) (c := 12) (j := 2) dX12_worth_38 (hs.2.1 156 _ rfl) (hf_lin hs 156 rfl) (by decide) (by decide) hw1038 rfl (hs.2.2 156 2 _ rfl) ?_
          refine hf_sipush (v := 261) dX12_worth_41 (by decide) ?_
          refine hf_iload_n dX12_worth_44 rfl rfl ?_
          refine hf_iadd dX12_worth_45 ?_
          refine hf_iload_n dX12_worth_46 rfl rfl ?_
          refine hf_iast dX12_worth_47 (hs.2.1 158 _ rfl) (hf_lin hs 158 rfl) h.1 ?_
          replace h := h.2
          refine hf_aload_n dX12_worth_48 rfl rfl ?_
          refine hf_iload_n dX12_worth_49 rfl rfl ?_
          refine hf_callV (c := 12) (as := [.int (I 158 (((261 + x1)).toNatClampNeg))]) ok_X12_good dX12_worth_50 hw1149 hw1150 hw1602 (hs.2.1 156 _ rfl) (by decide) (hf_lin hs 156 rfl) rfl (Nat.le_of_ble_eq_true rfl) rfl (Nat.le_of_ble_eq_true rfl) (Nat.zero_le _) (Nat.zero_le _) ?_
          show hf_G X Y_X12_good d _ _ 0 [some (.ref 156), some (.int (I 158 (((261 + x1)).toNatClampNeg)))] [] (t, T, (hf_up I 158 (((261 + x1)).toNatClampNeg) x2), L, P) _
          refine hf_aload_n dX12_good_0 rfl rfl ?_
          refine hf_iconst (v := 0) dX12_good_1 (by decide) ?_
          refine hf_puti (c := 12) (j := 0) dX12_good_2 (hs.2.1 156 _ rfl) (hf_lin hs 156 rfl) (by decide) (by decide) hw1036 rfl rfl ?_
          refine hf_iload_n dX12_good_5 rfl rfl ?_
          refine hf_ireturn dX12_good_6 rfl rfl ?_
          show hf_G X Y_X12_worth (d + 1) _ _ 53 [some (.ref 156), some (.int x1), some (.int x2), some (.int (I 158 (((261 + x1)).toNatClampNeg)))] [.int (I 158 (((261 + x1)).toNatClampNeg))] (t, T, (hf_up (hf_up I 158 (((261 + x1)).toNatClampNeg) x2) 156 0 0), L, P) _
          refine hf_ireturn dX12_worth_53 rfl rfl ?_
          exact h

set_option maxHeartbeats 4000000 in
theorem w_X12_terms_0 {X : hf_X} {d k n t : Nat} {T : hf_T} {I : hf_I} {L : hf_L} {P : hf_P} {Q : Option Value → hf_M → Prop} {x1 : Int32} {x2 : Int32} (hs : hf_Lay t T P) (h : (x1 < 0 → Q (some (.int (-1))) (t, T, (hf_up (hf_up I 156 0 (-1)) 157 1 ((I 157 1) + 1)), L, P)) ∧ (¬ (x1 < 0) → (1 < x1 → Q (some (.int (-1))) (t, T, (hf_up (hf_up I 156 0 (-1)) 157 1 ((I 157 1) + 1)), L, P)) ∧ (¬ (1 < x1) → (¬ x1 = 0 → (x2 < 0 → Q (some (.int (-1))) (t, T, (hf_up (hf_up I 156 0 (-1)) 157 1 ((I 157 1) + 1)), L, P)) ∧ (¬ (x2 < 0) → (9 < x2 → Q (some (.int (-1))) (t, T, (hf_up (hf_up I 156 0 (-1)) 157 1 ((I 157 1) + 1)), L, P)) ∧ (¬ (9 < x2) → vp_in (311 + x1) 5929 ∧ (vp_in (311 + x1) 5929 ∧ (Q (some (.int (I 158 (((311 + x1)).toNatClampNeg)))) (t, T, (hf_up (hf_up I 158 (((311 + x1)).toNatClampNeg) x2) 156 0 0), L, P)))))) ∧ (x1 = 0 → (x2 < 0 → Q (some (.int (-1))) (t, T, (hf_up (hf_up I 156 0 (-1)) 157 1 ((I 157 1) + 1)), L, P)) ∧ (¬ (x2 < 0) → (999 < x2 → Q (some (.int (-1))) (t, T, (hf_up (hf_up I 156 0 (-1)) 157 1 ((I 157 1) + 1)), L, P)) ∧ (¬ (999 < x2) → vp_in (311 + x1) 5929 ∧ (vp_in (311 + x1) 5929 ∧ (Q (some (.int (I 158 (((311 + x1)).toNatClampNeg)))) (t, T, (hf_up (hf_up I 158 (((311 + x1)).toNatClampNeg) x2) 156 0 0), L, P))))))))) : hf_G X Y_X12_terms (d + 1) k n 0 (hf_en [.ref 156, .int x1, .int x2] 4) [] (t, T, I, L, P) Q := by
  show hf_G X Y_X12_terms (d + 1) k n 0 [some (.ref 156), some (.int x1), some (.int x2), none] [] (t, T, I, L, P) Q
  refine hf_iload_n dX12_terms_0 rfl rfl ?_
  refine hf_iconst (v := 0) dX12_terms_1 (by decide) ?_
  refine hf_iconst (v := 1) dX12_terms_2 (by decide) ?_
  refine hf_callS (as := [.int x1, .int 0, .int 1]) ok_X12_lies dX12_terms_3 hw1143 hw1144 rfl (Nat.le_of_ble_eq_true rfl) rfl (Nat.le_of_ble_eq_true rfl) (Nat.zero_le _) (Nat.zero_le _) ?_
  show hf_G X Y_X12_lies d _ _ 0 [some (.int x1), some (.int 0), some (.int 1)] [] (t, T, I, L, P) _
  refine hf_iload_n dX12_lies_0 rfl rfl ?_
  refine hf_iload_n dX12_lies_1 rfl rfl ?_
  refine hf_icmp_lt (tgt := 14) dX12_lies_2 (by decide) (fun hc => ?_) (fun hc => ?_)
  · replace h := h.1 hc
    refine hf_iconst (v := 0) dX12_lies_14 (by decide) ?_
    refine hf_ireturn dX12_lies_15 rfl (by decide) ?_
    show hf_G X Y_X12_terms (d + 1) _ _ 6 [some (.ref 156), some (.int x1), some (.int x2), none] [.int 0] (t, T, I, L, P) _
    refine hf_if_eq (tgt := 29) dX12_terms_6 (by decide) (fun _ => ?_) (fun hc => absurd (show (0 : Int32) = (0 : Int32) by decide) hc)
    refine hf_aload_n dX12_terms_29 rfl rfl ?_
    refine hf_iconst (v := (-1)) dX12_terms_30 (by decide) ?_
    refine hf_callV (c := 12) (as := [.int (-1)]) ok_X12_refuses dX12_terms_31 hw1146 hw1147 hw1601 (hs.2.1 156 _ rfl) (by decide) (hf_lin hs 156 rfl) rfl (Nat.le_of_ble_eq_true rfl) rfl (Nat.le_of_ble_eq_true rfl) (Nat.zero_le _) (Nat.zero_le _) ?_
    show hf_G X Y_X12_refuses d _ _ 0 [some (.ref 156), some (.int (-1))] [] (t, T, I, L, P) _
    refine hf_aload_n dX12_refuses_0 rfl rfl ?_
    refine hf_iload_n dX12_refuses_1 rfl rfl ?_
    refine hf_puti (c := 12) (j := 0) dX12_refuses_2 (hs.2.1 156 _ rfl) (hf_lin hs 156 rfl) (by decide) (by decide) hw1036 rfl rfl ?_
    refine hf_aload_n dX12_refuses_5 rfl rfl ?_
    refine hf_getr (b := 157) (c := 12) (j := 1) dX12_refuses_6 (hs.2.1 156 _ rfl) (hf_lin hs 156 rfl) (by decide) (by decide) hw1037 rfl (hs.2.2 156 1 _ rfl) ?_
    refine hf_iload_n dX12_refuses_9 rfl rfl ?_
    refine hf_ineg dX12_refuses_10 ?_
    rw [show (-(-1) : Int32) = 1 by decide]
    refine hf_dup2 dX12_refuses_11 rfl rfl ?_
    refine hf_iald_k (j := 1) (by decide) dX12_refuses_12 (hs.2.1 157 _ rfl) (hf_lin hs 157 rfl) (hf_vin (by decide)) ?_
    refine hf_iconst (v := 1) dX12_refuses_13 (by decide) ?_
    refine hf_iadd dX12_refuses_14 ?_
    refine hf_iast_k (j := 1) (by decide) dX12_refuses_15 (hs.2.1 157 _ rfl) (hf_lin hs 157 rfl) (hf_vin (by decide)) ?_
    refine hf_iload_n dX12_refuses_16 rfl rfl ?_
    refine hf_ireturn dX12_refuses_17 rfl rfl ?_
    show hf_G X Y_X12_terms (d + 1) _ _ 34 [some (.ref 156), some (.int x1), some (.int x2), none] [.int (-1)] (t, T, (hf_up (hf_up I 156 0 (-1)) 157 1 ((I 157 1) + 1)), L, P) _
    refine hf_ireturn dX12_terms_34 rfl rfl ?_
    exact h
  · replace h := h.2 hc
    refine hf_iload_n dX12_lies_5 rfl rfl ?_
    refine hf_iload_n dX12_lies_6 rfl rfl ?_
    refine hf_icmp_gt (tgt := 14) dX12_lies_7 (by decide) (fun hc => ?_) (fun hc => ?_)
    · replace h := h.1 hc
      refine hf_iconst (v := 0) dX12_lies_14 (by decide) ?_
      refine hf_ireturn dX12_lies_15 rfl (by decide) ?_
      show hf_G X Y_X12_terms (d + 1) _ _ 6 [some (.ref 156), some (.int x1), some (.int x2), none] [.int 0] (t, T, I, L, P) _
      refine hf_if_eq (tgt := 29) dX12_terms_6 (by decide) (fun _ => ?_) (fun hc => absurd (show (0 : Int32) = (0 : Int32) by decide) hc)
      refine hf_aload_n dX12_terms_29 rfl rfl ?_
      refine hf_iconst (v := (-1)) dX12_terms_30 (by decide) ?_
      refine hf_callV (c := 12) (as := [.int (-1)]) ok_X12_refuses dX12_terms_31 hw1146 hw1147 hw1601 (hs.2.1 156 _ rfl) (by decide) (hf_lin hs 156 rfl) rfl (Nat.le_of_ble_eq_true rfl) rfl (Nat.le_of_ble_eq_true rfl) (Nat.zero_le _) (Nat.zero_le _) ?_
      show hf_G X Y_X12_refuses d _ _ 0 [some (.ref 156), some (.int (-1))] [] (t, T, I, L, P) _
      refine hf_aload_n dX12_refuses_0 rfl rfl ?_
      refine hf_iload_n dX12_refuses_1 rfl rfl ?_
      refine hf_puti (c := 12) (j := 0) dX12_refuses_2 (hs.2.1 156 _ rfl) (hf_lin hs 156 rfl) (by decide) (by decide) hw1036 rfl rfl ?_
      refine hf_aload_n dX12_refuses_5 rfl rfl ?_
      refine hf_getr (b := 157) (c := 12) (j := 1) dX12_refuses_6 (hs.2.1 156 _ rfl) (hf_lin hs 156 rfl) (by decide) (by decide) hw1037 rfl (hs.2.2 156 1 _ rfl) ?_
      refine hf_iload_n dX12_refuses_9 rfl rfl ?_
      refine hf_ineg dX12_refuses_10 ?_
      rw [show (-(-1) : Int32) = 1 by decide]
      refine hf_dup2 dX12_refuses_11 rfl rfl ?_
      refine hf_iald_k (j := 1) (by decide) dX12_refuses_12 (hs.2.1 157 _ rfl) (hf_lin hs 157 rfl) (hf_vin (by decide)) ?_
      refine hf_iconst (v := 1) dX12_refuses_13 (by decide) ?_
      refine hf_iadd dX12_refuses_14 ?_
      refine hf_iast_k (j := 1) (by decide) dX12_refuses_15 (hs.2.1 157 _ rfl) (hf_lin hs 157 rfl) (hf_vin (by decide)) ?_
      refine hf_iload_n dX12_refuses_16 rfl rfl ?_
      refine hf_ireturn dX12_refuses_17 rfl rfl ?_
      show hf_G X Y_X12_terms (d + 1) _ _ 34 [some (.ref 156), some (.int x1), some (.int x2), none] [.int (-1)] (t, T, (hf_up (hf_up I 156 0 (-1)) 157 1 ((I 157 1) + 1)), L, P) _
      refine hf_ireturn dX12_terms_34 rfl rfl ?_
      exact h
    · replace h := h.2 hc
      refine hf_iconst (v := 1) dX12_lies_10 (by decide) ?_
      refine hf_goto (tgt := 15) dX12_lies_11 (by decide) ?_
      refine hf_ireturn dX12_lies_15 rfl (by decide) ?_
      show hf_G X Y_X12_terms (d + 1) _ _ 6 [some (.ref 156), some (.int x1), some (.int x2), none] [.int 1] (t, T, I, L, P) _
      refine hf_if_eq (tgt := 29) dX12_terms_6 (by decide) (fun hc => absurd (show (1 : Int32) = (0 : Int32) from hc) (by decide)) (fun _ => ?_)
      refine hf_iload_n dX12_terms_9 rfl rfl ?_
      refine hf_iconst (v := 0) dX12_terms_10 (by decide) ?_
      refine hf_iload_n dX12_terms_11 rfl rfl ?_
      refine hf_if_ne (tgt := 21) dX12_terms_12 (by decide) (fun hc => ?_) (fun hc => ?_)
      · replace h := h.1 hc
        refine hf_bipush (v := 9) dX12_terms_21 (by decide) ?_
        refine hf_callS (as := [.int x2, .int 0, .int 9]) ok_X12_lies dX12_terms_23 hw1143 hw1144 rfl (Nat.le_of_ble_eq_true rfl) rfl (Nat.le_of_ble_eq_true rfl) (Nat.zero_le _) (Nat.zero_le _) ?_
        show hf_G X Y_X12_lies d _ _ 0 [some (.int x2), some (.int 0), some (.int 9)] [] (t, T, I, L, P) _
        refine hf_iload_n dX12_lies_0 rfl rfl ?_
        refine hf_iload_n dX12_lies_1 rfl rfl ?_
        refine hf_icmp_lt (tgt := 14) dX12_lies_2 (by decide) (fun hc => ?_) (fun hc => ?_)
        · replace h := h.1 hc
          refine hf_iconst (v := 0) dX12_lies_14 (by decide) ?_
          refine hf_ireturn dX12_lies_15 rfl (by decide) ?_
          show hf_G X Y_X12_terms (d + 1) _ _ 26 [some (.ref 156), some (.int x1), some (.int x2), none] [.int 0] (t, T, I, L, P) _
          refine hf_if_ne (tgt := 35) dX12_terms_26 (by decide) (fun hc => absurd (show ¬ (0 : Int32) = (0 : Int32) from hc) (by decide)) (fun _ => ?_)
          refine hf_aload_n dX12_terms_29 rfl rfl ?_
          refine hf_iconst (v := (-1)) dX12_terms_30 (by decide) ?_
          refine hf_callV (c := 12) (as := [.int (-1)]) ok_X12_refuses dX12_terms_31 hw1146 hw1147 hw1601 (hs.2.1 156 _ rfl) (by decide) (hf_lin hs 156 rfl) rfl (Nat.le_of_ble_eq_true rfl) rfl (Nat.le_of_ble_eq_true rfl) (Nat.zero_le _) (Nat.zero_le _) ?_
          show hf_G X Y_X12_refuses d _ _ 0 [some (.ref 156), some (.int (-1))] [] (t, T, I, L, P) _
          refine hf_aload_n dX12_refuses_0 rfl rfl ?_
          refine hf_iload_n dX12_refuses_1 rfl rfl ?_
          refine hf_puti (c := 12) (j := 0) dX12_refuses_2 (hs.2.1 156 _ rfl) (hf_lin hs 156 rfl) (by decide) (by decide) hw1036 rfl rfl ?_
          refine hf_aload_n dX12_refuses_5 rfl rfl ?_
          refine hf_getr (b := 157) (c := 12) (j := 1) dX12_refuses_6 (hs.2.1 156 _ rfl) (hf_lin hs 156 rfl) (by decide) (by decide) hw1037 rfl (hs.2.2 156 1 _ rfl) ?_
          refine hf_iload_n dX12_refuses_9 rfl rfl ?_
          refine hf_ineg dX12_refuses_10 ?_
          rw [show (-(-1) : Int32) = 1 by decide]
          refine hf_dup2 dX12_refuses_11 rfl rfl ?_
          refine hf_iald_k (j := 1) (by decide) dX12_refuses_12 (hs.2.1 157 _ rfl) (hf_lin hs 157 rfl) (hf_vin (by decide)) ?_
          refine hf_iconst (v := 1) dX12_refuses_13 (by decide) ?_
          refine hf_iadd dX12_refuses_14 ?_
          refine hf_iast_k (j := 1) (by decide) dX12_refuses_15 (hs.2.1 157 _ rfl) (hf_lin hs 157 rfl) (hf_vin (by decide)) ?_
          refine hf_iload_n dX12_refuses_16 rfl rfl ?_
          refine hf_ireturn dX12_refuses_17 rfl rfl ?_
          show hf_G X Y_X12_terms (d + 1) _ _ 34 [some (.ref 156), some (.int x1), some (.int x2), none] [.int (-1)] (t, T, (hf_up (hf_up I 156 0 (-1)) 157 1 ((I 157 1) + 1)), L, P) _
          refine hf_ireturn dX12_terms_34 rfl rfl ?_
          exact h
        · replace h := h.2 hc
          refine hf_iload_n dX12_lies_5 rfl rfl ?_
          refine hf_iload_n dX12_lies_6 rfl rfl ?_
          refine hf_icmp_gt (tgt := 14) dX12_lies_7 (by decide) (fun hc => ?_) (fun hc => ?_)
          · replace h := h.1 hc
            refine hf_iconst (v := 0) dX12_lies_14 (by decide) ?_
            refine hf_ireturn dX12_lies_15 rfl (by decide) ?_
            show hf_G X Y_X12_terms (d + 1) _ _ 26 [some (.ref 156), some (.int x1), some (.int x2), none] [.int 0] (t, T, I, L, P) _
            refine hf_if_ne (tgt := 35) dX12_terms_26 (by decide) (fun hc => absurd (show ¬ (0 : Int32) = (0 : Int32) from hc) (by decide)) (fun _ => ?_)
            refine hf_aload_n dX12_terms_29 rfl rfl ?_
            refine hf_iconst (v := (-1)) dX12_terms_30 (by decide) ?_
            refine hf_callV (c := 12) (as := [.int (-1)]) ok_X12_refuses dX12_terms_31 hw1146 hw1147 hw1601 (hs.2.1 156 _ rfl) (by decide) (hf_lin hs 156 rfl) rfl (Nat.le_of_ble_eq_true rfl) rfl (Nat.le_of_ble_eq_true rfl) (Nat.zero_le _) (Nat.zero_le _) ?_
            show hf_G X Y_X12_refuses d _ _ 0 [some (.ref 156), some (.int (-1))] [] (t, T, I, L, P) _
            refine hf_aload_n dX12_refuses_0 rfl rfl ?_
            refine hf_iload_n dX12_refuses_1 rfl rfl ?_
            refine hf_puti (c := 12) (j := 0) dX12_refuses_2 (hs.2.1 156 _ rfl) (hf_lin hs 156 rfl) (by decide) (by decide) hw1036 rfl rfl ?_
            refine hf_aload_n dX12_refuses_5 rfl rfl ?_
            refine hf_getr (b := 157) (c := 12) (j := 1) dX12_refuses_6 (hs.2.1 156 _ rfl) (hf_lin hs 156 rfl) (by decide) (by decide) hw1037 rfl (hs.2.2 156 1 _ rfl) ?_
            refine hf_iload_n dX12_refuses_9 rfl rfl ?_
            refine hf_ineg dX12_refuses_10 ?_
            rw [show (-(-1) : Int32) = 1 by decide]
            refine hf_dup2 dX12_refuses_11 rfl rfl ?_
            refine hf_iald_k (j := 1) (by decide) dX12_refuses_12 (hs.2.1 157 _ rfl) (hf_lin hs 157 rfl) (hf_vin (by decide)) ?_
            refine hf_iconst (v := 1) dX12_refuses_13 (by decide) ?_
            refine hf_iadd dX12_refuses_14 ?_
            refine hf_iast_k (j := 1) (by decide) dX12_refuses_15 (hs.2.1 157 _ rfl) (hf_lin hs 157 rfl) (hf_vin (by decide)) ?_
            refine hf_iload_n dX12_refuses_16 rfl rfl ?_
            refine hf_ireturn dX12_refuses_17 rfl rfl ?_
            show hf_G X Y_X12_terms (d + 1) _ _ 34 [some (.ref 156), some (.int x1), some (.int x2), none] [.int (-1)] (t, T, (hf_up (hf_up I 156 0 (-1)) 157 1 ((I 157 1) + 1)), L, P) _
            refine hf_ireturn dX12_terms_34 rfl rfl ?_
            exact h
          · replace h := h.2 hc
            refine hf_iconst (v := 1) dX12_lies_10 (by decide) ?_
            refine hf_goto (tgt := 15) dX12_lies_11 (by decide) ?_
            refine hf_ireturn dX12_lies_15 rfl (by decide) ?_
            show hf_G X Y_X12_terms (d + 1) _ _ 26 [some (.ref 156), some (.int x1), some (.int x2), none] [.int 1] (t, T, I, L, P) _
            refine hf_if_ne (tgt := 35) dX12_terms_26 (by decide) (fun _ => ?_) (fun hc => absurd (show (1 : Int32) = (0 : Int32) from hc) (by decide))
            refine hf_aload_n dX12_terms_35 rfl rfl ?_
            refine hf_getr (b := 158) (c := 12) (j := 2) dX12_terms_36 (hs.2.1 156 _ rfl) (hf_lin hs 156 rfl) (by decide) (by decide) hw1038 rfl (hs.2.2 156 2 _ rfl) ?_
            refine hf_sipush (v := 311) dX12_terms_39 (by decide) ?_
            refine hf_iload_n dX12_terms_42 rfl rfl ?_
            refine hf_iadd dX12_terms_43 ?_
            refine hf_iald dX12_terms_44 (hs.2.1 158 _ rfl) (hf_lin hs 158 rfl) h.1 ?_
            replace h := h.2
            refine hf_istore_n (l2 := [some (.ref 156), some (.int x1), some (.int x2), some (.int (I 158 (((311 + x1)).toNatClampNeg)))]) dX12_terms_45 rfl (by decide) rfl ?_
            refine hf_aload_n dX12_terms_46 rfl rfl ?_
            refine hf_getr (b := 158) (c := 12) (j := 2) dX12_terms_47 (hs.2.1 156 _ rfl) (hf_lin hs 156 rfl) (by decide) (by decide) hw1038 rfl (hs.2.2 156 2 _ rfl) ?_
            refine hf_sipush (v := 311) dX12_terms_50 (by decide) ?_
            refine hf_iload_n dX12_terms_53 rfl rfl ?_
            refine hf_iadd dX12_terms_54 ?_
            refine hf_iload_n dX12_terms_55 rfl rfl ?_
            refine hf_iast dX12_terms_56 (hs.2.1 158 _ rfl) (hf_lin hs 158 rfl) h.1 ?_
            replace h := h.2
            refine hf_aload_n dX12_terms_57 rfl rfl ?_
            refine hf_iload_n dX12_terms_58 rfl rfl ?_
            refine hf_callV (c := 12) (as := [.int (I 158 (((311 + x1)).toNatClampNeg))]) ok_X12_good dX12_terms_59 hw1149 hw1150 hw1602 (hs.2.1 156 _ rfl) (by decide) (hf_lin hs 156 rfl) rfl (Nat.le_of_ble_eq_true rfl) rfl (Nat.le_of_ble_eq_true rfl) (Nat.zero_le _) (Nat.zero_le _) ?_
            show hf_G X Y_X12_good d _ _ 0 [some (.ref 156), some (.int (I 158 (((311 + x1)).toNatClampNeg)))] [] (t, T, (hf_up I 158 (((311 + x1)).toNatClampNeg) x2), L, P) _
            refine hf_aload_n dX12_good_0 rfl rfl ?_
            refine hf_iconst (v := 0) dX12_good_1 (by decide) ?_
            refine hf_puti (c := 12) (j := 0) dX12_good_2 (hs.2.1 156 _ rfl) (hf_lin hs 156 rfl) (by decide) (by decide) hw1036 rfl rfl ?_
            refine hf_iload_n dX12_good_5 rfl rfl ?_
            refine hf_ireturn dX12_good_6 rfl rfl ?_
            show hf_G X Y_X12_terms (d + 1) _ _ 62 [some (.ref 156), some (.int x1), some (.int x2), some (.int (I 158 (((311 + x1)).toNatClampNeg)))] [.int (I 158 (((311 + x1)).toNatClampNeg))] (t, T, (hf_up (hf_up I 158 (((311 + x1)).toNatClampNeg) x2) 156 0 0), L, P) _
            refine hf_ireturn dX12_terms_62 rfl rfl ?_
            exact h
      · replace h := h.2 hc
        refine hf_sipush (v := 999) dX12_terms_15 (by decide) ?_
        refine hf_goto (tgt := 23) dX12_terms_18 (by decide) ?_
        refine hf_callS (as := [.int x2, .int 0, .int 999]) ok_X12_lies dX12_terms_23 hw1143 hw1144 rfl (Nat.le_of_ble_eq_true rfl) rfl (Nat.le_of_ble_eq_true rfl) (Nat.zero_le _) (Nat.zero_le _) ?_
        show hf_G X Y_X12_lies d _ _ 0 [some (.int x2), some (.int 0), some (.int 999)] [] (t, T, I, L, P) _
        refine hf_iload_n dX12_lies_0 rfl rfl ?_
        refine hf_iload_n dX12_lies_1 rfl rfl ?_
        refine hf_icmp_lt (tgt := 14) dX12_lies_2 (by decide) (fun hc => ?_) (fun hc => ?_)
        · replace h := h.1 hc
          refine hf_iconst (v := 0) dX12_lies_14 (by decide) ?_
          refine hf_ireturn dX12_lies_15 rfl (by decide) ?_
          show hf_G X Y_X12_terms (d + 1) _ _ 26 [some (.ref 156), some (.int x1), some (.int x2), none] [.int 0] (t, T, I, L, P) _
          refine hf_if_ne (tgt := 35) dX12_terms_26 (by decide) (fun hc => absurd (show ¬ (0 : Int32) = (0 : Int32) from hc) (by decide)) (fun _ => ?_)
          refine hf_aload_n dX12_terms_29 rfl rfl ?_
          refine hf_iconst (v := (-1)) dX12_terms_30 (by decide) ?_
          refine hf_callV (c := 12) (as := [.int (-1)]) ok_X12_refuses dX12_terms_31 hw1146 hw1147 hw1601 (hs.2.1 156 _ rfl) (by decide) (hf_lin hs 156 rfl) rfl (Nat.le_of_ble_eq_true rfl) rfl (Nat.le_of_ble_eq_true rfl) (Nat.zero_le _) (Nat.zero_le _) ?_
          show hf_G X Y_X12_refuses d _ _ 0 [some (.ref 156), some (.int (-1))] [] (t, T, I, L, P) _
          refine hf_aload_n dX12_refuses_0 rfl rfl ?_
          refine hf_iload_n dX12_refuses_1 rfl rfl ?_
          refine hf_puti (c := 12) (j := 0) dX12_refuses_2 (hs.2.1 156 _ rfl) (hf_lin hs 156 rfl) (by decide) (by decide) hw1036 rfl rfl ?_
          refine hf_aload_n dX12_refuses_5 rfl rfl ?_
          refine hf_getr (b := 157) (c := 12) (j := 1) dX12_refuses_6 (hs.2.1 156 _ rfl) (hf_lin hs 156 rfl) (by decide) (by decide) hw1037 rfl (hs.2.2 156 1 _ rfl) ?_
          refine hf_iload_n dX12_refuses_9 rfl rfl ?_
          refine hf_ineg dX12_refuses_10 ?_
          rw [show (-(-1) : Int32) = 1 by decide]
          refine hf_dup2 dX12_refuses_11 rfl rfl ?_
          refine hf_iald_k (j := 1) (by decide) dX12_refuses_12 (hs.2.1 157 _ rfl) (hf_lin hs 157 rfl) (hf_vin (by decide)) ?_
          refine hf_iconst (v := 1) dX12_refuses_13 (by decide) ?_
          refine hf_iadd dX12_refuses_14 ?_
          refine hf_iast_k (j := 1) (by decide) dX12_refuses_15 (hs.2.1 157 _ rfl) (hf_lin hs 157 rfl) (hf_vin (by decide)) ?_
          refine hf_iload_n dX12_refuses_16 rfl rfl ?_
          refine hf_ireturn dX12_refuses_17 rfl rfl ?_
          show hf_G X Y_X12_terms (d + 1) _ _ 34 [some (.ref 156), some (.int x1), some (.int x2), none] [.int (-1)] (t, T, (hf_up (hf_up I 156 0 (-1)) 157 1 ((I 157 1) + 1)), L, P) _
          refine hf_ireturn dX12_terms_34 rfl rfl ?_
          exact h
        · replace h := h.2 hc
          refine hf_iload_n dX12_lies_5 rfl rfl ?_
          refine hf_iload_n dX12_lies_6 rfl rfl ?_
          refine hf_icmp_gt (tgt := 14) dX12_lies_7 (by decide) (fun hc => ?_) (fun hc => ?_)
          · replace h := h.1 hc
            refine hf_iconst (v := 0) dX12_lies_14 (by decide) ?_
            refine hf_ireturn dX12_lies_15 rfl (by decide) ?_
            show hf_G X Y_X12_terms (d + 1) _ _ 26 [some (.ref 156), some (.int x1), some (.int x2), none] [.int 0] (t, T, I, L, P) _
            refine hf_if_ne (tgt := 35) dX12_terms_26 (by decide) (fun hc => absurd (show ¬ (0 : Int32) = (0 : Int32) from hc) (by decide)) (fun _ => ?_)
            refine hf_aload_n dX12_terms_29 rfl rfl ?_
            refine hf_iconst (v := (-1)) dX12_terms_30 (by decide) ?_
            refine hf_callV (c := 12) (as := [.int (-1)]) ok_X12_refuses dX12_terms_31 hw1146 hw1147 hw1601 (hs.2.1 156 _ rfl) (by decide) (hf_lin hs 156 rfl) rfl (Nat.le_of_ble_eq_true rfl) rfl (Nat.le_of_ble_eq_true rfl) (Nat.zero_le _) (Nat.zero_le _) ?_
            show hf_G X Y_X12_refuses d _ _ 0 [some (.ref 156), some (.int (-1))] [] (t, T, I, L, P) _
            refine hf_aload_n dX12_refuses_0 rfl rfl ?_
            refine hf_iload_n dX12_refuses_1 rfl rfl ?_
            refine hf_puti (c := 12) (j := 0) dX12_refuses_2 (hs.2.1 156 _ rfl) (hf_lin hs 156 rfl) (by decide) (by decide) hw1036 rfl rfl ?_
            refine hf_aload_n dX12_refuses_5 rfl rfl ?_
            refine hf_getr (b := 157) (c := 12) (j := 1) dX12_refuses_6 (hs.2.1 156 _ rfl) (hf_lin hs 156 rfl) (by decide) (by decide) hw1037 rfl (hs.2.2 156 1 _ rfl) ?_
            refine hf_iload_n dX12_refuses_9 rfl rfl ?_
            refine hf_ineg dX12_refuses_10 ?_
            rw [show (-(-1) : Int32) = 1 by decide]
            refine hf_dup2 dX12_refuses_11 rfl rfl ?_
            refine hf_iald_k (j := 1) (by decide) dX12_refuses_12 (hs.2.1 157 _ rfl) (hf_lin hs 157 rfl) (hf_vin (by decide)) ?_
            refine hf_iconst (v := 1) dX12_refuses_13 (by decide) ?_
            refine hf_iadd dX12_refuses_14 ?_
            refine hf_iast_k (j := 1) (by decide) dX12_refuses_15 (hs.2.1 157 _ rfl) (hf_lin hs 157 rfl) (hf_vin (by decide)) ?_
            refine hf_iload_n dX12_refuses_16 rfl rfl ?_
            refine hf_ireturn dX12_refuses_17 rfl rfl ?_
            show hf_G X Y_X12_terms (d + 1) _ _ 34 [some (.ref 156), some (.int x1), some (.int x2), none] [.int (-1)] (t, T, (hf_up (hf_up I 156 0 (-1)) 157 1 ((I 157 1) + 1)), L, P) _
            refine hf_ireturn dX12_terms_34 rfl rfl ?_
            exact h
          · replace h := h.2 hc
            refine hf_iconst (v := 1) dX12_lies_10 (by decide) ?_
            refine hf_goto (tgt := 15) dX12_lies_11 (by decide) ?_
            refine hf_ireturn dX12_lies_15 rfl (by decide) ?_
            show hf_G X Y_X12_terms (d + 1) _ _ 26 [some (.ref 156), some (.int x1), some (.int x2), none] [.int 1] (t, T, I, L, P) _
            refine hf_if_ne (tgt := 35) dX12_terms_26 (by decide) (fun _ => ?_) (fun hc => absurd (show (1 : Int32) = (0 : Int32) from hc) (by decide))
            refine hf_aload_n dX12_terms_35 rfl rfl ?_
            refine hf_getr (b := 158) (c := 12) (j := 2) dX12_terms_36 (hs.2.1 156 _ rfl) (hf_lin hs 156 rfl) (by decide) (by decide) hw1038 rfl (hs.2.2 156 2 _ rfl) ?_
            refine hf_sipush (v := 311) dX12_terms_39 (by decide) ?_
            refine hf_iload_n dX12_terms_42 rfl rfl ?_
            refine hf_iadd dX12_terms_43 ?_
            refine hf_iald dX12_terms_44 (hs.2.1 158 _ rfl) (hf_lin hs 158 rfl) h.1 ?_
            replace h := h.2
            refine hf_istore_n (l2 := [some (.ref 156), some (.int x1), some (.int x2), some (.int (I 158 (((311 + x1)).toNatClampNeg)))]) dX12_terms_45 rfl (by decide) rfl ?_
            refine hf_aload_n dX12_terms_46 rfl rfl ?_
            refine hf_getr (b := 158) (c := 12) (j := 2) dX12_terms_47 (hs.2.1 156 _ rfl) (hf_lin hs 156 rfl) (by decide) (by decide) hw1038 rfl (hs.2.2 156 2 _ rfl) ?_
            refine hf_sipush (v := 311) dX12_terms_50 (by decide) ?_
            refine hf_iload_n dX12_terms_53 rfl rfl ?_
            refine hf_iadd dX12_terms_54 ?_
            refine hf_iload_n dX12_terms_55 rfl rfl ?_
            refine hf_iast dX12_terms_56 (hs.2.1 158 _ rfl) (hf_lin hs 158 rfl) h.1 ?_
            replace h := h.2
            refine hf_aload_n dX12_terms_57 rfl rfl ?_
            refine hf_iload_n dX12_terms_58 rfl rfl ?_
            refine hf_callV (c := 12) (as := [.int (I 158 (((311 + x1)).toNatClampNeg))]) ok_X12_good dX12_terms_59 hw1149 hw1150 hw1602 (hs.2.1 156 _ rfl) (by decide) (hf_lin hs 156 rfl) rfl (Nat.le_of_ble_eq_true rfl) rfl (Nat.le_of_ble_eq_true rfl) (Nat.zero_le _) (Nat.zero_le _) ?_
            show hf_G X Y_X12_good d _ _ 0 [some (.ref 156), some (.int (I 158 (((311 + x1)).toNatClampNeg)))] [] (t, T, (hf_up I 158 (((311 + x1)).toNatClampNeg) x2), L, P) _
            refine hf_aload_n dX12_good_0 rfl rfl ?_
            refine hf_iconst (v := 0) dX12_good_1 (by decide) ?_
            refine hf_puti (c := 12) (j := 0) dX12_good_2 (hs.2.1 156 _ rfl) (hf_lin hs 156 rfl) (by decide) (by decide) hw1036 rfl rfl ?_
            refine hf_iload_n dX12_good_5 rfl rfl ?_
            refine hf_ireturn dX12_good_6 rfl rfl ?_
            show hf_G X Y_X12_terms (d + 1) _ _ 62 [some (.ref 156), some (.int x1), some (.int x2), some (.int (I 158 (((311 + x1)).toNatClampNeg)))] [.int (I 158 (((311 + x1)).toNatClampNeg))] (t, T, (hf_up (hf_up I 158 (((311 + x1)).toNatClampNeg) x2) 156 0 0), L, P) _
            refine hf_ireturn dX12_terms_62 rfl rfl ?_
            exact h

set_option maxHeartbeats 4000000 in
theorem w_X12_word_0 {X : hf_X} {d k n t : Nat} {T : hf_T} {I : hf_I} {L : hf_L} {P : hf_P} {Q : Option Value → hf_M → Prop} {x1 : Int32} {x2 : Int32} {x3 : Int32} (hs : hf_Lay t T P) (h : (x1 < 0 → Q (some (.int (-1))) (t, T, (hf_up (hf_up I 156 0 (-1)) 157 1 ((I 157 1) + 1)), L, P)) ∧ (¬ (x1 < 0) → (7 < x1 → Q (some (.int (-1))) (t, T, (hf_up (hf_up I 156 0 (-1)) 157 1 ((I 157 1) + 1)), L, P)) ∧ (¬ (7 < x1) → (x2 < 0 → Q (some (.int (-1))) (t, T, (hf_up (hf_up I 156 0 (-1)) 157 1 ((I 157 1) + 1)), L, P)) ∧ (¬ (x2 < 0) → (99 < x2 → Q (some (.int (-1))) (t, T, (hf_up (hf_up I 156 0 (-1)) 157 1 ((I 157 1) + 1)), L, P)) ∧ (¬ (99 < x2) → (x3 < 0 → Q (some (.int (-1))) (t, T, (hf_up (hf_up I 156 0 (-1)) 157 1 ((I 157 1) + 1)), L, P)) ∧ (¬ (x3 < 0) → (10 < x3 → Q (some (.int (-1))) (t, T, (hf_up (hf_up I 156 0 (-1)) 157 1 ((I 157 1) + 1)), L, P)) ∧ (¬ (10 < x3) → hf_G X Y_X12_word (d + 1) k n 63 [some (.ref 156), some (.int x1), some (.int x2), some (.int x3), some (.int (I 156 10)), some (.int (I 158 316)), some (.int 0), some (.int 0), none, none] [] (t, T, (hf_up I 156 10 0), L, P) Q))))))) : hf_G X Y_X12_word (d + 1) k n 0 (hf_en [.ref 156, .int x1, .int x2, .int x3] 10) [] (t, T, I, L, P) Q := by
  show hf_G X Y_X12_word (d + 1) k n 0 [some (.ref 156), some (.int x1), some (.int x2), some (.int x3), none, none, none, none, none, none] [] (t, T, I, L, P) Q
  refine hf_iload_n dX12_word_0 rfl rfl ?_
  refine hf_iconst (v := 0) dX12_word_1 (by decide) ?_
  refine hf_bipush (v := 7) dX12_word_2 (by decide) ?_
  refine hf_callS (as := [.int x1, .int 0, .int 7]) ok_X12_lies dX12_word_4 hw1143 hw1144 rfl (Nat.le_of_ble_eq_true rfl) rfl (Nat.le_of_ble_eq_true rfl) (Nat.zero_le _) (Nat.zero_le _) ?_
  show hf_G X Y_X12_lies d _ _ 0 [some (.int x1), some (.int 0), some (.int 7)] [] (t, T, I, L, P) _
  refine hf_iload_n dX12_lies_0 rfl rfl ?_
  refine hf_iload_n dX12_lies_1 rfl rfl ?_
  refine hf_icmp_lt (tgt := 14) dX12_lies_2 (by decide) (fun hc => ?_) (fun hc => ?_)
  · replace h := h.1 hc
    refine hf_iconst (v := 0) dX12_lies_14 (by decide) ?_
    refine hf_ireturn dX12_lies_15 rfl (by decide) ?_
    show hf_G X Y_X12_word (d + 1) _ _ 7 [some (.ref 156), some (.int x1), some (.int x2), some (.int x3), none, none, none, none, none, none] [.int 0] (t, T, I, L, P) _
    refine hf_if_eq (tgt := 30) dX12_word_7 (by decide) (fun _ => ?_) (fun hc => absurd (show (0 : Int32) = (0 : Int32) by decide) hc)
    refine hf_aload_n dX12_word_30 rfl rfl ?_
    refine hf_iconst (v := (-1)) dX12_word_31 (by decide) ?_
    refine hf_callV (c := 12) (as := [.int (-1)]) ok_X12_refuses dX12_word_32 hw1146 hw1147 hw1601 (hs.2.1 156 _ rfl) (by decide) (hf_lin hs 156 rfl) rfl (Nat.le_of_ble_eq_true rfl) rfl (Nat.le_of_ble_eq_true rfl) (Nat.zero_le _) (Nat.zero_le _) ?_
    show hf_G X Y_X12_refuses d _ _ 0 [some (.ref 156), some (.int (-1))] [] (t, T, I, L, P) _
    refine hf_aload_n dX12_refuses_0 rfl rfl ?_
    refine hf_iload_n dX12_refuses_1 rfl rfl ?_
    refine hf_puti (c := 12) (j := 0) dX12_refuses_2 (hs.2.1 156 _ rfl) (hf_lin hs 156 rfl) (by decide) (by decide) hw1036 rfl rfl ?_
    refine hf_aload_n dX12_refuses_5 rfl rfl ?_
    refine hf_getr (b := 157) (c := 12) (j := 1) dX12_refuses_6 (hs.2.1 156 _ rfl) (hf_lin hs 156 rfl) (by decide) (by decide) hw1037 rfl (hs.2.2 156 1 _ rfl) ?_
    refine hf_iload_n dX12_refuses_9 rfl rfl ?_
    refine hf_ineg dX12_refuses_10 ?_
    rw [show (-(-1) : Int32) = 1 by decide]
    refine hf_dup2 dX12_refuses_11 rfl rfl ?_
    refine hf_iald_k (j := 1) (by decide) dX12_refuses_12 (hs.2.1 157 _ rfl) (hf_lin hs 157 rfl) (hf_vin (by decide)) ?_
    refine hf_iconst (v := 1) dX12_refuses_13 (by decide) ?_
    refine hf_iadd dX12_refuses_14 ?_
    refine hf_iast_k (j := 1) (by decide) dX12_refuses_15 (hs.2.1 157 _ rfl) (hf_lin hs 157 rfl) (hf_vin (by decide)) ?_
    refine hf_iload_n dX12_refuses_16 rfl rfl ?_
    refine hf_ireturn dX12_refuses_17 rfl rfl ?_
    show hf_G X Y_X12_word (d + 1) _ _ 35 [some (.ref 156), some (.int x1), some (.int x2), some (.int x3), none, none, none, none, none, none] [.int (-1)] (t, T, (hf_up (hf_up I 156 0 (-1)) 157 1 ((I 157 1) + 1)), L, P) _
    refine hf_ireturn dX12_word_35 rfl rfl ?_
    exact h
  · replace h := h.2 hc
    refine hf_iload_n dX12_lies_5 rfl rfl ?_
    refine hf_iload_n dX12_lies_6 rfl rfl ?_
    refine hf_icmp_gt (tgt := 14) dX12_lies_7 (by decide) (fun hc => ?_) (fun hc => ?_)
    · replace h := h.1 hc
      refine hf_iconst (v := 0) dX12_lies_14 (by decide) ?_
      refine hf_ireturn dX12_lies_15 rfl (by decide) ?_
      show hf_G X Y_X12_word (d + 1) _ _ 7 [some (.ref 156), some (.int x1), some (.int x2), some (.int x3), none, none, none, none, none, none] [.int 0] (t, T, I, L, P) _
      refine hf_if_eq (tgt := 30) dX12_word_7 (by decide) (fun _ => ?_) (fun hc => absurd (show (0 : Int32) = (0 : Int32) by decide) hc)
      refine hf_aload_n dX12_word_30 rfl rfl ?_
      refine hf_iconst (v := (-1)) dX12_word_31 (by decide) ?_
      refine hf_callV (c := 12) (as := [.int (-1)]) ok_X12_refuses dX12_word_32 hw1146 hw1147 hw1601 (hs.2.1 156 _ rfl) (by decide) (hf_lin hs 156 rfl) rfl (Nat.le_of_ble_eq_true rfl) rfl (Nat.le_of_ble_eq_true rfl) (Nat.zero_le _) (Nat.zero_le _) ?_
      show hf_G X Y_X12_refuses d _ _ 0 [some (.ref 156), some (.int (-1))] [] (t, T, I, L, P) _
      refine hf_aload_n dX12_refuses_0 rfl rfl ?_
      refine hf_iload_n dX12_refuses_1 rfl rfl ?_
      refine hf_puti (c := 12) (j := 0) dX12_refuses_2 (hs.2.1 156 _ rfl) (hf_lin hs 156 rfl) (by decide) (by decide) hw1036 rfl rfl ?_
      refine hf_aload_n dX12_refuses_5 rfl rfl ?_
      refine hf_getr (b := 157) (c := 12) (j := 1) dX12_refuses_6 (hs.2.1 156 _ rfl) (hf_lin hs 156 rfl) (by decide) (by decide) hw1037 rfl (hs.2.2 156 1 _ rfl) ?_
      refine hf_iload_n dX12_refuses_9 rfl rfl ?_
      refine hf_ineg dX12_refuses_10 ?_
      rw [show (-(-1) : Int32) = 1 by decide]
      refine hf_dup2 dX12_refuses_11 rfl rfl ?_
      refine hf_iald_k (j := 1) (by decide) dX12_refuses_12 (hs.2.1 157 _ rfl) (hf_lin hs 157 rfl) (hf_vin (by decide)) ?_
      refine hf_iconst (v := 1) dX12_refuses_13 (by decide) ?_
      refine hf_iadd dX12_refuses_14 ?_
      refine hf_iast_k (j := 1) (by decide) dX12_refuses_15 (hs.2.1 157 _ rfl) (hf_lin hs 157 rfl) (hf_vin (by decide)) ?_
      refine hf_iload_n dX12_refuses_16 rfl rfl ?_
      refine hf_ireturn dX12_refuses_17 rfl rfl ?_
      show hf_G X Y_X12_word (d + 1) _ _ 35 [some (.ref 156), some (.int x1), some (.int x2), some (.int x3), none, none, none, none, none, none] [.int (-1)] (t, T, (hf_up (hf_up I 156 0 (-1)) 157 1 ((I 157 1) + 1)), L, P) _
      refine hf_ireturn dX12_word_35 rfl rfl ?_
      exact h
    · replace h := h.2 hc
      refine hf_iconst (v := 1) dX12_lies_10 (by decide) ?_
      refine hf_goto (tgt := 15) dX12_lies_11 (by decide) ?_
      refine hf_ireturn dX12_lies_15 rfl (by decide) ?_
      show hf_G X Y_X12_word (d + 1) _ _ 7 [some (.ref 156), some (.int x1), some (.int x2), some (.int x3), none, none, none, none, none, none] [.int 1] (t, T, I, L, P) _
      refine hf_if_eq (tgt := 30) dX12_word_7 (by decide) (fun hc => absurd (show (1 : Int32) = (0 : Int32) from hc) (by decide)) (fun _ => ?_)
      refine hf_iload_n dX12_word_10 rfl rfl ?_
      refine hf_iconst (v := 0) dX12_word_11 (by decide) ?_
      refine hf_bipush (v := 99) dX12_word_12 (by decide) ?_
      refine hf_callS (as := [.int x2, .int 0, .int 99]) ok_X12_lies dX12_word_14 hw1143 hw1144 rfl (Nat.le_of_ble_eq_true rfl) rfl (Nat.le_of_ble_eq_true rfl) (Nat.zero_le _) (Nat.zero_le _) ?_
      show hf_G X Y_X12_lies d _ _ 0 [some (.int x2), some (.int 0), some (.int 99)] [] (t, T, I, L, P) _
      refine hf_iload_n dX12_lies_0 rfl rfl ?_
      refine hf_iload_n dX12_lies_1 rfl rfl ?_
      refine hf_icmp_lt (tgt := 14) dX12_lies_2 (by decide) (fun hc => ?_) (fun hc => ?_)
      · replace h := h.1 hc
        refine hf_iconst (v := 0) dX12_lies_14 (by decide) ?_
        refine hf_ireturn dX12_lies_15 rfl (by decide) ?_
        show hf_G X Y_X12_word (d + 1) _ _ 17 [some (.ref 156), some (.int x1), some (.int x2), some (.int x3), none, none, none, none, none, none] [.int 0] (t, T, I, L, P) _
        refine hf_if_eq (tgt := 30) dX12_word_17 (by decide) (fun _ => ?_) (fun hc => absurd (show (0 : Int32) = (0 : Int32) by decide) hc)
        refine hf_aload_n dX12_word_30 rfl rfl ?_
        refine hf_iconst (v := (-1)) dX12_word_31 (by decide) ?_
        refine hf_callV (c := 12) (as := [.int (-1)]) ok_X12_refuses dX12_word_32 hw1146 hw1147 hw1601 (hs.2.1 156 _ rfl) (by decide) (hf_lin hs 156 rfl) rfl (Nat.le_of_ble_eq_true rfl) rfl (Nat.le_of_ble_eq_true rfl) (Nat.zero_le _) (Nat.zero_le _) ?_
        show hf_G X Y_X12_refuses d _ _ 0 [some (.ref 156), some (.int (-1))] [] (t, T, I, L, P) _
        refine hf_aload_n dX12_refuses_0 rfl rfl ?_
        refine hf_iload_n dX12_refuses_1 rfl rfl ?_
        refine hf_puti (c := 12) (j := 0) dX12_refuses_2 (hs.2.1 156 _ rfl) (hf_lin hs 156 rfl) (by decide) (by decide) hw1036 rfl rfl ?_
        refine hf_aload_n dX12_refuses_5 rfl rfl ?_
        refine hf_getr (b := 157) (c := 12) (j := 1) dX12_refuses_6 (hs.2.1 156 _ rfl) (hf_lin hs 156 rfl) (by decide) (by decide) hw1037 rfl (hs.2.2 156 1 _ rfl) ?_
        refine hf_iload_n dX12_refuses_9 rfl rfl ?_
        refine hf_ineg dX12_refuses_10 ?_
        rw [show (-(-1) : Int32) = 1 by decide]
        refine hf_dup2 dX12_refuses_11 rfl rfl ?_
        refine hf_iald_k (j := 1) (by decide) dX12_refuses_12 (hs.2.1 157 _ rfl) (hf_lin hs 157 rfl) (hf_vin (by decide)) ?_
        refine hf_iconst (v := 1) dX12_refuses_13 (by decide) ?_
        refine hf_iadd dX12_refuses_14 ?_
        refine hf_iast_k (j := 1) (by decide) dX12_refuses_15 (hs.2.1 157 _ rfl) (hf_lin hs 157 rfl) (hf_vin (by decide)) ?_
        refine hf_iload_n dX12_refuses_16 rfl rfl ?_
        refine hf_ireturn dX12_refuses_17 rfl rfl ?_
        show hf_G X Y_X12_word (d + 1) _ _ 35 [some (.ref 156), some (.int x1), some (.int x2), some (.int x3), none, none, none, none, none, none] [.int (-1)] (t, T, (hf_up (hf_up I 156 0 (-1)) 157 1 ((I 157 1) + 1)), L, P) _
        refine hf_ireturn dX12_word_35 rfl rfl ?_
        exact h
      · replace h := h.2 hc
        refine hf_iload_n dX12_lies_5 rfl rfl ?_
        refine hf_iload_n dX12_lies_6 rfl rfl ?_
        refine hf_icmp_gt (tgt := 14) dX12_lies_7 (by decide) (fun hc => ?_) (fun hc => ?_)
        · replace h := h.1 hc
          refine hf_iconst (v := 0) dX12_lies_14 (by decide) ?_
          refine hf_ireturn dX12_lies_15 rfl (by decide) ?_
          show hf_G X Y_X12_word (d + 1) _ _ 17 [some (.ref 156), some (.int x1), some (.int x2), some (.int x3), none, none, none, none, none, none] [.int 0] (t, T, I, L, P) _
          refine hf_if_eq (tgt := 30) dX12_word_17 (by decide) (fun _ => ?_) (fun hc => absurd (show (0 : Int32) = (0 : Int32) by decide) hc)
          refine hf_aload_n dX12_word_30 rfl rfl ?_
          refine hf_iconst (v := (-1)) dX12_word_31 (by decide) ?_
          refine hf_callV (c := 12) (as := [.int (-1)]) ok_X12_refuses dX12_word_32 hw1146 hw1147 hw1601 (hs.2.1 156 _ rfl) (by decide) (hf_lin hs 156 rfl) rfl (Nat.le_of_ble_eq_true rfl) rfl (Nat.le_of_ble_eq_true rfl) (Nat.zero_le _) (Nat.zero_le _) ?_
          show hf_G X Y_X12_refuses d _ _ 0 [some (.ref 156), some (.int (-1))] [] (t, T, I, L, P) _
          refine hf_aload_n dX12_refuses_0 rfl rfl ?_
          refine hf_iload_n dX12_refuses_1 rfl rfl ?_
          refine hf_puti (c := 12) (j := 0) dX12_refuses_2 (hs.2.1 156 _ rfl) (hf_lin hs 156 rfl) (by decide) (by decide) hw1036 rfl rfl ?_
          refine hf_aload_n dX12_refuses_5 rfl rfl ?_
          refine hf_getr (b := 157) (c := 12) (j := 1) dX12_refuses_6 (hs.2.1 156 _ rfl) (hf_lin hs 156 rfl) (by decide) (by decide) hw1037 rfl (hs.2.2 156 1 _ rfl) ?_
          refine hf_iload_n dX12_refuses_9 rfl rfl ?_
          refine hf_ineg dX12_refuses_10 ?_
          rw [show (-(-1) : Int32) = 1 by decide]
          refine hf_dup2 dX12_refuses_11 rfl rfl ?_
          refine hf_iald_k (j := 1) (by decide) dX12_refuses_12 (hs.2.1 157 _ rfl) (hf_lin hs 157 rfl) (hf_vin (by decide)) ?_
          refine hf_iconst (v := 1) dX12_refuses_13 (by decide) ?_
          refine hf_iadd dX12_refuses_14 ?_
          refine hf_iast_k (j := 1) (by decide) dX12_refuses_15 (hs.2.1 157 _ rfl) (hf_lin hs 157 rfl) (hf_vin (by decide)) ?_
          refine hf_iload_n dX12_refuses_16 rfl rfl ?_
          refine hf_ireturn dX12_refuses_17 rfl rfl ?_
          show hf_G X Y_X12_word (d + 1) _ _ 35 [some (.ref 156), some (.int x1), some (.int x2), some (.int x3), none, none, none, none, none, none] [.int (-1)] (t, T, (hf_up (hf_up I 156 0 (-1)) 157 1 ((I 157 1) + 1)), L, P) _
          refine hf_ireturn dX12_word_35 rfl rfl ?_
          exact h
        · replace h := h.2 hc
          refine hf_iconst (v := 1) dX12_lies_10 (by decide) ?_
          refine hf_goto (tgt := 15) dX12_lies_11 (by decide) ?_
          refine hf_ireturn dX12_lies_15 rfl (by decide) ?_
          show hf_G X Y_X12_word (d + 1) _ _ 17 [some (.ref 156), some (.int x1), some (.int x2), some (.int x3), none, none, none, none, none, none] [.int 1] (t, T, I, L, P) _
          refine hf_if_eq (tgt := 30) dX12_word_17 (by decide) (fun hc => absurd (show (1 : Int32) = (0 : Int32) from hc) (by decide)) (fun _ => ?_)
          refine hf_iload_n dX12_word_20 rfl rfl ?_
          refine hf_iconst (v := 0) dX12_word_21 (by decide) ?_
          refine hf_bipush (v := 10) dX12_word_22 (by decide) ?_
          refine hf_callS (as := [.int x3, .int 0, .int 10]) ok_X12_lies dX12_word_24 hw1143 hw1144 rfl (Nat.le_of_ble_eq_true rfl) rfl (Nat.le_of_ble_eq_true rfl) (Nat.zero_le _) (Nat.zero_le _) ?_
          show hf_G X Y_X12_lies d _ _ 0 [some (.int x3), some (.int 0), some (.int 10)] [] (t, T, I, L, P) _
          refine hf_iload_n dX12_lies_0 rfl rfl ?_
          refine hf_iload_n dX12_lies_1 rfl rfl ?_
          refine hf_icmp_lt (tgt := 14) dX12_lies_2 (by decide) (fun hc => ?_) (fun hc => ?_)
          · replace h := h.1 hc
            refine hf_iconst (v := 0) dX12_lies_14 (by decide) ?_
            refine hf_ireturn dX12_lies_15 rfl (by decide) ?_
            show hf_G X Y_X12_word (d + 1) _ _ 27 [some (.ref 156), some (.int x1), some (.int x2), some (.int x3), none, none, none, none, none, none] [.int 0] (t, T, I, L, P) _
            refine hf_if_ne (tgt := 36) dX12_word_27 (by decide) (fun hc => absurd (show ¬ (0 : Int32) = (0 : Int32) from hc) (by decide)) (fun _ => ?_)
            refine hf_aload_n dX12_word_30 rfl rfl ?_
            refine hf_iconst (v := (-1)) dX12_word_31 (by decide) ?_
            refine hf_callV (c := 12) (as := [.int (-1)]) ok_X12_refuses dX12_word_32 hw1146 hw1147 hw1601 (hs.2.1 156 _ rfl) (by decide) (hf_lin hs 156 rfl) rfl (Nat.le_of_ble_eq_true rfl) rfl (Nat.le_of_ble_eq_true rfl) (Nat.zero_le _) (Nat.zero_le _) ?_
            show hf_G X Y_X12_refuses d _ _ 0 [some (.ref 156), some (.int (-1))] [] (t, T, I, L, P) _
            refine hf_aload_n dX12_refuses_0 rfl rfl ?_
            refine hf_iload_n dX12_refuses_1 rfl rfl ?_
            refine hf_puti (c := 12) (j := 0) dX12_refuses_2 (hs.2.1 156 _ rfl) (hf_lin hs 156 rfl) (by decide) (by decide) hw1036 rfl rfl ?_
            refine hf_aload_n dX12_refuses_5 rfl rfl ?_
            refine hf_getr (b := 157) (c := 12) (j := 1) dX12_refuses_6 (hs.2.1 156 _ rfl) (hf_lin hs 156 rfl) (by decide) (by decide) hw1037 rfl (hs.2.2 156 1 _ rfl) ?_
            refine hf_iload_n dX12_refuses_9 rfl rfl ?_
            refine hf_ineg dX12_refuses_10 ?_
            rw [show (-(-1) : Int32) = 1 by decide]
            refine hf_dup2 dX12_refuses_11 rfl rfl ?_
            refine hf_iald_k (j := 1) (by decide) dX12_refuses_12 (hs.2.1 157 _ rfl) (hf_lin hs 157 rfl) (hf_vin (by decide)) ?_
            refine hf_iconst (v := 1) dX12_refuses_13 (by decide) ?_
            refine hf_iadd dX12_refuses_14 ?_
            refine hf_iast_k (j := 1) (by decide) dX12_refuses_15 (hs.2.1 157 _ rfl) (hf_lin hs 157 rfl) (hf_vin (by decide)) ?_
            refine hf_iload_n dX12_refuses_16 rfl rfl ?_
            refine hf_ireturn dX12_refuses_17 rfl rfl ?_
            show hf_G X Y_X12_word (d + 1) _ _ 35 [some (.ref 156), some (.int x1), some (.int x2), some (.int x3), none, none, none, none, none, none] [.int (-1)] (t, T, (hf_up (hf_up I 156 0 (-1)) 157 1 ((I 157 1) + 1)), L, P) _
            refine hf_ireturn dX12_word_35 rfl rfl ?_
            exact h
          · replace h := h.2 hc
            refine hf_iload_n dX12_lies_5 rfl rfl ?_
            refine hf_iload_n dX12_lies_6 rfl rfl ?_
            refine hf_icmp_gt (tgt := 14) dX12_lies_7 (by decide) (fun hc => ?_) (fun hc => ?_)
            · replace h := h.1 hc
              refine hf_iconst (v := 0) dX12_lies_14 (by decide) ?_
              refine hf_ireturn dX12_lies_15 rfl (by decide) ?_
              show hf_G X Y_X12_word (d + 1) _ _ 27 [some (.ref 156), some (.int x1), some (.int x2), some (.int x3), none, none, none, none, none, none] [.int 0] (t, T, I, L, P) _
              refine hf_if_ne (tgt := 36) dX12_word_27 (by decide) (fun hc => absurd (show ¬ (0 : Int32) = (0 : Int32) from hc) (by decide)) (fun _ => ?_)
              refine hf_aload_n dX12_word_30 rfl rfl ?_
              refine hf_iconst (v := (-1)) dX12_word_31 (by decide) ?_
              refine hf_callV (c := 12) (as := [.int (-1)]) ok_X12_refuses dX12_word_32 hw1146 hw1147 hw1601 (hs.2.1 156 _ rfl) (by decide) (hf_lin hs 156 rfl) rfl (Nat.le_of_ble_eq_true rfl) rfl (Nat.le_of_ble_eq_true rfl) (Nat.zero_le _) (Nat.zero_le _) ?_
              show hf_G X Y_X12_refuses d _ _ 0 [some (.ref 156), some (.int (-1))] [] (t, T, I, L, P) _
              refine hf_aload_n dX12_refuses_0 rfl rfl ?_
              refine hf_iload_n dX12_refuses_1 rfl rfl ?_
              refine hf_puti (c := 12) (j := 0) dX12_refuses_2 (hs.2.1 156 _ rfl) (hf_lin hs 156 rfl) (by decide) (by decide) hw1036 rfl rfl ?_
              refine hf_aload_n dX12_refuses_5 rfl rfl ?_
              refine hf_getr (b := 157) (c := 12) (j := 1) dX12_refuses_6 (hs.2.1 156 _ rfl) (hf_lin hs 156 rfl) (by decide) (by decide) hw1037 rfl (hs.2.2 156 1 _ rfl) ?_
              refine hf_iload_n dX12_refuses_9 rfl rfl ?_
              refine hf_ineg dX12_refuses_10 ?_
              rw [show (-(-1) : Int32) = 1 by decide]
              refine hf_dup2 dX12_refuses_11 rfl rfl ?_
              refine hf_iald_k (j := 1) (by decide) dX12_refuses_12 (hs.2.1 157 _ rfl) (hf_lin hs 157 rfl) (hf_vin (by decide)) ?_
              refine hf_iconst (v := 1) dX12_refuses_13 (by decide) ?_
              refine hf_iadd dX12_refuses_14 ?_
              refine hf_iast_k (j := 1) (by decide) dX12_refuses_15 (hs.2.1 157 _ rfl) (hf_lin hs 157 rfl) (hf_vin (by decide)) ?_
              refine hf_iload_n dX12_refuses_16 rfl rfl ?_
              refine hf_ireturn dX12_refuses_17 rfl rfl ?_
              show hf_G X Y_X12_word (d + 1) _ _ 35 [some (.ref 156), some (.int x1), some (.int x2), some (.int x3), none, none, none, none, none, none] [.int (-1)] (t, T, (hf_up (hf_up I 156 0 (-1)) 157 1 ((I 157 1) + 1)), L, P) _
              refine hf_ireturn dX12_word_35 rfl rfl ?_
              exact h
            · replace h := h.2 hc
              refine hf_iconst (v := 1) dX12_lies_10 (by decide) ?_
              refine hf_goto (tgt := 15) dX12_lies_11 (by decide) ?_
              refine hf_ireturn dX12_lies_15 rfl (by decide) ?_
              show hf_G X Y_X12_word (d + 1) _ _ 27 [some (.ref 156), some (.int x1), some (.int x2), some (.int x3), none, none, none, none, none, none] [.int 1] (t, T, I, L, P) _
              refine hf_if_ne (tgt := 36) dX12_word_27 (by decide) (fun _ => ?_) (fun hc => absurd (show (1 : Int32) = (0 : Int32) from hc) (by decide))
              refine hf_aload_n dX12_word_36 rfl rfl ?_
              refine hf_geti (c := 12) (j := 10) dX12_word_37 (hs.2.1 156 _ rfl) (hf_lin hs 156 rfl) (by decide) (by decide) hw1046 (Or.inl rfl) ?_
              refine hf_istore (l2 := [some (.ref 156), some (.int x1), some (.int x2), some (.int x3), some (.int (I 156 10)), none, none, none, none, none]) dX12_word_40 (by decide) rfl ?_
              refine hf_aload_n dX12_word_42 rfl rfl ?_
              refine hf_iconst (v := 0) dX12_word_43 (by decide) ?_
              refine hf_puti (c := 12) (j := 10) dX12_word_44 (hs.2.1 156 _ rfl) (hf_lin hs 156 rfl) (by decide) (by decide) hw1046 rfl rfl ?_
              refine hf_aload_n dX12_word_47 rfl rfl ?_
              refine hf_getr (b := 158) (c := 12) (j := 2) dX12_word_48 (hs.2.1 156 _ rfl) (hf_lin hs 156 rfl) (by decide) (by decide) hw1038 rfl (hs.2.2 156 2 _ rfl) ?_
              refine hf_sipush (v := 316) dX12_word_51 (by decide) ?_
              refine hf_iald_k (j := 316) (by decide) dX12_word_54 (hs.2.1 158 _ rfl) (hf_lin hs 158 rfl) (hf_vin (by decide)) ?_
              refine hf_istore (l2 := [some (.ref 156), some (.int x1), some (.int x2), some (.int x3), some (.int (I 156 10)), some (.int (I 158 316)), none, none, none, none]) dX12_word_55 (by decide) rfl ?_
              refine hf_iconst (v := 0) dX12_word_57 (by decide) ?_
              refine hf_istore (l2 := [some (.ref 156), some (.int x1), some (.int x2), some (.int x3), some (.int (I 156 10)), some (.int (I 158 316)), some (.int 0), none, none, none]) dX12_word_58 (by decide) rfl ?_
              refine hf_iconst (v := 0) dX12_word_60 (by decide) ?_
              refine hf_istore (l2 := [some (.ref 156), some (.int x1), some (.int x2), some (.int x3), some (.int (I 156 10)), some (.int (I 158 316)), some (.int 0), some (.int 0), none, none]) dX12_word_61 (by decide) rfl ?_
              exact h

set_option maxHeartbeats 4000000 in
theorem w_X12_word_63 {X : hf_X} {d k n t : Nat} {T : hf_T} {I : hf_I} {L : hf_L} {P : hf_P} {Q : Option Value → hf_M → Prop} {x1 : Int32} {x2 : Int32} {x3 : Int32} {x4 : Int32} {x5 : Int32} {x6 : Int32} {x7 : Int32} (hs : hf_Lay t T P) (h : (x5 ≤ x7 → (¬ x6 = 3 → (¬ x5 = 16 → (x4 < 1 → hf_G X Y_X12_word (d + 1) k n 137 [some (.ref 156), some (.int x1), some (.int x2), some (.int x3), some (.int x4), some (.int x5), none, some (.int 0), some (.int 0), none] [] (t, T, I, L, P) Q) ∧ (¬ (x4 < 1) → (9 < x4 → hf_G X Y_X12_word (d + 1) k n 137 [some (.ref 156), some (.int x1), some (.int x2), some (.int x3), some (.int x4), some (.int x5), none, some (.int 0), some (.int 0), none] [] (t, T, I, L, P) Q) ∧ (¬ (9 < x4) → hf_G X Y_X12_word (d + 1) k n 137 [some (.ref 156), some (.int x1), some (.int x2), some (.int x3), some (.int x4), some (.int x5), none, some (.int 1), some (.int 0), none] [] (t, T, I, L, P) Q))) ∧ (x5 = 16 → Q (some (.int (-5))) (t, T, (hf_up (hf_up I 156 0 (-5)) 157 5 ((I 157 5) + 1)), L, P))) ∧ (x6 = 3 → Q (some (.int (-3))) (t, T, (hf_up (hf_up I 156 0 (-3)) 157 3 ((I 157 3) + 1)), L, P))) ∧ (¬ (x5 ≤ x7) → vp_in ((53 + (13 * x7)) + 0) 5929 ∧ ((¬ (I 158 ((((53 + (13 * x7)) + 0)).toNatClampNeg)) = x1 → hf_G X Y_X12_word (d + 1) k n 63 [some (.ref 156), some (.int x1), some (.int x2), some (.int x3), some (.int x4), some (.int x5), some (.int (x6 + 0)), some (.int (x7 + 1)), none, none] [] (t, T, I, L, P) Q) ∧ ((I 158 ((((53 + (13 * x7)) + 0)).toNatClampNeg)) = x1 → hf_G X Y_X12_word (d + 1) k n 63 [some (.ref 156), some (.int x1), some (.int x2), some (.int x3), some (.int x4), some (.int x5), some (.int (x6 + 1)), some (.int (x7 + 1)), none, none] [] (t, T, I, L, P) Q)))) : hf_G X Y_X12_word (d + 1) k n 63 [some (.ref 156), some (.int x1), some (.int x2), some (.int x3), some (.int x4), some (.int x5), some (.int x6), some (.int x7), none, none] [] (t, T, I, L, P) Q := by
  refine hf_iload dX12_word_63 rfl ?_
  refine hf_iload dX12_word_65 rfl ?_
  refine hf_icmp_ge (tgt := 97) dX12_word_67 (by decide) (fun hc => ?_) (fun hc => ?_)
  · replace h := h.1 hc
    refine hf_iload dX12_word_97 rfl ?_
    refine hf_iconst (v := 3) dX12_word_99 (by decide) ?_
    refine hf_icmp_ne (tgt := 110) dX12_word_100 (by decide) (fun hc => ?_) (fun hc => ?_)
    · replace h := h.1 hc
      refine hf_iload dX12_word_110 rfl ?_
      refine hf_bipush (v := 16) dX12_word_112 (by decide) ?_
      refine hf_icmp_ne (tgt := 124) dX12_word_114 (by decide) (fun hc => ?_) (fun hc => ?_)
      · replace h := h.1 hc
        refine hf_iload dX12_word_124 rfl ?_
        refine hf_iconst (v := 1) dX12_word_126 (by decide) ?_
        refine hf_bipush (v := 9) dX12_word_127 (by decide) ?_
        refine hf_callS (as := [.int x4, .int 1, .int 9]) ok_X12_lies dX12_word_129 hw1143 hw1144 rfl (Nat.le_of_ble_eq_true rfl) rfl (Nat.le_of_ble_eq_true rfl) (Nat.zero_le _) (Nat.zero_le _) ?_
        show hf_G X Y_X12_lies d _ _ 0 [some (.int x4), some (.int 1), some (.int 9)] [] (t, T, I, L, P) _
        refine hf_iload_n dX12_lies_0 rfl rfl ?_
        refine hf_iload_n dX12_lies_1 rfl rfl ?_
        refine hf_icmp_lt (tgt := 14) dX12_lies_2 (by decide) (fun hc => ?_) (fun hc => ?_)
        · replace h := h.1 hc
          refine hf_iconst (v := 0) dX12_lies_14 (by decide) ?_
          refine hf_ireturn dX12_lies_15 rfl (by decide) ?_
          show hf_G X Y_X12_word (d + 1) _ _ 132 [some (.ref 156), some (.int x1), some (.int x2), some (.int x3), some (.int x4), some (.int x5), some (.int x6), some (.int x7), none, none] [.int 0] (t, T, I, L, P) _
          refine hf_istore (l2 := [some (.ref 156), some (.int x1), some (.int x2), some (.int x3), some (.int x4), some (.int x5), some (.int x6), some (.int 0), none, none]) dX12_word_132 (by decide) rfl ?_
          refine hf_iconst (v := 0) dX12_word_134 (by decide) ?_
          refine hf_istore (l2 := [some (.ref 156), some (.int x1), some (.int x2), some (.int x3), some (.int x4), some (.int x5), some (.int x6), some (.int 0), some (.int 0), none]) dX12_word_135 (by decide) rfl ?_
          refine hf_drop (l' := [some (.ref 156), some (.int x1), some (.int x2), some (.int x3), some (.int x4), some (.int x5), none, some (.int 0), some (.int 0), none]) (by simp [hf_sub]) ?_
          exact h
        · replace h := h.2 hc
          refine hf_iload_n dX12_lies_5 rfl rfl ?_
          refine hf_iload_n dX12_lies_6 rfl rfl ?_
          refine hf_icmp_gt (tgt := 14) dX12_lies_7 (by decide) (fun hc => ?_) (fun hc => ?_)
          · replace h := h.1 hc
            refine hf_iconst (v := 0) dX12_lies_14 (by decide) ?_
            refine hf_ireturn dX12_lies_15 rfl (by decide) ?_
            show hf_G X Y_X12_word (d + 1) _ _ 132 [some (.ref 156), some (.int x1), some (.int x2), some (.int x3), some (.int x4), some (.int x5), some (.int x6), some (.int x7), none, none] [.int 0] (t, T, I, L, P) _
            refine hf_istore (l2 := [some (.ref 156), some (.int x1), some (.int x2), some (.int x3), some (.int x4), some (.int x5), some (.int x6), some (.int 0), none, none]) dX12_word_132 (by decide) rfl ?_
            refine hf_iconst (v := 0) dX12_word_134 (by decide) ?_
            refine hf_istore (l2 := [some (.ref 156), some (.int x1), some (.int x2), some (.int x3), some (.int x4), some (.int x5), some (.int x6), some (.int 0), some (.int 0), none]) dX12_word_135 (by decide) rfl ?_
            refine hf_drop (l' := [some (.ref 156), some (.int x1), some (.int x2), some (.int x3), some (.int x4), some (.int x5), none, some (.int 0), some (.int 0), none]) (by simp [hf_sub]) ?_
            exact h
          · replace h := h.2 hc
            refine hf_iconst (v := 1) dX12_lies_10 (by decide) ?_
            refine hf_goto (tgt := 15) dX12_lies_11 (by decide) ?_
            refine hf_ireturn dX12_lies_15 rfl (by decide) ?_
            show hf_G X Y_X12_word (d + 1) _ _ 132 [some (.ref 156), some (.int x1), some (.int x2), some (.int x3), some (.int x4), some (.int x5), some (.int x6), some (.int x7), none, none] [.int 1] (t, T, I, L, P) _
            refine hf_istore (l2 := [some (.ref 156), some (.int x1), some (.int x2), some (.int x3), some (.int x4), some (.int x5), some (.int x6), some (.int 1), none, none]) dX12_word_132 (by decide) rfl ?_
            refine hf_iconst (v := 0) dX12_word_134 (by decide) ?_
            refine hf_istore (l2 := [some (.ref 156), some (.int x1), some (.int x2), some (.int x3), some (.int x4), some (.int x5), some (.int x6), some (.int 1), some (.int 0), none]) dX12_word_135 (by decide) rfl ?_
            refine hf_drop (l' := [some (.ref 156), some (.int x1), some (.int x2), some (.int x3), some (.int x4), some (.int x5), none, some (.int 1), some (.int 0), none]) (by simp [hf_sub]) ?_
            exact h
      · replace h := h.2 hc
        refine hf_aload_n dX12_word_117 rfl rfl ?_
        refine hf_bipush (v := (-5)) dX12_word_118 (by decide) ?_
        refine hf_callV (c := 12) (as := [.int (-5)]) ok_X12_refuses dX12_word_120 hw1146 hw1147 hw1601 (hs.2.1 156 _ rfl) (by decide) (hf_lin hs 156 rfl) rfl (Nat.le_of_ble_eq_true rfl) rfl (Nat.le_of_ble_eq_true rfl) (Nat.zero_le _) (Nat.zero_le _) ?_
        show hf_G X Y_X12_refuses d _ _ 0 [some (.ref 156), some (.int (-5))] [] (t, T, I, L, P) _
        refine hf_aload_n dX12_refuses_0 rfl rfl ?_
        refine hf_iload_n dX12_refuses_1 rfl rfl ?_
        refine hf_puti (c := 12) (j := 0) dX12_refuses_2 (hs.2.1 156 _ rfl) (hf_lin hs 156 rfl) (by decide) (by decide) hw1036 rfl rfl ?_
        refine hf_aload_n dX12_refuses_5 rfl rfl ?_
        refine hf_getr (b := 157) (c := 12) (j := 1) dX12_refuses_6 (hs.2.1 156 _ rfl) (hf_lin hs 156 rfl) (by decide) (by decide) hw1037 rfl (hs.2.2 156 1 _ rfl) ?_
        refine hf_iload_n dX12_refuses_9 rfl rfl ?_
        refine hf_ineg dX12_refuses_10 ?_
        rw [show (-(-5) : Int32) = 5 by decide]
        refine hf_dup2 dX12_refuses_11 rfl rfl ?_
        refine hf_iald_k (j := 5) (by decide) dX12_refuses_12 (hs.2.1 157 _ rfl) (hf_lin hs 157 rfl) (hf_vin (by decide)) ?_
        refine hf_iconst (v := 1) dX12_refuses_13 (by decide) ?_
        refine hf_iadd dX12_refuses_14 ?_
        refine hf_iast_k (j := 5) (by decide) dX12_refuses_15 (hs.2.1 157 _ rfl) (hf_lin hs 157 rfl) (hf_vin (by decide)) ?_
        refine hf_iload_n dX12_refuses_16 rfl rfl ?_
        refine hf_ireturn dX12_refuses_17 rfl rfl ?_
        show hf_G X Y_X12_word (d + 1) _ _ 123 [some (.ref 156), some (.int x1), some (.int x2), some (.int x3), some (.int x4), some (.int x5), some (.int x6), some (.int x7), none, none] [.int (-5)] (t, T, (hf_up (hf_up I 156 0 (-5)) 157 5 ((I 157 5) + 1)), L, P) _
        refine hf_ireturn dX12_word_123 rfl rfl ?_
        exact h
    · replace h := h.2 hc
      refine hf_aload_n dX12_word_103 rfl rfl ?_
      refine hf_bipush (v := (-3)) dX12_word_104 (by decide) ?_
      refine hf_callV (c := 12) (as := [.int (-3)]) ok_X12_refuses dX12_word_106 hw1146 hw1147 hw1601 (hs.2.1 156 _ rfl) (by decide) (hf_lin hs 156 rfl) rfl (Nat.le_of_ble_eq_true rfl) rfl (Nat.le_of_ble_eq_true rfl) (Nat.zero_le _) (Nat.zero_le _) ?_
      show hf_G X Y_X12_refuses d _ _ 0 [some (.ref 156), some (.int (-3))] [] (t, T, I, L, P) _
      refine hf_aload_n dX12_refuses_0 rfl rfl ?_
      refine hf_iload_n dX12_refuses_1 rfl rfl ?_
      refine hf_puti (c := 12) (j := 0) dX12_refuses_2 (hs.2.1 156 _ rfl) (hf_lin hs 156 rfl) (by decide) (by decide) hw1036 rfl rfl ?_
      refine hf_aload_n dX12_refuses_5 rfl rfl ?_
      refine hf_getr (b := 157) (c := 12) (j := 1) dX12_refuses_6 (hs.2.1 156 _ rfl) (hf_lin hs 156 rfl) (by decide) (by decide) hw1037 rfl (hs.2.2 156 1 _ rfl) ?_
      refine hf_iload_n dX12_refuses_9 rfl rfl ?_
      refine hf_ineg dX12_refuses_10 ?_
      rw [show (-(-3) : Int32) = 3 by decide]
      refine hf_dup2 dX12_refuses_11 rfl rfl ?_
      refine hf_iald_k (j := 3) (by decide) dX12_refuses_12 (hs.2.1 157 _ rfl) (hf_lin hs 157 rfl) (hf_vin (by decide)) ?_
      refine hf_iconst (v := 1) dX12_refuses_13 (by decide) ?_
      refine hf_iadd dX12_refuses_14 ?_
      refine hf_iast_k (j := 3) (by decide) dX12_refuses_15 (hs.2.1 157 _ rfl) (hf_lin hs 157 rfl) (hf_vin (by decide)) ?_
      refine hf_iload_n dX12_refuses_16 rfl rfl ?_
      refine hf_ireturn dX12_refuses_17 rfl rfl ?_
      show hf_G X Y_X12_word (d + 1) _ _ 109 [some (.ref 156), some (.int x1), some (.int x2), some (.int x3), some (.int x4), some (.int x5), some (.int x6), some (.int x7), none, none] [.int (-3)] (t, T, (hf_up (hf_up I 156 0 (-3)) 157 3 ((I 157 3) + 1)), L, P) _
      refine hf_ireturn dX12_word_109 rfl rfl ?_
      exact h
  · replace h := h.2 hc
    refine hf_iload dX12_word_70 rfl ?_
    refine hf_aload_n dX12_word_72 rfl rfl ?_
    refine hf_iload dX12_word_73 rfl ?_
    refine hf_iconst (v := 0) dX12_word_75 (by decide) ?_
    refine hf_callV (c := 12) (as := [.int x7, .int 0]) ok_X12_fact dX12_word_76 hw1189 hw1190 hw1606 (hs.2.1 156 _ rfl) (by decide) (hf_lin hs 156 rfl) rfl (Nat.le_of_ble_eq_true rfl) rfl (Nat.le_of_ble_eq_true rfl) (Nat.zero_le _) (Nat.zero_le _) ?_
    show hf_G X Y_X12_fact d _ _ 0 [some (.ref 156), some (.int x7), some (.int 0)] [] (t, T, I, L, P) _
    refine hf_aload_n dX12_fact_0 rfl rfl ?_
    refine hf_getr (b := 158) (c := 12) (j := 2) dX12_fact_1 (hs.2.1 156 _ rfl) (hf_lin hs 156 rfl) (by decide) (by decide) hw1038 rfl (hs.2.2 156 2 _ rfl) ?_
    refine hf_bipush (v := 53) dX12_fact_4 (by decide) ?_
    refine hf_bipush (v := 13) dX12_fact_6 (by decide) ?_
    refine hf_iload_n dX12_fact_8 rfl rfl ?_
    refine hf_imul dX12_fact_9 ?_
    refine hf_iadd dX12_fact_10 ?_
    refine hf_iload_n dX12_fact_11 rfl rfl ?_
    refine hf_iadd dX12_fact_12 ?_
    refine hf_iald dX12_fact_13 (hs.2.1 158 _ rfl) (hf_lin hs 158 rfl) h.1 ?_
    replace h := h.2
    refine hf_ireturn dX12_fact_14 rfl rfl ?_
    show hf_G X Y_X12_word (d + 1) _ _ 79 [some (.ref 156), some (.int x1), some (.int x2), some (.int x3), some (.int x4), some (.int x5), some (.int x6), some (.int x7), none, none] [.int (I 158 ((((53 + (13 * x7)) + 0)).toNatClampNeg)), .int x6] (t, T, I, L, P) _
    refine hf_iload_n dX12_word_79 rfl rfl ?_
    refine hf_icmp_ne (tgt := 87) dX12_word_80 (by decide) (fun hc => ?_) (fun hc => ?_)
    · replace h := h.1 hc
      refine hf_iconst (v := 0) dX12_word_87 (by decide) ?_
      refine hf_iadd dX12_word_88 ?_
      refine hf_istore (l2 := [some (.ref 156), some (.int x1), some (.int x2), some (.int x3), some (.int x4), some (.int x5), some (.int (x6 + 0)), some (.int x7), none, none]) dX12_word_89 (by decide) rfl ?_
      refine hf_iinc (v := (x7 + 1)) (l2 := [some (.ref 156), some (.int x1), some (.int x2), some (.int x3), some (.int x4), some (.int x5), some (.int (x6 + 0)), some (.int (x7 + 1)), none, none]) dX12_word_91 (by decide) rfl rfl rfl ?_
      refine hf_goto (tgt := 63) dX12_word_94 (by decide) ?_
      exact h
    · replace h := h.2 hc
      refine hf_iconst (v := 1) dX12_word_83 (by decide) ?_
      refine hf_goto (tgt := 88) dX12_word_84 (by decide) ?_
      refine hf_iadd dX12_word_88 ?_
      refine hf_istore (l2 := [some (.ref 156), some (.int x1), some (.int x2), some (.int x3), some (.int x4), some (.int x5), some (.int (x6 + 1)), some (.int x7), none, none]) dX12_word_89 (by decide) rfl ?_
      refine hf_iinc (v := (x7 + 1)) (l2 := [some (.ref 156), some (.int x1), some (.int x2), some (.int x3), some (.int x4), some (.int x5), some (.int (x6 + 1)), some (.int (x7 + 1)), none, none]) dX12_word_91 (by decide) rfl rfl rfl ?_
      refine hf_goto (tgt := 63) dX12_word_94 (by decide) ?_
      exact h

set_option maxHeartbeats 4000000 in
theorem w_X12_word_137 {X : hf_X} {d k n t : Nat} {T : hf_T} {I : hf_I} {L : hf_L} {P : hf_P} {Q : Option Value → hf_M → Prop} {x1 : Int32} {x2 : Int32} {x3 : Int32} {x4 : Int32} {x5 : Int32} {x7 : Int32} {x8 : Int32} (hs : hf_Lay t T P) (h : (x4 ≤ x8 → (¬ x7 = 0 → vp_in ((53 + (13 * x5)) + 0) 5929 ∧ (vp_in ((53 + (13 * x5)) + 1) 5929 ∧ (vp_in ((53 + (13 * x5)) + 2) 5929 ∧ (vp_in ((53 + (13 * x5)) + 3) 5929 ∧ (hf_G X Y_X12_word (d + 1) k n 237 [some (.ref 156), none, none, none, some (.int x4), some (.int x5), none, none, some (.int (53 + (13 * x5))), some (.int 0)] [] (t, T, (hf_up (hf_up (hf_up (hf_up I 158 ((((53 + (13 * x5)) + 0)).toNatClampNeg) x1) 158 ((((53 + (13 * x5)) + 1)).toNatClampNeg) x2) 158 ((((53 + (13 * x5)) + 2)).toNatClampNeg) x3) 158 ((((53 + (13 * x5)) + 3)).toNatClampNeg) x4), L, P) Q))))) ∧ (x7 = 0 → Q (some (.int (-6))) (t, T, (hf_up (hf_up I 156 0 (-6)) 157 6 ((I 157 6) + 1)), L, P))) ∧ (¬ (x4 ≤ x8) → (x7 = 0 → (¬ x7 = 0 → vp_in ((53 + (13 * x5)) + 0) 5929 ∧ (vp_in ((53 + (13 * x5)) + 1) 5929 ∧ (vp_in ((53 + (13 * x5)) + 2) 5929 ∧ (vp_in ((53 + (13 * x5)) + 3) 5929 ∧ (hf_G X Y_X12_word (d + 1) k n 237 [some (.ref 156), none, none, none, some (.int x4), some (.int x5), none, none, some (.int (53 + (13 * x5))), some (.int 0)] [] (t, T, (hf_up (hf_up (hf_up (hf_up I 158 ((((53 + (13 * x5)) + 0)).toNatClampNeg) x1) 158 ((((53 + (13 * x5)) + 1)).toNatClampNeg) x2) 158 ((((53 + (13 * x5)) + 2)).toNatClampNeg) x3) 158 ((((53 + (13 * x5)) + 3)).toNatClampNeg) x4), L, P) Q))))) ∧ (x7 = 0 → Q (some (.int (-6))) (t, T, (hf_up (hf_up I 156 0 (-6)) 157 6 ((I 157 6) + 1)), L, P))) ∧ (¬ (x7 = 0) → vp_in x8 400 ∧ (((I 163 x8.toNatClampNeg) < 97 → hf_G X Y_X12_word (d + 1) k n 137 [some (.ref 156), some (.int x1), some (.int x2), some (.int x3), some (.int x4), some (.int x5), none, some (.int 0), some (.int (x8 + 1)), none] [] (t, T, I, L, P) Q) ∧ (¬ ((I 163 x8.toNatClampNeg) < 97) → (122 < (I 163 x8.toNatClampNeg) → hf_G X Y_X12_word (d + 1) k n 137 [some (.ref 156), some (.int x1), some (.int x2), some (.int x3), some (.int x4), some (.int x5), none, some (.int 0), some (.int (x8 + 1)), none] [] (t, T, I, L, P) Q) ∧ (¬ (122 < (I 163 x8.toNatClampNeg)) → hf_G X Y_X12_word (d + 1) k n 137 [some (.ref 156), some (.int x1), some (.int x2), some (.int x3), some (.int x4), some (.int x5), none, some (.int 1), some (.int (x8 + 1)), none] [] (t, T, I, L, P) Q)))))) : hf_G X Y_X12_word (d + 1) k n 137 [some (.ref 156), some (.int x1), some (.int x2), some (.int x3), some (.int x4), some (.int x5), none, some (.int x7), some (.int x8), none] [] (t, T, I, L, P) Q := by
  refine hf_iload dX12_word_137 rfl ?_
  refine hf_iload dX12_word_139 rfl ?_
  refine hf_icmp_ge (tgt := 171) dX12_word_141 (by decide) (fun hc => ?_) (fun hc => ?_)
  · replace h := h.1 hc
    refine hf_iload dX12_word_171 rfl ?_
    refine hf_if_ne (tgt := 183) dX12_word_173 (by decide) (fun hc => ?_) (fun hc => ?_)
    · replace h := h.1 hc
      refine hf_bipush (v := 53) dX12_word_183 (by decide) ?_
      refine hf_bipush (v := 13) dX12_word_185 (by decide) ?_
      refine hf_iload dX12_word_187 rfl ?_
      refine hf_imul dX12_word_189 ?_
      refine hf_iadd dX12_word_190 ?_
      refine hf_istore (l2 := [some (.ref 156), some (.int x1), some (.int x2), some (.int x3), some (.int x4), some (.int x5), none, some (.int x7), some (.int (53 + (13 * x5))), none]) dX12_word_191 (by decide) rfl ?_
      refine hf_aload_n dX12_word_193 rfl rfl ?_
      refine hf_getr (b := 158) (c := 12) (j := 2) dX12_word_194 (hs.2.1 156 _ rfl) (hf_lin hs 156 rfl) (by decide) (by decide) hw1038 rfl (hs.2.2 156 2 _ rfl) ?_
      refine hf_iload dX12_word_197 rfl ?_
      refine hf_iconst (v := 0) dX12_word_199 (by decide) ?_
      refine hf_iadd dX12_word_200 ?_
      refine hf_iload_n dX12_word_201 rfl rfl ?_
      refine hf_iast dX12_word_202 (hs.2.1 158 _ rfl) (hf_lin hs 158 rfl) h.1 ?_
      replace h := h.2
      refine hf_aload_n dX12_word_203 rfl rfl ?_
      refine hf_getr (b := 158) (c := 12) (j := 2) dX12_word_204 (hs.2.1 156 _ rfl) (hf_lin hs 156 rfl) (by decide) (by decide) hw1038 rfl (hs.2.2 156 2 _ rfl) ?_
      refine hf_iload dX12_word_207 rfl ?_
      refine hf_iconst (v := 1) dX12_word_209 (by decide) ?_
      refine hf_iadd dX12_word_210 ?_
      refine hf_iload_n dX12_word_211 rfl rfl ?_
      refine hf_iast dX12_word_212 (hs.2.1 158 _ rfl) (hf_lin hs 158 rfl) h.1 ?_
      replace h := h.2
      refine hf_aload_n dX12_word_213 rfl rfl ?_
      refine hf_getr (b := 158) (c := 12) (j := 2) dX12_word_214 (hs.2.1 156 _ rfl) (hf_lin hs 156 rfl) (by decide) (by decide) hw1038 rfl (hs.2.2 156 2 _ rfl) ?_
      refine hf_iload dX12_word_217 rfl ?_
      refine hf_iconst (v := 2) dX12_word_219 (by decide) ?_
      refine hf_iadd dX12_word_220 ?_
      refine hf_iload_n dX12_word_221 rfl rfl ?_
      refine hf_iast dX12_word_222 (hs.2.1 158 _ rfl) (hf_lin hs 158 rfl) h.1 ?_
      replace h := h.2
      refine hf_aload_n dX12_word_223 rfl rfl ?_
      refine hf_getr (b := 158) (c := 12) (j := 2) dX12_word_224 (hs.2.1 156 _ rfl) (hf_lin hs 156 rfl) (by decide) (by decide) hw1038 rfl (hs.2.2 156 2 _ rfl) ?_
      refine hf_iload dX12_word_227 rfl ?_
      refine hf_iconst (v := 3) dX12_word_229 (by decide) ?_
      refine hf_iadd dX12_word_230 ?_
      refine hf_iload dX12_word_231 rfl ?_
      refine hf_iast dX12_word_233 (hs.2.1 158 _ rfl) (hf_lin hs 158 rfl) h.1 ?_
      replace h := h.2
      refine hf_iconst (v := 0) dX12_word_234 (by decide) ?_
      refine hf_istore (l2 := [some (.ref 156), some (.int x1), some (.int x2), some (.int x3), some (.int x4), some (.int x5), none, some (.int x7), some (.int (53 + (13 * x5))), some (.int 0)]) dX12_word_235 (by decide) rfl ?_
      refine hf_drop (l' := [some (.ref 156), none, none, none, some (.int x4), some (.int x5), none, none, some (.int (53 + (13 * x5))), some (.int 0)]) (by simp [hf_sub]) ?_
      exact h
    · replace h := h.2 hc
      refine hf_aload_n dX12_word_176 rfl rfl ?_
      refine hf_bipush (v := (-6)) dX12_word_177 (by decide) ?_
      refine hf_callV (c := 12) (as := [.int (-6)]) ok_X12_refuses dX12_word_179 hw1146 hw1147 hw1601 (hs.2.1 156 _ rfl) (by decide) (hf_lin hs 156 rfl) rfl (Nat.le_of_ble_eq_true rfl) rfl (Nat.le_of_ble_eq_true rfl) (Nat.zero_le _) (Nat.zero_le _) ?_
      show hf_G X Y_X12_refuses d _ _ 0 [some (.ref 156), some (.int (-6))] [] (t, T, I, L, P) _
      refine hf_aload_n dX12_refuses_0 rfl rfl ?_
      refine hf_iload_n dX12_refuses_1 rfl rfl ?_
      refine hf_puti (c := 12) (j := 0) dX12_refuses_2 (hs.2.1 156 _ rfl) (hf_lin hs 156 rfl) (by decide) (by decide) hw1036 rfl rfl ?_
      refine hf_aload_n dX12_refuses_5 rfl rfl ?_
      refine hf_getr (b := 157) (c := 12) (j := 1) dX12_refuses_6 (hs.2.1 156 _ rfl) (hf_lin hs 156 rfl) (by decide) (by decide) hw1037 rfl (hs.2.2 156 1 _ rfl) ?_
      refine hf_iload_n dX12_refuses_9 rfl rfl ?_
      refine hf_ineg dX12_refuses_10 ?_
      rw [show (-(-6) : Int32) = 6 by decide]
      refine hf_dup2 dX12_refuses_11 rfl rfl ?_
      refine hf_iald_k (j := 6) (by decide) dX12_refuses_12 (hs.2.1 157 _ rfl) (hf_lin hs 157 rfl) (hf_vin (by decide)) ?_
      refine hf_iconst (v := 1) dX12_refuses_13 (by decide) ?_
      refine hf_iadd dX12_refuses_14 ?_
      refine hf_iast_k (j := 6) (by decide) dX12_refuses_15 (hs.2.1 157 _ rfl) (hf_lin hs 157 rfl) (hf_vin (by decide)) ?_
      refine hf_iload_n dX12_refuses_16 rfl rfl ?_
      refine hf_ireturn dX12_refuses_17 rfl rfl ?_
      show hf_G X Y_X12_word (d + 1) _ _ 182 [some (.ref 156), some (.int x1), some (.int x2), some (.int x3), some (.int x4), some (.int x5), none, some (.int x7), some (.int x8), none] [.int (-6)] (t, T, (hf_up (hf_up I 156 0 (-6)) 157 6 ((I 157 6) + 1)), L, P) _
      refine hf_ireturn dX12_word_182 rfl rfl ?_
      exact h
  · replace h := h.2 hc
    refine hf_iload dX12_word_144 rfl ?_
    refine hf_if_eq (tgt := 171) dX12_word_146 (by decide) (fun hc => ?_) (fun hc => ?_)
    · replace h := h.1 hc
      refine hf_iload dX12_word_171 rfl ?_
      refine hf_if_ne (tgt := 183) dX12_word_173 (by decide) (fun hc => ?_) (fun hc => ?_)
      · replace h := h.1 hc
        refine hf_bipush (v := 53) dX12_word_183 (by decide) ?_
        refine hf_bipush (v := 13) dX12_word_185 (by decide) ?_
        refine hf_iload dX12_word_187 rfl ?_
        refine hf_imul dX12_word_189 ?_
        refine hf_iadd dX12_word_190 ?_
        refine hf_istore (l2 := [some (.ref 156), some (.int x1), some (.int x2), some (.int x3), some (.int x4), some (.int x5), none, some (.int x7), some (.int (53 + (13 * x5))), none]) dX12_word_191 (by decide) rfl ?_
        refine hf_aload_n dX12_word_193 rfl rfl ?_
        refine hf_getr (b := 158) (c := 12) (j := 2) dX12_word_194 (hs.2.1 156 _ rfl) (hf_lin hs 156 rfl) (by decide) (by decide) hw1038 rfl (hs.2.2 156 2 _ rfl) ?_
        refine hf_iload dX12_word_197 rfl ?_
        refine hf_iconst (v := 0) dX12_word_199 (by decide) ?_
        refine hf_iadd dX12_word_200 ?_
        refine hf_iload_n dX12_word_201 rfl rfl ?_
        refine hf_iast dX12_word_202 (hs.2.1 158 _ rfl) (hf_lin hs 158 rfl) h.1 ?_
        replace h := h.2
        refine hf_aload_n dX12_word_203 rfl rfl ?_
        refine hf_getr (b := 158) (c := 12) (j := 2) dX12_word_204 (hs.2.1 156 _ rfl) (hf_lin hs 156 rfl) (by decide) (by decide) hw1038 rfl (hs.2.2 156 2 _ rfl) ?_
        refine hf_iload dX12_word_207 rfl ?_
        refine hf_iconst (v := 1) dX12_word_209 (by decide) ?_
        refine hf_iadd dX12_word_210 ?_
        refine hf_iload_n dX12_word_211 rfl rfl ?_
        refine hf_iast dX12_word_212 (hs.2.1 158 _ rfl) (hf_lin hs 158 rfl) h.1 ?_
        replace h := h.2
        refine hf_aload_n dX12_word_213 rfl rfl ?_
        refine hf_getr (b := 158) (c := 12) (j := 2) dX12_word_214 (hs.2.1 156 _ rfl) (hf_lin hs 156 rfl) (by decide) (by decide) hw1038 rfl (hs.2.2 156 2 _ rfl) ?_
        refine hf_iload dX12_word_217 rfl ?_
        refine hf_iconst (v := 2) dX12_word_219 (by decide) ?_
        refine hf_iadd dX12_word_220 ?_
        refine hf_iload_n dX12_word_221 rfl rfl ?_
        refine hf_iast dX12_word_222 (hs.2.1 158 _ rfl) (hf_lin hs 158 rfl) h.1 ?_
        replace h := h.2
        refine hf_aload_n dX12_word_223 rfl rfl ?_
        refine hf_getr (b := 158) (c := 12) (j := 2) dX12_word_224 (hs.2.1 156 _ rfl) (hf_lin hs 156 rfl) (by decide) (by decide) hw1038 rfl (hs.2.2 156 2 _ rfl) ?_
        refine hf_iload dX12_word_227 rfl ?_
        refine hf_iconst (v := 3) dX12_word_229 (by decide) ?_
        refine hf_iadd dX12_word_230 ?_
        refine hf_iload dX12_word_231 rfl ?_
        refine hf_iast dX12_word_233 (hs.2.1 158 _ rfl) (hf_lin hs 158 rfl) h.1 ?_
        replace h := h.2
        refine hf_iconst (v := 0) dX12_word_234 (by decide) ?_
        refine hf_istore (l2 := [some (.ref 156), some (.int x1), some (.int x2), some (.int x3), some (.int x4), some (.int x5), none, some (.int x7), some (.int (53 + (13 * x5))), some (.int 0)]) dX12_word_235 (by decide) rfl ?_
        refine hf_drop (l' := [some (.ref 156), none, none, none, some (.int x4), some (.int x5), none, none, some (.int (53 + (13 * x5))), some (.int 0)]) (by simp [hf_sub]) ?_
        exact h
      · replace h := h.2 hc
        refine hf_aload_n dX12_word_176 rfl rfl ?_
        refine hf_bipush (v := (-6)) dX12_word_177 (by decide) ?_
        refine hf_callV (c := 12) (as := [.int (-6)]) ok_X12_refuses dX12_word_179 hw1146 hw1147 hw1601 (hs.2.1 156 _ rfl) (by decide) (hf_lin hs 156 rfl) rfl (Nat.le_of_ble_eq_true rfl) rfl (Nat.le_of_ble_eq_true rfl) (Nat.zero_le _) (Nat.zero_le _) ?_
        show hf_G X Y_X12_refuses d _ _ 0 [some (.ref 156), some (.int (-6))] [] (t, T, I, L, P) _
        refine hf_aload_n dX12_refuses_0 rfl rfl ?_
        refine hf_iload_n dX12_refuses_1 rfl rfl ?_
        refine hf_puti (c := 12) (j := 0) dX12_refuses_2 (hs.2.1 156 _ rfl) (hf_lin hs 156 rfl) (by decide) (by decide) hw1036 rfl rfl ?_
        refine hf_aload_n dX12_refuses_5 rfl rfl ?_
        refine hf_getr (b := 157) (c := 12) (j := 1) dX12_refuses_6 (hs.2.1 156 _ rfl) (hf_lin hs 156 rfl) (by decide) (by decide) hw1037 rfl (hs.2.2 156 1 _ rfl) ?_
        refine hf_iload_n dX12_refuses_9 rfl rfl ?_
        refine hf_ineg dX12_refuses_10 ?_
        rw [show (-(-6) : Int32) = 6 by decide]
        refine hf_dup2 dX12_refuses_11 rfl rfl ?_
        refine hf_iald_k (j := 6) (by decide) dX12_refuses_12 (hs.2.1 157 _ rfl) (hf_lin hs 157 rfl) (hf_vin (by decide)) ?_
        refine hf_iconst (v := 1) dX12_refuses_13 (by decide) ?_
        refine hf_iadd dX12_refuses_14 ?_
        refine hf_iast_k (j := 6) (by decide) dX12_refuses_15 (hs.2.1 157 _ rfl) (hf_lin hs 157 rfl) (hf_vin (by decide)) ?_
        refine hf_iload_n dX12_refuses_16 rfl rfl ?_
        refine hf_ireturn dX12_refuses_17 rfl rfl ?_
        show hf_G X Y_X12_word (d + 1) _ _ 182 [some (.ref 156), some (.int x1), some (.int x2), some (.int x3), some (.int x4), some (.int x5), none, some (.int x7), some (.int x8), none] [.int (-6)] (t, T, (hf_up (hf_up I 156 0 (-6)) 157 6 ((I 157 6) + 1)), L, P) _
        refine hf_ireturn dX12_word_182 rfl rfl ?_
        exact h
    · replace h := h.2 hc
      refine hf_aload_n dX12_word_149 rfl rfl ?_
      refine hf_getr (b := 163) (c := 12) (j := 8) dX12_word_150 (hs.2.1 156 _ rfl) (hf_lin hs 156 rfl) (by decide) (by decide) hw1044 rfl (hs.2.2 156 8 _ rfl) ?_
      refine hf_iload dX12_word_153 rfl ?_
      refine hf_bald dX12_word_155 (hs.2.1 163 _ rfl) (hf_lin hs 163 rfl) h.1 ?_
      replace h := h.2
      refine hf_bipush (v := 97) dX12_word_156 (by decide) ?_
      refine hf_bipush (v := 122) dX12_word_158 (by decide) ?_
      refine hf_callS (as := [.int (I 163 x8.toNatClampNeg), .int 97, .int 122]) ok_X12_lies dX12_word_160 hw1143 hw1144 rfl (Nat.le_of_ble_eq_true rfl) rfl (Nat.le_of_ble_eq_true rfl) (Nat.zero_le _) (Nat.zero_le _) ?_
      show hf_G X Y_X12_lies d _ _ 0 [some (.int (I 163 x8.toNatClampNeg)), some (.int 97), some (.int 122)] [] (t, T, I, L, P) _
      refine hf_iload_n dX12_lies_0 rfl rfl ?_
      refine hf_iload_n dX12_lies_1 rfl rfl ?_
      refine hf_icmp_lt (tgt := 14) dX12_lies_2 (by decide) (fun hc => ?_) (fun hc => ?_)
      · replace h := h.1 hc
        refine hf_iconst (v := 0) dX12_lies_14 (by decide) ?_
        refine hf_ireturn dX12_lies_15 rfl (by decide) ?_
        show hf_G X Y_X12_word (d + 1) _ _ 163 [some (.ref 156), some (.int x1), some (.int x2), some (.int x3), some (.int x4), some (.int x5), none, some (.int x7), some (.int x8), none] [.int 0] (t, T, I, L, P) _
        refine hf_istore (l2 := [some (.ref 156), some (.int x1), some (.int x2), some (.int x3), some (.int x4), some (.int x5), none, some (.int 0), some (.int x8), none]) dX12_word_163 (by decide) rfl ?_
        refine hf_iinc (v := (x8 + 1)) (l2 := [some (.ref 156), some (.int x1), some (.int x2), some (.int x3), some (.int x4), some (.int x5), none, some (.int 0), some (.int (x8 + 1)), none]) dX12_word_165 (by decide) rfl rfl rfl ?_
        refine hf_goto (tgt := 137) dX12_word_168 (by decide) ?_
        exact h
      · replace h := h.2 hc
        refine hf_iload_n dX12_lies_5 rfl rfl ?_
        refine hf_iload_n dX12_lies_6 rfl rfl ?_
        refine hf_icmp_gt (tgt := 14) dX12_lies_7 (by decide) (fun hc => ?_) (fun hc => ?_)
        · replace h := h.1 hc
          refine hf_iconst (v := 0) dX12_lies_14 (by decide) ?_
          refine hf_ireturn dX12_lies_15 rfl (by decide) ?_
          show hf_G X Y_X12_word (d + 1) _ _ 163 [some (.ref 156), some (.int x1), some (.int x2), some (.int x3), some (.int x4), some (.int x5), none, some (.int x7), some (.int x8), none] [.int 0] (t, T, I, L, P) _
          refine hf_istore (l2 := [some (.ref 156), some (.int x1), some (.int x2), some (.int x3), some (.int x4), some (.int x5), none, some (.int 0), some (.int x8), none]) dX12_word_163 (by decide) rfl ?_
          refine hf_iinc (v := (x8 + 1)) (l2 := [some (.ref 156), some (.int x1), some (.int x2), some (.int x3), some (.int x4), some (.int x5), none, some (.int 0), some (.int (x8 + 1)), none]) dX12_word_165 (by decide) rfl rfl rfl ?_
          refine hf_goto (tgt := 137) dX12_word_168 (by decide) ?_
          exact h
        · replace h := h.2 hc
          refine hf_iconst (v := 1) dX12_lies_10 (by decide) ?_
          refine hf_goto (tgt := 15) dX12_lies_11 (by decide) ?_
          refine hf_ireturn dX12_lies_15 rfl (by decide) ?_
          show hf_G X Y_X12_word (d + 1) _ _ 163 [some (.ref 156), some (.int x1), some (.int x2), some (.int x3), some (.int x4), some (.int x5), none, some (.int x7), some (.int x8), none] [.int 1] (t, T, I, L, P) _
          refine hf_istore (l2 := [some (.ref 156), some (.int x1), some (.int x2), some (.int x3), some (.int x4), some (.int x5), none, some (.int 1), some (.int x8), none]) dX12_word_163 (by decide) rfl ?_
          refine hf_iinc (v := (x8 + 1)) (l2 := [some (.ref 156), some (.int x1), some (.int x2), some (.int x3), some (.int x4), some (.int x5), none, some (.int 1), some (.int (x8 + 1)), none]) dX12_word_165 (by decide) rfl rfl rfl ?_
          refine hf_goto (tgt := 137) dX12_word_168 (by decide) ?_
          exact h

set_option maxHeartbeats 4000000 in
theorem w_X12_word_237 {X : hf_X} {d k n t : Nat} {T : hf_T} {I : hf_I} {L : hf_L} {P : hf_P} {Q : Option Value → hf_M → Prop} {x4 : Int32} {x5 : Int32} {x8 : Int32} {x9 : Int32} (hs : hf_Lay t T P) (h : (9 ≤ x9 → Q (some (.int x5)) (t, T, (hf_up (hf_up I 158 316 ((I 158 316) + 1)) 156 0 0), L, P)) ∧ (¬ (9 ≤ x9) → (x4 ≤ x9 → vp_in ((x8 + 4) + x9) 5929 ∧ (hf_G X Y_X12_word (d + 1) k n 237 [some (.ref 156), none, none, none, some (.int x4), some (.int x5), none, none, some (.int x8), some (.int (x9 + 1))] [] (t, T, (hf_up I 158 ((((x8 + 4) + x9)).toNatClampNeg) 0), L, P) Q)) ∧ (¬ (x4 ≤ x9) → vp_in x9 400 ∧ (vp_in ((x8 + 4) + x9) 5929 ∧ (hf_G X Y_X12_word (d + 1) k n 237 [some (.ref 156), none, none, none, some (.int x4), some (.int x5), none, none, some (.int x8), some (.int (x9 + 1))] [] (t, T, (hf_up I 158 ((((x8 + 4) + x9)).toNatClampNeg) ((I 163 x9.toNatClampNeg) - 97)), L, P) Q))))) : hf_G X Y_X12_word (d + 1) k n 237 [some (.ref 156), none, none, none, some (.int x4), some (.int x5), none, none, some (.int x8), some (.int x9)] [] (t, T, I, L, P) Q := by
  refine hf_iload dX12_word_237 rfl ?_
  refine hf_bipush (v := 9) dX12_word_239 (by decide) ?_
  refine hf_icmp_ge (tgt := 283) dX12_word_241 (by decide) (fun hc => ?_) (fun hc => ?_)
  · replace h := h.1 hc
    refine hf_aload_n dX12_word_283 rfl rfl ?_
    refine hf_getr (b := 158) (c := 12) (j := 2) dX12_word_284 (hs.2.1 156 _ rfl) (hf_lin hs 156 rfl) (by decide) (by decide) hw1038 rfl (hs.2.2 156 2 _ rfl) ?_
    refine hf_sipush (v := 316) dX12_word_287 (by decide) ?_
    refine hf_dup2 dX12_word_290 rfl rfl ?_
    refine hf_iald_k (j := 316) (by decide) dX12_word_291 (hs.2.1 158 _ rfl) (hf_lin hs 158 rfl) (hf_vin (by decide)) ?_
    refine hf_iconst (v := 1) dX12_word_292 (by decide) ?_
    refine hf_iadd dX12_word_293 ?_
    refine hf_iast_k (j := 316) (by decide) dX12_word_294 (hs.2.1 158 _ rfl) (hf_lin hs 158 rfl) (hf_vin (by decide)) ?_
    refine hf_aload_n dX12_word_295 rfl rfl ?_
    refine hf_iload dX12_word_296 rfl ?_
    refine hf_callV (c := 12) (as := [.int x5]) ok_X12_good dX12_word_298 hw1149 hw1150 hw1602 (hs.2.1 156 _ rfl) (by decide) (hf_lin hs 156 rfl) rfl (Nat.le_of_ble_eq_true rfl) rfl (Nat.le_of_ble_eq_true rfl) (Nat.zero_le _) (Nat.zero_le _) ?_
    show hf_G X Y_X12_good d _ _ 0 [some (.ref 156), some (.int x5)] [] (t, T, (hf_up I 158 316 ((I 158 316) + 1)), L, P) _
    refine hf_aload_n dX12_good_0 rfl rfl ?_
    refine hf_iconst (v := 0) dX12_good_1 (by decide) ?_
    refine hf_puti (c := 12) (j := 0) dX12_good_2 (hs.2.1 156 _ rfl) (hf_lin hs 156 rfl) (by decide) (by decide) hw1036 rfl rfl ?_
    refine hf_iload_n dX12_good_5 rfl rfl ?_
    refine hf_ireturn dX12_good_6 rfl rfl ?_
    show hf_G X Y_X12_word (d + 1) _ _ 301 [some (.ref 156), none, none, none, some (.int x4), some (.int x5), none, none, some (.int x8), some (.int x9)] [.int x5] (t, T, (hf_up (hf_up I 158 316 ((I 158 316) + 1)) 156 0 0), L, P) _
    refine hf_ireturn dX12_word_301 rfl rfl ?_
    exact h
  · replace h := h.2 hc
    refine hf_aload_n dX12_word_244 rfl rfl ?_
    refine hf_getr (b := 158) (c := 12) (j := 2) dX12_word_245 (hs.2.1 156 _ rfl) (hf_lin hs 156 rfl) (by decide) (by decide) hw1038 rfl (hs.2.2 156 2 _ rfl) ?_
    refine hf_iload dX12_word_248 rfl ?_
    refine hf_iconst (v := 4) dX12_word_250 (by decide) ?_
    refine hf_iadd dX12_word_251 ?_
    refine hf_iload dX12_word_252 rfl ?_
    refine hf_iadd dX12_word_254 ?_
    refine hf_iload dX12_word_255 rfl ?_
    refine hf_iload dX12_word_257 rfl ?_
    refine hf_icmp_ge (tgt := 275) dX12_word_259 (by decide) (fun hc => ?_) (fun hc => ?_)
    · replace h := h.1 hc
      refine hf_iconst (v := 0) dX12_word_275 (by decide) ?_
      refine hf_iast dX12_word_276 (hs.2.1 158 _ rfl) (hf_lin hs 158 rfl) h.1 ?_
      replace h := h.2
      refine hf_iinc (v := (x9 + 1)) (l2 := [some (.ref 156), none, none, none, some (.int x4), some (.int x5), none, none, some (.int x8), some (.int (x9 + 1))]) dX12_word_277 (by decide) rfl rfl rfl ?_
      refine hf_goto (tgt := 237) dX12_word_280 (by decide) ?_
      exact h
    · replace h := h.2 hc
      refine hf_aload_n dX12_word_262 rfl rfl ?_
      refine hf_getr (b := 163) (c := 12) (j := 8) dX12_word_263 (hs.2.1 156 _ rfl) (hf_lin hs 156 rfl) (by decide) (by decide) hw1044 rfl (hs.2.2 156 8 _ rfl) ?_
      refine hf_iload dX12_word_266 rfl ?_
      refine hf_bald dX12_word_268 (hs.2.1 163 _ rfl) (hf_lin hs 163 rfl) h.1 ?_
      replace h := h.2
      refine hf_bipush (v := 97) dX12_word_269 (by decide) ?_
      refine hf_isub dX12_word_271 ?_
      refine hf_goto (tgt := 276) dX12_word_272 (by decide) ?_
      refine hf_iast dX12_word_276 (hs.2.1 158 _ rfl) (hf_lin hs 158 rfl) h.1 ?_
      replace h := h.2
      refine hf_iinc (v := (x9 + 1)) (l2 := [some (.ref 156), none, none, none, some (.int x4), some (.int x5), none, none, some (.int x8), some (.int (x9 + 1))]) dX12_word_277 (by decide) rfl rfl rfl ?_
      refine hf_goto (tgt := 237) dX12_word_280 (by decide) ?_
      exact h

set_option maxHeartbeats 4000000 in
theorem w_X12_hairsOf_0 {X : hf_X} {d k n t : Nat} {T : hf_T} {I : hf_I} {L : hf_L} {P : hf_P} {Q : Option Value → hf_M → Prop} {x1 : Int32} {x2 : Int32} (hs : hf_Lay t T P) (h : vp_in (26 + x1) 5929 ∧ (Q (some (.int (((I 158 (((26 + x1)).toNatClampNeg)) * (x2 + 2)) / 2))) (t, T, I, L, P))) : hf_G X Y_X12_hairsOf d k n 0 (hf_en [.ref 156, .int x1, .int x2] 3) [] (t, T, I, L, P) Q := by
  show hf_G X Y_X12_hairsOf d k n 0 [some (.ref 156), some (.int x1), some (.int x2)] [] (t, T, I, L, P) Q
  refine hf_aload_n dX12_hairsOf_0 rfl rfl ?_
  refine hf_getr (b := 158) (c := 12) (j := 2) dX12_hairsOf_1 (hs.2.1 156 _ rfl) (hf_lin hs 156 rfl) (by decide) (by decide) hw1038 rfl (hs.2.2 156 2 _ rfl) ?_
  refine hf_bipush (v := 26) dX12_hairsOf_4 (by decide) ?_
  refine hf_iload_n dX12_hairsOf_6 rfl rfl ?_
  refine hf_iadd dX12_hairsOf_7 ?_
  refine hf_iald dX12_hairsOf_8 (hs.2.1 158 _ rfl) (hf_lin hs 158 rfl) h.1 ?_
  replace h := h.2
  refine hf_iload_n dX12_hairsOf_9 rfl rfl ?_
  refine hf_iconst (v := 2) dX12_hairsOf_10 (by decide) ?_
  refine hf_iadd dX12_hairsOf_11 ?_
  refine hf_imul dX12_hairsOf_12 ?_
  refine hf_iconst (v := 2) dX12_hairsOf_13 (by decide) ?_
  refine hf_idiv dX12_hairsOf_14 (by decide) ?_
  refine hf_ireturn dX12_hairsOf_15 rfl rfl ?_
  exact h

set_option maxHeartbeats 4000000 in
theorem w_X12_broadOf_0 {X : hf_X} {d k n t : Nat} {T : hf_T} {I : hf_I} {L : hf_L} {P : hf_P} {Q : Option Value → hf_M → Prop} {x1 : Int32} {x2 : Int32} (hs : hf_Lay t T P) (h : hf_G X Y_X12_broadOf d k n 5 [some (.ref 156), some (.int x1), some (.int x2), some (.int 0), some (.int 0)] [] (t, T, I, L, P) Q) : hf_G X Y_X12_broadOf d k n 0 (hf_en [.ref 156, .int x1, .int x2] 5) [] (t, T, I, L, P) Q := by
  show hf_G X Y_X12_broadOf d k n 0 [some (.ref 156), some (.int x1), some (.int x2), none, none] [] (t, T, I, L, P) Q
  refine hf_iconst (v := 0) dX12_broadOf_0 (by decide) ?_
  refine hf_istore_n (l2 := [some (.ref 156), some (.int x1), some (.int x2), some (.int 0), none]) dX12_broadOf_1 rfl (by decide) rfl ?_
  refine hf_iconst (v := 0) dX12_broadOf_2 (by decide) ?_
  refine hf_istore (l2 := [some (.ref 156), some (.int x1), some (.int x2), some (.int 0), some (.int 0)]) dX12_broadOf_3 (by decide) rfl ?_
  exact h

set_option maxHeartbeats 4000000 in
theorem w_X12_broadOf_5 {X : hf_X} {d k n t : Nat} {T : hf_T} {I : hf_I} {L : hf_L} {P : hf_P} {Q : Option Value → hf_M → Prop} {x1 : Int32} {x2 : Int32} {x3 : Int32} {x4 : Int32} (hs : hf_Lay t T P) (h : vp_in ((53 + (13 * x1)) + 3) 5929 ∧ (((I 158 ((((53 + (13 * x1)) + 3)).toNatClampNeg)) ≤ x4 → Q (some (.int x3)) (t, T, I, L, P)) ∧ (¬ ((I 158 ((((53 + (13 * x1)) + 3)).toNatClampNeg)) ≤ x4) → vp_in ((53 + (13 * x1)) + (4 + x4)) 5929 ∧ (vp_in (26 + (I 158 ((((53 + (13 * x1)) + (4 + x4))).toNatClampNeg))) 5929 ∧ (hf_G X Y_X12_broadOf (d + 1) k n 5 [some (.ref 156), some (.int x1), some (.int x2), some (.int (x3 + (((I 158 (((26 + (I 158 ((((53 + (13 * x1)) + (4 + x4))).toNatClampNeg)))).toNatClampNeg)) * (x2 + 2)) / 2))), some (.int (x4 + 1))] [] (t, T, I, L, P) Q))))) : hf_G X Y_X12_broadOf (d + 1) k n 5 [some (.ref 156), some (.int x1), some (.int x2), some (.int x3), some (.int x4)] [] (t, T, I, L, P) Q := by
  refine hf_iload dX12_broadOf_5 rfl ?_
  refine hf_aload_n dX12_broadOf_7 rfl rfl ?_
  refine hf_iload_n dX12_broadOf_8 rfl rfl ?_
  refine hf_iconst (v := 3) dX12_broadOf_9 (by decide) ?_
  refine hf_callV (c := 12) (as := [.int x1, .int 3]) ok_X12_fact dX12_broadOf_10 hw1189 hw1190 hw1606 (hs.2.1 156 _ rfl) (by decide) (hf_lin hs 156 rfl) rfl (Nat.le_of_ble_eq_true rfl) rfl (Nat.le_of_ble_eq_true rfl) (Nat.zero_le _) (Nat.zero_le _) ?_
  show hf_G X Y_X12_fact d _ _ 0 [some (.ref 156), some (.int x1), some (.int 3)] [] (t, T, I, L, P) _
  refine hf_aload_n dX12_fact_0 rfl rfl ?_
  refine hf_getr (b := 158) (c := 12) (j := 2) dX12_fact_1 (hs.2.1 156 _ rfl) (hf_lin hs 156 rfl) (by decide) (by decide) hw1038 rfl (hs.2.2 156 2 _ rfl) ?_
  refine hf_bipush (v := 53) dX12_fact_4 (by decide) ?_
  refine hf_bipush (v := 13) dX12_fact_6 (by decide) ?_
  refine hf_iload_n dX12_fact_8 rfl rfl ?_
  refine hf_imul dX12_fact_9 ?_
  refine hf_iadd dX12_fact_10 ?_
  refine hf_iload_n dX12_fact_11 rfl rfl ?_
  refine hf_iadd dX12_fact_12 ?_
  refine hf_iald dX12_fact_13 (hs.2.1 158 _ rfl) (hf_lin hs 158 rfl) h.1 ?_
  replace h := h.2
  refine hf_ireturn dX12_fact_14 rfl rfl ?_
  show hf_G X Y_X12_broadOf (d + 1) _ _ 13 [some (.ref 156), some (.int x1), some (.int x2), some (.int x3), some (.int x4)] [.int (I 158 ((((53 + (13 * x1)) + 3)).toNatClampNeg)), .int x4] (t, T, I, L, P) _
  refine hf_icmp_ge (tgt := 39) dX12_broadOf_13 (by decide) (fun hc => ?_) (fun hc => ?_)
  · replace h := h.1 hc
    refine hf_iload_n dX12_broadOf_39 rfl rfl ?_
    refine hf_ireturn dX12_broadOf_40 rfl rfl ?_
    exact h
  · replace h := h.2 hc
    refine hf_iload_n dX12_broadOf_16 rfl rfl ?_
    refine hf_aload_n dX12_broadOf_17 rfl rfl ?_
    refine hf_aload_n dX12_broadOf_18 rfl rfl ?_
    refine hf_iload_n dX12_broadOf_19 rfl rfl ?_
    refine hf_iconst (v := 4) dX12_broadOf_20 (by decide) ?_
    refine hf_iload dX12_broadOf_21 rfl ?_
    refine hf_iadd dX12_broadOf_23 ?_
    refine hf_callV (c := 12) (as := [.int x1, .int (4 + x4)]) ok_X12_fact dX12_broadOf_24 hw1189 hw1190 hw1606 (hs.2.1 156 _ rfl) (by decide) (hf_lin hs 156 rfl) rfl (Nat.le_of_ble_eq_true rfl) rfl (Nat.le_of_ble_eq_true rfl) (Nat.zero_le _) (Nat.zero_le _) ?_
    show hf_G X Y_X12_fact d _ _ 0 [some (.ref 156), some (.int x1), some (.int (4 + x4))] [] (t, T, I, L, P) _
    refine hf_aload_n dX12_fact_0 rfl rfl ?_
    refine hf_getr (b := 158) (c := 12) (j := 2) dX12_fact_1 (hs.2.1 156 _ rfl) (hf_lin hs 156 rfl) (by decide) (by decide) hw1038 rfl (hs.2.2 156 2 _ rfl) ?_
    refine hf_bipush (v := 53) dX12_fact_4 (by decide) ?_
    refine hf_bipush (v := 13) dX12_fact_6 (by decide) ?_
    refine hf_iload_n dX12_fact_8 rfl rfl ?_
    refine hf_imul dX12_fact_9 ?_
    refine hf_iadd dX12_fact_10 ?_
    refine hf_iload_n dX12_fact_11 rfl rfl ?_
    refine hf_iadd dX12_fact_12 ?_
    refine hf_iald dX12_fact_13 (hs.2.1 158 _ rfl) (hf_lin hs 158 rfl) h.1 ?_
    replace h := h.2
    refine hf_ireturn dX12_fact_14 rfl rfl ?_
    show hf_G X Y_X12_broadOf (d + 1) _ _ 27 [some (.ref 156), some (.int x1), some (.int x2), some (.int x3), some (.int x4)] [.int (I 158 ((((53 + (13 * x1)) + (4 + x4))).toNatClampNeg)), .ref 156, .int x3] (t, T, I, L, P) _
    refine hf_iload_n dX12_broadOf_27 rfl rfl ?_
    refine hf_callV (c := 12) (as := [.int (I 158 ((((53 + (13 * x1)) + (4 + x4))).toNatClampNeg)), .int x2]) ok_X12_hairsOf dX12_broadOf_28 hw1202 hw1203 hw1609 (hs.2.1 156 _ rfl) (by decide) (hf_lin hs 156 rfl) rfl (Nat.le_of_ble_eq_true rfl) rfl (Nat.le_of_ble_eq_true rfl) (Nat.zero_le _) (Nat.zero_le _) ?_
    show hf_G X Y_X12_hairsOf d _ _ 0 [some (.ref 156), some (.int (I 158 ((((53 + (13 * x1)) + (4 + x4))).toNatClampNeg))), some (.int x2)] [] (t, T, I, L, P) _
    refine hf_aload_n dX12_hairsOf_0 rfl rfl ?_
    refine hf_getr (b := 158) (c := 12) (j := 2) dX12_hairsOf_1 (hs.2.1 156 _ rfl) (hf_lin hs 156 rfl) (by decide) (by decide) hw1038 rfl (hs.2.2 156 2 _ rfl) ?_
    refine hf_bipush (v := 26) dX12_hairsOf_4 (by decide) ?_
    refine hf_iload_n dX12_hairsOf_6 rfl rfl ?_
    refine hf_iadd dX12_hairsOf_7 ?_
    refine hf_iald dX12_hairsOf_8 (hs.2.1 158 _ rfl) (hf_lin hs 158 rfl) h.1 ?_
    replace h := h.2
    refine hf_iload_n dX12_hairsOf_9 rfl rfl ?_
    refine hf_iconst (v := 2) dX12_hairsOf_10 (by decide) ?_
    refine hf_iadd dX12_hairsOf_11 ?_
    refine hf_imul dX12_hairsOf_12 ?_
    refine hf_iconst (v := 2) dX12_hairsOf_13 (by decide) ?_
    refine hf_idiv dX12_hairsOf_14 (by decide) ?_
    refine hf_ireturn dX12_hairsOf_15 rfl rfl ?_
    show hf_G X Y_X12_broadOf (d + 1) _ _ 31 [some (.ref 156), some (.int x1), some (.int x2), some (.int x3), some (.int x4)] [.int (((I 158 (((26 + (I 158 ((((53 + (13 * x1)) + (4 + x4))).toNatClampNeg)))).toNatClampNeg)) * (x2 + 2)) / 2), .int x3] (t, T, I, L, P) _
    refine hf_iadd dX12_broadOf_31 ?_
    refine hf_istore_n (l2 := [some (.ref 156), some (.int x1), some (.int x2), some (.int (x3 + (((I 158 (((26 + (I 158 ((((53 + (13 * x1)) + (4 + x4))).toNatClampNeg)))).toNatClampNeg)) * (x2 + 2)) / 2))), some (.int x4)]) dX12_broadOf_32 rfl (by decide) rfl ?_
    refine hf_iinc (v := (x4 + 1)) (l2 := [some (.ref 156), some (.int x1), some (.int x2), some (.int (x3 + (((I 158 (((26 + (I 158 ((((53 + (13 * x1)) + (4 + x4))).toNatClampNeg)))).toNatClampNeg)) * (x2 + 2)) / 2))), some (.int (x4 + 1))]) dX12_broadOf_33 (by decide) rfl rfl rfl ?_
    refine hf_goto (tgt := 5) dX12_broadOf_36 (by decide) ?_
    exact h

set_option maxHeartbeats 4000000 in
theorem w_X12_at_0 {X : hf_X} {d k n t : Nat} {T : hf_T} {I : hf_I} {L : hf_L} {P : hf_P} {Q : Option Value → hf_M → Prop} {x1 : Int32} {x2 : Int32} (hs : hf_Lay t T P) (h : (x1 < 0 → Q (some (.int (-1))) (t, T, I, L, P)) ∧ (¬ (x1 < 0) → (((I 158 316) - 1) < x1 → Q (some (.int (-1))) (t, T, I, L, P)) ∧ (¬ (((I 158 316) - 1) < x1) → (x2 = 0 → vp_in ((53 + (13 * x1)) + x2) 5929 ∧ (Q (some (.int (I 158 ((((53 + (13 * x1)) + x2)).toNatClampNeg)))) (t, T, I, L, P))) ∧ (x2 = 1 → vp_in ((53 + (13 * x1)) + x2) 5929 ∧ (Q (some (.int (I 158 ((((53 + (13 * x1)) + x2)).toNatClampNeg)))) (t, T, I, L, P))) ∧ (x2 = 2 → vp_in ((53 + (13 * x1)) + x2) 5929 ∧ (Q (some (.int (I 158 ((((53 + (13 * x1)) + x2)).toNatClampNeg)))) (t, T, I, L, P))) ∧ (x2 = 3 → vp_in ((53 + (13 * x1)) + x2) 5929 ∧ (Q (some (.int (I 158 ((((53 + (13 * x1)) + x2)).toNatClampNeg)))) (t, T, I, L, P))) ∧ (x2 = 4 → hf_G X Y_X12_broadOf (d + 1) 0 0 0 (hf_en [.ref 156, .int x1, .int (I 158 315)] 5) [] (t, T, I, L, P) (fun r M => hf_G X Y_X12_at (d + 2) k n 76 [none, none, none] (r.toList ++ []) M Q)) ∧ (x2 = 5 → vp_in ((53 + (13 * x1)) + 4) 5929 ∧ (Q (some (.int (I 158 ((((53 + (13 * x1)) + 4)).toNatClampNeg)))) (t, T, I, L, P))) ∧ (x2 = 6 → hf_G X Y_X12_losesOf (d + 1) 0 0 0 (hf_en [.ref 156, .int x1] 2) [] (t, T, I, L, P) (fun r M => hf_G X Y_X12_at (d + 2) k n 89 [none, none, none] (r.toList ++ []) M Q)) ∧ (x2 = 7 → hf_G X Y_X12_isBarred (d + 1) 0 0 0 (hf_en [.ref 156, .int x1, .int (I 158 315)] 3) [] (t, T, I, L, P) (fun r M => hf_G X Y_X12_at (d + 2) k n 103 [none, none, none] (r.toList ++ []) M Q)) ∧ (x2.toInt < 0 ∨ 7 < x2.toInt → Q (some (.int (-1))) (t, T, I, L, P))))) : hf_G X Y_X12_at (d + 2) k n 0 (hf_en [.ref 156, .int x1, .int x2] 3) [] (t, T, I, L, P) Q := by
  show hf_G X Y_X12_at (d + 2) k n 0 [some (.ref 156), some (.int x1), some (.int x2)] [] (t, T, I, L, P) Q
  refine hf_aload_n dX12_at_0 rfl rfl ?_
  refine hf_iload_n dX12_at_1 rfl rfl ?_
  refine hf_callV (c := 12) (as := [.int x1]) ok_X12_isWord dX12_at_2 hw1196 hw1197 hw1607 (hs.2.1 156 _ rfl) (by decide) (hf_lin hs 156 rfl) rfl (Nat.le_of_ble_eq_true rfl) rfl (Nat.le_of_ble_eq_true rfl) (Nat.zero_le _) (Nat.zero_le _) ?_
  show hf_G X Y_X12_isWord (d + 1) _ _ 0 [some (.ref 156), some (.int x1)] [] (t, T, I, L, P) _
  refine hf_iload_n dX12_isWord_0 rfl rfl ?_
  refine hf_iconst (v := 0) dX12_isWord_1 (by decide) ?_
  refine hf_aload_n dX12_isWord_2 rfl rfl ?_
  refine hf_getr (b := 158) (c := 12) (j := 2) dX12_isWord_3 (hs.2.1 156 _ rfl) (hf_lin hs 156 rfl) (by decide) (by decide) hw1038 rfl (hs.2.2 156 2 _ rfl) ?_
  refine hf_sipush (v := 316) dX12_isWord_6 (by decide) ?_
  refine hf_iald_k (j := 316) (by decide) dX12_isWord_9 (hs.2.1 158 _ rfl) (hf_lin hs 158 rfl) (hf_vin (by decide)) ?_
  refine hf_iconst (v := 1) dX12_isWord_10 (by decide) ?_
  refine hf_isub dX12_isWord_11 ?_
  refine hf_callS (as := [.int x1, .int 0, .int ((I 158 316) - 1)]) ok_X12_lies dX12_isWord_12 hw1143 hw1144 rfl (Nat.le_of_ble_eq_true rfl) rfl (Nat.le_of_ble_eq_true rfl) (Nat.zero_le _) (Nat.zero_le _) ?_
  show hf_G X Y_X12_lies d _ _ 0 [some (.int x1), some (.int 0), some (.int ((I 158 316) - 1))] [] (t, T, I, L, P) _
  refine hf_iload_n dX12_lies_0 rfl rfl ?_
  refine hf_iload_n dX12_lies_1 rfl rfl ?_
  refine hf_icmp_lt (tgt := 14) dX12_lies_2 (by decide) (fun hc => ?_) (fun hc => ?_)
  · replace h := h.1 hc
    refine hf_iconst (v := 0) dX12_lies_14 (by decide) ?_
    refine hf_ireturn dX12_lies_15 rfl (by decide) ?_
    show hf_G X Y_X12_isWord (d + 1) _ _ 15 [some (.ref 156), some (.int x1)] [.int 0] (t, T, I, L, P) _
    refine hf_ireturn dX12_isWord_15 rfl (by decide) ?_
    show hf_G X Y_X12_at (d + 2) _ _ 5 [some (.ref 156), some (.int x1), some (.int x2)] [.int 0] (t, T, I, L, P) _
    refine hf_if_ne (tgt := 10) dX12_at_5 (by decide) (fun hc => absurd (show ¬ (0 : Int32) = (0 : Int32) from hc) (by decide)) (fun _ => ?_)
    refine hf_iconst (v := (-1)) dX12_at_8 (by decide) ?_
    refine hf_ireturn dX12_at_9 rfl rfl ?_
    exact h
  · replace h := h.2 hc
    refine hf_iload_n dX12_lies_5 rfl rfl ?_
    refine hf_iload_n dX12_lies_6 rfl rfl ?_
    refine hf_icmp_gt (tgt := 14) dX12_lies_7 (by decide) (fun hc => ?_) (fun hc => ?_)
    · replace h := h.1 hc
      refine hf_iconst (v := 0) dX12_lies_14 (by decide) ?_
      refine hf_ireturn dX12_lies_15 rfl (by decide) ?_
      show hf_G X Y_X12_isWord (d + 1) _ _ 15 [some (.ref 156), some (.int x1)] [.int 0] (t, T, I, L, P) _
      refine hf_ireturn dX12_isWord_15 rfl (by decide) ?_
      show hf_G X Y_X12_at (d + 2) _ _ 5 [some (.ref 156), some (.int x1), some (.int x2)] [.int 0] (t, T, I, L, P) _
      refine hf_if_ne (tgt := 10) dX12_at_5 (by decide) (fun hc => absurd (show ¬ (0 : Int32) = (0 : Int32) from hc) (by decide)) (fun _ => ?_)
      refine hf_iconst (v := (-1)) dX12_at_8 (by decide) ?_
      refine hf_ireturn dX12_at_9 rfl rfl ?_
      exact h
    · replace h := h.2 hc
      refine hf_iconst (v := 1) dX12_lies_10 (by decide) ?_
      refine hf_goto (tgt := 15) dX12_lies_11 (by decide) ?_
      refine hf_ireturn dX12_lies_15 rfl (by decide) ?_
      show hf_G X Y_X12_isWord (d + 1) _ _ 15 [some (.ref 156), some (.int x1)] [.int 1] (t, T, I, L, P) _
      refine hf_ireturn dX12_isWord_15 rfl (by decide) ?_
      show hf_G X Y_X12_at (d + 2) _ _ 5 [some (.ref 156), some (.int x1), some (.int x2)] [.int 1] (t, T, I, L, P) _
      refine hf_if_ne (tgt := 10) dX12_at_5 (by decide) (fun _ => ?_) (fun hc => absurd (show (1 : Int32) = (0 : Int32) from hc) (by decide))
      refine hf_iload_n dX12_at_10 rfl rfl ?_
      rcases hf_swc x2 0 7 with hq | ⟨j, hj, hq⟩
      · refine hf_tableOut (tgt := 112) dX12_at_11 (by omega) (by decide) ?_
        replace h := h.2.2.2.2.2.2.2.2 (by omega)
        refine hf_iconst (v := (-1)) dX12_at_112 (by decide) ?_
        refine hf_ireturn dX12_at_113 rfl rfl ?_
        exact h
      · match j, hj with
        | 0, _ =>
          have hx : x2 = 0 := hf_swi hq (by decide)
          refine hf_tableIn (off := 45) (tgt := 56) dX12_at_11 (by rw [hx]; decide) (by rw [hx]; decide) (by rw [hx]; rfl) (by decide) ?_
          replace h := h.1 hx
          refine hf_aload_n dX12_at_56 rfl rfl ?_
          refine hf_iload_n dX12_at_57 rfl rfl ?_
          refine hf_iload_n dX12_at_58 rfl rfl ?_
          refine hf_callV (c := 12) (as := [.int x1, .int x2]) ok_X12_fact dX12_at_59 hw1189 hw1190 hw1606 (hs.2.1 156 _ rfl) (by decide) (hf_lin hs 156 rfl) rfl (Nat.le_of_ble_eq_true rfl) rfl (Nat.le_of_ble_eq_true rfl) (Nat.zero_le _) (Nat.zero_le _) ?_
          show hf_G X Y_X12_fact (d + 1) _ _ 0 [some (.ref 156), some (.int x1), some (.int x2)] [] (t, T, I, L, P) _
          refine hf_aload_n dX12_fact_0 rfl rfl ?_
          refine hf_getr (b := 158) (c := 12) (j := 2) dX12_fact_1 (hs.2.1 156 _ rfl) (hf_lin hs 156 rfl) (by decide) (by decide) hw1038 rfl (hs.2.2 156 2 _ rfl) ?_
          refine hf_bipush (v := 53) dX12_fact_4 (by decide) ?_
          refine hf_bipush (v := 13) dX12_fact_6 (by decide) ?_
          refine hf_iload_n dX12_fact_8 rfl rfl ?_
          refine hf_imul dX12_fact_9 ?_
          refine hf_iadd dX12_fact_10 ?_
          refine hf_iload_n dX12_fact_11 rfl rfl ?_
          refine hf_iadd dX12_fact_12 ?_
          refine hf_iald dX12_fact_13 (hs.2.1 158 _ rfl) (hf_lin hs 158 rfl) h.1 ?_
          replace h := h.2
          refine hf_ireturn dX12_fact_14 rfl rfl ?_
          show hf_G X Y_X12_at (d + 2) _ _ 62 [some (.ref 156), some (.int x1), some (.int x2)] [.int (I 158 ((((53 + (13 * x1)) + x2)).toNatClampNeg))] (t, T, I, L, P) _
          refine hf_ireturn dX12_at_62 rfl rfl ?_
          exact h
        | 1, _ =>
          have hx : x2 = 1 := hf_swi hq (by decide)
          refine hf_tableIn (off := 45) (tgt := 56) dX12_at_11 (by rw [hx]; decide) (by rw [hx]; decide) (by rw [hx]; rfl) (by decide) ?_
          replace h := h.2.1 hx
          refine hf_aload_n dX12_at_56 rfl rfl ?_
          refine hf_iload_n dX12_at_57 rfl rfl ?_
          refine hf_iload_n dX12_at_58 rfl rfl ?_
          refine hf_callV (c := 12) (as := [.int x1, .int x2]) ok_X12_fact dX12_at_59 hw1189 hw1190 hw1606 (hs.2.1 156 _ rfl) (by decide) (hf_lin hs 156 rfl) rfl (Nat.le_of_ble_eq_true rfl) rfl (Nat.le_of_ble_eq_true rfl) (Nat.zero_le _) (Nat.zero_le _) ?_
          show hf_G X Y_X12_fact (d + 1) _ _ 0 [some (.ref 156), some (.int x1), some (.int x2)] [] (t, T, I, L, P) _
          refine hf_aload_n dX12_fact_0 rfl rfl ?_
          refine hf_getr (b := 158) (c := 12) (j := 2) dX12_fact_1 (hs.2.1 156 _ rfl) (hf_lin hs 156 rfl) (by decide) (by decide) hw1038 rfl (hs.2.2 156 2 _ rfl) ?_
          refine hf_bipush (v := 53) dX12_fact_4 (by decide) ?_
          refine hf_bipush (v := 13) dX12_fact_6 (by decide) ?_
          refine hf_iload_n dX12_fact_8 rfl rfl ?_
          refine hf_imul dX12_fact_9 ?_
          refine hf_iadd dX12_fact_10 ?_
          refine hf_iload_n dX12_fact_11 rfl rfl ?_
          refine hf_iadd dX12_fact_12 ?_
          refine hf_iald dX12_fact_13 (hs.2.1 158 _ rfl) (hf_lin hs 158 rfl) h.1 ?_
          replace h := h.2
          refine hf_ireturn dX12_fact_14 rfl rfl ?_
          show hf_G X Y_X12_at (d + 2) _ _ 62 [some (.ref 156), some (.int x1), some (.int x2)] [.int (I 158 ((((53 + (13 * x1)) + x2)).toNatClampNeg))] (t, T, I, L, P) _
          refine hf_ireturn dX12_at_62 rfl rfl ?_
          exact h
        | 2, _ =>
          have hx : x2 = 2 := hf_swi hq (by decide)
          refine hf_tableIn (off := 45) (tgt := 56) dX12_at_11 (by rw [hx]; decide) (by rw [hx]; decide) (by rw [hx]; rfl) (by decide) ?_
          replace h := h.2.2.1 hx
          refine hf_aload_n dX12_at_56 rfl rfl ?_
          refine hf_iload_n dX12_at_57 rfl rfl ?_
          refine hf_iload_n dX12_at_58 rfl rfl ?_
          refine hf_callV (c := 12) (as := [.int x1, .int x2]) ok_X12_fact dX12_at_59 hw1189 hw1190 hw1606 (hs.2.1 156 _ rfl) (by decide) (hf_lin hs 156 rfl) rfl (Nat.le_of_ble_eq_true rfl) rfl (Nat.le_of_ble_eq_true rfl) (Nat.zero_le _) (Nat.zero_le _) ?_
          show hf_G X Y_X12_fact (d + 1) _ _ 0 [some (.ref 156), some (.int x1), some (.int x2)] [] (t, T, I, L, P) _
          refine hf_aload_n dX12_fact_0 rfl rfl ?_
          refine hf_getr (b := 158) (c := 12) (j := 2) dX12_fact_1 (hs.2.1 156 _ rfl) (hf_lin hs 156 rfl) (by decide) (by decide) hw1038 rfl (hs.2.2 156 2 _ rfl) ?_
          refine hf_bipush (v := 53) dX12_fact_4 (by decide) ?_
          refine hf_bipush (v := 13) dX12_fact_6 (by decide) ?_
          refine hf_iload_n dX12_fact_8 rfl rfl ?_
          refine hf_imul dX12_fact_9 ?_
          refine hf_iadd dX12_fact_10 ?_
          refine hf_iload_n dX12_fact_11 rfl rfl ?_
          refine hf_iadd dX12_fact_12 ?_
          refine hf_iald dX12_fact_13 (hs.2.1 158 _ rfl) (hf_lin hs 158 rfl) h.1 ?_
          replace h := h.2
          refine hf_ireturn dX12_fact_14 rfl rfl ?_
          show hf_G X Y_X12_at (d + 2) _ _ 62 [some (.ref 156), some (.int x1), some (.int x2)] [.int (I 158 ((((53 + (13 * x1)) + x2)).toNatClampNeg))] (t, T, I, L, P) _
          refine hf_ireturn dX12_at_62 rfl rfl ?_
          exact h
        | 3, _ =>
          have hx : x2 = 3 := hf_swi hq (by decide)
          refine hf_tableIn (off := 45) (tgt := 56) dX12_at_11 (by rw [hx]; decide) (by rw [hx]; decide) (by rw [hx]; rfl) (by decide) ?_
          replace h := h.2.2.2.1 hx
          refine hf_aload_n dX12_at_56 rfl rfl ?_
          refine hf_iload_n dX12_at_57 rfl rfl ?_
          refine hf_iload_n dX12_at_58 rfl rfl ?_
          refine hf_callV (c := 12) (as := [.int x1, .int x2]) ok_X12_fact dX12_at_59 hw1189 hw1190 hw1606 (hs.2.1 156 _ rfl) (by decide) (hf_lin hs 156 rfl) rfl (Nat.le_of_ble_eq_true rfl) rfl (Nat.le_of_ble_eq_true rfl) (Nat.zero_le _) (Nat.zero_le _) ?_
          show hf_G X Y_X12_fact (d + 1) _ _ 0 [some (.ref 156), some (.int x1), some (.int x2)] [] (t, T, I, L, P) _
          refine hf_aload_n dX12_fact_0 rfl rfl ?_
          refine hf_getr (b := 158) (c := 12) (j := 2) dX12_fact_1 (hs.2.1 156 _ rfl) (hf_lin hs 156 rfl) (by decide) (by decide) hw1038 rfl (hs.2.2 156 2 _ rfl) ?_
          refine hf_bipush (v := 53) dX12_fact_4 (by decide) ?_
          refine hf_bipush (v := 13) dX12_fact_6 (by decide) ?_
          refine hf_iload_n dX12_fact_8 rfl rfl ?_
          refine hf_imul dX12_fact_9 ?_
          refine hf_iadd dX12_fact_10 ?_
          refine hf_iload_n dX12_fact_11 rfl rfl ?_
          refine hf_iadd dX12_fact_12 ?_
          refine hf_iald dX12_fact_13 (hs.2.1 158 _ rfl) (hf_lin hs 158 rfl) h.1 ?_
          replace h := h.2
          refine hf_ireturn dX12_fact_14 rfl rfl ?_
          show hf_G X Y_X12_at (d + 2) _ _ 62 [some (.ref 156), some (.int x1), some (.int x2)] [.int (I 158 ((((53 + (13 * x1)) + x2)).toNatClampNeg))] (t, T, I, L, P) _
          refine hf_ireturn dX12_at_62 rfl rfl ?_
          exact h
        | 4, _ =>
          have hx : x2 = 4 := hf_swi hq (by decide)
          refine hf_tableIn (off := 52) (tgt := 63) dX12_at_11 (by rw [hx]; decide) (by rw [hx]; decide) (by rw [hx]; rfl) (by decide) ?_
          replace h := h.2.2.2.2.1 hx
          refine hf_aload_n dX12_at_63 rfl rfl ?_
          refine hf_iload_n dX12_at_64 rfl rfl ?_
          refine hf_aload_n dX12_at_65 rfl rfl ?_
          refine hf_getr (b := 158) (c := 12) (j := 2) dX12_at_66 (hs.2.1 156 _ rfl) (hf_lin hs 156 rfl) (by decide) (by decide) hw1038 rfl (hs.2.2 156 2 _ rfl) ?_
          refine hf_sipush (v := 315) dX12_at_69 (by decide) ?_
          refine hf_iald_k (j := 315) (by decide) dX12_at_72 (hs.2.1 158 _ rfl) (hf_lin hs 158 rfl) (hf_vin (by decide)) ?_
          exact hf_callV (c := 12) (as := [.int x1, .int (I 158 315)]) ok_X12_broadOf dX12_at_73 hw1199 hw1200 hw1608 (hs.2.1 156 _ rfl) (by decide) (hf_lin hs 156 rfl) rfl (Nat.le_of_ble_eq_true rfl) rfl (Nat.le_of_ble_eq_true rfl) (Nat.zero_le _) (Nat.zero_le _) (hf_mono (fun r M q => hf_drop (l' := [none, none, none]) (by simp [hf_sub]) q) h)
        | 5, _ =>
          have hx : x2 = 5 := hf_swi hq (by decide)
          refine hf_tableIn (off := 66) (tgt := 77) dX12_at_11 (by rw [hx]; decide) (by rw [hx]; decide) (by rw [hx]; rfl) (by decide) ?_
          replace h := h.2.2.2.2.2.1 hx
          refine hf_aload_n dX12_at_77 rfl rfl ?_
          refine hf_iload_n dX12_at_78 rfl rfl ?_
          refine hf_iconst (v := 4) dX12_at_79 (by decide) ?_
          refine hf_callV (c := 12) (as := [.int x1, .int 4]) ok_X12_fact dX12_at_80 hw1189 hw1190 hw1606 (hs.2.1 156 _ rfl) (by decide) (hf_lin hs 156 rfl) rfl (Nat.le_of_ble_eq_true rfl) rfl (Nat.le_of_ble_eq_true rfl) (Nat.zero_le _) (Nat.zero_le _) ?_
          show hf_G X Y_X12_fact (d + 1) _ _ 0 [some (.ref 156), some (.int x1), some (.int 4)] [] (t, T, I, L, P) _
          refine hf_aload_n dX12_fact_0 rfl rfl ?_
          refine hf_getr (b := 158) (c := 12) (j := 2) dX12_fact_1 (hs.2.1 156 _ rfl) (hf_lin hs 156 rfl) (by decide) (by decide) hw1038 rfl (hs.2.2 156 2 _ rfl) ?_
          refine hf_bipush (v := 53) dX12_fact_4 (by decide) ?_
          refine hf_bipush (v := 13) dX12_fact_6 (by decide) ?_
          refine hf_iload_n dX12_fact_8 rfl rfl ?_
          refine hf_imul dX12_fact_9 ?_
          refine hf_iadd dX12_fact_10 ?_
          refine hf_iload_n dX12_fact_11 rfl rfl ?_
          refine hf_iadd dX12_fact_12 ?_
          refine hf_iald dX12_fact_13 (hs.2.1 158 _ rfl) (hf_lin hs 158 rfl) h.1 ?_
          replace h := h.2
          refine hf_ireturn dX12_fact_14 rfl rfl ?_
          show hf_G X Y_X12_at (d + 2) _ _ 83 [some (.ref 156), some (.int x1), some (.int x2)] [.int (I 158 ((((53 + (13 * x1)) + 4)).toNatClampNeg))] (t, T, I, L, P) _
          refine hf_ireturn dX12_at_83 rfl rfl ?_
          exact h
        | 6, _ =>
          have hx : x2 = 6 := hf_swi hq (by decide)
          refine hf_tableIn (off := 73) (tgt := 84) dX12_at_11 (by rw [hx]; decide) (by rw [hx]; decide) (by rw [hx]; rfl) (by decide) ?_
          replace h := h.2.2.2.2.2.2.1 hx
          refine hf_aload_n dX12_at_84 rfl rfl ?_
          refine hf_iload_n dX12_at_85 rfl rfl ?_
          exact hf_callV (c := 12) (as := [.int x1]) ok_X12_losesOf dX12_at_86 hw1205 hw1206 hw1610 (hs.2.1 156 _ rfl) (by decide) (hf_lin hs 156 rfl) rfl (Nat.le_of_ble_eq_true rfl) rfl (Nat.le_of_ble_eq_true rfl) (Nat.zero_le _) (Nat.zero_le _) (hf_mono (fun r M q => hf_drop (l' := [none, none, none]) (by simp [hf_sub]) q) h)
        | 7, _ =>
          have hx : x2 = 7 := hf_swi hq (by decide)
          refine hf_tableIn (off := 79) (tgt := 90) dX12_at_11 (by rw [hx]; decide) (by rw [hx]; decide) (by rw [hx]; rfl) (by decide) ?_
          replace h := h.2.2.2.2.2.2.2.1 hx
          refine hf_aload_n dX12_at_90 rfl rfl ?_
          refine hf_iload_n dX12_at_91 rfl rfl ?_
          refine hf_aload_n dX12_at_92 rfl rfl ?_
          refine hf_getr (b := 158) (c := 12) (j := 2) dX12_at_93 (hs.2.1 156 _ rfl) (hf_lin hs 156 rfl) (by decide) (by decide) hw1038 rfl (hs.2.2 156 2 _ rfl) ?_
          refine hf_sipush (v := 315) dX12_at_96 (by decide) ?_
          refine hf_iald_k (j := 315) (by decide) dX12_at_99 (hs.2.1 158 _ rfl) (hf_lin hs 158 rfl) (hf_vin (by decide)) ?_
          exact hf_callV (c := 12) (as := [.int x1, .int (I 158 315)]) ok_X12_isBarred dX12_at_100 hw1256 hw1257 hw1625 (hs.2.1 156 _ rfl) (by decide) (hf_lin hs 156 rfl) rfl (Nat.le_of_ble_eq_true rfl) rfl (Nat.le_of_ble_eq_true rfl) (Nat.zero_le _) (Nat.zero_le _) (hf_mono (fun r M q => hf_drop (l' := [none, none, none]) (by simp [hf_sub]) q) h)
        | j + 8, hj => exact absurd hj (by omega)

set_option maxHeartbeats 4000000 in
theorem w_X12_at_76 {X : hf_X} {d k n t : Nat} {T : hf_T} {I : hf_I} {L : hf_L} {P : hf_P} {Q : Option Value → hf_M → Prop} {s0 : Int32} (hs : hf_Lay t T P) (h : Q (some (.int s0)) (t, T, I, L, P)) : hf_G X Y_X12_at d k n 76 [none, none, none] [.int s0] (t, T, I, L, P) Q := by
  refine hf_ireturn dX12_at_76 rfl rfl ?_
  exact h

set_option maxHeartbeats 4000000 in
theorem w_X12_at_89 {X : hf_X} {d k n t : Nat} {T : hf_T} {I : hf_I} {L : hf_L} {P : hf_P} {Q : Option Value → hf_M → Prop} {s0 : Int32} (hs : hf_Lay t T P) (h : Q (some (.int s0)) (t, T, I, L, P)) : hf_G X Y_X12_at d k n 89 [none, none, none] [.int s0] (t, T, I, L, P) Q := by
  refine hf_ireturn dX12_at_89 rfl rfl ?_
  exact h

set_option maxHeartbeats 4000000 in
theorem w_X12_at_103 {X : hf_X} {d k n t : Nat} {T : hf_T} {I : hf_I} {L : hf_L} {P : hf_P} {Q : Option Value → hf_M → Prop} {s0 : Int32} (hs : hf_Lay t T P) (h : (s0 = 0 → Q (some (.int 0)) (t, T, I, L, P)) ∧ (¬ (s0 = 0) → Q (some (.int 1)) (t, T, I, L, P))) : hf_G X Y_X12_at d k n 103 [none, none, none] [.int s0] (t, T, I, L, P) Q := by
  refine hf_if_eq (tgt := 110) dX12_at_103 (by decide) (fun hc => ?_) (fun hc => ?_)
  · replace h := h.1 hc
    refine hf_iconst (v := 0) dX12_at_110 (by decide) ?_
    refine hf_ireturn dX12_at_111 rfl rfl ?_
    exact h
  · replace h := h.2 hc
    refine hf_iconst (v := 1) dX12_at_106 (by decide) ?_
    refine hf_goto (tgt := 111) dX12_at_107 (by decide) ?_
    refine hf_ireturn dX12_at_111 rfl rfl ?_
    exact h

set_option maxHeartbeats 4000000 in
theorem w_X12_say_0 {X : hf_X} {d k n t : Nat} {T : hf_T} {I : hf_I} {L : hf_L} {P : hf_P} {Q : Option Value → hf_M → Prop} {x1 : Int32} (hs : hf_Lay t T P) (h : (x1 < 0 → Q (some (.int (-1))) (t, T, (hf_up (hf_up I 156 0 (-1)) 157 1 ((I 157 1) + 1)), L, P)) ∧ (¬ (x1 < 0) → (7 < x1 → Q (some (.int (-1))) (t, T, (hf_up (hf_up I 156 0 (-1)) 157 1 ((I 157 1) + 1)), L, P)) ∧ (¬ (7 < x1) → (¬ (I 158 317) = 6 → vp_in (269 + (I 158 317)) 5929 ∧ (Q (some (.int ((I 158 317) + 1))) (t, T, (hf_up (hf_up (hf_up I 158 (((269 + (I 158 317))).toNatClampNeg) x1) 158 317 (((hf_up I 158 (((269 + (I 158 317))).toNatClampNeg) x1) 158 317) + 1)) 156 0 0), L, P))) ∧ ((I 158 317) = 6 → Q (some (.int (-5))) (t, T, (hf_up (hf_up I 156 0 (-5)) 157 5 ((I 157 5) + 1)), L, P))))) : hf_G X Y_X12_say (d + 1) k n 0 (hf_en [.ref 156, .int x1] 3) [] (t, T, I, L, P) Q := by
  show hf_G X Y_X12_say (d + 1) k n 0 [some (.ref 156), some (.int x1), none] [] (t, T, I, L, P) Q
  refine hf_iload_n dX12_say_0 rfl rfl ?_
  refine hf_iconst (v := 0) dX12_say_1 (by decide) ?_
  refine hf_bipush (v := 7) dX12_say_2 (by decide) ?_
  refine hf_callS (as := [.int x1, .int 0, .int 7]) ok_X12_lies dX12_say_4 hw1143 hw1144 rfl (Nat.le_of_ble_eq_true rfl) rfl (Nat.le_of_ble_eq_true rfl) (Nat.zero_le _) (Nat.zero_le _) ?_
  show hf_G X Y_X12_lies d _ _ 0 [some (.int x1), some (.int 0), some (.int 7)] [] (t, T, I, L, P) _
  refine hf_iload_n dX12_lies_0 rfl rfl ?_
  refine hf_iload_n dX12_lies_1 rfl rfl ?_
  refine hf_icmp_lt (tgt := 14) dX12_lies_2 (by decide) (fun hc => ?_) (fun hc => ?_)
  · replace h := h.1 hc
    refine hf_iconst (v := 0) dX12_lies_14 (by decide) ?_
    refine hf_ireturn dX12_lies_15 rfl (by decide) ?_
    show hf_G X Y_X12_say (d + 1) _ _ 7 [some (.ref 156), some (.int x1), none] [.int 0] (t, T, I, L, P) _
    refine hf_if_ne (tgt := 16) dX12_say_7 (by decide) (fun hc => absurd (show ¬ (0 : Int32) = (0 : Int32) from hc) (by decide)) (fun _ => ?_)
    refine hf_aload_n dX12_say_10 rfl rfl ?_
    refine hf_iconst (v := (-1)) dX12_say_11 (by decide) ?_
    refine hf_callV (c := 12) (as := [.int (-1)]) ok_X12_refuses dX12_say_12 hw1146 hw1147 hw1601 (hs.2.1 156 _ rfl) (by decide) (hf_lin hs 156 rfl) rfl (Nat.le_of_ble_eq_true rfl) rfl (Nat.le_of_ble_eq_true rfl) (Nat.zero_le _) (Nat.zero_le _) ?_
    show hf_G X Y_X12_refuses d _ _ 0 [some (.ref 156), some (.int (-1))] [] (t, T, I, L, P) _
    refine hf_aload_n dX12_refuses_0 rfl rfl ?_
    refine hf_iload_n dX12_refuses_1 rfl rfl ?_
    refine hf_puti (c := 12) (j := 0) dX12_refuses_2 (hs.2.1 156 _ rfl) (hf_lin hs 156 rfl) (by decide) (by decide) hw1036 rfl rfl ?_
    refine hf_aload_n dX12_refuses_5 rfl rfl ?_
    refine hf_getr (b := 157) (c := 12) (j := 1) dX12_refuses_6 (hs.2.1 156 _ rfl) (hf_lin hs 156 rfl) (by decide) (by decide) hw1037 rfl (hs.2.2 156 1 _ rfl) ?_
    refine hf_iload_n dX12_refuses_9 rfl rfl ?_
    refine hf_ineg dX12_refuses_10 ?_
    rw [show (-(-1) : Int32) = 1 by decide]
    refine hf_dup2 dX12_refuses_11 rfl rfl ?_
    refine hf_iald_k (j := 1) (by decide) dX12_refuses_12 (hs.2.1 157 _ rfl) (hf_lin hs 157 rfl) (hf_vin (by decide)) ?_
    refine hf_iconst (v := 1) dX12_refuses_13 (by decide) ?_
    refine hf_iadd dX12_refuses_14 ?_
    refine hf_iast_k (j := 1) (by decide) dX12_refuses_15 (hs.2.1 157 _ rfl) (hf_lin hs 157 rfl) (hf_vin (by decide)) ?_
    refine hf_iload_n dX12_refuses_16 rfl rfl ?_
    refine hf_ireturn dX12_refuses_17 rfl rfl ?_
    show hf_G X Y_X12_say (d + 1) _ _ 15 [some (.ref 156), some (.int x1), none] [.int (-1)] (t, T, (hf_up (hf_up I 156 0 (-1)) 157 1 ((I 157 1) + 1)), L, P) _
    refine hf_ireturn dX12_say_15 rfl rfl ?_
    exact h
  · replace h := h.2 hc
    refine hf_iload_n dX12_lies_5 rfl rfl ?_
    refine hf_iload_n dX12_lies_6 rfl rfl ?_
    refine hf_icmp_gt (tgt := 14) dX12_lies_7 (by decide) (fun hc => ?_) (fun hc => ?_)
    · replace h := h.1 hc
      refine hf_iconst (v := 0) dX12_lies_14 (by decide) ?_
      refine hf_ireturn dX12_lies_15 rfl (by decide) ?_
      show hf_G X Y_X12_say (d + 1) _ _ 7 [some (.ref 156), some (.int x1), none] [.int 0] (t, T, I, L, P) _
      refine hf_if_ne (tgt := 16) dX12_say_7 (by decide) (fun hc => absurd (show ¬ (0 : Int32) = (0 : Int32) from hc) (by decide)) (fun _ => ?_)
      refine hf_aload_n dX12_say_10 rfl rfl ?_
      refine hf_iconst (v := (-1)) dX12_say_11 (by decide) ?_
      refine hf_callV (c := 12) (as := [.int (-1)]) ok_X12_refuses dX12_say_12 hw1146 hw1147 hw1601 (hs.2.1 156 _ rfl) (by decide) (hf_lin hs 156 rfl) rfl (Nat.le_of_ble_eq_true rfl) rfl (Nat.le_of_ble_eq_true rfl) (Nat.zero_le _) (Nat.zero_le _) ?_
      show hf_G X Y_X12_refuses d _ _ 0 [some (.ref 156), some (.int (-1))] [] (t, T, I, L, P) _
      refine hf_aload_n dX12_refuses_0 rfl rfl ?_
      refine hf_iload_n dX12_refuses_1 rfl rfl ?_
      refine hf_puti (c := 12) (j := 0) dX12_refuses_2 (hs.2.1 156 _ rfl) (hf_lin hs 156 rfl) (by decide) (by decide) hw1036 rfl rfl ?_
      refine hf_aload_n dX12_refuses_5 rfl rfl ?_
      refine hf_getr (b := 157) (c := 12) (j := 1) dX12_refuses_6 (hs.2.1 156 _ rfl) (hf_lin hs 156 rfl) (by decide) (by decide) hw1037 rfl (hs.2.2 156 1 _ rfl) ?_
      refine hf_iload_n dX12_refuses_9 rfl rfl ?_
      refine hf_ineg dX12_refuses_10 ?_
      rw [show (-(-1) : Int32) = 1 by decide]
      refine hf_dup2 dX12_refuses_11 rfl rfl ?_
      refine hf_iald_k (j := 1) (by decide) dX12_refuses_12 (hs.2.1 157 _ rfl) (hf_lin hs 157 rfl) (hf_vin (by decide)) ?_
      refine hf_iconst (v := 1) dX12_refuses_13 (by decide) ?_
      refine hf_iadd dX12_refuses_14 ?_
      refine hf_iast_k (j := 1) (by decide) dX12_refuses_15 (hs.2.1 157 _ rfl) (hf_lin hs 157 rfl) (hf_vin (by decide)) ?_
      refine hf_iload_n dX12_refuses_16 rfl rfl ?_
      refine hf_ireturn dX12_refuses_17 rfl rfl ?_
      show hf_G X Y_X12_say (d + 1) _ _ 15 [some (.ref 156), some (.int x1), none] [.int (-1)] (t, T, (hf_up (hf_up I 156 0 (-1)) 157 1 ((I 157 1) + 1)), L, P) _
      refine hf_ireturn dX12_say_15 rfl rfl ?_
      exact h
    · replace h := h.2 hc
      refine hf_iconst (v := 1) dX12_lies_10 (by decide) ?_
      refine hf_goto (tgt := 15) dX12_lies_11 (by decide) ?_
      refine hf_ireturn dX12_lies_15 rfl (by decide) ?_
      show hf_G X Y_X12_say (d + 1) _ _ 7 [some (.ref 156), some (.int x1), none] [.int 1] (t, T, I, L, P) _
      refine hf_if_ne (tgt := 16) dX12_say_7 (by decide) (fun _ => ?_) (fun hc => absurd (show (1 : Int32) = (0 : Int32) from hc) (by decide))
      refine hf_aload_n dX12_say_16 rfl rfl ?_
      refine hf_getr (b := 158) (c := 12) (j := 2) dX12_say_17 (hs.2.1 156 _ rfl) (hf_lin hs 156 rfl) (by decide) (by decide) hw1038 rfl (hs.2.2 156 2 _ rfl) ?_
      refine hf_sipush (v := 317) dX12_say_20 (by decide) ?_
      refine hf_iald_k (j := 317) (by decide) dX12_say_23 (hs.2.1 158 _ rfl) (hf_lin hs 158 rfl) (hf_vin (by decide)) ?_
      refine hf_istore_n (l2 := [some (.ref 156), some (.int x1), some (.int (I 158 317))]) dX12_say_24 rfl (by decide) rfl ?_
      refine hf_iload_n dX12_say_25 rfl rfl ?_
      refine hf_bipush (v := 6) dX12_say_26 (by decide) ?_
      refine hf_icmp_ne (tgt := 38) dX12_say_28 (by decide) (fun hc => ?_) (fun hc => ?_)
      · replace h := h.1 hc
        refine hf_aload_n dX12_say_38 rfl rfl ?_
        refine hf_getr (b := 158) (c := 12) (j := 2) dX12_say_39 (hs.2.1 156 _ rfl) (hf_lin hs 156 rfl) (by decide) (by decide) hw1038 rfl (hs.2.2 156 2 _ rfl) ?_
        refine hf_sipush (v := 269) dX12_say_42 (by decide) ?_
        refine hf_iload_n dX12_say_45 rfl rfl ?_
        refine hf_iadd dX12_say_46 ?_
        refine hf_iload_n dX12_say_47 rfl rfl ?_
        refine hf_iast dX12_say_48 (hs.2.1 158 _ rfl) (hf_lin hs 158 rfl) h.1 ?_
        replace h := h.2
        refine hf_aload_n dX12_say_49 rfl rfl ?_
        refine hf_getr (b := 158) (c := 12) (j := 2) dX12_say_50 (hs.2.1 156 _ rfl) (hf_lin hs 156 rfl) (by decide) (by decide) hw1038 rfl (hs.2.2 156 2 _ rfl) ?_
        refine hf_sipush (v := 317) dX12_say_53 (by decide) ?_
        refine hf_dup2 dX12_say_56 rfl rfl ?_
        refine hf_iald_k (j := 317) (by decide) dX12_say_57 (hs.2.1 158 _ rfl) (hf_lin hs 158 rfl) (hf_vin (by decide)) ?_
        refine hf_iconst (v := 1) dX12_say_58 (by decide) ?_
        refine hf_iadd dX12_say_59 ?_
        refine hf_iast_k (j := 317) (by decide) dX12_say_60 (hs.2.1 158 _ rfl) (hf_lin hs 158 rfl) (hf_vin (by decide)) ?_
        refine hf_aload_n dX12_say_61 rfl rfl ?_
        refine hf_iload_n dX12_say_62 rfl rfl ?_
        refine hf_iconst (v := 1) dX12_say_63 (by decide) ?_
        refine hf_iadd dX12_say_64 ?_
        refine hf_callV (c := 12) (as := [.int ((I 158 317) + 1)]) ok_X12_good dX12_say_65 hw1149 hw1150 hw1602 (hs.2.1 156 _ rfl) (by decide) (hf_lin hs 156 rfl) rfl (Nat.le_of_ble_eq_true rfl) rfl (Nat.le_of_ble_eq_true rfl) (Nat.zero_le _) (Nat.zero_le _) ?_
        show hf_G X Y_X12_good d _ _ 0 [some (.ref 156), some (.int ((I 158 317) + 1))] [] (t, T, (hf_up (hf_up I 158 (((269 + (I 158 317))).toNatClampNeg) x1) 158 317 (((hf_up I 158 (((269 + (I 158 317))).toNatClampNeg) x1) 158 317) + 1)), L, P) _
        refine hf_aload_n dX12_good_0 rfl rfl ?_
        refine hf_iconst (v := 0) dX12_good_1 (by decide) ?_
        refine hf_puti (c := 12) (j := 0) dX12_good_2 (hs.2.1 156 _ rfl) (hf_lin hs 156 rfl) (by decide) (by decide) hw1036 rfl rfl ?_
        refine hf_iload_n dX12_good_5 rfl rfl ?_
        refine hf_ireturn dX12_good_6 rfl rfl ?_
        show hf_G X Y_X12_say (d + 1) _ _ 68 [some (.ref 156), some (.int x1), some (.int (I 158 317))] [.int ((I 158 317) + 1)] (t, T, (hf_up (hf_up (hf_up I 158 (((269 + (I 158 317))).toNatClampNeg) x1) 158 317 (((hf_up I 158 (((269 + (I 158 317))).toNatClampNeg) x1) 158 317) + 1)) 156 0 0), L, P) _
        refine hf_ireturn dX12_say_68 rfl rfl ?_
        exact h
      · replace h := h.2 hc
        refine hf_aload_n dX12_say_31 rfl rfl ?_
        refine hf_bipush (v := (-5)) dX12_say_32 (by decide) ?_
        refine hf_callV (c := 12) (as := [.int (-5)]) ok_X12_refuses dX12_say_34 hw1146 hw1147 hw1601 (hs.2.1 156 _ rfl) (by decide) (hf_lin hs 156 rfl) rfl (Nat.le_of_ble_eq_true rfl) rfl (Nat.le_of_ble_eq_true rfl) (Nat.zero_le _) (Nat.zero_le _) ?_
        show hf_G X Y_X12_refuses d _ _ 0 [some (.ref 156), some (.int (-5))] [] (t, T, I, L, P) _
        refine hf_aload_n dX12_refuses_0 rfl rfl ?_
        refine hf_iload_n dX12_refuses_1 rfl rfl ?_
        refine hf_puti (c := 12) (j := 0) dX12_refuses_2 (hs.2.1 156 _ rfl) (hf_lin hs 156 rfl) (by decide) (by decide) hw1036 rfl rfl ?_
        refine hf_aload_n dX12_refuses_5 rfl rfl ?_
        refine hf_getr (b := 157) (c := 12) (j := 1) dX12_refuses_6 (hs.2.1 156 _ rfl) (hf_lin hs 156 rfl) (by decide) (by decide) hw1037 rfl (hs.2.2 156 1 _ rfl) ?_
        refine hf_iload_n dX12_refuses_9 rfl rfl ?_
        refine hf_ineg dX12_refuses_10 ?_
        rw [show (-(-5) : Int32) = 5 by decide]
        refine hf_dup2 dX12_refuses_11 rfl rfl ?_
        refine hf_iald_k (j := 5) (by decide) dX12_refuses_12 (hs.2.1 157 _ rfl) (hf_lin hs 157 rfl) (hf_vin (by decide)) ?_
        refine hf_iconst (v := 1) dX12_refuses_13 (by decide) ?_
        refine hf_iadd dX12_refuses_14 ?_
        refine hf_iast_k (j := 5) (by decide) dX12_refuses_15 (hs.2.1 157 _ rfl) (hf_lin hs 157 rfl) (hf_vin (by decide)) ?_
        refine hf_iload_n dX12_refuses_16 rfl rfl ?_
        refine hf_ireturn dX12_refuses_17 rfl rfl ?_
        show hf_G X Y_X12_say (d + 1) _ _ 37 [some (.ref 156), some (.int x1), some (.int (I 158 317))] [.int (-5)] (t, T, (hf_up (hf_up I 156 0 (-5)) 157 5 ((I 157 5) + 1)), L, P) _
        refine hf_ireturn dX12_say_37 rfl rfl ?_
        exact h

set_option maxHeartbeats 4000000 in
theorem w_X12_hush_0 {X : hf_X} {d k n t : Nat} {T : hf_T} {I : hf_I} {L : hf_L} {P : hf_P} {Q : Option Value → hf_M → Prop}  (hs : hf_Lay t T P) (h : Q (some (.int (I 158 317))) (t, T, (hf_up I 158 317 0), L, P)) : hf_G X Y_X12_hush d k n 0 (hf_en [.ref 156] 2) [] (t, T, I, L, P) Q := by
  show hf_G X Y_X12_hush d k n 0 [some (.ref 156), none] [] (t, T, I, L, P) Q
  refine hf_aload_n dX12_hush_0 rfl rfl ?_
  refine hf_getr (b := 158) (c := 12) (j := 2) dX12_hush_1 (hs.2.1 156 _ rfl) (hf_lin hs 156 rfl) (by decide) (by decide) hw1038 rfl (hs.2.2 156 2 _ rfl) ?_
  refine hf_sipush (v := 317) dX12_hush_4 (by decide) ?_
  refine hf_iald_k (j := 317) (by decide) dX12_hush_7 (hs.2.1 158 _ rfl) (hf_lin hs 158 rfl) (hf_vin (by decide)) ?_
  refine hf_istore_n (l2 := [some (.ref 156), some (.int (I 158 317))]) dX12_hush_8 rfl (by decide) rfl ?_
  refine hf_aload_n dX12_hush_9 rfl rfl ?_
  refine hf_getr (b := 158) (c := 12) (j := 2) dX12_hush_10 (hs.2.1 156 _ rfl) (hf_lin hs 156 rfl) (by decide) (by decide) hw1038 rfl (hs.2.2 156 2 _ rfl) ?_
  refine hf_sipush (v := 317) dX12_hush_13 (by decide) ?_
  refine hf_iconst (v := 0) dX12_hush_16 (by decide) ?_
  refine hf_iast_k (j := 317) (by decide) dX12_hush_17 (hs.2.1 158 _ rfl) (hf_lin hs 158 rfl) (hf_vin (by decide)) ?_
  refine hf_iload_n dX12_hush_18 rfl rfl ?_
  refine hf_ireturn dX12_hush_19 rfl rfl ?_
  exact h

set_option maxHeartbeats 4000000 in
theorem w_X12_beside_0 {X : hf_X} {d k n t : Nat} {T : hf_T} {I : hf_I} {L : hf_L} {P : hf_P} {Q : Option Value → hf_M → Prop} {x1 : Int32} {x2 : Int32} (hs : hf_Lay t T P) (h : (x1 < 0 → Q (some (.int (-1))) (t, T, (hf_up (hf_up I 156 0 (-1)) 157 1 ((I 157 1) + 1)), L, P)) ∧ (¬ (x1 < 0) → (3 < x1 → Q (some (.int (-1))) (t, T, (hf_up (hf_up I 156 0 (-1)) 157 1 ((I 157 1) + 1)), L, P)) ∧ (¬ (3 < x1) → (x2 = (-1) → vp_in (275 + x1) 5929 ∧ (vp_in (275 + x1) 5929 ∧ (Q (some (.int (I 158 (((275 + x1)).toNatClampNeg)))) (t, T, (hf_up (hf_up I 158 (((275 + x1)).toNatClampNeg) x2) 156 0 0), L, P)))) ∧ (¬ (x2 = (-1)) → (x2 < 0 → Q (some (.int (-2))) (t, T, (hf_up (hf_up I 156 0 (-2)) 157 2 ((I 157 2) + 1)), L, P)) ∧ (¬ (x2 < 0) → (((I 158 316) - 1) < x2 → Q (some (.int (-2))) (t, T, (hf_up (hf_up I 156 0 (-2)) 157 2 ((I 157 2) + 1)), L, P)) ∧ (¬ (((I 158 316) - 1) < x2) → vp_in (275 + x1) 5929 ∧ (vp_in (275 + x1) 5929 ∧ (Q (some (.int (I 158 (((275 + x1)).toNatClampNeg)))) (t, T, (hf_up (hf_up I 158 (((275 + x1)).toNatClampNeg) x2) 156 0 0), L, P))))))))) : hf_G X Y_X12_beside (d + 2) k n 0 (hf_en [.ref 156, .int x1, .int x2] 4) [] (t, T, I, L, P) Q := by
  show hf_G X Y_X12_beside (d + 2) k n 0 [some (.ref 156), some (.int x1), some (.int x2), none] [] (t, T, I, L, P) Q
  refine hf_iload_n dX12_beside_0 rfl rfl ?_
  refine hf_iconst (v := 0) dX12_beside_1 (by decide) ?_
  refine hf_iconst (v := 3) dX12_beside_2 (by decide) ?_
  refine hf_callS (as := [.int x1, .int 0, .int 3]) ok_X12_lies dX12_beside_3 hw1143 hw1144 rfl (Nat.le_of_ble_eq_true rfl) rfl (Nat.le_of_ble_eq_true rfl) (Nat.zero_le _) (Nat.zero_le _) ?_
  show hf_G X Y_X12_lies (d + 1) _ _ 0 [some (.int x1), some (.int 0), some (.int 3)] [] (t, T, I, L, P) _
  refine hf_iload_n dX12_lies_0 rfl rfl ?_
  refine hf_iload_n dX12_lies_1 rfl rfl ?_
  refine hf_icmp_lt (tgt := 14) dX12_lies_2 (by decide) (fun hc => ?_) (fun hc => ?_)
  · replace h := h.1 hc
    refine hf_iconst (v := 0) dX12_lies_14 (by decide) ?_
    refine hf_ireturn dX12_lies_15 rfl (by decide) ?_
    show hf_G X Y_X12_beside (d + 2) _ _ 6 [some (.ref 156), some (.int x1), some (.int x2), none] [.int 0] (t, T, I, L, P) _
    refine hf_if_ne (tgt := 15) dX12_beside_6 (by decide) (fun hc => absurd (show ¬ (0 : Int32) = (0 : Int32) from hc) (by decide)) (fun _ => ?_)
    refine hf_aload_n dX12_beside_9 rfl rfl ?_
    refine hf_iconst (v := (-1)) dX12_beside_10 (by decide) ?_
    refine hf_callV (c := 12) (as := [.int (-1)]) ok_X12_refuses dX12_beside_11 hw1146 hw1147 hw1601 (hs.2.1 156 _ rfl) (by decide) (hf_lin hs 156 rfl) rfl (Nat.le_of_ble_eq_true rfl) rfl (Nat.le_of_ble_eq_true rfl) (Nat.zero_le _) (Nat.zero_le _) ?_
    show hf_G X Y_X12_refuses (d + 1) _ _ 0 [some (.ref 156), some (.int (-1))] [] (t, T, I, L, P) _
    refine hf_aload_n dX12_refuses_0 rfl rfl ?_
    refine hf_iload_n dX12_refuses_1 rfl rfl ?_
    refine hf_puti (c := 12) (j := 0) dX12_refuses_2 (hs.2.1 156 _ rfl) (hf_lin hs 156 rfl) (by decide) (by decide) hw1036 rfl rfl ?_
    refine hf_aload_n dX12_refuses_5 rfl rfl ?_
    refine hf_getr (b := 157) (c := 12) (j := 1) dX12_refuses_6 (hs.2.1 156 _ rfl) (hf_lin hs 156 rfl) (by decide) (by decide) hw1037 rfl (hs.2.2 156 1 _ rfl) ?_
    refine hf_iload_n dX12_refuses_9 rfl rfl ?_
    refine hf_ineg dX12_refuses_10 ?_
    rw [show (-(-1) : Int32) = 1 by decide]
    refine hf_dup2 dX12_refuses_11 rfl rfl ?_
    refine hf_iald_k (j := 1) (by decide) dX12_refuses_12 (hs.2.1 157 _ rfl) (hf_lin hs 157 rfl) (hf_vin (by decide)) ?_
    refine hf_iconst (v := 1) dX12_refuses_13 (by decide) ?_
    refine hf_iadd dX12_refuses_14 ?_
    refine hf_iast_k (j := 1) (by decide) dX12_refuses_15 (hs.2.1 157 _ rfl) (hf_lin hs 157 rfl) (hf_vin (by decide)) ?_
    refine hf_iload_n dX12_refuses_16 rfl rfl ?_
    refine hf_ireturn dX12_refuses_17 rfl rfl ?_
    show hf_G X Y_X12_beside (d + 2) _ _ 14 [some (.ref 156), some (.int x1), some (.int x2), none] [.int (-1)] (t, T, (hf_up (hf_up I 156 0 (-1)) 157 1 ((I 157 1) + 1)), L, P) _
    refine hf_ireturn dX12_beside_14 rfl rfl ?_
    exact h
  · replace h := h.2 hc
    refine hf_iload_n dX12_lies_5 rfl rfl ?_
    refine hf_iload_n dX12_lies_6 rfl rfl ?_
    refine hf_icmp_gt (tgt := 14) dX12_lies_7 (by decide) (fun hc => ?_) (fun hc => ?_)
    · replace h := h.1 hc
      refine hf_iconst (v := 0) dX12_lies_14 (by decide) ?_
      refine hf_ireturn dX12_lies_15 rfl (by decide) ?_
      show hf_G X Y_X12_beside (d + 2) _ _ 6 [some (.ref 156), some (.int x1), some (.int x2), none] [.int 0] (t, T, I, L, P) _
      refine hf_if_ne (tgt := 15) dX12_beside_6 (by decide) (fun hc => absurd (show ¬ (0 : Int32) = (0 : Int32) from hc) (by decide)) (fun _ => ?_)
      refine hf_aload_n dX12_beside_9 rfl rfl ?_
      refine hf_iconst (v := (-1)) dX12_beside_10 (by decide) ?_
      refine hf_callV (c := 12) (as := [.int (-1)]) ok_X12_refuses dX12_beside_11 hw1146 hw1147 hw1601 (hs.2.1 156 _ rfl) (by decide) (hf_lin hs 156 rfl) rfl (Nat.le_of_ble_eq_true rfl) rfl (Nat.le_of_ble_eq_true rfl) (Nat.zero_le _) (Nat.zero_le _) ?_
      show hf_G X Y_X12_refuses (d + 1) _ _ 0 [some (.ref 156), some (.int (-1))] [] (t, T, I, L, P) _
      refine hf_aload_n dX12_refuses_0 rfl rfl ?_
      refine hf_iload_n dX12_refuses_1 rfl rfl ?_
      refine hf_puti (c := 12) (j := 0) dX12_refuses_2 (hs.2.1 156 _ rfl) (hf_lin hs 156 rfl) (by decide) (by decide) hw1036 rfl rfl ?_
      refine hf_aload_n dX12_refuses_5 rfl rfl ?_
      refine hf_getr (b := 157) (c := 12) (j := 1) dX12_refuses_6 (hs.2.1 156 _ rfl) (hf_lin hs 156 rfl) (by decide) (by decide) hw1037 rfl (hs.2.2 156 1 _ rfl) ?_
      refine hf_iload_n dX12_refuses_9 rfl rfl ?_
      refine hf_ineg dX12_refuses_10 ?_
      rw [show (-(-1) : Int32) = 1 by decide]
      refine hf_dup2 dX12_refuses_11 rfl rfl ?_
      refine hf_iald_k (j := 1) (by decide) dX12_refuses_12 (hs.2.1 157 _ rfl) (hf_lin hs 157 rfl) (hf_vin (by decide)) ?_
      refine hf_iconst (v := 1) dX12_refuses_13 (by decide) ?_
      refine hf_iadd dX12_refuses_14 ?_
      refine hf_iast_k (j := 1) (by decide) dX12_refuses_15 (hs.2.1 157 _ rfl) (hf_lin hs 157 rfl) (hf_vin (by decide)) ?_
      refine hf_iload_n dX12_refuses_16 rfl rfl ?_
      refine hf_ireturn dX12_refuses_17 rfl rfl ?_
      show hf_G X Y_X12_beside (d + 2) _ _ 14 [some (.ref 156), some (.int x1), some (.int x2), none] [.int (-1)] (t, T, (hf_up (hf_up I 156 0 (-1)) 157 1 ((I 157 1) + 1)), L, P) _
      refine hf_ireturn dX12_beside_14 rfl rfl ?_
      exact h
    · replace h := h.2 hc
      refine hf_iconst (v := 1) dX12_lies_10 (by decide) ?_
      refine hf_goto (tgt := 15) dX12_lies_11 (by decide) ?_
      refine hf_ireturn dX12_lies_15 rfl (by decide) ?_
      show hf_G X Y_X12_beside (d + 2) _ _ 6 [some (.ref 156), some (.int x1), some (.int x2), none] [.int 1] (t, T, I, L, P) _
      refine hf_if_ne (tgt := 15) dX12_beside_6 (by decide) (fun _ => ?_) (fun hc => absurd (show (1 : Int32) = (0 : Int32) from hc) (by decide))
      refine hf_iload_n dX12_beside_15 rfl rfl ?_
      refine hf_iconst (v := (-1)) dX12_beside_16 (by decide) ?_
      refine hf_icmp_eq (tgt := 35) dX12_beside_17 (by decide) (fun hc => ?_) (fun hc => ?_)
      · replace h := h.1 hc
        refine hf_aload_n dX12_beside_35 rfl rfl ?_
        refine hf_getr (b := 158) (c := 12) (j := 2) dX12_beside_36 (hs.2.1 156 _ rfl) (hf_lin hs 156 rfl) (by decide) (by decide) hw1038 rfl (hs.2.2 156 2 _ rfl) ?_
        refine hf_sipush (v := 275) dX12_beside_39 (by decide) ?_
        refine hf_iload_n dX12_beside_42 rfl rfl ?_
        refine hf_iadd dX12_beside_43 ?_
        refine hf_iald dX12_beside_44 (hs.2.1 158 _ rfl) (hf_lin hs 158 rfl) h.1 ?_
        replace h := h.2
        refine hf_istore_n (l2 := [some (.ref 156), some (.int x1), some (.int x2), some (.int (I 158 (((275 + x1)).toNatClampNeg)))]) dX12_beside_45 rfl (by decide) rfl ?_
        refine hf_aload_n dX12_beside_46 rfl rfl ?_
        refine hf_getr (b := 158) (c := 12) (j := 2) dX12_beside_47 (hs.2.1 156 _ rfl) (hf_lin hs 156 rfl) (by decide) (by decide) hw1038 rfl (hs.2.2 156 2 _ rfl) ?_
        refine hf_sipush (v := 275) dX12_beside_50 (by decide) ?_
        refine hf_iload_n dX12_beside_53 rfl rfl ?_
        refine hf_iadd dX12_beside_54 ?_
        refine hf_iload_n dX12_beside_55 rfl rfl ?_
        refine hf_iast dX12_beside_56 (hs.2.1 158 _ rfl) (hf_lin hs 158 rfl) h.1 ?_
        replace h := h.2
        refine hf_aload_n dX12_beside_57 rfl rfl ?_
        refine hf_iload_n dX12_beside_58 rfl rfl ?_
        refine hf_callV (c := 12) (as := [.int (I 158 (((275 + x1)).toNatClampNeg))]) ok_X12_good dX12_beside_59 hw1149 hw1150 hw1602 (hs.2.1 156 _ rfl) (by decide) (hf_lin hs 156 rfl) rfl (Nat.le_of_ble_eq_true rfl) rfl (Nat.le_of_ble_eq_true rfl) (Nat.zero_le _) (Nat.zero_le _) ?_
        show hf_G X Y_X12_good (d + 1) _ _ 0 [some (.ref 156), some (.int (I 158 (((275 + x1)).toNatClampNeg)))] [] (t, T, (hf_up I 158 (((275 + x1)).toNatClampNeg) x2), L, P) _
        refine hf_aload_n dX12_good_0 rfl rfl ?_
        refine hf_iconst (v := 0) dX12_good_1 (by decide) ?_
        refine hf_puti (c := 12) (j := 0) dX12_good_2 (hs.2.1 156 _ rfl) (hf_lin hs 156 rfl) (by decide) (by decide) hw1036 rfl rfl ?_
        refine hf_iload_n dX12_good_5 rfl rfl ?_
        refine hf_ireturn dX12_good_6 rfl rfl ?_
        show hf_G X Y_X12_beside (d + 2) _ _ 62 [some (.ref 156), some (.int x1), some (.int x2), some (.int (I 158 (((275 + x1)).toNatClampNeg)))] [.int (I 158 (((275 + x1)).toNatClampNeg))] (t, T, (hf_up (hf_up I 158 (((275 + x1)).toNatClampNeg) x2) 156 0 0), L, P) _
        refine hf_ireturn dX12_beside_62 rfl rfl ?_
        exact h
      · replace h := h.2 hc
        refine hf_aload_n dX12_beside_20 rfl rfl ?_
        refine hf_iload_n dX12_beside_21 rfl rfl ?_
        refine hf_callV (c := 12) (as := [.int x2]) ok_X12_isWord dX12_beside_22 hw1196 hw1197 hw1607 (hs.2.1 156 _ rfl) (by decide) (hf_lin hs 156 rfl) rfl (Nat.le_of_ble_eq_true rfl) rfl (Nat.le_of_ble_eq_true rfl) (Nat.zero_le _) (Nat.zero_le _) ?_
        show hf_G X Y_X12_isWord (d + 1) _ _ 0 [some (.ref 156), some (.int x2)] [] (t, T, I, L, P) _
        refine hf_iload_n dX12_isWord_0 rfl rfl ?_
        refine hf_iconst (v := 0) dX12_isWord_1 (by decide) ?_
        refine hf_aload_n dX12_isWord_2 rfl rfl ?_
        refine hf_getr (b := 158) (c := 12) (j := 2) dX12_isWord_3 (hs.2.1 156 _ rfl) (hf_lin hs 156 rfl) (by decide) (by decide) hw1038 rfl (hs.2.2 156 2 _ rfl) ?_
        refine hf_sipush (v := 316) dX12_isWord_6 (by decide) ?_
        refine hf_iald_k (j := 316) (by decide) dX12_isWord_9 (hs.2.1 158 _ rfl) (hf_lin hs 158 rfl) (hf_vin (by decide)) ?_
        refine hf_iconst (v := 1) dX12_isWord_10 (by decide) ?_
        refine hf_isub dX12_isWord_11 ?_
        refine hf_callS (as := [.int x2, .int 0, .int ((I 158 316) - 1)]) ok_X12_lies dX12_isWord_12 hw1143 hw1144 rfl (Nat.le_of_ble_eq_true rfl) rfl (Nat.le_of_ble_eq_true rfl) (Nat.zero_le _) (Nat.zero_le _) ?_
        show hf_G X Y_X12_lies d _ _ 0 [some (.int x2), some (.int 0), some (.int ((I 158 316) - 1))] [] (t, T, I, L, P) _
        refine hf_iload_n dX12_lies_0 rfl rfl ?_
        refine hf_iload_n dX12_lies_1 rfl rfl ?_
        refine hf_icmp_lt (tgt := 14) dX12_lies_2 (by decide) (fun hc => ?_) (fun hc => ?_)
        · replace h := h.1 hc
          refine hf_iconst (v := 0) dX12_lies_14 (by decide) ?_
          refine hf_ireturn dX12_lies_15 rfl (by decide) ?_
          show hf_G X Y_X12_isWord (d + 1) _ _ 15 [some (.ref 156), some (.int x2)] [.int 0] (t, T, I, L, P) _
          refine hf_ireturn dX12_isWord_15 rfl (by decide) ?_
          show hf_G X Y_X12_beside (d + 2) _ _ 25 [some (.ref 156), some (.int x1), some (.int x2), none] [.int 0] (t, T, I, L, P) _
          refine hf_if_ne (tgt := 35) dX12_beside_25 (by decide) (fun hc => absurd (show ¬ (0 : Int32) = (0 : Int32) from hc) (by decide)) (fun _ => ?_)
          refine hf_aload_n dX12_beside_28 rfl rfl ?_
          refine hf_bipush (v := (-2)) dX12_beside_29 (by decide) ?_
          refine hf_callV (c := 12) (as := [.int (-2)]) ok_X12_refuses dX12_beside_31 hw1146 hw1147 hw1601 (hs.2.1 156 _ rfl) (by decide) (hf_lin hs 156 rfl) rfl (Nat.le_of_ble_eq_true rfl) rfl (Nat.le_of_ble_eq_true rfl) (Nat.zero_le _) (Nat.zero_le _) ?_
          show hf_G X Y_X12_refuses (d + 1) _ _ 0 [some (.ref 156), some (.int (-2))] [] (t, T, I, L, P) _
          refine hf_aload_n dX12_refuses_0 rfl rfl ?_
          refine hf_iload_n dX12_refuses_1 rfl rfl ?_
          refine hf_puti (c := 12) (j := 0) dX12_refuses_2 (hs.2.1 156 _ rfl) (hf_lin hs 156 rfl) (by decide) (by decide) hw1036 rfl rfl ?_
          refine hf_aload_n dX12_refuses_5 rfl rfl ?_
          refine hf_getr (b := 157) (c := 12) (j := 1) dX12_refuses_6 (hs.2.1 156 _ rfl) (hf_lin hs 156 rfl) (by decide) (by decide) hw1037 rfl (hs.2.2 156 1 _ rfl) ?_
          refine hf_iload_n dX12_refuses_9 rfl rfl ?_
          refine hf_ineg dX12_refuses_10 ?_
          rw [show (-(-2) : Int32) = 2 by decide]
          refine hf_dup2 dX12_refuses_11 rfl rfl ?_
          refine hf_iald_k (j := 2) (by decide) dX12_refuses_12 (hs.2.1 157 _ rfl) (hf_lin hs 157 rfl) (hf_vin (by decide)) ?_
          refine hf_iconst (v := 1) dX12_refuses_13 (by decide) ?_
          refine hf_iadd dX12_refuses_14 ?_
          refine hf_iast_k (j := 2) (by decide) dX12_refuses_15 (hs.2.1 157 _ rfl) (hf_lin hs 157 rfl) (hf_vin (by decide)) ?_
          refine hf_iload_n dX12_refuses_16 rfl rfl ?_
          refine hf_ireturn dX12_refuses_17 rfl rfl ?_
          show hf_G X Y_X12_beside (d + 2) _ _ 34 [some (.ref 156), some (.int x1), some (.int x2), none] [.int (-2)] (t, T, (hf_up (hf_up I 156 0 (-2)) 157 2 ((I 157 2) + 1)), L, P) _
          refine hf_ireturn dX12_beside_34 rfl rfl ?_
          exact h
        · replace h := h.2 hc
          refine hf_iload_n dX12_lies_5 rfl rfl ?_
          refine hf_iload_n dX12_lies_6 rfl rfl ?_
          refine hf_icmp_gt (tgt := 14) dX12_lies_7 (by decide) (fun hc => ?_) (fun hc => ?_)
          · replace h := h.1 hc
            refine hf_iconst (v := 0) dX12_lies_14 (by decide) ?_
            refine hf_ireturn dX12_lies_15 rfl (by decide) ?_
            show hf_G X Y_X12_isWord (d + 1) _ _ 15 [some (.ref 156), some (.int x2)] [.int 0] (t, T, I, L, P) _
            refine hf_ireturn dX12_isWord_15 rfl (by decide) ?_
            show hf_G X Y_X12_beside (d + 2) _ _ 25 [some (.ref 156), some (.int x1), some (.int x2), none] [.int 0] (t, T, I, L, P) _
            refine hf_if_ne (tgt := 35) dX12_beside_25 (by decide) (fun hc => absurd (show ¬ (0 : Int32) = (0 : Int32) from hc) (by decide)) (fun _ => ?_)
            refine hf_aload_n dX12_beside_28 rfl rfl ?_
            refine hf_bipush (v := (-2)) dX12_beside_29 (by decide) ?_
            refine hf_callV (c := 12) (as := [.int (-2)]) ok_X12_refuses dX12_beside_31 hw1146 hw1147 hw1601 (hs.2.1 156 _ rfl) (by decide) (hf_lin hs 156 rfl) rfl (Nat.le_of_ble_eq_true rfl) rfl (Nat.le_of_ble_eq_true rfl) (Nat.zero_le _) (Nat.zero_le _) ?_
            show hf_G X Y_X12_refuses (d + 1) _ _ 0 [some (.ref 156), some (.int (-2))] [] (t, T, I, L, P) _
            refine hf_aload_n dX12_refuses_0 rfl rfl ?_
            refine hf_iload_n dX12_refuses_1 rfl rfl ?_
            refine hf_puti (c := 12) (j := 0) dX12_refuses_2 (hs.2.1 156 _ rfl) (hf_lin hs 156 rfl) (by decide) (by decide) hw1036 rfl rfl ?_
            refine hf_aload_n dX12_refuses_5 rfl rfl ?_
            refine hf_getr (b := 157) (c := 12) (j := 1) dX12_refuses_6 (hs.2.1 156 _ rfl) (hf_lin hs 156 rfl) (by decide) (by decide) hw1037 rfl (hs.2.2 156 1 _ rfl) ?_
            refine hf_iload_n dX12_refuses_9 rfl rfl ?_
            refine hf_ineg dX12_refuses_10 ?_
            rw [show (-(-2) : Int32) = 2 by decide]
            refine hf_dup2 dX12_refuses_11 rfl rfl ?_
            refine hf_iald_k (j := 2) (by decide) dX12_refuses_12 (hs.2.1 157 _ rfl) (hf_lin hs 157 rfl) (hf_vin (by decide)) ?_
            refine hf_iconst (v := 1) dX12_refuses_13 (by decide) ?_
            refine hf_iadd dX12_refuses_14 ?_
            refine hf_iast_k (j := 2) (by decide) dX12_refuses_15 (hs.2.1 157 _ rfl) (hf_lin hs 157 rfl) (hf_vin (by decide)) ?_
            refine hf_iload_n dX12_refuses_16 rfl rfl ?_
            refine hf_ireturn dX12_refuses_17 rfl rfl ?_
            show hf_G X Y_X12_beside (d + 2) _ _ 34 [some (.ref 156), some (.int x1), some (.int x2), none] [.int (-2)] (t, T, (hf_up (hf_up I 156 0 (-2)) 157 2 ((I 157 2) + 1)), L, P) _
            refine hf_ireturn dX12_beside_34 rfl rfl ?_
            exact h
          · replace h := h.2 hc
            refine hf_iconst (v := 1) dX12_lies_10 (by decide) ?_
            refine hf_goto (tgt := 15) dX12_lies_11 (by decide) ?_
            refine hf_ireturn dX12_lies_15 rfl (by decide) ?_
            show hf_G X Y_X12_isWord (d + 1) _ _ 15 [some (.ref 156), some (.int x2)] [.int 1] (t, T, I, L, P) _
            refine hf_ireturn dX12_isWord_15 rfl (by decide) ?_
            show hf_G X Y_X12_beside (d + 2) _ _ 25 [some (.ref 156), some (.int x1), some (.int x2), none] [.int 1] (t, T, I, L, P) _
            refine hf_if_ne (tgt := 35) dX12_beside_25 (by decide) (fun _ => ?_) (fun hc => absurd (show (1 : Int32) = (0 : Int32) from hc) (by decide))
            refine hf_aload_n dX12_beside_35 rfl rfl ?_
            refine hf_getr (b := 158) (c := 12) (j := 2) dX12_beside_36 (hs.2.1 156 _ rfl) (hf_lin hs 156 rfl) (by decide) (by decide) hw1038 rfl (hs.2.2 156 2 _ rfl) ?_
            refine hf_sipush (v := 275) dX12_beside_39 (by decide) ?_
            refine hf_iload_n dX12_beside_42 rfl rfl ?_
            refine hf_iadd dX12_beside_43 ?_
            refine hf_iald dX12_beside_44 (hs.2.1 158 _ rfl) (hf_lin hs 158 rfl) h.1 ?_
            replace h := h.2
            refine hf_istore_n (l2 := [some (.ref 156), some (.int x1), some (.int x2), some (.int (I 158 (((275 + x1)).toNatClampNeg)))]) dX12_beside_45 rfl (by decide) rfl ?_
            refine hf_aload_n dX12_beside_46 rfl rfl ?_
            refine hf_getr (b := 158) (c := 12) (j := 2) dX12_beside_47 (hs.2.1 156 _ rfl) (hf_lin hs 156 rfl) (by decide) (by decide) hw1038 rfl (hs.2.2 156 2 _ rfl) ?_
            refine hf_sipush (v := 275) dX12_beside_50 (by decide) ?_
            refine hf_iload_n dX12_beside_53 rfl rfl ?_
            refine hf_iadd dX12_beside_54 ?_
            refine hf_iload_n dX12_beside_55 rfl rfl ?_
            refine hf_iast dX12_beside_56 (hs.2.1 158 _ rfl) (hf_lin hs 158 rfl) h.1 ?_
            replace h := h.2
            refine hf_aload_n dX12_beside_57 rfl rfl ?_
            refine hf_iload_n dX12_beside_58 rfl rfl ?_
            refine hf_callV (c := 12) (as := [.int (I 158 (((275 + x1)).toNatClampNeg))]) ok_X12_good dX12_beside_59 hw1149 hw1150 hw1602 (hs.2.1 156 _ rfl) (by decide) (hf_lin hs 156 rfl) rfl (Nat.le_of_ble_eq_true rfl) rfl (Nat.le_of_ble_eq_true rfl) (Nat.zero_le _) (Nat.zero_le _) ?_
            show hf_G X Y_X12_good (d + 1) _ _ 0 [some (.ref 156), some (.int (I 158 (((275 + x1)).toNatClampNeg)))] [] (t, T, (hf_up I 158 (((275 + x1)).toNatClampNeg) x2), L, P) _
            refine hf_aload_n dX12_good_0 rfl rfl ?_
            refine hf_iconst (v := 0) dX12_good_1 (by decide) ?_
            refine hf_puti (c := 12) (j := 0) dX12_good_2 (hs.2.1 156 _ rfl) (hf_lin hs 156 rfl) (by decide) (by decide) hw1036 rfl rfl ?_
            refine hf_iload_n dX12_good_5 rfl rfl ?_
            refine hf_ireturn dX12_good_6 rfl rfl ?_
            show hf_G X Y_X12_beside (d + 2) _ _ 62 [some (.ref 156), some (.int x1), some (.int x2), some (.int (I 158 (((275 + x1)).toNatClampNeg)))] [.int (I 158 (((275 + x1)).toNatClampNeg))] (t, T, (hf_up (hf_up I 158 (((275 + x1)).toNatClampNeg) x2) 156 0 0), L, P) _
            refine hf_ireturn dX12_beside_62 rfl rfl ?_
            exact h

set_option maxHeartbeats 4000000 in
theorem w_X12_feed_0 {X : hf_X} {d k n t : Nat} {T : hf_T} {I : hf_I} {L : hf_L} {P : hf_P} {Q : Option Value → hf_M → Prop} {x1 : Int32} {x2 : Int32} {x3 : Int32} {x4 : Int32} {x5 : Int32} (hs : hf_Lay t T P) (h : (((I 156 10) + 20) ≤ 400 → hf_G X Y_X12_feed d k n 55 [some (.ref 156), none, none, none, none, none, some (.int 0)] [] (t, T, (hf_up (hf_up (hf_up (hf_up (hf_up I 164 0 x1) 164 1 x2) 164 2 x3) 164 3 x4) 164 4 x5), L, P) Q) ∧ (¬ (((I 156 10) + 20) ≤ 400) → Q (some (.int (-1))) (t, T, I, L, P))) : hf_G X Y_X12_feed d k n 0 (hf_en [.ref 156, .int x1, .int x2, .int x3, .int x4, .int x5] 7) [] (t, T, I, L, P) Q := by
  show hf_G X Y_X12_feed d k n 0 [some (.ref 156), some (.int x1), some (.int x2), some (.int x3), some (.int x4), some (.int x5), none] [] (t, T, I, L, P) Q
  refine hf_aload_n dX12_feed_0 rfl rfl ?_
  refine hf_geti (c := 12) (j := 10) dX12_feed_1 (hs.2.1 156 _ rfl) (hf_lin hs 156 rfl) (by decide) (by decide) hw1046 (Or.inl rfl) ?_
  refine hf_bipush (v := 20) dX12_feed_4 (by decide) ?_
  refine hf_iadd dX12_feed_6 ?_
  refine hf_sipush (v := 400) dX12_feed_7 (by decide) ?_
  refine hf_icmp_le (tgt := 15) dX12_feed_10 (by decide) (fun hc => ?_) (fun hc => ?_)
  · replace h := h.1 hc
    refine hf_aload_n dX12_feed_15 rfl rfl ?_
    refine hf_getr (b := 164) (c := 12) (j := 9) dX12_feed_16 (hs.2.1 156 _ rfl) (hf_lin hs 156 rfl) (by decide) (by decide) hw1045 rfl (hs.2.2 156 9 _ rfl) ?_
    refine hf_iconst (v := 0) dX12_feed_19 (by decide) ?_
    refine hf_iload_n dX12_feed_20 rfl rfl ?_
    refine hf_iast_k (j := 0) (by decide) dX12_feed_21 (hs.2.1 164 _ rfl) (hf_lin hs 164 rfl) (hf_vin (by decide)) ?_
    refine hf_aload_n dX12_feed_22 rfl rfl ?_
    refine hf_getr (b := 164) (c := 12) (j := 9) dX12_feed_23 (hs.2.1 156 _ rfl) (hf_lin hs 156 rfl) (by decide) (by decide) hw1045 rfl (hs.2.2 156 9 _ rfl) ?_
    refine hf_iconst (v := 1) dX12_feed_26 (by decide) ?_
    refine hf_iload_n dX12_feed_27 rfl rfl ?_
    refine hf_iast_k (j := 1) (by decide) dX12_feed_28 (hs.2.1 164 _ rfl) (hf_lin hs 164 rfl) (hf_vin (by decide)) ?_
    refine hf_aload_n dX12_feed_29 rfl rfl ?_
    refine hf_getr (b := 164) (c := 12) (j := 9) dX12_feed_30 (hs.2.1 156 _ rfl) (hf_lin hs 156 rfl) (by decide) (by decide) hw1045 rfl (hs.2.2 156 9 _ rfl) ?_
    refine hf_iconst (v := 2) dX12_feed_33 (by decide) ?_
    refine hf_iload_n dX12_feed_34 rfl rfl ?_
    refine hf_iast_k (j := 2) (by decide) dX12_feed_35 (hs.2.1 164 _ rfl) (hf_lin hs 164 rfl) (hf_vin (by decide)) ?_
    refine hf_aload_n dX12_feed_36 rfl rfl ?_
    refine hf_getr (b := 164) (c := 12) (j := 9) dX12_feed_37 (hs.2.1 156 _ rfl) (hf_lin hs 156 rfl) (by decide) (by decide) hw1045 rfl (hs.2.2 156 9 _ rfl) ?_
    refine hf_iconst (v := 3) dX12_feed_40 (by decide) ?_
    refine hf_iload dX12_feed_41 rfl ?_
    refine hf_iast_k (j := 3) (by decide) dX12_feed_43 (hs.2.1 164 _ rfl) (hf_lin hs 164 rfl) (hf_vin (by decide)) ?_
    refine hf_aload_n dX12_feed_44 rfl rfl ?_
    refine hf_getr (b := 164) (c := 12) (j := 9) dX12_feed_45 (hs.2.1 156 _ rfl) (hf_lin hs 156 rfl) (by decide) (by decide) hw1045 rfl (hs.2.2 156 9 _ rfl) ?_
    refine hf_iconst (v := 4) dX12_feed_48 (by decide) ?_
    refine hf_iload dX12_feed_49 rfl ?_
    refine hf_iast_k (j := 4) (by decide) dX12_feed_51 (hs.2.1 164 _ rfl) (hf_lin hs 164 rfl) (hf_vin (by decide)) ?_
    refine hf_iconst (v := 0) dX12_feed_52 (by decide) ?_
    refine hf_istore (l2 := [some (.ref 156), some (.int x1), some (.int x2), some (.int x3), some (.int x4), some (.int x5), some (.int 0)]) dX12_feed_53 (by decide) rfl ?_
    refine hf_drop (l' := [some (.ref 156), none, none, none, none, none, some (.int 0)]) (by simp [hf_sub]) ?_
    exact h
  · replace h := h.2 hc
    refine hf_iconst (v := (-1)) dX12_feed_13 (by decide) ?_
    refine hf_ireturn dX12_feed_14 rfl rfl ?_
    exact h

set_option maxHeartbeats 4000000 in
theorem w_X12_feed_55 {X : hf_X} {d k n t : Nat} {T : hf_T} {I : hf_I} {L : hf_L} {P : hf_P} {Q : Option Value → hf_M → Prop} {x6 : Int32} (hs : hf_Lay t T P) (h : (20 ≤ x6 → Q (some (.int ((I 156 10) + 20))) (t, T, (hf_up I 156 10 ((I 156 10) + 20)), L, P)) ∧ (¬ (20 ≤ x6) → vp_in (x6 / 4) 5 ∧ (vp_in ((I 156 10) + x6) 400 ∧ (hf_G X Y_X12_feed d k n 55 [some (.ref 156), none, none, none, none, none, some (.int (x6 + 1))] [] (t, T, (hf_up I 163 ((((I 156 10) + x6)).toNatClampNeg) (vp_nar .byte (((I 164 (((x6 / 4)).toNatClampNeg)) >>> ((24 - (8 * (x6 - x6 / 4 * 4))) &&& 31)).toInt8.toInt32))), L, P) Q)))) : hf_G X Y_X12_feed d k n 55 [some (.ref 156), none, none, none, none, none, some (.int x6)] [] (t, T, I, L, P) Q := by
  refine hf_iload dX12_feed_55 rfl ?_
  refine hf_bipush (v := 20) dX12_feed_57 (by decide) ?_
  refine hf_icmp_ge (tgt := 101) dX12_feed_59 (by decide) (fun hc => ?_) (fun hc => ?_)
  · replace h := h.1 hc
    refine hf_aload_n dX12_feed_101 rfl rfl ?_
    refine hf_dup dX12_feed_102 rfl ?_
    refine hf_geti (c := 12) (j := 10) dX12_feed_103 (hs.2.1 156 _ rfl) (hf_lin hs 156 rfl) (by decide) (by decide) hw1046 (Or.inl rfl) ?_
    refine hf_bipush (v := 20) dX12_feed_106 (by decide) ?_
    refine hf_iadd dX12_feed_108 ?_
    refine hf_puti (c := 12) (j := 10) dX12_feed_109 (hs.2.1 156 _ rfl) (hf_lin hs 156 rfl) (by decide) (by decide) hw1046 rfl rfl ?_
    refine hf_aload_n dX12_feed_112 rfl rfl ?_
    refine hf_geti (c := 12) (j := 10) dX12_feed_113 (hs.2.1 156 _ rfl) (hf_lin hs 156 rfl) (by decide) (by decide) hw1046 (Or.inl rfl) ?_
    refine hf_ireturn dX12_feed_116 rfl rfl ?_
    exact h
  · replace h := h.2 hc
    refine hf_aload_n dX12_feed_62 rfl rfl ?_
    refine hf_getr (b := 163) (c := 12) (j := 8) dX12_feed_63 (hs.2.1 156 _ rfl) (hf_lin hs 156 rfl) (by decide) (by decide) hw1044 rfl (hs.2.2 156 8 _ rfl) ?_
    refine hf_aload_n dX12_feed_66 rfl rfl ?_
    refine hf_geti (c := 12) (j := 10) dX12_feed_67 (hs.2.1 156 _ rfl) (hf_lin hs 156 rfl) (by decide) (by decide) hw1046 (Or.inl rfl) ?_
    refine hf_iload dX12_feed_70 rfl ?_
    refine hf_iadd dX12_feed_72 ?_
    refine hf_aload_n dX12_feed_73 rfl rfl ?_
    refine hf_getr (b := 164) (c := 12) (j := 9) dX12_feed_74 (hs.2.1 156 _ rfl) (hf_lin hs 156 rfl) (by decide) (by decide) hw1045 rfl (hs.2.2 156 9 _ rfl) ?_
    refine hf_iload dX12_feed_77 rfl ?_
    refine hf_iconst (v := 4) dX12_feed_79 (by decide) ?_
    refine hf_idiv dX12_feed_80 (by decide) ?_
    refine hf_iald dX12_feed_81 (hs.2.1 164 _ rfl) (hf_lin hs 164 rfl) h.1 ?_
    replace h := h.2
    refine hf_bipush (v := 24) dX12_feed_82 (by decide) ?_
    refine hf_bipush (v := 8) dX12_feed_84 (by decide) ?_
    refine hf_iload dX12_feed_86 rfl ?_
    refine hf_iconst (v := 4) dX12_feed_88 (by decide) ?_
    refine hf_irem dX12_feed_89 (by decide) ?_
    refine hf_imul dX12_feed_90 ?_
    refine hf_isub dX12_feed_91 ?_
    refine hf_ishr dX12_feed_92 ?_
    refine hf_i2b dX12_feed_93 ?_
    refine hf_bast dX12_feed_94 (hs.2.1 163 _ rfl) (hf_lin hs 163 rfl) h.1 ?_
    replace h := h.2
    refine hf_iinc (v := (x6 + 1)) (l2 := [some (.ref 156), none, none, none, none, none, some (.int (x6 + 1))]) dX12_feed_95 (by decide) rfl rfl rfl ?_
    refine hf_goto (tgt := 55) dX12_feed_98 (by decide) ?_
    exact h

set_option maxHeartbeats 4000000 in
theorem w_X12_end_0 {X : hf_X} {d k n t : Nat} {T : hf_T} {I : hf_I} {L : hf_L} {P : hf_P} {Q : Option Value → hf_M → Prop} {x1 : Int32} (hs : hf_Lay t T P) (h : (x1 < 0 → Q (some (.int (-1))) (t, T, I, L, P)) ∧ (¬ (x1 < 0) → ((I 156 10) < x1 → Q (some (.int (-1))) (t, T, I, L, P)) ∧ (¬ ((I 156 10) < x1) → Q (some (.int x1)) (t, T, (hf_up I 156 10 x1), L, P)))) : hf_G X Y_X12_end (d + 1) k n 0 (hf_en [.ref 156, .int x1] 2) [] (t, T, I, L, P) Q := by
  show hf_G X Y_X12_end (d + 1) k n 0 [some (.ref 156), some (.int x1)] [] (t, T, I, L, P) Q
  refine hf_iload_n dX12_end_0 rfl rfl ?_
  refine hf_iconst (v := 0) dX12_end_1 (by decide) ?_
  refine hf_aload_n dX12_end_2 rfl rfl ?_
  refine hf_geti (c := 12) (j := 10) dX12_end_3 (hs.2.1 156 _ rfl) (hf_lin hs 156 rfl) (by decide) (by decide) hw1046 (Or.inl rfl) ?_
  refine hf_callS (as := [.int x1, .int 0, .int (I 156 10)]) ok_X12_lies dX12_end_6 hw1143 hw1144 rfl (Nat.le_of_ble_eq_true rfl) rfl (Nat.le_of_ble_eq_true rfl) (Nat.zero_le _) (Nat.zero_le _) ?_
  show hf_G X Y_X12_lies d _ _ 0 [some (.int x1), some (.int 0), some (.int (I 156 10))] [] (t, T, I, L, P) _
  refine hf_iload_n dX12_lies_0 rfl rfl ?_
  refine hf_iload_n dX12_lies_1 rfl rfl ?_
  refine hf_icmp_lt (tgt := 14) dX12_lies_2 (by decide) (fun hc => ?_) (fun hc => ?_)
  · replace h := h.1 hc
    refine hf_iconst (v := 0) dX12_lies_14 (by decide) ?_
    refine hf_ireturn dX12_lies_15 rfl (by decide) ?_
    show hf_G X Y_X12_end (d + 1) _ _ 9 [some (.ref 156), some (.int x1)] [.int 0] (t, T, I, L, P) _
    refine hf_if_ne (tgt := 14) dX12_end_9 (by decide) (fun hc => absurd (show ¬ (0 : Int32) = (0 : Int32) from hc) (by decide)) (fun _ => ?_)
    refine hf_iconst (v := (-1)) dX12_end_12 (by decide) ?_
    refine hf_ireturn dX12_end_13 rfl rfl ?_
    exact h
  · replace h := h.2 hc
    refine hf_iload_n dX12_lies_5 rfl rfl ?_
    refine hf_iload_n dX12_lies_6 rfl rfl ?_
    refine hf_icmp_gt (tgt := 14) dX12_lies_7 (by decide) (fun hc => ?_) (fun hc => ?_)
    · replace h := h.1 hc
      refine hf_iconst (v := 0) dX12_lies_14 (by decide) ?_
      refine hf_ireturn dX12_lies_15 rfl (by decide) ?_
      show hf_G X Y_X12_end (d + 1) _ _ 9 [some (.ref 156), some (.int x1)] [.int 0] (t, T, I, L, P) _
      refine hf_if_ne (tgt := 14) dX12_end_9 (by decide) (fun hc => absurd (show ¬ (0 : Int32) = (0 : Int32) from hc) (by decide)) (fun _ => ?_)
      refine hf_iconst (v := (-1)) dX12_end_12 (by decide) ?_
      refine hf_ireturn dX12_end_13 rfl rfl ?_
      exact h
    · replace h := h.2 hc
      refine hf_iconst (v := 1) dX12_lies_10 (by decide) ?_
      refine hf_goto (tgt := 15) dX12_lies_11 (by decide) ?_
      refine hf_ireturn dX12_lies_15 rfl (by decide) ?_
      show hf_G X Y_X12_end (d + 1) _ _ 9 [some (.ref 156), some (.int x1)] [.int 1] (t, T, I, L, P) _
      refine hf_if_ne (tgt := 14) dX12_end_9 (by decide) (fun _ => ?_) (fun hc => absurd (show (1 : Int32) = (0 : Int32) from hc) (by decide))
      refine hf_aload_n dX12_end_14 rfl rfl ?_
      refine hf_iload_n dX12_end_15 rfl rfl ?_
      refine hf_puti (c := 12) (j := 10) dX12_end_16 (hs.2.1 156 _ rfl) (hf_lin hs 156 rfl) (by decide) (by decide) hw1046 rfl rfl ?_
      refine hf_iload_n dX12_end_19 rfl rfl ?_
      refine hf_ireturn dX12_end_20 rfl rfl ?_
      exact h

set_option maxHeartbeats 4000000 in
theorem w_X12_isSmall_0 {X : hf_X} {d k n t : Nat} {T : hf_T} {I : hf_I} {L : hf_L} {P : hf_P} {Q : Option Value → hf_M → Prop} {x0 : Int32} (hs : hf_Lay t T P) (h : (x0 < 97 → Q (some (.int 0)) (t, T, I, L, P)) ∧ (¬ (x0 < 97) → (122 < x0 → Q (some (.int 0)) (t, T, I, L, P)) ∧ (¬ (122 < x0) → Q (some (.int 1)) (t, T, I, L, P)))) : hf_G X Y_X12_isSmall d k n 0 (hf_en [.int x0] 1) [] (t, T, I, L, P) Q := by
  show hf_G X Y_X12_isSmall d k n 0 [some (.int x0)] [] (t, T, I, L, P) Q
  refine hf_iload_n dX12_isSmall_0 rfl rfl ?_
  refine hf_bipush (v := 97) dX12_isSmall_1 (by decide) ?_
  refine hf_icmp_lt (tgt := 16) dX12_isSmall_3 (by decide) (fun hc => ?_) (fun hc => ?_)
  · replace h := h.1 hc
    refine hf_iconst (v := 0) dX12_isSmall_16 (by decide) ?_
    refine hf_ireturn dX12_isSmall_17 rfl (by decide) ?_
    exact h
  · replace h := h.2 hc
    refine hf_iload_n dX12_isSmall_6 rfl rfl ?_
    refine hf_bipush (v := 122) dX12_isSmall_7 (by decide) ?_
    refine hf_icmp_gt (tgt := 16) dX12_isSmall_9 (by decide) (fun hc => ?_) (fun hc => ?_)
    · replace h := h.1 hc
      refine hf_iconst (v := 0) dX12_isSmall_16 (by decide) ?_
      refine hf_ireturn dX12_isSmall_17 rfl (by decide) ?_
      exact h
    · replace h := h.2 hc
      refine hf_iconst (v := 1) dX12_isSmall_12 (by decide) ?_
      refine hf_goto (tgt := 17) dX12_isSmall_13 (by decide) ?_
      refine hf_ireturn dX12_isSmall_17 rfl (by decide) ?_
      exact h

set_option maxHeartbeats 4000000 in
theorem w_X12_isDigit_0 {X : hf_X} {d k n t : Nat} {T : hf_T} {I : hf_I} {L : hf_L} {P : hf_P} {Q : Option Value → hf_M → Prop} {x0 : Int32} (hs : hf_Lay t T P) (h : (x0 < 48 → Q (some (.int 0)) (t, T, I, L, P)) ∧ (¬ (x0 < 48) → (57 < x0 → Q (some (.int 0)) (t, T, I, L, P)) ∧ (¬ (57 < x0) → Q (some (.int 1)) (t, T, I, L, P)))) : hf_G X Y_X12_isDigit d k n 0 (hf_en [.int x0] 1) [] (t, T, I, L, P) Q := by
  show hf_G X Y_X12_isDigit d k n 0 [some (.int x0)] [] (t, T, I, L, P) Q
  refine hf_iload_n dX12_isDigit_0 rfl rfl ?_
  refine hf_bipush (v := 48) dX12_isDigit_1 (by decide) ?_
  refine hf_icmp_lt (tgt := 16) dX12_isDigit_3 (by decide) (fun hc => ?_) (fun hc => ?_)
  · replace h := h.1 hc
    refine hf_iconst (v := 0) dX12_isDigit_16 (by decide) ?_
    refine hf_ireturn dX12_isDigit_17 rfl (by decide) ?_
    exact h
  · replace h := h.2 hc
    refine hf_iload_n dX12_isDigit_6 rfl rfl ?_
    refine hf_bipush (v := 57) dX12_isDigit_7 (by decide) ?_
    refine hf_icmp_gt (tgt := 16) dX12_isDigit_9 (by decide) (fun hc => ?_) (fun hc => ?_)
    · replace h := h.1 hc
      refine hf_iconst (v := 0) dX12_isDigit_16 (by decide) ?_
      refine hf_ireturn dX12_isDigit_17 rfl (by decide) ?_
      exact h
    · replace h := h.2 hc
      refine hf_iconst (v := 1) dX12_isDigit_12 (by decide) ?_
      refine hf_goto (tgt := 17) dX12_isDigit_13 (by decide) ?_
      refine hf_ireturn dX12_isDigit_17 rfl (by decide) ?_
      exact h
