set_option maxHeartbeats 4000000 in
theorem w_X12_fine_0 {X : hf_X} {d k n t : Nat} {T : hf_T} {I : hf_I} {L : hf_L} {P : hf_P} {Q : Option Value → hf_M → Prop}  (hs : hf_Lay t T P) (h : (¬ (I 156 18) = (-1) → Q (some (.int 0)) (t, T, I, L, P)) ∧ ((I 156 18) = (-1) → Q (some (.int 1)) (t, T, I, L, P))) : hf_G X Y_X12_fine d k n 0 (hf_en [.ref 156] 1) [] (t, T, I, L, P) Q := by
  show hf_G X Y_X12_fine d k n 0 [some (.ref 156)] [] (t, T, I, L, P) Q
  refine hf_aload_n dX12_fine_0 rfl rfl ?_
  refine hf_geti (c := 12) (j := 18) dX12_fine_1 (hs.2.1 156 _ rfl) (hf_lin hs 156 rfl) (by decide) (by decide) hw1054 (Or.inl rfl) ?_
  refine hf_iconst (v := (-1)) dX12_fine_4 (by decide) ?_
  refine hf_icmp_ne (tgt := 12) dX12_fine_5 (by decide) (fun hc => ?_) (fun hc => ?_)
  · replace h := h.1 hc
    refine hf_iconst (v := 0) dX12_fine_12 (by decide) ?_
    refine hf_ireturn dX12_fine_13 rfl (by decide) ?_
    exact h
  · replace h := h.2 hc
    refine hf_iconst (v := 1) dX12_fine_8 (by decide) ?_
    refine hf_goto (tgt := 13) dX12_fine_9 (by decide) ?_
    refine hf_ireturn dX12_fine_13 rfl (by decide) ?_
    exact h

set_option maxHeartbeats 4000000 in
theorem w_X12_faults_0 {X : hf_X} {d k n t : Nat} {T : hf_T} {I : hf_I} {L : hf_L} {P : hf_P} {Q : Option Value → hf_M → Prop}  (hs : hf_Lay t T P) (h : (¬ (I 156 18) = (-1) → Q none (t, T, I, L, P)) ∧ ((I 156 18) = (-1) → vp_in (I 156 16) 401 ∧ (Q none (t, T, (hf_up I 156 18 (I 167 (((I 156 16)).toNatClampNeg))), L, P)))) : hf_G X Y_X12_faults (d + 1) k n 0 (hf_en [.ref 156] 1) [] (t, T, I, L, P) Q := by
  show hf_G X Y_X12_faults (d + 1) k n 0 [some (.ref 156)] [] (t, T, I, L, P) Q
  refine hf_aload_n dX12_faults_0 rfl rfl ?_
  refine hf_callV (c := 12) (as := []) ok_X12_fine dX12_faults_1 hw1308 hw1309 hw1632 (hs.2.1 156 _ rfl) (by decide) (hf_lin hs 156 rfl) rfl (Nat.le_of_ble_eq_true rfl) rfl (Nat.le_of_ble_eq_true rfl) (Nat.zero_le _) (Nat.zero_le _) ?_
  show hf_G X Y_X12_fine d _ _ 0 [some (.ref 156)] [] (t, T, I, L, P) _
  refine hf_aload_n dX12_fine_0 rfl rfl ?_
  refine hf_geti (c := 12) (j := 18) dX12_fine_1 (hs.2.1 156 _ rfl) (hf_lin hs 156 rfl) (by decide) (by decide) hw1054 (Or.inl rfl) ?_
  refine hf_iconst (v := (-1)) dX12_fine_4 (by decide) ?_
  refine hf_icmp_ne (tgt := 12) dX12_fine_5 (by decide) (fun hc => ?_) (fun hc => ?_)
  · replace h := h.1 hc
    refine hf_iconst (v := 0) dX12_fine_12 (by decide) ?_
    refine hf_ireturn dX12_fine_13 rfl (by decide) ?_
    show hf_G X Y_X12_faults (d + 1) _ _ 4 [some (.ref 156)] [.int 0] (t, T, I, L, P) _
    refine hf_if_eq (tgt := 20) dX12_faults_4 (by decide) (fun _ => ?_) (fun hc => absurd (show (0 : Int32) = (0 : Int32) by decide) hc)
    refine hf_return dX12_faults_20 rfl ?_
    exact h
  · replace h := h.2 hc
    refine hf_iconst (v := 1) dX12_fine_8 (by decide) ?_
    refine hf_goto (tgt := 13) dX12_fine_9 (by decide) ?_
    refine hf_ireturn dX12_fine_13 rfl (by decide) ?_
    show hf_G X Y_X12_faults (d + 1) _ _ 4 [some (.ref 156)] [.int 1] (t, T, I, L, P) _
    refine hf_if_eq (tgt := 20) dX12_faults_4 (by decide) (fun hc => absurd (show (1 : Int32) = (0 : Int32) from hc) (by decide)) (fun _ => ?_)
    refine hf_aload_n dX12_faults_7 rfl rfl ?_
    refine hf_aload_n dX12_faults_8 rfl rfl ?_
    refine hf_getr (b := 167) (c := 12) (j := 14) dX12_faults_9 (hs.2.1 156 _ rfl) (hf_lin hs 156 rfl) (by decide) (by decide) hw1050 rfl (hs.2.2 156 14 _ rfl) ?_
    refine hf_aload_n dX12_faults_12 rfl rfl ?_
    refine hf_geti (c := 12) (j := 16) dX12_faults_13 (hs.2.1 156 _ rfl) (hf_lin hs 156 rfl) (by decide) (by decide) hw1052 (Or.inl rfl) ?_
    refine hf_iald dX12_faults_16 (hs.2.1 167 _ rfl) (hf_lin hs 167 rfl) h.1 ?_
    replace h := h.2
    refine hf_puti (c := 12) (j := 18) dX12_faults_17 (hs.2.1 156 _ rfl) (hf_lin hs 156 rfl) (by decide) (by decide) hw1054 rfl rfl ?_
    refine hf_return dX12_faults_20 rfl ?_
    exact h

set_option maxHeartbeats 4000000 in
theorem w_X12_takes0_0 {X : hf_X} {d k n t : Nat} {T : hf_T} {I : hf_I} {L : hf_L} {P : hf_P} {Q : Option Value → hf_M → Prop} {x1 : Int32} (hs : hf_Lay t T P) (h : (¬ (I 156 18) = (-1) → Q (some (.int 0)) (t, T, I, L, P)) ∧ ((I 156 18) = (-1) → vp_in (I 156 16) 401 ∧ ((¬ (I 165 (((I 156 16)).toNatClampNeg)) = x1 → Q (some (.int 0)) (t, T, I, L, P)) ∧ ((I 165 (((I 156 16)).toNatClampNeg)) = x1 → Q (some (.int 1)) (t, T, (hf_up I 156 16 ((I 156 16) + 1)), L, P))))) : hf_G X Y_X12_takes0 (d + 1) k n 0 (hf_en [.ref 156, .int x1] 3) [] (t, T, I, L, P) Q := by
  show hf_G X Y_X12_takes0 (d + 1) k n 0 [some (.ref 156), some (.int x1), none] [] (t, T, I, L, P) Q
  refine hf_aload_n dX12_takes0_0 rfl rfl ?_
  refine hf_callV (c := 12) (as := []) ok_X12_fine dX12_takes0_1 hw1308 hw1309 hw1632 (hs.2.1 156 _ rfl) (by decide) (hf_lin hs 156 rfl) rfl (Nat.le_of_ble_eq_true rfl) rfl (Nat.le_of_ble_eq_true rfl) (Nat.zero_le _) (Nat.zero_le _) ?_
  show hf_G X Y_X12_fine d _ _ 0 [some (.ref 156)] [] (t, T, I, L, P) _
  refine hf_aload_n dX12_fine_0 rfl rfl ?_
  refine hf_geti (c := 12) (j := 18) dX12_fine_1 (hs.2.1 156 _ rfl) (hf_lin hs 156 rfl) (by decide) (by decide) hw1054 (Or.inl rfl) ?_
  refine hf_iconst (v := (-1)) dX12_fine_4 (by decide) ?_
  refine hf_icmp_ne (tgt := 12) dX12_fine_5 (by decide) (fun hc => ?_) (fun hc => ?_)
  · replace h := h.1 hc
    refine hf_iconst (v := 0) dX12_fine_12 (by decide) ?_
    refine hf_ireturn dX12_fine_13 rfl (by decide) ?_
    show hf_G X Y_X12_takes0 (d + 1) _ _ 4 [some (.ref 156), some (.int x1), none] [.int 0] (t, T, I, L, P) _
    refine hf_if_eq (tgt := 24) dX12_takes0_4 (by decide) (fun _ => ?_) (fun hc => absurd (show (0 : Int32) = (0 : Int32) by decide) hc)
    refine hf_iconst (v := 0) dX12_takes0_24 (by decide) ?_
    refine hf_istore_n (l2 := [some (.ref 156), some (.int x1), some (.int 0)]) dX12_takes0_25 rfl (by decide) rfl ?_
    refine hf_iload_n dX12_takes0_26 rfl rfl ?_
    refine hf_if_eq (tgt := 40) dX12_takes0_27 (by decide) (fun _ => ?_) (fun hc => absurd (show (0 : Int32) = (0 : Int32) by decide) hc)
    refine hf_iload_n dX12_takes0_40 rfl rfl ?_
    refine hf_ireturn dX12_takes0_41 rfl (by decide) ?_
    exact h
  · replace h := h.2 hc
    refine hf_iconst (v := 1) dX12_fine_8 (by decide) ?_
    refine hf_goto (tgt := 13) dX12_fine_9 (by decide) ?_
    refine hf_ireturn dX12_fine_13 rfl (by decide) ?_
    show hf_G X Y_X12_takes0 (d + 1) _ _ 4 [some (.ref 156), some (.int x1), none] [.int 1] (t, T, I, L, P) _
    refine hf_if_eq (tgt := 24) dX12_takes0_4 (by decide) (fun hc => absurd (show (1 : Int32) = (0 : Int32) from hc) (by decide)) (fun _ => ?_)
    refine hf_aload_n dX12_takes0_7 rfl rfl ?_
    refine hf_getr (b := 165) (c := 12) (j := 12) dX12_takes0_8 (hs.2.1 156 _ rfl) (hf_lin hs 156 rfl) (by decide) (by decide) hw1048 rfl (hs.2.2 156 12 _ rfl) ?_
    refine hf_aload_n dX12_takes0_11 rfl rfl ?_
    refine hf_geti (c := 12) (j := 16) dX12_takes0_12 (hs.2.1 156 _ rfl) (hf_lin hs 156 rfl) (by decide) (by decide) hw1052 (Or.inl rfl) ?_
    refine hf_iald dX12_takes0_15 (hs.2.1 165 _ rfl) (hf_lin hs 165 rfl) h.1 ?_
    replace h := h.2
    refine hf_iload_n dX12_takes0_16 rfl rfl ?_
    refine hf_icmp_ne (tgt := 24) dX12_takes0_17 (by decide) (fun hc => ?_) (fun hc => ?_)
    · replace h := h.1 hc
      refine hf_iconst (v := 0) dX12_takes0_24 (by decide) ?_
      refine hf_istore_n (l2 := [some (.ref 156), some (.int x1), some (.int 0)]) dX12_takes0_25 rfl (by decide) rfl ?_
      refine hf_iload_n dX12_takes0_26 rfl rfl ?_
      refine hf_if_eq (tgt := 40) dX12_takes0_27 (by decide) (fun _ => ?_) (fun hc => absurd (show (0 : Int32) = (0 : Int32) by decide) hc)
      refine hf_iload_n dX12_takes0_40 rfl rfl ?_
      refine hf_ireturn dX12_takes0_41 rfl (by decide) ?_
      exact h
    · replace h := h.2 hc
      refine hf_iconst (v := 1) dX12_takes0_20 (by decide) ?_
      refine hf_goto (tgt := 25) dX12_takes0_21 (by decide) ?_
      refine hf_istore_n (l2 := [some (.ref 156), some (.int x1), some (.int 1)]) dX12_takes0_25 rfl (by decide) rfl ?_
      refine hf_iload_n dX12_takes0_26 rfl rfl ?_
      refine hf_if_eq (tgt := 40) dX12_takes0_27 (by decide) (fun hc => absurd (show (1 : Int32) = (0 : Int32) from hc) (by decide)) (fun _ => ?_)
      refine hf_aload_n dX12_takes0_30 rfl rfl ?_
      refine hf_dup dX12_takes0_31 rfl ?_
      refine hf_geti (c := 12) (j := 16) dX12_takes0_32 (hs.2.1 156 _ rfl) (hf_lin hs 156 rfl) (by decide) (by decide) hw1052 (Or.inl rfl) ?_
      refine hf_iconst (v := 1) dX12_takes0_35 (by decide) ?_
      refine hf_iadd dX12_takes0_36 ?_
      refine hf_puti (c := 12) (j := 16) dX12_takes0_37 (hs.2.1 156 _ rfl) (hf_lin hs 156 rfl) (by decide) (by decide) hw1052 rfl rfl ?_
      refine hf_iload_n dX12_takes0_40 rfl rfl ?_
      refine hf_ireturn dX12_takes0_41 rfl (by decide) ?_
      exact h

set_option maxHeartbeats 4000000 in
theorem w_X12_must_0 {X : hf_X} {d k n t : Nat} {T : hf_T} {I : hf_I} {L : hf_L} {P : hf_P} {Q : Option Value → hf_M → Prop} {x1 : Int32} (hs : hf_Lay t T P) (h : hf_G X Y_X12_takes0 d 0 0 0 (hf_en [.ref 156, .int x1] 3) [] (t, T, I, L, P) (fun r M => hf_G X Y_X12_must (d + 1) k n 5 [some (.ref 156), none] (r.toList ++ []) M Q)) : hf_G X Y_X12_must (d + 1) k n 0 (hf_en [.ref 156, .int x1] 2) [] (t, T, I, L, P) Q := by
  show hf_G X Y_X12_must (d + 1) k n 0 [some (.ref 156), some (.int x1)] [] (t, T, I, L, P) Q
  refine hf_aload_n dX12_must_0 rfl rfl ?_
  refine hf_iload_n dX12_must_1 rfl rfl ?_
  exact hf_callV (c := 12) (as := [.int x1]) ok_X12_takes0 dX12_must_2 hw1305 hw1306 hw1631 (hs.2.1 156 _ rfl) (by decide) (hf_lin hs 156 rfl) rfl (Nat.le_of_ble_eq_true rfl) rfl (Nat.le_of_ble_eq_true rfl) (Nat.zero_le _) (Nat.zero_le _) (hf_mono (fun r M q => hf_drop (l' := [some (.ref 156), none]) (by simp [hf_sub]) q) h)

set_option maxHeartbeats 4000000 in
theorem w_X12_must_5 {X : hf_X} {d k n t : Nat} {T : hf_T} {I : hf_I} {L : hf_L} {P : hf_P} {Q : Option Value → hf_M → Prop} {s0 : Int32} (hs : hf_Lay t T P) (h : (¬ s0 = 0 → Q none (t, T, I, L, P)) ∧ (s0 = 0 → (¬ (I 156 18) = (-1) → Q none (t, T, I, L, P)) ∧ ((I 156 18) = (-1) → vp_in (I 156 16) 401 ∧ (Q none (t, T, (hf_up I 156 18 (I 167 (((I 156 16)).toNatClampNeg))), L, P))))) : hf_G X Y_X12_must (d + 2) k n 5 [some (.ref 156), none] [.int s0] (t, T, I, L, P) Q := by
  refine hf_if_ne (tgt := 12) dX12_must_5 (by decide) (fun hc => ?_) (fun hc => ?_)
  · replace h := h.1 hc
    refine hf_return dX12_must_12 rfl ?_
    exact h
  · replace h := h.2 hc
    refine hf_aload_n dX12_must_8 rfl rfl ?_
    refine hf_callV (c := 12) (as := []) ok_X12_faults dX12_must_9 hw1320 hw1321 hw1636 (hs.2.1 156 _ rfl) (by decide) (hf_lin hs 156 rfl) rfl (Nat.le_of_ble_eq_true rfl) rfl (Nat.le_of_ble_eq_true rfl) (Nat.zero_le _) (Nat.zero_le _) ?_
    show hf_G X Y_X12_faults (d + 1) _ _ 0 [some (.ref 156)] [] (t, T, I, L, P) _
    refine hf_aload_n dX12_faults_0 rfl rfl ?_
    refine hf_callV (c := 12) (as := []) ok_X12_fine dX12_faults_1 hw1308 hw1309 hw1632 (hs.2.1 156 _ rfl) (by decide) (hf_lin hs 156 rfl) rfl (Nat.le_of_ble_eq_true rfl) rfl (Nat.le_of_ble_eq_true rfl) (Nat.zero_le _) (Nat.zero_le _) ?_
    show hf_G X Y_X12_fine d _ _ 0 [some (.ref 156)] [] (t, T, I, L, P) _
    refine hf_aload_n dX12_fine_0 rfl rfl ?_
    refine hf_geti (c := 12) (j := 18) dX12_fine_1 (hs.2.1 156 _ rfl) (hf_lin hs 156 rfl) (by decide) (by decide) hw1054 (Or.inl rfl) ?_
    refine hf_iconst (v := (-1)) dX12_fine_4 (by decide) ?_
    refine hf_icmp_ne (tgt := 12) dX12_fine_5 (by decide) (fun hc => ?_) (fun hc => ?_)
    · replace h := h.1 hc
      refine hf_iconst (v := 0) dX12_fine_12 (by decide) ?_
      refine hf_ireturn dX12_fine_13 rfl (by decide) ?_
      show hf_G X Y_X12_faults (d + 1) _ _ 4 [some (.ref 156)] [.int 0] (t, T, I, L, P) _
      refine hf_if_eq (tgt := 20) dX12_faults_4 (by decide) (fun _ => ?_) (fun hc => absurd (show (0 : Int32) = (0 : Int32) by decide) hc)
      refine hf_return dX12_faults_20 rfl ?_
      show hf_G X Y_X12_must (d + 2) _ _ 12 [some (.ref 156), none] [] (t, T, I, L, P) _
      refine hf_return dX12_must_12 rfl ?_
      exact h
    · replace h := h.2 hc
      refine hf_iconst (v := 1) dX12_fine_8 (by decide) ?_
      refine hf_goto (tgt := 13) dX12_fine_9 (by decide) ?_
      refine hf_ireturn dX12_fine_13 rfl (by decide) ?_
      show hf_G X Y_X12_faults (d + 1) _ _ 4 [some (.ref 156)] [.int 1] (t, T, I, L, P) _
      refine hf_if_eq (tgt := 20) dX12_faults_4 (by decide) (fun hc => absurd (show (1 : Int32) = (0 : Int32) from hc) (by decide)) (fun _ => ?_)
      refine hf_aload_n dX12_faults_7 rfl rfl ?_
      refine hf_aload_n dX12_faults_8 rfl rfl ?_
      refine hf_getr (b := 167) (c := 12) (j := 14) dX12_faults_9 (hs.2.1 156 _ rfl) (hf_lin hs 156 rfl) (by decide) (by decide) hw1050 rfl (hs.2.2 156 14 _ rfl) ?_
      refine hf_aload_n dX12_faults_12 rfl rfl ?_
      refine hf_geti (c := 12) (j := 16) dX12_faults_13 (hs.2.1 156 _ rfl) (hf_lin hs 156 rfl) (by decide) (by decide) hw1052 (Or.inl rfl) ?_
      refine hf_iald dX12_faults_16 (hs.2.1 167 _ rfl) (hf_lin hs 167 rfl) h.1 ?_
      replace h := h.2
      refine hf_puti (c := 12) (j := 18) dX12_faults_17 (hs.2.1 156 _ rfl) (hf_lin hs 156 rfl) (by decide) (by decide) hw1054 rfl rfl ?_
      refine hf_return dX12_faults_20 rfl ?_
      show hf_G X Y_X12_must (d + 2) _ _ 12 [some (.ref 156), none] [] (t, T, (hf_up I 156 18 (I 167 (((I 156 16)).toNatClampNeg))), L, P) _
      refine hf_return dX12_must_12 rfl ?_
      exact h

set_option maxHeartbeats 4000000 in
theorem w_X12_leaf_0 {X : hf_X} {d k n t : Nat} {T : hf_T} {I : hf_I} {L : hf_L} {P : hf_P} {Q : Option Value → hf_M → Prop}  (hs : hf_Lay t T P) (h : (¬ (I 156 17) = 50 → (¬ (I 156 18) = (-1) → Q none (t, T, (hf_up I 156 17 ((I 156 17) + 1)), L, P)) ∧ ((I 156 18) = (-1) → Q none (t, T, (hf_up (hf_up I 156 17 ((I 156 17) + 1)) 156 16 ((I 156 16) + 1)), L, P))) ∧ ((I 156 17) = 50 → (¬ (I 156 18) = (-1) → (¬ (I 156 18) = (-1) → Q none (t, T, (hf_up I 156 17 ((I 156 17) + 1)), L, P)) ∧ ((I 156 18) = (-1) → Q none (t, T, (hf_up (hf_up I 156 17 ((I 156 17) + 1)) 156 16 ((I 156 16) + 1)), L, P))) ∧ ((I 156 18) = (-1) → vp_in (I 156 16) 401 ∧ ((¬ (I 167 (((I 156 16)).toNatClampNeg)) = (-1) → Q none (t, T, (hf_up (hf_up I 156 18 (I 167 (((I 156 16)).toNatClampNeg))) 156 17 ((I 156 17) + 1)), L, P)) ∧ ((I 167 (((I 156 16)).toNatClampNeg)) = (-1) → Q none (t, T, (hf_up (hf_up (hf_up I 156 18 (I 167 (((I 156 16)).toNatClampNeg))) 156 17 ((I 156 17) + 1)) 156 16 ((I 156 16) + 1)), L, P)))))) : hf_G X Y_X12_leaf (d + 2) k n 0 (hf_en [.ref 156] 1) [] (t, T, I, L, P) Q := by
  show hf_G X Y_X12_leaf (d + 2) k n 0 [some (.ref 156)] [] (t, T, I, L, P) Q
  refine hf_aload_n dX12_leaf_0 rfl rfl ?_
  refine hf_geti (c := 12) (j := 17) dX12_leaf_1 (hs.2.1 156 _ rfl) (hf_lin hs 156 rfl) (by decide) (by decide) hw1053 (Or.inl rfl) ?_
  refine hf_bipush (v := 50) dX12_leaf_4 (by decide) ?_
  refine hf_icmp_ne (tgt := 13) dX12_leaf_6 (by decide) (fun hc => ?_) (fun hc => ?_)
  · replace h := h.1 hc
    refine hf_aload_n dX12_leaf_13 rfl rfl ?_
    refine hf_dup dX12_leaf_14 rfl ?_
    refine hf_geti (c := 12) (j := 17) dX12_leaf_15 (hs.2.1 156 _ rfl) (hf_lin hs 156 rfl) (by decide) (by decide) hw1053 (Or.inl rfl) ?_
    refine hf_iconst (v := 1) dX12_leaf_18 (by decide) ?_
    refine hf_iadd dX12_leaf_19 ?_
    refine hf_puti (c := 12) (j := 17) dX12_leaf_20 (hs.2.1 156 _ rfl) (hf_lin hs 156 rfl) (by decide) (by decide) hw1053 rfl rfl ?_
    refine hf_aload_n dX12_leaf_23 rfl rfl ?_
    refine hf_callV (c := 12) (as := []) ok_X12_fine dX12_leaf_24 hw1308 hw1309 hw1632 (hs.2.1 156 _ rfl) (by decide) (hf_lin hs 156 rfl) rfl (Nat.le_of_ble_eq_true rfl) rfl (Nat.le_of_ble_eq_true rfl) (Nat.zero_le _) (Nat.zero_le _) ?_
    show hf_G X Y_X12_fine (d + 1) _ _ 0 [some (.ref 156)] [] (t, T, (hf_up I 156 17 ((I 156 17) + 1)), L, P) _
    refine hf_aload_n dX12_fine_0 rfl rfl ?_
    refine hf_geti (c := 12) (j := 18) dX12_fine_1 (hs.2.1 156 _ rfl) (hf_lin hs 156 rfl) (by decide) (by decide) hw1054 (Or.inl rfl) ?_
    refine hf_iconst (v := (-1)) dX12_fine_4 (by decide) ?_
    refine hf_icmp_ne (tgt := 12) dX12_fine_5 (by decide) (fun hc => ?_) (fun hc => ?_)
    · replace h := h.1 hc
      refine hf_iconst (v := 0) dX12_fine_12 (by decide) ?_
      refine hf_ireturn dX12_fine_13 rfl (by decide) ?_
      show hf_G X Y_X12_leaf (d + 2) _ _ 27 [some (.ref 156)] [.int 0] (t, T, (hf_up I 156 17 ((I 156 17) + 1)), L, P) _
      refine hf_if_eq (tgt := 40) dX12_leaf_27 (by decide) (fun _ => ?_) (fun hc => absurd (show (0 : Int32) = (0 : Int32) by decide) hc)
      refine hf_return dX12_leaf_40 rfl ?_
      exact h
    · replace h := h.2 hc
      refine hf_iconst (v := 1) dX12_fine_8 (by decide) ?_
      refine hf_goto (tgt := 13) dX12_fine_9 (by decide) ?_
      refine hf_ireturn dX12_fine_13 rfl (by decide) ?_
      show hf_G X Y_X12_leaf (d + 2) _ _ 27 [some (.ref 156)] [.int 1] (t, T, (hf_up I 156 17 ((I 156 17) + 1)), L, P) _
      refine hf_if_eq (tgt := 40) dX12_leaf_27 (by decide) (fun hc => absurd (show (1 : Int32) = (0 : Int32) from hc) (by decide)) (fun _ => ?_)
      refine hf_aload_n dX12_leaf_30 rfl rfl ?_
      refine hf_dup dX12_leaf_31 rfl ?_
      refine hf_geti (c := 12) (j := 16) dX12_leaf_32 (hs.2.1 156 _ rfl) (hf_lin hs 156 rfl) (by decide) (by decide) hw1052 (Or.inl rfl) ?_
      refine hf_iconst (v := 1) dX12_leaf_35 (by decide) ?_
      refine hf_iadd dX12_leaf_36 ?_
      refine hf_puti (c := 12) (j := 16) dX12_leaf_37 (hs.2.1 156 _ rfl) (hf_lin hs 156 rfl) (by decide) (by decide) hw1052 rfl rfl ?_
      refine hf_return dX12_leaf_40 rfl ?_
      exact h
  · replace h := h.2 hc
    refine hf_aload_n dX12_leaf_9 rfl rfl ?_
    refine hf_callV (c := 12) (as := []) ok_X12_faults dX12_leaf_10 hw1320 hw1321 hw1636 (hs.2.1 156 _ rfl) (by decide) (hf_lin hs 156 rfl) rfl (Nat.le_of_ble_eq_true rfl) rfl (Nat.le_of_ble_eq_true rfl) (Nat.zero_le _) (Nat.zero_le _) ?_
    show hf_G X Y_X12_faults (d + 1) _ _ 0 [some (.ref 156)] [] (t, T, I, L, P) _
    refine hf_aload_n dX12_faults_0 rfl rfl ?_
    refine hf_callV (c := 12) (as := []) ok_X12_fine dX12_faults_1 hw1308 hw1309 hw1632 (hs.2.1 156 _ rfl) (by decide) (hf_lin hs 156 rfl) rfl (Nat.le_of_ble_eq_true rfl) rfl (Nat.le_of_ble_eq_true rfl) (Nat.zero_le _) (Nat.zero_le _) ?_
    show hf_G X Y_X12_fine d _ _ 0 [some (.ref 156)] [] (t, T, I, L, P) _
    refine hf_aload_n dX12_fine_0 rfl rfl ?_
    refine hf_geti (c := 12) (j := 18) dX12_fine_1 (hs.2.1 156 _ rfl) (hf_lin hs 156 rfl) (by decide) (by decide) hw1054 (Or.inl rfl) ?_
    refine hf_iconst (v := (-1)) dX12_fine_4 (by decide) ?_
    refine hf_icmp_ne (tgt := 12) dX12_fine_5 (by decide) (fun hc => ?_) (fun hc => ?_)
    · replace h := h.1 hc
      refine hf_iconst (v := 0) dX12_fine_12 (by decide) ?_
      refine hf_ireturn dX12_fine_13 rfl (by decide) ?_
      show hf_G X Y_X12_faults (d + 1) _ _ 4 [some (.ref 156)] [.int 0] (t, T, I, L, P) _
      refine hf_if_eq (tgt := 20) dX12_faults_4 (by decide) (fun _ => ?_) (fun hc => absurd (show (0 : Int32) = (0 : Int32) by decide) hc)
      refine hf_return dX12_faults_20 rfl ?_
      show hf_G X Y_X12_leaf (d + 2) _ _ 13 [some (.ref 156)] [] (t, T, I, L, P) _
      refine hf_aload_n dX12_leaf_13 rfl rfl ?_
      refine hf_dup dX12_leaf_14 rfl ?_
      refine hf_geti (c := 12) (j := 17) dX12_leaf_15 (hs.2.1 156 _ rfl) (hf_lin hs 156 rfl) (by decide) (by decide) hw1053 (Or.inl rfl) ?_
      refine hf_iconst (v := 1) dX12_leaf_18 (by decide) ?_
      refine hf_iadd dX12_leaf_19 ?_
      refine hf_puti (c := 12) (j := 17) dX12_leaf_20 (hs.2.1 156 _ rfl) (hf_lin hs 156 rfl) (by decide) (by decide) hw1053 rfl rfl ?_
      refine hf_aload_n dX12_leaf_23 rfl rfl ?_
      refine hf_callV (c := 12) (as := []) ok_X12_fine dX12_leaf_24 hw1308 hw1309 hw1632 (hs.2.1 156 _ rfl) (by decide) (hf_lin hs 156 rfl) rfl (Nat.le_of_ble_eq_true rfl) rfl (Nat.le_of_ble_eq_true rfl) (Nat.zero_le _) (Nat.zero_le _) ?_
      show hf_G X Y_X12_fine (d + 1) _ _ 0 [some (.ref 156)] [] (t, T, (hf_up I 156 17 ((I 156 17) + 1)), L, P) _
      refine hf_aload_n dX12_fine_0 rfl rfl ?_
      refine hf_geti (c := 12) (j := 18) dX12_fine_1 (hs.2.1 156 _ rfl) (hf_lin hs 156 rfl) (by decide) (by decide) hw1054 (Or.inl rfl) ?_
      refine hf_iconst (v := (-1)) dX12_fine_4 (by decide) ?_
      refine hf_icmp_ne (tgt := 12) dX12_fine_5 (by decide) (fun hc => ?_) (fun hc => ?_)
      · replace h := h.1 hc
        refine hf_iconst (v := 0) dX12_fine_12 (by decide) ?_
        refine hf_ireturn dX12_fine_13 rfl (by decide) ?_
        show hf_G X Y_X12_leaf (d + 2) _ _ 27 [some (.ref 156)] [.int 0] (t, T, (hf_up I 156 17 ((I 156 17) + 1)), L, P) _
        refine hf_if_eq (tgt := 40) dX12_leaf_27 (by decide) (fun _ => ?_) (fun hc => absurd (show (0 : Int32) = (0 : Int32) by decide) hc)
        refine hf_return dX12_leaf_40 rfl ?_
        exact h
      · replace h := h.2 hc
        refine hf_iconst (v := 1) dX12_fine_8 (by decide) ?_
        refine hf_goto (tgt := 13) dX12_fine_9 (by decide) ?_
        refine hf_ireturn dX12_fine_13 rfl (by decide) ?_
        show hf_G X Y_X12_leaf (d + 2) _ _ 27 [some (.ref 156)] [.int 1] (t, T, (hf_up I 156 17 ((I 156 17) + 1)), L, P) _
        refine hf_if_eq (tgt := 40) dX12_leaf_27 (by decide) (fun hc => absurd (show (1 : Int32) = (0 : Int32) from hc) (by decide)) (fun _ => ?_)
        refine hf_aload_n dX12_leaf_30 rfl rfl ?_
        refine hf_dup dX12_leaf_31 rfl ?_
        refine hf_geti (c := 12) (j := 16) dX12_leaf_32 (hs.2.1 156 _ rfl) (hf_lin hs 156 rfl) (by decide) (by decide) hw1052 (Or.inl rfl) ?_
        refine hf_iconst (v := 1) dX12_leaf_35 (by decide) ?_
        refine hf_iadd dX12_leaf_36 ?_
        refine hf_puti (c := 12) (j := 16) dX12_leaf_37 (hs.2.1 156 _ rfl) (hf_lin hs 156 rfl) (by decide) (by decide) hw1052 rfl rfl ?_
        refine hf_return dX12_leaf_40 rfl ?_
        exact h
    · replace h := h.2 hc
      refine hf_iconst (v := 1) dX12_fine_8 (by decide) ?_
      refine hf_goto (tgt := 13) dX12_fine_9 (by decide) ?_
      refine hf_ireturn dX12_fine_13 rfl (by decide) ?_
      show hf_G X Y_X12_faults (d + 1) _ _ 4 [some (.ref 156)] [.int 1] (t, T, I, L, P) _
      refine hf_if_eq (tgt := 20) dX12_faults_4 (by decide) (fun hc => absurd (show (1 : Int32) = (0 : Int32) from hc) (by decide)) (fun _ => ?_)
      refine hf_aload_n dX12_faults_7 rfl rfl ?_
      refine hf_aload_n dX12_faults_8 rfl rfl ?_
      refine hf_getr (b := 167) (c := 12) (j := 14) dX12_faults_9 (hs.2.1 156 _ rfl) (hf_lin hs 156 rfl) (by decide) (by decide) hw1050 rfl (hs.2.2 156 14 _ rfl) ?_
      refine hf_aload_n dX12_faults_12 rfl rfl ?_
      refine hf_geti (c := 12) (j := 16) dX12_faults_13 (hs.2.1 156 _ rfl) (hf_lin hs 156 rfl) (by decide) (by decide) hw1052 (Or.inl rfl) ?_
      refine hf_iald dX12_faults_16 (hs.2.1 167 _ rfl) (hf_lin hs 167 rfl) h.1 ?_
      replace h := h.2
      refine hf_puti (c := 12) (j := 18) dX12_faults_17 (hs.2.1 156 _ rfl) (hf_lin hs 156 rfl) (by decide) (by decide) hw1054 rfl rfl ?_
      refine hf_return dX12_faults_20 rfl ?_
      show hf_G X Y_X12_leaf (d + 2) _ _ 13 [some (.ref 156)] [] (t, T, (hf_up I 156 18 (I 167 (((I 156 16)).toNatClampNeg))), L, P) _
      refine hf_aload_n dX12_leaf_13 rfl rfl ?_
      refine hf_dup dX12_leaf_14 rfl ?_
      refine hf_geti (c := 12) (j := 17) dX12_leaf_15 (hs.2.1 156 _ rfl) (hf_lin hs 156 rfl) (by decide) (by decide) hw1053 (Or.inl rfl) ?_
      refine hf_iconst (v := 1) dX12_leaf_18 (by decide) ?_
      refine hf_iadd dX12_leaf_19 ?_
      refine hf_puti (c := 12) (j := 17) dX12_leaf_20 (hs.2.1 156 _ rfl) (hf_lin hs 156 rfl) (by decide) (by decide) hw1053 rfl rfl ?_
      refine hf_aload_n dX12_leaf_23 rfl rfl ?_
      refine hf_callV (c := 12) (as := []) ok_X12_fine dX12_leaf_24 hw1308 hw1309 hw1632 (hs.2.1 156 _ rfl) (by decide) (hf_lin hs 156 rfl) rfl (Nat.le_of_ble_eq_true rfl) rfl (Nat.le_of_ble_eq_true rfl) (Nat.zero_le _) (Nat.zero_le _) ?_
      show hf_G X Y_X12_fine (d + 1) _ _ 0 [some (.ref 156)] [] (t, T, (hf_up (hf_up I 156 18 (I 167 (((I 156 16)).toNatClampNeg))) 156 17 ((I 156 17) + 1)), L, P) _
      refine hf_aload_n dX12_fine_0 rfl rfl ?_
      refine hf_geti (c := 12) (j := 18) dX12_fine_1 (hs.2.1 156 _ rfl) (hf_lin hs 156 rfl) (by decide) (by decide) hw1054 (Or.inl rfl) ?_
      refine hf_iconst (v := (-1)) dX12_fine_4 (by decide) ?_
      refine hf_icmp_ne (tgt := 12) dX12_fine_5 (by decide) (fun hc => ?_) (fun hc => ?_)
      · replace h := h.1 hc
        refine hf_iconst (v := 0) dX12_fine_12 (by decide) ?_
        refine hf_ireturn dX12_fine_13 rfl (by decide) ?_
        show hf_G X Y_X12_leaf (d + 2) _ _ 27 [some (.ref 156)] [.int 0] (t, T, (hf_up (hf_up I 156 18 (I 167 (((I 156 16)).toNatClampNeg))) 156 17 ((I 156 17) + 1)), L, P) _
        refine hf_if_eq (tgt := 40) dX12_leaf_27 (by decide) (fun _ => ?_) (fun hc => absurd (show (0 : Int32) = (0 : Int32) by decide) hc)
        refine hf_return dX12_leaf_40 rfl ?_
        exact h
      · replace h := h.2 hc
        refine hf_iconst (v := 1) dX12_fine_8 (by decide) ?_
        refine hf_goto (tgt := 13) dX12_fine_9 (by decide) ?_
        refine hf_ireturn dX12_fine_13 rfl (by decide) ?_
        show hf_G X Y_X12_leaf (d + 2) _ _ 27 [some (.ref 156)] [.int 1] (t, T, (hf_up (hf_up I 156 18 (I 167 (((I 156 16)).toNatClampNeg))) 156 17 ((I 156 17) + 1)), L, P) _
        refine hf_if_eq (tgt := 40) dX12_leaf_27 (by decide) (fun hc => absurd (show (1 : Int32) = (0 : Int32) from hc) (by decide)) (fun _ => ?_)
        refine hf_aload_n dX12_leaf_30 rfl rfl ?_
        refine hf_dup dX12_leaf_31 rfl ?_
        refine hf_geti (c := 12) (j := 16) dX12_leaf_32 (hs.2.1 156 _ rfl) (hf_lin hs 156 rfl) (by decide) (by decide) hw1052 (Or.inl rfl) ?_
        refine hf_iconst (v := 1) dX12_leaf_35 (by decide) ?_
        refine hf_iadd dX12_leaf_36 ?_
        refine hf_puti (c := 12) (j := 16) dX12_leaf_37 (hs.2.1 156 _ rfl) (hf_lin hs 156 rfl) (by decide) (by decide) hw1052 rfl rfl ?_
        refine hf_return dX12_leaf_40 rfl ?_
        exact h

set_option maxHeartbeats 4000000 in
theorem w_X12_sign_0 {X : hf_X} {d k n t : Nat} {T : hf_T} {I : hf_I} {L : hf_L} {P : hf_P} {Q : Option Value → hf_M → Prop} {x0 : Int32} (hs : hf_Lay t T P) (h : Q (some (.int (100 + x0))) (t, T, I, L, P)) : hf_G X Y_X12_sign d k n 0 (hf_en [.int x0] 1) [] (t, T, I, L, P) Q := by
  show hf_G X Y_X12_sign d k n 0 [some (.int x0)] [] (t, T, I, L, P) Q
  refine hf_bipush (v := 100) dX12_sign_0 (by decide) ?_
  refine hf_iload_n dX12_sign_2 rfl rfl ?_
  refine hf_iadd dX12_sign_3 ?_
  refine hf_ireturn dX12_sign_4 rfl rfl ?_
  exact h

set_option maxHeartbeats 4000000 in
theorem w_X12_isValue_0 {X : hf_X} {d k n t : Nat} {T : hf_T} {I : hf_I} {L : hf_L} {P : hf_P} {Q : Option Value → hf_M → Prop} {x1 : Int32} (hs : hf_Lay t T P) (h : ((I 156 7) = 0 → (x1 < 8 → Q (some (.int 0)) (t, T, I, L, P)) ∧ (¬ (x1 < 8) → (20 < x1 → Q (some (.int 0)) (t, T, I, L, P)) ∧ (¬ (20 < x1) → Q (some (.int 1)) (t, T, I, L, P)))) ∧ (¬ ((I 156 7) = 0) → (x1 = 9 → Q (some (.int 1)) (t, T, I, L, P)) ∧ (¬ (x1 = 9) → (x1 = 13 → Q (some (.int 1)) (t, T, I, L, P)) ∧ (¬ (x1 = 13) → (x1 = 18 → Q (some (.int 1)) (t, T, I, L, P)) ∧ (¬ (x1 = 18) → (x1 < 21 → Q (some (.int 0)) (t, T, I, L, P)) ∧ (¬ (x1 < 21) → (24 < x1 → Q (some (.int 0)) (t, T, I, L, P)) ∧ (¬ (24 < x1) → Q (some (.int 1)) (t, T, I, L, P)))))))) : hf_G X Y_X12_isValue (d + 1) k n 0 (hf_en [.ref 156, .int x1] 2) [] (t, T, I, L, P) Q := by
  show hf_G X Y_X12_isValue (d + 1) k n 0 [some (.ref 156), some (.int x1)] [] (t, T, I, L, P) Q
  refine hf_aload_n dX12_isValue_0 rfl rfl ?_
  refine hf_geti (c := 12) (j := 7) dX12_isValue_1 (hs.2.1 156 _ rfl) (hf_lin hs 156 rfl) (by decide) (by decide) hw1043 (Or.inr rfl) ?_
  refine hf_if_eq (tgt := 44) dX12_isValue_4 (by decide) (fun hc => ?_) (fun hc => ?_)
  · replace h := h.1 hc
    refine hf_iload_n dX12_isValue_44 rfl rfl ?_
    refine hf_bipush (v := 8) dX12_isValue_45 (by decide) ?_
    refine hf_bipush (v := 20) dX12_isValue_47 (by decide) ?_
    refine hf_callS (as := [.int x1, .int 8, .int 20]) ok_X12_lies dX12_isValue_49 hw1143 hw1144 rfl (Nat.le_of_ble_eq_true rfl) rfl (Nat.le_of_ble_eq_true rfl) (Nat.zero_le _) (Nat.zero_le _) ?_
    show hf_G X Y_X12_lies d _ _ 0 [some (.int x1), some (.int 8), some (.int 20)] [] (t, T, I, L, P) _
    refine hf_iload_n dX12_lies_0 rfl rfl ?_
    refine hf_iload_n dX12_lies_1 rfl rfl ?_
    refine hf_icmp_lt (tgt := 14) dX12_lies_2 (by decide) (fun hc => ?_) (fun hc => ?_)
    · replace h := h.1 hc
      refine hf_iconst (v := 0) dX12_lies_14 (by decide) ?_
      refine hf_ireturn dX12_lies_15 rfl (by decide) ?_
      show hf_G X Y_X12_isValue (d + 1) _ _ 52 [some (.ref 156), some (.int x1)] [.int 0] (t, T, I, L, P) _
      refine hf_ireturn dX12_isValue_52 rfl (by decide) ?_
      exact h
    · replace h := h.2 hc
      refine hf_iload_n dX12_lies_5 rfl rfl ?_
      refine hf_iload_n dX12_lies_6 rfl rfl ?_
      refine hf_icmp_gt (tgt := 14) dX12_lies_7 (by decide) (fun hc => ?_) (fun hc => ?_)
      · replace h := h.1 hc
        refine hf_iconst (v := 0) dX12_lies_14 (by decide) ?_
        refine hf_ireturn dX12_lies_15 rfl (by decide) ?_
        show hf_G X Y_X12_isValue (d + 1) _ _ 52 [some (.ref 156), some (.int x1)] [.int 0] (t, T, I, L, P) _
        refine hf_ireturn dX12_isValue_52 rfl (by decide) ?_
        exact h
      · replace h := h.2 hc
        refine hf_iconst (v := 1) dX12_lies_10 (by decide) ?_
        refine hf_goto (tgt := 15) dX12_lies_11 (by decide) ?_
        refine hf_ireturn dX12_lies_15 rfl (by decide) ?_
        show hf_G X Y_X12_isValue (d + 1) _ _ 52 [some (.ref 156), some (.int x1)] [.int 1] (t, T, I, L, P) _
        refine hf_ireturn dX12_isValue_52 rfl (by decide) ?_
        exact h
  · replace h := h.2 hc
    refine hf_iload_n dX12_isValue_7 rfl rfl ?_
    refine hf_bipush (v := 9) dX12_isValue_8 (by decide) ?_
    refine hf_icmp_eq (tgt := 36) dX12_isValue_10 (by decide) (fun hc => ?_) (fun hc => ?_)
    · replace h := h.1 hc
      refine hf_iconst (v := 1) dX12_isValue_36 (by decide) ?_
      refine hf_goto (tgt := 52) dX12_isValue_37 (by decide) ?_
      refine hf_ireturn dX12_isValue_52 rfl (by decide) ?_
      exact h
    · replace h := h.2 hc
      refine hf_iload_n dX12_isValue_13 rfl rfl ?_
      refine hf_bipush (v := 13) dX12_isValue_14 (by decide) ?_
      refine hf_icmp_eq (tgt := 36) dX12_isValue_16 (by decide) (fun hc => ?_) (fun hc => ?_)
      · replace h := h.1 hc
        refine hf_iconst (v := 1) dX12_isValue_36 (by decide) ?_
        refine hf_goto (tgt := 52) dX12_isValue_37 (by decide) ?_
        refine hf_ireturn dX12_isValue_52 rfl (by decide) ?_
        exact h
      · replace h := h.2 hc
        refine hf_iload_n dX12_isValue_19 rfl rfl ?_
        refine hf_bipush (v := 18) dX12_isValue_20 (by decide) ?_
        refine hf_icmp_eq (tgt := 36) dX12_isValue_22 (by decide) (fun hc => ?_) (fun hc => ?_)
        · replace h := h.1 hc
          refine hf_iconst (v := 1) dX12_isValue_36 (by decide) ?_
          refine hf_goto (tgt := 52) dX12_isValue_37 (by decide) ?_
          refine hf_ireturn dX12_isValue_52 rfl (by decide) ?_
          exact h
        · replace h := h.2 hc
          refine hf_iload_n dX12_isValue_25 rfl rfl ?_
          refine hf_bipush (v := 21) dX12_isValue_26 (by decide) ?_
          refine hf_bipush (v := 24) dX12_isValue_28 (by decide) ?_
          refine hf_callS (as := [.int x1, .int 21, .int 24]) ok_X12_lies dX12_isValue_30 hw1143 hw1144 rfl (Nat.le_of_ble_eq_true rfl) rfl (Nat.le_of_ble_eq_true rfl) (Nat.zero_le _) (Nat.zero_le _) ?_
          show hf_G X Y_X12_lies d _ _ 0 [some (.int x1), some (.int 21), some (.int 24)] [] (t, T, I, L, P) _
          refine hf_iload_n dX12_lies_0 rfl rfl ?_
          refine hf_iload_n dX12_lies_1 rfl rfl ?_
          refine hf_icmp_lt (tgt := 14) dX12_lies_2 (by decide) (fun hc => ?_) (fun hc => ?_)
          · replace h := h.1 hc
            refine hf_iconst (v := 0) dX12_lies_14 (by decide) ?_
            refine hf_ireturn dX12_lies_15 rfl (by decide) ?_
            show hf_G X Y_X12_isValue (d + 1) _ _ 33 [some (.ref 156), some (.int x1)] [.int 0] (t, T, I, L, P) _
            refine hf_if_eq (tgt := 40) dX12_isValue_33 (by decide) (fun _ => ?_) (fun hc => absurd (show (0 : Int32) = (0 : Int32) by decide) hc)
            refine hf_iconst (v := 0) dX12_isValue_40 (by decide) ?_
            refine hf_goto (tgt := 52) dX12_isValue_41 (by decide) ?_
            refine hf_ireturn dX12_isValue_52 rfl (by decide) ?_
            exact h
          · replace h := h.2 hc
            refine hf_iload_n dX12_lies_5 rfl rfl ?_
            refine hf_iload_n dX12_lies_6 rfl rfl ?_
            refine hf_icmp_gt (tgt := 14) dX12_lies_7 (by decide) (fun hc => ?_) (fun hc => ?_)
            · replace h := h.1 hc
              refine hf_iconst (v := 0) dX12_lies_14 (by decide) ?_
              refine hf_ireturn dX12_lies_15 rfl (by decide) ?_
              show hf_G X Y_X12_isValue (d + 1) _ _ 33 [some (.ref 156), some (.int x1)] [.int 0] (t, T, I, L, P) _
              refine hf_if_eq (tgt := 40) dX12_isValue_33 (by decide) (fun _ => ?_) (fun hc => absurd (show (0 : Int32) = (0 : Int32) by decide) hc)
              refine hf_iconst (v := 0) dX12_isValue_40 (by decide) ?_
              refine hf_goto (tgt := 52) dX12_isValue_41 (by decide) ?_
              refine hf_ireturn dX12_isValue_52 rfl (by decide) ?_
              exact h
            · replace h := h.2 hc
              refine hf_iconst (v := 1) dX12_lies_10 (by decide) ?_
              refine hf_goto (tgt := 15) dX12_lies_11 (by decide) ?_
              refine hf_ireturn dX12_lies_15 rfl (by decide) ?_
              show hf_G X Y_X12_isValue (d + 1) _ _ 33 [some (.ref 156), some (.int x1)] [.int 1] (t, T, I, L, P) _
              refine hf_if_eq (tgt := 40) dX12_isValue_33 (by decide) (fun hc => absurd (show (1 : Int32) = (0 : Int32) from hc) (by decide)) (fun _ => ?_)
              refine hf_iconst (v := 1) dX12_isValue_36 (by decide) ?_
              refine hf_goto (tgt := 52) dX12_isValue_37 (by decide) ?_
              refine hf_ireturn dX12_isValue_52 rfl (by decide) ?_
              exact h

set_option maxHeartbeats 4000000 in
theorem w_X12_mustNumber_0 {X : hf_X} {d k n t : Nat} {T : hf_T} {I : hf_I} {L : hf_L} {P : hf_P} {Q : Option Value → hf_M → Prop} {x1 : Int32} {x2 : Int32} (hs : hf_Lay t T P) (h : (¬ (I 156 18) = (-1) → (¬ (I 156 18) = (-1) → Q none (t, T, I, L, P)) ∧ ((I 156 18) = (-1) → Q none (t, T, (hf_up I 156 16 ((I 156 16) + 1)), L, P))) ∧ ((I 156 18) = (-1) → vp_in (I 156 16) 401 ∧ ((¬ (I 165 (((I 156 16)).toNatClampNeg)) = 50 → (¬ (I 156 18) = (-1) → (¬ (I 156 18) = (-1) → Q none (t, T, I, L, P)) ∧ ((I 156 18) = (-1) → Q none (t, T, (hf_up I 156 16 ((I 156 16) + 1)), L, P))) ∧ ((I 156 18) = (-1) → vp_in (I 156 16) 401 ∧ ((¬ (I 167 (((I 156 16)).toNatClampNeg)) = (-1) → Q none (t, T, (hf_up I 156 18 (I 167 (((I 156 16)).toNatClampNeg))), L, P)) ∧ ((I 167 (((I 156 16)).toNatClampNeg)) = (-1) → Q none (t, T, (hf_up (hf_up I 156 18 (I 167 (((I 156 16)).toNatClampNeg))) 156 16 ((I 156 16) + 1)), L, P))))) ∧ ((I 165 (((I 156 16)).toNatClampNeg)) = 50 → vp_in (I 156 16) 401 ∧ (((I 166 (((I 156 16)).toNatClampNeg)) < x1 → (¬ (I 156 18) = (-1) → (¬ (I 156 18) = (-1) → Q none (t, T, I, L, P)) ∧ ((I 156 18) = (-1) → Q none (t, T, (hf_up I 156 16 ((I 156 16) + 1)), L, P))) ∧ ((I 156 18) = (-1) → vp_in (I 156 16) 401 ∧ ((¬ (I 167 (((I 156 16)).toNatClampNeg)) = (-1) → Q none (t, T, (hf_up I 156 18 (I 167 (((I 156 16)).toNatClampNeg))), L, P)) ∧ ((I 167 (((I 156 16)).toNatClampNeg)) = (-1) → Q none (t, T, (hf_up (hf_up I 156 18 (I 167 (((I 156 16)).toNatClampNeg))) 156 16 ((I 156 16) + 1)), L, P))))) ∧ (¬ ((I 166 (((I 156 16)).toNatClampNeg)) < x1) → (x2 < (I 166 (((I 156 16)).toNatClampNeg)) → (¬ (I 156 18) = (-1) → (¬ (I 156 18) = (-1) → Q none (t, T, I, L, P)) ∧ ((I 156 18) = (-1) → Q none (t, T, (hf_up I 156 16 ((I 156 16) + 1)), L, P))) ∧ ((I 156 18) = (-1) → vp_in (I 156 16) 401 ∧ ((¬ (I 167 (((I 156 16)).toNatClampNeg)) = (-1) → Q none (t, T, (hf_up I 156 18 (I 167 (((I 156 16)).toNatClampNeg))), L, P)) ∧ ((I 167 (((I 156 16)).toNatClampNeg)) = (-1) → Q none (t, T, (hf_up (hf_up I 156 18 (I 167 (((I 156 16)).toNatClampNeg))) 156 16 ((I 156 16) + 1)), L, P))))) ∧ (¬ (x2 < (I 166 (((I 156 16)).toNatClampNeg))) → (¬ (I 156 18) = (-1) → Q none (t, T, I, L, P)) ∧ ((I 156 18) = (-1) → Q none (t, T, (hf_up I 156 16 ((I 156 16) + 1)), L, P))))))))) : hf_G X Y_X12_mustNumber (d + 2) k n 0 (hf_en [.ref 156, .int x1, .int x2] 3) [] (t, T, I, L, P) Q := by
  show hf_G X Y_X12_mustNumber (d + 2) k n 0 [some (.ref 156), some (.int x1), some (.int x2)] [] (t, T, I, L, P) Q
  refine hf_aload_n dX12_mustNumber_0 rfl rfl ?_
  refine hf_callV (c := 12) (as := []) ok_X12_fine dX12_mustNumber_1 hw1308 hw1309 hw1632 (hs.2.1 156 _ rfl) (by decide) (hf_lin hs 156 rfl) rfl (Nat.le_of_ble_eq_true rfl) rfl (Nat.le_of_ble_eq_true rfl) (Nat.zero_le _) (Nat.zero_le _) ?_
  show hf_G X Y_X12_fine (d + 1) _ _ 0 [some (.ref 156)] [] (t, T, I, L, P) _
  refine hf_aload_n dX12_fine_0 rfl rfl ?_
  refine hf_geti (c := 12) (j := 18) dX12_fine_1 (hs.2.1 156 _ rfl) (hf_lin hs 156 rfl) (by decide) (by decide) hw1054 (Or.inl rfl) ?_
  refine hf_iconst (v := (-1)) dX12_fine_4 (by decide) ?_
  refine hf_icmp_ne (tgt := 12) dX12_fine_5 (by decide) (fun hc => ?_) (fun hc => ?_)
  · replace h := h.1 hc
    refine hf_iconst (v := 0) dX12_fine_12 (by decide) ?_
    refine hf_ireturn dX12_fine_13 rfl (by decide) ?_
    show hf_G X Y_X12_mustNumber (d + 2) _ _ 4 [some (.ref 156), some (.int x1), some (.int x2)] [.int 0] (t, T, I, L, P) _
    refine hf_if_eq (tgt := 42) dX12_mustNumber_4 (by decide) (fun _ => ?_) (fun hc => absurd (show (0 : Int32) = (0 : Int32) by decide) hc)
    refine hf_aload_n dX12_mustNumber_42 rfl rfl ?_
    refine hf_callV (c := 12) (as := []) ok_X12_fine dX12_mustNumber_43 hw1308 hw1309 hw1632 (hs.2.1 156 _ rfl) (by decide) (hf_lin hs 156 rfl) rfl (Nat.le_of_ble_eq_true rfl) rfl (Nat.le_of_ble_eq_true rfl) (Nat.zero_le _) (Nat.zero_le _) ?_
    show hf_G X Y_X12_fine (d + 1) _ _ 0 [some (.ref 156)] [] (t, T, I, L, P) _
    refine hf_aload_n dX12_fine_0 rfl rfl ?_
    refine hf_geti (c := 12) (j := 18) dX12_fine_1 (hs.2.1 156 _ rfl) (hf_lin hs 156 rfl) (by decide) (by decide) hw1054 (Or.inl rfl) ?_
    refine hf_iconst (v := (-1)) dX12_fine_4 (by decide) ?_
    refine hf_icmp_ne (tgt := 12) dX12_fine_5 (by decide) (fun hc => ?_) (fun hc => ?_)
    · replace h := h.1 hc
      refine hf_iconst (v := 0) dX12_fine_12 (by decide) ?_
      refine hf_ireturn dX12_fine_13 rfl (by decide) ?_
      show hf_G X Y_X12_mustNumber (d + 2) _ _ 46 [some (.ref 156), some (.int x1), some (.int x2)] [.int 0] (t, T, I, L, P) _
      refine hf_if_eq (tgt := 59) dX12_mustNumber_46 (by decide) (fun _ => ?_) (fun hc => absurd (show (0 : Int32) = (0 : Int32) by decide) hc)
      refine hf_return dX12_mustNumber_59 rfl ?_
      exact h
    · replace h := h.2 hc
      refine hf_iconst (v := 1) dX12_fine_8 (by decide) ?_
      refine hf_goto (tgt := 13) dX12_fine_9 (by decide) ?_
      refine hf_ireturn dX12_fine_13 rfl (by decide) ?_
      show hf_G X Y_X12_mustNumber (d + 2) _ _ 46 [some (.ref 156), some (.int x1), some (.int x2)] [.int 1] (t, T, I, L, P) _
      refine hf_if_eq (tgt := 59) dX12_mustNumber_46 (by decide) (fun hc => absurd (show (1 : Int32) = (0 : Int32) from hc) (by decide)) (fun _ => ?_)
      refine hf_aload_n dX12_mustNumber_49 rfl rfl ?_
      refine hf_dup dX12_mustNumber_50 rfl ?_
      refine hf_geti (c := 12) (j := 16) dX12_mustNumber_51 (hs.2.1 156 _ rfl) (hf_lin hs 156 rfl) (by decide) (by decide) hw1052 (Or.inl rfl) ?_
      refine hf_iconst (v := 1) dX12_mustNumber_54 (by decide) ?_
      refine hf_iadd dX12_mustNumber_55 ?_
      refine hf_puti (c := 12) (j := 16) dX12_mustNumber_56 (hs.2.1 156 _ rfl) (hf_lin hs 156 rfl) (by decide) (by decide) hw1052 rfl rfl ?_
      refine hf_return dX12_mustNumber_59 rfl ?_
      exact h
  · replace h := h.2 hc
    refine hf_iconst (v := 1) dX12_fine_8 (by decide) ?_
    refine hf_goto (tgt := 13) dX12_fine_9 (by decide) ?_
    refine hf_ireturn dX12_fine_13 rfl (by decide) ?_
    show hf_G X Y_X12_mustNumber (d + 2) _ _ 4 [some (.ref 156), some (.int x1), some (.int x2)] [.int 1] (t, T, I, L, P) _
    refine hf_if_eq (tgt := 42) dX12_mustNumber_4 (by decide) (fun hc => absurd (show (1 : Int32) = (0 : Int32) from hc) (by decide)) (fun _ => ?_)
    refine hf_aload_n dX12_mustNumber_7 rfl rfl ?_
    refine hf_getr (b := 165) (c := 12) (j := 12) dX12_mustNumber_8 (hs.2.1 156 _ rfl) (hf_lin hs 156 rfl) (by decide) (by decide) hw1048 rfl (hs.2.2 156 12 _ rfl) ?_
    refine hf_aload_n dX12_mustNumber_11 rfl rfl ?_
    refine hf_geti (c := 12) (j := 16) dX12_mustNumber_12 (hs.2.1 156 _ rfl) (hf_lin hs 156 rfl) (by decide) (by decide) hw1052 (Or.inl rfl) ?_
    refine hf_iald dX12_mustNumber_15 (hs.2.1 165 _ rfl) (hf_lin hs 165 rfl) h.1 ?_
    replace h := h.2
    refine hf_bipush (v := 50) dX12_mustNumber_16 (by decide) ?_
    refine hf_icmp_ne (tgt := 38) dX12_mustNumber_18 (by decide) (fun hc => ?_) (fun hc => ?_)
    · replace h := h.1 hc
      refine hf_aload_n dX12_mustNumber_38 rfl rfl ?_
      refine hf_callV (c := 12) (as := []) ok_X12_faults dX12_mustNumber_39 hw1320 hw1321 hw1636 (hs.2.1 156 _ rfl) (by decide) (hf_lin hs 156 rfl) rfl (Nat.le_of_ble_eq_true rfl) rfl (Nat.le_of_ble_eq_true rfl) (Nat.zero_le _) (Nat.zero_le _) ?_
      show hf_G X Y_X12_faults (d + 1) _ _ 0 [some (.ref 156)] [] (t, T, I, L, P) _
      refine hf_aload_n dX12_faults_0 rfl rfl ?_
      refine hf_callV (c := 12) (as := []) ok_X12_fine dX12_faults_1 hw1308 hw1309 hw1632 (hs.2.1 156 _ rfl) (by decide) (hf_lin hs 156 rfl) rfl (Nat.le_of_ble_eq_true rfl) rfl (Nat.le_of_ble_eq_true rfl) (Nat.zero_le _) (Nat.zero_le _) ?_
      show hf_G X Y_X12_fine d _ _ 0 [some (.ref 156)] [] (t, T, I, L, P) _
      refine hf_aload_n dX12_fine_0 rfl rfl ?_
      refine hf_geti (c := 12) (j := 18) dX12_fine_1 (hs.2.1 156 _ rfl) (hf_lin hs 156 rfl) (by decide) (by decide) hw1054 (Or.inl rfl) ?_
      refine hf_iconst (v := (-1)) dX12_fine_4 (by decide) ?_
      refine hf_icmp_ne (tgt := 12) dX12_fine_5 (by decide) (fun hc => ?_) (fun hc => ?_)
      · replace h := h.1 hc
        refine hf_iconst (v := 0) dX12_fine_12 (by decide) ?_
        refine hf_ireturn dX12_fine_13 rfl (by decide) ?_
        show hf_G X Y_X12_faults (d + 1) _ _ 4 [some (.ref 156)] [.int 0] (t, T, I, L, P) _
        refine hf_if_eq (tgt := 20) dX12_faults_4 (by decide) (fun _ => ?_) (fun hc => absurd (show (0 : Int32) = (0 : Int32) by decide) hc)
        refine hf_return dX12_faults_20 rfl ?_
        show hf_G X Y_X12_mustNumber (d + 2) _ _ 42 [some (.ref 156), some (.int x1), some (.int x2)] [] (t, T, I, L, P) _
        refine hf_aload_n dX12_mustNumber_42 rfl rfl ?_
        refine hf_callV (c := 12) (as := []) ok_X12_fine dX12_mustNumber_43 hw1308 hw1309 hw1632 (hs.2.1 156 _ rfl) (by decide) (hf_lin hs 156 rfl) rfl (Nat.le_of_ble_eq_true rfl) rfl (Nat.le_of_ble_eq_true rfl) (Nat.zero_le _) (Nat.zero_le _) ?_
        show hf_G X Y_X12_fine (d + 1) _ _ 0 [some (.ref 156)] [] (t, T, I, L, P) _
        refine hf_aload_n dX12_fine_0 rfl rfl ?_
        refine hf_geti (c := 12) (j := 18) dX12_fine_1 (hs.2.1 156 _ rfl) (hf_lin hs 156 rfl) (by decide) (by decide) hw1054 (Or.inl rfl) ?_
        refine hf_iconst (v := (-1)) dX12_fine_4 (by decide) ?_
        refine hf_icmp_ne (tgt := 12) dX12_fine_5 (by decide) (fun hc => ?_) (fun hc => ?_)
        · replace h := h.1 hc
          refine hf_iconst (v := 0) dX12_fine_12 (by decide) ?_
          refine hf_ireturn dX12_fine_13 rfl (by decide) ?_
          show hf_G X Y_X12_mustNumber (d + 2) _ _ 46 [some (.ref 156), some (.int x1), some (.int x2)] [.int 0] (t, T, I, L, P) _
          refine hf_if_eq (tgt := 59) dX12_mustNumber_46 (by decide) (fun _ => ?_) (fun hc => absurd (show (0 : Int32) = (0 : Int32) by decide) hc)
          refine hf_return dX12_mustNumber_59 rfl ?_
          exact h
        · replace h := h.2 hc
          refine hf_iconst (v := 1) dX12_fine_8 (by decide) ?_
          refine hf_goto (tgt := 13) dX12_fine_9 (by decide) ?_
          refine hf_ireturn dX12_fine_13 rfl (by decide) ?_
          show hf_G X Y_X12_mustNumber (d + 2) _ _ 46 [some (.ref 156), some (.int x1), some (.int x2)] [.int 1] (t, T, I, L, P) _
          refine hf_if_eq (tgt := 59) dX12_mustNumber_46 (by decide) (fun hc => absurd (show (1 : Int32) = (0 : Int32) from hc) (by decide)) (fun _ => ?_)
          refine hf_aload_n dX12_mustNumber_49 rfl rfl ?_
          refine hf_dup dX12_mustNumber_50 rfl ?_
          refine hf_geti (c := 12) (j := 16) dX12_mustNumber_51 (hs.2.1 156 _ rfl) (hf_lin hs 156 rfl) (by decide) (by decide) hw1052 (Or.inl rfl) ?_
          refine hf_iconst (v := 1) dX12_mustNumber_54 (by decide) ?_
          refine hf_iadd dX12_mustNumber_55 ?_
          refine hf_puti (c := 12) (j := 16) dX12_mustNumber_56 (hs.2.1 156 _ rfl) (hf_lin hs 156 rfl) (by decide) (by decide) hw1052 rfl rfl ?_
          refine hf_return dX12_mustNumber_59 rfl ?_
          exact h
      · replace h := h.2 hc
        refine hf_iconst (v := 1) dX12_fine_8 (by decide) ?_
        refine hf_goto (tgt := 13) dX12_fine_9 (by decide) ?_
        refine hf_ireturn dX12_fine_13 rfl (by decide) ?_
        show hf_G X Y_X12_faults (d + 1) _ _ 4 [some (.ref 156)] [.int 1] (t, T, I, L, P) _
        refine hf_if_eq (tgt := 20) dX12_faults_4 (by decide) (fun hc => absurd (show (1 : Int32) = (0 : Int32) from hc) (by decide)) (fun _ => ?_)
        refine hf_aload_n dX12_faults_7 rfl rfl ?_
        refine hf_aload_n dX12_faults_8 rfl rfl ?_
        refine hf_getr (b := 167) (c := 12) (j := 14) dX12_faults_9 (hs.2.1 156 _ rfl) (hf_lin hs 156 rfl) (by decide) (by decide) hw1050 rfl (hs.2.2 156 14 _ rfl) ?_
        refine hf_aload_n dX12_faults_12 rfl rfl ?_
        refine hf_geti (c := 12) (j := 16) dX12_faults_13 (hs.2.1 156 _ rfl) (hf_lin hs 156 rfl) (by decide) (by decide) hw1052 (Or.inl rfl) ?_
        refine hf_iald dX12_faults_16 (hs.2.1 167 _ rfl) (hf_lin hs 167 rfl) h.1 ?_
        replace h := h.2
        refine hf_puti (c := 12) (j := 18) dX12_faults_17 (hs.2.1 156 _ rfl) (hf_lin hs 156 rfl) (by decide) (by decide) hw1054 rfl rfl ?_
        refine hf_return dX12_faults_20 rfl ?_
        show hf_G X Y_X12_mustNumber (d + 2) _ _ 42 [some (.ref 156), some (.int x1), some (.int x2)] [] (t, T, (hf_up I 156 18 (I 167 (((I 156 16)).toNatClampNeg))), L, P) _
        refine hf_aload_n dX12_mustNumber_42 rfl rfl ?_
        refine hf_callV (c := 12) (as := []) ok_X12_fine dX12_mustNumber_43 hw1308 hw1309 hw1632 (hs.2.1 156 _ rfl) (by decide) (hf_lin hs 156 rfl) rfl (Nat.le_of_ble_eq_true rfl) rfl (Nat.le_of_ble_eq_true rfl) (Nat.zero_le _) (Nat.zero_le _) ?_
        show hf_G X Y_X12_fine (d + 1) _ _ 0 [some (.ref 156)] [] (t, T, (hf_up I 156 18 (I 167 (((I 156 16)).toNatClampNeg))), L, P) _
        refine hf_aload_n dX12_fine_0 rfl rfl ?_
        refine hf_geti (c := 12) (j := 18) dX12_fine_1 (hs.2.1 156 _ rfl) (hf_lin hs 156 rfl) (by decide) (by decide) hw1054 (Or.inl rfl) ?_
        refine hf_iconst (v := (-1)) dX12_fine_4 (by decide) ?_
        refine hf_icmp_ne (tgt := 12) dX12_fine_5 (by decide) (fun hc => ?_) (fun hc => ?_)
        · replace h := h.1 hc
          refine hf_iconst (v := 0) dX12_fine_12 (by decide) ?_
          refine hf_ireturn dX12_fine_13 rfl (by decide) ?_
          show hf_G X Y_X12_mustNumber (d + 2) _ _ 46 [some (.ref 156), some (.int x1), some (.int x2)] [.int 0] (t, T, (hf_up I 156 18 (I 167 (((I 156 16)).toNatClampNeg))), L, P) _
          refine hf_if_eq (tgt := 59) dX12_mustNumber_46 (by decide) (fun _ => ?_) (fun hc => absurd (show (0 : Int32) = (0 : Int32) by decide) hc)
          refine hf_return dX12_mustNumber_59 rfl ?_
          exact h
        · replace h := h.2 hc
          refine hf_iconst (v := 1) dX12_fine_8 (by decide) ?_
          refine hf_goto (tgt := 13) dX12_fine_9 (by decide) ?_
          refine hf_ireturn dX12_fine_13 rfl (by decide) ?_
          show hf_G X Y_X12_mustNumber (d + 2) _ _ 46 [some (.ref 156), some (.int x1), some (.int x2)] [.int 1] (t, T, (hf_up I 156 18 (I 167 (((I 156 16)).toNatClampNeg))), L, P) _
          refine hf_if_eq (tgt := 59) dX12_mustNumber_46 (by decide) (fun hc => absurd (show (1 : Int32) = (0 : Int32) from hc) (by decide)) (fun _ => ?_)
          refine hf_aload_n dX12_mustNumber_49 rfl rfl ?_
          refine hf_dup dX12_mustNumber_50 rfl ?_
          refine hf_geti (c := 12) (j := 16) dX12_mustNumber_51 (hs.2.1 156 _ rfl) (hf_lin hs 156 rfl) (by decide) (by decide) hw1052 (Or.inl rfl) ?_
          refine hf_iconst (v := 1) dX12_mustNumber_54 (by decide) ?_
          refine hf_iadd dX12_mustNumber_55 ?_
          refine hf_puti (c := 12) (j := 16) dX12_mustNumber_56 (hs.2.1 156 _ rfl) (hf_lin hs 156 rfl) (by decide) (by decide) hw1052 rfl rfl ?_
          refine hf_return dX12_mustNumber_59 rfl ?_
          exact h
    · replace h := h.2 hc
      refine hf_aload_n dX12_mustNumber_21 rfl rfl ?_
      refine hf_getr (b := 166) (c := 12) (j := 13) dX12_mustNumber_22 (hs.2.1 156 _ rfl) (hf_lin hs 156 rfl) (by decide) (by decide) hw1049 rfl (hs.2.2 156 13 _ rfl) ?_
      refine hf_aload_n dX12_mustNumber_25 rfl rfl ?_
      refine hf_geti (c := 12) (j := 16) dX12_mustNumber_26 (hs.2.1 156 _ rfl) (hf_lin hs 156 rfl) (by decide) (by decide) hw1052 (Or.inl rfl) ?_
      refine hf_iald dX12_mustNumber_29 (hs.2.1 166 _ rfl) (hf_lin hs 166 rfl) h.1 ?_
      replace h := h.2
      refine hf_iload_n dX12_mustNumber_30 rfl rfl ?_
      refine hf_iload_n dX12_mustNumber_31 rfl rfl ?_
      refine hf_callS (as := [.int (I 166 (((I 156 16)).toNatClampNeg)), .int x1, .int x2]) ok_X12_lies dX12_mustNumber_32 hw1143 hw1144 rfl (Nat.le_of_ble_eq_true rfl) rfl (Nat.le_of_ble_eq_true rfl) (Nat.zero_le _) (Nat.zero_le _) ?_
      show hf_G X Y_X12_lies (d + 1) _ _ 0 [some (.int (I 166 (((I 156 16)).toNatClampNeg))), some (.int x1), some (.int x2)] [] (t, T, I, L, P) _
      refine hf_iload_n dX12_lies_0 rfl rfl ?_
      refine hf_iload_n dX12_lies_1 rfl rfl ?_
      refine hf_icmp_lt (tgt := 14) dX12_lies_2 (by decide) (fun hc => ?_) (fun hc => ?_)
      · replace h := h.1 hc
        refine hf_iconst (v := 0) dX12_lies_14 (by decide) ?_
        refine hf_ireturn dX12_lies_15 rfl (by decide) ?_
        show hf_G X Y_X12_mustNumber (d + 2) _ _ 35 [some (.ref 156), some (.int x1), some (.int x2)] [.int 0] (t, T, I, L, P) _
        refine hf_if_ne (tgt := 42) dX12_mustNumber_35 (by decide) (fun hc => absurd (show ¬ (0 : Int32) = (0 : Int32) from hc) (by decide)) (fun _ => ?_)
        refine hf_aload_n dX12_mustNumber_38 rfl rfl ?_
        refine hf_callV (c := 12) (as := []) ok_X12_faults dX12_mustNumber_39 hw1320 hw1321 hw1636 (hs.2.1 156 _ rfl) (by decide) (hf_lin hs 156 rfl) rfl (Nat.le_of_ble_eq_true rfl) rfl (Nat.le_of_ble_eq_true rfl) (Nat.zero_le _) (Nat.zero_le _) ?_
        show hf_G X Y_X12_faults (d + 1) _ _ 0 [some (.ref 156)] [] (t, T, I, L, P) _
        refine hf_aload_n dX12_faults_0 rfl rfl ?_
        refine hf_callV (c := 12) (as := []) ok_X12_fine dX12_faults_1 hw1308 hw1309 hw1632 (hs.2.1 156 _ rfl) (by decide) (hf_lin hs 156 rfl) rfl (Nat.le_of_ble_eq_true rfl) rfl (Nat.le_of_ble_eq_true rfl) (Nat.zero_le _) (Nat.zero_le _) ?_
        show hf_G X Y_X12_fine d _ _ 0 [some (.ref 156)] [] (t, T, I, L, P) _
        refine hf_aload_n dX12_fine_0 rfl rfl ?_
        refine hf_geti (c := 12) (j := 18) dX12_fine_1 (hs.2.1 156 _ rfl) (hf_lin hs 156 rfl) (by decide) (by decide) hw1054 (Or.inl rfl) ?_
        refine hf_iconst (v := (-1)) dX12_fine_4 (by decide) ?_
        refine hf_icmp_ne (tgt := 12) dX12_fine_5 (by decide) (fun hc => ?_) (fun hc => ?_)
        · replace h := h.1 hc
          refine hf_iconst (v := 0) dX12_fine_12 (by decide) ?_
          refine hf_ireturn dX12_fine_13 rfl (by decide) ?_
          show hf_G X Y_X12_faults (d + 1) _ _ 4 [some (.ref 156)] [.int 0] (t, T, I, L, P) _
          refine hf_if_eq (tgt := 20) dX12_faults_4 (by decide) (fun _ => ?_) (fun hc => absurd (show (0 : Int32) = (0 : Int32) by decide) hc)
          refine hf_return dX12_faults_20 rfl ?_
          show hf_G X Y_X12_mustNumber (d + 2) _ _ 42 [some (.ref 156), some (.int x1), some (.int x2)] [] (t, T, I, L, P) _
          refine hf_aload_n dX12_mustNumber_42 rfl rfl ?_
          refine hf_callV (c := 12) (as := []) ok_X12_fine dX12_mustNumber_43 hw1308 hw1309 hw1632 (hs.2.1 156 _ rfl) (by decide) (hf_lin hs 156 rfl) rfl (Nat.le_of_ble_eq_true rfl) rfl (Nat.le_of_ble_eq_true rfl) (Nat.zero_le _) (Nat.zero_le _) ?_
          show hf_G X Y_X12_fine (d + 1) _ _ 0 [some (.ref 156)] [] (t, T, I, L, P) _
          refine hf_aload_n dX12_fine_0 rfl rfl ?_
          refine hf_geti (c := 12) (j := 18) dX12_fine_1 (hs.2.1 156 _ rfl) (hf_lin hs 156 rfl) (by decide) (by decide) hw1054 (Or.inl rfl) ?_
          refine hf_iconst (v := (-1)) dX12_fine_4 (by decide) ?_
          refine hf_icmp_ne (tgt := 12) dX12_fine_5 (by decide) (fun hc => ?_) (fun hc => ?_)
          · replace h := h.1 hc
            refine hf_iconst (v := 0) dX12_fine_12 (by decide) ?_
            refine hf_ireturn dX12_fine_13 rfl (by decide) ?_
            show hf_G X Y_X12_mustNumber (d + 2) _ _ 46 [some (.ref 156), some (.int x1), some (.int x2)] [.int 0] (t, T, I, L, P) _
            refine hf_if_eq (tgt := 59) dX12_mustNumber_46 (by decide) (fun _ => ?_) (fun hc => absurd (show (0 : Int32) = (0 : Int32) by decide) hc)
            refine hf_return dX12_mustNumber_59 rfl ?_
            exact h
          · replace h := h.2 hc
            refine hf_iconst (v := 1) dX12_fine_8 (by decide) ?_
            refine hf_goto (tgt := 13) dX12_fine_9 (by decide) ?_
            refine hf_ireturn dX12_fine_13 rfl (by decide) ?_
            show hf_G X Y_X12_mustNumber (d + 2) _ _ 46 [some (.ref 156), some (.int x1), some (.int x2)] [.int 1] (t, T, I, L, P) _
            refine hf_if_eq (tgt := 59) dX12_mustNumber_46 (by decide) (fun hc => absurd (show (1 : Int32) = (0 : Int32) from hc) (by decide)) (fun _ => ?_)
            refine hf_aload_n dX12_mustNumber_49 rfl rfl ?_
            refine hf_dup dX12_mustNumber_50 rfl ?_
            refine hf_geti (c := 12) (j := 16) dX12_mustNumber_51 (hs.2.1 156 _ rfl) (hf_lin hs 156 rfl) (by decide) (by decide) hw1052 (Or.inl rfl) ?_
            refine hf_iconst (v := 1) dX12_mustNumber_54 (by decide) ?_
            refine hf_iadd dX12_mustNumber_55 ?_
            refine hf_puti (c := 12) (j := 16) dX12_mustNumber_56 (hs.2.1 156 _ rfl) (hf_lin hs 156 rfl) (by decide) (by decide) hw1052 rfl rfl ?_
            refine hf_return dX12_mustNumber_59 rfl ?_
            exact h
        · replace h := h.2 hc
          refine hf_iconst (v := 1) dX12_fine_8 (by decide) ?_
          refine hf_goto (tgt := 13) dX12_fine_9 (by decide) ?_
          refine hf_ireturn dX12_fine_13 rfl (by decide) ?_
          show hf_G X Y_X12_faults (d + 1) _ _ 4 [some (.ref 156)] [.int 1] (t, T, I, L, P) _
          refine hf_if_eq (tgt := 20) dX12_faults_4 (by decide) (fun hc => absurd (show (1 : Int32) = (0 : Int32) from hc) (by decide)) (fun _ => ?_)
          refine hf_aload_n dX12_faults_7 rfl rfl ?_
          refine hf_aload_n dX12_faults_8 rfl rfl ?_
          refine hf_getr (b := 167) (c := 12) (j := 14) dX12_faults_9 (hs.2.1 156 _ rfl) (hf_lin hs 156 rfl) (by decide) (by decide) hw1050 rfl (hs.2.2 156 14 _ rfl) ?_
          refine hf_aload_n dX12_faults_12 rfl rfl ?_
          refine hf_geti (c := 12) (j := 16) dX12_faults_13 (hs.2.1 156 _ rfl) (hf_lin hs 156 rfl) (by decide) (by decide) hw1052 (Or.inl rfl) ?_
          refine hf_iald dX12_faults_16 (hs.2.1 167 _ rfl) (hf_lin hs 167 rfl) h.1 ?_
          replace h := h.2
          refine hf_puti (c := 12) (j := 18) dX12_faults_17 (hs.2.1 156 _ rfl) (hf_lin hs 156 rfl) (by decide) (by decide) hw1054 rfl rfl ?_
          refine hf_return dX12_faults_20 rfl ?_
          show hf_G X Y_X12_mustNumber (d + 2) _ _ 42 [some (.ref 156), some (.int x1), some (.int x2)] [] (t, T, (hf_up I 156 18 (I 167 (((I 156 16)).toNatClampNeg))), L, P) _
          refine hf_aload_n dX12_mustNumber_42 rfl rfl ?_
          refine hf_callV (c := 12) (as := []) ok_X12_fine dX12_mustNumber_43 hw1308 hw1309 hw1632 (hs.2.1 156 _ rfl) (by decide) (hf_lin hs 156 rfl) rfl (Nat.le_of_ble_eq_true rfl) rfl (Nat.le_of_ble_eq_true rfl) (Nat.zero_le _) (Nat.zero_le _) ?_
          show hf_G X Y_X12_fine (d + 1) _ _ 0 [some (.ref 156)] [] (t, T, (hf_up I 156 18 (I 167 (((I 156 16)).toNatClampNeg))), L, P) _
          refine hf_aload_n dX12_fine_0 rfl rfl ?_
          refine hf_geti (c := 12) (j := 18) dX12_fine_1 (hs.2.1 156 _ rfl) (hf_lin hs 156 rfl) (by decide) (by decide) hw1054 (Or.inl rfl) ?_
          refine hf_iconst (v := (-1)) dX12_fine_4 (by decide) ?_
          refine hf_icmp_ne (tgt := 12) dX12_fine_5 (by decide) (fun hc => ?_) (fun hc => ?_)
          · replace h := h.1 hc
            refine hf_iconst (v := 0) dX12_fine_12 (by decide) ?_
            refine hf_ireturn dX12_fine_13 rfl (by decide) ?_
            show hf_G X Y_X12_mustNumber (d + 2) _ _ 46 [some (.ref 156), some (.int x1), some (.int x2)] [.int 0] (t, T, (hf_up I 156 18 (I 167 (((I 156 16)).toNatClampNeg))), L, P) _
            refine hf_if_eq (tgt := 59) dX12_mustNumber_46 (by decide) (fun _ => ?_) (fun hc => absurd (show (0 : Int32) = (0 : Int32) by decide) hc)
            refine hf_return dX12_mustNumber_59 rfl ?_
            exact h
          · replace h := h.2 hc
            refine hf_iconst (v := 1) dX12_fine_8 (by decide) ?_
            refine hf_goto (tgt := 13) dX12_fine_9 (by decide) ?_
            refine hf_ireturn dX12_fine_13 rfl (by decide) ?_
            show hf_G X Y_X12_mustNumber (d + 2) _ _ 46 [some (.ref 156), some (.int x1), some (.int x2)] [.int 1] (t, T, (hf_up I 156 18 (I 167 (((I 156 16)).toNatClampNeg))), L, P) _
            refine hf_if_eq (tgt := 59) dX12_mustNumber_46 (by decide) (fun hc => absurd (show (1 : Int32) = (0 : Int32) from hc) (by decide)) (fun _ => ?_)
            refine hf_aload_n dX12_mustNumber_49 rfl rfl ?_
            refine hf_dup dX12_mustNumber_50 rfl ?_
            refine hf_geti (c := 12) (j := 16) dX12_mustNumber_51 (hs.2.1 156 _ rfl) (hf_lin hs 156 rfl) (by decide) (by decide) hw1052 (Or.inl rfl) ?_
            refine hf_iconst (v := 1) dX12_mustNumber_54 (by decide) ?_
            refine hf_iadd dX12_mustNumber_55 ?_
            refine hf_puti (c := 12) (j := 16) dX12_mustNumber_56 (hs.2.1 156 _ rfl) (hf_lin hs 156 rfl) (by decide) (by decide) hw1052 rfl rfl ?_
            refine hf_return dX12_mustNumber_59 rfl ?_
            exact h
      · replace h := h.2 hc
        refine hf_iload_n dX12_lies_5 rfl rfl ?_
        refine hf_iload_n dX12_lies_6 rfl rfl ?_
        refine hf_icmp_gt (tgt := 14) dX12_lies_7 (by decide) (fun hc => ?_) (fun hc => ?_)
        · replace h := h.1 hc
          refine hf_iconst (v := 0) dX12_lies_14 (by decide) ?_
          refine hf_ireturn dX12_lies_15 rfl (by decide) ?_
          show hf_G X Y_X12_mustNumber (d + 2) _ _ 35 [some (.ref 156), some (.int x1), some (.int x2)] [.int 0] (t, T, I, L, P) _
          refine hf_if_ne (tgt := 42) dX12_mustNumber_35 (by decide) (fun hc => absurd (show ¬ (0 : Int32) = (0 : Int32) from hc) (by decide)) (fun _ => ?_)
          refine hf_aload_n dX12_mustNumber_38 rfl rfl ?_
          refine hf_callV (c := 12) (as := []) ok_X12_faults dX12_mustNumber_39 hw1320 hw1321 hw1636 (hs.2.1 156 _ rfl) (by decide) (hf_lin hs 156 rfl) rfl (Nat.le_of_ble_eq_true rfl) rfl (Nat.le_of_ble_eq_true rfl) (Nat.zero_le _) (Nat.zero_le _) ?_
          show hf_G X Y_X12_faults (d + 1) _ _ 0 [some (.ref 156)] [] (t, T, I, L, P) _
          refine hf_aload_n dX12_faults_0 rfl rfl ?_
          refine hf_callV (c := 12) (as := []) ok_X12_fine dX12_faults_1 hw1308 hw1309 hw1632 (hs.2.1 156 _ rfl) (by decide) (hf_lin hs 156 rfl) rfl (Nat.le_of_ble_eq_true rfl) rfl (Nat.le_of_ble_eq_true rfl) (Nat.zero_le _) (Nat.zero_le _) ?_
          show hf_G X Y_X12_fine d _ _ 0 [some (.ref 156)] [] (t, T, I, L, P) _
          refine hf_aload_n dX12_fine_0 rfl rfl ?_
          refine hf_geti (c := 12) (j := 18) dX12_fine_1 (hs.2.1 156 _ rfl) (hf_lin hs 156 rfl) (by decide) (by decide) hw1054 (Or.inl rfl) ?_
          refine hf_iconst (v := (-1)) dX12_fine_4 (by decide) ?_
          refine hf_icmp_ne (tgt := 12) dX12_fine_5 (by decide) (fun hc => ?_) (fun hc => ?_)
          · replace h := h.1 hc
            refine hf_iconst (v := 0) dX12_fine_12 (by decide) ?_
            refine hf_ireturn dX12_fine_13 rfl (by decide) ?_
            show hf_G X Y_X12_faults (d + 1) _ _ 4 [some (.ref 156)] [.int 0] (t, T, I, L, P) _
            refine hf_if_eq (tgt := 20) dX12_faults_4 (by decide) (fun _ => ?_) (fun hc => absurd (show (0 : Int32) = (0 : Int32) by decide) hc)
            refine hf_return dX12_faults_20 rfl ?_
            show hf_G X Y_X12_mustNumber (d + 2) _ _ 42 [some (.ref 156), some (.int x1), some (.int x2)] [] (t, T, I, L, P) _
            refine hf_aload_n dX12_mustNumber_42 rfl rfl ?_
            refine hf_callV (c := 12) (as := []) ok_X12_fine dX12_mustNumber_43 hw1308 hw1309 hw1632 (hs.2.1 156 _ rfl) (by decide) (hf_lin hs 156 rfl) rfl (Nat.le_of_ble_eq_true rfl) rfl (Nat.le_of_ble_eq_true rfl) (Nat.zero_le _) (Nat.zero_le _) ?_
            show hf_G X Y_X12_fine (d + 1) _ _ 0 [some (.ref 156)] [] (t, T, I, L, P) _
            refine hf_aload_n dX12_fine_0 rfl rfl ?_
            refine hf_geti (c := 12) (j := 18) dX12_fine_1 (hs.2.1 156 _ rfl) (hf_lin hs 156 rfl) (by decide) (by decide) hw1054 (Or.inl rfl) ?_
            refine hf_iconst (v := (-1)) dX12_fine_4 (by decide) ?_
            refine hf_icmp_ne (tgt := 12) dX12_fine_5 (by decide) (fun hc => ?_) (fun hc => ?_)
            · replace h := h.1 hc
              refine hf_iconst (v := 0) dX12_fine_12 (by decide) ?_
              refine hf_ireturn dX12_fine_13 rfl (by decide) ?_
              show hf_G X Y_X12_mustNumber (d + 2) _ _ 46 [some (.ref 156), some (.int x1), some (.int x2)] [.int 0] (t, T, I, L, P) _
              refine hf_if_eq (tgt := 59) dX12_mustNumber_46 (by decide) (fun _ => ?_) (fun hc => absurd (show (0 : Int32) = (0 : Int32) by decide) hc)
              refine hf_return dX12_mustNumber_59 rfl ?_
              exact h
            · replace h := h.2 hc
              refine hf_iconst (v := 1) dX12_fine_8 (by decide) ?_
              refine hf_goto (tgt := 13) dX12_fine_9 (by decide) ?_
              refine hf_ireturn dX12_fine_13 rfl (by decide) ?_
              show hf_G X Y_X12_mustNumber (d + 2) _ _ 46 [some (.ref 156), some (.int x1), some (.int x2)] [.int 1] (t, T, I, L, P) _
              refine hf_if_eq (tgt := 59) dX12_mustNumber_46 (by decide) (fun hc => absurd (show (1 : Int32) = (0 : Int32) from hc) (by decide)) (fun _ => ?_)
              refine hf_aload_n dX12_mustNumber_49 rfl rfl ?_
              refine hf_dup dX12_mustNumber_50 rfl ?_
              refine hf_geti (c := 12) (j := 16) dX12_mustNumber_51 (hs.2.1 156 _ rfl) (hf_lin hs 156 rfl) (by decide) (by decide) hw1052 (Or.inl rfl) ?_
              refine hf_iconst (v := 1) dX12_mustNumber_54 (by decide) ?_
              refine hf_iadd dX12_mustNumber_55 ?_
              refine hf_puti (c := 12) (j := 16) dX12_mustNumber_56 (hs.2.1 156 _ rfl) (hf_lin hs 156 rfl) (by decide) (by decide) hw1052 rfl rfl ?_
              refine hf_return dX12_mustNumber_59 rfl ?_
              exact h
          · replace h := h.2 hc
            refine hf_iconst (v := 1) dX12_fine_8 (by decide) ?_
            refine hf_goto (tgt := 13) dX12_fine_9 (by decide) ?_
            refine hf_ireturn dX12_fine_13 rfl (by decide) ?_
            show hf_G X Y_X12_faults (d + 1) _ _ 4 [some (.ref 156)] [.int 1] (t, T, I, L, P) _
            refine hf_if_eq (tgt := 20) dX12_faults_4 (by decide) (fun hc => absurd (show (1 : Int32) = (0 : Int32) from hc) (by decide)) (fun _ => ?_)
            refine hf_aload_n dX12_faults_7 rfl rfl ?_
            refine hf_aload_n dX12_faults_8 rfl rfl ?_
            refine hf_getr (b := 167) (c := 12) (j := 14) dX12_faults_9 (hs.2.1 156 _ rfl) (hf_lin hs 156 rfl) (by decide) (by decide) hw1050 rfl (hs.2.2 156 14 _ rfl) ?_
            refine hf_aload_n dX12_faults_12 rfl rfl ?_
            refine hf_geti (c := 12) (j := 16) dX12_faults_13 (hs.2.1 156 _ rfl) (hf_lin hs 156 rfl) (by decide) (by decide) hw1052 (Or.inl rfl) ?_
            refine hf_iald dX12_faults_16 (hs.2.1 167 _ rfl) (hf_lin hs 167 rfl) h.1 ?_
            replace h := h.2
            refine hf_puti (c := 12) (j := 18) dX12_faults_17 (hs.2.1 156 _ rfl) (hf_lin hs 156 rfl) (by decide) (by decide) hw1054 rfl rfl ?_
            refine hf_return dX12_faults_20 rfl ?_
            show hf_G X Y_X12_mustNumber (d + 2) _ _ 42 [some (.ref 156), some (.int x1), some (.int x2)] [] (t, T, (hf_up I 156 18 (I 167 (((I 156 16)).toNatClampNeg))), L, P) _
            refine hf_aload_n dX12_mustNumber_42 rfl rfl ?_
            refine hf_callV (c := 12) (as := []) ok_X12_fine dX12_mustNumber_43 hw1308 hw1309 hw1632 (hs.2.1 156 _ rfl) (by decide) (hf_lin hs 156 rfl) rfl (Nat.le_of_ble_eq_true rfl) rfl (Nat.le_of_ble_eq_true rfl) (Nat.zero_le _) (Nat.zero_le _) ?_
            show hf_G X Y_X12_fine (d + 1) _ _ 0 [some (.ref 156)] [] (t, T, (hf_up I 156 18 (I 167 (((I 156 16)).toNatClampNeg))), L, P) _
            refine hf_aload_n dX12_fine_0 rfl rfl ?_
            refine hf_geti (c := 12) (j := 18) dX12_fine_1 (hs.2.1 156 _ rfl) (hf_lin hs 156 rfl) (by decide) (by decide) hw1054 (Or.inl rfl) ?_
            refine hf_iconst (v := (-1)) dX12_fine_4 (by decide) ?_
            refine hf_icmp_ne (tgt := 12) dX12_fine_5 (by decide) (fun hc => ?_) (fun hc => ?_)
            · replace h := h.1 hc
              refine hf_iconst (v := 0) dX12_fine_12 (by decide) ?_
              refine hf_ireturn dX12_fine_13 rfl (by decide) ?_
              show hf_G X Y_X12_mustNumber (d + 2) _ _ 46 [some (.ref 156), some (.int x1), some (.int x2)] [.int 0] (t, T, (hf_up I 156 18 (I 167 (((I 156 16)).toNatClampNeg))), L, P) _
              refine hf_if_eq (tgt := 59) dX12_mustNumber_46 (by decide) (fun _ => ?_) (fun hc => absurd (show (0 : Int32) = (0 : Int32) by decide) hc)
              refine hf_return dX12_mustNumber_59 rfl ?_
              exact h
            · replace h := h.2 hc
              refine hf_iconst (v := 1) dX12_fine_8 (by decide) ?_
              refine hf_goto (tgt := 13) dX12_fine_9 (by decide) ?_
              refine hf_ireturn dX12_fine_13 rfl (by decide) ?_
              show hf_G X Y_X12_mustNumber (d + 2) _ _ 46 [some (.ref 156), some (.int x1), some (.int x2)] [.int 1] (t, T, (hf_up I 156 18 (I 167 (((I 156 16)).toNatClampNeg))), L, P) _
              refine hf_if_eq (tgt := 59) dX12_mustNumber_46 (by decide) (fun hc => absurd (show (1 : Int32) = (0 : Int32) from hc) (by decide)) (fun _ => ?_)
              refine hf_aload_n dX12_mustNumber_49 rfl rfl ?_
              refine hf_dup dX12_mustNumber_50 rfl ?_
              refine hf_geti (c := 12) (j := 16) dX12_mustNumber_51 (hs.2.1 156 _ rfl) (hf_lin hs 156 rfl) (by decide) (by decide) hw1052 (Or.inl rfl) ?_
              refine hf_iconst (v := 1) dX12_mustNumber_54 (by decide) ?_
              refine hf_iadd dX12_mustNumber_55 ?_
              refine hf_puti (c := 12) (j := 16) dX12_mustNumber_56 (hs.2.1 156 _ rfl) (hf_lin hs 156 rfl) (by decide) (by decide) hw1052 rfl rfl ?_
              refine hf_return dX12_mustNumber_59 rfl ?_
              exact h
        · replace h := h.2 hc
          refine hf_iconst (v := 1) dX12_lies_10 (by decide) ?_
          refine hf_goto (tgt := 15) dX12_lies_11 (by decide) ?_
          refine hf_ireturn dX12_lies_15 rfl (by decide) ?_
          show hf_G X Y_X12_mustNumber (d + 2) _ _ 35 [some (.ref 156), some (.int x1), some (.int x2)] [.int 1] (t, T, I, L, P) _
          refine hf_if_ne (tgt := 42) dX12_mustNumber_35 (by decide) (fun _ => ?_) (fun hc => absurd (show (1 : Int32) = (0 : Int32) from hc) (by decide))
          refine hf_aload_n dX12_mustNumber_42 rfl rfl ?_
          refine hf_callV (c := 12) (as := []) ok_X12_fine dX12_mustNumber_43 hw1308 hw1309 hw1632 (hs.2.1 156 _ rfl) (by decide) (hf_lin hs 156 rfl) rfl (Nat.le_of_ble_eq_true rfl) rfl (Nat.le_of_ble_eq_true rfl) (Nat.zero_le _) (Nat.zero_le _) ?_
          show hf_G X Y_X12_fine (d + 1) _ _ 0 [some (.ref 156)] [] (t, T, I, L, P) _
          refine hf_aload_n dX12_fine_0 rfl rfl ?_
          refine hf_geti (c := 12) (j := 18) dX12_fine_1 (hs.2.1 156 _ rfl) (hf_lin hs 156 rfl) (by decide) (by decide) hw1054 (Or.inl rfl) ?_
          refine hf_iconst (v := (-1)) dX12_fine_4 (by decide) ?_
          refine hf_icmp_ne (tgt := 12) dX12_fine_5 (by decide) (fun hc => ?_) (fun hc => ?_)
          · replace h := h.1 hc
            refine hf_iconst (v := 0) dX12_fine_12 (by decide) ?_
            refine hf_ireturn dX12_fine_13 rfl (by decide) ?_
            show hf_G X Y_X12_mustNumber (d + 2) _ _ 46 [some (.ref 156), some (.int x1), some (.int x2)] [.int 0] (t, T, I, L, P) _
            refine hf_if_eq (tgt := 59) dX12_mustNumber_46 (by decide) (fun _ => ?_) (fun hc => absurd (show (0 : Int32) = (0 : Int32) by decide) hc)
            refine hf_return dX12_mustNumber_59 rfl ?_
            exact h
          · replace h := h.2 hc
            refine hf_iconst (v := 1) dX12_fine_8 (by decide) ?_
            refine hf_goto (tgt := 13) dX12_fine_9 (by decide) ?_
            refine hf_ireturn dX12_fine_13 rfl (by decide) ?_
            show hf_G X Y_X12_mustNumber (d + 2) _ _ 46 [some (.ref 156), some (.int x1), some (.int x2)] [.int 1] (t, T, I, L, P) _
            refine hf_if_eq (tgt := 59) dX12_mustNumber_46 (by decide) (fun hc => absurd (show (1 : Int32) = (0 : Int32) from hc) (by decide)) (fun _ => ?_)
            refine hf_aload_n dX12_mustNumber_49 rfl rfl ?_
            refine hf_dup dX12_mustNumber_50 rfl ?_
            refine hf_geti (c := 12) (j := 16) dX12_mustNumber_51 (hs.2.1 156 _ rfl) (hf_lin hs 156 rfl) (by decide) (by decide) hw1052 (Or.inl rfl) ?_
            refine hf_iconst (v := 1) dX12_mustNumber_54 (by decide) ?_
            refine hf_iadd dX12_mustNumber_55 ?_
            refine hf_puti (c := 12) (j := 16) dX12_mustNumber_56 (hs.2.1 156 _ rfl) (hf_lin hs 156 rfl) (by decide) (by decide) hw1052 rfl rfl ?_
            refine hf_return dX12_mustNumber_59 rfl ?_
            exact h

set_option maxHeartbeats 4000000 in
theorem w_X12_readClause_0 {X : hf_X} {d k n t : Nat} {T : hf_T} {I : hf_I} {L : hf_L} {P : hf_P} {Q : Option Value → hf_M → Prop}  (hs : hf_Lay t T P) (h : hf_G X Y_X12_takes0 d 0 0 0 (hf_en [.ref 156, .int 1] 3) [] (t, T, I, L, P) (fun r M => hf_G X Y_X12_readClause (d + 1) k n 5 [some (.ref 156)] (r.toList ++ []) M Q)) : hf_G X Y_X12_readClause (d + 1) k n 0 (hf_en [.ref 156] 1) [] (t, T, I, L, P) Q := by
  show hf_G X Y_X12_readClause (d + 1) k n 0 [some (.ref 156)] [] (t, T, I, L, P) Q
  refine hf_aload_n dX12_readClause_0 rfl rfl ?_
  refine hf_iconst (v := 1) dX12_readClause_1 (by decide) ?_
  exact hf_callV (c := 12) (as := [.int 1]) ok_X12_takes0 dX12_readClause_2 hw1305 hw1306 hw1631 (hs.2.1 156 _ rfl) (by decide) (hf_lin hs 156 rfl) rfl (Nat.le_of_ble_eq_true rfl) rfl (Nat.le_of_ble_eq_true rfl) (Nat.zero_le _) (Nat.zero_le _) h

set_option maxHeartbeats 4000000 in
theorem w_X12_readClause_5 {X : hf_X} {d k n t : Nat} {T : hf_T} {I : hf_I} {L : hf_L} {P : hf_P} {Q : Option Value → hf_M → Prop} {s0 : Int32} (hs : hf_Lay t T P) (h : (¬ s0 = 0 → hf_G X Y_X12_readSum d 0 0 0 (hf_en [.ref 156, .int 0] 2) [] (t, T, I, L, P) (fun r M => hf_G X Y_X12_readClause (d + 1) k n 21 [some (.ref 156)] (r.toList ++ []) M Q)) ∧ (s0 = 0 → hf_G X Y_X12_takes0 d 0 0 0 (hf_en [.ref 156, .int 2] 3) [] (t, T, I, L, P) (fun r M => hf_G X Y_X12_readClause (d + 1) k n 13 [some (.ref 156)] (r.toList ++ []) M Q))) : hf_G X Y_X12_readClause (d + 1) k n 5 [some (.ref 156)] [.int s0] (t, T, I, L, P) Q := by
  refine hf_if_ne (tgt := 16) dX12_readClause_5 (by decide) (fun hc => ?_) (fun hc => ?_)
  · replace h := h.1 hc
    refine hf_aload_n dX12_readClause_16 rfl rfl ?_
    refine hf_iconst (v := 0) dX12_readClause_17 (by decide) ?_
    exact hf_callV (c := 12) (as := [.int 0]) ok_X12_readSum dX12_readClause_18 hw1311 hw1312 hw1633 (hs.2.1 156 _ rfl) (by decide) (hf_lin hs 156 rfl) rfl (Nat.le_of_ble_eq_true rfl) rfl (Nat.le_of_ble_eq_true rfl) (Nat.zero_le _) (Nat.zero_le _) h
  · replace h := h.2 hc
    refine hf_aload_n dX12_readClause_8 rfl rfl ?_
    refine hf_iconst (v := 2) dX12_readClause_9 (by decide) ?_
    exact hf_callV (c := 12) (as := [.int 2]) ok_X12_takes0 dX12_readClause_10 hw1305 hw1306 hw1631 (hs.2.1 156 _ rfl) (by decide) (hf_lin hs 156 rfl) rfl (Nat.le_of_ble_eq_true rfl) rfl (Nat.le_of_ble_eq_true rfl) (Nat.zero_le _) (Nat.zero_le _) h

set_option maxHeartbeats 4000000 in
theorem w_X12_readClause_21 {X : hf_X} {d k n t : Nat} {T : hf_T} {I : hf_I} {L : hf_L} {P : hf_P} {Q : Option Value → hf_M → Prop}  (hs : hf_Lay t T P) (h : hf_G X Y_X12_takes0 d 0 0 0 (hf_en [.ref 156, .int 4] 3) [] (t, T, I, L, P) (fun r M => hf_G X Y_X12_readClause (d + 1) k n 34 [some (.ref 156)] (r.toList ++ []) M Q)) : hf_G X Y_X12_readClause (d + 1) k n 21 [some (.ref 156)] [] (t, T, I, L, P) Q := by
  refine hf_goto (tgt := 29) dX12_readClause_21 (by decide) ?_
  refine hf_aload_n dX12_readClause_29 rfl rfl ?_
  refine hf_iconst (v := 4) dX12_readClause_30 (by decide) ?_
  exact hf_callV (c := 12) (as := [.int 4]) ok_X12_takes0 dX12_readClause_31 hw1305 hw1306 hw1631 (hs.2.1 156 _ rfl) (by decide) (hf_lin hs 156 rfl) rfl (Nat.le_of_ble_eq_true rfl) rfl (Nat.le_of_ble_eq_true rfl) (Nat.zero_le _) (Nat.zero_le _) h

set_option maxHeartbeats 4000000 in
theorem w_X12_readClause_13 {X : hf_X} {d k n t : Nat} {T : hf_T} {I : hf_I} {L : hf_L} {P : hf_P} {Q : Option Value → hf_M → Prop} {s0 : Int32} (hs : hf_Lay t T P) (h : (s0 = 0 → hf_G X Y_X12_must d 0 0 0 (hf_en [.ref 156, .int 3] 2) [] (t, T, I, L, P) (fun r M => hf_G X Y_X12_readClause (d + 1) k n 29 [some (.ref 156)] (r.toList ++ []) M Q)) ∧ (¬ (s0 = 0) → hf_G X Y_X12_readSum d 0 0 0 (hf_en [.ref 156, .int 0] 2) [] (t, T, I, L, P) (fun r M => hf_G X Y_X12_readClause (d + 1) k n 21 [some (.ref 156)] (r.toList ++ []) M Q))) : hf_G X Y_X12_readClause (d + 1) k n 13 [some (.ref 156)] [.int s0] (t, T, I, L, P) Q := by
  refine hf_if_eq (tgt := 24) dX12_readClause_13 (by decide) (fun hc => ?_) (fun hc => ?_)
  · replace h := h.1 hc
    refine hf_aload_n dX12_readClause_24 rfl rfl ?_
    refine hf_iconst (v := 3) dX12_readClause_25 (by decide) ?_
    exact hf_callV (c := 12) (as := [.int 3]) ok_X12_must dX12_readClause_26 hw1323 hw1324 hw1637 (hs.2.1 156 _ rfl) (by decide) (hf_lin hs 156 rfl) rfl (Nat.le_of_ble_eq_true rfl) rfl (Nat.le_of_ble_eq_true rfl) (Nat.zero_le _) (Nat.zero_le _) h
  · replace h := h.2 hc
    refine hf_aload_n dX12_readClause_16 rfl rfl ?_
    refine hf_iconst (v := 0) dX12_readClause_17 (by decide) ?_
    exact hf_callV (c := 12) (as := [.int 0]) ok_X12_readSum dX12_readClause_18 hw1311 hw1312 hw1633 (hs.2.1 156 _ rfl) (by decide) (hf_lin hs 156 rfl) rfl (Nat.le_of_ble_eq_true rfl) rfl (Nat.le_of_ble_eq_true rfl) (Nat.zero_le _) (Nat.zero_le _) h

set_option maxHeartbeats 4000000 in
theorem w_X12_readClause_34 {X : hf_X} {d k n t : Nat} {T : hf_T} {I : hf_I} {L : hf_L} {P : hf_P} {Q : Option Value → hf_M → Prop} {s0 : Int32} (hs : hf_Lay t T P) (h : (s0 = 0 → Q none (t, T, I, L, P)) ∧ (¬ (s0 = 0) → hf_G X Y_X12_readTest d 0 0 0 (hf_en [.ref 156, .int 0] 2) [] (t, T, I, L, P) (fun r M => hf_G X Y_X12_readClause (d + 1) k n 42 [none] (r.toList ++ []) M Q))) : hf_G X Y_X12_readClause (d + 1) k n 34 [some (.ref 156)] [.int s0] (t, T, I, L, P) Q := by
  refine hf_if_eq (tgt := 42) dX12_readClause_34 (by decide) (fun hc => ?_) (fun hc => ?_)
  · replace h := h.1 hc
    refine hf_return dX12_readClause_42 rfl ?_
    exact h
  · replace h := h.2 hc
    refine hf_aload_n dX12_readClause_37 rfl rfl ?_
    refine hf_iconst (v := 0) dX12_readClause_38 (by decide) ?_
    exact hf_callV (c := 12) (as := [.int 0]) ok_X12_readTest dX12_readClause_39 hw1335 hw1336 hw1641 (hs.2.1 156 _ rfl) (by decide) (hf_lin hs 156 rfl) rfl (Nat.le_of_ble_eq_true rfl) rfl (Nat.le_of_ble_eq_true rfl) (Nat.zero_le _) (Nat.zero_le _) (hf_mono (fun r M q => hf_drop (l' := [none]) (by simp [hf_sub]) q) h)

set_option maxHeartbeats 4000000 in
theorem w_X12_readClause_29 {X : hf_X} {d k n t : Nat} {T : hf_T} {I : hf_I} {L : hf_L} {P : hf_P} {Q : Option Value → hf_M → Prop}  (hs : hf_Lay t T P) (h : hf_G X Y_X12_takes0 d 0 0 0 (hf_en [.ref 156, .int 4] 3) [] (t, T, I, L, P) (fun r M => hf_G X Y_X12_readClause (d + 1) k n 34 [some (.ref 156)] (r.toList ++ []) M Q)) : hf_G X Y_X12_readClause (d + 1) k n 29 [some (.ref 156)] [] (t, T, I, L, P) Q := by
  refine hf_aload_n dX12_readClause_29 rfl rfl ?_
  refine hf_iconst (v := 4) dX12_readClause_30 (by decide) ?_
  exact hf_callV (c := 12) (as := [.int 4]) ok_X12_takes0 dX12_readClause_31 hw1305 hw1306 hw1631 (hs.2.1 156 _ rfl) (by decide) (hf_lin hs 156 rfl) rfl (Nat.le_of_ble_eq_true rfl) rfl (Nat.le_of_ble_eq_true rfl) (Nat.zero_le _) (Nat.zero_le _) h

set_option maxHeartbeats 4000000 in
theorem w_X12_readClause_42 {X : hf_X} {d k n t : Nat} {T : hf_T} {I : hf_I} {L : hf_L} {P : hf_P} {Q : Option Value → hf_M → Prop}  (hs : hf_Lay t T P) (h : Q none (t, T, I, L, P)) : hf_G X Y_X12_readClause d k n 42 [none] [] (t, T, I, L, P) Q := by
  refine hf_return dX12_readClause_42 rfl ?_
  exact h

set_option maxHeartbeats 4000000 in
theorem w_X12_readSetting_0 {X : hf_X} {d k n t : Nat} {T : hf_T} {I : hf_I} {L : hf_L} {P : hf_P} {Q : Option Value → hf_M → Prop}  (hs : hf_Lay t T P) (h : hf_G X Y_X12_takes0 d 0 0 0 (hf_en [.ref 156, .int 25] 3) [] (t, T, I, L, P) (fun r M => hf_G X Y_X12_readSetting (d + 1) k n 6 [some (.ref 156)] (r.toList ++ []) M Q)) : hf_G X Y_X12_readSetting (d + 1) k n 0 (hf_en [.ref 156] 1) [] (t, T, I, L, P) Q := by
  show hf_G X Y_X12_readSetting (d + 1) k n 0 [some (.ref 156)] [] (t, T, I, L, P) Q
  refine hf_aload_n dX12_readSetting_0 rfl rfl ?_
  refine hf_bipush (v := 25) dX12_readSetting_1 (by decide) ?_
  exact hf_callV (c := 12) (as := [.int 25]) ok_X12_takes0 dX12_readSetting_3 hw1305 hw1306 hw1631 (hs.2.1 156 _ rfl) (by decide) (hf_lin hs 156 rfl) rfl (Nat.le_of_ble_eq_true rfl) rfl (Nat.le_of_ble_eq_true rfl) (Nat.zero_le _) (Nat.zero_le _) h

set_option maxHeartbeats 4000000 in
theorem w_X12_readSetting_6 {X : hf_X} {d k n t : Nat} {T : hf_T} {I : hf_I} {L : hf_L} {P : hf_P} {Q : Option Value → hf_M → Prop} {s0 : Int32} (hs : hf_Lay t T P) (h : (¬ s0 = 0 → hf_G X Y_X12_readSum d 0 0 0 (hf_en [.ref 156, .int 0] 2) [] (t, T, I, L, P) (fun r M => hf_G X Y_X12_readSetting (d + 1) k n 23 [some (.ref 156)] (r.toList ++ []) M Q)) ∧ (s0 = 0 → hf_G X Y_X12_takes0 d 0 0 0 (hf_en [.ref 156, .int 18] 3) [] (t, T, I, L, P) (fun r M => hf_G X Y_X12_readSetting (d + 1) k n 15 [some (.ref 156)] (r.toList ++ []) M Q))) : hf_G X Y_X12_readSetting (d + 1) k n 6 [some (.ref 156)] [.int s0] (t, T, I, L, P) Q := by
  refine hf_if_ne (tgt := 18) dX12_readSetting_6 (by decide) (fun hc => ?_) (fun hc => ?_)
  · replace h := h.1 hc
    refine hf_aload_n dX12_readSetting_18 rfl rfl ?_
    refine hf_iconst (v := 0) dX12_readSetting_19 (by decide) ?_
    exact hf_callV (c := 12) (as := [.int 0]) ok_X12_readSum dX12_readSetting_20 hw1311 hw1312 hw1633 (hs.2.1 156 _ rfl) (by decide) (hf_lin hs 156 rfl) rfl (Nat.le_of_ble_eq_true rfl) rfl (Nat.le_of_ble_eq_true rfl) (Nat.zero_le _) (Nat.zero_le _) h
  · replace h := h.2 hc
    refine hf_aload_n dX12_readSetting_9 rfl rfl ?_
    refine hf_bipush (v := 18) dX12_readSetting_10 (by decide) ?_
    exact hf_callV (c := 12) (as := [.int 18]) ok_X12_takes0 dX12_readSetting_12 hw1305 hw1306 hw1631 (hs.2.1 156 _ rfl) (by decide) (hf_lin hs 156 rfl) rfl (Nat.le_of_ble_eq_true rfl) rfl (Nat.le_of_ble_eq_true rfl) (Nat.zero_le _) (Nat.zero_le _) h

set_option maxHeartbeats 4000000 in
theorem w_X12_readSetting_23 {X : hf_X} {d k n t : Nat} {T : hf_T} {I : hf_I} {L : hf_L} {P : hf_P} {Q : Option Value → hf_M → Prop}  (hs : hf_Lay t T P) (h : hf_G X Y_X12_takes0 d 0 0 0 (hf_en [.ref 156, .int 28] 3) [] (t, T, I, L, P) (fun r M => hf_G X Y_X12_readSetting (d + 1) k n 47 [some (.ref 156)] (r.toList ++ []) M Q)) : hf_G X Y_X12_readSetting (d + 1) k n 23 [some (.ref 156)] [] (t, T, I, L, P) Q := by
  refine hf_goto (tgt := 41) dX12_readSetting_23 (by decide) ?_
  refine hf_aload_n dX12_readSetting_41 rfl rfl ?_
  refine hf_bipush (v := 28) dX12_readSetting_42 (by decide) ?_
  exact hf_callV (c := 12) (as := [.int 28]) ok_X12_takes0 dX12_readSetting_44 hw1305 hw1306 hw1631 (hs.2.1 156 _ rfl) (by decide) (hf_lin hs 156 rfl) rfl (Nat.le_of_ble_eq_true rfl) rfl (Nat.le_of_ble_eq_true rfl) (Nat.zero_le _) (Nat.zero_le _) h

set_option maxHeartbeats 4000000 in
theorem w_X12_readSetting_15 {X : hf_X} {d k n t : Nat} {T : hf_T} {I : hf_I} {L : hf_L} {P : hf_P} {Q : Option Value → hf_M → Prop} {s0 : Int32} (hs : hf_Lay t T P) (h : (s0 = 0 → hf_G X Y_X12_takes0 d 0 0 0 (hf_en [.ref 156, .int 26] 3) [] (t, T, I, L, P) (fun r M => hf_G X Y_X12_readSetting (d + 1) k n 32 [some (.ref 156)] (r.toList ++ []) M Q)) ∧ (¬ (s0 = 0) → hf_G X Y_X12_readSum d 0 0 0 (hf_en [.ref 156, .int 0] 2) [] (t, T, I, L, P) (fun r M => hf_G X Y_X12_readSetting (d + 1) k n 23 [some (.ref 156)] (r.toList ++ []) M Q))) : hf_G X Y_X12_readSetting (d + 1) k n 15 [some (.ref 156)] [.int s0] (t, T, I, L, P) Q := by
  refine hf_if_eq (tgt := 26) dX12_readSetting_15 (by decide) (fun hc => ?_) (fun hc => ?_)
  · replace h := h.1 hc
    refine hf_aload_n dX12_readSetting_26 rfl rfl ?_
    refine hf_bipush (v := 26) dX12_readSetting_27 (by decide) ?_
    exact hf_callV (c := 12) (as := [.int 26]) ok_X12_takes0 dX12_readSetting_29 hw1305 hw1306 hw1631 (hs.2.1 156 _ rfl) (by decide) (hf_lin hs 156 rfl) rfl (Nat.le_of_ble_eq_true rfl) rfl (Nat.le_of_ble_eq_true rfl) (Nat.zero_le _) (Nat.zero_le _) h
  · replace h := h.2 hc
    refine hf_aload_n dX12_readSetting_18 rfl rfl ?_
    refine hf_iconst (v := 0) dX12_readSetting_19 (by decide) ?_
    exact hf_callV (c := 12) (as := [.int 0]) ok_X12_readSum dX12_readSetting_20 hw1311 hw1312 hw1633 (hs.2.1 156 _ rfl) (by decide) (hf_lin hs 156 rfl) rfl (Nat.le_of_ble_eq_true rfl) rfl (Nat.le_of_ble_eq_true rfl) (Nat.zero_le _) (Nat.zero_le _) h

set_option maxHeartbeats 4000000 in
theorem w_X12_readSetting_47 {X : hf_X} {d k n t : Nat} {T : hf_T} {I : hf_I} {L : hf_L} {P : hf_P} {Q : Option Value → hf_M → Prop} {s0 : Int32} (hs : hf_Lay t T P) (h : (s0 = 0 → hf_G X Y_X12_takes0 d 0 0 0 (hf_en [.ref 156, .int 4] 3) [] (t, T, I, L, P) (fun r M => hf_G X Y_X12_readSetting (d + 1) k n 62 [some (.ref 156)] (r.toList ++ []) M Q)) ∧ (¬ (s0 = 0) → hf_G X Y_X12_mustNumber d 0 0 0 (hf_en [.ref 156, .int 1, .int 20] 3) [] (t, T, I, L, P) (fun r M => hf_G X Y_X12_readSetting (d + 1) k n 57 [some (.ref 156)] (r.toList ++ []) M Q))) : hf_G X Y_X12_readSetting (d + 1) k n 47 [some (.ref 156)] [.int s0] (t, T, I, L, P) Q := by
  refine hf_if_eq (tgt := 57) dX12_readSetting_47 (by decide) (fun hc => ?_) (fun hc => ?_)
  · replace h := h.1 hc
    refine hf_aload_n dX12_readSetting_57 rfl rfl ?_
    refine hf_iconst (v := 4) dX12_readSetting_58 (by decide) ?_
    exact hf_callV (c := 12) (as := [.int 4]) ok_X12_takes0 dX12_readSetting_59 hw1305 hw1306 hw1631 (hs.2.1 156 _ rfl) (by decide) (hf_lin hs 156 rfl) rfl (Nat.le_of_ble_eq_true rfl) rfl (Nat.le_of_ble_eq_true rfl) (Nat.zero_le _) (Nat.zero_le _) h
  · replace h := h.2 hc
    refine hf_aload_n dX12_readSetting_50 rfl rfl ?_
    refine hf_iconst (v := 1) dX12_readSetting_51 (by decide) ?_
    refine hf_bipush (v := 20) dX12_readSetting_52 (by decide) ?_
    exact hf_callV (c := 12) (as := [.int 1, .int 20]) ok_X12_mustNumber dX12_readSetting_54 hw1332 hw1333 hw1640 (hs.2.1 156 _ rfl) (by decide) (hf_lin hs 156 rfl) rfl (Nat.le_of_ble_eq_true rfl) rfl (Nat.le_of_ble_eq_true rfl) (Nat.zero_le _) (Nat.zero_le _) h

set_option maxHeartbeats 4000000 in
theorem w_X12_readSetting_32 {X : hf_X} {d k n t : Nat} {T : hf_T} {I : hf_I} {L : hf_L} {P : hf_P} {Q : Option Value → hf_M → Prop} {s0 : Int32} (hs : hf_Lay t T P) (h : (¬ s0 = 0 → hf_G X Y_X12_takes0 d 0 0 0 (hf_en [.ref 156, .int 28] 3) [] (t, T, I, L, P) (fun r M => hf_G X Y_X12_readSetting (d + 1) k n 47 [some (.ref 156)] (r.toList ++ []) M Q)) ∧ (s0 = 0 → hf_G X Y_X12_must d 0 0 0 (hf_en [.ref 156, .int 27] 2) [] (t, T, I, L, P) (fun r M => hf_G X Y_X12_readSetting (d + 1) k n 41 [some (.ref 156)] (r.toList ++ []) M Q))) : hf_G X Y_X12_readSetting (d + 1) k n 32 [some (.ref 156)] [.int s0] (t, T, I, L, P) Q := by
  refine hf_if_ne (tgt := 41) dX12_readSetting_32 (by decide) (fun hc => ?_) (fun hc => ?_)
  · replace h := h.1 hc
    refine hf_aload_n dX12_readSetting_41 rfl rfl ?_
    refine hf_bipush (v := 28) dX12_readSetting_42 (by decide) ?_
    exact hf_callV (c := 12) (as := [.int 28]) ok_X12_takes0 dX12_readSetting_44 hw1305 hw1306 hw1631 (hs.2.1 156 _ rfl) (by decide) (hf_lin hs 156 rfl) rfl (Nat.le_of_ble_eq_true rfl) rfl (Nat.le_of_ble_eq_true rfl) (Nat.zero_le _) (Nat.zero_le _) h
  · replace h := h.2 hc
    refine hf_aload_n dX12_readSetting_35 rfl rfl ?_
    refine hf_bipush (v := 27) dX12_readSetting_36 (by decide) ?_
    exact hf_callV (c := 12) (as := [.int 27]) ok_X12_must dX12_readSetting_38 hw1323 hw1324 hw1637 (hs.2.1 156 _ rfl) (by decide) (hf_lin hs 156 rfl) rfl (Nat.le_of_ble_eq_true rfl) rfl (Nat.le_of_ble_eq_true rfl) (Nat.zero_le _) (Nat.zero_le _) h

set_option maxHeartbeats 4000000 in
theorem w_X12_readSetting_62 {X : hf_X} {d k n t : Nat} {T : hf_T} {I : hf_I} {L : hf_L} {P : hf_P} {Q : Option Value → hf_M → Prop} {s0 : Int32} (hs : hf_Lay t T P) (h : (s0 = 0 → Q none (t, T, I, L, P)) ∧ (¬ (s0 = 0) → hf_G X Y_X12_readTest d 0 0 0 (hf_en [.ref 156, .int 0] 2) [] (t, T, I, L, P) (fun r M => hf_G X Y_X12_readSetting (d + 1) k n 70 [none] (r.toList ++ []) M Q))) : hf_G X Y_X12_readSetting (d + 1) k n 62 [some (.ref 156)] [.int s0] (t, T, I, L, P) Q := by
  refine hf_if_eq (tgt := 70) dX12_readSetting_62 (by decide) (fun hc => ?_) (fun hc => ?_)
  · replace h := h.1 hc
    refine hf_return dX12_readSetting_70 rfl ?_
    exact h
  · replace h := h.2 hc
    refine hf_aload_n dX12_readSetting_65 rfl rfl ?_
    refine hf_iconst (v := 0) dX12_readSetting_66 (by decide) ?_
    exact hf_callV (c := 12) (as := [.int 0]) ok_X12_readTest dX12_readSetting_67 hw1335 hw1336 hw1641 (hs.2.1 156 _ rfl) (by decide) (hf_lin hs 156 rfl) rfl (Nat.le_of_ble_eq_true rfl) rfl (Nat.le_of_ble_eq_true rfl) (Nat.zero_le _) (Nat.zero_le _) (hf_mono (fun r M q => hf_drop (l' := [none]) (by simp [hf_sub]) q) h)

set_option maxHeartbeats 4000000 in
theorem w_X12_readSetting_57 {X : hf_X} {d k n t : Nat} {T : hf_T} {I : hf_I} {L : hf_L} {P : hf_P} {Q : Option Value → hf_M → Prop}  (hs : hf_Lay t T P) (h : hf_G X Y_X12_takes0 d 0 0 0 (hf_en [.ref 156, .int 4] 3) [] (t, T, I, L, P) (fun r M => hf_G X Y_X12_readSetting (d + 1) k n 62 [some (.ref 156)] (r.toList ++ []) M Q)) : hf_G X Y_X12_readSetting (d + 1) k n 57 [some (.ref 156)] [] (t, T, I, L, P) Q := by
  refine hf_aload_n dX12_readSetting_57 rfl rfl ?_
  refine hf_iconst (v := 4) dX12_readSetting_58 (by decide) ?_
  exact hf_callV (c := 12) (as := [.int 4]) ok_X12_takes0 dX12_readSetting_59 hw1305 hw1306 hw1631 (hs.2.1 156 _ rfl) (by decide) (hf_lin hs 156 rfl) rfl (Nat.le_of_ble_eq_true rfl) rfl (Nat.le_of_ble_eq_true rfl) (Nat.zero_le _) (Nat.zero_le _) h

set_option maxHeartbeats 4000000 in
theorem w_X12_readSetting_41 {X : hf_X} {d k n t : Nat} {T : hf_T} {I : hf_I} {L : hf_L} {P : hf_P} {Q : Option Value → hf_M → Prop}  (hs : hf_Lay t T P) (h : hf_G X Y_X12_takes0 d 0 0 0 (hf_en [.ref 156, .int 28] 3) [] (t, T, I, L, P) (fun r M => hf_G X Y_X12_readSetting (d + 1) k n 47 [some (.ref 156)] (r.toList ++ []) M Q)) : hf_G X Y_X12_readSetting (d + 1) k n 41 [some (.ref 156)] [] (t, T, I, L, P) Q := by
  refine hf_aload_n dX12_readSetting_41 rfl rfl ?_
  refine hf_bipush (v := 28) dX12_readSetting_42 (by decide) ?_
  exact hf_callV (c := 12) (as := [.int 28]) ok_X12_takes0 dX12_readSetting_44 hw1305 hw1306 hw1631 (hs.2.1 156 _ rfl) (by decide) (hf_lin hs 156 rfl) rfl (Nat.le_of_ble_eq_true rfl) rfl (Nat.le_of_ble_eq_true rfl) (Nat.zero_le _) (Nat.zero_le _) h

set_option maxHeartbeats 4000000 in
theorem w_X12_readSetting_70 {X : hf_X} {d k n t : Nat} {T : hf_T} {I : hf_I} {L : hf_L} {P : hf_P} {Q : Option Value → hf_M → Prop}  (hs : hf_Lay t T P) (h : Q none (t, T, I, L, P)) : hf_G X Y_X12_readSetting d k n 70 [none] [] (t, T, I, L, P) Q := by
  refine hf_return dX12_readSetting_70 rfl ?_
  exact h

set_option maxHeartbeats 4000000 in
theorem w_X12_readOne_0 {X : hf_X} {d k n t : Nat} {T : hf_T} {I : hf_I} {L : hf_L} {P : hf_P} {Q : Option Value → hf_M → Prop}  (hs : hf_Lay t T P) (h : ((I 156 7) = 0 → hf_G X Y_X12_readClause d 0 0 0 (hf_en [.ref 156] 1) [] (t, T, I, L, P) (fun r M => hf_G X Y_X12_readOne (d + 1) k n 18 [none] (r.toList ++ []) M Q)) ∧ (¬ ((I 156 7) = 0) → hf_G X Y_X12_readSetting d 0 0 0 (hf_en [.ref 156] 1) [] (t, T, I, L, P) (fun r M => hf_G X Y_X12_readOne (d + 1) k n 11 [none] (r.toList ++ []) M Q))) : hf_G X Y_X12_readOne (d + 1) k n 0 (hf_en [.ref 156] 1) [] (t, T, I, L, P) Q := by
  show hf_G X Y_X12_readOne (d + 1) k n 0 [some (.ref 156)] [] (t, T, I, L, P) Q
  refine hf_aload_n dX12_readOne_0 rfl rfl ?_
  refine hf_geti (c := 12) (j := 7) dX12_readOne_1 (hs.2.1 156 _ rfl) (hf_lin hs 156 rfl) (by decide) (by decide) hw1043 (Or.inr rfl) ?_
  refine hf_if_eq (tgt := 14) dX12_readOne_4 (by decide) (fun hc => ?_) (fun hc => ?_)
  · replace h := h.1 hc
    refine hf_aload_n dX12_readOne_14 rfl rfl ?_
    exact hf_callV (c := 12) (as := []) ok_X12_readClause dX12_readOne_15 hw1344 hw1345 hw1644 (hs.2.1 156 _ rfl) (by decide) (hf_lin hs 156 rfl) rfl (Nat.le_of_ble_eq_true rfl) rfl (Nat.le_of_ble_eq_true rfl) (Nat.zero_le _) (Nat.zero_le _) (hf_mono (fun r M q => hf_drop (l' := [none]) (by simp [hf_sub]) q) h)
  · replace h := h.2 hc
    refine hf_aload_n dX12_readOne_7 rfl rfl ?_
    exact hf_callV (c := 12) (as := []) ok_X12_readSetting dX12_readOne_8 hw1302 hw1303 hw1630 (hs.2.1 156 _ rfl) (by decide) (hf_lin hs 156 rfl) rfl (Nat.le_of_ble_eq_true rfl) rfl (Nat.le_of_ble_eq_true rfl) (Nat.zero_le _) (Nat.zero_le _) (hf_mono (fun r M q => hf_drop (l' := [none]) (by simp [hf_sub]) q) h)

set_option maxHeartbeats 4000000 in
theorem w_X12_readOne_18 {X : hf_X} {d k n t : Nat} {T : hf_T} {I : hf_I} {L : hf_L} {P : hf_P} {Q : Option Value → hf_M → Prop}  (hs : hf_Lay t T P) (h : Q none (t, T, I, L, P)) : hf_G X Y_X12_readOne d k n 18 [none] [] (t, T, I, L, P) Q := by
  refine hf_return dX12_readOne_18 rfl ?_
  exact h

set_option maxHeartbeats 4000000 in
theorem w_X12_readOne_11 {X : hf_X} {d k n t : Nat} {T : hf_T} {I : hf_I} {L : hf_L} {P : hf_P} {Q : Option Value → hf_M → Prop}  (hs : hf_Lay t T P) (h : Q none (t, T, I, L, P)) : hf_G X Y_X12_readOne d k n 11 [none] [] (t, T, I, L, P) Q := by
  refine hf_goto (tgt := 18) dX12_readOne_11 (by decide) ?_
  refine hf_return dX12_readOne_18 rfl ?_
  exact h

set_option maxHeartbeats 4000000 in
theorem w_X12_readTest_0 {X : hf_X} {d k n t : Nat} {T : hf_T} {I : hf_I} {L : hf_L} {P : hf_P} {Q : Option Value → hf_M → Prop} {x1 : Int32} (hs : hf_Lay t T P) (h : hf_G X Y_X12_readBoth d 0 0 0 (hf_en [.ref 156, .int x1] 2) [] (t, T, I, L, P) (fun r M => hf_G X Y_X12_readTest (d + 1) k n 5 [some (.ref 156), some (.int x1)] (r.toList ++ []) M Q)) : hf_G X Y_X12_readTest (d + 1) k n 0 (hf_en [.ref 156, .int x1] 2) [] (t, T, I, L, P) Q := by
  show hf_G X Y_X12_readTest (d + 1) k n 0 [some (.ref 156), some (.int x1)] [] (t, T, I, L, P) Q
  refine hf_aload_n dX12_readTest_0 rfl rfl ?_
  refine hf_iload_n dX12_readTest_1 rfl rfl ?_
  exact hf_callV (c := 12) (as := [.int x1]) ok_X12_readBoth dX12_readTest_2 hw1338 hw1339 hw1642 (hs.2.1 156 _ rfl) (by decide) (hf_lin hs 156 rfl) rfl (Nat.le_of_ble_eq_true rfl) rfl (Nat.le_of_ble_eq_true rfl) (Nat.zero_le _) (Nat.zero_le _) h

set_option maxHeartbeats 4000000 in
theorem w_X12_readTest_5 {X : hf_X} {d k n t : Nat} {T : hf_T} {I : hf_I} {L : hf_L} {P : hf_P} {Q : Option Value → hf_M → Prop} {x1 : Int32} (hs : hf_Lay t T P) (h : hf_G X Y_X12_takes0 d 0 0 0 (hf_en [.ref 156, .int 5] 3) [] (t, T, I, L, P) (fun r M => hf_G X Y_X12_readTest (d + 1) k n 10 [some (.ref 156), some (.int x1)] (r.toList ++ []) M Q)) : hf_G X Y_X12_readTest (d + 1) k n 5 [some (.ref 156), some (.int x1)] [] (t, T, I, L, P) Q := by
  refine hf_aload_n dX12_readTest_5 rfl rfl ?_
  refine hf_iconst (v := 5) dX12_readTest_6 (by decide) ?_
  exact hf_callV (c := 12) (as := [.int 5]) ok_X12_takes0 dX12_readTest_7 hw1305 hw1306 hw1631 (hs.2.1 156 _ rfl) (by decide) (hf_lin hs 156 rfl) rfl (Nat.le_of_ble_eq_true rfl) rfl (Nat.le_of_ble_eq_true rfl) (Nat.zero_le _) (Nat.zero_le _) h

set_option maxHeartbeats 4000000 in
theorem w_X12_readTest_10 {X : hf_X} {d k n t : Nat} {T : hf_T} {I : hf_I} {L : hf_L} {P : hf_P} {Q : Option Value → hf_M → Prop} {x1 : Int32} {s0 : Int32} (hs : hf_Lay t T P) (h : (s0 = 0 → Q none (t, T, I, L, P)) ∧ (¬ (s0 = 0) → hf_G X Y_X12_readBoth d 0 0 0 (hf_en [.ref 156, .int x1] 2) [] (t, T, I, L, P) (fun r M => hf_G X Y_X12_readTest (d + 1) k n 18 [some (.ref 156), some (.int x1)] (r.toList ++ []) M Q))) : hf_G X Y_X12_readTest (d + 1) k n 10 [some (.ref 156), some (.int x1)] [.int s0] (t, T, I, L, P) Q := by
  refine hf_if_eq (tgt := 21) dX12_readTest_10 (by decide) (fun hc => ?_) (fun hc => ?_)
  · replace h := h.1 hc
    refine hf_return dX12_readTest_21 rfl ?_
    exact h
  · replace h := h.2 hc
    refine hf_aload_n dX12_readTest_13 rfl rfl ?_
    refine hf_iload_n dX12_readTest_14 rfl rfl ?_
    exact hf_callV (c := 12) (as := [.int x1]) ok_X12_readBoth dX12_readTest_15 hw1338 hw1339 hw1642 (hs.2.1 156 _ rfl) (by decide) (hf_lin hs 156 rfl) rfl (Nat.le_of_ble_eq_true rfl) rfl (Nat.le_of_ble_eq_true rfl) (Nat.zero_le _) (Nat.zero_le _) h

set_option maxHeartbeats 4000000 in
theorem w_X12_readTest_18 {X : hf_X} {d k n t : Nat} {T : hf_T} {I : hf_I} {L : hf_L} {P : hf_P} {Q : Option Value → hf_M → Prop} {x1 : Int32} (hs : hf_Lay t T P) (h : hf_G X Y_X12_readTest d k n 5 [some (.ref 156), some (.int x1)] [] (t, T, I, L, P) Q) : hf_G X Y_X12_readTest d k n 18 [some (.ref 156), some (.int x1)] [] (t, T, I, L, P) Q := by
  refine hf_goto (tgt := 5) dX12_readTest_18 (by decide) ?_
  exact h

set_option maxHeartbeats 4000000 in
theorem w_X12_readBoth_0 {X : hf_X} {d k n t : Nat} {T : hf_T} {I : hf_I} {L : hf_L} {P : hf_P} {Q : Option Value → hf_M → Prop} {x1 : Int32} (hs : hf_Lay t T P) (h : hf_G X Y_X12_readPlain d 0 0 0 (hf_en [.ref 156, .int x1] 4) [] (t, T, I, L, P) (fun r M => hf_G X Y_X12_readBoth (d + 1) k n 5 [some (.ref 156), some (.int x1)] (r.toList ++ []) M Q)) : hf_G X Y_X12_readBoth (d + 1) k n 0 (hf_en [.ref 156, .int x1] 2) [] (t, T, I, L, P) Q := by
  show hf_G X Y_X12_readBoth (d + 1) k n 0 [some (.ref 156), some (.int x1)] [] (t, T, I, L, P) Q
  refine hf_aload_n dX12_readBoth_0 rfl rfl ?_
  refine hf_iload_n dX12_readBoth_1 rfl rfl ?_
  exact hf_callV (c := 12) (as := [.int x1]) ok_X12_readPlain dX12_readBoth_2 hw1341 hw1342 hw1643 (hs.2.1 156 _ rfl) (by decide) (hf_lin hs 156 rfl) rfl (Nat.le_of_ble_eq_true rfl) rfl (Nat.le_of_ble_eq_true rfl) (Nat.zero_le _) (Nat.zero_le _) h

set_option maxHeartbeats 4000000 in
theorem w_X12_readBoth_5 {X : hf_X} {d k n t : Nat} {T : hf_T} {I : hf_I} {L : hf_L} {P : hf_P} {Q : Option Value → hf_M → Prop} {x1 : Int32} (hs : hf_Lay t T P) (h : hf_G X Y_X12_takes0 d 0 0 0 (hf_en [.ref 156, .int 6] 3) [] (t, T, I, L, P) (fun r M => hf_G X Y_X12_readBoth (d + 1) k n 11 [some (.ref 156), some (.int x1)] (r.toList ++ []) M Q)) : hf_G X Y_X12_readBoth (d + 1) k n 5 [some (.ref 156), some (.int x1)] [] (t, T, I, L, P) Q := by
  refine hf_aload_n dX12_readBoth_5 rfl rfl ?_
  refine hf_bipush (v := 6) dX12_readBoth_6 (by decide) ?_
  exact hf_callV (c := 12) (as := [.int 6]) ok_X12_takes0 dX12_readBoth_8 hw1305 hw1306 hw1631 (hs.2.1 156 _ rfl) (by decide) (hf_lin hs 156 rfl) rfl (Nat.le_of_ble_eq_true rfl) rfl (Nat.le_of_ble_eq_true rfl) (Nat.zero_le _) (Nat.zero_le _) h

set_option maxHeartbeats 4000000 in
theorem w_X12_readBoth_11 {X : hf_X} {d k n t : Nat} {T : hf_T} {I : hf_I} {L : hf_L} {P : hf_P} {Q : Option Value → hf_M → Prop} {x1 : Int32} {s0 : Int32} (hs : hf_Lay t T P) (h : (s0 = 0 → Q none (t, T, I, L, P)) ∧ (¬ (s0 = 0) → hf_G X Y_X12_readPlain d 0 0 0 (hf_en [.ref 156, .int x1] 4) [] (t, T, I, L, P) (fun r M => hf_G X Y_X12_readBoth (d + 1) k n 19 [some (.ref 156), some (.int x1)] (r.toList ++ []) M Q))) : hf_G X Y_X12_readBoth (d + 1) k n 11 [some (.ref 156), some (.int x1)] [.int s0] (t, T, I, L, P) Q := by
  refine hf_if_eq (tgt := 22) dX12_readBoth_11 (by decide) (fun hc => ?_) (fun hc => ?_)
  · replace h := h.1 hc
    refine hf_return dX12_readBoth_22 rfl ?_
    exact h
  · replace h := h.2 hc
    refine hf_aload_n dX12_readBoth_14 rfl rfl ?_
    refine hf_iload_n dX12_readBoth_15 rfl rfl ?_
    exact hf_callV (c := 12) (as := [.int x1]) ok_X12_readPlain dX12_readBoth_16 hw1341 hw1342 hw1643 (hs.2.1 156 _ rfl) (by decide) (hf_lin hs 156 rfl) rfl (Nat.le_of_ble_eq_true rfl) rfl (Nat.le_of_ble_eq_true rfl) (Nat.zero_le _) (Nat.zero_le _) h

set_option maxHeartbeats 4000000 in
theorem w_X12_readBoth_19 {X : hf_X} {d k n t : Nat} {T : hf_T} {I : hf_I} {L : hf_L} {P : hf_P} {Q : Option Value → hf_M → Prop} {x1 : Int32} (hs : hf_Lay t T P) (h : hf_G X Y_X12_readBoth d k n 5 [some (.ref 156), some (.int x1)] [] (t, T, I, L, P) Q) : hf_G X Y_X12_readBoth d k n 19 [some (.ref 156), some (.int x1)] [] (t, T, I, L, P) Q := by
  refine hf_goto (tgt := 5) dX12_readBoth_19 (by decide) ?_
  exact h

set_option maxHeartbeats 4000000 in
theorem w_X12_readPlain_0 {X : hf_X} {d k n t : Nat} {T : hf_T} {I : hf_I} {L : hf_L} {P : hf_P} {Q : Option Value → hf_M → Prop} {x1 : Int32} (hs : hf_Lay t T P) (h : hf_G X Y_X12_readPlain d k n 2 [some (.ref 156), some (.int x1), some (.int 1), none] [] (t, T, I, L, P) Q) : hf_G X Y_X12_readPlain d k n 0 (hf_en [.ref 156, .int x1] 4) [] (t, T, I, L, P) Q := by
  show hf_G X Y_X12_readPlain d k n 0 [some (.ref 156), some (.int x1), none, none] [] (t, T, I, L, P) Q
  refine hf_iconst (v := 1) dX12_readPlain_0 (by decide) ?_
  refine hf_istore_n (l2 := [some (.ref 156), some (.int x1), some (.int 1), none]) dX12_readPlain_1 rfl (by decide) rfl ?_
  exact h

set_option maxHeartbeats 4000000 in
theorem w_X12_readPlain_2 {X : hf_X} {d k n t : Nat} {T : hf_T} {I : hf_I} {L : hf_L} {P : hf_P} {Q : Option Value → hf_M → Prop} {x1 : Int32} {x2 : Int32} (hs : hf_Lay t T P) (h : (x2 = 0 → (¬ (I 156 18) = (-1) → Q none (t, T, I, L, P)) ∧ ((I 156 18) = (-1) → vp_in (I 156 16) 401 ∧ ((¬ (I 165 (((I 156 16)).toNatClampNeg)) = 140 → hf_G X Y_X12_readSum (d + 1) 0 0 0 (hf_en [.ref 156, .int x1] 2) [] (t, T, I, L, P) (fun r M => hf_G X Y_X12_readPlain (d + 2) k n 95 [some (.ref 156), some (.int x1), none, none] (r.toList ++ []) M Q)) ∧ ((I 165 (((I 156 16)).toNatClampNeg)) = 140 → (¬ x1 = 8 → (¬ (I 156 18) = (-1) → Q none (t, T, I, L, P)) ∧ ((I 156 18) = (-1) → hf_G X Y_X12_readTest (d + 1) 0 0 0 (hf_en [.ref 156, .int (x1 + 1)] 2) [] (t, T, (hf_up I 156 16 ((I 156 16) + 1)), L, P) (fun r M => hf_G X Y_X12_readPlain (d + 2) k n 78 [some (.ref 156), none, none, none] (r.toList ++ []) M Q))) ∧ (x1 = 8 → (¬ (I 156 18) = (-1) → (¬ (I 156 18) = (-1) → Q none (t, T, I, L, P)) ∧ ((I 156 18) = (-1) → hf_G X Y_X12_readTest (d + 1) 0 0 0 (hf_en [.ref 156, .int (x1 + 1)] 2) [] (t, T, (hf_up I 156 16 ((I 156 16) + 1)), L, P) (fun r M => hf_G X Y_X12_readPlain (d + 2) k n 78 [some (.ref 156), none, none, none] (r.toList ++ []) M Q))) ∧ ((I 156 18) = (-1) → vp_in (I 156 16) 401 ∧ ((¬ (I 167 (((I 156 16)).toNatClampNeg)) = (-1) → Q none (t, T, (hf_up I 156 18 (I 167 (((I 156 16)).toNatClampNeg))), L, P)) ∧ ((I 167 (((I 156 16)).toNatClampNeg)) = (-1) → hf_G X Y_X12_readTest (d + 1) 0 0 0 (hf_en [.ref 156, .int (x1 + 1)] 2) [] (t, T, (hf_up (hf_up I 156 18 (I 167 (((I 156 16)).toNatClampNeg))) 156 16 ((I 156 16) + 1)), L, P) (fun r M => hf_G X Y_X12_readPlain (d + 2) k n 78 [some (.ref 156), none, none, none] (r.toList ++ []) M Q))))))))) ∧ (¬ (x2 = 0) → hf_G X Y_X12_takes0 (d + 1) 0 0 0 (hf_en [.ref 156, .int 7] 3) [] (t, T, I, L, P) (fun r M => hf_G X Y_X12_readPlain (d + 2) k n 12 [some (.ref 156), some (.int x1), none, none] (r.toList ++ []) M Q))) : hf_G X Y_X12_readPlain (d + 2) k n 2 [some (.ref 156), some (.int x1), some (.int x2), none] [] (t, T, I, L, P) Q := by
  refine hf_iload_n dX12_readPlain_2 rfl rfl ?_
  refine hf_if_eq (tgt := 16) dX12_readPlain_3 (by decide) (fun hc => ?_) (fun hc => ?_)
  · replace h := h.1 hc
    refine hf_aload_n dX12_readPlain_16 rfl rfl ?_
    refine hf_callV (c := 12) (as := []) ok_X12_fine dX12_readPlain_17 hw1308 hw1309 hw1632 (hs.2.1 156 _ rfl) (by decide) (hf_lin hs 156 rfl) rfl (Nat.le_of_ble_eq_true rfl) rfl (Nat.le_of_ble_eq_true rfl) (Nat.zero_le _) (Nat.zero_le _) ?_
    show hf_G X Y_X12_fine (d + 1) _ _ 0 [some (.ref 156)] [] (t, T, I, L, P) _
    refine hf_aload_n dX12_fine_0 rfl rfl ?_
    refine hf_geti (c := 12) (j := 18) dX12_fine_1 (hs.2.1 156 _ rfl) (hf_lin hs 156 rfl) (by decide) (by decide) hw1054 (Or.inl rfl) ?_
    refine hf_iconst (v := (-1)) dX12_fine_4 (by decide) ?_
    refine hf_icmp_ne (tgt := 12) dX12_fine_5 (by decide) (fun hc => ?_) (fun hc => ?_)
    · replace h := h.1 hc
      refine hf_iconst (v := 0) dX12_fine_12 (by decide) ?_
      refine hf_ireturn dX12_fine_13 rfl (by decide) ?_
      show hf_G X Y_X12_readPlain (d + 2) _ _ 20 [some (.ref 156), some (.int x1), some (.int x2), none] [.int 0] (t, T, I, L, P) _
      refine hf_if_ne (tgt := 24) dX12_readPlain_20 (by decide) (fun hc => absurd (show ¬ (0 : Int32) = (0 : Int32) from hc) (by decide)) (fun _ => ?_)
      refine hf_return dX12_readPlain_23 rfl ?_
      exact h
    · replace h := h.2 hc
      refine hf_iconst (v := 1) dX12_fine_8 (by decide) ?_
      refine hf_goto (tgt := 13) dX12_fine_9 (by decide) ?_
      refine hf_ireturn dX12_fine_13 rfl (by decide) ?_
      show hf_G X Y_X12_readPlain (d + 2) _ _ 20 [some (.ref 156), some (.int x1), some (.int x2), none] [.int 1] (t, T, I, L, P) _
      refine hf_if_ne (tgt := 24) dX12_readPlain_20 (by decide) (fun _ => ?_) (fun hc => absurd (show (1 : Int32) = (0 : Int32) from hc) (by decide))
      refine hf_aload_n dX12_readPlain_24 rfl rfl ?_
      refine hf_getr (b := 165) (c := 12) (j := 12) dX12_readPlain_25 (hs.2.1 156 _ rfl) (hf_lin hs 156 rfl) (by decide) (by decide) hw1048 rfl (hs.2.2 156 12 _ rfl) ?_
      refine hf_aload_n dX12_readPlain_28 rfl rfl ?_
      refine hf_geti (c := 12) (j := 16) dX12_readPlain_29 (hs.2.1 156 _ rfl) (hf_lin hs 156 rfl) (by decide) (by decide) hw1052 (Or.inl rfl) ?_
      refine hf_iald dX12_readPlain_32 (hs.2.1 165 _ rfl) (hf_lin hs 165 rfl) h.1 ?_
      replace h := h.2
      refine hf_istore_n (l2 := [some (.ref 156), some (.int x1), some (.int x2), some (.int (I 165 (((I 156 16)).toNatClampNeg)))]) dX12_readPlain_33 rfl (by decide) rfl ?_
      refine hf_iload_n dX12_readPlain_34 rfl rfl ?_
      refine hf_bipush (v := 40) dX12_readPlain_35 (by decide) ?_
      refine hf_callS (as := [.int 40]) ok_X12_sign dX12_readPlain_37 hw1226 hw1227 rfl (Nat.le_of_ble_eq_true rfl) rfl (Nat.le_of_ble_eq_true rfl) (Nat.zero_le _) (Nat.zero_le _) ?_
      show hf_G X Y_X12_sign (d + 1) _ _ 0 [some (.int 40)] [] (t, T, I, L, P) _
      refine hf_bipush (v := 100) dX12_sign_0 (by decide) ?_
      refine hf_iload_n dX12_sign_2 rfl rfl ?_
      refine hf_iadd dX12_sign_3 ?_
      rw [show ((100 + 40) : Int32) = 140 by decide]
      refine hf_ireturn dX12_sign_4 rfl rfl ?_
      show hf_G X Y_X12_readPlain (d + 2) _ _ 40 [some (.ref 156), some (.int x1), some (.int x2), some (.int (I 165 (((I 156 16)).toNatClampNeg)))] [.int 140, .int (I 165 (((I 156 16)).toNatClampNeg))] (t, T, I, L, P) _
      refine hf_icmp_ne (tgt := 90) dX12_readPlain_40 (by decide) (fun hc => ?_) (fun hc => ?_)
      · replace h := h.1 hc
        refine hf_aload_n dX12_readPlain_90 rfl rfl ?_
        refine hf_iload_n dX12_readPlain_91 rfl rfl ?_
        exact hf_callV (c := 12) (as := [.int x1]) ok_X12_readSum dX12_readPlain_92 hw1311 hw1312 hw1633 (hs.2.1 156 _ rfl) (by decide) (hf_lin hs 156 rfl) rfl (Nat.le_of_ble_eq_true rfl) rfl (Nat.le_of_ble_eq_true rfl) (Nat.zero_le _) (Nat.zero_le _) (hf_mono (fun r M q => hf_drop (l' := [some (.ref 156), some (.int x1), none, none]) (by simp [hf_sub]) q) h)
      · replace h := h.2 hc
        refine hf_iload_n dX12_readPlain_43 rfl rfl ?_
        refine hf_bipush (v := 8) dX12_readPlain_44 (by decide) ?_
        refine hf_icmp_ne (tgt := 53) dX12_readPlain_46 (by decide) (fun hc => ?_) (fun hc => ?_)
        · replace h := h.1 hc
          refine hf_aload_n dX12_readPlain_53 rfl rfl ?_
          refine hf_callV (c := 12) (as := []) ok_X12_fine dX12_readPlain_54 hw1308 hw1309 hw1632 (hs.2.1 156 _ rfl) (by decide) (hf_lin hs 156 rfl) rfl (Nat.le_of_ble_eq_true rfl) rfl (Nat.le_of_ble_eq_true rfl) (Nat.zero_le _) (Nat.zero_le _) ?_
          show hf_G X Y_X12_fine (d + 1) _ _ 0 [some (.ref 156)] [] (t, T, I, L, P) _
          refine hf_aload_n dX12_fine_0 rfl rfl ?_
          refine hf_geti (c := 12) (j := 18) dX12_fine_1 (hs.2.1 156 _ rfl) (hf_lin hs 156 rfl) (by decide) (by decide) hw1054 (Or.inl rfl) ?_
          refine hf_iconst (v := (-1)) dX12_fine_4 (by decide) ?_
          refine hf_icmp_ne (tgt := 12) dX12_fine_5 (by decide) (fun hc => ?_) (fun hc => ?_)
          · replace h := h.1 hc
            refine hf_iconst (v := 0) dX12_fine_12 (by decide) ?_
            refine hf_ireturn dX12_fine_13 rfl (by decide) ?_
            show hf_G X Y_X12_readPlain (d + 2) _ _ 57 [some (.ref 156), some (.int x1), some (.int x2), some (.int (I 165 (((I 156 16)).toNatClampNeg)))] [.int 0] (t, T, I, L, P) _
            refine hf_if_ne (tgt := 61) dX12_readPlain_57 (by decide) (fun hc => absurd (show ¬ (0 : Int32) = (0 : Int32) from hc) (by decide)) (fun _ => ?_)
            refine hf_return dX12_readPlain_60 rfl ?_
            exact h
          · replace h := h.2 hc
            refine hf_iconst (v := 1) dX12_fine_8 (by decide) ?_
            refine hf_goto (tgt := 13) dX12_fine_9 (by decide) ?_
            refine hf_ireturn dX12_fine_13 rfl (by decide) ?_
            show hf_G X Y_X12_readPlain (d + 2) _ _ 57 [some (.ref 156), some (.int x1), some (.int x2), some (.int (I 165 (((I 156 16)).toNatClampNeg)))] [.int 1] (t, T, I, L, P) _
            refine hf_if_ne (tgt := 61) dX12_readPlain_57 (by decide) (fun _ => ?_) (fun hc => absurd (show (1 : Int32) = (0 : Int32) from hc) (by decide))
            refine hf_aload_n dX12_readPlain_61 rfl rfl ?_
            refine hf_dup dX12_readPlain_62 rfl ?_
            refine hf_geti (c := 12) (j := 16) dX12_readPlain_63 (hs.2.1 156 _ rfl) (hf_lin hs 156 rfl) (by decide) (by decide) hw1052 (Or.inl rfl) ?_
            refine hf_iconst (v := 1) dX12_readPlain_66 (by decide) ?_
            refine hf_iadd dX12_readPlain_67 ?_
            refine hf_puti (c := 12) (j := 16) dX12_readPlain_68 (hs.2.1 156 _ rfl) (hf_lin hs 156 rfl) (by decide) (by decide) hw1052 rfl rfl ?_
            refine hf_aload_n dX12_readPlain_71 rfl rfl ?_
            refine hf_iload_n dX12_readPlain_72 rfl rfl ?_
            refine hf_iconst (v := 1) dX12_readPlain_73 (by decide) ?_
            refine hf_iadd dX12_readPlain_74 ?_
            exact hf_callV (c := 12) (as := [.int (x1 + 1)]) ok_X12_readTest dX12_readPlain_75 hw1335 hw1336 hw1641 (hs.2.1 156 _ rfl) (by decide) (hf_lin hs 156 rfl) rfl (Nat.le_of_ble_eq_true rfl) rfl (Nat.le_of_ble_eq_true rfl) (Nat.zero_le _) (Nat.zero_le _) (hf_mono (fun r M q => hf_drop (l' := [some (.ref 156), none, none, none]) (by simp [hf_sub]) q) h)
        · replace h := h.2 hc
          refine hf_aload_n dX12_readPlain_49 rfl rfl ?_
          refine hf_callV (c := 12) (as := []) ok_X12_faults dX12_readPlain_50 hw1320 hw1321 hw1636 (hs.2.1 156 _ rfl) (by decide) (hf_lin hs 156 rfl) rfl (Nat.le_of_ble_eq_true rfl) rfl (Nat.le_of_ble_eq_true rfl) (Nat.zero_le _) (Nat.zero_le _) ?_
          show hf_G X Y_X12_faults (d + 1) _ _ 0 [some (.ref 156)] [] (t, T, I, L, P) _
          refine hf_aload_n dX12_faults_0 rfl rfl ?_
          refine hf_callV (c := 12) (as := []) ok_X12_fine dX12_faults_1 hw1308 hw1309 hw1632 (hs.2.1 156 _ rfl) (by decide) (hf_lin hs 156 rfl) rfl (Nat.le_of_ble_eq_true rfl) rfl (Nat.le_of_ble_eq_true rfl) (Nat.zero_le _) (Nat.zero_le _) ?_
          show hf_G X Y_X12_fine d _ _ 0 [some (.ref 156)] [] (t, T, I, L, P) _
          refine hf_aload_n dX12_fine_0 rfl rfl ?_
          refine hf_geti (c := 12) (j := 18) dX12_fine_1 (hs.2.1 156 _ rfl) (hf_lin hs 156 rfl) (by decide) (by decide) hw1054 (Or.inl rfl) ?_
          refine hf_iconst (v := (-1)) dX12_fine_4 (by decide) ?_
          refine hf_icmp_ne (tgt := 12) dX12_fine_5 (by decide) (fun hc => ?_) (fun hc => ?_)
          · replace h := h.1 hc
            refine hf_iconst (v := 0) dX12_fine_12 (by decide) ?_
            refine hf_ireturn dX12_fine_13 rfl (by decide) ?_
            show hf_G X Y_X12_faults (d + 1) _ _ 4 [some (.ref 156)] [.int 0] (t, T, I, L, P) _
            refine hf_if_eq (tgt := 20) dX12_faults_4 (by decide) (fun _ => ?_) (fun hc => absurd (show (0 : Int32) = (0 : Int32) by decide) hc)
            refine hf_return dX12_faults_20 rfl ?_
            show hf_G X Y_X12_readPlain (d + 2) _ _ 53 [some (.ref 156), some (.int x1), some (.int x2), some (.int (I 165 (((I 156 16)).toNatClampNeg)))] [] (t, T, I, L, P) _
            refine hf_aload_n dX12_readPlain_53 rfl rfl ?_
            refine hf_callV (c := 12) (as := []) ok_X12_fine dX12_readPlain_54 hw1308 hw1309 hw1632 (hs.2.1 156 _ rfl) (by decide) (hf_lin hs 156 rfl) rfl (Nat.le_of_ble_eq_true rfl) rfl (Nat.le_of_ble_eq_true rfl) (Nat.zero_le _) (Nat.zero_le _) ?_
            show hf_G X Y_X12_fine (d + 1) _ _ 0 [some (.ref 156)] [] (t, T, I, L, P) _
            refine hf_aload_n dX12_fine_0 rfl rfl ?_
            refine hf_geti (c := 12) (j := 18) dX12_fine_1 (hs.2.1 156 _ rfl) (hf_lin hs 156 rfl) (by decide) (by decide) hw1054 (Or.inl rfl) ?_
            refine hf_iconst (v := (-1)) dX12_fine_4 (by decide) ?_
            refine hf_icmp_ne (tgt := 12) dX12_fine_5 (by decide) (fun hc => ?_) (fun hc => ?_)
            · replace h := h.1 hc
              refine hf_iconst (v := 0) dX12_fine_12 (by decide) ?_
              refine hf_ireturn dX12_fine_13 rfl (by decide) ?_
              show hf_G X Y_X12_readPlain (d + 2) _ _ 57 [some (.ref 156), some (.int x1), some (.int x2), some (.int (I 165 (((I 156 16)).toNatClampNeg)))] [.int 0] (t, T, I, L, P) _
              refine hf_if_ne (tgt := 61) dX12_readPlain_57 (by decide) (fun hc => absurd (show ¬ (0 : Int32) = (0 : Int32) from hc) (by decide)) (fun _ => ?_)
              refine hf_return dX12_readPlain_60 rfl ?_
              exact h
            · replace h := h.2 hc
              refine hf_iconst (v := 1) dX12_fine_8 (by decide) ?_
              refine hf_goto (tgt := 13) dX12_fine_9 (by decide) ?_
              refine hf_ireturn dX12_fine_13 rfl (by decide) ?_
              show hf_G X Y_X12_readPlain (d + 2) _ _ 57 [some (.ref 156), some (.int x1), some (.int x2), some (.int (I 165 (((I 156 16)).toNatClampNeg)))] [.int 1] (t, T, I, L, P) _
              refine hf_if_ne (tgt := 61) dX12_readPlain_57 (by decide) (fun _ => ?_) (fun hc => absurd (show (1 : Int32) = (0 : Int32) from hc) (by decide))
              refine hf_aload_n dX12_readPlain_61 rfl rfl ?_
              refine hf_dup dX12_readPlain_62 rfl ?_
              refine hf_geti (c := 12) (j := 16) dX12_readPlain_63 (hs.2.1 156 _ rfl) (hf_lin hs 156 rfl) (by decide) (by decide) hw1052 (Or.inl rfl) ?_
              refine hf_iconst (v := 1) dX12_readPlain_66 (by decide) ?_
              refine hf_iadd dX12_readPlain_67 ?_
              refine hf_puti (c := 12) (j := 16) dX12_readPlain_68 (hs.2.1 156 _ rfl) (hf_lin hs 156 rfl) (by decide) (by decide) hw1052 rfl rfl ?_
              refine hf_aload_n dX12_readPlain_71 rfl rfl ?_
              refine hf_iload_n dX12_readPlain_72 rfl rfl ?_
              refine hf_iconst (v := 1) dX12_readPlain_73 (by decide) ?_
              refine hf_iadd dX12_readPlain_74 ?_
              exact hf_callV (c := 12) (as := [.int (x1 + 1)]) ok_X12_readTest dX12_readPlain_75 hw1335 hw1336 hw1641 (hs.2.1 156 _ rfl) (by decide) (hf_lin hs 156 rfl) rfl (Nat.le_of_ble_eq_true rfl) rfl (Nat.le_of_ble_eq_true rfl) (Nat.zero_le _) (Nat.zero_le _) (hf_mono (fun r M q => hf_drop (l' := [some (.ref 156), none, none, none]) (by simp [hf_sub]) q) h)
          · replace h := h.2 hc
            refine hf_iconst (v := 1) dX12_fine_8 (by decide) ?_
            refine hf_goto (tgt := 13) dX12_fine_9 (by decide) ?_
            refine hf_ireturn dX12_fine_13 rfl (by decide) ?_
            show hf_G X Y_X12_faults (d + 1) _ _ 4 [some (.ref 156)] [.int 1] (t, T, I, L, P) _
            refine hf_if_eq (tgt := 20) dX12_faults_4 (by decide) (fun hc => absurd (show (1 : Int32) = (0 : Int32) from hc) (by decide)) (fun _ => ?_)
            refine hf_aload_n dX12_faults_7 rfl rfl ?_
            refine hf_aload_n dX12_faults_8 rfl rfl ?_
            refine hf_getr (b := 167) (c := 12) (j := 14) dX12_faults_9 (hs.2.1 156 _ rfl) (hf_lin hs 156 rfl) (by decide) (by decide) hw1050 rfl (hs.2.2 156 14 _ rfl) ?_
            refine hf_aload_n dX12_faults_12 rfl rfl ?_
            refine hf_geti (c := 12) (j := 16) dX12_faults_13 (hs.2.1 156 _ rfl) (hf_lin hs 156 rfl) (by decide) (by decide) hw1052 (Or.inl rfl) ?_
            refine hf_iald dX12_faults_16 (hs.2.1 167 _ rfl) (hf_lin hs 167 rfl) h.1 ?_
            replace h := h.2
            refine hf_puti (c := 12) (j := 18) dX12_faults_17 (hs.2.1 156 _ rfl) (hf_lin hs 156 rfl) (by decide) (by decide) hw1054 rfl rfl ?_
            refine hf_return dX12_faults_20 rfl ?_
            show hf_G X Y_X12_readPlain (d + 2) _ _ 53 [some (.ref 156), some (.int x1), some (.int x2), some (.int (I 165 (((I 156 16)).toNatClampNeg)))] [] (t, T, (hf_up I 156 18 (I 167 (((I 156 16)).toNatClampNeg))), L, P) _
            refine hf_aload_n dX12_readPlain_53 rfl rfl ?_
            refine hf_callV (c := 12) (as := []) ok_X12_fine dX12_readPlain_54 hw1308 hw1309 hw1632 (hs.2.1 156 _ rfl) (by decide) (hf_lin hs 156 rfl) rfl (Nat.le_of_ble_eq_true rfl) rfl (Nat.le_of_ble_eq_true rfl) (Nat.zero_le _) (Nat.zero_le _) ?_
            show hf_G X Y_X12_fine (d + 1) _ _ 0 [some (.ref 156)] [] (t, T, (hf_up I 156 18 (I 167 (((I 156 16)).toNatClampNeg))), L, P) _
            refine hf_aload_n dX12_fine_0 rfl rfl ?_
            refine hf_geti (c := 12) (j := 18) dX12_fine_1 (hs.2.1 156 _ rfl) (hf_lin hs 156 rfl) (by decide) (by decide) hw1054 (Or.inl rfl) ?_
            refine hf_iconst (v := (-1)) dX12_fine_4 (by decide) ?_
            refine hf_icmp_ne (tgt := 12) dX12_fine_5 (by decide) (fun hc => ?_) (fun hc => ?_)
            · replace h := h.1 hc
              refine hf_iconst (v := 0) dX12_fine_12 (by decide) ?_
              refine hf_ireturn dX12_fine_13 rfl (by decide) ?_
              show hf_G X Y_X12_readPlain (d + 2) _ _ 57 [some (.ref 156), some (.int x1), some (.int x2), some (.int (I 165 (((I 156 16)).toNatClampNeg)))] [.int 0] (t, T, (hf_up I 156 18 (I 167 (((I 156 16)).toNatClampNeg))), L, P) _
              refine hf_if_ne (tgt := 61) dX12_readPlain_57 (by decide) (fun hc => absurd (show ¬ (0 : Int32) = (0 : Int32) from hc) (by decide)) (fun _ => ?_)
              refine hf_return dX12_readPlain_60 rfl ?_
              exact h
            · replace h := h.2 hc
              refine hf_iconst (v := 1) dX12_fine_8 (by decide) ?_
              refine hf_goto (tgt := 13) dX12_fine_9 (by decide) ?_
              refine hf_ireturn dX12_fine_13 rfl (by decide) ?_
              show hf_G X Y_X12_readPlain (d + 2) _ _ 57 [some (.ref 156), some (.int x1), some (.int x2), some (.int (I 165 (((I 156 16)).toNatClampNeg)))] [.int 1] (t, T, (hf_up I 156 18 (I 167 (((I 156 16)).toNatClampNeg))), L, P) _
              refine hf_if_ne (tgt := 61) dX12_readPlain_57 (by decide) (fun _ => ?_) (fun hc => absurd (show (1 : Int32) = (0 : Int32) from hc) (by decide))
              refine hf_aload_n dX12_readPlain_61 rfl rfl ?_
              refine hf_dup dX12_readPlain_62 rfl ?_
              refine hf_geti (c := 12) (j := 16) dX12_readPlain_63 (hs.2.1 156 _ rfl) (hf_lin hs 156 rfl) (by decide) (by decide) hw1052 (Or.inl rfl) ?_
              refine hf_iconst (v := 1) dX12_readPlain_66 (by decide) ?_
              refine hf_iadd dX12_readPlain_67 ?_
              refine hf_puti (c := 12) (j := 16) dX12_readPlain_68 (hs.2.1 156 _ rfl) (hf_lin hs 156 rfl) (by decide) (by decide) hw1052 rfl rfl ?_
              refine hf_aload_n dX12_readPlain_71 rfl rfl ?_
              refine hf_iload_n dX12_readPlain_72 rfl rfl ?_
              refine hf_iconst (v := 1) dX12_readPlain_73 (by decide) ?_
              refine hf_iadd dX12_readPlain_74 ?_
              exact hf_callV (c := 12) (as := [.int (x1 + 1)]) ok_X12_readTest dX12_readPlain_75 hw1335 hw1336 hw1641 (hs.2.1 156 _ rfl) (by decide) (hf_lin hs 156 rfl) rfl (Nat.le_of_ble_eq_true rfl) rfl (Nat.le_of_ble_eq_true rfl) (Nat.zero_le _) (Nat.zero_le _) (hf_mono (fun r M q => hf_drop (l' := [some (.ref 156), none, none, none]) (by simp [hf_sub]) q) h)
  · replace h := h.2 hc
    refine hf_aload_n dX12_readPlain_6 rfl rfl ?_
    refine hf_bipush (v := 7) dX12_readPlain_7 (by decide) ?_
    exact hf_callV (c := 12) (as := [.int 7]) ok_X12_takes0 dX12_readPlain_9 hw1305 hw1306 hw1631 (hs.2.1 156 _ rfl) (by decide) (hf_lin hs 156 rfl) rfl (Nat.le_of_ble_eq_true rfl) rfl (Nat.le_of_ble_eq_true rfl) (Nat.zero_le _) (Nat.zero_le _) (hf_mono (fun r M q => hf_drop (l' := [some (.ref 156), some (.int x1), none, none]) (by simp [hf_sub]) q) h)

set_option maxHeartbeats 4000000 in
theorem w_X12_readPlain_95 {X : hf_X} {d k n t : Nat} {T : hf_T} {I : hf_I} {L : hf_L} {P : hf_P} {Q : Option Value → hf_M → Prop} {x1 : Int32} (hs : hf_Lay t T P) (h : hf_G X Y_X12_takes0 d 0 0 0 (hf_en [.ref 156, .int 160] 3) [] (t, T, I, L, P) (fun r M => hf_G X Y_X12_readPlain (d + 1) k n 104 [some (.ref 156), some (.int x1), none, none] (r.toList ++ []) M Q)) : hf_G X Y_X12_readPlain (d + 1) k n 95 [some (.ref 156), some (.int x1), none, none] [] (t, T, I, L, P) Q := by
  refine hf_aload_n dX12_readPlain_95 rfl rfl ?_
  refine hf_bipush (v := 60) dX12_readPlain_96 (by decide) ?_
  refine hf_callS (as := [.int 60]) ok_X12_sign dX12_readPlain_98 hw1226 hw1227 rfl (Nat.le_of_ble_eq_true rfl) rfl (Nat.le_of_ble_eq_true rfl) (Nat.zero_le _) (Nat.zero_le _) ?_
  show hf_G X Y_X12_sign d _ _ 0 [some (.int 60)] [] (t, T, I, L, P) _
  refine hf_bipush (v := 100) dX12_sign_0 (by decide) ?_
  refine hf_iload_n dX12_sign_2 rfl rfl ?_
  refine hf_iadd dX12_sign_3 ?_
  rw [show ((100 + 60) : Int32) = 160 by decide]
  refine hf_ireturn dX12_sign_4 rfl rfl ?_
  show hf_G X Y_X12_readPlain (d + 1) _ _ 101 [some (.ref 156), some (.int x1), none, none] [.int 160, .ref 156] (t, T, I, L, P) _
  exact hf_callV (c := 12) (as := [.int 160]) ok_X12_takes0 dX12_readPlain_101 hw1305 hw1306 hw1631 (hs.2.1 156 _ rfl) (by decide) (hf_lin hs 156 rfl) rfl (Nat.le_of_ble_eq_true rfl) rfl (Nat.le_of_ble_eq_true rfl) (Nat.zero_le _) (Nat.zero_le _) h

set_option maxHeartbeats 4000000 in
theorem w_X12_readPlain_78 {X : hf_X} {d k n t : Nat} {T : hf_T} {I : hf_I} {L : hf_L} {P : hf_P} {Q : Option Value → hf_M → Prop}  (hs : hf_Lay t T P) (h : hf_G X Y_X12_must d 0 0 0 (hf_en [.ref 156, .int 141] 2) [] (t, T, I, L, P) (fun r M => hf_G X Y_X12_readPlain (d + 1) k n 87 [none, none, none, none] (r.toList ++ []) M Q)) : hf_G X Y_X12_readPlain (d + 1) k n 78 [some (.ref 156), none, none, none] [] (t, T, I, L, P) Q := by
  refine hf_aload_n dX12_readPlain_78 rfl rfl ?_
  refine hf_bipush (v := 41) dX12_readPlain_79 (by decide) ?_
  refine hf_callS (as := [.int 41]) ok_X12_sign dX12_readPlain_81 hw1226 hw1227 rfl (Nat.le_of_ble_eq_true rfl) rfl (Nat.le_of_ble_eq_true rfl) (Nat.zero_le _) (Nat.zero_le _) ?_
  show hf_G X Y_X12_sign d _ _ 0 [some (.int 41)] [] (t, T, I, L, P) _
  refine hf_bipush (v := 100) dX12_sign_0 (by decide) ?_
  refine hf_iload_n dX12_sign_2 rfl rfl ?_
  refine hf_iadd dX12_sign_3 ?_
  rw [show ((100 + 41) : Int32) = 141 by decide]
  refine hf_ireturn dX12_sign_4 rfl rfl ?_
  show hf_G X Y_X12_readPlain (d + 1) _ _ 84 [some (.ref 156), none, none, none] [.int 141, .ref 156] (t, T, I, L, P) _
  exact hf_callV (c := 12) (as := [.int 141]) ok_X12_must dX12_readPlain_84 hw1323 hw1324 hw1637 (hs.2.1 156 _ rfl) (by decide) (hf_lin hs 156 rfl) rfl (Nat.le_of_ble_eq_true rfl) rfl (Nat.le_of_ble_eq_true rfl) (Nat.zero_le _) (Nat.zero_le _) (hf_mono (fun r M q => hf_drop (l' := [none, none, none, none]) (by simp [hf_sub]) q) h)

set_option maxHeartbeats 4000000 in
theorem w_X12_readPlain_12 {X : hf_X} {d k n t : Nat} {T : hf_T} {I : hf_I} {L : hf_L} {P : hf_P} {Q : Option Value → hf_M → Prop} {x1 : Int32} {s0 : Int32} (hs : hf_Lay t T P) (h : hf_G X Y_X12_readPlain d k n 2 [some (.ref 156), some (.int x1), some (.int s0), none] [] (t, T, I, L, P) Q) : hf_G X Y_X12_readPlain d k n 12 [some (.ref 156), some (.int x1), none, none] [.int s0] (t, T, I, L, P) Q := by
  refine hf_istore_n (l2 := [some (.ref 156), some (.int x1), some (.int s0), none]) dX12_readPlain_12 rfl (by decide) rfl ?_
  refine hf_goto (tgt := 2) dX12_readPlain_13 (by decide) ?_
  exact h

set_option maxHeartbeats 4000000 in
theorem w_X12_readPlain_104 {X : hf_X} {d k n t : Nat} {T : hf_T} {I : hf_I} {L : hf_L} {P : hf_P} {Q : Option Value → hf_M → Prop} {x1 : Int32} {s0 : Int32} (hs : hf_Lay t T P) (h : (¬ s0 = 0 → hf_G X Y_X12_readSum d 0 0 0 (hf_en [.ref 156, .int x1] 2) [] (t, T, I, L, P) (fun r M => hf_G X Y_X12_readPlain (d + 1) k n 133 [none, none, none, none] (r.toList ++ []) M Q)) ∧ (s0 = 0 → hf_G X Y_X12_takes0 d 0 0 0 (hf_en [.ref 156, .int 162] 3) [] (t, T, I, L, P) (fun r M => hf_G X Y_X12_readPlain (d + 1) k n 116 [some (.ref 156), some (.int x1), none, none] (r.toList ++ []) M Q))) : hf_G X Y_X12_readPlain (d + 1) k n 104 [some (.ref 156), some (.int x1), none, none] [.int s0] (t, T, I, L, P) Q := by
  refine hf_if_ne (tgt := 128) dX12_readPlain_104 (by decide) (fun hc => ?_) (fun hc => ?_)
  · replace h := h.1 hc
    refine hf_aload_n dX12_readPlain_128 rfl rfl ?_
    refine hf_iload_n dX12_readPlain_129 rfl rfl ?_
    exact hf_callV (c := 12) (as := [.int x1]) ok_X12_readSum dX12_readPlain_130 hw1311 hw1312 hw1633 (hs.2.1 156 _ rfl) (by decide) (hf_lin hs 156 rfl) rfl (Nat.le_of_ble_eq_true rfl) rfl (Nat.le_of_ble_eq_true rfl) (Nat.zero_le _) (Nat.zero_le _) (hf_mono (fun r M q => hf_drop (l' := [none, none, none, none]) (by simp [hf_sub]) q) h)
  · replace h := h.2 hc
    refine hf_aload_n dX12_readPlain_107 rfl rfl ?_
    refine hf_bipush (v := 62) dX12_readPlain_108 (by decide) ?_
    refine hf_callS (as := [.int 62]) ok_X12_sign dX12_readPlain_110 hw1226 hw1227 rfl (Nat.le_of_ble_eq_true rfl) rfl (Nat.le_of_ble_eq_true rfl) (Nat.zero_le _) (Nat.zero_le _) ?_
    show hf_G X Y_X12_sign d _ _ 0 [some (.int 62)] [] (t, T, I, L, P) _
    refine hf_bipush (v := 100) dX12_sign_0 (by decide) ?_
    refine hf_iload_n dX12_sign_2 rfl rfl ?_
    refine hf_iadd dX12_sign_3 ?_
    rw [show ((100 + 62) : Int32) = 162 by decide]
    refine hf_ireturn dX12_sign_4 rfl rfl ?_
    show hf_G X Y_X12_readPlain (d + 1) _ _ 113 [some (.ref 156), some (.int x1), none, none] [.int 162, .ref 156] (t, T, I, L, P) _
    exact hf_callV (c := 12) (as := [.int 162]) ok_X12_takes0 dX12_readPlain_113 hw1305 hw1306 hw1631 (hs.2.1 156 _ rfl) (by decide) (hf_lin hs 156 rfl) rfl (Nat.le_of_ble_eq_true rfl) rfl (Nat.le_of_ble_eq_true rfl) (Nat.zero_le _) (Nat.zero_le _) h

set_option maxHeartbeats 4000000 in
theorem w_X12_readPlain_87 {X : hf_X} {d k n t : Nat} {T : hf_T} {I : hf_I} {L : hf_L} {P : hf_P} {Q : Option Value → hf_M → Prop}  (hs : hf_Lay t T P) (h : Q none (t, T, I, L, P)) : hf_G X Y_X12_readPlain d k n 87 [none, none, none, none] [] (t, T, I, L, P) Q := by
  refine hf_goto (tgt := 133) dX12_readPlain_87 (by decide) ?_
  refine hf_return dX12_readPlain_133 rfl ?_
  exact h

set_option maxHeartbeats 4000000 in
theorem w_X12_readPlain_133 {X : hf_X} {d k n t : Nat} {T : hf_T} {I : hf_I} {L : hf_L} {P : hf_P} {Q : Option Value → hf_M → Prop}  (hs : hf_Lay t T P) (h : Q none (t, T, I, L, P)) : hf_G X Y_X12_readPlain d k n 133 [none, none, none, none] [] (t, T, I, L, P) Q := by
  refine hf_return dX12_readPlain_133 rfl ?_
  exact h

set_option maxHeartbeats 4000000 in
theorem w_X12_readPlain_116 {X : hf_X} {d k n t : Nat} {T : hf_T} {I : hf_I} {L : hf_L} {P : hf_P} {Q : Option Value → hf_M → Prop} {x1 : Int32} {s0 : Int32} (hs : hf_Lay t T P) (h : (¬ s0 = 0 → hf_G X Y_X12_readSum d 0 0 0 (hf_en [.ref 156, .int x1] 2) [] (t, T, I, L, P) (fun r M => hf_G X Y_X12_readPlain (d + 1) k n 133 [none, none, none, none] (r.toList ++ []) M Q)) ∧ (s0 = 0 → hf_G X Y_X12_must d 0 0 0 (hf_en [.ref 156, .int 161] 2) [] (t, T, I, L, P) (fun r M => hf_G X Y_X12_readPlain (d + 1) k n 128 [some (.ref 156), some (.int x1), none, none] (r.toList ++ []) M Q))) : hf_G X Y_X12_readPlain (d + 1) k n 116 [some (.ref 156), some (.int x1), none, none] [.int s0] (t, T, I, L, P) Q := by
  refine hf_if_ne (tgt := 128) dX12_readPlain_116 (by decide) (fun hc => ?_) (fun hc => ?_)
  · replace h := h.1 hc
    refine hf_aload_n dX12_readPlain_128 rfl rfl ?_
    refine hf_iload_n dX12_readPlain_129 rfl rfl ?_
    exact hf_callV (c := 12) (as := [.int x1]) ok_X12_readSum dX12_readPlain_130 hw1311 hw1312 hw1633 (hs.2.1 156 _ rfl) (by decide) (hf_lin hs 156 rfl) rfl (Nat.le_of_ble_eq_true rfl) rfl (Nat.le_of_ble_eq_true rfl) (Nat.zero_le _) (Nat.zero_le _) (hf_mono (fun r M q => hf_drop (l' := [none, none, none, none]) (by simp [hf_sub]) q) h)
  · replace h := h.2 hc
    refine hf_aload_n dX12_readPlain_119 rfl rfl ?_
    refine hf_bipush (v := 61) dX12_readPlain_120 (by decide) ?_
    refine hf_callS (as := [.int 61]) ok_X12_sign dX12_readPlain_122 hw1226 hw1227 rfl (Nat.le_of_ble_eq_true rfl) rfl (Nat.le_of_ble_eq_true rfl) (Nat.zero_le _) (Nat.zero_le _) ?_
    show hf_G X Y_X12_sign d _ _ 0 [some (.int 61)] [] (t, T, I, L, P) _
    refine hf_bipush (v := 100) dX12_sign_0 (by decide) ?_
    refine hf_iload_n dX12_sign_2 rfl rfl ?_
    refine hf_iadd dX12_sign_3 ?_
    rw [show ((100 + 61) : Int32) = 161 by decide]
    refine hf_ireturn dX12_sign_4 rfl rfl ?_
    show hf_G X Y_X12_readPlain (d + 1) _ _ 125 [some (.ref 156), some (.int x1), none, none] [.int 161, .ref 156] (t, T, I, L, P) _
    exact hf_callV (c := 12) (as := [.int 161]) ok_X12_must dX12_readPlain_125 hw1323 hw1324 hw1637 (hs.2.1 156 _ rfl) (by decide) (hf_lin hs 156 rfl) rfl (Nat.le_of_ble_eq_true rfl) rfl (Nat.le_of_ble_eq_true rfl) (Nat.zero_le _) (Nat.zero_le _) h

set_option maxHeartbeats 4000000 in
theorem w_X12_readPlain_128 {X : hf_X} {d k n t : Nat} {T : hf_T} {I : hf_I} {L : hf_L} {P : hf_P} {Q : Option Value → hf_M → Prop} {x1 : Int32} (hs : hf_Lay t T P) (h : hf_G X Y_X12_readSum d 0 0 0 (hf_en [.ref 156, .int x1] 2) [] (t, T, I, L, P) (fun r M => hf_G X Y_X12_readPlain (d + 1) k n 133 [none, none, none, none] (r.toList ++ []) M Q)) : hf_G X Y_X12_readPlain (d + 1) k n 128 [some (.ref 156), some (.int x1), none, none] [] (t, T, I, L, P) Q := by
  refine hf_aload_n dX12_readPlain_128 rfl rfl ?_
  refine hf_iload_n dX12_readPlain_129 rfl rfl ?_
  exact hf_callV (c := 12) (as := [.int x1]) ok_X12_readSum dX12_readPlain_130 hw1311 hw1312 hw1633 (hs.2.1 156 _ rfl) (by decide) (hf_lin hs 156 rfl) rfl (Nat.le_of_ble_eq_true rfl) rfl (Nat.le_of_ble_eq_true rfl) (Nat.zero_le _) (Nat.zero_le _) (hf_mono (fun r M q => hf_drop (l' := [none, none, none, none]) (by simp [hf_sub]) q) h)

set_option maxHeartbeats 4000000 in
theorem w_X12_readSum_0 {X : hf_X} {d k n t : Nat} {T : hf_T} {I : hf_I} {L : hf_L} {P : hf_P} {Q : Option Value → hf_M → Prop} {x1 : Int32} (hs : hf_Lay t T P) (h : hf_G X Y_X12_readTerm d 0 0 0 (hf_en [.ref 156, .int x1] 2) [] (t, T, I, L, P) (fun r M => hf_G X Y_X12_readSum (d + 1) k n 5 [some (.ref 156), some (.int x1)] (r.toList ++ []) M Q)) : hf_G X Y_X12_readSum (d + 1) k n 0 (hf_en [.ref 156, .int x1] 2) [] (t, T, I, L, P) Q := by
  show hf_G X Y_X12_readSum (d + 1) k n 0 [some (.ref 156), some (.int x1)] [] (t, T, I, L, P) Q
  refine hf_aload_n dX12_readSum_0 rfl rfl ?_
  refine hf_iload_n dX12_readSum_1 rfl rfl ?_
  exact hf_callV (c := 12) (as := [.int x1]) ok_X12_readTerm dX12_readSum_2 hw1314 hw1315 hw1634 (hs.2.1 156 _ rfl) (by decide) (hf_lin hs 156 rfl) rfl (Nat.le_of_ble_eq_true rfl) rfl (Nat.le_of_ble_eq_true rfl) (Nat.zero_le _) (Nat.zero_le _) h

set_option maxHeartbeats 4000000 in
theorem w_X12_readSum_5 {X : hf_X} {d k n t : Nat} {T : hf_T} {I : hf_I} {L : hf_L} {P : hf_P} {Q : Option Value → hf_M → Prop} {x1 : Int32} (hs : hf_Lay t T P) (h : hf_G X Y_X12_takes0 d 0 0 0 (hf_en [.ref 156, .int 143] 3) [] (t, T, I, L, P) (fun r M => hf_G X Y_X12_readSum (d + 1) k n 14 [some (.ref 156), some (.int x1)] (r.toList ++ []) M Q)) : hf_G X Y_X12_readSum (d + 1) k n 5 [some (.ref 156), some (.int x1)] [] (t, T, I, L, P) Q := by
  refine hf_aload_n dX12_readSum_5 rfl rfl ?_
  refine hf_bipush (v := 43) dX12_readSum_6 (by decide) ?_
  refine hf_callS (as := [.int 43]) ok_X12_sign dX12_readSum_8 hw1226 hw1227 rfl (Nat.le_of_ble_eq_true rfl) rfl (Nat.le_of_ble_eq_true rfl) (Nat.zero_le _) (Nat.zero_le _) ?_
  show hf_G X Y_X12_sign d _ _ 0 [some (.int 43)] [] (t, T, I, L, P) _
  refine hf_bipush (v := 100) dX12_sign_0 (by decide) ?_
  refine hf_iload_n dX12_sign_2 rfl rfl ?_
  refine hf_iadd dX12_sign_3 ?_
  rw [show ((100 + 43) : Int32) = 143 by decide]
  refine hf_ireturn dX12_sign_4 rfl rfl ?_
  show hf_G X Y_X12_readSum (d + 1) _ _ 11 [some (.ref 156), some (.int x1)] [.int 143, .ref 156] (t, T, I, L, P) _
  exact hf_callV (c := 12) (as := [.int 143]) ok_X12_takes0 dX12_readSum_11 hw1305 hw1306 hw1631 (hs.2.1 156 _ rfl) (by decide) (hf_lin hs 156 rfl) rfl (Nat.le_of_ble_eq_true rfl) rfl (Nat.le_of_ble_eq_true rfl) (Nat.zero_le _) (Nat.zero_le _) h

set_option maxHeartbeats 4000000 in
theorem w_X12_readSum_14 {X : hf_X} {d k n t : Nat} {T : hf_T} {I : hf_I} {L : hf_L} {P : hf_P} {Q : Option Value → hf_M → Prop} {x1 : Int32} {s0 : Int32} (hs : hf_Lay t T P) (h : (¬ s0 = 0 → hf_G X Y_X12_readTerm d 0 0 0 (hf_en [.ref 156, .int x1] 2) [] (t, T, I, L, P) (fun r M => hf_G X Y_X12_readSum (d + 1) k n 34 [some (.ref 156), some (.int x1)] (r.toList ++ []) M Q)) ∧ (s0 = 0 → hf_G X Y_X12_takes0 d 0 0 0 (hf_en [.ref 156, .int 145] 3) [] (t, T, I, L, P) (fun r M => hf_G X Y_X12_readSum (d + 1) k n 26 [some (.ref 156), some (.int x1)] (r.toList ++ []) M Q))) : hf_G X Y_X12_readSum (d + 1) k n 14 [some (.ref 156), some (.int x1)] [.int s0] (t, T, I, L, P) Q := by
  refine hf_if_ne (tgt := 29) dX12_readSum_14 (by decide) (fun hc => ?_) (fun hc => ?_)
  · replace h := h.1 hc
    refine hf_aload_n dX12_readSum_29 rfl rfl ?_
    refine hf_iload_n dX12_readSum_30 rfl rfl ?_
    exact hf_callV (c := 12) (as := [.int x1]) ok_X12_readTerm dX12_readSum_31 hw1314 hw1315 hw1634 (hs.2.1 156 _ rfl) (by decide) (hf_lin hs 156 rfl) rfl (Nat.le_of_ble_eq_true rfl) rfl (Nat.le_of_ble_eq_true rfl) (Nat.zero_le _) (Nat.zero_le _) h
  · replace h := h.2 hc
    refine hf_aload_n dX12_readSum_17 rfl rfl ?_
    refine hf_bipush (v := 45) dX12_readSum_18 (by decide) ?_
    refine hf_callS (as := [.int 45]) ok_X12_sign dX12_readSum_20 hw1226 hw1227 rfl (Nat.le_of_ble_eq_true rfl) rfl (Nat.le_of_ble_eq_true rfl) (Nat.zero_le _) (Nat.zero_le _) ?_
    show hf_G X Y_X12_sign d _ _ 0 [some (.int 45)] [] (t, T, I, L, P) _
    refine hf_bipush (v := 100) dX12_sign_0 (by decide) ?_
    refine hf_iload_n dX12_sign_2 rfl rfl ?_
    refine hf_iadd dX12_sign_3 ?_
    rw [show ((100 + 45) : Int32) = 145 by decide]
    refine hf_ireturn dX12_sign_4 rfl rfl ?_
    show hf_G X Y_X12_readSum (d + 1) _ _ 23 [some (.ref 156), some (.int x1)] [.int 145, .ref 156] (t, T, I, L, P) _
    exact hf_callV (c := 12) (as := [.int 145]) ok_X12_takes0 dX12_readSum_23 hw1305 hw1306 hw1631 (hs.2.1 156 _ rfl) (by decide) (hf_lin hs 156 rfl) rfl (Nat.le_of_ble_eq_true rfl) rfl (Nat.le_of_ble_eq_true rfl) (Nat.zero_le _) (Nat.zero_le _) h

set_option maxHeartbeats 4000000 in
theorem w_X12_readSum_34 {X : hf_X} {d k n t : Nat} {T : hf_T} {I : hf_I} {L : hf_L} {P : hf_P} {Q : Option Value → hf_M → Prop} {x1 : Int32} (hs : hf_Lay t T P) (h : hf_G X Y_X12_readSum d k n 5 [some (.ref 156), some (.int x1)] [] (t, T, I, L, P) Q) : hf_G X Y_X12_readSum d k n 34 [some (.ref 156), some (.int x1)] [] (t, T, I, L, P) Q := by
  refine hf_goto (tgt := 5) dX12_readSum_34 (by decide) ?_
  exact h

set_option maxHeartbeats 4000000 in
theorem w_X12_readSum_26 {X : hf_X} {d k n t : Nat} {T : hf_T} {I : hf_I} {L : hf_L} {P : hf_P} {Q : Option Value → hf_M → Prop} {x1 : Int32} {s0 : Int32} (hs : hf_Lay t T P) (h : (s0 = 0 → Q none (t, T, I, L, P)) ∧ (¬ (s0 = 0) → hf_G X Y_X12_readTerm d 0 0 0 (hf_en [.ref 156, .int x1] 2) [] (t, T, I, L, P) (fun r M => hf_G X Y_X12_readSum (d + 1) k n 34 [some (.ref 156), some (.int x1)] (r.toList ++ []) M Q))) : hf_G X Y_X12_readSum (d + 1) k n 26 [some (.ref 156), some (.int x1)] [.int s0] (t, T, I, L, P) Q := by
  refine hf_if_eq (tgt := 37) dX12_readSum_26 (by decide) (fun hc => ?_) (fun hc => ?_)
  · replace h := h.1 hc
    refine hf_return dX12_readSum_37 rfl ?_
    exact h
  · replace h := h.2 hc
    refine hf_aload_n dX12_readSum_29 rfl rfl ?_
    refine hf_iload_n dX12_readSum_30 rfl rfl ?_
    exact hf_callV (c := 12) (as := [.int x1]) ok_X12_readTerm dX12_readSum_31 hw1314 hw1315 hw1634 (hs.2.1 156 _ rfl) (by decide) (hf_lin hs 156 rfl) rfl (Nat.le_of_ble_eq_true rfl) rfl (Nat.le_of_ble_eq_true rfl) (Nat.zero_le _) (Nat.zero_le _) h

set_option maxHeartbeats 4000000 in
theorem w_X12_readTerm_0 {X : hf_X} {d k n t : Nat} {T : hf_T} {I : hf_I} {L : hf_L} {P : hf_P} {Q : Option Value → hf_M → Prop} {x1 : Int32} (hs : hf_Lay t T P) (h : hf_G X Y_X12_readPart d 0 0 0 (hf_en [.ref 156, .int x1] 3) [] (t, T, I, L, P) (fun r M => hf_G X Y_X12_readTerm (d + 1) k n 5 [some (.ref 156), some (.int x1)] (r.toList ++ []) M Q)) : hf_G X Y_X12_readTerm (d + 1) k n 0 (hf_en [.ref 156, .int x1] 2) [] (t, T, I, L, P) Q := by
  show hf_G X Y_X12_readTerm (d + 1) k n 0 [some (.ref 156), some (.int x1)] [] (t, T, I, L, P) Q
  refine hf_aload_n dX12_readTerm_0 rfl rfl ?_
  refine hf_iload_n dX12_readTerm_1 rfl rfl ?_
  exact hf_callV (c := 12) (as := [.int x1]) ok_X12_readPart dX12_readTerm_2 hw1317 hw1318 hw1635 (hs.2.1 156 _ rfl) (by decide) (hf_lin hs 156 rfl) rfl (Nat.le_of_ble_eq_true rfl) rfl (Nat.le_of_ble_eq_true rfl) (Nat.zero_le _) (Nat.zero_le _) h

set_option maxHeartbeats 4000000 in
theorem w_X12_readTerm_5 {X : hf_X} {d k n t : Nat} {T : hf_T} {I : hf_I} {L : hf_L} {P : hf_P} {Q : Option Value → hf_M → Prop} {x1 : Int32} (hs : hf_Lay t T P) (h : hf_G X Y_X12_takes0 d 0 0 0 (hf_en [.ref 156, .int 142] 3) [] (t, T, I, L, P) (fun r M => hf_G X Y_X12_readTerm (d + 1) k n 14 [some (.ref 156), some (.int x1)] (r.toList ++ []) M Q)) : hf_G X Y_X12_readTerm (d + 1) k n 5 [some (.ref 156), some (.int x1)] [] (t, T, I, L, P) Q := by
  refine hf_aload_n dX12_readTerm_5 rfl rfl ?_
  refine hf_bipush (v := 42) dX12_readTerm_6 (by decide) ?_
  refine hf_callS (as := [.int 42]) ok_X12_sign dX12_readTerm_8 hw1226 hw1227 rfl (Nat.le_of_ble_eq_true rfl) rfl (Nat.le_of_ble_eq_true rfl) (Nat.zero_le _) (Nat.zero_le _) ?_
  show hf_G X Y_X12_sign d _ _ 0 [some (.int 42)] [] (t, T, I, L, P) _
  refine hf_bipush (v := 100) dX12_sign_0 (by decide) ?_
  refine hf_iload_n dX12_sign_2 rfl rfl ?_
  refine hf_iadd dX12_sign_3 ?_
  rw [show ((100 + 42) : Int32) = 142 by decide]
  refine hf_ireturn dX12_sign_4 rfl rfl ?_
  show hf_G X Y_X12_readTerm (d + 1) _ _ 11 [some (.ref 156), some (.int x1)] [.int 142, .ref 156] (t, T, I, L, P) _
  exact hf_callV (c := 12) (as := [.int 142]) ok_X12_takes0 dX12_readTerm_11 hw1305 hw1306 hw1631 (hs.2.1 156 _ rfl) (by decide) (hf_lin hs 156 rfl) rfl (Nat.le_of_ble_eq_true rfl) rfl (Nat.le_of_ble_eq_true rfl) (Nat.zero_le _) (Nat.zero_le _) h

set_option maxHeartbeats 4000000 in
theorem w_X12_readTerm_14 {X : hf_X} {d k n t : Nat} {T : hf_T} {I : hf_I} {L : hf_L} {P : hf_P} {Q : Option Value → hf_M → Prop} {x1 : Int32} {s0 : Int32} (hs : hf_Lay t T P) (h : (¬ s0 = 0 → hf_G X Y_X12_readPart d 0 0 0 (hf_en [.ref 156, .int x1] 3) [] (t, T, I, L, P) (fun r M => hf_G X Y_X12_readTerm (d + 1) k n 46 [some (.ref 156), some (.int x1)] (r.toList ++ []) M Q)) ∧ (s0 = 0 → hf_G X Y_X12_takes0 d 0 0 0 (hf_en [.ref 156, .int 147] 3) [] (t, T, I, L, P) (fun r M => hf_G X Y_X12_readTerm (d + 1) k n 26 [some (.ref 156), some (.int x1)] (r.toList ++ []) M Q))) : hf_G X Y_X12_readTerm (d + 1) k n 14 [some (.ref 156), some (.int x1)] [.int s0] (t, T, I, L, P) Q := by
  refine hf_if_ne (tgt := 41) dX12_readTerm_14 (by decide) (fun hc => ?_) (fun hc => ?_)
  · replace h := h.1 hc
    refine hf_aload_n dX12_readTerm_41 rfl rfl ?_
    refine hf_iload_n dX12_readTerm_42 rfl rfl ?_
    exact hf_callV (c := 12) (as := [.int x1]) ok_X12_readPart dX12_readTerm_43 hw1317 hw1318 hw1635 (hs.2.1 156 _ rfl) (by decide) (hf_lin hs 156 rfl) rfl (Nat.le_of_ble_eq_true rfl) rfl (Nat.le_of_ble_eq_true rfl) (Nat.zero_le _) (Nat.zero_le _) h
  · replace h := h.2 hc
    refine hf_aload_n dX12_readTerm_17 rfl rfl ?_
    refine hf_bipush (v := 47) dX12_readTerm_18 (by decide) ?_
    refine hf_callS (as := [.int 47]) ok_X12_sign dX12_readTerm_20 hw1226 hw1227 rfl (Nat.le_of_ble_eq_true rfl) rfl (Nat.le_of_ble_eq_true rfl) (Nat.zero_le _) (Nat.zero_le _) ?_
    show hf_G X Y_X12_sign d _ _ 0 [some (.int 47)] [] (t, T, I, L, P) _
    refine hf_bipush (v := 100) dX12_sign_0 (by decide) ?_
    refine hf_iload_n dX12_sign_2 rfl rfl ?_
    refine hf_iadd dX12_sign_3 ?_
    rw [show ((100 + 47) : Int32) = 147 by decide]
    refine hf_ireturn dX12_sign_4 rfl rfl ?_
    show hf_G X Y_X12_readTerm (d + 1) _ _ 23 [some (.ref 156), some (.int x1)] [.int 147, .ref 156] (t, T, I, L, P) _
    exact hf_callV (c := 12) (as := [.int 147]) ok_X12_takes0 dX12_readTerm_23 hw1305 hw1306 hw1631 (hs.2.1 156 _ rfl) (by decide) (hf_lin hs 156 rfl) rfl (Nat.le_of_ble_eq_true rfl) rfl (Nat.le_of_ble_eq_true rfl) (Nat.zero_le _) (Nat.zero_le _) h

set_option maxHeartbeats 4000000 in
theorem w_X12_readTerm_46 {X : hf_X} {d k n t : Nat} {T : hf_T} {I : hf_I} {L : hf_L} {P : hf_P} {Q : Option Value → hf_M → Prop} {x1 : Int32} (hs : hf_Lay t T P) (h : hf_G X Y_X12_readTerm d k n 5 [some (.ref 156), some (.int x1)] [] (t, T, I, L, P) Q) : hf_G X Y_X12_readTerm d k n 46 [some (.ref 156), some (.int x1)] [] (t, T, I, L, P) Q := by
  refine hf_goto (tgt := 5) dX12_readTerm_46 (by decide) ?_
  exact h

set_option maxHeartbeats 4000000 in
theorem w_X12_readTerm_26 {X : hf_X} {d k n t : Nat} {T : hf_T} {I : hf_I} {L : hf_L} {P : hf_P} {Q : Option Value → hf_M → Prop} {x1 : Int32} {s0 : Int32} (hs : hf_Lay t T P) (h : (¬ s0 = 0 → hf_G X Y_X12_readPart d 0 0 0 (hf_en [.ref 156, .int x1] 3) [] (t, T, I, L, P) (fun r M => hf_G X Y_X12_readTerm (d + 1) k n 46 [some (.ref 156), some (.int x1)] (r.toList ++ []) M Q)) ∧ (s0 = 0 → hf_G X Y_X12_takes0 d 0 0 0 (hf_en [.ref 156, .int 137] 3) [] (t, T, I, L, P) (fun r M => hf_G X Y_X12_readTerm (d + 1) k n 38 [some (.ref 156), some (.int x1)] (r.toList ++ []) M Q))) : hf_G X Y_X12_readTerm (d + 1) k n 26 [some (.ref 156), some (.int x1)] [.int s0] (t, T, I, L, P) Q := by
  refine hf_if_ne (tgt := 41) dX12_readTerm_26 (by decide) (fun hc => ?_) (fun hc => ?_)
  · replace h := h.1 hc
    refine hf_aload_n dX12_readTerm_41 rfl rfl ?_
    refine hf_iload_n dX12_readTerm_42 rfl rfl ?_
    exact hf_callV (c := 12) (as := [.int x1]) ok_X12_readPart dX12_readTerm_43 hw1317 hw1318 hw1635 (hs.2.1 156 _ rfl) (by decide) (hf_lin hs 156 rfl) rfl (Nat.le_of_ble_eq_true rfl) rfl (Nat.le_of_ble_eq_true rfl) (Nat.zero_le _) (Nat.zero_le _) h
  · replace h := h.2 hc
    refine hf_aload_n dX12_readTerm_29 rfl rfl ?_
    refine hf_bipush (v := 37) dX12_readTerm_30 (by decide) ?_
    refine hf_callS (as := [.int 37]) ok_X12_sign dX12_readTerm_32 hw1226 hw1227 rfl (Nat.le_of_ble_eq_true rfl) rfl (Nat.le_of_ble_eq_true rfl) (Nat.zero_le _) (Nat.zero_le _) ?_
    show hf_G X Y_X12_sign d _ _ 0 [some (.int 37)] [] (t, T, I, L, P) _
    refine hf_bipush (v := 100) dX12_sign_0 (by decide) ?_
    refine hf_iload_n dX12_sign_2 rfl rfl ?_
    refine hf_iadd dX12_sign_3 ?_
    rw [show ((100 + 37) : Int32) = 137 by decide]
    refine hf_ireturn dX12_sign_4 rfl rfl ?_
    show hf_G X Y_X12_readTerm (d + 1) _ _ 35 [some (.ref 156), some (.int x1)] [.int 137, .ref 156] (t, T, I, L, P) _
    exact hf_callV (c := 12) (as := [.int 137]) ok_X12_takes0 dX12_readTerm_35 hw1305 hw1306 hw1631 (hs.2.1 156 _ rfl) (by decide) (hf_lin hs 156 rfl) rfl (Nat.le_of_ble_eq_true rfl) rfl (Nat.le_of_ble_eq_true rfl) (Nat.zero_le _) (Nat.zero_le _) h

set_option maxHeartbeats 4000000 in
theorem w_X12_readTerm_38 {X : hf_X} {d k n t : Nat} {T : hf_T} {I : hf_I} {L : hf_L} {P : hf_P} {Q : Option Value → hf_M → Prop} {x1 : Int32} {s0 : Int32} (hs : hf_Lay t T P) (h : (s0 = 0 → Q none (t, T, I, L, P)) ∧ (¬ (s0 = 0) → hf_G X Y_X12_readPart d 0 0 0 (hf_en [.ref 156, .int x1] 3) [] (t, T, I, L, P) (fun r M => hf_G X Y_X12_readTerm (d + 1) k n 46 [some (.ref 156), some (.int x1)] (r.toList ++ []) M Q))) : hf_G X Y_X12_readTerm (d + 1) k n 38 [some (.ref 156), some (.int x1)] [.int s0] (t, T, I, L, P) Q := by
  refine hf_if_eq (tgt := 49) dX12_readTerm_38 (by decide) (fun hc => ?_) (fun hc => ?_)
  · replace h := h.1 hc
    refine hf_return dX12_readTerm_49 rfl ?_
    exact h
  · replace h := h.2 hc
    refine hf_aload_n dX12_readTerm_41 rfl rfl ?_
    refine hf_iload_n dX12_readTerm_42 rfl rfl ?_
    exact hf_callV (c := 12) (as := [.int x1]) ok_X12_readPart dX12_readTerm_43 hw1317 hw1318 hw1635 (hs.2.1 156 _ rfl) (by decide) (hf_lin hs 156 rfl) rfl (Nat.le_of_ble_eq_true rfl) rfl (Nat.le_of_ble_eq_true rfl) (Nat.zero_le _) (Nat.zero_le _) h

set_option maxHeartbeats 4000000 in
theorem w_X12_readPart_0 {X : hf_X} {d k n t : Nat} {T : hf_T} {I : hf_I} {L : hf_L} {P : hf_P} {Q : Option Value → hf_M → Prop} {x1 : Int32} (hs : hf_Lay t T P) (h : (¬ (I 156 18) = (-1) → Q none (t, T, I, L, P)) ∧ ((I 156 18) = (-1) → vp_in (I 156 16) 401 ∧ ((¬ (I 165 (((I 156 16)).toNatClampNeg)) = 191 → (¬ (I 165 (((I 156 16)).toNatClampNeg)) = 50 → hf_G X Y_X12_isValue (d + 1) 0 0 0 (hf_en [.ref 156, .int (I 165 (((I 156 16)).toNatClampNeg))] 2) [] (t, T, I, L, P) (fun r M => hf_G X Y_X12_readPart (d + 2) k n 100 [some (.ref 156), none, some (.int (I 165 (((I 156 16)).toNatClampNeg)))] (r.toList ++ []) M Q)) ∧ ((I 165 (((I 156 16)).toNatClampNeg)) = 50 → vp_in (I 156 16) 401 ∧ (((I 166 (((I 156 16)).toNatClampNeg)) ≤ 1000 → hf_G X Y_X12_leaf (d + 1) 0 0 0 (hf_en [.ref 156] 1) [] (t, T, I, L, P) (fun r M => hf_G X Y_X12_readPart (d + 2) k n 107 [some (.ref 156), none, some (.int (I 165 (((I 156 16)).toNatClampNeg)))] (r.toList ++ []) M Q)) ∧ (¬ ((I 166 (((I 156 16)).toNatClampNeg)) ≤ 1000) → hf_G X Y_X12_isValue (d + 1) 0 0 0 (hf_en [.ref 156, .int (I 165 (((I 156 16)).toNatClampNeg))] 2) [] (t, T, I, L, P) (fun r M => hf_G X Y_X12_readPart (d + 2) k n 100 [some (.ref 156), none, some (.int (I 165 (((I 156 16)).toNatClampNeg)))] (r.toList ++ []) M Q))))) ∧ ((I 165 (((I 156 16)).toNatClampNeg)) = 191 → (¬ x1 = 8 → (¬ (I 156 18) = (-1) → Q none (t, T, I, L, P)) ∧ ((I 156 18) = (-1) → hf_G X Y_X12_readSum (d + 1) 0 0 0 (hf_en [.ref 156, .int (x1 + 1)] 2) [] (t, T, (hf_up I 156 16 ((I 156 16) + 1)), L, P) (fun r M => hf_G X Y_X12_readPart (d + 2) k n 62 [some (.ref 156), none, none] (r.toList ++ []) M Q))) ∧ (x1 = 8 → (¬ (I 156 18) = (-1) → (¬ (I 156 18) = (-1) → Q none (t, T, I, L, P)) ∧ ((I 156 18) = (-1) → hf_G X Y_X12_readSum (d + 1) 0 0 0 (hf_en [.ref 156, .int (x1 + 1)] 2) [] (t, T, (hf_up I 156 16 ((I 156 16) + 1)), L, P) (fun r M => hf_G X Y_X12_readPart (d + 2) k n 62 [some (.ref 156), none, none] (r.toList ++ []) M Q))) ∧ ((I 156 18) = (-1) → vp_in (I 156 16) 401 ∧ ((¬ (I 167 (((I 156 16)).toNatClampNeg)) = (-1) → Q none (t, T, (hf_up I 156 18 (I 167 (((I 156 16)).toNatClampNeg))), L, P)) ∧ ((I 167 (((I 156 16)).toNatClampNeg)) = (-1) → hf_G X Y_X12_readSum (d + 1) 0 0 0 (hf_en [.ref 156, .int (x1 + 1)] 2) [] (t, T, (hf_up (hf_up I 156 18 (I 167 (((I 156 16)).toNatClampNeg))) 156 16 ((I 156 16) + 1)), L, P) (fun r M => hf_G X Y_X12_readPart (d + 2) k n 62 [some (.ref 156), none, none] (r.toList ++ []) M Q))))))))) : hf_G X Y_X12_readPart (d + 2) k n 0 (hf_en [.ref 156, .int x1] 3) [] (t, T, I, L, P) Q := by
  show hf_G X Y_X12_readPart (d + 2) k n 0 [some (.ref 156), some (.int x1), none] [] (t, T, I, L, P) Q
  refine hf_aload_n dX12_readPart_0 rfl rfl ?_
  refine hf_callV (c := 12) (as := []) ok_X12_fine dX12_readPart_1 hw1308 hw1309 hw1632 (hs.2.1 156 _ rfl) (by decide) (hf_lin hs 156 rfl) rfl (Nat.le_of_ble_eq_true rfl) rfl (Nat.le_of_ble_eq_true rfl) (Nat.zero_le _) (Nat.zero_le _) ?_
  show hf_G X Y_X12_fine (d + 1) _ _ 0 [some (.ref 156)] [] (t, T, I, L, P) _
  refine hf_aload_n dX12_fine_0 rfl rfl ?_
  refine hf_geti (c := 12) (j := 18) dX12_fine_1 (hs.2.1 156 _ rfl) (hf_lin hs 156 rfl) (by decide) (by decide) hw1054 (Or.inl rfl) ?_
  refine hf_iconst (v := (-1)) dX12_fine_4 (by decide) ?_
  refine hf_icmp_ne (tgt := 12) dX12_fine_5 (by decide) (fun hc => ?_) (fun hc => ?_)
  · replace h := h.1 hc
    refine hf_iconst (v := 0) dX12_fine_12 (by decide) ?_
    refine hf_ireturn dX12_fine_13 rfl (by decide) ?_
    show hf_G X Y_X12_readPart (d + 2) _ _ 4 [some (.ref 156), some (.int x1), none] [.int 0] (t, T, I, L, P) _
    refine hf_if_ne (tgt := 8) dX12_readPart_4 (by decide) (fun hc => absurd (show ¬ (0 : Int32) = (0 : Int32) from hc) (by decide)) (fun _ => ?_)
    refine hf_return dX12_readPart_7 rfl ?_
    exact h
  · replace h := h.2 hc
    refine hf_iconst (v := 1) dX12_fine_8 (by decide) ?_
    refine hf_goto (tgt := 13) dX12_fine_9 (by decide) ?_
    refine hf_ireturn dX12_fine_13 rfl (by decide) ?_
    show hf_G X Y_X12_readPart (d + 2) _ _ 4 [some (.ref 156), some (.int x1), none] [.int 1] (t, T, I, L, P) _
    refine hf_if_ne (tgt := 8) dX12_readPart_4 (by decide) (fun _ => ?_) (fun hc => absurd (show (1 : Int32) = (0 : Int32) from hc) (by decide))
    refine hf_aload_n dX12_readPart_8 rfl rfl ?_
    refine hf_getr (b := 165) (c := 12) (j := 12) dX12_readPart_9 (hs.2.1 156 _ rfl) (hf_lin hs 156 rfl) (by decide) (by decide) hw1048 rfl (hs.2.2 156 12 _ rfl) ?_
    refine hf_aload_n dX12_readPart_12 rfl rfl ?_
    refine hf_geti (c := 12) (j := 16) dX12_readPart_13 (hs.2.1 156 _ rfl) (hf_lin hs 156 rfl) (by decide) (by decide) hw1052 (Or.inl rfl) ?_
    refine hf_iald dX12_readPart_16 (hs.2.1 165 _ rfl) (hf_lin hs 165 rfl) h.1 ?_
    replace h := h.2
    refine hf_istore_n (l2 := [some (.ref 156), some (.int x1), some (.int (I 165 (((I 156 16)).toNatClampNeg)))]) dX12_readPart_17 rfl (by decide) rfl ?_
    refine hf_iload_n dX12_readPart_18 rfl rfl ?_
    refine hf_bipush (v := 91) dX12_readPart_19 (by decide) ?_
    refine hf_callS (as := [.int 91]) ok_X12_sign dX12_readPart_21 hw1226 hw1227 rfl (Nat.le_of_ble_eq_true rfl) rfl (Nat.le_of_ble_eq_true rfl) (Nat.zero_le _) (Nat.zero_le _) ?_
    show hf_G X Y_X12_sign (d + 1) _ _ 0 [some (.int 91)] [] (t, T, I, L, P) _
    refine hf_bipush (v := 100) dX12_sign_0 (by decide) ?_
    refine hf_iload_n dX12_sign_2 rfl rfl ?_
    refine hf_iadd dX12_sign_3 ?_
    rw [show ((100 + 91) : Int32) = 191 by decide]
    refine hf_ireturn dX12_sign_4 rfl rfl ?_
    show hf_G X Y_X12_readPart (d + 2) _ _ 24 [some (.ref 156), some (.int x1), some (.int (I 165 (((I 156 16)).toNatClampNeg)))] [.int 191, .int (I 165 (((I 156 16)).toNatClampNeg))] (t, T, I, L, P) _
    refine hf_icmp_ne (tgt := 74) dX12_readPart_24 (by decide) (fun hc => ?_) (fun hc => ?_)
    · replace h := h.1 hc
      refine hf_iload_n dX12_readPart_74 rfl rfl ?_
      refine hf_bipush (v := 50) dX12_readPart_75 (by decide) ?_
      refine hf_icmp_ne (tgt := 95) dX12_readPart_77 (by decide) (fun hc => ?_) (fun hc => ?_)
      · replace h := h.1 hc
        refine hf_aload_n dX12_readPart_95 rfl rfl ?_
        refine hf_iload_n dX12_readPart_96 rfl rfl ?_
        exact hf_callV (c := 12) (as := [.int (I 165 (((I 156 16)).toNatClampNeg))]) ok_X12_isValue dX12_readPart_97 hw1326 hw1327 hw1638 (hs.2.1 156 _ rfl) (by decide) (hf_lin hs 156 rfl) rfl (Nat.le_of_ble_eq_true rfl) rfl (Nat.le_of_ble_eq_true rfl) (Nat.zero_le _) (Nat.zero_le _) (hf_mono (fun r M q => hf_drop (l' := [some (.ref 156), none, some (.int (I 165 (((I 156 16)).toNatClampNeg)))]) (by simp [hf_sub]) q) h)
      · replace h := h.2 hc
        refine hf_aload_n dX12_readPart_80 rfl rfl ?_
        refine hf_getr (b := 166) (c := 12) (j := 13) dX12_readPart_81 (hs.2.1 156 _ rfl) (hf_lin hs 156 rfl) (by decide) (by decide) hw1049 rfl (hs.2.2 156 13 _ rfl) ?_
        refine hf_aload_n dX12_readPart_84 rfl rfl ?_
        refine hf_geti (c := 12) (j := 16) dX12_readPart_85 (hs.2.1 156 _ rfl) (hf_lin hs 156 rfl) (by decide) (by decide) hw1052 (Or.inl rfl) ?_
        refine hf_iald dX12_readPart_88 (hs.2.1 166 _ rfl) (hf_lin hs 166 rfl) h.1 ?_
        replace h := h.2
        refine hf_sipush (v := 1000) dX12_readPart_89 (by decide) ?_
        refine hf_icmp_le (tgt := 103) dX12_readPart_92 (by decide) (fun hc => ?_) (fun hc => ?_)
        · replace h := h.1 hc
          refine hf_aload_n dX12_readPart_103 rfl rfl ?_
          exact hf_callV (c := 12) (as := []) ok_X12_leaf dX12_readPart_104 hw1329 hw1330 hw1639 (hs.2.1 156 _ rfl) (by decide) (hf_lin hs 156 rfl) rfl (Nat.le_of_ble_eq_true rfl) rfl (Nat.le_of_ble_eq_true rfl) (Nat.zero_le _) (Nat.zero_le _) (hf_mono (fun r M q => hf_drop (l' := [some (.ref 156), none, some (.int (I 165 (((I 156 16)).toNatClampNeg)))]) (by simp [hf_sub]) q) h)
        · replace h := h.2 hc
          refine hf_aload_n dX12_readPart_95 rfl rfl ?_
          refine hf_iload_n dX12_readPart_96 rfl rfl ?_
          exact hf_callV (c := 12) (as := [.int (I 165 (((I 156 16)).toNatClampNeg))]) ok_X12_isValue dX12_readPart_97 hw1326 hw1327 hw1638 (hs.2.1 156 _ rfl) (by decide) (hf_lin hs 156 rfl) rfl (Nat.le_of_ble_eq_true rfl) rfl (Nat.le_of_ble_eq_true rfl) (Nat.zero_le _) (Nat.zero_le _) (hf_mono (fun r M q => hf_drop (l' := [some (.ref 156), none, some (.int (I 165 (((I 156 16)).toNatClampNeg)))]) (by simp [hf_sub]) q) h)
    · replace h := h.2 hc
      refine hf_iload_n dX12_readPart_27 rfl rfl ?_
      refine hf_bipush (v := 8) dX12_readPart_28 (by decide) ?_
      refine hf_icmp_ne (tgt := 37) dX12_readPart_30 (by decide) (fun hc => ?_) (fun hc => ?_)
      · replace h := h.1 hc
        refine hf_aload_n dX12_readPart_37 rfl rfl ?_
        refine hf_callV (c := 12) (as := []) ok_X12_fine dX12_readPart_38 hw1308 hw1309 hw1632 (hs.2.1 156 _ rfl) (by decide) (hf_lin hs 156 rfl) rfl (Nat.le_of_ble_eq_true rfl) rfl (Nat.le_of_ble_eq_true rfl) (Nat.zero_le _) (Nat.zero_le _) ?_
        show hf_G X Y_X12_fine (d + 1) _ _ 0 [some (.ref 156)] [] (t, T, I, L, P) _
        refine hf_aload_n dX12_fine_0 rfl rfl ?_
        refine hf_geti (c := 12) (j := 18) dX12_fine_1 (hs.2.1 156 _ rfl) (hf_lin hs 156 rfl) (by decide) (by decide) hw1054 (Or.inl rfl) ?_
        refine hf_iconst (v := (-1)) dX12_fine_4 (by decide) ?_
        refine hf_icmp_ne (tgt := 12) dX12_fine_5 (by decide) (fun hc => ?_) (fun hc => ?_)
        · replace h := h.1 hc
          refine hf_iconst (v := 0) dX12_fine_12 (by decide) ?_
          refine hf_ireturn dX12_fine_13 rfl (by decide) ?_
          show hf_G X Y_X12_readPart (d + 2) _ _ 41 [some (.ref 156), some (.int x1), some (.int (I 165 (((I 156 16)).toNatClampNeg)))] [.int 0] (t, T, I, L, P) _
          refine hf_if_ne (tgt := 45) dX12_readPart_41 (by decide) (fun hc => absurd (show ¬ (0 : Int32) = (0 : Int32) from hc) (by decide)) (fun _ => ?_)
          refine hf_return dX12_readPart_44 rfl ?_
          exact h
        · replace h := h.2 hc
          refine hf_iconst (v := 1) dX12_fine_8 (by decide) ?_
          refine hf_goto (tgt := 13) dX12_fine_9 (by decide) ?_
          refine hf_ireturn dX12_fine_13 rfl (by decide) ?_
          show hf_G X Y_X12_readPart (d + 2) _ _ 41 [some (.ref 156), some (.int x1), some (.int (I 165 (((I 156 16)).toNatClampNeg)))] [.int 1] (t, T, I, L, P) _
          refine hf_if_ne (tgt := 45) dX12_readPart_41 (by decide) (fun _ => ?_) (fun hc => absurd (show (1 : Int32) = (0 : Int32) from hc) (by decide))
          refine hf_aload_n dX12_readPart_45 rfl rfl ?_
          refine hf_dup dX12_readPart_46 rfl ?_
          refine hf_geti (c := 12) (j := 16) dX12_readPart_47 (hs.2.1 156 _ rfl) (hf_lin hs 156 rfl) (by decide) (by decide) hw1052 (Or.inl rfl) ?_
          refine hf_iconst (v := 1) dX12_readPart_50 (by decide) ?_
          refine hf_iadd dX12_readPart_51 ?_
          refine hf_puti (c := 12) (j := 16) dX12_readPart_52 (hs.2.1 156 _ rfl) (hf_lin hs 156 rfl) (by decide) (by decide) hw1052 rfl rfl ?_
          refine hf_aload_n dX12_readPart_55 rfl rfl ?_
          refine hf_iload_n dX12_readPart_56 rfl rfl ?_
          refine hf_iconst (v := 1) dX12_readPart_57 (by decide) ?_
          refine hf_iadd dX12_readPart_58 ?_
          exact hf_callV (c := 12) (as := [.int (x1 + 1)]) ok_X12_readSum dX12_readPart_59 hw1311 hw1312 hw1633 (hs.2.1 156 _ rfl) (by decide) (hf_lin hs 156 rfl) rfl (Nat.le_of_ble_eq_true rfl) rfl (Nat.le_of_ble_eq_true rfl) (Nat.zero_le _) (Nat.zero_le _) (hf_mono (fun r M q => hf_drop (l' := [some (.ref 156), none, none]) (by simp [hf_sub]) q) h)
      · replace h := h.2 hc
        refine hf_aload_n dX12_readPart_33 rfl rfl ?_
        refine hf_callV (c := 12) (as := []) ok_X12_faults dX12_readPart_34 hw1320 hw1321 hw1636 (hs.2.1 156 _ rfl) (by decide) (hf_lin hs 156 rfl) rfl (Nat.le_of_ble_eq_true rfl) rfl (Nat.le_of_ble_eq_true rfl) (Nat.zero_le _) (Nat.zero_le _) ?_
        show hf_G X Y_X12_faults (d + 1) _ _ 0 [some (.ref 156)] [] (t, T, I, L, P) _
        refine hf_aload_n dX12_faults_0 rfl rfl ?_
        refine hf_callV (c := 12) (as := []) ok_X12_fine dX12_faults_1 hw1308 hw1309 hw1632 (hs.2.1 156 _ rfl) (by decide) (hf_lin hs 156 rfl) rfl (Nat.le_of_ble_eq_true rfl) rfl (Nat.le_of_ble_eq_true rfl) (Nat.zero_le _) (Nat.zero_le _) ?_
        show hf_G X Y_X12_fine d _ _ 0 [some (.ref 156)] [] (t, T, I, L, P) _
        refine hf_aload_n dX12_fine_0 rfl rfl ?_
        refine hf_geti (c := 12) (j := 18) dX12_fine_1 (hs.2.1 156 _ rfl) (hf_lin hs 156 rfl) (by decide) (by decide) hw1054 (Or.inl rfl) ?_
        refine hf_iconst (v := (-1)) dX12_fine_4 (by decide) ?_
        refine hf_icmp_ne (tgt := 12) dX12_fine_5 (by decide) (fun hc => ?_) (fun hc => ?_)
        · replace h := h.1 hc
          refine hf_iconst (v := 0) dX12_fine_12 (by decide) ?_
          refine hf_ireturn dX12_fine_13 rfl (by decide) ?_
          show hf_G X Y_X12_faults (d + 1) _ _ 4 [some (.ref 156)] [.int 0] (t, T, I, L, P) _
          refine hf_if_eq (tgt := 20) dX12_faults_4 (by decide) (fun _ => ?_) (fun hc => absurd (show (0 : Int32) = (0 : Int32) by decide) hc)
          refine hf_return dX12_faults_20 rfl ?_
          show hf_G X Y_X12_readPart (d + 2) _ _ 37 [some (.ref 156), some (.int x1), some (.int (I 165 (((I 156 16)).toNatClampNeg)))] [] (t, T, I, L, P) _
          refine hf_aload_n dX12_readPart_37 rfl rfl ?_
          refine hf_callV (c := 12) (as := []) ok_X12_fine dX12_readPart_38 hw1308 hw1309 hw1632 (hs.2.1 156 _ rfl) (by decide) (hf_lin hs 156 rfl) rfl (Nat.le_of_ble_eq_true rfl) rfl (Nat.le_of_ble_eq_true rfl) (Nat.zero_le _) (Nat.zero_le _) ?_
          show hf_G X Y_X12_fine (d + 1) _ _ 0 [some (.ref 156)] [] (t, T, I, L, P) _
          refine hf_aload_n dX12_fine_0 rfl rfl ?_
          refine hf_geti (c := 12) (j := 18) dX12_fine_1 (hs.2.1 156 _ rfl) (hf_lin hs 156 rfl) (by decide) (by decide) hw1054 (Or.inl rfl) ?_
          refine hf_iconst (v := (-1)) dX12_fine_4 (by decide) ?_
          refine hf_icmp_ne (tgt := 12) dX12_fine_5 (by decide) (fun hc => ?_) (fun hc => ?_)
          · replace h := h.1 hc
            refine hf_iconst (v := 0) dX12_fine_12 (by decide) ?_
            refine hf_ireturn dX12_fine_13 rfl (by decide) ?_
            show hf_G X Y_X12_readPart (d + 2) _ _ 41 [some (.ref 156), some (.int x1), some (.int (I 165 (((I 156 16)).toNatClampNeg)))] [.int 0] (t, T, I, L, P) _
            refine hf_if_ne (tgt := 45) dX12_readPart_41 (by decide) (fun hc => absurd (show ¬ (0 : Int32) = (0 : Int32) from hc) (by decide)) (fun _ => ?_)
            refine hf_return dX12_readPart_44 rfl ?_
            exact h
          · replace h := h.2 hc
            refine hf_iconst (v := 1) dX12_fine_8 (by decide) ?_
            refine hf_goto (tgt := 13) dX12_fine_9 (by decide) ?_
            refine hf_ireturn dX12_fine_13 rfl (by decide) ?_
            show hf_G X Y_X12_readPart (d + 2) _ _ 41 [some (.ref 156), some (.int x1), some (.int (I 165 (((I 156 16)).toNatClampNeg)))] [.int 1] (t, T, I, L, P) _
            refine hf_if_ne (tgt := 45) dX12_readPart_41 (by decide) (fun _ => ?_) (fun hc => absurd (show (1 : Int32) = (0 : Int32) from hc) (by decide))
            refine hf_aload_n dX12_readPart_45 rfl rfl ?_
            refine hf_dup dX12_readPart_46 rfl ?_
            refine hf_geti (c := 12) (j := 16) dX12_readPart_47 (hs.2.1 156 _ rfl) (hf_lin hs 156 rfl) (by decide) (by decide) hw1052 (Or.inl rfl) ?_
            refine hf_iconst (v := 1) dX12_readPart_50 (by decide) ?_
            refine hf_iadd dX12_readPart_51 ?_
            refine hf_puti (c := 12) (j := 16) dX12_readPart_52 (hs.2.1 156 _ rfl) (hf_lin hs 156 rfl) (by decide) (by decide) hw1052 rfl rfl ?_
            refine hf_aload_n dX12_readPart_55 rfl rfl ?_
            refine hf_iload_n dX12_readPart_56 rfl rfl ?_
            refine hf_iconst (v := 1) dX12_readPart_57 (by decide) ?_
            refine hf_iadd dX12_readPart_58 ?_
            exact hf_callV (c := 12) (as := [.int (x1 + 1)]) ok_X12_readSum dX12_readPart_59 hw1311 hw1312 hw1633 (hs.2.1 156 _ rfl) (by decide) (hf_lin hs 156 rfl) rfl (Nat.le_of_ble_eq_true rfl) rfl (Nat.le_of_ble_eq_true rfl) (Nat.zero_le _) (Nat.zero_le _) (hf_mono (fun r M q => hf_drop (l' := [some (.ref 156), none, none]) (by simp [hf_sub]) q) h)
        · replace h := h.2 hc
          refine hf_iconst (v := 1) dX12_fine_8 (by decide) ?_
          refine hf_goto (tgt := 13) dX12_fine_9 (by decide) ?_
          refine hf_ireturn dX12_fine_13 rfl (by decide) ?_
          show hf_G X Y_X12_faults (d + 1) _ _ 4 [some (.ref 156)] [.int 1] (t, T, I, L, P) _
          refine hf_if_eq (tgt := 20) dX12_faults_4 (by decide) (fun hc => absurd (show (1 : Int32) = (0 : Int32) from hc) (by decide)) (fun _ => ?_)
          refine hf_aload_n dX12_faults_7 rfl rfl ?_
          refine hf_aload_n dX12_faults_8 rfl rfl ?_
          refine hf_getr (b := 167) (c := 12) (j := 14) dX12_faults_9 (hs.2.1 156 _ rfl) (hf_lin hs 156 rfl) (by decide) (by decide) hw1050 rfl (hs.2.2 156 14 _ rfl) ?_
          refine hf_aload_n dX12_faults_12 rfl rfl ?_
          refine hf_geti (c := 12) (j := 16) dX12_faults_13 (hs.2.1 156 _ rfl) (hf_lin hs 156 rfl) (by decide) (by decide) hw1052 (Or.inl rfl) ?_
          refine hf_iald dX12_faults_16 (hs.2.1 167 _ rfl) (hf_lin hs 167 rfl) h.1 ?_
          replace h := h.2
          refine hf_puti (c := 12) (j := 18) dX12_faults_17 (hs.2.1 156 _ rfl) (hf_lin hs 156 rfl) (by decide) (by decide) hw1054 rfl rfl ?_
          refine hf_return dX12_faults_20 rfl ?_
          show hf_G X Y_X12_readPart (d + 2) _ _ 37 [some (.ref 156), some (.int x1), some (.int (I 165 (((I 156 16)).toNatClampNeg)))] [] (t, T, (hf_up I 156 18 (I 167 (((I 156 16)).toNatClampNeg))), L, P) _
          refine hf_aload_n dX12_readPart_37 rfl rfl ?_
          refine hf_callV (c := 12) (as := []) ok_X12_fine dX12_readPart_38 hw1308 hw1309 hw1632 (hs.2.1 156 _ rfl) (by decide) (hf_lin hs 156 rfl) rfl (Nat.le_of_ble_eq_true rfl) rfl (Nat.le_of_ble_eq_true rfl) (Nat.zero_le _) (Nat.zero_le _) ?_
          show hf_G X Y_X12_fine (d + 1) _ _ 0 [some (.ref 156)] [] (t, T, (hf_up I 156 18 (I 167 (((I 156 16)).toNatClampNeg))), L, P) _
          refine hf_aload_n dX12_fine_0 rfl rfl ?_
          refine hf_geti (c := 12) (j := 18) dX12_fine_1 (hs.2.1 156 _ rfl) (hf_lin hs 156 rfl) (by decide) (by decide) hw1054 (Or.inl rfl) ?_
          refine hf_iconst (v := (-1)) dX12_fine_4 (by decide) ?_
          refine hf_icmp_ne (tgt := 12) dX12_fine_5 (by decide) (fun hc => ?_) (fun hc => ?_)
          · replace h := h.1 hc
            refine hf_iconst (v := 0) dX12_fine_12 (by decide) ?_
            refine hf_ireturn dX12_fine_13 rfl (by decide) ?_
            show hf_G X Y_X12_readPart (d + 2) _ _ 41 [some (.ref 156), some (.int x1), some (.int (I 165 (((I 156 16)).toNatClampNeg)))] [.int 0] (t, T, (hf_up I 156 18 (I 167 (((I 156 16)).toNatClampNeg))), L, P) _
            refine hf_if_ne (tgt := 45) dX12_readPart_41 (by decide) (fun hc => absurd (show ¬ (0 : Int32) = (0 : Int32) from hc) (by decide)) (fun _ => ?_)
            refine hf_return dX12_readPart_44 rfl ?_
            exact h
          · replace h := h.2 hc
            refine hf_iconst (v := 1) dX12_fine_8 (by decide) ?_
            refine hf_goto (tgt := 13) dX12_fine_9 (by decide) ?_
            refine hf_ireturn dX12_fine_13 rfl (by decide) ?_
            show hf_G X Y_X12_readPart (d + 2) _ _ 41 [some (.ref 156), some (.int x1), some (.int (I 165 (((I 156 16)).toNatClampNeg)))] [.int 1] (t, T, (hf_up I 156 18 (I 167 (((I 156 16)).toNatClampNeg))), L, P) _
            refine hf_if_ne (tgt := 45) dX12_readPart_41 (by decide) (fun _ => ?_) (fun hc => absurd (show (1 : Int32) = (0 : Int32) from hc) (by decide))
            refine hf_aload_n dX12_readPart_45 rfl rfl ?_
            refine hf_dup dX12_readPart_46 rfl ?_
            refine hf_geti (c := 12) (j := 16) dX12_readPart_47 (hs.2.1 156 _ rfl) (hf_lin hs 156 rfl) (by decide) (by decide) hw1052 (Or.inl rfl) ?_
            refine hf_iconst (v := 1) dX12_readPart_50 (by decide) ?_
            refine hf_iadd dX12_readPart_51 ?_
            refine hf_puti (c := 12) (j := 16) dX12_readPart_52 (hs.2.1 156 _ rfl) (hf_lin hs 156 rfl) (by decide) (by decide) hw1052 rfl rfl ?_
            refine hf_aload_n dX12_readPart_55 rfl rfl ?_
            refine hf_iload_n dX12_readPart_56 rfl rfl ?_
            refine hf_iconst (v := 1) dX12_readPart_57 (by decide) ?_
            refine hf_iadd dX12_readPart_58 ?_
            exact hf_callV (c := 12) (as := [.int (x1 + 1)]) ok_X12_readSum dX12_readPart_59 hw1311 hw1312 hw1633 (hs.2.1 156 _ rfl) (by decide) (hf_lin hs 156 rfl) rfl (Nat.le_of_ble_eq_true rfl) rfl (Nat.le_of_ble_eq_true rfl) (Nat.zero_le _) (Nat.zero_le _) (hf_mono (fun r M q => hf_drop (l' := [some (.ref 156), none, none]) (by simp [hf_sub]) q) h)

set_option maxHeartbeats 4000000 in
theorem w_X12_readPart_100 {X : hf_X} {d k n t : Nat} {T : hf_T} {I : hf_I} {L : hf_L} {P : hf_P} {Q : Option Value → hf_M → Prop} {x2 : Int32} {s0 : Int32} (hs : hf_Lay t T P) (h : (s0 = 0 → (¬ (I 156 18) = (-1) → Q none (t, T, I, L, P)) ∧ ((I 156 18) = (-1) → vp_in (I 156 16) 401 ∧ (Q none (t, T, (hf_up I 156 18 (I 167 (((I 156 16)).toNatClampNeg))), L, P)))) ∧ (¬ (s0 = 0) → hf_G X Y_X12_leaf (d + 1) 0 0 0 (hf_en [.ref 156] 1) [] (t, T, I, L, P) (fun r M => hf_G X Y_X12_readPart (d + 2) k n 107 [some (.ref 156), none, some (.int x2)] (r.toList ++ []) M Q))) : hf_G X Y_X12_readPart (d + 2) k n 100 [some (.ref 156), none, some (.int x2)] [.int s0] (t, T, I, L, P) Q := by
  refine hf_if_eq (tgt := 136) dX12_readPart_100 (by decide) (fun hc => ?_) (fun hc => ?_)
  · replace h := h.1 hc
    refine hf_aload_n dX12_readPart_136 rfl rfl ?_
    refine hf_callV (c := 12) (as := []) ok_X12_faults dX12_readPart_137 hw1320 hw1321 hw1636 (hs.2.1 156 _ rfl) (by decide) (hf_lin hs 156 rfl) rfl (Nat.le_of_ble_eq_true rfl) rfl (Nat.le_of_ble_eq_true rfl) (Nat.zero_le _) (Nat.zero_le _) ?_
    show hf_G X Y_X12_faults (d + 1) _ _ 0 [some (.ref 156)] [] (t, T, I, L, P) _
    refine hf_aload_n dX12_faults_0 rfl rfl ?_
    refine hf_callV (c := 12) (as := []) ok_X12_fine dX12_faults_1 hw1308 hw1309 hw1632 (hs.2.1 156 _ rfl) (by decide) (hf_lin hs 156 rfl) rfl (Nat.le_of_ble_eq_true rfl) rfl (Nat.le_of_ble_eq_true rfl) (Nat.zero_le _) (Nat.zero_le _) ?_
    show hf_G X Y_X12_fine d _ _ 0 [some (.ref 156)] [] (t, T, I, L, P) _
    refine hf_aload_n dX12_fine_0 rfl rfl ?_
    refine hf_geti (c := 12) (j := 18) dX12_fine_1 (hs.2.1 156 _ rfl) (hf_lin hs 156 rfl) (by decide) (by decide) hw1054 (Or.inl rfl) ?_
    refine hf_iconst (v := (-1)) dX12_fine_4 (by decide) ?_
    refine hf_icmp_ne (tgt := 12) dX12_fine_5 (by decide) (fun hc => ?_) (fun hc => ?_)
    · replace h := h.1 hc
      refine hf_iconst (v := 0) dX12_fine_12 (by decide) ?_
      refine hf_ireturn dX12_fine_13 rfl (by decide) ?_
      show hf_G X Y_X12_faults (d + 1) _ _ 4 [some (.ref 156)] [.int 0] (t, T, I, L, P) _
      refine hf_if_eq (tgt := 20) dX12_faults_4 (by decide) (fun _ => ?_) (fun hc => absurd (show (0 : Int32) = (0 : Int32) by decide) hc)
      refine hf_return dX12_faults_20 rfl ?_
      show hf_G X Y_X12_readPart (d + 2) _ _ 140 [some (.ref 156), none, some (.int x2)] [] (t, T, I, L, P) _
      refine hf_return dX12_readPart_140 rfl ?_
      exact h
    · replace h := h.2 hc
      refine hf_iconst (v := 1) dX12_fine_8 (by decide) ?_
      refine hf_goto (tgt := 13) dX12_fine_9 (by decide) ?_
      refine hf_ireturn dX12_fine_13 rfl (by decide) ?_
      show hf_G X Y_X12_faults (d + 1) _ _ 4 [some (.ref 156)] [.int 1] (t, T, I, L, P) _
      refine hf_if_eq (tgt := 20) dX12_faults_4 (by decide) (fun hc => absurd (show (1 : Int32) = (0 : Int32) from hc) (by decide)) (fun _ => ?_)
      refine hf_aload_n dX12_faults_7 rfl rfl ?_
      refine hf_aload_n dX12_faults_8 rfl rfl ?_
      refine hf_getr (b := 167) (c := 12) (j := 14) dX12_faults_9 (hs.2.1 156 _ rfl) (hf_lin hs 156 rfl) (by decide) (by decide) hw1050 rfl (hs.2.2 156 14 _ rfl) ?_
      refine hf_aload_n dX12_faults_12 rfl rfl ?_
      refine hf_geti (c := 12) (j := 16) dX12_faults_13 (hs.2.1 156 _ rfl) (hf_lin hs 156 rfl) (by decide) (by decide) hw1052 (Or.inl rfl) ?_
      refine hf_iald dX12_faults_16 (hs.2.1 167 _ rfl) (hf_lin hs 167 rfl) h.1 ?_
      replace h := h.2
      refine hf_puti (c := 12) (j := 18) dX12_faults_17 (hs.2.1 156 _ rfl) (hf_lin hs 156 rfl) (by decide) (by decide) hw1054 rfl rfl ?_
      refine hf_return dX12_faults_20 rfl ?_
      show hf_G X Y_X12_readPart (d + 2) _ _ 140 [some (.ref 156), none, some (.int x2)] [] (t, T, (hf_up I 156 18 (I 167 (((I 156 16)).toNatClampNeg))), L, P) _
      refine hf_return dX12_readPart_140 rfl ?_
      exact h
  · replace h := h.2 hc
    refine hf_aload_n dX12_readPart_103 rfl rfl ?_
    exact hf_callV (c := 12) (as := []) ok_X12_leaf dX12_readPart_104 hw1329 hw1330 hw1639 (hs.2.1 156 _ rfl) (by decide) (hf_lin hs 156 rfl) rfl (Nat.le_of_ble_eq_true rfl) rfl (Nat.le_of_ble_eq_true rfl) (Nat.zero_le _) (Nat.zero_le _) h

set_option maxHeartbeats 4000000 in
theorem w_X12_readPart_107 {X : hf_X} {d k n t : Nat} {T : hf_T} {I : hf_I} {L : hf_L} {P : hf_P} {Q : Option Value → hf_M → Prop} {x2 : Int32} (hs : hf_Lay t T P) (h : ((I 156 7) = 0 → Q none (t, T, I, L, P)) ∧ (¬ ((I 156 7) = 0) → (x2 = 24 → hf_G X Y_X12_mustNumber d 0 0 0 (hf_en [.ref 156, .int 0, .int 15] 3) [] (t, T, I, L, P) (fun r M => hf_G X Y_X12_readPart (d + 1) k n 133 [none, none, none] (r.toList ++ []) M Q)) ∧ (¬ (x2 = 24) → (¬ x2 = 9 → Q none (t, T, I, L, P)) ∧ (x2 = 9 → hf_G X Y_X12_mustNumber d 0 0 0 (hf_en [.ref 156, .int 0, .int 15] 3) [] (t, T, I, L, P) (fun r M => hf_G X Y_X12_readPart (d + 1) k n 133 [none, none, none] (r.toList ++ []) M Q))))) : hf_G X Y_X12_readPart (d + 1) k n 107 [some (.ref 156), none, some (.int x2)] [] (t, T, I, L, P) Q := by
  refine hf_aload_n dX12_readPart_107 rfl rfl ?_
  refine hf_geti (c := 12) (j := 7) dX12_readPart_108 (hs.2.1 156 _ rfl) (hf_lin hs 156 rfl) (by decide) (by decide) hw1043 (Or.inr rfl) ?_
  refine hf_if_eq (tgt := 140) dX12_readPart_111 (by decide) (fun hc => ?_) (fun hc => ?_)
  · replace h := h.1 hc
    refine hf_return dX12_readPart_140 rfl ?_
    exact h
  · replace h := h.2 hc
    refine hf_iload_n dX12_readPart_114 rfl rfl ?_
    refine hf_bipush (v := 24) dX12_readPart_115 (by decide) ?_
    refine hf_icmp_eq (tgt := 126) dX12_readPart_117 (by decide) (fun hc => ?_) (fun hc => ?_)
    · replace h := h.1 hc
      refine hf_aload_n dX12_readPart_126 rfl rfl ?_
      refine hf_iconst (v := 0) dX12_readPart_127 (by decide) ?_
      refine hf_bipush (v := 15) dX12_readPart_128 (by decide) ?_
      exact hf_callV (c := 12) (as := [.int 0, .int 15]) ok_X12_mustNumber dX12_readPart_130 hw1332 hw1333 hw1640 (hs.2.1 156 _ rfl) (by decide) (hf_lin hs 156 rfl) rfl (Nat.le_of_ble_eq_true rfl) rfl (Nat.le_of_ble_eq_true rfl) (Nat.zero_le _) (Nat.zero_le _) (hf_mono (fun r M q => hf_drop (l' := [none, none, none]) (by simp [hf_sub]) q) h)
    · replace h := h.2 hc
      refine hf_iload_n dX12_readPart_120 rfl rfl ?_
      refine hf_bipush (v := 9) dX12_readPart_121 (by decide) ?_
      refine hf_icmp_ne (tgt := 140) dX12_readPart_123 (by decide) (fun hc => ?_) (fun hc => ?_)
      · replace h := h.1 hc
        refine hf_return dX12_readPart_140 rfl ?_
        exact h
      · replace h := h.2 hc
        refine hf_aload_n dX12_readPart_126 rfl rfl ?_
        refine hf_iconst (v := 0) dX12_readPart_127 (by decide) ?_
        refine hf_bipush (v := 15) dX12_readPart_128 (by decide) ?_
        exact hf_callV (c := 12) (as := [.int 0, .int 15]) ok_X12_mustNumber dX12_readPart_130 hw1332 hw1333 hw1640 (hs.2.1 156 _ rfl) (by decide) (hf_lin hs 156 rfl) rfl (Nat.le_of_ble_eq_true rfl) rfl (Nat.le_of_ble_eq_true rfl) (Nat.zero_le _) (Nat.zero_le _) (hf_mono (fun r M q => hf_drop (l' := [none, none, none]) (by simp [hf_sub]) q) h)

set_option maxHeartbeats 4000000 in
theorem w_X12_readPart_62 {X : hf_X} {d k n t : Nat} {T : hf_T} {I : hf_I} {L : hf_L} {P : hf_P} {Q : Option Value → hf_M → Prop}  (hs : hf_Lay t T P) (h : hf_G X Y_X12_must d 0 0 0 (hf_en [.ref 156, .int 193] 2) [] (t, T, I, L, P) (fun r M => hf_G X Y_X12_readPart (d + 1) k n 71 [none, none, none] (r.toList ++ []) M Q)) : hf_G X Y_X12_readPart (d + 1) k n 62 [some (.ref 156), none, none] [] (t, T, I, L, P) Q := by
  refine hf_aload_n dX12_readPart_62 rfl rfl ?_
  refine hf_bipush (v := 93) dX12_readPart_63 (by decide) ?_
  refine hf_callS (as := [.int 93]) ok_X12_sign dX12_readPart_65 hw1226 hw1227 rfl (Nat.le_of_ble_eq_true rfl) rfl (Nat.le_of_ble_eq_true rfl) (Nat.zero_le _) (Nat.zero_le _) ?_
  show hf_G X Y_X12_sign d _ _ 0 [some (.int 93)] [] (t, T, I, L, P) _
  refine hf_bipush (v := 100) dX12_sign_0 (by decide) ?_
  refine hf_iload_n dX12_sign_2 rfl rfl ?_
  refine hf_iadd dX12_sign_3 ?_
  rw [show ((100 + 93) : Int32) = 193 by decide]
  refine hf_ireturn dX12_sign_4 rfl rfl ?_
  show hf_G X Y_X12_readPart (d + 1) _ _ 68 [some (.ref 156), none, none] [.int 193, .ref 156] (t, T, I, L, P) _
  exact hf_callV (c := 12) (as := [.int 193]) ok_X12_must dX12_readPart_68 hw1323 hw1324 hw1637 (hs.2.1 156 _ rfl) (by decide) (hf_lin hs 156 rfl) rfl (Nat.le_of_ble_eq_true rfl) rfl (Nat.le_of_ble_eq_true rfl) (Nat.zero_le _) (Nat.zero_le _) (hf_mono (fun r M q => hf_drop (l' := [none, none, none]) (by simp [hf_sub]) q) h)

set_option maxHeartbeats 4000000 in
theorem w_X12_readPart_133 {X : hf_X} {d k n t : Nat} {T : hf_T} {I : hf_I} {L : hf_L} {P : hf_P} {Q : Option Value → hf_M → Prop}  (hs : hf_Lay t T P) (h : Q none (t, T, I, L, P)) : hf_G X Y_X12_readPart d k n 133 [none, none, none] [] (t, T, I, L, P) Q := by
  refine hf_goto (tgt := 140) dX12_readPart_133 (by decide) ?_
  refine hf_return dX12_readPart_140 rfl ?_
  exact h

set_option maxHeartbeats 4000000 in
theorem w_X12_readPart_71 {X : hf_X} {d k n t : Nat} {T : hf_T} {I : hf_I} {L : hf_L} {P : hf_P} {Q : Option Value → hf_M → Prop}  (hs : hf_Lay t T P) (h : Q none (t, T, I, L, P)) : hf_G X Y_X12_readPart d k n 71 [none, none, none] [] (t, T, I, L, P) Q := by
  refine hf_goto (tgt := 140) dX12_readPart_71 (by decide) ?_
  refine hf_return dX12_readPart_140 rfl ?_
  exact h

set_option maxHeartbeats 4000000 in
theorem w_X12_reads_0 {X : hf_X} {d k n t : Nat} {T : hf_T} {I : hf_I} {L : hf_L} {P : hf_P} {Q : Option Value → hf_M → Prop}  (hs : hf_Lay t T P) (h : hf_G X Y_X12_splits d 0 0 0 (hf_en [.ref 156, .int (I 156 10)] 6) [] (t, T, I, L, P) (fun r M => hf_G X Y_X12_reads (d + 1) k n 8 [some (.ref 156), none] (r.toList ++ []) M Q)) : hf_G X Y_X12_reads (d + 1) k n 0 (hf_en [.ref 156] 2) [] (t, T, I, L, P) Q := by
  show hf_G X Y_X12_reads (d + 1) k n 0 [some (.ref 156), none] [] (t, T, I, L, P) Q
  refine hf_aload_n dX12_reads_0 rfl rfl ?_
  refine hf_aload_n dX12_reads_1 rfl rfl ?_
  refine hf_geti (c := 12) (j := 10) dX12_reads_2 (hs.2.1 156 _ rfl) (hf_lin hs 156 rfl) (by decide) (by decide) hw1046 (Or.inl rfl) ?_
  exact hf_callV (c := 12) (as := [.int (I 156 10)]) ok_X12_splits dX12_reads_5 hw1286 hw1287 hw1627 (hs.2.1 156 _ rfl) (by decide) (hf_lin hs 156 rfl) rfl (Nat.le_of_ble_eq_true rfl) rfl (Nat.le_of_ble_eq_true rfl) (Nat.zero_le _) (Nat.zero_le _) h

set_option maxHeartbeats 4000000 in
theorem w_X12_reads_8 {X : hf_X} {d k n t : Nat} {T : hf_T} {I : hf_I} {L : hf_L} {P : hf_P} {Q : Option Value → hf_M → Prop}  (hs : hf_Lay t T P) (h : hf_G X Y_X12_readOne d 0 0 0 (hf_en [.ref 156] 1) [] (t, T, (hf_up (hf_up (hf_up (hf_up I 156 10 0) 156 16 0) 156 17 0) 156 18 (-1)), L, P) (fun r M => hf_G X Y_X12_reads (d + 1) k n 32 [some (.ref 156), none] (r.toList ++ []) M Q)) : hf_G X Y_X12_reads (d + 1) k n 8 [some (.ref 156), none] [] (t, T, I, L, P) Q := by
  refine hf_aload_n dX12_reads_8 rfl rfl ?_
  refine hf_iconst (v := 0) dX12_reads_9 (by decide) ?_
  refine hf_puti (c := 12) (j := 10) dX12_reads_10 (hs.2.1 156 _ rfl) (hf_lin hs 156 rfl) (by decide) (by decide) hw1046 rfl rfl ?_
  refine hf_aload_n dX12_reads_13 rfl rfl ?_
  refine hf_iconst (v := 0) dX12_reads_14 (by decide) ?_
  refine hf_puti (c := 12) (j := 16) dX12_reads_15 (hs.2.1 156 _ rfl) (hf_lin hs 156 rfl) (by decide) (by decide) hw1052 rfl rfl ?_
  refine hf_aload_n dX12_reads_18 rfl rfl ?_
  refine hf_iconst (v := 0) dX12_reads_19 (by decide) ?_
  refine hf_puti (c := 12) (j := 17) dX12_reads_20 (hs.2.1 156 _ rfl) (hf_lin hs 156 rfl) (by decide) (by decide) hw1053 rfl rfl ?_
  refine hf_aload_n dX12_reads_23 rfl rfl ?_
  refine hf_iconst (v := (-1)) dX12_reads_24 (by decide) ?_
  refine hf_puti (c := 12) (j := 18) dX12_reads_25 (hs.2.1 156 _ rfl) (hf_lin hs 156 rfl) (by decide) (by decide) hw1054 rfl rfl ?_
  refine hf_aload_n dX12_reads_28 rfl rfl ?_
  exact hf_callV (c := 12) (as := []) ok_X12_readOne dX12_reads_29 hw1299 hw1300 hw1629 (hs.2.1 156 _ rfl) (by decide) (hf_lin hs 156 rfl) rfl (Nat.le_of_ble_eq_true rfl) rfl (Nat.le_of_ble_eq_true rfl) (Nat.zero_le _) (Nat.zero_le _) h

set_option maxHeartbeats 4000000 in
theorem w_X12_reads_32 {X : hf_X} {d k n t : Nat} {T : hf_T} {I : hf_I} {L : hf_L} {P : hf_P} {Q : Option Value → hf_M → Prop}  (hs : hf_Lay t T P) (h : hf_G X Y_X12_reads d k n 34 [some (.ref 156), some (.int 1)] [] (t, T, I, L, P) Q) : hf_G X Y_X12_reads d k n 32 [some (.ref 156), none] [] (t, T, I, L, P) Q := by
  refine hf_iconst (v := 1) dX12_reads_32 (by decide) ?_
  refine hf_istore_n (l2 := [some (.ref 156), some (.int 1)]) dX12_reads_33 rfl (by decide) rfl ?_
  exact h

set_option maxHeartbeats 4000000 in
theorem w_X12_reads_34 {X : hf_X} {d k n t : Nat} {T : hf_T} {I : hf_I} {L : hf_L} {P : hf_P} {Q : Option Value → hf_M → Prop} {x1 : Int32} (hs : hf_Lay t T P) (h : hf_G X Y_X12_takes0 d 0 0 0 (hf_en [.ref 156, .int 159] 3) [] (t, T, I, L, P) (fun r M => hf_G X Y_X12_reads (d + 1) k n 43 [some (.ref 156), some (.int x1)] (r.toList ++ []) M Q)) : hf_G X Y_X12_reads (d + 1) k n 34 [some (.ref 156), some (.int x1)] [] (t, T, I, L, P) Q := by
  refine hf_aload_n dX12_reads_34 rfl rfl ?_
  refine hf_bipush (v := 59) dX12_reads_35 (by decide) ?_
  refine hf_callS (as := [.int 59]) ok_X12_sign dX12_reads_37 hw1226 hw1227 rfl (Nat.le_of_ble_eq_true rfl) rfl (Nat.le_of_ble_eq_true rfl) (Nat.zero_le _) (Nat.zero_le _) ?_
  show hf_G X Y_X12_sign d _ _ 0 [some (.int 59)] [] (t, T, I, L, P) _
  refine hf_bipush (v := 100) dX12_sign_0 (by decide) ?_
  refine hf_iload_n dX12_sign_2 rfl rfl ?_
  refine hf_iadd dX12_sign_3 ?_
  rw [show ((100 + 59) : Int32) = 159 by decide]
  refine hf_ireturn dX12_sign_4 rfl rfl ?_
  show hf_G X Y_X12_reads (d + 1) _ _ 40 [some (.ref 156), some (.int x1)] [.int 159, .ref 156] (t, T, I, L, P) _
  exact hf_callV (c := 12) (as := [.int 159]) ok_X12_takes0 dX12_reads_40 hw1305 hw1306 hw1631 (hs.2.1 156 _ rfl) (by decide) (hf_lin hs 156 rfl) rfl (Nat.le_of_ble_eq_true rfl) rfl (Nat.le_of_ble_eq_true rfl) (Nat.zero_le _) (Nat.zero_le _) h

set_option maxHeartbeats 4000000 in
theorem w_X12_reads_43 {X : hf_X} {d k n t : Nat} {T : hf_T} {I : hf_I} {L : hf_L} {P : hf_P} {Q : Option Value → hf_M → Prop} {x1 : Int32} {s0 : Int32} (hs : hf_Lay t T P) (h : (s0 = 0 → (¬ (I 156 18) = (-1) → (¬ (I 156 18) = (-1) → Q (some (.int 0)) (t, T, (hf_up I 156 11 (I 156 18)), L, P)) ∧ ((I 156 18) = (-1) → Q (some (.int 1)) (t, T, (hf_up I 156 11 (I 156 18)), L, P))) ∧ ((I 156 18) = (-1) → ((I 156 15) ≤ (I 156 16) → (¬ (I 156 18) = (-1) → Q (some (.int 0)) (t, T, (hf_up I 156 11 (I 156 18)), L, P)) ∧ ((I 156 18) = (-1) → Q (some (.int 1)) (t, T, (hf_up I 156 11 (I 156 18)), L, P))) ∧ (¬ ((I 156 15) ≤ (I 156 16)) → (¬ (I 156 18) = (-1) → (¬ (I 156 18) = (-1) → Q (some (.int 0)) (t, T, (hf_up I 156 11 (I 156 18)), L, P)) ∧ ((I 156 18) = (-1) → Q (some (.int 1)) (t, T, (hf_up I 156 11 (I 156 18)), L, P))) ∧ ((I 156 18) = (-1) → vp_in (I 156 16) 401 ∧ ((¬ (I 167 (((I 156 16)).toNatClampNeg)) = (-1) → Q (some (.int 0)) (t, T, (hf_up (hf_up I 156 18 (I 167 (((I 156 16)).toNatClampNeg))) 156 11 (I 167 (((I 156 16)).toNatClampNeg))), L, P)) ∧ ((I 167 (((I 156 16)).toNatClampNeg)) = (-1) → Q (some (.int 1)) (t, T, (hf_up (hf_up I 156 18 (I 167 (((I 156 16)).toNatClampNeg))) 156 11 (I 167 (((I 156 16)).toNatClampNeg))), L, P))))))) ∧ (¬ (s0 = 0) → (¬ x1 = 12 → (¬ (I 156 18) = (-1) → hf_G X Y_X12_reads (d + 2) k n 34 [some (.ref 156), some (.int (x1 + 1))] [] (t, T, I, L, P) Q) ∧ ((I 156 18) = (-1) → hf_G X Y_X12_readOne (d + 1) 0 0 0 (hf_en [.ref 156] 1) [] (t, T, I, L, P) (fun r M => hf_G X Y_X12_reads (d + 2) k n 67 [some (.ref 156), some (.int x1)] (r.toList ++ []) M Q))) ∧ (x1 = 12 → (¬ (I 156 18) = (-1) → (¬ (I 156 18) = (-1) → hf_G X Y_X12_reads (d + 2) k n 34 [some (.ref 156), some (.int (x1 + 1))] [] (t, T, I, L, P) Q) ∧ ((I 156 18) = (-1) → hf_G X Y_X12_readOne (d + 1) 0 0 0 (hf_en [.ref 156] 1) [] (t, T, I, L, P) (fun r M => hf_G X Y_X12_reads (d + 2) k n 67 [some (.ref 156), some (.int x1)] (r.toList ++ []) M Q))) ∧ ((I 156 18) = (-1) → vp_in (I 156 16) 401 ∧ ((¬ (I 167 (((I 156 16)).toNatClampNeg)) = (-1) → hf_G X Y_X12_reads (d + 2) k n 34 [some (.ref 156), some (.int (x1 + 1))] [] (t, T, (hf_up I 156 18 (I 167 (((I 156 16)).toNatClampNeg))), L, P) Q) ∧ ((I 167 (((I 156 16)).toNatClampNeg)) = (-1) → hf_G X Y_X12_readOne (d + 1) 0 0 0 (hf_en [.ref 156] 1) [] (t, T, (hf_up I 156 18 (I 167 (((I 156 16)).toNatClampNeg))), L, P) (fun r M => hf_G X Y_X12_reads (d + 2) k n 67 [some (.ref 156), some (.int x1)] (r.toList ++ []) M Q))))))) : hf_G X Y_X12_reads (d + 2) k n 43 [some (.ref 156), some (.int x1)] [.int s0] (t, T, I, L, P) Q := by
  refine hf_if_eq (tgt := 73) dX12_reads_43 (by decide) (fun hc => ?_) (fun hc => ?_)
  · replace h := h.1 hc
    refine hf_aload_n dX12_reads_73 rfl rfl ?_
    refine hf_callV (c := 12) (as := []) ok_X12_fine dX12_reads_74 hw1308 hw1309 hw1632 (hs.2.1 156 _ rfl) (by decide) (hf_lin hs 156 rfl) rfl (Nat.le_of_ble_eq_true rfl) rfl (Nat.le_of_ble_eq_true rfl) (Nat.zero_le _) (Nat.zero_le _) ?_
    show hf_G X Y_X12_fine (d + 1) _ _ 0 [some (.ref 156)] [] (t, T, I, L, P) _
    refine hf_aload_n dX12_fine_0 rfl rfl ?_
    refine hf_geti (c := 12) (j := 18) dX12_fine_1 (hs.2.1 156 _ rfl) (hf_lin hs 156 rfl) (by decide) (by decide) hw1054 (Or.inl rfl) ?_
    refine hf_iconst (v := (-1)) dX12_fine_4 (by decide) ?_
    refine hf_icmp_ne (tgt := 12) dX12_fine_5 (by decide) (fun hc => ?_) (fun hc => ?_)
    · replace h := h.1 hc
      refine hf_iconst (v := 0) dX12_fine_12 (by decide) ?_
      refine hf_ireturn dX12_fine_13 rfl (by decide) ?_
      show hf_G X Y_X12_reads (d + 2) _ _ 77 [some (.ref 156), some (.int x1)] [.int 0] (t, T, I, L, P) _
      refine hf_if_eq (tgt := 95) dX12_reads_77 (by decide) (fun _ => ?_) (fun hc => absurd (show (0 : Int32) = (0 : Int32) by decide) hc)
      refine hf_aload_n dX12_reads_95 rfl rfl ?_
      refine hf_aload_n dX12_reads_96 rfl rfl ?_
      refine hf_geti (c := 12) (j := 18) dX12_reads_97 (hs.2.1 156 _ rfl) (hf_lin hs 156 rfl) (by decide) (by decide) hw1054 (Or.inl rfl) ?_
      refine hf_puti (c := 12) (j := 11) dX12_reads_100 (hs.2.1 156 _ rfl) (hf_lin hs 156 rfl) (by decide) (by decide) hw1047 rfl rfl ?_
      refine hf_aload_n dX12_reads_103 rfl rfl ?_
      refine hf_callV (c := 12) (as := []) ok_X12_fine dX12_reads_104 hw1308 hw1309 hw1632 (hs.2.1 156 _ rfl) (by decide) (hf_lin hs 156 rfl) rfl (Nat.le_of_ble_eq_true rfl) rfl (Nat.le_of_ble_eq_true rfl) (Nat.zero_le _) (Nat.zero_le _) ?_
      show hf_G X Y_X12_fine (d + 1) _ _ 0 [some (.ref 156)] [] (t, T, (hf_up I 156 11 (I 156 18)), L, P) _
      refine hf_aload_n dX12_fine_0 rfl rfl ?_
      refine hf_geti (c := 12) (j := 18) dX12_fine_1 (hs.2.1 156 _ rfl) (hf_lin hs 156 rfl) (by decide) (by decide) hw1054 (Or.inl rfl) ?_
      refine hf_iconst (v := (-1)) dX12_fine_4 (by decide) ?_
      refine hf_icmp_ne (tgt := 12) dX12_fine_5 (by decide) (fun hc => ?_) (fun hc => ?_)
      · replace h := h.1 hc
        refine hf_iconst (v := 0) dX12_fine_12 (by decide) ?_
        refine hf_ireturn dX12_fine_13 rfl (by decide) ?_
        show hf_G X Y_X12_reads (d + 2) _ _ 107 [some (.ref 156), some (.int x1)] [.int 0] (t, T, (hf_up I 156 11 (I 156 18)), L, P) _
        refine hf_ireturn dX12_reads_107 rfl (by decide) ?_
        exact h
      · replace h := h.2 hc
        refine hf_iconst (v := 1) dX12_fine_8 (by decide) ?_
        refine hf_goto (tgt := 13) dX12_fine_9 (by decide) ?_
        refine hf_ireturn dX12_fine_13 rfl (by decide) ?_
        show hf_G X Y_X12_reads (d + 2) _ _ 107 [some (.ref 156), some (.int x1)] [.int 1] (t, T, (hf_up I 156 11 (I 156 18)), L, P) _
        refine hf_ireturn dX12_reads_107 rfl (by decide) ?_
        exact h
    · replace h := h.2 hc
      refine hf_iconst (v := 1) dX12_fine_8 (by decide) ?_
      refine hf_goto (tgt := 13) dX12_fine_9 (by decide) ?_
      refine hf_ireturn dX12_fine_13 rfl (by decide) ?_
      show hf_G X Y_X12_reads (d + 2) _ _ 77 [some (.ref 156), some (.int x1)] [.int 1] (t, T, I, L, P) _
      refine hf_if_eq (tgt := 95) dX12_reads_77 (by decide) (fun hc => absurd (show (1 : Int32) = (0 : Int32) from hc) (by decide)) (fun _ => ?_)
      refine hf_aload_n dX12_reads_80 rfl rfl ?_
      refine hf_geti (c := 12) (j := 16) dX12_reads_81 (hs.2.1 156 _ rfl) (hf_lin hs 156 rfl) (by decide) (by decide) hw1052 (Or.inl rfl) ?_
      refine hf_aload_n dX12_reads_84 rfl rfl ?_
      refine hf_geti (c := 12) (j := 15) dX12_reads_85 (hs.2.1 156 _ rfl) (hf_lin hs 156 rfl) (by decide) (by decide) hw1051 (Or.inl rfl) ?_
      refine hf_icmp_ge (tgt := 95) dX12_reads_88 (by decide) (fun hc => ?_) (fun hc => ?_)
      · replace h := h.1 hc
        refine hf_aload_n dX12_reads_95 rfl rfl ?_
        refine hf_aload_n dX12_reads_96 rfl rfl ?_
        refine hf_geti (c := 12) (j := 18) dX12_reads_97 (hs.2.1 156 _ rfl) (hf_lin hs 156 rfl) (by decide) (by decide) hw1054 (Or.inl rfl) ?_
        refine hf_puti (c := 12) (j := 11) dX12_reads_100 (hs.2.1 156 _ rfl) (hf_lin hs 156 rfl) (by decide) (by decide) hw1047 rfl rfl ?_
        refine hf_aload_n dX12_reads_103 rfl rfl ?_
        refine hf_callV (c := 12) (as := []) ok_X12_fine dX12_reads_104 hw1308 hw1309 hw1632 (hs.2.1 156 _ rfl) (by decide) (hf_lin hs 156 rfl) rfl (Nat.le_of_ble_eq_true rfl) rfl (Nat.le_of_ble_eq_true rfl) (Nat.zero_le _) (Nat.zero_le _) ?_
        show hf_G X Y_X12_fine (d + 1) _ _ 0 [some (.ref 156)] [] (t, T, (hf_up I 156 11 (I 156 18)), L, P) _
        refine hf_aload_n dX12_fine_0 rfl rfl ?_
        refine hf_geti (c := 12) (j := 18) dX12_fine_1 (hs.2.1 156 _ rfl) (hf_lin hs 156 rfl) (by decide) (by decide) hw1054 (Or.inl rfl) ?_
        refine hf_iconst (v := (-1)) dX12_fine_4 (by decide) ?_
        refine hf_icmp_ne (tgt := 12) dX12_fine_5 (by decide) (fun hc => ?_) (fun hc => ?_)
        · replace h := h.1 hc
          refine hf_iconst (v := 0) dX12_fine_12 (by decide) ?_
          refine hf_ireturn dX12_fine_13 rfl (by decide) ?_
          show hf_G X Y_X12_reads (d + 2) _ _ 107 [some (.ref 156), some (.int x1)] [.int 0] (t, T, (hf_up I 156 11 (I 156 18)), L, P) _
          refine hf_ireturn dX12_reads_107 rfl (by decide) ?_
          exact h
        · replace h := h.2 hc
          refine hf_iconst (v := 1) dX12_fine_8 (by decide) ?_
          refine hf_goto (tgt := 13) dX12_fine_9 (by decide) ?_
          refine hf_ireturn dX12_fine_13 rfl (by decide) ?_
          show hf_G X Y_X12_reads (d + 2) _ _ 107 [some (.ref 156), some (.int x1)] [.int 1] (t, T, (hf_up I 156 11 (I 156 18)), L, P) _
          refine hf_ireturn dX12_reads_107 rfl (by decide) ?_
          exact h
      · replace h := h.2 hc
        refine hf_aload_n dX12_reads_91 rfl rfl ?_
        refine hf_callV (c := 12) (as := []) ok_X12_faults dX12_reads_92 hw1320 hw1321 hw1636 (hs.2.1 156 _ rfl) (by decide) (hf_lin hs 156 rfl) rfl (Nat.le_of_ble_eq_true rfl) rfl (Nat.le_of_ble_eq_true rfl) (Nat.zero_le _) (Nat.zero_le _) ?_
        show hf_G X Y_X12_faults (d + 1) _ _ 0 [some (.ref 156)] [] (t, T, I, L, P) _
        refine hf_aload_n dX12_faults_0 rfl rfl ?_
        refine hf_callV (c := 12) (as := []) ok_X12_fine dX12_faults_1 hw1308 hw1309 hw1632 (hs.2.1 156 _ rfl) (by decide) (hf_lin hs 156 rfl) rfl (Nat.le_of_ble_eq_true rfl) rfl (Nat.le_of_ble_eq_true rfl) (Nat.zero_le _) (Nat.zero_le _) ?_
        show hf_G X Y_X12_fine d _ _ 0 [some (.ref 156)] [] (t, T, I, L, P) _
        refine hf_aload_n dX12_fine_0 rfl rfl ?_
        refine hf_geti (c := 12) (j := 18) dX12_fine_1 (hs.2.1 156 _ rfl) (hf_lin hs 156 rfl) (by decide) (by decide) hw1054 (Or.inl rfl) ?_
        refine hf_iconst (v := (-1)) dX12_fine_4 (by decide) ?_
        refine hf_icmp_ne (tgt := 12) dX12_fine_5 (by decide) (fun hc => ?_) (fun hc => ?_)
        · replace h := h.1 hc
          refine hf_iconst (v := 0) dX12_fine_12 (by decide) ?_
          refine hf_ireturn dX12_fine_13 rfl (by decide) ?_
          show hf_G X Y_X12_faults (d + 1) _ _ 4 [some (.ref 156)] [.int 0] (t, T, I, L, P) _
          refine hf_if_eq (tgt := 20) dX12_faults_4 (by decide) (fun _ => ?_) (fun hc => absurd (show (0 : Int32) = (0 : Int32) by decide) hc)
          refine hf_return dX12_faults_20 rfl ?_
          show hf_G X Y_X12_reads (d + 2) _ _ 95 [some (.ref 156), some (.int x1)] [] (t, T, I, L, P) _
          refine hf_aload_n dX12_reads_95 rfl rfl ?_
          refine hf_aload_n dX12_reads_96 rfl rfl ?_
          refine hf_geti (c := 12) (j := 18) dX12_reads_97 (hs.2.1 156 _ rfl) (hf_lin hs 156 rfl) (by decide) (by decide) hw1054 (Or.inl rfl) ?_
          refine hf_puti (c := 12) (j := 11) dX12_reads_100 (hs.2.1 156 _ rfl) (hf_lin hs 156 rfl) (by decide) (by decide) hw1047 rfl rfl ?_
          refine hf_aload_n dX12_reads_103 rfl rfl ?_
          refine hf_callV (c := 12) (as := []) ok_X12_fine dX12_reads_104 hw1308 hw1309 hw1632 (hs.2.1 156 _ rfl) (by decide) (hf_lin hs 156 rfl) rfl (Nat.le_of_ble_eq_true rfl) rfl (Nat.le_of_ble_eq_true rfl) (Nat.zero_le _) (Nat.zero_le _) ?_
          show hf_G X Y_X12_fine (d + 1) _ _ 0 [some (.ref 156)] [] (t, T, (hf_up I 156 11 (I 156 18)), L, P) _
          refine hf_aload_n dX12_fine_0 rfl rfl ?_
          refine hf_geti (c := 12) (j := 18) dX12_fine_1 (hs.2.1 156 _ rfl) (hf_lin hs 156 rfl) (by decide) (by decide) hw1054 (Or.inl rfl) ?_
          refine hf_iconst (v := (-1)) dX12_fine_4 (by decide) ?_
          refine hf_icmp_ne (tgt := 12) dX12_fine_5 (by decide) (fun hc => ?_) (fun hc => ?_)
          · replace h := h.1 hc
            refine hf_iconst (v := 0) dX12_fine_12 (by decide) ?_
            refine hf_ireturn dX12_fine_13 rfl (by decide) ?_
            show hf_G X Y_X12_reads (d + 2) _ _ 107 [some (.ref 156), some (.int x1)] [.int 0] (t, T, (hf_up I 156 11 (I 156 18)), L, P) _
            refine hf_ireturn dX12_reads_107 rfl (by decide) ?_
            exact h
          · replace h := h.2 hc
            refine hf_iconst (v := 1) dX12_fine_8 (by decide) ?_
            refine hf_goto (tgt := 13) dX12_fine_9 (by decide) ?_
            refine hf_ireturn dX12_fine_13 rfl (by decide) ?_
            show hf_G X Y_X12_reads (d + 2) _ _ 107 [some (.ref 156), some (.int x1)] [.int 1] (t, T, (hf_up I 156 11 (I 156 18)), L, P) _
            refine hf_ireturn dX12_reads_107 rfl (by decide) ?_
            exact h
        · replace h := h.2 hc
          refine hf_iconst (v := 1) dX12_fine_8 (by decide) ?_
          refine hf_goto (tgt := 13) dX12_fine_9 (by decide) ?_
          refine hf_ireturn dX12_fine_13 rfl (by decide) ?_
          show hf_G X Y_X12_faults (d + 1) _ _ 4 [some (.ref 156)] [.int 1] (t, T, I, L, P) _
          refine hf_if_eq (tgt := 20) dX12_faults_4 (by decide) (fun hc => absurd (show (1 : Int32) = (0 : Int32) from hc) (by decide)) (fun _ => ?_)
          refine hf_aload_n dX12_faults_7 rfl rfl ?_
          refine hf_aload_n dX12_faults_8 rfl rfl ?_
          refine hf_getr (b := 167) (c := 12) (j := 14) dX12_faults_9 (hs.2.1 156 _ rfl) (hf_lin hs 156 rfl) (by decide) (by decide) hw1050 rfl (hs.2.2 156 14 _ rfl) ?_
          refine hf_aload_n dX12_faults_12 rfl rfl ?_
          refine hf_geti (c := 12) (j := 16) dX12_faults_13 (hs.2.1 156 _ rfl) (hf_lin hs 156 rfl) (by decide) (by decide) hw1052 (Or.inl rfl) ?_
          refine hf_iald dX12_faults_16 (hs.2.1 167 _ rfl) (hf_lin hs 167 rfl) h.1 ?_
          replace h := h.2
          refine hf_puti (c := 12) (j := 18) dX12_faults_17 (hs.2.1 156 _ rfl) (hf_lin hs 156 rfl) (by decide) (by decide) hw1054 rfl rfl ?_
          refine hf_return dX12_faults_20 rfl ?_
          show hf_G X Y_X12_reads (d + 2) _ _ 95 [some (.ref 156), some (.int x1)] [] (t, T, (hf_up I 156 18 (I 167 (((I 156 16)).toNatClampNeg))), L, P) _
          refine hf_aload_n dX12_reads_95 rfl rfl ?_
          refine hf_aload_n dX12_reads_96 rfl rfl ?_
          refine hf_geti (c := 12) (j := 18) dX12_reads_97 (hs.2.1 156 _ rfl) (hf_lin hs 156 rfl) (by decide) (by decide) hw1054 (Or.inl rfl) ?_
          refine hf_puti (c := 12) (j := 11) dX12_reads_100 (hs.2.1 156 _ rfl) (hf_lin hs 156 rfl) (by decide) (by decide) hw1047 rfl rfl ?_
          refine hf_aload_n dX12_reads_103 rfl rfl ?_
          refine hf_callV (c := 12) (as := []) ok_X12_fine dX12_reads_104 hw1308 hw1309 hw1632 (hs.2.1 156 _ rfl) (by decide) (hf_lin hs 156 rfl) rfl (Nat.le_of_ble_eq_true rfl) rfl (Nat.le_of_ble_eq_true rfl) (Nat.zero_le _) (Nat.zero_le _) ?_
          show hf_G X Y_X12_fine (d + 1) _ _ 0 [some (.ref 156)] [] (t, T, (hf_up (hf_up I 156 18 (I 167 (((I 156 16)).toNatClampNeg))) 156 11 (I 167 (((I 156 16)).toNatClampNeg))), L, P) _
          refine hf_aload_n dX12_fine_0 rfl rfl ?_
          refine hf_geti (c := 12) (j := 18) dX12_fine_1 (hs.2.1 156 _ rfl) (hf_lin hs 156 rfl) (by decide) (by decide) hw1054 (Or.inl rfl) ?_
          refine hf_iconst (v := (-1)) dX12_fine_4 (by decide) ?_
          refine hf_icmp_ne (tgt := 12) dX12_fine_5 (by decide) (fun hc => ?_) (fun hc => ?_)
          · replace h := h.1 hc
            refine hf_iconst (v := 0) dX12_fine_12 (by decide) ?_
            refine hf_ireturn dX12_fine_13 rfl (by decide) ?_
            show hf_G X Y_X12_reads (d + 2) _ _ 107 [some (.ref 156), some (.int x1)] [.int 0] (t, T, (hf_up (hf_up I 156 18 (I 167 (((I 156 16)).toNatClampNeg))) 156 11 (I 167 (((I 156 16)).toNatClampNeg))), L, P) _
            refine hf_ireturn dX12_reads_107 rfl (by decide) ?_
            exact h
          · replace h := h.2 hc
            refine hf_iconst (v := 1) dX12_fine_8 (by decide) ?_
            refine hf_goto (tgt := 13) dX12_fine_9 (by decide) ?_
            refine hf_ireturn dX12_fine_13 rfl (by decide) ?_
            show hf_G X Y_X12_reads (d + 2) _ _ 107 [some (.ref 156), some (.int x1)] [.int 1] (t, T, (hf_up (hf_up I 156 18 (I 167 (((I 156 16)).toNatClampNeg))) 156 11 (I 167 (((I 156 16)).toNatClampNeg))), L, P) _
            refine hf_ireturn dX12_reads_107 rfl (by decide) ?_
            exact h
  · replace h := h.2 hc
    refine hf_iload_n dX12_reads_46 rfl rfl ?_
    refine hf_bipush (v := 12) dX12_reads_47 (by decide) ?_
    refine hf_icmp_ne (tgt := 56) dX12_reads_49 (by decide) (fun hc => ?_) (fun hc => ?_)
    · replace h := h.1 hc
      refine hf_aload_n dX12_reads_56 rfl rfl ?_
      refine hf_callV (c := 12) (as := []) ok_X12_fine dX12_reads_57 hw1308 hw1309 hw1632 (hs.2.1 156 _ rfl) (by decide) (hf_lin hs 156 rfl) rfl (Nat.le_of_ble_eq_true rfl) rfl (Nat.le_of_ble_eq_true rfl) (Nat.zero_le _) (Nat.zero_le _) ?_
      show hf_G X Y_X12_fine (d + 1) _ _ 0 [some (.ref 156)] [] (t, T, I, L, P) _
      refine hf_aload_n dX12_fine_0 rfl rfl ?_
      refine hf_geti (c := 12) (j := 18) dX12_fine_1 (hs.2.1 156 _ rfl) (hf_lin hs 156 rfl) (by decide) (by decide) hw1054 (Or.inl rfl) ?_
      refine hf_iconst (v := (-1)) dX12_fine_4 (by decide) ?_
      refine hf_icmp_ne (tgt := 12) dX12_fine_5 (by decide) (fun hc => ?_) (fun hc => ?_)
      · replace h := h.1 hc
        refine hf_iconst (v := 0) dX12_fine_12 (by decide) ?_
        refine hf_ireturn dX12_fine_13 rfl (by decide) ?_
        show hf_G X Y_X12_reads (d + 2) _ _ 60 [some (.ref 156), some (.int x1)] [.int 0] (t, T, I, L, P) _
        refine hf_if_eq (tgt := 67) dX12_reads_60 (by decide) (fun _ => ?_) (fun hc => absurd (show (0 : Int32) = (0 : Int32) by decide) hc)
        refine hf_iinc (v := (x1 + 1)) (l2 := [some (.ref 156), some (.int (x1 + 1))]) dX12_reads_67 (by decide) rfl rfl rfl ?_
        refine hf_goto (tgt := 34) dX12_reads_70 (by decide) ?_
        exact h
      · replace h := h.2 hc
        refine hf_iconst (v := 1) dX12_fine_8 (by decide) ?_
        refine hf_goto (tgt := 13) dX12_fine_9 (by decide) ?_
        refine hf_ireturn dX12_fine_13 rfl (by decide) ?_
        show hf_G X Y_X12_reads (d + 2) _ _ 60 [some (.ref 156), some (.int x1)] [.int 1] (t, T, I, L, P) _
        refine hf_if_eq (tgt := 67) dX12_reads_60 (by decide) (fun hc => absurd (show (1 : Int32) = (0 : Int32) from hc) (by decide)) (fun _ => ?_)
        refine hf_aload_n dX12_reads_63 rfl rfl ?_
        exact hf_callV (c := 12) (as := []) ok_X12_readOne dX12_reads_64 hw1299 hw1300 hw1629 (hs.2.1 156 _ rfl) (by decide) (hf_lin hs 156 rfl) rfl (Nat.le_of_ble_eq_true rfl) rfl (Nat.le_of_ble_eq_true rfl) (Nat.zero_le _) (Nat.zero_le _) h
    · replace h := h.2 hc
      refine hf_aload_n dX12_reads_52 rfl rfl ?_
      refine hf_callV (c := 12) (as := []) ok_X12_faults dX12_reads_53 hw1320 hw1321 hw1636 (hs.2.1 156 _ rfl) (by decide) (hf_lin hs 156 rfl) rfl (Nat.le_of_ble_eq_true rfl) rfl (Nat.le_of_ble_eq_true rfl) (Nat.zero_le _) (Nat.zero_le _) ?_
      show hf_G X Y_X12_faults (d + 1) _ _ 0 [some (.ref 156)] [] (t, T, I, L, P) _
      refine hf_aload_n dX12_faults_0 rfl rfl ?_
      refine hf_callV (c := 12) (as := []) ok_X12_fine dX12_faults_1 hw1308 hw1309 hw1632 (hs.2.1 156 _ rfl) (by decide) (hf_lin hs 156 rfl) rfl (Nat.le_of_ble_eq_true rfl) rfl (Nat.le_of_ble_eq_true rfl) (Nat.zero_le _) (Nat.zero_le _) ?_
      show hf_G X Y_X12_fine d _ _ 0 [some (.ref 156)] [] (t, T, I, L, P) _
      refine hf_aload_n dX12_fine_0 rfl rfl ?_
      refine hf_geti (c := 12) (j := 18) dX12_fine_1 (hs.2.1 156 _ rfl) (hf_lin hs 156 rfl) (by decide) (by decide) hw1054 (Or.inl rfl) ?_
      refine hf_iconst (v := (-1)) dX12_fine_4 (by decide) ?_
      refine hf_icmp_ne (tgt := 12) dX12_fine_5 (by decide) (fun hc => ?_) (fun hc => ?_)
      · replace h := h.1 hc
        refine hf_iconst (v := 0) dX12_fine_12 (by decide) ?_
        refine hf_ireturn dX12_fine_13 rfl (by decide) ?_
        show hf_G X Y_X12_faults (d + 1) _ _ 4 [some (.ref 156)] [.int 0] (t, T, I, L, P) _
        refine hf_if_eq (tgt := 20) dX12_faults_4 (by decide) (fun _ => ?_) (fun hc => absurd (show (0 : Int32) = (0 : Int32) by decide) hc)
        refine hf_return dX12_faults_20 rfl ?_
        show hf_G X Y_X12_reads (d + 2) _ _ 56 [some (.ref 156), some (.int x1)] [] (t, T, I, L, P) _
        refine hf_aload_n dX12_reads_56 rfl rfl ?_
        refine hf_callV (c := 12) (as := []) ok_X12_fine dX12_reads_57 hw1308 hw1309 hw1632 (hs.2.1 156 _ rfl) (by decide) (hf_lin hs 156 rfl) rfl (Nat.le_of_ble_eq_true rfl) rfl (Nat.le_of_ble_eq_true rfl) (Nat.zero_le _) (Nat.zero_le _) ?_
        show hf_G X Y_X12_fine (d + 1) _ _ 0 [some (.ref 156)] [] (t, T, I, L, P) _
        refine hf_aload_n dX12_fine_0 rfl rfl ?_
        refine hf_geti (c := 12) (j := 18) dX12_fine_1 (hs.2.1 156 _ rfl) (hf_lin hs 156 rfl) (by decide) (by decide) hw1054 (Or.inl rfl) ?_
        refine hf_iconst (v := (-1)) dX12_fine_4 (by decide) ?_
        refine hf_icmp_ne (tgt := 12) dX12_fine_5 (by decide) (fun hc => ?_) (fun hc => ?_)
        · replace h := h.1 hc
          refine hf_iconst (v := 0) dX12_fine_12 (by decide) ?_
          refine hf_ireturn dX12_fine_13 rfl (by decide) ?_
          show hf_G X Y_X12_reads (d + 2) _ _ 60 [some (.ref 156), some (.int x1)] [.int 0] (t, T, I, L, P) _
          refine hf_if_eq (tgt := 67) dX12_reads_60 (by decide) (fun _ => ?_) (fun hc => absurd (show (0 : Int32) = (0 : Int32) by decide) hc)
          refine hf_iinc (v := (x1 + 1)) (l2 := [some (.ref 156), some (.int (x1 + 1))]) dX12_reads_67 (by decide) rfl rfl rfl ?_
          refine hf_goto (tgt := 34) dX12_reads_70 (by decide) ?_
          exact h
        · replace h := h.2 hc
          refine hf_iconst (v := 1) dX12_fine_8 (by decide) ?_
          refine hf_goto (tgt := 13) dX12_fine_9 (by decide) ?_
          refine hf_ireturn dX12_fine_13 rfl (by decide) ?_
          show hf_G X Y_X12_reads (d + 2) _ _ 60 [some (.ref 156), some (.int x1)] [.int 1] (t, T, I, L, P) _
          refine hf_if_eq (tgt := 67) dX12_reads_60 (by decide) (fun hc => absurd (show (1 : Int32) = (0 : Int32) from hc) (by decide)) (fun _ => ?_)
          refine hf_aload_n dX12_reads_63 rfl rfl ?_
          exact hf_callV (c := 12) (as := []) ok_X12_readOne dX12_reads_64 hw1299 hw1300 hw1629 (hs.2.1 156 _ rfl) (by decide) (hf_lin hs 156 rfl) rfl (Nat.le_of_ble_eq_true rfl) rfl (Nat.le_of_ble_eq_true rfl) (Nat.zero_le _) (Nat.zero_le _) h
      · replace h := h.2 hc
        refine hf_iconst (v := 1) dX12_fine_8 (by decide) ?_
        refine hf_goto (tgt := 13) dX12_fine_9 (by decide) ?_
        refine hf_ireturn dX12_fine_13 rfl (by decide) ?_
        show hf_G X Y_X12_faults (d + 1) _ _ 4 [some (.ref 156)] [.int 1] (t, T, I, L, P) _
        refine hf_if_eq (tgt := 20) dX12_faults_4 (by decide) (fun hc => absurd (show (1 : Int32) = (0 : Int32) from hc) (by decide)) (fun _ => ?_)
        refine hf_aload_n dX12_faults_7 rfl rfl ?_
        refine hf_aload_n dX12_faults_8 rfl rfl ?_
        refine hf_getr (b := 167) (c := 12) (j := 14) dX12_faults_9 (hs.2.1 156 _ rfl) (hf_lin hs 156 rfl) (by decide) (by decide) hw1050 rfl (hs.2.2 156 14 _ rfl) ?_
        refine hf_aload_n dX12_faults_12 rfl rfl ?_
        refine hf_geti (c := 12) (j := 16) dX12_faults_13 (hs.2.1 156 _ rfl) (hf_lin hs 156 rfl) (by decide) (by decide) hw1052 (Or.inl rfl) ?_
        refine hf_iald dX12_faults_16 (hs.2.1 167 _ rfl) (hf_lin hs 167 rfl) h.1 ?_
        replace h := h.2
        refine hf_puti (c := 12) (j := 18) dX12_faults_17 (hs.2.1 156 _ rfl) (hf_lin hs 156 rfl) (by decide) (by decide) hw1054 rfl rfl ?_
        refine hf_return dX12_faults_20 rfl ?_
        show hf_G X Y_X12_reads (d + 2) _ _ 56 [some (.ref 156), some (.int x1)] [] (t, T, (hf_up I 156 18 (I 167 (((I 156 16)).toNatClampNeg))), L, P) _
        refine hf_aload_n dX12_reads_56 rfl rfl ?_
        refine hf_callV (c := 12) (as := []) ok_X12_fine dX12_reads_57 hw1308 hw1309 hw1632 (hs.2.1 156 _ rfl) (by decide) (hf_lin hs 156 rfl) rfl (Nat.le_of_ble_eq_true rfl) rfl (Nat.le_of_ble_eq_true rfl) (Nat.zero_le _) (Nat.zero_le _) ?_
        show hf_G X Y_X12_fine (d + 1) _ _ 0 [some (.ref 156)] [] (t, T, (hf_up I 156 18 (I 167 (((I 156 16)).toNatClampNeg))), L, P) _
        refine hf_aload_n dX12_fine_0 rfl rfl ?_
        refine hf_geti (c := 12) (j := 18) dX12_fine_1 (hs.2.1 156 _ rfl) (hf_lin hs 156 rfl) (by decide) (by decide) hw1054 (Or.inl rfl) ?_
        refine hf_iconst (v := (-1)) dX12_fine_4 (by decide) ?_
        refine hf_icmp_ne (tgt := 12) dX12_fine_5 (by decide) (fun hc => ?_) (fun hc => ?_)
        · replace h := h.1 hc
          refine hf_iconst (v := 0) dX12_fine_12 (by decide) ?_
          refine hf_ireturn dX12_fine_13 rfl (by decide) ?_
          show hf_G X Y_X12_reads (d + 2) _ _ 60 [some (.ref 156), some (.int x1)] [.int 0] (t, T, (hf_up I 156 18 (I 167 (((I 156 16)).toNatClampNeg))), L, P) _
          refine hf_if_eq (tgt := 67) dX12_reads_60 (by decide) (fun _ => ?_) (fun hc => absurd (show (0 : Int32) = (0 : Int32) by decide) hc)
          refine hf_iinc (v := (x1 + 1)) (l2 := [some (.ref 156), some (.int (x1 + 1))]) dX12_reads_67 (by decide) rfl rfl rfl ?_
          refine hf_goto (tgt := 34) dX12_reads_70 (by decide) ?_
          exact h
        · replace h := h.2 hc
          refine hf_iconst (v := 1) dX12_fine_8 (by decide) ?_
          refine hf_goto (tgt := 13) dX12_fine_9 (by decide) ?_
          refine hf_ireturn dX12_fine_13 rfl (by decide) ?_
          show hf_G X Y_X12_reads (d + 2) _ _ 60 [some (.ref 156), some (.int x1)] [.int 1] (t, T, (hf_up I 156 18 (I 167 (((I 156 16)).toNatClampNeg))), L, P) _
          refine hf_if_eq (tgt := 67) dX12_reads_60 (by decide) (fun hc => absurd (show (1 : Int32) = (0 : Int32) from hc) (by decide)) (fun _ => ?_)
          refine hf_aload_n dX12_reads_63 rfl rfl ?_
          exact hf_callV (c := 12) (as := []) ok_X12_readOne dX12_reads_64 hw1299 hw1300 hw1629 (hs.2.1 156 _ rfl) (by decide) (hf_lin hs 156 rfl) rfl (Nat.le_of_ble_eq_true rfl) rfl (Nat.le_of_ble_eq_true rfl) (Nat.zero_le _) (Nat.zero_le _) h

set_option maxHeartbeats 4000000 in
theorem w_X12_reads_67 {X : hf_X} {d k n t : Nat} {T : hf_T} {I : hf_I} {L : hf_L} {P : hf_P} {Q : Option Value → hf_M → Prop} {x1 : Int32} (hs : hf_Lay t T P) (h : hf_G X Y_X12_reads d k n 34 [some (.ref 156), some (.int (x1 + 1))] [] (t, T, I, L, P) Q) : hf_G X Y_X12_reads d k n 67 [some (.ref 156), some (.int x1)] [] (t, T, I, L, P) Q := by
  refine hf_iinc (v := (x1 + 1)) (l2 := [some (.ref 156), some (.int (x1 + 1))]) dX12_reads_67 (by decide) rfl rfl rfl ?_
  refine hf_goto (tgt := 34) dX12_reads_70 (by decide) ?_
  exact h

set_option maxHeartbeats 4000000 in
theorem w_X12_lays_0 {X : hf_X} {d k n t : Nat} {T : hf_T} {I : hf_I} {L : hf_L} {P : hf_P} {Q : Option Value → hf_M → Prop} {x1 : Int32} (hs : hf_Lay t T P) (h : vp_in (322 + x1) 5929 ∧ (hf_G X Y_X12_lays d k n 16 [some (.ref 156), some (.int x1), some (.int 0)] [] (t, T, (hf_up I 158 (((322 + x1)).toNatClampNeg) (I 156 15)), L, P) Q)) : hf_G X Y_X12_lays d k n 0 (hf_en [.ref 156, .int x1] 3) [] (t, T, I, L, P) Q := by
  show hf_G X Y_X12_lays d k n 0 [some (.ref 156), some (.int x1), none] [] (t, T, I, L, P) Q
  refine hf_aload_n dX12_lays_0 rfl rfl ?_
  refine hf_getr (b := 158) (c := 12) (j := 2) dX12_lays_1 (hs.2.1 156 _ rfl) (hf_lin hs 156 rfl) (by decide) (by decide) hw1038 rfl (hs.2.2 156 2 _ rfl) ?_
  refine hf_sipush (v := 322) dX12_lays_4 (by decide) ?_
  refine hf_iload_n dX12_lays_7 rfl rfl ?_
  refine hf_iadd dX12_lays_8 ?_
  refine hf_aload_n dX12_lays_9 rfl rfl ?_
  refine hf_geti (c := 12) (j := 15) dX12_lays_10 (hs.2.1 156 _ rfl) (hf_lin hs 156 rfl) (by decide) (by decide) hw1051 (Or.inl rfl) ?_
  refine hf_iast dX12_lays_13 (hs.2.1 158 _ rfl) (hf_lin hs 158 rfl) h.1 ?_
  replace h := h.2
  refine hf_iconst (v := 0) dX12_lays_14 (by decide) ?_
  refine hf_istore_n (l2 := [some (.ref 156), some (.int x1), some (.int 0)]) dX12_lays_15 rfl (by decide) rfl ?_
  exact h

set_option maxHeartbeats 4000000 in
theorem w_X12_lays_16 {X : hf_X} {d k n t : Nat} {T : hf_T} {I : hf_I} {L : hf_L} {P : hf_P} {Q : Option Value → hf_M → Prop} {x1 : Int32} {x2 : Int32} (hs : hf_Lay t T P) (h : ((I 156 15) ≤ x2 → Q none (t, T, I, L, P)) ∧ (¬ ((I 156 15) ≤ x2) → vp_in x2 401 ∧ (vp_in ((329 + (400 * x1)) + x2) 5929 ∧ (vp_in x2 401 ∧ (vp_in ((3129 + (400 * x1)) + x2) 5929 ∧ (hf_G X Y_X12_lays d k n 16 [some (.ref 156), some (.int x1), some (.int (x2 + 1))] [] (t, T, (hf_up (hf_up I 158 ((((329 + (400 * x1)) + x2)).toNatClampNeg) (I 165 x2.toNatClampNeg)) 158 ((((3129 + (400 * x1)) + x2)).toNatClampNeg) (I 166 x2.toNatClampNeg)), L, P) Q)))))) : hf_G X Y_X12_lays d k n 16 [some (.ref 156), some (.int x1), some (.int x2)] [] (t, T, I, L, P) Q := by
  refine hf_iload_n dX12_lays_16 rfl rfl ?_
  refine hf_aload_n dX12_lays_17 rfl rfl ?_
  refine hf_geti (c := 12) (j := 15) dX12_lays_18 (hs.2.1 156 _ rfl) (hf_lin hs 156 rfl) (by decide) (by decide) hw1051 (Or.inl rfl) ?_
  refine hf_icmp_ge (tgt := 74) dX12_lays_21 (by decide) (fun hc => ?_) (fun hc => ?_)
  · replace h := h.1 hc
    refine hf_return dX12_lays_74 rfl ?_
    exact h
  · replace h := h.2 hc
    refine hf_aload_n dX12_lays_24 rfl rfl ?_
    refine hf_getr (b := 158) (c := 12) (j := 2) dX12_lays_25 (hs.2.1 156 _ rfl) (hf_lin hs 156 rfl) (by decide) (by decide) hw1038 rfl (hs.2.2 156 2 _ rfl) ?_
    refine hf_sipush (v := 329) dX12_lays_28 (by decide) ?_
    refine hf_sipush (v := 400) dX12_lays_31 (by decide) ?_
    refine hf_iload_n dX12_lays_34 rfl rfl ?_
    refine hf_imul dX12_lays_35 ?_
    refine hf_iadd dX12_lays_36 ?_
    refine hf_iload_n dX12_lays_37 rfl rfl ?_
    refine hf_iadd dX12_lays_38 ?_
    refine hf_aload_n dX12_lays_39 rfl rfl ?_
    refine hf_getr (b := 165) (c := 12) (j := 12) dX12_lays_40 (hs.2.1 156 _ rfl) (hf_lin hs 156 rfl) (by decide) (by decide) hw1048 rfl (hs.2.2 156 12 _ rfl) ?_
    refine hf_iload_n dX12_lays_43 rfl rfl ?_
    refine hf_iald dX12_lays_44 (hs.2.1 165 _ rfl) (hf_lin hs 165 rfl) h.1 ?_
    replace h := h.2
    refine hf_iast dX12_lays_45 (hs.2.1 158 _ rfl) (hf_lin hs 158 rfl) h.1 ?_
    replace h := h.2
    refine hf_aload_n dX12_lays_46 rfl rfl ?_
    refine hf_getr (b := 158) (c := 12) (j := 2) dX12_lays_47 (hs.2.1 156 _ rfl) (hf_lin hs 156 rfl) (by decide) (by decide) hw1038 rfl (hs.2.2 156 2 _ rfl) ?_
    refine hf_sipush (v := 3129) dX12_lays_50 (by decide) ?_
    refine hf_sipush (v := 400) dX12_lays_53 (by decide) ?_
    refine hf_iload_n dX12_lays_56 rfl rfl ?_
    refine hf_imul dX12_lays_57 ?_
    refine hf_iadd dX12_lays_58 ?_
    refine hf_iload_n dX12_lays_59 rfl rfl ?_
    refine hf_iadd dX12_lays_60 ?_
    refine hf_aload_n dX12_lays_61 rfl rfl ?_
    refine hf_getr (b := 166) (c := 12) (j := 13) dX12_lays_62 (hs.2.1 156 _ rfl) (hf_lin hs 156 rfl) (by decide) (by decide) hw1049 rfl (hs.2.2 156 13 _ rfl) ?_
    refine hf_iload_n dX12_lays_65 rfl rfl ?_
    refine hf_iald dX12_lays_66 (hs.2.1 166 _ rfl) (hf_lin hs 166 rfl) h.1 ?_
    replace h := h.2
    refine hf_iast dX12_lays_67 (hs.2.1 158 _ rfl) (hf_lin hs 158 rfl) h.1 ?_
    replace h := h.2
    refine hf_iinc (v := (x2 + 1)) (l2 := [some (.ref 156), some (.int x1), some (.int (x2 + 1))]) dX12_lays_68 (by decide) rfl rfl rfl ?_
    refine hf_goto (tgt := 16) dX12_lays_71 (by decide) ?_
    exact h

set_option maxHeartbeats 4000000 in
theorem w_X12_law_0 {X : hf_X} {d k n t : Nat} {T : hf_T} {I : hf_I} {L : hf_L} {P : hf_P} {Q : Option Value → hf_M → Prop}  (hs : hf_Lay t T P) (h : (¬ (I 158 320) = 6 → hf_G X Y_X12_reads d 0 0 0 (hf_en [.ref 156] 2) [] (t, T, (hf_up I 156 7 0), L, P) (fun r M => hf_G X Y_X12_law (d + 1) k n 34 [some (.ref 156)] (r.toList ++ []) M Q)) ∧ ((I 158 320) = 6 → Q (some (.int (-5))) (t, T, (hf_up (hf_up (hf_up I 156 10 0) 156 0 (-5)) 157 5 ((I 157 5) + 1)), L, P))) : hf_G X Y_X12_law (d + 1) k n 0 (hf_en [.ref 156] 1) [] (t, T, I, L, P) Q := by
  show hf_G X Y_X12_law (d + 1) k n 0 [some (.ref 156)] [] (t, T, I, L, P) Q
  refine hf_aload_n dX12_law_0 rfl rfl ?_
  refine hf_getr (b := 158) (c := 12) (j := 2) dX12_law_1 (hs.2.1 156 _ rfl) (hf_lin hs 156 rfl) (by decide) (by decide) hw1038 rfl (hs.2.2 156 2 _ rfl) ?_
  refine hf_sipush (v := 320) dX12_law_4 (by decide) ?_
  refine hf_iald_k (j := 320) (by decide) dX12_law_7 (hs.2.1 158 _ rfl) (hf_lin hs 158 rfl) (hf_vin (by decide)) ?_
  refine hf_bipush (v := 6) dX12_law_8 (by decide) ?_
  refine hf_icmp_ne (tgt := 25) dX12_law_10 (by decide) (fun hc => ?_) (fun hc => ?_)
  · replace h := h.1 hc
    refine hf_aload_n dX12_law_25 rfl rfl ?_
    refine hf_iconst (v := 0) dX12_law_26 (by decide) ?_
    refine hf_putz (c := 12) (j := 7) dX12_law_27 (hs.2.1 156 _ rfl) (hf_lin hs 156 rfl) (by decide) (by decide) hw1043 rfl rfl (by decide) ?_
    refine hf_aload_n dX12_law_30 rfl rfl ?_
    exact hf_callV (c := 12) (as := []) ok_X12_reads dX12_law_31 hw1283 hw1284 hw1626 (hs.2.1 156 _ rfl) (by decide) (hf_lin hs 156 rfl) rfl (Nat.le_of_ble_eq_true rfl) rfl (Nat.le_of_ble_eq_true rfl) (Nat.zero_le _) (Nat.zero_le _) h
  · replace h := h.2 hc
    refine hf_aload_n dX12_law_13 rfl rfl ?_
    refine hf_iconst (v := 0) dX12_law_14 (by decide) ?_
    refine hf_puti (c := 12) (j := 10) dX12_law_15 (hs.2.1 156 _ rfl) (hf_lin hs 156 rfl) (by decide) (by decide) hw1046 rfl rfl ?_
    refine hf_aload_n dX12_law_18 rfl rfl ?_
    refine hf_bipush (v := (-5)) dX12_law_19 (by decide) ?_
    refine hf_callV (c := 12) (as := [.int (-5)]) ok_X12_refuses dX12_law_21 hw1146 hw1147 hw1601 (hs.2.1 156 _ rfl) (by decide) (hf_lin hs 156 rfl) rfl (Nat.le_of_ble_eq_true rfl) rfl (Nat.le_of_ble_eq_true rfl) (Nat.zero_le _) (Nat.zero_le _) ?_
    show hf_G X Y_X12_refuses d _ _ 0 [some (.ref 156), some (.int (-5))] [] (t, T, (hf_up I 156 10 0), L, P) _
    refine hf_aload_n dX12_refuses_0 rfl rfl ?_
    refine hf_iload_n dX12_refuses_1 rfl rfl ?_
    refine hf_puti (c := 12) (j := 0) dX12_refuses_2 (hs.2.1 156 _ rfl) (hf_lin hs 156 rfl) (by decide) (by decide) hw1036 rfl rfl ?_
    refine hf_aload_n dX12_refuses_5 rfl rfl ?_
    refine hf_getr (b := 157) (c := 12) (j := 1) dX12_refuses_6 (hs.2.1 156 _ rfl) (hf_lin hs 156 rfl) (by decide) (by decide) hw1037 rfl (hs.2.2 156 1 _ rfl) ?_
    refine hf_iload_n dX12_refuses_9 rfl rfl ?_
    refine hf_ineg dX12_refuses_10 ?_
    rw [show (-(-5) : Int32) = 5 by decide]
    refine hf_dup2 dX12_refuses_11 rfl rfl ?_
    refine hf_iald_k (j := 5) (by decide) dX12_refuses_12 (hs.2.1 157 _ rfl) (hf_lin hs 157 rfl) (hf_vin (by decide)) ?_
    refine hf_iconst (v := 1) dX12_refuses_13 (by decide) ?_
    refine hf_iadd dX12_refuses_14 ?_
    refine hf_iast_k (j := 5) (by decide) dX12_refuses_15 (hs.2.1 157 _ rfl) (hf_lin hs 157 rfl) (hf_vin (by decide)) ?_
    refine hf_iload_n dX12_refuses_16 rfl rfl ?_
    refine hf_ireturn dX12_refuses_17 rfl rfl ?_
    show hf_G X Y_X12_law (d + 1) _ _ 24 [some (.ref 156)] [.int (-5)] (t, T, (hf_up (hf_up (hf_up I 156 10 0) 156 0 (-5)) 157 5 ((I 157 5) + 1)), L, P) _
    refine hf_ireturn dX12_law_24 rfl rfl ?_
    exact h

set_option maxHeartbeats 4000000 in
theorem w_X12_law_34 {X : hf_X} {d k n t : Nat} {T : hf_T} {I : hf_I} {L : hf_L} {P : hf_P} {Q : Option Value → hf_M → Prop} {s0 : Int32} (hs : hf_Lay t T P) (h : (¬ s0 = 0 → hf_G X Y_X12_lays d 0 0 0 (hf_en [.ref 156, .int (I 158 320)] 3) [] (t, T, I, L, P) (fun r M => hf_G X Y_X12_law (d + 1) k n 56 [some (.ref 156)] (r.toList ++ []) M Q)) ∧ (s0 = 0 → Q (some (.int (-6))) (t, T, (hf_up (hf_up I 156 0 (-6)) 157 6 ((I 157 6) + 1)), L, P))) : hf_G X Y_X12_law (d + 1) k n 34 [some (.ref 156)] [.int s0] (t, T, I, L, P) Q := by
  refine hf_if_ne (tgt := 44) dX12_law_34 (by decide) (fun hc => ?_) (fun hc => ?_)
  · replace h := h.1 hc
    refine hf_aload_n dX12_law_44 rfl rfl ?_
    refine hf_aload_n dX12_law_45 rfl rfl ?_
    refine hf_getr (b := 158) (c := 12) (j := 2) dX12_law_46 (hs.2.1 156 _ rfl) (hf_lin hs 156 rfl) (by decide) (by decide) hw1038 rfl (hs.2.2 156 2 _ rfl) ?_
    refine hf_sipush (v := 320) dX12_law_49 (by decide) ?_
    refine hf_iald_k (j := 320) (by decide) dX12_law_52 (hs.2.1 158 _ rfl) (hf_lin hs 158 rfl) (hf_vin (by decide)) ?_
    exact hf_callV (c := 12) (as := [.int (I 158 320)]) ok_X12_lays dX12_law_53 hw1347 hw1348 hw1645 (hs.2.1 156 _ rfl) (by decide) (hf_lin hs 156 rfl) rfl (Nat.le_of_ble_eq_true rfl) rfl (Nat.le_of_ble_eq_true rfl) (Nat.zero_le _) (Nat.zero_le _) h
  · replace h := h.2 hc
    refine hf_aload_n dX12_law_37 rfl rfl ?_
    refine hf_bipush (v := (-6)) dX12_law_38 (by decide) ?_
    refine hf_callV (c := 12) (as := [.int (-6)]) ok_X12_refuses dX12_law_40 hw1146 hw1147 hw1601 (hs.2.1 156 _ rfl) (by decide) (hf_lin hs 156 rfl) rfl (Nat.le_of_ble_eq_true rfl) rfl (Nat.le_of_ble_eq_true rfl) (Nat.zero_le _) (Nat.zero_le _) ?_
    show hf_G X Y_X12_refuses d _ _ 0 [some (.ref 156), some (.int (-6))] [] (t, T, I, L, P) _
    refine hf_aload_n dX12_refuses_0 rfl rfl ?_
    refine hf_iload_n dX12_refuses_1 rfl rfl ?_
    refine hf_puti (c := 12) (j := 0) dX12_refuses_2 (hs.2.1 156 _ rfl) (hf_lin hs 156 rfl) (by decide) (by decide) hw1036 rfl rfl ?_
    refine hf_aload_n dX12_refuses_5 rfl rfl ?_
    refine hf_getr (b := 157) (c := 12) (j := 1) dX12_refuses_6 (hs.2.1 156 _ rfl) (hf_lin hs 156 rfl) (by decide) (by decide) hw1037 rfl (hs.2.2 156 1 _ rfl) ?_
    refine hf_iload_n dX12_refuses_9 rfl rfl ?_
    refine hf_ineg dX12_refuses_10 ?_
    rw [show (-(-6) : Int32) = 6 by decide]
    refine hf_dup2 dX12_refuses_11 rfl rfl ?_
    refine hf_iald_k (j := 6) (by decide) dX12_refuses_12 (hs.2.1 157 _ rfl) (hf_lin hs 157 rfl) (hf_vin (by decide)) ?_
    refine hf_iconst (v := 1) dX12_refuses_13 (by decide) ?_
    refine hf_iadd dX12_refuses_14 ?_
    refine hf_iast_k (j := 6) (by decide) dX12_refuses_15 (hs.2.1 157 _ rfl) (hf_lin hs 157 rfl) (hf_vin (by decide)) ?_
    refine hf_iload_n dX12_refuses_16 rfl rfl ?_
    refine hf_ireturn dX12_refuses_17 rfl rfl ?_
    show hf_G X Y_X12_law (d + 1) _ _ 43 [some (.ref 156)] [.int (-6)] (t, T, (hf_up (hf_up I 156 0 (-6)) 157 6 ((I 157 6) + 1)), L, P) _
    refine hf_ireturn dX12_law_43 rfl rfl ?_
    exact h

set_option maxHeartbeats 4000000 in
theorem w_X12_law_56 {X : hf_X} {d k n t : Nat} {T : hf_T} {I : hf_I} {L : hf_L} {P : hf_P} {Q : Option Value → hf_M → Prop}  (hs : hf_Lay t T P) (h : Q (some (.int (((I 158 320) + 1) - 1))) (t, T, (hf_up (hf_up I 158 320 ((I 158 320) + 1)) 156 0 0), L, P)) : hf_G X Y_X12_law (d + 1) k n 56 [some (.ref 156)] [] (t, T, I, L, P) Q := by
  refine hf_aload_n dX12_law_56 rfl rfl ?_
  refine hf_getr (b := 158) (c := 12) (j := 2) dX12_law_57 (hs.2.1 156 _ rfl) (hf_lin hs 156 rfl) (by decide) (by decide) hw1038 rfl (hs.2.2 156 2 _ rfl) ?_
  refine hf_sipush (v := 320) dX12_law_60 (by decide) ?_
  refine hf_dup2 dX12_law_63 rfl rfl ?_
  refine hf_iald_k (j := 320) (by decide) dX12_law_64 (hs.2.1 158 _ rfl) (hf_lin hs 158 rfl) (hf_vin (by decide)) ?_
  refine hf_iconst (v := 1) dX12_law_65 (by decide) ?_
  refine hf_iadd dX12_law_66 ?_
  refine hf_iast_k (j := 320) (by decide) dX12_law_67 (hs.2.1 158 _ rfl) (hf_lin hs 158 rfl) (hf_vin (by decide)) ?_
  refine hf_aload_n dX12_law_68 rfl rfl ?_
  refine hf_aload_n dX12_law_69 rfl rfl ?_
  refine hf_getr (b := 158) (c := 12) (j := 2) dX12_law_70 (hs.2.1 156 _ rfl) (hf_lin hs 156 rfl) (by decide) (by decide) hw1038 rfl (hs.2.2 156 2 _ rfl) ?_
  refine hf_sipush (v := 320) dX12_law_73 (by decide) ?_
  refine hf_iald_k (j := 320) (by decide) dX12_law_76 (hs.2.1 158 _ rfl) (hf_lin hs 158 rfl) (hf_vin (by decide)) ?_
  refine hf_iconst (v := 1) dX12_law_77 (by decide) ?_
  refine hf_isub dX12_law_78 ?_
  refine hf_callV (c := 12) (as := [.int (((I 158 320) + 1) - 1)]) ok_X12_good dX12_law_79 hw1149 hw1150 hw1602 (hs.2.1 156 _ rfl) (by decide) (hf_lin hs 156 rfl) rfl (Nat.le_of_ble_eq_true rfl) rfl (Nat.le_of_ble_eq_true rfl) (Nat.zero_le _) (Nat.zero_le _) ?_
  show hf_G X Y_X12_good d _ _ 0 [some (.ref 156), some (.int (((I 158 320) + 1) - 1))] [] (t, T, (hf_up I 158 320 ((I 158 320) + 1)), L, P) _
  refine hf_aload_n dX12_good_0 rfl rfl ?_
  refine hf_iconst (v := 0) dX12_good_1 (by decide) ?_
  refine hf_puti (c := 12) (j := 0) dX12_good_2 (hs.2.1 156 _ rfl) (hf_lin hs 156 rfl) (by decide) (by decide) hw1036 rfl rfl ?_
  refine hf_iload_n dX12_good_5 rfl rfl ?_
  refine hf_ireturn dX12_good_6 rfl rfl ?_
  show hf_G X Y_X12_law (d + 1) _ _ 82 [some (.ref 156)] [.int (((I 158 320) + 1) - 1)] (t, T, (hf_up (hf_up I 158 320 ((I 158 320) + 1)) 156 0 0), L, P) _
  refine hf_ireturn dX12_law_82 rfl rfl ?_
  exact h

set_option maxHeartbeats 4000000 in
theorem w_X12_fault_0 {X : hf_X} {d k n t : Nat} {T : hf_T} {I : hf_I} {L : hf_L} {P : hf_P} {Q : Option Value → hf_M → Prop}  (hs : hf_Lay t T P) (h : Q (some (.int (I 156 11))) (t, T, I, L, P)) : hf_G X Y_X12_fault d k n 0 (hf_en [.ref 156] 1) [] (t, T, I, L, P) Q := by
  show hf_G X Y_X12_fault d k n 0 [some (.ref 156)] [] (t, T, I, L, P) Q
  refine hf_aload_n dX12_fault_0 rfl rfl ?_
  refine hf_geti (c := 12) (j := 11) dX12_fault_1 (hs.2.1 156 _ rfl) (hf_lin hs 156 rfl) (by decide) (by decide) hw1047 (Or.inl rfl) ?_
  refine hf_ireturn dX12_fault_4 rfl rfl ?_
  exact h

set_option maxHeartbeats 4000000 in
theorem w_X12_force_0 {X : hf_X} {d k n t : Nat} {T : hf_T} {I : hf_I} {L : hf_L} {P : hf_P} {Q : Option Value → hf_M → Prop} {x1 : Int32} (hs : hf_Lay t T P) (h : (x1 < (-1) → Q (some (.int (-2))) (t, T, (hf_up (hf_up I 156 0 (-2)) 157 2 ((I 157 2) + 1)), L, P)) ∧ (¬ (x1 < (-1)) → (((I 158 320) - 1) < x1 → Q (some (.int (-2))) (t, T, (hf_up (hf_up I 156 0 (-2)) 157 2 ((I 157 2) + 1)), L, P)) ∧ (¬ (((I 158 320) - 1) < x1) → Q (some (.int (I 158 321))) (t, T, (hf_up (hf_up I 158 321 x1) 156 0 0), L, P)))) : hf_G X Y_X12_force (d + 1) k n 0 (hf_en [.ref 156, .int x1] 3) [] (t, T, I, L, P) Q := by
  show hf_G X Y_X12_force (d + 1) k n 0 [some (.ref 156), some (.int x1), none] [] (t, T, I, L, P) Q
  refine hf_iload_n dX12_force_0 rfl rfl ?_
  refine hf_iconst (v := (-1)) dX12_force_1 (by decide) ?_
  refine hf_aload_n dX12_force_2 rfl rfl ?_
  refine hf_getr (b := 158) (c := 12) (j := 2) dX12_force_3 (hs.2.1 156 _ rfl) (hf_lin hs 156 rfl) (by decide) (by decide) hw1038 rfl (hs.2.2 156 2 _ rfl) ?_
  refine hf_sipush (v := 320) dX12_force_6 (by decide) ?_
  refine hf_iald_k (j := 320) (by decide) dX12_force_9 (hs.2.1 158 _ rfl) (hf_lin hs 158 rfl) (hf_vin (by decide)) ?_
  refine hf_iconst (v := 1) dX12_force_10 (by decide) ?_
  refine hf_isub dX12_force_11 ?_
  refine hf_callS (as := [.int x1, .int (-1), .int ((I 158 320) - 1)]) ok_X12_lies dX12_force_12 hw1143 hw1144 rfl (Nat.le_of_ble_eq_true rfl) rfl (Nat.le_of_ble_eq_true rfl) (Nat.zero_le _) (Nat.zero_le _) ?_
  show hf_G X Y_X12_lies d _ _ 0 [some (.int x1), some (.int (-1)), some (.int ((I 158 320) - 1))] [] (t, T, I, L, P) _
  refine hf_iload_n dX12_lies_0 rfl rfl ?_
  refine hf_iload_n dX12_lies_1 rfl rfl ?_
  refine hf_icmp_lt (tgt := 14) dX12_lies_2 (by decide) (fun hc => ?_) (fun hc => ?_)
  · replace h := h.1 hc
    refine hf_iconst (v := 0) dX12_lies_14 (by decide) ?_
    refine hf_ireturn dX12_lies_15 rfl (by decide) ?_
    show hf_G X Y_X12_force (d + 1) _ _ 15 [some (.ref 156), some (.int x1), none] [.int 0] (t, T, I, L, P) _
    refine hf_if_ne (tgt := 25) dX12_force_15 (by decide) (fun hc => absurd (show ¬ (0 : Int32) = (0 : Int32) from hc) (by decide)) (fun _ => ?_)
    refine hf_aload_n dX12_force_18 rfl rfl ?_
    refine hf_bipush (v := (-2)) dX12_force_19 (by decide) ?_
    refine hf_callV (c := 12) (as := [.int (-2)]) ok_X12_refuses dX12_force_21 hw1146 hw1147 hw1601 (hs.2.1 156 _ rfl) (by decide) (hf_lin hs 156 rfl) rfl (Nat.le_of_ble_eq_true rfl) rfl (Nat.le_of_ble_eq_true rfl) (Nat.zero_le _) (Nat.zero_le _) ?_
    show hf_G X Y_X12_refuses d _ _ 0 [some (.ref 156), some (.int (-2))] [] (t, T, I, L, P) _
    refine hf_aload_n dX12_refuses_0 rfl rfl ?_
    refine hf_iload_n dX12_refuses_1 rfl rfl ?_
    refine hf_puti (c := 12) (j := 0) dX12_refuses_2 (hs.2.1 156 _ rfl) (hf_lin hs 156 rfl) (by decide) (by decide) hw1036 rfl rfl ?_
    refine hf_aload_n dX12_refuses_5 rfl rfl ?_
    refine hf_getr (b := 157) (c := 12) (j := 1) dX12_refuses_6 (hs.2.1 156 _ rfl) (hf_lin hs 156 rfl) (by decide) (by decide) hw1037 rfl (hs.2.2 156 1 _ rfl) ?_
    refine hf_iload_n dX12_refuses_9 rfl rfl ?_
    refine hf_ineg dX12_refuses_10 ?_
    rw [show (-(-2) : Int32) = 2 by decide]
    refine hf_dup2 dX12_refuses_11 rfl rfl ?_
    refine hf_iald_k (j := 2) (by decide) dX12_refuses_12 (hs.2.1 157 _ rfl) (hf_lin hs 157 rfl) (hf_vin (by decide)) ?_
    refine hf_iconst (v := 1) dX12_refuses_13 (by decide) ?_
    refine hf_iadd dX12_refuses_14 ?_
    refine hf_iast_k (j := 2) (by decide) dX12_refuses_15 (hs.2.1 157 _ rfl) (hf_lin hs 157 rfl) (hf_vin (by decide)) ?_
    refine hf_iload_n dX12_refuses_16 rfl rfl ?_
    refine hf_ireturn dX12_refuses_17 rfl rfl ?_
    show hf_G X Y_X12_force (d + 1) _ _ 24 [some (.ref 156), some (.int x1), none] [.int (-2)] (t, T, (hf_up (hf_up I 156 0 (-2)) 157 2 ((I 157 2) + 1)), L, P) _
    refine hf_ireturn dX12_force_24 rfl rfl ?_
    exact h
  · replace h := h.2 hc
    refine hf_iload_n dX12_lies_5 rfl rfl ?_
    refine hf_iload_n dX12_lies_6 rfl rfl ?_
    refine hf_icmp_gt (tgt := 14) dX12_lies_7 (by decide) (fun hc => ?_) (fun hc => ?_)
    · replace h := h.1 hc
      refine hf_iconst (v := 0) dX12_lies_14 (by decide) ?_
      refine hf_ireturn dX12_lies_15 rfl (by decide) ?_
      show hf_G X Y_X12_force (d + 1) _ _ 15 [some (.ref 156), some (.int x1), none] [.int 0] (t, T, I, L, P) _
      refine hf_if_ne (tgt := 25) dX12_force_15 (by decide) (fun hc => absurd (show ¬ (0 : Int32) = (0 : Int32) from hc) (by decide)) (fun _ => ?_)
      refine hf_aload_n dX12_force_18 rfl rfl ?_
      refine hf_bipush (v := (-2)) dX12_force_19 (by decide) ?_
      refine hf_callV (c := 12) (as := [.int (-2)]) ok_X12_refuses dX12_force_21 hw1146 hw1147 hw1601 (hs.2.1 156 _ rfl) (by decide) (hf_lin hs 156 rfl) rfl (Nat.le_of_ble_eq_true rfl) rfl (Nat.le_of_ble_eq_true rfl) (Nat.zero_le _) (Nat.zero_le _) ?_
      show hf_G X Y_X12_refuses d _ _ 0 [some (.ref 156), some (.int (-2))] [] (t, T, I, L, P) _
      refine hf_aload_n dX12_refuses_0 rfl rfl ?_
      refine hf_iload_n dX12_refuses_1 rfl rfl ?_
      refine hf_puti (c := 12) (j := 0) dX12_refuses_2 (hs.2.1 156 _ rfl) (hf_lin hs 156 rfl) (by decide) (by decide) hw1036 rfl rfl ?_
      refine hf_aload_n dX12_refuses_5 rfl rfl ?_
      refine hf_getr (b := 157) (c := 12) (j := 1) dX12_refuses_6 (hs.2.1 156 _ rfl) (hf_lin hs 156 rfl) (by decide) (by decide) hw1037 rfl (hs.2.2 156 1 _ rfl) ?_
      refine hf_iload_n dX12_refuses_9 rfl rfl ?_
      refine hf_ineg dX12_refuses_10 ?_
      rw [show (-(-2) : Int32) = 2 by decide]
      refine hf_dup2 dX12_refuses_11 rfl rfl ?_
      refine hf_iald_k (j := 2) (by decide) dX12_refuses_12 (hs.2.1 157 _ rfl) (hf_lin hs 157 rfl) (hf_vin (by decide)) ?_
      refine hf_iconst (v := 1) dX12_refuses_13 (by decide) ?_
      refine hf_iadd dX12_refuses_14 ?_
      refine hf_iast_k (j := 2) (by decide) dX12_refuses_15 (hs.2.1 157 _ rfl) (hf_lin hs 157 rfl) (hf_vin (by decide)) ?_
      refine hf_iload_n dX12_refuses_16 rfl rfl ?_
      refine hf_ireturn dX12_refuses_17 rfl rfl ?_
      show hf_G X Y_X12_force (d + 1) _ _ 24 [some (.ref 156), some (.int x1), none] [.int (-2)] (t, T, (hf_up (hf_up I 156 0 (-2)) 157 2 ((I 157 2) + 1)), L, P) _
      refine hf_ireturn dX12_force_24 rfl rfl ?_
      exact h
    · replace h := h.2 hc
      refine hf_iconst (v := 1) dX12_lies_10 (by decide) ?_
      refine hf_goto (tgt := 15) dX12_lies_11 (by decide) ?_
      refine hf_ireturn dX12_lies_15 rfl (by decide) ?_
      show hf_G X Y_X12_force (d + 1) _ _ 15 [some (.ref 156), some (.int x1), none] [.int 1] (t, T, I, L, P) _
      refine hf_if_ne (tgt := 25) dX12_force_15 (by decide) (fun _ => ?_) (fun hc => absurd (show (1 : Int32) = (0 : Int32) from hc) (by decide))
      refine hf_aload_n dX12_force_25 rfl rfl ?_
      refine hf_getr (b := 158) (c := 12) (j := 2) dX12_force_26 (hs.2.1 156 _ rfl) (hf_lin hs 156 rfl) (by decide) (by decide) hw1038 rfl (hs.2.2 156 2 _ rfl) ?_
      refine hf_sipush (v := 321) dX12_force_29 (by decide) ?_
      refine hf_iald_k (j := 321) (by decide) dX12_force_32 (hs.2.1 158 _ rfl) (hf_lin hs 158 rfl) (hf_vin (by decide)) ?_
      refine hf_istore_n (l2 := [some (.ref 156), some (.int x1), some (.int (I 158 321))]) dX12_force_33 rfl (by decide) rfl ?_
      refine hf_aload_n dX12_force_34 rfl rfl ?_
      refine hf_getr (b := 158) (c := 12) (j := 2) dX12_force_35 (hs.2.1 156 _ rfl) (hf_lin hs 156 rfl) (by decide) (by decide) hw1038 rfl (hs.2.2 156 2 _ rfl) ?_
      refine hf_sipush (v := 321) dX12_force_38 (by decide) ?_
      refine hf_iload_n dX12_force_41 rfl rfl ?_
      refine hf_iast_k (j := 321) (by decide) dX12_force_42 (hs.2.1 158 _ rfl) (hf_lin hs 158 rfl) (hf_vin (by decide)) ?_
      refine hf_aload_n dX12_force_43 rfl rfl ?_
      refine hf_iload_n dX12_force_44 rfl rfl ?_
      refine hf_callV (c := 12) (as := [.int (I 158 321)]) ok_X12_good dX12_force_45 hw1149 hw1150 hw1602 (hs.2.1 156 _ rfl) (by decide) (hf_lin hs 156 rfl) rfl (Nat.le_of_ble_eq_true rfl) rfl (Nat.le_of_ble_eq_true rfl) (Nat.zero_le _) (Nat.zero_le _) ?_
      show hf_G X Y_X12_good d _ _ 0 [some (.ref 156), some (.int (I 158 321))] [] (t, T, (hf_up I 158 321 x1), L, P) _
      refine hf_aload_n dX12_good_0 rfl rfl ?_
      refine hf_iconst (v := 0) dX12_good_1 (by decide) ?_
      refine hf_puti (c := 12) (j := 0) dX12_good_2 (hs.2.1 156 _ rfl) (hf_lin hs 156 rfl) (by decide) (by decide) hw1036 rfl rfl ?_
      refine hf_iload_n dX12_good_5 rfl rfl ?_
      refine hf_ireturn dX12_good_6 rfl rfl ?_
      show hf_G X Y_X12_force (d + 1) _ _ 48 [some (.ref 156), some (.int x1), some (.int (I 158 321))] [.int (I 158 321)] (t, T, (hf_up (hf_up I 158 321 x1) 156 0 0), L, P) _
      refine hf_ireturn dX12_force_48 rfl rfl ?_
      exact h

set_option maxHeartbeats 4000000 in
theorem w_X12_codeAt_0 {X : hf_X} {d k n t : Nat} {T : hf_T} {I : hf_I} {L : hf_L} {P : hf_P} {Q : Option Value → hf_M → Prop} {x1 : Int32} (hs : hf_Lay t T P) (h : ((I 156 20) ≤ x1 → Q (some (.int 0)) (t, T, I, L, P)) ∧ (¬ ((I 156 20) ≤ x1) → vp_in (329 + x1) 5929 ∧ (Q (some (.int (I 158 (((329 + x1)).toNatClampNeg)))) (t, T, I, L, P)))) : hf_G X Y_X12_codeAt d k n 0 (hf_en [.ref 156, .int x1] 2) [] (t, T, I, L, P) Q := by
  show hf_G X Y_X12_codeAt d k n 0 [some (.ref 156), some (.int x1)] [] (t, T, I, L, P) Q
  refine hf_iload_n dX12_codeAt_0 rfl rfl ?_
  refine hf_aload_n dX12_codeAt_1 rfl rfl ?_
  refine hf_geti (c := 12) (j := 20) dX12_codeAt_2 (hs.2.1 156 _ rfl) (hf_lin hs 156 rfl) (by decide) (by decide) hw1056 (Or.inl rfl) ?_
  refine hf_icmp_ge (tgt := 21) dX12_codeAt_5 (by decide) (fun hc => ?_) (fun hc => ?_)
  · replace h := h.1 hc
    refine hf_iconst (v := 0) dX12_codeAt_21 (by decide) ?_
    refine hf_ireturn dX12_codeAt_22 rfl rfl ?_
    exact h
  · replace h := h.2 hc
    refine hf_aload_n dX12_codeAt_8 rfl rfl ?_
    refine hf_getr (b := 158) (c := 12) (j := 2) dX12_codeAt_9 (hs.2.1 156 _ rfl) (hf_lin hs 156 rfl) (by decide) (by decide) hw1038 rfl (hs.2.2 156 2 _ rfl) ?_
    refine hf_sipush (v := 329) dX12_codeAt_12 (by decide) ?_
    refine hf_iload_n dX12_codeAt_15 rfl rfl ?_
    refine hf_iadd dX12_codeAt_16 ?_
    refine hf_iald dX12_codeAt_17 (hs.2.1 158 _ rfl) (hf_lin hs 158 rfl) h.1 ?_
    replace h := h.2
    refine hf_goto (tgt := 22) dX12_codeAt_18 (by decide) ?_
    refine hf_ireturn dX12_codeAt_22 rfl rfl ?_
    exact h

set_option maxHeartbeats 4000000 in
theorem w_X12_passes0_0 {X : hf_X} {d k n t : Nat} {T : hf_T} {I : hf_I} {L : hf_L} {P : hf_P} {Q : Option Value → hf_M → Prop} {x1 : Int32} (hs : hf_Lay t T P) (h : hf_G X Y_X12_codeAt d 0 0 0 (hf_en [.ref 156, .int (I 156 19)] 2) [] (t, T, I, L, P) (fun r M => hf_G X Y_X12_passes0 (d + 1) k n 8 [some (.ref 156), some (.int x1), none] (r.toList ++ []) M Q)) : hf_G X Y_X12_passes0 (d + 1) k n 0 (hf_en [.ref 156, .int x1] 3) [] (t, T, I, L, P) Q := by
  show hf_G X Y_X12_passes0 (d + 1) k n 0 [some (.ref 156), some (.int x1), none] [] (t, T, I, L, P) Q
  refine hf_aload_n dX12_passes0_0 rfl rfl ?_
  refine hf_aload_n dX12_passes0_1 rfl rfl ?_
  refine hf_geti (c := 12) (j := 19) dX12_passes0_2 (hs.2.1 156 _ rfl) (hf_lin hs 156 rfl) (by decide) (by decide) hw1055 (Or.inl rfl) ?_
  exact hf_callV (c := 12) (as := [.int (I 156 19)]) ok_X12_codeAt dX12_passes0_5 hw1214 hw1215 hw1613 (hs.2.1 156 _ rfl) (by decide) (hf_lin hs 156 rfl) rfl (Nat.le_of_ble_eq_true rfl) rfl (Nat.le_of_ble_eq_true rfl) (Nat.zero_le _) (Nat.zero_le _) h

set_option maxHeartbeats 4000000 in
theorem w_X12_passes0_8 {X : hf_X} {d k n t : Nat} {T : hf_T} {I : hf_I} {L : hf_L} {P : hf_P} {Q : Option Value → hf_M → Prop} {x1 : Int32} {s0 : Int32} (hs : hf_Lay t T P) (h : (¬ s0 = x1 → Q (some (.int 0)) (t, T, I, L, P)) ∧ (s0 = x1 → Q (some (.int 1)) (t, T, (hf_up I 156 19 ((I 156 19) + 1)), L, P))) : hf_G X Y_X12_passes0 d k n 8 [some (.ref 156), some (.int x1), none] [.int s0] (t, T, I, L, P) Q := by
  refine hf_iload_n dX12_passes0_8 rfl rfl ?_
  refine hf_icmp_ne (tgt := 16) dX12_passes0_9 (by decide) (fun hc => ?_) (fun hc => ?_)
  · replace h := h.1 hc
    refine hf_iconst (v := 0) dX12_passes0_16 (by decide) ?_
    refine hf_istore_n (l2 := [some (.ref 156), some (.int x1), some (.int 0)]) dX12_passes0_17 rfl (by decide) rfl ?_
    refine hf_iload_n dX12_passes0_18 rfl rfl ?_
    refine hf_if_eq (tgt := 32) dX12_passes0_19 (by decide) (fun _ => ?_) (fun hc => absurd (show (0 : Int32) = (0 : Int32) by decide) hc)
    refine hf_iload_n dX12_passes0_32 rfl rfl ?_
    refine hf_ireturn dX12_passes0_33 rfl (by decide) ?_
    exact h
  · replace h := h.2 hc
    refine hf_iconst (v := 1) dX12_passes0_12 (by decide) ?_
    refine hf_goto (tgt := 17) dX12_passes0_13 (by decide) ?_
    refine hf_istore_n (l2 := [some (.ref 156), some (.int x1), some (.int 1)]) dX12_passes0_17 rfl (by decide) rfl ?_
    refine hf_iload_n dX12_passes0_18 rfl rfl ?_
    refine hf_if_eq (tgt := 32) dX12_passes0_19 (by decide) (fun hc => absurd (show (1 : Int32) = (0 : Int32) from hc) (by decide)) (fun _ => ?_)
    refine hf_aload_n dX12_passes0_22 rfl rfl ?_
    refine hf_dup dX12_passes0_23 rfl ?_
    refine hf_geti (c := 12) (j := 19) dX12_passes0_24 (hs.2.1 156 _ rfl) (hf_lin hs 156 rfl) (by decide) (by decide) hw1055 (Or.inl rfl) ?_
    refine hf_iconst (v := 1) dX12_passes0_27 (by decide) ?_
    refine hf_iadd dX12_passes0_28 ?_
    refine hf_puti (c := 12) (j := 19) dX12_passes0_29 (hs.2.1 156 _ rfl) (hf_lin hs 156 rfl) (by decide) (by decide) hw1055 rfl rfl ?_
    refine hf_iload_n dX12_passes0_32 rfl rfl ?_
    refine hf_ireturn dX12_passes0_33 rfl (by decide) ?_
    exact h

set_option maxHeartbeats 4000000 in
theorem w_X12_bounded_0 {X : hf_X} {d k n t : Nat} {T : hf_T} {I : hf_I} {L : hf_L} {P : hf_P} {Q : Option Value → hf_M → Prop} {x1 : Int64} {x3 : Int32} (hs : hf_Lay t T P) (h : (x3 = 0 → ((I 156 21) = 0 → Q (some (.long x1)) (t, T, I, L, P)) ∧ (¬ ((I 156 21) = 0) → Q (some (.long 0)) (t, T, I, L, P))) ∧ (¬ (x3 = 0) → (0 < (lg_cmp x1 1000000000) → Q (some (.long 0)) (t, T, (hf_up I 156 21 1), L, P)) ∧ (¬ (0 < (lg_cmp x1 1000000000)) → (0 ≤ (lg_cmp x1 (-1000000000)) → ((I 156 21) = 0 → Q (some (.long x1)) (t, T, I, L, P)) ∧ (¬ ((I 156 21) = 0) → Q (some (.long 0)) (t, T, I, L, P))) ∧ (¬ (0 ≤ (lg_cmp x1 (-1000000000))) → Q (some (.long 0)) (t, T, (hf_up I 156 21 1), L, P))))) : hf_G X Y_X12_bounded d k n 0 (hf_en [.ref 156, .long x1, .int x3] 4) [] (t, T, I, L, P) Q := by
  show hf_G X Y_X12_bounded d k n 0 [some (.ref 156), some (.long x1), none, some (.int x3)] [] (t, T, I, L, P) Q
  refine hf_iload_n dX12_bounded_0 rfl rfl ?_
  refine hf_if_eq (tgt := 25) dX12_bounded_1 (by decide) (fun hc => ?_) (fun hc => ?_)
  · replace h := h.1 hc
    refine hf_aload_n dX12_bounded_25 rfl rfl ?_
    refine hf_geti (c := 12) (j := 21) dX12_bounded_26 (hs.2.1 156 _ rfl) (hf_lin hs 156 rfl) (by decide) (by decide) hw1057 (Or.inr rfl) ?_
    refine hf_if_eq (tgt := 36) dX12_bounded_29 (by decide) (fun hc => ?_) (fun hc => ?_)
    · replace h := h.1 hc
      refine hf_lload_n dX12_bounded_36 rfl rfl ?_
      refine hf_lreturn dX12_bounded_37 rfl ?_
      exact h
    · replace h := h.2 hc
      refine hf_lconst (v := 0) dX12_bounded_32 (by decide) ?_
      refine hf_goto (tgt := 37) dX12_bounded_33 (by decide) ?_
      refine hf_lreturn dX12_bounded_37 rfl ?_
      exact h
  · replace h := h.2 hc
    refine hf_lload_n dX12_bounded_4 rfl rfl ?_
    refine hf_ldc2 (v := 1000000000) dX12_bounded_5 hw1241 ?_
    refine hf_lcmp dX12_bounded_8 ?_
    refine hf_if_gt (tgt := 20) dX12_bounded_9 (by decide) (fun hc => ?_) (fun hc => ?_)
    · replace h := h.1 hc
      refine hf_aload_n dX12_bounded_20 rfl rfl ?_
      refine hf_iconst (v := 1) dX12_bounded_21 (by decide) ?_
      refine hf_putz (c := 12) (j := 21) dX12_bounded_22 (hs.2.1 156 _ rfl) (hf_lin hs 156 rfl) (by decide) (by decide) hw1057 rfl rfl (by decide) ?_
      refine hf_aload_n dX12_bounded_25 rfl rfl ?_
      refine hf_geti (c := 12) (j := 21) dX12_bounded_26 (hs.2.1 156 _ rfl) (hf_lin hs 156 rfl) (by decide) (by decide) hw1057 (Or.inr rfl) ?_
      refine hf_if_eq (tgt := 36) dX12_bounded_29 (by decide) (fun hc => absurd (show (1 : Int32) = (0 : Int32) from hc) (by decide)) (fun _ => ?_)
      refine hf_lconst (v := 0) dX12_bounded_32 (by decide) ?_
      refine hf_goto (tgt := 37) dX12_bounded_33 (by decide) ?_
      refine hf_lreturn dX12_bounded_37 rfl ?_
      exact h
    · replace h := h.2 hc
      refine hf_lload_n dX12_bounded_12 rfl rfl ?_
      refine hf_ldc2 (v := (-1000000000)) dX12_bounded_13 hw1242 ?_
      refine hf_lcmp dX12_bounded_16 ?_
      refine hf_if_ge (tgt := 25) dX12_bounded_17 (by decide) (fun hc => ?_) (fun hc => ?_)
      · replace h := h.1 hc
        refine hf_aload_n dX12_bounded_25 rfl rfl ?_
        refine hf_geti (c := 12) (j := 21) dX12_bounded_26 (hs.2.1 156 _ rfl) (hf_lin hs 156 rfl) (by decide) (by decide) hw1057 (Or.inr rfl) ?_
        refine hf_if_eq (tgt := 36) dX12_bounded_29 (by decide) (fun hc => ?_) (fun hc => ?_)
        · replace h := h.1 hc
          refine hf_lload_n dX12_bounded_36 rfl rfl ?_
          refine hf_lreturn dX12_bounded_37 rfl ?_
          exact h
        · replace h := h.2 hc
          refine hf_lconst (v := 0) dX12_bounded_32 (by decide) ?_
          refine hf_goto (tgt := 37) dX12_bounded_33 (by decide) ?_
          refine hf_lreturn dX12_bounded_37 rfl ?_
          exact h
      · replace h := h.2 hc
        refine hf_aload_n dX12_bounded_20 rfl rfl ?_
        refine hf_iconst (v := 1) dX12_bounded_21 (by decide) ?_
        refine hf_putz (c := 12) (j := 21) dX12_bounded_22 (hs.2.1 156 _ rfl) (hf_lin hs 156 rfl) (by decide) (by decide) hw1057 rfl rfl (by decide) ?_
        refine hf_aload_n dX12_bounded_25 rfl rfl ?_
        refine hf_geti (c := 12) (j := 21) dX12_bounded_26 (hs.2.1 156 _ rfl) (hf_lin hs 156 rfl) (by decide) (by decide) hw1057 (Or.inr rfl) ?_
        refine hf_if_eq (tgt := 36) dX12_bounded_29 (by decide) (fun hc => absurd (show (1 : Int32) = (0 : Int32) from hc) (by decide)) (fun _ => ?_)
        refine hf_lconst (v := 0) dX12_bounded_32 (by decide) ?_
        refine hf_goto (tgt := 37) dX12_bounded_33 (by decide) ?_
        refine hf_lreturn dX12_bounded_37 rfl ?_
        exact h

set_option maxHeartbeats 4000000 in
theorem w_X12_sumOf_0 {X : hf_X} {d k n t : Nat} {T : hf_T} {I : hf_I} {L : hf_L} {P : hf_P} {Q : Option Value → hf_M → Prop} {x1 : Int32} (hs : hf_Lay t T P) (h : hf_G X Y_X12_termOf d 0 0 0 (hf_en [.ref 156, .int x1] 7) [] (t, T, I, L, P) (fun r M => hf_G X Y_X12_sumOf (d + 1) k n 5 [some (.ref 156), some (.int x1), none, none, none, none, none] (r.toList ++ []) M Q)) : hf_G X Y_X12_sumOf (d + 1) k n 0 (hf_en [.ref 156, .int x1] 7) [] (t, T, I, L, P) Q := by
  show hf_G X Y_X12_sumOf (d + 1) k n 0 [some (.ref 156), some (.int x1), none, none, none, none, none] [] (t, T, I, L, P) Q
  refine hf_aload_n dX12_sumOf_0 rfl rfl ?_
  refine hf_iload_n dX12_sumOf_1 rfl rfl ?_
  exact hf_callV (c := 12) (as := [.int x1]) ok_X12_termOf dX12_sumOf_2 hw1220 hw1221 hw1615 (hs.2.1 156 _ rfl) (by decide) (hf_lin hs 156 rfl) rfl (Nat.le_of_ble_eq_true rfl) rfl (Nat.le_of_ble_eq_true rfl) (Nat.zero_le _) (Nat.zero_le _) h

set_option maxHeartbeats 4000000 in
theorem w_X12_sumOf_5 {X : hf_X} {d k n t : Nat} {T : hf_T} {I : hf_I} {L : hf_L} {P : hf_P} {Q : Option Value → hf_M → Prop} {x1 : Int32} {s0 : Int64} (hs : hf_Lay t T P) (h : hf_G X Y_X12_sumOf d k n 6 [some (.ref 156), some (.int x1), some (.long s0), none, none, none, none] [] (t, T, I, L, P) Q) : hf_G X Y_X12_sumOf d k n 5 [some (.ref 156), some (.int x1), none, none, none, none, none] [.long s0] (t, T, I, L, P) Q := by
  refine hf_lstore_n (l2 := [some (.ref 156), some (.int x1), some (.long s0), none, none, none, none]) dX12_sumOf_5 rfl (by decide) rfl ?_
  exact h

set_option maxHeartbeats 4000000 in
theorem w_X12_sumOf_6 {X : hf_X} {d k n t : Nat} {T : hf_T} {I : hf_I} {L : hf_L} {P : hf_P} {Q : Option Value → hf_M → Prop} {x1 : Int32} {x2 : Int64} (hs : hf_Lay t T P) (h : hf_G X Y_X12_codeAt d 0 0 0 (hf_en [.ref 156, .int (I 156 19)] 2) [] (t, T, I, L, P) (fun r M => hf_G X Y_X12_sumOf (d + 1) k n 14 [some (.ref 156), some (.int x1), some (.long x2), none, none, none, none] (r.toList ++ []) M Q)) : hf_G X Y_X12_sumOf (d + 1) k n 6 [some (.ref 156), some (.int x1), some (.long x2), none, none, none, none] [] (t, T, I, L, P) Q := by
  refine hf_aload_n dX12_sumOf_6 rfl rfl ?_
  refine hf_aload_n dX12_sumOf_7 rfl rfl ?_
  refine hf_geti (c := 12) (j := 19) dX12_sumOf_8 (hs.2.1 156 _ rfl) (hf_lin hs 156 rfl) (by decide) (by decide) hw1055 (Or.inl rfl) ?_
  exact hf_callV (c := 12) (as := [.int (I 156 19)]) ok_X12_codeAt dX12_sumOf_11 hw1214 hw1215 hw1613 (hs.2.1 156 _ rfl) (by decide) (hf_lin hs 156 rfl) rfl (Nat.le_of_ble_eq_true rfl) rfl (Nat.le_of_ble_eq_true rfl) (Nat.zero_le _) (Nat.zero_le _) h

set_option maxHeartbeats 4000000 in
theorem w_X12_sumOf_14 {X : hf_X} {d k n t : Nat} {T : hf_T} {I : hf_I} {L : hf_L} {P : hf_P} {Q : Option Value → hf_M → Prop} {x1 : Int32} {x2 : Int64} {s0 : Int32} (hs : hf_Lay t T P) (h : (s0 = 143 → hf_G X Y_X12_codeAt d 0 0 0 (hf_en [.ref 156, .int (I 156 19)] 2) [] (t, T, I, L, P) (fun r M => hf_G X Y_X12_sumOf (d + 1) k n 46 [some (.ref 156), some (.int x1), some (.long x2), none, none, none, none] (r.toList ++ []) M Q)) ∧ (¬ (s0 = 143) → hf_G X Y_X12_codeAt d 0 0 0 (hf_en [.ref 156, .int (I 156 19)] 2) [] (t, T, I, L, P) (fun r M => hf_G X Y_X12_sumOf (d + 1) k n 30 [some (.ref 156), some (.int x1), some (.long x2), none, none, none, none] (r.toList ++ []) M Q))) : hf_G X Y_X12_sumOf (d + 1) k n 14 [some (.ref 156), some (.int x1), some (.long x2), none, none, none, none] [.int s0] (t, T, I, L, P) Q := by
  refine hf_bipush (v := 43) dX12_sumOf_14 (by decide) ?_
  refine hf_callS (as := [.int 43]) ok_X12_sign dX12_sumOf_16 hw1226 hw1227 rfl (Nat.le_of_ble_eq_true rfl) rfl (Nat.le_of_ble_eq_true rfl) (Nat.zero_le _) (Nat.zero_le _) ?_
  show hf_G X Y_X12_sign d _ _ 0 [some (.int 43)] [] (t, T, I, L, P) _
  refine hf_bipush (v := 100) dX12_sign_0 (by decide) ?_
  refine hf_iload_n dX12_sign_2 rfl rfl ?_
  refine hf_iadd dX12_sign_3 ?_
  rw [show ((100 + 43) : Int32) = 143 by decide]
  refine hf_ireturn dX12_sign_4 rfl rfl ?_
  show hf_G X Y_X12_sumOf (d + 1) _ _ 19 [some (.ref 156), some (.int x1), some (.long x2), none, none, none, none] [.int 143, .int s0] (t, T, I, L, P) _
  refine hf_icmp_eq (tgt := 38) dX12_sumOf_19 (by decide) (fun hc => ?_) (fun hc => ?_)
  · replace h := h.1 hc
    refine hf_aload_n dX12_sumOf_38 rfl rfl ?_
    refine hf_aload_n dX12_sumOf_39 rfl rfl ?_
    refine hf_geti (c := 12) (j := 19) dX12_sumOf_40 (hs.2.1 156 _ rfl) (hf_lin hs 156 rfl) (by decide) (by decide) hw1055 (Or.inl rfl) ?_
    exact hf_callV (c := 12) (as := [.int (I 156 19)]) ok_X12_codeAt dX12_sumOf_43 hw1214 hw1215 hw1613 (hs.2.1 156 _ rfl) (by decide) (hf_lin hs 156 rfl) rfl (Nat.le_of_ble_eq_true rfl) rfl (Nat.le_of_ble_eq_true rfl) (Nat.zero_le _) (Nat.zero_le _) h
  · replace h := h.2 hc
    refine hf_aload_n dX12_sumOf_22 rfl rfl ?_
    refine hf_aload_n dX12_sumOf_23 rfl rfl ?_
    refine hf_geti (c := 12) (j := 19) dX12_sumOf_24 (hs.2.1 156 _ rfl) (hf_lin hs 156 rfl) (by decide) (by decide) hw1055 (Or.inl rfl) ?_
    exact hf_callV (c := 12) (as := [.int (I 156 19)]) ok_X12_codeAt dX12_sumOf_27 hw1214 hw1215 hw1613 (hs.2.1 156 _ rfl) (by decide) (hf_lin hs 156 rfl) rfl (Nat.le_of_ble_eq_true rfl) rfl (Nat.le_of_ble_eq_true rfl) (Nat.zero_le _) (Nat.zero_le _) h

set_option maxHeartbeats 4000000 in
theorem w_X12_sumOf_46 {X : hf_X} {d k n t : Nat} {T : hf_T} {I : hf_I} {L : hf_L} {P : hf_P} {Q : Option Value → hf_M → Prop} {x1 : Int32} {x2 : Int64} {s0 : Int32} (hs : hf_Lay t T P) (h : (¬ s0 = 143 → hf_G X Y_X12_termOf d 0 0 0 (hf_en [.ref 156, .int x1] 7) [] (t, T, (hf_up I 156 19 ((I 156 19) + 1)), L, P) (fun r M => hf_G X Y_X12_sumOf (d + 1) k n 76 [some (.ref 156), some (.int x1), some (.long x2), none, some (.int 0), none, none] (r.toList ++ []) M Q)) ∧ (s0 = 143 → hf_G X Y_X12_termOf d 0 0 0 (hf_en [.ref 156, .int x1] 7) [] (t, T, (hf_up I 156 19 ((I 156 19) + 1)), L, P) (fun r M => hf_G X Y_X12_sumOf (d + 1) k n 76 [some (.ref 156), some (.int x1), some (.long x2), none, some (.int 1), none, none] (r.toList ++ []) M Q))) : hf_G X Y_X12_sumOf (d + 1) k n 46 [some (.ref 156), some (.int x1), some (.long x2), none, none, none, none] [.int s0] (t, T, I, L, P) Q := by
  refine hf_bipush (v := 43) dX12_sumOf_46 (by decide) ?_
  refine hf_callS (as := [.int 43]) ok_X12_sign dX12_sumOf_48 hw1226 hw1227 rfl (Nat.le_of_ble_eq_true rfl) rfl (Nat.le_of_ble_eq_true rfl) (Nat.zero_le _) (Nat.zero_le _) ?_
  show hf_G X Y_X12_sign d _ _ 0 [some (.int 43)] [] (t, T, I, L, P) _
  refine hf_bipush (v := 100) dX12_sign_0 (by decide) ?_
  refine hf_iload_n dX12_sign_2 rfl rfl ?_
  refine hf_iadd dX12_sign_3 ?_
  rw [show ((100 + 43) : Int32) = 143 by decide]
  refine hf_ireturn dX12_sign_4 rfl rfl ?_
  show hf_G X Y_X12_sumOf (d + 1) _ _ 51 [some (.ref 156), some (.int x1), some (.long x2), none, none, none, none] [.int 143, .int s0] (t, T, I, L, P) _
  refine hf_icmp_ne (tgt := 58) dX12_sumOf_51 (by decide) (fun hc => ?_) (fun hc => ?_)
  · replace h := h.1 hc
    refine hf_iconst (v := 0) dX12_sumOf_58 (by decide) ?_
    refine hf_istore (l2 := [some (.ref 156), some (.int x1), some (.long x2), none, some (.int 0), none, none]) dX12_sumOf_59 (by decide) rfl ?_
    refine hf_aload_n dX12_sumOf_61 rfl rfl ?_
    refine hf_dup dX12_sumOf_62 rfl ?_
    refine hf_geti (c := 12) (j := 19) dX12_sumOf_63 (hs.2.1 156 _ rfl) (hf_lin hs 156 rfl) (by decide) (by decide) hw1055 (Or.inl rfl) ?_
    refine hf_iconst (v := 1) dX12_sumOf_66 (by decide) ?_
    refine hf_iadd dX12_sumOf_67 ?_
    refine hf_puti (c := 12) (j := 19) dX12_sumOf_68 (hs.2.1 156 _ rfl) (hf_lin hs 156 rfl) (by decide) (by decide) hw1055 rfl rfl ?_
    refine hf_aload_n dX12_sumOf_71 rfl rfl ?_
    refine hf_iload_n dX12_sumOf_72 rfl rfl ?_
    exact hf_callV (c := 12) (as := [.int x1]) ok_X12_termOf dX12_sumOf_73 hw1220 hw1221 hw1615 (hs.2.1 156 _ rfl) (by decide) (hf_lin hs 156 rfl) rfl (Nat.le_of_ble_eq_true rfl) rfl (Nat.le_of_ble_eq_true rfl) (Nat.zero_le _) (Nat.zero_le _) h
  · replace h := h.2 hc
    refine hf_iconst (v := 1) dX12_sumOf_54 (by decide) ?_
    refine hf_goto (tgt := 59) dX12_sumOf_55 (by decide) ?_
    refine hf_istore (l2 := [some (.ref 156), some (.int x1), some (.long x2), none, some (.int 1), none, none]) dX12_sumOf_59 (by decide) rfl ?_
    refine hf_aload_n dX12_sumOf_61 rfl rfl ?_
    refine hf_dup dX12_sumOf_62 rfl ?_
    refine hf_geti (c := 12) (j := 19) dX12_sumOf_63 (hs.2.1 156 _ rfl) (hf_lin hs 156 rfl) (by decide) (by decide) hw1055 (Or.inl rfl) ?_
    refine hf_iconst (v := 1) dX12_sumOf_66 (by decide) ?_
    refine hf_iadd dX12_sumOf_67 ?_
    refine hf_puti (c := 12) (j := 19) dX12_sumOf_68 (hs.2.1 156 _ rfl) (hf_lin hs 156 rfl) (by decide) (by decide) hw1055 rfl rfl ?_
    refine hf_aload_n dX12_sumOf_71 rfl rfl ?_
    refine hf_iload_n dX12_sumOf_72 rfl rfl ?_
    exact hf_callV (c := 12) (as := [.int x1]) ok_X12_termOf dX12_sumOf_73 hw1220 hw1221 hw1615 (hs.2.1 156 _ rfl) (by decide) (hf_lin hs 156 rfl) rfl (Nat.le_of_ble_eq_true rfl) rfl (Nat.le_of_ble_eq_true rfl) (Nat.zero_le _) (Nat.zero_le _) h

set_option maxHeartbeats 4000000 in
theorem w_X12_sumOf_30 {X : hf_X} {d k n t : Nat} {T : hf_T} {I : hf_I} {L : hf_L} {P : hf_P} {Q : Option Value → hf_M → Prop} {x1 : Int32} {x2 : Int64} {s0 : Int32} (hs : hf_Lay t T P) (h : (¬ s0 = 145 → Q (some (.long x2)) (t, T, I, L, P)) ∧ (s0 = 145 → hf_G X Y_X12_codeAt d 0 0 0 (hf_en [.ref 156, .int (I 156 19)] 2) [] (t, T, I, L, P) (fun r M => hf_G X Y_X12_sumOf (d + 1) k n 46 [some (.ref 156), some (.int x1), some (.long x2), none, none, none, none] (r.toList ++ []) M Q))) : hf_G X Y_X12_sumOf (d + 1) k n 30 [some (.ref 156), some (.int x1), some (.long x2), none, none, none, none] [.int s0] (t, T, I, L, P) Q := by
  refine hf_bipush (v := 45) dX12_sumOf_30 (by decide) ?_
  refine hf_callS (as := [.int 45]) ok_X12_sign dX12_sumOf_32 hw1226 hw1227 rfl (Nat.le_of_ble_eq_true rfl) rfl (Nat.le_of_ble_eq_true rfl) (Nat.zero_le _) (Nat.zero_le _) ?_
  show hf_G X Y_X12_sign d _ _ 0 [some (.int 45)] [] (t, T, I, L, P) _
  refine hf_bipush (v := 100) dX12_sign_0 (by decide) ?_
  refine hf_iload_n dX12_sign_2 rfl rfl ?_
  refine hf_iadd dX12_sign_3 ?_
  rw [show ((100 + 45) : Int32) = 145 by decide]
  refine hf_ireturn dX12_sign_4 rfl rfl ?_
  show hf_G X Y_X12_sumOf (d + 1) _ _ 35 [some (.ref 156), some (.int x1), some (.long x2), none, none, none, none] [.int 145, .int s0] (t, T, I, L, P) _
  refine hf_icmp_ne (tgt := 103) dX12_sumOf_35 (by decide) (fun hc => ?_) (fun hc => ?_)
  · replace h := h.1 hc
    refine hf_lload_n dX12_sumOf_103 rfl rfl ?_
    refine hf_lreturn dX12_sumOf_104 rfl ?_
    exact h
  · replace h := h.2 hc
    refine hf_aload_n dX12_sumOf_38 rfl rfl ?_
    refine hf_aload_n dX12_sumOf_39 rfl rfl ?_
    refine hf_geti (c := 12) (j := 19) dX12_sumOf_40 (hs.2.1 156 _ rfl) (hf_lin hs 156 rfl) (by decide) (by decide) hw1055 (Or.inl rfl) ?_
    exact hf_callV (c := 12) (as := [.int (I 156 19)]) ok_X12_codeAt dX12_sumOf_43 hw1214 hw1215 hw1613 (hs.2.1 156 _ rfl) (by decide) (hf_lin hs 156 rfl) rfl (Nat.le_of_ble_eq_true rfl) rfl (Nat.le_of_ble_eq_true rfl) (Nat.zero_le _) (Nat.zero_le _) h

set_option maxHeartbeats 4000000 in
theorem w_X12_sumOf_76 {X : hf_X} {d k n t : Nat} {T : hf_T} {I : hf_I} {L : hf_L} {P : hf_P} {Q : Option Value → hf_M → Prop} {x1 : Int32} {x2 : Int64} {x4 : Int32} {s0 : Int64} (hs : hf_Lay t T P) (h : (x4 = 0 → hf_G X Y_X12_bounded d 0 0 0 (hf_en [.ref 156, .long (x2 - s0), .int x1] 4) [] (t, T, I, L, P) (fun r M => hf_G X Y_X12_sumOf (d + 1) k n 99 [some (.ref 156), some (.int x1), none, none, none, none, none] (r.toList ++ []) M Q)) ∧ (¬ (x4 = 0) → hf_G X Y_X12_bounded d 0 0 0 (hf_en [.ref 156, .long (x2 + s0), .int x1] 4) [] (t, T, I, L, P) (fun r M => hf_G X Y_X12_sumOf (d + 1) k n 99 [some (.ref 156), some (.int x1), none, none, none, none, none] (r.toList ++ []) M Q))) : hf_G X Y_X12_sumOf (d + 1) k n 76 [some (.ref 156), some (.int x1), some (.long x2), none, some (.int x4), none, none] [.long s0] (t, T, I, L, P) Q := by
  refine hf_lstore (l2 := [some (.ref 156), some (.int x1), some (.long x2), none, some (.int x4), some (.long s0), none]) dX12_sumOf_76 (by decide) rfl ?_
  refine hf_aload_n dX12_sumOf_78 rfl rfl ?_
  refine hf_iload dX12_sumOf_79 rfl ?_
  refine hf_if_eq (tgt := 91) dX12_sumOf_81 (by decide) (fun hc => ?_) (fun hc => ?_)
  · replace h := h.1 hc
    refine hf_lload_n dX12_sumOf_91 rfl rfl ?_
    refine hf_lload dX12_sumOf_92 rfl ?_
    refine hf_lsub dX12_sumOf_94 ?_
    refine hf_iload_n dX12_sumOf_95 rfl rfl ?_
    exact hf_callV (c := 12) (as := [.long (x2 - s0), .int x1]) ok_X12_bounded dX12_sumOf_96 hw1238 hw1239 hw1620 (hs.2.1 156 _ rfl) (by decide) (hf_lin hs 156 rfl) rfl (Nat.le_of_ble_eq_true rfl) rfl (Nat.le_of_ble_eq_true rfl) (Nat.zero_le _) (Nat.zero_le _) (hf_mono (fun r M q => hf_drop (l' := [some (.ref 156), some (.int x1), none, none, none, none, none]) (by simp [hf_sub]) q) h)
  · replace h := h.2 hc
    refine hf_lload_n dX12_sumOf_84 rfl rfl ?_
    refine hf_lload dX12_sumOf_85 rfl ?_
    refine hf_ladd dX12_sumOf_87 ?_
    refine hf_goto (tgt := 95) dX12_sumOf_88 (by decide) ?_
    refine hf_iload_n dX12_sumOf_95 rfl rfl ?_
    exact hf_callV (c := 12) (as := [.long (x2 + s0), .int x1]) ok_X12_bounded dX12_sumOf_96 hw1238 hw1239 hw1620 (hs.2.1 156 _ rfl) (by decide) (hf_lin hs 156 rfl) rfl (Nat.le_of_ble_eq_true rfl) rfl (Nat.le_of_ble_eq_true rfl) (Nat.zero_le _) (Nat.zero_le _) (hf_mono (fun r M q => hf_drop (l' := [some (.ref 156), some (.int x1), none, none, none, none, none]) (by simp [hf_sub]) q) h)

set_option maxHeartbeats 4000000 in
theorem w_X12_sumOf_99 {X : hf_X} {d k n t : Nat} {T : hf_T} {I : hf_I} {L : hf_L} {P : hf_P} {Q : Option Value → hf_M → Prop} {x1 : Int32} {s0 : Int64} (hs : hf_Lay t T P) (h : hf_G X Y_X12_sumOf d k n 6 [some (.ref 156), some (.int x1), some (.long s0), none, none, none, none] [] (t, T, I, L, P) Q) : hf_G X Y_X12_sumOf d k n 99 [some (.ref 156), some (.int x1), none, none, none, none, none] [.long s0] (t, T, I, L, P) Q := by
  refine hf_lstore_n (l2 := [some (.ref 156), some (.int x1), some (.long s0), none, none, none, none]) dX12_sumOf_99 rfl (by decide) rfl ?_
  refine hf_goto (tgt := 6) dX12_sumOf_100 (by decide) ?_
  exact h
