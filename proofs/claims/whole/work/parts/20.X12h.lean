set_option maxHeartbeats 4000000 in
theorem w_X12_readers_0 {X : hf_X} {d k n t : Nat} {T : hf_T} {I : hf_I} {L : hf_L} {P : hf_P} {Q : Option Value → hf_M → Prop} {x1 : Int32} {x2 : Int32} (hs : hf_Lay t T P) (h : (x1 < 0 → Q (some (.int (-1))) (t, T, (hf_up (hf_up I 156 0 (-1)) 157 1 ((I 157 1) + 1)), L, P)) ∧ (¬ (x1 < 0) → (1000000 < x1 → Q (some (.int (-1))) (t, T, (hf_up (hf_up I 156 0 (-1)) 157 1 ((I 157 1) + 1)), L, P)) ∧ (¬ (1000000 < x1) → (x2 < 1 → Q (some (.int (-1))) (t, T, (hf_up (hf_up I 156 0 (-1)) 157 1 ((I 157 1) + 1)), L, P)) ∧ (¬ (x2 < 1) → (100 < x2 → Q (some (.int (-1))) (t, T, (hf_up (hf_up I 156 0 (-1)) 157 1 ((I 157 1) + 1)), L, P)) ∧ (¬ (100 < x2) → hf_G X Y_X12_readers (d + 1) k n 44 [some (.ref 156), none, some (.int x2), some (.int 0), none, none, none, none] [] (t, T, (hf_up (hf_up I 156 50 x1) 156 49 (I 158 24)), L, P) Q))))) : hf_G X Y_X12_readers (d + 1) k n 0 (hf_en [.ref 156, .int x1, .int x2] 8) [] (t, T, I, L, P) Q := by
  show hf_G X Y_X12_readers (d + 1) k n 0 [some (.ref 156), some (.int x1), some (.int x2), none, none, none, none, none] [] (t, T, I, L, P) Q
  refine hf_iload_n dX12_readers_0 rfl rfl ?_
  refine hf_iconst (v := 0) dX12_readers_1 (by decide) ?_
  refine hf_ldc (v := 1000000) dX12_readers_2 hw1298 ?_
  refine hf_callS (as := [.int x1, .int 0, .int 1000000]) ok_X12_lies dX12_readers_4 hw1143 hw1144 rfl (Nat.le_of_ble_eq_true rfl) rfl (Nat.le_of_ble_eq_true rfl) (Nat.zero_le _) (Nat.zero_le _) ?_
  show hf_G X Y_X12_lies d _ _ 0 [some (.int x1), some (.int 0), some (.int 1000000)] [] (t, T, I, L, P) _
  refine hf_iload_n dX12_lies_0 rfl rfl ?_
  refine hf_iload_n dX12_lies_1 rfl rfl ?_
  refine hf_icmp_lt (tgt := 14) dX12_lies_2 (by decide) (fun hc => ?_) (fun hc => ?_)
  · replace h := h.1 hc
    refine hf_iconst (v := 0) dX12_lies_14 (by decide) ?_
    refine hf_ireturn dX12_lies_15 rfl (by decide) ?_
    show hf_G X Y_X12_readers (d + 1) _ _ 7 [some (.ref 156), some (.int x1), some (.int x2), none, none, none, none, none] [.int 0] (t, T, I, L, P) _
    refine hf_if_eq (tgt := 20) dX12_readers_7 (by decide) (fun _ => ?_) (fun hc => absurd (show (0 : Int32) = (0 : Int32) by decide) hc)
    refine hf_aload_n dX12_readers_20 rfl rfl ?_
    refine hf_iconst (v := (-1)) dX12_readers_21 (by decide) ?_
    refine hf_callV (c := 12) (as := [.int (-1)]) ok_X12_refuses dX12_readers_22 hw1146 hw1147 hw1601 (hs.2.1 156 _ rfl) (by decide) (hf_lin hs 156 rfl) rfl (Nat.le_of_ble_eq_true rfl) rfl (Nat.le_of_ble_eq_true rfl) (Nat.zero_le _) (Nat.zero_le _) ?_
    show hf_G X Y_X12_refuses d _ _ 0 [some (.ref 156), some (.int (-1))] [] (t, T, I, L, P) _
    refine hf_aload_n dX12_refuses_0 rfl rfl ?_
    refine hf_iload_n dX12_refuses_1 rfl rfl ?_
    refine hf_puti (c := 12) (j := 0) dX12_refuses_2 (hs.2.1 156 _ rfl) (hf_lin hs 156 rfl) (by decide) (by decide) hw1036 rfl rfl ?_
    refine hf_aload_n dX12_refuses_5 rfl rfl ?_
    refine hf_getr (b := 157) (c := 12) (j := 1) dX12_refuses_6 (hs.2.1 156 _ rfl) (hf_lin hs 156 rfl) (by decide) (by decide) hw1037 rfl (hs.2.2 156 1 _ rfl) ?_
    refine hf_iload_n dX12_refuses_9 rfl rfl ?_
    refine hf_ineg dX12_refuses_10 ?_
    rw [show (-(-1) : Int32) = 1 by decide]
    refine hf_dup2 dX12_refuses_11 rfl rfl ?_
    refine hf_iald_k (j := 1) (by decide) dX12_refuses_12 (hs.2.1 157 _ rfl) (hf_lin hs 157 rfl) (hf_vin (by decide)) ?_
    refine hf_iconst (v := 1) dX12_refuses_13 (by decide) ?_
    refine hf_iadd dX12_refuses_14 ?_
    refine hf_iast_k (j := 1) (by decide) dX12_refuses_15 (hs.2.1 157 _ rfl) (hf_lin hs 157 rfl) (hf_vin (by decide)) ?_
    refine hf_iload_n dX12_refuses_16 rfl rfl ?_
    refine hf_ireturn dX12_refuses_17 rfl rfl ?_
    show hf_G X Y_X12_readers (d + 1) _ _ 25 [some (.ref 156), some (.int x1), some (.int x2), none, none, none, none, none] [.int (-1)] (t, T, (hf_up (hf_up I 156 0 (-1)) 157 1 ((I 157 1) + 1)), L, P) _
    refine hf_ireturn dX12_readers_25 rfl rfl ?_
    exact h
  · replace h := h.2 hc
    refine hf_iload_n dX12_lies_5 rfl rfl ?_
    refine hf_iload_n dX12_lies_6 rfl rfl ?_
    refine hf_icmp_gt (tgt := 14) dX12_lies_7 (by decide) (fun hc => ?_) (fun hc => ?_)
    · replace h := h.1 hc
      refine hf_iconst (v := 0) dX12_lies_14 (by decide) ?_
      refine hf_ireturn dX12_lies_15 rfl (by decide) ?_
      show hf_G X Y_X12_readers (d + 1) _ _ 7 [some (.ref 156), some (.int x1), some (.int x2), none, none, none, none, none] [.int 0] (t, T, I, L, P) _
      refine hf_if_eq (tgt := 20) dX12_readers_7 (by decide) (fun _ => ?_) (fun hc => absurd (show (0 : Int32) = (0 : Int32) by decide) hc)
      refine hf_aload_n dX12_readers_20 rfl rfl ?_
      refine hf_iconst (v := (-1)) dX12_readers_21 (by decide) ?_
      refine hf_callV (c := 12) (as := [.int (-1)]) ok_X12_refuses dX12_readers_22 hw1146 hw1147 hw1601 (hs.2.1 156 _ rfl) (by decide) (hf_lin hs 156 rfl) rfl (Nat.le_of_ble_eq_true rfl) rfl (Nat.le_of_ble_eq_true rfl) (Nat.zero_le _) (Nat.zero_le _) ?_
      show hf_G X Y_X12_refuses d _ _ 0 [some (.ref 156), some (.int (-1))] [] (t, T, I, L, P) _
      refine hf_aload_n dX12_refuses_0 rfl rfl ?_
      refine hf_iload_n dX12_refuses_1 rfl rfl ?_
      refine hf_puti (c := 12) (j := 0) dX12_refuses_2 (hs.2.1 156 _ rfl) (hf_lin hs 156 rfl) (by decide) (by decide) hw1036 rfl rfl ?_
      refine hf_aload_n dX12_refuses_5 rfl rfl ?_
      refine hf_getr (b := 157) (c := 12) (j := 1) dX12_refuses_6 (hs.2.1 156 _ rfl) (hf_lin hs 156 rfl) (by decide) (by decide) hw1037 rfl (hs.2.2 156 1 _ rfl) ?_
      refine hf_iload_n dX12_refuses_9 rfl rfl ?_
      refine hf_ineg dX12_refuses_10 ?_
      rw [show (-(-1) : Int32) = 1 by decide]
      refine hf_dup2 dX12_refuses_11 rfl rfl ?_
      refine hf_iald_k (j := 1) (by decide) dX12_refuses_12 (hs.2.1 157 _ rfl) (hf_lin hs 157 rfl) (hf_vin (by decide)) ?_
      refine hf_iconst (v := 1) dX12_refuses_13 (by decide) ?_
      refine hf_iadd dX12_refuses_14 ?_
      refine hf_iast_k (j := 1) (by decide) dX12_refuses_15 (hs.2.1 157 _ rfl) (hf_lin hs 157 rfl) (hf_vin (by decide)) ?_
      refine hf_iload_n dX12_refuses_16 rfl rfl ?_
      refine hf_ireturn dX12_refuses_17 rfl rfl ?_
      show hf_G X Y_X12_readers (d + 1) _ _ 25 [some (.ref 156), some (.int x1), some (.int x2), none, none, none, none, none] [.int (-1)] (t, T, (hf_up (hf_up I 156 0 (-1)) 157 1 ((I 157 1) + 1)), L, P) _
      refine hf_ireturn dX12_readers_25 rfl rfl ?_
      exact h
    · replace h := h.2 hc
      refine hf_iconst (v := 1) dX12_lies_10 (by decide) ?_
      refine hf_goto (tgt := 15) dX12_lies_11 (by decide) ?_
      refine hf_ireturn dX12_lies_15 rfl (by decide) ?_
      show hf_G X Y_X12_readers (d + 1) _ _ 7 [some (.ref 156), some (.int x1), some (.int x2), none, none, none, none, none] [.int 1] (t, T, I, L, P) _
      refine hf_if_eq (tgt := 20) dX12_readers_7 (by decide) (fun hc => absurd (show (1 : Int32) = (0 : Int32) from hc) (by decide)) (fun _ => ?_)
      refine hf_iload_n dX12_readers_10 rfl rfl ?_
      refine hf_iconst (v := 1) dX12_readers_11 (by decide) ?_
      refine hf_bipush (v := 100) dX12_readers_12 (by decide) ?_
      refine hf_callS (as := [.int x2, .int 1, .int 100]) ok_X12_lies dX12_readers_14 hw1143 hw1144 rfl (Nat.le_of_ble_eq_true rfl) rfl (Nat.le_of_ble_eq_true rfl) (Nat.zero_le _) (Nat.zero_le _) ?_
      show hf_G X Y_X12_lies d _ _ 0 [some (.int x2), some (.int 1), some (.int 100)] [] (t, T, I, L, P) _
      refine hf_iload_n dX12_lies_0 rfl rfl ?_
      refine hf_iload_n dX12_lies_1 rfl rfl ?_
      refine hf_icmp_lt (tgt := 14) dX12_lies_2 (by decide) (fun hc => ?_) (fun hc => ?_)
      · replace h := h.1 hc
        refine hf_iconst (v := 0) dX12_lies_14 (by decide) ?_
        refine hf_ireturn dX12_lies_15 rfl (by decide) ?_
        show hf_G X Y_X12_readers (d + 1) _ _ 17 [some (.ref 156), some (.int x1), some (.int x2), none, none, none, none, none] [.int 0] (t, T, I, L, P) _
        refine hf_if_ne (tgt := 26) dX12_readers_17 (by decide) (fun hc => absurd (show ¬ (0 : Int32) = (0 : Int32) from hc) (by decide)) (fun _ => ?_)
        refine hf_aload_n dX12_readers_20 rfl rfl ?_
        refine hf_iconst (v := (-1)) dX12_readers_21 (by decide) ?_
        refine hf_callV (c := 12) (as := [.int (-1)]) ok_X12_refuses dX12_readers_22 hw1146 hw1147 hw1601 (hs.2.1 156 _ rfl) (by decide) (hf_lin hs 156 rfl) rfl (Nat.le_of_ble_eq_true rfl) rfl (Nat.le_of_ble_eq_true rfl) (Nat.zero_le _) (Nat.zero_le _) ?_
        show hf_G X Y_X12_refuses d _ _ 0 [some (.ref 156), some (.int (-1))] [] (t, T, I, L, P) _
        refine hf_aload_n dX12_refuses_0 rfl rfl ?_
        refine hf_iload_n dX12_refuses_1 rfl rfl ?_
        refine hf_puti (c := 12) (j := 0) dX12_refuses_2 (hs.2.1 156 _ rfl) (hf_lin hs 156 rfl) (by decide) (by decide) hw1036 rfl rfl ?_
        refine hf_aload_n dX12_refuses_5 rfl rfl ?_
        refine hf_getr (b := 157) (c := 12) (j := 1) dX12_refuses_6 (hs.2.1 156 _ rfl) (hf_lin hs 156 rfl) (by decide) (by decide) hw1037 rfl (hs.2.2 156 1 _ rfl) ?_
        refine hf_iload_n dX12_refuses_9 rfl rfl ?_
        refine hf_ineg dX12_refuses_10 ?_
        rw [show (-(-1) : Int32) = 1 by decide]
        refine hf_dup2 dX12_refuses_11 rfl rfl ?_
        refine hf_iald_k (j := 1) (by decide) dX12_refuses_12 (hs.2.1 157 _ rfl) (hf_lin hs 157 rfl) (hf_vin (by decide)) ?_
        refine hf_iconst (v := 1) dX12_refuses_13 (by decide) ?_
        refine hf_iadd dX12_refuses_14 ?_
        refine hf_iast_k (j := 1) (by decide) dX12_refuses_15 (hs.2.1 157 _ rfl) (hf_lin hs 157 rfl) (hf_vin (by decide)) ?_
        refine hf_iload_n dX12_refuses_16 rfl rfl ?_
        refine hf_ireturn dX12_refuses_17 rfl rfl ?_
        show hf_G X Y_X12_readers (d + 1) _ _ 25 [some (.ref 156), some (.int x1), some (.int x2), none, none, none, none, none] [.int (-1)] (t, T, (hf_up (hf_up I 156 0 (-1)) 157 1 ((I 157 1) + 1)), L, P) _
        refine hf_ireturn dX12_readers_25 rfl rfl ?_
        exact h
      · replace h := h.2 hc
        refine hf_iload_n dX12_lies_5 rfl rfl ?_
        refine hf_iload_n dX12_lies_6 rfl rfl ?_
        refine hf_icmp_gt (tgt := 14) dX12_lies_7 (by decide) (fun hc => ?_) (fun hc => ?_)
        · replace h := h.1 hc
          refine hf_iconst (v := 0) dX12_lies_14 (by decide) ?_
          refine hf_ireturn dX12_lies_15 rfl (by decide) ?_
          show hf_G X Y_X12_readers (d + 1) _ _ 17 [some (.ref 156), some (.int x1), some (.int x2), none, none, none, none, none] [.int 0] (t, T, I, L, P) _
          refine hf_if_ne (tgt := 26) dX12_readers_17 (by decide) (fun hc => absurd (show ¬ (0 : Int32) = (0 : Int32) from hc) (by decide)) (fun _ => ?_)
          refine hf_aload_n dX12_readers_20 rfl rfl ?_
          refine hf_iconst (v := (-1)) dX12_readers_21 (by decide) ?_
          refine hf_callV (c := 12) (as := [.int (-1)]) ok_X12_refuses dX12_readers_22 hw1146 hw1147 hw1601 (hs.2.1 156 _ rfl) (by decide) (hf_lin hs 156 rfl) rfl (Nat.le_of_ble_eq_true rfl) rfl (Nat.le_of_ble_eq_true rfl) (Nat.zero_le _) (Nat.zero_le _) ?_
          show hf_G X Y_X12_refuses d _ _ 0 [some (.ref 156), some (.int (-1))] [] (t, T, I, L, P) _
          refine hf_aload_n dX12_refuses_0 rfl rfl ?_
          refine hf_iload_n dX12_refuses_1 rfl rfl ?_
          refine hf_puti (c := 12) (j := 0) dX12_refuses_2 (hs.2.1 156 _ rfl) (hf_lin hs 156 rfl) (by decide) (by decide) hw1036 rfl rfl ?_
          refine hf_aload_n dX12_refuses_5 rfl rfl ?_
          refine hf_getr (b := 157) (c := 12) (j := 1) dX12_refuses_6 (hs.2.1 156 _ rfl) (hf_lin hs 156 rfl) (by decide) (by decide) hw1037 rfl (hs.2.2 156 1 _ rfl) ?_
          refine hf_iload_n dX12_refuses_9 rfl rfl ?_
          refine hf_ineg dX12_refuses_10 ?_
          rw [show (-(-1) : Int32) = 1 by decide]
          refine hf_dup2 dX12_refuses_11 rfl rfl ?_
          refine hf_iald_k (j := 1) (by decide) dX12_refuses_12 (hs.2.1 157 _ rfl) (hf_lin hs 157 rfl) (hf_vin (by decide)) ?_
          refine hf_iconst (v := 1) dX12_refuses_13 (by decide) ?_
          refine hf_iadd dX12_refuses_14 ?_
          refine hf_iast_k (j := 1) (by decide) dX12_refuses_15 (hs.2.1 157 _ rfl) (hf_lin hs 157 rfl) (hf_vin (by decide)) ?_
          refine hf_iload_n dX12_refuses_16 rfl rfl ?_
          refine hf_ireturn dX12_refuses_17 rfl rfl ?_
          show hf_G X Y_X12_readers (d + 1) _ _ 25 [some (.ref 156), some (.int x1), some (.int x2), none, none, none, none, none] [.int (-1)] (t, T, (hf_up (hf_up I 156 0 (-1)) 157 1 ((I 157 1) + 1)), L, P) _
          refine hf_ireturn dX12_readers_25 rfl rfl ?_
          exact h
        · replace h := h.2 hc
          refine hf_iconst (v := 1) dX12_lies_10 (by decide) ?_
          refine hf_goto (tgt := 15) dX12_lies_11 (by decide) ?_
          refine hf_ireturn dX12_lies_15 rfl (by decide) ?_
          show hf_G X Y_X12_readers (d + 1) _ _ 17 [some (.ref 156), some (.int x1), some (.int x2), none, none, none, none, none] [.int 1] (t, T, I, L, P) _
          refine hf_if_ne (tgt := 26) dX12_readers_17 (by decide) (fun _ => ?_) (fun hc => absurd (show (1 : Int32) = (0 : Int32) from hc) (by decide))
          refine hf_aload_n dX12_readers_26 rfl rfl ?_
          refine hf_iload_n dX12_readers_27 rfl rfl ?_
          refine hf_puti (c := 12) (j := 50) dX12_readers_28 (hs.2.1 156 _ rfl) (hf_lin hs 156 rfl) (by decide) (by decide) hw1086 rfl rfl ?_
          refine hf_aload_n dX12_readers_31 rfl rfl ?_
          refine hf_aload_n dX12_readers_32 rfl rfl ?_
          refine hf_getr (b := 158) (c := 12) (j := 2) dX12_readers_33 (hs.2.1 156 _ rfl) (hf_lin hs 156 rfl) (by decide) (by decide) hw1038 rfl (hs.2.2 156 2 _ rfl) ?_
          refine hf_bipush (v := 24) dX12_readers_36 (by decide) ?_
          refine hf_iald_k (j := 24) (by decide) dX12_readers_38 (hs.2.1 158 _ rfl) (hf_lin hs 158 rfl) (hf_vin (by decide)) ?_
          refine hf_puti (c := 12) (j := 49) dX12_readers_39 (hs.2.1 156 _ rfl) (hf_lin hs 156 rfl) (by decide) (by decide) hw1085 rfl rfl ?_
          refine hf_iconst (v := 0) dX12_readers_42 (by decide) ?_
          refine hf_istore_n (l2 := [some (.ref 156), some (.int x1), some (.int x2), some (.int 0), none, none, none, none]) dX12_readers_43 rfl (by decide) rfl ?_
          refine hf_drop (l' := [some (.ref 156), none, some (.int x2), some (.int 0), none, none, none, none]) (by simp [hf_sub]) ?_
          exact h

set_option maxHeartbeats 4000000 in
theorem w_X12_readers_44 {X : hf_X} {d k n t : Nat} {T : hf_T} {I : hf_I} {L : hf_L} {P : hf_P} {Q : Option Value → hf_M → Prop} {x2 : Int32} {x3 : Int32} (hs : hf_Lay t T P) (h : (12 ≤ x3 → hf_G X Y_X12_readers d k n 68 [some (.ref 156), none, some (.int x2), some (.int 0), some (.int 0), none, none, none] [] (t, T, I, L, P) Q) ∧ (¬ (12 ≤ x3) → vp_in x3 12 ∧ (hf_G X Y_X12_readers d k n 44 [some (.ref 156), none, some (.int x2), some (.int (x3 + 1)), none, none, none, none] [] (t, T, (hf_up I 180 x3.toNatClampNeg 0), L, P) Q))) : hf_G X Y_X12_readers d k n 44 [some (.ref 156), none, some (.int x2), some (.int x3), none, none, none, none] [] (t, T, I, L, P) Q := by
  refine hf_iload_n dX12_readers_44 rfl rfl ?_
  refine hf_bipush (v := 12) dX12_readers_45 (by decide) ?_
  refine hf_icmp_ge (tgt := 63) dX12_readers_47 (by decide) (fun hc => ?_) (fun hc => ?_)
  · replace h := h.1 hc
    refine hf_iconst (v := 0) dX12_readers_63 (by decide) ?_
    refine hf_istore_n (l2 := [some (.ref 156), none, some (.int x2), some (.int 0), none, none, none, none]) dX12_readers_64 rfl (by decide) rfl ?_
    refine hf_iconst (v := 0) dX12_readers_65 (by decide) ?_
    refine hf_istore (l2 := [some (.ref 156), none, some (.int x2), some (.int 0), some (.int 0), none, none, none]) dX12_readers_66 (by decide) rfl ?_
    exact h
  · replace h := h.2 hc
    refine hf_aload_n dX12_readers_50 rfl rfl ?_
    refine hf_getr (b := 180) (c := 12) (j := 48) dX12_readers_51 (hs.2.1 156 _ rfl) (hf_lin hs 156 rfl) (by decide) (by decide) hw1084 rfl (hs.2.2 156 48 _ rfl) ?_
    refine hf_iload_n dX12_readers_54 rfl rfl ?_
    refine hf_iconst (v := 0) dX12_readers_55 (by decide) ?_
    refine hf_iast dX12_readers_56 (hs.2.1 180 _ rfl) (hf_lin hs 180 rfl) h.1 ?_
    replace h := h.2
    refine hf_iinc (v := (x3 + 1)) (l2 := [some (.ref 156), none, some (.int x2), some (.int (x3 + 1)), none, none, none, none]) dX12_readers_57 (by decide) rfl rfl rfl ?_
    refine hf_goto (tgt := 44) dX12_readers_60 (by decide) ?_
    exact h

set_option maxHeartbeats 4000000 in
theorem w_X12_readers_68 {X : hf_X} {d k n t : Nat} {T : hf_T} {I : hf_I} {L : hf_L} {P : hf_P} {Q : Option Value → hf_M → Prop} {x2 : Int32} {x3 : Int32} {x4 : Int32} (hs : hf_Lay t T P) (h : (x2 ≤ x4 → Q (some (.int x3)) (t, T, (hf_up I 156 0 0), L, P)) ∧ (¬ (x2 ≤ x4) → hf_G X Y_X12_readers (d + 1) k n 80 [some (.ref 156), none, some (.int x2), some (.int x3), some (.int x4), some (.int 0), some (.int 0), none] [] (t, T, I, L, P) Q)) : hf_G X Y_X12_readers (d + 1) k n 68 [some (.ref 156), none, some (.int x2), some (.int x3), some (.int x4), none, none, none] [] (t, T, I, L, P) Q := by
  refine hf_iload dX12_readers_68 rfl ?_
  refine hf_iload_n dX12_readers_70 rfl rfl ?_
  refine hf_icmp_ge (tgt := 183) dX12_readers_71 (by decide) (fun hc => ?_) (fun hc => ?_)
  · replace h := h.1 hc
    refine hf_aload_n dX12_readers_183 rfl rfl ?_
    refine hf_iload_n dX12_readers_184 rfl rfl ?_
    refine hf_callV (c := 12) (as := [.int x3]) ok_X12_good dX12_readers_185 hw1149 hw1150 hw1602 (hs.2.1 156 _ rfl) (by decide) (hf_lin hs 156 rfl) rfl (Nat.le_of_ble_eq_true rfl) rfl (Nat.le_of_ble_eq_true rfl) (Nat.zero_le _) (Nat.zero_le _) ?_
    show hf_G X Y_X12_good d _ _ 0 [some (.ref 156), some (.int x3)] [] (t, T, I, L, P) _
    refine hf_aload_n dX12_good_0 rfl rfl ?_
    refine hf_iconst (v := 0) dX12_good_1 (by decide) ?_
    refine hf_puti (c := 12) (j := 0) dX12_good_2 (hs.2.1 156 _ rfl) (hf_lin hs 156 rfl) (by decide) (by decide) hw1036 rfl rfl ?_
    refine hf_iload_n dX12_good_5 rfl rfl ?_
    refine hf_ireturn dX12_good_6 rfl rfl ?_
    show hf_G X Y_X12_readers (d + 1) _ _ 188 [some (.ref 156), none, some (.int x2), some (.int x3), some (.int x4), none, none, none] [.int x3] (t, T, (hf_up I 156 0 0), L, P) _
    refine hf_ireturn dX12_readers_188 rfl rfl ?_
    exact h
  · replace h := h.2 hc
    refine hf_iconst (v := 0) dX12_readers_74 (by decide) ?_
    refine hf_istore (l2 := [some (.ref 156), none, some (.int x2), some (.int x3), some (.int x4), some (.int 0), none, none]) dX12_readers_75 (by decide) rfl ?_
    refine hf_iconst (v := 0) dX12_readers_77 (by decide) ?_
    refine hf_istore (l2 := [some (.ref 156), none, some (.int x2), some (.int x3), some (.int x4), some (.int 0), some (.int 0), none]) dX12_readers_78 (by decide) rfl ?_
    exact h

set_option maxHeartbeats 4000000 in
theorem w_X12_readers_80 {X : hf_X} {d k n t : Nat} {T : hf_T} {I : hf_I} {L : hf_L} {P : hf_P} {Q : Option Value → hf_M → Prop} {x2 : Int32} {x3 : Int32} {x4 : Int32} {x5 : Int32} {x6 : Int32} (hs : hf_Lay t T P) (h : ((I 156 49) ≤ x6 → (¬ x5 = (I 156 49) → hf_G X Y_X12_readers (d + 1) k n 68 [some (.ref 156), none, some (.int x2), some (.int (x3 + 0)), some (.int (x4 + 1)), none, none, none] [] (t, T, I, L, P) Q) ∧ (x5 = (I 156 49) → hf_G X Y_X12_readers (d + 1) k n 68 [some (.ref 156), none, some (.int x2), some (.int (x3 + 1)), some (.int (x4 + 1)), none, none, none] [] (t, T, I, L, P) Q)) ∧ (¬ ((I 156 49) ≤ x6) → hf_G X Y_X12_draws d 0 0 0 (hf_en [.ref 156, .int 10] 2) [] (t, T, I, L, P) (fun r M => hf_G X Y_X12_readers (d + 1) k n 95 [some (.ref 156), none, some (.int x2), some (.int x3), some (.int x4), some (.int x5), some (.int x6), none] (r.toList ++ []) M Q))) : hf_G X Y_X12_readers (d + 1) k n 80 [some (.ref 156), none, some (.int x2), some (.int x3), some (.int x4), some (.int x5), some (.int x6), none] [] (t, T, I, L, P) Q := by
  refine hf_iload dX12_readers_80 rfl ?_
  refine hf_aload_n dX12_readers_82 rfl rfl ?_
  refine hf_geti (c := 12) (j := 49) dX12_readers_83 (hs.2.1 156 _ rfl) (hf_lin hs 156 rfl) (by decide) (by decide) hw1085 (Or.inl rfl) ?_
  refine hf_icmp_ge (tgt := 160) dX12_readers_86 (by decide) (fun hc => ?_) (fun hc => ?_)
  · replace h := h.1 hc
    refine hf_iload_n dX12_readers_160 rfl rfl ?_
    refine hf_iload dX12_readers_161 rfl ?_
    refine hf_aload_n dX12_readers_163 rfl rfl ?_
    refine hf_geti (c := 12) (j := 49) dX12_readers_164 (hs.2.1 156 _ rfl) (hf_lin hs 156 rfl) (by decide) (by decide) hw1085 (Or.inl rfl) ?_
    refine hf_icmp_ne (tgt := 174) dX12_readers_167 (by decide) (fun hc => ?_) (fun hc => ?_)
    · replace h := h.1 hc
      refine hf_iconst (v := 0) dX12_readers_174 (by decide) ?_
      refine hf_iadd dX12_readers_175 ?_
      refine hf_istore_n (l2 := [some (.ref 156), none, some (.int x2), some (.int (x3 + 0)), some (.int x4), some (.int x5), some (.int x6), none]) dX12_readers_176 rfl (by decide) rfl ?_
      refine hf_iinc (v := (x4 + 1)) (l2 := [some (.ref 156), none, some (.int x2), some (.int (x3 + 0)), some (.int (x4 + 1)), some (.int x5), some (.int x6), none]) dX12_readers_177 (by decide) rfl rfl rfl ?_
      refine hf_goto (tgt := 68) dX12_readers_180 (by decide) ?_
      refine hf_drop (l' := [some (.ref 156), none, some (.int x2), some (.int (x3 + 0)), some (.int (x4 + 1)), none, none, none]) (by simp [hf_sub]) ?_
      exact h
    · replace h := h.2 hc
      refine hf_iconst (v := 1) dX12_readers_170 (by decide) ?_
      refine hf_goto (tgt := 175) dX12_readers_171 (by decide) ?_
      refine hf_iadd dX12_readers_175 ?_
      refine hf_istore_n (l2 := [some (.ref 156), none, some (.int x2), some (.int (x3 + 1)), some (.int x4), some (.int x5), some (.int x6), none]) dX12_readers_176 rfl (by decide) rfl ?_
      refine hf_iinc (v := (x4 + 1)) (l2 := [some (.ref 156), none, some (.int x2), some (.int (x3 + 1)), some (.int (x4 + 1)), some (.int x5), some (.int x6), none]) dX12_readers_177 (by decide) rfl rfl rfl ?_
      refine hf_goto (tgt := 68) dX12_readers_180 (by decide) ?_
      refine hf_drop (l' := [some (.ref 156), none, some (.int x2), some (.int (x3 + 1)), some (.int (x4 + 1)), none, none, none]) (by simp [hf_sub]) ?_
      exact h
  · replace h := h.2 hc
    refine hf_aload_n dX12_readers_89 rfl rfl ?_
    refine hf_bipush (v := 10) dX12_readers_90 (by decide) ?_
    exact hf_callV (c := 12) (as := [.int 10]) ok_X12_draws dX12_readers_92 hw1533 hw1534 hw1669 (hs.2.1 156 _ rfl) (by decide) (hf_lin hs 156 rfl) rfl (Nat.le_of_ble_eq_true rfl) rfl (Nat.le_of_ble_eq_true rfl) (Nat.zero_le _) (Nat.zero_le _) h

set_option maxHeartbeats 4000000 in
theorem w_X12_readers_95 {X : hf_X} {d k n t : Nat} {T : hf_T} {I : hf_I} {L : hf_L} {P : hf_P} {Q : Option Value → hf_M → Prop} {x2 : Int32} {x3 : Int32} {x4 : Int32} {x5 : Int32} {x6 : Int32} {s0 : Int32} (hs : hf_Lay t T P) (h : vp_in (0 + x6) 5929 ∧ (vp_in ((53 + (13 * (I 158 (((0 + x6)).toNatClampNeg)))) + 2) 5929 ∧ (((I 158 ((((53 + (13 * (I 158 (((0 + x6)).toNatClampNeg)))) + 2)).toNatClampNeg)) ≤ s0 → vp_in x6 12 ∧ (vp_in x6 12 ∧ (hf_G X Y_X12_readers (d + 1) k n 80 [some (.ref 156), none, some (.int x2), some (.int x3), some (.int x4), some (.int (x5 + 0)), some (.int (x6 + 1)), none] [] (t, T, (hf_up I 180 x6.toNatClampNeg ((I 180 x6.toNatClampNeg) + 0)), L, P) Q))) ∧ (¬ ((I 158 ((((53 + (13 * (I 158 (((0 + x6)).toNatClampNeg)))) + 2)).toNatClampNeg)) ≤ s0) → vp_in x6 12 ∧ (vp_in x6 12 ∧ (hf_G X Y_X12_readers (d + 1) k n 80 [some (.ref 156), none, some (.int x2), some (.int x3), some (.int x4), some (.int (x5 + 1)), some (.int (x6 + 1)), none] [] (t, T, (hf_up I 180 x6.toNatClampNeg ((I 180 x6.toNatClampNeg) + 1)), L, P) Q)))))) : hf_G X Y_X12_readers (d + 1) k n 95 [some (.ref 156), none, some (.int x2), some (.int x3), some (.int x4), some (.int x5), some (.int x6), none] [.int s0] (t, T, I, L, P) Q := by
  refine hf_aload_n dX12_readers_95 rfl rfl ?_
  refine hf_aload_n dX12_readers_96 rfl rfl ?_
  refine hf_getr (b := 158) (c := 12) (j := 2) dX12_readers_97 (hs.2.1 156 _ rfl) (hf_lin hs 156 rfl) (by decide) (by decide) hw1038 rfl (hs.2.2 156 2 _ rfl) ?_
  refine hf_iconst (v := 0) dX12_readers_100 (by decide) ?_
  refine hf_iload dX12_readers_101 rfl ?_
  refine hf_iadd dX12_readers_103 ?_
  refine hf_iald dX12_readers_104 (hs.2.1 158 _ rfl) (hf_lin hs 158 rfl) h.1 ?_
  replace h := h.2
  refine hf_iconst (v := 2) dX12_readers_105 (by decide) ?_
  refine hf_callV (c := 12) (as := [.int (I 158 (((0 + x6)).toNatClampNeg)), .int 2]) ok_X12_fact dX12_readers_106 hw1189 hw1190 hw1606 (hs.2.1 156 _ rfl) (by decide) (hf_lin hs 156 rfl) rfl (Nat.le_of_ble_eq_true rfl) rfl (Nat.le_of_ble_eq_true rfl) (Nat.zero_le _) (Nat.zero_le _) ?_
  show hf_G X Y_X12_fact d _ _ 0 [some (.ref 156), some (.int (I 158 (((0 + x6)).toNatClampNeg))), some (.int 2)] [] (t, T, I, L, P) _
  refine hf_aload_n dX12_fact_0 rfl rfl ?_
  refine hf_getr (b := 158) (c := 12) (j := 2) dX12_fact_1 (hs.2.1 156 _ rfl) (hf_lin hs 156 rfl) (by decide) (by decide) hw1038 rfl (hs.2.2 156 2 _ rfl) ?_
  refine hf_bipush (v := 53) dX12_fact_4 (by decide) ?_
  refine hf_bipush (v := 13) dX12_fact_6 (by decide) ?_
  refine hf_iload_n dX12_fact_8 rfl rfl ?_
  refine hf_imul dX12_fact_9 ?_
  refine hf_iadd dX12_fact_10 ?_
  refine hf_iload_n dX12_fact_11 rfl rfl ?_
  refine hf_iadd dX12_fact_12 ?_
  refine hf_iald dX12_fact_13 (hs.2.1 158 _ rfl) (hf_lin hs 158 rfl) h.1 ?_
  replace h := h.2
  refine hf_ireturn dX12_fact_14 rfl rfl ?_
  show hf_G X Y_X12_readers (d + 1) _ _ 109 [some (.ref 156), none, some (.int x2), some (.int x3), some (.int x4), some (.int x5), some (.int x6), none] [.int (I 158 ((((53 + (13 * (I 158 (((0 + x6)).toNatClampNeg)))) + 2)).toNatClampNeg)), .int s0] (t, T, I, L, P) _
  refine hf_icmp_ge (tgt := 116) dX12_readers_109 (by decide) (fun hc => ?_) (fun hc => ?_)
  · replace h := h.1 hc
    refine hf_iconst (v := 0) dX12_readers_116 (by decide) ?_
    refine hf_istore (l2 := [some (.ref 156), none, some (.int x2), some (.int x3), some (.int x4), some (.int x5), some (.int x6), some (.int 0)]) dX12_readers_117 (by decide) rfl ?_
    refine hf_aload_n dX12_readers_119 rfl rfl ?_
    refine hf_getr (b := 180) (c := 12) (j := 48) dX12_readers_120 (hs.2.1 156 _ rfl) (hf_lin hs 156 rfl) (by decide) (by decide) hw1084 rfl (hs.2.2 156 48 _ rfl) ?_
    refine hf_iload dX12_readers_123 rfl ?_
    refine hf_dup2 dX12_readers_125 rfl rfl ?_
    refine hf_iald dX12_readers_126 (hs.2.1 180 _ rfl) (hf_lin hs 180 rfl) h.1 ?_
    replace h := h.2
    refine hf_iload dX12_readers_127 rfl ?_
    refine hf_if_eq (tgt := 136) dX12_readers_129 (by decide) (fun _ => ?_) (fun hc => absurd (show (0 : Int32) = (0 : Int32) by decide) hc)
    refine hf_iconst (v := 0) dX12_readers_136 (by decide) ?_
    refine hf_iadd dX12_readers_137 ?_
    refine hf_iast dX12_readers_138 (hs.2.1 180 _ rfl) (hf_lin hs 180 rfl) h.1 ?_
    replace h := h.2
    refine hf_iload dX12_readers_139 rfl ?_
    refine hf_iload dX12_readers_141 rfl ?_
    refine hf_if_eq (tgt := 150) dX12_readers_143 (by decide) (fun _ => ?_) (fun hc => absurd (show (0 : Int32) = (0 : Int32) by decide) hc)
    refine hf_iconst (v := 0) dX12_readers_150 (by decide) ?_
    refine hf_iadd dX12_readers_151 ?_
    refine hf_istore (l2 := [some (.ref 156), none, some (.int x2), some (.int x3), some (.int x4), some (.int (x5 + 0)), some (.int x6), some (.int 0)]) dX12_readers_152 (by decide) rfl ?_
    refine hf_iinc (v := (x6 + 1)) (l2 := [some (.ref 156), none, some (.int x2), some (.int x3), some (.int x4), some (.int (x5 + 0)), some (.int (x6 + 1)), some (.int 0)]) dX12_readers_154 (by decide) rfl rfl rfl ?_
    refine hf_goto (tgt := 80) dX12_readers_157 (by decide) ?_
    refine hf_drop (l' := [some (.ref 156), none, some (.int x2), some (.int x3), some (.int x4), some (.int (x5 + 0)), some (.int (x6 + 1)), none]) (by simp [hf_sub]) ?_
    exact h
  · replace h := h.2 hc
    refine hf_iconst (v := 1) dX12_readers_112 (by decide) ?_
    refine hf_goto (tgt := 117) dX12_readers_113 (by decide) ?_
    refine hf_istore (l2 := [some (.ref 156), none, some (.int x2), some (.int x3), some (.int x4), some (.int x5), some (.int x6), some (.int 1)]) dX12_readers_117 (by decide) rfl ?_
    refine hf_aload_n dX12_readers_119 rfl rfl ?_
    refine hf_getr (b := 180) (c := 12) (j := 48) dX12_readers_120 (hs.2.1 156 _ rfl) (hf_lin hs 156 rfl) (by decide) (by decide) hw1084 rfl (hs.2.2 156 48 _ rfl) ?_
    refine hf_iload dX12_readers_123 rfl ?_
    refine hf_dup2 dX12_readers_125 rfl rfl ?_
    refine hf_iald dX12_readers_126 (hs.2.1 180 _ rfl) (hf_lin hs 180 rfl) h.1 ?_
    replace h := h.2
    refine hf_iload dX12_readers_127 rfl ?_
    refine hf_if_eq (tgt := 136) dX12_readers_129 (by decide) (fun hc => absurd (show (1 : Int32) = (0 : Int32) from hc) (by decide)) (fun _ => ?_)
    refine hf_iconst (v := 1) dX12_readers_132 (by decide) ?_
    refine hf_goto (tgt := 137) dX12_readers_133 (by decide) ?_
    refine hf_iadd dX12_readers_137 ?_
    refine hf_iast dX12_readers_138 (hs.2.1 180 _ rfl) (hf_lin hs 180 rfl) h.1 ?_
    replace h := h.2
    refine hf_iload dX12_readers_139 rfl ?_
    refine hf_iload dX12_readers_141 rfl ?_
    refine hf_if_eq (tgt := 150) dX12_readers_143 (by decide) (fun hc => absurd (show (1 : Int32) = (0 : Int32) from hc) (by decide)) (fun _ => ?_)
    refine hf_iconst (v := 1) dX12_readers_146 (by decide) ?_
    refine hf_goto (tgt := 151) dX12_readers_147 (by decide) ?_
    refine hf_iadd dX12_readers_151 ?_
    refine hf_istore (l2 := [some (.ref 156), none, some (.int x2), some (.int x3), some (.int x4), some (.int (x5 + 1)), some (.int x6), some (.int 1)]) dX12_readers_152 (by decide) rfl ?_
    refine hf_iinc (v := (x6 + 1)) (l2 := [some (.ref 156), none, some (.int x2), some (.int x3), some (.int x4), some (.int (x5 + 1)), some (.int (x6 + 1)), some (.int 1)]) dX12_readers_154 (by decide) rfl rfl rfl ?_
    refine hf_goto (tgt := 80) dX12_readers_157 (by decide) ?_
    refine hf_drop (l' := [some (.ref 156), none, some (.int x2), some (.int x3), some (.int x4), some (.int (x5 + 1)), some (.int (x6 + 1)), none]) (by simp [hf_sub]) ?_
    exact h

set_option maxHeartbeats 4000000 in
theorem w_X12_drawn_0 {X : hf_X} {d k n t : Nat} {T : hf_T} {I : hf_I} {L : hf_L} {P : hf_P} {Q : Option Value → hf_M → Prop} {x1 : Int32} (hs : hf_Lay t T P) (h : (x1 < 0 → Q (some (.int (-1))) (t, T, I, L, P)) ∧ (¬ (x1 < 0) → (((I 156 49) - 1) < x1 → Q (some (.int (-1))) (t, T, I, L, P)) ∧ (¬ (((I 156 49) - 1) < x1) → vp_in x1 12 ∧ (Q (some (.int (I 180 x1.toNatClampNeg))) (t, T, I, L, P))))) : hf_G X Y_X12_drawn (d + 1) k n 0 (hf_en [.ref 156, .int x1] 2) [] (t, T, I, L, P) Q := by
  show hf_G X Y_X12_drawn (d + 1) k n 0 [some (.ref 156), some (.int x1)] [] (t, T, I, L, P) Q
  refine hf_iload_n dX12_drawn_0 rfl rfl ?_
  refine hf_iconst (v := 0) dX12_drawn_1 (by decide) ?_
  refine hf_aload_n dX12_drawn_2 rfl rfl ?_
  refine hf_geti (c := 12) (j := 49) dX12_drawn_3 (hs.2.1 156 _ rfl) (hf_lin hs 156 rfl) (by decide) (by decide) hw1085 (Or.inl rfl) ?_
  refine hf_iconst (v := 1) dX12_drawn_6 (by decide) ?_
  refine hf_isub dX12_drawn_7 ?_
  refine hf_callS (as := [.int x1, .int 0, .int ((I 156 49) - 1)]) ok_X12_lies dX12_drawn_8 hw1143 hw1144 rfl (Nat.le_of_ble_eq_true rfl) rfl (Nat.le_of_ble_eq_true rfl) (Nat.zero_le _) (Nat.zero_le _) ?_
  show hf_G X Y_X12_lies d _ _ 0 [some (.int x1), some (.int 0), some (.int ((I 156 49) - 1))] [] (t, T, I, L, P) _
  refine hf_iload_n dX12_lies_0 rfl rfl ?_
  refine hf_iload_n dX12_lies_1 rfl rfl ?_
  refine hf_icmp_lt (tgt := 14) dX12_lies_2 (by decide) (fun hc => ?_) (fun hc => ?_)
  · replace h := h.1 hc
    refine hf_iconst (v := 0) dX12_lies_14 (by decide) ?_
    refine hf_ireturn dX12_lies_15 rfl (by decide) ?_
    show hf_G X Y_X12_drawn (d + 1) _ _ 11 [some (.ref 156), some (.int x1)] [.int 0] (t, T, I, L, P) _
    refine hf_if_eq (tgt := 23) dX12_drawn_11 (by decide) (fun _ => ?_) (fun hc => absurd (show (0 : Int32) = (0 : Int32) by decide) hc)
    refine hf_iconst (v := (-1)) dX12_drawn_23 (by decide) ?_
    refine hf_ireturn dX12_drawn_24 rfl rfl ?_
    exact h
  · replace h := h.2 hc
    refine hf_iload_n dX12_lies_5 rfl rfl ?_
    refine hf_iload_n dX12_lies_6 rfl rfl ?_
    refine hf_icmp_gt (tgt := 14) dX12_lies_7 (by decide) (fun hc => ?_) (fun hc => ?_)
    · replace h := h.1 hc
      refine hf_iconst (v := 0) dX12_lies_14 (by decide) ?_
      refine hf_ireturn dX12_lies_15 rfl (by decide) ?_
      show hf_G X Y_X12_drawn (d + 1) _ _ 11 [some (.ref 156), some (.int x1)] [.int 0] (t, T, I, L, P) _
      refine hf_if_eq (tgt := 23) dX12_drawn_11 (by decide) (fun _ => ?_) (fun hc => absurd (show (0 : Int32) = (0 : Int32) by decide) hc)
      refine hf_iconst (v := (-1)) dX12_drawn_23 (by decide) ?_
      refine hf_ireturn dX12_drawn_24 rfl rfl ?_
      exact h
    · replace h := h.2 hc
      refine hf_iconst (v := 1) dX12_lies_10 (by decide) ?_
      refine hf_goto (tgt := 15) dX12_lies_11 (by decide) ?_
      refine hf_ireturn dX12_lies_15 rfl (by decide) ?_
      show hf_G X Y_X12_drawn (d + 1) _ _ 11 [some (.ref 156), some (.int x1)] [.int 1] (t, T, I, L, P) _
      refine hf_if_eq (tgt := 23) dX12_drawn_11 (by decide) (fun hc => absurd (show (1 : Int32) = (0 : Int32) from hc) (by decide)) (fun _ => ?_)
      refine hf_aload_n dX12_drawn_14 rfl rfl ?_
      refine hf_getr (b := 180) (c := 12) (j := 48) dX12_drawn_15 (hs.2.1 156 _ rfl) (hf_lin hs 156 rfl) (by decide) (by decide) hw1084 rfl (hs.2.2 156 48 _ rfl) ?_
      refine hf_iload_n dX12_drawn_18 rfl rfl ?_
      refine hf_iald dX12_drawn_19 (hs.2.1 180 _ rfl) (hf_lin hs 180 rfl) h.1 ?_
      replace h := h.2
      refine hf_goto (tgt := 24) dX12_drawn_20 (by decide) ?_
      refine hf_ireturn dX12_drawn_24 rfl rfl ?_
      exact h

set_option maxHeartbeats 4000000 in
theorem w_X12_count_0 {X : hf_X} {d k n t : Nat} {T : hf_T} {I : hf_I} {L : hf_L} {P : hf_P} {Q : Option Value → hf_M → Prop} {x1 : Int32} (hs : hf_Lay t T P) (h : (x1 = 0 → Q (some (.int (I 158 316))) (t, T, I, L, P)) ∧ (x1 = 1 → Q (some (.int (I 158 317))) (t, T, I, L, P)) ∧ (x1 = 2 → Q (some (.int (I 158 24))) (t, T, I, L, P)) ∧ (x1 = 3 → Q (some (.int (I 158 318))) (t, T, I, L, P)) ∧ (x1 = 4 → Q (some (.int (I 158 319))) (t, T, I, L, P)) ∧ (x1 = 5 → Q (some (.int (I 158 320))) (t, T, I, L, P)) ∧ (x1 = 6 → Q (some (.int (I 156 27))) (t, T, I, L, P)) ∧ (x1 = 7 → Q (some (.int (I 156 10))) (t, T, I, L, P)) ∧ (x1 = 8 → vp_in (x1 - 7) 7 ∧ (Q (some (.int (I 157 (((x1 - 7)).toNatClampNeg)))) (t, T, I, L, P))) ∧ (x1 = 9 → vp_in (x1 - 7) 7 ∧ (Q (some (.int (I 157 (((x1 - 7)).toNatClampNeg)))) (t, T, I, L, P))) ∧ (x1 = 10 → vp_in (x1 - 7) 7 ∧ (Q (some (.int (I 157 (((x1 - 7)).toNatClampNeg)))) (t, T, I, L, P))) ∧ (x1 = 11 → Q (some (.int (I 157 5))) (t, T, I, L, P)) ∧ (x1 = 12 → Q (some (.int (I 157 6))) (t, T, I, L, P)) ∧ (x1 = 13 → Q (some (.int (I 158 321))) (t, T, I, L, P)) ∧ (x1 = 14 → vp_in ((311 + x1) - 14) 5929 ∧ (Q (some (.int (I 158 ((((311 + x1) - 14)).toNatClampNeg)))) (t, T, I, L, P))) ∧ (x1 = 15 → vp_in ((311 + x1) - 14) 5929 ∧ (Q (some (.int (I 158 ((((311 + x1) - 14)).toNatClampNeg)))) (t, T, I, L, P))) ∧ (x1 = 16 → vp_in ((311 + x1) - 14) 5929 ∧ (Q (some (.int (I 158 ((((311 + x1) - 14)).toNatClampNeg)))) (t, T, I, L, P))) ∧ (x1 = 17 → vp_in ((311 + x1) - 14) 5929 ∧ (Q (some (.int (I 158 ((((311 + x1) - 14)).toNatClampNeg)))) (t, T, I, L, P))) ∧ (x1 = 18 → vp_in ((311 + x1) - 14) 5929 ∧ (Q (some (.int (I 158 ((((311 + x1) - 14)).toNatClampNeg)))) (t, T, I, L, P))) ∧ (x1.toInt < 0 ∨ 18 < x1.toInt → Q (some (.int (-1))) (t, T, I, L, P))) : hf_G X Y_X12_count (d + 1) k n 0 (hf_en [.ref 156, .int x1] 2) [] (t, T, I, L, P) Q := by
  show hf_G X Y_X12_count (d + 1) k n 0 [some (.ref 156), some (.int x1)] [] (t, T, I, L, P) Q
  refine hf_iload_n dX12_count_0 rfl rfl ?_
  rcases hf_swc x1 0 18 with hq | ⟨j, hj, hq⟩
  · refine hf_tableOut (tgt := 199) dX12_count_1 (by omega) (by decide) ?_
    replace h := h.2.2.2.2.2.2.2.2.2.2.2.2.2.2.2.2.2.2.2 (by omega)
    refine hf_iconst (v := (-1)) dX12_count_199 (by decide) ?_
    refine hf_ireturn dX12_count_200 rfl rfl ?_
    exact h
  · match j, hj with
    | 0, _ =>
      have hx : x1 = 0 := hf_swi hq (by decide)
      refine hf_tableIn (off := 91) (tgt := 92) dX12_count_1 (by rw [hx]; decide) (by rw [hx]; decide) (by rw [hx]; rfl) (by decide) ?_
      replace h := h.1 hx
      refine hf_aload_n dX12_count_92 rfl rfl ?_
      refine hf_getr (b := 158) (c := 12) (j := 2) dX12_count_93 (hs.2.1 156 _ rfl) (hf_lin hs 156 rfl) (by decide) (by decide) hw1038 rfl (hs.2.2 156 2 _ rfl) ?_
      refine hf_sipush (v := 316) dX12_count_96 (by decide) ?_
      refine hf_iald_k (j := 316) (by decide) dX12_count_99 (hs.2.1 158 _ rfl) (hf_lin hs 158 rfl) (hf_vin (by decide)) ?_
      refine hf_ireturn dX12_count_100 rfl rfl ?_
      exact h
    | 1, _ =>
      have hx : x1 = 1 := hf_swi hq (by decide)
      refine hf_tableIn (off := 100) (tgt := 101) dX12_count_1 (by rw [hx]; decide) (by rw [hx]; decide) (by rw [hx]; rfl) (by decide) ?_
      replace h := h.2.1 hx
      refine hf_aload_n dX12_count_101 rfl rfl ?_
      refine hf_callV (c := 12) (as := []) ok_X12_said dX12_count_102 hw1423 hw1424 hw1656 (hs.2.1 156 _ rfl) (by decide) (hf_lin hs 156 rfl) rfl (Nat.le_of_ble_eq_true rfl) rfl (Nat.le_of_ble_eq_true rfl) (Nat.zero_le _) (Nat.zero_le _) ?_
      show hf_G X Y_X12_said d _ _ 0 [some (.ref 156)] [] (t, T, I, L, P) _
      refine hf_aload_n dX12_said_0 rfl rfl ?_
      refine hf_getr (b := 158) (c := 12) (j := 2) dX12_said_1 (hs.2.1 156 _ rfl) (hf_lin hs 156 rfl) (by decide) (by decide) hw1038 rfl (hs.2.2 156 2 _ rfl) ?_
      refine hf_sipush (v := 317) dX12_said_4 (by decide) ?_
      refine hf_iald_k (j := 317) (by decide) dX12_said_7 (hs.2.1 158 _ rfl) (hf_lin hs 158 rfl) (hf_vin (by decide)) ?_
      refine hf_ireturn dX12_said_8 rfl rfl ?_
      show hf_G X Y_X12_count (d + 1) _ _ 105 [some (.ref 156), some (.int x1)] [.int (I 158 317)] (t, T, I, L, P) _
      refine hf_ireturn dX12_count_105 rfl rfl ?_
      exact h
    | 2, _ =>
      have hx : x1 = 2 := hf_swi hq (by decide)
      refine hf_tableIn (off := 105) (tgt := 106) dX12_count_1 (by rw [hx]; decide) (by rw [hx]; decide) (by rw [hx]; rfl) (by decide) ?_
      replace h := h.2.2.1 hx
      refine hf_aload_n dX12_count_106 rfl rfl ?_
      refine hf_getr (b := 158) (c := 12) (j := 2) dX12_count_107 (hs.2.1 156 _ rfl) (hf_lin hs 156 rfl) (by decide) (by decide) hw1038 rfl (hs.2.2 156 2 _ rfl) ?_
      refine hf_bipush (v := 24) dX12_count_110 (by decide) ?_
      refine hf_iald_k (j := 24) (by decide) dX12_count_112 (hs.2.1 158 _ rfl) (hf_lin hs 158 rfl) (hf_vin (by decide)) ?_
      refine hf_ireturn dX12_count_113 rfl rfl ?_
      exact h
    | 3, _ =>
      have hx : x1 = 3 := hf_swi hq (by decide)
      refine hf_tableIn (off := 113) (tgt := 114) dX12_count_1 (by rw [hx]; decide) (by rw [hx]; decide) (by rw [hx]; rfl) (by decide) ?_
      replace h := h.2.2.2.1 hx
      refine hf_aload_n dX12_count_114 rfl rfl ?_
      refine hf_getr (b := 158) (c := 12) (j := 2) dX12_count_115 (hs.2.1 156 _ rfl) (hf_lin hs 156 rfl) (by decide) (by decide) hw1038 rfl (hs.2.2 156 2 _ rfl) ?_
      refine hf_sipush (v := 318) dX12_count_118 (by decide) ?_
      refine hf_iald_k (j := 318) (by decide) dX12_count_121 (hs.2.1 158 _ rfl) (hf_lin hs 158 rfl) (hf_vin (by decide)) ?_
      refine hf_ireturn dX12_count_122 rfl rfl ?_
      exact h
    | 4, _ =>
      have hx : x1 = 4 := hf_swi hq (by decide)
      refine hf_tableIn (off := 122) (tgt := 123) dX12_count_1 (by rw [hx]; decide) (by rw [hx]; decide) (by rw [hx]; rfl) (by decide) ?_
      replace h := h.2.2.2.2.1 hx
      refine hf_aload_n dX12_count_123 rfl rfl ?_
      refine hf_getr (b := 158) (c := 12) (j := 2) dX12_count_124 (hs.2.1 156 _ rfl) (hf_lin hs 156 rfl) (by decide) (by decide) hw1038 rfl (hs.2.2 156 2 _ rfl) ?_
      refine hf_sipush (v := 319) dX12_count_127 (by decide) ?_
      refine hf_iald_k (j := 319) (by decide) dX12_count_130 (hs.2.1 158 _ rfl) (hf_lin hs 158 rfl) (hf_vin (by decide)) ?_
      refine hf_ireturn dX12_count_131 rfl rfl ?_
      exact h
    | 5, _ =>
      have hx : x1 = 5 := hf_swi hq (by decide)
      refine hf_tableIn (off := 131) (tgt := 132) dX12_count_1 (by rw [hx]; decide) (by rw [hx]; decide) (by rw [hx]; rfl) (by decide) ?_
      replace h := h.2.2.2.2.2.1 hx
      refine hf_aload_n dX12_count_132 rfl rfl ?_
      refine hf_getr (b := 158) (c := 12) (j := 2) dX12_count_133 (hs.2.1 156 _ rfl) (hf_lin hs 156 rfl) (by decide) (by decide) hw1038 rfl (hs.2.2 156 2 _ rfl) ?_
      refine hf_sipush (v := 320) dX12_count_136 (by decide) ?_
      refine hf_iald_k (j := 320) (by decide) dX12_count_139 (hs.2.1 158 _ rfl) (hf_lin hs 158 rfl) (hf_vin (by decide)) ?_
      refine hf_ireturn dX12_count_140 rfl rfl ?_
      exact h
    | 6, _ =>
      have hx : x1 = 6 := hf_swi hq (by decide)
      refine hf_tableIn (off := 140) (tgt := 141) dX12_count_1 (by rw [hx]; decide) (by rw [hx]; decide) (by rw [hx]; rfl) (by decide) ?_
      replace h := h.2.2.2.2.2.2.1 hx
      refine hf_aload_n dX12_count_141 rfl rfl ?_
      refine hf_geti (c := 12) (j := 27) dX12_count_142 (hs.2.1 156 _ rfl) (hf_lin hs 156 rfl) (by decide) (by decide) hw1063 (Or.inl rfl) ?_
      refine hf_ireturn dX12_count_145 rfl rfl ?_
      exact h
    | 7, _ =>
      have hx : x1 = 7 := hf_swi hq (by decide)
      refine hf_tableIn (off := 145) (tgt := 146) dX12_count_1 (by rw [hx]; decide) (by rw [hx]; decide) (by rw [hx]; rfl) (by decide) ?_
      replace h := h.2.2.2.2.2.2.2.1 hx
      refine hf_aload_n dX12_count_146 rfl rfl ?_
      refine hf_geti (c := 12) (j := 10) dX12_count_147 (hs.2.1 156 _ rfl) (hf_lin hs 156 rfl) (by decide) (by decide) hw1046 (Or.inl rfl) ?_
      refine hf_ireturn dX12_count_150 rfl rfl ?_
      exact h
    | 8, _ =>
      have hx : x1 = 8 := hf_swi hq (by decide)
      refine hf_tableIn (off := 150) (tgt := 151) dX12_count_1 (by rw [hx]; decide) (by rw [hx]; decide) (by rw [hx]; rfl) (by decide) ?_
      replace h := h.2.2.2.2.2.2.2.2.1 hx
      refine hf_aload_n dX12_count_151 rfl rfl ?_
      refine hf_getr (b := 157) (c := 12) (j := 1) dX12_count_152 (hs.2.1 156 _ rfl) (hf_lin hs 156 rfl) (by decide) (by decide) hw1037 rfl (hs.2.2 156 1 _ rfl) ?_
      refine hf_iload_n dX12_count_155 rfl rfl ?_
      refine hf_bipush (v := 7) dX12_count_156 (by decide) ?_
      refine hf_isub dX12_count_158 ?_
      refine hf_iald dX12_count_159 (hs.2.1 157 _ rfl) (hf_lin hs 157 rfl) h.1 ?_
      replace h := h.2
      refine hf_ireturn dX12_count_160 rfl rfl ?_
      exact h
    | 9, _ =>
      have hx : x1 = 9 := hf_swi hq (by decide)
      refine hf_tableIn (off := 150) (tgt := 151) dX12_count_1 (by rw [hx]; decide) (by rw [hx]; decide) (by rw [hx]; rfl) (by decide) ?_
      replace h := h.2.2.2.2.2.2.2.2.2.1 hx
      refine hf_aload_n dX12_count_151 rfl rfl ?_
      refine hf_getr (b := 157) (c := 12) (j := 1) dX12_count_152 (hs.2.1 156 _ rfl) (hf_lin hs 156 rfl) (by decide) (by decide) hw1037 rfl (hs.2.2 156 1 _ rfl) ?_
      refine hf_iload_n dX12_count_155 rfl rfl ?_
      refine hf_bipush (v := 7) dX12_count_156 (by decide) ?_
      refine hf_isub dX12_count_158 ?_
      refine hf_iald dX12_count_159 (hs.2.1 157 _ rfl) (hf_lin hs 157 rfl) h.1 ?_
      replace h := h.2
      refine hf_ireturn dX12_count_160 rfl rfl ?_
      exact h
    | 10, _ =>
      have hx : x1 = 10 := hf_swi hq (by decide)
      refine hf_tableIn (off := 150) (tgt := 151) dX12_count_1 (by rw [hx]; decide) (by rw [hx]; decide) (by rw [hx]; rfl) (by decide) ?_
      replace h := h.2.2.2.2.2.2.2.2.2.2.1 hx
      refine hf_aload_n dX12_count_151 rfl rfl ?_
      refine hf_getr (b := 157) (c := 12) (j := 1) dX12_count_152 (hs.2.1 156 _ rfl) (hf_lin hs 156 rfl) (by decide) (by decide) hw1037 rfl (hs.2.2 156 1 _ rfl) ?_
      refine hf_iload_n dX12_count_155 rfl rfl ?_
      refine hf_bipush (v := 7) dX12_count_156 (by decide) ?_
      refine hf_isub dX12_count_158 ?_
      refine hf_iald dX12_count_159 (hs.2.1 157 _ rfl) (hf_lin hs 157 rfl) h.1 ?_
      replace h := h.2
      refine hf_ireturn dX12_count_160 rfl rfl ?_
      exact h
    | 11, _ =>
      have hx : x1 = 11 := hf_swi hq (by decide)
      refine hf_tableIn (off := 160) (tgt := 161) dX12_count_1 (by rw [hx]; decide) (by rw [hx]; decide) (by rw [hx]; rfl) (by decide) ?_
      replace h := h.2.2.2.2.2.2.2.2.2.2.2.1 hx
      refine hf_aload_n dX12_count_161 rfl rfl ?_
      refine hf_getr (b := 157) (c := 12) (j := 1) dX12_count_162 (hs.2.1 156 _ rfl) (hf_lin hs 156 rfl) (by decide) (by decide) hw1037 rfl (hs.2.2 156 1 _ rfl) ?_
      refine hf_iconst (v := 5) dX12_count_165 (by decide) ?_
      refine hf_iald_k (j := 5) (by decide) dX12_count_166 (hs.2.1 157 _ rfl) (hf_lin hs 157 rfl) (hf_vin (by decide)) ?_
      refine hf_ireturn dX12_count_167 rfl rfl ?_
      exact h
    | 12, _ =>
      have hx : x1 = 12 := hf_swi hq (by decide)
      refine hf_tableIn (off := 167) (tgt := 168) dX12_count_1 (by rw [hx]; decide) (by rw [hx]; decide) (by rw [hx]; rfl) (by decide) ?_
      replace h := h.2.2.2.2.2.2.2.2.2.2.2.2.1 hx
      refine hf_aload_n dX12_count_168 rfl rfl ?_
      refine hf_getr (b := 157) (c := 12) (j := 1) dX12_count_169 (hs.2.1 156 _ rfl) (hf_lin hs 156 rfl) (by decide) (by decide) hw1037 rfl (hs.2.2 156 1 _ rfl) ?_
      refine hf_bipush (v := 6) dX12_count_172 (by decide) ?_
      refine hf_iald_k (j := 6) (by decide) dX12_count_174 (hs.2.1 157 _ rfl) (hf_lin hs 157 rfl) (hf_vin (by decide)) ?_
      refine hf_ireturn dX12_count_175 rfl rfl ?_
      exact h
    | 13, _ =>
      have hx : x1 = 13 := hf_swi hq (by decide)
      refine hf_tableIn (off := 175) (tgt := 176) dX12_count_1 (by rw [hx]; decide) (by rw [hx]; decide) (by rw [hx]; rfl) (by decide) ?_
      replace h := h.2.2.2.2.2.2.2.2.2.2.2.2.2.1 hx
      refine hf_aload_n dX12_count_176 rfl rfl ?_
      refine hf_getr (b := 158) (c := 12) (j := 2) dX12_count_177 (hs.2.1 156 _ rfl) (hf_lin hs 156 rfl) (by decide) (by decide) hw1038 rfl (hs.2.2 156 2 _ rfl) ?_
      refine hf_sipush (v := 321) dX12_count_180 (by decide) ?_
      refine hf_iald_k (j := 321) (by decide) dX12_count_183 (hs.2.1 158 _ rfl) (hf_lin hs 158 rfl) (hf_vin (by decide)) ?_
      refine hf_ireturn dX12_count_184 rfl rfl ?_
      exact h
    | 14, _ =>
      have hx : x1 = 14 := hf_swi hq (by decide)
      refine hf_tableIn (off := 184) (tgt := 185) dX12_count_1 (by rw [hx]; decide) (by rw [hx]; decide) (by rw [hx]; rfl) (by decide) ?_
      replace h := h.2.2.2.2.2.2.2.2.2.2.2.2.2.2.1 hx
      refine hf_aload_n dX12_count_185 rfl rfl ?_
      refine hf_getr (b := 158) (c := 12) (j := 2) dX12_count_186 (hs.2.1 156 _ rfl) (hf_lin hs 156 rfl) (by decide) (by decide) hw1038 rfl (hs.2.2 156 2 _ rfl) ?_
      refine hf_sipush (v := 311) dX12_count_189 (by decide) ?_
      refine hf_iload_n dX12_count_192 rfl rfl ?_
      refine hf_iadd dX12_count_193 ?_
      refine hf_bipush (v := 14) dX12_count_194 (by decide) ?_
      refine hf_isub dX12_count_196 ?_
      refine hf_iald dX12_count_197 (hs.2.1 158 _ rfl) (hf_lin hs 158 rfl) h.1 ?_
      replace h := h.2
      refine hf_ireturn dX12_count_198 rfl rfl ?_
      exact h
    | 15, _ =>
      have hx : x1 = 15 := hf_swi hq (by decide)
      refine hf_tableIn (off := 184) (tgt := 185) dX12_count_1 (by rw [hx]; decide) (by rw [hx]; decide) (by rw [hx]; rfl) (by decide) ?_
      replace h := h.2.2.2.2.2.2.2.2.2.2.2.2.2.2.2.1 hx
      refine hf_aload_n dX12_count_185 rfl rfl ?_
      refine hf_getr (b := 158) (c := 12) (j := 2) dX12_count_186 (hs.2.1 156 _ rfl) (hf_lin hs 156 rfl) (by decide) (by decide) hw1038 rfl (hs.2.2 156 2 _ rfl) ?_
      refine hf_sipush (v := 311) dX12_count_189 (by decide) ?_
      refine hf_iload_n dX12_count_192 rfl rfl ?_
      refine hf_iadd dX12_count_193 ?_
      refine hf_bipush (v := 14) dX12_count_194 (by decide) ?_
      refine hf_isub dX12_count_196 ?_
      refine hf_iald dX12_count_197 (hs.2.1 158 _ rfl) (hf_lin hs 158 rfl) h.1 ?_
      replace h := h.2
      refine hf_ireturn dX12_count_198 rfl rfl ?_
      exact h
    | 16, _ =>
      have hx : x1 = 16 := hf_swi hq (by decide)
      refine hf_tableIn (off := 184) (tgt := 185) dX12_count_1 (by rw [hx]; decide) (by rw [hx]; decide) (by rw [hx]; rfl) (by decide) ?_
      replace h := h.2.2.2.2.2.2.2.2.2.2.2.2.2.2.2.2.1 hx
      refine hf_aload_n dX12_count_185 rfl rfl ?_
      refine hf_getr (b := 158) (c := 12) (j := 2) dX12_count_186 (hs.2.1 156 _ rfl) (hf_lin hs 156 rfl) (by decide) (by decide) hw1038 rfl (hs.2.2 156 2 _ rfl) ?_
      refine hf_sipush (v := 311) dX12_count_189 (by decide) ?_
      refine hf_iload_n dX12_count_192 rfl rfl ?_
      refine hf_iadd dX12_count_193 ?_
      refine hf_bipush (v := 14) dX12_count_194 (by decide) ?_
      refine hf_isub dX12_count_196 ?_
      refine hf_iald dX12_count_197 (hs.2.1 158 _ rfl) (hf_lin hs 158 rfl) h.1 ?_
      replace h := h.2
      refine hf_ireturn dX12_count_198 rfl rfl ?_
      exact h
    | 17, _ =>
      have hx : x1 = 17 := hf_swi hq (by decide)
      refine hf_tableIn (off := 184) (tgt := 185) dX12_count_1 (by rw [hx]; decide) (by rw [hx]; decide) (by rw [hx]; rfl) (by decide) ?_
      replace h := h.2.2.2.2.2.2.2.2.2.2.2.2.2.2.2.2.2.1 hx
      refine hf_aload_n dX12_count_185 rfl rfl ?_
      refine hf_getr (b := 158) (c := 12) (j := 2) dX12_count_186 (hs.2.1 156 _ rfl) (hf_lin hs 156 rfl) (by decide) (by decide) hw1038 rfl (hs.2.2 156 2 _ rfl) ?_
      refine hf_sipush (v := 311) dX12_count_189 (by decide) ?_
      refine hf_iload_n dX12_count_192 rfl rfl ?_
      refine hf_iadd dX12_count_193 ?_
      refine hf_bipush (v := 14) dX12_count_194 (by decide) ?_
      refine hf_isub dX12_count_196 ?_
      refine hf_iald dX12_count_197 (hs.2.1 158 _ rfl) (hf_lin hs 158 rfl) h.1 ?_
      replace h := h.2
      refine hf_ireturn dX12_count_198 rfl rfl ?_
      exact h
    | 18, _ =>
      have hx : x1 = 18 := hf_swi hq (by decide)
      refine hf_tableIn (off := 184) (tgt := 185) dX12_count_1 (by rw [hx]; decide) (by rw [hx]; decide) (by rw [hx]; rfl) (by decide) ?_
      replace h := h.2.2.2.2.2.2.2.2.2.2.2.2.2.2.2.2.2.2.1 hx
      refine hf_aload_n dX12_count_185 rfl rfl ?_
      refine hf_getr (b := 158) (c := 12) (j := 2) dX12_count_186 (hs.2.1 156 _ rfl) (hf_lin hs 156 rfl) (by decide) (by decide) hw1038 rfl (hs.2.2 156 2 _ rfl) ?_
      refine hf_sipush (v := 311) dX12_count_189 (by decide) ?_
      refine hf_iload_n dX12_count_192 rfl rfl ?_
      refine hf_iadd dX12_count_193 ?_
      refine hf_bipush (v := 14) dX12_count_194 (by decide) ?_
      refine hf_isub dX12_count_196 ?_
      refine hf_iald dX12_count_197 (hs.2.1 158 _ rfl) (hf_lin hs 158 rfl) h.1 ?_
      replace h := h.2
      refine hf_ireturn dX12_count_198 rfl rfl ?_
      exact h
    | j + 19, hj => exact absurd hj (by omega)

set_option maxHeartbeats 4000000 in
theorem w_X12_status_0 {X : hf_X} {d k n t : Nat} {T : hf_T} {I : hf_I} {L : hf_L} {P : hf_P} {Q : Option Value → hf_M → Prop}  (hs : hf_Lay t T P) (h : Q (some (.int (I 156 0))) (t, T, I, L, P)) : hf_G X Y_X12_status d k n 0 (hf_en [.ref 156] 1) [] (t, T, I, L, P) Q := by
  show hf_G X Y_X12_status d k n 0 [some (.ref 156)] [] (t, T, I, L, P) Q
  refine hf_aload_n dX12_status_0 rfl rfl ?_
  refine hf_geti (c := 12) (j := 0) dX12_status_1 (hs.2.1 156 _ rfl) (hf_lin hs 156 rfl) (by decide) (by decide) hw1036 (Or.inl rfl) ?_
  refine hf_ireturn dX12_status_4 rfl rfl ?_
  exact h
