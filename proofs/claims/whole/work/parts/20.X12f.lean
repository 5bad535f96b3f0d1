set_option maxHeartbeats 4000000 in
theorem w_X12_head_0 {X : hf_X} {d k n t : Nat} {T : hf_T} {I : hf_I} {L : hf_L} {P : hf_P} {Q : Option Value → hf_M → Prop} {x1 : Int32} {x2 : Int32} (hs : hf_Lay t T P) (h : (x1 < 0 → Q (some (.int (-1))) (t, T, I, L, P)) ∧ (¬ (x1 < 0) → (((I 158 24) - 1) < x1 → Q (some (.int (-1))) (t, T, I, L, P)) ∧ (¬ (((I 158 24) - 1) < x1) → (x2 < 0 → Q (some (.int (-1))) (t, T, I, L, P)) ∧ (¬ (x2 < 0) → (1 < x2 → Q (some (.int (-1))) (t, T, I, L, P)) ∧ (¬ (1 < x2) → vp_in ((0 + (12 * x2)) + x1) 5929 ∧ (Q (some (.int (I 158 ((((0 + (12 * x2)) + x1)).toNatClampNeg)))) (t, T, I, L, P))))))) : hf_G X Y_X12_head (d + 1) k n 0 (hf_en [.ref 156, .int x1, .int x2] 3) [] (t, T, I, L, P) Q := by
  show hf_G X Y_X12_head (d + 1) k n 0 [some (.ref 156), some (.int x1), some (.int x2)] [] (t, T, I, L, P) Q
  refine hf_iload_n dX12_head_0 rfl rfl ?_
  refine hf_iconst (v := 0) dX12_head_1 (by decide) ?_
  refine hf_aload_n dX12_head_2 rfl rfl ?_
  refine hf_getr (b := 158) (c := 12) (j := 2) dX12_head_3 (hs.2.1 156 _ rfl) (hf_lin hs 156 rfl) (by decide) (by decide) hw1038 rfl (hs.2.2 156 2 _ rfl) ?_
  refine hf_bipush (v := 24) dX12_head_6 (by decide) ?_
  refine hf_iald_k (j := 24) (by decide) dX12_head_8 (hs.2.1 158 _ rfl) (hf_lin hs 158 rfl) (hf_vin (by decide)) ?_
  refine hf_iconst (v := 1) dX12_head_9 (by decide) ?_
  refine hf_isub dX12_head_10 ?_
  refine hf_callS (as := [.int x1, .int 0, .int ((I 158 24) - 1)]) ok_X12_lies dX12_head_11 hw1143 hw1144 rfl (Nat.le_of_ble_eq_true rfl) rfl (Nat.le_of_ble_eq_true rfl) (Nat.zero_le _) (Nat.zero_le _) ?_
  show hf_G X Y_X12_lies d _ _ 0 [some (.int x1), some (.int 0), some (.int ((I 158 24) - 1))] [] (t, T, I, L, P) _
  refine hf_iload_n dX12_lies_0 rfl rfl ?_
  refine hf_iload_n dX12_lies_1 rfl rfl ?_
  refine hf_icmp_lt (tgt := 14) dX12_lies_2 (by decide) (fun hc => ?_) (fun hc => ?_)
  · replace h := h.1 hc
    refine hf_iconst (v := 0) dX12_lies_14 (by decide) ?_
    refine hf_ireturn dX12_lies_15 rfl (by decide) ?_
    show hf_G X Y_X12_head (d + 1) _ _ 14 [some (.ref 156), some (.int x1), some (.int x2)] [.int 0] (t, T, I, L, P) _
    refine hf_if_eq (tgt := 26) dX12_head_14 (by decide) (fun _ => ?_) (fun hc => absurd (show (0 : Int32) = (0 : Int32) by decide) hc)
    refine hf_iconst (v := (-1)) dX12_head_26 (by decide) ?_
    refine hf_goto (tgt := 43) dX12_head_27 (by decide) ?_
    refine hf_ireturn dX12_head_43 rfl rfl ?_
    exact h
  · replace h := h.2 hc
    refine hf_iload_n dX12_lies_5 rfl rfl ?_
    refine hf_iload_n dX12_lies_6 rfl rfl ?_
    refine hf_icmp_gt (tgt := 14) dX12_lies_7 (by decide) (fun hc => ?_) (fun hc => ?_)
    · replace h := h.1 hc
      refine hf_iconst (v := 0) dX12_lies_14 (by decide) ?_
      refine hf_ireturn dX12_lies_15 rfl (by decide) ?_
      show hf_G X Y_X12_head (d + 1) _ _ 14 [some (.ref 156), some (.int x1), some (.int x2)] [.int 0] (t, T, I, L, P) _
      refine hf_if_eq (tgt := 26) dX12_head_14 (by decide) (fun _ => ?_) (fun hc => absurd (show (0 : Int32) = (0 : Int32) by decide) hc)
      refine hf_iconst (v := (-1)) dX12_head_26 (by decide) ?_
      refine hf_goto (tgt := 43) dX12_head_27 (by decide) ?_
      refine hf_ireturn dX12_head_43 rfl rfl ?_
      exact h
    · replace h := h.2 hc
      refine hf_iconst (v := 1) dX12_lies_10 (by decide) ?_
      refine hf_goto (tgt := 15) dX12_lies_11 (by decide) ?_
      refine hf_ireturn dX12_lies_15 rfl (by decide) ?_
      show hf_G X Y_X12_head (d + 1) _ _ 14 [some (.ref 156), some (.int x1), some (.int x2)] [.int 1] (t, T, I, L, P) _
      refine hf_if_eq (tgt := 26) dX12_head_14 (by decide) (fun hc => absurd (show (1 : Int32) = (0 : Int32) from hc) (by decide)) (fun _ => ?_)
      refine hf_iload_n dX12_head_17 rfl rfl ?_
      refine hf_iconst (v := 0) dX12_head_18 (by decide) ?_
      refine hf_iconst (v := 1) dX12_head_19 (by decide) ?_
      refine hf_callS (as := [.int x2, .int 0, .int 1]) ok_X12_lies dX12_head_20 hw1143 hw1144 rfl (Nat.le_of_ble_eq_true rfl) rfl (Nat.le_of_ble_eq_true rfl) (Nat.zero_le _) (Nat.zero_le _) ?_
      show hf_G X Y_X12_lies d _ _ 0 [some (.int x2), some (.int 0), some (.int 1)] [] (t, T, I, L, P) _
      refine hf_iload_n dX12_lies_0 rfl rfl ?_
      refine hf_iload_n dX12_lies_1 rfl rfl ?_
      refine hf_icmp_lt (tgt := 14) dX12_lies_2 (by decide) (fun hc => ?_) (fun hc => ?_)
      · replace h := h.1 hc
        refine hf_iconst (v := 0) dX12_lies_14 (by decide) ?_
        refine hf_ireturn dX12_lies_15 rfl (by decide) ?_
        show hf_G X Y_X12_head (d + 1) _ _ 23 [some (.ref 156), some (.int x1), some (.int x2)] [.int 0] (t, T, I, L, P) _
        refine hf_if_ne (tgt := 30) dX12_head_23 (by decide) (fun hc => absurd (show ¬ (0 : Int32) = (0 : Int32) from hc) (by decide)) (fun _ => ?_)
        refine hf_iconst (v := (-1)) dX12_head_26 (by decide) ?_
        refine hf_goto (tgt := 43) dX12_head_27 (by decide) ?_
        refine hf_ireturn dX12_head_43 rfl rfl ?_
        exact h
      · replace h := h.2 hc
        refine hf_iload_n dX12_lies_5 rfl rfl ?_
        refine hf_iload_n dX12_lies_6 rfl rfl ?_
        refine hf_icmp_gt (tgt := 14) dX12_lies_7 (by decide) (fun hc => ?_) (fun hc => ?_)
        · replace h := h.1 hc
          refine hf_iconst (v := 0) dX12_lies_14 (by decide) ?_
          refine hf_ireturn dX12_lies_15 rfl (by decide) ?_
          show hf_G X Y_X12_head (d + 1) _ _ 23 [some (.ref 156), some (.int x1), some (.int x2)] [.int 0] (t, T, I, L, P) _
          refine hf_if_ne (tgt := 30) dX12_head_23 (by decide) (fun hc => absurd (show ¬ (0 : Int32) = (0 : Int32) from hc) (by decide)) (fun _ => ?_)
          refine hf_iconst (v := (-1)) dX12_head_26 (by decide) ?_
          refine hf_goto (tgt := 43) dX12_head_27 (by decide) ?_
          refine hf_ireturn dX12_head_43 rfl rfl ?_
          exact h
        · replace h := h.2 hc
          refine hf_iconst (v := 1) dX12_lies_10 (by decide) ?_
          refine hf_goto (tgt := 15) dX12_lies_11 (by decide) ?_
          refine hf_ireturn dX12_lies_15 rfl (by decide) ?_
          show hf_G X Y_X12_head (d + 1) _ _ 23 [some (.ref 156), some (.int x1), some (.int x2)] [.int 1] (t, T, I, L, P) _
          refine hf_if_ne (tgt := 30) dX12_head_23 (by decide) (fun _ => ?_) (fun hc => absurd (show (1 : Int32) = (0 : Int32) from hc) (by decide))
          refine hf_aload_n dX12_head_30 rfl rfl ?_
          refine hf_getr (b := 158) (c := 12) (j := 2) dX12_head_31 (hs.2.1 156 _ rfl) (hf_lin hs 156 rfl) (by decide) (by decide) hw1038 rfl (hs.2.2 156 2 _ rfl) ?_
          refine hf_iconst (v := 0) dX12_head_34 (by decide) ?_
          refine hf_bipush (v := 12) dX12_head_35 (by decide) ?_
          refine hf_iload_n dX12_head_37 rfl rfl ?_
          refine hf_imul dX12_head_38 ?_
          refine hf_iadd dX12_head_39 ?_
          refine hf_iload_n dX12_head_40 rfl rfl ?_
          refine hf_iadd dX12_head_41 ?_
          refine hf_iald dX12_head_42 (hs.2.1 158 _ rfl) (hf_lin hs 158 rfl) h.1 ?_
          replace h := h.2
          refine hf_ireturn dX12_head_43 rfl rfl ?_
          exact h

set_option maxHeartbeats 4000000 in
theorem w_X12_line_0 {X : hf_X} {d k n t : Nat} {T : hf_T} {I : hf_I} {L : hf_L} {P : hf_P} {Q : Option Value → hf_M → Prop} {x1 : Int32} {x2 : Int32} (hs : hf_Lay t T P) (h : (x1 < 0 → Q (some (.int (-1))) (t, T, I, L, P)) ∧ (¬ (x1 < 0) → (3 < x1 → Q (some (.int (-1))) (t, T, I, L, P)) ∧ (¬ (3 < x1) → (x2 = 0 → hf_G X Y_X12_broadIn d 0 0 0 (hf_en [.ref 156, .int x1] 5) [] (t, T, I, L, P) (fun r M => hf_G X Y_X12_line (d + 1) k n 53 [none, none, none] (r.toList ++ []) M Q)) ∧ (x2 = 1 → hf_G X Y_X12_manyIn d 0 0 0 (hf_en [.ref 156, .int x1] 4) [] (t, T, I, L, P) (fun r M => hf_G X Y_X12_line (d + 1) k n 59 [none, none, none] (r.toList ++ []) M Q)) ∧ (x2 = 2 → hf_G X Y_X12_costIn d 0 0 0 (hf_en [.ref 156, .int x1] 2) [] (t, T, I, L, P) (fun r M => hf_G X Y_X12_line (d + 1) k n 65 [none, none, none] (r.toList ++ []) M Q)) ∧ (x2 = 3 → hf_G X Y_X12_alikeIn d 0 0 0 (hf_en [.ref 156, .int x1] 2) [] (t, T, I, L, P) (fun r M => hf_G X Y_X12_line (d + 1) k n 71 [none, none, none] (r.toList ++ []) M Q)) ∧ (x2 = 4 → hf_G X Y_X12_echoIn d 0 0 0 (hf_en [.ref 156, .int x1] 4) [] (t, T, I, L, P) (fun r M => hf_G X Y_X12_line (d + 1) k n 77 [none, none, none] (r.toList ++ []) M Q)) ∧ (x2.toInt < 0 ∨ 4 < x2.toInt → Q (some (.int (-1))) (t, T, I, L, P))))) : hf_G X Y_X12_line (d + 1) k n 0 (hf_en [.ref 156, .int x1, .int x2] 3) [] (t, T, I, L, P) Q := by
  show hf_G X Y_X12_line (d + 1) k n 0 [some (.ref 156), some (.int x1), some (.int x2)] [] (t, T, I, L, P) Q
  refine hf_iload_n dX12_line_0 rfl rfl ?_
  refine hf_iconst (v := 0) dX12_line_1 (by decide) ?_
  refine hf_iconst (v := 3) dX12_line_2 (by decide) ?_
  refine hf_callS (as := [.int x1, .int 0, .int 3]) ok_X12_lies dX12_line_3 hw1143 hw1144 rfl (Nat.le_of_ble_eq_true rfl) rfl (Nat.le_of_ble_eq_true rfl) (Nat.zero_le _) (Nat.zero_le _) ?_
  show hf_G X Y_X12_lies d _ _ 0 [some (.int x1), some (.int 0), some (.int 3)] [] (t, T, I, L, P) _
  refine hf_iload_n dX12_lies_0 rfl rfl ?_
  refine hf_iload_n dX12_lies_1 rfl rfl ?_
  refine hf_icmp_lt (tgt := 14) dX12_lies_2 (by decide) (fun hc => ?_) (fun hc => ?_)
  · replace h := h.1 hc
    refine hf_iconst (v := 0) dX12_lies_14 (by decide) ?_
    refine hf_ireturn dX12_lies_15 rfl (by decide) ?_
    show hf_G X Y_X12_line (d + 1) _ _ 6 [some (.ref 156), some (.int x1), some (.int x2)] [.int 0] (t, T, I, L, P) _
    refine hf_if_ne (tgt := 11) dX12_line_6 (by decide) (fun hc => absurd (show ¬ (0 : Int32) = (0 : Int32) from hc) (by decide)) (fun _ => ?_)
    refine hf_iconst (v := (-1)) dX12_line_9 (by decide) ?_
    refine hf_ireturn dX12_line_10 rfl rfl ?_
    exact h
  · replace h := h.2 hc
    refine hf_iload_n dX12_lies_5 rfl rfl ?_
    refine hf_iload_n dX12_lies_6 rfl rfl ?_
    refine hf_icmp_gt (tgt := 14) dX12_lies_7 (by decide) (fun hc => ?_) (fun hc => ?_)
    · replace h := h.1 hc
      refine hf_iconst (v := 0) dX12_lies_14 (by decide) ?_
      refine hf_ireturn dX12_lies_15 rfl (by decide) ?_
      show hf_G X Y_X12_line (d + 1) _ _ 6 [some (.ref 156), some (.int x1), some (.int x2)] [.int 0] (t, T, I, L, P) _
      refine hf_if_ne (tgt := 11) dX12_line_6 (by decide) (fun hc => absurd (show ¬ (0 : Int32) = (0 : Int32) from hc) (by decide)) (fun _ => ?_)
      refine hf_iconst (v := (-1)) dX12_line_9 (by decide) ?_
      refine hf_ireturn dX12_line_10 rfl rfl ?_
      exact h
    · replace h := h.2 hc
      refine hf_iconst (v := 1) dX12_lies_10 (by decide) ?_
      refine hf_goto (tgt := 15) dX12_lies_11 (by decide) ?_
      refine hf_ireturn dX12_lies_15 rfl (by decide) ?_
      show hf_G X Y_X12_line (d + 1) _ _ 6 [some (.ref 156), some (.int x1), some (.int x2)] [.int 1] (t, T, I, L, P) _
      refine hf_if_ne (tgt := 11) dX12_line_6 (by decide) (fun _ => ?_) (fun hc => absurd (show (1 : Int32) = (0 : Int32) from hc) (by decide))
      refine hf_iload_n dX12_line_11 rfl rfl ?_
      rcases hf_swc x2 0 4 with hq | ⟨j, hj, hq⟩
      · refine hf_tableOut (tgt := 78) dX12_line_12 (by omega) (by decide) ?_
        replace h := h.2.2.2.2.2 (by omega)
        refine hf_iconst (v := (-1)) dX12_line_78 (by decide) ?_
        refine hf_ireturn dX12_line_79 rfl rfl ?_
        exact h
      · match j, hj with
        | 0, _ =>
          have hx : x2 = 0 := hf_swi hq (by decide)
          refine hf_tableIn (off := 36) (tgt := 48) dX12_line_12 (by rw [hx]; decide) (by rw [hx]; decide) (by rw [hx]; rfl) (by decide) ?_
          replace h := h.1 hx
          refine hf_aload_n dX12_line_48 rfl rfl ?_
          refine hf_iload_n dX12_line_49 rfl rfl ?_
          exact hf_callV (c := 12) (as := [.int x1]) ok_X12_broadIn dX12_line_50 hw1235 hw1236 hw1619 (hs.2.1 156 _ rfl) (by decide) (hf_lin hs 156 rfl) rfl (Nat.le_of_ble_eq_true rfl) rfl (Nat.le_of_ble_eq_true rfl) (Nat.zero_le _) (Nat.zero_le _) (hf_mono (fun r M q => hf_drop (l' := [none, none, none]) (by simp [hf_sub]) q) h)
        | 1, _ =>
          have hx : x2 = 1 := hf_swi hq (by decide)
          refine hf_tableIn (off := 42) (tgt := 54) dX12_line_12 (by rw [hx]; decide) (by rw [hx]; decide) (by rw [hx]; rfl) (by decide) ?_
          replace h := h.2.1 hx
          refine hf_aload_n dX12_line_54 rfl rfl ?_
          refine hf_iload_n dX12_line_55 rfl rfl ?_
          exact hf_callV (c := 12) (as := [.int x1]) ok_X12_manyIn dX12_line_56 hw1366 hw1367 hw1646 (hs.2.1 156 _ rfl) (by decide) (hf_lin hs 156 rfl) rfl (Nat.le_of_ble_eq_true rfl) rfl (Nat.le_of_ble_eq_true rfl) (Nat.zero_le _) (Nat.zero_le _) (hf_mono (fun r M q => hf_drop (l' := [none, none, none]) (by simp [hf_sub]) q) h)
        | 2, _ =>
          have hx : x2 = 2 := hf_swi hq (by decide)
          refine hf_tableIn (off := 48) (tgt := 60) dX12_line_12 (by rw [hx]; decide) (by rw [hx]; decide) (by rw [hx]; rfl) (by decide) ?_
          replace h := h.2.2.1 hx
          refine hf_aload_n dX12_line_60 rfl rfl ?_
          refine hf_iload_n dX12_line_61 rfl rfl ?_
          exact hf_callV (c := 12) (as := [.int x1]) ok_X12_costIn dX12_line_62 hw1369 hw1370 hw1647 (hs.2.1 156 _ rfl) (by decide) (hf_lin hs 156 rfl) rfl (Nat.le_of_ble_eq_true rfl) rfl (Nat.le_of_ble_eq_true rfl) (Nat.zero_le _) (Nat.zero_le _) (hf_mono (fun r M q => hf_drop (l' := [none, none, none]) (by simp [hf_sub]) q) h)
        | 3, _ =>
          have hx : x2 = 3 := hf_swi hq (by decide)
          refine hf_tableIn (off := 54) (tgt := 66) dX12_line_12 (by rw [hx]; decide) (by rw [hx]; decide) (by rw [hx]; rfl) (by decide) ?_
          replace h := h.2.2.2.1 hx
          refine hf_aload_n dX12_line_66 rfl rfl ?_
          refine hf_iload_n dX12_line_67 rfl rfl ?_
          exact hf_callV (c := 12) (as := [.int x1]) ok_X12_alikeIn dX12_line_68 hw1372 hw1373 hw1648 (hs.2.1 156 _ rfl) (by decide) (hf_lin hs 156 rfl) rfl (Nat.le_of_ble_eq_true rfl) rfl (Nat.le_of_ble_eq_true rfl) (Nat.zero_le _) (Nat.zero_le _) (hf_mono (fun r M q => hf_drop (l' := [none, none, none]) (by simp [hf_sub]) q) h)
        | 4, _ =>
          have hx : x2 = 4 := hf_swi hq (by decide)
          refine hf_tableIn (off := 60) (tgt := 72) dX12_line_12 (by rw [hx]; decide) (by rw [hx]; decide) (by rw [hx]; rfl) (by decide) ?_
          replace h := h.2.2.2.2.1 hx
          refine hf_aload_n dX12_line_72 rfl rfl ?_
          refine hf_iload_n dX12_line_73 rfl rfl ?_
          exact hf_callV (c := 12) (as := [.int x1]) ok_X12_echoIn dX12_line_74 hw1378 hw1379 hw1650 (hs.2.1 156 _ rfl) (by decide) (hf_lin hs 156 rfl) rfl (Nat.le_of_ble_eq_true rfl) rfl (Nat.le_of_ble_eq_true rfl) (Nat.zero_le _) (Nat.zero_le _) (hf_mono (fun r M q => hf_drop (l' := [none, none, none]) (by simp [hf_sub]) q) h)
        | j + 5, hj => exact absurd hj (by omega)

set_option maxHeartbeats 4000000 in
theorem w_X12_line_53 {X : hf_X} {d k n t : Nat} {T : hf_T} {I : hf_I} {L : hf_L} {P : hf_P} {Q : Option Value → hf_M → Prop} {s0 : Int32} (hs : hf_Lay t T P) (h : Q (some (.int s0)) (t, T, I, L, P)) : hf_G X Y_X12_line d k n 53 [none, none, none] [.int s0] (t, T, I, L, P) Q := by
  refine hf_ireturn dX12_line_53 rfl rfl ?_
  exact h

set_option maxHeartbeats 4000000 in
theorem w_X12_line_59 {X : hf_X} {d k n t : Nat} {T : hf_T} {I : hf_I} {L : hf_L} {P : hf_P} {Q : Option Value → hf_M → Prop} {s0 : Int32} (hs : hf_Lay t T P) (h : Q (some (.int s0)) (t, T, I, L, P)) : hf_G X Y_X12_line d k n 59 [none, none, none] [.int s0] (t, T, I, L, P) Q := by
  refine hf_ireturn dX12_line_59 rfl rfl ?_
  exact h

set_option maxHeartbeats 4000000 in
theorem w_X12_line_65 {X : hf_X} {d k n t : Nat} {T : hf_T} {I : hf_I} {L : hf_L} {P : hf_P} {Q : Option Value → hf_M → Prop} {s0 : Int32} (hs : hf_Lay t T P) (h : Q (some (.int s0)) (t, T, I, L, P)) : hf_G X Y_X12_line d k n 65 [none, none, none] [.int s0] (t, T, I, L, P) Q := by
  refine hf_ireturn dX12_line_65 rfl rfl ?_
  exact h

set_option maxHeartbeats 4000000 in
theorem w_X12_line_71 {X : hf_X} {d k n t : Nat} {T : hf_T} {I : hf_I} {L : hf_L} {P : hf_P} {Q : Option Value → hf_M → Prop} {s0 : Int32} (hs : hf_Lay t T P) (h : Q (some (.int s0)) (t, T, I, L, P)) : hf_G X Y_X12_line d k n 71 [none, none, none] [.int s0] (t, T, I, L, P) Q := by
  refine hf_ireturn dX12_line_71 rfl rfl ?_
  exact h

set_option maxHeartbeats 4000000 in
theorem w_X12_line_77 {X : hf_X} {d k n t : Nat} {T : hf_T} {I : hf_I} {L : hf_L} {P : hf_P} {Q : Option Value → hf_M → Prop} {s0 : Int32} (hs : hf_Lay t T P) (h : Q (some (.int s0)) (t, T, I, L, P)) : hf_G X Y_X12_line d k n 77 [none, none, none] [.int s0] (t, T, I, L, P) Q := by
  refine hf_ireturn dX12_line_77 rfl rfl ?_
  exact h

set_option maxHeartbeats 4000000 in
theorem w_X12_cost_0 {X : hf_X} {d k n t : Nat} {T : hf_T} {I : hf_I} {L : hf_L} {P : hf_P} {Q : Option Value → hf_M → Prop}  (hs : hf_Lay t T P) (h : hf_G X Y_X12_cost d k n 4 [some (.ref 156), some (.int 0), some (.int 0)] [] (t, T, I, L, P) Q) : hf_G X Y_X12_cost d k n 0 (hf_en [.ref 156] 3) [] (t, T, I, L, P) Q := by
  show hf_G X Y_X12_cost d k n 0 [some (.ref 156), none, none] [] (t, T, I, L, P) Q
  refine hf_iconst (v := 0) dX12_cost_0 (by decide) ?_
  refine hf_istore_n (l2 := [some (.ref 156), some (.int 0), none]) dX12_cost_1 rfl (by decide) rfl ?_
  refine hf_iconst (v := 0) dX12_cost_2 (by decide) ?_
  refine hf_istore_n (l2 := [some (.ref 156), some (.int 0), some (.int 0)]) dX12_cost_3 rfl (by decide) rfl ?_
  exact h

set_option maxHeartbeats 4000000 in
theorem w_X12_cost_4 {X : hf_X} {d k n t : Nat} {T : hf_T} {I : hf_I} {L : hf_L} {P : hf_P} {Q : Option Value → hf_M → Prop} {x1 : Int32} {x2 : Int32} (hs : hf_Lay t T P) (h : ((I 158 24) ≤ x2 → hf_G X Y_X12_cost (d + 1) k n 38 [some (.ref 156), some (.int x1), some (.int 0)] [] (t, T, I, L, P) Q) ∧ (¬ ((I 158 24) ≤ x2) → vp_in (0 + x2) 5929 ∧ (hf_G X Y_X12_losesOf d 0 0 0 (hf_en [.ref 156, .int (I 158 (((0 + x2)).toNatClampNeg))] 2) [] (t, T, I, L, P) (fun r M => hf_G X Y_X12_cost (d + 1) k n 28 [some (.ref 156), none, some (.int x2)] (r.toList ++ [.int x1]) M Q)))) : hf_G X Y_X12_cost (d + 1) k n 4 [some (.ref 156), some (.int x1), some (.int x2)] [] (t, T, I, L, P) Q := by
  refine hf_iload_n dX12_cost_4 rfl rfl ?_
  refine hf_aload_n dX12_cost_5 rfl rfl ?_
  refine hf_getr (b := 158) (c := 12) (j := 2) dX12_cost_6 (hs.2.1 156 _ rfl) (hf_lin hs 156 rfl) (by decide) (by decide) hw1038 rfl (hs.2.2 156 2 _ rfl) ?_
  refine hf_bipush (v := 24) dX12_cost_9 (by decide) ?_
  refine hf_iald_k (j := 24) (by decide) dX12_cost_11 (hs.2.1 158 _ rfl) (hf_lin hs 158 rfl) (hf_vin (by decide)) ?_
  refine hf_icmp_ge (tgt := 36) dX12_cost_12 (by decide) (fun hc => ?_) (fun hc => ?_)
  · replace h := h.1 hc
    refine hf_iconst (v := 0) dX12_cost_36 (by decide) ?_
    refine hf_istore_n (l2 := [some (.ref 156), some (.int x1), some (.int 0)]) dX12_cost_37 rfl (by decide) rfl ?_
    exact h
  · replace h := h.2 hc
    refine hf_iload_n dX12_cost_15 rfl rfl ?_
    refine hf_aload_n dX12_cost_16 rfl rfl ?_
    refine hf_aload_n dX12_cost_17 rfl rfl ?_
    refine hf_getr (b := 158) (c := 12) (j := 2) dX12_cost_18 (hs.2.1 156 _ rfl) (hf_lin hs 156 rfl) (by decide) (by decide) hw1038 rfl (hs.2.2 156 2 _ rfl) ?_
    refine hf_iconst (v := 0) dX12_cost_21 (by decide) ?_
    refine hf_iload_n dX12_cost_22 rfl rfl ?_
    refine hf_iadd dX12_cost_23 ?_
    refine hf_iald dX12_cost_24 (hs.2.1 158 _ rfl) (hf_lin hs 158 rfl) h.1 ?_
    replace h := h.2
    exact hf_callV (c := 12) (as := [.int (I 158 (((0 + x2)).toNatClampNeg))]) ok_X12_losesOf dX12_cost_25 hw1205 hw1206 hw1610 (hs.2.1 156 _ rfl) (by decide) (hf_lin hs 156 rfl) rfl (Nat.le_of_ble_eq_true rfl) rfl (Nat.le_of_ble_eq_true rfl) (Nat.zero_le _) (Nat.zero_le _) (hf_mono (fun r M q => hf_drop (l' := [some (.ref 156), none, some (.int x2)]) (by simp [hf_sub]) q) h)

set_option maxHeartbeats 4000000 in
theorem w_X12_cost_38 {X : hf_X} {d k n t : Nat} {T : hf_T} {I : hf_I} {L : hf_L} {P : hf_P} {Q : Option Value → hf_M → Prop} {x1 : Int32} {x2 : Int32} (hs : hf_Lay t T P) (h : (4 ≤ x2 → Q (some (.int x1)) (t, T, I, L, P)) ∧ (¬ (4 ≤ x2) → hf_G X Y_X12_costIn d 0 0 0 (hf_en [.ref 156, .int x2] 2) [] (t, T, I, L, P) (fun r M => hf_G X Y_X12_cost (d + 1) k n 49 [some (.ref 156), none, some (.int x2)] (r.toList ++ [.int x1]) M Q))) : hf_G X Y_X12_cost (d + 1) k n 38 [some (.ref 156), some (.int x1), some (.int x2)] [] (t, T, I, L, P) Q := by
  refine hf_iload_n dX12_cost_38 rfl rfl ?_
  refine hf_iconst (v := 4) dX12_cost_39 (by decide) ?_
  refine hf_icmp_ge (tgt := 57) dX12_cost_40 (by decide) (fun hc => ?_) (fun hc => ?_)
  · replace h := h.1 hc
    refine hf_iload_n dX12_cost_57 rfl rfl ?_
    refine hf_ireturn dX12_cost_58 rfl rfl ?_
    exact h
  · replace h := h.2 hc
    refine hf_iload_n dX12_cost_43 rfl rfl ?_
    refine hf_aload_n dX12_cost_44 rfl rfl ?_
    refine hf_iload_n dX12_cost_45 rfl rfl ?_
    exact hf_callV (c := 12) (as := [.int x2]) ok_X12_costIn dX12_cost_46 hw1369 hw1370 hw1647 (hs.2.1 156 _ rfl) (by decide) (hf_lin hs 156 rfl) rfl (Nat.le_of_ble_eq_true rfl) rfl (Nat.le_of_ble_eq_true rfl) (Nat.zero_le _) (Nat.zero_le _) (hf_mono (fun r M q => hf_drop (l' := [some (.ref 156), none, some (.int x2)]) (by simp [hf_sub]) q) h)

set_option maxHeartbeats 4000000 in
theorem w_X12_cost_28 {X : hf_X} {d k n t : Nat} {T : hf_T} {I : hf_I} {L : hf_L} {P : hf_P} {Q : Option Value → hf_M → Prop} {x2 : Int32} {s0 : Int32} {s1 : Int32} (hs : hf_Lay t T P) (h : hf_G X Y_X12_cost d k n 4 [some (.ref 156), some (.int (s1 + s0)), some (.int (x2 + 1))] [] (t, T, I, L, P) Q) : hf_G X Y_X12_cost d k n 28 [some (.ref 156), none, some (.int x2)] [.int s0, .int s1] (t, T, I, L, P) Q := by
  refine hf_iadd dX12_cost_28 ?_
  refine hf_istore_n (l2 := [some (.ref 156), some (.int (s1 + s0)), some (.int x2)]) dX12_cost_29 rfl (by decide) rfl ?_
  refine hf_iinc (v := (x2 + 1)) (l2 := [some (.ref 156), some (.int (s1 + s0)), some (.int (x2 + 1))]) dX12_cost_30 (by decide) rfl rfl rfl ?_
  refine hf_goto (tgt := 4) dX12_cost_33 (by decide) ?_
  exact h

set_option maxHeartbeats 4000000 in
theorem w_X12_cost_49 {X : hf_X} {d k n t : Nat} {T : hf_T} {I : hf_I} {L : hf_L} {P : hf_P} {Q : Option Value → hf_M → Prop} {x2 : Int32} {s0 : Int32} {s1 : Int32} (hs : hf_Lay t T P) (h : hf_G X Y_X12_cost d k n 38 [some (.ref 156), some (.int (s1 + s0)), some (.int (x2 + 1))] [] (t, T, I, L, P) Q) : hf_G X Y_X12_cost d k n 49 [some (.ref 156), none, some (.int x2)] [.int s0, .int s1] (t, T, I, L, P) Q := by
  refine hf_iadd dX12_cost_49 ?_
  refine hf_istore_n (l2 := [some (.ref 156), some (.int (s1 + s0)), some (.int x2)]) dX12_cost_50 rfl (by decide) rfl ?_
  refine hf_iinc (v := (x2 + 1)) (l2 := [some (.ref 156), some (.int (s1 + s0)), some (.int (x2 + 1))]) dX12_cost_51 (by decide) rfl rfl rfl ?_
  refine hf_goto (tgt := 38) dX12_cost_54 (by decide) ?_
  exact h

set_option maxHeartbeats 4000000 in
theorem w_X12_keeps_0 {X : hf_X} {d k n t : Nat} {T : hf_T} {I : hf_I} {L : hf_L} {P : hf_P} {Q : Option Value → hf_M → Prop} {x1 : Int32} (hs : hf_Lay t T P) (h : (¬ (I 156 27) = 16 → hf_G X Y_X12_keeps d k n 54 [some (.ref 156), some (.int x1), some (.int 27), some (.int 0)] [] (t, T, I, L, P) Q) ∧ ((I 156 27) = 16 → hf_G X Y_X12_keeps d k n 14 [some (.ref 156), some (.int x1), some (.int 27), some (.int 0)] [] (t, T, I, L, P) Q)) : hf_G X Y_X12_keeps d k n 0 (hf_en [.ref 156, .int x1] 4) [] (t, T, I, L, P) Q := by
  show hf_G X Y_X12_keeps d k n 0 [some (.ref 156), some (.int x1), none, none] [] (t, T, I, L, P) Q
  refine hf_bipush (v := 27) dX12_keeps_0 (by decide) ?_
  refine hf_istore_n (l2 := [some (.ref 156), some (.int x1), some (.int 27), none]) dX12_keeps_2 rfl (by decide) rfl ?_
  refine hf_aload_n dX12_keeps_3 rfl rfl ?_
  refine hf_geti (c := 12) (j := 27) dX12_keeps_4 (hs.2.1 156 _ rfl) (hf_lin hs 156 rfl) (by decide) (by decide) hw1063 (Or.inl rfl) ?_
  refine hf_bipush (v := 16) dX12_keeps_7 (by decide) ?_
  refine hf_icmp_ne (tgt := 52) dX12_keeps_9 (by decide) (fun hc => ?_) (fun hc => ?_)
  · replace h := h.1 hc
    refine hf_iconst (v := 0) dX12_keeps_52 (by decide) ?_
    refine hf_istore_n (l2 := [some (.ref 156), some (.int x1), some (.int 27), some (.int 0)]) dX12_keeps_53 rfl (by decide) rfl ?_
    exact h
  · replace h := h.2 hc
    refine hf_iconst (v := 0) dX12_keeps_12 (by decide) ?_
    refine hf_istore_n (l2 := [some (.ref 156), some (.int x1), some (.int 27), some (.int 0)]) dX12_keeps_13 rfl (by decide) rfl ?_
    exact h

set_option maxHeartbeats 4000000 in
theorem w_X12_keeps_54 {X : hf_X} {d k n t : Nat} {T : hf_T} {I : hf_I} {L : hf_L} {P : hf_P} {Q : Option Value → hf_M → Prop} {x1 : Int32} {x2 : Int32} {x3 : Int32} (hs : hf_Lay t T P) (h : (26 ≤ x3 → vp_in ((x2 * (I 156 27)) + 26) 432 ∧ (Q none (t, T, (hf_up (hf_up I 169 ((((x2 * (I 156 27)) + 26)).toNatClampNeg) x1) 156 27 ((I 156 27) + 1)), L, P))) ∧ (¬ (26 ≤ x3) → vp_in x3 5929 ∧ (vp_in ((x2 * (I 156 27)) + x3) 432 ∧ (hf_G X Y_X12_keeps d k n 54 [some (.ref 156), some (.int x1), some (.int x2), some (.int (x3 + 1))] [] (t, T, (hf_up I 169 ((((x2 * (I 156 27)) + x3)).toNatClampNeg) (I 158 x3.toNatClampNeg)), L, P) Q)))) : hf_G X Y_X12_keeps d k n 54 [some (.ref 156), some (.int x1), some (.int x2), some (.int x3)] [] (t, T, I, L, P) Q := by
  refine hf_iload_n dX12_keeps_54 rfl rfl ?_
  refine hf_bipush (v := 26) dX12_keeps_55 (by decide) ?_
  refine hf_icmp_ge (tgt := 85) dX12_keeps_57 (by decide) (fun hc => ?_) (fun hc => ?_)
  · replace h := h.1 hc
    refine hf_aload_n dX12_keeps_85 rfl rfl ?_
    refine hf_getr (b := 169) (c := 12) (j := 25) dX12_keeps_86 (hs.2.1 156 _ rfl) (hf_lin hs 156 rfl) (by decide) (by decide) hw1061 rfl (hs.2.2 156 25 _ rfl) ?_
    refine hf_iload_n dX12_keeps_89 rfl rfl ?_
    refine hf_aload_n dX12_keeps_90 rfl rfl ?_
    refine hf_geti (c := 12) (j := 27) dX12_keeps_91 (hs.2.1 156 _ rfl) (hf_lin hs 156 rfl) (by decide) (by decide) hw1063 (Or.inl rfl) ?_
    refine hf_imul dX12_keeps_94 ?_
    refine hf_bipush (v := 26) dX12_keeps_95 (by decide) ?_
    refine hf_iadd dX12_keeps_97 ?_
    refine hf_iload_n dX12_keeps_98 rfl rfl ?_
    refine hf_iast dX12_keeps_99 (hs.2.1 169 _ rfl) (hf_lin hs 169 rfl) h.1 ?_
    replace h := h.2
    refine hf_aload_n dX12_keeps_100 rfl rfl ?_
    refine hf_dup dX12_keeps_101 rfl ?_
    refine hf_geti (c := 12) (j := 27) dX12_keeps_102 (hs.2.1 156 _ rfl) (hf_lin hs 156 rfl) (by decide) (by decide) hw1063 (Or.inl rfl) ?_
    refine hf_iconst (v := 1) dX12_keeps_105 (by decide) ?_
    refine hf_iadd dX12_keeps_106 ?_
    refine hf_puti (c := 12) (j := 27) dX12_keeps_107 (hs.2.1 156 _ rfl) (hf_lin hs 156 rfl) (by decide) (by decide) hw1063 rfl rfl ?_
    refine hf_return dX12_keeps_110 rfl ?_
    exact h
  · replace h := h.2 hc
    refine hf_aload_n dX12_keeps_60 rfl rfl ?_
    refine hf_getr (b := 169) (c := 12) (j := 25) dX12_keeps_61 (hs.2.1 156 _ rfl) (hf_lin hs 156 rfl) (by decide) (by decide) hw1061 rfl (hs.2.2 156 25 _ rfl) ?_
    refine hf_iload_n dX12_keeps_64 rfl rfl ?_
    refine hf_aload_n dX12_keeps_65 rfl rfl ?_
    refine hf_geti (c := 12) (j := 27) dX12_keeps_66 (hs.2.1 156 _ rfl) (hf_lin hs 156 rfl) (by decide) (by decide) hw1063 (Or.inl rfl) ?_
    refine hf_imul dX12_keeps_69 ?_
    refine hf_iload_n dX12_keeps_70 rfl rfl ?_
    refine hf_iadd dX12_keeps_71 ?_
    refine hf_aload_n dX12_keeps_72 rfl rfl ?_
    refine hf_getr (b := 158) (c := 12) (j := 2) dX12_keeps_73 (hs.2.1 156 _ rfl) (hf_lin hs 156 rfl) (by decide) (by decide) hw1038 rfl (hs.2.2 156 2 _ rfl) ?_
    refine hf_iload_n dX12_keeps_76 rfl rfl ?_
    refine hf_iald dX12_keeps_77 (hs.2.1 158 _ rfl) (hf_lin hs 158 rfl) h.1 ?_
    replace h := h.2
    refine hf_iast dX12_keeps_78 (hs.2.1 169 _ rfl) (hf_lin hs 169 rfl) h.1 ?_
    replace h := h.2
    refine hf_iinc (v := (x3 + 1)) (l2 := [some (.ref 156), some (.int x1), some (.int x2), some (.int (x3 + 1))]) dX12_keeps_79 (by decide) rfl rfl rfl ?_
    refine hf_goto (tgt := 54) dX12_keeps_82 (by decide) ?_
    exact h

set_option maxHeartbeats 4000000 in
theorem w_X12_keeps_14 {X : hf_X} {d k n t : Nat} {T : hf_T} {I : hf_I} {L : hf_L} {P : hf_P} {Q : Option Value → hf_M → Prop} {x1 : Int32} {x2 : Int32} {x3 : Int32} (hs : hf_Lay t T P) (h : ((15 * x2) ≤ x3 → hf_G X Y_X12_keeps d k n 54 [some (.ref 156), some (.int x1), some (.int x2), some (.int 0)] [] (t, T, (hf_up I 156 27 ((I 156 27) - 1)), L, P) Q) ∧ (¬ ((15 * x2) ≤ x3) → vp_in (x3 + x2) 432 ∧ (vp_in x3 432 ∧ (hf_G X Y_X12_keeps d k n 14 [some (.ref 156), some (.int x1), some (.int x2), some (.int (x3 + 1))] [] (t, T, (hf_up I 169 x3.toNatClampNeg (I 169 (((x3 + x2)).toNatClampNeg))), L, P) Q)))) : hf_G X Y_X12_keeps d k n 14 [some (.ref 156), some (.int x1), some (.int x2), some (.int x3)] [] (t, T, I, L, P) Q := by
  refine hf_iload_n dX12_keeps_14 rfl rfl ?_
  refine hf_bipush (v := 15) dX12_keeps_15 (by decide) ?_
  refine hf_iload_n dX12_keeps_17 rfl rfl ?_
  refine hf_imul dX12_keeps_18 ?_
  refine hf_icmp_ge (tgt := 42) dX12_keeps_19 (by decide) (fun hc => ?_) (fun hc => ?_)
  · replace h := h.1 hc
    refine hf_aload_n dX12_keeps_42 rfl rfl ?_
    refine hf_dup dX12_keeps_43 rfl ?_
    refine hf_geti (c := 12) (j := 27) dX12_keeps_44 (hs.2.1 156 _ rfl) (hf_lin hs 156 rfl) (by decide) (by decide) hw1063 (Or.inl rfl) ?_
    refine hf_iconst (v := 1) dX12_keeps_47 (by decide) ?_
    refine hf_isub dX12_keeps_48 ?_
    refine hf_puti (c := 12) (j := 27) dX12_keeps_49 (hs.2.1 156 _ rfl) (hf_lin hs 156 rfl) (by decide) (by decide) hw1063 rfl rfl ?_
    refine hf_iconst (v := 0) dX12_keeps_52 (by decide) ?_
    refine hf_istore_n (l2 := [some (.ref 156), some (.int x1), some (.int x2), some (.int 0)]) dX12_keeps_53 rfl (by decide) rfl ?_
    exact h
  · replace h := h.2 hc
    refine hf_aload_n dX12_keeps_22 rfl rfl ?_
    refine hf_getr (b := 169) (c := 12) (j := 25) dX12_keeps_23 (hs.2.1 156 _ rfl) (hf_lin hs 156 rfl) (by decide) (by decide) hw1061 rfl (hs.2.2 156 25 _ rfl) ?_
    refine hf_iload_n dX12_keeps_26 rfl rfl ?_
    refine hf_aload_n dX12_keeps_27 rfl rfl ?_
    refine hf_getr (b := 169) (c := 12) (j := 25) dX12_keeps_28 (hs.2.1 156 _ rfl) (hf_lin hs 156 rfl) (by decide) (by decide) hw1061 rfl (hs.2.2 156 25 _ rfl) ?_
    refine hf_iload_n dX12_keeps_31 rfl rfl ?_
    refine hf_iload_n dX12_keeps_32 rfl rfl ?_
    refine hf_iadd dX12_keeps_33 ?_
    refine hf_iald dX12_keeps_34 (hs.2.1 169 _ rfl) (hf_lin hs 169 rfl) h.1 ?_
    replace h := h.2
    refine hf_iast dX12_keeps_35 (hs.2.1 169 _ rfl) (hf_lin hs 169 rfl) h.1 ?_
    replace h := h.2
    refine hf_iinc (v := (x3 + 1)) (l2 := [some (.ref 156), some (.int x1), some (.int x2), some (.int (x3 + 1))]) dX12_keeps_36 (by decide) rfl rfl rfl ?_
    refine hf_goto (tgt := 14) dX12_keeps_39 (by decide) ?_
    exact h

set_option maxHeartbeats 4000000 in
theorem w_X12_undo_0 {X : hf_X} {d k n t : Nat} {T : hf_T} {I : hf_I} {L : hf_L} {P : hf_P} {Q : Option Value → hf_M → Prop}  (hs : hf_Lay t T P) (h : (¬ (I 156 27) = 0 → hf_G X Y_X12_undo (d + 1) k n 34 [some (.ref 156), some (.int (27 * ((I 156 27) - 1))), some (.int 0)] [] (t, T, (hf_up I 156 27 ((I 156 27) - 1)), L, P) Q) ∧ ((I 156 27) = 0 → Q (some (.int (-3))) (t, T, (hf_up (hf_up I 156 0 (-3)) 157 3 ((I 157 3) + 1)), L, P))) : hf_G X Y_X12_undo (d + 1) k n 0 (hf_en [.ref 156] 3) [] (t, T, I, L, P) Q := by
  show hf_G X Y_X12_undo (d + 1) k n 0 [some (.ref 156), none, none] [] (t, T, I, L, P) Q
  refine hf_aload_n dX12_undo_0 rfl rfl ?_
  refine hf_geti (c := 12) (j := 27) dX12_undo_1 (hs.2.1 156 _ rfl) (hf_lin hs 156 rfl) (by decide) (by decide) hw1063 (Or.inl rfl) ?_
  refine hf_if_ne (tgt := 14) dX12_undo_4 (by decide) (fun hc => ?_) (fun hc => ?_)
  · replace h := h.1 hc
    refine hf_aload_n dX12_undo_14 rfl rfl ?_
    refine hf_dup dX12_undo_15 rfl ?_
    refine hf_geti (c := 12) (j := 27) dX12_undo_16 (hs.2.1 156 _ rfl) (hf_lin hs 156 rfl) (by decide) (by decide) hw1063 (Or.inl rfl) ?_
    refine hf_iconst (v := 1) dX12_undo_19 (by decide) ?_
    refine hf_isub dX12_undo_20 ?_
    refine hf_puti (c := 12) (j := 27) dX12_undo_21 (hs.2.1 156 _ rfl) (hf_lin hs 156 rfl) (by decide) (by decide) hw1063 rfl rfl ?_
    refine hf_bipush (v := 27) dX12_undo_24 (by decide) ?_
    refine hf_aload_n dX12_undo_26 rfl rfl ?_
    refine hf_geti (c := 12) (j := 27) dX12_undo_27 (hs.2.1 156 _ rfl) (hf_lin hs 156 rfl) (by decide) (by decide) hw1063 (Or.inl rfl) ?_
    refine hf_imul dX12_undo_30 ?_
    refine hf_istore_n (l2 := [some (.ref 156), some (.int (27 * ((I 156 27) - 1))), none]) dX12_undo_31 rfl (by decide) rfl ?_
    refine hf_iconst (v := 0) dX12_undo_32 (by decide) ?_
    refine hf_istore_n (l2 := [some (.ref 156), some (.int (27 * ((I 156 27) - 1))), some (.int 0)]) dX12_undo_33 rfl (by decide) rfl ?_
    exact h
  · replace h := h.2 hc
    refine hf_aload_n dX12_undo_7 rfl rfl ?_
    refine hf_bipush (v := (-3)) dX12_undo_8 (by decide) ?_
    refine hf_callV (c := 12) (as := [.int (-3)]) ok_X12_refuses dX12_undo_10 hw1146 hw1147 hw1601 (hs.2.1 156 _ rfl) (by decide) (hf_lin hs 156 rfl) rfl (Nat.le_of_ble_eq_true rfl) rfl (Nat.le_of_ble_eq_true rfl) (Nat.zero_le _) (Nat.zero_le _) ?_
    show hf_G X Y_X12_refuses d _ _ 0 [some (.ref 156), some (.int (-3))] [] (t, T, I, L, P) _
    refine hf_aload_n dX12_refuses_0 rfl rfl ?_
    refine hf_iload_n dX12_refuses_1 rfl rfl ?_
    refine hf_puti (c := 12) (j := 0) dX12_refuses_2 (hs.2.1 156 _ rfl) (hf_lin hs 156 rfl) (by decide) (by decide) hw1036 rfl rfl ?_
    refine hf_aload_n dX12_refuses_5 rfl rfl ?_
    refine hf_getr (b := 157) (c := 12) (j := 1) dX12_refuses_6 (hs.2.1 156 _ rfl) (hf_lin hs 156 rfl) (by decide) (by decide) hw1037 rfl (hs.2.2 156 1 _ rfl) ?_
    refine hf_iload_n dX12_refuses_9 rfl rfl ?_
    refine hf_ineg dX12_refuses_10 ?_
    rw [show (-(-3) : Int32) = 3 by decide]
    refine hf_dup2 dX12_refuses_11 rfl rfl ?_
    refine hf_iald_k (j := 3) (by decide) dX12_refuses_12 (hs.2.1 157 _ rfl) (hf_lin hs 157 rfl) (hf_vin (by decide)) ?_
    refine hf_iconst (v := 1) dX12_refuses_13 (by decide) ?_
    refine hf_iadd dX12_refuses_14 ?_
    refine hf_iast_k (j := 3) (by decide) dX12_refuses_15 (hs.2.1 157 _ rfl) (hf_lin hs 157 rfl) (hf_vin (by decide)) ?_
    refine hf_iload_n dX12_refuses_16 rfl rfl ?_
    refine hf_ireturn dX12_refuses_17 rfl rfl ?_
    show hf_G X Y_X12_undo (d + 1) _ _ 13 [some (.ref 156), none, none] [.int (-3)] (t, T, (hf_up (hf_up I 156 0 (-3)) 157 3 ((I 157 3) + 1)), L, P) _
    refine hf_ireturn dX12_undo_13 rfl rfl ?_
    exact h

set_option maxHeartbeats 4000000 in
theorem w_X12_undo_34 {X : hf_X} {d k n t : Nat} {T : hf_T} {I : hf_I} {L : hf_L} {P : hf_P} {Q : Option Value → hf_M → Prop} {x1 : Int32} {x2 : Int32} (hs : hf_Lay t T P) (h : (26 ≤ x2 → vp_in (x1 + 26) 432 ∧ (Q (some (.int (I 169 (((x1 + 26)).toNatClampNeg)))) (t, T, (hf_up I 156 0 0), L, P))) ∧ (¬ (26 ≤ x2) → vp_in (x1 + x2) 432 ∧ (vp_in x2 5929 ∧ (hf_G X Y_X12_undo (d + 1) k n 34 [some (.ref 156), some (.int x1), some (.int (x2 + 1))] [] (t, T, (hf_up I 158 x2.toNatClampNeg (I 169 (((x1 + x2)).toNatClampNeg))), L, P) Q)))) : hf_G X Y_X12_undo (d + 1) k n 34 [some (.ref 156), some (.int x1), some (.int x2)] [] (t, T, I, L, P) Q := by
  refine hf_iload_n dX12_undo_34 rfl rfl ?_
  refine hf_bipush (v := 26) dX12_undo_35 (by decide) ?_
  refine hf_icmp_ge (tgt := 60) dX12_undo_37 (by decide) (fun hc => ?_) (fun hc => ?_)
  · replace h := h.1 hc
    refine hf_aload_n dX12_undo_60 rfl rfl ?_
    refine hf_aload_n dX12_undo_61 rfl rfl ?_
    refine hf_getr (b := 169) (c := 12) (j := 25) dX12_undo_62 (hs.2.1 156 _ rfl) (hf_lin hs 156 rfl) (by decide) (by decide) hw1061 rfl (hs.2.2 156 25 _ rfl) ?_
    refine hf_iload_n dX12_undo_65 rfl rfl ?_
    refine hf_bipush (v := 26) dX12_undo_66 (by decide) ?_
    refine hf_iadd dX12_undo_68 ?_
    refine hf_iald dX12_undo_69 (hs.2.1 169 _ rfl) (hf_lin hs 169 rfl) h.1 ?_
    replace h := h.2
    refine hf_callV (c := 12) (as := [.int (I 169 (((x1 + 26)).toNatClampNeg))]) ok_X12_good dX12_undo_70 hw1149 hw1150 hw1602 (hs.2.1 156 _ rfl) (by decide) (hf_lin hs 156 rfl) rfl (Nat.le_of_ble_eq_true rfl) rfl (Nat.le_of_ble_eq_true rfl) (Nat.zero_le _) (Nat.zero_le _) ?_
    show hf_G X Y_X12_good d _ _ 0 [some (.ref 156), some (.int (I 169 (((x1 + 26)).toNatClampNeg)))] [] (t, T, I, L, P) _
    refine hf_aload_n dX12_good_0 rfl rfl ?_
    refine hf_iconst (v := 0) dX12_good_1 (by decide) ?_
    refine hf_puti (c := 12) (j := 0) dX12_good_2 (hs.2.1 156 _ rfl) (hf_lin hs 156 rfl) (by decide) (by decide) hw1036 rfl rfl ?_
    refine hf_iload_n dX12_good_5 rfl rfl ?_
    refine hf_ireturn dX12_good_6 rfl rfl ?_
    show hf_G X Y_X12_undo (d + 1) _ _ 73 [some (.ref 156), some (.int x1), some (.int x2)] [.int (I 169 (((x1 + 26)).toNatClampNeg))] (t, T, (hf_up I 156 0 0), L, P) _
    refine hf_ireturn dX12_undo_73 rfl rfl ?_
    exact h
  · replace h := h.2 hc
    refine hf_aload_n dX12_undo_40 rfl rfl ?_
    refine hf_getr (b := 158) (c := 12) (j := 2) dX12_undo_41 (hs.2.1 156 _ rfl) (hf_lin hs 156 rfl) (by decide) (by decide) hw1038 rfl (hs.2.2 156 2 _ rfl) ?_
    refine hf_iload_n dX12_undo_44 rfl rfl ?_
    refine hf_aload_n dX12_undo_45 rfl rfl ?_
    refine hf_getr (b := 169) (c := 12) (j := 25) dX12_undo_46 (hs.2.1 156 _ rfl) (hf_lin hs 156 rfl) (by decide) (by decide) hw1061 rfl (hs.2.2 156 25 _ rfl) ?_
    refine hf_iload_n dX12_undo_49 rfl rfl ?_
    refine hf_iload_n dX12_undo_50 rfl rfl ?_
    refine hf_iadd dX12_undo_51 ?_
    refine hf_iald dX12_undo_52 (hs.2.1 169 _ rfl) (hf_lin hs 169 rfl) h.1 ?_
    replace h := h.2
    refine hf_iast dX12_undo_53 (hs.2.1 158 _ rfl) (hf_lin hs 158 rfl) h.1 ?_
    replace h := h.2
    refine hf_iinc (v := (x2 + 1)) (l2 := [some (.ref 156), some (.int x1), some (.int (x2 + 1))]) dX12_undo_54 (by decide) rfl rfl rfl ?_
    refine hf_goto (tgt := 34) dX12_undo_57 (by decide) ?_
    exact h

set_option maxHeartbeats 4000000 in
theorem w_X12_goodOr_0 {X : hf_X} {d k n t : Nat} {T : hf_T} {I : hf_I} {L : hf_L} {P : hf_P} {Q : Option Value → hf_M → Prop} {x1 : Int32} (hs : hf_Lay t T P) (h : (0 ≤ x1 → Q (some (.int x1)) (t, T, (hf_up I 156 0 0), L, P)) ∧ (¬ (0 ≤ x1) → vp_in (-x1) 7 ∧ (vp_in (-x1) 7 ∧ (Q (some (.int x1)) (t, T, (hf_up (hf_up I 156 0 x1) 157 (((-x1)).toNatClampNeg) ((I 157 (((-x1)).toNatClampNeg)) + 1)), L, P))))) : hf_G X Y_X12_goodOr (d + 1) k n 0 (hf_en [.ref 156, .int x1] 2) [] (t, T, I, L, P) Q := by
  show hf_G X Y_X12_goodOr (d + 1) k n 0 [some (.ref 156), some (.int x1)] [] (t, T, I, L, P) Q
  refine hf_iload_n dX12_goodOr_0 rfl rfl ?_
  refine hf_if_ge (tgt := 12) dX12_goodOr_1 (by decide) (fun hc => ?_) (fun hc => ?_)
  · replace h := h.1 hc
    refine hf_aload_n dX12_goodOr_12 rfl rfl ?_
    refine hf_iload_n dX12_goodOr_13 rfl rfl ?_
    refine hf_callV (c := 12) (as := [.int x1]) ok_X12_good dX12_goodOr_14 hw1149 hw1150 hw1602 (hs.2.1 156 _ rfl) (by decide) (hf_lin hs 156 rfl) rfl (Nat.le_of_ble_eq_true rfl) rfl (Nat.le_of_ble_eq_true rfl) (Nat.zero_le _) (Nat.zero_le _) ?_
    show hf_G X Y_X12_good d _ _ 0 [some (.ref 156), some (.int x1)] [] (t, T, I, L, P) _
    refine hf_aload_n dX12_good_0 rfl rfl ?_
    refine hf_iconst (v := 0) dX12_good_1 (by decide) ?_
    refine hf_puti (c := 12) (j := 0) dX12_good_2 (hs.2.1 156 _ rfl) (hf_lin hs 156 rfl) (by decide) (by decide) hw1036 rfl rfl ?_
    refine hf_iload_n dX12_good_5 rfl rfl ?_
    refine hf_ireturn dX12_good_6 rfl rfl ?_
    show hf_G X Y_X12_goodOr (d + 1) _ _ 17 [some (.ref 156), some (.int x1)] [.int x1] (t, T, (hf_up I 156 0 0), L, P) _
    refine hf_ireturn dX12_goodOr_17 rfl rfl ?_
    exact h
  · replace h := h.2 hc
    refine hf_aload_n dX12_goodOr_4 rfl rfl ?_
    refine hf_iload_n dX12_goodOr_5 rfl rfl ?_
    refine hf_callV (c := 12) (as := [.int x1]) ok_X12_refuses dX12_goodOr_6 hw1146 hw1147 hw1601 (hs.2.1 156 _ rfl) (by decide) (hf_lin hs 156 rfl) rfl (Nat.le_of_ble_eq_true rfl) rfl (Nat.le_of_ble_eq_true rfl) (Nat.zero_le _) (Nat.zero_le _) ?_
    show hf_G X Y_X12_refuses d _ _ 0 [some (.ref 156), some (.int x1)] [] (t, T, I, L, P) _
    refine hf_aload_n dX12_refuses_0 rfl rfl ?_
    refine hf_iload_n dX12_refuses_1 rfl rfl ?_
    refine hf_puti (c := 12) (j := 0) dX12_refuses_2 (hs.2.1 156 _ rfl) (hf_lin hs 156 rfl) (by decide) (by decide) hw1036 rfl rfl ?_
    refine hf_aload_n dX12_refuses_5 rfl rfl ?_
    refine hf_getr (b := 157) (c := 12) (j := 1) dX12_refuses_6 (hs.2.1 156 _ rfl) (hf_lin hs 156 rfl) (by decide) (by decide) hw1037 rfl (hs.2.2 156 1 _ rfl) ?_
    refine hf_iload_n dX12_refuses_9 rfl rfl ?_
    refine hf_ineg dX12_refuses_10 ?_
    refine hf_dup2 dX12_refuses_11 rfl rfl ?_
    refine hf_iald dX12_refuses_12 (hs.2.1 157 _ rfl) (hf_lin hs 157 rfl) h.1 ?_
    replace h := h.2
    refine hf_iconst (v := 1) dX12_refuses_13 (by decide) ?_
    refine hf_iadd dX12_refuses_14 ?_
    refine hf_iast dX12_refuses_15 (hs.2.1 157 _ rfl) (hf_lin hs 157 rfl) h.1 ?_
    replace h := h.2
    refine hf_iload_n dX12_refuses_16 rfl rfl ?_
    refine hf_ireturn dX12_refuses_17 rfl rfl ?_
    show hf_G X Y_X12_goodOr (d + 1) _ _ 9 [some (.ref 156), some (.int x1)] [.int x1] (t, T, (hf_up (hf_up I 156 0 x1) 157 (((-x1)).toNatClampNeg) ((I 157 (((-x1)).toNatClampNeg)) + 1)), L, P) _
    refine hf_goto (tgt := 17) dX12_goodOr_9 (by decide) ?_
    refine hf_ireturn dX12_goodOr_17 rfl rfl ?_
    exact h

set_option maxHeartbeats 4000000 in
theorem w_X12_setsKept_0 {X : hf_X} {d k n t : Nat} {T : hf_T} {I : hf_I} {L : hf_L} {P : hf_P} {Q : Option Value → hf_M → Prop} {x1 : Int32} (hs : hf_Lay t T P) (h : (x1 < 0 → Q (some (.int (-2))) (t, T, I, L, P)) ∧ (¬ (x1 < 0) → (((I 158 316) - 1) < x1 → Q (some (.int (-2))) (t, T, I, L, P)) ∧ (¬ (((I 158 316) - 1) < x1) → hf_G X Y_X12_broadIn (d + 1) 0 0 0 (hf_en [.ref 156, .int (I 158 25)] 5) [] (t, T, I, L, P) (fun r M => hf_G X Y_X12_setsKept (d + 2) k n 24 [some (.ref 156), some (.int x1), some (.int (I 158 25)), none] (r.toList ++ []) M Q)))) : hf_G X Y_X12_setsKept (d + 2) k n 0 (hf_en [.ref 156, .int x1] 4) [] (t, T, I, L, P) Q := by
  show hf_G X Y_X12_setsKept (d + 2) k n 0 [some (.ref 156), some (.int x1), none, none] [] (t, T, I, L, P) Q
  refine hf_aload_n dX12_setsKept_0 rfl rfl ?_
  refine hf_iload_n dX12_setsKept_1 rfl rfl ?_
  refine hf_callV (c := 12) (as := [.int x1]) ok_X12_isWord dX12_setsKept_2 hw1196 hw1197 hw1607 (hs.2.1 156 _ rfl) (by decide) (hf_lin hs 156 rfl) rfl (Nat.le_of_ble_eq_true rfl) rfl (Nat.le_of_ble_eq_true rfl) (Nat.zero_le _) (Nat.zero_le _) ?_
  show hf_G X Y_X12_isWord (d + 1) _ _ 0 [some (.ref 156), some (.int x1)] [] (t, T, I, L, P) _
  refine hf_iload_n dX12_isWord_0 rfl rfl ?_
  refine hf_iconst (v := 0) dX12_isWord_1 (by decide) ?_
  refine hf_aload_n dX12_isWord_2 rfl rfl ?_
  refine hf_getr (b := 158) (c := 12) (j := 2) dX12_isWord_3 (hs.2.1 156 _ rfl) (hf_lin hs 156 rfl) (by decide) (by decide) hw1038 rfl (hs.2.2 156 2 _ rfl) ?_
  refine hf_sipush (v := 316) dX12_isWord_6 (by decide) ?_
  refine hf_iald_k (j := 316) (by decide) dX12_isWord_9 (hs.2.1 158 _ rfl) (hf_lin hs 158 rfl) (hf_vin (by decide)) ?_
  refine hf_iconst (v := 1) dX12_isWord_10 (by decide) ?_
  refine hf_isub dX12_isWord_11 ?_
  refine hf_callS (as := [.int x1, .int 0, .int ((I 158 316) - 1)]) ok_X12_lies dX12_isWord_12 hw1143 hw1144 rfl (Nat.le_of_ble_eq_true rfl) rfl (Nat.le_of_ble_eq_true rfl) (Nat.zero_le _) (Nat.zero_le _) ?_
  show hf_G X Y_X12_lies d _ _ 0 [some (.int x1), some (.int 0), some (.int ((I 158 316) - 1))] [] (t, T, I, L, P) _
  refine hf_iload_n dX12_lies_0 rfl rfl ?_
  refine hf_iload_n dX12_lies_1 rfl rfl ?_
  refine hf_icmp_lt (tgt := 14) dX12_lies_2 (by decide) (fun hc => ?_) (fun hc => ?_)
  · replace h := h.1 hc
    refine hf_iconst (v := 0) dX12_lies_14 (by decide) ?_
    refine hf_ireturn dX12_lies_15 rfl (by decide) ?_
    show hf_G X Y_X12_isWord (d + 1) _ _ 15 [some (.ref 156), some (.int x1)] [.int 0] (t, T, I, L, P) _
    refine hf_ireturn dX12_isWord_15 rfl (by decide) ?_
    show hf_G X Y_X12_setsKept (d + 2) _ _ 5 [some (.ref 156), some (.int x1), none, none] [.int 0] (t, T, I, L, P) _
    refine hf_if_ne (tgt := 11) dX12_setsKept_5 (by decide) (fun hc => absurd (show ¬ (0 : Int32) = (0 : Int32) from hc) (by decide)) (fun _ => ?_)
    refine hf_bipush (v := (-2)) dX12_setsKept_8 (by decide) ?_
    refine hf_ireturn dX12_setsKept_10 rfl rfl ?_
    exact h
  · replace h := h.2 hc
    refine hf_iload_n dX12_lies_5 rfl rfl ?_
    refine hf_iload_n dX12_lies_6 rfl rfl ?_
    refine hf_icmp_gt (tgt := 14) dX12_lies_7 (by decide) (fun hc => ?_) (fun hc => ?_)
    · replace h := h.1 hc
      refine hf_iconst (v := 0) dX12_lies_14 (by decide) ?_
      refine hf_ireturn dX12_lies_15 rfl (by decide) ?_
      show hf_G X Y_X12_isWord (d + 1) _ _ 15 [some (.ref 156), some (.int x1)] [.int 0] (t, T, I, L, P) _
      refine hf_ireturn dX12_isWord_15 rfl (by decide) ?_
      show hf_G X Y_X12_setsKept (d + 2) _ _ 5 [some (.ref 156), some (.int x1), none, none] [.int 0] (t, T, I, L, P) _
      refine hf_if_ne (tgt := 11) dX12_setsKept_5 (by decide) (fun hc => absurd (show ¬ (0 : Int32) = (0 : Int32) from hc) (by decide)) (fun _ => ?_)
      refine hf_bipush (v := (-2)) dX12_setsKept_8 (by decide) ?_
      refine hf_ireturn dX12_setsKept_10 rfl rfl ?_
      exact h
    · replace h := h.2 hc
      refine hf_iconst (v := 1) dX12_lies_10 (by decide) ?_
      refine hf_goto (tgt := 15) dX12_lies_11 (by decide) ?_
      refine hf_ireturn dX12_lies_15 rfl (by decide) ?_
      show hf_G X Y_X12_isWord (d + 1) _ _ 15 [some (.ref 156), some (.int x1)] [.int 1] (t, T, I, L, P) _
      refine hf_ireturn dX12_isWord_15 rfl (by decide) ?_
      show hf_G X Y_X12_setsKept (d + 2) _ _ 5 [some (.ref 156), some (.int x1), none, none] [.int 1] (t, T, I, L, P) _
      refine hf_if_ne (tgt := 11) dX12_setsKept_5 (by decide) (fun _ => ?_) (fun hc => absurd (show (1 : Int32) = (0 : Int32) from hc) (by decide))
      refine hf_aload_n dX12_setsKept_11 rfl rfl ?_
      refine hf_getr (b := 158) (c := 12) (j := 2) dX12_setsKept_12 (hs.2.1 156 _ rfl) (hf_lin hs 156 rfl) (by decide) (by decide) hw1038 rfl (hs.2.2 156 2 _ rfl) ?_
      refine hf_bipush (v := 25) dX12_setsKept_15 (by decide) ?_
      refine hf_iald_k (j := 25) (by decide) dX12_setsKept_17 (hs.2.1 158 _ rfl) (hf_lin hs 158 rfl) (hf_vin (by decide)) ?_
      refine hf_istore_n (l2 := [some (.ref 156), some (.int x1), some (.int (I 158 25)), none]) dX12_setsKept_18 rfl (by decide) rfl ?_
      refine hf_aload_n dX12_setsKept_19 rfl rfl ?_
      refine hf_iload_n dX12_setsKept_20 rfl rfl ?_
      exact hf_callV (c := 12) (as := [.int (I 158 25)]) ok_X12_broadIn dX12_setsKept_21 hw1235 hw1236 hw1619 (hs.2.1 156 _ rfl) (by decide) (hf_lin hs 156 rfl) rfl (Nat.le_of_ble_eq_true rfl) rfl (Nat.le_of_ble_eq_true rfl) (Nat.zero_le _) (Nat.zero_le _) h

set_option maxHeartbeats 4000000 in
theorem w_X12_setsKept_24 {X : hf_X} {d k n t : Nat} {T : hf_T} {I : hf_I} {L : hf_L} {P : hf_P} {Q : Option Value → hf_M → Prop} {x1 : Int32} {x2 : Int32} {s0 : Int32} (hs : hf_Lay t T P) (h : hf_G X Y_X12_broadOf d 0 0 0 (hf_en [.ref 156, .int x1, .int (I 158 315)] 5) [] (t, T, I, L, P) (fun r M => hf_G X Y_X12_setsKept (d + 1) k n 37 [some (.ref 156), some (.int x1), some (.int x2), none] (r.toList ++ [.int s0]) M Q)) : hf_G X Y_X12_setsKept (d + 1) k n 24 [some (.ref 156), some (.int x1), some (.int x2), none] [.int s0] (t, T, I, L, P) Q := by
  refine hf_aload_n dX12_setsKept_24 rfl rfl ?_
  refine hf_iload_n dX12_setsKept_25 rfl rfl ?_
  refine hf_aload_n dX12_setsKept_26 rfl rfl ?_
  refine hf_getr (b := 158) (c := 12) (j := 2) dX12_setsKept_27 (hs.2.1 156 _ rfl) (hf_lin hs 156 rfl) (by decide) (by decide) hw1038 rfl (hs.2.2 156 2 _ rfl) ?_
  refine hf_sipush (v := 315) dX12_setsKept_30 (by decide) ?_
  refine hf_iald_k (j := 315) (by decide) dX12_setsKept_33 (hs.2.1 158 _ rfl) (hf_lin hs 158 rfl) (hf_vin (by decide)) ?_
  exact hf_callV (c := 12) (as := [.int x1, .int (I 158 315)]) ok_X12_broadOf dX12_setsKept_34 hw1199 hw1200 hw1608 (hs.2.1 156 _ rfl) (by decide) (hf_lin hs 156 rfl) rfl (Nat.le_of_ble_eq_true rfl) rfl (Nat.le_of_ble_eq_true rfl) (Nat.zero_le _) (Nat.zero_le _) h

set_option maxHeartbeats 4000000 in
theorem w_X12_setsKept_37 {X : hf_X} {d k n t : Nat} {T : hf_T} {I : hf_I} {L : hf_L} {P : hf_P} {Q : Option Value → hf_M → Prop} {x1 : Int32} {x2 : Int32} {s0 : Int32} {s1 : Int32} (hs : hf_Lay t T P) (h : hf_G X Y_X12_manyIn d 0 0 0 (hf_en [.ref 156, .int x2] 4) [] (t, T, I, L, P) (fun r M => hf_G X Y_X12_setsKept (d + 1) k n 43 [some (.ref 156), some (.int x1), some (.int x2), none] (r.toList ++ [.int (s1 + s0)]) M Q)) : hf_G X Y_X12_setsKept (d + 1) k n 37 [some (.ref 156), some (.int x1), some (.int x2), none] [.int s0, .int s1] (t, T, I, L, P) Q := by
  refine hf_iadd dX12_setsKept_37 ?_
  refine hf_aload_n dX12_setsKept_38 rfl rfl ?_
  refine hf_iload_n dX12_setsKept_39 rfl rfl ?_
  exact hf_callV (c := 12) (as := [.int x2]) ok_X12_manyIn dX12_setsKept_40 hw1366 hw1367 hw1646 (hs.2.1 156 _ rfl) (by decide) (hf_lin hs 156 rfl) rfl (Nat.le_of_ble_eq_true rfl) rfl (Nat.le_of_ble_eq_true rfl) (Nat.zero_le _) (Nat.zero_le _) h

set_option maxHeartbeats 4000000 in
theorem w_X12_setsKept_43 {X : hf_X} {d k n t : Nat} {T : hf_T} {I : hf_I} {L : hf_L} {P : hf_P} {Q : Option Value → hf_M → Prop} {x1 : Int32} {x2 : Int32} {s0 : Int32} {s1 : Int32} (hs : hf_Lay t T P) (h : (s0 ≤ 0 → ((I 158 313) < (s1 + 0) → Q (some (.int (-3))) (t, T, I, L, P)) ∧ (¬ ((I 158 313) < (s1 + 0)) → hf_G X Y_X12_isBarred d 0 0 0 (hf_en [.ref 156, .int x1, .int (I 158 315)] 3) [] (t, T, I, L, P) (fun r M => hf_G X Y_X12_setsKept (d + 1) k n 91 [some (.ref 156), some (.int x1), some (.int x2), some (.int (s1 + 0))] (r.toList ++ []) M Q))) ∧ (¬ (s0 ≤ 0) → ((I 158 313) < (s1 + (((I 158 52) * ((I 158 315) + 2)) / 2)) → Q (some (.int (-3))) (t, T, I, L, P)) ∧ (¬ ((I 158 313) < (s1 + (((I 158 52) * ((I 158 315) + 2)) / 2))) → hf_G X Y_X12_isBarred d 0 0 0 (hf_en [.ref 156, .int x1, .int (I 158 315)] 3) [] (t, T, I, L, P) (fun r M => hf_G X Y_X12_setsKept (d + 1) k n 91 [some (.ref 156), some (.int x1), some (.int x2), some (.int (s1 + (((I 158 52) * ((I 158 315) + 2)) / 2)))] (r.toList ++ []) M Q)))) : hf_G X Y_X12_setsKept (d + 1) k n 43 [some (.ref 156), some (.int x1), some (.int x2), none] [.int s0, .int s1] (t, T, I, L, P) Q := by
  refine hf_if_le (tgt := 63) dX12_setsKept_43 (by decide) (fun hc => ?_) (fun hc => ?_)
  · replace h := h.1 hc
    refine hf_iconst (v := 0) dX12_setsKept_63 (by decide) ?_
    refine hf_iadd dX12_setsKept_64 ?_
    refine hf_istore_n (l2 := [some (.ref 156), some (.int x1), some (.int x2), some (.int (s1 + 0))]) dX12_setsKept_65 rfl (by decide) rfl ?_
    refine hf_iload_n dX12_setsKept_66 rfl rfl ?_
    refine hf_aload_n dX12_setsKept_67 rfl rfl ?_
    refine hf_getr (b := 158) (c := 12) (j := 2) dX12_setsKept_68 (hs.2.1 156 _ rfl) (hf_lin hs 156 rfl) (by decide) (by decide) hw1038 rfl (hs.2.2 156 2 _ rfl) ?_
    refine hf_sipush (v := 313) dX12_setsKept_71 (by decide) ?_
    refine hf_iald_k (j := 313) (by decide) dX12_setsKept_74 (hs.2.1 158 _ rfl) (hf_lin hs 158 rfl) (hf_vin (by decide)) ?_
    refine hf_icmp_gt (tgt := 94) dX12_setsKept_75 (by decide) (fun hc => ?_) (fun hc => ?_)
    · replace h := h.1 hc
      refine hf_bipush (v := (-3)) dX12_setsKept_94 (by decide) ?_
      refine hf_ireturn dX12_setsKept_96 rfl rfl ?_
      exact h
    · replace h := h.2 hc
      refine hf_aload_n dX12_setsKept_78 rfl rfl ?_
      refine hf_iload_n dX12_setsKept_79 rfl rfl ?_
      refine hf_aload_n dX12_setsKept_80 rfl rfl ?_
      refine hf_getr (b := 158) (c := 12) (j := 2) dX12_setsKept_81 (hs.2.1 156 _ rfl) (hf_lin hs 156 rfl) (by decide) (by decide) hw1038 rfl (hs.2.2 156 2 _ rfl) ?_
      refine hf_sipush (v := 315) dX12_setsKept_84 (by decide) ?_
      refine hf_iald_k (j := 315) (by decide) dX12_setsKept_87 (hs.2.1 158 _ rfl) (hf_lin hs 158 rfl) (hf_vin (by decide)) ?_
      exact hf_callV (c := 12) (as := [.int x1, .int (I 158 315)]) ok_X12_isBarred dX12_setsKept_88 hw1256 hw1257 hw1625 (hs.2.1 156 _ rfl) (by decide) (hf_lin hs 156 rfl) rfl (Nat.le_of_ble_eq_true rfl) rfl (Nat.le_of_ble_eq_true rfl) (Nat.zero_le _) (Nat.zero_le _) h
  · replace h := h.2 hc
    refine hf_aload_n dX12_setsKept_46 rfl rfl ?_
    refine hf_bipush (v := 26) dX12_setsKept_47 (by decide) ?_
    refine hf_aload_n dX12_setsKept_49 rfl rfl ?_
    refine hf_getr (b := 158) (c := 12) (j := 2) dX12_setsKept_50 (hs.2.1 156 _ rfl) (hf_lin hs 156 rfl) (by decide) (by decide) hw1038 rfl (hs.2.2 156 2 _ rfl) ?_
    refine hf_sipush (v := 315) dX12_setsKept_53 (by decide) ?_
    refine hf_iald_k (j := 315) (by decide) dX12_setsKept_56 (hs.2.1 158 _ rfl) (hf_lin hs 158 rfl) (hf_vin (by decide)) ?_
    refine hf_callV (c := 12) (as := [.int 26, .int (I 158 315)]) ok_X12_hairsOf dX12_setsKept_57 hw1202 hw1203 hw1609 (hs.2.1 156 _ rfl) (by decide) (hf_lin hs 156 rfl) rfl (Nat.le_of_ble_eq_true rfl) rfl (Nat.le_of_ble_eq_true rfl) (Nat.zero_le _) (Nat.zero_le _) ?_
    show hf_G X Y_X12_hairsOf d _ _ 0 [some (.ref 156), some (.int 26), some (.int (I 158 315))] [] (t, T, I, L, P) _
    refine hf_aload_n dX12_hairsOf_0 rfl rfl ?_
    refine hf_getr (b := 158) (c := 12) (j := 2) dX12_hairsOf_1 (hs.2.1 156 _ rfl) (hf_lin hs 156 rfl) (by decide) (by decide) hw1038 rfl (hs.2.2 156 2 _ rfl) ?_
    refine hf_bipush (v := 26) dX12_hairsOf_4 (by decide) ?_
    refine hf_iload_n dX12_hairsOf_6 rfl rfl ?_
    refine hf_iadd dX12_hairsOf_7 ?_
    rw [show ((26 + 26) : Int32) = 52 by decide]
    refine hf_iald_k (j := 52) (by decide) dX12_hairsOf_8 (hs.2.1 158 _ rfl) (hf_lin hs 158 rfl) (hf_vin (by decide)) ?_
    refine hf_iload_n dX12_hairsOf_9 rfl rfl ?_
    refine hf_iconst (v := 2) dX12_hairsOf_10 (by decide) ?_
    refine hf_iadd dX12_hairsOf_11 ?_
    refine hf_imul dX12_hairsOf_12 ?_
    refine hf_iconst (v := 2) dX12_hairsOf_13 (by decide) ?_
    refine hf_idiv dX12_hairsOf_14 (by decide) ?_
    refine hf_ireturn dX12_hairsOf_15 rfl rfl ?_
    show hf_G X Y_X12_setsKept (d + 1) _ _ 60 [some (.ref 156), some (.int x1), some (.int x2), none] [.int (((I 158 52) * ((I 158 315) + 2)) / 2), .int s1] (t, T, I, L, P) _
    refine hf_goto (tgt := 64) dX12_setsKept_60 (by decide) ?_
    refine hf_iadd dX12_setsKept_64 ?_
    refine hf_istore_n (l2 := [some (.ref 156), some (.int x1), some (.int x2), some (.int (s1 + (((I 158 52) * ((I 158 315) + 2)) / 2)))]) dX12_setsKept_65 rfl (by decide) rfl ?_
    refine hf_iload_n dX12_setsKept_66 rfl rfl ?_
    refine hf_aload_n dX12_setsKept_67 rfl rfl ?_
    refine hf_getr (b := 158) (c := 12) (j := 2) dX12_setsKept_68 (hs.2.1 156 _ rfl) (hf_lin hs 156 rfl) (by decide) (by decide) hw1038 rfl (hs.2.2 156 2 _ rfl) ?_
    refine hf_sipush (v := 313) dX12_setsKept_71 (by decide) ?_
    refine hf_iald_k (j := 313) (by decide) dX12_setsKept_74 (hs.2.1 158 _ rfl) (hf_lin hs 158 rfl) (hf_vin (by decide)) ?_
    refine hf_icmp_gt (tgt := 94) dX12_setsKept_75 (by decide) (fun hc => ?_) (fun hc => ?_)
    · replace h := h.1 hc
      refine hf_bipush (v := (-3)) dX12_setsKept_94 (by decide) ?_
      refine hf_ireturn dX12_setsKept_96 rfl rfl ?_
      exact h
    · replace h := h.2 hc
      refine hf_aload_n dX12_setsKept_78 rfl rfl ?_
      refine hf_iload_n dX12_setsKept_79 rfl rfl ?_
      refine hf_aload_n dX12_setsKept_80 rfl rfl ?_
      refine hf_getr (b := 158) (c := 12) (j := 2) dX12_setsKept_81 (hs.2.1 156 _ rfl) (hf_lin hs 156 rfl) (by decide) (by decide) hw1038 rfl (hs.2.2 156 2 _ rfl) ?_
      refine hf_sipush (v := 315) dX12_setsKept_84 (by decide) ?_
      refine hf_iald_k (j := 315) (by decide) dX12_setsKept_87 (hs.2.1 158 _ rfl) (hf_lin hs 158 rfl) (hf_vin (by decide)) ?_
      exact hf_callV (c := 12) (as := [.int x1, .int (I 158 315)]) ok_X12_isBarred dX12_setsKept_88 hw1256 hw1257 hw1625 (hs.2.1 156 _ rfl) (by decide) (hf_lin hs 156 rfl) rfl (Nat.le_of_ble_eq_true rfl) rfl (Nat.le_of_ble_eq_true rfl) (Nat.zero_le _) (Nat.zero_le _) h

set_option maxHeartbeats 4000000 in
theorem w_X12_setsKept_91 {X : hf_X} {d k n t : Nat} {T : hf_T} {I : hf_I} {L : hf_L} {P : hf_P} {Q : Option Value → hf_M → Prop} {x1 : Int32} {x2 : Int32} {x3 : Int32} {s0 : Int32} (hs : hf_Lay t T P) (h : (s0 = 0 → (¬ (I 158 24) = 12 → hf_G X Y_X12_keeps d 0 0 0 (hf_en [.ref 156, .int 0] 4) [] (t, T, I, L, P) (fun r M => hf_G X Y_X12_setsKept (d + 1) k n 117 [some (.ref 156), some (.int x1), some (.int x2), some (.int x3)] (r.toList ++ []) M Q)) ∧ ((I 158 24) = 12 → Q (some (.int (-5))) (t, T, I, L, P))) ∧ (¬ (s0 = 0) → Q (some (.int (-3))) (t, T, I, L, P))) : hf_G X Y_X12_setsKept (d + 1) k n 91 [some (.ref 156), some (.int x1), some (.int x2), some (.int x3)] [.int s0] (t, T, I, L, P) Q := by
  refine hf_if_eq (tgt := 97) dX12_setsKept_91 (by decide) (fun hc => ?_) (fun hc => ?_)
  · replace h := h.1 hc
    refine hf_aload_n dX12_setsKept_97 rfl rfl ?_
    refine hf_getr (b := 158) (c := 12) (j := 2) dX12_setsKept_98 (hs.2.1 156 _ rfl) (hf_lin hs 156 rfl) (by decide) (by decide) hw1038 rfl (hs.2.2 156 2 _ rfl) ?_
    refine hf_bipush (v := 24) dX12_setsKept_101 (by decide) ?_
    refine hf_iald_k (j := 24) (by decide) dX12_setsKept_103 (hs.2.1 158 _ rfl) (hf_lin hs 158 rfl) (hf_vin (by decide)) ?_
    refine hf_bipush (v := 12) dX12_setsKept_104 (by decide) ?_
    refine hf_icmp_ne (tgt := 112) dX12_setsKept_106 (by decide) (fun hc => ?_) (fun hc => ?_)
    · replace h := h.1 hc
      refine hf_aload_n dX12_setsKept_112 rfl rfl ?_
      refine hf_iconst (v := 0) dX12_setsKept_113 (by decide) ?_
      exact hf_callV (c := 12) (as := [.int 0]) ok_X12_keeps dX12_setsKept_114 hw1402 hw1403 hw1653 (hs.2.1 156 _ rfl) (by decide) (hf_lin hs 156 rfl) rfl (Nat.le_of_ble_eq_true rfl) rfl (Nat.le_of_ble_eq_true rfl) (Nat.zero_le _) (Nat.zero_le _) h
    · replace h := h.2 hc
      refine hf_bipush (v := (-5)) dX12_setsKept_109 (by decide) ?_
      refine hf_ireturn dX12_setsKept_111 rfl rfl ?_
      exact h
  · replace h := h.2 hc
    refine hf_bipush (v := (-3)) dX12_setsKept_94 (by decide) ?_
    refine hf_ireturn dX12_setsKept_96 rfl rfl ?_
    exact h

set_option maxHeartbeats 4000000 in
theorem w_X12_setsKept_117 {X : hf_X} {d k n t : Nat} {T : hf_T} {I : hf_I} {L : hf_L} {P : hf_P} {Q : Option Value → hf_M → Prop} {x1 : Int32} {x2 : Int32} {x3 : Int32} (hs : hf_Lay t T P) (h : vp_in (0 + (I 158 24)) 5929 ∧ (vp_in (12 + ((hf_up I 158 (((0 + (I 158 24))).toNatClampNeg) x1) 158 24)) 5929 ∧ (Q (some (.int (((hf_up (hf_up (hf_up I 158 (((0 + (I 158 24))).toNatClampNeg) x1) 158 (((12 + ((hf_up I 158 (((0 + (I 158 24))).toNatClampNeg) x1) 158 24))).toNatClampNeg) x2) 158 24 (((hf_up (hf_up I 158 (((0 + (I 158 24))).toNatClampNeg) x1) 158 (((12 + ((hf_up I 158 (((0 + (I 158 24))).toNatClampNeg) x1) 158 24))).toNatClampNeg) x2) 158 24) + 1)) 158 313) - x3))) (t, T, (hf_up (hf_up (hf_up I 158 (((0 + (I 158 24))).toNatClampNeg) x1) 158 (((12 + ((hf_up I 158 (((0 + (I 158 24))).toNatClampNeg) x1) 158 24))).toNatClampNeg) x2) 158 24 (((hf_up (hf_up I 158 (((0 + (I 158 24))).toNatClampNeg) x1) 158 (((12 + ((hf_up I 158 (((0 + (I 158 24))).toNatClampNeg) x1) 158 24))).toNatClampNeg) x2) 158 24) + 1)), L, P)))) : hf_G X Y_X12_setsKept d k n 117 [some (.ref 156), some (.int x1), some (.int x2), some (.int x3)] [] (t, T, I, L, P) Q := by
  refine hf_aload_n dX12_setsKept_117 rfl rfl ?_
  refine hf_getr (b := 158) (c := 12) (j := 2) dX12_setsKept_118 (hs.2.1 156 _ rfl) (hf_lin hs 156 rfl) (by decide) (by decide) hw1038 rfl (hs.2.2 156 2 _ rfl) ?_
  refine hf_iconst (v := 0) dX12_setsKept_121 (by decide) ?_
  refine hf_aload_n dX12_setsKept_122 rfl rfl ?_
  refine hf_getr (b := 158) (c := 12) (j := 2) dX12_setsKept_123 (hs.2.1 156 _ rfl) (hf_lin hs 156 rfl) (by decide) (by decide) hw1038 rfl (hs.2.2 156 2 _ rfl) ?_
  refine hf_bipush (v := 24) dX12_setsKept_126 (by decide) ?_
  refine hf_iald_k (j := 24) (by decide) dX12_setsKept_128 (hs.2.1 158 _ rfl) (hf_lin hs 158 rfl) (hf_vin (by decide)) ?_
  refine hf_iadd dX12_setsKept_129 ?_
  refine hf_iload_n dX12_setsKept_130 rfl rfl ?_
  refine hf_iast dX12_setsKept_131 (hs.2.1 158 _ rfl) (hf_lin hs 158 rfl) h.1 ?_
  replace h := h.2
  refine hf_aload_n dX12_setsKept_132 rfl rfl ?_
  refine hf_getr (b := 158) (c := 12) (j := 2) dX12_setsKept_133 (hs.2.1 156 _ rfl) (hf_lin hs 156 rfl) (by decide) (by decide) hw1038 rfl (hs.2.2 156 2 _ rfl) ?_
  refine hf_bipush (v := 12) dX12_setsKept_136 (by decide) ?_
  refine hf_aload_n dX12_setsKept_138 rfl rfl ?_
  refine hf_getr (b := 158) (c := 12) (j := 2) dX12_setsKept_139 (hs.2.1 156 _ rfl) (hf_lin hs 156 rfl) (by decide) (by decide) hw1038 rfl (hs.2.2 156 2 _ rfl) ?_
  refine hf_bipush (v := 24) dX12_setsKept_142 (by decide) ?_
  refine hf_iald_k (j := 24) (by decide) dX12_setsKept_144 (hs.2.1 158 _ rfl) (hf_lin hs 158 rfl) (hf_vin (by decide)) ?_
  refine hf_iadd dX12_setsKept_145 ?_
  refine hf_iload_n dX12_setsKept_146 rfl rfl ?_
  refine hf_iast dX12_setsKept_147 (hs.2.1 158 _ rfl) (hf_lin hs 158 rfl) h.1 ?_
  replace h := h.2
  refine hf_aload_n dX12_setsKept_148 rfl rfl ?_
  refine hf_getr (b := 158) (c := 12) (j := 2) dX12_setsKept_149 (hs.2.1 156 _ rfl) (hf_lin hs 156 rfl) (by decide) (by decide) hw1038 rfl (hs.2.2 156 2 _ rfl) ?_
  refine hf_bipush (v := 24) dX12_setsKept_152 (by decide) ?_
  refine hf_dup2 dX12_setsKept_154 rfl rfl ?_
  refine hf_iald_k (j := 24) (by decide) dX12_setsKept_155 (hs.2.1 158 _ rfl) (hf_lin hs 158 rfl) (hf_vin (by decide)) ?_
  refine hf_iconst (v := 1) dX12_setsKept_156 (by decide) ?_
  refine hf_iadd dX12_setsKept_157 ?_
  refine hf_iast_k (j := 24) (by decide) dX12_setsKept_158 (hs.2.1 158 _ rfl) (hf_lin hs 158 rfl) (hf_vin (by decide)) ?_
  refine hf_aload_n dX12_setsKept_159 rfl rfl ?_
  refine hf_getr (b := 158) (c := 12) (j := 2) dX12_setsKept_160 (hs.2.1 156 _ rfl) (hf_lin hs 156 rfl) (by decide) (by decide) hw1038 rfl (hs.2.2 156 2 _ rfl) ?_
  refine hf_sipush (v := 313) dX12_setsKept_163 (by decide) ?_
  refine hf_iald_k (j := 313) (by decide) dX12_setsKept_166 (hs.2.1 158 _ rfl) (hf_lin hs 158 rfl) (hf_vin (by decide)) ?_
  refine hf_iload_n dX12_setsKept_167 rfl rfl ?_
  refine hf_isub dX12_setsKept_168 ?_
  refine hf_ireturn dX12_setsKept_169 rfl rfl ?_
  exact h

set_option maxHeartbeats 4000000 in
theorem w_X12_turnsKept_0 {X : hf_X} {d k n t : Nat} {T : hf_T} {I : hf_I} {L : hf_L} {P : hf_P} {Q : Option Value → hf_M → Prop}  (hs : hf_Lay t T P) (h : hf_G X Y_X12_manyIn d 0 0 0 (hf_en [.ref 156, .int (I 158 25)] 4) [] (t, T, I, L, P) (fun r M => hf_G X Y_X12_turnsKept (d + 1) k n 11 [some (.ref 156)] (r.toList ++ []) M Q)) : hf_G X Y_X12_turnsKept (d + 1) k n 0 (hf_en [.ref 156] 1) [] (t, T, I, L, P) Q := by
  show hf_G X Y_X12_turnsKept (d + 1) k n 0 [some (.ref 156)] [] (t, T, I, L, P) Q
  refine hf_aload_n dX12_turnsKept_0 rfl rfl ?_
  refine hf_aload_n dX12_turnsKept_1 rfl rfl ?_
  refine hf_getr (b := 158) (c := 12) (j := 2) dX12_turnsKept_2 (hs.2.1 156 _ rfl) (hf_lin hs 156 rfl) (by decide) (by decide) hw1038 rfl (hs.2.2 156 2 _ rfl) ?_
  refine hf_bipush (v := 25) dX12_turnsKept_5 (by decide) ?_
  refine hf_iald_k (j := 25) (by decide) dX12_turnsKept_7 (hs.2.1 158 _ rfl) (hf_lin hs 158 rfl) (hf_vin (by decide)) ?_
  exact hf_callV (c := 12) (as := [.int (I 158 25)]) ok_X12_manyIn dX12_turnsKept_8 hw1366 hw1367 hw1646 (hs.2.1 156 _ rfl) (by decide) (hf_lin hs 156 rfl) rfl (Nat.le_of_ble_eq_true rfl) rfl (Nat.le_of_ble_eq_true rfl) (Nat.zero_le _) (Nat.zero_le _) h

set_option maxHeartbeats 4000000 in
theorem w_X12_turnsKept_11 {X : hf_X} {d k n t : Nat} {T : hf_T} {I : hf_I} {L : hf_L} {P : hf_P} {Q : Option Value → hf_M → Prop} {s0 : Int32} (hs : hf_Lay t T P) (h : (s0 = 0 → Q (some (.int (-3))) (t, T, I, L, P)) ∧ (¬ (s0 = 0) → (((I 158 25) + 1) < (I 158 314) → hf_G X Y_X12_keeps d 0 0 0 (hf_en [.ref 156, .int 1] 4) [] (t, T, I, L, P) (fun r M => hf_G X Y_X12_turnsKept (d + 1) k n 42 [some (.ref 156)] (r.toList ++ []) M Q)) ∧ (¬ (((I 158 25) + 1) < (I 158 314)) → Q (some (.int (-3))) (t, T, I, L, P)))) : hf_G X Y_X12_turnsKept (d + 1) k n 11 [some (.ref 156)] [.int s0] (t, T, I, L, P) Q := by
  refine hf_if_eq (tgt := 34) dX12_turnsKept_11 (by decide) (fun hc => ?_) (fun hc => ?_)
  · replace h := h.1 hc
    refine hf_bipush (v := (-3)) dX12_turnsKept_34 (by decide) ?_
    refine hf_ireturn dX12_turnsKept_36 rfl rfl ?_
    exact h
  · replace h := h.2 hc
    refine hf_aload_n dX12_turnsKept_14 rfl rfl ?_
    refine hf_getr (b := 158) (c := 12) (j := 2) dX12_turnsKept_15 (hs.2.1 156 _ rfl) (hf_lin hs 156 rfl) (by decide) (by decide) hw1038 rfl (hs.2.2 156 2 _ rfl) ?_
    refine hf_bipush (v := 25) dX12_turnsKept_18 (by decide) ?_
    refine hf_iald_k (j := 25) (by decide) dX12_turnsKept_20 (hs.2.1 158 _ rfl) (hf_lin hs 158 rfl) (hf_vin (by decide)) ?_
    refine hf_iconst (v := 1) dX12_turnsKept_21 (by decide) ?_
    refine hf_iadd dX12_turnsKept_22 ?_
    refine hf_aload_n dX12_turnsKept_23 rfl rfl ?_
    refine hf_getr (b := 158) (c := 12) (j := 2) dX12_turnsKept_24 (hs.2.1 156 _ rfl) (hf_lin hs 156 rfl) (by decide) (by decide) hw1038 rfl (hs.2.2 156 2 _ rfl) ?_
    refine hf_sipush (v := 314) dX12_turnsKept_27 (by decide) ?_
    refine hf_iald_k (j := 314) (by decide) dX12_turnsKept_30 (hs.2.1 158 _ rfl) (hf_lin hs 158 rfl) (hf_vin (by decide)) ?_
    refine hf_icmp_lt (tgt := 37) dX12_turnsKept_31 (by decide) (fun hc => ?_) (fun hc => ?_)
    · replace h := h.1 hc
      refine hf_aload_n dX12_turnsKept_37 rfl rfl ?_
      refine hf_iconst (v := 1) dX12_turnsKept_38 (by decide) ?_
      exact hf_callV (c := 12) (as := [.int 1]) ok_X12_keeps dX12_turnsKept_39 hw1402 hw1403 hw1653 (hs.2.1 156 _ rfl) (by decide) (hf_lin hs 156 rfl) rfl (Nat.le_of_ble_eq_true rfl) rfl (Nat.le_of_ble_eq_true rfl) (Nat.zero_le _) (Nat.zero_le _) h
    · replace h := h.2 hc
      refine hf_bipush (v := (-3)) dX12_turnsKept_34 (by decide) ?_
      refine hf_ireturn dX12_turnsKept_36 rfl rfl ?_
      exact h

set_option maxHeartbeats 4000000 in
theorem w_X12_turnsKept_42 {X : hf_X} {d k n t : Nat} {T : hf_T} {I : hf_I} {L : hf_L} {P : hf_P} {Q : Option Value → hf_M → Prop}  (hs : hf_Lay t T P) (h : Q (some (.int ((I 158 25) + 1))) (t, T, (hf_up I 158 25 ((I 158 25) + 1)), L, P)) : hf_G X Y_X12_turnsKept d k n 42 [some (.ref 156)] [] (t, T, I, L, P) Q := by
  refine hf_aload_n dX12_turnsKept_42 rfl rfl ?_
  refine hf_getr (b := 158) (c := 12) (j := 2) dX12_turnsKept_43 (hs.2.1 156 _ rfl) (hf_lin hs 156 rfl) (by decide) (by decide) hw1038 rfl (hs.2.2 156 2 _ rfl) ?_
  refine hf_bipush (v := 25) dX12_turnsKept_46 (by decide) ?_
  refine hf_dup2 dX12_turnsKept_48 rfl rfl ?_
  refine hf_iald_k (j := 25) (by decide) dX12_turnsKept_49 (hs.2.1 158 _ rfl) (hf_lin hs 158 rfl) (hf_vin (by decide)) ?_
  refine hf_iconst (v := 1) dX12_turnsKept_50 (by decide) ?_
  refine hf_iadd dX12_turnsKept_51 ?_
  refine hf_iast_k (j := 25) (by decide) dX12_turnsKept_52 (hs.2.1 158 _ rfl) (hf_lin hs 158 rfl) (hf_vin (by decide)) ?_
  refine hf_aload_n dX12_turnsKept_53 rfl rfl ?_
  refine hf_getr (b := 158) (c := 12) (j := 2) dX12_turnsKept_54 (hs.2.1 156 _ rfl) (hf_lin hs 156 rfl) (by decide) (by decide) hw1038 rfl (hs.2.2 156 2 _ rfl) ?_
  refine hf_bipush (v := 25) dX12_turnsKept_57 (by decide) ?_
  refine hf_iald_k (j := 25) (by decide) dX12_turnsKept_59 (hs.2.1 158 _ rfl) (hf_lin hs 158 rfl) (hf_vin (by decide)) ?_
  refine hf_ireturn dX12_turnsKept_60 rfl rfl ?_
  exact h

set_option maxHeartbeats 4000000 in
theorem w_X12_clearsKept_0 {X : hf_X} {d k n t : Nat} {T : hf_T} {I : hf_I} {L : hf_L} {P : hf_P} {Q : Option Value → hf_M → Prop}  (hs : hf_Lay t T P) (h : (¬ (I 158 24) = 0 → hf_G X Y_X12_keeps d 0 0 0 (hf_en [.ref 156, .int 2] 4) [] (t, T, I, L, P) (fun r M => hf_G X Y_X12_clearsKept (d + 1) k n 20 [some (.ref 156), some (.int (I 158 24))] (r.toList ++ []) M Q)) ∧ ((I 158 24) = 0 → Q (some (.int (-3))) (t, T, I, L, P))) : hf_G X Y_X12_clearsKept (d + 1) k n 0 (hf_en [.ref 156] 2) [] (t, T, I, L, P) Q := by
  show hf_G X Y_X12_clearsKept (d + 1) k n 0 [some (.ref 156), none] [] (t, T, I, L, P) Q
  refine hf_aload_n dX12_clearsKept_0 rfl rfl ?_
  refine hf_getr (b := 158) (c := 12) (j := 2) dX12_clearsKept_1 (hs.2.1 156 _ rfl) (hf_lin hs 156 rfl) (by decide) (by decide) hw1038 rfl (hs.2.2 156 2 _ rfl) ?_
  refine hf_bipush (v := 24) dX12_clearsKept_4 (by decide) ?_
  refine hf_iald_k (j := 24) (by decide) dX12_clearsKept_6 (hs.2.1 158 _ rfl) (hf_lin hs 158 rfl) (hf_vin (by decide)) ?_
  refine hf_istore_n (l2 := [some (.ref 156), some (.int (I 158 24))]) dX12_clearsKept_7 rfl (by decide) rfl ?_
  refine hf_iload_n dX12_clearsKept_8 rfl rfl ?_
  refine hf_if_ne (tgt := 15) dX12_clearsKept_9 (by decide) (fun hc => ?_) (fun hc => ?_)
  · replace h := h.1 hc
    refine hf_aload_n dX12_clearsKept_15 rfl rfl ?_
    refine hf_iconst (v := 2) dX12_clearsKept_16 (by decide) ?_
    exact hf_callV (c := 12) (as := [.int 2]) ok_X12_keeps dX12_clearsKept_17 hw1402 hw1403 hw1653 (hs.2.1 156 _ rfl) (by decide) (hf_lin hs 156 rfl) rfl (Nat.le_of_ble_eq_true rfl) rfl (Nat.le_of_ble_eq_true rfl) (Nat.zero_le _) (Nat.zero_le _) h
  · replace h := h.2 hc
    refine hf_bipush (v := (-3)) dX12_clearsKept_12 (by decide) ?_
    refine hf_ireturn dX12_clearsKept_14 rfl rfl ?_
    exact h

set_option maxHeartbeats 4000000 in
theorem w_X12_clearsKept_20 {X : hf_X} {d k n t : Nat} {T : hf_T} {I : hf_I} {L : hf_L} {P : hf_P} {Q : Option Value → hf_M → Prop} {x1 : Int32} (hs : hf_Lay t T P) (h : Q (some (.int x1)) (t, T, (hf_up (hf_up I 158 24 0) 158 25 0), L, P)) : hf_G X Y_X12_clearsKept d k n 20 [some (.ref 156), some (.int x1)] [] (t, T, I, L, P) Q := by
  refine hf_aload_n dX12_clearsKept_20 rfl rfl ?_
  refine hf_getr (b := 158) (c := 12) (j := 2) dX12_clearsKept_21 (hs.2.1 156 _ rfl) (hf_lin hs 156 rfl) (by decide) (by decide) hw1038 rfl (hs.2.2 156 2 _ rfl) ?_
  refine hf_bipush (v := 24) dX12_clearsKept_24 (by decide) ?_
  refine hf_iconst (v := 0) dX12_clearsKept_26 (by decide) ?_
  refine hf_iast_k (j := 24) (by decide) dX12_clearsKept_27 (hs.2.1 158 _ rfl) (hf_lin hs 158 rfl) (hf_vin (by decide)) ?_
  refine hf_aload_n dX12_clearsKept_28 rfl rfl ?_
  refine hf_getr (b := 158) (c := 12) (j := 2) dX12_clearsKept_29 (hs.2.1 156 _ rfl) (hf_lin hs 156 rfl) (by decide) (by decide) hw1038 rfl (hs.2.2 156 2 _ rfl) ?_
  refine hf_bipush (v := 25) dX12_clearsKept_32 (by decide) ?_
  refine hf_iconst (v := 0) dX12_clearsKept_34 (by decide) ?_
  refine hf_iast_k (j := 25) (by decide) dX12_clearsKept_35 (hs.2.1 158 _ rfl) (hf_lin hs 158 rfl) (hf_vin (by decide)) ?_
  refine hf_iload_n dX12_clearsKept_36 rfl rfl ?_
  refine hf_ireturn dX12_clearsKept_37 rfl rfl ?_
  exact h

set_option maxHeartbeats 4000000 in
theorem w_X12_set_0 {X : hf_X} {d k n t : Nat} {T : hf_T} {I : hf_I} {L : hf_L} {P : hf_P} {Q : Option Value → hf_M → Prop} {x1 : Int32} (hs : hf_Lay t T P) (h : hf_G X Y_X12_setsKept d 0 0 0 (hf_en [.ref 156, .int x1] 4) [] (t, T, I, L, P) (fun r M => hf_G X Y_X12_set (d + 1) k n 6 [none, none] (r.toList ++ [.ref 156]) M Q)) : hf_G X Y_X12_set (d + 1) k n 0 (hf_en [.ref 156, .int x1] 2) [] (t, T, I, L, P) Q := by
  show hf_G X Y_X12_set (d + 1) k n 0 [some (.ref 156), some (.int x1)] [] (t, T, I, L, P) Q
  refine hf_aload_n dX12_set_0 rfl rfl ?_
  refine hf_aload_n dX12_set_1 rfl rfl ?_
  refine hf_iload_n dX12_set_2 rfl rfl ?_
  exact hf_callV (c := 12) (as := [.int x1]) ok_X12_setsKept dX12_set_3 hw1399 hw1400 hw1652 (hs.2.1 156 _ rfl) (by decide) (hf_lin hs 156 rfl) rfl (Nat.le_of_ble_eq_true rfl) rfl (Nat.le_of_ble_eq_true rfl) (Nat.zero_le _) (Nat.zero_le _) (hf_mono (fun r M q => hf_drop (l' := [none, none]) (by simp [hf_sub]) q) h)

set_option maxHeartbeats 4000000 in
theorem w_X12_set_6 {X : hf_X} {d k n t : Nat} {T : hf_T} {I : hf_I} {L : hf_L} {P : hf_P} {Q : Option Value → hf_M → Prop} {s0 : Int32} (hs : hf_Lay t T P) (h : (0 ≤ s0 → Q (some (.int s0)) (t, T, (hf_up I 156 0 0), L, P)) ∧ (¬ (0 ≤ s0) → vp_in (-s0) 7 ∧ (vp_in (-s0) 7 ∧ (Q (some (.int s0)) (t, T, (hf_up (hf_up I 156 0 s0) 157 (((-s0)).toNatClampNeg) ((I 157 (((-s0)).toNatClampNeg)) + 1)), L, P))))) : hf_G X Y_X12_set (d + 2) k n 6 [none, none] [.int s0, .ref 156] (t, T, I, L, P) Q := by
  refine hf_callV (c := 12) (as := [.int s0]) ok_X12_goodOr dX12_set_6 hw1174 hw1175 hw1605 (hs.2.1 156 _ rfl) (by decide) (hf_lin hs 156 rfl) rfl (Nat.le_of_ble_eq_true rfl) rfl (Nat.le_of_ble_eq_true rfl) (Nat.zero_le _) (Nat.zero_le _) ?_
  show hf_G X Y_X12_goodOr (d + 1) _ _ 0 [some (.ref 156), some (.int s0)] [] (t, T, I, L, P) _
  refine hf_iload_n dX12_goodOr_0 rfl rfl ?_
  refine hf_if_ge (tgt := 12) dX12_goodOr_1 (by decide) (fun hc => ?_) (fun hc => ?_)
  · replace h := h.1 hc
    refine hf_aload_n dX12_goodOr_12 rfl rfl ?_
    refine hf_iload_n dX12_goodOr_13 rfl rfl ?_
    refine hf_callV (c := 12) (as := [.int s0]) ok_X12_good dX12_goodOr_14 hw1149 hw1150 hw1602 (hs.2.1 156 _ rfl) (by decide) (hf_lin hs 156 rfl) rfl (Nat.le_of_ble_eq_true rfl) rfl (Nat.le_of_ble_eq_true rfl) (Nat.zero_le _) (Nat.zero_le _) ?_
    show hf_G X Y_X12_good d _ _ 0 [some (.ref 156), some (.int s0)] [] (t, T, I, L, P) _
    refine hf_aload_n dX12_good_0 rfl rfl ?_
    refine hf_iconst (v := 0) dX12_good_1 (by decide) ?_
    refine hf_puti (c := 12) (j := 0) dX12_good_2 (hs.2.1 156 _ rfl) (hf_lin hs 156 rfl) (by decide) (by decide) hw1036 rfl rfl ?_
    refine hf_iload_n dX12_good_5 rfl rfl ?_
    refine hf_ireturn dX12_good_6 rfl rfl ?_
    show hf_G X Y_X12_goodOr (d + 1) _ _ 17 [some (.ref 156), some (.int s0)] [.int s0] (t, T, (hf_up I 156 0 0), L, P) _
    refine hf_ireturn dX12_goodOr_17 rfl rfl ?_
    show hf_G X Y_X12_set (d + 2) _ _ 9 [none, none] [.int s0] (t, T, (hf_up I 156 0 0), L, P) _
    refine hf_ireturn dX12_set_9 rfl rfl ?_
    exact h
  · replace h := h.2 hc
    refine hf_aload_n dX12_goodOr_4 rfl rfl ?_
    refine hf_iload_n dX12_goodOr_5 rfl rfl ?_
    refine hf_callV (c := 12) (as := [.int s0]) ok_X12_refuses dX12_goodOr_6 hw1146 hw1147 hw1601 (hs.2.1 156 _ rfl) (by decide) (hf_lin hs 156 rfl) rfl (Nat.le_of_ble_eq_true rfl) rfl (Nat.le_of_ble_eq_true rfl) (Nat.zero_le _) (Nat.zero_le _) ?_
    show hf_G X Y_X12_refuses d _ _ 0 [some (.ref 156), some (.int s0)] [] (t, T, I, L, P) _
    refine hf_aload_n dX12_refuses_0 rfl rfl ?_
    refine hf_iload_n dX12_refuses_1 rfl rfl ?_
    refine hf_puti (c := 12) (j := 0) dX12_refuses_2 (hs.2.1 156 _ rfl) (hf_lin hs 156 rfl) (by decide) (by decide) hw1036 rfl rfl ?_
    refine hf_aload_n dX12_refuses_5 rfl rfl ?_
    refine hf_getr (b := 157) (c := 12) (j := 1) dX12_refuses_6 (hs.2.1 156 _ rfl) (hf_lin hs 156 rfl) (by decide) (by decide) hw1037 rfl (hs.2.2 156 1 _ rfl) ?_
    refine hf_iload_n dX12_refuses_9 rfl rfl ?_
    refine hf_ineg dX12_refuses_10 ?_
    refine hf_dup2 dX12_refuses_11 rfl rfl ?_
    refine hf_iald dX12_refuses_12 (hs.2.1 157 _ rfl) (hf_lin hs 157 rfl) h.1 ?_
    replace h := h.2
    refine hf_iconst (v := 1) dX12_refuses_13 (by decide) ?_
    refine hf_iadd dX12_refuses_14 ?_
    refine hf_iast dX12_refuses_15 (hs.2.1 157 _ rfl) (hf_lin hs 157 rfl) h.1 ?_
    replace h := h.2
    refine hf_iload_n dX12_refuses_16 rfl rfl ?_
    refine hf_ireturn dX12_refuses_17 rfl rfl ?_
    show hf_G X Y_X12_goodOr (d + 1) _ _ 9 [some (.ref 156), some (.int s0)] [.int s0] (t, T, (hf_up (hf_up I 156 0 s0) 157 (((-s0)).toNatClampNeg) ((I 157 (((-s0)).toNatClampNeg)) + 1)), L, P) _
    refine hf_goto (tgt := 17) dX12_goodOr_9 (by decide) ?_
    refine hf_ireturn dX12_goodOr_17 rfl rfl ?_
    show hf_G X Y_X12_set (d + 2) _ _ 9 [none, none] [.int s0] (t, T, (hf_up (hf_up I 156 0 s0) 157 (((-s0)).toNatClampNeg) ((I 157 (((-s0)).toNatClampNeg)) + 1)), L, P) _
    refine hf_ireturn dX12_set_9 rfl rfl ?_
    exact h

set_option maxHeartbeats 4000000 in
theorem w_X12_turn_0 {X : hf_X} {d k n t : Nat} {T : hf_T} {I : hf_I} {L : hf_L} {P : hf_P} {Q : Option Value → hf_M → Prop}  (hs : hf_Lay t T P) (h : hf_G X Y_X12_turnsKept d 0 0 0 (hf_en [.ref 156] 1) [] (t, T, I, L, P) (fun r M => hf_G X Y_X12_turn (d + 1) k n 5 [none] (r.toList ++ [.ref 156]) M Q)) : hf_G X Y_X12_turn (d + 1) k n 0 (hf_en [.ref 156] 1) [] (t, T, I, L, P) Q := by
  show hf_G X Y_X12_turn (d + 1) k n 0 [some (.ref 156)] [] (t, T, I, L, P) Q
  refine hf_aload_n dX12_turn_0 rfl rfl ?_
  refine hf_aload_n dX12_turn_1 rfl rfl ?_
  exact hf_callV (c := 12) (as := []) ok_X12_turnsKept dX12_turn_2 hw1409 hw1410 hw1654 (hs.2.1 156 _ rfl) (by decide) (hf_lin hs 156 rfl) rfl (Nat.le_of_ble_eq_true rfl) rfl (Nat.le_of_ble_eq_true rfl) (Nat.zero_le _) (Nat.zero_le _) (hf_mono (fun r M q => hf_drop (l' := [none]) (by simp [hf_sub]) q) h)

set_option maxHeartbeats 4000000 in
theorem w_X12_turn_5 {X : hf_X} {d k n t : Nat} {T : hf_T} {I : hf_I} {L : hf_L} {P : hf_P} {Q : Option Value → hf_M → Prop} {s0 : Int32} (hs : hf_Lay t T P) (h : (0 ≤ s0 → Q (some (.int s0)) (t, T, (hf_up I 156 0 0), L, P)) ∧ (¬ (0 ≤ s0) → vp_in (-s0) 7 ∧ (vp_in (-s0) 7 ∧ (Q (some (.int s0)) (t, T, (hf_up (hf_up I 156 0 s0) 157 (((-s0)).toNatClampNeg) ((I 157 (((-s0)).toNatClampNeg)) + 1)), L, P))))) : hf_G X Y_X12_turn (d + 2) k n 5 [none] [.int s0, .ref 156] (t, T, I, L, P) Q := by
  refine hf_callV (c := 12) (as := [.int s0]) ok_X12_goodOr dX12_turn_5 hw1174 hw1175 hw1605 (hs.2.1 156 _ rfl) (by decide) (hf_lin hs 156 rfl) rfl (Nat.le_of_ble_eq_true rfl) rfl (Nat.le_of_ble_eq_true rfl) (Nat.zero_le _) (Nat.zero_le _) ?_
  show hf_G X Y_X12_goodOr (d + 1) _ _ 0 [some (.ref 156), some (.int s0)] [] (t, T, I, L, P) _
  refine hf_iload_n dX12_goodOr_0 rfl rfl ?_
  refine hf_if_ge (tgt := 12) dX12_goodOr_1 (by decide) (fun hc => ?_) (fun hc => ?_)
  · replace h := h.1 hc
    refine hf_aload_n dX12_goodOr_12 rfl rfl ?_
    refine hf_iload_n dX12_goodOr_13 rfl rfl ?_
    refine hf_callV (c := 12) (as := [.int s0]) ok_X12_good dX12_goodOr_14 hw1149 hw1150 hw1602 (hs.2.1 156 _ rfl) (by decide) (hf_lin hs 156 rfl) rfl (Nat.le_of_ble_eq_true rfl) rfl (Nat.le_of_ble_eq_true rfl) (Nat.zero_le _) (Nat.zero_le _) ?_
    show hf_G X Y_X12_good d _ _ 0 [some (.ref 156), some (.int s0)] [] (t, T, I, L, P) _
    refine hf_aload_n dX12_good_0 rfl rfl ?_
    refine hf_iconst (v := 0) dX12_good_1 (by decide) ?_
    refine hf_puti (c := 12) (j := 0) dX12_good_2 (hs.2.1 156 _ rfl) (hf_lin hs 156 rfl) (by decide) (by decide) hw1036 rfl rfl ?_
    refine hf_iload_n dX12_good_5 rfl rfl ?_
    refine hf_ireturn dX12_good_6 rfl rfl ?_
    show hf_G X Y_X12_goodOr (d + 1) _ _ 17 [some (.ref 156), some (.int s0)] [.int s0] (t, T, (hf_up I 156 0 0), L, P) _
    refine hf_ireturn dX12_goodOr_17 rfl rfl ?_
    show hf_G X Y_X12_turn (d + 2) _ _ 8 [none] [.int s0] (t, T, (hf_up I 156 0 0), L, P) _
    refine hf_ireturn dX12_turn_8 rfl rfl ?_
    exact h
  · replace h := h.2 hc
    refine hf_aload_n dX12_goodOr_4 rfl rfl ?_
    refine hf_iload_n dX12_goodOr_5 rfl rfl ?_
    refine hf_callV (c := 12) (as := [.int s0]) ok_X12_refuses dX12_goodOr_6 hw1146 hw1147 hw1601 (hs.2.1 156 _ rfl) (by decide) (hf_lin hs 156 rfl) rfl (Nat.le_of_ble_eq_true rfl) rfl (Nat.le_of_ble_eq_true rfl) (Nat.zero_le _) (Nat.zero_le _) ?_
    show hf_G X Y_X12_refuses d _ _ 0 [some (.ref 156), some (.int s0)] [] (t, T, I, L, P) _
    refine hf_aload_n dX12_refuses_0 rfl rfl ?_
    refine hf_iload_n dX12_refuses_1 rfl rfl ?_
    refine hf_puti (c := 12) (j := 0) dX12_refuses_2 (hs.2.1 156 _ rfl) (hf_lin hs 156 rfl) (by decide) (by decide) hw1036 rfl rfl ?_
    refine hf_aload_n dX12_refuses_5 rfl rfl ?_
    refine hf_getr (b := 157) (c := 12) (j := 1) dX12_refuses_6 (hs.2.1 156 _ rfl) (hf_lin hs 156 rfl) (by decide) (by decide) hw1037 rfl (hs.2.2 156 1 _ rfl) ?_
    refine hf_iload_n dX12_refuses_9 rfl rfl ?_
    refine hf_ineg dX12_refuses_10 ?_
    refine hf_dup2 dX12_refuses_11 rfl rfl ?_
    refine hf_iald dX12_refuses_12 (hs.2.1 157 _ rfl) (hf_lin hs 157 rfl) h.1 ?_
    replace h := h.2
    refine hf_iconst (v := 1) dX12_refuses_13 (by decide) ?_
    refine hf_iadd dX12_refuses_14 ?_
    refine hf_iast dX12_refuses_15 (hs.2.1 157 _ rfl) (hf_lin hs 157 rfl) h.1 ?_
    replace h := h.2
    refine hf_iload_n dX12_refuses_16 rfl rfl ?_
    refine hf_ireturn dX12_refuses_17 rfl rfl ?_
    show hf_G X Y_X12_goodOr (d + 1) _ _ 9 [some (.ref 156), some (.int s0)] [.int s0] (t, T, (hf_up (hf_up I 156 0 s0) 157 (((-s0)).toNatClampNeg) ((I 157 (((-s0)).toNatClampNeg)) + 1)), L, P) _
    refine hf_goto (tgt := 17) dX12_goodOr_9 (by decide) ?_
    refine hf_ireturn dX12_goodOr_17 rfl rfl ?_
    show hf_G X Y_X12_turn (d + 2) _ _ 8 [none] [.int s0] (t, T, (hf_up (hf_up I 156 0 s0) 157 (((-s0)).toNatClampNeg) ((I 157 (((-s0)).toNatClampNeg)) + 1)), L, P) _
    refine hf_ireturn dX12_turn_8 rfl rfl ?_
    exact h

set_option maxHeartbeats 4000000 in
theorem w_X12_clear_0 {X : hf_X} {d k n t : Nat} {T : hf_T} {I : hf_I} {L : hf_L} {P : hf_P} {Q : Option Value → hf_M → Prop}  (hs : hf_Lay t T P) (h : hf_G X Y_X12_clearsKept d 0 0 0 (hf_en [.ref 156] 2) [] (t, T, I, L, P) (fun r M => hf_G X Y_X12_clear (d + 1) k n 5 [none] (r.toList ++ [.ref 156]) M Q)) : hf_G X Y_X12_clear (d + 1) k n 0 (hf_en [.ref 156] 1) [] (t, T, I, L, P) Q := by
  show hf_G X Y_X12_clear (d + 1) k n 0 [some (.ref 156)] [] (t, T, I, L, P) Q
  refine hf_aload_n dX12_clear_0 rfl rfl ?_
  refine hf_aload_n dX12_clear_1 rfl rfl ?_
  exact hf_callV (c := 12) (as := []) ok_X12_clearsKept dX12_clear_2 hw1416 hw1417 hw1655 (hs.2.1 156 _ rfl) (by decide) (hf_lin hs 156 rfl) rfl (Nat.le_of_ble_eq_true rfl) rfl (Nat.le_of_ble_eq_true rfl) (Nat.zero_le _) (Nat.zero_le _) (hf_mono (fun r M q => hf_drop (l' := [none]) (by simp [hf_sub]) q) h)

set_option maxHeartbeats 4000000 in
theorem w_X12_clear_5 {X : hf_X} {d k n t : Nat} {T : hf_T} {I : hf_I} {L : hf_L} {P : hf_P} {Q : Option Value → hf_M → Prop} {s0 : Int32} (hs : hf_Lay t T P) (h : (0 ≤ s0 → Q (some (.int s0)) (t, T, (hf_up I 156 0 0), L, P)) ∧ (¬ (0 ≤ s0) → vp_in (-s0) 7 ∧ (vp_in (-s0) 7 ∧ (Q (some (.int s0)) (t, T, (hf_up (hf_up I 156 0 s0) 157 (((-s0)).toNatClampNeg) ((I 157 (((-s0)).toNatClampNeg)) + 1)), L, P))))) : hf_G X Y_X12_clear (d + 2) k n 5 [none] [.int s0, .ref 156] (t, T, I, L, P) Q := by
  refine hf_callV (c := 12) (as := [.int s0]) ok_X12_goodOr dX12_clear_5 hw1174 hw1175 hw1605 (hs.2.1 156 _ rfl) (by decide) (hf_lin hs 156 rfl) rfl (Nat.le_of_ble_eq_true rfl) rfl (Nat.le_of_ble_eq_true rfl) (Nat.zero_le _) (Nat.zero_le _) ?_
  show hf_G X Y_X12_goodOr (d + 1) _ _ 0 [some (.ref 156), some (.int s0)] [] (t, T, I, L, P) _
  refine hf_iload_n dX12_goodOr_0 rfl rfl ?_
  refine hf_if_ge (tgt := 12) dX12_goodOr_1 (by decide) (fun hc => ?_) (fun hc => ?_)
  · replace h := h.1 hc
    refine hf_aload_n dX12_goodOr_12 rfl rfl ?_
    refine hf_iload_n dX12_goodOr_13 rfl rfl ?_
    refine hf_callV (c := 12) (as := [.int s0]) ok_X12_good dX12_goodOr_14 hw1149 hw1150 hw1602 (hs.2.1 156 _ rfl) (by decide) (hf_lin hs 156 rfl) rfl (Nat.le_of_ble_eq_true rfl) rfl (Nat.le_of_ble_eq_true rfl) (Nat.zero_le _) (Nat.zero_le _) ?_
    show hf_G X Y_X12_good d _ _ 0 [some (.ref 156), some (.int s0)] [] (t, T, I, L, P) _
    refine hf_aload_n dX12_good_0 rfl rfl ?_
    refine hf_iconst (v := 0) dX12_good_1 (by decide) ?_
    refine hf_puti (c := 12) (j := 0) dX12_good_2 (hs.2.1 156 _ rfl) (hf_lin hs 156 rfl) (by decide) (by decide) hw1036 rfl rfl ?_
    refine hf_iload_n dX12_good_5 rfl rfl ?_
    refine hf_ireturn dX12_good_6 rfl rfl ?_
    show hf_G X Y_X12_goodOr (d + 1) _ _ 17 [some (.ref 156), some (.int s0)] [.int s0] (t, T, (hf_up I 156 0 0), L, P) _
    refine hf_ireturn dX12_goodOr_17 rfl rfl ?_
    show hf_G X Y_X12_clear (d + 2) _ _ 8 [none] [.int s0] (t, T, (hf_up I 156 0 0), L, P) _
    refine hf_ireturn dX12_clear_8 rfl rfl ?_
    exact h
  · replace h := h.2 hc
    refine hf_aload_n dX12_goodOr_4 rfl rfl ?_
    refine hf_iload_n dX12_goodOr_5 rfl rfl ?_
    refine hf_callV (c := 12) (as := [.int s0]) ok_X12_refuses dX12_goodOr_6 hw1146 hw1147 hw1601 (hs.2.1 156 _ rfl) (by decide) (hf_lin hs 156 rfl) rfl (Nat.le_of_ble_eq_true rfl) rfl (Nat.le_of_ble_eq_true rfl) (Nat.zero_le _) (Nat.zero_le _) ?_
    show hf_G X Y_X12_refuses d _ _ 0 [some (.ref 156), some (.int s0)] [] (t, T, I, L, P) _
    refine hf_aload_n dX12_refuses_0 rfl rfl ?_
    refine hf_iload_n dX12_refuses_1 rfl rfl ?_
    refine hf_puti (c := 12) (j := 0) dX12_refuses_2 (hs.2.1 156 _ rfl) (hf_lin hs 156 rfl) (by decide) (by decide) hw1036 rfl rfl ?_
    refine hf_aload_n dX12_refuses_5 rfl rfl ?_
    refine hf_getr (b := 157) (c := 12) (j := 1) dX12_refuses_6 (hs.2.1 156 _ rfl) (hf_lin hs 156 rfl) (by decide) (by decide) hw1037 rfl (hs.2.2 156 1 _ rfl) ?_
    refine hf_iload_n dX12_refuses_9 rfl rfl ?_
    refine hf_ineg dX12_refuses_10 ?_
    refine hf_dup2 dX12_refuses_11 rfl rfl ?_
    refine hf_iald dX12_refuses_12 (hs.2.1 157 _ rfl) (hf_lin hs 157 rfl) h.1 ?_
    replace h := h.2
    refine hf_iconst (v := 1) dX12_refuses_13 (by decide) ?_
    refine hf_iadd dX12_refuses_14 ?_
    refine hf_iast dX12_refuses_15 (hs.2.1 157 _ rfl) (hf_lin hs 157 rfl) h.1 ?_
    replace h := h.2
    refine hf_iload_n dX12_refuses_16 rfl rfl ?_
    refine hf_ireturn dX12_refuses_17 rfl rfl ?_
    show hf_G X Y_X12_goodOr (d + 1) _ _ 9 [some (.ref 156), some (.int s0)] [.int s0] (t, T, (hf_up (hf_up I 156 0 s0) 157 (((-s0)).toNatClampNeg) ((I 157 (((-s0)).toNatClampNeg)) + 1)), L, P) _
    refine hf_goto (tgt := 17) dX12_goodOr_9 (by decide) ?_
    refine hf_ireturn dX12_goodOr_17 rfl rfl ?_
    show hf_G X Y_X12_clear (d + 2) _ _ 8 [none] [.int s0] (t, T, (hf_up (hf_up I 156 0 s0) 157 (((-s0)).toNatClampNeg) ((I 157 (((-s0)).toNatClampNeg)) + 1)), L, P) _
    refine hf_ireturn dX12_clear_8 rfl rfl ?_
    exact h

set_option maxHeartbeats 4000000 in
theorem w_X12_said_0 {X : hf_X} {d k n t : Nat} {T : hf_T} {I : hf_I} {L : hf_L} {P : hf_P} {Q : Option Value → hf_M → Prop}  (hs : hf_Lay t T P) (h : Q (some (.int (I 158 317))) (t, T, I, L, P)) : hf_G X Y_X12_said d k n 0 (hf_en [.ref 156] 1) [] (t, T, I, L, P) Q := by
  show hf_G X Y_X12_said d k n 0 [some (.ref 156)] [] (t, T, I, L, P) Q
  refine hf_aload_n dX12_said_0 rfl rfl ?_
  refine hf_getr (b := 158) (c := 12) (j := 2) dX12_said_1 (hs.2.1 156 _ rfl) (hf_lin hs 156 rfl) (by decide) (by decide) hw1038 rfl (hs.2.2 156 2 _ rfl) ?_
  refine hf_sipush (v := 317) dX12_said_4 (by decide) ?_
  refine hf_iald_k (j := 317) (by decide) dX12_said_7 (hs.2.1 158 _ rfl) (hf_lin hs 158 rfl) (hf_vin (by decide)) ?_
  refine hf_ireturn dX12_said_8 rfl rfl ?_
  exact h

set_option maxHeartbeats 4000000 in
theorem w_X12_lists_0 {X : hf_X} {d k n t : Nat} {T : hf_T} {I : hf_I} {L : hf_L} {P : hf_P} {Q : Option Value → hf_M → Prop} {x1 : Int32} (hs : hf_Lay t T P) (h : (¬ (I 158 317) = 0 → hf_G X Y_X12_lists (d + 1) k n 34 [some (.ref 156), some (.int x1), some (.int 0), none] [] (t, T, (hf_up (hf_up (hf_up I 156 36 1) 156 37 1) 156 39 (((I 158 52) * (x1 + 2)) / 2)), L, P) Q) ∧ ((I 158 317) = 0 → hf_G X Y_X12_lists (d + 1) k n 34 [some (.ref 156), some (.int x1), some (.int 0), none] [] (t, T, (hf_up (hf_up (hf_up I 156 36 0) 156 37 1) 156 39 (((I 158 52) * (x1 + 2)) / 2)), L, P) Q)) : hf_G X Y_X12_lists (d + 1) k n 0 (hf_en [.ref 156, .int x1] 4) [] (t, T, I, L, P) Q := by
  show hf_G X Y_X12_lists (d + 1) k n 0 [some (.ref 156), some (.int x1), none, none] [] (t, T, I, L, P) Q
  refine hf_aload_n dX12_lists_0 rfl rfl ?_
  refine hf_aload_n dX12_lists_1 rfl rfl ?_
  refine hf_callV (c := 12) (as := []) ok_X12_said dX12_lists_2 hw1423 hw1424 hw1656 (hs.2.1 156 _ rfl) (by decide) (hf_lin hs 156 rfl) rfl (Nat.le_of_ble_eq_true rfl) rfl (Nat.le_of_ble_eq_true rfl) (Nat.zero_le _) (Nat.zero_le _) ?_
  show hf_G X Y_X12_said d _ _ 0 [some (.ref 156)] [] (t, T, I, L, P) _
  refine hf_aload_n dX12_said_0 rfl rfl ?_
  refine hf_getr (b := 158) (c := 12) (j := 2) dX12_said_1 (hs.2.1 156 _ rfl) (hf_lin hs 156 rfl) (by decide) (by decide) hw1038 rfl (hs.2.2 156 2 _ rfl) ?_
  refine hf_sipush (v := 317) dX12_said_4 (by decide) ?_
  refine hf_iald_k (j := 317) (by decide) dX12_said_7 (hs.2.1 158 _ rfl) (hf_lin hs 158 rfl) (hf_vin (by decide)) ?_
  refine hf_ireturn dX12_said_8 rfl rfl ?_
  show hf_G X Y_X12_lists (d + 1) _ _ 5 [some (.ref 156), some (.int x1), none, none] [.int (I 158 317), .ref 156] (t, T, I, L, P) _
  refine hf_if_ne (tgt := 12) dX12_lists_5 (by decide) (fun hc => ?_) (fun hc => ?_)
  · replace h := h.1 hc
    refine hf_iconst (v := 1) dX12_lists_12 (by decide) ?_
    refine hf_puti (c := 12) (j := 36) dX12_lists_13 (hs.2.1 156 _ rfl) (hf_lin hs 156 rfl) (by decide) (by decide) hw1072 rfl rfl ?_
    refine hf_aload_n dX12_lists_16 rfl rfl ?_
    refine hf_iconst (v := 1) dX12_lists_17 (by decide) ?_
    refine hf_puti (c := 12) (j := 37) dX12_lists_18 (hs.2.1 156 _ rfl) (hf_lin hs 156 rfl) (by decide) (by decide) hw1073 rfl rfl ?_
    refine hf_aload_n dX12_lists_21 rfl rfl ?_
    refine hf_aload_n dX12_lists_22 rfl rfl ?_
    refine hf_bipush (v := 26) dX12_lists_23 (by decide) ?_
    refine hf_iload_n dX12_lists_25 rfl rfl ?_
    refine hf_callV (c := 12) (as := [.int 26, .int x1]) ok_X12_hairsOf dX12_lists_26 hw1202 hw1203 hw1609 (hs.2.1 156 _ rfl) (by decide) (hf_lin hs 156 rfl) rfl (Nat.le_of_ble_eq_true rfl) rfl (Nat.le_of_ble_eq_true rfl) (Nat.zero_le _) (Nat.zero_le _) ?_
    show hf_G X Y_X12_hairsOf d _ _ 0 [some (.ref 156), some (.int 26), some (.int x1)] [] (t, T, (hf_up (hf_up I 156 36 1) 156 37 1), L, P) _
    refine hf_aload_n dX12_hairsOf_0 rfl rfl ?_
    refine hf_getr (b := 158) (c := 12) (j := 2) dX12_hairsOf_1 (hs.2.1 156 _ rfl) (hf_lin hs 156 rfl) (by decide) (by decide) hw1038 rfl (hs.2.2 156 2 _ rfl) ?_
    refine hf_bipush (v := 26) dX12_hairsOf_4 (by decide) ?_
    refine hf_iload_n dX12_hairsOf_6 rfl rfl ?_
    refine hf_iadd dX12_hairsOf_7 ?_
    rw [show ((26 + 26) : Int32) = 52 by decide]
    refine hf_iald_k (j := 52) (by decide) dX12_hairsOf_8 (hs.2.1 158 _ rfl) (hf_lin hs 158 rfl) (hf_vin (by decide)) ?_
    refine hf_iload_n dX12_hairsOf_9 rfl rfl ?_
    refine hf_iconst (v := 2) dX12_hairsOf_10 (by decide) ?_
    refine hf_iadd dX12_hairsOf_11 ?_
    refine hf_imul dX12_hairsOf_12 ?_
    refine hf_iconst (v := 2) dX12_hairsOf_13 (by decide) ?_
    refine hf_idiv dX12_hairsOf_14 (by decide) ?_
    refine hf_ireturn dX12_hairsOf_15 rfl rfl ?_
    show hf_G X Y_X12_lists (d + 1) _ _ 29 [some (.ref 156), some (.int x1), none, none] [.int (((I 158 52) * (x1 + 2)) / 2), .ref 156] (t, T, (hf_up (hf_up I 156 36 1) 156 37 1), L, P) _
    refine hf_puti (c := 12) (j := 39) dX12_lists_29 (hs.2.1 156 _ rfl) (hf_lin hs 156 rfl) (by decide) (by decide) hw1075 rfl rfl ?_
    refine hf_iconst (v := 0) dX12_lists_32 (by decide) ?_
    refine hf_istore_n (l2 := [some (.ref 156), some (.int x1), some (.int 0), none]) dX12_lists_33 rfl (by decide) rfl ?_
    exact h
  · replace h := h.2 hc
    refine hf_iconst (v := 0) dX12_lists_8 (by decide) ?_
    refine hf_goto (tgt := 13) dX12_lists_9 (by decide) ?_
    refine hf_puti (c := 12) (j := 36) dX12_lists_13 (hs.2.1 156 _ rfl) (hf_lin hs 156 rfl) (by decide) (by decide) hw1072 rfl rfl ?_
    refine hf_aload_n dX12_lists_16 rfl rfl ?_
    refine hf_iconst (v := 1) dX12_lists_17 (by decide) ?_
    refine hf_puti (c := 12) (j := 37) dX12_lists_18 (hs.2.1 156 _ rfl) (hf_lin hs 156 rfl) (by decide) (by decide) hw1073 rfl rfl ?_
    refine hf_aload_n dX12_lists_21 rfl rfl ?_
    refine hf_aload_n dX12_lists_22 rfl rfl ?_
    refine hf_bipush (v := 26) dX12_lists_23 (by decide) ?_
    refine hf_iload_n dX12_lists_25 rfl rfl ?_
    refine hf_callV (c := 12) (as := [.int 26, .int x1]) ok_X12_hairsOf dX12_lists_26 hw1202 hw1203 hw1609 (hs.2.1 156 _ rfl) (by decide) (hf_lin hs 156 rfl) rfl (Nat.le_of_ble_eq_true rfl) rfl (Nat.le_of_ble_eq_true rfl) (Nat.zero_le _) (Nat.zero_le _) ?_
    show hf_G X Y_X12_hairsOf d _ _ 0 [some (.ref 156), some (.int 26), some (.int x1)] [] (t, T, (hf_up (hf_up I 156 36 0) 156 37 1), L, P) _
    refine hf_aload_n dX12_hairsOf_0 rfl rfl ?_
    refine hf_getr (b := 158) (c := 12) (j := 2) dX12_hairsOf_1 (hs.2.1 156 _ rfl) (hf_lin hs 156 rfl) (by decide) (by decide) hw1038 rfl (hs.2.2 156 2 _ rfl) ?_
    refine hf_bipush (v := 26) dX12_hairsOf_4 (by decide) ?_
    refine hf_iload_n dX12_hairsOf_6 rfl rfl ?_
    refine hf_iadd dX12_hairsOf_7 ?_
    rw [show ((26 + 26) : Int32) = 52 by decide]
    refine hf_iald_k (j := 52) (by decide) dX12_hairsOf_8 (hs.2.1 158 _ rfl) (hf_lin hs 158 rfl) (hf_vin (by decide)) ?_
    refine hf_iload_n dX12_hairsOf_9 rfl rfl ?_
    refine hf_iconst (v := 2) dX12_hairsOf_10 (by decide) ?_
    refine hf_iadd dX12_hairsOf_11 ?_
    refine hf_imul dX12_hairsOf_12 ?_
    refine hf_iconst (v := 2) dX12_hairsOf_13 (by decide) ?_
    refine hf_idiv dX12_hairsOf_14 (by decide) ?_
    refine hf_ireturn dX12_hairsOf_15 rfl rfl ?_
    show hf_G X Y_X12_lists (d + 1) _ _ 29 [some (.ref 156), some (.int x1), none, none] [.int (((I 158 52) * (x1 + 2)) / 2), .ref 156] (t, T, (hf_up (hf_up I 156 36 0) 156 37 1), L, P) _
    refine hf_puti (c := 12) (j := 39) dX12_lists_29 (hs.2.1 156 _ rfl) (hf_lin hs 156 rfl) (by decide) (by decide) hw1075 rfl rfl ?_
    refine hf_iconst (v := 0) dX12_lists_32 (by decide) ?_
    refine hf_istore_n (l2 := [some (.ref 156), some (.int x1), some (.int 0), none]) dX12_lists_33 rfl (by decide) rfl ?_
    exact h

set_option maxHeartbeats 4000000 in
theorem w_X12_lists_34 {X : hf_X} {d k n t : Nat} {T : hf_T} {I : hf_I} {L : hf_L} {P : hf_P} {Q : Option Value → hf_M → Prop} {x1 : Int32} {x2 : Int32} (hs : hf_Lay t T P) (h : ((I 158 316) ≤ x2 → hf_G X Y_X12_lists (d + 1) k n 77 [some (.ref 156), some (.int x1), some (.int 0), none] [] (t, T, I, L, P) Q) ∧ (¬ ((I 158 316) ≤ x2) → hf_G X Y_X12_broadOf d 0 0 0 (hf_en [.ref 156, .int x2, .int x1] 5) [] (t, T, I, L, P) (fun r M => hf_G X Y_X12_lists (d + 1) k n 57 [some (.ref 156), some (.int x1), some (.int x2), none] (r.toList ++ [.int x2, .ref 175]) M Q))) : hf_G X Y_X12_lists (d + 1) k n 34 [some (.ref 156), some (.int x1), some (.int x2), none] [] (t, T, I, L, P) Q := by
  refine hf_iload_n dX12_lists_34 rfl rfl ?_
  refine hf_aload_n dX12_lists_35 rfl rfl ?_
  refine hf_getr (b := 158) (c := 12) (j := 2) dX12_lists_36 (hs.2.1 156 _ rfl) (hf_lin hs 156 rfl) (by decide) (by decide) hw1038 rfl (hs.2.2 156 2 _ rfl) ?_
  refine hf_sipush (v := 316) dX12_lists_39 (by decide) ?_
  refine hf_iald_k (j := 316) (by decide) dX12_lists_42 (hs.2.1 158 _ rfl) (hf_lin hs 158 rfl) (hf_vin (by decide)) ?_
  refine hf_icmp_ge (tgt := 75) dX12_lists_43 (by decide) (fun hc => ?_) (fun hc => ?_)
  · replace h := h.1 hc
    refine hf_iconst (v := 0) dX12_lists_75 (by decide) ?_
    refine hf_istore_n (l2 := [some (.ref 156), some (.int x1), some (.int 0), none]) dX12_lists_76 rfl (by decide) rfl ?_
    exact h
  · replace h := h.2 hc
    refine hf_aload_n dX12_lists_46 rfl rfl ?_
    refine hf_getr (b := 175) (c := 12) (j := 32) dX12_lists_47 (hs.2.1 156 _ rfl) (hf_lin hs 156 rfl) (by decide) (by decide) hw1068 rfl (hs.2.2 156 32 _ rfl) ?_
    refine hf_iload_n dX12_lists_50 rfl rfl ?_
    refine hf_aload_n dX12_lists_51 rfl rfl ?_
    refine hf_iload_n dX12_lists_52 rfl rfl ?_
    refine hf_iload_n dX12_lists_53 rfl rfl ?_
    exact hf_callV (c := 12) (as := [.int x2, .int x1]) ok_X12_broadOf dX12_lists_54 hw1199 hw1200 hw1608 (hs.2.1 156 _ rfl) (by decide) (hf_lin hs 156 rfl) rfl (Nat.le_of_ble_eq_true rfl) rfl (Nat.le_of_ble_eq_true rfl) (Nat.zero_le _) (Nat.zero_le _) h

set_option maxHeartbeats 4000000 in
theorem w_X12_lists_77 {X : hf_X} {d k n t : Nat} {T : hf_T} {I : hf_I} {L : hf_L} {P : hf_P} {Q : Option Value → hf_M → Prop} {x1 : Int32} {x2 : Int32} (hs : hf_Lay t T P) (h : ((I 158 317) ≤ x2 → Q none (t, T, (hf_up I 156 36 ((I 156 36) * (I 156 37))), L, P)) ∧ (¬ ((I 158 317) ≤ x2) → vp_in x2 6 ∧ (hf_G X Y_X12_lists (d + 1) k n 94 [some (.ref 156), some (.int x1), some (.int x2), some (.int 0)] [] (t, T, (hf_up I 172 x2.toNatClampNeg 0), L, P) Q))) : hf_G X Y_X12_lists (d + 1) k n 77 [some (.ref 156), some (.int x1), some (.int x2), none] [] (t, T, I, L, P) Q := by
  refine hf_iload_n dX12_lists_77 rfl rfl ?_
  refine hf_aload_n dX12_lists_78 rfl rfl ?_
  refine hf_callV (c := 12) (as := []) ok_X12_said dX12_lists_79 hw1423 hw1424 hw1656 (hs.2.1 156 _ rfl) (by decide) (hf_lin hs 156 rfl) rfl (Nat.le_of_ble_eq_true rfl) rfl (Nat.le_of_ble_eq_true rfl) (Nat.zero_le _) (Nat.zero_le _) ?_
  show hf_G X Y_X12_said d _ _ 0 [some (.ref 156)] [] (t, T, I, L, P) _
  refine hf_aload_n dX12_said_0 rfl rfl ?_
  refine hf_getr (b := 158) (c := 12) (j := 2) dX12_said_1 (hs.2.1 156 _ rfl) (hf_lin hs 156 rfl) (by decide) (by decide) hw1038 rfl (hs.2.2 156 2 _ rfl) ?_
  refine hf_sipush (v := 317) dX12_said_4 (by decide) ?_
  refine hf_iald_k (j := 317) (by decide) dX12_said_7 (hs.2.1 158 _ rfl) (hf_lin hs 158 rfl) (hf_vin (by decide)) ?_
  refine hf_ireturn dX12_said_8 rfl rfl ?_
  show hf_G X Y_X12_lists (d + 1) _ _ 82 [some (.ref 156), some (.int x1), some (.int x2), none] [.int (I 158 317), .int x2] (t, T, I, L, P) _
  refine hf_icmp_ge (tgt := 208) dX12_lists_82 (by decide) (fun hc => ?_) (fun hc => ?_)
  · replace h := h.1 hc
    refine hf_aload_n dX12_lists_208 rfl rfl ?_
    refine hf_dup dX12_lists_209 rfl ?_
    refine hf_geti (c := 12) (j := 36) dX12_lists_210 (hs.2.1 156 _ rfl) (hf_lin hs 156 rfl) (by decide) (by decide) hw1072 (Or.inl rfl) ?_
    refine hf_aload_n dX12_lists_213 rfl rfl ?_
    refine hf_geti (c := 12) (j := 37) dX12_lists_214 (hs.2.1 156 _ rfl) (hf_lin hs 156 rfl) (by decide) (by decide) hw1073 (Or.inl rfl) ?_
    refine hf_imul dX12_lists_217 ?_
    refine hf_puti (c := 12) (j := 36) dX12_lists_218 (hs.2.1 156 _ rfl) (hf_lin hs 156 rfl) (by decide) (by decide) hw1072 rfl rfl ?_
    refine hf_return dX12_lists_221 rfl ?_
    exact h
  · replace h := h.2 hc
    refine hf_aload_n dX12_lists_85 rfl rfl ?_
    refine hf_getr (b := 172) (c := 12) (j := 29) dX12_lists_86 (hs.2.1 156 _ rfl) (hf_lin hs 156 rfl) (by decide) (by decide) hw1065 rfl (hs.2.2 156 29 _ rfl) ?_
    refine hf_iload_n dX12_lists_89 rfl rfl ?_
    refine hf_iconst (v := 0) dX12_lists_90 (by decide) ?_
    refine hf_iast dX12_lists_91 (hs.2.1 172 _ rfl) (hf_lin hs 172 rfl) h.1 ?_
    replace h := h.2
    refine hf_iconst (v := 0) dX12_lists_92 (by decide) ?_
    refine hf_istore_n (l2 := [some (.ref 156), some (.int x1), some (.int x2), some (.int 0)]) dX12_lists_93 rfl (by decide) rfl ?_
    exact h

set_option maxHeartbeats 4000000 in
theorem w_X12_lists_57 {X : hf_X} {d k n t : Nat} {T : hf_T} {I : hf_I} {L : hf_L} {P : hf_P} {Q : Option Value → hf_M → Prop} {x1 : Int32} {x2 : Int32} {s0 : Int32} {s1 : Int32} (hs : hf_Lay t T P) (h : vp_in s1 16 ∧ (hf_G X Y_X12_losesOf d 0 0 0 (hf_en [.ref 156, .int x2] 2) [] (t, T, (hf_up I 175 s1.toNatClampNeg s0), L, P) (fun r M => hf_G X Y_X12_lists (d + 1) k n 68 [some (.ref 156), some (.int x1), some (.int x2), none] (r.toList ++ [.int x2, .ref 176]) M Q))) : hf_G X Y_X12_lists (d + 1) k n 57 [some (.ref 156), some (.int x1), some (.int x2), none] [.int s0, .int s1, .ref 175] (t, T, I, L, P) Q := by
  refine hf_iast dX12_lists_57 (hs.2.1 175 _ rfl) (hf_lin hs 175 rfl) h.1 ?_
  replace h := h.2
  refine hf_aload_n dX12_lists_58 rfl rfl ?_
  refine hf_getr (b := 176) (c := 12) (j := 33) dX12_lists_59 (hs.2.1 156 _ rfl) (hf_lin hs 156 rfl) (by decide) (by decide) hw1069 rfl (hs.2.2 156 33 _ rfl) ?_
  refine hf_iload_n dX12_lists_62 rfl rfl ?_
  refine hf_aload_n dX12_lists_63 rfl rfl ?_
  refine hf_iload_n dX12_lists_64 rfl rfl ?_
  exact hf_callV (c := 12) (as := [.int x2]) ok_X12_losesOf dX12_lists_65 hw1205 hw1206 hw1610 (hs.2.1 156 _ rfl) (by decide) (hf_lin hs 156 rfl) rfl (Nat.le_of_ble_eq_true rfl) rfl (Nat.le_of_ble_eq_true rfl) (Nat.zero_le _) (Nat.zero_le _) h

set_option maxHeartbeats 4000000 in
theorem w_X12_lists_94 {X : hf_X} {d k n t : Nat} {T : hf_T} {I : hf_I} {L : hf_L} {P : hf_P} {Q : Option Value → hf_M → Prop} {x1 : Int32} {x2 : Int32} {x3 : Int32} (hs : hf_Lay t T P) (h : ((I 158 316) ≤ x3 → vp_in x2 6 ∧ ((x2 ≤ 0 → hf_G X Y_X12_lists (d + 1) k n 77 [some (.ref 156), some (.int x1), some (.int (x2 + 1)), none] [] (t, T, (hf_up (hf_up I 156 36 ((I 156 36) * (I 172 x2.toNatClampNeg))) 156 37 ((I 156 37) * 1)), L, P) Q) ∧ (¬ (x2 ≤ 0) → hf_G X Y_X12_lists (d + 1) k n 77 [some (.ref 156), some (.int x1), some (.int (x2 + 1)), none] [] (t, T, (hf_up (hf_up I 156 36 ((I 156 36) * (I 172 x2.toNatClampNeg))) 156 37 ((I 156 37) * 2)), L, P) Q))) ∧ (¬ ((I 158 316) ≤ x3) → vp_in ((53 + (13 * x3)) + 0) 5929 ∧ (vp_in (269 + x2) 5929 ∧ ((¬ (I 158 ((((53 + (13 * x3)) + 0)).toNatClampNeg)) = (I 158 (((269 + x2)).toNatClampNeg)) → hf_G X Y_X12_lists (d + 1) k n 94 [some (.ref 156), some (.int x1), some (.int x2), some (.int (x3 + 1))] [] (t, T, I, L, P) Q) ∧ ((I 158 ((((53 + (13 * x3)) + 0)).toNatClampNeg)) = (I 158 (((269 + x2)).toNatClampNeg)) → hf_G X Y_X12_isBarred d 0 0 0 (hf_en [.ref 156, .int x3, .int x1] 3) [] (t, T, I, L, P) (fun r M => hf_G X Y_X12_lists (d + 1) k n 131 [some (.ref 156), some (.int x1), some (.int x2), some (.int x3)] (r.toList ++ []) M Q)))))) : hf_G X Y_X12_lists (d + 1) k n 94 [some (.ref 156), some (.int x1), some (.int x2), some (.int x3)] [] (t, T, I, L, P) Q := by
  refine hf_iload_n dX12_lists_94 rfl rfl ?_
  refine hf_aload_n dX12_lists_95 rfl rfl ?_
  refine hf_getr (b := 158) (c := 12) (j := 2) dX12_lists_96 (hs.2.1 156 _ rfl) (hf_lin hs 156 rfl) (by decide) (by decide) hw1038 rfl (hs.2.2 156 2 _ rfl) ?_
  refine hf_sipush (v := 316) dX12_lists_99 (by decide) ?_
  refine hf_iald_k (j := 316) (by decide) dX12_lists_102 (hs.2.1 158 _ rfl) (hf_lin hs 158 rfl) (hf_vin (by decide)) ?_
  refine hf_icmp_ge (tgt := 169) dX12_lists_103 (by decide) (fun hc => ?_) (fun hc => ?_)
  · replace h := h.1 hc
    refine hf_aload_n dX12_lists_169 rfl rfl ?_
    refine hf_dup dX12_lists_170 rfl ?_
    refine hf_geti (c := 12) (j := 36) dX12_lists_171 (hs.2.1 156 _ rfl) (hf_lin hs 156 rfl) (by decide) (by decide) hw1072 (Or.inl rfl) ?_
    refine hf_aload_n dX12_lists_174 rfl rfl ?_
    refine hf_getr (b := 172) (c := 12) (j := 29) dX12_lists_175 (hs.2.1 156 _ rfl) (hf_lin hs 156 rfl) (by decide) (by decide) hw1065 rfl (hs.2.2 156 29 _ rfl) ?_
    refine hf_iload_n dX12_lists_178 rfl rfl ?_
    refine hf_iald dX12_lists_179 (hs.2.1 172 _ rfl) (hf_lin hs 172 rfl) h.1 ?_
    replace h := h.2
    refine hf_imul dX12_lists_180 ?_
    refine hf_puti (c := 12) (j := 36) dX12_lists_181 (hs.2.1 156 _ rfl) (hf_lin hs 156 rfl) (by decide) (by decide) hw1072 rfl rfl ?_
    refine hf_aload_n dX12_lists_184 rfl rfl ?_
    refine hf_dup dX12_lists_185 rfl ?_
    refine hf_geti (c := 12) (j := 37) dX12_lists_186 (hs.2.1 156 _ rfl) (hf_lin hs 156 rfl) (by decide) (by decide) hw1073 (Or.inl rfl) ?_
    refine hf_iload_n dX12_lists_189 rfl rfl ?_
    refine hf_if_le (tgt := 197) dX12_lists_190 (by decide) (fun hc => ?_) (fun hc => ?_)
    · replace h := h.1 hc
      refine hf_iconst (v := 1) dX12_lists_197 (by decide) ?_
      refine hf_imul dX12_lists_198 ?_
      refine hf_puti (c := 12) (j := 37) dX12_lists_199 (hs.2.1 156 _ rfl) (hf_lin hs 156 rfl) (by decide) (by decide) hw1073 rfl rfl ?_
      refine hf_iinc (v := (x2 + 1)) (l2 := [some (.ref 156), some (.int x1), some (.int (x2 + 1)), some (.int x3)]) dX12_lists_202 (by decide) rfl rfl rfl ?_
      refine hf_goto (tgt := 77) dX12_lists_205 (by decide) ?_
      refine hf_drop (l' := [some (.ref 156), some (.int x1), some (.int (x2 + 1)), none]) (by simp [hf_sub]) ?_
      exact h
    · replace h := h.2 hc
      refine hf_iconst (v := 2) dX12_lists_193 (by decide) ?_
      refine hf_goto (tgt := 198) dX12_lists_194 (by decide) ?_
      refine hf_imul dX12_lists_198 ?_
      refine hf_puti (c := 12) (j := 37) dX12_lists_199 (hs.2.1 156 _ rfl) (hf_lin hs 156 rfl) (by decide) (by decide) hw1073 rfl rfl ?_
      refine hf_iinc (v := (x2 + 1)) (l2 := [some (.ref 156), some (.int x1), some (.int (x2 + 1)), some (.int x3)]) dX12_lists_202 (by decide) rfl rfl rfl ?_
      refine hf_goto (tgt := 77) dX12_lists_205 (by decide) ?_
      refine hf_drop (l' := [some (.ref 156), some (.int x1), some (.int (x2 + 1)), none]) (by simp [hf_sub]) ?_
      exact h
  · replace h := h.2 hc
    refine hf_aload_n dX12_lists_106 rfl rfl ?_
    refine hf_iload_n dX12_lists_107 rfl rfl ?_
    refine hf_iconst (v := 0) dX12_lists_108 (by decide) ?_
    refine hf_callV (c := 12) (as := [.int x3, .int 0]) ok_X12_fact dX12_lists_109 hw1189 hw1190 hw1606 (hs.2.1 156 _ rfl) (by decide) (hf_lin hs 156 rfl) rfl (Nat.le_of_ble_eq_true rfl) rfl (Nat.le_of_ble_eq_true rfl) (Nat.zero_le _) (Nat.zero_le _) ?_
    show hf_G X Y_X12_fact d _ _ 0 [some (.ref 156), some (.int x3), some (.int 0)] [] (t, T, I, L, P) _
    refine hf_aload_n dX12_fact_0 rfl rfl ?_
    refine hf_getr (b := 158) (c := 12) (j := 2) dX12_fact_1 (hs.2.1 156 _ rfl) (hf_lin hs 156 rfl) (by decide) (by decide) hw1038 rfl (hs.2.2 156 2 _ rfl) ?_
    refine hf_bipush (v := 53) dX12_fact_4 (by decide) ?_
    refine hf_bipush (v := 13) dX12_fact_6 (by decide) ?_
    refine hf_iload_n dX12_fact_8 rfl rfl ?_
    refine hf_imul dX12_fact_9 ?_
    refine hf_iadd dX12_fact_10 ?_
    refine hf_iload_n dX12_fact_11 rfl rfl ?_
    refine hf_iadd dX12_fact_12 ?_
    refine hf_iald dX12_fact_13 (hs.2.1 158 _ rfl) (hf_lin hs 158 rfl) h.1 ?_
    replace h := h.2
    refine hf_ireturn dX12_fact_14 rfl rfl ?_
    show hf_G X Y_X12_lists (d + 1) _ _ 112 [some (.ref 156), some (.int x1), some (.int x2), some (.int x3)] [.int (I 158 ((((53 + (13 * x3)) + 0)).toNatClampNeg))] (t, T, I, L, P) _
    refine hf_aload_n dX12_lists_112 rfl rfl ?_
    refine hf_getr (b := 158) (c := 12) (j := 2) dX12_lists_113 (hs.2.1 156 _ rfl) (hf_lin hs 156 rfl) (by decide) (by decide) hw1038 rfl (hs.2.2 156 2 _ rfl) ?_
    refine hf_sipush (v := 269) dX12_lists_116 (by decide) ?_
    refine hf_iload_n dX12_lists_119 rfl rfl ?_
    refine hf_iadd dX12_lists_120 ?_
    refine hf_iald dX12_lists_121 (hs.2.1 158 _ rfl) (hf_lin hs 158 rfl) h.1 ?_
    replace h := h.2
    refine hf_icmp_ne (tgt := 163) dX12_lists_122 (by decide) (fun hc => ?_) (fun hc => ?_)
    · replace h := h.1 hc
      refine hf_iinc (v := (x3 + 1)) (l2 := [some (.ref 156), some (.int x1), some (.int x2), some (.int (x3 + 1))]) dX12_lists_163 (by decide) rfl rfl rfl ?_
      refine hf_goto (tgt := 94) dX12_lists_166 (by decide) ?_
      exact h
    · replace h := h.2 hc
      refine hf_aload_n dX12_lists_125 rfl rfl ?_
      refine hf_iload_n dX12_lists_126 rfl rfl ?_
      refine hf_iload_n dX12_lists_127 rfl rfl ?_
      exact hf_callV (c := 12) (as := [.int x3, .int x1]) ok_X12_isBarred dX12_lists_128 hw1256 hw1257 hw1625 (hs.2.1 156 _ rfl) (by decide) (hf_lin hs 156 rfl) rfl (Nat.le_of_ble_eq_true rfl) rfl (Nat.le_of_ble_eq_true rfl) (Nat.zero_le _) (Nat.zero_le _) h

set_option maxHeartbeats 4000000 in
theorem w_X12_lists_68 {X : hf_X} {d k n t : Nat} {T : hf_T} {I : hf_I} {L : hf_L} {P : hf_P} {Q : Option Value → hf_M → Prop} {x1 : Int32} {x2 : Int32} {s0 : Int32} {s1 : Int32} (hs : hf_Lay t T P) (h : vp_in s1 16 ∧ (hf_G X Y_X12_lists d k n 34 [some (.ref 156), some (.int x1), some (.int (x2 + 1)), none] [] (t, T, (hf_up I 176 s1.toNatClampNeg s0), L, P) Q)) : hf_G X Y_X12_lists d k n 68 [some (.ref 156), some (.int x1), some (.int x2), none] [.int s0, .int s1, .ref 176] (t, T, I, L, P) Q := by
  refine hf_iast dX12_lists_68 (hs.2.1 176 _ rfl) (hf_lin hs 176 rfl) h.1 ?_
  replace h := h.2
  refine hf_iinc (v := (x2 + 1)) (l2 := [some (.ref 156), some (.int x1), some (.int (x2 + 1)), none]) dX12_lists_69 (by decide) rfl rfl rfl ?_
  refine hf_goto (tgt := 34) dX12_lists_72 (by decide) ?_
  exact h

set_option maxHeartbeats 4000000 in
theorem w_X12_lists_131 {X : hf_X} {d k n t : Nat} {T : hf_T} {I : hf_I} {L : hf_L} {P : hf_P} {Q : Option Value → hf_M → Prop} {x1 : Int32} {x2 : Int32} {x3 : Int32} {s0 : Int32} (hs : hf_Lay t T P) (h : (s0 = 0 → vp_in x2 6 ∧ (vp_in ((3 * x2) + (I 172 x2.toNatClampNeg)) 18 ∧ (vp_in x2 6 ∧ (vp_in x2 6 ∧ (hf_G X Y_X12_lists d k n 94 [some (.ref 156), some (.int x1), some (.int x2), some (.int (x3 + 1))] [] (t, T, (hf_up (hf_up I 171 ((((3 * x2) + (I 172 x2.toNatClampNeg))).toNatClampNeg) x3) 172 x2.toNatClampNeg ((I 172 x2.toNatClampNeg) + 1)), L, P) Q))))) ∧ (¬ (s0 = 0) → hf_G X Y_X12_lists d k n 94 [some (.ref 156), some (.int x1), some (.int x2), some (.int (x3 + 1))] [] (t, T, I, L, P) Q)) : hf_G X Y_X12_lists d k n 131 [some (.ref 156), some (.int x1), some (.int x2), some (.int x3)] [.int s0] (t, T, I, L, P) Q := by
  refine hf_if_eq (tgt := 137) dX12_lists_131 (by decide) (fun hc => ?_) (fun hc => ?_)
  · replace h := h.1 hc
    refine hf_aload_n dX12_lists_137 rfl rfl ?_
    refine hf_getr (b := 171) (c := 12) (j := 28) dX12_lists_138 (hs.2.1 156 _ rfl) (hf_lin hs 156 rfl) (by decide) (by decide) hw1064 rfl (hs.2.2 156 28 _ rfl) ?_
    refine hf_iconst (v := 3) dX12_lists_141 (by decide) ?_
    refine hf_iload_n dX12_lists_142 rfl rfl ?_
    refine hf_imul dX12_lists_143 ?_
    refine hf_aload_n dX12_lists_144 rfl rfl ?_
    refine hf_getr (b := 172) (c := 12) (j := 29) dX12_lists_145 (hs.2.1 156 _ rfl) (hf_lin hs 156 rfl) (by decide) (by decide) hw1065 rfl (hs.2.2 156 29 _ rfl) ?_
    refine hf_iload_n dX12_lists_148 rfl rfl ?_
    refine hf_iald dX12_lists_149 (hs.2.1 172 _ rfl) (hf_lin hs 172 rfl) h.1 ?_
    replace h := h.2
    refine hf_iadd dX12_lists_150 ?_
    refine hf_iload_n dX12_lists_151 rfl rfl ?_
    refine hf_iast dX12_lists_152 (hs.2.1 171 _ rfl) (hf_lin hs 171 rfl) h.1 ?_
    replace h := h.2
    refine hf_aload_n dX12_lists_153 rfl rfl ?_
    refine hf_getr (b := 172) (c := 12) (j := 29) dX12_lists_154 (hs.2.1 156 _ rfl) (hf_lin hs 156 rfl) (by decide) (by decide) hw1065 rfl (hs.2.2 156 29 _ rfl) ?_
    refine hf_iload_n dX12_lists_157 rfl rfl ?_
    refine hf_dup2 dX12_lists_158 rfl rfl ?_
    refine hf_iald dX12_lists_159 (hs.2.1 172 _ rfl) (hf_lin hs 172 rfl) h.1 ?_
    replace h := h.2
    refine hf_iconst (v := 1) dX12_lists_160 (by decide) ?_
    refine hf_iadd dX12_lists_161 ?_
    refine hf_iast dX12_lists_162 (hs.2.1 172 _ rfl) (hf_lin hs 172 rfl) h.1 ?_
    replace h := h.2
    refine hf_iinc (v := (x3 + 1)) (l2 := [some (.ref 156), some (.int x1), some (.int x2), some (.int (x3 + 1))]) dX12_lists_163 (by decide) rfl rfl rfl ?_
    refine hf_goto (tgt := 94) dX12_lists_166 (by decide) ?_
    exact h
  · replace h := h.2 hc
    refine hf_goto (tgt := 163) dX12_lists_134 (by decide) ?_
    refine hf_iinc (v := (x3 + 1)) (l2 := [some (.ref 156), some (.int x1), some (.int x2), some (.int (x3 + 1))]) dX12_lists_163 (by decide) rfl rfl rfl ?_
    refine hf_goto (tgt := 94) dX12_lists_166 (by decide) ?_
    exact h

set_option maxHeartbeats 4000000 in
theorem w_X12_opens_0 {X : hf_X} {d k n t : Nat} {T : hf_T} {I : hf_I} {L : hf_L} {P : hf_P} {Q : Option Value → hf_M → Prop} {x1 : Int32} (hs : hf_Lay t T P) (h : ¬ (I 156 37) = 0 ∧ (hf_G X Y_X12_opens (d + 1) k n 14 [some (.ref 156), some (.int x1), some (.int (x1 / (I 156 37))), some (.int ((I 158 317) - 1))] [] (t, T, I, L, P) Q)) : hf_G X Y_X12_opens (d + 1) k n 0 (hf_en [.ref 156, .int x1] 4) [] (t, T, I, L, P) Q := by
  show hf_G X Y_X12_opens (d + 1) k n 0 [some (.ref 156), some (.int x1), none, none] [] (t, T, I, L, P) Q
  refine hf_iload_n dX12_opens_0 rfl rfl ?_
  refine hf_aload_n dX12_opens_1 rfl rfl ?_
  refine hf_geti (c := 12) (j := 37) dX12_opens_2 (hs.2.1 156 _ rfl) (hf_lin hs 156 rfl) (by decide) (by decide) hw1073 (Or.inl rfl) ?_
  refine hf_idiv dX12_opens_5 h.1 ?_
  replace h := h.2
  refine hf_istore_n (l2 := [some (.ref 156), some (.int x1), some (.int (x1 / (I 156 37))), none]) dX12_opens_6 rfl (by decide) rfl ?_
  refine hf_aload_n dX12_opens_7 rfl rfl ?_
  refine hf_callV (c := 12) (as := []) ok_X12_said dX12_opens_8 hw1423 hw1424 hw1656 (hs.2.1 156 _ rfl) (by decide) (hf_lin hs 156 rfl) rfl (Nat.le_of_ble_eq_true rfl) rfl (Nat.le_of_ble_eq_true rfl) (Nat.zero_le _) (Nat.zero_le _) ?_
  show hf_G X Y_X12_said d _ _ 0 [some (.ref 156)] [] (t, T, I, L, P) _
  refine hf_aload_n dX12_said_0 rfl rfl ?_
  refine hf_getr (b := 158) (c := 12) (j := 2) dX12_said_1 (hs.2.1 156 _ rfl) (hf_lin hs 156 rfl) (by decide) (by decide) hw1038 rfl (hs.2.2 156 2 _ rfl) ?_
  refine hf_sipush (v := 317) dX12_said_4 (by decide) ?_
  refine hf_iald_k (j := 317) (by decide) dX12_said_7 (hs.2.1 158 _ rfl) (hf_lin hs 158 rfl) (hf_vin (by decide)) ?_
  refine hf_ireturn dX12_said_8 rfl rfl ?_
  show hf_G X Y_X12_opens (d + 1) _ _ 11 [some (.ref 156), some (.int x1), some (.int (x1 / (I 156 37))), none] [.int (I 158 317)] (t, T, I, L, P) _
  refine hf_iconst (v := 1) dX12_opens_11 (by decide) ?_
  refine hf_isub dX12_opens_12 ?_
  refine hf_istore_n (l2 := [some (.ref 156), some (.int x1), some (.int (x1 / (I 156 37))), some (.int ((I 158 317) - 1))]) dX12_opens_13 rfl (by decide) rfl ?_
  exact h

set_option maxHeartbeats 4000000 in
theorem w_X12_opens_14 {X : hf_X} {d k n t : Nat} {T : hf_T} {I : hf_I} {L : hf_L} {P : hf_P} {Q : Option Value → hf_M → Prop} {x1 : Int32} {x2 : Int32} {x3 : Int32} (hs : hf_Lay t T P) (h : (x3 < 0 → hf_G X Y_X12_opens (d + 1) k n 94 [some (.ref 156), none, none, some (.int 0)] [] (t, T, (hf_up I 156 38 0), L, P) Q) ∧ (¬ (x3 < 0) → vp_in x3 6 ∧ (¬ (I 172 x3.toNatClampNeg) = 0 ∧ (vp_in ((3 * x3) + (x2 - x2 / (I 172 x3.toNatClampNeg) * (I 172 x3.toNatClampNeg))) 18 ∧ (vp_in x3 6 ∧ (vp_in x3 6 ∧ (¬ (I 172 x3.toNatClampNeg) = 0 ∧ ((¬ x3 = 0 → ¬ (I 156 37) = 0 ∧ (vp_in x3 6 ∧ (hf_G X Y_X12_opens (d + 1) k n 14 [some (.ref 156), some (.int x1), some (.int (x2 / (I 172 x3.toNatClampNeg))), some (.int (x3 + (-1)))] [] (t, T, (hf_up (hf_up I 173 x3.toNatClampNeg (I 171 ((((3 * x3) + (x2 - x2 / (I 172 x3.toNatClampNeg) * (I 172 x3.toNatClampNeg)))).toNatClampNeg))) 174 x3.toNatClampNeg (((x1 - x1 / (I 156 37) * (I 156 37)) >>> ((((I 158 317) - 1) - x3) &&& 31)) &&& 1)), L, P) Q))) ∧ (x3 = 0 → vp_in x3 6 ∧ (hf_G X Y_X12_opens (d + 1) k n 14 [some (.ref 156), some (.int x1), some (.int (x2 / (I 172 x3.toNatClampNeg))), some (.int (x3 + (-1)))] [] (t, T, (hf_up (hf_up I 173 x3.toNatClampNeg (I 171 ((((3 * x3) + (x2 - x2 / (I 172 x3.toNatClampNeg) * (I 172 x3.toNatClampNeg)))).toNatClampNeg))) 174 x3.toNatClampNeg 0), L, P) Q)))))))))) : hf_G X Y_X12_opens (d + 1) k n 14 [some (.ref 156), some (.int x1), some (.int x2), some (.int x3)] [] (t, T, I, L, P) Q := by
  refine hf_iload_n dX12_opens_14 rfl rfl ?_
  refine hf_if_lt (tgt := 87) dX12_opens_15 (by decide) (fun hc => ?_) (fun hc => ?_)
  · replace h := h.1 hc
    refine hf_aload_n dX12_opens_87 rfl rfl ?_
    refine hf_iconst (v := 0) dX12_opens_88 (by decide) ?_
    refine hf_puti (c := 12) (j := 38) dX12_opens_89 (hs.2.1 156 _ rfl) (hf_lin hs 156 rfl) (by decide) (by decide) hw1074 rfl rfl ?_
    refine hf_iconst (v := 0) dX12_opens_92 (by decide) ?_
    refine hf_istore_n (l2 := [some (.ref 156), some (.int x1), some (.int x2), some (.int 0)]) dX12_opens_93 rfl (by decide) rfl ?_
    refine hf_drop (l' := [some (.ref 156), none, none, some (.int 0)]) (by simp [hf_sub]) ?_
    exact h
  · replace h := h.2 hc
    refine hf_aload_n dX12_opens_18 rfl rfl ?_
    refine hf_getr (b := 173) (c := 12) (j := 30) dX12_opens_19 (hs.2.1 156 _ rfl) (hf_lin hs 156 rfl) (by decide) (by decide) hw1066 rfl (hs.2.2 156 30 _ rfl) ?_
    refine hf_iload_n dX12_opens_22 rfl rfl ?_
    refine hf_aload_n dX12_opens_23 rfl rfl ?_
    refine hf_getr (b := 171) (c := 12) (j := 28) dX12_opens_24 (hs.2.1 156 _ rfl) (hf_lin hs 156 rfl) (by decide) (by decide) hw1064 rfl (hs.2.2 156 28 _ rfl) ?_
    refine hf_iconst (v := 3) dX12_opens_27 (by decide) ?_
    refine hf_iload_n dX12_opens_28 rfl rfl ?_
    refine hf_imul dX12_opens_29 ?_
    refine hf_iload_n dX12_opens_30 rfl rfl ?_
    refine hf_aload_n dX12_opens_31 rfl rfl ?_
    refine hf_getr (b := 172) (c := 12) (j := 29) dX12_opens_32 (hs.2.1 156 _ rfl) (hf_lin hs 156 rfl) (by decide) (by decide) hw1065 rfl (hs.2.2 156 29 _ rfl) ?_
    refine hf_iload_n dX12_opens_35 rfl rfl ?_
    refine hf_iald dX12_opens_36 (hs.2.1 172 _ rfl) (hf_lin hs 172 rfl) h.1 ?_
    replace h := h.2
    refine hf_irem dX12_opens_37 h.1 ?_
    replace h := h.2
    refine hf_iadd dX12_opens_38 ?_
    refine hf_iald dX12_opens_39 (hs.2.1 171 _ rfl) (hf_lin hs 171 rfl) h.1 ?_
    replace h := h.2
    refine hf_iast dX12_opens_40 (hs.2.1 173 _ rfl) (hf_lin hs 173 rfl) h.1 ?_
    replace h := h.2
    refine hf_iload_n dX12_opens_41 rfl rfl ?_
    refine hf_aload_n dX12_opens_42 rfl rfl ?_
    refine hf_getr (b := 172) (c := 12) (j := 29) dX12_opens_43 (hs.2.1 156 _ rfl) (hf_lin hs 156 rfl) (by decide) (by decide) hw1065 rfl (hs.2.2 156 29 _ rfl) ?_
    refine hf_iload_n dX12_opens_46 rfl rfl ?_
    refine hf_iald dX12_opens_47 (hs.2.1 172 _ rfl) (hf_lin hs 172 rfl) h.1 ?_
    replace h := h.2
    refine hf_idiv dX12_opens_48 h.1 ?_
    replace h := h.2
    refine hf_istore_n (l2 := [some (.ref 156), some (.int x1), some (.int (x2 / (I 172 x3.toNatClampNeg))), some (.int x3)]) dX12_opens_49 rfl (by decide) rfl ?_
    refine hf_aload_n dX12_opens_50 rfl rfl ?_
    refine hf_getr (b := 174) (c := 12) (j := 31) dX12_opens_51 (hs.2.1 156 _ rfl) (hf_lin hs 156 rfl) (by decide) (by decide) hw1067 rfl (hs.2.2 156 31 _ rfl) ?_
    refine hf_iload_n dX12_opens_54 rfl rfl ?_
    refine hf_iload_n dX12_opens_55 rfl rfl ?_
    refine hf_if_ne (tgt := 63) dX12_opens_56 (by decide) (fun hc => ?_) (fun hc => ?_)
    · replace h := h.1 hc
      refine hf_iload_n dX12_opens_63 rfl rfl ?_
      refine hf_aload_n dX12_opens_64 rfl rfl ?_
      refine hf_geti (c := 12) (j := 37) dX12_opens_65 (hs.2.1 156 _ rfl) (hf_lin hs 156 rfl) (by decide) (by decide) hw1073 (Or.inl rfl) ?_
      refine hf_irem dX12_opens_68 h.1 ?_
      replace h := h.2
      refine hf_aload_n dX12_opens_69 rfl rfl ?_
      refine hf_callV (c := 12) (as := []) ok_X12_said dX12_opens_70 hw1423 hw1424 hw1656 (hs.2.1 156 _ rfl) (by decide) (hf_lin hs 156 rfl) rfl (Nat.le_of_ble_eq_true rfl) rfl (Nat.le_of_ble_eq_true rfl) (Nat.zero_le _) (Nat.zero_le _) ?_
      show hf_G X Y_X12_said d _ _ 0 [some (.ref 156)] [] (t, T, (hf_up I 173 x3.toNatClampNeg (I 171 ((((3 * x3) + (x2 - x2 / (I 172 x3.toNatClampNeg) * (I 172 x3.toNatClampNeg)))).toNatClampNeg))), L, P) _
      refine hf_aload_n dX12_said_0 rfl rfl ?_
      refine hf_getr (b := 158) (c := 12) (j := 2) dX12_said_1 (hs.2.1 156 _ rfl) (hf_lin hs 156 rfl) (by decide) (by decide) hw1038 rfl (hs.2.2 156 2 _ rfl) ?_
      refine hf_sipush (v := 317) dX12_said_4 (by decide) ?_
      refine hf_iald_k (j := 317) (by decide) dX12_said_7 (hs.2.1 158 _ rfl) (hf_lin hs 158 rfl) (hf_vin (by decide)) ?_
      refine hf_ireturn dX12_said_8 rfl rfl ?_
      show hf_G X Y_X12_opens (d + 1) _ _ 73 [some (.ref 156), some (.int x1), some (.int (x2 / (I 172 x3.toNatClampNeg))), some (.int x3)] [.int (I 158 317), .int (x1 - x1 / (I 156 37) * (I 156 37)), .int x3, .ref 174] (t, T, (hf_up I 173 x3.toNatClampNeg (I 171 ((((3 * x3) + (x2 - x2 / (I 172 x3.toNatClampNeg) * (I 172 x3.toNatClampNeg)))).toNatClampNeg))), L, P) _
      refine hf_iconst (v := 1) dX12_opens_73 (by decide) ?_
      refine hf_isub dX12_opens_74 ?_
      refine hf_iload_n dX12_opens_75 rfl rfl ?_
      refine hf_isub dX12_opens_76 ?_
      refine hf_ishr dX12_opens_77 ?_
      refine hf_iconst (v := 1) dX12_opens_78 (by decide) ?_
      refine hf_iand dX12_opens_79 ?_
      refine hf_iast dX12_opens_80 (hs.2.1 174 _ rfl) (hf_lin hs 174 rfl) h.1 ?_
      replace h := h.2
      refine hf_iinc (v := (x3 + (-1))) (l2 := [some (.ref 156), some (.int x1), some (.int (x2 / (I 172 x3.toNatClampNeg))), some (.int (x3 + (-1)))]) dX12_opens_81 (by decide) rfl rfl rfl ?_
      refine hf_goto (tgt := 14) dX12_opens_84 (by decide) ?_
      exact h
    · replace h := h.2 hc
      refine hf_iconst (v := 0) dX12_opens_59 (by decide) ?_
      refine hf_goto (tgt := 80) dX12_opens_60 (by decide) ?_
      refine hf_iast dX12_opens_80 (hs.2.1 174 _ rfl) (hf_lin hs 174 rfl) h.1 ?_
      replace h := h.2
      refine hf_iinc (v := (x3 + (-1))) (l2 := [some (.ref 156), some (.int x1), some (.int (x2 / (I 172 x3.toNatClampNeg))), some (.int (x3 + (-1)))]) dX12_opens_81 (by decide) rfl rfl rfl ?_
      refine hf_goto (tgt := 14) dX12_opens_84 (by decide) ?_
      exact h

set_option maxHeartbeats 4000000 in
theorem w_X12_opens_94 {X : hf_X} {d k n t : Nat} {T : hf_T} {I : hf_I} {L : hf_L} {P : hf_P} {Q : Option Value → hf_M → Prop} {x3 : Int32} (hs : hf_Lay t T P) (h : ((I 158 317) ≤ x3 → vp_in (I 156 38) 7 ∧ (((I 158 314) < (I 156 38) → Q (some (.int 0)) (t, T, (hf_up I 178 (((I 156 38)).toNatClampNeg) (I 158 317)), L, P)) ∧ (¬ ((I 158 314) < (I 156 38)) → Q (some (.int 1)) (t, T, (hf_up I 178 (((I 156 38)).toNatClampNeg) (I 158 317)), L, P)))) ∧ (¬ ((I 158 317) ≤ x3) → (x3 = 0 → vp_in (I 156 38) 7 ∧ (vp_in x3 6 ∧ (vp_in (I 173 x3.toNatClampNeg) 16 ∧ (vp_in (I 156 38) 6 ∧ (hf_G X Y_X12_opens (d + 1) k n 94 [some (.ref 156), none, none, some (.int (x3 + 1))] [] (t, T, (hf_up (hf_up (hf_up I 178 (((I 156 38)).toNatClampNeg) x3) 177 (((I 156 38)).toNatClampNeg) (I 175 (((I 173 x3.toNatClampNeg)).toNatClampNeg))) 156 38 ((I 156 38) + 1)), L, P) Q))))) ∧ (¬ (x3 = 0) → vp_in x3 6 ∧ ((¬ (I 174 x3.toNatClampNeg) = 1 → vp_in ((I 156 38) - 1) 6 ∧ (vp_in x3 6 ∧ (vp_in (I 173 x3.toNatClampNeg) 16 ∧ (vp_in ((I 156 38) - 1) 6 ∧ (hf_G X Y_X12_opens (d + 1) k n 94 [some (.ref 156), none, none, some (.int (x3 + 1))] [] (t, T, (hf_up I 177 ((((I 156 38) - 1)).toNatClampNeg) ((I 177 ((((I 156 38) - 1)).toNatClampNeg)) + ((I 156 39) + (I 175 (((I 173 x3.toNatClampNeg)).toNatClampNeg))))), L, P) Q))))) ∧ ((I 174 x3.toNatClampNeg) = 1 → vp_in (I 156 38) 7 ∧ (vp_in x3 6 ∧ (vp_in (I 173 x3.toNatClampNeg) 16 ∧ (vp_in (I 156 38) 6 ∧ (hf_G X Y_X12_opens (d + 1) k n 94 [some (.ref 156), none, none, some (.int (x3 + 1))] [] (t, T, (hf_up (hf_up (hf_up I 178 (((I 156 38)).toNatClampNeg) x3) 177 (((I 156 38)).toNatClampNeg) (I 175 (((I 173 x3.toNatClampNeg)).toNatClampNeg))) 156 38 ((I 156 38) + 1)), L, P) Q))))))))) : hf_G X Y_X12_opens (d + 1) k n 94 [some (.ref 156), none, none, some (.int x3)] [] (t, T, I, L, P) Q := by
  refine hf_iload_n dX12_opens_94 rfl rfl ?_
  refine hf_aload_n dX12_opens_95 rfl rfl ?_
  refine hf_callV (c := 12) (as := []) ok_X12_said dX12_opens_96 hw1423 hw1424 hw1656 (hs.2.1 156 _ rfl) (by decide) (hf_lin hs 156 rfl) rfl (Nat.le_of_ble_eq_true rfl) rfl (Nat.le_of_ble_eq_true rfl) (Nat.zero_le _) (Nat.zero_le _) ?_
  show hf_G X Y_X12_said d _ _ 0 [some (.ref 156)] [] (t, T, I, L, P) _
  refine hf_aload_n dX12_said_0 rfl rfl ?_
  refine hf_getr (b := 158) (c := 12) (j := 2) dX12_said_1 (hs.2.1 156 _ rfl) (hf_lin hs 156 rfl) (by decide) (by decide) hw1038 rfl (hs.2.2 156 2 _ rfl) ?_
  refine hf_sipush (v := 317) dX12_said_4 (by decide) ?_
  refine hf_iald_k (j := 317) (by decide) dX12_said_7 (hs.2.1 158 _ rfl) (hf_lin hs 158 rfl) (hf_vin (by decide)) ?_
  refine hf_ireturn dX12_said_8 rfl rfl ?_
  show hf_G X Y_X12_opens (d + 1) _ _ 99 [some (.ref 156), none, none, some (.int x3)] [.int (I 158 317), .int x3] (t, T, I, L, P) _
  refine hf_icmp_ge (tgt := 195) dX12_opens_99 (by decide) (fun hc => ?_) (fun hc => ?_)
  · replace h := h.1 hc
    refine hf_aload_n dX12_opens_195 rfl rfl ?_
    refine hf_getr (b := 178) (c := 12) (j := 35) dX12_opens_196 (hs.2.1 156 _ rfl) (hf_lin hs 156 rfl) (by decide) (by decide) hw1071 rfl (hs.2.2 156 35 _ rfl) ?_
    refine hf_aload_n dX12_opens_199 rfl rfl ?_
    refine hf_geti (c := 12) (j := 38) dX12_opens_200 (hs.2.1 156 _ rfl) (hf_lin hs 156 rfl) (by decide) (by decide) hw1074 (Or.inl rfl) ?_
    refine hf_aload_n dX12_opens_203 rfl rfl ?_
    refine hf_callV (c := 12) (as := []) ok_X12_said dX12_opens_204 hw1423 hw1424 hw1656 (hs.2.1 156 _ rfl) (by decide) (hf_lin hs 156 rfl) rfl (Nat.le_of_ble_eq_true rfl) rfl (Nat.le_of_ble_eq_true rfl) (Nat.zero_le _) (Nat.zero_le _) ?_
    show hf_G X Y_X12_said d _ _ 0 [some (.ref 156)] [] (t, T, I, L, P) _
    refine hf_aload_n dX12_said_0 rfl rfl ?_
    refine hf_getr (b := 158) (c := 12) (j := 2) dX12_said_1 (hs.2.1 156 _ rfl) (hf_lin hs 156 rfl) (by decide) (by decide) hw1038 rfl (hs.2.2 156 2 _ rfl) ?_
    refine hf_sipush (v := 317) dX12_said_4 (by decide) ?_
    refine hf_iald_k (j := 317) (by decide) dX12_said_7 (hs.2.1 158 _ rfl) (hf_lin hs 158 rfl) (hf_vin (by decide)) ?_
    refine hf_ireturn dX12_said_8 rfl rfl ?_
    show hf_G X Y_X12_opens (d + 1) _ _ 207 [some (.ref 156), none, none, some (.int x3)] [.int (I 158 317), .int (I 156 38), .ref 178] (t, T, I, L, P) _
    refine hf_iast dX12_opens_207 (hs.2.1 178 _ rfl) (hf_lin hs 178 rfl) h.1 ?_
    replace h := h.2
    refine hf_aload_n dX12_opens_208 rfl rfl ?_
    refine hf_geti (c := 12) (j := 38) dX12_opens_209 (hs.2.1 156 _ rfl) (hf_lin hs 156 rfl) (by decide) (by decide) hw1074 (Or.inl rfl) ?_
    refine hf_aload_n dX12_opens_212 rfl rfl ?_
    refine hf_getr (b := 158) (c := 12) (j := 2) dX12_opens_213 (hs.2.1 156 _ rfl) (hf_lin hs 156 rfl) (by decide) (by decide) hw1038 rfl (hs.2.2 156 2 _ rfl) ?_
    refine hf_sipush (v := 314) dX12_opens_216 (by decide) ?_
    refine hf_iald_k (j := 314) (by decide) dX12_opens_219 (hs.2.1 158 _ rfl) (hf_lin hs 158 rfl) (hf_vin (by decide)) ?_
    refine hf_icmp_gt (tgt := 227) dX12_opens_220 (by decide) (fun hc => ?_) (fun hc => ?_)
    · replace h := h.1 hc
      refine hf_iconst (v := 0) dX12_opens_227 (by decide) ?_
      refine hf_ireturn dX12_opens_228 rfl (by decide) ?_
      exact h
    · replace h := h.2 hc
      refine hf_iconst (v := 1) dX12_opens_223 (by decide) ?_
      refine hf_goto (tgt := 228) dX12_opens_224 (by decide) ?_
      refine hf_ireturn dX12_opens_228 rfl (by decide) ?_
      exact h
  · replace h := h.2 hc
    refine hf_iload_n dX12_opens_102 rfl rfl ?_
    refine hf_if_eq (tgt := 116) dX12_opens_103 (by decide) (fun hc => ?_) (fun hc => ?_)
    · replace h := h.1 hc
      refine hf_aload_n dX12_opens_116 rfl rfl ?_
      refine hf_getr (b := 178) (c := 12) (j := 35) dX12_opens_117 (hs.2.1 156 _ rfl) (hf_lin hs 156 rfl) (by decide) (by decide) hw1071 rfl (hs.2.2 156 35 _ rfl) ?_
      refine hf_aload_n dX12_opens_120 rfl rfl ?_
      refine hf_geti (c := 12) (j := 38) dX12_opens_121 (hs.2.1 156 _ rfl) (hf_lin hs 156 rfl) (by decide) (by decide) hw1074 (Or.inl rfl) ?_
      refine hf_iload_n dX12_opens_124 rfl rfl ?_
      refine hf_iast dX12_opens_125 (hs.2.1 178 _ rfl) (hf_lin hs 178 rfl) h.1 ?_
      replace h := h.2
      refine hf_aload_n dX12_opens_126 rfl rfl ?_
      refine hf_getr (b := 177) (c := 12) (j := 34) dX12_opens_127 (hs.2.1 156 _ rfl) (hf_lin hs 156 rfl) (by decide) (by decide) hw1070 rfl (hs.2.2 156 34 _ rfl) ?_
      refine hf_aload_n dX12_opens_130 rfl rfl ?_
      refine hf_geti (c := 12) (j := 38) dX12_opens_131 (hs.2.1 156 _ rfl) (hf_lin hs 156 rfl) (by decide) (by decide) hw1074 (Or.inl rfl) ?_
      refine hf_aload_n dX12_opens_134 rfl rfl ?_
      refine hf_getr (b := 175) (c := 12) (j := 32) dX12_opens_135 (hs.2.1 156 _ rfl) (hf_lin hs 156 rfl) (by decide) (by decide) hw1068 rfl (hs.2.2 156 32 _ rfl) ?_
      refine hf_aload_n dX12_opens_138 rfl rfl ?_
      refine hf_getr (b := 173) (c := 12) (j := 30) dX12_opens_139 (hs.2.1 156 _ rfl) (hf_lin hs 156 rfl) (by decide) (by decide) hw1066 rfl (hs.2.2 156 30 _ rfl) ?_
      refine hf_iload_n dX12_opens_142 rfl rfl ?_
      refine hf_iald dX12_opens_143 (hs.2.1 173 _ rfl) (hf_lin hs 173 rfl) h.1 ?_
      replace h := h.2
      refine hf_iald dX12_opens_144 (hs.2.1 175 _ rfl) (hf_lin hs 175 rfl) h.1 ?_
      replace h := h.2
      refine hf_iast dX12_opens_145 (hs.2.1 177 _ rfl) (hf_lin hs 177 rfl) h.1 ?_
      replace h := h.2
      refine hf_aload_n dX12_opens_146 rfl rfl ?_
      refine hf_dup dX12_opens_147 rfl ?_
      refine hf_geti (c := 12) (j := 38) dX12_opens_148 (hs.2.1 156 _ rfl) (hf_lin hs 156 rfl) (by decide) (by decide) hw1074 (Or.inl rfl) ?_
      refine hf_iconst (v := 1) dX12_opens_151 (by decide) ?_
      refine hf_iadd dX12_opens_152 ?_
      refine hf_puti (c := 12) (j := 38) dX12_opens_153 (hs.2.1 156 _ rfl) (hf_lin hs 156 rfl) (by decide) (by decide) hw1074 rfl rfl ?_
      refine hf_goto (tgt := 189) dX12_opens_156 (by decide) ?_
      refine hf_iinc (v := (x3 + 1)) (l2 := [some (.ref 156), none, none, some (.int (x3 + 1))]) dX12_opens_189 (by decide) rfl rfl rfl ?_
      refine hf_goto (tgt := 94) dX12_opens_192 (by decide) ?_
      exact h
    · replace h := h.2 hc
      refine hf_aload_n dX12_opens_106 rfl rfl ?_
      refine hf_getr (b := 174) (c := 12) (j := 31) dX12_opens_107 (hs.2.1 156 _ rfl) (hf_lin hs 156 rfl) (by decide) (by decide) hw1067 rfl (hs.2.2 156 31 _ rfl) ?_
      refine hf_iload_n dX12_opens_110 rfl rfl ?_
      refine hf_iald dX12_opens_111 (hs.2.1 174 _ rfl) (hf_lin hs 174 rfl) h.1 ?_
      replace h := h.2
      refine hf_iconst (v := 1) dX12_opens_112 (by decide) ?_
      refine hf_icmp_ne (tgt := 159) dX12_opens_113 (by decide) (fun hc => ?_) (fun hc => ?_)
      · replace h := h.1 hc
        refine hf_aload_n dX12_opens_159 rfl rfl ?_
        refine hf_getr (b := 177) (c := 12) (j := 34) dX12_opens_160 (hs.2.1 156 _ rfl) (hf_lin hs 156 rfl) (by decide) (by decide) hw1070 rfl (hs.2.2 156 34 _ rfl) ?_
        refine hf_aload_n dX12_opens_163 rfl rfl ?_
        refine hf_geti (c := 12) (j := 38) dX12_opens_164 (hs.2.1 156 _ rfl) (hf_lin hs 156 rfl) (by decide) (by decide) hw1074 (Or.inl rfl) ?_
        refine hf_iconst (v := 1) dX12_opens_167 (by decide) ?_
        refine hf_isub dX12_opens_168 ?_
        refine hf_dup2 dX12_opens_169 rfl rfl ?_
        refine hf_iald dX12_opens_170 (hs.2.1 177 _ rfl) (hf_lin hs 177 rfl) h.1 ?_
        replace h := h.2
        refine hf_aload_n dX12_opens_171 rfl rfl ?_
        refine hf_geti (c := 12) (j := 39) dX12_opens_172 (hs.2.1 156 _ rfl) (hf_lin hs 156 rfl) (by decide) (by decide) hw1075 (Or.inl rfl) ?_
        refine hf_aload_n dX12_opens_175 rfl rfl ?_
        refine hf_getr (b := 175) (c := 12) (j := 32) dX12_opens_176 (hs.2.1 156 _ rfl) (hf_lin hs 156 rfl) (by decide) (by decide) hw1068 rfl (hs.2.2 156 32 _ rfl) ?_
        refine hf_aload_n dX12_opens_179 rfl rfl ?_
        refine hf_getr (b := 173) (c := 12) (j := 30) dX12_opens_180 (hs.2.1 156 _ rfl) (hf_lin hs 156 rfl) (by decide) (by decide) hw1066 rfl (hs.2.2 156 30 _ rfl) ?_
        refine hf_iload_n dX12_opens_183 rfl rfl ?_
        refine hf_iald dX12_opens_184 (hs.2.1 173 _ rfl) (hf_lin hs 173 rfl) h.1 ?_
        replace h := h.2
        refine hf_iald dX12_opens_185 (hs.2.1 175 _ rfl) (hf_lin hs 175 rfl) h.1 ?_
        replace h := h.2
        refine hf_iadd dX12_opens_186 ?_
        refine hf_iadd dX12_opens_187 ?_
        refine hf_iast dX12_opens_188 (hs.2.1 177 _ rfl) (hf_lin hs 177 rfl) h.1 ?_
        replace h := h.2
        refine hf_iinc (v := (x3 + 1)) (l2 := [some (.ref 156), none, none, some (.int (x3 + 1))]) dX12_opens_189 (by decide) rfl rfl rfl ?_
        refine hf_goto (tgt := 94) dX12_opens_192 (by decide) ?_
        exact h
      · replace h := h.2 hc
        refine hf_aload_n dX12_opens_116 rfl rfl ?_
        refine hf_getr (b := 178) (c := 12) (j := 35) dX12_opens_117 (hs.2.1 156 _ rfl) (hf_lin hs 156 rfl) (by decide) (by decide) hw1071 rfl (hs.2.2 156 35 _ rfl) ?_
        refine hf_aload_n dX12_opens_120 rfl rfl ?_
        refine hf_geti (c := 12) (j := 38) dX12_opens_121 (hs.2.1 156 _ rfl) (hf_lin hs 156 rfl) (by decide) (by decide) hw1074 (Or.inl rfl) ?_
        refine hf_iload_n dX12_opens_124 rfl rfl ?_
        refine hf_iast dX12_opens_125 (hs.2.1 178 _ rfl) (hf_lin hs 178 rfl) h.1 ?_
        replace h := h.2
        refine hf_aload_n dX12_opens_126 rfl rfl ?_
        refine hf_getr (b := 177) (c := 12) (j := 34) dX12_opens_127 (hs.2.1 156 _ rfl) (hf_lin hs 156 rfl) (by decide) (by decide) hw1070 rfl (hs.2.2 156 34 _ rfl) ?_
        refine hf_aload_n dX12_opens_130 rfl rfl ?_
        refine hf_geti (c := 12) (j := 38) dX12_opens_131 (hs.2.1 156 _ rfl) (hf_lin hs 156 rfl) (by decide) (by decide) hw1074 (Or.inl rfl) ?_
        refine hf_aload_n dX12_opens_134 rfl rfl ?_
        refine hf_getr (b := 175) (c := 12) (j := 32) dX12_opens_135 (hs.2.1 156 _ rfl) (hf_lin hs 156 rfl) (by decide) (by decide) hw1068 rfl (hs.2.2 156 32 _ rfl) ?_
        refine hf_aload_n dX12_opens_138 rfl rfl ?_
        refine hf_getr (b := 173) (c := 12) (j := 30) dX12_opens_139 (hs.2.1 156 _ rfl) (hf_lin hs 156 rfl) (by decide) (by decide) hw1066 rfl (hs.2.2 156 30 _ rfl) ?_
        refine hf_iload_n dX12_opens_142 rfl rfl ?_
        refine hf_iald dX12_opens_143 (hs.2.1 173 _ rfl) (hf_lin hs 173 rfl) h.1 ?_
        replace h := h.2
        refine hf_iald dX12_opens_144 (hs.2.1 175 _ rfl) (hf_lin hs 175 rfl) h.1 ?_
        replace h := h.2
        refine hf_iast dX12_opens_145 (hs.2.1 177 _ rfl) (hf_lin hs 177 rfl) h.1 ?_
        replace h := h.2
        refine hf_aload_n dX12_opens_146 rfl rfl ?_
        refine hf_dup dX12_opens_147 rfl ?_
        refine hf_geti (c := 12) (j := 38) dX12_opens_148 (hs.2.1 156 _ rfl) (hf_lin hs 156 rfl) (by decide) (by decide) hw1074 (Or.inl rfl) ?_
        refine hf_iconst (v := 1) dX12_opens_151 (by decide) ?_
        refine hf_iadd dX12_opens_152 ?_
        refine hf_puti (c := 12) (j := 38) dX12_opens_153 (hs.2.1 156 _ rfl) (hf_lin hs 156 rfl) (by decide) (by decide) hw1074 rfl rfl ?_
        refine hf_goto (tgt := 189) dX12_opens_156 (by decide) ?_
        refine hf_iinc (v := (x3 + 1)) (l2 := [some (.ref 156), none, none, some (.int (x3 + 1))]) dX12_opens_189 (by decide) rfl rfl rfl ?_
        refine hf_goto (tgt := 94) dX12_opens_192 (by decide) ?_
        exact h

set_option maxHeartbeats 4000000 in
theorem w_X12_broadest_0 {X : hf_X} {d k n t : Nat} {T : hf_T} {I : hf_I} {L : hf_L} {P : hf_P} {Q : Option Value → hf_M → Prop}  (hs : hf_Lay t T P) (h : hf_G X Y_X12_broadest d k n 4 [some (.ref 156), some (.int 0), some (.int 0)] [] (t, T, I, L, P) Q) : hf_G X Y_X12_broadest d k n 0 (hf_en [.ref 156] 3) [] (t, T, I, L, P) Q := by
  show hf_G X Y_X12_broadest d k n 0 [some (.ref 156), none, none] [] (t, T, I, L, P) Q
  refine hf_iconst (v := 0) dX12_broadest_0 (by decide) ?_
  refine hf_istore_n (l2 := [some (.ref 156), some (.int 0), none]) dX12_broadest_1 rfl (by decide) rfl ?_
  refine hf_iconst (v := 0) dX12_broadest_2 (by decide) ?_
  refine hf_istore_n (l2 := [some (.ref 156), some (.int 0), some (.int 0)]) dX12_broadest_3 rfl (by decide) rfl ?_
  exact h

set_option maxHeartbeats 4000000 in
theorem w_X12_broadest_4 {X : hf_X} {d k n t : Nat} {T : hf_T} {I : hf_I} {L : hf_L} {P : hf_P} {Q : Option Value → hf_M → Prop} {x1 : Int32} {x2 : Int32} (hs : hf_Lay t T P) (h : ((I 156 38) ≤ x2 → Q (some (.int x1)) (t, T, I, L, P)) ∧ (¬ ((I 156 38) ≤ x2) → vp_in x2 6 ∧ ((x1 ≤ (I 177 x2.toNatClampNeg) → hf_G X Y_X12_broadest (d + 1) k n 4 [some (.ref 156), some (.int (I 177 x2.toNatClampNeg)), some (.int (x2 + 1))] [] (t, T, I, L, P) Q) ∧ (¬ (x1 ≤ (I 177 x2.toNatClampNeg)) → hf_G X Y_X12_broadest (d + 1) k n 4 [some (.ref 156), some (.int x1), some (.int (x2 + 1))] [] (t, T, I, L, P) Q)))) : hf_G X Y_X12_broadest (d + 1) k n 4 [some (.ref 156), some (.int x1), some (.int x2)] [] (t, T, I, L, P) Q := by
  refine hf_iload_n dX12_broadest_4 rfl rfl ?_
  refine hf_aload_n dX12_broadest_5 rfl rfl ?_
  refine hf_geti (c := 12) (j := 38) dX12_broadest_6 (hs.2.1 156 _ rfl) (hf_lin hs 156 rfl) (by decide) (by decide) hw1074 (Or.inl rfl) ?_
  refine hf_icmp_ge (tgt := 29) dX12_broadest_9 (by decide) (fun hc => ?_) (fun hc => ?_)
  · replace h := h.1 hc
    refine hf_iload_n dX12_broadest_29 rfl rfl ?_
    refine hf_ireturn dX12_broadest_30 rfl rfl ?_
    exact h
  · replace h := h.2 hc
    refine hf_iload_n dX12_broadest_12 rfl rfl ?_
    refine hf_aload_n dX12_broadest_13 rfl rfl ?_
    refine hf_getr (b := 177) (c := 12) (j := 34) dX12_broadest_14 (hs.2.1 156 _ rfl) (hf_lin hs 156 rfl) (by decide) (by decide) hw1070 rfl (hs.2.2 156 34 _ rfl) ?_
    refine hf_iload_n dX12_broadest_17 rfl rfl ?_
    refine hf_iald dX12_broadest_18 (hs.2.1 177 _ rfl) (hf_lin hs 177 rfl) h.1 ?_
    replace h := h.2
    refine hf_callS (as := [.int x1, .int (I 177 x2.toNatClampNeg)]) ok_X12_greater dX12_broadest_19 hw1384 hw1385 rfl (Nat.le_of_ble_eq_true rfl) rfl (Nat.le_of_ble_eq_true rfl) (Nat.zero_le _) (Nat.zero_le _) ?_
    show hf_G X Y_X12_greater d _ _ 0 [some (.int x1), some (.int (I 177 x2.toNatClampNeg))] [] (t, T, I, L, P) _
    refine hf_iload_n dX12_greater_0 rfl rfl ?_
    refine hf_iload_n dX12_greater_1 rfl rfl ?_
    refine hf_icmp_le (tgt := 9) dX12_greater_2 (by decide) (fun hc => ?_) (fun hc => ?_)
    · replace h := h.1 hc
      refine hf_iload_n dX12_greater_9 rfl rfl ?_
      refine hf_ireturn dX12_greater_10 rfl rfl ?_
      show hf_G X Y_X12_broadest (d + 1) _ _ 22 [some (.ref 156), some (.int x1), some (.int x2)] [.int (I 177 x2.toNatClampNeg)] (t, T, I, L, P) _
      refine hf_istore_n (l2 := [some (.ref 156), some (.int (I 177 x2.toNatClampNeg)), some (.int x2)]) dX12_broadest_22 rfl (by decide) rfl ?_
      refine hf_iinc (v := (x2 + 1)) (l2 := [some (.ref 156), some (.int (I 177 x2.toNatClampNeg)), some (.int (x2 + 1))]) dX12_broadest_23 (by decide) rfl rfl rfl ?_
      refine hf_goto (tgt := 4) dX12_broadest_26 (by decide) ?_
      exact h
    · replace h := h.2 hc
      refine hf_iload_n dX12_greater_5 rfl rfl ?_
      refine hf_goto (tgt := 10) dX12_greater_6 (by decide) ?_
      refine hf_ireturn dX12_greater_10 rfl rfl ?_
      show hf_G X Y_X12_broadest (d + 1) _ _ 22 [some (.ref 156), some (.int x1), some (.int x2)] [.int x1] (t, T, I, L, P) _
      refine hf_istore_n (l2 := [some (.ref 156), some (.int x1), some (.int x2)]) dX12_broadest_22 rfl (by decide) rfl ?_
      refine hf_iinc (v := (x2 + 1)) (l2 := [some (.ref 156), some (.int x1), some (.int (x2 + 1))]) dX12_broadest_23 (by decide) rfl rfl rfl ?_
      refine hf_goto (tgt := 4) dX12_broadest_26 (by decide) ?_
      exact h

set_option maxHeartbeats 4000000 in
theorem w_X12_costOfRow_0 {X : hf_X} {d k n t : Nat} {T : hf_T} {I : hf_I} {L : hf_L} {P : hf_P} {Q : Option Value → hf_M → Prop}  (hs : hf_Lay t T P) (h : hf_G X Y_X12_costOfRow d k n 4 [some (.ref 156), some (.int 0), some (.int 0), none, none, none] [] (t, T, I, L, P) Q) : hf_G X Y_X12_costOfRow d k n 0 (hf_en [.ref 156] 6) [] (t, T, I, L, P) Q := by
  show hf_G X Y_X12_costOfRow d k n 0 [some (.ref 156), none, none, none, none, none] [] (t, T, I, L, P) Q
  refine hf_iconst (v := 0) dX12_costOfRow_0 (by decide) ?_
  refine hf_istore_n (l2 := [some (.ref 156), some (.int 0), none, none, none, none]) dX12_costOfRow_1 rfl (by decide) rfl ?_
  refine hf_iconst (v := 0) dX12_costOfRow_2 (by decide) ?_
  refine hf_istore_n (l2 := [some (.ref 156), some (.int 0), some (.int 0), none, none, none]) dX12_costOfRow_3 rfl (by decide) rfl ?_
  exact h

set_option maxHeartbeats 4000000 in
theorem w_X12_costOfRow_4 {X : hf_X} {d k n t : Nat} {T : hf_T} {I : hf_I} {L : hf_L} {P : hf_P} {Q : Option Value → hf_M → Prop} {x1 : Int32} {x2 : Int32} (hs : hf_Lay t T P) (h : ((I 158 317) ≤ x2 → hf_G X Y_X12_costOfRow (d + 1) k n 34 [some (.ref 156), some (.int x1), some (.int 0), none, none, none] [] (t, T, I, L, P) Q) ∧ (¬ ((I 158 317) ≤ x2) → vp_in x2 6 ∧ (vp_in (I 173 x2.toNatClampNeg) 16 ∧ (hf_G X Y_X12_costOfRow (d + 1) k n 4 [some (.ref 156), some (.int (x1 + (I 176 (((I 173 x2.toNatClampNeg)).toNatClampNeg)))), some (.int (x2 + 1)), none, none, none] [] (t, T, I, L, P) Q)))) : hf_G X Y_X12_costOfRow (d + 1) k n 4 [some (.ref 156), some (.int x1), some (.int x2), none, none, none] [] (t, T, I, L, P) Q := by
  refine hf_iload_n dX12_costOfRow_4 rfl rfl ?_
  refine hf_aload_n dX12_costOfRow_5 rfl rfl ?_
  refine hf_callV (c := 12) (as := []) ok_X12_said dX12_costOfRow_6 hw1423 hw1424 hw1656 (hs.2.1 156 _ rfl) (by decide) (hf_lin hs 156 rfl) rfl (Nat.le_of_ble_eq_true rfl) rfl (Nat.le_of_ble_eq_true rfl) (Nat.zero_le _) (Nat.zero_le _) ?_
  show hf_G X Y_X12_said d _ _ 0 [some (.ref 156)] [] (t, T, I, L, P) _
  refine hf_aload_n dX12_said_0 rfl rfl ?_
  refine hf_getr (b := 158) (c := 12) (j := 2) dX12_said_1 (hs.2.1 156 _ rfl) (hf_lin hs 156 rfl) (by decide) (by decide) hw1038 rfl (hs.2.2 156 2 _ rfl) ?_
  refine hf_sipush (v := 317) dX12_said_4 (by decide) ?_
  refine hf_iald_k (j := 317) (by decide) dX12_said_7 (hs.2.1 158 _ rfl) (hf_lin hs 158 rfl) (hf_vin (by decide)) ?_
  refine hf_ireturn dX12_said_8 rfl rfl ?_
  show hf_G X Y_X12_costOfRow (d + 1) _ _ 9 [some (.ref 156), some (.int x1), some (.int x2), none, none, none] [.int (I 158 317), .int x2] (t, T, I, L, P) _
  refine hf_icmp_ge (tgt := 32) dX12_costOfRow_9 (by decide) (fun hc => ?_) (fun hc => ?_)
  · replace h := h.1 hc
    refine hf_iconst (v := 0) dX12_costOfRow_32 (by decide) ?_
    refine hf_istore_n (l2 := [some (.ref 156), some (.int x1), some (.int 0), none, none, none]) dX12_costOfRow_33 rfl (by decide) rfl ?_
    exact h
  · replace h := h.2 hc
    refine hf_iload_n dX12_costOfRow_12 rfl rfl ?_
    refine hf_aload_n dX12_costOfRow_13 rfl rfl ?_
    refine hf_getr (b := 176) (c := 12) (j := 33) dX12_costOfRow_14 (hs.2.1 156 _ rfl) (hf_lin hs 156 rfl) (by decide) (by decide) hw1069 rfl (hs.2.2 156 33 _ rfl) ?_
    refine hf_aload_n dX12_costOfRow_17 rfl rfl ?_
    refine hf_getr (b := 173) (c := 12) (j := 30) dX12_costOfRow_18 (hs.2.1 156 _ rfl) (hf_lin hs 156 rfl) (by decide) (by decide) hw1066 rfl (hs.2.2 156 30 _ rfl) ?_
    refine hf_iload_n dX12_costOfRow_21 rfl rfl ?_
    refine hf_iald dX12_costOfRow_22 (hs.2.1 173 _ rfl) (hf_lin hs 173 rfl) h.1 ?_
    replace h := h.2
    refine hf_iald dX12_costOfRow_23 (hs.2.1 176 _ rfl) (hf_lin hs 176 rfl) h.1 ?_
    replace h := h.2
    refine hf_iadd dX12_costOfRow_24 ?_
    refine hf_istore_n (l2 := [some (.ref 156), some (.int (x1 + (I 176 (((I 173 x2.toNatClampNeg)).toNatClampNeg)))), some (.int x2), none, none, none]) dX12_costOfRow_25 rfl (by decide) rfl ?_
    refine hf_iinc (v := (x2 + 1)) (l2 := [some (.ref 156), some (.int (x1 + (I 176 (((I 173 x2.toNatClampNeg)).toNatClampNeg)))), some (.int (x2 + 1)), none, none, none]) dX12_costOfRow_26 (by decide) rfl rfl rfl ?_
    refine hf_goto (tgt := 4) dX12_costOfRow_29 (by decide) ?_
    exact h

set_option maxHeartbeats 4000000 in
theorem w_X12_costOfRow_34 {X : hf_X} {d k n t : Nat} {T : hf_T} {I : hf_I} {L : hf_L} {P : hf_P} {Q : Option Value → hf_M → Prop} {x1 : Int32} {x2 : Int32} (hs : hf_Lay t T P) (h : ((I 156 38) ≤ x2 → Q (some (.int x1)) (t, T, I, L, P)) ∧ (¬ ((I 156 38) ≤ x2) → (x2 ≤ 0 → vp_in x2 7 ∧ (hf_G X Y_X12_costOfRow (d + 1) k n 100 [some (.ref 156), some (.int x1), some (.int x2), some (.int 0), some (.int 0), some (.int (I 178 x2.toNatClampNeg))] [] (t, T, I, L, P) Q)) ∧ (¬ (x2 ≤ 0) → vp_in x2 7 ∧ (vp_in (I 178 x2.toNatClampNeg) 6 ∧ (vp_in ((53 + (13 * (I 173 (((I 178 x2.toNatClampNeg)).toNatClampNeg)))) + 4) 5929 ∧ (vp_in (x2 - 1) 7 ∧ (vp_in (I 178 (((x2 - 1)).toNatClampNeg)) 6 ∧ (vp_in ((53 + (13 * (I 173 (((I 178 (((x2 - 1)).toNatClampNeg))).toNatClampNeg)))) + 4) 5929 ∧ ((¬ (I 158 ((((53 + (13 * (I 173 (((I 178 x2.toNatClampNeg)).toNatClampNeg)))) + 4)).toNatClampNeg)) = (I 158 ((((53 + (13 * (I 173 (((I 178 (((x2 - 1)).toNatClampNeg))).toNatClampNeg)))) + 4)).toNatClampNeg)) → vp_in x2 7 ∧ (hf_G X Y_X12_costOfRow (d + 1) k n 100 [some (.ref 156), some (.int x1), some (.int x2), some (.int 0), some (.int 0), some (.int (I 178 x2.toNatClampNeg))] [] (t, T, I, L, P) Q)) ∧ ((I 158 ((((53 + (13 * (I 173 (((I 178 x2.toNatClampNeg)).toNatClampNeg)))) + 4)).toNatClampNeg)) = (I 158 ((((53 + (13 * (I 173 (((I 178 (((x2 - 1)).toNatClampNeg))).toNatClampNeg)))) + 4)).toNatClampNeg)) → vp_in x2 7 ∧ (hf_G X Y_X12_costOfRow (d + 1) k n 100 [some (.ref 156), some (.int x1), some (.int x2), some (.int 1), some (.int 0), some (.int (I 178 x2.toNatClampNeg))] [] (t, T, I, L, P) Q))))))))))) : hf_G X Y_X12_costOfRow (d + 1) k n 34 [some (.ref 156), some (.int x1), some (.int x2), none, none, none] [] (t, T, I, L, P) Q := by
  refine hf_iload_n dX12_costOfRow_34 rfl rfl ?_
  refine hf_aload_n dX12_costOfRow_35 rfl rfl ?_
  refine hf_geti (c := 12) (j := 38) dX12_costOfRow_36 (hs.2.1 156 _ rfl) (hf_lin hs 156 rfl) (by decide) (by decide) hw1074 (Or.inl rfl) ?_
  refine hf_icmp_ge (tgt := 194) dX12_costOfRow_39 (by decide) (fun hc => ?_) (fun hc => ?_)
  · replace h := h.1 hc
    refine hf_iload_n dX12_costOfRow_194 rfl rfl ?_
    refine hf_ireturn dX12_costOfRow_195 rfl rfl ?_
    exact h
  · replace h := h.2 hc
    refine hf_iload_n dX12_costOfRow_42 rfl rfl ?_
    refine hf_if_le (tgt := 87) dX12_costOfRow_43 (by decide) (fun hc => ?_) (fun hc => ?_)
    · replace h := h.1 hc
      refine hf_iconst (v := 0) dX12_costOfRow_87 (by decide) ?_
      refine hf_istore_n (l2 := [some (.ref 156), some (.int x1), some (.int x2), some (.int 0), none, none]) dX12_costOfRow_88 rfl (by decide) rfl ?_
      refine hf_iconst (v := 0) dX12_costOfRow_89 (by decide) ?_
      refine hf_istore (l2 := [some (.ref 156), some (.int x1), some (.int x2), some (.int 0), some (.int 0), none]) dX12_costOfRow_90 (by decide) rfl ?_
      refine hf_aload_n dX12_costOfRow_92 rfl rfl ?_
      refine hf_getr (b := 178) (c := 12) (j := 35) dX12_costOfRow_93 (hs.2.1 156 _ rfl) (hf_lin hs 156 rfl) (by decide) (by decide) hw1071 rfl (hs.2.2 156 35 _ rfl) ?_
      refine hf_iload_n dX12_costOfRow_96 rfl rfl ?_
      refine hf_iald dX12_costOfRow_97 (hs.2.1 178 _ rfl) (hf_lin hs 178 rfl) h.1 ?_
      replace h := h.2
      refine hf_istore (l2 := [some (.ref 156), some (.int x1), some (.int x2), some (.int 0), some (.int 0), some (.int (I 178 x2.toNatClampNeg))]) dX12_costOfRow_98 (by decide) rfl ?_
      exact h
    · replace h := h.2 hc
      refine hf_aload_n dX12_costOfRow_46 rfl rfl ?_
      refine hf_aload_n dX12_costOfRow_47 rfl rfl ?_
      refine hf_getr (b := 173) (c := 12) (j := 30) dX12_costOfRow_48 (hs.2.1 156 _ rfl) (hf_lin hs 156 rfl) (by decide) (by decide) hw1066 rfl (hs.2.2 156 30 _ rfl) ?_
      refine hf_aload_n dX12_costOfRow_51 rfl rfl ?_
      refine hf_getr (b := 178) (c := 12) (j := 35) dX12_costOfRow_52 (hs.2.1 156 _ rfl) (hf_lin hs 156 rfl) (by decide) (by decide) hw1071 rfl (hs.2.2 156 35 _ rfl) ?_
      refine hf_iload_n dX12_costOfRow_55 rfl rfl ?_
      refine hf_iald dX12_costOfRow_56 (hs.2.1 178 _ rfl) (hf_lin hs 178 rfl) h.1 ?_
      replace h := h.2
      refine hf_iald dX12_costOfRow_57 (hs.2.1 173 _ rfl) (hf_lin hs 173 rfl) h.1 ?_
      replace h := h.2
      refine hf_iconst (v := 4) dX12_costOfRow_58 (by decide) ?_
      refine hf_callV (c := 12) (as := [.int (I 173 (((I 178 x2.toNatClampNeg)).toNatClampNeg)), .int 4]) ok_X12_fact dX12_costOfRow_59 hw1189 hw1190 hw1606 (hs.2.1 156 _ rfl) (by decide) (hf_lin hs 156 rfl) rfl (Nat.le_of_ble_eq_true rfl) rfl (Nat.le_of_ble_eq_true rfl) (Nat.zero_le _) (Nat.zero_le _) ?_
      show hf_G X Y_X12_fact d _ _ 0 [some (.ref 156), some (.int (I 173 (((I 178 x2.toNatClampNeg)).toNatClampNeg))), some (.int 4)] [] (t, T, I, L, P) _
      refine hf_aload_n dX12_fact_0 rfl rfl ?_
      refine hf_getr (b := 158) (c := 12) (j := 2) dX12_fact_1 (hs.2.1 156 _ rfl) (hf_lin hs 156 rfl) (by decide) (by decide) hw1038 rfl (hs.2.2 156 2 _ rfl) ?_
      refine hf_bipush (v := 53) dX12_fact_4 (by decide) ?_
      refine hf_bipush (v := 13) dX12_fact_6 (by decide) ?_
      refine hf_iload_n dX12_fact_8 rfl rfl ?_
      refine hf_imul dX12_fact_9 ?_
      refine hf_iadd dX12_fact_10 ?_
      refine hf_iload_n dX12_fact_11 rfl rfl ?_
      refine hf_iadd dX12_fact_12 ?_
      refine hf_iald dX12_fact_13 (hs.2.1 158 _ rfl) (hf_lin hs 158 rfl) h.1 ?_
      replace h := h.2
      refine hf_ireturn dX12_fact_14 rfl rfl ?_
      show hf_G X Y_X12_costOfRow (d + 1) _ _ 62 [some (.ref 156), some (.int x1), some (.int x2), none, none, none] [.int (I 158 ((((53 + (13 * (I 173 (((I 178 x2.toNatClampNeg)).toNatClampNeg)))) + 4)).toNatClampNeg))] (t, T, I, L, P) _
      refine hf_aload_n dX12_costOfRow_62 rfl rfl ?_
      refine hf_aload_n dX12_costOfRow_63 rfl rfl ?_
      refine hf_getr (b := 173) (c := 12) (j := 30) dX12_costOfRow_64 (hs.2.1 156 _ rfl) (hf_lin hs 156 rfl) (by decide) (by decide) hw1066 rfl (hs.2.2 156 30 _ rfl) ?_
      refine hf_aload_n dX12_costOfRow_67 rfl rfl ?_
      refine hf_getr (b := 178) (c := 12) (j := 35) dX12_costOfRow_68 (hs.2.1 156 _ rfl) (hf_lin hs 156 rfl) (by decide) (by decide) hw1071 rfl (hs.2.2 156 35 _ rfl) ?_
      refine hf_iload_n dX12_costOfRow_71 rfl rfl ?_
      refine hf_iconst (v := 1) dX12_costOfRow_72 (by decide) ?_
      refine hf_isub dX12_costOfRow_73 ?_
      refine hf_iald dX12_costOfRow_74 (hs.2.1 178 _ rfl) (hf_lin hs 178 rfl) h.1 ?_
      replace h := h.2
      refine hf_iald dX12_costOfRow_75 (hs.2.1 173 _ rfl) (hf_lin hs 173 rfl) h.1 ?_
      replace h := h.2
      refine hf_iconst (v := 4) dX12_costOfRow_76 (by decide) ?_
      refine hf_callV (c := 12) (as := [.int (I 173 (((I 178 (((x2 - 1)).toNatClampNeg))).toNatClampNeg)), .int 4]) ok_X12_fact dX12_costOfRow_77 hw1189 hw1190 hw1606 (hs.2.1 156 _ rfl) (by decide) (hf_lin hs 156 rfl) rfl (Nat.le_of_ble_eq_true rfl) rfl (Nat.le_of_ble_eq_true rfl) (Nat.zero_le _) (Nat.zero_le _) ?_
      show hf_G X Y_X12_fact d _ _ 0 [some (.ref 156), some (.int (I 173 (((I 178 (((x2 - 1)).toNatClampNeg))).toNatClampNeg))), some (.int 4)] [] (t, T, I, L, P) _
      refine hf_aload_n dX12_fact_0 rfl rfl ?_
      refine hf_getr (b := 158) (c := 12) (j := 2) dX12_fact_1 (hs.2.1 156 _ rfl) (hf_lin hs 156 rfl) (by decide) (by decide) hw1038 rfl (hs.2.2 156 2 _ rfl) ?_
      refine hf_bipush (v := 53) dX12_fact_4 (by decide) ?_
      refine hf_bipush (v := 13) dX12_fact_6 (by decide) ?_
      refine hf_iload_n dX12_fact_8 rfl rfl ?_
      refine hf_imul dX12_fact_9 ?_
      refine hf_iadd dX12_fact_10 ?_
      refine hf_iload_n dX12_fact_11 rfl rfl ?_
      refine hf_iadd dX12_fact_12 ?_
      refine hf_iald dX12_fact_13 (hs.2.1 158 _ rfl) (hf_lin hs 158 rfl) h.1 ?_
      replace h := h.2
      refine hf_ireturn dX12_fact_14 rfl rfl ?_
      show hf_G X Y_X12_costOfRow (d + 1) _ _ 80 [some (.ref 156), some (.int x1), some (.int x2), none, none, none] [.int (I 158 ((((53 + (13 * (I 173 (((I 178 (((x2 - 1)).toNatClampNeg))).toNatClampNeg)))) + 4)).toNatClampNeg)), .int (I 158 ((((53 + (13 * (I 173 (((I 178 x2.toNatClampNeg)).toNatClampNeg)))) + 4)).toNatClampNeg))] (t, T, I, L, P) _
      refine hf_icmp_ne (tgt := 87) dX12_costOfRow_80 (by decide) (fun hc => ?_) (fun hc => ?_)
      · replace h := h.1 hc
        refine hf_iconst (v := 0) dX12_costOfRow_87 (by decide) ?_
        refine hf_istore_n (l2 := [some (.ref 156), some (.int x1), some (.int x2), some (.int 0), none, none]) dX12_costOfRow_88 rfl (by decide) rfl ?_
        refine hf_iconst (v := 0) dX12_costOfRow_89 (by decide) ?_
        refine hf_istore (l2 := [some (.ref 156), some (.int x1), some (.int x2), some (.int 0), some (.int 0), none]) dX12_costOfRow_90 (by decide) rfl ?_
        refine hf_aload_n dX12_costOfRow_92 rfl rfl ?_
        refine hf_getr (b := 178) (c := 12) (j := 35) dX12_costOfRow_93 (hs.2.1 156 _ rfl) (hf_lin hs 156 rfl) (by decide) (by decide) hw1071 rfl (hs.2.2 156 35 _ rfl) ?_
        refine hf_iload_n dX12_costOfRow_96 rfl rfl ?_
        refine hf_iald dX12_costOfRow_97 (hs.2.1 178 _ rfl) (hf_lin hs 178 rfl) h.1 ?_
        replace h := h.2
        refine hf_istore (l2 := [some (.ref 156), some (.int x1), some (.int x2), some (.int 0), some (.int 0), some (.int (I 178 x2.toNatClampNeg))]) dX12_costOfRow_98 (by decide) rfl ?_
        exact h
      · replace h := h.2 hc
        refine hf_iconst (v := 1) dX12_costOfRow_83 (by decide) ?_
        refine hf_goto (tgt := 88) dX12_costOfRow_84 (by decide) ?_
        refine hf_istore_n (l2 := [some (.ref 156), some (.int x1), some (.int x2), some (.int 1), none, none]) dX12_costOfRow_88 rfl (by decide) rfl ?_
        refine hf_iconst (v := 0) dX12_costOfRow_89 (by decide) ?_
        refine hf_istore (l2 := [some (.ref 156), some (.int x1), some (.int x2), some (.int 1), some (.int 0), none]) dX12_costOfRow_90 (by decide) rfl ?_
        refine hf_aload_n dX12_costOfRow_92 rfl rfl ?_
        refine hf_getr (b := 178) (c := 12) (j := 35) dX12_costOfRow_93 (hs.2.1 156 _ rfl) (hf_lin hs 156 rfl) (by decide) (by decide) hw1071 rfl (hs.2.2 156 35 _ rfl) ?_
        refine hf_iload_n dX12_costOfRow_96 rfl rfl ?_
        refine hf_iald dX12_costOfRow_97 (hs.2.1 178 _ rfl) (hf_lin hs 178 rfl) h.1 ?_
        replace h := h.2
        refine hf_istore (l2 := [some (.ref 156), some (.int x1), some (.int x2), some (.int 1), some (.int 0), some (.int (I 178 x2.toNatClampNeg))]) dX12_costOfRow_98 (by decide) rfl ?_
        exact h

set_option maxHeartbeats 4000000 in
theorem w_X12_costOfRow_100 {X : hf_X} {d k n t : Nat} {T : hf_T} {I : hf_I} {L : hf_L} {P : hf_P} {Q : Option Value → hf_M → Prop} {x1 : Int32} {x2 : Int32} {x3 : Int32} {x4 : Int32} {x5 : Int32} (hs : hf_Lay t T P) (h : vp_in (x2 + 1) 7 ∧ (((I 178 (((x2 + 1)).toNatClampNeg)) ≤ x5 → vp_in x2 6 ∧ (vp_in (x2 + 1) 7 ∧ (vp_in x2 7 ∧ (hf_G X Y_X12_costOf d 0 0 0 (hf_en [.ref 156, .int x2, .int ((I 158 313) - (I 177 x2.toNatClampNeg)), .int ((I 178 (((x2 + 1)).toNatClampNeg)) - (I 178 x2.toNatClampNeg)), .int x3, .int x4] 7) [] (t, T, I, L, P) (fun r M => hf_G X Y_X12_costOfRow (d + 1) k n 186 [some (.ref 156), none, some (.int x2), none, none, none] (r.toList ++ [.int x1]) M Q))))) ∧ (¬ ((I 178 (((x2 + 1)).toNatClampNeg)) ≤ x5) → vp_in x5 6 ∧ (vp_in (275 + x2) 5929 ∧ ((¬ (I 173 x5.toNatClampNeg) = (I 158 (((275 + x2)).toNatClampNeg)) → hf_G X Y_X12_costOfRow (d + 1) k n 100 [some (.ref 156), some (.int x1), some (.int x2), some (.int x3), some (.int x4), some (.int (x5 + 1))] [] (t, T, I, L, P) Q) ∧ ((I 173 x5.toNatClampNeg) = (I 158 (((275 + x2)).toNatClampNeg)) → hf_G X Y_X12_costOfRow (d + 1) k n 100 [some (.ref 156), some (.int x1), some (.int x2), some (.int x3), some (.int 1), some (.int (x5 + 1))] [] (t, T, I, L, P) Q)))))) : hf_G X Y_X12_costOfRow (d + 1) k n 100 [some (.ref 156), some (.int x1), some (.int x2), some (.int x3), some (.int x4), some (.int x5)] [] (t, T, I, L, P) Q := by
  refine hf_iload dX12_costOfRow_100 rfl ?_
  refine hf_aload_n dX12_costOfRow_102 rfl rfl ?_
  refine hf_getr (b := 178) (c := 12) (j := 35) dX12_costOfRow_103 (hs.2.1 156 _ rfl) (hf_lin hs 156 rfl) (by decide) (by decide) hw1071 rfl (hs.2.2 156 35 _ rfl) ?_
  refine hf_iload_n dX12_costOfRow_106 rfl rfl ?_
  refine hf_iconst (v := 1) dX12_costOfRow_107 (by decide) ?_
  refine hf_iadd dX12_costOfRow_108 ?_
  refine hf_iald dX12_costOfRow_109 (hs.2.1 178 _ rfl) (hf_lin hs 178 rfl) h.1 ?_
  replace h := h.2
  refine hf_icmp_ge (tgt := 147) dX12_costOfRow_110 (by decide) (fun hc => ?_) (fun hc => ?_)
  · replace h := h.1 hc
    refine hf_iload_n dX12_costOfRow_147 rfl rfl ?_
    refine hf_aload_n dX12_costOfRow_148 rfl rfl ?_
    refine hf_iload_n dX12_costOfRow_149 rfl rfl ?_
    refine hf_aload_n dX12_costOfRow_150 rfl rfl ?_
    refine hf_getr (b := 158) (c := 12) (j := 2) dX12_costOfRow_151 (hs.2.1 156 _ rfl) (hf_lin hs 156 rfl) (by decide) (by decide) hw1038 rfl (hs.2.2 156 2 _ rfl) ?_
    refine hf_sipush (v := 313) dX12_costOfRow_154 (by decide) ?_
    refine hf_iald_k (j := 313) (by decide) dX12_costOfRow_157 (hs.2.1 158 _ rfl) (hf_lin hs 158 rfl) (hf_vin (by decide)) ?_
    refine hf_aload_n dX12_costOfRow_158 rfl rfl ?_
    refine hf_getr (b := 177) (c := 12) (j := 34) dX12_costOfRow_159 (hs.2.1 156 _ rfl) (hf_lin hs 156 rfl) (by decide) (by decide) hw1070 rfl (hs.2.2 156 34 _ rfl) ?_
    refine hf_iload_n dX12_costOfRow_162 rfl rfl ?_
    refine hf_iald dX12_costOfRow_163 (hs.2.1 177 _ rfl) (hf_lin hs 177 rfl) h.1 ?_
    replace h := h.2
    refine hf_isub dX12_costOfRow_164 ?_
    refine hf_aload_n dX12_costOfRow_165 rfl rfl ?_
    refine hf_getr (b := 178) (c := 12) (j := 35) dX12_costOfRow_166 (hs.2.1 156 _ rfl) (hf_lin hs 156 rfl) (by decide) (by decide) hw1071 rfl (hs.2.2 156 35 _ rfl) ?_
    refine hf_iload_n dX12_costOfRow_169 rfl rfl ?_
    refine hf_iconst (v := 1) dX12_costOfRow_170 (by decide) ?_
    refine hf_iadd dX12_costOfRow_171 ?_
    refine hf_iald dX12_costOfRow_172 (hs.2.1 178 _ rfl) (hf_lin hs 178 rfl) h.1 ?_
    replace h := h.2
    refine hf_aload_n dX12_costOfRow_173 rfl rfl ?_
    refine hf_getr (b := 178) (c := 12) (j := 35) dX12_costOfRow_174 (hs.2.1 156 _ rfl) (hf_lin hs 156 rfl) (by decide) (by decide) hw1071 rfl (hs.2.2 156 35 _ rfl) ?_
    refine hf_iload_n dX12_costOfRow_177 rfl rfl ?_
    refine hf_iald dX12_costOfRow_178 (hs.2.1 178 _ rfl) (hf_lin hs 178 rfl) h.1 ?_
    replace h := h.2
    refine hf_isub dX12_costOfRow_179 ?_
    refine hf_iload_n dX12_costOfRow_180 rfl rfl ?_
    refine hf_iload dX12_costOfRow_181 rfl ?_
    exact hf_callV (c := 12) (as := [.int x2, .int ((I 158 313) - (I 177 x2.toNatClampNeg)), .int ((I 178 (((x2 + 1)).toNatClampNeg)) - (I 178 x2.toNatClampNeg)), .int x3, .int x4]) ok_X12_costOf dX12_costOfRow_183 hw1381 hw1382 hw1651 (hs.2.1 156 _ rfl) (by decide) (hf_lin hs 156 rfl) rfl (Nat.le_of_ble_eq_true rfl) rfl (Nat.le_of_ble_eq_true rfl) (Nat.zero_le _) (Nat.zero_le _) (hf_mono (fun r M q => hf_drop (l' := [some (.ref 156), none, some (.int x2), none, none, none]) (by simp [hf_sub]) q) h)
  · replace h := h.2 hc
    refine hf_aload_n dX12_costOfRow_113 rfl rfl ?_
    refine hf_getr (b := 173) (c := 12) (j := 30) dX12_costOfRow_114 (hs.2.1 156 _ rfl) (hf_lin hs 156 rfl) (by decide) (by decide) hw1066 rfl (hs.2.2 156 30 _ rfl) ?_
    refine hf_iload dX12_costOfRow_117 rfl ?_
    refine hf_iald dX12_costOfRow_119 (hs.2.1 173 _ rfl) (hf_lin hs 173 rfl) h.1 ?_
    replace h := h.2
    refine hf_aload_n dX12_costOfRow_120 rfl rfl ?_
    refine hf_getr (b := 158) (c := 12) (j := 2) dX12_costOfRow_121 (hs.2.1 156 _ rfl) (hf_lin hs 156 rfl) (by decide) (by decide) hw1038 rfl (hs.2.2 156 2 _ rfl) ?_
    refine hf_sipush (v := 275) dX12_costOfRow_124 (by decide) ?_
    refine hf_iload_n dX12_costOfRow_127 rfl rfl ?_
    refine hf_iadd dX12_costOfRow_128 ?_
    refine hf_iald dX12_costOfRow_129 (hs.2.1 158 _ rfl) (hf_lin hs 158 rfl) h.1 ?_
    replace h := h.2
    refine hf_icmp_ne (tgt := 137) dX12_costOfRow_130 (by decide) (fun hc => ?_) (fun hc => ?_)
    · replace h := h.1 hc
      refine hf_iload dX12_costOfRow_137 rfl ?_
      refine hf_istore (l2 := [some (.ref 156), some (.int x1), some (.int x2), some (.int x3), some (.int x4), some (.int x5)]) dX12_costOfRow_139 (by decide) rfl ?_
      refine hf_iinc (v := (x5 + 1)) (l2 := [some (.ref 156), some (.int x1), some (.int x2), some (.int x3), some (.int x4), some (.int (x5 + 1))]) dX12_costOfRow_141 (by decide) rfl rfl rfl ?_
      refine hf_goto (tgt := 100) dX12_costOfRow_144 (by decide) ?_
      exact h
    · replace h := h.2 hc
      refine hf_iconst (v := 1) dX12_costOfRow_133 (by decide) ?_
      refine hf_goto (tgt := 139) dX12_costOfRow_134 (by decide) ?_
      refine hf_istore (l2 := [some (.ref 156), some (.int x1), some (.int x2), some (.int x3), some (.int 1), some (.int x5)]) dX12_costOfRow_139 (by decide) rfl ?_
      refine hf_iinc (v := (x5 + 1)) (l2 := [some (.ref 156), some (.int x1), some (.int x2), some (.int x3), some (.int 1), some (.int (x5 + 1))]) dX12_costOfRow_141 (by decide) rfl rfl rfl ?_
      refine hf_goto (tgt := 100) dX12_costOfRow_144 (by decide) ?_
      exact h

set_option maxHeartbeats 4000000 in
theorem w_X12_costOfRow_186 {X : hf_X} {d k n t : Nat} {T : hf_T} {I : hf_I} {L : hf_L} {P : hf_P} {Q : Option Value → hf_M → Prop} {x2 : Int32} {s0 : Int32} {s1 : Int32} (hs : hf_Lay t T P) (h : hf_G X Y_X12_costOfRow d k n 34 [some (.ref 156), some (.int (s1 + s0)), some (.int (x2 + 1)), none, none, none] [] (t, T, I, L, P) Q) : hf_G X Y_X12_costOfRow d k n 186 [some (.ref 156), none, some (.int x2), none, none, none] [.int s0, .int s1] (t, T, I, L, P) Q := by
  refine hf_iadd dX12_costOfRow_186 ?_
  refine hf_istore_n (l2 := [some (.ref 156), some (.int (s1 + s0)), some (.int x2), none, none, none]) dX12_costOfRow_187 rfl (by decide) rfl ?_
  refine hf_iinc (v := (x2 + 1)) (l2 := [some (.ref 156), some (.int (s1 + s0)), some (.int (x2 + 1)), none, none, none]) dX12_costOfRow_188 (by decide) rfl rfl rfl ?_
  refine hf_goto (tgt := 34) dX12_costOfRow_191 (by decide) ?_
  exact h

set_option maxHeartbeats 4000000 in
theorem w_X12_tellsRow_0 {X : hf_X} {d k n t : Nat} {T : hf_T} {I : hf_I} {L : hf_L} {P : hf_P} {Q : Option Value → hf_M → Prop} {x1 : Int32} {x2 : Int32} (hs : hf_Lay t T P) (h : (9 ≤ x2 → ((x2 - 9) < (I 158 317) → hf_G X Y_X12_opens d 0 0 0 (hf_en [.ref 156, .int x1] 4) [] (t, T, I, L, P) (fun r M => hf_G X Y_X12_tellsRow (d + 1) k n 32 [some (.ref 156), none, some (.int x2), some (.int (x2 - 9))] (r.toList ++ []) M Q)) ∧ (¬ ((x2 - 9) < (I 158 317)) → Q (some (.int (-1))) (t, T, I, L, P))) ∧ (¬ (9 ≤ x2) → ((x2 - 3) < (I 158 317) → hf_G X Y_X12_opens d 0 0 0 (hf_en [.ref 156, .int x1] 4) [] (t, T, I, L, P) (fun r M => hf_G X Y_X12_tellsRow (d + 1) k n 32 [some (.ref 156), none, some (.int x2), some (.int (x2 - 3))] (r.toList ++ []) M Q)) ∧ (¬ ((x2 - 3) < (I 158 317)) → Q (some (.int (-1))) (t, T, I, L, P)))) : hf_G X Y_X12_tellsRow (d + 1) k n 0 (hf_en [.ref 156, .int x1, .int x2] 4) [] (t, T, I, L, P) Q := by
  show hf_G X Y_X12_tellsRow (d + 1) k n 0 [some (.ref 156), some (.int x1), some (.int x2), none] [] (t, T, I, L, P) Q
  refine hf_iload_n dX12_tellsRow_0 rfl rfl ?_
  refine hf_bipush (v := 9) dX12_tellsRow_1 (by decide) ?_
  refine hf_icmp_ge (tgt := 12) dX12_tellsRow_3 (by decide) (fun hc => ?_) (fun hc => ?_)
  · replace h := h.1 hc
    refine hf_iload_n dX12_tellsRow_12 rfl rfl ?_
    refine hf_bipush (v := 9) dX12_tellsRow_13 (by decide) ?_
    refine hf_isub dX12_tellsRow_15 ?_
    refine hf_istore_n (l2 := [some (.ref 156), some (.int x1), some (.int x2), some (.int (x2 - 9))]) dX12_tellsRow_16 rfl (by decide) rfl ?_
    refine hf_iload_n dX12_tellsRow_17 rfl rfl ?_
    refine hf_aload_n dX12_tellsRow_18 rfl rfl ?_
    refine hf_callV (c := 12) (as := []) ok_X12_said dX12_tellsRow_19 hw1423 hw1424 hw1656 (hs.2.1 156 _ rfl) (by decide) (hf_lin hs 156 rfl) rfl (Nat.le_of_ble_eq_true rfl) rfl (Nat.le_of_ble_eq_true rfl) (Nat.zero_le _) (Nat.zero_le _) ?_
    show hf_G X Y_X12_said d _ _ 0 [some (.ref 156)] [] (t, T, I, L, P) _
    refine hf_aload_n dX12_said_0 rfl rfl ?_
    refine hf_getr (b := 158) (c := 12) (j := 2) dX12_said_1 (hs.2.1 156 _ rfl) (hf_lin hs 156 rfl) (by decide) (by decide) hw1038 rfl (hs.2.2 156 2 _ rfl) ?_
    refine hf_sipush (v := 317) dX12_said_4 (by decide) ?_
    refine hf_iald_k (j := 317) (by decide) dX12_said_7 (hs.2.1 158 _ rfl) (hf_lin hs 158 rfl) (hf_vin (by decide)) ?_
    refine hf_ireturn dX12_said_8 rfl rfl ?_
    show hf_G X Y_X12_tellsRow (d + 1) _ _ 22 [some (.ref 156), some (.int x1), some (.int x2), some (.int (x2 - 9))] [.int (I 158 317), .int (x2 - 9)] (t, T, I, L, P) _
    refine hf_icmp_lt (tgt := 27) dX12_tellsRow_22 (by decide) (fun hc => ?_) (fun hc => ?_)
    · replace h := h.1 hc
      refine hf_aload_n dX12_tellsRow_27 rfl rfl ?_
      refine hf_iload_n dX12_tellsRow_28 rfl rfl ?_
      exact hf_callV (c := 12) (as := [.int x1]) ok_X12_opens dX12_tellsRow_29 hw1429 hw1430 hw1658 (hs.2.1 156 _ rfl) (by decide) (hf_lin hs 156 rfl) rfl (Nat.le_of_ble_eq_true rfl) rfl (Nat.le_of_ble_eq_true rfl) (Nat.zero_le _) (Nat.zero_le _) (hf_mono (fun r M q => hf_drop (l' := [some (.ref 156), none, some (.int x2), some (.int (x2 - 9))]) (by simp [hf_sub]) q) h)
    · replace h := h.2 hc
      refine hf_iconst (v := (-1)) dX12_tellsRow_25 (by decide) ?_
      refine hf_ireturn dX12_tellsRow_26 rfl rfl ?_
      exact h
  · replace h := h.2 hc
    refine hf_iload_n dX12_tellsRow_6 rfl rfl ?_
    refine hf_iconst (v := 3) dX12_tellsRow_7 (by decide) ?_
    refine hf_isub dX12_tellsRow_8 ?_
    refine hf_goto (tgt := 16) dX12_tellsRow_9 (by decide) ?_
    refine hf_istore_n (l2 := [some (.ref 156), some (.int x1), some (.int x2), some (.int (x2 - 3))]) dX12_tellsRow_16 rfl (by decide) rfl ?_
    refine hf_iload_n dX12_tellsRow_17 rfl rfl ?_
    refine hf_aload_n dX12_tellsRow_18 rfl rfl ?_
    refine hf_callV (c := 12) (as := []) ok_X12_said dX12_tellsRow_19 hw1423 hw1424 hw1656 (hs.2.1 156 _ rfl) (by decide) (hf_lin hs 156 rfl) rfl (Nat.le_of_ble_eq_true rfl) rfl (Nat.le_of_ble_eq_true rfl) (Nat.zero_le _) (Nat.zero_le _) ?_
    show hf_G X Y_X12_said d _ _ 0 [some (.ref 156)] [] (t, T, I, L, P) _
    refine hf_aload_n dX12_said_0 rfl rfl ?_
    refine hf_getr (b := 158) (c := 12) (j := 2) dX12_said_1 (hs.2.1 156 _ rfl) (hf_lin hs 156 rfl) (by decide) (by decide) hw1038 rfl (hs.2.2 156 2 _ rfl) ?_
    refine hf_sipush (v := 317) dX12_said_4 (by decide) ?_
    refine hf_iald_k (j := 317) (by decide) dX12_said_7 (hs.2.1 158 _ rfl) (hf_lin hs 158 rfl) (hf_vin (by decide)) ?_
    refine hf_ireturn dX12_said_8 rfl rfl ?_
    show hf_G X Y_X12_tellsRow (d + 1) _ _ 22 [some (.ref 156), some (.int x1), some (.int x2), some (.int (x2 - 3))] [.int (I 158 317), .int (x2 - 3)] (t, T, I, L, P) _
    refine hf_icmp_lt (tgt := 27) dX12_tellsRow_22 (by decide) (fun hc => ?_) (fun hc => ?_)
    · replace h := h.1 hc
      refine hf_aload_n dX12_tellsRow_27 rfl rfl ?_
      refine hf_iload_n dX12_tellsRow_28 rfl rfl ?_
      exact hf_callV (c := 12) (as := [.int x1]) ok_X12_opens dX12_tellsRow_29 hw1429 hw1430 hw1658 (hs.2.1 156 _ rfl) (by decide) (hf_lin hs 156 rfl) rfl (Nat.le_of_ble_eq_true rfl) rfl (Nat.le_of_ble_eq_true rfl) (Nat.zero_le _) (Nat.zero_le _) (hf_mono (fun r M q => hf_drop (l' := [some (.ref 156), none, some (.int x2), some (.int (x2 - 3))]) (by simp [hf_sub]) q) h)
    · replace h := h.2 hc
      refine hf_iconst (v := (-1)) dX12_tellsRow_25 (by decide) ?_
      refine hf_ireturn dX12_tellsRow_26 rfl rfl ?_
      exact h

set_option maxHeartbeats 4000000 in
theorem w_X12_tellsRow_32 {X : hf_X} {d k n t : Nat} {T : hf_T} {I : hf_I} {L : hf_L} {P : hf_P} {Q : Option Value → hf_M → Prop} {x2 : Int32} {x3 : Int32} {s0 : Int32} (hs : hf_Lay t T P) (h : (9 ≤ x2 → vp_in x3 6 ∧ (Q (some (.int (I 174 x3.toNatClampNeg))) (t, T, I, L, P))) ∧ (¬ (9 ≤ x2) → vp_in x3 6 ∧ (Q (some (.int (I 173 x3.toNatClampNeg))) (t, T, I, L, P)))) : hf_G X Y_X12_tellsRow d k n 32 [some (.ref 156), none, some (.int x2), some (.int x3)] [.int s0] (t, T, I, L, P) Q := by
  refine hf_pop dX12_tellsRow_32 rfl ?_
  refine hf_iload_n dX12_tellsRow_33 rfl rfl ?_
  refine hf_bipush (v := 9) dX12_tellsRow_34 (by decide) ?_
  refine hf_icmp_ge (tgt := 48) dX12_tellsRow_36 (by decide) (fun hc => ?_) (fun hc => ?_)
  · replace h := h.1 hc
    refine hf_aload_n dX12_tellsRow_48 rfl rfl ?_
    refine hf_getr (b := 174) (c := 12) (j := 31) dX12_tellsRow_49 (hs.2.1 156 _ rfl) (hf_lin hs 156 rfl) (by decide) (by decide) hw1067 rfl (hs.2.2 156 31 _ rfl) ?_
    refine hf_iload_n dX12_tellsRow_52 rfl rfl ?_
    refine hf_iald dX12_tellsRow_53 (hs.2.1 174 _ rfl) (hf_lin hs 174 rfl) h.1 ?_
    replace h := h.2
    refine hf_ireturn dX12_tellsRow_54 rfl rfl ?_
    exact h
  · replace h := h.2 hc
    refine hf_aload_n dX12_tellsRow_39 rfl rfl ?_
    refine hf_getr (b := 173) (c := 12) (j := 30) dX12_tellsRow_40 (hs.2.1 156 _ rfl) (hf_lin hs 156 rfl) (by decide) (by decide) hw1066 rfl (hs.2.2 156 30 _ rfl) ?_
    refine hf_iload_n dX12_tellsRow_43 rfl rfl ?_
    refine hf_iald dX12_tellsRow_44 (hs.2.1 173 _ rfl) (hf_lin hs 173 rfl) h.1 ?_
    replace h := h.2
    refine hf_goto (tgt := 54) dX12_tellsRow_45 (by decide) ?_
    refine hf_ireturn dX12_tellsRow_54 rfl rfl ?_
    exact h

set_option maxHeartbeats 4000000 in
theorem w_X12_fit_0 {X : hf_X} {d k n t : Nat} {T : hf_T} {I : hf_I} {L : hf_L} {P : hf_P} {Q : Option Value → hf_M → Prop} {x1 : Int32} (hs : hf_Lay t T P) (h : (x1 < 0 → Q (some (.int (-1))) (t, T, I, L, P)) ∧ (¬ (x1 < 0) → (14 < x1 → Q (some (.int (-1))) (t, T, I, L, P)) ∧ (¬ (14 < x1) → (¬ (I 158 317) = 0 → hf_G X Y_X12_lists d 0 0 0 (hf_en [.ref 156, .int (I 158 315)] 4) [] (t, T, I, L, P) (fun r M => hf_G X Y_X12_fit (d + 1) k n 31 [some (.ref 156), some (.int x1), none, none, none, none, none] (r.toList ++ []) M Q)) ∧ ((I 158 317) = 0 → Q (some (.int (-1))) (t, T, I, L, P))))) : hf_G X Y_X12_fit (d + 1) k n 0 (hf_en [.ref 156, .int x1] 7) [] (t, T, I, L, P) Q := by
  show hf_G X Y_X12_fit (d + 1) k n 0 [some (.ref 156), some (.int x1), none, none, none, none, none] [] (t, T, I, L, P) Q
  refine hf_iload_n dX12_fit_0 rfl rfl ?_
  refine hf_iconst (v := 0) dX12_fit_1 (by decide) ?_
  refine hf_bipush (v := 14) dX12_fit_2 (by decide) ?_
  refine hf_callS (as := [.int x1, .int 0, .int 14]) ok_X12_lies dX12_fit_4 hw1143 hw1144 rfl (Nat.le_of_ble_eq_true rfl) rfl (Nat.le_of_ble_eq_true rfl) (Nat.zero_le _) (Nat.zero_le _) ?_
  show hf_G X Y_X12_lies d _ _ 0 [some (.int x1), some (.int 0), some (.int 14)] [] (t, T, I, L, P) _
  refine hf_iload_n dX12_lies_0 rfl rfl ?_
  refine hf_iload_n dX12_lies_1 rfl rfl ?_
  refine hf_icmp_lt (tgt := 14) dX12_lies_2 (by decide) (fun hc => ?_) (fun hc => ?_)
  · replace h := h.1 hc
    refine hf_iconst (v := 0) dX12_lies_14 (by decide) ?_
    refine hf_ireturn dX12_lies_15 rfl (by decide) ?_
    show hf_G X Y_X12_fit (d + 1) _ _ 7 [some (.ref 156), some (.int x1), none, none, none, none, none] [.int 0] (t, T, I, L, P) _
    refine hf_if_eq (tgt := 17) dX12_fit_7 (by decide) (fun _ => ?_) (fun hc => absurd (show (0 : Int32) = (0 : Int32) by decide) hc)
    refine hf_iconst (v := (-1)) dX12_fit_17 (by decide) ?_
    refine hf_ireturn dX12_fit_18 rfl rfl ?_
    exact h
  · replace h := h.2 hc
    refine hf_iload_n dX12_lies_5 rfl rfl ?_
    refine hf_iload_n dX12_lies_6 rfl rfl ?_
    refine hf_icmp_gt (tgt := 14) dX12_lies_7 (by decide) (fun hc => ?_) (fun hc => ?_)
    · replace h := h.1 hc
      refine hf_iconst (v := 0) dX12_lies_14 (by decide) ?_
      refine hf_ireturn dX12_lies_15 rfl (by decide) ?_
      show hf_G X Y_X12_fit (d + 1) _ _ 7 [some (.ref 156), some (.int x1), none, none, none, none, none] [.int 0] (t, T, I, L, P) _
      refine hf_if_eq (tgt := 17) dX12_fit_7 (by decide) (fun _ => ?_) (fun hc => absurd (show (0 : Int32) = (0 : Int32) by decide) hc)
      refine hf_iconst (v := (-1)) dX12_fit_17 (by decide) ?_
      refine hf_ireturn dX12_fit_18 rfl rfl ?_
      exact h
    · replace h := h.2 hc
      refine hf_iconst (v := 1) dX12_lies_10 (by decide) ?_
      refine hf_goto (tgt := 15) dX12_lies_11 (by decide) ?_
      refine hf_ireturn dX12_lies_15 rfl (by decide) ?_
      show hf_G X Y_X12_fit (d + 1) _ _ 7 [some (.ref 156), some (.int x1), none, none, none, none, none] [.int 1] (t, T, I, L, P) _
      refine hf_if_eq (tgt := 17) dX12_fit_7 (by decide) (fun hc => absurd (show (1 : Int32) = (0 : Int32) from hc) (by decide)) (fun _ => ?_)
      refine hf_aload_n dX12_fit_10 rfl rfl ?_
      refine hf_callV (c := 12) (as := []) ok_X12_said dX12_fit_11 hw1423 hw1424 hw1656 (hs.2.1 156 _ rfl) (by decide) (hf_lin hs 156 rfl) rfl (Nat.le_of_ble_eq_true rfl) rfl (Nat.le_of_ble_eq_true rfl) (Nat.zero_le _) (Nat.zero_le _) ?_
      show hf_G X Y_X12_said d _ _ 0 [some (.ref 156)] [] (t, T, I, L, P) _
      refine hf_aload_n dX12_said_0 rfl rfl ?_
      refine hf_getr (b := 158) (c := 12) (j := 2) dX12_said_1 (hs.2.1 156 _ rfl) (hf_lin hs 156 rfl) (by decide) (by decide) hw1038 rfl (hs.2.2 156 2 _ rfl) ?_
      refine hf_sipush (v := 317) dX12_said_4 (by decide) ?_
      refine hf_iald_k (j := 317) (by decide) dX12_said_7 (hs.2.1 158 _ rfl) (hf_lin hs 158 rfl) (hf_vin (by decide)) ?_
      refine hf_ireturn dX12_said_8 rfl rfl ?_
      show hf_G X Y_X12_fit (d + 1) _ _ 14 [some (.ref 156), some (.int x1), none, none, none, none, none] [.int (I 158 317)] (t, T, I, L, P) _
      refine hf_if_ne (tgt := 19) dX12_fit_14 (by decide) (fun hc => ?_) (fun hc => ?_)
      · replace h := h.1 hc
        refine hf_aload_n dX12_fit_19 rfl rfl ?_
        refine hf_aload_n dX12_fit_20 rfl rfl ?_
        refine hf_getr (b := 158) (c := 12) (j := 2) dX12_fit_21 (hs.2.1 156 _ rfl) (hf_lin hs 156 rfl) (by decide) (by decide) hw1038 rfl (hs.2.2 156 2 _ rfl) ?_
        refine hf_sipush (v := 315) dX12_fit_24 (by decide) ?_
        refine hf_iald_k (j := 315) (by decide) dX12_fit_27 (hs.2.1 158 _ rfl) (hf_lin hs 158 rfl) (hf_vin (by decide)) ?_
        exact hf_callV (c := 12) (as := [.int (I 158 315)]) ok_X12_lists dX12_fit_28 hw1426 hw1427 hw1657 (hs.2.1 156 _ rfl) (by decide) (hf_lin hs 156 rfl) rfl (Nat.le_of_ble_eq_true rfl) rfl (Nat.le_of_ble_eq_true rfl) (Nat.zero_le _) (Nat.zero_le _) h
      · replace h := h.2 hc
        refine hf_iconst (v := (-1)) dX12_fit_17 (by decide) ?_
        refine hf_ireturn dX12_fit_18 rfl rfl ?_
        exact h

set_option maxHeartbeats 4000000 in
theorem w_X12_fit_31 {X : hf_X} {d k n t : Nat} {T : hf_T} {I : hf_I} {L : hf_L} {P : hf_P} {Q : Option Value → hf_M → Prop} {x1 : Int32} (hs : hf_Lay t T P) (h : hf_G X Y_X12_fit d k n 42 [some (.ref 156), some (.int x1), some (.int (-1)), some (.int 1000000), some (.int 0), some (.int 0), none] [] (t, T, I, L, P) Q) : hf_G X Y_X12_fit d k n 31 [some (.ref 156), some (.int x1), none, none, none, none, none] [] (t, T, I, L, P) Q := by
  refine hf_iconst (v := (-1)) dX12_fit_31 (by decide) ?_
  refine hf_istore_n (l2 := [some (.ref 156), some (.int x1), some (.int (-1)), none, none, none, none]) dX12_fit_32 rfl (by decide) rfl ?_
  refine hf_ldc (v := 1000000) dX12_fit_33 hw1298 ?_
  refine hf_istore_n (l2 := [some (.ref 156), some (.int x1), some (.int (-1)), some (.int 1000000), none, none, none]) dX12_fit_35 rfl (by decide) rfl ?_
  refine hf_iconst (v := 0) dX12_fit_36 (by decide) ?_
  refine hf_istore (l2 := [some (.ref 156), some (.int x1), some (.int (-1)), some (.int 1000000), some (.int 0), none, none]) dX12_fit_37 (by decide) rfl ?_
  refine hf_iconst (v := 0) dX12_fit_39 (by decide) ?_
  refine hf_istore (l2 := [some (.ref 156), some (.int x1), some (.int (-1)), some (.int 1000000), some (.int 0), some (.int 0), none]) dX12_fit_40 (by decide) rfl ?_
  exact h

set_option maxHeartbeats 4000000 in
theorem w_X12_fit_42 {X : hf_X} {d k n t : Nat} {T : hf_T} {I : hf_I} {L : hf_L} {P : hf_P} {Q : Option Value → hf_M → Prop} {x1 : Int32} {x2 : Int32} {x3 : Int32} {x4 : Int32} {x5 : Int32} (hs : hf_Lay t T P) (h : ((I 156 36) ≤ x5 → (x1 = 1 → (¬ x1 = 1 → Q (some (.int (-1))) (t, T, I, L, P)) ∧ (x1 = 1 → Q (some (.int x4)) (t, T, I, L, P))) ∧ (¬ (x1 = 1) → (¬ x2 = (-1) → (¬ x1 = 0 → (x1 ≤ 2 → hf_G X Y_X12_opens d 0 0 0 (hf_en [.ref 156, .int x2] 4) [] (t, T, I, L, P) (fun r M => hf_G X Y_X12_fit (d + 1) k n 153 [some (.ref 156), none, none, none, none, none, none] (r.toList ++ []) M Q)) ∧ (¬ (x1 ≤ 2) → hf_G X Y_X12_tellsRow d 0 0 0 (hf_en [.ref 156, .int x2, .int x1] 4) [] (t, T, I, L, P) (fun r M => hf_G X Y_X12_fit (d + 1) k n 147 [none, none, none, none, none, none, none] (r.toList ++ []) M Q))) ∧ (x1 = 0 → Q (some (.int x3)) (t, T, I, L, P))) ∧ (x2 = (-1) → (¬ x1 = 1 → Q (some (.int (-1))) (t, T, I, L, P)) ∧ (x1 = 1 → Q (some (.int x4)) (t, T, I, L, P))))) ∧ (¬ ((I 156 36) ≤ x5) → hf_G X Y_X12_opens d 0 0 0 (hf_en [.ref 156, .int x5] 4) [] (t, T, I, L, P) (fun r M => hf_G X Y_X12_fit (d + 1) k n 57 [some (.ref 156), some (.int x1), some (.int x2), some (.int x3), some (.int x4), some (.int x5), none] (r.toList ++ []) M Q))) : hf_G X Y_X12_fit (d + 1) k n 42 [some (.ref 156), some (.int x1), some (.int x2), some (.int x3), some (.int x4), some (.int x5), none] [] (t, T, I, L, P) Q := by
  refine hf_iload dX12_fit_42 rfl ?_
  refine hf_aload_n dX12_fit_44 rfl rfl ?_
  refine hf_geti (c := 12) (j := 36) dX12_fit_45 (hs.2.1 156 _ rfl) (hf_lin hs 156 rfl) (by decide) (by decide) hw1072 (Or.inl rfl) ?_
  refine hf_icmp_ge (tgt := 108) dX12_fit_48 (by decide) (fun hc => ?_) (fun hc => ?_)
  · replace h := h.1 hc
    refine hf_iload_n dX12_fit_108 rfl rfl ?_
    refine hf_iconst (v := 1) dX12_fit_109 (by decide) ?_
    refine hf_icmp_eq (tgt := 118) dX12_fit_110 (by decide) (fun hc => ?_) (fun hc => ?_)
    · replace h := h.1 hc
      refine hf_iload_n dX12_fit_118 rfl rfl ?_
      refine hf_iconst (v := 1) dX12_fit_119 (by decide) ?_
      refine hf_icmp_ne (tgt := 128) dX12_fit_120 (by decide) (fun hc => ?_) (fun hc => ?_)
      · replace h := h.1 hc
        refine hf_iconst (v := (-1)) dX12_fit_128 (by decide) ?_
        refine hf_ireturn dX12_fit_129 rfl rfl ?_
        exact h
      · replace h := h.2 hc
        refine hf_iload dX12_fit_123 rfl ?_
        refine hf_goto (tgt := 129) dX12_fit_125 (by decide) ?_
        refine hf_ireturn dX12_fit_129 rfl rfl ?_
        exact h
    · replace h := h.2 hc
      refine hf_iload_n dX12_fit_113 rfl rfl ?_
      refine hf_iconst (v := (-1)) dX12_fit_114 (by decide) ?_
      refine hf_icmp_ne (tgt := 130) dX12_fit_115 (by decide) (fun hc => ?_) (fun hc => ?_)
      · replace h := h.1 hc
        refine hf_iload_n dX12_fit_130 rfl rfl ?_
        refine hf_if_ne (tgt := 136) dX12_fit_131 (by decide) (fun hc => ?_) (fun hc => ?_)
        · replace h := h.1 hc
          refine hf_iload_n dX12_fit_136 rfl rfl ?_
          refine hf_iconst (v := 2) dX12_fit_137 (by decide) ?_
          refine hf_icmp_le (tgt := 148) dX12_fit_138 (by decide) (fun hc => ?_) (fun hc => ?_)
          · replace h := h.1 hc
            refine hf_aload_n dX12_fit_148 rfl rfl ?_
            refine hf_iload_n dX12_fit_149 rfl rfl ?_
            exact hf_callV (c := 12) (as := [.int x2]) ok_X12_opens dX12_fit_150 hw1429 hw1430 hw1658 (hs.2.1 156 _ rfl) (by decide) (hf_lin hs 156 rfl) rfl (Nat.le_of_ble_eq_true rfl) rfl (Nat.le_of_ble_eq_true rfl) (Nat.zero_le _) (Nat.zero_le _) (hf_mono (fun r M q => hf_drop (l' := [some (.ref 156), none, none, none, none, none, none]) (by simp [hf_sub]) q) h)
          · replace h := h.2 hc
            refine hf_aload_n dX12_fit_141 rfl rfl ?_
            refine hf_iload_n dX12_fit_142 rfl rfl ?_
            refine hf_iload_n dX12_fit_143 rfl rfl ?_
            exact hf_callV (c := 12) (as := [.int x2, .int x1]) ok_X12_tellsRow dX12_fit_144 hw1438 hw1439 hw1661 (hs.2.1 156 _ rfl) (by decide) (hf_lin hs 156 rfl) rfl (Nat.le_of_ble_eq_true rfl) rfl (Nat.le_of_ble_eq_true rfl) (Nat.zero_le _) (Nat.zero_le _) (hf_mono (fun r M q => hf_drop (l' := [none, none, none, none, none, none, none]) (by simp [hf_sub]) q) h)
        · replace h := h.2 hc
          refine hf_iload_n dX12_fit_134 rfl rfl ?_
          refine hf_ireturn dX12_fit_135 rfl rfl ?_
          exact h
      · replace h := h.2 hc
        refine hf_iload_n dX12_fit_118 rfl rfl ?_
        refine hf_iconst (v := 1) dX12_fit_119 (by decide) ?_
        refine hf_icmp_ne (tgt := 128) dX12_fit_120 (by decide) (fun hc => ?_) (fun hc => ?_)
        · replace h := h.1 hc
          refine hf_iconst (v := (-1)) dX12_fit_128 (by decide) ?_
          refine hf_ireturn dX12_fit_129 rfl rfl ?_
          exact h
        · replace h := h.2 hc
          refine hf_iload dX12_fit_123 rfl ?_
          refine hf_goto (tgt := 129) dX12_fit_125 (by decide) ?_
          refine hf_ireturn dX12_fit_129 rfl rfl ?_
          exact h
  · replace h := h.2 hc
    refine hf_aload_n dX12_fit_51 rfl rfl ?_
    refine hf_iload dX12_fit_52 rfl ?_
    exact hf_callV (c := 12) (as := [.int x5]) ok_X12_opens dX12_fit_54 hw1429 hw1430 hw1658 (hs.2.1 156 _ rfl) (by decide) (hf_lin hs 156 rfl) rfl (Nat.le_of_ble_eq_true rfl) rfl (Nat.le_of_ble_eq_true rfl) (Nat.zero_le _) (Nat.zero_le _) h

set_option maxHeartbeats 4000000 in
theorem w_X12_fit_153 {X : hf_X} {d k n t : Nat} {T : hf_T} {I : hf_I} {L : hf_L} {P : hf_P} {Q : Option Value → hf_M → Prop} {s0 : Int32} (hs : hf_Lay t T P) (h : Q (some (.int (I 156 38))) (t, T, I, L, P)) : hf_G X Y_X12_fit d k n 153 [some (.ref 156), none, none, none, none, none, none] [.int s0] (t, T, I, L, P) Q := by
  refine hf_pop dX12_fit_153 rfl ?_
  refine hf_aload_n dX12_fit_154 rfl rfl ?_
  refine hf_geti (c := 12) (j := 38) dX12_fit_155 (hs.2.1 156 _ rfl) (hf_lin hs 156 rfl) (by decide) (by decide) hw1074 (Or.inl rfl) ?_
  refine hf_ireturn dX12_fit_158 rfl rfl ?_
  exact h

set_option maxHeartbeats 4000000 in
theorem w_X12_fit_147 {X : hf_X} {d k n t : Nat} {T : hf_T} {I : hf_I} {L : hf_L} {P : hf_P} {Q : Option Value → hf_M → Prop} {s0 : Int32} (hs : hf_Lay t T P) (h : Q (some (.int s0)) (t, T, I, L, P)) : hf_G X Y_X12_fit d k n 147 [none, none, none, none, none, none, none] [.int s0] (t, T, I, L, P) Q := by
  refine hf_ireturn dX12_fit_147 rfl rfl ?_
  exact h

set_option maxHeartbeats 4000000 in
theorem w_X12_fit_57 {X : hf_X} {d k n t : Nat} {T : hf_T} {I : hf_I} {L : hf_L} {P : hf_P} {Q : Option Value → hf_M → Prop} {x1 : Int32} {x2 : Int32} {x3 : Int32} {x4 : Int32} {x5 : Int32} {s0 : Int32} (hs : hf_Lay t T P) (h : (s0 = 0 → hf_G X Y_X12_fit (d + 1) k n 42 [some (.ref 156), some (.int x1), some (.int x2), some (.int x3), some (.int x4), some (.int (x5 + 1)), none] [] (t, T, I, L, P) Q) ∧ (¬ (s0 = 0) → hf_G X Y_X12_broadest d 0 0 0 (hf_en [.ref 156] 3) [] (t, T, I, L, P) (fun r M => hf_G X Y_X12_fit (d + 1) k n 64 [some (.ref 156), some (.int x1), some (.int x2), some (.int x3), some (.int x4), some (.int x5), none] (r.toList ++ []) M Q))) : hf_G X Y_X12_fit (d + 1) k n 57 [some (.ref 156), some (.int x1), some (.int x2), some (.int x3), some (.int x4), some (.int x5), none] [.int s0] (t, T, I, L, P) Q := by
  refine hf_if_eq (tgt := 102) dX12_fit_57 (by decide) (fun hc => ?_) (fun hc => ?_)
  · replace h := h.1 hc
    refine hf_iinc (v := (x5 + 1)) (l2 := [some (.ref 156), some (.int x1), some (.int x2), some (.int x3), some (.int x4), some (.int (x5 + 1)), none]) dX12_fit_102 (by decide) rfl rfl rfl ?_
    refine hf_goto (tgt := 42) dX12_fit_105 (by decide) ?_
    exact h
  · replace h := h.2 hc
    refine hf_aload_n dX12_fit_60 rfl rfl ?_
    exact hf_callV (c := 12) (as := []) ok_X12_broadest dX12_fit_61 hw1432 hw1433 hw1659 (hs.2.1 156 _ rfl) (by decide) (hf_lin hs 156 rfl) rfl (Nat.le_of_ble_eq_true rfl) rfl (Nat.le_of_ble_eq_true rfl) (Nat.zero_le _) (Nat.zero_le _) h

set_option maxHeartbeats 4000000 in
theorem w_X12_fit_64 {X : hf_X} {d k n t : Nat} {T : hf_T} {I : hf_I} {L : hf_L} {P : hf_P} {Q : Option Value → hf_M → Prop} {x1 : Int32} {x2 : Int32} {x3 : Int32} {x4 : Int32} {x5 : Int32} {s0 : Int32} (hs : hf_Lay t T P) (h : (s0 ≤ (I 158 313) → hf_G X Y_X12_costOfRow d 0 0 0 (hf_en [.ref 156] 6) [] (t, T, I, L, P) (fun r M => hf_G X Y_X12_fit (d + 1) k n 85 [some (.ref 156), some (.int x1), some (.int x2), some (.int x3), some (.int (x4 + 1)), some (.int x5), none] (r.toList ++ []) M Q)) ∧ (¬ (s0 ≤ (I 158 313)) → hf_G X Y_X12_fit (d + 1) k n 42 [some (.ref 156), some (.int x1), some (.int x2), some (.int x3), some (.int x4), some (.int (x5 + 1)), none] [] (t, T, I, L, P) Q)) : hf_G X Y_X12_fit (d + 1) k n 64 [some (.ref 156), some (.int x1), some (.int x2), some (.int x3), some (.int x4), some (.int x5), none] [.int s0] (t, T, I, L, P) Q := by
  refine hf_aload_n dX12_fit_64 rfl rfl ?_
  refine hf_getr (b := 158) (c := 12) (j := 2) dX12_fit_65 (hs.2.1 156 _ rfl) (hf_lin hs 156 rfl) (by decide) (by decide) hw1038 rfl (hs.2.2 156 2 _ rfl) ?_
  refine hf_sipush (v := 313) dX12_fit_68 (by decide) ?_
  refine hf_iald_k (j := 313) (by decide) dX12_fit_71 (hs.2.1 158 _ rfl) (hf_lin hs 158 rfl) (hf_vin (by decide)) ?_
  refine hf_icmp_le (tgt := 78) dX12_fit_72 (by decide) (fun hc => ?_) (fun hc => ?_)
  · replace h := h.1 hc
    refine hf_iinc (v := (x4 + 1)) (l2 := [some (.ref 156), some (.int x1), some (.int x2), some (.int x3), some (.int (x4 + 1)), some (.int x5), none]) dX12_fit_78 (by decide) rfl rfl rfl ?_
    refine hf_aload_n dX12_fit_81 rfl rfl ?_
    exact hf_callV (c := 12) (as := []) ok_X12_costOfRow dX12_fit_82 hw1435 hw1436 hw1660 (hs.2.1 156 _ rfl) (by decide) (hf_lin hs 156 rfl) rfl (Nat.le_of_ble_eq_true rfl) rfl (Nat.le_of_ble_eq_true rfl) (Nat.zero_le _) (Nat.zero_le _) h
  · replace h := h.2 hc
    refine hf_goto (tgt := 102) dX12_fit_75 (by decide) ?_
    refine hf_iinc (v := (x5 + 1)) (l2 := [some (.ref 156), some (.int x1), some (.int x2), some (.int x3), some (.int x4), some (.int (x5 + 1)), none]) dX12_fit_102 (by decide) rfl rfl rfl ?_
    refine hf_goto (tgt := 42) dX12_fit_105 (by decide) ?_
    exact h

set_option maxHeartbeats 4000000 in
theorem w_X12_fit_85 {X : hf_X} {d k n t : Nat} {T : hf_T} {I : hf_I} {L : hf_L} {P : hf_P} {Q : Option Value → hf_M → Prop} {x1 : Int32} {x2 : Int32} {x3 : Int32} {x4 : Int32} {x5 : Int32} {s0 : Int32} (hs : hf_Lay t T P) (h : (s0 < x3 → hf_G X Y_X12_fit d k n 42 [some (.ref 156), some (.int x1), some (.int x5), some (.int s0), some (.int x4), some (.int (x5 + 1)), none] [] (t, T, I, L, P) Q) ∧ (¬ (s0 < x3) → hf_G X Y_X12_fit d k n 42 [some (.ref 156), some (.int x1), some (.int x2), some (.int x3), some (.int x4), some (.int (x5 + 1)), none] [] (t, T, I, L, P) Q)) : hf_G X Y_X12_fit d k n 85 [some (.ref 156), some (.int x1), some (.int x2), some (.int x3), some (.int x4), some (.int x5), none] [.int s0] (t, T, I, L, P) Q := by
  refine hf_istore (l2 := [some (.ref 156), some (.int x1), some (.int x2), some (.int x3), some (.int x4), some (.int x5), some (.int s0)]) dX12_fit_85 (by decide) rfl ?_
  refine hf_iload dX12_fit_87 rfl ?_
  refine hf_iload_n dX12_fit_89 rfl rfl ?_
  refine hf_icmp_lt (tgt := 96) dX12_fit_90 (by decide) (fun hc => ?_) (fun hc => ?_)
  · replace h := h.1 hc
    refine hf_iload dX12_fit_96 rfl ?_
    refine hf_istore_n (l2 := [some (.ref 156), some (.int x1), some (.int x2), some (.int s0), some (.int x4), some (.int x5), some (.int s0)]) dX12_fit_98 rfl (by decide) rfl ?_
    refine hf_iload dX12_fit_99 rfl ?_
    refine hf_istore_n (l2 := [some (.ref 156), some (.int x1), some (.int x5), some (.int s0), some (.int x4), some (.int x5), some (.int s0)]) dX12_fit_101 rfl (by decide) rfl ?_
    refine hf_iinc (v := (x5 + 1)) (l2 := [some (.ref 156), some (.int x1), some (.int x5), some (.int s0), some (.int x4), some (.int (x5 + 1)), some (.int s0)]) dX12_fit_102 (by decide) rfl rfl rfl ?_
    refine hf_goto (tgt := 42) dX12_fit_105 (by decide) ?_
    refine hf_drop (l' := [some (.ref 156), some (.int x1), some (.int x5), some (.int s0), some (.int x4), some (.int (x5 + 1)), none]) (by simp [hf_sub]) ?_
    exact h
  · replace h := h.2 hc
    refine hf_goto (tgt := 102) dX12_fit_93 (by decide) ?_
    refine hf_iinc (v := (x5 + 1)) (l2 := [some (.ref 156), some (.int x1), some (.int x2), some (.int x3), some (.int x4), some (.int (x5 + 1)), some (.int s0)]) dX12_fit_102 (by decide) rfl rfl rfl ?_
    refine hf_goto (tgt := 42) dX12_fit_105 (by decide) ?_
    refine hf_drop (l' := [some (.ref 156), some (.int x1), some (.int x2), some (.int x3), some (.int x4), some (.int (x5 + 1)), none]) (by simp [hf_sub]) ?_
    exact h

set_option maxHeartbeats 4000000 in
theorem w_X12_leastBroad_0 {X : hf_X} {d k n t : Nat} {T : hf_T} {I : hf_I} {L : hf_L} {P : hf_P} {Q : Option Value → hf_M → Prop} {x1 : Int32} (hs : hf_Lay t T P) (h : hf_G X Y_X12_lists d 0 0 0 (hf_en [.ref 156, .int x1] 4) [] (t, T, I, L, P) (fun r M => hf_G X Y_X12_leastBroad (d + 1) k n 5 [some (.ref 156), none, none, none] (r.toList ++ []) M Q)) : hf_G X Y_X12_leastBroad (d + 1) k n 0 (hf_en [.ref 156, .int x1] 4) [] (t, T, I, L, P) Q := by
  show hf_G X Y_X12_leastBroad (d + 1) k n 0 [some (.ref 156), some (.int x1), none, none] [] (t, T, I, L, P) Q
  refine hf_aload_n dX12_leastBroad_0 rfl rfl ?_
  refine hf_iload_n dX12_leastBroad_1 rfl rfl ?_
  exact hf_callV (c := 12) (as := [.int x1]) ok_X12_lists dX12_leastBroad_2 hw1426 hw1427 hw1657 (hs.2.1 156 _ rfl) (by decide) (hf_lin hs 156 rfl) rfl (Nat.le_of_ble_eq_true rfl) rfl (Nat.le_of_ble_eq_true rfl) (Nat.zero_le _) (Nat.zero_le _) (hf_mono (fun r M q => hf_drop (l' := [some (.ref 156), none, none, none]) (by simp [hf_sub]) q) h)

set_option maxHeartbeats 4000000 in
theorem w_X12_leastBroad_5 {X : hf_X} {d k n t : Nat} {T : hf_T} {I : hf_I} {L : hf_L} {P : hf_P} {Q : Option Value → hf_M → Prop}  (hs : hf_Lay t T P) (h : hf_G X Y_X12_leastBroad d k n 10 [some (.ref 156), none, some (.int 1000000), some (.int 0)] [] (t, T, I, L, P) Q) : hf_G X Y_X12_leastBroad d k n 5 [some (.ref 156), none, none, none] [] (t, T, I, L, P) Q := by
  refine hf_ldc (v := 1000000) dX12_leastBroad_5 hw1298 ?_
  refine hf_istore_n (l2 := [some (.ref 156), none, some (.int 1000000), none]) dX12_leastBroad_7 rfl (by decide) rfl ?_
  refine hf_iconst (v := 0) dX12_leastBroad_8 (by decide) ?_
  refine hf_istore_n (l2 := [some (.ref 156), none, some (.int 1000000), some (.int 0)]) dX12_leastBroad_9 rfl (by decide) rfl ?_
  exact h

set_option maxHeartbeats 4000000 in
theorem w_X12_leastBroad_10 {X : hf_X} {d k n t : Nat} {T : hf_T} {I : hf_I} {L : hf_L} {P : hf_P} {Q : Option Value → hf_M → Prop} {x2 : Int32} {x3 : Int32} (hs : hf_Lay t T P) (h : ((I 156 36) ≤ x3 → Q (some (.int x2)) (t, T, I, L, P)) ∧ (¬ ((I 156 36) ≤ x3) → hf_G X Y_X12_opens d 0 0 0 (hf_en [.ref 156, .int x3] 4) [] (t, T, I, L, P) (fun r M => hf_G X Y_X12_leastBroad (d + 1) k n 23 [some (.ref 156), none, some (.int x2), some (.int x3)] (r.toList ++ []) M Q))) : hf_G X Y_X12_leastBroad (d + 1) k n 10 [some (.ref 156), none, some (.int x2), some (.int x3)] [] (t, T, I, L, P) Q := by
  refine hf_iload_n dX12_leastBroad_10 rfl rfl ?_
  refine hf_aload_n dX12_leastBroad_11 rfl rfl ?_
  refine hf_geti (c := 12) (j := 36) dX12_leastBroad_12 (hs.2.1 156 _ rfl) (hf_lin hs 156 rfl) (by decide) (by decide) hw1072 (Or.inl rfl) ?_
  refine hf_icmp_ge (tgt := 45) dX12_leastBroad_15 (by decide) (fun hc => ?_) (fun hc => ?_)
  · replace h := h.1 hc
    refine hf_iload_n dX12_leastBroad_45 rfl rfl ?_
    refine hf_ireturn dX12_leastBroad_46 rfl rfl ?_
    exact h
  · replace h := h.2 hc
    refine hf_aload_n dX12_leastBroad_18 rfl rfl ?_
    refine hf_iload_n dX12_leastBroad_19 rfl rfl ?_
    exact hf_callV (c := 12) (as := [.int x3]) ok_X12_opens dX12_leastBroad_20 hw1429 hw1430 hw1658 (hs.2.1 156 _ rfl) (by decide) (hf_lin hs 156 rfl) rfl (Nat.le_of_ble_eq_true rfl) rfl (Nat.le_of_ble_eq_true rfl) (Nat.zero_le _) (Nat.zero_le _) h

set_option maxHeartbeats 4000000 in
theorem w_X12_leastBroad_23 {X : hf_X} {d k n t : Nat} {T : hf_T} {I : hf_I} {L : hf_L} {P : hf_P} {Q : Option Value → hf_M → Prop} {x2 : Int32} {x3 : Int32} {s0 : Int32} (hs : hf_Lay t T P) (h : (s0 = 0 → hf_G X Y_X12_leastBroad (d + 1) k n 10 [some (.ref 156), none, some (.int x2), some (.int (x3 + 1))] [] (t, T, I, L, P) Q) ∧ (¬ (s0 = 0) → hf_G X Y_X12_broadest d 0 0 0 (hf_en [.ref 156] 3) [] (t, T, I, L, P) (fun r M => hf_G X Y_X12_leastBroad (d + 1) k n 30 [some (.ref 156), none, some (.int x2), some (.int x3)] (r.toList ++ []) M Q))) : hf_G X Y_X12_leastBroad (d + 1) k n 23 [some (.ref 156), none, some (.int x2), some (.int x3)] [.int s0] (t, T, I, L, P) Q := by
  refine hf_if_eq (tgt := 39) dX12_leastBroad_23 (by decide) (fun hc => ?_) (fun hc => ?_)
  · replace h := h.1 hc
    refine hf_iinc (v := (x3 + 1)) (l2 := [some (.ref 156), none, some (.int x2), some (.int (x3 + 1))]) dX12_leastBroad_39 (by decide) rfl rfl rfl ?_
    refine hf_goto (tgt := 10) dX12_leastBroad_42 (by decide) ?_
    exact h
  · replace h := h.2 hc
    refine hf_aload_n dX12_leastBroad_26 rfl rfl ?_
    exact hf_callV (c := 12) (as := []) ok_X12_broadest dX12_leastBroad_27 hw1432 hw1433 hw1659 (hs.2.1 156 _ rfl) (by decide) (hf_lin hs 156 rfl) rfl (Nat.le_of_ble_eq_true rfl) rfl (Nat.le_of_ble_eq_true rfl) (Nat.zero_le _) (Nat.zero_le _) h

set_option maxHeartbeats 4000000 in
theorem w_X12_leastBroad_30 {X : hf_X} {d k n t : Nat} {T : hf_T} {I : hf_I} {L : hf_L} {P : hf_P} {Q : Option Value → hf_M → Prop} {x2 : Int32} {x3 : Int32} {s0 : Int32} (hs : hf_Lay t T P) (h : (x2 ≤ s0 → hf_G X Y_X12_leastBroad (d + 1) k n 10 [some (.ref 156), none, some (.int x2), some (.int (x3 + 1))] [] (t, T, I, L, P) Q) ∧ (¬ (x2 ≤ s0) → hf_G X Y_X12_broadest d 0 0 0 (hf_en [.ref 156] 3) [] (t, T, I, L, P) (fun r M => hf_G X Y_X12_leastBroad (d + 1) k n 38 [some (.ref 156), none, none, some (.int x3)] (r.toList ++ []) M Q))) : hf_G X Y_X12_leastBroad (d + 1) k n 30 [some (.ref 156), none, some (.int x2), some (.int x3)] [.int s0] (t, T, I, L, P) Q := by
  refine hf_iload_n dX12_leastBroad_30 rfl rfl ?_
  refine hf_icmp_ge (tgt := 39) dX12_leastBroad_31 (by decide) (fun hc => ?_) (fun hc => ?_)
  · replace h := h.1 hc
    refine hf_iinc (v := (x3 + 1)) (l2 := [some (.ref 156), none, some (.int x2), some (.int (x3 + 1))]) dX12_leastBroad_39 (by decide) rfl rfl rfl ?_
    refine hf_goto (tgt := 10) dX12_leastBroad_42 (by decide) ?_
    exact h
  · replace h := h.2 hc
    refine hf_aload_n dX12_leastBroad_34 rfl rfl ?_
    exact hf_callV (c := 12) (as := []) ok_X12_broadest dX12_leastBroad_35 hw1432 hw1433 hw1659 (hs.2.1 156 _ rfl) (by decide) (hf_lin hs 156 rfl) rfl (Nat.le_of_ble_eq_true rfl) rfl (Nat.le_of_ble_eq_true rfl) (Nat.zero_le _) (Nat.zero_le _) (hf_mono (fun r M q => hf_drop (l' := [some (.ref 156), none, none, some (.int x3)]) (by simp [hf_sub]) q) h)

set_option maxHeartbeats 4000000 in
theorem w_X12_leastBroad_38 {X : hf_X} {d k n t : Nat} {T : hf_T} {I : hf_I} {L : hf_L} {P : hf_P} {Q : Option Value → hf_M → Prop} {x3 : Int32} {s0 : Int32} (hs : hf_Lay t T P) (h : hf_G X Y_X12_leastBroad d k n 10 [some (.ref 156), none, some (.int s0), some (.int (x3 + 1))] [] (t, T, I, L, P) Q) : hf_G X Y_X12_leastBroad d k n 38 [some (.ref 156), none, none, some (.int x3)] [.int s0] (t, T, I, L, P) Q := by
  refine hf_istore_n (l2 := [some (.ref 156), none, some (.int s0), some (.int x3)]) dX12_leastBroad_38 rfl (by decide) rfl ?_
  refine hf_iinc (v := (x3 + 1)) (l2 := [some (.ref 156), none, some (.int s0), some (.int (x3 + 1))]) dX12_leastBroad_39 (by decide) rfl rfl rfl ?_
  refine hf_goto (tgt := 10) dX12_leastBroad_42 (by decide) ?_
  exact h

set_option maxHeartbeats 4000000 in
theorem w_X12_over_0 {X : hf_X} {d k n t : Nat} {T : hf_T} {I : hf_I} {L : hf_L} {P : hf_P} {Q : Option Value → hf_M → Prop}  (hs : hf_Lay t T P) (h : hf_G X Y_X12_leastBroad d 0 0 0 (hf_en [.ref 156, .int (I 158 315)] 4) [] (t, T, I, L, P) (fun r M => hf_G X Y_X12_over (d + 1) k n 12 [some (.ref 156), none] (r.toList ++ []) M Q)) : hf_G X Y_X12_over (d + 1) k n 0 (hf_en [.ref 156] 2) [] (t, T, I, L, P) Q := by
  show hf_G X Y_X12_over (d + 1) k n 0 [some (.ref 156), none] [] (t, T, I, L, P) Q
  refine hf_aload_n dX12_over_0 rfl rfl ?_
  refine hf_aload_n dX12_over_1 rfl rfl ?_
  refine hf_getr (b := 158) (c := 12) (j := 2) dX12_over_2 (hs.2.1 156 _ rfl) (hf_lin hs 156 rfl) (by decide) (by decide) hw1038 rfl (hs.2.2 156 2 _ rfl) ?_
  refine hf_sipush (v := 315) dX12_over_5 (by decide) ?_
  refine hf_iald_k (j := 315) (by decide) dX12_over_8 (hs.2.1 158 _ rfl) (hf_lin hs 158 rfl) (hf_vin (by decide)) ?_
  exact hf_callV (c := 12) (as := [.int (I 158 315)]) ok_X12_leastBroad dX12_over_9 hw1445 hw1446 hw1662 (hs.2.1 156 _ rfl) (by decide) (hf_lin hs 156 rfl) rfl (Nat.le_of_ble_eq_true rfl) rfl (Nat.le_of_ble_eq_true rfl) (Nat.zero_le _) (Nat.zero_le _) h

set_option maxHeartbeats 4000000 in
theorem w_X12_over_12 {X : hf_X} {d k n t : Nat} {T : hf_T} {I : hf_I} {L : hf_L} {P : hf_P} {Q : Option Value → hf_M → Prop} {s0 : Int32} (hs : hf_Lay t T P) (h : (s0 < 1000000 → (0 ≤ (s0 - (I 158 313)) → Q (some (.int (s0 - (I 158 313)))) (t, T, I, L, P)) ∧ (¬ (0 ≤ (s0 - (I 158 313))) → Q (some (.int 0)) (t, T, I, L, P))) ∧ (¬ (s0 < 1000000) → Q (some (.int (-1))) (t, T, I, L, P))) : hf_G X Y_X12_over (d + 1) k n 12 [some (.ref 156), none] [.int s0] (t, T, I, L, P) Q := by
  refine hf_istore_n (l2 := [some (.ref 156), some (.int s0)]) dX12_over_12 rfl (by decide) rfl ?_
  refine hf_iload_n dX12_over_13 rfl rfl ?_
  refine hf_ldc (v := 1000000) dX12_over_14 hw1298 ?_
  refine hf_icmp_lt (tgt := 23) dX12_over_16 (by decide) (fun hc => ?_) (fun hc => ?_)
  · replace h := h.1 hc
    refine hf_iconst (v := 0) dX12_over_23 (by decide) ?_
    refine hf_iload_n dX12_over_24 rfl rfl ?_
    refine hf_aload_n dX12_over_25 rfl rfl ?_
    refine hf_getr (b := 158) (c := 12) (j := 2) dX12_over_26 (hs.2.1 156 _ rfl) (hf_lin hs 156 rfl) (by decide) (by decide) hw1038 rfl (hs.2.2 156 2 _ rfl) ?_
    refine hf_sipush (v := 313) dX12_over_29 (by decide) ?_
    refine hf_iald_k (j := 313) (by decide) dX12_over_32 (hs.2.1 158 _ rfl) (hf_lin hs 158 rfl) (hf_vin (by decide)) ?_
    refine hf_isub dX12_over_33 ?_
    refine hf_callS (as := [.int 0, .int (s0 - (I 158 313))]) ok_X12_greater dX12_over_34 hw1384 hw1385 rfl (Nat.le_of_ble_eq_true rfl) rfl (Nat.le_of_ble_eq_true rfl) (Nat.zero_le _) (Nat.zero_le _) ?_
    show hf_G X Y_X12_greater d _ _ 0 [some (.int 0), some (.int (s0 - (I 158 313)))] [] (t, T, I, L, P) _
    refine hf_iload_n dX12_greater_0 rfl rfl ?_
    refine hf_iload_n dX12_greater_1 rfl rfl ?_
    refine hf_icmp_le (tgt := 9) dX12_greater_2 (by decide) (fun hc => ?_) (fun hc => ?_)
    · replace h := h.1 hc
      refine hf_iload_n dX12_greater_9 rfl rfl ?_
      refine hf_ireturn dX12_greater_10 rfl rfl ?_
      show hf_G X Y_X12_over (d + 1) _ _ 37 [some (.ref 156), some (.int s0)] [.int (s0 - (I 158 313))] (t, T, I, L, P) _
      refine hf_ireturn dX12_over_37 rfl rfl ?_
      exact h
    · replace h := h.2 hc
      refine hf_iload_n dX12_greater_5 rfl rfl ?_
      refine hf_goto (tgt := 10) dX12_greater_6 (by decide) ?_
      refine hf_ireturn dX12_greater_10 rfl rfl ?_
      show hf_G X Y_X12_over (d + 1) _ _ 37 [some (.ref 156), some (.int s0)] [.int 0] (t, T, I, L, P) _
      refine hf_ireturn dX12_over_37 rfl rfl ?_
      exact h
  · replace h := h.2 hc
    refine hf_iconst (v := (-1)) dX12_over_19 (by decide) ?_
    refine hf_goto (tgt := 37) dX12_over_20 (by decide) ?_
    refine hf_ireturn dX12_over_37 rfl rfl ?_
    exact h

set_option maxHeartbeats 4000000 in
theorem w_X12_narrow_0 {X : hf_X} {d k n t : Nat} {T : hf_T} {I : hf_I} {L : hf_L} {P : hf_P} {Q : Option Value → hf_M → Prop}  (hs : hf_Lay t T P) (h : hf_G X Y_X12_leastBroad d 0 0 0 (hf_en [.ref 156, .int (I 158 315)] 4) [] (t, T, I, L, P) (fun r M => hf_G X Y_X12_narrow (d + 1) k n 12 [none, none] (r.toList ++ []) M Q)) : hf_G X Y_X12_narrow (d + 1) k n 0 (hf_en [.ref 156] 2) [] (t, T, I, L, P) Q := by
  show hf_G X Y_X12_narrow (d + 1) k n 0 [some (.ref 156), none] [] (t, T, I, L, P) Q
  refine hf_aload_n dX12_narrow_0 rfl rfl ?_
  refine hf_aload_n dX12_narrow_1 rfl rfl ?_
  refine hf_getr (b := 158) (c := 12) (j := 2) dX12_narrow_2 (hs.2.1 156 _ rfl) (hf_lin hs 156 rfl) (by decide) (by decide) hw1038 rfl (hs.2.2 156 2 _ rfl) ?_
  refine hf_sipush (v := 315) dX12_narrow_5 (by decide) ?_
  refine hf_iald_k (j := 315) (by decide) dX12_narrow_8 (hs.2.1 158 _ rfl) (hf_lin hs 158 rfl) (hf_vin (by decide)) ?_
  exact hf_callV (c := 12) (as := [.int (I 158 315)]) ok_X12_leastBroad dX12_narrow_9 hw1445 hw1446 hw1662 (hs.2.1 156 _ rfl) (by decide) (hf_lin hs 156 rfl) rfl (Nat.le_of_ble_eq_true rfl) rfl (Nat.le_of_ble_eq_true rfl) (Nat.zero_le _) (Nat.zero_le _) (hf_mono (fun r M q => hf_drop (l' := [none, none]) (by simp [hf_sub]) q) h)

set_option maxHeartbeats 4000000 in
theorem w_X12_narrow_12 {X : hf_X} {d k n t : Nat} {T : hf_T} {I : hf_I} {L : hf_L} {P : hf_P} {Q : Option Value → hf_M → Prop} {s0 : Int32} (hs : hf_Lay t T P) (h : (s0 < 1000000 → Q (some (.int s0)) (t, T, I, L, P)) ∧ (¬ (s0 < 1000000) → Q (some (.int (-1))) (t, T, I, L, P))) : hf_G X Y_X12_narrow d k n 12 [none, none] [.int s0] (t, T, I, L, P) Q := by
  refine hf_istore_n (l2 := [none, some (.int s0)]) dX12_narrow_12 rfl (by decide) rfl ?_
  refine hf_iload_n dX12_narrow_13 rfl rfl ?_
  refine hf_ldc (v := 1000000) dX12_narrow_14 hw1298 ?_
  refine hf_icmp_lt (tgt := 23) dX12_narrow_16 (by decide) (fun hc => ?_) (fun hc => ?_)
  · replace h := h.1 hc
    refine hf_iload_n dX12_narrow_23 rfl rfl ?_
    refine hf_ireturn dX12_narrow_24 rfl rfl ?_
    exact h
  · replace h := h.2 hc
    refine hf_iconst (v := (-1)) dX12_narrow_19 (by decide) ?_
    refine hf_goto (tgt := 24) dX12_narrow_20 (by decide) ?_
    refine hf_ireturn dX12_narrow_24 rfl rfl ?_
    exact h

set_option maxHeartbeats 4000000 in
theorem w_X12_largest_0 {X : hf_X} {d k n t : Nat} {T : hf_T} {I : hf_I} {L : hf_L} {P : hf_P} {Q : Option Value → hf_M → Prop}  (hs : hf_Lay t T P) (h : hf_G X Y_X12_largest d k n 2 [some (.ref 156), some (.int 2)] [] (t, T, I, L, P) Q) : hf_G X Y_X12_largest d k n 0 (hf_en [.ref 156] 2) [] (t, T, I, L, P) Q := by
  show hf_G X Y_X12_largest d k n 0 [some (.ref 156), none] [] (t, T, I, L, P) Q
  refine hf_iconst (v := 2) dX12_largest_0 (by decide) ?_
  refine hf_istore_n (l2 := [some (.ref 156), some (.int 2)]) dX12_largest_1 rfl (by decide) rfl ?_
  exact h

set_option maxHeartbeats 4000000 in
theorem w_X12_largest_2 {X : hf_X} {d k n t : Nat} {T : hf_T} {I : hf_I} {L : hf_L} {P : hf_P} {Q : Option Value → hf_M → Prop} {x1 : Int32} (hs : hf_Lay t T P) (h : (x1 < 0 → Q (some (.int (-1))) (t, T, I, L, P)) ∧ (¬ (x1 < 0) → hf_G X Y_X12_leastBroad d 0 0 0 (hf_en [.ref 156, .int x1] 4) [] (t, T, I, L, P) (fun r M => hf_G X Y_X12_largest (d + 1) k n 11 [some (.ref 156), some (.int x1)] (r.toList ++ []) M Q))) : hf_G X Y_X12_largest (d + 1) k n 2 [some (.ref 156), some (.int x1)] [] (t, T, I, L, P) Q := by
  refine hf_iload_n dX12_largest_2 rfl rfl ?_
  refine hf_if_lt (tgt := 30) dX12_largest_3 (by decide) (fun hc => ?_) (fun hc => ?_)
  · replace h := h.1 hc
    refine hf_iconst (v := (-1)) dX12_largest_30 (by decide) ?_
    refine hf_ireturn dX12_largest_31 rfl rfl ?_
    exact h
  · replace h := h.2 hc
    refine hf_aload_n dX12_largest_6 rfl rfl ?_
    refine hf_iload_n dX12_largest_7 rfl rfl ?_
    exact hf_callV (c := 12) (as := [.int x1]) ok_X12_leastBroad dX12_largest_8 hw1445 hw1446 hw1662 (hs.2.1 156 _ rfl) (by decide) (hf_lin hs 156 rfl) rfl (Nat.le_of_ble_eq_true rfl) rfl (Nat.le_of_ble_eq_true rfl) (Nat.zero_le _) (Nat.zero_le _) h

set_option maxHeartbeats 4000000 in
theorem w_X12_largest_11 {X : hf_X} {d k n t : Nat} {T : hf_T} {I : hf_I} {L : hf_L} {P : hf_P} {Q : Option Value → hf_M → Prop} {x1 : Int32} {s0 : Int32} (hs : hf_Lay t T P) (h : ((I 158 313) < s0 → hf_G X Y_X12_largest d k n 2 [some (.ref 156), some (.int (x1 + (-1)))] [] (t, T, I, L, P) Q) ∧ (¬ ((I 158 313) < s0) → Q (some (.int x1)) (t, T, I, L, P))) : hf_G X Y_X12_largest d k n 11 [some (.ref 156), some (.int x1)] [.int s0] (t, T, I, L, P) Q := by
  refine hf_aload_n dX12_largest_11 rfl rfl ?_
  refine hf_getr (b := 158) (c := 12) (j := 2) dX12_largest_12 (hs.2.1 156 _ rfl) (hf_lin hs 156 rfl) (by decide) (by decide) hw1038 rfl (hs.2.2 156 2 _ rfl) ?_
  refine hf_sipush (v := 313) dX12_largest_15 (by decide) ?_
  refine hf_iald_k (j := 313) (by decide) dX12_largest_18 (hs.2.1 158 _ rfl) (hf_lin hs 158 rfl) (hf_vin (by decide)) ?_
  refine hf_icmp_gt (tgt := 24) dX12_largest_19 (by decide) (fun hc => ?_) (fun hc => ?_)
  · replace h := h.1 hc
    refine hf_iinc (v := (x1 + (-1))) (l2 := [some (.ref 156), some (.int (x1 + (-1)))]) dX12_largest_24 (by decide) rfl rfl rfl ?_
    refine hf_goto (tgt := 2) dX12_largest_27 (by decide) ?_
    exact h
  · replace h := h.2 hc
    refine hf_iload_n dX12_largest_22 rfl rfl ?_
    refine hf_ireturn dX12_largest_23 rfl rfl ?_
    exact h

set_option maxHeartbeats 4000000 in
theorem w_X12_truest_0 {X : hf_X} {d k n t : Nat} {T : hf_T} {I : hf_I} {L : hf_L} {P : hf_P} {Q : Option Value → hf_M → Prop} {x1 : Int32} (hs : hf_Lay t T P) (h : (x1 < 0 → Q (some (.int (-1))) (t, T, I, L, P)) ∧ (¬ (x1 < 0) → (14 < x1 → Q (some (.int (-1))) (t, T, I, L, P)) ∧ (¬ (14 < x1) → hf_G X Y_X12_lists d 0 0 0 (hf_en [.ref 156, .int (I 158 315)] 4) [] (t, T, I, L, P) (fun r M => hf_G X Y_X12_truest (d + 1) k n 24 [some (.ref 156), some (.int x1), none, none, none, none, none, none, none, none, none] (r.toList ++ []) M Q)))) : hf_G X Y_X12_truest (d + 1) k n 0 (hf_en [.ref 156, .int x1] 11) [] (t, T, I, L, P) Q := by
  show hf_G X Y_X12_truest (d + 1) k n 0 [some (.ref 156), some (.int x1), none, none, none, none, none, none, none, none, none] [] (t, T, I, L, P) Q
  refine hf_iload_n dX12_truest_0 rfl rfl ?_
  refine hf_iconst (v := 0) dX12_truest_1 (by decide) ?_
  refine hf_bipush (v := 14) dX12_truest_2 (by decide) ?_
  refine hf_callS (as := [.int x1, .int 0, .int 14]) ok_X12_lies dX12_truest_4 hw1143 hw1144 rfl (Nat.le_of_ble_eq_true rfl) rfl (Nat.le_of_ble_eq_true rfl) (Nat.zero_le _) (Nat.zero_le _) ?_
  show hf_G X Y_X12_lies d _ _ 0 [some (.int x1), some (.int 0), some (.int 14)] [] (t, T, I, L, P) _
  refine hf_iload_n dX12_lies_0 rfl rfl ?_
  refine hf_iload_n dX12_lies_1 rfl rfl ?_
  refine hf_icmp_lt (tgt := 14) dX12_lies_2 (by decide) (fun hc => ?_) (fun hc => ?_)
  · replace h := h.1 hc
    refine hf_iconst (v := 0) dX12_lies_14 (by decide) ?_
    refine hf_ireturn dX12_lies_15 rfl (by decide) ?_
    show hf_G X Y_X12_truest (d + 1) _ _ 7 [some (.ref 156), some (.int x1), none, none, none, none, none, none, none, none, none] [.int 0] (t, T, I, L, P) _
    refine hf_if_ne (tgt := 12) dX12_truest_7 (by decide) (fun hc => absurd (show ¬ (0 : Int32) = (0 : Int32) from hc) (by decide)) (fun _ => ?_)
    refine hf_iconst (v := (-1)) dX12_truest_10 (by decide) ?_
    refine hf_ireturn dX12_truest_11 rfl rfl ?_
    exact h
  · replace h := h.2 hc
    refine hf_iload_n dX12_lies_5 rfl rfl ?_
    refine hf_iload_n dX12_lies_6 rfl rfl ?_
    refine hf_icmp_gt (tgt := 14) dX12_lies_7 (by decide) (fun hc => ?_) (fun hc => ?_)
    · replace h := h.1 hc
      refine hf_iconst (v := 0) dX12_lies_14 (by decide) ?_
      refine hf_ireturn dX12_lies_15 rfl (by decide) ?_
      show hf_G X Y_X12_truest (d + 1) _ _ 7 [some (.ref 156), some (.int x1), none, none, none, none, none, none, none, none, none] [.int 0] (t, T, I, L, P) _
      refine hf_if_ne (tgt := 12) dX12_truest_7 (by decide) (fun hc => absurd (show ¬ (0 : Int32) = (0 : Int32) from hc) (by decide)) (fun _ => ?_)
      refine hf_iconst (v := (-1)) dX12_truest_10 (by decide) ?_
      refine hf_ireturn dX12_truest_11 rfl rfl ?_
      exact h
    · replace h := h.2 hc
      refine hf_iconst (v := 1) dX12_lies_10 (by decide) ?_
      refine hf_goto (tgt := 15) dX12_lies_11 (by decide) ?_
      refine hf_ireturn dX12_lies_15 rfl (by decide) ?_
      show hf_G X Y_X12_truest (d + 1) _ _ 7 [some (.ref 156), some (.int x1), none, none, none, none, none, none, none, none, none] [.int 1] (t, T, I, L, P) _
      refine hf_if_ne (tgt := 12) dX12_truest_7 (by decide) (fun _ => ?_) (fun hc => absurd (show (1 : Int32) = (0 : Int32) from hc) (by decide))
      refine hf_aload_n dX12_truest_12 rfl rfl ?_
      refine hf_aload_n dX12_truest_13 rfl rfl ?_
      refine hf_getr (b := 158) (c := 12) (j := 2) dX12_truest_14 (hs.2.1 156 _ rfl) (hf_lin hs 156 rfl) (by decide) (by decide) hw1038 rfl (hs.2.2 156 2 _ rfl) ?_
      refine hf_sipush (v := 315) dX12_truest_17 (by decide) ?_
      refine hf_iald_k (j := 315) (by decide) dX12_truest_20 (hs.2.1 158 _ rfl) (hf_lin hs 158 rfl) (hf_vin (by decide)) ?_
      exact hf_callV (c := 12) (as := [.int (I 158 315)]) ok_X12_lists dX12_truest_21 hw1426 hw1427 hw1657 (hs.2.1 156 _ rfl) (by decide) (hf_lin hs 156 rfl) rfl (Nat.le_of_ble_eq_true rfl) rfl (Nat.le_of_ble_eq_true rfl) (Nat.zero_le _) (Nat.zero_le _) h

set_option maxHeartbeats 4000000 in
theorem w_X12_truest_24 {X : hf_X} {d k n t : Nat} {T : hf_T} {I : hf_I} {L : hf_L} {P : hf_P} {Q : Option Value → hf_M → Prop} {x1 : Int32} (hs : hf_Lay t T P) (h : hf_G X Y_X12_truest d k n 36 [some (.ref 156), some (.int x1), some (.int (-1)), some (.long (-1)), none, some (.long 1), none, some (.int 0), none, none, none] [] (t, T, I, L, P) Q) : hf_G X Y_X12_truest d k n 24 [some (.ref 156), some (.int x1), none, none, none, none, none, none, none, none, none] [] (t, T, I, L, P) Q := by
  refine hf_iconst (v := (-1)) dX12_truest_24 (by decide) ?_
  refine hf_istore_n (l2 := [some (.ref 156), some (.int x1), some (.int (-1)), none, none, none, none, none, none, none, none]) dX12_truest_25 rfl (by decide) rfl ?_
  refine hf_ldc2 (v := (-1)) dX12_truest_26 hw1460 ?_
  refine hf_lstore_n (l2 := [some (.ref 156), some (.int x1), some (.int (-1)), some (.long (-1)), none, none, none, none, none, none, none]) dX12_truest_29 rfl (by decide) rfl ?_
  refine hf_lconst (v := 1) dX12_truest_30 (by decide) ?_
  refine hf_lstore (l2 := [some (.ref 156), some (.int x1), some (.int (-1)), some (.long (-1)), none, some (.long 1), none, none, none, none, none]) dX12_truest_31 (by decide) rfl ?_
  refine hf_iconst (v := 0) dX12_truest_33 (by decide) ?_
  refine hf_istore (l2 := [some (.ref 156), some (.int x1), some (.int (-1)), some (.long (-1)), none, some (.long 1), none, some (.int 0), none, none, none]) dX12_truest_34 (by decide) rfl ?_
  exact h

set_option maxHeartbeats 4000000 in
theorem w_X12_truest_36 {X : hf_X} {d k n t : Nat} {T : hf_T} {I : hf_I} {L : hf_L} {P : hf_P} {Q : Option Value → hf_M → Prop} {x1 : Int32} {x2 : Int32} {x3 : Int64} {x5 : Int64} {x7 : Int32} (hs : hf_Lay t T P) (h : ((I 158 317) ≤ x7 → hf_G X Y_X12_truest (d + 1) k n 62 [some (.ref 156), some (.int x1), some (.int x2), some (.long x3), none, some (.long x5), none, some (.int 0), none, none, none] [] (t, T, I, L, P) Q) ∧ (¬ ((I 158 317) ≤ x7) → hf_G X Y_X12_truest (d + 1) k n 36 [some (.ref 156), some (.int x1), some (.int x2), some (.long x3), none, some (.long (x5 * 10)), none, some (.int (x7 + 1)), none, none, none] [] (t, T, I, L, P) Q)) : hf_G X Y_X12_truest (d + 1) k n 36 [some (.ref 156), some (.int x1), some (.int x2), some (.long x3), none, some (.long x5), none, some (.int x7), none, none, none] [] (t, T, I, L, P) Q := by
  refine hf_iload dX12_truest_36 rfl ?_
  refine hf_aload_n dX12_truest_38 rfl rfl ?_
  refine hf_callV (c := 12) (as := []) ok_X12_said dX12_truest_39 hw1423 hw1424 hw1656 (hs.2.1 156 _ rfl) (by decide) (hf_lin hs 156 rfl) rfl (Nat.le_of_ble_eq_true rfl) rfl (Nat.le_of_ble_eq_true rfl) (Nat.zero_le _) (Nat.zero_le _) ?_
  show hf_G X Y_X12_said d _ _ 0 [some (.ref 156)] [] (t, T, I, L, P) _
  refine hf_aload_n dX12_said_0 rfl rfl ?_
  refine hf_getr (b := 158) (c := 12) (j := 2) dX12_said_1 (hs.2.1 156 _ rfl) (hf_lin hs 156 rfl) (by decide) (by decide) hw1038 rfl (hs.2.2 156 2 _ rfl) ?_
  refine hf_sipush (v := 317) dX12_said_4 (by decide) ?_
  refine hf_iald_k (j := 317) (by decide) dX12_said_7 (hs.2.1 158 _ rfl) (hf_lin hs 158 rfl) (hf_vin (by decide)) ?_
  refine hf_ireturn dX12_said_8 rfl rfl ?_
  show hf_G X Y_X12_truest (d + 1) _ _ 42 [some (.ref 156), some (.int x1), some (.int x2), some (.long x3), none, some (.long x5), none, some (.int x7), none, none, none] [.int (I 158 317), .int x7] (t, T, I, L, P) _
  refine hf_icmp_ge (tgt := 59) dX12_truest_42 (by decide) (fun hc => ?_) (fun hc => ?_)
  · replace h := h.1 hc
    refine hf_iconst (v := 0) dX12_truest_59 (by decide) ?_
    refine hf_istore (l2 := [some (.ref 156), some (.int x1), some (.int x2), some (.long x3), none, some (.long x5), none, some (.int 0), none, none, none]) dX12_truest_60 (by decide) rfl ?_
    exact h
  · replace h := h.2 hc
    refine hf_lload dX12_truest_45 rfl ?_
    refine hf_ldc2 (v := 10) dX12_truest_47 hw1461 ?_
    refine hf_lmul dX12_truest_50 ?_
    refine hf_lstore (l2 := [some (.ref 156), some (.int x1), some (.int x2), some (.long x3), none, some (.long (x5 * 10)), none, some (.int x7), none, none, none]) dX12_truest_51 (by decide) rfl ?_
    refine hf_iinc (v := (x7 + 1)) (l2 := [some (.ref 156), some (.int x1), some (.int x2), some (.long x3), none, some (.long (x5 * 10)), none, some (.int (x7 + 1)), none, none, none]) dX12_truest_53 (by decide) rfl rfl rfl ?_
    refine hf_goto (tgt := 36) dX12_truest_56 (by decide) ?_
    exact h

set_option maxHeartbeats 4000000 in
theorem w_X12_truest_62 {X : hf_X} {d k n t : Nat} {T : hf_T} {I : hf_I} {L : hf_L} {P : hf_P} {Q : Option Value → hf_M → Prop} {x1 : Int32} {x2 : Int32} {x3 : Int64} {x5 : Int64} {x7 : Int32} (hs : hf_Lay t T P) (h : ((I 156 36) ≤ x7 → (¬ x2 = (-1) → (x1 ≤ 2 → hf_G X Y_X12_opens d 0 0 0 (hf_en [.ref 156, .int x2] 4) [] (t, T, I, L, P) (fun r M => hf_G X Y_X12_truest (d + 1) k n 183 [some (.ref 156), some (.int x1), none, some (.long x3), none, some (.long x5), none, none, none, none, none] (r.toList ++ []) M Q)) ∧ (¬ (x1 ≤ 2) → hf_G X Y_X12_tellsRow d 0 0 0 (hf_en [.ref 156, .int x2, .int x1] 4) [] (t, T, I, L, P) (fun r M => hf_G X Y_X12_truest (d + 1) k n 177 [none, none, none, none, none, none, none, none, none, none, none] (r.toList ++ []) M Q))) ∧ (x2 = (-1) → Q (some (.int (-1))) (t, T, I, L, P))) ∧ (¬ ((I 156 36) ≤ x7) → hf_G X Y_X12_opens d 0 0 0 (hf_en [.ref 156, .int x7] 4) [] (t, T, I, L, P) (fun r M => hf_G X Y_X12_truest (d + 1) k n 77 [some (.ref 156), some (.int x1), some (.int x2), some (.long x3), none, some (.long x5), none, some (.int x7), none, none, none] (r.toList ++ []) M Q))) : hf_G X Y_X12_truest (d + 1) k n 62 [some (.ref 156), some (.int x1), some (.int x2), some (.long x3), none, some (.long x5), none, some (.int x7), none, none, none] [] (t, T, I, L, P) Q := by
  refine hf_iload dX12_truest_62 rfl ?_
  refine hf_aload_n dX12_truest_64 rfl rfl ?_
  refine hf_geti (c := 12) (j := 36) dX12_truest_65 (hs.2.1 156 _ rfl) (hf_lin hs 156 rfl) (by decide) (by decide) hw1072 (Or.inl rfl) ?_
  refine hf_icmp_ge (tgt := 159) dX12_truest_68 (by decide) (fun hc => ?_) (fun hc => ?_)
  · replace h := h.1 hc
    refine hf_iload_n dX12_truest_159 rfl rfl ?_
    refine hf_iconst (v := (-1)) dX12_truest_160 (by decide) ?_
    refine hf_icmp_ne (tgt := 166) dX12_truest_161 (by decide) (fun hc => ?_) (fun hc => ?_)
    · replace h := h.1 hc
      refine hf_iload_n dX12_truest_166 rfl rfl ?_
      refine hf_iconst (v := 2) dX12_truest_167 (by decide) ?_
      refine hf_icmp_le (tgt := 178) dX12_truest_168 (by decide) (fun hc => ?_) (fun hc => ?_)
      · replace h := h.1 hc
        refine hf_aload_n dX12_truest_178 rfl rfl ?_
        refine hf_iload_n dX12_truest_179 rfl rfl ?_
        exact hf_callV (c := 12) (as := [.int x2]) ok_X12_opens dX12_truest_180 hw1429 hw1430 hw1658 (hs.2.1 156 _ rfl) (by decide) (hf_lin hs 156 rfl) rfl (Nat.le_of_ble_eq_true rfl) rfl (Nat.le_of_ble_eq_true rfl) (Nat.zero_le _) (Nat.zero_le _) (hf_mono (fun r M q => hf_drop (l' := [some (.ref 156), some (.int x1), none, some (.long x3), none, some (.long x5), none, none, none, none, none]) (by simp [hf_sub]) q) h)
      · replace h := h.2 hc
        refine hf_aload_n dX12_truest_171 rfl rfl ?_
        refine hf_iload_n dX12_truest_172 rfl rfl ?_
        refine hf_iload_n dX12_truest_173 rfl rfl ?_
        exact hf_callV (c := 12) (as := [.int x2, .int x1]) ok_X12_tellsRow dX12_truest_174 hw1438 hw1439 hw1661 (hs.2.1 156 _ rfl) (by decide) (hf_lin hs 156 rfl) rfl (Nat.le_of_ble_eq_true rfl) rfl (Nat.le_of_ble_eq_true rfl) (Nat.zero_le _) (Nat.zero_le _) (hf_mono (fun r M q => hf_drop (l' := [none, none, none, none, none, none, none, none, none, none, none]) (by simp [hf_sub]) q) h)
    · replace h := h.2 hc
      refine hf_iconst (v := (-1)) dX12_truest_164 (by decide) ?_
      refine hf_ireturn dX12_truest_165 rfl rfl ?_
      exact h
  · replace h := h.2 hc
    refine hf_aload_n dX12_truest_71 rfl rfl ?_
    refine hf_iload dX12_truest_72 rfl ?_
    exact hf_callV (c := 12) (as := [.int x7]) ok_X12_opens dX12_truest_74 hw1429 hw1430 hw1658 (hs.2.1 156 _ rfl) (by decide) (hf_lin hs 156 rfl) rfl (Nat.le_of_ble_eq_true rfl) rfl (Nat.le_of_ble_eq_true rfl) (Nat.zero_le _) (Nat.zero_le _) h

set_option maxHeartbeats 4000000 in
theorem w_X12_truest_183 {X : hf_X} {d k n t : Nat} {T : hf_T} {I : hf_I} {L : hf_L} {P : hf_P} {Q : Option Value → hf_M → Prop} {x1 : Int32} {x3 : Int64} {x5 : Int64} {s0 : Int32} (hs : hf_Lay t T P) (h : (¬ x1 = 2 → (¬ x1 = 0 → hf_G X Y_X12_common d 0 0 0 (hf_en [.long x3, .long x5] 10) [] (t, T, I, L, P) (fun r M => hf_G X Y_X12_truest (d + 1) k n 212 [none, none, none, none, none, none, none, none, none, none, none] (r.toList ++ [.long x5]) M Q)) ∧ (x1 = 0 → hf_G X Y_X12_common d 0 0 0 (hf_en [.long x3, .long x5] 10) [] (t, T, I, L, P) (fun r M => hf_G X Y_X12_truest (d + 1) k n 212 [none, none, none, none, none, none, none, none, none, none, none] (r.toList ++ [.long x3]) M Q))) ∧ (x1 = 2 → hf_G X Y_X12_costOfRow d 0 0 0 (hf_en [.ref 156] 6) [] (t, T, I, L, P) (fun r M => hf_G X Y_X12_truest (d + 1) k n 193 [none, none, none, none, none, none, none, none, none, none, none] (r.toList ++ []) M Q))) : hf_G X Y_X12_truest (d + 1) k n 183 [some (.ref 156), some (.int x1), none, some (.long x3), none, some (.long x5), none, none, none, none, none] [.int s0] (t, T, I, L, P) Q := by
  refine hf_pop dX12_truest_183 rfl ?_
  refine hf_iload_n dX12_truest_184 rfl rfl ?_
  refine hf_iconst (v := 2) dX12_truest_185 (by decide) ?_
  refine hf_icmp_ne (tgt := 196) dX12_truest_186 (by decide) (fun hc => ?_) (fun hc => ?_)
  · replace h := h.1 hc
    refine hf_iload_n dX12_truest_196 rfl rfl ?_
    refine hf_if_ne (tgt := 204) dX12_truest_197 (by decide) (fun hc => ?_) (fun hc => ?_)
    · replace h := h.1 hc
      refine hf_lload dX12_truest_204 rfl ?_
      refine hf_lload_n dX12_truest_206 rfl rfl ?_
      refine hf_lload dX12_truest_207 rfl ?_
      exact hf_callS (as := [.long x3, .long x5]) ok_X12_common dX12_truest_209 hw1462 hw1463 rfl (Nat.le_of_ble_eq_true rfl) rfl (Nat.le_of_ble_eq_true rfl) (Nat.zero_le _) (Nat.zero_le _) (hf_mono (fun r M q => hf_drop (l' := [none, none, none, none, none, none, none, none, none, none, none]) (by simp [hf_sub]) q) h)
    · replace h := h.2 hc
      refine hf_lload_n dX12_truest_200 rfl rfl ?_
      refine hf_goto (tgt := 206) dX12_truest_201 (by decide) ?_
      refine hf_lload_n dX12_truest_206 rfl rfl ?_
      refine hf_lload dX12_truest_207 rfl ?_
      exact hf_callS (as := [.long x3, .long x5]) ok_X12_common dX12_truest_209 hw1462 hw1463 rfl (Nat.le_of_ble_eq_true rfl) rfl (Nat.le_of_ble_eq_true rfl) (Nat.zero_le _) (Nat.zero_le _) (hf_mono (fun r M q => hf_drop (l' := [none, none, none, none, none, none, none, none, none, none, none]) (by simp [hf_sub]) q) h)
  · replace h := h.2 hc
    refine hf_aload_n dX12_truest_189 rfl rfl ?_
    exact hf_callV (c := 12) (as := []) ok_X12_costOfRow dX12_truest_190 hw1435 hw1436 hw1660 (hs.2.1 156 _ rfl) (by decide) (hf_lin hs 156 rfl) rfl (Nat.le_of_ble_eq_true rfl) rfl (Nat.le_of_ble_eq_true rfl) (Nat.zero_le _) (Nat.zero_le _) (hf_mono (fun r M q => hf_drop (l' := [none, none, none, none, none, none, none, none, none, none, none]) (by simp [hf_sub]) q) h)

set_option maxHeartbeats 4000000 in
theorem w_X12_truest_177 {X : hf_X} {d k n t : Nat} {T : hf_T} {I : hf_I} {L : hf_L} {P : hf_P} {Q : Option Value → hf_M → Prop} {s0 : Int32} (hs : hf_Lay t T P) (h : Q (some (.int s0)) (t, T, I, L, P)) : hf_G X Y_X12_truest d k n 177 [none, none, none, none, none, none, none, none, none, none, none] [.int s0] (t, T, I, L, P) Q := by
  refine hf_ireturn dX12_truest_177 rfl rfl ?_
  exact h

set_option maxHeartbeats 4000000 in
theorem w_X12_truest_77 {X : hf_X} {d k n t : Nat} {T : hf_T} {I : hf_I} {L : hf_L} {P : hf_P} {Q : Option Value → hf_M → Prop} {x1 : Int32} {x2 : Int32} {x3 : Int64} {x5 : Int64} {x7 : Int32} {s0 : Int32} (hs : hf_Lay t T P) (h : (s0 = 0 → hf_G X Y_X12_truest (d + 1) k n 62 [some (.ref 156), some (.int x1), some (.int x2), some (.long x3), none, some (.long x5), none, some (.int (x7 + 1)), none, none, none] [] (t, T, I, L, P) Q) ∧ (¬ (s0 = 0) → hf_G X Y_X12_broadest d 0 0 0 (hf_en [.ref 156] 3) [] (t, T, I, L, P) (fun r M => hf_G X Y_X12_truest (d + 1) k n 84 [some (.ref 156), some (.int x1), some (.int x2), some (.long x3), none, some (.long x5), none, some (.int x7), none, none, none] (r.toList ++ []) M Q))) : hf_G X Y_X12_truest (d + 1) k n 77 [some (.ref 156), some (.int x1), some (.int x2), some (.long x3), none, some (.long x5), none, some (.int x7), none, none, none] [.int s0] (t, T, I, L, P) Q := by
  refine hf_if_eq (tgt := 153) dX12_truest_77 (by decide) (fun hc => ?_) (fun hc => ?_)
  · replace h := h.1 hc
    refine hf_iinc (v := (x7 + 1)) (l2 := [some (.ref 156), some (.int x1), some (.int x2), some (.long x3), none, some (.long x5), none, some (.int (x7 + 1)), none, none, none]) dX12_truest_153 (by decide) rfl rfl rfl ?_
    refine hf_goto (tgt := 62) dX12_truest_156 (by decide) ?_
    exact h
  · replace h := h.2 hc
    refine hf_aload_n dX12_truest_80 rfl rfl ?_
    exact hf_callV (c := 12) (as := []) ok_X12_broadest dX12_truest_81 hw1432 hw1433 hw1659 (hs.2.1 156 _ rfl) (by decide) (hf_lin hs 156 rfl) rfl (Nat.le_of_ble_eq_true rfl) rfl (Nat.le_of_ble_eq_true rfl) (Nat.zero_le _) (Nat.zero_le _) h

set_option maxHeartbeats 4000000 in
theorem w_X12_truest_212 {X : hf_X} {d k n t : Nat} {T : hf_T} {I : hf_I} {L : hf_L} {P : hf_P} {Q : Option Value → hf_M → Prop} {s0 : Int64} {s1 : Int64} (hs : hf_Lay t T P) (h : ¬ s0 = 0 ∧ (Q (some (.int ((s1 / s0).toInt32))) (t, T, I, L, P))) : hf_G X Y_X12_truest d k n 212 [none, none, none, none, none, none, none, none, none, none, none] [.long s0, .long s1] (t, T, I, L, P) Q := by
  refine hf_ldiv dX12_truest_212 h.1 ?_
  replace h := h.2
  refine hf_l2i dX12_truest_213 ?_
  refine hf_ireturn dX12_truest_214 rfl rfl ?_
  exact h

set_option maxHeartbeats 4000000 in
theorem w_X12_truest_193 {X : hf_X} {d k n t : Nat} {T : hf_T} {I : hf_I} {L : hf_L} {P : hf_P} {Q : Option Value → hf_M → Prop} {s0 : Int32} (hs : hf_Lay t T P) (h : Q (some (.int s0)) (t, T, I, L, P)) : hf_G X Y_X12_truest d k n 193 [none, none, none, none, none, none, none, none, none, none, none] [.int s0] (t, T, I, L, P) Q := by
  refine hf_goto (tgt := 214) dX12_truest_193 (by decide) ?_
  refine hf_ireturn dX12_truest_214 rfl rfl ?_
  exact h

set_option maxHeartbeats 4000000 in
theorem w_X12_truest_84 {X : hf_X} {d k n t : Nat} {T : hf_T} {I : hf_I} {L : hf_L} {P : hf_P} {Q : Option Value → hf_M → Prop} {x1 : Int32} {x2 : Int32} {x3 : Int64} {x5 : Int64} {x7 : Int32} {s0 : Int32} (hs : hf_Lay t T P) (h : (s0 ≤ (I 158 313) → hf_G X Y_X12_truest d k n 104 [some (.ref 156), some (.int x1), some (.int x2), some (.long x3), none, some (.long x5), none, some (.int x7), some (.long 1), none, some (.int 0)] [] (t, T, I, L, P) Q) ∧ (¬ (s0 ≤ (I 158 313)) → hf_G X Y_X12_truest d k n 62 [some (.ref 156), some (.int x1), some (.int x2), some (.long x3), none, some (.long x5), none, some (.int (x7 + 1)), none, none, none] [] (t, T, I, L, P) Q)) : hf_G X Y_X12_truest d k n 84 [some (.ref 156), some (.int x1), some (.int x2), some (.long x3), none, some (.long x5), none, some (.int x7), none, none, none] [.int s0] (t, T, I, L, P) Q := by
  refine hf_aload_n dX12_truest_84 rfl rfl ?_
  refine hf_getr (b := 158) (c := 12) (j := 2) dX12_truest_85 (hs.2.1 156 _ rfl) (hf_lin hs 156 rfl) (by decide) (by decide) hw1038 rfl (hs.2.2 156 2 _ rfl) ?_
  refine hf_sipush (v := 313) dX12_truest_88 (by decide) ?_
  refine hf_iald_k (j := 313) (by decide) dX12_truest_91 (hs.2.1 158 _ rfl) (hf_lin hs 158 rfl) (hf_vin (by decide)) ?_
  refine hf_icmp_le (tgt := 98) dX12_truest_92 (by decide) (fun hc => ?_) (fun hc => ?_)
  · replace h := h.1 hc
    refine hf_lconst (v := 1) dX12_truest_98 (by decide) ?_
    refine hf_lstore (l2 := [some (.ref 156), some (.int x1), some (.int x2), some (.long x3), none, some (.long x5), none, some (.int x7), some (.long 1), none, none]) dX12_truest_99 (by decide) rfl ?_
    refine hf_iconst (v := 0) dX12_truest_101 (by decide) ?_
    refine hf_istore (l2 := [some (.ref 156), some (.int x1), some (.int x2), some (.long x3), none, some (.long x5), none, some (.int x7), some (.long 1), none, some (.int 0)]) dX12_truest_102 (by decide) rfl ?_
    exact h
  · replace h := h.2 hc
    refine hf_goto (tgt := 153) dX12_truest_95 (by decide) ?_
    refine hf_iinc (v := (x7 + 1)) (l2 := [some (.ref 156), some (.int x1), some (.int x2), some (.long x3), none, some (.long x5), none, some (.int (x7 + 1)), none, none, none]) dX12_truest_153 (by decide) rfl rfl rfl ?_
    refine hf_goto (tgt := 62) dX12_truest_156 (by decide) ?_
    exact h

set_option maxHeartbeats 4000000 in
theorem w_X12_truest_104 {X : hf_X} {d k n t : Nat} {T : hf_T} {I : hf_I} {L : hf_L} {P : hf_P} {Q : Option Value → hf_M → Prop} {x1 : Int32} {x2 : Int32} {x3 : Int64} {x5 : Int64} {x7 : Int32} {x8 : Int64} {x10 : Int32} (hs : hf_Lay t T P) (h : ((I 158 317) ≤ x10 → (0 < (lg_cmp x8 x3) → hf_G X Y_X12_truest (d + 1) k n 62 [some (.ref 156), some (.int x1), some (.int x7), some (.long x8), none, some (.long x5), none, some (.int (x7 + 1)), none, none, none] [] (t, T, I, L, P) Q) ∧ (¬ (0 < (lg_cmp x8 x3)) → hf_G X Y_X12_truest (d + 1) k n 62 [some (.ref 156), some (.int x1), some (.int x2), some (.long x3), none, some (.long x5), none, some (.int (x7 + 1)), none, none, none] [] (t, T, I, L, P) Q)) ∧ (¬ ((I 158 317) ≤ x10) → vp_in x10 6 ∧ (vp_in ((53 + (13 * (I 173 x10.toNatClampNeg))) + 2) 5929 ∧ (hf_G X Y_X12_truest (d + 1) k n 104 [some (.ref 156), some (.int x1), some (.int x2), some (.long x3), none, some (.long x5), none, some (.int x7), some (.long (x8 * (I 158 ((((53 + (13 * (I 173 x10.toNatClampNeg))) + 2)).toNatClampNeg)).toInt64)), none, some (.int (x10 + 1))] [] (t, T, I, L, P) Q)))) : hf_G X Y_X12_truest (d + 1) k n 104 [some (.ref 156), some (.int x1), some (.int x2), some (.long x3), none, some (.long x5), none, some (.int x7), some (.long x8), none, some (.int x10)] [] (t, T, I, L, P) Q := by
  refine hf_iload dX12_truest_104 rfl ?_
  refine hf_aload_n dX12_truest_106 rfl rfl ?_
  refine hf_callV (c := 12) (as := []) ok_X12_said dX12_truest_107 hw1423 hw1424 hw1656 (hs.2.1 156 _ rfl) (by decide) (hf_lin hs 156 rfl) rfl (Nat.le_of_ble_eq_true rfl) rfl (Nat.le_of_ble_eq_true rfl) (Nat.zero_le _) (Nat.zero_le _) ?_
  show hf_G X Y_X12_said d _ _ 0 [some (.ref 156)] [] (t, T, I, L, P) _
  refine hf_aload_n dX12_said_0 rfl rfl ?_
  refine hf_getr (b := 158) (c := 12) (j := 2) dX12_said_1 (hs.2.1 156 _ rfl) (hf_lin hs 156 rfl) (by decide) (by decide) hw1038 rfl (hs.2.2 156 2 _ rfl) ?_
  refine hf_sipush (v := 317) dX12_said_4 (by decide) ?_
  refine hf_iald_k (j := 317) (by decide) dX12_said_7 (hs.2.1 158 _ rfl) (hf_lin hs 158 rfl) (hf_vin (by decide)) ?_
  refine hf_ireturn dX12_said_8 rfl rfl ?_
  show hf_G X Y_X12_truest (d + 1) _ _ 110 [some (.ref 156), some (.int x1), some (.int x2), some (.long x3), none, some (.long x5), none, some (.int x7), some (.long x8), none, some (.int x10)] [.int (I 158 317), .int x10] (t, T, I, L, P) _
  refine hf_icmp_ge (tgt := 137) dX12_truest_110 (by decide) (fun hc => ?_) (fun hc => ?_)
  · replace h := h.1 hc
    refine hf_lload dX12_truest_137 rfl ?_
    refine hf_lload_n dX12_truest_139 rfl rfl ?_
    refine hf_lcmp dX12_truest_140 ?_
    refine hf_if_gt (tgt := 147) dX12_truest_141 (by decide) (fun hc => ?_) (fun hc => ?_)
    · replace h := h.1 hc
      refine hf_lload dX12_truest_147 rfl ?_
      refine hf_lstore_n (l2 := [some (.ref 156), some (.int x1), some (.int x2), some (.long x8), none, some (.long x5), none, some (.int x7), some (.long x8), none, some (.int x10)]) dX12_truest_149 rfl (by decide) rfl ?_
      refine hf_iload dX12_truest_150 rfl ?_
      refine hf_istore_n (l2 := [some (.ref 156), some (.int x1), some (.int x7), some (.long x8), none, some (.long x5), none, some (.int x7), some (.long x8), none, some (.int x10)]) dX12_truest_152 rfl (by decide) rfl ?_
      refine hf_iinc (v := (x7 + 1)) (l2 := [some (.ref 156), some (.int x1), some (.int x7), some (.long x8), none, some (.long x5), none, some (.int (x7 + 1)), some (.long x8), none, some (.int x10)]) dX12_truest_153 (by decide) rfl rfl rfl ?_
      refine hf_goto (tgt := 62) dX12_truest_156 (by decide) ?_
      refine hf_drop (l' := [some (.ref 156), some (.int x1), some (.int x7), some (.long x8), none, some (.long x5), none, some (.int (x7 + 1)), none, none, none]) (by simp [hf_sub]) ?_
      exact h
    · replace h := h.2 hc
      refine hf_goto (tgt := 153) dX12_truest_144 (by decide) ?_
      refine hf_iinc (v := (x7 + 1)) (l2 := [some (.ref 156), some (.int x1), some (.int x2), some (.long x3), none, some (.long x5), none, some (.int (x7 + 1)), some (.long x8), none, some (.int x10)]) dX12_truest_153 (by decide) rfl rfl rfl ?_
      refine hf_goto (tgt := 62) dX12_truest_156 (by decide) ?_
      refine hf_drop (l' := [some (.ref 156), some (.int x1), some (.int x2), some (.long x3), none, some (.long x5), none, some (.int (x7 + 1)), none, none, none]) (by simp [hf_sub]) ?_
      exact h
  · replace h := h.2 hc
    refine hf_lload dX12_truest_113 rfl ?_
    refine hf_aload_n dX12_truest_115 rfl rfl ?_
    refine hf_aload_n dX12_truest_116 rfl rfl ?_
    refine hf_getr (b := 173) (c := 12) (j := 30) dX12_truest_117 (hs.2.1 156 _ rfl) (hf_lin hs 156 rfl) (by decide) (by decide) hw1066 rfl (hs.2.2 156 30 _ rfl) ?_
    refine hf_iload dX12_truest_120 rfl ?_
    refine hf_iald dX12_truest_122 (hs.2.1 173 _ rfl) (hf_lin hs 173 rfl) h.1 ?_
    replace h := h.2
    refine hf_iconst (v := 2) dX12_truest_123 (by decide) ?_
    refine hf_callV (c := 12) (as := [.int (I 173 x10.toNatClampNeg), .int 2]) ok_X12_fact dX12_truest_124 hw1189 hw1190 hw1606 (hs.2.1 156 _ rfl) (by decide) (hf_lin hs 156 rfl) rfl (Nat.le_of_ble_eq_true rfl) rfl (Nat.le_of_ble_eq_true rfl) (Nat.zero_le _) (Nat.zero_le _) ?_
    show hf_G X Y_X12_fact d _ _ 0 [some (.ref 156), some (.int (I 173 x10.toNatClampNeg)), some (.int 2)] [] (t, T, I, L, P) _
    refine hf_aload_n dX12_fact_0 rfl rfl ?_
    refine hf_getr (b := 158) (c := 12) (j := 2) dX12_fact_1 (hs.2.1 156 _ rfl) (hf_lin hs 156 rfl) (by decide) (by decide) hw1038 rfl (hs.2.2 156 2 _ rfl) ?_
    refine hf_bipush (v := 53) dX12_fact_4 (by decide) ?_
    refine hf_bipush (v := 13) dX12_fact_6 (by decide) ?_
    refine hf_iload_n dX12_fact_8 rfl rfl ?_
    refine hf_imul dX12_fact_9 ?_
    refine hf_iadd dX12_fact_10 ?_
    refine hf_iload_n dX12_fact_11 rfl rfl ?_
    refine hf_iadd dX12_fact_12 ?_
    refine hf_iald dX12_fact_13 (hs.2.1 158 _ rfl) (hf_lin hs 158 rfl) h.1 ?_
    replace h := h.2
    refine hf_ireturn dX12_fact_14 rfl rfl ?_
    show hf_G X Y_X12_truest (d + 1) _ _ 127 [some (.ref 156), some (.int x1), some (.int x2), some (.long x3), none, some (.long x5), none, some (.int x7), some (.long x8), none, some (.int x10)] [.int (I 158 ((((53 + (13 * (I 173 x10.toNatClampNeg))) + 2)).toNatClampNeg)), .long x8] (t, T, I, L, P) _
    refine hf_i2l dX12_truest_127 ?_
    refine hf_lmul dX12_truest_128 ?_
    refine hf_lstore (l2 := [some (.ref 156), some (.int x1), some (.int x2), some (.long x3), none, some (.long x5), none, some (.int x7), some (.long (x8 * (I 158 ((((53 + (13 * (I 173 x10.toNatClampNeg))) + 2)).toNatClampNeg)).toInt64)), none, some (.int x10)]) dX12_truest_129 (by decide) rfl ?_
    refine hf_iinc (v := (x10 + 1)) (l2 := [some (.ref 156), some (.int x1), some (.int x2), some (.long x3), none, some (.long x5), none, some (.int x7), some (.long (x8 * (I 158 ((((53 + (13 * (I 173 x10.toNatClampNeg))) + 2)).toNatClampNeg)).toInt64)), none, some (.int (x10 + 1))]) dX12_truest_131 (by decide) rfl rfl rfl ?_
    refine hf_goto (tgt := 104) dX12_truest_134 (by decide) ?_
    exact h

set_option maxHeartbeats 4000000 in
theorem w_X12_narrowestOf_0 {X : hf_X} {d k n t : Nat} {T : hf_T} {I : hf_I} {L : hf_L} {P : hf_P} {Q : Option Value → hf_M → Prop} {x1 : Int32} (hs : hf_Lay t T P) (h : hf_G X Y_X12_narrowestOf d k n 4 [some (.ref 156), some (.int x1), some (.int (-1)), some (.int 0)] [] (t, T, I, L, P) Q) : hf_G X Y_X12_narrowestOf d k n 0 (hf_en [.ref 156, .int x1] 4) [] (t, T, I, L, P) Q := by
  show hf_G X Y_X12_narrowestOf d k n 0 [some (.ref 156), some (.int x1), none, none] [] (t, T, I, L, P) Q
  refine hf_iconst (v := (-1)) dX12_narrowestOf_0 (by decide) ?_
  refine hf_istore_n (l2 := [some (.ref 156), some (.int x1), some (.int (-1)), none]) dX12_narrowestOf_1 rfl (by decide) rfl ?_
  refine hf_iconst (v := 0) dX12_narrowestOf_2 (by decide) ?_
  refine hf_istore_n (l2 := [some (.ref 156), some (.int x1), some (.int (-1)), some (.int 0)]) dX12_narrowestOf_3 rfl (by decide) rfl ?_
  exact h

set_option maxHeartbeats 4000000 in
theorem w_X12_narrowestOf_4 {X : hf_X} {d k n t : Nat} {T : hf_T} {I : hf_I} {L : hf_L} {P : hf_P} {Q : Option Value → hf_M → Prop} {x1 : Int32} {x2 : Int32} {x3 : Int32} (hs : hf_Lay t T P) (h : ((I 158 316) ≤ x3 → Q (some (.int x2)) (t, T, I, L, P)) ∧ (¬ ((I 158 316) ≤ x3) → vp_in ((53 + (13 * x3)) + 0) 5929 ∧ ((¬ (I 158 ((((53 + (13 * x3)) + 0)).toNatClampNeg)) = x1 → hf_G X Y_X12_narrowestOf (d + 1) k n 4 [some (.ref 156), some (.int x1), some (.int x2), some (.int (x3 + 1))] [] (t, T, I, L, P) Q) ∧ ((I 158 ((((53 + (13 * x3)) + 0)).toNatClampNeg)) = x1 → hf_G X Y_X12_isBarred d 0 0 0 (hf_en [.ref 156, .int x3, .int (I 158 315)] 3) [] (t, T, I, L, P) (fun r M => hf_G X Y_X12_narrowestOf (d + 1) k n 39 [some (.ref 156), some (.int x1), some (.int x2), some (.int x3)] (r.toList ++ []) M Q))))) : hf_G X Y_X12_narrowestOf (d + 1) k n 4 [some (.ref 156), some (.int x1), some (.int x2), some (.int x3)] [] (t, T, I, L, P) Q := by
  refine hf_iload_n dX12_narrowestOf_4 rfl rfl ?_
  refine hf_aload_n dX12_narrowestOf_5 rfl rfl ?_
  refine hf_getr (b := 158) (c := 12) (j := 2) dX12_narrowestOf_6 (hs.2.1 156 _ rfl) (hf_lin hs 156 rfl) (by decide) (by decide) hw1038 rfl (hs.2.2 156 2 _ rfl) ?_
  refine hf_sipush (v := 316) dX12_narrowestOf_9 (by decide) ?_
  refine hf_iald_k (j := 316) (by decide) dX12_narrowestOf_12 (hs.2.1 158 _ rfl) (hf_lin hs 158 rfl) (hf_vin (by decide)) ?_
  refine hf_icmp_ge (tgt := 84) dX12_narrowestOf_13 (by decide) (fun hc => ?_) (fun hc => ?_)
  · replace h := h.1 hc
    refine hf_iload_n dX12_narrowestOf_84 rfl rfl ?_
    refine hf_ireturn dX12_narrowestOf_85 rfl rfl ?_
    exact h
  · replace h := h.2 hc
    refine hf_aload_n dX12_narrowestOf_16 rfl rfl ?_
    refine hf_iload_n dX12_narrowestOf_17 rfl rfl ?_
    refine hf_iconst (v := 0) dX12_narrowestOf_18 (by decide) ?_
    refine hf_callV (c := 12) (as := [.int x3, .int 0]) ok_X12_fact dX12_narrowestOf_19 hw1189 hw1190 hw1606 (hs.2.1 156 _ rfl) (by decide) (hf_lin hs 156 rfl) rfl (Nat.le_of_ble_eq_true rfl) rfl (Nat.le_of_ble_eq_true rfl) (Nat.zero_le _) (Nat.zero_le _) ?_
    show hf_G X Y_X12_fact d _ _ 0 [some (.ref 156), some (.int x3), some (.int 0)] [] (t, T, I, L, P) _
    refine hf_aload_n dX12_fact_0 rfl rfl ?_
    refine hf_getr (b := 158) (c := 12) (j := 2) dX12_fact_1 (hs.2.1 156 _ rfl) (hf_lin hs 156 rfl) (by decide) (by decide) hw1038 rfl (hs.2.2 156 2 _ rfl) ?_
    refine hf_bipush (v := 53) dX12_fact_4 (by decide) ?_
    refine hf_bipush (v := 13) dX12_fact_6 (by decide) ?_
    refine hf_iload_n dX12_fact_8 rfl rfl ?_
    refine hf_imul dX12_fact_9 ?_
    refine hf_iadd dX12_fact_10 ?_
    refine hf_iload_n dX12_fact_11 rfl rfl ?_
    refine hf_iadd dX12_fact_12 ?_
    refine hf_iald dX12_fact_13 (hs.2.1 158 _ rfl) (hf_lin hs 158 rfl) h.1 ?_
    replace h := h.2
    refine hf_ireturn dX12_fact_14 rfl rfl ?_
    show hf_G X Y_X12_narrowestOf (d + 1) _ _ 22 [some (.ref 156), some (.int x1), some (.int x2), some (.int x3)] [.int (I 158 ((((53 + (13 * x3)) + 0)).toNatClampNeg))] (t, T, I, L, P) _
    refine hf_iload_n dX12_narrowestOf_22 rfl rfl ?_
    refine hf_icmp_ne (tgt := 78) dX12_narrowestOf_23 (by decide) (fun hc => ?_) (fun hc => ?_)
    · replace h := h.1 hc
      refine hf_iinc (v := (x3 + 1)) (l2 := [some (.ref 156), some (.int x1), some (.int x2), some (.int (x3 + 1))]) dX12_narrowestOf_78 (by decide) rfl rfl rfl ?_
      refine hf_goto (tgt := 4) dX12_narrowestOf_81 (by decide) ?_
      exact h
    · replace h := h.2 hc
      refine hf_aload_n dX12_narrowestOf_26 rfl rfl ?_
      refine hf_iload_n dX12_narrowestOf_27 rfl rfl ?_
      refine hf_aload_n dX12_narrowestOf_28 rfl rfl ?_
      refine hf_getr (b := 158) (c := 12) (j := 2) dX12_narrowestOf_29 (hs.2.1 156 _ rfl) (hf_lin hs 156 rfl) (by decide) (by decide) hw1038 rfl (hs.2.2 156 2 _ rfl) ?_
      refine hf_sipush (v := 315) dX12_narrowestOf_32 (by decide) ?_
      refine hf_iald_k (j := 315) (by decide) dX12_narrowestOf_35 (hs.2.1 158 _ rfl) (hf_lin hs 158 rfl) (hf_vin (by decide)) ?_
      exact hf_callV (c := 12) (as := [.int x3, .int (I 158 315)]) ok_X12_isBarred dX12_narrowestOf_36 hw1256 hw1257 hw1625 (hs.2.1 156 _ rfl) (by decide) (hf_lin hs 156 rfl) rfl (Nat.le_of_ble_eq_true rfl) rfl (Nat.le_of_ble_eq_true rfl) (Nat.zero_le _) (Nat.zero_le _) h

set_option maxHeartbeats 4000000 in
theorem w_X12_narrowestOf_39 {X : hf_X} {d k n t : Nat} {T : hf_T} {I : hf_I} {L : hf_L} {P : hf_P} {Q : Option Value → hf_M → Prop} {x1 : Int32} {x2 : Int32} {x3 : Int32} {s0 : Int32} (hs : hf_Lay t T P) (h : (¬ s0 = 0 → hf_G X Y_X12_narrowestOf (d + 1) k n 4 [some (.ref 156), some (.int x1), some (.int x2), some (.int (x3 + 1))] [] (t, T, I, L, P) Q) ∧ (s0 = 0 → (x2 = (-1) → hf_G X Y_X12_narrowestOf (d + 1) k n 4 [some (.ref 156), some (.int x1), some (.int x3), some (.int (x3 + 1))] [] (t, T, I, L, P) Q) ∧ (¬ (x2 = (-1)) → hf_G X Y_X12_broadOf d 0 0 0 (hf_en [.ref 156, .int x3, .int (I 158 315)] 5) [] (t, T, I, L, P) (fun r M => hf_G X Y_X12_narrowestOf (d + 1) k n 60 [some (.ref 156), some (.int x1), some (.int x2), some (.int x3)] (r.toList ++ []) M Q)))) : hf_G X Y_X12_narrowestOf (d + 1) k n 39 [some (.ref 156), some (.int x1), some (.int x2), some (.int x3)] [.int s0] (t, T, I, L, P) Q := by
  refine hf_if_ne (tgt := 78) dX12_narrowestOf_39 (by decide) (fun hc => ?_) (fun hc => ?_)
  · replace h := h.1 hc
    refine hf_iinc (v := (x3 + 1)) (l2 := [some (.ref 156), some (.int x1), some (.int x2), some (.int (x3 + 1))]) dX12_narrowestOf_78 (by decide) rfl rfl rfl ?_
    refine hf_goto (tgt := 4) dX12_narrowestOf_81 (by decide) ?_
    exact h
  · replace h := h.2 hc
    refine hf_iload_n dX12_narrowestOf_42 rfl rfl ?_
    refine hf_iconst (v := (-1)) dX12_narrowestOf_43 (by decide) ?_
    refine hf_icmp_eq (tgt := 76) dX12_narrowestOf_44 (by decide) (fun hc => ?_) (fun hc => ?_)
    · replace h := h.1 hc
      refine hf_iload_n dX12_narrowestOf_76 rfl rfl ?_
      refine hf_istore_n (l2 := [some (.ref 156), some (.int x1), some (.int x3), some (.int x3)]) dX12_narrowestOf_77 rfl (by decide) rfl ?_
      refine hf_iinc (v := (x3 + 1)) (l2 := [some (.ref 156), some (.int x1), some (.int x3), some (.int (x3 + 1))]) dX12_narrowestOf_78 (by decide) rfl rfl rfl ?_
      refine hf_goto (tgt := 4) dX12_narrowestOf_81 (by decide) ?_
      exact h
    · replace h := h.2 hc
      refine hf_aload_n dX12_narrowestOf_47 rfl rfl ?_
      refine hf_iload_n dX12_narrowestOf_48 rfl rfl ?_
      refine hf_aload_n dX12_narrowestOf_49 rfl rfl ?_
      refine hf_getr (b := 158) (c := 12) (j := 2) dX12_narrowestOf_50 (hs.2.1 156 _ rfl) (hf_lin hs 156 rfl) (by decide) (by decide) hw1038 rfl (hs.2.2 156 2 _ rfl) ?_
      refine hf_sipush (v := 315) dX12_narrowestOf_53 (by decide) ?_
      refine hf_iald_k (j := 315) (by decide) dX12_narrowestOf_56 (hs.2.1 158 _ rfl) (hf_lin hs 158 rfl) (hf_vin (by decide)) ?_
      exact hf_callV (c := 12) (as := [.int x3, .int (I 158 315)]) ok_X12_broadOf dX12_narrowestOf_57 hw1199 hw1200 hw1608 (hs.2.1 156 _ rfl) (by decide) (hf_lin hs 156 rfl) rfl (Nat.le_of_ble_eq_true rfl) rfl (Nat.le_of_ble_eq_true rfl) (Nat.zero_le _) (Nat.zero_le _) h

set_option maxHeartbeats 4000000 in
theorem w_X12_narrowestOf_60 {X : hf_X} {d k n t : Nat} {T : hf_T} {I : hf_I} {L : hf_L} {P : hf_P} {Q : Option Value → hf_M → Prop} {x1 : Int32} {x2 : Int32} {x3 : Int32} {s0 : Int32} (hs : hf_Lay t T P) (h : hf_G X Y_X12_broadOf d 0 0 0 (hf_en [.ref 156, .int x2, .int (I 158 315)] 5) [] (t, T, I, L, P) (fun r M => hf_G X Y_X12_narrowestOf (d + 1) k n 73 [some (.ref 156), some (.int x1), some (.int x2), some (.int x3)] (r.toList ++ [.int s0]) M Q)) : hf_G X Y_X12_narrowestOf (d + 1) k n 60 [some (.ref 156), some (.int x1), some (.int x2), some (.int x3)] [.int s0] (t, T, I, L, P) Q := by
  refine hf_aload_n dX12_narrowestOf_60 rfl rfl ?_
  refine hf_iload_n dX12_narrowestOf_61 rfl rfl ?_
  refine hf_aload_n dX12_narrowestOf_62 rfl rfl ?_
  refine hf_getr (b := 158) (c := 12) (j := 2) dX12_narrowestOf_63 (hs.2.1 156 _ rfl) (hf_lin hs 156 rfl) (by decide) (by decide) hw1038 rfl (hs.2.2 156 2 _ rfl) ?_
  refine hf_sipush (v := 315) dX12_narrowestOf_66 (by decide) ?_
  refine hf_iald_k (j := 315) (by decide) dX12_narrowestOf_69 (hs.2.1 158 _ rfl) (hf_lin hs 158 rfl) (hf_vin (by decide)) ?_
  exact hf_callV (c := 12) (as := [.int x2, .int (I 158 315)]) ok_X12_broadOf dX12_narrowestOf_70 hw1199 hw1200 hw1608 (hs.2.1 156 _ rfl) (by decide) (hf_lin hs 156 rfl) rfl (Nat.le_of_ble_eq_true rfl) rfl (Nat.le_of_ble_eq_true rfl) (Nat.zero_le _) (Nat.zero_le _) h

set_option maxHeartbeats 4000000 in
theorem w_X12_narrowestOf_73 {X : hf_X} {d k n t : Nat} {T : hf_T} {I : hf_I} {L : hf_L} {P : hf_P} {Q : Option Value → hf_M → Prop} {x1 : Int32} {x2 : Int32} {x3 : Int32} {s0 : Int32} {s1 : Int32} (hs : hf_Lay t T P) (h : (s0 ≤ s1 → hf_G X Y_X12_narrowestOf d k n 4 [some (.ref 156), some (.int x1), some (.int x2), some (.int (x3 + 1))] [] (t, T, I, L, P) Q) ∧ (¬ (s0 ≤ s1) → hf_G X Y_X12_narrowestOf d k n 4 [some (.ref 156), some (.int x1), some (.int x3), some (.int (x3 + 1))] [] (t, T, I, L, P) Q)) : hf_G X Y_X12_narrowestOf d k n 73 [some (.ref 156), some (.int x1), some (.int x2), some (.int x3)] [.int s0, .int s1] (t, T, I, L, P) Q := by
  refine hf_icmp_ge (tgt := 78) dX12_narrowestOf_73 (by decide) (fun hc => ?_) (fun hc => ?_)
  · replace h := h.1 hc
    refine hf_iinc (v := (x3 + 1)) (l2 := [some (.ref 156), some (.int x1), some (.int x2), some (.int (x3 + 1))]) dX12_narrowestOf_78 (by decide) rfl rfl rfl ?_
    refine hf_goto (tgt := 4) dX12_narrowestOf_81 (by decide) ?_
    exact h
  · replace h := h.2 hc
    refine hf_iload_n dX12_narrowestOf_76 rfl rfl ?_
    refine hf_istore_n (l2 := [some (.ref 156), some (.int x1), some (.int x3), some (.int x3)]) dX12_narrowestOf_77 rfl (by decide) rfl ?_
    refine hf_iinc (v := (x3 + 1)) (l2 := [some (.ref 156), some (.int x1), some (.int x3), some (.int (x3 + 1))]) dX12_narrowestOf_78 (by decide) rfl rfl rfl ?_
    refine hf_goto (tgt := 4) dX12_narrowestOf_81 (by decide) ?_
    exact h
