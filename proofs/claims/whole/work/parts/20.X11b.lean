set_option maxHeartbeats 4000000 in
theorem w_X11_turn_0 {X : hf_X} {d k n t : Nat} {T : hf_T} {I : hf_I} {L : hf_L} {P : hf_P} {Q : Option Value → hf_M → Prop}  (hs : hf_Lay t T P) (h : hf_G X Y_X11_turnLine d 0 0 0 (hf_en [.ref 100] 2) [] (t, T, I, L, P) (fun r M => hf_G X Y_X11_turn (d + 1) k n 5 [none] (r.toList ++ [.ref 100]) M Q)) : hf_G X Y_X11_turn (d + 1) k n 0 (hf_en [.ref 100] 1) [] (t, T, I, L, P) Q := by
  show hf_G X Y_X11_turn (d + 1) k n 0 [some (.ref 100)] [] (t, T, I, L, P) Q
  refine hf_aload_n dX11_turn_0 rfl rfl ?_
  refine hf_aload_n dX11_turn_1 rfl rfl ?_
  exact hf_callV (c := 11) (as := []) ok_X11_turnLine dX11_turn_2 hw713 hw714 hw1584 (hs.2.1 100 _ rfl) (by decide) (hf_lin hs 100 rfl) rfl (Nat.le_of_ble_eq_true rfl) rfl (Nat.le_of_ble_eq_true rfl) (Nat.zero_le _) (Nat.zero_le _) (hf_mono (fun r M q => hf_drop (l' := [none]) (by simp [hf_sub]) q) h)

set_option maxHeartbeats 4000000 in
theorem w_X11_turn_5 {X : hf_X} {d k n t : Nat} {T : hf_T} {I : hf_I} {L : hf_L} {P : hf_P} {Q : Option Value → hf_M → Prop} {s0 : Int32} (hs : hf_Lay t T P) (h : (0 ≤ s0 → Q (some (.int s0)) (t, T, (hf_up (hf_up I 100 15 0) 100 16 ((I 100 16) + 1)), L, P)) ∧ (¬ (0 ≤ s0) → (s0 = (-6) → Q (some (.int s0)) (t, T, (hf_up (hf_up I 100 15 s0) 155 4 ((I 155 4) + 1)), L, P)) ∧ (s0 = (-5) → Q (some (.int s0)) (t, T, (hf_up (hf_up I 100 15 s0) 155 3 ((I 155 3) + 1)), L, P)) ∧ (s0 = (-4) → Q (some (.int s0)) (t, T, (hf_up (hf_up I 100 15 s0) 155 0 ((I 155 0) + 1)), L, P)) ∧ (s0 = (-3) → Q (some (.int s0)) (t, T, (hf_up (hf_up I 100 15 s0) 155 2 ((I 155 2) + 1)), L, P)) ∧ (s0 = (-2) → Q (some (.int s0)) (t, T, (hf_up (hf_up I 100 15 s0) 155 1 ((I 155 1) + 1)), L, P)) ∧ (s0.toInt < (-6) ∨ (-2) < s0.toInt → Q (some (.int s0)) (t, T, (hf_up (hf_up I 100 15 s0) 155 0 ((I 155 0) + 1)), L, P)))) : hf_G X Y_X11_turn (d + 3) k n 5 [none] [.int s0, .ref 100] (t, T, I, L, P) Q := by
  refine hf_callV (c := 11) (as := [.int s0]) ok_X11_answered dX11_turn_5 hw432 hw433 hw1556 (hs.2.1 100 _ rfl) (by decide) (hf_lin hs 100 rfl) rfl (Nat.le_of_ble_eq_true rfl) rfl (Nat.le_of_ble_eq_true rfl) (Nat.zero_le _) (Nat.zero_le _) ?_
  show hf_G X Y_X11_answered (d + 2) _ _ 0 [some (.ref 100), some (.int s0)] [] (t, T, I, L, P) _
  refine hf_iload_n dX11_answered_0 rfl rfl ?_
  refine hf_if_ge (tgt := 12) dX11_answered_1 (by decide) (fun hc => ?_) (fun hc => ?_)
  · replace h := h.1 hc
    refine hf_aload_n dX11_answered_12 rfl rfl ?_
    refine hf_iload_n dX11_answered_13 rfl rfl ?_
    refine hf_callV (c := 11) (as := [.int s0]) ok_X11_granted dX11_answered_14 hw418 hw419 hw1554 (hs.2.1 100 _ rfl) (by decide) (hf_lin hs 100 rfl) rfl (Nat.le_of_ble_eq_true rfl) rfl (Nat.le_of_ble_eq_true rfl) (Nat.zero_le _) (Nat.zero_le _) ?_
    show hf_G X Y_X11_granted (d + 1) _ _ 0 [some (.ref 100), some (.int s0)] [] (t, T, I, L, P) _
    refine hf_aload_n dX11_granted_0 rfl rfl ?_
    refine hf_iconst (v := 0) dX11_granted_1 (by decide) ?_
    refine hf_puti (c := 11) (j := 15) dX11_granted_2 (hs.2.1 100 _ rfl) (hf_lin hs 100 rfl) (by decide) (by decide) hw381 rfl rfl ?_
    refine hf_aload_n dX11_granted_5 rfl rfl ?_
    refine hf_dup dX11_granted_6 rfl ?_
    refine hf_geti (c := 11) (j := 16) dX11_granted_7 (hs.2.1 100 _ rfl) (hf_lin hs 100 rfl) (by decide) (by decide) hw382 (Or.inl rfl) ?_
    refine hf_iconst (v := 1) dX11_granted_10 (by decide) ?_
    refine hf_iadd dX11_granted_11 ?_
    refine hf_puti (c := 11) (j := 16) dX11_granted_12 (hs.2.1 100 _ rfl) (hf_lin hs 100 rfl) (by decide) (by decide) hw382 rfl rfl ?_
    refine hf_iload_n dX11_granted_15 rfl rfl ?_
    refine hf_ireturn dX11_granted_16 rfl rfl ?_
    show hf_G X Y_X11_answered (d + 2) _ _ 17 [some (.ref 100), some (.int s0)] [.int s0] (t, T, (hf_up (hf_up I 100 15 0) 100 16 ((I 100 16) + 1)), L, P) _
    refine hf_ireturn dX11_answered_17 rfl rfl ?_
    show hf_G X Y_X11_turn (d + 3) _ _ 8 [none] [.int s0] (t, T, (hf_up (hf_up I 100 15 0) 100 16 ((I 100 16) + 1)), L, P) _
    refine hf_ireturn dX11_turn_8 rfl rfl ?_
    exact h
  · replace h := h.2 hc
    refine hf_aload_n dX11_answered_4 rfl rfl ?_
    refine hf_iload_n dX11_answered_5 rfl rfl ?_
    refine hf_callV (c := 11) (as := [.int s0]) ok_X11_refuse dX11_answered_6 hw408 hw409 hw1553 (hs.2.1 100 _ rfl) (by decide) (hf_lin hs 100 rfl) rfl (Nat.le_of_ble_eq_true rfl) rfl (Nat.le_of_ble_eq_true rfl) (Nat.zero_le _) (Nat.zero_le _) ?_
    show hf_G X Y_X11_refuse (d + 1) _ _ 0 [some (.ref 100), some (.int s0)] [] (t, T, I, L, P) _
    refine hf_aload_n dX11_refuse_0 rfl rfl ?_
    refine hf_iload_n dX11_refuse_1 rfl rfl ?_
    refine hf_puti (c := 11) (j := 15) dX11_refuse_2 (hs.2.1 100 _ rfl) (hf_lin hs 100 rfl) (by decide) (by decide) hw381 rfl rfl ?_
    refine hf_aload_n dX11_refuse_5 rfl rfl ?_
    refine hf_getr (b := 155) (c := 11) (j := 12) dX11_refuse_6 (hs.2.1 100 _ rfl) (hf_lin hs 100 rfl) (by decide) (by decide) hw377 rfl (hs.2.2 100 12 _ rfl) ?_
    refine hf_iload_n dX11_refuse_9 rfl rfl ?_
    refine hf_callS (as := [.int s0]) ok_X11_refusalPlace dX11_refuse_10 hw411 hw412 rfl (Nat.le_of_ble_eq_true rfl) rfl (Nat.le_of_ble_eq_true rfl) (Nat.zero_le _) (Nat.zero_le _) ?_
    show hf_G X Y_X11_refusalPlace d _ _ 0 [some (.int s0)] [] (t, T, (hf_up I 100 15 s0), L, P) _
    refine hf_iload_n dX11_refusalPlace_0 rfl rfl ?_
    rcases hf_swc s0 (-6) 4 with hq | ⟨j, hj, hq⟩
    · refine hf_tableOut (tgt := 44) dX11_refusalPlace_1 (by omega) (by decide) ?_
      replace h := h.2.2.2.2.2 (by omega)
      refine hf_iconst (v := 0) dX11_refusalPlace_44 (by decide) ?_
      refine hf_ireturn dX11_refusalPlace_45 rfl rfl ?_
      show hf_G X Y_X11_refuse (d + 1) _ _ 13 [some (.ref 100), some (.int s0)] [.int 0, .ref 155] (t, T, (hf_up I 100 15 s0), L, P) _
      refine hf_dup2 dX11_refuse_13 rfl rfl ?_
      refine hf_iald_k (j := 0) (by decide) dX11_refuse_14 (hs.2.1 155 _ rfl) (hf_lin hs 155 rfl) (hf_vin (by decide)) ?_
      refine hf_iconst (v := 1) dX11_refuse_15 (by decide) ?_
      refine hf_iadd dX11_refuse_16 ?_
      refine hf_iast_k (j := 0) (by decide) dX11_refuse_17 (hs.2.1 155 _ rfl) (hf_lin hs 155 rfl) (hf_vin (by decide)) ?_
      refine hf_iload_n dX11_refuse_18 rfl rfl ?_
      refine hf_ireturn dX11_refuse_19 rfl rfl ?_
      show hf_G X Y_X11_answered (d + 2) _ _ 9 [some (.ref 100), some (.int s0)] [.int s0] (t, T, (hf_up (hf_up I 100 15 s0) 155 0 ((I 155 0) + 1)), L, P) _
      refine hf_goto (tgt := 17) dX11_answered_9 (by decide) ?_
      refine hf_ireturn dX11_answered_17 rfl rfl ?_
      show hf_G X Y_X11_turn (d + 3) _ _ 8 [none] [.int s0] (t, T, (hf_up (hf_up I 100 15 s0) 155 0 ((I 155 0) + 1)), L, P) _
      refine hf_ireturn dX11_turn_8 rfl rfl ?_
      exact h
    · match j, hj with
      | 0, _ =>
        have hx : s0 = (-6) := hf_swi hq (by decide)
        refine hf_tableIn (off := 41) (tgt := 42) dX11_refusalPlace_1 (by rw [hx]; decide) (by rw [hx]; decide) (by rw [hx]; rfl) (by decide) ?_
        replace h := h.1 hx
        refine hf_iconst (v := 4) dX11_refusalPlace_42 (by decide) ?_
        refine hf_ireturn dX11_refusalPlace_43 rfl rfl ?_
        show hf_G X Y_X11_refuse (d + 1) _ _ 13 [some (.ref 100), some (.int s0)] [.int 4, .ref 155] (t, T, (hf_up I 100 15 s0), L, P) _
        refine hf_dup2 dX11_refuse_13 rfl rfl ?_
        refine hf_iald_k (j := 4) (by decide) dX11_refuse_14 (hs.2.1 155 _ rfl) (hf_lin hs 155 rfl) (hf_vin (by decide)) ?_
        refine hf_iconst (v := 1) dX11_refuse_15 (by decide) ?_
        refine hf_iadd dX11_refuse_16 ?_
        refine hf_iast_k (j := 4) (by decide) dX11_refuse_17 (hs.2.1 155 _ rfl) (hf_lin hs 155 rfl) (hf_vin (by decide)) ?_
        refine hf_iload_n dX11_refuse_18 rfl rfl ?_
        refine hf_ireturn dX11_refuse_19 rfl rfl ?_
        show hf_G X Y_X11_answered (d + 2) _ _ 9 [some (.ref 100), some (.int s0)] [.int s0] (t, T, (hf_up (hf_up I 100 15 s0) 155 4 ((I 155 4) + 1)), L, P) _
        refine hf_goto (tgt := 17) dX11_answered_9 (by decide) ?_
        refine hf_ireturn dX11_answered_17 rfl rfl ?_
        show hf_G X Y_X11_turn (d + 3) _ _ 8 [none] [.int s0] (t, T, (hf_up (hf_up I 100 15 s0) 155 4 ((I 155 4) + 1)), L, P) _
        refine hf_ireturn dX11_turn_8 rfl rfl ?_
        exact h
      | 1, _ =>
        have hx : s0 = (-5) := hf_swi hq (by decide)
        refine hf_tableIn (off := 39) (tgt := 40) dX11_refusalPlace_1 (by rw [hx]; decide) (by rw [hx]; decide) (by rw [hx]; rfl) (by decide) ?_
        replace h := h.2.1 hx
        refine hf_iconst (v := 3) dX11_refusalPlace_40 (by decide) ?_
        refine hf_ireturn dX11_refusalPlace_41 rfl rfl ?_
        show hf_G X Y_X11_refuse (d + 1) _ _ 13 [some (.ref 100), some (.int s0)] [.int 3, .ref 155] (t, T, (hf_up I 100 15 s0), L, P) _
        refine hf_dup2 dX11_refuse_13 rfl rfl ?_
        refine hf_iald_k (j := 3) (by decide) dX11_refuse_14 (hs.2.1 155 _ rfl) (hf_lin hs 155 rfl) (hf_vin (by decide)) ?_
        refine hf_iconst (v := 1) dX11_refuse_15 (by decide) ?_
        refine hf_iadd dX11_refuse_16 ?_
        refine hf_iast_k (j := 3) (by decide) dX11_refuse_17 (hs.2.1 155 _ rfl) (hf_lin hs 155 rfl) (hf_vin (by decide)) ?_
        refine hf_iload_n dX11_refuse_18 rfl rfl ?_
        refine hf_ireturn dX11_refuse_19 rfl rfl ?_
        show hf_G X Y_X11_answered (d + 2) _ _ 9 [some (.ref 100), some (.int s0)] [.int s0] (t, T, (hf_up (hf_up I 100 15 s0) 155 3 ((I 155 3) + 1)), L, P) _
        refine hf_goto (tgt := 17) dX11_answered_9 (by decide) ?_
        refine hf_ireturn dX11_answered_17 rfl rfl ?_
        show hf_G X Y_X11_turn (d + 3) _ _ 8 [none] [.int s0] (t, T, (hf_up (hf_up I 100 15 s0) 155 3 ((I 155 3) + 1)), L, P) _
        refine hf_ireturn dX11_turn_8 rfl rfl ?_
        exact h
      | 2, _ =>
        have hx : s0 = (-4) := hf_swi hq (by decide)
        refine hf_tableIn (off := 43) (tgt := 44) dX11_refusalPlace_1 (by rw [hx]; decide) (by rw [hx]; decide) (by rw [hx]; rfl) (by decide) ?_
        replace h := h.2.2.1 hx
        refine hf_iconst (v := 0) dX11_refusalPlace_44 (by decide) ?_
        refine hf_ireturn dX11_refusalPlace_45 rfl rfl ?_
        show hf_G X Y_X11_refuse (d + 1) _ _ 13 [some (.ref 100), some (.int s0)] [.int 0, .ref 155] (t, T, (hf_up I 100 15 s0), L, P) _
        refine hf_dup2 dX11_refuse_13 rfl rfl ?_
        refine hf_iald_k (j := 0) (by decide) dX11_refuse_14 (hs.2.1 155 _ rfl) (hf_lin hs 155 rfl) (hf_vin (by decide)) ?_
        refine hf_iconst (v := 1) dX11_refuse_15 (by decide) ?_
        refine hf_iadd dX11_refuse_16 ?_
        refine hf_iast_k (j := 0) (by decide) dX11_refuse_17 (hs.2.1 155 _ rfl) (hf_lin hs 155 rfl) (hf_vin (by decide)) ?_
        refine hf_iload_n dX11_refuse_18 rfl rfl ?_
        refine hf_ireturn dX11_refuse_19 rfl rfl ?_
        show hf_G X Y_X11_answered (d + 2) _ _ 9 [some (.ref 100), some (.int s0)] [.int s0] (t, T, (hf_up (hf_up I 100 15 s0) 155 0 ((I 155 0) + 1)), L, P) _
        refine hf_goto (tgt := 17) dX11_answered_9 (by decide) ?_
        refine hf_ireturn dX11_answered_17 rfl rfl ?_
        show hf_G X Y_X11_turn (d + 3) _ _ 8 [none] [.int s0] (t, T, (hf_up (hf_up I 100 15 s0) 155 0 ((I 155 0) + 1)), L, P) _
        refine hf_ireturn dX11_turn_8 rfl rfl ?_
        exact h
      | 3, _ =>
        have hx : s0 = (-3) := hf_swi hq (by decide)
        refine hf_tableIn (off := 37) (tgt := 38) dX11_refusalPlace_1 (by rw [hx]; decide) (by rw [hx]; decide) (by rw [hx]; rfl) (by decide) ?_
        replace h := h.2.2.2.1 hx
        refine hf_iconst (v := 2) dX11_refusalPlace_38 (by decide) ?_
        refine hf_ireturn dX11_refusalPlace_39 rfl rfl ?_
        show hf_G X Y_X11_refuse (d + 1) _ _ 13 [some (.ref 100), some (.int s0)] [.int 2, .ref 155] (t, T, (hf_up I 100 15 s0), L, P) _
        refine hf_dup2 dX11_refuse_13 rfl rfl ?_
        refine hf_iald_k (j := 2) (by decide) dX11_refuse_14 (hs.2.1 155 _ rfl) (hf_lin hs 155 rfl) (hf_vin (by decide)) ?_
        refine hf_iconst (v := 1) dX11_refuse_15 (by decide) ?_
        refine hf_iadd dX11_refuse_16 ?_
        refine hf_iast_k (j := 2) (by decide) dX11_refuse_17 (hs.2.1 155 _ rfl) (hf_lin hs 155 rfl) (hf_vin (by decide)) ?_
        refine hf_iload_n dX11_refuse_18 rfl rfl ?_
        refine hf_ireturn dX11_refuse_19 rfl rfl ?_
        show hf_G X Y_X11_answered (d + 2) _ _ 9 [some (.ref 100), some (.int s0)] [.int s0] (t, T, (hf_up (hf_up I 100 15 s0) 155 2 ((I 155 2) + 1)), L, P) _
        refine hf_goto (tgt := 17) dX11_answered_9 (by decide) ?_
        refine hf_ireturn dX11_answered_17 rfl rfl ?_
        show hf_G X Y_X11_turn (d + 3) _ _ 8 [none] [.int s0] (t, T, (hf_up (hf_up I 100 15 s0) 155 2 ((I 155 2) + 1)), L, P) _
        refine hf_ireturn dX11_turn_8 rfl rfl ?_
        exact h
      | 4, _ =>
        have hx : s0 = (-2) := hf_swi hq (by decide)
        refine hf_tableIn (off := 35) (tgt := 36) dX11_refusalPlace_1 (by rw [hx]; decide) (by rw [hx]; decide) (by rw [hx]; rfl) (by decide) ?_
        replace h := h.2.2.2.2.1 hx
        refine hf_iconst (v := 1) dX11_refusalPlace_36 (by decide) ?_
        refine hf_ireturn dX11_refusalPlace_37 rfl rfl ?_
        show hf_G X Y_X11_refuse (d + 1) _ _ 13 [some (.ref 100), some (.int s0)] [.int 1, .ref 155] (t, T, (hf_up I 100 15 s0), L, P) _
        refine hf_dup2 dX11_refuse_13 rfl rfl ?_
        refine hf_iald_k (j := 1) (by decide) dX11_refuse_14 (hs.2.1 155 _ rfl) (hf_lin hs 155 rfl) (hf_vin (by decide)) ?_
        refine hf_iconst (v := 1) dX11_refuse_15 (by decide) ?_
        refine hf_iadd dX11_refuse_16 ?_
        refine hf_iast_k (j := 1) (by decide) dX11_refuse_17 (hs.2.1 155 _ rfl) (hf_lin hs 155 rfl) (hf_vin (by decide)) ?_
        refine hf_iload_n dX11_refuse_18 rfl rfl ?_
        refine hf_ireturn dX11_refuse_19 rfl rfl ?_
        show hf_G X Y_X11_answered (d + 2) _ _ 9 [some (.ref 100), some (.int s0)] [.int s0] (t, T, (hf_up (hf_up I 100 15 s0) 155 1 ((I 155 1) + 1)), L, P) _
        refine hf_goto (tgt := 17) dX11_answered_9 (by decide) ?_
        refine hf_ireturn dX11_answered_17 rfl rfl ?_
        show hf_G X Y_X11_turn (d + 3) _ _ 8 [none] [.int s0] (t, T, (hf_up (hf_up I 100 15 s0) 155 1 ((I 155 1) + 1)), L, P) _
        refine hf_ireturn dX11_turn_8 rfl rfl ?_
        exact h
      | j + 5, hj => exact absurd hj (by omega)

set_option maxHeartbeats 4000000 in
theorem w_X11_clear_0 {X : hf_X} {d k n t : Nat} {T : hf_T} {I : hf_I} {L : hf_L} {P : hf_P} {Q : Option Value → hf_M → Prop}  (hs : hf_Lay t T P) (h : hf_G X Y_X11_emptyHead d 0 0 0 (hf_en [.ref 100] 3) [] (t, T, I, L, P) (fun r M => hf_G X Y_X11_clear (d + 1) k n 5 [none] (r.toList ++ [.ref 100]) M Q)) : hf_G X Y_X11_clear (d + 1) k n 0 (hf_en [.ref 100] 1) [] (t, T, I, L, P) Q := by
  show hf_G X Y_X11_clear (d + 1) k n 0 [some (.ref 100)] [] (t, T, I, L, P) Q
  refine hf_aload_n dX11_clear_0 rfl rfl ?_
  refine hf_aload_n dX11_clear_1 rfl rfl ?_
  exact hf_callV (c := 11) (as := []) ok_X11_emptyHead dX11_clear_2 hw716 hw717 hw1585 (hs.2.1 100 _ rfl) (by decide) (hf_lin hs 100 rfl) rfl (Nat.le_of_ble_eq_true rfl) rfl (Nat.le_of_ble_eq_true rfl) (Nat.zero_le _) (Nat.zero_le _) (hf_mono (fun r M q => hf_drop (l' := [none]) (by simp [hf_sub]) q) h)

set_option maxHeartbeats 4000000 in
theorem w_X11_clear_5 {X : hf_X} {d k n t : Nat} {T : hf_T} {I : hf_I} {L : hf_L} {P : hf_P} {Q : Option Value → hf_M → Prop} {s0 : Int32} (hs : hf_Lay t T P) (h : (0 ≤ s0 → Q (some (.int s0)) (t, T, (hf_up (hf_up I 100 15 0) 100 16 ((I 100 16) + 1)), L, P)) ∧ (¬ (0 ≤ s0) → (s0 = (-6) → Q (some (.int s0)) (t, T, (hf_up (hf_up I 100 15 s0) 155 4 ((I 155 4) + 1)), L, P)) ∧ (s0 = (-5) → Q (some (.int s0)) (t, T, (hf_up (hf_up I 100 15 s0) 155 3 ((I 155 3) + 1)), L, P)) ∧ (s0 = (-4) → Q (some (.int s0)) (t, T, (hf_up (hf_up I 100 15 s0) 155 0 ((I 155 0) + 1)), L, P)) ∧ (s0 = (-3) → Q (some (.int s0)) (t, T, (hf_up (hf_up I 100 15 s0) 155 2 ((I 155 2) + 1)), L, P)) ∧ (s0 = (-2) → Q (some (.int s0)) (t, T, (hf_up (hf_up I 100 15 s0) 155 1 ((I 155 1) + 1)), L, P)) ∧ (s0.toInt < (-6) ∨ (-2) < s0.toInt → Q (some (.int s0)) (t, T, (hf_up (hf_up I 100 15 s0) 155 0 ((I 155 0) + 1)), L, P)))) : hf_G X Y_X11_clear (d + 3) k n 5 [none] [.int s0, .ref 100] (t, T, I, L, P) Q := by
  refine hf_callV (c := 11) (as := [.int s0]) ok_X11_answered dX11_clear_5 hw432 hw433 hw1556 (hs.2.1 100 _ rfl) (by decide) (hf_lin hs 100 rfl) rfl (Nat.le_of_ble_eq_true rfl) rfl (Nat.le_of_ble_eq_true rfl) (Nat.zero_le _) (Nat.zero_le _) ?_
  show hf_G X Y_X11_answered (d + 2) _ _ 0 [some (.ref 100), some (.int s0)] [] (t, T, I, L, P) _
  refine hf_iload_n dX11_answered_0 rfl rfl ?_
  refine hf_if_ge (tgt := 12) dX11_answered_1 (by decide) (fun hc => ?_) (fun hc => ?_)
  · replace h := h.1 hc
    refine hf_aload_n dX11_answered_12 rfl rfl ?_
    refine hf_iload_n dX11_answered_13 rfl rfl ?_
    refine hf_callV (c := 11) (as := [.int s0]) ok_X11_granted dX11_answered_14 hw418 hw419 hw1554 (hs.2.1 100 _ rfl) (by decide) (hf_lin hs 100 rfl) rfl (Nat.le_of_ble_eq_true rfl) rfl (Nat.le_of_ble_eq_true rfl) (Nat.zero_le _) (Nat.zero_le _) ?_
    show hf_G X Y_X11_granted (d + 1) _ _ 0 [some (.ref 100), some (.int s0)] [] (t, T, I, L, P) _
    refine hf_aload_n dX11_granted_0 rfl rfl ?_
    refine hf_iconst (v := 0) dX11_granted_1 (by decide) ?_
    refine hf_puti (c := 11) (j := 15) dX11_granted_2 (hs.2.1 100 _ rfl) (hf_lin hs 100 rfl) (by decide) (by decide) hw381 rfl rfl ?_
    refine hf_aload_n dX11_granted_5 rfl rfl ?_
    refine hf_dup dX11_granted_6 rfl ?_
    refine hf_geti (c := 11) (j := 16) dX11_granted_7 (hs.2.1 100 _ rfl) (hf_lin hs 100 rfl) (by decide) (by decide) hw382 (Or.inl rfl) ?_
    refine hf_iconst (v := 1) dX11_granted_10 (by decide) ?_
    refine hf_iadd dX11_granted_11 ?_
    refine hf_puti (c := 11) (j := 16) dX11_granted_12 (hs.2.1 100 _ rfl) (hf_lin hs 100 rfl) (by decide) (by decide) hw382 rfl rfl ?_
    refine hf_iload_n dX11_granted_15 rfl rfl ?_
    refine hf_ireturn dX11_granted_16 rfl rfl ?_
    show hf_G X Y_X11_answered (d + 2) _ _ 17 [some (.ref 100), some (.int s0)] [.int s0] (t, T, (hf_up (hf_up I 100 15 0) 100 16 ((I 100 16) + 1)), L, P) _
    refine hf_ireturn dX11_answered_17 rfl rfl ?_
    show hf_G X Y_X11_clear (d + 3) _ _ 8 [none] [.int s0] (t, T, (hf_up (hf_up I 100 15 0) 100 16 ((I 100 16) + 1)), L, P) _
    refine hf_ireturn dX11_clear_8 rfl rfl ?_
    exact h
  · replace h := h.2 hc
    refine hf_aload_n dX11_answered_4 rfl rfl ?_
    refine hf_iload_n dX11_answered_5 rfl rfl ?_
    refine hf_callV (c := 11) (as := [.int s0]) ok_X11_refuse dX11_answered_6 hw408 hw409 hw1553 (hs.2.1 100 _ rfl) (by decide) (hf_lin hs 100 rfl) rfl (Nat.le_of_ble_eq_true rfl) rfl (Nat.le_of_ble_eq_true rfl) (Nat.zero_le _) (Nat.zero_le _) ?_
    show hf_G X Y_X11_refuse (d + 1) _ _ 0 [some (.ref 100), some (.int s0)] [] (t, T, I, L, P) _
    refine hf_aload_n dX11_refuse_0 rfl rfl ?_
    refine hf_iload_n dX11_refuse_1 rfl rfl ?_
    refine hf_puti (c := 11) (j := 15) dX11_refuse_2 (hs.2.1 100 _ rfl) (hf_lin hs 100 rfl) (by decide) (by decide) hw381 rfl rfl ?_
    refine hf_aload_n dX11_refuse_5 rfl rfl ?_
    refine hf_getr (b := 155) (c := 11) (j := 12) dX11_refuse_6 (hs.2.1 100 _ rfl) (hf_lin hs 100 rfl) (by decide) (by decide) hw377 rfl (hs.2.2 100 12 _ rfl) ?_
    refine hf_iload_n dX11_refuse_9 rfl rfl ?_
    refine hf_callS (as := [.int s0]) ok_X11_refusalPlace dX11_refuse_10 hw411 hw412 rfl (Nat.le_of_ble_eq_true rfl) rfl (Nat.le_of_ble_eq_true rfl) (Nat.zero_le _) (Nat.zero_le _) ?_
    show hf_G X Y_X11_refusalPlace d _ _ 0 [some (.int s0)] [] (t, T, (hf_up I 100 15 s0), L, P) _
    refine hf_iload_n dX11_refusalPlace_0 rfl rfl ?_
    rcases hf_swc s0 (-6) 4 with hq | ⟨j, hj, hq⟩
    · refine hf_tableOut (tgt := 44) dX11_refusalPlace_1 (by omega) (by decide) ?_
      replace h := h.2.2.2.2.2 (by omega)
      refine hf_iconst (v := 0) dX11_refusalPlace_44 (by decide) ?_
      refine hf_ireturn dX11_refusalPlace_45 rfl rfl ?_
      show hf_G X Y_X11_refuse (d + 1) _ _ 13 [some (.ref 100), some (.int s0)] [.int 0, .ref 155] (t, T, (hf_up I 100 15 s0), L, P) _
      refine hf_dup2 dX11_refuse_13 rfl rfl ?_
      refine hf_iald_k (j := 0) (by decide) dX11_refuse_14 (hs.2.1 155 _ rfl) (hf_lin hs 155 rfl) (hf_vin (by decide)) ?_
      refine hf_iconst (v := 1) dX11_refuse_15 (by decide) ?_
      refine hf_iadd dX11_refuse_16 ?_
      refine hf_iast_k (j := 0) (by decide) dX11_refuse_17 (hs.2.1 155 _ rfl) (hf_lin hs 155 rfl) (hf_vin (by decide)) ?_
      refine hf_iload_n dX11_refuse_18 rfl rfl ?_
      refine hf_ireturn dX11_refuse_19 rfl rfl ?_
      show hf_G X Y_X11_answered (d + 2) _ _ 9 [some (.ref 100), some (.int s0)] [.int s0] (t, T, (hf_up (hf_up I 100 15 s0) 155 0 ((I 155 0) + 1)), L, P) _
      refine hf_goto (tgt := 17) dX11_answered_9 (by decide) ?_
      refine hf_ireturn dX11_answered_17 rfl rfl ?_
      show hf_G X Y_X11_clear (d + 3) _ _ 8 [none] [.int s0] (t, T, (hf_up (hf_up I 100 15 s0) 155 0 ((I 155 0) + 1)), L, P) _
      refine hf_ireturn dX11_clear_8 rfl rfl ?_
      exact h
    · match j, hj with
      | 0, _ =>
        have hx : s0 = (-6) := hf_swi hq (by decide)
        refine hf_tableIn (off := 41) (tgt := 42) dX11_refusalPlace_1 (by rw [hx]; decide) (by rw [hx]; decide) (by rw [hx]; rfl) (by decide) ?_
        replace h := h.1 hx
        refine hf_iconst (v := 4) dX11_refusalPlace_42 (by decide) ?_
        refine hf_ireturn dX11_refusalPlace_43 rfl rfl ?_
        show hf_G X Y_X11_refuse (d + 1) _ _ 13 [some (.ref 100), some (.int s0)] [.int 4, .ref 155] (t, T, (hf_up I 100 15 s0), L, P) _
        refine hf_dup2 dX11_refuse_13 rfl rfl ?_
        refine hf_iald_k (j := 4) (by decide) dX11_refuse_14 (hs.2.1 155 _ rfl) (hf_lin hs 155 rfl) (hf_vin (by decide)) ?_
        refine hf_iconst (v := 1) dX11_refuse_15 (by decide) ?_
        refine hf_iadd dX11_refuse_16 ?_
        refine hf_iast_k (j := 4) (by decide) dX11_refuse_17 (hs.2.1 155 _ rfl) (hf_lin hs 155 rfl) (hf_vin (by decide)) ?_
        refine hf_iload_n dX11_refuse_18 rfl rfl ?_
        refine hf_ireturn dX11_refuse_19 rfl rfl ?_
        show hf_G X Y_X11_answered (d + 2) _ _ 9 [some (.ref 100), some (.int s0)] [.int s0] (t, T, (hf_up (hf_up I 100 15 s0) 155 4 ((I 155 4) + 1)), L, P) _
        refine hf_goto (tgt := 17) dX11_answered_9 (by decide) ?_
        refine hf_ireturn dX11_answered_17 rfl rfl ?_
        show hf_G X Y_X11_clear (d + 3) _ _ 8 [none] [.int s0] (t, T, (hf_up (hf_up I 100 15 s0) 155 4 ((I 155 4) + 1)), L, P) _
        refine hf_ireturn dX11_clear_8 rfl rfl ?_
        exact h
      | 1, _ =>
        have hx : s0 = (-5) := hf_swi hq (by decide)
        refine hf_tableIn (off := 39) (tgt := 40) dX11_refusalPlace_1 (by rw [hx]; decide) (by rw [hx]; decide) (by rw [hx]; rfl) (by decide) ?_
        replace h := h.2.1 hx
        refine hf_iconst (v := 3) dX11_refusalPlace_40 (by decide) ?_
        refine hf_ireturn dX11_refusalPlace_41 rfl rfl ?_
        show hf_G X Y_X11_refuse (d + 1) _ _ 13 [some (.ref 100), some (.int s0)] [.int 3, .ref 155] (t, T, (hf_up I 100 15 s0), L, P) _
        refine hf_dup2 dX11_refuse_13 rfl rfl ?_
        refine hf_iald_k (j := 3) (by decide) dX11_refuse_14 (hs.2.1 155 _ rfl) (hf_lin hs 155 rfl) (hf_vin (by decide)) ?_
        refine hf_iconst (v := 1) dX11_refuse_15 (by decide) ?_
        refine hf_iadd dX11_refuse_16 ?_
        refine hf_iast_k (j := 3) (by decide) dX11_refuse_17 (hs.2.1 155 _ rfl) (hf_lin hs 155 rfl) (hf_vin (by decide)) ?_
        refine hf_iload_n dX11_refuse_18 rfl rfl ?_
        refine hf_ireturn dX11_refuse_19 rfl rfl ?_
        show hf_G X Y_X11_answered (d + 2) _ _ 9 [some (.ref 100), some (.int s0)] [.int s0] (t, T, (hf_up (hf_up I 100 15 s0) 155 3 ((I 155 3) + 1)), L, P) _
        refine hf_goto (tgt := 17) dX11_answered_9 (by decide) ?_
        refine hf_ireturn dX11_answered_17 rfl rfl ?_
        show hf_G X Y_X11_clear (d + 3) _ _ 8 [none] [.int s0] (t, T, (hf_up (hf_up I 100 15 s0) 155 3 ((I 155 3) + 1)), L, P) _
        refine hf_ireturn dX11_clear_8 rfl rfl ?_
        exact h
      | 2, _ =>
        have hx : s0 = (-4) := hf_swi hq (by decide)
        refine hf_tableIn (off := 43) (tgt := 44) dX11_refusalPlace_1 (by rw [hx]; decide) (by rw [hx]; decide) (by rw [hx]; rfl) (by decide) ?_
        replace h := h.2.2.1 hx
        refine hf_iconst (v := 0) dX11_refusalPlace_44 (by decide) ?_
        refine hf_ireturn dX11_refusalPlace_45 rfl rfl ?_
        show hf_G X Y_X11_refuse (d + 1) _ _ 13 [some (.ref 100), some (.int s0)] [.int 0, .ref 155] (t, T, (hf_up I 100 15 s0), L, P) _
        refine hf_dup2 dX11_refuse_13 rfl rfl ?_
        refine hf_iald_k (j := 0) (by decide) dX11_refuse_14 (hs.2.1 155 _ rfl) (hf_lin hs 155 rfl) (hf_vin (by decide)) ?_
        refine hf_iconst (v := 1) dX11_refuse_15 (by decide) ?_
        refine hf_iadd dX11_refuse_16 ?_
        refine hf_iast_k (j := 0) (by decide) dX11_refuse_17 (hs.2.1 155 _ rfl) (hf_lin hs 155 rfl) (hf_vin (by decide)) ?_
        refine hf_iload_n dX11_refuse_18 rfl rfl ?_
        refine hf_ireturn dX11_refuse_19 rfl rfl ?_
        show hf_G X Y_X11_answered (d + 2) _ _ 9 [some (.ref 100), some (.int s0)] [.int s0] (t, T, (hf_up (hf_up I 100 15 s0) 155 0 ((I 155 0) + 1)), L, P) _
        refine hf_goto (tgt := 17) dX11_answered_9 (by decide) ?_
        refine hf_ireturn dX11_answered_17 rfl rfl ?_
        show hf_G X Y_X11_clear (d + 3) _ _ 8 [none] [.int s0] (t, T, (hf_up (hf_up I 100 15 s0) 155 0 ((I 155 0) + 1)), L, P) _
        refine hf_ireturn dX11_clear_8 rfl rfl ?_
        exact h
      | 3, _ =>
        have hx : s0 = (-3) := hf_swi hq (by decide)
        refine hf_tableIn (off := 37) (tgt := 38) dX11_refusalPlace_1 (by rw [hx]; decide) (by rw [hx]; decide) (by rw [hx]; rfl) (by decide) ?_
        replace h := h.2.2.2.1 hx
        refine hf_iconst (v := 2) dX11_refusalPlace_38 (by decide) ?_
        refine hf_ireturn dX11_refusalPlace_39 rfl rfl ?_
        show hf_G X Y_X11_refuse (d + 1) _ _ 13 [some (.ref 100), some (.int s0)] [.int 2, .ref 155] (t, T, (hf_up I 100 15 s0), L, P) _
        refine hf_dup2 dX11_refuse_13 rfl rfl ?_
        refine hf_iald_k (j := 2) (by decide) dX11_refuse_14 (hs.2.1 155 _ rfl) (hf_lin hs 155 rfl) (hf_vin (by decide)) ?_
        refine hf_iconst (v := 1) dX11_refuse_15 (by decide) ?_
        refine hf_iadd dX11_refuse_16 ?_
        refine hf_iast_k (j := 2) (by decide) dX11_refuse_17 (hs.2.1 155 _ rfl) (hf_lin hs 155 rfl) (hf_vin (by decide)) ?_
        refine hf_iload_n dX11_refuse_18 rfl rfl ?_
        refine hf_ireturn dX11_refuse_19 rfl rfl ?_
        show hf_G X Y_X11_answered (d + 2) _ _ 9 [some (.ref 100), some (.int s0)] [.int s0] (t, T, (hf_up (hf_up I 100 15 s0) 155 2 ((I 155 2) + 1)), L, P) _
        refine hf_goto (tgt := 17) dX11_answered_9 (by decide) ?_
        refine hf_ireturn dX11_answered_17 rfl rfl ?_
        show hf_G X Y_X11_clear (d + 3) _ _ 8 [none] [.int s0] (t, T, (hf_up (hf_up I 100 15 s0) 155 2 ((I 155 2) + 1)), L, P) _
        refine hf_ireturn dX11_clear_8 rfl rfl ?_
        exact h
      | 4, _ =>
        have hx : s0 = (-2) := hf_swi hq (by decide)
        refine hf_tableIn (off := 35) (tgt := 36) dX11_refusalPlace_1 (by rw [hx]; decide) (by rw [hx]; decide) (by rw [hx]; rfl) (by decide) ?_
        replace h := h.2.2.2.2.1 hx
        refine hf_iconst (v := 1) dX11_refusalPlace_36 (by decide) ?_
        refine hf_ireturn dX11_refusalPlace_37 rfl rfl ?_
        show hf_G X Y_X11_refuse (d + 1) _ _ 13 [some (.ref 100), some (.int s0)] [.int 1, .ref 155] (t, T, (hf_up I 100 15 s0), L, P) _
        refine hf_dup2 dX11_refuse_13 rfl rfl ?_
        refine hf_iald_k (j := 1) (by decide) dX11_refuse_14 (hs.2.1 155 _ rfl) (hf_lin hs 155 rfl) (hf_vin (by decide)) ?_
        refine hf_iconst (v := 1) dX11_refuse_15 (by decide) ?_
        refine hf_iadd dX11_refuse_16 ?_
        refine hf_iast_k (j := 1) (by decide) dX11_refuse_17 (hs.2.1 155 _ rfl) (hf_lin hs 155 rfl) (hf_vin (by decide)) ?_
        refine hf_iload_n dX11_refuse_18 rfl rfl ?_
        refine hf_ireturn dX11_refuse_19 rfl rfl ?_
        show hf_G X Y_X11_answered (d + 2) _ _ 9 [some (.ref 100), some (.int s0)] [.int s0] (t, T, (hf_up (hf_up I 100 15 s0) 155 1 ((I 155 1) + 1)), L, P) _
        refine hf_goto (tgt := 17) dX11_answered_9 (by decide) ?_
        refine hf_ireturn dX11_answered_17 rfl rfl ?_
        show hf_G X Y_X11_clear (d + 3) _ _ 8 [none] [.int s0] (t, T, (hf_up (hf_up I 100 15 s0) 155 1 ((I 155 1) + 1)), L, P) _
        refine hf_ireturn dX11_clear_8 rfl rfl ?_
        exact h
      | j + 5, hj => exact absurd hj (by omega)

set_option maxHeartbeats 4000000 in
theorem w_X11_head_0 {X : hf_X} {d k n t : Nat} {T : hf_T} {I : hf_I} {L : hf_L} {P : hf_P} {Q : Option Value → hf_M → Prop} {x1 : Int32} {x2 : Int32} (hs : hf_Lay t T P) (h : (x1 < 0 → Q (some (.int (-1))) (t, T, I, L, P)) ∧ (¬ (x1 < 0) → (((I 114 2) - 1) < x1 → Q (some (.int (-1))) (t, T, I, L, P)) ∧ (¬ (((I 114 2) - 1) < x1) → (¬ x2 = 0 → (¬ x2 = 1 → Q (some (.int (-1))) (t, T, I, L, P)) ∧ (x2 = 1 → vp_in x1 12 ∧ (Q (some (.int (I 116 x1.toNatClampNeg))) (t, T, I, L, P)))) ∧ (x2 = 0 → vp_in x1 12 ∧ (Q (some (.int (I 115 x1.toNatClampNeg))) (t, T, I, L, P)))))) : hf_G X Y_X11_head (d + 1) k n 0 (hf_en [.ref 100, .int x1, .int x2] 3) [] (t, T, I, L, P) Q := by
  show hf_G X Y_X11_head (d + 1) k n 0 [some (.ref 100), some (.int x1), some (.int x2)] [] (t, T, I, L, P) Q
  refine hf_iload_n dX11_head_0 rfl rfl ?_
  refine hf_iconst (v := 0) dX11_head_1 (by decide) ?_
  refine hf_aload_n dX11_head_2 rfl rfl ?_
  refine hf_getr (b := 101) (c := 11) (j := 0) dX11_head_3 (hs.2.1 100 _ rfl) (hf_lin hs 100 rfl) (by decide) (by decide) hw365 rfl (hs.2.2 100 0 _ rfl) ?_
  refine hf_getr (b := 114) (c := 1) (j := 7) dX11_head_6 (hs.2.1 101 _ rfl) (hf_lin hs 101 rfl) (by decide) (by decide) hw123 rfl (hs.2.2 101 7 _ rfl) ?_
  refine hf_geti (c := 3) (j := 2) dX11_head_9 (hs.2.1 114 _ rfl) (hf_lin hs 114 rfl) (by decide) (by decide) hw89 (Or.inl rfl) ?_
  refine hf_iconst (v := 1) dX11_head_12 (by decide) ?_
  refine hf_isub dX11_head_13 ?_
  refine hf_callS (as := [.int x1, .int 0, .int ((I 114 2) - 1)]) ok_X11_within dX11_head_14 hw405 hw406 rfl (Nat.le_of_ble_eq_true rfl) rfl (Nat.le_of_ble_eq_true rfl) (Nat.zero_le _) (Nat.zero_le _) ?_
  show hf_G X Y_X11_within d _ _ 0 [some (.int x1), some (.int 0), some (.int ((I 114 2) - 1))] [] (t, T, I, L, P) _
  refine hf_iload_n dX11_within_0 rfl rfl ?_
  refine hf_iload_n dX11_within_1 rfl rfl ?_
  refine hf_icmp_lt (tgt := 14) dX11_within_2 (by decide) (fun hc => ?_) (fun hc => ?_)
  · replace h := h.1 hc
    refine hf_iconst (v := 0) dX11_within_14 (by decide) ?_
    refine hf_ireturn dX11_within_15 rfl (by decide) ?_
    show hf_G X Y_X11_head (d + 1) _ _ 17 [some (.ref 100), some (.int x1), some (.int x2)] [.int 0] (t, T, I, L, P) _
    refine hf_if_ne (tgt := 22) dX11_head_17 (by decide) (fun hc => absurd (show ¬ (0 : Int32) = (0 : Int32) from hc) (by decide)) (fun _ => ?_)
    refine hf_iconst (v := (-1)) dX11_head_20 (by decide) ?_
    refine hf_ireturn dX11_head_21 rfl rfl ?_
    exact h
  · replace h := h.2 hc
    refine hf_iload_n dX11_within_5 rfl rfl ?_
    refine hf_iload_n dX11_within_6 rfl rfl ?_
    refine hf_icmp_gt (tgt := 14) dX11_within_7 (by decide) (fun hc => ?_) (fun hc => ?_)
    · replace h := h.1 hc
      refine hf_iconst (v := 0) dX11_within_14 (by decide) ?_
      refine hf_ireturn dX11_within_15 rfl (by decide) ?_
      show hf_G X Y_X11_head (d + 1) _ _ 17 [some (.ref 100), some (.int x1), some (.int x2)] [.int 0] (t, T, I, L, P) _
      refine hf_if_ne (tgt := 22) dX11_head_17 (by decide) (fun hc => absurd (show ¬ (0 : Int32) = (0 : Int32) from hc) (by decide)) (fun _ => ?_)
      refine hf_iconst (v := (-1)) dX11_head_20 (by decide) ?_
      refine hf_ireturn dX11_head_21 rfl rfl ?_
      exact h
    · replace h := h.2 hc
      refine hf_iconst (v := 1) dX11_within_10 (by decide) ?_
      refine hf_goto (tgt := 15) dX11_within_11 (by decide) ?_
      refine hf_ireturn dX11_within_15 rfl (by decide) ?_
      show hf_G X Y_X11_head (d + 1) _ _ 17 [some (.ref 100), some (.int x1), some (.int x2)] [.int 1] (t, T, I, L, P) _
      refine hf_if_ne (tgt := 22) dX11_head_17 (by decide) (fun _ => ?_) (fun hc => absurd (show (1 : Int32) = (0 : Int32) from hc) (by decide))
      refine hf_iload_n dX11_head_22 rfl rfl ?_
      refine hf_if_ne (tgt := 39) dX11_head_23 (by decide) (fun hc => ?_) (fun hc => ?_)
      · replace h := h.1 hc
        refine hf_iload_n dX11_head_39 rfl rfl ?_
        refine hf_iconst (v := 1) dX11_head_40 (by decide) ?_
        refine hf_icmp_ne (tgt := 59) dX11_head_41 (by decide) (fun hc => ?_) (fun hc => ?_)
        · replace h := h.1 hc
          refine hf_iconst (v := (-1)) dX11_head_59 (by decide) ?_
          refine hf_ireturn dX11_head_60 rfl rfl ?_
          exact h
        · replace h := h.2 hc
          refine hf_aload_n dX11_head_44 rfl rfl ?_
          refine hf_getr (b := 101) (c := 11) (j := 0) dX11_head_45 (hs.2.1 100 _ rfl) (hf_lin hs 100 rfl) (by decide) (by decide) hw365 rfl (hs.2.2 100 0 _ rfl) ?_
          refine hf_getr (b := 114) (c := 1) (j := 7) dX11_head_48 (hs.2.1 101 _ rfl) (hf_lin hs 101 rfl) (by decide) (by decide) hw123 rfl (hs.2.2 101 7 _ rfl) ?_
          refine hf_getr (b := 116) (c := 3) (j := 1) dX11_head_51 (hs.2.1 114 _ rfl) (hf_lin hs 114 rfl) (by decide) (by decide) hw86 rfl (hs.2.2 114 1 _ rfl) ?_
          refine hf_iload_n dX11_head_54 rfl rfl ?_
          refine hf_iald dX11_head_55 (hs.2.1 116 _ rfl) (hf_lin hs 116 rfl) h.1 ?_
          replace h := h.2
          refine hf_goto (tgt := 60) dX11_head_56 (by decide) ?_
          refine hf_ireturn dX11_head_60 rfl rfl ?_
          exact h
      · replace h := h.2 hc
        refine hf_aload_n dX11_head_26 rfl rfl ?_
        refine hf_getr (b := 101) (c := 11) (j := 0) dX11_head_27 (hs.2.1 100 _ rfl) (hf_lin hs 100 rfl) (by decide) (by decide) hw365 rfl (hs.2.2 100 0 _ rfl) ?_
        refine hf_getr (b := 114) (c := 1) (j := 7) dX11_head_30 (hs.2.1 101 _ rfl) (hf_lin hs 101 rfl) (by decide) (by decide) hw123 rfl (hs.2.2 101 7 _ rfl) ?_
        refine hf_getr (b := 115) (c := 3) (j := 0) dX11_head_33 (hs.2.1 114 _ rfl) (hf_lin hs 114 rfl) (by decide) (by decide) hw82 rfl (hs.2.2 114 0 _ rfl) ?_
        refine hf_iload_n dX11_head_36 rfl rfl ?_
        refine hf_iald dX11_head_37 (hs.2.1 115 _ rfl) (hf_lin hs 115 rfl) h.1 ?_
        replace h := h.2
        refine hf_ireturn dX11_head_38 rfl rfl ?_
        exact h

set_option maxHeartbeats 4000000 in
theorem w_X11_line_0 {X : hf_X} {d k n t : Nat} {T : hf_T} {I : hf_I} {L : hf_L} {P : hf_P} {Q : Option Value → hf_M → Prop} {x1 : Int32} {x2 : Int32} (hs : hf_Lay t T P) (h : (x1 < 0 → Q (some (.int (-1))) (t, T, I, L, P)) ∧ (¬ (x1 < 0) → (3 < x1 → Q (some (.int (-1))) (t, T, I, L, P)) ∧ (¬ (3 < x1) → (x2 = 0 → hf_G X Y_X1_lineWidth d 0 0 0 (hf_en [.ref 101, .int x1] 5) [] (t, T, I, L, P) (fun r M => hf_G X Y_X11_line (d + 1) k n 56 [none, none, none] (r.toList ++ []) M Q)) ∧ (x2 = 1 → hf_G X Y_X3_manyIn d 0 0 0 (hf_en [.ref 114, .int x1] 4) [] (t, T, I, L, P) (fun r M => hf_G X Y_X11_line (d + 1) k n 68 [none, none, none] (r.toList ++ []) M Q)) ∧ (x2 = 2 → hf_G X Y_X4_headLineCost d 0 0 0 (hf_en [.ref 135, .int x1] 4) [] (t, T, I, L, P) (fun r M => hf_G X Y_X11_line (d + 1) k n 77 [none, none, none] (r.toList ++ []) M Q)) ∧ (x2 = 3 → hf_G X Y_X1_isAlike d 0 0 0 (hf_en [.ref 101, .int x1] 4) [] (t, T, I, L, P) (fun r M => hf_G X Y_X11_line (d + 1) k n 86 [none, none, none] (r.toList ++ []) M Q)) ∧ (x2 = 4 → hf_G X Y_X1_isEcho d 0 0 0 (hf_en [.ref 101, .int x1] 3) [] (t, T, I, L, P) (fun r M => hf_G X Y_X11_line (d + 1) k n 103 [none, none, none] (r.toList ++ []) M Q)) ∧ (x2.toInt < 0 ∨ 4 < x2.toInt → Q (some (.int (-1))) (t, T, I, L, P))))) : hf_G X Y_X11_line (d + 1) k n 0 (hf_en [.ref 100, .int x1, .int x2] 3) [] (t, T, I, L, P) Q := by
  show hf_G X Y_X11_line (d + 1) k n 0 [some (.ref 100), some (.int x1), some (.int x2)] [] (t, T, I, L, P) Q
  refine hf_iload_n dX11_line_0 rfl rfl ?_
  refine hf_iconst (v := 0) dX11_line_1 (by decide) ?_
  refine hf_iconst (v := 3) dX11_line_2 (by decide) ?_
  refine hf_callS (as := [.int x1, .int 0, .int 3]) ok_X11_within dX11_line_3 hw405 hw406 rfl (Nat.le_of_ble_eq_true rfl) rfl (Nat.le_of_ble_eq_true rfl) (Nat.zero_le _) (Nat.zero_le _) ?_
  show hf_G X Y_X11_within d _ _ 0 [some (.int x1), some (.int 0), some (.int 3)] [] (t, T, I, L, P) _
  refine hf_iload_n dX11_within_0 rfl rfl ?_
  refine hf_iload_n dX11_within_1 rfl rfl ?_
  refine hf_icmp_lt (tgt := 14) dX11_within_2 (by decide) (fun hc => ?_) (fun hc => ?_)
  · replace h := h.1 hc
    refine hf_iconst (v := 0) dX11_within_14 (by decide) ?_
    refine hf_ireturn dX11_within_15 rfl (by decide) ?_
    show hf_G X Y_X11_line (d + 1) _ _ 6 [some (.ref 100), some (.int x1), some (.int x2)] [.int 0] (t, T, I, L, P) _
    refine hf_if_ne (tgt := 11) dX11_line_6 (by decide) (fun hc => absurd (show ¬ (0 : Int32) = (0 : Int32) from hc) (by decide)) (fun _ => ?_)
    refine hf_iconst (v := (-1)) dX11_line_9 (by decide) ?_
    refine hf_ireturn dX11_line_10 rfl rfl ?_
    exact h
  · replace h := h.2 hc
    refine hf_iload_n dX11_within_5 rfl rfl ?_
    refine hf_iload_n dX11_within_6 rfl rfl ?_
    refine hf_icmp_gt (tgt := 14) dX11_within_7 (by decide) (fun hc => ?_) (fun hc => ?_)
    · replace h := h.1 hc
      refine hf_iconst (v := 0) dX11_within_14 (by decide) ?_
      refine hf_ireturn dX11_within_15 rfl (by decide) ?_
      show hf_G X Y_X11_line (d + 1) _ _ 6 [some (.ref 100), some (.int x1), some (.int x2)] [.int 0] (t, T, I, L, P) _
      refine hf_if_ne (tgt := 11) dX11_line_6 (by decide) (fun hc => absurd (show ¬ (0 : Int32) = (0 : Int32) from hc) (by decide)) (fun _ => ?_)
      refine hf_iconst (v := (-1)) dX11_line_9 (by decide) ?_
      refine hf_ireturn dX11_line_10 rfl rfl ?_
      exact h
    · replace h := h.2 hc
      refine hf_iconst (v := 1) dX11_within_10 (by decide) ?_
      refine hf_goto (tgt := 15) dX11_within_11 (by decide) ?_
      refine hf_ireturn dX11_within_15 rfl (by decide) ?_
      show hf_G X Y_X11_line (d + 1) _ _ 6 [some (.ref 100), some (.int x1), some (.int x2)] [.int 1] (t, T, I, L, P) _
      refine hf_if_ne (tgt := 11) dX11_line_6 (by decide) (fun _ => ?_) (fun hc => absurd (show (1 : Int32) = (0 : Int32) from hc) (by decide))
      refine hf_iload_n dX11_line_11 rfl rfl ?_
      rcases hf_swc x2 0 4 with hq | ⟨j, hj, hq⟩
      · refine hf_tableOut (tgt := 112) dX11_line_12 (by omega) (by decide) ?_
        replace h := h.2.2.2.2.2 (by omega)
        refine hf_iconst (v := (-1)) dX11_line_112 (by decide) ?_
        refine hf_ireturn dX11_line_113 rfl rfl ?_
        exact h
      · match j, hj with
        | 0, _ =>
          have hx : x2 = 0 := hf_swi hq (by decide)
          refine hf_tableIn (off := 36) (tgt := 48) dX11_line_12 (by rw [hx]; decide) (by rw [hx]; decide) (by rw [hx]; rfl) (by decide) ?_
          replace h := h.1 hx
          refine hf_aload_n dX11_line_48 rfl rfl ?_
          refine hf_getr (b := 101) (c := 11) (j := 0) dX11_line_49 (hs.2.1 100 _ rfl) (hf_lin hs 100 rfl) (by decide) (by decide) hw365 rfl (hs.2.2 100 0 _ rfl) ?_
          refine hf_iload_n dX11_line_52 rfl rfl ?_
          exact hf_callV (c := 1) (as := [.int x1]) ok_X1_lineWidth dX11_line_53 hw687 hw688 hw689 (hs.2.1 101 _ rfl) (by decide) (hf_lin hs 101 rfl) rfl (Nat.le_of_ble_eq_true rfl) rfl (Nat.le_of_ble_eq_true rfl) (Nat.zero_le _) (Nat.zero_le _) (hf_mono (fun r M q => hf_drop (l' := [none, none, none]) (by simp [hf_sub]) q) h)
        | 1, _ =>
          have hx : x2 = 1 := hf_swi hq (by decide)
          refine hf_tableIn (off := 45) (tgt := 57) dX11_line_12 (by rw [hx]; decide) (by rw [hx]; decide) (by rw [hx]; rfl) (by decide) ?_
          replace h := h.2.1 hx
          refine hf_aload_n dX11_line_57 rfl rfl ?_
          refine hf_getr (b := 101) (c := 11) (j := 0) dX11_line_58 (hs.2.1 100 _ rfl) (hf_lin hs 100 rfl) (by decide) (by decide) hw365 rfl (hs.2.2 100 0 _ rfl) ?_
          refine hf_getr (b := 114) (c := 1) (j := 7) dX11_line_61 (hs.2.1 101 _ rfl) (hf_lin hs 101 rfl) (by decide) (by decide) hw123 rfl (hs.2.2 101 7 _ rfl) ?_
          refine hf_iload_n dX11_line_64 rfl rfl ?_
          exact hf_callV (c := 3) (as := [.int x1]) ok_X3_manyIn dX11_line_65 hw699 hw700 hw701 (hs.2.1 114 _ rfl) (by decide) (hf_lin hs 114 rfl) rfl (Nat.le_of_ble_eq_true rfl) rfl (Nat.le_of_ble_eq_true rfl) (Nat.zero_le _) (Nat.zero_le _) (hf_mono (fun r M q => hf_drop (l' := [none, none, none]) (by simp [hf_sub]) q) h)
        | 2, _ =>
          have hx : x2 = 2 := hf_swi hq (by decide)
          refine hf_tableIn (off := 57) (tgt := 69) dX11_line_12 (by rw [hx]; decide) (by rw [hx]; decide) (by rw [hx]; rfl) (by decide) ?_
          replace h := h.2.2.1 hx
          refine hf_aload_n dX11_line_69 rfl rfl ?_
          refine hf_getr (b := 135) (c := 11) (j := 5) dX11_line_70 (hs.2.1 100 _ rfl) (hf_lin hs 100 rfl) (by decide) (by decide) hw370 rfl (hs.2.2 100 5 _ rfl) ?_
          refine hf_iload_n dX11_line_73 rfl rfl ?_
          exact hf_callV (c := 4) (as := [.int x1]) ok_X4_headLineCost dX11_line_74 hw763 hw764 hw765 (hs.2.1 135 _ rfl) (by decide) (hf_lin hs 135 rfl) rfl (Nat.le_of_ble_eq_true rfl) rfl (Nat.le_of_ble_eq_true rfl) (Nat.zero_le _) (Nat.zero_le _) (hf_mono (fun r M q => hf_drop (l' := [none, none, none]) (by simp [hf_sub]) q) h)
        | 3, _ =>
          have hx : x2 = 3 := hf_swi hq (by decide)
          refine hf_tableIn (off := 66) (tgt := 78) dX11_line_12 (by rw [hx]; decide) (by rw [hx]; decide) (by rw [hx]; rfl) (by decide) ?_
          replace h := h.2.2.2.1 hx
          refine hf_aload_n dX11_line_78 rfl rfl ?_
          refine hf_getr (b := 101) (c := 11) (j := 0) dX11_line_79 (hs.2.1 100 _ rfl) (hf_lin hs 100 rfl) (by decide) (by decide) hw365 rfl (hs.2.2 100 0 _ rfl) ?_
          refine hf_iload_n dX11_line_82 rfl rfl ?_
          exact hf_callV (c := 1) (as := [.int x1]) ok_X1_isAlike dX11_line_83 hw790 hw770 hw771 (hs.2.1 101 _ rfl) (by decide) (hf_lin hs 101 rfl) rfl (Nat.le_of_ble_eq_true rfl) rfl (Nat.le_of_ble_eq_true rfl) (Nat.zero_le _) (Nat.zero_le _) (hf_mono (fun r M q => hf_drop (l' := [none, none, none]) (by simp [hf_sub]) q) h)
        | 4, _ =>
          have hx : x2 = 4 := hf_swi hq (by decide)
          refine hf_tableIn (off := 83) (tgt := 95) dX11_line_12 (by rw [hx]; decide) (by rw [hx]; decide) (by rw [hx]; rfl) (by decide) ?_
          replace h := h.2.2.2.2.1 hx
          refine hf_aload_n dX11_line_95 rfl rfl ?_
          refine hf_getr (b := 101) (c := 11) (j := 0) dX11_line_96 (hs.2.1 100 _ rfl) (hf_lin hs 100 rfl) (by decide) (by decide) hw365 rfl (hs.2.2 100 0 _ rfl) ?_
          refine hf_iload_n dX11_line_99 rfl rfl ?_
          exact hf_callV (c := 1) (as := [.int x1]) ok_X1_isEcho dX11_line_100 hw791 hw783 hw784 (hs.2.1 101 _ rfl) (by decide) (hf_lin hs 101 rfl) rfl (Nat.le_of_ble_eq_true rfl) rfl (Nat.le_of_ble_eq_true rfl) (Nat.zero_le _) (Nat.zero_le _) (hf_mono (fun r M q => hf_drop (l' := [none, none, none]) (by simp [hf_sub]) q) h)
        | j + 5, hj => exact absurd hj (by omega)

set_option maxHeartbeats 4000000 in
theorem w_X11_line_56 {X : hf_X} {d k n t : Nat} {T : hf_T} {I : hf_I} {L : hf_L} {P : hf_P} {Q : Option Value → hf_M → Prop} {s0 : Int32} (hs : hf_Lay t T P) (h : Q (some (.int s0)) (t, T, I, L, P)) : hf_G X Y_X11_line d k n 56 [none, none, none] [.int s0] (t, T, I, L, P) Q := by
  refine hf_ireturn dX11_line_56 rfl rfl ?_
  exact h

set_option maxHeartbeats 4000000 in
theorem w_X11_line_68 {X : hf_X} {d k n t : Nat} {T : hf_T} {I : hf_I} {L : hf_L} {P : hf_P} {Q : Option Value → hf_M → Prop} {s0 : Int32} (hs : hf_Lay t T P) (h : Q (some (.int s0)) (t, T, I, L, P)) : hf_G X Y_X11_line d k n 68 [none, none, none] [.int s0] (t, T, I, L, P) Q := by
  refine hf_ireturn dX11_line_68 rfl rfl ?_
  exact h

set_option maxHeartbeats 4000000 in
theorem w_X11_line_77 {X : hf_X} {d k n t : Nat} {T : hf_T} {I : hf_I} {L : hf_L} {P : hf_P} {Q : Option Value → hf_M → Prop} {s0 : Int32} (hs : hf_Lay t T P) (h : Q (some (.int s0)) (t, T, I, L, P)) : hf_G X Y_X11_line d k n 77 [none, none, none] [.int s0] (t, T, I, L, P) Q := by
  refine hf_ireturn dX11_line_77 rfl rfl ?_
  exact h

set_option maxHeartbeats 4000000 in
theorem w_X11_line_86 {X : hf_X} {d k n t : Nat} {T : hf_T} {I : hf_I} {L : hf_L} {P : hf_P} {Q : Option Value → hf_M → Prop} {s0 : Int32} (hs : hf_Lay t T P) (h : (s0 = 0 → Q (some (.int 0)) (t, T, I, L, P)) ∧ (¬ (s0 = 0) → Q (some (.int 1)) (t, T, I, L, P))) : hf_G X Y_X11_line d k n 86 [none, none, none] [.int s0] (t, T, I, L, P) Q := by
  refine hf_if_eq (tgt := 93) dX11_line_86 (by decide) (fun hc => ?_) (fun hc => ?_)
  · replace h := h.1 hc
    refine hf_iconst (v := 0) dX11_line_93 (by decide) ?_
    refine hf_ireturn dX11_line_94 rfl rfl ?_
    exact h
  · replace h := h.2 hc
    refine hf_iconst (v := 1) dX11_line_89 (by decide) ?_
    refine hf_goto (tgt := 94) dX11_line_90 (by decide) ?_
    refine hf_ireturn dX11_line_94 rfl rfl ?_
    exact h

set_option maxHeartbeats 4000000 in
theorem w_X11_line_103 {X : hf_X} {d k n t : Nat} {T : hf_T} {I : hf_I} {L : hf_L} {P : hf_P} {Q : Option Value → hf_M → Prop} {s0 : Int32} (hs : hf_Lay t T P) (h : (s0 = 0 → Q (some (.int 0)) (t, T, I, L, P)) ∧ (¬ (s0 = 0) → Q (some (.int 1)) (t, T, I, L, P))) : hf_G X Y_X11_line d k n 103 [none, none, none] [.int s0] (t, T, I, L, P) Q := by
  refine hf_if_eq (tgt := 110) dX11_line_103 (by decide) (fun hc => ?_) (fun hc => ?_)
  · replace h := h.1 hc
    refine hf_iconst (v := 0) dX11_line_110 (by decide) ?_
    refine hf_ireturn dX11_line_111 rfl rfl ?_
    exact h
  · replace h := h.2 hc
    refine hf_iconst (v := 1) dX11_line_106 (by decide) ?_
    refine hf_goto (tgt := 111) dX11_line_107 (by decide) ?_
    refine hf_ireturn dX11_line_111 rfl rfl ?_
    exact h

set_option maxHeartbeats 4000000 in
theorem w_X11_cost_0 {X : hf_X} {d k n t : Nat} {T : hf_T} {I : hf_I} {L : hf_L} {P : hf_P} {Q : Option Value → hf_M → Prop}  (hs : hf_Lay t T P) (h : hf_G X Y_X11_cost d k n 4 [some (.ref 100), some (.int 0), some (.int 0)] [] (t, T, I, L, P) Q) : hf_G X Y_X11_cost d k n 0 (hf_en [.ref 100] 3) [] (t, T, I, L, P) Q := by
  show hf_G X Y_X11_cost d k n 0 [some (.ref 100), none, none] [] (t, T, I, L, P) Q
  refine hf_iconst (v := 0) dX11_cost_0 (by decide) ?_
  refine hf_istore_n (l2 := [some (.ref 100), some (.int 0), none]) dX11_cost_1 rfl (by decide) rfl ?_
  refine hf_iconst (v := 0) dX11_cost_2 (by decide) ?_
  refine hf_istore_n (l2 := [some (.ref 100), some (.int 0), some (.int 0)]) dX11_cost_3 rfl (by decide) rfl ?_
  exact h

set_option maxHeartbeats 4000000 in
theorem w_X11_cost_4 {X : hf_X} {d k n t : Nat} {T : hf_T} {I : hf_I} {L : hf_L} {P : hf_P} {Q : Option Value → hf_M → Prop} {x1 : Int32} {x2 : Int32} (hs : hf_Lay t T P) (h : ((I 114 2) ≤ x2 → hf_G X Y_X11_cost (d + 1) k n 55 [some (.ref 100), some (.int x1), some (.int 0)] [] (t, T, I, L, P) Q) ∧ (¬ ((I 114 2) ≤ x2) → vp_in x2 12 ∧ (hf_G X Y_X4_lossOf d 0 0 0 (hf_en [.ref 135, .int (I 115 x2.toNatClampNeg), .int (I 101 14)] 3) [] (t, T, I, L, P) (fun r M => hf_G X Y_X11_cost (d + 1) k n 45 [some (.ref 100), none, some (.int x2)] (r.toList ++ [.int x1]) M Q)))) : hf_G X Y_X11_cost (d + 1) k n 4 [some (.ref 100), some (.int x1), some (.int x2)] [] (t, T, I, L, P) Q := by
  refine hf_iload_n dX11_cost_4 rfl rfl ?_
  refine hf_aload_n dX11_cost_5 rfl rfl ?_
  refine hf_getr (b := 101) (c := 11) (j := 0) dX11_cost_6 (hs.2.1 100 _ rfl) (hf_lin hs 100 rfl) (by decide) (by decide) hw365 rfl (hs.2.2 100 0 _ rfl) ?_
  refine hf_getr (b := 114) (c := 1) (j := 7) dX11_cost_9 (hs.2.1 101 _ rfl) (hf_lin hs 101 rfl) (by decide) (by decide) hw123 rfl (hs.2.2 101 7 _ rfl) ?_
  refine hf_geti (c := 3) (j := 2) dX11_cost_12 (hs.2.1 114 _ rfl) (hf_lin hs 114 rfl) (by decide) (by decide) hw89 (Or.inl rfl) ?_
  refine hf_icmp_ge (tgt := 53) dX11_cost_15 (by decide) (fun hc => ?_) (fun hc => ?_)
  · replace h := h.1 hc
    refine hf_iconst (v := 0) dX11_cost_53 (by decide) ?_
    refine hf_istore_n (l2 := [some (.ref 100), some (.int x1), some (.int 0)]) dX11_cost_54 rfl (by decide) rfl ?_
    exact h
  · replace h := h.2 hc
    refine hf_iload_n dX11_cost_18 rfl rfl ?_
    refine hf_aload_n dX11_cost_19 rfl rfl ?_
    refine hf_getr (b := 135) (c := 11) (j := 5) dX11_cost_20 (hs.2.1 100 _ rfl) (hf_lin hs 100 rfl) (by decide) (by decide) hw370 rfl (hs.2.2 100 5 _ rfl) ?_
    refine hf_aload_n dX11_cost_23 rfl rfl ?_
    refine hf_getr (b := 101) (c := 11) (j := 0) dX11_cost_24 (hs.2.1 100 _ rfl) (hf_lin hs 100 rfl) (by decide) (by decide) hw365 rfl (hs.2.2 100 0 _ rfl) ?_
    refine hf_getr (b := 114) (c := 1) (j := 7) dX11_cost_27 (hs.2.1 101 _ rfl) (hf_lin hs 101 rfl) (by decide) (by decide) hw123 rfl (hs.2.2 101 7 _ rfl) ?_
    refine hf_getr (b := 115) (c := 3) (j := 0) dX11_cost_30 (hs.2.1 114 _ rfl) (hf_lin hs 114 rfl) (by decide) (by decide) hw82 rfl (hs.2.2 114 0 _ rfl) ?_
    refine hf_iload_n dX11_cost_33 rfl rfl ?_
    refine hf_iald dX11_cost_34 (hs.2.1 115 _ rfl) (hf_lin hs 115 rfl) h.1 ?_
    replace h := h.2
    refine hf_aload_n dX11_cost_35 rfl rfl ?_
    refine hf_getr (b := 101) (c := 11) (j := 0) dX11_cost_36 (hs.2.1 100 _ rfl) (hf_lin hs 100 rfl) (by decide) (by decide) hw365 rfl (hs.2.2 100 0 _ rfl) ?_
    refine hf_geti (c := 1) (j := 14) dX11_cost_39 (hs.2.1 101 _ rfl) (hf_lin hs 101 rfl) (by decide) (by decide) hw146 (Or.inl rfl) ?_
    exact hf_callV (c := 4) (as := [.int (I 115 x2.toNatClampNeg), .int (I 101 14)]) ok_X4_lossOf dX11_cost_42 hw490 hw491 hw492 (hs.2.1 135 _ rfl) (by decide) (hf_lin hs 135 rfl) rfl (Nat.le_of_ble_eq_true rfl) rfl (Nat.le_of_ble_eq_true rfl) (Nat.zero_le _) (Nat.zero_le _) (hf_mono (fun r M q => hf_drop (l' := [some (.ref 100), none, some (.int x2)]) (by simp [hf_sub]) q) h)

set_option maxHeartbeats 4000000 in
theorem w_X11_cost_55 {X : hf_X} {d k n t : Nat} {T : hf_T} {I : hf_I} {L : hf_L} {P : hf_P} {Q : Option Value → hf_M → Prop} {x1 : Int32} {x2 : Int32} (hs : hf_Lay t T P) (h : (4 ≤ x2 → Q (some (.int x1)) (t, T, I, L, P)) ∧ (¬ (4 ≤ x2) → hf_G X Y_X4_headLineCost d 0 0 0 (hf_en [.ref 135, .int x2] 4) [] (t, T, I, L, P) (fun r M => hf_G X Y_X11_cost (d + 1) k n 69 [some (.ref 100), none, some (.int x2)] (r.toList ++ [.int x1]) M Q))) : hf_G X Y_X11_cost (d + 1) k n 55 [some (.ref 100), some (.int x1), some (.int x2)] [] (t, T, I, L, P) Q := by
  refine hf_iload_n dX11_cost_55 rfl rfl ?_
  refine hf_iconst (v := 4) dX11_cost_56 (by decide) ?_
  refine hf_icmp_ge (tgt := 77) dX11_cost_57 (by decide) (fun hc => ?_) (fun hc => ?_)
  · replace h := h.1 hc
    refine hf_iload_n dX11_cost_77 rfl rfl ?_
    refine hf_ireturn dX11_cost_78 rfl rfl ?_
    exact h
  · replace h := h.2 hc
    refine hf_iload_n dX11_cost_60 rfl rfl ?_
    refine hf_aload_n dX11_cost_61 rfl rfl ?_
    refine hf_getr (b := 135) (c := 11) (j := 5) dX11_cost_62 (hs.2.1 100 _ rfl) (hf_lin hs 100 rfl) (by decide) (by decide) hw370 rfl (hs.2.2 100 5 _ rfl) ?_
    refine hf_iload_n dX11_cost_65 rfl rfl ?_
    exact hf_callV (c := 4) (as := [.int x2]) ok_X4_headLineCost dX11_cost_66 hw763 hw764 hw765 (hs.2.1 135 _ rfl) (by decide) (hf_lin hs 135 rfl) rfl (Nat.le_of_ble_eq_true rfl) rfl (Nat.le_of_ble_eq_true rfl) (Nat.zero_le _) (Nat.zero_le _) (hf_mono (fun r M q => hf_drop (l' := [some (.ref 100), none, some (.int x2)]) (by simp [hf_sub]) q) h)

set_option maxHeartbeats 4000000 in
theorem w_X11_cost_45 {X : hf_X} {d k n t : Nat} {T : hf_T} {I : hf_I} {L : hf_L} {P : hf_P} {Q : Option Value → hf_M → Prop} {x2 : Int32} {s0 : Int32} {s1 : Int32} (hs : hf_Lay t T P) (h : hf_G X Y_X11_cost d k n 4 [some (.ref 100), some (.int (s1 + s0)), some (.int (x2 + 1))] [] (t, T, I, L, P) Q) : hf_G X Y_X11_cost d k n 45 [some (.ref 100), none, some (.int x2)] [.int s0, .int s1] (t, T, I, L, P) Q := by
  refine hf_iadd dX11_cost_45 ?_
  refine hf_istore_n (l2 := [some (.ref 100), some (.int (s1 + s0)), some (.int x2)]) dX11_cost_46 rfl (by decide) rfl ?_
  refine hf_iinc (v := (x2 + 1)) (l2 := [some (.ref 100), some (.int (s1 + s0)), some (.int (x2 + 1))]) dX11_cost_47 (by decide) rfl rfl rfl ?_
  refine hf_goto (tgt := 4) dX11_cost_50 (by decide) ?_
  exact h

set_option maxHeartbeats 4000000 in
theorem w_X11_cost_69 {X : hf_X} {d k n t : Nat} {T : hf_T} {I : hf_I} {L : hf_L} {P : hf_P} {Q : Option Value → hf_M → Prop} {x2 : Int32} {s0 : Int32} {s1 : Int32} (hs : hf_Lay t T P) (h : hf_G X Y_X11_cost d k n 55 [some (.ref 100), some (.int (s1 + s0)), some (.int (x2 + 1))] [] (t, T, I, L, P) Q) : hf_G X Y_X11_cost d k n 69 [some (.ref 100), none, some (.int x2)] [.int s0, .int s1] (t, T, I, L, P) Q := by
  refine hf_iadd dX11_cost_69 ?_
  refine hf_istore_n (l2 := [some (.ref 100), some (.int (s1 + s0)), some (.int x2)]) dX11_cost_70 rfl (by decide) rfl ?_
  refine hf_iinc (v := (x2 + 1)) (l2 := [some (.ref 100), some (.int (s1 + s0)), some (.int (x2 + 1))]) dX11_cost_71 (by decide) rfl rfl rfl ?_
  refine hf_goto (tgt := 55) dX11_cost_74 (by decide) ?_
  exact h

set_option maxHeartbeats 4000000 in
theorem w_X11_undo_0 {X : hf_X} {d k n t : Nat} {T : hf_T} {I : hf_I} {L : hf_L} {P : hf_P} {Q : Option Value → hf_M → Prop}  (hs : hf_Lay t T P) (h : (¬ (I 148 2) = 0 → hf_G X Y_X6_takeBack (d + 1) 0 0 0 (hf_en [.ref 148, .ref 114] 3) [] (t, T, I, L, P) (fun r M => hf_G X Y_X11_undo (d + 2) k n 32 [none] (r.toList ++ [.ref 100]) M Q)) ∧ ((I 148 2) = 0 → Q (some (.int (-3))) (t, T, (hf_up (hf_up I 100 15 (-3)) 155 2 ((I 155 2) + 1)), L, P))) : hf_G X Y_X11_undo (d + 2) k n 0 (hf_en [.ref 100] 1) [] (t, T, I, L, P) Q := by
  show hf_G X Y_X11_undo (d + 2) k n 0 [some (.ref 100)] [] (t, T, I, L, P) Q
  refine hf_aload_n dX11_undo_0 rfl rfl ?_
  refine hf_getr (b := 148) (c := 11) (j := 9) dX11_undo_1 (hs.2.1 100 _ rfl) (hf_lin hs 100 rfl) (by decide) (by decide) hw374 rfl (hs.2.2 100 9 _ rfl) ?_
  refine hf_geti (c := 6) (j := 2) dX11_undo_4 (hs.2.1 148 _ rfl) (hf_lin hs 148 rfl) (by decide) (by decide) hw360 (Or.inl rfl) ?_
  refine hf_if_ne (tgt := 17) dX11_undo_7 (by decide) (fun hc => ?_) (fun hc => ?_)
  · replace h := h.1 hc
    refine hf_aload_n dX11_undo_17 rfl rfl ?_
    refine hf_aload_n dX11_undo_18 rfl rfl ?_
    refine hf_getr (b := 148) (c := 11) (j := 9) dX11_undo_19 (hs.2.1 100 _ rfl) (hf_lin hs 100 rfl) (by decide) (by decide) hw374 rfl (hs.2.2 100 9 _ rfl) ?_
    refine hf_aload_n dX11_undo_22 rfl rfl ?_
    refine hf_getr (b := 101) (c := 11) (j := 0) dX11_undo_23 (hs.2.1 100 _ rfl) (hf_lin hs 100 rfl) (by decide) (by decide) hw365 rfl (hs.2.2 100 0 _ rfl) ?_
    refine hf_getr (b := 114) (c := 1) (j := 7) dX11_undo_26 (hs.2.1 101 _ rfl) (hf_lin hs 101 rfl) (by decide) (by decide) hw123 rfl (hs.2.2 101 7 _ rfl) ?_
    exact hf_callV (c := 6) (as := [.ref 114]) ok_X6_takeBack dX11_undo_29 hw800 hw801 hw802 (hs.2.1 148 _ rfl) (by decide) (hf_lin hs 148 rfl) rfl (Nat.le_of_ble_eq_true rfl) rfl (Nat.le_of_ble_eq_true rfl) (Nat.zero_le _) (Nat.zero_le _) (hf_mono (fun r M q => hf_drop (l' := [none]) (by simp [hf_sub]) q) h)
  · replace h := h.2 hc
    refine hf_aload_n dX11_undo_10 rfl rfl ?_
    refine hf_bipush (v := (-3)) dX11_undo_11 (by decide) ?_
    refine hf_callV (c := 11) (as := [.int (-3)]) ok_X11_refuse dX11_undo_13 hw408 hw409 hw1553 (hs.2.1 100 _ rfl) (by decide) (hf_lin hs 100 rfl) rfl (Nat.le_of_ble_eq_true rfl) rfl (Nat.le_of_ble_eq_true rfl) (Nat.zero_le _) (Nat.zero_le _) ?_
    show hf_G X Y_X11_refuse (d + 1) _ _ 0 [some (.ref 100), some (.int (-3))] [] (t, T, I, L, P) _
    refine hf_aload_n dX11_refuse_0 rfl rfl ?_
    refine hf_iload_n dX11_refuse_1 rfl rfl ?_
    refine hf_puti (c := 11) (j := 15) dX11_refuse_2 (hs.2.1 100 _ rfl) (hf_lin hs 100 rfl) (by decide) (by decide) hw381 rfl rfl ?_
    refine hf_aload_n dX11_refuse_5 rfl rfl ?_
    refine hf_getr (b := 155) (c := 11) (j := 12) dX11_refuse_6 (hs.2.1 100 _ rfl) (hf_lin hs 100 rfl) (by decide) (by decide) hw377 rfl (hs.2.2 100 12 _ rfl) ?_
    refine hf_iload_n dX11_refuse_9 rfl rfl ?_
    refine hf_callS (as := [.int (-3)]) ok_X11_refusalPlace dX11_refuse_10 hw411 hw412 rfl (Nat.le_of_ble_eq_true rfl) rfl (Nat.le_of_ble_eq_true rfl) (Nat.zero_le _) (Nat.zero_le _) ?_
    show hf_G X Y_X11_refusalPlace d _ _ 0 [some (.int (-3))] [] (t, T, (hf_up I 100 15 (-3)), L, P) _
    refine hf_iload_n dX11_refusalPlace_0 rfl rfl ?_
    refine hf_tableIn (off := 37) (tgt := 38) dX11_refusalPlace_1 (by decide) (by decide) rfl (by decide) ?_
    refine hf_iconst (v := 2) dX11_refusalPlace_38 (by decide) ?_
    refine hf_ireturn dX11_refusalPlace_39 rfl rfl ?_
    show hf_G X Y_X11_refuse (d + 1) _ _ 13 [some (.ref 100), some (.int (-3))] [.int 2, .ref 155] (t, T, (hf_up I 100 15 (-3)), L, P) _
    refine hf_dup2 dX11_refuse_13 rfl rfl ?_
    refine hf_iald_k (j := 2) (by decide) dX11_refuse_14 (hs.2.1 155 _ rfl) (hf_lin hs 155 rfl) (hf_vin (by decide)) ?_
    refine hf_iconst (v := 1) dX11_refuse_15 (by decide) ?_
    refine hf_iadd dX11_refuse_16 ?_
    refine hf_iast_k (j := 2) (by decide) dX11_refuse_17 (hs.2.1 155 _ rfl) (hf_lin hs 155 rfl) (hf_vin (by decide)) ?_
    refine hf_iload_n dX11_refuse_18 rfl rfl ?_
    refine hf_ireturn dX11_refuse_19 rfl rfl ?_
    show hf_G X Y_X11_undo (d + 2) _ _ 16 [some (.ref 100)] [.int (-3)] (t, T, (hf_up (hf_up I 100 15 (-3)) 155 2 ((I 155 2) + 1)), L, P) _
    refine hf_ireturn dX11_undo_16 rfl rfl ?_
    exact h

set_option maxHeartbeats 4000000 in
theorem w_X11_undo_32 {X : hf_X} {d k n t : Nat} {T : hf_T} {I : hf_I} {L : hf_L} {P : hf_P} {Q : Option Value → hf_M → Prop} {s0 : Int32} (hs : hf_Lay t T P) (h : Q (some (.int s0)) (t, T, (hf_up (hf_up I 100 15 0) 100 16 ((I 100 16) + 1)), L, P)) : hf_G X Y_X11_undo (d + 1) k n 32 [none] [.int s0, .ref 100] (t, T, I, L, P) Q := by
  refine hf_callV (c := 11) (as := [.int s0]) ok_X11_granted dX11_undo_32 hw418 hw419 hw1554 (hs.2.1 100 _ rfl) (by decide) (hf_lin hs 100 rfl) rfl (Nat.le_of_ble_eq_true rfl) rfl (Nat.le_of_ble_eq_true rfl) (Nat.zero_le _) (Nat.zero_le _) ?_
  show hf_G X Y_X11_granted d _ _ 0 [some (.ref 100), some (.int s0)] [] (t, T, I, L, P) _
  refine hf_aload_n dX11_granted_0 rfl rfl ?_
  refine hf_iconst (v := 0) dX11_granted_1 (by decide) ?_
  refine hf_puti (c := 11) (j := 15) dX11_granted_2 (hs.2.1 100 _ rfl) (hf_lin hs 100 rfl) (by decide) (by decide) hw381 rfl rfl ?_
  refine hf_aload_n dX11_granted_5 rfl rfl ?_
  refine hf_dup dX11_granted_6 rfl ?_
  refine hf_geti (c := 11) (j := 16) dX11_granted_7 (hs.2.1 100 _ rfl) (hf_lin hs 100 rfl) (by decide) (by decide) hw382 (Or.inl rfl) ?_
  refine hf_iconst (v := 1) dX11_granted_10 (by decide) ?_
  refine hf_iadd dX11_granted_11 ?_
  refine hf_puti (c := 11) (j := 16) dX11_granted_12 (hs.2.1 100 _ rfl) (hf_lin hs 100 rfl) (by decide) (by decide) hw382 rfl rfl ?_
  refine hf_iload_n dX11_granted_15 rfl rfl ?_
  refine hf_ireturn dX11_granted_16 rfl rfl ?_
  show hf_G X Y_X11_undo (d + 1) _ _ 35 [none] [.int s0] (t, T, (hf_up (hf_up I 100 15 0) 100 16 ((I 100 16) + 1)), L, P) _
  refine hf_ireturn dX11_undo_35 rfl rfl ?_
  exact h

set_option maxHeartbeats 4000000 in
theorem w_X11_fit_0 {X : hf_X} {d k n t : Nat} {T : hf_T} {I : hf_I} {L : hf_L} {P : hf_P} {Q : Option Value → hf_M → Prop} {x1 : Int32} (hs : hf_Lay t T P) (h : (¬ (I 101 17) = 0 → hf_G X Y_X8_solve d 0 0 0 (hf_en [.ref 136, .int (I 100 16)] 4) [] (t, T, I, L, P) (fun r M => hf_G X Y_X11_fit (d + 1) k n 23 [some (.ref 100), some (.int x1)] (r.toList ++ []) M Q)) ∧ ((I 101 17) = 0 → Q (some (.int (-1))) (t, T, I, L, P))) : hf_G X Y_X11_fit (d + 1) k n 0 (hf_en [.ref 100, .int x1] 2) [] (t, T, I, L, P) Q := by
  show hf_G X Y_X11_fit (d + 1) k n 0 [some (.ref 100), some (.int x1)] [] (t, T, I, L, P) Q
  refine hf_aload_n dX11_fit_0 rfl rfl ?_
  refine hf_getr (b := 101) (c := 11) (j := 0) dX11_fit_1 (hs.2.1 100 _ rfl) (hf_lin hs 100 rfl) (by decide) (by decide) hw365 rfl (hs.2.2 100 0 _ rfl) ?_
  refine hf_geti (c := 1) (j := 17) dX11_fit_4 (hs.2.1 101 _ rfl) (hf_lin hs 101 rfl) (by decide) (by decide) hw155 (Or.inl rfl) ?_
  refine hf_if_ne (tgt := 12) dX11_fit_7 (by decide) (fun hc => ?_) (fun hc => ?_)
  · replace h := h.1 hc
    refine hf_aload_n dX11_fit_12 rfl rfl ?_
    refine hf_getr (b := 136) (c := 11) (j := 6) dX11_fit_13 (hs.2.1 100 _ rfl) (hf_lin hs 100 rfl) (by decide) (by decide) hw371 rfl (hs.2.2 100 6 _ rfl) ?_
    refine hf_aload_n dX11_fit_16 rfl rfl ?_
    refine hf_geti (c := 11) (j := 16) dX11_fit_17 (hs.2.1 100 _ rfl) (hf_lin hs 100 rfl) (by decide) (by decide) hw382 (Or.inl rfl) ?_
    exact hf_callV (c := 8) (as := [.int (I 100 16)]) ok_X8_solve dX11_fit_20 hw808 hw809 hw810 (hs.2.1 136 _ rfl) (by decide) (hf_lin hs 136 rfl) rfl (Nat.le_of_ble_eq_true rfl) rfl (Nat.le_of_ble_eq_true rfl) (Nat.zero_le _) (Nat.zero_le _) h
  · replace h := h.2 hc
    refine hf_iconst (v := (-1)) dX11_fit_10 (by decide) ?_
    refine hf_ireturn dX11_fit_11 rfl rfl ?_
    exact h

set_option maxHeartbeats 4000000 in
theorem w_X11_fit_23 {X : hf_X} {d k n t : Nat} {T : hf_T} {I : hf_I} {L : hf_L} {P : hf_P} {Q : Option Value → hf_M → Prop} {x1 : Int32} (hs : hf_Lay t T P) (h : (¬ x1 = 1 → (¬ (I 136 17) = 0 → (¬ x1 = 0 → (¬ x1 = 2 → hf_G X Y_X11_toldIn d 0 0 0 (hf_en [.ref 100, .long (L 136 16), .int x1] 5) [] (t, T, I, L, P) (fun r M => hf_G X Y_X11_fit (d + 1) k n 91 [none, none] (r.toList ++ []) M Q)) ∧ (x1 = 2 → hf_G X Y_X11_linesIn d 0 0 0 (hf_en [.long (L 136 16)] 2) [] (t, T, I, L, P) (fun r M => hf_G X Y_X11_fit (d + 1) k n 78 [none, none] (r.toList ++ []) M Q))) ∧ (x1 = 0 → Q (some (.int (((L 136 16) >>> ((30 : Int32).toInt64 &&& 63)).toInt32))) (t, T, I, L, P))) ∧ ((I 136 17) = 0 → Q (some (.int (-1))) (t, T, I, L, P))) ∧ (x1 = 1 → Q (some (.int (I 136 17))) (t, T, I, L, P))) : hf_G X Y_X11_fit (d + 1) k n 23 [some (.ref 100), some (.int x1)] [] (t, T, I, L, P) Q := by
  refine hf_iload_n dX11_fit_23 rfl rfl ?_
  refine hf_iconst (v := 1) dX11_fit_24 (by decide) ?_
  refine hf_icmp_ne (tgt := 36) dX11_fit_25 (by decide) (fun hc => ?_) (fun hc => ?_)
  · replace h := h.1 hc
    refine hf_aload_n dX11_fit_36 rfl rfl ?_
    refine hf_getr (b := 136) (c := 11) (j := 6) dX11_fit_37 (hs.2.1 100 _ rfl) (hf_lin hs 100 rfl) (by decide) (by decide) hw371 rfl (hs.2.2 100 6 _ rfl) ?_
    refine hf_geti (c := 8) (j := 17) dX11_fit_40 (hs.2.1 136 _ rfl) (hf_lin hs 136 rfl) (by decide) (by decide) hw297 (Or.inl rfl) ?_
    refine hf_if_ne (tgt := 48) dX11_fit_43 (by decide) (fun hc => ?_) (fun hc => ?_)
    · replace h := h.1 hc
      refine hf_iload_n dX11_fit_48 rfl rfl ?_
      refine hf_if_ne (tgt := 63) dX11_fit_49 (by decide) (fun hc => ?_) (fun hc => ?_)
      · replace h := h.1 hc
        refine hf_iload_n dX11_fit_63 rfl rfl ?_
        refine hf_iconst (v := 2) dX11_fit_64 (by decide) ?_
        refine hf_icmp_ne (tgt := 79) dX11_fit_65 (by decide) (fun hc => ?_) (fun hc => ?_)
        · replace h := h.1 hc
          refine hf_aload_n dX11_fit_79 rfl rfl ?_
          refine hf_aload_n dX11_fit_80 rfl rfl ?_
          refine hf_getr (b := 136) (c := 11) (j := 6) dX11_fit_81 (hs.2.1 100 _ rfl) (hf_lin hs 100 rfl) (by decide) (by decide) hw371 rfl (hs.2.2 100 6 _ rfl) ?_
          refine hf_getl (c := 8) (j := 16) dX11_fit_84 (hs.2.1 136 _ rfl) (hf_lin hs 136 rfl) (by decide) (by decide) hw295 rfl ?_
          refine hf_iload_n dX11_fit_87 rfl rfl ?_
          exact hf_callV (c := 11) (as := [.long (L 136 16), .int x1]) ok_X11_toldIn dX11_fit_88 hw881 hw882 hw1597 (hs.2.1 100 _ rfl) (by decide) (hf_lin hs 100 rfl) rfl (Nat.le_of_ble_eq_true rfl) rfl (Nat.le_of_ble_eq_true rfl) (Nat.zero_le _) (Nat.zero_le _) (hf_mono (fun r M q => hf_drop (l' := [none, none]) (by simp [hf_sub]) q) h)
        · replace h := h.2 hc
          refine hf_aload_n dX11_fit_68 rfl rfl ?_
          refine hf_getr (b := 136) (c := 11) (j := 6) dX11_fit_69 (hs.2.1 100 _ rfl) (hf_lin hs 100 rfl) (by decide) (by decide) hw371 rfl (hs.2.2 100 6 _ rfl) ?_
          refine hf_getl (c := 8) (j := 16) dX11_fit_72 (hs.2.1 136 _ rfl) (hf_lin hs 136 rfl) (by decide) (by decide) hw295 rfl ?_
          exact hf_callS (as := [.long (L 136 16)]) ok_X11_linesIn dX11_fit_75 hw871 hw872 rfl (Nat.le_of_ble_eq_true rfl) rfl (Nat.le_of_ble_eq_true rfl) (Nat.zero_le _) (Nat.zero_le _) (hf_mono (fun r M q => hf_drop (l' := [none, none]) (by simp [hf_sub]) q) h)
      · replace h := h.2 hc
        refine hf_aload_n dX11_fit_52 rfl rfl ?_
        refine hf_getr (b := 136) (c := 11) (j := 6) dX11_fit_53 (hs.2.1 100 _ rfl) (hf_lin hs 100 rfl) (by decide) (by decide) hw371 rfl (hs.2.2 100 6 _ rfl) ?_
        refine hf_getl (c := 8) (j := 16) dX11_fit_56 (hs.2.1 136 _ rfl) (hf_lin hs 136 rfl) (by decide) (by decide) hw295 rfl ?_
        refine hf_callS (as := [.long (L 136 16)]) ok_X11_costIn dX11_fit_59 hw868 hw869 rfl (Nat.le_of_ble_eq_true rfl) rfl (Nat.le_of_ble_eq_true rfl) (Nat.zero_le _) (Nat.zero_le _) ?_
        show hf_G X Y_X11_costIn d _ _ 0 [some (.long (L 136 16)), none] [] (t, T, I, L, P) _
        refine hf_lload_n dX11_costIn_0 rfl rfl ?_
        refine hf_bipush (v := 30) dX11_costIn_1 (by decide) ?_
        refine hf_lshr dX11_costIn_3 rfl ?_
        refine hf_l2i dX11_costIn_4 ?_
        refine hf_ireturn dX11_costIn_5 rfl rfl ?_
        show hf_G X Y_X11_fit (d + 1) _ _ 62 [some (.ref 100), some (.int x1)] [.int (((L 136 16) >>> ((30 : Int32).toInt64 &&& 63)).toInt32)] (t, T, I, L, P) _
        refine hf_ireturn dX11_fit_62 rfl rfl ?_
        exact h
    · replace h := h.2 hc
      refine hf_iconst (v := (-1)) dX11_fit_46 (by decide) ?_
      refine hf_ireturn dX11_fit_47 rfl rfl ?_
      exact h
  · replace h := h.2 hc
    refine hf_aload_n dX11_fit_28 rfl rfl ?_
    refine hf_getr (b := 136) (c := 11) (j := 6) dX11_fit_29 (hs.2.1 100 _ rfl) (hf_lin hs 100 rfl) (by decide) (by decide) hw371 rfl (hs.2.2 100 6 _ rfl) ?_
    refine hf_geti (c := 8) (j := 17) dX11_fit_32 (hs.2.1 136 _ rfl) (hf_lin hs 136 rfl) (by decide) (by decide) hw297 (Or.inl rfl) ?_
    refine hf_ireturn dX11_fit_35 rfl rfl ?_
    exact h

set_option maxHeartbeats 4000000 in
theorem w_X11_fit_91 {X : hf_X} {d k n t : Nat} {T : hf_T} {I : hf_I} {L : hf_L} {P : hf_P} {Q : Option Value → hf_M → Prop} {s0 : Int32} (hs : hf_Lay t T P) (h : Q (some (.int s0)) (t, T, I, L, P)) : hf_G X Y_X11_fit d k n 91 [none, none] [.int s0] (t, T, I, L, P) Q := by
  refine hf_ireturn dX11_fit_91 rfl rfl ?_
  exact h

set_option maxHeartbeats 4000000 in
theorem w_X11_fit_78 {X : hf_X} {d k n t : Nat} {T : hf_T} {I : hf_I} {L : hf_L} {P : hf_P} {Q : Option Value → hf_M → Prop} {s0 : Int32} (hs : hf_Lay t T P) (h : Q (some (.int s0)) (t, T, I, L, P)) : hf_G X Y_X11_fit d k n 78 [none, none] [.int s0] (t, T, I, L, P) Q := by
  refine hf_ireturn dX11_fit_78 rfl rfl ?_
  exact h

set_option maxHeartbeats 4000000 in
theorem w_X11_over_0 {X : hf_X} {d k n t : Nat} {T : hf_T} {I : hf_I} {L : hf_L} {P : hf_P} {Q : Option Value → hf_M → Prop}  (hs : hf_Lay t T P) (h : hf_G X Y_X8_narrowestColumn d 0 0 0 (hf_en [.ref 136, .int (I 101 14)] 4) [] (t, T, I, L, P) (fun r M => hf_G X Y_X11_over (d + 1) k n 14 [some (.ref 100), none] (r.toList ++ []) M Q)) : hf_G X Y_X11_over (d + 1) k n 0 (hf_en [.ref 100] 2) [] (t, T, I, L, P) Q := by
  show hf_G X Y_X11_over (d + 1) k n 0 [some (.ref 100), none] [] (t, T, I, L, P) Q
  refine hf_aload_n dX11_over_0 rfl rfl ?_
  refine hf_getr (b := 136) (c := 11) (j := 6) dX11_over_1 (hs.2.1 100 _ rfl) (hf_lin hs 100 rfl) (by decide) (by decide) hw371 rfl (hs.2.2 100 6 _ rfl) ?_
  refine hf_aload_n dX11_over_4 rfl rfl ?_
  refine hf_getr (b := 101) (c := 11) (j := 0) dX11_over_5 (hs.2.1 100 _ rfl) (hf_lin hs 100 rfl) (by decide) (by decide) hw365 rfl (hs.2.2 100 0 _ rfl) ?_
  refine hf_geti (c := 1) (j := 14) dX11_over_8 (hs.2.1 101 _ rfl) (hf_lin hs 101 rfl) (by decide) (by decide) hw146 (Or.inl rfl) ?_
  exact hf_callV (c := 8) (as := [.int (I 101 14)]) ok_X8_narrowestColumn dX11_over_11 hw890 hw891 hw892 (hs.2.1 136 _ rfl) (by decide) (hf_lin hs 136 rfl) rfl (Nat.le_of_ble_eq_true rfl) rfl (Nat.le_of_ble_eq_true rfl) (Nat.zero_le _) (Nat.zero_le _) h

set_option maxHeartbeats 4000000 in
theorem w_X11_over_14 {X : hf_X} {d k n t : Nat} {T : hf_T} {I : hf_I} {L : hf_L} {P : hf_P} {Q : Option Value → hf_M → Prop} {s0 : Int32} (hs : hf_Lay t T P) (h : (¬ s0 = (-1) → Q (some (.int (if 0 < (s0 - (I 101 12)) then (s0 - (I 101 12)) else 0))) (t, T, I, L, P)) ∧ (s0 = (-1) → Q (some (.int (-1))) (t, T, I, L, P))) : hf_G X Y_X11_over (d + 1) k n 14 [some (.ref 100), none] [.int s0] (t, T, I, L, P) Q := by
  refine hf_istore_n (l2 := [some (.ref 100), some (.int s0)]) dX11_over_14 rfl (by decide) rfl ?_
  refine hf_iload_n dX11_over_15 rfl rfl ?_
  refine hf_iconst (v := (-1)) dX11_over_16 (by decide) ?_
  refine hf_icmp_ne (tgt := 24) dX11_over_17 (by decide) (fun hc => ?_) (fun hc => ?_)
  · replace h := h.1 hc
    refine hf_iconst (v := 0) dX11_over_24 (by decide) ?_
    refine hf_iload_n dX11_over_25 rfl rfl ?_
    refine hf_aload_n dX11_over_26 rfl rfl ?_
    refine hf_getr (b := 101) (c := 11) (j := 0) dX11_over_27 (hs.2.1 100 _ rfl) (hf_lin hs 100 rfl) (by decide) (by decide) hw365 rfl (hs.2.2 100 0 _ rfl) ?_
    refine hf_geti (c := 1) (j := 12) dX11_over_30 (hs.2.1 101 _ rfl) (hf_lin hs 101 rfl) (by decide) (by decide) hw137 (Or.inl rfl) ?_
    refine hf_isub dX11_over_33 ?_
    refine hf_mmax dX11_over_34 hw905 (Nat.le_of_ble_eq_true rfl) ?_
    refine hf_ireturn dX11_over_37 rfl rfl ?_
    exact h
  · replace h := h.2 hc
    refine hf_iconst (v := (-1)) dX11_over_20 (by decide) ?_
    refine hf_goto (tgt := 37) dX11_over_21 (by decide) ?_
    refine hf_ireturn dX11_over_37 rfl rfl ?_
    exact h

set_option maxHeartbeats 4000000 in
theorem w_X11_narrow_0 {X : hf_X} {d k n t : Nat} {T : hf_T} {I : hf_I} {L : hf_L} {P : hf_P} {Q : Option Value → hf_M → Prop}  (hs : hf_Lay t T P) (h : hf_G X Y_X8_narrowestColumn d 0 0 0 (hf_en [.ref 136, .int (I 101 14)] 4) [] (t, T, I, L, P) (fun r M => hf_G X Y_X11_narrow (d + 1) k n 14 [none] (r.toList ++ []) M Q)) : hf_G X Y_X11_narrow (d + 1) k n 0 (hf_en [.ref 100] 1) [] (t, T, I, L, P) Q := by
  show hf_G X Y_X11_narrow (d + 1) k n 0 [some (.ref 100)] [] (t, T, I, L, P) Q
  refine hf_aload_n dX11_narrow_0 rfl rfl ?_
  refine hf_getr (b := 136) (c := 11) (j := 6) dX11_narrow_1 (hs.2.1 100 _ rfl) (hf_lin hs 100 rfl) (by decide) (by decide) hw371 rfl (hs.2.2 100 6 _ rfl) ?_
  refine hf_aload_n dX11_narrow_4 rfl rfl ?_
  refine hf_getr (b := 101) (c := 11) (j := 0) dX11_narrow_5 (hs.2.1 100 _ rfl) (hf_lin hs 100 rfl) (by decide) (by decide) hw365 rfl (hs.2.2 100 0 _ rfl) ?_
  refine hf_geti (c := 1) (j := 14) dX11_narrow_8 (hs.2.1 101 _ rfl) (hf_lin hs 101 rfl) (by decide) (by decide) hw146 (Or.inl rfl) ?_
  exact hf_callV (c := 8) (as := [.int (I 101 14)]) ok_X8_narrowestColumn dX11_narrow_11 hw890 hw891 hw892 (hs.2.1 136 _ rfl) (by decide) (hf_lin hs 136 rfl) rfl (Nat.le_of_ble_eq_true rfl) rfl (Nat.le_of_ble_eq_true rfl) (Nat.zero_le _) (Nat.zero_le _) (hf_mono (fun r M q => hf_drop (l' := [none]) (by simp [hf_sub]) q) h)

set_option maxHeartbeats 4000000 in
theorem w_X11_narrow_14 {X : hf_X} {d k n t : Nat} {T : hf_T} {I : hf_I} {L : hf_L} {P : hf_P} {Q : Option Value → hf_M → Prop} {s0 : Int32} (hs : hf_Lay t T P) (h : Q (some (.int s0)) (t, T, I, L, P)) : hf_G X Y_X11_narrow d k n 14 [none] [.int s0] (t, T, I, L, P) Q := by
  refine hf_ireturn dX11_narrow_14 rfl rfl ?_
  exact h

set_option maxHeartbeats 4000000 in
theorem w_X11_largest_0 {X : hf_X} {d k n t : Nat} {T : hf_T} {I : hf_I} {L : hf_L} {P : hf_P} {Q : Option Value → hf_M → Prop}  (hs : hf_Lay t T P) (h : hf_G X Y_X11_largest d k n 2 [some (.ref 100), some (.int 2), none] [] (t, T, I, L, P) Q) : hf_G X Y_X11_largest d k n 0 (hf_en [.ref 100] 3) [] (t, T, I, L, P) Q := by
  show hf_G X Y_X11_largest d k n 0 [some (.ref 100), none, none] [] (t, T, I, L, P) Q
  refine hf_iconst (v := 2) dX11_largest_0 (by decide) ?_
  refine hf_istore_n (l2 := [some (.ref 100), some (.int 2), none]) dX11_largest_1 rfl (by decide) rfl ?_
  exact h

set_option maxHeartbeats 4000000 in
theorem w_X11_largest_2 {X : hf_X} {d k n t : Nat} {T : hf_T} {I : hf_I} {L : hf_L} {P : hf_P} {Q : Option Value → hf_M → Prop} {x1 : Int32} (hs : hf_Lay t T P) (h : (x1 < 0 → Q (some (.int (-1))) (t, T, I, L, P)) ∧ (¬ (x1 < 0) → hf_G X Y_X8_narrowestColumn d 0 0 0 (hf_en [.ref 136, .int x1] 4) [] (t, T, I, L, P) (fun r M => hf_G X Y_X11_largest (d + 1) k n 14 [some (.ref 100), some (.int x1), none] (r.toList ++ []) M Q))) : hf_G X Y_X11_largest (d + 1) k n 2 [some (.ref 100), some (.int x1), none] [] (t, T, I, L, P) Q := by
  refine hf_iload_n dX11_largest_2 rfl rfl ?_
  refine hf_if_lt (tgt := 39) dX11_largest_3 (by decide) (fun hc => ?_) (fun hc => ?_)
  · replace h := h.1 hc
    refine hf_iconst (v := (-1)) dX11_largest_39 (by decide) ?_
    refine hf_ireturn dX11_largest_40 rfl rfl ?_
    exact h
  · replace h := h.2 hc
    refine hf_aload_n dX11_largest_6 rfl rfl ?_
    refine hf_getr (b := 136) (c := 11) (j := 6) dX11_largest_7 (hs.2.1 100 _ rfl) (hf_lin hs 100 rfl) (by decide) (by decide) hw371 rfl (hs.2.2 100 6 _ rfl) ?_
    refine hf_iload_n dX11_largest_10 rfl rfl ?_
    exact hf_callV (c := 8) (as := [.int x1]) ok_X8_narrowestColumn dX11_largest_11 hw890 hw891 hw892 (hs.2.1 136 _ rfl) (by decide) (hf_lin hs 136 rfl) rfl (Nat.le_of_ble_eq_true rfl) rfl (Nat.le_of_ble_eq_true rfl) (Nat.zero_le _) (Nat.zero_le _) h

set_option maxHeartbeats 4000000 in
theorem w_X11_largest_14 {X : hf_X} {d k n t : Nat} {T : hf_T} {I : hf_I} {L : hf_L} {P : hf_P} {Q : Option Value → hf_M → Prop} {x1 : Int32} {s0 : Int32} (hs : hf_Lay t T P) (h : (s0 = (-1) → hf_G X Y_X11_largest d k n 2 [some (.ref 100), some (.int (x1 + (-1))), none] [] (t, T, I, L, P) Q) ∧ (¬ (s0 = (-1)) → ((I 101 12) < s0 → hf_G X Y_X11_largest d k n 2 [some (.ref 100), some (.int (x1 + (-1))), none] [] (t, T, I, L, P) Q) ∧ (¬ ((I 101 12) < s0) → Q (some (.int x1)) (t, T, I, L, P)))) : hf_G X Y_X11_largest d k n 14 [some (.ref 100), some (.int x1), none] [.int s0] (t, T, I, L, P) Q := by
  refine hf_istore_n (l2 := [some (.ref 100), some (.int x1), some (.int s0)]) dX11_largest_14 rfl (by decide) rfl ?_
  refine hf_iload_n dX11_largest_15 rfl rfl ?_
  refine hf_iconst (v := (-1)) dX11_largest_16 (by decide) ?_
  refine hf_icmp_eq (tgt := 33) dX11_largest_17 (by decide) (fun hc => ?_) (fun hc => ?_)
  · replace h := h.1 hc
    refine hf_iinc (v := (x1 + (-1))) (l2 := [some (.ref 100), some (.int (x1 + (-1))), some (.int s0)]) dX11_largest_33 (by decide) rfl rfl rfl ?_
    refine hf_goto (tgt := 2) dX11_largest_36 (by decide) ?_
    refine hf_drop (l' := [some (.ref 100), some (.int (x1 + (-1))), none]) (by simp [hf_sub]) ?_
    exact h
  · replace h := h.2 hc
    refine hf_iload_n dX11_largest_20 rfl rfl ?_
    refine hf_aload_n dX11_largest_21 rfl rfl ?_
    refine hf_getr (b := 101) (c := 11) (j := 0) dX11_largest_22 (hs.2.1 100 _ rfl) (hf_lin hs 100 rfl) (by decide) (by decide) hw365 rfl (hs.2.2 100 0 _ rfl) ?_
    refine hf_geti (c := 1) (j := 12) dX11_largest_25 (hs.2.1 101 _ rfl) (hf_lin hs 101 rfl) (by decide) (by decide) hw137 (Or.inl rfl) ?_
    refine hf_icmp_gt (tgt := 33) dX11_largest_28 (by decide) (fun hc => ?_) (fun hc => ?_)
    · replace h := h.1 hc
      refine hf_iinc (v := (x1 + (-1))) (l2 := [some (.ref 100), some (.int (x1 + (-1))), some (.int s0)]) dX11_largest_33 (by decide) rfl rfl rfl ?_
      refine hf_goto (tgt := 2) dX11_largest_36 (by decide) ?_
      refine hf_drop (l' := [some (.ref 100), some (.int (x1 + (-1))), none]) (by simp [hf_sub]) ?_
      exact h
    · replace h := h.2 hc
      refine hf_iload_n dX11_largest_31 rfl rfl ?_
      refine hf_ireturn dX11_largest_32 rfl rfl ?_
      exact h

set_option maxHeartbeats 4000000 in
theorem w_X11_truest_0 {X : hf_X} {d k n t : Nat} {T : hf_T} {I : hf_I} {L : hf_L} {P : hf_P} {Q : Option Value → hf_M → Prop} {x1 : Int32} (hs : hf_Lay t T P) (h : hf_G X Y_X8_solve d 0 0 0 (hf_en [.ref 136, .int (I 100 16)] 4) [] (t, T, I, L, P) (fun r M => hf_G X Y_X11_truest (d + 1) k n 11 [some (.ref 100), some (.int x1), none, none] (r.toList ++ []) M Q)) : hf_G X Y_X11_truest (d + 1) k n 0 (hf_en [.ref 100, .int x1] 4) [] (t, T, I, L, P) Q := by
  show hf_G X Y_X11_truest (d + 1) k n 0 [some (.ref 100), some (.int x1), none, none] [] (t, T, I, L, P) Q
  refine hf_aload_n dX11_truest_0 rfl rfl ?_
  refine hf_getr (b := 136) (c := 11) (j := 6) dX11_truest_1 (hs.2.1 100 _ rfl) (hf_lin hs 100 rfl) (by decide) (by decide) hw371 rfl (hs.2.2 100 6 _ rfl) ?_
  refine hf_aload_n dX11_truest_4 rfl rfl ?_
  refine hf_geti (c := 11) (j := 16) dX11_truest_5 (hs.2.1 100 _ rfl) (hf_lin hs 100 rfl) (by decide) (by decide) hw382 (Or.inl rfl) ?_
  exact hf_callV (c := 8) (as := [.int (I 100 16)]) ok_X8_solve dX11_truest_8 hw808 hw809 hw810 (hs.2.1 136 _ rfl) (by decide) (hf_lin hs 136 rfl) rfl (Nat.le_of_ble_eq_true rfl) rfl (Nat.le_of_ble_eq_true rfl) (Nat.zero_le _) (Nat.zero_le _) h

set_option maxHeartbeats 4000000 in
theorem w_X11_truest_11 {X : hf_X} {d k n t : Nat} {T : hf_T} {I : hf_I} {L : hf_L} {P : hf_P} {Q : Option Value → hf_M → Prop} {x1 : Int32} (hs : hf_Lay t T P) (h : (¬ (I 136 18) = (-1) → hf_G X Y_X11_powerOfTen d 0 0 0 (hf_en [.int (I 101 17)] 3) [] (t, T, I, L, P) (fun r M => hf_G X Y_X11_truest (d + 1) k n 34 [some (.ref 100), some (.int x1), none, none] (r.toList ++ []) M Q)) ∧ ((I 136 18) = (-1) → Q (some (.int (-1))) (t, T, I, L, P))) : hf_G X Y_X11_truest (d + 1) k n 11 [some (.ref 100), some (.int x1), none, none] [] (t, T, I, L, P) Q := by
  refine hf_aload_n dX11_truest_11 rfl rfl ?_
  refine hf_getr (b := 136) (c := 11) (j := 6) dX11_truest_12 (hs.2.1 100 _ rfl) (hf_lin hs 100 rfl) (by decide) (by decide) hw371 rfl (hs.2.2 100 6 _ rfl) ?_
  refine hf_geti (c := 8) (j := 18) dX11_truest_15 (hs.2.1 136 _ rfl) (hf_lin hs 136 rfl) (by decide) (by decide) hw299 (Or.inl rfl) ?_
  refine hf_iconst (v := (-1)) dX11_truest_18 (by decide) ?_
  refine hf_icmp_ne (tgt := 24) dX11_truest_19 (by decide) (fun hc => ?_) (fun hc => ?_)
  · replace h := h.1 hc
    refine hf_aload_n dX11_truest_24 rfl rfl ?_
    refine hf_getr (b := 101) (c := 11) (j := 0) dX11_truest_25 (hs.2.1 100 _ rfl) (hf_lin hs 100 rfl) (by decide) (by decide) hw365 rfl (hs.2.2 100 0 _ rfl) ?_
    refine hf_geti (c := 1) (j := 17) dX11_truest_28 (hs.2.1 101 _ rfl) (hf_lin hs 101 rfl) (by decide) (by decide) hw155 (Or.inl rfl) ?_
    exact hf_callS (as := [.int (I 101 17)]) ok_X11_powerOfTen dX11_truest_31 hw918 hw919 rfl (Nat.le_of_ble_eq_true rfl) rfl (Nat.le_of_ble_eq_true rfl) (Nat.zero_le _) (Nat.zero_le _) h
  · replace h := h.2 hc
    refine hf_iconst (v := (-1)) dX11_truest_22 (by decide) ?_
    refine hf_ireturn dX11_truest_23 rfl rfl ?_
    exact h

set_option maxHeartbeats 4000000 in
theorem w_X11_truest_34 {X : hf_X} {d k n t : Nat} {T : hf_T} {I : hf_I} {L : hf_L} {P : hf_P} {Q : Option Value → hf_M → Prop} {x1 : Int32} {s0 : Int32} (hs : hf_Lay t T P) (h : hf_G X Y_X11_commonDivisor d 0 0 0 (hf_en [.int (I 136 18), .int s0] 6) [] (t, T, I, L, P) (fun r M => hf_G X Y_X11_truest (d + 1) k n 46 [some (.ref 100), some (.int x1), some (.int s0), none] (r.toList ++ []) M Q)) : hf_G X Y_X11_truest (d + 1) k n 34 [some (.ref 100), some (.int x1), none, none] [.int s0] (t, T, I, L, P) Q := by
  refine hf_istore_n (l2 := [some (.ref 100), some (.int x1), some (.int s0), none]) dX11_truest_34 rfl (by decide) rfl ?_
  refine hf_aload_n dX11_truest_35 rfl rfl ?_
  refine hf_getr (b := 136) (c := 11) (j := 6) dX11_truest_36 (hs.2.1 100 _ rfl) (hf_lin hs 100 rfl) (by decide) (by decide) hw371 rfl (hs.2.2 100 6 _ rfl) ?_
  refine hf_geti (c := 8) (j := 18) dX11_truest_39 (hs.2.1 136 _ rfl) (hf_lin hs 136 rfl) (by decide) (by decide) hw299 (Or.inl rfl) ?_
  refine hf_iload_n dX11_truest_42 rfl rfl ?_
  exact hf_callS (as := [.int (I 136 18), .int s0]) ok_X11_commonDivisor dX11_truest_43 hw921 hw922 rfl (Nat.le_of_ble_eq_true rfl) rfl (Nat.le_of_ble_eq_true rfl) (Nat.zero_le _) (Nat.zero_le _) h

set_option maxHeartbeats 4000000 in
theorem w_X11_truest_46 {X : hf_X} {d k n t : Nat} {T : hf_T} {I : hf_I} {L : hf_L} {P : hf_P} {Q : Option Value → hf_M → Prop} {x1 : Int32} {x2 : Int32} {s0 : Int32} (hs : hf_Lay t T P) (h : (¬ x1 = 0 → (¬ x1 = 1 → (¬ x1 = 2 → hf_G X Y_X11_toldIn d 0 0 0 (hf_en [.ref 100, .long (L 136 19), .int x1] 5) [] (t, T, I, L, P) (fun r M => hf_G X Y_X11_truest (d + 1) k n 98 [none, none, none, none] (r.toList ++ []) M Q)) ∧ (x1 = 2 → Q (some (.int (((L 136 19) >>> ((30 : Int32).toInt64 &&& 63)).toInt32))) (t, T, I, L, P))) ∧ (x1 = 1 → ¬ s0 = 0 ∧ (Q (some (.int (x2 / s0))) (t, T, I, L, P)))) ∧ (x1 = 0 → ¬ s0 = 0 ∧ (Q (some (.int ((I 136 18) / s0))) (t, T, I, L, P)))) : hf_G X Y_X11_truest (d + 1) k n 46 [some (.ref 100), some (.int x1), some (.int x2), none] [.int s0] (t, T, I, L, P) Q := by
  refine hf_istore_n (l2 := [some (.ref 100), some (.int x1), some (.int x2), some (.int s0)]) dX11_truest_46 rfl (by decide) rfl ?_
  refine hf_iload_n dX11_truest_47 rfl rfl ?_
  refine hf_if_ne (tgt := 61) dX11_truest_48 (by decide) (fun hc => ?_) (fun hc => ?_)
  · replace h := h.1 hc
    refine hf_iload_n dX11_truest_61 rfl rfl ?_
    refine hf_iconst (v := 1) dX11_truest_62 (by decide) ?_
    refine hf_icmp_ne (tgt := 70) dX11_truest_63 (by decide) (fun hc => ?_) (fun hc => ?_)
    · replace h := h.1 hc
      refine hf_iload_n dX11_truest_70 rfl rfl ?_
      refine hf_iconst (v := 2) dX11_truest_71 (by decide) ?_
      refine hf_icmp_ne (tgt := 86) dX11_truest_72 (by decide) (fun hc => ?_) (fun hc => ?_)
      · replace h := h.1 hc
        refine hf_aload_n dX11_truest_86 rfl rfl ?_
        refine hf_aload_n dX11_truest_87 rfl rfl ?_
        refine hf_getr (b := 136) (c := 11) (j := 6) dX11_truest_88 (hs.2.1 100 _ rfl) (hf_lin hs 100 rfl) (by decide) (by decide) hw371 rfl (hs.2.2 100 6 _ rfl) ?_
        refine hf_getl (c := 8) (j := 19) dX11_truest_91 (hs.2.1 136 _ rfl) (hf_lin hs 136 rfl) (by decide) (by decide) hw301 rfl ?_
        refine hf_iload_n dX11_truest_94 rfl rfl ?_
        exact hf_callV (c := 11) (as := [.long (L 136 19), .int x1]) ok_X11_toldIn dX11_truest_95 hw881 hw882 hw1597 (hs.2.1 100 _ rfl) (by decide) (hf_lin hs 100 rfl) rfl (Nat.le_of_ble_eq_true rfl) rfl (Nat.le_of_ble_eq_true rfl) (Nat.zero_le _) (Nat.zero_le _) (hf_mono (fun r M q => hf_drop (l' := [none, none, none, none]) (by simp [hf_sub]) q) h)
      · replace h := h.2 hc
        refine hf_aload_n dX11_truest_75 rfl rfl ?_
        refine hf_getr (b := 136) (c := 11) (j := 6) dX11_truest_76 (hs.2.1 100 _ rfl) (hf_lin hs 100 rfl) (by decide) (by decide) hw371 rfl (hs.2.2 100 6 _ rfl) ?_
        refine hf_getl (c := 8) (j := 19) dX11_truest_79 (hs.2.1 136 _ rfl) (hf_lin hs 136 rfl) (by decide) (by decide) hw301 rfl ?_
        refine hf_callS (as := [.long (L 136 19)]) ok_X11_costIn dX11_truest_82 hw868 hw869 rfl (Nat.le_of_ble_eq_true rfl) rfl (Nat.le_of_ble_eq_true rfl) (Nat.zero_le _) (Nat.zero_le _) ?_
        show hf_G X Y_X11_costIn d _ _ 0 [some (.long (L 136 19)), none] [] (t, T, I, L, P) _
        refine hf_lload_n dX11_costIn_0 rfl rfl ?_
        refine hf_bipush (v := 30) dX11_costIn_1 (by decide) ?_
        refine hf_lshr dX11_costIn_3 rfl ?_
        refine hf_l2i dX11_costIn_4 ?_
        refine hf_ireturn dX11_costIn_5 rfl rfl ?_
        show hf_G X Y_X11_truest (d + 1) _ _ 85 [some (.ref 100), some (.int x1), some (.int x2), some (.int s0)] [.int (((L 136 19) >>> ((30 : Int32).toInt64 &&& 63)).toInt32)] (t, T, I, L, P) _
        refine hf_ireturn dX11_truest_85 rfl rfl ?_
        exact h
    · replace h := h.2 hc
      refine hf_iload_n dX11_truest_66 rfl rfl ?_
      refine hf_iload_n dX11_truest_67 rfl rfl ?_
      refine hf_idiv dX11_truest_68 h.1 ?_
      replace h := h.2
      refine hf_ireturn dX11_truest_69 rfl rfl ?_
      exact h
  · replace h := h.2 hc
    refine hf_aload_n dX11_truest_51 rfl rfl ?_
    refine hf_getr (b := 136) (c := 11) (j := 6) dX11_truest_52 (hs.2.1 100 _ rfl) (hf_lin hs 100 rfl) (by decide) (by decide) hw371 rfl (hs.2.2 100 6 _ rfl) ?_
    refine hf_geti (c := 8) (j := 18) dX11_truest_55 (hs.2.1 136 _ rfl) (hf_lin hs 136 rfl) (by decide) (by decide) hw299 (Or.inl rfl) ?_
    refine hf_iload_n dX11_truest_58 rfl rfl ?_
    refine hf_idiv dX11_truest_59 h.1 ?_
    replace h := h.2
    refine hf_ireturn dX11_truest_60 rfl rfl ?_
    exact h

set_option maxHeartbeats 4000000 in
theorem w_X11_truest_98 {X : hf_X} {d k n t : Nat} {T : hf_T} {I : hf_I} {L : hf_L} {P : hf_P} {Q : Option Value → hf_M → Prop} {s0 : Int32} (hs : hf_Lay t T P) (h : Q (some (.int s0)) (t, T, I, L, P)) : hf_G X Y_X11_truest d k n 98 [none, none, none, none] [.int s0] (t, T, I, L, P) Q := by
  refine hf_ireturn dX11_truest_98 rfl rfl ?_
  exact h

set_option maxHeartbeats 4000000 in
theorem w_X11_says_0 {X : hf_X} {d k n t : Nat} {T : hf_T} {I : hf_I} {L : hf_L} {P : hf_P} {Q : Option Value → hf_M → Prop} {x1 : Int32} {x2 : Int32} (hs : hf_Lay t T P) (h : (x1 < 1 → Q (some (.int (-1))) (t, T, I, L, P)) ∧ (¬ (x1 < 1) → (400 < x1 → Q (some (.int (-1))) (t, T, I, L, P)) ∧ (¬ (400 < x1) → (x2 < 0 → Q (some (.int (-1))) (t, T, I, L, P)) ∧ (¬ (x2 < 0) → (2 < x2 → Q (some (.int (-1))) (t, T, I, L, P)) ∧ (¬ (2 < x2) → hf_G X Y_X8_mostWorth d 0 0 0 (hf_en [.ref 136, .int x1] 5) [] (t, T, I, L, P) (fun r M => hf_G X Y_X11_says (d + 1) k n 30 [some (.ref 100), none, some (.int x2), none] (r.toList ++ []) M Q)))))) : hf_G X Y_X11_says (d + 1) k n 0 (hf_en [.ref 100, .int x1, .int x2] 4) [] (t, T, I, L, P) Q := by
  show hf_G X Y_X11_says (d + 1) k n 0 [some (.ref 100), some (.int x1), some (.int x2), none] [] (t, T, I, L, P) Q
  refine hf_iload_n dX11_says_0 rfl rfl ?_
  refine hf_iconst (v := 1) dX11_says_1 (by decide) ?_
  refine hf_sipush (v := 400) dX11_says_2 (by decide) ?_
  refine hf_callS (as := [.int x1, .int 1, .int 400]) ok_X11_within dX11_says_5 hw405 hw406 rfl (Nat.le_of_ble_eq_true rfl) rfl (Nat.le_of_ble_eq_true rfl) (Nat.zero_le _) (Nat.zero_le _) ?_
  show hf_G X Y_X11_within d _ _ 0 [some (.int x1), some (.int 1), some (.int 400)] [] (t, T, I, L, P) _
  refine hf_iload_n dX11_within_0 rfl rfl ?_
  refine hf_iload_n dX11_within_1 rfl rfl ?_
  refine hf_icmp_lt (tgt := 14) dX11_within_2 (by decide) (fun hc => ?_) (fun hc => ?_)
  · replace h := h.1 hc
    refine hf_iconst (v := 0) dX11_within_14 (by decide) ?_
    refine hf_ireturn dX11_within_15 rfl (by decide) ?_
    show hf_G X Y_X11_says (d + 1) _ _ 8 [some (.ref 100), some (.int x1), some (.int x2), none] [.int 0] (t, T, I, L, P) _
    refine hf_if_eq (tgt := 20) dX11_says_8 (by decide) (fun _ => ?_) (fun hc => absurd (show (0 : Int32) = (0 : Int32) by decide) hc)
    refine hf_iconst (v := (-1)) dX11_says_20 (by decide) ?_
    refine hf_ireturn dX11_says_21 rfl rfl ?_
    exact h
  · replace h := h.2 hc
    refine hf_iload_n dX11_within_5 rfl rfl ?_
    refine hf_iload_n dX11_within_6 rfl rfl ?_
    refine hf_icmp_gt (tgt := 14) dX11_within_7 (by decide) (fun hc => ?_) (fun hc => ?_)
    · replace h := h.1 hc
      refine hf_iconst (v := 0) dX11_within_14 (by decide) ?_
      refine hf_ireturn dX11_within_15 rfl (by decide) ?_
      show hf_G X Y_X11_says (d + 1) _ _ 8 [some (.ref 100), some (.int x1), some (.int x2), none] [.int 0] (t, T, I, L, P) _
      refine hf_if_eq (tgt := 20) dX11_says_8 (by decide) (fun _ => ?_) (fun hc => absurd (show (0 : Int32) = (0 : Int32) by decide) hc)
      refine hf_iconst (v := (-1)) dX11_says_20 (by decide) ?_
      refine hf_ireturn dX11_says_21 rfl rfl ?_
      exact h
    · replace h := h.2 hc
      refine hf_iconst (v := 1) dX11_within_10 (by decide) ?_
      refine hf_goto (tgt := 15) dX11_within_11 (by decide) ?_
      refine hf_ireturn dX11_within_15 rfl (by decide) ?_
      show hf_G X Y_X11_says (d + 1) _ _ 8 [some (.ref 100), some (.int x1), some (.int x2), none] [.int 1] (t, T, I, L, P) _
      refine hf_if_eq (tgt := 20) dX11_says_8 (by decide) (fun hc => absurd (show (1 : Int32) = (0 : Int32) from hc) (by decide)) (fun _ => ?_)
      refine hf_iload_n dX11_says_11 rfl rfl ?_
      refine hf_iconst (v := 0) dX11_says_12 (by decide) ?_
      refine hf_iconst (v := 2) dX11_says_13 (by decide) ?_
      refine hf_callS (as := [.int x2, .int 0, .int 2]) ok_X11_within dX11_says_14 hw405 hw406 rfl (Nat.le_of_ble_eq_true rfl) rfl (Nat.le_of_ble_eq_true rfl) (Nat.zero_le _) (Nat.zero_le _) ?_
      show hf_G X Y_X11_within d _ _ 0 [some (.int x2), some (.int 0), some (.int 2)] [] (t, T, I, L, P) _
      refine hf_iload_n dX11_within_0 rfl rfl ?_
      refine hf_iload_n dX11_within_1 rfl rfl ?_
      refine hf_icmp_lt (tgt := 14) dX11_within_2 (by decide) (fun hc => ?_) (fun hc => ?_)
      · replace h := h.1 hc
        refine hf_iconst (v := 0) dX11_within_14 (by decide) ?_
        refine hf_ireturn dX11_within_15 rfl (by decide) ?_
        show hf_G X Y_X11_says (d + 1) _ _ 17 [some (.ref 100), some (.int x1), some (.int x2), none] [.int 0] (t, T, I, L, P) _
        refine hf_if_ne (tgt := 22) dX11_says_17 (by decide) (fun hc => absurd (show ¬ (0 : Int32) = (0 : Int32) from hc) (by decide)) (fun _ => ?_)
        refine hf_iconst (v := (-1)) dX11_says_20 (by decide) ?_
        refine hf_ireturn dX11_says_21 rfl rfl ?_
        exact h
      · replace h := h.2 hc
        refine hf_iload_n dX11_within_5 rfl rfl ?_
        refine hf_iload_n dX11_within_6 rfl rfl ?_
        refine hf_icmp_gt (tgt := 14) dX11_within_7 (by decide) (fun hc => ?_) (fun hc => ?_)
        · replace h := h.1 hc
          refine hf_iconst (v := 0) dX11_within_14 (by decide) ?_
          refine hf_ireturn dX11_within_15 rfl (by decide) ?_
          show hf_G X Y_X11_says (d + 1) _ _ 17 [some (.ref 100), some (.int x1), some (.int x2), none] [.int 0] (t, T, I, L, P) _
          refine hf_if_ne (tgt := 22) dX11_says_17 (by decide) (fun hc => absurd (show ¬ (0 : Int32) = (0 : Int32) from hc) (by decide)) (fun _ => ?_)
          refine hf_iconst (v := (-1)) dX11_says_20 (by decide) ?_
          refine hf_ireturn dX11_says_21 rfl rfl ?_
          exact h
        · replace h := h.2 hc
          refine hf_iconst (v := 1) dX11_within_10 (by decide) ?_
          refine hf_goto (tgt := 15) dX11_within_11 (by decide) ?_
          refine hf_ireturn dX11_within_15 rfl (by decide) ?_
          show hf_G X Y_X11_says (d + 1) _ _ 17 [some (.ref 100), some (.int x1), some (.int x2), none] [.int 1] (t, T, I, L, P) _
          refine hf_if_ne (tgt := 22) dX11_says_17 (by decide) (fun _ => ?_) (fun hc => absurd (show (1 : Int32) = (0 : Int32) from hc) (by decide))
          refine hf_aload_n dX11_says_22 rfl rfl ?_
          refine hf_getr (b := 136) (c := 11) (j := 6) dX11_says_23 (hs.2.1 100 _ rfl) (hf_lin hs 100 rfl) (by decide) (by decide) hw371 rfl (hs.2.2 100 6 _ rfl) ?_
          refine hf_iload_n dX11_says_26 rfl rfl ?_
          exact hf_callV (c := 8) (as := [.int x1]) ok_X8_mostWorth dX11_says_27 hw928 hw929 hw930 (hs.2.1 136 _ rfl) (by decide) (hf_lin hs 136 rfl) rfl (Nat.le_of_ble_eq_true rfl) rfl (Nat.le_of_ble_eq_true rfl) (Nat.zero_le _) (Nat.zero_le _) (hf_mono (fun r M q => hf_drop (l' := [some (.ref 100), none, some (.int x2), none]) (by simp [hf_sub]) q) h)

set_option maxHeartbeats 4000000 in
theorem w_X11_says_30 {X : hf_X} {d k n t : Nat} {T : hf_T} {I : hf_I} {L : hf_L} {P : hf_P} {Q : Option Value → hf_M → Prop} {x2 : Int32} {s0 : Int32} (hs : hf_Lay t T P) (h : (¬ x2 = 0 → (¬ x2 = 1 → hf_G X Y_X8_widthOf d 0 0 0 (hf_en [.ref 136, .int s0] 4) [] (t, T, I, L, P) (fun r M => hf_G X Y_X11_says (d + 1) k n 61 [none, none, none, none] (r.toList ++ []) M Q)) ∧ (x2 = 1 → Q (some (.int s0)) (t, T, I, L, P))) ∧ (x2 = 0 → hf_G X Y_X8_worthOf d 0 0 0 (hf_en [.ref 136, .int s0] 4) [] (t, T, I, L, P) (fun r M => hf_G X Y_X11_says (d + 1) k n 43 [none, none, none, none] (r.toList ++ []) M Q))) : hf_G X Y_X11_says (d + 1) k n 30 [some (.ref 100), none, some (.int x2), none] [.int s0] (t, T, I, L, P) Q := by
  refine hf_istore_n (l2 := [some (.ref 100), none, some (.int x2), some (.int s0)]) dX11_says_30 rfl (by decide) rfl ?_
  refine hf_iload_n dX11_says_31 rfl rfl ?_
  refine hf_if_ne (tgt := 44) dX11_says_32 (by decide) (fun hc => ?_) (fun hc => ?_)
  · replace h := h.1 hc
    refine hf_iload_n dX11_says_44 rfl rfl ?_
    refine hf_iconst (v := 1) dX11_says_45 (by decide) ?_
    refine hf_icmp_ne (tgt := 53) dX11_says_46 (by decide) (fun hc => ?_) (fun hc => ?_)
    · replace h := h.1 hc
      refine hf_aload_n dX11_says_53 rfl rfl ?_
      refine hf_getr (b := 136) (c := 11) (j := 6) dX11_says_54 (hs.2.1 100 _ rfl) (hf_lin hs 100 rfl) (by decide) (by decide) hw371 rfl (hs.2.2 100 6 _ rfl) ?_
      refine hf_iload_n dX11_says_57 rfl rfl ?_
      exact hf_callV (c := 8) (as := [.int s0]) ok_X8_widthOf dX11_says_58 hw941 hw933 hw934 (hs.2.1 136 _ rfl) (by decide) (hf_lin hs 136 rfl) rfl (Nat.le_of_ble_eq_true rfl) rfl (Nat.le_of_ble_eq_true rfl) (Nat.zero_le _) (Nat.zero_le _) (hf_mono (fun r M q => hf_drop (l' := [none, none, none, none]) (by simp [hf_sub]) q) h)
    · replace h := h.2 hc
      refine hf_iload_n dX11_says_49 rfl rfl ?_
      refine hf_goto (tgt := 61) dX11_says_50 (by decide) ?_
      refine hf_ireturn dX11_says_61 rfl rfl ?_
      exact h
  · replace h := h.2 hc
    refine hf_aload_n dX11_says_35 rfl rfl ?_
    refine hf_getr (b := 136) (c := 11) (j := 6) dX11_says_36 (hs.2.1 100 _ rfl) (hf_lin hs 100 rfl) (by decide) (by decide) hw371 rfl (hs.2.2 100 6 _ rfl) ?_
    refine hf_iload_n dX11_says_39 rfl rfl ?_
    exact hf_callV (c := 8) (as := [.int s0]) ok_X8_worthOf dX11_says_40 hw940 hw937 hw938 (hs.2.1 136 _ rfl) (by decide) (hf_lin hs 136 rfl) rfl (Nat.le_of_ble_eq_true rfl) rfl (Nat.le_of_ble_eq_true rfl) (Nat.zero_le _) (Nat.zero_le _) (hf_mono (fun r M q => hf_drop (l' := [none, none, none, none]) (by simp [hf_sub]) q) h)

set_option maxHeartbeats 4000000 in
theorem w_X11_says_61 {X : hf_X} {d k n t : Nat} {T : hf_T} {I : hf_I} {L : hf_L} {P : hf_P} {Q : Option Value → hf_M → Prop} {s0 : Int32} (hs : hf_Lay t T P) (h : Q (some (.int s0)) (t, T, I, L, P)) : hf_G X Y_X11_says d k n 61 [none, none, none, none] [.int s0] (t, T, I, L, P) Q := by
  refine hf_ireturn dX11_says_61 rfl rfl ?_
  exact h

set_option maxHeartbeats 4000000 in
theorem w_X11_says_43 {X : hf_X} {d k n t : Nat} {T : hf_T} {I : hf_I} {L : hf_L} {P : hf_P} {Q : Option Value → hf_M → Prop} {s0 : Int32} (hs : hf_Lay t T P) (h : Q (some (.int s0)) (t, T, I, L, P)) : hf_G X Y_X11_says d k n 43 [none, none, none, none] [.int s0] (t, T, I, L, P) Q := by
  refine hf_ireturn dX11_says_43 rfl rfl ?_
  exact h

set_option maxHeartbeats 4000000 in
theorem w_X11_seen_0 {X : hf_X} {d k n t : Nat} {T : hf_T} {I : hf_I} {L : hf_L} {P : hf_P} {Q : Option Value → hf_M → Prop} {x1 : Int32} {x2 : Int32} (hs : hf_Lay t T P) (h : (x1 < 0 → Q (some (.int (-1))) (t, T, (hf_up (hf_up I 100 15 (-1)) 155 0 ((I 155 0) + 1)), L, P)) ∧ (¬ (x1 < 0) → (3 < x1 → Q (some (.int (-1))) (t, T, (hf_up (hf_up I 100 15 (-1)) 155 0 ((I 155 0) + 1)), L, P)) ∧ (¬ (3 < x1) → (x2 < 0 → Q (some (.int (-1))) (t, T, (hf_up (hf_up I 100 15 (-1)) 155 0 ((I 155 0) + 1)), L, P)) ∧ (¬ (x2 < 0) → (999 < x2 → Q (some (.int (-1))) (t, T, (hf_up (hf_up I 100 15 (-1)) 155 0 ((I 155 0) + 1)), L, P)) ∧ (¬ (999 < x2) → ((I 101 18) < 4 → vp_in (2 * (I 101 18)) 8 ∧ (vp_in ((2 * (I 101 18)) + 1) 8 ∧ (Q (some (.int ((I 101 18) + 1))) (t, T, (hf_up (hf_up (hf_up (hf_up (hf_up I 117 (((2 * (I 101 18))).toNatClampNeg) x1) 117 ((((2 * (I 101 18)) + 1)).toNatClampNeg) x2) 101 18 ((I 101 18) + 1)) 100 15 0) 100 16 ((I 100 16) + 1)), L, P)))) ∧ (¬ ((I 101 18) < 4) → Q (some (.int (-5))) (t, T, (hf_up (hf_up I 100 15 (-5)) 155 3 ((I 155 3) + 1)), L, P))))))) : hf_G X Y_X11_seen (d + 2) k n 0 (hf_en [.ref 100, .int x1, .int x2] 3) [] (t, T, I, L, P) Q := by
  show hf_G X Y_X11_seen (d + 2) k n 0 [some (.ref 100), some (.int x1), some (.int x2)] [] (t, T, I, L, P) Q
  refine hf_iload_n dX11_seen_0 rfl rfl ?_
  refine hf_iconst (v := 0) dX11_seen_1 (by decide) ?_
  refine hf_iconst (v := 3) dX11_seen_2 (by decide) ?_
  refine hf_callS (as := [.int x1, .int 0, .int 3]) ok_X11_within dX11_seen_3 hw405 hw406 rfl (Nat.le_of_ble_eq_true rfl) rfl (Nat.le_of_ble_eq_true rfl) (Nat.zero_le _) (Nat.zero_le _) ?_
  show hf_G X Y_X11_within (d + 1) _ _ 0 [some (.int x1), some (.int 0), some (.int 3)] [] (t, T, I, L, P) _
  refine hf_iload_n dX11_within_0 rfl rfl ?_
  refine hf_iload_n dX11_within_1 rfl rfl ?_
  refine hf_icmp_lt (tgt := 14) dX11_within_2 (by decide) (fun hc => ?_) (fun hc => ?_)
  · replace h := h.1 hc
    refine hf_iconst (v := 0) dX11_within_14 (by decide) ?_
    refine hf_ireturn dX11_within_15 rfl (by decide) ?_
    show hf_G X Y_X11_seen (d + 2) _ _ 6 [some (.ref 100), some (.int x1), some (.int x2)] [.int 0] (t, T, I, L, P) _
    refine hf_if_eq (tgt := 20) dX11_seen_6 (by decide) (fun _ => ?_) (fun hc => absurd (show (0 : Int32) = (0 : Int32) by decide) hc)
    refine hf_aload_n dX11_seen_20 rfl rfl ?_
    refine hf_iconst (v := (-1)) dX11_seen_21 (by decide) ?_
    refine hf_callV (c := 11) (as := [.int (-1)]) ok_X11_refuse dX11_seen_22 hw408 hw409 hw1553 (hs.2.1 100 _ rfl) (by decide) (hf_lin hs 100 rfl) rfl (Nat.le_of_ble_eq_true rfl) rfl (Nat.le_of_ble_eq_true rfl) (Nat.zero_le _) (Nat.zero_le _) ?_
    show hf_G X Y_X11_refuse (d + 1) _ _ 0 [some (.ref 100), some (.int (-1))] [] (t, T, I, L, P) _
    refine hf_aload_n dX11_refuse_0 rfl rfl ?_
    refine hf_iload_n dX11_refuse_1 rfl rfl ?_
    refine hf_puti (c := 11) (j := 15) dX11_refuse_2 (hs.2.1 100 _ rfl) (hf_lin hs 100 rfl) (by decide) (by decide) hw381 rfl rfl ?_
    refine hf_aload_n dX11_refuse_5 rfl rfl ?_
    refine hf_getr (b := 155) (c := 11) (j := 12) dX11_refuse_6 (hs.2.1 100 _ rfl) (hf_lin hs 100 rfl) (by decide) (by decide) hw377 rfl (hs.2.2 100 12 _ rfl) ?_
    refine hf_iload_n dX11_refuse_9 rfl rfl ?_
    refine hf_callS (as := [.int (-1)]) ok_X11_refusalPlace dX11_refuse_10 hw411 hw412 rfl (Nat.le_of_ble_eq_true rfl) rfl (Nat.le_of_ble_eq_true rfl) (Nat.zero_le _) (Nat.zero_le _) ?_
    show hf_G X Y_X11_refusalPlace d _ _ 0 [some (.int (-1))] [] (t, T, (hf_up I 100 15 (-1)), L, P) _
    refine hf_iload_n dX11_refusalPlace_0 rfl rfl ?_
    refine hf_tableOut (tgt := 44) dX11_refusalPlace_1 (by decide) (by decide) ?_
    refine hf_iconst (v := 0) dX11_refusalPlace_44 (by decide) ?_
    refine hf_ireturn dX11_refusalPlace_45 rfl rfl ?_
    show hf_G X Y_X11_refuse (d + 1) _ _ 13 [some (.ref 100), some (.int (-1))] [.int 0, .ref 155] (t, T, (hf_up I 100 15 (-1)), L, P) _
    refine hf_dup2 dX11_refuse_13 rfl rfl ?_
    refine hf_iald_k (j := 0) (by decide) dX11_refuse_14 (hs.2.1 155 _ rfl) (hf_lin hs 155 rfl) (hf_vin (by decide)) ?_
    refine hf_iconst (v := 1) dX11_refuse_15 (by decide) ?_
    refine hf_iadd dX11_refuse_16 ?_
    refine hf_iast_k (j := 0) (by decide) dX11_refuse_17 (hs.2.1 155 _ rfl) (hf_lin hs 155 rfl) (hf_vin (by decide)) ?_
    refine hf_iload_n dX11_refuse_18 rfl rfl ?_
    refine hf_ireturn dX11_refuse_19 rfl rfl ?_
    show hf_G X Y_X11_seen (d + 2) _ _ 25 [some (.ref 100), some (.int x1), some (.int x2)] [.int (-1)] (t, T, (hf_up (hf_up I 100 15 (-1)) 155 0 ((I 155 0) + 1)), L, P) _
    refine hf_ireturn dX11_seen_25 rfl rfl ?_
    exact h
  · replace h := h.2 hc
    refine hf_iload_n dX11_within_5 rfl rfl ?_
    refine hf_iload_n dX11_within_6 rfl rfl ?_
    refine hf_icmp_gt (tgt := 14) dX11_within_7 (by decide) (fun hc => ?_) (fun hc => ?_)
    · replace h := h.1 hc
      refine hf_iconst (v := 0) dX11_within_14 (by decide) ?_
      refine hf_ireturn dX11_within_15 rfl (by decide) ?_
      show hf_G X Y_X11_seen (d + 2) _ _ 6 [some (.ref 100), some (.int x1), some (.int x2)] [.int 0] (t, T, I, L, P) _
      refine hf_if_eq (tgt := 20) dX11_seen_6 (by decide) (fun _ => ?_) (fun hc => absurd (show (0 : Int32) = (0 : Int32) by decide) hc)
      refine hf_aload_n dX11_seen_20 rfl rfl ?_
      refine hf_iconst (v := (-1)) dX11_seen_21 (by decide) ?_
      refine hf_callV (c := 11) (as := [.int (-1)]) ok_X11_refuse dX11_seen_22 hw408 hw409 hw1553 (hs.2.1 100 _ rfl) (by decide) (hf_lin hs 100 rfl) rfl (Nat.le_of_ble_eq_true rfl) rfl (Nat.le_of_ble_eq_true rfl) (Nat.zero_le _) (Nat.zero_le _) ?_
      show hf_G X Y_X11_refuse (d + 1) _ _ 0 [some (.ref 100), some (.int (-1))] [] (t, T, I, L, P) _
      refine hf_aload_n dX11_refuse_0 rfl rfl ?_
      refine hf_iload_n dX11_refuse_1 rfl rfl ?_
      refine hf_puti (c := 11) (j := 15) dX11_refuse_2 (hs.2.1 100 _ rfl) (hf_lin hs 100 rfl) (by decide) (by decide) hw381 rfl rfl ?_
      refine hf_aload_n dX11_refuse_5 rfl rfl ?_
      refine hf_getr (b := 155) (c := 11) (j := 12) dX11_refuse_6 (hs.2.1 100 _ rfl) (hf_lin hs 100 rfl) (by decide) (by decide) hw377 rfl (hs.2.2 100 12 _ rfl) ?_
      refine hf_iload_n dX11_refuse_9 rfl rfl ?_
      refine hf_callS (as := [.int (-1)]) ok_X11_refusalPlace dX11_refuse_10 hw411 hw412 rfl (Nat.le_of_ble_eq_true rfl) rfl (Nat.le_of_ble_eq_true rfl) (Nat.zero_le _) (Nat.zero_le _) ?_
      show hf_G X Y_X11_refusalPlace d _ _ 0 [some (.int (-1))] [] (t, T, (hf_up I 100 15 (-1)), L, P) _
      refine hf_iload_n dX11_refusalPlace_0 rfl rfl ?_
      refine hf_tableOut (tgt := 44) dX11_refusalPlace_1 (by decide) (by decide) ?_
      refine hf_iconst (v := 0) dX11_refusalPlace_44 (by decide) ?_
      refine hf_ireturn dX11_refusalPlace_45 rfl rfl ?_
      show hf_G X Y_X11_refuse (d + 1) _ _ 13 [some (.ref 100), some (.int (-1))] [.int 0, .ref 155] (t, T, (hf_up I 100 15 (-1)), L, P) _
      refine hf_dup2 dX11_refuse_13 rfl rfl ?_
      refine hf_iald_k (j := 0) (by decide) dX11_refuse_14 (hs.2.1 155 _ rfl) (hf_lin hs 155 rfl) (hf_vin (by decide)) ?_
      refine hf_iconst (v := 1) dX11_refuse_15 (by decide) ?_
      refine hf_iadd dX11_refuse_16 ?_
      refine hf_iast_k (j := 0) (by decide) dX11_refuse_17 (hs.2.1 155 _ rfl) (hf_lin hs 155 rfl) (hf_vin (by decide)) ?_
      refine hf_iload_n dX11_refuse_18 rfl rfl ?_
      refine hf_ireturn dX11_refuse_19 rfl rfl ?_
      show hf_G X Y_X11_seen (d + 2) _ _ 25 [some (.ref 100), some (.int x1), some (.int x2)] [.int (-1)] (t, T, (hf_up (hf_up I 100 15 (-1)) 155 0 ((I 155 0) + 1)), L, P) _
      refine hf_ireturn dX11_seen_25 rfl rfl ?_
      exact h
    · replace h := h.2 hc
      refine hf_iconst (v := 1) dX11_within_10 (by decide) ?_
      refine hf_goto (tgt := 15) dX11_within_11 (by decide) ?_
      refine hf_ireturn dX11_within_15 rfl (by decide) ?_
      show hf_G X Y_X11_seen (d + 2) _ _ 6 [some (.ref 100), some (.int x1), some (.int x2)] [.int 1] (t, T, I, L, P) _
      refine hf_if_eq (tgt := 20) dX11_seen_6 (by decide) (fun hc => absurd (show (1 : Int32) = (0 : Int32) from hc) (by decide)) (fun _ => ?_)
      refine hf_iload_n dX11_seen_9 rfl rfl ?_
      refine hf_iconst (v := 0) dX11_seen_10 (by decide) ?_
      refine hf_sipush (v := 999) dX11_seen_11 (by decide) ?_
      refine hf_callS (as := [.int x2, .int 0, .int 999]) ok_X11_within dX11_seen_14 hw405 hw406 rfl (Nat.le_of_ble_eq_true rfl) rfl (Nat.le_of_ble_eq_true rfl) (Nat.zero_le _) (Nat.zero_le _) ?_
      show hf_G X Y_X11_within (d + 1) _ _ 0 [some (.int x2), some (.int 0), some (.int 999)] [] (t, T, I, L, P) _
      refine hf_iload_n dX11_within_0 rfl rfl ?_
      refine hf_iload_n dX11_within_1 rfl rfl ?_
      refine hf_icmp_lt (tgt := 14) dX11_within_2 (by decide) (fun hc => ?_) (fun hc => ?_)
      · replace h := h.1 hc
        refine hf_iconst (v := 0) dX11_within_14 (by decide) ?_
        refine hf_ireturn dX11_within_15 rfl (by decide) ?_
        show hf_G X Y_X11_seen (d + 2) _ _ 17 [some (.ref 100), some (.int x1), some (.int x2)] [.int 0] (t, T, I, L, P) _
        refine hf_if_ne (tgt := 26) dX11_seen_17 (by decide) (fun hc => absurd (show ¬ (0 : Int32) = (0 : Int32) from hc) (by decide)) (fun _ => ?_)
        refine hf_aload_n dX11_seen_20 rfl rfl ?_
        refine hf_iconst (v := (-1)) dX11_seen_21 (by decide) ?_
        refine hf_callV (c := 11) (as := [.int (-1)]) ok_X11_refuse dX11_seen_22 hw408 hw409 hw1553 (hs.2.1 100 _ rfl) (by decide) (hf_lin hs 100 rfl) rfl (Nat.le_of_ble_eq_true rfl) rfl (Nat.le_of_ble_eq_true rfl) (Nat.zero_le _) (Nat.zero_le _) ?_
        show hf_G X Y_X11_refuse (d + 1) _ _ 0 [some (.ref 100), some (.int (-1))] [] (t, T, I, L, P) _
        refine hf_aload_n dX11_refuse_0 rfl rfl ?_
        refine hf_iload_n dX11_refuse_1 rfl rfl ?_
        refine hf_puti (c := 11) (j := 15) dX11_refuse_2 (hs.2.1 100 _ rfl) (hf_lin hs 100 rfl) (by decide) (by decide) hw381 rfl rfl ?_
        refine hf_aload_n dX11_refuse_5 rfl rfl ?_
        refine hf_getr (b := 155) (c := 11) (j := 12) dX11_refuse_6 (hs.2.1 100 _ rfl) (hf_lin hs 100 rfl) (by decide) (by decide) hw377 rfl (hs.2.2 100 12 _ rfl) ?_
        refine hf_iload_n dX11_refuse_9 rfl rfl ?_
        refine hf_callS (as := [.int (-1)]) ok_X11_refusalPlace dX11_refuse_10 hw411 hw412 rfl (Nat.le_of_ble_eq_true rfl) rfl (Nat.le_of_ble_eq_true rfl) (Nat.zero_le _) (Nat.zero_le _) ?_
        show hf_G X Y_X11_refusalPlace d _ _ 0 [some (.int (-1))] [] (t, T, (hf_up I 100 15 (-1)), L, P) _
        refine hf_iload_n dX11_refusalPlace_0 rfl rfl ?_
        refine hf_tableOut (tgt := 44) dX11_refusalPlace_1 (by decide) (by decide) ?_
        refine hf_iconst (v := 0) dX11_refusalPlace_44 (by decide) ?_
        refine hf_ireturn dX11_refusalPlace_45 rfl rfl ?_
        show hf_G X Y_X11_refuse (d + 1) _ _ 13 [some (.ref 100), some (.int (-1))] [.int 0, .ref 155] (t, T, (hf_up I 100 15 (-1)), L, P) _
        refine hf_dup2 dX11_refuse_13 rfl rfl ?_
        refine hf_iald_k (j := 0) (by decide) dX11_refuse_14 (hs.2.1 155 _ rfl) (hf_lin hs 155 rfl) (hf_vin (by decide)) ?_
        refine hf_iconst (v := 1) dX11_refuse_15 (by decide) ?_
        refine hf_iadd dX11_refuse_16 ?_
        refine hf_iast_k (j := 0) (by decide) dX11_refuse_17 (hs.2.1 155 _ rfl) (hf_lin hs 155 rfl) (hf_vin (by decide)) ?_
        refine hf_iload_n dX11_refuse_18 rfl rfl ?_
        refine hf_ireturn dX11_refuse_19 rfl rfl ?_
        show hf_G X Y_X11_seen (d + 2) _ _ 25 [some (.ref 100), some (.int x1), some (.int x2)] [.int (-1)] (t, T, (hf_up (hf_up I 100 15 (-1)) 155 0 ((I 155 0) + 1)), L, P) _
        refine hf_ireturn dX11_seen_25 rfl rfl ?_
        exact h
      · replace h := h.2 hc
        refine hf_iload_n dX11_within_5 rfl rfl ?_
        refine hf_iload_n dX11_within_6 rfl rfl ?_
        refine hf_icmp_gt (tgt := 14) dX11_within_7 (by decide) (fun hc => ?_) (fun hc => ?_)
        · replace h := h.1 hc
          refine hf_iconst (v := 0) dX11_within_14 (by decide) ?_
          refine hf_ireturn dX11_within_15 rfl (by decide) ?_
          show hf_G X Y_X11_seen (d + 2) _ _ 17 [some (.ref 100), some (.int x1), some (.int x2)] [.int 0] (t, T, I, L, P) _
          refine hf_if_ne (tgt := 26) dX11_seen_17 (by decide) (fun hc => absurd (show ¬ (0 : Int32) = (0 : Int32) from hc) (by decide)) (fun _ => ?_)
          refine hf_aload_n dX11_seen_20 rfl rfl ?_
          refine hf_iconst (v := (-1)) dX11_seen_21 (by decide) ?_
          refine hf_callV (c := 11) (as := [.int (-1)]) ok_X11_refuse dX11_seen_22 hw408 hw409 hw1553 (hs.2.1 100 _ rfl) (by decide) (hf_lin hs 100 rfl) rfl (Nat.le_of_ble_eq_true rfl) rfl (Nat.le_of_ble_eq_true rfl) (Nat.zero_le _) (Nat.zero_le _) ?_
          show hf_G X Y_X11_refuse (d + 1) _ _ 0 [some (.ref 100), some (.int (-1))] [] (t, T, I, L, P) _
          refine hf_aload_n dX11_refuse_0 rfl rfl ?_
          refine hf_iload_n dX11_refuse_1 rfl rfl ?_
          refine hf_puti (c := 11) (j := 15) dX11_refuse_2 (hs.2.1 100 _ rfl) (hf_lin hs 100 rfl) (by decide) (by decide) hw381 rfl rfl ?_
          refine hf_aload_n dX11_refuse_5 rfl rfl ?_
          refine hf_getr (b := 155) (c := 11) (j := 12) dX11_refuse_6 (hs.2.1 100 _ rfl) (hf_lin hs 100 rfl) (by decide) (by decide) hw377 rfl (hs.2.2 100 12 _ rfl) ?_
          refine hf_iload_n dX11_refuse_9 rfl rfl ?_
          refine hf_callS (as := [.int (-1)]) ok_X11_refusalPlace dX11_refuse_10 hw411 hw412 rfl (Nat.le_of_ble_eq_true rfl) rfl (Nat.le_of_ble_eq_true rfl) (Nat.zero_le _) (Nat.zero_le _) ?_
          show hf_G X Y_X11_refusalPlace d _ _ 0 [some (.int (-1))] [] (t, T, (hf_up I 100 15 (-1)), L, P) _
          refine hf_iload_n dX11_refusalPlace_0 rfl rfl ?_
          refine hf_tableOut (tgt := 44) dX11_refusalPlace_1 (by decide) (by decide) ?_
          refine hf_iconst (v := 0) dX11_refusalPlace_44 (by decide) ?_
          refine hf_ireturn dX11_refusalPlace_45 rfl rfl ?_
          show hf_G X Y_X11_refuse (d + 1) _ _ 13 [some (.ref 100), some (.int (-1))] [.int 0, .ref 155] (t, T, (hf_up I 100 15 (-1)), L, P) _
          refine hf_dup2 dX11_refuse_13 rfl rfl ?_
          refine hf_iald_k (j := 0) (by decide) dX11_refuse_14 (hs.2.1 155 _ rfl) (hf_lin hs 155 rfl) (hf_vin (by decide)) ?_
          refine hf_iconst (v := 1) dX11_refuse_15 (by decide) ?_
          refine hf_iadd dX11_refuse_16 ?_
          refine hf_iast_k (j := 0) (by decide) dX11_refuse_17 (hs.2.1 155 _ rfl) (hf_lin hs 155 rfl) (hf_vin (by decide)) ?_
          refine hf_iload_n dX11_refuse_18 rfl rfl ?_
          refine hf_ireturn dX11_refuse_19 rfl rfl ?_
          show hf_G X Y_X11_seen (d + 2) _ _ 25 [some (.ref 100), some (.int x1), some (.int x2)] [.int (-1)] (t, T, (hf_up (hf_up I 100 15 (-1)) 155 0 ((I 155 0) + 1)), L, P) _
          refine hf_ireturn dX11_seen_25 rfl rfl ?_
          exact h
        · replace h := h.2 hc
          refine hf_iconst (v := 1) dX11_within_10 (by decide) ?_
          refine hf_goto (tgt := 15) dX11_within_11 (by decide) ?_
          refine hf_ireturn dX11_within_15 rfl (by decide) ?_
          show hf_G X Y_X11_seen (d + 2) _ _ 17 [some (.ref 100), some (.int x1), some (.int x2)] [.int 1] (t, T, I, L, P) _
          refine hf_if_ne (tgt := 26) dX11_seen_17 (by decide) (fun _ => ?_) (fun hc => absurd (show (1 : Int32) = (0 : Int32) from hc) (by decide))
          refine hf_aload_n dX11_seen_26 rfl rfl ?_
          refine hf_getr (b := 101) (c := 11) (j := 0) dX11_seen_27 (hs.2.1 100 _ rfl) (hf_lin hs 100 rfl) (by decide) (by decide) hw365 rfl (hs.2.2 100 0 _ rfl) ?_
          refine hf_geti (c := 1) (j := 18) dX11_seen_30 (hs.2.1 101 _ rfl) (hf_lin hs 101 rfl) (by decide) (by decide) hw157 (Or.inl rfl) ?_
          refine hf_iconst (v := 4) dX11_seen_33 (by decide) ?_
          refine hf_icmp_lt (tgt := 44) dX11_seen_34 (by decide) (fun hc => ?_) (fun hc => ?_)
          · replace h := h.1 hc
            refine hf_aload_n dX11_seen_44 rfl rfl ?_
            refine hf_getr (b := 101) (c := 11) (j := 0) dX11_seen_45 (hs.2.1 100 _ rfl) (hf_lin hs 100 rfl) (by decide) (by decide) hw365 rfl (hs.2.2 100 0 _ rfl) ?_
            refine hf_getr (b := 117) (c := 1) (j := 8) dX11_seen_48 (hs.2.1 101 _ rfl) (hf_lin hs 101 rfl) (by decide) (by decide) hw126 rfl (hs.2.2 101 8 _ rfl) ?_
            refine hf_iconst (v := 2) dX11_seen_51 (by decide) ?_
            refine hf_aload_n dX11_seen_52 rfl rfl ?_
            refine hf_getr (b := 101) (c := 11) (j := 0) dX11_seen_53 (hs.2.1 100 _ rfl) (hf_lin hs 100 rfl) (by decide) (by decide) hw365 rfl (hs.2.2 100 0 _ rfl) ?_
            refine hf_geti (c := 1) (j := 18) dX11_seen_56 (hs.2.1 101 _ rfl) (hf_lin hs 101 rfl) (by decide) (by decide) hw157 (Or.inl rfl) ?_
            refine hf_imul dX11_seen_59 ?_
            refine hf_iload_n dX11_seen_60 rfl rfl ?_
            refine hf_iast dX11_seen_61 (hs.2.1 117 _ rfl) (hf_lin hs 117 rfl) h.1 ?_
            replace h := h.2
            refine hf_aload_n dX11_seen_62 rfl rfl ?_
            refine hf_getr (b := 101) (c := 11) (j := 0) dX11_seen_63 (hs.2.1 100 _ rfl) (hf_lin hs 100 rfl) (by decide) (by decide) hw365 rfl (hs.2.2 100 0 _ rfl) ?_
            refine hf_getr (b := 117) (c := 1) (j := 8) dX11_seen_66 (hs.2.1 101 _ rfl) (hf_lin hs 101 rfl) (by decide) (by decide) hw126 rfl (hs.2.2 101 8 _ rfl) ?_
            refine hf_iconst (v := 2) dX11_seen_69 (by decide) ?_
            refine hf_aload_n dX11_seen_70 rfl rfl ?_
            refine hf_getr (b := 101) (c := 11) (j := 0) dX11_seen_71 (hs.2.1 100 _ rfl) (hf_lin hs 100 rfl) (by decide) (by decide) hw365 rfl (hs.2.2 100 0 _ rfl) ?_
            refine hf_geti (c := 1) (j := 18) dX11_seen_74 (hs.2.1 101 _ rfl) (hf_lin hs 101 rfl) (by decide) (by decide) hw157 (Or.inl rfl) ?_
            refine hf_imul dX11_seen_77 ?_
            refine hf_iconst (v := 1) dX11_seen_78 (by decide) ?_
            refine hf_iadd dX11_seen_79 ?_
            refine hf_iload_n dX11_seen_80 rfl rfl ?_
            refine hf_iast dX11_seen_81 (hs.2.1 117 _ rfl) (hf_lin hs 117 rfl) h.1 ?_
            replace h := h.2
            refine hf_aload_n dX11_seen_82 rfl rfl ?_
            refine hf_getr (b := 101) (c := 11) (j := 0) dX11_seen_83 (hs.2.1 100 _ rfl) (hf_lin hs 100 rfl) (by decide) (by decide) hw365 rfl (hs.2.2 100 0 _ rfl) ?_
            refine hf_dup dX11_seen_86 rfl ?_
            refine hf_geti (c := 1) (j := 18) dX11_seen_87 (hs.2.1 101 _ rfl) (hf_lin hs 101 rfl) (by decide) (by decide) hw157 (Or.inl rfl) ?_
            refine hf_iconst (v := 1) dX11_seen_90 (by decide) ?_
            refine hf_iadd dX11_seen_91 ?_
            refine hf_puti (c := 1) (j := 18) dX11_seen_92 (hs.2.1 101 _ rfl) (hf_lin hs 101 rfl) (by decide) (by decide) hw157 rfl rfl ?_
            refine hf_aload_n dX11_seen_95 rfl rfl ?_
            refine hf_aload_n dX11_seen_96 rfl rfl ?_
            refine hf_getr (b := 101) (c := 11) (j := 0) dX11_seen_97 (hs.2.1 100 _ rfl) (hf_lin hs 100 rfl) (by decide) (by decide) hw365 rfl (hs.2.2 100 0 _ rfl) ?_
            refine hf_geti (c := 1) (j := 18) dX11_seen_100 (hs.2.1 101 _ rfl) (hf_lin hs 101 rfl) (by decide) (by decide) hw157 (Or.inl rfl) ?_
            refine hf_callV (c := 11) (as := [.int ((I 101 18) + 1)]) ok_X11_granted dX11_seen_103 hw418 hw419 hw1554 (hs.2.1 100 _ rfl) (by decide) (hf_lin hs 100 rfl) rfl (Nat.le_of_ble_eq_true rfl) rfl (Nat.le_of_ble_eq_true rfl) (Nat.zero_le _) (Nat.zero_le _) ?_
            show hf_G X Y_X11_granted (d + 1) _ _ 0 [some (.ref 100), some (.int ((I 101 18) + 1))] [] (t, T, (hf_up (hf_up (hf_up I 117 (((2 * (I 101 18))).toNatClampNeg) x1) 117 ((((2 * (I 101 18)) + 1)).toNatClampNeg) x2) 101 18 ((I 101 18) + 1)), L, P) _
            refine hf_aload_n dX11_granted_0 rfl rfl ?_
            refine hf_iconst (v := 0) dX11_granted_1 (by decide) ?_
            refine hf_puti (c := 11) (j := 15) dX11_granted_2 (hs.2.1 100 _ rfl) (hf_lin hs 100 rfl) (by decide) (by decide) hw381 rfl rfl ?_
            refine hf_aload_n dX11_granted_5 rfl rfl ?_
            refine hf_dup dX11_granted_6 rfl ?_
            refine hf_geti (c := 11) (j := 16) dX11_granted_7 (hs.2.1 100 _ rfl) (hf_lin hs 100 rfl) (by decide) (by decide) hw382 (Or.inl rfl) ?_
            refine hf_iconst (v := 1) dX11_granted_10 (by decide) ?_
            refine hf_iadd dX11_granted_11 ?_
            refine hf_puti (c := 11) (j := 16) dX11_granted_12 (hs.2.1 100 _ rfl) (hf_lin hs 100 rfl) (by decide) (by decide) hw382 rfl rfl ?_
            refine hf_iload_n dX11_granted_15 rfl rfl ?_
            refine hf_ireturn dX11_granted_16 rfl rfl ?_
            show hf_G X Y_X11_seen (d + 2) _ _ 106 [some (.ref 100), some (.int x1), some (.int x2)] [.int ((I 101 18) + 1)] (t, T, (hf_up (hf_up (hf_up (hf_up (hf_up I 117 (((2 * (I 101 18))).toNatClampNeg) x1) 117 ((((2 * (I 101 18)) + 1)).toNatClampNeg) x2) 101 18 ((I 101 18) + 1)) 100 15 0) 100 16 ((I 100 16) + 1)), L, P) _
            refine hf_ireturn dX11_seen_106 rfl rfl ?_
            exact h
          · replace h := h.2 hc
            refine hf_aload_n dX11_seen_37 rfl rfl ?_
            refine hf_bipush (v := (-5)) dX11_seen_38 (by decide) ?_
            refine hf_callV (c := 11) (as := [.int (-5)]) ok_X11_refuse dX11_seen_40 hw408 hw409 hw1553 (hs.2.1 100 _ rfl) (by decide) (hf_lin hs 100 rfl) rfl (Nat.le_of_ble_eq_true rfl) rfl (Nat.le_of_ble_eq_true rfl) (Nat.zero_le _) (Nat.zero_le _) ?_
            show hf_G X Y_X11_refuse (d + 1) _ _ 0 [some (.ref 100), some (.int (-5))] [] (t, T, I, L, P) _
            refine hf_aload_n dX11_refuse_0 rfl rfl ?_
            refine hf_iload_n dX11_refuse_1 rfl rfl ?_
            refine hf_puti (c := 11) (j := 15) dX11_refuse_2 (hs.2.1 100 _ rfl) (hf_lin hs 100 rfl) (by decide) (by decide) hw381 rfl rfl ?_
            refine hf_aload_n dX11_refuse_5 rfl rfl ?_
            refine hf_getr (b := 155) (c := 11) (j := 12) dX11_refuse_6 (hs.2.1 100 _ rfl) (hf_lin hs 100 rfl) (by decide) (by decide) hw377 rfl (hs.2.2 100 12 _ rfl) ?_
            refine hf_iload_n dX11_refuse_9 rfl rfl ?_
            refine hf_callS (as := [.int (-5)]) ok_X11_refusalPlace dX11_refuse_10 hw411 hw412 rfl (Nat.le_of_ble_eq_true rfl) rfl (Nat.le_of_ble_eq_true rfl) (Nat.zero_le _) (Nat.zero_le _) ?_
            show hf_G X Y_X11_refusalPlace d _ _ 0 [some (.int (-5))] [] (t, T, (hf_up I 100 15 (-5)), L, P) _
            refine hf_iload_n dX11_refusalPlace_0 rfl rfl ?_
            refine hf_tableIn (off := 39) (tgt := 40) dX11_refusalPlace_1 (by decide) (by decide) rfl (by decide) ?_
            refine hf_iconst (v := 3) dX11_refusalPlace_40 (by decide) ?_
            refine hf_ireturn dX11_refusalPlace_41 rfl rfl ?_
            show hf_G X Y_X11_refuse (d + 1) _ _ 13 [some (.ref 100), some (.int (-5))] [.int 3, .ref 155] (t, T, (hf_up I 100 15 (-5)), L, P) _
            refine hf_dup2 dX11_refuse_13 rfl rfl ?_
            refine hf_iald_k (j := 3) (by decide) dX11_refuse_14 (hs.2.1 155 _ rfl) (hf_lin hs 155 rfl) (hf_vin (by decide)) ?_
            refine hf_iconst (v := 1) dX11_refuse_15 (by decide) ?_
            refine hf_iadd dX11_refuse_16 ?_
            refine hf_iast_k (j := 3) (by decide) dX11_refuse_17 (hs.2.1 155 _ rfl) (hf_lin hs 155 rfl) (hf_vin (by decide)) ?_
            refine hf_iload_n dX11_refuse_18 rfl rfl ?_
            refine hf_ireturn dX11_refuse_19 rfl rfl ?_
            show hf_G X Y_X11_seen (d + 2) _ _ 43 [some (.ref 100), some (.int x1), some (.int x2)] [.int (-5)] (t, T, (hf_up (hf_up I 100 15 (-5)) 155 3 ((I 155 3) + 1)), L, P) _
            refine hf_ireturn dX11_seen_43 rfl rfl ?_
            exact h

set_option maxHeartbeats 4000000 in
theorem w_X11_forget_0 {X : hf_X} {d k n t : Nat} {T : hf_T} {I : hf_I} {L : hf_L} {P : hf_P} {Q : Option Value → hf_M → Prop}  (hs : hf_Lay t T P) (h : Q (some (.int (I 101 18))) (t, T, (hf_up I 101 18 0), L, P)) : hf_G X Y_X11_forget d k n 0 (hf_en [.ref 100] 2) [] (t, T, I, L, P) Q := by
  show hf_G X Y_X11_forget d k n 0 [some (.ref 100), none] [] (t, T, I, L, P) Q
  refine hf_aload_n dX11_forget_0 rfl rfl ?_
  refine hf_getr (b := 101) (c := 11) (j := 0) dX11_forget_1 (hs.2.1 100 _ rfl) (hf_lin hs 100 rfl) (by decide) (by decide) hw365 rfl (hs.2.2 100 0 _ rfl) ?_
  refine hf_geti (c := 1) (j := 18) dX11_forget_4 (hs.2.1 101 _ rfl) (hf_lin hs 101 rfl) (by decide) (by decide) hw157 (Or.inl rfl) ?_
  refine hf_istore_n (l2 := [some (.ref 100), some (.int (I 101 18))]) dX11_forget_7 rfl (by decide) rfl ?_
  refine hf_aload_n dX11_forget_8 rfl rfl ?_
  refine hf_getr (b := 101) (c := 11) (j := 0) dX11_forget_9 (hs.2.1 100 _ rfl) (hf_lin hs 100 rfl) (by decide) (by decide) hw365 rfl (hs.2.2 100 0 _ rfl) ?_
  refine hf_iconst (v := 0) dX11_forget_12 (by decide) ?_
  refine hf_puti (c := 1) (j := 18) dX11_forget_13 (hs.2.1 101 _ rfl) (hf_lin hs 101 rfl) (by decide) (by decide) hw157 rfl rfl ?_
  refine hf_iload_n dX11_forget_16 rfl rfl ?_
  refine hf_ireturn dX11_forget_17 rfl rfl ?_
  exact h

set_option maxHeartbeats 4000000 in
theorem w_X11_changed_0 {X : hf_X} {d k n t : Nat} {T : hf_T} {I : hf_I} {L : hf_L} {P : hf_P} {Q : Option Value → hf_M → Prop} {x1 : Int32} (hs : hf_Lay t T P) (h : hf_G X Y_X11_changed d k n 4 [some (.ref 100), some (.int x1), some (.int 0), some (.int 0), none] [] (t, T, I, L, P) Q) : hf_G X Y_X11_changed d k n 0 (hf_en [.ref 100, .int x1] 5) [] (t, T, I, L, P) Q := by
  show hf_G X Y_X11_changed d k n 0 [some (.ref 100), some (.int x1), none, none, none] [] (t, T, I, L, P) Q
  refine hf_iconst (v := 0) dX11_changed_0 (by decide) ?_
  refine hf_istore_n (l2 := [some (.ref 100), some (.int x1), some (.int 0), none, none]) dX11_changed_1 rfl (by decide) rfl ?_
  refine hf_iconst (v := 0) dX11_changed_2 (by decide) ?_
  refine hf_istore_n (l2 := [some (.ref 100), some (.int x1), some (.int 0), some (.int 0), none]) dX11_changed_3 rfl (by decide) rfl ?_
  exact h

set_option maxHeartbeats 4000000 in
theorem w_X11_changed_4 {X : hf_X} {d k n t : Nat} {T : hf_T} {I : hf_I} {L : hf_L} {P : hf_P} {Q : Option Value → hf_M → Prop} {x1 : Int32} {x2 : Int32} {x3 : Int32} (hs : hf_Lay t T P) (h : ((I 114 2) ≤ x3 → (¬ x1 = (-1) → Q (some (.int (-1))) (t, T, I, L, P)) ∧ (x1 = (-1) → Q (some (.int x2)) (t, T, I, L, P))) ∧ (¬ ((I 114 2) ≤ x3) → hf_G X Y_X11_changed d k n 21 [some (.ref 100), some (.int x1), some (.int x2), some (.int x3), some (.int 0)] [] (t, T, I, L, P) Q)) : hf_G X Y_X11_changed d k n 4 [some (.ref 100), some (.int x1), some (.int x2), some (.int x3), none] [] (t, T, I, L, P) Q := by
  refine hf_iload_n dX11_changed_4 rfl rfl ?_
  refine hf_aload_n dX11_changed_5 rfl rfl ?_
  refine hf_getr (b := 101) (c := 11) (j := 0) dX11_changed_6 (hs.2.1 100 _ rfl) (hf_lin hs 100 rfl) (by decide) (by decide) hw365 rfl (hs.2.2 100 0 _ rfl) ?_
  refine hf_getr (b := 114) (c := 1) (j := 7) dX11_changed_9 (hs.2.1 101 _ rfl) (hf_lin hs 101 rfl) (by decide) (by decide) hw123 rfl (hs.2.2 101 7 _ rfl) ?_
  refine hf_geti (c := 3) (j := 2) dX11_changed_12 (hs.2.1 114 _ rfl) (hf_lin hs 114 rfl) (by decide) (by decide) hw89 (Or.inl rfl) ?_
  refine hf_icmp_ge (tgt := 93) dX11_changed_15 (by decide) (fun hc => ?_) (fun hc => ?_)
  · replace h := h.1 hc
    refine hf_iload_n dX11_changed_93 rfl rfl ?_
    refine hf_iconst (v := (-1)) dX11_changed_94 (by decide) ?_
    refine hf_icmp_ne (tgt := 102) dX11_changed_95 (by decide) (fun hc => ?_) (fun hc => ?_)
    · replace h := h.1 hc
      refine hf_iconst (v := (-1)) dX11_changed_102 (by decide) ?_
      refine hf_ireturn dX11_changed_103 rfl rfl ?_
      exact h
    · replace h := h.2 hc
      refine hf_iload_n dX11_changed_98 rfl rfl ?_
      refine hf_goto (tgt := 103) dX11_changed_99 (by decide) ?_
      refine hf_ireturn dX11_changed_103 rfl rfl ?_
      exact h
  · replace h := h.2 hc
    refine hf_iconst (v := 0) dX11_changed_18 (by decide) ?_
    refine hf_istore (l2 := [some (.ref 100), some (.int x1), some (.int x2), some (.int x3), some (.int 0)]) dX11_changed_19 (by decide) rfl ?_
    exact h

set_option maxHeartbeats 4000000 in
theorem w_X11_changed_21 {X : hf_X} {d k n t : Nat} {T : hf_T} {I : hf_I} {L : hf_L} {P : hf_P} {Q : Option Value → hf_M → Prop} {x1 : Int32} {x2 : Int32} {x3 : Int32} {x4 : Int32} (hs : hf_Lay t T P) (h : ((I 105 5) ≤ x4 → hf_G X Y_X11_changed (d + 1) k n 4 [some (.ref 100), some (.int x1), some (.int x2), some (.int (x3 + 1)), none] [] (t, T, I, L, P) Q) ∧ (¬ ((I 105 5) ≤ x4) → vp_in x3 12 ∧ ((x4 = (I 115 x3.toNatClampNeg) → hf_G X Y_X11_changed (d + 1) k n 21 [some (.ref 100), some (.int x1), some (.int x2), some (.int x3), some (.int (x4 + 1))] [] (t, T, I, L, P) Q) ∧ (¬ (x4 = (I 115 x3.toNatClampNeg)) → vp_in x4 16 ∧ (vp_in (I 115 x3.toNatClampNeg) 16 ∧ ((¬ (I 106 x4.toNatClampNeg) = (I 106 (((I 115 x3.toNatClampNeg)).toNatClampNeg)) → hf_G X Y_X11_changed (d + 1) k n 21 [some (.ref 100), some (.int x1), some (.int x2), some (.int x3), some (.int (x4 + 1))] [] (t, T, I, L, P) Q) ∧ ((I 106 x4.toNatClampNeg) = (I 106 (((I 115 x3.toNatClampNeg)).toNatClampNeg)) → hf_G X Y_X1_isAsSeen d 0 0 0 (hf_en [.ref 101, .int x3, .int x4] 7) [] (t, T, I, L, P) (fun r M => hf_G X Y_X11_changed (d + 1) k n 59 [some (.ref 100), some (.int x1), some (.int x2), some (.int x3), some (.int x4)] (r.toList ++ []) M Q)))))))) : hf_G X Y_X11_changed (d + 1) k n 21 [some (.ref 100), some (.int x1), some (.int x2), some (.int x3), some (.int x4)] [] (t, T, I, L, P) Q := by
  refine hf_iload dX11_changed_21 rfl ?_
  refine hf_aload_n dX11_changed_23 rfl rfl ?_
  refine hf_getr (b := 101) (c := 11) (j := 0) dX11_changed_24 (hs.2.1 100 _ rfl) (hf_lin hs 100 rfl) (by decide) (by decide) hw365 rfl (hs.2.2 100 0 _ rfl) ?_
  refine hf_getr (b := 105) (c := 1) (j := 3) dX11_changed_27 (hs.2.1 101 _ rfl) (hf_lin hs 101 rfl) (by decide) (by decide) hw111 rfl (hs.2.2 101 3 _ rfl) ?_
  refine hf_geti (c := 10) (j := 5) dX11_changed_30 (hs.2.1 105 _ rfl) (hf_lin hs 105 rfl) (by decide) (by decide) hw63 (Or.inl rfl) ?_
  refine hf_icmp_ge (tgt := 87) dX11_changed_33 (by decide) (fun hc => ?_) (fun hc => ?_)
  · replace h := h.1 hc
    refine hf_iinc (v := (x3 + 1)) (l2 := [some (.ref 100), some (.int x1), some (.int x2), some (.int (x3 + 1)), some (.int x4)]) dX11_changed_87 (by decide) rfl rfl rfl ?_
    refine hf_goto (tgt := 4) dX11_changed_90 (by decide) ?_
    refine hf_drop (l' := [some (.ref 100), some (.int x1), some (.int x2), some (.int (x3 + 1)), none]) (by simp [hf_sub]) ?_
    exact h
  · replace h := h.2 hc
    refine hf_aload_n dX11_changed_36 rfl rfl ?_
    refine hf_getr (b := 101) (c := 11) (j := 0) dX11_changed_37 (hs.2.1 100 _ rfl) (hf_lin hs 100 rfl) (by decide) (by decide) hw365 rfl (hs.2.2 100 0 _ rfl) ?_
    refine hf_iload_n dX11_changed_40 rfl rfl ?_
    refine hf_iload dX11_changed_41 rfl ?_
    refine hf_callV (c := 1) (as := [.int x3, .int x4]) ok_X1_mayStandFor dX11_changed_43 hw954 hw955 hw956 (hs.2.1 101 _ rfl) (by decide) (hf_lin hs 101 rfl) rfl (Nat.le_of_ble_eq_true rfl) rfl (Nat.le_of_ble_eq_true rfl) (Nat.zero_le _) (Nat.zero_le _) ?_
    show hf_G X Y_X1_mayStandFor d _ _ 0 [some (.ref 101), some (.int x3), some (.int x4), none] [] (t, T, I, L, P) _
    refine hf_aload_n dX1_mayStandFor_0 rfl rfl ?_
    refine hf_getr (b := 114) (c := 1) (j := 7) dX1_mayStandFor_1 (hs.2.1 101 _ rfl) (hf_lin hs 101 rfl) (by decide) (by decide) hw121 rfl (hs.2.2 101 7 _ rfl) ?_
    refine hf_getr (b := 115) (c := 3) (j := 0) dX1_mayStandFor_4 (hs.2.1 114 _ rfl) (hf_lin hs 114 rfl) (by decide) (by decide) hw81 rfl (hs.2.2 114 0 _ rfl) ?_
    refine hf_iload_n dX1_mayStandFor_7 rfl rfl ?_
    refine hf_iald dX1_mayStandFor_8 (hs.2.1 115 _ rfl) (hf_lin hs 115 rfl) h.1 ?_
    replace h := h.2
    refine hf_istore_n (l2 := [some (.ref 101), some (.int x3), some (.int x4), some (.int (I 115 x3.toNatClampNeg))]) dX1_mayStandFor_9 rfl (by decide) rfl ?_
    refine hf_iload_n dX1_mayStandFor_10 rfl rfl ?_
    refine hf_iload_n dX1_mayStandFor_11 rfl rfl ?_
    refine hf_icmp_eq (tgt := 40) dX1_mayStandFor_12 (by decide) (fun hc => ?_) (fun hc => ?_)
    · replace h := h.1 hc
      refine hf_iconst (v := 0) dX1_mayStandFor_40 (by decide) ?_
      refine hf_ireturn dX1_mayStandFor_41 rfl (by decide) ?_
      show hf_G X Y_X11_changed (d + 1) _ _ 46 [some (.ref 100), some (.int x1), some (.int x2), some (.int x3), some (.int x4)] [.int 0] (t, T, I, L, P) _
      refine hf_if_eq (tgt := 81) dX11_changed_46 (by decide) (fun _ => ?_) (fun hc => absurd (show (0 : Int32) = (0 : Int32) by decide) hc)
      refine hf_iinc (v := (x4 + 1)) (l2 := [some (.ref 100), some (.int x1), some (.int x2), some (.int x3), some (.int (x4 + 1))]) dX11_changed_81 (by decide) rfl rfl rfl ?_
      refine hf_goto (tgt := 21) dX11_changed_84 (by decide) ?_
      exact h
    · replace h := h.2 hc
      refine hf_aload_n dX1_mayStandFor_15 rfl rfl ?_
      refine hf_getr (b := 105) (c := 1) (j := 3) dX1_mayStandFor_16 (hs.2.1 101 _ rfl) (hf_lin hs 101 rfl) (by decide) (by decide) hw107 rfl (hs.2.2 101 3 _ rfl) ?_
      refine hf_getr (b := 106) (c := 10) (j := 0) dX1_mayStandFor_19 (hs.2.1 105 _ rfl) (hf_lin hs 105 rfl) (by decide) (by decide) hw44 rfl (hs.2.2 105 0 _ rfl) ?_
      refine hf_iload_n dX1_mayStandFor_22 rfl rfl ?_
      refine hf_iald dX1_mayStandFor_23 (hs.2.1 106 _ rfl) (hf_lin hs 106 rfl) h.1 ?_
      replace h := h.2
      refine hf_aload_n dX1_mayStandFor_24 rfl rfl ?_
      refine hf_getr (b := 105) (c := 1) (j := 3) dX1_mayStandFor_25 (hs.2.1 101 _ rfl) (hf_lin hs 101 rfl) (by decide) (by decide) hw107 rfl (hs.2.2 101 3 _ rfl) ?_
      refine hf_getr (b := 106) (c := 10) (j := 0) dX1_mayStandFor_28 (hs.2.1 105 _ rfl) (hf_lin hs 105 rfl) (by decide) (by decide) hw44 rfl (hs.2.2 105 0 _ rfl) ?_
      refine hf_iload_n dX1_mayStandFor_31 rfl rfl ?_
      refine hf_iald dX1_mayStandFor_32 (hs.2.1 106 _ rfl) (hf_lin hs 106 rfl) h.1 ?_
      replace h := h.2
      refine hf_icmp_ne (tgt := 40) dX1_mayStandFor_33 (by decide) (fun hc => ?_) (fun hc => ?_)
      · replace h := h.1 hc
        refine hf_iconst (v := 0) dX1_mayStandFor_40 (by decide) ?_
        refine hf_ireturn dX1_mayStandFor_41 rfl (by decide) ?_
        show hf_G X Y_X11_changed (d + 1) _ _ 46 [some (.ref 100), some (.int x1), some (.int x2), some (.int x3), some (.int x4)] [.int 0] (t, T, I, L, P) _
        refine hf_if_eq (tgt := 81) dX11_changed_46 (by decide) (fun _ => ?_) (fun hc => absurd (show (0 : Int32) = (0 : Int32) by decide) hc)
        refine hf_iinc (v := (x4 + 1)) (l2 := [some (.ref 100), some (.int x1), some (.int x2), some (.int x3), some (.int (x4 + 1))]) dX11_changed_81 (by decide) rfl rfl rfl ?_
        refine hf_goto (tgt := 21) dX11_changed_84 (by decide) ?_
        exact h
      · replace h := h.2 hc
        refine hf_iconst (v := 1) dX1_mayStandFor_36 (by decide) ?_
        refine hf_goto (tgt := 41) dX1_mayStandFor_37 (by decide) ?_
        refine hf_ireturn dX1_mayStandFor_41 rfl (by decide) ?_
        show hf_G X Y_X11_changed (d + 1) _ _ 46 [some (.ref 100), some (.int x1), some (.int x2), some (.int x3), some (.int x4)] [.int 1] (t, T, I, L, P) _
        refine hf_if_eq (tgt := 81) dX11_changed_46 (by decide) (fun hc => absurd (show (1 : Int32) = (0 : Int32) from hc) (by decide)) (fun _ => ?_)
        refine hf_aload_n dX11_changed_49 rfl rfl ?_
        refine hf_getr (b := 101) (c := 11) (j := 0) dX11_changed_50 (hs.2.1 100 _ rfl) (hf_lin hs 100 rfl) (by decide) (by decide) hw365 rfl (hs.2.2 100 0 _ rfl) ?_
        refine hf_iload_n dX11_changed_53 rfl rfl ?_
        refine hf_iload dX11_changed_54 rfl ?_
        exact hf_callV (c := 1) (as := [.int x3, .int x4]) ok_X1_isAsSeen dX11_changed_56 hw958 hw959 hw960 (hs.2.1 101 _ rfl) (by decide) (hf_lin hs 101 rfl) rfl (Nat.le_of_ble_eq_true rfl) rfl (Nat.le_of_ble_eq_true rfl) (Nat.zero_le _) (Nat.zero_le _) h

set_option maxHeartbeats 4000000 in
theorem w_X11_changed_59 {X : hf_X} {d k n t : Nat} {T : hf_T} {I : hf_I} {L : hf_L} {P : hf_P} {Q : Option Value → hf_M → Prop} {x1 : Int32} {x2 : Int32} {x3 : Int32} {x4 : Int32} {s0 : Int32} (hs : hf_Lay t T P) (h : (¬ s0 = 0 → (¬ x2 = x1 → hf_G X Y_X11_changed d k n 21 [some (.ref 100), some (.int x1), some (.int (x2 + 1)), some (.int x3), some (.int (x4 + 1))] [] (t, T, I, L, P) Q) ∧ (x2 = x1 → Q (some (.int ((16 * x3) + x4))) (t, T, I, L, P))) ∧ (s0 = 0 → hf_G X Y_X11_changed d k n 21 [some (.ref 100), some (.int x1), some (.int x2), some (.int x3), some (.int (x4 + 1))] [] (t, T, I, L, P) Q)) : hf_G X Y_X11_changed d k n 59 [some (.ref 100), some (.int x1), some (.int x2), some (.int x3), some (.int x4)] [.int s0] (t, T, I, L, P) Q := by
  refine hf_if_ne (tgt := 65) dX11_changed_59 (by decide) (fun hc => ?_) (fun hc => ?_)
  · replace h := h.1 hc
    refine hf_iload_n dX11_changed_65 rfl rfl ?_
    refine hf_iload_n dX11_changed_66 rfl rfl ?_
    refine hf_icmp_ne (tgt := 78) dX11_changed_67 (by decide) (fun hc => ?_) (fun hc => ?_)
    · replace h := h.1 hc
      refine hf_iinc (v := (x2 + 1)) (l2 := [some (.ref 100), some (.int x1), some (.int (x2 + 1)), some (.int x3), some (.int x4)]) dX11_changed_78 (by decide) rfl rfl rfl ?_
      refine hf_iinc (v := (x4 + 1)) (l2 := [some (.ref 100), some (.int x1), some (.int (x2 + 1)), some (.int x3), some (.int (x4 + 1))]) dX11_changed_81 (by decide) rfl rfl rfl ?_
      refine hf_goto (tgt := 21) dX11_changed_84 (by decide) ?_
      exact h
    · replace h := h.2 hc
      refine hf_bipush (v := 16) dX11_changed_70 (by decide) ?_
      refine hf_iload_n dX11_changed_72 rfl rfl ?_
      refine hf_imul dX11_changed_73 ?_
      refine hf_iload dX11_changed_74 rfl ?_
      refine hf_iadd dX11_changed_76 ?_
      refine hf_ireturn dX11_changed_77 rfl rfl ?_
      exact h
  · replace h := h.2 hc
    refine hf_goto (tgt := 81) dX11_changed_62 (by decide) ?_
    refine hf_iinc (v := (x4 + 1)) (l2 := [some (.ref 100), some (.int x1), some (.int x2), some (.int x3), some (.int (x4 + 1))]) dX11_changed_81 (by decide) rfl rfl rfl ?_
    refine hf_goto (tgt := 21) dX11_changed_84 (by decide) ?_
    exact h

set_option maxHeartbeats 4000000 in
theorem w_X11_matter_0 {X : hf_X} {d k n t : Nat} {T : hf_T} {I : hf_I} {L : hf_L} {P : hf_P} {Q : Option Value → hf_M → Prop} {x1 : Int32} {x2 : Int32} {x3 : Int32} (hs : hf_Lay t T P) (h : (x1 < 1 → Q (some (.int (-1))) (t, T, (hf_up (hf_up I 100 15 (-1)) 155 0 ((I 155 0) + 1)), L, P)) ∧ (¬ (x1 < 1) → (99 < x1 → Q (some (.int (-1))) (t, T, (hf_up (hf_up I 100 15 (-1)) 155 0 ((I 155 0) + 1)), L, P)) ∧ (¬ (99 < x1) → (x2 < 0 → Q (some (.int (-1))) (t, T, (hf_up (hf_up I 100 15 (-1)) 155 0 ((I 155 0) + 1)), L, P)) ∧ (¬ (x2 < 0) → (999 < x2 → Q (some (.int (-1))) (t, T, (hf_up (hf_up I 100 15 (-1)) 155 0 ((I 155 0) + 1)), L, P)) ∧ (¬ (999 < x2) → (x3 < 1 → Q (some (.int (-1))) (t, T, (hf_up (hf_up I 100 15 (-1)) 155 0 ((I 155 0) + 1)), L, P)) ∧ (¬ (x3 < 1) → (99 < x3 → Q (some (.int (-1))) (t, T, (hf_up (hf_up I 100 15 (-1)) 155 0 ((I 155 0) + 1)), L, P)) ∧ (¬ (99 < x3) → ((I 101 19) < 8 → vp_in (I 101 19) 8 ∧ (vp_in (I 101 19) 8 ∧ (vp_in (I 101 19) 8 ∧ (Q (some (.int (I 101 19))) (t, T, (hf_up (hf_up (hf_up (hf_up (hf_up (hf_up I 118 (((I 101 19)).toNatClampNeg) x1) 119 (((I 101 19)).toNatClampNeg) x2) 120 (((I 101 19)).toNatClampNeg) x3) 101 19 ((I 101 19) + 1)) 100 15 0) 100 16 ((I 100 16) + 1)), L, P))))) ∧ (¬ ((I 101 19) < 8) → Q (some (.int (-5))) (t, T, (hf_up (hf_up I 100 15 (-5)) 155 3 ((I 155 3) + 1)), L, P))))))))) : hf_G X Y_X11_matter (d + 2) k n 0 (hf_en [.ref 100, .int x1, .int x2, .int x3] 5) [] (t, T, I, L, P) Q := by
  show hf_G X Y_X11_matter (d + 2) k n 0 [some (.ref 100), some (.int x1), some (.int x2), some (.int x3), none] [] (t, T, I, L, P) Q
  refine hf_iload_n dX11_matter_0 rfl rfl ?_
  refine hf_iconst (v := 1) dX11_matter_1 (by decide) ?_
  refine hf_bipush (v := 99) dX11_matter_2 (by decide) ?_
  refine hf_callS (as := [.int x1, .int 1, .int 99]) ok_X11_within dX11_matter_4 hw405 hw406 rfl (Nat.le_of_ble_eq_true rfl) rfl (Nat.le_of_ble_eq_true rfl) (Nat.zero_le _) (Nat.zero_le _) ?_
  show hf_G X Y_X11_within (d + 1) _ _ 0 [some (.int x1), some (.int 1), some (.int 99)] [] (t, T, I, L, P) _
  refine hf_iload_n dX11_within_0 rfl rfl ?_
  refine hf_iload_n dX11_within_1 rfl rfl ?_
  refine hf_icmp_lt (tgt := 14) dX11_within_2 (by decide) (fun hc => ?_) (fun hc => ?_)
  · replace h := h.1 hc
    refine hf_iconst (v := 0) dX11_within_14 (by decide) ?_
    refine hf_ireturn dX11_within_15 rfl (by decide) ?_
    show hf_G X Y_X11_matter (d + 2) _ _ 7 [some (.ref 100), some (.int x1), some (.int x2), some (.int x3), none] [.int 0] (t, T, I, L, P) _
    refine hf_if_eq (tgt := 31) dX11_matter_7 (by decide) (fun _ => ?_) (fun hc => absurd (show (0 : Int32) = (0 : Int32) by decide) hc)
    refine hf_aload_n dX11_matter_31 rfl rfl ?_
    refine hf_iconst (v := (-1)) dX11_matter_32 (by decide) ?_
    refine hf_callV (c := 11) (as := [.int (-1)]) ok_X11_refuse dX11_matter_33 hw408 hw409 hw1553 (hs.2.1 100 _ rfl) (by decide) (hf_lin hs 100 rfl) rfl (Nat.le_of_ble_eq_true rfl) rfl (Nat.le_of_ble_eq_true rfl) (Nat.zero_le _) (Nat.zero_le _) ?_
    show hf_G X Y_X11_refuse (d + 1) _ _ 0 [some (.ref 100), some (.int (-1))] [] (t, T, I, L, P) _
    refine hf_aload_n dX11_refuse_0 rfl rfl ?_
    refine hf_iload_n dX11_refuse_1 rfl rfl ?_
    refine hf_puti (c := 11) (j := 15) dX11_refuse_2 (hs.2.1 100 _ rfl) (hf_lin hs 100 rfl) (by decide) (by decide) hw381 rfl rfl ?_
    refine hf_aload_n dX11_refuse_5 rfl rfl ?_
    refine hf_getr (b := 155) (c := 11) (j := 12) dX11_refuse_6 (hs.2.1 100 _ rfl) (hf_lin hs 100 rfl) (by decide) (by decide) hw377 rfl (hs.2.2 100 12 _ rfl) ?_
    refine hf_iload_n dX11_refuse_9 rfl rfl ?_
    refine hf_callS (as := [.int (-1)]) ok_X11_refusalPlace dX11_refuse_10 hw411 hw412 rfl (Nat.le_of_ble_eq_true rfl) rfl (Nat.le_of_ble_eq_true rfl) (Nat.zero_le _) (Nat.zero_le _) ?_
    show hf_G X Y_X11_refusalPlace d _ _ 0 [some (.int (-1))] [] (t, T, (hf_up I 100 15 (-1)), L, P) _
    refine hf_iload_n dX11_refusalPlace_0 rfl rfl ?_
    refine hf_tableOut (tgt := 44) dX11_refusalPlace_1 (by decide) (by decide) ?_
    refine hf_iconst (v := 0) dX11_refusalPlace_44 (by decide) ?_
    refine hf_ireturn dX11_refusalPlace_45 rfl rfl ?_
    show hf_G X Y_X11_refuse (d + 1) _ _ 13 [some (.ref 100), some (.int (-1))] [.int 0, .ref 155] (t, T, (hf_up I 100 15 (-1)), L, P) _
    refine hf_dup2 dX11_refuse_13 rfl rfl ?_
    refine hf_iald_k (j := 0) (by decide) dX11_refuse_14 (hs.2.1 155 _ rfl) (hf_lin hs 155 rfl) (hf_vin (by decide)) ?_
    refine hf_iconst (v := 1) dX11_refuse_15 (by decide) ?_
    refine hf_iadd dX11_refuse_16 ?_
    refine hf_iast_k (j := 0) (by decide) dX11_refuse_17 (hs.2.1 155 _ rfl) (hf_lin hs 155 rfl) (hf_vin (by decide)) ?_
    refine hf_iload_n dX11_refuse_18 rfl rfl ?_
    refine hf_ireturn dX11_refuse_19 rfl rfl ?_
    show hf_G X Y_X11_matter (d + 2) _ _ 36 [some (.ref 100), some (.int x1), some (.int x2), some (.int x3), none] [.int (-1)] (t, T, (hf_up (hf_up I 100 15 (-1)) 155 0 ((I 155 0) + 1)), L, P) _
    refine hf_ireturn dX11_matter_36 rfl rfl ?_
    exact h
  · replace h := h.2 hc
    refine hf_iload_n dX11_within_5 rfl rfl ?_
    refine hf_iload_n dX11_within_6 rfl rfl ?_
    refine hf_icmp_gt (tgt := 14) dX11_within_7 (by decide) (fun hc => ?_) (fun hc => ?_)
    · replace h := h.1 hc
      refine hf_iconst (v := 0) dX11_within_14 (by decide) ?_
      refine hf_ireturn dX11_within_15 rfl (by decide) ?_
      show hf_G X Y_X11_matter (d + 2) _ _ 7 [some (.ref 100), some (.int x1), some (.int x2), some (.int x3), none] [.int 0] (t, T, I, L, P) _
      refine hf_if_eq (tgt := 31) dX11_matter_7 (by decide) (fun _ => ?_) (fun hc => absurd (show (0 : Int32) = (0 : Int32) by decide) hc)
      refine hf_aload_n dX11_matter_31 rfl rfl ?_
      refine hf_iconst (v := (-1)) dX11_matter_32 (by decide) ?_
      refine hf_callV (c := 11) (as := [.int (-1)]) ok_X11_refuse dX11_matter_33 hw408 hw409 hw1553 (hs.2.1 100 _ rfl) (by decide) (hf_lin hs 100 rfl) rfl (Nat.le_of_ble_eq_true rfl) rfl (Nat.le_of_ble_eq_true rfl) (Nat.zero_le _) (Nat.zero_le _) ?_
      show hf_G X Y_X11_refuse (d + 1) _ _ 0 [some (.ref 100), some (.int (-1))] [] (t, T, I, L, P) _
      refine hf_aload_n dX11_refuse_0 rfl rfl ?_
      refine hf_iload_n dX11_refuse_1 rfl rfl ?_
      refine hf_puti (c := 11) (j := 15) dX11_refuse_2 (hs.2.1 100 _ rfl) (hf_lin hs 100 rfl) (by decide) (by decide) hw381 rfl rfl ?_
      refine hf_aload_n dX11_refuse_5 rfl rfl ?_
      refine hf_getr (b := 155) (c := 11) (j := 12) dX11_refuse_6 (hs.2.1 100 _ rfl) (hf_lin hs 100 rfl) (by decide) (by decide) hw377 rfl (hs.2.2 100 12 _ rfl) ?_
      refine hf_iload_n dX11_refuse_9 rfl rfl ?_
      refine hf_callS (as := [.int (-1)]) ok_X11_refusalPlace dX11_refuse_10 hw411 hw412 rfl (Nat.le_of_ble_eq_true rfl) rfl (Nat.le_of_ble_eq_true rfl) (Nat.zero_le _) (Nat.zero_le _) ?_
      show hf_G X Y_X11_refusalPlace d _ _ 0 [some (.int (-1))] [] (t, T, (hf_up I 100 15 (-1)), L, P) _
      refine hf_iload_n dX11_refusalPlace_0 rfl rfl ?_
      refine hf_tableOut (tgt := 44) dX11_refusalPlace_1 (by decide) (by decide) ?_
      refine hf_iconst (v := 0) dX11_refusalPlace_44 (by decide) ?_
      refine hf_ireturn dX11_refusalPlace_45 rfl rfl ?_
      show hf_G X Y_X11_refuse (d + 1) _ _ 13 [some (.ref 100), some (.int (-1))] [.int 0, .ref 155] (t, T, (hf_up I 100 15 (-1)), L, P) _
      refine hf_dup2 dX11_refuse_13 rfl rfl ?_
      refine hf_iald_k (j := 0) (by decide) dX11_refuse_14 (hs.2.1 155 _ rfl) (hf_lin hs 155 rfl) (hf_vin (by decide)) ?_
      refine hf_iconst (v := 1) dX11_refuse_15 (by decide) ?_
      refine hf_iadd dX11_refuse_16 ?_
      refine hf_iast_k (j := 0) (by decide) dX11_refuse_17 (hs.2.1 155 _ rfl) (hf_lin hs 155 rfl) (hf_vin (by decide)) ?_
      refine hf_iload_n dX11_refuse_18 rfl rfl ?_
      refine hf_ireturn dX11_refuse_19 rfl rfl ?_
      show hf_G X Y_X11_matter (d + 2) _ _ 36 [some (.ref 100), some (.int x1), some (.int x2), some (.int x3), none] [.int (-1)] (t, T, (hf_up (hf_up I 100 15 (-1)) 155 0 ((I 155 0) + 1)), L, P) _
      refine hf_ireturn dX11_matter_36 rfl rfl ?_
      exact h
    · replace h := h.2 hc
      refine hf_iconst (v := 1) dX11_within_10 (by decide) ?_
      refine hf_goto (tgt := 15) dX11_within_11 (by decide) ?_
      refine hf_ireturn dX11_within_15 rfl (by decide) ?_
      show hf_G X Y_X11_matter (d + 2) _ _ 7 [some (.ref 100), some (.int x1), some (.int x2), some (.int x3), none] [.int 1] (t, T, I, L, P) _
      refine hf_if_eq (tgt := 31) dX11_matter_7 (by decide) (fun hc => absurd (show (1 : Int32) = (0 : Int32) from hc) (by decide)) (fun _ => ?_)
      refine hf_iload_n dX11_matter_10 rfl rfl ?_
      refine hf_iconst (v := 0) dX11_matter_11 (by decide) ?_
      refine hf_sipush (v := 999) dX11_matter_12 (by decide) ?_
      refine hf_callS (as := [.int x2, .int 0, .int 999]) ok_X11_within dX11_matter_15 hw405 hw406 rfl (Nat.le_of_ble_eq_true rfl) rfl (Nat.le_of_ble_eq_true rfl) (Nat.zero_le _) (Nat.zero_le _) ?_
      show hf_G X Y_X11_within (d + 1) _ _ 0 [some (.int x2), some (.int 0), some (.int 999)] [] (t, T, I, L, P) _
      refine hf_iload_n dX11_within_0 rfl rfl ?_
      refine hf_iload_n dX11_within_1 rfl rfl ?_
      refine hf_icmp_lt (tgt := 14) dX11_within_2 (by decide) (fun hc => ?_) (fun hc => ?_)
      · replace h := h.1 hc
        refine hf_iconst (v := 0) dX11_within_14 (by decide) ?_
        refine hf_ireturn dX11_within_15 rfl (by decide) ?_
        show hf_G X Y_X11_matter (d + 2) _ _ 18 [some (.ref 100), some (.int x1), some (.int x2), some (.int x3), none] [.int 0] (t, T, I, L, P) _
        refine hf_if_eq (tgt := 31) dX11_matter_18 (by decide) (fun _ => ?_) (fun hc => absurd (show (0 : Int32) = (0 : Int32) by decide) hc)
        refine hf_aload_n dX11_matter_31 rfl rfl ?_
        refine hf_iconst (v := (-1)) dX11_matter_32 (by decide) ?_
        refine hf_callV (c := 11) (as := [.int (-1)]) ok_X11_refuse dX11_matter_33 hw408 hw409 hw1553 (hs.2.1 100 _ rfl) (by decide) (hf_lin hs 100 rfl) rfl (Nat.le_of_ble_eq_true rfl) rfl (Nat.le_of_ble_eq_true rfl) (Nat.zero_le _) (Nat.zero_le _) ?_
        show hf_G X Y_X11_refuse (d + 1) _ _ 0 [some (.ref 100), some (.int (-1))] [] (t, T, I, L, P) _
        refine hf_aload_n dX11_refuse_0 rfl rfl ?_
        refine hf_iload_n dX11_refuse_1 rfl rfl ?_
        refine hf_puti (c := 11) (j := 15) dX11_refuse_2 (hs.2.1 100 _ rfl) (hf_lin hs 100 rfl) (by decide) (by decide) hw381 rfl rfl ?_
        refine hf_aload_n dX11_refuse_5 rfl rfl ?_
        refine hf_getr (b := 155) (c := 11) (j := 12) dX11_refuse_6 (hs.2.1 100 _ rfl) (hf_lin hs 100 rfl) (by decide) (by decide) hw377 rfl (hs.2.2 100 12 _ rfl) ?_
        refine hf_iload_n dX11_refuse_9 rfl rfl ?_
        refine hf_callS (as := [.int (-1)]) ok_X11_refusalPlace dX11_refuse_10 hw411 hw412 rfl (Nat.le_of_ble_eq_true rfl) rfl (Nat.le_of_ble_eq_true rfl) (Nat.zero_le _) (Nat.zero_le _) ?_
        show hf_G X Y_X11_refusalPlace d _ _ 0 [some (.int (-1))] [] (t, T, (hf_up I 100 15 (-1)), L, P) _
        refine hf_iload_n dX11_refusalPlace_0 rfl rfl ?_
        refine hf_tableOut (tgt := 44) dX11_refusalPlace_1 (by decide) (by decide) ?_
        refine hf_iconst (v := 0) dX11_refusalPlace_44 (by decide) ?_
        refine hf_ireturn dX11_refusalPlace_45 rfl rfl ?_
        show hf_G X Y_X11_refuse (d + 1) _ _ 13 [some (.ref 100), some (.int (-1))] [.int 0, .ref 155] (t, T, (hf_up I 100 15 (-1)), L, P) _
        refine hf_dup2 dX11_refuse_13 rfl rfl ?_
        refine hf_iald_k (j := 0) (by decide) dX11_refuse_14 (hs.2.1 155 _ rfl) (hf_lin hs 155 rfl) (hf_vin (by decide)) ?_
        refine hf_iconst (v := 1) dX11_refuse_15 (by decide) ?_
        refine hf_iadd dX11_refuse_16 ?_
        refine hf_iast_k (j := 0) (by decide) dX11_refuse_17 (hs.2.1 155 _ rfl) (hf_lin hs 155 rfl) (hf_vin (by decide)) ?_
        refine hf_iload_n dX11_refuse_18 rfl rfl ?_
        refine hf_ireturn dX11_refuse_19 rfl rfl ?_
        show hf_G X Y_X11_matter (d + 2) _ _ 36 [some (.ref 100), some (.int x1), some (.int x2), some (.int x3), none] [.int (-1)] (t, T, (hf_up (hf_up I 100 15 (-1)) 155 0 ((I 155 0) + 1)), L, P) _
        refine hf_ireturn dX11_matter_36 rfl rfl ?_
        exact h
      · replace h := h.2 hc
        refine hf_iload_n dX11_within_5 rfl rfl ?_
        refine hf_iload_n dX11_within_6 rfl rfl ?_
        refine hf_icmp_gt (tgt := 14) dX11_within_7 (by decide) (fun hc => ?_) (fun hc => ?_)
        · replace h := h.1 hc
          refine hf_iconst (v := 0) dX11_within_14 (by decide) ?_
          refine hf_ireturn dX11_within_15 rfl (by decide) ?_
          show hf_G X Y_X11_matter (d + 2) _ _ 18 [some (.ref 100), some (.int x1), some (.int x2), some (.int x3), none] [.int 0] (t, T, I, L, P) _
          refine hf_if_eq (tgt := 31) dX11_matter_18 (by decide) (fun _ => ?_) (fun hc => absurd (show (0 : Int32) = (0 : Int32) by decide) hc)
          refine hf_aload_n dX11_matter_31 rfl rfl ?_
          refine hf_iconst (v := (-1)) dX11_matter_32 (by decide) ?_
          refine hf_callV (c := 11) (as := [.int (-1)]) ok_X11_refuse dX11_matter_33 hw408 hw409 hw1553 (hs.2.1 100 _ rfl) (by decide) (hf_lin hs 100 rfl) rfl (Nat.le_of_ble_eq_true rfl) rfl (Nat.le_of_ble_eq_true rfl) (Nat.zero_le _) (Nat.zero_le _) ?_
          show hf_G X Y_X11_refuse (d + 1) _ _ 0 [some (.ref 100), some (.int (-1))] [] (t, T, I, L, P) _
          refine hf_aload_n dX11_refuse_0 rfl rfl ?_
          refine hf_iload_n dX11_refuse_1 rfl rfl ?_
          refine hf_puti (c := 11) (j := 15) dX11_refuse_2 (hs.2.1 100 _ rfl) (hf_lin hs 100 rfl) (by decide) (by decide) hw381 rfl rfl ?_
          refine hf_aload_n dX11_refuse_5 rfl rfl ?_
          refine hf_getr (b := 155) (c := 11) (j := 12) dX11_refuse_6 (hs.2.1 100 _ rfl) (hf_lin hs 100 rfl) (by decide) (by decide) hw377 rfl (hs.2.2 100 12 _ rfl) ?_
          refine hf_iload_n dX11_refuse_9 rfl rfl ?_
          refine hf_callS (as := [.int (-1)]) ok_X11_refusalPlace dX11_refuse_10 hw411 hw412 rfl (Nat.le_of_ble_eq_true rfl) rfl (Nat.le_of_ble_eq_true rfl) (Nat.zero_le _) (Nat.zero_le _) ?_
          show hf_G X Y_X11_refusalPlace d _ _ 0 [some (.int (-1))] [] (t, T, (hf_up I 100 15 (-1)), L, P) _
          refine hf_iload_n dX11_refusalPlace_0 rfl rfl ?_
          refine hf_tableOut (tgt := 44) dX11_refusalPlace_1 (by decide) (by decide) ?_
          refine hf_iconst (v := 0) dX11_refusalPlace_44 (by decide) ?_
          refine hf_ireturn dX11_refusalPlace_45 rfl rfl ?_
          show hf_G X Y_X11_refuse (d + 1) _ _ 13 [some (.ref 100), some (.int (-1))] [.int 0, .ref 155] (t, T, (hf_up I 100 15 (-1)), L, P) _
          refine hf_dup2 dX11_refuse_13 rfl rfl ?_
          refine hf_iald_k (j := 0) (by decide) dX11_refuse_14 (hs.2.1 155 _ rfl) (hf_lin hs 155 rfl) (hf_vin (by decide)) ?_
          refine hf_iconst (v := 1) dX11_refuse_15 (by decide) ?_
          refine hf_iadd dX11_refuse_16 ?_
          refine hf_iast_k (j := 0) (by decide) dX11_refuse_17 (hs.2.1 155 _ rfl) (hf_lin hs 155 rfl) (hf_vin (by decide)) ?_
          refine hf_iload_n dX11_refuse_18 rfl rfl ?_
          refine hf_ireturn dX11_refuse_19 rfl rfl ?_
          show hf_G X Y_X11_matter (d + 2) _ _ 36 [some (.ref 100), some (.int x1), some (.int x2), some (.int x3), none] [.int (-1)] (t, T, (hf_up (hf_up I 100 15 (-1)) 155 0 ((I 155 0) + 1)), L, P) _
          refine hf_ireturn dX11_matter_36 rfl rfl ?_
          exact h
        · replace h := h.2 hc
          refine hf_iconst (v := 1) dX11_within_10 (by decide) ?_
          refine hf_goto (tgt := 15) dX11_within_11 (by decide) ?_
          refine hf_ireturn dX11_within_15 rfl (by decide) ?_
          show hf_G X Y_X11_matter (d + 2) _ _ 18 [some (.ref 100), some (.int x1), some (.int x2), some (.int x3), none] [.int 1] (t, T, I, L, P) _
          refine hf_if_eq (tgt := 31) dX11_matter_18 (by decide) (fun hc => absurd (show (1 : Int32) = (0 : Int32) from hc) (by decide)) (fun _ => ?_)
          refine hf_iload_n dX11_matter_21 rfl rfl ?_
          refine hf_iconst (v := 1) dX11_matter_22 (by decide) ?_
          refine hf_bipush (v := 99) dX11_matter_23 (by decide) ?_
          refine hf_callS (as := [.int x3, .int 1, .int 99]) ok_X11_within dX11_matter_25 hw405 hw406 rfl (Nat.le_of_ble_eq_true rfl) rfl (Nat.le_of_ble_eq_true rfl) (Nat.zero_le _) (Nat.zero_le _) ?_
          show hf_G X Y_X11_within (d + 1) _ _ 0 [some (.int x3), some (.int 1), some (.int 99)] [] (t, T, I, L, P) _
          refine hf_iload_n dX11_within_0 rfl rfl ?_
          refine hf_iload_n dX11_within_1 rfl rfl ?_
          refine hf_icmp_lt (tgt := 14) dX11_within_2 (by decide) (fun hc => ?_) (fun hc => ?_)
          · replace h := h.1 hc
            refine hf_iconst (v := 0) dX11_within_14 (by decide) ?_
            refine hf_ireturn dX11_within_15 rfl (by decide) ?_
            show hf_G X Y_X11_matter (d + 2) _ _ 28 [some (.ref 100), some (.int x1), some (.int x2), some (.int x3), none] [.int 0] (t, T, I, L, P) _
            refine hf_if_ne (tgt := 37) dX11_matter_28 (by decide) (fun hc => absurd (show ¬ (0 : Int32) = (0 : Int32) from hc) (by decide)) (fun _ => ?_)
            refine hf_aload_n dX11_matter_31 rfl rfl ?_
            refine hf_iconst (v := (-1)) dX11_matter_32 (by decide) ?_
            refine hf_callV (c := 11) (as := [.int (-1)]) ok_X11_refuse dX11_matter_33 hw408 hw409 hw1553 (hs.2.1 100 _ rfl) (by decide) (hf_lin hs 100 rfl) rfl (Nat.le_of_ble_eq_true rfl) rfl (Nat.le_of_ble_eq_true rfl) (Nat.zero_le _) (Nat.zero_le _) ?_
            show hf_G X Y_X11_refuse (d + 1) _ _ 0 [some (.ref 100), some (.int (-1))] [] (t, T, I, L, P) _
            refine hf_aload_n dX11_refuse_0 rfl rfl ?_
            refine hf_iload_n dX11_refuse_1 rfl rfl ?_
            refine hf_puti (c := 11) (j := 15) dX11_refuse_2 (hs.2.1 100 _ rfl) (hf_lin hs 100 rfl) (by decide) (by decide) hw381 rfl rfl ?_
            refine hf_aload_n dX11_refuse_5 rfl rfl ?_
            refine hf_getr (b := 155) (c := 11) (j := 12) dX11_refuse_6 (hs.2.1 100 _ rfl) (hf_lin hs 100 rfl) (by decide) (by decide) hw377 rfl (hs.2.2 100 12 _ rfl) ?_
            refine hf_iload_n dX11_refuse_9 rfl rfl ?_
            refine hf_callS (as := [.int (-1)]) ok_X11_refusalPlace dX11_refuse_10 hw411 hw412 rfl (Nat.le_of_ble_eq_true rfl) rfl (Nat.le_of_ble_eq_true rfl) (Nat.zero_le _) (Nat.zero_le _) ?_
            show hf_G X Y_X11_refusalPlace d _ _ 0 [some (.int (-1))] [] (t, T, (hf_up I 100 15 (-1)), L, P) _
            refine hf_iload_n dX11_refusalPlace_0 rfl rfl ?_
            refine hf_tableOut (tgt := 44) dX11_refusalPlace_1 (by decide) (by decide) ?_
            refine hf_iconst (v := 0) dX11_refusalPlace_44 (by decide) ?_
            refine hf_ireturn dX11_refusalPlace_45 rfl rfl ?_
            show hf_G X Y_X11_refuse (d + 1) _ _ 13 [some (.ref 100), some (.int (-1))] [.int 0, .ref 155] (t, T, (hf_up I 100 15 (-1)), L, P) _
            refine hf_dup2 dX11_refuse_13 rfl rfl ?_
            refine hf_iald_k (j := 0) (by decide) dX11_refuse_14 (hs.2.1 155 _ rfl) (hf_lin hs 155 rfl) (hf_vin (by decide)) ?_
            refine hf_iconst (v := 1) dX11_refuse_15 (by decide) ?_
            refine hf_iadd dX11_refuse_16 ?_
            refine hf_iast_k (j := 0) (by decide) dX11_refuse_17 (hs.2.1 155 _ rfl) (hf_lin hs 155 rfl) (hf_vin (by decide)) ?_
            refine hf_iload_n dX11_refuse_18 rfl rfl ?_
            refine hf_ireturn dX11_refuse_19 rfl rfl ?_
            show hf_G X Y_X11_matter (d + 2) _ _ 36 [some (.ref 100), some (.int x1), some (.int x2), some (.int x3), none] [.int (-1)] (t, T, (hf_up (hf_up I 100 15 (-1)) 155 0 ((I 155 0) + 1)), L, P) _
            refine hf_ireturn dX11_matter_36 rfl rfl ?_
            exact h
          · replace h := h.2 hc
            refine hf_iload_n dX11_within_5 rfl rfl ?_
            refine hf_iload_n dX11_within_6 rfl rfl ?_
            refine hf_icmp_gt (tgt := 14) dX11_within_7 (by decide) (fun hc => ?_) (fun hc => ?_)
            · replace h := h.1 hc
              refine hf_iconst (v := 0) dX11_within_14 (by decide) ?_
              refine hf_ireturn dX11_within_15 rfl (by decide) ?_
              show hf_G X Y_X11_matter (d + 2) _ _ 28 [some (.ref 100), some (.int x1), some (.int x2), some (.int x3), none] [.int 0] (t, T, I, L, P) _
              refine hf_if_ne (tgt := 37) dX11_matter_28 (by decide) (fun hc => absurd (show ¬ (0 : Int32) = (0 : Int32) from hc) (by decide)) (fun _ => ?_)
              refine hf_aload_n dX11_matter_31 rfl rfl ?_
              refine hf_iconst (v := (-1)) dX11_matter_32 (by decide) ?_
              refine hf_callV (c := 11) (as := [.int (-1)]) ok_X11_refuse dX11_matter_33 hw408 hw409 hw1553 (hs.2.1 100 _ rfl) (by decide) (hf_lin hs 100 rfl) rfl (Nat.le_of_ble_eq_true rfl) rfl (Nat.le_of_ble_eq_true rfl) (Nat.zero_le _) (Nat.zero_le _) ?_
              show hf_G X Y_X11_refuse (d + 1) _ _ 0 [some (.ref 100), some (.int (-1))] [] (t, T, I, L, P) _
              refine hf_aload_n dX11_refuse_0 rfl rfl ?_
              refine hf_iload_n dX11_refuse_1 rfl rfl ?_
              refine hf_puti (c := 11) (j := 15) dX11_refuse_2 (hs.2.1 100 _ rfl) (hf_lin hs 100 rfl) (by decide) (by decide) hw381 rfl rfl ?_
              refine hf_aload_n dX11_refuse_5 rfl rfl ?_
              refine hf_getr (b := 155) (c := 11) (j := 12) dX11_refuse_6 (hs.2.1 100 _ rfl) (hf_lin hs 100 rfl) (by decide) (by decide) hw377 rfl (hs.2.2 100 12 _ rfl) ?_
              refine hf_iload_n dX11_refuse_9 rfl rfl ?_
              refine hf_callS (as := [.int (-1)]) ok_X11_refusalPlace dX11_refuse_10 hw411 hw412 rfl (Nat.le_of_ble_eq_true rfl) rfl (Nat.le_of_ble_eq_true rfl) (Nat.zero_le _) (Nat.zero_le _) ?_
              show hf_G X Y_X11_refusalPlace d _ _ 0 [some (.int (-1))] [] (t, T, (hf_up I 100 15 (-1)), L, P) _
              refine hf_iload_n dX11_refusalPlace_0 rfl rfl ?_
              refine hf_tableOut (tgt := 44) dX11_refusalPlace_1 (by decide) (by decide) ?_
              refine hf_iconst (v := 0) dX11_refusalPlace_44 (by decide) ?_
              refine hf_ireturn dX11_refusalPlace_45 rfl rfl ?_
              show hf_G X Y_X11_refuse (d + 1) _ _ 13 [some (.ref 100), some (.int (-1))] [.int 0, .ref 155] (t, T, (hf_up I 100 15 (-1)), L, P) _
              refine hf_dup2 dX11_refuse_13 rfl rfl ?_
              refine hf_iald_k (j := 0) (by decide) dX11_refuse_14 (hs.2.1 155 _ rfl) (hf_lin hs 155 rfl) (hf_vin (by decide)) ?_
              refine hf_iconst (v := 1) dX11_refuse_15 (by decide) ?_
              refine hf_iadd dX11_refuse_16 ?_
              refine hf_iast_k (j := 0) (by decide) dX11_refuse_17 (hs.2.1 155 _ rfl) (hf_lin hs 155 rfl) (hf_vin (by decide)) ?_
              refine hf_iload_n dX11_refuse_18 rfl rfl ?_
              refine hf_ireturn dX11_refuse_19 rfl rfl ?_
              show hf_G X Y_X11_matter (d + 2) _ _ 36 [some (.ref 100), some (.int x1), some (.int x2), some (.int x3), none] [.int (-1)] (t, T, (hf_up (hf_up I 100 15 (-1)) 155 0 ((I 155 0) + 1)), L, P) _
              refine hf_ireturn dX11_matter_36 rfl rfl ?_
              exact h
            · replace h := h.2 hc
              refine hf_iconst (v := 1) dX11_within_10 (by decide) ?_
              refine hf_goto (tgt := 15) dX11_within_11 (by decide) ?_
              refine hf_ireturn dX11_within_15 rfl (by decide) ?_
              show hf_G X Y_X11_matter (d + 2) _ _ 28 [some (.ref 100), some (.int x1), some (.int x2), some (.int x3), none] [.int 1] (t, T, I, L, P) _
              refine hf_if_ne (tgt := 37) dX11_matter_28 (by decide) (fun _ => ?_) (fun hc => absurd (show (1 : Int32) = (0 : Int32) from hc) (by decide))
              refine hf_aload_n dX11_matter_37 rfl rfl ?_
              refine hf_getr (b := 101) (c := 11) (j := 0) dX11_matter_38 (hs.2.1 100 _ rfl) (hf_lin hs 100 rfl) (by decide) (by decide) hw365 rfl (hs.2.2 100 0 _ rfl) ?_
              refine hf_geti (c := 1) (j := 19) dX11_matter_41 (hs.2.1 101 _ rfl) (hf_lin hs 101 rfl) (by decide) (by decide) hw160 (Or.inl rfl) ?_
              refine hf_bipush (v := 8) dX11_matter_44 (by decide) ?_
              refine hf_icmp_lt (tgt := 56) dX11_matter_46 (by decide) (fun hc => ?_) (fun hc => ?_)
              · replace h := h.1 hc
                refine hf_aload_n dX11_matter_56 rfl rfl ?_
                refine hf_getr (b := 101) (c := 11) (j := 0) dX11_matter_57 (hs.2.1 100 _ rfl) (hf_lin hs 100 rfl) (by decide) (by decide) hw365 rfl (hs.2.2 100 0 _ rfl) ?_
                refine hf_geti (c := 1) (j := 19) dX11_matter_60 (hs.2.1 101 _ rfl) (hf_lin hs 101 rfl) (by decide) (by decide) hw160 (Or.inl rfl) ?_
                refine hf_istore (l2 := [some (.ref 100), some (.int x1), some (.int x2), some (.int x3), some (.int (I 101 19))]) dX11_matter_63 (by decide) rfl ?_
                refine hf_aload_n dX11_matter_65 rfl rfl ?_
                refine hf_getr (b := 101) (c := 11) (j := 0) dX11_matter_66 (hs.2.1 100 _ rfl) (hf_lin hs 100 rfl) (by decide) (by decide) hw365 rfl (hs.2.2 100 0 _ rfl) ?_
                refine hf_getr (b := 118) (c := 1) (j := 9) dX11_matter_69 (hs.2.1 101 _ rfl) (hf_lin hs 101 rfl) (by decide) (by decide) hw129 rfl (hs.2.2 101 9 _ rfl) ?_
                refine hf_iload dX11_matter_72 rfl ?_
                refine hf_iload_n dX11_matter_74 rfl rfl ?_
                refine hf_iast dX11_matter_75 (hs.2.1 118 _ rfl) (hf_lin hs 118 rfl) h.1 ?_
                replace h := h.2
                refine hf_aload_n dX11_matter_76 rfl rfl ?_
                refine hf_getr (b := 101) (c := 11) (j := 0) dX11_matter_77 (hs.2.1 100 _ rfl) (hf_lin hs 100 rfl) (by decide) (by decide) hw365 rfl (hs.2.2 100 0 _ rfl) ?_
                refine hf_getr (b := 119) (c := 1) (j := 10) dX11_matter_80 (hs.2.1 101 _ rfl) (hf_lin hs 101 rfl) (by decide) (by decide) hw132 rfl (hs.2.2 101 10 _ rfl) ?_
                refine hf_iload dX11_matter_83 rfl ?_
                refine hf_iload_n dX11_matter_85 rfl rfl ?_
                refine hf_iast dX11_matter_86 (hs.2.1 119 _ rfl) (hf_lin hs 119 rfl) h.1 ?_
                replace h := h.2
                refine hf_aload_n dX11_matter_87 rfl rfl ?_
                refine hf_getr (b := 101) (c := 11) (j := 0) dX11_matter_88 (hs.2.1 100 _ rfl) (hf_lin hs 100 rfl) (by decide) (by decide) hw365 rfl (hs.2.2 100 0 _ rfl) ?_
                refine hf_getr (b := 120) (c := 1) (j := 11) dX11_matter_91 (hs.2.1 101 _ rfl) (hf_lin hs 101 rfl) (by decide) (by decide) hw135 rfl (hs.2.2 101 11 _ rfl) ?_
                refine hf_iload dX11_matter_94 rfl ?_
                refine hf_iload_n dX11_matter_96 rfl rfl ?_
                refine hf_iast dX11_matter_97 (hs.2.1 120 _ rfl) (hf_lin hs 120 rfl) h.1 ?_
                replace h := h.2
                refine hf_aload_n dX11_matter_98 rfl rfl ?_
                refine hf_getr (b := 101) (c := 11) (j := 0) dX11_matter_99 (hs.2.1 100 _ rfl) (hf_lin hs 100 rfl) (by decide) (by decide) hw365 rfl (hs.2.2 100 0 _ rfl) ?_
                refine hf_dup dX11_matter_102 rfl ?_
                refine hf_geti (c := 1) (j := 19) dX11_matter_103 (hs.2.1 101 _ rfl) (hf_lin hs 101 rfl) (by decide) (by decide) hw160 (Or.inl rfl) ?_
                refine hf_iconst (v := 1) dX11_matter_106 (by decide) ?_
                refine hf_iadd dX11_matter_107 ?_
                refine hf_puti (c := 1) (j := 19) dX11_matter_108 (hs.2.1 101 _ rfl) (hf_lin hs 101 rfl) (by decide) (by decide) hw160 rfl rfl ?_
                refine hf_aload_n dX11_matter_111 rfl rfl ?_
                refine hf_iload dX11_matter_112 rfl ?_
                refine hf_callV (c := 11) (as := [.int (I 101 19)]) ok_X11_granted dX11_matter_114 hw418 hw419 hw1554 (hs.2.1 100 _ rfl) (by decide) (hf_lin hs 100 rfl) rfl (Nat.le_of_ble_eq_true rfl) rfl (Nat.le_of_ble_eq_true rfl) (Nat.zero_le _) (Nat.zero_le _) ?_
                show hf_G X Y_X11_granted (d + 1) _ _ 0 [some (.ref 100), some (.int (I 101 19))] [] (t, T, (hf_up (hf_up (hf_up (hf_up I 118 (((I 101 19)).toNatClampNeg) x1) 119 (((I 101 19)).toNatClampNeg) x2) 120 (((I 101 19)).toNatClampNeg) x3) 101 19 ((I 101 19) + 1)), L, P) _
                refine hf_aload_n dX11_granted_0 rfl rfl ?_
                refine hf_iconst (v := 0) dX11_granted_1 (by decide) ?_
                refine hf_puti (c := 11) (j := 15) dX11_granted_2 (hs.2.1 100 _ rfl) (hf_lin hs 100 rfl) (by decide) (by decide) hw381 rfl rfl ?_
                refine hf_aload_n dX11_granted_5 rfl rfl ?_
                refine hf_dup dX11_granted_6 rfl ?_
                refine hf_geti (c := 11) (j := 16) dX11_granted_7 (hs.2.1 100 _ rfl) (hf_lin hs 100 rfl) (by decide) (by decide) hw382 (Or.inl rfl) ?_
                refine hf_iconst (v := 1) dX11_granted_10 (by decide) ?_
                refine hf_iadd dX11_granted_11 ?_
                refine hf_puti (c := 11) (j := 16) dX11_granted_12 (hs.2.1 100 _ rfl) (hf_lin hs 100 rfl) (by decide) (by decide) hw382 rfl rfl ?_
                refine hf_iload_n dX11_granted_15 rfl rfl ?_
                refine hf_ireturn dX11_granted_16 rfl rfl ?_
                show hf_G X Y_X11_matter (d + 2) _ _ 117 [some (.ref 100), some (.int x1), some (.int x2), some (.int x3), some (.int (I 101 19))] [.int (I 101 19)] (t, T, (hf_up (hf_up (hf_up (hf_up (hf_up (hf_up I 118 (((I 101 19)).toNatClampNeg) x1) 119 (((I 101 19)).toNatClampNeg) x2) 120 (((I 101 19)).toNatClampNeg) x3) 101 19 ((I 101 19) + 1)) 100 15 0) 100 16 ((I 100 16) + 1)), L, P) _
                refine hf_ireturn dX11_matter_117 rfl rfl ?_
                exact h
              · replace h := h.2 hc
                refine hf_aload_n dX11_matter_49 rfl rfl ?_
                refine hf_bipush (v := (-5)) dX11_matter_50 (by decide) ?_
                refine hf_callV (c := 11) (as := [.int (-5)]) ok_X11_refuse dX11_matter_52 hw408 hw409 hw1553 (hs.2.1 100 _ rfl) (by decide) (hf_lin hs 100 rfl) rfl (Nat.le_of_ble_eq_true rfl) rfl (Nat.le_of_ble_eq_true rfl) (Nat.zero_le _) (Nat.zero_le _) ?_
                show hf_G X Y_X11_refuse (d + 1) _ _ 0 [some (.ref 100), some (.int (-5))] [] (t, T, I, L, P) _
                refine hf_aload_n dX11_refuse_0 rfl rfl ?_
                refine hf_iload_n dX11_refuse_1 rfl rfl ?_
                refine hf_puti (c := 11) (j := 15) dX11_refuse_2 (hs.2.1 100 _ rfl) (hf_lin hs 100 rfl) (by decide) (by decide) hw381 rfl rfl ?_
                refine hf_aload_n dX11_refuse_5 rfl rfl ?_
                refine hf_getr (b := 155) (c := 11) (j := 12) dX11_refuse_6 (hs.2.1 100 _ rfl) (hf_lin hs 100 rfl) (by decide) (by decide) hw377 rfl (hs.2.2 100 12 _ rfl) ?_
                refine hf_iload_n dX11_refuse_9 rfl rfl ?_
                refine hf_callS (as := [.int (-5)]) ok_X11_refusalPlace dX11_refuse_10 hw411 hw412 rfl (Nat.le_of_ble_eq_true rfl) rfl (Nat.le_of_ble_eq_true rfl) (Nat.zero_le _) (Nat.zero_le _) ?_
                show hf_G X Y_X11_refusalPlace d _ _ 0 [some (.int (-5))] [] (t, T, (hf_up I 100 15 (-5)), L, P) _
                refine hf_iload_n dX11_refusalPlace_0 rfl rfl ?_
                refine hf_tableIn (off := 39) (tgt := 40) dX11_refusalPlace_1 (by decide) (by decide) rfl (by decide) ?_
                refine hf_iconst (v := 3) dX11_refusalPlace_40 (by decide) ?_
                refine hf_ireturn dX11_refusalPlace_41 rfl rfl ?_
                show hf_G X Y_X11_refuse (d + 1) _ _ 13 [some (.ref 100), some (.int (-5))] [.int 3, .ref 155] (t, T, (hf_up I 100 15 (-5)), L, P) _
                refine hf_dup2 dX11_refuse_13 rfl rfl ?_
                refine hf_iald_k (j := 3) (by decide) dX11_refuse_14 (hs.2.1 155 _ rfl) (hf_lin hs 155 rfl) (hf_vin (by decide)) ?_
                refine hf_iconst (v := 1) dX11_refuse_15 (by decide) ?_
                refine hf_iadd dX11_refuse_16 ?_
                refine hf_iast_k (j := 3) (by decide) dX11_refuse_17 (hs.2.1 155 _ rfl) (hf_lin hs 155 rfl) (hf_vin (by decide)) ?_
                refine hf_iload_n dX11_refuse_18 rfl rfl ?_
                refine hf_ireturn dX11_refuse_19 rfl rfl ?_
                show hf_G X Y_X11_matter (d + 2) _ _ 55 [some (.ref 100), some (.int x1), some (.int x2), some (.int x3), none] [.int (-5)] (t, T, (hf_up (hf_up I 100 15 (-5)) 155 3 ((I 155 3) + 1)), L, P) _
                refine hf_ireturn dX11_matter_55 rfl rfl ?_
                exact h

set_option maxHeartbeats 4000000 in
theorem w_X11_cancel_0 {X : hf_X} {d k n t : Nat} {T : hf_T} {I : hf_I} {L : hf_L} {P : hf_P} {Q : Option Value → hf_M → Prop}  (hs : hf_Lay t T P) (h : Q (some (.int (I 101 19))) (t, T, (hf_up I 101 19 0), L, P)) : hf_G X Y_X11_cancel d k n 0 (hf_en [.ref 100] 2) [] (t, T, I, L, P) Q := by
  show hf_G X Y_X11_cancel d k n 0 [some (.ref 100), none] [] (t, T, I, L, P) Q
  refine hf_aload_n dX11_cancel_0 rfl rfl ?_
  refine hf_getr (b := 101) (c := 11) (j := 0) dX11_cancel_1 (hs.2.1 100 _ rfl) (hf_lin hs 100 rfl) (by decide) (by decide) hw365 rfl (hs.2.2 100 0 _ rfl) ?_
  refine hf_geti (c := 1) (j := 19) dX11_cancel_4 (hs.2.1 101 _ rfl) (hf_lin hs 101 rfl) (by decide) (by decide) hw160 (Or.inl rfl) ?_
  refine hf_istore_n (l2 := [some (.ref 100), some (.int (I 101 19))]) dX11_cancel_7 rfl (by decide) rfl ?_
  refine hf_aload_n dX11_cancel_8 rfl rfl ?_
  refine hf_getr (b := 101) (c := 11) (j := 0) dX11_cancel_9 (hs.2.1 100 _ rfl) (hf_lin hs 100 rfl) (by decide) (by decide) hw365 rfl (hs.2.2 100 0 _ rfl) ?_
  refine hf_iconst (v := 0) dX11_cancel_12 (by decide) ?_
  refine hf_puti (c := 1) (j := 19) dX11_cancel_13 (hs.2.1 101 _ rfl) (hf_lin hs 101 rfl) (by decide) (by decide) hw160 rfl rfl ?_
  refine hf_iload_n dX11_cancel_16 rfl rfl ?_
  refine hf_ireturn dX11_cancel_17 rfl rfl ?_
  exact h

set_option maxHeartbeats 4000000 in
theorem w_X11_edition_0 {X : hf_X} {d k n t : Nat} {T : hf_T} {I : hf_I} {L : hf_L} {P : hf_P} {Q : Option Value → hf_M → Prop} {x1 : Int32} (hs : hf_Lay t T P) (h : hf_G X Y_X2_choose d 0 0 0 (hf_en [.ref 144, .ref 101] 3) [] (t, T, I, L, P) (fun r M => hf_G X Y_X11_edition (d + 1) k n 11 [some (.ref 100), some (.int x1)] (r.toList ++ []) M Q)) : hf_G X Y_X11_edition (d + 1) k n 0 (hf_en [.ref 100, .int x1] 2) [] (t, T, I, L, P) Q := by
  show hf_G X Y_X11_edition (d + 1) k n 0 [some (.ref 100), some (.int x1)] [] (t, T, I, L, P) Q
  refine hf_aload_n dX11_edition_0 rfl rfl ?_
  refine hf_getr (b := 144) (c := 11) (j := 7) dX11_edition_1 (hs.2.1 100 _ rfl) (hf_lin hs 100 rfl) (by decide) (by decide) hw372 rfl (hs.2.2 100 7 _ rfl) ?_
  refine hf_aload_n dX11_edition_4 rfl rfl ?_
  refine hf_getr (b := 101) (c := 11) (j := 0) dX11_edition_5 (hs.2.1 100 _ rfl) (hf_lin hs 100 rfl) (by decide) (by decide) hw365 rfl (hs.2.2 100 0 _ rfl) ?_
  exact hf_callV (c := 2) (as := [.ref 101]) ok_X2_choose dX11_edition_8 hw975 hw976 hw977 (hs.2.1 144 _ rfl) (by decide) (hf_lin hs 144 rfl) rfl (Nat.le_of_ble_eq_true rfl) rfl (Nat.le_of_ble_eq_true rfl) (Nat.zero_le _) (Nat.zero_le _) h

set_option maxHeartbeats 4000000 in
theorem w_X11_edition_11 {X : hf_X} {d k n t : Nat} {T : hf_T} {I : hf_I} {L : hf_L} {P : hf_P} {Q : Option Value → hf_M → Prop} {x1 : Int32} (hs : hf_Lay t T P) (h : (¬ x1 = 0 → (¬ x1 = 1 → (¬ x1 = 2 → (3 ≤ x1 → hf_G X Y_X2_inOrder d 0 0 0 (hf_en [.ref 144, .int (x1 - 3)] 4) [] (t, T, I, L, P) (fun r M => hf_G X Y_X11_edition (d + 1) k n 68 [none, none] (r.toList ++ []) M Q)) ∧ (¬ (3 ≤ x1) → Q (some (.int (-1))) (t, T, I, L, P))) ∧ (x1 = 2 → Q (some (.int (I 144 4))) (t, T, I, L, P))) ∧ (x1 = 1 → Q (some (.int (I 144 3))) (t, T, I, L, P))) ∧ (x1 = 0 → Q (some (.int (I 144 2))) (t, T, I, L, P))) : hf_G X Y_X11_edition (d + 1) k n 11 [some (.ref 100), some (.int x1)] [] (t, T, I, L, P) Q := by
  refine hf_iload_n dX11_edition_11 rfl rfl ?_
  refine hf_if_ne (tgt := 23) dX11_edition_12 (by decide) (fun hc => ?_) (fun hc => ?_)
  · replace h := h.1 hc
    refine hf_iload_n dX11_edition_23 rfl rfl ?_
    refine hf_iconst (v := 1) dX11_edition_24 (by decide) ?_
    refine hf_icmp_ne (tgt := 36) dX11_edition_25 (by decide) (fun hc => ?_) (fun hc => ?_)
    · replace h := h.1 hc
      refine hf_iload_n dX11_edition_36 rfl rfl ?_
      refine hf_iconst (v := 2) dX11_edition_37 (by decide) ?_
      refine hf_icmp_ne (tgt := 49) dX11_edition_38 (by decide) (fun hc => ?_) (fun hc => ?_)
      · replace h := h.1 hc
        refine hf_iload_n dX11_edition_49 rfl rfl ?_
        refine hf_iconst (v := 3) dX11_edition_50 (by decide) ?_
        refine hf_icmp_ge (tgt := 58) dX11_edition_51 (by decide) (fun hc => ?_) (fun hc => ?_)
        · replace h := h.1 hc
          refine hf_aload_n dX11_edition_58 rfl rfl ?_
          refine hf_getr (b := 144) (c := 11) (j := 7) dX11_edition_59 (hs.2.1 100 _ rfl) (hf_lin hs 100 rfl) (by decide) (by decide) hw372 rfl (hs.2.2 100 7 _ rfl) ?_
          refine hf_iload_n dX11_edition_62 rfl rfl ?_
          refine hf_iconst (v := 3) dX11_edition_63 (by decide) ?_
          refine hf_isub dX11_edition_64 ?_
          exact hf_callV (c := 2) (as := [.int (x1 - 3)]) ok_X2_inOrder dX11_edition_65 hw985 hw986 hw987 (hs.2.1 144 _ rfl) (by decide) (hf_lin hs 144 rfl) rfl (Nat.le_of_ble_eq_true rfl) rfl (Nat.le_of_ble_eq_true rfl) (Nat.zero_le _) (Nat.zero_le _) (hf_mono (fun r M q => hf_drop (l' := [none, none]) (by simp [hf_sub]) q) h)
        · replace h := h.2 hc
          refine hf_iconst (v := (-1)) dX11_edition_54 (by decide) ?_
          refine hf_goto (tgt := 68) dX11_edition_55 (by decide) ?_
          refine hf_ireturn dX11_edition_68 rfl rfl ?_
          exact h
      · replace h := h.2 hc
        refine hf_aload_n dX11_edition_41 rfl rfl ?_
        refine hf_getr (b := 144) (c := 11) (j := 7) dX11_edition_42 (hs.2.1 100 _ rfl) (hf_lin hs 100 rfl) (by decide) (by decide) hw372 rfl (hs.2.2 100 7 _ rfl) ?_
        refine hf_geti (c := 2) (j := 4) dX11_edition_45 (hs.2.1 144 _ rfl) (hf_lin hs 144 rfl) (by decide) (by decide) hw335 (Or.inl rfl) ?_
        refine hf_ireturn dX11_edition_48 rfl rfl ?_
        exact h
    · replace h := h.2 hc
      refine hf_aload_n dX11_edition_28 rfl rfl ?_
      refine hf_getr (b := 144) (c := 11) (j := 7) dX11_edition_29 (hs.2.1 100 _ rfl) (hf_lin hs 100 rfl) (by decide) (by decide) hw372 rfl (hs.2.2 100 7 _ rfl) ?_
      refine hf_geti (c := 2) (j := 3) dX11_edition_32 (hs.2.1 144 _ rfl) (hf_lin hs 144 rfl) (by decide) (by decide) hw333 (Or.inl rfl) ?_
      refine hf_ireturn dX11_edition_35 rfl rfl ?_
      exact h
  · replace h := h.2 hc
    refine hf_aload_n dX11_edition_15 rfl rfl ?_
    refine hf_getr (b := 144) (c := 11) (j := 7) dX11_edition_16 (hs.2.1 100 _ rfl) (hf_lin hs 100 rfl) (by decide) (by decide) hw372 rfl (hs.2.2 100 7 _ rfl) ?_
    refine hf_geti (c := 2) (j := 2) dX11_edition_19 (hs.2.1 144 _ rfl) (hf_lin hs 144 rfl) (by decide) (by decide) hw331 (Or.inl rfl) ?_
    refine hf_ireturn dX11_edition_22 rfl rfl ?_
    exact h

set_option maxHeartbeats 4000000 in
theorem w_X11_edition_68 {X : hf_X} {d k n t : Nat} {T : hf_T} {I : hf_I} {L : hf_L} {P : hf_P} {Q : Option Value → hf_M → Prop} {s0 : Int32} (hs : hf_Lay t T P) (h : Q (some (.int s0)) (t, T, I, L, P)) : hf_G X Y_X11_edition d k n 68 [none, none] [.int s0] (t, T, I, L, P) Q := by
  refine hf_ireturn dX11_edition_68 rfl rfl ?_
  exact h

set_option maxHeartbeats 4000000 in
theorem w_X11_readers_0 {X : hf_X} {d k n t : Nat} {T : hf_T} {I : hf_I} {L : hf_L} {P : hf_P} {Q : Option Value → hf_M → Prop} {x1 : Int32} {x2 : Int32} (hs : hf_Lay t T P) (h : (x1 < 0 → Q (some (.int (-1))) (t, T, (hf_up (hf_up I 100 15 (-1)) 155 0 ((I 155 0) + 1)), L, P)) ∧ (¬ (x1 < 0) → (1000000 < x1 → Q (some (.int (-1))) (t, T, (hf_up (hf_up I 100 15 (-1)) 155 0 ((I 155 0) + 1)), L, P)) ∧ (¬ (1000000 < x1) → (x2 < 1 → Q (some (.int (-1))) (t, T, (hf_up (hf_up I 100 15 (-1)) 155 0 ((I 155 0) + 1)), L, P)) ∧ (¬ (x2 < 1) → (100 < x2 → Q (some (.int (-1))) (t, T, (hf_up (hf_up I 100 15 (-1)) 155 0 ((I 155 0) + 1)), L, P)) ∧ (¬ (100 < x2) → hf_G X Y_X0_read (d + 1) 0 0 0 (hf_en [.ref 146, .ref 101, .int x1, .int x2] 11) [] (t, T, I, L, P) (fun r M => hf_G X Y_X11_readers (d + 2) k n 41 [none, none, none] (r.toList ++ [.ref 100]) M Q)))))) : hf_G X Y_X11_readers (d + 2) k n 0 (hf_en [.ref 100, .int x1, .int x2] 3) [] (t, T, I, L, P) Q := by
  show hf_G X Y_X11_readers (d + 2) k n 0 [some (.ref 100), some (.int x1), some (.int x2)] [] (t, T, I, L, P) Q
  refine hf_iload_n dX11_readers_0 rfl rfl ?_
  refine hf_iconst (v := 0) dX11_readers_1 (by decide) ?_
  refine hf_ldcw (v := 1000000) dX11_readers_2 hw993 ?_
  refine hf_callS (as := [.int x1, .int 0, .int 1000000]) ok_X11_within dX11_readers_5 hw405 hw406 rfl (Nat.le_of_ble_eq_true rfl) rfl (Nat.le_of_ble_eq_true rfl) (Nat.zero_le _) (Nat.zero_le _) ?_
  show hf_G X Y_X11_within (d + 1) _ _ 0 [some (.int x1), some (.int 0), some (.int 1000000)] [] (t, T, I, L, P) _
  refine hf_iload_n dX11_within_0 rfl rfl ?_
  refine hf_iload_n dX11_within_1 rfl rfl ?_
  refine hf_icmp_lt (tgt := 14) dX11_within_2 (by decide) (fun hc => ?_) (fun hc => ?_)
  · replace h := h.1 hc
    refine hf_iconst (v := 0) dX11_within_14 (by decide) ?_
    refine hf_ireturn dX11_within_15 rfl (by decide) ?_
    show hf_G X Y_X11_readers (d + 2) _ _ 8 [some (.ref 100), some (.int x1), some (.int x2)] [.int 0] (t, T, I, L, P) _
    refine hf_if_eq (tgt := 21) dX11_readers_8 (by decide) (fun _ => ?_) (fun hc => absurd (show (0 : Int32) = (0 : Int32) by decide) hc)
    refine hf_aload_n dX11_readers_21 rfl rfl ?_
    refine hf_iconst (v := (-1)) dX11_readers_22 (by decide) ?_
    refine hf_callV (c := 11) (as := [.int (-1)]) ok_X11_refuse dX11_readers_23 hw408 hw409 hw1553 (hs.2.1 100 _ rfl) (by decide) (hf_lin hs 100 rfl) rfl (Nat.le_of_ble_eq_true rfl) rfl (Nat.le_of_ble_eq_true rfl) (Nat.zero_le _) (Nat.zero_le _) ?_
    show hf_G X Y_X11_refuse (d + 1) _ _ 0 [some (.ref 100), some (.int (-1))] [] (t, T, I, L, P) _
    refine hf_aload_n dX11_refuse_0 rfl rfl ?_
    refine hf_iload_n dX11_refuse_1 rfl rfl ?_
    refine hf_puti (c := 11) (j := 15) dX11_refuse_2 (hs.2.1 100 _ rfl) (hf_lin hs 100 rfl) (by decide) (by decide) hw381 rfl rfl ?_
    refine hf_aload_n dX11_refuse_5 rfl rfl ?_
    refine hf_getr (b := 155) (c := 11) (j := 12) dX11_refuse_6 (hs.2.1 100 _ rfl) (hf_lin hs 100 rfl) (by decide) (by decide) hw377 rfl (hs.2.2 100 12 _ rfl) ?_
    refine hf_iload_n dX11_refuse_9 rfl rfl ?_
    refine hf_callS (as := [.int (-1)]) ok_X11_refusalPlace dX11_refuse_10 hw411 hw412 rfl (Nat.le_of_ble_eq_true rfl) rfl (Nat.le_of_ble_eq_true rfl) (Nat.zero_le _) (Nat.zero_le _) ?_
    show hf_G X Y_X11_refusalPlace d _ _ 0 [some (.int (-1))] [] (t, T, (hf_up I 100 15 (-1)), L, P) _
    refine hf_iload_n dX11_refusalPlace_0 rfl rfl ?_
    refine hf_tableOut (tgt := 44) dX11_refusalPlace_1 (by decide) (by decide) ?_
    refine hf_iconst (v := 0) dX11_refusalPlace_44 (by decide) ?_
    refine hf_ireturn dX11_refusalPlace_45 rfl rfl ?_
    show hf_G X Y_X11_refuse (d + 1) _ _ 13 [some (.ref 100), some (.int (-1))] [.int 0, .ref 155] (t, T, (hf_up I 100 15 (-1)), L, P) _
    refine hf_dup2 dX11_refuse_13 rfl rfl ?_
    refine hf_iald_k (j := 0) (by decide) dX11_refuse_14 (hs.2.1 155 _ rfl) (hf_lin hs 155 rfl) (hf_vin (by decide)) ?_
    refine hf_iconst (v := 1) dX11_refuse_15 (by decide) ?_
    refine hf_iadd dX11_refuse_16 ?_
    refine hf_iast_k (j := 0) (by decide) dX11_refuse_17 (hs.2.1 155 _ rfl) (hf_lin hs 155 rfl) (hf_vin (by decide)) ?_
    refine hf_iload_n dX11_refuse_18 rfl rfl ?_
    refine hf_ireturn dX11_refuse_19 rfl rfl ?_
    show hf_G X Y_X11_readers (d + 2) _ _ 26 [some (.ref 100), some (.int x1), some (.int x2)] [.int (-1)] (t, T, (hf_up (hf_up I 100 15 (-1)) 155 0 ((I 155 0) + 1)), L, P) _
    refine hf_ireturn dX11_readers_26 rfl rfl ?_
    exact h
  · replace h := h.2 hc
    refine hf_iload_n dX11_within_5 rfl rfl ?_
    refine hf_iload_n dX11_within_6 rfl rfl ?_
    refine hf_icmp_gt (tgt := 14) dX11_within_7 (by decide) (fun hc => ?_) (fun hc => ?_)
    · replace h := h.1 hc
      refine hf_iconst (v := 0) dX11_within_14 (by decide) ?_
      refine hf_ireturn dX11_within_15 rfl (by decide) ?_
      show hf_G X Y_X11_readers (d + 2) _ _ 8 [some (.ref 100), some (.int x1), some (.int x2)] [.int 0] (t, T, I, L, P) _
      refine hf_if_eq (tgt := 21) dX11_readers_8 (by decide) (fun _ => ?_) (fun hc => absurd (show (0 : Int32) = (0 : Int32) by decide) hc)
      refine hf_aload_n dX11_readers_21 rfl rfl ?_
      refine hf_iconst (v := (-1)) dX11_readers_22 (by decide) ?_
      refine hf_callV (c := 11) (as := [.int (-1)]) ok_X11_refuse dX11_readers_23 hw408 hw409 hw1553 (hs.2.1 100 _ rfl) (by decide) (hf_lin hs 100 rfl) rfl (Nat.le_of_ble_eq_true rfl) rfl (Nat.le_of_ble_eq_true rfl) (Nat.zero_le _) (Nat.zero_le _) ?_
      show hf_G X Y_X11_refuse (d + 1) _ _ 0 [some (.ref 100), some (.int (-1))] [] (t, T, I, L, P) _
      refine hf_aload_n dX11_refuse_0 rfl rfl ?_
      refine hf_iload_n dX11_refuse_1 rfl rfl ?_
      refine hf_puti (c := 11) (j := 15) dX11_refuse_2 (hs.2.1 100 _ rfl) (hf_lin hs 100 rfl) (by decide) (by decide) hw381 rfl rfl ?_
      refine hf_aload_n dX11_refuse_5 rfl rfl ?_
      refine hf_getr (b := 155) (c := 11) (j := 12) dX11_refuse_6 (hs.2.1 100 _ rfl) (hf_lin hs 100 rfl) (by decide) (by decide) hw377 rfl (hs.2.2 100 12 _ rfl) ?_
      refine hf_iload_n dX11_refuse_9 rfl rfl ?_
      refine hf_callS (as := [.int (-1)]) ok_X11_refusalPlace dX11_refuse_10 hw411 hw412 rfl (Nat.le_of_ble_eq_true rfl) rfl (Nat.le_of_ble_eq_true rfl) (Nat.zero_le _) (Nat.zero_le _) ?_
      show hf_G X Y_X11_refusalPlace d _ _ 0 [some (.int (-1))] [] (t, T, (hf_up I 100 15 (-1)), L, P) _
      refine hf_iload_n dX11_refusalPlace_0 rfl rfl ?_
      refine hf_tableOut (tgt := 44) dX11_refusalPlace_1 (by decide) (by decide) ?_
      refine hf_iconst (v := 0) dX11_refusalPlace_44 (by decide) ?_
      refine hf_ireturn dX11_refusalPlace_45 rfl rfl ?_
      show hf_G X Y_X11_refuse (d + 1) _ _ 13 [some (.ref 100), some (.int (-1))] [.int 0, .ref 155] (t, T, (hf_up I 100 15 (-1)), L, P) _
      refine hf_dup2 dX11_refuse_13 rfl rfl ?_
      refine hf_iald_k (j := 0) (by decide) dX11_refuse_14 (hs.2.1 155 _ rfl) (hf_lin hs 155 rfl) (hf_vin (by decide)) ?_
      refine hf_iconst (v := 1) dX11_refuse_15 (by decide) ?_
      refine hf_iadd dX11_refuse_16 ?_
      refine hf_iast_k (j := 0) (by decide) dX11_refuse_17 (hs.2.1 155 _ rfl) (hf_lin hs 155 rfl) (hf_vin (by decide)) ?_
      refine hf_iload_n dX11_refuse_18 rfl rfl ?_
      refine hf_ireturn dX11_refuse_19 rfl rfl ?_
      show hf_G X Y_X11_readers (d + 2) _ _ 26 [some (.ref 100), some (.int x1), some (.int x2)] [.int (-1)] (t, T, (hf_up (hf_up I 100 15 (-1)) 155 0 ((I 155 0) + 1)), L, P) _
      refine hf_ireturn dX11_readers_26 rfl rfl ?_
      exact h
    · replace h := h.2 hc
      refine hf_iconst (v := 1) dX11_within_10 (by decide) ?_
      refine hf_goto (tgt := 15) dX11_within_11 (by decide) ?_
      refine hf_ireturn dX11_within_15 rfl (by decide) ?_
      show hf_G X Y_X11_readers (d + 2) _ _ 8 [some (.ref 100), some (.int x1), some (.int x2)] [.int 1] (t, T, I, L, P) _
      refine hf_if_eq (tgt := 21) dX11_readers_8 (by decide) (fun hc => absurd (show (1 : Int32) = (0 : Int32) from hc) (by decide)) (fun _ => ?_)
      refine hf_iload_n dX11_readers_11 rfl rfl ?_
      refine hf_iconst (v := 1) dX11_readers_12 (by decide) ?_
      refine hf_bipush (v := 100) dX11_readers_13 (by decide) ?_
      refine hf_callS (as := [.int x2, .int 1, .int 100]) ok_X11_within dX11_readers_15 hw405 hw406 rfl (Nat.le_of_ble_eq_true rfl) rfl (Nat.le_of_ble_eq_true rfl) (Nat.zero_le _) (Nat.zero_le _) ?_
      show hf_G X Y_X11_within (d + 1) _ _ 0 [some (.int x2), some (.int 1), some (.int 100)] [] (t, T, I, L, P) _
      refine hf_iload_n dX11_within_0 rfl rfl ?_
      refine hf_iload_n dX11_within_1 rfl rfl ?_
      refine hf_icmp_lt (tgt := 14) dX11_within_2 (by decide) (fun hc => ?_) (fun hc => ?_)
      · replace h := h.1 hc
        refine hf_iconst (v := 0) dX11_within_14 (by decide) ?_
        refine hf_ireturn dX11_within_15 rfl (by decide) ?_
        show hf_G X Y_X11_readers (d + 2) _ _ 18 [some (.ref 100), some (.int x1), some (.int x2)] [.int 0] (t, T, I, L, P) _
        refine hf_if_ne (tgt := 27) dX11_readers_18 (by decide) (fun hc => absurd (show ¬ (0 : Int32) = (0 : Int32) from hc) (by decide)) (fun _ => ?_)
        refine hf_aload_n dX11_readers_21 rfl rfl ?_
        refine hf_iconst (v := (-1)) dX11_readers_22 (by decide) ?_
        refine hf_callV (c := 11) (as := [.int (-1)]) ok_X11_refuse dX11_readers_23 hw408 hw409 hw1553 (hs.2.1 100 _ rfl) (by decide) (hf_lin hs 100 rfl) rfl (Nat.le_of_ble_eq_true rfl) rfl (Nat.le_of_ble_eq_true rfl) (Nat.zero_le _) (Nat.zero_le _) ?_
        show hf_G X Y_X11_refuse (d + 1) _ _ 0 [some (.ref 100), some (.int (-1))] [] (t, T, I, L, P) _
        refine hf_aload_n dX11_refuse_0 rfl rfl ?_
        refine hf_iload_n dX11_refuse_1 rfl rfl ?_
        refine hf_puti (c := 11) (j := 15) dX11_refuse_2 (hs.2.1 100 _ rfl) (hf_lin hs 100 rfl) (by decide) (by decide) hw381 rfl rfl ?_
        refine hf_aload_n dX11_refuse_5 rfl rfl ?_
        refine hf_getr (b := 155) (c := 11) (j := 12) dX11_refuse_6 (hs.2.1 100 _ rfl) (hf_lin hs 100 rfl) (by decide) (by decide) hw377 rfl (hs.2.2 100 12 _ rfl) ?_
        refine hf_iload_n dX11_refuse_9 rfl rfl ?_
        refine hf_callS (as := [.int (-1)]) ok_X11_refusalPlace dX11_refuse_10 hw411 hw412 rfl (Nat.le_of_ble_eq_true rfl) rfl (Nat.le_of_ble_eq_true rfl) (Nat.zero_le _) (Nat.zero_le _) ?_
        show hf_G X Y_X11_refusalPlace d _ _ 0 [some (.int (-1))] [] (t, T, (hf_up I 100 15 (-1)), L, P) _
        refine hf_iload_n dX11_refusalPlace_0 rfl rfl ?_
        refine hf_tableOut (tgt := 44) dX11_refusalPlace_1 (by decide) (by decide) ?_
        refine hf_iconst (v := 0) dX11_refusalPlace_44 (by decide) ?_
        refine hf_ireturn dX11_refusalPlace_45 rfl rfl ?_
        show hf_G X Y_X11_refuse (d + 1) _ _ 13 [some (.ref 100), some (.int (-1))] [.int 0, .ref 155] (t, T, (hf_up I 100 15 (-1)), L, P) _
        refine hf_dup2 dX11_refuse_13 rfl rfl ?_
        refine hf_iald_k (j := 0) (by decide) dX11_refuse_14 (hs.2.1 155 _ rfl) (hf_lin hs 155 rfl) (hf_vin (by decide)) ?_
        refine hf_iconst (v := 1) dX11_refuse_15 (by decide) ?_
        refine hf_iadd dX11_refuse_16 ?_
        refine hf_iast_k (j := 0) (by decide) dX11_refuse_17 (hs.2.1 155 _ rfl) (hf_lin hs 155 rfl) (hf_vin (by decide)) ?_
        refine hf_iload_n dX11_refuse_18 rfl rfl ?_
        refine hf_ireturn dX11_refuse_19 rfl rfl ?_
        show hf_G X Y_X11_readers (d + 2) _ _ 26 [some (.ref 100), some (.int x1), some (.int x2)] [.int (-1)] (t, T, (hf_up (hf_up I 100 15 (-1)) 155 0 ((I 155 0) + 1)), L, P) _
        refine hf_ireturn dX11_readers_26 rfl rfl ?_
        exact h
      · replace h := h.2 hc
        refine hf_iload_n dX11_within_5 rfl rfl ?_
        refine hf_iload_n dX11_within_6 rfl rfl ?_
        refine hf_icmp_gt (tgt := 14) dX11_within_7 (by decide) (fun hc => ?_) (fun hc => ?_)
        · replace h := h.1 hc
          refine hf_iconst (v := 0) dX11_within_14 (by decide) ?_
          refine hf_ireturn dX11_within_15 rfl (by decide) ?_
          show hf_G X Y_X11_readers (d + 2) _ _ 18 [some (.ref 100), some (.int x1), some (.int x2)] [.int 0] (t, T, I, L, P) _
          refine hf_if_ne (tgt := 27) dX11_readers_18 (by decide) (fun hc => absurd (show ¬ (0 : Int32) = (0 : Int32) from hc) (by decide)) (fun _ => ?_)
          refine hf_aload_n dX11_readers_21 rfl rfl ?_
          refine hf_iconst (v := (-1)) dX11_readers_22 (by decide) ?_
          refine hf_callV (c := 11) (as := [.int (-1)]) ok_X11_refuse dX11_readers_23 hw408 hw409 hw1553 (hs.2.1 100 _ rfl) (by decide) (hf_lin hs 100 rfl) rfl (Nat.le_of_ble_eq_true rfl) rfl (Nat.le_of_ble_eq_true rfl) (Nat.zero_le _) (Nat.zero_le _) ?_
          show hf_G X Y_X11_refuse (d + 1) _ _ 0 [some (.ref 100), some (.int (-1))] [] (t, T, I, L, P) _
          refine hf_aload_n dX11_refuse_0 rfl rfl ?_
          refine hf_iload_n dX11_refuse_1 rfl rfl ?_
          refine hf_puti (c := 11) (j := 15) dX11_refuse_2 (hs.2.1 100 _ rfl) (hf_lin hs 100 rfl) (by decide) (by decide) hw381 rfl rfl ?_
          refine hf_aload_n dX11_refuse_5 rfl rfl ?_
          refine hf_getr (b := 155) (c := 11) (j := 12) dX11_refuse_6 (hs.2.1 100 _ rfl) (hf_lin hs 100 rfl) (by decide) (by decide) hw377 rfl (hs.2.2 100 12 _ rfl) ?_
          refine hf_iload_n dX11_refuse_9 rfl rfl ?_
          refine hf_callS (as := [.int (-1)]) ok_X11_refusalPlace dX11_refuse_10 hw411 hw412 rfl (Nat.le_of_ble_eq_true rfl) rfl (Nat.le_of_ble_eq_true rfl) (Nat.zero_le _) (Nat.zero_le _) ?_
          show hf_G X Y_X11_refusalPlace d _ _ 0 [some (.int (-1))] [] (t, T, (hf_up I 100 15 (-1)), L, P) _
          refine hf_iload_n dX11_refusalPlace_0 rfl rfl ?_
          refine hf_tableOut (tgt := 44) dX11_refusalPlace_1 (by decide) (by decide) ?_
          refine hf_iconst (v := 0) dX11_refusalPlace_44 (by decide) ?_
          refine hf_ireturn dX11_refusalPlace_45 rfl rfl ?_
          show hf_G X Y_X11_refuse (d + 1) _ _ 13 [some (.ref 100), some (.int (-1))] [.int 0, .ref 155] (t, T, (hf_up I 100 15 (-1)), L, P) _
          refine hf_dup2 dX11_refuse_13 rfl rfl ?_
          refine hf_iald_k (j := 0) (by decide) dX11_refuse_14 (hs.2.1 155 _ rfl) (hf_lin hs 155 rfl) (hf_vin (by decide)) ?_
          refine hf_iconst (v := 1) dX11_refuse_15 (by decide) ?_
          refine hf_iadd dX11_refuse_16 ?_
          refine hf_iast_k (j := 0) (by decide) dX11_refuse_17 (hs.2.1 155 _ rfl) (hf_lin hs 155 rfl) (hf_vin (by decide)) ?_
          refine hf_iload_n dX11_refuse_18 rfl rfl ?_
          refine hf_ireturn dX11_refuse_19 rfl rfl ?_
          show hf_G X Y_X11_readers (d + 2) _ _ 26 [some (.ref 100), some (.int x1), some (.int x2)] [.int (-1)] (t, T, (hf_up (hf_up I 100 15 (-1)) 155 0 ((I 155 0) + 1)), L, P) _
          refine hf_ireturn dX11_readers_26 rfl rfl ?_
          exact h
        · replace h := h.2 hc
          refine hf_iconst (v := 1) dX11_within_10 (by decide) ?_
          refine hf_goto (tgt := 15) dX11_within_11 (by decide) ?_
          refine hf_ireturn dX11_within_15 rfl (by decide) ?_
          show hf_G X Y_X11_readers (d + 2) _ _ 18 [some (.ref 100), some (.int x1), some (.int x2)] [.int 1] (t, T, I, L, P) _
          refine hf_if_ne (tgt := 27) dX11_readers_18 (by decide) (fun _ => ?_) (fun hc => absurd (show (1 : Int32) = (0 : Int32) from hc) (by decide))
          refine hf_aload_n dX11_readers_27 rfl rfl ?_
          refine hf_aload_n dX11_readers_28 rfl rfl ?_
          refine hf_getr (b := 146) (c := 11) (j := 8) dX11_readers_29 (hs.2.1 100 _ rfl) (hf_lin hs 100 rfl) (by decide) (by decide) hw373 rfl (hs.2.2 100 8 _ rfl) ?_
          refine hf_aload_n dX11_readers_32 rfl rfl ?_
          refine hf_getr (b := 101) (c := 11) (j := 0) dX11_readers_33 (hs.2.1 100 _ rfl) (hf_lin hs 100 rfl) (by decide) (by decide) hw365 rfl (hs.2.2 100 0 _ rfl) ?_
          refine hf_iload_n dX11_readers_36 rfl rfl ?_
          refine hf_iload_n dX11_readers_37 rfl rfl ?_
          exact hf_callV (c := 0) (as := [.ref 101, .int x1, .int x2]) ok_X0_read dX11_readers_38 hw994 hw995 hw996 (hs.2.1 146 _ rfl) (by decide) (hf_lin hs 146 rfl) rfl (Nat.le_of_ble_eq_true rfl) rfl (Nat.le_of_ble_eq_true rfl) (Nat.zero_le _) (Nat.zero_le _) (hf_mono (fun r M q => hf_drop (l' := [none, none, none]) (by simp [hf_sub]) q) h)

set_option maxHeartbeats 4000000 in
theorem w_X11_readers_41 {X : hf_X} {d k n t : Nat} {T : hf_T} {I : hf_I} {L : hf_L} {P : hf_P} {Q : Option Value → hf_M → Prop} {s0 : Int32} (hs : hf_Lay t T P) (h : Q (some (.int s0)) (t, T, (hf_up (hf_up I 100 15 0) 100 16 ((I 100 16) + 1)), L, P)) : hf_G X Y_X11_readers (d + 1) k n 41 [none, none, none] [.int s0, .ref 100] (t, T, I, L, P) Q := by
  refine hf_callV (c := 11) (as := [.int s0]) ok_X11_granted dX11_readers_41 hw418 hw419 hw1554 (hs.2.1 100 _ rfl) (by decide) (hf_lin hs 100 rfl) rfl (Nat.le_of_ble_eq_true rfl) rfl (Nat.le_of_ble_eq_true rfl) (Nat.zero_le _) (Nat.zero_le _) ?_
  show hf_G X Y_X11_granted d _ _ 0 [some (.ref 100), some (.int s0)] [] (t, T, I, L, P) _
  refine hf_aload_n dX11_granted_0 rfl rfl ?_
  refine hf_iconst (v := 0) dX11_granted_1 (by decide) ?_
  refine hf_puti (c := 11) (j := 15) dX11_granted_2 (hs.2.1 100 _ rfl) (hf_lin hs 100 rfl) (by decide) (by decide) hw381 rfl rfl ?_
  refine hf_aload_n dX11_granted_5 rfl rfl ?_
  refine hf_dup dX11_granted_6 rfl ?_
  refine hf_geti (c := 11) (j := 16) dX11_granted_7 (hs.2.1 100 _ rfl) (hf_lin hs 100 rfl) (by decide) (by decide) hw382 (Or.inl rfl) ?_
  refine hf_iconst (v := 1) dX11_granted_10 (by decide) ?_
  refine hf_iadd dX11_granted_11 ?_
  refine hf_puti (c := 11) (j := 16) dX11_granted_12 (hs.2.1 100 _ rfl) (hf_lin hs 100 rfl) (by decide) (by decide) hw382 rfl rfl ?_
  refine hf_iload_n dX11_granted_15 rfl rfl ?_
  refine hf_ireturn dX11_granted_16 rfl rfl ?_
  show hf_G X Y_X11_readers (d + 1) _ _ 44 [none, none, none] [.int s0] (t, T, (hf_up (hf_up I 100 15 0) 100 16 ((I 100 16) + 1)), L, P) _
  refine hf_ireturn dX11_readers_44 rfl rfl ?_
  exact h

set_option maxHeartbeats 4000000 in
theorem w_X11_drawn_0 {X : hf_X} {d k n t : Nat} {T : hf_T} {I : hf_I} {L : hf_L} {P : hf_P} {Q : Option Value → hf_M → Prop} {x1 : Int32} (hs : hf_Lay t T P) (h : (x1 < 0 → Q (some (.int (-1))) (t, T, I, L, P)) ∧ (¬ (x1 < 0) → (((I 146 1) - 1) < x1 → Q (some (.int (-1))) (t, T, I, L, P)) ∧ (¬ (((I 146 1) - 1) < x1) → vp_in x1 12 ∧ (Q (some (.int (I 147 x1.toNatClampNeg))) (t, T, I, L, P))))) : hf_G X Y_X11_drawn (d + 1) k n 0 (hf_en [.ref 100, .int x1] 2) [] (t, T, I, L, P) Q := by
  show hf_G X Y_X11_drawn (d + 1) k n 0 [some (.ref 100), some (.int x1)] [] (t, T, I, L, P) Q
  refine hf_iload_n dX11_drawn_0 rfl rfl ?_
  refine hf_iconst (v := 0) dX11_drawn_1 (by decide) ?_
  refine hf_aload_n dX11_drawn_2 rfl rfl ?_
  refine hf_getr (b := 146) (c := 11) (j := 8) dX11_drawn_3 (hs.2.1 100 _ rfl) (hf_lin hs 100 rfl) (by decide) (by decide) hw373 rfl (hs.2.2 100 8 _ rfl) ?_
  refine hf_geti (c := 0) (j := 1) dX11_drawn_6 (hs.2.1 146 _ rfl) (hf_lin hs 146 rfl) (by decide) (by decide) hw349 (Or.inl rfl) ?_
  refine hf_iconst (v := 1) dX11_drawn_9 (by decide) ?_
  refine hf_isub dX11_drawn_10 ?_
  refine hf_callS (as := [.int x1, .int 0, .int ((I 146 1) - 1)]) ok_X11_within dX11_drawn_11 hw405 hw406 rfl (Nat.le_of_ble_eq_true rfl) rfl (Nat.le_of_ble_eq_true rfl) (Nat.zero_le _) (Nat.zero_le _) ?_
  show hf_G X Y_X11_within d _ _ 0 [some (.int x1), some (.int 0), some (.int ((I 146 1) - 1))] [] (t, T, I, L, P) _
  refine hf_iload_n dX11_within_0 rfl rfl ?_
  refine hf_iload_n dX11_within_1 rfl rfl ?_
  refine hf_icmp_lt (tgt := 14) dX11_within_2 (by decide) (fun hc => ?_) (fun hc => ?_)
  · replace h := h.1 hc
    refine hf_iconst (v := 0) dX11_within_14 (by decide) ?_
    refine hf_ireturn dX11_within_15 rfl (by decide) ?_
    show hf_G X Y_X11_drawn (d + 1) _ _ 14 [some (.ref 100), some (.int x1)] [.int 0] (t, T, I, L, P) _
    refine hf_if_eq (tgt := 29) dX11_drawn_14 (by decide) (fun _ => ?_) (fun hc => absurd (show (0 : Int32) = (0 : Int32) by decide) hc)
    refine hf_iconst (v := (-1)) dX11_drawn_29 (by decide) ?_
    refine hf_ireturn dX11_drawn_30 rfl rfl ?_
    exact h
  · replace h := h.2 hc
    refine hf_iload_n dX11_within_5 rfl rfl ?_
    refine hf_iload_n dX11_within_6 rfl rfl ?_
    refine hf_icmp_gt (tgt := 14) dX11_within_7 (by decide) (fun hc => ?_) (fun hc => ?_)
    · replace h := h.1 hc
      refine hf_iconst (v := 0) dX11_within_14 (by decide) ?_
      refine hf_ireturn dX11_within_15 rfl (by decide) ?_
      show hf_G X Y_X11_drawn (d + 1) _ _ 14 [some (.ref 100), some (.int x1)] [.int 0] (t, T, I, L, P) _
      refine hf_if_eq (tgt := 29) dX11_drawn_14 (by decide) (fun _ => ?_) (fun hc => absurd (show (0 : Int32) = (0 : Int32) by decide) hc)
      refine hf_iconst (v := (-1)) dX11_drawn_29 (by decide) ?_
      refine hf_ireturn dX11_drawn_30 rfl rfl ?_
      exact h
    · replace h := h.2 hc
      refine hf_iconst (v := 1) dX11_within_10 (by decide) ?_
      refine hf_goto (tgt := 15) dX11_within_11 (by decide) ?_
      refine hf_ireturn dX11_within_15 rfl (by decide) ?_
      show hf_G X Y_X11_drawn (d + 1) _ _ 14 [some (.ref 100), some (.int x1)] [.int 1] (t, T, I, L, P) _
      refine hf_if_eq (tgt := 29) dX11_drawn_14 (by decide) (fun hc => absurd (show (1 : Int32) = (0 : Int32) from hc) (by decide)) (fun _ => ?_)
      refine hf_aload_n dX11_drawn_17 rfl rfl ?_
      refine hf_getr (b := 146) (c := 11) (j := 8) dX11_drawn_18 (hs.2.1 100 _ rfl) (hf_lin hs 100 rfl) (by decide) (by decide) hw373 rfl (hs.2.2 100 8 _ rfl) ?_
      refine hf_getr (b := 147) (c := 0) (j := 0) dX11_drawn_21 (hs.2.1 146 _ rfl) (hf_lin hs 146 rfl) (by decide) (by decide) hw347 rfl (hs.2.2 146 0 _ rfl) ?_
      refine hf_iload_n dX11_drawn_24 rfl rfl ?_
      refine hf_iald dX11_drawn_25 (hs.2.1 147 _ rfl) (hf_lin hs 147 rfl) h.1 ?_
      replace h := h.2
      refine hf_goto (tgt := 30) dX11_drawn_26 (by decide) ?_
      refine hf_ireturn dX11_drawn_30 rfl rfl ?_
      exact h

set_option maxHeartbeats 4000000 in
theorem w_X11_count_0 {X : hf_X} {d k n t : Nat} {T : hf_T} {I : hf_I} {L : hf_L} {P : hf_P} {Q : Option Value → hf_M → Prop} {x1 : Int32} (hs : hf_Lay t T P) (h : (x1 < 8 → (x1 = 0 → Q (some (.int (I 105 5))) (t, T, I, L, P)) ∧ (x1 = 1 → Q (some (.int (I 101 17))) (t, T, I, L, P)) ∧ (x1 = 2 → Q (some (.int (I 114 2))) (t, T, I, L, P)) ∧ (x1 = 3 → Q (some (.int (I 101 18))) (t, T, I, L, P)) ∧ (x1 = 4 → Q (some (.int (I 101 19))) (t, T, I, L, P)) ∧ (x1 = 5 → Q (some (.int (I 101 15))) (t, T, I, L, P)) ∧ (x1 = 6 → Q (some (.int (I 148 2))) (t, T, I, L, P)) ∧ (x1 = 7 → Q (some (.int (I 100 13))) (t, T, I, L, P)) ∧ (x1 = 8 → Q (some (.int (-1))) (t, T, I, L, P)) ∧ (x1 = 9 → Q (some (.int (-1))) (t, T, I, L, P)) ∧ (x1 = 10 → Q (some (.int (-1))) (t, T, I, L, P)) ∧ (x1 = 11 → Q (some (.int (-1))) (t, T, I, L, P)) ∧ (x1 = 12 → Q (some (.int (-1))) (t, T, I, L, P)) ∧ (x1 = 13 → Q (some (.int (I 101 16))) (t, T, I, L, P)) ∧ (x1 = 14 → Q (some (.int (I 104 0))) (t, T, I, L, P)) ∧ (x1 = 15 → Q (some (.int (I 104 1))) (t, T, I, L, P)) ∧ (x1 = 16 → Q (some (.int (I 101 12))) (t, T, I, L, P)) ∧ (x1 = 17 → Q (some (.int (I 101 13))) (t, T, I, L, P)) ∧ (x1 = 18 → Q (some (.int (I 101 14))) (t, T, I, L, P)) ∧ (x1.toInt < 0 ∨ 18 < x1.toInt → Q (some (.int (-1))) (t, T, I, L, P))) ∧ (¬ (x1 < 8) → (12 < x1 → (x1 = 0 → Q (some (.int (I 105 5))) (t, T, I, L, P)) ∧ (x1 = 1 → Q (some (.int (I 101 17))) (t, T, I, L, P)) ∧ (x1 = 2 → Q (some (.int (I 114 2))) (t, T, I, L, P)) ∧ (x1 = 3 → Q (some (.int (I 101 18))) (t, T, I, L, P)) ∧ (x1 = 4 → Q (some (.int (I 101 19))) (t, T, I, L, P)) ∧ (x1 = 5 → Q (some (.int (I 101 15))) (t, T, I, L, P)) ∧ (x1 = 6 → Q (some (.int (I 148 2))) (t, T, I, L, P)) ∧ (x1 = 7 → Q (some (.int (I 100 13))) (t, T, I, L, P)) ∧ (x1 = 8 → Q (some (.int (-1))) (t, T, I, L, P)) ∧ (x1 = 9 → Q (some (.int (-1))) (t, T, I, L, P)) ∧ (x1 = 10 → Q (some (.int (-1))) (t, T, I, L, P)) ∧ (x1 = 11 → Q (some (.int (-1))) (t, T, I, L, P)) ∧ (x1 = 12 → Q (some (.int (-1))) (t, T, I, L, P)) ∧ (x1 = 13 → Q (some (.int (I 101 16))) (t, T, I, L, P)) ∧ (x1 = 14 → Q (some (.int (I 104 0))) (t, T, I, L, P)) ∧ (x1 = 15 → Q (some (.int (I 104 1))) (t, T, I, L, P)) ∧ (x1 = 16 → Q (some (.int (I 101 12))) (t, T, I, L, P)) ∧ (x1 = 17 → Q (some (.int (I 101 13))) (t, T, I, L, P)) ∧ (x1 = 18 → Q (some (.int (I 101 14))) (t, T, I, L, P)) ∧ (x1.toInt < 0 ∨ 18 < x1.toInt → Q (some (.int (-1))) (t, T, I, L, P))) ∧ (¬ (12 < x1) → vp_in (x1 - 8) 5 ∧ (Q (some (.int (I 155 (((x1 - 8)).toNatClampNeg)))) (t, T, I, L, P))))) : hf_G X Y_X11_count (d + 1) k n 0 (hf_en [.ref 100, .int x1] 2) [] (t, T, I, L, P) Q := by
  show hf_G X Y_X11_count (d + 1) k n 0 [some (.ref 100), some (.int x1)] [] (t, T, I, L, P) Q
  refine hf_iload_n dX11_count_0 rfl rfl ?_
  refine hf_bipush (v := 8) dX11_count_1 (by decide) ?_
  refine hf_bipush (v := 12) dX11_count_3 (by decide) ?_
  refine hf_callS (as := [.int x1, .int 8, .int 12]) ok_X11_within dX11_count_5 hw405 hw406 rfl (Nat.le_of_ble_eq_true rfl) rfl (Nat.le_of_ble_eq_true rfl) (Nat.zero_le _) (Nat.zero_le _) ?_
  show hf_G X Y_X11_within d _ _ 0 [some (.int x1), some (.int 8), some (.int 12)] [] (t, T, I, L, P) _
  refine hf_iload_n dX11_within_0 rfl rfl ?_
  refine hf_iload_n dX11_within_1 rfl rfl ?_
  refine hf_icmp_lt (tgt := 14) dX11_within_2 (by decide) (fun hc => ?_) (fun hc => ?_)
  · replace h := h.1 hc
    refine hf_iconst (v := 0) dX11_within_14 (by decide) ?_
    refine hf_ireturn dX11_within_15 rfl (by decide) ?_
    show hf_G X Y_X11_count (d + 1) _ _ 8 [some (.ref 100), some (.int x1)] [.int 0] (t, T, I, L, P) _
    refine hf_if_eq (tgt := 21) dX11_count_8 (by decide) (fun _ => ?_) (fun hc => absurd (show (0 : Int32) = (0 : Int32) by decide) hc)
    refine hf_iload_n dX11_count_21 rfl rfl ?_
    rcases hf_swc x1 0 18 with hq | ⟨j, hj, hq⟩
    · refine hf_tableOut (tgt := 231) dX11_count_22 (by omega) (by decide) ?_
      replace h := h.2.2.2.2.2.2.2.2.2.2.2.2.2.2.2.2.2.2.2 (by omega)
      refine hf_iconst (v := (-1)) dX11_count_231 (by decide) ?_
      refine hf_ireturn dX11_count_232 rfl rfl ?_
      exact h
    · match j, hj with
      | 0, _ =>
        have hx : x1 = 0 := hf_swi hq (by decide)
        refine hf_tableIn (off := 90) (tgt := 112) dX11_count_22 (by rw [hx]; decide) (by rw [hx]; decide) (by rw [hx]; rfl) (by decide) ?_
        replace h := h.1 hx
        refine hf_aload_n dX11_count_112 rfl rfl ?_
        refine hf_getr (b := 101) (c := 11) (j := 0) dX11_count_113 (hs.2.1 100 _ rfl) (hf_lin hs 100 rfl) (by decide) (by decide) hw365 rfl (hs.2.2 100 0 _ rfl) ?_
        refine hf_getr (b := 105) (c := 1) (j := 3) dX11_count_116 (hs.2.1 101 _ rfl) (hf_lin hs 101 rfl) (by decide) (by decide) hw111 rfl (hs.2.2 101 3 _ rfl) ?_
        refine hf_geti (c := 10) (j := 5) dX11_count_119 (hs.2.1 105 _ rfl) (hf_lin hs 105 rfl) (by decide) (by decide) hw63 (Or.inl rfl) ?_
        refine hf_ireturn dX11_count_122 rfl rfl ?_
        exact h
      | 1, _ =>
        have hx : x1 = 1 := hf_swi hq (by decide)
        refine hf_tableIn (off := 101) (tgt := 123) dX11_count_22 (by rw [hx]; decide) (by rw [hx]; decide) (by rw [hx]; rfl) (by decide) ?_
        replace h := h.2.1 hx
        refine hf_aload_n dX11_count_123 rfl rfl ?_
        refine hf_getr (b := 101) (c := 11) (j := 0) dX11_count_124 (hs.2.1 100 _ rfl) (hf_lin hs 100 rfl) (by decide) (by decide) hw365 rfl (hs.2.2 100 0 _ rfl) ?_
        refine hf_geti (c := 1) (j := 17) dX11_count_127 (hs.2.1 101 _ rfl) (hf_lin hs 101 rfl) (by decide) (by decide) hw155 (Or.inl rfl) ?_
        refine hf_ireturn dX11_count_130 rfl rfl ?_
        exact h
      | 2, _ =>
        have hx : x1 = 2 := hf_swi hq (by decide)
        refine hf_tableIn (off := 109) (tgt := 131) dX11_count_22 (by rw [hx]; decide) (by rw [hx]; decide) (by rw [hx]; rfl) (by decide) ?_
        replace h := h.2.2.1 hx
        refine hf_aload_n dX11_count_131 rfl rfl ?_
        refine hf_getr (b := 101) (c := 11) (j := 0) dX11_count_132 (hs.2.1 100 _ rfl) (hf_lin hs 100 rfl) (by decide) (by decide) hw365 rfl (hs.2.2 100 0 _ rfl) ?_
        refine hf_getr (b := 114) (c := 1) (j := 7) dX11_count_135 (hs.2.1 101 _ rfl) (hf_lin hs 101 rfl) (by decide) (by decide) hw123 rfl (hs.2.2 101 7 _ rfl) ?_
        refine hf_geti (c := 3) (j := 2) dX11_count_138 (hs.2.1 114 _ rfl) (hf_lin hs 114 rfl) (by decide) (by decide) hw89 (Or.inl rfl) ?_
        refine hf_ireturn dX11_count_141 rfl rfl ?_
        exact h
      | 3, _ =>
        have hx : x1 = 3 := hf_swi hq (by decide)
        refine hf_tableIn (off := 120) (tgt := 142) dX11_count_22 (by rw [hx]; decide) (by rw [hx]; decide) (by rw [hx]; rfl) (by decide) ?_
        replace h := h.2.2.2.1 hx
        refine hf_aload_n dX11_count_142 rfl rfl ?_
        refine hf_getr (b := 101) (c := 11) (j := 0) dX11_count_143 (hs.2.1 100 _ rfl) (hf_lin hs 100 rfl) (by decide) (by decide) hw365 rfl (hs.2.2 100 0 _ rfl) ?_
        refine hf_geti (c := 1) (j := 18) dX11_count_146 (hs.2.1 101 _ rfl) (hf_lin hs 101 rfl) (by decide) (by decide) hw157 (Or.inl rfl) ?_
        refine hf_ireturn dX11_count_149 rfl rfl ?_
        exact h
      | 4, _ =>
        have hx : x1 = 4 := hf_swi hq (by decide)
        refine hf_tableIn (off := 128) (tgt := 150) dX11_count_22 (by rw [hx]; decide) (by rw [hx]; decide) (by rw [hx]; rfl) (by decide) ?_
        replace h := h.2.2.2.2.1 hx
        refine hf_aload_n dX11_count_150 rfl rfl ?_
        refine hf_getr (b := 101) (c := 11) (j := 0) dX11_count_151 (hs.2.1 100 _ rfl) (hf_lin hs 100 rfl) (by decide) (by decide) hw365 rfl (hs.2.2 100 0 _ rfl) ?_
        refine hf_geti (c := 1) (j := 19) dX11_count_154 (hs.2.1 101 _ rfl) (hf_lin hs 101 rfl) (by decide) (by decide) hw160 (Or.inl rfl) ?_
        refine hf_ireturn dX11_count_157 rfl rfl ?_
        exact h
      | 5, _ =>
        have hx : x1 = 5 := hf_swi hq (by decide)
        refine hf_tableIn (off := 136) (tgt := 158) dX11_count_22 (by rw [hx]; decide) (by rw [hx]; decide) (by rw [hx]; rfl) (by decide) ?_
        replace h := h.2.2.2.2.2.1 hx
        refine hf_aload_n dX11_count_158 rfl rfl ?_
        refine hf_getr (b := 101) (c := 11) (j := 0) dX11_count_159 (hs.2.1 100 _ rfl) (hf_lin hs 100 rfl) (by decide) (by decide) hw365 rfl (hs.2.2 100 0 _ rfl) ?_
        refine hf_geti (c := 1) (j := 15) dX11_count_162 (hs.2.1 101 _ rfl) (hf_lin hs 101 rfl) (by decide) (by decide) hw149 (Or.inl rfl) ?_
        refine hf_ireturn dX11_count_165 rfl rfl ?_
        exact h
      | 6, _ =>
        have hx : x1 = 6 := hf_swi hq (by decide)
        refine hf_tableIn (off := 144) (tgt := 166) dX11_count_22 (by rw [hx]; decide) (by rw [hx]; decide) (by rw [hx]; rfl) (by decide) ?_
        replace h := h.2.2.2.2.2.2.1 hx
        refine hf_aload_n dX11_count_166 rfl rfl ?_
        refine hf_getr (b := 148) (c := 11) (j := 9) dX11_count_167 (hs.2.1 100 _ rfl) (hf_lin hs 100 rfl) (by decide) (by decide) hw374 rfl (hs.2.2 100 9 _ rfl) ?_
        refine hf_geti (c := 6) (j := 2) dX11_count_170 (hs.2.1 148 _ rfl) (hf_lin hs 148 rfl) (by decide) (by decide) hw360 (Or.inl rfl) ?_
        refine hf_ireturn dX11_count_173 rfl rfl ?_
        exact h
      | 7, _ =>
        have hx : x1 = 7 := hf_swi hq (by decide)
        refine hf_tableIn (off := 152) (tgt := 174) dX11_count_22 (by rw [hx]; decide) (by rw [hx]; decide) (by rw [hx]; rfl) (by decide) ?_
        replace h := h.2.2.2.2.2.2.2.1 hx
        refine hf_aload_n dX11_count_174 rfl rfl ?_
        refine hf_geti (c := 11) (j := 13) dX11_count_175 (hs.2.1 100 _ rfl) (hf_lin hs 100 rfl) (by decide) (by decide) hw378 (Or.inl rfl) ?_
        refine hf_ireturn dX11_count_178 rfl rfl ?_
        exact h
      | 8, _ =>
        have hx : x1 = 8 := hf_swi hq (by decide)
        refine hf_tableIn (off := 209) (tgt := 231) dX11_count_22 (by rw [hx]; decide) (by rw [hx]; decide) (by rw [hx]; rfl) (by decide) ?_
        replace h := h.2.2.2.2.2.2.2.2.1 hx
        refine hf_iconst (v := (-1)) dX11_count_231 (by decide) ?_
        refine hf_ireturn dX11_count_232 rfl rfl ?_
        exact h
      | 9, _ =>
        have hx : x1 = 9 := hf_swi hq (by decide)
        refine hf_tableIn (off := 209) (tgt := 231) dX11_count_22 (by rw [hx]; decide) (by rw [hx]; decide) (by rw [hx]; rfl) (by decide) ?_
        replace h := h.2.2.2.2.2.2.2.2.2.1 hx
        refine hf_iconst (v := (-1)) dX11_count_231 (by decide) ?_
        refine hf_ireturn dX11_count_232 rfl rfl ?_
        exact h
      | 10, _ =>
        have hx : x1 = 10 := hf_swi hq (by decide)
        refine hf_tableIn (off := 209) (tgt := 231) dX11_count_22 (by rw [hx]; decide) (by rw [hx]; decide) (by rw [hx]; rfl) (by decide) ?_
        replace h := h.2.2.2.2.2.2.2.2.2.2.1 hx
        refine hf_iconst (v := (-1)) dX11_count_231 (by decide) ?_
        refine hf_ireturn dX11_count_232 rfl rfl ?_
        exact h
      | 11, _ =>
        have hx : x1 = 11 := hf_swi hq (by decide)
        refine hf_tableIn (off := 209) (tgt := 231) dX11_count_22 (by rw [hx]; decide) (by rw [hx]; decide) (by rw [hx]; rfl) (by decide) ?_
        replace h := h.2.2.2.2.2.2.2.2.2.2.2.1 hx
        refine hf_iconst (v := (-1)) dX11_count_231 (by decide) ?_
        refine hf_ireturn dX11_count_232 rfl rfl ?_
        exact h
      | 12, _ =>
        have hx : x1 = 12 := hf_swi hq (by decide)
        refine hf_tableIn (off := 209) (tgt := 231) dX11_count_22 (by rw [hx]; decide) (by rw [hx]; decide) (by rw [hx]; rfl) (by decide) ?_
        replace h := h.2.2.2.2.2.2.2.2.2.2.2.2.1 hx
        refine hf_iconst (v := (-1)) dX11_count_231 (by decide) ?_
        refine hf_ireturn dX11_count_232 rfl rfl ?_
        exact h
      | 13, _ =>
        have hx : x1 = 13 := hf_swi hq (by decide)
        refine hf_tableIn (off := 157) (tgt := 179) dX11_count_22 (by rw [hx]; decide) (by rw [hx]; decide) (by rw [hx]; rfl) (by decide) ?_
        replace h := h.2.2.2.2.2.2.2.2.2.2.2.2.2.1 hx
        refine hf_aload_n dX11_count_179 rfl rfl ?_
        refine hf_getr (b := 101) (c := 11) (j := 0) dX11_count_180 (hs.2.1 100 _ rfl) (hf_lin hs 100 rfl) (by decide) (by decide) hw365 rfl (hs.2.2 100 0 _ rfl) ?_
        refine hf_geti (c := 1) (j := 16) dX11_count_183 (hs.2.1 101 _ rfl) (hf_lin hs 101 rfl) (by decide) (by decide) hw152 (Or.inl rfl) ?_
        refine hf_ireturn dX11_count_186 rfl rfl ?_
        exact h
      | 14, _ =>
        have hx : x1 = 14 := hf_swi hq (by decide)
        refine hf_tableIn (off := 165) (tgt := 187) dX11_count_22 (by rw [hx]; decide) (by rw [hx]; decide) (by rw [hx]; rfl) (by decide) ?_
        replace h := h.2.2.2.2.2.2.2.2.2.2.2.2.2.2.1 hx
        refine hf_aload_n dX11_count_187 rfl rfl ?_
        refine hf_getr (b := 101) (c := 11) (j := 0) dX11_count_188 (hs.2.1 100 _ rfl) (hf_lin hs 100 rfl) (by decide) (by decide) hw365 rfl (hs.2.2 100 0 _ rfl) ?_
        refine hf_getr (b := 104) (c := 1) (j := 2) dX11_count_191 (hs.2.1 101 _ rfl) (hf_lin hs 101 rfl) (by decide) (by decide) hw105 rfl (hs.2.2 101 2 _ rfl) ?_
        refine hf_iconst (v := 0) dX11_count_194 (by decide) ?_
        refine hf_iald_k (j := 0) (by decide) dX11_count_195 (hs.2.1 104 _ rfl) (hf_lin hs 104 rfl) (hf_vin (by decide)) ?_
        refine hf_ireturn dX11_count_196 rfl rfl ?_
        exact h
      | 15, _ =>
        have hx : x1 = 15 := hf_swi hq (by decide)
        refine hf_tableIn (off := 175) (tgt := 197) dX11_count_22 (by rw [hx]; decide) (by rw [hx]; decide) (by rw [hx]; rfl) (by decide) ?_
        replace h := h.2.2.2.2.2.2.2.2.2.2.2.2.2.2.2.1 hx
        refine hf_aload_n dX11_count_197 rfl rfl ?_
        refine hf_getr (b := 101) (c := 11) (j := 0) dX11_count_198 (hs.2.1 100 _ rfl) (hf_lin hs 100 rfl) (by decide) (by decide) hw365 rfl (hs.2.2 100 0 _ rfl) ?_
        refine hf_getr (b := 104) (c := 1) (j := 2) dX11_count_201 (hs.2.1 101 _ rfl) (hf_lin hs 101 rfl) (by decide) (by decide) hw105 rfl (hs.2.2 101 2 _ rfl) ?_
        refine hf_iconst (v := 1) dX11_count_204 (by decide) ?_
        refine hf_iald_k (j := 1) (by decide) dX11_count_205 (hs.2.1 104 _ rfl) (hf_lin hs 104 rfl) (hf_vin (by decide)) ?_
        refine hf_ireturn dX11_count_206 rfl rfl ?_
        exact h
      | 16, _ =>
        have hx : x1 = 16 := hf_swi hq (by decide)
        refine hf_tableIn (off := 185) (tgt := 207) dX11_count_22 (by rw [hx]; decide) (by rw [hx]; decide) (by rw [hx]; rfl) (by decide) ?_
        replace h := h.2.2.2.2.2.2.2.2.2.2.2.2.2.2.2.2.1 hx
        refine hf_aload_n dX11_count_207 rfl rfl ?_
        refine hf_getr (b := 101) (c := 11) (j := 0) dX11_count_208 (hs.2.1 100 _ rfl) (hf_lin hs 100 rfl) (by decide) (by decide) hw365 rfl (hs.2.2 100 0 _ rfl) ?_
        refine hf_geti (c := 1) (j := 12) dX11_count_211 (hs.2.1 101 _ rfl) (hf_lin hs 101 rfl) (by decide) (by decide) hw137 (Or.inl rfl) ?_
        refine hf_ireturn dX11_count_214 rfl rfl ?_
        exact h
      | 17, _ =>
        have hx : x1 = 17 := hf_swi hq (by decide)
        refine hf_tableIn (off := 193) (tgt := 215) dX11_count_22 (by rw [hx]; decide) (by rw [hx]; decide) (by rw [hx]; rfl) (by decide) ?_
        replace h := h.2.2.2.2.2.2.2.2.2.2.2.2.2.2.2.2.2.1 hx
        refine hf_aload_n dX11_count_215 rfl rfl ?_
        refine hf_getr (b := 101) (c := 11) (j := 0) dX11_count_216 (hs.2.1 100 _ rfl) (hf_lin hs 100 rfl) (by decide) (by decide) hw365 rfl (hs.2.2 100 0 _ rfl) ?_
        refine hf_geti (c := 1) (j := 13) dX11_count_219 (hs.2.1 101 _ rfl) (hf_lin hs 101 rfl) (by decide) (by decide) hw142 (Or.inl rfl) ?_
        refine hf_ireturn dX11_count_222 rfl rfl ?_
        exact h
      | 18, _ =>
        have hx : x1 = 18 := hf_swi hq (by decide)
        refine hf_tableIn (off := 201) (tgt := 223) dX11_count_22 (by rw [hx]; decide) (by rw [hx]; decide) (by rw [hx]; rfl) (by decide) ?_
        replace h := h.2.2.2.2.2.2.2.2.2.2.2.2.2.2.2.2.2.2.1 hx
        refine hf_aload_n dX11_count_223 rfl rfl ?_
        refine hf_getr (b := 101) (c := 11) (j := 0) dX11_count_224 (hs.2.1 100 _ rfl) (hf_lin hs 100 rfl) (by decide) (by decide) hw365 rfl (hs.2.2 100 0 _ rfl) ?_
        refine hf_geti (c := 1) (j := 14) dX11_count_227 (hs.2.1 101 _ rfl) (hf_lin hs 101 rfl) (by decide) (by decide) hw146 (Or.inl rfl) ?_
        refine hf_ireturn dX11_count_230 rfl rfl ?_
        exact h
      | j + 19, hj => exact absurd hj (by omega)
  · replace h := h.2 hc
    refine hf_iload_n dX11_within_5 rfl rfl ?_
    refine hf_iload_n dX11_within_6 rfl rfl ?_
    refine hf_icmp_gt (tgt := 14) dX11_within_7 (by decide) (fun hc => ?_) (fun hc => ?_)
    · replace h := h.1 hc
      refine hf_iconst (v := 0) dX11_within_14 (by decide) ?_
      refine hf_ireturn dX11_within_15 rfl (by decide) ?_
      show hf_G X Y_X11_count (d + 1) _ _ 8 [some (.ref 100), some (.int x1)] [.int 0] (t, T, I, L, P) _
      refine hf_if_eq (tgt := 21) dX11_count_8 (by decide) (fun _ => ?_) (fun hc => absurd (show (0 : Int32) = (0 : Int32) by decide) hc)
      refine hf_iload_n dX11_count_21 rfl rfl ?_
      rcases hf_swc x1 0 18 with hq | ⟨j, hj, hq⟩
      · refine hf_tableOut (tgt := 231) dX11_count_22 (by omega) (by decide) ?_
        replace h := h.2.2.2.2.2.2.2.2.2.2.2.2.2.2.2.2.2.2.2 (by omega)
        refine hf_iconst (v := (-1)) dX11_count_231 (by decide) ?_
        refine hf_ireturn dX11_count_232 rfl rfl ?_
        exact h
      · match j, hj with
        | 0, _ =>
          have hx : x1 = 0 := hf_swi hq (by decide)
          refine hf_tableIn (off := 90) (tgt := 112) dX11_count_22 (by rw [hx]; decide) (by rw [hx]; decide) (by rw [hx]; rfl) (by decide) ?_
          replace h := h.1 hx
          refine hf_aload_n dX11_count_112 rfl rfl ?_
          refine hf_getr (b := 101) (c := 11) (j := 0) dX11_count_113 (hs.2.1 100 _ rfl) (hf_lin hs 100 rfl) (by decide) (by decide) hw365 rfl (hs.2.2 100 0 _ rfl) ?_
          refine hf_getr (b := 105) (c := 1) (j := 3) dX11_count_116 (hs.2.1 101 _ rfl) (hf_lin hs 101 rfl) (by decide) (by decide) hw111 rfl (hs.2.2 101 3 _ rfl) ?_
          refine hf_geti (c := 10) (j := 5) dX11_count_119 (hs.2.1 105 _ rfl) (hf_lin hs 105 rfl) (by decide) (by decide) hw63 (Or.inl rfl) ?_
          refine hf_ireturn dX11_count_122 rfl rfl ?_
          exact h
        | 1, _ =>
          have hx : x1 = 1 := hf_swi hq (by decide)
          refine hf_tableIn (off := 101) (tgt := 123) dX11_count_22 (by rw [hx]; decide) (by rw [hx]; decide) (by rw [hx]; rfl) (by decide) ?_
          replace h := h.2.1 hx
          refine hf_aload_n dX11_count_123 rfl rfl ?_
          refine hf_getr (b := 101) (c := 11) (j := 0) dX11_count_124 (hs.2.1 100 _ rfl) (hf_lin hs 100 rfl) (by decide) (by decide) hw365 rfl (hs.2.2 100 0 _ rfl) ?_
          refine hf_geti (c := 1) (j := 17) dX11_count_127 (hs.2.1 101 _ rfl) (hf_lin hs 101 rfl) (by decide) (by decide) hw155 (Or.inl rfl) ?_
          refine hf_ireturn dX11_count_130 rfl rfl ?_
          exact h
        | 2, _ =>
          have hx : x1 = 2 := hf_swi hq (by decide)
          refine hf_tableIn (off := 109) (tgt := 131) dX11_count_22 (by rw [hx]; decide) (by rw [hx]; decide) (by rw [hx]; rfl) (by decide) ?_
          replace h := h.2.2.1 hx
          refine hf_aload_n dX11_count_131 rfl rfl ?_
          refine hf_getr (b := 101) (c := 11) (j := 0) dX11_count_132 (hs.2.1 100 _ rfl) (hf_lin hs 100 rfl) (by decide) (by decide) hw365 rfl (hs.2.2 100 0 _ rfl) ?_
          refine hf_getr (b := 114) (c := 1) (j := 7) dX11_count_135 (hs.2.1 101 _ rfl) (hf_lin hs 101 rfl) (by decide) (by decide) hw123 rfl (hs.2.2 101 7 _ rfl) ?_
          refine hf_geti (c := 3) (j := 2) dX11_count_138 (hs.2.1 114 _ rfl) (hf_lin hs 114 rfl) (by decide) (by decide) hw89 (Or.inl rfl) ?_
          refine hf_ireturn dX11_count_141 rfl rfl ?_
          exact h
        | 3, _ =>
          have hx : x1 = 3 := hf_swi hq (by decide)
          refine hf_tableIn (off := 120) (tgt := 142) dX11_count_22 (by rw [hx]; decide) (by rw [hx]; decide) (by rw [hx]; rfl) (by decide) ?_
          replace h := h.2.2.2.1 hx
          refine hf_aload_n dX11_count_142 rfl rfl ?_
          refine hf_getr (b := 101) (c := 11) (j := 0) dX11_count_143 (hs.2.1 100 _ rfl) (hf_lin hs 100 rfl) (by decide) (by decide) hw365 rfl (hs.2.2 100 0 _ rfl) ?_
          refine hf_geti (c := 1) (j := 18) dX11_count_146 (hs.2.1 101 _ rfl) (hf_lin hs 101 rfl) (by decide) (by decide) hw157 (Or.inl rfl) ?_
          refine hf_ireturn dX11_count_149 rfl rfl ?_
          exact h
        | 4, _ =>
          have hx : x1 = 4 := hf_swi hq (by decide)
          refine hf_tableIn (off := 128) (tgt := 150) dX11_count_22 (by rw [hx]; decide) (by rw [hx]; decide) (by rw [hx]; rfl) (by decide) ?_
          replace h := h.2.2.2.2.1 hx
          refine hf_aload_n dX11_count_150 rfl rfl ?_
          refine hf_getr (b := 101) (c := 11) (j := 0) dX11_count_151 (hs.2.1 100 _ rfl) (hf_lin hs 100 rfl) (by decide) (by decide) hw365 rfl (hs.2.2 100 0 _ rfl) ?_
          refine hf_geti (c := 1) (j := 19) dX11_count_154 (hs.2.1 101 _ rfl) (hf_lin hs 101 rfl) (by decide) (by decide) hw160 (Or.inl rfl) ?_
          refine hf_ireturn dX11_count_157 rfl rfl ?_
          exact h
        | 5, _ =>
          have hx : x1 = 5 := hf_swi hq (by decide)
          refine hf_tableIn (off := 136) (tgt := 158) dX11_count_22 (by rw [hx]; decide) (by rw [hx]; decide) (by rw [hx]; rfl) (by decide) ?_
          replace h := h.2.2.2.2.2.1 hx
          refine hf_aload_n dX11_count_158 rfl rfl ?_
          refine hf_getr (b := 101) (c := 11) (j := 0) dX11_count_159 (hs.2.1 100 _ rfl) (hf_lin hs 100 rfl) (by decide) (by decide) hw365 rfl (hs.2.2 100 0 _ rfl) ?_
          refine hf_geti (c := 1) (j := 15) dX11_count_162 (hs.2.1 101 _ rfl) (hf_lin hs 101 rfl) (by decide) (by decide) hw149 (Or.inl rfl) ?_
          refine hf_ireturn dX11_count_165 rfl rfl ?_
          exact h
        | 6, _ =>
          have hx : x1 = 6 := hf_swi hq (by decide)
          refine hf_tableIn (off := 144) (tgt := 166) dX11_count_22 (by rw [hx]; decide) (by rw [hx]; decide) (by rw [hx]; rfl) (by decide) ?_
          replace h := h.2.2.2.2.2.2.1 hx
          refine hf_aload_n dX11_count_166 rfl rfl ?_
          refine hf_getr (b := 148) (c := 11) (j := 9) dX11_count_167 (hs.2.1 100 _ rfl) (hf_lin hs 100 rfl) (by decide) (by decide) hw374 rfl (hs.2.2 100 9 _ rfl) ?_
          refine hf_geti (c := 6) (j := 2) dX11_count_170 (hs.2.1 148 _ rfl) (hf_lin hs 148 rfl) (by decide) (by decide) hw360 (Or.inl rfl) ?_
          refine hf_ireturn dX11_count_173 rfl rfl ?_
          exact h
        | 7, _ =>
          have hx : x1 = 7 := hf_swi hq (by decide)
          refine hf_tableIn (off := 152) (tgt := 174) dX11_count_22 (by rw [hx]; decide) (by rw [hx]; decide) (by rw [hx]; rfl) (by decide) ?_
          replace h := h.2.2.2.2.2.2.2.1 hx
          refine hf_aload_n dX11_count_174 rfl rfl ?_
          refine hf_geti (c := 11) (j := 13) dX11_count_175 (hs.2.1 100 _ rfl) (hf_lin hs 100 rfl) (by decide) (by decide) hw378 (Or.inl rfl) ?_
          refine hf_ireturn dX11_count_178 rfl rfl ?_
          exact h
        | 8, _ =>
          have hx : x1 = 8 := hf_swi hq (by decide)
          refine hf_tableIn (off := 209) (tgt := 231) dX11_count_22 (by rw [hx]; decide) (by rw [hx]; decide) (by rw [hx]; rfl) (by decide) ?_
          replace h := h.2.2.2.2.2.2.2.2.1 hx
          refine hf_iconst (v := (-1)) dX11_count_231 (by decide) ?_
          refine hf_ireturn dX11_count_232 rfl rfl ?_
          exact h
        | 9, _ =>
          have hx : x1 = 9 := hf_swi hq (by decide)
          refine hf_tableIn (off := 209) (tgt := 231) dX11_count_22 (by rw [hx]; decide) (by rw [hx]; decide) (by rw [hx]; rfl) (by decide) ?_
          replace h := h.2.2.2.2.2.2.2.2.2.1 hx
          refine hf_iconst (v := (-1)) dX11_count_231 (by decide) ?_
          refine hf_ireturn dX11_count_232 rfl rfl ?_
          exact h
        | 10, _ =>
          have hx : x1 = 10 := hf_swi hq (by decide)
          refine hf_tableIn (off := 209) (tgt := 231) dX11_count_22 (by rw [hx]; decide) (by rw [hx]; decide) (by rw [hx]; rfl) (by decide) ?_
          replace h := h.2.2.2.2.2.2.2.2.2.2.1 hx
          refine hf_iconst (v := (-1)) dX11_count_231 (by decide) ?_
          refine hf_ireturn dX11_count_232 rfl rfl ?_
          exact h
        | 11, _ =>
          have hx : x1 = 11 := hf_swi hq (by decide)
          refine hf_tableIn (off := 209) (tgt := 231) dX11_count_22 (by rw [hx]; decide) (by rw [hx]; decide) (by rw [hx]; rfl) (by decide) ?_
          replace h := h.2.2.2.2.2.2.2.2.2.2.2.1 hx
          refine hf_iconst (v := (-1)) dX11_count_231 (by decide) ?_
          refine hf_ireturn dX11_count_232 rfl rfl ?_
          exact h
        | 12, _ =>
          have hx : x1 = 12 := hf_swi hq (by decide)
          refine hf_tableIn (off := 209) (tgt := 231) dX11_count_22 (by rw [hx]; decide) (by rw [hx]; decide) (by rw [hx]; rfl) (by decide) ?_
          replace h := h.2.2.2.2.2.2.2.2.2.2.2.2.1 hx
          refine hf_iconst (v := (-1)) dX11_count_231 (by decide) ?_
          refine hf_ireturn dX11_count_232 rfl rfl ?_
          exact h
        | 13, _ =>
          have hx : x1 = 13 := hf_swi hq (by decide)
          refine hf_tableIn (off := 157) (tgt := 179) dX11_count_22 (by rw [hx]; decide) (by rw [hx]; decide) (by rw [hx]; rfl) (by decide) ?_
          replace h := h.2.2.2.2.2.2.2.2.2.2.2.2.2.1 hx
          refine hf_aload_n dX11_count_179 rfl rfl ?_
          refine hf_getr (b := 101) (c := 11) (j := 0) dX11_count_180 (hs.2.1 100 _ rfl) (hf_lin hs 100 rfl) (by decide) (by decide) hw365 rfl (hs.2.2 100 0 _ rfl) ?_
          refine hf_geti (c := 1) (j := 16) dX11_count_183 (hs.2.1 101 _ rfl) (hf_lin hs 101 rfl) (by decide) (by decide) hw152 (Or.inl rfl) ?_
          refine hf_ireturn dX11_count_186 rfl rfl ?_
          exact h
        | 14, _ =>
          have hx : x1 = 14 := hf_swi hq (by decide)
          refine hf_tableIn (off := 165) (tgt := 187) dX11_count_22 (by rw [hx]; decide) (by rw [hx]; decide) (by rw [hx]; rfl) (by decide) ?_
          replace h := h.2.2.2.2.2.2.2.2.2.2.2.2.2.2.1 hx
          refine hf_aload_n dX11_count_187 rfl rfl ?_
          refine hf_getr (b := 101) (c := 11) (j := 0) dX11_count_188 (hs.2.1 100 _ rfl) (hf_lin hs 100 rfl) (by decide) (by decide) hw365 rfl (hs.2.2 100 0 _ rfl) ?_
          refine hf_getr (b := 104) (c := 1) (j := 2) dX11_count_191 (hs.2.1 101 _ rfl) (hf_lin hs 101 rfl) (by decide) (by decide) hw105 rfl (hs.2.2 101 2 _ rfl) ?_
          refine hf_iconst (v := 0) dX11_count_194 (by decide) ?_
          refine hf_iald_k (j := 0) (by decide) dX11_count_195 (hs.2.1 104 _ rfl) (hf_lin hs 104 rfl) (hf_vin (by decide)) ?_
          refine hf_ireturn dX11_count_196 rfl rfl ?_
          exact h
        | 15, _ =>
          have hx : x1 = 15 := hf_swi hq (by decide)
          refine hf_tableIn (off := 175) (tgt := 197) dX11_count_22 (by rw [hx]; decide) (by rw [hx]; decide) (by rw [hx]; rfl) (by decide) ?_
          replace h := h.2.2.2.2.2.2.2.2.2.2.2.2.2.2.2.1 hx
          refine hf_aload_n dX11_count_197 rfl rfl ?_
          refine hf_getr (b := 101) (c := 11) (j := 0) dX11_count_198 (hs.2.1 100 _ rfl) (hf_lin hs 100 rfl) (by decide) (by decide) hw365 rfl (hs.2.2 100 0 _ rfl) ?_
          refine hf_getr (b := 104) (c := 1) (j := 2) dX11_count_201 (hs.2.1 101 _ rfl) (hf_lin hs 101 rfl) (by decide) (by decide) hw105 rfl (hs.2.2 101 2 _ rfl) ?_
          refine hf_iconst (v := 1) dX11_count_204 (by decide) ?_
          refine hf_iald_k (j := 1) (by decide) dX11_count_205 (hs.2.1 104 _ rfl) (hf_lin hs 104 rfl) (hf_vin (by decide)) ?_
          refine hf_ireturn dX11_count_206 rfl rfl ?_
          exact h
        | 16, _ =>
          have hx : x1 = 16 := hf_swi hq (by decide)
          refine hf_tableIn (off := 185) (tgt := 207) dX11_count_22 (by rw [hx]; decide) (by rw [hx]; decide) (by rw [hx]; rfl) (by decide) ?_
          replace h := h.2.2.2.2.2.2.2.2.2.2.2.2.2.2.2.2.1 hx
          refine hf_aload_n dX11_count_207 rfl rfl ?_
          refine hf_getr (b := 101) (c := 11) (j := 0) dX11_count_208 (hs.2.1 100 _ rfl) (hf_lin hs 100 rfl) (by decide) (by decide) hw365 rfl (hs.2.2 100 0 _ rfl) ?_
          refine hf_geti (c := 1) (j := 12) dX11_count_211 (hs.2.1 101 _ rfl) (hf_lin hs 101 rfl) (by decide) (by decide) hw137 (Or.inl rfl) ?_
          refine hf_ireturn dX11_count_214 rfl rfl ?_
          exact h
        | 17, _ =>
          have hx : x1 = 17 := hf_swi hq (by decide)
          refine hf_tableIn (off := 193) (tgt := 215) dX11_count_22 (by rw [hx]; decide) (by rw [hx]; decide) (by rw [hx]; rfl) (by decide) ?_
          replace h := h.2.2.2.2.2.2.2.2.2.2.2.2.2.2.2.2.2.1 hx
          refine hf_aload_n dX11_count_215 rfl rfl ?_
          refine hf_getr (b := 101) (c := 11) (j := 0) dX11_count_216 (hs.2.1 100 _ rfl) (hf_lin hs 100 rfl) (by decide) (by decide) hw365 rfl (hs.2.2 100 0 _ rfl) ?_
          refine hf_geti (c := 1) (j := 13) dX11_count_219 (hs.2.1 101 _ rfl) (hf_lin hs 101 rfl) (by decide) (by decide) hw142 (Or.inl rfl) ?_
          refine hf_ireturn dX11_count_222 rfl rfl ?_
          exact h
        | 18, _ =>
          have hx : x1 = 18 := hf_swi hq (by decide)
          refine hf_tableIn (off := 201) (tgt := 223) dX11_count_22 (by rw [hx]; decide) (by rw [hx]; decide) (by rw [hx]; rfl) (by decide) ?_
          replace h := h.2.2.2.2.2.2.2.2.2.2.2.2.2.2.2.2.2.2.1 hx
          refine hf_aload_n dX11_count_223 rfl rfl ?_
          refine hf_getr (b := 101) (c := 11) (j := 0) dX11_count_224 (hs.2.1 100 _ rfl) (hf_lin hs 100 rfl) (by decide) (by decide) hw365 rfl (hs.2.2 100 0 _ rfl) ?_
          refine hf_geti (c := 1) (j := 14) dX11_count_227 (hs.2.1 101 _ rfl) (hf_lin hs 101 rfl) (by decide) (by decide) hw146 (Or.inl rfl) ?_
          refine hf_ireturn dX11_count_230 rfl rfl ?_
          exact h
        | j + 19, hj => exact absurd hj (by omega)
    · replace h := h.2 hc
      refine hf_iconst (v := 1) dX11_within_10 (by decide) ?_
      refine hf_goto (tgt := 15) dX11_within_11 (by decide) ?_
      refine hf_ireturn dX11_within_15 rfl (by decide) ?_
      show hf_G X Y_X11_count (d + 1) _ _ 8 [some (.ref 100), some (.int x1)] [.int 1] (t, T, I, L, P) _
      refine hf_if_eq (tgt := 21) dX11_count_8 (by decide) (fun hc => absurd (show (1 : Int32) = (0 : Int32) from hc) (by decide)) (fun _ => ?_)
      refine hf_aload_n dX11_count_11 rfl rfl ?_
      refine hf_getr (b := 155) (c := 11) (j := 12) dX11_count_12 (hs.2.1 100 _ rfl) (hf_lin hs 100 rfl) (by decide) (by decide) hw377 rfl (hs.2.2 100 12 _ rfl) ?_
      refine hf_iload_n dX11_count_15 rfl rfl ?_
      refine hf_bipush (v := 8) dX11_count_16 (by decide) ?_
      refine hf_isub dX11_count_18 ?_
      refine hf_iald dX11_count_19 (hs.2.1 155 _ rfl) (hf_lin hs 155 rfl) h.1 ?_
      replace h := h.2
      refine hf_ireturn dX11_count_20 rfl rfl ?_
      exact h

set_option maxHeartbeats 4000000 in
theorem w_X11_status_0 {X : hf_X} {d k n t : Nat} {T : hf_T} {I : hf_I} {L : hf_L} {P : hf_P} {Q : Option Value → hf_M → Prop}  (hs : hf_Lay t T P) (h : Q (some (.int (I 100 15))) (t, T, I, L, P)) : hf_G X Y_X11_status d k n 0 (hf_en [.ref 100] 1) [] (t, T, I, L, P) Q := by
  show hf_G X Y_X11_status d k n 0 [some (.ref 100)] [] (t, T, I, L, P) Q
  refine hf_aload_n dX11_status_0 rfl rfl ?_
  refine hf_geti (c := 11) (j := 15) dX11_status_1 (hs.2.1 100 _ rfl) (hf_lin hs 100 rfl) (by decide) (by decide) hw381 (Or.inl rfl) ?_
  refine hf_ireturn dX11_status_4 rfl rfl ?_
  exact h

set_option maxHeartbeats 4000000 in
theorem w_X11_within_0 {X : hf_X} {d k n t : Nat} {T : hf_T} {I : hf_I} {L : hf_L} {P : hf_P} {Q : Option Value → hf_M → Prop} {x0 : Int32} {x1 : Int32} {x2 : Int32} (hs : hf_Lay t T P) (h : (x0 < x1 → Q (some (.int 0)) (t, T, I, L, P)) ∧ (¬ (x0 < x1) → (x2 < x0 → Q (some (.int 0)) (t, T, I, L, P)) ∧ (¬ (x2 < x0) → Q (some (.int 1)) (t, T, I, L, P)))) : hf_G X Y_X11_within d k n 0 (hf_en [.int x0, .int x1, .int x2] 3) [] (t, T, I, L, P) Q := by
  show hf_G X Y_X11_within d k n 0 [some (.int x0), some (.int x1), some (.int x2)] [] (t, T, I, L, P) Q
  refine hf_iload_n dX11_within_0 rfl rfl ?_
  refine hf_iload_n dX11_within_1 rfl rfl ?_
  refine hf_icmp_lt (tgt := 14) dX11_within_2 (by decide) (fun hc => ?_) (fun hc => ?_)
  · replace h := h.1 hc
    refine hf_iconst (v := 0) dX11_within_14 (by decide) ?_
    refine hf_ireturn dX11_within_15 rfl (by decide) ?_
    exact h
  · replace h := h.2 hc
    refine hf_iload_n dX11_within_5 rfl rfl ?_
    refine hf_iload_n dX11_within_6 rfl rfl ?_
    refine hf_icmp_gt (tgt := 14) dX11_within_7 (by decide) (fun hc => ?_) (fun hc => ?_)
    · replace h := h.1 hc
      refine hf_iconst (v := 0) dX11_within_14 (by decide) ?_
      refine hf_ireturn dX11_within_15 rfl (by decide) ?_
      exact h
    · replace h := h.2 hc
      refine hf_iconst (v := 1) dX11_within_10 (by decide) ?_
      refine hf_goto (tgt := 15) dX11_within_11 (by decide) ?_
      refine hf_ireturn dX11_within_15 rfl (by decide) ?_
      exact h

set_option maxHeartbeats 4000000 in
theorem w_X11_granted_0 {X : hf_X} {d k n t : Nat} {T : hf_T} {I : hf_I} {L : hf_L} {P : hf_P} {Q : Option Value → hf_M → Prop} {x1 : Int32} (hs : hf_Lay t T P) (h : Q (some (.int x1)) (t, T, (hf_up (hf_up I 100 15 0) 100 16 ((I 100 16) + 1)), L, P)) : hf_G X Y_X11_granted d k n 0 (hf_en [.ref 100, .int x1] 2) [] (t, T, I, L, P) Q := by
  show hf_G X Y_X11_granted d k n 0 [some (.ref 100), some (.int x1)] [] (t, T, I, L, P) Q
  refine hf_aload_n dX11_granted_0 rfl rfl ?_
  refine hf_iconst (v := 0) dX11_granted_1 (by decide) ?_
  refine hf_puti (c := 11) (j := 15) dX11_granted_2 (hs.2.1 100 _ rfl) (hf_lin hs 100 rfl) (by decide) (by decide) hw381 rfl rfl ?_
  refine hf_aload_n dX11_granted_5 rfl rfl ?_
  refine hf_dup dX11_granted_6 rfl ?_
  refine hf_geti (c := 11) (j := 16) dX11_granted_7 (hs.2.1 100 _ rfl) (hf_lin hs 100 rfl) (by decide) (by decide) hw382 (Or.inl rfl) ?_
  refine hf_iconst (v := 1) dX11_granted_10 (by decide) ?_
  refine hf_iadd dX11_granted_11 ?_
  refine hf_puti (c := 11) (j := 16) dX11_granted_12 (hs.2.1 100 _ rfl) (hf_lin hs 100 rfl) (by decide) (by decide) hw382 rfl rfl ?_
  refine hf_iload_n dX11_granted_15 rfl rfl ?_
  refine hf_ireturn dX11_granted_16 rfl rfl ?_
  exact h

set_option maxHeartbeats 4000000 in
theorem w_X11_refuse_0 {X : hf_X} {d k n t : Nat} {T : hf_T} {I : hf_I} {L : hf_L} {P : hf_P} {Q : Option Value → hf_M → Prop} {x1 : Int32} (hs : hf_Lay t T P) (h : (x1 = (-6) → Q (some (.int x1)) (t, T, (hf_up (hf_up I 100 15 x1) 155 4 ((I 155 4) + 1)), L, P)) ∧ (x1 = (-5) → Q (some (.int x1)) (t, T, (hf_up (hf_up I 100 15 x1) 155 3 ((I 155 3) + 1)), L, P)) ∧ (x1 = (-4) → Q (some (.int x1)) (t, T, (hf_up (hf_up I 100 15 x1) 155 0 ((I 155 0) + 1)), L, P)) ∧ (x1 = (-3) → Q (some (.int x1)) (t, T, (hf_up (hf_up I 100 15 x1) 155 2 ((I 155 2) + 1)), L, P)) ∧ (x1 = (-2) → Q (some (.int x1)) (t, T, (hf_up (hf_up I 100 15 x1) 155 1 ((I 155 1) + 1)), L, P)) ∧ (x1.toInt < (-6) ∨ (-2) < x1.toInt → Q (some (.int x1)) (t, T, (hf_up (hf_up I 100 15 x1) 155 0 ((I 155 0) + 1)), L, P))) : hf_G X Y_X11_refuse (d + 1) k n 0 (hf_en [.ref 100, .int x1] 2) [] (t, T, I, L, P) Q := by
  show hf_G X Y_X11_refuse (d + 1) k n 0 [some (.ref 100), some (.int x1)] [] (t, T, I, L, P) Q
  refine hf_aload_n dX11_refuse_0 rfl rfl ?_
  refine hf_iload_n dX11_refuse_1 rfl rfl ?_
  refine hf_puti (c := 11) (j := 15) dX11_refuse_2 (hs.2.1 100 _ rfl) (hf_lin hs 100 rfl) (by decide) (by decide) hw381 rfl rfl ?_
  refine hf_aload_n dX11_refuse_5 rfl rfl ?_
  refine hf_getr (b := 155) (c := 11) (j := 12) dX11_refuse_6 (hs.2.1 100 _ rfl) (hf_lin hs 100 rfl) (by decide) (by decide) hw377 rfl (hs.2.2 100 12 _ rfl) ?_
  refine hf_iload_n dX11_refuse_9 rfl rfl ?_
  refine hf_callS (as := [.int x1]) ok_X11_refusalPlace dX11_refuse_10 hw411 hw412 rfl (Nat.le_of_ble_eq_true rfl) rfl (Nat.le_of_ble_eq_true rfl) (Nat.zero_le _) (Nat.zero_le _) ?_
  show hf_G X Y_X11_refusalPlace d _ _ 0 [some (.int x1)] [] (t, T, (hf_up I 100 15 x1), L, P) _
  refine hf_iload_n dX11_refusalPlace_0 rfl rfl ?_
  rcases hf_swc x1 (-6) 4 with hq | ⟨j, hj, hq⟩
  · refine hf_tableOut (tgt := 44) dX11_refusalPlace_1 (by omega) (by decide) ?_
    replace h := h.2.2.2.2.2 (by omega)
    refine hf_iconst (v := 0) dX11_refusalPlace_44 (by decide) ?_
    refine hf_ireturn dX11_refusalPlace_45 rfl rfl ?_
    show hf_G X Y_X11_refuse (d + 1) _ _ 13 [some (.ref 100), some (.int x1)] [.int 0, .ref 155] (t, T, (hf_up I 100 15 x1), L, P) _
    refine hf_dup2 dX11_refuse_13 rfl rfl ?_
    refine hf_iald_k (j := 0) (by decide) dX11_refuse_14 (hs.2.1 155 _ rfl) (hf_lin hs 155 rfl) (hf_vin (by decide)) ?_
    refine hf_iconst (v := 1) dX11_refuse_15 (by decide) ?_
    refine hf_iadd dX11_refuse_16 ?_
    refine hf_iast_k (j := 0) (by decide) dX11_refuse_17 (hs.2.1 155 _ rfl) (hf_lin hs 155 rfl) (hf_vin (by decide)) ?_
    refine hf_iload_n dX11_refuse_18 rfl rfl ?_
    refine hf_ireturn dX11_refuse_19 rfl rfl ?_
    exact h
  · match j, hj with
    | 0, _ =>
      have hx : x1 = (-6) := hf_swi hq (by decide)
      refine hf_tableIn (off := 41) (tgt := 42) dX11_refusalPlace_1 (by rw [hx]; decide) (by rw [hx]; decide) (by rw [hx]; rfl) (by decide) ?_
      replace h := h.1 hx
      refine hf_iconst (v := 4) dX11_refusalPlace_42 (by decide) ?_
      refine hf_ireturn dX11_refusalPlace_43 rfl rfl ?_
      show hf_G X Y_X11_refuse (d + 1) _ _ 13 [some (.ref 100), some (.int x1)] [.int 4, .ref 155] (t, T, (hf_up I 100 15 x1), L, P) _
      refine hf_dup2 dX11_refuse_13 rfl rfl ?_
      refine hf_iald_k (j := 4) (by decide) dX11_refuse_14 (hs.2.1 155 _ rfl) (hf_lin hs 155 rfl) (hf_vin (by decide)) ?_
      refine hf_iconst (v := 1) dX11_refuse_15 (by decide) ?_
      refine hf_iadd dX11_refuse_16 ?_
      refine hf_iast_k (j := 4) (by decide) dX11_refuse_17 (hs.2.1 155 _ rfl) (hf_lin hs 155 rfl) (hf_vin (by decide)) ?_
      refine hf_iload_n dX11_refuse_18 rfl rfl ?_
      refine hf_ireturn dX11_refuse_19 rfl rfl ?_
      exact h
    | 1, _ =>
      have hx : x1 = (-5) := hf_swi hq (by decide)
      refine hf_tableIn (off := 39) (tgt := 40) dX11_refusalPlace_1 (by rw [hx]; decide) (by rw [hx]; decide) (by rw [hx]; rfl) (by decide) ?_
      replace h := h.2.1 hx
      refine hf_iconst (v := 3) dX11_refusalPlace_40 (by decide) ?_
      refine hf_ireturn dX11_refusalPlace_41 rfl rfl ?_
      show hf_G X Y_X11_refuse (d + 1) _ _ 13 [some (.ref 100), some (.int x1)] [.int 3, .ref 155] (t, T, (hf_up I 100 15 x1), L, P) _
      refine hf_dup2 dX11_refuse_13 rfl rfl ?_
      refine hf_iald_k (j := 3) (by decide) dX11_refuse_14 (hs.2.1 155 _ rfl) (hf_lin hs 155 rfl) (hf_vin (by decide)) ?_
      refine hf_iconst (v := 1) dX11_refuse_15 (by decide) ?_
      refine hf_iadd dX11_refuse_16 ?_
      refine hf_iast_k (j := 3) (by decide) dX11_refuse_17 (hs.2.1 155 _ rfl) (hf_lin hs 155 rfl) (hf_vin (by decide)) ?_
      refine hf_iload_n dX11_refuse_18 rfl rfl ?_
      refine hf_ireturn dX11_refuse_19 rfl rfl ?_
      exact h
    | 2, _ =>
      have hx : x1 = (-4) := hf_swi hq (by decide)
      refine hf_tableIn (off := 43) (tgt := 44) dX11_refusalPlace_1 (by rw [hx]; decide) (by rw [hx]; decide) (by rw [hx]; rfl) (by decide) ?_
      replace h := h.2.2.1 hx
      refine hf_iconst (v := 0) dX11_refusalPlace_44 (by decide) ?_
      refine hf_ireturn dX11_refusalPlace_45 rfl rfl ?_
      show hf_G X Y_X11_refuse (d + 1) _ _ 13 [some (.ref 100), some (.int x1)] [.int 0, .ref 155] (t, T, (hf_up I 100 15 x1), L, P) _
      refine hf_dup2 dX11_refuse_13 rfl rfl ?_
      refine hf_iald_k (j := 0) (by decide) dX11_refuse_14 (hs.2.1 155 _ rfl) (hf_lin hs 155 rfl) (hf_vin (by decide)) ?_
      refine hf_iconst (v := 1) dX11_refuse_15 (by decide) ?_
      refine hf_iadd dX11_refuse_16 ?_
      refine hf_iast_k (j := 0) (by decide) dX11_refuse_17 (hs.2.1 155 _ rfl) (hf_lin hs 155 rfl) (hf_vin (by decide)) ?_
      refine hf_iload_n dX11_refuse_18 rfl rfl ?_
      refine hf_ireturn dX11_refuse_19 rfl rfl ?_
      exact h
    | 3, _ =>
      have hx : x1 = (-3) := hf_swi hq (by decide)
      refine hf_tableIn (off := 37) (tgt := 38) dX11_refusalPlace_1 (by rw [hx]; decide) (by rw [hx]; decide) (by rw [hx]; rfl) (by decide) ?_
      replace h := h.2.2.2.1 hx
      refine hf_iconst (v := 2) dX11_refusalPlace_38 (by decide) ?_
      refine hf_ireturn dX11_refusalPlace_39 rfl rfl ?_
      show hf_G X Y_X11_refuse (d + 1) _ _ 13 [some (.ref 100), some (.int x1)] [.int 2, .ref 155] (t, T, (hf_up I 100 15 x1), L, P) _
      refine hf_dup2 dX11_refuse_13 rfl rfl ?_
      refine hf_iald_k (j := 2) (by decide) dX11_refuse_14 (hs.2.1 155 _ rfl) (hf_lin hs 155 rfl) (hf_vin (by decide)) ?_
      refine hf_iconst (v := 1) dX11_refuse_15 (by decide) ?_
      refine hf_iadd dX11_refuse_16 ?_
      refine hf_iast_k (j := 2) (by decide) dX11_refuse_17 (hs.2.1 155 _ rfl) (hf_lin hs 155 rfl) (hf_vin (by decide)) ?_
      refine hf_iload_n dX11_refuse_18 rfl rfl ?_
      refine hf_ireturn dX11_refuse_19 rfl rfl ?_
      exact h
    | 4, _ =>
      have hx : x1 = (-2) := hf_swi hq (by decide)
      refine hf_tableIn (off := 35) (tgt := 36) dX11_refusalPlace_1 (by rw [hx]; decide) (by rw [hx]; decide) (by rw [hx]; rfl) (by decide) ?_
      replace h := h.2.2.2.2.1 hx
      refine hf_iconst (v := 1) dX11_refusalPlace_36 (by decide) ?_
      refine hf_ireturn dX11_refusalPlace_37 rfl rfl ?_
      show hf_G X Y_X11_refuse (d + 1) _ _ 13 [some (.ref 100), some (.int x1)] [.int 1, .ref 155] (t, T, (hf_up I 100 15 x1), L, P) _
      refine hf_dup2 dX11_refuse_13 rfl rfl ?_
      refine hf_iald_k (j := 1) (by decide) dX11_refuse_14 (hs.2.1 155 _ rfl) (hf_lin hs 155 rfl) (hf_vin (by decide)) ?_
      refine hf_iconst (v := 1) dX11_refuse_15 (by decide) ?_
      refine hf_iadd dX11_refuse_16 ?_
      refine hf_iast_k (j := 1) (by decide) dX11_refuse_17 (hs.2.1 155 _ rfl) (hf_lin hs 155 rfl) (hf_vin (by decide)) ?_
      refine hf_iload_n dX11_refuse_18 rfl rfl ?_
      refine hf_ireturn dX11_refuse_19 rfl rfl ?_
      exact h
    | j + 5, hj => exact absurd hj (by omega)

set_option maxHeartbeats 4000000 in
theorem w_X11_refusalPlace_0 {X : hf_X} {d k n t : Nat} {T : hf_T} {I : hf_I} {L : hf_L} {P : hf_P} {Q : Option Value → hf_M → Prop} {x0 : Int32} (hs : hf_Lay t T P) (h : (x0 = (-6) → Q (some (.int 4)) (t, T, I, L, P)) ∧ (x0 = (-5) → Q (some (.int 3)) (t, T, I, L, P)) ∧ (x0 = (-4) → Q (some (.int 0)) (t, T, I, L, P)) ∧ (x0 = (-3) → Q (some (.int 2)) (t, T, I, L, P)) ∧ (x0 = (-2) → Q (some (.int 1)) (t, T, I, L, P)) ∧ (x0.toInt < (-6) ∨ (-2) < x0.toInt → Q (some (.int 0)) (t, T, I, L, P))) : hf_G X Y_X11_refusalPlace d k n 0 (hf_en [.int x0] 1) [] (t, T, I, L, P) Q := by
  show hf_G X Y_X11_refusalPlace d k n 0 [some (.int x0)] [] (t, T, I, L, P) Q
  refine hf_iload_n dX11_refusalPlace_0 rfl rfl ?_
  rcases hf_swc x0 (-6) 4 with hq | ⟨j, hj, hq⟩
  · refine hf_tableOut (tgt := 44) dX11_refusalPlace_1 (by omega) (by decide) ?_
    replace h := h.2.2.2.2.2 (by omega)
    refine hf_iconst (v := 0) dX11_refusalPlace_44 (by decide) ?_
    refine hf_ireturn dX11_refusalPlace_45 rfl rfl ?_
    exact h
  · match j, hj with
    | 0, _ =>
      have hx : x0 = (-6) := hf_swi hq (by decide)
      refine hf_tableIn (off := 41) (tgt := 42) dX11_refusalPlace_1 (by rw [hx]; decide) (by rw [hx]; decide) (by rw [hx]; rfl) (by decide) ?_
      replace h := h.1 hx
      refine hf_iconst (v := 4) dX11_refusalPlace_42 (by decide) ?_
      refine hf_ireturn dX11_refusalPlace_43 rfl rfl ?_
      exact h
    | 1, _ =>
      have hx : x0 = (-5) := hf_swi hq (by decide)
      refine hf_tableIn (off := 39) (tgt := 40) dX11_refusalPlace_1 (by rw [hx]; decide) (by rw [hx]; decide) (by rw [hx]; rfl) (by decide) ?_
      replace h := h.2.1 hx
      refine hf_iconst (v := 3) dX11_refusalPlace_40 (by decide) ?_
      refine hf_ireturn dX11_refusalPlace_41 rfl rfl ?_
      exact h
    | 2, _ =>
      have hx : x0 = (-4) := hf_swi hq (by decide)
      refine hf_tableIn (off := 43) (tgt := 44) dX11_refusalPlace_1 (by rw [hx]; decide) (by rw [hx]; decide) (by rw [hx]; rfl) (by decide) ?_
      replace h := h.2.2.1 hx
      refine hf_iconst (v := 0) dX11_refusalPlace_44 (by decide) ?_
      refine hf_ireturn dX11_refusalPlace_45 rfl rfl ?_
      exact h
    | 3, _ =>
      have hx : x0 = (-3) := hf_swi hq (by decide)
      refine hf_tableIn (off := 37) (tgt := 38) dX11_refusalPlace_1 (by rw [hx]; decide) (by rw [hx]; decide) (by rw [hx]; rfl) (by decide) ?_
      replace h := h.2.2.2.1 hx
      refine hf_iconst (v := 2) dX11_refusalPlace_38 (by decide) ?_
      refine hf_ireturn dX11_refusalPlace_39 rfl rfl ?_
      exact h
    | 4, _ =>
      have hx : x0 = (-2) := hf_swi hq (by decide)
      refine hf_tableIn (off := 35) (tgt := 36) dX11_refusalPlace_1 (by rw [hx]; decide) (by rw [hx]; decide) (by rw [hx]; rfl) (by decide) ?_
      replace h := h.2.2.2.2.1 hx
      refine hf_iconst (v := 1) dX11_refusalPlace_36 (by decide) ?_
      refine hf_ireturn dX11_refusalPlace_37 rfl rfl ?_
      exact h
    | j + 5, hj => exact absurd hj (by omega)

set_option maxHeartbeats 4000000 in
theorem w_X11_answered_0 {X : hf_X} {d k n t : Nat} {T : hf_T} {I : hf_I} {L : hf_L} {P : hf_P} {Q : Option Value → hf_M → Prop} {x1 : Int32} (hs : hf_Lay t T P) (h : (0 ≤ x1 → Q (some (.int x1)) (t, T, (hf_up (hf_up I 100 15 0) 100 16 ((I 100 16) + 1)), L, P)) ∧ (¬ (0 ≤ x1) → (x1 = (-6) → Q (some (.int x1)) (t, T, (hf_up (hf_up I 100 15 x1) 155 4 ((I 155 4) + 1)), L, P)) ∧ (x1 = (-5) → Q (some (.int x1)) (t, T, (hf_up (hf_up I 100 15 x1) 155 3 ((I 155 3) + 1)), L, P)) ∧ (x1 = (-4) → Q (some (.int x1)) (t, T, (hf_up (hf_up I 100 15 x1) 155 0 ((I 155 0) + 1)), L, P)) ∧ (x1 = (-3) → Q (some (.int x1)) (t, T, (hf_up (hf_up I 100 15 x1) 155 2 ((I 155 2) + 1)), L, P)) ∧ (x1 = (-2) → Q (some (.int x1)) (t, T, (hf_up (hf_up I 100 15 x1) 155 1 ((I 155 1) + 1)), L, P)) ∧ (x1.toInt < (-6) ∨ (-2) < x1.toInt → Q (some (.int x1)) (t, T, (hf_up (hf_up I 100 15 x1) 155 0 ((I 155 0) + 1)), L, P)))) : hf_G X Y_X11_answered (d + 2) k n 0 (hf_en [.ref 100, .int x1] 2) [] (t, T, I, L, P) Q := by
  show hf_G X Y_X11_answered (d + 2) k n 0 [some (.ref 100), some (.int x1)] [] (t, T, I, L, P) Q
  refine hf_iload_n dX11_answered_0 rfl rfl ?_
  refine hf_if_ge (tgt := 12) dX11_answered_1 (by decide) (fun hc => ?_) (fun hc => ?_)
  · replace h := h.1 hc
    refine hf_aload_n dX11_answered_12 rfl rfl ?_
    refine hf_iload_n dX11_answered_13 rfl rfl ?_
    refine hf_callV (c := 11) (as := [.int x1]) ok_X11_granted dX11_answered_14 hw418 hw419 hw1554 (hs.2.1 100 _ rfl) (by decide) (hf_lin hs 100 rfl) rfl (Nat.le_of_ble_eq_true rfl) rfl (Nat.le_of_ble_eq_true rfl) (Nat.zero_le _) (Nat.zero_le _) ?_
    show hf_G X Y_X11_granted (d + 1) _ _ 0 [some (.ref 100), some (.int x1)] [] (t, T, I, L, P) _
    refine hf_aload_n dX11_granted_0 rfl rfl ?_
    refine hf_iconst (v := 0) dX11_granted_1 (by decide) ?_
    refine hf_puti (c := 11) (j := 15) dX11_granted_2 (hs.2.1 100 _ rfl) (hf_lin hs 100 rfl) (by decide) (by decide) hw381 rfl rfl ?_
    refine hf_aload_n dX11_granted_5 rfl rfl ?_
    refine hf_dup dX11_granted_6 rfl ?_
    refine hf_geti (c := 11) (j := 16) dX11_granted_7 (hs.2.1 100 _ rfl) (hf_lin hs 100 rfl) (by decide) (by decide) hw382 (Or.inl rfl) ?_
    refine hf_iconst (v := 1) dX11_granted_10 (by decide) ?_
    refine hf_iadd dX11_granted_11 ?_
    refine hf_puti (c := 11) (j := 16) dX11_granted_12 (hs.2.1 100 _ rfl) (hf_lin hs 100 rfl) (by decide) (by decide) hw382 rfl rfl ?_
    refine hf_iload_n dX11_granted_15 rfl rfl ?_
    refine hf_ireturn dX11_granted_16 rfl rfl ?_
    show hf_G X Y_X11_answered (d + 2) _ _ 17 [some (.ref 100), some (.int x1)] [.int x1] (t, T, (hf_up (hf_up I 100 15 0) 100 16 ((I 100 16) + 1)), L, P) _
    refine hf_ireturn dX11_answered_17 rfl rfl ?_
    exact h
  · replace h := h.2 hc
    refine hf_aload_n dX11_answered_4 rfl rfl ?_
    refine hf_iload_n dX11_answered_5 rfl rfl ?_
    refine hf_callV (c := 11) (as := [.int x1]) ok_X11_refuse dX11_answered_6 hw408 hw409 hw1553 (hs.2.1 100 _ rfl) (by decide) (hf_lin hs 100 rfl) rfl (Nat.le_of_ble_eq_true rfl) rfl (Nat.le_of_ble_eq_true rfl) (Nat.zero_le _) (Nat.zero_le _) ?_
    show hf_G X Y_X11_refuse (d + 1) _ _ 0 [some (.ref 100), some (.int x1)] [] (t, T, I, L, P) _
    refine hf_aload_n dX11_refuse_0 rfl rfl ?_
    refine hf_iload_n dX11_refuse_1 rfl rfl ?_
    refine hf_puti (c := 11) (j := 15) dX11_refuse_2 (hs.2.1 100 _ rfl) (hf_lin hs 100 rfl) (by decide) (by decide) hw381 rfl rfl ?_
    refine hf_aload_n dX11_refuse_5 rfl rfl ?_
    refine hf_getr (b := 155) (c := 11) (j := 12) dX11_refuse_6 (hs.2.1 100 _ rfl) (hf_lin hs 100 rfl) (by decide) (by decide) hw377 rfl (hs.2.2 100 12 _ rfl) ?_
    refine hf_iload_n dX11_refuse_9 rfl rfl ?_
    refine hf_callS (as := [.int x1]) ok_X11_refusalPlace dX11_refuse_10 hw411 hw412 rfl (Nat.le_of_ble_eq_true rfl) rfl (Nat.le_of_ble_eq_true rfl) (Nat.zero_le _) (Nat.zero_le _) ?_
    show hf_G X Y_X11_refusalPlace d _ _ 0 [some (.int x1)] [] (t, T, (hf_up I 100 15 x1), L, P) _
    refine hf_iload_n dX11_refusalPlace_0 rfl rfl ?_
    rcases hf_swc x1 (-6) 4 with hq | ⟨j, hj, hq⟩
    · refine hf_tableOut (tgt := 44) dX11_refusalPlace_1 (by omega) (by decide) ?_
      replace h := h.2.2.2.2.2 (by omega)
      refine hf_iconst (v := 0) dX11_refusalPlace_44 (by decide) ?_
      refine hf_ireturn dX11_refusalPlace_45 rfl rfl ?_
      show hf_G X Y_X11_refuse (d + 1) _ _ 13 [some (.ref 100), some (.int x1)] [.int 0, .ref 155] (t, T, (hf_up I 100 15 x1), L, P) _
      refine hf_dup2 dX11_refuse_13 rfl rfl ?_
      refine hf_iald_k (j := 0) (by decide) dX11_refuse_14 (hs.2.1 155 _ rfl) (hf_lin hs 155 rfl) (hf_vin (by decide)) ?_
      refine hf_iconst (v := 1) dX11_refuse_15 (by decide) ?_
      refine hf_iadd dX11_refuse_16 ?_
      refine hf_iast_k (j := 0) (by decide) dX11_refuse_17 (hs.2.1 155 _ rfl) (hf_lin hs 155 rfl) (hf_vin (by decide)) ?_
      refine hf_iload_n dX11_refuse_18 rfl rfl ?_
      refine hf_ireturn dX11_refuse_19 rfl rfl ?_
      show hf_G X Y_X11_answered (d + 2) _ _ 9 [some (.ref 100), some (.int x1)] [.int x1] (t, T, (hf_up (hf_up I 100 15 x1) 155 0 ((I 155 0) + 1)), L, P) _
      refine hf_goto (tgt := 17) dX11_answered_9 (by decide) ?_
      refine hf_ireturn dX11_answered_17 rfl rfl ?_
      exact h
    · match j, hj with
      | 0, _ =>
        have hx : x1 = (-6) := hf_swi hq (by decide)
        refine hf_tableIn (off := 41) (tgt := 42) dX11_refusalPlace_1 (by rw [hx]; decide) (by rw [hx]; decide) (by rw [hx]; rfl) (by decide) ?_
        replace h := h.1 hx
        refine hf_iconst (v := 4) dX11_refusalPlace_42 (by decide) ?_
        refine hf_ireturn dX11_refusalPlace_43 rfl rfl ?_
        show hf_G X Y_X11_refuse (d + 1) _ _ 13 [some (.ref 100), some (.int x1)] [.int 4, .ref 155] (t, T, (hf_up I 100 15 x1), L, P) _
        refine hf_dup2 dX11_refuse_13 rfl rfl ?_
        refine hf_iald_k (j := 4) (by decide) dX11_refuse_14 (hs.2.1 155 _ rfl) (hf_lin hs 155 rfl) (hf_vin (by decide)) ?_
        refine hf_iconst (v := 1) dX11_refuse_15 (by decide) ?_
        refine hf_iadd dX11_refuse_16 ?_
        refine hf_iast_k (j := 4) (by decide) dX11_refuse_17 (hs.2.1 155 _ rfl) (hf_lin hs 155 rfl) (hf_vin (by decide)) ?_
        refine hf_iload_n dX11_refuse_18 rfl rfl ?_
        refine hf_ireturn dX11_refuse_19 rfl rfl ?_
        show hf_G X Y_X11_answered (d + 2) _ _ 9 [some (.ref 100), some (.int x1)] [.int x1] (t, T, (hf_up (hf_up I 100 15 x1) 155 4 ((I 155 4) + 1)), L, P) _
        refine hf_goto (tgt := 17) dX11_answered_9 (by decide) ?_
        refine hf_ireturn dX11_answered_17 rfl rfl ?_
        exact h
      | 1, _ =>
        have hx : x1 = (-5) := hf_swi hq (by decide)
        refine hf_tableIn (off := 39) (tgt := 40) dX11_refusalPlace_1 (by rw [hx]; decide) (by rw [hx]; decide) (by rw [hx]; rfl) (by decide) ?_
        replace h := h.2.1 hx
        refine hf_iconst (v := 3) dX11_refusalPlace_40 (by decide) ?_
        refine hf_ireturn dX11_refusalPlace_41 rfl rfl ?_
        show hf_G X Y_X11_refuse (d + 1) _ _ 13 [some (.ref 100), some (.int x1)] [.int 3, .ref 155] (t, T, (hf_up I 100 15 x1), L, P) _
        refine hf_dup2 dX11_refuse_13 rfl rfl ?_
        refine hf_iald_k (j := 3) (by decide) dX11_refuse_14 (hs.2.1 155 _ rfl) (hf_lin hs 155 rfl) (hf_vin (by decide)) ?_
        refine hf_iconst (v := 1) dX11_refuse_15 (by decide) ?_
        refine hf_iadd dX11_refuse_16 ?_
        refine hf_iast_k (j := 3) (by decide) dX11_refuse_17 (hs.2.1 155 _ rfl) (hf_lin hs 155 rfl) (hf_vin (by decide)) ?_
        refine hf_iload_n dX11_refuse_18 rfl rfl ?_
        refine hf_ireturn dX11_refuse_19 rfl rfl ?_
        show hf_G X Y_X11_answered (d + 2) _ _ 9 [some (.ref 100), some (.int x1)] [.int x1] (t, T, (hf_up (hf_up I 100 15 x1) 155 3 ((I 155 3) + 1)), L, P) _
        refine hf_goto (tgt := 17) dX11_answered_9 (by decide) ?_
        refine hf_ireturn dX11_answered_17 rfl rfl ?_
        exact h
      | 2, _ =>
        have hx : x1 = (-4) := hf_swi hq (by decide)
        refine hf_tableIn (off := 43) (tgt := 44) dX11_refusalPlace_1 (by rw [hx]; decide) (by rw [hx]; decide) (by rw [hx]; rfl) (by decide) ?_
        replace h := h.2.2.1 hx
        refine hf_iconst (v := 0) dX11_refusalPlace_44 (by decide) ?_
        refine hf_ireturn dX11_refusalPlace_45 rfl rfl ?_
        show hf_G X Y_X11_refuse (d + 1) _ _ 13 [some (.ref 100), some (.int x1)] [.int 0, .ref 155] (t, T, (hf_up I 100 15 x1), L, P) _
        refine hf_dup2 dX11_refuse_13 rfl rfl ?_
        refine hf_iald_k (j := 0) (by decide) dX11_refuse_14 (hs.2.1 155 _ rfl) (hf_lin hs 155 rfl) (hf_vin (by decide)) ?_
        refine hf_iconst (v := 1) dX11_refuse_15 (by decide) ?_
        refine hf_iadd dX11_refuse_16 ?_
        refine hf_iast_k (j := 0) (by decide) dX11_refuse_17 (hs.2.1 155 _ rfl) (hf_lin hs 155 rfl) (hf_vin (by decide)) ?_
        refine hf_iload_n dX11_refuse_18 rfl rfl ?_
        refine hf_ireturn dX11_refuse_19 rfl rfl ?_
        show hf_G X Y_X11_answered (d + 2) _ _ 9 [some (.ref 100), some (.int x1)] [.int x1] (t, T, (hf_up (hf_up I 100 15 x1) 155 0 ((I 155 0) + 1)), L, P) _
        refine hf_goto (tgt := 17) dX11_answered_9 (by decide) ?_
        refine hf_ireturn dX11_answered_17 rfl rfl ?_
        exact h
      | 3, _ =>
        have hx : x1 = (-3) := hf_swi hq (by decide)
        refine hf_tableIn (off := 37) (tgt := 38) dX11_refusalPlace_1 (by rw [hx]; decide) (by rw [hx]; decide) (by rw [hx]; rfl) (by decide) ?_
        replace h := h.2.2.2.1 hx
        refine hf_iconst (v := 2) dX11_refusalPlace_38 (by decide) ?_
        refine hf_ireturn dX11_refusalPlace_39 rfl rfl ?_
        show hf_G X Y_X11_refuse (d + 1) _ _ 13 [some (.ref 100), some (.int x1)] [.int 2, .ref 155] (t, T, (hf_up I 100 15 x1), L, P) _
        refine hf_dup2 dX11_refuse_13 rfl rfl ?_
        refine hf_iald_k (j := 2) (by decide) dX11_refuse_14 (hs.2.1 155 _ rfl) (hf_lin hs 155 rfl) (hf_vin (by decide)) ?_
        refine hf_iconst (v := 1) dX11_refuse_15 (by decide) ?_
        refine hf_iadd dX11_refuse_16 ?_
        refine hf_iast_k (j := 2) (by decide) dX11_refuse_17 (hs.2.1 155 _ rfl) (hf_lin hs 155 rfl) (hf_vin (by decide)) ?_
        refine hf_iload_n dX11_refuse_18 rfl rfl ?_
        refine hf_ireturn dX11_refuse_19 rfl rfl ?_
        show hf_G X Y_X11_answered (d + 2) _ _ 9 [some (.ref 100), some (.int x1)] [.int x1] (t, T, (hf_up (hf_up I 100 15 x1) 155 2 ((I 155 2) + 1)), L, P) _
        refine hf_goto (tgt := 17) dX11_answered_9 (by decide) ?_
        refine hf_ireturn dX11_answered_17 rfl rfl ?_
        exact h
      | 4, _ =>
        have hx : x1 = (-2) := hf_swi hq (by decide)
        refine hf_tableIn (off := 35) (tgt := 36) dX11_refusalPlace_1 (by rw [hx]; decide) (by rw [hx]; decide) (by rw [hx]; rfl) (by decide) ?_
        replace h := h.2.2.2.2.1 hx
        refine hf_iconst (v := 1) dX11_refusalPlace_36 (by decide) ?_
        refine hf_ireturn dX11_refusalPlace_37 rfl rfl ?_
        show hf_G X Y_X11_refuse (d + 1) _ _ 13 [some (.ref 100), some (.int x1)] [.int 1, .ref 155] (t, T, (hf_up I 100 15 x1), L, P) _
        refine hf_dup2 dX11_refuse_13 rfl rfl ?_
        refine hf_iald_k (j := 1) (by decide) dX11_refuse_14 (hs.2.1 155 _ rfl) (hf_lin hs 155 rfl) (hf_vin (by decide)) ?_
        refine hf_iconst (v := 1) dX11_refuse_15 (by decide) ?_
        refine hf_iadd dX11_refuse_16 ?_
        refine hf_iast_k (j := 1) (by decide) dX11_refuse_17 (hs.2.1 155 _ rfl) (hf_lin hs 155 rfl) (hf_vin (by decide)) ?_
        refine hf_iload_n dX11_refuse_18 rfl rfl ?_
        refine hf_ireturn dX11_refuse_19 rfl rfl ?_
        show hf_G X Y_X11_answered (d + 2) _ _ 9 [some (.ref 100), some (.int x1)] [.int x1] (t, T, (hf_up (hf_up I 100 15 x1) 155 1 ((I 155 1) + 1)), L, P) _
        refine hf_goto (tgt := 17) dX11_answered_9 (by decide) ?_
        refine hf_ireturn dX11_answered_17 rfl rfl ?_
        exact h
      | j + 5, hj => exact absurd hj (by omega)

set_option maxHeartbeats 4000000 in
theorem w_X11_addBytes_0 {X : hf_X} {d k n t : Nat} {T : hf_T} {I : hf_I} {L : hf_L} {P : hf_P} {Q : Option Value → hf_M → Prop} {x1 : Int32} (hs : hf_Lay t T P) (h : hf_G X Y_X11_addBytes d k n 3 [some (.ref 100), some (.int x1), some (.int 24)] [] (t, T, I, L, P) Q) : hf_G X Y_X11_addBytes d k n 0 (hf_en [.ref 100, .int x1] 3) [] (t, T, I, L, P) Q := by
  show hf_G X Y_X11_addBytes d k n 0 [some (.ref 100), some (.int x1), none] [] (t, T, I, L, P) Q
  refine hf_bipush (v := 24) dX11_addBytes_0 (by decide) ?_
  refine hf_istore_n (l2 := [some (.ref 100), some (.int x1), some (.int 24)]) dX11_addBytes_2 rfl (by decide) rfl ?_
  exact h

set_option maxHeartbeats 4000000 in
theorem w_X11_addBytes_3 {X : hf_X} {d k n t : Nat} {T : hf_T} {I : hf_I} {L : hf_L} {P : hf_P} {Q : Option Value → hf_M → Prop} {x1 : Int32} {x2 : Int32} (hs : hf_Lay t T P) (h : (x2 < 0 → Q none (t, T, I, L, P)) ∧ (¬ (x2 < 0) → vp_in (I 100 13) 400 ∧ (hf_G X Y_X11_addBytes d k n 3 [some (.ref 100), some (.int x1), some (.int (x2 + (-8)))] [] (t, T, (hf_up (hf_up I 122 (((I 100 13)).toNatClampNeg) (vp_nar .byte ((x1.toUInt32 >>> (x2.toUInt32 &&& Int32.toUInt32 31)).toInt32.toInt8.toInt32))) 100 13 ((I 100 13) + 1)), L, P) Q))) : hf_G X Y_X11_addBytes d k n 3 [some (.ref 100), some (.int x1), some (.int x2)] [] (t, T, I, L, P) Q := by
  refine hf_iload_n dX11_addBytes_3 rfl rfl ?_
  refine hf_if_lt (tgt := 36) dX11_addBytes_4 (by decide) (fun hc => ?_) (fun hc => ?_)
  · replace h := h.1 hc
    refine hf_return dX11_addBytes_36 rfl ?_
    exact h
  · replace h := h.2 hc
    refine hf_aload_n dX11_addBytes_7 rfl rfl ?_
    refine hf_getr (b := 122) (c := 11) (j := 2) dX11_addBytes_8 (hs.2.1 100 _ rfl) (hf_lin hs 100 rfl) (by decide) (by decide) hw367 rfl (hs.2.2 100 2 _ rfl) ?_
    refine hf_aload_n dX11_addBytes_11 rfl rfl ?_
    refine hf_geti (c := 11) (j := 13) dX11_addBytes_12 (hs.2.1 100 _ rfl) (hf_lin hs 100 rfl) (by decide) (by decide) hw378 (Or.inl rfl) ?_
    refine hf_iload_n dX11_addBytes_15 rfl rfl ?_
    refine hf_iload_n dX11_addBytes_16 rfl rfl ?_
    refine hf_iushr dX11_addBytes_17 rfl ?_
    refine hf_i2b dX11_addBytes_18 ?_
    refine hf_bast dX11_addBytes_19 (hs.2.1 122 _ rfl) (hf_lin hs 122 rfl) h.1 ?_
    replace h := h.2
    refine hf_aload_n dX11_addBytes_20 rfl rfl ?_
    refine hf_dup dX11_addBytes_21 rfl ?_
    refine hf_geti (c := 11) (j := 13) dX11_addBytes_22 (hs.2.1 100 _ rfl) (hf_lin hs 100 rfl) (by decide) (by decide) hw378 (Or.inl rfl) ?_
    refine hf_iconst (v := 1) dX11_addBytes_25 (by decide) ?_
    refine hf_iadd dX11_addBytes_26 ?_
    refine hf_puti (c := 11) (j := 13) dX11_addBytes_27 (hs.2.1 100 _ rfl) (hf_lin hs 100 rfl) (by decide) (by decide) hw378 rfl rfl ?_
    refine hf_iinc (v := (x2 + (-8))) (l2 := [some (.ref 100), some (.int x1), some (.int (x2 + (-8)))]) dX11_addBytes_30 (by decide) rfl rfl rfl ?_
    refine hf_goto (tgt := 3) dX11_addBytes_33 (by decide) ?_
    exact h

set_option maxHeartbeats 4000000 in
theorem w_X11_changeSize_0 {X : hf_X} {d k n t : Nat} {T : hf_T} {I : hf_I} {L : hf_L} {P : hf_P} {Q : Option Value → hf_M → Prop} {x1 : Int32} (hs : hf_Lay t T P) (h : (x1 < 0 → Q (some (.int (-1))) (t, T, I, L, P)) ∧ (¬ (x1 < 0) → (2 < x1 → Q (some (.int (-1))) (t, T, I, L, P)) ∧ (¬ (2 < x1) → ((I 114 2) ≤ 0 → Q (some (.int (I 101 14))) (t, T, (hf_up (hf_up I 101 14 x1) 148 2 0), L, P)) ∧ (¬ ((I 114 2) ≤ 0) → Q (some (.int (-3))) (t, T, I, L, P))))) : hf_G X Y_X11_changeSize (d + 1) k n 0 (hf_en [.ref 100, .int x1] 3) [] (t, T, I, L, P) Q := by
  show hf_G X Y_X11_changeSize (d + 1) k n 0 [some (.ref 100), some (.int x1), none] [] (t, T, I, L, P) Q
  refine hf_iload_n dX11_changeSize_0 rfl rfl ?_
  refine hf_iconst (v := 0) dX11_changeSize_1 (by decide) ?_
  refine hf_iconst (v := 2) dX11_changeSize_2 (by decide) ?_
  refine hf_callS (as := [.int x1, .int 0, .int 2]) ok_X11_within dX11_changeSize_3 hw405 hw406 rfl (Nat.le_of_ble_eq_true rfl) rfl (Nat.le_of_ble_eq_true rfl) (Nat.zero_le _) (Nat.zero_le _) ?_
  show hf_G X Y_X11_within d _ _ 0 [some (.int x1), some (.int 0), some (.int 2)] [] (t, T, I, L, P) _
  refine hf_iload_n dX11_within_0 rfl rfl ?_
  refine hf_iload_n dX11_within_1 rfl rfl ?_
  refine hf_icmp_lt (tgt := 14) dX11_within_2 (by decide) (fun hc => ?_) (fun hc => ?_)
  · replace h := h.1 hc
    refine hf_iconst (v := 0) dX11_within_14 (by decide) ?_
    refine hf_ireturn dX11_within_15 rfl (by decide) ?_
    show hf_G X Y_X11_changeSize (d + 1) _ _ 6 [some (.ref 100), some (.int x1), none] [.int 0] (t, T, I, L, P) _
    refine hf_if_ne (tgt := 11) dX11_changeSize_6 (by decide) (fun hc => absurd (show ¬ (0 : Int32) = (0 : Int32) from hc) (by decide)) (fun _ => ?_)
    refine hf_iconst (v := (-1)) dX11_changeSize_9 (by decide) ?_
    refine hf_ireturn dX11_changeSize_10 rfl rfl ?_
    exact h
  · replace h := h.2 hc
    refine hf_iload_n dX11_within_5 rfl rfl ?_
    refine hf_iload_n dX11_within_6 rfl rfl ?_
    refine hf_icmp_gt (tgt := 14) dX11_within_7 (by decide) (fun hc => ?_) (fun hc => ?_)
    · replace h := h.1 hc
      refine hf_iconst (v := 0) dX11_within_14 (by decide) ?_
      refine hf_ireturn dX11_within_15 rfl (by decide) ?_
      show hf_G X Y_X11_changeSize (d + 1) _ _ 6 [some (.ref 100), some (.int x1), none] [.int 0] (t, T, I, L, P) _
      refine hf_if_ne (tgt := 11) dX11_changeSize_6 (by decide) (fun hc => absurd (show ¬ (0 : Int32) = (0 : Int32) from hc) (by decide)) (fun _ => ?_)
      refine hf_iconst (v := (-1)) dX11_changeSize_9 (by decide) ?_
      refine hf_ireturn dX11_changeSize_10 rfl rfl ?_
      exact h
    · replace h := h.2 hc
      refine hf_iconst (v := 1) dX11_within_10 (by decide) ?_
      refine hf_goto (tgt := 15) dX11_within_11 (by decide) ?_
      refine hf_ireturn dX11_within_15 rfl (by decide) ?_
      show hf_G X Y_X11_changeSize (d + 1) _ _ 6 [some (.ref 100), some (.int x1), none] [.int 1] (t, T, I, L, P) _
      refine hf_if_ne (tgt := 11) dX11_changeSize_6 (by decide) (fun _ => ?_) (fun hc => absurd (show (1 : Int32) = (0 : Int32) from hc) (by decide))
      refine hf_aload_n dX11_changeSize_11 rfl rfl ?_
      refine hf_getr (b := 101) (c := 11) (j := 0) dX11_changeSize_12 (hs.2.1 100 _ rfl) (hf_lin hs 100 rfl) (by decide) (by decide) hw365 rfl (hs.2.2 100 0 _ rfl) ?_
      refine hf_getr (b := 114) (c := 1) (j := 7) dX11_changeSize_15 (hs.2.1 101 _ rfl) (hf_lin hs 101 rfl) (by decide) (by decide) hw123 rfl (hs.2.2 101 7 _ rfl) ?_
      refine hf_geti (c := 3) (j := 2) dX11_changeSize_18 (hs.2.1 114 _ rfl) (hf_lin hs 114 rfl) (by decide) (by decide) hw89 (Or.inl rfl) ?_
      refine hf_if_le (tgt := 27) dX11_changeSize_21 (by decide) (fun hc => ?_) (fun hc => ?_)
      · replace h := h.1 hc
        refine hf_aload_n dX11_changeSize_27 rfl rfl ?_
        refine hf_getr (b := 101) (c := 11) (j := 0) dX11_changeSize_28 (hs.2.1 100 _ rfl) (hf_lin hs 100 rfl) (by decide) (by decide) hw365 rfl (hs.2.2 100 0 _ rfl) ?_
        refine hf_geti (c := 1) (j := 14) dX11_changeSize_31 (hs.2.1 101 _ rfl) (hf_lin hs 101 rfl) (by decide) (by decide) hw146 (Or.inl rfl) ?_
        refine hf_istore_n (l2 := [some (.ref 100), some (.int x1), some (.int (I 101 14))]) dX11_changeSize_34 rfl (by decide) rfl ?_
        refine hf_aload_n dX11_changeSize_35 rfl rfl ?_
        refine hf_getr (b := 101) (c := 11) (j := 0) dX11_changeSize_36 (hs.2.1 100 _ rfl) (hf_lin hs 100 rfl) (by decide) (by decide) hw365 rfl (hs.2.2 100 0 _ rfl) ?_
        refine hf_iload_n dX11_changeSize_39 rfl rfl ?_
        refine hf_puti (c := 1) (j := 14) dX11_changeSize_40 (hs.2.1 101 _ rfl) (hf_lin hs 101 rfl) (by decide) (by decide) hw146 rfl rfl ?_
        refine hf_aload_n dX11_changeSize_43 rfl rfl ?_
        refine hf_getr (b := 148) (c := 11) (j := 9) dX11_changeSize_44 (hs.2.1 100 _ rfl) (hf_lin hs 100 rfl) (by decide) (by decide) hw374 rfl (hs.2.2 100 9 _ rfl) ?_
        refine hf_callV (c := 6) (as := []) ok_X6_empty dX11_changeSize_47 hw414 hw415 hw416 (hs.2.1 148 _ rfl) (by decide) (hf_lin hs 148 rfl) rfl (Nat.le_of_ble_eq_true rfl) rfl (Nat.le_of_ble_eq_true rfl) (Nat.zero_le _) (Nat.zero_le _) ?_
        show hf_G X Y_X6_empty d _ _ 0 [some (.ref 148)] [] (t, T, (hf_up I 101 14 x1), L, P) _
        refine hf_aload_n dX6_empty_0 rfl rfl ?_
        refine hf_iconst (v := 0) dX6_empty_1 (by decide) ?_
        refine hf_puti (c := 6) (j := 2) dX6_empty_2 (hs.2.1 148 _ rfl) (hf_lin hs 148 rfl) (by decide) (by decide) hw359 rfl rfl ?_
        refine hf_return dX6_empty_5 rfl ?_
        show hf_G X Y_X11_changeSize (d + 1) _ _ 50 [some (.ref 100), some (.int x1), some (.int (I 101 14))] [] (t, T, (hf_up (hf_up I 101 14 x1) 148 2 0), L, P) _
        refine hf_iload_n dX11_changeSize_50 rfl rfl ?_
        refine hf_ireturn dX11_changeSize_51 rfl rfl ?_
        exact h
      · replace h := h.2 hc
        refine hf_bipush (v := (-3)) dX11_changeSize_24 (by decide) ?_
        refine hf_ireturn dX11_changeSize_26 rfl rfl ?_
        exact h
