/-! rules of law, image, back -/
set_option maxHeartbeats 4000000 in
theorem w_X11_back_0_r {X : hf_X} {d k n t : Nat} {T : hf_T} {I : hf_I} {L : hf_L} {P : hf_P} {Q : Option Value → hf_M → Prop} {x1 : Int32} (hs : hf_Lay t T P) (h : (x1 < 0 → Q (some (.int (-1))) (t, T, (hf_up (hf_up I 100 15 (-1)) 155 0 ((I 155 0) + 1)), L, P)) ∧ (¬ (x1 < 0) → (1 < x1 → Q (some (.int (-1))) (t, T, (hf_up (hf_up I 100 15 (-1)) 155 0 ((I 155 0) + 1)), L, P)) ∧ (¬ (1 < x1) → hf_G X Y_X11_back (d + 2) k n 15 [some (.ref 100), some (.int x1)] [] (t, T, I, L, P) Q))) : hf_G X Y_X11_back (d + 2) k n 0 (hf_en [.ref 100, .int x1] 2) [] (t, T, I, L, P) Q := by
  show hf_G X Y_X11_back (d + 2) k n 0 [some (.ref 100), some (.int x1)] [] (t, T, I, L, P) Q
  refine hf_iload_n dX11_back_0 rfl rfl ?_
  refine hf_iconst (v := 0) dX11_back_1 (by decide) ?_
  refine hf_iconst (v := 1) dX11_back_2 (by decide) ?_
  refine hf_callS (as := [.int x1, .int 0, .int 1]) ok_X11_within dX11_back_3 hw405 hw406 rfl (Nat.le_of_ble_eq_true rfl) rfl (Nat.le_of_ble_eq_true rfl) (Nat.zero_le _) (Nat.zero_le _) ?_
  show hf_G X Y_X11_within (d + 1) _ _ 0 [some (.int x1), some (.int 0), some (.int 1)] [] (t, T, I, L, P) _
  refine hf_iload_n dX11_within_0 rfl rfl ?_
  refine hf_iload_n dX11_within_1 rfl rfl ?_
  refine hf_icmp_lt (tgt := 14) dX11_within_2 (by decide) (fun hc => ?_) (fun hc => ?_)
  · replace h := h.1 hc
    refine hf_iconst (v := 0) dX11_within_14 (by decide) ?_
    refine hf_ireturn dX11_within_15 rfl (by decide) ?_
    show hf_G X Y_X11_back (d + 2) _ _ 6 [some (.ref 100), some (.int x1)] [.int 0] (t, T, I, L, P) _
    refine hf_if_ne (tgt := 15) dX11_back_6 (by decide) (fun hc => absurd (show ¬ (0 : Int32) = (0 : Int32) from hc) (by decide)) (fun _ => ?_)
    refine hf_aload_n dX11_back_9 rfl rfl ?_
    refine hf_iconst (v := (-1)) dX11_back_10 (by decide) ?_
    refine hf_callV (c := 11) (as := [.int (-1)]) ok_X11_refuse dX11_back_11 hw408 hw409 hw1553 (hs.2.1 100 _ rfl) (by decide) (hf_lin hs 100 rfl) rfl (Nat.le_of_ble_eq_true rfl) rfl (Nat.le_of_ble_eq_true rfl) (Nat.zero_le _) (Nat.zero_le _) ?_
    show hf_G X Y_X11_refuse (d + 1) _ _ 0 [some (.ref 100), some (.int (-1))] [] (t, T, I, L, P) _
    refine hf_aload_n dX11_refuse_0 rfl rfl ?_
    refine hf_iload_n dX11_refuse_1 rfl rfl ?_
    refine hf_puti (c := 11) (j := 15) dX11_refuse_2 (hs.2.1 100 _ rfl) (hf_lin hs 100 rfl) (by decide) (by decide) hw381 rfl rfl ?_
    refine hf_aload_n dX11_refuse_5 rfl rfl ?_
    refine hf_getr (b := 155) (c := 11) (j := 12) dX11_refuse_6 (hs.2.1 100 _ rfl) (hf_lin hs 100 rfl) (by decide) (by decide) hw377 rfl (hs.2.2 100 12 _ rfl) ?_
    refine hf_iload_n dX11_refuse_9 rfl rfl ?_
    refine hf_callS (as := [.int (-1)]) ok_X11_refusalPlace dX11_refuse_10 hw411 hw412 rfl (Nat.le_of_ble_eq_true rfl) rfl (Nat.le_of_ble_eq_true rfl) (Nat.zero_le _) (Nat.zero_le _) ?_
    show hf_G X Y_X11_refusalPlace d _ _ 0 [some (.int (-1))] [] (t, T, (hf_up I 100 15 (-1)), L, P) _
    refine hf_iload_n dX11_refusalPlace_0 rfl rfl ?_
    refine hf_tableOut (tgt := 44) dX11_refusalPlace_1 (by decide) (by decide) ?_
    refine hf_iconst (v := 0) dX11_refusalPlace_44 (by decide) ?_
    refine hf_ireturn dX11_refusalPlace_45 rfl rfl ?_
    show hf_G X Y_X11_refuse (d + 1) _ _ 13 [some (.ref 100), some (.int (-1))] [.int 0, .ref 155] (t, T, (hf_up I 100 15 (-1)), L, P) _
    refine hf_dup2 dX11_refuse_13 rfl rfl ?_
    refine hf_iald_k (j := 0) (by decide) dX11_refuse_14 (hs.2.1 155 _ rfl) (hf_lin hs 155 rfl) (hf_vin (by decide)) ?_
    refine hf_iconst (v := 1) dX11_refuse_15 (by decide) ?_
    refine hf_iadd dX11_refuse_16 ?_
    refine hf_iast_k (j := 0) (by decide) dX11_refuse_17 (hs.2.1 155 _ rfl) (hf_lin hs 155 rfl) (hf_vin (by decide)) ?_
    refine hf_iload_n dX11_refuse_18 rfl rfl ?_
    refine hf_ireturn dX11_refuse_19 rfl rfl ?_
    show hf_G X Y_X11_back (d + 2) _ _ 14 [some (.ref 100), some (.int x1)] [.int (-1)] (t, T, (hf_up (hf_up I 100 15 (-1)) 155 0 ((I 155 0) + 1)), L, P) _
    refine hf_ireturn dX11_back_14 rfl rfl ?_
    exact h
  · replace h := h.2 hc
    refine hf_iload_n dX11_within_5 rfl rfl ?_
    refine hf_iload_n dX11_within_6 rfl rfl ?_
    refine hf_icmp_gt (tgt := 14) dX11_within_7 (by decide) (fun hc => ?_) (fun hc => ?_)
    · replace h := h.1 hc
      refine hf_iconst (v := 0) dX11_within_14 (by decide) ?_
      refine hf_ireturn dX11_within_15 rfl (by decide) ?_
      show hf_G X Y_X11_back (d + 2) _ _ 6 [some (.ref 100), some (.int x1)] [.int 0] (t, T, I, L, P) _
      refine hf_if_ne (tgt := 15) dX11_back_6 (by decide) (fun hc => absurd (show ¬ (0 : Int32) = (0 : Int32) from hc) (by decide)) (fun _ => ?_)
      refine hf_aload_n dX11_back_9 rfl rfl ?_
      refine hf_iconst (v := (-1)) dX11_back_10 (by decide) ?_
      refine hf_callV (c := 11) (as := [.int (-1)]) ok_X11_refuse dX11_back_11 hw408 hw409 hw1553 (hs.2.1 100 _ rfl) (by decide) (hf_lin hs 100 rfl) rfl (Nat.le_of_ble_eq_true rfl) rfl (Nat.le_of_ble_eq_true rfl) (Nat.zero_le _) (Nat.zero_le _) ?_
      show hf_G X Y_X11_refuse (d + 1) _ _ 0 [some (.ref 100), some (.int (-1))] [] (t, T, I, L, P) _
      refine hf_aload_n dX11_refuse_0 rfl rfl ?_
      refine hf_iload_n dX11_refuse_1 rfl rfl ?_
      refine hf_puti (c := 11) (j := 15) dX11_refuse_2 (hs.2.1 100 _ rfl) (hf_lin hs 100 rfl) (by decide) (by decide) hw381 rfl rfl ?_
      refine hf_aload_n dX11_refuse_5 rfl rfl ?_
      refine hf_getr (b := 155) (c := 11) (j := 12) dX11_refuse_6 (hs.2.1 100 _ rfl) (hf_lin hs 100 rfl) (by decide) (by decide) hw377 rfl (hs.2.2 100 12 _ rfl) ?_
      refine hf_iload_n dX11_refuse_9 rfl rfl ?_
      refine hf_callS (as := [.int (-1)]) ok_X11_refusalPlace dX11_refuse_10 hw411 hw412 rfl (Nat.le_of_ble_eq_true rfl) rfl (Nat.le_of_ble_eq_true rfl) (Nat.zero_le _) (Nat.zero_le _) ?_
      show hf_G X Y_X11_refusalPlace d _ _ 0 [some (.int (-1))] [] (t, T, (hf_up I 100 15 (-1)), L, P) _
      refine hf_iload_n dX11_refusalPlace_0 rfl rfl ?_
      refine hf_tableOut (tgt := 44) dX11_refusalPlace_1 (by decide) (by decide) ?_
      refine hf_iconst (v := 0) dX11_refusalPlace_44 (by decide) ?_
      refine hf_ireturn dX11_refusalPlace_45 rfl rfl ?_
      show hf_G X Y_X11_refuse (d + 1) _ _ 13 [some (.ref 100), some (.int (-1))] [.int 0, .ref 155] (t, T, (hf_up I 100 15 (-1)), L, P) _
      refine hf_dup2 dX11_refuse_13 rfl rfl ?_
      refine hf_iald_k (j := 0) (by decide) dX11_refuse_14 (hs.2.1 155 _ rfl) (hf_lin hs 155 rfl) (hf_vin (by decide)) ?_
      refine hf_iconst (v := 1) dX11_refuse_15 (by decide) ?_
      refine hf_iadd dX11_refuse_16 ?_
      refine hf_iast_k (j := 0) (by decide) dX11_refuse_17 (hs.2.1 155 _ rfl) (hf_lin hs 155 rfl) (hf_vin (by decide)) ?_
      refine hf_iload_n dX11_refuse_18 rfl rfl ?_
      refine hf_ireturn dX11_refuse_19 rfl rfl ?_
      show hf_G X Y_X11_back (d + 2) _ _ 14 [some (.ref 100), some (.int x1)] [.int (-1)] (t, T, (hf_up (hf_up I 100 15 (-1)) 155 0 ((I 155 0) + 1)), L, P) _
      refine hf_ireturn dX11_back_14 rfl rfl ?_
      exact h
    · replace h := h.2 hc
      refine hf_iconst (v := 1) dX11_within_10 (by decide) ?_
      refine hf_goto (tgt := 15) dX11_within_11 (by decide) ?_
      refine hf_ireturn dX11_within_15 rfl (by decide) ?_
      show hf_G X Y_X11_back (d + 2) _ _ 6 [some (.ref 100), some (.int x1)] [.int 1] (t, T, I, L, P) _
      refine hf_if_ne (tgt := 15) dX11_back_6 (by decide) (fun _ => ?_) (fun hc => absurd (show (1 : Int32) = (0 : Int32) from hc) (by decide))
      exact h

set_option maxHeartbeats 4000000 in
theorem w_X11_back_15_z {X : hf_X} {d k n t : Nat} {T : hf_T} {I : hf_I} {L : hf_L} {P : hf_P} {Q : Option Value → hf_M → Prop} {x1 : Int32} (hs : hf_Lay t T P) (hP : P 121 x1.toNatClampNeg = none) (h : vp_in x1 2 ∧ (Q (some (.int (-2))) (t, T, (hf_up (hf_up I 100 15 (-2)) 155 1 ((I 155 1) + 1)), L, P))) : hf_G X Y_X11_back (d + 2) k n 15 [some (.ref 100), some (.int x1)] [] (t, T, I, L, P) Q := by
  refine hf_aload_n dX11_back_15 rfl rfl ?_
  refine hf_getr (b := 121) (c := 11) (j := 1) dX11_back_16 (hs.2.1 100 _ rfl) (hf_lin hs 100 rfl) (by decide) (by decide) hw366 rfl (hs.2.2 100 1 _ rfl) ?_
  refine hf_iload_n dX11_back_19 rfl rfl ?_
  refine hf_aldn dX11_back_20 (hs.2.1 121 _ rfl) (by decide) (hf_lin hs 121 rfl) h.1 hP ?_
  replace h := h.2
  refine hf_ifnonnullN dX11_back_21 ?_
  refine hf_aload_n dX11_back_24 rfl rfl ?_
  refine hf_bipush (v := (-2)) dX11_back_25 (by decide) ?_
  refine hf_callV (c := 11) (as := [.int (-2)]) ok_X11_refuse dX11_back_27 hw408 hw409 hw1553 (hs.2.1 100 _ rfl) (by decide) (hf_lin hs 100 rfl) rfl (Nat.le_of_ble_eq_true rfl) rfl (Nat.le_of_ble_eq_true rfl) (Nat.zero_le _) (Nat.zero_le _) ?_
  show hf_G X Y_X11_refuse (d + 1) _ _ 0 [some (.ref 100), some (.int (-2))] [] (t, T, I, L, P) _
  refine hf_aload_n dX11_refuse_0 rfl rfl ?_
  refine hf_iload_n dX11_refuse_1 rfl rfl ?_
  refine hf_puti (c := 11) (j := 15) dX11_refuse_2 (hs.2.1 100 _ rfl) (hf_lin hs 100 rfl) (by decide) (by decide) hw381 rfl rfl ?_
  refine hf_aload_n dX11_refuse_5 rfl rfl ?_
  refine hf_getr (b := 155) (c := 11) (j := 12) dX11_refuse_6 (hs.2.1 100 _ rfl) (hf_lin hs 100 rfl) (by decide) (by decide) hw377 rfl (hs.2.2 100 12 _ rfl) ?_
  refine hf_iload_n dX11_refuse_9 rfl rfl ?_
  refine hf_callS (as := [.int (-2)]) ok_X11_refusalPlace dX11_refuse_10 hw411 hw412 rfl (Nat.le_of_ble_eq_true rfl) rfl (Nat.le_of_ble_eq_true rfl) (Nat.zero_le _) (Nat.zero_le _) ?_
  show hf_G X Y_X11_refusalPlace d _ _ 0 [some (.int (-2))] [] (t, T, (hf_up I 100 15 (-2)), L, P) _
  refine hf_iload_n dX11_refusalPlace_0 rfl rfl ?_
  refine hf_tableIn (off := 35) (tgt := 36) dX11_refusalPlace_1 (by decide) (by decide) rfl (by decide) ?_
  refine hf_iconst (v := 1) dX11_refusalPlace_36 (by decide) ?_
  refine hf_ireturn dX11_refusalPlace_37 rfl rfl ?_
  show hf_G X Y_X11_refuse (d + 1) _ _ 13 [some (.ref 100), some (.int (-2))] [.int 1, .ref 155] (t, T, (hf_up I 100 15 (-2)), L, P) _
  refine hf_dup2 dX11_refuse_13 rfl rfl ?_
  refine hf_iald_k (j := 1) (by decide) dX11_refuse_14 (hs.2.1 155 _ rfl) (hf_lin hs 155 rfl) (hf_vin (by decide)) ?_
  refine hf_iconst (v := 1) dX11_refuse_15 (by decide) ?_
  refine hf_iadd dX11_refuse_16 ?_
  refine hf_iast_k (j := 1) (by decide) dX11_refuse_17 (hs.2.1 155 _ rfl) (hf_lin hs 155 rfl) (hf_vin (by decide)) ?_
  refine hf_iload_n dX11_refuse_18 rfl rfl ?_
  refine hf_ireturn dX11_refuse_19 rfl rfl ?_
  show hf_G X Y_X11_back (d + 2) _ _ 30 [some (.ref 100), some (.int x1)] [.int (-2)] (t, T, (hf_up (hf_up I 100 15 (-2)) 155 1 ((I 155 1) + 1)), L, P) _
  refine hf_ireturn dX11_back_30 rfl rfl ?_
  exact h

set_option maxHeartbeats 4000000 in
theorem w_X11_back_15_s {X : hf_X} {d k n t : Nat} {T : hf_T} {I : hf_I} {L : hf_L} {P : hf_P} {Q : Option Value → hf_M → Prop} {x1 : Int32} (hs : hf_Lay t T P) {e : Nat} (hP : P 121 x1.toNatClampNeg = some (181 + e)) (hb : bk t T P (181 + e)) (h : vp_in x1 2 ∧ (vp_in x1 2 ∧ (hf_G X Y_X1_takeFrom d 0 0 0 (hf_en [.ref 101, .ref (181 + e)] 3) [] (t, T, I, L, P) (fun r M => hf_G X Y_X11_back (d + 1) k n 44 [some (.ref 100), none] (r.toList ++ []) M Q)))) : hf_G X Y_X11_back (d + 1) k n 15 [some (.ref 100), some (.int x1)] [] (t, T, I, L, P) Q := by
  refine hf_aload_n dX11_back_15 rfl rfl ?_
  refine hf_getr (b := 121) (c := 11) (j := 1) dX11_back_16 (hs.2.1 100 _ rfl) (hf_lin hs 100 rfl) (by decide) (by decide) hw366 rfl (hs.2.2 100 1 _ rfl) ?_
  refine hf_iload_n dX11_back_19 rfl rfl ?_
  refine hf_aldq (b := (181 + e)) dX11_back_20 (hs.2.1 121 _ rfl) (by decide) (hf_lin hs 121 rfl) h.1 hP ?_
  replace h := h.2
  refine hf_ifnonnull (tgt := 31) dX11_back_21 (by decide) ?_
  refine hf_aload_n dX11_back_31 rfl rfl ?_
  refine hf_getr (b := 101) (c := 11) (j := 0) dX11_back_32 (hs.2.1 100 _ rfl) (hf_lin hs 100 rfl) (by decide) (by decide) hw365 rfl (hs.2.2 100 0 _ rfl) ?_
  refine hf_aload_n dX11_back_35 rfl rfl ?_
  refine hf_getr (b := 121) (c := 11) (j := 1) dX11_back_36 (hs.2.1 100 _ rfl) (hf_lin hs 100 rfl) (by decide) (by decide) hw366 rfl (hs.2.2 100 1 _ rfl) ?_
  refine hf_iload_n dX11_back_39 rfl rfl ?_
  refine hf_aldq (b := (181 + e)) dX11_back_40 (hs.2.1 121 _ rfl) (by decide) (hf_lin hs 121 rfl) h.1 hP ?_
  replace h := h.2
  exact hf_callV (c := 1) (as := [.ref (181 + e)]) ok_X1_takeFrom dX11_back_41 hw1007 hw1008 hw1009 (hs.2.1 101 _ rfl) (by decide) (hf_lin hs 101 rfl) rfl (Nat.le_of_ble_eq_true rfl) rfl (Nat.le_of_ble_eq_true rfl) (Nat.zero_le _) (Nat.zero_le _) (hf_mono (fun r M q => hf_drop (l' := [some (.ref 100), none]) (by simp [hf_sub]) q) h)

set_option maxHeartbeats 4000000 in
theorem w_X11_back_44_s {X : hf_X} {d k n t : Nat} {T : hf_T} {I : hf_I} {L : hf_L} {P : hf_P} {Q : Option Value → hf_M → Prop}  (hs : hf_Lay t T P) (h : Q (some (.int 0)) (t, T, (hf_up (hf_up (hf_up I 148 2 0) 100 15 0) 100 16 ((I 100 16) + 1)), L, P)) : hf_G X Y_X11_back (d + 1) k n 44 [some (.ref 100), none] [] (t, T, I, L, P) Q := by
  refine hf_aload_n dX11_back_44 rfl rfl ?_
  refine hf_getr (b := 148) (c := 11) (j := 9) dX11_back_45 (hs.2.1 100 _ rfl) (hf_lin hs 100 rfl) (by decide) (by decide) hw374 rfl (hs.2.2 100 9 _ rfl) ?_
  refine hf_callV (c := 6) (as := []) ok_X6_empty dX11_back_48 hw414 hw415 hw416 (hs.2.1 148 _ rfl) (by decide) (hf_lin hs 148 rfl) rfl (Nat.le_of_ble_eq_true rfl) rfl (Nat.le_of_ble_eq_true rfl) (Nat.zero_le _) (Nat.zero_le _) ?_
  show hf_G X Y_X6_empty d _ _ 0 [some (.ref 148)] [] (t, T, I, L, P) _
  refine hf_aload_n dX6_empty_0 rfl rfl ?_
  refine hf_iconst (v := 0) dX6_empty_1 (by decide) ?_
  refine hf_puti (c := 6) (j := 2) dX6_empty_2 (hs.2.1 148 _ rfl) (hf_lin hs 148 rfl) (by decide) (by decide) hw359 rfl rfl ?_
  refine hf_return dX6_empty_5 rfl ?_
  show hf_G X Y_X11_back (d + 1) _ _ 51 [some (.ref 100), none] [] (t, T, (hf_up I 148 2 0), L, P) _
  refine hf_aload_n dX11_back_51 rfl rfl ?_
  refine hf_iconst (v := 0) dX11_back_52 (by decide) ?_
  refine hf_callV (c := 11) (as := [.int 0]) ok_X11_granted dX11_back_53 hw418 hw419 hw1554 (hs.2.1 100 _ rfl) (by decide) (hf_lin hs 100 rfl) rfl (Nat.le_of_ble_eq_true rfl) rfl (Nat.le_of_ble_eq_true rfl) (Nat.zero_le _) (Nat.zero_le _) ?_
  show hf_G X Y_X11_granted d _ _ 0 [some (.ref 100), some (.int 0)] [] (t, T, (hf_up I 148 2 0), L, P) _
  refine hf_aload_n dX11_granted_0 rfl rfl ?_
  refine hf_iconst (v := 0) dX11_granted_1 (by decide) ?_
  refine hf_puti (c := 11) (j := 15) dX11_granted_2 (hs.2.1 100 _ rfl) (hf_lin hs 100 rfl) (by decide) (by decide) hw381 rfl rfl ?_
  refine hf_aload_n dX11_granted_5 rfl rfl ?_
  refine hf_dup dX11_granted_6 rfl ?_
  refine hf_geti (c := 11) (j := 16) dX11_granted_7 (hs.2.1 100 _ rfl) (hf_lin hs 100 rfl) (by decide) (by decide) hw382 (Or.inl rfl) ?_
  refine hf_iconst (v := 1) dX11_granted_10 (by decide) ?_
  refine hf_iadd dX11_granted_11 ?_
  refine hf_puti (c := 11) (j := 16) dX11_granted_12 (hs.2.1 100 _ rfl) (hf_lin hs 100 rfl) (by decide) (by decide) hw382 rfl rfl ?_
  refine hf_iload_n dX11_granted_15 rfl rfl ?_
  refine hf_ireturn dX11_granted_16 rfl rfl ?_
  show hf_G X Y_X11_back (d + 1) _ _ 56 [some (.ref 100), none] [.int 0] (t, T, (hf_up (hf_up (hf_up I 148 2 0) 100 15 0) 100 16 ((I 100 16) + 1)), L, P) _
  refine hf_ireturn dX11_back_56 rfl rfl ?_
  exact h

set_option maxHeartbeats 4000000 in
theorem w_X11_image_0_r {X : hf_X} {d k n t : Nat} {T : hf_T} {I : hf_I} {L : hf_L} {P : hf_P} {Q : Option Value → hf_M → Prop} {x1 : Int32} (hs : hf_Lay t T P) (h : (x1 < 0 → Q (some (.int (-1))) (t, T, (hf_up (hf_up I 100 15 (-1)) 155 0 ((I 155 0) + 1)), L, P)) ∧ (¬ (x1 < 0) → (1 < x1 → Q (some (.int (-1))) (t, T, (hf_up (hf_up I 100 15 (-1)) 155 0 ((I 155 0) + 1)), L, P)) ∧ (¬ (1 < x1) → hf_G X Y_X11_image (d + 2) k n 15 [some (.ref 100), some (.int x1)] [] (t, T, I, L, P) Q))) : hf_G X Y_X11_image (d + 2) k n 0 (hf_en [.ref 100, .int x1] 2) [] (t, T, I, L, P) Q := by
  show hf_G X Y_X11_image (d + 2) k n 0 [some (.ref 100), some (.int x1)] [] (t, T, I, L, P) Q
  refine hf_iload_n dX11_image_0 rfl rfl ?_
  refine hf_iconst (v := 0) dX11_image_1 (by decide) ?_
  refine hf_iconst (v := 1) dX11_image_2 (by decide) ?_
  refine hf_callS (as := [.int x1, .int 0, .int 1]) ok_X11_within dX11_image_3 hw405 hw406 rfl (Nat.le_of_ble_eq_true rfl) rfl (Nat.le_of_ble_eq_true rfl) (Nat.zero_le _) (Nat.zero_le _) ?_
  show hf_G X Y_X11_within (d + 1) _ _ 0 [some (.int x1), some (.int 0), some (.int 1)] [] (t, T, I, L, P) _
  refine hf_iload_n dX11_within_0 rfl rfl ?_
  refine hf_iload_n dX11_within_1 rfl rfl ?_
  refine hf_icmp_lt (tgt := 14) dX11_within_2 (by decide) (fun hc => ?_) (fun hc => ?_)
  · replace h := h.1 hc
    refine hf_iconst (v := 0) dX11_within_14 (by decide) ?_
    refine hf_ireturn dX11_within_15 rfl (by decide) ?_
    show hf_G X Y_X11_image (d + 2) _ _ 6 [some (.ref 100), some (.int x1)] [.int 0] (t, T, I, L, P) _
    refine hf_if_ne (tgt := 15) dX11_image_6 (by decide) (fun hc => absurd (show ¬ (0 : Int32) = (0 : Int32) from hc) (by decide)) (fun _ => ?_)
    refine hf_aload_n dX11_image_9 rfl rfl ?_
    refine hf_iconst (v := (-1)) dX11_image_10 (by decide) ?_
    refine hf_callV (c := 11) (as := [.int (-1)]) ok_X11_refuse dX11_image_11 hw408 hw409 hw1553 (hs.2.1 100 _ rfl) (by decide) (hf_lin hs 100 rfl) rfl (Nat.le_of_ble_eq_true rfl) rfl (Nat.le_of_ble_eq_true rfl) (Nat.zero_le _) (Nat.zero_le _) ?_
    show hf_G X Y_X11_refuse (d + 1) _ _ 0 [some (.ref 100), some (.int (-1))] [] (t, T, I, L, P) _
    refine hf_aload_n dX11_refuse_0 rfl rfl ?_
    refine hf_iload_n dX11_refuse_1 rfl rfl ?_
    refine hf_puti (c := 11) (j := 15) dX11_refuse_2 (hs.2.1 100 _ rfl) (hf_lin hs 100 rfl) (by decide) (by decide) hw381 rfl rfl ?_
    refine hf_aload_n dX11_refuse_5 rfl rfl ?_
    refine hf_getr (b := 155) (c := 11) (j := 12) dX11_refuse_6 (hs.2.1 100 _ rfl) (hf_lin hs 100 rfl) (by decide) (by decide) hw377 rfl (hs.2.2 100 12 _ rfl) ?_
    refine hf_iload_n dX11_refuse_9 rfl rfl ?_
    refine hf_callS (as := [.int (-1)]) ok_X11_refusalPlace dX11_refuse_10 hw411 hw412 rfl (Nat.le_of_ble_eq_true rfl) rfl (Nat.le_of_ble_eq_true rfl) (Nat.zero_le _) (Nat.zero_le _) ?_
    show hf_G X Y_X11_refusalPlace d _ _ 0 [some (.int (-1))] [] (t, T, (hf_up I 100 15 (-1)), L, P) _
    refine hf_iload_n dX11_refusalPlace_0 rfl rfl ?_
    refine hf_tableOut (tgt := 44) dX11_refusalPlace_1 (by decide) (by decide) ?_
    refine hf_iconst (v := 0) dX11_refusalPlace_44 (by decide) ?_
    refine hf_ireturn dX11_refusalPlace_45 rfl rfl ?_
    show hf_G X Y_X11_refuse (d + 1) _ _ 13 [some (.ref 100), some (.int (-1))] [.int 0, .ref 155] (t, T, (hf_up I 100 15 (-1)), L, P) _
    refine hf_dup2 dX11_refuse_13 rfl rfl ?_
    refine hf_iald_k (j := 0) (by decide) dX11_refuse_14 (hs.2.1 155 _ rfl) (hf_lin hs 155 rfl) (hf_vin (by decide)) ?_
    refine hf_iconst (v := 1) dX11_refuse_15 (by decide) ?_
    refine hf_iadd dX11_refuse_16 ?_
    refine hf_iast_k (j := 0) (by decide) dX11_refuse_17 (hs.2.1 155 _ rfl) (hf_lin hs 155 rfl) (hf_vin (by decide)) ?_
    refine hf_iload_n dX11_refuse_18 rfl rfl ?_
    refine hf_ireturn dX11_refuse_19 rfl rfl ?_
    show hf_G X Y_X11_image (d + 2) _ _ 14 [some (.ref 100), some (.int x1)] [.int (-1)] (t, T, (hf_up (hf_up I 100 15 (-1)) 155 0 ((I 155 0) + 1)), L, P) _
    refine hf_ireturn dX11_image_14 rfl rfl ?_
    exact h
  · replace h := h.2 hc
    refine hf_iload_n dX11_within_5 rfl rfl ?_
    refine hf_iload_n dX11_within_6 rfl rfl ?_
    refine hf_icmp_gt (tgt := 14) dX11_within_7 (by decide) (fun hc => ?_) (fun hc => ?_)
    · replace h := h.1 hc
      refine hf_iconst (v := 0) dX11_within_14 (by decide) ?_
      refine hf_ireturn dX11_within_15 rfl (by decide) ?_
      show hf_G X Y_X11_image (d + 2) _ _ 6 [some (.ref 100), some (.int x1)] [.int 0] (t, T, I, L, P) _
      refine hf_if_ne (tgt := 15) dX11_image_6 (by decide) (fun hc => absurd (show ¬ (0 : Int32) = (0 : Int32) from hc) (by decide)) (fun _ => ?_)
      refine hf_aload_n dX11_image_9 rfl rfl ?_
      refine hf_iconst (v := (-1)) dX11_image_10 (by decide) ?_
      refine hf_callV (c := 11) (as := [.int (-1)]) ok_X11_refuse dX11_image_11 hw408 hw409 hw1553 (hs.2.1 100 _ rfl) (by decide) (hf_lin hs 100 rfl) rfl (Nat.le_of_ble_eq_true rfl) rfl (Nat.le_of_ble_eq_true rfl) (Nat.zero_le _) (Nat.zero_le _) ?_
      show hf_G X Y_X11_refuse (d + 1) _ _ 0 [some (.ref 100), some (.int (-1))] [] (t, T, I, L, P) _
      refine hf_aload_n dX11_refuse_0 rfl rfl ?_
      refine hf_iload_n dX11_refuse_1 rfl rfl ?_
      refine hf_puti (c := 11) (j := 15) dX11_refuse_2 (hs.2.1 100 _ rfl) (hf_lin hs 100 rfl) (by decide) (by decide) hw381 rfl rfl ?_
      refine hf_aload_n dX11_refuse_5 rfl rfl ?_
      refine hf_getr (b := 155) (c := 11) (j := 12) dX11_refuse_6 (hs.2.1 100 _ rfl) (hf_lin hs 100 rfl) (by decide) (by decide) hw377 rfl (hs.2.2 100 12 _ rfl) ?_
      refine hf_iload_n dX11_refuse_9 rfl rfl ?_
      refine hf_callS (as := [.int (-1)]) ok_X11_refusalPlace dX11_refuse_10 hw411 hw412 rfl (Nat.le_of_ble_eq_true rfl) rfl (Nat.le_of_ble_eq_true rfl) (Nat.zero_le _) (Nat.zero_le _) ?_
      show hf_G X Y_X11_refusalPlace d _ _ 0 [some (.int (-1))] [] (t, T, (hf_up I 100 15 (-1)), L, P) _
      refine hf_iload_n dX11_refusalPlace_0 rfl rfl ?_
      refine hf_tableOut (tgt := 44) dX11_refusalPlace_1 (by decide) (by decide) ?_
      refine hf_iconst (v := 0) dX11_refusalPlace_44 (by decide) ?_
      refine hf_ireturn dX11_refusalPlace_45 rfl rfl ?_
      show hf_G X Y_X11_refuse (d + 1) _ _ 13 [some (.ref 100), some (.int (-1))] [.int 0, .ref 155] (t, T, (hf_up I 100 15 (-1)), L, P) _
      refine hf_dup2 dX11_refuse_13 rfl rfl ?_
      refine hf_iald_k (j := 0) (by decide) dX11_refuse_14 (hs.2.1 155 _ rfl) (hf_lin hs 155 rfl) (hf_vin (by decide)) ?_
      refine hf_iconst (v := 1) dX11_refuse_15 (by decide) ?_
      refine hf_iadd dX11_refuse_16 ?_
      refine hf_iast_k (j := 0) (by decide) dX11_refuse_17 (hs.2.1 155 _ rfl) (hf_lin hs 155 rfl) (hf_vin (by decide)) ?_
      refine hf_iload_n dX11_refuse_18 rfl rfl ?_
      refine hf_ireturn dX11_refuse_19 rfl rfl ?_
      show hf_G X Y_X11_image (d + 2) _ _ 14 [some (.ref 100), some (.int x1)] [.int (-1)] (t, T, (hf_up (hf_up I 100 15 (-1)) 155 0 ((I 155 0) + 1)), L, P) _
      refine hf_ireturn dX11_image_14 rfl rfl ?_
      exact h
    · replace h := h.2 hc
      refine hf_iconst (v := 1) dX11_within_10 (by decide) ?_
      refine hf_goto (tgt := 15) dX11_within_11 (by decide) ?_
      refine hf_ireturn dX11_within_15 rfl (by decide) ?_
      show hf_G X Y_X11_image (d + 2) _ _ 6 [some (.ref 100), some (.int x1)] [.int 1] (t, T, I, L, P) _
      refine hf_if_ne (tgt := 15) dX11_image_6 (by decide) (fun _ => ?_) (fun hc => absurd (show (1 : Int32) = (0 : Int32) from hc) (by decide))
      exact h

set_option maxHeartbeats 4000000 in
theorem w_X11_image_15_z {X : hf_X} {d k n t : Nat} {T : hf_T} {I : hf_I} {L : hf_L} {P : hf_P} {Q : Option Value → hf_M → Prop} {x1 : Int32} (hs : hf_Lay t T P) (hP : P 121 x1.toNatClampNeg = none) (h : vp_in x1 2 ∧ (hf_G X Y_X11_image d k n 24 [some (.ref 100), some (.int x1)] [] (t, T, I, L, P) Q)) : hf_G X Y_X11_image d k n 15 [some (.ref 100), some (.int x1)] [] (t, T, I, L, P) Q := by
  refine hf_aload_n dX11_image_15 rfl rfl ?_
  refine hf_getr (b := 121) (c := 11) (j := 1) dX11_image_16 (hs.2.1 100 _ rfl) (hf_lin hs 100 rfl) (by decide) (by decide) hw366 rfl (hs.2.2 100 1 _ rfl) ?_
  refine hf_iload_n dX11_image_19 rfl rfl ?_
  refine hf_aldn dX11_image_20 (hs.2.1 121 _ rfl) (by decide) (hf_lin hs 121 rfl) h.1 hP ?_
  replace h := h.2
  refine hf_ifnonnullN dX11_image_21 ?_
  exact h

set_option maxHeartbeats 4000000 in
theorem w_X11_image_15_s {X : hf_X} {d k n t : Nat} {T : hf_T} {I : hf_I} {L : hf_L} {P : hf_P} {Q : Option Value → hf_M → Prop} {x1 : Int32} (hs : hf_Lay t T P) {e : Nat} (hP : P 121 x1.toNatClampNeg = some (181 + e)) (hb : bk t T P (181 + e)) (h : vp_in x1 2 ∧ (hf_G X Y_X11_image d k n 37 [some (.ref 100), some (.int x1)] [] (t, T, I, L, P) Q)) : hf_G X Y_X11_image d k n 15 [some (.ref 100), some (.int x1)] [] (t, T, I, L, P) Q := by
  refine hf_aload_n dX11_image_15 rfl rfl ?_
  refine hf_getr (b := 121) (c := 11) (j := 1) dX11_image_16 (hs.2.1 100 _ rfl) (hf_lin hs 100 rfl) (by decide) (by decide) hw366 rfl (hs.2.2 100 1 _ rfl) ?_
  refine hf_iload_n dX11_image_19 rfl rfl ?_
  refine hf_aldq (b := (181 + e)) dX11_image_20 (hs.2.1 121 _ rfl) (by decide) (hf_lin hs 121 rfl) h.1 hP ?_
  replace h := h.2
  refine hf_ifnonnull (tgt := 37) dX11_image_21 (by decide) ?_
  exact h

set_option maxHeartbeats 4000000 in
theorem w_X11_image_37_s {X : hf_X} {d k n t : Nat} {T : hf_T} {I : hf_I} {L : hf_L} {P : hf_P} {Q : Option Value → hf_M → Prop} {x1 : Int32} (hs : hf_Lay t T P) {e : Nat} (hP : P 121 x1.toNatClampNeg = some (181 + e)) (hb : bk t T P (181 + e)) (h : vp_in x1 2 ∧ (hf_G X Y_X1_takeFrom d 0 0 0 (hf_en [.ref (181 + e), .ref 101] 3) [] (t, T, I, L, P) (fun r M => hf_G X Y_X11_image (d + 1) k n 50 [some (.ref 100), none] (r.toList ++ []) M Q))) : hf_G X Y_X11_image (d + 1) k n 37 [some (.ref 100), some (.int x1)] [] (t, T, I, L, P) Q := by
  refine hf_aload_n dX11_image_37 rfl rfl ?_
  refine hf_getr (b := 121) (c := 11) (j := 1) dX11_image_38 (hs.2.1 100 _ rfl) (hf_lin hs 100 rfl) (by decide) (by decide) hw366 rfl (hs.2.2 100 1 _ rfl) ?_
  refine hf_iload_n dX11_image_41 rfl rfl ?_
  refine hf_aldq (b := (181 + e)) dX11_image_42 (hs.2.1 121 _ rfl) (by decide) (hf_lin hs 121 rfl) h.1 hP ?_
  replace h := h.2
  refine hf_aload_n dX11_image_43 rfl rfl ?_
  refine hf_getr (b := 101) (c := 11) (j := 0) dX11_image_44 (hs.2.1 100 _ rfl) (hf_lin hs 100 rfl) (by decide) (by decide) hw365 rfl (hs.2.2 100 0 _ rfl) ?_
  exact hf_callV (c := 1) (as := [.ref 101]) ok_X1_takeFrom dX11_image_47 hw1007 hw1008 hw1009 hb.t0 (by decide) (bk_in hb 0 (by decide)) rfl (Nat.le_of_ble_eq_true rfl) rfl (Nat.le_of_ble_eq_true rfl) (Nat.zero_le _) (Nat.zero_le _) (hf_mono (fun r M q => hf_drop (l' := [some (.ref 100), none]) (by simp [hf_sub]) q) h)

set_option maxHeartbeats 4000000 in
theorem w_X11_image_50_s {X : hf_X} {d k n t : Nat} {T : hf_T} {I : hf_I} {L : hf_L} {P : hf_P} {Q : Option Value → hf_M → Prop}  (hs : hf_Lay t T P) (h : Q (some (.int 0)) (t, T, (hf_up (hf_up I 100 15 0) 100 16 ((I 100 16) + 1)), L, P)) : hf_G X Y_X11_image (d + 1) k n 50 [some (.ref 100), none] [] (t, T, I, L, P) Q := by
  refine hf_aload_n dX11_image_50 rfl rfl ?_
  refine hf_iconst (v := 0) dX11_image_51 (by decide) ?_
  refine hf_callV (c := 11) (as := [.int 0]) ok_X11_granted dX11_image_52 hw418 hw419 hw1554 (hs.2.1 100 _ rfl) (by decide) (hf_lin hs 100 rfl) rfl (Nat.le_of_ble_eq_true rfl) rfl (Nat.le_of_ble_eq_true rfl) (Nat.zero_le _) (Nat.zero_le _) ?_
  show hf_G X Y_X11_granted d _ _ 0 [some (.ref 100), some (.int 0)] [] (t, T, I, L, P) _
  refine hf_aload_n dX11_granted_0 rfl rfl ?_
  refine hf_iconst (v := 0) dX11_granted_1 (by decide) ?_
  refine hf_puti (c := 11) (j := 15) dX11_granted_2 (hs.2.1 100 _ rfl) (hf_lin hs 100 rfl) (by decide) (by decide) hw381 rfl rfl ?_
  refine hf_aload_n dX11_granted_5 rfl rfl ?_
  refine hf_dup dX11_granted_6 rfl ?_
  refine hf_geti (c := 11) (j := 16) dX11_granted_7 (hs.2.1 100 _ rfl) (hf_lin hs 100 rfl) (by decide) (by decide) hw382 (Or.inl rfl) ?_
  refine hf_iconst (v := 1) dX11_granted_10 (by decide) ?_
  refine hf_iadd dX11_granted_11 ?_
  refine hf_puti (c := 11) (j := 16) dX11_granted_12 (hs.2.1 100 _ rfl) (hf_lin hs 100 rfl) (by decide) (by decide) hw382 rfl rfl ?_
  refine hf_iload_n dX11_granted_15 rfl rfl ?_
  refine hf_ireturn dX11_granted_16 rfl rfl ?_
  show hf_G X Y_X11_image (d + 1) _ _ 55 [some (.ref 100), none] [.int 0] (t, T, (hf_up (hf_up I 100 15 0) 100 16 ((I 100 16) + 1)), L, P) _
  refine hf_ireturn dX11_image_55 rfl rfl ?_
  exact h

set_option maxHeartbeats 4000000 in
theorem w_X11_image_24_n {X : hf_X} {d t : Nat} {T : hf_T} {I : hf_I} {L : hf_L} {P : hf_P} {Q : Option Value → hf_M → Prop} {x1 : Int32} (hs : hf_Lay t T P) {db : Nat} (hdb : db = 100 + t) (hj : jk_nw T I L P db (1, 0)) (h : hf_G X Y_X1_init d 19 327 0 (hf_en [.ref db] 2) [] ((t + 1), T, I, L, P) (fun r M => hf_G X Y_X11_image (d + 1) (19 - 19) (327 - 327) 36 [some (.ref 100), some (.int x1)] (r.toList ++ [.ref db, .int x1, .ref 121]) M Q)) : hf_G X Y_X11_image (d + 1) 20 347 24 [some (.ref 100), some (.int x1)] [] (t, T, I, L, P) Q := by
  refine hf_aload_n dX11_image_24 rfl rfl ?_
  refine hf_getr (b := 121) (c := 11) (j := 1) dX11_image_25 (hs.2.1 100 _ rfl) (by have := hs.1; omega) (by decide) (by decide) hw366 rfl (hs.2.2 100 1 _ rfl) ?_
  refine hf_iload_n dX11_image_28 rfl rfl ?_
  refine hf_new_p (c := 1) (k := 19) (n := 327) (m := 20) (a := db) (by omega) (by decide +kernel) dX11_image_29 (by decide) hw31 hw32 hw3 hj ?_
  refine hf_dup dX11_image_32 rfl ?_
  exact hf_callI (k1 := 19) (n1 := 327) (as := []) ok_X1_init rfl rfl dX11_image_33 hw33 hw34 rfl (Nat.le_of_ble_eq_true rfl) rfl (Nat.le_of_ble_eq_true rfl) (by decide) (by decide) h

set_option maxHeartbeats 4000000 in
theorem w_X11_image_36_n {X : hf_X} {d k n t : Nat} {T : hf_T} {I : hf_I} {L : hf_L} {P : hf_P} {Q : Option Value → hf_M → Prop} {x1 : Int32} {s1 : Int32} (hs : hf_Lay t T P) {db : Nat} (hdb : 100 ≤ db ∧ db < 100 + t) (hT : T db = (1, 0)) (h : vp_in s1 2 ∧ (hf_G X Y_X11_image d k n 37 [some (.ref 100), some (.int x1)] [] (t, T, I, L, (hf_upP P 121 s1.toNatClampNeg (some db))) Q)) : hf_G X Y_X11_image d k n 36 [some (.ref 100), some (.int x1)] [.ref db, .int s1, .ref 121] (t, T, I, L, P) Q := by
  refine hf_astq dX11_image_36 (hs.2.1 121 _ rfl) (by have := hs.1; omega) (Or.inl ⟨rfl, rfl⟩) hT (by omega) h.1 ?_
  replace h := h.2
  exact h

set_option maxHeartbeats 4000000 in
theorem w_X11_law_0_l {X : hf_X} {d k n t : Nat} {T : hf_T} {I : hf_I} {L : hf_L} {P : hf_P} {Q : Option Value → hf_M → Prop}  (hs : hf_Lay t T P) (h : ((I 101 15) < 6 → hf_G X Y_X5_reads (d + 1) 0 0 0 (hf_en [.ref 123, .ref 122, .int (I 100 13), .int 1] 5) [] (t, T, (hf_up I 100 13 0), L, P) (fun r M => hf_G X Y_X11_law (d + 2) k n 42 [some (.ref 100), none] (r.toList ++ []) M Q)) ∧ (¬ ((I 101 15) < 6) → Q (some (.int (-5))) (t, T, (hf_up (hf_up (hf_up I 100 13 0) 100 15 (-5)) 155 3 ((I 155 3) + 1)), L, P))) : hf_G X Y_X11_law (d + 2) k n 0 (hf_en [.ref 100] 2) [] (t, T, I, L, P) Q := by
  show hf_G X Y_X11_law (d + 2) k n 0 [some (.ref 100), none] [] (t, T, I, L, P) Q
  refine hf_aload_n dX11_law_0 rfl rfl ?_
  refine hf_geti (c := 11) (j := 13) dX11_law_1 (hs.2.1 100 _ rfl) (hf_lin hs 100 rfl) (by decide) (by decide) hw378 (Or.inl rfl) ?_
  refine hf_istore_n (l2 := [some (.ref 100), some (.int (I 100 13))]) dX11_law_4 rfl (by decide) rfl ?_
  refine hf_aload_n dX11_law_5 rfl rfl ?_
  refine hf_iconst (v := 0) dX11_law_6 (by decide) ?_
  refine hf_puti (c := 11) (j := 13) dX11_law_7 (hs.2.1 100 _ rfl) (hf_lin hs 100 rfl) (by decide) (by decide) hw378 rfl rfl ?_
  refine hf_aload_n dX11_law_10 rfl rfl ?_
  refine hf_getr (b := 101) (c := 11) (j := 0) dX11_law_11 (hs.2.1 100 _ rfl) (hf_lin hs 100 rfl) (by decide) (by decide) hw365 rfl (hs.2.2 100 0 _ rfl) ?_
  refine hf_geti (c := 1) (j := 15) dX11_law_14 (hs.2.1 101 _ rfl) (hf_lin hs 101 rfl) (by decide) (by decide) hw149 (Or.inl rfl) ?_
  refine hf_bipush (v := 6) dX11_law_17 (by decide) ?_
  refine hf_icmp_lt (tgt := 29) dX11_law_19 (by decide) (fun hc => ?_) (fun hc => ?_)
  · replace h := h.1 hc
    refine hf_aload_n dX11_law_29 rfl rfl ?_
    refine hf_getr (b := 123) (c := 11) (j := 3) dX11_law_30 (hs.2.1 100 _ rfl) (hf_lin hs 100 rfl) (by decide) (by decide) hw368 rfl (hs.2.2 100 3 _ rfl) ?_
    refine hf_aload_n dX11_law_33 rfl rfl ?_
    refine hf_getr (b := 122) (c := 11) (j := 2) dX11_law_34 (hs.2.1 100 _ rfl) (hf_lin hs 100 rfl) (by decide) (by decide) hw367 rfl (hs.2.2 100 2 _ rfl) ?_
    refine hf_iload_n dX11_law_37 rfl rfl ?_
    refine hf_iconst (v := 1) dX11_law_38 (by decide) ?_
    exact hf_callV (c := 5) (as := [.ref 122, .int (I 100 13), .int 1]) ok_X5_reads dX11_law_39 hw544 hw545 hw546 (hs.2.1 123 _ rfl) (by decide) (hf_lin hs 123 rfl) rfl (Nat.le_of_ble_eq_true rfl) rfl (Nat.le_of_ble_eq_true rfl) (Nat.zero_le _) (Nat.zero_le _) (hf_mono (fun r M q => hf_drop (l' := [some (.ref 100), none]) (by simp [hf_sub]) q) h)
  · replace h := h.2 hc
    refine hf_aload_n dX11_law_22 rfl rfl ?_
    refine hf_bipush (v := (-5)) dX11_law_23 (by decide) ?_
    refine hf_callV (c := 11) (as := [.int (-5)]) ok_X11_refuse dX11_law_25 hw408 hw409 hw1553 (hs.2.1 100 _ rfl) (by decide) (hf_lin hs 100 rfl) rfl (Nat.le_of_ble_eq_true rfl) rfl (Nat.le_of_ble_eq_true rfl) (Nat.zero_le _) (Nat.zero_le _) ?_
    show hf_G X Y_X11_refuse (d + 1) _ _ 0 [some (.ref 100), some (.int (-5))] [] (t, T, (hf_up I 100 13 0), L, P) _
    refine hf_aload_n dX11_refuse_0 rfl rfl ?_
    refine hf_iload_n dX11_refuse_1 rfl rfl ?_
    refine hf_puti (c := 11) (j := 15) dX11_refuse_2 (hs.2.1 100 _ rfl) (hf_lin hs 100 rfl) (by decide) (by decide) hw381 rfl rfl ?_
    refine hf_aload_n dX11_refuse_5 rfl rfl ?_
    refine hf_getr (b := 155) (c := 11) (j := 12) dX11_refuse_6 (hs.2.1 100 _ rfl) (hf_lin hs 100 rfl) (by decide) (by decide) hw377 rfl (hs.2.2 100 12 _ rfl) ?_
    refine hf_iload_n dX11_refuse_9 rfl rfl ?_
    refine hf_callS (as := [.int (-5)]) ok_X11_refusalPlace dX11_refuse_10 hw411 hw412 rfl (Nat.le_of_ble_eq_true rfl) rfl (Nat.le_of_ble_eq_true rfl) (Nat.zero_le _) (Nat.zero_le _) ?_
    show hf_G X Y_X11_refusalPlace d _ _ 0 [some (.int (-5))] [] (t, T, (hf_up (hf_up I 100 13 0) 100 15 (-5)), L, P) _
    refine hf_iload_n dX11_refusalPlace_0 rfl rfl ?_
    refine hf_tableIn (off := 39) (tgt := 40) dX11_refusalPlace_1 (by decide) (by decide) rfl (by decide) ?_
    refine hf_iconst (v := 3) dX11_refusalPlace_40 (by decide) ?_
    refine hf_ireturn dX11_refusalPlace_41 rfl rfl ?_
    show hf_G X Y_X11_refuse (d + 1) _ _ 13 [some (.ref 100), some (.int (-5))] [.int 3, .ref 155] (t, T, (hf_up (hf_up I 100 13 0) 100 15 (-5)), L, P) _
    refine hf_dup2 dX11_refuse_13 rfl rfl ?_
    refine hf_iald_k (j := 3) (by decide) dX11_refuse_14 (hs.2.1 155 _ rfl) (hf_lin hs 155 rfl) (hf_vin (by decide)) ?_
    refine hf_iconst (v := 1) dX11_refuse_15 (by decide) ?_
    refine hf_iadd dX11_refuse_16 ?_
    refine hf_iast_k (j := 3) (by decide) dX11_refuse_17 (hs.2.1 155 _ rfl) (hf_lin hs 155 rfl) (hf_vin (by decide)) ?_
    refine hf_iload_n dX11_refuse_18 rfl rfl ?_
    refine hf_ireturn dX11_refuse_19 rfl rfl ?_
    show hf_G X Y_X11_law (d + 2) _ _ 28 [some (.ref 100), some (.int (I 100 13))] [.int (-5)] (t, T, (hf_up (hf_up (hf_up I 100 13 0) 100 15 (-5)) 155 3 ((I 155 3) + 1)), L, P) _
    refine hf_ireturn dX11_law_28 rfl rfl ?_
    exact h

set_option maxHeartbeats 4000000 in
theorem w_X11_law_42_l {X : hf_X} {d t : Nat} {T : hf_T} {I : hf_I} {L : hf_L} {P : hf_P} {Q : Option Value → hf_M → Prop} {s0 : Int32} (hs : hf_Lay t T P) (h : (¬ s0 = 0 → hf_G X Y_X9_trimmed (d + 1) 7 868 0 (hf_en [.ref 124] 2) [] (t, T, I, L, P) (fun r M => hf_G X Y_X11_law (d + 2) (7 - 7) (868 - 868) 76 [some (.ref 100), none] (r.toList ++ [.int (I 101 15), .ref 111]) M Q)) ∧ (s0 = 0 → Q (some (.int (-6))) (t, T, (hf_up (hf_up I 100 15 (-6)) 155 4 ((I 155 4) + 1)), L, P))) : hf_G X Y_X11_law (d + 2) 7 868 42 [some (.ref 100), none] [.int s0] (t, T, I, L, P) Q := by
  refine hf_if_ne (tgt := 52) dX11_law_42 (by decide) (fun hc => ?_) (fun hc => ?_)
  · replace h := h.1 hc
    refine hf_aload_n dX11_law_52 rfl rfl ?_
    refine hf_getr (b := 101) (c := 11) (j := 0) dX11_law_53 (hs.2.1 100 _ rfl) (hf_lin hs 100 rfl) (by decide) (by decide) hw365 rfl (hs.2.2 100 0 _ rfl) ?_
    refine hf_getr (b := 111) (c := 1) (j := 4) dX11_law_56 (hs.2.1 101 _ rfl) (hf_lin hs 101 rfl) (by decide) (by decide) hw114 rfl (hs.2.2 101 4 _ rfl) ?_
    refine hf_aload_n dX11_law_59 rfl rfl ?_
    refine hf_getr (b := 101) (c := 11) (j := 0) dX11_law_60 (hs.2.1 100 _ rfl) (hf_lin hs 100 rfl) (by decide) (by decide) hw365 rfl (hs.2.2 100 0 _ rfl) ?_
    refine hf_geti (c := 1) (j := 15) dX11_law_63 (hs.2.1 101 _ rfl) (hf_lin hs 101 rfl) (by decide) (by decide) hw149 (Or.inl rfl) ?_
    refine hf_aload_n dX11_law_66 rfl rfl ?_
    refine hf_getr (b := 123) (c := 11) (j := 3) dX11_law_67 (hs.2.1 100 _ rfl) (hf_lin hs 100 rfl) (by decide) (by decide) hw368 rfl (hs.2.2 100 3 _ rfl) ?_
    refine hf_getr (b := 124) (c := 5) (j := 0) dX11_law_70 (hs.2.1 123 _ rfl) (hf_lin hs 123 rfl) (by decide) (by decide) hw227 rfl (hs.2.2 123 0 _ rfl) ?_
    exact hf_callV (c := 9) (as := []) ok_X9_trimmed dX11_law_73 hw655 hw656 hw657 (hs.2.1 124 _ rfl) (by decide) (hf_lin hs 124 rfl) rfl (Nat.le_of_ble_eq_true rfl) rfl (Nat.le_of_ble_eq_true rfl) (Nat.le_refl 7) (Nat.le_refl 868) h
  · replace h := h.2 hc
    refine hf_aload_n dX11_law_45 rfl rfl ?_
    refine hf_bipush (v := (-6)) dX11_law_46 (by decide) ?_
    refine hf_callV (c := 11) (as := [.int (-6)]) ok_X11_refuse dX11_law_48 hw408 hw409 hw1553 (hs.2.1 100 _ rfl) (by decide) (hf_lin hs 100 rfl) rfl (Nat.le_of_ble_eq_true rfl) rfl (Nat.le_of_ble_eq_true rfl) (Nat.zero_le _) (Nat.zero_le _) ?_
    show hf_G X Y_X11_refuse (d + 1) _ _ 0 [some (.ref 100), some (.int (-6))] [] (t, T, I, L, P) _
    refine hf_aload_n dX11_refuse_0 rfl rfl ?_
    refine hf_iload_n dX11_refuse_1 rfl rfl ?_
    refine hf_puti (c := 11) (j := 15) dX11_refuse_2 (hs.2.1 100 _ rfl) (hf_lin hs 100 rfl) (by decide) (by decide) hw381 rfl rfl ?_
    refine hf_aload_n dX11_refuse_5 rfl rfl ?_
    refine hf_getr (b := 155) (c := 11) (j := 12) dX11_refuse_6 (hs.2.1 100 _ rfl) (hf_lin hs 100 rfl) (by decide) (by decide) hw377 rfl (hs.2.2 100 12 _ rfl) ?_
    refine hf_iload_n dX11_refuse_9 rfl rfl ?_
    refine hf_callS (as := [.int (-6)]) ok_X11_refusalPlace dX11_refuse_10 hw411 hw412 rfl (Nat.le_of_ble_eq_true rfl) rfl (Nat.le_of_ble_eq_true rfl) (Nat.zero_le _) (Nat.zero_le _) ?_
    show hf_G X Y_X11_refusalPlace d _ _ 0 [some (.int (-6))] [] (t, T, (hf_up I 100 15 (-6)), L, P) _
    refine hf_iload_n dX11_refusalPlace_0 rfl rfl ?_
    refine hf_tableIn (off := 41) (tgt := 42) dX11_refusalPlace_1 (by decide) (by decide) rfl (by decide) ?_
    refine hf_iconst (v := 4) dX11_refusalPlace_42 (by decide) ?_
    refine hf_ireturn dX11_refusalPlace_43 rfl rfl ?_
    show hf_G X Y_X11_refuse (d + 1) _ _ 13 [some (.ref 100), some (.int (-6))] [.int 4, .ref 155] (t, T, (hf_up I 100 15 (-6)), L, P) _
    refine hf_dup2 dX11_refuse_13 rfl rfl ?_
    refine hf_iald_k (j := 4) (by decide) dX11_refuse_14 (hs.2.1 155 _ rfl) (hf_lin hs 155 rfl) (hf_vin (by decide)) ?_
    refine hf_iconst (v := 1) dX11_refuse_15 (by decide) ?_
    refine hf_iadd dX11_refuse_16 ?_
    refine hf_iast_k (j := 4) (by decide) dX11_refuse_17 (hs.2.1 155 _ rfl) (hf_lin hs 155 rfl) (hf_vin (by decide)) ?_
    refine hf_iload_n dX11_refuse_18 rfl rfl ?_
    refine hf_ireturn dX11_refuse_19 rfl rfl ?_
    show hf_G X Y_X11_law (d + 2) _ _ 51 [some (.ref 100), none] [.int (-6)] (t, T, (hf_up (hf_up I 100 15 (-6)) 155 4 ((I 155 4) + 1)), L, P) _
    refine hf_ireturn dX11_law_51 rfl rfl ?_
    exact h

set_option maxHeartbeats 4000000 in
theorem w_X11_law_76_l {X : hf_X} {d k n t : Nat} {T : hf_T} {I : hf_I} {L : hf_L} {P : hf_P} {Q : Option Value → hf_M → Prop} {s1 : Int32} (hs : hf_Lay t T P) {tx : Nat} (hT : T tx = (9, 0)) (hI : 100 ≤ tx ∧ tx < 100 + t) (h : vp_in s1 6 ∧ (Q (some (.int (((I 101 15) + 1) - 1))) (t, T, (hf_up (hf_up (hf_up I 101 15 ((I 101 15) + 1)) 100 15 0) 100 16 ((I 100 16) + 1)), L, (hf_upP P 111 s1.toNatClampNeg (some tx))))) : hf_G X Y_X11_law (d + 1) k n 76 [some (.ref 100), none] [.ref tx, .int s1, .ref 111] (t, T, I, L, P) Q := by
  refine hf_astq dX11_law_76 (hs.2.1 111 _ rfl) (hf_lin hs 111 rfl) (Or.inr ⟨rfl, rfl⟩) hT hI h.1 ?_
  replace h := h.2
  refine hf_aload_n dX11_law_77 rfl rfl ?_
  refine hf_getr (b := 101) (c := 11) (j := 0) dX11_law_78 (hs.2.1 100 _ rfl) (hf_lin hs 100 rfl) (by decide) (by decide) hw365 rfl (hs.2.2 100 0 _ rfl) ?_
  refine hf_dup dX11_law_81 rfl ?_
  refine hf_geti (c := 1) (j := 15) dX11_law_82 (hs.2.1 101 _ rfl) (hf_lin hs 101 rfl) (by decide) (by decide) hw149 (Or.inl rfl) ?_
  refine hf_iconst (v := 1) dX11_law_85 (by decide) ?_
  refine hf_iadd dX11_law_86 ?_
  refine hf_puti (c := 1) (j := 15) dX11_law_87 (hs.2.1 101 _ rfl) (hf_lin hs 101 rfl) (by decide) (by decide) hw149 rfl rfl ?_
  refine hf_aload_n dX11_law_90 rfl rfl ?_
  refine hf_aload_n dX11_law_91 rfl rfl ?_
  refine hf_getr (b := 101) (c := 11) (j := 0) dX11_law_92 (hs.2.1 100 _ rfl) (hf_lin hs 100 rfl) (by decide) (by decide) hw365 rfl (hs.2.2 100 0 _ rfl) ?_
  refine hf_geti (c := 1) (j := 15) dX11_law_95 (hs.2.1 101 _ rfl) (hf_lin hs 101 rfl) (by decide) (by decide) hw149 (Or.inl rfl) ?_
  refine hf_iconst (v := 1) dX11_law_98 (by decide) ?_
  refine hf_isub dX11_law_99 ?_
  refine hf_callV (c := 11) (as := [.int (((I 101 15) + 1) - 1)]) ok_X11_granted dX11_law_100 hw418 hw419 hw1554 (hs.2.1 100 _ rfl) (by decide) (hf_lin hs 100 rfl) rfl (Nat.le_of_ble_eq_true rfl) rfl (Nat.le_of_ble_eq_true rfl) (Nat.zero_le _) (Nat.zero_le _) ?_
  show hf_G X Y_X11_granted d _ _ 0 [some (.ref 100), some (.int (((I 101 15) + 1) - 1))] [] (t, T, (hf_up I 101 15 ((I 101 15) + 1)), L, (hf_upP P 111 s1.toNatClampNeg (some tx))) _
  refine hf_aload_n dX11_granted_0 rfl rfl ?_
  refine hf_iconst (v := 0) dX11_granted_1 (by decide) ?_
  refine hf_puti (c := 11) (j := 15) dX11_granted_2 (hs.2.1 100 _ rfl) (hf_lin hs 100 rfl) (by decide) (by decide) hw381 rfl rfl ?_
  refine hf_aload_n dX11_granted_5 rfl rfl ?_
  refine hf_dup dX11_granted_6 rfl ?_
  refine hf_geti (c := 11) (j := 16) dX11_granted_7 (hs.2.1 100 _ rfl) (hf_lin hs 100 rfl) (by decide) (by decide) hw382 (Or.inl rfl) ?_
  refine hf_iconst (v := 1) dX11_granted_10 (by decide) ?_
  refine hf_iadd dX11_granted_11 ?_
  refine hf_puti (c := 11) (j := 16) dX11_granted_12 (hs.2.1 100 _ rfl) (hf_lin hs 100 rfl) (by decide) (by decide) hw382 rfl rfl ?_
  refine hf_iload_n dX11_granted_15 rfl rfl ?_
  refine hf_ireturn dX11_granted_16 rfl rfl ?_
  show hf_G X Y_X11_law (d + 1) _ _ 103 [some (.ref 100), none] [.int (((I 101 15) + 1) - 1)] (t, T, (hf_up (hf_up (hf_up I 101 15 ((I 101 15) + 1)) 100 15 0) 100 16 ((I 100 16) + 1)), L, (hf_upP P 111 s1.toNatClampNeg (some tx))) _
  refine hf_ireturn dX11_law_103 rfl rfl ?_
  exact h

set_option maxHeartbeats 4000000 in
theorem w_X9_trimmed_0_n {X : hf_X} {d t : Nat} {T : hf_T} {I : hf_I} {L : hf_L} {P : hf_P} {Q : Option Value → hf_M → Prop}  (hs : hf_Lay t T P) {tx : Nat} (hdb : tx = 100 + t) (hj : jk_nw T I L P tx (9, 0)) (h : hf_G X Y_X9_init d 6 860 0 (hf_en [.ref tx, .int (I 124 6), .int (I 124 7)] 3) [] ((t + 1), T, I, L, P) (fun r M => hf_G X Y_X9_trimmed (d + 1) (6 - 6) (860 - 860) 15 [some (.ref 124), none] (r.toList ++ [.ref tx]) M Q)) : hf_G X Y_X9_trimmed (d + 1) 7 868 0 (hf_en [.ref 124] 2) [] (t, T, I, L, P) Q := by
  show hf_G X Y_X9_trimmed (d + 1) 7 868 0 [some (.ref 124), none] [] (t, T, I, L, P) Q
  refine hf_new_p (c := 9) (k := 6) (n := 860) (m := 8) (a := tx) (by omega) (by decide +kernel) dX9_trimmed_0 (by decide) hw659 hw187 hw7 hj ?_
  refine hf_dup dX9_trimmed_3 rfl ?_
  refine hf_aload_n dX9_trimmed_4 rfl rfl ?_
  refine hf_geti (c := 9) (j := 6) dX9_trimmed_5 (hs.2.1 124 _ rfl) (by have := hs.1; omega) (by decide) (by decide) hw211 (Or.inl rfl) ?_
  refine hf_aload_n dX9_trimmed_8 rfl rfl ?_
  refine hf_geti (c := 9) (j := 7) dX9_trimmed_9 (hs.2.1 124 _ rfl) (by have := hs.1; omega) (by decide) (by decide) hw214 (Or.inl rfl) ?_
  exact hf_callI (k1 := 6) (n1 := 860) (as := [.int (I 124 6), .int (I 124 7)]) ok_X9_init rfl rfl dX9_trimmed_12 hw660 hw189 rfl (Nat.le_of_ble_eq_true rfl) rfl (Nat.le_of_ble_eq_true rfl) (by decide) (by decide) h

set_option maxHeartbeats 4000000 in
theorem w_X9_trimmed_15_n {X : hf_X} {d k n t : Nat} {T : hf_T} {I : hf_I} {L : hf_L} {P : hf_P} {Q : Option Value → hf_M → Prop}  (hs : hf_Lay t T P) {tx z m c0 c1 c2 c3 c4 c5 : Nat} (hx : hf_Tx t T P tx z m c0 c1 c2 c3 c4 c5) (h : (True ∧ True ∧ ¬ (I 124 6) < 0 ∧ 0 + (I 124 6).toNatClampNeg ≤ 800 ∧ 0 + (I 124 6).toNatClampNeg ≤ z) ∧ (hf_G X Y_X9_trimmed (d + 1) k n 33 [some (.ref 124), some (.ref tx)] [] (t, T, (hf_cp I 125 c0 0 0 (I 124 6).toNatClampNeg), L, P) Q)) : hf_G X Y_X9_trimmed (d + 1) k n 15 [some (.ref 124), none] [.ref tx] (t, T, I, L, P) Q := by
  refine hf_astore_n (l2 := [some (.ref 124), some (.ref tx)]) dX9_trimmed_15 rfl (by decide) rfl ?_
  refine hf_aload_n dX9_trimmed_16 rfl rfl ?_
  refine hf_getr (b := 125) (c := 9) (j := 0) dX9_trimmed_17 (hs.2.1 124 _ rfl) (hf_lin hs 124 rfl) (by decide) (by decide) hw195 rfl (hs.2.2 124 0 _ rfl) ?_
  refine hf_iconst (v := 0) dX9_trimmed_20 (by decide) ?_
  refine hf_aload_n dX9_trimmed_21 rfl rfl ?_
  refine hf_getr (b := c0) (c := 9) (j := 0) dX9_trimmed_22 hx.1 hx.2.1 (by decide) (by decide) hw195 rfl hx.2.2.1.1 ?_
  refine hf_iconst (v := 0) dX9_trimmed_25 (by decide) ?_
  refine hf_aload_n dX9_trimmed_26 rfl rfl ?_
  refine hf_geti (c := 9) (j := 6) dX9_trimmed_27 (hs.2.1 124 _ rfl) (hf_lin hs 124 rfl) (by decide) (by decide) hw211 (Or.inl rfl) ?_
  refine hf_copy (kb := 0) dX9_trimmed_30 hw661 hw_cpn hw_cps hw_cpi (hs.2.1 125 _ rfl) hx.2.2.1.2.1 (hf_lin hs 125 rfl) hx.2.2.1.2.2 (by decide) (by decide) (by decide) h.1.2.2.1 h.1.2.2.2.1 h.1.2.2.2.2 (fun q => absurd q (by decide)) (Nat.le_of_ble_eq_true rfl) ?_
  replace h := h.2
  exact h

set_option maxHeartbeats 4000000 in
theorem w_X9_trimmed_33_n {X : hf_X} {d k n t : Nat} {T : hf_T} {I : hf_I} {L : hf_L} {P : hf_P} {Q : Option Value → hf_M → Prop}  (hs : hf_Lay t T P) {tx z m c0 c1 c2 c3 c4 c5 : Nat} (hx : hf_Tx t T P tx z m c0 c1 c2 c3 c4 c5) (h : (True ∧ True ∧ ¬ (I 124 7) < 0 ∧ 0 + (I 124 7).toNatClampNeg ≤ 12 ∧ 0 + (I 124 7).toNatClampNeg ≤ m) ∧ (hf_G X Y_X9_trimmed (d + 1) k n 50 [some (.ref 124), some (.ref tx)] [] (t, T, (hf_cp I 126 c1 0 0 (I 124 7).toNatClampNeg), L, P) Q)) : hf_G X Y_X9_trimmed (d + 1) k n 33 [some (.ref 124), some (.ref tx)] [] (t, T, I, L, P) Q := by
  refine hf_aload_n dX9_trimmed_33 rfl rfl ?_
  refine hf_getr (b := 126) (c := 9) (j := 1) dX9_trimmed_34 (hs.2.1 124 _ rfl) (hf_lin hs 124 rfl) (by decide) (by decide) hw197 rfl (hs.2.2 124 1 _ rfl) ?_
  refine hf_iconst (v := 0) dX9_trimmed_37 (by decide) ?_
  refine hf_aload_n dX9_trimmed_38 rfl rfl ?_
  refine hf_getr (b := c1) (c := 9) (j := 1) dX9_trimmed_39 hx.1 hx.2.1 (by decide) (by decide) hw197 rfl hx.2.2.2.1.1 ?_
  refine hf_iconst (v := 0) dX9_trimmed_42 (by decide) ?_
  refine hf_aload_n dX9_trimmed_43 rfl rfl ?_
  refine hf_geti (c := 9) (j := 7) dX9_trimmed_44 (hs.2.1 124 _ rfl) (hf_lin hs 124 rfl) (by decide) (by decide) hw214 (Or.inl rfl) ?_
  refine hf_copy (kb := 0) dX9_trimmed_47 hw661 hw_cpn hw_cps hw_cpi (hs.2.1 126 _ rfl) hx.2.2.2.1.2.1 (hf_lin hs 126 rfl) hx.2.2.2.1.2.2 (by decide) (by decide) (by decide) h.1.2.2.1 h.1.2.2.2.1 h.1.2.2.2.2 (fun q => absurd q (by decide)) (Nat.le_of_ble_eq_true rfl) ?_
  replace h := h.2
  exact h

set_option maxHeartbeats 4000000 in
theorem w_X9_trimmed_50_n {X : hf_X} {d k n t : Nat} {T : hf_T} {I : hf_I} {L : hf_L} {P : hf_P} {Q : Option Value → hf_M → Prop}  (hs : hf_Lay t T P) {tx z m c0 c1 c2 c3 c4 c5 : Nat} (hx : hf_Tx t T P tx z m c0 c1 c2 c3 c4 c5) (h : (True ∧ True ∧ ¬ (I 124 7) < 0 ∧ 0 + (I 124 7).toNatClampNeg ≤ 12 ∧ 0 + (I 124 7).toNatClampNeg ≤ m) ∧ (hf_G X Y_X9_trimmed (d + 1) k n 67 [some (.ref 124), some (.ref tx)] [] (t, T, (hf_cp I 127 c2 0 0 (I 124 7).toNatClampNeg), L, P) Q)) : hf_G X Y_X9_trimmed (d + 1) k n 50 [some (.ref 124), some (.ref tx)] [] (t, T, I, L, P) Q := by
  refine hf_aload_n dX9_trimmed_50 rfl rfl ?_
  refine hf_getr (b := 127) (c := 9) (j := 2) dX9_trimmed_51 (hs.2.1 124 _ rfl) (hf_lin hs 124 rfl) (by decide) (by decide) hw200 rfl (hs.2.2 124 2 _ rfl) ?_
  refine hf_iconst (v := 0) dX9_trimmed_54 (by decide) ?_
  refine hf_aload_n dX9_trimmed_55 rfl rfl ?_
  refine hf_getr (b := c2) (c := 9) (j := 2) dX9_trimmed_56 hx.1 hx.2.1 (by decide) (by decide) hw200 rfl hx.2.2.2.2.1.1 ?_
  refine hf_iconst (v := 0) dX9_trimmed_59 (by decide) ?_
  refine hf_aload_n dX9_trimmed_60 rfl rfl ?_
  refine hf_geti (c := 9) (j := 7) dX9_trimmed_61 (hs.2.1 124 _ rfl) (hf_lin hs 124 rfl) (by decide) (by decide) hw214 (Or.inl rfl) ?_
  refine hf_copy (kb := 0) dX9_trimmed_64 hw661 hw_cpn hw_cps hw_cpi (hs.2.1 127 _ rfl) hx.2.2.2.2.1.2.1 (hf_lin hs 127 rfl) hx.2.2.2.2.1.2.2 (by decide) (by decide) (by decide) h.1.2.2.1 h.1.2.2.2.1 h.1.2.2.2.2 (fun q => absurd q (by decide)) (Nat.le_of_ble_eq_true rfl) ?_
  replace h := h.2
  exact h

set_option maxHeartbeats 4000000 in
theorem w_X9_trimmed_67_n {X : hf_X} {d k n t : Nat} {T : hf_T} {I : hf_I} {L : hf_L} {P : hf_P} {Q : Option Value → hf_M → Prop}  (hs : hf_Lay t T P) {tx z m c0 c1 c2 c3 c4 c5 : Nat} (hx : hf_Tx t T P tx z m c0 c1 c2 c3 c4 c5) (h : (True ∧ True ∧ ¬ (I 124 7) < 0 ∧ 0 + (I 124 7).toNatClampNeg ≤ 12 ∧ 0 + (I 124 7).toNatClampNeg ≤ m) ∧ (hf_G X Y_X9_trimmed (d + 1) k n 84 [some (.ref 124), some (.ref tx)] [] (t, T, (hf_cp I 128 c3 0 0 (I 124 7).toNatClampNeg), L, P) Q)) : hf_G X Y_X9_trimmed (d + 1) k n 67 [some (.ref 124), some (.ref tx)] [] (t, T, I, L, P) Q := by
  refine hf_aload_n dX9_trimmed_67 rfl rfl ?_
  refine hf_getr (b := 128) (c := 9) (j := 3) dX9_trimmed_68 (hs.2.1 124 _ rfl) (hf_lin hs 124 rfl) (by decide) (by decide) hw203 rfl (hs.2.2 124 3 _ rfl) ?_
  refine hf_iconst (v := 0) dX9_trimmed_71 (by decide) ?_
  refine hf_aload_n dX9_trimmed_72 rfl rfl ?_
  refine hf_getr (b := c3) (c := 9) (j := 3) dX9_trimmed_73 hx.1 hx.2.1 (by decide) (by decide) hw203 rfl hx.2.2.2.2.2.1.1 ?_
  refine hf_iconst (v := 0) dX9_trimmed_76 (by decide) ?_
  refine hf_aload_n dX9_trimmed_77 rfl rfl ?_
  refine hf_geti (c := 9) (j := 7) dX9_trimmed_78 (hs.2.1 124 _ rfl) (hf_lin hs 124 rfl) (by decide) (by decide) hw214 (Or.inl rfl) ?_
  refine hf_copy (kb := 0) dX9_trimmed_81 hw661 hw_cpn hw_cps hw_cpi (hs.2.1 128 _ rfl) hx.2.2.2.2.2.1.2.1 (hf_lin hs 128 rfl) hx.2.2.2.2.2.1.2.2 (by decide) (by decide) (by decide) h.1.2.2.1 h.1.2.2.2.1 h.1.2.2.2.2 (fun q => absurd q (by decide)) (Nat.le_of_ble_eq_true rfl) ?_
  replace h := h.2
  exact h

set_option maxHeartbeats 4000000 in
theorem w_X9_trimmed_84_n {X : hf_X} {d k n t : Nat} {T : hf_T} {I : hf_I} {L : hf_L} {P : hf_P} {Q : Option Value → hf_M → Prop}  (hs : hf_Lay t T P) {tx z m c0 c1 c2 c3 c4 c5 : Nat} (hx : hf_Tx t T P tx z m c0 c1 c2 c3 c4 c5) (h : (True ∧ True ∧ ¬ (I 124 7) < 0 ∧ 0 + (I 124 7).toNatClampNeg ≤ 12 ∧ 0 + (I 124 7).toNatClampNeg ≤ m) ∧ (hf_G X Y_X9_trimmed (d + 1) k n 101 [some (.ref 124), some (.ref tx)] [] (t, T, (hf_cp I 129 c4 0 0 (I 124 7).toNatClampNeg), L, P) Q)) : hf_G X Y_X9_trimmed (d + 1) k n 84 [some (.ref 124), some (.ref tx)] [] (t, T, I, L, P) Q := by
  refine hf_aload_n dX9_trimmed_84 rfl rfl ?_
  refine hf_getr (b := 129) (c := 9) (j := 4) dX9_trimmed_85 (hs.2.1 124 _ rfl) (hf_lin hs 124 rfl) (by decide) (by decide) hw206 rfl (hs.2.2 124 4 _ rfl) ?_
  refine hf_iconst (v := 0) dX9_trimmed_88 (by decide) ?_
  refine hf_aload_n dX9_trimmed_89 rfl rfl ?_
  refine hf_getr (b := c4) (c := 9) (j := 4) dX9_trimmed_90 hx.1 hx.2.1 (by decide) (by decide) hw206 rfl hx.2.2.2.2.2.2.1.1 ?_
  refine hf_iconst (v := 0) dX9_trimmed_93 (by decide) ?_
  refine hf_aload_n dX9_trimmed_94 rfl rfl ?_
  refine hf_geti (c := 9) (j := 7) dX9_trimmed_95 (hs.2.1 124 _ rfl) (hf_lin hs 124 rfl) (by decide) (by decide) hw214 (Or.inl rfl) ?_
  refine hf_copy (kb := 0) dX9_trimmed_98 hw661 hw_cpn hw_cps hw_cpi (hs.2.1 129 _ rfl) hx.2.2.2.2.2.2.1.2.1 (hf_lin hs 129 rfl) hx.2.2.2.2.2.2.1.2.2 (by decide) (by decide) (by decide) h.1.2.2.1 h.1.2.2.2.1 h.1.2.2.2.2 (fun q => absurd q (by decide)) (Nat.le_of_ble_eq_true rfl) ?_
  replace h := h.2
  exact h

set_option maxHeartbeats 4000000 in
theorem w_X9_trimmed_101_n {X : hf_X} {d k n t : Nat} {T : hf_T} {I : hf_I} {L : hf_L} {P : hf_P} {Q : Option Value → hf_M → Prop}  (hs : hf_Lay t T P) {tx z m c0 c1 c2 c3 c4 c5 : Nat} (hx : hf_Tx t T P tx z m c0 c1 c2 c3 c4 c5) (h : (True ∧ True ∧ ¬ (I 124 7) < 0 ∧ 0 + (I 124 7).toNatClampNeg ≤ 12 ∧ 0 + (I 124 7).toNatClampNeg ≤ m) ∧ (hf_G X Y_X9_trimmed (d + 1) k n 118 [some (.ref 124), some (.ref tx)] [] (t, T, (hf_cp I 130 c5 0 0 (I 124 7).toNatClampNeg), L, P) Q)) : hf_G X Y_X9_trimmed (d + 1) k n 101 [some (.ref 124), some (.ref tx)] [] (t, T, I, L, P) Q := by
  refine hf_aload_n dX9_trimmed_101 rfl rfl ?_
  refine hf_getr (b := 130) (c := 9) (j := 5) dX9_trimmed_102 (hs.2.1 124 _ rfl) (hf_lin hs 124 rfl) (by decide) (by decide) hw209 rfl (hs.2.2 124 5 _ rfl) ?_
  refine hf_iconst (v := 0) dX9_trimmed_105 (by decide) ?_
  refine hf_aload_n dX9_trimmed_106 rfl rfl ?_
  refine hf_getr (b := c5) (c := 9) (j := 5) dX9_trimmed_107 hx.1 hx.2.1 (by decide) (by decide) hw209 rfl hx.2.2.2.2.2.2.2.1.1 ?_
  refine hf_iconst (v := 0) dX9_trimmed_110 (by decide) ?_
  refine hf_aload_n dX9_trimmed_111 rfl rfl ?_
  refine hf_geti (c := 9) (j := 7) dX9_trimmed_112 (hs.2.1 124 _ rfl) (hf_lin hs 124 rfl) (by decide) (by decide) hw214 (Or.inl rfl) ?_
  refine hf_copy (kb := 0) dX9_trimmed_115 hw661 hw_cpn hw_cps hw_cpi (hs.2.1 130 _ rfl) hx.2.2.2.2.2.2.2.1.2.1 (hf_lin hs 130 rfl) hx.2.2.2.2.2.2.2.1.2.2 (by decide) (by decide) (by decide) h.1.2.2.1 h.1.2.2.2.1 h.1.2.2.2.2 (fun q => absurd q (by decide)) (Nat.le_of_ble_eq_true rfl) ?_
  replace h := h.2
  exact h

set_option maxHeartbeats 4000000 in
theorem w_X9_trimmed_118_n {X : hf_X} {d k n t : Nat} {T : hf_T} {I : hf_I} {L : hf_L} {P : hf_P} {Q : Option Value → hf_M → Prop}  (hs : hf_Lay t T P) {tx z m c0 c1 c2 c3 c4 c5 : Nat} (hx : hf_Tx t T P tx z m c0 c1 c2 c3 c4 c5) (h : Q (some (.ref tx)) (t, T, (hf_up (hf_up I tx 6 (I 124 6)) tx 7 ((hf_up I tx 6 (I 124 6)) 124 7)), L, P)) : hf_G X Y_X9_trimmed d k n 118 [some (.ref 124), some (.ref tx)] [] (t, T, I, L, P) Q := by
  refine hf_aload_n dX9_trimmed_118 rfl rfl ?_
  refine hf_aload_n dX9_trimmed_119 rfl rfl ?_
  refine hf_geti (c := 9) (j := 6) dX9_trimmed_120 (hs.2.1 124 _ rfl) (hf_lin hs 124 rfl) (by decide) (by decide) hw211 (Or.inl rfl) ?_
  refine hf_puti (c := 9) (j := 6) dX9_trimmed_123 hx.1 hx.2.1 (by decide) (by decide) hw211 rfl rfl ?_
  refine hf_aload_n dX9_trimmed_126 rfl rfl ?_
  refine hf_aload_n dX9_trimmed_127 rfl rfl ?_
  refine hf_geti (c := 9) (j := 7) dX9_trimmed_128 (hs.2.1 124 _ rfl) (hf_lin hs 124 rfl) (by decide) (by decide) hw214 (Or.inl rfl) ?_
  refine hf_puti (c := 9) (j := 7) dX9_trimmed_131 hx.1 hx.2.1 (by decide) (by decide) hw214 rfl rfl ?_
  refine hf_aload_n dX9_trimmed_134 rfl rfl ?_
  refine hf_areturn dX9_trimmed_135 rfl (Or.inl ⟨_, rfl⟩) ?_
  exact h

