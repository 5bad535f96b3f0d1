set_option maxHeartbeats 4000000 in
theorem w_X11_breadth_0 {X : hf_X} {d k n t : Nat} {T : hf_T} {I : hf_I} {L : hf_L} {P : hf_P} {Q : Option Value → hf_M → Prop} {x1 : Int32} {x2 : Int32} (hs : hf_Lay t T P) (h : (x1 < 0 → Q (some (.int (-1))) (t, T, (hf_up (hf_up I 100 15 (-1)) 155 0 ((I 155 0) + 1)), L, P)) ∧ (¬ (x1 < 0) → (26 < x1 → Q (some (.int (-1))) (t, T, (hf_up (hf_up I 100 15 (-1)) 155 0 ((I 155 0) + 1)), L, P)) ∧ (¬ (26 < x1) → (x2 < 1 → Q (some (.int (-1))) (t, T, (hf_up (hf_up I 100 15 (-1)) 155 0 ((I 155 0) + 1)), L, P)) ∧ (¬ (x2 < 1) → (20 < x2 → Q (some (.int (-1))) (t, T, (hf_up (hf_up I 100 15 (-1)) 155 0 ((I 155 0) + 1)), L, P)) ∧ (¬ (20 < x2) → vp_in x1 27 ∧ (vp_in x1 27 ∧ (Q (some (.int (I 102 x1.toNatClampNeg))) (t, T, (hf_up (hf_up (hf_up (hf_up I 102 x1.toNatClampNeg x2) 148 2 0) 100 15 0) 100 16 ((I 100 16) + 1)), L, P)))))))) : hf_G X Y_X11_breadth (d + 2) k n 0 (hf_en [.ref 100, .int x1, .int x2] 4) [] (t, T, I, L, P) Q := by
  show hf_G X Y_X11_breadth (d + 2) k n 0 [some (.ref 100), some (.int x1), some (.int x2), none] [] (t, T, I, L, P) Q
  refine hf_iload_n dX11_breadth_0 rfl rfl ?_
  refine hf_iconst (v := 0) dX11_breadth_1 (by decide) ?_
  refine hf_bipush (v := 26) dX11_breadth_2 (by decide) ?_
  refine hf_callS (as := [.int x1, .int 0, .int 26]) ok_X11_within dX11_breadth_4 hw405 hw406 rfl (Nat.le_of_ble_eq_true rfl) rfl (Nat.le_of_ble_eq_true rfl) (Nat.zero_le _) (Nat.zero_le _) ?_
  show hf_G X Y_X11_within (d + 1) _ _ 0 [some (.int x1), some (.int 0), some (.int 26)] [] (t, T, I, L, P) _
  refine hf_iload_n dX11_within_0 rfl rfl ?_
  refine hf_iload_n dX11_within_1 rfl rfl ?_
  refine hf_icmp_lt (tgt := 14) dX11_within_2 (by decide) (fun hc => ?_) (fun hc => ?_)
  · replace h := h.1 hc
    refine hf_iconst (v := 0) dX11_within_14 (by decide) ?_
    refine hf_ireturn dX11_within_15 rfl (by decide) ?_
    show hf_G X Y_X11_breadth (d + 2) _ _ 7 [some (.ref 100), some (.int x1), some (.int x2), none] [.int 0] (t, T, I, L, P) _
    refine hf_if_eq (tgt := 20) dX11_breadth_7 (by decide) (fun _ => ?_) (fun hc => absurd (show (0 : Int32) = (0 : Int32) by decide) hc)
    refine hf_aload_n dX11_breadth_20 rfl rfl ?_
    refine hf_iconst (v := (-1)) dX11_breadth_21 (by decide) ?_
    refine hf_callV (c := 11) (as := [.int (-1)]) ok_X11_refuse dX11_breadth_22 hw408 hw409 hw1553 (hs.2.1 100 _ rfl) (by decide) (hf_lin hs 100 rfl) rfl (Nat.le_of_ble_eq_true rfl) rfl (Nat.le_of_ble_eq_true rfl) (Nat.zero_le _) (Nat.zero_le _) ?_
    show hf_G X Y_X11_refuse (d + 1) _ _ 0 [some (.ref 100), some (.int (-1))] [] (t, T, I, L, P) _
    refine hf_aload_n dX11_refuse_0 rfl rfl ?_
    refine hf_iload_n dX11_refuse_1 rfl rfl ?_
    refine hf_puti (c := 11) (j := 15) dX11_refuse_2 (hs.2.1 100 _ rfl) (hf_lin hs 100 rfl) (by decide) (by decide) hw381 rfl rfl ?_
    refine hf_aload_n dX11_refuse_5 rfl rfl ?_
    refine hf_getr (b := 155) (c := 11) (j := 12) dX11_refuse_6 (hs.2.1 100 _ rfl) (hf_lin hs 100 rfl) (by decide) (by decide) hw377 rfl (hs.2.2 100 12 _ rfl) ?_
    refine hf_iload_n dX11_refuse_9 rfl rfl ?_
    refine hf_callS (as := [.int (-1)]) ok_X11_refusalPlace dX11_refuse_10 hw411 hw412 rfl (Nat.le_of_ble_eq_true rfl) rfl (Nat.le_of_ble_eq_true rfl) (Nat.zero_le _) (Nat.zero_le _) ?_
    show hf_G X Y_X11_refusalPlace d _ _ 0 [some (.int (-1))] [] (t, T, (hf_up I 100 15 (-1)), L, P) _
    refine hf_iload_n dX11_refusalPlace_0 rfl rfl ?_
    refine hf_tableOut (tgt := 44) dX11_refusalPlace_1 (by decide) (by decide) ?_
    refine hf_iconst (v := 0) dX11_refusalPlace_44 (by decide) ?_
    refine hf_ireturn dX11_refusalPlace_45 rfl rfl ?_
    show hf_G X Y_X11_refuse (d + 1) _ _ 13 [some (.ref 100), some (.int (-1))] [.int 0, .ref 155] (t, T, (hf_up I 100 15 (-1)), L, P) _
    refine hf_dup2 dX11_refuse_13 rfl rfl ?_
    refine hf_iald_k (j := 0) (by decide) dX11_refuse_14 (hs.2.1 155 _ rfl) (hf_lin hs 155 rfl) (hf_vin (by decide)) ?_
    refine hf_iconst (v := 1) dX11_refuse_15 (by decide) ?_
    refine hf_iadd dX11_refuse_16 ?_
    refine hf_iast_k (j := 0) (by decide) dX11_refuse_17 (hs.2.1 155 _ rfl) (hf_lin hs 155 rfl) (hf_vin (by decide)) ?_
    refine hf_iload_n dX11_refuse_18 rfl rfl ?_
    refine hf_ireturn dX11_refuse_19 rfl rfl ?_
    show hf_G X Y_X11_breadth (d + 2) _ _ 25 [some (.ref 100), some (.int x1), some (.int x2), none] [.int (-1)] (t, T, (hf_up (hf_up I 100 15 (-1)) 155 0 ((I 155 0) + 1)), L, P) _
    refine hf_ireturn dX11_breadth_25 rfl rfl ?_
    exact h
  · replace h := h.2 hc
    refine hf_iload_n dX11_within_5 rfl rfl ?_
    refine hf_iload_n dX11_within_6 rfl rfl ?_
    refine hf_icmp_gt (tgt := 14) dX11_within_7 (by decide) (fun hc => ?_) (fun hc => ?_)
    · replace h := h.1 hc
      refine hf_iconst (v := 0) dX11_within_14 (by decide) ?_
      refine hf_ireturn dX11_within_15 rfl (by decide) ?_
      show hf_G X Y_X11_breadth (d + 2) _ _ 7 [some (.ref 100), some (.int x1), some (.int x2), none] [.int 0] (t, T, I, L, P) _
      refine hf_if_eq (tgt := 20) dX11_breadth_7 (by decide) (fun _ => ?_) (fun hc => absurd (show (0 : Int32) = (0 : Int32) by decide) hc)
      refine hf_aload_n dX11_breadth_20 rfl rfl ?_
      refine hf_iconst (v := (-1)) dX11_breadth_21 (by decide) ?_
      refine hf_callV (c := 11) (as := [.int (-1)]) ok_X11_refuse dX11_breadth_22 hw408 hw409 hw1553 (hs.2.1 100 _ rfl) (by decide) (hf_lin hs 100 rfl) rfl (Nat.le_of_ble_eq_true rfl) rfl (Nat.le_of_ble_eq_true rfl) (Nat.zero_le _) (Nat.zero_le _) ?_
      show hf_G X Y_X11_refuse (d + 1) _ _ 0 [some (.ref 100), some (.int (-1))] [] (t, T, I, L, P) _
      refine hf_aload_n dX11_refuse_0 rfl rfl ?_
      refine hf_iload_n dX11_refuse_1 rfl rfl ?_
      refine hf_puti (c := 11) (j := 15) dX11_refuse_2 (hs.2.1 100 _ rfl) (hf_lin hs 100 rfl) (by decide) (by decide) hw381 rfl rfl ?_
      refine hf_aload_n dX11_refuse_5 rfl rfl ?_
      refine hf_getr (b := 155) (c := 11) (j := 12) dX11_refuse_6 (hs.2.1 100 _ rfl) (hf_lin hs 100 rfl) (by decide) (by decide) hw377 rfl (hs.2.2 100 12 _ rfl) ?_
      refine hf_iload_n dX11_refuse_9 rfl rfl ?_
      refine hf_callS (as := [.int (-1)]) ok_X11_refusalPlace dX11_refuse_10 hw411 hw412 rfl (Nat.le_of_ble_eq_true rfl) rfl (Nat.le_of_ble_eq_true rfl) (Nat.zero_le _) (Nat.zero_le _) ?_
      show hf_G X Y_X11_refusalPlace d _ _ 0 [some (.int (-1))] [] (t, T, (hf_up I 100 15 (-1)), L, P) _
      refine hf_iload_n dX11_refusalPlace_0 rfl rfl ?_
      refine hf_tableOut (tgt := 44) dX11_refusalPlace_1 (by decide) (by decide) ?_
      refine hf_iconst (v := 0) dX11_refusalPlace_44 (by decide) ?_
      refine hf_ireturn dX11_refusalPlace_45 rfl rfl ?_
      show hf_G X Y_X11_refuse (d + 1) _ _ 13 [some (.ref 100), some (.int (-1))] [.int 0, .ref 155] (t, T, (hf_up I 100 15 (-1)), L, P) _
      refine hf_dup2 dX11_refuse_13 rfl rfl ?_
      refine hf_iald_k (j := 0) (by decide) dX11_refuse_14 (hs.2.1 155 _ rfl) (hf_lin hs 155 rfl) (hf_vin (by decide)) ?_
      refine hf_iconst (v := 1) dX11_refuse_15 (by decide) ?_
      refine hf_iadd dX11_refuse_16 ?_
      refine hf_iast_k (j := 0) (by decide) dX11_refuse_17 (hs.2.1 155 _ rfl) (hf_lin hs 155 rfl) (hf_vin (by decide)) ?_
      refine hf_iload_n dX11_refuse_18 rfl rfl ?_
      refine hf_ireturn dX11_refuse_19 rfl rfl ?_
      show hf_G X Y_X11_breadth (d + 2) _ _ 25 [some (.ref 100), some (.int x1), some (.int x2), none] [.int (-1)] (t, T, (hf_up (hf_up I 100 15 (-1)) 155 0 ((I 155 0) + 1)), L, P) _
      refine hf_ireturn dX11_breadth_25 rfl rfl ?_
      exact h
    · replace h := h.2 hc
      refine hf_iconst (v := 1) dX11_within_10 (by decide) ?_
      refine hf_goto (tgt := 15) dX11_within_11 (by decide) ?_
      refine hf_ireturn dX11_within_15 rfl (by decide) ?_
      show hf_G X Y_X11_breadth (d + 2) _ _ 7 [some (.ref 100), some (.int x1), some (.int x2), none] [.int 1] (t, T, I, L, P) _
      refine hf_if_eq (tgt := 20) dX11_breadth_7 (by decide) (fun hc => absurd (show (1 : Int32) = (0 : Int32) from hc) (by decide)) (fun _ => ?_)
      refine hf_iload_n dX11_breadth_10 rfl rfl ?_
      refine hf_iconst (v := 1) dX11_breadth_11 (by decide) ?_
      refine hf_bipush (v := 20) dX11_breadth_12 (by decide) ?_
      refine hf_callS (as := [.int x2, .int 1, .int 20]) ok_X11_within dX11_breadth_14 hw405 hw406 rfl (Nat.le_of_ble_eq_true rfl) rfl (Nat.le_of_ble_eq_true rfl) (Nat.zero_le _) (Nat.zero_le _) ?_
      show hf_G X Y_X11_within (d + 1) _ _ 0 [some (.int x2), some (.int 1), some (.int 20)] [] (t, T, I, L, P) _
      refine hf_iload_n dX11_within_0 rfl rfl ?_
      refine hf_iload_n dX11_within_1 rfl rfl ?_
      refine hf_icmp_lt (tgt := 14) dX11_within_2 (by decide) (fun hc => ?_) (fun hc => ?_)
      · replace h := h.1 hc
        refine hf_iconst (v := 0) dX11_within_14 (by decide) ?_
        refine hf_ireturn dX11_within_15 rfl (by decide) ?_
        show hf_G X Y_X11_breadth (d + 2) _ _ 17 [some (.ref 100), some (.int x1), some (.int x2), none] [.int 0] (t, T, I, L, P) _
        refine hf_if_ne (tgt := 26) dX11_breadth_17 (by decide) (fun hc => absurd (show ¬ (0 : Int32) = (0 : Int32) from hc) (by decide)) (fun _ => ?_)
        refine hf_aload_n dX11_breadth_20 rfl rfl ?_
        refine hf_iconst (v := (-1)) dX11_breadth_21 (by decide) ?_
        refine hf_callV (c := 11) (as := [.int (-1)]) ok_X11_refuse dX11_breadth_22 hw408 hw409 hw1553 (hs.2.1 100 _ rfl) (by decide) (hf_lin hs 100 rfl) rfl (Nat.le_of_ble_eq_true rfl) rfl (Nat.le_of_ble_eq_true rfl) (Nat.zero_le _) (Nat.zero_le _) ?_
        show hf_G X Y_X11_refuse (d + 1) _ _ 0 [some (.ref 100), some (.int (-1))] [] (t, T, I, L, P) _
        refine hf_aload_n dX11_refuse_0 rfl rfl ?_
        refine hf_iload_n dX11_refuse_1 rfl rfl ?_
        refine hf_puti (c := 11) (j := 15) dX11_refuse_2 (hs.2.1 100 _ rfl) (hf_lin hs 100 rfl) (by decide) (by decide) hw381 rfl rfl ?_
        refine hf_aload_n dX11_refuse_5 rfl rfl ?_
        refine hf_getr (b := 155) (c := 11) (j := 12) dX11_refuse_6 (hs.2.1 100 _ rfl) (hf_lin hs 100 rfl) (by decide) (by decide) hw377 rfl (hs.2.2 100 12 _ rfl) ?_
        refine hf_iload_n dX11_refuse_9 rfl rfl ?_
        refine hf_callS (as := [.int (-1)]) ok_X11_refusalPlace dX11_refuse_10 hw411 hw412 rfl (Nat.le_of_ble_eq_true rfl) rfl (Nat.le_of_ble_eq_true rfl) (Nat.zero_le _) (Nat.zero_le _) ?_
        show hf_G X Y_X11_refusalPlace d _ _ 0 [some (.int (-1))] [] (t, T, (hf_up I 100 15 (-1)), L, P) _
        refine hf_iload_n dX11_refusalPlace_0 rfl rfl ?_
        refine hf_tableOut (tgt := 44) dX11_refusalPlace_1 (by decide) (by decide) ?_
        refine hf_iconst (v := 0) dX11_refusalPlace_44 (by decide) ?_
        refine hf_ireturn dX11_refusalPlace_45 rfl rfl ?_
        show hf_G X Y_X11_refuse (d + 1) _ _ 13 [some (.ref 100), some (.int (-1))] [.int 0, .ref 155] (t, T, (hf_up I 100 15 (-1)), L, P) _
        refine hf_dup2 dX11_refuse_13 rfl rfl ?_
        refine hf_iald_k (j := 0) (by decide) dX11_refuse_14 (hs.2.1 155 _ rfl) (hf_lin hs 155 rfl) (hf_vin (by decide)) ?_
        refine hf_iconst (v := 1) dX11_refuse_15 (by decide) ?_
        refine hf_iadd dX11_refuse_16 ?_
        refine hf_iast_k (j := 0) (by decide) dX11_refuse_17 (hs.2.1 155 _ rfl) (hf_lin hs 155 rfl) (hf_vin (by decide)) ?_
        refine hf_iload_n dX11_refuse_18 rfl rfl ?_
        refine hf_ireturn dX11_refuse_19 rfl rfl ?_
        show hf_G X Y_X11_breadth (d + 2) _ _ 25 [some (.ref 100), some (.int x1), some (.int x2), none] [.int (-1)] (t, T, (hf_up (hf_up I 100 15 (-1)) 155 0 ((I 155 0) + 1)), L, P) _
        refine hf_ireturn dX11_breadth_25 rfl rfl ?_
        exact h
      · replace h := h.2 hc
        refine hf_iload_n dX11_within_5 rfl rfl ?_
        refine hf_iload_n dX11_within_6 rfl rfl ?_
        refine hf_icmp_gt (tgt := 14) dX11_within_7 (by decide) (fun hc => ?_) (fun hc => ?_)
        · replace h := h.1 hc
          refine hf_iconst (v := 0) dX11_within_14 (by decide) ?_
          refine hf_ireturn dX11_within_15 rfl (by decide) ?_
          show hf_G X Y_X11_breadth (d + 2) _ _ 17 [some (.ref 100), some (.int x1), some (.int x2), none] [.int 0] (t, T, I, L, P) _
          refine hf_if_ne (tgt := 26) dX11_breadth_17 (by decide) (fun hc => absurd (show ¬ (0 : Int32) = (0 : Int32) from hc) (by decide)) (fun _ => ?_)
          refine hf_aload_n dX11_breadth_20 rfl rfl ?_
          refine hf_iconst (v := (-1)) dX11_breadth_21 (by decide) ?_
          refine hf_callV (c := 11) (as := [.int (-1)]) ok_X11_refuse dX11_breadth_22 hw408 hw409 hw1553 (hs.2.1 100 _ rfl) (by decide) (hf_lin hs 100 rfl) rfl (Nat.le_of_ble_eq_true rfl) rfl (Nat.le_of_ble_eq_true rfl) (Nat.zero_le _) (Nat.zero_le _) ?_
          show hf_G X Y_X11_refuse (d + 1) _ _ 0 [some (.ref 100), some (.int (-1))] [] (t, T, I, L, P) _
          refine hf_aload_n dX11_refuse_0 rfl rfl ?_
          refine hf_iload_n dX11_refuse_1 rfl rfl ?_
          refine hf_puti (c := 11) (j := 15) dX11_refuse_2 (hs.2.1 100 _ rfl) (hf_lin hs 100 rfl) (by decide) (by decide) hw381 rfl rfl ?_
          refine hf_aload_n dX11_refuse_5 rfl rfl ?_
          refine hf_getr (b := 155) (c := 11) (j := 12) dX11_refuse_6 (hs.2.1 100 _ rfl) (hf_lin hs 100 rfl) (by decide) (by decide) hw377 rfl (hs.2.2 100 12 _ rfl) ?_
          refine hf_iload_n dX11_refuse_9 rfl rfl ?_
          refine hf_callS (as := [.int (-1)]) ok_X11_refusalPlace dX11_refuse_10 hw411 hw412 rfl (Nat.le_of_ble_eq_true rfl) rfl (Nat.le_of_ble_eq_true rfl) (Nat.zero_le _) (Nat.zero_le _) ?_
          show hf_G X Y_X11_refusalPlace d _ _ 0 [some (.int (-1))] [] (t, T, (hf_up I 100 15 (-1)), L, P) _
          refine hf_iload_n dX11_refusalPlace_0 rfl rfl ?_
          refine hf_tableOut (tgt := 44) dX11_refusalPlace_1 (by decide) (by decide) ?_
          refine hf_iconst (v := 0) dX11_refusalPlace_44 (by decide) ?_
          refine hf_ireturn dX11_refusalPlace_45 rfl rfl ?_
          show hf_G X Y_X11_refuse (d + 1) _ _ 13 [some (.ref 100), some (.int (-1))] [.int 0, .ref 155] (t, T, (hf_up I 100 15 (-1)), L, P) _
          refine hf_dup2 dX11_refuse_13 rfl rfl ?_
          refine hf_iald_k (j := 0) (by decide) dX11_refuse_14 (hs.2.1 155 _ rfl) (hf_lin hs 155 rfl) (hf_vin (by decide)) ?_
          refine hf_iconst (v := 1) dX11_refuse_15 (by decide) ?_
          refine hf_iadd dX11_refuse_16 ?_
          refine hf_iast_k (j := 0) (by decide) dX11_refuse_17 (hs.2.1 155 _ rfl) (hf_lin hs 155 rfl) (hf_vin (by decide)) ?_
          refine hf_iload_n dX11_refuse_18 rfl rfl ?_
          refine hf_ireturn dX11_refuse_19 rfl rfl ?_
          show hf_G X Y_X11_breadth (d + 2) _ _ 25 [some (.ref 100), some (.int x1), some (.int x2), none] [.int (-1)] (t, T, (hf_up (hf_up I 100 15 (-1)) 155 0 ((I 155 0) + 1)), L, P) _
          refine hf_ireturn dX11_breadth_25 rfl rfl ?_
          exact h
        · replace h := h.2 hc
          refine hf_iconst (v := 1) dX11_within_10 (by decide) ?_
          refine hf_goto (tgt := 15) dX11_within_11 (by decide) ?_
          refine hf_ireturn dX11_within_15 rfl (by decide) ?_
          show hf_G X Y_X11_breadth (d + 2) _ _ 17 [some (.ref 100), some (.int x1), some (.int x2), none] [.int 1] (t, T, I, L, P) _
          refine hf_if_ne (tgt := 26) dX11_breadth_17 (by decide) (fun _ => ?_) (fun hc => absurd (show (1 : Int32) = (0 : Int32) from hc) (by decide))
          refine hf_aload_n dX11_breadth_26 rfl rfl ?_
          refine hf_getr (b := 101) (c := 11) (j := 0) dX11_breadth_27 (hs.2.1 100 _ rfl) (hf_lin hs 100 rfl) (by decide) (by decide) hw365 rfl (hs.2.2 100 0 _ rfl) ?_
          refine hf_getr (b := 102) (c := 1) (j := 0) dX11_breadth_30 (hs.2.1 101 _ rfl) (hf_lin hs 101 rfl) (by decide) (by decide) hw100 rfl (hs.2.2 101 0 _ rfl) ?_
          refine hf_iload_n dX11_breadth_33 rfl rfl ?_
          refine hf_iald dX11_breadth_34 (hs.2.1 102 _ rfl) (hf_lin hs 102 rfl) h.1 ?_
          replace h := h.2
          refine hf_istore_n (l2 := [some (.ref 100), some (.int x1), some (.int x2), some (.int (I 102 x1.toNatClampNeg))]) dX11_breadth_35 rfl (by decide) rfl ?_
          refine hf_aload_n dX11_breadth_36 rfl rfl ?_
          refine hf_getr (b := 101) (c := 11) (j := 0) dX11_breadth_37 (hs.2.1 100 _ rfl) (hf_lin hs 100 rfl) (by decide) (by decide) hw365 rfl (hs.2.2 100 0 _ rfl) ?_
          refine hf_getr (b := 102) (c := 1) (j := 0) dX11_breadth_40 (hs.2.1 101 _ rfl) (hf_lin hs 101 rfl) (by decide) (by decide) hw100 rfl (hs.2.2 101 0 _ rfl) ?_
          refine hf_iload_n dX11_breadth_43 rfl rfl ?_
          refine hf_iload_n dX11_breadth_44 rfl rfl ?_
          refine hf_iast dX11_breadth_45 (hs.2.1 102 _ rfl) (hf_lin hs 102 rfl) h.1 ?_
          replace h := h.2
          refine hf_aload_n dX11_breadth_46 rfl rfl ?_
          refine hf_getr (b := 148) (c := 11) (j := 9) dX11_breadth_47 (hs.2.1 100 _ rfl) (hf_lin hs 100 rfl) (by decide) (by decide) hw374 rfl (hs.2.2 100 9 _ rfl) ?_
          refine hf_callV (c := 6) (as := []) ok_X6_empty dX11_breadth_50 hw414 hw415 hw416 (hs.2.1 148 _ rfl) (by decide) (hf_lin hs 148 rfl) rfl (Nat.le_of_ble_eq_true rfl) rfl (Nat.le_of_ble_eq_true rfl) (Nat.zero_le _) (Nat.zero_le _) ?_
          show hf_G X Y_X6_empty (d + 1) _ _ 0 [some (.ref 148)] [] (t, T, (hf_up I 102 x1.toNatClampNeg x2), L, P) _
          refine hf_aload_n dX6_empty_0 rfl rfl ?_
          refine hf_iconst (v := 0) dX6_empty_1 (by decide) ?_
          refine hf_puti (c := 6) (j := 2) dX6_empty_2 (hs.2.1 148 _ rfl) (hf_lin hs 148 rfl) (by decide) (by decide) hw359 rfl rfl ?_
          refine hf_return dX6_empty_5 rfl ?_
          show hf_G X Y_X11_breadth (d + 2) _ _ 53 [some (.ref 100), some (.int x1), some (.int x2), some (.int (I 102 x1.toNatClampNeg))] [] (t, T, (hf_up (hf_up I 102 x1.toNatClampNeg x2) 148 2 0), L, P) _
          refine hf_aload_n dX11_breadth_53 rfl rfl ?_
          refine hf_iload_n dX11_breadth_54 rfl rfl ?_
          refine hf_callV (c := 11) (as := [.int (I 102 x1.toNatClampNeg)]) ok_X11_granted dX11_breadth_55 hw418 hw419 hw1554 (hs.2.1 100 _ rfl) (by decide) (hf_lin hs 100 rfl) rfl (Nat.le_of_ble_eq_true rfl) rfl (Nat.le_of_ble_eq_true rfl) (Nat.zero_le _) (Nat.zero_le _) ?_
          show hf_G X Y_X11_granted (d + 1) _ _ 0 [some (.ref 100), some (.int (I 102 x1.toNatClampNeg))] [] (t, T, (hf_up (hf_up I 102 x1.toNatClampNeg x2) 148 2 0), L, P) _
          refine hf_aload_n dX11_granted_0 rfl rfl ?_
          refine hf_iconst (v := 0) dX11_granted_1 (by decide) ?_
          refine hf_puti (c := 11) (j := 15) dX11_granted_2 (hs.2.1 100 _ rfl) (hf_lin hs 100 rfl) (by decide) (by decide) hw381 rfl rfl ?_
          refine hf_aload_n dX11_granted_5 rfl rfl ?_
          refine hf_dup dX11_granted_6 rfl ?_
          refine hf_geti (c := 11) (j := 16) dX11_granted_7 (hs.2.1 100 _ rfl) (hf_lin hs 100 rfl) (by decide) (by decide) hw382 (Or.inl rfl) ?_
          refine hf_iconst (v := 1) dX11_granted_10 (by decide) ?_
          refine hf_iadd dX11_granted_11 ?_
          refine hf_puti (c := 11) (j := 16) dX11_granted_12 (hs.2.1 100 _ rfl) (hf_lin hs 100 rfl) (by decide) (by decide) hw382 rfl rfl ?_
          refine hf_iload_n dX11_granted_15 rfl rfl ?_
          refine hf_ireturn dX11_granted_16 rfl rfl ?_
          show hf_G X Y_X11_breadth (d + 2) _ _ 58 [some (.ref 100), some (.int x1), some (.int x2), some (.int (I 102 x1.toNatClampNeg))] [.int (I 102 x1.toNatClampNeg)] (t, T, (hf_up (hf_up (hf_up (hf_up I 102 x1.toNatClampNeg x2) 148 2 0) 100 15 0) 100 16 ((I 100 16) + 1)), L, P) _
          refine hf_ireturn dX11_breadth_58 rfl rfl ?_
          exact h

set_option maxHeartbeats 4000000 in
theorem w_X11_column_0 {X : hf_X} {d k n t : Nat} {T : hf_T} {I : hf_I} {L : hf_L} {P : hf_P} {Q : Option Value → hf_M → Prop} {x1 : Int32} {x2 : Int32} (hs : hf_Lay t T P) (h : (x1 < 10 → Q (some (.int (-1))) (t, T, (hf_up (hf_up I 100 15 (-1)) 155 0 ((I 155 0) + 1)), L, P)) ∧ (¬ (x1 < 10) → (400 < x1 → Q (some (.int (-1))) (t, T, (hf_up (hf_up I 100 15 (-1)) 155 0 ((I 155 0) + 1)), L, P)) ∧ (¬ (400 < x1) → (x2 < 1 → Q (some (.int (-1))) (t, T, (hf_up (hf_up I 100 15 (-1)) 155 0 ((I 155 0) + 1)), L, P)) ∧ (¬ (x2 < 1) → (4 < x2 → Q (some (.int (-1))) (t, T, (hf_up (hf_up I 100 15 (-1)) 155 0 ((I 155 0) + 1)), L, P)) ∧ (¬ (4 < x2) → ((I 114 2) ≤ 0 → Q (some (.int 0)) (t, T, (hf_up (hf_up (hf_up (hf_up (hf_up I 101 12 x1) 101 13 x2) 148 2 0) 100 15 0) 100 16 ((I 100 16) + 1)), L, P)) ∧ (¬ ((I 114 2) ≤ 0) → Q (some (.int (-3))) (t, T, (hf_up (hf_up I 100 15 (-3)) 155 2 ((I 155 2) + 1)), L, P))))))) : hf_G X Y_X11_column (d + 2) k n 0 (hf_en [.ref 100, .int x1, .int x2] 3) [] (t, T, I, L, P) Q := by
  show hf_G X Y_X11_column (d + 2) k n 0 [some (.ref 100), some (.int x1), some (.int x2)] [] (t, T, I, L, P) Q
  refine hf_iload_n dX11_column_0 rfl rfl ?_
  refine hf_bipush (v := 10) dX11_column_1 (by decide) ?_
  refine hf_sipush (v := 400) dX11_column_3 (by decide) ?_
  refine hf_callS (as := [.int x1, .int 10, .int 400]) ok_X11_within dX11_column_6 hw405 hw406 rfl (Nat.le_of_ble_eq_true rfl) rfl (Nat.le_of_ble_eq_true rfl) (Nat.zero_le _) (Nat.zero_le _) ?_
  show hf_G X Y_X11_within (d + 1) _ _ 0 [some (.int x1), some (.int 10), some (.int 400)] [] (t, T, I, L, P) _
  refine hf_iload_n dX11_within_0 rfl rfl ?_
  refine hf_iload_n dX11_within_1 rfl rfl ?_
  refine hf_icmp_lt (tgt := 14) dX11_within_2 (by decide) (fun hc => ?_) (fun hc => ?_)
  · replace h := h.1 hc
    refine hf_iconst (v := 0) dX11_within_14 (by decide) ?_
    refine hf_ireturn dX11_within_15 rfl (by decide) ?_
    show hf_G X Y_X11_column (d + 2) _ _ 9 [some (.ref 100), some (.int x1), some (.int x2)] [.int 0] (t, T, I, L, P) _
    refine hf_if_eq (tgt := 21) dX11_column_9 (by decide) (fun _ => ?_) (fun hc => absurd (show (0 : Int32) = (0 : Int32) by decide) hc)
    refine hf_aload_n dX11_column_21 rfl rfl ?_
    refine hf_iconst (v := (-1)) dX11_column_22 (by decide) ?_
    refine hf_callV (c := 11) (as := [.int (-1)]) ok_X11_refuse dX11_column_23 hw408 hw409 hw1553 (hs.2.1 100 _ rfl) (by decide) (hf_lin hs 100 rfl) rfl (Nat.le_of_ble_eq_true rfl) rfl (Nat.le_of_ble_eq_true rfl) (Nat.zero_le _) (Nat.zero_le _) ?_
    show hf_G X Y_X11_refuse (d + 1) _ _ 0 [some (.ref 100), some (.int (-1))] [] (t, T, I, L, P) _
    refine hf_aload_n dX11_refuse_0 rfl rfl ?_
    refine hf_iload_n dX11_refuse_1 rfl rfl ?_
    refine hf_puti (c := 11) (j := 15) dX11_refuse_2 (hs.2.1 100 _ rfl) (hf_lin hs 100 rfl) (by decide) (by decide) hw381 rfl rfl ?_
    refine hf_aload_n dX11_refuse_5 rfl rfl ?_
    refine hf_getr (b := 155) (c := 11) (j := 12) dX11_refuse_6 (hs.2.1 100 _ rfl) (hf_lin hs 100 rfl) (by decide) (by decide) hw377 rfl (hs.2.2 100 12 _ rfl) ?_
    refine hf_iload_n dX11_refuse_9 rfl rfl ?_
    refine hf_callS (as := [.int (-1)]) ok_X11_refusalPlace dX11_refuse_10 hw411 hw412 rfl (Nat.le_of_ble_eq_true rfl) rfl (Nat.le_of_ble_eq_true rfl) (Nat.zero_le _) (Nat.zero_le _) ?_
    show hf_G X Y_X11_refusalPlace d _ _ 0 [some (.int (-1))] [] (t, T, (hf_up I 100 15 (-1)), L, P) _
    refine hf_iload_n dX11_refusalPlace_0 rfl rfl ?_
    refine hf_tableOut (tgt := 44) dX11_refusalPlace_1 (by decide) (by decide) ?_
    refine hf_iconst (v := 0) dX11_refusalPlace_44 (by decide) ?_
    refine hf_ireturn dX11_refusalPlace_45 rfl rfl ?_
    show hf_G X Y_X11_refuse (d + 1) _ _ 13 [some (.ref 100), some (.int (-1))] [.int 0, .ref 155] (t, T, (hf_up I 100 15 (-1)), L, P) _
    refine hf_dup2 dX11_refuse_13 rfl rfl ?_
    refine hf_iald_k (j := 0) (by decide) dX11_refuse_14 (hs.2.1 155 _ rfl) (hf_lin hs 155 rfl) (hf_vin (by decide)) ?_
    refine hf_iconst (v := 1) dX11_refuse_15 (by decide) ?_
    refine hf_iadd dX11_refuse_16 ?_
    refine hf_iast_k (j := 0) (by decide) dX11_refuse_17 (hs.2.1 155 _ rfl) (hf_lin hs 155 rfl) (hf_vin (by decide)) ?_
    refine hf_iload_n dX11_refuse_18 rfl rfl ?_
    refine hf_ireturn dX11_refuse_19 rfl rfl ?_
    show hf_G X Y_X11_column (d + 2) _ _ 26 [some (.ref 100), some (.int x1), some (.int x2)] [.int (-1)] (t, T, (hf_up (hf_up I 100 15 (-1)) 155 0 ((I 155 0) + 1)), L, P) _
    refine hf_ireturn dX11_column_26 rfl rfl ?_
    exact h
  · replace h := h.2 hc
    refine hf_iload_n dX11_within_5 rfl rfl ?_
    refine hf_iload_n dX11_within_6 rfl rfl ?_
    refine hf_icmp_gt (tgt := 14) dX11_within_7 (by decide) (fun hc => ?_) (fun hc => ?_)
    · replace h := h.1 hc
      refine hf_iconst (v := 0) dX11_within_14 (by decide) ?_
      refine hf_ireturn dX11_within_15 rfl (by decide) ?_
      show hf_G X Y_X11_column (d + 2) _ _ 9 [some (.ref 100), some (.int x1), some (.int x2)] [.int 0] (t, T, I, L, P) _
      refine hf_if_eq (tgt := 21) dX11_column_9 (by decide) (fun _ => ?_) (fun hc => absurd (show (0 : Int32) = (0 : Int32) by decide) hc)
      refine hf_aload_n dX11_column_21 rfl rfl ?_
      refine hf_iconst (v := (-1)) dX11_column_22 (by decide) ?_
      refine hf_callV (c := 11) (as := [.int (-1)]) ok_X11_refuse dX11_column_23 hw408 hw409 hw1553 (hs.2.1 100 _ rfl) (by decide) (hf_lin hs 100 rfl) rfl (Nat.le_of_ble_eq_true rfl) rfl (Nat.le_of_ble_eq_true rfl) (Nat.zero_le _) (Nat.zero_le _) ?_
      show hf_G X Y_X11_refuse (d + 1) _ _ 0 [some (.ref 100), some (.int (-1))] [] (t, T, I, L, P) _
      refine hf_aload_n dX11_refuse_0 rfl rfl ?_
      refine hf_iload_n dX11_refuse_1 rfl rfl ?_
      refine hf_puti (c := 11) (j := 15) dX11_refuse_2 (hs.2.1 100 _ rfl) (hf_lin hs 100 rfl) (by decide) (by decide) hw381 rfl rfl ?_
      refine hf_aload_n dX11_refuse_5 rfl rfl ?_
      refine hf_getr (b := 155) (c := 11) (j := 12) dX11_refuse_6 (hs.2.1 100 _ rfl) (hf_lin hs 100 rfl) (by decide) (by decide) hw377 rfl (hs.2.2 100 12 _ rfl) ?_
      refine hf_iload_n dX11_refuse_9 rfl rfl ?_
      refine hf_callS (as := [.int (-1)]) ok_X11_refusalPlace dX11_refuse_10 hw411 hw412 rfl (Nat.le_of_ble_eq_true rfl) rfl (Nat.le_of_ble_eq_true rfl) (Nat.zero_le _) (Nat.zero_le _) ?_
      show hf_G X Y_X11_refusalPlace d _ _ 0 [some (.int (-1))] [] (t, T, (hf_up I 100 15 (-1)), L, P) _
      refine hf_iload_n dX11_refusalPlace_0 rfl rfl ?_
      refine hf_tableOut (tgt := 44) dX11_refusalPlace_1 (by decide) (by decide) ?_
      refine hf_iconst (v := 0) dX11_refusalPlace_44 (by decide) ?_
      refine hf_ireturn dX11_refusalPlace_45 rfl rfl ?_
      show hf_G X Y_X11_refuse (d + 1) _ _ 13 [some (.ref 100), some (.int (-1))] [.int 0, .ref 155] (t, T, (hf_up I 100 15 (-1)), L, P) _
      refine hf_dup2 dX11_refuse_13 rfl rfl ?_
      refine hf_iald_k (j := 0) (by decide) dX11_refuse_14 (hs.2.1 155 _ rfl) (hf_lin hs 155 rfl) (hf_vin (by decide)) ?_
      refine hf_iconst (v := 1) dX11_refuse_15 (by decide) ?_
      refine hf_iadd dX11_refuse_16 ?_
      refine hf_iast_k (j := 0) (by decide) dX11_refuse_17 (hs.2.1 155 _ rfl) (hf_lin hs 155 rfl) (hf_vin (by decide)) ?_
      refine hf_iload_n dX11_refuse_18 rfl rfl ?_
      refine hf_ireturn dX11_refuse_19 rfl rfl ?_
      show hf_G X Y_X11_column (d + 2) _ _ 26 [some (.ref 100), some (.int x1), some (.int x2)] [.int (-1)] (t, T, (hf_up (hf_up I 100 15 (-1)) 155 0 ((I 155 0) + 1)), L, P) _
      refine hf_ireturn dX11_column_26 rfl rfl ?_
      exact h
    · replace h := h.2 hc
      refine hf_iconst (v := 1) dX11_within_10 (by decide) ?_
      refine hf_goto (tgt := 15) dX11_within_11 (by decide) ?_
      refine hf_ireturn dX11_within_15 rfl (by decide) ?_
      show hf_G X Y_X11_column (d + 2) _ _ 9 [some (.ref 100), some (.int x1), some (.int x2)] [.int 1] (t, T, I, L, P) _
      refine hf_if_eq (tgt := 21) dX11_column_9 (by decide) (fun hc => absurd (show (1 : Int32) = (0 : Int32) from hc) (by decide)) (fun _ => ?_)
      refine hf_iload_n dX11_column_12 rfl rfl ?_
      refine hf_iconst (v := 1) dX11_column_13 (by decide) ?_
      refine hf_iconst (v := 4) dX11_column_14 (by decide) ?_
      refine hf_callS (as := [.int x2, .int 1, .int 4]) ok_X11_within dX11_column_15 hw405 hw406 rfl (Nat.le_of_ble_eq_true rfl) rfl (Nat.le_of_ble_eq_true rfl) (Nat.zero_le _) (Nat.zero_le _) ?_
      show hf_G X Y_X11_within (d + 1) _ _ 0 [some (.int x2), some (.int 1), some (.int 4)] [] (t, T, I, L, P) _
      refine hf_iload_n dX11_within_0 rfl rfl ?_
      refine hf_iload_n dX11_within_1 rfl rfl ?_
      refine hf_icmp_lt (tgt := 14) dX11_within_2 (by decide) (fun hc => ?_) (fun hc => ?_)
      · replace h := h.1 hc
        refine hf_iconst (v := 0) dX11_within_14 (by decide) ?_
        refine hf_ireturn dX11_within_15 rfl (by decide) ?_
        show hf_G X Y_X11_column (d + 2) _ _ 18 [some (.ref 100), some (.int x1), some (.int x2)] [.int 0] (t, T, I, L, P) _
        refine hf_if_ne (tgt := 27) dX11_column_18 (by decide) (fun hc => absurd (show ¬ (0 : Int32) = (0 : Int32) from hc) (by decide)) (fun _ => ?_)
        refine hf_aload_n dX11_column_21 rfl rfl ?_
        refine hf_iconst (v := (-1)) dX11_column_22 (by decide) ?_
        refine hf_callV (c := 11) (as := [.int (-1)]) ok_X11_refuse dX11_column_23 hw408 hw409 hw1553 (hs.2.1 100 _ rfl) (by decide) (hf_lin hs 100 rfl) rfl (Nat.le_of_ble_eq_true rfl) rfl (Nat.le_of_ble_eq_true rfl) (Nat.zero_le _) (Nat.zero_le _) ?_
        show hf_G X Y_X11_refuse (d + 1) _ _ 0 [some (.ref 100), some (.int (-1))] [] (t, T, I, L, P) _
        refine hf_aload_n dX11_refuse_0 rfl rfl ?_
        refine hf_iload_n dX11_refuse_1 rfl rfl ?_
        refine hf_puti (c := 11) (j := 15) dX11_refuse_2 (hs.2.1 100 _ rfl) (hf_lin hs 100 rfl) (by decide) (by decide) hw381 rfl rfl ?_
        refine hf_aload_n dX11_refuse_5 rfl rfl ?_
        refine hf_getr (b := 155) (c := 11) (j := 12) dX11_refuse_6 (hs.2.1 100 _ rfl) (hf_lin hs 100 rfl) (by decide) (by decide) hw377 rfl (hs.2.2 100 12 _ rfl) ?_
        refine hf_iload_n dX11_refuse_9 rfl rfl ?_
        refine hf_callS (as := [.int (-1)]) ok_X11_refusalPlace dX11_refuse_10 hw411 hw412 rfl (Nat.le_of_ble_eq_true rfl) rfl (Nat.le_of_ble_eq_true rfl) (Nat.zero_le _) (Nat.zero_le _) ?_
        show hf_G X Y_X11_refusalPlace d _ _ 0 [some (.int (-1))] [] (t, T, (hf_up I 100 15 (-1)), L, P) _
        refine hf_iload_n dX11_refusalPlace_0 rfl rfl ?_
        refine hf_tableOut (tgt := 44) dX11_refusalPlace_1 (by decide) (by decide) ?_
        refine hf_iconst (v := 0) dX11_refusalPlace_44 (by decide) ?_
        refine hf_ireturn dX11_refusalPlace_45 rfl rfl ?_
        show hf_G X Y_X11_refuse (d + 1) _ _ 13 [some (.ref 100), some (.int (-1))] [.int 0, .ref 155] (t, T, (hf_up I 100 15 (-1)), L, P) _
        refine hf_dup2 dX11_refuse_13 rfl rfl ?_
        refine hf_iald_k (j := 0) (by decide) dX11_refuse_14 (hs.2.1 155 _ rfl) (hf_lin hs 155 rfl) (hf_vin (by decide)) ?_
        refine hf_iconst (v := 1) dX11_refuse_15 (by decide) ?_
        refine hf_iadd dX11_refuse_16 ?_
        refine hf_iast_k (j := 0) (by decide) dX11_refuse_17 (hs.2.1 155 _ rfl) (hf_lin hs 155 rfl) (hf_vin (by decide)) ?_
        refine hf_iload_n dX11_refuse_18 rfl rfl ?_
        refine hf_ireturn dX11_refuse_19 rfl rfl ?_
        show hf_G X Y_X11_column (d + 2) _ _ 26 [some (.ref 100), some (.int x1), some (.int x2)] [.int (-1)] (t, T, (hf_up (hf_up I 100 15 (-1)) 155 0 ((I 155 0) + 1)), L, P) _
        refine hf_ireturn dX11_column_26 rfl rfl ?_
        exact h
      · replace h := h.2 hc
        refine hf_iload_n dX11_within_5 rfl rfl ?_
        refine hf_iload_n dX11_within_6 rfl rfl ?_
        refine hf_icmp_gt (tgt := 14) dX11_within_7 (by decide) (fun hc => ?_) (fun hc => ?_)
        · replace h := h.1 hc
          refine hf_iconst (v := 0) dX11_within_14 (by decide) ?_
          refine hf_ireturn dX11_within_15 rfl (by decide) ?_
          show hf_G X Y_X11_column (d + 2) _ _ 18 [some (.ref 100), some (.int x1), some (.int x2)] [.int 0] (t, T, I, L, P) _
          refine hf_if_ne (tgt := 27) dX11_column_18 (by decide) (fun hc => absurd (show ¬ (0 : Int32) = (0 : Int32) from hc) (by decide)) (fun _ => ?_)
          refine hf_aload_n dX11_column_21 rfl rfl ?_
          refine hf_iconst (v := (-1)) dX11_column_22 (by decide) ?_
          refine hf_callV (c := 11) (as := [.int (-1)]) ok_X11_refuse dX11_column_23 hw408 hw409 hw1553 (hs.2.1 100 _ rfl) (by decide) (hf_lin hs 100 rfl) rfl (Nat.le_of_ble_eq_true rfl) rfl (Nat.le_of_ble_eq_true rfl) (Nat.zero_le _) (Nat.zero_le _) ?_
          show hf_G X Y_X11_refuse (d + 1) _ _ 0 [some (.ref 100), some (.int (-1))] [] (t, T, I, L, P) _
          refine hf_aload_n dX11_refuse_0 rfl rfl ?_
          refine hf_iload_n dX11_refuse_1 rfl rfl ?_
          refine hf_puti (c := 11) (j := 15) dX11_refuse_2 (hs.2.1 100 _ rfl) (hf_lin hs 100 rfl) (by decide) (by decide) hw381 rfl rfl ?_
          refine hf_aload_n dX11_refuse_5 rfl rfl ?_
          refine hf_getr (b := 155) (c := 11) (j := 12) dX11_refuse_6 (hs.2.1 100 _ rfl) (hf_lin hs 100 rfl) (by decide) (by decide) hw377 rfl (hs.2.2 100 12 _ rfl) ?_
          refine hf_iload_n dX11_refuse_9 rfl rfl ?_
          refine hf_callS (as := [.int (-1)]) ok_X11_refusalPlace dX11_refuse_10 hw411 hw412 rfl (Nat.le_of_ble_eq_true rfl) rfl (Nat.le_of_ble_eq_true rfl) (Nat.zero_le _) (Nat.zero_le _) ?_
          show hf_G X Y_X11_refusalPlace d _ _ 0 [some (.int (-1))] [] (t, T, (hf_up I 100 15 (-1)), L, P) _
          refine hf_iload_n dX11_refusalPlace_0 rfl rfl ?_
          refine hf_tableOut (tgt := 44) dX11_refusalPlace_1 (by decide) (by decide) ?_
          refine hf_iconst (v := 0) dX11_refusalPlace_44 (by decide) ?_
          refine hf_ireturn dX11_refusalPlace_45 rfl rfl ?_
          show hf_G X Y_X11_refuse (d + 1) _ _ 13 [some (.ref 100), some (.int (-1))] [.int 0, .ref 155] (t, T, (hf_up I 100 15 (-1)), L, P) _
          refine hf_dup2 dX11_refuse_13 rfl rfl ?_
          refine hf_iald_k (j := 0) (by decide) dX11_refuse_14 (hs.2.1 155 _ rfl) (hf_lin hs 155 rfl) (hf_vin (by decide)) ?_
          refine hf_iconst (v := 1) dX11_refuse_15 (by decide) ?_
          refine hf_iadd dX11_refuse_16 ?_
          refine hf_iast_k (j := 0) (by decide) dX11_refuse_17 (hs.2.1 155 _ rfl) (hf_lin hs 155 rfl) (hf_vin (by decide)) ?_
          refine hf_iload_n dX11_refuse_18 rfl rfl ?_
          refine hf_ireturn dX11_refuse_19 rfl rfl ?_
          show hf_G X Y_X11_column (d + 2) _ _ 26 [some (.ref 100), some (.int x1), some (.int x2)] [.int (-1)] (t, T, (hf_up (hf_up I 100 15 (-1)) 155 0 ((I 155 0) + 1)), L, P) _
          refine hf_ireturn dX11_column_26 rfl rfl ?_
          exact h
        · replace h := h.2 hc
          refine hf_iconst (v := 1) dX11_within_10 (by decide) ?_
          refine hf_goto (tgt := 15) dX11_within_11 (by decide) ?_
          refine hf_ireturn dX11_within_15 rfl (by decide) ?_
          show hf_G X Y_X11_column (d + 2) _ _ 18 [some (.ref 100), some (.int x1), some (.int x2)] [.int 1] (t, T, I, L, P) _
          refine hf_if_ne (tgt := 27) dX11_column_18 (by decide) (fun _ => ?_) (fun hc => absurd (show (1 : Int32) = (0 : Int32) from hc) (by decide))
          refine hf_aload_n dX11_column_27 rfl rfl ?_
          refine hf_getr (b := 101) (c := 11) (j := 0) dX11_column_28 (hs.2.1 100 _ rfl) (hf_lin hs 100 rfl) (by decide) (by decide) hw365 rfl (hs.2.2 100 0 _ rfl) ?_
          refine hf_getr (b := 114) (c := 1) (j := 7) dX11_column_31 (hs.2.1 101 _ rfl) (hf_lin hs 101 rfl) (by decide) (by decide) hw123 rfl (hs.2.2 101 7 _ rfl) ?_
          refine hf_geti (c := 3) (j := 2) dX11_column_34 (hs.2.1 114 _ rfl) (hf_lin hs 114 rfl) (by decide) (by decide) hw89 (Or.inl rfl) ?_
          refine hf_if_le (tgt := 47) dX11_column_37 (by decide) (fun hc => ?_) (fun hc => ?_)
          · replace h := h.1 hc
            refine hf_aload_n dX11_column_47 rfl rfl ?_
            refine hf_getr (b := 101) (c := 11) (j := 0) dX11_column_48 (hs.2.1 100 _ rfl) (hf_lin hs 100 rfl) (by decide) (by decide) hw365 rfl (hs.2.2 100 0 _ rfl) ?_
            refine hf_iload_n dX11_column_51 rfl rfl ?_
            refine hf_puti (c := 1) (j := 12) dX11_column_52 (hs.2.1 101 _ rfl) (hf_lin hs 101 rfl) (by decide) (by decide) hw137 rfl rfl ?_
            refine hf_aload_n dX11_column_55 rfl rfl ?_
            refine hf_getr (b := 101) (c := 11) (j := 0) dX11_column_56 (hs.2.1 100 _ rfl) (hf_lin hs 100 rfl) (by decide) (by decide) hw365 rfl (hs.2.2 100 0 _ rfl) ?_
            refine hf_iload_n dX11_column_59 rfl rfl ?_
            refine hf_puti (c := 1) (j := 13) dX11_column_60 (hs.2.1 101 _ rfl) (hf_lin hs 101 rfl) (by decide) (by decide) hw142 rfl rfl ?_
            refine hf_aload_n dX11_column_63 rfl rfl ?_
            refine hf_getr (b := 148) (c := 11) (j := 9) dX11_column_64 (hs.2.1 100 _ rfl) (hf_lin hs 100 rfl) (by decide) (by decide) hw374 rfl (hs.2.2 100 9 _ rfl) ?_
            refine hf_callV (c := 6) (as := []) ok_X6_empty dX11_column_67 hw414 hw415 hw416 (hs.2.1 148 _ rfl) (by decide) (hf_lin hs 148 rfl) rfl (Nat.le_of_ble_eq_true rfl) rfl (Nat.le_of_ble_eq_true rfl) (Nat.zero_le _) (Nat.zero_le _) ?_
            show hf_G X Y_X6_empty (d + 1) _ _ 0 [some (.ref 148)] [] (t, T, (hf_up (hf_up I 101 12 x1) 101 13 x2), L, P) _
            refine hf_aload_n dX6_empty_0 rfl rfl ?_
            refine hf_iconst (v := 0) dX6_empty_1 (by decide) ?_
            refine hf_puti (c := 6) (j := 2) dX6_empty_2 (hs.2.1 148 _ rfl) (hf_lin hs 148 rfl) (by decide) (by decide) hw359 rfl rfl ?_
            refine hf_return dX6_empty_5 rfl ?_
            show hf_G X Y_X11_column (d + 2) _ _ 70 [some (.ref 100), some (.int x1), some (.int x2)] [] (t, T, (hf_up (hf_up (hf_up I 101 12 x1) 101 13 x2) 148 2 0), L, P) _
            refine hf_aload_n dX11_column_70 rfl rfl ?_
            refine hf_iconst (v := 0) dX11_column_71 (by decide) ?_
            refine hf_callV (c := 11) (as := [.int 0]) ok_X11_granted dX11_column_72 hw418 hw419 hw1554 (hs.2.1 100 _ rfl) (by decide) (hf_lin hs 100 rfl) rfl (Nat.le_of_ble_eq_true rfl) rfl (Nat.le_of_ble_eq_true rfl) (Nat.zero_le _) (Nat.zero_le _) ?_
            show hf_G X Y_X11_granted (d + 1) _ _ 0 [some (.ref 100), some (.int 0)] [] (t, T, (hf_up (hf_up (hf_up I 101 12 x1) 101 13 x2) 148 2 0), L, P) _
            refine hf_aload_n dX11_granted_0 rfl rfl ?_
            refine hf_iconst (v := 0) dX11_granted_1 (by decide) ?_
            refine hf_puti (c := 11) (j := 15) dX11_granted_2 (hs.2.1 100 _ rfl) (hf_lin hs 100 rfl) (by decide) (by decide) hw381 rfl rfl ?_
            refine hf_aload_n dX11_granted_5 rfl rfl ?_
            refine hf_dup dX11_granted_6 rfl ?_
            refine hf_geti (c := 11) (j := 16) dX11_granted_7 (hs.2.1 100 _ rfl) (hf_lin hs 100 rfl) (by decide) (by decide) hw382 (Or.inl rfl) ?_
            refine hf_iconst (v := 1) dX11_granted_10 (by decide) ?_
            refine hf_iadd dX11_granted_11 ?_
            refine hf_puti (c := 11) (j := 16) dX11_granted_12 (hs.2.1 100 _ rfl) (hf_lin hs 100 rfl) (by decide) (by decide) hw382 rfl rfl ?_
            refine hf_iload_n dX11_granted_15 rfl rfl ?_
            refine hf_ireturn dX11_granted_16 rfl rfl ?_
            show hf_G X Y_X11_column (d + 2) _ _ 75 [some (.ref 100), some (.int x1), some (.int x2)] [.int 0] (t, T, (hf_up (hf_up (hf_up (hf_up (hf_up I 101 12 x1) 101 13 x2) 148 2 0) 100 15 0) 100 16 ((I 100 16) + 1)), L, P) _
            refine hf_ireturn dX11_column_75 rfl rfl ?_
            exact h
          · replace h := h.2 hc
            refine hf_aload_n dX11_column_40 rfl rfl ?_
            refine hf_bipush (v := (-3)) dX11_column_41 (by decide) ?_
            refine hf_callV (c := 11) (as := [.int (-3)]) ok_X11_refuse dX11_column_43 hw408 hw409 hw1553 (hs.2.1 100 _ rfl) (by decide) (hf_lin hs 100 rfl) rfl (Nat.le_of_ble_eq_true rfl) rfl (Nat.le_of_ble_eq_true rfl) (Nat.zero_le _) (Nat.zero_le _) ?_
            show hf_G X Y_X11_refuse (d + 1) _ _ 0 [some (.ref 100), some (.int (-3))] [] (t, T, I, L, P) _
            refine hf_aload_n dX11_refuse_0 rfl rfl ?_
            refine hf_iload_n dX11_refuse_1 rfl rfl ?_
            refine hf_puti (c := 11) (j := 15) dX11_refuse_2 (hs.2.1 100 _ rfl) (hf_lin hs 100 rfl) (by decide) (by decide) hw381 rfl rfl ?_
            refine hf_aload_n dX11_refuse_5 rfl rfl ?_
            refine hf_getr (b := 155) (c := 11) (j := 12) dX11_refuse_6 (hs.2.1 100 _ rfl) (hf_lin hs 100 rfl) (by decide) (by decide) hw377 rfl (hs.2.2 100 12 _ rfl) ?_
            refine hf_iload_n dX11_refuse_9 rfl rfl ?_
            refine hf_callS (as := [.int (-3)]) ok_X11_refusalPlace dX11_refuse_10 hw411 hw412 rfl (Nat.le_of_ble_eq_true rfl) rfl (Nat.le_of_ble_eq_true rfl) (Nat.zero_le _) (Nat.zero_le _) ?_
            show hf_G X Y_X11_refusalPlace d _ _ 0 [some (.int (-3))] [] (t, T, (hf_up I 100 15 (-3)), L, P) _
            refine hf_iload_n dX11_refusalPlace_0 rfl rfl ?_
            refine hf_tableIn (off := 37) (tgt := 38) dX11_refusalPlace_1 (by decide) (by decide) rfl (by decide) ?_
            refine hf_iconst (v := 2) dX11_refusalPlace_38 (by decide) ?_
            refine hf_ireturn dX11_refusalPlace_39 rfl rfl ?_
            show hf_G X Y_X11_refuse (d + 1) _ _ 13 [some (.ref 100), some (.int (-3))] [.int 2, .ref 155] (t, T, (hf_up I 100 15 (-3)), L, P) _
            refine hf_dup2 dX11_refuse_13 rfl rfl ?_
            refine hf_iald_k (j := 2) (by decide) dX11_refuse_14 (hs.2.1 155 _ rfl) (hf_lin hs 155 rfl) (hf_vin (by decide)) ?_
            refine hf_iconst (v := 1) dX11_refuse_15 (by decide) ?_
            refine hf_iadd dX11_refuse_16 ?_
            refine hf_iast_k (j := 2) (by decide) dX11_refuse_17 (hs.2.1 155 _ rfl) (hf_lin hs 155 rfl) (hf_vin (by decide)) ?_
            refine hf_iload_n dX11_refuse_18 rfl rfl ?_
            refine hf_ireturn dX11_refuse_19 rfl rfl ?_
            show hf_G X Y_X11_column (d + 2) _ _ 46 [some (.ref 100), some (.int x1), some (.int x2)] [.int (-3)] (t, T, (hf_up (hf_up I 100 15 (-3)) 155 2 ((I 155 2) + 1)), L, P) _
            refine hf_ireturn dX11_column_46 rfl rfl ?_
            exact h

set_option maxHeartbeats 4000000 in
theorem w_X11_size_0 {X : hf_X} {d k n t : Nat} {T : hf_T} {I : hf_I} {L : hf_L} {P : hf_P} {Q : Option Value → hf_M → Prop} {x1 : Int32} (hs : hf_Lay t T P) (h : hf_G X Y_X11_changeSize d 0 0 0 (hf_en [.ref 100, .int x1] 3) [] (t, T, I, L, P) (fun r M => hf_G X Y_X11_size (d + 1) k n 6 [none, none] (r.toList ++ [.ref 100]) M Q)) : hf_G X Y_X11_size (d + 1) k n 0 (hf_en [.ref 100, .int x1] 2) [] (t, T, I, L, P) Q := by
  show hf_G X Y_X11_size (d + 1) k n 0 [some (.ref 100), some (.int x1)] [] (t, T, I, L, P) Q
  refine hf_aload_n dX11_size_0 rfl rfl ?_
  refine hf_aload_n dX11_size_1 rfl rfl ?_
  refine hf_iload_n dX11_size_2 rfl rfl ?_
  exact hf_callV (c := 11) (as := [.int x1]) ok_X11_changeSize dX11_size_3 hw429 hw430 hw1555 (hs.2.1 100 _ rfl) (by decide) (hf_lin hs 100 rfl) rfl (Nat.le_of_ble_eq_true rfl) rfl (Nat.le_of_ble_eq_true rfl) (Nat.zero_le _) (Nat.zero_le _) (hf_mono (fun r M q => hf_drop (l' := [none, none]) (by simp [hf_sub]) q) h)

set_option maxHeartbeats 4000000 in
theorem w_X11_size_6 {X : hf_X} {d k n t : Nat} {T : hf_T} {I : hf_I} {L : hf_L} {P : hf_P} {Q : Option Value → hf_M → Prop} {s0 : Int32} (hs : hf_Lay t T P) (h : (0 ≤ s0 → Q (some (.int s0)) (t, T, (hf_up (hf_up I 100 15 0) 100 16 ((I 100 16) + 1)), L, P)) ∧ (¬ (0 ≤ s0) → (s0 = (-6) → Q (some (.int s0)) (t, T, (hf_up (hf_up I 100 15 s0) 155 4 ((I 155 4) + 1)), L, P)) ∧ (s0 = (-5) → Q (some (.int s0)) (t, T, (hf_up (hf_up I 100 15 s0) 155 3 ((I 155 3) + 1)), L, P)) ∧ (s0 = (-4) → Q (some (.int s0)) (t, T, (hf_up (hf_up I 100 15 s0) 155 0 ((I 155 0) + 1)), L, P)) ∧ (s0 = (-3) → Q (some (.int s0)) (t, T, (hf_up (hf_up I 100 15 s0) 155 2 ((I 155 2) + 1)), L, P)) ∧ (s0 = (-2) → Q (some (.int s0)) (t, T, (hf_up (hf_up I 100 15 s0) 155 1 ((I 155 1) + 1)), L, P)) ∧ (s0.toInt < (-6) ∨ (-2) < s0.toInt → Q (some (.int s0)) (t, T, (hf_up (hf_up I 100 15 s0) 155 0 ((I 155 0) + 1)), L, P)))) : hf_G X Y_X11_size (d + 3) k n 6 [none, none] [.int s0, .ref 100] (t, T, I, L, P) Q := by
  refine hf_callV (c := 11) (as := [.int s0]) ok_X11_answered dX11_size_6 hw432 hw433 hw1556 (hs.2.1 100 _ rfl) (by decide) (hf_lin hs 100 rfl) rfl (Nat.le_of_ble_eq_true rfl) rfl (Nat.le_of_ble_eq_true rfl) (Nat.zero_le _) (Nat.zero_le _) ?_
  show hf_G X Y_X11_answered (d + 2) _ _ 0 [some (.ref 100), some (.int s0)] [] (t, T, I, L, P) _
  refine hf_iload_n dX11_answered_0 rfl rfl ?_
  refine hf_if_ge (tgt := 12) dX11_answered_1 (by decide) (fun hc => ?_) (fun hc => ?_)
  · replace h := h.1 hc
    refine hf_aload_n dX11_answered_12 rfl rfl ?_
    refine hf_iload_n dX11_answered_13 rfl rfl ?_
    refine hf_callV (c := 11) (as := [.int s0]) ok_X11_granted dX11_answered_14 hw418 hw419 hw1554 (hs.2.1 100 _ rfl) (by decide) (hf_lin hs 100 rfl) rfl (Nat.le_of_ble_eq_true rfl) rfl (Nat.le_of_ble_eq_true rfl) (Nat.zero_le _) (Nat.zero_le _) ?_
    show hf_G X Y_X11_granted (d + 1) _ _ 0 [some (.ref 100), some (.int s0)] [] (t, T, I, L, P) _
    refine hf_aload_n dX11_granted_0 rfl rfl ?_
    refine hf_iconst (v := 0) dX11_granted_1 (by decide) ?_
    refine hf_puti (c := 11) (j := 15) dX11_granted_2 (hs.2.1 100 _ rfl) (hf_lin hs 100 rfl) (by decide) (by decide) hw381 rfl rfl ?_
    refine hf_aload_n dX11_granted_5 rfl rfl ?_
    refine hf_dup dX11_granted_6 rfl ?_
    refine hf_geti (c := 11) (j := 16) dX11_granted_7 (hs.2.1 100 _ rfl) (hf_lin hs 100 rfl) (by decide) (by decide) hw382 (Or.inl rfl) ?_
    refine hf_iconst (v := 1) dX11_granted_10 (by decide) ?_
    refine hf_iadd dX11_granted_11 ?_
    refine hf_puti (c := 11) (j := 16) dX11_granted_12 (hs.2.1 100 _ rfl) (hf_lin hs 100 rfl) (by decide) (by decide) hw382 rfl rfl ?_
    refine hf_iload_n dX11_granted_15 rfl rfl ?_
    refine hf_ireturn dX11_granted_16 rfl rfl ?_
    show hf_G X Y_X11_answered (d + 2) _ _ 17 [some (.ref 100), some (.int s0)] [.int s0] (t, T, (hf_up (hf_up I 100 15 0) 100 16 ((I 100 16) + 1)), L, P) _
    refine hf_ireturn dX11_answered_17 rfl rfl ?_
    show hf_G X Y_X11_size (d + 3) _ _ 9 [none, none] [.int s0] (t, T, (hf_up (hf_up I 100 15 0) 100 16 ((I 100 16) + 1)), L, P) _
    refine hf_ireturn dX11_size_9 rfl rfl ?_
    exact h
  · replace h := h.2 hc
    refine hf_aload_n dX11_answered_4 rfl rfl ?_
    refine hf_iload_n dX11_answered_5 rfl rfl ?_
    refine hf_callV (c := 11) (as := [.int s0]) ok_X11_refuse dX11_answered_6 hw408 hw409 hw1553 (hs.2.1 100 _ rfl) (by decide) (hf_lin hs 100 rfl) rfl (Nat.le_of_ble_eq_true rfl) rfl (Nat.le_of_ble_eq_true rfl) (Nat.zero_le _) (Nat.zero_le _) ?_
    show hf_G X Y_X11_refuse (d + 1) _ _ 0 [some (.ref 100), some (.int s0)] [] (t, T, I, L, P) _
    refine hf_aload_n dX11_refuse_0 rfl rfl ?_
    refine hf_iload_n dX11_refuse_1 rfl rfl ?_
    refine hf_puti (c := 11) (j := 15) dX11_refuse_2 (hs.2.1 100 _ rfl) (hf_lin hs 100 rfl) (by decide) (by decide) hw381 rfl rfl ?_
    refine hf_aload_n dX11_refuse_5 rfl rfl ?_
    refine hf_getr (b := 155) (c := 11) (j := 12) dX11_refuse_6 (hs.2.1 100 _ rfl) (hf_lin hs 100 rfl) (by decide) (by decide) hw377 rfl (hs.2.2 100 12 _ rfl) ?_
    refine hf_iload_n dX11_refuse_9 rfl rfl ?_
    refine hf_callS (as := [.int s0]) ok_X11_refusalPlace dX11_refuse_10 hw411 hw412 rfl (Nat.le_of_ble_eq_true rfl) rfl (Nat.le_of_ble_eq_true rfl) (Nat.zero_le _) (Nat.zero_le _) ?_
    show hf_G X Y_X11_refusalPlace d _ _ 0 [some (.int s0)] [] (t, T, (hf_up I 100 15 s0), L, P) _
    refine hf_iload_n dX11_refusalPlace_0 rfl rfl ?_
    rcases hf_swc s0 (-6) 4 with hq | ⟨j, hj, hq⟩
    · refine hf_tableOut (tgt := 44) dX11_refusalPlace_1 (by omega) (by decide) ?_
      replace h := h.2.2.2.2.2 (by omega)
      refine hf_iconst (v := 0) dX11_refusalPlace_44 (by decide) ?_
      refine hf_ireturn dX11_refusalPlace_45 rfl rfl ?_
      show hf_G X Y_X11_refuse (d + 1) _ _ 13 [some (.ref 100), some (.int s0)] [.int 0, .ref 155] (t, T, (hf_up I 100 15 s0), L, P) _
      refine hf_dup2 dX11_refuse_13 rfl rfl ?_
      refine hf_iald_k (j := 0) (by decide) dX11_refuse_14 (hs.2.1 155 _ rfl) (hf_lin hs 155 rfl) (hf_vin (by decide)) ?_
      refine hf_iconst (v := 1) dX11_refuse_15 (by decide) ?_
      refine hf_iadd dX11_refuse_16 ?_
      refine hf_iast_k (j := 0) (by decide) dX11_refuse_17 (hs.2.1 155 _ rfl) (hf_lin hs 155 rfl) (hf_vin (by decide)) ?_
      refine hf_iload_n dX11_refuse_18 rfl rfl ?_
      refine hf_ireturn dX11_refuse_19 rfl rfl ?_
      show hf_G X Y_X11_answered (d + 2) _ _ 9 [some (.ref 100), some (.int s0)] [.int s0] (t, T, (hf_up (hf_up I 100 15 s0) 155 0 ((I 155 0) + 1)), L, P) _
      refine hf_goto (tgt := 17) dX11_answered_9 (by decide) ?_
      refine hf_ireturn dX11_answered_17 rfl rfl ?_
      show hf_G X Y_X11_size (d + 3) _ _ 9 [none, none] [.int s0] (t, T, (hf_up (hf_up I 100 15 s0) 155 0 ((I 155 0) + 1)), L, P) _
      refine hf_ireturn dX11_size_9 rfl rfl ?_
      exact h
    · match j, hj with
      | 0, _ =>
        have hx : s0 = (-6) := hf_swi hq (by decide)
        refine hf_tableIn (off := 41) (tgt := 42) dX11_refusalPlace_1 (by rw [hx]; decide) (by rw [hx]; decide) (by rw [hx]; rfl) (by decide) ?_
        replace h := h.1 hx
        refine hf_iconst (v := 4) dX11_refusalPlace_42 (by decide) ?_
        refine hf_ireturn dX11_refusalPlace_43 rfl rfl ?_
        show hf_G X Y_X11_refuse (d + 1) _ _ 13 [some (.ref 100), some (.int s0)] [.int 4, .ref 155] (t, T, (hf_up I 100 15 s0), L, P) _
        refine hf_dup2 dX11_refuse_13 rfl rfl ?_
        refine hf_iald_k (j := 4) (by decide) dX11_refuse_14 (hs.2.1 155 _ rfl) (hf_lin hs 155 rfl) (hf_vin (by decide)) ?_
        refine hf_iconst (v := 1) dX11_refuse_15 (by decide) ?_
        refine hf_iadd dX11_refuse_16 ?_
        refine hf_iast_k (j := 4) (by decide) dX11_refuse_17 (hs.2.1 155 _ rfl) (hf_lin hs 155 rfl) (hf_vin (by decide)) ?_
        refine hf_iload_n dX11_refuse_18 rfl rfl ?_
        refine hf_ireturn dX11_refuse_19 rfl rfl ?_
        show hf_G X Y_X11_answered (d + 2) _ _ 9 [some (.ref 100), some (.int s0)] [.int s0] (t, T, (hf_up (hf_up I 100 15 s0) 155 4 ((I 155 4) + 1)), L, P) _
        refine hf_goto (tgt := 17) dX11_answered_9 (by decide) ?_
        refine hf_ireturn dX11_answered_17 rfl rfl ?_
        show hf_G X Y_X11_size (d + 3) _ _ 9 [none, none] [.int s0] (t, T, (hf_up (hf_up I 100 15 s0) 155 4 ((I 155 4) + 1)), L, P) _
        refine hf_ireturn dX11_size_9 rfl rfl ?_
        exact h
      | 1, _ =>
        have hx : s0 = (-5) := hf_swi hq (by decide)
        refine hf_tableIn (off := 39) (tgt := 40) dX11_refusalPlace_1 (by rw [hx]; decide) (by rw [hx]; decide) (by rw [hx]; rfl) (by decide) ?_
        replace h := h.2.1 hx
        refine hf_iconst (v := 3) dX11_refusalPlace_40 (by decide) ?_
        refine hf_ireturn dX11_refusalPlace_41 rfl rfl ?_
        show hf_G X Y_X11_refuse (d + 1) _ _ 13 [some (.ref 100), some (.int s0)] [.int 3, .ref 155] (t, T, (hf_up I 100 15 s0), L, P) _
        refine hf_dup2 dX11_refuse_13 rfl rfl ?_
        refine hf_iald_k (j := 3) (by decide) dX11_refuse_14 (hs.2.1 155 _ rfl) (hf_lin hs 155 rfl) (hf_vin (by decide)) ?_
        refine hf_iconst (v := 1) dX11_refuse_15 (by decide) ?_
        refine hf_iadd dX11_refuse_16 ?_
        refine hf_iast_k (j := 3) (by decide) dX11_refuse_17 (hs.2.1 155 _ rfl) (hf_lin hs 155 rfl) (hf_vin (by decide)) ?_
        refine hf_iload_n dX11_refuse_18 rfl rfl ?_
        refine hf_ireturn dX11_refuse_19 rfl rfl ?_
        show hf_G X Y_X11_answered (d + 2) _ _ 9 [some (.ref 100), some (.int s0)] [.int s0] (t, T, (hf_up (hf_up I 100 15 s0) 155 3 ((I 155 3) + 1)), L, P) _
        refine hf_goto (tgt := 17) dX11_answered_9 (by decide) ?_
        refine hf_ireturn dX11_answered_17 rfl rfl ?_
        show hf_G X Y_X11_size (d + 3) _ _ 9 [none, none] [.int s0] (t, T, (hf_up (hf_up I 100 15 s0) 155 3 ((I 155 3) + 1)), L, P) _
        refine hf_ireturn dX11_size_9 rfl rfl ?_
        exact h
      | 2, _ =>
        have hx : s0 = (-4) := hf_swi hq (by decide)
        refine hf_tableIn (off := 43) (tgt := 44) dX11_refusalPlace_1 (by rw [hx]; decide) (by rw [hx]; decide) (by rw [hx]; rfl) (by decide) ?_
        replace h := h.2.2.1 hx
        refine hf_iconst (v := 0) dX11_refusalPlace_44 (by decide) ?_
        refine hf_ireturn dX11_refusalPlace_45 rfl rfl ?_
        show hf_G X Y_X11_refuse (d + 1) _ _ 13 [some (.ref 100), some (.int s0)] [.int 0, .ref 155] (t, T, (hf_up I 100 15 s0), L, P) _
        refine hf_dup2 dX11_refuse_13 rfl rfl ?_
        refine hf_iald_k (j := 0) (by decide) dX11_refuse_14 (hs.2.1 155 _ rfl) (hf_lin hs 155 rfl) (hf_vin (by decide)) ?_
        refine hf_iconst (v := 1) dX11_refuse_15 (by decide) ?_
        refine hf_iadd dX11_refuse_16 ?_
        refine hf_iast_k (j := 0) (by decide) dX11_refuse_17 (hs.2.1 155 _ rfl) (hf_lin hs 155 rfl) (hf_vin (by decide)) ?_
        refine hf_iload_n dX11_refuse_18 rfl rfl ?_
        refine hf_ireturn dX11_refuse_19 rfl rfl ?_
        show hf_G X Y_X11_answered (d + 2) _ _ 9 [some (.ref 100), some (.int s0)] [.int s0] (t, T, (hf_up (hf_up I 100 15 s0) 155 0 ((I 155 0) + 1)), L, P) _
        refine hf_goto (tgt := 17) dX11_answered_9 (by decide) ?_
        refine hf_ireturn dX11_answered_17 rfl rfl ?_
        show hf_G X Y_X11_size (d + 3) _ _ 9 [none, none] [.int s0] (t, T, (hf_up (hf_up I 100 15 s0) 155 0 ((I 155 0) + 1)), L, P) _
        refine hf_ireturn dX11_size_9 rfl rfl ?_
        exact h
      | 3, _ =>
        have hx : s0 = (-3) := hf_swi hq (by decide)
        refine hf_tableIn (off := 37) (tgt := 38) dX11_refusalPlace_1 (by rw [hx]; decide) (by rw [hx]; decide) (by rw [hx]; rfl) (by decide) ?_
        replace h := h.2.2.2.1 hx
        refine hf_iconst (v := 2) dX11_refusalPlace_38 (by decide) ?_
        refine hf_ireturn dX11_refusalPlace_39 rfl rfl ?_
        show hf_G X Y_X11_refuse (d + 1) _ _ 13 [some (.ref 100), some (.int s0)] [.int 2, .ref 155] (t, T, (hf_up I 100 15 s0), L, P) _
        refine hf_dup2 dX11_refuse_13 rfl rfl ?_
        refine hf_iald_k (j := 2) (by decide) dX11_refuse_14 (hs.2.1 155 _ rfl) (hf_lin hs 155 rfl) (hf_vin (by decide)) ?_
        refine hf_iconst (v := 1) dX11_refuse_15 (by decide) ?_
        refine hf_iadd dX11_refuse_16 ?_
        refine hf_iast_k (j := 2) (by decide) dX11_refuse_17 (hs.2.1 155 _ rfl) (hf_lin hs 155 rfl) (hf_vin (by decide)) ?_
        refine hf_iload_n dX11_refuse_18 rfl rfl ?_
        refine hf_ireturn dX11_refuse_19 rfl rfl ?_
        show hf_G X Y_X11_answered (d + 2) _ _ 9 [some (.ref 100), some (.int s0)] [.int s0] (t, T, (hf_up (hf_up I 100 15 s0) 155 2 ((I 155 2) + 1)), L, P) _
        refine hf_goto (tgt := 17) dX11_answered_9 (by decide) ?_
        refine hf_ireturn dX11_answered_17 rfl rfl ?_
        show hf_G X Y_X11_size (d + 3) _ _ 9 [none, none] [.int s0] (t, T, (hf_up (hf_up I 100 15 s0) 155 2 ((I 155 2) + 1)), L, P) _
        refine hf_ireturn dX11_size_9 rfl rfl ?_
        exact h
      | 4, _ =>
        have hx : s0 = (-2) := hf_swi hq (by decide)
        refine hf_tableIn (off := 35) (tgt := 36) dX11_refusalPlace_1 (by rw [hx]; decide) (by rw [hx]; decide) (by rw [hx]; rfl) (by decide) ?_
        replace h := h.2.2.2.2.1 hx
        refine hf_iconst (v := 1) dX11_refusalPlace_36 (by decide) ?_
        refine hf_ireturn dX11_refusalPlace_37 rfl rfl ?_
        show hf_G X Y_X11_refuse (d + 1) _ _ 13 [some (.ref 100), some (.int s0)] [.int 1, .ref 155] (t, T, (hf_up I 100 15 s0), L, P) _
        refine hf_dup2 dX11_refuse_13 rfl rfl ?_
        refine hf_iald_k (j := 1) (by decide) dX11_refuse_14 (hs.2.1 155 _ rfl) (hf_lin hs 155 rfl) (hf_vin (by decide)) ?_
        refine hf_iconst (v := 1) dX11_refuse_15 (by decide) ?_
        refine hf_iadd dX11_refuse_16 ?_
        refine hf_iast_k (j := 1) (by decide) dX11_refuse_17 (hs.2.1 155 _ rfl) (hf_lin hs 155 rfl) (hf_vin (by decide)) ?_
        refine hf_iload_n dX11_refuse_18 rfl rfl ?_
        refine hf_ireturn dX11_refuse_19 rfl rfl ?_
        show hf_G X Y_X11_answered (d + 2) _ _ 9 [some (.ref 100), some (.int s0)] [.int s0] (t, T, (hf_up (hf_up I 100 15 s0) 155 1 ((I 155 1) + 1)), L, P) _
        refine hf_goto (tgt := 17) dX11_answered_9 (by decide) ?_
        refine hf_ireturn dX11_answered_17 rfl rfl ?_
        show hf_G X Y_X11_size (d + 3) _ _ 9 [none, none] [.int s0] (t, T, (hf_up (hf_up I 100 15 s0) 155 1 ((I 155 1) + 1)), L, P) _
        refine hf_ireturn dX11_size_9 rfl rfl ?_
        exact h
      | j + 5, hj => exact absurd hj (by omega)

set_option maxHeartbeats 4000000 in
theorem w_X11_worth_0 {X : hf_X} {d k n t : Nat} {T : hf_T} {I : hf_I} {L : hf_L} {P : hf_P} {Q : Option Value → hf_M → Prop} {x1 : Int32} {x2 : Int32} (hs : hf_Lay t T P) (h : (x1 < 0 → Q (some (.int (-1))) (t, T, (hf_up (hf_up I 100 15 (-1)) 155 0 ((I 155 0) + 1)), L, P)) ∧ (¬ (x1 < 0) → (7 < x1 → Q (some (.int (-1))) (t, T, (hf_up (hf_up I 100 15 (-1)) 155 0 ((I 155 0) + 1)), L, P)) ∧ (¬ (7 < x1) → (x2 < 0 → Q (some (.int (-1))) (t, T, (hf_up (hf_up I 100 15 (-1)) 155 0 ((I 155 0) + 1)), L, P)) ∧ (¬ (x2 < 0) → (99 < x2 → Q (some (.int (-1))) (t, T, (hf_up (hf_up I 100 15 (-1)) 155 0 ((I 155 0) + 1)), L, P)) ∧ (¬ (99 < x2) → vp_in x1 8 ∧ (vp_in x1 8 ∧ (Q (some (.int (I 103 x1.toNatClampNeg))) (t, T, (hf_up (hf_up (hf_up I 103 x1.toNatClampNeg x2) 100 15 0) 100 16 ((I 100 16) + 1)), L, P)))))))) : hf_G X Y_X11_worth (d + 2) k n 0 (hf_en [.ref 100, .int x1, .int x2] 4) [] (t, T, I, L, P) Q := by
  show hf_G X Y_X11_worth (d + 2) k n 0 [some (.ref 100), some (.int x1), some (.int x2), none] [] (t, T, I, L, P) Q
  refine hf_iload_n dX11_worth_0 rfl rfl ?_
  refine hf_iconst (v := 0) dX11_worth_1 (by decide) ?_
  refine hf_bipush (v := 7) dX11_worth_2 (by decide) ?_
  refine hf_callS (as := [.int x1, .int 0, .int 7]) ok_X11_within dX11_worth_4 hw405 hw406 rfl (Nat.le_of_ble_eq_true rfl) rfl (Nat.le_of_ble_eq_true rfl) (Nat.zero_le _) (Nat.zero_le _) ?_
  show hf_G X Y_X11_within (d + 1) _ _ 0 [some (.int x1), some (.int 0), some (.int 7)] [] (t, T, I, L, P) _
  refine hf_iload_n dX11_within_0 rfl rfl ?_
  refine hf_iload_n dX11_within_1 rfl rfl ?_
  refine hf_icmp_lt (tgt := 14) dX11_within_2 (by decide) (fun hc => ?_) (fun hc => ?_)
  · replace h := h.1 hc
    refine hf_iconst (v := 0) dX11_within_14 (by decide) ?_
    refine hf_ireturn dX11_within_15 rfl (by decide) ?_
    show hf_G X Y_X11_worth (d + 2) _ _ 7 [some (.ref 100), some (.int x1), some (.int x2), none] [.int 0] (t, T, I, L, P) _
    refine hf_if_eq (tgt := 20) dX11_worth_7 (by decide) (fun _ => ?_) (fun hc => absurd (show (0 : Int32) = (0 : Int32) by decide) hc)
    refine hf_aload_n dX11_worth_20 rfl rfl ?_
    refine hf_iconst (v := (-1)) dX11_worth_21 (by decide) ?_
    refine hf_callV (c := 11) (as := [.int (-1)]) ok_X11_refuse dX11_worth_22 hw408 hw409 hw1553 (hs.2.1 100 _ rfl) (by decide) (hf_lin hs 100 rfl) rfl (Nat.le_of_ble_eq_true rfl) rfl (Nat.le_of_ble_eq_true rfl) (Nat.zero_le _) (Nat.zero_le _) ?_
    show hf_G X Y_X11_refuse (d + 1) _ _ 0 [some (.ref 100), some (.int (-1))] [] (t, T, I, L, P) _
    refine hf_aload_n dX11_refuse_0 rfl rfl ?_
    refine hf_iload_n dX11_refuse_1 rfl rfl ?_
    refine hf_puti (c := 11) (j := 15) dX11_refuse_2 (hs.2.1 100 _ rfl) (hf_lin hs 100 rfl) (by decide) (by decide) hw381 rfl rfl ?_
    refine hf_aload_n dX11_refuse_5 rfl rfl ?_
    refine hf_getr (b := 155) (c := 11) (j := 12) dX11_refuse_6 (hs.2.1 100 _ rfl) (hf_lin hs 100 rfl) (by decide) (by decide) hw377 rfl (hs.2.2 100 12 _ rfl) ?_
    refine hf_iload_n dX11_refuse_9 rfl rfl ?_
    refine hf_callS (as := [.int (-1)]) ok_X11_refusalPlace dX11_refuse_10 hw411 hw412 rfl (Nat.le_of_ble_eq_true rfl) rfl (Nat.le_of_ble_eq_true rfl) (Nat.zero_le _) (Nat.zero_le _) ?_
    show hf_G X Y_X11_refusalPlace d _ _ 0 [some (.int (-1))] [] (t, T, (hf_up I 100 15 (-1)), L, P) _
    refine hf_iload_n dX11_refusalPlace_0 rfl rfl ?_
    refine hf_tableOut (tgt := 44) dX11_refusalPlace_1 (by decide) (by decide) ?_
    refine hf_iconst (v := 0) dX11_refusalPlace_44 (by decide) ?_
    refine hf_ireturn dX11_refusalPlace_45 rfl rfl ?_
    show hf_G X Y_X11_refuse (d + 1) _ _ 13 [some (.ref 100), some (.int (-1))] [.int 0, .ref 155] (t, T, (hf_up I 100 15 (-1)), L, P) _
    refine hf_dup2 dX11_refuse_13 rfl rfl ?_
    refine hf_iald_k (j := 0) (by decide) dX11_refuse_14 (hs.2.1 155 _ rfl) (hf_lin hs 155 rfl) (hf_vin (by decide)) ?_
    refine hf_iconst (v := 1) dX11_refuse_15 (by decide) ?_
    refine hf_iadd dX11_refuse_16 ?_
    refine hf_iast_k (j := 0) (by decide) dX11_refuse_17 (hs.2.1 155 _ rfl) (hf_lin hs 155 rfl) (hf_vin (by decide)) ?_
    refine hf_iload_n dX11_refuse_18 rfl rfl ?_
    refine hf_ireturn dX11_refuse_19 rfl rfl ?_
    show hf_G X Y_X11_worth (d + 2) _ _ 25 [some (.ref 100), some (.int x1), some (.int x2), none] [.int (-1)] (t, T, (hf_up (hf_up I 100 15 (-1)) 155 0 ((I 155 0) + 1)), L, P) _
    refine hf_ireturn dX11_worth_25 rfl rfl ?_
    exact h
  · replace h := h.2 hc
    refine hf_iload_n dX11_within_5 rfl rfl ?_
    refine hf_iload_n dX11_within_6 rfl rfl ?_
    refine hf_icmp_gt (tgt := 14) dX11_within_7 (by decide) (fun hc => ?_) (fun hc => ?_)
    · replace h := h.1 hc
      refine hf_iconst (v := 0) dX11_within_14 (by decide) ?_
      refine hf_ireturn dX11_within_15 rfl (by decide) ?_
      show hf_G X Y_X11_worth (d + 2) _ _ 7 [some (.ref 100), some (.int x1), some (.int x2), none] [.int 0] (t, T, I, L, P) _
      refine hf_if_eq (tgt := 20) dX11_worth_7 (by decide) (fun _ => ?_) (fun hc => absurd (show (0 : Int32) = (0 : Int32) by decide) hc)
      refine hf_aload_n dX11_worth_20 rfl rfl ?_
      refine hf_iconst (v := (-1)) dX11_worth_21 (by decide) ?_
      refine hf_callV (c := 11) (as := [.int (-1)]) ok_X11_refuse dX11_worth_22 hw408 hw409 hw1553 (hs.2.1 100 _ rfl) (by decide) (hf_lin hs 100 rfl) rfl (Nat.le_of_ble_eq_true rfl) rfl (Nat.le_of_ble_eq_true rfl) (Nat.zero_le _) (Nat.zero_le _) ?_
      show hf_G X Y_X11_refuse (d + 1) _ _ 0 [some (.ref 100), some (.int (-1))] [] (t, T, I, L, P) _
      refine hf_aload_n dX11_refuse_0 rfl rfl ?_
      refine hf_iload_n dX11_refuse_1 rfl rfl ?_
      refine hf_puti (c := 11) (j := 15) dX11_refuse_2 (hs.2.1 100 _ rfl) (hf_lin hs 100 rfl) (by decide) (by decide) hw381 rfl rfl ?_
      refine hf_aload_n dX11_refuse_5 rfl rfl ?_
      refine hf_getr (b := 155) (c := 11) (j := 12) dX11_refuse_6 (hs.2.1 100 _ rfl) (hf_lin hs 100 rfl) (by decide) (by decide) hw377 rfl (hs.2.2 100 12 _ rfl) ?_
      refine hf_iload_n dX11_refuse_9 rfl rfl ?_
      refine hf_callS (as := [.int (-1)]) ok_X11_refusalPlace dX11_refuse_10 hw411 hw412 rfl (Nat.le_of_ble_eq_true rfl) rfl (Nat.le_of_ble_eq_true rfl) (Nat.zero_le _) (Nat.zero_le _) ?_
      show hf_G X Y_X11_refusalPlace d _ _ 0 [some (.int (-1))] [] (t, T, (hf_up I 100 15 (-1)), L, P) _
      refine hf_iload_n dX11_refusalPlace_0 rfl rfl ?_
      refine hf_tableOut (tgt := 44) dX11_refusalPlace_1 (by decide) (by decide) ?_
      refine hf_iconst (v := 0) dX11_refusalPlace_44 (by decide) ?_
      refine hf_ireturn dX11_refusalPlace_45 rfl rfl ?_
      show hf_G X Y_X11_refuse (d + 1) _ _ 13 [some (.ref 100), some (.int (-1))] [.int 0, .ref 155] (t, T, (hf_up I 100 15 (-1)), L, P) _
      refine hf_dup2 dX11_refuse_13 rfl rfl ?_
      refine hf_iald_k (j := 0) (by decide) dX11_refuse_14 (hs.2.1 155 _ rfl) (hf_lin hs 155 rfl) (hf_vin (by decide)) ?_
      refine hf_iconst (v := 1) dX11_refuse_15 (by decide) ?_
      refine hf_iadd dX11_refuse_16 ?_
      refine hf_iast_k (j := 0) (by decide) dX11_refuse_17 (hs.2.1 155 _ rfl) (hf_lin hs 155 rfl) (hf_vin (by decide)) ?_
      refine hf_iload_n dX11_refuse_18 rfl rfl ?_
      refine hf_ireturn dX11_refuse_19 rfl rfl ?_
      show hf_G X Y_X11_worth (d + 2) _ _ 25 [some (.ref 100), some (.int x1), some (.int x2), none] [.int (-1)] (t, T, (hf_up (hf_up I 100 15 (-1)) 155 0 ((I 155 0) + 1)), L, P) _
      refine hf_ireturn dX11_worth_25 rfl rfl ?_
      exact h
    · replace h := h.2 hc
      refine hf_iconst (v := 1) dX11_within_10 (by decide) ?_
      refine hf_goto (tgt := 15) dX11_within_11 (by decide) ?_
      refine hf_ireturn dX11_within_15 rfl (by decide) ?_
      show hf_G X Y_X11_worth (d + 2) _ _ 7 [some (.ref 100), some (.int x1), some (.int x2), none] [.int 1] (t, T, I, L, P) _
      refine hf_if_eq (tgt := 20) dX11_worth_7 (by decide) (fun hc => absurd (show (1 : Int32) = (0 : Int32) from hc) (by decide)) (fun _ => ?_)
      refine hf_iload_n dX11_worth_10 rfl rfl ?_
      refine hf_iconst (v := 0) dX11_worth_11 (by decide) ?_
      refine hf_bipush (v := 99) dX11_worth_12 (by decide) ?_
      refine hf_callS (as := [.int x2, .int 0, .int 99]) ok_X11_within dX11_worth_14 hw405 hw406 rfl (Nat.le_of_ble_eq_true rfl) rfl (Nat.le_of_ble_eq_true rfl) (Nat.zero_le _) (Nat.zero_le _) ?_
      show hf_G X Y_X11_within (d + 1) _ _ 0 [some (.int x2), some (.int 0), some (.int 99)] [] (t, T, I, L, P) _
      refine hf_iload_n dX11_within_0 rfl rfl ?_
      refine hf_iload_n dX11_within_1 rfl rfl ?_
      refine hf_icmp_lt (tgt := 14) dX11_within_2 (by decide) (fun hc => ?_) (fun hc => ?_)
      · replace h := h.1 hc
        refine hf_iconst (v := 0) dX11_within_14 (by decide) ?_
        refine hf_ireturn dX11_within_15 rfl (by decide) ?_
        show hf_G X Y_X11_worth (d + 2) _ _ 17 [some (.ref 100), some (.int x1), some (.int x2), none] [.int 0] (t, T, I, L, P) _
        refine hf_if_ne (tgt := 26) dX11_worth_17 (by decide) (fun hc => absurd (show ¬ (0 : Int32) = (0 : Int32) from hc) (by decide)) (fun _ => ?_)
        refine hf_aload_n dX11_worth_20 rfl rfl ?_
        refine hf_iconst (v := (-1)) dX11_worth_21 (by decide) ?_
        refine hf_callV (c := 11) (as := [.int (-1)]) ok_X11_refuse dX11_worth_22 hw408 hw409 hw1553 (hs.2.1 100 _ rfl) (by decide) (hf_lin hs 100 rfl) rfl (Nat.le_of_ble_eq_true rfl) rfl (Nat.le_of_ble_eq_true rfl) (Nat.zero_le _) (Nat.zero_le _) ?_
        show hf_G X Y_X11_refuse (d + 1) _ _ 0 [some (.ref 100), some (.int (-1))] [] (t, T, I, L, P) _
        refine hf_aload_n dX11_refuse_0 rfl rfl ?_
        refine hf_iload_n dX11_refuse_1 rfl rfl ?_
        refine hf_puti (c := 11) (j := 15) dX11_refuse_2 (hs.2.1 100 _ rfl) (hf_lin hs 100 rfl) (by decide) (by decide) hw381 rfl rfl ?_
        refine hf_aload_n dX11_refuse_5 rfl rfl ?_
        refine hf_getr (b := 155) (c := 11) (j := 12) dX11_refuse_6 (hs.2.1 100 _ rfl) (hf_lin hs 100 rfl) (by decide) (by decide) hw377 rfl (hs.2.2 100 12 _ rfl) ?_
        refine hf_iload_n dX11_refuse_9 rfl rfl ?_
        refine hf_callS (as := [.int (-1)]) ok_X11_refusalPlace dX11_refuse_10 hw411 hw412 rfl (Nat.le_of_ble_eq_true rfl) rfl (Nat.le_of_ble_eq_true rfl) (Nat.zero_le _) (Nat.zero_le _) ?_
        show hf_G X Y_X11_refusalPlace d _ _ 0 [some (.int (-1))] [] (t, T, (hf_up I 100 15 (-1)), L, P) _
        refine hf_iload_n dX11_refusalPlace_0 rfl rfl ?_
        refine hf_tableOut (tgt := 44) dX11_refusalPlace_1 (by decide) (by decide) ?_
        refine hf_iconst (v := 0) dX11_refusalPlace_44 (by decide) ?_
        refine hf_ireturn dX11_refusalPlace_45 rfl rfl ?_
        show hf_G X Y_X11_refuse (d + 1) _ _ 13 [some (.ref 100), some (.int (-1))] [.int 0, .ref 155] (t, T, (hf_up I 100 15 (-1)), L, P) _
        refine hf_dup2 dX11_refuse_13 rfl rfl ?_
        refine hf_iald_k (j := 0) (by decide) dX11_refuse_14 (hs.2.1 155 _ rfl) (hf_lin hs 155 rfl) (hf_vin (by decide)) ?_
        refine hf_iconst (v := 1) dX11_refuse_15 (by decide) ?_
        refine hf_iadd dX11_refuse_16 ?_
        refine hf_iast_k (j := 0) (by decide) dX11_refuse_17 (hs.2.1 155 _ rfl) (hf_lin hs 155 rfl) (hf_vin (by decide)) ?_
        refine hf_iload_n dX11_refuse_18 rfl rfl ?_
        refine hf_ireturn dX11_refuse_19 rfl rfl ?_
        show hf_G X Y_X11_worth (d + 2) _ _ 25 [some (.ref 100), some (.int x1), some (.int x2), none] [.int (-1)] (t, T, (hf_up (hf_up I 100 15 (-1)) 155 0 ((I 155 0) + 1)), L, P) _
        refine hf_ireturn dX11_worth_25 rfl rfl ?_
        exact h
      · replace h := h.2 hc
        refine hf_iload_n dX11_within_5 rfl rfl ?_
        refine hf_iload_n dX11_within_6 rfl rfl ?_
        refine hf_icmp_gt (tgt := 14) dX11_within_7 (by decide) (fun hc => ?_) (fun hc => ?_)
        · replace h := h.1 hc
          refine hf_iconst (v := 0) dX11_within_14 (by decide) ?_
          refine hf_ireturn dX11_within_15 rfl (by decide) ?_
          show hf_G X Y_X11_worth (d + 2) _ _ 17 [some (.ref 100), some (.int x1), some (.int x2), none] [.int 0] (t, T, I, L, P) _
          refine hf_if_ne (tgt := 26) dX11_worth_17 (by decide) (fun hc => absurd (show ¬ (0 : Int32) = (0 : Int32) from hc) (by decide)) (fun _ => ?_)
          refine hf_aload_n dX11_worth_20 rfl rfl ?_
          refine hf_iconst (v := (-1)) dX11_worth_21 (by decide) ?_
          refine hf_callV (c := 11) (as := [.int (-1)]) ok_X11_refuse dX11_worth_22 hw408 hw409 hw1553 (hs.2.1 100 _ rfl) (by decide) (hf_lin hs 100 rfl) rfl (Nat.le_of_ble_eq_true rfl) rfl (Nat.le_of_ble_eq_true rfl) (Nat.zero_le _) (Nat.zero_le _) ?_
          show hf_G X Y_X11_refuse (d + 1) _ _ 0 [some (.ref 100), some (.int (-1))] [] (t, T, I, L, P) _
          refine hf_aload_n dX11_refuse_0 rfl rfl ?_
          refine hf_iload_n dX11_refuse_1 rfl rfl ?_
          refine hf_puti (c := 11) (j := 15) dX11_refuse_2 (hs.2.1 100 _ rfl) (hf_lin hs 100 rfl) (by decide) (by decide) hw381 rfl rfl ?_
          refine hf_aload_n dX11_refuse_5 rfl rfl ?_
          refine hf_getr (b := 155) (c := 11) (j := 12) dX11_refuse_6 (hs.2.1 100 _ rfl) (hf_lin hs 100 rfl) (by decide) (by decide) hw377 rfl (hs.2.2 100 12 _ rfl) ?_
          refine hf_iload_n dX11_refuse_9 rfl rfl ?_
          refine hf_callS (as := [.int (-1)]) ok_X11_refusalPlace dX11_refuse_10 hw411 hw412 rfl (Nat.le_of_ble_eq_true rfl) rfl (Nat.le_of_ble_eq_true rfl) (Nat.zero_le _) (Nat.zero_le _) ?_
          show hf_G X Y_X11_refusalPlace d _ _ 0 [some (.int (-1))] [] (t, T, (hf_up I 100 15 (-1)), L, P) _
          refine hf_iload_n dX11_refusalPlace_0 rfl rfl ?_
          refine hf_tableOut (tgt := 44) dX11_refusalPlace_1 (by decide) (by decide) ?_
          refine hf_iconst (v := 0) dX11_refusalPlace_44 (by decide) ?_
          refine hf_ireturn dX11_refusalPlace_45 rfl rfl ?_
          show hf_G X Y_X11_refuse (d + 1) _ _ 13 [some (.ref 100), some (.int (-1))] [.int 0, .ref 155] (t, T, (hf_up I 100 15 (-1)), L, P) _
          refine hf_dup2 dX11_refuse_13 rfl rfl ?_
          refine hf_iald_k (j := 0) (by decide) dX11_refuse_14 (hs.2.1 155 _ rfl) (hf_lin hs 155 rfl) (hf_vin (by decide)) ?_
          refine hf_iconst (v := 1) dX11_refuse_15 (by decide) ?_
          refine hf_iadd dX11_refuse_16 ?_
          refine hf_iast_k (j := 0) (by decide) dX11_refuse_17 (hs.2.1 155 _ rfl) (hf_lin hs 155 rfl) (hf_vin (by decide)) ?_
          refine hf_iload_n dX11_refuse_18 rfl rfl ?_
          refine hf_ireturn dX11_refuse_19 rfl rfl ?_
          show hf_G X Y_X11_worth (d + 2) _ _ 25 [some (.ref 100), some (.int x1), some (.int x2), none] [.int (-1)] (t, T, (hf_up (hf_up I 100 15 (-1)) 155 0 ((I 155 0) + 1)), L, P) _
          refine hf_ireturn dX11_worth_25 rfl rfl ?_
          exact h
        · replace h := h.2 hc
          refine hf_iconst (v := 1) dX11_within_10 (by decide) ?_
          refine hf_goto (tgt := 15) dX11_within_11 (by decide) ?_
          refine hf_ireturn dX11_within_15 rfl (by decide) ?_
          show hf_G X Y_X11_worth (d + 2) _ _ 17 [some (.ref 100), some (.int x1), some (.int x2), none] [.int 1] (t, T, I, L, P) _
          refine hf_if_ne (tgt := 26) dX11_worth_17 (by decide) (fun _ => ?_) (fun hc => absurd (show (1 : Int32) = (0 : Int32) from hc) (by decide))
          refine hf_aload_n dX11_worth_26 rfl rfl ?_
          refine hf_getr (b := 101) (c := 11) (j := 0) dX11_worth_27 (hs.2.1 100 _ rfl) (hf_lin hs 100 rfl) (by decide) (by decide) hw365 rfl (hs.2.2 100 0 _ rfl) ?_
          refine hf_getr (b := 103) (c := 1) (j := 1) dX11_worth_30 (hs.2.1 101 _ rfl) (hf_lin hs 101 rfl) (by decide) (by decide) hw102 rfl (hs.2.2 101 1 _ rfl) ?_
          refine hf_iload_n dX11_worth_33 rfl rfl ?_
          refine hf_iald dX11_worth_34 (hs.2.1 103 _ rfl) (hf_lin hs 103 rfl) h.1 ?_
          replace h := h.2
          refine hf_istore_n (l2 := [some (.ref 100), some (.int x1), some (.int x2), some (.int (I 103 x1.toNatClampNeg))]) dX11_worth_35 rfl (by decide) rfl ?_
          refine hf_aload_n dX11_worth_36 rfl rfl ?_
          refine hf_getr (b := 101) (c := 11) (j := 0) dX11_worth_37 (hs.2.1 100 _ rfl) (hf_lin hs 100 rfl) (by decide) (by decide) hw365 rfl (hs.2.2 100 0 _ rfl) ?_
          refine hf_getr (b := 103) (c := 1) (j := 1) dX11_worth_40 (hs.2.1 101 _ rfl) (hf_lin hs 101 rfl) (by decide) (by decide) hw102 rfl (hs.2.2 101 1 _ rfl) ?_
          refine hf_iload_n dX11_worth_43 rfl rfl ?_
          refine hf_iload_n dX11_worth_44 rfl rfl ?_
          refine hf_iast dX11_worth_45 (hs.2.1 103 _ rfl) (hf_lin hs 103 rfl) h.1 ?_
          replace h := h.2
          refine hf_aload_n dX11_worth_46 rfl rfl ?_
          refine hf_iload_n dX11_worth_47 rfl rfl ?_
          refine hf_callV (c := 11) (as := [.int (I 103 x1.toNatClampNeg)]) ok_X11_granted dX11_worth_48 hw418 hw419 hw1554 (hs.2.1 100 _ rfl) (by decide) (hf_lin hs 100 rfl) rfl (Nat.le_of_ble_eq_true rfl) rfl (Nat.le_of_ble_eq_true rfl) (Nat.zero_le _) (Nat.zero_le _) ?_
          show hf_G X Y_X11_granted (d + 1) _ _ 0 [some (.ref 100), some (.int (I 103 x1.toNatClampNeg))] [] (t, T, (hf_up I 103 x1.toNatClampNeg x2), L, P) _
          refine hf_aload_n dX11_granted_0 rfl rfl ?_
          refine hf_iconst (v := 0) dX11_granted_1 (by decide) ?_
          refine hf_puti (c := 11) (j := 15) dX11_granted_2 (hs.2.1 100 _ rfl) (hf_lin hs 100 rfl) (by decide) (by decide) hw381 rfl rfl ?_
          refine hf_aload_n dX11_granted_5 rfl rfl ?_
          refine hf_dup dX11_granted_6 rfl ?_
          refine hf_geti (c := 11) (j := 16) dX11_granted_7 (hs.2.1 100 _ rfl) (hf_lin hs 100 rfl) (by decide) (by decide) hw382 (Or.inl rfl) ?_
          refine hf_iconst (v := 1) dX11_granted_10 (by decide) ?_
          refine hf_iadd dX11_granted_11 ?_
          refine hf_puti (c := 11) (j := 16) dX11_granted_12 (hs.2.1 100 _ rfl) (hf_lin hs 100 rfl) (by decide) (by decide) hw382 rfl rfl ?_
          refine hf_iload_n dX11_granted_15 rfl rfl ?_
          refine hf_ireturn dX11_granted_16 rfl rfl ?_
          show hf_G X Y_X11_worth (d + 2) _ _ 51 [some (.ref 100), some (.int x1), some (.int x2), some (.int (I 103 x1.toNatClampNeg))] [.int (I 103 x1.toNatClampNeg)] (t, T, (hf_up (hf_up (hf_up I 103 x1.toNatClampNeg x2) 100 15 0) 100 16 ((I 100 16) + 1)), L, P) _
          refine hf_ireturn dX11_worth_51 rfl rfl ?_
          exact h

set_option maxHeartbeats 4000000 in
theorem w_X11_terms_0 {X : hf_X} {d k n t : Nat} {T : hf_T} {I : hf_I} {L : hf_L} {P : hf_P} {Q : Option Value → hf_M → Prop} {x1 : Int32} {x2 : Int32} (hs : hf_Lay t T P) (h : (x1 < 0 → Q (some (.int (-1))) (t, T, (hf_up (hf_up I 100 15 (-1)) 155 0 ((I 155 0) + 1)), L, P)) ∧ (¬ (x1 < 0) → (1 < x1 → Q (some (.int (-1))) (t, T, (hf_up (hf_up I 100 15 (-1)) 155 0 ((I 155 0) + 1)), L, P)) ∧ (¬ (1 < x1) → (¬ x1 = 0 → (x2 < 0 → Q (some (.int (-1))) (t, T, (hf_up (hf_up I 100 15 (-1)) 155 0 ((I 155 0) + 1)), L, P)) ∧ (¬ (x2 < 0) → (9 < x2 → Q (some (.int (-1))) (t, T, (hf_up (hf_up I 100 15 (-1)) 155 0 ((I 155 0) + 1)), L, P)) ∧ (¬ (9 < x2) → vp_in x1 2 ∧ (vp_in x1 2 ∧ (Q (some (.int (I 104 x1.toNatClampNeg))) (t, T, (hf_up (hf_up (hf_up I 104 x1.toNatClampNeg x2) 100 15 0) 100 16 ((I 100 16) + 1)), L, P)))))) ∧ (x1 = 0 → (x2 < 0 → Q (some (.int (-1))) (t, T, (hf_up (hf_up I 100 15 (-1)) 155 0 ((I 155 0) + 1)), L, P)) ∧ (¬ (x2 < 0) → (999 < x2 → Q (some (.int (-1))) (t, T, (hf_up (hf_up I 100 15 (-1)) 155 0 ((I 155 0) + 1)), L, P)) ∧ (¬ (999 < x2) → vp_in x1 2 ∧ (vp_in x1 2 ∧ (Q (some (.int (I 104 x1.toNatClampNeg))) (t, T, (hf_up (hf_up (hf_up I 104 x1.toNatClampNeg x2) 100 15 0) 100 16 ((I 100 16) + 1)), L, P))))))))) : hf_G X Y_X11_terms (d + 2) k n 0 (hf_en [.ref 100, .int x1, .int x2] 4) [] (t, T, I, L, P) Q := by
  show hf_G X Y_X11_terms (d + 2) k n 0 [some (.ref 100), some (.int x1), some (.int x2), none] [] (t, T, I, L, P) Q
  refine hf_iload_n dX11_terms_0 rfl rfl ?_
  refine hf_iconst (v := 0) dX11_terms_1 (by decide) ?_
  refine hf_iconst (v := 1) dX11_terms_2 (by decide) ?_
  refine hf_callS (as := [.int x1, .int 0, .int 1]) ok_X11_within dX11_terms_3 hw405 hw406 rfl (Nat.le_of_ble_eq_true rfl) rfl (Nat.le_of_ble_eq_true rfl) (Nat.zero_le _) (Nat.zero_le _) ?_
  show hf_G X Y_X11_within (d + 1) _ _ 0 [some (.int x1), some (.int 0), some (.int 1)] [] (t, T, I, L, P) _
  refine hf_iload_n dX11_within_0 rfl rfl ?_
  refine hf_iload_n dX11_within_1 rfl rfl ?_
  refine hf_icmp_lt (tgt := 14) dX11_within_2 (by decide) (fun hc => ?_) (fun hc => ?_)
  · replace h := h.1 hc
    refine hf_iconst (v := 0) dX11_within_14 (by decide) ?_
    refine hf_ireturn dX11_within_15 rfl (by decide) ?_
    show hf_G X Y_X11_terms (d + 2) _ _ 6 [some (.ref 100), some (.int x1), some (.int x2), none] [.int 0] (t, T, I, L, P) _
    refine hf_if_eq (tgt := 29) dX11_terms_6 (by decide) (fun _ => ?_) (fun hc => absurd (show (0 : Int32) = (0 : Int32) by decide) hc)
    refine hf_aload_n dX11_terms_29 rfl rfl ?_
    refine hf_iconst (v := (-1)) dX11_terms_30 (by decide) ?_
    refine hf_callV (c := 11) (as := [.int (-1)]) ok_X11_refuse dX11_terms_31 hw408 hw409 hw1553 (hs.2.1 100 _ rfl) (by decide) (hf_lin hs 100 rfl) rfl (Nat.le_of_ble_eq_true rfl) rfl (Nat.le_of_ble_eq_true rfl) (Nat.zero_le _) (Nat.zero_le _) ?_
    show hf_G X Y_X11_refuse (d + 1) _ _ 0 [some (.ref 100), some (.int (-1))] [] (t, T, I, L, P) _
    refine hf_aload_n dX11_refuse_0 rfl rfl ?_
    refine hf_iload_n dX11_refuse_1 rfl rfl ?_
    refine hf_puti (c := 11) (j := 15) dX11_refuse_2 (hs.2.1 100 _ rfl) (hf_lin hs 100 rfl) (by decide) (by decide) hw381 rfl rfl ?_
    refine hf_aload_n dX11_refuse_5 rfl rfl ?_
    refine hf_getr (b := 155) (c := 11) (j := 12) dX11_refuse_6 (hs.2.1 100 _ rfl) (hf_lin hs 100 rfl) (by decide) (by decide) hw377 rfl (hs.2.2 100 12 _ rfl) ?_
    refine hf_iload_n dX11_refuse_9 rfl rfl ?_
    refine hf_callS (as := [.int (-1)]) ok_X11_refusalPlace dX11_refuse_10 hw411 hw412 rfl (Nat.le_of_ble_eq_true rfl) rfl (Nat.le_of_ble_eq_true rfl) (Nat.zero_le _) (Nat.zero_le _) ?_
    show hf_G X Y_X11_refusalPlace d _ _ 0 [some (.int (-1))] [] (t, T, (hf_up I 100 15 (-1)), L, P) _
    refine hf_iload_n dX11_refusalPlace_0 rfl rfl ?_
    refine hf_tableOut (tgt := 44) dX11_refusalPlace_1 (by decide) (by decide) ?_
    refine hf_iconst (v := 0) dX11_refusalPlace_44 (by decide) ?_
    refine hf_ireturn dX11_refusalPlace_45 rfl rfl ?_
    show hf_G X Y_X11_refuse (d + 1) _ _ 13 [some (.ref 100), some (.int (-1))] [.int 0, .ref 155] (t, T, (hf_up I 100 15 (-1)), L, P) _
    refine hf_dup2 dX11_refuse_13 rfl rfl ?_
    refine hf_iald_k (j := 0) (by decide) dX11_refuse_14 (hs.2.1 155 _ rfl) (hf_lin hs 155 rfl) (hf_vin (by decide)) ?_
    refine hf_iconst (v := 1) dX11_refuse_15 (by decide) ?_
    refine hf_iadd dX11_refuse_16 ?_
    refine hf_iast_k (j := 0) (by decide) dX11_refuse_17 (hs.2.1 155 _ rfl) (hf_lin hs 155 rfl) (hf_vin (by decide)) ?_
    refine hf_iload_n dX11_refuse_18 rfl rfl ?_
    refine hf_ireturn dX11_refuse_19 rfl rfl ?_
    show hf_G X Y_X11_terms (d + 2) _ _ 34 [some (.ref 100), some (.int x1), some (.int x2), none] [.int (-1)] (t, T, (hf_up (hf_up I 100 15 (-1)) 155 0 ((I 155 0) + 1)), L, P) _
    refine hf_ireturn dX11_terms_34 rfl rfl ?_
    exact h
  · replace h := h.2 hc
    refine hf_iload_n dX11_within_5 rfl rfl ?_
    refine hf_iload_n dX11_within_6 rfl rfl ?_
    refine hf_icmp_gt (tgt := 14) dX11_within_7 (by decide) (fun hc => ?_) (fun hc => ?_)
    · replace h := h.1 hc
      refine hf_iconst (v := 0) dX11_within_14 (by decide) ?_
      refine hf_ireturn dX11_within_15 rfl (by decide) ?_
      show hf_G X Y_X11_terms (d + 2) _ _ 6 [some (.ref 100), some (.int x1), some (.int x2), none] [.int 0] (t, T, I, L, P) _
      refine hf_if_eq (tgt := 29) dX11_terms_6 (by decide) (fun _ => ?_) (fun hc => absurd (show (0 : Int32) = (0 : Int32) by decide) hc)
      refine hf_aload_n dX11_terms_29 rfl rfl ?_
      refine hf_iconst (v := (-1)) dX11_terms_30 (by decide) ?_
      refine hf_callV (c := 11) (as := [.int (-1)]) ok_X11_refuse dX11_terms_31 hw408 hw409 hw1553 (hs.2.1 100 _ rfl) (by decide) (hf_lin hs 100 rfl) rfl (Nat.le_of_ble_eq_true rfl) rfl (Nat.le_of_ble_eq_true rfl) (Nat.zero_le _) (Nat.zero_le _) ?_
      show hf_G X Y_X11_refuse (d + 1) _ _ 0 [some (.ref 100), some (.int (-1))] [] (t, T, I, L, P) _
      refine hf_aload_n dX11_refuse_0 rfl rfl ?_
      refine hf_iload_n dX11_refuse_1 rfl rfl ?_
      refine hf_puti (c := 11) (j := 15) dX11_refuse_2 (hs.2.1 100 _ rfl) (hf_lin hs 100 rfl) (by decide) (by decide) hw381 rfl rfl ?_
      refine hf_aload_n dX11_refuse_5 rfl rfl ?_
      refine hf_getr (b := 155) (c := 11) (j := 12) dX11_refuse_6 (hs.2.1 100 _ rfl) (hf_lin hs 100 rfl) (by decide) (by decide) hw377 rfl (hs.2.2 100 12 _ rfl) ?_
      refine hf_iload_n dX11_refuse_9 rfl rfl ?_
      refine hf_callS (as := [.int (-1)]) ok_X11_refusalPlace dX11_refuse_10 hw411 hw412 rfl (Nat.le_of_ble_eq_true rfl) rfl (Nat.le_of_ble_eq_true rfl) (Nat.zero_le _) (Nat.zero_le _) ?_
      show hf_G X Y_X11_refusalPlace d _ _ 0 [some (.int (-1))] [] (t, T, (hf_up I 100 15 (-1)), L, P) _
      refine hf_iload_n dX11_refusalPlace_0 rfl rfl ?_
      refine hf_tableOut (tgt := 44) dX11_refusalPlace_1 (by decide) (by decide) ?_
      refine hf_iconst (v := 0) dX11_refusalPlace_44 (by decide) ?_
      refine hf_ireturn dX11_refusalPlace_45 rfl rfl ?_
      show hf_G X Y_X11_refuse (d + 1) _ _ 13 [some (.ref 100), some (.int (-1))] [.int 0, .ref 155] (t, T, (hf_up I 100 15 (-1)), L, P) _
      refine hf_dup2 dX11_refuse_13 rfl rfl ?_
      refine hf_iald_k (j := 0) (by decide) dX11_refuse_14 (hs.2.1 155 _ rfl) (hf_lin hs 155 rfl) (hf_vin (by decide)) ?_
      refine hf_iconst (v := 1) dX11_refuse_15 (by decide) ?_
      refine hf_iadd dX11_refuse_16 ?_
      refine hf_iast_k (j := 0) (by decide) dX11_refuse_17 (hs.2.1 155 _ rfl) (hf_lin hs 155 rfl) (hf_vin (by decide)) ?_
      refine hf_iload_n dX11_refuse_18 rfl rfl ?_
      refine hf_ireturn dX11_refuse_19 rfl rfl ?_
      show hf_G X Y_X11_terms (d + 2) _ _ 34 [some (.ref 100), some (.int x1), some (.int x2), none] [.int (-1)] (t, T, (hf_up (hf_up I 100 15 (-1)) 155 0 ((I 155 0) + 1)), L, P) _
      refine hf_ireturn dX11_terms_34 rfl rfl ?_
      exact h
    · replace h := h.2 hc
      refine hf_iconst (v := 1) dX11_within_10 (by decide) ?_
      refine hf_goto (tgt := 15) dX11_within_11 (by decide) ?_
      refine hf_ireturn dX11_within_15 rfl (by decide) ?_
      show hf_G X Y_X11_terms (d + 2) _ _ 6 [some (.ref 100), some (.int x1), some (.int x2), none] [.int 1] (t, T, I, L, P) _
      refine hf_if_eq (tgt := 29) dX11_terms_6 (by decide) (fun hc => absurd (show (1 : Int32) = (0 : Int32) from hc) (by decide)) (fun _ => ?_)
      refine hf_iload_n dX11_terms_9 rfl rfl ?_
      refine hf_iconst (v := 0) dX11_terms_10 (by decide) ?_
      refine hf_iload_n dX11_terms_11 rfl rfl ?_
      refine hf_if_ne (tgt := 21) dX11_terms_12 (by decide) (fun hc => ?_) (fun hc => ?_)
      · replace h := h.1 hc
        refine hf_bipush (v := 9) dX11_terms_21 (by decide) ?_
        refine hf_callS (as := [.int x2, .int 0, .int 9]) ok_X11_within dX11_terms_23 hw405 hw406 rfl (Nat.le_of_ble_eq_true rfl) rfl (Nat.le_of_ble_eq_true rfl) (Nat.zero_le _) (Nat.zero_le _) ?_
        show hf_G X Y_X11_within (d + 1) _ _ 0 [some (.int x2), some (.int 0), some (.int 9)] [] (t, T, I, L, P) _
        refine hf_iload_n dX11_within_0 rfl rfl ?_
        refine hf_iload_n dX11_within_1 rfl rfl ?_
        refine hf_icmp_lt (tgt := 14) dX11_within_2 (by decide) (fun hc => ?_) (fun hc => ?_)
        · replace h := h.1 hc
          refine hf_iconst (v := 0) dX11_within_14 (by decide) ?_
          refine hf_ireturn dX11_within_15 rfl (by decide) ?_
          show hf_G X Y_X11_terms (d + 2) _ _ 26 [some (.ref 100), some (.int x1), some (.int x2), none] [.int 0] (t, T, I, L, P) _
          refine hf_if_ne (tgt := 35) dX11_terms_26 (by decide) (fun hc => absurd (show ¬ (0 : Int32) = (0 : Int32) from hc) (by decide)) (fun _ => ?_)
          refine hf_aload_n dX11_terms_29 rfl rfl ?_
          refine hf_iconst (v := (-1)) dX11_terms_30 (by decide) ?_
          refine hf_callV (c := 11) (as := [.int (-1)]) ok_X11_refuse dX11_terms_31 hw408 hw409 hw1553 (hs.2.1 100 _ rfl) (by decide) (hf_lin hs 100 rfl) rfl (Nat.le_of_ble_eq_true rfl) rfl (Nat.le_of_ble_eq_true rfl) (Nat.zero_le _) (Nat.zero_le _) ?_
          show hf_G X Y_X11_refuse (d + 1) _ _ 0 [some (.ref 100), some (.int (-1))] [] (t, T, I, L, P) _
          refine hf_aload_n dX11_refuse_0 rfl rfl ?_
          refine hf_iload_n dX11_refuse_1 rfl rfl ?_
          refine hf_puti (c := 11) (j := 15) dX11_refuse_2 (hs.2.1 100 _ rfl) (hf_lin hs 100 rfl) (by decide) (by decide) hw381 rfl rfl ?_
          refine hf_aload_n dX11_refuse_5 rfl rfl ?_
          refine hf_getr (b := 155) (c := 11) (j := 12) dX11_refuse_6 (hs.2.1 100 _ rfl) (hf_lin hs 100 rfl) (by decide) (by decide) hw377 rfl (hs.2.2 100 12 _ rfl) ?_
          refine hf_iload_n dX11_refuse_9 rfl rfl ?_
          refine hf_callS (as := [.int (-1)]) ok_X11_refusalPlace dX11_refuse_10 hw411 hw412 rfl (Nat.le_of_ble_eq_true rfl) rfl (Nat.le_of_ble_eq_true rfl) (Nat.zero_le _) (Nat.zero_le _) ?_
          show hf_G X Y_X11_refusalPlace d _ _ 0 [some (.int (-1))] [] (t, T, (hf_up I 100 15 (-1)), L, P) _
          refine hf_iload_n dX11_refusalPlace_0 rfl rfl ?_
          refine hf_tableOut (tgt := 44) dX11_refusalPlace_1 (by decide) (by decide) ?_
          refine hf_iconst (v := 0) dX11_refusalPlace_44 (by decide) ?_
          refine hf_ireturn dX11_refusalPlace_45 rfl rfl ?_
          show hf_G X Y_X11_refuse (d + 1) _ _ 13 [some (.ref 100), some (.int (-1))] [.int 0, .ref 155] (t, T, (hf_up I 100 15 (-1)), L, P) _
          refine hf_dup2 dX11_refuse_13 rfl rfl ?_
          refine hf_iald_k (j := 0) (by decide) dX11_refuse_14 (hs.2.1 155 _ rfl) (hf_lin hs 155 rfl) (hf_vin (by decide)) ?_
          refine hf_iconst (v := 1) dX11_refuse_15 (by decide) ?_
          refine hf_iadd dX11_refuse_16 ?_
          refine hf_iast_k (j := 0) (by decide) dX11_refuse_17 (hs.2.1 155 _ rfl) (hf_lin hs 155 rfl) (hf_vin (by decide)) ?_
          refine hf_iload_n dX11_refuse_18 rfl rfl ?_
          refine hf_ireturn dX11_refuse_19 rfl rfl ?_
          show hf_G X Y_X11_terms (d + 2) _ _ 34 [some (.ref 100), some (.int x1), some (.int x2), none] [.int (-1)] (t, T, (hf_up (hf_up I 100 15 (-1)) 155 0 ((I 155 0) + 1)), L, P) _
          refine hf_ireturn dX11_terms_34 rfl rfl ?_
          exact h
        · replace h := h.2 hc
          refine hf_iload_n dX11_within_5 rfl rfl ?_
          refine hf_iload_n dX11_within_6 rfl rfl ?_
          refine hf_icmp_gt (tgt := 14) dX11_within_7 (by decide) (fun hc => ?_) (fun hc => ?_)
          · replace h := h.1 hc
            refine hf_iconst (v := 0) dX11_within_14 (by decide) ?_
            refine hf_ireturn dX11_within_15 rfl (by decide) ?_
            show hf_G X Y_X11_terms (d + 2) _ _ 26 [some (.ref 100), some (.int x1), some (.int x2), none] [.int 0] (t, T, I, L, P) _
            refine hf_if_ne (tgt := 35) dX11_terms_26 (by decide) (fun hc => absurd (show ¬ (0 : Int32) = (0 : Int32) from hc) (by decide)) (fun _ => ?_)
            refine hf_aload_n dX11_terms_29 rfl rfl ?_
            refine hf_iconst (v := (-1)) dX11_terms_30 (by decide) ?_
            refine hf_callV (c := 11) (as := [.int (-1)]) ok_X11_refuse dX11_terms_31 hw408 hw409 hw1553 (hs.2.1 100 _ rfl) (by decide) (hf_lin hs 100 rfl) rfl (Nat.le_of_ble_eq_true rfl) rfl (Nat.le_of_ble_eq_true rfl) (Nat.zero_le _) (Nat.zero_le _) ?_
            show hf_G X Y_X11_refuse (d + 1) _ _ 0 [some (.ref 100), some (.int (-1))] [] (t, T, I, L, P) _
            refine hf_aload_n dX11_refuse_0 rfl rfl ?_
            refine hf_iload_n dX11_refuse_1 rfl rfl ?_
            refine hf_puti (c := 11) (j := 15) dX11_refuse_2 (hs.2.1 100 _ rfl) (hf_lin hs 100 rfl) (by decide) (by decide) hw381 rfl rfl ?_
            refine hf_aload_n dX11_refuse_5 rfl rfl ?_
            refine hf_getr (b := 155) (c := 11) (j := 12) dX11_refuse_6 (hs.2.1 100 _ rfl) (hf_lin hs 100 rfl) (by decide) (by decide) hw377 rfl (hs.2.2 100 12 _ rfl) ?_
            refine hf_iload_n dX11_refuse_9 rfl rfl ?_
            refine hf_callS (as := [.int (-1)]) ok_X11_refusalPlace dX11_refuse_10 hw411 hw412 rfl (Nat.le_of_ble_eq_true rfl) rfl (Nat.le_of_ble_eq_true rfl) (Nat.zero_le _) (Nat.zero_le _) ?_
            show hf_G X Y_X11_refusalPlace d _ _ 0 [some (.int (-1))] [] (t, T, (hf_up I 100 15 (-1)), L, P) _
            refine hf_iload_n dX11_refusalPlace_0 rfl rfl ?_
            refine hf_tableOut (tgt := 44) dX11_refusalPlace_1 (by decide) (by decide) ?_
            refine hf_iconst (v := 0) dX11_refusalPlace_44 (by decide) ?_
            refine hf_ireturn dX11_refusalPlace_45 rfl rfl ?_
            show hf_G X Y_X11_refuse (d + 1) _ _ 13 [some (.ref 100), some (.int (-1))] [.int 0, .ref 155] (t, T, (hf_up I 100 15 (-1)), L, P) _
            refine hf_dup2 dX11_refuse_13 rfl rfl ?_
            refine hf_iald_k (j := 0) (by decide) dX11_refuse_14 (hs.2.1 155 _ rfl) (hf_lin hs 155 rfl) (hf_vin (by decide)) ?_
            refine hf_iconst (v := 1) dX11_refuse_15 (by decide) ?_
            refine hf_iadd dX11_refuse_16 ?_
            refine hf_iast_k (j := 0) (by decide) dX11_refuse_17 (hs.2.1 155 _ rfl) (hf_lin hs 155 rfl) (hf_vin (by decide)) ?_
            refine hf_iload_n dX11_refuse_18 rfl rfl ?_
            refine hf_ireturn dX11_refuse_19 rfl rfl ?_
            show hf_G X Y_X11_terms (d + 2) _ _ 34 [some (.ref 100), some (.int x1), some (.int x2), none] [.int (-1)] (t, T, (hf_up (hf_up I 100 15 (-1)) 155 0 ((I 155 0) + 1)), L, P) _
            refine hf_ireturn dX11_terms_34 rfl rfl ?_
            exact h
          · replace h := h.2 hc
            refine hf_iconst (v := 1) dX11_within_10 (by decide) ?_
            refine hf_goto (tgt := 15) dX11_within_11 (by decide) ?_
            refine hf_ireturn dX11_within_15 rfl (by decide) ?_
            show hf_G X Y_X11_terms (d + 2) _ _ 26 [some (.ref 100), some (.int x1), some (.int x2), none] [.int 1] (t, T, I, L, P) _
            refine hf_if_ne (tgt := 35) dX11_terms_26 (by decide) (fun _ => ?_) (fun hc => absurd (show (1 : Int32) = (0 : Int32) from hc) (by decide))
            refine hf_aload_n dX11_terms_35 rfl rfl ?_
            refine hf_getr (b := 101) (c := 11) (j := 0) dX11_terms_36 (hs.2.1 100 _ rfl) (hf_lin hs 100 rfl) (by decide) (by decide) hw365 rfl (hs.2.2 100 0 _ rfl) ?_
            refine hf_getr (b := 104) (c := 1) (j := 2) dX11_terms_39 (hs.2.1 101 _ rfl) (hf_lin hs 101 rfl) (by decide) (by decide) hw105 rfl (hs.2.2 101 2 _ rfl) ?_
            refine hf_iload_n dX11_terms_42 rfl rfl ?_
            refine hf_iald dX11_terms_43 (hs.2.1 104 _ rfl) (hf_lin hs 104 rfl) h.1 ?_
            replace h := h.2
            refine hf_istore_n (l2 := [some (.ref 100), some (.int x1), some (.int x2), some (.int (I 104 x1.toNatClampNeg))]) dX11_terms_44 rfl (by decide) rfl ?_
            refine hf_aload_n dX11_terms_45 rfl rfl ?_
            refine hf_getr (b := 101) (c := 11) (j := 0) dX11_terms_46 (hs.2.1 100 _ rfl) (hf_lin hs 100 rfl) (by decide) (by decide) hw365 rfl (hs.2.2 100 0 _ rfl) ?_
            refine hf_getr (b := 104) (c := 1) (j := 2) dX11_terms_49 (hs.2.1 101 _ rfl) (hf_lin hs 101 rfl) (by decide) (by decide) hw105 rfl (hs.2.2 101 2 _ rfl) ?_
            refine hf_iload_n dX11_terms_52 rfl rfl ?_
            refine hf_iload_n dX11_terms_53 rfl rfl ?_
            refine hf_iast dX11_terms_54 (hs.2.1 104 _ rfl) (hf_lin hs 104 rfl) h.1 ?_
            replace h := h.2
            refine hf_aload_n dX11_terms_55 rfl rfl ?_
            refine hf_iload_n dX11_terms_56 rfl rfl ?_
            refine hf_callV (c := 11) (as := [.int (I 104 x1.toNatClampNeg)]) ok_X11_granted dX11_terms_57 hw418 hw419 hw1554 (hs.2.1 100 _ rfl) (by decide) (hf_lin hs 100 rfl) rfl (Nat.le_of_ble_eq_true rfl) rfl (Nat.le_of_ble_eq_true rfl) (Nat.zero_le _) (Nat.zero_le _) ?_
            show hf_G X Y_X11_granted (d + 1) _ _ 0 [some (.ref 100), some (.int (I 104 x1.toNatClampNeg))] [] (t, T, (hf_up I 104 x1.toNatClampNeg x2), L, P) _
            refine hf_aload_n dX11_granted_0 rfl rfl ?_
            refine hf_iconst (v := 0) dX11_granted_1 (by decide) ?_
            refine hf_puti (c := 11) (j := 15) dX11_granted_2 (hs.2.1 100 _ rfl) (hf_lin hs 100 rfl) (by decide) (by decide) hw381 rfl rfl ?_
            refine hf_aload_n dX11_granted_5 rfl rfl ?_
            refine hf_dup dX11_granted_6 rfl ?_
            refine hf_geti (c := 11) (j := 16) dX11_granted_7 (hs.2.1 100 _ rfl) (hf_lin hs 100 rfl) (by decide) (by decide) hw382 (Or.inl rfl) ?_
            refine hf_iconst (v := 1) dX11_granted_10 (by decide) ?_
            refine hf_iadd dX11_granted_11 ?_
            refine hf_puti (c := 11) (j := 16) dX11_granted_12 (hs.2.1 100 _ rfl) (hf_lin hs 100 rfl) (by decide) (by decide) hw382 rfl rfl ?_
            refine hf_iload_n dX11_granted_15 rfl rfl ?_
            refine hf_ireturn dX11_granted_16 rfl rfl ?_
            show hf_G X Y_X11_terms (d + 2) _ _ 60 [some (.ref 100), some (.int x1), some (.int x2), some (.int (I 104 x1.toNatClampNeg))] [.int (I 104 x1.toNatClampNeg)] (t, T, (hf_up (hf_up (hf_up I 104 x1.toNatClampNeg x2) 100 15 0) 100 16 ((I 100 16) + 1)), L, P) _
            refine hf_ireturn dX11_terms_60 rfl rfl ?_
            exact h
      · replace h := h.2 hc
        refine hf_sipush (v := 999) dX11_terms_15 (by decide) ?_
        refine hf_goto (tgt := 23) dX11_terms_18 (by decide) ?_
        refine hf_callS (as := [.int x2, .int 0, .int 999]) ok_X11_within dX11_terms_23 hw405 hw406 rfl (Nat.le_of_ble_eq_true rfl) rfl (Nat.le_of_ble_eq_true rfl) (Nat.zero_le _) (Nat.zero_le _) ?_
        show hf_G X Y_X11_within (d + 1) _ _ 0 [some (.int x2), some (.int 0), some (.int 999)] [] (t, T, I, L, P) _
        refine hf_iload_n dX11_within_0 rfl rfl ?_
        refine hf_iload_n dX11_within_1 rfl rfl ?_
        refine hf_icmp_lt (tgt := 14) dX11_within_2 (by decide) (fun hc => ?_) (fun hc => ?_)
        · replace h := h.1 hc
          refine hf_iconst (v := 0) dX11_within_14 (by decide) ?_
          refine hf_ireturn dX11_within_15 rfl (by decide) ?_
          show hf_G X Y_X11_terms (d + 2) _ _ 26 [some (.ref 100), some (.int x1), some (.int x2), none] [.int 0] (t, T, I, L, P) _
          refine hf_if_ne (tgt := 35) dX11_terms_26 (by decide) (fun hc => absurd (show ¬ (0 : Int32) = (0 : Int32) from hc) (by decide)) (fun _ => ?_)
          refine hf_aload_n dX11_terms_29 rfl rfl ?_
          refine hf_iconst (v := (-1)) dX11_terms_30 (by decide) ?_
          refine hf_callV (c := 11) (as := [.int (-1)]) ok_X11_refuse dX11_terms_31 hw408 hw409 hw1553 (hs.2.1 100 _ rfl) (by decide) (hf_lin hs 100 rfl) rfl (Nat.le_of_ble_eq_true rfl) rfl (Nat.le_of_ble_eq_true rfl) (Nat.zero_le _) (Nat.zero_le _) ?_
          show hf_G X Y_X11_refuse (d + 1) _ _ 0 [some (.ref 100), some (.int (-1))] [] (t, T, I, L, P) _
          refine hf_aload_n dX11_refuse_0 rfl rfl ?_
          refine hf_iload_n dX11_refuse_1 rfl rfl ?_
          refine hf_puti (c := 11) (j := 15) dX11_refuse_2 (hs.2.1 100 _ rfl) (hf_lin hs 100 rfl) (by decide) (by decide) hw381 rfl rfl ?_
          refine hf_aload_n dX11_refuse_5 rfl rfl ?_
          refine hf_getr (b := 155) (c := 11) (j := 12) dX11_refuse_6 (hs.2.1 100 _ rfl) (hf_lin hs 100 rfl) (by decide) (by decide) hw377 rfl (hs.2.2 100 12 _ rfl) ?_
          refine hf_iload_n dX11_refuse_9 rfl rfl ?_
          refine hf_callS (as := [.int (-1)]) ok_X11_refusalPlace dX11_refuse_10 hw411 hw412 rfl (Nat.le_of_ble_eq_true rfl) rfl (Nat.le_of_ble_eq_true rfl) (Nat.zero_le _) (Nat.zero_le _) ?_
          show hf_G X Y_X11_refusalPlace d _ _ 0 [some (.int (-1))] [] (t, T, (hf_up I 100 15 (-1)), L, P) _
          refine hf_iload_n dX11_refusalPlace_0 rfl rfl ?_
          refine hf_tableOut (tgt := 44) dX11_refusalPlace_1 (by decide) (by decide) ?_
          refine hf_iconst (v := 0) dX11_refusalPlace_44 (by decide) ?_
          refine hf_ireturn dX11_refusalPlace_45 rfl rfl ?_
          show hf_G X Y_X11_refuse (d + 1) _ _ 13 [some (.ref 100), some (.int (-1))] [.int 0, .ref 155] (t, T, (hf_up I 100 15 (-1)), L, P) _
          refine hf_dup2 dX11_refuse_13 rfl rfl ?_
          refine hf_iald_k (j := 0) (by decide) dX11_refuse_14 (hs.2.1 155 _ rfl) (hf_lin hs 155 rfl) (hf_vin (by decide)) ?_
          refine hf_iconst (v := 1) dX11_refuse_15 (by decide) ?_
          refine hf_iadd dX11_refuse_16 ?_
          refine hf_iast_k (j := 0) (by decide) dX11_refuse_17 (hs.2.1 155 _ rfl) (hf_lin hs 155 rfl) (hf_vin (by decide)) ?_
          refine hf_iload_n dX11_refuse_18 rfl rfl ?_
          refine hf_ireturn dX11_refuse_19 rfl rfl ?_
          show hf_G X Y_X11_terms (d + 2) _ _ 34 [some (.ref 100), some (.int x1), some (.int x2), none] [.int (-1)] (t, T, (hf_up (hf_up I 100 15 (-1)) 155 0 ((I 155 0) + 1)), L, P) _
          refine hf_ireturn dX11_terms_34 rfl rfl ?_
          exact h
        · replace h := h.2 hc
          refine hf_iload_n dX11_within_5 rfl rfl ?_
          refine hf_iload_n dX11_within_6 rfl rfl ?_
          refine hf_icmp_gt (tgt := 14) dX11_within_7 (by decide) (fun hc => ?_) (fun hc => ?_)
          · replace h := h.1 hc
            refine hf_iconst (v := 0) dX11_within_14 (by decide) ?_
            refine hf_ireturn dX11_within_15 rfl (by decide) ?_
            show hf_G X Y_X11_terms (d + 2) _ _ 26 [some (.ref 100), some (.int x1), some (.int x2), none] [.int 0] (t, T, I, L, P) _
            refine hf_if_ne (tgt := 35) dX11_terms_26 (by decide) (fun hc => absurd (show ¬ (0 : Int32) = (0 : Int32) from hc) (by decide)) (fun _ => ?_)
            refine hf_aload_n dX11_terms_29 rfl rfl ?_
            refine hf_iconst (v := (-1)) dX11_terms_30 (by decide) ?_
            refine hf_callV (c := 11) (as := [.int (-1)]) ok_X11_refuse dX11_terms_31 hw408 hw409 hw1553 (hs.2.1 100 _ rfl) (by decide) (hf_lin hs 100 rfl) rfl (Nat.le_of_ble_eq_true rfl) rfl (Nat.le_of_ble_eq_true rfl) (Nat.zero_le _) (Nat.zero_le _) ?_
            show hf_G X Y_X11_refuse (d + 1) _ _ 0 [some (.ref 100), some (.int (-1))] [] (t, T, I, L, P) _
            refine hf_aload_n dX11_refuse_0 rfl rfl ?_
            refine hf_iload_n dX11_refuse_1 rfl rfl ?_
            refine hf_puti (c := 11) (j := 15) dX11_refuse_2 (hs.2.1 100 _ rfl) (hf_lin hs 100 rfl) (by decide) (by decide) hw381 rfl rfl ?_
            refine hf_aload_n dX11_refuse_5 rfl rfl ?_
            refine hf_getr (b := 155) (c := 11) (j := 12) dX11_refuse_6 (hs.2.1 100 _ rfl) (hf_lin hs 100 rfl) (by decide) (by decide) hw377 rfl (hs.2.2 100 12 _ rfl) ?_
            refine hf_iload_n dX11_refuse_9 rfl rfl ?_
            refine hf_callS (as := [.int (-1)]) ok_X11_refusalPlace dX11_refuse_10 hw411 hw412 rfl (Nat.le_of_ble_eq_true rfl) rfl (Nat.le_of_ble_eq_true rfl) (Nat.zero_le _) (Nat.zero_le _) ?_
            show hf_G X Y_X11_refusalPlace d _ _ 0 [some (.int (-1))] [] (t, T, (hf_up I 100 15 (-1)), L, P) _
            refine hf_iload_n dX11_refusalPlace_0 rfl rfl ?_
            refine hf_tableOut (tgt := 44) dX11_refusalPlace_1 (by decide) (by decide) ?_
            refine hf_iconst (v := 0) dX11_refusalPlace_44 (by decide) ?_
            refine hf_ireturn dX11_refusalPlace_45 rfl rfl ?_
            show hf_G X Y_X11_refuse (d + 1) _ _ 13 [some (.ref 100), some (.int (-1))] [.int 0, .ref 155] (t, T, (hf_up I 100 15 (-1)), L, P) _
            refine hf_dup2 dX11_refuse_13 rfl rfl ?_
            refine hf_iald_k (j := 0) (by decide) dX11_refuse_14 (hs.2.1 155 _ rfl) (hf_lin hs 155 rfl) (hf_vin (by decide)) ?_
            refine hf_iconst (v := 1) dX11_refuse_15 (by decide) ?_
            refine hf_iadd dX11_refuse_16 ?_
            refine hf_iast_k (j := 0) (by decide) dX11_refuse_17 (hs.2.1 155 _ rfl) (hf_lin hs 155 rfl) (hf_vin (by decide)) ?_
            refine hf_iload_n dX11_refuse_18 rfl rfl ?_
            refine hf_ireturn dX11_refuse_19 rfl rfl ?_
            show hf_G X Y_X11_terms (d + 2) _ _ 34 [some (.ref 100), some (.int x1), some (.int x2), none] [.int (-1)] (t, T, (hf_up (hf_up I 100 15 (-1)) 155 0 ((I 155 0) + 1)), L, P) _
            refine hf_ireturn dX11_terms_34 rfl rfl ?_
            exact h
          · replace h := h.2 hc
            refine hf_iconst (v := 1) dX11_within_10 (by decide) ?_
            refine hf_goto (tgt := 15) dX11_within_11 (by decide) ?_
            refine hf_ireturn dX11_within_15 rfl (by decide) ?_
            show hf_G X Y_X11_terms (d + 2) _ _ 26 [some (.ref 100), some (.int x1), some (.int x2), none] [.int 1] (t, T, I, L, P) _
            refine hf_if_ne (tgt := 35) dX11_terms_26 (by decide) (fun _ => ?_) (fun hc => absurd (show (1 : Int32) = (0 : Int32) from hc) (by decide))
            refine hf_aload_n dX11_terms_35 rfl rfl ?_
            refine hf_getr (b := 101) (c := 11) (j := 0) dX11_terms_36 (hs.2.1 100 _ rfl) (hf_lin hs 100 rfl) (by decide) (by decide) hw365 rfl (hs.2.2 100 0 _ rfl) ?_
            refine hf_getr (b := 104) (c := 1) (j := 2) dX11_terms_39 (hs.2.1 101 _ rfl) (hf_lin hs 101 rfl) (by decide) (by decide) hw105 rfl (hs.2.2 101 2 _ rfl) ?_
            refine hf_iload_n dX11_terms_42 rfl rfl ?_
            refine hf_iald dX11_terms_43 (hs.2.1 104 _ rfl) (hf_lin hs 104 rfl) h.1 ?_
            replace h := h.2
            refine hf_istore_n (l2 := [some (.ref 100), some (.int x1), some (.int x2), some (.int (I 104 x1.toNatClampNeg))]) dX11_terms_44 rfl (by decide) rfl ?_
            refine hf_aload_n dX11_terms_45 rfl rfl ?_
            refine hf_getr (b := 101) (c := 11) (j := 0) dX11_terms_46 (hs.2.1 100 _ rfl) (hf_lin hs 100 rfl) (by decide) (by decide) hw365 rfl (hs.2.2 100 0 _ rfl) ?_
            refine hf_getr (b := 104) (c := 1) (j := 2) dX11_terms_49 (hs.2.1 101 _ rfl) (hf_lin hs 101 rfl) (by decide) (by decide) hw105 rfl (hs.2.2 101 2 _ rfl) ?_
            refine hf_iload_n dX11_terms_52 rfl rfl ?_
            refine hf_iload_n dX11_terms_53 rfl rfl ?_
            refine hf_iast dX11_terms_54 (hs.2.1 104 _ rfl) (hf_lin hs 104 rfl) h.1 ?_
            replace h := h.2
            refine hf_aload_n dX11_terms_55 rfl rfl ?_
            refine hf_iload_n dX11_terms_56 rfl rfl ?_
            refine hf_callV (c := 11) (as := [.int (I 104 x1.toNatClampNeg)]) ok_X11_granted dX11_terms_57 hw418 hw419 hw1554 (hs.2.1 100 _ rfl) (by decide) (hf_lin hs 100 rfl) rfl (Nat.le_of_ble_eq_true rfl) rfl (Nat.le_of_ble_eq_true rfl) (Nat.zero_le _) (Nat.zero_le _) ?_
            show hf_G X Y_X11_granted (d + 1) _ _ 0 [some (.ref 100), some (.int (I 104 x1.toNatClampNeg))] [] (t, T, (hf_up I 104 x1.toNatClampNeg x2), L, P) _
            refine hf_aload_n dX11_granted_0 rfl rfl ?_
            refine hf_iconst (v := 0) dX11_granted_1 (by decide) ?_
            refine hf_puti (c := 11) (j := 15) dX11_granted_2 (hs.2.1 100 _ rfl) (hf_lin hs 100 rfl) (by decide) (by decide) hw381 rfl rfl ?_
            refine hf_aload_n dX11_granted_5 rfl rfl ?_
            refine hf_dup dX11_granted_6 rfl ?_
            refine hf_geti (c := 11) (j := 16) dX11_granted_7 (hs.2.1 100 _ rfl) (hf_lin hs 100 rfl) (by decide) (by decide) hw382 (Or.inl rfl) ?_
            refine hf_iconst (v := 1) dX11_granted_10 (by decide) ?_
            refine hf_iadd dX11_granted_11 ?_
            refine hf_puti (c := 11) (j := 16) dX11_granted_12 (hs.2.1 100 _ rfl) (hf_lin hs 100 rfl) (by decide) (by decide) hw382 rfl rfl ?_
            refine hf_iload_n dX11_granted_15 rfl rfl ?_
            refine hf_ireturn dX11_granted_16 rfl rfl ?_
            show hf_G X Y_X11_terms (d + 2) _ _ 60 [some (.ref 100), some (.int x1), some (.int x2), some (.int (I 104 x1.toNatClampNeg))] [.int (I 104 x1.toNatClampNeg)] (t, T, (hf_up (hf_up (hf_up I 104 x1.toNatClampNeg x2) 100 15 0) 100 16 ((I 100 16) + 1)), L, P) _
            refine hf_ireturn dX11_terms_60 rfl rfl ?_
            exact h

set_option maxHeartbeats 4000000 in
theorem w_X11_feed_0 {X : hf_X} {d k n t : Nat} {T : hf_T} {I : hf_I} {L : hf_L} {P : hf_P} {Q : Option Value → hf_M → Prop} {x1 : Int32} {x2 : Int32} {x3 : Int32} {x4 : Int32} {x5 : Int32} (hs : hf_Lay t T P) (h : (((I 100 13) + 20) ≤ 400 → hf_G X Y_X11_addBytes d 0 0 0 (hf_en [.ref 100, .int x1] 3) [] (t, T, I, L, P) (fun r M => hf_G X Y_X11_feed (d + 1) k n 20 [some (.ref 100), none, some (.int x2), some (.int x3), some (.int x4), some (.int x5)] (r.toList ++ []) M Q)) ∧ (¬ (((I 100 13) + 20) ≤ 400) → Q (some (.int (-1))) (t, T, I, L, P))) : hf_G X Y_X11_feed (d + 1) k n 0 (hf_en [.ref 100, .int x1, .int x2, .int x3, .int x4, .int x5] 6) [] (t, T, I, L, P) Q := by
  show hf_G X Y_X11_feed (d + 1) k n 0 [some (.ref 100), some (.int x1), some (.int x2), some (.int x3), some (.int x4), some (.int x5)] [] (t, T, I, L, P) Q
  refine hf_aload_n dX11_feed_0 rfl rfl ?_
  refine hf_geti (c := 11) (j := 13) dX11_feed_1 (hs.2.1 100 _ rfl) (hf_lin hs 100 rfl) (by decide) (by decide) hw378 (Or.inl rfl) ?_
  refine hf_bipush (v := 20) dX11_feed_4 (by decide) ?_
  refine hf_iadd dX11_feed_6 ?_
  refine hf_sipush (v := 400) dX11_feed_7 (by decide) ?_
  refine hf_icmp_le (tgt := 15) dX11_feed_10 (by decide) (fun hc => ?_) (fun hc => ?_)
  · replace h := h.1 hc
    refine hf_aload_n dX11_feed_15 rfl rfl ?_
    refine hf_iload_n dX11_feed_16 rfl rfl ?_
    exact hf_callV (c := 11) (as := [.int x1]) ok_X11_addBytes dX11_feed_17 hw447 hw448 hw1557 (hs.2.1 100 _ rfl) (by decide) (hf_lin hs 100 rfl) rfl (Nat.le_of_ble_eq_true rfl) rfl (Nat.le_of_ble_eq_true rfl) (Nat.zero_le _) (Nat.zero_le _) (hf_mono (fun r M q => hf_drop (l' := [some (.ref 100), none, some (.int x2), some (.int x3), some (.int x4), some (.int x5)]) (by simp [hf_sub]) q) h)
  · replace h := h.2 hc
    refine hf_iconst (v := (-1)) dX11_feed_13 (by decide) ?_
    refine hf_ireturn dX11_feed_14 rfl rfl ?_
    exact h

set_option maxHeartbeats 4000000 in
theorem w_X11_feed_20 {X : hf_X} {d k n t : Nat} {T : hf_T} {I : hf_I} {L : hf_L} {P : hf_P} {Q : Option Value → hf_M → Prop} {x2 : Int32} {x3 : Int32} {x4 : Int32} {x5 : Int32} (hs : hf_Lay t T P) (h : hf_G X Y_X11_addBytes d 0 0 0 (hf_en [.ref 100, .int x2] 3) [] (t, T, I, L, P) (fun r M => hf_G X Y_X11_feed (d + 1) k n 25 [some (.ref 100), none, none, some (.int x3), some (.int x4), some (.int x5)] (r.toList ++ []) M Q)) : hf_G X Y_X11_feed (d + 1) k n 20 [some (.ref 100), none, some (.int x2), some (.int x3), some (.int x4), some (.int x5)] [] (t, T, I, L, P) Q := by
  refine hf_aload_n dX11_feed_20 rfl rfl ?_
  refine hf_iload_n dX11_feed_21 rfl rfl ?_
  exact hf_callV (c := 11) (as := [.int x2]) ok_X11_addBytes dX11_feed_22 hw447 hw448 hw1557 (hs.2.1 100 _ rfl) (by decide) (hf_lin hs 100 rfl) rfl (Nat.le_of_ble_eq_true rfl) rfl (Nat.le_of_ble_eq_true rfl) (Nat.zero_le _) (Nat.zero_le _) (hf_mono (fun r M q => hf_drop (l' := [some (.ref 100), none, none, some (.int x3), some (.int x4), some (.int x5)]) (by simp [hf_sub]) q) h)

set_option maxHeartbeats 4000000 in
theorem w_X11_feed_25 {X : hf_X} {d k n t : Nat} {T : hf_T} {I : hf_I} {L : hf_L} {P : hf_P} {Q : Option Value → hf_M → Prop} {x3 : Int32} {x4 : Int32} {x5 : Int32} (hs : hf_Lay t T P) (h : hf_G X Y_X11_addBytes d 0 0 0 (hf_en [.ref 100, .int x3] 3) [] (t, T, I, L, P) (fun r M => hf_G X Y_X11_feed (d + 1) k n 30 [some (.ref 100), none, none, none, some (.int x4), some (.int x5)] (r.toList ++ []) M Q)) : hf_G X Y_X11_feed (d + 1) k n 25 [some (.ref 100), none, none, some (.int x3), some (.int x4), some (.int x5)] [] (t, T, I, L, P) Q := by
  refine hf_aload_n dX11_feed_25 rfl rfl ?_
  refine hf_iload_n dX11_feed_26 rfl rfl ?_
  exact hf_callV (c := 11) (as := [.int x3]) ok_X11_addBytes dX11_feed_27 hw447 hw448 hw1557 (hs.2.1 100 _ rfl) (by decide) (hf_lin hs 100 rfl) rfl (Nat.le_of_ble_eq_true rfl) rfl (Nat.le_of_ble_eq_true rfl) (Nat.zero_le _) (Nat.zero_le _) (hf_mono (fun r M q => hf_drop (l' := [some (.ref 100), none, none, none, some (.int x4), some (.int x5)]) (by simp [hf_sub]) q) h)

set_option maxHeartbeats 4000000 in
theorem w_X11_feed_30 {X : hf_X} {d k n t : Nat} {T : hf_T} {I : hf_I} {L : hf_L} {P : hf_P} {Q : Option Value → hf_M → Prop} {x4 : Int32} {x5 : Int32} (hs : hf_Lay t T P) (h : hf_G X Y_X11_addBytes d 0 0 0 (hf_en [.ref 100, .int x4] 3) [] (t, T, I, L, P) (fun r M => hf_G X Y_X11_feed (d + 1) k n 36 [some (.ref 100), none, none, none, none, some (.int x5)] (r.toList ++ []) M Q)) : hf_G X Y_X11_feed (d + 1) k n 30 [some (.ref 100), none, none, none, some (.int x4), some (.int x5)] [] (t, T, I, L, P) Q := by
  refine hf_aload_n dX11_feed_30 rfl rfl ?_
  refine hf_iload dX11_feed_31 rfl ?_
  exact hf_callV (c := 11) (as := [.int x4]) ok_X11_addBytes dX11_feed_33 hw447 hw448 hw1557 (hs.2.1 100 _ rfl) (by decide) (hf_lin hs 100 rfl) rfl (Nat.le_of_ble_eq_true rfl) rfl (Nat.le_of_ble_eq_true rfl) (Nat.zero_le _) (Nat.zero_le _) (hf_mono (fun r M q => hf_drop (l' := [some (.ref 100), none, none, none, none, some (.int x5)]) (by simp [hf_sub]) q) h)

set_option maxHeartbeats 4000000 in
theorem w_X11_feed_36 {X : hf_X} {d k n t : Nat} {T : hf_T} {I : hf_I} {L : hf_L} {P : hf_P} {Q : Option Value → hf_M → Prop} {x5 : Int32} (hs : hf_Lay t T P) (h : hf_G X Y_X11_addBytes d 0 0 0 (hf_en [.ref 100, .int x5] 3) [] (t, T, I, L, P) (fun r M => hf_G X Y_X11_feed (d + 1) k n 42 [some (.ref 100), none, none, none, none, none] (r.toList ++ []) M Q)) : hf_G X Y_X11_feed (d + 1) k n 36 [some (.ref 100), none, none, none, none, some (.int x5)] [] (t, T, I, L, P) Q := by
  refine hf_aload_n dX11_feed_36 rfl rfl ?_
  refine hf_iload dX11_feed_37 rfl ?_
  exact hf_callV (c := 11) (as := [.int x5]) ok_X11_addBytes dX11_feed_39 hw447 hw448 hw1557 (hs.2.1 100 _ rfl) (by decide) (hf_lin hs 100 rfl) rfl (Nat.le_of_ble_eq_true rfl) rfl (Nat.le_of_ble_eq_true rfl) (Nat.zero_le _) (Nat.zero_le _) (hf_mono (fun r M q => hf_drop (l' := [some (.ref 100), none, none, none, none, none]) (by simp [hf_sub]) q) h)

set_option maxHeartbeats 4000000 in
theorem w_X11_feed_42 {X : hf_X} {d k n t : Nat} {T : hf_T} {I : hf_I} {L : hf_L} {P : hf_P} {Q : Option Value → hf_M → Prop}  (hs : hf_Lay t T P) (h : Q (some (.int (I 100 13))) (t, T, I, L, P)) : hf_G X Y_X11_feed d k n 42 [some (.ref 100), none, none, none, none, none] [] (t, T, I, L, P) Q := by
  refine hf_aload_n dX11_feed_42 rfl rfl ?_
  refine hf_geti (c := 11) (j := 13) dX11_feed_43 (hs.2.1 100 _ rfl) (hf_lin hs 100 rfl) (by decide) (by decide) hw378 (Or.inl rfl) ?_
  refine hf_ireturn dX11_feed_46 rfl rfl ?_
  exact h

set_option maxHeartbeats 4000000 in
theorem w_X11_end_0 {X : hf_X} {d k n t : Nat} {T : hf_T} {I : hf_I} {L : hf_L} {P : hf_P} {Q : Option Value → hf_M → Prop} {x1 : Int32} (hs : hf_Lay t T P) (h : (x1 < 0 → Q (some (.int (-1))) (t, T, I, L, P)) ∧ (¬ (x1 < 0) → ((I 100 13) < x1 → Q (some (.int (-1))) (t, T, I, L, P)) ∧ (¬ ((I 100 13) < x1) → Q (some (.int x1)) (t, T, (hf_up I 100 13 x1), L, P)))) : hf_G X Y_X11_end (d + 1) k n 0 (hf_en [.ref 100, .int x1] 2) [] (t, T, I, L, P) Q := by
  show hf_G X Y_X11_end (d + 1) k n 0 [some (.ref 100), some (.int x1)] [] (t, T, I, L, P) Q
  refine hf_iload_n dX11_end_0 rfl rfl ?_
  refine hf_iconst (v := 0) dX11_end_1 (by decide) ?_
  refine hf_aload_n dX11_end_2 rfl rfl ?_
  refine hf_geti (c := 11) (j := 13) dX11_end_3 (hs.2.1 100 _ rfl) (hf_lin hs 100 rfl) (by decide) (by decide) hw378 (Or.inl rfl) ?_
  refine hf_callS (as := [.int x1, .int 0, .int (I 100 13)]) ok_X11_within dX11_end_6 hw405 hw406 rfl (Nat.le_of_ble_eq_true rfl) rfl (Nat.le_of_ble_eq_true rfl) (Nat.zero_le _) (Nat.zero_le _) ?_
  show hf_G X Y_X11_within d _ _ 0 [some (.int x1), some (.int 0), some (.int (I 100 13))] [] (t, T, I, L, P) _
  refine hf_iload_n dX11_within_0 rfl rfl ?_
  refine hf_iload_n dX11_within_1 rfl rfl ?_
  refine hf_icmp_lt (tgt := 14) dX11_within_2 (by decide) (fun hc => ?_) (fun hc => ?_)
  · replace h := h.1 hc
    refine hf_iconst (v := 0) dX11_within_14 (by decide) ?_
    refine hf_ireturn dX11_within_15 rfl (by decide) ?_
    show hf_G X Y_X11_end (d + 1) _ _ 9 [some (.ref 100), some (.int x1)] [.int 0] (t, T, I, L, P) _
    refine hf_if_ne (tgt := 14) dX11_end_9 (by decide) (fun hc => absurd (show ¬ (0 : Int32) = (0 : Int32) from hc) (by decide)) (fun _ => ?_)
    refine hf_iconst (v := (-1)) dX11_end_12 (by decide) ?_
    refine hf_ireturn dX11_end_13 rfl rfl ?_
    exact h
  · replace h := h.2 hc
    refine hf_iload_n dX11_within_5 rfl rfl ?_
    refine hf_iload_n dX11_within_6 rfl rfl ?_
    refine hf_icmp_gt (tgt := 14) dX11_within_7 (by decide) (fun hc => ?_) (fun hc => ?_)
    · replace h := h.1 hc
      refine hf_iconst (v := 0) dX11_within_14 (by decide) ?_
      refine hf_ireturn dX11_within_15 rfl (by decide) ?_
      show hf_G X Y_X11_end (d + 1) _ _ 9 [some (.ref 100), some (.int x1)] [.int 0] (t, T, I, L, P) _
      refine hf_if_ne (tgt := 14) dX11_end_9 (by decide) (fun hc => absurd (show ¬ (0 : Int32) = (0 : Int32) from hc) (by decide)) (fun _ => ?_)
      refine hf_iconst (v := (-1)) dX11_end_12 (by decide) ?_
      refine hf_ireturn dX11_end_13 rfl rfl ?_
      exact h
    · replace h := h.2 hc
      refine hf_iconst (v := 1) dX11_within_10 (by decide) ?_
      refine hf_goto (tgt := 15) dX11_within_11 (by decide) ?_
      refine hf_ireturn dX11_within_15 rfl (by decide) ?_
      show hf_G X Y_X11_end (d + 1) _ _ 9 [some (.ref 100), some (.int x1)] [.int 1] (t, T, I, L, P) _
      refine hf_if_ne (tgt := 14) dX11_end_9 (by decide) (fun _ => ?_) (fun hc => absurd (show (1 : Int32) = (0 : Int32) from hc) (by decide))
      refine hf_aload_n dX11_end_14 rfl rfl ?_
      refine hf_iload_n dX11_end_15 rfl rfl ?_
      refine hf_puti (c := 11) (j := 13) dX11_end_16 (hs.2.1 100 _ rfl) (hf_lin hs 100 rfl) (by decide) (by decide) hw378 rfl rfl ?_
      refine hf_iload_n dX11_end_19 rfl rfl ?_
      refine hf_ireturn dX11_end_20 rfl rfl ?_
      exact h

set_option maxHeartbeats 4000000 in
theorem w_X11_word_0 {X : hf_X} {d k n t : Nat} {T : hf_T} {I : hf_I} {L : hf_L} {P : hf_P} {Q : Option Value → hf_M → Prop} {x1 : Int32} {x2 : Int32} {x3 : Int32} (hs : hf_Lay t T P) (h : (x1 < 0 → Q (some (.int (-1))) (t, T, (hf_up (hf_up I 100 15 (-1)) 155 0 ((I 155 0) + 1)), L, P)) ∧ (¬ (x1 < 0) → (7 < x1 → Q (some (.int (-1))) (t, T, (hf_up (hf_up I 100 15 (-1)) 155 0 ((I 155 0) + 1)), L, P)) ∧ (¬ (7 < x1) → (x2 < 0 → Q (some (.int (-1))) (t, T, (hf_up (hf_up I 100 15 (-1)) 155 0 ((I 155 0) + 1)), L, P)) ∧ (¬ (x2 < 0) → (99 < x2 → Q (some (.int (-1))) (t, T, (hf_up (hf_up I 100 15 (-1)) 155 0 ((I 155 0) + 1)), L, P)) ∧ (¬ (99 < x2) → (x3 < 0 → Q (some (.int (-1))) (t, T, (hf_up (hf_up I 100 15 (-1)) 155 0 ((I 155 0) + 1)), L, P)) ∧ (¬ (x3 < 0) → (10 < x3 → Q (some (.int (-1))) (t, T, (hf_up (hf_up I 100 15 (-1)) 155 0 ((I 155 0) + 1)), L, P)) ∧ (¬ (10 < x3) → hf_G X Y_X10_manyOf (d + 1) 0 0 0 (hf_en [.ref 105, .int x1] 4) [] (t, T, (hf_up I 100 13 0), L, P) (fun r M => hf_G X Y_X11_word (d + 2) k n 62 [some (.ref 100), some (.int x1), some (.int x2), some (.int x3), some (.int (I 100 13)), some (.ref 105)] (r.toList ++ []) M Q)))))))) : hf_G X Y_X11_word (d + 2) k n 0 (hf_en [.ref 100, .int x1, .int x2, .int x3] 6) [] (t, T, I, L, P) Q := by
  show hf_G X Y_X11_word (d + 2) k n 0 [some (.ref 100), some (.int x1), some (.int x2), some (.int x3), none, none] [] (t, T, I, L, P) Q
  refine hf_iload_n dX11_word_0 rfl rfl ?_
  refine hf_iconst (v := 0) dX11_word_1 (by decide) ?_
  refine hf_bipush (v := 7) dX11_word_2 (by decide) ?_
  refine hf_callS (as := [.int x1, .int 0, .int 7]) ok_X11_within dX11_word_4 hw405 hw406 rfl (Nat.le_of_ble_eq_true rfl) rfl (Nat.le_of_ble_eq_true rfl) (Nat.zero_le _) (Nat.zero_le _) ?_
  show hf_G X Y_X11_within (d + 1) _ _ 0 [some (.int x1), some (.int 0), some (.int 7)] [] (t, T, I, L, P) _
  refine hf_iload_n dX11_within_0 rfl rfl ?_
  refine hf_iload_n dX11_within_1 rfl rfl ?_
  refine hf_icmp_lt (tgt := 14) dX11_within_2 (by decide) (fun hc => ?_) (fun hc => ?_)
  · replace h := h.1 hc
    refine hf_iconst (v := 0) dX11_within_14 (by decide) ?_
    refine hf_ireturn dX11_within_15 rfl (by decide) ?_
    show hf_G X Y_X11_word (d + 2) _ _ 7 [some (.ref 100), some (.int x1), some (.int x2), some (.int x3), none, none] [.int 0] (t, T, I, L, P) _
    refine hf_if_eq (tgt := 30) dX11_word_7 (by decide) (fun _ => ?_) (fun hc => absurd (show (0 : Int32) = (0 : Int32) by decide) hc)
    refine hf_aload_n dX11_word_30 rfl rfl ?_
    refine hf_iconst (v := (-1)) dX11_word_31 (by decide) ?_
    refine hf_callV (c := 11) (as := [.int (-1)]) ok_X11_refuse dX11_word_32 hw408 hw409 hw1553 (hs.2.1 100 _ rfl) (by decide) (hf_lin hs 100 rfl) rfl (Nat.le_of_ble_eq_true rfl) rfl (Nat.le_of_ble_eq_true rfl) (Nat.zero_le _) (Nat.zero_le _) ?_
    show hf_G X Y_X11_refuse (d + 1) _ _ 0 [some (.ref 100), some (.int (-1))] [] (t, T, I, L, P) _
    refine hf_aload_n dX11_refuse_0 rfl rfl ?_
    refine hf_iload_n dX11_refuse_1 rfl rfl ?_
    refine hf_puti (c := 11) (j := 15) dX11_refuse_2 (hs.2.1 100 _ rfl) (hf_lin hs 100 rfl) (by decide) (by decide) hw381 rfl rfl ?_
    refine hf_aload_n dX11_refuse_5 rfl rfl ?_
    refine hf_getr (b := 155) (c := 11) (j := 12) dX11_refuse_6 (hs.2.1 100 _ rfl) (hf_lin hs 100 rfl) (by decide) (by decide) hw377 rfl (hs.2.2 100 12 _ rfl) ?_
    refine hf_iload_n dX11_refuse_9 rfl rfl ?_
    refine hf_callS (as := [.int (-1)]) ok_X11_refusalPlace dX11_refuse_10 hw411 hw412 rfl (Nat.le_of_ble_eq_true rfl) rfl (Nat.le_of_ble_eq_true rfl) (Nat.zero_le _) (Nat.zero_le _) ?_
    show hf_G X Y_X11_refusalPlace d _ _ 0 [some (.int (-1))] [] (t, T, (hf_up I 100 15 (-1)), L, P) _
    refine hf_iload_n dX11_refusalPlace_0 rfl rfl ?_
    refine hf_tableOut (tgt := 44) dX11_refusalPlace_1 (by decide) (by decide) ?_
    refine hf_iconst (v := 0) dX11_refusalPlace_44 (by decide) ?_
    refine hf_ireturn dX11_refusalPlace_45 rfl rfl ?_
    show hf_G X Y_X11_refuse (d + 1) _ _ 13 [some (.ref 100), some (.int (-1))] [.int 0, .ref 155] (t, T, (hf_up I 100 15 (-1)), L, P) _
    refine hf_dup2 dX11_refuse_13 rfl rfl ?_
    refine hf_iald_k (j := 0) (by decide) dX11_refuse_14 (hs.2.1 155 _ rfl) (hf_lin hs 155 rfl) (hf_vin (by decide)) ?_
    refine hf_iconst (v := 1) dX11_refuse_15 (by decide) ?_
    refine hf_iadd dX11_refuse_16 ?_
    refine hf_iast_k (j := 0) (by decide) dX11_refuse_17 (hs.2.1 155 _ rfl) (hf_lin hs 155 rfl) (hf_vin (by decide)) ?_
    refine hf_iload_n dX11_refuse_18 rfl rfl ?_
    refine hf_ireturn dX11_refuse_19 rfl rfl ?_
    show hf_G X Y_X11_word (d + 2) _ _ 35 [some (.ref 100), some (.int x1), some (.int x2), some (.int x3), none, none] [.int (-1)] (t, T, (hf_up (hf_up I 100 15 (-1)) 155 0 ((I 155 0) + 1)), L, P) _
    refine hf_ireturn dX11_word_35 rfl rfl ?_
    exact h
  · replace h := h.2 hc
    refine hf_iload_n dX11_within_5 rfl rfl ?_
    refine hf_iload_n dX11_within_6 rfl rfl ?_
    refine hf_icmp_gt (tgt := 14) dX11_within_7 (by decide) (fun hc => ?_) (fun hc => ?_)
    · replace h := h.1 hc
      refine hf_iconst (v := 0) dX11_within_14 (by decide) ?_
      refine hf_ireturn dX11_within_15 rfl (by decide) ?_
      show hf_G X Y_X11_word (d + 2) _ _ 7 [some (.ref 100), some (.int x1), some (.int x2), some (.int x3), none, none] [.int 0] (t, T, I, L, P) _
      refine hf_if_eq (tgt := 30) dX11_word_7 (by decide) (fun _ => ?_) (fun hc => absurd (show (0 : Int32) = (0 : Int32) by decide) hc)
      refine hf_aload_n dX11_word_30 rfl rfl ?_
      refine hf_iconst (v := (-1)) dX11_word_31 (by decide) ?_
      refine hf_callV (c := 11) (as := [.int (-1)]) ok_X11_refuse dX11_word_32 hw408 hw409 hw1553 (hs.2.1 100 _ rfl) (by decide) (hf_lin hs 100 rfl) rfl (Nat.le_of_ble_eq_true rfl) rfl (Nat.le_of_ble_eq_true rfl) (Nat.zero_le _) (Nat.zero_le _) ?_
      show hf_G X Y_X11_refuse (d + 1) _ _ 0 [some (.ref 100), some (.int (-1))] [] (t, T, I, L, P) _
      refine hf_aload_n dX11_refuse_0 rfl rfl ?_
      refine hf_iload_n dX11_refuse_1 rfl rfl ?_
      refine hf_puti (c := 11) (j := 15) dX11_refuse_2 (hs.2.1 100 _ rfl) (hf_lin hs 100 rfl) (by decide) (by decide) hw381 rfl rfl ?_
      refine hf_aload_n dX11_refuse_5 rfl rfl ?_
      refine hf_getr (b := 155) (c := 11) (j := 12) dX11_refuse_6 (hs.2.1 100 _ rfl) (hf_lin hs 100 rfl) (by decide) (by decide) hw377 rfl (hs.2.2 100 12 _ rfl) ?_
      refine hf_iload_n dX11_refuse_9 rfl rfl ?_
      refine hf_callS (as := [.int (-1)]) ok_X11_refusalPlace dX11_refuse_10 hw411 hw412 rfl (Nat.le_of_ble_eq_true rfl) rfl (Nat.le_of_ble_eq_true rfl) (Nat.zero_le _) (Nat.zero_le _) ?_
      show hf_G X Y_X11_refusalPlace d _ _ 0 [some (.int (-1))] [] (t, T, (hf_up I 100 15 (-1)), L, P) _
      refine hf_iload_n dX11_refusalPlace_0 rfl rfl ?_
      refine hf_tableOut (tgt := 44) dX11_refusalPlace_1 (by decide) (by decide) ?_
      refine hf_iconst (v := 0) dX11_refusalPlace_44 (by decide) ?_
      refine hf_ireturn dX11_refusalPlace_45 rfl rfl ?_
      show hf_G X Y_X11_refuse (d + 1) _ _ 13 [some (.ref 100), some (.int (-1))] [.int 0, .ref 155] (t, T, (hf_up I 100 15 (-1)), L, P) _
      refine hf_dup2 dX11_refuse_13 rfl rfl ?_
      refine hf_iald_k (j := 0) (by decide) dX11_refuse_14 (hs.2.1 155 _ rfl) (hf_lin hs 155 rfl) (hf_vin (by decide)) ?_
      refine hf_iconst (v := 1) dX11_refuse_15 (by decide) ?_
      refine hf_iadd dX11_refuse_16 ?_
      refine hf_iast_k (j := 0) (by decide) dX11_refuse_17 (hs.2.1 155 _ rfl) (hf_lin hs 155 rfl) (hf_vin (by decide)) ?_
      refine hf_iload_n dX11_refuse_18 rfl rfl ?_
      refine hf_ireturn dX11_refuse_19 rfl rfl ?_
      show hf_G X Y_X11_word (d + 2) _ _ 35 [some (.ref 100), some (.int x1), some (.int x2), some (.int x3), none, none] [.int (-1)] (t, T, (hf_up (hf_up I 100 15 (-1)) 155 0 ((I 155 0) + 1)), L, P) _
      refine hf_ireturn dX11_word_35 rfl rfl ?_
      exact h
    · replace h := h.2 hc
      refine hf_iconst (v := 1) dX11_within_10 (by decide) ?_
      refine hf_goto (tgt := 15) dX11_within_11 (by decide) ?_
      refine hf_ireturn dX11_within_15 rfl (by decide) ?_
      show hf_G X Y_X11_word (d + 2) _ _ 7 [some (.ref 100), some (.int x1), some (.int x2), some (.int x3), none, none] [.int 1] (t, T, I, L, P) _
      refine hf_if_eq (tgt := 30) dX11_word_7 (by decide) (fun hc => absurd (show (1 : Int32) = (0 : Int32) from hc) (by decide)) (fun _ => ?_)
      refine hf_iload_n dX11_word_10 rfl rfl ?_
      refine hf_iconst (v := 0) dX11_word_11 (by decide) ?_
      refine hf_bipush (v := 99) dX11_word_12 (by decide) ?_
      refine hf_callS (as := [.int x2, .int 0, .int 99]) ok_X11_within dX11_word_14 hw405 hw406 rfl (Nat.le_of_ble_eq_true rfl) rfl (Nat.le_of_ble_eq_true rfl) (Nat.zero_le _) (Nat.zero_le _) ?_
      show hf_G X Y_X11_within (d + 1) _ _ 0 [some (.int x2), some (.int 0), some (.int 99)] [] (t, T, I, L, P) _
      refine hf_iload_n dX11_within_0 rfl rfl ?_
      refine hf_iload_n dX11_within_1 rfl rfl ?_
      refine hf_icmp_lt (tgt := 14) dX11_within_2 (by decide) (fun hc => ?_) (fun hc => ?_)
      · replace h := h.1 hc
        refine hf_iconst (v := 0) dX11_within_14 (by decide) ?_
        refine hf_ireturn dX11_within_15 rfl (by decide) ?_
        show hf_G X Y_X11_word (d + 2) _ _ 17 [some (.ref 100), some (.int x1), some (.int x2), some (.int x3), none, none] [.int 0] (t, T, I, L, P) _
        refine hf_if_eq (tgt := 30) dX11_word_17 (by decide) (fun _ => ?_) (fun hc => absurd (show (0 : Int32) = (0 : Int32) by decide) hc)
        refine hf_aload_n dX11_word_30 rfl rfl ?_
        refine hf_iconst (v := (-1)) dX11_word_31 (by decide) ?_
        refine hf_callV (c := 11) (as := [.int (-1)]) ok_X11_refuse dX11_word_32 hw408 hw409 hw1553 (hs.2.1 100 _ rfl) (by decide) (hf_lin hs 100 rfl) rfl (Nat.le_of_ble_eq_true rfl) rfl (Nat.le_of_ble_eq_true rfl) (Nat.zero_le _) (Nat.zero_le _) ?_
        show hf_G X Y_X11_refuse (d + 1) _ _ 0 [some (.ref 100), some (.int (-1))] [] (t, T, I, L, P) _
        refine hf_aload_n dX11_refuse_0 rfl rfl ?_
        refine hf_iload_n dX11_refuse_1 rfl rfl ?_
        refine hf_puti (c := 11) (j := 15) dX11_refuse_2 (hs.2.1 100 _ rfl) (hf_lin hs 100 rfl) (by decide) (by decide) hw381 rfl rfl ?_
        refine hf_aload_n dX11_refuse_5 rfl rfl ?_
        refine hf_getr (b := 155) (c := 11) (j := 12) dX11_refuse_6 (hs.2.1 100 _ rfl) (hf_lin hs 100 rfl) (by decide) (by decide) hw377 rfl (hs.2.2 100 12 _ rfl) ?_
        refine hf_iload_n dX11_refuse_9 rfl rfl ?_
        refine hf_callS (as := [.int (-1)]) ok_X11_refusalPlace dX11_refuse_10 hw411 hw412 rfl (Nat.le_of_ble_eq_true rfl) rfl (Nat.le_of_ble_eq_true rfl) (Nat.zero_le _) (Nat.zero_le _) ?_
        show hf_G X Y_X11_refusalPlace d _ _ 0 [some (.int (-1))] [] (t, T, (hf_up I 100 15 (-1)), L, P) _
        refine hf_iload_n dX11_refusalPlace_0 rfl rfl ?_
        refine hf_tableOut (tgt := 44) dX11_refusalPlace_1 (by decide) (by decide) ?_
        refine hf_iconst (v := 0) dX11_refusalPlace_44 (by decide) ?_
        refine hf_ireturn dX11_refusalPlace_45 rfl rfl ?_
        show hf_G X Y_X11_refuse (d + 1) _ _ 13 [some (.ref 100), some (.int (-1))] [.int 0, .ref 155] (t, T, (hf_up I 100 15 (-1)), L, P) _
        refine hf_dup2 dX11_refuse_13 rfl rfl ?_
        refine hf_iald_k (j := 0) (by decide) dX11_refuse_14 (hs.2.1 155 _ rfl) (hf_lin hs 155 rfl) (hf_vin (by decide)) ?_
        refine hf_iconst (v := 1) dX11_refuse_15 (by decide) ?_
        refine hf_iadd dX11_refuse_16 ?_
        refine hf_iast_k (j := 0) (by decide) dX11_refuse_17 (hs.2.1 155 _ rfl) (hf_lin hs 155 rfl) (hf_vin (by decide)) ?_
        refine hf_iload_n dX11_refuse_18 rfl rfl ?_
        refine hf_ireturn dX11_refuse_19 rfl rfl ?_
        show hf_G X Y_X11_word (d + 2) _ _ 35 [some (.ref 100), some (.int x1), some (.int x2), some (.int x3), none, none] [.int (-1)] (t, T, (hf_up (hf_up I 100 15 (-1)) 155 0 ((I 155 0) + 1)), L, P) _
        refine hf_ireturn dX11_word_35 rfl rfl ?_
        exact h
      · replace h := h.2 hc
        refine hf_iload_n dX11_within_5 rfl rfl ?_
        refine hf_iload_n dX11_within_6 rfl rfl ?_
        refine hf_icmp_gt (tgt := 14) dX11_within_7 (by decide) (fun hc => ?_) (fun hc => ?_)
        · replace h := h.1 hc
          refine hf_iconst (v := 0) dX11_within_14 (by decide) ?_
          refine hf_ireturn dX11_within_15 rfl (by decide) ?_
          show hf_G X Y_X11_word (d + 2) _ _ 17 [some (.ref 100), some (.int x1), some (.int x2), some (.int x3), none, none] [.int 0] (t, T, I, L, P) _
          refine hf_if_eq (tgt := 30) dX11_word_17 (by decide) (fun _ => ?_) (fun hc => absurd (show (0 : Int32) = (0 : Int32) by decide) hc)
          refine hf_aload_n dX11_word_30 rfl rfl ?_
          refine hf_iconst (v := (-1)) dX11_word_31 (by decide) ?_
          refine hf_callV (c := 11) (as := [.int (-1)]) ok_X11_refuse dX11_word_32 hw408 hw409 hw1553 (hs.2.1 100 _ rfl) (by decide) (hf_lin hs 100 rfl) rfl (Nat.le_of_ble_eq_true rfl) rfl (Nat.le_of_ble_eq_true rfl) (Nat.zero_le _) (Nat.zero_le _) ?_
          show hf_G X Y_X11_refuse (d + 1) _ _ 0 [some (.ref 100), some (.int (-1))] [] (t, T, I, L, P) _
          refine hf_aload_n dX11_refuse_0 rfl rfl ?_
          refine hf_iload_n dX11_refuse_1 rfl rfl ?_
          refine hf_puti (c := 11) (j := 15) dX11_refuse_2 (hs.2.1 100 _ rfl) (hf_lin hs 100 rfl) (by decide) (by decide) hw381 rfl rfl ?_
          refine hf_aload_n dX11_refuse_5 rfl rfl ?_
          refine hf_getr (b := 155) (c := 11) (j := 12) dX11_refuse_6 (hs.2.1 100 _ rfl) (hf_lin hs 100 rfl) (by decide) (by decide) hw377 rfl (hs.2.2 100 12 _ rfl) ?_
          refine hf_iload_n dX11_refuse_9 rfl rfl ?_
          refine hf_callS (as := [.int (-1)]) ok_X11_refusalPlace dX11_refuse_10 hw411 hw412 rfl (Nat.le_of_ble_eq_true rfl) rfl (Nat.le_of_ble_eq_true rfl) (Nat.zero_le _) (Nat.zero_le _) ?_
          show hf_G X Y_X11_refusalPlace d _ _ 0 [some (.int (-1))] [] (t, T, (hf_up I 100 15 (-1)), L, P) _
          refine hf_iload_n dX11_refusalPlace_0 rfl rfl ?_
          refine hf_tableOut (tgt := 44) dX11_refusalPlace_1 (by decide) (by decide) ?_
          refine hf_iconst (v := 0) dX11_refusalPlace_44 (by decide) ?_
          refine hf_ireturn dX11_refusalPlace_45 rfl rfl ?_
          show hf_G X Y_X11_refuse (d + 1) _ _ 13 [some (.ref 100), some (.int (-1))] [.int 0, .ref 155] (t, T, (hf_up I 100 15 (-1)), L, P) _
          refine hf_dup2 dX11_refuse_13 rfl rfl ?_
          refine hf_iald_k (j := 0) (by decide) dX11_refuse_14 (hs.2.1 155 _ rfl) (hf_lin hs 155 rfl) (hf_vin (by decide)) ?_
          refine hf_iconst (v := 1) dX11_refuse_15 (by decide) ?_
          refine hf_iadd dX11_refuse_16 ?_
          refine hf_iast_k (j := 0) (by decide) dX11_refuse_17 (hs.2.1 155 _ rfl) (hf_lin hs 155 rfl) (hf_vin (by decide)) ?_
          refine hf_iload_n dX11_refuse_18 rfl rfl ?_
          refine hf_ireturn dX11_refuse_19 rfl rfl ?_
          show hf_G X Y_X11_word (d + 2) _ _ 35 [some (.ref 100), some (.int x1), some (.int x2), some (.int x3), none, none] [.int (-1)] (t, T, (hf_up (hf_up I 100 15 (-1)) 155 0 ((I 155 0) + 1)), L, P) _
          refine hf_ireturn dX11_word_35 rfl rfl ?_
          exact h
        · replace h := h.2 hc
          refine hf_iconst (v := 1) dX11_within_10 (by decide) ?_
          refine hf_goto (tgt := 15) dX11_within_11 (by decide) ?_
          refine hf_ireturn dX11_within_15 rfl (by decide) ?_
          show hf_G X Y_X11_word (d + 2) _ _ 17 [some (.ref 100), some (.int x1), some (.int x2), some (.int x3), none, none] [.int 1] (t, T, I, L, P) _
          refine hf_if_eq (tgt := 30) dX11_word_17 (by decide) (fun hc => absurd (show (1 : Int32) = (0 : Int32) from hc) (by decide)) (fun _ => ?_)
          refine hf_iload_n dX11_word_20 rfl rfl ?_
          refine hf_iconst (v := 0) dX11_word_21 (by decide) ?_
          refine hf_bipush (v := 10) dX11_word_22 (by decide) ?_
          refine hf_callS (as := [.int x3, .int 0, .int 10]) ok_X11_within dX11_word_24 hw405 hw406 rfl (Nat.le_of_ble_eq_true rfl) rfl (Nat.le_of_ble_eq_true rfl) (Nat.zero_le _) (Nat.zero_le _) ?_
          show hf_G X Y_X11_within (d + 1) _ _ 0 [some (.int x3), some (.int 0), some (.int 10)] [] (t, T, I, L, P) _
          refine hf_iload_n dX11_within_0 rfl rfl ?_
          refine hf_iload_n dX11_within_1 rfl rfl ?_
          refine hf_icmp_lt (tgt := 14) dX11_within_2 (by decide) (fun hc => ?_) (fun hc => ?_)
          · replace h := h.1 hc
            refine hf_iconst (v := 0) dX11_within_14 (by decide) ?_
            refine hf_ireturn dX11_within_15 rfl (by decide) ?_
            show hf_G X Y_X11_word (d + 2) _ _ 27 [some (.ref 100), some (.int x1), some (.int x2), some (.int x3), none, none] [.int 0] (t, T, I, L, P) _
            refine hf_if_ne (tgt := 36) dX11_word_27 (by decide) (fun hc => absurd (show ¬ (0 : Int32) = (0 : Int32) from hc) (by decide)) (fun _ => ?_)
            refine hf_aload_n dX11_word_30 rfl rfl ?_
            refine hf_iconst (v := (-1)) dX11_word_31 (by decide) ?_
            refine hf_callV (c := 11) (as := [.int (-1)]) ok_X11_refuse dX11_word_32 hw408 hw409 hw1553 (hs.2.1 100 _ rfl) (by decide) (hf_lin hs 100 rfl) rfl (Nat.le_of_ble_eq_true rfl) rfl (Nat.le_of_ble_eq_true rfl) (Nat.zero_le _) (Nat.zero_le _) ?_
            show hf_G X Y_X11_refuse (d + 1) _ _ 0 [some (.ref 100), some (.int (-1))] [] (t, T, I, L, P) _
            refine hf_aload_n dX11_refuse_0 rfl rfl ?_
            refine hf_iload_n dX11_refuse_1 rfl rfl ?_
            refine hf_puti (c := 11) (j := 15) dX11_refuse_2 (hs.2.1 100 _ rfl) (hf_lin hs 100 rfl) (by decide) (by decide) hw381 rfl rfl ?_
            refine hf_aload_n dX11_refuse_5 rfl rfl ?_
            refine hf_getr (b := 155) (c := 11) (j := 12) dX11_refuse_6 (hs.2.1 100 _ rfl) (hf_lin hs 100 rfl) (by decide) (by decide) hw377 rfl (hs.2.2 100 12 _ rfl) ?_
            refine hf_iload_n dX11_refuse_9 rfl rfl ?_
            refine hf_callS (as := [.int (-1)]) ok_X11_refusalPlace dX11_refuse_10 hw411 hw412 rfl (Nat.le_of_ble_eq_true rfl) rfl (Nat.le_of_ble_eq_true rfl) (Nat.zero_le _) (Nat.zero_le _) ?_
            show hf_G X Y_X11_refusalPlace d _ _ 0 [some (.int (-1))] [] (t, T, (hf_up I 100 15 (-1)), L, P) _
            refine hf_iload_n dX11_refusalPlace_0 rfl rfl ?_
            refine hf_tableOut (tgt := 44) dX11_refusalPlace_1 (by decide) (by decide) ?_
            refine hf_iconst (v := 0) dX11_refusalPlace_44 (by decide) ?_
            refine hf_ireturn dX11_refusalPlace_45 rfl rfl ?_
            show hf_G X Y_X11_refuse (d + 1) _ _ 13 [some (.ref 100), some (.int (-1))] [.int 0, .ref 155] (t, T, (hf_up I 100 15 (-1)), L, P) _
            refine hf_dup2 dX11_refuse_13 rfl rfl ?_
            refine hf_iald_k (j := 0) (by decide) dX11_refuse_14 (hs.2.1 155 _ rfl) (hf_lin hs 155 rfl) (hf_vin (by decide)) ?_
            refine hf_iconst (v := 1) dX11_refuse_15 (by decide) ?_
            refine hf_iadd dX11_refuse_16 ?_
            refine hf_iast_k (j := 0) (by decide) dX11_refuse_17 (hs.2.1 155 _ rfl) (hf_lin hs 155 rfl) (hf_vin (by decide)) ?_
            refine hf_iload_n dX11_refuse_18 rfl rfl ?_
            refine hf_ireturn dX11_refuse_19 rfl rfl ?_
            show hf_G X Y_X11_word (d + 2) _ _ 35 [some (.ref 100), some (.int x1), some (.int x2), some (.int x3), none, none] [.int (-1)] (t, T, (hf_up (hf_up I 100 15 (-1)) 155 0 ((I 155 0) + 1)), L, P) _
            refine hf_ireturn dX11_word_35 rfl rfl ?_
            exact h
          · replace h := h.2 hc
            refine hf_iload_n dX11_within_5 rfl rfl ?_
            refine hf_iload_n dX11_within_6 rfl rfl ?_
            refine hf_icmp_gt (tgt := 14) dX11_within_7 (by decide) (fun hc => ?_) (fun hc => ?_)
            · replace h := h.1 hc
              refine hf_iconst (v := 0) dX11_within_14 (by decide) ?_
              refine hf_ireturn dX11_within_15 rfl (by decide) ?_
              show hf_G X Y_X11_word (d + 2) _ _ 27 [some (.ref 100), some (.int x1), some (.int x2), some (.int x3), none, none] [.int 0] (t, T, I, L, P) _
              refine hf_if_ne (tgt := 36) dX11_word_27 (by decide) (fun hc => absurd (show ¬ (0 : Int32) = (0 : Int32) from hc) (by decide)) (fun _ => ?_)
              refine hf_aload_n dX11_word_30 rfl rfl ?_
              refine hf_iconst (v := (-1)) dX11_word_31 (by decide) ?_
              refine hf_callV (c := 11) (as := [.int (-1)]) ok_X11_refuse dX11_word_32 hw408 hw409 hw1553 (hs.2.1 100 _ rfl) (by decide) (hf_lin hs 100 rfl) rfl (Nat.le_of_ble_eq_true rfl) rfl (Nat.le_of_ble_eq_true rfl) (Nat.zero_le _) (Nat.zero_le _) ?_
              show hf_G X Y_X11_refuse (d + 1) _ _ 0 [some (.ref 100), some (.int (-1))] [] (t, T, I, L, P) _
              refine hf_aload_n dX11_refuse_0 rfl rfl ?_
              refine hf_iload_n dX11_refuse_1 rfl rfl ?_
              refine hf_puti (c := 11) (j := 15) dX11_refuse_2 (hs.2.1 100 _ rfl) (hf_lin hs 100 rfl) (by decide) (by decide) hw381 rfl rfl ?_
              refine hf_aload_n dX11_refuse_5 rfl rfl ?_
              refine hf_getr (b := 155) (c := 11) (j := 12) dX11_refuse_6 (hs.2.1 100 _ rfl) (hf_lin hs 100 rfl) (by decide) (by decide) hw377 rfl (hs.2.2 100 12 _ rfl) ?_
              refine hf_iload_n dX11_refuse_9 rfl rfl ?_
              refine hf_callS (as := [.int (-1)]) ok_X11_refusalPlace dX11_refuse_10 hw411 hw412 rfl (Nat.le_of_ble_eq_true rfl) rfl (Nat.le_of_ble_eq_true rfl) (Nat.zero_le _) (Nat.zero_le _) ?_
              show hf_G X Y_X11_refusalPlace d _ _ 0 [some (.int (-1))] [] (t, T, (hf_up I 100 15 (-1)), L, P) _
              refine hf_iload_n dX11_refusalPlace_0 rfl rfl ?_
              refine hf_tableOut (tgt := 44) dX11_refusalPlace_1 (by decide) (by decide) ?_
              refine hf_iconst (v := 0) dX11_refusalPlace_44 (by decide) ?_
              refine hf_ireturn dX11_refusalPlace_45 rfl rfl ?_
              show hf_G X Y_X11_refuse (d + 1) _ _ 13 [some (.ref 100), some (.int (-1))] [.int 0, .ref 155] (t, T, (hf_up I 100 15 (-1)), L, P) _
              refine hf_dup2 dX11_refuse_13 rfl rfl ?_
              refine hf_iald_k (j := 0) (by decide) dX11_refuse_14 (hs.2.1 155 _ rfl) (hf_lin hs 155 rfl) (hf_vin (by decide)) ?_
              refine hf_iconst (v := 1) dX11_refuse_15 (by decide) ?_
              refine hf_iadd dX11_refuse_16 ?_
              refine hf_iast_k (j := 0) (by decide) dX11_refuse_17 (hs.2.1 155 _ rfl) (hf_lin hs 155 rfl) (hf_vin (by decide)) ?_
              refine hf_iload_n dX11_refuse_18 rfl rfl ?_
              refine hf_ireturn dX11_refuse_19 rfl rfl ?_
              show hf_G X Y_X11_word (d + 2) _ _ 35 [some (.ref 100), some (.int x1), some (.int x2), some (.int x3), none, none] [.int (-1)] (t, T, (hf_up (hf_up I 100 15 (-1)) 155 0 ((I 155 0) + 1)), L, P) _
              refine hf_ireturn dX11_word_35 rfl rfl ?_
              exact h
            · replace h := h.2 hc
              refine hf_iconst (v := 1) dX11_within_10 (by decide) ?_
              refine hf_goto (tgt := 15) dX11_within_11 (by decide) ?_
              refine hf_ireturn dX11_within_15 rfl (by decide) ?_
              show hf_G X Y_X11_word (d + 2) _ _ 27 [some (.ref 100), some (.int x1), some (.int x2), some (.int x3), none, none] [.int 1] (t, T, I, L, P) _
              refine hf_if_ne (tgt := 36) dX11_word_27 (by decide) (fun _ => ?_) (fun hc => absurd (show (1 : Int32) = (0 : Int32) from hc) (by decide))
              refine hf_aload_n dX11_word_36 rfl rfl ?_
              refine hf_geti (c := 11) (j := 13) dX11_word_37 (hs.2.1 100 _ rfl) (hf_lin hs 100 rfl) (by decide) (by decide) hw378 (Or.inl rfl) ?_
              refine hf_istore (l2 := [some (.ref 100), some (.int x1), some (.int x2), some (.int x3), some (.int (I 100 13)), none]) dX11_word_40 (by decide) rfl ?_
              refine hf_aload_n dX11_word_42 rfl rfl ?_
              refine hf_iconst (v := 0) dX11_word_43 (by decide) ?_
              refine hf_puti (c := 11) (j := 13) dX11_word_44 (hs.2.1 100 _ rfl) (hf_lin hs 100 rfl) (by decide) (by decide) hw378 rfl rfl ?_
              refine hf_aload_n dX11_word_47 rfl rfl ?_
              refine hf_getr (b := 101) (c := 11) (j := 0) dX11_word_48 (hs.2.1 100 _ rfl) (hf_lin hs 100 rfl) (by decide) (by decide) hw365 rfl (hs.2.2 100 0 _ rfl) ?_
              refine hf_getr (b := 105) (c := 1) (j := 3) dX11_word_51 (hs.2.1 101 _ rfl) (hf_lin hs 101 rfl) (by decide) (by decide) hw111 rfl (hs.2.2 101 3 _ rfl) ?_
              refine hf_astore (l2 := [some (.ref 100), some (.int x1), some (.int x2), some (.int x3), some (.int (I 100 13)), some (.ref 105)]) dX11_word_54 (by decide) rfl ?_
              refine hf_aload dX11_word_56 rfl ?_
              refine hf_iload_n dX11_word_58 rfl rfl ?_
              exact hf_callV (c := 10) (as := [.int x1]) ok_X10_manyOf dX11_word_59 hw458 hw459 hw460 (hs.2.1 105 _ rfl) (by decide) (hf_lin hs 105 rfl) rfl (Nat.le_of_ble_eq_true rfl) rfl (Nat.le_of_ble_eq_true rfl) (Nat.zero_le _) (Nat.zero_le _) h

set_option maxHeartbeats 4000000 in
theorem w_X11_word_62 {X : hf_X} {d k n t : Nat} {T : hf_T} {I : hf_I} {L : hf_L} {P : hf_P} {Q : Option Value → hf_M → Prop} {x1 : Int32} {x2 : Int32} {x3 : Int32} {x4 : Int32} {s0 : Int32} (hs : hf_Lay t T P) (h : (s0 < 3 → ((I 105 5) < 16 → hf_G X Y_X10_spell (d + 1) 0 0 0 (hf_en [.ref 105, .ref 122, .int x4] 4) [] (t, T, I, L, P) (fun r M => hf_G X Y_X11_word (d + 2) k n 101 [some (.ref 100), some (.int x1), some (.int x2), some (.int x3), none, some (.ref 105)] (r.toList ++ []) M Q)) ∧ (¬ ((I 105 5) < 16) → Q (some (.int (-5))) (t, T, (hf_up (hf_up I 100 15 (-5)) 155 3 ((I 155 3) + 1)), L, P))) ∧ (¬ (s0 < 3) → Q (some (.int (-3))) (t, T, (hf_up (hf_up I 100 15 (-3)) 155 2 ((I 155 2) + 1)), L, P))) : hf_G X Y_X11_word (d + 2) k n 62 [some (.ref 100), some (.int x1), some (.int x2), some (.int x3), some (.int x4), some (.ref 105)] [.int s0] (t, T, I, L, P) Q := by
  refine hf_iconst (v := 3) dX11_word_62 (by decide) ?_
  refine hf_icmp_lt (tgt := 73) dX11_word_63 (by decide) (fun hc => ?_) (fun hc => ?_)
  · replace h := h.1 hc
    refine hf_aload dX11_word_73 rfl ?_
    refine hf_geti (c := 10) (j := 5) dX11_word_75 (hs.2.1 105 _ rfl) (hf_lin hs 105 rfl) (by decide) (by decide) hw63 (Or.inl rfl) ?_
    refine hf_bipush (v := 16) dX11_word_78 (by decide) ?_
    refine hf_icmp_lt (tgt := 90) dX11_word_80 (by decide) (fun hc => ?_) (fun hc => ?_)
    · replace h := h.1 hc
      refine hf_aload dX11_word_90 rfl ?_
      refine hf_aload_n dX11_word_92 rfl rfl ?_
      refine hf_getr (b := 122) (c := 11) (j := 2) dX11_word_93 (hs.2.1 100 _ rfl) (hf_lin hs 100 rfl) (by decide) (by decide) hw367 rfl (hs.2.2 100 2 _ rfl) ?_
      refine hf_iload dX11_word_96 rfl ?_
      exact hf_callV (c := 10) (as := [.ref 122, .int x4]) ok_X10_spell dX11_word_98 hw462 hw463 hw464 (hs.2.1 105 _ rfl) (by decide) (hf_lin hs 105 rfl) rfl (Nat.le_of_ble_eq_true rfl) rfl (Nat.le_of_ble_eq_true rfl) (Nat.zero_le _) (Nat.zero_le _) (hf_mono (fun r M q => hf_drop (l' := [some (.ref 100), some (.int x1), some (.int x2), some (.int x3), none, some (.ref 105)]) (by simp [hf_sub]) q) h)
    · replace h := h.2 hc
      refine hf_aload_n dX11_word_83 rfl rfl ?_
      refine hf_bipush (v := (-5)) dX11_word_84 (by decide) ?_
      refine hf_callV (c := 11) (as := [.int (-5)]) ok_X11_refuse dX11_word_86 hw408 hw409 hw1553 (hs.2.1 100 _ rfl) (by decide) (hf_lin hs 100 rfl) rfl (Nat.le_of_ble_eq_true rfl) rfl (Nat.le_of_ble_eq_true rfl) (Nat.zero_le _) (Nat.zero_le _) ?_
      show hf_G X Y_X11_refuse (d + 1) _ _ 0 [some (.ref 100), some (.int (-5))] [] (t, T, I, L, P) _
      refine hf_aload_n dX11_refuse_0 rfl rfl ?_
      refine hf_iload_n dX11_refuse_1 rfl rfl ?_
      refine hf_puti (c := 11) (j := 15) dX11_refuse_2 (hs.2.1 100 _ rfl) (hf_lin hs 100 rfl) (by decide) (by decide) hw381 rfl rfl ?_
      refine hf_aload_n dX11_refuse_5 rfl rfl ?_
      refine hf_getr (b := 155) (c := 11) (j := 12) dX11_refuse_6 (hs.2.1 100 _ rfl) (hf_lin hs 100 rfl) (by decide) (by decide) hw377 rfl (hs.2.2 100 12 _ rfl) ?_
      refine hf_iload_n dX11_refuse_9 rfl rfl ?_
      refine hf_callS (as := [.int (-5)]) ok_X11_refusalPlace dX11_refuse_10 hw411 hw412 rfl (Nat.le_of_ble_eq_true rfl) rfl (Nat.le_of_ble_eq_true rfl) (Nat.zero_le _) (Nat.zero_le _) ?_
      show hf_G X Y_X11_refusalPlace d _ _ 0 [some (.int (-5))] [] (t, T, (hf_up I 100 15 (-5)), L, P) _
      refine hf_iload_n dX11_refusalPlace_0 rfl rfl ?_
      refine hf_tableIn (off := 39) (tgt := 40) dX11_refusalPlace_1 (by decide) (by decide) rfl (by decide) ?_
      refine hf_iconst (v := 3) dX11_refusalPlace_40 (by decide) ?_
      refine hf_ireturn dX11_refusalPlace_41 rfl rfl ?_
      show hf_G X Y_X11_refuse (d + 1) _ _ 13 [some (.ref 100), some (.int (-5))] [.int 3, .ref 155] (t, T, (hf_up I 100 15 (-5)), L, P) _
      refine hf_dup2 dX11_refuse_13 rfl rfl ?_
      refine hf_iald_k (j := 3) (by decide) dX11_refuse_14 (hs.2.1 155 _ rfl) (hf_lin hs 155 rfl) (hf_vin (by decide)) ?_
      refine hf_iconst (v := 1) dX11_refuse_15 (by decide) ?_
      refine hf_iadd dX11_refuse_16 ?_
      refine hf_iast_k (j := 3) (by decide) dX11_refuse_17 (hs.2.1 155 _ rfl) (hf_lin hs 155 rfl) (hf_vin (by decide)) ?_
      refine hf_iload_n dX11_refuse_18 rfl rfl ?_
      refine hf_ireturn dX11_refuse_19 rfl rfl ?_
      show hf_G X Y_X11_word (d + 2) _ _ 89 [some (.ref 100), some (.int x1), some (.int x2), some (.int x3), some (.int x4), some (.ref 105)] [.int (-5)] (t, T, (hf_up (hf_up I 100 15 (-5)) 155 3 ((I 155 3) + 1)), L, P) _
      refine hf_ireturn dX11_word_89 rfl rfl ?_
      exact h
  · replace h := h.2 hc
    refine hf_aload_n dX11_word_66 rfl rfl ?_
    refine hf_bipush (v := (-3)) dX11_word_67 (by decide) ?_
    refine hf_callV (c := 11) (as := [.int (-3)]) ok_X11_refuse dX11_word_69 hw408 hw409 hw1553 (hs.2.1 100 _ rfl) (by decide) (hf_lin hs 100 rfl) rfl (Nat.le_of_ble_eq_true rfl) rfl (Nat.le_of_ble_eq_true rfl) (Nat.zero_le _) (Nat.zero_le _) ?_
    show hf_G X Y_X11_refuse (d + 1) _ _ 0 [some (.ref 100), some (.int (-3))] [] (t, T, I, L, P) _
    refine hf_aload_n dX11_refuse_0 rfl rfl ?_
    refine hf_iload_n dX11_refuse_1 rfl rfl ?_
    refine hf_puti (c := 11) (j := 15) dX11_refuse_2 (hs.2.1 100 _ rfl) (hf_lin hs 100 rfl) (by decide) (by decide) hw381 rfl rfl ?_
    refine hf_aload_n dX11_refuse_5 rfl rfl ?_
    refine hf_getr (b := 155) (c := 11) (j := 12) dX11_refuse_6 (hs.2.1 100 _ rfl) (hf_lin hs 100 rfl) (by decide) (by decide) hw377 rfl (hs.2.2 100 12 _ rfl) ?_
    refine hf_iload_n dX11_refuse_9 rfl rfl ?_
    refine hf_callS (as := [.int (-3)]) ok_X11_refusalPlace dX11_refuse_10 hw411 hw412 rfl (Nat.le_of_ble_eq_true rfl) rfl (Nat.le_of_ble_eq_true rfl) (Nat.zero_le _) (Nat.zero_le _) ?_
    show hf_G X Y_X11_refusalPlace d _ _ 0 [some (.int (-3))] [] (t, T, (hf_up I 100 15 (-3)), L, P) _
    refine hf_iload_n dX11_refusalPlace_0 rfl rfl ?_
    refine hf_tableIn (off := 37) (tgt := 38) dX11_refusalPlace_1 (by decide) (by decide) rfl (by decide) ?_
    refine hf_iconst (v := 2) dX11_refusalPlace_38 (by decide) ?_
    refine hf_ireturn dX11_refusalPlace_39 rfl rfl ?_
    show hf_G X Y_X11_refuse (d + 1) _ _ 13 [some (.ref 100), some (.int (-3))] [.int 2, .ref 155] (t, T, (hf_up I 100 15 (-3)), L, P) _
    refine hf_dup2 dX11_refuse_13 rfl rfl ?_
    refine hf_iald_k (j := 2) (by decide) dX11_refuse_14 (hs.2.1 155 _ rfl) (hf_lin hs 155 rfl) (hf_vin (by decide)) ?_
    refine hf_iconst (v := 1) dX11_refuse_15 (by decide) ?_
    refine hf_iadd dX11_refuse_16 ?_
    refine hf_iast_k (j := 2) (by decide) dX11_refuse_17 (hs.2.1 155 _ rfl) (hf_lin hs 155 rfl) (hf_vin (by decide)) ?_
    refine hf_iload_n dX11_refuse_18 rfl rfl ?_
    refine hf_ireturn dX11_refuse_19 rfl rfl ?_
    show hf_G X Y_X11_word (d + 2) _ _ 72 [some (.ref 100), some (.int x1), some (.int x2), some (.int x3), some (.int x4), some (.ref 105)] [.int (-3)] (t, T, (hf_up (hf_up I 100 15 (-3)) 155 2 ((I 155 2) + 1)), L, P) _
    refine hf_ireturn dX11_word_72 rfl rfl ?_
    exact h

set_option maxHeartbeats 4000000 in
theorem w_X11_word_101 {X : hf_X} {d k n t : Nat} {T : hf_T} {I : hf_I} {L : hf_L} {P : hf_P} {Q : Option Value → hf_M → Prop} {x1 : Int32} {x2 : Int32} {x3 : Int32} {s0 : Int32} (hs : hf_Lay t T P) (h : (¬ s0 = 0 → hf_G X Y_X10_add (d + 1) 0 0 0 (hf_en [.ref 105, .int x1, .int x2, .int x3] 4) [] (t, T, I, L, P) (fun r M => hf_G X Y_X11_word (d + 2) k n 120 [none, none, none, none, none, none] (r.toList ++ [.ref 100]) M Q)) ∧ (s0 = 0 → Q (some (.int (-6))) (t, T, (hf_up (hf_up I 100 15 (-6)) 155 4 ((I 155 4) + 1)), L, P))) : hf_G X Y_X11_word (d + 2) k n 101 [some (.ref 100), some (.int x1), some (.int x2), some (.int x3), none, some (.ref 105)] [.int s0] (t, T, I, L, P) Q := by
  refine hf_if_ne (tgt := 111) dX11_word_101 (by decide) (fun hc => ?_) (fun hc => ?_)
  · replace h := h.1 hc
    refine hf_aload_n dX11_word_111 rfl rfl ?_
    refine hf_aload dX11_word_112 rfl ?_
    refine hf_iload_n dX11_word_114 rfl rfl ?_
    refine hf_iload_n dX11_word_115 rfl rfl ?_
    refine hf_iload_n dX11_word_116 rfl rfl ?_
    exact hf_callV (c := 10) (as := [.int x1, .int x2, .int x3]) ok_X10_add dX11_word_117 hw466 hw467 hw468 (hs.2.1 105 _ rfl) (by decide) (hf_lin hs 105 rfl) rfl (Nat.le_of_ble_eq_true rfl) rfl (Nat.le_of_ble_eq_true rfl) (Nat.zero_le _) (Nat.zero_le _) (hf_mono (fun r M q => hf_drop (l' := [none, none, none, none, none, none]) (by simp [hf_sub]) q) h)
  · replace h := h.2 hc
    refine hf_aload_n dX11_word_104 rfl rfl ?_
    refine hf_bipush (v := (-6)) dX11_word_105 (by decide) ?_
    refine hf_callV (c := 11) (as := [.int (-6)]) ok_X11_refuse dX11_word_107 hw408 hw409 hw1553 (hs.2.1 100 _ rfl) (by decide) (hf_lin hs 100 rfl) rfl (Nat.le_of_ble_eq_true rfl) rfl (Nat.le_of_ble_eq_true rfl) (Nat.zero_le _) (Nat.zero_le _) ?_
    show hf_G X Y_X11_refuse (d + 1) _ _ 0 [some (.ref 100), some (.int (-6))] [] (t, T, I, L, P) _
    refine hf_aload_n dX11_refuse_0 rfl rfl ?_
    refine hf_iload_n dX11_refuse_1 rfl rfl ?_
    refine hf_puti (c := 11) (j := 15) dX11_refuse_2 (hs.2.1 100 _ rfl) (hf_lin hs 100 rfl) (by decide) (by decide) hw381 rfl rfl ?_
    refine hf_aload_n dX11_refuse_5 rfl rfl ?_
    refine hf_getr (b := 155) (c := 11) (j := 12) dX11_refuse_6 (hs.2.1 100 _ rfl) (hf_lin hs 100 rfl) (by decide) (by decide) hw377 rfl (hs.2.2 100 12 _ rfl) ?_
    refine hf_iload_n dX11_refuse_9 rfl rfl ?_
    refine hf_callS (as := [.int (-6)]) ok_X11_refusalPlace dX11_refuse_10 hw411 hw412 rfl (Nat.le_of_ble_eq_true rfl) rfl (Nat.le_of_ble_eq_true rfl) (Nat.zero_le _) (Nat.zero_le _) ?_
    show hf_G X Y_X11_refusalPlace d _ _ 0 [some (.int (-6))] [] (t, T, (hf_up I 100 15 (-6)), L, P) _
    refine hf_iload_n dX11_refusalPlace_0 rfl rfl ?_
    refine hf_tableIn (off := 41) (tgt := 42) dX11_refusalPlace_1 (by decide) (by decide) rfl (by decide) ?_
    refine hf_iconst (v := 4) dX11_refusalPlace_42 (by decide) ?_
    refine hf_ireturn dX11_refusalPlace_43 rfl rfl ?_
    show hf_G X Y_X11_refuse (d + 1) _ _ 13 [some (.ref 100), some (.int (-6))] [.int 4, .ref 155] (t, T, (hf_up I 100 15 (-6)), L, P) _
    refine hf_dup2 dX11_refuse_13 rfl rfl ?_
    refine hf_iald_k (j := 4) (by decide) dX11_refuse_14 (hs.2.1 155 _ rfl) (hf_lin hs 155 rfl) (hf_vin (by decide)) ?_
    refine hf_iconst (v := 1) dX11_refuse_15 (by decide) ?_
    refine hf_iadd dX11_refuse_16 ?_
    refine hf_iast_k (j := 4) (by decide) dX11_refuse_17 (hs.2.1 155 _ rfl) (hf_lin hs 155 rfl) (hf_vin (by decide)) ?_
    refine hf_iload_n dX11_refuse_18 rfl rfl ?_
    refine hf_ireturn dX11_refuse_19 rfl rfl ?_
    show hf_G X Y_X11_word (d + 2) _ _ 110 [some (.ref 100), some (.int x1), some (.int x2), some (.int x3), none, some (.ref 105)] [.int (-6)] (t, T, (hf_up (hf_up I 100 15 (-6)) 155 4 ((I 155 4) + 1)), L, P) _
    refine hf_ireturn dX11_word_110 rfl rfl ?_
    exact h

set_option maxHeartbeats 4000000 in
theorem w_X11_word_120 {X : hf_X} {d k n t : Nat} {T : hf_T} {I : hf_I} {L : hf_L} {P : hf_P} {Q : Option Value → hf_M → Prop} {s0 : Int32} (hs : hf_Lay t T P) (h : Q (some (.int s0)) (t, T, (hf_up (hf_up I 100 15 0) 100 16 ((I 100 16) + 1)), L, P)) : hf_G X Y_X11_word (d + 1) k n 120 [none, none, none, none, none, none] [.int s0, .ref 100] (t, T, I, L, P) Q := by
  refine hf_callV (c := 11) (as := [.int s0]) ok_X11_granted dX11_word_120 hw418 hw419 hw1554 (hs.2.1 100 _ rfl) (by decide) (hf_lin hs 100 rfl) rfl (Nat.le_of_ble_eq_true rfl) rfl (Nat.le_of_ble_eq_true rfl) (Nat.zero_le _) (Nat.zero_le _) ?_
  show hf_G X Y_X11_granted d _ _ 0 [some (.ref 100), some (.int s0)] [] (t, T, I, L, P) _
  refine hf_aload_n dX11_granted_0 rfl rfl ?_
  refine hf_iconst (v := 0) dX11_granted_1 (by decide) ?_
  refine hf_puti (c := 11) (j := 15) dX11_granted_2 (hs.2.1 100 _ rfl) (hf_lin hs 100 rfl) (by decide) (by decide) hw381 rfl rfl ?_
  refine hf_aload_n dX11_granted_5 rfl rfl ?_
  refine hf_dup dX11_granted_6 rfl ?_
  refine hf_geti (c := 11) (j := 16) dX11_granted_7 (hs.2.1 100 _ rfl) (hf_lin hs 100 rfl) (by decide) (by decide) hw382 (Or.inl rfl) ?_
  refine hf_iconst (v := 1) dX11_granted_10 (by decide) ?_
  refine hf_iadd dX11_granted_11 ?_
  refine hf_puti (c := 11) (j := 16) dX11_granted_12 (hs.2.1 100 _ rfl) (hf_lin hs 100 rfl) (by decide) (by decide) hw382 rfl rfl ?_
  refine hf_iload_n dX11_granted_15 rfl rfl ?_
  refine hf_ireturn dX11_granted_16 rfl rfl ?_
  show hf_G X Y_X11_word (d + 1) _ _ 123 [none, none, none, none, none, none] [.int s0] (t, T, (hf_up (hf_up I 100 15 0) 100 16 ((I 100 16) + 1)), L, P) _
  refine hf_ireturn dX11_word_123 rfl rfl ?_
  exact h

set_option maxHeartbeats 4000000 in
theorem w_X11_at_0 {X : hf_X} {d k n t : Nat} {T : hf_T} {I : hf_I} {L : hf_L} {P : hf_P} {Q : Option Value → hf_M → Prop} {x1 : Int32} {x2 : Int32} (hs : hf_Lay t T P) (h : (x1 < 0 → Q (some (.int (-1))) (t, T, I, L, P)) ∧ (¬ (x1 < 0) → ((I 105 5) ≤ x1 → Q (some (.int (-1))) (t, T, I, L, P)) ∧ (¬ ((I 105 5) ≤ x1) → (x2 = 0 → vp_in x1 16 ∧ (Q (some (.int (I 106 x1.toNatClampNeg))) (t, T, I, L, P))) ∧ (x2 = 1 → vp_in x1 16 ∧ (Q (some (.int (I 107 x1.toNatClampNeg))) (t, T, I, L, P))) ∧ (x2 = 2 → vp_in x1 16 ∧ (Q (some (.int (I 108 x1.toNatClampNeg))) (t, T, I, L, P))) ∧ (x2 = 3 → vp_in x1 16 ∧ (Q (some (.int (I 109 x1.toNatClampNeg))) (t, T, I, L, P))) ∧ (x2 = 4 → hf_G X Y_X1_wordWidth d 0 0 0 (hf_en [.ref 101, .int x1, .int (I 101 14)] 6) [] (t, T, I, L, P) (fun r M => hf_G X Y_X11_at (d + 1) k n 107 [none, none, none, none] (r.toList ++ []) M Q)) ∧ (x2 = 5 → vp_in (x1 * 9) 144 ∧ (Q (some (.int (I 110 (((x1 * 9)).toNatClampNeg)))) (t, T, I, L, P))) ∧ (x2 = 6 → hf_G X Y_X4_lossOf d 0 0 0 (hf_en [.ref 135, .int x1, .int (I 101 14)] 3) [] (t, T, I, L, P) (fun r M => hf_G X Y_X11_at (d + 1) k n 129 [none, none, none, none] (r.toList ++ []) M Q)) ∧ (x2 = 7 → hf_G X Y_X4_isBarred d 0 0 0 (hf_en [.ref 135, .int x1, .int (I 101 14)] 3) [] (t, T, I, L, P) (fun r M => hf_G X Y_X11_at (d + 1) k n 145 [none, none, none, none] (r.toList ++ []) M Q)) ∧ (x2.toInt < 0 ∨ 7 < x2.toInt → Q (some (.int (-1))) (t, T, I, L, P))))) : hf_G X Y_X11_at (d + 1) k n 0 (hf_en [.ref 100, .int x1, .int x2] 4) [] (t, T, I, L, P) Q := by
  show hf_G X Y_X11_at (d + 1) k n 0 [some (.ref 100), some (.int x1), some (.int x2), none] [] (t, T, I, L, P) Q
  refine hf_aload_n dX11_at_0 rfl rfl ?_
  refine hf_getr (b := 101) (c := 11) (j := 0) dX11_at_1 (hs.2.1 100 _ rfl) (hf_lin hs 100 rfl) (by decide) (by decide) hw365 rfl (hs.2.2 100 0 _ rfl) ?_
  refine hf_getr (b := 105) (c := 1) (j := 3) dX11_at_4 (hs.2.1 101 _ rfl) (hf_lin hs 101 rfl) (by decide) (by decide) hw111 rfl (hs.2.2 101 3 _ rfl) ?_
  refine hf_astore_n (l2 := [some (.ref 100), some (.int x1), some (.int x2), some (.ref 105)]) dX11_at_7 rfl (by decide) rfl ?_
  refine hf_aload_n dX11_at_8 rfl rfl ?_
  refine hf_iload_n dX11_at_9 rfl rfl ?_
  refine hf_callV (c := 10) (as := [.int x1]) ok_X10_has dX11_at_10 hw474 hw475 hw476 (hs.2.1 105 _ rfl) (by decide) (hf_lin hs 105 rfl) rfl (Nat.le_of_ble_eq_true rfl) rfl (Nat.le_of_ble_eq_true rfl) (Nat.zero_le _) (Nat.zero_le _) ?_
  show hf_G X Y_X10_has d _ _ 0 [some (.ref 105), some (.int x1)] [] (t, T, I, L, P) _
  refine hf_iload_n dX10_has_0 rfl rfl ?_
  refine hf_if_lt (tgt := 16) dX10_has_1 (by decide) (fun hc => ?_) (fun hc => ?_)
  · replace h := h.1 hc
    refine hf_iconst (v := 0) dX10_has_16 (by decide) ?_
    refine hf_ireturn dX10_has_17 rfl (by decide) ?_
    show hf_G X Y_X11_at (d + 1) _ _ 13 [some (.ref 100), some (.int x1), some (.int x2), some (.ref 105)] [.int 0] (t, T, I, L, P) _
    refine hf_if_ne (tgt := 18) dX11_at_13 (by decide) (fun hc => absurd (show ¬ (0 : Int32) = (0 : Int32) from hc) (by decide)) (fun _ => ?_)
    refine hf_iconst (v := (-1)) dX11_at_16 (by decide) ?_
    refine hf_ireturn dX11_at_17 rfl rfl ?_
    exact h
  · replace h := h.2 hc
    refine hf_iload_n dX10_has_4 rfl rfl ?_
    refine hf_aload_n dX10_has_5 rfl rfl ?_
    refine hf_geti (c := 10) (j := 5) dX10_has_6 (hs.2.1 105 _ rfl) (hf_lin hs 105 rfl) (by decide) (by decide) hw61 (Or.inl rfl) ?_
    refine hf_icmp_ge (tgt := 16) dX10_has_9 (by decide) (fun hc => ?_) (fun hc => ?_)
    · replace h := h.1 hc
      refine hf_iconst (v := 0) dX10_has_16 (by decide) ?_
      refine hf_ireturn dX10_has_17 rfl (by decide) ?_
      show hf_G X Y_X11_at (d + 1) _ _ 13 [some (.ref 100), some (.int x1), some (.int x2), some (.ref 105)] [.int 0] (t, T, I, L, P) _
      refine hf_if_ne (tgt := 18) dX11_at_13 (by decide) (fun hc => absurd (show ¬ (0 : Int32) = (0 : Int32) from hc) (by decide)) (fun _ => ?_)
      refine hf_iconst (v := (-1)) dX11_at_16 (by decide) ?_
      refine hf_ireturn dX11_at_17 rfl rfl ?_
      exact h
    · replace h := h.2 hc
      refine hf_iconst (v := 1) dX10_has_12 (by decide) ?_
      refine hf_goto (tgt := 17) dX10_has_13 (by decide) ?_
      refine hf_ireturn dX10_has_17 rfl (by decide) ?_
      show hf_G X Y_X11_at (d + 1) _ _ 13 [some (.ref 100), some (.int x1), some (.int x2), some (.ref 105)] [.int 1] (t, T, I, L, P) _
      refine hf_if_ne (tgt := 18) dX11_at_13 (by decide) (fun _ => ?_) (fun hc => absurd (show (1 : Int32) = (0 : Int32) from hc) (by decide))
      refine hf_iload_n dX11_at_18 rfl rfl ?_
      rcases hf_swc x2 0 7 with hq | ⟨j, hj, hq⟩
      · refine hf_tableOut (tgt := 154) dX11_at_19 (by omega) (by decide) ?_
        replace h := h.2.2.2.2.2.2.2.2 (by omega)
        refine hf_iconst (v := (-1)) dX11_at_154 (by decide) ?_
        refine hf_ireturn dX11_at_155 rfl rfl ?_
        exact h
      · match j, hj with
        | 0, _ =>
          have hx : x2 = 0 := hf_swi hq (by decide)
          refine hf_tableIn (off := 45) (tgt := 64) dX11_at_19 (by rw [hx]; decide) (by rw [hx]; decide) (by rw [hx]; rfl) (by decide) ?_
          replace h := h.1 hx
          refine hf_aload_n dX11_at_64 rfl rfl ?_
          refine hf_getr (b := 106) (c := 10) (j := 0) dX11_at_65 (hs.2.1 105 _ rfl) (hf_lin hs 105 rfl) (by decide) (by decide) hw46 rfl (hs.2.2 105 0 _ rfl) ?_
          refine hf_iload_n dX11_at_68 rfl rfl ?_
          refine hf_iald dX11_at_69 (hs.2.1 106 _ rfl) (hf_lin hs 106 rfl) h.1 ?_
          replace h := h.2
          refine hf_ireturn dX11_at_70 rfl rfl ?_
          exact h
        | 1, _ =>
          have hx : x2 = 1 := hf_swi hq (by decide)
          refine hf_tableIn (off := 52) (tgt := 71) dX11_at_19 (by rw [hx]; decide) (by rw [hx]; decide) (by rw [hx]; rfl) (by decide) ?_
          replace h := h.2.1 hx
          refine hf_aload_n dX11_at_71 rfl rfl ?_
          refine hf_getr (b := 107) (c := 10) (j := 1) dX11_at_72 (hs.2.1 105 _ rfl) (hf_lin hs 105 rfl) (by decide) (by decide) hw49 rfl (hs.2.2 105 1 _ rfl) ?_
          refine hf_iload_n dX11_at_75 rfl rfl ?_
          refine hf_iald dX11_at_76 (hs.2.1 107 _ rfl) (hf_lin hs 107 rfl) h.1 ?_
          replace h := h.2
          refine hf_ireturn dX11_at_77 rfl rfl ?_
          exact h
        | 2, _ =>
          have hx : x2 = 2 := hf_swi hq (by decide)
          refine hf_tableIn (off := 59) (tgt := 78) dX11_at_19 (by rw [hx]; decide) (by rw [hx]; decide) (by rw [hx]; rfl) (by decide) ?_
          replace h := h.2.2.1 hx
          refine hf_aload_n dX11_at_78 rfl rfl ?_
          refine hf_getr (b := 108) (c := 10) (j := 2) dX11_at_79 (hs.2.1 105 _ rfl) (hf_lin hs 105 rfl) (by decide) (by decide) hw53 rfl (hs.2.2 105 2 _ rfl) ?_
          refine hf_iload_n dX11_at_82 rfl rfl ?_
          refine hf_iald dX11_at_83 (hs.2.1 108 _ rfl) (hf_lin hs 108 rfl) h.1 ?_
          replace h := h.2
          refine hf_ireturn dX11_at_84 rfl rfl ?_
          exact h
        | 3, _ =>
          have hx : x2 = 3 := hf_swi hq (by decide)
          refine hf_tableIn (off := 66) (tgt := 85) dX11_at_19 (by rw [hx]; decide) (by rw [hx]; decide) (by rw [hx]; rfl) (by decide) ?_
          replace h := h.2.2.2.1 hx
          refine hf_aload_n dX11_at_85 rfl rfl ?_
          refine hf_getr (b := 109) (c := 10) (j := 3) dX11_at_86 (hs.2.1 105 _ rfl) (hf_lin hs 105 rfl) (by decide) (by decide) hw58 rfl (hs.2.2 105 3 _ rfl) ?_
          refine hf_iload_n dX11_at_89 rfl rfl ?_
          refine hf_iald dX11_at_90 (hs.2.1 109 _ rfl) (hf_lin hs 109 rfl) h.1 ?_
          replace h := h.2
          refine hf_ireturn dX11_at_91 rfl rfl ?_
          exact h
        | 4, _ =>
          have hx : x2 = 4 := hf_swi hq (by decide)
          refine hf_tableIn (off := 73) (tgt := 92) dX11_at_19 (by rw [hx]; decide) (by rw [hx]; decide) (by rw [hx]; rfl) (by decide) ?_
          replace h := h.2.2.2.2.1 hx
          refine hf_aload_n dX11_at_92 rfl rfl ?_
          refine hf_getr (b := 101) (c := 11) (j := 0) dX11_at_93 (hs.2.1 100 _ rfl) (hf_lin hs 100 rfl) (by decide) (by decide) hw365 rfl (hs.2.2 100 0 _ rfl) ?_
          refine hf_iload_n dX11_at_96 rfl rfl ?_
          refine hf_aload_n dX11_at_97 rfl rfl ?_
          refine hf_getr (b := 101) (c := 11) (j := 0) dX11_at_98 (hs.2.1 100 _ rfl) (hf_lin hs 100 rfl) (by decide) (by decide) hw365 rfl (hs.2.2 100 0 _ rfl) ?_
          refine hf_geti (c := 1) (j := 14) dX11_at_101 (hs.2.1 101 _ rfl) (hf_lin hs 101 rfl) (by decide) (by decide) hw146 (Or.inl rfl) ?_
          exact hf_callV (c := 1) (as := [.int x1, .int (I 101 14)]) ok_X1_wordWidth dX11_at_104 hw478 hw479 hw480 (hs.2.1 101 _ rfl) (by decide) (hf_lin hs 101 rfl) rfl (Nat.le_of_ble_eq_true rfl) rfl (Nat.le_of_ble_eq_true rfl) (Nat.zero_le _) (Nat.zero_le _) (hf_mono (fun r M q => hf_drop (l' := [none, none, none, none]) (by simp [hf_sub]) q) h)
        | 5, _ =>
          have hx : x2 = 5 := hf_swi hq (by decide)
          refine hf_tableIn (off := 89) (tgt := 108) dX11_at_19 (by rw [hx]; decide) (by rw [hx]; decide) (by rw [hx]; rfl) (by decide) ?_
          replace h := h.2.2.2.2.2.1 hx
          refine hf_aload_n dX11_at_108 rfl rfl ?_
          refine hf_iload_n dX11_at_109 rfl rfl ?_
          refine hf_callV (c := 10) (as := [.int x1]) ok_X10_firstLetter dX11_at_110 hw486 hw487 hw488 (hs.2.1 105 _ rfl) (by decide) (hf_lin hs 105 rfl) rfl (Nat.le_of_ble_eq_true rfl) rfl (Nat.le_of_ble_eq_true rfl) (Nat.zero_le _) (Nat.zero_le _) ?_
          show hf_G X Y_X10_firstLetter d _ _ 0 [some (.ref 105), some (.int x1)] [] (t, T, I, L, P) _
          refine hf_aload_n dX10_firstLetter_0 rfl rfl ?_
          refine hf_getr (b := 110) (c := 10) (j := 4) dX10_firstLetter_1 (hs.2.1 105 _ rfl) (hf_lin hs 105 rfl) (by decide) (by decide) hw59 rfl (hs.2.2 105 4 _ rfl) ?_
          refine hf_iload_n dX10_firstLetter_4 rfl rfl ?_
          refine hf_bipush (v := 9) dX10_firstLetter_5 (by decide) ?_
          refine hf_imul dX10_firstLetter_7 ?_
          refine hf_bald dX10_firstLetter_8 (hs.2.1 110 _ rfl) (hf_lin hs 110 rfl) h.1 ?_
          replace h := h.2
          refine hf_ireturn dX10_firstLetter_9 rfl rfl ?_
          show hf_G X Y_X11_at (d + 1) _ _ 113 [some (.ref 100), some (.int x1), some (.int x2), some (.ref 105)] [.int (I 110 (((x1 * 9)).toNatClampNeg))] (t, T, I, L, P) _
          refine hf_ireturn dX11_at_113 rfl rfl ?_
          exact h
        | 6, _ =>
          have hx : x2 = 6 := hf_swi hq (by decide)
          refine hf_tableIn (off := 95) (tgt := 114) dX11_at_19 (by rw [hx]; decide) (by rw [hx]; decide) (by rw [hx]; rfl) (by decide) ?_
          replace h := h.2.2.2.2.2.2.1 hx
          refine hf_aload_n dX11_at_114 rfl rfl ?_
          refine hf_getr (b := 135) (c := 11) (j := 5) dX11_at_115 (hs.2.1 100 _ rfl) (hf_lin hs 100 rfl) (by decide) (by decide) hw370 rfl (hs.2.2 100 5 _ rfl) ?_
          refine hf_iload_n dX11_at_118 rfl rfl ?_
          refine hf_aload_n dX11_at_119 rfl rfl ?_
          refine hf_getr (b := 101) (c := 11) (j := 0) dX11_at_120 (hs.2.1 100 _ rfl) (hf_lin hs 100 rfl) (by decide) (by decide) hw365 rfl (hs.2.2 100 0 _ rfl) ?_
          refine hf_geti (c := 1) (j := 14) dX11_at_123 (hs.2.1 101 _ rfl) (hf_lin hs 101 rfl) (by decide) (by decide) hw146 (Or.inl rfl) ?_
          exact hf_callV (c := 4) (as := [.int x1, .int (I 101 14)]) ok_X4_lossOf dX11_at_126 hw490 hw491 hw492 (hs.2.1 135 _ rfl) (by decide) (hf_lin hs 135 rfl) rfl (Nat.le_of_ble_eq_true rfl) rfl (Nat.le_of_ble_eq_true rfl) (Nat.zero_le _) (Nat.zero_le _) (hf_mono (fun r M q => hf_drop (l' := [none, none, none, none]) (by simp [hf_sub]) q) h)
        | 7, _ =>
          have hx : x2 = 7 := hf_swi hq (by decide)
          refine hf_tableIn (off := 111) (tgt := 130) dX11_at_19 (by rw [hx]; decide) (by rw [hx]; decide) (by rw [hx]; rfl) (by decide) ?_
          replace h := h.2.2.2.2.2.2.2.1 hx
          refine hf_aload_n dX11_at_130 rfl rfl ?_
          refine hf_getr (b := 135) (c := 11) (j := 5) dX11_at_131 (hs.2.1 100 _ rfl) (hf_lin hs 100 rfl) (by decide) (by decide) hw370 rfl (hs.2.2 100 5 _ rfl) ?_
          refine hf_iload_n dX11_at_134 rfl rfl ?_
          refine hf_aload_n dX11_at_135 rfl rfl ?_
          refine hf_getr (b := 101) (c := 11) (j := 0) dX11_at_136 (hs.2.1 100 _ rfl) (hf_lin hs 100 rfl) (by decide) (by decide) hw365 rfl (hs.2.2 100 0 _ rfl) ?_
          refine hf_geti (c := 1) (j := 14) dX11_at_139 (hs.2.1 101 _ rfl) (hf_lin hs 101 rfl) (by decide) (by decide) hw146 (Or.inl rfl) ?_
          exact hf_callV (c := 4) (as := [.int x1, .int (I 101 14)]) ok_X4_isBarred dX11_at_142 hw533 hw534 hw535 (hs.2.1 135 _ rfl) (by decide) (hf_lin hs 135 rfl) rfl (Nat.le_of_ble_eq_true rfl) rfl (Nat.le_of_ble_eq_true rfl) (Nat.zero_le _) (Nat.zero_le _) (hf_mono (fun r M q => hf_drop (l' := [none, none, none, none]) (by simp [hf_sub]) q) h)
        | j + 8, hj => exact absurd hj (by omega)

set_option maxHeartbeats 4000000 in
theorem w_X11_at_107 {X : hf_X} {d k n t : Nat} {T : hf_T} {I : hf_I} {L : hf_L} {P : hf_P} {Q : Option Value → hf_M → Prop} {s0 : Int32} (hs : hf_Lay t T P) (h : Q (some (.int s0)) (t, T, I, L, P)) : hf_G X Y_X11_at d k n 107 [none, none, none, none] [.int s0] (t, T, I, L, P) Q := by
  refine hf_ireturn dX11_at_107 rfl rfl ?_
  exact h

set_option maxHeartbeats 4000000 in
theorem w_X11_at_129 {X : hf_X} {d k n t : Nat} {T : hf_T} {I : hf_I} {L : hf_L} {P : hf_P} {Q : Option Value → hf_M → Prop} {s0 : Int32} (hs : hf_Lay t T P) (h : Q (some (.int s0)) (t, T, I, L, P)) : hf_G X Y_X11_at d k n 129 [none, none, none, none] [.int s0] (t, T, I, L, P) Q := by
  refine hf_ireturn dX11_at_129 rfl rfl ?_
  exact h

set_option maxHeartbeats 4000000 in
theorem w_X11_at_145 {X : hf_X} {d k n t : Nat} {T : hf_T} {I : hf_I} {L : hf_L} {P : hf_P} {Q : Option Value → hf_M → Prop} {s0 : Int32} (hs : hf_Lay t T P) (h : (s0 = 0 → Q (some (.int 0)) (t, T, I, L, P)) ∧ (¬ (s0 = 0) → Q (some (.int 1)) (t, T, I, L, P))) : hf_G X Y_X11_at d k n 145 [none, none, none, none] [.int s0] (t, T, I, L, P) Q := by
  refine hf_if_eq (tgt := 152) dX11_at_145 (by decide) (fun hc => ?_) (fun hc => ?_)
  · replace h := h.1 hc
    refine hf_iconst (v := 0) dX11_at_152 (by decide) ?_
    refine hf_ireturn dX11_at_153 rfl rfl ?_
    exact h
  · replace h := h.2 hc
    refine hf_iconst (v := 1) dX11_at_148 (by decide) ?_
    refine hf_goto (tgt := 153) dX11_at_149 (by decide) ?_
    refine hf_ireturn dX11_at_153 rfl rfl ?_
    exact h

set_option maxHeartbeats 4000000 in
theorem w_X11_settings_0 {X : hf_X} {d k n t : Nat} {T : hf_T} {I : hf_I} {L : hf_L} {P : hf_P} {Q : Option Value → hf_M → Prop}  (hs : hf_Lay t T P) (h : hf_G X Y_X5_reads d 0 0 0 (hf_en [.ref 123, .ref 122, .int (I 100 13), .int 0] 5) [] (t, T, (hf_up (hf_up I 100 13 0) 100 14 (-1)), L, P) (fun r M => hf_G X Y_X11_settings (d + 1) k n 28 [some (.ref 100), none] (r.toList ++ []) M Q)) : hf_G X Y_X11_settings (d + 1) k n 0 (hf_en [.ref 100] 2) [] (t, T, I, L, P) Q := by
  show hf_G X Y_X11_settings (d + 1) k n 0 [some (.ref 100), none] [] (t, T, I, L, P) Q
  refine hf_aload_n dX11_settings_0 rfl rfl ?_
  refine hf_geti (c := 11) (j := 13) dX11_settings_1 (hs.2.1 100 _ rfl) (hf_lin hs 100 rfl) (by decide) (by decide) hw378 (Or.inl rfl) ?_
  refine hf_istore_n (l2 := [some (.ref 100), some (.int (I 100 13))]) dX11_settings_4 rfl (by decide) rfl ?_
  refine hf_aload_n dX11_settings_5 rfl rfl ?_
  refine hf_iconst (v := 0) dX11_settings_6 (by decide) ?_
  refine hf_puti (c := 11) (j := 13) dX11_settings_7 (hs.2.1 100 _ rfl) (hf_lin hs 100 rfl) (by decide) (by decide) hw378 rfl rfl ?_
  refine hf_aload_n dX11_settings_10 rfl rfl ?_
  refine hf_iconst (v := (-1)) dX11_settings_11 (by decide) ?_
  refine hf_puti (c := 11) (j := 14) dX11_settings_12 (hs.2.1 100 _ rfl) (hf_lin hs 100 rfl) (by decide) (by decide) hw380 rfl rfl ?_
  refine hf_aload_n dX11_settings_15 rfl rfl ?_
  refine hf_getr (b := 123) (c := 11) (j := 3) dX11_settings_16 (hs.2.1 100 _ rfl) (hf_lin hs 100 rfl) (by decide) (by decide) hw368 rfl (hs.2.2 100 3 _ rfl) ?_
  refine hf_aload_n dX11_settings_19 rfl rfl ?_
  refine hf_getr (b := 122) (c := 11) (j := 2) dX11_settings_20 (hs.2.1 100 _ rfl) (hf_lin hs 100 rfl) (by decide) (by decide) hw367 rfl (hs.2.2 100 2 _ rfl) ?_
  refine hf_iload_n dX11_settings_23 rfl rfl ?_
  refine hf_iconst (v := 0) dX11_settings_24 (by decide) ?_
  exact hf_callV (c := 5) (as := [.ref 122, .int (I 100 13), .int 0]) ok_X5_reads dX11_settings_25 hw544 hw545 hw546 (hs.2.1 123 _ rfl) (by decide) (hf_lin hs 123 rfl) rfl (Nat.le_of_ble_eq_true rfl) rfl (Nat.le_of_ble_eq_true rfl) (Nat.zero_le _) (Nat.zero_le _) (hf_mono (fun r M q => hf_drop (l' := [some (.ref 100), none]) (by simp [hf_sub]) q) h)

set_option maxHeartbeats 4000000 in
theorem w_X11_settings_28 {X : hf_X} {d k n t : Nat} {T : hf_T} {I : hf_I} {L : hf_L} {P : hf_P} {Q : Option Value → hf_M → Prop} {s0 : Int32} (hs : hf_Lay t T P) (h : (¬ s0 = 0 → hf_G X Y_X11_runWholly (d + 1) 0 0 0 (hf_en [.ref 100, .ref 124] 7) [] (t, T, I, L, P) (fun r M => hf_G X Y_X11_settings (d + 2) k n 50 [none, none] (r.toList ++ [.ref 100]) M Q)) ∧ (s0 = 0 → Q (some (.int (-6))) (t, T, (hf_up (hf_up I 100 15 (-6)) 155 4 ((I 155 4) + 1)), L, P))) : hf_G X Y_X11_settings (d + 2) k n 28 [some (.ref 100), none] [.int s0] (t, T, I, L, P) Q := by
  refine hf_if_ne (tgt := 38) dX11_settings_28 (by decide) (fun hc => ?_) (fun hc => ?_)
  · replace h := h.1 hc
    refine hf_aload_n dX11_settings_38 rfl rfl ?_
    refine hf_aload_n dX11_settings_39 rfl rfl ?_
    refine hf_aload_n dX11_settings_40 rfl rfl ?_
    refine hf_getr (b := 123) (c := 11) (j := 3) dX11_settings_41 (hs.2.1 100 _ rfl) (hf_lin hs 100 rfl) (by decide) (by decide) hw368 rfl (hs.2.2 100 3 _ rfl) ?_
    refine hf_getr (b := 124) (c := 5) (j := 0) dX11_settings_44 (hs.2.1 123 _ rfl) (hf_lin hs 123 rfl) (by decide) (by decide) hw227 rfl (hs.2.2 123 0 _ rfl) ?_
    exact hf_callV (c := 11) (as := [.ref 124]) ok_X11_runWholly dX11_settings_47 hw668 hw669 hw1580 (hs.2.1 100 _ rfl) (by decide) (hf_lin hs 100 rfl) rfl (Nat.le_of_ble_eq_true rfl) rfl (Nat.le_of_ble_eq_true rfl) (Nat.zero_le _) (Nat.zero_le _) (hf_mono (fun r M q => hf_drop (l' := [none, none]) (by simp [hf_sub]) q) h)
  · replace h := h.2 hc
    refine hf_aload_n dX11_settings_31 rfl rfl ?_
    refine hf_bipush (v := (-6)) dX11_settings_32 (by decide) ?_
    refine hf_callV (c := 11) (as := [.int (-6)]) ok_X11_refuse dX11_settings_34 hw408 hw409 hw1553 (hs.2.1 100 _ rfl) (by decide) (hf_lin hs 100 rfl) rfl (Nat.le_of_ble_eq_true rfl) rfl (Nat.le_of_ble_eq_true rfl) (Nat.zero_le _) (Nat.zero_le _) ?_
    show hf_G X Y_X11_refuse (d + 1) _ _ 0 [some (.ref 100), some (.int (-6))] [] (t, T, I, L, P) _
    refine hf_aload_n dX11_refuse_0 rfl rfl ?_
    refine hf_iload_n dX11_refuse_1 rfl rfl ?_
    refine hf_puti (c := 11) (j := 15) dX11_refuse_2 (hs.2.1 100 _ rfl) (hf_lin hs 100 rfl) (by decide) (by decide) hw381 rfl rfl ?_
    refine hf_aload_n dX11_refuse_5 rfl rfl ?_
    refine hf_getr (b := 155) (c := 11) (j := 12) dX11_refuse_6 (hs.2.1 100 _ rfl) (hf_lin hs 100 rfl) (by decide) (by decide) hw377 rfl (hs.2.2 100 12 _ rfl) ?_
    refine hf_iload_n dX11_refuse_9 rfl rfl ?_
    refine hf_callS (as := [.int (-6)]) ok_X11_refusalPlace dX11_refuse_10 hw411 hw412 rfl (Nat.le_of_ble_eq_true rfl) rfl (Nat.le_of_ble_eq_true rfl) (Nat.zero_le _) (Nat.zero_le _) ?_
    show hf_G X Y_X11_refusalPlace d _ _ 0 [some (.int (-6))] [] (t, T, (hf_up I 100 15 (-6)), L, P) _
    refine hf_iload_n dX11_refusalPlace_0 rfl rfl ?_
    refine hf_tableIn (off := 41) (tgt := 42) dX11_refusalPlace_1 (by decide) (by decide) rfl (by decide) ?_
    refine hf_iconst (v := 4) dX11_refusalPlace_42 (by decide) ?_
    refine hf_ireturn dX11_refusalPlace_43 rfl rfl ?_
    show hf_G X Y_X11_refuse (d + 1) _ _ 13 [some (.ref 100), some (.int (-6))] [.int 4, .ref 155] (t, T, (hf_up I 100 15 (-6)), L, P) _
    refine hf_dup2 dX11_refuse_13 rfl rfl ?_
    refine hf_iald_k (j := 4) (by decide) dX11_refuse_14 (hs.2.1 155 _ rfl) (hf_lin hs 155 rfl) (hf_vin (by decide)) ?_
    refine hf_iconst (v := 1) dX11_refuse_15 (by decide) ?_
    refine hf_iadd dX11_refuse_16 ?_
    refine hf_iast_k (j := 4) (by decide) dX11_refuse_17 (hs.2.1 155 _ rfl) (hf_lin hs 155 rfl) (hf_vin (by decide)) ?_
    refine hf_iload_n dX11_refuse_18 rfl rfl ?_
    refine hf_ireturn dX11_refuse_19 rfl rfl ?_
    show hf_G X Y_X11_settings (d + 2) _ _ 37 [some (.ref 100), none] [.int (-6)] (t, T, (hf_up (hf_up I 100 15 (-6)) 155 4 ((I 155 4) + 1)), L, P) _
    refine hf_ireturn dX11_settings_37 rfl rfl ?_
    exact h

set_option maxHeartbeats 4000000 in
theorem w_X11_settings_50 {X : hf_X} {d k n t : Nat} {T : hf_T} {I : hf_I} {L : hf_L} {P : hf_P} {Q : Option Value → hf_M → Prop} {s0 : Int32} (hs : hf_Lay t T P) (h : (0 ≤ s0 → Q (some (.int s0)) (t, T, (hf_up (hf_up I 100 15 0) 100 16 ((I 100 16) + 1)), L, P)) ∧ (¬ (0 ≤ s0) → (s0 = (-6) → Q (some (.int s0)) (t, T, (hf_up (hf_up I 100 15 s0) 155 4 ((I 155 4) + 1)), L, P)) ∧ (s0 = (-5) → Q (some (.int s0)) (t, T, (hf_up (hf_up I 100 15 s0) 155 3 ((I 155 3) + 1)), L, P)) ∧ (s0 = (-4) → Q (some (.int s0)) (t, T, (hf_up (hf_up I 100 15 s0) 155 0 ((I 155 0) + 1)), L, P)) ∧ (s0 = (-3) → Q (some (.int s0)) (t, T, (hf_up (hf_up I 100 15 s0) 155 2 ((I 155 2) + 1)), L, P)) ∧ (s0 = (-2) → Q (some (.int s0)) (t, T, (hf_up (hf_up I 100 15 s0) 155 1 ((I 155 1) + 1)), L, P)) ∧ (s0.toInt < (-6) ∨ (-2) < s0.toInt → Q (some (.int s0)) (t, T, (hf_up (hf_up I 100 15 s0) 155 0 ((I 155 0) + 1)), L, P)))) : hf_G X Y_X11_settings (d + 3) k n 50 [none, none] [.int s0, .ref 100] (t, T, I, L, P) Q := by
  refine hf_callV (c := 11) (as := [.int s0]) ok_X11_answered dX11_settings_50 hw432 hw433 hw1556 (hs.2.1 100 _ rfl) (by decide) (hf_lin hs 100 rfl) rfl (Nat.le_of_ble_eq_true rfl) rfl (Nat.le_of_ble_eq_true rfl) (Nat.zero_le _) (Nat.zero_le _) ?_
  show hf_G X Y_X11_answered (d + 2) _ _ 0 [some (.ref 100), some (.int s0)] [] (t, T, I, L, P) _
  refine hf_iload_n dX11_answered_0 rfl rfl ?_
  refine hf_if_ge (tgt := 12) dX11_answered_1 (by decide) (fun hc => ?_) (fun hc => ?_)
  · replace h := h.1 hc
    refine hf_aload_n dX11_answered_12 rfl rfl ?_
    refine hf_iload_n dX11_answered_13 rfl rfl ?_
    refine hf_callV (c := 11) (as := [.int s0]) ok_X11_granted dX11_answered_14 hw418 hw419 hw1554 (hs.2.1 100 _ rfl) (by decide) (hf_lin hs 100 rfl) rfl (Nat.le_of_ble_eq_true rfl) rfl (Nat.le_of_ble_eq_true rfl) (Nat.zero_le _) (Nat.zero_le _) ?_
    show hf_G X Y_X11_granted (d + 1) _ _ 0 [some (.ref 100), some (.int s0)] [] (t, T, I, L, P) _
    refine hf_aload_n dX11_granted_0 rfl rfl ?_
    refine hf_iconst (v := 0) dX11_granted_1 (by decide) ?_
    refine hf_puti (c := 11) (j := 15) dX11_granted_2 (hs.2.1 100 _ rfl) (hf_lin hs 100 rfl) (by decide) (by decide) hw381 rfl rfl ?_
    refine hf_aload_n dX11_granted_5 rfl rfl ?_
    refine hf_dup dX11_granted_6 rfl ?_
    refine hf_geti (c := 11) (j := 16) dX11_granted_7 (hs.2.1 100 _ rfl) (hf_lin hs 100 rfl) (by decide) (by decide) hw382 (Or.inl rfl) ?_
    refine hf_iconst (v := 1) dX11_granted_10 (by decide) ?_
    refine hf_iadd dX11_granted_11 ?_
    refine hf_puti (c := 11) (j := 16) dX11_granted_12 (hs.2.1 100 _ rfl) (hf_lin hs 100 rfl) (by decide) (by decide) hw382 rfl rfl ?_
    refine hf_iload_n dX11_granted_15 rfl rfl ?_
    refine hf_ireturn dX11_granted_16 rfl rfl ?_
    show hf_G X Y_X11_answered (d + 2) _ _ 17 [some (.ref 100), some (.int s0)] [.int s0] (t, T, (hf_up (hf_up I 100 15 0) 100 16 ((I 100 16) + 1)), L, P) _
    refine hf_ireturn dX11_answered_17 rfl rfl ?_
    show hf_G X Y_X11_settings (d + 3) _ _ 53 [none, none] [.int s0] (t, T, (hf_up (hf_up I 100 15 0) 100 16 ((I 100 16) + 1)), L, P) _
    refine hf_ireturn dX11_settings_53 rfl rfl ?_
    exact h
  · replace h := h.2 hc
    refine hf_aload_n dX11_answered_4 rfl rfl ?_
    refine hf_iload_n dX11_answered_5 rfl rfl ?_
    refine hf_callV (c := 11) (as := [.int s0]) ok_X11_refuse dX11_answered_6 hw408 hw409 hw1553 (hs.2.1 100 _ rfl) (by decide) (hf_lin hs 100 rfl) rfl (Nat.le_of_ble_eq_true rfl) rfl (Nat.le_of_ble_eq_true rfl) (Nat.zero_le _) (Nat.zero_le _) ?_
    show hf_G X Y_X11_refuse (d + 1) _ _ 0 [some (.ref 100), some (.int s0)] [] (t, T, I, L, P) _
    refine hf_aload_n dX11_refuse_0 rfl rfl ?_
    refine hf_iload_n dX11_refuse_1 rfl rfl ?_
    refine hf_puti (c := 11) (j := 15) dX11_refuse_2 (hs.2.1 100 _ rfl) (hf_lin hs 100 rfl) (by decide) (by decide) hw381 rfl rfl ?_
    refine hf_aload_n dX11_refuse_5 rfl rfl ?_
    refine hf_getr (b := 155) (c := 11) (j := 12) dX11_refuse_6 (hs.2.1 100 _ rfl) (hf_lin hs 100 rfl) (by decide) (by decide) hw377 rfl (hs.2.2 100 12 _ rfl) ?_
    refine hf_iload_n dX11_refuse_9 rfl rfl ?_
    refine hf_callS (as := [.int s0]) ok_X11_refusalPlace dX11_refuse_10 hw411 hw412 rfl (Nat.le_of_ble_eq_true rfl) rfl (Nat.le_of_ble_eq_true rfl) (Nat.zero_le _) (Nat.zero_le _) ?_
    show hf_G X Y_X11_refusalPlace d _ _ 0 [some (.int s0)] [] (t, T, (hf_up I 100 15 s0), L, P) _
    refine hf_iload_n dX11_refusalPlace_0 rfl rfl ?_
    rcases hf_swc s0 (-6) 4 with hq | ⟨j, hj, hq⟩
    · refine hf_tableOut (tgt := 44) dX11_refusalPlace_1 (by omega) (by decide) ?_
      replace h := h.2.2.2.2.2 (by omega)
      refine hf_iconst (v := 0) dX11_refusalPlace_44 (by decide) ?_
      refine hf_ireturn dX11_refusalPlace_45 rfl rfl ?_
      show hf_G X Y_X11_refuse (d + 1) _ _ 13 [some (.ref 100), some (.int s0)] [.int 0, .ref 155] (t, T, (hf_up I 100 15 s0), L, P) _
      refine hf_dup2 dX11_refuse_13 rfl rfl ?_
      refine hf_iald_k (j := 0) (by decide) dX11_refuse_14 (hs.2.1 155 _ rfl) (hf_lin hs 155 rfl) (hf_vin (by decide)) ?_
      refine hf_iconst (v := 1) dX11_refuse_15 (by decide) ?_
      refine hf_iadd dX11_refuse_16 ?_
      refine hf_iast_k (j := 0) (by decide) dX11_refuse_17 (hs.2.1 155 _ rfl) (hf_lin hs 155 rfl) (hf_vin (by decide)) ?_
      refine hf_iload_n dX11_refuse_18 rfl rfl ?_
      refine hf_ireturn dX11_refuse_19 rfl rfl ?_
      show hf_G X Y_X11_answered (d + 2) _ _ 9 [some (.ref 100), some (.int s0)] [.int s0] (t, T, (hf_up (hf_up I 100 15 s0) 155 0 ((I 155 0) + 1)), L, P) _
      refine hf_goto (tgt := 17) dX11_answered_9 (by decide) ?_
      refine hf_ireturn dX11_answered_17 rfl rfl ?_
      show hf_G X Y_X11_settings (d + 3) _ _ 53 [none, none] [.int s0] (t, T, (hf_up (hf_up I 100 15 s0) 155 0 ((I 155 0) + 1)), L, P) _
      refine hf_ireturn dX11_settings_53 rfl rfl ?_
      exact h
    · match j, hj with
      | 0, _ =>
        have hx : s0 = (-6) := hf_swi hq (by decide)
        refine hf_tableIn (off := 41) (tgt := 42) dX11_refusalPlace_1 (by rw [hx]; decide) (by rw [hx]; decide) (by rw [hx]; rfl) (by decide) ?_
        replace h := h.1 hx
        refine hf_iconst (v := 4) dX11_refusalPlace_42 (by decide) ?_
        refine hf_ireturn dX11_refusalPlace_43 rfl rfl ?_
        show hf_G X Y_X11_refuse (d + 1) _ _ 13 [some (.ref 100), some (.int s0)] [.int 4, .ref 155] (t, T, (hf_up I 100 15 s0), L, P) _
        refine hf_dup2 dX11_refuse_13 rfl rfl ?_
        refine hf_iald_k (j := 4) (by decide) dX11_refuse_14 (hs.2.1 155 _ rfl) (hf_lin hs 155 rfl) (hf_vin (by decide)) ?_
        refine hf_iconst (v := 1) dX11_refuse_15 (by decide) ?_
        refine hf_iadd dX11_refuse_16 ?_
        refine hf_iast_k (j := 4) (by decide) dX11_refuse_17 (hs.2.1 155 _ rfl) (hf_lin hs 155 rfl) (hf_vin (by decide)) ?_
        refine hf_iload_n dX11_refuse_18 rfl rfl ?_
        refine hf_ireturn dX11_refuse_19 rfl rfl ?_
        show hf_G X Y_X11_answered (d + 2) _ _ 9 [some (.ref 100), some (.int s0)] [.int s0] (t, T, (hf_up (hf_up I 100 15 s0) 155 4 ((I 155 4) + 1)), L, P) _
        refine hf_goto (tgt := 17) dX11_answered_9 (by decide) ?_
        refine hf_ireturn dX11_answered_17 rfl rfl ?_
        show hf_G X Y_X11_settings (d + 3) _ _ 53 [none, none] [.int s0] (t, T, (hf_up (hf_up I 100 15 s0) 155 4 ((I 155 4) + 1)), L, P) _
        refine hf_ireturn dX11_settings_53 rfl rfl ?_
        exact h
      | 1, _ =>
        have hx : s0 = (-5) := hf_swi hq (by decide)
        refine hf_tableIn (off := 39) (tgt := 40) dX11_refusalPlace_1 (by rw [hx]; decide) (by rw [hx]; decide) (by rw [hx]; rfl) (by decide) ?_
        replace h := h.2.1 hx
        refine hf_iconst (v := 3) dX11_refusalPlace_40 (by decide) ?_
        refine hf_ireturn dX11_refusalPlace_41 rfl rfl ?_
        show hf_G X Y_X11_refuse (d + 1) _ _ 13 [some (.ref 100), some (.int s0)] [.int 3, .ref 155] (t, T, (hf_up I 100 15 s0), L, P) _
        refine hf_dup2 dX11_refuse_13 rfl rfl ?_
        refine hf_iald_k (j := 3) (by decide) dX11_refuse_14 (hs.2.1 155 _ rfl) (hf_lin hs 155 rfl) (hf_vin (by decide)) ?_
        refine hf_iconst (v := 1) dX11_refuse_15 (by decide) ?_
        refine hf_iadd dX11_refuse_16 ?_
        refine hf_iast_k (j := 3) (by decide) dX11_refuse_17 (hs.2.1 155 _ rfl) (hf_lin hs 155 rfl) (hf_vin (by decide)) ?_
        refine hf_iload_n dX11_refuse_18 rfl rfl ?_
        refine hf_ireturn dX11_refuse_19 rfl rfl ?_
        show hf_G X Y_X11_answered (d + 2) _ _ 9 [some (.ref 100), some (.int s0)] [.int s0] (t, T, (hf_up (hf_up I 100 15 s0) 155 3 ((I 155 3) + 1)), L, P) _
        refine hf_goto (tgt := 17) dX11_answered_9 (by decide) ?_
        refine hf_ireturn dX11_answered_17 rfl rfl ?_
        show hf_G X Y_X11_settings (d + 3) _ _ 53 [none, none] [.int s0] (t, T, (hf_up (hf_up I 100 15 s0) 155 3 ((I 155 3) + 1)), L, P) _
        refine hf_ireturn dX11_settings_53 rfl rfl ?_
        exact h
      | 2, _ =>
        have hx : s0 = (-4) := hf_swi hq (by decide)
        refine hf_tableIn (off := 43) (tgt := 44) dX11_refusalPlace_1 (by rw [hx]; decide) (by rw [hx]; decide) (by rw [hx]; rfl) (by decide) ?_
        replace h := h.2.2.1 hx
        refine hf_iconst (v := 0) dX11_refusalPlace_44 (by decide) ?_
        refine hf_ireturn dX11_refusalPlace_45 rfl rfl ?_
        show hf_G X Y_X11_refuse (d + 1) _ _ 13 [some (.ref 100), some (.int s0)] [.int 0, .ref 155] (t, T, (hf_up I 100 15 s0), L, P) _
        refine hf_dup2 dX11_refuse_13 rfl rfl ?_
        refine hf_iald_k (j := 0) (by decide) dX11_refuse_14 (hs.2.1 155 _ rfl) (hf_lin hs 155 rfl) (hf_vin (by decide)) ?_
        refine hf_iconst (v := 1) dX11_refuse_15 (by decide) ?_
        refine hf_iadd dX11_refuse_16 ?_
        refine hf_iast_k (j := 0) (by decide) dX11_refuse_17 (hs.2.1 155 _ rfl) (hf_lin hs 155 rfl) (hf_vin (by decide)) ?_
        refine hf_iload_n dX11_refuse_18 rfl rfl ?_
        refine hf_ireturn dX11_refuse_19 rfl rfl ?_
        show hf_G X Y_X11_answered (d + 2) _ _ 9 [some (.ref 100), some (.int s0)] [.int s0] (t, T, (hf_up (hf_up I 100 15 s0) 155 0 ((I 155 0) + 1)), L, P) _
        refine hf_goto (tgt := 17) dX11_answered_9 (by decide) ?_
        refine hf_ireturn dX11_answered_17 rfl rfl ?_
        show hf_G X Y_X11_settings (d + 3) _ _ 53 [none, none] [.int s0] (t, T, (hf_up (hf_up I 100 15 s0) 155 0 ((I 155 0) + 1)), L, P) _
        refine hf_ireturn dX11_settings_53 rfl rfl ?_
        exact h
      | 3, _ =>
        have hx : s0 = (-3) := hf_swi hq (by decide)
        refine hf_tableIn (off := 37) (tgt := 38) dX11_refusalPlace_1 (by rw [hx]; decide) (by rw [hx]; decide) (by rw [hx]; rfl) (by decide) ?_
        replace h := h.2.2.2.1 hx
        refine hf_iconst (v := 2) dX11_refusalPlace_38 (by decide) ?_
        refine hf_ireturn dX11_refusalPlace_39 rfl rfl ?_
        show hf_G X Y_X11_refuse (d + 1) _ _ 13 [some (.ref 100), some (.int s0)] [.int 2, .ref 155] (t, T, (hf_up I 100 15 s0), L, P) _
        refine hf_dup2 dX11_refuse_13 rfl rfl ?_
        refine hf_iald_k (j := 2) (by decide) dX11_refuse_14 (hs.2.1 155 _ rfl) (hf_lin hs 155 rfl) (hf_vin (by decide)) ?_
        refine hf_iconst (v := 1) dX11_refuse_15 (by decide) ?_
        refine hf_iadd dX11_refuse_16 ?_
        refine hf_iast_k (j := 2) (by decide) dX11_refuse_17 (hs.2.1 155 _ rfl) (hf_lin hs 155 rfl) (hf_vin (by decide)) ?_
        refine hf_iload_n dX11_refuse_18 rfl rfl ?_
        refine hf_ireturn dX11_refuse_19 rfl rfl ?_
        show hf_G X Y_X11_answered (d + 2) _ _ 9 [some (.ref 100), some (.int s0)] [.int s0] (t, T, (hf_up (hf_up I 100 15 s0) 155 2 ((I 155 2) + 1)), L, P) _
        refine hf_goto (tgt := 17) dX11_answered_9 (by decide) ?_
        refine hf_ireturn dX11_answered_17 rfl rfl ?_
        show hf_G X Y_X11_settings (d + 3) _ _ 53 [none, none] [.int s0] (t, T, (hf_up (hf_up I 100 15 s0) 155 2 ((I 155 2) + 1)), L, P) _
        refine hf_ireturn dX11_settings_53 rfl rfl ?_
        exact h
      | 4, _ =>
        have hx : s0 = (-2) := hf_swi hq (by decide)
        refine hf_tableIn (off := 35) (tgt := 36) dX11_refusalPlace_1 (by rw [hx]; decide) (by rw [hx]; decide) (by rw [hx]; rfl) (by decide) ?_
        replace h := h.2.2.2.2.1 hx
        refine hf_iconst (v := 1) dX11_refusalPlace_36 (by decide) ?_
        refine hf_ireturn dX11_refusalPlace_37 rfl rfl ?_
        show hf_G X Y_X11_refuse (d + 1) _ _ 13 [some (.ref 100), some (.int s0)] [.int 1, .ref 155] (t, T, (hf_up I 100 15 s0), L, P) _
        refine hf_dup2 dX11_refuse_13 rfl rfl ?_
        refine hf_iald_k (j := 1) (by decide) dX11_refuse_14 (hs.2.1 155 _ rfl) (hf_lin hs 155 rfl) (hf_vin (by decide)) ?_
        refine hf_iconst (v := 1) dX11_refuse_15 (by decide) ?_
        refine hf_iadd dX11_refuse_16 ?_
        refine hf_iast_k (j := 1) (by decide) dX11_refuse_17 (hs.2.1 155 _ rfl) (hf_lin hs 155 rfl) (hf_vin (by decide)) ?_
        refine hf_iload_n dX11_refuse_18 rfl rfl ?_
        refine hf_ireturn dX11_refuse_19 rfl rfl ?_
        show hf_G X Y_X11_answered (d + 2) _ _ 9 [some (.ref 100), some (.int s0)] [.int s0] (t, T, (hf_up (hf_up I 100 15 s0) 155 1 ((I 155 1) + 1)), L, P) _
        refine hf_goto (tgt := 17) dX11_answered_9 (by decide) ?_
        refine hf_ireturn dX11_answered_17 rfl rfl ?_
        show hf_G X Y_X11_settings (d + 3) _ _ 53 [none, none] [.int s0] (t, T, (hf_up (hf_up I 100 15 s0) 155 1 ((I 155 1) + 1)), L, P) _
        refine hf_ireturn dX11_settings_53 rfl rfl ?_
        exact h
      | j + 5, hj => exact absurd hj (by omega)

set_option maxHeartbeats 4000000 in
theorem w_X11_fault_0 {X : hf_X} {d k n t : Nat} {T : hf_T} {I : hf_I} {L : hf_L} {P : hf_P} {Q : Option Value → hf_M → Prop}  (hs : hf_Lay t T P) (h : Q (some (.int (I 123 1))) (t, T, I, L, P)) : hf_G X Y_X11_fault d k n 0 (hf_en [.ref 100] 1) [] (t, T, I, L, P) Q := by
  show hf_G X Y_X11_fault d k n 0 [some (.ref 100)] [] (t, T, I, L, P) Q
  refine hf_aload_n dX11_fault_0 rfl rfl ?_
  refine hf_getr (b := 123) (c := 11) (j := 3) dX11_fault_1 (hs.2.1 100 _ rfl) (hf_lin hs 100 rfl) (by decide) (by decide) hw368 rfl (hs.2.2 100 3 _ rfl) ?_
  refine hf_geti (c := 5) (j := 1) dX11_fault_4 (hs.2.1 123 _ rfl) (hf_lin hs 123 rfl) (by decide) (by decide) hw229 (Or.inl rfl) ?_
  refine hf_ireturn dX11_fault_7 rfl rfl ?_
  exact h

set_option maxHeartbeats 4000000 in
theorem w_X11_stopped_0 {X : hf_X} {d k n t : Nat} {T : hf_T} {I : hf_I} {L : hf_L} {P : hf_P} {Q : Option Value → hf_M → Prop}  (hs : hf_Lay t T P) (h : Q (some (.int (I 100 14))) (t, T, I, L, P)) : hf_G X Y_X11_stopped d k n 0 (hf_en [.ref 100] 1) [] (t, T, I, L, P) Q := by
  show hf_G X Y_X11_stopped d k n 0 [some (.ref 100)] [] (t, T, I, L, P) Q
  refine hf_aload_n dX11_stopped_0 rfl rfl ?_
  refine hf_geti (c := 11) (j := 14) dX11_stopped_1 (hs.2.1 100 _ rfl) (hf_lin hs 100 rfl) (by decide) (by decide) hw380 (Or.inl rfl) ?_
  refine hf_ireturn dX11_stopped_4 rfl rfl ?_
  exact h

set_option maxHeartbeats 4000000 in
theorem w_X11_force_0 {X : hf_X} {d k n t : Nat} {T : hf_T} {I : hf_I} {L : hf_L} {P : hf_P} {Q : Option Value → hf_M → Prop} {x1 : Int32} (hs : hf_Lay t T P) (h : (x1 = (-1) → Q (some (.int (I 101 16))) (t, T, (hf_up (hf_up (hf_up I 101 16 x1) 100 15 0) 100 16 ((I 100 16) + 1)), L, P)) ∧ (¬ (x1 = (-1)) → (x1 < 0 → Q (some (.int (-2))) (t, T, (hf_up (hf_up I 100 15 (-2)) 155 1 ((I 155 1) + 1)), L, P)) ∧ (¬ (x1 < 0) → (((I 101 15) - 1) < x1 → Q (some (.int (-2))) (t, T, (hf_up (hf_up I 100 15 (-2)) 155 1 ((I 155 1) + 1)), L, P)) ∧ (¬ (((I 101 15) - 1) < x1) → Q (some (.int (I 101 16))) (t, T, (hf_up (hf_up (hf_up I 101 16 x1) 100 15 0) 100 16 ((I 100 16) + 1)), L, P))))) : hf_G X Y_X11_force (d + 2) k n 0 (hf_en [.ref 100, .int x1] 3) [] (t, T, I, L, P) Q := by
  show hf_G X Y_X11_force (d + 2) k n 0 [some (.ref 100), some (.int x1), none] [] (t, T, I, L, P) Q
  refine hf_iload_n dX11_force_0 rfl rfl ?_
  refine hf_iconst (v := (-1)) dX11_force_1 (by decide) ?_
  refine hf_icmp_eq (tgt := 29) dX11_force_2 (by decide) (fun hc => ?_) (fun hc => ?_)
  · replace h := h.1 hc
    refine hf_aload_n dX11_force_29 rfl rfl ?_
    refine hf_getr (b := 101) (c := 11) (j := 0) dX11_force_30 (hs.2.1 100 _ rfl) (hf_lin hs 100 rfl) (by decide) (by decide) hw365 rfl (hs.2.2 100 0 _ rfl) ?_
    refine hf_geti (c := 1) (j := 16) dX11_force_33 (hs.2.1 101 _ rfl) (hf_lin hs 101 rfl) (by decide) (by decide) hw152 (Or.inl rfl) ?_
    refine hf_istore_n (l2 := [some (.ref 100), some (.int x1), some (.int (I 101 16))]) dX11_force_36 rfl (by decide) rfl ?_
    refine hf_aload_n dX11_force_37 rfl rfl ?_
    refine hf_getr (b := 101) (c := 11) (j := 0) dX11_force_38 (hs.2.1 100 _ rfl) (hf_lin hs 100 rfl) (by decide) (by decide) hw365 rfl (hs.2.2 100 0 _ rfl) ?_
    refine hf_iload_n dX11_force_41 rfl rfl ?_
    refine hf_puti (c := 1) (j := 16) dX11_force_42 (hs.2.1 101 _ rfl) (hf_lin hs 101 rfl) (by decide) (by decide) hw152 rfl rfl ?_
    refine hf_aload_n dX11_force_45 rfl rfl ?_
    refine hf_iload_n dX11_force_46 rfl rfl ?_
    refine hf_callV (c := 11) (as := [.int (I 101 16)]) ok_X11_granted dX11_force_47 hw418 hw419 hw1554 (hs.2.1 100 _ rfl) (by decide) (hf_lin hs 100 rfl) rfl (Nat.le_of_ble_eq_true rfl) rfl (Nat.le_of_ble_eq_true rfl) (Nat.zero_le _) (Nat.zero_le _) ?_
    show hf_G X Y_X11_granted (d + 1) _ _ 0 [some (.ref 100), some (.int (I 101 16))] [] (t, T, (hf_up I 101 16 x1), L, P) _
    refine hf_aload_n dX11_granted_0 rfl rfl ?_
    refine hf_iconst (v := 0) dX11_granted_1 (by decide) ?_
    refine hf_puti (c := 11) (j := 15) dX11_granted_2 (hs.2.1 100 _ rfl) (hf_lin hs 100 rfl) (by decide) (by decide) hw381 rfl rfl ?_
    refine hf_aload_n dX11_granted_5 rfl rfl ?_
    refine hf_dup dX11_granted_6 rfl ?_
    refine hf_geti (c := 11) (j := 16) dX11_granted_7 (hs.2.1 100 _ rfl) (hf_lin hs 100 rfl) (by decide) (by decide) hw382 (Or.inl rfl) ?_
    refine hf_iconst (v := 1) dX11_granted_10 (by decide) ?_
    refine hf_iadd dX11_granted_11 ?_
    refine hf_puti (c := 11) (j := 16) dX11_granted_12 (hs.2.1 100 _ rfl) (hf_lin hs 100 rfl) (by decide) (by decide) hw382 rfl rfl ?_
    refine hf_iload_n dX11_granted_15 rfl rfl ?_
    refine hf_ireturn dX11_granted_16 rfl rfl ?_
    show hf_G X Y_X11_force (d + 2) _ _ 50 [some (.ref 100), some (.int x1), some (.int (I 101 16))] [.int (I 101 16)] (t, T, (hf_up (hf_up (hf_up I 101 16 x1) 100 15 0) 100 16 ((I 100 16) + 1)), L, P) _
    refine hf_ireturn dX11_force_50 rfl rfl ?_
    exact h
  · replace h := h.2 hc
    refine hf_iload_n dX11_force_5 rfl rfl ?_
    refine hf_iconst (v := 0) dX11_force_6 (by decide) ?_
    refine hf_aload_n dX11_force_7 rfl rfl ?_
    refine hf_getr (b := 101) (c := 11) (j := 0) dX11_force_8 (hs.2.1 100 _ rfl) (hf_lin hs 100 rfl) (by decide) (by decide) hw365 rfl (hs.2.2 100 0 _ rfl) ?_
    refine hf_geti (c := 1) (j := 15) dX11_force_11 (hs.2.1 101 _ rfl) (hf_lin hs 101 rfl) (by decide) (by decide) hw149 (Or.inl rfl) ?_
    refine hf_iconst (v := 1) dX11_force_14 (by decide) ?_
    refine hf_isub dX11_force_15 ?_
    refine hf_callS (as := [.int x1, .int 0, .int ((I 101 15) - 1)]) ok_X11_within dX11_force_16 hw405 hw406 rfl (Nat.le_of_ble_eq_true rfl) rfl (Nat.le_of_ble_eq_true rfl) (Nat.zero_le _) (Nat.zero_le _) ?_
    show hf_G X Y_X11_within (d + 1) _ _ 0 [some (.int x1), some (.int 0), some (.int ((I 101 15) - 1))] [] (t, T, I, L, P) _
    refine hf_iload_n dX11_within_0 rfl rfl ?_
    refine hf_iload_n dX11_within_1 rfl rfl ?_
    refine hf_icmp_lt (tgt := 14) dX11_within_2 (by decide) (fun hc => ?_) (fun hc => ?_)
    · replace h := h.1 hc
      refine hf_iconst (v := 0) dX11_within_14 (by decide) ?_
      refine hf_ireturn dX11_within_15 rfl (by decide) ?_
      show hf_G X Y_X11_force (d + 2) _ _ 19 [some (.ref 100), some (.int x1), none] [.int 0] (t, T, I, L, P) _
      refine hf_if_ne (tgt := 29) dX11_force_19 (by decide) (fun hc => absurd (show ¬ (0 : Int32) = (0 : Int32) from hc) (by decide)) (fun _ => ?_)
      refine hf_aload_n dX11_force_22 rfl rfl ?_
      refine hf_bipush (v := (-2)) dX11_force_23 (by decide) ?_
      refine hf_callV (c := 11) (as := [.int (-2)]) ok_X11_refuse dX11_force_25 hw408 hw409 hw1553 (hs.2.1 100 _ rfl) (by decide) (hf_lin hs 100 rfl) rfl (Nat.le_of_ble_eq_true rfl) rfl (Nat.le_of_ble_eq_true rfl) (Nat.zero_le _) (Nat.zero_le _) ?_
      show hf_G X Y_X11_refuse (d + 1) _ _ 0 [some (.ref 100), some (.int (-2))] [] (t, T, I, L, P) _
      refine hf_aload_n dX11_refuse_0 rfl rfl ?_
      refine hf_iload_n dX11_refuse_1 rfl rfl ?_
      refine hf_puti (c := 11) (j := 15) dX11_refuse_2 (hs.2.1 100 _ rfl) (hf_lin hs 100 rfl) (by decide) (by decide) hw381 rfl rfl ?_
      refine hf_aload_n dX11_refuse_5 rfl rfl ?_
      refine hf_getr (b := 155) (c := 11) (j := 12) dX11_refuse_6 (hs.2.1 100 _ rfl) (hf_lin hs 100 rfl) (by decide) (by decide) hw377 rfl (hs.2.2 100 12 _ rfl) ?_
      refine hf_iload_n dX11_refuse_9 rfl rfl ?_
      refine hf_callS (as := [.int (-2)]) ok_X11_refusalPlace dX11_refuse_10 hw411 hw412 rfl (Nat.le_of_ble_eq_true rfl) rfl (Nat.le_of_ble_eq_true rfl) (Nat.zero_le _) (Nat.zero_le _) ?_
      show hf_G X Y_X11_refusalPlace d _ _ 0 [some (.int (-2))] [] (t, T, (hf_up I 100 15 (-2)), L, P) _
      refine hf_iload_n dX11_refusalPlace_0 rfl rfl ?_
      refine hf_tableIn (off := 35) (tgt := 36) dX11_refusalPlace_1 (by decide) (by decide) rfl (by decide) ?_
      refine hf_iconst (v := 1) dX11_refusalPlace_36 (by decide) ?_
      refine hf_ireturn dX11_refusalPlace_37 rfl rfl ?_
      show hf_G X Y_X11_refuse (d + 1) _ _ 13 [some (.ref 100), some (.int (-2))] [.int 1, .ref 155] (t, T, (hf_up I 100 15 (-2)), L, P) _
      refine hf_dup2 dX11_refuse_13 rfl rfl ?_
      refine hf_iald_k (j := 1) (by decide) dX11_refuse_14 (hs.2.1 155 _ rfl) (hf_lin hs 155 rfl) (hf_vin (by decide)) ?_
      refine hf_iconst (v := 1) dX11_refuse_15 (by decide) ?_
      refine hf_iadd dX11_refuse_16 ?_
      refine hf_iast_k (j := 1) (by decide) dX11_refuse_17 (hs.2.1 155 _ rfl) (hf_lin hs 155 rfl) (hf_vin (by decide)) ?_
      refine hf_iload_n dX11_refuse_18 rfl rfl ?_
      refine hf_ireturn dX11_refuse_19 rfl rfl ?_
      show hf_G X Y_X11_force (d + 2) _ _ 28 [some (.ref 100), some (.int x1), none] [.int (-2)] (t, T, (hf_up (hf_up I 100 15 (-2)) 155 1 ((I 155 1) + 1)), L, P) _
      refine hf_ireturn dX11_force_28 rfl rfl ?_
      exact h
    · replace h := h.2 hc
      refine hf_iload_n dX11_within_5 rfl rfl ?_
      refine hf_iload_n dX11_within_6 rfl rfl ?_
      refine hf_icmp_gt (tgt := 14) dX11_within_7 (by decide) (fun hc => ?_) (fun hc => ?_)
      · replace h := h.1 hc
        refine hf_iconst (v := 0) dX11_within_14 (by decide) ?_
        refine hf_ireturn dX11_within_15 rfl (by decide) ?_
        show hf_G X Y_X11_force (d + 2) _ _ 19 [some (.ref 100), some (.int x1), none] [.int 0] (t, T, I, L, P) _
        refine hf_if_ne (tgt := 29) dX11_force_19 (by decide) (fun hc => absurd (show ¬ (0 : Int32) = (0 : Int32) from hc) (by decide)) (fun _ => ?_)
        refine hf_aload_n dX11_force_22 rfl rfl ?_
        refine hf_bipush (v := (-2)) dX11_force_23 (by decide) ?_
        refine hf_callV (c := 11) (as := [.int (-2)]) ok_X11_refuse dX11_force_25 hw408 hw409 hw1553 (hs.2.1 100 _ rfl) (by decide) (hf_lin hs 100 rfl) rfl (Nat.le_of_ble_eq_true rfl) rfl (Nat.le_of_ble_eq_true rfl) (Nat.zero_le _) (Nat.zero_le _) ?_
        show hf_G X Y_X11_refuse (d + 1) _ _ 0 [some (.ref 100), some (.int (-2))] [] (t, T, I, L, P) _
        refine hf_aload_n dX11_refuse_0 rfl rfl ?_
        refine hf_iload_n dX11_refuse_1 rfl rfl ?_
        refine hf_puti (c := 11) (j := 15) dX11_refuse_2 (hs.2.1 100 _ rfl) (hf_lin hs 100 rfl) (by decide) (by decide) hw381 rfl rfl ?_
        refine hf_aload_n dX11_refuse_5 rfl rfl ?_
        refine hf_getr (b := 155) (c := 11) (j := 12) dX11_refuse_6 (hs.2.1 100 _ rfl) (hf_lin hs 100 rfl) (by decide) (by decide) hw377 rfl (hs.2.2 100 12 _ rfl) ?_
        refine hf_iload_n dX11_refuse_9 rfl rfl ?_
        refine hf_callS (as := [.int (-2)]) ok_X11_refusalPlace dX11_refuse_10 hw411 hw412 rfl (Nat.le_of_ble_eq_true rfl) rfl (Nat.le_of_ble_eq_true rfl) (Nat.zero_le _) (Nat.zero_le _) ?_
        show hf_G X Y_X11_refusalPlace d _ _ 0 [some (.int (-2))] [] (t, T, (hf_up I 100 15 (-2)), L, P) _
        refine hf_iload_n dX11_refusalPlace_0 rfl rfl ?_
        refine hf_tableIn (off := 35) (tgt := 36) dX11_refusalPlace_1 (by decide) (by decide) rfl (by decide) ?_
        refine hf_iconst (v := 1) dX11_refusalPlace_36 (by decide) ?_
        refine hf_ireturn dX11_refusalPlace_37 rfl rfl ?_
        show hf_G X Y_X11_refuse (d + 1) _ _ 13 [some (.ref 100), some (.int (-2))] [.int 1, .ref 155] (t, T, (hf_up I 100 15 (-2)), L, P) _
        refine hf_dup2 dX11_refuse_13 rfl rfl ?_
        refine hf_iald_k (j := 1) (by decide) dX11_refuse_14 (hs.2.1 155 _ rfl) (hf_lin hs 155 rfl) (hf_vin (by decide)) ?_
        refine hf_iconst (v := 1) dX11_refuse_15 (by decide) ?_
        refine hf_iadd dX11_refuse_16 ?_
        refine hf_iast_k (j := 1) (by decide) dX11_refuse_17 (hs.2.1 155 _ rfl) (hf_lin hs 155 rfl) (hf_vin (by decide)) ?_
        refine hf_iload_n dX11_refuse_18 rfl rfl ?_
        refine hf_ireturn dX11_refuse_19 rfl rfl ?_
        show hf_G X Y_X11_force (d + 2) _ _ 28 [some (.ref 100), some (.int x1), none] [.int (-2)] (t, T, (hf_up (hf_up I 100 15 (-2)) 155 1 ((I 155 1) + 1)), L, P) _
        refine hf_ireturn dX11_force_28 rfl rfl ?_
        exact h
      · replace h := h.2 hc
        refine hf_iconst (v := 1) dX11_within_10 (by decide) ?_
        refine hf_goto (tgt := 15) dX11_within_11 (by decide) ?_
        refine hf_ireturn dX11_within_15 rfl (by decide) ?_
        show hf_G X Y_X11_force (d + 2) _ _ 19 [some (.ref 100), some (.int x1), none] [.int 1] (t, T, I, L, P) _
        refine hf_if_ne (tgt := 29) dX11_force_19 (by decide) (fun _ => ?_) (fun hc => absurd (show (1 : Int32) = (0 : Int32) from hc) (by decide))
        refine hf_aload_n dX11_force_29 rfl rfl ?_
        refine hf_getr (b := 101) (c := 11) (j := 0) dX11_force_30 (hs.2.1 100 _ rfl) (hf_lin hs 100 rfl) (by decide) (by decide) hw365 rfl (hs.2.2 100 0 _ rfl) ?_
        refine hf_geti (c := 1) (j := 16) dX11_force_33 (hs.2.1 101 _ rfl) (hf_lin hs 101 rfl) (by decide) (by decide) hw152 (Or.inl rfl) ?_
        refine hf_istore_n (l2 := [some (.ref 100), some (.int x1), some (.int (I 101 16))]) dX11_force_36 rfl (by decide) rfl ?_
        refine hf_aload_n dX11_force_37 rfl rfl ?_
        refine hf_getr (b := 101) (c := 11) (j := 0) dX11_force_38 (hs.2.1 100 _ rfl) (hf_lin hs 100 rfl) (by decide) (by decide) hw365 rfl (hs.2.2 100 0 _ rfl) ?_
        refine hf_iload_n dX11_force_41 rfl rfl ?_
        refine hf_puti (c := 1) (j := 16) dX11_force_42 (hs.2.1 101 _ rfl) (hf_lin hs 101 rfl) (by decide) (by decide) hw152 rfl rfl ?_
        refine hf_aload_n dX11_force_45 rfl rfl ?_
        refine hf_iload_n dX11_force_46 rfl rfl ?_
        refine hf_callV (c := 11) (as := [.int (I 101 16)]) ok_X11_granted dX11_force_47 hw418 hw419 hw1554 (hs.2.1 100 _ rfl) (by decide) (hf_lin hs 100 rfl) rfl (Nat.le_of_ble_eq_true rfl) rfl (Nat.le_of_ble_eq_true rfl) (Nat.zero_le _) (Nat.zero_le _) ?_
        show hf_G X Y_X11_granted (d + 1) _ _ 0 [some (.ref 100), some (.int (I 101 16))] [] (t, T, (hf_up I 101 16 x1), L, P) _
        refine hf_aload_n dX11_granted_0 rfl rfl ?_
        refine hf_iconst (v := 0) dX11_granted_1 (by decide) ?_
        refine hf_puti (c := 11) (j := 15) dX11_granted_2 (hs.2.1 100 _ rfl) (hf_lin hs 100 rfl) (by decide) (by decide) hw381 rfl rfl ?_
        refine hf_aload_n dX11_granted_5 rfl rfl ?_
        refine hf_dup dX11_granted_6 rfl ?_
        refine hf_geti (c := 11) (j := 16) dX11_granted_7 (hs.2.1 100 _ rfl) (hf_lin hs 100 rfl) (by decide) (by decide) hw382 (Or.inl rfl) ?_
        refine hf_iconst (v := 1) dX11_granted_10 (by decide) ?_
        refine hf_iadd dX11_granted_11 ?_
        refine hf_puti (c := 11) (j := 16) dX11_granted_12 (hs.2.1 100 _ rfl) (hf_lin hs 100 rfl) (by decide) (by decide) hw382 rfl rfl ?_
        refine hf_iload_n dX11_granted_15 rfl rfl ?_
        refine hf_ireturn dX11_granted_16 rfl rfl ?_
        show hf_G X Y_X11_force (d + 2) _ _ 50 [some (.ref 100), some (.int x1), some (.int (I 101 16))] [.int (I 101 16)] (t, T, (hf_up (hf_up (hf_up I 101 16 x1) 100 15 0) 100 16 ((I 100 16) + 1)), L, P) _
        refine hf_ireturn dX11_force_50 rfl rfl ?_
        exact h

set_option maxHeartbeats 4000000 in
theorem w_X11_say_0 {X : hf_X} {d k n t : Nat} {T : hf_T} {I : hf_I} {L : hf_L} {P : hf_P} {Q : Option Value → hf_M → Prop} {x1 : Int32} (hs : hf_Lay t T P) (h : (x1 < 0 → Q (some (.int (-1))) (t, T, (hf_up (hf_up I 100 15 (-1)) 155 0 ((I 155 0) + 1)), L, P)) ∧ (¬ (x1 < 0) → (7 < x1 → Q (some (.int (-1))) (t, T, (hf_up (hf_up I 100 15 (-1)) 155 0 ((I 155 0) + 1)), L, P)) ∧ (¬ (7 < x1) → ((I 101 17) < 6 → vp_in (I 101 17) 6 ∧ (Q (some (.int ((I 101 17) + 1))) (t, T, (hf_up (hf_up (hf_up (hf_up I 112 (((I 101 17)).toNatClampNeg) x1) 101 17 ((I 101 17) + 1)) 100 15 0) 100 16 ((I 100 16) + 1)), L, P))) ∧ (¬ ((I 101 17) < 6) → Q (some (.int (-5))) (t, T, (hf_up (hf_up I 100 15 (-5)) 155 3 ((I 155 3) + 1)), L, P))))) : hf_G X Y_X11_say (d + 2) k n 0 (hf_en [.ref 100, .int x1] 2) [] (t, T, I, L, P) Q := by
  show hf_G X Y_X11_say (d + 2) k n 0 [some (.ref 100), some (.int x1)] [] (t, T, I, L, P) Q
  refine hf_iload_n dX11_say_0 rfl rfl ?_
  refine hf_iconst (v := 0) dX11_say_1 (by decide) ?_
  refine hf_bipush (v := 7) dX11_say_2 (by decide) ?_
  refine hf_callS (as := [.int x1, .int 0, .int 7]) ok_X11_within dX11_say_4 hw405 hw406 rfl (Nat.le_of_ble_eq_true rfl) rfl (Nat.le_of_ble_eq_true rfl) (Nat.zero_le _) (Nat.zero_le _) ?_
  show hf_G X Y_X11_within (d + 1) _ _ 0 [some (.int x1), some (.int 0), some (.int 7)] [] (t, T, I, L, P) _
  refine hf_iload_n dX11_within_0 rfl rfl ?_
  refine hf_iload_n dX11_within_1 rfl rfl ?_
  refine hf_icmp_lt (tgt := 14) dX11_within_2 (by decide) (fun hc => ?_) (fun hc => ?_)
  · replace h := h.1 hc
    refine hf_iconst (v := 0) dX11_within_14 (by decide) ?_
    refine hf_ireturn dX11_within_15 rfl (by decide) ?_
    show hf_G X Y_X11_say (d + 2) _ _ 7 [some (.ref 100), some (.int x1)] [.int 0] (t, T, I, L, P) _
    refine hf_if_ne (tgt := 16) dX11_say_7 (by decide) (fun hc => absurd (show ¬ (0 : Int32) = (0 : Int32) from hc) (by decide)) (fun _ => ?_)
    refine hf_aload_n dX11_say_10 rfl rfl ?_
    refine hf_iconst (v := (-1)) dX11_say_11 (by decide) ?_
    refine hf_callV (c := 11) (as := [.int (-1)]) ok_X11_refuse dX11_say_12 hw408 hw409 hw1553 (hs.2.1 100 _ rfl) (by decide) (hf_lin hs 100 rfl) rfl (Nat.le_of_ble_eq_true rfl) rfl (Nat.le_of_ble_eq_true rfl) (Nat.zero_le _) (Nat.zero_le _) ?_
    show hf_G X Y_X11_refuse (d + 1) _ _ 0 [some (.ref 100), some (.int (-1))] [] (t, T, I, L, P) _
    refine hf_aload_n dX11_refuse_0 rfl rfl ?_
    refine hf_iload_n dX11_refuse_1 rfl rfl ?_
    refine hf_puti (c := 11) (j := 15) dX11_refuse_2 (hs.2.1 100 _ rfl) (hf_lin hs 100 rfl) (by decide) (by decide) hw381 rfl rfl ?_
    refine hf_aload_n dX11_refuse_5 rfl rfl ?_
    refine hf_getr (b := 155) (c := 11) (j := 12) dX11_refuse_6 (hs.2.1 100 _ rfl) (hf_lin hs 100 rfl) (by decide) (by decide) hw377 rfl (hs.2.2 100 12 _ rfl) ?_
    refine hf_iload_n dX11_refuse_9 rfl rfl ?_
    refine hf_callS (as := [.int (-1)]) ok_X11_refusalPlace dX11_refuse_10 hw411 hw412 rfl (Nat.le_of_ble_eq_true rfl) rfl (Nat.le_of_ble_eq_true rfl) (Nat.zero_le _) (Nat.zero_le _) ?_
    show hf_G X Y_X11_refusalPlace d _ _ 0 [some (.int (-1))] [] (t, T, (hf_up I 100 15 (-1)), L, P) _
    refine hf_iload_n dX11_refusalPlace_0 rfl rfl ?_
    refine hf_tableOut (tgt := 44) dX11_refusalPlace_1 (by decide) (by decide) ?_
    refine hf_iconst (v := 0) dX11_refusalPlace_44 (by decide) ?_
    refine hf_ireturn dX11_refusalPlace_45 rfl rfl ?_
    show hf_G X Y_X11_refuse (d + 1) _ _ 13 [some (.ref 100), some (.int (-1))] [.int 0, .ref 155] (t, T, (hf_up I 100 15 (-1)), L, P) _
    refine hf_dup2 dX11_refuse_13 rfl rfl ?_
    refine hf_iald_k (j := 0) (by decide) dX11_refuse_14 (hs.2.1 155 _ rfl) (hf_lin hs 155 rfl) (hf_vin (by decide)) ?_
    refine hf_iconst (v := 1) dX11_refuse_15 (by decide) ?_
    refine hf_iadd dX11_refuse_16 ?_
    refine hf_iast_k (j := 0) (by decide) dX11_refuse_17 (hs.2.1 155 _ rfl) (hf_lin hs 155 rfl) (hf_vin (by decide)) ?_
    refine hf_iload_n dX11_refuse_18 rfl rfl ?_
    refine hf_ireturn dX11_refuse_19 rfl rfl ?_
    show hf_G X Y_X11_say (d + 2) _ _ 15 [some (.ref 100), some (.int x1)] [.int (-1)] (t, T, (hf_up (hf_up I 100 15 (-1)) 155 0 ((I 155 0) + 1)), L, P) _
    refine hf_ireturn dX11_say_15 rfl rfl ?_
    exact h
  · replace h := h.2 hc
    refine hf_iload_n dX11_within_5 rfl rfl ?_
    refine hf_iload_n dX11_within_6 rfl rfl ?_
    refine hf_icmp_gt (tgt := 14) dX11_within_7 (by decide) (fun hc => ?_) (fun hc => ?_)
    · replace h := h.1 hc
      refine hf_iconst (v := 0) dX11_within_14 (by decide) ?_
      refine hf_ireturn dX11_within_15 rfl (by decide) ?_
      show hf_G X Y_X11_say (d + 2) _ _ 7 [some (.ref 100), some (.int x1)] [.int 0] (t, T, I, L, P) _
      refine hf_if_ne (tgt := 16) dX11_say_7 (by decide) (fun hc => absurd (show ¬ (0 : Int32) = (0 : Int32) from hc) (by decide)) (fun _ => ?_)
      refine hf_aload_n dX11_say_10 rfl rfl ?_
      refine hf_iconst (v := (-1)) dX11_say_11 (by decide) ?_
      refine hf_callV (c := 11) (as := [.int (-1)]) ok_X11_refuse dX11_say_12 hw408 hw409 hw1553 (hs.2.1 100 _ rfl) (by decide) (hf_lin hs 100 rfl) rfl (Nat.le_of_ble_eq_true rfl) rfl (Nat.le_of_ble_eq_true rfl) (Nat.zero_le _) (Nat.zero_le _) ?_
      show hf_G X Y_X11_refuse (d + 1) _ _ 0 [some (.ref 100), some (.int (-1))] [] (t, T, I, L, P) _
      refine hf_aload_n dX11_refuse_0 rfl rfl ?_
      refine hf_iload_n dX11_refuse_1 rfl rfl ?_
      refine hf_puti (c := 11) (j := 15) dX11_refuse_2 (hs.2.1 100 _ rfl) (hf_lin hs 100 rfl) (by decide) (by decide) hw381 rfl rfl ?_
      refine hf_aload_n dX11_refuse_5 rfl rfl ?_
      refine hf_getr (b := 155) (c := 11) (j := 12) dX11_refuse_6 (hs.2.1 100 _ rfl) (hf_lin hs 100 rfl) (by decide) (by decide) hw377 rfl (hs.2.2 100 12 _ rfl) ?_
      refine hf_iload_n dX11_refuse_9 rfl rfl ?_
      refine hf_callS (as := [.int (-1)]) ok_X11_refusalPlace dX11_refuse_10 hw411 hw412 rfl (Nat.le_of_ble_eq_true rfl) rfl (Nat.le_of_ble_eq_true rfl) (Nat.zero_le _) (Nat.zero_le _) ?_
      show hf_G X Y_X11_refusalPlace d _ _ 0 [some (.int (-1))] [] (t, T, (hf_up I 100 15 (-1)), L, P) _
      refine hf_iload_n dX11_refusalPlace_0 rfl rfl ?_
      refine hf_tableOut (tgt := 44) dX11_refusalPlace_1 (by decide) (by decide) ?_
      refine hf_iconst (v := 0) dX11_refusalPlace_44 (by decide) ?_
      refine hf_ireturn dX11_refusalPlace_45 rfl rfl ?_
      show hf_G X Y_X11_refuse (d + 1) _ _ 13 [some (.ref 100), some (.int (-1))] [.int 0, .ref 155] (t, T, (hf_up I 100 15 (-1)), L, P) _
      refine hf_dup2 dX11_refuse_13 rfl rfl ?_
      refine hf_iald_k (j := 0) (by decide) dX11_refuse_14 (hs.2.1 155 _ rfl) (hf_lin hs 155 rfl) (hf_vin (by decide)) ?_
      refine hf_iconst (v := 1) dX11_refuse_15 (by decide) ?_
      refine hf_iadd dX11_refuse_16 ?_
      refine hf_iast_k (j := 0) (by decide) dX11_refuse_17 (hs.2.1 155 _ rfl) (hf_lin hs 155 rfl) (hf_vin (by decide)) ?_
      refine hf_iload_n dX11_refuse_18 rfl rfl ?_
      refine hf_ireturn dX11_refuse_19 rfl rfl ?_
      show hf_G X Y_X11_say (d + 2) _ _ 15 [some (.ref 100), some (.int x1)] [.int (-1)] (t, T, (hf_up (hf_up I 100 15 (-1)) 155 0 ((I 155 0) + 1)), L, P) _
      refine hf_ireturn dX11_say_15 rfl rfl ?_
      exact h
    · replace h := h.2 hc
      refine hf_iconst (v := 1) dX11_within_10 (by decide) ?_
      refine hf_goto (tgt := 15) dX11_within_11 (by decide) ?_
      refine hf_ireturn dX11_within_15 rfl (by decide) ?_
      show hf_G X Y_X11_say (d + 2) _ _ 7 [some (.ref 100), some (.int x1)] [.int 1] (t, T, I, L, P) _
      refine hf_if_ne (tgt := 16) dX11_say_7 (by decide) (fun _ => ?_) (fun hc => absurd (show (1 : Int32) = (0 : Int32) from hc) (by decide))
      refine hf_aload_n dX11_say_16 rfl rfl ?_
      refine hf_getr (b := 101) (c := 11) (j := 0) dX11_say_17 (hs.2.1 100 _ rfl) (hf_lin hs 100 rfl) (by decide) (by decide) hw365 rfl (hs.2.2 100 0 _ rfl) ?_
      refine hf_geti (c := 1) (j := 17) dX11_say_20 (hs.2.1 101 _ rfl) (hf_lin hs 101 rfl) (by decide) (by decide) hw155 (Or.inl rfl) ?_
      refine hf_bipush (v := 6) dX11_say_23 (by decide) ?_
      refine hf_icmp_lt (tgt := 35) dX11_say_25 (by decide) (fun hc => ?_) (fun hc => ?_)
      · replace h := h.1 hc
        refine hf_aload_n dX11_say_35 rfl rfl ?_
        refine hf_getr (b := 101) (c := 11) (j := 0) dX11_say_36 (hs.2.1 100 _ rfl) (hf_lin hs 100 rfl) (by decide) (by decide) hw365 rfl (hs.2.2 100 0 _ rfl) ?_
        refine hf_getr (b := 112) (c := 1) (j := 5) dX11_say_39 (hs.2.1 101 _ rfl) (hf_lin hs 101 rfl) (by decide) (by decide) hw117 rfl (hs.2.2 101 5 _ rfl) ?_
        refine hf_aload_n dX11_say_42 rfl rfl ?_
        refine hf_getr (b := 101) (c := 11) (j := 0) dX11_say_43 (hs.2.1 100 _ rfl) (hf_lin hs 100 rfl) (by decide) (by decide) hw365 rfl (hs.2.2 100 0 _ rfl) ?_
        refine hf_geti (c := 1) (j := 17) dX11_say_46 (hs.2.1 101 _ rfl) (hf_lin hs 101 rfl) (by decide) (by decide) hw155 (Or.inl rfl) ?_
        refine hf_iload_n dX11_say_49 rfl rfl ?_
        refine hf_iast dX11_say_50 (hs.2.1 112 _ rfl) (hf_lin hs 112 rfl) h.1 ?_
        replace h := h.2
        refine hf_aload_n dX11_say_51 rfl rfl ?_
        refine hf_getr (b := 101) (c := 11) (j := 0) dX11_say_52 (hs.2.1 100 _ rfl) (hf_lin hs 100 rfl) (by decide) (by decide) hw365 rfl (hs.2.2 100 0 _ rfl) ?_
        refine hf_dup dX11_say_55 rfl ?_
        refine hf_geti (c := 1) (j := 17) dX11_say_56 (hs.2.1 101 _ rfl) (hf_lin hs 101 rfl) (by decide) (by decide) hw155 (Or.inl rfl) ?_
        refine hf_iconst (v := 1) dX11_say_59 (by decide) ?_
        refine hf_iadd dX11_say_60 ?_
        refine hf_puti (c := 1) (j := 17) dX11_say_61 (hs.2.1 101 _ rfl) (hf_lin hs 101 rfl) (by decide) (by decide) hw155 rfl rfl ?_
        refine hf_aload_n dX11_say_64 rfl rfl ?_
        refine hf_aload_n dX11_say_65 rfl rfl ?_
        refine hf_getr (b := 101) (c := 11) (j := 0) dX11_say_66 (hs.2.1 100 _ rfl) (hf_lin hs 100 rfl) (by decide) (by decide) hw365 rfl (hs.2.2 100 0 _ rfl) ?_
        refine hf_geti (c := 1) (j := 17) dX11_say_69 (hs.2.1 101 _ rfl) (hf_lin hs 101 rfl) (by decide) (by decide) hw155 (Or.inl rfl) ?_
        refine hf_callV (c := 11) (as := [.int ((I 101 17) + 1)]) ok_X11_granted dX11_say_72 hw418 hw419 hw1554 (hs.2.1 100 _ rfl) (by decide) (hf_lin hs 100 rfl) rfl (Nat.le_of_ble_eq_true rfl) rfl (Nat.le_of_ble_eq_true rfl) (Nat.zero_le _) (Nat.zero_le _) ?_
        show hf_G X Y_X11_granted (d + 1) _ _ 0 [some (.ref 100), some (.int ((I 101 17) + 1))] [] (t, T, (hf_up (hf_up I 112 (((I 101 17)).toNatClampNeg) x1) 101 17 ((I 101 17) + 1)), L, P) _
        refine hf_aload_n dX11_granted_0 rfl rfl ?_
        refine hf_iconst (v := 0) dX11_granted_1 (by decide) ?_
        refine hf_puti (c := 11) (j := 15) dX11_granted_2 (hs.2.1 100 _ rfl) (hf_lin hs 100 rfl) (by decide) (by decide) hw381 rfl rfl ?_
        refine hf_aload_n dX11_granted_5 rfl rfl ?_
        refine hf_dup dX11_granted_6 rfl ?_
        refine hf_geti (c := 11) (j := 16) dX11_granted_7 (hs.2.1 100 _ rfl) (hf_lin hs 100 rfl) (by decide) (by decide) hw382 (Or.inl rfl) ?_
        refine hf_iconst (v := 1) dX11_granted_10 (by decide) ?_
        refine hf_iadd dX11_granted_11 ?_
        refine hf_puti (c := 11) (j := 16) dX11_granted_12 (hs.2.1 100 _ rfl) (hf_lin hs 100 rfl) (by decide) (by decide) hw382 rfl rfl ?_
        refine hf_iload_n dX11_granted_15 rfl rfl ?_
        refine hf_ireturn dX11_granted_16 rfl rfl ?_
        show hf_G X Y_X11_say (d + 2) _ _ 75 [some (.ref 100), some (.int x1)] [.int ((I 101 17) + 1)] (t, T, (hf_up (hf_up (hf_up (hf_up I 112 (((I 101 17)).toNatClampNeg) x1) 101 17 ((I 101 17) + 1)) 100 15 0) 100 16 ((I 100 16) + 1)), L, P) _
        refine hf_ireturn dX11_say_75 rfl rfl ?_
        exact h
      · replace h := h.2 hc
        refine hf_aload_n dX11_say_28 rfl rfl ?_
        refine hf_bipush (v := (-5)) dX11_say_29 (by decide) ?_
        refine hf_callV (c := 11) (as := [.int (-5)]) ok_X11_refuse dX11_say_31 hw408 hw409 hw1553 (hs.2.1 100 _ rfl) (by decide) (hf_lin hs 100 rfl) rfl (Nat.le_of_ble_eq_true rfl) rfl (Nat.le_of_ble_eq_true rfl) (Nat.zero_le _) (Nat.zero_le _) ?_
        show hf_G X Y_X11_refuse (d + 1) _ _ 0 [some (.ref 100), some (.int (-5))] [] (t, T, I, L, P) _
        refine hf_aload_n dX11_refuse_0 rfl rfl ?_
        refine hf_iload_n dX11_refuse_1 rfl rfl ?_
        refine hf_puti (c := 11) (j := 15) dX11_refuse_2 (hs.2.1 100 _ rfl) (hf_lin hs 100 rfl) (by decide) (by decide) hw381 rfl rfl ?_
        refine hf_aload_n dX11_refuse_5 rfl rfl ?_
        refine hf_getr (b := 155) (c := 11) (j := 12) dX11_refuse_6 (hs.2.1 100 _ rfl) (hf_lin hs 100 rfl) (by decide) (by decide) hw377 rfl (hs.2.2 100 12 _ rfl) ?_
        refine hf_iload_n dX11_refuse_9 rfl rfl ?_
        refine hf_callS (as := [.int (-5)]) ok_X11_refusalPlace dX11_refuse_10 hw411 hw412 rfl (Nat.le_of_ble_eq_true rfl) rfl (Nat.le_of_ble_eq_true rfl) (Nat.zero_le _) (Nat.zero_le _) ?_
        show hf_G X Y_X11_refusalPlace d _ _ 0 [some (.int (-5))] [] (t, T, (hf_up I 100 15 (-5)), L, P) _
        refine hf_iload_n dX11_refusalPlace_0 rfl rfl ?_
        refine hf_tableIn (off := 39) (tgt := 40) dX11_refusalPlace_1 (by decide) (by decide) rfl (by decide) ?_
        refine hf_iconst (v := 3) dX11_refusalPlace_40 (by decide) ?_
        refine hf_ireturn dX11_refusalPlace_41 rfl rfl ?_
        show hf_G X Y_X11_refuse (d + 1) _ _ 13 [some (.ref 100), some (.int (-5))] [.int 3, .ref 155] (t, T, (hf_up I 100 15 (-5)), L, P) _
        refine hf_dup2 dX11_refuse_13 rfl rfl ?_
        refine hf_iald_k (j := 3) (by decide) dX11_refuse_14 (hs.2.1 155 _ rfl) (hf_lin hs 155 rfl) (hf_vin (by decide)) ?_
        refine hf_iconst (v := 1) dX11_refuse_15 (by decide) ?_
        refine hf_iadd dX11_refuse_16 ?_
        refine hf_iast_k (j := 3) (by decide) dX11_refuse_17 (hs.2.1 155 _ rfl) (hf_lin hs 155 rfl) (hf_vin (by decide)) ?_
        refine hf_iload_n dX11_refuse_18 rfl rfl ?_
        refine hf_ireturn dX11_refuse_19 rfl rfl ?_
        show hf_G X Y_X11_say (d + 2) _ _ 34 [some (.ref 100), some (.int x1)] [.int (-5)] (t, T, (hf_up (hf_up I 100 15 (-5)) 155 3 ((I 155 3) + 1)), L, P) _
        refine hf_ireturn dX11_say_34 rfl rfl ?_
        exact h

set_option maxHeartbeats 4000000 in
theorem w_X11_hush_0 {X : hf_X} {d k n t : Nat} {T : hf_T} {I : hf_I} {L : hf_L} {P : hf_P} {Q : Option Value → hf_M → Prop}  (hs : hf_Lay t T P) (h : Q (some (.int (I 101 17))) (t, T, (hf_up (hf_up I 101 17 0) 100 16 ((I 100 16) + 1)), L, P)) : hf_G X Y_X11_hush d k n 0 (hf_en [.ref 100] 2) [] (t, T, I, L, P) Q := by
  show hf_G X Y_X11_hush d k n 0 [some (.ref 100), none] [] (t, T, I, L, P) Q
  refine hf_aload_n dX11_hush_0 rfl rfl ?_
  refine hf_getr (b := 101) (c := 11) (j := 0) dX11_hush_1 (hs.2.1 100 _ rfl) (hf_lin hs 100 rfl) (by decide) (by decide) hw365 rfl (hs.2.2 100 0 _ rfl) ?_
  refine hf_geti (c := 1) (j := 17) dX11_hush_4 (hs.2.1 101 _ rfl) (hf_lin hs 101 rfl) (by decide) (by decide) hw155 (Or.inl rfl) ?_
  refine hf_istore_n (l2 := [some (.ref 100), some (.int (I 101 17))]) dX11_hush_7 rfl (by decide) rfl ?_
  refine hf_aload_n dX11_hush_8 rfl rfl ?_
  refine hf_getr (b := 101) (c := 11) (j := 0) dX11_hush_9 (hs.2.1 100 _ rfl) (hf_lin hs 100 rfl) (by decide) (by decide) hw365 rfl (hs.2.2 100 0 _ rfl) ?_
  refine hf_iconst (v := 0) dX11_hush_12 (by decide) ?_
  refine hf_puti (c := 1) (j := 17) dX11_hush_13 (hs.2.1 101 _ rfl) (hf_lin hs 101 rfl) (by decide) (by decide) hw155 rfl rfl ?_
  refine hf_aload_n dX11_hush_16 rfl rfl ?_
  refine hf_dup dX11_hush_17 rfl ?_
  refine hf_geti (c := 11) (j := 16) dX11_hush_18 (hs.2.1 100 _ rfl) (hf_lin hs 100 rfl) (by decide) (by decide) hw382 (Or.inl rfl) ?_
  refine hf_iconst (v := 1) dX11_hush_21 (by decide) ?_
  refine hf_iadd dX11_hush_22 ?_
  refine hf_puti (c := 11) (j := 16) dX11_hush_23 (hs.2.1 100 _ rfl) (hf_lin hs 100 rfl) (by decide) (by decide) hw382 rfl rfl ?_
  refine hf_iload_n dX11_hush_26 rfl rfl ?_
  refine hf_ireturn dX11_hush_27 rfl rfl ?_
  exact h

set_option maxHeartbeats 4000000 in
theorem w_X11_beside_0 {X : hf_X} {d k n t : Nat} {T : hf_T} {I : hf_I} {L : hf_L} {P : hf_P} {Q : Option Value → hf_M → Prop} {x1 : Int32} {x2 : Int32} (hs : hf_Lay t T P) (h : (x1 < 0 → Q (some (.int (-1))) (t, T, (hf_up (hf_up I 100 15 (-1)) 155 0 ((I 155 0) + 1)), L, P)) ∧ (¬ (x1 < 0) → (3 < x1 → Q (some (.int (-1))) (t, T, (hf_up (hf_up I 100 15 (-1)) 155 0 ((I 155 0) + 1)), L, P)) ∧ (¬ (3 < x1) → (x2 = (-1) → vp_in x1 4 ∧ (vp_in x1 4 ∧ (Q (some (.int (I 113 x1.toNatClampNeg))) (t, T, (hf_up (hf_up (hf_up I 113 x1.toNatClampNeg x2) 100 15 0) 100 16 ((I 100 16) + 1)), L, P)))) ∧ (¬ (x2 = (-1)) → (x2 < 0 → Q (some (.int (-2))) (t, T, (hf_up (hf_up I 100 15 (-2)) 155 1 ((I 155 1) + 1)), L, P)) ∧ (¬ (x2 < 0) → ((I 105 5) ≤ x2 → Q (some (.int (-2))) (t, T, (hf_up (hf_up I 100 15 (-2)) 155 1 ((I 155 1) + 1)), L, P)) ∧ (¬ ((I 105 5) ≤ x2) → vp_in x1 4 ∧ (vp_in x1 4 ∧ (Q (some (.int (I 113 x1.toNatClampNeg))) (t, T, (hf_up (hf_up (hf_up I 113 x1.toNatClampNeg x2) 100 15 0) 100 16 ((I 100 16) + 1)), L, P))))))))) : hf_G X Y_X11_beside (d + 2) k n 0 (hf_en [.ref 100, .int x1, .int x2] 4) [] (t, T, I, L, P) Q := by
  show hf_G X Y_X11_beside (d + 2) k n 0 [some (.ref 100), some (.int x1), some (.int x2), none] [] (t, T, I, L, P) Q
  refine hf_iload_n dX11_beside_0 rfl rfl ?_
  refine hf_iconst (v := 0) dX11_beside_1 (by decide) ?_
  refine hf_iconst (v := 3) dX11_beside_2 (by decide) ?_
  refine hf_callS (as := [.int x1, .int 0, .int 3]) ok_X11_within dX11_beside_3 hw405 hw406 rfl (Nat.le_of_ble_eq_true rfl) rfl (Nat.le_of_ble_eq_true rfl) (Nat.zero_le _) (Nat.zero_le _) ?_
  show hf_G X Y_X11_within (d + 1) _ _ 0 [some (.int x1), some (.int 0), some (.int 3)] [] (t, T, I, L, P) _
  refine hf_iload_n dX11_within_0 rfl rfl ?_
  refine hf_iload_n dX11_within_1 rfl rfl ?_
  refine hf_icmp_lt (tgt := 14) dX11_within_2 (by decide) (fun hc => ?_) (fun hc => ?_)
  · replace h := h.1 hc
    refine hf_iconst (v := 0) dX11_within_14 (by decide) ?_
    refine hf_ireturn dX11_within_15 rfl (by decide) ?_
    show hf_G X Y_X11_beside (d + 2) _ _ 6 [some (.ref 100), some (.int x1), some (.int x2), none] [.int 0] (t, T, I, L, P) _
    refine hf_if_ne (tgt := 15) dX11_beside_6 (by decide) (fun hc => absurd (show ¬ (0 : Int32) = (0 : Int32) from hc) (by decide)) (fun _ => ?_)
    refine hf_aload_n dX11_beside_9 rfl rfl ?_
    refine hf_iconst (v := (-1)) dX11_beside_10 (by decide) ?_
    refine hf_callV (c := 11) (as := [.int (-1)]) ok_X11_refuse dX11_beside_11 hw408 hw409 hw1553 (hs.2.1 100 _ rfl) (by decide) (hf_lin hs 100 rfl) rfl (Nat.le_of_ble_eq_true rfl) rfl (Nat.le_of_ble_eq_true rfl) (Nat.zero_le _) (Nat.zero_le _) ?_
    show hf_G X Y_X11_refuse (d + 1) _ _ 0 [some (.ref 100), some (.int (-1))] [] (t, T, I, L, P) _
    refine hf_aload_n dX11_refuse_0 rfl rfl ?_
    refine hf_iload_n dX11_refuse_1 rfl rfl ?_
    refine hf_puti (c := 11) (j := 15) dX11_refuse_2 (hs.2.1 100 _ rfl) (hf_lin hs 100 rfl) (by decide) (by decide) hw381 rfl rfl ?_
    refine hf_aload_n dX11_refuse_5 rfl rfl ?_
    refine hf_getr (b := 155) (c := 11) (j := 12) dX11_refuse_6 (hs.2.1 100 _ rfl) (hf_lin hs 100 rfl) (by decide) (by decide) hw377 rfl (hs.2.2 100 12 _ rfl) ?_
    refine hf_iload_n dX11_refuse_9 rfl rfl ?_
    refine hf_callS (as := [.int (-1)]) ok_X11_refusalPlace dX11_refuse_10 hw411 hw412 rfl (Nat.le_of_ble_eq_true rfl) rfl (Nat.le_of_ble_eq_true rfl) (Nat.zero_le _) (Nat.zero_le _) ?_
    show hf_G X Y_X11_refusalPlace d _ _ 0 [some (.int (-1))] [] (t, T, (hf_up I 100 15 (-1)), L, P) _
    refine hf_iload_n dX11_refusalPlace_0 rfl rfl ?_
    refine hf_tableOut (tgt := 44) dX11_refusalPlace_1 (by decide) (by decide) ?_
    refine hf_iconst (v := 0) dX11_refusalPlace_44 (by decide) ?_
    refine hf_ireturn dX11_refusalPlace_45 rfl rfl ?_
    show hf_G X Y_X11_refuse (d + 1) _ _ 13 [some (.ref 100), some (.int (-1))] [.int 0, .ref 155] (t, T, (hf_up I 100 15 (-1)), L, P) _
    refine hf_dup2 dX11_refuse_13 rfl rfl ?_
    refine hf_iald_k (j := 0) (by decide) dX11_refuse_14 (hs.2.1 155 _ rfl) (hf_lin hs 155 rfl) (hf_vin (by decide)) ?_
    refine hf_iconst (v := 1) dX11_refuse_15 (by decide) ?_
    refine hf_iadd dX11_refuse_16 ?_
    refine hf_iast_k (j := 0) (by decide) dX11_refuse_17 (hs.2.1 155 _ rfl) (hf_lin hs 155 rfl) (hf_vin (by decide)) ?_
    refine hf_iload_n dX11_refuse_18 rfl rfl ?_
    refine hf_ireturn dX11_refuse_19 rfl rfl ?_
    show hf_G X Y_X11_beside (d + 2) _ _ 14 [some (.ref 100), some (.int x1), some (.int x2), none] [.int (-1)] (t, T, (hf_up (hf_up I 100 15 (-1)) 155 0 ((I 155 0) + 1)), L, P) _
    refine hf_ireturn dX11_beside_14 rfl rfl ?_
    exact h
  · replace h := h.2 hc
    refine hf_iload_n dX11_within_5 rfl rfl ?_
    refine hf_iload_n dX11_within_6 rfl rfl ?_
    refine hf_icmp_gt (tgt := 14) dX11_within_7 (by decide) (fun hc => ?_) (fun hc => ?_)
    · replace h := h.1 hc
      refine hf_iconst (v := 0) dX11_within_14 (by decide) ?_
      refine hf_ireturn dX11_within_15 rfl (by decide) ?_
      show hf_G X Y_X11_beside (d + 2) _ _ 6 [some (.ref 100), some (.int x1), some (.int x2), none] [.int 0] (t, T, I, L, P) _
      refine hf_if_ne (tgt := 15) dX11_beside_6 (by decide) (fun hc => absurd (show ¬ (0 : Int32) = (0 : Int32) from hc) (by decide)) (fun _ => ?_)
      refine hf_aload_n dX11_beside_9 rfl rfl ?_
      refine hf_iconst (v := (-1)) dX11_beside_10 (by decide) ?_
      refine hf_callV (c := 11) (as := [.int (-1)]) ok_X11_refuse dX11_beside_11 hw408 hw409 hw1553 (hs.2.1 100 _ rfl) (by decide) (hf_lin hs 100 rfl) rfl (Nat.le_of_ble_eq_true rfl) rfl (Nat.le_of_ble_eq_true rfl) (Nat.zero_le _) (Nat.zero_le _) ?_
      show hf_G X Y_X11_refuse (d + 1) _ _ 0 [some (.ref 100), some (.int (-1))] [] (t, T, I, L, P) _
      refine hf_aload_n dX11_refuse_0 rfl rfl ?_
      refine hf_iload_n dX11_refuse_1 rfl rfl ?_
      refine hf_puti (c := 11) (j := 15) dX11_refuse_2 (hs.2.1 100 _ rfl) (hf_lin hs 100 rfl) (by decide) (by decide) hw381 rfl rfl ?_
      refine hf_aload_n dX11_refuse_5 rfl rfl ?_
      refine hf_getr (b := 155) (c := 11) (j := 12) dX11_refuse_6 (hs.2.1 100 _ rfl) (hf_lin hs 100 rfl) (by decide) (by decide) hw377 rfl (hs.2.2 100 12 _ rfl) ?_
      refine hf_iload_n dX11_refuse_9 rfl rfl ?_
      refine hf_callS (as := [.int (-1)]) ok_X11_refusalPlace dX11_refuse_10 hw411 hw412 rfl (Nat.le_of_ble_eq_true rfl) rfl (Nat.le_of_ble_eq_true rfl) (Nat.zero_le _) (Nat.zero_le _) ?_
      show hf_G X Y_X11_refusalPlace d _ _ 0 [some (.int (-1))] [] (t, T, (hf_up I 100 15 (-1)), L, P) _
      refine hf_iload_n dX11_refusalPlace_0 rfl rfl ?_
      refine hf_tableOut (tgt := 44) dX11_refusalPlace_1 (by decide) (by decide) ?_
      refine hf_iconst (v := 0) dX11_refusalPlace_44 (by decide) ?_
      refine hf_ireturn dX11_refusalPlace_45 rfl rfl ?_
      show hf_G X Y_X11_refuse (d + 1) _ _ 13 [some (.ref 100), some (.int (-1))] [.int 0, .ref 155] (t, T, (hf_up I 100 15 (-1)), L, P) _
      refine hf_dup2 dX11_refuse_13 rfl rfl ?_
      refine hf_iald_k (j := 0) (by decide) dX11_refuse_14 (hs.2.1 155 _ rfl) (hf_lin hs 155 rfl) (hf_vin (by decide)) ?_
      refine hf_iconst (v := 1) dX11_refuse_15 (by decide) ?_
      refine hf_iadd dX11_refuse_16 ?_
      refine hf_iast_k (j := 0) (by decide) dX11_refuse_17 (hs.2.1 155 _ rfl) (hf_lin hs 155 rfl) (hf_vin (by decide)) ?_
      refine hf_iload_n dX11_refuse_18 rfl rfl ?_
      refine hf_ireturn dX11_refuse_19 rfl rfl ?_
      show hf_G X Y_X11_beside (d + 2) _ _ 14 [some (.ref 100), some (.int x1), some (.int x2), none] [.int (-1)] (t, T, (hf_up (hf_up I 100 15 (-1)) 155 0 ((I 155 0) + 1)), L, P) _
      refine hf_ireturn dX11_beside_14 rfl rfl ?_
      exact h
    · replace h := h.2 hc
      refine hf_iconst (v := 1) dX11_within_10 (by decide) ?_
      refine hf_goto (tgt := 15) dX11_within_11 (by decide) ?_
      refine hf_ireturn dX11_within_15 rfl (by decide) ?_
      show hf_G X Y_X11_beside (d + 2) _ _ 6 [some (.ref 100), some (.int x1), some (.int x2), none] [.int 1] (t, T, I, L, P) _
      refine hf_if_ne (tgt := 15) dX11_beside_6 (by decide) (fun _ => ?_) (fun hc => absurd (show (1 : Int32) = (0 : Int32) from hc) (by decide))
      refine hf_iload_n dX11_beside_15 rfl rfl ?_
      refine hf_iconst (v := (-1)) dX11_beside_16 (by decide) ?_
      refine hf_icmp_eq (tgt := 41) dX11_beside_17 (by decide) (fun hc => ?_) (fun hc => ?_)
      · replace h := h.1 hc
        refine hf_aload_n dX11_beside_41 rfl rfl ?_
        refine hf_getr (b := 101) (c := 11) (j := 0) dX11_beside_42 (hs.2.1 100 _ rfl) (hf_lin hs 100 rfl) (by decide) (by decide) hw365 rfl (hs.2.2 100 0 _ rfl) ?_
        refine hf_getr (b := 113) (c := 1) (j := 6) dX11_beside_45 (hs.2.1 101 _ rfl) (hf_lin hs 101 rfl) (by decide) (by decide) hw120 rfl (hs.2.2 101 6 _ rfl) ?_
        refine hf_iload_n dX11_beside_48 rfl rfl ?_
        refine hf_iald dX11_beside_49 (hs.2.1 113 _ rfl) (hf_lin hs 113 rfl) h.1 ?_
        replace h := h.2
        refine hf_istore_n (l2 := [some (.ref 100), some (.int x1), some (.int x2), some (.int (I 113 x1.toNatClampNeg))]) dX11_beside_50 rfl (by decide) rfl ?_
        refine hf_aload_n dX11_beside_51 rfl rfl ?_
        refine hf_getr (b := 101) (c := 11) (j := 0) dX11_beside_52 (hs.2.1 100 _ rfl) (hf_lin hs 100 rfl) (by decide) (by decide) hw365 rfl (hs.2.2 100 0 _ rfl) ?_
        refine hf_getr (b := 113) (c := 1) (j := 6) dX11_beside_55 (hs.2.1 101 _ rfl) (hf_lin hs 101 rfl) (by decide) (by decide) hw120 rfl (hs.2.2 101 6 _ rfl) ?_
        refine hf_iload_n dX11_beside_58 rfl rfl ?_
        refine hf_iload_n dX11_beside_59 rfl rfl ?_
        refine hf_iast dX11_beside_60 (hs.2.1 113 _ rfl) (hf_lin hs 113 rfl) h.1 ?_
        replace h := h.2
        refine hf_aload_n dX11_beside_61 rfl rfl ?_
        refine hf_iload_n dX11_beside_62 rfl rfl ?_
        refine hf_callV (c := 11) (as := [.int (I 113 x1.toNatClampNeg)]) ok_X11_granted dX11_beside_63 hw418 hw419 hw1554 (hs.2.1 100 _ rfl) (by decide) (hf_lin hs 100 rfl) rfl (Nat.le_of_ble_eq_true rfl) rfl (Nat.le_of_ble_eq_true rfl) (Nat.zero_le _) (Nat.zero_le _) ?_
        show hf_G X Y_X11_granted (d + 1) _ _ 0 [some (.ref 100), some (.int (I 113 x1.toNatClampNeg))] [] (t, T, (hf_up I 113 x1.toNatClampNeg x2), L, P) _
        refine hf_aload_n dX11_granted_0 rfl rfl ?_
        refine hf_iconst (v := 0) dX11_granted_1 (by decide) ?_
        refine hf_puti (c := 11) (j := 15) dX11_granted_2 (hs.2.1 100 _ rfl) (hf_lin hs 100 rfl) (by decide) (by decide) hw381 rfl rfl ?_
        refine hf_aload_n dX11_granted_5 rfl rfl ?_
        refine hf_dup dX11_granted_6 rfl ?_
        refine hf_geti (c := 11) (j := 16) dX11_granted_7 (hs.2.1 100 _ rfl) (hf_lin hs 100 rfl) (by decide) (by decide) hw382 (Or.inl rfl) ?_
        refine hf_iconst (v := 1) dX11_granted_10 (by decide) ?_
        refine hf_iadd dX11_granted_11 ?_
        refine hf_puti (c := 11) (j := 16) dX11_granted_12 (hs.2.1 100 _ rfl) (hf_lin hs 100 rfl) (by decide) (by decide) hw382 rfl rfl ?_
        refine hf_iload_n dX11_granted_15 rfl rfl ?_
        refine hf_ireturn dX11_granted_16 rfl rfl ?_
        show hf_G X Y_X11_beside (d + 2) _ _ 66 [some (.ref 100), some (.int x1), some (.int x2), some (.int (I 113 x1.toNatClampNeg))] [.int (I 113 x1.toNatClampNeg)] (t, T, (hf_up (hf_up (hf_up I 113 x1.toNatClampNeg x2) 100 15 0) 100 16 ((I 100 16) + 1)), L, P) _
        refine hf_ireturn dX11_beside_66 rfl rfl ?_
        exact h
      · replace h := h.2 hc
        refine hf_aload_n dX11_beside_20 rfl rfl ?_
        refine hf_getr (b := 101) (c := 11) (j := 0) dX11_beside_21 (hs.2.1 100 _ rfl) (hf_lin hs 100 rfl) (by decide) (by decide) hw365 rfl (hs.2.2 100 0 _ rfl) ?_
        refine hf_getr (b := 105) (c := 1) (j := 3) dX11_beside_24 (hs.2.1 101 _ rfl) (hf_lin hs 101 rfl) (by decide) (by decide) hw111 rfl (hs.2.2 101 3 _ rfl) ?_
        refine hf_iload_n dX11_beside_27 rfl rfl ?_
        refine hf_callV (c := 10) (as := [.int x2]) ok_X10_has dX11_beside_28 hw474 hw475 hw476 (hs.2.1 105 _ rfl) (by decide) (hf_lin hs 105 rfl) rfl (Nat.le_of_ble_eq_true rfl) rfl (Nat.le_of_ble_eq_true rfl) (Nat.zero_le _) (Nat.zero_le _) ?_
        show hf_G X Y_X10_has (d + 1) _ _ 0 [some (.ref 105), some (.int x2)] [] (t, T, I, L, P) _
        refine hf_iload_n dX10_has_0 rfl rfl ?_
        refine hf_if_lt (tgt := 16) dX10_has_1 (by decide) (fun hc => ?_) (fun hc => ?_)
        · replace h := h.1 hc
          refine hf_iconst (v := 0) dX10_has_16 (by decide) ?_
          refine hf_ireturn dX10_has_17 rfl (by decide) ?_
          show hf_G X Y_X11_beside (d + 2) _ _ 31 [some (.ref 100), some (.int x1), some (.int x2), none] [.int 0] (t, T, I, L, P) _
          refine hf_if_ne (tgt := 41) dX11_beside_31 (by decide) (fun hc => absurd (show ¬ (0 : Int32) = (0 : Int32) from hc) (by decide)) (fun _ => ?_)
          refine hf_aload_n dX11_beside_34 rfl rfl ?_
          refine hf_bipush (v := (-2)) dX11_beside_35 (by decide) ?_
          refine hf_callV (c := 11) (as := [.int (-2)]) ok_X11_refuse dX11_beside_37 hw408 hw409 hw1553 (hs.2.1 100 _ rfl) (by decide) (hf_lin hs 100 rfl) rfl (Nat.le_of_ble_eq_true rfl) rfl (Nat.le_of_ble_eq_true rfl) (Nat.zero_le _) (Nat.zero_le _) ?_
          show hf_G X Y_X11_refuse (d + 1) _ _ 0 [some (.ref 100), some (.int (-2))] [] (t, T, I, L, P) _
          refine hf_aload_n dX11_refuse_0 rfl rfl ?_
          refine hf_iload_n dX11_refuse_1 rfl rfl ?_
          refine hf_puti (c := 11) (j := 15) dX11_refuse_2 (hs.2.1 100 _ rfl) (hf_lin hs 100 rfl) (by decide) (by decide) hw381 rfl rfl ?_
          refine hf_aload_n dX11_refuse_5 rfl rfl ?_
          refine hf_getr (b := 155) (c := 11) (j := 12) dX11_refuse_6 (hs.2.1 100 _ rfl) (hf_lin hs 100 rfl) (by decide) (by decide) hw377 rfl (hs.2.2 100 12 _ rfl) ?_
          refine hf_iload_n dX11_refuse_9 rfl rfl ?_
          refine hf_callS (as := [.int (-2)]) ok_X11_refusalPlace dX11_refuse_10 hw411 hw412 rfl (Nat.le_of_ble_eq_true rfl) rfl (Nat.le_of_ble_eq_true rfl) (Nat.zero_le _) (Nat.zero_le _) ?_
          show hf_G X Y_X11_refusalPlace d _ _ 0 [some (.int (-2))] [] (t, T, (hf_up I 100 15 (-2)), L, P) _
          refine hf_iload_n dX11_refusalPlace_0 rfl rfl ?_
          refine hf_tableIn (off := 35) (tgt := 36) dX11_refusalPlace_1 (by decide) (by decide) rfl (by decide) ?_
          refine hf_iconst (v := 1) dX11_refusalPlace_36 (by decide) ?_
          refine hf_ireturn dX11_refusalPlace_37 rfl rfl ?_
          show hf_G X Y_X11_refuse (d + 1) _ _ 13 [some (.ref 100), some (.int (-2))] [.int 1, .ref 155] (t, T, (hf_up I 100 15 (-2)), L, P) _
          refine hf_dup2 dX11_refuse_13 rfl rfl ?_
          refine hf_iald_k (j := 1) (by decide) dX11_refuse_14 (hs.2.1 155 _ rfl) (hf_lin hs 155 rfl) (hf_vin (by decide)) ?_
          refine hf_iconst (v := 1) dX11_refuse_15 (by decide) ?_
          refine hf_iadd dX11_refuse_16 ?_
          refine hf_iast_k (j := 1) (by decide) dX11_refuse_17 (hs.2.1 155 _ rfl) (hf_lin hs 155 rfl) (hf_vin (by decide)) ?_
          refine hf_iload_n dX11_refuse_18 rfl rfl ?_
          refine hf_ireturn dX11_refuse_19 rfl rfl ?_
          show hf_G X Y_X11_beside (d + 2) _ _ 40 [some (.ref 100), some (.int x1), some (.int x2), none] [.int (-2)] (t, T, (hf_up (hf_up I 100 15 (-2)) 155 1 ((I 155 1) + 1)), L, P) _
          refine hf_ireturn dX11_beside_40 rfl rfl ?_
          exact h
        · replace h := h.2 hc
          refine hf_iload_n dX10_has_4 rfl rfl ?_
          refine hf_aload_n dX10_has_5 rfl rfl ?_
          refine hf_geti (c := 10) (j := 5) dX10_has_6 (hs.2.1 105 _ rfl) (hf_lin hs 105 rfl) (by decide) (by decide) hw61 (Or.inl rfl) ?_
          refine hf_icmp_ge (tgt := 16) dX10_has_9 (by decide) (fun hc => ?_) (fun hc => ?_)
          · replace h := h.1 hc
            refine hf_iconst (v := 0) dX10_has_16 (by decide) ?_
            refine hf_ireturn dX10_has_17 rfl (by decide) ?_
            show hf_G X Y_X11_beside (d + 2) _ _ 31 [some (.ref 100), some (.int x1), some (.int x2), none] [.int 0] (t, T, I, L, P) _
            refine hf_if_ne (tgt := 41) dX11_beside_31 (by decide) (fun hc => absurd (show ¬ (0 : Int32) = (0 : Int32) from hc) (by decide)) (fun _ => ?_)
            refine hf_aload_n dX11_beside_34 rfl rfl ?_
            refine hf_bipush (v := (-2)) dX11_beside_35 (by decide) ?_
            refine hf_callV (c := 11) (as := [.int (-2)]) ok_X11_refuse dX11_beside_37 hw408 hw409 hw1553 (hs.2.1 100 _ rfl) (by decide) (hf_lin hs 100 rfl) rfl (Nat.le_of_ble_eq_true rfl) rfl (Nat.le_of_ble_eq_true rfl) (Nat.zero_le _) (Nat.zero_le _) ?_
            show hf_G X Y_X11_refuse (d + 1) _ _ 0 [some (.ref 100), some (.int (-2))] [] (t, T, I, L, P) _
            refine hf_aload_n dX11_refuse_0 rfl rfl ?_
            refine hf_iload_n dX11_refuse_1 rfl rfl ?_
            refine hf_puti (c := 11) (j := 15) dX11_refuse_2 (hs.2.1 100 _ rfl) (hf_lin hs 100 rfl) (by decide) (by decide) hw381 rfl rfl ?_
            refine hf_aload_n dX11_refuse_5 rfl rfl ?_
            refine hf_getr (b := 155) (c := 11) (j := 12) dX11_refuse_6 (hs.2.1 100 _ rfl) (hf_lin hs 100 rfl) (by decide) (by decide) hw377 rfl (hs.2.2 100 12 _ rfl) ?_
            refine hf_iload_n dX11_refuse_9 rfl rfl ?_
            refine hf_callS (as := [.int (-2)]) ok_X11_refusalPlace dX11_refuse_10 hw411 hw412 rfl (Nat.le_of_ble_eq_true rfl) rfl (Nat.le_of_ble_eq_true rfl) (Nat.zero_le _) (Nat.zero_le _) ?_
            show hf_G X Y_X11_refusalPlace d _ _ 0 [some (.int (-2))] [] (t, T, (hf_up I 100 15 (-2)), L, P) _
            refine hf_iload_n dX11_refusalPlace_0 rfl rfl ?_
            refine hf_tableIn (off := 35) (tgt := 36) dX11_refusalPlace_1 (by decide) (by decide) rfl (by decide) ?_
            refine hf_iconst (v := 1) dX11_refusalPlace_36 (by decide) ?_
            refine hf_ireturn dX11_refusalPlace_37 rfl rfl ?_
            show hf_G X Y_X11_refuse (d + 1) _ _ 13 [some (.ref 100), some (.int (-2))] [.int 1, .ref 155] (t, T, (hf_up I 100 15 (-2)), L, P) _
            refine hf_dup2 dX11_refuse_13 rfl rfl ?_
            refine hf_iald_k (j := 1) (by decide) dX11_refuse_14 (hs.2.1 155 _ rfl) (hf_lin hs 155 rfl) (hf_vin (by decide)) ?_
            refine hf_iconst (v := 1) dX11_refuse_15 (by decide) ?_
            refine hf_iadd dX11_refuse_16 ?_
            refine hf_iast_k (j := 1) (by decide) dX11_refuse_17 (hs.2.1 155 _ rfl) (hf_lin hs 155 rfl) (hf_vin (by decide)) ?_
            refine hf_iload_n dX11_refuse_18 rfl rfl ?_
            refine hf_ireturn dX11_refuse_19 rfl rfl ?_
            show hf_G X Y_X11_beside (d + 2) _ _ 40 [some (.ref 100), some (.int x1), some (.int x2), none] [.int (-2)] (t, T, (hf_up (hf_up I 100 15 (-2)) 155 1 ((I 155 1) + 1)), L, P) _
            refine hf_ireturn dX11_beside_40 rfl rfl ?_
            exact h
          · replace h := h.2 hc
            refine hf_iconst (v := 1) dX10_has_12 (by decide) ?_
            refine hf_goto (tgt := 17) dX10_has_13 (by decide) ?_
            refine hf_ireturn dX10_has_17 rfl (by decide) ?_
            show hf_G X Y_X11_beside (d + 2) _ _ 31 [some (.ref 100), some (.int x1), some (.int x2), none] [.int 1] (t, T, I, L, P) _
            refine hf_if_ne (tgt := 41) dX11_beside_31 (by decide) (fun _ => ?_) (fun hc => absurd (show (1 : Int32) = (0 : Int32) from hc) (by decide))
            refine hf_aload_n dX11_beside_41 rfl rfl ?_
            refine hf_getr (b := 101) (c := 11) (j := 0) dX11_beside_42 (hs.2.1 100 _ rfl) (hf_lin hs 100 rfl) (by decide) (by decide) hw365 rfl (hs.2.2 100 0 _ rfl) ?_
            refine hf_getr (b := 113) (c := 1) (j := 6) dX11_beside_45 (hs.2.1 101 _ rfl) (hf_lin hs 101 rfl) (by decide) (by decide) hw120 rfl (hs.2.2 101 6 _ rfl) ?_
            refine hf_iload_n dX11_beside_48 rfl rfl ?_
            refine hf_iald dX11_beside_49 (hs.2.1 113 _ rfl) (hf_lin hs 113 rfl) h.1 ?_
            replace h := h.2
            refine hf_istore_n (l2 := [some (.ref 100), some (.int x1), some (.int x2), some (.int (I 113 x1.toNatClampNeg))]) dX11_beside_50 rfl (by decide) rfl ?_
            refine hf_aload_n dX11_beside_51 rfl rfl ?_
            refine hf_getr (b := 101) (c := 11) (j := 0) dX11_beside_52 (hs.2.1 100 _ rfl) (hf_lin hs 100 rfl) (by decide) (by decide) hw365 rfl (hs.2.2 100 0 _ rfl) ?_
            refine hf_getr (b := 113) (c := 1) (j := 6) dX11_beside_55 (hs.2.1 101 _ rfl) (hf_lin hs 101 rfl) (by decide) (by decide) hw120 rfl (hs.2.2 101 6 _ rfl) ?_
            refine hf_iload_n dX11_beside_58 rfl rfl ?_
            refine hf_iload_n dX11_beside_59 rfl rfl ?_
            refine hf_iast dX11_beside_60 (hs.2.1 113 _ rfl) (hf_lin hs 113 rfl) h.1 ?_
            replace h := h.2
            refine hf_aload_n dX11_beside_61 rfl rfl ?_
            refine hf_iload_n dX11_beside_62 rfl rfl ?_
            refine hf_callV (c := 11) (as := [.int (I 113 x1.toNatClampNeg)]) ok_X11_granted dX11_beside_63 hw418 hw419 hw1554 (hs.2.1 100 _ rfl) (by decide) (hf_lin hs 100 rfl) rfl (Nat.le_of_ble_eq_true rfl) rfl (Nat.le_of_ble_eq_true rfl) (Nat.zero_le _) (Nat.zero_le _) ?_
            show hf_G X Y_X11_granted (d + 1) _ _ 0 [some (.ref 100), some (.int (I 113 x1.toNatClampNeg))] [] (t, T, (hf_up I 113 x1.toNatClampNeg x2), L, P) _
            refine hf_aload_n dX11_granted_0 rfl rfl ?_
            refine hf_iconst (v := 0) dX11_granted_1 (by decide) ?_
            refine hf_puti (c := 11) (j := 15) dX11_granted_2 (hs.2.1 100 _ rfl) (hf_lin hs 100 rfl) (by decide) (by decide) hw381 rfl rfl ?_
            refine hf_aload_n dX11_granted_5 rfl rfl ?_
            refine hf_dup dX11_granted_6 rfl ?_
            refine hf_geti (c := 11) (j := 16) dX11_granted_7 (hs.2.1 100 _ rfl) (hf_lin hs 100 rfl) (by decide) (by decide) hw382 (Or.inl rfl) ?_
            refine hf_iconst (v := 1) dX11_granted_10 (by decide) ?_
            refine hf_iadd dX11_granted_11 ?_
            refine hf_puti (c := 11) (j := 16) dX11_granted_12 (hs.2.1 100 _ rfl) (hf_lin hs 100 rfl) (by decide) (by decide) hw382 rfl rfl ?_
            refine hf_iload_n dX11_granted_15 rfl rfl ?_
            refine hf_ireturn dX11_granted_16 rfl rfl ?_
            show hf_G X Y_X11_beside (d + 2) _ _ 66 [some (.ref 100), some (.int x1), some (.int x2), some (.int (I 113 x1.toNatClampNeg))] [.int (I 113 x1.toNatClampNeg)] (t, T, (hf_up (hf_up (hf_up I 113 x1.toNatClampNeg x2) 100 15 0) 100 16 ((I 100 16) + 1)), L, P) _
            refine hf_ireturn dX11_beside_66 rfl rfl ?_
            exact h

set_option maxHeartbeats 4000000 in
theorem w_X11_set_0 {X : hf_X} {d k n t : Nat} {T : hf_T} {I : hf_I} {L : hf_L} {P : hf_P} {Q : Option Value → hf_M → Prop} {x1 : Int32} (hs : hf_Lay t T P) (h : hf_G X Y_X11_placeWord d 0 0 0 (hf_en [.ref 100, .int x1] 4) [] (t, T, I, L, P) (fun r M => hf_G X Y_X11_set (d + 1) k n 6 [none, none] (r.toList ++ [.ref 100]) M Q)) : hf_G X Y_X11_set (d + 1) k n 0 (hf_en [.ref 100, .int x1] 2) [] (t, T, I, L, P) Q := by
  show hf_G X Y_X11_set (d + 1) k n 0 [some (.ref 100), some (.int x1)] [] (t, T, I, L, P) Q
  refine hf_aload_n dX11_set_0 rfl rfl ?_
  refine hf_aload_n dX11_set_1 rfl rfl ?_
  refine hf_iload_n dX11_set_2 rfl rfl ?_
  exact hf_callV (c := 11) (as := [.int x1]) ok_X11_placeWord dX11_set_3 hw696 hw697 hw1583 (hs.2.1 100 _ rfl) (by decide) (hf_lin hs 100 rfl) rfl (Nat.le_of_ble_eq_true rfl) rfl (Nat.le_of_ble_eq_true rfl) (Nat.zero_le _) (Nat.zero_le _) (hf_mono (fun r M q => hf_drop (l' := [none, none]) (by simp [hf_sub]) q) h)

set_option maxHeartbeats 4000000 in
theorem w_X11_set_6 {X : hf_X} {d k n t : Nat} {T : hf_T} {I : hf_I} {L : hf_L} {P : hf_P} {Q : Option Value → hf_M → Prop} {s0 : Int32} (hs : hf_Lay t T P) (h : (0 ≤ s0 → Q (some (.int s0)) (t, T, (hf_up (hf_up I 100 15 0) 100 16 ((I 100 16) + 1)), L, P)) ∧ (¬ (0 ≤ s0) → (s0 = (-6) → Q (some (.int s0)) (t, T, (hf_up (hf_up I 100 15 s0) 155 4 ((I 155 4) + 1)), L, P)) ∧ (s0 = (-5) → Q (some (.int s0)) (t, T, (hf_up (hf_up I 100 15 s0) 155 3 ((I 155 3) + 1)), L, P)) ∧ (s0 = (-4) → Q (some (.int s0)) (t, T, (hf_up (hf_up I 100 15 s0) 155 0 ((I 155 0) + 1)), L, P)) ∧ (s0 = (-3) → Q (some (.int s0)) (t, T, (hf_up (hf_up I 100 15 s0) 155 2 ((I 155 2) + 1)), L, P)) ∧ (s0 = (-2) → Q (some (.int s0)) (t, T, (hf_up (hf_up I 100 15 s0) 155 1 ((I 155 1) + 1)), L, P)) ∧ (s0.toInt < (-6) ∨ (-2) < s0.toInt → Q (some (.int s0)) (t, T, (hf_up (hf_up I 100 15 s0) 155 0 ((I 155 0) + 1)), L, P)))) : hf_G X Y_X11_set (d + 3) k n 6 [none, none] [.int s0, .ref 100] (t, T, I, L, P) Q := by
  refine hf_callV (c := 11) (as := [.int s0]) ok_X11_answered dX11_set_6 hw432 hw433 hw1556 (hs.2.1 100 _ rfl) (by decide) (hf_lin hs 100 rfl) rfl (Nat.le_of_ble_eq_true rfl) rfl (Nat.le_of_ble_eq_true rfl) (Nat.zero_le _) (Nat.zero_le _) ?_
  show hf_G X Y_X11_answered (d + 2) _ _ 0 [some (.ref 100), some (.int s0)] [] (t, T, I, L, P) _
  refine hf_iload_n dX11_answered_0 rfl rfl ?_
  refine hf_if_ge (tgt := 12) dX11_answered_1 (by decide) (fun hc => ?_) (fun hc => ?_)
  · replace h := h.1 hc
    refine hf_aload_n dX11_answered_12 rfl rfl ?_
    refine hf_iload_n dX11_answered_13 rfl rfl ?_
    refine hf_callV (c := 11) (as := [.int s0]) ok_X11_granted dX11_answered_14 hw418 hw419 hw1554 (hs.2.1 100 _ rfl) (by decide) (hf_lin hs 100 rfl) rfl (Nat.le_of_ble_eq_true rfl) rfl (Nat.le_of_ble_eq_true rfl) (Nat.zero_le _) (Nat.zero_le _) ?_
    show hf_G X Y_X11_granted (d + 1) _ _ 0 [some (.ref 100), some (.int s0)] [] (t, T, I, L, P) _
    refine hf_aload_n dX11_granted_0 rfl rfl ?_
    refine hf_iconst (v := 0) dX11_granted_1 (by decide) ?_
    refine hf_puti (c := 11) (j := 15) dX11_granted_2 (hs.2.1 100 _ rfl) (hf_lin hs 100 rfl) (by decide) (by decide) hw381 rfl rfl ?_
    refine hf_aload_n dX11_granted_5 rfl rfl ?_
    refine hf_dup dX11_granted_6 rfl ?_
    refine hf_geti (c := 11) (j := 16) dX11_granted_7 (hs.2.1 100 _ rfl) (hf_lin hs 100 rfl) (by decide) (by decide) hw382 (Or.inl rfl) ?_
    refine hf_iconst (v := 1) dX11_granted_10 (by decide) ?_
    refine hf_iadd dX11_granted_11 ?_
    refine hf_puti (c := 11) (j := 16) dX11_granted_12 (hs.2.1 100 _ rfl) (hf_lin hs 100 rfl) (by decide) (by decide) hw382 rfl rfl ?_
    refine hf_iload_n dX11_granted_15 rfl rfl ?_
    refine hf_ireturn dX11_granted_16 rfl rfl ?_
    show hf_G X Y_X11_answered (d + 2) _ _ 17 [some (.ref 100), some (.int s0)] [.int s0] (t, T, (hf_up (hf_up I 100 15 0) 100 16 ((I 100 16) + 1)), L, P) _
    refine hf_ireturn dX11_answered_17 rfl rfl ?_
    show hf_G X Y_X11_set (d + 3) _ _ 9 [none, none] [.int s0] (t, T, (hf_up (hf_up I 100 15 0) 100 16 ((I 100 16) + 1)), L, P) _
    refine hf_ireturn dX11_set_9 rfl rfl ?_
    exact h
  · replace h := h.2 hc
    refine hf_aload_n dX11_answered_4 rfl rfl ?_
    refine hf_iload_n dX11_answered_5 rfl rfl ?_
    refine hf_callV (c := 11) (as := [.int s0]) ok_X11_refuse dX11_answered_6 hw408 hw409 hw1553 (hs.2.1 100 _ rfl) (by decide) (hf_lin hs 100 rfl) rfl (Nat.le_of_ble_eq_true rfl) rfl (Nat.le_of_ble_eq_true rfl) (Nat.zero_le _) (Nat.zero_le _) ?_
    show hf_G X Y_X11_refuse (d + 1) _ _ 0 [some (.ref 100), some (.int s0)] [] (t, T, I, L, P) _
    refine hf_aload_n dX11_refuse_0 rfl rfl ?_
    refine hf_iload_n dX11_refuse_1 rfl rfl ?_
    refine hf_puti (c := 11) (j := 15) dX11_refuse_2 (hs.2.1 100 _ rfl) (hf_lin hs 100 rfl) (by decide) (by decide) hw381 rfl rfl ?_
    refine hf_aload_n dX11_refuse_5 rfl rfl ?_
    refine hf_getr (b := 155) (c := 11) (j := 12) dX11_refuse_6 (hs.2.1 100 _ rfl) (hf_lin hs 100 rfl) (by decide) (by decide) hw377 rfl (hs.2.2 100 12 _ rfl) ?_
    refine hf_iload_n dX11_refuse_9 rfl rfl ?_
    refine hf_callS (as := [.int s0]) ok_X11_refusalPlace dX11_refuse_10 hw411 hw412 rfl (Nat.le_of_ble_eq_true rfl) rfl (Nat.le_of_ble_eq_true rfl) (Nat.zero_le _) (Nat.zero_le _) ?_
    show hf_G X Y_X11_refusalPlace d _ _ 0 [some (.int s0)] [] (t, T, (hf_up I 100 15 s0), L, P) _
    refine hf_iload_n dX11_refusalPlace_0 rfl rfl ?_
    rcases hf_swc s0 (-6) 4 with hq | ⟨j, hj, hq⟩
    · refine hf_tableOut (tgt := 44) dX11_refusalPlace_1 (by omega) (by decide) ?_
      replace h := h.2.2.2.2.2 (by omega)
      refine hf_iconst (v := 0) dX11_refusalPlace_44 (by decide) ?_
      refine hf_ireturn dX11_refusalPlace_45 rfl rfl ?_
      show hf_G X Y_X11_refuse (d + 1) _ _ 13 [some (.ref 100), some (.int s0)] [.int 0, .ref 155] (t, T, (hf_up I 100 15 s0), L, P) _
      refine hf_dup2 dX11_refuse_13 rfl rfl ?_
      refine hf_iald_k (j := 0) (by decide) dX11_refuse_14 (hs.2.1 155 _ rfl) (hf_lin hs 155 rfl) (hf_vin (by decide)) ?_
      refine hf_iconst (v := 1) dX11_refuse_15 (by decide) ?_
      refine hf_iadd dX11_refuse_16 ?_
      refine hf_iast_k (j := 0) (by decide) dX11_refuse_17 (hs.2.1 155 _ rfl) (hf_lin hs 155 rfl) (hf_vin (by decide)) ?_
      refine hf_iload_n dX11_refuse_18 rfl rfl ?_
      refine hf_ireturn dX11_refuse_19 rfl rfl ?_
      show hf_G X Y_X11_answered (d + 2) _ _ 9 [some (.ref 100), some (.int s0)] [.int s0] (t, T, (hf_up (hf_up I 100 15 s0) 155 0 ((I 155 0) + 1)), L, P) _
      refine hf_goto (tgt := 17) dX11_answered_9 (by decide) ?_
      refine hf_ireturn dX11_answered_17 rfl rfl ?_
      show hf_G X Y_X11_set (d + 3) _ _ 9 [none, none] [.int s0] (t, T, (hf_up (hf_up I 100 15 s0) 155 0 ((I 155 0) + 1)), L, P) _
      refine hf_ireturn dX11_set_9 rfl rfl ?_
      exact h
    · match j, hj with
      | 0, _ =>
        have hx : s0 = (-6) := hf_swi hq (by decide)
        refine hf_tableIn (off := 41) (tgt := 42) dX11_refusalPlace_1 (by rw [hx]; decide) (by rw [hx]; decide) (by rw [hx]; rfl) (by decide) ?_
        replace h := h.1 hx
        refine hf_iconst (v := 4) dX11_refusalPlace_42 (by decide) ?_
        refine hf_ireturn dX11_refusalPlace_43 rfl rfl ?_
        show hf_G X Y_X11_refuse (d + 1) _ _ 13 [some (.ref 100), some (.int s0)] [.int 4, .ref 155] (t, T, (hf_up I 100 15 s0), L, P) _
        refine hf_dup2 dX11_refuse_13 rfl rfl ?_
        refine hf_iald_k (j := 4) (by decide) dX11_refuse_14 (hs.2.1 155 _ rfl) (hf_lin hs 155 rfl) (hf_vin (by decide)) ?_
        refine hf_iconst (v := 1) dX11_refuse_15 (by decide) ?_
        refine hf_iadd dX11_refuse_16 ?_
        refine hf_iast_k (j := 4) (by decide) dX11_refuse_17 (hs.2.1 155 _ rfl) (hf_lin hs 155 rfl) (hf_vin (by decide)) ?_
        refine hf_iload_n dX11_refuse_18 rfl rfl ?_
        refine hf_ireturn dX11_refuse_19 rfl rfl ?_
        show hf_G X Y_X11_answered (d + 2) _ _ 9 [some (.ref 100), some (.int s0)] [.int s0] (t, T, (hf_up (hf_up I 100 15 s0) 155 4 ((I 155 4) + 1)), L, P) _
        refine hf_goto (tgt := 17) dX11_answered_9 (by decide) ?_
        refine hf_ireturn dX11_answered_17 rfl rfl ?_
        show hf_G X Y_X11_set (d + 3) _ _ 9 [none, none] [.int s0] (t, T, (hf_up (hf_up I 100 15 s0) 155 4 ((I 155 4) + 1)), L, P) _
        refine hf_ireturn dX11_set_9 rfl rfl ?_
        exact h
      | 1, _ =>
        have hx : s0 = (-5) := hf_swi hq (by decide)
        refine hf_tableIn (off := 39) (tgt := 40) dX11_refusalPlace_1 (by rw [hx]; decide) (by rw [hx]; decide) (by rw [hx]; rfl) (by decide) ?_
        replace h := h.2.1 hx
        refine hf_iconst (v := 3) dX11_refusalPlace_40 (by decide) ?_
        refine hf_ireturn dX11_refusalPlace_41 rfl rfl ?_
        show hf_G X Y_X11_refuse (d + 1) _ _ 13 [some (.ref 100), some (.int s0)] [.int 3, .ref 155] (t, T, (hf_up I 100 15 s0), L, P) _
        refine hf_dup2 dX11_refuse_13 rfl rfl ?_
        refine hf_iald_k (j := 3) (by decide) dX11_refuse_14 (hs.2.1 155 _ rfl) (hf_lin hs 155 rfl) (hf_vin (by decide)) ?_
        refine hf_iconst (v := 1) dX11_refuse_15 (by decide) ?_
        refine hf_iadd dX11_refuse_16 ?_
        refine hf_iast_k (j := 3) (by decide) dX11_refuse_17 (hs.2.1 155 _ rfl) (hf_lin hs 155 rfl) (hf_vin (by decide)) ?_
        refine hf_iload_n dX11_refuse_18 rfl rfl ?_
        refine hf_ireturn dX11_refuse_19 rfl rfl ?_
        show hf_G X Y_X11_answered (d + 2) _ _ 9 [some (.ref 100), some (.int s0)] [.int s0] (t, T, (hf_up (hf_up I 100 15 s0) 155 3 ((I 155 3) + 1)), L, P) _
        refine hf_goto (tgt := 17) dX11_answered_9 (by decide) ?_
        refine hf_ireturn dX11_answered_17 rfl rfl ?_
        show hf_G X Y_X11_set (d + 3) _ _ 9 [none, none] [.int s0] (t, T, (hf_up (hf_up I 100 15 s0) 155 3 ((I 155 3) + 1)), L, P) _
        refine hf_ireturn dX11_set_9 rfl rfl ?_
        exact h
      | 2, _ =>
        have hx : s0 = (-4) := hf_swi hq (by decide)
        refine hf_tableIn (off := 43) (tgt := 44) dX11_refusalPlace_1 (by rw [hx]; decide) (by rw [hx]; decide) (by rw [hx]; rfl) (by decide) ?_
        replace h := h.2.2.1 hx
        refine hf_iconst (v := 0) dX11_refusalPlace_44 (by decide) ?_
        refine hf_ireturn dX11_refusalPlace_45 rfl rfl ?_
        show hf_G X Y_X11_refuse (d + 1) _ _ 13 [some (.ref 100), some (.int s0)] [.int 0, .ref 155] (t, T, (hf_up I 100 15 s0), L, P) _
        refine hf_dup2 dX11_refuse_13 rfl rfl ?_
        refine hf_iald_k (j := 0) (by decide) dX11_refuse_14 (hs.2.1 155 _ rfl) (hf_lin hs 155 rfl) (hf_vin (by decide)) ?_
        refine hf_iconst (v := 1) dX11_refuse_15 (by decide) ?_
        refine hf_iadd dX11_refuse_16 ?_
        refine hf_iast_k (j := 0) (by decide) dX11_refuse_17 (hs.2.1 155 _ rfl) (hf_lin hs 155 rfl) (hf_vin (by decide)) ?_
        refine hf_iload_n dX11_refuse_18 rfl rfl ?_
        refine hf_ireturn dX11_refuse_19 rfl rfl ?_
        show hf_G X Y_X11_answered (d + 2) _ _ 9 [some (.ref 100), some (.int s0)] [.int s0] (t, T, (hf_up (hf_up I 100 15 s0) 155 0 ((I 155 0) + 1)), L, P) _
        refine hf_goto (tgt := 17) dX11_answered_9 (by decide) ?_
        refine hf_ireturn dX11_answered_17 rfl rfl ?_
        show hf_G X Y_X11_set (d + 3) _ _ 9 [none, none] [.int s0] (t, T, (hf_up (hf_up I 100 15 s0) 155 0 ((I 155 0) + 1)), L, P) _
        refine hf_ireturn dX11_set_9 rfl rfl ?_
        exact h
      | 3, _ =>
        have hx : s0 = (-3) := hf_swi hq (by decide)
        refine hf_tableIn (off := 37) (tgt := 38) dX11_refusalPlace_1 (by rw [hx]; decide) (by rw [hx]; decide) (by rw [hx]; rfl) (by decide) ?_
        replace h := h.2.2.2.1 hx
        refine hf_iconst (v := 2) dX11_refusalPlace_38 (by decide) ?_
        refine hf_ireturn dX11_refusalPlace_39 rfl rfl ?_
        show hf_G X Y_X11_refuse (d + 1) _ _ 13 [some (.ref 100), some (.int s0)] [.int 2, .ref 155] (t, T, (hf_up I 100 15 s0), L, P) _
        refine hf_dup2 dX11_refuse_13 rfl rfl ?_
        refine hf_iald_k (j := 2) (by decide) dX11_refuse_14 (hs.2.1 155 _ rfl) (hf_lin hs 155 rfl) (hf_vin (by decide)) ?_
        refine hf_iconst (v := 1) dX11_refuse_15 (by decide) ?_
        refine hf_iadd dX11_refuse_16 ?_
        refine hf_iast_k (j := 2) (by decide) dX11_refuse_17 (hs.2.1 155 _ rfl) (hf_lin hs 155 rfl) (hf_vin (by decide)) ?_
        refine hf_iload_n dX11_refuse_18 rfl rfl ?_
        refine hf_ireturn dX11_refuse_19 rfl rfl ?_
        show hf_G X Y_X11_answered (d + 2) _ _ 9 [some (.ref 100), some (.int s0)] [.int s0] (t, T, (hf_up (hf_up I 100 15 s0) 155 2 ((I 155 2) + 1)), L, P) _
        refine hf_goto (tgt := 17) dX11_answered_9 (by decide) ?_
        refine hf_ireturn dX11_answered_17 rfl rfl ?_
        show hf_G X Y_X11_set (d + 3) _ _ 9 [none, none] [.int s0] (t, T, (hf_up (hf_up I 100 15 s0) 155 2 ((I 155 2) + 1)), L, P) _
        refine hf_ireturn dX11_set_9 rfl rfl ?_
        exact h
      | 4, _ =>
        have hx : s0 = (-2) := hf_swi hq (by decide)
        refine hf_tableIn (off := 35) (tgt := 36) dX11_refusalPlace_1 (by rw [hx]; decide) (by rw [hx]; decide) (by rw [hx]; rfl) (by decide) ?_
        replace h := h.2.2.2.2.1 hx
        refine hf_iconst (v := 1) dX11_refusalPlace_36 (by decide) ?_
        refine hf_ireturn dX11_refusalPlace_37 rfl rfl ?_
        show hf_G X Y_X11_refuse (d + 1) _ _ 13 [some (.ref 100), some (.int s0)] [.int 1, .ref 155] (t, T, (hf_up I 100 15 s0), L, P) _
        refine hf_dup2 dX11_refuse_13 rfl rfl ?_
        refine hf_iald_k (j := 1) (by decide) dX11_refuse_14 (hs.2.1 155 _ rfl) (hf_lin hs 155 rfl) (hf_vin (by decide)) ?_
        refine hf_iconst (v := 1) dX11_refuse_15 (by decide) ?_
        refine hf_iadd dX11_refuse_16 ?_
        refine hf_iast_k (j := 1) (by decide) dX11_refuse_17 (hs.2.1 155 _ rfl) (hf_lin hs 155 rfl) (hf_vin (by decide)) ?_
        refine hf_iload_n dX11_refuse_18 rfl rfl ?_
        refine hf_ireturn dX11_refuse_19 rfl rfl ?_
        show hf_G X Y_X11_answered (d + 2) _ _ 9 [some (.ref 100), some (.int s0)] [.int s0] (t, T, (hf_up (hf_up I 100 15 s0) 155 1 ((I 155 1) + 1)), L, P) _
        refine hf_goto (tgt := 17) dX11_answered_9 (by decide) ?_
        refine hf_ireturn dX11_answered_17 rfl rfl ?_
        show hf_G X Y_X11_set (d + 3) _ _ 9 [none, none] [.int s0] (t, T, (hf_up (hf_up I 100 15 s0) 155 1 ((I 155 1) + 1)), L, P) _
        refine hf_ireturn dX11_set_9 rfl rfl ?_
        exact h
      | j + 5, hj => exact absurd hj (by omega)
