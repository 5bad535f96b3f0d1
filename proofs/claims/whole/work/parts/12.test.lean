set_option maxHeartbeats 4000000 in
theorem w_X3_manyIn_0 {X : hf_X} {d k n t : Nat} {T : hf_T} {I : hf_I} {L : hf_L} {P : hf_P} {Q : Option Value → hf_M → Prop} {line : Int32} (hs : hf_Lay t T P) (h : hf_G X Y_X3_manyIn d k n 4 [some (.ref 114), some (.int line), some (.int 0), some (.int 0)] [] (t, T, I, L, P) Q) : hf_G X Y_X3_manyIn d k n 0 (hf_en [.ref 114, .int line] 4) [] (t, T, I, L, P) Q := by
  show hf_G X Y_X3_manyIn d k n 0 [some (.ref 114), some (.int line), none, none] [] (t, T, I, L, P) Q
  refine hf_iconst (v := 0) dX3_manyIn_0 (by decide) ?_
  refine hf_istore_n (l2 := [some (.ref 114), some (.int line), some (.int 0), none]) dX3_manyIn_1 rfl (by decide) rfl ?_
  refine hf_iconst (v := 0) dX3_manyIn_2 (by decide) ?_
  refine hf_istore_n (l2 := [some (.ref 114), some (.int line), some (.int 0), some (.int 0)]) dX3_manyIn_3 rfl (by decide) rfl ?_
  exact h

set_option maxHeartbeats 4000000 in
theorem w_X3_manyIn_4 {X : hf_X} {d k n t : Nat} {T : hf_T} {I : hf_I} {L : hf_L} {P : hf_P} {Q : Option Value → hf_M → Prop} {line : Int32} {many : Int32} {i : Int32} (hs : hf_Lay t T P) (h : ((I 114 2) ≤ i → Q (some (.int many)) (t, T, I, L, P)) ∧ (¬ ((I 114 2) ≤ i) → vp_in i 12 ∧ ((¬ (I 116 i.toNatClampNeg) = line → hf_G X Y_X3_manyIn d k n 4 [some (.ref 114), some (.int line), some (.int many), some (.int (i + 1))] [] (t, T, I, L, P) Q) ∧ ((I 116 i.toNatClampNeg) = line → hf_G X Y_X3_manyIn d k n 4 [some (.ref 114), some (.int line), some (.int (many + 1)), some (.int (i + 1))] [] (t, T, I, L, P) Q)))) : hf_G X Y_X3_manyIn d k n 4 [some (.ref 114), some (.int line), some (.int many), some (.int i)] [] (t, T, I, L, P) Q := by
  refine hf_iload_n dX3_manyIn_4 rfl rfl ?_
  refine hf_aload_n dX3_manyIn_5 rfl rfl ?_
  refine hf_geti (c := 3) (j := 2) dX3_manyIn_6 (hs.2.1 114 _ rfl) (hf_lin hs 114 rfl) (by decide) (by decide) hw87 (Or.inl rfl) ?_
  refine hf_icmp_ge (tgt := 31) dX3_manyIn_9 (by decide) (fun hc => ?_) (fun hc => ?_)
  · replace h := h.1 hc
    refine hf_iload_n dX3_manyIn_31 rfl rfl ?_
    refine hf_ireturn dX3_manyIn_32 rfl rfl ?_
    exact h
  · replace h := h.2 hc
    refine hf_aload_n dX3_manyIn_12 rfl rfl ?_
    refine hf_getr (b := 116) (c := 3) (j := 1) dX3_manyIn_13 (hs.2.1 114 _ rfl) (hf_lin hs 114 rfl) (by decide) (by decide) hw83 rfl (hs.2.2 114 1 _ rfl) ?_
    refine hf_iload_n dX3_manyIn_16 rfl rfl ?_
    refine hf_iald dX3_manyIn_17 (hs.2.1 116 _ rfl) (hf_lin hs 116 rfl) h.1 ?_
    replace h := h.2
    refine hf_iload_n dX3_manyIn_18 rfl rfl ?_
    refine hf_icmp_ne (tgt := 25) dX3_manyIn_19 (by decide) (fun hc => ?_) (fun hc => ?_)
    · replace h := h.1 hc
      refine hf_iinc (v := (i + 1)) (l2 := [some (.ref 114), some (.int line), some (.int many), some (.int (i + 1))]) dX3_manyIn_25 (by decide) rfl rfl rfl ?_
      refine hf_goto (tgt := 4) dX3_manyIn_28 (by decide) ?_
      exact h
    · replace h := h.2 hc
      refine hf_iinc (v := (many + 1)) (l2 := [some (.ref 114), some (.int line), some (.int (many + 1)), some (.int i)]) dX3_manyIn_22 (by decide) rfl rfl rfl ?_
      refine hf_iinc (v := (i + 1)) (l2 := [some (.ref 114), some (.int line), some (.int (many + 1)), some (.int (i + 1))]) dX3_manyIn_25 (by decide) rfl rfl rfl ?_
      refine hf_goto (tgt := 4) dX3_manyIn_28 (by decide) ?_
      exact h

set_option maxHeartbeats 4000000 in
theorem w_X3_firstIn_0 {X : hf_X} {d k n t : Nat} {T : hf_T} {I : hf_I} {L : hf_L} {P : hf_P} {Q : Option Value → hf_M → Prop} {line : Int32} (hs : hf_Lay t T P) (h : hf_G X Y_X3_firstIn d k n 2 [some (.ref 114), some (.int line), some (.int 0)] [] (t, T, I, L, P) Q) : hf_G X Y_X3_firstIn d k n 0 (hf_en [.ref 114, .int line] 3) [] (t, T, I, L, P) Q := by
  show hf_G X Y_X3_firstIn d k n 0 [some (.ref 114), some (.int line), none] [] (t, T, I, L, P) Q
  refine hf_iconst (v := 0) dX3_firstIn_0 (by decide) ?_
  refine hf_istore_n (l2 := [some (.ref 114), some (.int line), some (.int 0)]) dX3_firstIn_1 rfl (by decide) rfl ?_
  exact h

set_option maxHeartbeats 4000000 in
theorem w_X3_firstIn_2 {X : hf_X} {d k n t : Nat} {T : hf_T} {I : hf_I} {L : hf_L} {P : hf_P} {Q : Option Value → hf_M → Prop} {line : Int32} {i : Int32} (hs : hf_Lay t T P) (h : ((I 114 2) ≤ i → Q (some (.int (-1))) (t, T, I, L, P)) ∧ (¬ ((I 114 2) ≤ i) → vp_in i 12 ∧ ((¬ (I 116 i.toNatClampNeg) = line → hf_G X Y_X3_firstIn d k n 2 [some (.ref 114), some (.int line), some (.int (i + 1))] [] (t, T, I, L, P) Q) ∧ ((I 116 i.toNatClampNeg) = line → vp_in i 12 ∧ (Q (some (.int (I 115 i.toNatClampNeg))) (t, T, I, L, P)))))) : hf_G X Y_X3_firstIn d k n 2 [some (.ref 114), some (.int line), some (.int i)] [] (t, T, I, L, P) Q := by
  refine hf_iload_n dX3_firstIn_2 rfl rfl ?_
  refine hf_aload_n dX3_firstIn_3 rfl rfl ?_
  refine hf_geti (c := 3) (j := 2) dX3_firstIn_4 (hs.2.1 114 _ rfl) (hf_lin hs 114 rfl) (by decide) (by decide) hw87 (Or.inl rfl) ?_
  refine hf_icmp_ge (tgt := 33) dX3_firstIn_7 (by decide) (fun hc => ?_) (fun hc => ?_)
  · replace h := h.1 hc
    refine hf_iconst (v := (-1)) dX3_firstIn_33 (by decide) ?_
    refine hf_ireturn dX3_firstIn_34 rfl rfl ?_
    exact h
  · replace h := h.2 hc
    refine hf_aload_n dX3_firstIn_10 rfl rfl ?_
    refine hf_getr (b := 116) (c := 3) (j := 1) dX3_firstIn_11 (hs.2.1 114 _ rfl) (hf_lin hs 114 rfl) (by decide) (by decide) hw83 rfl (hs.2.2 114 1 _ rfl) ?_
    refine hf_iload_n dX3_firstIn_14 rfl rfl ?_
    refine hf_iald dX3_firstIn_15 (hs.2.1 116 _ rfl) (hf_lin hs 116 rfl) h.1 ?_
    replace h := h.2
    refine hf_iload_n dX3_firstIn_16 rfl rfl ?_
    refine hf_icmp_ne (tgt := 27) dX3_firstIn_17 (by decide) (fun hc => ?_) (fun hc => ?_)
    · replace h := h.1 hc
      refine hf_iinc (v := (i + 1)) (l2 := [some (.ref 114), some (.int line), some (.int (i + 1))]) dX3_firstIn_27 (by decide) rfl rfl rfl ?_
      refine hf_goto (tgt := 2) dX3_firstIn_30 (by decide) ?_
      exact h
    · replace h := h.2 hc
      refine hf_aload_n dX3_firstIn_20 rfl rfl ?_
      refine hf_getr (b := 115) (c := 3) (j := 0) dX3_firstIn_21 (hs.2.1 114 _ rfl) (hf_lin hs 114 rfl) (by decide) (by decide) hw78 rfl (hs.2.2 114 0 _ rfl) ?_
      refine hf_iload_n dX3_firstIn_24 rfl rfl ?_
      refine hf_iald dX3_firstIn_25 (hs.2.1 115 _ rfl) (hf_lin hs 115 rfl) h.1 ?_
      replace h := h.2
      refine hf_ireturn dX3_firstIn_26 rfl rfl ?_
      exact h

set_option maxHeartbeats 4000000 in
theorem w_X11_within_0 {X : hf_X} {d k n t : Nat} {T : hf_T} {I : hf_I} {L : hf_L} {P : hf_P} {Q : Option Value → hf_M → Prop} {v : Int32} {a : Int32} {b : Int32} (hs : hf_Lay t T P) (h : (v < a → Q (some (.int 0)) (t, T, I, L, P)) ∧ (¬ (v < a) → (b < v → Q (some (.int 0)) (t, T, I, L, P)) ∧ (¬ (b < v) → Q (some (.int 1)) (t, T, I, L, P)))) : hf_G X Y_X11_within d k n 0 (hf_en [.int v, .int a, .int b] 3) [] (t, T, I, L, P) Q := by
  show hf_G X Y_X11_within d k n 0 [some (.int v), some (.int a), some (.int b)] [] (t, T, I, L, P) Q
  refine hf_iload_n dX11_within_0 rfl rfl ?_
  refine hf_iload_n dX11_within_1 rfl rfl ?_
  refine hf_icmp_lt (tgt := 14) dX11_within_2 (by decide) (fun hc => ?_) (fun hc => ?_)
  · replace h := h.1 hc
    refine hf_iconst (v := 0) dX11_within_14 (by decide) ?_
    refine hf_ireturn dX11_within_15 rfl (by decide) ?_
    exact h
  · replace h := h.2 hc
    refine hf_iload_n dX11_within_5 rfl rfl ?_
    refine hf_iload_n dX11_within_6 rfl rfl ?_
    refine hf_icmp_gt (tgt := 14) dX11_within_7 (by decide) (fun hc => ?_) (fun hc => ?_)
    · replace h := h.1 hc
      refine hf_iconst (v := 0) dX11_within_14 (by decide) ?_
      refine hf_ireturn dX11_within_15 rfl (by decide) ?_
      exact h
    · replace h := h.2 hc
      refine hf_iconst (v := 1) dX11_within_10 (by decide) ?_
      refine hf_goto (tgt := 15) dX11_within_11 (by decide) ?_
      refine hf_ireturn dX11_within_15 rfl (by decide) ?_
      exact h

set_option maxHeartbeats 4000000 in
theorem w_X11_breadth_0 {X : hf_X} {d k n t : Nat} {T : hf_T} {I : hf_I} {L : hf_L} {P : hf_P} {Q : Option Value → hf_M → Prop} {a : Int32} {b : Int32} (hs : hf_Lay t T P) (h : (a < 0 → hf_G X Y_X11_refuse d 0 0 0 (hf_en [.ref 100, .int (-1)] 2) [] (t, T, I, L, P) (fun r M => hf_G X Y_X11_breadth (d + 1) k n 25 [some (.ref 100), some (.int a), some (.int b), none] (r.toList ++ []) M Q)) ∧ (¬ (a < 0) → (26 < a → hf_G X Y_X11_refuse d 0 0 0 (hf_en [.ref 100, .int (-1)] 2) [] (t, T, I, L, P) (fun r M => hf_G X Y_X11_breadth (d + 1) k n 25 [some (.ref 100), some (.int a), some (.int b), none] (r.toList ++ []) M Q)) ∧ (¬ (26 < a) → (b < 1 → hf_G X Y_X11_refuse d 0 0 0 (hf_en [.ref 100, .int (-1)] 2) [] (t, T, I, L, P) (fun r M => hf_G X Y_X11_breadth (d + 1) k n 25 [some (.ref 100), some (.int a), some (.int b), none] (r.toList ++ []) M Q)) ∧ (¬ (b < 1) → (20 < b → hf_G X Y_X11_refuse d 0 0 0 (hf_en [.ref 100, .int (-1)] 2) [] (t, T, I, L, P) (fun r M => hf_G X Y_X11_breadth (d + 1) k n 25 [some (.ref 100), some (.int a), some (.int b), none] (r.toList ++ []) M Q)) ∧ (¬ (20 < b) → vp_in a 27 ∧ (vp_in a 27 ∧ (hf_G X Y_X6_empty d 0 0 0 (hf_en [.ref 148] 1) [] (t, T, (hf_up I 102 a.toNatClampNeg b), L, P) (fun r M => hf_G X Y_X11_breadth (d + 1) k n 53 [some (.ref 100), some (.int a), some (.int b), some (.int (I 102 a.toNatClampNeg))] (r.toList ++ []) M Q)))))))) : hf_G X Y_X11_breadth (d + 1) k n 0 (hf_en [.ref 100, .int a, .int b] 4) [] (t, T, I, L, P) Q := by
  show hf_G X Y_X11_breadth (d + 1) k n 0 [some (.ref 100), some (.int a), some (.int b), none] [] (t, T, I, L, P) Q
  refine hf_iload_n dX11_breadth_0 rfl rfl ?_
  refine hf_iconst (v := 0) dX11_breadth_1 (by decide) ?_
  refine hf_bipush (v := 26) dX11_breadth_2 (by decide) ?_
  refine hf_callS (as := [.int a, .int 0, .int 26]) ok_X11_within dX11_breadth_4 hw405 hw406 rfl (Nat.le_of_ble_eq_true rfl) rfl (Nat.le_of_ble_eq_true rfl) (Nat.zero_le _) (Nat.zero_le _) ?_
  show hf_G X Y_X11_within d _ _ 0 [some (.int a), some (.int 0), some (.int 26)] [] (t, T, I, L, P) _
  refine hf_iload_n dX11_within_0 rfl rfl ?_
  refine hf_iload_n dX11_within_1 rfl rfl ?_
  refine hf_icmp_lt (tgt := 14) dX11_within_2 (by decide) (fun hc => ?_) (fun hc => ?_)
  · replace h := h.1 hc
    refine hf_iconst (v := 0) dX11_within_14 (by decide) ?_
    refine hf_ireturn dX11_within_15 rfl (by decide) ?_
    show hf_G X Y_X11_breadth (d + 1) _ _ 7 [some (.ref 100), some (.int a), some (.int b), none] [.int 0] (t, T, I, L, P) _
    refine hf_if_eq (tgt := 20) dX11_breadth_7 (by decide) (fun _ => ?_) (fun hc => absurd (by decide) hc)
    refine hf_aload_n dX11_breadth_20 rfl rfl ?_
    refine hf_iconst (v := (-1)) dX11_breadth_21 (by decide) ?_
    exact hf_callV (c := 11) (as := [.int (-1)]) ok_X11_refuse dX11_breadth_22 hw408 hw409 hw1553 (hs.2.1 100 _ rfl) (by decide) (hf_lin hs 100 rfl) rfl (Nat.le_of_ble_eq_true rfl) rfl (Nat.le_of_ble_eq_true rfl) (Nat.zero_le _) (Nat.zero_le _) h
  · replace h := h.2 hc
    refine hf_iload_n dX11_within_5 rfl rfl ?_
    refine hf_iload_n dX11_within_6 rfl rfl ?_
    refine hf_icmp_gt (tgt := 14) dX11_within_7 (by decide) (fun hc => ?_) (fun hc => ?_)
    · replace h := h.1 hc
      refine hf_iconst (v := 0) dX11_within_14 (by decide) ?_
      refine hf_ireturn dX11_within_15 rfl (by decide) ?_
      show hf_G X Y_X11_breadth (d + 1) _ _ 7 [some (.ref 100), some (.int a), some (.int b), none] [.int 0] (t, T, I, L, P) _
      refine hf_if_eq (tgt := 20) dX11_breadth_7 (by decide) (fun _ => ?_) (fun hc => absurd (by decide) hc)
      refine hf_aload_n dX11_breadth_20 rfl rfl ?_
      refine hf_iconst (v := (-1)) dX11_breadth_21 (by decide) ?_
      exact hf_callV (c := 11) (as := [.int (-1)]) ok_X11_refuse dX11_breadth_22 hw408 hw409 hw1553 (hs.2.1 100 _ rfl) (by decide) (hf_lin hs 100 rfl) rfl (Nat.le_of_ble_eq_true rfl) rfl (Nat.le_of_ble_eq_true rfl) (Nat.zero_le _) (Nat.zero_le _) h
    · replace h := h.2 hc
      refine hf_iconst (v := 1) dX11_within_10 (by decide) ?_
      refine hf_goto (tgt := 15) dX11_within_11 (by decide) ?_
      refine hf_ireturn dX11_within_15 rfl (by decide) ?_
      show hf_G X Y_X11_breadth (d + 1) _ _ 7 [some (.ref 100), some (.int a), some (.int b), none] [.int 1] (t, T, I, L, P) _
      refine hf_if_eq (tgt := 20) dX11_breadth_7 (by decide) (fun hc => absurd hc (by decide)) (fun _ => ?_)
      refine hf_iload_n dX11_breadth_10 rfl rfl ?_
      refine hf_iconst (v := 1) dX11_breadth_11 (by decide) ?_
      refine hf_bipush (v := 20) dX11_breadth_12 (by decide) ?_
      refine hf_callS (as := [.int b, .int 1, .int 20]) ok_X11_within dX11_breadth_14 hw405 hw406 rfl (Nat.le_of_ble_eq_true rfl) rfl (Nat.le_of_ble_eq_true rfl) (Nat.zero_le _) (Nat.zero_le _) ?_
      show hf_G X Y_X11_within d _ _ 0 [some (.int b), some (.int 1), some (.int 20)] [] (t, T, I, L, P) _
      refine hf_iload_n dX11_within_0 rfl rfl ?_
      refine hf_iload_n dX11_within_1 rfl rfl ?_
      refine hf_icmp_lt (tgt := 14) dX11_within_2 (by decide) (fun hc => ?_) (fun hc => ?_)
      · replace h := h.1 hc
        refine hf_iconst (v := 0) dX11_within_14 (by decide) ?_
        refine hf_ireturn dX11_within_15 rfl (by decide) ?_
        show hf_G X Y_X11_breadth (d + 1) _ _ 17 [some (.ref 100), some (.int a), some (.int b), none] [.int 0] (t, T, I, L, P) _
        refine hf_if_ne (tgt := 26) dX11_breadth_17 (by decide) (fun hc => absurd hc (by decide)) (fun _ => ?_)
        refine hf_aload_n dX11_breadth_20 rfl rfl ?_
        refine hf_iconst (v := (-1)) dX11_breadth_21 (by decide) ?_
        exact hf_callV (c := 11) (as := [.int (-1)]) ok_X11_refuse dX11_breadth_22 hw408 hw409 hw1553 (hs.2.1 100 _ rfl) (by decide) (hf_lin hs 100 rfl) rfl (Nat.le_of_ble_eq_true rfl) rfl (Nat.le_of_ble_eq_true rfl) (Nat.zero_le _) (Nat.zero_le _) h
      · replace h := h.2 hc
        refine hf_iload_n dX11_within_5 rfl rfl ?_
        refine hf_iload_n dX11_within_6 rfl rfl ?_
        refine hf_icmp_gt (tgt := 14) dX11_within_7 (by decide) (fun hc => ?_) (fun hc => ?_)
        · replace h := h.1 hc
          refine hf_iconst (v := 0) dX11_within_14 (by decide) ?_
          refine hf_ireturn dX11_within_15 rfl (by decide) ?_
          show hf_G X Y_X11_breadth (d + 1) _ _ 17 [some (.ref 100), some (.int a), some (.int b), none] [.int 0] (t, T, I, L, P) _
          refine hf_if_ne (tgt := 26) dX11_breadth_17 (by decide) (fun hc => absurd hc (by decide)) (fun _ => ?_)
          refine hf_aload_n dX11_breadth_20 rfl rfl ?_
          refine hf_iconst (v := (-1)) dX11_breadth_21 (by decide) ?_
          exact hf_callV (c := 11) (as := [.int (-1)]) ok_X11_refuse dX11_breadth_22 hw408 hw409 hw1553 (hs.2.1 100 _ rfl) (by decide) (hf_lin hs 100 rfl) rfl (Nat.le_of_ble_eq_true rfl) rfl (Nat.le_of_ble_eq_true rfl) (Nat.zero_le _) (Nat.zero_le _) h
        · replace h := h.2 hc
          refine hf_iconst (v := 1) dX11_within_10 (by decide) ?_
          refine hf_goto (tgt := 15) dX11_within_11 (by decide) ?_
          refine hf_ireturn dX11_within_15 rfl (by decide) ?_
          show hf_G X Y_X11_breadth (d + 1) _ _ 17 [some (.ref 100), some (.int a), some (.int b), none] [.int 1] (t, T, I, L, P) _
          refine hf_if_ne (tgt := 26) dX11_breadth_17 (by decide) (fun _ => ?_) (fun hc => absurd hc (by decide))
          refine hf_aload_n dX11_breadth_26 rfl rfl ?_
          refine hf_getr (b := 101) (c := 11) (j := 0) dX11_breadth_27 (hs.2.1 100 _ rfl) (hf_lin hs 100 rfl) (by decide) (by decide) hw365 rfl (hs.2.2 100 0 _ rfl) ?_
          refine hf_getr (b := 102) (c := 1) (j := 0) dX11_breadth_30 (hs.2.1 101 _ rfl) (hf_lin hs 101 rfl) (by decide) (by decide) hw100 rfl (hs.2.2 101 0 _ rfl) ?_
          refine hf_iload_n dX11_breadth_33 rfl rfl ?_
          refine hf_iald dX11_breadth_34 (hs.2.1 102 _ rfl) (hf_lin hs 102 rfl) h.1 ?_
          replace h := h.2
          refine hf_istore_n (l2 := [some (.ref 100), some (.int a), some (.int b), some (.int (I 102 a.toNatClampNeg))]) dX11_breadth_35 rfl (by decide) rfl ?_
          refine hf_aload_n dX11_breadth_36 rfl rfl ?_
          refine hf_getr (b := 101) (c := 11) (j := 0) dX11_breadth_37 (hs.2.1 100 _ rfl) (hf_lin hs 100 rfl) (by decide) (by decide) hw365 rfl (hs.2.2 100 0 _ rfl) ?_
          refine hf_getr (b := 102) (c := 1) (j := 0) dX11_breadth_40 (hs.2.1 101 _ rfl) (hf_lin hs 101 rfl) (by decide) (by decide) hw100 rfl (hs.2.2 101 0 _ rfl) ?_
          refine hf_iload_n dX11_breadth_43 rfl rfl ?_
          refine hf_iload_n dX11_breadth_44 rfl rfl ?_
          refine hf_iast dX11_breadth_45 (hs.2.1 102 _ rfl) (hf_lin hs 102 rfl) h.1 ?_
          replace h := h.2
          refine hf_aload_n dX11_breadth_46 rfl rfl ?_
          refine hf_getr (b := 148) (c := 11) (j := 9) dX11_breadth_47 (hs.2.1 100 _ rfl) (hf_lin hs 100 rfl) (by decide) (by decide) hw374 rfl (hs.2.2 100 9 _ rfl) ?_
          exact hf_callV (c := 6) (as := []) ok_X6_empty dX11_breadth_50 hw414 hw415 hw416 (hs.2.1 148 _ rfl) (by decide) (hf_lin hs 148 rfl) rfl (Nat.le_of_ble_eq_true rfl) rfl (Nat.le_of_ble_eq_true rfl) (Nat.zero_le _) (Nat.zero_le _) h

set_option maxHeartbeats 4000000 in
theorem w_X11_breadth_25 {X : hf_X} {d k n t : Nat} {T : hf_T} {I : hf_I} {L : hf_L} {P : hf_P} {Q : Option Value → hf_M → Prop} {s0 : Int32} (hs : hf_Lay t T P) (h : Q (some (.int s0)) (t, T, I, L, P)) : hf_G X Y_X11_breadth d k n 25 [none, none, none, none] [.int s0] (t, T, I, L, P) Q := by
  refine hf_ireturn dX11_breadth_25 rfl rfl ?_
  exact h

set_option maxHeartbeats 4000000 in
theorem w_X11_breadth_53 {X : hf_X} {d k n t : Nat} {T : hf_T} {I : hf_I} {L : hf_L} {P : hf_P} {Q : Option Value → hf_M → Prop} {x3 : Int32} (hs : hf_Lay t T P) (h : Q (some (.int x3)) (t, T, (hf_up (hf_up I 100 16 0) 100 17 ((I 100 17) + 1)), L, P)) : hf_G X Y_X11_breadth (d + 1) k n 53 [some (.ref 100), none, none, some (.int x3)] [] (t, T, I, L, P) Q := by
  refine hf_aload_n dX11_breadth_53 rfl rfl ?_
  refine hf_iload_n dX11_breadth_54 rfl rfl ?_
  refine hf_callV (c := 11) (as := [.int x3]) ok_X11_granted dX11_breadth_55 hw418 hw419 hw1554 (hs.2.1 100 _ rfl) (by decide) (hf_lin hs 100 rfl) rfl (Nat.le_of_ble_eq_true rfl) rfl (Nat.le_of_ble_eq_true rfl) (Nat.zero_le _) (Nat.zero_le _) ?_
  show hf_G X Y_X11_granted d _ _ 0 [some (.ref 100), some (.int x3)] [] (t, T, I, L, P) _
  refine hf_aload_n dX11_granted_0 rfl rfl ?_
  refine hf_iconst (v := 0) dX11_granted_1 (by decide) ?_
  refine hf_puti (c := 11) (j := 16) dX11_granted_2 (hs.2.1 100 _ rfl) (hf_lin hs 100 rfl) (by decide) (by decide) hw381 rfl rfl ?_
  refine hf_aload_n dX11_granted_5 rfl rfl ?_
  refine hf_dup dX11_granted_6 rfl ?_
  refine hf_geti (c := 11) (j := 17) dX11_granted_7 (hs.2.1 100 _ rfl) (hf_lin hs 100 rfl) (by decide) (by decide) hw382 (Or.inl rfl) ?_
  refine hf_iconst (v := 1) dX11_granted_10 (by decide) ?_
  refine hf_iadd dX11_granted_11 ?_
  refine hf_puti (c := 11) (j := 17) dX11_granted_12 (hs.2.1 100 _ rfl) (hf_lin hs 100 rfl) (by decide) (by decide) hw382 rfl rfl ?_
  refine hf_iload_n dX11_granted_15 rfl rfl ?_
  refine hf_ireturn dX11_granted_16 rfl rfl ?_
  show hf_G X Y_X11_breadth (d + 1) _ _ 58 [some (.ref 100), none, none, some (.int x3)] [.int x3] (t, T, (hf_up (hf_up I 100 16 0) 100 17 ((I 100 17) + 1)), L, P) _
  refine hf_ireturn dX11_breadth_58 rfl rfl ?_
  exact h
