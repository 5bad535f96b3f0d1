set_option maxHeartbeats 4000000 in
theorem w_X3_add_0 {X : hf_X} {d k n t : Nat} {T : hf_T} {I : hf_I} {L : hf_L} {P : hf_P} {Q : Option Value → hf_M → Prop} {x1 : Int32} (hs : hf_Lay t T P) (h : ((I 114 2) < 12 → vp_in (I 114 2) 12 ∧ (vp_in (I 114 2) 12 ∧ (Q none (t, T, (hf_up (hf_up (hf_up I 115 (((I 114 2)).toNatClampNeg) x1) 116 (((I 114 2)).toNatClampNeg) (I 114 3)) 114 2 ((I 114 2) + 1)), L, P)))) ∧ (¬ ((I 114 2) < 12) → Q none (t, T, I, L, P))) : hf_G X Y_X3_add d k n 0 (hf_en [.ref 114, .int x1] 2) [] (t, T, I, L, P) Q := by
  show hf_G X Y_X3_add d k n 0 [some (.ref 114), some (.int x1)] [] (t, T, I, L, P) Q
  refine hf_aload_n dX3_add_0 rfl rfl ?_
  refine hf_geti (c := 3) (j := 2) dX3_add_1 (hs.2.1 114 _ rfl) (hf_lin hs 114 rfl) (by decide) (by decide) hw87 (Or.inl rfl) ?_
  refine hf_bipush (v := 12) dX3_add_4 (by decide) ?_
  refine hf_icmp_lt (tgt := 10) dX3_add_6 (by decide) (fun hc => ?_) (fun hc => ?_)
  · replace h := h.1 hc
    refine hf_aload_n dX3_add_10 rfl rfl ?_
    refine hf_getr (b := 115) (c := 3) (j := 0) dX3_add_11 (hs.2.1 114 _ rfl) (hf_lin hs 114 rfl) (by decide) (by decide) hw78 rfl (hs.2.2 114 0 _ rfl) ?_
    refine hf_aload_n dX3_add_14 rfl rfl ?_
    refine hf_geti (c := 3) (j := 2) dX3_add_15 (hs.2.1 114 _ rfl) (hf_lin hs 114 rfl) (by decide) (by decide) hw87 (Or.inl rfl) ?_
    refine hf_iload_n dX3_add_18 rfl rfl ?_
    refine hf_iast dX3_add_19 (hs.2.1 115 _ rfl) (hf_lin hs 115 rfl) h.1 ?_
    replace h := h.2
    refine hf_aload_n dX3_add_20 rfl rfl ?_
    refine hf_getr (b := 116) (c := 3) (j := 1) dX3_add_21 (hs.2.1 114 _ rfl) (hf_lin hs 114 rfl) (by decide) (by decide) hw83 rfl (hs.2.2 114 1 _ rfl) ?_
    refine hf_aload_n dX3_add_24 rfl rfl ?_
    refine hf_geti (c := 3) (j := 2) dX3_add_25 (hs.2.1 114 _ rfl) (hf_lin hs 114 rfl) (by decide) (by decide) hw87 (Or.inl rfl) ?_
    refine hf_aload_n dX3_add_28 rfl rfl ?_
    refine hf_geti (c := 3) (j := 3) dX3_add_29 (hs.2.1 114 _ rfl) (hf_lin hs 114 rfl) (by decide) (by decide) hw92 (Or.inl rfl) ?_
    refine hf_iast dX3_add_32 (hs.2.1 116 _ rfl) (hf_lin hs 116 rfl) h.1 ?_
    replace h := h.2
    refine hf_aload_n dX3_add_33 rfl rfl ?_
    refine hf_dup dX3_add_34 rfl ?_
    refine hf_geti (c := 3) (j := 2) dX3_add_35 (hs.2.1 114 _ rfl) (hf_lin hs 114 rfl) (by decide) (by decide) hw87 (Or.inl rfl) ?_
    refine hf_iconst (v := 1) dX3_add_38 (by decide) ?_
    refine hf_iadd dX3_add_39 ?_
    refine hf_puti (c := 3) (j := 2) dX3_add_40 (hs.2.1 114 _ rfl) (hf_lin hs 114 rfl) (by decide) (by decide) hw87 rfl rfl ?_
    refine hf_return dX3_add_43 rfl ?_
    exact h
  · replace h := h.2 hc
    refine hf_return dX3_add_9 rfl ?_
    exact h

set_option maxHeartbeats 4000000 in
theorem w_X3_manyIn_0 {X : hf_X} {d k n t : Nat} {T : hf_T} {I : hf_I} {L : hf_L} {P : hf_P} {Q : Option Value → hf_M → Prop} {x1 : Int32} (hs : hf_Lay t T P) (h : hf_G X Y_X3_manyIn d k n 4 [some (.ref 114), some (.int x1), some (.int 0), some (.int 0)] [] (t, T, I, L, P) Q) : hf_G X Y_X3_manyIn d k n 0 (hf_en [.ref 114, .int x1] 4) [] (t, T, I, L, P) Q := by
  show hf_G X Y_X3_manyIn d k n 0 [some (.ref 114), some (.int x1), none, none] [] (t, T, I, L, P) Q
  refine hf_iconst (v := 0) dX3_manyIn_0 (by decide) ?_
  refine hf_istore_n (l2 := [some (.ref 114), some (.int x1), some (.int 0), none]) dX3_manyIn_1 rfl (by decide) rfl ?_
  refine hf_iconst (v := 0) dX3_manyIn_2 (by decide) ?_
  refine hf_istore_n (l2 := [some (.ref 114), some (.int x1), some (.int 0), some (.int 0)]) dX3_manyIn_3 rfl (by decide) rfl ?_
  exact h

set_option maxHeartbeats 4000000 in
theorem w_X3_manyIn_4 {X : hf_X} {d k n t : Nat} {T : hf_T} {I : hf_I} {L : hf_L} {P : hf_P} {Q : Option Value → hf_M → Prop} {x1 : Int32} {x2 : Int32} {x3 : Int32} (hs : hf_Lay t T P) (h : ((I 114 2) ≤ x3 → Q (some (.int x2)) (t, T, I, L, P)) ∧ (¬ ((I 114 2) ≤ x3) → vp_in x3 12 ∧ ((¬ (I 116 x3.toNatClampNeg) = x1 → hf_G X Y_X3_manyIn d k n 4 [some (.ref 114), some (.int x1), some (.int x2), some (.int (x3 + 1))] [] (t, T, I, L, P) Q) ∧ ((I 116 x3.toNatClampNeg) = x1 → hf_G X Y_X3_manyIn d k n 4 [some (.ref 114), some (.int x1), some (.int (x2 + 1)), some (.int (x3 + 1))] [] (t, T, I, L, P) Q)))) : hf_G X Y_X3_manyIn d k n 4 [some (.ref 114), some (.int x1), some (.int x2), some (.int x3)] [] (t, T, I, L, P) Q := by
  refine hf_iload_n dX3_manyIn_4 rfl rfl ?_
  refine hf_aload_n dX3_manyIn_5 rfl rfl ?_
  refine hf_geti (c := 3) (j := 2) dX3_manyIn_6 (hs.2.1 114 _ rfl) (hf_lin hs 114 rfl) (by decide) (by decide) hw87 (Or.inl rfl) ?_
  refine hf_icmp_ge (tgt := 31) dX3_manyIn_9 (by decide) (fun hc => ?_) (fun hc => ?_)
  · replace h := h.1 hc
    refine hf_iload_n dX3_manyIn_31 rfl rfl ?_
    refine hf_ireturn dX3_manyIn_32 rfl rfl ?_
    exact h
  · replace h := h.2 hc
    refine hf_aload_n dX3_manyIn_12 rfl rfl ?_
    refine hf_getr (b := 116) (c := 3) (j := 1) dX3_manyIn_13 (hs.2.1 114 _ rfl) (hf_lin hs 114 rfl) (by decide) (by decide) hw83 rfl (hs.2.2 114 1 _ rfl) ?_
    refine hf_iload_n dX3_manyIn_16 rfl rfl ?_
    refine hf_iald dX3_manyIn_17 (hs.2.1 116 _ rfl) (hf_lin hs 116 rfl) h.1 ?_
    replace h := h.2
    refine hf_iload_n dX3_manyIn_18 rfl rfl ?_
    refine hf_icmp_ne (tgt := 25) dX3_manyIn_19 (by decide) (fun hc => ?_) (fun hc => ?_)
    · replace h := h.1 hc
      refine hf_iinc (v := (x3 + 1)) (l2 := [some (.ref 114), some (.int x1), some (.int x2), some (.int (x3 + 1))]) dX3_manyIn_25 (by decide) rfl rfl rfl ?_
      refine hf_goto (tgt := 4) dX3_manyIn_28 (by decide) ?_
      exact h
    · replace h := h.2 hc
      refine hf_iinc (v := (x2 + 1)) (l2 := [some (.ref 114), some (.int x1), some (.int (x2 + 1)), some (.int x3)]) dX3_manyIn_22 (by decide) rfl rfl rfl ?_
      refine hf_iinc (v := (x3 + 1)) (l2 := [some (.ref 114), some (.int x1), some (.int (x2 + 1)), some (.int (x3 + 1))]) dX3_manyIn_25 (by decide) rfl rfl rfl ?_
      refine hf_goto (tgt := 4) dX3_manyIn_28 (by decide) ?_
      exact h

set_option maxHeartbeats 4000000 in
theorem w_X3_firstIn_0 {X : hf_X} {d k n t : Nat} {T : hf_T} {I : hf_I} {L : hf_L} {P : hf_P} {Q : Option Value → hf_M → Prop} {x1 : Int32} (hs : hf_Lay t T P) (h : hf_G X Y_X3_firstIn d k n 2 [some (.ref 114), some (.int x1), some (.int 0)] [] (t, T, I, L, P) Q) : hf_G X Y_X3_firstIn d k n 0 (hf_en [.ref 114, .int x1] 3) [] (t, T, I, L, P) Q := by
  show hf_G X Y_X3_firstIn d k n 0 [some (.ref 114), some (.int x1), none] [] (t, T, I, L, P) Q
  refine hf_iconst (v := 0) dX3_firstIn_0 (by decide) ?_
  refine hf_istore_n (l2 := [some (.ref 114), some (.int x1), some (.int 0)]) dX3_firstIn_1 rfl (by decide) rfl ?_
  exact h

set_option maxHeartbeats 4000000 in
theorem w_X3_firstIn_2 {X : hf_X} {d k n t : Nat} {T : hf_T} {I : hf_I} {L : hf_L} {P : hf_P} {Q : Option Value → hf_M → Prop} {x1 : Int32} {x2 : Int32} (hs : hf_Lay t T P) (h : ((I 114 2) ≤ x2 → Q (some (.int (-1))) (t, T, I, L, P)) ∧ (¬ ((I 114 2) ≤ x2) → vp_in x2 12 ∧ ((¬ (I 116 x2.toNatClampNeg) = x1 → hf_G X Y_X3_firstIn d k n 2 [some (.ref 114), some (.int x1), some (.int (x2 + 1))] [] (t, T, I, L, P) Q) ∧ ((I 116 x2.toNatClampNeg) = x1 → vp_in x2 12 ∧ (Q (some (.int (I 115 x2.toNatClampNeg))) (t, T, I, L, P)))))) : hf_G X Y_X3_firstIn d k n 2 [some (.ref 114), some (.int x1), some (.int x2)] [] (t, T, I, L, P) Q := by
  refine hf_iload_n dX3_firstIn_2 rfl rfl ?_
  refine hf_aload_n dX3_firstIn_3 rfl rfl ?_
  refine hf_geti (c := 3) (j := 2) dX3_firstIn_4 (hs.2.1 114 _ rfl) (hf_lin hs 114 rfl) (by decide) (by decide) hw87 (Or.inl rfl) ?_
  refine hf_icmp_ge (tgt := 33) dX3_firstIn_7 (by decide) (fun hc => ?_) (fun hc => ?_)
  · replace h := h.1 hc
    refine hf_iconst (v := (-1)) dX3_firstIn_33 (by decide) ?_
    refine hf_ireturn dX3_firstIn_34 rfl rfl ?_
    exact h
  · replace h := h.2 hc
    refine hf_aload_n dX3_firstIn_10 rfl rfl ?_
    refine hf_getr (b := 116) (c := 3) (j := 1) dX3_firstIn_11 (hs.2.1 114 _ rfl) (hf_lin hs 114 rfl) (by decide) (by decide) hw83 rfl (hs.2.2 114 1 _ rfl) ?_
    refine hf_iload_n dX3_firstIn_14 rfl rfl ?_
    refine hf_iald dX3_firstIn_15 (hs.2.1 116 _ rfl) (hf_lin hs 116 rfl) h.1 ?_
    replace h := h.2
    refine hf_iload_n dX3_firstIn_16 rfl rfl ?_
    refine hf_icmp_ne (tgt := 27) dX3_firstIn_17 (by decide) (fun hc => ?_) (fun hc => ?_)
    · replace h := h.1 hc
      refine hf_iinc (v := (x2 + 1)) (l2 := [some (.ref 114), some (.int x1), some (.int (x2 + 1))]) dX3_firstIn_27 (by decide) rfl rfl rfl ?_
      refine hf_goto (tgt := 2) dX3_firstIn_30 (by decide) ?_
      exact h
    · replace h := h.2 hc
      refine hf_aload_n dX3_firstIn_20 rfl rfl ?_
      refine hf_getr (b := 115) (c := 3) (j := 0) dX3_firstIn_21 (hs.2.1 114 _ rfl) (hf_lin hs 114 rfl) (by decide) (by decide) hw78 rfl (hs.2.2 114 0 _ rfl) ?_
      refine hf_iload_n dX3_firstIn_24 rfl rfl ?_
      refine hf_iald dX3_firstIn_25 (hs.2.1 115 _ rfl) (hf_lin hs 115 rfl) h.1 ?_
      replace h := h.2
      refine hf_ireturn dX3_firstIn_26 rfl rfl ?_
      exact h
