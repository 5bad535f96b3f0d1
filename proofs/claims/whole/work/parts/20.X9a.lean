set_option maxHeartbeats 4000000 in
theorem w_X9_hasSum_0 {X : hf_X} {d k n t : Nat} {T : hf_T} {I : hf_I} {L : hf_L} {P : hf_P} {Q : Option Value → hf_M → Prop} {x1 : Int32} (hs : hf_Lay t T P) (h : vp_in x1 12 ∧ (vp_in x1 12 ∧ (((I 128 x1.toNatClampNeg) ≤ (I 127 x1.toNatClampNeg) → Q (some (.int 0)) (t, T, I, L, P)) ∧ (¬ ((I 128 x1.toNatClampNeg) ≤ (I 127 x1.toNatClampNeg)) → Q (some (.int 1)) (t, T, I, L, P))))) : hf_G X Y_X9_hasSum d k n 0 (hf_en [.ref 124, .int x1] 2) [] (t, T, I, L, P) Q := by
  show hf_G X Y_X9_hasSum d k n 0 [some (.ref 124), some (.int x1)] [] (t, T, I, L, P) Q
  refine hf_aload_n dX9_hasSum_0 rfl rfl ?_
  refine hf_getr (b := 127) (c := 9) (j := 2) dX9_hasSum_1 (hs.2.1 124 _ rfl) (hf_lin hs 124 rfl) (by decide) (by decide) hw200 rfl (hs.2.2 124 2 _ rfl) ?_
  refine hf_iload_n dX9_hasSum_4 rfl rfl ?_
  refine hf_iald dX9_hasSum_5 (hs.2.1 127 _ rfl) (hf_lin hs 127 rfl) h.1 ?_
  replace h := h.2
  refine hf_aload_n dX9_hasSum_6 rfl rfl ?_
  refine hf_getr (b := 128) (c := 9) (j := 3) dX9_hasSum_7 (hs.2.1 124 _ rfl) (hf_lin hs 124 rfl) (by decide) (by decide) hw203 rfl (hs.2.2 124 3 _ rfl) ?_
  refine hf_iload_n dX9_hasSum_10 rfl rfl ?_
  refine hf_iald dX9_hasSum_11 (hs.2.1 128 _ rfl) (hf_lin hs 128 rfl) h.1 ?_
  replace h := h.2
  refine hf_icmp_ge (tgt := 19) dX9_hasSum_12 (by decide) (fun hc => ?_) (fun hc => ?_)
  · replace h := h.1 hc
    refine hf_iconst (v := 0) dX9_hasSum_19 (by decide) ?_
    refine hf_ireturn dX9_hasSum_20 rfl (by decide) ?_
    exact h
  · replace h := h.2 hc
    refine hf_iconst (v := 1) dX9_hasSum_15 (by decide) ?_
    refine hf_goto (tgt := 20) dX9_hasSum_16 (by decide) ?_
    refine hf_ireturn dX9_hasSum_20 rfl (by decide) ?_
    exact h

set_option maxHeartbeats 4000000 in
theorem w_X9_hasTest_0 {X : hf_X} {d k n t : Nat} {T : hf_T} {I : hf_I} {L : hf_L} {P : hf_P} {Q : Option Value → hf_M → Prop} {x1 : Int32} (hs : hf_Lay t T P) (h : vp_in x1 12 ∧ (vp_in x1 12 ∧ (((I 129 x1.toNatClampNeg) ≤ (I 128 x1.toNatClampNeg) → Q (some (.int 0)) (t, T, I, L, P)) ∧ (¬ ((I 129 x1.toNatClampNeg) ≤ (I 128 x1.toNatClampNeg)) → Q (some (.int 1)) (t, T, I, L, P))))) : hf_G X Y_X9_hasTest d k n 0 (hf_en [.ref 124, .int x1] 2) [] (t, T, I, L, P) Q := by
  show hf_G X Y_X9_hasTest d k n 0 [some (.ref 124), some (.int x1)] [] (t, T, I, L, P) Q
  refine hf_aload_n dX9_hasTest_0 rfl rfl ?_
  refine hf_getr (b := 128) (c := 9) (j := 3) dX9_hasTest_1 (hs.2.1 124 _ rfl) (hf_lin hs 124 rfl) (by decide) (by decide) hw203 rfl (hs.2.2 124 3 _ rfl) ?_
  refine hf_iload_n dX9_hasTest_4 rfl rfl ?_
  refine hf_iald dX9_hasTest_5 (hs.2.1 128 _ rfl) (hf_lin hs 128 rfl) h.1 ?_
  replace h := h.2
  refine hf_aload_n dX9_hasTest_6 rfl rfl ?_
  refine hf_getr (b := 129) (c := 9) (j := 4) dX9_hasTest_7 (hs.2.1 124 _ rfl) (hf_lin hs 124 rfl) (by decide) (by decide) hw206 rfl (hs.2.2 124 4 _ rfl) ?_
  refine hf_iload_n dX9_hasTest_10 rfl rfl ?_
  refine hf_iald dX9_hasTest_11 (hs.2.1 129 _ rfl) (hf_lin hs 129 rfl) h.1 ?_
  replace h := h.2
  refine hf_icmp_ge (tgt := 19) dX9_hasTest_12 (by decide) (fun hc => ?_) (fun hc => ?_)
  · replace h := h.1 hc
    refine hf_iconst (v := 0) dX9_hasTest_19 (by decide) ?_
    refine hf_ireturn dX9_hasTest_20 rfl (by decide) ?_
    exact h
  · replace h := h.2 hc
    refine hf_iconst (v := 1) dX9_hasTest_15 (by decide) ?_
    refine hf_goto (tgt := 20) dX9_hasTest_16 (by decide) ?_
    refine hf_ireturn dX9_hasTest_20 rfl (by decide) ?_
    exact h

set_option maxHeartbeats 4000000 in
theorem w_X9_addStep_0 {X : hf_X} {d k n t : Nat} {T : hf_T} {I : hf_I} {L : hf_L} {P : hf_P} {Q : Option Value → hf_M → Prop} {x1 : Int32} {x2 : Int32} (hs : hf_Lay t T P) (h : (((I 124 6) + 2) ≤ 800 → vp_in (I 124 6) 800 ∧ (vp_in ((I 124 6) + 1) 800 ∧ (Q (some (.int 1)) (t, T, (hf_up (hf_up (hf_up I 125 (((I 124 6)).toNatClampNeg) x1) 125 ((((I 124 6) + 1)).toNatClampNeg) x2) 124 6 ((I 124 6) + 2)), L, P)))) ∧ (¬ (((I 124 6) + 2) ≤ 800) → Q (some (.int 0)) (t, T, I, L, P))) : hf_G X Y_X9_addStep d k n 0 (hf_en [.ref 124, .int x1, .int x2] 3) [] (t, T, I, L, P) Q := by
  show hf_G X Y_X9_addStep d k n 0 [some (.ref 124), some (.int x1), some (.int x2)] [] (t, T, I, L, P) Q
  refine hf_aload_n dX9_addStep_0 rfl rfl ?_
  refine hf_geti (c := 9) (j := 6) dX9_addStep_1 (hs.2.1 124 _ rfl) (hf_lin hs 124 rfl) (by decide) (by decide) hw211 (Or.inl rfl) ?_
  refine hf_iconst (v := 2) dX9_addStep_4 (by decide) ?_
  refine hf_iadd dX9_addStep_5 ?_
  refine hf_aload_n dX9_addStep_6 rfl rfl ?_
  refine hf_getr (b := 125) (c := 9) (j := 0) dX9_addStep_7 (hs.2.1 124 _ rfl) (hf_lin hs 124 rfl) (by decide) (by decide) hw195 rfl (hs.2.2 124 0 _ rfl) ?_
  refine hf_alen dX9_addStep_10 (hs.2.1 125 _ rfl) (by decide) (hf_lin hs 125 rfl) ?_
  refine hf_icmp_le (tgt := 16) dX9_addStep_11 (by decide) (fun hc => ?_) (fun hc => ?_)
  · replace h := h.1 hc
    refine hf_aload_n dX9_addStep_16 rfl rfl ?_
    refine hf_getr (b := 125) (c := 9) (j := 0) dX9_addStep_17 (hs.2.1 124 _ rfl) (hf_lin hs 124 rfl) (by decide) (by decide) hw195 rfl (hs.2.2 124 0 _ rfl) ?_
    refine hf_aload_n dX9_addStep_20 rfl rfl ?_
    refine hf_geti (c := 9) (j := 6) dX9_addStep_21 (hs.2.1 124 _ rfl) (hf_lin hs 124 rfl) (by decide) (by decide) hw211 (Or.inl rfl) ?_
    refine hf_iload_n dX9_addStep_24 rfl rfl ?_
    refine hf_iast dX9_addStep_25 (hs.2.1 125 _ rfl) (hf_lin hs 125 rfl) h.1 ?_
    replace h := h.2
    refine hf_aload_n dX9_addStep_26 rfl rfl ?_
    refine hf_getr (b := 125) (c := 9) (j := 0) dX9_addStep_27 (hs.2.1 124 _ rfl) (hf_lin hs 124 rfl) (by decide) (by decide) hw195 rfl (hs.2.2 124 0 _ rfl) ?_
    refine hf_aload_n dX9_addStep_30 rfl rfl ?_
    refine hf_geti (c := 9) (j := 6) dX9_addStep_31 (hs.2.1 124 _ rfl) (hf_lin hs 124 rfl) (by decide) (by decide) hw211 (Or.inl rfl) ?_
    refine hf_iconst (v := 1) dX9_addStep_34 (by decide) ?_
    refine hf_iadd dX9_addStep_35 ?_
    refine hf_iload_n dX9_addStep_36 rfl rfl ?_
    refine hf_iast dX9_addStep_37 (hs.2.1 125 _ rfl) (hf_lin hs 125 rfl) h.1 ?_
    replace h := h.2
    refine hf_aload_n dX9_addStep_38 rfl rfl ?_
    refine hf_dup dX9_addStep_39 rfl ?_
    refine hf_geti (c := 9) (j := 6) dX9_addStep_40 (hs.2.1 124 _ rfl) (hf_lin hs 124 rfl) (by decide) (by decide) hw211 (Or.inl rfl) ?_
    refine hf_iconst (v := 2) dX9_addStep_43 (by decide) ?_
    refine hf_iadd dX9_addStep_44 ?_
    refine hf_puti (c := 9) (j := 6) dX9_addStep_45 (hs.2.1 124 _ rfl) (hf_lin hs 124 rfl) (by decide) (by decide) hw211 rfl rfl ?_
    refine hf_iconst (v := 1) dX9_addStep_48 (by decide) ?_
    refine hf_ireturn dX9_addStep_49 rfl (by decide) ?_
    exact h
  · replace h := h.2 hc
    refine hf_iconst (v := 0) dX9_addStep_14 (by decide) ?_
    refine hf_ireturn dX9_addStep_15 rfl (by decide) ?_
    exact h

set_option maxHeartbeats 4000000 in
theorem w_X9_skipToHere_0 {X : hf_X} {d k n t : Nat} {T : hf_T} {I : hf_I} {L : hf_L} {P : hf_P} {Q : Option Value → hf_M → Prop} {x1 : Int32} (hs : hf_Lay t T P) (h : (x1 < 0 → Q none (t, T, I, L, P)) ∧ (¬ (x1 < 0) → ((x1 + 2) ≤ (I 124 6) → vp_in (x1 + 1) 800 ∧ (Q none (t, T, (hf_up I 125 (((x1 + 1)).toNatClampNeg) (((I 124 6) - x1) - 2)), L, P))) ∧ (¬ ((x1 + 2) ≤ (I 124 6)) → Q none (t, T, I, L, P)))) : hf_G X Y_X9_skipToHere d k n 0 (hf_en [.ref 124, .int x1] 2) [] (t, T, I, L, P) Q := by
  show hf_G X Y_X9_skipToHere d k n 0 [some (.ref 124), some (.int x1)] [] (t, T, I, L, P) Q
  refine hf_iload_n dX9_skipToHere_0 rfl rfl ?_
  refine hf_if_lt (tgt := 14) dX9_skipToHere_1 (by decide) (fun hc => ?_) (fun hc => ?_)
  · replace h := h.1 hc
    refine hf_return dX9_skipToHere_14 rfl ?_
    exact h
  · replace h := h.2 hc
    refine hf_iload_n dX9_skipToHere_4 rfl rfl ?_
    refine hf_iconst (v := 2) dX9_skipToHere_5 (by decide) ?_
    refine hf_iadd dX9_skipToHere_6 ?_
    refine hf_aload_n dX9_skipToHere_7 rfl rfl ?_
    refine hf_geti (c := 9) (j := 6) dX9_skipToHere_8 (hs.2.1 124 _ rfl) (hf_lin hs 124 rfl) (by decide) (by decide) hw211 (Or.inl rfl) ?_
    refine hf_icmp_le (tgt := 15) dX9_skipToHere_11 (by decide) (fun hc => ?_) (fun hc => ?_)
    · replace h := h.1 hc
      refine hf_aload_n dX9_skipToHere_15 rfl rfl ?_
      refine hf_getr (b := 125) (c := 9) (j := 0) dX9_skipToHere_16 (hs.2.1 124 _ rfl) (hf_lin hs 124 rfl) (by decide) (by decide) hw195 rfl (hs.2.2 124 0 _ rfl) ?_
      refine hf_iload_n dX9_skipToHere_19 rfl rfl ?_
      refine hf_iconst (v := 1) dX9_skipToHere_20 (by decide) ?_
      refine hf_iadd dX9_skipToHere_21 ?_
      refine hf_aload_n dX9_skipToHere_22 rfl rfl ?_
      refine hf_geti (c := 9) (j := 6) dX9_skipToHere_23 (hs.2.1 124 _ rfl) (hf_lin hs 124 rfl) (by decide) (by decide) hw211 (Or.inl rfl) ?_
      refine hf_iload_n dX9_skipToHere_26 rfl rfl ?_
      refine hf_isub dX9_skipToHere_27 ?_
      refine hf_iconst (v := 2) dX9_skipToHere_28 (by decide) ?_
      refine hf_isub dX9_skipToHere_29 ?_
      refine hf_iast dX9_skipToHere_30 (hs.2.1 125 _ rfl) (hf_lin hs 125 rfl) h.1 ?_
      replace h := h.2
      refine hf_return dX9_skipToHere_31 rfl ?_
      exact h
    · replace h := h.2 hc
      refine hf_return dX9_skipToHere_14 rfl ?_
      exact h

set_option maxHeartbeats 4000000 in
theorem w_X9_addClause_0 {X : hf_X} {d k n t : Nat} {T : hf_T} {I : hf_I} {L : hf_L} {P : hf_P} {Q : Option Value → hf_M → Prop} {x1 : Int32} {x2 : Int32} {x3 : Int32} {x4 : Int32} (hs : hf_Lay t T P) (h : ((I 124 7) < 12 → vp_in (I 124 7) 12 ∧ (vp_in (I 124 7) 12 ∧ (vp_in (I 124 7) 12 ∧ (vp_in (I 124 7) 12 ∧ (vp_in (I 124 7) 12 ∧ (Q (some (.int 1)) (t, T, (hf_up (hf_up (hf_up (hf_up (hf_up (hf_up I 126 (((I 124 7)).toNatClampNeg) x1) 127 (((I 124 7)).toNatClampNeg) x2) 128 (((I 124 7)).toNatClampNeg) x3) 129 (((I 124 7)).toNatClampNeg) (I 124 6)) 130 (((I 124 7)).toNatClampNeg) x4) 124 7 ((I 124 7) + 1)), L, P))))))) ∧ (¬ ((I 124 7) < 12) → Q (some (.int 0)) (t, T, I, L, P))) : hf_G X Y_X9_addClause d k n 0 (hf_en [.ref 124, .int x1, .int x2, .int x3, .int x4] 5) [] (t, T, I, L, P) Q := by
  show hf_G X Y_X9_addClause d k n 0 [some (.ref 124), some (.int x1), some (.int x2), some (.int x3), some (.int x4)] [] (t, T, I, L, P) Q
  refine hf_aload_n dX9_addClause_0 rfl rfl ?_
  refine hf_geti (c := 9) (j := 7) dX9_addClause_1 (hs.2.1 124 _ rfl) (hf_lin hs 124 rfl) (by decide) (by decide) hw214 (Or.inl rfl) ?_
  refine hf_aload_n dX9_addClause_4 rfl rfl ?_
  refine hf_getr (b := 126) (c := 9) (j := 1) dX9_addClause_5 (hs.2.1 124 _ rfl) (hf_lin hs 124 rfl) (by decide) (by decide) hw197 rfl (hs.2.2 124 1 _ rfl) ?_
  refine hf_alen dX9_addClause_8 (hs.2.1 126 _ rfl) (by decide) (hf_lin hs 126 rfl) ?_
  refine hf_icmp_lt (tgt := 14) dX9_addClause_9 (by decide) (fun hc => ?_) (fun hc => ?_)
  · replace h := h.1 hc
    refine hf_aload_n dX9_addClause_14 rfl rfl ?_
    refine hf_getr (b := 126) (c := 9) (j := 1) dX9_addClause_15 (hs.2.1 124 _ rfl) (hf_lin hs 124 rfl) (by decide) (by decide) hw197 rfl (hs.2.2 124 1 _ rfl) ?_
    refine hf_aload_n dX9_addClause_18 rfl rfl ?_
    refine hf_geti (c := 9) (j := 7) dX9_addClause_19 (hs.2.1 124 _ rfl) (hf_lin hs 124 rfl) (by decide) (by decide) hw214 (Or.inl rfl) ?_
    refine hf_iload_n dX9_addClause_22 rfl rfl ?_
    refine hf_iast dX9_addClause_23 (hs.2.1 126 _ rfl) (hf_lin hs 126 rfl) h.1 ?_
    replace h := h.2
    refine hf_aload_n dX9_addClause_24 rfl rfl ?_
    refine hf_getr (b := 127) (c := 9) (j := 2) dX9_addClause_25 (hs.2.1 124 _ rfl) (hf_lin hs 124 rfl) (by decide) (by decide) hw200 rfl (hs.2.2 124 2 _ rfl) ?_
    refine hf_aload_n dX9_addClause_28 rfl rfl ?_
    refine hf_geti (c := 9) (j := 7) dX9_addClause_29 (hs.2.1 124 _ rfl) (hf_lin hs 124 rfl) (by decide) (by decide) hw214 (Or.inl rfl) ?_
    refine hf_iload_n dX9_addClause_32 rfl rfl ?_
    refine hf_iast dX9_addClause_33 (hs.2.1 127 _ rfl) (hf_lin hs 127 rfl) h.1 ?_
    replace h := h.2
    refine hf_aload_n dX9_addClause_34 rfl rfl ?_
    refine hf_getr (b := 128) (c := 9) (j := 3) dX9_addClause_35 (hs.2.1 124 _ rfl) (hf_lin hs 124 rfl) (by decide) (by decide) hw203 rfl (hs.2.2 124 3 _ rfl) ?_
    refine hf_aload_n dX9_addClause_38 rfl rfl ?_
    refine hf_geti (c := 9) (j := 7) dX9_addClause_39 (hs.2.1 124 _ rfl) (hf_lin hs 124 rfl) (by decide) (by decide) hw214 (Or.inl rfl) ?_
    refine hf_iload_n dX9_addClause_42 rfl rfl ?_
    refine hf_iast dX9_addClause_43 (hs.2.1 128 _ rfl) (hf_lin hs 128 rfl) h.1 ?_
    replace h := h.2
    refine hf_aload_n dX9_addClause_44 rfl rfl ?_
    refine hf_getr (b := 129) (c := 9) (j := 4) dX9_addClause_45 (hs.2.1 124 _ rfl) (hf_lin hs 124 rfl) (by decide) (by decide) hw206 rfl (hs.2.2 124 4 _ rfl) ?_
    refine hf_aload_n dX9_addClause_48 rfl rfl ?_
    refine hf_geti (c := 9) (j := 7) dX9_addClause_49 (hs.2.1 124 _ rfl) (hf_lin hs 124 rfl) (by decide) (by decide) hw214 (Or.inl rfl) ?_
    refine hf_aload_n dX9_addClause_52 rfl rfl ?_
    refine hf_geti (c := 9) (j := 6) dX9_addClause_53 (hs.2.1 124 _ rfl) (hf_lin hs 124 rfl) (by decide) (by decide) hw211 (Or.inl rfl) ?_
    refine hf_iast dX9_addClause_56 (hs.2.1 129 _ rfl) (hf_lin hs 129 rfl) h.1 ?_
    replace h := h.2
    refine hf_aload_n dX9_addClause_57 rfl rfl ?_
    refine hf_getr (b := 130) (c := 9) (j := 5) dX9_addClause_58 (hs.2.1 124 _ rfl) (hf_lin hs 124 rfl) (by decide) (by decide) hw209 rfl (hs.2.2 124 5 _ rfl) ?_
    refine hf_aload_n dX9_addClause_61 rfl rfl ?_
    refine hf_geti (c := 9) (j := 7) dX9_addClause_62 (hs.2.1 124 _ rfl) (hf_lin hs 124 rfl) (by decide) (by decide) hw214 (Or.inl rfl) ?_
    refine hf_iload dX9_addClause_65 rfl ?_
    refine hf_iast dX9_addClause_67 (hs.2.1 130 _ rfl) (hf_lin hs 130 rfl) h.1 ?_
    replace h := h.2
    refine hf_aload_n dX9_addClause_68 rfl rfl ?_
    refine hf_dup dX9_addClause_69 rfl ?_
    refine hf_geti (c := 9) (j := 7) dX9_addClause_70 (hs.2.1 124 _ rfl) (hf_lin hs 124 rfl) (by decide) (by decide) hw214 (Or.inl rfl) ?_
    refine hf_iconst (v := 1) dX9_addClause_73 (by decide) ?_
    refine hf_iadd dX9_addClause_74 ?_
    refine hf_puti (c := 9) (j := 7) dX9_addClause_75 (hs.2.1 124 _ rfl) (hf_lin hs 124 rfl) (by decide) (by decide) hw214 rfl rfl ?_
    refine hf_iconst (v := 1) dX9_addClause_78 (by decide) ?_
    refine hf_ireturn dX9_addClause_79 rfl (by decide) ?_
    exact h
  · replace h := h.2 hc
    refine hf_iconst (v := 0) dX9_addClause_12 (by decide) ?_
    refine hf_ireturn dX9_addClause_13 rfl (by decide) ?_
    exact h
