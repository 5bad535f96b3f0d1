set_option maxHeartbeats 4000000 in
theorem w_X10_has_0 {X : hf_X} {d k n t : Nat} {T : hf_T} {I : hf_I} {L : hf_L} {P : hf_P} {Q : Option Value → hf_M → Prop} {x1 : Int32} (hs : hf_Lay t T P) (h : (x1 < 0 → Q (some (.int 0)) (t, T, I, L, P)) ∧ (¬ (x1 < 0) → ((I 105 5) ≤ x1 → Q (some (.int 0)) (t, T, I, L, P)) ∧ (¬ ((I 105 5) ≤ x1) → Q (some (.int 1)) (t, T, I, L, P)))) : hf_G X Y_X10_has d k n 0 (hf_en [.ref 105, .int x1] 2) [] (t, T, I, L, P) Q := by
  show hf_G X Y_X10_has d k n 0 [some (.ref 105), some (.int x1)] [] (t, T, I, L, P) Q
  refine hf_iload_n dX10_has_0 rfl rfl ?_
  refine hf_if_lt (tgt := 16) dX10_has_1 (by decide) (fun hc => ?_) (fun hc => ?_)
  · replace h := h.1 hc
    refine hf_iconst (v := 0) dX10_has_16 (by decide) ?_
    refine hf_ireturn dX10_has_17 rfl (by decide) ?_
    exact h
  · replace h := h.2 hc
    refine hf_iload_n dX10_has_4 rfl rfl ?_
    refine hf_aload_n dX10_has_5 rfl rfl ?_
    refine hf_geti (c := 10) (j := 5) dX10_has_6 (hs.2.1 105 _ rfl) (hf_lin hs 105 rfl) (by decide) (by decide) hw61 (Or.inl rfl) ?_
    refine hf_icmp_ge (tgt := 16) dX10_has_9 (by decide) (fun hc => ?_) (fun hc => ?_)
    · replace h := h.1 hc
      refine hf_iconst (v := 0) dX10_has_16 (by decide) ?_
      refine hf_ireturn dX10_has_17 rfl (by decide) ?_
      exact h
    · replace h := h.2 hc
      refine hf_iconst (v := 1) dX10_has_12 (by decide) ?_
      refine hf_goto (tgt := 17) dX10_has_13 (by decide) ?_
      refine hf_ireturn dX10_has_17 rfl (by decide) ?_
      exact h

set_option maxHeartbeats 4000000 in
theorem w_X10_manyOf_0 {X : hf_X} {d k n t : Nat} {T : hf_T} {I : hf_I} {L : hf_L} {P : hf_P} {Q : Option Value → hf_M → Prop} {x1 : Int32} (hs : hf_Lay t T P) (h : hf_G X Y_X10_manyOf d k n 4 [some (.ref 105), some (.int x1), some (.int 0), some (.int 0)] [] (t, T, I, L, P) Q) : hf_G X Y_X10_manyOf d k n 0 (hf_en [.ref 105, .int x1] 4) [] (t, T, I, L, P) Q := by
  show hf_G X Y_X10_manyOf d k n 0 [some (.ref 105), some (.int x1), none, none] [] (t, T, I, L, P) Q
  refine hf_iconst (v := 0) dX10_manyOf_0 (by decide) ?_
  refine hf_istore_n (l2 := [some (.ref 105), some (.int x1), some (.int 0), none]) dX10_manyOf_1 rfl (by decide) rfl ?_
  refine hf_iconst (v := 0) dX10_manyOf_2 (by decide) ?_
  refine hf_istore_n (l2 := [some (.ref 105), some (.int x1), some (.int 0), some (.int 0)]) dX10_manyOf_3 rfl (by decide) rfl ?_
  exact h

set_option maxHeartbeats 4000000 in
theorem w_X10_manyOf_4 {X : hf_X} {d k n t : Nat} {T : hf_T} {I : hf_I} {L : hf_L} {P : hf_P} {Q : Option Value → hf_M → Prop} {x1 : Int32} {x2 : Int32} {x3 : Int32} (hs : hf_Lay t T P) (h : ((I 105 5) ≤ x3 → Q (some (.int x2)) (t, T, I, L, P)) ∧ (¬ ((I 105 5) ≤ x3) → vp_in x3 16 ∧ ((¬ (I 106 x3.toNatClampNeg) = x1 → hf_G X Y_X10_manyOf d k n 4 [some (.ref 105), some (.int x1), some (.int x2), some (.int (x3 + 1))] [] (t, T, I, L, P) Q) ∧ ((I 106 x3.toNatClampNeg) = x1 → hf_G X Y_X10_manyOf d k n 4 [some (.ref 105), some (.int x1), some (.int (x2 + 1)), some (.int (x3 + 1))] [] (t, T, I, L, P) Q)))) : hf_G X Y_X10_manyOf d k n 4 [some (.ref 105), some (.int x1), some (.int x2), some (.int x3)] [] (t, T, I, L, P) Q := by
  refine hf_iload_n dX10_manyOf_4 rfl rfl ?_
  refine hf_aload_n dX10_manyOf_5 rfl rfl ?_
  refine hf_geti (c := 10) (j := 5) dX10_manyOf_6 (hs.2.1 105 _ rfl) (hf_lin hs 105 rfl) (by decide) (by decide) hw61 (Or.inl rfl) ?_
  refine hf_icmp_ge (tgt := 31) dX10_manyOf_9 (by decide) (fun hc => ?_) (fun hc => ?_)
  · replace h := h.1 hc
    refine hf_iload_n dX10_manyOf_31 rfl rfl ?_
    refine hf_ireturn dX10_manyOf_32 rfl rfl ?_
    exact h
  · replace h := h.2 hc
    refine hf_aload_n dX10_manyOf_12 rfl rfl ?_
    refine hf_getr (b := 106) (c := 10) (j := 0) dX10_manyOf_13 (hs.2.1 105 _ rfl) (hf_lin hs 105 rfl) (by decide) (by decide) hw42 rfl (hs.2.2 105 0 _ rfl) ?_
    refine hf_iload_n dX10_manyOf_16 rfl rfl ?_
    refine hf_iald dX10_manyOf_17 (hs.2.1 106 _ rfl) (hf_lin hs 106 rfl) h.1 ?_
    replace h := h.2
    refine hf_iload_n dX10_manyOf_18 rfl rfl ?_
    refine hf_icmp_ne (tgt := 25) dX10_manyOf_19 (by decide) (fun hc => ?_) (fun hc => ?_)
    · replace h := h.1 hc
      refine hf_iinc (v := (x3 + 1)) (l2 := [some (.ref 105), some (.int x1), some (.int x2), some (.int (x3 + 1))]) dX10_manyOf_25 (by decide) rfl rfl rfl ?_
      refine hf_goto (tgt := 4) dX10_manyOf_28 (by decide) ?_
      exact h
    · replace h := h.2 hc
      refine hf_iinc (v := (x2 + 1)) (l2 := [some (.ref 105), some (.int x1), some (.int (x2 + 1)), some (.int x3)]) dX10_manyOf_22 (by decide) rfl rfl rfl ?_
      refine hf_iinc (v := (x3 + 1)) (l2 := [some (.ref 105), some (.int x1), some (.int (x2 + 1)), some (.int (x3 + 1))]) dX10_manyOf_25 (by decide) rfl rfl rfl ?_
      refine hf_goto (tgt := 4) dX10_manyOf_28 (by decide) ?_
      exact h

set_option maxHeartbeats 4000000 in
theorem w_X10_firstLetter_0 {X : hf_X} {d k n t : Nat} {T : hf_T} {I : hf_I} {L : hf_L} {P : hf_P} {Q : Option Value → hf_M → Prop} {x1 : Int32} (hs : hf_Lay t T P) (h : vp_in (x1 * 9) 144 ∧ (Q (some (.int (I 110 (((x1 * 9)).toNatClampNeg)))) (t, T, I, L, P))) : hf_G X Y_X10_firstLetter d k n 0 (hf_en [.ref 105, .int x1] 2) [] (t, T, I, L, P) Q := by
  show hf_G X Y_X10_firstLetter d k n 0 [some (.ref 105), some (.int x1)] [] (t, T, I, L, P) Q
  refine hf_aload_n dX10_firstLetter_0 rfl rfl ?_
  refine hf_getr (b := 110) (c := 10) (j := 4) dX10_firstLetter_1 (hs.2.1 105 _ rfl) (hf_lin hs 105 rfl) (by decide) (by decide) hw59 rfl (hs.2.2 105 4 _ rfl) ?_
  refine hf_iload_n dX10_firstLetter_4 rfl rfl ?_
  refine hf_bipush (v := 9) dX10_firstLetter_5 (by decide) ?_
  refine hf_imul dX10_firstLetter_7 ?_
  refine hf_bald dX10_firstLetter_8 (hs.2.1 110 _ rfl) (hf_lin hs 110 rfl) h.1 ?_
  replace h := h.2
  refine hf_ireturn dX10_firstLetter_9 rfl rfl ?_
  exact h

set_option maxHeartbeats 4000000 in
theorem w_X10_beginAlike_0 {X : hf_X} {d k n t : Nat} {T : hf_T} {I : hf_I} {L : hf_L} {P : hf_P} {Q : Option Value → hf_M → Prop} {x1 : Int32} {x2 : Int32} (hs : hf_Lay t T P) (h : vp_in (x1 * 9) 144 ∧ (vp_in (x2 * 9) 144 ∧ ((¬ (I 110 (((x1 * 9)).toNatClampNeg)) = (I 110 (((x2 * 9)).toNatClampNeg)) → Q (some (.int 0)) (t, T, I, L, P)) ∧ ((I 110 (((x1 * 9)).toNatClampNeg)) = (I 110 (((x2 * 9)).toNatClampNeg)) → Q (some (.int 1)) (t, T, I, L, P))))) : hf_G X Y_X10_beginAlike (d + 1) k n 0 (hf_en [.ref 105, .int x1, .int x2] 3) [] (t, T, I, L, P) Q := by
  show hf_G X Y_X10_beginAlike (d + 1) k n 0 [some (.ref 105), some (.int x1), some (.int x2)] [] (t, T, I, L, P) Q
  refine hf_aload_n dX10_beginAlike_0 rfl rfl ?_
  refine hf_iload_n dX10_beginAlike_1 rfl rfl ?_
  refine hf_callV (c := 10) (as := [.int x1]) ok_X10_firstLetter dX10_beginAlike_2 hw781 hw487 hw488 (hs.2.1 105 _ rfl) (by decide) (hf_lin hs 105 rfl) rfl (Nat.le_of_ble_eq_true rfl) rfl (Nat.le_of_ble_eq_true rfl) (Nat.zero_le _) (Nat.zero_le _) ?_
  show hf_G X Y_X10_firstLetter d _ _ 0 [some (.ref 105), some (.int x1)] [] (t, T, I, L, P) _
  refine hf_aload_n dX10_firstLetter_0 rfl rfl ?_
  refine hf_getr (b := 110) (c := 10) (j := 4) dX10_firstLetter_1 (hs.2.1 105 _ rfl) (hf_lin hs 105 rfl) (by decide) (by decide) hw59 rfl (hs.2.2 105 4 _ rfl) ?_
  refine hf_iload_n dX10_firstLetter_4 rfl rfl ?_
  refine hf_bipush (v := 9) dX10_firstLetter_5 (by decide) ?_
  refine hf_imul dX10_firstLetter_7 ?_
  refine hf_bald dX10_firstLetter_8 (hs.2.1 110 _ rfl) (hf_lin hs 110 rfl) h.1 ?_
  replace h := h.2
  refine hf_ireturn dX10_firstLetter_9 rfl rfl ?_
  show hf_G X Y_X10_beginAlike (d + 1) _ _ 5 [some (.ref 105), some (.int x1), some (.int x2)] [.int (I 110 (((x1 * 9)).toNatClampNeg))] (t, T, I, L, P) _
  refine hf_aload_n dX10_beginAlike_5 rfl rfl ?_
  refine hf_iload_n dX10_beginAlike_6 rfl rfl ?_
  refine hf_callV (c := 10) (as := [.int x2]) ok_X10_firstLetter dX10_beginAlike_7 hw781 hw487 hw488 (hs.2.1 105 _ rfl) (by decide) (hf_lin hs 105 rfl) rfl (Nat.le_of_ble_eq_true rfl) rfl (Nat.le_of_ble_eq_true rfl) (Nat.zero_le _) (Nat.zero_le _) ?_
  show hf_G X Y_X10_firstLetter d _ _ 0 [some (.ref 105), some (.int x2)] [] (t, T, I, L, P) _
  refine hf_aload_n dX10_firstLetter_0 rfl rfl ?_
  refine hf_getr (b := 110) (c := 10) (j := 4) dX10_firstLetter_1 (hs.2.1 105 _ rfl) (hf_lin hs 105 rfl) (by decide) (by decide) hw59 rfl (hs.2.2 105 4 _ rfl) ?_
  refine hf_iload_n dX10_firstLetter_4 rfl rfl ?_
  refine hf_bipush (v := 9) dX10_firstLetter_5 (by decide) ?_
  refine hf_imul dX10_firstLetter_7 ?_
  refine hf_bald dX10_firstLetter_8 (hs.2.1 110 _ rfl) (hf_lin hs 110 rfl) h.1 ?_
  replace h := h.2
  refine hf_ireturn dX10_firstLetter_9 rfl rfl ?_
  show hf_G X Y_X10_beginAlike (d + 1) _ _ 10 [some (.ref 105), some (.int x1), some (.int x2)] [.int (I 110 (((x2 * 9)).toNatClampNeg)), .int (I 110 (((x1 * 9)).toNatClampNeg))] (t, T, I, L, P) _
  refine hf_icmp_ne (tgt := 17) dX10_beginAlike_10 (by decide) (fun hc => ?_) (fun hc => ?_)
  · replace h := h.1 hc
    refine hf_iconst (v := 0) dX10_beginAlike_17 (by decide) ?_
    refine hf_ireturn dX10_beginAlike_18 rfl (by decide) ?_
    exact h
  · replace h := h.2 hc
    refine hf_iconst (v := 1) dX10_beginAlike_13 (by decide) ?_
    refine hf_goto (tgt := 18) dX10_beginAlike_14 (by decide) ?_
    refine hf_ireturn dX10_beginAlike_18 rfl (by decide) ?_
    exact h

set_option maxHeartbeats 4000000 in
theorem w_X10_spell_0 {X : hf_X} {d k n t : Nat} {T : hf_T} {I : hf_I} {L : hf_L} {P : hf_P} {Q : Option Value → hf_M → Prop} {x2 : Int32} (hs : hf_Lay t T P) (h : (16 ≤ (I 105 5) → Q (some (.int 0)) (t, T, I, L, P)) ∧ (¬ (16 ≤ (I 105 5)) → (x2 < 1 → Q (some (.int 0)) (t, T, I, L, P)) ∧ (¬ (x2 < 1) → (x2 ≤ 9 → hf_G X Y_X10_spell d k n 24 [some (.ref 105), some (.ref 122), some (.int x2), some (.int 0)] [] (t, T, I, L, P) Q) ∧ (¬ (x2 ≤ 9) → Q (some (.int 0)) (t, T, I, L, P))))) : hf_G X Y_X10_spell d k n 0 (hf_en [.ref 105, .ref 122, .int x2] 4) [] (t, T, I, L, P) Q := by
  show hf_G X Y_X10_spell d k n 0 [some (.ref 105), some (.ref 122), some (.int x2), none] [] (t, T, I, L, P) Q
  refine hf_aload_n dX10_spell_0 rfl rfl ?_
  refine hf_geti (c := 10) (j := 5) dX10_spell_1 (hs.2.1 105 _ rfl) (hf_lin hs 105 rfl) (by decide) (by decide) hw61 (Or.inl rfl) ?_
  refine hf_bipush (v := 16) dX10_spell_4 (by decide) ?_
  refine hf_icmp_ge (tgt := 20) dX10_spell_6 (by decide) (fun hc => ?_) (fun hc => ?_)
  · replace h := h.1 hc
    refine hf_iconst (v := 0) dX10_spell_20 (by decide) ?_
    refine hf_ireturn dX10_spell_21 rfl (by decide) ?_
    exact h
  · replace h := h.2 hc
    refine hf_iload_n dX10_spell_9 rfl rfl ?_
    refine hf_iconst (v := 1) dX10_spell_10 (by decide) ?_
    refine hf_icmp_lt (tgt := 20) dX10_spell_11 (by decide) (fun hc => ?_) (fun hc => ?_)
    · replace h := h.1 hc
      refine hf_iconst (v := 0) dX10_spell_20 (by decide) ?_
      refine hf_ireturn dX10_spell_21 rfl (by decide) ?_
      exact h
    · replace h := h.2 hc
      refine hf_iload_n dX10_spell_14 rfl rfl ?_
      refine hf_bipush (v := 9) dX10_spell_15 (by decide) ?_
      refine hf_icmp_le (tgt := 22) dX10_spell_17 (by decide) (fun hc => ?_) (fun hc => ?_)
      · replace h := h.1 hc
        refine hf_iconst (v := 0) dX10_spell_22 (by decide) ?_
        refine hf_istore_n (l2 := [some (.ref 105), some (.ref 122), some (.int x2), some (.int 0)]) dX10_spell_23 rfl (by decide) rfl ?_
        exact h
      · replace h := h.2 hc
        refine hf_iconst (v := 0) dX10_spell_20 (by decide) ?_
        refine hf_ireturn dX10_spell_21 rfl (by decide) ?_
        exact h

set_option maxHeartbeats 4000000 in
theorem w_X10_spell_24 {X : hf_X} {d k n t : Nat} {T : hf_T} {I : hf_I} {L : hf_L} {P : hf_P} {Q : Option Value → hf_M → Prop} {x2 : Int32} {x3 : Int32} (hs : hf_Lay t T P) (h : (x2 ≤ x3 → vp_in (I 105 5) 16 ∧ (Q (some (.int 1)) (t, T, (hf_up I 109 (((I 105 5)).toNatClampNeg) x2), L, P))) ∧ (¬ (x2 ≤ x3) → vp_in x3 400 ∧ (((I 122 x3.toNatClampNeg) < 97 → Q (some (.int 0)) (t, T, I, L, P)) ∧ (¬ ((I 122 x3.toNatClampNeg) < 97) → vp_in x3 400 ∧ (((I 122 x3.toNatClampNeg) ≤ 122 → vp_in x3 400 ∧ (vp_in (((I 105 5) * 9) + x3) 144 ∧ (hf_G X Y_X10_spell d k n 24 [some (.ref 105), some (.ref 122), some (.int x2), some (.int (x3 + 1))] [] (t, T, (hf_up I 110 (((((I 105 5) * 9) + x3)).toNatClampNeg) (vp_nar .byte (((I 122 x3.toNatClampNeg) - 97).toInt8.toInt32))), L, P) Q))) ∧ (¬ ((I 122 x3.toNatClampNeg) ≤ 122) → Q (some (.int 0)) (t, T, I, L, P))))))) : hf_G X Y_X10_spell d k n 24 [some (.ref 105), some (.ref 122), some (.int x2), some (.int x3)] [] (t, T, I, L, P) Q := by
  refine hf_iload_n dX10_spell_24 rfl rfl ?_
  refine hf_iload_n dX10_spell_25 rfl rfl ?_
  refine hf_icmp_ge (tgt := 74) dX10_spell_26 (by decide) (fun hc => ?_) (fun hc => ?_)
  · replace h := h.1 hc
    refine hf_aload_n dX10_spell_74 rfl rfl ?_
    refine hf_getr (b := 109) (c := 10) (j := 3) dX10_spell_75 (hs.2.1 105 _ rfl) (hf_lin hs 105 rfl) (by decide) (by decide) hw55 rfl (hs.2.2 105 3 _ rfl) ?_
    refine hf_aload_n dX10_spell_78 rfl rfl ?_
    refine hf_geti (c := 10) (j := 5) dX10_spell_79 (hs.2.1 105 _ rfl) (hf_lin hs 105 rfl) (by decide) (by decide) hw61 (Or.inl rfl) ?_
    refine hf_iload_n dX10_spell_82 rfl rfl ?_
    refine hf_iast dX10_spell_83 (hs.2.1 109 _ rfl) (hf_lin hs 109 rfl) h.1 ?_
    replace h := h.2
    refine hf_iconst (v := 1) dX10_spell_84 (by decide) ?_
    refine hf_ireturn dX10_spell_85 rfl (by decide) ?_
    exact h
  · replace h := h.2 hc
    refine hf_aload_n dX10_spell_29 rfl rfl ?_
    refine hf_iload_n dX10_spell_30 rfl rfl ?_
    refine hf_bald dX10_spell_31 (hs.2.1 122 _ rfl) (hf_lin hs 122 rfl) h.1 ?_
    replace h := h.2
    refine hf_bipush (v := 97) dX10_spell_32 (by decide) ?_
    refine hf_icmp_lt (tgt := 45) dX10_spell_34 (by decide) (fun hc => ?_) (fun hc => ?_)
    · replace h := h.1 hc
      refine hf_iconst (v := 0) dX10_spell_45 (by decide) ?_
      refine hf_ireturn dX10_spell_46 rfl (by decide) ?_
      exact h
    · replace h := h.2 hc
      refine hf_aload_n dX10_spell_37 rfl rfl ?_
      refine hf_iload_n dX10_spell_38 rfl rfl ?_
      refine hf_bald dX10_spell_39 (hs.2.1 122 _ rfl) (hf_lin hs 122 rfl) h.1 ?_
      replace h := h.2
      refine hf_bipush (v := 122) dX10_spell_40 (by decide) ?_
      refine hf_icmp_le (tgt := 47) dX10_spell_42 (by decide) (fun hc => ?_) (fun hc => ?_)
      · replace h := h.1 hc
        refine hf_aload_n dX10_spell_47 rfl rfl ?_
        refine hf_getr (b := 110) (c := 10) (j := 4) dX10_spell_48 (hs.2.1 105 _ rfl) (hf_lin hs 105 rfl) (by decide) (by decide) hw59 rfl (hs.2.2 105 4 _ rfl) ?_
        refine hf_aload_n dX10_spell_51 rfl rfl ?_
        refine hf_geti (c := 10) (j := 5) dX10_spell_52 (hs.2.1 105 _ rfl) (hf_lin hs 105 rfl) (by decide) (by decide) hw61 (Or.inl rfl) ?_
        refine hf_bipush (v := 9) dX10_spell_55 (by decide) ?_
        refine hf_imul dX10_spell_57 ?_
        refine hf_iload_n dX10_spell_58 rfl rfl ?_
        refine hf_iadd dX10_spell_59 ?_
        refine hf_aload_n dX10_spell_60 rfl rfl ?_
        refine hf_iload_n dX10_spell_61 rfl rfl ?_
        refine hf_bald dX10_spell_62 (hs.2.1 122 _ rfl) (hf_lin hs 122 rfl) h.1 ?_
        replace h := h.2
        refine hf_bipush (v := 97) dX10_spell_63 (by decide) ?_
        refine hf_isub dX10_spell_65 ?_
        refine hf_i2b dX10_spell_66 ?_
        refine hf_bast dX10_spell_67 (hs.2.1 110 _ rfl) (hf_lin hs 110 rfl) h.1 ?_
        replace h := h.2
        refine hf_iinc (v := (x3 + 1)) (l2 := [some (.ref 105), some (.ref 122), some (.int x2), some (.int (x3 + 1))]) dX10_spell_68 (by decide) rfl rfl rfl ?_
        refine hf_goto (tgt := 24) dX10_spell_71 (by decide) ?_
        exact h
      · replace h := h.2 hc
        refine hf_iconst (v := 0) dX10_spell_45 (by decide) ?_
        refine hf_ireturn dX10_spell_46 rfl (by decide) ?_
        exact h

set_option maxHeartbeats 4000000 in
theorem w_X10_add_0 {X : hf_X} {d k n t : Nat} {T : hf_T} {I : hf_I} {L : hf_L} {P : hf_P} {Q : Option Value → hf_M → Prop} {x1 : Int32} {x2 : Int32} {x3 : Int32} (hs : hf_Lay t T P) (h : ((I 105 5) < 16 → vp_in (I 105 5) 16 ∧ (vp_in (I 105 5) 16 ∧ (vp_in (I 105 5) 16 ∧ (Q (some (.int (((I 105 5) + 1) - 1))) (t, T, (hf_up (hf_up (hf_up (hf_up I 106 (((I 105 5)).toNatClampNeg) x1) 107 (((I 105 5)).toNatClampNeg) x2) 108 (((I 105 5)).toNatClampNeg) x3) 105 5 ((I 105 5) + 1)), L, P))))) ∧ (¬ ((I 105 5) < 16) → Q (some (.int (-1))) (t, T, I, L, P))) : hf_G X Y_X10_add d k n 0 (hf_en [.ref 105, .int x1, .int x2, .int x3] 4) [] (t, T, I, L, P) Q := by
  show hf_G X Y_X10_add d k n 0 [some (.ref 105), some (.int x1), some (.int x2), some (.int x3)] [] (t, T, I, L, P) Q
  refine hf_aload_n dX10_add_0 rfl rfl ?_
  refine hf_geti (c := 10) (j := 5) dX10_add_1 (hs.2.1 105 _ rfl) (hf_lin hs 105 rfl) (by decide) (by decide) hw61 (Or.inl rfl) ?_
  refine hf_bipush (v := 16) dX10_add_4 (by decide) ?_
  refine hf_icmp_lt (tgt := 11) dX10_add_6 (by decide) (fun hc => ?_) (fun hc => ?_)
  · replace h := h.1 hc
    refine hf_aload_n dX10_add_11 rfl rfl ?_
    refine hf_getr (b := 106) (c := 10) (j := 0) dX10_add_12 (hs.2.1 105 _ rfl) (hf_lin hs 105 rfl) (by decide) (by decide) hw42 rfl (hs.2.2 105 0 _ rfl) ?_
    refine hf_aload_n dX10_add_15 rfl rfl ?_
    refine hf_geti (c := 10) (j := 5) dX10_add_16 (hs.2.1 105 _ rfl) (hf_lin hs 105 rfl) (by decide) (by decide) hw61 (Or.inl rfl) ?_
    refine hf_iload_n dX10_add_19 rfl rfl ?_
    refine hf_iast dX10_add_20 (hs.2.1 106 _ rfl) (hf_lin hs 106 rfl) h.1 ?_
    replace h := h.2
    refine hf_aload_n dX10_add_21 rfl rfl ?_
    refine hf_getr (b := 107) (c := 10) (j := 1) dX10_add_22 (hs.2.1 105 _ rfl) (hf_lin hs 105 rfl) (by decide) (by decide) hw47 rfl (hs.2.2 105 1 _ rfl) ?_
    refine hf_aload_n dX10_add_25 rfl rfl ?_
    refine hf_geti (c := 10) (j := 5) dX10_add_26 (hs.2.1 105 _ rfl) (hf_lin hs 105 rfl) (by decide) (by decide) hw61 (Or.inl rfl) ?_
    refine hf_iload_n dX10_add_29 rfl rfl ?_
    refine hf_iast dX10_add_30 (hs.2.1 107 _ rfl) (hf_lin hs 107 rfl) h.1 ?_
    replace h := h.2
    refine hf_aload_n dX10_add_31 rfl rfl ?_
    refine hf_getr (b := 108) (c := 10) (j := 2) dX10_add_32 (hs.2.1 105 _ rfl) (hf_lin hs 105 rfl) (by decide) (by decide) hw50 rfl (hs.2.2 105 2 _ rfl) ?_
    refine hf_aload_n dX10_add_35 rfl rfl ?_
    refine hf_geti (c := 10) (j := 5) dX10_add_36 (hs.2.1 105 _ rfl) (hf_lin hs 105 rfl) (by decide) (by decide) hw61 (Or.inl rfl) ?_
    refine hf_iload_n dX10_add_39 rfl rfl ?_
    refine hf_iast dX10_add_40 (hs.2.1 108 _ rfl) (hf_lin hs 108 rfl) h.1 ?_
    replace h := h.2
    refine hf_aload_n dX10_add_41 rfl rfl ?_
    refine hf_dup dX10_add_42 rfl ?_
    refine hf_geti (c := 10) (j := 5) dX10_add_43 (hs.2.1 105 _ rfl) (hf_lin hs 105 rfl) (by decide) (by decide) hw61 (Or.inl rfl) ?_
    refine hf_iconst (v := 1) dX10_add_46 (by decide) ?_
    refine hf_iadd dX10_add_47 ?_
    refine hf_puti (c := 10) (j := 5) dX10_add_48 (hs.2.1 105 _ rfl) (hf_lin hs 105 rfl) (by decide) (by decide) hw61 rfl rfl ?_
    refine hf_aload_n dX10_add_51 rfl rfl ?_
    refine hf_geti (c := 10) (j := 5) dX10_add_52 (hs.2.1 105 _ rfl) (hf_lin hs 105 rfl) (by decide) (by decide) hw61 (Or.inl rfl) ?_
    refine hf_iconst (v := 1) dX10_add_55 (by decide) ?_
    refine hf_isub dX10_add_56 ?_
    refine hf_ireturn dX10_add_57 rfl rfl ?_
    exact h
  · replace h := h.2 hc
    refine hf_iconst (v := (-1)) dX10_add_9 (by decide) ?_
    refine hf_ireturn dX10_add_10 rfl rfl ?_
    exact h
