set_option maxHeartbeats 4000000 in
theorem w_X6_empty_0 {X : hf_X} {d k n t : Nat} {T : hf_T} {I : hf_I} {L : hf_L} {P : hf_P} {Q : Option Value → hf_M → Prop}  (hs : hf_Lay t T P) (h : Q none (t, T, (hf_up I 148 2 0), L, P)) : hf_G X Y_X6_empty d k n 0 (hf_en [.ref 148] 1) [] (t, T, I, L, P) Q := by
  show hf_G X Y_X6_empty d k n 0 [some (.ref 148)] [] (t, T, I, L, P) Q
  refine hf_aload_n dX6_empty_0 rfl rfl ?_
  refine hf_iconst (v := 0) dX6_empty_1 (by decide) ?_
  refine hf_puti (c := 6) (j := 2) dX6_empty_2 (hs.2.1 148 _ rfl) (hf_lin hs 148 rfl) (by decide) (by decide) hw359 rfl rfl ?_
  refine hf_return dX6_empty_5 rfl ?_
  exact h

set_option maxHeartbeats 4000000 in
theorem w_X6_keep_0 {X : hf_X} {d k n t : Nat} {T : hf_T} {I : hf_I} {L : hf_L} {P : hf_P} {Q : Option Value → hf_M → Prop} {x1 : Int32} (hs : hf_Lay t T P) (h : (True ∧ ¬ ((I 148 1) * 27) < 0 ∧ True ∧ 0 + 12 ≤ 12 ∧ ((I 148 1) * 27).toNatClampNeg + 12 ≤ 432) ∧ ((True ∧ ¬ (((I 148 1) * 27) + 12) < 0 ∧ True ∧ 0 + 12 ≤ 12 ∧ (((I 148 1) * 27) + 12).toNatClampNeg + 12 ≤ 432) ∧ (vp_in (((I 148 1) * 27) + 24) 432 ∧ (vp_in ((((I 148 1) * 27) + 24) + 1) 432 ∧ (vp_in ((((I 148 1) * 27) + 24) + 2) 432 ∧ (Q none (t, T, (hf_up (hf_up (hf_up (hf_up (hf_up (hf_cp (hf_cp I 115 149 0 ((I 148 1) * 27).toNatClampNeg 12) 116 149 0 (((I 148 1) * 27) + 12).toNatClampNeg 12) 149 (((((I 148 1) * 27) + 24)).toNatClampNeg) (I 114 2)) 149 ((((((I 148 1) * 27) + 24) + 1)).toNatClampNeg) (I 114 3)) 149 ((((((I 148 1) * 27) + 24) + 2)).toNatClampNeg) x1) 148 1 (((I 148 1) + 1) - ((I 148 1) + 1) / 16 * 16)) 148 2 (if ((I 148 2) + 1) < 16 then ((I 148 2) + 1) else 16)), L, P))))))) : hf_G X Y_X6_keep (d + 1) k n 0 (hf_en [.ref 148, .int x1, .ref 114] 4) [] (t, T, I, L, P) Q := by
  show hf_G X Y_X6_keep (d + 1) k n 0 [some (.ref 148), some (.int x1), some (.ref 114), none] [] (t, T, I, L, P) Q
  refine hf_aload_n dX6_keep_0 rfl rfl ?_
  refine hf_geti (c := 6) (j := 1) dX6_keep_1 (hs.2.1 148 _ rfl) (hf_lin hs 148 rfl) (by decide) (by decide) hw358 (Or.inl rfl) ?_
  refine hf_bipush (v := 27) dX6_keep_4 (by decide) ?_
  refine hf_imul dX6_keep_6 ?_
  refine hf_istore_n (l2 := [some (.ref 148), some (.int x1), some (.ref 114), some (.int ((I 148 1) * 27))]) dX6_keep_7 rfl (by decide) rfl ?_
  refine hf_aload_n dX6_keep_8 rfl rfl ?_
  refine hf_getr (b := 115) (c := 3) (j := 0) dX6_keep_9 (hs.2.1 114 _ rfl) (hf_lin hs 114 rfl) (by decide) (by decide) hw80 rfl (hs.2.2 114 0 _ rfl) ?_
  refine hf_iconst (v := 0) dX6_keep_12 (by decide) ?_
  refine hf_aload_n dX6_keep_13 rfl rfl ?_
  refine hf_getr (b := 149) (c := 6) (j := 0) dX6_keep_14 (hs.2.1 148 _ rfl) (hf_lin hs 148 rfl) (by decide) (by decide) hw357 rfl (hs.2.2 148 0 _ rfl) ?_
  refine hf_iload_n dX6_keep_17 rfl rfl ?_
  refine hf_bipush (v := 12) dX6_keep_18 (by decide) ?_
  refine hf_copy (kb := 0) dX6_keep_20 hw675 hw_cpn hw_cps hw_cpi (hs.2.1 115 _ rfl) (hs.2.1 149 _ rfl) (hf_lin hs 115 rfl) (hf_lin hs 149 rfl) (by decide) (by decide) h.1.2.1 (by decide) h.1.2.2.2.1 h.1.2.2.2.2 (fun q => absurd q (by decide)) (Nat.le_of_ble_eq_true rfl) ?_
  replace h := h.2
  refine hf_aload_n dX6_keep_23 rfl rfl ?_
  refine hf_getr (b := 116) (c := 3) (j := 1) dX6_keep_24 (hs.2.1 114 _ rfl) (hf_lin hs 114 rfl) (by decide) (by decide) hw84 rfl (hs.2.2 114 1 _ rfl) ?_
  refine hf_iconst (v := 0) dX6_keep_27 (by decide) ?_
  refine hf_aload_n dX6_keep_28 rfl rfl ?_
  refine hf_getr (b := 149) (c := 6) (j := 0) dX6_keep_29 (hs.2.1 148 _ rfl) (hf_lin hs 148 rfl) (by decide) (by decide) hw357 rfl (hs.2.2 148 0 _ rfl) ?_
  refine hf_iload_n dX6_keep_32 rfl rfl ?_
  refine hf_bipush (v := 12) dX6_keep_33 (by decide) ?_
  refine hf_iadd dX6_keep_35 ?_
  refine hf_bipush (v := 12) dX6_keep_36 (by decide) ?_
  refine hf_copy (kb := 0) dX6_keep_38 hw675 hw_cpn hw_cps hw_cpi (hs.2.1 116 _ rfl) (hs.2.1 149 _ rfl) (hf_lin hs 116 rfl) (hf_lin hs 149 rfl) (by decide) (by decide) h.1.2.1 (by decide) h.1.2.2.2.1 h.1.2.2.2.2 (fun q => absurd q (by decide)) (Nat.le_of_ble_eq_true rfl) ?_
  replace h := h.2
  refine hf_aload_n dX6_keep_41 rfl rfl ?_
  refine hf_getr (b := 149) (c := 6) (j := 0) dX6_keep_42 (hs.2.1 148 _ rfl) (hf_lin hs 148 rfl) (by decide) (by decide) hw357 rfl (hs.2.2 148 0 _ rfl) ?_
  refine hf_iload_n dX6_keep_45 rfl rfl ?_
  refine hf_bipush (v := 24) dX6_keep_46 (by decide) ?_
  refine hf_iadd dX6_keep_48 ?_
  refine hf_aload_n dX6_keep_49 rfl rfl ?_
  refine hf_geti (c := 3) (j := 2) dX6_keep_50 (hs.2.1 114 _ rfl) (hf_lin hs 114 rfl) (by decide) (by decide) hw90 (Or.inl rfl) ?_
  refine hf_iast dX6_keep_53 (hs.2.1 149 _ rfl) (hf_lin hs 149 rfl) h.1 ?_
  replace h := h.2
  refine hf_aload_n dX6_keep_54 rfl rfl ?_
  refine hf_getr (b := 149) (c := 6) (j := 0) dX6_keep_55 (hs.2.1 148 _ rfl) (hf_lin hs 148 rfl) (by decide) (by decide) hw357 rfl (hs.2.2 148 0 _ rfl) ?_
  refine hf_iload_n dX6_keep_58 rfl rfl ?_
  refine hf_bipush (v := 24) dX6_keep_59 (by decide) ?_
  refine hf_iadd dX6_keep_61 ?_
  refine hf_iconst (v := 1) dX6_keep_62 (by decide) ?_
  refine hf_iadd dX6_keep_63 ?_
  refine hf_aload_n dX6_keep_64 rfl rfl ?_
  refine hf_geti (c := 3) (j := 3) dX6_keep_65 (hs.2.1 114 _ rfl) (hf_lin hs 114 rfl) (by decide) (by decide) hw93 (Or.inl rfl) ?_
  refine hf_iast dX6_keep_68 (hs.2.1 149 _ rfl) (hf_lin hs 149 rfl) h.1 ?_
  replace h := h.2
  refine hf_aload_n dX6_keep_69 rfl rfl ?_
  refine hf_getr (b := 149) (c := 6) (j := 0) dX6_keep_70 (hs.2.1 148 _ rfl) (hf_lin hs 148 rfl) (by decide) (by decide) hw357 rfl (hs.2.2 148 0 _ rfl) ?_
  refine hf_iload_n dX6_keep_73 rfl rfl ?_
  refine hf_bipush (v := 24) dX6_keep_74 (by decide) ?_
  refine hf_iadd dX6_keep_76 ?_
  refine hf_iconst (v := 2) dX6_keep_77 (by decide) ?_
  refine hf_iadd dX6_keep_78 ?_
  refine hf_iload_n dX6_keep_79 rfl rfl ?_
  refine hf_iast dX6_keep_80 (hs.2.1 149 _ rfl) (hf_lin hs 149 rfl) h.1 ?_
  replace h := h.2
  refine hf_aload_n dX6_keep_81 rfl rfl ?_
  refine hf_aload_n dX6_keep_82 rfl rfl ?_
  refine hf_geti (c := 6) (j := 1) dX6_keep_83 (hs.2.1 148 _ rfl) (hf_lin hs 148 rfl) (by decide) (by decide) hw358 (Or.inl rfl) ?_
  refine hf_iconst (v := 1) dX6_keep_86 (by decide) ?_
  refine hf_iadd dX6_keep_87 ?_
  refine hf_bipush (v := 16) dX6_keep_88 (by decide) ?_
  refine hf_irem dX6_keep_90 (by decide) ?_
  refine hf_puti (c := 6) (j := 1) dX6_keep_91 (hs.2.1 148 _ rfl) (hf_lin hs 148 rfl) (by decide) (by decide) hw358 rfl rfl ?_
  refine hf_aload_n dX6_keep_94 rfl rfl ?_
  refine hf_bipush (v := 16) dX6_keep_95 (by decide) ?_
  refine hf_aload_n dX6_keep_97 rfl rfl ?_
  refine hf_geti (c := 6) (j := 2) dX6_keep_98 (hs.2.1 148 _ rfl) (hf_lin hs 148 rfl) (by decide) (by decide) hw359 (Or.inl rfl) ?_
  refine hf_iconst (v := 1) dX6_keep_101 (by decide) ?_
  refine hf_iadd dX6_keep_102 ?_
  refine hf_mmin dX6_keep_103 hw708 (Nat.le_of_ble_eq_true rfl) ?_
  refine hf_puti (c := 6) (j := 2) dX6_keep_106 (hs.2.1 148 _ rfl) (hf_lin hs 148 rfl) (by decide) (by decide) hw359 rfl rfl ?_
  refine hf_return dX6_keep_109 rfl ?_
  exact h

set_option maxHeartbeats 4000000 in
theorem w_X6_takeBack_0 {X : hf_X} {d k n t : Nat} {T : hf_T} {I : hf_I} {L : hf_L} {P : hf_P} {Q : Option Value → hf_M → Prop}  (hs : hf_Lay t T P) (h : (¬ (I 148 2) = 0 → (¬ (((((I 148 1) + 16) - 1) - (((I 148 1) + 16) - 1) / 16 * 16) * 27) < 0 ∧ True ∧ True ∧ (((((I 148 1) + 16) - 1) - (((I 148 1) + 16) - 1) / 16 * 16) * 27).toNatClampNeg + 12 ≤ 432 ∧ 0 + 12 ≤ 12) ∧ ((¬ ((((((I 148 1) + 16) - 1) - (((I 148 1) + 16) - 1) / 16 * 16) * 27) + 12) < 0 ∧ True ∧ True ∧ ((((((I 148 1) + 16) - 1) - (((I 148 1) + 16) - 1) / 16 * 16) * 27) + 12).toNatClampNeg + 12 ≤ 432 ∧ 0 + 12 ≤ 12) ∧ (vp_in ((((((I 148 1) + 16) - 1) - (((I 148 1) + 16) - 1) / 16 * 16) * 27) + 24) 432 ∧ (vp_in (((((((I 148 1) + 16) - 1) - (((I 148 1) + 16) - 1) / 16 * 16) * 27) + 24) + 1) 432 ∧ (vp_in (((((((I 148 1) + 16) - 1) - (((I 148 1) + 16) - 1) / 16 * 16) * 27) + 24) + 2) 432 ∧ (Q (some (.int (I 149 (((((((((I 148 1) + 16) - 1) - (((I 148 1) + 16) - 1) / 16 * 16) * 27) + 24) + 2)).toNatClampNeg)))) (t, T, (hf_up (hf_up (hf_cp (hf_cp (hf_up (hf_up I 148 1 ((((I 148 1) + 16) - 1) - (((I 148 1) + 16) - 1) / 16 * 16)) 148 2 ((I 148 2) - 1)) 149 115 (((((I 148 1) + 16) - 1) - (((I 148 1) + 16) - 1) / 16 * 16) * 27).toNatClampNeg 0 12) 149 116 ((((((I 148 1) + 16) - 1) - (((I 148 1) + 16) - 1) / 16 * 16) * 27) + 12).toNatClampNeg 0 12) 114 2 (I 149 ((((((((I 148 1) + 16) - 1) - (((I 148 1) + 16) - 1) / 16 * 16) * 27) + 24)).toNatClampNeg))) 114 3 (I 149 (((((((((I 148 1) + 16) - 1) - (((I 148 1) + 16) - 1) / 16 * 16) * 27) + 24) + 1)).toNatClampNeg))), L, P))))))) ∧ ((I 148 2) = 0 → Q (some (.int (-1))) (t, T, I, L, P))) : hf_G X Y_X6_takeBack (d + 1) k n 0 (hf_en [.ref 148, .ref 114] 3) [] (t, T, I, L, P) Q := by
  show hf_G X Y_X6_takeBack (d + 1) k n 0 [some (.ref 148), some (.ref 114), none] [] (t, T, I, L, P) Q
  refine hf_aload_n dX6_takeBack_0 rfl rfl ?_
  refine hf_geti (c := 6) (j := 2) dX6_takeBack_1 (hs.2.1 148 _ rfl) (hf_lin hs 148 rfl) (by decide) (by decide) hw359 (Or.inl rfl) ?_
  refine hf_if_ne (tgt := 9) dX6_takeBack_4 (by decide) (fun hc => ?_) (fun hc => ?_)
  · replace h := h.1 hc
    refine hf_aload_n dX6_takeBack_9 rfl rfl ?_
    refine hf_aload_n dX6_takeBack_10 rfl rfl ?_
    refine hf_geti (c := 6) (j := 1) dX6_takeBack_11 (hs.2.1 148 _ rfl) (hf_lin hs 148 rfl) (by decide) (by decide) hw358 (Or.inl rfl) ?_
    refine hf_bipush (v := 16) dX6_takeBack_14 (by decide) ?_
    refine hf_iadd dX6_takeBack_16 ?_
    refine hf_iconst (v := 1) dX6_takeBack_17 (by decide) ?_
    refine hf_isub dX6_takeBack_18 ?_
    refine hf_bipush (v := 16) dX6_takeBack_19 (by decide) ?_
    refine hf_irem dX6_takeBack_21 (by decide) ?_
    refine hf_puti (c := 6) (j := 1) dX6_takeBack_22 (hs.2.1 148 _ rfl) (hf_lin hs 148 rfl) (by decide) (by decide) hw358 rfl rfl ?_
    refine hf_aload_n dX6_takeBack_25 rfl rfl ?_
    refine hf_dup dX6_takeBack_26 rfl ?_
    refine hf_geti (c := 6) (j := 2) dX6_takeBack_27 (hs.2.1 148 _ rfl) (hf_lin hs 148 rfl) (by decide) (by decide) hw359 (Or.inl rfl) ?_
    refine hf_iconst (v := 1) dX6_takeBack_30 (by decide) ?_
    refine hf_isub dX6_takeBack_31 ?_
    refine hf_puti (c := 6) (j := 2) dX6_takeBack_32 (hs.2.1 148 _ rfl) (hf_lin hs 148 rfl) (by decide) (by decide) hw359 rfl rfl ?_
    refine hf_aload_n dX6_takeBack_35 rfl rfl ?_
    refine hf_geti (c := 6) (j := 1) dX6_takeBack_36 (hs.2.1 148 _ rfl) (hf_lin hs 148 rfl) (by decide) (by decide) hw358 (Or.inl rfl) ?_
    refine hf_bipush (v := 27) dX6_takeBack_39 (by decide) ?_
    refine hf_imul dX6_takeBack_41 ?_
    refine hf_istore_n (l2 := [some (.ref 148), some (.ref 114), some (.int (((((I 148 1) + 16) - 1) - (((I 148 1) + 16) - 1) / 16 * 16) * 27))]) dX6_takeBack_42 rfl (by decide) rfl ?_
    refine hf_aload_n dX6_takeBack_43 rfl rfl ?_
    refine hf_getr (b := 149) (c := 6) (j := 0) dX6_takeBack_44 (hs.2.1 148 _ rfl) (hf_lin hs 148 rfl) (by decide) (by decide) hw357 rfl (hs.2.2 148 0 _ rfl) ?_
    refine hf_iload_n dX6_takeBack_47 rfl rfl ?_
    refine hf_aload_n dX6_takeBack_48 rfl rfl ?_
    refine hf_getr (b := 115) (c := 3) (j := 0) dX6_takeBack_49 (hs.2.1 114 _ rfl) (hf_lin hs 114 rfl) (by decide) (by decide) hw80 rfl (hs.2.2 114 0 _ rfl) ?_
    refine hf_iconst (v := 0) dX6_takeBack_52 (by decide) ?_
    refine hf_bipush (v := 12) dX6_takeBack_53 (by decide) ?_
    refine hf_copy (kb := 0) dX6_takeBack_55 hw675 hw_cpn hw_cps hw_cpi (hs.2.1 149 _ rfl) (hs.2.1 115 _ rfl) (hf_lin hs 149 rfl) (hf_lin hs 115 rfl) (by decide) h.1.1 (by decide) (by decide) h.1.2.2.2.1 h.1.2.2.2.2 (fun q => absurd q (by decide)) (Nat.le_of_ble_eq_true rfl) ?_
    replace h := h.2
    refine hf_aload_n dX6_takeBack_58 rfl rfl ?_
    refine hf_getr (b := 149) (c := 6) (j := 0) dX6_takeBack_59 (hs.2.1 148 _ rfl) (hf_lin hs 148 rfl) (by decide) (by decide) hw357 rfl (hs.2.2 148 0 _ rfl) ?_
    refine hf_iload_n dX6_takeBack_62 rfl rfl ?_
    refine hf_bipush (v := 12) dX6_takeBack_63 (by decide) ?_
    refine hf_iadd dX6_takeBack_65 ?_
    refine hf_aload_n dX6_takeBack_66 rfl rfl ?_
    refine hf_getr (b := 116) (c := 3) (j := 1) dX6_takeBack_67 (hs.2.1 114 _ rfl) (hf_lin hs 114 rfl) (by decide) (by decide) hw84 rfl (hs.2.2 114 1 _ rfl) ?_
    refine hf_iconst (v := 0) dX6_takeBack_70 (by decide) ?_
    refine hf_bipush (v := 12) dX6_takeBack_71 (by decide) ?_
    refine hf_copy (kb := 0) dX6_takeBack_73 hw675 hw_cpn hw_cps hw_cpi (hs.2.1 149 _ rfl) (hs.2.1 116 _ rfl) (hf_lin hs 149 rfl) (hf_lin hs 116 rfl) (by decide) h.1.1 (by decide) (by decide) h.1.2.2.2.1 h.1.2.2.2.2 (fun q => absurd q (by decide)) (Nat.le_of_ble_eq_true rfl) ?_
    replace h := h.2
    refine hf_aload_n dX6_takeBack_76 rfl rfl ?_
    refine hf_aload_n dX6_takeBack_77 rfl rfl ?_
    refine hf_getr (b := 149) (c := 6) (j := 0) dX6_takeBack_78 (hs.2.1 148 _ rfl) (hf_lin hs 148 rfl) (by decide) (by decide) hw357 rfl (hs.2.2 148 0 _ rfl) ?_
    refine hf_iload_n dX6_takeBack_81 rfl rfl ?_
    refine hf_bipush (v := 24) dX6_takeBack_82 (by decide) ?_
    refine hf_iadd dX6_takeBack_84 ?_
    refine hf_iald dX6_takeBack_85 (hs.2.1 149 _ rfl) (hf_lin hs 149 rfl) h.1 ?_
    replace h := h.2
    refine hf_puti (c := 3) (j := 2) dX6_takeBack_86 (hs.2.1 114 _ rfl) (hf_lin hs 114 rfl) (by decide) (by decide) hw90 rfl rfl ?_
    refine hf_aload_n dX6_takeBack_89 rfl rfl ?_
    refine hf_aload_n dX6_takeBack_90 rfl rfl ?_
    refine hf_getr (b := 149) (c := 6) (j := 0) dX6_takeBack_91 (hs.2.1 148 _ rfl) (hf_lin hs 148 rfl) (by decide) (by decide) hw357 rfl (hs.2.2 148 0 _ rfl) ?_
    refine hf_iload_n dX6_takeBack_94 rfl rfl ?_
    refine hf_bipush (v := 24) dX6_takeBack_95 (by decide) ?_
    refine hf_iadd dX6_takeBack_97 ?_
    refine hf_iconst (v := 1) dX6_takeBack_98 (by decide) ?_
    refine hf_iadd dX6_takeBack_99 ?_
    refine hf_iald dX6_takeBack_100 (hs.2.1 149 _ rfl) (hf_lin hs 149 rfl) h.1 ?_
    replace h := h.2
    refine hf_puti (c := 3) (j := 3) dX6_takeBack_101 (hs.2.1 114 _ rfl) (hf_lin hs 114 rfl) (by decide) (by decide) hw93 rfl rfl ?_
    refine hf_aload_n dX6_takeBack_104 rfl rfl ?_
    refine hf_getr (b := 149) (c := 6) (j := 0) dX6_takeBack_105 (hs.2.1 148 _ rfl) (hf_lin hs 148 rfl) (by decide) (by decide) hw357 rfl (hs.2.2 148 0 _ rfl) ?_
    refine hf_iload_n dX6_takeBack_108 rfl rfl ?_
    refine hf_bipush (v := 24) dX6_takeBack_109 (by decide) ?_
    refine hf_iadd dX6_takeBack_111 ?_
    refine hf_iconst (v := 2) dX6_takeBack_112 (by decide) ?_
    refine hf_iadd dX6_takeBack_113 ?_
    refine hf_iald dX6_takeBack_114 (hs.2.1 149 _ rfl) (hf_lin hs 149 rfl) h.1 ?_
    replace h := h.2
    refine hf_ireturn dX6_takeBack_115 rfl rfl ?_
    exact h
  · replace h := h.2 hc
    refine hf_iconst (v := (-1)) dX6_takeBack_7 (by decide) ?_
    refine hf_ireturn dX6_takeBack_8 rfl rfl ?_
    exact h
