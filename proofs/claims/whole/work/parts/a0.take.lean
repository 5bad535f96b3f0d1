/-! copies of the past and of the HEAD, ahead of SETTINGS and back -/
set_option maxHeartbeats 4000000 in
theorem w_X6_takeFrom_0_a {X : hf_X} {d k n t : Nat} {T : hf_T} {I : hf_I} {L : hf_L} {P : hf_P} {Q : Option Value → hf_M → Prop}  (hs : hf_Lay t T P) (h : Q none (t, T, (hf_up (hf_up (hf_cp I 149 151 0 0 432) 150 1 (I 148 1)) 150 2 (I 148 2)), L, P)) : hf_G X Y_X6_takeFrom (d + 1) k n 0 (hf_en [.ref 150, .ref 148] 2) [] (t, T, I, L, P) Q := by
  show hf_G X Y_X6_takeFrom (d + 1) k n 0 [some (.ref 150), some (.ref 148)] [] (t, T, I, L, P) Q
  refine hf_aload_n dX6_takeFrom_0 rfl rfl ?_
  refine hf_getr (b := 149) (c := 6) (j := 0) dX6_takeFrom_1 (hs.2.1 148 _ rfl) (hf_lin hs 148 rfl) (by decide) (by decide) hw357 rfl (hs.2.2 148 0 _ rfl) ?_
  refine hf_iconst (v := 0) dX6_takeFrom_4 (by decide) ?_
  refine hf_aload_n dX6_takeFrom_5 rfl rfl ?_
  refine hf_getr (b := 151) (c := 6) (j := 0) dX6_takeFrom_6 (hs.2.1 150 _ rfl) (hf_lin hs 150 rfl) (by decide) (by decide) hw357 rfl (hs.2.2 150 0 _ rfl) ?_
  refine hf_iconst (v := 0) dX6_takeFrom_9 (by decide) ?_
  refine hf_sipush (v := 432) dX6_takeFrom_10 (by decide) ?_
  refine hf_copy (kb := 0) dX6_takeFrom_13 hw675 hw_cpn hw_cps hw_cpi (hs.2.1 149 _ rfl) (hs.2.1 151 _ rfl) (hf_lin hs 149 rfl) (hf_lin hs 151 rfl) (by decide) (by decide) (by decide) (by decide) (by decide) (by decide) (fun q => absurd q (by decide)) (Nat.le_of_ble_eq_true rfl) ?_
  refine hf_aload_n dX6_takeFrom_16 rfl rfl ?_
  refine hf_aload_n dX6_takeFrom_17 rfl rfl ?_
  refine hf_geti (c := 6) (j := 1) dX6_takeFrom_18 (hs.2.1 148 _ rfl) (hf_lin hs 148 rfl) (by decide) (by decide) hw358 (Or.inl rfl) ?_
  refine hf_puti (c := 6) (j := 1) dX6_takeFrom_21 (hs.2.1 150 _ rfl) (hf_lin hs 150 rfl) (by decide) (by decide) hw358 rfl rfl ?_
  refine hf_aload_n dX6_takeFrom_24 rfl rfl ?_
  refine hf_aload_n dX6_takeFrom_25 rfl rfl ?_
  refine hf_geti (c := 6) (j := 2) dX6_takeFrom_26 (hs.2.1 148 _ rfl) (hf_lin hs 148 rfl) (by decide) (by decide) hw359 (Or.inl rfl) ?_
  refine hf_puti (c := 6) (j := 2) dX6_takeFrom_29 (hs.2.1 150 _ rfl) (hf_lin hs 150 rfl) (by decide) (by decide) hw359 rfl rfl ?_
  refine hf_return dX6_takeFrom_32 rfl ?_
  exact h

set_option maxHeartbeats 4000000 in
theorem w_X6_takeFrom_0_b {X : hf_X} {d k n t : Nat} {T : hf_T} {I : hf_I} {L : hf_L} {P : hf_P} {Q : Option Value → hf_M → Prop}  (hs : hf_Lay t T P) (h : Q none (t, T, (hf_up (hf_up (hf_cp I 151 149 0 0 432) 148 1 (I 150 1)) 148 2 (I 150 2)), L, P)) : hf_G X Y_X6_takeFrom (d + 1) k n 0 (hf_en [.ref 148, .ref 150] 2) [] (t, T, I, L, P) Q := by
  show hf_G X Y_X6_takeFrom (d + 1) k n 0 [some (.ref 148), some (.ref 150)] [] (t, T, I, L, P) Q
  refine hf_aload_n dX6_takeFrom_0 rfl rfl ?_
  refine hf_getr (b := 151) (c := 6) (j := 0) dX6_takeFrom_1 (hs.2.1 150 _ rfl) (hf_lin hs 150 rfl) (by decide) (by decide) hw357 rfl (hs.2.2 150 0 _ rfl) ?_
  refine hf_iconst (v := 0) dX6_takeFrom_4 (by decide) ?_
  refine hf_aload_n dX6_takeFrom_5 rfl rfl ?_
  refine hf_getr (b := 149) (c := 6) (j := 0) dX6_takeFrom_6 (hs.2.1 148 _ rfl) (hf_lin hs 148 rfl) (by decide) (by decide) hw357 rfl (hs.2.2 148 0 _ rfl) ?_
  refine hf_iconst (v := 0) dX6_takeFrom_9 (by decide) ?_
  refine hf_sipush (v := 432) dX6_takeFrom_10 (by decide) ?_
  refine hf_copy (kb := 0) dX6_takeFrom_13 hw675 hw_cpn hw_cps hw_cpi (hs.2.1 151 _ rfl) (hs.2.1 149 _ rfl) (hf_lin hs 151 rfl) (hf_lin hs 149 rfl) (by decide) (by decide) (by decide) (by decide) (by decide) (by decide) (fun q => absurd q (by decide)) (Nat.le_of_ble_eq_true rfl) ?_
  refine hf_aload_n dX6_takeFrom_16 rfl rfl ?_
  refine hf_aload_n dX6_takeFrom_17 rfl rfl ?_
  refine hf_geti (c := 6) (j := 1) dX6_takeFrom_18 (hs.2.1 150 _ rfl) (hf_lin hs 150 rfl) (by decide) (by decide) hw358 (Or.inl rfl) ?_
  refine hf_puti (c := 6) (j := 1) dX6_takeFrom_21 (hs.2.1 148 _ rfl) (hf_lin hs 148 rfl) (by decide) (by decide) hw358 rfl rfl ?_
  refine hf_aload_n dX6_takeFrom_24 rfl rfl ?_
  refine hf_aload_n dX6_takeFrom_25 rfl rfl ?_
  refine hf_geti (c := 6) (j := 2) dX6_takeFrom_26 (hs.2.1 150 _ rfl) (hf_lin hs 150 rfl) (by decide) (by decide) hw359 (Or.inl rfl) ?_
  refine hf_puti (c := 6) (j := 2) dX6_takeFrom_29 (hs.2.1 148 _ rfl) (hf_lin hs 148 rfl) (by decide) (by decide) hw359 rfl rfl ?_
  refine hf_return dX6_takeFrom_32 rfl ?_
  exact h

set_option maxHeartbeats 4000000 in
theorem w_X3_takeFrom_0_a {X : hf_X} {d k n t : Nat} {T : hf_T} {I : hf_I} {L : hf_L} {P : hf_P} {Q : Option Value → hf_M → Prop}  (hs : hf_Lay t T P) (h : Q none (t, T, (hf_up (hf_up (hf_cp (hf_cp I 115 153 0 0 12) 116 154 0 0 12) 152 2 (I 114 2)) 152 3 (I 114 3)), L, P)) : hf_G X Y_X3_takeFrom (d + 1) k n 0 (hf_en [.ref 152, .ref 114] 2) [] (t, T, I, L, P) Q := by
  show hf_G X Y_X3_takeFrom (d + 1) k n 0 [some (.ref 152), some (.ref 114)] [] (t, T, I, L, P) Q
  refine hf_aload_n dX3_takeFrom_0 rfl rfl ?_
  refine hf_getr (b := 115) (c := 3) (j := 0) dX3_takeFrom_1 (hs.2.1 114 _ rfl) (hf_lin hs 114 rfl) (by decide) (by decide) hw78 rfl (hs.2.2 114 0 _ rfl) ?_
  refine hf_iconst (v := 0) dX3_takeFrom_4 (by decide) ?_
  refine hf_aload_n dX3_takeFrom_5 rfl rfl ?_
  refine hf_getr (b := 153) (c := 3) (j := 0) dX3_takeFrom_6 (hs.2.1 152 _ rfl) (hf_lin hs 152 rfl) (by decide) (by decide) hw78 rfl (hs.2.2 152 0 _ rfl) ?_
  refine hf_iconst (v := 0) dX3_takeFrom_9 (by decide) ?_
  refine hf_bipush (v := 12) dX3_takeFrom_10 (by decide) ?_
  refine hf_copy (kb := 0) dX3_takeFrom_12 hw680 hw_cpn hw_cps hw_cpi (hs.2.1 115 _ rfl) (hs.2.1 153 _ rfl) (hf_lin hs 115 rfl) (hf_lin hs 153 rfl) (by decide) (by decide) (by decide) (by decide) (by decide) (by decide) (fun q => absurd q (by decide)) (Nat.le_of_ble_eq_true rfl) ?_
  refine hf_aload_n dX3_takeFrom_15 rfl rfl ?_
  refine hf_getr (b := 116) (c := 3) (j := 1) dX3_takeFrom_16 (hs.2.1 114 _ rfl) (hf_lin hs 114 rfl) (by decide) (by decide) hw83 rfl (hs.2.2 114 1 _ rfl) ?_
  refine hf_iconst (v := 0) dX3_takeFrom_19 (by decide) ?_
  refine hf_aload_n dX3_takeFrom_20 rfl rfl ?_
  refine hf_getr (b := 154) (c := 3) (j := 1) dX3_takeFrom_21 (hs.2.1 152 _ rfl) (hf_lin hs 152 rfl) (by decide) (by decide) hw83 rfl (hs.2.2 152 1 _ rfl) ?_
  refine hf_iconst (v := 0) dX3_takeFrom_24 (by decide) ?_
  refine hf_bipush (v := 12) dX3_takeFrom_25 (by decide) ?_
  refine hf_copy (kb := 0) dX3_takeFrom_27 hw680 hw_cpn hw_cps hw_cpi (hs.2.1 116 _ rfl) (hs.2.1 154 _ rfl) (hf_lin hs 116 rfl) (hf_lin hs 154 rfl) (by decide) (by decide) (by decide) (by decide) (by decide) (by decide) (fun q => absurd q (by decide)) (Nat.le_of_ble_eq_true rfl) ?_
  refine hf_aload_n dX3_takeFrom_30 rfl rfl ?_
  refine hf_aload_n dX3_takeFrom_31 rfl rfl ?_
  refine hf_geti (c := 3) (j := 2) dX3_takeFrom_32 (hs.2.1 114 _ rfl) (hf_lin hs 114 rfl) (by decide) (by decide) hw87 (Or.inl rfl) ?_
  refine hf_puti (c := 3) (j := 2) dX3_takeFrom_35 (hs.2.1 152 _ rfl) (hf_lin hs 152 rfl) (by decide) (by decide) hw87 rfl rfl ?_
  refine hf_aload_n dX3_takeFrom_38 rfl rfl ?_
  refine hf_aload_n dX3_takeFrom_39 rfl rfl ?_
  refine hf_geti (c := 3) (j := 3) dX3_takeFrom_40 (hs.2.1 114 _ rfl) (hf_lin hs 114 rfl) (by decide) (by decide) hw92 (Or.inl rfl) ?_
  refine hf_puti (c := 3) (j := 3) dX3_takeFrom_43 (hs.2.1 152 _ rfl) (hf_lin hs 152 rfl) (by decide) (by decide) hw92 rfl rfl ?_
  refine hf_return dX3_takeFrom_46 rfl ?_
  exact h

set_option maxHeartbeats 4000000 in
theorem w_X3_takeFrom_0_b {X : hf_X} {d k n t : Nat} {T : hf_T} {I : hf_I} {L : hf_L} {P : hf_P} {Q : Option Value → hf_M → Prop}  (hs : hf_Lay t T P) (h : Q none (t, T, (hf_up (hf_up (hf_cp (hf_cp I 153 115 0 0 12) 154 116 0 0 12) 114 2 (I 152 2)) 114 3 (I 152 3)), L, P)) : hf_G X Y_X3_takeFrom (d + 1) k n 0 (hf_en [.ref 114, .ref 152] 2) [] (t, T, I, L, P) Q := by
  show hf_G X Y_X3_takeFrom (d + 1) k n 0 [some (.ref 114), some (.ref 152)] [] (t, T, I, L, P) Q
  refine hf_aload_n dX3_takeFrom_0 rfl rfl ?_
  refine hf_getr (b := 153) (c := 3) (j := 0) dX3_takeFrom_1 (hs.2.1 152 _ rfl) (hf_lin hs 152 rfl) (by decide) (by decide) hw78 rfl (hs.2.2 152 0 _ rfl) ?_
  refine hf_iconst (v := 0) dX3_takeFrom_4 (by decide) ?_
  refine hf_aload_n dX3_takeFrom_5 rfl rfl ?_
  refine hf_getr (b := 115) (c := 3) (j := 0) dX3_takeFrom_6 (hs.2.1 114 _ rfl) (hf_lin hs 114 rfl) (by decide) (by decide) hw78 rfl (hs.2.2 114 0 _ rfl) ?_
  refine hf_iconst (v := 0) dX3_takeFrom_9 (by decide) ?_
  refine hf_bipush (v := 12) dX3_takeFrom_10 (by decide) ?_
  refine hf_copy (kb := 0) dX3_takeFrom_12 hw680 hw_cpn hw_cps hw_cpi (hs.2.1 153 _ rfl) (hs.2.1 115 _ rfl) (hf_lin hs 153 rfl) (hf_lin hs 115 rfl) (by decide) (by decide) (by decide) (by decide) (by decide) (by decide) (fun q => absurd q (by decide)) (Nat.le_of_ble_eq_true rfl) ?_
  refine hf_aload_n dX3_takeFrom_15 rfl rfl ?_
  refine hf_getr (b := 154) (c := 3) (j := 1) dX3_takeFrom_16 (hs.2.1 152 _ rfl) (hf_lin hs 152 rfl) (by decide) (by decide) hw83 rfl (hs.2.2 152 1 _ rfl) ?_
  refine hf_iconst (v := 0) dX3_takeFrom_19 (by decide) ?_
  refine hf_aload_n dX3_takeFrom_20 rfl rfl ?_
  refine hf_getr (b := 116) (c := 3) (j := 1) dX3_takeFrom_21 (hs.2.1 114 _ rfl) (hf_lin hs 114 rfl) (by decide) (by decide) hw83 rfl (hs.2.2 114 1 _ rfl) ?_
  refine hf_iconst (v := 0) dX3_takeFrom_24 (by decide) ?_
  refine hf_bipush (v := 12) dX3_takeFrom_25 (by decide) ?_
  refine hf_copy (kb := 0) dX3_takeFrom_27 hw680 hw_cpn hw_cps hw_cpi (hs.2.1 154 _ rfl) (hs.2.1 116 _ rfl) (hf_lin hs 154 rfl) (hf_lin hs 116 rfl) (by decide) (by decide) (by decide) (by decide) (by decide) (by decide) (fun q => absurd q (by decide)) (Nat.le_of_ble_eq_true rfl) ?_
  refine hf_aload_n dX3_takeFrom_30 rfl rfl ?_
  refine hf_aload_n dX3_takeFrom_31 rfl rfl ?_
  refine hf_geti (c := 3) (j := 2) dX3_takeFrom_32 (hs.2.1 152 _ rfl) (hf_lin hs 152 rfl) (by decide) (by decide) hw87 (Or.inl rfl) ?_
  refine hf_puti (c := 3) (j := 2) dX3_takeFrom_35 (hs.2.1 114 _ rfl) (hf_lin hs 114 rfl) (by decide) (by decide) hw87 rfl rfl ?_
  refine hf_aload_n dX3_takeFrom_38 rfl rfl ?_
  refine hf_aload_n dX3_takeFrom_39 rfl rfl ?_
  refine hf_geti (c := 3) (j := 3) dX3_takeFrom_40 (hs.2.1 152 _ rfl) (hf_lin hs 152 rfl) (by decide) (by decide) hw92 (Or.inl rfl) ?_
  refine hf_puti (c := 3) (j := 3) dX3_takeFrom_43 (hs.2.1 114 _ rfl) (hf_lin hs 114 rfl) (by decide) (by decide) hw92 rfl rfl ?_
  refine hf_return dX3_takeFrom_46 rfl ?_
  exact h

