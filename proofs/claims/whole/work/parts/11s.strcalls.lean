section HSM
variable {X : hf_X} {Y : hf_Y} {d k n pc ix : Nat} {l : List (Option Value)} {st : List Value} {Q : Option Value → hf_M → Prop} {t : Nat} {T : hf_T} {I : hf_I} {L : hf_L} {P : hf_P}
/-- length() of a text constant -/
theorem hf_strlen {i : Nat} (hi : i < 12) (hdg : decode Y.2.1 pc = .ok (.invokevirtual ix, 3)) (hw1 : Cond.methodLink Y.1.cls ix yJ0_length_8abf5 ∈ hf_tb) (hroom : (st.map fun v => v.category).sum ≤ 8) (h : hf_G X Y (d + 2) k n (pc + 3) l (.int (Int32.ofNat (hf_sln.getD i 0)) :: st) (t, T, I, L, P) Q) : hf_G X Y (d + 2) k n pc l (.ref (1 + i) :: st) (t, T, I, L, P) Q := by
  refine hf_callVs (i := i) (as := []) hi ok_J0_length_8abf5 hdg hw1 hw562 hw563 rfl (Nat.le_of_ble_eq_true rfl) rfl hroom ?_
  show hf_G X Y_J0_length_8abf5 (d + 1) 0 0 0 [some (.ref (1 + i))] [] (t, T, I, L, P) _
  refine hf_aload_n dJ0_length_8abf5_0 rfl rfl ?_
  refine hf_sval hi dJ0_length_8abf5_1 hw1551 ?_
  refine hf_sbl hi dJ0_length_8abf5_4 ?_
  refine hf_aload_n dJ0_length_8abf5_5 rfl rfl ?_
  refine hf_callVs (i := i) (as := []) hi ok_J0_coder_7d493 dJ0_length_8abf5_6 hw565 hw566 hw567 rfl (Nat.le_of_ble_eq_true rfl) rfl (Nat.le_of_ble_eq_true rfl) ?_
  show hf_G X Y_J0_coder_7d493 d 0 0 0 [some (.ref (1 + i))] [] (t, T, I, L, P) _
  refine hf_gcs dJ0_coder_7d493_0 hw569 ?_
  refine hf_if_eq (tgt := 13) dJ0_coder_7d493_3 (by decide) (fun hc => absurd hc (by decide)) (fun _ => ?_)
  refine hf_aload_n dJ0_coder_7d493_6 rfl rfl ?_
  refine hf_scod hi dJ0_coder_7d493_7 hw1552 ?_
  refine hf_goto (tgt := 14) dJ0_coder_7d493_10 (by decide) ?_
  refine hf_ireturn dJ0_coder_7d493_14 rfl (by decide) ?_
  show hf_G X Y_J0_length_8abf5 (d + 1) 0 0 9 [some (.ref (1 + i))] [.int 0, .int (Int32.ofNat (hf_sln.getD i 0))] (t, T, I, L, P) _
  refine hf_ishr dJ0_length_8abf5_9 ?_
  refine hf_ireturn dJ0_length_8abf5_10 rfl rfl ?_
  rw [sb_shr0]
  exact h
/-- charAt(x) of a text constant -/
theorem hf_strchar {i : Nat} {x : Int32} (hi : i < 12) (hx0 : ¬ x < 0) (hxl : x < Int32.ofNat (hf_sln.getD i 0)) (hin : vp_in x (hf_sln.getD i 0)) (hdg : decode Y.2.1 pc = .ok (.invokevirtual ix, 3)) (hw1 : Cond.methodLink Y.1.cls ix yJ0_charAt_5068e ∈ hf_tb) (hroom : (st.map fun v => v.category).sum ≤ 8) (h : hf_G X Y (d + 4) k n (pc + 3) l (.int (((hf_sby.getD i []).getD x.toNatClampNeg 0) &&& 255) :: st) (t, T, I, L, P) Q) : hf_G X Y (d + 4) k n pc l (.int x :: .ref (1 + i) :: st) (t, T, I, L, P) Q := by
  refine hf_callVs (i := i) (as := [.int x]) hi ok_J0_charAt_5068e hdg hw1 hw571 hw572 rfl (Nat.le_of_ble_eq_true rfl) rfl hroom ?_
  show hf_G X Y_J0_charAt_5068e (d + 3) 0 0 0 [some (.ref (1 + i)), some (.int x)] [] (t, T, I, L, P) _
  refine hf_aload_n dJ0_charAt_5068e_0 rfl rfl ?_
  refine hf_callVs (i := i) (as := []) hi ok_J0_isLatin1_aae02 dJ0_charAt_5068e_1 hw574 hw575 hw576 rfl (Nat.le_of_ble_eq_true rfl) rfl (Nat.le_of_ble_eq_true rfl) ?_
  show hf_G X Y_J0_isLatin1_aae02 (d + 2) 0 0 0 [some (.ref (1 + i))] [] (t, T, I, L, P) _
  refine hf_gcs dJ0_isLatin1_aae02_0 hw569 ?_
  refine hf_if_eq (tgt := 17) dJ0_isLatin1_aae02_3 (by decide) (fun hc => absurd hc (by decide)) (fun _ => ?_)
  refine hf_aload_n dJ0_isLatin1_aae02_6 rfl rfl ?_
  refine hf_scod hi dJ0_isLatin1_aae02_7 hw1552 ?_
  refine hf_if_ne (tgt := 17) dJ0_isLatin1_aae02_10 (by decide) (fun hc => absurd rfl hc) (fun _ => ?_)
  refine hf_iconst (v := 1) dJ0_isLatin1_aae02_13 (by decide) ?_
  refine hf_goto (tgt := 18) dJ0_isLatin1_aae02_14 (by decide) ?_
  refine hf_ireturn dJ0_isLatin1_aae02_18 rfl (by decide) ?_
  show hf_G X Y_J0_charAt_5068e (d + 3) 0 0 4 [some (.ref (1 + i)), some (.int x)] [.int 1] (t, T, I, L, P) _
  refine hf_if_eq (tgt := 16) dJ0_charAt_5068e_4 (by decide) (fun hc => absurd hc (by decide)) (fun _ => ?_)
  refine hf_aload_n dJ0_charAt_5068e_7 rfl rfl ?_
  refine hf_sval hi dJ0_charAt_5068e_8 hw1551 ?_
  refine hf_iload_n dJ0_charAt_5068e_11 rfl rfl ?_
  refine hf_callS (as := [.ref (21 + i), .int x]) ok_J1_charAt_3b067 dJ0_charAt_5068e_12 hw578 hw579 rfl (Nat.le_of_ble_eq_true rfl) rfl (Nat.le_of_ble_eq_true rfl) (Nat.zero_le _) (Nat.zero_le _) ?_
  show hf_G X Y_J1_charAt_3b067 (d + 2) 0 0 0 [some (.ref (21 + i)), some (.int x)] [] (t, T, I, L, P) _
  refine hf_iload_n dJ1_charAt_3b067_0 rfl rfl ?_
  refine hf_aload_n dJ1_charAt_3b067_1 rfl rfl ?_
  refine hf_sbl hi dJ1_charAt_3b067_2 ?_
  refine hf_callS (as := [.int x, .int (Int32.ofNat (hf_sln.getD i 0))]) ok_J0_checkIndex_df160 dJ1_charAt_3b067_3 hw581 hw582 rfl (Nat.le_of_ble_eq_true rfl) rfl (Nat.le_of_ble_eq_true rfl) (Nat.zero_le _) (Nat.zero_le _) ?_
  show hf_G X Y_J0_checkIndex_df160 (d + 1) 0 0 0 [some (.int x), some (.int (Int32.ofNat (hf_sln.getD i 0)))] [] (t, T, I, L, P) _
  refine hf_iload_n dJ0_checkIndex_df160_0 rfl rfl ?_
  refine hf_iload_n dJ0_checkIndex_df160_1 rfl rfl ?_
  have hend : hf_G X Y_J1_charAt_3b067 (d + 2) 0 0 6 [some (.ref (21 + i)), some (.int x)] [] (t, T, I, L, P) (fun r M' => hf_G X Y_J0_charAt_5068e (d + 3) 0 0 15 [some (.ref (1 + i)), some (.int x)] (r.toList ++ []) M' (fun r M' => hf_G X Y (d + 4) k n (pc + 3) l (r.toList ++ st) M' Q)) := by
    refine hf_aload_n dJ1_charAt_3b067_6 rfl rfl ?_
    refine hf_iload_n dJ1_charAt_3b067_7 rfl rfl ?_
    refine hf_sbld hi hin dJ1_charAt_3b067_8 ?_
    refine hf_sipush (v := 255) dJ1_charAt_3b067_9 (by decide) ?_
    refine hf_iand dJ1_charAt_3b067_12 ?_
    refine hf_i2c dJ1_charAt_3b067_13 ?_
    rw [sc_c2]
    refine hf_ireturn dJ1_charAt_3b067_14 rfl (sc_nar _) ?_
    show hf_G X Y_J0_charAt_5068e (d + 3) 0 0 15 [some (.ref (1 + i)), some (.int x)] [.int (((hf_sby.getD i []).getD x.toNatClampNeg 0) &&& 255)] (t, T, I, L, P) _
    refine hf_ireturn dJ0_charAt_5068e_15 rfl (sc_nar _) ?_
    exact h
  refine hf_gsf dJ0_checkIndex_df160_2 hw584 ?_ ?_
  · refine hf_callS (as := [.int x, .int (Int32.ofNat (hf_sln.getD i 0)), .ref 40]) ok_J3_checkIndex_8e157 dJ0_checkIndex_df160_5 hw585 hw586 rfl (Nat.le_of_ble_eq_true rfl) rfl (Nat.le_of_ble_eq_true rfl) (Nat.zero_le _) (Nat.zero_le _) ?_
    show hf_G X Y_J3_checkIndex_8e157 d 0 0 0 [some (.int x), some (.int (Int32.ofNat (hf_sln.getD i 0))), some (.ref 40)] [] (t, T, I, L, P) _
    refine hf_iload_n dJ3_checkIndex_8e157_0 rfl rfl ?_
    refine hf_if_lt (tgt := 9) dJ3_checkIndex_8e157_1 (by decide) (fun hc => absurd hc hx0) (fun _ => ?_)
    refine hf_iload_n dJ3_checkIndex_8e157_4 rfl rfl ?_
    refine hf_iload_n dJ3_checkIndex_8e157_5 rfl rfl ?_
    refine hf_icmp_lt (tgt := 16) dJ3_checkIndex_8e157_6 (by decide) (fun _ => ?_) (fun hc => absurd hxl hc)
    refine hf_iload_n dJ3_checkIndex_8e157_16 rfl rfl ?_
    refine hf_ireturn dJ3_checkIndex_8e157_17 rfl rfl ?_
    show hf_G X Y_J0_checkIndex_df160 (d + 1) 0 0 8 [some (.int x), some (.int (Int32.ofNat (hf_sln.getD i 0)))] [.int x] (t, T, I, L, P) _
    refine hf_pop dJ0_checkIndex_df160_8 rfl ?_
    refine hf_return dJ0_checkIndex_df160_9 rfl ?_
    exact hend
  · refine hf_callS (as := [.int x, .int (Int32.ofNat (hf_sln.getD i 0)), .null]) ok_J3_checkIndex_8e157 dJ0_checkIndex_df160_5 hw585 hw586 rfl (Nat.le_of_ble_eq_true rfl) rfl (Nat.le_of_ble_eq_true rfl) (Nat.zero_le _) (Nat.zero_le _) ?_
    show hf_G X Y_J3_checkIndex_8e157 d 0 0 0 [some (.int x), some (.int (Int32.ofNat (hf_sln.getD i 0))), some (.null)] [] (t, T, I, L, P) _
    refine hf_iload_n dJ3_checkIndex_8e157_0 rfl rfl ?_
    refine hf_if_lt (tgt := 9) dJ3_checkIndex_8e157_1 (by decide) (fun hc => absurd hc hx0) (fun _ => ?_)
    refine hf_iload_n dJ3_checkIndex_8e157_4 rfl rfl ?_
    refine hf_iload_n dJ3_checkIndex_8e157_5 rfl rfl ?_
    refine hf_icmp_lt (tgt := 16) dJ3_checkIndex_8e157_6 (by decide) (fun _ => ?_) (fun hc => absurd hxl hc)
    refine hf_iload_n dJ3_checkIndex_8e157_16 rfl rfl ?_
    refine hf_ireturn dJ3_checkIndex_8e157_17 rfl rfl ?_
    show hf_G X Y_J0_checkIndex_df160 (d + 1) 0 0 8 [some (.int x), some (.int (Int32.ofNat (hf_sln.getD i 0)))] [.int x] (t, T, I, L, P) _
    refine hf_pop dJ0_checkIndex_df160_8 rfl ?_
    refine hf_return dJ0_checkIndex_df160_9 rfl ?_
    exact hend
end HSM
