/-! new desks, new TEXTS -/
theorem nI_mx0 {z : Nat} (hz : z < 2 ^ 31) : (if (0 : Int32) < nI z then nI z else 0) = nI z := by
  by_cases h : z = 0
  · subst h
    rfl
  · rw [if_pos (show (0 : Int32) < nI z from nI_lt (a := 0) (by omega) hz)]
theorem jk_up {T : hf_T} {I : hf_I} {L : hf_L} {P : hf_P} {a b i : Nat} {v : Int32} {q : Nat × Nat} (hab : ¬ a = b) (h : jk_nw T I L P a q) : jk_nw T (hf_up I b i v) L P a q := ⟨h.1, (hf_up_no hab).trans h.2.1, h.2.2⟩
theorem hf_upP_no {P : hf_P} {a j b : Nat} {v : Option Nat} (h : ¬ b = a) : hf_upP P a j v b = P b := if_neg h
theorem jk_upP {T : hf_T} {I : hf_I} {L : hf_L} {P : hf_P} {a b i : Nat} {v : Option Nat} {q : Nat × Nat} (hab : ¬ a = b) (h : jk_nw T I L P a q) : jk_nw T I L (hf_upP P b i v) a q := ⟨h.1, h.2.1, h.2.2.1, (hf_upP_no hab).trans h.2.2.2⟩
def bs (j : Nat) : Nat × Nat := hf_sTl.getD (j + 1) (0, 0)
def xs (z m j : Nat) : Nat × Nat := [(9, 0), (100, z), (100, m), (100, m), (100, m), (100, m), (100, m)].getD j (0, 0)
set_option maxHeartbeats 4000000 in
theorem w_X1_init_0_n {X : hf_X} {d t : Nat} {T : hf_T} {I : hf_I} {L : hf_L} {P : hf_P} {Q : Option Value → hf_M → Prop}  {db : Nat} (hdb : db + 1 = 100 + t) (h1 : 1 ≤ t) (ht : ∀ j, j < 20 → T (db + j) = bs j) (hN : ∀ j, 1 ≤ j → j < 20 → jk_nw T I L P (db + j) (bs j)) (h : hf_G X Y_X1_init (d + 2) 0 0 148 [some (.ref db), some (.int 0)] [] ((((((((((((((((((((t + 1) + 1) + 1) + 1) + 1) + 1) + 1) + 1) + 1) + 1) + 1) + 1) + 1) + 1) + 1) + 1) + 1) + 1) + 1), T, (hf_up (hf_up (hf_up (hf_up (hf_up (hf_up (hf_up (hf_up (hf_up (hf_up (hf_up I (db + 4) 5 0) (db + 13) 2 0) (db + 13) 3 0) db 12 100) db 13 3) db 14 0) db 15 0) db 16 (-1)) db 17 0) db 18 0) db 19 0), L, (hf_upP (hf_upP (hf_upP (hf_upP (hf_upP (hf_upP (hf_upP (hf_upP (hf_upP (hf_upP (hf_upP (hf_upP (hf_upP (hf_upP (hf_upP (hf_upP (hf_upP (hf_upP (hf_upP P db 0 (some (db + 1))) db 1 (some (db + 2))) db 2 (some (db + 3))) (db + 4) 0 (some (db + 5))) (db + 4) 1 (some (db + 6))) (db + 4) 2 (some (db + 7))) (db + 4) 3 (some (db + 8))) (db + 4) 4 (some (db + 9))) db 3 (some (db + 4))) db 4 (some (db + 10))) db 5 (some (db + 11))) db 6 (some (db + 12))) (db + 13) 0 (some (db + 14))) (db + 13) 1 (some (db + 15))) db 7 (some (db + 13))) db 8 (some (db + 16))) db 9 (some (db + 17))) db 10 (some (db + 18))) db 11 (some (db + 19)))) Q) : hf_G X Y_X1_init (d + 2) 19 327 0 (hf_en [.ref db] 2) [] (t, T, I, L, P) Q := by
  show hf_G X Y_X1_init (d + 2) 19 327 0 [some (.ref db), none] [] (t, T, I, L, P) Q
  refine hf_aload_n dX1_init_0 rfl rfl ?_
  refine hf_objInit dX1_init_1 hw36 hw29 hf_obj (by decide) ?_
  refine hf_aload_n dX1_init_4 rfl rfl ?_
  refine hf_bipush (v := 27) dX1_init_5 (by decide) ?_
  refine hf_newa_p (k := 18) (n := 300) (z := 27) (zm := 27) (kd := 100) (a := (db + 1)) (by omega) dX1_init_7 hw70 (Or.inl ⟨rfl, rfl⟩) (by decide) rfl (Nat.le_refl _) (by decide) (hN 1 (by decide) (by decide)) ?_
  refine hf_putr (c := 1) (j := 0) dX1_init_9 (show T db = (1, 0) from ht 0 (by decide)) (by omega) (by decide) (by decide) hw99 (Or.inr ⟨rfl, rfl, rfl⟩) rfl ?_
  replace hN : ∀ j, 2 ≤ j → j < 20 → jk_nw T I L (hf_upP P db 0 (some (db + 1))) (db + j) (bs j) := fun j h1 h2 => jk_upP (by omega) (hN j (by omega) h2)
  refine hf_aload_n dX1_init_12 rfl rfl ?_
  refine hf_bipush (v := 8) dX1_init_13 (by decide) ?_
  refine hf_newa_p (k := 17) (n := 292) (z := 8) (zm := 8) (kd := 100) (a := (db + 2)) (by omega) dX1_init_15 hw70 (Or.inl ⟨rfl, rfl⟩) (by decide) rfl (Nat.le_refl _) (by decide) (hN 2 (by decide) (by decide)) ?_
  refine hf_putr (c := 1) (j := 1) dX1_init_17 (show T db = (1, 0) from ht 0 (by decide)) (by omega) (by decide) (by decide) hw101 (Or.inr ⟨rfl, rfl, rfl⟩) rfl ?_
  replace hN : ∀ j, 3 ≤ j → j < 20 → jk_nw T I L (hf_upP (hf_upP P db 0 (some (db + 1))) db 1 (some (db + 2))) (db + j) (bs j) := fun j h1 h2 => jk_upP (by omega) (hN j (by omega) h2)
  refine hf_aload_n dX1_init_20 rfl rfl ?_
  refine hf_iconst (v := 2) dX1_init_21 (by decide) ?_
  refine hf_newa_p (k := 16) (n := 290) (z := 2) (zm := 2) (kd := 100) (a := (db + 3)) (by omega) dX1_init_22 hw70 (Or.inl ⟨rfl, rfl⟩) (by decide) rfl (Nat.le_refl _) (by decide) (hN 3 (by decide) (by decide)) ?_
  refine hf_putr (c := 1) (j := 2) dX1_init_24 (show T db = (1, 0) from ht 0 (by decide)) (by omega) (by decide) (by decide) hw104 (Or.inr ⟨rfl, rfl, rfl⟩) rfl ?_
  replace hN : ∀ j, 4 ≤ j → j < 20 → jk_nw T I L (hf_upP (hf_upP (hf_upP P db 0 (some (db + 1))) db 1 (some (db + 2))) db 2 (some (db + 3))) (db + j) (bs j) := fun j h1 h2 => jk_upP (by omega) (hN j (by omega) h2)
  refine hf_aload_n dX1_init_27 rfl rfl ?_
  refine hf_new_p (c := 10) (k := 15) (n := 284) (m := 6) (a := (db + 4)) (by omega) (by decide +kernel) dX1_init_28 (by decide) hw37 hw38 hw4 (hN 4 (by decide) (by decide)) ?_
  refine hf_dup dX1_init_31 rfl ?_
  refine hf_callIN (host := RX11) (k1 := 5) (n1 := 208) (as := []) ok_X10_init rfl rfl dX1_init_32 (by decide +kernel) hw39 rfl (Nat.le_of_ble_eq_true rfl) rfl (Nat.le_of_ble_eq_true rfl) (by decide) (by decide) ?_
  show hf_G X Y_X10_init (d + 1) _ _ 0 [some (.ref (db + 4))] [] (((((t + 1) + 1) + 1) + 1), T, I, L, (hf_upP (hf_upP (hf_upP P db 0 (some (db + 1))) db 1 (some (db + 2))) db 2 (some (db + 3)))) _
  refine hf_aload_n dX10_init_0 rfl rfl ?_
  refine hf_objInit dX10_init_1 hw41 hw29 hf_obj (by decide) ?_
  refine hf_aload_n dX10_init_4 rfl rfl ?_
  refine hf_bipush (v := 16) dX10_init_5 (by decide) ?_
  refine hf_newa_p (k := 4) (n := 192) (z := 16) (zm := 16) (kd := 100) (a := (db + 5)) (by omega) dX10_init_7 hw70 (Or.inl ⟨rfl, rfl⟩) (by decide) rfl (Nat.le_refl _) (by decide) (hN 5 (by decide) (by decide)) ?_
  refine hf_putr (c := 10) (j := 0) dX10_init_9 (show T (db + 4) = (10, 0) from ht 4 (by decide)) (by omega) (by decide) (by decide) hw42 (Or.inr ⟨rfl, rfl, rfl⟩) rfl ?_
  replace hN : ∀ j, 6 ≤ j → j < 20 → jk_nw T I L (hf_upP (hf_upP (hf_upP (hf_upP P db 0 (some (db + 1))) db 1 (some (db + 2))) db 2 (some (db + 3))) (db + 4) 0 (some (db + 5))) (db + j) (bs j) := fun j h1 h2 => jk_upP (by omega) (hN j (by omega) h2)
  refine hf_aload_n dX10_init_12 rfl rfl ?_
  refine hf_bipush (v := 16) dX10_init_13 (by decide) ?_
  refine hf_newa_p (k := 3) (n := 176) (z := 16) (zm := 16) (kd := 100) (a := (db + 6)) (by omega) dX10_init_15 hw70 (Or.inl ⟨rfl, rfl⟩) (by decide) rfl (Nat.le_refl _) (by decide) (hN 6 (by decide) (by decide)) ?_
  refine hf_putr (c := 10) (j := 1) dX10_init_17 (show T (db + 4) = (10, 0) from ht 4 (by decide)) (by omega) (by decide) (by decide) hw47 (Or.inr ⟨rfl, rfl, rfl⟩) rfl ?_
  replace hN : ∀ j, 7 ≤ j → j < 20 → jk_nw T I L (hf_upP (hf_upP (hf_upP (hf_upP (hf_upP P db 0 (some (db + 1))) db 1 (some (db + 2))) db 2 (some (db + 3))) (db + 4) 0 (some (db + 5))) (db + 4) 1 (some (db + 6))) (db + j) (bs j) := fun j h1 h2 => jk_upP (by omega) (hN j (by omega) h2)
  refine hf_aload_n dX10_init_20 rfl rfl ?_
  refine hf_bipush (v := 16) dX10_init_21 (by decide) ?_
  refine hf_newa_p (k := 2) (n := 160) (z := 16) (zm := 16) (kd := 100) (a := (db + 7)) (by omega) dX10_init_23 hw70 (Or.inl ⟨rfl, rfl⟩) (by decide) rfl (Nat.le_refl _) (by decide) (hN 7 (by decide) (by decide)) ?_
  refine hf_putr (c := 10) (j := 2) dX10_init_25 (show T (db + 4) = (10, 0) from ht 4 (by decide)) (by omega) (by decide) (by decide) hw50 (Or.inr ⟨rfl, rfl, rfl⟩) rfl ?_
  replace hN : ∀ j, 8 ≤ j → j < 20 → jk_nw T I L (hf_upP (hf_upP (hf_upP (hf_upP (hf_upP (hf_upP P db 0 (some (db + 1))) db 1 (some (db + 2))) db 2 (some (db + 3))) (db + 4) 0 (some (db + 5))) (db + 4) 1 (some (db + 6))) (db + 4) 2 (some (db + 7))) (db + j) (bs j) := fun j h1 h2 => jk_upP (by omega) (hN j (by omega) h2)
  refine hf_aload_n dX10_init_28 rfl rfl ?_
  refine hf_bipush (v := 16) dX10_init_29 (by decide) ?_
  refine hf_newa_p (k := 1) (n := 144) (z := 16) (zm := 16) (kd := 100) (a := (db + 8)) (by omega) dX10_init_31 hw70 (Or.inl ⟨rfl, rfl⟩) (by decide) rfl (Nat.le_refl _) (by decide) (hN 8 (by decide) (by decide)) ?_
  refine hf_putr (c := 10) (j := 3) dX10_init_33 (show T (db + 4) = (10, 0) from ht 4 (by decide)) (by omega) (by decide) (by decide) hw55 (Or.inr ⟨rfl, rfl, rfl⟩) rfl ?_
  replace hN : ∀ j, 9 ≤ j → j < 20 → jk_nw T I L (hf_upP (hf_upP (hf_upP (hf_upP (hf_upP (hf_upP (hf_upP P db 0 (some (db + 1))) db 1 (some (db + 2))) db 2 (some (db + 3))) (db + 4) 0 (some (db + 5))) (db + 4) 1 (some (db + 6))) (db + 4) 2 (some (db + 7))) (db + 4) 3 (some (db + 8))) (db + j) (bs j) := fun j h1 h2 => jk_upP (by omega) (hN j (by omega) h2)
  refine hf_aload_n dX10_init_36 rfl rfl ?_
  refine hf_sipush (v := 144) dX10_init_37 (by decide) ?_
  refine hf_newa_p (k := 0) (n := 0) (z := 144) (zm := 144) (kd := 101) (a := (db + 9)) (by omega) dX10_init_40 hw71 (Or.inr (Or.inl ⟨rfl, rfl⟩)) (by decide) rfl (Nat.le_refl _) (by decide) (hN 9 (by decide) (by decide)) ?_
  refine hf_putr (c := 10) (j := 4) dX10_init_42 (show T (db + 4) = (10, 0) from ht 4 (by decide)) (by omega) (by decide) (by decide) hw59 (Or.inr ⟨rfl, rfl, rfl⟩) rfl ?_
  replace hN : ∀ j, 10 ≤ j → j < 20 → jk_nw T I L (hf_upP (hf_upP (hf_upP (hf_upP (hf_upP (hf_upP (hf_upP (hf_upP P db 0 (some (db + 1))) db 1 (some (db + 2))) db 2 (some (db + 3))) (db + 4) 0 (some (db + 5))) (db + 4) 1 (some (db + 6))) (db + 4) 2 (some (db + 7))) (db + 4) 3 (some (db + 8))) (db + 4) 4 (some (db + 9))) (db + j) (bs j) := fun j h1 h2 => jk_upP (by omega) (hN j (by omega) h2)
  refine hf_aload_n dX10_init_45 rfl rfl ?_
  refine hf_iconst (v := 0) dX10_init_46 (by decide) ?_
  refine hf_puti (c := 10) (j := 5) dX10_init_47 (show T (db + 4) = (10, 0) from ht 4 (by decide)) (by omega) (by decide) (by decide) hw61 rfl rfl ?_
  replace hN : ∀ j, 10 ≤ j → j < 20 → jk_nw T (hf_up I (db + 4) 5 0) L (hf_upP (hf_upP (hf_upP (hf_upP (hf_upP (hf_upP (hf_upP (hf_upP P db 0 (some (db + 1))) db 1 (some (db + 2))) db 2 (some (db + 3))) (db + 4) 0 (some (db + 5))) (db + 4) 1 (some (db + 6))) (db + 4) 2 (some (db + 7))) (db + 4) 3 (some (db + 8))) (db + 4) 4 (some (db + 9))) (db + j) (bs j) := fun j h1 h2 => jk_up (by omega) (hN j (by omega) h2)
  refine hf_return dX10_init_50 rfl ?_
  show hf_G X Y_X1_init (d + 2) _ _ 35 [some (.ref db), none] [.ref (db + 4), .ref db] ((((((((((t + 1) + 1) + 1) + 1) + 1) + 1) + 1) + 1) + 1), T, (hf_up I (db + 4) 5 0), L, (hf_upP (hf_upP (hf_upP (hf_upP (hf_upP (hf_upP (hf_upP (hf_upP P db 0 (some (db + 1))) db 1 (some (db + 2))) db 2 (some (db + 3))) (db + 4) 0 (some (db + 5))) (db + 4) 1 (some (db + 6))) (db + 4) 2 (some (db + 7))) (db + 4) 3 (some (db + 8))) (db + 4) 4 (some (db + 9)))) _
  refine hf_putr (c := 1) (j := 3) dX1_init_35 (show T db = (1, 0) from ht 0 (by decide)) (by omega) (by decide) (by decide) hw107 (Or.inr ⟨rfl, rfl, rfl⟩) rfl ?_
  replace hN : ∀ j, 10 ≤ j → j < 20 → jk_nw T (hf_up I (db + 4) 5 0) L (hf_upP (hf_upP (hf_upP (hf_upP (hf_upP (hf_upP (hf_upP (hf_upP (hf_upP P db 0 (some (db + 1))) db 1 (some (db + 2))) db 2 (some (db + 3))) (db + 4) 0 (some (db + 5))) (db + 4) 1 (some (db + 6))) (db + 4) 2 (some (db + 7))) (db + 4) 3 (some (db + 8))) (db + 4) 4 (some (db + 9))) db 3 (some (db + 4))) (db + j) (bs j) := fun j h1 h2 => jk_upP (by omega) (hN j (by omega) h2)
  refine hf_aload_n dX1_init_38 rfl rfl ?_
  refine hf_bipush (v := 6) dX1_init_39 (by decide) ?_
  refine hf_newq_p (k := 9) (n := 70) (z := 6) (kd := 105) (a := (db + 10)) (by omega) dX1_init_41 hw72 (Or.inr ⟨rfl, rfl⟩) (by decide) rfl (by decide) (hN 10 (by decide) (by decide)) ?_
  refine hf_putr (c := 1) (j := 4) dX1_init_44 (show T db = (1, 0) from ht 0 (by decide)) (by omega) (by decide) (by decide) hw112 (Or.inr ⟨rfl, rfl, rfl⟩) rfl ?_
  replace hN : ∀ j, 11 ≤ j → j < 20 → jk_nw T (hf_up I (db + 4) 5 0) L (hf_upP (hf_upP (hf_upP (hf_upP (hf_upP (hf_upP (hf_upP (hf_upP (hf_upP (hf_upP P db 0 (some (db + 1))) db 1 (some (db + 2))) db 2 (some (db + 3))) (db + 4) 0 (some (db + 5))) (db + 4) 1 (some (db + 6))) (db + 4) 2 (some (db + 7))) (db + 4) 3 (some (db + 8))) (db + 4) 4 (some (db + 9))) db 3 (some (db + 4))) db 4 (some (db + 10))) (db + j) (bs j) := fun j h1 h2 => jk_upP (by omega) (hN j (by omega) h2)
  refine hf_aload_n dX1_init_47 rfl rfl ?_
  refine hf_bipush (v := 6) dX1_init_48 (by decide) ?_
  refine hf_newa_p (k := 8) (n := 64) (z := 6) (zm := 6) (kd := 100) (a := (db + 11)) (by omega) dX1_init_50 hw70 (Or.inl ⟨rfl, rfl⟩) (by decide) rfl (Nat.le_refl _) (by decide) (hN 11 (by decide) (by decide)) ?_
  refine hf_putr (c := 1) (j := 5) dX1_init_52 (show T db = (1, 0) from ht 0 (by decide)) (by omega) (by decide) (by decide) hw115 (Or.inr ⟨rfl, rfl, rfl⟩) rfl ?_
  replace hN : ∀ j, 12 ≤ j → j < 20 → jk_nw T (hf_up I (db + 4) 5 0) L (hf_upP (hf_upP (hf_upP (hf_upP (hf_upP (hf_upP (hf_upP (hf_upP (hf_upP (hf_upP (hf_upP P db 0 (some (db + 1))) db 1 (some (db + 2))) db 2 (some (db + 3))) (db + 4) 0 (some (db + 5))) (db + 4) 1 (some (db + 6))) (db + 4) 2 (some (db + 7))) (db + 4) 3 (some (db + 8))) (db + 4) 4 (some (db + 9))) db 3 (some (db + 4))) db 4 (some (db + 10))) db 5 (some (db + 11))) (db + j) (bs j) := fun j h1 h2 => jk_upP (by omega) (hN j (by omega) h2)
  refine hf_aload_n dX1_init_55 rfl rfl ?_
  refine hf_iconst (v := 4) dX1_init_56 (by decide) ?_
  refine hf_newa_p (k := 7) (n := 60) (z := 4) (zm := 4) (kd := 100) (a := (db + 12)) (by omega) dX1_init_57 hw70 (Or.inl ⟨rfl, rfl⟩) (by decide) rfl (Nat.le_refl _) (by decide) (hN 12 (by decide) (by decide)) ?_
  refine hf_putr (c := 1) (j := 6) dX1_init_59 (show T db = (1, 0) from ht 0 (by decide)) (by omega) (by decide) (by decide) hw118 (Or.inr ⟨rfl, rfl, rfl⟩) rfl ?_
  replace hN : ∀ j, 13 ≤ j → j < 20 → jk_nw T (hf_up I (db + 4) 5 0) L (hf_upP (hf_upP (hf_upP (hf_upP (hf_upP (hf_upP (hf_upP (hf_upP (hf_upP (hf_upP (hf_upP (hf_upP P db 0 (some (db + 1))) db 1 (some (db + 2))) db 2 (some (db + 3))) (db + 4) 0 (some (db + 5))) (db + 4) 1 (some (db + 6))) (db + 4) 2 (some (db + 7))) (db + 4) 3 (some (db + 8))) (db + 4) 4 (some (db + 9))) db 3 (some (db + 4))) db 4 (some (db + 10))) db 5 (some (db + 11))) db 6 (some (db + 12))) (db + j) (bs j) := fun j h1 h2 => jk_upP (by omega) (hN j (by omega) h2)
  refine hf_aload_n dX1_init_62 rfl rfl ?_
  refine hf_new_p (c := 3) (k := 6) (n := 56) (m := 4) (a := (db + 13)) (by omega) (by decide +kernel) dX1_init_63 (by decide) hw73 hw74 hw5 (hN 13 (by decide) (by decide)) ?_
  refine hf_dup dX1_init_66 rfl ?_
  refine hf_callIN (host := RX11) (k1 := 2) (n1 := 24) (as := []) ok_X3_init rfl rfl dX1_init_67 (by decide +kernel) hw75 rfl (Nat.le_of_ble_eq_true rfl) rfl (Nat.le_of_ble_eq_true rfl) (by decide) (by decide) ?_
  show hf_G X Y_X3_init (d + 1) _ _ 0 [some (.ref (db + 13))] [] ((((((((((((((t + 1) + 1) + 1) + 1) + 1) + 1) + 1) + 1) + 1) + 1) + 1) + 1) + 1), T, (hf_up I (db + 4) 5 0), L, (hf_upP (hf_upP (hf_upP (hf_upP (hf_upP (hf_upP (hf_upP (hf_upP (hf_upP (hf_upP (hf_upP (hf_upP P db 0 (some (db + 1))) db 1 (some (db + 2))) db 2 (some (db + 3))) (db + 4) 0 (some (db + 5))) (db + 4) 1 (some (db + 6))) (db + 4) 2 (some (db + 7))) (db + 4) 3 (some (db + 8))) (db + 4) 4 (some (db + 9))) db 3 (some (db + 4))) db 4 (some (db + 10))) db 5 (some (db + 11))) db 6 (some (db + 12)))) _
  refine hf_aload_n dX3_init_0 rfl rfl ?_
  refine hf_objInit dX3_init_1 hw77 hw29 hf_obj (by decide) ?_
  refine hf_aload_n dX3_init_4 rfl rfl ?_
  refine hf_bipush (v := 12) dX3_init_5 (by decide) ?_
  refine hf_newa_p (k := 1) (n := 12) (z := 12) (zm := 12) (kd := 100) (a := (db + 14)) (by omega) dX3_init_7 hw70 (Or.inl ⟨rfl, rfl⟩) (by decide) rfl (Nat.le_refl _) (by decide) (hN 14 (by decide) (by decide)) ?_
  refine hf_putr (c := 3) (j := 0) dX3_init_9 (show T (db + 13) = (3, 0) from ht 13 (by decide)) (by omega) (by decide) (by decide) hw78 (Or.inr ⟨rfl, rfl, rfl⟩) rfl ?_
  replace hN : ∀ j, 15 ≤ j → j < 20 → jk_nw T (hf_up I (db + 4) 5 0) L (hf_upP (hf_upP (hf_upP (hf_upP (hf_upP (hf_upP (hf_upP (hf_upP (hf_upP (hf_upP (hf_upP (hf_upP (hf_upP P db 0 (some (db + 1))) db 1 (some (db + 2))) db 2 (some (db + 3))) (db + 4) 0 (some (db + 5))) (db + 4) 1 (some (db + 6))) (db + 4) 2 (some (db + 7))) (db + 4) 3 (some (db + 8))) (db + 4) 4 (some (db + 9))) db 3 (some (db + 4))) db 4 (some (db + 10))) db 5 (some (db + 11))) db 6 (some (db + 12))) (db + 13) 0 (some (db + 14))) (db + j) (bs j) := fun j h1 h2 => jk_upP (by omega) (hN j (by omega) h2)
  refine hf_aload_n dX3_init_12 rfl rfl ?_
  refine hf_bipush (v := 12) dX3_init_13 (by decide) ?_
  refine hf_newa_p (k := 0) (n := 0) (z := 12) (zm := 12) (kd := 100) (a := (db + 15)) (by omega) dX3_init_15 hw70 (Or.inl ⟨rfl, rfl⟩) (by decide) rfl (Nat.le_refl _) (by decide) (hN 15 (by decide) (by decide)) ?_
  refine hf_putr (c := 3) (j := 1) dX3_init_17 (show T (db + 13) = (3, 0) from ht 13 (by decide)) (by omega) (by decide) (by decide) hw83 (Or.inr ⟨rfl, rfl, rfl⟩) rfl ?_
  replace hN : ∀ j, 16 ≤ j → j < 20 → jk_nw T (hf_up I (db + 4) 5 0) L (hf_upP (hf_upP (hf_upP (hf_upP (hf_upP (hf_upP (hf_upP (hf_upP (hf_upP (hf_upP (hf_upP (hf_upP (hf_upP (hf_upP P db 0 (some (db + 1))) db 1 (some (db + 2))) db 2 (some (db + 3))) (db + 4) 0 (some (db + 5))) (db + 4) 1 (some (db + 6))) (db + 4) 2 (some (db + 7))) (db + 4) 3 (some (db + 8))) (db + 4) 4 (some (db + 9))) db 3 (some (db + 4))) db 4 (some (db + 10))) db 5 (some (db + 11))) db 6 (some (db + 12))) (db + 13) 0 (some (db + 14))) (db + 13) 1 (some (db + 15))) (db + j) (bs j) := fun j h1 h2 => jk_upP (by omega) (hN j (by omega) h2)
  refine hf_aload_n dX3_init_20 rfl rfl ?_
  refine hf_iconst (v := 0) dX3_init_21 (by decide) ?_
  refine hf_puti (c := 3) (j := 2) dX3_init_22 (show T (db + 13) = (3, 0) from ht 13 (by decide)) (by omega) (by decide) (by decide) hw87 rfl rfl ?_
  replace hN : ∀ j, 16 ≤ j → j < 20 → jk_nw T (hf_up (hf_up I (db + 4) 5 0) (db + 13) 2 0) L (hf_upP (hf_upP (hf_upP (hf_upP (hf_upP (hf_upP (hf_upP (hf_upP (hf_upP (hf_upP (hf_upP (hf_upP (hf_upP (hf_upP P db 0 (some (db + 1))) db 1 (some (db + 2))) db 2 (some (db + 3))) (db + 4) 0 (some (db + 5))) (db + 4) 1 (some (db + 6))) (db + 4) 2 (some (db + 7))) (db + 4) 3 (some (db + 8))) (db + 4) 4 (some (db + 9))) db 3 (some (db + 4))) db 4 (some (db + 10))) db 5 (some (db + 11))) db 6 (some (db + 12))) (db + 13) 0 (some (db + 14))) (db + 13) 1 (some (db + 15))) (db + j) (bs j) := fun j h1 h2 => jk_up (by omega) (hN j (by omega) h2)
  refine hf_aload_n dX3_init_25 rfl rfl ?_
  refine hf_iconst (v := 0) dX3_init_26 (by decide) ?_
  refine hf_puti (c := 3) (j := 3) dX3_init_27 (show T (db + 13) = (3, 0) from ht 13 (by decide)) (by omega) (by decide) (by decide) hw92 rfl rfl ?_
  replace hN : ∀ j, 16 ≤ j → j < 20 → jk_nw T (hf_up (hf_up (hf_up I (db + 4) 5 0) (db + 13) 2 0) (db + 13) 3 0) L (hf_upP (hf_upP (hf_upP (hf_upP (hf_upP (hf_upP (hf_upP (hf_upP (hf_upP (hf_upP (hf_upP (hf_upP (hf_upP (hf_upP P db 0 (some (db + 1))) db 1 (some (db + 2))) db 2 (some (db + 3))) (db + 4) 0 (some (db + 5))) (db + 4) 1 (some (db + 6))) (db + 4) 2 (some (db + 7))) (db + 4) 3 (some (db + 8))) (db + 4) 4 (some (db + 9))) db 3 (some (db + 4))) db 4 (some (db + 10))) db 5 (some (db + 11))) db 6 (some (db + 12))) (db + 13) 0 (some (db + 14))) (db + 13) 1 (some (db + 15))) (db + j) (bs j) := fun j h1 h2 => jk_up (by omega) (hN j (by omega) h2)
  refine hf_return dX3_init_30 rfl ?_
  show hf_G X Y_X1_init (d + 2) _ _ 70 [some (.ref db), none] [.ref (db + 13), .ref db] ((((((((((((((((t + 1) + 1) + 1) + 1) + 1) + 1) + 1) + 1) + 1) + 1) + 1) + 1) + 1) + 1) + 1), T, (hf_up (hf_up (hf_up I (db + 4) 5 0) (db + 13) 2 0) (db + 13) 3 0), L, (hf_upP (hf_upP (hf_upP (hf_upP (hf_upP (hf_upP (hf_upP (hf_upP (hf_upP (hf_upP (hf_upP (hf_upP (hf_upP (hf_upP P db 0 (some (db + 1))) db 1 (some (db + 2))) db 2 (some (db + 3))) (db + 4) 0 (some (db + 5))) (db + 4) 1 (some (db + 6))) (db + 4) 2 (some (db + 7))) (db + 4) 3 (some (db + 8))) (db + 4) 4 (some (db + 9))) db 3 (some (db + 4))) db 4 (some (db + 10))) db 5 (some (db + 11))) db 6 (some (db + 12))) (db + 13) 0 (some (db + 14))) (db + 13) 1 (some (db + 15)))) _
  refine hf_putr (c := 1) (j := 7) dX1_init_70 (show T db = (1, 0) from ht 0 (by decide)) (by omega) (by decide) (by decide) hw121 (Or.inr ⟨rfl, rfl, rfl⟩) rfl ?_
  replace hN : ∀ j, 16 ≤ j → j < 20 → jk_nw T (hf_up (hf_up (hf_up I (db + 4) 5 0) (db + 13) 2 0) (db + 13) 3 0) L (hf_upP (hf_upP (hf_upP (hf_upP (hf_upP (hf_upP (hf_upP (hf_upP (hf_upP (hf_upP (hf_upP (hf_upP (hf_upP (hf_upP (hf_upP P db 0 (some (db + 1))) db 1 (some (db + 2))) db 2 (some (db + 3))) (db + 4) 0 (some (db + 5))) (db + 4) 1 (some (db + 6))) (db + 4) 2 (some (db + 7))) (db + 4) 3 (some (db + 8))) (db + 4) 4 (some (db + 9))) db 3 (some (db + 4))) db 4 (some (db + 10))) db 5 (some (db + 11))) db 6 (some (db + 12))) (db + 13) 0 (some (db + 14))) (db + 13) 1 (some (db + 15))) db 7 (some (db + 13))) (db + j) (bs j) := fun j h1 h2 => jk_upP (by omega) (hN j (by omega) h2)
  refine hf_aload_n dX1_init_73 rfl rfl ?_
  refine hf_bipush (v := 8) dX1_init_74 (by decide) ?_
  refine hf_newa_p (k := 3) (n := 24) (z := 8) (zm := 8) (kd := 100) (a := (db + 16)) (by omega) dX1_init_76 hw70 (Or.inl ⟨rfl, rfl⟩) (by decide) rfl (Nat.le_refl _) (by decide) (hN 16 (by decide) (by decide)) ?_
  refine hf_putr (c := 1) (j := 8) dX1_init_78 (show T db = (1, 0) from ht 0 (by decide)) (by omega) (by decide) (by decide) hw125 (Or.inr ⟨rfl, rfl, rfl⟩) rfl ?_
  replace hN : ∀ j, 17 ≤ j → j < 20 → jk_nw T (hf_up (hf_up (hf_up I (db + 4) 5 0) (db + 13) 2 0) (db + 13) 3 0) L (hf_upP (hf_upP (hf_upP (hf_upP (hf_upP (hf_upP (hf_upP (hf_upP (hf_upP (hf_upP (hf_upP (hf_upP (hf_upP (hf_upP (hf_upP (hf_upP P db 0 (some (db + 1))) db 1 (some (db + 2))) db 2 (some (db + 3))) (db + 4) 0 (some (db + 5))) (db + 4) 1 (some (db + 6))) (db + 4) 2 (some (db + 7))) (db + 4) 3 (some (db + 8))) (db + 4) 4 (some (db + 9))) db 3 (some (db + 4))) db 4 (some (db + 10))) db 5 (some (db + 11))) db 6 (some (db + 12))) (db + 13) 0 (some (db + 14))) (db + 13) 1 (some (db + 15))) db 7 (some (db + 13))) db 8 (some (db + 16))) (db + j) (bs j) := fun j h1 h2 => jk_upP (by omega) (hN j (by omega) h2)
  refine hf_aload_n dX1_init_81 rfl rfl ?_
  refine hf_bipush (v := 8) dX1_init_82 (by decide) ?_
  refine hf_newa_p (k := 2) (n := 16) (z := 8) (zm := 8) (kd := 100) (a := (db + 17)) (by omega) dX1_init_84 hw70 (Or.inl ⟨rfl, rfl⟩) (by decide) rfl (Nat.le_refl _) (by decide) (hN 17 (by decide) (by decide)) ?_
  refine hf_putr (c := 1) (j := 9) dX1_init_86 (show T db = (1, 0) from ht 0 (by decide)) (by omega) (by decide) (by decide) hw127 (Or.inr ⟨rfl, rfl, rfl⟩) rfl ?_
  replace hN : ∀ j, 18 ≤ j → j < 20 → jk_nw T (hf_up (hf_up (hf_up I (db + 4) 5 0) (db + 13) 2 0) (db + 13) 3 0) L (hf_upP (hf_upP (hf_upP (hf_upP (hf_upP (hf_upP (hf_upP (hf_upP (hf_upP (hf_upP (hf_upP (hf_upP (hf_upP (hf_upP (hf_upP (hf_upP (hf_upP P db 0 (some (db + 1))) db 1 (some (db + 2))) db 2 (some (db + 3))) (db + 4) 0 (some (db + 5))) (db + 4) 1 (some (db + 6))) (db + 4) 2 (some (db + 7))) (db + 4) 3 (some (db + 8))) (db + 4) 4 (some (db + 9))) db 3 (some (db + 4))) db 4 (some (db + 10))) db 5 (some (db + 11))) db 6 (some (db + 12))) (db + 13) 0 (some (db + 14))) (db + 13) 1 (some (db + 15))) db 7 (some (db + 13))) db 8 (some (db + 16))) db 9 (some (db + 17))) (db + j) (bs j) := fun j h1 h2 => jk_upP (by omega) (hN j (by omega) h2)
  refine hf_aload_n dX1_init_89 rfl rfl ?_
  refine hf_bipush (v := 8) dX1_init_90 (by decide) ?_
  refine hf_newa_p (k := 1) (n := 8) (z := 8) (zm := 8) (kd := 100) (a := (db + 18)) (by omega) dX1_init_92 hw70 (Or.inl ⟨rfl, rfl⟩) (by decide) rfl (Nat.le_refl _) (by decide) (hN 18 (by decide) (by decide)) ?_
  refine hf_putr (c := 1) (j := 10) dX1_init_94 (show T db = (1, 0) from ht 0 (by decide)) (by omega) (by decide) (by decide) hw130 (Or.inr ⟨rfl, rfl, rfl⟩) rfl ?_
  replace hN : ∀ j, 19 ≤ j → j < 20 → jk_nw T (hf_up (hf_up (hf_up I (db + 4) 5 0) (db + 13) 2 0) (db + 13) 3 0) L (hf_upP (hf_upP (hf_upP (hf_upP (hf_upP (hf_upP (hf_upP (hf_upP (hf_upP (hf_upP (hf_upP (hf_upP (hf_upP (hf_upP (hf_upP (hf_upP (hf_upP (hf_upP P db 0 (some (db + 1))) db 1 (some (db + 2))) db 2 (some (db + 3))) (db + 4) 0 (some (db + 5))) (db + 4) 1 (some (db + 6))) (db + 4) 2 (some (db + 7))) (db + 4) 3 (some (db + 8))) (db + 4) 4 (some (db + 9))) db 3 (some (db + 4))) db 4 (some (db + 10))) db 5 (some (db + 11))) db 6 (some (db + 12))) (db + 13) 0 (some (db + 14))) (db + 13) 1 (some (db + 15))) db 7 (some (db + 13))) db 8 (some (db + 16))) db 9 (some (db + 17))) db 10 (some (db + 18))) (db + j) (bs j) := fun j h1 h2 => jk_upP (by omega) (hN j (by omega) h2)
  refine hf_aload_n dX1_init_97 rfl rfl ?_
  refine hf_bipush (v := 8) dX1_init_98 (by decide) ?_
  refine hf_newa_p (k := 0) (n := 0) (z := 8) (zm := 8) (kd := 100) (a := (db + 19)) (by omega) dX1_init_100 hw70 (Or.inl ⟨rfl, rfl⟩) (by decide) rfl (Nat.le_refl _) (by decide) (hN 19 (by decide) (by decide)) ?_
  refine hf_putr (c := 1) (j := 11) dX1_init_102 (show T db = (1, 0) from ht 0 (by decide)) (by omega) (by decide) (by decide) hw133 (Or.inr ⟨rfl, rfl, rfl⟩) rfl ?_
  replace hN : ∀ j, 20 ≤ j → j < 20 → jk_nw T (hf_up (hf_up (hf_up I (db + 4) 5 0) (db + 13) 2 0) (db + 13) 3 0) L (hf_upP (hf_upP (hf_upP (hf_upP (hf_upP (hf_upP (hf_upP (hf_upP (hf_upP (hf_upP (hf_upP (hf_upP (hf_upP (hf_upP (hf_upP (hf_upP (hf_upP (hf_upP (hf_upP P db 0 (some (db + 1))) db 1 (some (db + 2))) db 2 (some (db + 3))) (db + 4) 0 (some (db + 5))) (db + 4) 1 (some (db + 6))) (db + 4) 2 (some (db + 7))) (db + 4) 3 (some (db + 8))) (db + 4) 4 (some (db + 9))) db 3 (some (db + 4))) db 4 (some (db + 10))) db 5 (some (db + 11))) db 6 (some (db + 12))) (db + 13) 0 (some (db + 14))) (db + 13) 1 (some (db + 15))) db 7 (some (db + 13))) db 8 (some (db + 16))) db 9 (some (db + 17))) db 10 (some (db + 18))) db 11 (some (db + 19))) (db + j) (bs j) := fun j h1 h2 => jk_upP (by omega) (hN j (by omega) h2)
  refine hf_aload_n dX1_init_105 rfl rfl ?_
  refine hf_bipush (v := 100) dX1_init_106 (by decide) ?_
  refine hf_puti (c := 1) (j := 12) dX1_init_108 (show T db = (1, 0) from ht 0 (by decide)) (by omega) (by decide) (by decide) hw136 rfl rfl ?_
  replace hN : ∀ j, 20 ≤ j → j < 20 → jk_nw T (hf_up (hf_up (hf_up (hf_up I (db + 4) 5 0) (db + 13) 2 0) (db + 13) 3 0) db 12 100) L (hf_upP (hf_upP (hf_upP (hf_upP (hf_upP (hf_upP (hf_upP (hf_upP (hf_upP (hf_upP (hf_upP (hf_upP (hf_upP (hf_upP (hf_upP (hf_upP (hf_upP (hf_upP (hf_upP P db 0 (some (db + 1))) db 1 (some (db + 2))) db 2 (some (db + 3))) (db + 4) 0 (some (db + 5))) (db + 4) 1 (some (db + 6))) (db + 4) 2 (some (db + 7))) (db + 4) 3 (some (db + 8))) (db + 4) 4 (some (db + 9))) db 3 (some (db + 4))) db 4 (some (db + 10))) db 5 (some (db + 11))) db 6 (some (db + 12))) (db + 13) 0 (some (db + 14))) (db + 13) 1 (some (db + 15))) db 7 (some (db + 13))) db 8 (some (db + 16))) db 9 (some (db + 17))) db 10 (some (db + 18))) db 11 (some (db + 19))) (db + j) (bs j) := fun j h1 h2 => jk_up (by omega) (hN j (by omega) h2)
  refine hf_aload_n dX1_init_111 rfl rfl ?_
  refine hf_iconst (v := 3) dX1_init_112 (by decide) ?_
  refine hf_puti (c := 1) (j := 13) dX1_init_113 (show T db = (1, 0) from ht 0 (by decide)) (by omega) (by decide) (by decide) hw140 rfl rfl ?_
  replace hN : ∀ j, 20 ≤ j → j < 20 → jk_nw T (hf_up (hf_up (hf_up (hf_up (hf_up I (db + 4) 5 0) (db + 13) 2 0) (db + 13) 3 0) db 12 100) db 13 3) L (hf_upP (hf_upP (hf_upP (hf_upP (hf_upP (hf_upP (hf_upP (hf_upP (hf_upP (hf_upP (hf_upP (hf_upP (hf_upP (hf_upP (hf_upP (hf_upP (hf_upP (hf_upP (hf_upP P db 0 (some (db + 1))) db 1 (some (db + 2))) db 2 (some (db + 3))) (db + 4) 0 (some (db + 5))) (db + 4) 1 (some (db + 6))) (db + 4) 2 (some (db + 7))) (db + 4) 3 (some (db + 8))) (db + 4) 4 (some (db + 9))) db 3 (some (db + 4))) db 4 (some (db + 10))) db 5 (some (db + 11))) db 6 (some (db + 12))) (db + 13) 0 (some (db + 14))) (db + 13) 1 (some (db + 15))) db 7 (some (db + 13))) db 8 (some (db + 16))) db 9 (some (db + 17))) db 10 (some (db + 18))) db 11 (some (db + 19))) (db + j) (bs j) := fun j h1 h2 => jk_up (by omega) (hN j (by omega) h2)
  refine hf_aload_n dX1_init_116 rfl rfl ?_
  refine hf_iconst (v := 0) dX1_init_117 (by decide) ?_
  refine hf_puti (c := 1) (j := 14) dX1_init_118 (show T db = (1, 0) from ht 0 (by decide)) (by omega) (by decide) (by decide) hw143 rfl rfl ?_
  replace hN : ∀ j, 20 ≤ j → j < 20 → jk_nw T (hf_up (hf_up (hf_up (hf_up (hf_up (hf_up I (db + 4) 5 0) (db + 13) 2 0) (db + 13) 3 0) db 12 100) db 13 3) db 14 0) L (hf_upP (hf_upP (hf_upP (hf_upP (hf_upP (hf_upP (hf_upP (hf_upP (hf_upP (hf_upP (hf_upP (hf_upP (hf_upP (hf_upP (hf_upP (hf_upP (hf_upP (hf_upP (hf_upP P db 0 (some (db + 1))) db 1 (some (db + 2))) db 2 (some (db + 3))) (db + 4) 0 (some (db + 5))) (db + 4) 1 (some (db + 6))) (db + 4) 2 (some (db + 7))) (db + 4) 3 (some (db + 8))) (db + 4) 4 (some (db + 9))) db 3 (some (db + 4))) db 4 (some (db + 10))) db 5 (some (db + 11))) db 6 (some (db + 12))) (db + 13) 0 (some (db + 14))) (db + 13) 1 (some (db + 15))) db 7 (some (db + 13))) db 8 (some (db + 16))) db 9 (some (db + 17))) db 10 (some (db + 18))) db 11 (some (db + 19))) (db + j) (bs j) := fun j h1 h2 => jk_up (by omega) (hN j (by omega) h2)
  refine hf_aload_n dX1_init_121 rfl rfl ?_
  refine hf_iconst (v := 0) dX1_init_122 (by decide) ?_
  refine hf_puti (c := 1) (j := 15) dX1_init_123 (show T db = (1, 0) from ht 0 (by decide)) (by omega) (by decide) (by decide) hw147 rfl rfl ?_
  replace hN : ∀ j, 20 ≤ j → j < 20 → jk_nw T (hf_up (hf_up (hf_up (hf_up (hf_up (hf_up (hf_up I (db + 4) 5 0) (db + 13) 2 0) (db + 13) 3 0) db 12 100) db 13 3) db 14 0) db 15 0) L (hf_upP (hf_upP (hf_upP (hf_upP (hf_upP (hf_upP (hf_upP (hf_upP (hf_upP (hf_upP (hf_upP (hf_upP (hf_upP (hf_upP (hf_upP (hf_upP (hf_upP (hf_upP (hf_upP P db 0 (some (db + 1))) db 1 (some (db + 2))) db 2 (some (db + 3))) (db + 4) 0 (some (db + 5))) (db + 4) 1 (some (db + 6))) (db + 4) 2 (some (db + 7))) (db + 4) 3 (some (db + 8))) (db + 4) 4 (some (db + 9))) db 3 (some (db + 4))) db 4 (some (db + 10))) db 5 (some (db + 11))) db 6 (some (db + 12))) (db + 13) 0 (some (db + 14))) (db + 13) 1 (some (db + 15))) db 7 (some (db + 13))) db 8 (some (db + 16))) db 9 (some (db + 17))) db 10 (some (db + 18))) db 11 (some (db + 19))) (db + j) (bs j) := fun j h1 h2 => jk_up (by omega) (hN j (by omega) h2)
  refine hf_aload_n dX1_init_126 rfl rfl ?_
  refine hf_iconst (v := (-1)) dX1_init_127 (by decide) ?_
  refine hf_puti (c := 1) (j := 16) dX1_init_128 (show T db = (1, 0) from ht 0 (by decide)) (by omega) (by decide) (by decide) hw150 rfl rfl ?_
  replace hN : ∀ j, 20 ≤ j → j < 20 → jk_nw T (hf_up (hf_up (hf_up (hf_up (hf_up (hf_up (hf_up (hf_up I (db + 4) 5 0) (db + 13) 2 0) (db + 13) 3 0) db 12 100) db 13 3) db 14 0) db 15 0) db 16 (-1)) L (hf_upP (hf_upP (hf_upP (hf_upP (hf_upP (hf_upP (hf_upP (hf_upP (hf_upP (hf_upP (hf_upP (hf_upP (hf_upP (hf_upP (hf_upP (hf_upP (hf_upP (hf_upP (hf_upP P db 0 (some (db + 1))) db 1 (some (db + 2))) db 2 (some (db + 3))) (db + 4) 0 (some (db + 5))) (db + 4) 1 (some (db + 6))) (db + 4) 2 (some (db + 7))) (db + 4) 3 (some (db + 8))) (db + 4) 4 (some (db + 9))) db 3 (some (db + 4))) db 4 (some (db + 10))) db 5 (some (db + 11))) db 6 (some (db + 12))) (db + 13) 0 (some (db + 14))) (db + 13) 1 (some (db + 15))) db 7 (some (db + 13))) db 8 (some (db + 16))) db 9 (some (db + 17))) db 10 (some (db + 18))) db 11 (some (db + 19))) (db + j) (bs j) := fun j h1 h2 => jk_up (by omega) (hN j (by omega) h2)
  refine hf_aload_n dX1_init_131 rfl rfl ?_
  refine hf_iconst (v := 0) dX1_init_132 (by decide) ?_
  refine hf_puti (c := 1) (j := 17) dX1_init_133 (show T db = (1, 0) from ht 0 (by decide)) (by omega) (by decide) (by decide) hw153 rfl rfl ?_
  replace hN : ∀ j, 20 ≤ j → j < 20 → jk_nw T (hf_up (hf_up (hf_up (hf_up (hf_up (hf_up (hf_up (hf_up (hf_up I (db + 4) 5 0) (db + 13) 2 0) (db + 13) 3 0) db 12 100) db 13 3) db 14 0) db 15 0) db 16 (-1)) db 17 0) L (hf_upP (hf_upP (hf_upP (hf_upP (hf_upP (hf_upP (hf_upP (hf_upP (hf_upP (hf_upP (hf_upP (hf_upP (hf_upP (hf_upP (hf_upP (hf_upP (hf_upP (hf_upP (hf_upP P db 0 (some (db + 1))) db 1 (some (db + 2))) db 2 (some (db + 3))) (db + 4) 0 (some (db + 5))) (db + 4) 1 (some (db + 6))) (db + 4) 2 (some (db + 7))) (db + 4) 3 (some (db + 8))) (db + 4) 4 (some (db + 9))) db 3 (some (db + 4))) db 4 (some (db + 10))) db 5 (some (db + 11))) db 6 (some (db + 12))) (db + 13) 0 (some (db + 14))) (db + 13) 1 (some (db + 15))) db 7 (some (db + 13))) db 8 (some (db + 16))) db 9 (some (db + 17))) db 10 (some (db + 18))) db 11 (some (db + 19))) (db + j) (bs j) := fun j h1 h2 => jk_up (by omega) (hN j (by omega) h2)
  refine hf_aload_n dX1_init_136 rfl rfl ?_
  refine hf_iconst (v := 0) dX1_init_137 (by decide) ?_
  refine hf_puti (c := 1) (j := 18) dX1_init_138 (show T db = (1, 0) from ht 0 (by decide)) (by omega) (by decide) (by decide) hw156 rfl rfl ?_
  replace hN : ∀ j, 20 ≤ j → j < 20 → jk_nw T (hf_up (hf_up (hf_up (hf_up (hf_up (hf_up (hf_up (hf_up (hf_up (hf_up I (db + 4) 5 0) (db + 13) 2 0) (db + 13) 3 0) db 12 100) db 13 3) db 14 0) db 15 0) db 16 (-1)) db 17 0) db 18 0) L (hf_upP (hf_upP (hf_upP (hf_upP (hf_upP (hf_upP (hf_upP (hf_upP (hf_upP (hf_upP (hf_upP (hf_upP (hf_upP (hf_upP (hf_upP (hf_upP (hf_upP (hf_upP (hf_upP P db 0 (some (db + 1))) db 1 (some (db + 2))) db 2 (some (db + 3))) (db + 4) 0 (some (db + 5))) (db + 4) 1 (some (db + 6))) (db + 4) 2 (some (db + 7))) (db + 4) 3 (some (db + 8))) (db + 4) 4 (some (db + 9))) db 3 (some (db + 4))) db 4 (some (db + 10))) db 5 (some (db + 11))) db 6 (some (db + 12))) (db + 13) 0 (some (db + 14))) (db + 13) 1 (some (db + 15))) db 7 (some (db + 13))) db 8 (some (db + 16))) db 9 (some (db + 17))) db 10 (some (db + 18))) db 11 (some (db + 19))) (db + j) (bs j) := fun j h1 h2 => jk_up (by omega) (hN j (by omega) h2)
  refine hf_aload_n dX1_init_141 rfl rfl ?_
  refine hf_iconst (v := 0) dX1_init_142 (by decide) ?_
  refine hf_puti (c := 1) (j := 19) dX1_init_143 (show T db = (1, 0) from ht 0 (by decide)) (by omega) (by decide) (by decide) hw158 rfl rfl ?_
  replace hN : ∀ j, 20 ≤ j → j < 20 → jk_nw T (hf_up (hf_up (hf_up (hf_up (hf_up (hf_up (hf_up (hf_up (hf_up (hf_up (hf_up I (db + 4) 5 0) (db + 13) 2 0) (db + 13) 3 0) db 12 100) db 13 3) db 14 0) db 15 0) db 16 (-1)) db 17 0) db 18 0) db 19 0) L (hf_upP (hf_upP (hf_upP (hf_upP (hf_upP (hf_upP (hf_upP (hf_upP (hf_upP (hf_upP (hf_upP (hf_upP (hf_upP (hf_upP (hf_upP (hf_upP (hf_upP (hf_upP (hf_upP P db 0 (some (db + 1))) db 1 (some (db + 2))) db 2 (some (db + 3))) (db + 4) 0 (some (db + 5))) (db + 4) 1 (some (db + 6))) (db + 4) 2 (some (db + 7))) (db + 4) 3 (some (db + 8))) (db + 4) 4 (some (db + 9))) db 3 (some (db + 4))) db 4 (some (db + 10))) db 5 (some (db + 11))) db 6 (some (db + 12))) (db + 13) 0 (some (db + 14))) (db + 13) 1 (some (db + 15))) db 7 (some (db + 13))) db 8 (some (db + 16))) db 9 (some (db + 17))) db 10 (some (db + 18))) db 11 (some (db + 19))) (db + j) (bs j) := fun j h1 h2 => jk_up (by omega) (hN j (by omega) h2)
  refine hf_iconst (v := 0) dX1_init_146 (by decide) ?_
  refine hf_istore_n (l2 := [some (.ref db), some (.int 0)]) dX1_init_147 rfl (by decide) rfl ?_
  exact h

set_option maxHeartbeats 4000000 in
theorem w_X1_init_148_n {X : hf_X} {d k n t : Nat} {T : hf_T} {I : hf_I} {L : hf_L} {P : hf_P} {Q : Option Value → hf_M → Prop} {i : Int32} {db : Nat} (hd : bk t T P db) (h : (26 ≤ i → hf_G X Y_X1_init d k n 178 [some (.ref db), some (.int 0)] [] (t, T, (hf_up I (db + 1) 26 5), L, P) Q) ∧ (¬ (26 ≤ i) → vp_in i 27 ∧ (hf_G X Y_X1_init d k n 148 [some (.ref db), some (.int (i + 1))] [] (t, T, (hf_up I (db + 1) i.toNatClampNeg 10), L, P) Q))) : hf_G X Y_X1_init d k n 148 [some (.ref db), some (.int i)] [] (t, T, I, L, P) Q := by
  refine hf_iload_n dX1_init_148 rfl rfl ?_
  refine hf_bipush (v := 26) dX1_init_149 (by decide) ?_
  refine hf_icmp_ge (tgt := 168) dX1_init_151 (by decide) (fun hc => ?_) (fun hc => ?_)
  · replace h := h.1 hc
    refine hf_aload_n dX1_init_168 rfl rfl ?_
    refine hf_getr (b := (db + 1)) (c := 1) (j := 0) dX1_init_169 hd.t0 (bk_in hd 0 (by decide)) (by decide) (by decide) hw99 rfl hd.p0_0 ?_
    refine hf_bipush (v := 26) dX1_init_172 (by decide) ?_
    refine hf_iconst (v := 5) dX1_init_174 (by decide) ?_
    refine hf_iast_k (j := 26) (by decide) dX1_init_175 hd.t1 (bk_in hd 1 (by decide)) (hf_vin (by decide)) ?_
    refine hf_iconst (v := 0) dX1_init_176 (by decide) ?_
    refine hf_istore_n (l2 := [some (.ref db), some (.int 0)]) dX1_init_177 rfl (by decide) rfl ?_
    exact h
  · replace h := h.2 hc
    refine hf_aload_n dX1_init_154 rfl rfl ?_
    refine hf_getr (b := (db + 1)) (c := 1) (j := 0) dX1_init_155 hd.t0 (bk_in hd 0 (by decide)) (by decide) (by decide) hw99 rfl hd.p0_0 ?_
    refine hf_iload_n dX1_init_158 rfl rfl ?_
    refine hf_bipush (v := 10) dX1_init_159 (by decide) ?_
    refine hf_iast dX1_init_161 hd.t1 (bk_in hd 1 (by decide)) h.1 ?_
    replace h := h.2
    refine hf_iinc (v := (i + 1)) (l2 := [some (.ref db), some (.int (i + 1))]) dX1_init_162 (by decide) rfl rfl rfl ?_
    refine hf_goto (tgt := 148) dX1_init_165 (by decide) ?_
    exact h

set_option maxHeartbeats 4000000 in
theorem w_X1_init_178_n {X : hf_X} {d k n t : Nat} {T : hf_T} {I : hf_I} {L : hf_L} {P : hf_P} {Q : Option Value → hf_M → Prop} {i : Int32} {db : Nat} (hd : bk t T P db) (h : (8 ≤ i → hf_G X Y_X1_init d k n 199 [some (.ref db), some (.int 0)] [] (t, T, I, L, P) Q) ∧ (¬ (8 ≤ i) → vp_in i 8 ∧ (hf_G X Y_X1_init d k n 178 [some (.ref db), some (.int (i + 1))] [] (t, T, (hf_up I (db + 2) i.toNatClampNeg 1), L, P) Q))) : hf_G X Y_X1_init d k n 178 [some (.ref db), some (.int i)] [] (t, T, I, L, P) Q := by
  refine hf_iload_n dX1_init_178 rfl rfl ?_
  refine hf_bipush (v := 8) dX1_init_179 (by decide) ?_
  refine hf_icmp_ge (tgt := 197) dX1_init_181 (by decide) (fun hc => ?_) (fun hc => ?_)
  · replace h := h.1 hc
    refine hf_iconst (v := 0) dX1_init_197 (by decide) ?_
    refine hf_istore_n (l2 := [some (.ref db), some (.int 0)]) dX1_init_198 rfl (by decide) rfl ?_
    exact h
  · replace h := h.2 hc
    refine hf_aload_n dX1_init_184 rfl rfl ?_
    refine hf_getr (b := (db + 2)) (c := 1) (j := 1) dX1_init_185 hd.t0 (bk_in hd 0 (by decide)) (by decide) (by decide) hw101 rfl hd.p0_1 ?_
    refine hf_iload_n dX1_init_188 rfl rfl ?_
    refine hf_iconst (v := 1) dX1_init_189 (by decide) ?_
    refine hf_iast dX1_init_190 hd.t2 (bk_in hd 2 (by decide)) h.1 ?_
    replace h := h.2
    refine hf_iinc (v := (i + 1)) (l2 := [some (.ref db), some (.int (i + 1))]) dX1_init_191 (by decide) rfl rfl rfl ?_
    refine hf_goto (tgt := 178) dX1_init_194 (by decide) ?_
    exact h

set_option maxHeartbeats 4000000 in
theorem w_X1_init_199_n {X : hf_X} {d k n t : Nat} {T : hf_T} {I : hf_I} {L : hf_L} {P : hf_P} {Q : Option Value → hf_M → Prop} {i : Int32} {db : Nat} (hd : bk t T P db) (h : (4 ≤ i → Q none (t, T, I, L, P)) ∧ (¬ (4 ≤ i) → vp_in i 4 ∧ (hf_G X Y_X1_init d k n 199 [some (.ref db), some (.int (i + 1))] [] (t, T, (hf_up I (db + 12) i.toNatClampNeg (-1)), L, P) Q))) : hf_G X Y_X1_init d k n 199 [some (.ref db), some (.int i)] [] (t, T, I, L, P) Q := by
  refine hf_iload_n dX1_init_199 rfl rfl ?_
  refine hf_iconst (v := 4) dX1_init_200 (by decide) ?_
  refine hf_icmp_ge (tgt := 217) dX1_init_201 (by decide) (fun hc => ?_) (fun hc => ?_)
  · replace h := h.1 hc
    refine hf_return dX1_init_217 rfl ?_
    exact h
  · replace h := h.2 hc
    refine hf_aload_n dX1_init_204 rfl rfl ?_
    refine hf_getr (b := (db + 12)) (c := 1) (j := 6) dX1_init_205 hd.t0 (bk_in hd 0 (by decide)) (by decide) (by decide) hw118 rfl hd.p0_6 ?_
    refine hf_iload_n dX1_init_208 rfl rfl ?_
    refine hf_iconst (v := (-1)) dX1_init_209 (by decide) ?_
    refine hf_iast dX1_init_210 hd.t12 (bk_in hd 12 (by decide)) h.1 ?_
    replace h := h.2
    refine hf_iinc (v := (i + 1)) (l2 := [some (.ref db), some (.int (i + 1))]) dX1_init_211 (by decide) rfl rfl rfl ?_
    refine hf_goto (tgt := 199) dX1_init_214 (by decide) ?_
    exact h

set_option maxHeartbeats 4000000 in
theorem w_X9_init_0_n {X : hf_X} {d t : Nat} {T : hf_T} {I : hf_I} {L : hf_L} {P : hf_P} {Q : Option Value → hf_M → Prop} {tx z m : Nat} (hz : z ≤ 800) (hm : m ≤ 12) (hdb : tx + 1 = 100 + t) (h1 : 1 ≤ t) (ht : ∀ j, j < 7 → T (tx + j) = xs z m j) (hN : ∀ j, 1 ≤ j → j < 7 → jk_nw T I L P (tx + j) (xs z m j)) (h : Q none (((((((t + 1) + 1) + 1) + 1) + 1) + 1), T, (hf_up (hf_up I tx 6 0) tx 7 0), L, (hf_upP (hf_upP (hf_upP (hf_upP (hf_upP (hf_upP P tx 0 (some (tx + 1))) tx 1 (some (tx + 2))) tx 2 (some (tx + 3))) tx 3 (some (tx + 4))) tx 4 (some (tx + 5))) tx 5 (some (tx + 6))))) : hf_G X Y_X9_init (d + 1) 6 860 0 (hf_en [.ref tx, .int (nI z), .int (nI m)] 3) [] (t, T, I, L, P) Q := by
  show hf_G X Y_X9_init (d + 1) 6 860 0 [some (.ref tx), some (.int (nI z)), some (.int (nI m))] [] (t, T, I, L, P) Q
  refine hf_aload_n dX9_init_0 rfl rfl ?_
  refine hf_objInit dX9_init_1 hw191 hw29 hf_obj (by decide) ?_
  refine hf_aload_n dX9_init_4 rfl rfl ?_
  refine hf_iconst (v := 0) dX9_init_5 (by decide) ?_
  refine hf_puti (c := 9) (j := 6) dX9_init_6 (show T tx = (9, 0) from ht 0 (by decide)) (by omega) (by decide) (by decide) hw211 rfl rfl ?_
  replace hN : ∀ j, 1 ≤ j → j < 7 → jk_nw T (hf_up I tx 6 0) L P (tx + j) (xs z m j) := fun j h1 h2 => jk_up (by omega) (hN j (by omega) h2)
  refine hf_aload_n dX9_init_9 rfl rfl ?_
  refine hf_iconst (v := 0) dX9_init_10 (by decide) ?_
  refine hf_puti (c := 9) (j := 7) dX9_init_11 (show T tx = (9, 0) from ht 0 (by decide)) (by omega) (by decide) (by decide) hw214 rfl rfl ?_
  replace hN : ∀ j, 1 ≤ j → j < 7 → jk_nw T (hf_up (hf_up I tx 6 0) tx 7 0) L P (tx + j) (xs z m j) := fun j h1 h2 => jk_up (by omega) (hN j (by omega) h2)
  refine hf_aload_n dX9_init_14 rfl rfl ?_
  refine hf_iconst (v := 0) dX9_init_15 (by decide) ?_
  refine hf_iload_n dX9_init_16 rfl rfl ?_
  refine hf_mmax dX9_init_17 hw192 (Nat.le_of_ble_eq_true rfl) ?_
  rw [nI_mx0 (by omega)]
  refine hf_newa_p (k := 5) (n := 60) (z := z) (zm := 800) (kd := 100) (a := (tx + 1)) (by omega) dX9_init_20 hw70 (Or.inl ⟨rfl, rfl⟩) (nI_nlt (b := 0) (Nat.zero_le _) (by omega)) (nI_clamp (by omega)) (by omega) (by decide) (hN 1 (by decide) (by decide)) ?_
  refine hf_putr (c := 9) (j := 0) dX9_init_22 (show T tx = (9, 0) from ht 0 (by decide)) (by omega) (by decide) (by decide) hw195 (Or.inr ⟨rfl, rfl, rfl⟩) rfl ?_
  replace hN : ∀ j, 2 ≤ j → j < 7 → jk_nw T (hf_up (hf_up I tx 6 0) tx 7 0) L (hf_upP P tx 0 (some (tx + 1))) (tx + j) (xs z m j) := fun j h1 h2 => jk_upP (by omega) (hN j (by omega) h2)
  refine hf_aload_n dX9_init_25 rfl rfl ?_
  refine hf_iconst (v := 0) dX9_init_26 (by decide) ?_
  refine hf_iload_n dX9_init_27 rfl rfl ?_
  refine hf_mmax dX9_init_28 hw192 (Nat.le_of_ble_eq_true rfl) ?_
  rw [nI_mx0 (by omega)]
  refine hf_newa_p (k := 4) (n := 48) (z := m) (zm := 12) (kd := 100) (a := (tx + 2)) (by omega) dX9_init_31 hw70 (Or.inl ⟨rfl, rfl⟩) (nI_nlt (b := 0) (Nat.zero_le _) (by omega)) (nI_clamp (by omega)) (by omega) (by decide) (hN 2 (by decide) (by decide)) ?_
  refine hf_putr (c := 9) (j := 1) dX9_init_33 (show T tx = (9, 0) from ht 0 (by decide)) (by omega) (by decide) (by decide) hw197 (Or.inr ⟨rfl, rfl, rfl⟩) rfl ?_
  replace hN : ∀ j, 3 ≤ j → j < 7 → jk_nw T (hf_up (hf_up I tx 6 0) tx 7 0) L (hf_upP (hf_upP P tx 0 (some (tx + 1))) tx 1 (some (tx + 2))) (tx + j) (xs z m j) := fun j h1 h2 => jk_upP (by omega) (hN j (by omega) h2)
  refine hf_aload_n dX9_init_36 rfl rfl ?_
  refine hf_aload_n dX9_init_37 rfl rfl ?_
  refine hf_getr (b := (tx + 2)) (c := 9) (j := 1) dX9_init_38 (show T tx = (9, 0) from ht 0 (by decide)) (by omega) (by decide) (by decide) hw197 rfl (by simp [hf_upP, va_up]) ?_
  refine hf_alen dX9_init_41 (show T (tx + 2) = (100, m) from ht 2 (by decide)) (by decide) (by omega) ?_
  refine hf_newa_p (k := 3) (n := 36) (z := m) (zm := 12) (kd := 100) (a := (tx + 3)) (by omega) dX9_init_42 hw70 (Or.inl ⟨rfl, rfl⟩) (nI_nlt (b := 0) (Nat.zero_le _) (by omega)) (nI_clamp (by omega)) (by omega) (by decide) (hN 3 (by decide) (by decide)) ?_
  refine hf_putr (c := 9) (j := 2) dX9_init_44 (show T tx = (9, 0) from ht 0 (by decide)) (by omega) (by decide) (by decide) hw200 (Or.inr ⟨rfl, rfl, rfl⟩) rfl ?_
  replace hN : ∀ j, 4 ≤ j → j < 7 → jk_nw T (hf_up (hf_up I tx 6 0) tx 7 0) L (hf_upP (hf_upP (hf_upP P tx 0 (some (tx + 1))) tx 1 (some (tx + 2))) tx 2 (some (tx + 3))) (tx + j) (xs z m j) := fun j h1 h2 => jk_upP (by omega) (hN j (by omega) h2)
  refine hf_aload_n dX9_init_47 rfl rfl ?_
  refine hf_aload_n dX9_init_48 rfl rfl ?_
  refine hf_getr (b := (tx + 2)) (c := 9) (j := 1) dX9_init_49 (show T tx = (9, 0) from ht 0 (by decide)) (by omega) (by decide) (by decide) hw197 rfl (by simp [hf_upP, va_up]) ?_
  refine hf_alen dX9_init_52 (show T (tx + 2) = (100, m) from ht 2 (by decide)) (by decide) (by omega) ?_
  refine hf_newa_p (k := 2) (n := 24) (z := m) (zm := 12) (kd := 100) (a := (tx + 4)) (by omega) dX9_init_53 hw70 (Or.inl ⟨rfl, rfl⟩) (nI_nlt (b := 0) (Nat.zero_le _) (by omega)) (nI_clamp (by omega)) (by omega) (by decide) (hN 4 (by decide) (by decide)) ?_
  refine hf_putr (c := 9) (j := 3) dX9_init_55 (show T tx = (9, 0) from ht 0 (by decide)) (by omega) (by decide) (by decide) hw203 (Or.inr ⟨rfl, rfl, rfl⟩) rfl ?_
  replace hN : ∀ j, 5 ≤ j → j < 7 → jk_nw T (hf_up (hf_up I tx 6 0) tx 7 0) L (hf_upP (hf_upP (hf_upP (hf_upP P tx 0 (some (tx + 1))) tx 1 (some (tx + 2))) tx 2 (some (tx + 3))) tx 3 (some (tx + 4))) (tx + j) (xs z m j) := fun j h1 h2 => jk_upP (by omega) (hN j (by omega) h2)
  refine hf_aload_n dX9_init_58 rfl rfl ?_
  refine hf_aload_n dX9_init_59 rfl rfl ?_
  refine hf_getr (b := (tx + 2)) (c := 9) (j := 1) dX9_init_60 (show T tx = (9, 0) from ht 0 (by decide)) (by omega) (by decide) (by decide) hw197 rfl (by simp [hf_upP, va_up]) ?_
  refine hf_alen dX9_init_63 (show T (tx + 2) = (100, m) from ht 2 (by decide)) (by decide) (by omega) ?_
  refine hf_newa_p (k := 1) (n := 12) (z := m) (zm := 12) (kd := 100) (a := (tx + 5)) (by omega) dX9_init_64 hw70 (Or.inl ⟨rfl, rfl⟩) (nI_nlt (b := 0) (Nat.zero_le _) (by omega)) (nI_clamp (by omega)) (by omega) (by decide) (hN 5 (by decide) (by decide)) ?_
  refine hf_putr (c := 9) (j := 4) dX9_init_66 (show T tx = (9, 0) from ht 0 (by decide)) (by omega) (by decide) (by decide) hw206 (Or.inr ⟨rfl, rfl, rfl⟩) rfl ?_
  replace hN : ∀ j, 6 ≤ j → j < 7 → jk_nw T (hf_up (hf_up I tx 6 0) tx 7 0) L (hf_upP (hf_upP (hf_upP (hf_upP (hf_upP P tx 0 (some (tx + 1))) tx 1 (some (tx + 2))) tx 2 (some (tx + 3))) tx 3 (some (tx + 4))) tx 4 (some (tx + 5))) (tx + j) (xs z m j) := fun j h1 h2 => jk_upP (by omega) (hN j (by omega) h2)
  refine hf_aload_n dX9_init_69 rfl rfl ?_
  refine hf_aload_n dX9_init_70 rfl rfl ?_
  refine hf_getr (b := (tx + 2)) (c := 9) (j := 1) dX9_init_71 (show T tx = (9, 0) from ht 0 (by decide)) (by omega) (by decide) (by decide) hw197 rfl (by simp [hf_upP, va_up]) ?_
  refine hf_alen dX9_init_74 (show T (tx + 2) = (100, m) from ht 2 (by decide)) (by decide) (by omega) ?_
  refine hf_newa_p (k := 0) (n := 0) (z := m) (zm := 12) (kd := 100) (a := (tx + 6)) (by omega) dX9_init_75 hw70 (Or.inl ⟨rfl, rfl⟩) (nI_nlt (b := 0) (Nat.zero_le _) (by omega)) (nI_clamp (by omega)) (by omega) (by decide) (hN 6 (by decide) (by decide)) ?_
  refine hf_putr (c := 9) (j := 5) dX9_init_77 (show T tx = (9, 0) from ht 0 (by decide)) (by omega) (by decide) (by decide) hw209 (Or.inr ⟨rfl, rfl, rfl⟩) rfl ?_
  replace hN : ∀ j, 7 ≤ j → j < 7 → jk_nw T (hf_up (hf_up I tx 6 0) tx 7 0) L (hf_upP (hf_upP (hf_upP (hf_upP (hf_upP (hf_upP P tx 0 (some (tx + 1))) tx 1 (some (tx + 2))) tx 2 (some (tx + 3))) tx 3 (some (tx + 4))) tx 4 (some (tx + 5))) tx 5 (some (tx + 6))) (tx + j) (xs z m j) := fun j h1 h2 => jk_upP (by omega) (hN j (by omega) h2)
  refine hf_return dX9_init_80 rfl ?_
  exact h

