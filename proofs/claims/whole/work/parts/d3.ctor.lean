/-! the constructors, over the static cells -/
/-- kinds and lengths of the static cells, made or not -/
def hf_Ly (T : hf_T) : Prop := True ∧ (∀ a q, hf_sT a = some q → T a = q) ∧ True
theorem jk_upL {T : hf_T} {I : hf_I} {L : hf_L} {P : hf_P} {a b i : Nat} {v : Int64} {q : Nat × Nat} (hab : ¬ a = b) (h : jk_nw T I L P a q) : jk_nw T I (hf_upL L b i v) P a q := ⟨h.1, h.2.1, (hf_upL_no hab).trans h.2.2.1, h.2.2.2⟩
set_option maxHeartbeats 4000000 in
theorem w_X11_init_0_k {X : hf_X} {d : Nat} {T : hf_T} {I : hf_I} {L : hf_L} {P : hf_P} {Q : Option Value → hf_M → Prop} (hs : hf_Ly T) (hN : (∀ a, 101 ≤ a → a < 181 → jk_nw T I L P a (hf_sTl.getD (a - 100) (0, 0)))) (h : hf_G X Y_X1_init (d + 4) 19 327 0 (hf_en [.ref 101] 2) [] ((1 + 1), T, I, L, P) (fun r M => hf_G X Y_X11_init (d + 5) (54 - 19) (2880 - 327) 12 [some (.ref 100)] (r.toList ++ [.ref 101, .ref 100]) M Q)) : hf_G X Y_X11_init (d + 5) 55 2900 0 [some (.ref 100)] [] (1, T, I, L, P) Q := by
  refine hf_aload_n dX11_init_0 rfl rfl ?_
  refine hf_objInit dX11_init_1 hw28 hw29 hf_obj (by decide) ?_
  refine hf_aload_n dX11_init_4 rfl rfl ?_
  refine hf_new_p (c := 1) (k := 54) (n := 2880) (m := 20) (a := 101) (by omega) (by decide +kernel) dX11_init_5 (by decide) hw31 hw32 hw3 (hN 101 (by decide) (by decide)) ?_
  refine hf_dup dX11_init_8 rfl ?_
  exact hf_callI (k1 := 19) (n1 := 327) (as := []) ok_X1_init rfl rfl dX11_init_9 hw33 hw34 rfl (Nat.le_of_ble_eq_true rfl) rfl (Nat.le_of_ble_eq_true rfl) (by decide) (by decide) h

set_option maxHeartbeats 4000000 in
theorem w_X11_init_12_k {X : hf_X} {d : Nat} {T : hf_T} {I : hf_I} {L : hf_L} {P : hf_P} {Q : Option Value → hf_M → Prop} (hs : hf_Ly T) (hN : (∀ a, 121 ≤ a → a < 181 → jk_nw T I L P a (hf_sTl.getD (a - 100) (0, 0)))) (h : (∀ a, 121 ≤ a → a < 181 → jk_nw T I L (hf_upP P 100 0 (some 101)) a (hf_sTl.getD (a - 100) (0, 0))) → hf_G X Y_X11_init (d + 5) 35 2553 15 [some (.ref 100)] [] (21, T, I, L, (hf_upP P 100 0 (some 101))) Q) : hf_G X Y_X11_init (d + 5) 35 2553 12 [some (.ref 100)] [.ref 101, .ref 100] (21, T, I, L, P) Q := by
  refine hf_putr (c := 11) (j := 0) dX11_init_12 (hs.2.1 100 _ rfl) (by omega) (by decide) (by decide) hw365 (Or.inr ⟨rfl, rfl, rfl⟩) rfl ?_
  replace hN : (∀ a, 121 ≤ a → a < 181 → jk_nw T I L (hf_upP P 100 0 (some 101)) a (hf_sTl.getD (a - 100) (0, 0))) := fun a h1 h2 => jk_upP (by omega) (hN a (by omega) h2)
  exact h (fun a h1 h2 => hN a (by omega) h2)

set_option maxHeartbeats 4000000 in
theorem w_X11_init_15_k {X : hf_X} {d : Nat} {T : hf_T} {I : hf_I} {L : hf_L} {P : hf_P} {Q : Option Value → hf_M → Prop} (hs : hf_Ly T) (hN : (∀ a, 121 ≤ a → a < 181 → jk_nw T I L P a (hf_sTl.getD (a - 100) (0, 0)))) (h : (∀ a, 122 ≤ a → a < 181 → jk_nw T I L (hf_upP P 100 1 (some 121)) a (hf_sTl.getD (a - 100) (0, 0))) → hf_G X Y_X11_init (d + 5) 34 2551 23 [some (.ref 100)] [] (22, T, I, L, (hf_upP P 100 1 (some 121))) Q) : hf_G X Y_X11_init (d + 5) 35 2553 15 [some (.ref 100)] [] (21, T, I, L, P) Q := by
  refine hf_aload_n dX11_init_15 rfl rfl ?_
  refine hf_iconst (v := 2) dX11_init_16 (by decide) ?_
  refine hf_newq_p (k := 34) (n := 2551) (z := 2) (kd := 104) (a := 121) (by omega) dX11_init_17 hw31 (Or.inl ⟨rfl, rfl⟩) (by decide) rfl (by decide) (hN 121 (by decide) (by decide)) ?_
  refine hf_putr (c := 11) (j := 1) dX11_init_20 (hs.2.1 100 _ rfl) (by omega) (by decide) (by decide) hw366 (Or.inr ⟨rfl, rfl, rfl⟩) rfl ?_
  replace hN : (∀ a, 122 ≤ a → a < 181 → jk_nw T I L (hf_upP P 100 1 (some 121)) a (hf_sTl.getD (a - 100) (0, 0))) := fun a h1 h2 => jk_upP (by omega) (hN a (by omega) h2)
  exact h (fun a h1 h2 => hN a (by omega) h2)

set_option maxHeartbeats 4000000 in
theorem w_X11_init_23_k {X : hf_X} {d : Nat} {T : hf_T} {I : hf_I} {L : hf_L} {P : hf_P} {Q : Option Value → hf_M → Prop} (hs : hf_Ly T) (hN : (∀ a, 122 ≤ a → a < 181 → jk_nw T I L P a (hf_sTl.getD (a - 100) (0, 0)))) (h : (∀ a, 123 ≤ a → a < 181 → jk_nw T I L (hf_upP P 100 2 (some 122)) a (hf_sTl.getD (a - 100) (0, 0))) → hf_G X Y_X11_init (d + 5) 33 2151 32 [some (.ref 100)] [] (23, T, I, L, (hf_upP P 100 2 (some 122))) Q) : hf_G X Y_X11_init (d + 5) 34 2551 23 [some (.ref 100)] [] (22, T, I, L, P) Q := by
  refine hf_aload_n dX11_init_23 rfl rfl ?_
  refine hf_sipush (v := 400) dX11_init_24 (by decide) ?_
  refine hf_newa_p (k := 33) (n := 2151) (z := 400) (zm := 400) (kd := 101) (a := 122) (by omega) dX11_init_27 hw71 (Or.inr (Or.inl ⟨rfl, rfl⟩)) (by decide) rfl (Nat.le_refl _) (by decide) (hN 122 (by decide) (by decide)) ?_
  refine hf_putr (c := 11) (j := 2) dX11_init_29 (hs.2.1 100 _ rfl) (by omega) (by decide) (by decide) hw367 (Or.inr ⟨rfl, rfl, rfl⟩) rfl ?_
  replace hN : (∀ a, 123 ≤ a → a < 181 → jk_nw T I L (hf_upP P 100 2 (some 122)) a (hf_sTl.getD (a - 100) (0, 0))) := fun a h1 h2 => jk_upP (by omega) (hN a (by omega) h2)
  exact h (fun a h1 h2 => hN a (by omega) h2)

set_option maxHeartbeats 4000000 in
theorem w_X11_init_32_k {X : hf_X} {d : Nat} {T : hf_T} {I : hf_I} {L : hf_L} {P : hf_P} {Q : Option Value → hf_M → Prop} (hs : hf_Ly T) (hN : (∀ a, 123 ≤ a → a < 181 → jk_nw T I L P a (hf_sTl.getD (a - 100) (0, 0)))) (h : (∀ a, 132 ≤ a → a < 181 → jk_nw T (hf_up (hf_up (hf_up (hf_up (hf_up (hf_up (hf_up (hf_up (hf_up I 124 6 0) 124 7 0) 123 1 (-1)) 123 3 0) 123 4 0) 123 5 0) 123 6 0) 123 7 0) 123 8 0) L (hf_upP (hf_upP (hf_upP (hf_upP (hf_upP (hf_upP (hf_upP (hf_upP (hf_upP P 124 0 (some 125)) 124 1 (some 126)) 124 2 (some 127)) 124 3 (some 128)) 124 4 (some 129)) 124 5 (some 130)) 123 0 (some 124)) 123 2 (some 131)) 100 3 (some 123)) a (hf_sTl.getD (a - 100) (0, 0))) → hf_G X Y_X11_init (d + 5) 24 1274 43 [some (.ref 100)] [] (32, T, (hf_up (hf_up (hf_up (hf_up (hf_up (hf_up (hf_up (hf_up (hf_up I 124 6 0) 124 7 0) 123 1 (-1)) 123 3 0) 123 4 0) 123 5 0) 123 6 0) 123 7 0) 123 8 0), L, (hf_upP (hf_upP (hf_upP (hf_upP (hf_upP (hf_upP (hf_upP (hf_upP (hf_upP P 124 0 (some 125)) 124 1 (some 126)) 124 2 (some 127)) 124 3 (some 128)) 124 4 (some 129)) 124 5 (some 130)) 123 0 (some 124)) 123 2 (some 131)) 100 3 (some 123))) Q) : hf_G X Y_X11_init (d + 5) 33 2151 32 [some (.ref 100)] [] (23, T, I, L, P) Q := by
  refine hf_aload_n dX11_init_32 rfl rfl ?_
  refine hf_new_p (c := 5) (k := 32) (n := 2142) (m := 9) (a := 123) (by omega) (by decide +kernel) dX11_init_33 (by decide) hw181 hw182 hw6 (hN 123 (by decide) (by decide)) ?_
  refine hf_dup dX11_init_36 rfl ?_
  refine hf_callIN (host := RX11) (k1 := 8) (n1 := 868) (as := []) ok_X5_init rfl rfl dX11_init_37 (by decide +kernel) hw183 rfl (Nat.le_of_ble_eq_true rfl) rfl (Nat.le_of_ble_eq_true rfl) (by decide) (by decide) ?_
  show hf_G X Y_X5_init (d + 4) _ _ 0 [some (.ref 123)] [] ((23 + 1), T, I, L, P) _
  refine hf_aload_n dX5_init_0 rfl rfl ?_
  refine hf_objInit dX5_init_1 hw185 hw29 hf_obj (by decide) ?_
  refine hf_aload_n dX5_init_4 rfl rfl ?_
  refine hf_new_p (c := 9) (k := 7) (n := 860) (m := 8) (a := 124) (by omega) (by decide +kernel) dX5_init_5 (by decide) hw186 hw187 hw7 (hN 124 (by decide) (by decide)) ?_
  refine hf_dup dX5_init_8 rfl ?_
  refine hf_sipush (v := 800) dX5_init_9 (by decide) ?_
  refine hf_bipush (v := 12) dX5_init_12 (by decide) ?_
  refine hf_callI (k1 := 6) (n1 := 860) (as := [.int 800, .int 12]) ok_X9_init rfl rfl dX5_init_14 hw188 hw189 rfl (Nat.le_of_ble_eq_true rfl) rfl (Nat.le_of_ble_eq_true rfl) (by decide) (by decide) ?_
  show hf_G X Y_X9_init (d + 3) _ _ 0 [some (.ref 124), some (.int 800), some (.int 12)] [] (((23 + 1) + 1), T, I, L, P) _
  refine hf_aload_n dX9_init_0 rfl rfl ?_
  refine hf_objInit dX9_init_1 hw191 hw29 hf_obj (by decide) ?_
  refine hf_aload_n dX9_init_4 rfl rfl ?_
  refine hf_iconst (v := 0) dX9_init_5 (by decide) ?_
  refine hf_puti (c := 9) (j := 6) dX9_init_6 (hs.2.1 124 _ rfl) (by omega) (by decide) (by decide) hw211 rfl rfl ?_
  replace hN : (∀ a, 125 ≤ a → a < 181 → jk_nw T (hf_up I 124 6 0) L P a (hf_sTl.getD (a - 100) (0, 0))) := fun a h1 h2 => jk_up (by omega) (hN a (by omega) h2)
  refine hf_aload_n dX9_init_9 rfl rfl ?_
  refine hf_iconst (v := 0) dX9_init_10 (by decide) ?_
  refine hf_puti (c := 9) (j := 7) dX9_init_11 (hs.2.1 124 _ rfl) (by omega) (by decide) (by decide) hw214 rfl rfl ?_
  replace hN : (∀ a, 125 ≤ a → a < 181 → jk_nw T (hf_up (hf_up I 124 6 0) 124 7 0) L P a (hf_sTl.getD (a - 100) (0, 0))) := fun a h1 h2 => jk_up (by omega) (hN a (by omega) h2)
  refine hf_aload_n dX9_init_14 rfl rfl ?_
  refine hf_iconst (v := 0) dX9_init_15 (by decide) ?_
  refine hf_iload_n dX9_init_16 rfl rfl ?_
  refine hf_mmax dX9_init_17 hw192 (Nat.le_of_ble_eq_true rfl) ?_
  rw [show (if (0 : Int32) < 800 then 800 else 0) = (800 : Int32) by decide]
  refine hf_newa_p (k := 5) (n := 60) (z := 800) (zm := 800) (kd := 100) (a := 125) (by omega) dX9_init_20 hw70 (Or.inl ⟨rfl, rfl⟩) (by decide) rfl (Nat.le_refl _) (by decide) (hN 125 (by decide) (by decide)) ?_
  refine hf_putr (c := 9) (j := 0) dX9_init_22 (hs.2.1 124 _ rfl) (by omega) (by decide) (by decide) hw195 (Or.inr ⟨rfl, rfl, rfl⟩) rfl ?_
  replace hN : (∀ a, 126 ≤ a → a < 181 → jk_nw T (hf_up (hf_up I 124 6 0) 124 7 0) L (hf_upP P 124 0 (some 125)) a (hf_sTl.getD (a - 100) (0, 0))) := fun a h1 h2 => jk_upP (by omega) (hN a (by omega) h2)
  refine hf_aload_n dX9_init_25 rfl rfl ?_
  refine hf_iconst (v := 0) dX9_init_26 (by decide) ?_
  refine hf_iload_n dX9_init_27 rfl rfl ?_
  refine hf_mmax dX9_init_28 hw192 (Nat.le_of_ble_eq_true rfl) ?_
  rw [show (if (0 : Int32) < 12 then 12 else 0) = (12 : Int32) by decide]
  refine hf_newa_p (k := 4) (n := 48) (z := 12) (zm := 12) (kd := 100) (a := 126) (by omega) dX9_init_31 hw70 (Or.inl ⟨rfl, rfl⟩) (by decide) rfl (Nat.le_refl _) (by decide) (hN 126 (by decide) (by decide)) ?_
  refine hf_putr (c := 9) (j := 1) dX9_init_33 (hs.2.1 124 _ rfl) (by omega) (by decide) (by decide) hw197 (Or.inr ⟨rfl, rfl, rfl⟩) rfl ?_
  replace hN : (∀ a, 127 ≤ a → a < 181 → jk_nw T (hf_up (hf_up I 124 6 0) 124 7 0) L (hf_upP (hf_upP P 124 0 (some 125)) 124 1 (some 126)) a (hf_sTl.getD (a - 100) (0, 0))) := fun a h1 h2 => jk_upP (by omega) (hN a (by omega) h2)
  refine hf_aload_n dX9_init_36 rfl rfl ?_
  refine hf_aload_n dX9_init_37 rfl rfl ?_
  refine hf_getr (b := 126) (c := 9) (j := 1) dX9_init_38 (hs.2.1 124 _ rfl) (by omega) (by decide) (by decide) hw197 rfl (by simp [hf_upP, va_up]) ?_
  refine hf_alen dX9_init_41 (hs.2.1 126 _ rfl) (by decide) (by omega) ?_
  refine hf_newa_p (k := 3) (n := 36) (z := 12) (zm := 12) (kd := 100) (a := 127) (by omega) dX9_init_42 hw70 (Or.inl ⟨rfl, rfl⟩) (by decide) rfl (Nat.le_refl _) (by decide) (hN 127 (by decide) (by decide)) ?_
  refine hf_putr (c := 9) (j := 2) dX9_init_44 (hs.2.1 124 _ rfl) (by omega) (by decide) (by decide) hw200 (Or.inr ⟨rfl, rfl, rfl⟩) rfl ?_
  replace hN : (∀ a, 128 ≤ a → a < 181 → jk_nw T (hf_up (hf_up I 124 6 0) 124 7 0) L (hf_upP (hf_upP (hf_upP P 124 0 (some 125)) 124 1 (some 126)) 124 2 (some 127)) a (hf_sTl.getD (a - 100) (0, 0))) := fun a h1 h2 => jk_upP (by omega) (hN a (by omega) h2)
  refine hf_aload_n dX9_init_47 rfl rfl ?_
  refine hf_aload_n dX9_init_48 rfl rfl ?_
  refine hf_getr (b := 126) (c := 9) (j := 1) dX9_init_49 (hs.2.1 124 _ rfl) (by omega) (by decide) (by decide) hw197 rfl (by simp [hf_upP, va_up]) ?_
  refine hf_alen dX9_init_52 (hs.2.1 126 _ rfl) (by decide) (by omega) ?_
  refine hf_newa_p (k := 2) (n := 24) (z := 12) (zm := 12) (kd := 100) (a := 128) (by omega) dX9_init_53 hw70 (Or.inl ⟨rfl, rfl⟩) (by decide) rfl (Nat.le_refl _) (by decide) (hN 128 (by decide) (by decide)) ?_
  refine hf_putr (c := 9) (j := 3) dX9_init_55 (hs.2.1 124 _ rfl) (by omega) (by decide) (by decide) hw203 (Or.inr ⟨rfl, rfl, rfl⟩) rfl ?_
  replace hN : (∀ a, 129 ≤ a → a < 181 → jk_nw T (hf_up (hf_up I 124 6 0) 124 7 0) L (hf_upP (hf_upP (hf_upP (hf_upP P 124 0 (some 125)) 124 1 (some 126)) 124 2 (some 127)) 124 3 (some 128)) a (hf_sTl.getD (a - 100) (0, 0))) := fun a h1 h2 => jk_upP (by omega) (hN a (by omega) h2)
  refine hf_aload_n dX9_init_58 rfl rfl ?_
  refine hf_aload_n dX9_init_59 rfl rfl ?_
  refine hf_getr (b := 126) (c := 9) (j := 1) dX9_init_60 (hs.2.1 124 _ rfl) (by omega) (by decide) (by decide) hw197 rfl (by simp [hf_upP, va_up]) ?_
  refine hf_alen dX9_init_63 (hs.2.1 126 _ rfl) (by decide) (by omega) ?_
  refine hf_newa_p (k := 1) (n := 12) (z := 12) (zm := 12) (kd := 100) (a := 129) (by omega) dX9_init_64 hw70 (Or.inl ⟨rfl, rfl⟩) (by decide) rfl (Nat.le_refl _) (by decide) (hN 129 (by decide) (by decide)) ?_
  refine hf_putr (c := 9) (j := 4) dX9_init_66 (hs.2.1 124 _ rfl) (by omega) (by decide) (by decide) hw206 (Or.inr ⟨rfl, rfl, rfl⟩) rfl ?_
  replace hN : (∀ a, 130 ≤ a → a < 181 → jk_nw T (hf_up (hf_up I 124 6 0) 124 7 0) L (hf_upP (hf_upP (hf_upP (hf_upP (hf_upP P 124 0 (some 125)) 124 1 (some 126)) 124 2 (some 127)) 124 3 (some 128)) 124 4 (some 129)) a (hf_sTl.getD (a - 100) (0, 0))) := fun a h1 h2 => jk_upP (by omega) (hN a (by omega) h2)
  refine hf_aload_n dX9_init_69 rfl rfl ?_
  refine hf_aload_n dX9_init_70 rfl rfl ?_
  refine hf_getr (b := 126) (c := 9) (j := 1) dX9_init_71 (hs.2.1 124 _ rfl) (by omega) (by decide) (by decide) hw197 rfl (by simp [hf_upP, va_up]) ?_
  refine hf_alen dX9_init_74 (hs.2.1 126 _ rfl) (by decide) (by omega) ?_
  refine hf_newa_p (k := 0) (n := 0) (z := 12) (zm := 12) (kd := 100) (a := 130) (by omega) dX9_init_75 hw70 (Or.inl ⟨rfl, rfl⟩) (by decide) rfl (Nat.le_refl _) (by decide) (hN 130 (by decide) (by decide)) ?_
  refine hf_putr (c := 9) (j := 5) dX9_init_77 (hs.2.1 124 _ rfl) (by omega) (by decide) (by decide) hw209 (Or.inr ⟨rfl, rfl, rfl⟩) rfl ?_
  replace hN : (∀ a, 131 ≤ a → a < 181 → jk_nw T (hf_up (hf_up I 124 6 0) 124 7 0) L (hf_upP (hf_upP (hf_upP (hf_upP (hf_upP (hf_upP P 124 0 (some 125)) 124 1 (some 126)) 124 2 (some 127)) 124 3 (some 128)) 124 4 (some 129)) 124 5 (some 130)) a (hf_sTl.getD (a - 100) (0, 0))) := fun a h1 h2 => jk_upP (by omega) (hN a (by omega) h2)
  refine hf_return dX9_init_80 rfl ?_
  show hf_G X Y_X5_init (d + 4) _ _ 17 [some (.ref 123)] [.ref 124, .ref 123] (((((((((23 + 1) + 1) + 1) + 1) + 1) + 1) + 1) + 1), T, (hf_up (hf_up I 124 6 0) 124 7 0), L, (hf_upP (hf_upP (hf_upP (hf_upP (hf_upP (hf_upP P 124 0 (some 125)) 124 1 (some 126)) 124 2 (some 127)) 124 3 (some 128)) 124 4 (some 129)) 124 5 (some 130))) _
  refine hf_putr (c := 5) (j := 0) dX5_init_17 (hs.2.1 123 _ rfl) (by omega) (by decide) (by decide) hw226 (Or.inr ⟨rfl, rfl, rfl⟩) rfl ?_
  replace hN : (∀ a, 131 ≤ a → a < 181 → jk_nw T (hf_up (hf_up I 124 6 0) 124 7 0) L (hf_upP (hf_upP (hf_upP (hf_upP (hf_upP (hf_upP (hf_upP P 124 0 (some 125)) 124 1 (some 126)) 124 2 (some 127)) 124 3 (some 128)) 124 4 (some 129)) 124 5 (some 130)) 123 0 (some 124)) a (hf_sTl.getD (a - 100) (0, 0))) := fun a h1 h2 => jk_upP (by omega) (hN a (by omega) h2)
  refine hf_aload_n dX5_init_20 rfl rfl ?_
  refine hf_iconst (v := (-1)) dX5_init_21 (by decide) ?_
  refine hf_puti (c := 5) (j := 1) dX5_init_22 (hs.2.1 123 _ rfl) (by omega) (by decide) (by decide) hw228 rfl rfl ?_
  replace hN : (∀ a, 131 ≤ a → a < 181 → jk_nw T (hf_up (hf_up (hf_up I 124 6 0) 124 7 0) 123 1 (-1)) L (hf_upP (hf_upP (hf_upP (hf_upP (hf_upP (hf_upP (hf_upP P 124 0 (some 125)) 124 1 (some 126)) 124 2 (some 127)) 124 3 (some 128)) 124 4 (some 129)) 124 5 (some 130)) 123 0 (some 124)) a (hf_sTl.getD (a - 100) (0, 0))) := fun a h1 h2 => jk_up (by omega) (hN a (by omega) h2)
  refine hf_aload_n dX5_init_25 rfl rfl ?_
  refine hf_iconst (v := 0) dX5_init_26 (by decide) ?_
  refine hf_newa_p (k := 0) (n := 0) (z := 0) (zm := 0) (kd := 101) (a := 131) (by omega) dX5_init_27 hw71 (Or.inr (Or.inl ⟨rfl, rfl⟩)) (by decide) rfl (Nat.le_refl _) (by decide) (hN 131 (by decide) (by decide)) ?_
  refine hf_putr (c := 5) (j := 2) dX5_init_29 (hs.2.1 123 _ rfl) (by omega) (by decide) (by decide) hw230 (Or.inl rfl) rfl ?_
  replace hN : (∀ a, 132 ≤ a → a < 181 → jk_nw T (hf_up (hf_up (hf_up I 124 6 0) 124 7 0) 123 1 (-1)) L (hf_upP (hf_upP (hf_upP (hf_upP (hf_upP (hf_upP (hf_upP (hf_upP P 124 0 (some 125)) 124 1 (some 126)) 124 2 (some 127)) 124 3 (some 128)) 124 4 (some 129)) 124 5 (some 130)) 123 0 (some 124)) 123 2 (some 131)) a (hf_sTl.getD (a - 100) (0, 0))) := fun a h1 h2 => jk_upP (by omega) (hN a (by omega) h2)
  refine hf_aload_n dX5_init_32 rfl rfl ?_
  refine hf_iconst (v := 0) dX5_init_33 (by decide) ?_
  refine hf_puti (c := 5) (j := 3) dX5_init_34 (hs.2.1 123 _ rfl) (by omega) (by decide) (by decide) hw231 rfl rfl ?_
  replace hN : (∀ a, 132 ≤ a → a < 181 → jk_nw T (hf_up (hf_up (hf_up (hf_up I 124 6 0) 124 7 0) 123 1 (-1)) 123 3 0) L (hf_upP (hf_upP (hf_upP (hf_upP (hf_upP (hf_upP (hf_upP (hf_upP P 124 0 (some 125)) 124 1 (some 126)) 124 2 (some 127)) 124 3 (some 128)) 124 4 (some 129)) 124 5 (some 130)) 123 0 (some 124)) 123 2 (some 131)) a (hf_sTl.getD (a - 100) (0, 0))) := fun a h1 h2 => jk_up (by omega) (hN a (by omega) h2)
  refine hf_aload_n dX5_init_37 rfl rfl ?_
  refine hf_iconst (v := 0) dX5_init_38 (by decide) ?_
  refine hf_putz (c := 5) (j := 4) dX5_init_39 (hs.2.1 123 _ rfl) (by omega) (by decide) (by decide) hw232 rfl rfl (by decide) ?_
  replace hN : (∀ a, 132 ≤ a → a < 181 → jk_nw T (hf_up (hf_up (hf_up (hf_up (hf_up I 124 6 0) 124 7 0) 123 1 (-1)) 123 3 0) 123 4 0) L (hf_upP (hf_upP (hf_upP (hf_upP (hf_upP (hf_upP (hf_upP (hf_upP P 124 0 (some 125)) 124 1 (some 126)) 124 2 (some 127)) 124 3 (some 128)) 124 4 (some 129)) 124 5 (some 130)) 123 0 (some 124)) 123 2 (some 131)) a (hf_sTl.getD (a - 100) (0, 0))) := fun a h1 h2 => jk_up (by omega) (hN a (by omega) h2)
  refine hf_aload_n dX5_init_42 rfl rfl ?_
  refine hf_iconst (v := 0) dX5_init_43 (by decide) ?_
  refine hf_puti (c := 5) (j := 5) dX5_init_44 (hs.2.1 123 _ rfl) (by omega) (by decide) (by decide) hw233 rfl rfl ?_
  replace hN : (∀ a, 132 ≤ a → a < 181 → jk_nw T (hf_up (hf_up (hf_up (hf_up (hf_up (hf_up I 124 6 0) 124 7 0) 123 1 (-1)) 123 3 0) 123 4 0) 123 5 0) L (hf_upP (hf_upP (hf_upP (hf_upP (hf_upP (hf_upP (hf_upP (hf_upP P 124 0 (some 125)) 124 1 (some 126)) 124 2 (some 127)) 124 3 (some 128)) 124 4 (some 129)) 124 5 (some 130)) 123 0 (some 124)) 123 2 (some 131)) a (hf_sTl.getD (a - 100) (0, 0))) := fun a h1 h2 => jk_up (by omega) (hN a (by omega) h2)
  refine hf_aload_n dX5_init_47 rfl rfl ?_
  refine hf_iconst (v := 0) dX5_init_48 (by decide) ?_
  refine hf_puti (c := 5) (j := 6) dX5_init_49 (hs.2.1 123 _ rfl) (by omega) (by decide) (by decide) hw234 rfl rfl ?_
  replace hN : (∀ a, 132 ≤ a → a < 181 → jk_nw T (hf_up (hf_up (hf_up (hf_up (hf_up (hf_up (hf_up I 124 6 0) 124 7 0) 123 1 (-1)) 123 3 0) 123 4 0) 123 5 0) 123 6 0) L (hf_upP (hf_upP (hf_upP (hf_upP (hf_upP (hf_upP (hf_upP (hf_upP P 124 0 (some 125)) 124 1 (some 126)) 124 2 (some 127)) 124 3 (some 128)) 124 4 (some 129)) 124 5 (some 130)) 123 0 (some 124)) 123 2 (some 131)) a (hf_sTl.getD (a - 100) (0, 0))) := fun a h1 h2 => jk_up (by omega) (hN a (by omega) h2)
  refine hf_aload_n dX5_init_52 rfl rfl ?_
  refine hf_iconst (v := 0) dX5_init_53 (by decide) ?_
  refine hf_puti (c := 5) (j := 7) dX5_init_54 (hs.2.1 123 _ rfl) (by omega) (by decide) (by decide) hw235 rfl rfl ?_
  replace hN : (∀ a, 132 ≤ a → a < 181 → jk_nw T (hf_up (hf_up (hf_up (hf_up (hf_up (hf_up (hf_up (hf_up I 124 6 0) 124 7 0) 123 1 (-1)) 123 3 0) 123 4 0) 123 5 0) 123 6 0) 123 7 0) L (hf_upP (hf_upP (hf_upP (hf_upP (hf_upP (hf_upP (hf_upP (hf_upP P 124 0 (some 125)) 124 1 (some 126)) 124 2 (some 127)) 124 3 (some 128)) 124 4 (some 129)) 124 5 (some 130)) 123 0 (some 124)) 123 2 (some 131)) a (hf_sTl.getD (a - 100) (0, 0))) := fun a h1 h2 => jk_up (by omega) (hN a (by omega) h2)
  refine hf_aload_n dX5_init_57 rfl rfl ?_
  refine hf_iconst (v := 0) dX5_init_58 (by decide) ?_
  refine hf_puti (c := 5) (j := 8) dX5_init_59 (hs.2.1 123 _ rfl) (by omega) (by decide) (by decide) hw236 rfl rfl ?_
  replace hN : (∀ a, 132 ≤ a → a < 181 → jk_nw T (hf_up (hf_up (hf_up (hf_up (hf_up (hf_up (hf_up (hf_up (hf_up I 124 6 0) 124 7 0) 123 1 (-1)) 123 3 0) 123 4 0) 123 5 0) 123 6 0) 123 7 0) 123 8 0) L (hf_upP (hf_upP (hf_upP (hf_upP (hf_upP (hf_upP (hf_upP (hf_upP P 124 0 (some 125)) 124 1 (some 126)) 124 2 (some 127)) 124 3 (some 128)) 124 4 (some 129)) 124 5 (some 130)) 123 0 (some 124)) 123 2 (some 131)) a (hf_sTl.getD (a - 100) (0, 0))) := fun a h1 h2 => jk_up (by omega) (hN a (by omega) h2)
  refine hf_return dX5_init_62 rfl ?_
  show hf_G X Y_X11_init (d + 5) _ _ 40 [some (.ref 100)] [.ref 123, .ref 100] ((((((((((23 + 1) + 1) + 1) + 1) + 1) + 1) + 1) + 1) + 1), T, (hf_up (hf_up (hf_up (hf_up (hf_up (hf_up (hf_up (hf_up (hf_up I 124 6 0) 124 7 0) 123 1 (-1)) 123 3 0) 123 4 0) 123 5 0) 123 6 0) 123 7 0) 123 8 0), L, (hf_upP (hf_upP (hf_upP (hf_upP (hf_upP (hf_upP (hf_upP (hf_upP P 124 0 (some 125)) 124 1 (some 126)) 124 2 (some 127)) 124 3 (some 128)) 124 4 (some 129)) 124 5 (some 130)) 123 0 (some 124)) 123 2 (some 131))) _
  refine hf_putr (c := 11) (j := 3) dX11_init_40 (hs.2.1 100 _ rfl) (by omega) (by decide) (by decide) hw368 (Or.inr ⟨rfl, rfl, rfl⟩) rfl ?_
  replace hN : (∀ a, 132 ≤ a → a < 181 → jk_nw T (hf_up (hf_up (hf_up (hf_up (hf_up (hf_up (hf_up (hf_up (hf_up I 124 6 0) 124 7 0) 123 1 (-1)) 123 3 0) 123 4 0) 123 5 0) 123 6 0) 123 7 0) 123 8 0) L (hf_upP (hf_upP (hf_upP (hf_upP (hf_upP (hf_upP (hf_upP (hf_upP (hf_upP P 124 0 (some 125)) 124 1 (some 126)) 124 2 (some 127)) 124 3 (some 128)) 124 4 (some 129)) 124 5 (some 130)) 123 0 (some 124)) 123 2 (some 131)) 100 3 (some 123)) a (hf_sTl.getD (a - 100) (0, 0))) := fun a h1 h2 => jk_upP (by omega) (hN a (by omega) h2)
  exact h (fun a h1 h2 => hN a (by omega) h2)

set_option maxHeartbeats 4000000 in
theorem w_X11_init_43_k {X : hf_X} {d : Nat} {T : hf_T} {I : hf_I} {L : hf_L} {P : hf_P} {Q : Option Value → hf_M → Prop} (hs : hf_Ly T) (hN : (∀ a, 132 ≤ a → a < 181 → jk_nw T I L P a (hf_sTl.getD (a - 100) (0, 0)))) (h : (∀ a, 135 ≤ a → a < 181 → jk_nw T (hf_up I 132 2 0) L (hf_upP (hf_upP (hf_upP P 132 0 (some 133)) 132 1 (some 134)) 100 4 (some 132)) a (hf_sTl.getD (a - 100) (0, 0))) → hf_G X Y_X11_init (d + 5) 21 1182 54 [some (.ref 100)] [] (35, T, (hf_up I 132 2 0), L, (hf_upP (hf_upP (hf_upP P 132 0 (some 133)) 132 1 (some 134)) 100 4 (some 132))) Q) : hf_G X Y_X11_init (d + 5) 24 1274 43 [some (.ref 100)] [] (32, T, I, L, P) Q := by
  refine hf_aload_n dX11_init_43 rfl rfl ?_
  refine hf_new_p (c := 7) (k := 23) (n := 1271) (m := 3) (a := 132) (by omega) (by decide +kernel) dX11_init_44 (by decide) hw246 hw247 hw9 (hN 132 (by decide) (by decide)) ?_
  refine hf_dup dX11_init_47 rfl ?_
  refine hf_callIN (host := RX11) (k1 := 2) (n1 := 89) (as := []) ok_X7_init rfl rfl dX11_init_48 (by decide +kernel) hw248 rfl (Nat.le_of_ble_eq_true rfl) rfl (Nat.le_of_ble_eq_true rfl) (by decide) (by decide) ?_
  show hf_G X Y_X7_init (d + 4) _ _ 0 [some (.ref 132)] [] ((32 + 1), T, I, L, P) _
  refine hf_aload_n dX7_init_0 rfl rfl ?_
  refine hf_objInit dX7_init_1 hw250 hw29 hf_obj (by decide) ?_
  refine hf_aload_n dX7_init_4 rfl rfl ?_
  refine hf_bipush (v := 37) dX7_init_5 (by decide) ?_
  refine hf_newa_p (k := 1) (n := 52) (z := 37) (zm := 37) (kd := 100) (a := 133) (by omega) dX7_init_7 hw70 (Or.inl ⟨rfl, rfl⟩) (by decide) rfl (Nat.le_refl _) (by decide) (hN 133 (by decide) (by decide)) ?_
  refine hf_putr (c := 7) (j := 0) dX7_init_9 (hs.2.1 132 _ rfl) (by omega) (by decide) (by decide) hw251 (Or.inr ⟨rfl, rfl, rfl⟩) rfl ?_
  replace hN : (∀ a, 134 ≤ a → a < 181 → jk_nw T I L (hf_upP P 132 0 (some 133)) a (hf_sTl.getD (a - 100) (0, 0))) := fun a h1 h2 => jk_upP (by omega) (hN a (by omega) h2)
  refine hf_aload_n dX7_init_12 rfl rfl ?_
  refine hf_bipush (v := 52) dX7_init_13 (by decide) ?_
  refine hf_newa_p (k := 0) (n := 0) (z := 52) (zm := 52) (kd := 100) (a := 134) (by omega) dX7_init_15 hw70 (Or.inl ⟨rfl, rfl⟩) (by decide) rfl (Nat.le_refl _) (by decide) (hN 134 (by decide) (by decide)) ?_
  refine hf_putr (c := 7) (j := 1) dX7_init_17 (hs.2.1 132 _ rfl) (by omega) (by decide) (by decide) hw254 (Or.inr ⟨rfl, rfl, rfl⟩) rfl ?_
  replace hN : (∀ a, 135 ≤ a → a < 181 → jk_nw T I L (hf_upP (hf_upP P 132 0 (some 133)) 132 1 (some 134)) a (hf_sTl.getD (a - 100) (0, 0))) := fun a h1 h2 => jk_upP (by omega) (hN a (by omega) h2)
  refine hf_aload_n dX7_init_20 rfl rfl ?_
  refine hf_iconst (v := 0) dX7_init_21 (by decide) ?_
  refine hf_puti (c := 7) (j := 2) dX7_init_22 (hs.2.1 132 _ rfl) (by omega) (by decide) (by decide) hw255 rfl rfl ?_
  replace hN : (∀ a, 135 ≤ a → a < 181 → jk_nw T (hf_up I 132 2 0) L (hf_upP (hf_upP P 132 0 (some 133)) 132 1 (some 134)) a (hf_sTl.getD (a - 100) (0, 0))) := fun a h1 h2 => jk_up (by omega) (hN a (by omega) h2)
  refine hf_return dX7_init_25 rfl ?_
  show hf_G X Y_X11_init (d + 5) _ _ 51 [some (.ref 100)] [.ref 132, .ref 100] ((((32 + 1) + 1) + 1), T, (hf_up I 132 2 0), L, (hf_upP (hf_upP P 132 0 (some 133)) 132 1 (some 134))) _
  refine hf_putr (c := 11) (j := 4) dX11_init_51 (hs.2.1 100 _ rfl) (by omega) (by decide) (by decide) hw369 (Or.inr ⟨rfl, rfl, rfl⟩) rfl ?_
  replace hN : (∀ a, 135 ≤ a → a < 181 → jk_nw T (hf_up I 132 2 0) L (hf_upP (hf_upP (hf_upP P 132 0 (some 133)) 132 1 (some 134)) 100 4 (some 132)) a (hf_sTl.getD (a - 100) (0, 0))) := fun a h1 h2 => jk_upP (by omega) (hN a (by omega) h2)
  exact h (fun a h1 h2 => hN a (by omega) h2)

set_option maxHeartbeats 4000000 in
theorem w_X11_init_54_k {X : hf_X} {d : Nat} {T : hf_T} {I : hf_I} {L : hf_L} {P : hf_P} {Q : Option Value → hf_M → Prop} (hs : hf_Ly T) (hp0 : P 100 0 = some 101) (hp4 : P 100 4 = some 132) (hN : (∀ a, 135 ≤ a → a < 181 → jk_nw T I L P a (hf_sTl.getD (a - 100) (0, 0)))) (h : (∀ a, 136 ≤ a → a < 181 → jk_nw T I L (hf_upP (hf_upP (hf_upP P 135 0 (some 101)) 135 1 (some 132)) 100 5 (some 135)) a (hf_sTl.getD (a - 100) (0, 0))) → hf_G X Y_X11_init (d + 5) 20 1180 73 [some (.ref 100)] [] (36, T, I, L, (hf_upP (hf_upP (hf_upP P 135 0 (some 101)) 135 1 (some 132)) 100 5 (some 135))) Q) : hf_G X Y_X11_init (d + 5) 21 1182 54 [some (.ref 100)] [] (35, T, I, L, P) Q := by
  refine hf_aload_n dX11_init_54 rfl rfl ?_
  refine hf_new_p (c := 4) (k := 20) (n := 1180) (m := 2) (a := 135) (by omega) (by decide +kernel) dX11_init_55 (by decide) hw261 hw262 hw10 (hN 135 (by decide) (by decide)) ?_
  refine hf_dup dX11_init_58 rfl ?_
  refine hf_aload_n dX11_init_59 rfl rfl ?_
  refine hf_getr (b := 101) (c := 11) (j := 0) dX11_init_60 (hs.2.1 100 _ rfl) (by omega) (by decide) (by decide) hw365 rfl hp0 ?_
  refine hf_aload_n dX11_init_63 rfl rfl ?_
  refine hf_getr (b := 132) (c := 11) (j := 4) dX11_init_64 (hs.2.1 100 _ rfl) (by omega) (by decide) (by decide) hw369 rfl hp4 ?_
  refine hf_callI (k1 := 0) (n1 := 0) (as := [.ref 101, .ref 132]) ok_X4_init rfl rfl dX11_init_67 hw263 hw264 rfl (Nat.le_of_ble_eq_true rfl) rfl (Nat.le_of_ble_eq_true rfl) (by decide) (by decide) ?_
  show hf_G X Y_X4_init (d + 4) _ _ 0 [some (.ref 135), some (.ref 101), some (.ref 132)] [] ((35 + 1), T, I, L, P) _
  refine hf_aload_n dX4_init_0 rfl rfl ?_
  refine hf_objInit dX4_init_1 hw266 hw29 hf_obj (by decide) ?_
  refine hf_aload_n dX4_init_4 rfl rfl ?_
  refine hf_aload_n dX4_init_5 rfl rfl ?_
  refine hf_putr (c := 4) (j := 0) dX4_init_6 (hs.2.1 135 _ rfl) (by omega) (by decide) (by decide) hw267 (Or.inr ⟨rfl, rfl, rfl⟩) rfl ?_
  replace hN : (∀ a, 136 ≤ a → a < 181 → jk_nw T I L (hf_upP P 135 0 (some 101)) a (hf_sTl.getD (a - 100) (0, 0))) := fun a h1 h2 => jk_upP (by omega) (hN a (by omega) h2)
  refine hf_aload_n dX4_init_9 rfl rfl ?_
  refine hf_aload_n dX4_init_10 rfl rfl ?_
  refine hf_putr (c := 4) (j := 1) dX4_init_11 (hs.2.1 135 _ rfl) (by omega) (by decide) (by decide) hw268 (Or.inr ⟨rfl, rfl, rfl⟩) rfl ?_
  replace hN : (∀ a, 136 ≤ a → a < 181 → jk_nw T I L (hf_upP (hf_upP P 135 0 (some 101)) 135 1 (some 132)) a (hf_sTl.getD (a - 100) (0, 0))) := fun a h1 h2 => jk_upP (by omega) (hN a (by omega) h2)
  refine hf_return dX4_init_14 rfl ?_
  show hf_G X Y_X11_init (d + 5) _ _ 70 [some (.ref 100)] [.ref 135, .ref 100] ((35 + 1), T, I, L, (hf_upP (hf_upP P 135 0 (some 101)) 135 1 (some 132))) _
  refine hf_putr (c := 11) (j := 5) dX11_init_70 (hs.2.1 100 _ rfl) (by omega) (by decide) (by decide) hw370 (Or.inr ⟨rfl, rfl, rfl⟩) rfl ?_
  replace hN : (∀ a, 136 ≤ a → a < 181 → jk_nw T I L (hf_upP (hf_upP (hf_upP P 135 0 (some 101)) 135 1 (some 132)) 100 5 (some 135)) a (hf_sTl.getD (a - 100) (0, 0))) := fun a h1 h2 => jk_upP (by omega) (hN a (by omega) h2)
  exact h (fun a h1 h2 => hN a (by omega) h2)

set_option maxHeartbeats 4000000 in
theorem w_X11_init_73_k {X : hf_X} {d : Nat} {T : hf_T} {I : hf_I} {L : hf_L} {P : hf_P} {Q : Option Value → hf_M → Prop} (hs : hf_Ly T) (hp0 : P 100 0 = some 101) (hp5 : P 100 5 = some 135) (hN : (∀ a, 136 ≤ a → a < 181 → jk_nw T I L P a (hf_sTl.getD (a - 100) (0, 0)))) (h : (∀ a, 144 ≤ a → a < 181 → jk_nw T (hf_up (hf_up (hf_up (hf_up (hf_up (hf_up (hf_up (hf_up (hf_up I 136 9 0) 136 10 0) 136 11 0) 136 12 0) 136 13 0) 136 14 0) 136 15 (-1)) 136 17 0) 136 18 (-1)) (hf_upL (hf_upL L 136 16 1152921504606846976) 136 19 1152921504606846976) (hf_upP (hf_upP (hf_upP (hf_upP (hf_upP (hf_upP (hf_upP (hf_upP (hf_upP (hf_upP P 136 2 (some 137)) 136 3 (some 138)) 136 4 (some 139)) 136 5 (some 140)) 136 6 (some 141)) 136 7 (some 142)) 136 8 (some 143)) 136 0 (some 101)) 136 1 (some 135)) 100 6 (some 136)) a (hf_sTl.getD (a - 100) (0, 0))) → hf_G X Y_X11_init (d + 5) 12 930 92 [some (.ref 100)] [] (44, T, (hf_up (hf_up (hf_up (hf_up (hf_up (hf_up (hf_up (hf_up (hf_up I 136 9 0) 136 10 0) 136 11 0) 136 12 0) 136 13 0) 136 14 0) 136 15 (-1)) 136 17 0) 136 18 (-1)), (hf_upL (hf_upL L 136 16 1152921504606846976) 136 19 1152921504606846976), (hf_upP (hf_upP (hf_upP (hf_upP (hf_upP (hf_upP (hf_upP (hf_upP (hf_upP (hf_upP P 136 2 (some 137)) 136 3 (some 138)) 136 4 (some 139)) 136 5 (some 140)) 136 6 (some 141)) 136 7 (some 142)) 136 8 (some 143)) 136 0 (some 101)) 136 1 (some 135)) 100 6 (some 136))) Q) : hf_G X Y_X11_init (d + 5) 20 1180 73 [some (.ref 100)] [] (36, T, I, L, P) Q := by
  refine hf_aload_n dX11_init_73 rfl rfl ?_
  refine hf_new_p (c := 8) (k := 19) (n := 1160) (m := 20) (a := 136) (by omega) (by decide +kernel) dX11_init_74 (by decide) hw271 hw272 hw11 (hN 136 (by decide) (by decide)) ?_
  refine hf_dup dX11_init_77 rfl ?_
  refine hf_aload_n dX11_init_78 rfl rfl ?_
  refine hf_getr (b := 101) (c := 11) (j := 0) dX11_init_79 (hs.2.1 100 _ rfl) (by omega) (by decide) (by decide) hw365 rfl hp0 ?_
  refine hf_aload_n dX11_init_82 rfl rfl ?_
  refine hf_getr (b := 135) (c := 11) (j := 5) dX11_init_83 (hs.2.1 100 _ rfl) (by omega) (by decide) (by decide) hw370 rfl hp5 ?_
  refine hf_callI (k1 := 7) (n1 := 230) (as := [.ref 101, .ref 135]) ok_X8_init rfl rfl dX11_init_86 hw273 hw274 rfl (Nat.le_of_ble_eq_true rfl) rfl (Nat.le_of_ble_eq_true rfl) (by decide) (by decide) ?_
  show hf_G X Y_X8_init (d + 4) _ _ 0 [some (.ref 136), some (.ref 101), some (.ref 135)] [] ((36 + 1), T, I, L, P) _
  refine hf_aload_n dX8_init_0 rfl rfl ?_
  refine hf_objInit dX8_init_1 hw276 hw29 hf_obj (by decide) ?_
  refine hf_aload_n dX8_init_4 rfl rfl ?_
  refine hf_bipush (v := 16) dX8_init_5 (by decide) ?_
  refine hf_newa_p (k := 6) (n := 214) (z := 16) (zm := 16) (kd := 100) (a := 137) (by omega) dX8_init_7 hw70 (Or.inl ⟨rfl, rfl⟩) (by decide) rfl (Nat.le_refl _) (by decide) (hN 137 (by decide) (by decide)) ?_
  refine hf_putr (c := 8) (j := 2) dX8_init_9 (hs.2.1 136 _ rfl) (by omega) (by decide) (by decide) hw280 (Or.inr ⟨rfl, rfl, rfl⟩) rfl ?_
  replace hN : (∀ a, 138 ≤ a → a < 181 → jk_nw T I L (hf_upP P 136 2 (some 137)) a (hf_sTl.getD (a - 100) (0, 0))) := fun a h1 h2 => jk_upP (by omega) (hN a (by omega) h2)
  refine hf_aload_n dX8_init_12 rfl rfl ?_
  refine hf_bipush (v := 16) dX8_init_13 (by decide) ?_
  refine hf_newa_p (k := 5) (n := 198) (z := 16) (zm := 16) (kd := 100) (a := 138) (by omega) dX8_init_15 hw70 (Or.inl ⟨rfl, rfl⟩) (by decide) rfl (Nat.le_refl _) (by decide) (hN 138 (by decide) (by decide)) ?_
  refine hf_putr (c := 8) (j := 3) dX8_init_17 (hs.2.1 136 _ rfl) (by omega) (by decide) (by decide) hw281 (Or.inr ⟨rfl, rfl, rfl⟩) rfl ?_
  replace hN : (∀ a, 139 ≤ a → a < 181 → jk_nw T I L (hf_upP (hf_upP P 136 2 (some 137)) 136 3 (some 138)) a (hf_sTl.getD (a - 100) (0, 0))) := fun a h1 h2 => jk_upP (by omega) (hN a (by omega) h2)
  refine hf_aload_n dX8_init_20 rfl rfl ?_
  refine hf_bipush (v := 18) dX8_init_21 (by decide) ?_
  refine hf_newa_p (k := 4) (n := 180) (z := 18) (zm := 18) (kd := 100) (a := 139) (by omega) dX8_init_23 hw70 (Or.inl ⟨rfl, rfl⟩) (by decide) rfl (Nat.le_refl _) (by decide) (hN 139 (by decide) (by decide)) ?_
  refine hf_putr (c := 8) (j := 4) dX8_init_25 (hs.2.1 136 _ rfl) (by omega) (by decide) (by decide) hw282 (Or.inr ⟨rfl, rfl, rfl⟩) rfl ?_
  replace hN : (∀ a, 140 ≤ a → a < 181 → jk_nw T I L (hf_upP (hf_upP (hf_upP P 136 2 (some 137)) 136 3 (some 138)) 136 4 (some 139)) a (hf_sTl.getD (a - 100) (0, 0))) := fun a h1 h2 => jk_upP (by omega) (hN a (by omega) h2)
  refine hf_aload_n dX8_init_28 rfl rfl ?_
  refine hf_bipush (v := 6) dX8_init_29 (by decide) ?_
  refine hf_newa_p (k := 3) (n := 174) (z := 6) (zm := 6) (kd := 100) (a := 140) (by omega) dX8_init_31 hw70 (Or.inl ⟨rfl, rfl⟩) (by decide) rfl (Nat.le_refl _) (by decide) (hN 140 (by decide) (by decide)) ?_
  refine hf_putr (c := 8) (j := 5) dX8_init_33 (hs.2.1 136 _ rfl) (by omega) (by decide) (by decide) hw283 (Or.inr ⟨rfl, rfl, rfl⟩) rfl ?_
  replace hN : (∀ a, 141 ≤ a → a < 181 → jk_nw T I L (hf_upP (hf_upP (hf_upP (hf_upP P 136 2 (some 137)) 136 3 (some 138)) 136 4 (some 139)) 136 5 (some 140)) a (hf_sTl.getD (a - 100) (0, 0))) := fun a h1 h2 => jk_upP (by omega) (hN a (by omega) h2)
  refine hf_aload_n dX8_init_36 rfl rfl ?_
  refine hf_bipush (v := 6) dX8_init_37 (by decide) ?_
  refine hf_newa_p (k := 2) (n := 168) (z := 6) (zm := 6) (kd := 100) (a := 141) (by omega) dX8_init_39 hw70 (Or.inl ⟨rfl, rfl⟩) (by decide) rfl (Nat.le_refl _) (by decide) (hN 141 (by decide) (by decide)) ?_
  refine hf_putr (c := 8) (j := 6) dX8_init_41 (hs.2.1 136 _ rfl) (by omega) (by decide) (by decide) hw284 (Or.inr ⟨rfl, rfl, rfl⟩) rfl ?_
  replace hN : (∀ a, 142 ≤ a → a < 181 → jk_nw T I L (hf_upP (hf_upP (hf_upP (hf_upP (hf_upP P 136 2 (some 137)) 136 3 (some 138)) 136 4 (some 139)) 136 5 (some 140)) 136 6 (some 141)) a (hf_sTl.getD (a - 100) (0, 0))) := fun a h1 h2 => jk_upP (by omega) (hN a (by omega) h2)
  refine hf_aload_n dX8_init_44 rfl rfl ?_
  refine hf_sipush (v := 144) dX8_init_45 (by decide) ?_
  refine hf_newa_p (k := 1) (n := 24) (z := 144) (zm := 144) (kd := 103) (a := 142) (by omega) dX8_init_48 hw322 (Or.inr (Or.inr (Or.inr ⟨rfl, rfl⟩))) (by decide) rfl (Nat.le_refl _) (by decide) (hN 142 (by decide) (by decide)) ?_
  refine hf_putr (c := 8) (j := 7) dX8_init_50 (hs.2.1 136 _ rfl) (by omega) (by decide) (by decide) hw285 (Or.inr ⟨rfl, rfl, rfl⟩) rfl ?_
  replace hN : (∀ a, 143 ≤ a → a < 181 → jk_nw T I L (hf_upP (hf_upP (hf_upP (hf_upP (hf_upP (hf_upP P 136 2 (some 137)) 136 3 (some 138)) 136 4 (some 139)) 136 5 (some 140)) 136 6 (some 141)) 136 7 (some 142)) a (hf_sTl.getD (a - 100) (0, 0))) := fun a h1 h2 => jk_upP (by omega) (hN a (by omega) h2)
  refine hf_aload_n dX8_init_53 rfl rfl ?_
  refine hf_bipush (v := 24) dX8_init_54 (by decide) ?_
  refine hf_newa_p (k := 0) (n := 0) (z := 24) (zm := 24) (kd := 100) (a := 143) (by omega) dX8_init_56 hw70 (Or.inl ⟨rfl, rfl⟩) (by decide) rfl (Nat.le_refl _) (by decide) (hN 143 (by decide) (by decide)) ?_
  refine hf_putr (c := 8) (j := 8) dX8_init_58 (hs.2.1 136 _ rfl) (by omega) (by decide) (by decide) hw286 (Or.inr ⟨rfl, rfl, rfl⟩) rfl ?_
  replace hN : (∀ a, 144 ≤ a → a < 181 → jk_nw T I L (hf_upP (hf_upP (hf_upP (hf_upP (hf_upP (hf_upP (hf_upP P 136 2 (some 137)) 136 3 (some 138)) 136 4 (some 139)) 136 5 (some 140)) 136 6 (some 141)) 136 7 (some 142)) 136 8 (some 143)) a (hf_sTl.getD (a - 100) (0, 0))) := fun a h1 h2 => jk_upP (by omega) (hN a (by omega) h2)
  refine hf_aload_n dX8_init_61 rfl rfl ?_
  refine hf_iconst (v := 0) dX8_init_62 (by decide) ?_
  refine hf_puti (c := 8) (j := 9) dX8_init_63 (hs.2.1 136 _ rfl) (by omega) (by decide) (by decide) hw287 rfl rfl ?_
  replace hN : (∀ a, 144 ≤ a → a < 181 → jk_nw T (hf_up I 136 9 0) L (hf_upP (hf_upP (hf_upP (hf_upP (hf_upP (hf_upP (hf_upP P 136 2 (some 137)) 136 3 (some 138)) 136 4 (some 139)) 136 5 (some 140)) 136 6 (some 141)) 136 7 (some 142)) 136 8 (some 143)) a (hf_sTl.getD (a - 100) (0, 0))) := fun a h1 h2 => jk_up (by omega) (hN a (by omega) h2)
  refine hf_aload_n dX8_init_66 rfl rfl ?_
  refine hf_iconst (v := 0) dX8_init_67 (by decide) ?_
  refine hf_puti (c := 8) (j := 10) dX8_init_68 (hs.2.1 136 _ rfl) (by omega) (by decide) (by decide) hw288 rfl rfl ?_
  replace hN : (∀ a, 144 ≤ a → a < 181 → jk_nw T (hf_up (hf_up I 136 9 0) 136 10 0) L (hf_upP (hf_upP (hf_upP (hf_upP (hf_upP (hf_upP (hf_upP P 136 2 (some 137)) 136 3 (some 138)) 136 4 (some 139)) 136 5 (some 140)) 136 6 (some 141)) 136 7 (some 142)) 136 8 (some 143)) a (hf_sTl.getD (a - 100) (0, 0))) := fun a h1 h2 => jk_up (by omega) (hN a (by omega) h2)
  refine hf_aload_n dX8_init_71 rfl rfl ?_
  refine hf_iconst (v := 0) dX8_init_72 (by decide) ?_
  refine hf_puti (c := 8) (j := 11) dX8_init_73 (hs.2.1 136 _ rfl) (by omega) (by decide) (by decide) hw289 rfl rfl ?_
  replace hN : (∀ a, 144 ≤ a → a < 181 → jk_nw T (hf_up (hf_up (hf_up I 136 9 0) 136 10 0) 136 11 0) L (hf_upP (hf_upP (hf_upP (hf_upP (hf_upP (hf_upP (hf_upP P 136 2 (some 137)) 136 3 (some 138)) 136 4 (some 139)) 136 5 (some 140)) 136 6 (some 141)) 136 7 (some 142)) 136 8 (some 143)) a (hf_sTl.getD (a - 100) (0, 0))) := fun a h1 h2 => jk_up (by omega) (hN a (by omega) h2)
  refine hf_aload_n dX8_init_76 rfl rfl ?_
  refine hf_iconst (v := 0) dX8_init_77 (by decide) ?_
  refine hf_puti (c := 8) (j := 12) dX8_init_78 (hs.2.1 136 _ rfl) (by omega) (by decide) (by decide) hw290 rfl rfl ?_
  replace hN : (∀ a, 144 ≤ a → a < 181 → jk_nw T (hf_up (hf_up (hf_up (hf_up I 136 9 0) 136 10 0) 136 11 0) 136 12 0) L (hf_upP (hf_upP (hf_upP (hf_upP (hf_upP (hf_upP (hf_upP P 136 2 (some 137)) 136 3 (some 138)) 136 4 (some 139)) 136 5 (some 140)) 136 6 (some 141)) 136 7 (some 142)) 136 8 (some 143)) a (hf_sTl.getD (a - 100) (0, 0))) := fun a h1 h2 => jk_up (by omega) (hN a (by omega) h2)
  refine hf_aload_n dX8_init_81 rfl rfl ?_
  refine hf_iconst (v := 0) dX8_init_82 (by decide) ?_
  refine hf_puti (c := 8) (j := 13) dX8_init_83 (hs.2.1 136 _ rfl) (by omega) (by decide) (by decide) hw291 rfl rfl ?_
  replace hN : (∀ a, 144 ≤ a → a < 181 → jk_nw T (hf_up (hf_up (hf_up (hf_up (hf_up I 136 9 0) 136 10 0) 136 11 0) 136 12 0) 136 13 0) L (hf_upP (hf_upP (hf_upP (hf_upP (hf_upP (hf_upP (hf_upP P 136 2 (some 137)) 136 3 (some 138)) 136 4 (some 139)) 136 5 (some 140)) 136 6 (some 141)) 136 7 (some 142)) 136 8 (some 143)) a (hf_sTl.getD (a - 100) (0, 0))) := fun a h1 h2 => jk_up (by omega) (hN a (by omega) h2)
  refine hf_aload_n dX8_init_86 rfl rfl ?_
  refine hf_iconst (v := 0) dX8_init_87 (by decide) ?_
  refine hf_putz (c := 8) (j := 14) dX8_init_88 (hs.2.1 136 _ rfl) (by omega) (by decide) (by decide) hw292 rfl rfl (by decide) ?_
  replace hN : (∀ a, 144 ≤ a → a < 181 → jk_nw T (hf_up (hf_up (hf_up (hf_up (hf_up (hf_up I 136 9 0) 136 10 0) 136 11 0) 136 12 0) 136 13 0) 136 14 0) L (hf_upP (hf_upP (hf_upP (hf_upP (hf_upP (hf_upP (hf_upP P 136 2 (some 137)) 136 3 (some 138)) 136 4 (some 139)) 136 5 (some 140)) 136 6 (some 141)) 136 7 (some 142)) 136 8 (some 143)) a (hf_sTl.getD (a - 100) (0, 0))) := fun a h1 h2 => jk_up (by omega) (hN a (by omega) h2)
  refine hf_aload_n dX8_init_91 rfl rfl ?_
  refine hf_iconst (v := (-1)) dX8_init_92 (by decide) ?_
  refine hf_puti (c := 8) (j := 15) dX8_init_93 (hs.2.1 136 _ rfl) (by omega) (by decide) (by decide) hw293 rfl rfl ?_
  replace hN : (∀ a, 144 ≤ a → a < 181 → jk_nw T (hf_up (hf_up (hf_up (hf_up (hf_up (hf_up (hf_up I 136 9 0) 136 10 0) 136 11 0) 136 12 0) 136 13 0) 136 14 0) 136 15 (-1)) L (hf_upP (hf_upP (hf_upP (hf_upP (hf_upP (hf_upP (hf_upP P 136 2 (some 137)) 136 3 (some 138)) 136 4 (some 139)) 136 5 (some 140)) 136 6 (some 141)) 136 7 (some 142)) 136 8 (some 143)) a (hf_sTl.getD (a - 100) (0, 0))) := fun a h1 h2 => jk_up (by omega) (hN a (by omega) h2)
  refine hf_aload_n dX8_init_96 rfl rfl ?_
  refine hf_ldc2 (v := 1152921504606846976) dX8_init_97 hw277 ?_
  refine hf_putl (c := 8) (j := 16) dX8_init_100 (hs.2.1 136 _ rfl) (by omega) (by decide) (by decide) hw294 rfl rfl ?_
  replace hN : (∀ a, 144 ≤ a → a < 181 → jk_nw T (hf_up (hf_up (hf_up (hf_up (hf_up (hf_up (hf_up I 136 9 0) 136 10 0) 136 11 0) 136 12 0) 136 13 0) 136 14 0) 136 15 (-1)) (hf_upL L 136 16 1152921504606846976) (hf_upP (hf_upP (hf_upP (hf_upP (hf_upP (hf_upP (hf_upP P 136 2 (some 137)) 136 3 (some 138)) 136 4 (some 139)) 136 5 (some 140)) 136 6 (some 141)) 136 7 (some 142)) 136 8 (some 143)) a (hf_sTl.getD (a - 100) (0, 0))) := fun a h1 h2 => jk_upL (by omega) (hN a (by omega) h2)
  refine hf_aload_n dX8_init_103 rfl rfl ?_
  refine hf_iconst (v := 0) dX8_init_104 (by decide) ?_
  refine hf_puti (c := 8) (j := 17) dX8_init_105 (hs.2.1 136 _ rfl) (by omega) (by decide) (by decide) hw296 rfl rfl ?_
  replace hN : (∀ a, 144 ≤ a → a < 181 → jk_nw T (hf_up (hf_up (hf_up (hf_up (hf_up (hf_up (hf_up (hf_up I 136 9 0) 136 10 0) 136 11 0) 136 12 0) 136 13 0) 136 14 0) 136 15 (-1)) 136 17 0) (hf_upL L 136 16 1152921504606846976) (hf_upP (hf_upP (hf_upP (hf_upP (hf_upP (hf_upP (hf_upP P 136 2 (some 137)) 136 3 (some 138)) 136 4 (some 139)) 136 5 (some 140)) 136 6 (some 141)) 136 7 (some 142)) 136 8 (some 143)) a (hf_sTl.getD (a - 100) (0, 0))) := fun a h1 h2 => jk_up (by omega) (hN a (by omega) h2)
  refine hf_aload_n dX8_init_108 rfl rfl ?_
  refine hf_iconst (v := (-1)) dX8_init_109 (by decide) ?_
  refine hf_puti (c := 8) (j := 18) dX8_init_110 (hs.2.1 136 _ rfl) (by omega) (by decide) (by decide) hw298 rfl rfl ?_
  replace hN : (∀ a, 144 ≤ a → a < 181 → jk_nw T (hf_up (hf_up (hf_up (hf_up (hf_up (hf_up (hf_up (hf_up (hf_up I 136 9 0) 136 10 0) 136 11 0) 136 12 0) 136 13 0) 136 14 0) 136 15 (-1)) 136 17 0) 136 18 (-1)) (hf_upL L 136 16 1152921504606846976) (hf_upP (hf_upP (hf_upP (hf_upP (hf_upP (hf_upP (hf_upP P 136 2 (some 137)) 136 3 (some 138)) 136 4 (some 139)) 136 5 (some 140)) 136 6 (some 141)) 136 7 (some 142)) 136 8 (some 143)) a (hf_sTl.getD (a - 100) (0, 0))) := fun a h1 h2 => jk_up (by omega) (hN a (by omega) h2)
  refine hf_aload_n dX8_init_113 rfl rfl ?_
  refine hf_ldc2 (v := 1152921504606846976) dX8_init_114 hw277 ?_
  refine hf_putl (c := 8) (j := 19) dX8_init_117 (hs.2.1 136 _ rfl) (by omega) (by decide) (by decide) hw300 rfl rfl ?_
  replace hN : (∀ a, 144 ≤ a → a < 181 → jk_nw T (hf_up (hf_up (hf_up (hf_up (hf_up (hf_up (hf_up (hf_up (hf_up I 136 9 0) 136 10 0) 136 11 0) 136 12 0) 136 13 0) 136 14 0) 136 15 (-1)) 136 17 0) 136 18 (-1)) (hf_upL (hf_upL L 136 16 1152921504606846976) 136 19 1152921504606846976) (hf_upP (hf_upP (hf_upP (hf_upP (hf_upP (hf_upP (hf_upP P 136 2 (some 137)) 136 3 (some 138)) 136 4 (some 139)) 136 5 (some 140)) 136 6 (some 141)) 136 7 (some 142)) 136 8 (some 143)) a (hf_sTl.getD (a - 100) (0, 0))) := fun a h1 h2 => jk_upL (by omega) (hN a (by omega) h2)
  refine hf_aload_n dX8_init_120 rfl rfl ?_
  refine hf_aload_n dX8_init_121 rfl rfl ?_
  refine hf_putr (c := 8) (j := 0) dX8_init_122 (hs.2.1 136 _ rfl) (by omega) (by decide) (by decide) hw278 (Or.inr ⟨rfl, rfl, rfl⟩) rfl ?_
  replace hN : (∀ a, 144 ≤ a → a < 181 → jk_nw T (hf_up (hf_up (hf_up (hf_up (hf_up (hf_up (hf_up (hf_up (hf_up I 136 9 0) 136 10 0) 136 11 0) 136 12 0) 136 13 0) 136 14 0) 136 15 (-1)) 136 17 0) 136 18 (-1)) (hf_upL (hf_upL L 136 16 1152921504606846976) 136 19 1152921504606846976) (hf_upP (hf_upP (hf_upP (hf_upP (hf_upP (hf_upP (hf_upP (hf_upP P 136 2 (some 137)) 136 3 (some 138)) 136 4 (some 139)) 136 5 (some 140)) 136 6 (some 141)) 136 7 (some 142)) 136 8 (some 143)) 136 0 (some 101)) a (hf_sTl.getD (a - 100) (0, 0))) := fun a h1 h2 => jk_upP (by omega) (hN a (by omega) h2)
  refine hf_aload_n dX8_init_125 rfl rfl ?_
  refine hf_aload_n dX8_init_126 rfl rfl ?_
  refine hf_putr (c := 8) (j := 1) dX8_init_127 (hs.2.1 136 _ rfl) (by omega) (by decide) (by decide) hw279 (Or.inr ⟨rfl, rfl, rfl⟩) rfl ?_
  replace hN : (∀ a, 144 ≤ a → a < 181 → jk_nw T (hf_up (hf_up (hf_up (hf_up (hf_up (hf_up (hf_up (hf_up (hf_up I 136 9 0) 136 10 0) 136 11 0) 136 12 0) 136 13 0) 136 14 0) 136 15 (-1)) 136 17 0) 136 18 (-1)) (hf_upL (hf_upL L 136 16 1152921504606846976) 136 19 1152921504606846976) (hf_upP (hf_upP (hf_upP (hf_upP (hf_upP (hf_upP (hf_upP (hf_upP (hf_upP P 136 2 (some 137)) 136 3 (some 138)) 136 4 (some 139)) 136 5 (some 140)) 136 6 (some 141)) 136 7 (some 142)) 136 8 (some 143)) 136 0 (some 101)) 136 1 (some 135)) a (hf_sTl.getD (a - 100) (0, 0))) := fun a h1 h2 => jk_upP (by omega) (hN a (by omega) h2)
  refine hf_return dX8_init_130 rfl ?_
  show hf_G X Y_X11_init (d + 5) _ _ 89 [some (.ref 100)] [.ref 136, .ref 100] (((((((((36 + 1) + 1) + 1) + 1) + 1) + 1) + 1) + 1), T, (hf_up (hf_up (hf_up (hf_up (hf_up (hf_up (hf_up (hf_up (hf_up I 136 9 0) 136 10 0) 136 11 0) 136 12 0) 136 13 0) 136 14 0) 136 15 (-1)) 136 17 0) 136 18 (-1)), (hf_upL (hf_upL L 136 16 1152921504606846976) 136 19 1152921504606846976), (hf_upP (hf_upP (hf_upP (hf_upP (hf_upP (hf_upP (hf_upP (hf_upP (hf_upP P 136 2 (some 137)) 136 3 (some 138)) 136 4 (some 139)) 136 5 (some 140)) 136 6 (some 141)) 136 7 (some 142)) 136 8 (some 143)) 136 0 (some 101)) 136 1 (some 135))) _
  refine hf_putr (c := 11) (j := 6) dX11_init_89 (hs.2.1 100 _ rfl) (by omega) (by decide) (by decide) hw371 (Or.inr ⟨rfl, rfl, rfl⟩) rfl ?_
  replace hN : (∀ a, 144 ≤ a → a < 181 → jk_nw T (hf_up (hf_up (hf_up (hf_up (hf_up (hf_up (hf_up (hf_up (hf_up I 136 9 0) 136 10 0) 136 11 0) 136 12 0) 136 13 0) 136 14 0) 136 15 (-1)) 136 17 0) 136 18 (-1)) (hf_upL (hf_upL L 136 16 1152921504606846976) 136 19 1152921504606846976) (hf_upP (hf_upP (hf_upP (hf_upP (hf_upP (hf_upP (hf_upP (hf_upP (hf_upP (hf_upP P 136 2 (some 137)) 136 3 (some 138)) 136 4 (some 139)) 136 5 (some 140)) 136 6 (some 141)) 136 7 (some 142)) 136 8 (some 143)) 136 0 (some 101)) 136 1 (some 135)) 100 6 (some 136)) a (hf_sTl.getD (a - 100) (0, 0))) := fun a h1 h2 => jk_upP (by omega) (hN a (by omega) h2)
  exact h (fun a h1 h2 => hN a (by omega) h2)

set_option maxHeartbeats 4000000 in
theorem w_X11_init_92_k {X : hf_X} {d : Nat} {T : hf_T} {I : hf_I} {L : hf_L} {P : hf_P} {Q : Option Value → hf_M → Prop} (hs : hf_Ly T) (hN : (∀ a, 144 ≤ a → a < 181 → jk_nw T I L P a (hf_sTl.getD (a - 100) (0, 0)))) (h : (∀ a, 146 ≤ a → a < 181 → jk_nw T (hf_up (hf_up (hf_up (hf_up I 144 1 0) 144 2 0) 144 3 0) 144 4 0) L (hf_upP (hf_upP P 144 0 (some 145)) 100 7 (some 144)) a (hf_sTl.getD (a - 100) (0, 0))) → hf_G X Y_X11_init (d + 5) 10 917 103 [some (.ref 100)] [] (46, T, (hf_up (hf_up (hf_up (hf_up I 144 1 0) 144 2 0) 144 3 0) 144 4 0), L, (hf_upP (hf_upP P 144 0 (some 145)) 100 7 (some 144))) Q) : hf_G X Y_X11_init (d + 5) 12 930 92 [some (.ref 100)] [] (44, T, I, L, P) Q := by
  refine hf_aload_n dX11_init_92 rfl rfl ?_
  refine hf_new_p (c := 2) (k := 11) (n := 925) (m := 5) (a := 144) (by omega) (by decide +kernel) dX11_init_93 (by decide) hw323 hw324 hw12 (hN 144 (by decide) (by decide)) ?_
  refine hf_dup dX11_init_96 rfl ?_
  refine hf_callIN (host := RX11) (k1 := 1) (n1 := 8) (as := []) ok_X2_init rfl rfl dX11_init_97 (by decide +kernel) hw325 rfl (Nat.le_of_ble_eq_true rfl) rfl (Nat.le_of_ble_eq_true rfl) (by decide) (by decide) ?_
  show hf_G X Y_X2_init (d + 4) _ _ 0 [some (.ref 144)] [] ((44 + 1), T, I, L, P) _
  refine hf_aload_n dX2_init_0 rfl rfl ?_
  refine hf_objInit dX2_init_1 hw327 hw29 hf_obj (by decide) ?_
  refine hf_aload_n dX2_init_4 rfl rfl ?_
  refine hf_bipush (v := 8) dX2_init_5 (by decide) ?_
  refine hf_newa_p (k := 0) (n := 0) (z := 8) (zm := 8) (kd := 100) (a := 145) (by omega) dX2_init_7 hw70 (Or.inl ⟨rfl, rfl⟩) (by decide) rfl (Nat.le_refl _) (by decide) (hN 145 (by decide) (by decide)) ?_
  refine hf_putr (c := 2) (j := 0) dX2_init_9 (hs.2.1 144 _ rfl) (by omega) (by decide) (by decide) hw328 (Or.inr ⟨rfl, rfl, rfl⟩) rfl ?_
  replace hN : (∀ a, 146 ≤ a → a < 181 → jk_nw T I L (hf_upP P 144 0 (some 145)) a (hf_sTl.getD (a - 100) (0, 0))) := fun a h1 h2 => jk_upP (by omega) (hN a (by omega) h2)
  refine hf_aload_n dX2_init_12 rfl rfl ?_
  refine hf_iconst (v := 0) dX2_init_13 (by decide) ?_
  refine hf_puti (c := 2) (j := 1) dX2_init_14 (hs.2.1 144 _ rfl) (by omega) (by decide) (by decide) hw329 rfl rfl ?_
  replace hN : (∀ a, 146 ≤ a → a < 181 → jk_nw T (hf_up I 144 1 0) L (hf_upP P 144 0 (some 145)) a (hf_sTl.getD (a - 100) (0, 0))) := fun a h1 h2 => jk_up (by omega) (hN a (by omega) h2)
  refine hf_aload_n dX2_init_17 rfl rfl ?_
  refine hf_iconst (v := 0) dX2_init_18 (by decide) ?_
  refine hf_puti (c := 2) (j := 2) dX2_init_19 (hs.2.1 144 _ rfl) (by omega) (by decide) (by decide) hw330 rfl rfl ?_
  replace hN : (∀ a, 146 ≤ a → a < 181 → jk_nw T (hf_up (hf_up I 144 1 0) 144 2 0) L (hf_upP P 144 0 (some 145)) a (hf_sTl.getD (a - 100) (0, 0))) := fun a h1 h2 => jk_up (by omega) (hN a (by omega) h2)
  refine hf_aload_n dX2_init_22 rfl rfl ?_
  refine hf_iconst (v := 0) dX2_init_23 (by decide) ?_
  refine hf_puti (c := 2) (j := 3) dX2_init_24 (hs.2.1 144 _ rfl) (by omega) (by decide) (by decide) hw332 rfl rfl ?_
  replace hN : (∀ a, 146 ≤ a → a < 181 → jk_nw T (hf_up (hf_up (hf_up I 144 1 0) 144 2 0) 144 3 0) L (hf_upP P 144 0 (some 145)) a (hf_sTl.getD (a - 100) (0, 0))) := fun a h1 h2 => jk_up (by omega) (hN a (by omega) h2)
  refine hf_aload_n dX2_init_27 rfl rfl ?_
  refine hf_iconst (v := 0) dX2_init_28 (by decide) ?_
  refine hf_puti (c := 2) (j := 4) dX2_init_29 (hs.2.1 144 _ rfl) (by omega) (by decide) (by decide) hw334 rfl rfl ?_
  replace hN : (∀ a, 146 ≤ a → a < 181 → jk_nw T (hf_up (hf_up (hf_up (hf_up I 144 1 0) 144 2 0) 144 3 0) 144 4 0) L (hf_upP P 144 0 (some 145)) a (hf_sTl.getD (a - 100) (0, 0))) := fun a h1 h2 => jk_up (by omega) (hN a (by omega) h2)
  refine hf_return dX2_init_32 rfl ?_
  show hf_G X Y_X11_init (d + 5) _ _ 100 [some (.ref 100)] [.ref 144, .ref 100] (((44 + 1) + 1), T, (hf_up (hf_up (hf_up (hf_up I 144 1 0) 144 2 0) 144 3 0) 144 4 0), L, (hf_upP P 144 0 (some 145))) _
  refine hf_putr (c := 11) (j := 7) dX11_init_100 (hs.2.1 100 _ rfl) (by omega) (by decide) (by decide) hw372 (Or.inr ⟨rfl, rfl, rfl⟩) rfl ?_
  replace hN : (∀ a, 146 ≤ a → a < 181 → jk_nw T (hf_up (hf_up (hf_up (hf_up I 144 1 0) 144 2 0) 144 3 0) 144 4 0) L (hf_upP (hf_upP P 144 0 (some 145)) 100 7 (some 144)) a (hf_sTl.getD (a - 100) (0, 0))) := fun a h1 h2 => jk_upP (by omega) (hN a (by omega) h2)
  exact h (fun a h1 h2 => hN a (by omega) h2)

set_option maxHeartbeats 4000000 in
theorem w_X11_init_103_k {X : hf_X} {d : Nat} {T : hf_T} {I : hf_I} {L : hf_L} {P : hf_P} {Q : Option Value → hf_M → Prop} (hs : hf_Ly T) (hN : (∀ a, 146 ≤ a → a < 181 → jk_nw T I L P a (hf_sTl.getD (a - 100) (0, 0)))) (h : (∀ a, 148 ≤ a → a < 181 → jk_nw T (hf_up I 146 1 0) L (hf_upP (hf_upP P 146 0 (some 147)) 100 8 (some 146)) a (hf_sTl.getD (a - 100) (0, 0))) → hf_G X Y_X11_init (d + 5) 8 903 114 [some (.ref 100)] [] (48, T, (hf_up I 146 1 0), L, (hf_upP (hf_upP P 146 0 (some 147)) 100 8 (some 146))) Q) : hf_G X Y_X11_init (d + 5) 10 917 103 [some (.ref 100)] [] (46, T, I, L, P) Q := by
  refine hf_aload_n dX11_init_103 rfl rfl ?_
  refine hf_new_p (c := 0) (k := 9) (n := 915) (m := 2) (a := 146) (by omega) (by decide +kernel) dX11_init_104 (by decide) hw341 hw342 hw13 (hN 146 (by decide) (by decide)) ?_
  refine hf_dup dX11_init_107 rfl ?_
  refine hf_callIN (host := RX11) (k1 := 1) (n1 := 12) (as := []) ok_X0_init rfl rfl dX11_init_108 (by decide +kernel) hw343 rfl (Nat.le_of_ble_eq_true rfl) rfl (Nat.le_of_ble_eq_true rfl) (by decide) (by decide) ?_
  show hf_G X Y_X0_init (d + 4) _ _ 0 [some (.ref 146)] [] ((46 + 1), T, I, L, P) _
  refine hf_aload_n dX0_init_0 rfl rfl ?_
  refine hf_objInit dX0_init_1 hw345 hw29 hf_obj (by decide) ?_
  refine hf_aload_n dX0_init_4 rfl rfl ?_
  refine hf_bipush (v := 12) dX0_init_5 (by decide) ?_
  refine hf_newa_p (k := 0) (n := 0) (z := 12) (zm := 12) (kd := 100) (a := 147) (by omega) dX0_init_7 hw70 (Or.inl ⟨rfl, rfl⟩) (by decide) rfl (Nat.le_refl _) (by decide) (hN 147 (by decide) (by decide)) ?_
  refine hf_putr (c := 0) (j := 0) dX0_init_9 (hs.2.1 146 _ rfl) (by omega) (by decide) (by decide) hw346 (Or.inr ⟨rfl, rfl, rfl⟩) rfl ?_
  replace hN : (∀ a, 148 ≤ a → a < 181 → jk_nw T I L (hf_upP P 146 0 (some 147)) a (hf_sTl.getD (a - 100) (0, 0))) := fun a h1 h2 => jk_upP (by omega) (hN a (by omega) h2)
  refine hf_aload_n dX0_init_12 rfl rfl ?_
  refine hf_iconst (v := 0) dX0_init_13 (by decide) ?_
  refine hf_puti (c := 0) (j := 1) dX0_init_14 (hs.2.1 146 _ rfl) (by omega) (by decide) (by decide) hw348 rfl rfl ?_
  replace hN : (∀ a, 148 ≤ a → a < 181 → jk_nw T (hf_up I 146 1 0) L (hf_upP P 146 0 (some 147)) a (hf_sTl.getD (a - 100) (0, 0))) := fun a h1 h2 => jk_up (by omega) (hN a (by omega) h2)
  refine hf_return dX0_init_17 rfl ?_
  show hf_G X Y_X11_init (d + 5) _ _ 111 [some (.ref 100)] [.ref 146, .ref 100] (((46 + 1) + 1), T, (hf_up I 146 1 0), L, (hf_upP P 146 0 (some 147))) _
  refine hf_putr (c := 11) (j := 8) dX11_init_111 (hs.2.1 100 _ rfl) (by omega) (by decide) (by decide) hw373 (Or.inr ⟨rfl, rfl, rfl⟩) rfl ?_
  replace hN : (∀ a, 148 ≤ a → a < 181 → jk_nw T (hf_up I 146 1 0) L (hf_upP (hf_upP P 146 0 (some 147)) 100 8 (some 146)) a (hf_sTl.getD (a - 100) (0, 0))) := fun a h1 h2 => jk_upP (by omega) (hN a (by omega) h2)
  exact h (fun a h1 h2 => hN a (by omega) h2)

set_option maxHeartbeats 4000000 in
theorem w_X11_init_114_k {X : hf_X} {d : Nat} {T : hf_T} {I : hf_I} {L : hf_L} {P : hf_P} {Q : Option Value → hf_M → Prop} (hs : hf_Ly T) (hN : (∀ a, 148 ≤ a → a < 181 → jk_nw T I L P a (hf_sTl.getD (a - 100) (0, 0)))) (h : (∀ a, 150 ≤ a → a < 181 → jk_nw T (hf_up (hf_up I 148 1 0) 148 2 0) L (hf_upP (hf_upP P 148 0 (some 149)) 100 9 (some 148)) a (hf_sTl.getD (a - 100) (0, 0))) → hf_G X Y_X11_init (d + 5) 6 468 125 [some (.ref 100)] [] (50, T, (hf_up (hf_up I 148 1 0) 148 2 0), L, (hf_upP (hf_upP P 148 0 (some 149)) 100 9 (some 148))) Q) : hf_G X Y_X11_init (d + 5) 8 903 114 [some (.ref 100)] [] (48, T, I, L, P) Q := by
  refine hf_aload_n dX11_init_114 rfl rfl ?_
  refine hf_new_p (c := 6) (k := 7) (n := 900) (m := 3) (a := 148) (by omega) (by decide +kernel) dX11_init_115 (by decide) hw352 hw353 hw14 (hN 148 (by decide) (by decide)) ?_
  refine hf_dup dX11_init_118 rfl ?_
  refine hf_callIN (host := RX11) (k1 := 1) (n1 := 432) (as := []) ok_X6_init rfl rfl dX11_init_119 (by decide +kernel) hw354 rfl (Nat.le_of_ble_eq_true rfl) rfl (Nat.le_of_ble_eq_true rfl) (by decide) (by decide) ?_
  show hf_G X Y_X6_init (d + 4) _ _ 0 [some (.ref 148)] [] ((48 + 1), T, I, L, P) _
  refine hf_aload_n dX6_init_0 rfl rfl ?_
  refine hf_objInit dX6_init_1 hw356 hw29 hf_obj (by decide) ?_
  refine hf_aload_n dX6_init_4 rfl rfl ?_
  refine hf_sipush (v := 432) dX6_init_5 (by decide) ?_
  refine hf_newa_p (k := 0) (n := 0) (z := 432) (zm := 432) (kd := 100) (a := 149) (by omega) dX6_init_8 hw70 (Or.inl ⟨rfl, rfl⟩) (by decide) rfl (Nat.le_refl _) (by decide) (hN 149 (by decide) (by decide)) ?_
  refine hf_putr (c := 6) (j := 0) dX6_init_10 (hs.2.1 148 _ rfl) (by omega) (by decide) (by decide) hw357 (Or.inr ⟨rfl, rfl, rfl⟩) rfl ?_
  replace hN : (∀ a, 150 ≤ a → a < 181 → jk_nw T I L (hf_upP P 148 0 (some 149)) a (hf_sTl.getD (a - 100) (0, 0))) := fun a h1 h2 => jk_upP (by omega) (hN a (by omega) h2)
  refine hf_aload_n dX6_init_13 rfl rfl ?_
  refine hf_iconst (v := 0) dX6_init_14 (by decide) ?_
  refine hf_puti (c := 6) (j := 1) dX6_init_15 (hs.2.1 148 _ rfl) (by omega) (by decide) (by decide) hw358 rfl rfl ?_
  replace hN : (∀ a, 150 ≤ a → a < 181 → jk_nw T (hf_up I 148 1 0) L (hf_upP P 148 0 (some 149)) a (hf_sTl.getD (a - 100) (0, 0))) := fun a h1 h2 => jk_up (by omega) (hN a (by omega) h2)
  refine hf_aload_n dX6_init_18 rfl rfl ?_
  refine hf_iconst (v := 0) dX6_init_19 (by decide) ?_
  refine hf_puti (c := 6) (j := 2) dX6_init_20 (hs.2.1 148 _ rfl) (by omega) (by decide) (by decide) hw359 rfl rfl ?_
  replace hN : (∀ a, 150 ≤ a → a < 181 → jk_nw T (hf_up (hf_up I 148 1 0) 148 2 0) L (hf_upP P 148 0 (some 149)) a (hf_sTl.getD (a - 100) (0, 0))) := fun a h1 h2 => jk_up (by omega) (hN a (by omega) h2)
  refine hf_return dX6_init_23 rfl ?_
  show hf_G X Y_X11_init (d + 5) _ _ 122 [some (.ref 100)] [.ref 148, .ref 100] (((48 + 1) + 1), T, (hf_up (hf_up I 148 1 0) 148 2 0), L, (hf_upP P 148 0 (some 149))) _
  refine hf_putr (c := 11) (j := 9) dX11_init_122 (hs.2.1 100 _ rfl) (by omega) (by decide) (by decide) hw374 (Or.inr ⟨rfl, rfl, rfl⟩) rfl ?_
  replace hN : (∀ a, 150 ≤ a → a < 181 → jk_nw T (hf_up (hf_up I 148 1 0) 148 2 0) L (hf_upP (hf_upP P 148 0 (some 149)) 100 9 (some 148)) a (hf_sTl.getD (a - 100) (0, 0))) := fun a h1 h2 => jk_upP (by omega) (hN a (by omega) h2)
  exact h (fun a h1 h2 => hN a (by omega) h2)

set_option maxHeartbeats 4000000 in
theorem w_X11_init_125_k {X : hf_X} {d : Nat} {T : hf_T} {I : hf_I} {L : hf_L} {P : hf_P} {Q : Option Value → hf_M → Prop} (hs : hf_Ly T) (hN : (∀ a, 150 ≤ a → a < 181 → jk_nw T I L P a (hf_sTl.getD (a - 100) (0, 0)))) (h : (∀ a, 152 ≤ a → a < 181 → jk_nw T (hf_up (hf_up I 150 1 0) 150 2 0) L (hf_upP (hf_upP P 150 0 (some 151)) 100 10 (some 150)) a (hf_sTl.getD (a - 100) (0, 0))) → hf_G X Y_X11_init (d + 5) 4 33 136 [some (.ref 100)] [] (52, T, (hf_up (hf_up I 150 1 0) 150 2 0), L, (hf_upP (hf_upP P 150 0 (some 151)) 100 10 (some 150))) Q) : hf_G X Y_X11_init (d + 5) 6 468 125 [some (.ref 100)] [] (50, T, I, L, P) Q := by
  refine hf_aload_n dX11_init_125 rfl rfl ?_
  refine hf_new_p (c := 6) (k := 5) (n := 465) (m := 3) (a := 150) (by omega) (by decide +kernel) dX11_init_126 (by decide) hw352 hw353 hw14 (hN 150 (by decide) (by decide)) ?_
  refine hf_dup dX11_init_129 rfl ?_
  refine hf_callIN (host := RX11) (k1 := 1) (n1 := 432) (as := []) ok_X6_init rfl rfl dX11_init_130 (by decide +kernel) hw354 rfl (Nat.le_of_ble_eq_true rfl) rfl (Nat.le_of_ble_eq_true rfl) (by decide) (by decide) ?_
  show hf_G X Y_X6_init (d + 4) _ _ 0 [some (.ref 150)] [] ((50 + 1), T, I, L, P) _
  refine hf_aload_n dX6_init_0 rfl rfl ?_
  refine hf_objInit dX6_init_1 hw356 hw29 hf_obj (by decide) ?_
  refine hf_aload_n dX6_init_4 rfl rfl ?_
  refine hf_sipush (v := 432) dX6_init_5 (by decide) ?_
  refine hf_newa_p (k := 0) (n := 0) (z := 432) (zm := 432) (kd := 100) (a := 151) (by omega) dX6_init_8 hw70 (Or.inl ⟨rfl, rfl⟩) (by decide) rfl (Nat.le_refl _) (by decide) (hN 151 (by decide) (by decide)) ?_
  refine hf_putr (c := 6) (j := 0) dX6_init_10 (hs.2.1 150 _ rfl) (by omega) (by decide) (by decide) hw357 (Or.inr ⟨rfl, rfl, rfl⟩) rfl ?_
  replace hN : (∀ a, 152 ≤ a → a < 181 → jk_nw T I L (hf_upP P 150 0 (some 151)) a (hf_sTl.getD (a - 100) (0, 0))) := fun a h1 h2 => jk_upP (by omega) (hN a (by omega) h2)
  refine hf_aload_n dX6_init_13 rfl rfl ?_
  refine hf_iconst (v := 0) dX6_init_14 (by decide) ?_
  refine hf_puti (c := 6) (j := 1) dX6_init_15 (hs.2.1 150 _ rfl) (by omega) (by decide) (by decide) hw358 rfl rfl ?_
  replace hN : (∀ a, 152 ≤ a → a < 181 → jk_nw T (hf_up I 150 1 0) L (hf_upP P 150 0 (some 151)) a (hf_sTl.getD (a - 100) (0, 0))) := fun a h1 h2 => jk_up (by omega) (hN a (by omega) h2)
  refine hf_aload_n dX6_init_18 rfl rfl ?_
  refine hf_iconst (v := 0) dX6_init_19 (by decide) ?_
  refine hf_puti (c := 6) (j := 2) dX6_init_20 (hs.2.1 150 _ rfl) (by omega) (by decide) (by decide) hw359 rfl rfl ?_
  replace hN : (∀ a, 152 ≤ a → a < 181 → jk_nw T (hf_up (hf_up I 150 1 0) 150 2 0) L (hf_upP P 150 0 (some 151)) a (hf_sTl.getD (a - 100) (0, 0))) := fun a h1 h2 => jk_up (by omega) (hN a (by omega) h2)
  refine hf_return dX6_init_23 rfl ?_
  show hf_G X Y_X11_init (d + 5) _ _ 133 [some (.ref 100)] [.ref 150, .ref 100] (((50 + 1) + 1), T, (hf_up (hf_up I 150 1 0) 150 2 0), L, (hf_upP P 150 0 (some 151))) _
  refine hf_putr (c := 11) (j := 10) dX11_init_133 (hs.2.1 100 _ rfl) (by omega) (by decide) (by decide) hw375 (Or.inr ⟨rfl, rfl, rfl⟩) rfl ?_
  replace hN : (∀ a, 152 ≤ a → a < 181 → jk_nw T (hf_up (hf_up I 150 1 0) 150 2 0) L (hf_upP (hf_upP P 150 0 (some 151)) 100 10 (some 150)) a (hf_sTl.getD (a - 100) (0, 0))) := fun a h1 h2 => jk_upP (by omega) (hN a (by omega) h2)
  exact h (fun a h1 h2 => hN a (by omega) h2)

set_option maxHeartbeats 4000000 in
theorem w_X11_init_136_k {X : hf_X} {d : Nat} {T : hf_T} {I : hf_I} {L : hf_L} {P : hf_P} {Q : Option Value → hf_M → Prop} (hs : hf_Ly T) (hN : (∀ a, 152 ≤ a → a < 181 → jk_nw T I L P a (hf_sTl.getD (a - 100) (0, 0)))) (h : (∀ a, 155 ≤ a → a < 181 → jk_nw T (hf_up (hf_up I 152 2 0) 152 3 0) L (hf_upP (hf_upP (hf_upP P 152 0 (some 153)) 152 1 (some 154)) 100 11 (some 152)) a (hf_sTl.getD (a - 100) (0, 0))) → hf_G X Y_X11_init (d + 5) 1 5 147 [some (.ref 100)] [] (55, T, (hf_up (hf_up I 152 2 0) 152 3 0), L, (hf_upP (hf_upP (hf_upP P 152 0 (some 153)) 152 1 (some 154)) 100 11 (some 152))) Q) : hf_G X Y_X11_init (d + 5) 4 33 136 [some (.ref 100)] [] (52, T, I, L, P) Q := by
  refine hf_aload_n dX11_init_136 rfl rfl ?_
  refine hf_new_p (c := 3) (k := 3) (n := 29) (m := 4) (a := 152) (by omega) (by decide +kernel) dX11_init_137 (by decide) hw364 hw74 hw5 (hN 152 (by decide) (by decide)) ?_
  refine hf_dup dX11_init_140 rfl ?_
  refine hf_callIN (host := RX11) (k1 := 2) (n1 := 24) (as := []) ok_X3_init rfl rfl dX11_init_141 (by decide +kernel) hw75 rfl (Nat.le_of_ble_eq_true rfl) rfl (Nat.le_of_ble_eq_true rfl) (by decide) (by decide) ?_
  show hf_G X Y_X3_init (d + 4) _ _ 0 [some (.ref 152)] [] ((52 + 1), T, I, L, P) _
  refine hf_aload_n dX3_init_0 rfl rfl ?_
  refine hf_objInit dX3_init_1 hw77 hw29 hf_obj (by decide) ?_
  refine hf_aload_n dX3_init_4 rfl rfl ?_
  refine hf_bipush (v := 12) dX3_init_5 (by decide) ?_
  refine hf_newa_p (k := 1) (n := 12) (z := 12) (zm := 12) (kd := 100) (a := 153) (by omega) dX3_init_7 hw70 (Or.inl ⟨rfl, rfl⟩) (by decide) rfl (Nat.le_refl _) (by decide) (hN 153 (by decide) (by decide)) ?_
  refine hf_putr (c := 3) (j := 0) dX3_init_9 (hs.2.1 152 _ rfl) (by omega) (by decide) (by decide) hw78 (Or.inr ⟨rfl, rfl, rfl⟩) rfl ?_
  replace hN : (∀ a, 154 ≤ a → a < 181 → jk_nw T I L (hf_upP P 152 0 (some 153)) a (hf_sTl.getD (a - 100) (0, 0))) := fun a h1 h2 => jk_upP (by omega) (hN a (by omega) h2)
  refine hf_aload_n dX3_init_12 rfl rfl ?_
  refine hf_bipush (v := 12) dX3_init_13 (by decide) ?_
  refine hf_newa_p (k := 0) (n := 0) (z := 12) (zm := 12) (kd := 100) (a := 154) (by omega) dX3_init_15 hw70 (Or.inl ⟨rfl, rfl⟩) (by decide) rfl (Nat.le_refl _) (by decide) (hN 154 (by decide) (by decide)) ?_
  refine hf_putr (c := 3) (j := 1) dX3_init_17 (hs.2.1 152 _ rfl) (by omega) (by decide) (by decide) hw83 (Or.inr ⟨rfl, rfl, rfl⟩) rfl ?_
  replace hN : (∀ a, 155 ≤ a → a < 181 → jk_nw T I L (hf_upP (hf_upP P 152 0 (some 153)) 152 1 (some 154)) a (hf_sTl.getD (a - 100) (0, 0))) := fun a h1 h2 => jk_upP (by omega) (hN a (by omega) h2)
  refine hf_aload_n dX3_init_20 rfl rfl ?_
  refine hf_iconst (v := 0) dX3_init_21 (by decide) ?_
  refine hf_puti (c := 3) (j := 2) dX3_init_22 (hs.2.1 152 _ rfl) (by omega) (by decide) (by decide) hw87 rfl rfl ?_
  replace hN : (∀ a, 155 ≤ a → a < 181 → jk_nw T (hf_up I 152 2 0) L (hf_upP (hf_upP P 152 0 (some 153)) 152 1 (some 154)) a (hf_sTl.getD (a - 100) (0, 0))) := fun a h1 h2 => jk_up (by omega) (hN a (by omega) h2)
  refine hf_aload_n dX3_init_25 rfl rfl ?_
  refine hf_iconst (v := 0) dX3_init_26 (by decide) ?_
  refine hf_puti (c := 3) (j := 3) dX3_init_27 (hs.2.1 152 _ rfl) (by omega) (by decide) (by decide) hw92 rfl rfl ?_
  replace hN : (∀ a, 155 ≤ a → a < 181 → jk_nw T (hf_up (hf_up I 152 2 0) 152 3 0) L (hf_upP (hf_upP P 152 0 (some 153)) 152 1 (some 154)) a (hf_sTl.getD (a - 100) (0, 0))) := fun a h1 h2 => jk_up (by omega) (hN a (by omega) h2)
  refine hf_return dX3_init_30 rfl ?_
  show hf_G X Y_X11_init (d + 5) _ _ 144 [some (.ref 100)] [.ref 152, .ref 100] ((((52 + 1) + 1) + 1), T, (hf_up (hf_up I 152 2 0) 152 3 0), L, (hf_upP (hf_upP P 152 0 (some 153)) 152 1 (some 154))) _
  refine hf_putr (c := 11) (j := 11) dX11_init_144 (hs.2.1 100 _ rfl) (by omega) (by decide) (by decide) hw376 (Or.inr ⟨rfl, rfl, rfl⟩) rfl ?_
  replace hN : (∀ a, 155 ≤ a → a < 181 → jk_nw T (hf_up (hf_up I 152 2 0) 152 3 0) L (hf_upP (hf_upP (hf_upP P 152 0 (some 153)) 152 1 (some 154)) 100 11 (some 152)) a (hf_sTl.getD (a - 100) (0, 0))) := fun a h1 h2 => jk_upP (by omega) (hN a (by omega) h2)
  exact h (fun a h1 h2 => hN a (by omega) h2)

set_option maxHeartbeats 4000000 in
theorem w_X11_init_147_k {X : hf_X} {d : Nat} {T : hf_T} {I : hf_I} {L : hf_L} {P : hf_P} {Q : Option Value → hf_M → Prop} (hs : hf_Ly T) (hN : (∀ a, 155 ≤ a → a < 181 → jk_nw T I L P a (hf_sTl.getD (a - 100) (0, 0)))) (h : (∀ a, 156 ≤ a → a < 181 → jk_nw T I L (hf_upP P 100 12 (some 155)) a (hf_sTl.getD (a - 100) (0, 0))) → hf_G X Y_X11_init (d + 5) 0 0 154 [some (.ref 100)] [] (56, T, I, L, (hf_upP P 100 12 (some 155))) Q) : hf_G X Y_X11_init (d + 5) 1 5 147 [some (.ref 100)] [] (55, T, I, L, P) Q := by
  refine hf_aload_n dX11_init_147 rfl rfl ?_
  refine hf_iconst (v := 5) dX11_init_148 (by decide) ?_
  refine hf_newa_p (k := 0) (n := 0) (z := 5) (zm := 5) (kd := 100) (a := 155) (by omega) dX11_init_149 hw70 (Or.inl ⟨rfl, rfl⟩) (by decide) rfl (Nat.le_refl _) (by decide) (hN 155 (by decide) (by decide)) ?_
  refine hf_putr (c := 11) (j := 12) dX11_init_151 (hs.2.1 100 _ rfl) (by omega) (by decide) (by decide) hw377 (Or.inr ⟨rfl, rfl, rfl⟩) rfl ?_
  replace hN : (∀ a, 156 ≤ a → a < 181 → jk_nw T I L (hf_upP P 100 12 (some 155)) a (hf_sTl.getD (a - 100) (0, 0))) := fun a h1 h2 => jk_upP (by omega) (hN a (by omega) h2)
  exact h (fun a h1 h2 => hN a (by omega) h2)

set_option maxHeartbeats 4000000 in
theorem w_X11_init_154_k {X : hf_X} {d : Nat} {T : hf_T} {I : hf_I} {L : hf_L} {P : hf_P} {Q : Option Value → hf_M → Prop} (hs : hf_Ly T) (hN : (∀ a, 156 ≤ a → a < 181 → jk_nw T I L P a (hf_sTl.getD (a - 100) (0, 0)))) (h : Q none (56, T, (hf_up (hf_up (hf_up (hf_up I 100 13 0) 100 14 (-1)) 100 15 0) 100 16 0), L, P)) : hf_G X Y_X11_init (d + 5) 0 0 154 [some (.ref 100)] [] (56, T, I, L, P) Q := by
  refine hf_aload_n dX11_init_154 rfl rfl ?_
  refine hf_iconst (v := 0) dX11_init_155 (by decide) ?_
  refine hf_puti (c := 11) (j := 13) dX11_init_156 (hs.2.1 100 _ rfl) (by omega) (by decide) (by decide) hw378 rfl rfl ?_
  replace hN : (∀ a, 156 ≤ a → a < 181 → jk_nw T (hf_up I 100 13 0) L P a (hf_sTl.getD (a - 100) (0, 0))) := fun a h1 h2 => jk_up (by omega) (hN a (by omega) h2)
  refine hf_aload_n dX11_init_159 rfl rfl ?_
  refine hf_iconst (v := (-1)) dX11_init_160 (by decide) ?_
  refine hf_puti (c := 11) (j := 14) dX11_init_161 (hs.2.1 100 _ rfl) (by omega) (by decide) (by decide) hw380 rfl rfl ?_
  replace hN : (∀ a, 156 ≤ a → a < 181 → jk_nw T (hf_up (hf_up I 100 13 0) 100 14 (-1)) L P a (hf_sTl.getD (a - 100) (0, 0))) := fun a h1 h2 => jk_up (by omega) (hN a (by omega) h2)
  refine hf_aload_n dX11_init_164 rfl rfl ?_
  refine hf_iconst (v := 0) dX11_init_165 (by decide) ?_
  refine hf_puti (c := 11) (j := 15) dX11_init_166 (hs.2.1 100 _ rfl) (by omega) (by decide) (by decide) hw381 rfl rfl ?_
  replace hN : (∀ a, 156 ≤ a → a < 181 → jk_nw T (hf_up (hf_up (hf_up I 100 13 0) 100 14 (-1)) 100 15 0) L P a (hf_sTl.getD (a - 100) (0, 0))) := fun a h1 h2 => jk_up (by omega) (hN a (by omega) h2)
  refine hf_aload_n dX11_init_169 rfl rfl ?_
  refine hf_iconst (v := 0) dX11_init_170 (by decide) ?_
  refine hf_puti (c := 11) (j := 16) dX11_init_171 (hs.2.1 100 _ rfl) (by omega) (by decide) (by decide) hw382 rfl rfl ?_
  replace hN : (∀ a, 156 ≤ a → a < 181 → jk_nw T (hf_up (hf_up (hf_up (hf_up I 100 13 0) 100 14 (-1)) 100 15 0) 100 16 0) L P a (hf_sTl.getD (a - 100) (0, 0))) := fun a h1 h2 => jk_up (by omega) (hN a (by omega) h2)
  refine hf_return dX11_init_174 rfl ?_
  exact h

