/-! from nothing to where the law's loop begins -/
set_option maxHeartbeats 4000000 in
theorem w_L_law_0_k {X : hf_X} {d : Nat} {T : hf_T} {I : hf_I} {L : hf_L} {P : hf_P} {Q : Option Value → hf_M → Prop} (hs : hf_Ly T) (hN : (∀ a, 100 ≤ a → a < 181 → jk_nw T I L P a (hf_sTl.getD (a - 100) (0, 0)))) (h : hf_G X Y_X11_init (d + 5) 55 2900 0 (hf_en [.ref 100] 1) [] ((0 + 1), T, I, L, P) (fun r M => hf_G X Y_L_law (d + 6) (599999 - 55) (7302233 - 2900) 7 [some (.ref 0), none, none, none] (r.toList ++ [.ref 100]) M Q)) : hf_G X Y_L_law (d + 6) 600000 7302250 0 [some (.ref 0), none, none, none] [] (0, T, I, L, P) Q := by
  refine hf_new_p (c := 11) (k := 599999) (n := 7302233) (m := 17) (a := 100) (by omega) (by decide +kernel) dL_law_0 (by decide) hw23 hw24 hw2 (hN 100 (by decide) (by decide)) ?_
  refine hf_dup dL_law_3 rfl ?_
  exact hf_callI (k1 := 55) (n1 := 2900) (as := []) ok_X11_init rfl rfl dL_law_4 hw25 hw26 rfl (Nat.le_of_ble_eq_true rfl) rfl (Nat.le_of_ble_eq_true rfl) (by decide) (by decide) h

set_option maxHeartbeats 4000000 in
theorem w_L_law_7_k {X : hf_X} {d : Nat} {T : hf_T} {I : hf_I} {L : hf_L} {P : hf_P} {Q : Option Value → hf_M → Prop} (hs : hf_Ly T) (hN : (∀ a, 156 ≤ a → a < 181 → jk_nw T I L P a (hf_sTl.getD (a - 100) (0, 0)))) (h : hf_G X Y_X12_init (d + 5) 24 20552 0 (hf_en [.ref 156] 2) [] ((56 + 1), T, I, L, P) (fun r M => hf_G X Y_L_law (d + 6) (599943 - 24) (7299282 - 20552) 15 [some (.ref 0), some (.ref 100), none, none] (r.toList ++ [.ref 156]) M Q)) : hf_G X Y_L_law (d + 6) 599944 7299333 7 [some (.ref 0), none, none, none] [.ref 100] (56, T, I, L, P) Q := by
  refine hf_astore_n (l2 := [some (.ref 0), some (.ref 100), none, none]) dL_law_7 rfl (by decide) rfl ?_
  refine hf_new_p (c := 12) (k := 599943) (n := 7299282) (m := 51) (a := 156) (by omega) (by decide +kernel) dL_law_8 (by decide) hw1030 hw1031 hw15 (hN 156 (by decide) (by decide)) ?_
  refine hf_dup dL_law_11 rfl ?_
  exact hf_callI (k1 := 24) (n1 := 20552) (as := []) ok_X12_init rfl rfl dL_law_12 hw1032 hw1033 rfl (Nat.le_of_ble_eq_true rfl) rfl (Nat.le_of_ble_eq_true rfl) (by decide) (by decide) h

set_option maxHeartbeats 4000000 in
theorem w_L_law_15_k {X : hf_X} {d : Nat} {T : hf_T} {I : hf_I} {L : hf_L} {P : hf_P} {Q : Option Value → hf_M → Prop} (hs : hf_Ly T) (hN : (∀ a, 181 ≤ a → a < 181 → jk_nw T I L P a (hf_sTl.getD (a - 100) (0, 0)))) (h : (∀ a, 181 ≤ a → a < 181 → jk_nw T I L P a (hf_sTl.getD (a - 100) (0, 0))) → hf_G X Y_L_law (d + 6) 599919 7278730 18 [some (.ref 0), some (.ref 100), some (.ref 156), some (.int 0)] [] (81, T, I, L, P) Q) : hf_G X Y_L_law (d + 6) 599919 7278730 15 [some (.ref 0), some (.ref 100), none, none] [.ref 156] (81, T, I, L, P) Q := by
  refine hf_astore_n (l2 := [some (.ref 0), some (.ref 100), some (.ref 156), none]) dL_law_15 rfl (by decide) rfl ?_
  refine hf_iconst (v := 0) dL_law_16 (by decide) ?_
  refine hf_istore_n (l2 := [some (.ref 0), some (.ref 100), some (.ref 156), some (.int 0)]) dL_law_17 rfl (by decide) rfl ?_
  exact h (fun a h1 h2 => hN a (by omega) h2)

