set_option maxHeartbeats 4000000 in
theorem w_X12_init_0_k {X : hf_X} {d : Nat} {T : hf_T} {I : hf_I} {L : hf_L} {P : hf_P} {Q : Option Value → hf_M → Prop} (hs : hf_Ly T) (hN : (∀ a, 157 ≤ a → a < 181 → jk_nw T I L P a (hf_sTl.getD (a - 100) (0, 0)))) (h : (∀ a, 162 ≤ a → a < 181 → jk_nw T I L (hf_upP (hf_upP (hf_upP (hf_upP (hf_upP P 156 1 (some 157)) 156 2 (some 158)) 156 3 (some 159)) 156 4 (some 160)) 156 5 (some 161)) a (hf_sTl.getD (a - 100) (0, 0))) → hf_G X Y_X12_init (d + 5) 19 2730 45 [some (.ref 156), none] [] (62, T, I, L, (hf_upP (hf_upP (hf_upP (hf_upP (hf_upP P 156 1 (some 157)) 156 2 (some 158)) 156 3 (some 159)) 156 4 (some 160)) 156 5 (some 161))) Q) : hf_G X Y_X12_init (d + 5) 24 20552 0 [some (.ref 156), none] [] (57, T, I, L, P) Q := by
  refine hf_aload_n dX12_init_0 rfl rfl ?_
  refine hf_objInit dX12_init_1 hw1035 hw29 hf_obj (by decide) ?_
  refine hf_aload_n dX12_init_4 rfl rfl ?_
  refine hf_bipush (v := 7) dX12_init_5 (by decide) ?_
  refine hf_newa_p (k := 23) (n := 20545) (z := 7) (zm := 7) (kd := 100) (a := 157) (by omega) dX12_init_7 hw70 (Or.inl ⟨rfl, rfl⟩) (by decide) rfl (Nat.le_refl _) (by decide) (hN 157 (by decide) (by decide)) ?_
  refine hf_putr (c := 12) (j := 1) dX12_init_9 (hs.2.1 156 _ rfl) (by omega) (by decide) (by decide) hw1037 (Or.inr ⟨rfl, rfl, rfl⟩) rfl ?_
  replace hN : (∀ a, 158 ≤ a → a < 181 → jk_nw T I L (hf_upP P 156 1 (some 157)) a (hf_sTl.getD (a - 100) (0, 0))) := fun a h1 h2 => jk_upP (by omega) (hN a (by omega) h2)
  refine hf_aload_n dX12_init_12 rfl rfl ?_
  refine hf_sipush (v := 5929) dX12_init_13 (by decide) ?_
  refine hf_newa_p (k := 22) (n := 14616) (z := 5929) (zm := 5929) (kd := 100) (a := 158) (by omega) dX12_init_16 hw70 (Or.inl ⟨rfl, rfl⟩) (by decide) rfl (Nat.le_refl _) (by decide) (hN 158 (by decide) (by decide)) ?_
  refine hf_putr (c := 12) (j := 2) dX12_init_18 (hs.2.1 156 _ rfl) (by omega) (by decide) (by decide) hw1038 (Or.inr ⟨rfl, rfl, rfl⟩) rfl ?_
  replace hN : (∀ a, 159 ≤ a → a < 181 → jk_nw T I L (hf_upP (hf_upP P 156 1 (some 157)) 156 2 (some 158)) a (hf_sTl.getD (a - 100) (0, 0))) := fun a h1 h2 => jk_upP (by omega) (hN a (by omega) h2)
  refine hf_aload_n dX12_init_21 rfl rfl ?_
  refine hf_sipush (v := 11858) dX12_init_22 (by decide) ?_
  refine hf_newa_p (k := 21) (n := 2758) (z := 11858) (zm := 11858) (kd := 100) (a := 159) (by omega) dX12_init_25 hw70 (Or.inl ⟨rfl, rfl⟩) (by decide) rfl (Nat.le_refl _) (by decide) (hN 159 (by decide) (by decide)) ?_
  refine hf_putr (c := 12) (j := 3) dX12_init_27 (hs.2.1 156 _ rfl) (by omega) (by decide) (by decide) hw1039 (Or.inr ⟨rfl, rfl, rfl⟩) rfl ?_
  replace hN : (∀ a, 160 ≤ a → a < 181 → jk_nw T I L (hf_upP (hf_upP (hf_upP P 156 1 (some 157)) 156 2 (some 158)) 156 3 (some 159)) a (hf_sTl.getD (a - 100) (0, 0))) := fun a h1 h2 => jk_upP (by omega) (hN a (by omega) h2)
  refine hf_aload_n dX12_init_30 rfl rfl ?_
  refine hf_iconst (v := 2) dX12_init_31 (by decide) ?_
  refine hf_newa_p (k := 20) (n := 2756) (z := 2) (zm := 2) (kd := 102) (a := 160) (by omega) dX12_init_32 hw1138 (Or.inr (Or.inr (Or.inl ⟨rfl, rfl⟩))) (by decide) rfl (Nat.le_refl _) (by decide) (hN 160 (by decide) (by decide)) ?_
  refine hf_putr (c := 12) (j := 4) dX12_init_34 (hs.2.1 156 _ rfl) (by omega) (by decide) (by decide) hw1040 (Or.inr ⟨rfl, rfl, rfl⟩) rfl ?_
  replace hN : (∀ a, 161 ≤ a → a < 181 → jk_nw T I L (hf_upP (hf_upP (hf_upP (hf_upP P 156 1 (some 157)) 156 2 (some 158)) 156 3 (some 159)) 156 4 (some 160)) a (hf_sTl.getD (a - 100) (0, 0))) := fun a h1 h2 => jk_upP (by omega) (hN a (by omega) h2)
  refine hf_aload_n dX12_init_37 rfl rfl ?_
  refine hf_bipush (v := 26) dX12_init_38 (by decide) ?_
  refine hf_newa_p (k := 19) (n := 2730) (z := 26) (zm := 26) (kd := 100) (a := 161) (by omega) dX12_init_40 hw70 (Or.inl ⟨rfl, rfl⟩) (by decide) rfl (Nat.le_refl _) (by decide) (hN 161 (by decide) (by decide)) ?_
  refine hf_putr (c := 12) (j := 5) dX12_init_42 (hs.2.1 156 _ rfl) (by omega) (by decide) (by decide) hw1041 (Or.inr ⟨rfl, rfl, rfl⟩) rfl ?_
  replace hN : (∀ a, 162 ≤ a → a < 181 → jk_nw T I L (hf_upP (hf_upP (hf_upP (hf_upP (hf_upP P 156 1 (some 157)) 156 2 (some 158)) 156 3 (some 159)) 156 4 (some 160)) 156 5 (some 161)) a (hf_sTl.getD (a - 100) (0, 0))) := fun a h1 h2 => jk_upP (by omega) (hN a (by omega) h2)
  exact h (fun a h1 h2 => hN a (by omega) h2)

set_option maxHeartbeats 4000000 in
theorem w_X12_init_45_k {X : hf_X} {d : Nat} {T : hf_T} {I : hf_I} {L : hf_L} {P : hf_P} {Q : Option Value → hf_M → Prop} (hs : hf_Ly T) (hN : (∀ a, 162 ≤ a → a < 181 → jk_nw T I L P a (hf_sTl.getD (a - 100) (0, 0)))) (h : (∀ a, 163 ≤ a → a < 181 → jk_nw T I L P a (hf_sTl.getD (a - 100) (0, 0))) → hf_G X Y_X12_init (d + 5) 18 2586 51 [some (.ref 156), none] [.ref 162, .ref 156] (63, T, I, L, P) Q) : hf_G X Y_X12_init (d + 5) 19 2730 45 [some (.ref 156), none] [] (62, T, I, L, P) Q := by
  refine hf_aload_n dX12_init_45 rfl rfl ?_
  refine hf_sipush (v := 144) dX12_init_46 (by decide) ?_
  refine hf_newa_p (k := 18) (n := 2586) (z := 144) (zm := 144) (kd := 101) (a := 162) (by omega) dX12_init_49 hw71 (Or.inr (Or.inl ⟨rfl, rfl⟩)) (by decide) rfl (Nat.le_refl _) (by decide) (hN 162 (by decide) (by decide)) ?_
  exact h (fun a h1 h2 => hN a (by omega) h2)

set_option maxHeartbeats 4000000 in
theorem w_X12_init_51_k {X : hf_X} {d : Nat} {T : hf_T} {I : hf_I} {L : hf_L} {P : hf_P} {Q : Option Value → hf_M → Prop} (hs : hf_Ly T) (hN : (∀ a, 163 ≤ a → a < 181 → jk_nw T I L P a (hf_sTl.getD (a - 100) (0, 0)))) (h : (∀ a, 163 ≤ a → a < 181 → jk_nw T (hf_up (hf_up (hf_up (hf_up (hf_up (hf_up (hf_up (hf_up (hf_up (hf_up (hf_up (hf_up I 162 0 (vp_nar .byte 108)) 162 1 (vp_nar .byte 111)) 162 2 (vp_nar .byte 115)) 162 3 (vp_nar .byte 101)) 162 4 (vp_nar .byte 115)) 162 5 (vp_nar .byte 32)) 162 6 (vp_nar .byte 99)) 162 7 (vp_nar .byte 111)) 162 8 (vp_nar .byte 115)) 162 9 (vp_nar .byte 116)) 162 10 (vp_nar .byte 115)) 162 11 (vp_nar .byte 32)) L P a (hf_sTl.getD (a - 100) (0, 0))) → hf_G X Y_X12_init (d + 5) 18 2586 117 [some (.ref 156), none] [.ref 162, .ref 156] (63, T, (hf_up (hf_up (hf_up (hf_up (hf_up (hf_up (hf_up (hf_up (hf_up (hf_up (hf_up (hf_up I 162 0 (vp_nar .byte 108)) 162 1 (vp_nar .byte 111)) 162 2 (vp_nar .byte 115)) 162 3 (vp_nar .byte 101)) 162 4 (vp_nar .byte 115)) 162 5 (vp_nar .byte 32)) 162 6 (vp_nar .byte 99)) 162 7 (vp_nar .byte 111)) 162 8 (vp_nar .byte 115)) 162 9 (vp_nar .byte 116)) 162 10 (vp_nar .byte 115)) 162 11 (vp_nar .byte 32)), L, P) Q) : hf_G X Y_X12_init (d + 5) 18 2586 51 [some (.ref 156), none] [.ref 162, .ref 156] (63, T, I, L, P) Q := by
  refine hf_dup dX12_init_51 rfl ?_
  refine hf_iconst (v := 0) dX12_init_52 (by decide) ?_
  refine hf_bipush (v := 108) dX12_init_53 (by decide) ?_
  refine hf_bast_k (j := 0) (by decide) dX12_init_55 (hs.2.1 162 _ rfl) (by omega) (hf_vin (by decide)) ?_
  replace hN : (∀ a, 163 ≤ a → a < 181 → jk_nw T (hf_up I 162 0 (vp_nar .byte 108)) L P a (hf_sTl.getD (a - 100) (0, 0))) := fun a h1 h2 => jk_up (by omega) (hN a (by omega) h2)
  refine hf_dup dX12_init_56 rfl ?_
  refine hf_iconst (v := 1) dX12_init_57 (by decide) ?_
  refine hf_bipush (v := 111) dX12_init_58 (by decide) ?_
  refine hf_bast_k (j := 1) (by decide) dX12_init_60 (hs.2.1 162 _ rfl) (by omega) (hf_vin (by decide)) ?_
  replace hN : (∀ a, 163 ≤ a → a < 181 → jk_nw T (hf_up (hf_up I 162 0 (vp_nar .byte 108)) 162 1 (vp_nar .byte 111)) L P a (hf_sTl.getD (a - 100) (0, 0))) := fun a h1 h2 => jk_up (by omega) (hN a (by omega) h2)
  refine hf_dup dX12_init_61 rfl ?_
  refine hf_iconst (v := 2) dX12_init_62 (by decide) ?_
  refine hf_bipush (v := 115) dX12_init_63 (by decide) ?_
  refine hf_bast_k (j := 2) (by decide) dX12_init_65 (hs.2.1 162 _ rfl) (by omega) (hf_vin (by decide)) ?_
  replace hN : (∀ a, 163 ≤ a → a < 181 → jk_nw T (hf_up (hf_up (hf_up I 162 0 (vp_nar .byte 108)) 162 1 (vp_nar .byte 111)) 162 2 (vp_nar .byte 115)) L P a (hf_sTl.getD (a - 100) (0, 0))) := fun a h1 h2 => jk_up (by omega) (hN a (by omega) h2)
  refine hf_dup dX12_init_66 rfl ?_
  refine hf_iconst (v := 3) dX12_init_67 (by decide) ?_
  refine hf_bipush (v := 101) dX12_init_68 (by decide) ?_
  refine hf_bast_k (j := 3) (by decide) dX12_init_70 (hs.2.1 162 _ rfl) (by omega) (hf_vin (by decide)) ?_
  replace hN : (∀ a, 163 ≤ a → a < 181 → jk_nw T (hf_up (hf_up (hf_up (hf_up I 162 0 (vp_nar .byte 108)) 162 1 (vp_nar .byte 111)) 162 2 (vp_nar .byte 115)) 162 3 (vp_nar .byte 101)) L P a (hf_sTl.getD (a - 100) (0, 0))) := fun a h1 h2 => jk_up (by omega) (hN a (by omega) h2)
  refine hf_dup dX12_init_71 rfl ?_
  refine hf_iconst (v := 4) dX12_init_72 (by decide) ?_
  refine hf_bipush (v := 115) dX12_init_73 (by decide) ?_
  refine hf_bast_k (j := 4) (by decide) dX12_init_75 (hs.2.1 162 _ rfl) (by omega) (hf_vin (by decide)) ?_
  replace hN : (∀ a, 163 ≤ a → a < 181 → jk_nw T (hf_up (hf_up (hf_up (hf_up (hf_up I 162 0 (vp_nar .byte 108)) 162 1 (vp_nar .byte 111)) 162 2 (vp_nar .byte 115)) 162 3 (vp_nar .byte 101)) 162 4 (vp_nar .byte 115)) L P a (hf_sTl.getD (a - 100) (0, 0))) := fun a h1 h2 => jk_up (by omega) (hN a (by omega) h2)
  refine hf_dup dX12_init_76 rfl ?_
  refine hf_iconst (v := 5) dX12_init_77 (by decide) ?_
  refine hf_bipush (v := 32) dX12_init_78 (by decide) ?_
  refine hf_bast_k (j := 5) (by decide) dX12_init_80 (hs.2.1 162 _ rfl) (by omega) (hf_vin (by decide)) ?_
  replace hN : (∀ a, 163 ≤ a → a < 181 → jk_nw T (hf_up (hf_up (hf_up (hf_up (hf_up (hf_up I 162 0 (vp_nar .byte 108)) 162 1 (vp_nar .byte 111)) 162 2 (vp_nar .byte 115)) 162 3 (vp_nar .byte 101)) 162 4 (vp_nar .byte 115)) 162 5 (vp_nar .byte 32)) L P a (hf_sTl.getD (a - 100) (0, 0))) := fun a h1 h2 => jk_up (by omega) (hN a (by omega) h2)
  refine hf_dup dX12_init_81 rfl ?_
  refine hf_bipush (v := 6) dX12_init_82 (by decide) ?_
  refine hf_bipush (v := 99) dX12_init_84 (by decide) ?_
  refine hf_bast_k (j := 6) (by decide) dX12_init_86 (hs.2.1 162 _ rfl) (by omega) (hf_vin (by decide)) ?_
  replace hN : (∀ a, 163 ≤ a → a < 181 → jk_nw T (hf_up (hf_up (hf_up (hf_up (hf_up (hf_up (hf_up I 162 0 (vp_nar .byte 108)) 162 1 (vp_nar .byte 111)) 162 2 (vp_nar .byte 115)) 162 3 (vp_nar .byte 101)) 162 4 (vp_nar .byte 115)) 162 5 (vp_nar .byte 32)) 162 6 (vp_nar .byte 99)) L P a (hf_sTl.getD (a - 100) (0, 0))) := fun a h1 h2 => jk_up (by omega) (hN a (by omega) h2)
  refine hf_dup dX12_init_87 rfl ?_
  refine hf_bipush (v := 7) dX12_init_88 (by decide) ?_
  refine hf_bipush (v := 111) dX12_init_90 (by decide) ?_
  refine hf_bast_k (j := 7) (by decide) dX12_init_92 (hs.2.1 162 _ rfl) (by omega) (hf_vin (by decide)) ?_
  replace hN : (∀ a, 163 ≤ a → a < 181 → jk_nw T (hf_up (hf_up (hf_up (hf_up (hf_up (hf_up (hf_up (hf_up I 162 0 (vp_nar .byte 108)) 162 1 (vp_nar .byte 111)) 162 2 (vp_nar .byte 115)) 162 3 (vp_nar .byte 101)) 162 4 (vp_nar .byte 115)) 162 5 (vp_nar .byte 32)) 162 6 (vp_nar .byte 99)) 162 7 (vp_nar .byte 111)) L P a (hf_sTl.getD (a - 100) (0, 0))) := fun a h1 h2 => jk_up (by omega) (hN a (by omega) h2)
  refine hf_dup dX12_init_93 rfl ?_
  refine hf_bipush (v := 8) dX12_init_94 (by decide) ?_
  refine hf_bipush (v := 115) dX12_init_96 (by decide) ?_
  refine hf_bast_k (j := 8) (by decide) dX12_init_98 (hs.2.1 162 _ rfl) (by omega) (hf_vin (by decide)) ?_
  replace hN : (∀ a, 163 ≤ a → a < 181 → jk_nw T (hf_up (hf_up (hf_up (hf_up (hf_up (hf_up (hf_up (hf_up (hf_up I 162 0 (vp_nar .byte 108)) 162 1 (vp_nar .byte 111)) 162 2 (vp_nar .byte 115)) 162 3 (vp_nar .byte 101)) 162 4 (vp_nar .byte 115)) 162 5 (vp_nar .byte 32)) 162 6 (vp_nar .byte 99)) 162 7 (vp_nar .byte 111)) 162 8 (vp_nar .byte 115)) L P a (hf_sTl.getD (a - 100) (0, 0))) := fun a h1 h2 => jk_up (by omega) (hN a (by omega) h2)
  refine hf_dup dX12_init_99 rfl ?_
  refine hf_bipush (v := 9) dX12_init_100 (by decide) ?_
  refine hf_bipush (v := 116) dX12_init_102 (by decide) ?_
  refine hf_bast_k (j := 9) (by decide) dX12_init_104 (hs.2.1 162 _ rfl) (by omega) (hf_vin (by decide)) ?_
  replace hN : (∀ a, 163 ≤ a → a < 181 → jk_nw T (hf_up (hf_up (hf_up (hf_up (hf_up (hf_up (hf_up (hf_up (hf_up (hf_up I 162 0 (vp_nar .byte 108)) 162 1 (vp_nar .byte 111)) 162 2 (vp_nar .byte 115)) 162 3 (vp_nar .byte 101)) 162 4 (vp_nar .byte 115)) 162 5 (vp_nar .byte 32)) 162 6 (vp_nar .byte 99)) 162 7 (vp_nar .byte 111)) 162 8 (vp_nar .byte 115)) 162 9 (vp_nar .byte 116)) L P a (hf_sTl.getD (a - 100) (0, 0))) := fun a h1 h2 => jk_up (by omega) (hN a (by omega) h2)
  refine hf_dup dX12_init_105 rfl ?_
  refine hf_bipush (v := 10) dX12_init_106 (by decide) ?_
  refine hf_bipush (v := 115) dX12_init_108 (by decide) ?_
  refine hf_bast_k (j := 10) (by decide) dX12_init_110 (hs.2.1 162 _ rfl) (by omega) (hf_vin (by decide)) ?_
  replace hN : (∀ a, 163 ≤ a → a < 181 → jk_nw T (hf_up (hf_up (hf_up (hf_up (hf_up (hf_up (hf_up (hf_up (hf_up (hf_up (hf_up I 162 0 (vp_nar .byte 108)) 162 1 (vp_nar .byte 111)) 162 2 (vp_nar .byte 115)) 162 3 (vp_nar .byte 101)) 162 4 (vp_nar .byte 115)) 162 5 (vp_nar .byte 32)) 162 6 (vp_nar .byte 99)) 162 7 (vp_nar .byte 111)) 162 8 (vp_nar .byte 115)) 162 9 (vp_nar .byte 116)) 162 10 (vp_nar .byte 115)) L P a (hf_sTl.getD (a - 100) (0, 0))) := fun a h1 h2 => jk_up (by omega) (hN a (by omega) h2)
  refine hf_dup dX12_init_111 rfl ?_
  refine hf_bipush (v := 11) dX12_init_112 (by decide) ?_
  refine hf_bipush (v := 32) dX12_init_114 (by decide) ?_
  refine hf_bast_k (j := 11) (by decide) dX12_init_116 (hs.2.1 162 _ rfl) (by omega) (hf_vin (by decide)) ?_
  replace hN : (∀ a, 163 ≤ a → a < 181 → jk_nw T (hf_up (hf_up (hf_up (hf_up (hf_up (hf_up (hf_up (hf_up (hf_up (hf_up (hf_up (hf_up I 162 0 (vp_nar .byte 108)) 162 1 (vp_nar .byte 111)) 162 2 (vp_nar .byte 115)) 162 3 (vp_nar .byte 101)) 162 4 (vp_nar .byte 115)) 162 5 (vp_nar .byte 32)) 162 6 (vp_nar .byte 99)) 162 7 (vp_nar .byte 111)) 162 8 (vp_nar .byte 115)) 162 9 (vp_nar .byte 116)) 162 10 (vp_nar .byte 115)) 162 11 (vp_nar .byte 32)) L P a (hf_sTl.getD (a - 100) (0, 0))) := fun a h1 h2 => jk_up (by omega) (hN a (by omega) h2)
  exact h (fun a h1 h2 => hN a (by omega) h2)

set_option maxHeartbeats 4000000 in
theorem w_X12_init_117_k {X : hf_X} {d : Nat} {T : hf_T} {I : hf_I} {L : hf_L} {P : hf_P} {Q : Option Value → hf_M → Prop} (hs : hf_Ly T) (hN : (∀ a, 163 ≤ a → a < 181 → jk_nw T I L P a (hf_sTl.getD (a - 100) (0, 0)))) (h : (∀ a, 163 ≤ a → a < 181 → jk_nw T (hf_up (hf_up (hf_up (hf_up (hf_up (hf_up (hf_up (hf_up (hf_up (hf_up (hf_up (hf_up I 162 12 (vp_nar .byte 98)) 162 13 (vp_nar .byte 97)) 162 14 (vp_nar .byte 114)) 162 15 (vp_nar .byte 115)) 162 16 (vp_nar .byte 32)) 162 17 (vp_nar .byte 105)) 162 18 (vp_nar .byte 102)) 162 19 (vp_nar .byte 32)) 162 20 (vp_nar .byte 111)) 162 21 (vp_nar .byte 114)) 162 22 (vp_nar .byte 32)) 162 23 (vp_nar .byte 97)) L P a (hf_sTl.getD (a - 100) (0, 0))) → hf_G X Y_X12_init (d + 5) 18 2586 189 [some (.ref 156), none] [.ref 162, .ref 156] (63, T, (hf_up (hf_up (hf_up (hf_up (hf_up (hf_up (hf_up (hf_up (hf_up (hf_up (hf_up (hf_up I 162 12 (vp_nar .byte 98)) 162 13 (vp_nar .byte 97)) 162 14 (vp_nar .byte 114)) 162 15 (vp_nar .byte 115)) 162 16 (vp_nar .byte 32)) 162 17 (vp_nar .byte 105)) 162 18 (vp_nar .byte 102)) 162 19 (vp_nar .byte 32)) 162 20 (vp_nar .byte 111)) 162 21 (vp_nar .byte 114)) 162 22 (vp_nar .byte 32)) 162 23 (vp_nar .byte 97)), L, P) Q) : hf_G X Y_X12_init (d + 5) 18 2586 117 [some (.ref 156), none] [.ref 162, .ref 156] (63, T, I, L, P) Q := by
  refine hf_dup dX12_init_117 rfl ?_
  refine hf_bipush (v := 12) dX12_init_118 (by decide) ?_
  refine hf_bipush (v := 98) dX12_init_120 (by decide) ?_
  refine hf_bast_k (j := 12) (by decide) dX12_init_122 (hs.2.1 162 _ rfl) (by omega) (hf_vin (by decide)) ?_
  replace hN : (∀ a, 163 ≤ a → a < 181 → jk_nw T (hf_up I 162 12 (vp_nar .byte 98)) L P a (hf_sTl.getD (a - 100) (0, 0))) := fun a h1 h2 => jk_up (by omega) (hN a (by omega) h2)
  refine hf_dup dX12_init_123 rfl ?_
  refine hf_bipush (v := 13) dX12_init_124 (by decide) ?_
  refine hf_bipush (v := 97) dX12_init_126 (by decide) ?_
  refine hf_bast_k (j := 13) (by decide) dX12_init_128 (hs.2.1 162 _ rfl) (by omega) (hf_vin (by decide)) ?_
  replace hN : (∀ a, 163 ≤ a → a < 181 → jk_nw T (hf_up (hf_up I 162 12 (vp_nar .byte 98)) 162 13 (vp_nar .byte 97)) L P a (hf_sTl.getD (a - 100) (0, 0))) := fun a h1 h2 => jk_up (by omega) (hN a (by omega) h2)
  refine hf_dup dX12_init_129 rfl ?_
  refine hf_bipush (v := 14) dX12_init_130 (by decide) ?_
  refine hf_bipush (v := 114) dX12_init_132 (by decide) ?_
  refine hf_bast_k (j := 14) (by decide) dX12_init_134 (hs.2.1 162 _ rfl) (by omega) (hf_vin (by decide)) ?_
  replace hN : (∀ a, 163 ≤ a → a < 181 → jk_nw T (hf_up (hf_up (hf_up I 162 12 (vp_nar .byte 98)) 162 13 (vp_nar .byte 97)) 162 14 (vp_nar .byte 114)) L P a (hf_sTl.getD (a - 100) (0, 0))) := fun a h1 h2 => jk_up (by omega) (hN a (by omega) h2)
  refine hf_dup dX12_init_135 rfl ?_
  refine hf_bipush (v := 15) dX12_init_136 (by decide) ?_
  refine hf_bipush (v := 115) dX12_init_138 (by decide) ?_
  refine hf_bast_k (j := 15) (by decide) dX12_init_140 (hs.2.1 162 _ rfl) (by omega) (hf_vin (by decide)) ?_
  replace hN : (∀ a, 163 ≤ a → a < 181 → jk_nw T (hf_up (hf_up (hf_up (hf_up I 162 12 (vp_nar .byte 98)) 162 13 (vp_nar .byte 97)) 162 14 (vp_nar .byte 114)) 162 15 (vp_nar .byte 115)) L P a (hf_sTl.getD (a - 100) (0, 0))) := fun a h1 h2 => jk_up (by omega) (hN a (by omega) h2)
  refine hf_dup dX12_init_141 rfl ?_
  refine hf_bipush (v := 16) dX12_init_142 (by decide) ?_
  refine hf_bipush (v := 32) dX12_init_144 (by decide) ?_
  refine hf_bast_k (j := 16) (by decide) dX12_init_146 (hs.2.1 162 _ rfl) (by omega) (hf_vin (by decide)) ?_
  replace hN : (∀ a, 163 ≤ a → a < 181 → jk_nw T (hf_up (hf_up (hf_up (hf_up (hf_up I 162 12 (vp_nar .byte 98)) 162 13 (vp_nar .byte 97)) 162 14 (vp_nar .byte 114)) 162 15 (vp_nar .byte 115)) 162 16 (vp_nar .byte 32)) L P a (hf_sTl.getD (a - 100) (0, 0))) := fun a h1 h2 => jk_up (by omega) (hN a (by omega) h2)
  refine hf_dup dX12_init_147 rfl ?_
  refine hf_bipush (v := 17) dX12_init_148 (by decide) ?_
  refine hf_bipush (v := 105) dX12_init_150 (by decide) ?_
  refine hf_bast_k (j := 17) (by decide) dX12_init_152 (hs.2.1 162 _ rfl) (by omega) (hf_vin (by decide)) ?_
  replace hN : (∀ a, 163 ≤ a → a < 181 → jk_nw T (hf_up (hf_up (hf_up (hf_up (hf_up (hf_up I 162 12 (vp_nar .byte 98)) 162 13 (vp_nar .byte 97)) 162 14 (vp_nar .byte 114)) 162 15 (vp_nar .byte 115)) 162 16 (vp_nar .byte 32)) 162 17 (vp_nar .byte 105)) L P a (hf_sTl.getD (a - 100) (0, 0))) := fun a h1 h2 => jk_up (by omega) (hN a (by omega) h2)
  refine hf_dup dX12_init_153 rfl ?_
  refine hf_bipush (v := 18) dX12_init_154 (by decide) ?_
  refine hf_bipush (v := 102) dX12_init_156 (by decide) ?_
  refine hf_bast_k (j := 18) (by decide) dX12_init_158 (hs.2.1 162 _ rfl) (by omega) (hf_vin (by decide)) ?_
  replace hN : (∀ a, 163 ≤ a → a < 181 → jk_nw T (hf_up (hf_up (hf_up (hf_up (hf_up (hf_up (hf_up I 162 12 (vp_nar .byte 98)) 162 13 (vp_nar .byte 97)) 162 14 (vp_nar .byte 114)) 162 15 (vp_nar .byte 115)) 162 16 (vp_nar .byte 32)) 162 17 (vp_nar .byte 105)) 162 18 (vp_nar .byte 102)) L P a (hf_sTl.getD (a - 100) (0, 0))) := fun a h1 h2 => jk_up (by omega) (hN a (by omega) h2)
  refine hf_dup dX12_init_159 rfl ?_
  refine hf_bipush (v := 19) dX12_init_160 (by decide) ?_
  refine hf_bipush (v := 32) dX12_init_162 (by decide) ?_
  refine hf_bast_k (j := 19) (by decide) dX12_init_164 (hs.2.1 162 _ rfl) (by omega) (hf_vin (by decide)) ?_
  replace hN : (∀ a, 163 ≤ a → a < 181 → jk_nw T (hf_up (hf_up (hf_up (hf_up (hf_up (hf_up (hf_up (hf_up I 162 12 (vp_nar .byte 98)) 162 13 (vp_nar .byte 97)) 162 14 (vp_nar .byte 114)) 162 15 (vp_nar .byte 115)) 162 16 (vp_nar .byte 32)) 162 17 (vp_nar .byte 105)) 162 18 (vp_nar .byte 102)) 162 19 (vp_nar .byte 32)) L P a (hf_sTl.getD (a - 100) (0, 0))) := fun a h1 h2 => jk_up (by omega) (hN a (by omega) h2)
  refine hf_dup dX12_init_165 rfl ?_
  refine hf_bipush (v := 20) dX12_init_166 (by decide) ?_
  refine hf_bipush (v := 111) dX12_init_168 (by decide) ?_
  refine hf_bast_k (j := 20) (by decide) dX12_init_170 (hs.2.1 162 _ rfl) (by omega) (hf_vin (by decide)) ?_
  replace hN : (∀ a, 163 ≤ a → a < 181 → jk_nw T (hf_up (hf_up (hf_up (hf_up (hf_up (hf_up (hf_up (hf_up (hf_up I 162 12 (vp_nar .byte 98)) 162 13 (vp_nar .byte 97)) 162 14 (vp_nar .byte 114)) 162 15 (vp_nar .byte 115)) 162 16 (vp_nar .byte 32)) 162 17 (vp_nar .byte 105)) 162 18 (vp_nar .byte 102)) 162 19 (vp_nar .byte 32)) 162 20 (vp_nar .byte 111)) L P a (hf_sTl.getD (a - 100) (0, 0))) := fun a h1 h2 => jk_up (by omega) (hN a (by omega) h2)
  refine hf_dup dX12_init_171 rfl ?_
  refine hf_bipush (v := 21) dX12_init_172 (by decide) ?_
  refine hf_bipush (v := 114) dX12_init_174 (by decide) ?_
  refine hf_bast_k (j := 21) (by decide) dX12_init_176 (hs.2.1 162 _ rfl) (by omega) (hf_vin (by decide)) ?_
  replace hN : (∀ a, 163 ≤ a → a < 181 → jk_nw T (hf_up (hf_up (hf_up (hf_up (hf_up (hf_up (hf_up (hf_up (hf_up (hf_up I 162 12 (vp_nar .byte 98)) 162 13 (vp_nar .byte 97)) 162 14 (vp_nar .byte 114)) 162 15 (vp_nar .byte 115)) 162 16 (vp_nar .byte 32)) 162 17 (vp_nar .byte 105)) 162 18 (vp_nar .byte 102)) 162 19 (vp_nar .byte 32)) 162 20 (vp_nar .byte 111)) 162 21 (vp_nar .byte 114)) L P a (hf_sTl.getD (a - 100) (0, 0))) := fun a h1 h2 => jk_up (by omega) (hN a (by omega) h2)
  refine hf_dup dX12_init_177 rfl ?_
  refine hf_bipush (v := 22) dX12_init_178 (by decide) ?_
  refine hf_bipush (v := 32) dX12_init_180 (by decide) ?_
  refine hf_bast_k (j := 22) (by decide) dX12_init_182 (hs.2.1 162 _ rfl) (by omega) (hf_vin (by decide)) ?_
  replace hN : (∀ a, 163 ≤ a → a < 181 → jk_nw T (hf_up (hf_up (hf_up (hf_up (hf_up (hf_up (hf_up (hf_up (hf_up (hf_up (hf_up I 162 12 (vp_nar .byte 98)) 162 13 (vp_nar .byte 97)) 162 14 (vp_nar .byte 114)) 162 15 (vp_nar .byte 115)) 162 16 (vp_nar .byte 32)) 162 17 (vp_nar .byte 105)) 162 18 (vp_nar .byte 102)) 162 19 (vp_nar .byte 32)) 162 20 (vp_nar .byte 111)) 162 21 (vp_nar .byte 114)) 162 22 (vp_nar .byte 32)) L P a (hf_sTl.getD (a - 100) (0, 0))) := fun a h1 h2 => jk_up (by omega) (hN a (by omega) h2)
  refine hf_dup dX12_init_183 rfl ?_
  refine hf_bipush (v := 23) dX12_init_184 (by decide) ?_
  refine hf_bipush (v := 97) dX12_init_186 (by decide) ?_
  refine hf_bast_k (j := 23) (by decide) dX12_init_188 (hs.2.1 162 _ rfl) (by omega) (hf_vin (by decide)) ?_
  replace hN : (∀ a, 163 ≤ a → a < 181 → jk_nw T (hf_up (hf_up (hf_up (hf_up (hf_up (hf_up (hf_up (hf_up (hf_up (hf_up (hf_up (hf_up I 162 12 (vp_nar .byte 98)) 162 13 (vp_nar .byte 97)) 162 14 (vp_nar .byte 114)) 162 15 (vp_nar .byte 115)) 162 16 (vp_nar .byte 32)) 162 17 (vp_nar .byte 105)) 162 18 (vp_nar .byte 102)) 162 19 (vp_nar .byte 32)) 162 20 (vp_nar .byte 111)) 162 21 (vp_nar .byte 114)) 162 22 (vp_nar .byte 32)) 162 23 (vp_nar .byte 97)) L P a (hf_sTl.getD (a - 100) (0, 0))) := fun a h1 h2 => jk_up (by omega) (hN a (by omega) h2)
  exact h (fun a h1 h2 => hN a (by omega) h2)

set_option maxHeartbeats 4000000 in
theorem w_X12_init_189_k {X : hf_X} {d : Nat} {T : hf_T} {I : hf_I} {L : hf_L} {P : hf_P} {Q : Option Value → hf_M → Prop} (hs : hf_Ly T) (hN : (∀ a, 163 ≤ a → a < 181 → jk_nw T I L P a (hf_sTl.getD (a - 100) (0, 0)))) (h : (∀ a, 163 ≤ a → a < 181 → jk_nw T (hf_up (hf_up (hf_up (hf_up (hf_up (hf_up (hf_up (hf_up (hf_up (hf_up (hf_up (hf_up I 162 24 (vp_nar .byte 110)) 162 25 (vp_nar .byte 100)) 162 26 (vp_nar .byte 32)) 162 27 (vp_nar .byte 110)) 162 28 (vp_nar .byte 111)) 162 29 (vp_nar .byte 116)) 162 30 (vp_nar .byte 32)) 162 31 (vp_nar .byte 119)) 162 32 (vp_nar .byte 111)) 162 33 (vp_nar .byte 114)) 162 34 (vp_nar .byte 100)) 162 35 (vp_nar .byte 32)) L P a (hf_sTl.getD (a - 100) (0, 0))) → hf_G X Y_X12_init (d + 5) 18 2586 261 [some (.ref 156), none] [.ref 162, .ref 156] (63, T, (hf_up (hf_up (hf_up (hf_up (hf_up (hf_up (hf_up (hf_up (hf_up (hf_up (hf_up (hf_up I 162 24 (vp_nar .byte 110)) 162 25 (vp_nar .byte 100)) 162 26 (vp_nar .byte 32)) 162 27 (vp_nar .byte 110)) 162 28 (vp_nar .byte 111)) 162 29 (vp_nar .byte 116)) 162 30 (vp_nar .byte 32)) 162 31 (vp_nar .byte 119)) 162 32 (vp_nar .byte 111)) 162 33 (vp_nar .byte 114)) 162 34 (vp_nar .byte 100)) 162 35 (vp_nar .byte 32)), L, P) Q) : hf_G X Y_X12_init (d + 5) 18 2586 189 [some (.ref 156), none] [.ref 162, .ref 156] (63, T, I, L, P) Q := by
  refine hf_dup dX12_init_189 rfl ?_
  refine hf_bipush (v := 24) dX12_init_190 (by decide) ?_
  refine hf_bipush (v := 110) dX12_init_192 (by decide) ?_
  refine hf_bast_k (j := 24) (by decide) dX12_init_194 (hs.2.1 162 _ rfl) (by omega) (hf_vin (by decide)) ?_
  replace hN : (∀ a, 163 ≤ a → a < 181 → jk_nw T (hf_up I 162 24 (vp_nar .byte 110)) L P a (hf_sTl.getD (a - 100) (0, 0))) := fun a h1 h2 => jk_up (by omega) (hN a (by omega) h2)
  refine hf_dup dX12_init_195 rfl ?_
  refine hf_bipush (v := 25) dX12_init_196 (by decide) ?_
  refine hf_bipush (v := 100) dX12_init_198 (by decide) ?_
  refine hf_bast_k (j := 25) (by decide) dX12_init_200 (hs.2.1 162 _ rfl) (by omega) (hf_vin (by decide)) ?_
  replace hN : (∀ a, 163 ≤ a → a < 181 → jk_nw T (hf_up (hf_up I 162 24 (vp_nar .byte 110)) 162 25 (vp_nar .byte 100)) L P a (hf_sTl.getD (a - 100) (0, 0))) := fun a h1 h2 => jk_up (by omega) (hN a (by omega) h2)
  refine hf_dup dX12_init_201 rfl ?_
  refine hf_bipush (v := 26) dX12_init_202 (by decide) ?_
  refine hf_bipush (v := 32) dX12_init_204 (by decide) ?_
  refine hf_bast_k (j := 26) (by decide) dX12_init_206 (hs.2.1 162 _ rfl) (by omega) (hf_vin (by decide)) ?_
  replace hN : (∀ a, 163 ≤ a → a < 181 → jk_nw T (hf_up (hf_up (hf_up I 162 24 (vp_nar .byte 110)) 162 25 (vp_nar .byte 100)) 162 26 (vp_nar .byte 32)) L P a (hf_sTl.getD (a - 100) (0, 0))) := fun a h1 h2 => jk_up (by omega) (hN a (by omega) h2)
  refine hf_dup dX12_init_207 rfl ?_
  refine hf_bipush (v := 27) dX12_init_208 (by decide) ?_
  refine hf_bipush (v := 110) dX12_init_210 (by decide) ?_
  refine hf_bast_k (j := 27) (by decide) dX12_init_212 (hs.2.1 162 _ rfl) (by omega) (hf_vin (by decide)) ?_
  replace hN : (∀ a, 163 ≤ a → a < 181 → jk_nw T (hf_up (hf_up (hf_up (hf_up I 162 24 (vp_nar .byte 110)) 162 25 (vp_nar .byte 100)) 162 26 (vp_nar .byte 32)) 162 27 (vp_nar .byte 110)) L P a (hf_sTl.getD (a - 100) (0, 0))) := fun a h1 h2 => jk_up (by omega) (hN a (by omega) h2)
  refine hf_dup dX12_init_213 rfl ?_
  refine hf_bipush (v := 28) dX12_init_214 (by decide) ?_
  refine hf_bipush (v := 111) dX12_init_216 (by decide) ?_
  refine hf_bast_k (j := 28) (by decide) dX12_init_218 (hs.2.1 162 _ rfl) (by omega) (hf_vin (by decide)) ?_
  replace hN : (∀ a, 163 ≤ a → a < 181 → jk_nw T (hf_up (hf_up (hf_up (hf_up (hf_up I 162 24 (vp_nar .byte 110)) 162 25 (vp_nar .byte 100)) 162 26 (vp_nar .byte 32)) 162 27 (vp_nar .byte 110)) 162 28 (vp_nar .byte 111)) L P a (hf_sTl.getD (a - 100) (0, 0))) := fun a h1 h2 => jk_up (by omega) (hN a (by omega) h2)
  refine hf_dup dX12_init_219 rfl ?_
  refine hf_bipush (v := 29) dX12_init_220 (by decide) ?_
  refine hf_bipush (v := 116) dX12_init_222 (by decide) ?_
  refine hf_bast_k (j := 29) (by decide) dX12_init_224 (hs.2.1 162 _ rfl) (by omega) (hf_vin (by decide)) ?_
  replace hN : (∀ a, 163 ≤ a → a < 181 → jk_nw T (hf_up (hf_up (hf_up (hf_up (hf_up (hf_up I 162 24 (vp_nar .byte 110)) 162 25 (vp_nar .byte 100)) 162 26 (vp_nar .byte 32)) 162 27 (vp_nar .byte 110)) 162 28 (vp_nar .byte 111)) 162 29 (vp_nar .byte 116)) L P a (hf_sTl.getD (a - 100) (0, 0))) := fun a h1 h2 => jk_up (by omega) (hN a (by omega) h2)
  refine hf_dup dX12_init_225 rfl ?_
  refine hf_bipush (v := 30) dX12_init_226 (by decide) ?_
  refine hf_bipush (v := 32) dX12_init_228 (by decide) ?_
  refine hf_bast_k (j := 30) (by decide) dX12_init_230 (hs.2.1 162 _ rfl) (by omega) (hf_vin (by decide)) ?_
  replace hN : (∀ a, 163 ≤ a → a < 181 → jk_nw T (hf_up (hf_up (hf_up (hf_up (hf_up (hf_up (hf_up I 162 24 (vp_nar .byte 110)) 162 25 (vp_nar .byte 100)) 162 26 (vp_nar .byte 32)) 162 27 (vp_nar .byte 110)) 162 28 (vp_nar .byte 111)) 162 29 (vp_nar .byte 116)) 162 30 (vp_nar .byte 32)) L P a (hf_sTl.getD (a - 100) (0, 0))) := fun a h1 h2 => jk_up (by omega) (hN a (by omega) h2)
  refine hf_dup dX12_init_231 rfl ?_
  refine hf_bipush (v := 31) dX12_init_232 (by decide) ?_
  refine hf_bipush (v := 119) dX12_init_234 (by decide) ?_
  refine hf_bast_k (j := 31) (by decide) dX12_init_236 (hs.2.1 162 _ rfl) (by omega) (hf_vin (by decide)) ?_
  replace hN : (∀ a, 163 ≤ a → a < 181 → jk_nw T (hf_up (hf_up (hf_up (hf_up (hf_up (hf_up (hf_up (hf_up I 162 24 (vp_nar .byte 110)) 162 25 (vp_nar .byte 100)) 162 26 (vp_nar .byte 32)) 162 27 (vp_nar .byte 110)) 162 28 (vp_nar .byte 111)) 162 29 (vp_nar .byte 116)) 162 30 (vp_nar .byte 32)) 162 31 (vp_nar .byte 119)) L P a (hf_sTl.getD (a - 100) (0, 0))) := fun a h1 h2 => jk_up (by omega) (hN a (by omega) h2)
  refine hf_dup dX12_init_237 rfl ?_
  refine hf_bipush (v := 32) dX12_init_238 (by decide) ?_
  refine hf_bipush (v := 111) dX12_init_240 (by decide) ?_
  refine hf_bast_k (j := 32) (by decide) dX12_init_242 (hs.2.1 162 _ rfl) (by omega) (hf_vin (by decide)) ?_
  replace hN : (∀ a, 163 ≤ a → a < 181 → jk_nw T (hf_up (hf_up (hf_up (hf_up (hf_up (hf_up (hf_up (hf_up (hf_up I 162 24 (vp_nar .byte 110)) 162 25 (vp_nar .byte 100)) 162 26 (vp_nar .byte 32)) 162 27 (vp_nar .byte 110)) 162 28 (vp_nar .byte 111)) 162 29 (vp_nar .byte 116)) 162 30 (vp_nar .byte 32)) 162 31 (vp_nar .byte 119)) 162 32 (vp_nar .byte 111)) L P a (hf_sTl.getD (a - 100) (0, 0))) := fun a h1 h2 => jk_up (by omega) (hN a (by omega) h2)
  refine hf_dup dX12_init_243 rfl ?_
  refine hf_bipush (v := 33) dX12_init_244 (by decide) ?_
  refine hf_bipush (v := 114) dX12_init_246 (by decide) ?_
  refine hf_bast_k (j := 33) (by decide) dX12_init_248 (hs.2.1 162 _ rfl) (by omega) (hf_vin (by decide)) ?_
  replace hN : (∀ a, 163 ≤ a → a < 181 → jk_nw T (hf_up (hf_up (hf_up (hf_up (hf_up (hf_up (hf_up (hf_up (hf_up (hf_up I 162 24 (vp_nar .byte 110)) 162 25 (vp_nar .byte 100)) 162 26 (vp_nar .byte 32)) 162 27 (vp_nar .byte 110)) 162 28 (vp_nar .byte 111)) 162 29 (vp_nar .byte 116)) 162 30 (vp_nar .byte 32)) 162 31 (vp_nar .byte 119)) 162 32 (vp_nar .byte 111)) 162 33 (vp_nar .byte 114)) L P a (hf_sTl.getD (a - 100) (0, 0))) := fun a h1 h2 => jk_up (by omega) (hN a (by omega) h2)
  refine hf_dup dX12_init_249 rfl ?_
  refine hf_bipush (v := 34) dX12_init_250 (by decide) ?_
  refine hf_bipush (v := 100) dX12_init_252 (by decide) ?_
  refine hf_bast_k (j := 34) (by decide) dX12_init_254 (hs.2.1 162 _ rfl) (by omega) (hf_vin (by decide)) ?_
  replace hN : (∀ a, 163 ≤ a → a < 181 → jk_nw T (hf_up (hf_up (hf_up (hf_up (hf_up (hf_up (hf_up (hf_up (hf_up (hf_up (hf_up I 162 24 (vp_nar .byte 110)) 162 25 (vp_nar .byte 100)) 162 26 (vp_nar .byte 32)) 162 27 (vp_nar .byte 110)) 162 28 (vp_nar .byte 111)) 162 29 (vp_nar .byte 116)) 162 30 (vp_nar .byte 32)) 162 31 (vp_nar .byte 119)) 162 32 (vp_nar .byte 111)) 162 33 (vp_nar .byte 114)) 162 34 (vp_nar .byte 100)) L P a (hf_sTl.getD (a - 100) (0, 0))) := fun a h1 h2 => jk_up (by omega) (hN a (by omega) h2)
  refine hf_dup dX12_init_255 rfl ?_
  refine hf_bipush (v := 35) dX12_init_256 (by decide) ?_
  refine hf_bipush (v := 32) dX12_init_258 (by decide) ?_
  refine hf_bast_k (j := 35) (by decide) dX12_init_260 (hs.2.1 162 _ rfl) (by omega) (hf_vin (by decide)) ?_
  replace hN : (∀ a, 163 ≤ a → a < 181 → jk_nw T (hf_up (hf_up (hf_up (hf_up (hf_up (hf_up (hf_up (hf_up (hf_up (hf_up (hf_up (hf_up I 162 24 (vp_nar .byte 110)) 162 25 (vp_nar .byte 100)) 162 26 (vp_nar .byte 32)) 162 27 (vp_nar .byte 110)) 162 28 (vp_nar .byte 111)) 162 29 (vp_nar .byte 116)) 162 30 (vp_nar .byte 32)) 162 31 (vp_nar .byte 119)) 162 32 (vp_nar .byte 111)) 162 33 (vp_nar .byte 114)) 162 34 (vp_nar .byte 100)) 162 35 (vp_nar .byte 32)) L P a (hf_sTl.getD (a - 100) (0, 0))) := fun a h1 h2 => jk_up (by omega) (hN a (by omega) h2)
  exact h (fun a h1 h2 => hN a (by omega) h2)

set_option maxHeartbeats 4000000 in
theorem w_X12_init_261_k {X : hf_X} {d : Nat} {T : hf_T} {I : hf_I} {L : hf_L} {P : hf_P} {Q : Option Value → hf_M → Prop} (hs : hf_Ly T) (hN : (∀ a, 163 ≤ a → a < 181 → jk_nw T I L P a (hf_sTl.getD (a - 100) (0, 0)))) (h : (∀ a, 163 ≤ a → a < 181 → jk_nw T (hf_up (hf_up (hf_up (hf_up (hf_up (hf_up (hf_up (hf_up (hf_up (hf_up (hf_up (hf_up I 162 36 (vp_nar .byte 115)) 162 37 (vp_nar .byte 101)) 162 38 (vp_nar .byte 110)) 162 39 (vp_nar .byte 115)) 162 40 (vp_nar .byte 101)) 162 41 (vp_nar .byte 32)) 162 42 (vp_nar .byte 108)) 162 43 (vp_nar .byte 111)) 162 44 (vp_nar .byte 115)) 162 45 (vp_nar .byte 115)) 162 46 (vp_nar .byte 32)) 162 47 (vp_nar .byte 116)) L P a (hf_sTl.getD (a - 100) (0, 0))) → hf_G X Y_X12_init (d + 5) 18 2586 333 [some (.ref 156), none] [.ref 162, .ref 156] (63, T, (hf_up (hf_up (hf_up (hf_up (hf_up (hf_up (hf_up (hf_up (hf_up (hf_up (hf_up (hf_up I 162 36 (vp_nar .byte 115)) 162 37 (vp_nar .byte 101)) 162 38 (vp_nar .byte 110)) 162 39 (vp_nar .byte 115)) 162 40 (vp_nar .byte 101)) 162 41 (vp_nar .byte 32)) 162 42 (vp_nar .byte 108)) 162 43 (vp_nar .byte 111)) 162 44 (vp_nar .byte 115)) 162 45 (vp_nar .byte 115)) 162 46 (vp_nar .byte 32)) 162 47 (vp_nar .byte 116)), L, P) Q) : hf_G X Y_X12_init (d + 5) 18 2586 261 [some (.ref 156), none] [.ref 162, .ref 156] (63, T, I, L, P) Q := by
  refine hf_dup dX12_init_261 rfl ?_
  refine hf_bipush (v := 36) dX12_init_262 (by decide) ?_
  refine hf_bipush (v := 115) dX12_init_264 (by decide) ?_
  refine hf_bast_k (j := 36) (by decide) dX12_init_266 (hs.2.1 162 _ rfl) (by omega) (hf_vin (by decide)) ?_
  replace hN : (∀ a, 163 ≤ a → a < 181 → jk_nw T (hf_up I 162 36 (vp_nar .byte 115)) L P a (hf_sTl.getD (a - 100) (0, 0))) := fun a h1 h2 => jk_up (by omega) (hN a (by omega) h2)
  refine hf_dup dX12_init_267 rfl ?_
  refine hf_bipush (v := 37) dX12_init_268 (by decide) ?_
  refine hf_bipush (v := 101) dX12_init_270 (by decide) ?_
  refine hf_bast_k (j := 37) (by decide) dX12_init_272 (hs.2.1 162 _ rfl) (by omega) (hf_vin (by decide)) ?_
  replace hN : (∀ a, 163 ≤ a → a < 181 → jk_nw T (hf_up (hf_up I 162 36 (vp_nar .byte 115)) 162 37 (vp_nar .byte 101)) L P a (hf_sTl.getD (a - 100) (0, 0))) := fun a h1 h2 => jk_up (by omega) (hN a (by omega) h2)
  refine hf_dup dX12_init_273 rfl ?_
  refine hf_bipush (v := 38) dX12_init_274 (by decide) ?_
  refine hf_bipush (v := 110) dX12_init_276 (by decide) ?_
  refine hf_bast_k (j := 38) (by decide) dX12_init_278 (hs.2.1 162 _ rfl) (by omega) (hf_vin (by decide)) ?_
  replace hN : (∀ a, 163 ≤ a → a < 181 → jk_nw T (hf_up (hf_up (hf_up I 162 36 (vp_nar .byte 115)) 162 37 (vp_nar .byte 101)) 162 38 (vp_nar .byte 110)) L P a (hf_sTl.getD (a - 100) (0, 0))) := fun a h1 h2 => jk_up (by omega) (hN a (by omega) h2)
  refine hf_dup dX12_init_279 rfl ?_
  refine hf_bipush (v := 39) dX12_init_280 (by decide) ?_
  refine hf_bipush (v := 115) dX12_init_282 (by decide) ?_
  refine hf_bast_k (j := 39) (by decide) dX12_init_284 (hs.2.1 162 _ rfl) (by omega) (hf_vin (by decide)) ?_
  replace hN : (∀ a, 163 ≤ a → a < 181 → jk_nw T (hf_up (hf_up (hf_up (hf_up I 162 36 (vp_nar .byte 115)) 162 37 (vp_nar .byte 101)) 162 38 (vp_nar .byte 110)) 162 39 (vp_nar .byte 115)) L P a (hf_sTl.getD (a - 100) (0, 0))) := fun a h1 h2 => jk_up (by omega) (hN a (by omega) h2)
  refine hf_dup dX12_init_285 rfl ?_
  refine hf_bipush (v := 40) dX12_init_286 (by decide) ?_
  refine hf_bipush (v := 101) dX12_init_288 (by decide) ?_
  refine hf_bast_k (j := 40) (by decide) dX12_init_290 (hs.2.1 162 _ rfl) (by omega) (hf_vin (by decide)) ?_
  replace hN : (∀ a, 163 ≤ a → a < 181 → jk_nw T (hf_up (hf_up (hf_up (hf_up (hf_up I 162 36 (vp_nar .byte 115)) 162 37 (vp_nar .byte 101)) 162 38 (vp_nar .byte 110)) 162 39 (vp_nar .byte 115)) 162 40 (vp_nar .byte 101)) L P a (hf_sTl.getD (a - 100) (0, 0))) := fun a h1 h2 => jk_up (by omega) (hN a (by omega) h2)
  refine hf_dup dX12_init_291 rfl ?_
  refine hf_bipush (v := 41) dX12_init_292 (by decide) ?_
  refine hf_bipush (v := 32) dX12_init_294 (by decide) ?_
  refine hf_bast_k (j := 41) (by decide) dX12_init_296 (hs.2.1 162 _ rfl) (by omega) (hf_vin (by decide)) ?_
  replace hN : (∀ a, 163 ≤ a → a < 181 → jk_nw T (hf_up (hf_up (hf_up (hf_up (hf_up (hf_up I 162 36 (vp_nar .byte 115)) 162 37 (vp_nar .byte 101)) 162 38 (vp_nar .byte 110)) 162 39 (vp_nar .byte 115)) 162 40 (vp_nar .byte 101)) 162 41 (vp_nar .byte 32)) L P a (hf_sTl.getD (a - 100) (0, 0))) := fun a h1 h2 => jk_up (by omega) (hN a (by omega) h2)
  refine hf_dup dX12_init_297 rfl ?_
  refine hf_bipush (v := 42) dX12_init_298 (by decide) ?_
  refine hf_bipush (v := 108) dX12_init_300 (by decide) ?_
  refine hf_bast_k (j := 42) (by decide) dX12_init_302 (hs.2.1 162 _ rfl) (by omega) (hf_vin (by decide)) ?_
  replace hN : (∀ a, 163 ≤ a → a < 181 → jk_nw T (hf_up (hf_up (hf_up (hf_up (hf_up (hf_up (hf_up I 162 36 (vp_nar .byte 115)) 162 37 (vp_nar .byte 101)) 162 38 (vp_nar .byte 110)) 162 39 (vp_nar .byte 115)) 162 40 (vp_nar .byte 101)) 162 41 (vp_nar .byte 32)) 162 42 (vp_nar .byte 108)) L P a (hf_sTl.getD (a - 100) (0, 0))) := fun a h1 h2 => jk_up (by omega) (hN a (by omega) h2)
  refine hf_dup dX12_init_303 rfl ?_
  refine hf_bipush (v := 43) dX12_init_304 (by decide) ?_
  refine hf_bipush (v := 111) dX12_init_306 (by decide) ?_
  refine hf_bast_k (j := 43) (by decide) dX12_init_308 (hs.2.1 162 _ rfl) (by omega) (hf_vin (by decide)) ?_
  replace hN : (∀ a, 163 ≤ a → a < 181 → jk_nw T (hf_up (hf_up (hf_up (hf_up (hf_up (hf_up (hf_up (hf_up I 162 36 (vp_nar .byte 115)) 162 37 (vp_nar .byte 101)) 162 38 (vp_nar .byte 110)) 162 39 (vp_nar .byte 115)) 162 40 (vp_nar .byte 101)) 162 41 (vp_nar .byte 32)) 162 42 (vp_nar .byte 108)) 162 43 (vp_nar .byte 111)) L P a (hf_sTl.getD (a - 100) (0, 0))) := fun a h1 h2 => jk_up (by omega) (hN a (by omega) h2)
  refine hf_dup dX12_init_309 rfl ?_
  refine hf_bipush (v := 44) dX12_init_310 (by decide) ?_
  refine hf_bipush (v := 115) dX12_init_312 (by decide) ?_
  refine hf_bast_k (j := 44) (by decide) dX12_init_314 (hs.2.1 162 _ rfl) (by omega) (hf_vin (by decide)) ?_
  replace hN : (∀ a, 163 ≤ a → a < 181 → jk_nw T (hf_up (hf_up (hf_up (hf_up (hf_up (hf_up (hf_up (hf_up (hf_up I 162 36 (vp_nar .byte 115)) 162 37 (vp_nar .byte 101)) 162 38 (vp_nar .byte 110)) 162 39 (vp_nar .byte 115)) 162 40 (vp_nar .byte 101)) 162 41 (vp_nar .byte 32)) 162 42 (vp_nar .byte 108)) 162 43 (vp_nar .byte 111)) 162 44 (vp_nar .byte 115)) L P a (hf_sTl.getD (a - 100) (0, 0))) := fun a h1 h2 => jk_up (by omega) (hN a (by omega) h2)
  refine hf_dup dX12_init_315 rfl ?_
  refine hf_bipush (v := 45) dX12_init_316 (by decide) ?_
  refine hf_bipush (v := 115) dX12_init_318 (by decide) ?_
  refine hf_bast_k (j := 45) (by decide) dX12_init_320 (hs.2.1 162 _ rfl) (by omega) (hf_vin (by decide)) ?_
  replace hN : (∀ a, 163 ≤ a → a < 181 → jk_nw T (hf_up (hf_up (hf_up (hf_up (hf_up (hf_up (hf_up (hf_up (hf_up (hf_up I 162 36 (vp_nar .byte 115)) 162 37 (vp_nar .byte 101)) 162 38 (vp_nar .byte 110)) 162 39 (vp_nar .byte 115)) 162 40 (vp_nar .byte 101)) 162 41 (vp_nar .byte 32)) 162 42 (vp_nar .byte 108)) 162 43 (vp_nar .byte 111)) 162 44 (vp_nar .byte 115)) 162 45 (vp_nar .byte 115)) L P a (hf_sTl.getD (a - 100) (0, 0))) := fun a h1 h2 => jk_up (by omega) (hN a (by omega) h2)
  refine hf_dup dX12_init_321 rfl ?_
  refine hf_bipush (v := 46) dX12_init_322 (by decide) ?_
  refine hf_bipush (v := 32) dX12_init_324 (by decide) ?_
  refine hf_bast_k (j := 46) (by decide) dX12_init_326 (hs.2.1 162 _ rfl) (by omega) (hf_vin (by decide)) ?_
  replace hN : (∀ a, 163 ≤ a → a < 181 → jk_nw T (hf_up (hf_up (hf_up (hf_up (hf_up (hf_up (hf_up (hf_up (hf_up (hf_up (hf_up I 162 36 (vp_nar .byte 115)) 162 37 (vp_nar .byte 101)) 162 38 (vp_nar .byte 110)) 162 39 (vp_nar .byte 115)) 162 40 (vp_nar .byte 101)) 162 41 (vp_nar .byte 32)) 162 42 (vp_nar .byte 108)) 162 43 (vp_nar .byte 111)) 162 44 (vp_nar .byte 115)) 162 45 (vp_nar .byte 115)) 162 46 (vp_nar .byte 32)) L P a (hf_sTl.getD (a - 100) (0, 0))) := fun a h1 h2 => jk_up (by omega) (hN a (by omega) h2)
  refine hf_dup dX12_init_327 rfl ?_
  refine hf_bipush (v := 47) dX12_init_328 (by decide) ?_
  refine hf_bipush (v := 116) dX12_init_330 (by decide) ?_
  refine hf_bast_k (j := 47) (by decide) dX12_init_332 (hs.2.1 162 _ rfl) (by omega) (hf_vin (by decide)) ?_
  replace hN : (∀ a, 163 ≤ a → a < 181 → jk_nw T (hf_up (hf_up (hf_up (hf_up (hf_up (hf_up (hf_up (hf_up (hf_up (hf_up (hf_up (hf_up I 162 36 (vp_nar .byte 115)) 162 37 (vp_nar .byte 101)) 162 38 (vp_nar .byte 110)) 162 39 (vp_nar .byte 115)) 162 40 (vp_nar .byte 101)) 162 41 (vp_nar .byte 32)) 162 42 (vp_nar .byte 108)) 162 43 (vp_nar .byte 111)) 162 44 (vp_nar .byte 115)) 162 45 (vp_nar .byte 115)) 162 46 (vp_nar .byte 32)) 162 47 (vp_nar .byte 116)) L P a (hf_sTl.getD (a - 100) (0, 0))) := fun a h1 h2 => jk_up (by omega) (hN a (by omega) h2)
  exact h (fun a h1 h2 => hN a (by omega) h2)

set_option maxHeartbeats 4000000 in
theorem w_X12_init_333_k {X : hf_X} {d : Nat} {T : hf_T} {I : hf_I} {L : hf_L} {P : hf_P} {Q : Option Value → hf_M → Prop} (hs : hf_Ly T) (hN : (∀ a, 163 ≤ a → a < 181 → jk_nw T I L P a (hf_sTl.getD (a - 100) (0, 0)))) (h : (∀ a, 163 ≤ a → a < 181 → jk_nw T (hf_up (hf_up (hf_up (hf_up (hf_up (hf_up (hf_up (hf_up (hf_up (hf_up (hf_up (hf_up I 162 48 (vp_nar .byte 114)) 162 49 (vp_nar .byte 117)) 162 50 (vp_nar .byte 116)) 162 51 (vp_nar .byte 104)) 162 52 (vp_nar .byte 32)) 162 53 (vp_nar .byte 108)) 162 54 (vp_nar .byte 101)) 162 55 (vp_nar .byte 110)) 162 56 (vp_nar .byte 103)) 162 57 (vp_nar .byte 116)) 162 58 (vp_nar .byte 104)) 162 59 (vp_nar .byte 32)) L P a (hf_sTl.getD (a - 100) (0, 0))) → hf_G X Y_X12_init (d + 5) 18 2586 405 [some (.ref 156), none] [.ref 162, .ref 156] (63, T, (hf_up (hf_up (hf_up (hf_up (hf_up (hf_up (hf_up (hf_up (hf_up (hf_up (hf_up (hf_up I 162 48 (vp_nar .byte 114)) 162 49 (vp_nar .byte 117)) 162 50 (vp_nar .byte 116)) 162 51 (vp_nar .byte 104)) 162 52 (vp_nar .byte 32)) 162 53 (vp_nar .byte 108)) 162 54 (vp_nar .byte 101)) 162 55 (vp_nar .byte 110)) 162 56 (vp_nar .byte 103)) 162 57 (vp_nar .byte 116)) 162 58 (vp_nar .byte 104)) 162 59 (vp_nar .byte 32)), L, P) Q) : hf_G X Y_X12_init (d + 5) 18 2586 333 [some (.ref 156), none] [.ref 162, .ref 156] (63, T, I, L, P) Q := by
  refine hf_dup dX12_init_333 rfl ?_
  refine hf_bipush (v := 48) dX12_init_334 (by decide) ?_
  refine hf_bipush (v := 114) dX12_init_336 (by decide) ?_
  refine hf_bast_k (j := 48) (by decide) dX12_init_338 (hs.2.1 162 _ rfl) (by omega) (hf_vin (by decide)) ?_
  replace hN : (∀ a, 163 ≤ a → a < 181 → jk_nw T (hf_up I 162 48 (vp_nar .byte 114)) L P a (hf_sTl.getD (a - 100) (0, 0))) := fun a h1 h2 => jk_up (by omega) (hN a (by omega) h2)
  refine hf_dup dX12_init_339 rfl ?_
  refine hf_bipush (v := 49) dX12_init_340 (by decide) ?_
  refine hf_bipush (v := 117) dX12_init_342 (by decide) ?_
  refine hf_bast_k (j := 49) (by decide) dX12_init_344 (hs.2.1 162 _ rfl) (by omega) (hf_vin (by decide)) ?_
  replace hN : (∀ a, 163 ≤ a → a < 181 → jk_nw T (hf_up (hf_up I 162 48 (vp_nar .byte 114)) 162 49 (vp_nar .byte 117)) L P a (hf_sTl.getD (a - 100) (0, 0))) := fun a h1 h2 => jk_up (by omega) (hN a (by omega) h2)
  refine hf_dup dX12_init_345 rfl ?_
  refine hf_bipush (v := 50) dX12_init_346 (by decide) ?_
  refine hf_bipush (v := 116) dX12_init_348 (by decide) ?_
  refine hf_bast_k (j := 50) (by decide) dX12_init_350 (hs.2.1 162 _ rfl) (by omega) (hf_vin (by decide)) ?_
  replace hN : (∀ a, 163 ≤ a → a < 181 → jk_nw T (hf_up (hf_up (hf_up I 162 48 (vp_nar .byte 114)) 162 49 (vp_nar .byte 117)) 162 50 (vp_nar .byte 116)) L P a (hf_sTl.getD (a - 100) (0, 0))) := fun a h1 h2 => jk_up (by omega) (hN a (by omega) h2)
  refine hf_dup dX12_init_351 rfl ?_
  refine hf_bipush (v := 51) dX12_init_352 (by decide) ?_
  refine hf_bipush (v := 104) dX12_init_354 (by decide) ?_
  refine hf_bast_k (j := 51) (by decide) dX12_init_356 (hs.2.1 162 _ rfl) (by omega) (hf_vin (by decide)) ?_
  replace hN : (∀ a, 163 ≤ a → a < 181 → jk_nw T (hf_up (hf_up (hf_up (hf_up I 162 48 (vp_nar .byte 114)) 162 49 (vp_nar .byte 117)) 162 50 (vp_nar .byte 116)) 162 51 (vp_nar .byte 104)) L P a (hf_sTl.getD (a - 100) (0, 0))) := fun a h1 h2 => jk_up (by omega) (hN a (by omega) h2)
  refine hf_dup dX12_init_357 rfl ?_
  refine hf_bipush (v := 52) dX12_init_358 (by decide) ?_
  refine hf_bipush (v := 32) dX12_init_360 (by decide) ?_
  refine hf_bast_k (j := 52) (by decide) dX12_init_362 (hs.2.1 162 _ rfl) (by omega) (hf_vin (by decide)) ?_
  replace hN : (∀ a, 163 ≤ a → a < 181 → jk_nw T (hf_up (hf_up (hf_up (hf_up (hf_up I 162 48 (vp_nar .byte 114)) 162 49 (vp_nar .byte 117)) 162 50 (vp_nar .byte 116)) 162 51 (vp_nar .byte 104)) 162 52 (vp_nar .byte 32)) L P a (hf_sTl.getD (a - 100) (0, 0))) := fun a h1 h2 => jk_up (by omega) (hN a (by omega) h2)
  refine hf_dup dX12_init_363 rfl ?_
  refine hf_bipush (v := 53) dX12_init_364 (by decide) ?_
  refine hf_bipush (v := 108) dX12_init_366 (by decide) ?_
  refine hf_bast_k (j := 53) (by decide) dX12_init_368 (hs.2.1 162 _ rfl) (by omega) (hf_vin (by decide)) ?_
  replace hN : (∀ a, 163 ≤ a → a < 181 → jk_nw T (hf_up (hf_up (hf_up (hf_up (hf_up (hf_up I 162 48 (vp_nar .byte 114)) 162 49 (vp_nar .byte 117)) 162 50 (vp_nar .byte 116)) 162 51 (vp_nar .byte 104)) 162 52 (vp_nar .byte 32)) 162 53 (vp_nar .byte 108)) L P a (hf_sTl.getD (a - 100) (0, 0))) := fun a h1 h2 => jk_up (by omega) (hN a (by omega) h2)
  refine hf_dup dX12_init_369 rfl ?_
  refine hf_bipush (v := 54) dX12_init_370 (by decide) ?_
  refine hf_bipush (v := 101) dX12_init_372 (by decide) ?_
  refine hf_bast_k (j := 54) (by decide) dX12_init_374 (hs.2.1 162 _ rfl) (by omega) (hf_vin (by decide)) ?_
  replace hN : (∀ a, 163 ≤ a → a < 181 → jk_nw T (hf_up (hf_up (hf_up (hf_up (hf_up (hf_up (hf_up I 162 48 (vp_nar .byte 114)) 162 49 (vp_nar .byte 117)) 162 50 (vp_nar .byte 116)) 162 51 (vp_nar .byte 104)) 162 52 (vp_nar .byte 32)) 162 53 (vp_nar .byte 108)) 162 54 (vp_nar .byte 101)) L P a (hf_sTl.getD (a - 100) (0, 0))) := fun a h1 h2 => jk_up (by omega) (hN a (by omega) h2)
  refine hf_dup dX12_init_375 rfl ?_
  refine hf_bipush (v := 55) dX12_init_376 (by decide) ?_
  refine hf_bipush (v := 110) dX12_init_378 (by decide) ?_
  refine hf_bast_k (j := 55) (by decide) dX12_init_380 (hs.2.1 162 _ rfl) (by omega) (hf_vin (by decide)) ?_
  replace hN : (∀ a, 163 ≤ a → a < 181 → jk_nw T (hf_up (hf_up (hf_up (hf_up (hf_up (hf_up (hf_up (hf_up I 162 48 (vp_nar .byte 114)) 162 49 (vp_nar .byte 117)) 162 50 (vp_nar .byte 116)) 162 51 (vp_nar .byte 104)) 162 52 (vp_nar .byte 32)) 162 53 (vp_nar .byte 108)) 162 54 (vp_nar .byte 101)) 162 55 (vp_nar .byte 110)) L P a (hf_sTl.getD (a - 100) (0, 0))) := fun a h1 h2 => jk_up (by omega) (hN a (by omega) h2)
  refine hf_dup dX12_init_381 rfl ?_
  refine hf_bipush (v := 56) dX12_init_382 (by decide) ?_
  refine hf_bipush (v := 103) dX12_init_384 (by decide) ?_
  refine hf_bast_k (j := 56) (by decide) dX12_init_386 (hs.2.1 162 _ rfl) (by omega) (hf_vin (by decide)) ?_
  replace hN : (∀ a, 163 ≤ a → a < 181 → jk_nw T (hf_up (hf_up (hf_up (hf_up (hf_up (hf_up (hf_up (hf_up (hf_up I 162 48 (vp_nar .byte 114)) 162 49 (vp_nar .byte 117)) 162 50 (vp_nar .byte 116)) 162 51 (vp_nar .byte 104)) 162 52 (vp_nar .byte 32)) 162 53 (vp_nar .byte 108)) 162 54 (vp_nar .byte 101)) 162 55 (vp_nar .byte 110)) 162 56 (vp_nar .byte 103)) L P a (hf_sTl.getD (a - 100) (0, 0))) := fun a h1 h2 => jk_up (by omega) (hN a (by omega) h2)
  refine hf_dup dX12_init_387 rfl ?_
  refine hf_bipush (v := 57) dX12_init_388 (by decide) ?_
  refine hf_bipush (v := 116) dX12_init_390 (by decide) ?_
  refine hf_bast_k (j := 57) (by decide) dX12_init_392 (hs.2.1 162 _ rfl) (by omega) (hf_vin (by decide)) ?_
  replace hN : (∀ a, 163 ≤ a → a < 181 → jk_nw T (hf_up (hf_up (hf_up (hf_up (hf_up (hf_up (hf_up (hf_up (hf_up (hf_up I 162 48 (vp_nar .byte 114)) 162 49 (vp_nar .byte 117)) 162 50 (vp_nar .byte 116)) 162 51 (vp_nar .byte 104)) 162 52 (vp_nar .byte 32)) 162 53 (vp_nar .byte 108)) 162 54 (vp_nar .byte 101)) 162 55 (vp_nar .byte 110)) 162 56 (vp_nar .byte 103)) 162 57 (vp_nar .byte 116)) L P a (hf_sTl.getD (a - 100) (0, 0))) := fun a h1 h2 => jk_up (by omega) (hN a (by omega) h2)
  refine hf_dup dX12_init_393 rfl ?_
  refine hf_bipush (v := 58) dX12_init_394 (by decide) ?_
  refine hf_bipush (v := 104) dX12_init_396 (by decide) ?_
  refine hf_bast_k (j := 58) (by decide) dX12_init_398 (hs.2.1 162 _ rfl) (by omega) (hf_vin (by decide)) ?_
  replace hN : (∀ a, 163 ≤ a → a < 181 → jk_nw T (hf_up (hf_up (hf_up (hf_up (hf_up (hf_up (hf_up (hf_up (hf_up (hf_up (hf_up I 162 48 (vp_nar .byte 114)) 162 49 (vp_nar .byte 117)) 162 50 (vp_nar .byte 116)) 162 51 (vp_nar .byte 104)) 162 52 (vp_nar .byte 32)) 162 53 (vp_nar .byte 108)) 162 54 (vp_nar .byte 101)) 162 55 (vp_nar .byte 110)) 162 56 (vp_nar .byte 103)) 162 57 (vp_nar .byte 116)) 162 58 (vp_nar .byte 104)) L P a (hf_sTl.getD (a - 100) (0, 0))) := fun a h1 h2 => jk_up (by omega) (hN a (by omega) h2)
  refine hf_dup dX12_init_399 rfl ?_
  refine hf_bipush (v := 59) dX12_init_400 (by decide) ?_
  refine hf_bipush (v := 32) dX12_init_402 (by decide) ?_
  refine hf_bast_k (j := 59) (by decide) dX12_init_404 (hs.2.1 162 _ rfl) (by omega) (hf_vin (by decide)) ?_
  replace hN : (∀ a, 163 ≤ a → a < 181 → jk_nw T (hf_up (hf_up (hf_up (hf_up (hf_up (hf_up (hf_up (hf_up (hf_up (hf_up (hf_up (hf_up I 162 48 (vp_nar .byte 114)) 162 49 (vp_nar .byte 117)) 162 50 (vp_nar .byte 116)) 162 51 (vp_nar .byte 104)) 162 52 (vp_nar .byte 32)) 162 53 (vp_nar .byte 108)) 162 54 (vp_nar .byte 101)) 162 55 (vp_nar .byte 110)) 162 56 (vp_nar .byte 103)) 162 57 (vp_nar .byte 116)) 162 58 (vp_nar .byte 104)) 162 59 (vp_nar .byte 32)) L P a (hf_sTl.getD (a - 100) (0, 0))) := fun a h1 h2 => jk_up (by omega) (hN a (by omega) h2)
  exact h (fun a h1 h2 => hN a (by omega) h2)

set_option maxHeartbeats 4000000 in
theorem w_X12_init_405_k {X : hf_X} {d : Nat} {T : hf_T} {I : hf_I} {L : hf_L} {P : hf_P} {Q : Option Value → hf_M → Prop} (hs : hf_Ly T) (hN : (∀ a, 163 ≤ a → a < 181 → jk_nw T I L P a (hf_sTl.getD (a - 100) (0, 0)))) (h : (∀ a, 163 ≤ a → a < 181 → jk_nw T (hf_up (hf_up (hf_up (hf_up (hf_up (hf_up (hf_up (hf_up (hf_up (hf_up (hf_up (hf_up I 162 60 (vp_nar .byte 108)) 162 61 (vp_nar .byte 105)) 162 62 (vp_nar .byte 110)) 162 63 (vp_nar .byte 101)) 162 64 (vp_nar .byte 32)) 162 65 (vp_nar .byte 119)) 162 66 (vp_nar .byte 104)) 162 67 (vp_nar .byte 105)) 162 68 (vp_nar .byte 116)) 162 69 (vp_nar .byte 101)) 162 70 (vp_nar .byte 32)) 162 71 (vp_nar .byte 109)) L P a (hf_sTl.getD (a - 100) (0, 0))) → hf_G X Y_X12_init (d + 5) 18 2586 477 [some (.ref 156), none] [.ref 162, .ref 156] (63, T, (hf_up (hf_up (hf_up (hf_up (hf_up (hf_up (hf_up (hf_up (hf_up (hf_up (hf_up (hf_up I 162 60 (vp_nar .byte 108)) 162 61 (vp_nar .byte 105)) 162 62 (vp_nar .byte 110)) 162 63 (vp_nar .byte 101)) 162 64 (vp_nar .byte 32)) 162 65 (vp_nar .byte 119)) 162 66 (vp_nar .byte 104)) 162 67 (vp_nar .byte 105)) 162 68 (vp_nar .byte 116)) 162 69 (vp_nar .byte 101)) 162 70 (vp_nar .byte 32)) 162 71 (vp_nar .byte 109)), L, P) Q) : hf_G X Y_X12_init (d + 5) 18 2586 405 [some (.ref 156), none] [.ref 162, .ref 156] (63, T, I, L, P) Q := by
  refine hf_dup dX12_init_405 rfl ?_
  refine hf_bipush (v := 60) dX12_init_406 (by decide) ?_
  refine hf_bipush (v := 108) dX12_init_408 (by decide) ?_
  refine hf_bast_k (j := 60) (by decide) dX12_init_410 (hs.2.1 162 _ rfl) (by omega) (hf_vin (by decide)) ?_
  replace hN : (∀ a, 163 ≤ a → a < 181 → jk_nw T (hf_up I 162 60 (vp_nar .byte 108)) L P a (hf_sTl.getD (a - 100) (0, 0))) := fun a h1 h2 => jk_up (by omega) (hN a (by omega) h2)
  refine hf_dup dX12_init_411 rfl ?_
  refine hf_bipush (v := 61) dX12_init_412 (by decide) ?_
  refine hf_bipush (v := 105) dX12_init_414 (by decide) ?_
  refine hf_bast_k (j := 61) (by decide) dX12_init_416 (hs.2.1 162 _ rfl) (by omega) (hf_vin (by decide)) ?_
  replace hN : (∀ a, 163 ≤ a → a < 181 → jk_nw T (hf_up (hf_up I 162 60 (vp_nar .byte 108)) 162 61 (vp_nar .byte 105)) L P a (hf_sTl.getD (a - 100) (0, 0))) := fun a h1 h2 => jk_up (by omega) (hN a (by omega) h2)
  refine hf_dup dX12_init_417 rfl ?_
  refine hf_bipush (v := 62) dX12_init_418 (by decide) ?_
  refine hf_bipush (v := 110) dX12_init_420 (by decide) ?_
  refine hf_bast_k (j := 62) (by decide) dX12_init_422 (hs.2.1 162 _ rfl) (by omega) (hf_vin (by decide)) ?_
  replace hN : (∀ a, 163 ≤ a → a < 181 → jk_nw T (hf_up (hf_up (hf_up I 162 60 (vp_nar .byte 108)) 162 61 (vp_nar .byte 105)) 162 62 (vp_nar .byte 110)) L P a (hf_sTl.getD (a - 100) (0, 0))) := fun a h1 h2 => jk_up (by omega) (hN a (by omega) h2)
  refine hf_dup dX12_init_423 rfl ?_
  refine hf_bipush (v := 63) dX12_init_424 (by decide) ?_
  refine hf_bipush (v := 101) dX12_init_426 (by decide) ?_
  refine hf_bast_k (j := 63) (by decide) dX12_init_428 (hs.2.1 162 _ rfl) (by omega) (hf_vin (by decide)) ?_
  replace hN : (∀ a, 163 ≤ a → a < 181 → jk_nw T (hf_up (hf_up (hf_up (hf_up I 162 60 (vp_nar .byte 108)) 162 61 (vp_nar .byte 105)) 162 62 (vp_nar .byte 110)) 162 63 (vp_nar .byte 101)) L P a (hf_sTl.getD (a - 100) (0, 0))) := fun a h1 h2 => jk_up (by omega) (hN a (by omega) h2)
  refine hf_dup dX12_init_429 rfl ?_
  refine hf_bipush (v := 64) dX12_init_430 (by decide) ?_
  refine hf_bipush (v := 32) dX12_init_432 (by decide) ?_
  refine hf_bast_k (j := 64) (by decide) dX12_init_434 (hs.2.1 162 _ rfl) (by omega) (hf_vin (by decide)) ?_
  replace hN : (∀ a, 163 ≤ a → a < 181 → jk_nw T (hf_up (hf_up (hf_up (hf_up (hf_up I 162 60 (vp_nar .byte 108)) 162 61 (vp_nar .byte 105)) 162 62 (vp_nar .byte 110)) 162 63 (vp_nar .byte 101)) 162 64 (vp_nar .byte 32)) L P a (hf_sTl.getD (a - 100) (0, 0))) := fun a h1 h2 => jk_up (by omega) (hN a (by omega) h2)
  refine hf_dup dX12_init_435 rfl ?_
  refine hf_bipush (v := 65) dX12_init_436 (by decide) ?_
  refine hf_bipush (v := 119) dX12_init_438 (by decide) ?_
  refine hf_bast_k (j := 65) (by decide) dX12_init_440 (hs.2.1 162 _ rfl) (by omega) (hf_vin (by decide)) ?_
  replace hN : (∀ a, 163 ≤ a → a < 181 → jk_nw T (hf_up (hf_up (hf_up (hf_up (hf_up (hf_up I 162 60 (vp_nar .byte 108)) 162 61 (vp_nar .byte 105)) 162 62 (vp_nar .byte 110)) 162 63 (vp_nar .byte 101)) 162 64 (vp_nar .byte 32)) 162 65 (vp_nar .byte 119)) L P a (hf_sTl.getD (a - 100) (0, 0))) := fun a h1 h2 => jk_up (by omega) (hN a (by omega) h2)
  refine hf_dup dX12_init_441 rfl ?_
  refine hf_bipush (v := 66) dX12_init_442 (by decide) ?_
  refine hf_bipush (v := 104) dX12_init_444 (by decide) ?_
  refine hf_bast_k (j := 66) (by decide) dX12_init_446 (hs.2.1 162 _ rfl) (by omega) (hf_vin (by decide)) ?_
  replace hN : (∀ a, 163 ≤ a → a < 181 → jk_nw T (hf_up (hf_up (hf_up (hf_up (hf_up (hf_up (hf_up I 162 60 (vp_nar .byte 108)) 162 61 (vp_nar .byte 105)) 162 62 (vp_nar .byte 110)) 162 63 (vp_nar .byte 101)) 162 64 (vp_nar .byte 32)) 162 65 (vp_nar .byte 119)) 162 66 (vp_nar .byte 104)) L P a (hf_sTl.getD (a - 100) (0, 0))) := fun a h1 h2 => jk_up (by omega) (hN a (by omega) h2)
  refine hf_dup dX12_init_447 rfl ?_
  refine hf_bipush (v := 67) dX12_init_448 (by decide) ?_
  refine hf_bipush (v := 105) dX12_init_450 (by decide) ?_
  refine hf_bast_k (j := 67) (by decide) dX12_init_452 (hs.2.1 162 _ rfl) (by omega) (hf_vin (by decide)) ?_
  replace hN : (∀ a, 163 ≤ a → a < 181 → jk_nw T (hf_up (hf_up (hf_up (hf_up (hf_up (hf_up (hf_up (hf_up I 162 60 (vp_nar .byte 108)) 162 61 (vp_nar .byte 105)) 162 62 (vp_nar .byte 110)) 162 63 (vp_nar .byte 101)) 162 64 (vp_nar .byte 32)) 162 65 (vp_nar .byte 119)) 162 66 (vp_nar .byte 104)) 162 67 (vp_nar .byte 105)) L P a (hf_sTl.getD (a - 100) (0, 0))) := fun a h1 h2 => jk_up (by omega) (hN a (by omega) h2)
  refine hf_dup dX12_init_453 rfl ?_
  refine hf_bipush (v := 68) dX12_init_454 (by decide) ?_
  refine hf_bipush (v := 116) dX12_init_456 (by decide) ?_
  refine hf_bast_k (j := 68) (by decide) dX12_init_458 (hs.2.1 162 _ rfl) (by omega) (hf_vin (by decide)) ?_
  replace hN : (∀ a, 163 ≤ a → a < 181 → jk_nw T (hf_up (hf_up (hf_up (hf_up (hf_up (hf_up (hf_up (hf_up (hf_up I 162 60 (vp_nar .byte 108)) 162 61 (vp_nar .byte 105)) 162 62 (vp_nar .byte 110)) 162 63 (vp_nar .byte 101)) 162 64 (vp_nar .byte 32)) 162 65 (vp_nar .byte 119)) 162 66 (vp_nar .byte 104)) 162 67 (vp_nar .byte 105)) 162 68 (vp_nar .byte 116)) L P a (hf_sTl.getD (a - 100) (0, 0))) := fun a h1 h2 => jk_up (by omega) (hN a (by omega) h2)
  refine hf_dup dX12_init_459 rfl ?_
  refine hf_bipush (v := 69) dX12_init_460 (by decide) ?_
  refine hf_bipush (v := 101) dX12_init_462 (by decide) ?_
  refine hf_bast_k (j := 69) (by decide) dX12_init_464 (hs.2.1 162 _ rfl) (by omega) (hf_vin (by decide)) ?_
  replace hN : (∀ a, 163 ≤ a → a < 181 → jk_nw T (hf_up (hf_up (hf_up (hf_up (hf_up (hf_up (hf_up (hf_up (hf_up (hf_up I 162 60 (vp_nar .byte 108)) 162 61 (vp_nar .byte 105)) 162 62 (vp_nar .byte 110)) 162 63 (vp_nar .byte 101)) 162 64 (vp_nar .byte 32)) 162 65 (vp_nar .byte 119)) 162 66 (vp_nar .byte 104)) 162 67 (vp_nar .byte 105)) 162 68 (vp_nar .byte 116)) 162 69 (vp_nar .byte 101)) L P a (hf_sTl.getD (a - 100) (0, 0))) := fun a h1 h2 => jk_up (by omega) (hN a (by omega) h2)
  refine hf_dup dX12_init_465 rfl ?_
  refine hf_bipush (v := 70) dX12_init_466 (by decide) ?_
  refine hf_bipush (v := 32) dX12_init_468 (by decide) ?_
  refine hf_bast_k (j := 70) (by decide) dX12_init_470 (hs.2.1 162 _ rfl) (by omega) (hf_vin (by decide)) ?_
  replace hN : (∀ a, 163 ≤ a → a < 181 → jk_nw T (hf_up (hf_up (hf_up (hf_up (hf_up (hf_up (hf_up (hf_up (hf_up (hf_up (hf_up I 162 60 (vp_nar .byte 108)) 162 61 (vp_nar .byte 105)) 162 62 (vp_nar .byte 110)) 162 63 (vp_nar .byte 101)) 162 64 (vp_nar .byte 32)) 162 65 (vp_nar .byte 119)) 162 66 (vp_nar .byte 104)) 162 67 (vp_nar .byte 105)) 162 68 (vp_nar .byte 116)) 162 69 (vp_nar .byte 101)) 162 70 (vp_nar .byte 32)) L P a (hf_sTl.getD (a - 100) (0, 0))) := fun a h1 h2 => jk_up (by omega) (hN a (by omega) h2)
  refine hf_dup dX12_init_471 rfl ?_
  refine hf_bipush (v := 71) dX12_init_472 (by decide) ?_
  refine hf_bipush (v := 109) dX12_init_474 (by decide) ?_
  refine hf_bast_k (j := 71) (by decide) dX12_init_476 (hs.2.1 162 _ rfl) (by omega) (hf_vin (by decide)) ?_
  replace hN : (∀ a, 163 ≤ a → a < 181 → jk_nw T (hf_up (hf_up (hf_up (hf_up (hf_up (hf_up (hf_up (hf_up (hf_up (hf_up (hf_up (hf_up I 162 60 (vp_nar .byte 108)) 162 61 (vp_nar .byte 105)) 162 62 (vp_nar .byte 110)) 162 63 (vp_nar .byte 101)) 162 64 (vp_nar .byte 32)) 162 65 (vp_nar .byte 119)) 162 66 (vp_nar .byte 104)) 162 67 (vp_nar .byte 105)) 162 68 (vp_nar .byte 116)) 162 69 (vp_nar .byte 101)) 162 70 (vp_nar .byte 32)) 162 71 (vp_nar .byte 109)) L P a (hf_sTl.getD (a - 100) (0, 0))) := fun a h1 h2 => jk_up (by omega) (hN a (by omega) h2)
  exact h (fun a h1 h2 => hN a (by omega) h2)

set_option maxHeartbeats 4000000 in
theorem w_X12_init_477_k {X : hf_X} {d : Nat} {T : hf_T} {I : hf_I} {L : hf_L} {P : hf_P} {Q : Option Value → hf_M → Prop} (hs : hf_Ly T) (hN : (∀ a, 163 ≤ a → a < 181 → jk_nw T I L P a (hf_sTl.getD (a - 100) (0, 0)))) (h : (∀ a, 163 ≤ a → a < 181 → jk_nw T (hf_up (hf_up (hf_up (hf_up (hf_up (hf_up (hf_up (hf_up (hf_up (hf_up (hf_up (hf_up I 162 72 (vp_nar .byte 97)) 162 73 (vp_nar .byte 110)) 162 74 (vp_nar .byte 121)) 162 75 (vp_nar .byte 32)) 162 76 (vp_nar .byte 97)) 162 77 (vp_nar .byte 108)) 162 78 (vp_nar .byte 105)) 162 79 (vp_nar .byte 107)) 162 80 (vp_nar .byte 101)) 162 81 (vp_nar .byte 32)) 162 82 (vp_nar .byte 101)) 162 83 (vp_nar .byte 99)) L P a (hf_sTl.getD (a - 100) (0, 0))) → hf_G X Y_X12_init (d + 5) 18 2586 549 [some (.ref 156), none] [.ref 162, .ref 156] (63, T, (hf_up (hf_up (hf_up (hf_up (hf_up (hf_up (hf_up (hf_up (hf_up (hf_up (hf_up (hf_up I 162 72 (vp_nar .byte 97)) 162 73 (vp_nar .byte 110)) 162 74 (vp_nar .byte 121)) 162 75 (vp_nar .byte 32)) 162 76 (vp_nar .byte 97)) 162 77 (vp_nar .byte 108)) 162 78 (vp_nar .byte 105)) 162 79 (vp_nar .byte 107)) 162 80 (vp_nar .byte 101)) 162 81 (vp_nar .byte 32)) 162 82 (vp_nar .byte 101)) 162 83 (vp_nar .byte 99)), L, P) Q) : hf_G X Y_X12_init (d + 5) 18 2586 477 [some (.ref 156), none] [.ref 162, .ref 156] (63, T, I, L, P) Q := by
  refine hf_dup dX12_init_477 rfl ?_
  refine hf_bipush (v := 72) dX12_init_478 (by decide) ?_
  refine hf_bipush (v := 97) dX12_init_480 (by decide) ?_
  refine hf_bast_k (j := 72) (by decide) dX12_init_482 (hs.2.1 162 _ rfl) (by omega) (hf_vin (by decide)) ?_
  replace hN : (∀ a, 163 ≤ a → a < 181 → jk_nw T (hf_up I 162 72 (vp_nar .byte 97)) L P a (hf_sTl.getD (a - 100) (0, 0))) := fun a h1 h2 => jk_up (by omega) (hN a (by omega) h2)
  refine hf_dup dX12_init_483 rfl ?_
  refine hf_bipush (v := 73) dX12_init_484 (by decide) ?_
  refine hf_bipush (v := 110) dX12_init_486 (by decide) ?_
  refine hf_bast_k (j := 73) (by decide) dX12_init_488 (hs.2.1 162 _ rfl) (by omega) (hf_vin (by decide)) ?_
  replace hN : (∀ a, 163 ≤ a → a < 181 → jk_nw T (hf_up (hf_up I 162 72 (vp_nar .byte 97)) 162 73 (vp_nar .byte 110)) L P a (hf_sTl.getD (a - 100) (0, 0))) := fun a h1 h2 => jk_up (by omega) (hN a (by omega) h2)
  refine hf_dup dX12_init_489 rfl ?_
  refine hf_bipush (v := 74) dX12_init_490 (by decide) ?_
  refine hf_bipush (v := 121) dX12_init_492 (by decide) ?_
  refine hf_bast_k (j := 74) (by decide) dX12_init_494 (hs.2.1 162 _ rfl) (by omega) (hf_vin (by decide)) ?_
  replace hN : (∀ a, 163 ≤ a → a < 181 → jk_nw T (hf_up (hf_up (hf_up I 162 72 (vp_nar .byte 97)) 162 73 (vp_nar .byte 110)) 162 74 (vp_nar .byte 121)) L P a (hf_sTl.getD (a - 100) (0, 0))) := fun a h1 h2 => jk_up (by omega) (hN a (by omega) h2)
  refine hf_dup dX12_init_495 rfl ?_
  refine hf_bipush (v := 75) dX12_init_496 (by decide) ?_
  refine hf_bipush (v := 32) dX12_init_498 (by decide) ?_
  refine hf_bast_k (j := 75) (by decide) dX12_init_500 (hs.2.1 162 _ rfl) (by omega) (hf_vin (by decide)) ?_
  replace hN : (∀ a, 163 ≤ a → a < 181 → jk_nw T (hf_up (hf_up (hf_up (hf_up I 162 72 (vp_nar .byte 97)) 162 73 (vp_nar .byte 110)) 162 74 (vp_nar .byte 121)) 162 75 (vp_nar .byte 32)) L P a (hf_sTl.getD (a - 100) (0, 0))) := fun a h1 h2 => jk_up (by omega) (hN a (by omega) h2)
  refine hf_dup dX12_init_501 rfl ?_
  refine hf_bipush (v := 76) dX12_init_502 (by decide) ?_
  refine hf_bipush (v := 97) dX12_init_504 (by decide) ?_
  refine hf_bast_k (j := 76) (by decide) dX12_init_506 (hs.2.1 162 _ rfl) (by omega) (hf_vin (by decide)) ?_
  replace hN : (∀ a, 163 ≤ a → a < 181 → jk_nw T (hf_up (hf_up (hf_up (hf_up (hf_up I 162 72 (vp_nar .byte 97)) 162 73 (vp_nar .byte 110)) 162 74 (vp_nar .byte 121)) 162 75 (vp_nar .byte 32)) 162 76 (vp_nar .byte 97)) L P a (hf_sTl.getD (a - 100) (0, 0))) := fun a h1 h2 => jk_up (by omega) (hN a (by omega) h2)
  refine hf_dup dX12_init_507 rfl ?_
  refine hf_bipush (v := 77) dX12_init_508 (by decide) ?_
  refine hf_bipush (v := 108) dX12_init_510 (by decide) ?_
  refine hf_bast_k (j := 77) (by decide) dX12_init_512 (hs.2.1 162 _ rfl) (by omega) (hf_vin (by decide)) ?_
  replace hN : (∀ a, 163 ≤ a → a < 181 → jk_nw T (hf_up (hf_up (hf_up (hf_up (hf_up (hf_up I 162 72 (vp_nar .byte 97)) 162 73 (vp_nar .byte 110)) 162 74 (vp_nar .byte 121)) 162 75 (vp_nar .byte 32)) 162 76 (vp_nar .byte 97)) 162 77 (vp_nar .byte 108)) L P a (hf_sTl.getD (a - 100) (0, 0))) := fun a h1 h2 => jk_up (by omega) (hN a (by omega) h2)
  refine hf_dup dX12_init_513 rfl ?_
  refine hf_bipush (v := 78) dX12_init_514 (by decide) ?_
  refine hf_bipush (v := 105) dX12_init_516 (by decide) ?_
  refine hf_bast_k (j := 78) (by decide) dX12_init_518 (hs.2.1 162 _ rfl) (by omega) (hf_vin (by decide)) ?_
  replace hN : (∀ a, 163 ≤ a → a < 181 → jk_nw T (hf_up (hf_up (hf_up (hf_up (hf_up (hf_up (hf_up I 162 72 (vp_nar .byte 97)) 162 73 (vp_nar .byte 110)) 162 74 (vp_nar .byte 121)) 162 75 (vp_nar .byte 32)) 162 76 (vp_nar .byte 97)) 162 77 (vp_nar .byte 108)) 162 78 (vp_nar .byte 105)) L P a (hf_sTl.getD (a - 100) (0, 0))) := fun a h1 h2 => jk_up (by omega) (hN a (by omega) h2)
  refine hf_dup dX12_init_519 rfl ?_
  refine hf_bipush (v := 79) dX12_init_520 (by decide) ?_
  refine hf_bipush (v := 107) dX12_init_522 (by decide) ?_
  refine hf_bast_k (j := 79) (by decide) dX12_init_524 (hs.2.1 162 _ rfl) (by omega) (hf_vin (by decide)) ?_
  replace hN : (∀ a, 163 ≤ a → a < 181 → jk_nw T (hf_up (hf_up (hf_up (hf_up (hf_up (hf_up (hf_up (hf_up I 162 72 (vp_nar .byte 97)) 162 73 (vp_nar .byte 110)) 162 74 (vp_nar .byte 121)) 162 75 (vp_nar .byte 32)) 162 76 (vp_nar .byte 97)) 162 77 (vp_nar .byte 108)) 162 78 (vp_nar .byte 105)) 162 79 (vp_nar .byte 107)) L P a (hf_sTl.getD (a - 100) (0, 0))) := fun a h1 h2 => jk_up (by omega) (hN a (by omega) h2)
  refine hf_dup dX12_init_525 rfl ?_
  refine hf_bipush (v := 80) dX12_init_526 (by decide) ?_
  refine hf_bipush (v := 101) dX12_init_528 (by decide) ?_
  refine hf_bast_k (j := 80) (by decide) dX12_init_530 (hs.2.1 162 _ rfl) (by omega) (hf_vin (by decide)) ?_
  replace hN : (∀ a, 163 ≤ a → a < 181 → jk_nw T (hf_up (hf_up (hf_up (hf_up (hf_up (hf_up (hf_up (hf_up (hf_up I 162 72 (vp_nar .byte 97)) 162 73 (vp_nar .byte 110)) 162 74 (vp_nar .byte 121)) 162 75 (vp_nar .byte 32)) 162 76 (vp_nar .byte 97)) 162 77 (vp_nar .byte 108)) 162 78 (vp_nar .byte 105)) 162 79 (vp_nar .byte 107)) 162 80 (vp_nar .byte 101)) L P a (hf_sTl.getD (a - 100) (0, 0))) := fun a h1 h2 => jk_up (by omega) (hN a (by omega) h2)
  refine hf_dup dX12_init_531 rfl ?_
  refine hf_bipush (v := 81) dX12_init_532 (by decide) ?_
  refine hf_bipush (v := 32) dX12_init_534 (by decide) ?_
  refine hf_bast_k (j := 81) (by decide) dX12_init_536 (hs.2.1 162 _ rfl) (by omega) (hf_vin (by decide)) ?_
  replace hN : (∀ a, 163 ≤ a → a < 181 → jk_nw T (hf_up (hf_up (hf_up (hf_up (hf_up (hf_up (hf_up (hf_up (hf_up (hf_up I 162 72 (vp_nar .byte 97)) 162 73 (vp_nar .byte 110)) 162 74 (vp_nar .byte 121)) 162 75 (vp_nar .byte 32)) 162 76 (vp_nar .byte 97)) 162 77 (vp_nar .byte 108)) 162 78 (vp_nar .byte 105)) 162 79 (vp_nar .byte 107)) 162 80 (vp_nar .byte 101)) 162 81 (vp_nar .byte 32)) L P a (hf_sTl.getD (a - 100) (0, 0))) := fun a h1 h2 => jk_up (by omega) (hN a (by omega) h2)
  refine hf_dup dX12_init_537 rfl ?_
  refine hf_bipush (v := 82) dX12_init_538 (by decide) ?_
  refine hf_bipush (v := 101) dX12_init_540 (by decide) ?_
  refine hf_bast_k (j := 82) (by decide) dX12_init_542 (hs.2.1 162 _ rfl) (by omega) (hf_vin (by decide)) ?_
  replace hN : (∀ a, 163 ≤ a → a < 181 → jk_nw T (hf_up (hf_up (hf_up (hf_up (hf_up (hf_up (hf_up (hf_up (hf_up (hf_up (hf_up I 162 72 (vp_nar .byte 97)) 162 73 (vp_nar .byte 110)) 162 74 (vp_nar .byte 121)) 162 75 (vp_nar .byte 32)) 162 76 (vp_nar .byte 97)) 162 77 (vp_nar .byte 108)) 162 78 (vp_nar .byte 105)) 162 79 (vp_nar .byte 107)) 162 80 (vp_nar .byte 101)) 162 81 (vp_nar .byte 32)) 162 82 (vp_nar .byte 101)) L P a (hf_sTl.getD (a - 100) (0, 0))) := fun a h1 h2 => jk_up (by omega) (hN a (by omega) h2)
  refine hf_dup dX12_init_543 rfl ?_
  refine hf_bipush (v := 83) dX12_init_544 (by decide) ?_
  refine hf_bipush (v := 99) dX12_init_546 (by decide) ?_
  refine hf_bast_k (j := 83) (by decide) dX12_init_548 (hs.2.1 162 _ rfl) (by omega) (hf_vin (by decide)) ?_
  replace hN : (∀ a, 163 ≤ a → a < 181 → jk_nw T (hf_up (hf_up (hf_up (hf_up (hf_up (hf_up (hf_up (hf_up (hf_up (hf_up (hf_up (hf_up I 162 72 (vp_nar .byte 97)) 162 73 (vp_nar .byte 110)) 162 74 (vp_nar .byte 121)) 162 75 (vp_nar .byte 32)) 162 76 (vp_nar .byte 97)) 162 77 (vp_nar .byte 108)) 162 78 (vp_nar .byte 105)) 162 79 (vp_nar .byte 107)) 162 80 (vp_nar .byte 101)) 162 81 (vp_nar .byte 32)) 162 82 (vp_nar .byte 101)) 162 83 (vp_nar .byte 99)) L P a (hf_sTl.getD (a - 100) (0, 0))) := fun a h1 h2 => jk_up (by omega) (hN a (by omega) h2)
  exact h (fun a h1 h2 => hN a (by omega) h2)

set_option maxHeartbeats 4000000 in
theorem w_X12_init_549_k {X : hf_X} {d : Nat} {T : hf_T} {I : hf_I} {L : hf_L} {P : hf_P} {Q : Option Value → hf_M → Prop} (hs : hf_Ly T) (hN : (∀ a, 163 ≤ a → a < 181 → jk_nw T I L P a (hf_sTl.getD (a - 100) (0, 0)))) (h : (∀ a, 163 ≤ a → a < 181 → jk_nw T (hf_up (hf_up (hf_up (hf_up (hf_up (hf_up (hf_up (hf_up (hf_up (hf_up (hf_up (hf_up I 162 84 (vp_nar .byte 104)) 162 85 (vp_nar .byte 111)) 162 86 (vp_nar .byte 32)) 162 87 (vp_nar .byte 115)) 162 88 (vp_nar .byte 105)) 162 89 (vp_nar .byte 122)) 162 90 (vp_nar .byte 101)) 162 91 (vp_nar .byte 32)) 162 92 (vp_nar .byte 100)) 162 93 (vp_nar .byte 97)) 162 94 (vp_nar .byte 121)) 162 95 (vp_nar .byte 32)) L P a (hf_sTl.getD (a - 100) (0, 0))) → hf_G X Y_X12_init (d + 5) 18 2586 621 [some (.ref 156), none] [.ref 162, .ref 156] (63, T, (hf_up (hf_up (hf_up (hf_up (hf_up (hf_up (hf_up (hf_up (hf_up (hf_up (hf_up (hf_up I 162 84 (vp_nar .byte 104)) 162 85 (vp_nar .byte 111)) 162 86 (vp_nar .byte 32)) 162 87 (vp_nar .byte 115)) 162 88 (vp_nar .byte 105)) 162 89 (vp_nar .byte 122)) 162 90 (vp_nar .byte 101)) 162 91 (vp_nar .byte 32)) 162 92 (vp_nar .byte 100)) 162 93 (vp_nar .byte 97)) 162 94 (vp_nar .byte 121)) 162 95 (vp_nar .byte 32)), L, P) Q) : hf_G X Y_X12_init (d + 5) 18 2586 549 [some (.ref 156), none] [.ref 162, .ref 156] (63, T, I, L, P) Q := by
  refine hf_dup dX12_init_549 rfl ?_
  refine hf_bipush (v := 84) dX12_init_550 (by decide) ?_
  refine hf_bipush (v := 104) dX12_init_552 (by decide) ?_
  refine hf_bast_k (j := 84) (by decide) dX12_init_554 (hs.2.1 162 _ rfl) (by omega) (hf_vin (by decide)) ?_
  replace hN : (∀ a, 163 ≤ a → a < 181 → jk_nw T (hf_up I 162 84 (vp_nar .byte 104)) L P a (hf_sTl.getD (a - 100) (0, 0))) := fun a h1 h2 => jk_up (by omega) (hN a (by omega) h2)
  refine hf_dup dX12_init_555 rfl ?_
  refine hf_bipush (v := 85) dX12_init_556 (by decide) ?_
  refine hf_bipush (v := 111) dX12_init_558 (by decide) ?_
  refine hf_bast_k (j := 85) (by decide) dX12_init_560 (hs.2.1 162 _ rfl) (by omega) (hf_vin (by decide)) ?_
  replace hN : (∀ a, 163 ≤ a → a < 181 → jk_nw T (hf_up (hf_up I 162 84 (vp_nar .byte 104)) 162 85 (vp_nar .byte 111)) L P a (hf_sTl.getD (a - 100) (0, 0))) := fun a h1 h2 => jk_up (by omega) (hN a (by omega) h2)
  refine hf_dup dX12_init_561 rfl ?_
  refine hf_bipush (v := 86) dX12_init_562 (by decide) ?_
  refine hf_bipush (v := 32) dX12_init_564 (by decide) ?_
  refine hf_bast_k (j := 86) (by decide) dX12_init_566 (hs.2.1 162 _ rfl) (by omega) (hf_vin (by decide)) ?_
  replace hN : (∀ a, 163 ≤ a → a < 181 → jk_nw T (hf_up (hf_up (hf_up I 162 84 (vp_nar .byte 104)) 162 85 (vp_nar .byte 111)) 162 86 (vp_nar .byte 32)) L P a (hf_sTl.getD (a - 100) (0, 0))) := fun a h1 h2 => jk_up (by omega) (hN a (by omega) h2)
  refine hf_dup dX12_init_567 rfl ?_
  refine hf_bipush (v := 87) dX12_init_568 (by decide) ?_
  refine hf_bipush (v := 115) dX12_init_570 (by decide) ?_
  refine hf_bast_k (j := 87) (by decide) dX12_init_572 (hs.2.1 162 _ rfl) (by omega) (hf_vin (by decide)) ?_
  replace hN : (∀ a, 163 ≤ a → a < 181 → jk_nw T (hf_up (hf_up (hf_up (hf_up I 162 84 (vp_nar .byte 104)) 162 85 (vp_nar .byte 111)) 162 86 (vp_nar .byte 32)) 162 87 (vp_nar .byte 115)) L P a (hf_sTl.getD (a - 100) (0, 0))) := fun a h1 h2 => jk_up (by omega) (hN a (by omega) h2)
  refine hf_dup dX12_init_573 rfl ?_
  refine hf_bipush (v := 88) dX12_init_574 (by decide) ?_
  refine hf_bipush (v := 105) dX12_init_576 (by decide) ?_
  refine hf_bast_k (j := 88) (by decide) dX12_init_578 (hs.2.1 162 _ rfl) (by omega) (hf_vin (by decide)) ?_
  replace hN : (∀ a, 163 ≤ a → a < 181 → jk_nw T (hf_up (hf_up (hf_up (hf_up (hf_up I 162 84 (vp_nar .byte 104)) 162 85 (vp_nar .byte 111)) 162 86 (vp_nar .byte 32)) 162 87 (vp_nar .byte 115)) 162 88 (vp_nar .byte 105)) L P a (hf_sTl.getD (a - 100) (0, 0))) := fun a h1 h2 => jk_up (by omega) (hN a (by omega) h2)
  refine hf_dup dX12_init_579 rfl ?_
  refine hf_bipush (v := 89) dX12_init_580 (by decide) ?_
  refine hf_bipush (v := 122) dX12_init_582 (by decide) ?_
  refine hf_bast_k (j := 89) (by decide) dX12_init_584 (hs.2.1 162 _ rfl) (by omega) (hf_vin (by decide)) ?_
  replace hN : (∀ a, 163 ≤ a → a < 181 → jk_nw T (hf_up (hf_up (hf_up (hf_up (hf_up (hf_up I 162 84 (vp_nar .byte 104)) 162 85 (vp_nar .byte 111)) 162 86 (vp_nar .byte 32)) 162 87 (vp_nar .byte 115)) 162 88 (vp_nar .byte 105)) 162 89 (vp_nar .byte 122)) L P a (hf_sTl.getD (a - 100) (0, 0))) := fun a h1 h2 => jk_up (by omega) (hN a (by omega) h2)
  refine hf_dup dX12_init_585 rfl ?_
  refine hf_bipush (v := 90) dX12_init_586 (by decide) ?_
  refine hf_bipush (v := 101) dX12_init_588 (by decide) ?_
  refine hf_bast_k (j := 90) (by decide) dX12_init_590 (hs.2.1 162 _ rfl) (by omega) (hf_vin (by decide)) ?_
  replace hN : (∀ a, 163 ≤ a → a < 181 → jk_nw T (hf_up (hf_up (hf_up (hf_up (hf_up (hf_up (hf_up I 162 84 (vp_nar .byte 104)) 162 85 (vp_nar .byte 111)) 162 86 (vp_nar .byte 32)) 162 87 (vp_nar .byte 115)) 162 88 (vp_nar .byte 105)) 162 89 (vp_nar .byte 122)) 162 90 (vp_nar .byte 101)) L P a (hf_sTl.getD (a - 100) (0, 0))) := fun a h1 h2 => jk_up (by omega) (hN a (by omega) h2)
  refine hf_dup dX12_init_591 rfl ?_
  refine hf_bipush (v := 91) dX12_init_592 (by decide) ?_
  refine hf_bipush (v := 32) dX12_init_594 (by decide) ?_
  refine hf_bast_k (j := 91) (by decide) dX12_init_596 (hs.2.1 162 _ rfl) (by omega) (hf_vin (by decide)) ?_
  replace hN : (∀ a, 163 ≤ a → a < 181 → jk_nw T (hf_up (hf_up (hf_up (hf_up (hf_up (hf_up (hf_up (hf_up I 162 84 (vp_nar .byte 104)) 162 85 (vp_nar .byte 111)) 162 86 (vp_nar .byte 32)) 162 87 (vp_nar .byte 115)) 162 88 (vp_nar .byte 105)) 162 89 (vp_nar .byte 122)) 162 90 (vp_nar .byte 101)) 162 91 (vp_nar .byte 32)) L P a (hf_sTl.getD (a - 100) (0, 0))) := fun a h1 h2 => jk_up (by omega) (hN a (by omega) h2)
  refine hf_dup dX12_init_597 rfl ?_
  refine hf_bipush (v := 92) dX12_init_598 (by decide) ?_
  refine hf_bipush (v := 100) dX12_init_600 (by decide) ?_
  refine hf_bast_k (j := 92) (by decide) dX12_init_602 (hs.2.1 162 _ rfl) (by omega) (hf_vin (by decide)) ?_
  replace hN : (∀ a, 163 ≤ a → a < 181 → jk_nw T (hf_up (hf_up (hf_up (hf_up (hf_up (hf_up (hf_up (hf_up (hf_up I 162 84 (vp_nar .byte 104)) 162 85 (vp_nar .byte 111)) 162 86 (vp_nar .byte 32)) 162 87 (vp_nar .byte 115)) 162 88 (vp_nar .byte 105)) 162 89 (vp_nar .byte 122)) 162 90 (vp_nar .byte 101)) 162 91 (vp_nar .byte 32)) 162 92 (vp_nar .byte 100)) L P a (hf_sTl.getD (a - 100) (0, 0))) := fun a h1 h2 => jk_up (by omega) (hN a (by omega) h2)
  refine hf_dup dX12_init_603 rfl ?_
  refine hf_bipush (v := 93) dX12_init_604 (by decide) ?_
  refine hf_bipush (v := 97) dX12_init_606 (by decide) ?_
  refine hf_bast_k (j := 93) (by decide) dX12_init_608 (hs.2.1 162 _ rfl) (by omega) (hf_vin (by decide)) ?_
  replace hN : (∀ a, 163 ≤ a → a < 181 → jk_nw T (hf_up (hf_up (hf_up (hf_up (hf_up (hf_up (hf_up (hf_up (hf_up (hf_up I 162 84 (vp_nar .byte 104)) 162 85 (vp_nar .byte 111)) 162 86 (vp_nar .byte 32)) 162 87 (vp_nar .byte 115)) 162 88 (vp_nar .byte 105)) 162 89 (vp_nar .byte 122)) 162 90 (vp_nar .byte 101)) 162 91 (vp_nar .byte 32)) 162 92 (vp_nar .byte 100)) 162 93 (vp_nar .byte 97)) L P a (hf_sTl.getD (a - 100) (0, 0))) := fun a h1 h2 => jk_up (by omega) (hN a (by omega) h2)
  refine hf_dup dX12_init_609 rfl ?_
  refine hf_bipush (v := 94) dX12_init_610 (by decide) ?_
  refine hf_bipush (v := 121) dX12_init_612 (by decide) ?_
  refine hf_bast_k (j := 94) (by decide) dX12_init_614 (hs.2.1 162 _ rfl) (by omega) (hf_vin (by decide)) ?_
  replace hN : (∀ a, 163 ≤ a → a < 181 → jk_nw T (hf_up (hf_up (hf_up (hf_up (hf_up (hf_up (hf_up (hf_up (hf_up (hf_up (hf_up I 162 84 (vp_nar .byte 104)) 162 85 (vp_nar .byte 111)) 162 86 (vp_nar .byte 32)) 162 87 (vp_nar .byte 115)) 162 88 (vp_nar .byte 105)) 162 89 (vp_nar .byte 122)) 162 90 (vp_nar .byte 101)) 162 91 (vp_nar .byte 32)) 162 92 (vp_nar .byte 100)) 162 93 (vp_nar .byte 97)) 162 94 (vp_nar .byte 121)) L P a (hf_sTl.getD (a - 100) (0, 0))) := fun a h1 h2 => jk_up (by omega) (hN a (by omega) h2)
  refine hf_dup dX12_init_615 rfl ?_
  refine hf_bipush (v := 95) dX12_init_616 (by decide) ?_
  refine hf_bipush (v := 32) dX12_init_618 (by decide) ?_
  refine hf_bast_k (j := 95) (by decide) dX12_init_620 (hs.2.1 162 _ rfl) (by omega) (hf_vin (by decide)) ?_
  replace hN : (∀ a, 163 ≤ a → a < 181 → jk_nw T (hf_up (hf_up (hf_up (hf_up (hf_up (hf_up (hf_up (hf_up (hf_up (hf_up (hf_up (hf_up I 162 84 (vp_nar .byte 104)) 162 85 (vp_nar .byte 111)) 162 86 (vp_nar .byte 32)) 162 87 (vp_nar .byte 115)) 162 88 (vp_nar .byte 105)) 162 89 (vp_nar .byte 122)) 162 90 (vp_nar .byte 101)) 162 91 (vp_nar .byte 32)) 162 92 (vp_nar .byte 100)) 162 93 (vp_nar .byte 97)) 162 94 (vp_nar .byte 121)) 162 95 (vp_nar .byte 32)) L P a (hf_sTl.getD (a - 100) (0, 0))) := fun a h1 h2 => jk_up (by omega) (hN a (by omega) h2)
  exact h (fun a h1 h2 => hN a (by omega) h2)

set_option maxHeartbeats 4000000 in
theorem w_X12_init_621_k {X : hf_X} {d : Nat} {T : hf_T} {I : hf_I} {L : hf_L} {P : hf_P} {Q : Option Value → hf_M → Prop} (hs : hf_Ly T) (hN : (∀ a, 163 ≤ a → a < 181 → jk_nw T I L P a (hf_sTl.getD (a - 100) (0, 0)))) (h : (∀ a, 163 ≤ a → a < 181 → jk_nw T (hf_up (hf_up (hf_up (hf_up (hf_up (hf_up (hf_up (hf_up (hf_up (hf_up (hf_up (hf_up I 162 96 (vp_nar .byte 109)) 162 97 (vp_nar .byte 111)) 162 98 (vp_nar .byte 111)) 162 99 (vp_nar .byte 100)) 162 100 (vp_nar .byte 32)) 162 101 (vp_nar .byte 119)) 162 102 (vp_nar .byte 111)) 162 103 (vp_nar .byte 114)) 162 104 (vp_nar .byte 100)) 162 105 (vp_nar .byte 115)) 162 106 (vp_nar .byte 32)) 162 107 (vp_nar .byte 108)) L P a (hf_sTl.getD (a - 100) (0, 0))) → hf_G X Y_X12_init (d + 5) 18 2586 693 [some (.ref 156), none] [.ref 162, .ref 156] (63, T, (hf_up (hf_up (hf_up (hf_up (hf_up (hf_up (hf_up (hf_up (hf_up (hf_up (hf_up (hf_up I 162 96 (vp_nar .byte 109)) 162 97 (vp_nar .byte 111)) 162 98 (vp_nar .byte 111)) 162 99 (vp_nar .byte 100)) 162 100 (vp_nar .byte 32)) 162 101 (vp_nar .byte 119)) 162 102 (vp_nar .byte 111)) 162 103 (vp_nar .byte 114)) 162 104 (vp_nar .byte 100)) 162 105 (vp_nar .byte 115)) 162 106 (vp_nar .byte 32)) 162 107 (vp_nar .byte 108)), L, P) Q) : hf_G X Y_X12_init (d + 5) 18 2586 621 [some (.ref 156), none] [.ref 162, .ref 156] (63, T, I, L, P) Q := by
  refine hf_dup dX12_init_621 rfl ?_
  refine hf_bipush (v := 96) dX12_init_622 (by decide) ?_
  refine hf_bipush (v := 109) dX12_init_624 (by decide) ?_
  refine hf_bast_k (j := 96) (by decide) dX12_init_626 (hs.2.1 162 _ rfl) (by omega) (hf_vin (by decide)) ?_
  replace hN : (∀ a, 163 ≤ a → a < 181 → jk_nw T (hf_up I 162 96 (vp_nar .byte 109)) L P a (hf_sTl.getD (a - 100) (0, 0))) := fun a h1 h2 => jk_up (by omega) (hN a (by omega) h2)
  refine hf_dup dX12_init_627 rfl ?_
  refine hf_bipush (v := 97) dX12_init_628 (by decide) ?_
  refine hf_bipush (v := 111) dX12_init_630 (by decide) ?_
  refine hf_bast_k (j := 97) (by decide) dX12_init_632 (hs.2.1 162 _ rfl) (by omega) (hf_vin (by decide)) ?_
  replace hN : (∀ a, 163 ≤ a → a < 181 → jk_nw T (hf_up (hf_up I 162 96 (vp_nar .byte 109)) 162 97 (vp_nar .byte 111)) L P a (hf_sTl.getD (a - 100) (0, 0))) := fun a h1 h2 => jk_up (by omega) (hN a (by omega) h2)
  refine hf_dup dX12_init_633 rfl ?_
  refine hf_bipush (v := 98) dX12_init_634 (by decide) ?_
  refine hf_bipush (v := 111) dX12_init_636 (by decide) ?_
  refine hf_bast_k (j := 98) (by decide) dX12_init_638 (hs.2.1 162 _ rfl) (by omega) (hf_vin (by decide)) ?_
  replace hN : (∀ a, 163 ≤ a → a < 181 → jk_nw T (hf_up (hf_up (hf_up I 162 96 (vp_nar .byte 109)) 162 97 (vp_nar .byte 111)) 162 98 (vp_nar .byte 111)) L P a (hf_sTl.getD (a - 100) (0, 0))) := fun a h1 h2 => jk_up (by omega) (hN a (by omega) h2)
  refine hf_dup dX12_init_639 rfl ?_
  refine hf_bipush (v := 99) dX12_init_640 (by decide) ?_
  refine hf_bipush (v := 100) dX12_init_642 (by decide) ?_
  refine hf_bast_k (j := 99) (by decide) dX12_init_644 (hs.2.1 162 _ rfl) (by omega) (hf_vin (by decide)) ?_
  replace hN : (∀ a, 163 ≤ a → a < 181 → jk_nw T (hf_up (hf_up (hf_up (hf_up I 162 96 (vp_nar .byte 109)) 162 97 (vp_nar .byte 111)) 162 98 (vp_nar .byte 111)) 162 99 (vp_nar .byte 100)) L P a (hf_sTl.getD (a - 100) (0, 0))) := fun a h1 h2 => jk_up (by omega) (hN a (by omega) h2)
  refine hf_dup dX12_init_645 rfl ?_
  refine hf_bipush (v := 100) dX12_init_646 (by decide) ?_
  refine hf_bipush (v := 32) dX12_init_648 (by decide) ?_
  refine hf_bast_k (j := 100) (by decide) dX12_init_650 (hs.2.1 162 _ rfl) (by omega) (hf_vin (by decide)) ?_
  replace hN : (∀ a, 163 ≤ a → a < 181 → jk_nw T (hf_up (hf_up (hf_up (hf_up (hf_up I 162 96 (vp_nar .byte 109)) 162 97 (vp_nar .byte 111)) 162 98 (vp_nar .byte 111)) 162 99 (vp_nar .byte 100)) 162 100 (vp_nar .byte 32)) L P a (hf_sTl.getD (a - 100) (0, 0))) := fun a h1 h2 => jk_up (by omega) (hN a (by omega) h2)
  refine hf_dup dX12_init_651 rfl ?_
  refine hf_bipush (v := 101) dX12_init_652 (by decide) ?_
  refine hf_bipush (v := 119) dX12_init_654 (by decide) ?_
  refine hf_bast_k (j := 101) (by decide) dX12_init_656 (hs.2.1 162 _ rfl) (by omega) (hf_vin (by decide)) ?_
  replace hN : (∀ a, 163 ≤ a → a < 181 → jk_nw T (hf_up (hf_up (hf_up (hf_up (hf_up (hf_up I 162 96 (vp_nar .byte 109)) 162 97 (vp_nar .byte 111)) 162 98 (vp_nar .byte 111)) 162 99 (vp_nar .byte 100)) 162 100 (vp_nar .byte 32)) 162 101 (vp_nar .byte 119)) L P a (hf_sTl.getD (a - 100) (0, 0))) := fun a h1 h2 => jk_up (by omega) (hN a (by omega) h2)
  refine hf_dup dX12_init_657 rfl ?_
  refine hf_bipush (v := 102) dX12_init_658 (by decide) ?_
  refine hf_bipush (v := 111) dX12_init_660 (by decide) ?_
  refine hf_bast_k (j := 102) (by decide) dX12_init_662 (hs.2.1 162 _ rfl) (by omega) (hf_vin (by decide)) ?_
  replace hN : (∀ a, 163 ≤ a → a < 181 → jk_nw T (hf_up (hf_up (hf_up (hf_up (hf_up (hf_up (hf_up I 162 96 (vp_nar .byte 109)) 162 97 (vp_nar .byte 111)) 162 98 (vp_nar .byte 111)) 162 99 (vp_nar .byte 100)) 162 100 (vp_nar .byte 32)) 162 101 (vp_nar .byte 119)) 162 102 (vp_nar .byte 111)) L P a (hf_sTl.getD (a - 100) (0, 0))) := fun a h1 h2 => jk_up (by omega) (hN a (by omega) h2)
  refine hf_dup dX12_init_663 rfl ?_
  refine hf_bipush (v := 103) dX12_init_664 (by decide) ?_
  refine hf_bipush (v := 114) dX12_init_666 (by decide) ?_
  refine hf_bast_k (j := 103) (by decide) dX12_init_668 (hs.2.1 162 _ rfl) (by omega) (hf_vin (by decide)) ?_
  replace hN : (∀ a, 163 ≤ a → a < 181 → jk_nw T (hf_up (hf_up (hf_up (hf_up (hf_up (hf_up (hf_up (hf_up I 162 96 (vp_nar .byte 109)) 162 97 (vp_nar .byte 111)) 162 98 (vp_nar .byte 111)) 162 99 (vp_nar .byte 100)) 162 100 (vp_nar .byte 32)) 162 101 (vp_nar .byte 119)) 162 102 (vp_nar .byte 111)) 162 103 (vp_nar .byte 114)) L P a (hf_sTl.getD (a - 100) (0, 0))) := fun a h1 h2 => jk_up (by omega) (hN a (by omega) h2)
  refine hf_dup dX12_init_669 rfl ?_
  refine hf_bipush (v := 104) dX12_init_670 (by decide) ?_
  refine hf_bipush (v := 100) dX12_init_672 (by decide) ?_
  refine hf_bast_k (j := 104) (by decide) dX12_init_674 (hs.2.1 162 _ rfl) (by omega) (hf_vin (by decide)) ?_
  replace hN : (∀ a, 163 ≤ a → a < 181 → jk_nw T (hf_up (hf_up (hf_up (hf_up (hf_up (hf_up (hf_up (hf_up (hf_up I 162 96 (vp_nar .byte 109)) 162 97 (vp_nar .byte 111)) 162 98 (vp_nar .byte 111)) 162 99 (vp_nar .byte 100)) 162 100 (vp_nar .byte 32)) 162 101 (vp_nar .byte 119)) 162 102 (vp_nar .byte 111)) 162 103 (vp_nar .byte 114)) 162 104 (vp_nar .byte 100)) L P a (hf_sTl.getD (a - 100) (0, 0))) := fun a h1 h2 => jk_up (by omega) (hN a (by omega) h2)
  refine hf_dup dX12_init_675 rfl ?_
  refine hf_bipush (v := 105) dX12_init_676 (by decide) ?_
  refine hf_bipush (v := 115) dX12_init_678 (by decide) ?_
  refine hf_bast_k (j := 105) (by decide) dX12_init_680 (hs.2.1 162 _ rfl) (by omega) (hf_vin (by decide)) ?_
  replace hN : (∀ a, 163 ≤ a → a < 181 → jk_nw T (hf_up (hf_up (hf_up (hf_up (hf_up (hf_up (hf_up (hf_up (hf_up (hf_up I 162 96 (vp_nar .byte 109)) 162 97 (vp_nar .byte 111)) 162 98 (vp_nar .byte 111)) 162 99 (vp_nar .byte 100)) 162 100 (vp_nar .byte 32)) 162 101 (vp_nar .byte 119)) 162 102 (vp_nar .byte 111)) 162 103 (vp_nar .byte 114)) 162 104 (vp_nar .byte 100)) 162 105 (vp_nar .byte 115)) L P a (hf_sTl.getD (a - 100) (0, 0))) := fun a h1 h2 => jk_up (by omega) (hN a (by omega) h2)
  refine hf_dup dX12_init_681 rfl ?_
  refine hf_bipush (v := 106) dX12_init_682 (by decide) ?_
  refine hf_bipush (v := 32) dX12_init_684 (by decide) ?_
  refine hf_bast_k (j := 106) (by decide) dX12_init_686 (hs.2.1 162 _ rfl) (by omega) (hf_vin (by decide)) ?_
  replace hN : (∀ a, 163 ≤ a → a < 181 → jk_nw T (hf_up (hf_up (hf_up (hf_up (hf_up (hf_up (hf_up (hf_up (hf_up (hf_up (hf_up I 162 96 (vp_nar .byte 109)) 162 97 (vp_nar .byte 111)) 162 98 (vp_nar .byte 111)) 162 99 (vp_nar .byte 100)) 162 100 (vp_nar .byte 32)) 162 101 (vp_nar .byte 119)) 162 102 (vp_nar .byte 111)) 162 103 (vp_nar .byte 114)) 162 104 (vp_nar .byte 100)) 162 105 (vp_nar .byte 115)) 162 106 (vp_nar .byte 32)) L P a (hf_sTl.getD (a - 100) (0, 0))) := fun a h1 h2 => jk_up (by omega) (hN a (by omega) h2)
  refine hf_dup dX12_init_687 rfl ?_
  refine hf_bipush (v := 107) dX12_init_688 (by decide) ?_
  refine hf_bipush (v := 108) dX12_init_690 (by decide) ?_
  refine hf_bast_k (j := 107) (by decide) dX12_init_692 (hs.2.1 162 _ rfl) (by omega) (hf_vin (by decide)) ?_
  replace hN : (∀ a, 163 ≤ a → a < 181 → jk_nw T (hf_up (hf_up (hf_up (hf_up (hf_up (hf_up (hf_up (hf_up (hf_up (hf_up (hf_up (hf_up I 162 96 (vp_nar .byte 109)) 162 97 (vp_nar .byte 111)) 162 98 (vp_nar .byte 111)) 162 99 (vp_nar .byte 100)) 162 100 (vp_nar .byte 32)) 162 101 (vp_nar .byte 119)) 162 102 (vp_nar .byte 111)) 162 103 (vp_nar .byte 114)) 162 104 (vp_nar .byte 100)) 162 105 (vp_nar .byte 115)) 162 106 (vp_nar .byte 32)) 162 107 (vp_nar .byte 108)) L P a (hf_sTl.getD (a - 100) (0, 0))) := fun a h1 h2 => jk_up (by omega) (hN a (by omega) h2)
  exact h (fun a h1 h2 => hN a (by omega) h2)

set_option maxHeartbeats 4000000 in
theorem w_X12_init_693_k {X : hf_X} {d : Nat} {T : hf_T} {I : hf_I} {L : hf_L} {P : hf_P} {Q : Option Value → hf_M → Prop} (hs : hf_Ly T) (hN : (∀ a, 163 ≤ a → a < 181 → jk_nw T I L P a (hf_sTl.getD (a - 100) (0, 0)))) (h : (∀ a, 163 ≤ a → a < 181 → jk_nw T (hf_up (hf_up (hf_up (hf_up (hf_up (hf_up (hf_up (hf_up (hf_up (hf_up (hf_up (hf_up I 162 108 (vp_nar .byte 101)) 162 109 (vp_nar .byte 102)) 162 110 (vp_nar .byte 116)) 162 111 (vp_nar .byte 32)) 162 112 (vp_nar .byte 100)) 162 113 (vp_nar .byte 111)) 162 114 (vp_nar .byte 110)) 162 115 (vp_nar .byte 101)) 162 116 (vp_nar .byte 32)) 162 117 (vp_nar .byte 98)) 162 118 (vp_nar .byte 114)) 162 119 (vp_nar .byte 111)) L P a (hf_sTl.getD (a - 100) (0, 0))) → hf_G X Y_X12_init (d + 5) 18 2586 765 [some (.ref 156), none] [.ref 162, .ref 156] (63, T, (hf_up (hf_up (hf_up (hf_up (hf_up (hf_up (hf_up (hf_up (hf_up (hf_up (hf_up (hf_up I 162 108 (vp_nar .byte 101)) 162 109 (vp_nar .byte 102)) 162 110 (vp_nar .byte 116)) 162 111 (vp_nar .byte 32)) 162 112 (vp_nar .byte 100)) 162 113 (vp_nar .byte 111)) 162 114 (vp_nar .byte 110)) 162 115 (vp_nar .byte 101)) 162 116 (vp_nar .byte 32)) 162 117 (vp_nar .byte 98)) 162 118 (vp_nar .byte 114)) 162 119 (vp_nar .byte 111)), L, P) Q) : hf_G X Y_X12_init (d + 5) 18 2586 693 [some (.ref 156), none] [.ref 162, .ref 156] (63, T, I, L, P) Q := by
  refine hf_dup dX12_init_693 rfl ?_
  refine hf_bipush (v := 108) dX12_init_694 (by decide) ?_
  refine hf_bipush (v := 101) dX12_init_696 (by decide) ?_
  refine hf_bast_k (j := 108) (by decide) dX12_init_698 (hs.2.1 162 _ rfl) (by omega) (hf_vin (by decide)) ?_
  replace hN : (∀ a, 163 ≤ a → a < 181 → jk_nw T (hf_up I 162 108 (vp_nar .byte 101)) L P a (hf_sTl.getD (a - 100) (0, 0))) := fun a h1 h2 => jk_up (by omega) (hN a (by omega) h2)
  refine hf_dup dX12_init_699 rfl ?_
  refine hf_bipush (v := 109) dX12_init_700 (by decide) ?_
  refine hf_bipush (v := 102) dX12_init_702 (by decide) ?_
  refine hf_bast_k (j := 109) (by decide) dX12_init_704 (hs.2.1 162 _ rfl) (by omega) (hf_vin (by decide)) ?_
  replace hN : (∀ a, 163 ≤ a → a < 181 → jk_nw T (hf_up (hf_up I 162 108 (vp_nar .byte 101)) 162 109 (vp_nar .byte 102)) L P a (hf_sTl.getD (a - 100) (0, 0))) := fun a h1 h2 => jk_up (by omega) (hN a (by omega) h2)
  refine hf_dup dX12_init_705 rfl ?_
  refine hf_bipush (v := 110) dX12_init_706 (by decide) ?_
  refine hf_bipush (v := 116) dX12_init_708 (by decide) ?_
  refine hf_bast_k (j := 110) (by decide) dX12_init_710 (hs.2.1 162 _ rfl) (by omega) (hf_vin (by decide)) ?_
  replace hN : (∀ a, 163 ≤ a → a < 181 → jk_nw T (hf_up (hf_up (hf_up I 162 108 (vp_nar .byte 101)) 162 109 (vp_nar .byte 102)) 162 110 (vp_nar .byte 116)) L P a (hf_sTl.getD (a - 100) (0, 0))) := fun a h1 h2 => jk_up (by omega) (hN a (by omega) h2)
  refine hf_dup dX12_init_711 rfl ?_
  refine hf_bipush (v := 111) dX12_init_712 (by decide) ?_
  refine hf_bipush (v := 32) dX12_init_714 (by decide) ?_
  refine hf_bast_k (j := 111) (by decide) dX12_init_716 (hs.2.1 162 _ rfl) (by omega) (hf_vin (by decide)) ?_
  replace hN : (∀ a, 163 ≤ a → a < 181 → jk_nw T (hf_up (hf_up (hf_up (hf_up I 162 108 (vp_nar .byte 101)) 162 109 (vp_nar .byte 102)) 162 110 (vp_nar .byte 116)) 162 111 (vp_nar .byte 32)) L P a (hf_sTl.getD (a - 100) (0, 0))) := fun a h1 h2 => jk_up (by omega) (hN a (by omega) h2)
  refine hf_dup dX12_init_717 rfl ?_
  refine hf_bipush (v := 112) dX12_init_718 (by decide) ?_
  refine hf_bipush (v := 100) dX12_init_720 (by decide) ?_
  refine hf_bast_k (j := 112) (by decide) dX12_init_722 (hs.2.1 162 _ rfl) (by omega) (hf_vin (by decide)) ?_
  replace hN : (∀ a, 163 ≤ a → a < 181 → jk_nw T (hf_up (hf_up (hf_up (hf_up (hf_up I 162 108 (vp_nar .byte 101)) 162 109 (vp_nar .byte 102)) 162 110 (vp_nar .byte 116)) 162 111 (vp_nar .byte 32)) 162 112 (vp_nar .byte 100)) L P a (hf_sTl.getD (a - 100) (0, 0))) := fun a h1 h2 => jk_up (by omega) (hN a (by omega) h2)
  refine hf_dup dX12_init_723 rfl ?_
  refine hf_bipush (v := 113) dX12_init_724 (by decide) ?_
  refine hf_bipush (v := 111) dX12_init_726 (by decide) ?_
  refine hf_bast_k (j := 113) (by decide) dX12_init_728 (hs.2.1 162 _ rfl) (by omega) (hf_vin (by decide)) ?_
  replace hN : (∀ a, 163 ≤ a → a < 181 → jk_nw T (hf_up (hf_up (hf_up (hf_up (hf_up (hf_up I 162 108 (vp_nar .byte 101)) 162 109 (vp_nar .byte 102)) 162 110 (vp_nar .byte 116)) 162 111 (vp_nar .byte 32)) 162 112 (vp_nar .byte 100)) 162 113 (vp_nar .byte 111)) L P a (hf_sTl.getD (a - 100) (0, 0))) := fun a h1 h2 => jk_up (by omega) (hN a (by omega) h2)
  refine hf_dup dX12_init_729 rfl ?_
  refine hf_bipush (v := 114) dX12_init_730 (by decide) ?_
  refine hf_bipush (v := 110) dX12_init_732 (by decide) ?_
  refine hf_bast_k (j := 114) (by decide) dX12_init_734 (hs.2.1 162 _ rfl) (by omega) (hf_vin (by decide)) ?_
  replace hN : (∀ a, 163 ≤ a → a < 181 → jk_nw T (hf_up (hf_up (hf_up (hf_up (hf_up (hf_up (hf_up I 162 108 (vp_nar .byte 101)) 162 109 (vp_nar .byte 102)) 162 110 (vp_nar .byte 116)) 162 111 (vp_nar .byte 32)) 162 112 (vp_nar .byte 100)) 162 113 (vp_nar .byte 111)) 162 114 (vp_nar .byte 110)) L P a (hf_sTl.getD (a - 100) (0, 0))) := fun a h1 h2 => jk_up (by omega) (hN a (by omega) h2)
  refine hf_dup dX12_init_735 rfl ?_
  refine hf_bipush (v := 115) dX12_init_736 (by decide) ?_
  refine hf_bipush (v := 101) dX12_init_738 (by decide) ?_
  refine hf_bast_k (j := 115) (by decide) dX12_init_740 (hs.2.1 162 _ rfl) (by omega) (hf_vin (by decide)) ?_
  replace hN : (∀ a, 163 ≤ a → a < 181 → jk_nw T (hf_up (hf_up (hf_up (hf_up (hf_up (hf_up (hf_up (hf_up I 162 108 (vp_nar .byte 101)) 162 109 (vp_nar .byte 102)) 162 110 (vp_nar .byte 116)) 162 111 (vp_nar .byte 32)) 162 112 (vp_nar .byte 100)) 162 113 (vp_nar .byte 111)) 162 114 (vp_nar .byte 110)) 162 115 (vp_nar .byte 101)) L P a (hf_sTl.getD (a - 100) (0, 0))) := fun a h1 h2 => jk_up (by omega) (hN a (by omega) h2)
  refine hf_dup dX12_init_741 rfl ?_
  refine hf_bipush (v := 116) dX12_init_742 (by decide) ?_
  refine hf_bipush (v := 32) dX12_init_744 (by decide) ?_
  refine hf_bast_k (j := 116) (by decide) dX12_init_746 (hs.2.1 162 _ rfl) (by omega) (hf_vin (by decide)) ?_
  replace hN : (∀ a, 163 ≤ a → a < 181 → jk_nw T (hf_up (hf_up (hf_up (hf_up (hf_up (hf_up (hf_up (hf_up (hf_up I 162 108 (vp_nar .byte 101)) 162 109 (vp_nar .byte 102)) 162 110 (vp_nar .byte 116)) 162 111 (vp_nar .byte 32)) 162 112 (vp_nar .byte 100)) 162 113 (vp_nar .byte 111)) 162 114 (vp_nar .byte 110)) 162 115 (vp_nar .byte 101)) 162 116 (vp_nar .byte 32)) L P a (hf_sTl.getD (a - 100) (0, 0))) := fun a h1 h2 => jk_up (by omega) (hN a (by omega) h2)
  refine hf_dup dX12_init_747 rfl ?_
  refine hf_bipush (v := 117) dX12_init_748 (by decide) ?_
  refine hf_bipush (v := 98) dX12_init_750 (by decide) ?_
  refine hf_bast_k (j := 117) (by decide) dX12_init_752 (hs.2.1 162 _ rfl) (by omega) (hf_vin (by decide)) ?_
  replace hN : (∀ a, 163 ≤ a → a < 181 → jk_nw T (hf_up (hf_up (hf_up (hf_up (hf_up (hf_up (hf_up (hf_up (hf_up (hf_up I 162 108 (vp_nar .byte 101)) 162 109 (vp_nar .byte 102)) 162 110 (vp_nar .byte 116)) 162 111 (vp_nar .byte 32)) 162 112 (vp_nar .byte 100)) 162 113 (vp_nar .byte 111)) 162 114 (vp_nar .byte 110)) 162 115 (vp_nar .byte 101)) 162 116 (vp_nar .byte 32)) 162 117 (vp_nar .byte 98)) L P a (hf_sTl.getD (a - 100) (0, 0))) := fun a h1 h2 => jk_up (by omega) (hN a (by omega) h2)
  refine hf_dup dX12_init_753 rfl ?_
  refine hf_bipush (v := 118) dX12_init_754 (by decide) ?_
  refine hf_bipush (v := 114) dX12_init_756 (by decide) ?_
  refine hf_bast_k (j := 118) (by decide) dX12_init_758 (hs.2.1 162 _ rfl) (by omega) (hf_vin (by decide)) ?_
  replace hN : (∀ a, 163 ≤ a → a < 181 → jk_nw T (hf_up (hf_up (hf_up (hf_up (hf_up (hf_up (hf_up (hf_up (hf_up (hf_up (hf_up I 162 108 (vp_nar .byte 101)) 162 109 (vp_nar .byte 102)) 162 110 (vp_nar .byte 116)) 162 111 (vp_nar .byte 32)) 162 112 (vp_nar .byte 100)) 162 113 (vp_nar .byte 111)) 162 114 (vp_nar .byte 110)) 162 115 (vp_nar .byte 101)) 162 116 (vp_nar .byte 32)) 162 117 (vp_nar .byte 98)) 162 118 (vp_nar .byte 114)) L P a (hf_sTl.getD (a - 100) (0, 0))) := fun a h1 h2 => jk_up (by omega) (hN a (by omega) h2)
  refine hf_dup dX12_init_759 rfl ?_
  refine hf_bipush (v := 119) dX12_init_760 (by decide) ?_
  refine hf_bipush (v := 111) dX12_init_762 (by decide) ?_
  refine hf_bast_k (j := 119) (by decide) dX12_init_764 (hs.2.1 162 _ rfl) (by omega) (hf_vin (by decide)) ?_
  replace hN : (∀ a, 163 ≤ a → a < 181 → jk_nw T (hf_up (hf_up (hf_up (hf_up (hf_up (hf_up (hf_up (hf_up (hf_up (hf_up (hf_up (hf_up I 162 108 (vp_nar .byte 101)) 162 109 (vp_nar .byte 102)) 162 110 (vp_nar .byte 116)) 162 111 (vp_nar .byte 32)) 162 112 (vp_nar .byte 100)) 162 113 (vp_nar .byte 111)) 162 114 (vp_nar .byte 110)) 162 115 (vp_nar .byte 101)) 162 116 (vp_nar .byte 32)) 162 117 (vp_nar .byte 98)) 162 118 (vp_nar .byte 114)) 162 119 (vp_nar .byte 111)) L P a (hf_sTl.getD (a - 100) (0, 0))) := fun a h1 h2 => jk_up (by omega) (hN a (by omega) h2)
  exact h (fun a h1 h2 => hN a (by omega) h2)

set_option maxHeartbeats 4000000 in
theorem w_X12_init_765_k {X : hf_X} {d : Nat} {T : hf_T} {I : hf_I} {L : hf_L} {P : hf_P} {Q : Option Value → hf_M → Prop} (hs : hf_Ly T) (hN : (∀ a, 163 ≤ a → a < 181 → jk_nw T I L P a (hf_sTl.getD (a - 100) (0, 0)))) (h : (∀ a, 163 ≤ a → a < 181 → jk_nw T (hf_up (hf_up (hf_up (hf_up (hf_up (hf_up (hf_up (hf_up (hf_up (hf_up (hf_up (hf_up I 162 120 (vp_nar .byte 97)) 162 121 (vp_nar .byte 100)) 162 122 (vp_nar .byte 32)) 162 123 (vp_nar .byte 115)) 162 124 (vp_nar .byte 101)) 162 125 (vp_nar .byte 116)) 162 126 (vp_nar .byte 32)) 162 127 (vp_nar .byte 116)) 162 128 (vp_nar .byte 117)) 162 129 (vp_nar .byte 114)) 162 130 (vp_nar .byte 110)) 162 131 (vp_nar .byte 32)) L P a (hf_sTl.getD (a - 100) (0, 0))) → hf_G X Y_X12_init (d + 5) 18 2586 841 [some (.ref 156), none] [.ref 162, .ref 156] (63, T, (hf_up (hf_up (hf_up (hf_up (hf_up (hf_up (hf_up (hf_up (hf_up (hf_up (hf_up (hf_up I 162 120 (vp_nar .byte 97)) 162 121 (vp_nar .byte 100)) 162 122 (vp_nar .byte 32)) 162 123 (vp_nar .byte 115)) 162 124 (vp_nar .byte 101)) 162 125 (vp_nar .byte 116)) 162 126 (vp_nar .byte 32)) 162 127 (vp_nar .byte 116)) 162 128 (vp_nar .byte 117)) 162 129 (vp_nar .byte 114)) 162 130 (vp_nar .byte 110)) 162 131 (vp_nar .byte 32)), L, P) Q) : hf_G X Y_X12_init (d + 5) 18 2586 765 [some (.ref 156), none] [.ref 162, .ref 156] (63, T, I, L, P) Q := by
  refine hf_dup dX12_init_765 rfl ?_
  refine hf_bipush (v := 120) dX12_init_766 (by decide) ?_
  refine hf_bipush (v := 97) dX12_init_768 (by decide) ?_
  refine hf_bast_k (j := 120) (by decide) dX12_init_770 (hs.2.1 162 _ rfl) (by omega) (hf_vin (by decide)) ?_
  replace hN : (∀ a, 163 ≤ a → a < 181 → jk_nw T (hf_up I 162 120 (vp_nar .byte 97)) L P a (hf_sTl.getD (a - 100) (0, 0))) := fun a h1 h2 => jk_up (by omega) (hN a (by omega) h2)
  refine hf_dup dX12_init_771 rfl ?_
  refine hf_bipush (v := 121) dX12_init_772 (by decide) ?_
  refine hf_bipush (v := 100) dX12_init_774 (by decide) ?_
  refine hf_bast_k (j := 121) (by decide) dX12_init_776 (hs.2.1 162 _ rfl) (by omega) (hf_vin (by decide)) ?_
  replace hN : (∀ a, 163 ≤ a → a < 181 → jk_nw T (hf_up (hf_up I 162 120 (vp_nar .byte 97)) 162 121 (vp_nar .byte 100)) L P a (hf_sTl.getD (a - 100) (0, 0))) := fun a h1 h2 => jk_up (by omega) (hN a (by omega) h2)
  refine hf_dup dX12_init_777 rfl ?_
  refine hf_bipush (v := 122) dX12_init_778 (by decide) ?_
  refine hf_bipush (v := 32) dX12_init_780 (by decide) ?_
  refine hf_bast_k (j := 122) (by decide) dX12_init_782 (hs.2.1 162 _ rfl) (by omega) (hf_vin (by decide)) ?_
  replace hN : (∀ a, 163 ≤ a → a < 181 → jk_nw T (hf_up (hf_up (hf_up I 162 120 (vp_nar .byte 97)) 162 121 (vp_nar .byte 100)) 162 122 (vp_nar .byte 32)) L P a (hf_sTl.getD (a - 100) (0, 0))) := fun a h1 h2 => jk_up (by omega) (hN a (by omega) h2)
  refine hf_dup dX12_init_783 rfl ?_
  refine hf_bipush (v := 123) dX12_init_784 (by decide) ?_
  refine hf_bipush (v := 115) dX12_init_786 (by decide) ?_
  refine hf_bast_k (j := 123) (by decide) dX12_init_788 (hs.2.1 162 _ rfl) (by omega) (hf_vin (by decide)) ?_
  replace hN : (∀ a, 163 ≤ a → a < 181 → jk_nw T (hf_up (hf_up (hf_up (hf_up I 162 120 (vp_nar .byte 97)) 162 121 (vp_nar .byte 100)) 162 122 (vp_nar .byte 32)) 162 123 (vp_nar .byte 115)) L P a (hf_sTl.getD (a - 100) (0, 0))) := fun a h1 h2 => jk_up (by omega) (hN a (by omega) h2)
  refine hf_dup dX12_init_789 rfl ?_
  refine hf_bipush (v := 124) dX12_init_790 (by decide) ?_
  refine hf_bipush (v := 101) dX12_init_792 (by decide) ?_
  refine hf_bast_k (j := 124) (by decide) dX12_init_794 (hs.2.1 162 _ rfl) (by omega) (hf_vin (by decide)) ?_
  replace hN : (∀ a, 163 ≤ a → a < 181 → jk_nw T (hf_up (hf_up (hf_up (hf_up (hf_up I 162 120 (vp_nar .byte 97)) 162 121 (vp_nar .byte 100)) 162 122 (vp_nar .byte 32)) 162 123 (vp_nar .byte 115)) 162 124 (vp_nar .byte 101)) L P a (hf_sTl.getD (a - 100) (0, 0))) := fun a h1 h2 => jk_up (by omega) (hN a (by omega) h2)
  refine hf_dup dX12_init_795 rfl ?_
  refine hf_bipush (v := 125) dX12_init_796 (by decide) ?_
  refine hf_bipush (v := 116) dX12_init_798 (by decide) ?_
  refine hf_bast_k (j := 125) (by decide) dX12_init_800 (hs.2.1 162 _ rfl) (by omega) (hf_vin (by decide)) ?_
  replace hN : (∀ a, 163 ≤ a → a < 181 → jk_nw T (hf_up (hf_up (hf_up (hf_up (hf_up (hf_up I 162 120 (vp_nar .byte 97)) 162 121 (vp_nar .byte 100)) 162 122 (vp_nar .byte 32)) 162 123 (vp_nar .byte 115)) 162 124 (vp_nar .byte 101)) 162 125 (vp_nar .byte 116)) L P a (hf_sTl.getD (a - 100) (0, 0))) := fun a h1 h2 => jk_up (by omega) (hN a (by omega) h2)
  refine hf_dup dX12_init_801 rfl ?_
  refine hf_bipush (v := 126) dX12_init_802 (by decide) ?_
  refine hf_bipush (v := 32) dX12_init_804 (by decide) ?_
  refine hf_bast_k (j := 126) (by decide) dX12_init_806 (hs.2.1 162 _ rfl) (by omega) (hf_vin (by decide)) ?_
  replace hN : (∀ a, 163 ≤ a → a < 181 → jk_nw T (hf_up (hf_up (hf_up (hf_up (hf_up (hf_up (hf_up I 162 120 (vp_nar .byte 97)) 162 121 (vp_nar .byte 100)) 162 122 (vp_nar .byte 32)) 162 123 (vp_nar .byte 115)) 162 124 (vp_nar .byte 101)) 162 125 (vp_nar .byte 116)) 162 126 (vp_nar .byte 32)) L P a (hf_sTl.getD (a - 100) (0, 0))) := fun a h1 h2 => jk_up (by omega) (hN a (by omega) h2)
  refine hf_dup dX12_init_807 rfl ?_
  refine hf_bipush (v := 127) dX12_init_808 (by decide) ?_
  refine hf_bipush (v := 116) dX12_init_810 (by decide) ?_
  refine hf_bast_k (j := 127) (by decide) dX12_init_812 (hs.2.1 162 _ rfl) (by omega) (hf_vin (by decide)) ?_
  replace hN : (∀ a, 163 ≤ a → a < 181 → jk_nw T (hf_up (hf_up (hf_up (hf_up (hf_up (hf_up (hf_up (hf_up I 162 120 (vp_nar .byte 97)) 162 121 (vp_nar .byte 100)) 162 122 (vp_nar .byte 32)) 162 123 (vp_nar .byte 115)) 162 124 (vp_nar .byte 101)) 162 125 (vp_nar .byte 116)) 162 126 (vp_nar .byte 32)) 162 127 (vp_nar .byte 116)) L P a (hf_sTl.getD (a - 100) (0, 0))) := fun a h1 h2 => jk_up (by omega) (hN a (by omega) h2)
  refine hf_dup dX12_init_813 rfl ?_
  refine hf_sipush (v := 128) dX12_init_814 (by decide) ?_
  refine hf_bipush (v := 117) dX12_init_817 (by decide) ?_
  refine hf_bast_k (j := 128) (by decide) dX12_init_819 (hs.2.1 162 _ rfl) (by omega) (hf_vin (by decide)) ?_
  replace hN : (∀ a, 163 ≤ a → a < 181 → jk_nw T (hf_up (hf_up (hf_up (hf_up (hf_up (hf_up (hf_up (hf_up (hf_up I 162 120 (vp_nar .byte 97)) 162 121 (vp_nar .byte 100)) 162 122 (vp_nar .byte 32)) 162 123 (vp_nar .byte 115)) 162 124 (vp_nar .byte 101)) 162 125 (vp_nar .byte 116)) 162 126 (vp_nar .byte 32)) 162 127 (vp_nar .byte 116)) 162 128 (vp_nar .byte 117)) L P a (hf_sTl.getD (a - 100) (0, 0))) := fun a h1 h2 => jk_up (by omega) (hN a (by omega) h2)
  refine hf_dup dX12_init_820 rfl ?_
  refine hf_sipush (v := 129) dX12_init_821 (by decide) ?_
  refine hf_bipush (v := 114) dX12_init_824 (by decide) ?_
  refine hf_bast_k (j := 129) (by decide) dX12_init_826 (hs.2.1 162 _ rfl) (by omega) (hf_vin (by decide)) ?_
  replace hN : (∀ a, 163 ≤ a → a < 181 → jk_nw T (hf_up (hf_up (hf_up (hf_up (hf_up (hf_up (hf_up (hf_up (hf_up (hf_up I 162 120 (vp_nar .byte 97)) 162 121 (vp_nar .byte 100)) 162 122 (vp_nar .byte 32)) 162 123 (vp_nar .byte 115)) 162 124 (vp_nar .byte 101)) 162 125 (vp_nar .byte 116)) 162 126 (vp_nar .byte 32)) 162 127 (vp_nar .byte 116)) 162 128 (vp_nar .byte 117)) 162 129 (vp_nar .byte 114)) L P a (hf_sTl.getD (a - 100) (0, 0))) := fun a h1 h2 => jk_up (by omega) (hN a (by omega) h2)
  refine hf_dup dX12_init_827 rfl ?_
  refine hf_sipush (v := 130) dX12_init_828 (by decide) ?_
  refine hf_bipush (v := 110) dX12_init_831 (by decide) ?_
  refine hf_bast_k (j := 130) (by decide) dX12_init_833 (hs.2.1 162 _ rfl) (by omega) (hf_vin (by decide)) ?_
  replace hN : (∀ a, 163 ≤ a → a < 181 → jk_nw T (hf_up (hf_up (hf_up (hf_up (hf_up (hf_up (hf_up (hf_up (hf_up (hf_up (hf_up I 162 120 (vp_nar .byte 97)) 162 121 (vp_nar .byte 100)) 162 122 (vp_nar .byte 32)) 162 123 (vp_nar .byte 115)) 162 124 (vp_nar .byte 101)) 162 125 (vp_nar .byte 116)) 162 126 (vp_nar .byte 32)) 162 127 (vp_nar .byte 116)) 162 128 (vp_nar .byte 117)) 162 129 (vp_nar .byte 114)) 162 130 (vp_nar .byte 110)) L P a (hf_sTl.getD (a - 100) (0, 0))) := fun a h1 h2 => jk_up (by omega) (hN a (by omega) h2)
  refine hf_dup dX12_init_834 rfl ?_
  refine hf_sipush (v := 131) dX12_init_835 (by decide) ?_
  refine hf_bipush (v := 32) dX12_init_838 (by decide) ?_
  refine hf_bast_k (j := 131) (by decide) dX12_init_840 (hs.2.1 162 _ rfl) (by omega) (hf_vin (by decide)) ?_
  replace hN : (∀ a, 163 ≤ a → a < 181 → jk_nw T (hf_up (hf_up (hf_up (hf_up (hf_up (hf_up (hf_up (hf_up (hf_up (hf_up (hf_up (hf_up I 162 120 (vp_nar .byte 97)) 162 121 (vp_nar .byte 100)) 162 122 (vp_nar .byte 32)) 162 123 (vp_nar .byte 115)) 162 124 (vp_nar .byte 101)) 162 125 (vp_nar .byte 116)) 162 126 (vp_nar .byte 32)) 162 127 (vp_nar .byte 116)) 162 128 (vp_nar .byte 117)) 162 129 (vp_nar .byte 114)) 162 130 (vp_nar .byte 110)) 162 131 (vp_nar .byte 32)) L P a (hf_sTl.getD (a - 100) (0, 0))) := fun a h1 h2 => jk_up (by omega) (hN a (by omega) h2)
  exact h (fun a h1 h2 => hN a (by omega) h2)

set_option maxHeartbeats 4000000 in
theorem w_X12_init_841_k {X : hf_X} {d : Nat} {T : hf_T} {I : hf_I} {L : hf_L} {P : hf_P} {Q : Option Value → hf_M → Prop} (hs : hf_Ly T) (hN : (∀ a, 163 ≤ a → a < 181 → jk_nw T I L P a (hf_sTl.getD (a - 100) (0, 0)))) (h : (∀ a, 163 ≤ a → a < 181 → jk_nw T (hf_up (hf_up (hf_up (hf_up (hf_up (hf_up (hf_up (hf_up (hf_up (hf_up (hf_up (hf_up I 162 132 (vp_nar .byte 99)) 162 133 (vp_nar .byte 108)) 162 134 (vp_nar .byte 101)) 162 135 (vp_nar .byte 97)) 162 136 (vp_nar .byte 114)) 162 137 (vp_nar .byte 32)) 162 138 (vp_nar .byte 116)) 162 139 (vp_nar .byte 105)) 162 140 (vp_nar .byte 109)) 162 141 (vp_nar .byte 101)) 162 142 (vp_nar .byte 115)) 162 143 (vp_nar .byte 32)) L P a (hf_sTl.getD (a - 100) (0, 0))) → hf_G X Y_X12_init (d + 5) 18 2586 925 [some (.ref 156), none] [.ref 162, .ref 156] (63, T, (hf_up (hf_up (hf_up (hf_up (hf_up (hf_up (hf_up (hf_up (hf_up (hf_up (hf_up (hf_up I 162 132 (vp_nar .byte 99)) 162 133 (vp_nar .byte 108)) 162 134 (vp_nar .byte 101)) 162 135 (vp_nar .byte 97)) 162 136 (vp_nar .byte 114)) 162 137 (vp_nar .byte 32)) 162 138 (vp_nar .byte 116)) 162 139 (vp_nar .byte 105)) 162 140 (vp_nar .byte 109)) 162 141 (vp_nar .byte 101)) 162 142 (vp_nar .byte 115)) 162 143 (vp_nar .byte 32)), L, P) Q) : hf_G X Y_X12_init (d + 5) 18 2586 841 [some (.ref 156), none] [.ref 162, .ref 156] (63, T, I, L, P) Q := by
  refine hf_dup dX12_init_841 rfl ?_
  refine hf_sipush (v := 132) dX12_init_842 (by decide) ?_
  refine hf_bipush (v := 99) dX12_init_845 (by decide) ?_
  refine hf_bast_k (j := 132) (by decide) dX12_init_847 (hs.2.1 162 _ rfl) (by omega) (hf_vin (by decide)) ?_
  replace hN : (∀ a, 163 ≤ a → a < 181 → jk_nw T (hf_up I 162 132 (vp_nar .byte 99)) L P a (hf_sTl.getD (a - 100) (0, 0))) := fun a h1 h2 => jk_up (by omega) (hN a (by omega) h2)
  refine hf_dup dX12_init_848 rfl ?_
  refine hf_sipush (v := 133) dX12_init_849 (by decide) ?_
  refine hf_bipush (v := 108) dX12_init_852 (by decide) ?_
  refine hf_bast_k (j := 133) (by decide) dX12_init_854 (hs.2.1 162 _ rfl) (by omega) (hf_vin (by decide)) ?_
  replace hN : (∀ a, 163 ≤ a → a < 181 → jk_nw T (hf_up (hf_up I 162 132 (vp_nar .byte 99)) 162 133 (vp_nar .byte 108)) L P a (hf_sTl.getD (a - 100) (0, 0))) := fun a h1 h2 => jk_up (by omega) (hN a (by omega) h2)
  refine hf_dup dX12_init_855 rfl ?_
  refine hf_sipush (v := 134) dX12_init_856 (by decide) ?_
  refine hf_bipush (v := 101) dX12_init_859 (by decide) ?_
  refine hf_bast_k (j := 134) (by decide) dX12_init_861 (hs.2.1 162 _ rfl) (by omega) (hf_vin (by decide)) ?_
  replace hN : (∀ a, 163 ≤ a → a < 181 → jk_nw T (hf_up (hf_up (hf_up I 162 132 (vp_nar .byte 99)) 162 133 (vp_nar .byte 108)) 162 134 (vp_nar .byte 101)) L P a (hf_sTl.getD (a - 100) (0, 0))) := fun a h1 h2 => jk_up (by omega) (hN a (by omega) h2)
  refine hf_dup dX12_init_862 rfl ?_
  refine hf_sipush (v := 135) dX12_init_863 (by decide) ?_
  refine hf_bipush (v := 97) dX12_init_866 (by decide) ?_
  refine hf_bast_k (j := 135) (by decide) dX12_init_868 (hs.2.1 162 _ rfl) (by omega) (hf_vin (by decide)) ?_
  replace hN : (∀ a, 163 ≤ a → a < 181 → jk_nw T (hf_up (hf_up (hf_up (hf_up I 162 132 (vp_nar .byte 99)) 162 133 (vp_nar .byte 108)) 162 134 (vp_nar .byte 101)) 162 135 (vp_nar .byte 97)) L P a (hf_sTl.getD (a - 100) (0, 0))) := fun a h1 h2 => jk_up (by omega) (hN a (by omega) h2)
  refine hf_dup dX12_init_869 rfl ?_
  refine hf_sipush (v := 136) dX12_init_870 (by decide) ?_
  refine hf_bipush (v := 114) dX12_init_873 (by decide) ?_
  refine hf_bast_k (j := 136) (by decide) dX12_init_875 (hs.2.1 162 _ rfl) (by omega) (hf_vin (by decide)) ?_
  replace hN : (∀ a, 163 ≤ a → a < 181 → jk_nw T (hf_up (hf_up (hf_up (hf_up (hf_up I 162 132 (vp_nar .byte 99)) 162 133 (vp_nar .byte 108)) 162 134 (vp_nar .byte 101)) 162 135 (vp_nar .byte 97)) 162 136 (vp_nar .byte 114)) L P a (hf_sTl.getD (a - 100) (0, 0))) := fun a h1 h2 => jk_up (by omega) (hN a (by omega) h2)
  refine hf_dup dX12_init_876 rfl ?_
  refine hf_sipush (v := 137) dX12_init_877 (by decide) ?_
  refine hf_bipush (v := 32) dX12_init_880 (by decide) ?_
  refine hf_bast_k (j := 137) (by decide) dX12_init_882 (hs.2.1 162 _ rfl) (by omega) (hf_vin (by decide)) ?_
  replace hN : (∀ a, 163 ≤ a → a < 181 → jk_nw T (hf_up (hf_up (hf_up (hf_up (hf_up (hf_up I 162 132 (vp_nar .byte 99)) 162 133 (vp_nar .byte 108)) 162 134 (vp_nar .byte 101)) 162 135 (vp_nar .byte 97)) 162 136 (vp_nar .byte 114)) 162 137 (vp_nar .byte 32)) L P a (hf_sTl.getD (a - 100) (0, 0))) := fun a h1 h2 => jk_up (by omega) (hN a (by omega) h2)
  refine hf_dup dX12_init_883 rfl ?_
  refine hf_sipush (v := 138) dX12_init_884 (by decide) ?_
  refine hf_bipush (v := 116) dX12_init_887 (by decide) ?_
  refine hf_bast_k (j := 138) (by decide) dX12_init_889 (hs.2.1 162 _ rfl) (by omega) (hf_vin (by decide)) ?_
  replace hN : (∀ a, 163 ≤ a → a < 181 → jk_nw T (hf_up (hf_up (hf_up (hf_up (hf_up (hf_up (hf_up I 162 132 (vp_nar .byte 99)) 162 133 (vp_nar .byte 108)) 162 134 (vp_nar .byte 101)) 162 135 (vp_nar .byte 97)) 162 136 (vp_nar .byte 114)) 162 137 (vp_nar .byte 32)) 162 138 (vp_nar .byte 116)) L P a (hf_sTl.getD (a - 100) (0, 0))) := fun a h1 h2 => jk_up (by omega) (hN a (by omega) h2)
  refine hf_dup dX12_init_890 rfl ?_
  refine hf_sipush (v := 139) dX12_init_891 (by decide) ?_
  refine hf_bipush (v := 105) dX12_init_894 (by decide) ?_
  refine hf_bast_k (j := 139) (by decide) dX12_init_896 (hs.2.1 162 _ rfl) (by omega) (hf_vin (by decide)) ?_
  replace hN : (∀ a, 163 ≤ a → a < 181 → jk_nw T (hf_up (hf_up (hf_up (hf_up (hf_up (hf_up (hf_up (hf_up I 162 132 (vp_nar .byte 99)) 162 133 (vp_nar .byte 108)) 162 134 (vp_nar .byte 101)) 162 135 (vp_nar .byte 97)) 162 136 (vp_nar .byte 114)) 162 137 (vp_nar .byte 32)) 162 138 (vp_nar .byte 116)) 162 139 (vp_nar .byte 105)) L P a (hf_sTl.getD (a - 100) (0, 0))) := fun a h1 h2 => jk_up (by omega) (hN a (by omega) h2)
  refine hf_dup dX12_init_897 rfl ?_
  refine hf_sipush (v := 140) dX12_init_898 (by decide) ?_
  refine hf_bipush (v := 109) dX12_init_901 (by decide) ?_
  refine hf_bast_k (j := 140) (by decide) dX12_init_903 (hs.2.1 162 _ rfl) (by omega) (hf_vin (by decide)) ?_
  replace hN : (∀ a, 163 ≤ a → a < 181 → jk_nw T (hf_up (hf_up (hf_up (hf_up (hf_up (hf_up (hf_up (hf_up (hf_up I 162 132 (vp_nar .byte 99)) 162 133 (vp_nar .byte 108)) 162 134 (vp_nar .byte 101)) 162 135 (vp_nar .byte 97)) 162 136 (vp_nar .byte 114)) 162 137 (vp_nar .byte 32)) 162 138 (vp_nar .byte 116)) 162 139 (vp_nar .byte 105)) 162 140 (vp_nar .byte 109)) L P a (hf_sTl.getD (a - 100) (0, 0))) := fun a h1 h2 => jk_up (by omega) (hN a (by omega) h2)
  refine hf_dup dX12_init_904 rfl ?_
  refine hf_sipush (v := 141) dX12_init_905 (by decide) ?_
  refine hf_bipush (v := 101) dX12_init_908 (by decide) ?_
  refine hf_bast_k (j := 141) (by decide) dX12_init_910 (hs.2.1 162 _ rfl) (by omega) (hf_vin (by decide)) ?_
  replace hN : (∀ a, 163 ≤ a → a < 181 → jk_nw T (hf_up (hf_up (hf_up (hf_up (hf_up (hf_up (hf_up (hf_up (hf_up (hf_up I 162 132 (vp_nar .byte 99)) 162 133 (vp_nar .byte 108)) 162 134 (vp_nar .byte 101)) 162 135 (vp_nar .byte 97)) 162 136 (vp_nar .byte 114)) 162 137 (vp_nar .byte 32)) 162 138 (vp_nar .byte 116)) 162 139 (vp_nar .byte 105)) 162 140 (vp_nar .byte 109)) 162 141 (vp_nar .byte 101)) L P a (hf_sTl.getD (a - 100) (0, 0))) := fun a h1 h2 => jk_up (by omega) (hN a (by omega) h2)
  refine hf_dup dX12_init_911 rfl ?_
  refine hf_sipush (v := 142) dX12_init_912 (by decide) ?_
  refine hf_bipush (v := 115) dX12_init_915 (by decide) ?_
  refine hf_bast_k (j := 142) (by decide) dX12_init_917 (hs.2.1 162 _ rfl) (by omega) (hf_vin (by decide)) ?_
  replace hN : (∀ a, 163 ≤ a → a < 181 → jk_nw T (hf_up (hf_up (hf_up (hf_up (hf_up (hf_up (hf_up (hf_up (hf_up (hf_up (hf_up I 162 132 (vp_nar .byte 99)) 162 133 (vp_nar .byte 108)) 162 134 (vp_nar .byte 101)) 162 135 (vp_nar .byte 97)) 162 136 (vp_nar .byte 114)) 162 137 (vp_nar .byte 32)) 162 138 (vp_nar .byte 116)) 162 139 (vp_nar .byte 105)) 162 140 (vp_nar .byte 109)) 162 141 (vp_nar .byte 101)) 162 142 (vp_nar .byte 115)) L P a (hf_sTl.getD (a - 100) (0, 0))) := fun a h1 h2 => jk_up (by omega) (hN a (by omega) h2)
  refine hf_dup dX12_init_918 rfl ?_
  refine hf_sipush (v := 143) dX12_init_919 (by decide) ?_
  refine hf_bipush (v := 32) dX12_init_922 (by decide) ?_
  refine hf_bast_k (j := 143) (by decide) dX12_init_924 (hs.2.1 162 _ rfl) (by omega) (hf_vin (by decide)) ?_
  replace hN : (∀ a, 163 ≤ a → a < 181 → jk_nw T (hf_up (hf_up (hf_up (hf_up (hf_up (hf_up (hf_up (hf_up (hf_up (hf_up (hf_up (hf_up I 162 132 (vp_nar .byte 99)) 162 133 (vp_nar .byte 108)) 162 134 (vp_nar .byte 101)) 162 135 (vp_nar .byte 97)) 162 136 (vp_nar .byte 114)) 162 137 (vp_nar .byte 32)) 162 138 (vp_nar .byte 116)) 162 139 (vp_nar .byte 105)) 162 140 (vp_nar .byte 109)) 162 141 (vp_nar .byte 101)) 162 142 (vp_nar .byte 115)) 162 143 (vp_nar .byte 32)) L P a (hf_sTl.getD (a - 100) (0, 0))) := fun a h1 h2 => jk_up (by omega) (hN a (by omega) h2)
  exact h (fun a h1 h2 => hN a (by omega) h2)

set_option maxHeartbeats 4000000 in
theorem w_X12_init_925_k {X : hf_X} {d : Nat} {T : hf_T} {I : hf_I} {L : hf_L} {P : hf_P} {Q : Option Value → hf_M → Prop} (hs : hf_Ly T) (hN : (∀ a, 163 ≤ a → a < 181 → jk_nw T I L P a (hf_sTl.getD (a - 100) (0, 0)))) (h : (∀ a, 163 ≤ a → a < 181 → jk_nw T I L (hf_upP P 156 6 (some 162)) a (hf_sTl.getD (a - 100) (0, 0))) → hf_G X Y_X12_init (d + 5) 18 2586 928 [some (.ref 156), none] [] (63, T, I, L, (hf_upP P 156 6 (some 162))) Q) : hf_G X Y_X12_init (d + 5) 18 2586 925 [some (.ref 156), none] [.ref 162, .ref 156] (63, T, I, L, P) Q := by
  refine hf_putr (c := 12) (j := 6) dX12_init_925 (hs.2.1 156 _ rfl) (by omega) (by decide) (by decide) hw1042 (Or.inr ⟨rfl, rfl, rfl⟩) rfl ?_
  replace hN : (∀ a, 163 ≤ a → a < 181 → jk_nw T I L (hf_upP P 156 6 (some 162)) a (hf_sTl.getD (a - 100) (0, 0))) := fun a h1 h2 => jk_upP (by omega) (hN a (by omega) h2)
  exact h (fun a h1 h2 => hN a (by omega) h2)

set_option maxHeartbeats 4000000 in
theorem w_X12_init_928_k {X : hf_X} {d : Nat} {T : hf_T} {I : hf_I} {L : hf_L} {P : hf_P} {Q : Option Value → hf_M → Prop} (hs : hf_Ly T) (hN : (∀ a, 163 ≤ a → a < 181 → jk_nw T I L P a (hf_sTl.getD (a - 100) (0, 0)))) (h : (∀ a, 168 ≤ a → a < 181 → jk_nw T (hf_up I 156 11 (-1)) L (hf_upP (hf_upP (hf_upP (hf_upP (hf_upP P 156 8 (some 163)) 156 9 (some 164)) 156 12 (some 165)) 156 13 (some 166)) 156 14 (some 167)) a (hf_sTl.getD (a - 100) (0, 0))) → hf_G X Y_X12_init (d + 5) 13 978 976 [some (.ref 156), none] [] (68, T, (hf_up I 156 11 (-1)), L, (hf_upP (hf_upP (hf_upP (hf_upP (hf_upP P 156 8 (some 163)) 156 9 (some 164)) 156 12 (some 165)) 156 13 (some 166)) 156 14 (some 167))) Q) : hf_G X Y_X12_init (d + 5) 18 2586 928 [some (.ref 156), none] [] (63, T, I, L, P) Q := by
  refine hf_aload_n dX12_init_928 rfl rfl ?_
  refine hf_sipush (v := 400) dX12_init_929 (by decide) ?_
  refine hf_newa_p (k := 17) (n := 2186) (z := 400) (zm := 400) (kd := 101) (a := 163) (by omega) dX12_init_932 hw71 (Or.inr (Or.inl ⟨rfl, rfl⟩)) (by decide) rfl (Nat.le_refl _) (by decide) (hN 163 (by decide) (by decide)) ?_
  refine hf_putr (c := 12) (j := 8) dX12_init_934 (hs.2.1 156 _ rfl) (by omega) (by decide) (by decide) hw1044 (Or.inr ⟨rfl, rfl, rfl⟩) rfl ?_
  replace hN : (∀ a, 164 ≤ a → a < 181 → jk_nw T I L (hf_upP P 156 8 (some 163)) a (hf_sTl.getD (a - 100) (0, 0))) := fun a h1 h2 => jk_upP (by omega) (hN a (by omega) h2)
  refine hf_aload_n dX12_init_937 rfl rfl ?_
  refine hf_iconst (v := 5) dX12_init_938 (by decide) ?_
  refine hf_newa_p (k := 16) (n := 2181) (z := 5) (zm := 5) (kd := 100) (a := 164) (by omega) dX12_init_939 hw70 (Or.inl ⟨rfl, rfl⟩) (by decide) rfl (Nat.le_refl _) (by decide) (hN 164 (by decide) (by decide)) ?_
  refine hf_putr (c := 12) (j := 9) dX12_init_941 (hs.2.1 156 _ rfl) (by omega) (by decide) (by decide) hw1045 (Or.inr ⟨rfl, rfl, rfl⟩) rfl ?_
  replace hN : (∀ a, 165 ≤ a → a < 181 → jk_nw T I L (hf_upP (hf_upP P 156 8 (some 163)) 156 9 (some 164)) a (hf_sTl.getD (a - 100) (0, 0))) := fun a h1 h2 => jk_upP (by omega) (hN a (by omega) h2)
  refine hf_aload_n dX12_init_944 rfl rfl ?_
  refine hf_iconst (v := (-1)) dX12_init_945 (by decide) ?_
  refine hf_puti (c := 12) (j := 11) dX12_init_946 (hs.2.1 156 _ rfl) (by omega) (by decide) (by decide) hw1047 rfl rfl ?_
  replace hN : (∀ a, 165 ≤ a → a < 181 → jk_nw T (hf_up I 156 11 (-1)) L (hf_upP (hf_upP P 156 8 (some 163)) 156 9 (some 164)) a (hf_sTl.getD (a - 100) (0, 0))) := fun a h1 h2 => jk_up (by omega) (hN a (by omega) h2)
  refine hf_aload_n dX12_init_949 rfl rfl ?_
  refine hf_sipush (v := 401) dX12_init_950 (by decide) ?_
  refine hf_newa_p (k := 15) (n := 1780) (z := 401) (zm := 401) (kd := 100) (a := 165) (by omega) dX12_init_953 hw70 (Or.inl ⟨rfl, rfl⟩) (by decide) rfl (Nat.le_refl _) (by decide) (hN 165 (by decide) (by decide)) ?_
  refine hf_putr (c := 12) (j := 12) dX12_init_955 (hs.2.1 156 _ rfl) (by omega) (by decide) (by decide) hw1048 (Or.inr ⟨rfl, rfl, rfl⟩) rfl ?_
  replace hN : (∀ a, 166 ≤ a → a < 181 → jk_nw T (hf_up I 156 11 (-1)) L (hf_upP (hf_upP (hf_upP P 156 8 (some 163)) 156 9 (some 164)) 156 12 (some 165)) a (hf_sTl.getD (a - 100) (0, 0))) := fun a h1 h2 => jk_upP (by omega) (hN a (by omega) h2)
  refine hf_aload_n dX12_init_958 rfl rfl ?_
  refine hf_sipush (v := 401) dX12_init_959 (by decide) ?_
  refine hf_newa_p (k := 14) (n := 1379) (z := 401) (zm := 401) (kd := 100) (a := 166) (by omega) dX12_init_962 hw70 (Or.inl ⟨rfl, rfl⟩) (by decide) rfl (Nat.le_refl _) (by decide) (hN 166 (by decide) (by decide)) ?_
  refine hf_putr (c := 12) (j := 13) dX12_init_964 (hs.2.1 156 _ rfl) (by omega) (by decide) (by decide) hw1049 (Or.inr ⟨rfl, rfl, rfl⟩) rfl ?_
  replace hN : (∀ a, 167 ≤ a → a < 181 → jk_nw T (hf_up I 156 11 (-1)) L (hf_upP (hf_upP (hf_upP (hf_upP P 156 8 (some 163)) 156 9 (some 164)) 156 12 (some 165)) 156 13 (some 166)) a (hf_sTl.getD (a - 100) (0, 0))) := fun a h1 h2 => jk_upP (by omega) (hN a (by omega) h2)
  refine hf_aload_n dX12_init_967 rfl rfl ?_
  refine hf_sipush (v := 401) dX12_init_968 (by decide) ?_
  refine hf_newa_p (k := 13) (n := 978) (z := 401) (zm := 401) (kd := 100) (a := 167) (by omega) dX12_init_971 hw70 (Or.inl ⟨rfl, rfl⟩) (by decide) rfl (Nat.le_refl _) (by decide) (hN 167 (by decide) (by decide)) ?_
  refine hf_putr (c := 12) (j := 14) dX12_init_973 (hs.2.1 156 _ rfl) (by omega) (by decide) (by decide) hw1050 (Or.inr ⟨rfl, rfl, rfl⟩) rfl ?_
  replace hN : (∀ a, 168 ≤ a → a < 181 → jk_nw T (hf_up I 156 11 (-1)) L (hf_upP (hf_upP (hf_upP (hf_upP (hf_upP P 156 8 (some 163)) 156 9 (some 164)) 156 12 (some 165)) 156 13 (some 166)) 156 14 (some 167)) a (hf_sTl.getD (a - 100) (0, 0))) := fun a h1 h2 => jk_upP (by omega) (hN a (by omega) h2)
  exact h (fun a h1 h2 => hN a (by omega) h2)

set_option maxHeartbeats 4000000 in
theorem w_X12_init_976_k {X : hf_X} {d : Nat} {T : hf_T} {I : hf_I} {L : hf_L} {P : hf_P} {Q : Option Value → hf_M → Prop} (hs : hf_Ly T) (hN : (∀ a, 168 ≤ a → a < 181 → jk_nw T I L P a (hf_sTl.getD (a - 100) (0, 0)))) (h : (∀ a, 174 ≤ a → a < 181 → jk_nw T I L (hf_upP (hf_upP (hf_upP (hf_upP (hf_upP (hf_upP P 156 23 (some 168)) 156 25 (some 169)) 156 26 (some 170)) 156 28 (some 171)) 156 29 (some 172)) 156 30 (some 173)) a (hf_sTl.getD (a - 100) (0, 0))) → hf_G X Y_X12_init (d + 5) 7 71 1026 [some (.ref 156), none] [] (74, T, I, L, (hf_upP (hf_upP (hf_upP (hf_upP (hf_upP (hf_upP P 156 23 (some 168)) 156 25 (some 169)) 156 26 (some 170)) 156 28 (some 171)) 156 29 (some 172)) 156 30 (some 173))) Q) : hf_G X Y_X12_init (d + 5) 13 978 976 [some (.ref 156), none] [] (68, T, I, L, P) Q := by
  refine hf_aload_n dX12_init_976 rfl rfl ?_
  refine hf_bipush (v := 13) dX12_init_977 (by decide) ?_
  refine hf_newa_p (k := 12) (n := 965) (z := 13) (zm := 13) (kd := 100) (a := 168) (by omega) dX12_init_979 hw70 (Or.inl ⟨rfl, rfl⟩) (by decide) rfl (Nat.le_refl _) (by decide) (hN 168 (by decide) (by decide)) ?_
  refine hf_putr (c := 12) (j := 23) dX12_init_981 (hs.2.1 156 _ rfl) (by omega) (by decide) (by decide) hw1059 (Or.inr ⟨rfl, rfl, rfl⟩) rfl ?_
  replace hN : (∀ a, 169 ≤ a → a < 181 → jk_nw T I L (hf_upP P 156 23 (some 168)) a (hf_sTl.getD (a - 100) (0, 0))) := fun a h1 h2 => jk_upP (by omega) (hN a (by omega) h2)
  refine hf_aload_n dX12_init_984 rfl rfl ?_
  refine hf_sipush (v := 432) dX12_init_985 (by decide) ?_
  refine hf_newa_p (k := 11) (n := 533) (z := 432) (zm := 432) (kd := 100) (a := 169) (by omega) dX12_init_988 hw70 (Or.inl ⟨rfl, rfl⟩) (by decide) rfl (Nat.le_refl _) (by decide) (hN 169 (by decide) (by decide)) ?_
  refine hf_putr (c := 12) (j := 25) dX12_init_990 (hs.2.1 156 _ rfl) (by omega) (by decide) (by decide) hw1061 (Or.inr ⟨rfl, rfl, rfl⟩) rfl ?_
  replace hN : (∀ a, 170 ≤ a → a < 181 → jk_nw T I L (hf_upP (hf_upP P 156 23 (some 168)) 156 25 (some 169)) a (hf_sTl.getD (a - 100) (0, 0))) := fun a h1 h2 => jk_upP (by omega) (hN a (by omega) h2)
  refine hf_aload_n dX12_init_993 rfl rfl ?_
  refine hf_sipush (v := 432) dX12_init_994 (by decide) ?_
  refine hf_newa_p (k := 10) (n := 101) (z := 432) (zm := 432) (kd := 100) (a := 170) (by omega) dX12_init_997 hw70 (Or.inl ⟨rfl, rfl⟩) (by decide) rfl (Nat.le_refl _) (by decide) (hN 170 (by decide) (by decide)) ?_
  refine hf_putr (c := 12) (j := 26) dX12_init_999 (hs.2.1 156 _ rfl) (by omega) (by decide) (by decide) hw1062 (Or.inr ⟨rfl, rfl, rfl⟩) rfl ?_
  replace hN : (∀ a, 171 ≤ a → a < 181 → jk_nw T I L (hf_upP (hf_upP (hf_upP P 156 23 (some 168)) 156 25 (some 169)) 156 26 (some 170)) a (hf_sTl.getD (a - 100) (0, 0))) := fun a h1 h2 => jk_upP (by omega) (hN a (by omega) h2)
  refine hf_aload_n dX12_init_1002 rfl rfl ?_
  refine hf_bipush (v := 18) dX12_init_1003 (by decide) ?_
  refine hf_newa_p (k := 9) (n := 83) (z := 18) (zm := 18) (kd := 100) (a := 171) (by omega) dX12_init_1005 hw70 (Or.inl ⟨rfl, rfl⟩) (by decide) rfl (Nat.le_refl _) (by decide) (hN 171 (by decide) (by decide)) ?_
  refine hf_putr (c := 12) (j := 28) dX12_init_1007 (hs.2.1 156 _ rfl) (by omega) (by decide) (by decide) hw1064 (Or.inr ⟨rfl, rfl, rfl⟩) rfl ?_
  replace hN : (∀ a, 172 ≤ a → a < 181 → jk_nw T I L (hf_upP (hf_upP (hf_upP (hf_upP P 156 23 (some 168)) 156 25 (some 169)) 156 26 (some 170)) 156 28 (some 171)) a (hf_sTl.getD (a - 100) (0, 0))) := fun a h1 h2 => jk_upP (by omega) (hN a (by omega) h2)
  refine hf_aload_n dX12_init_1010 rfl rfl ?_
  refine hf_bipush (v := 6) dX12_init_1011 (by decide) ?_
  refine hf_newa_p (k := 8) (n := 77) (z := 6) (zm := 6) (kd := 100) (a := 172) (by omega) dX12_init_1013 hw70 (Or.inl ⟨rfl, rfl⟩) (by decide) rfl (Nat.le_refl _) (by decide) (hN 172 (by decide) (by decide)) ?_
  refine hf_putr (c := 12) (j := 29) dX12_init_1015 (hs.2.1 156 _ rfl) (by omega) (by decide) (by decide) hw1065 (Or.inr ⟨rfl, rfl, rfl⟩) rfl ?_
  replace hN : (∀ a, 173 ≤ a → a < 181 → jk_nw T I L (hf_upP (hf_upP (hf_upP (hf_upP (hf_upP P 156 23 (some 168)) 156 25 (some 169)) 156 26 (some 170)) 156 28 (some 171)) 156 29 (some 172)) a (hf_sTl.getD (a - 100) (0, 0))) := fun a h1 h2 => jk_upP (by omega) (hN a (by omega) h2)
  refine hf_aload_n dX12_init_1018 rfl rfl ?_
  refine hf_bipush (v := 6) dX12_init_1019 (by decide) ?_
  refine hf_newa_p (k := 7) (n := 71) (z := 6) (zm := 6) (kd := 100) (a := 173) (by omega) dX12_init_1021 hw70 (Or.inl ⟨rfl, rfl⟩) (by decide) rfl (Nat.le_refl _) (by decide) (hN 173 (by decide) (by decide)) ?_
  refine hf_putr (c := 12) (j := 30) dX12_init_1023 (hs.2.1 156 _ rfl) (by omega) (by decide) (by decide) hw1066 (Or.inr ⟨rfl, rfl, rfl⟩) rfl ?_
  replace hN : (∀ a, 174 ≤ a → a < 181 → jk_nw T I L (hf_upP (hf_upP (hf_upP (hf_upP (hf_upP (hf_upP P 156 23 (some 168)) 156 25 (some 169)) 156 26 (some 170)) 156 28 (some 171)) 156 29 (some 172)) 156 30 (some 173)) a (hf_sTl.getD (a - 100) (0, 0))) := fun a h1 h2 => jk_upP (by omega) (hN a (by omega) h2)
  exact h (fun a h1 h2 => hN a (by omega) h2)

set_option maxHeartbeats 4000000 in
theorem w_X12_init_1026_k {X : hf_X} {d : Nat} {T : hf_T} {I : hf_I} {L : hf_L} {P : hf_P} {Q : Option Value → hf_M → Prop} (hs : hf_Ly T) (hN : (∀ a, 174 ≤ a → a < 181 → jk_nw T I L P a (hf_sTl.getD (a - 100) (0, 0)))) (h : (∀ a, 180 ≤ a → a < 181 → jk_nw T I L (hf_upP (hf_upP (hf_upP (hf_upP (hf_upP (hf_upP P 156 31 (some 174)) 156 32 (some 175)) 156 33 (some 176)) 156 34 (some 177)) 156 35 (some 178)) 156 40 (some 179)) a (hf_sTl.getD (a - 100) (0, 0))) → hf_G X Y_X12_init (d + 5) 1 12 1074 [some (.ref 156), none] [] (80, T, I, L, (hf_upP (hf_upP (hf_upP (hf_upP (hf_upP (hf_upP P 156 31 (some 174)) 156 32 (some 175)) 156 33 (some 176)) 156 34 (some 177)) 156 35 (some 178)) 156 40 (some 179))) Q) : hf_G X Y_X12_init (d + 5) 7 71 1026 [some (.ref 156), none] [] (74, T, I, L, P) Q := by
  refine hf_aload_n dX12_init_1026 rfl rfl ?_
  refine hf_bipush (v := 6) dX12_init_1027 (by decide) ?_
  refine hf_newa_p (k := 6) (n := 65) (z := 6) (zm := 6) (kd := 100) (a := 174) (by omega) dX12_init_1029 hw70 (Or.inl ⟨rfl, rfl⟩) (by decide) rfl (Nat.le_refl _) (by decide) (hN 174 (by decide) (by decide)) ?_
  refine hf_putr (c := 12) (j := 31) dX12_init_1031 (hs.2.1 156 _ rfl) (by omega) (by decide) (by decide) hw1067 (Or.inr ⟨rfl, rfl, rfl⟩) rfl ?_
  replace hN : (∀ a, 175 ≤ a → a < 181 → jk_nw T I L (hf_upP P 156 31 (some 174)) a (hf_sTl.getD (a - 100) (0, 0))) := fun a h1 h2 => jk_upP (by omega) (hN a (by omega) h2)
  refine hf_aload_n dX12_init_1034 rfl rfl ?_
  refine hf_bipush (v := 16) dX12_init_1035 (by decide) ?_
  refine hf_newa_p (k := 5) (n := 49) (z := 16) (zm := 16) (kd := 100) (a := 175) (by omega) dX12_init_1037 hw70 (Or.inl ⟨rfl, rfl⟩) (by decide) rfl (Nat.le_refl _) (by decide) (hN 175 (by decide) (by decide)) ?_
  refine hf_putr (c := 12) (j := 32) dX12_init_1039 (hs.2.1 156 _ rfl) (by omega) (by decide) (by decide) hw1068 (Or.inr ⟨rfl, rfl, rfl⟩) rfl ?_
  replace hN : (∀ a, 176 ≤ a → a < 181 → jk_nw T I L (hf_upP (hf_upP P 156 31 (some 174)) 156 32 (some 175)) a (hf_sTl.getD (a - 100) (0, 0))) := fun a h1 h2 => jk_upP (by omega) (hN a (by omega) h2)
  refine hf_aload_n dX12_init_1042 rfl rfl ?_
  refine hf_bipush (v := 16) dX12_init_1043 (by decide) ?_
  refine hf_newa_p (k := 4) (n := 33) (z := 16) (zm := 16) (kd := 100) (a := 176) (by omega) dX12_init_1045 hw70 (Or.inl ⟨rfl, rfl⟩) (by decide) rfl (Nat.le_refl _) (by decide) (hN 176 (by decide) (by decide)) ?_
  refine hf_putr (c := 12) (j := 33) dX12_init_1047 (hs.2.1 156 _ rfl) (by omega) (by decide) (by decide) hw1069 (Or.inr ⟨rfl, rfl, rfl⟩) rfl ?_
  replace hN : (∀ a, 177 ≤ a → a < 181 → jk_nw T I L (hf_upP (hf_upP (hf_upP P 156 31 (some 174)) 156 32 (some 175)) 156 33 (some 176)) a (hf_sTl.getD (a - 100) (0, 0))) := fun a h1 h2 => jk_upP (by omega) (hN a (by omega) h2)
  refine hf_aload_n dX12_init_1050 rfl rfl ?_
  refine hf_bipush (v := 6) dX12_init_1051 (by decide) ?_
  refine hf_newa_p (k := 3) (n := 27) (z := 6) (zm := 6) (kd := 100) (a := 177) (by omega) dX12_init_1053 hw70 (Or.inl ⟨rfl, rfl⟩) (by decide) rfl (Nat.le_refl _) (by decide) (hN 177 (by decide) (by decide)) ?_
  refine hf_putr (c := 12) (j := 34) dX12_init_1055 (hs.2.1 156 _ rfl) (by omega) (by decide) (by decide) hw1070 (Or.inr ⟨rfl, rfl, rfl⟩) rfl ?_
  replace hN : (∀ a, 178 ≤ a → a < 181 → jk_nw T I L (hf_upP (hf_upP (hf_upP (hf_upP P 156 31 (some 174)) 156 32 (some 175)) 156 33 (some 176)) 156 34 (some 177)) a (hf_sTl.getD (a - 100) (0, 0))) := fun a h1 h2 => jk_upP (by omega) (hN a (by omega) h2)
  refine hf_aload_n dX12_init_1058 rfl rfl ?_
  refine hf_bipush (v := 7) dX12_init_1059 (by decide) ?_
  refine hf_newa_p (k := 2) (n := 20) (z := 7) (zm := 7) (kd := 100) (a := 178) (by omega) dX12_init_1061 hw70 (Or.inl ⟨rfl, rfl⟩) (by decide) rfl (Nat.le_refl _) (by decide) (hN 178 (by decide) (by decide)) ?_
  refine hf_putr (c := 12) (j := 35) dX12_init_1063 (hs.2.1 156 _ rfl) (by omega) (by decide) (by decide) hw1071 (Or.inr ⟨rfl, rfl, rfl⟩) rfl ?_
  replace hN : (∀ a, 179 ≤ a → a < 181 → jk_nw T I L (hf_upP (hf_upP (hf_upP (hf_upP (hf_upP P 156 31 (some 174)) 156 32 (some 175)) 156 33 (some 176)) 156 34 (some 177)) 156 35 (some 178)) a (hf_sTl.getD (a - 100) (0, 0))) := fun a h1 h2 => jk_upP (by omega) (hN a (by omega) h2)
  refine hf_aload_n dX12_init_1066 rfl rfl ?_
  refine hf_bipush (v := 8) dX12_init_1067 (by decide) ?_
  refine hf_newa_p (k := 1) (n := 12) (z := 8) (zm := 8) (kd := 100) (a := 179) (by omega) dX12_init_1069 hw70 (Or.inl ⟨rfl, rfl⟩) (by decide) rfl (Nat.le_refl _) (by decide) (hN 179 (by decide) (by decide)) ?_
  refine hf_putr (c := 12) (j := 40) dX12_init_1071 (hs.2.1 156 _ rfl) (by omega) (by decide) (by decide) hw1076 (Or.inr ⟨rfl, rfl, rfl⟩) rfl ?_
  replace hN : (∀ a, 180 ≤ a → a < 181 → jk_nw T I L (hf_upP (hf_upP (hf_upP (hf_upP (hf_upP (hf_upP P 156 31 (some 174)) 156 32 (some 175)) 156 33 (some 176)) 156 34 (some 177)) 156 35 (some 178)) 156 40 (some 179)) a (hf_sTl.getD (a - 100) (0, 0))) := fun a h1 h2 => jk_upP (by omega) (hN a (by omega) h2)
  exact h (fun a h1 h2 => hN a (by omega) h2)

set_option maxHeartbeats 4000000 in
theorem w_X12_init_1074_k {X : hf_X} {d : Nat} {T : hf_T} {I : hf_I} {L : hf_L} {P : hf_P} {Q : Option Value → hf_M → Prop} (hs : hf_Ly T) (hN : (∀ a, 180 ≤ a → a < 181 → jk_nw T I L P a (hf_sTl.getD (a - 100) (0, 0)))) (h : (∀ a, 181 ≤ a → a < 181 → jk_nw T (hf_up I 156 41 (-1)) L (hf_upP P 156 48 (some 180)) a (hf_sTl.getD (a - 100) (0, 0))) → hf_G X Y_X12_init (d + 5) 0 0 1089 [some (.ref 156), some (.int 0)] [] (81, T, (hf_up I 156 41 (-1)), L, (hf_upP P 156 48 (some 180))) Q) : hf_G X Y_X12_init (d + 5) 1 12 1074 [some (.ref 156), none] [] (80, T, I, L, P) Q := by
  refine hf_aload_n dX12_init_1074 rfl rfl ?_
  refine hf_iconst (v := (-1)) dX12_init_1075 (by decide) ?_
  refine hf_puti (c := 12) (j := 41) dX12_init_1076 (hs.2.1 156 _ rfl) (by omega) (by decide) (by decide) hw1077 rfl rfl ?_
  replace hN : (∀ a, 180 ≤ a → a < 181 → jk_nw T (hf_up I 156 41 (-1)) L P a (hf_sTl.getD (a - 100) (0, 0))) := fun a h1 h2 => jk_up (by omega) (hN a (by omega) h2)
  refine hf_aload_n dX12_init_1079 rfl rfl ?_
  refine hf_bipush (v := 12) dX12_init_1080 (by decide) ?_
  refine hf_newa_p (k := 0) (n := 0) (z := 12) (zm := 12) (kd := 100) (a := 180) (by omega) dX12_init_1082 hw70 (Or.inl ⟨rfl, rfl⟩) (by decide) rfl (Nat.le_refl _) (by decide) (hN 180 (by decide) (by decide)) ?_
  refine hf_putr (c := 12) (j := 48) dX12_init_1084 (hs.2.1 156 _ rfl) (by omega) (by decide) (by decide) hw1084 (Or.inr ⟨rfl, rfl, rfl⟩) rfl ?_
  replace hN : (∀ a, 181 ≤ a → a < 181 → jk_nw T (hf_up I 156 41 (-1)) L (hf_upP P 156 48 (some 180)) a (hf_sTl.getD (a - 100) (0, 0))) := fun a h1 h2 => jk_upP (by omega) (hN a (by omega) h2)
  refine hf_iconst (v := 0) dX12_init_1087 (by decide) ?_
  refine hf_istore_n (l2 := [some (.ref 156), some (.int 0)]) dX12_init_1088 rfl (by decide) rfl ?_
  exact h (fun a h1 h2 => hN a (by omega) h2)

set_option maxHeartbeats 4000000 in
theorem w_X12_init_1089 {X : hf_X} {d k n t : Nat} {T : hf_T} {I : hf_I} {L : hf_L} {P : hf_P} {Q : Option Value → hf_M → Prop} {i : Int32} (hs : hf_Lay t T P) (h : (27 ≤ i → hf_G X Y_X12_init d k n 1124 [some (.ref 156), some (.int 0)] [] (t, T, I, L, P) Q) ∧ (¬ (27 ≤ i) → (¬ i = 26 → vp_in (26 + i) 5929 ∧ (hf_G X Y_X12_init d k n 1089 [some (.ref 156), some (.int (i + 1))] [] (t, T, (hf_up I 158 (((26 + i)).toNatClampNeg) 10), L, P) Q)) ∧ (i = 26 → vp_in (26 + i) 5929 ∧ (hf_G X Y_X12_init d k n 1089 [some (.ref 156), some (.int (i + 1))] [] (t, T, (hf_up I 158 (((26 + i)).toNatClampNeg) 5), L, P) Q)))) : hf_G X Y_X12_init d k n 1089 [some (.ref 156), some (.int i)] [] (t, T, I, L, P) Q := by
  refine hf_iload_n dX12_init_1089 rfl rfl ?_
  refine hf_bipush (v := 27) dX12_init_1090 (by decide) ?_
  refine hf_icmp_ge (tgt := 1122) dX12_init_1092 (by decide) (fun hc => ?_) (fun hc => ?_)
  · replace h := h.1 hc
    refine hf_iconst (v := 0) dX12_init_1122 (by decide) ?_
    refine hf_istore_n (l2 := [some (.ref 156), some (.int 0)]) dX12_init_1123 rfl (by decide) rfl ?_
    exact h
  · replace h := h.2 hc
    refine hf_aload_n dX12_init_1095 rfl rfl ?_
    refine hf_getr (b := 158) (c := 12) (j := 2) dX12_init_1096 (hs.2.1 156 _ rfl) (hf_lin hs 156 rfl) (by decide) (by decide) hw1038 rfl (hs.2.2 156 2 _ rfl) ?_
    refine hf_bipush (v := 26) dX12_init_1099 (by decide) ?_
    refine hf_iload_n dX12_init_1101 rfl rfl ?_
    refine hf_iadd dX12_init_1102 ?_
    refine hf_iload_n dX12_init_1103 rfl rfl ?_
    refine hf_bipush (v := 26) dX12_init_1104 (by decide) ?_
    refine hf_icmp_ne (tgt := 1113) dX12_init_1106 (by decide) (fun hc => ?_) (fun hc => ?_)
    · replace h := h.1 hc
      refine hf_bipush (v := 10) dX12_init_1113 (by decide) ?_
      refine hf_iast dX12_init_1115 (hs.2.1 158 _ rfl) (hf_lin hs 158 rfl) h.1 ?_
      replace h := h.2
      refine hf_iinc (v := (i + 1)) (l2 := [some (.ref 156), some (.int (i + 1))]) dX12_init_1116 (by decide) rfl rfl rfl ?_
      refine hf_goto (tgt := 1089) dX12_init_1119 (by decide) ?_
      exact h
    · replace h := h.2 hc
      refine hf_iconst (v := 5) dX12_init_1109 (by decide) ?_
      refine hf_goto (tgt := 1115) dX12_init_1110 (by decide) ?_
      refine hf_iast dX12_init_1115 (hs.2.1 158 _ rfl) (hf_lin hs 158 rfl) h.1 ?_
      replace h := h.2
      refine hf_iinc (v := (i + 1)) (l2 := [some (.ref 156), some (.int (i + 1))]) dX12_init_1116 (by decide) rfl rfl rfl ?_
      refine hf_goto (tgt := 1089) dX12_init_1119 (by decide) ?_
      exact h

set_option maxHeartbeats 4000000 in
theorem w_X12_init_1124 {X : hf_X} {d k n t : Nat} {T : hf_T} {I : hf_I} {L : hf_L} {P : hf_P} {Q : Option Value → hf_M → Prop} {i : Int32} (hs : hf_Lay t T P) (h : (8 ≤ i → hf_G X Y_X12_init d k n 1149 [some (.ref 156), some (.int 0)] [] (t, T, I, L, P) Q) ∧ (¬ (8 ≤ i) → vp_in (261 + i) 5929 ∧ (hf_G X Y_X12_init d k n 1124 [some (.ref 156), some (.int (i + 1))] [] (t, T, (hf_up I 158 (((261 + i)).toNatClampNeg) 1), L, P) Q))) : hf_G X Y_X12_init d k n 1124 [some (.ref 156), some (.int i)] [] (t, T, I, L, P) Q := by
  refine hf_iload_n dX12_init_1124 rfl rfl ?_
  refine hf_bipush (v := 8) dX12_init_1125 (by decide) ?_
  refine hf_icmp_ge (tgt := 1147) dX12_init_1127 (by decide) (fun hc => ?_) (fun hc => ?_)
  · replace h := h.1 hc
    refine hf_iconst (v := 0) dX12_init_1147 (by decide) ?_
    refine hf_istore_n (l2 := [some (.ref 156), some (.int 0)]) dX12_init_1148 rfl (by decide) rfl ?_
    exact h
  · replace h := h.2 hc
    refine hf_aload_n dX12_init_1130 rfl rfl ?_
    refine hf_getr (b := 158) (c := 12) (j := 2) dX12_init_1131 (hs.2.1 156 _ rfl) (hf_lin hs 156 rfl) (by decide) (by decide) hw1038 rfl (hs.2.2 156 2 _ rfl) ?_
    refine hf_sipush (v := 261) dX12_init_1134 (by decide) ?_
    refine hf_iload_n dX12_init_1137 rfl rfl ?_
    refine hf_iadd dX12_init_1138 ?_
    refine hf_iconst (v := 1) dX12_init_1139 (by decide) ?_
    refine hf_iast dX12_init_1140 (hs.2.1 158 _ rfl) (hf_lin hs 158 rfl) h.1 ?_
    replace h := h.2
    refine hf_iinc (v := (i + 1)) (l2 := [some (.ref 156), some (.int (i + 1))]) dX12_init_1141 (by decide) rfl rfl rfl ?_
    refine hf_goto (tgt := 1124) dX12_init_1144 (by decide) ?_
    exact h

set_option maxHeartbeats 4000000 in
theorem w_X12_init_1149 {X : hf_X} {d k n t : Nat} {T : hf_T} {I : hf_I} {L : hf_L} {P : hf_P} {Q : Option Value → hf_M → Prop} {i : Int32} (hs : hf_Lay t T P) (h : (4 ≤ i → Q none (t, T, (hf_up (hf_up (hf_up I 158 313 100) 158 314 3) 158 321 (-1)), L, P)) ∧ (¬ (4 ≤ i) → vp_in (275 + i) 5929 ∧ (hf_G X Y_X12_init d k n 1149 [some (.ref 156), some (.int (i + 1))] [] (t, T, (hf_up I 158 (((275 + i)).toNatClampNeg) (-1)), L, P) Q))) : hf_G X Y_X12_init d k n 1149 [some (.ref 156), some (.int i)] [] (t, T, I, L, P) Q := by
  refine hf_iload_n dX12_init_1149 rfl rfl ?_
  refine hf_iconst (v := 4) dX12_init_1150 (by decide) ?_
  refine hf_icmp_ge (tgt := 1171) dX12_init_1151 (by decide) (fun hc => ?_) (fun hc => ?_)
  · replace h := h.1 hc
    refine hf_aload_n dX12_init_1171 rfl rfl ?_
    refine hf_getr (b := 158) (c := 12) (j := 2) dX12_init_1172 (hs.2.1 156 _ rfl) (hf_lin hs 156 rfl) (by decide) (by decide) hw1038 rfl (hs.2.2 156 2 _ rfl) ?_
    refine hf_sipush (v := 313) dX12_init_1175 (by decide) ?_
    refine hf_bipush (v := 100) dX12_init_1178 (by decide) ?_
    refine hf_iast_k (j := 313) (by decide) dX12_init_1180 (hs.2.1 158 _ rfl) (hf_lin hs 158 rfl) (hf_vin (by decide)) ?_
    refine hf_aload_n dX12_init_1181 rfl rfl ?_
    refine hf_getr (b := 158) (c := 12) (j := 2) dX12_init_1182 (hs.2.1 156 _ rfl) (hf_lin hs 156 rfl) (by decide) (by decide) hw1038 rfl (hs.2.2 156 2 _ rfl) ?_
    refine hf_sipush (v := 314) dX12_init_1185 (by decide) ?_
    refine hf_iconst (v := 3) dX12_init_1188 (by decide) ?_
    refine hf_iast_k (j := 314) (by decide) dX12_init_1189 (hs.2.1 158 _ rfl) (hf_lin hs 158 rfl) (hf_vin (by decide)) ?_
    refine hf_aload_n dX12_init_1190 rfl rfl ?_
    refine hf_getr (b := 158) (c := 12) (j := 2) dX12_init_1191 (hs.2.1 156 _ rfl) (hf_lin hs 156 rfl) (by decide) (by decide) hw1038 rfl (hs.2.2 156 2 _ rfl) ?_
    refine hf_sipush (v := 321) dX12_init_1194 (by decide) ?_
    refine hf_iconst (v := (-1)) dX12_init_1197 (by decide) ?_
    refine hf_iast_k (j := 321) (by decide) dX12_init_1198 (hs.2.1 158 _ rfl) (hf_lin hs 158 rfl) (hf_vin (by decide)) ?_
    refine hf_return dX12_init_1199 rfl ?_
    exact h
  · replace h := h.2 hc
    refine hf_aload_n dX12_init_1154 rfl rfl ?_
    refine hf_getr (b := 158) (c := 12) (j := 2) dX12_init_1155 (hs.2.1 156 _ rfl) (hf_lin hs 156 rfl) (by decide) (by decide) hw1038 rfl (hs.2.2 156 2 _ rfl) ?_
    refine hf_sipush (v := 275) dX12_init_1158 (by decide) ?_
    refine hf_iload_n dX12_init_1161 rfl rfl ?_
    refine hf_iadd dX12_init_1162 ?_
    refine hf_iconst (v := (-1)) dX12_init_1163 (by decide) ?_
    refine hf_iast dX12_init_1164 (hs.2.1 158 _ rfl) (hf_lin hs 158 rfl) h.1 ?_
    replace h := h.2
    refine hf_iinc (v := (i + 1)) (l2 := [some (.ref 156), some (.int (i + 1))]) dX12_init_1165 (by decide) rfl rfl rfl ?_
    refine hf_goto (tgt := 1149) dX12_init_1168 (by decide) ?_
    exact h

