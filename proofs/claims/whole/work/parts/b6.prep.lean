/-! SETTINGS: what is kept and what is taken back -/
theorem tk_cb (tp : Nat → Int32) (z k : Nat) : tk_c tp z k < 1000 := by
  have cb := tk_by_lt (tp (tk_s tp z k))
  rcases tk_c_cs tp z k with ⟨-, q⟩ | ⟨-, q, q2⟩ | ⟨-, q⟩ | ⟨-, q⟩ <;> omega
theorem tk_vb (tp : Nat → Int32) (z k : Nat) : tk_v tp z k < 100000000 := by
  unfold tk_v
  split
  · rename_i h2
    have := tk_dv_le2 (tp := tp) (s := tk_s tp z k) (m := tk_en tp z (tk_s tp z k) - tk_s tp z k) fun i hi => by
      obtain ⟨g, e1, e2, e3⟩ := tk_kd_2 (tk_en_in h2 (q := tk_s tp z k + i) (by omega) (by omega))
      rw [e3, nI_clamp (by omega)]
      omega
    omega
  · omega
theorem gr_al_len {S : Bool} {c v : Nat → Nat} {m : Nat} (hc : ∀ j, m ≤ j → c j = 0) (hm : m ≤ 400) : ∀ (j k lv : Nat), k ≤ m → (gr_al S c v m j k lv).1 = 2 → (cl_cd (gr_al S c v m j k lv).2.2).length + k ≤ m := by
  intro j
  induction j with
  | zero => intro k lv _ hg; exact absurd hg (by show ¬ (1 = 2); omega)
  | succ j ih =>
    intro k lv hk hg
    rw [gr_al] at hg ⊢
    by_cases ecl : (gr_cl S c v k lv).1 = 2
    · rw [if_pos ecl] at hg ⊢
      have fw := gr_cl_fw ecl
      have cn := (gr_cl_n (S := S) (v := v) (lv := lv) hc hm hk).2
      by_cases z : (gr_cl S c v k lv).2.1 = m
      · rw [if_pos z]
        show (cl_cd [(gr_cl S c v k lv).2.2.2]).length + k ≤ m
        have : (cl_cd [(gr_cl S c v k lv).2.2.2]).length = (gr_cl S c v k lv).2.2.2.2.1.1.length + (gr_cl S c v k lv).2.2.2.2.2.2.1.length := by
          unfold cl_cd
          simp
        omega
      · rw [if_neg z] at hg ⊢
        by_cases z9 : c (gr_cl S c v k lv).2.1 = 159
        · rw [if_pos z9] at hg ⊢
          have := ih ((gr_cl S c v k lv).2.1 + 1) (gr_cl S c v k lv).2.2.1 (by omega) hg
          have e : (cl_cd ((gr_cl S c v k lv).2.2.2 :: (gr_al S c v m j ((gr_cl S c v k lv).2.1 + 1) (gr_cl S c v k lv).2.2.1).2.2)).length = (gr_cl S c v k lv).2.2.2.2.1.1.length + (gr_cl S c v k lv).2.2.2.2.2.2.1.length + (cl_cd (gr_al S c v m j ((gr_cl S c v k lv).2.1 + 1) (gr_cl S c v k lv).2.2.1).2.2).length := by
            unfold cl_cd
            simp [Nat.add_assoc]
          show (cl_cd ((gr_cl S c v k lv).2.2.2 :: (gr_al S c v m j ((gr_cl S c v k lv).2.1 + 1) (gr_cl S c v k lv).2.2.1).2.2)).length + k ≤ m
          omega
        · rw [if_neg z9] at hg
          exact absurd hg (by show ¬ (1 = 2); omega)
    · rw [if_neg ecl] at hg
      exact absurd hg (by show ¬ (1 = 2); omega)
theorem lay_123 {t : Nat} {T : hf_T} {P : hf_P} (hs : hf_Lay t T P) : hf_Lay t T (hf_upP P 123 2 (some 122)) := by
  refine ⟨hs.1, hs.2.1, fun a j b h => ?_⟩
  have hne : ¬ (a = 123 ∧ j = 2) := by
    rintro ⟨rfl, rfl⟩
    cases h
  rw [← hs.2.2 a j b h]
  unfold hf_upP va_up
  by_cases ea : a = 123
  · subst ea
    rw [if_pos rfl, if_neg (fun q => hne ⟨rfl, q⟩)]
  · rw [if_neg ea]
theorem sim_L {N t : Nat} {T : hf_T} {I : hf_I} {L L' : hf_L} {P : hf_P} (h : hf_Sim hf_SL hf_CC N t T I L P) (hL : L' 136 = L 136) : hf_Sim hf_SL hf_CC N t T I L' P := by
  obtain ⟨h1, h2, h3, h4, h5, h6⟩ := h
  refine ⟨h1, h2, h3, h4, ?_, h6⟩
  rw [hL]
  exact h5
theorem S_h1_cg2 {W5 hc hn hc2 hn2 : Int32} {hw hl kp hw2 hl2 kp2 : Nat → Int32} (h : S_h1 W5 hc hn hw hl kp) (e1 : hc2 = hc) (e2 : hn2 = hn) (e3 : ∀ j, j < 12 → hw2 j = hw j) (e4 : ∀ j, j < 12 → hl2 j = hl j) (e5 : ∀ j, j < 26 → kp2 j = kp j) : S_h1 W5 hc2 hn2 hw2 hl2 kp2 := by
  obtain ⟨c, ln, g1, g2, g3, g4, g5, g6, g7⟩ := h
  refine ⟨c, ln, g1, g2, e1.trans g3, (e5 24 (by omega)).trans g4, e2.trans g5, (e5 25 (by omega)).trans g6, fun j hj => ?_⟩
  rw [e3 j (by omega), e4 j (by omega), e5 j (by omega), e5 (12 + j) (by omega)]
  exact g7 j hj
theorem S_ud_cg {W5 mu mu2 : Int32} {pa pk ml pa2 pk2 ml2 : Nat → Int32} (h : S_ud W5 pa pk mu ml) (e1 : pa2 1 = pa 1) (e2 : pa2 2 = pa 2) (e3 : ∀ j, j < 432 → pk2 j = pk j) (e4 : mu2 = mu) (e5 : ∀ j, j < 432 → ml2 j = ml j) : S_ud W5 pa2 pk2 mu2 ml2 := by
  obtain ⟨u, nx, g1, g2, g3, g4, g5, g6⟩ := h
  refine ⟨u, nx, g1, g2, e2.trans g3, e4.trans g4, e1.trans g5, fun q hq => ?_⟩
  have hr : (nx + 16 - u + q) % 16 < 16 := Nat.mod_lt _ (by omega)
  obtain ⟨f1, f2⟩ := g6 q hq
  generalize (nx + 16 - u + q) % 16 = r at *
  rw [e3 (27 * r + 26) (by omega), e5 (27 * q + 26) (by omega)]
  exact ⟨f1, S_h1_cg2 f2 (e3 _ (by omega)) (e3 _ (by omega)) (fun j hj => e3 _ (by omega)) (fun j hj => e3 _ (by omega)) (fun j hj => e5 _ (by omega))⟩
section KEEPA
variable {X : hf_X} {d kk nn t : Nat} {T : hf_T} {I : hf_I} {L : hf_L} {P : hf_P} {Q : Option Value → hf_M → Prop}
/-- the first places of a cell, copied one after the other -/
def cp_n (f g : Nat → Int32) (n : Nat) : Nat → Int32 := fun j => if j < n then f j else g j
theorem cp_up {f g : Nat → Int32} {n : Nat} : upd (cp_n f g n) n (f n) = cp_n f g (n + 1) := by
  funext j
  unfold upd cp_n
  by_cases h : j = n
  · subst h; rw [if_pos rfl, if_pos (by omega)]
  · rw [if_neg h]
    by_cases h2 : j < n
    · rw [if_pos h2, if_pos (by omega)]
    · rw [if_neg h2, if_neg (by omega)]
theorem cp_0 {f g : Nat → Int32} : cp_n f g 0 = g := by
  funext j
  unfold cp_n
  rw [if_neg (by omega)]
theorem hf_set_set {I : hf_I} {a : Nat} {g g2 : Nat → Int32} : hf_set (hf_set I a g) a g2 = hf_set I a g2 := by
  funext b
  unfold hf_set
  by_cases h : b = a
  · rw [if_pos h, if_pos h]
  · rw [if_neg h, if_neg h, if_neg h]
theorem hf_set_at {I : hf_I} {a : Nat} {g : Nat → Int32} : hf_set I a g a = g := if_pos rfl
theorem hf_set_no {I : hf_I} {a b : Nat} {g : Nat → Int32} (h : ¬ b = a) : hf_set I a g b = I b := if_neg h
theorem ms_keepA (hs : hf_Lay t T P) (h : hf_G X Y_X12_settings (d + 1) kk nn 52 [some (.ref 156), some (.int 0), none, none, none, none, none] [] (t, T, hf_set I 161 (cp_n (I 158) (I 161) 26), L, P) Q) : hf_G X Y_X12_settings (d + 1) kk nn 26 [some (.ref 156), some (.int 0), none, none, none, none, none] [] (t, T, I, L, P) Q := by
  have loop : ∀ f k, k + f = 26 → hf_G X Y_X12_settings (d + 1) kk nn 26 [some (.ref 156), some (.int (nI k)), none, none, none, none, none] [] (t, T, hf_set I 161 (cp_n (I 158) (I 161) k), L, P) Q := by
    intro f
    induction f with
    | zero =>
      intro k hk
      obtain rfl : k = 26 := by omega
      exact w_X12_settings_26 hs ⟨fun _ => h, fun z => absurd (by decide) z⟩
    | succ f ih =>
      intro k hk
      refine w_X12_settings_26 hs ⟨fun z => absurd z (nI_ge (b := 26) (by omega) (by omega)), fun _ => ⟨vp_in_nI (by omega) (by omega), vp_in_nI (by omega) (by omega), ?_⟩⟩
      rw [nI_clamp (by omega), hf_set_no (by omega), nI_1, hf_up_set, cp_up]
      exact ih (k + 1) (by omega)
  have := loop 26 0 (by omega)
  rw [cp_0, hf_set_self] at this
  exact this
theorem ms_keepB (hs : hf_Lay t T P) (h : hf_G X Y_X12_lays d 0 0 0 (hf_en [.ref 156, .int 6] 3) [] (t, T, hf_set I 170 (cp_n (I 169) (I 170) 432), L, P) (fun r M => hf_G X Y_X12_settings (d + 1) kk nn 97 [some (.ref 156), some (.int (I 156 27)), some (.int (I 158 315)), none, none, none, none] (r.toList ++ []) M Q)) : hf_G X Y_X12_settings (d + 1) kk nn 52 [some (.ref 156), some (.int 0), none, none, none, none, none] [] (t, T, I, L, P) Q := by
  have loop : ∀ f k, k + f = 432 → hf_G X Y_X12_settings (d + 1) kk nn 52 [some (.ref 156), some (.int (nI k)), none, none, none, none, none] [] (t, T, hf_set I 170 (cp_n (I 169) (I 170) k), L, P) Q := by
    intro f
    induction f with
    | zero =>
      intro k hk
      obtain rfl : k = 432 := by omega
      exact w_X12_settings_52 hs ⟨fun _ => h, fun z => absurd (by decide) z⟩
    | succ f ih =>
      intro k hk
      refine w_X12_settings_52 hs ⟨fun z => absurd z (nI_ge (b := 432) (by omega) (by omega)), fun _ => ⟨vp_in_nI (by omega) (by omega), vp_in_nI (by omega) (by omega), ?_⟩⟩
      rw [nI_clamp (by omega), hf_set_no (by omega), nI_1, hf_up_set, cp_up]
      exact ih (k + 1) (by omega)
  have := loop 432 0 (by omega)
  rw [cp_0, hf_set_self] at this
  exact this
theorem ms_backA {x1 x2 x4 x5 : Int32} (hs : hf_Lay t T P) (h : hf_G X Y_X12_settings (d + 1) kk nn 182 [some (.ref 156), some (.int x1), some (.int x2), none, some (.int x4), some (.int x5), some (.int 0)] [] (t, T, hf_set I 158 (cp_n (I 161) (I 158) 26), L, P) Q) : hf_G X Y_X12_settings (d + 1) kk nn 152 [some (.ref 156), some (.int x1), some (.int x2), none, some (.int x4), some (.int x5), some (.int 0)] [] (t, T, I, L, P) Q := by
  have loop : ∀ f k, k + f = 26 → hf_G X Y_X12_settings (d + 1) kk nn 152 [some (.ref 156), some (.int x1), some (.int x2), none, some (.int x4), some (.int x5), some (.int (nI k))] [] (t, T, hf_set I 158 (cp_n (I 161) (I 158) k), L, P) Q := by
    intro f
    induction f with
    | zero =>
      intro k hk
      obtain rfl : k = 26 := by omega
      exact w_X12_settings_152 hs ⟨fun _ => h, fun z => absurd (by decide) z⟩
    | succ f ih =>
      intro k hk
      refine w_X12_settings_152 hs ⟨fun z => absurd z (nI_ge (b := 26) (by omega) (by omega)), fun _ => ⟨vp_in_nI (by omega) (by omega), vp_in_nI (by omega) (by omega), ?_⟩⟩
      rw [nI_clamp (by omega), hf_set_no (by omega), nI_1, hf_up_set, cp_up]
      exact ih (k + 1) (by omega)
  have := loop 26 0 (by omega)
  rw [cp_0, hf_set_self] at this
  exact this
theorem ms_backB {x1 x2 x4 x5 : Int32} (hs : hf_Lay t T P) (h : ∀ z q, (x5 = -5 → z = -5 ∧ q = 5) → (¬ x5 = -5 → z = -3 ∧ q = 3) → Q (some (.int z)) (t, T, hf_up (hf_up (hf_up (hf_up (hf_up (hf_set I 169 (cp_n (I 170) (I 169) 432)) 156 27 x1) 158 315 x2) 156 41 x4) 156 0 z) 157 q (I 157 q + 1), L, P)) : hf_G X Y_X12_settings (d + 1) kk nn 182 [some (.ref 156), some (.int x1), some (.int x2), none, some (.int x4), some (.int x5), some (.int 0)] [] (t, T, I, L, P) Q := by
  have loop : ∀ f k, k + f = 432 → hf_G X Y_X12_settings (d + 1) kk nn 182 [some (.ref 156), some (.int x1), some (.int x2), none, some (.int x4), some (.int x5), some (.int (nI k))] [] (t, T, hf_set I 169 (cp_n (I 170) (I 169) k), L, P) Q := by
    intro f
    induction f with
    | zero =>
      intro k hk
      obtain rfl : k = 432 := by omega
      refine w_X12_settings_182 hs ⟨fun _ => ⟨fun z => ?_, fun z => ?_⟩, fun z => absurd (by decide) z⟩
      · exact h (-3) 3 (fun g => absurd g z) (fun _ => ⟨rfl, rfl⟩)
      · exact h (-5) 5 (fun _ => ⟨rfl, rfl⟩) (fun g => absurd z g)
    | succ f ih =>
      intro k hk
      refine w_X12_settings_182 hs ⟨fun z => absurd z (nI_ge (b := 432) (by omega) (by omega)), fun _ => ⟨vp_in_nI (by omega) (by omega), vp_in_nI (by omega) (by omega), ?_⟩⟩
      rw [nI_clamp (by omega), hf_set_no (by omega), nI_1, hf_up_set, cp_up]
      exact ih (k + 1) (by omega)
  have := loop 432 0 (by omega)
  rw [cp_0, hf_set_self] at this
  exact this
end KEEPA
