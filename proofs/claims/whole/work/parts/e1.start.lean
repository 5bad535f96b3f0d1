/-! from nothing to the first related cells -/
section START
theorem hf_ws_cg2 {t : Nat} {T T' : hf_T} {I I' : hf_I} {L L' : hf_L} {P P' : hf_P} {B : Nat} {ad : Nat → Nat} {dA : Nat → ClassId} (h : ∀ a, 100 ≤ a → a < 100 + t → T' a = T a ∧ I' a = I a ∧ L' a = L a ∧ P' a = P a) : hf_ws B ad dA (t, T', I', L', P') = hf_ws B ad dA (t, T, I, L, P) := by
  unfold hf_ws
  refine List.map_congr_left fun k hk => ?_
  have hk : k < t := List.mem_range.mp hk
  obtain ⟨e1, e2, e3, e4⟩ := h (100 + k) (by omega) (by omega)
  show (B + k, hf_c B ad dA (T' (100 + k)) (I' (100 + k)) (L' (100 + k)) (P' (100 + k))) = (B + k, hf_c B ad dA (T (100 + k)) (I (100 + k)) (L (100 + k)) (P (100 + k)))
  rw [e1, e2, e3, e4]
theorem hf_G_junk2 {X : hf_X} {Y : hf_Y} {d k n pc : Nat} {l : List (Option Value)} {st : List Value} {Q : Option Value → hf_M → Prop} {t : Nat} {T T' : hf_T} {I I' : hf_I} {L L' : hf_L} {P P' : hf_P} (h : ∀ a, 100 ≤ a → a < 100 + t → T' a = T a ∧ I' a = I a ∧ L' a = L a ∧ P' a = P a) (g : hf_G X Y d k n pc l st (t, T', I', L', P') Q) : hf_G X Y d k n pc l st (t, T, I, L, P) Q := by
  intro B ad D dA p la e s m args below meth c H locs cells slots mc ms ls hc hk1 hn1 hH hS hl
  have hH' : hf_H B ad D dA (t, T', I', L', P') H := ⟨hH.1, by rw [hf_ws_cg2 h]; exact hH.2⟩
  exact g B ad D dA p la e s m args below meth c H locs cells slots mc ms ls hc hk1 hn1 hH' hS hl
def z_T : hf_T := fun a => hf_sTl.getD (a - 100) (0, 0)
def z_I : hf_I := fun _ _ => 0
def z_L : hf_L := fun _ _ => 0
def z_P : hf_P := fun a => if a < 100 then hf_sP a else fun _ => none
def z_F : hf_P := cm_P (ci_P (di_P 101 z_P))
theorem z_ly : hf_Ly z_T := by
  refine ⟨trivial, fun a q h => ?_, trivial⟩
  show hf_sTl.getD (a - 100) (0, 0) = q
  rw [List.getD_eq_getElem?_getD, show hf_sTl[a - 100]? = some q from h]
  rfl
theorem z_F_lo {a : Nat} (h : a < 100) : z_F a = hf_sP a := by
  unfold z_F cm_P ci_P
  simp only [hf_upP_no (show ¬ a = 156 by omega), hf_upP_no (show ¬ a = 100 by omega), hf_upP_no (show ¬ a = 123 by omega), hf_upP_no (show ¬ a = 124 by omega), hf_upP_no (show ¬ a = 132 by omega), hf_upP_no (show ¬ a = 135 by omega), hf_upP_no (show ¬ a = 136 by omega), hf_upP_no (show ¬ a = 144 by omega), hf_upP_no (show ¬ a = 146 by omega), hf_upP_no (show ¬ a = 148 by omega), hf_upP_no (show ¬ a = 150 by omega), hf_upP_no (show ¬ a = 152 by omega)]
  rw [di_P_no (by omega) (by omega) (by omega)]
  exact if_pos h
theorem z_F_hi : ∀ a, a < 81 → ∀ j, j < 60 → (hf_sP (100 + a) j = none ∨ z_F (100 + a) j = hf_sP (100 + a) j) := by decide +kernel
theorem z_sP_len : ∀ r ∈ hf_sPl, r.length ≤ 60 := by decide +kernel
theorem z_sP_far {a j : Nat} (h : 60 ≤ j) : hf_sP a j = none := by
  unfold hf_sP
  cases e : hf_sPl[a - 100]? with
  | none => rfl
  | some r =>
    have := z_sP_len r (List.mem_of_getElem? e)
    simp only [List.getElem?_eq_none (show r.length ≤ j by omega)]
theorem z_lay : hf_Lay 81 z_T z_F := by
  refine ⟨Nat.le_refl _, z_ly.2.1, fun a j b h => ?_⟩
  rcases Nat.lt_or_ge a 100 with ha | ha
  · rw [z_F_lo ha]
    exact h
  · have ha2 : a < 181 := by
      rcases Nat.lt_or_ge a 181 with z | z
      · exact z
      · have e : hf_sPl[a - 100]? = none := List.getElem?_eq_none (by show 81 ≤ a - 100; omega)
        unfold hf_sP at h
        rw [e] at h
        cases h
    have hj : j < 60 := by
      rcases Nat.lt_or_ge j 60 with z | z
      · exact z
      · rw [z_sP_far z] at h
        cases h
    have := z_F_hi (a - 100) (by omega) j hj
    rw [show 100 + (a - 100) = a by omega] at this
    rcases this with q | q
    · rw [q] at h
      cases h
    · rw [q]
      exact h
theorem z_nw : ∀ a, 101 ≤ a → a < 181 → jk_nw z_T z_I z_L z_P a (hf_sTl.getD (a - 100) (0, 0)) := fun a h1 _ => ⟨rfl, rfl, rfl, if_neg (by omega)⟩
/-- the first related cells -/
theorem z_sim {I1 W : hf_I} {L : hf_L} (g1 : ∀ a, ¬ a = 101 + 1 → ¬ a = 101 + 2 → ¬ a = 101 + 12 → I1 a = di_I 101 z_I a) (g2 : ∀ i, i < 26 → I1 (101 + 1) i = 10) (g3 : I1 (101 + 1) 26 = 5) (g4 : ∀ i, i < 8 → I1 (101 + 2) i = 1) (g5 : ∀ i, i < 4 → I1 (101 + 12) i = -1)
    (f1 : ∀ a, ¬ a = 156 → ¬ a = 158 → ¬ a = 162 → W a = ci_I I1 a) (f2 : W 156 = upd (upd (ci_I I1 156) 11 (-1)) 41 (-1)) (f3 : S_wb (W 162)) (f4 : kp_0 (ci_I I1 158) (W 158)) : hf_Sim hf_SL hf_CC 0 81 z_T W L z_F := by
  have z : ∀ a, ¬ a = 102 → ¬ a = 103 → ¬ a = 113 → ¬ a = 101 → ¬ a = 105 → ¬ a = 114 → I1 a = fun _ => 0 := fun a a1 a2 a3 a4 a5 a6 => by
    rw [g1 a (by omega) (by omega) (by omega), di_I_no (by omega) (by omega) (by omega)]
    rfl
  have c156 : ci_I I1 156 = fun _ => 0 := (show ci_I I1 156 = I1 156 from rfl).trans (z 156 (by omega) (by omega) (by omega) (by omega) (by omega) (by omega))
  have c158 : ci_I I1 158 = fun _ => 0 := (show ci_I I1 158 = I1 158 from rfl).trans (z 158 (by omega) (by omega) (by omega) (by omega) (by omega) (by omega))
  rw [c156] at f2
  rw [c158] at f4
  obtain ⟨k1, k2, k3, k4, k5, k6, k7, k8⟩ := f4
  have kz : ∀ j, ¬ (26 ≤ j ∧ j < 53) → ¬ (261 ≤ j ∧ j < 269) → ¬ (275 ≤ j ∧ j < 279) → ¬ j = 313 → ¬ j = 314 → ¬ j = 321 → W 158 j = 0 := k8
  have w101 : W 101 = di_I 101 z_I 101 := by rw [f1 101 (by omega) (by omega) (by omega)]; exact g1 101 (by omega) (by omega) (by omega)
  have w102 : W 102 = I1 102 := f1 102 (by omega) (by omega) (by omega)
  have w103 : W 103 = I1 103 := f1 103 (by omega) (by omega) (by omega)
  have w104 : W 104 = fun _ => 0 := by rw [f1 104 (by omega) (by omega) (by omega)]; exact z 104 (by omega) (by omega) (by omega) (by omega) (by omega) (by omega)
  have w105 : W 105 = di_I 101 z_I 105 := by rw [f1 105 (by omega) (by omega) (by omega)]; exact g1 105 (by omega) (by omega) (by omega)
  have w110 : W 110 = fun _ => 0 := by rw [f1 110 (by omega) (by omega) (by omega)]; exact z 110 (by omega) (by omega) (by omega) (by omega) (by omega) (by omega)
  have w113 : W 113 = I1 113 := f1 113 (by omega) (by omega) (by omega)
  have w114 : W 114 = di_I 101 z_I 114 := by rw [f1 114 (by omega) (by omega) (by omega)]; exact g1 114 (by omega) (by omega) (by omega)
  have w100 : W 100 = ci_I I1 100 := f1 100 (by omega) (by omega) (by omega)
  have w123 : W 123 = ci_I I1 123 := f1 123 (by omega) (by omega) (by omega)
  have w136 : W 136 = ci_I I1 136 := f1 136 (by omega) (by omega) (by omega)
  have w146 : W 146 = ci_I I1 146 := f1 146 (by omega) (by omega) (by omega)
  have w148 : W 148 = ci_I I1 148 := f1 148 (by omega) (by omega) (by omega)
  have w155 : W 155 = fun _ => 0 := by rw [f1 155 (by omega) (by omega) (by omega)]; exact z 155 (by omega) (by omega) (by omega) (by omega) (by omega) (by omega)
  have w157 : W 157 = fun _ => 0 := by rw [f1 157 (by omega) (by omega) (by omega)]; exact z 157 (by omega) (by omega) (by omega) (by omega) (by omega) (by omega)
  have w160 : W 160 = fun _ => 0 := by rw [f1 160 (by omega) (by omega) (by omega)]; exact z 160 (by omega) (by omega) (by omega) (by omega) (by omega) (by omega)
  have e105 : W 105 5 = 0 := by rw [w105]; rfl
  refine ⟨z_lay, ⟨fun j hj => ?_, fun j hj => ?_, ?_, ?_, ?_, fun j hj => ?_, ?_, ?_, ?_, ?_⟩, ?_, ?_, fun q => ?_, ?_⟩
  · rw [w102]
    by_cases e : j = 26
    · subst e
      rw [show W 158 (26 + 26) = 5 from k2, show I1 102 26 = 5 from g3]
      decide
    · rw [k1 j (by omega), show I1 102 j = 10 from g2 j (by omega)]
      decide
  · rw [w103, k3 j hj, show I1 103 j = 1 from g4 j hj]
    decide
  · unfold S_tm
    rw [w104, w101, kz 311 (by omega) (by omega) (by omega) (by omega) (by omega) (by omega), kz 312 (by omega) (by omega) (by omega) (by omega) (by omega) (by omega), k5, k6, kz 315 (by omega) (by omega) (by omega) (by omega) (by omega) (by omega)]
    exact ⟨⟨rfl, by decide, by decide⟩, ⟨rfl, by decide, by decide⟩, ⟨rfl, by decide, by decide⟩, ⟨rfl, by decide, by decide⟩, ⟨rfl, by decide, by decide⟩⟩
  · refine ⟨0, by omega, e105, kz 316 (by omega) (by omega) (by omega) (by omega) (by omega) (by omega), fun i hi => absurd hi (by omega), fun s => Nat.zero_le _, fun j hj => ?_⟩
    rw [w110]
    show fits .byte (.int 0) = true
    decide
  · exact ⟨0, by omega, by rw [w101]; rfl, kz 317 (by omega) (by omega) (by omega) (by omega) (by omega) (by omega), fun j hj => absurd hj (by omega)⟩
  · rw [w113, k4 j hj, show I1 113 j = -1 from g5 j hj, e105]
    decide
  · exact ⟨0, 0, by omega, by omega, by rw [w114]; rfl, kz 24 (by omega) (by omega) (by omega) (by omega) (by omega) (by omega), by rw [w114]; rfl, kz 25 (by omega) (by omega) (by omega) (by omega) (by omega) (by omega), fun j hj => absurd hj (by omega)⟩
  · exact ⟨0, by omega, by rw [w101]; rfl, kz 318 (by omega) (by omega) (by omega) (by omega) (by omega) (by omega), fun j hj => absurd hj (by omega)⟩
  · exact ⟨0, by omega, by rw [w101]; rfl, kz 319 (by omega) (by omega) (by omega) (by omega) (by omega) (by omega), fun j hj => absurd hj (by omega)⟩
  · exact ⟨0, by omega, by rw [w101]; rfl, kz 320 (by omega) (by omega) (by omega) (by omega) (by omega) (by omega), by rw [w101, k7]; rfl, by rw [w101]; decide, by rw [w101]; decide⟩
  · refine ⟨⟨0, 0, by omega, by omega, ?_, ?_, ?_, fun q hq => absurd hq (by omega)⟩, ⟨0, by omega, ?_, ?_, fun j hj => absurd hj (by omega)⟩, ?_, ?_, ?_, ?_, ⟨0, by omega, ?_, ?_, fun j hj => absurd hj (by omega)⟩, f3⟩
    · rw [w148]; rfl
    · rw [f2]; rfl
    · rw [w148]; rfl
    · rw [w100]; rfl
    · rw [f2]; rfl
    · rw [w123, f2]; rfl
    · rw [w100, f2]; rfl
    · rw [w100, f2]; rfl
    · rw [w155, w157]
      exact ⟨rfl, rfl, rfl, rfl, rfl⟩
    · rw [w146]; rfl
    · rw [f2]; rfl
  · exact ⟨0, by omega, by rw [w100]; rfl, Or.inl (by rw [w136]; rfl)⟩
  · have q1 : W 136 15 = -1 := by rw [w136]; rfl
    have q2 : W 100 16 = 0 := by rw [w100]; rfl
    rw [q1, q2] at q
    exact absurd q (by decide)
  · refine ⟨⟨0, by omega, by rw [w101]; rfl, fun i hi => absurd hi (by omega), fun i hi => Or.inl rfl⟩, fun k hk => Or.inl ⟨rfl, by rw [w160]⟩, fun e0 e1 h0 h1 => ?_⟩
    exact absurd (show (none : Option Nat) = some (181 + e0) from h0) (by simp)
theorem law_all (X : hf_X) (hX : X.1 ≤ 3072) : hf_G X Y_L_law 1400 600000 7302250 0 (hf_en [.ref 0] 4) [] (0, fun _ => (0, 0), fun _ _ => 0, fun _ _ => 0, fun _ _ => none) (fun r _ => r = some (.int 1)) := by
  refine hf_G_junk2 (T' := z_T) (I' := z_I) (L' := z_L) (P' := z_P) (fun a h1 h2 => absurd h2 (by omega)) ?_
  show hf_G X Y_L_law 1400 600000 7302250 0 [some (.ref 0), none, none, none] [] (0, z_T, z_I, z_L, z_P) _
  refine w_L_law_0_k (d := 1394) z_ly (fun a h1 h2 => ⟨rfl, rfl, rfl, if_neg (by omega)⟩) (cs_init (d := 1394) z_ly z_nw fun I1 g1 g2 g3 g4 g5 hN => ?_)
  show hf_G X Y_L_law (1394 + 6) 599944 7299333 7 [some (.ref 0), none, none, none] [.ref 100] (56, z_T, ci_I I1, ci_L z_L, ci_P (di_P 101 z_P)) _
  refine w_L_law_7_k (d := 1394) z_ly hN (ms_init (d := 1394) z_ly z_lay (fun a h1 h2 => hN a (by omega) h2) fun W f1 f2 f3 f4 => ?_)
  show hf_G X Y_L_law (1394 + 6) 599919 7278730 15 [some (.ref 0), some (.ref 100), none, none] [.ref 156] (81, z_T, W, ci_L z_L, z_F) _
  refine w_L_law_15_k (d := 1394) z_ly (fun a h1 h2 => absurd h2 (by omega)) fun _ => ?_
  exact law_loop hX 512 0 81 z_T W (ci_L z_L) z_F 599919 7278730 (by omega) (by omega) (by omega) (by omega) (z_sim g1 g2 g3 g4 g5 f1 f2 f3 f4)
end START
