/-! the class's reader of TEXTS leaves the steps that the grammar says -/
def pc_cd (f : Nat → Int32) (code : gr_cd) : Prop := ∀ j, j < code.length → f (2 * j) = nI (code.getD j (0, 0)).1 ∧ f (2 * j + 1) = nI (code.getD j (0, 0)).2
def pc_fr (I0 I : hf_I) : Prop := (∀ a, ¬ a = 123 → ¬ a = 124 → ¬ a = 125 → I a = I0 a) ∧ I 123 3 = I0 123 3 ∧ I 123 4 = I0 123 4 ∧ I 124 7 = I0 124 7
/-- as pc_fr, and no fault was told -/
def pc_fg (I0 I : hf_I) : Prop := (∀ a, ¬ a = 123 → ¬ a = 124 → ¬ a = 125 → I a = I0 a) ∧ I 123 3 = I0 123 3 ∧ I 123 4 = I0 123 4 ∧ I 124 7 = I0 124 7 ∧ I 123 1 = I0 123 1
def pc_st (I0 : hf_I) (tp : Nat → Int32) (z i lv : Nat) (code : gr_cd) (I : hf_I) : Prop := pc_at tp z i I ∧ I 123 5 = nI lv ∧ I 124 6 = nI (2 * code.length) ∧ pc_cd (I 125) code ∧ pc_fg I0 I
def pc_po (I0 : hf_I) (tp : Nat → Int32) (z t : Nat) (T : hf_T) (L : hf_L) (P : hf_P) (code : gr_cd) (r : gr_r) (Q : Option Value → hf_M → Prop) : Prop := (r.1 = 2 → ∀ I', pc_st I0 tp z r.2.1 r.2.2.1 (code ++ r.2.2.2.1) I' → Q (some (.int 1)) (t, T, I', L, P)) ∧ (r.1 = 1 → ∀ I', pc_fr I0 I' → I' 123 1 = nI (tk_s tp z r.2.1) → Q (some (.int 0)) (t, T, I', L, P))
theorem tk_c_lt {tp : Nat → Int32} {z k : Nat} (h : ¬ tk_c tp z k = 0) : k < z := by
  obtain ⟨m, h1, h2, h3⟩ := tk_many tp z
  rcases Nat.lt_or_ge k m with q | q
  · omega
  · exact absurd (tk_c_end (h3 k q)) h
theorem tk_top {S : Bool} {tp : Nat → Int32} {z n nt x dp k lv : Nat} {a : gr_dn} (hnt : nt ≤ 10) (hk : k ≤ z) (h : (gr_ps S (tk_c tp z) (tk_v tp z) n nt x dp k lv a).1 = 2) : (gr_ps S (tk_c tp z) (tk_v tp z) n nt x dp k lv a).2.1 ≤ z := by
  refine gr_ps_top (fun j hj => ?_) n nt x dp k lv a hnt hk (by omega)
  obtain ⟨m, h1, h2, h3⟩ := tk_many tp z
  exact tk_c_end (h3 j (by omega))
theorem pc_cd_app {f : Nat → Int32} {code : gr_cd} {s x : Nat} (h : pc_cd f code) : pc_cd (upd (upd f (2 * code.length) (nI s)) (2 * code.length + 1) (nI x)) (code ++ [(s, x)]) := by
  intro j hj
  rw [List.length_append, List.length_singleton] at hj
  by_cases e : j = code.length
  · subst e
    rw [hf_upd_ne (by omega), hf_upd_eq, hf_upd_eq]
    simp [List.getD]
  · rw [hf_upd_ne (by omega), hf_upd_ne (by omega), hf_upd_ne (by omega), hf_upd_ne (by omega)]
    have := h j (by omega)
    have e2 : (code ++ [(s, x)]).getD j (0, 0) = code.getD j (0, 0) := by
      simp [List.getD, List.getElem?_append_left (show j < code.length by omega)]
    rw [e2]
    exact this
theorem pc_cd_skip {f : Nat → Int32} {code c1 : gr_cd} {s x y : Nat} (h : pc_cd f (code ++ (s, x) :: c1)) : pc_cd (upd f (2 * code.length + 1) (nI y)) (code ++ (s, y) :: c1) := by
  intro j hj
  have hl : (code ++ (s, y) :: c1).length = (code ++ (s, x) :: c1).length := by simp
  have := h j (by omega)
  by_cases e : j = code.length
  · subst e
    rw [hf_upd_ne (by omega), hf_upd_eq, this.1]
    simp [List.getD]
  · rw [hf_upd_ne (by omega), hf_upd_ne (by omega)]
    have e2 : (code ++ (s, y) :: c1).getD j (0, 0) = (code ++ (s, x) :: c1).getD j (0, 0) := by
      rcases Nat.lt_or_ge j code.length with q | q
      · simp [List.getD, List.getElem?_append_left q]
      · obtain ⟨u, rfl⟩ : ∃ u, j = code.length + (u + 1) := ⟨j - code.length - 1, by omega⟩
        simp [List.getD, List.getElem?_append_right]
    rw [e2]
    exact this
section CPAR
variable {X : hf_X} {d k n t : Nat} {T : hf_T} {I I0 : hf_I} {L : hf_L} {P : hf_P} {Q : Option Value → hf_M → Prop} {tp : Nat → Int32} {z i lv : Nat} {code : gr_cd}
theorem cp_addStep {s x : Nat} (hs : hf_Lay t T P) (hst : pc_st I0 tp z i lv code I) (hl : code.length + 1 ≤ 400) (h : ∀ I', pc_st I0 tp z i lv (code ++ [(s, x)]) I' → Q (some (.int 1)) (t, T, I', L, P)) : hf_G X Y_X9_addStep d k n 0 (hf_en [.ref 124, .int (nI s), .int (nI x)] 3) [] (t, T, I, L, P) Q := by
  obtain ⟨h1, h2, h3, h4, h5, h6⟩ := hst
  have e2 : nI (2 * code.length) + 2 = nI (2 * code.length + 2) := by rw [show (2 : Int32) = nI 2 from rfl, nI_add]
  refine w_X9_addStep_0 hs ?_
  rw [h3, e2, nI_1, nI_clamp (show 2 * code.length < 2 ^ 31 by omega), nI_clamp (show 2 * code.length + 1 < 2 ^ 31 by omega)]
  refine ⟨fun _ => ⟨vp_in_nI (by omega) (by omega), vp_in_nI (by omega) (by omega), h _ ⟨h1, h2, ?_, pc_cd_app h4, ⟨fun a a1 a2 a3 => ?_, h6.1, h6.2.1, h6.2.2⟩⟩⟩, fun q => absurd (show nI (2 * code.length + 2) ≤ (800 : Int32) from nI_le (b := 800) (by omega) (by omega)) q⟩
  · show nI (2 * code.length + 2) = nI (2 * (code ++ [(s, x)]).length)
    rw [List.length_append, List.length_singleton]
    congr 1
  · rw [← h5 a a1 a2 a3]
    simp [hf_up, a2, a3]
theorem cp_skip {s x : Nat} {c1 : gr_cd} (hs : hf_Lay t T P) (hst : pc_st I0 tp z i lv (code ++ (s, x) :: c1) I) (hl : (code ++ (s, x) :: c1).length ≤ 400) (h : ∀ I', pc_st I0 tp z i lv (code ++ (s, 2 * c1.length) :: c1) I' → Q none (t, T, I', L, P)) : hf_G X Y_X9_skipToHere d k n 0 (hf_en [.ref 124, .int (nI (2 * code.length))] 2) [] (t, T, I, L, P) Q := by
  obtain ⟨h1, h2, h3, h4, h5, h6⟩ := hst
  have hll : (code ++ (s, x) :: c1).length = code.length + c1.length + 1 := by simp; omega
  have e2 : nI (2 * code.length) + 2 = nI (2 * code.length + 2) := by rw [show (2 : Int32) = nI 2 from rfl, nI_add]
  have e3 : nI (2 * (code ++ (s, x) :: c1).length) - nI (2 * code.length) - 2 = nI (2 * c1.length) := by
    rw [hll, pk_sub (by omega), show (2 : Int32) = nI 2 from rfl, pk_sub (by omega)]
    congr 1
    omega
  refine w_X9_skipToHere_0 hs ⟨fun q => absurd q (nI_pos (by omega)), fun _ => ?_⟩
  rw [h3, e2, e3, nI_1, nI_clamp (show 2 * code.length + 1 < 2 ^ 31 by omega)]
  refine ⟨fun _ => ⟨vp_in_nI (by omega) (by omega), h _ ⟨h1, h2, ?_, pc_cd_skip h4, ⟨fun a a1 a2 a3 => ?_, h6.1, h6.2.1, h6.2.2⟩⟩⟩, fun q => absurd (nI_le (by omega) (by omega)) q⟩
  · show I 124 6 = _
    rw [h3]
    congr 1
    simp
  · rw [← h5 a a1 a2 a3]
    simp [hf_up, a3]
theorem cp_adv (hs : hf_Lay t T P) (hby : P 123 2 = some 122) (hz4 : z ≤ 400) (hst : pc_st I0 tp z i lv code I) (h : ∀ I', pc_st I0 tp z (i + 1) lv code I' → Q none (t, T, I', L, P)) : hf_G X Y_X5_advance (d + 1) k n 0 (hf_en [.ref 123] 2) [] (t, T, I, L, P) Q := by
  obtain ⟨h1, h2, h3, h4, h5, h6⟩ := hst
  refine ca_advance hs hby hz4 h1 (h _ ⟨pc_at_adv h1, h2, h3, h4, ⟨fun a a1 a2 a3 => ?_, h6.1, h6.2.1, h6.2.2⟩⟩)
  rw [← h5 a a1 a2 a3]
  simp [pc_adv, hf_up, a1]
/-- a fault here -/
theorem pc_fail (hst : pc_st I0 tp z i lv code I) : pc_fr I0 (hf_up I 123 1 (I 123 7)) ∧ hf_up I 123 1 (I 123 7) 123 1 = nI (tk_s tp z i) := by
  obtain ⟨h1, h2, h3, h4, h5, h6⟩ := hst
  refine ⟨⟨fun a a1 a2 a3 => ?_, h6.1, h6.2.1, h6.2.2.1⟩, h1.2.2.1⟩
  rw [← h5 a a1 a2 a3]
  simp [hf_up, a1]
theorem pc_po_fl {j : Nat} (hst : pc_st I0 tp z j lv code I) (h : pc_po I0 tp z t T L P code (gr_fl j) Q) : Q (some (.int 0)) (t, T, hf_up I 123 1 (I 123 7), L, P) := h.2 rfl _ (pc_fail hst).1 (pc_fail hst).2
theorem pc_po_gd {i2 l2 : Nat} {c2 : gr_cd} {d2 : gr_dn} (h : pc_po I0 tp z t T L P code (gr_gd i2 l2 c2 d2) Q) (hst : pc_st I0 tp z i2 l2 (code ++ c2) I) : Q (some (.int 1)) (t, T, I, L, P) := h.1 rfl _ hst
/-- the outcome of one reading is handed on -/
theorem pc_po_bd {r : gr_r} {f : Nat → Nat → gr_cd → gr_dn → gr_r} {Q1 : Option Value → hf_M → Prop} (h : pc_po I0 tp z t T L P code (gr_bd r f) Q) (hgood : ∀ I', r.1 = 2 → pc_st I0 tp z r.2.1 r.2.2.1 (code ++ r.2.2.2.1) I' → pc_po I0 tp z t T L P code (f r.2.1 r.2.2.1 r.2.2.2.1 r.2.2.2.2) Q → Q1 (some (.int 1)) (t, T, I', L, P)) (hbad : ∀ I', Q (some (.int 0)) (t, T, I', L, P) → Q1 (some (.int 0)) (t, T, I', L, P)) : pc_po I0 tp z t T L P code r Q1 := by
  refine ⟨fun e I' hst => ?_, fun e I' h1 h2 => ?_⟩
  · refine hgood I' e hst ?_
    unfold gr_bd at h
    rw [if_pos e] at h
    exact h
  · unfold gr_bd at h
    rw [if_neg (by omega)] at h
    exact hbad I' (h.2 e I' h1 h2)
theorem gr_bd_nz {r : gr_r} {f : Nat → Nat → gr_cd → gr_dn → gr_r} (h : (gr_bd r f).1 ≠ 0) (e : r.1 = 2) : (f r.2.1 r.2.2.1 r.2.2.2.1 r.2.2.2.2).1 ≠ 0 := by
  unfold gr_bd at h
  rw [if_pos e] at h
  exact h
end CPAR
