/-! TEXTS and IMAGES under change; back -/
theorem SD_kq {D br wo dm W se lo tr le lt sy nx H hw hl sn mi du mw kp kq : Nat → Int32} (h : hf_SD D br wo dm W se lo tr le lt sy nx H hw hl sn mi du mw kp) (hk : ∀ j, j < 322 → kq j = kp j) : hf_SD D br wo dm W se lo tr le lt sy nx H hw hl sn mi du mw kq := by
  obtain ⟨m1, m2, m3, m4, m5, m6, m7, m8, m9, m10⟩ := h
  exact ⟨S_br_fr (fun i _ _ => hk i (by omega)) m1, S_wo_fr (fun i _ _ => hk i (by omega)) m2, S_tm_fr (fun i _ _ => hk i (by omega)) m3, S_wd_fr (fun i _ _ => hk i (by omega)) (hk 316 (by omega)) m4, S_sy_fr (fun i _ _ => hk i (by omega)) (hk 317 (by omega)) m5, S_nx_fr (fun i _ _ => hk i (by omega)) m6, S_h1_fr (fun i _ => hk i (by omega)) m7, S_se_fr (fun i _ _ => hk i (by omega)) (hk 318 (by omega)) m8, S_ma_fr (fun i _ _ => hk i (by omega)) (hk 319 (by omega)) m9, S_lf_fr (fun i _ _ => hk i (by omega)) m10⟩
theorem lay_cg {t t' : Nat} {T T' : hf_T} {P P' : hf_P} (hs : hf_Lay t T P) (ht : t ≤ t') (hT : ∀ a, a < 181 → T' a = T a) (hP : ∀ a, a < 181 → ¬ a = 111 → ¬ a = 121 → P' a = P a) : hf_Lay t' T' P' := by
  refine ⟨Nat.le_trans hs.1 ht, fun a q h => ?_, fun a j b h => ?_⟩
  · have ha : a < 181 := by
      rcases Nat.lt_or_ge a 181 with z | z
      · exact z
      · have e : hf_sT a = none := List.getElem?_eq_none (by show 81 ≤ a - 100; omega)
        rw [e] at h
        cases h
    rw [hT a ha]
    exact hs.2.1 a q h
  · have ha : a < 181 := by
      rcases Nat.lt_or_ge a 181 with z | z
      · exact z
      · have e : hf_sPl[a - 100]? = none := List.getElem?_eq_none (by show 81 ≤ a - 100; omega)
        unfold hf_sP at h
        rw [e] at h
        cases h
    by_cases h1 : a = 111
    · subst h1
      cases (show (none : Option Nat) = some b from h)
    · by_cases h2 : a = 121
      · subst h2
        cases (show (none : Option Nat) = some b from h)
      · rw [hP a ha h1 h2]
        exact hs.2.2 a j b h
theorem sl_tx_cg {t t' : Nat} {T T' : hf_T} {P P' : hf_P} {J J' : Nat → Nat → Int32} {tx : Nat} {cls : List gr_c1} (ht : t ≤ t') (e : ∀ j, j < 7 → T' (181 + (tx + j)) = T (181 + (tx + j)) ∧ P' (181 + (tx + j)) = P (181 + (tx + j)) ∧ J' (tx + j) = J (tx + j)) (h : sl_tx t T P J tx cls) : sl_tx t' T' P' J' tx cls := by
  obtain ⟨z, m, ⟨x0, x1, y0, y1, y2, y3, y4, y5, -⟩, r1, r2, r3, r4, r5⟩ := h
  have e0 := e 0 (by omega)
  have e1 := e 1 (by omega)
  have e2 := e 2 (by omega)
  have e3 := e 3 (by omega)
  have e4 := e 4 (by omega)
  have e5 := e 5 (by omega)
  have e6 := e 6 (by omega)
  refine ⟨z, m, ⟨e0.1.trans x0, ⟨x1.1, by omega⟩, ⟨(congrFun e0.2.1 0).trans y0.1, e1.1.trans y0.2.1, y0.2.2.1, by omega⟩, ⟨(congrFun e0.2.1 1).trans y1.1, e2.1.trans y1.2.1, y1.2.2.1, by omega⟩, ⟨(congrFun e0.2.1 2).trans y2.1, e3.1.trans y2.2.1, y2.2.2.1, by omega⟩, ⟨(congrFun e0.2.1 3).trans y3.1, e4.1.trans y3.2.1, y3.2.2.1, by omega⟩, ⟨(congrFun e0.2.1 4).trans y4.1, e5.1.trans y4.2.1, y4.2.2.1, by omega⟩, ⟨(congrFun e0.2.1 5).trans y5.1, e6.1.trans y5.2.1, y5.2.2.1, by omega⟩, trivial⟩, r1, r2, r3, r4, ?_⟩
  have j0 : J' tx = J tx := e0.2.2
  unfold tx_st
  rw [j0, e1.2.2, e2.2.2, e3.2.2, e4.2.2, e5.2.2, e6.2.2]
  exact r5
theorem sl_law_cg {t t' : Nat} {T T' : hf_T} {P P' : hf_P} {J J' : Nat → Nat → Int32} {lw lw' : Nat} {lc lc' : Int32} {K K' : Nat → Int32} (ht : t ≤ t') (h : sl_law t T P J lw lc K) (hlc : lc' = lc) (hlw : ∀ i, i < 6 → P' lw' i = P lw i) (hT : ∀ b, b < 100 + t → T' b = T b) (hK : kp_same K K') (hX : ∀ tx, 181 + tx + 7 ≤ 100 + t → (∀ e, sl_E P e → tx + 7 ≤ e ∨ e + 20 ≤ tx) → (∀ e, sl_E P' e → tx + 7 ≤ e ∨ e + 20 ≤ tx) ∧ ∀ j, j < 7 → P' (181 + (tx + j)) = P (181 + (tx + j)) ∧ J' (tx + j) = J (tx + j)) : sl_law t' T' P' J' lw' lc' K' := by
  subst hlc
  obtain ⟨n, n6, hn, hh, h6⟩ := h
  refine ⟨n, n6, hn, fun i hi => ?_, fun i hi => ?_⟩
  · obtain ⟨tx, c, v, m, a1, a2, a3, a4, a5⟩ := hh i hi
    have rg : 181 + tx + 7 ≤ 100 + t := by
      obtain ⟨z, m', x1, -⟩ := a5
      have := x1.2.2.2.2.2.2.2.1.2.2.2
      omega
    obtain ⟨b1, b2⟩ := hX tx rg a2
    exact ⟨tx, c, v, m, (hlw i (by omega)).trans a1, b1, kp_tk_s hK (by omega) a3, a4, sl_tx_cg ht (fun j hj => ⟨hT _ (by omega), b2 j hj⟩) a5⟩
  · rw [hlw i hi]
    rcases h6 i hi with q | ⟨b, q1, q2, q3, q4⟩
    · exact Or.inl q
    · exact Or.inr ⟨b, q1, (hT b q4).trans q2, q3, by omega⟩
theorem sl_im_cg {t t' : Nat} {T T' : hf_T} {P P' : hf_P} {J J' : Nat → Nat → Int32} {e : Nat} {K K' : Nat → Int32} (ht : t ≤ t') (h : sl_im t T P J e K) (hK : K' = K) (hT : ∀ b, b < 100 + t → T' b = T b) (hb : ∀ j, j < 20 → P' (181 + (e + j)) = P (181 + (e + j)) ∧ J' (e + j) = J (e + j)) (hX : ∀ tx, 181 + tx + 7 ≤ 100 + t → (∀ e, sl_E P e → tx + 7 ≤ e ∨ e + 20 ≤ tx) → (∀ e, sl_E P' e → tx + 7 ≤ e ∨ e + 20 ≤ tx) ∧ ∀ j, j < 7 → P' (181 + (tx + j)) = P (181 + (tx + j)) ∧ J' (tx + j) = J (tx + j)) : sl_im t' T' P' J' e K' := by
  subst hK
  obtain ⟨⟨b1, b2, b3⟩, h2, h3⟩ := h
  have j0 : J' e = J e := (hb 0 (by omega)).2
  refine ⟨⟨by omega, fun j q hj hq => (hT _ (by omega)).trans (b2 j q hj hq), fun j i b hj hq => (congrFun (hb j hj).1 i).trans (b3 j i b hj hq)⟩, ?_, sl_law_cg ht h3 (congrFun j0 15) (fun i _ => congrFun (hb 10 (by omega)).1 i) hT kp_rf hX⟩
  rw [j0, (hb 1 (by omega)).2, (hb 2 (by omega)).2, (hb 3 (by omega)).2, (hb 4 (by omega)).2, (hb 5 (by omega)).2, (hb 6 (by omega)).2, (hb 7 (by omega)).2, (hb 8 (by omega)).2, (hb 9 (by omega)).2, (hb 11 (by omega)).2, (hb 12 (by omega)).2, (hb 13 (by omega)).2, (hb 14 (by omega)).2, (hb 15 (by omega)).2, (hb 16 (by omega)).2, (hb 17 (by omega)).2, (hb 18 (by omega)).2, (hb 19 (by omega)).2]
  exact h2
section BACK
variable {X : hf_X} {d N t : Nat} {T : hf_T} {I : hf_I} {L : hf_L} {P : hf_P}
/-- one has gone back -/
theorem sim_bk {e x : Nat} {M I1 : hf_I} (hN : N ≤ 100000) (x2 : x < 2) (h : hf_Sim hf_SL hf_CC N t T I L P) (p1 : P 121 x = some (181 + e)) (im : sl_im t T P (fun a => I (181 + a)) e (fun j => I 159 (5929 * x + j))) (i1 : ∀ a, ¬ (101 ≤ a ∧ a < 121) → I1 a = I a) (i2 : ∀ j i, j < 20 → tf_c tf_all j i = true → I1 (101 + j) i = I (181 + (e + j)) i)
    (mo : ∀ a, ¬ a = 100 → ¬ a = 148 → ¬ a = 156 → ¬ a = 158 → M a = I1 a) (m100 : M 100 = upd (upd (I1 100) 15 0) 16 (I1 100 16 + 1)) (m148 : M 148 = upd (I1 148) 2 0) (m156 : M 156 = upd (upd (I1 156) 27 0) 0 0) (m158 : ∀ j, j < 5929 → M 158 j = I 159 (5929 * x + j)) : hf_Sim hf_SL hf_CC (N + 1) t T M L (tf_P (181 + e) 101 6 P) := by
  obtain ⟨hs, hSM, hSO, hct, hcc, hsl⟩ := h
  have c1 := S_ct_1 hN hct
  have q : ∀ a, ¬ (100 ≤ a ∧ a < 121) → ¬ a = 148 → ¬ a = 156 → ¬ a = 158 → M a = I a := fun a a1 a2 a3 a4 => (mo a (by omega) a2 a3 a4).trans (i1 a (by omega))
  have q0 : ∀ j, ¬ j = 15 → ¬ j = 16 → M 100 j = I 100 j := fun j j1 j2 => by rw [m100, hf_upd_ne j2, hf_upd_ne j1, i1 100 (by omega)]
  have q6 : ∀ j, ¬ j = 27 → ¬ j = 0 → M 156 j = I 156 j := fun j j1 j2 => by rw [m156, hf_upd_ne j2, hf_upd_ne j1, i1 156 (by omega)]
  have e17 : M 100 16 = I 100 16 + 1 := by rw [m100, hf_upd_eq, i1 100 (by omega)]
  have e15 : M 136 15 = I 136 15 := by rw [q 136 (by omega) (by omega) (by omega) (by omega)]
  have hP1 : ∀ a, ¬ a = 111 → tf_P (181 + e) 101 6 P a = P a := fun a ha => tf_P_out (by omega)
  have hSD : hf_SM M := by
    have := SD_tf (F := fun j => I (181 + (e + j))) (G := fun j => M (101 + j)) (kp := fun j => I 159 (5929 * x + j)) (fun j i hj hc => by
      show M (101 + j) i = _
      rw [mo _ (by omega) (by omega) (by omega) (by omega)]
      exact i2 j i hj hc) im.2.1
    exact SD_kq this (fun j hj => m158 j (by omega))
  refine ⟨lay_cg hs (Nat.le_refl _) (fun _ _ => rfl) (fun a _ h1 _ => hP1 a h1), hSD, ?_, ?_, fun z => absurd (e15.symm.trans (z.trans e17)) c1.2, ?_⟩
  · obtain ⟨u1, u2, u3, u4, u5, u6, u7, u8⟩ := hSO
    obtain ⟨u, nx, v1, v2, v3, v4, v5, v6⟩ := u1
    refine ⟨⟨0, nx, by omega, v2, by rw [m148, hf_upd_eq]; rfl, by rw [m156, hf_upd_ne (by omega), hf_upd_eq]; rfl, by rw [m148, hf_upd_ne (by omega), i1 148 (by omega)]; exact v5, fun j hj => absurd hj (by omega)⟩, ?_, ?_, ?_, ?_, ?_, ?_, ?_⟩
    · rw [q0 13 (by omega) (by omega), q6 10 (by omega) (by omega), q 122 (by omega) (by omega) (by omega) (by omega), q 163 (by omega) (by omega) (by omega) (by omega)]
      exact u2
    · rw [q 123 (by omega) (by omega) (by omega) (by omega), q6 11 (by omega) (by omega)]
      exact u3
    · rw [q0 14 (by omega) (by omega), q6 41 (by omega) (by omega)]
      exact u4
    · rw [m100, m156, hf_upd_ne (by omega), hf_upd_eq, hf_upd_eq]
    · rw [q 155 (by omega) (by omega) (by omega) (by omega), q 157 (by omega) (by omega) (by omega) (by omega)]
      exact u6
    · rw [q 146 (by omega) (by omega) (by omega) (by omega), q 147 (by omega) (by omega) (by omega) (by omega), q6 49 (by omega) (by omega), q 180 (by omega) (by omega) (by omega) (by omega)]
      exact u7
    · rw [q 162 (by omega) (by omega) (by omega) (by omega)]
      exact u8
  · rw [e17, e15]
    exact c1.1
  · have eJ : (fun a => M (181 + a)) = fun a => I (181 + a) := funext fun a => q _ (by omega) (by omega) (by omega) (by omega)
    have hE : ∀ e', sl_E (tf_P (181 + e) 101 6 P) e' ↔ sl_E P e' := fun e' => by
      unfold sl_E
      rw [hP1 121 (by omega)]
    have hX : ∀ tx, 181 + tx + 7 ≤ 100 + t → (∀ e, sl_E P e → tx + 7 ≤ e ∨ e + 20 ≤ tx) → (∀ e', sl_E (tf_P (181 + e) 101 6 P) e' → tx + 7 ≤ e' ∨ e' + 20 ≤ tx) ∧ ∀ j, j < 7 → tf_P (181 + e) 101 6 P (181 + (tx + j)) = P (181 + (tx + j)) ∧ (fun a => I (181 + a)) (tx + j) = (fun a => I (181 + a)) (tx + j) := fun tx _ hh => ⟨fun e' he => hh e' ((hE e').mp he), fun j _ => ⟨hP1 _ (by omega), rfl⟩⟩
    obtain ⟨s1, s2, s3⟩ := hsl
    rw [eJ, q 159 (by omega) (by omega) (by omega) (by omega), q 160 (by omega) (by omega) (by omega) (by omega)]
    have lc15 : M 101 15 = I (181 + (e + 0)) 15 := (congrFun (mo 101 (by omega) (by omega) (by omega) (by omega)) 15).trans (i2 0 15 (by omega) (by decide))
    refine ⟨sl_law_cg (Nat.le_refl _) im.2.2 lc15 (fun i hi => tf_P_in hi) (fun _ _ => rfl) ⟨fun i hi => m158 _ (by omega), fun i k hi hk => ⟨m158 _ (by omega), m158 _ (by omega)⟩⟩ hX, fun k hk => ?_, fun e0 e1 g0 g1 => s3 e0 e1 ((congrFun (hP1 121 (by omega)) 0).symm.trans g0) ((congrFun (hP1 121 (by omega)) 1).symm.trans g1)⟩
    rcases s2 k hk with ⟨a1, a2⟩ | ⟨e', a1, a2, a3⟩
    · exact Or.inl ⟨(congrFun (hP1 121 (by omega)) k).trans a1, a2⟩
    · exact Or.inr ⟨e', (congrFun (hP1 121 (by omega)) k).trans a1, a2, sl_im_cg (Nat.le_refl _) a3 rfl (fun _ _ => rfl) (fun j _ => ⟨hP1 _ (by omega), rfl⟩) hX⟩
end BACK
