/-! texts and images: where they stand, how they are kept on both sides -/
def sl_tx (t : Nat) (T : hf_T) (P : hf_P) (J : Nat → Nat → Int32) (tx : Nat) (cls : List gr_c1) : Prop := ∃ z m, hf_Tx t T P (181 + tx) z m (181 + (tx + 1)) (181 + (tx + 2)) (181 + (tx + 3)) (181 + (tx + 4)) (181 + (tx + 5)) (181 + (tx + 6)) ∧ z ≤ 800 ∧ m ≤ 12 ∧ 2 * (cl_cd cls).length ≤ z ∧ cls.length ≤ m ∧ tx_st tx (tx + 1) (tx + 2) (tx + 3) (tx + 4) (tx + 5) (tx + 6) cls J
/-- the image desks' first cells -/
def sl_E (P : hf_P) (e : Nat) : Prop := P 121 0 = some (181 + e) ∨ P 121 1 = some (181 + e)
def sl_law (t : Nat) (T : hf_T) (P : hf_P) (J : Nat → Nat → Int32) (lw : Nat) (lc : Int32) (K : Nat → Int32) : Prop := ∃ n, n ≤ 6 ∧ lc = nI n ∧ (∀ i, i < n → ∃ tx c v m, P lw i = some (181 + tx) ∧ (∀ e, sl_E P e → tx + 7 ≤ e ∨ e + 20 ≤ tx) ∧ kp_tk K i c v m ∧ (gr_al false c v m 12 0 0).1 = 2 ∧ sl_tx t T P J tx (gr_al false c v m 12 0 0).2.2) ∧ ∀ i, i < 6 → P lw i = none ∨ ∃ b, P lw i = some b ∧ T b = (9, 0) ∧ 100 ≤ b ∧ b < 100 + t
/-- a desk that stands from 181 + e on is made as the first one, which stands from 101 on -/
def sl_blk (t : Nat) (T : hf_T) (P : hf_P) (e : Nat) : Prop := 81 + e + 20 ≤ t ∧ (∀ j q, j < 20 → hf_sT (101 + j) = some q → T (181 + (e + j)) = q) ∧ ∀ j i b, j < 20 → hf_sP (101 + j) i = some b → P (181 + (e + j)) i = some (181 + (e + (b - 101)))
def sl_im (t : Nat) (T : hf_T) (P : hf_P) (J : Nat → Nat → Int32) (e : Nat) (K : Nat → Int32) : Prop := sl_blk t T P e ∧ hf_SD (J e) (J (e + 1)) (J (e + 2)) (J (e + 3)) (J (e + 4)) (J (e + 5)) (J (e + 6)) (J (e + 7)) (J (e + 8)) (J (e + 9)) (J (e + 11)) (J (e + 12)) (J (e + 13)) (J (e + 14)) (J (e + 15)) (J (e + 16)) (J (e + 17)) (J (e + 18)) (J (e + 19)) K ∧ sl_law t T P J (181 + (e + 10)) (J e 15) (fun j => K (322 + j))
def hf_SL (t : Nat) (T : hf_T) (P : hf_P) (J : Nat → Nat → Int32) (lc : Int32) (K im hi : Nat → Int32) : Prop := sl_law t T P J 111 lc K ∧ (∀ k, k < 2 → (P 121 k = none ∧ hi k = 0) ∨ ∃ e, P 121 k = some (181 + e) ∧ hi k = 1 ∧ sl_im t T P J e (fun j => im (5929 * k + j))) ∧ ∀ e0 e1, P 121 0 = some (181 + e0) → P 121 1 = some (181 + e1) → e0 + 20 ≤ e1 ∨ e1 + 20 ≤ e0
theorem sl_lw {t : Nat} {T : hf_T} {P : hf_P} {J : Nat → Nat → Int32} {tx : Nat} {cls : List gr_c1} (h : sl_tx t T P J tx cls) : lw_tx t T P J tx cls := by
  obtain ⟨z, m, h1, h2⟩ := h
  exact ⟨z, m, tx + 1, tx + 2, tx + 3, tx + 4, tx + 5, tx + 6, h1, h2⟩
/-- the LAW in FORCE is the same on both sides -/
theorem sl_force {t : Nat} {T : hf_T} {P : hf_P} {I : hf_I} (hl : sl_law t T P (fun a => I (181 + a)) 111 (I 101 15) (fun j => I 158 (322 + j))) (hf : S_lf (I 101) (I 158)) : ∃ cls, lw_c t T I P cls ∧ lw_m I cls := by
  obtain ⟨c, g1, g2, g3, g4, g5, g6⟩ := hf
  obtain ⟨n, n6, hn, h, -⟩ := hl
  have ecn : c = n := (nI_eq (by omega) (by omega)).mp (g2.symm.trans hn)
  subst ecn
  by_cases h1 : I 101 16 = -1
  · exact ⟨[], Or.inl ⟨h1, rfl⟩, Or.inl ⟨by rw [← g4]; exact h1, rfl⟩⟩
  · have h0 : ¬ I 101 16 < 0 := fun q => by
      have := hf_lt_m1 q h1
      exact absurd this (Int32.not_lt.mpr g5)
    obtain ⟨i, hi, e⟩ := nI_of h0
    have hic : i < c := by
      rw [e] at g6
      exact (nI_ltI hi (by omega)).mp g6
    obtain ⟨tx, cc, v, m, a1, a2, a3, a4, a5⟩ := h i hic
    have gd := gr_al_gd 12 0 0 (by omega) a4
    refine ⟨(gr_al false cc v m 12 0 0).2.2, Or.inr ⟨i, tx, e, by omega, ?_, a1, sl_lw a5, gd.1⟩, Or.inr ⟨i, cc, v, m, by rw [← g4]; exact e, by omega, a3, a4, rfl⟩⟩
    rw [g2]
    exact g6
/-- what the judge leaves behind doesn't matter -/
def hf_nz (I J : hf_I) : Prop := (∀ a, ¬ a = 132 → ¬ a = 133 → ¬ a = 134 → ¬ a = 156 → ¬ a = 168 → J a = I a) ∧ ∀ j, j < 19 ∨ 22 < j → J 156 j = I 156 j
theorem nz_rf {I : hf_I} : hf_nz I I := ⟨fun _ _ _ _ _ _ => rfl, fun _ _ => rfl⟩
theorem nz_tr {I J K : hf_I} (h : hf_nz I J) (g : hf_nz J K) : hf_nz I K := ⟨fun a a1 a2 a3 a4 a5 => (g.1 a a1 a2 a3 a4 a5).trans (h.1 a a1 a2 a3 a4 a5), fun j hj => (g.2 j hj).trans (h.2 j hj)⟩
theorem nz_c {I J : hf_I} (h : jc_fr I J) : hf_nz I J := ⟨fun a a1 a2 a3 _ _ => h a a1 a2 a3, fun j _ => by rw [h 156 (by omega) (by omega) (by omega)]⟩
theorem nz_m {I J : hf_I} (h : jm_fr I J) : hf_nz I J := ⟨fun a _ _ _ a4 a5 => h.1 a a4 a5, fun j hj => h.2 j (by omega) (by omega) (by omega) (by omega)⟩
section SIMNZ
variable {SL : Nat → hf_T → hf_P → (Nat → Nat → Int32) → Int32 → (Nat → Int32) → (Nat → Int32) → (Nat → Int32) → Prop} {CC : Int32 → Int32 → Int32 → Int32 → Int32 → Int32 → (Nat → Int32) → (Nat → Int32) → Int32 → (Nat → Int32) → (Nat → Int32) → (Nat → Int32) → (Nat → Int32) → (Nat → Int32) → (Nat → Int32) → (Nat → Int32) → (Nat → Nat → Int32) → hf_P → Int64 → Int64 → Int32 → Int32 → Prop}
variable {N t : Nat} {T : hf_T} {I J : hf_I} {L : hf_L} {P : hf_P}
theorem nz_SM (hn : hf_nz I J) (h : hf_SM I) : hf_SM J := by
  have e : ∀ a, (101 ≤ a ∧ a ≤ 120) ∨ a = 158 → J a = I a := fun a ha => hn.1 a (by omega) (by omega) (by omega) (by omega) (by omega)
  unfold hf_SM
  rw [e 101 (by omega), e 102 (by omega), e 103 (by omega), e 104 (by omega), e 105 (by omega), e 106 (by omega), e 107 (by omega), e 108 (by omega), e 109 (by omega), e 110 (by omega), e 112 (by omega), e 113 (by omega), e 114 (by omega), e 115 (by omega), e 116 (by omega), e 117 (by omega), e 118 (by omega), e 119 (by omega), e 120 (by omega), e 158 (by omega)]
  exact h
theorem nz_sim (hn : hf_nz I J) (h : hf_Sim SL CC N t T I L P) : hf_Sim SL CC N t T J L P := by
  obtain ⟨h1, h2, h3, h4, h5, h6⟩ := h
  have e : ∀ a, (a < 132 ∨ 134 < a) ∧ (¬ a = 156) ∧ ¬ a = 168 → J a = I a := fun a ha => hn.1 a (by omega) (by omega) (by omega) (by omega) (by omega)
  have eJ : (fun a => J (181 + a)) = fun a => I (181 + a) := funext fun a => e (181 + a) (by omega)
  refine ⟨h1, nz_SM hn h2, ?_, ?_, ?_, ?_⟩
  · unfold hf_SO
    rw [e 105 (by omega), e 148 (by omega), e 149 (by omega), e 169 (by omega), e 100 (by omega), e 122 (by omega), e 123 (by omega), e 163 (by omega), e 155 (by omega), e 157 (by omega), e 146 (by omega), e 147 (by omega), e 180 (by omega), e 162 (by omega), hn.2 27 (by omega), hn.2 10 (by omega), hn.2 11 (by omega), hn.2 41 (by omega), hn.2 0 (by omega), hn.2 49 (by omega)]
    exact h3
  · rw [e 100 (by omega), e 136 (by omega)]; exact h4
  · rw [e 100 (by omega), e 136 (by omega), e 101 (by omega), e 102 (by omega), e 104 (by omega), e 105 (by omega), e 106 (by omega), e 107 (by omega), e 108 (by omega), e 109 (by omega), e 110 (by omega), e 112 (by omega), e 113 (by omega), eJ]; exact h5
  · rw [eJ, e 101 (by omega), e 158 (by omega), e 159 (by omega), e 160 (by omega)]; exact h6
end SIMNZ
section AT
variable {CC : Int32 → Int32 → Int32 → Int32 → Int32 → Int32 → (Nat → Int32) → (Nat → Int32) → Int32 → (Nat → Int32) → (Nat → Int32) → (Nat → Int32) → (Nat → Int32) → (Nat → Int32) → (Nat → Int32) → (Nat → Int32) → (Nat → Nat → Int32) → hf_P → Int64 → Int64 → Int32 → Int32 → Prop}
variable {X : hf_X} {d N t : Nat} {T : hf_T} {I : hf_I} {L : hf_L} {P : hf_P}
theorem sim_law (h : hf_Sim hf_SL CC N t T I L P) : ∃ cls, lw_c t T I P cls ∧ lw_m I cls := sl_force h.2.2.2.2.2.1 h.2.1.2.2.2.2.2.2.2.2.2
theorem S_w1_ok {se lo tr le : Int32} {lt kp : Nat → Int32} (h : S_w1 se lo tr le lt kp) : hf_wok le lt ∧ hf_wok (kp 3) (fun q => kp (4 + q)) ∧ se = kp 0 ∧ lo = kp 1 ∧ tr = kp 2 ∧ le = kp 3 ∧ lt 0 = kp 4 ∧ ∀ br br' sz, (∀ j, j < 27 → br j = br' j) → hf_wd br sz le lt = hf_wd br' sz (kp 3) (fun q => kp (4 + q)) := by
  obtain ⟨h1, h2, h3, m, h4, h5, h6, h7, h8⟩ := h
  refine ⟨⟨m, h5, h6, fun q hq => ?_⟩, ⟨m, h5, h7, fun q hq => ?_⟩, h1.1, h2.1, h3.1, h6.trans h7.symm, ?_, fun br br' sz hb => ?_⟩
  · obtain ⟨c, c1, c2, c3⟩ := h8 q hq; exact ⟨c, c1, c2⟩
  · obtain ⟨c, c1, c2, c3⟩ := h8 q hq; exact ⟨c, c1, c3⟩
  · obtain ⟨c, c1, c2, c3⟩ := h8 0 (by omega); rw [c2, c3]
  · unfold hf_wd
    rw [h6, h7]
    refine hf_ww_congr (fun q hq => ?_) hb
    rw [nI_clamp (by omega)] at hq
    obtain ⟨c, c1, c2, c3⟩ := h8 q hq
    exact ⟨by rw [c2, c3], c, c1, c2⟩
set_option maxHeartbeats 1000000 in
theorem op_at {a b : Int32} (h : hf_Sim hf_SL CC N t T I L P) : hf_Pair X Y_X11_at Y_X12_at [.int a, .int b] (d + 611) 0 0 (t, T, I, L, P) (hf_SimM hf_SL CC (N + 1)) := by
  have hs := h.1
  have hSM := h.2.1
  obtain ⟨cls, hc, hm⟩ := sim_law h
  obtain ⟨m1, m2, m3, m4, m5, m6, m7, m8, m9, m10⟩ := h.2.1
  obtain ⟨w, g1, g2, g3, g4, g5⟩ := m4
  obtain ⟨t1, t2, t3, t4, t5⟩ := m3
  refine w_X11_at_0 (d := d + 610) hs ⟨fun c1 => ?_, fun c1 => ⟨fun c2 => ?_, fun c2 => ?_⟩⟩
  · exact ⟨_, rfl, w_X12_at_0 (d := d + 609) hs ⟨fun _ => ⟨rfl, sim_same h⟩, fun q => absurd c1 q⟩⟩
  · rw [g2] at c2
    refine ⟨_, rfl, w_X12_at_0 (d := d + 609) hs ⟨fun q => absurd q c1, fun _ => ⟨fun _ => ⟨rfl, sim_same h⟩, fun q => absurd ?_ q⟩⟩⟩
    rw [g3, hf_pred_lt (by omega) c1]
    exact c2
  · rw [g2] at c2
    obtain ⟨i, hi, rfl⟩ := nI_of c1
    have hiw : i < w := by
      rcases Nat.lt_or_ge i w with q | q
      · exact q
      · exact absurd (nI_le q hi) c2
    have c2m : ¬ I 158 316 - 1 < nI i := by
      rw [g3, hf_pred_lt (by omega) c1]
      exact c2
    obtain ⟨o1, o2, e0, e1, e2, e3, e4, e5⟩ := S_w1_ok (g4 i hiw)
    have vi : vp_in (nI i) 16 := vp_in_nI (by omega) (by omega)
    have mod : ∀ (v : Int32) (I1 : hf_I), hf_nz I I1 → hf_G X Y_X12_at (d + 611) 0 0 0 (hf_en [.ref 156, .int (nI i), .int b] 3) [] (t, T, I1, L, P) (fun r2 M2 => r2 = some (.int v) ∧ hf_nz I M2.2.2.1 ∧ M2 = (t, T, M2.2.2.1, L, P)) → ∃ u, some (Value.int v) = some (.int u) ∧ hf_G X Y_X12_at (d + 611) 0 0 0 (hf_en [.ref 156, .int (nI i), .int b] 3) [] (t, T, I1, L, P) (fun r2 M2 => r2 = some (.int u) ∧ hf_SimM hf_SL CC (N + 1) M2) := by
      intro v I1 hn hG
      refine ⟨v, rfl, hf_mono ?_ hG⟩
      rintro r M' ⟨hr, hn', hM⟩
      refine ⟨hr, ?_⟩
      rw [hM]
      exact nz_sim hn' (sim_same h)
    -- the model, from cells that differ by noise alone
    have mk : ∀ (v : Int32) (I1 : hf_I), hf_nz I I1 → ((b = 0 → v = I 106 i) ∧ (b = 1 → v = I 107 i) ∧ (b = 2 → v = I 108 i) ∧ (b = 3 → v = I 109 i) ∧ (b = 4 → v = hf_wd (I 102) (I 101 14) (I 109 i) (fun q => I 110 (9 * i + q))) ∧ (b = 5 → v = I 110 (9 * i)) ∧ (b = 6 → v = jd_ls cls (jf_w (nI i) (I 106 i) (I 107 i) (I 108 i) (I 109 i) (I 101 14) (I 104 0) (I 104 1)) (I 107 i)) ∧ (b = 7 → v = hf_b (jd_br cls (jf_w (nI i) (I 106 i) (I 107 i) (I 108 i) (I 109 i) (I 101 14) (I 104 0) (I 104 1)))) ∧ (b.toInt < 0 ∨ 7 < b.toInt → v = -1)) → hf_G X Y_X12_at (d + 611) 0 0 0 (hf_en [.ref 156, .int (nI i), .int b] 3) [] (t, T, I1, L, P) (fun r2 M2 => r2 = some (.int v) ∧ hf_nz I M2.2.2.1 ∧ M2 = (t, T, M2.2.2.1, L, P)) := by
      intro v I1 hn hv
      obtain ⟨v0, v1, v2, v3, v4, v5, v6, v7, v8⟩ := hv
      have e158 : I1 158 = I 158 := hn.1 158 (by omega) (by omega) (by omega) (by omega) (by omega)
      have hm1 : lw_m I1 cls := lw_m_fr hm e158
      refine w_X12_at_0 (d := d + 609) hs ?_
      rw [e158]
      refine ⟨fun q => absurd q c1, fun _ => ⟨fun q => absurd q c2m, fun _ => ⟨fun q => ?_, fun q => ?_, fun q => ?_, fun q => ?_, fun q => ?_, fun q => ?_, fun q => ?_, fun q => ?_, fun q => ⟨by rw [v8 q], hn, rfl⟩⟩⟩⟩
      · subst q
        rw [hf_wi0, nI_clamp (show 53 + 13 * i < 2 ^ 31 by omega)]
        refine ⟨vp_in_nI (by omega) (by omega), ?_, hn, rfl⟩
        rw [v0 rfl, e0]
        rfl
      · subst q
        rw [hf_wi1, nI_clamp (show 53 + 13 * i + 1 < 2 ^ 31 by omega)]
        exact ⟨vp_in_nI (by omega) (by omega), by rw [v1 rfl, e1], hn, rfl⟩
      · subst q
        rw [hf_wi2, nI_clamp (show 53 + 13 * i + 2 < 2 ^ 31 by omega)]
        exact ⟨vp_in_nI (by omega) (by omega), by rw [v2 rfl, e2], hn, rfl⟩
      · subst q
        rw [hf_wi3, nI_clamp (show 53 + 13 * i + 3 < 2 ^ 31 by omega)]
        exact ⟨vp_in_nI (by omega) (by omega), by rw [v3 rfl, e3], hn, rfl⟩
      · subst q
        have ef : (fun q => I 158 (53 + 13 * i + 4 + q)) = fun q => I 158 (53 + 13 * i + (4 + q)) := funext fun q => by rw [Nat.add_assoc]
        refine sp_X12_broadOf (d := d + 609) hs (by omega) (by rw [e158, ef]; exact o2) (w_X12_at_76 hs ⟨?_, hn, rfl⟩)
        rw [e158, v4 rfl, e5 (I 102) (fun j => I 158 (26 + j)) (I 101 14) (fun j hj => (m1 j hj).1), t5.1, ef]
      · subst q
        rw [hf_wi4', nI_clamp (show 53 + 13 * i + 4 < 2 ^ 31 by omega)]
        refine ⟨vp_in_nI (by omega) (by omega), ?_, hn, rfl⟩
        have e4' : I 110 (9 * i + 0) = I 158 (53 + 13 * i + 4) := e4
        rw [v5 rfl, ← e4']
        rfl
      · subst q
        refine ms_losesOf (d := d + 1) hs hm1 (by omega) fun I2 f2 => w_X12_at_89 hs ⟨?_, nz_tr hn (nz_m f2), rfl⟩
        have e0' : I 106 i = I 158 (53 + 13 * i) := e0
        rw [v6 rfl, e158, e0', show I 107 i = I 158 (53 + 13 * i + 1) from e1, show I 108 i = I 158 (53 + 13 * i + 2) from e2, show I 109 i = I 158 (53 + 13 * i + 3) from e3, t5.1, t1.1, t2.1]
      · subst q
        refine ms_isBarred (d := d + 1) hs hm1 (lw_gd hc) (by omega) fun I2 f2 => ?_
        have e0' : I 106 i = I 158 (53 + 13 * i) := e0
        have ev := v7 rfl
        rw [e0', show I 107 i = I 158 (53 + 13 * i + 1) from e1, show I 108 i = I 158 (53 + 13 * i + 2) from e2, show I 109 i = I 158 (53 + 13 * i + 3) from e3, t5.1, t1.1, t2.1] at ev
        rw [e158]
        generalize jd_br cls (jf_w (nI i) (I 158 (53 + 13 * i)) (I 158 (53 + 13 * i + 1)) (I 158 (53 + 13 * i + 2)) (I 158 (53 + 13 * i + 3)) (I 158 315) (I 158 311) (I 158 312)) = bb at ev ⊢
        cases bb with
        | true => exact w_X12_at_103 hs ⟨fun g => absurd g (by decide), fun _ => ⟨by rw [ev]; rfl, nz_tr hn (nz_m f2), rfl⟩⟩
        | false => exact w_X12_at_103 hs ⟨fun _ => ⟨by rw [ev]; rfl, nz_tr hn (nz_m f2), rfl⟩, fun g => absurd rfl g⟩
    have ne : ∀ {x y : Int32}, ¬ x = y → ∀ {p : Prop}, (b = x → b = y → p) := fun {x y} hxy {p} hx hy => absurd (hx.symm.trans hy) hxy
    have rg : ∀ {x : Int32} {p : Prop}, b = x → (0 ≤ x.toInt ∧ x.toInt ≤ 7) → (b.toInt < 0 ∨ 7 < b.toInt → p) := fun {x p} hb hx hq => by rw [hb] at hq; omega
    refine ⟨fun q => ⟨vi, ?_⟩, fun q => ⟨vi, ?_⟩, fun q => ⟨vi, ?_⟩, fun q => ⟨vi, ?_⟩, fun q => ?_, fun q => ?_, fun q => ?_, fun q => ?_, fun q => ?_⟩
    · rw [nI_clamp (by omega)]
      exact mod _ I nz_rf (mk _ I nz_rf ⟨fun _ => rfl, ne (by decide) q, ne (by decide) q, ne (by decide) q, ne (by decide) q, ne (by decide) q, ne (by decide) q, ne (by decide) q, rg q (by decide)⟩)
    · rw [nI_clamp (by omega)]
      exact mod _ I nz_rf (mk _ I nz_rf ⟨ne (by decide) q, fun _ => rfl, ne (by decide) q, ne (by decide) q, ne (by decide) q, ne (by decide) q, ne (by decide) q, ne (by decide) q, rg q (by decide)⟩)
    · rw [nI_clamp (by omega)]
      exact mod _ I nz_rf (mk _ I nz_rf ⟨ne (by decide) q, ne (by decide) q, fun _ => rfl, ne (by decide) q, ne (by decide) q, ne (by decide) q, ne (by decide) q, ne (by decide) q, rg q (by decide)⟩)
    · rw [nI_clamp (by omega)]
      exact mod _ I nz_rf (mk _ I nz_rf ⟨ne (by decide) q, ne (by decide) q, ne (by decide) q, fun _ => rfl, ne (by decide) q, ne (by decide) q, ne (by decide) q, ne (by decide) q, rg q (by decide)⟩)
    · exact sp_X1_wordWidth (d := d + 609) hs (by omega) o1 (w_X11_at_107 hs (mod _ I nz_rf (mk _ I nz_rf ⟨ne (by decide) q, ne (by decide) q, ne (by decide) q, ne (by decide) q, fun _ => rfl, ne (by decide) q, ne (by decide) q, ne (by decide) q, rg q (by decide)⟩)))
    · rw [hf_c9, nI_clamp (show 9 * i < 2 ^ 31 by omega)]
      exact ⟨vp_in_nI (by omega) (by omega), mod _ I nz_rf (mk _ I nz_rf ⟨ne (by decide) q, ne (by decide) q, ne (by decide) q, ne (by decide) q, ne (by decide) q, fun _ => rfl, ne (by decide) q, ne (by decide) q, rg q (by decide)⟩)⟩
    · exact cs_lossOf (d := d + 607) hs hc (by omega) fun I1 f1 => w_X11_at_129 hs (mod _ I1 (nz_c f1) (mk _ I1 (nz_c f1) ⟨ne (by decide) q, ne (by decide) q, ne (by decide) q, ne (by decide) q, ne (by decide) q, ne (by decide) q, fun _ => rfl, ne (by decide) q, rg q (by decide)⟩))
    · refine cs_isBarred (d := d + 607) hs hc (by omega) fun I1 f1 => ?_
      have key := mod _ I1 (nz_c f1) (mk _ I1 (nz_c f1) ⟨ne (by decide) q, ne (by decide) q, ne (by decide) q, ne (by decide) q, ne (by decide) q, ne (by decide) q, ne (by decide) q, fun _ => rfl, rg q (by decide)⟩)
      generalize jd_br cls (jf_w (nI i) (I 106 i) (I 107 i) (I 108 i) (I 109 i) (I 101 14) (I 104 0) (I 104 1)) = bb at key ⊢
      cases bb with
      | true => exact w_X11_at_145 hs ⟨fun g => absurd g (by decide), fun _ => key⟩
      | false => exact w_X11_at_145 hs ⟨fun _ => key, fun g => absurd rfl g⟩
    · exact mod _ I nz_rf (mk _ I nz_rf ⟨(fun z => by rw [z] at q; exact absurd q (by decide)), (fun z => by rw [z] at q; exact absurd q (by decide)), (fun z => by rw [z] at q; exact absurd q (by decide)), (fun z => by rw [z] at q; exact absurd q (by decide)), (fun z => by rw [z] at q; exact absurd q (by decide)), (fun z => by rw [z] at q; exact absurd q (by decide)), (fun z => by rw [z] at q; exact absurd q (by decide)), (fun z => by rw [z] at q; exact absurd q (by decide)), fun _ => rfl⟩)
end AT
