/-- cells that no promise rests on may differ -/
def hf_n2 (I J : hf_I) : Prop := (∀ a, (100 ≤ a ∧ a ≤ 123) ∨ (146 ≤ a ∧ a ≤ 149) ∨ a = 155 ∨ (157 ≤ a ∧ a ≤ 163) ∨ a = 169 ∨ 180 ≤ a → J a = I a) ∧ (∀ j, 11 ≤ j → J 136 j = I 136 j) ∧ (∀ j, j = 0 ∨ j = 10 ∨ j = 11 ∨ j = 27 ∨ j = 41 ∨ j = 49 → J 156 j = I 156 j)
section N2
variable {SL : Nat → hf_T → hf_P → (Nat → Nat → Int32) → Int32 → (Nat → Int32) → (Nat → Int32) → (Nat → Int32) → Prop} {CC : Int32 → Int32 → Int32 → Int32 → Int32 → Int32 → (Nat → Int32) → (Nat → Int32) → Int32 → (Nat → Int32) → (Nat → Int32) → (Nat → Int32) → (Nat → Int32) → (Nat → Int32) → (Nat → Int32) → (Nat → Int32) → (Nat → Nat → Int32) → hf_P → Int64 → Int64 → Int32 → Int32 → Prop}
variable {N t : Nat} {T : hf_T} {I J : hf_I} {L : hf_L} {P : hf_P}
theorem n2_sim (hn : hf_n2 I J) (h : hf_Sim SL CC N t T I L P) : hf_Sim SL CC N t T J L P := by
  obtain ⟨h1, h2, h3, h4, h5, h6⟩ := h
  have e := hn.1
  have eJ : (fun a => J (181 + a)) = fun a => I (181 + a) := funext fun a => e (181 + a) (by omega)
  refine ⟨h1, ?_, ?_, ?_, ?_, ?_⟩
  · unfold hf_SM
    rw [e 101 (by omega), e 102 (by omega), e 103 (by omega), e 104 (by omega), e 105 (by omega), e 106 (by omega), e 107 (by omega), e 108 (by omega), e 109 (by omega), e 110 (by omega), e 112 (by omega), e 113 (by omega), e 114 (by omega), e 115 (by omega), e 116 (by omega), e 117 (by omega), e 118 (by omega), e 119 (by omega), e 120 (by omega), e 158 (by omega)]
    exact h2
  · unfold hf_SO
    rw [e 105 (by omega), e 148 (by omega), e 149 (by omega), e 169 (by omega), e 100 (by omega), e 122 (by omega), e 123 (by omega), e 163 (by omega), e 155 (by omega), e 157 (by omega), e 146 (by omega), e 147 (by omega), e 180 (by omega), e 162 (by omega), hn.2.2 27 (by omega), hn.2.2 10 (by omega), hn.2.2 11 (by omega), hn.2.2 41 (by omega), hn.2.2 0 (by omega), hn.2.2 49 (by omega)]
    exact h3
  · rw [e 100 (by omega), hn.2.1 15 (by omega)]; exact h4
  · rw [e 100 (by omega), hn.2.1 15 (by omega), hn.2.1 17 (by omega), hn.2.1 18 (by omega), e 101 (by omega), e 102 (by omega), e 104 (by omega), e 105 (by omega), e 106 (by omega), e 107 (by omega), e 108 (by omega), e 109 (by omega), e 110 (by omega), e 112 (by omega), e 113 (by omega), eJ]; exact h5
  · rw [eJ, e 101 (by omega), e 158 (by omega), e 159 (by omega), e 160 (by omega)]; exact h6
theorem n2_pr {bd : Nat → Bool} {ww ls : Nat → Int32} {sz : Int32} {p n : Nat} (h : pr_st I J bd ww ls sz p n) : hf_n2 I J := by
  refine ⟨fun a ha => h.1 a (by omega), fun j hj => ?_, fun j _ => by rw [h.1 156 (by omega)]⟩
  rw [h.2.1, hf_upd_ne (by omega), hf_upd_ne (by omega)]
theorem n2_tr {K : hf_I} (h : hf_n2 I J) (g : hf_n2 J K) : hf_n2 I K := ⟨fun a ha => (g.1 a ha).trans (h.1 a ha), fun j hj => (g.2.1 j hj).trans (h.2.1 j hj), fun j hj => (g.2.2 j hj).trans (h.2.2 j hj)⟩
theorem n2_sm (h : sm_fr I J) : hf_n2 I J := ⟨fun a ha => h.1 a (by omega) (by omega) (by omega), fun j _ => by rw [h.1 136 (by omega) (by omega) (by omega)], fun j hj => h.2 j (by omega)⟩
end N2
section OPS
variable {CC : Int32 → Int32 → Int32 → Int32 → Int32 → Int32 → (Nat → Int32) → (Nat → Int32) → Int32 → (Nat → Int32) → (Nat → Int32) → (Nat → Int32) → (Nat → Int32) → (Nat → Int32) → (Nat → Int32) → (Nat → Int32) → (Nat → Nat → Int32) → hf_P → Int64 → Int64 → Int32 → Int32 → Prop}
variable {X : hf_X} {d N t : Nat} {T : hf_T} {I I2 : hf_I} {L : hf_L} {P : hf_P}
set_option maxHeartbeats 2000000 in
theorem op_says {a b : Int32} (h : hf_Sim hf_SL CC N t T I L P) : hf_Pair X Y_X11_says Y_X12_says [.int a, .int b] (d + 611) 0 0 (t, T, I, L, P) (hf_SimM hf_SL CC (N + 1)) := by
  have hs := h.1
  obtain ⟨cls, hc, hm⟩ := sim_law h
  obtain ⟨m1, m2, m3, ⟨w, w1, w2, w3, w4, w5⟩, ⟨p, p1, p2, p3, p4⟩, m6, m7, m8, m9, m10⟩ := h.2.1
  obtain ⟨t1, t2, t3, t4, t5⟩ := m3
  refine w_X11_says_0 (d := d + 610) hs ⟨fun c1 => ?_, fun c1 => ⟨fun c2 => ?_, fun c2 => ⟨fun c3 => ?_, fun c3 => ⟨fun c4 => ?_, fun c4 => ?_⟩⟩⟩⟩
  iterate 4
    · refine ⟨_, rfl, w_X12_says_0 (d := d + 610) hs ⟨fun q1 => ?_, fun q1 => ⟨fun q2 => ?_, fun q2 => ⟨fun q3 => ?_, fun q3 => ⟨fun q4 => ?_, fun q4 => ?_⟩⟩⟩⟩⟩ <;> first | contradiction | exact ⟨rfl, sim_same h⟩
  obtain ⟨hairs, n1, n2, rfl⟩ := bd_rng (a := 1) (b := 400) (by decide) (by decide) (Int32.not_lt.mp c1) (Int32.not_lt.mp c2)
  -- widths
  have wd : ∀ i, ∃ q : Nat, i < w → hf_wd (I 102) (I 101 14) (I 109 i) (fun q => I 110 (9 * i + q)) = nI q ∧ hf_wd (fun j => I 158 (26 + j)) (I 158 315) (I 158 (53 + 13 * i + 3)) (fun q => I 158 (53 + 13 * i + 4 + q)) = nI q ∧ q ≤ 360 := by
    intro i
    by_cases hi : i < w
    · obtain ⟨o1, o2, e0, e1, e2, e3, e4, e5⟩ := S_w1_ok (w4 i hi)
      obtain ⟨q, q1, q2⟩ := bd_wd (br := I 102) (sz := I 101 14) (fun j hj => (m1 j hj).2) t5.2 o1
      refine ⟨q, fun _ => ⟨q2, ?_, q1⟩⟩
      have ef : (fun q => I 158 (53 + 13 * i + 4 + q)) = fun q => I 158 (53 + 13 * i + (4 + q)) := funext fun q => by rw [Nat.add_assoc]
      rw [ef, ← t5.1, ← q2]
      exact (e5 (I 102) (fun j => I 158 (26 + j)) (I 101 14) (fun j hj => (m1 j hj).1)).symm
    · exact ⟨0, fun z => absurd z hi⟩
  obtain ⟨wn, hwn⟩ : ∃ wn : Nat → Nat, ∀ i, i < w → hf_wd (I 102) (I 101 14) (I 109 i) (fun q => I 110 (9 * i + q)) = nI (wn i) ∧ hf_wd (fun j => I 158 (26 + j)) (I 158 315) (I 158 (53 + 13 * i + 3)) (fun q => I 158 (53 + 13 * i + 4 + q)) = nI (wn i) ∧ wn i ≤ 360 := ⟨fun j => Classical.choose (wd j), fun j hj => Classical.choose_spec (wd j) hj⟩
  obtain ⟨bl, bl1, bl2, bl3⟩ := bd_lw (br := I 102) (sz := I 101 14) (m1 26 (by omega)).2 t5.2
  have wx : ∀ j, ∃ z : Nat, (j < p → vp_in (I 112 j) 8 ∧ I 103 (I 112 j).toNatClampNeg = nI z ∧ ∃ q, q ≤ 7 ∧ I 158 (269 + j) = nI q ∧ I 158 (261 + q) = nI z) ∧ z ≤ 99 := by
    intro j
    by_cases hj : j < p
    · obtain ⟨a1, a2, a3⟩ := p4 j hj
      obtain ⟨q, _, q1, q2⟩ := bd_rng (a := 0) (b := 7) (by decide) (by decide) a2 a3
      obtain ⟨b1, b2, b3⟩ := m2 q (by omega)
      obtain ⟨z, _, z1, z2⟩ := bd_rng (a := 0) (b := 99) (by decide) (by decide) b2 b3
      refine ⟨z, fun _ => ⟨by rw [q2]; exact vp_in_nI (by omega) (by omega), by rw [q2, nI_clamp (by omega)]; exact z2, q, q1, a1.symm.trans q2, b1.symm.trans z2⟩, z1⟩
    · exact ⟨0, fun z => absurd z hj, by omega⟩
  obtain ⟨wo, hwo⟩ : ∃ wo : Nat → Nat, ∀ j, (j < p → vp_in (I 112 j) 8 ∧ I 103 (I 112 j).toNatClampNeg = nI (wo j) ∧ ∃ q, q ≤ 7 ∧ I 158 (269 + j) = nI q ∧ I 158 (261 + q) = nI (wo j)) ∧ wo j ≤ 99 := ⟨fun j => Classical.choose (wx j), fun j => Classical.choose_spec (wx j)⟩
  have ejf : ∀ i, i < w → jf_w (nI i) (I 106 i) (I 107 i) (I 108 i) (I 109 i) (I 101 14) (I 104 0) (I 104 1) = jf_w (nI i) (I 158 (53 + 13 * i)) (I 158 (53 + 13 * i + 1)) (I 158 (53 + 13 * i + 2)) (I 158 (53 + 13 * i + 3)) (I 158 315) (I 158 311) (I 158 312) := by
    intro i hi
    obtain ⟨o1, o2, e0, e1, e2, e3, e4, e5⟩ := S_w1_ok (w4 i hi)
    rw [show I 106 i = I 158 (53 + 13 * i) from e0, show I 107 i = I 158 (53 + 13 * i + 1) from e1, show I 108 i = I 158 (53 + 13 * i + 2) from e2, show I 109 i = I 158 (53 + 13 * i + 3) from e3, t5.1, t1.1, t2.1]
  -- the narrowest at a place, on both sides
  have bcg : ∀ {ok ok' : Nat → Bool} {n : Nat}, (∀ i, i < n → ok i = ok' i) → pr_b ok wn n = pr_b ok' wn n := by
    intro ok ok' n
    induction n with
    | zero => intro _; rfl
    | succ n ih =>
      intro hk
      rw [pr_b, pr_b, ih (fun i hi => hk i (by omega)), hk n (by omega)]
  generalize hbd : (fun i => jd_br cls (jf_w (nI i) (I 106 i) (I 107 i) (I 108 i) (I 109 i) (I 101 14) (I 104 0) (I 104 1))) = bd
  have nbe : ∀ j, j < p → pr_b (pr_k I bd j) wn w = pr_b (pr_km (I 158) (fun i => jd_br cls (jf_w (nI i) (I 158 (53 + 13 * i)) (I 158 (53 + 13 * i + 1)) (I 158 (53 + 13 * i + 2)) (I 158 (53 + 13 * i + 3)) (I 158 315) (I 158 311) (I 158 312))) (I 158 (269 + j))) wn w := by
    intro j hj
    refine bcg fun i hi => ?_
    unfold pr_k pr_km
    rw [← hbd]
    dsimp only
    rw [ejf i hi, (p4 j hj).1, show I 106 i = I 158 (53 + 13 * i) from (w4 i hi).1.1]
  refine w_X8_mostWorth_0 (d := d + 609) hs (cs_prepare (d := d + 605) (w := w) (p := p) hs hc w1 w2 p1 p2 w5.1 (fun i hi => (S_w1_ok (w4 i hi)).1) fun I' st at1 => ?_)
  rw [hbd] at at1
  have nz1 : hf_n2 I I' := n2_pr st
  have e103 : I' 103 = I 103 := nz1.1 103 (by omega)
  have e112 : I' 112 = I 112 := nz1.1 112 (by omega)
  have e158 : I' 158 = I 158 := nz1.1 158 (by omega)
  have e9 : I' 136 9 = nI p := by rw [st.2.1, hf_upd_ne (by omega), hf_upd_eq]
  have e10 : I' 136 10 = nI bl := by rw [st.2.1, hf_upd_eq]; exact bl3
  have hnw : ∀ j, j < p → I' 141 j = hf_on ((pr_b (pr_k I bd j) wn w).map wn) := by
    intro j hj
    rw [(at1 j hj).2.2, pr_mb (wn := wn) (w := w) (fun i hi => ⟨(hwn i hi).1, (hwn i hi).2.2⟩) w (Nat.le_refl _)]
    cases pr_b (pr_k I bd j) wn w <;> rfl
  have hmx : ∀ j m, (pr_b (pr_k I bd j) wn w).map wn = some m → m ≤ 360 := by
    intro j m hj
    cases e : pr_b (pr_k I bd j) wn w with
    | none => rw [e] at hj; cases hj
    | some b =>
      rw [e] at hj
      cases hj
      exact (hwn b (pr_b_lt w b e)).2.2
  have hwo' : ∀ j, j < p → vp_in (I' 112 j) 8 ∧ I' 103 (I' 112 j).toNatClampNeg = nI (wo j) := fun j hj => by rw [e112, e103]; exact ⟨((hwo j).1 hj).1, ((hwo j).1 hj).2.1⟩
  obtain ⟨B1, B2, B3, B4⟩ := sy_B_t (nw := fun j => (pr_b (pr_k I bd j) wn w).map wn) (wo := wo) (bl := bl) (hairs := hairs) p1 (fun j => (hwo j).2) (2 ^ p - 1)
  have p0 : 0 < 2 ^ p := Nat.two_pow_pos p
  have mod : ∀ v, (∀ v', (b = 0 → v' = nI (sy_B (fun j => (pr_b (pr_k I bd j) wn w).map wn) wo bl p hairs (2 ^ p - 1)).1) → (b = 1 → v' = nI (sy_B (fun j => (pr_b (pr_k I bd j) wn w).map wn) wo bl p hairs (2 ^ p - 1)).2.1) → (b = 2 → v' = nI (sy_B (fun j => (pr_b (pr_k I bd j) wn w).map wn) wo bl p hairs (2 ^ p - 1)).2.2) → v' = v) → ∃ v0, some (Value.int v) = some (Value.int v0) ∧ hf_G X Y_X12_says (d + 611) 0 0 0 (hf_en (.ref 156 :: [.int (nI hairs), .int b]) 11) [] (t, T, I', L, P) (fun r2 M2 => r2 = some (.int v0) ∧ hf_SimM hf_SL CC (N + 1) M2) := by
    intro v hv
    refine ⟨v, rfl, ms_says (d := d) (w := w) (p := p) (bl := bl) (wn := wn) (wo := wo) (nb := fun j => pr_b (pr_k I bd j) wn w) hs (lw_m_fr hm e158) (lw_gd hc) w1 (by rw [e158]; exact w3) ?_ ?_ p1 (by rw [e158]; exact p3) ?_ bl2 ?_ (fun j => (hwo j).2) n1 n2 c3 c4 ?_ (fun j q hq => pr_b_lt w q hq) fun J v' hJ z0 z1 z2 => ⟨by rw [hv v' z0 z1 z2], n2_sim (n2_tr nz1 (n2_sm hJ)) (sim_same h)⟩⟩
    · rw [e158]
      intro i hi
      have ef : (fun q => I 158 (53 + 13 * i + 4 + q)) = fun q => I 158 (53 + 13 * i + (4 + q)) := funext fun q => by rw [Nat.add_assoc]
      rw [ef]
      exact (S_w1_ok (w4 i hi)).2.1
    · rw [e158]
      exact fun i hi => (hwn i hi).2
    · rw [e158, ← t5.1, ← bl3, (m1 26 (by omega)).1]
    · rw [e158]
      exact fun j hj => ((hwo j).1 hj).2.2
    · rw [e158]
      exact fun j hj => nbe j hj
  refine cs_mostWorth (d := d + 608) (nw := fun j => (pr_b (pr_k I bd j) wn w).map wn) (wo := wo) hs p1 bl2 n2 e9 e10 hnw hmx hwo' (fun j => (hwo j).2) (w_X11_says_30 (d := d + 610) hs ⟨fun q0 => ⟨fun q1 => ?_, fun q1 => ?_⟩, fun q0 => ?_⟩)
  · have b2 : b = 2 := by
      obtain ⟨m, _, m1, m2⟩ := bd_rng (a := 0) (b := 2) (by decide) (by decide) (Int32.not_lt.mp c3) (Int32.not_lt.mp c4)
      rw [m2] at q0 q1 ⊢
      have a2 : ¬ m = 0 := fun z => q0 (by rw [z]; rfl)
      have a3 : ¬ m = 1 := fun z => q1 (by rw [z]; rfl)
      rw [show m = 2 by omega]; rfl
    refine cs_widthOf (d := d + 609) (nw := fun j => (pr_b (pr_k I bd j) wn w).map wn) hs p1 (by omega) e9 e10 hnw hmx (w_X11_says_61 hs ?_)
    rw [B1]
    exact mod _ fun v' _ _ z => z b2
  · exact mod _ fun v' _ z _ => z q1
  · refine cs_worthOf (wo := wo) hs p1 e9 hwo' (w_X11_says_43 hs ?_)
    rw [B2]
    exact mod _ fun v' z _ _ => z q0
end OPS
