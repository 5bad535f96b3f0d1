/-! fit: both answer alike -/
/-- what is told of a row: WORDS and TURNS by place -/
def to_P (p : Nat) (w : Nat → Nat) (tn : Nat → Bool) (a u : Int32) : Prop := (∀ y, a = nI y → 3 ≤ y → y ≤ 14 → ((y < 9 → y - 3 < p → u = nI (w (y - 3))) ∧ (9 ≤ y → y - 9 < p → u = nI (if tn (y - 9) = true then 1 else 0)) ∧ ((y < 9 ∧ p ≤ y - 3) ∨ (9 ≤ y ∧ p ≤ y - 9) → u = -1))) ∧ (a < 0 ∨ 14 < a → u = -1)
theorem to_P_uq {p : Nat} {w : Nat → Nat} {tn : Nat → Bool} {y : Nat} {u v : Int32} (h3 : 3 ≤ y) (h14 : y ≤ 14) (hu : to_P p w tn (nI y) u) (v1 : y < 9 → y - 3 < p → v = nI (w (y - 3))) (v2 : 9 ≤ y → y - 9 < p → v = nI (if tn (y - 9) = true then 1 else 0)) (v3 : (y < 9 ∧ p ≤ y - 3) ∨ (9 ≤ y ∧ p ≤ y - 9) → v = -1) : v = u := by
  obtain ⟨u1, u2, u3⟩ := hu.1 y rfl h3 h14
  by_cases q : y < 9
  · by_cases z : y - 3 < p
    · rw [u1 q z, v1 q z]
    · rw [u3 (Or.inl ⟨q, by omega⟩), v3 (Or.inl ⟨q, by omega⟩)]
  · by_cases z : y - 9 < p
    · rw [u2 (by omega) z, v2 (by omega) z]
    · rw [u3 (Or.inr ⟨by omega, by omega⟩), v3 (Or.inr ⟨by omega, by omega⟩)]
theorem a_rng (a : Int32) : (a < 0 ∨ 14 < a) ∨ ∃ y, y ≤ 14 ∧ a = nI y := by
  by_cases h0 : a < 0
  · exact Or.inl (Or.inl h0)
  · by_cases h14 : 14 < a
    · exact Or.inl (Or.inr h14)
    · obtain ⟨y, y1, y2⟩ := nI_of2 (x := a) (M := 14) (n := 14) (by decide) h0 (Int32.not_lt.mp h14)
      exact Or.inr ⟨y, y1, y2⟩
section TOLD
variable {X : hf_X} {d kk nn t : Nat} {T : hf_T} {I : hf_I} {L : hf_L} {P : hf_P} {Q : Option Value → hf_M → Prop}
theorem cs_toldIn {p c : Nat} {w : Nat → Nat} {tn : Nat → Bool} {a : Int32} (hs : hf_Lay t T P) (p1 : 1 ≤ p) (p6 : p ≤ 6) (h17 : I 101 17 = nI p) (hw : ∀ j, j < p → w j < 16) (h0 : tn 0 = false) (hc : c < 100000) (a0 : ¬ a = 0) (a1 : ¬ a = 1) (a2 : ¬ a = 2) (h : ∀ u, to_P p w tn a u → Q (some (.int u)) (t, T, I, L, P)) :
    hf_G X Y_X11_toldIn (d + 2) kk nn 0 (hf_en [.ref 100, .long (lN (1073741824 * c + (fz_wk w p + fz_tu tn p))), .int a] 5) [] (t, T, I, L, P) Q := by
  have u32 := fz_tu_lt p1 p6 h0
  have no : a < 0 ∨ 14 < a → Q (some (.int (-1))) (t, T, I, L, P) := fun q => h (-1) ⟨fun y e y3 y14 => by
    exfalso
    rw [e] at q
    rcases q with q | q
    · exact nI_pos (by omega) q
    · have := (nI_ltI (a := 14) (by omega) (by omega)).mp q; omega, fun _ => rfl⟩
  rcases a_rng a with q | ⟨y, y14, rfl⟩
  · refine w_X11_toldIn_0 hs ⟨fun c9 => ⟨fun _ => no q, fun _ => ⟨fun _ => no q, fun c14 => ?_⟩⟩, fun c9 => ⟨fun _ => no q, fun c3 => ?_⟩⟩
    · exfalso
      rcases q with q | q
      · exact absurd (Int32.lt_of_lt_of_le q (Int32.le_trans (by decide) c9)) Int32.lt_irrefl
      · exact c14 q
    · exfalso
      rcases q with q | q
      · exact c3 (Int32.lt_of_lt_of_le q (by decide))
      · exact c9 (Int32.le_of_lt (Int32.lt_of_le_of_lt (by decide) q))
  · have y3 : 3 ≤ y := by
      rcases Nat.lt_or_ge y 3 with z | z
      · exfalso
        rcases (show y = 0 ∨ y = 1 ∨ y = 2 by omega) with rfl | rfl | rfl
        · exact a0 rfl
        · exact a1 rfl
        · exact a2 rfl
      · exact z
    have n3 : ¬ nI y < 3 := fun z => by have := (nI_ltI (b := 3) (by omega) (by omega)).mp z; omega
    have n14 : ¬ 14 < nI y := fun z => by have := (nI_ltI (a := 14) (by omega) (by omega)).mp z; omega
    have self : ∀ u, ((y < 9 → y - 3 < p → u = nI (w (y - 3))) ∧ (9 ≤ y → y - 9 < p → u = nI (if tn (y - 9) = true then 1 else 0)) ∧ ((y < 9 ∧ p ≤ y - 3) ∨ (9 ≤ y ∧ p ≤ y - 9) → u = -1)) → to_P p w tn (nI y) u := by
      intro u hu
      refine ⟨fun y' e _ _ => ?_, fun z => z.elim (fun z => absurd z (nI_pos (by omega))) (fun z => absurd z n14)⟩
      obtain rfl : y = y' := (nI_eq (by omega) (by omega)).mp e
      exact hu
    have c9 : (9 ≤ nI y) ↔ 9 ≤ y := nI_leI (a := 9) (by omega) (by omega)
    refine w_X11_toldIn_0 hs ?_
    rw [h17]
    refine ⟨fun q => ⟨fun z => absurd z n3, fun _ => ⟨fun z => absurd z n14, fun _ => ?_⟩⟩, fun q => ⟨fun z => absurd z n3, fun _ => ⟨fun z => absurd z n14, fun _ => ?_⟩⟩⟩
    · have y9 := c9.mp q
      rw [show (9 : Int32) = nI 9 from rfl, nI_su y9]
      refine ⟨fun z => ⟨fun _ => ?_, fun g => absurd (nI_le y9 (by omega)) g⟩, fun z => h (-1) (self _ ⟨fun g => by omega, fun _ g => absurd (nI_lt g (by omega)) z, fun _ => rfl⟩)⟩
      have z' := (nI_ltI (by omega) (by omega)).mp z
      have tt := ky_turnsIn (c := c) (i := y - 9) p1 p6 h0 z' hw hc
      rw [tt]
      refine ⟨fun g => h 0 (self _ ⟨fun g => by omega, fun _ _ => by rw [g]; rfl, fun g => by omega⟩), fun g => h 1 (self _ ⟨fun g => by omega, fun _ _ => ?_, fun g => by omega⟩)⟩
      have g1 : tn (y - 9) = true := by
        cases q : tn (y - 9) with
        | true => rfl
        | false => exact absurd q g
      rw [g1]; rfl
    · have y9 : y < 9 := by
        rcases Nat.lt_or_ge y 9 with z | z
        · exact z
        · exact absurd (c9.mpr z) q
      rw [show (3 : Int32) = nI 3 from rfl, nI_su y3]
      refine ⟨fun z => ⟨fun g => absurd g q, fun _ => ?_⟩, fun z => h (-1) (self _ ⟨fun _ g => absurd (nI_lt g (by omega)) z, fun g => by omega, fun _ => rfl⟩)⟩
      have z' := (nI_ltI (by omega) (by omega)).mp z
      rw [ky_wordIn p6 z' hw (by omega) hc]
      exact h _ (self _ ⟨fun _ _ => rfl, fun g => by omega, fun g => by omega⟩)
end TOLD
section FIT
variable {X : hf_X} {d N t : Nat} {T : hf_T} {I : hf_I} {L : hf_L} {P : hf_P} {cls : List gr_c1}
/-- what was found, of the LAW in FORCE -/
theorem cc_found {w p : Nat} (h : hf_Sim hf_SL hf_CC N t T I L P) (e : I 136 15 = I 100 16) (hc : lw_c t T I P cls) (h5 : I 105 5 = nI w) (hw : w ≤ 16) (h17 : I 101 17 = nI p) (hp : p ≤ 6) : ∃ lt0 : Nat → Int32, (∀ j, j < 9 * w → lt0 j = I 110 j) ∧ cc_R (cc_G cls (I 101 12) (I 101 13) (I 101 14) (I 102) (I 104) w (I 106) (I 107) (I 108) (I 109) lt0 (I 112) (I 113)) p (cc_tr (I 108)) (L 136 16) (L 136 19) (I 136 17) (I 136 18) := by
  obtain ⟨lt0, cls', c1, ⟨t', T', I', -, d16, dJ, hl⟩, cR⟩ := h.2.2.2.2.1 e
  have uq := lw_c_uq hl hc d16.symm dJ.symm rfl
  rw [h5, nI_clamp (show w < 2 ^ 31 by omega)] at c1 cR
  rw [h17, nI_clamp (show p < 2 ^ 31 by omega), cc_G_uq uq] at cR
  exact ⟨lt0, c1, cR⟩
/-- the least row by the model is the least key by the class -/
theorem cc_best {w p LN bl hr : Nat} {lt0 : Nat → Int32} (h : hf_Sim hf_SL hf_CC N t T I L P) (h5 : I 105 5 = nI w) (hw : w ≤ 16) (h17 : I 101 17 = nI p) (p1 : 1 ≤ p) (hp : p ≤ 6) (hlt : ∀ j, j < 9 * w → lt0 j = I 110 j) (gl : gLN (cc_G cls (I 101 12) (I 101 13) (I 101 14) (I 102) (I 104) w (I 106) (I 107) (I 108) (I 109) lt0 (I 112) (I 113)) = LN) (gh : ghr (cc_G cls (I 101 12) (I 101 13) (I 101 14) (I 102) (I 104) w (I 106) (I 107) (I 108) (I 109) lt0 (I 112) (I 113)) = hr) (gb : gbl (cc_G cls (I 101 12) (I 101 13) (I 101 14) (I 102) (I 104) w (I 106) (I 107) (I 108) (I 109) lt0 (I 112) (I 113)) = bl) (hok : fz_ok (cc_G cls (I 101 12) (I 101 13) (I 101 14) (I 102) (I 104) w (I 106) (I 107) (I 108) (I 109) lt0 (I 112) (I 113)) p) (r6 : I 101 12 = nI hr)
    (G : fz_X) (hG : G = cc_G cls (I 101 12) (I 101 13) (I 101 14) (I 102) (I 104) w (I 106) (I 107) (I 108) (I 109) lt0 (I 112) (I 113)) (B : Option Nat × Int32 × Nat) (hB : B = ft_B (ft_k p LN bl hr (glen G) (gopt G) (gwn G)) (ft_c cls (I 158) p bl (glen G) (gopt G) (gwn G) (cc_ls cls (I 101 14) (I 104) (I 106) (I 107) (I 108) (I 109))) (li_p (glen G) p * 2 ^ (p - 1))) :
    B.2.2 = (fz_S (fun k => fz_T G (p - 1) 0 0 k false) (glen G 0)).1 ∧ ((B.1 = none ∧ (fz_S (fun k => fz_T G (p - 1) 0 0 k false) (glen G 0)).2 = none) ∨ ∃ r, r < li_p (glen G) p * 2 ^ (p - 1) ∧ op_n (fz_rt p r) p ≤ 4 ∧ B.1 = some r ∧ B.2.1 = nI (fz_cs G p (fz_rw G p r) (fz_rt p r)) ∧ (fz_S (fun k => fz_T G (p - 1) 0 0 k false) (glen G 0)).2 = some (fz_ky G p (fz_rw G p r) (fz_rt p r))) := by
  obtain ⟨-, -, -, -, -, -, -, -, -, -, len3, opt, wn, lsn, -, -⟩ := cc_facts (lt0 := lt0) h cls h5 hw h17 hp hlt
  obtain ⟨m1, m2, ⟨t1, t2, t3, t4, t5⟩, ⟨w', w1, w2, w3, w4, w5⟩, m5, m6, m7, m8, m9, m10⟩ := h.2.1
  obtain rfl : w' = w := (nI_eq (by omega) (by omega)).mp (w2.symm.trans h5)
  rw [← hG] at gl gh gb hok
  have eG : G = fz_G cls LN bl hr (I 101 14) (I 104 0) (I 104 1) (glen G) (gopt G) (gwn G) (cc_ls cls (I 101 14) (I 104) (I 106) (I 107) (I 108) (I 109)) (fun a => lt0 (9 * a)) (I 113) := by
    rw [← gl, ← gh, ← gb, hG]
    rfl
  have rn4 : ∀ r, ft_k p LN bl hr (glen G) (gopt G) (gwn G) r = true → op_n (fz_rt p r) p ≤ 4 := by
    intro r hr'
    unfold ft_k at hr'
    rw [Bool.and_eq_true, decide_eq_true_eq] at hr'
    have L4 := hok.1.2.1
    have : op_n (fz_rt p r) p ≤ LN := hr'.1
    omega
  have h400 : hr ≤ 400 := by rw [← gh]; exact hok.1.2.2.2
  have b40 : bl ≤ 40 := by rw [← gb]; exact hok.1.2.2.1
  have hO : ∀ j a b, j < p → a < b → b < glen G j → gopt G j a < gopt G j b := by
    intro j a b _ h1 h2
    rw [hG] at h2 ⊢
    exact pr_c_lt w' a b h1 h2
  have oL : ∀ j k, k < glen G j → gopt G j k < w' := by
    intro j k hk
    rw [hG] at hk ⊢
    exact (opt j k hk).1
  have main := fz_main (G := G) p1 hp hok
  have ekk : ∀ r, ft_k p LN bl hr (glen G) (gopt G) (gwn G) r = fz_rk G p r := by
    intro r
    have := ft_k_fz (cls := cls) (LN := LN) (bl := bl) (hr := hr) (sz := I 101 14) (dy := I 104 0) (md := I 104 1) (len := glen G) (opt := gopt G) (wn := gwn G) (ls := cc_ls cls (I 101 14) (I 104) (I 106) (I 107) (I 108) (I 109)) (fl := fun a => lt0 (9 * a)) (nx := I 113) (p := p) (r := r)
    rw [← eG] at this
    exact this
  have em : (fun r => if fz_rk G p r = true then (1, some (fz_ky G p (fz_rw G p r) (fz_rt p r))) else fz_e) = fun r => if ft_k p LN bl hr (glen G) (gopt G) (gwn G) r = true then (1, some (fz_ky G p (fz_rw G p r) (fz_rt p r))) else fz_e := funext fun r => by rw [ekk]
  rw [em] at main
  have key := ft_B_fz (ok := ft_k p LN bl hr (glen G) (gopt G) (gwn G)) (c := ft_c cls (I 158) p bl (glen G) (gopt G) (gwn G) (cc_ls cls (I 101 14) (I 104) (I 106) (I 107) (I 108) (I 109))) (ky := fun r => fz_ky G p (fz_rw G p r) (fz_rt p r)) (cn := fun r => fz_cs G p (fz_rw G p r) (fz_rt p r)) (lo := fun r => fz_lo (fz_rw G p r) (fz_rt p r) p) (R := li_p (glen G) p * 2 ^ (p - 1)) (fun r hr1 hr2 => ⟨?_, by have := fz_cs_le (w := fz_rw G p r) (tn := fz_rt p r) hok hp; omega, rfl, (fz_lo_hi hok p1 hp).2.2⟩) (fun r r' q1 q2 => fz_lo_mo hok hO p1 hp q1 q2) _ (Nat.le_refl _)
  · rw [← main, ← hB] at key
    obtain ⟨k1, k2⟩ := key
    refine ⟨k1, ?_⟩
    rcases k2 with ⟨a1, a2, -⟩ | ⟨r, a1, a2, a3, a4, a5⟩
    · exact Or.inl ⟨a1, a2⟩
    · refine Or.inr ⟨r, a1, rn4 r a2, a3, ?_, a5⟩
      rw [a4]
      have := ft_c_fz (cls := cls) (K := I 158) (LN := LN) (bl := bl) (hr := hr) (sz := I 101 14) (dy := I 104 0) (md := I 104 1) (len := glen G) (opt := gopt G) (wn := gwn G) (ls := cc_ls cls (I 101 14) (I 104) (I 106) (I 107) (I 108) (I 109)) (fl := fun a => lt0 (9 * a)) (nx := I 113) (p := p) (r := r) p1 hp (t3.1.symm.trans r6) h400 t5.1.symm t1.1.symm t2.1.symm (fun i hi => ?_) (fun l hl => (m6 l hl).1.symm) b40 hok.2.2.2.1 (fun i hi => ?_) (rn4 r a2)
      · rw [← eG] at this
        exact this
      · have ow : ro_wd p (glen G) (gopt G) r i < w' := oL i _ (op_d_lt (hok.2.1 i hi).1)
        rw [hlt _ (by omega)]
        exact (S_w1_ok (w4 _ ow)).2.2.2.2.2.2.1.symm
      · exact lsn _ (oL i _ (op_d_lt (hok.2.1 i hi).1))
  · have := ft_c_fz (cls := cls) (K := I 158) (LN := LN) (bl := bl) (hr := hr) (sz := I 101 14) (dy := I 104 0) (md := I 104 1) (len := glen G) (opt := gopt G) (wn := gwn G) (ls := cc_ls cls (I 101 14) (I 104) (I 106) (I 107) (I 108) (I 109)) (fl := fun a => lt0 (9 * a)) (nx := I 113) (p := p) (r := r) p1 hp (t3.1.symm.trans r6) h400 t5.1.symm t1.1.symm t2.1.symm (fun i hi => ?_) (fun l hl => (m6 l hl).1.symm) b40 hok.2.2.2.1 (fun i hi => ?_) (rn4 r hr2)
    · rw [← eG] at this
      exact this
    · have ow : ro_wd p (glen G) (gopt G) r i < w' := oL i _ (op_d_lt (hok.2.1 i hi).1)
      rw [hlt _ (by omega)]
      exact (S_w1_ok (w4 _ ow)).2.2.2.2.2.2.1.symm
    · exact lsn _ (oL i _ (op_d_lt (hok.2.1 i hi).1))
end FIT
