/-! what SETTINGS are told, by the model -/
section SETOF
variable {X : hf_X} {t : Nat} {T : hf_T} {I I0 : hf_I} {L : hf_L} {P : hf_P}
theorem ev_fa_set {c w : Nat} {dn : Int32} (hs : hf_Lay t T P) (hSM : hf_SM I) (e158 : I0 158 = I 158) (h24 : I0 156 24 = dn) (hc : I 114 2 = nI c) (hc12 : c ≤ 12) (hw5 : I 105 5 = nI w) (hw16 : w ≤ 16) : ev_fa X t T L P I0 true (sf I c w dn) := by
  intro cc x J Q D kk nn hD hv hx fr hQ
  obtain ⟨d, rfl⟩ : ∃ d, D = d + 3 := ⟨D - 3, by omega⟩
  have j158 : J 158 = I 158 := (fr.1 158 (by omega)).trans e158
  have j24 : J 156 24 = dn := (fr.2 24 (by omega) (by omega)).trans h24
  obtain ⟨c', a1, a2, a3, a4, a5, a6, a7, -⟩ := sim_hd hSM
  obtain rfl : c' = c := (nI_eq (by omega) (by omega)).mp (a2.symm.trans hc)
  obtain ⟨m1, m2, ⟨t1, t2, t3, t4, t5⟩, ⟨w', w1, w2, w3, w4, w5⟩, m5, m6, m7, -⟩ := id hSM
  obtain ⟨c2, ln, b1, b2, b3, b4, b5, b6, -⟩ := m7
  obtain rfl : w' = w := (nI_eq (by omega) (by omega)).mp (w2.symm.trans hw5)
  have xw : ∀ y, y < 16 → ¬ nI y < 0 := fun y hy => nI_pos (by omega)
  have xl : ∀ y, y < 16 → (I 158 316 - 1 < nI y ↔ w' ≤ y) := by
    intro y hy
    rw [w3, hf_pred_lt (by omega) (xw y hy)]
    exact nI_leI (by omega) (by omega)
  have hcc : cc = 9 ∨ cc = 13 ∨ cc = 18 ∨ cc = 21 ∨ cc = 22 ∨ cc = 23 ∨ cc = 24 := by
    have hv' : (cc == 9 || cc == 13 || cc == 18 || (Nat.ble 21 cc && Nat.ble cc 24)) = true := hv
    simp only [Bool.or_eq_true, Bool.and_eq_true, beq_iff_eq, Nat.ble_eq] at hv'
    omega
  rcases hcc with rfl | rfl | rfl | rfl | rfl | rfl | rfl
  · have e : sf I c' w' dn (gr_fx true 9 x) = if x < w' then I 106 x else -1 := by
      show sf I c' w' dn (21 + x) = _
      unfold sf
      rw [if_neg (by omega), if_neg (by omega), if_neg (by omega), if_neg (by omega), if_neg (by omega), if_neg (by omega), show 21 + x - 21 = x by omega]
    rw [e] at hQ
    refine w_X12_settingOf_0 (d := d + 1) hs ⟨fun z => absurd z (by decide), fun z => absurd z (by decide), fun z => absurd z (by decide), fun z => absurd z (by decide), fun z => absurd z (by decide), fun z => absurd z (by decide), fun z => absurd z (by decide), fun z => absurd z (by decide), fun z => absurd z (by decide), fun z => absurd z (by decide), fun z => absurd z (by decide), fun z => absurd z (by decide), fun _ => ⟨fun z => absurd z (xw x (by omega)), fun _ => ⟨fun z => ?_, fun z => ?_⟩⟩⟩
    · rw [j158, xl x (by omega)] at z
      rw [if_neg (by omega)] at hQ
      exact hQ
    · rw [j158, xl x (by omega)] at z
      rw [if_pos (by omega), show I 106 x = I 158 (53 + 13 * x) from (w4 x (by omega)).1.1] at hQ
      rw [hf_wi0, nI_clamp (show 53 + 13 * x < 2 ^ 31 by omega), j158]
      exact ⟨vp_in_nI (by omega) (by omega), hQ⟩
  · have e : sf I c' w' dn (gr_fx true 13 x) = I 158 25 := (b5.trans b6.symm)
    rw [e, ← j158] at hQ
    exact w_X12_settingOf_0 (d := d + 1) hs ⟨fun _ => hQ, fun z => absurd z (by decide), fun z => absurd z (by decide), fun z => absurd z (by decide), fun z => absurd z (by decide), fun z => absurd z (by decide), fun z => absurd z (by decide), fun z => absurd z (by decide), fun z => absurd z (by decide), fun z => absurd z (by decide), fun z => absurd z (by decide), fun z => absurd z (by decide), fun z => absurd z (by decide)⟩
  · have e : sf I c' w' dn (gr_fx true 18 x) = I 158 315 := t5.1
    rw [e, ← j158] at hQ
    exact w_X12_settingOf_0 (d := d + 1) hs ⟨fun z => absurd z (by decide), fun z => absurd z (by decide), fun z => absurd z (by decide), fun z => absurd z (by decide), fun z => absurd z (by decide), fun _ => hQ, fun z => absurd z (by decide), fun z => absurd z (by decide), fun z => absurd z (by decide), fun z => absurd z (by decide), fun z => absurd z (by decide), fun z => absurd z (by decide), fun z => absurd z (by decide)⟩
  · have e : sf I c' w' dn (gr_fx true 21 x) = I 158 24 := a2.trans a3.symm
    rw [e, ← j158] at hQ
    exact w_X12_settingOf_0 (d := d + 1) hs ⟨fun z => absurd z (by decide), fun z => absurd z (by decide), fun z => absurd z (by decide), fun z => absurd z (by decide), fun z => absurd z (by decide), fun z => absurd z (by decide), fun z => absurd z (by decide), fun z => absurd z (by decide), fun _ => hQ, fun z => absurd z (by decide), fun z => absurd z (by decide), fun z => absurd z (by decide), fun z => absurd z (by decide)⟩
  · have e : sf I c' w' dn (gr_fx true 22 x) = I 158 313 - hl_wm (I 158) (I 158 25) c' := by
      show I 101 12 - hl_w (I 102) (I 109) (I 110) (I 115) (I 116) (I 101 14) (I 114 3) c' = _
      rw [a7, t3.1, show I 114 3 = I 158 25 from b5.trans b6.symm]
    rw [e] at hQ
    refine w_X12_settingOf_0 (d := d + 1) hs ⟨fun z => absurd z (by decide), fun z => absurd z (by decide), fun z => absurd z (by decide), fun z => absurd z (by decide), fun z => absurd z (by decide), fun z => absurd z (by decide), fun z => absurd z (by decide), fun z => absurd z (by decide), fun z => absurd z (by decide), fun _ => sp_X12_broadIn (d := d) (c := c') hs hc12 (by rw [j158]; exact a3) (by rw [j158]; exact a5) (w_X12_settingOf_99 hs ?_), fun z => absurd z (by decide), fun z => absurd z (by decide), fun z => absurd z (by decide)⟩
    rw [j158]
    exact hQ
  · have e : sf I c' w' dn (gr_fx true 23 x) = dn := rfl
    rw [e, ← j24] at hQ
    exact w_X12_settingOf_0 (d := d + 1) hs ⟨fun z => absurd z (by decide), fun z => absurd z (by decide), fun z => absurd z (by decide), fun z => absurd z (by decide), fun z => absurd z (by decide), fun z => absurd z (by decide), fun z => absurd z (by decide), fun z => absurd z (by decide), fun z => absurd z (by decide), fun z => absurd z (by decide), fun _ => hQ, fun z => absurd z (by decide), fun z => absurd z (by decide)⟩
  · have e : sf I c' w' dn (gr_fx true 24 x) = if x < w' then hf_wd (I 102) (I 101 14) (I 109 x) (fun q => I 110 (9 * x + q)) else -1 := by
      show sf I c' w' dn (5 + x) = _
      unfold sf
      rw [if_neg (by omega), if_neg (by omega), if_neg (by omega), if_neg (by omega), if_neg (by omega), if_pos (by omega), show 5 + x - 5 = x by omega]
    rw [e] at hQ
    have ef : ∀ i, (fun q => I 158 (53 + 13 * i + 4 + q)) = fun q => I 158 (53 + 13 * i + (4 + q)) := fun i => funext fun q => by rw [Nat.add_assoc]
    refine w_X12_settingOf_0 (d := d + 1) hs ⟨fun z => absurd z (by decide), fun z => absurd z (by decide), fun z => absurd z (by decide), fun z => absurd z (by decide), fun z => absurd z (by decide), fun z => absurd z (by decide), fun z => absurd z (by decide), fun z => absurd z (by decide), fun z => absurd z (by decide), fun z => absurd z (by decide), fun z => absurd z (by decide), fun _ => ⟨fun z => absurd z (xw x (by omega)), fun _ => ⟨fun z => ?_, fun z => ?_⟩⟩, fun z => absurd z (by decide)⟩
    · rw [j158, xl x (by omega)] at z
      rw [if_neg (by omega)] at hQ
      exact hQ
    · rw [j158, xl x (by omega)] at z
      obtain ⟨o1, o2, -, -, -, -, -, o5⟩ := S_w1_ok (w4 x (by omega))
      rw [if_pos (by omega)] at hQ
      rw [j158]
      refine sp_X12_broadOf (d := d + 1) hs (by omega) (by rw [j158, ef]; exact o2) (w_X12_settingOf_136 hs ?_)
      rw [j158, ef]
      have := o5 (I 102) (fun j => I 158 (26 + j)) (I 101 14) (fun j hj => (m1 j hj).1)
      rw [t5.1] at this hQ
      rw [this] at hQ
      exact hQ
end SETOF
