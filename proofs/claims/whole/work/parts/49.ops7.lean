section OPS
variable {SL : Nat → hf_T → hf_P → (Nat → Nat → Int32) → Int32 → (Nat → Int32) → (Nat → Int32) → (Nat → Int32) → Prop} {CC : Int32 → Int32 → Int32 → Int32 → Int32 → Int32 → (Nat → Int32) → (Nat → Int32) → Int32 → (Nat → Int32) → (Nat → Int32) → (Nat → Int32) → (Nat → Int32) → (Nat → Int32) → (Nat → Int32) → (Nat → Int32) → (Nat → Nat → Int32) → hf_P → Int64 → Int64 → Int32 → Int32 → Prop}
variable {X : hf_X} {d N t : Nat} {T : hf_T} {I I2 : hf_I} {L : hf_L} {P : hf_P}

theorem hf_mixJ {A B : hf_I} {a : Nat} : hf_mix A B (181 + a) = A (181 + a) := by
  refine hf_mix_c ?_
  have : Nat.ble (181 + a) 180 = false := by
    cases h : Nat.ble (181 + a) 180 with
    | false => rfl
    | true => rw [Nat.ble_eq] at h; omega
  rw [this, Bool.and_false]
theorem hf_fr_c {I I' : hf_I} (h : hf_fr I I') (a : Nat) (ha : (a = 100 ∨ (102 ≤ a ∧ a ≤ 113) ∨ (117 ≤ a ∧ a ≤ 131) ∨ (135 ≤ a ∧ a ≤ 147) ∨ (150 ≤ a ∧ a ≤ 155) ∨ a = 157 ∨ (159 ≤ a ∧ a ≤ 167) ∨ 170 ≤ a)) : I' a = I a := h.1 a (by omega) (by omega) (by omega) (by omega) (by omega) (by omega) (by omega) (by omega) (by omega) (by omega) (by omega) (by omega) (by omega)
theorem hf_SO_fr {I I' : hf_I} (h : hf_SO I) (hu : hf_ud I') (hf : hf_fr I I') : hf_SO I' := by
  obtain ⟨u1, u2, u3, u4, u5, u6, u7⟩ := h
  have e100 := hf_fr_c hf 100 (by omega)
  have e122 := hf_fr_c hf 122 (by omega)
  have e123 := hf_fr_c hf 123 (by omega)
  have e163 := hf_fr_c hf 163 (by omega)
  have e155 := hf_fr_c hf 155 (by omega)
  have e157 := hf_fr_c hf 157 (by omega)
  have e146 := hf_fr_c hf 146 (by omega)
  have e147 := hf_fr_c hf 147 (by omega)
  have e180 := hf_fr_c hf 180 (by omega)
  have e162 := hf_fr_c hf 162 (by omega)
  have f := hf.2.2.1
  refine ⟨hu, ?_, ?_, ?_, ?_, ?_, ?_⟩
  · rw [e100, e122, e163, f 10 (by omega)]; exact u2
  · rw [e123, f 11 (by omega)]; exact u3
  · rw [e100, f 41 (by omega)]; exact u4
  · rw [e100, f 0 (by omega)]; exact u5
  · rw [e155, e157]; exact u6
  · rw [e146, e147, e180, e162, f 49 (by omega)]; exact u7
/-- related again, nothing counted yet -/
theorem sim_fr {I' : hf_I} (h : hf_Sim SL CC N t T I L P) (hSM : hf_SM I') (hu : hf_ud I') (hf : hf_fr I I') (h14 : I' 101 14 = I 101 14) : hf_Sim SL CC N t T I' L P := by
  obtain ⟨h1, h2, h3, h4, h5, h6⟩ := h
  have eJ : (fun a => I' (181 + a)) = fun a => I (181 + a) := funext fun a => hf_fr_c hf (181 + a) (by omega)
  have e100 := hf_fr_c hf 100 (by omega)
  have e136 := hf_fr_c hf 136 (by omega)
  have f := hf.2.1
  refine ⟨h1, hSM, hf_SO_fr h3 hu hf, by rw [e100, e136]; exact h4, fun e => ?_, ?_⟩
  · rw [e100, e136] at e
    rw [eJ, e136, f 12 (by omega), f 13 (by omega), h14, f 15 (by omega), f 16 (by omega), f 17 (by omega), hf_fr_c hf 102 (by omega), hf_fr_c hf 104 (by omega), hf_fr_c hf 105 (by omega), hf_fr_c hf 106 (by omega), hf_fr_c hf 107 (by omega), hf_fr_c hf 108 (by omega), hf_fr_c hf 109 (by omega), hf_fr_c hf 110 (by omega), hf_fr_c hf 112 (by omega), hf_fr_c hf 113 (by omega)]
    exact h5 e
  · have e2 : (fun j => I' 158 (322 + j)) = fun j => I 158 (322 + j) := funext fun j => hf.2.2.2 (322 + j) (by omega) (by omega)
    rw [eJ, e2, f 15 (by omega), hf_fr_c hf 159 (by omega), hf_fr_c hf 160 (by omega)]
    exact h6
theorem sim_ok {I' : hf_I} (hN : N ≤ 100000) (h : hf_Sim SL CC N t T I L P) (hSM : hf_SM I') (hu : hf_ud I') (hf : hf_fr I I') : hf_Sim SL CC (N + 1) t T (hf_up (hf_mix (hf_up (hf_up I' 100 15 0) 100 16 (I' 100 16 + 1)) I') 156 0 0) L P := by
  obtain ⟨u1, u2, u3, u4, u5, u6, u7⟩ := hf_SO_fr h.2.2.1 hu hf
  have e100 := hf_fr_c hf 100 (by omega)
  refine sim_mk hN h hSM ⟨u1, u2, u3, u4, rfl, u6, u7⟩ ?_ ?_ (fun a => ?_) (hf.2.1 15 (by omega)) (fun j => hf.2.2.2 (322 + j) (by omega) (by omega)) (hf_fr_c hf 159 (by omega)) (hf_fr_c hf 160 (by omega))
  · show I' 100 16 + 1 = _
    rw [e100]
  · show I' 136 15 = _
    rw [hf_fr_c hf 136 (by omega)]
  · rw [hf_upJ (by omega), hf_mixJ, hf_upJ (by omega), hf_upJ (by omega)]
    exact hf_fr_c hf (181 + a) (by omega)
theorem sim_no {I' : hf_I} {z : Int32} {q q2 : Nat} (hq : (q, q2) = (0, 1) ∨ (q, q2) = (1, 2) ∨ (q, q2) = (2, 3) ∨ (q, q2) = (3, 5) ∨ (q, q2) = (4, 6)) (h : hf_Sim SL CC N t T I' L P) : hf_Sim SL CC (N + 1) t T (hf_up (hf_up (hf_mix (hf_up (hf_up I' 100 15 z) 155 q (I' 155 q + 1)) I') 156 0 z) 157 q2 (I' 157 q2 + 1)) L P := by
  rw [← hf_mix_upc (by decide), ← hf_mix_upc (by decide), hf_mix_self]
  exact sim_refuse hq h

set_option maxHeartbeats 1000000 in
theorem op_turn (hN : N ≤ 100000) (h : hf_Sim SL CC N t T I L P) : hf_Pair X Y_X11_turn Y_X12_turn [] (d + 3) 0 0 (t, T, I, L, P) (hf_SimM SL CC (N + 1)) := by
  have hs := h.1
  obtain ⟨v, I', ⟨hc, hm⟩, r1, r2, r3, r4, r5⟩ := sub_turn (X := X) (d := d) hs h.2.1 h.2.2.1.1
  refine w_X11_turn_0 (d := d + 2) hs ?_
  have e0 : (t, T, I, L, P) = (t, T, hf_mix I I, L, P) := by rw [hf_mix_self]
  rw [e0]
  refine hc L I 0 0 _ ?_
  rcases r4 with r | r | r | r | r
  · refine w_X11_turn_5 (d := d) hs ⟨fun _ => ?_, fun q => absurd r q⟩
    refine ⟨_, rfl, w_X12_turn_0 (d := d + 2) hs ?_⟩
    rw [hf_mix_upc (by decide), hf_mix_upc (by decide)]
    refine hm L _ 0 0 _ (w_X12_turn_5 (d := d + 1) hs ⟨fun _ => ⟨rfl, ?_⟩, fun q => absurd r q⟩)
    exact sim_ok hN h r1 r2 r3
  all_goals subst r
  · refine w_X11_turn_5 (d := d) hs ⟨fun q => absurd q (by decide), fun _ => ⟨fun q => absurd q (by decide), fun q => absurd q (by decide), fun q => absurd q (by decide), fun q => absurd q (by decide), fun q => absurd q (by decide), fun _ => ?_⟩⟩
    refine ⟨_, rfl, w_X12_turn_0 (d := d + 2) hs ?_⟩
    rw [hf_mix_upc (by decide), hf_mix_upc (by decide)]
    refine hm L _ 0 0 _ (w_X12_turn_5 (d := d + 1) hs ⟨fun q => absurd q (by decide), fun _ => ⟨hf_vin (by decide), hf_vin (by decide), rfl, ?_⟩⟩)
    exact sim_no (q := 0) (q2 := 1) (Or.inl rfl) (sim_fr h r1 r2 r3 (r5 (by decide)))
  · refine w_X11_turn_5 (d := d) hs ⟨fun q => absurd q (by decide), fun _ => ⟨fun q => absurd q (by decide), fun q => absurd q (by decide), fun q => absurd q (by decide), fun q => absurd q (by decide), fun _ => ?_, fun q => absurd q (by decide)⟩⟩
    refine ⟨_, rfl, w_X12_turn_0 (d := d + 2) hs ?_⟩
    rw [hf_mix_upc (by decide), hf_mix_upc (by decide)]
    refine hm L _ 0 0 _ (w_X12_turn_5 (d := d + 1) hs ⟨fun q => absurd q (by decide), fun _ => ⟨hf_vin (by decide), hf_vin (by decide), rfl, ?_⟩⟩)
    exact sim_no (q := 1) (q2 := 2) (Or.inr (Or.inl rfl)) (sim_fr h r1 r2 r3 (r5 (by decide)))
  · refine w_X11_turn_5 (d := d) hs ⟨fun q => absurd q (by decide), fun _ => ⟨fun q => absurd q (by decide), fun q => absurd q (by decide), fun q => absurd q (by decide), fun _ => ?_, fun q => absurd q (by decide), fun q => absurd q (by decide)⟩⟩
    refine ⟨_, rfl, w_X12_turn_0 (d := d + 2) hs ?_⟩
    rw [hf_mix_upc (by decide), hf_mix_upc (by decide)]
    refine hm L _ 0 0 _ (w_X12_turn_5 (d := d + 1) hs ⟨fun q => absurd q (by decide), fun _ => ⟨hf_vin (by decide), hf_vin (by decide), rfl, ?_⟩⟩)
    exact sim_no (q := 2) (q2 := 3) (Or.inr (Or.inr (Or.inl rfl))) (sim_fr h r1 r2 r3 (r5 (by decide)))
  · refine w_X11_turn_5 (d := d) hs ⟨fun q => absurd q (by decide), fun _ => ⟨fun q => absurd q (by decide), fun _ => ?_, fun q => absurd q (by decide), fun q => absurd q (by decide), fun q => absurd q (by decide), fun q => absurd q (by decide)⟩⟩
    refine ⟨_, rfl, w_X12_turn_0 (d := d + 2) hs ?_⟩
    rw [hf_mix_upc (by decide), hf_mix_upc (by decide)]
    refine hm L _ 0 0 _ (w_X12_turn_5 (d := d + 1) hs ⟨fun q => absurd q (by decide), fun _ => ⟨hf_vin (by decide), hf_vin (by decide), rfl, ?_⟩⟩)
    exact sim_no (q := 3) (q2 := 5) (Or.inr (Or.inr (Or.inr (Or.inl rfl)))) (sim_fr h r1 r2 r3 (r5 (by decide)))

set_option maxHeartbeats 1000000 in
theorem op_clear (hN : N ≤ 100000) (h : hf_Sim SL CC N t T I L P) : hf_Pair X Y_X11_clear Y_X12_clear [] (d + 3) 0 0 (t, T, I, L, P) (hf_SimM SL CC (N + 1)) := by
  have hs := h.1
  obtain ⟨v, I', ⟨hc, hm⟩, r1, r2, r3, r4, r5⟩ := sub_clear (X := X) (d := d) hs h.2.1 h.2.2.1.1
  refine w_X11_clear_0 (d := d + 2) hs ?_
  have e0 : (t, T, I, L, P) = (t, T, hf_mix I I, L, P) := by rw [hf_mix_self]
  rw [e0]
  refine hc L I 0 0 _ ?_
  rcases r4 with r | r | r | r | r
  · refine w_X11_clear_5 (d := d) hs ⟨fun _ => ?_, fun q => absurd r q⟩
    refine ⟨_, rfl, w_X12_clear_0 (d := d + 2) hs ?_⟩
    rw [hf_mix_upc (by decide), hf_mix_upc (by decide)]
    refine hm L _ 0 0 _ (w_X12_clear_5 (d := d + 1) hs ⟨fun _ => ⟨rfl, ?_⟩, fun q => absurd r q⟩)
    exact sim_ok hN h r1 r2 r3
  all_goals subst r
  · refine w_X11_clear_5 (d := d) hs ⟨fun q => absurd q (by decide), fun _ => ⟨fun q => absurd q (by decide), fun q => absurd q (by decide), fun q => absurd q (by decide), fun q => absurd q (by decide), fun q => absurd q (by decide), fun _ => ?_⟩⟩
    refine ⟨_, rfl, w_X12_clear_0 (d := d + 2) hs ?_⟩
    rw [hf_mix_upc (by decide), hf_mix_upc (by decide)]
    refine hm L _ 0 0 _ (w_X12_clear_5 (d := d + 1) hs ⟨fun q => absurd q (by decide), fun _ => ⟨hf_vin (by decide), hf_vin (by decide), rfl, ?_⟩⟩)
    exact sim_no (q := 0) (q2 := 1) (Or.inl rfl) (sim_fr h r1 r2 r3 (r5 (by decide)))
  · refine w_X11_clear_5 (d := d) hs ⟨fun q => absurd q (by decide), fun _ => ⟨fun q => absurd q (by decide), fun q => absurd q (by decide), fun q => absurd q (by decide), fun q => absurd q (by decide), fun _ => ?_, fun q => absurd q (by decide)⟩⟩
    refine ⟨_, rfl, w_X12_clear_0 (d := d + 2) hs ?_⟩
    rw [hf_mix_upc (by decide), hf_mix_upc (by decide)]
    refine hm L _ 0 0 _ (w_X12_clear_5 (d := d + 1) hs ⟨fun q => absurd q (by decide), fun _ => ⟨hf_vin (by decide), hf_vin (by decide), rfl, ?_⟩⟩)
    exact sim_no (q := 1) (q2 := 2) (Or.inr (Or.inl rfl)) (sim_fr h r1 r2 r3 (r5 (by decide)))
  · refine w_X11_clear_5 (d := d) hs ⟨fun q => absurd q (by decide), fun _ => ⟨fun q => absurd q (by decide), fun q => absurd q (by decide), fun q => absurd q (by decide), fun _ => ?_, fun q => absurd q (by decide), fun q => absurd q (by decide)⟩⟩
    refine ⟨_, rfl, w_X12_clear_0 (d := d + 2) hs ?_⟩
    rw [hf_mix_upc (by decide), hf_mix_upc (by decide)]
    refine hm L _ 0 0 _ (w_X12_clear_5 (d := d + 1) hs ⟨fun q => absurd q (by decide), fun _ => ⟨hf_vin (by decide), hf_vin (by decide), rfl, ?_⟩⟩)
    exact sim_no (q := 2) (q2 := 3) (Or.inr (Or.inr (Or.inl rfl))) (sim_fr h r1 r2 r3 (r5 (by decide)))
  · refine w_X11_clear_5 (d := d) hs ⟨fun q => absurd q (by decide), fun _ => ⟨fun q => absurd q (by decide), fun _ => ?_, fun q => absurd q (by decide), fun q => absurd q (by decide), fun q => absurd q (by decide), fun q => absurd q (by decide)⟩⟩
    refine ⟨_, rfl, w_X12_clear_0 (d := d + 2) hs ?_⟩
    rw [hf_mix_upc (by decide), hf_mix_upc (by decide)]
    refine hm L _ 0 0 _ (w_X12_clear_5 (d := d + 1) hs ⟨fun q => absurd q (by decide), fun _ => ⟨hf_vin (by decide), hf_vin (by decide), rfl, ?_⟩⟩)
    exact sim_no (q := 3) (q2 := 5) (Or.inr (Or.inr (Or.inr (Or.inl rfl)))) (sim_fr h r1 r2 r3 (r5 (by decide)))

end OPS
