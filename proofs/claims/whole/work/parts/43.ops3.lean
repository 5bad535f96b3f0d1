section OPS
variable {SL : Nat → hf_T → hf_P → (Nat → Nat → Int32) → Int32 → (Nat → Int32) → (Nat → Int32) → (Nat → Int32) → Prop} {CC : Int32 → Int32 → Int32 → Int32 → Int32 → Int32 → (Nat → Int32) → (Nat → Int32) → Int32 → (Nat → Int32) → (Nat → Int32) → (Nat → Int32) → (Nat → Int32) → (Nat → Int32) → (Nat → Int32) → (Nat → Int32) → (Nat → Nat → Int32) → hf_P → Int64 → Int64 → Int32 → Int32 → Prop}
variable {X : hf_X} {d N t : Nat} {T : hf_T} {I I2 : hf_I} {L : hf_L} {P : hf_P}

set_option maxHeartbeats 1000000 in
theorem op_terms {a b : Int32} (hN : N ≤ 100000) (h : hf_Sim SL CC N t T I L P) : hf_Pair X Y_X11_terms Y_X12_terms [.int a, .int b] (d + 2) 0 0 (t, T, I, L, P) (hf_SimM SL CC (N + 1)) := by
  have hs := h.1
  have fin : ∀ (j : Nat) (hj : j ≤ 1) (c3 : ¬ b < 0) (c4 : ¬ (if j = 0 then (999 : Int32) else 9) < b), hf_SimM SL CC (N + 1) (t, T, (hf_up (hf_up (hf_up (hf_up (hf_up I 104 j b) 100 15 0) 100 16 (I 100 16 + 1)) 158 (311 + j) b) 156 0 0), L, P) := by
    intro j hj c3 c4
    obtain ⟨m1, m2, m3, m4, m5, m6, m7, m8, m9, m10⟩ := h.2.1
    obtain ⟨u1, u2, u3, u4, u5, u6, u7⟩ := h.2.2.1
    have hk : ∀ i, ¬ i = 311 + j → upd (I 158) (311 + j) b i = I 158 i := fun i hi => hf_upd_ne hi
    refine sim_mk hN h ⟨S_br_fr (fun i _ _ => hk i (by omega)) m1, S_wo_fr (fun i _ _ => hk i (by omega)) m2, ?_, S_wd_fr (fun i _ _ => hk i (by omega)) (hk 316 (by omega)) m4, S_sy_fr (fun i _ _ => hk i (by omega)) (hk 317 (by omega)) m5, S_nx_fr (fun i _ _ => hk i (by omega)) m6, S_h1_fr (fun i _ => hk i (by omega)) m7, S_se_fr (fun i _ _ => hk i (by omega)) (hk 318 (by omega)) m8, S_ma_fr (fun i _ _ => hk i (by omega)) (hk 319 (by omega)) m9, S_lf_fr (fun i _ _ => hk i (by omega)) m10⟩ ⟨u1, u2, u3, u4, rfl, u6, u7⟩ rfl rfl (fun a => by dsimp only; repeat rw [hf_upJ (by omega)]) rfl (fun i => hk (322 + i) (by omega)) rfl rfl
    show S_tm (upd (I 104) j b) (I 101) (upd (I 158) (311 + j) b)
    obtain ⟨g1, g2, g3, g4, g5⟩ := m3
    unfold S_tm
    rw [hk 313 (by omega), hk 314 (by omega), hk 315 (by omega)]
    obtain rfl | rfl : j = 0 ∨ j = 1 := by omega
    · rw [hf_upd_eq, hf_upd_eq, hf_upd_ne (by omega), hk 312 (by omega)]
      exact ⟨⟨rfl, Int32.not_lt.mp c3, Int32.not_lt.mp c4⟩, g2, g3, g4, g5⟩
    · rw [hf_upd_eq, hf_upd_eq, hf_upd_ne (by omega), hk 311 (by omega)]
      exact ⟨g1, ⟨rfl, Int32.not_lt.mp c3, Int32.not_lt.mp c4⟩, g3, g4, g5⟩
  obtain ⟨m1, m2, m3, m4, m5, m6, m7, m8, m9, m10⟩ := h.2.1
  obtain ⟨u1, u2, u3, u4, u5, u6, u7⟩ := h.2.2.1
  have e0 : (311 : Int32) + nI 0 = nI 311 := rfl
  have e1 : (311 : Int32) + nI 1 = nI 312 := rfl
  refine w_X11_terms_0 hs ⟨fun c1 => ?_, fun c1 => ⟨fun c2 => ?_, fun c2 => ⟨fun c0 => ⟨fun c3 => ?_, fun c3 => ⟨fun c4 => ?_, fun c4 => ?_⟩⟩, fun c0 => ⟨fun c3 => ?_, fun c3 => ⟨fun c4 => ?_, fun c4 => ?_⟩⟩⟩⟩⟩
  iterate 4
    · refine ⟨_, rfl, w_X12_terms_0 (d := d + 1) hs ⟨fun q1 => ?_, fun q1 => ⟨fun q2 => ?_, fun q2 => ⟨fun q0 => ⟨fun q3 => ?_, fun q3 => ⟨fun q4 => ?_, fun q4 => ?_⟩⟩, fun q0 => ⟨fun q3 => ?_, fun q3 => ⟨fun q4 => ?_, fun q4 => ?_⟩⟩⟩⟩⟩⟩ <;> first | contradiction | exact ⟨rfl, sim_refuse (Or.inl rfl) h⟩
  · obtain ⟨j, hj, rfl⟩ := hf_rng (M := 1) (b := 1) (by decide) c1 c2
    have ej : j = 1 := by
      rcases Nat.lt_or_ge j 1 with q | q
      · exact absurd (by rw [show j = 0 by omega]; rfl) c0
      · omega
    subst ej
    refine ⟨vp_in_nI (by omega) (by omega), vp_in_nI (by omega) (by omega), _, rfl, w_X12_terms_0 (d := d + 1) hs ⟨fun q => absurd q c1, fun _ => ⟨fun q => absurd q c2, fun _ => ⟨fun _ => ⟨fun q => absurd q c3, fun _ => ⟨fun q => absurd q c4, fun _ => ?_⟩⟩, fun q => absurd q c0⟩⟩⟩⟩
    rw [e1]
    refine ⟨vp_in_nI (by omega) (by omega), vp_in_nI (by omega) (by omega), ?_, fin 1 (by omega) c3 c4⟩
    show some (Value.int (I 158 312)) = some (Value.int (I 104 1))
    rw [m3.2.1.1]
  iterate 2
    · refine ⟨_, rfl, w_X12_terms_0 (d := d + 1) hs ⟨fun q1 => ?_, fun q1 => ⟨fun q2 => ?_, fun q2 => ⟨fun q0 => ⟨fun q3 => ?_, fun q3 => ⟨fun q4 => ?_, fun q4 => ?_⟩⟩, fun q0 => ⟨fun q3 => ?_, fun q3 => ⟨fun q4 => ?_, fun q4 => ?_⟩⟩⟩⟩⟩⟩ <;> first | contradiction | exact ⟨rfl, sim_refuse (Or.inl rfl) h⟩
  · subst c0
    refine ⟨hf_vin (by decide), hf_vin (by decide), _, rfl, w_X12_terms_0 (d := d + 1) hs ⟨fun q => absurd q c1, fun _ => ⟨fun q => absurd q c2, fun _ => ⟨fun q => absurd rfl q, fun _ => ⟨fun q => absurd q c3, fun _ => ⟨fun q => absurd q c4, fun _ => ?_⟩⟩⟩⟩⟩⟩
    refine ⟨hf_vin (by decide), hf_vin (by decide), ?_, fin 0 (by omega) c3 c4⟩
    show some (Value.int (I 158 311)) = some (Value.int (I 104 0))
    rw [m3.1.1]

end OPS
