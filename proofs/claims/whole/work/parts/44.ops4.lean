section OPS
variable {SL : Nat → hf_T → hf_P → (Nat → Nat → Int32) → Int32 → (Nat → Int32) → (Nat → Int32) → (Nat → Int32) → Prop} {CC : Int32 → Int32 → Int32 → Int32 → Int32 → Int32 → (Nat → Int32) → (Nat → Int32) → Int32 → (Nat → Int32) → (Nat → Int32) → (Nat → Int32) → (Nat → Int32) → (Nat → Int32) → (Nat → Int32) → (Nat → Int32) → (Nat → Nat → Int32) → hf_P → Int64 → Int64 → Int32 → Int32 → Prop}
variable {X : hf_X} {d N t : Nat} {T : hf_T} {I I2 : hf_I} {L : hf_L} {P : hf_P}

theorem hf_lt6 {c b : Nat} (hb : b < 2 ^ 31) (h : nI c < nI b) (hc : c < 2 ^ 31) : c < b := (nI_ltI hc hb).mp h
theorem hf_nlt6 {c b : Nat} (hb : b < 2 ^ 31) (h : ¬ nI c < nI b) (hc : c < 2 ^ 31) : b ≤ c := by
  rcases Nat.lt_or_ge c b with q | q
  · exact absurd ((nI_ltI hc hb).mpr q) h
  · exact q
section MS
variable {k n : Nat} {Q : Option Value → hf_M → Prop}
theorem ms_say {a : Int32} {c : Nat} (hs : hf_Lay t T P) (c1 : ¬ a < 0) (c2 : ¬ 7 < a) (hc : c < 6) (g3 : I 158 317 = nI c) (h : Q (some (.int (nI (c + 1)))) (t, T, (hf_up (hf_up (hf_up I 158 (269 + c) a) 158 317 (nI (c + 1))) 156 0 0), L, P)) : hf_G X Y_X12_say (d + 1) k n 0 (hf_en [.ref 156, .int a] 3) [] (t, T, I, L, P) Q := by
  have e1 : (269 : Int32) + nI c = nI (269 + c) := by rw [show (269 : Int32) = nI 269 from rfl, nI_add]
  refine w_X12_say_0 hs ⟨fun q => absurd q c1, fun _ => ⟨fun q => absurd q c2, fun _ => ?_⟩⟩
  rw [g3, e1, nI_clamp (show 269 + c < 2 ^ 31 by omega)]
  have e2 : hf_up I 158 (269 + c) a 158 317 = nI c := by
    show upd (I 158) (269 + c) a 317 = nI c
    rw [hf_upd_ne (by omega), g3]
  rw [e2, nI_1]
  exact ⟨fun _ => ⟨vp_in_nI (by omega) (by omega), h⟩, fun q => absurd ((nI_eq (b := 6) (by omega) (by omega)).mp q) (by omega)⟩
theorem ms_say5 {a : Int32} (hs : hf_Lay t T P) (c1 : ¬ a < 0) (c2 : ¬ 7 < a) (g3 : I 158 317 = 6) (h : Q (some (.int (-5))) (t, T, (hf_up (hf_up I 156 0 (-5)) 157 5 ((I 157 5) + 1)), L, P)) : hf_G X Y_X12_say (d + 1) k n 0 (hf_en [.ref 156, .int a] 3) [] (t, T, I, L, P) Q :=
  w_X12_say_0 hs ⟨fun q => absurd q c1, fun _ => ⟨fun q => absurd q c2, fun _ => ⟨fun q => absurd g3 q, fun _ => h⟩⟩⟩
end MS

set_option maxHeartbeats 1000000 in
theorem op_say {a : Int32} (hN : N ≤ 100000) (h : hf_Sim SL CC N t T I L P) : hf_Pair X Y_X11_say Y_X12_say [.int a] (d + 2) 0 0 (t, T, I, L, P) (hf_SimM SL CC (N + 1)) := by
  have hs := h.1
  obtain ⟨m1, m2, m3, m4, m5, m6, m7, m8, m9, m10⟩ := h.2.1
  obtain ⟨u1, u2, u3, u4, u5, u6, u7⟩ := h.2.2.1
  obtain ⟨c, g1, g2, g3, g4⟩ := m5
  refine w_X11_say_0 hs ⟨fun c1 => ?_, fun c1 => ⟨fun c2 => ?_, fun c2 => ⟨fun c3 => ?_, fun c3 => ?_⟩⟩⟩
  iterate 2
    · refine ⟨_, rfl, w_X12_say_0 (d := d + 1) hs ⟨fun q1 => ?_, fun q1 => ⟨fun q2 => ?_, fun q2 => ⟨fun q3 => ?_, fun q3 => ?_⟩⟩⟩⟩ <;> first | contradiction | exact ⟨rfl, sim_refuse (Or.inl rfl) h⟩
  · rw [g2] at c3
    have hc6 : c < 6 := hf_lt6 (b := 6) (by omega) c3 (by omega)
    rw [g2, nI_clamp (show c < 2 ^ 31 by omega), nI_1]
    refine ⟨vp_in_nI (by omega) (by omega), _, rfl, ms_say (d := d + 1) hs c1 c2 hc6 g3 ⟨rfl, ?_⟩⟩
    have hk : ∀ i, ¬ (i = 269 + c ∨ i = 317) → upd (upd (I 158) (269 + c) a) 317 (nI (c + 1)) i = I 158 i := fun i hi => by rw [hf_upd_ne (by omega), hf_upd_ne (by omega)]
    refine sim_mk hN h ⟨S_br_fr (fun i _ _ => hk i (by omega)) m1, S_wo_fr (fun i _ _ => hk i (by omega)) m2, S_tm_fr (fun i _ _ => hk i (by omega)) m3, S_wd_fr (fun i _ _ => hk i (by omega)) (hk 316 (by omega)) m4, ⟨c + 1, by omega, rfl, rfl, fun j hj => ?_⟩, S_nx_fr (fun i _ _ => hk i (by omega)) m6, S_h1_fr (fun i _ => hk i (by omega)) m7, S_se_fr (fun i _ _ => hk i (by omega)) (hk 318 (by omega)) m8, S_ma_fr (fun i _ _ => hk i (by omega)) (hk 319 (by omega)) m9, S_lf_fr (fun i _ _ => hk i (by omega)) m10⟩ ⟨u1, u2, u3, u4, rfl, u6, u7⟩ rfl rfl (fun a => by dsimp only; repeat rw [hf_upJ (by omega)]) rfl (fun i => hk (322 + i) (by omega)) rfl rfl
    show upd (I 112) c a j = upd (upd (I 158) (269 + c) a) 317 (nI (c + 1)) (269 + j) ∧ 0 ≤ upd (I 112) c a j ∧ upd (I 112) c a j ≤ 7
    by_cases e : j = c
    · subst e
      rw [hf_upd_eq, hf_upd_ne (by omega), hf_upd_eq]
      exact ⟨rfl, Int32.not_lt.mp c1, Int32.not_lt.mp c2⟩
    · rw [hf_upd_ne e, hk _ (by omega)]
      exact g4 j (by omega)
  · rw [g2] at c3
    have hc6 : 6 ≤ c := hf_nlt6 (b := 6) (by omega) c3 (by omega)
    have e6 : c = 6 := by omega
    subst e6
    exact ⟨_, rfl, ms_say5 (d := d + 1) hs c1 c2 g3 ⟨rfl, sim_refuse (Or.inr (Or.inr (Or.inr (Or.inl rfl)))) h⟩⟩

section MS
variable {k n : Nat} {Q : Option Value → hf_M → Prop}
theorem ms_seen {a b : Int32} {c : Nat} (hs : hf_Lay t T P) (c1 : ¬ a < 0) (c2 : ¬ 3 < a) (c3 : ¬ b < 0) (c4 : ¬ 999 < b) (hc : c < 4) (g3 : I 158 318 = nI c) (h : Q (some (.int (nI (c + 1)))) (t, T, (hf_up (hf_up (hf_up (hf_up I 158 (279 + 2 * c) a) 158 (279 + 2 * c + 1) b) 158 318 (nI (c + 1))) 156 0 0), L, P)) : hf_G X Y_X12_seen (d + 1) k n 0 (hf_en [.ref 156, .int a, .int b] 4) [] (t, T, I, L, P) Q := by
  have e1 : (279 : Int32) + (2 * nI c) = nI (279 + 2 * c) := by rw [show (279 : Int32) = nI 279 from rfl, show (2 : Int32) = nI 2 from rfl, pk_mul, nI_add]
  refine w_X12_seen_0 hs ⟨fun q => absurd q c1, fun _ => ⟨fun q => absurd q c2, fun _ => ⟨fun q => absurd q c3, fun _ => ⟨fun q => absurd q c4, fun _ => ?_⟩⟩⟩⟩
  rw [g3, e1, nI_1, nI_1, nI_clamp (show 279 + 2 * c < 2 ^ 31 by omega), nI_clamp (show 279 + 2 * c + 1 < 2 ^ 31 by omega)]
  have e2 : hf_up (hf_up I 158 (279 + 2 * c) a) 158 (279 + 2 * c + 1) b 158 318 = nI c := by
    show upd (upd (I 158) (279 + 2 * c) a) (279 + 2 * c + 1) b 318 = nI c
    rw [hf_upd_ne (by omega), hf_upd_ne (by omega), g3]
  rw [e2, nI_1]
  exact ⟨fun _ => ⟨vp_in_nI (by omega) (by omega), vp_in_nI (by omega) (by omega), h⟩, fun q => absurd ((nI_eq (b := 4) (by omega) (by omega)).mp q) (by omega)⟩
theorem ms_seen5 {a b : Int32} (hs : hf_Lay t T P) (c1 : ¬ a < 0) (c2 : ¬ 3 < a) (c3 : ¬ b < 0) (c4 : ¬ 999 < b) (g3 : I 158 318 = 4) (h : Q (some (.int (-5))) (t, T, (hf_up (hf_up I 156 0 (-5)) 157 5 ((I 157 5) + 1)), L, P)) : hf_G X Y_X12_seen (d + 1) k n 0 (hf_en [.ref 156, .int a, .int b] 4) [] (t, T, I, L, P) Q :=
  w_X12_seen_0 hs ⟨fun q => absurd q c1, fun _ => ⟨fun q => absurd q c2, fun _ => ⟨fun q => absurd q c3, fun _ => ⟨fun q => absurd q c4, fun _ => ⟨fun q => absurd g3 q, fun _ => h⟩⟩⟩⟩⟩
theorem ms_matter {a b e : Int32} {c : Nat} (hs : hf_Lay t T P) (c1 : ¬ a < 1) (c2 : ¬ 99 < a) (c3 : ¬ b < 0) (c4 : ¬ 999 < b) (c5 : ¬ e < 1) (c6 : ¬ 99 < e) (hc : c < 8) (g3 : I 158 319 = nI c) (h : Q (some (.int (nI c))) (t, T, (hf_up (hf_up (hf_up (hf_up (hf_up I 158 (287 + 3 * c) a) 158 (287 + 3 * c + 1) b) 158 (287 + 3 * c + 2) e) 158 319 (nI (c + 1))) 156 0 0), L, P)) : hf_G X Y_X12_matter (d + 1) k n 0 (hf_en [.ref 156, .int a, .int b, .int e] 5) [] (t, T, I, L, P) Q := by
  have e1 : (287 : Int32) + (3 * nI c) = nI (287 + 3 * c) := by rw [show (287 : Int32) = nI 287 from rfl, show (3 : Int32) = nI 3 from rfl, pk_mul, nI_add]
  have e3 : nI (287 + 3 * c) + 2 = nI (287 + 3 * c + 2) := by rw [show (2 : Int32) = nI 2 from rfl, nI_add]
  refine w_X12_matter_0 hs ⟨fun q => absurd q c1, fun _ => ⟨fun q => absurd q c2, fun _ => ⟨fun q => absurd q c3, fun _ => ⟨fun q => absurd q c4, fun _ => ⟨fun q => absurd q c5, fun _ => ⟨fun q => absurd q c6, fun _ => ?_⟩⟩⟩⟩⟩⟩
  rw [g3, e1, nI_1, e3, nI_clamp (show 287 + 3 * c < 2 ^ 31 by omega), nI_clamp (show 287 + 3 * c + 1 < 2 ^ 31 by omega), nI_clamp (show 287 + 3 * c + 2 < 2 ^ 31 by omega)]
  have e2 : hf_up (hf_up (hf_up I 158 (287 + 3 * c) a) 158 (287 + 3 * c + 1) b) 158 (287 + 3 * c + 2) e 158 319 = nI c := by
    show upd (upd (upd (I 158) (287 + 3 * c) a) (287 + 3 * c + 1) b) (287 + 3 * c + 2) e 319 = nI c
    rw [hf_upd_ne (by omega), hf_upd_ne (by omega), hf_upd_ne (by omega), g3]
  rw [e2, nI_1]
  exact ⟨fun _ => ⟨vp_in_nI (by omega) (by omega), vp_in_nI (by omega) (by omega), vp_in_nI (by omega) (by omega), h⟩, fun q => absurd ((nI_eq (b := 8) (by omega) (by omega)).mp q) (by omega)⟩
theorem ms_matter5 {a b e : Int32} (hs : hf_Lay t T P) (c1 : ¬ a < 1) (c2 : ¬ 99 < a) (c3 : ¬ b < 0) (c4 : ¬ 999 < b) (c5 : ¬ e < 1) (c6 : ¬ 99 < e) (g3 : I 158 319 = 8) (h : Q (some (.int (-5))) (t, T, (hf_up (hf_up I 156 0 (-5)) 157 5 ((I 157 5) + 1)), L, P)) : hf_G X Y_X12_matter (d + 1) k n 0 (hf_en [.ref 156, .int a, .int b, .int e] 5) [] (t, T, I, L, P) Q :=
  w_X12_matter_0 hs ⟨fun q => absurd q c1, fun _ => ⟨fun q => absurd q c2, fun _ => ⟨fun q => absurd q c3, fun _ => ⟨fun q => absurd q c4, fun _ => ⟨fun q => absurd q c5, fun _ => ⟨fun q => absurd q c6, fun _ => ⟨fun q => absurd g3 q, fun _ => h⟩⟩⟩⟩⟩⟩⟩
end MS

set_option maxHeartbeats 1000000 in
theorem op_seen {a b : Int32} (hN : N ≤ 100000) (h : hf_Sim SL CC N t T I L P) : hf_Pair X Y_X11_seen Y_X12_seen [.int a, .int b] (d + 2) 0 0 (t, T, I, L, P) (hf_SimM SL CC (N + 1)) := by
  have hs := h.1
  obtain ⟨m1, m2, m3, m4, m5, m6, m7, m8, m9, m10⟩ := h.2.1
  obtain ⟨u1, u2, u3, u4, u5, u6, u7⟩ := h.2.2.1
  obtain ⟨c, g1, g2, g3, g4⟩ := m8
  refine w_X11_seen_0 hs ⟨fun c1 => ?_, fun c1 => ⟨fun c2 => ?_, fun c2 => ⟨fun c3 => ?_, fun c3 => ⟨fun c4 => ?_, fun c4 => ⟨fun c5 => ?_, fun c5 => ?_⟩⟩⟩⟩⟩
  iterate 4
    · refine ⟨_, rfl, w_X12_seen_0 (d := d + 1) hs ⟨fun q1 => ?_, fun q1 => ⟨fun q2 => ?_, fun q2 => ⟨fun q3 => ?_, fun q3 => ⟨fun q4 => ?_, fun q4 => ⟨fun q5 => ?_, fun q5 => ?_⟩⟩⟩⟩⟩⟩ <;> first | contradiction | exact ⟨rfl, sim_refuse (Or.inl rfl) h⟩
  · rw [g2] at c5
    have hc4 : c < 4 := hf_lt6 (b := 4) (by omega) c5 (by omega)
    have e2 : (2 : Int32) * nI c = nI (2 * c) := by rw [show (2 : Int32) = nI 2 from rfl, pk_mul]
    rw [g2, e2, nI_1, nI_1, nI_clamp (show 2 * c < 2 ^ 31 by omega), nI_clamp (show 2 * c + 1 < 2 ^ 31 by omega)]
    refine ⟨vp_in_nI (by omega) (by omega), vp_in_nI (by omega) (by omega), _, rfl, ms_seen (d := d + 1) hs c1 c2 c3 c4 hc4 g3 ⟨rfl, ?_⟩⟩
    have hk : ∀ i, ¬ (i = 279 + 2 * c ∨ i = 279 + 2 * c + 1 ∨ i = 318) → upd (upd (upd (I 158) (279 + 2 * c) a) (279 + 2 * c + 1) b) 318 (nI (c + 1)) i = I 158 i := fun i hi => by rw [hf_upd_ne (by omega), hf_upd_ne (by omega), hf_upd_ne (by omega)]
    refine sim_mk hN h ⟨S_br_fr (fun i _ _ => hk i (by omega)) m1, S_wo_fr (fun i _ _ => hk i (by omega)) m2, S_tm_fr (fun i _ _ => hk i (by omega)) m3, S_wd_fr (fun i _ _ => hk i (by omega)) (hk 316 (by omega)) m4, S_sy_fr (fun i _ _ => hk i (by omega)) (hk 317 (by omega)) m5, S_nx_fr (fun i _ _ => hk i (by omega)) m6, S_h1_fr (fun i _ => hk i (by omega)) m7, ⟨c + 1, by omega, rfl, rfl, fun j hj => ?_⟩, S_ma_fr (fun i _ _ => hk i (by omega)) (hk 319 (by omega)) m9, S_lf_fr (fun i _ _ => hk i (by omega)) m10⟩ ⟨u1, u2, u3, u4, rfl, u6, u7⟩ rfl rfl (fun a => by dsimp only; repeat rw [hf_upJ (by omega)]) rfl (fun i => hk (322 + i) (by omega)) rfl rfl
    show (upd (upd (I 117) (2 * c) a) (2 * c + 1) b (2 * j) = upd (upd (upd (I 158) (279 + 2 * c) a) (279 + 2 * c + 1) b) 318 (nI (c + 1)) (279 + 2 * j) ∧ 0 ≤ upd (upd (I 117) (2 * c) a) (2 * c + 1) b (2 * j) ∧ upd (upd (I 117) (2 * c) a) (2 * c + 1) b (2 * j) ≤ 3) ∧ (upd (upd (I 117) (2 * c) a) (2 * c + 1) b (2 * j + 1) = upd (upd (upd (I 158) (279 + 2 * c) a) (279 + 2 * c + 1) b) 318 (nI (c + 1)) (279 + 2 * j + 1) ∧ 0 ≤ upd (upd (I 117) (2 * c) a) (2 * c + 1) b (2 * j + 1) ∧ upd (upd (I 117) (2 * c) a) (2 * c + 1) b (2 * j + 1) ≤ 999)
    by_cases e : j = c
    · subst e
      rw [hf_upd_ne (show ¬ 2 * j = 2 * j + 1 by omega), hf_upd_eq, hf_upd_eq, hf_upd_ne (show ¬ 279 + 2 * j = 318 by omega), hf_upd_ne (show ¬ 279 + 2 * j = 279 + 2 * j + 1 by omega), hf_upd_eq, hf_upd_ne (show ¬ 279 + 2 * j + 1 = 318 by omega), hf_upd_eq]
      exact ⟨⟨rfl, Int32.not_lt.mp c1, Int32.not_lt.mp c2⟩, rfl, Int32.not_lt.mp c3, Int32.not_lt.mp c4⟩
    · rw [hf_upd_ne (show ¬ 2 * j = 2 * c + 1 by omega), hf_upd_ne (show ¬ 2 * j = 2 * c by omega), hf_upd_ne (show ¬ 2 * j + 1 = 2 * c + 1 by omega), hf_upd_ne (show ¬ 2 * j + 1 = 2 * c by omega), hk (279 + 2 * j) (by omega), hk (279 + 2 * j + 1) (by omega)]
      exact g4 j (by omega)
  · rw [g2] at c5
    have hc4 : 4 ≤ c := hf_nlt6 (b := 4) (by omega) c5 (by omega)
    have e6 : c = 4 := by omega
    subst e6
    exact ⟨_, rfl, ms_seen5 (d := d + 1) hs c1 c2 c3 c4 g3 ⟨rfl, sim_refuse (Or.inr (Or.inr (Or.inr (Or.inl rfl)))) h⟩⟩

set_option maxHeartbeats 1000000 in
theorem op_matter {a b e : Int32} (hN : N ≤ 100000) (h : hf_Sim SL CC N t T I L P) : hf_Pair X Y_X11_matter Y_X12_matter [.int a, .int b, .int e] (d + 2) 0 0 (t, T, I, L, P) (hf_SimM SL CC (N + 1)) := by
  have hs := h.1
  obtain ⟨m1, m2, m3, m4, m5, m6, m7, m8, m9, m10⟩ := h.2.1
  obtain ⟨u1, u2, u3, u4, u5, u6, u7⟩ := h.2.2.1
  obtain ⟨c, g1, g2, g3, g4⟩ := m9
  refine w_X11_matter_0 hs ⟨fun c1 => ?_, fun c1 => ⟨fun c2 => ?_, fun c2 => ⟨fun c3 => ?_, fun c3 => ⟨fun c4 => ?_, fun c4 => ⟨fun c5 => ?_, fun c5 => ⟨fun c6 => ?_, fun c6 => ⟨fun c7 => ?_, fun c7 => ?_⟩⟩⟩⟩⟩⟩⟩
  iterate 6
    · refine ⟨_, rfl, w_X12_matter_0 (d := d + 1) hs ⟨fun q1 => ?_, fun q1 => ⟨fun q2 => ?_, fun q2 => ⟨fun q3 => ?_, fun q3 => ⟨fun q4 => ?_, fun q4 => ⟨fun q5 => ?_, fun q5 => ⟨fun q6 => ?_, fun q6 => ⟨fun q7 => ?_, fun q7 => ?_⟩⟩⟩⟩⟩⟩⟩⟩ <;> first | contradiction | exact ⟨rfl, sim_refuse (Or.inl rfl) h⟩
  · rw [g2] at c7
    have hc8 : c < 8 := hf_lt6 (b := 8) (by omega) c7 (by omega)
    rw [g2, nI_1, nI_clamp (show c < 2 ^ 31 by omega)]
    refine ⟨vp_in_nI (by omega) (by omega), vp_in_nI (by omega) (by omega), vp_in_nI (by omega) (by omega), _, rfl, ms_matter (d := d + 1) hs c1 c2 c3 c4 c5 c6 hc8 g3 ⟨rfl, ?_⟩⟩
    have hk : ∀ i, ¬ (i = 287 + 3 * c ∨ i = 287 + 3 * c + 1 ∨ i = 287 + 3 * c + 2 ∨ i = 319) → upd (upd (upd (upd (I 158) (287 + 3 * c) a) (287 + 3 * c + 1) b) (287 + 3 * c + 2) e) 319 (nI (c + 1)) i = I 158 i := fun i hi => by rw [hf_upd_ne (by omega), hf_upd_ne (by omega), hf_upd_ne (by omega), hf_upd_ne (by omega)]
    refine sim_mk hN h ⟨S_br_fr (fun i _ _ => hk i (by omega)) m1, S_wo_fr (fun i _ _ => hk i (by omega)) m2, S_tm_fr (fun i _ _ => hk i (by omega)) m3, S_wd_fr (fun i _ _ => hk i (by omega)) (hk 316 (by omega)) m4, S_sy_fr (fun i _ _ => hk i (by omega)) (hk 317 (by omega)) m5, S_nx_fr (fun i _ _ => hk i (by omega)) m6, S_h1_fr (fun i _ => hk i (by omega)) m7, S_se_fr (fun i _ _ => hk i (by omega)) (hk 318 (by omega)) m8, ⟨c + 1, by omega, rfl, rfl, fun j hj => ?_⟩, S_lf_fr (fun i _ _ => hk i (by omega)) m10⟩ ⟨u1, u2, u3, u4, rfl, u6, u7⟩ rfl rfl (fun a => by dsimp only; repeat rw [hf_upJ (by omega)]) rfl (fun i => hk (322 + i) (by omega)) rfl rfl
    show (upd (I 118) c a j = upd (upd (upd (upd (I 158) (287 + 3 * c) a) (287 + 3 * c + 1) b) (287 + 3 * c + 2) e) 319 (nI (c + 1)) (287 + 3 * j) ∧ 1 ≤ upd (I 118) c a j ∧ upd (I 118) c a j ≤ 99) ∧ (upd (I 119) c b j = upd (upd (upd (upd (I 158) (287 + 3 * c) a) (287 + 3 * c + 1) b) (287 + 3 * c + 2) e) 319 (nI (c + 1)) (287 + 3 * j + 1) ∧ 0 ≤ upd (I 119) c b j ∧ upd (I 119) c b j ≤ 999) ∧ (upd (I 120) c e j = upd (upd (upd (upd (I 158) (287 + 3 * c) a) (287 + 3 * c + 1) b) (287 + 3 * c + 2) e) 319 (nI (c + 1)) (287 + 3 * j + 2) ∧ 1 ≤ upd (I 120) c e j ∧ upd (I 120) c e j ≤ 99)
    by_cases ej : j = c
    · subst ej
      rw [hf_upd_eq, hf_upd_eq, hf_upd_eq, hf_upd_ne (show ¬ 287 + 3 * j = 319 by omega), hf_upd_ne (show ¬ 287 + 3 * j = 287 + 3 * j + 2 by omega), hf_upd_ne (show ¬ 287 + 3 * j = 287 + 3 * j + 1 by omega), hf_upd_eq, hf_upd_ne (show ¬ 287 + 3 * j + 1 = 319 by omega), hf_upd_ne (show ¬ 287 + 3 * j + 1 = 287 + 3 * j + 2 by omega), hf_upd_eq, hf_upd_ne (show ¬ 287 + 3 * j + 2 = 319 by omega), hf_upd_eq]
      exact ⟨⟨rfl, Int32.not_lt.mp c1, Int32.not_lt.mp c2⟩, ⟨rfl, Int32.not_lt.mp c3, Int32.not_lt.mp c4⟩, rfl, Int32.not_lt.mp c5, Int32.not_lt.mp c6⟩
    · rw [hf_upd_ne ej, hf_upd_ne ej, hf_upd_ne ej, hk (287 + 3 * j) (by omega), hk (287 + 3 * j + 1) (by omega), hk (287 + 3 * j + 2) (by omega)]
      exact g4 j (by omega)
  · rw [g2] at c7
    have hc8 : 8 ≤ c := hf_nlt6 (b := 8) (by omega) c7 (by omega)
    have e6 : c = 8 := by omega
    subst e6
    exact ⟨_, rfl, ms_matter5 (d := d + 1) hs c1 c2 c3 c4 c5 c6 g3 ⟨rfl, sim_refuse (Or.inr (Or.inr (Or.inr (Or.inl rfl)))) h⟩⟩

end OPS
