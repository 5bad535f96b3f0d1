section OPS
variable {SL : Nat → hf_T → hf_P → (Nat → Nat → Int32) → Int32 → (Nat → Int32) → (Nat → Int32) → (Nat → Int32) → Prop} {CC : Int32 → Int32 → Int32 → Int32 → Int32 → Int32 → (Nat → Int32) → (Nat → Int32) → Int32 → (Nat → Int32) → (Nat → Int32) → (Nat → Int32) → (Nat → Int32) → (Nat → Int32) → (Nat → Int32) → (Nat → Int32) → (Nat → Nat → Int32) → hf_P → Int64 → Int64 → Int32 → Int32 → Prop}
variable {X : hf_X} {d N t : Nat} {T : hf_T} {I I2 : hf_I} {L : hf_L} {P : hf_P}

theorem hf_pred_lt {c : Nat} {x : Int32} (hc : c < 2 ^ 31) (h0 : ¬ x < 0) : (nI c - 1 < x) ↔ nI c ≤ x := by
  obtain ⟨i, hi, rfl⟩ := nI_of h0
  cases c with
  | zero =>
    constructor
    · intro _; exact nI_pos' hi
    · intro _; exact Int32.lt_of_lt_of_le (by decide) (nI_pos' hi)
  | succ v =>
    rw [nI_pred, nI_ltI (by omega) hi, nI_leI hc hi]
    omega
theorem hf_pred_m1 {c : Nat} (hc : c < 2 ^ 31) : ¬ (nI c - 1 < -1) := by
  cases c with
  | zero => decide
  | succ v =>
    rw [nI_pred]
    intro q
    exact absurd (Int32.lt_trans q (show (-1 : Int32) < 0 by decide)) (nI_pos (by omega))
theorem hf_lt_m1 {x : Int32} (h : x < 0) (h1 : ¬ x = -1) : x < -1 := by
  rw [Int32.lt_iff_toInt_lt] at h ⊢
  have e : ¬ x.toInt = (-1 : Int32).toInt := fun q => h1 (Int32.toInt_inj.mp q)
  have e0 : (0 : Int32).toInt = 0 := by decide
  have e1 : (-1 : Int32).toInt = -1 := by decide
  omega
theorem hf_nlt_m1 {x : Int32} (h : ¬ x < 0) : ¬ x < -1 := fun q => h (Int32.lt_trans q (by decide))

set_option maxHeartbeats 1000000 in
theorem op_force {a : Int32} (hN : N ≤ 100000) (h : hf_Sim SL CC N t T I L P) : hf_Pair X Y_X11_force Y_X12_force [.int a] (d + 2) 0 0 (t, T, I, L, P) (hf_SimM SL CC (N + 1)) := by
  have hs := h.1
  obtain ⟨m1, m2, m3, m4, m5, m6, m7, m8, m9, m10⟩ := h.2.1
  obtain ⟨u1, u2, u3, u4, u5, u6, u7⟩ := h.2.2.1
  obtain ⟨c, g1, g2, g3, g4, g5, g6⟩ := id m10
  have fin : ∀ (hb : -1 ≤ a ∧ a < nI c), hf_SimM SL CC (N + 1) (t, T, (hf_up (hf_up (hf_up (hf_up (hf_up I 101 16 a) 100 15 0) 100 16 (I 100 16 + 1)) 158 321 a) 156 0 0), L, P) := by
    intro hb
    have hk : ∀ i, ¬ i = 321 → upd (I 158) 321 a i = I 158 i := fun i hi => hf_upd_ne hi
    exact sim_mk hN h ⟨S_br_fr (fun i _ _ => hk i (by omega)) m1, S_wo_fr (fun i _ _ => hk i (by omega)) m2, S_tm_fr (fun i _ _ => hk i (by omega)) m3, S_wd_fr (fun i _ _ => hk i (by omega)) (hk 316 (by omega)) m4, S_sy_fr (fun i _ _ => hk i (by omega)) (hk 317 (by omega)) m5, S_nx_fr (fun i _ _ => hk i (by omega)) m6, S_h1_fr (fun i _ => hk i (by omega)) m7, S_se_fr (fun i _ _ => hk i (by omega)) (hk 318 (by omega)) m8, S_ma_fr (fun i _ _ => hk i (by omega)) (hk 319 (by omega)) m9, ⟨c, g1, g2, (hk 320 (by omega)).trans g3, rfl, hb⟩⟩ ⟨u1, u2, u3, u4, rfl, u6, u7⟩ rfl rfl (fun a => by dsimp only; repeat rw [hf_upJ (by omega)]) rfl (fun i => hk (322 + i) (by omega)) rfl rfl
  have ans : some (Value.int (I 158 321)) = some (Value.int (I 101 16)) := by rw [g4]
  refine w_X11_force_0 hs ⟨fun c1 => ?_, fun c1 => ⟨fun c2 => ?_, fun c2 => ⟨fun c3 => ?_, fun c3 => ?_⟩⟩⟩
  · subst c1
    refine ⟨_, rfl, w_X12_force_0 (d := d + 1) hs ⟨fun q => absurd q (by decide), fun _ => ⟨fun q => absurd q ?_, fun _ => ⟨ans, fin ⟨by decide, Int32.lt_of_lt_of_le (by decide) (nI_pos' (n := c) (by omega))⟩⟩⟩⟩⟩
    show ¬ (I 158 320 - 1 < -1)
    rw [g3]
    exact hf_pred_m1 (by omega)
  · exact ⟨_, rfl, w_X12_force_0 (d := d + 1) hs ⟨fun _ => ⟨rfl, sim_refuse (Or.inr (Or.inl rfl)) h⟩, fun q => absurd (hf_lt_m1 c2 c1) q⟩⟩
  · refine ⟨_, rfl, w_X12_force_0 (d := d + 1) hs ⟨fun q => absurd q (hf_nlt_m1 c2), fun _ => ⟨fun _ => ⟨rfl, sim_refuse (Or.inr (Or.inl rfl)) h⟩, fun q => absurd ?_ q⟩⟩⟩
    show I 158 320 - 1 < a
    rw [g3, ← g2]
    exact c3
  · refine ⟨_, rfl, w_X12_force_0 (d := d + 1) hs ⟨fun q => absurd q (hf_nlt_m1 c2), fun _ => ⟨fun q => absurd ?_ c3, fun _ => ⟨ans, fin ⟨Int32.le_trans (by decide) (Int32.not_lt.mp c2), ?_⟩⟩⟩⟩⟩
    · rw [g2, ← g3]
      exact q
    · rw [g2, hf_pred_lt (by omega) c2] at c3
      exact Int32.not_le.mp c3

set_option maxHeartbeats 1000000 in
theorem op_head {a b : Int32} (h : hf_Sim SL CC N t T I L P) : hf_Pair X Y_X11_head Y_X12_head [.int a, .int b] (d + 1) 0 0 (t, T, I, L, P) (hf_SimM SL CC (N + 1)) := by
  have hs := h.1
  obtain ⟨m1, m2, m3, m4, m5, m6, m7, m8, m9, m10⟩ := h.2.1
  obtain ⟨u1, u2, u3, u4, u5, u6, u7⟩ := h.2.2.1
  obtain ⟨c, ln, g1, g2, g3, g4, g5, g6, g7⟩ := m7
  have e12 : ∀ j : Nat, ((0 : Int32) + (12 * 0)) + nI j = nI j := fun j => by rw [show ((0 : Int32) + (12 * 0)) = nI 0 from rfl, nI_add, Nat.zero_add]
  have e12b : ∀ j : Nat, ((0 : Int32) + (12 * 1)) + nI j = nI (12 + j) := fun j => by rw [show ((0 : Int32) + (12 * 1)) = nI 12 from rfl, nI_add]
  refine w_X11_head_0 hs ⟨fun c1 => ⟨_, rfl, w_X12_head_0 hs ⟨fun _ => ⟨rfl, sim_same h⟩, fun q => absurd c1 q⟩⟩, fun c1 => ⟨fun c2 => ⟨_, rfl, w_X12_head_0 hs ⟨fun q => absurd q c1, fun _ => ⟨fun _ => ⟨rfl, sim_same h⟩, fun q => absurd (by rw [g4, ← g3]; exact c2) q⟩⟩⟩, fun c2 => ?_⟩⟩
  have c2m : ¬ (I 158 24 - 1 < a) := by rw [g4, ← g3]; exact c2
  rw [g3, hf_pred_lt (by omega) c1] at c2
  obtain ⟨j, hj, rfl⟩ : ∃ j, j < c ∧ a = nI j := by
    rcases pk_ix a (n := c) (by omega) with q | q | q
    · exact absurd q c1
    · exact absurd q c2
    · exact q
  obtain ⟨⟨r1, -, -⟩, qq, -, r2, r3⟩ := g7 j hj
  refine ⟨fun c3 => ⟨fun c4 => ?_, fun c4 => ?_⟩, fun c3 => ?_⟩
  · refine ⟨_, rfl, w_X12_head_0 hs ⟨fun q => absurd q c1, fun _ => ⟨fun q => absurd q c2m, fun _ => ⟨fun _ => ⟨rfl, sim_same h⟩, fun c5 => ⟨fun _ => ⟨rfl, sim_same h⟩, fun c6 => ?_⟩⟩⟩⟩⟩
    obtain ⟨v, hv, rfl⟩ := hf_rng (M := 1) (b := 1) (by decide) c5 c6
    obtain rfl | rfl : v = 0 ∨ v = 1 := by omega
    · exact absurd rfl c3
    · exact absurd rfl c4
  · subst c4
    refine ⟨vp_in_nI (by omega) (by omega), _, rfl, w_X12_head_0 hs ⟨fun q => absurd q c1, fun _ => ⟨fun q => absurd q c2m, fun _ => ⟨fun q => absurd q (by decide), fun _ => ⟨fun q => absurd q (by decide), fun _ => ?_⟩⟩⟩⟩⟩
    rw [e12b, nI_clamp (show 12 + j < 2 ^ 31 by omega), nI_clamp (show j < 2 ^ 31 by omega), r2, r3]
    exact ⟨vp_in_nI (by omega) (by omega), rfl, sim_same h⟩
  · subst c3
    refine ⟨vp_in_nI (by omega) (by omega), _, rfl, w_X12_head_0 hs ⟨fun q => absurd q c1, fun _ => ⟨fun q => absurd q c2m, fun _ => ⟨fun q => absurd q (by decide), fun _ => ⟨fun q => absurd q (by decide), fun _ => ?_⟩⟩⟩⟩⟩
    rw [e12, nI_clamp (show j < 2 ^ 31 by omega), r1]
    exact ⟨vp_in_nI (by omega) (by omega), rfl, sim_same h⟩

section MS
variable {k n : Nat} {Q : Option Value → hf_M → Prop}
theorem cs_size1 (hs : hf_Lay t T P) (h : Q (some (.int (-1))) (t, T, (hf_up (hf_up I 100 15 (-1)) 155 0 ((I 155 0) + 1)), L, P)) : hf_G X Y_X11_size (d + 3) k n 6 [none, none] [.int (-1), .ref 100] (t, T, I, L, P) Q :=
  w_X11_size_6 hs ⟨fun q => absurd q (by decide), fun _ => ⟨fun q => absurd q (by decide), fun q => absurd q (by decide), fun q => absurd q (by decide), fun q => absurd q (by decide), fun q => absurd q (by decide), fun _ => h⟩⟩
theorem cs_size3 (hs : hf_Lay t T P) (h : Q (some (.int (-3))) (t, T, (hf_up (hf_up I 100 15 (-3)) 155 2 ((I 155 2) + 1)), L, P)) : hf_G X Y_X11_size (d + 3) k n 6 [none, none] [.int (-3), .ref 100] (t, T, I, L, P) Q :=
  w_X11_size_6 hs ⟨fun q => absurd q (by decide), fun _ => ⟨fun q => absurd q (by decide), fun q => absurd q (by decide), fun q => absurd q (by decide), fun _ => h, fun q => absurd q (by decide), fun q => absurd q (by decide)⟩⟩
theorem ms_size1 (hs : hf_Lay t T P) (h : Q (some (.int (-1))) (t, T, (hf_up (hf_up I 156 0 (-1)) 157 1 ((I 157 1) + 1)), L, P)) : hf_G X Y_X12_size (d + 2) k n 6 [none, none] [.int (-1), .ref 156] (t, T, I, L, P) Q :=
  w_X12_size_6 hs ⟨fun q => absurd q (by decide), fun _ => ⟨hf_vin (by decide), hf_vin (by decide), h⟩⟩
theorem ms_size3 (hs : hf_Lay t T P) (h : Q (some (.int (-3))) (t, T, (hf_up (hf_up I 156 0 (-3)) 157 3 ((I 157 3) + 1)), L, P)) : hf_G X Y_X12_size (d + 2) k n 6 [none, none] [.int (-3), .ref 156] (t, T, I, L, P) Q :=
  w_X12_size_6 hs ⟨fun q => absurd q (by decide), fun _ => ⟨hf_vin (by decide), hf_vin (by decide), h⟩⟩
end MS

set_option maxHeartbeats 1000000 in
theorem op_size {a : Int32} (hN : N ≤ 100000) (h : hf_Sim SL CC N t T I L P) : hf_Pair X Y_X11_size Y_X12_size [.int a] (d + 3) 0 0 (t, T, I, L, P) (hf_SimM SL CC (N + 1)) := by
  have hs := h.1
  obtain ⟨m1, m2, m3, m4, m5, m6, m7, m8, m9, m10⟩ := h.2.1
  obtain ⟨u1, u2, u3, u4, u5, u6, u7⟩ := h.2.2.1
  obtain ⟨c, ln, g1, g2, g3, g4, g5⟩ := id m7
  have hh : (I 114 2 ≤ 0) ↔ (I 158 24 ≤ 0) := by rw [g3, g4]
  obtain ⟨t1, t2, t3, t4, t5, t6, t7⟩ := id m3
  refine w_X11_size_0 (d := d + 2) hs (w_X11_changeSize_0 (d := d + 1) hs ⟨fun c1 => ?_, fun c1 => ⟨fun c2 => ?_, fun c2 => ⟨fun c3 => ?_, fun c3 => ?_⟩⟩⟩)
  · exact cs_size1 hs ⟨_, rfl, w_X12_size_0 (d := d + 2) hs (w_X12_sizes_0 (d := d + 1) hs ⟨fun _ => ms_size1 (d := d + 1) hs ⟨rfl, sim_refuse (Or.inl rfl) h⟩, fun q => absurd c1 q⟩)⟩
  · exact cs_size1 hs ⟨_, rfl, w_X12_size_0 (d := d + 2) hs (w_X12_sizes_0 (d := d + 1) hs ⟨fun q => absurd q c1, fun _ => ⟨fun _ => ms_size1 (d := d + 1) hs ⟨rfl, sim_refuse (Or.inl rfl) h⟩, fun q => absurd c2 q⟩⟩)⟩
  · refine w_X11_size_6 hs ⟨fun _ => ⟨_, rfl, w_X12_size_0 (d := d + 2) hs (w_X12_sizes_0 (d := d + 1) hs ⟨fun q => absurd q c1, fun _ => ⟨fun q => absurd q c2, fun _ => ⟨fun _ => w_X12_size_6 (d := d + 1) hs ⟨fun _ => ⟨?_, ?_⟩, fun q => absurd ?_ q⟩, fun q => absurd (hh.mp c3) q⟩⟩⟩)⟩, fun q => absurd t6 q⟩
    · show some (Value.int (I 158 315)) = some (Value.int (I 101 14))
      rw [t5]
    · have hk : ∀ i, ¬ i = 315 → upd (I 158) 315 a i = I 158 i := fun i hi => hf_upd_ne hi
      refine sim_mk hN h ⟨S_br_fr (fun i _ _ => hk i (by omega)) m1, S_wo_fr (fun i _ _ => hk i (by omega)) m2, ?_, S_wd_fr (fun i _ _ => hk i (by omega)) (hk 316 (by omega)) m4, S_sy_fr (fun i _ _ => hk i (by omega)) (hk 317 (by omega)) m5, S_nx_fr (fun i _ _ => hk i (by omega)) m6, S_h1_fr (fun i _ => hk i (by omega)) m7, S_se_fr (fun i _ _ => hk i (by omega)) (hk 318 (by omega)) m8, S_ma_fr (fun i _ _ => hk i (by omega)) (hk 319 (by omega)) m9, S_lf_fr (fun i _ _ => hk i (by omega)) m10⟩ ⟨S_ud_0 u1, u2, u3, u4, rfl, u6, u7⟩ rfl rfl (fun a => by dsimp only; repeat rw [hf_upJ (by omega)]) rfl (fun i => hk (322 + i) (by omega)) rfl rfl
      show S_tm (I 104) (upd (I 101) 14 a) (upd (I 158) 315 a)
      unfold S_tm
      rw [hk 311 (by omega), hk 312 (by omega), hk 313 (by omega), hk 314 (by omega)]
      exact ⟨t1, t2, t3, t4, rfl, Int32.not_lt.mp c1, Int32.not_lt.mp c2⟩
    · show 0 ≤ I 158 315
      rw [← t5]
      exact t6
  · exact cs_size3 hs ⟨_, rfl, w_X12_size_0 (d := d + 2) hs (w_X12_sizes_0 (d := d + 1) hs ⟨fun q => absurd q c1, fun _ => ⟨fun q => absurd q c2, fun _ => ⟨fun q => absurd (hh.mpr q) c3, fun _ => ms_size3 (d := d + 1) hs ⟨rfl, sim_refuse (Or.inr (Or.inr (Or.inl rfl))) h⟩⟩⟩⟩)⟩

end OPS
