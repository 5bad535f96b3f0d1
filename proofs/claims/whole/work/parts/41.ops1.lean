/-! operations, one by one: class and model from related cells answer alike and leave related cells -/
def hf_SimM (SL : Nat → hf_T → hf_P → (Nat → Nat → Int32) → Int32 → (Nat → Int32) → (Nat → Int32) → (Nat → Int32) → Prop) (CC : Int32 → Int32 → Int32 → Int32 → Int32 → Int32 → (Nat → Int32) → (Nat → Int32) → Int32 → (Nat → Int32) → (Nat → Int32) → (Nat → Int32) → (Nat → Int32) → (Nat → Int32) → (Nat → Int32) → (Nat → Int32) → (Nat → Nat → Int32) → hf_P → Int64 → Int64 → Int32 → Int32 → Prop) (N : Nat) (M : hf_M) : Prop := hf_Sim SL CC N M.1 M.2.1 M.2.2.1 M.2.2.2.1 M.2.2.2.2
def hf_Pair (X : hf_X) (Yc Ym : hf_Y) (as : List Value) (d kc nc : Nat) (M : hf_M) (K : hf_M → Prop) : Prop :=
  hf_G X Yc d kc nc 0 (hf_en (.ref 100 :: as) Yc.2.2.1) [] M (fun r M1 => ∃ v, r = some (.int v) ∧ hf_G X Ym d 0 0 0 (hf_en (.ref 156 :: as) Ym.2.2.1) [] M1 (fun r2 M2 => r2 = some (.int v) ∧ K M2))
theorem S_ct_up {N : Nat} {ch sa : Int32} (h : S_ct N ch sa) : S_ct (N + 1) ch sa := by
  obtain ⟨c, h1, h2, h3⟩ := h
  exact ⟨c, by omega, h2, h3⟩
theorem S_ct_1 {N : Nat} {ch sa : Int32} (hN : N ≤ 100000) (h : S_ct N ch sa) : S_ct (N + 1) (ch + 1) sa ∧ ¬ sa = ch + 1 := by
  obtain ⟨c, h1, h2, h3⟩ := h
  refine ⟨⟨c + 1, by omega, by rw [h2, nI_1], ?_⟩, ?_⟩
  · rcases h3 with h | ⟨q, hq, h⟩
    · exact Or.inl h
    · exact Or.inr ⟨q, by omega, h⟩
  · rw [h2, nI_1]
    rcases h3 with h | ⟨q, hq, h⟩
    · rw [h]
      exact fun e => hf_nm1 (i := c + 1) (by omega) e.symm
    · rw [h, nI_eq (by omega) (by omega)]
      omega
section OPS
variable {SL : Nat → hf_T → hf_P → (Nat → Nat → Int32) → Int32 → (Nat → Int32) → (Nat → Int32) → (Nat → Int32) → Prop} {CC : Int32 → Int32 → Int32 → Int32 → Int32 → Int32 → (Nat → Int32) → (Nat → Int32) → Int32 → (Nat → Int32) → (Nat → Int32) → (Nat → Int32) → (Nat → Int32) → (Nat → Int32) → (Nat → Int32) → (Nat → Int32) → (Nat → Nat → Int32) → hf_P → Int64 → Int64 → Int32 → Int32 → Prop}
variable {X : hf_X} {d N t : Nat} {T : hf_T} {I : hf_I} {L : hf_L} {P : hf_P}
/-- a refused call -/
theorem sim_refuse {q q2 : Nat} {z : Int32} (hq : (q, q2) = (0, 1) ∨ (q, q2) = (1, 2) ∨ (q, q2) = (2, 3) ∨ (q, q2) = (3, 5) ∨ (q, q2) = (4, 6)) (h : hf_Sim SL CC N t T I L P) :
    hf_Sim SL CC (N + 1) t T (hf_up (hf_up (hf_up (hf_up I 100 15 z) 155 q (I 155 q + 1)) 156 0 z) 157 q2 (I 157 q2 + 1)) L P := by
  obtain ⟨h1, h2, ⟨u1, u2, u3, u4, u5, u6, u7⟩, h4, h5, h6⟩ := h
  refine ⟨h1, h2, ⟨u1, u2, u3, u4, rfl, ?_, u7⟩, S_ct_up h4, fun e => ?_, ?_⟩
  · show S_rf (upd (I 155) q (I 155 q + 1)) (upd (I 157) q2 (I 157 q2 + 1))
    obtain ⟨r0, r1, r2, r3, r4⟩ := u6
    rcases hq with hq | hq | hq | hq | hq <;> cases hq <;> simp [S_rf, upd, r0, r1, r2, r3, r4]
  · simp only [hf_up_J (show 157 < 181 by omega), hf_up_J (show 156 < 181 by omega), hf_up_J (show 155 < 181 by omega), hf_up_J (show 100 < 181 by omega)]
    exact h5 e
  · simp only [hf_up_J (show 157 < 181 by omega), hf_up_J (show 156 < 181 by omega), hf_up_J (show 155 < 181 by omega), hf_up_J (show 100 < 181 by omega)]
    exact h6
/-- 0 ≤ x ≤ b -/
theorem hf_rng {x M : Int32} {b : Nat} (hM : M.toInt = b) (h0 : ¬ x < 0) (h1 : ¬ M < x) : ∃ j, j ≤ b ∧ x = nI j := nI_of2 hM h0 (Int32.not_lt.mp h1)
set_option maxHeartbeats 1000000 in
theorem op_breadth {a b : Int32} (hN : N ≤ 100000) (h : hf_Sim SL CC N t T I L P) : hf_Pair X Y_X11_breadth Y_X12_breadth [.int a, .int b] (d + 2) 0 0 (t, T, I, L, P) (hf_SimM SL CC (N + 1)) := by
  have hs := h.1
  refine w_X11_breadth_0 hs ⟨fun c1 => ⟨_, rfl, w_X12_breadth_0 hs ⟨fun _ => ⟨rfl, sim_refuse (Or.inl rfl) h⟩, fun q => absurd c1 q⟩⟩, fun c1 => ⟨fun c2 => ⟨_, rfl, w_X12_breadth_0 hs ⟨fun q => absurd q c1, fun _ => ⟨fun _ => ⟨rfl, sim_refuse (Or.inl rfl) h⟩, fun q => absurd c2 q⟩⟩⟩, fun c2 => ⟨fun c3 => ⟨_, rfl, w_X12_breadth_0 hs ⟨fun q => absurd q c1, fun _ => ⟨fun q => absurd q c2, fun _ => ⟨fun _ => ⟨rfl, sim_refuse (Or.inl rfl) h⟩, fun q => absurd c3 q⟩⟩⟩⟩, fun c3 => ⟨fun c4 => ⟨_, rfl, w_X12_breadth_0 hs ⟨fun q => absurd q c1, fun _ => ⟨fun q => absurd q c2, fun _ => ⟨fun q => absurd q c3, fun _ => ⟨fun _ => ⟨rfl, sim_refuse (Or.inl rfl) h⟩, fun q => absurd c4 q⟩⟩⟩⟩⟩, fun c4 => ?_⟩⟩⟩⟩
  obtain ⟨j, hj, rfl⟩ := hf_rng (M := 26) (b := 26) (by decide) c1 c2
  obtain ⟨h1, ⟨m1, m2, m3, m4, m5, m6, m7, m8, m9, m10⟩, ⟨u1, u2, u3, u4, u5, u6, u7⟩, h4, h5, h6⟩ := h
  obtain ⟨t1, t2⟩ := S_ct_1 hN h4
  refine ⟨vp_in_nI (by omega) (by omega), vp_in_nI (by omega) (by omega), _, rfl, w_X12_breadth_0 hs ⟨fun q => absurd q c1, fun _ => ⟨fun q => absurd q c2, fun _ => ⟨fun q => absurd q c3, fun _ => ⟨fun q => absurd q c4, fun _ => ?_⟩⟩⟩⟩⟩
  rw [hf_i26, nI_clamp (show j < 2 ^ 31 by omega), nI_clamp (show 26 + j < 2 ^ 31 by omega)]
  refine ⟨vp_in_nI (by omega) (by omega), vp_in_nI (by omega) (by omega), ?_, ?_⟩
  · rw [(m1 j (by omega)).1]
    rfl
  · have hk : ∀ i, ¬ i = 26 + j → upd (I 158) (26 + j) b i = I 158 i := fun i hi => by simp [upd, hi]
    refine ⟨h1, ⟨fun i hi => ?_, S_wo_fr (fun i _ _ => hk i (by omega)) m2, S_tm_fr (fun i _ _ => hk i (by omega)) m3, S_wd_fr (fun i _ _ => hk i (by omega)) (hk _ (by omega)) m4, S_sy_fr (fun i _ _ => hk i (by omega)) (hk _ (by omega)) m5, S_nx_fr (fun i _ _ => hk i (by omega)) m6, S_h1_fr (fun i _ => hk i (by omega)) m7, S_se_fr (fun i _ _ => hk i (by omega)) (hk _ (by omega)) m8, S_ma_fr (fun i _ _ => hk i (by omega)) (hk _ (by omega)) m9, S_lf_fr (fun i _ _ => hk i (by omega)) m10⟩, ⟨?_, u2, u3, u4, rfl, u6, u7⟩, t1, fun e => absurd e t2, ?_⟩
    · show upd (I 102) j b i = upd (I 158) (26 + j) b (26 + i) ∧ 1 ≤ upd (I 102) j b i ∧ upd (I 102) j b i ≤ 20
      by_cases e : i = j
      · subst e
        simp only [upd, if_pos]
        exact ⟨trivial, Int32.not_lt.mp c3, Int32.not_lt.mp c4⟩
      · rw [hk _ (by omega)]
        simp only [upd, if_neg e]
        exact m1 i hi
    · obtain ⟨u, nx, g1, g2, g3, g4, g5, g6⟩ := u1
      exact ⟨0, nx, by omega, g2, rfl, rfl, g5, fun q hq => by omega⟩
    · simp only [hf_SimM]
      have e1 : (fun i => upd (I 158) (26 + j) b (322 + i)) = fun i => I 158 (322 + i) := funext fun i => hk _ (by omega)
      show SL t T P _ (I 101 15) (fun i => upd (I 158) (26 + j) b (322 + i)) (I 159) (I 160)
      rw [e1]
      simp only [hf_up_J (show 156 < 181 by omega), hf_up_J (show 158 < 181 by omega), hf_up_J (show 100 < 181 by omega), hf_up_J (show 148 < 181 by omega), hf_up_J (show 102 < 181 by omega)]
      exact h6
end OPS
