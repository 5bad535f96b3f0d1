section OPS
variable {SL : Nat → hf_T → hf_P → (Nat → Nat → Int32) → Int32 → (Nat → Int32) → (Nat → Int32) → (Nat → Int32) → Prop} {CC : Int32 → Int32 → Int32 → Int32 → Int32 → Int32 → (Nat → Int32) → (Nat → Int32) → Int32 → (Nat → Int32) → (Nat → Int32) → (Nat → Int32) → (Nat → Int32) → (Nat → Int32) → (Nat → Int32) → (Nat → Int32) → (Nat → Nat → Int32) → hf_P → Int64 → Int64 → Int32 → Int32 → Prop}
variable {X : hf_X} {d N t : Nat} {T : hf_T} {I I2 : hf_I} {L : hf_L} {P : hf_P}
/-- behind a granted call that leaves texts and images alone -/
theorem sim_mk (hN : N ≤ 100000) (h : hf_Sim SL CC N t T I L P) (hSM : hf_SM I2) (hSO : hf_SO I2) (hch : I2 100 16 = I 100 16 + 1) (hsa : I2 136 15 = I 136 15) (hJ : ∀ a, I2 (181 + a) = I (181 + a)) (hlc : I2 101 15 = I 101 15) (hk : ∀ j, I2 158 (322 + j) = I 158 (322 + j)) (h159 : I2 159 = I 159) (h160 : I2 160 = I 160) : hf_Sim SL CC (N + 1) t T I2 L P := by
  obtain ⟨h1, -, -, h4, -, h6⟩ := h
  obtain ⟨t1, t2⟩ := S_ct_1 hN h4
  refine ⟨h1, hSM, hSO, by rw [hch, hsa]; exact t1, fun e => absurd (by rw [← hch, ← hsa]; exact e) t2, ?_⟩
  have e1 : (fun a => I2 (181 + a)) = fun a => I (181 + a) := funext hJ
  have e2 : (fun j => I2 158 (322 + j)) = fun j => I 158 (322 + j) := funext hk
  rw [e1, e2, hlc, h159, h160]
  exact h6
/-- behind a call that changes nothing that a finding rests on -/
theorem sim_mk0 (h : hf_Sim SL CC N t T I L P) (hSM : hf_SM I2) (hSO : hf_SO I2) (hch : I2 100 16 = I 100 16) (hsa : I2 136 15 = I 136 15) (hCC : I 136 15 = I 100 16 → CC (I2 101 12) (I2 101 13) (I2 101 14) (I2 101 15) (I2 101 16) (I2 101 17) (I2 102) (I2 104) (I2 105 5) (I2 106) (I2 107) (I2 108) (I2 109) (I2 110) (I2 112) (I2 113) (fun a => I (181 + a)) P (L 136 16) (L 136 19) (I2 136 17) (I2 136 18)) (hJ : ∀ a, I2 (181 + a) = I (181 + a)) (hlc : I2 101 15 = I 101 15) (hk : ∀ j, I2 158 (322 + j) = I 158 (322 + j)) (h159 : I2 159 = I 159) (h160 : I2 160 = I 160) : hf_Sim SL CC (N + 1) t T I2 L P := by
  obtain ⟨h1, -, -, h4, -, h6⟩ := h
  have e1 : (fun a => I2 (181 + a)) = fun a => I (181 + a) := funext hJ
  have e2 : (fun j => I2 158 (322 + j)) = fun j => I 158 (322 + j) := funext hk
  refine ⟨h1, hSM, hSO, by rw [hch, hsa]; exact S_ct_up h4, fun e => ?_, ?_⟩
  · rw [e1]
    exact hCC (by rw [← hch, ← hsa]; exact e)
  · rw [e1, e2, hlc, h159, h160]
    exact h6
theorem sim_same (h : hf_Sim SL CC N t T I L P) : hf_Sim SL CC (N + 1) t T I L P := by
  obtain ⟨h1, h2, h3, h4, h5, h6⟩ := h
  exact ⟨h1, h2, h3, S_ct_up h4, h5, h6⟩
theorem hf_upd_ne {f : Nat → Int32} {a i : Nat} {v : Int32} (h : ¬ i = a) : upd f a v i = f i := by simp [upd, h]
theorem hf_upd_eq {f : Nat → Int32} {a : Nat} {v : Int32} : upd f a v a = v := by simp [upd]
theorem hf_upJ {I : hf_I} {a j b : Nat} {v : Int32} (h : a < 181) : hf_up I a j v (181 + b) = I (181 + b) := by
  unfold hf_up
  rw [if_neg (by omega)]
/-- undo forgotten -/
theorem S_ud_0 {W5 : Int32} {pa pk : Nat → Int32} {mu : Int32} {ml : Nat → Int32} (h : S_ud W5 pa pk mu ml) : S_ud W5 (upd pa 2 0) pk 0 ml := by
  obtain ⟨u, nx, g1, g2, g3, g4, g5, g6⟩ := h
  exact ⟨0, nx, by omega, g2, rfl, rfl, by rw [hf_upd_ne (by omega)]; exact g5, fun q hq => by omega⟩
set_option maxHeartbeats 1000000 in
theorem op_worth {a b : Int32} (hN : N ≤ 100000) (h : hf_Sim SL CC N t T I L P) : hf_Pair X Y_X11_worth Y_X12_worth [.int a, .int b] (d + 2) 0 0 (t, T, I, L, P) (hf_SimM SL CC (N + 1)) := by
  have hs := h.1
  refine w_X11_worth_0 hs ⟨fun c1 => ?_, fun c1 => ⟨fun c2 => ?_, fun c2 => ⟨fun c3 => ?_, fun c3 => ⟨fun c4 => ?_, fun c4 => ?_⟩⟩⟩⟩
  iterate 4
    · refine ⟨_, rfl, w_X12_worth_0 (d := d + 1) hs ⟨fun q1 => ?_, fun q1 => ⟨fun q2 => ?_, fun q2 => ⟨fun q3 => ?_, fun q3 => ⟨fun q4 => ?_, fun q4 => ?_⟩⟩⟩⟩⟩ <;> first | contradiction | exact ⟨rfl, sim_refuse (Or.inl rfl) h⟩
  obtain ⟨j, hj, rfl⟩ := hf_rng (M := 7) (b := 7) (by decide) c1 c2
  obtain ⟨m1, m2, m3, m4, m5, m6, m7, m8, m9, m10⟩ := h.2.1
  obtain ⟨u1, u2, u3, u4, u5, u6, u7⟩ := h.2.2.1
  have e1 : (261 : Int32) + nI j = nI (261 + j) := by rw [show (261 : Int32) = nI 261 from rfl, nI_add]
  refine ⟨vp_in_nI (by omega) (by omega), vp_in_nI (by omega) (by omega), _, rfl, w_X12_worth_0 (d := d + 1) hs ⟨fun q => absurd q c1, fun _ => ⟨fun q => absurd q c2, fun _ => ⟨fun q => absurd q c3, fun _ => ⟨fun q => absurd q c4, fun _ => ?_⟩⟩⟩⟩⟩
  rw [e1, nI_clamp (show j < 2 ^ 31 by omega), nI_clamp (show 261 + j < 2 ^ 31 by omega)]
  refine ⟨vp_in_nI (by omega) (by omega), vp_in_nI (by omega) (by omega), by rw [(m2 j (by omega)).1]; rfl, ?_⟩
  have hk : ∀ i, ¬ i = 261 + j → upd (I 158) (261 + j) b i = I 158 i := fun i hi => hf_upd_ne hi
  refine sim_mk hN h ⟨S_br_fr (fun i _ _ => hk i (by omega)) m1, fun i hi => ?_, S_tm_fr (fun i _ _ => hk i (by omega)) m3, S_wd_fr (fun i _ _ => hk i (by omega)) (hk 316 (by omega)) m4, S_sy_fr (fun i _ _ => hk i (by omega)) (hk 317 (by omega)) m5, S_nx_fr (fun i _ _ => hk i (by omega)) m6, S_h1_fr (fun i _ => hk i (by omega)) m7, S_se_fr (fun i _ _ => hk i (by omega)) (hk 318 (by omega)) m8, S_ma_fr (fun i _ _ => hk i (by omega)) (hk 319 (by omega)) m9, S_lf_fr (fun i _ _ => hk i (by omega)) m10⟩ ⟨u1, u2, u3, u4, rfl, u6, u7⟩ rfl rfl (fun a => by dsimp only; repeat rw [hf_upJ (by omega)]) rfl (fun i => hk (322 + i) (by omega)) rfl rfl
  show upd (I 103) j b i = upd (I 158) (261 + j) b (261 + i) ∧ 0 ≤ upd (I 103) j b i ∧ upd (I 103) j b i ≤ 99
  by_cases e : i = j
  · subst e
    rw [hf_upd_eq, hf_upd_eq]
    exact ⟨rfl, Int32.not_lt.mp c3, Int32.not_lt.mp c4⟩
  · rw [hk _ (by omega), hf_upd_ne e]
    exact m2 i hi
theorem op_fault (h : hf_Sim SL CC N t T I L P) : hf_Pair X Y_X11_fault Y_X12_fault [] d 0 0 (t, T, I, L, P) (hf_SimM SL CC (N + 1)) :=
  w_X11_fault_0 h.1 ⟨_, rfl, w_X12_fault_0 h.1 ⟨by rw [h.2.2.1.2.2.1], sim_same h⟩⟩
theorem op_stopped (h : hf_Sim SL CC N t T I L P) : hf_Pair X Y_X11_stopped Y_X12_stopped [] d 0 0 (t, T, I, L, P) (hf_SimM SL CC (N + 1)) :=
  w_X11_stopped_0 h.1 ⟨_, rfl, w_X12_stopped_0 h.1 ⟨by rw [h.2.2.1.2.2.2.1], sim_same h⟩⟩
theorem op_status (h : hf_Sim SL CC N t T I L P) : hf_Pair X Y_X11_status Y_X12_status [] d 0 0 (t, T, I, L, P) (hf_SimM SL CC (N + 1)) :=
  w_X11_status_0 h.1 ⟨_, rfl, w_X12_status_0 h.1 ⟨by rw [h.2.2.1.2.2.2.2.1], sim_same h⟩⟩
theorem op_hush (hN : N ≤ 100000) (h : hf_Sim SL CC N t T I L P) : hf_Pair X Y_X11_hush Y_X12_hush [] d 0 0 (t, T, I, L, P) (hf_SimM SL CC (N + 1)) := by
  have hs := h.1
  obtain ⟨m1, m2, m3, m4, m5, m6, m7, m8, m9, m10⟩ := h.2.1
  obtain ⟨c, g1, g2, g3, g4⟩ := m5
  refine w_X11_hush_0 hs ⟨_, rfl, w_X12_hush_0 hs ⟨?_, ?_⟩⟩
  · show some (Value.int (I 158 317)) = some (Value.int (I 101 17))
    rw [g2, g3]
  · have hk : ∀ i, ¬ i = 317 → upd (I 158) 317 0 i = I 158 i := fun i hi => hf_upd_ne hi
    exact sim_mk hN h ⟨S_br_fr (fun i _ _ => hk i (by omega)) m1, S_wo_fr (fun i _ _ => hk i (by omega)) m2, S_tm_fr (fun i _ _ => hk i (by omega)) m3, S_wd_fr (fun i _ _ => hk i (by omega)) (hk 316 (by omega)) m4, ⟨0, by omega, rfl, rfl, fun j hj => by omega⟩, S_nx_fr (fun i _ _ => hk i (by omega)) m6, S_h1_fr (fun i _ => hk i (by omega)) m7, S_se_fr (fun i _ _ => hk i (by omega)) (hk 318 (by omega)) m8, S_ma_fr (fun i _ _ => hk i (by omega)) (hk 319 (by omega)) m9, S_lf_fr (fun i _ _ => hk i (by omega)) m10⟩ h.2.2.1 rfl rfl (fun a => by dsimp only; repeat rw [hf_upJ (by omega)]) rfl (fun i => hk (322 + i) (by omega)) rfl rfl
theorem op_forget (h : hf_Sim SL CC N t T I L P) : hf_Pair X Y_X11_forget Y_X12_forget [] d 0 0 (t, T, I, L, P) (hf_SimM SL CC (N + 1)) := by
  have hs := h.1
  obtain ⟨m1, m2, m3, m4, m5, m6, m7, m8, m9, m10⟩ := h.2.1
  obtain ⟨c, g1, g2, g3, g4⟩ := m8
  refine w_X11_forget_0 hs ⟨_, rfl, w_X12_forget_0 hs ⟨?_, ?_⟩⟩
  · show some (Value.int (I 158 318)) = some (Value.int (I 101 18))
    rw [g2, g3]
  · have hk : ∀ i, ¬ i = 318 → upd (I 158) 318 0 i = I 158 i := fun i hi => hf_upd_ne hi
    exact sim_mk0 h ⟨S_br_fr (fun i _ _ => hk i (by omega)) m1, S_wo_fr (fun i _ _ => hk i (by omega)) m2, S_tm_fr (fun i _ _ => hk i (by omega)) m3, S_wd_fr (fun i _ _ => hk i (by omega)) (hk 316 (by omega)) m4, S_sy_fr (fun i _ _ => hk i (by omega)) (hk 317 (by omega)) m5, S_nx_fr (fun i _ _ => hk i (by omega)) m6, S_h1_fr (fun i _ => hk i (by omega)) m7, ⟨0, by omega, rfl, rfl, fun j hj => by omega⟩, S_ma_fr (fun i _ _ => hk i (by omega)) (hk 319 (by omega)) m9, S_lf_fr (fun i _ _ => hk i (by omega)) m10⟩ h.2.2.1 rfl rfl h.2.2.2.2.1 (fun a => by dsimp only; repeat rw [hf_upJ (by omega)]) rfl (fun i => hk (322 + i) (by omega)) rfl rfl
theorem op_cancel (h : hf_Sim SL CC N t T I L P) : hf_Pair X Y_X11_cancel Y_X12_cancel [] d 0 0 (t, T, I, L, P) (hf_SimM SL CC (N + 1)) := by
  have hs := h.1
  obtain ⟨m1, m2, m3, m4, m5, m6, m7, m8, m9, m10⟩ := h.2.1
  obtain ⟨c, g1, g2, g3, g4⟩ := m9
  refine w_X11_cancel_0 hs ⟨_, rfl, w_X12_cancel_0 hs ⟨?_, ?_⟩⟩
  · show some (Value.int (I 158 319)) = some (Value.int (I 101 19))
    rw [g2, g3]
  · have hk : ∀ i, ¬ i = 319 → upd (I 158) 319 0 i = I 158 i := fun i hi => hf_upd_ne hi
    exact sim_mk0 h ⟨S_br_fr (fun i _ _ => hk i (by omega)) m1, S_wo_fr (fun i _ _ => hk i (by omega)) m2, S_tm_fr (fun i _ _ => hk i (by omega)) m3, S_wd_fr (fun i _ _ => hk i (by omega)) (hk 316 (by omega)) m4, S_sy_fr (fun i _ _ => hk i (by omega)) (hk 317 (by omega)) m5, S_nx_fr (fun i _ _ => hk i (by omega)) m6, S_h1_fr (fun i _ => hk i (by omega)) m7, S_se_fr (fun i _ _ => hk i (by omega)) (hk 318 (by omega)) m8, ⟨0, by omega, rfl, rfl, fun j hj => by omega⟩, S_lf_fr (fun i _ _ => hk i (by omega)) m10⟩ h.2.2.1 rfl rfl h.2.2.2.2.1 (fun a => by dsimp only; repeat rw [hf_upJ (by omega)]) rfl (fun i => hk (322 + i) (by omega)) rfl rfl
theorem op_end {a : Int32} (h : hf_Sim SL CC N t T I L P) : hf_Pair X Y_X11_end Y_X12_end [.int a] (d + 1) 0 0 (t, T, I, L, P) (hf_SimM SL CC (N + 1)) := by
  have hs := h.1
  obtain ⟨u1, ⟨c, g1, g2, g3, g4⟩, u3, u4, u5, u6, u7⟩ := h.2.2.1
  refine w_X11_end_0 hs ⟨fun c1 => ⟨_, rfl, w_X12_end_0 hs ⟨fun _ => ⟨rfl, sim_same h⟩, fun q => absurd c1 q⟩⟩, fun c1 => ⟨fun c2 => ⟨_, rfl, w_X12_end_0 hs ⟨fun q => absurd q c1, fun _ => ⟨fun _ => ⟨rfl, sim_same h⟩, fun q => absurd (by rw [g3]; rw [g2] at c2; exact c2) q⟩⟩⟩, fun c2 => ⟨_, rfl, w_X12_end_0 hs ⟨fun q => absurd q c1, fun _ => ⟨fun q => absurd (by rw [g2]; rw [show hf_up I 100 13 a 156 10 = I 156 10 from rfl, g3] at q; exact q) c2, fun _ => ⟨rfl, ?_⟩⟩⟩⟩⟩⟩
  rw [g2] at c2
  obtain ⟨j, hj, rfl⟩ := hf_rng (M := nI c) (b := c) (nI_toInt (by omega)) c1 c2
  exact sim_mk0 h h.2.1 ⟨u1, ⟨j, by omega, rfl, rfl, fun i hi => g4 i (by omega)⟩, u3, u4, u5, u6, u7⟩ rfl rfl h.2.2.2.2.1 (fun a => by dsimp only; repeat rw [hf_upJ (by omega)]) rfl (fun i => rfl) rfl rfl
theorem op_drawn {a : Int32} (h : hf_Sim SL CC N t T I L P) : hf_Pair X Y_X11_drawn Y_X12_drawn [.int a] (d + 1) 0 0 (t, T, I, L, P) (hf_SimM SL CC (N + 1)) := by
  have hs := h.1
  obtain ⟨u1, u2, u3, u4, u5, u6, ⟨c, g1, g2, g3, g4⟩, -⟩ := h.2.2.1
  refine w_X11_drawn_0 hs ⟨fun c1 => ⟨_, rfl, w_X12_drawn_0 hs ⟨fun _ => ⟨rfl, sim_same h⟩, fun q => absurd c1 q⟩⟩, fun c1 => ⟨fun c2 => ⟨_, rfl, w_X12_drawn_0 hs ⟨fun q => absurd q c1, fun _ => ⟨fun _ => ⟨rfl, sim_same h⟩, fun q => absurd (by rw [g3]; rw [g2] at c2; exact c2) q⟩⟩⟩, fun c2 => ?_⟩⟩
  rw [g2] at c2
  have hj : ∃ j, j < c ∧ a = nI j := by
    cases c with
    | zero =>
      refine absurd ?_ c2
      rcases pk_ix a (n := 0) (by omega) with q | q | ⟨j, q, -⟩
      · exact absurd q c1
      · exact Int32.lt_of_lt_of_le (by decide) q
      · omega
    | succ c =>
      rw [nI_pred] at c2
      obtain ⟨j, hj, e⟩ := hf_rng (M := nI c) (b := c) (nI_toInt (by omega)) c1 c2
      exact ⟨j, by omega, e⟩
  obtain ⟨j, hj, rfl⟩ := hj
  refine ⟨vp_in_nI (by omega) (by omega), _, rfl, w_X12_drawn_0 hs ⟨fun q => absurd q c1, fun _ => ⟨fun q => absurd (by rw [g3] at q; exact q) c2, fun _ => ⟨vp_in_nI (by omega) (by omega), ?_, sim_same h⟩⟩⟩⟩
  rw [nI_clamp (by omega), g4 j hj]
end OPS
