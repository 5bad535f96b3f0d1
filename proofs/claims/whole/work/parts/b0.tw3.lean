/-! both sides once more, with more noise on the model's (what reading leaves behind) (made out of 78.tw by wip/whole/mktw3.py) -/
def nz3 (I C : hf_I) : Prop := (∀ a, 156 < a → a ≤ 180 → ¬ (165 ≤ a ∧ a ≤ 168) → C a = I a) ∧ ∀ j, j < 15 ∨ 22 < j → C 156 j = I 156 j
def hf_tw3 (X : hf_X) (Yc Ym : hf_Y) (ac am : List Value) (d t : Nat) (T : hf_T) (P : hf_P) (I : hf_I) (v : Int32) (I' : hf_I) : Prop :=
  (∀ (L : hf_L) (C : hf_I) (k n : Nat) (Q : Option Value → hf_M → Prop), nzc I C → (∀ C', nzc I' C' → kpm C C' → Q (some (.int v)) (t, T, C', L, P)) → hf_G X Yc d k n 0 (hf_en ac Yc.2.2.1) [] (t, T, C, L, P) Q) ∧
  (∀ (L : hf_L) (C : hf_I) (k n : Nat) (Q : Option Value → hf_M → Prop), nz3 I C → (∀ C', nz3 I' C' → kpc C C' → Q (some (.int v)) (t, T, C', L, P)) → hf_G X Ym d k n 0 (hf_en am Ym.2.2.1) [] (t, T, C, L, P) Q)
section TW3
variable {I C A B : hf_I} {a j : Nat} {v : Int32} {g : Nat → Int32}
theorem nz3_rf : nz3 I I := ⟨fun _ _ _ _ => rfl, fun _ _ => rfl⟩
theorem nz3_mix (h : nz3 B C) : nz3 (hf_mix A B) C := by
  refine ⟨fun b b1 b2 b3 => ?_, fun j hj => h.2 j hj⟩
  rw [hf_mix_m]
  · exact h.1 b b1 b2 b3
  · rw [Bool.and_eq_true, Nat.ble_eq, Nat.ble_eq]; omega
theorem nz3_up (h : nz3 I C) (e : a = 156 ∨ C a = I a) : nz3 (hf_up I a j v) (hf_up C a j v) := by
  refine ⟨fun b b1 b2 b3 => ?_, fun i hi => ?_⟩
  · unfold hf_up
    by_cases q : b = a
    · rw [if_pos q, if_pos q]
      rcases e with e | e
      · omega
      · rw [e]
    · rw [if_neg q, if_neg q]; exact h.1 b b1 b2 b3
  · unfold hf_up
    by_cases q : 156 = a
    · rw [if_pos q, if_pos q, ← q]
      unfold upd
      split
      · rfl
      · exact h.2 i hi
    · rw [if_neg q, if_neg q]; exact h.2 i hi
theorem nz3_set (h : nz3 I C) : nz3 (hf_set I a g) (hf_set C a g) := by
  refine ⟨fun b b1 b2 b3 => ?_, fun i hi => ?_⟩
  · unfold hf_set
    by_cases q : b = a
    · rw [if_pos q, if_pos q]
    · rw [if_neg q, if_neg q]; exact h.1 b b1 b2 b3
  · unfold hf_set
    by_cases q : 156 = a
    · rw [if_pos q, if_pos q]
    · rw [if_neg q, if_neg q]; exact h.2 i hi
theorem nz3_km {w s : Nat} {kd : Int32} (h : nz3 I C) : nz3 (hf_km I w s kd) (hf_km C w s kd) := by
  unfold hf_km
  rw [h.1 169 (by omega) (by omega) (by omega), h.1 158 (by omega) (by omega) (by omega)]
  refine ⟨fun b b1 b2 b3 => ?_, fun i hi => ?_⟩
  · have n6 : ¬ b = 156 := by omega
    unfold hf_set
    rw [if_neg n6, if_neg n6]
    by_cases q : b = 169
    · rw [if_pos q, if_pos q]
    · rw [if_neg q, if_neg q]; exact h.1 b b1 b2 b3
  · show upd (C 156) 27 _ i = upd (I 156) 27 _ i
    unfold upd
    split
    · rfl
    · exact h.2 i hi
theorem nz3_jm (h : nz3 I C) (h2 : jm_fr C A) : nz3 I A := ⟨fun a a1 a2 a3 => (h2.1 a (by omega) (by omega)).trans (h.1 a a1 a2 a3), fun j hj => (h2.2 j (by omega) (by omega) (by omega) (by omega)).trans (h.2 j hj)⟩
end TW3
section TW3
variable {X : hf_X} {d t : Nat} {T : hf_T} {I : hf_I} {P : hf_P}
def hf_sub5 (X : hf_X) (Yc Ym : hf_Y) (ac am : List Value) (d t : Nat) (T : hf_T) (P : hf_P) (I : hf_I) : Prop := ∃ v I', hf_tw3 X Yc Ym ac am d t T P I v I' ∧ hf_SM I' ∧ hf_ud I' ∧ hf_fr I I' ∧ (0 ≤ v ∨ v = -1 ∨ v = -2 ∨ v = -3 ∨ v = -5) ∧ (v < 0 → I' 101 14 = I 101 14) ∧ I' 156 24 = I 156 24
theorem t3_turn (hs : hf_Lay t T P) (hSM : hf_SM I) (hud : hf_ud I) : hf_sub5 X Y_X11_turnLine Y_X12_turnsKept [.ref 100] [.ref 156] (d + 2) t T P I := by
  obtain ⟨m1, m2, m3, m4, m5, m6, m7, m8, m9, m10⟩ := id hSM
  obtain ⟨c, ln, g1, g2, g3, g4, g5, g6, g7⟩ := S_hd_pl m7
  obtain ⟨t1, t2, t3, ⟨t4, t5, t6⟩, t7⟩ := id m3
  have hcl := hf_cnt_le (I 116) (nI ln) c
  have hz : (nI (hf_cnt (I 116) (nI ln) c) = 0) ↔ hf_cnt (I 116) (nI ln) c = 0 := nI_eq (b := 0) (by omega) (by omega)
  have cc : ∀ {C : hf_I}, nzc I C → C 114 = I 114 ∧ C 116 = I 116 ∧ C 101 = I 101 ∧ C 148 = I 148 := fun hC => ⟨hC 114 (by omega) (by omega) (by omega) (by omega), hC 116 (by omega) (by omega) (by omega) (by omega), hC 101 (by omega) (by omega) (by omega) (by omega), hC 148 (by omega) (by omega) (by omega) (by omega)⟩
  have cm : ∀ {C : hf_I}, nz3 I C → C 158 = I 158 ∧ C 156 27 = I 156 27 := fun hC => ⟨hC.1 158 (by omega) (by omega) (by omega), hC.2 27 (by omega)⟩
  have no : ∀ h0 : nI (hf_cnt (I 116) (nI ln) c) = 0 ∨ ¬ nI ln + 1 < I 101 13, hf_sub5 X Y_X11_turnLine Y_X12_turnsKept [.ref 100] [.ref 156] (d + 2) t T P I := by
    intro h0
    refine ⟨-3, I, ⟨fun L C k n Q hC h => ?_, fun L C k n Q hC h => ?_⟩, hSM, hud, hf_fr_rf, by decide, fun _ => rfl, rfl⟩
    · obtain ⟨c1, c2, c3, c4⟩ := cc hC
      refine w_X11_turnLine_0 (d := d + 1) hs (sp_X3_manyIn hs g1 (by rw [c1]; exact g3) ?_)
      rw [c1, c2, g5]
      refine w_X11_turnLine_16 (d := d + 1) hs ⟨fun _ => h C hC kpm_rf, fun q => ⟨fun q2 => ?_, fun _ => h C hC kpm_rf⟩⟩
      rw [c1, c3, g5] at q2
      rcases h0 with h0 | h0
      · exact absurd h0 q
      · exact absurd q2 h0
    · obtain ⟨c1, c2⟩ := cm hC
      refine w_X12_turnsKept_0 (d := d + 1) hs (sp_X12_manyIn hs g1 (by rw [c1]; exact g4) ?_)
      rw [c1, g6, ← g7]
      refine w_X12_turnsKept_11 (d := d + 1) hs ⟨fun _ => h C hC kpc_rf, fun q => ⟨fun q2 => ?_, fun _ => h C hC kpc_rf⟩⟩
      rw [c1, g6, ← t4] at q2
      rcases h0 with h0 | h0
      · exact absurd h0 q
      · exact absurd q2 h0
  by_cases hm : nI (hf_cnt (I 116) (nI ln) c) = 0
  · exact no (Or.inl hm)
  by_cases hl : nI ln + 1 < I 101 13
  · obtain ⟨nx, u, v, s, k1, k2, k3, k4, k5, k6, k7, k8⟩ := hf_ud_keep (kd := 1) (by decide) hSM hud
    have hln : ln + 1 ≤ 3 := by
      rcases Nat.lt_or_ge ln 3 with q | q
      · omega
      · refine absurd (Int32.lt_of_lt_of_le hl t6) ?_
        rw [show ln = 3 by omega]
        decide
    have fr : hf_fr I (hf_mix (hf_up (hf_kc I nx u 1) 114 3 (nI ln + 1)) (hf_up (hf_km I v s 1) 158 25 (nI ln + 1))) := hf_fr_mix (hf_fr_up hf_fr_kc (by omega)) (hf_fr_up hf_fr_km (by omega))
    refine ⟨nI ln + 1, hf_mix (hf_up (hf_kc I nx u 1) 114 3 (nI ln + 1)) (hf_up (hf_km I v s 1) 158 25 (nI ln + 1)), ⟨fun L C k n Q hC h => ?_, fun L C k n Q hC h => ?_⟩, hf_SM_hd hSM fr rfl rfl ?_, k8, fr, Or.inl (by rw [nI_1]; exact nI_pos' (by omega)), fun _ => rfl, rfl⟩
    · obtain ⟨c1, c2, c3, c4⟩ := cc hC
      refine w_X11_turnLine_0 (d := d + 1) hs (sp_X3_manyIn hs g1 (by rw [c1]; exact g3) ?_)
      rw [c1, c2, g5]
      refine w_X11_turnLine_16 (d := d + 1) hs ⟨fun q => absurd q hm, fun _ => ⟨fun _ => cs_keep hs k1 (by rw [c4]; exact k5) k2 (by rw [c4]; exact k6) (w_X11_turnLine_47 hs ?_), fun q => absurd (by rw [c1, c3, g5]; exact hl) q⟩⟩
      have e3 : hf_kc C nx u 1 114 3 = nI ln := by show C 114 3 = _; rw [c1]; exact g5
      rw [e3]
      refine h _ (nzc_mix (nzc_up (nzc_kc hC) ?_)) (kpm_up kpm_kc (by omega))
      show C 114 = I 114
      exact c1
    · obtain ⟨c1, c2⟩ := cm hC
      refine w_X12_turnsKept_0 (d := d + 1) hs (sp_X12_manyIn hs g1 (by rw [c1]; exact g4) ?_)
      rw [c1, g6, ← g7]
      refine w_X12_turnsKept_11 (d := d + 1) hs ⟨fun q => absurd q hm, fun _ => ⟨fun _ => ms_keeps hs k2 (by rw [c2]; exact k7) k3 k4 (w_X12_turnsKept_42 hs ?_), fun q => absurd (by rw [c1, g6, ← t4]; exact hl) q⟩⟩
      have e3 : hf_km C v s 1 158 25 = nI ln := by show C 158 25 = _; rw [c1]; exact g6
      rw [e3]
      refine h _ (nz3_mix (nz3_up (nz3_km hC) (Or.inr ?_))) (kpc_up kpc_km (by omega) (by omega))
      show C 158 = I 158
      exact c1
    · obtain ⟨c', ln', h1, h2, h3, h4, h5, h6, h7⟩ := m7
      obtain rfl : c' = c := (nI_eq (by omega) (by omega)).mp (h3.symm.trans g3)
      obtain rfl : ln' = ln := (nI_eq (by omega) (by omega)).mp (h5.symm.trans g5)
      refine ⟨c', ln' + 1, h1, hln, h3, h4, (nI_1 ln'), (nI_1 ln'), fun j hj => ?_⟩
      obtain ⟨r1, q, r2, r3, r4⟩ := h7 j hj
      refine ⟨⟨?_, r1.2⟩, q, by omega, r3, ?_⟩
      · exact r1.1.trans (hf_upd_ne (f := I 158) (a := 25) (by omega)).symm
      · exact (hf_upd_ne (f := I 158) (a := 25) (by omega)).trans r4
  · exact no (Or.inr hl)
theorem t3_clear (hs : hf_Lay t T P) (hSM : hf_SM I) (hud : hf_ud I) : hf_sub5 X Y_X11_emptyHead Y_X12_clearsKept [.ref 100] [.ref 156] (d + 2) t T P I := by
  obtain ⟨m1, m2, m3, m4, m5, m6, m7, m8, m9, m10⟩ := id hSM
  obtain ⟨c, ln, g1, g2, g3, g4, g5, g6, g7⟩ := S_hd_pl m7
  have cc : ∀ {C : hf_I}, nzc I C → C 114 = I 114 ∧ C 148 = I 148 := fun hC => ⟨hC 114 (by omega) (by omega) (by omega) (by omega), hC 148 (by omega) (by omega) (by omega) (by omega)⟩
  have cm : ∀ {C : hf_I}, nz3 I C → C 158 = I 158 ∧ C 156 27 = I 156 27 := fun hC => ⟨hC.1 158 (by omega) (by omega) (by omega), hC.2 27 (by omega)⟩
  by_cases hm : nI c = 0
  · refine ⟨-3, I, ⟨fun L C k n Q hC h => ?_, fun L C k n Q hC h => ?_⟩, hSM, hud, hf_fr_rf, by decide, fun _ => rfl, rfl⟩
    · exact w_X11_emptyHead_0 (d := d + 1) hs ⟨fun q => absurd (by rw [(cc hC).1]; exact g3.trans hm) q, fun _ => h C hC kpm_rf⟩
    · exact w_X12_clearsKept_0 (d := d + 1) hs ⟨fun q => absurd (by rw [(cm hC).1]; exact g4.trans hm) q, fun _ => h C hC kpc_rf⟩
  · obtain ⟨nx, u, v, s, k1, k2, k3, k4, k5, k6, k7, k8⟩ := hf_ud_keep (kd := 2) (by decide) hSM hud
    have fr : hf_fr I (hf_mix (hf_up (hf_up (hf_kc I nx u 2) 114 2 0) 114 3 0) (hf_up (hf_up (hf_km I v s 2) 158 24 0) 158 25 0)) := hf_fr_mix (hf_fr_up (hf_fr_up hf_fr_kc (by omega)) (by omega)) (hf_fr_up (hf_fr_up hf_fr_km (by omega)) (by omega))
    refine ⟨nI c, hf_mix (hf_up (hf_up (hf_kc I nx u 2) 114 2 0) 114 3 0) (hf_up (hf_up (hf_km I v s 2) 158 24 0) 158 25 0), ⟨fun L C k n Q hC h => ?_, fun L C k n Q hC h => ?_⟩, hf_SM_hd hSM fr rfl rfl ?_, k8, fr, Or.inl (nI_pos' (by omega)), fun _ => rfl, rfl⟩
    · obtain ⟨c1, c4⟩ := cc hC
      refine w_X11_emptyHead_0 (d := d + 1) hs ⟨fun _ => cs_keep hs k1 (by rw [c4]; exact k5) k2 (by rw [c4]; exact k6) (w_X11_emptyHead_27 hs ?_), fun q => absurd (by rw [c1, g3] at q; exact q) hm⟩
      have e3 : hf_kc C nx u 2 114 2 = nI c := by show C 114 2 = _; rw [c1]; exact g3
      rw [e3]
      have e4 : hf_kc C nx u 2 114 = hf_kc I nx u 2 114 := c1
      refine h _ (nzc_mix (nzc_up (nzc_up (nzc_kc hC) e4) ?_)) (kpm_up (kpm_up kpm_kc (by omega)) (by omega))
      show upd (hf_kc C nx u 2 114) 2 0 = upd (hf_kc I nx u 2 114) 2 0
      rw [e4]
    · obtain ⟨c1, c2⟩ := cm hC
      refine w_X12_clearsKept_0 (d := d + 1) hs ⟨fun _ => ms_keeps hs k2 (by rw [c2]; exact k7) k3 k4 (w_X12_clearsKept_20 hs ?_), fun q => absurd (by rw [c1, g4] at q; exact q) hm⟩
      have e3 : C 158 24 = nI c := by rw [c1]; exact g4
      rw [e3]
      have e4 : hf_km C v s 2 158 = hf_km I v s 2 158 := c1
      refine h _ (nz3_mix (nz3_up (nz3_up (nz3_km hC) (Or.inr e4)) (Or.inr ?_))) (kpc_up (kpc_up kpc_km (by omega) (by omega)) (by omega) (by omega))
      show upd (hf_km C v s 2 158) 24 0 = upd (hf_km I v s 2 158) 24 0
      rw [e4]
    · exact ⟨0, 0, by omega, by omega, rfl, rfl, rfl, rfl, fun j hj => by omega⟩
theorem t3_size {a : Int32} (hs : hf_Lay t T P) (hSM : hf_SM I) (hud : hf_ud I) : hf_sub5 X Y_X11_changeSize Y_X12_sizes [.ref 100, .int a] [.ref 156, .int a] (d + 2) t T P I := by
  obtain ⟨m1, m2, m3, m4, m5, m6, m7, m8, m9, m10⟩ := id hSM
  obtain ⟨c, ln, g1, g2, g3, g4, g5⟩ := id m7
  obtain ⟨t1, t2, t3, t4, t5, t6, t7⟩ := id m3
  have hh : (I 114 2 ≤ 0) ↔ (I 158 24 ≤ 0) := by rw [g3, g4]
  have cc : ∀ {C : hf_I}, nzc I C → C 114 = I 114 ∧ C 101 = I 101 := fun hC => ⟨hC 114 (by omega) (by omega) (by omega) (by omega), hC 101 (by omega) (by omega) (by omega) (by omega)⟩
  have cm : ∀ {C : hf_I}, nz3 I C → C 158 = I 158 := fun hC => hC.1 158 (by omega) (by omega) (by omega)
  by_cases c1 : a < 0
  · exact ⟨-1, I, ⟨fun L C k n Q hC h => w_X11_changeSize_0 (d := d + 1) hs ⟨fun _ => h C hC kpm_rf, fun q => absurd c1 q⟩, fun L C k n Q hC h => w_X12_sizes_0 (d := d + 1) hs ⟨fun _ => h C hC kpc_rf, fun q => absurd c1 q⟩⟩, hSM, hud, hf_fr_rf, by decide, fun _ => rfl, rfl⟩
  by_cases c2 : 2 < a
  · exact ⟨-1, I, ⟨fun L C k n Q hC h => w_X11_changeSize_0 (d := d + 1) hs ⟨fun q => absurd q c1, fun _ => ⟨fun _ => h C hC kpm_rf, fun q => absurd c2 q⟩⟩, fun L C k n Q hC h => w_X12_sizes_0 (d := d + 1) hs ⟨fun q => absurd q c1, fun _ => ⟨fun _ => h C hC kpc_rf, fun q => absurd c2 q⟩⟩⟩, hSM, hud, hf_fr_rf, by decide, fun _ => rfl, rfl⟩
  by_cases c3 : I 114 2 ≤ 0
  · refine ⟨I 101 14, hf_mix (hf_up (hf_up I 101 14 a) 148 2 0) (hf_up (hf_up I 158 315 a) 156 27 0), ⟨fun L C k n Q hC h => ?_, fun L C k n Q hC h => ?_⟩, ?_, S_ud_0 hud, hf_fr_mix (hf_fr_up (hf_fr_up hf_fr_rf (by omega)) (by omega)) (hf_fr_up (hf_fr_up hf_fr_rf (by omega)) (by omega)), Or.inl t6, fun q => absurd q (Int32.not_lt.mpr t6), rfl⟩
    · obtain ⟨e1, e2⟩ := cc hC
      have e3 : C 148 = I 148 := hC 148 (by omega) (by omega) (by omega) (by omega)
      refine w_X11_changeSize_0 (d := d + 1) hs ⟨fun q => absurd q c1, fun _ => ⟨fun q => absurd q c2, fun _ => ⟨fun _ => ?_, fun q => absurd (by rw [e1]; exact c3) q⟩⟩⟩
      rw [e2]
      exact h _ (nzc_mix (nzc_up (nzc_up hC e2) e3)) (kpm_up (kpm_up kpm_rf (by omega)) (by omega))
    · have e1 := cm hC
      refine w_X12_sizes_0 (d := d + 1) hs ⟨fun q => absurd q c1, fun _ => ⟨fun q => absurd q c2, fun _ => ⟨fun _ => ?_, fun q => absurd (by rw [e1]; exact hh.mp c3) q⟩⟩⟩
      have e2 : C 158 315 = I 101 14 := by rw [e1, t5]
      rw [e2]
      exact h _ (nz3_mix (nz3_up (nz3_up hC (Or.inr e1)) (Or.inl rfl))) (kpc_up (kpc_up kpc_rf (by omega) (by omega)) (by omega) (by omega))
    · have hk : ∀ i, ¬ i = 315 → upd (I 158) 315 a i = I 158 i := fun i hi => hf_upd_ne hi
      refine ⟨S_br_fr (fun i _ _ => hk i (by omega)) m1, S_wo_fr (fun i _ _ => hk i (by omega)) m2, ?_, S_wd_fr (fun i _ _ => hk i (by omega)) (hk 316 (by omega)) m4, S_sy_fr (fun i _ _ => hk i (by omega)) (hk 317 (by omega)) m5, S_nx_fr (fun i _ _ => hk i (by omega)) m6, S_h1_fr (fun i _ => hk i (by omega)) m7, S_se_fr (fun i _ _ => hk i (by omega)) (hk 318 (by omega)) m8, S_ma_fr (fun i _ _ => hk i (by omega)) (hk 319 (by omega)) m9, S_lf_fr (fun i _ _ => hk i (by omega)) m10⟩
      show S_tm (I 104) (upd (I 101) 14 a) (upd (I 158) 315 a)
      unfold S_tm
      rw [hk 311 (by omega), hk 312 (by omega), hk 313 (by omega), hk 314 (by omega)]
      exact ⟨t1, t2, t3, t4, rfl, Int32.not_lt.mp c1, Int32.not_lt.mp c2⟩
  · refine ⟨-3, I, ⟨fun L C k n Q hC h => ?_, fun L C k n Q hC h => ?_⟩, hSM, hud, hf_fr_rf, by decide, fun _ => rfl, rfl⟩
    · exact w_X11_changeSize_0 (d := d + 1) hs ⟨fun q => absurd q c1, fun _ => ⟨fun q => absurd q c2, fun _ => ⟨fun q => absurd (by rw [(cc hC).1] at q; exact q) c3, fun _ => h C hC kpm_rf⟩⟩⟩
    · exact w_X12_sizes_0 (d := d + 1) hs ⟨fun q => absurd q c1, fun _ => ⟨fun q => absurd q c2, fun _ => ⟨fun q => absurd (hh.mpr (by rw [cm hC] at q; exact q)) c3, fun _ => h C hC kpc_rf⟩⟩⟩
theorem t3_set {a : Int32} {cls : List gr_c1} (hs : hf_Lay t T P) (hSM : hf_SM I) (hud : hf_ud I) (hlc : lw_c t T I P cls) (hlm : lw_m I cls) : hf_sub5 X Y_X11_placeWord Y_X12_setsKept [.ref 100, .int a] [.ref 156, .int a] (d + 611) t T P I := by
  obtain ⟨m1, m2, m3, m4, m5, m6, m7, m8, m9, m10⟩ := id hSM
  obtain ⟨w, w1, w2, w3, w4, w5⟩ := id m4
  obtain ⟨t1, t2, t3, t4, t5⟩ := id m3
  obtain ⟨c, c12, hc, hm, hwc, hwm, ecnt, ew, ea, ee, e5⟩ := sim_hd hSM
  obtain ⟨c', ln, h1, h2, h3, h4, h5', h6, h7⟩ := id m7
  obtain rfl : c' = c := (nI_eq (by omega) (by omega)).mp (h3.symm.trans hc)
  have cc : ∀ {C : hf_I}, nzc I C → ∀ b, b < 156 → ¬ b = 132 → ¬ b = 133 → ¬ b = 134 → C b = I b := fun hC b b1 b2 b3 b4 => hC b (by omega) b2 b3 b4
  have cm : ∀ {C : hf_I}, nz3 I C → C 158 = I 158 ∧ C 156 27 = I 156 27 := fun hC => ⟨hC.1 158 (by omega) (by omega) (by omega), hC.2 27 (by omega)⟩
  have hlC : ∀ {C : hf_I}, nzc I C → lw_c t T C P cls := fun {C} hC => by
    unfold lw_c
    rw [hC 101 (by omega) (by omega) (by omega) (by omega), show (fun a => C (181 + a)) = fun a => I (181 + a) from funext fun a => hC (181 + a) (by omega) (by omega) (by omega) (by omega)]
    exact hlc
  have hlM : ∀ {C : hf_I}, nz3 I C → lw_m C cls := fun {C} hC => lw_m_fr hlm (cm hC).1
  have bad : ∀ (z : Int32), (z = -2 ∨ z = -3 ∨ z = -5) → (∀ (L : hf_L) (C : hf_I) (k n : Nat) (Q : Option Value → hf_M → Prop), nzc I C → (∀ C', nzc I C' → kpm C C' → Q (some (.int z)) (t, T, C', L, P)) → hf_G X Y_X11_placeWord (d + 611) k n 0 (hf_en [.ref 100, .int a] 4) [] (t, T, C, L, P) Q) → (∀ (L : hf_L) (C : hf_I) (k n : Nat) (Q : Option Value → hf_M → Prop), nz3 I C → (∀ C', nz3 I C' → kpc C C' → Q (some (.int z)) (t, T, C', L, P)) → hf_G X Y_X12_setsKept (d + 611) k n 0 (hf_en [.ref 156, .int a] 4) [] (t, T, C, L, P) Q) → hf_sub5 X Y_X11_placeWord Y_X12_setsKept [.ref 100, .int a] [.ref 156, .int a] (d + 611) t T P I := by
    intro z hz p1 p2
    exact ⟨z, I, ⟨p1, p2⟩, hSM, hud, hf_fr_rf, by rcases hz with q | q | q <;> simp [q], fun _ => rfl, rfl⟩
  by_cases c1 : a < 0
  · exact bad (-2) (Or.inl rfl) (fun L C k n Q hC h => w_X11_placeWord_0 (d := d + 610) hs ⟨fun _ => h C hC kpm_rf, fun q => absurd c1 q⟩) (fun L C k n Q hC h => w_X12_setsKept_0 (d := d + 609) hs ⟨fun _ => h C hC kpc_rf, fun q => absurd c1 q⟩)
  by_cases c2 : nI w ≤ a
  · refine bad (-2) (Or.inl rfl) (fun L C k n Q hC h => w_X11_placeWord_0 (d := d + 610) hs ⟨fun q => absurd q c1, fun _ => ⟨fun _ => h C hC kpm_rf, fun q => absurd (by rw [cc hC 105 (by omega) (by omega) (by omega) (by omega), w2]; exact c2) q⟩⟩) (fun L C k n Q hC h => w_X12_setsKept_0 (d := d + 609) hs ⟨fun q => absurd q c1, fun _ => ⟨fun _ => h C hC kpc_rf, fun q => absurd ?_ q⟩⟩)
    rw [(cm hC).1, w3, hf_pred_lt (by omega) c1]
    exact c2
  obtain ⟨i, hi, rfl⟩ := nI_of c1
  have hiw : i < w := by
    rcases Nat.lt_or_ge i w with q | q
    · exact q
    · exact absurd (nI_le q hi) c2
  have c2m : ¬ I 158 316 - 1 < nI i := by
    rw [w3, hf_pred_lt (by omega) c1]
    exact c2
  obtain ⟨o1, o2, b0, b1, b2, b3, b4, b5⟩ := S_w1_ok (w4 i hiw)
  have b0' : I 106 i = I 158 (53 + 13 * i) := b0
  have b1' : I 107 i = I 158 (53 + 13 * i + 1) := b1
  have b2' : I 108 i = I 158 (53 + 13 * i + 2) := b2
  have b3' : I 109 i = I 158 (53 + 13 * i + 3) := b3
  have ef : (fun q => I 158 (53 + 13 * i + 4 + q)) = fun q => I 158 (53 + 13 * i + (4 + q)) := funext fun q => by rw [Nat.add_assoc]
  have hbr : ∀ j, j < 27 → 1 ≤ I 102 j ∧ I 102 j ≤ 20 := fun j hj => (m1 j hj).2
  -- how broad it is so far, the WORD, the blank
  obtain ⟨kl, kl1, kl2⟩ := bd_hl (hl := I 116) (x := nI ln) hbr t5.2 c12 hwc
  obtain ⟨kw, kw1, kw2⟩ := bd_wd hbr t5.2 o1
  obtain ⟨kb, kb0, kb1, kb2⟩ := bd_lw (hbr 26 (by omega)) t5.2
  have cl := hf_cnt_le (I 116) (nI ln) c'
  have lw2 : hl_wm (I 158) (nI ln) c' = nI kl := by rw [← ew]; exact kl2
  have wd2 : hf_wd (fun j => I 158 (26 + j)) (I 158 315) (I 158 (53 + 13 * i + 3)) (fun q => I 158 (53 + 13 * i + 4 + q)) = nI kw := by
    rw [ef, ← t5.1]
    rw [← kw2]
    exact (b5 (I 102) (fun j => I 158 (26 + j)) (I 101 14) (fun j hj => (m1 j hj).1)).symm
  have bl2 : I 158 52 * (I 158 315 + 2) / 2 = nI kb := by rw [← kb2, (m1 26 (by omega)).1, t5.1]
  obtain ⟨kh, kh0, kh1, kh2⟩ := bd_rng (a := 10) (b := 400) (by decide) (by decide) t3.2.1 t3.2.2
  -- the breadth then
  generalize hwid : kl + kw + (if hf_cnt (I 116) (nI ln) c' = 0 then 0 else kb) = wid
  have widl : wid ≤ 5160 := by
    rw [← hwid]
    split <;> omega
  generalize hbar : jd_br cls (jf_w (nI i) (I 106 i) (I 107 i) (I 108 i) (I 109 i) (I 101 14) (I 104 0) (I 104 1)) = bar
  -- the class as far as the judge
  have clsG : ∀ (L : hf_L) (C : hf_I) (k n : Nat) (Q : Option Value → hf_M → Prop), nzc I C → (kh < wid → Q (some (.int (-3))) (t, T, C, L, P)) → (¬ kh < wid → ∀ C', nzc I C' → kpm C C' → hf_G X Y_X11_placeWord (d + 611) k n 109 [some (.ref 100), some (.int (nI i)), some (.ref 114), some (.int (nI wid))] [.int (hf_b bar)] (t, T, C', L, P) Q) → hf_G X Y_X11_placeWord (d + 611) k n 0 (hf_en [.ref 100, .int (nI i)] 4) [] (t, T, C, L, P) Q := by
    intro L C k n Q hC p1 p2
    have e := cc hC
    have hbC : ∀ (ww : Int32), ww = nI wid → (C 101 12 < ww → Q (some (.int (-3))) (t, T, C, L, P)) ∧ (¬ C 101 12 < ww → hf_G X Y_X4_isBarred (d + 610) 0 0 0 (hf_en [.ref 135, .int (nI i), .int (C 101 14)] 3) [] (t, T, C, L, P) (fun r M => hf_G X Y_X11_placeWord (d + 611) k n 109 [some (.ref 100), some (.int (nI i)), some (.ref 114), some (.int ww)] (r.toList ++ []) M Q)) := by
      intro ww hww
      rw [hww, e 101 (by omega) (by omega) (by omega) (by omega), kh2, nI_ltI (by omega) (by omega)]
      refine ⟨p1, fun g => cs_isBarred (d := d + 607) hs (hlC hC) (by omega) fun C' f' => ?_⟩
      rw [e 106 (by omega) (by omega) (by omega) (by omega), e 107 (by omega) (by omega) (by omega) (by omega), e 108 (by omega) (by omega) (by omega) (by omega), e 109 (by omega) (by omega) (by omega) (by omega), e 104 (by omega) (by omega) (by omega) (by omega), hbar]
      exact p2 g C' (nzc_jc hC f') (kpm_jc f')
    refine w_X11_placeWord_0 (d := d + 610) hs ⟨fun q => absurd q c1, fun _ => ⟨fun q => absurd (by rw [e 105 (by omega) (by omega) (by omega) (by omega), w2] at q; exact q) c2, fun _ => sp_X1_lineWidth (d := d + 608) hs c12 (by rw [e 114 (by omega) (by omega) (by omega) (by omega)]; exact hc) (by rw [e 115 (by omega) (by omega) (by omega) (by omega), e 109 (by omega) (by omega) (by omega) (by omega), e 110 (by omega) (by omega) (by omega) (by omega)]; exact hwc) (w_X11_placeWord_36 (d := d + 610) hs ?_)⟩⟩
    refine sp_X1_wordWidth (d := d + 609) hs (by omega) (by rw [e 109 (by omega) (by omega) (by omega) (by omega), e 110 (by omega) (by omega) (by omega) (by omega)]; exact o1) (w_X11_placeWord_51 (d := d + 610) hs (sp_X3_manyIn hs c12 (by rw [e 114 (by omega) (by omega) (by omega) (by omega)]; exact hc) ?_))
    rw [e 102 (by omega) (by omega) (by omega) (by omega), e 101 (by omega) (by omega) (by omega) (by omega), e 109 (by omega) (by omega) (by omega) (by omega), e 110 (by omega) (by omega) (by omega) (by omega), e 115 (by omega) (by omega) (by omega) (by omega), e 116 (by omega) (by omega) (by omega) (by omega), e 114 (by omega) (by omega) (by omega) (by omega), h5']
    have kl2' := kl2
    unfold hl_w at kl2'
    rw [kl2', kw2, nI_add]
    refine w_X11_placeWord_61 (d := d + 610) hs ⟨fun g => ?_, fun g => ?_⟩
    · have h0 : hf_cnt (I 116) (nI ln) c' = 0 := by
        rcases Nat.eq_zero_or_pos (hf_cnt (I 116) (nI ln) c') with q | q
        · exact q
        · exact absurd g (nI_nle q (by omega))
      rw [if_pos h0] at hwid
      exact hbC _ (by rw [← hwid]; rfl)
    · have h0 : ¬ hf_cnt (I 116) (nI ln) c' = 0 := fun q => g (by rw [q]; decide)
      rw [if_neg h0] at hwid
      refine hbC _ ?_
      rw [e 102 (by omega) (by omega) (by omega) (by omega), e 101 (by omega) (by omega) (by omega) (by omega), kb2, nI_add, hwid]
  have modG : ∀ (L : hf_L) (C : hf_I) (k n : Nat) (Q : Option Value → hf_M → Prop), nz3 I C → (kh < wid → Q (some (.int (-3))) (t, T, C, L, P)) → (¬ kh < wid → ∀ C', nz3 I C' → kpc C C' → hf_G X Y_X12_setsKept (d + 611) k n 91 [some (.ref 156), some (.int (nI i)), some (.int (nI ln)), some (.int (nI wid))] [.int (hf_b bar)] (t, T, C', L, P) Q) → hf_G X Y_X12_setsKept (d + 611) k n 0 (hf_en [.ref 156, .int (nI i)] 4) [] (t, T, C, L, P) Q := by
    intro L C k n Q hC p1 p2
    obtain ⟨e158, e27⟩ := cm hC
    have hbM : ∀ (ww : Int32), ww = nI wid → (C 158 313 < ww → Q (some (.int (-3))) (t, T, C, L, P)) ∧ (¬ C 158 313 < ww → hf_G X Y_X12_isBarred (d + 610) 0 0 0 (hf_en [.ref 156, .int (nI i), .int (C 158 315)] 3) [] (t, T, C, L, P) (fun r M => hf_G X Y_X12_setsKept (d + 611) k n 91 [some (.ref 156), some (.int (nI i)), some (.int (nI ln)), some (.int ww)] (r.toList ++ []) M Q)) := by
      intro ww hww
      rw [hww, e158, ← t3.1, kh2, nI_ltI (by omega) (by omega)]
      refine ⟨p1, fun g => ms_isBarred (d := d + 1) hs (hlM hC) (lw_gd hlc) (by omega) fun C' f' => ?_⟩
      rw [e158, ← b0', ← b1', ← b2', ← b3', ← t5.1, ← t1.1, ← t2.1, hbar]
      exact p2 g C' (nz3_jm hC f') (kpc_jm f')
    refine w_X12_setsKept_0 (d := d + 609) hs ?_
    rw [e158]
    refine ⟨fun q => absurd q c1, fun _ => ⟨fun q => absurd q c2m, fun _ => sp_X12_broadIn (d := d + 608) hs c12 (by rw [e158]; exact hm) (by rw [e158]; exact hwm) (w_X12_setsKept_24 (d := d + 610) hs (sp_X12_broadOf (d := d + 609) hs (by omega) (by rw [e158, ef]; exact o2) (w_X12_setsKept_37 (d := d + 610) hs (sp_X12_manyIn hs c12 (by rw [e158]; exact hm) ?_))))⟩⟩
    have lw2' := lw2
    unfold hl_wm at lw2'
    rw [e158, h6, wd2, ← ecnt]
    rw [ecnt, lw2', ← ecnt, nI_add]
    refine w_X12_setsKept_43 (d := d + 610) hs ⟨fun g => ?_, fun g => ?_⟩
    · have h0 : hf_cnt (I 116) (nI ln) c' = 0 := by
        rcases Nat.eq_zero_or_pos (hf_cnt (I 116) (nI ln) c') with q | q
        · exact q
        · exact absurd g (nI_nle q (by omega))
      rw [if_pos h0] at hwid
      exact hbM _ (by rw [← hwid, Int32.add_zero]; rfl)
    · have h0 : ¬ hf_cnt (I 116) (nI ln) c' = 0 := fun q => g (by rw [q]; decide)
      rw [if_neg h0] at hwid
      refine hbM _ ?_
      rw [e158, bl2, nI_add, hwid]
  by_cases h3' : kh < wid
  · exact bad (-3) (Or.inr (Or.inl rfl)) (fun L C k n Q hC h => clsG L C k n Q hC (fun _ => h C hC kpm_rf) (fun g => absurd h3' g)) (fun L C k n Q hC h => modG L C k n Q hC (fun _ => h C hC kpc_rf) (fun g => absurd h3' g))
  cases bar with
  | true => exact bad (-3) (Or.inr (Or.inl rfl)) (fun L C k n Q hC h => clsG L C k n Q hC (fun g => absurd g h3') (fun _ C' hC' kp => w_X11_placeWord_109 (d := d + 610) hs ⟨fun g => absurd g (by decide), fun _ => h C' hC' kp⟩)) (fun L C k n Q hC h => modG L C k n Q hC (fun g => absurd g h3') (fun _ C' hC' kp => w_X12_setsKept_91 (d := d + 610) hs ⟨fun g => absurd g (by decide), fun _ => h C' hC' kp⟩))
  | false =>
    by_cases hfull : c' = 12
    · refine bad (-5) (Or.inr (Or.inr rfl)) (fun L C k n Q hC h => clsG L C k n Q hC (fun g => absurd g h3') (fun _ C' hC' kp => w_X11_placeWord_109 (d := d + 610) hs ⟨fun _ => ⟨fun g => absurd g ?_, fun _ => h C' hC' kp⟩, fun g => absurd rfl g⟩)) (fun L C k n Q hC h => modG L C k n Q hC (fun g => absurd g h3') (fun _ C' hC' kp => w_X12_setsKept_91 (d := d + 610) hs ⟨fun _ => ⟨fun g => absurd ?_ g, fun _ => h C' hC' kp⟩, fun g => absurd rfl g⟩))
      · rw [cc hC' 114 (by omega) (by omega) (by omega) (by omega), hc, hfull]; decide
      · rw [(cm hC').1, hm, hfull]; rfl
    · obtain ⟨nx, u, v, s, k1, k2, k3, k4, k5, k6, k7, k8⟩ := hf_ud_keep (kd := 0) (by decide) hSM hud
      have frc : hf_fr I (hf_up (hf_up (hf_up (hf_kc I nx u 0) 115 c' (nI i)) 116 c' (nI ln)) 114 2 (nI c' + 1)) := hf_fr_up (hf_fr_up (hf_fr_up hf_fr_kc (by omega)) (by omega)) (by omega)
      have frm : hf_fr I (hf_up (hf_up (hf_up (hf_km I v s 0) 158 c' (nI i)) 158 (12 + c') (nI ln)) 158 24 (nI c' + 1)) := hf_fr_up (hf_fr_up (hf_fr_up hf_fr_km (by omega)) (by omega)) (by omega)
      have fr := hf_fr_mix frc frm
      refine ⟨nI kh - nI wid, hf_mix (hf_up (hf_up (hf_up (hf_kc I nx u 0) 115 c' (nI i)) 116 c' (nI ln)) 114 2 (nI c' + 1)) (hf_up (hf_up (hf_up (hf_km I v s 0) 158 c' (nI i)) 158 (12 + c') (nI ln)) 158 24 (nI c' + 1)), ⟨fun L C k n Q hC h => clsG L C k n Q hC (fun g => absurd g h3') (fun _ C' hC' kp => ?_), fun L C k n Q hC h => modG L C k n Q hC (fun g => absurd g h3') (fun _ C' hC' kp => ?_)⟩, hf_SM_hd hSM fr ?_ rfl ?_, k8, fr, Or.inl (by rw [pk_sub (by omega)]; exact nI_pos' (by omega)), fun _ => rfl, rfl⟩
      · have e := cc hC'
        refine w_X11_placeWord_109 (d := d + 610) hs ⟨fun _ => ⟨fun _ => cs_keep (d := d + 609) hs k1 (by rw [e 148 (by omega) (by omega) (by omega) (by omega)]; exact k5) k2 (by rw [e 148 (by omega) (by omega) (by omega) (by omega)]; exact k6) (w_X11_placeWord_136 (d := d + 610) hs (w_X3_add_0 hs ?_)), fun g => absurd ?_ g⟩, fun g => absurd rfl g⟩
        · have x2 : hf_kc C' nx u 0 114 2 = nI c' := by show C' 114 2 = _; rw [e 114 (by omega) (by omega) (by omega) (by omega)]; exact hc
          have x3 : hf_kc C' nx u 0 114 3 = nI ln := by show C' 114 3 = _; rw [e 114 (by omega) (by omega) (by omega) (by omega)]; exact h5'
          rw [x2, x3, nI_clamp (show c' < 2 ^ 31 by omega)]
          refine ⟨fun _ => ⟨vp_in_nI (by omega) (by omega), vp_in_nI (by omega) (by omega), w_X11_placeWord_141 hs ?_⟩, fun g => absurd (nI_lt (b := 12) (by omega) (by omega)) g⟩
          have x12 : hf_up (hf_up (hf_up (hf_kc C' nx u 0) 115 c' (nI i)) 116 c' (nI ln)) 114 2 (nI c' + 1) 101 12 = nI kh := by show C' 101 12 = _; rw [e 101 (by omega) (by omega) (by omega) (by omega)]; exact kh2
          rw [x12]
          refine h _ (nzc_mix (nzc_up (nzc_up (nzc_up (nzc_kc hC') ?_) ?_) ?_)) (kpm_tr kp (kpm_up (kpm_up (kpm_up kpm_kc (by omega)) (by omega)) (by omega)))
          · exact e 115 (by omega) (by omega) (by omega) (by omega)
          · exact e 116 (by omega) (by omega) (by omega) (by omega)
          · exact e 114 (by omega) (by omega) (by omega) (by omega)
        · rw [e 114 (by omega) (by omega) (by omega) (by omega), hc]
          exact nI_lt (b := 12) (by omega) (by omega)
      · obtain ⟨e158, e27⟩ := cm hC'
        refine w_X12_setsKept_91 (d := d + 610) hs ⟨fun _ => ⟨fun _ => ms_keeps hs k2 (by rw [e27]; exact k7) k3 k4 (w_X12_setsKept_117 hs ?_), fun g => absurd ((nI_eq (b := 12) (by omega) (by omega)).mp (by rw [e158, hm] at g; exact g)) hfull⟩, fun g => absurd rfl g⟩
        have x24 : hf_km C' v s 0 158 24 = nI c' := by show C' 158 24 = _; rw [e158]; exact hm
        rw [x24, hf_i0, nI_clamp (show c' < 2 ^ 31 by omega)]
        have y24 : hf_up (hf_km C' v s 0) 158 c' (nI i) 158 24 = nI c' := by
          show upd (hf_km C' v s 0 158) c' (nI i) 24 = _
          rw [hf_upd_ne (by omega)]; exact x24
        rw [y24, hf_i12, nI_clamp (show 12 + c' < 2 ^ 31 by omega)]
        have z24 : hf_up (hf_up (hf_km C' v s 0) 158 c' (nI i)) 158 (12 + c') (nI ln) 158 24 = nI c' := by
          show upd (hf_up (hf_km C' v s 0) 158 c' (nI i) 158) (12 + c') (nI ln) 24 = _
          rw [hf_upd_ne (by omega)]; exact y24
        rw [z24]
        have x313 : hf_up (hf_up (hf_up (hf_km C' v s 0) 158 c' (nI i)) 158 (12 + c') (nI ln)) 158 24 (nI c' + 1) 158 313 = nI kh := by
          show upd (upd (upd (C' 158) c' (nI i)) (12 + c') (nI ln)) 24 (nI c' + 1) 313 = _
          rw [hf_upd_ne (by omega), hf_upd_ne (by omega), hf_upd_ne (by omega), e158, ← t3.1]
          exact kh2
        rw [x313]
        have n1 := nz3_up (a := 158) (j := c') (v := nI i) (nz3_km (w := v) (s := s) (kd := 0) hC') (Or.inr e158)
        have n2 := nz3_up (a := 158) (j := 12 + c') (v := nI ln) n1 (Or.inr (n1.1 158 (by omega) (by omega) (by omega)))
        have n3 := nz3_up (a := 158) (j := 24) (v := nI c' + 1) n2 (Or.inr (n2.1 158 (by omega) (by omega) (by omega)))
        exact ⟨vp_in_nI (by omega) (by omega), vp_in_nI (by omega) (by omega), h _ (nz3_mix n3) (kpc_tr kp (kpc_up (kpc_up (kpc_up kpc_km (by omega) (by omega)) (by omega) (by omega)) (by omega) (by omega)))⟩
      · show upd (upd (upd (I 158) c' (nI i)) (12 + c') (nI ln)) 24 (nI c' + 1) 315 = I 158 315
        rw [hf_upd_ne (by omega), hf_upd_ne (by omega), hf_upd_ne (by omega)]
      · refine ⟨c' + 1, ln, by omega, h2, nI_1 c', ?_, h5', ?_, fun j hj => ?_⟩
        · show upd (upd (upd (I 158) c' (nI i)) (12 + c') (nI ln)) 24 (nI c' + 1) 24 = _
          rw [hf_upd_eq, nI_1]
        · show upd (upd (upd (I 158) c' (nI i)) (12 + c') (nI ln)) 24 (nI c' + 1) 25 = _
          rw [hf_upd_ne (by omega), hf_upd_ne (by omega), hf_upd_ne (by omega)]
          exact h6
        · show (upd (I 115) c' (nI i) j = upd (upd (upd (I 158) c' (nI i)) (12 + c') (nI ln)) 24 (nI c' + 1) j ∧ 0 ≤ upd (I 115) c' (nI i) j ∧ upd (I 115) c' (nI i) j < I 105 5) ∧ ∃ q, q ≤ ln ∧ upd (I 116) c' (nI ln) j = nI q ∧ upd (upd (upd (I 158) c' (nI i)) (12 + c') (nI ln)) 24 (nI c' + 1) (12 + j) = nI q
          by_cases ej : j = c'
          · subst ej
            rw [hf_upd_eq, hf_upd_eq, hf_upd_ne (show ¬ j = 24 by omega), hf_upd_ne (show ¬ j = 12 + j by omega), hf_upd_eq, hf_upd_ne (show ¬ 12 + j = 24 by omega), hf_upd_eq, w2]
            exact ⟨⟨rfl, nI_pos' (by omega), nI_lt hiw (by omega)⟩, ln, Nat.le_refl _, rfl, rfl⟩
          · rw [hf_upd_ne ej, hf_upd_ne ej, hf_upd_ne (show ¬ j = 24 by omega), hf_upd_ne (show ¬ j = 12 + c' by omega), hf_upd_ne ej, hf_upd_ne (show ¬ 12 + j = 24 by omega), hf_upd_ne (show ¬ 12 + j = 12 + c' by omega), hf_upd_ne (show ¬ 12 + j = c' by omega)]
            exact h7 j (by omega)
end TW3
