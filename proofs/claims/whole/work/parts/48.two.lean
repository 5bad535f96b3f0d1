/-! both sides, each on its own cells -/
def hf_mix (C M : hf_I) : hf_I := fun a => match Nat.ble 156 a && Nat.ble a 180 with
  | true => M a
  | false => C a
theorem hf_mix_self {I : hf_I} : hf_mix I I = I := by
  funext a
  unfold hf_mix
  split <;> rfl
theorem hf_mix_c {C M : hf_I} {a : Nat} (h : (Nat.ble 156 a && Nat.ble a 180) = false) : hf_mix C M a = C a := by
  unfold hf_mix
  rw [h]
theorem hf_mix_m {C M : hf_I} {a : Nat} (h : (Nat.ble 156 a && Nat.ble a 180) = true) : hf_mix C M a = M a := by
  unfold hf_mix
  rw [h]
theorem hf_mix_upc {C M : hf_I} {a j : Nat} {v : Int32} (h : (Nat.ble 156 a && Nat.ble a 180) = false) : hf_up (hf_mix C M) a j v = hf_mix (hf_up C a j v) M := by
  funext b
  unfold hf_up hf_mix
  by_cases e : b = a
  · subst e; simp [h]
  · simp [e]
theorem hf_mix_upm {C M : hf_I} {a j : Nat} {v : Int32} (h : (Nat.ble 156 a && Nat.ble a 180) = true) : hf_up (hf_mix C M) a j v = hf_mix C (hf_up M a j v) := by
  funext b
  unfold hf_up hf_mix
  by_cases e : b = a
  · subst e; simp [h]
  · simp [e]
theorem hf_mix_setc {C M : hf_I} {a : Nat} {g : Nat → Int32} (h : (Nat.ble 156 a && Nat.ble a 180) = false) : hf_set (hf_mix C M) a g = hf_mix (hf_set C a g) M := by
  funext b
  unfold hf_set hf_mix
  by_cases e : b = a
  · subst e; simp [h]
  · simp [e]
theorem hf_mix_setm {C M : hf_I} {a : Nat} {g : Nat → Int32} (h : (Nat.ble 156 a && Nat.ble a 180) = true) : hf_set (hf_mix C M) a g = hf_mix C (hf_set M a g) := by
  funext b
  unfold hf_set hf_mix
  by_cases e : b = a
  · subst e; simp [h]
  · simp [e]
/-- from the virtual cells I the class's method and the model's give the same and go to the virtual cells I' -/
def hf_two (X : hf_X) (Yc Ym : hf_Y) (ac am : List Value) (d t : Nat) (T : hf_T) (P : hf_P) (I : hf_I) (v : Int32) (I' : hf_I) : Prop :=
  (∀ (L : hf_L) (M0 : hf_I) (k n : Nat) (Q : Option Value → hf_M → Prop), Q (some (.int v)) (t, T, hf_mix I' M0, L, P) → hf_G X Yc d k n 0 (hf_en ac Yc.2.2.1) [] (t, T, hf_mix I M0, L, P) Q) ∧
  (∀ (L : hf_L) (C0 : hf_I) (k n : Nat) (Q : Option Value → hf_M → Prop), Q (some (.int v)) (t, T, hf_mix C0 I', L, P) → hf_G X Ym d k n 0 (hf_en am Ym.2.2.1) [] (t, T, hf_mix C0 I, L, P) Q)
/-- what calls on the HEAD leave alone -/
def hf_fr (I J : hf_I) : Prop := (∀ a, ¬ a = 101 → ¬ a = 114 → ¬ a = 115 → ¬ a = 116 → ¬ a = 132 → ¬ a = 133 → ¬ a = 134 → ¬ a = 148 → ¬ a = 149 → ¬ a = 156 → ¬ a = 158 → ¬ a = 168 → ¬ a = 169 → J a = I a) ∧ (∀ j, ¬ j = 14 → J 101 j = I 101 j) ∧ (∀ j, j < 19 ∨ 28 ≤ j → J 156 j = I 156 j) ∧ (∀ j, 26 ≤ j → ¬ j = 315 → J 158 j = I 158 j)
theorem hf_fr_rf {I : hf_I} : hf_fr I I := ⟨fun _ _ _ _ _ _ _ _ _ _ _ _ _ _ => rfl, fun _ _ => rfl, fun _ _ => rfl, fun _ _ _ => rfl⟩
theorem hf_fr_tr {I J K : hf_I} (h : hf_fr I J) (g : hf_fr J K) : hf_fr I K := ⟨fun a h1 h2 h3 h4 h5 h6 h7 h8 h9 h10 h11 h12 h13 => (g.1 a h1 h2 h3 h4 h5 h6 h7 h8 h9 h10 h11 h12 h13).trans (h.1 a h1 h2 h3 h4 h5 h6 h7 h8 h9 h10 h11 h12 h13), fun j hj => (g.2.1 j hj).trans (h.2.1 j hj), fun j hj => (g.2.2.1 j hj).trans (h.2.2.1 j hj), fun j h1 h2 => (g.2.2.2 j h1 h2).trans (h.2.2.2 j h1 h2)⟩
theorem hf_fr_up {I J : hf_I} {a j : Nat} {v : Int32} (h : hf_fr I J) (ha : a = 114 ∨ a = 115 ∨ a = 116 ∨ a = 132 ∨ a = 133 ∨ a = 134 ∨ a = 148 ∨ a = 149 ∨ a = 168 ∨ a = 169 ∨ (a = 101 ∧ j = 14) ∨ (a = 156 ∧ 19 ≤ j ∧ j < 28) ∨ (a = 158 ∧ (j < 26 ∨ j = 315))) : hf_fr I (hf_up J a j v) := by
  refine ⟨fun b h1 h2 h3 h4 h5 h6 h7 h8 h9 h10 h11 h12 h13 => ?_, fun i hi => ?_, fun i hi => ?_, fun i h1 h2 => ?_⟩
  · rw [← h.1 b h1 h2 h3 h4 h5 h6 h7 h8 h9 h10 h11 h12 h13]
    unfold hf_up
    rw [if_neg (by omega)]
  · rw [← h.2.1 i hi]
    unfold hf_up
    by_cases e : 101 = a
    · rw [if_pos e, hf_upd_ne (by omega), e]
    · rw [if_neg e]
  · rw [← h.2.2.1 i hi]
    unfold hf_up
    by_cases e : 156 = a
    · rw [if_pos e, hf_upd_ne (by omega), e]
    · rw [if_neg e]
  · rw [← h.2.2.2 i h1 h2]
    unfold hf_up
    by_cases e : 158 = a
    · rw [if_pos e, hf_upd_ne (by omega), e]
    · rw [if_neg e]
theorem hf_fr_set {I J : hf_I} {a : Nat} {g : Nat → Int32} (h : hf_fr I J) (ha : a = 114 ∨ a = 115 ∨ a = 116 ∨ a = 132 ∨ a = 133 ∨ a = 134 ∨ a = 148 ∨ a = 149 ∨ a = 168 ∨ a = 169) : hf_fr I (hf_set J a g) := by
  refine ⟨fun b h1 h2 h3 h4 h5 h6 h7 h8 h9 h10 h11 h12 h13 => ?_, fun i hi => ?_, fun i hi => ?_, fun i h1 h2 => ?_⟩
  · rw [← h.1 b h1 h2 h3 h4 h5 h6 h7 h8 h9 h10 h11 h12 h13]
    unfold hf_set
    rw [if_neg (by omega)]
  · rw [← h.2.1 i hi]
    unfold hf_set
    rw [if_neg (by omega)]
  · rw [← h.2.2.1 i hi]
    unfold hf_set
    rw [if_neg (by omega)]
  · rw [← h.2.2.2 i h1 h2]
    unfold hf_set
    rw [if_neg (by omega)]
def hf_ud (I : hf_I) : Prop := S_ud (I 105 5) (I 148) (I 149) (I 156 27) (I 169)
theorem hf_mix_l {A B M : hf_I} : hf_mix (hf_mix A B) M = hf_mix A M := by
  funext a
  unfold hf_mix
  split <;> rfl
theorem hf_mix_r {A B C : hf_I} : hf_mix C (hf_mix A B) = hf_mix C B := by
  funext a
  unfold hf_mix
  split <;> rfl
theorem hf_fr_mix {I A B : hf_I} (ha : hf_fr I A) (hb : hf_fr I B) : hf_fr I (hf_mix A B) := by
  refine ⟨fun b h1 h2 h3 h4 h5 h6 h7 h8 h9 h10 h11 h12 h13 => ?_, fun i hi => ha.2.1 i hi, fun i hi => hb.2.2.1 i hi, fun i h1 h2 => hb.2.2.2 i h1 h2⟩
  unfold hf_mix
  split
  · exact hb.1 b h1 h2 h3 h4 h5 h6 h7 h8 h9 h10 h11 h12 h13
  · exact ha.1 b h1 h2 h3 h4 h5 h6 h7 h8 h9 h10 h11 h12 h13
theorem hf_ml_lo {old kp : Nat → Int32} {kd : Int32} {v s i : Nat} (h : i < 27 * v) : hf_ml old kp kd v s i = old (i + 27 * s) := by
  unfold hf_ml
  rw [if_pos h]
theorem hf_ml_in {old kp : Nat → Int32} {kd : Int32} {v s j : Nat} (h : j < 26) : hf_ml old kp kd v s (27 * v + j) = kp j := by
  unfold hf_ml
  rw [if_neg (by omega), if_pos (by omega), Nat.add_sub_cancel_left]
theorem hf_ml_26 {old kp : Nat → Int32} {kd : Int32} {v s : Nat} : hf_ml old kp kd v s (27 * v + 26) = kd := by
  unfold hf_ml
  rw [if_neg (by omega), if_neg (by omega), if_pos rfl]
theorem hf_fr_kc {I : hf_I} {nx u : Nat} {kd : Int32} : hf_fr I (hf_kc I nx u kd) := hf_fr_set (hf_fr_set hf_fr_rf (by omega)) (by omega)
theorem hf_fr_km {I : hf_I} {v s : Nat} {kd : Int32} : hf_fr I (hf_km I v s kd) := by
  unfold hf_km
  have h := hf_fr_set (a := 169) (g := hf_ml (I 169) (I 158) kd v s) (hf_fr_rf (I := I)) (by omega)
  refine ⟨fun b h1 h2 h3 h4 h5 h6 h7 h8 h9 h10 h11 h12 h13 => ?_, fun i hi => rfl, fun i hi => ?_, fun i h1 h2 => rfl⟩
  · rw [← h.1 b h1 h2 h3 h4 h5 h6 h7 h8 h9 h10 h11 h12 h13]
    unfold hf_set
    rw [if_neg h10]
  · show upd (I 156) 27 (nI (v + 1)) i = I 156 i
    exact hf_upd_ne (by omega)
theorem hf_kc_mix {C M : hf_I} {nx u : Nat} {kd : Int32} : hf_kc (hf_mix C M) nx u kd = hf_mix (hf_kc C nx u kd) M := by
  unfold hf_kc
  rw [← hf_mix_setc (by decide), ← hf_mix_setc (by decide)]
  rfl
theorem hf_km_mix {C M : hf_I} {v s : Nat} {kd : Int32} : hf_km (hf_mix C M) v s kd = hf_mix C (hf_km M v s kd) := by
  unfold hf_km
  rw [← hf_mix_setm (by decide), ← hf_mix_setm (by decide)]
  rfl
/-- another HEAD, the rest as it was -/
theorem hf_SM_hd {I J : hf_I} (h : hf_SM I) (hf : hf_fr I J) (h315 : J 158 315 = I 158 315) (h14 : J 101 14 = I 101 14) (hh : S_hd (J 105) (J 114) (J 115) (J 116) (J 158)) : hf_SM J := by
  obtain ⟨m1, m2, m3, m4, m5, m6, m7, m8, m9, m10⟩ := h
  obtain ⟨f1, f2, f3, f4⟩ := hf
  have hk : ∀ j, 26 ≤ j → J 158 j = I 158 j := fun j hj => by
    by_cases e : j = 315
    · rw [e]; exact h315
    · exact f4 j hj e
  have h101 : J 101 = I 101 := funext fun j => by
    by_cases e : j = 14
    · rw [e]; exact h14
    · exact f2 j e
  have ec : ∀ a, (102 ≤ a ∧ a ≤ 113) ∨ (117 ≤ a ∧ a ≤ 120) → J a = I a := fun a ha => f1 a (by omega) (by omega) (by omega) (by omega) (by omega) (by omega) (by omega) (by omega) (by omega) (by omega) (by omega) (by omega) (by omega)
  unfold hf_SM hf_SD
  refine ⟨?_, ?_, ?_, ?_, ?_, ?_, hh, ?_, ?_, ?_⟩
  · rw [ec 102 (by omega)]; exact S_br_fr (fun i _ _ => hk i (by omega)) m1
  · rw [ec 103 (by omega)]; exact S_wo_fr (fun i _ _ => hk i (by omega)) m2
  · rw [ec 104 (by omega), h101]; exact S_tm_fr (fun i _ _ => hk i (by omega)) m3
  · rw [ec 105 (by omega), ec 106 (by omega), ec 107 (by omega), ec 108 (by omega), ec 109 (by omega), ec 110 (by omega)]; exact S_wd_fr (fun i _ _ => hk i (by omega)) (hk 316 (by omega)) m4
  · rw [ec 112 (by omega), h101]; exact S_sy_fr (fun i _ _ => hk i (by omega)) (hk 317 (by omega)) m5
  · rw [ec 105 (by omega), ec 113 (by omega)]; exact S_nx_fr (fun i _ _ => hk i (by omega)) m6
  · rw [ec 117 (by omega), h101]; exact S_se_fr (fun i _ _ => hk i (by omega)) (hk 318 (by omega)) m8
  · rw [ec 118 (by omega), ec 119 (by omega), ec 120 (by omega), h101]; exact S_ma_fr (fun i _ _ => hk i (by omega)) (hk 319 (by omega)) m9
  · rw [h101]; exact S_lf_fr (fun i _ _ => hk i (by omega)) m10
section TWO
variable {X : hf_X} {d t : Nat} {T : hf_T} {I : hf_I} {P : hf_P}
/-- how the rows for undo stand, for a keeping -/
theorem hf_ud_keep {kd : Int32} (hkd : 0 ≤ kd ∧ kd ≤ 2) (hSM : hf_SM I) (hud : hf_ud I) : ∃ nx u v s, nx < 16 ∧ u ≤ 16 ∧ v + s = u ∧ (s = 1 ∧ u = 16 ∨ s = 0 ∧ u < 16) ∧ I 148 1 = nI nx ∧ I 148 2 = nI u ∧ I 156 27 = nI u ∧ hf_ud (hf_mix (hf_kc I nx u kd) (hf_km I v s kd)) := by
  obtain ⟨m1, m2, m3, m4, m5, m6, m7, m8, m9, m10⟩ := hSM
  obtain ⟨u, nx, h1, h2, h3, h4, h5, h6⟩ := hud
  have hvs : ∃ v s, v + s = u ∧ (s = 1 ∧ u = 16 ∨ s = 0 ∧ u < 16) := by
    by_cases q : u < 16
    · exact ⟨u, 0, by omega, Or.inr ⟨rfl, q⟩⟩
    · exact ⟨15, 1, by omega, Or.inl ⟨rfl, by omega⟩⟩
  obtain ⟨v, s, hv, hsu⟩ := hvs
  exact ⟨nx, u, v, s, h2, h1, hv, hsu, h5, h3, h4, S_ud_keep (mu := I 156 27) h1 h2 hv hsu hkd h6 m7 (fun i hi => hf_pk_out hi) (fun j hj => hf_pk_in hj) hf_pk_24 hf_pk_25 hf_pk_26 (fun i hi => hf_ml_lo hi) (fun j hj => hf_ml_in hj) hf_ml_26⟩
/-- an op on the HEAD: same answer, related again, the rest left alone -/
def hf_sub2 (X : hf_X) (Yc Ym : hf_Y) (ac am : List Value) (d t : Nat) (T : hf_T) (P : hf_P) (I : hf_I) : Prop := ∃ v I', hf_two X Yc Ym ac am d t T P I v I' ∧ hf_SM I' ∧ hf_ud I' ∧ hf_fr I I' ∧ (0 ≤ v ∨ v = -1 ∨ v = -2 ∨ v = -3 ∨ v = -5) ∧ (v < 0 → I' 101 14 = I 101 14)
theorem S_hd_pl {W H hw hl kp : Nat → Int32} (h : S_hd W H hw hl kp) : ∃ c ln, c ≤ 12 ∧ ln ≤ 3 ∧ H 2 = nI c ∧ kp 24 = nI c ∧ H 3 = nI ln ∧ kp 25 = nI ln ∧ hf_cnt hl (nI ln) c = hf_cnt (fun j => kp (12 + j)) (nI ln) c := by
  obtain ⟨c, ln, h1, h2, h3, h4, h5, h6, h7⟩ := h
  refine ⟨c, ln, h1, h2, h3, h4, h5, h6, hf_cnt_congr fun j hj => ?_⟩
  obtain ⟨-, q, -, e1, e2⟩ := h7 j hj
  rw [e1, e2]
theorem sub_turn (hs : hf_Lay t T P) (hSM : hf_SM I) (hud : hf_ud I) : hf_sub2 X Y_X11_turnLine Y_X12_turnsKept [.ref 100] [.ref 156] (d + 2) t T P I := by
  obtain ⟨m1, m2, m3, m4, m5, m6, m7, m8, m9, m10⟩ := id hSM
  obtain ⟨c, ln, g1, g2, g3, g4, g5, g6, g7⟩ := S_hd_pl m7
  obtain ⟨t1, t2, t3, ⟨t4, t5, t6⟩, t7⟩ := id m3
  have hcl := hf_cnt_le (I 116) (nI ln) c
  have hz : (nI (hf_cnt (I 116) (nI ln) c) = 0) ↔ hf_cnt (I 116) (nI ln) c = 0 := nI_eq (b := 0) (by omega) (by omega)
  have no : ∀ h0 : nI (hf_cnt (I 116) (nI ln) c) = 0 ∨ ¬ nI ln + 1 < I 101 13, hf_sub2 X Y_X11_turnLine Y_X12_turnsKept [.ref 100] [.ref 156] (d + 2) t T P I := by
    intro h0
    refine ⟨-3, I, ⟨fun L M0 k n Q h => ?_, fun L C0 k n Q h => ?_⟩, hSM, hud, hf_fr_rf, by decide, fun _ => rfl⟩
    · refine w_X11_turnLine_0 (d := d + 1) hs (sp_X3_manyIn hs g1 g3 ?_)
      show hf_G X Y_X11_turnLine _ _ _ 16 _ [.int (nI (hf_cnt (I 116) (I 114 3) c))] (t, T, hf_mix I M0, L, P) Q
      rw [g5]
      refine w_X11_turnLine_16 (d := d + 1) hs ⟨fun _ => h, fun q => ⟨fun q2 => ?_, fun _ => h⟩⟩
      have q2' : I 114 3 + 1 < I 101 13 := q2
      rw [g5] at q2'
      rcases h0 with h0 | h0
      · exact absurd h0 q
      · exact absurd q2' h0
    · refine w_X12_turnsKept_0 (d := d + 1) hs (sp_X12_manyIn hs g1 g4 ?_)
      show hf_G X Y_X12_turnsKept _ _ _ 11 _ [.int (nI (hf_cnt (fun j => I 158 (12 + j)) (I 158 25) c))] (t, T, hf_mix C0 I, L, P) Q
      rw [g6, ← g7]
      refine w_X12_turnsKept_11 (d := d + 1) hs ⟨fun _ => h, fun q => ⟨fun q2 => ?_, fun _ => h⟩⟩
      have q2' : I 158 25 + 1 < I 158 314 := q2
      rw [g6, ← t4] at q2'
      rcases h0 with h0 | h0
      · exact absurd h0 q
      · exact absurd q2' h0
  by_cases hm : nI (hf_cnt (I 116) (nI ln) c) = 0
  · exact no (Or.inl hm)
  by_cases hl : nI ln + 1 < I 101 13
  · obtain ⟨nx, u, v, s, k1, k2, k3, k4, k5, k6, k7, k8⟩ := hf_ud_keep (kd := 1) (by decide) hSM hud
    have hln : ln + 1 ≤ 3 := by
      rcases Nat.lt_or_ge ln 3 with q | q
      · omega
      · refine absurd (Int32.lt_of_lt_of_le hl t6) ?_
        rw [show ln = 3 by omega]
        decide
    have fr : hf_fr I (hf_mix (hf_up (hf_kc I nx u 1) 114 3 (nI ln + 1)) (hf_up (hf_km I v s 1) 158 25 (nI ln + 1))) := hf_fr_mix (hf_fr_up hf_fr_kc (by omega)) (hf_fr_up hf_fr_km (by omega))
    refine ⟨nI ln + 1, hf_mix (hf_up (hf_kc I nx u 1) 114 3 (nI ln + 1)) (hf_up (hf_km I v s 1) 158 25 (nI ln + 1)), ⟨fun L M0 k n Q h => ?_, fun L C0 k n Q h => ?_⟩, hf_SM_hd hSM fr rfl rfl ?_, k8, fr, Or.inl (by rw [nI_1]; exact nI_pos' (by omega)), fun _ => rfl⟩
    · rw [hf_mix_l] at h
      refine w_X11_turnLine_0 (d := d + 1) hs (sp_X3_manyIn hs g1 g3 ?_)
      show hf_G X Y_X11_turnLine _ _ _ 16 _ [.int (nI (hf_cnt (I 116) (I 114 3) c))] (t, T, hf_mix I M0, L, P) Q
      rw [g5]
      refine w_X11_turnLine_16 (d := d + 1) hs ⟨fun q => absurd q hm, fun _ => ⟨fun _ => cs_keep hs k1 k5 k2 k6 (w_X11_turnLine_47 hs ?_), fun q => absurd ?_ q⟩⟩
      · rw [hf_kc_mix, hf_mix_upc (by decide)]
        show Q (some (.int (I 114 3 + 1))) (t, T, hf_mix (hf_up (hf_kc I nx u 1) 114 3 (I 114 3 + 1)) M0, L, P)
        rw [g5]
        exact h
      · show I 114 3 + 1 < I 101 13
        rw [g5]
        exact hl
    · rw [hf_mix_r] at h
      refine w_X12_turnsKept_0 (d := d + 1) hs (sp_X12_manyIn hs g1 g4 ?_)
      show hf_G X Y_X12_turnsKept _ _ _ 11 _ [.int (nI (hf_cnt (fun j => I 158 (12 + j)) (I 158 25) c))] (t, T, hf_mix C0 I, L, P) Q
      rw [g6, ← g7]
      refine w_X12_turnsKept_11 (d := d + 1) hs ⟨fun q => absurd q hm, fun _ => ⟨fun _ => ms_keeps hs k2 k7 k3 k4 (w_X12_turnsKept_42 hs ?_), fun q => absurd ?_ q⟩⟩
      · rw [hf_km_mix, hf_mix_upm (by decide)]
        show Q (some (.int (I 158 25 + 1))) (t, T, hf_mix C0 (hf_up (hf_km I v s 1) 158 25 (I 158 25 + 1)), L, P)
        rw [g6]
        exact h
      · show I 158 25 + 1 < I 158 314
        rw [g6, ← t4]
        exact hl
    · obtain ⟨c', ln', h1, h2, h3, h4, h5, h6, h7⟩ := m7
      obtain rfl : c' = c := (nI_eq (by omega) (by omega)).mp (h3.symm.trans g3)
      obtain rfl : ln' = ln := (nI_eq (by omega) (by omega)).mp (h5.symm.trans g5)
      refine ⟨c', ln' + 1, h1, hln, h3, h4, (nI_1 ln'), (nI_1 ln'), fun j hj => ?_⟩
      obtain ⟨r1, q, r2, r3, r4⟩ := h7 j hj
      refine ⟨⟨?_, r1.2⟩, q, by omega, r3, ?_⟩
      · exact r1.1.trans (hf_upd_ne (f := I 158) (a := 25) (by omega)).symm
      · exact (hf_upd_ne (f := I 158) (a := 25) (by omega)).trans r4
  · exact no (Or.inr hl)
theorem sub_clear (hs : hf_Lay t T P) (hSM : hf_SM I) (hud : hf_ud I) : hf_sub2 X Y_X11_emptyHead Y_X12_clearsKept [.ref 100] [.ref 156] (d + 2) t T P I := by
  obtain ⟨m1, m2, m3, m4, m5, m6, m7, m8, m9, m10⟩ := id hSM
  obtain ⟨c, ln, g1, g2, g3, g4, g5, g6, g7⟩ := S_hd_pl m7
  by_cases hm : nI c = 0
  · refine ⟨-3, I, ⟨fun L M0 k n Q h => ?_, fun L C0 k n Q h => ?_⟩, hSM, hud, hf_fr_rf, by decide, fun _ => rfl⟩
    · exact w_X11_emptyHead_0 (d := d + 1) hs ⟨fun q => absurd (g3.trans hm) q, fun _ => h⟩
    · exact w_X12_clearsKept_0 (d := d + 1) hs ⟨fun q => absurd (g4.trans hm) q, fun _ => h⟩
  · obtain ⟨nx, u, v, s, k1, k2, k3, k4, k5, k6, k7, k8⟩ := hf_ud_keep (kd := 2) (by decide) hSM hud
    have fr : hf_fr I (hf_mix (hf_up (hf_up (hf_kc I nx u 2) 114 2 0) 114 3 0) (hf_up (hf_up (hf_km I v s 2) 158 24 0) 158 25 0)) := hf_fr_mix (hf_fr_up (hf_fr_up hf_fr_kc (by omega)) (by omega)) (hf_fr_up (hf_fr_up hf_fr_km (by omega)) (by omega))
    refine ⟨nI c, hf_mix (hf_up (hf_up (hf_kc I nx u 2) 114 2 0) 114 3 0) (hf_up (hf_up (hf_km I v s 2) 158 24 0) 158 25 0), ⟨fun L M0 k n Q h => ?_, fun L C0 k n Q h => ?_⟩, hf_SM_hd hSM fr rfl rfl ?_, k8, fr, Or.inl (nI_pos' (by omega)), fun _ => rfl⟩
    · rw [hf_mix_l] at h
      refine w_X11_emptyHead_0 (d := d + 1) hs ⟨fun _ => cs_keep hs k1 k5 k2 k6 (w_X11_emptyHead_27 hs ?_), fun q => absurd (g3.symm.trans q) hm⟩
      rw [hf_kc_mix, hf_mix_upc (by decide), hf_mix_upc (by decide)]
      show Q (some (.int (I 114 2))) _
      rw [g3]
      exact h
    · rw [hf_mix_r] at h
      refine w_X12_clearsKept_0 (d := d + 1) hs ⟨fun _ => ms_keeps hs k2 k7 k3 k4 (w_X12_clearsKept_20 hs ?_), fun q => absurd (g4.symm.trans q) hm⟩
      rw [hf_km_mix, hf_mix_upm (by decide), hf_mix_upm (by decide)]
      show Q (some (.int (I 158 24))) _
      rw [g4]
      exact h
    · exact ⟨0, 0, by omega, by omega, rfl, rfl, rfl, rfl, fun j hj => by omega⟩
theorem sub_size {a : Int32} (hs : hf_Lay t T P) (hSM : hf_SM I) (hud : hf_ud I) : hf_sub2 X Y_X11_changeSize Y_X12_sizes [.ref 100, .int a] [.ref 156, .int a] (d + 2) t T P I := by
  obtain ⟨m1, m2, m3, m4, m5, m6, m7, m8, m9, m10⟩ := id hSM
  obtain ⟨c, ln, g1, g2, g3, g4, g5⟩ := id m7
  obtain ⟨t1, t2, t3, t4, t5, t6, t7⟩ := id m3
  have hh : (I 114 2 ≤ 0) ↔ (I 158 24 ≤ 0) := by rw [g3, g4]
  by_cases c1 : a < 0
  · exact ⟨-1, I, ⟨fun L M0 k n Q h => w_X11_changeSize_0 (d := d + 1) hs ⟨fun _ => h, fun q => absurd c1 q⟩, fun L C0 k n Q h => w_X12_sizes_0 (d := d + 1) hs ⟨fun _ => h, fun q => absurd c1 q⟩⟩, hSM, hud, hf_fr_rf, by decide, fun _ => rfl⟩
  by_cases c2 : 2 < a
  · exact ⟨-1, I, ⟨fun L M0 k n Q h => w_X11_changeSize_0 (d := d + 1) hs ⟨fun q => absurd q c1, fun _ => ⟨fun _ => h, fun q => absurd c2 q⟩⟩, fun L C0 k n Q h => w_X12_sizes_0 (d := d + 1) hs ⟨fun q => absurd q c1, fun _ => ⟨fun _ => h, fun q => absurd c2 q⟩⟩⟩, hSM, hud, hf_fr_rf, by decide, fun _ => rfl⟩
  by_cases c3 : I 114 2 ≤ 0
  · refine ⟨I 101 14, hf_mix (hf_up (hf_up I 101 14 a) 148 2 0) (hf_up (hf_up I 158 315 a) 156 27 0), ⟨fun L M0 k n Q h => ?_, fun L C0 k n Q h => ?_⟩, ?_, S_ud_0 hud, hf_fr_mix (hf_fr_up (hf_fr_up hf_fr_rf (by omega)) (by omega)) (hf_fr_up (hf_fr_up hf_fr_rf (by omega)) (by omega)), Or.inl t6, fun q => absurd q (Int32.not_lt.mpr t6)⟩
    · rw [hf_mix_l, ← hf_mix_upc (by decide), ← hf_mix_upc (by decide)] at h
      exact w_X11_changeSize_0 (d := d + 1) hs ⟨fun q => absurd q c1, fun _ => ⟨fun q => absurd q c2, fun _ => ⟨fun _ => h, fun q => absurd c3 q⟩⟩⟩
    · rw [hf_mix_r, ← hf_mix_upm (by decide), ← hf_mix_upm (by decide), t5] at h
      exact w_X12_sizes_0 (d := d + 1) hs ⟨fun q => absurd q c1, fun _ => ⟨fun q => absurd q c2, fun _ => ⟨fun _ => h, fun q => absurd (hh.mp c3) q⟩⟩⟩
    · have hk : ∀ i, ¬ i = 315 → upd (I 158) 315 a i = I 158 i := fun i hi => hf_upd_ne hi
      refine ⟨S_br_fr (fun i _ _ => hk i (by omega)) m1, S_wo_fr (fun i _ _ => hk i (by omega)) m2, ?_, S_wd_fr (fun i _ _ => hk i (by omega)) (hk 316 (by omega)) m4, S_sy_fr (fun i _ _ => hk i (by omega)) (hk 317 (by omega)) m5, S_nx_fr (fun i _ _ => hk i (by omega)) m6, S_h1_fr (fun i _ => hk i (by omega)) m7, S_se_fr (fun i _ _ => hk i (by omega)) (hk 318 (by omega)) m8, S_ma_fr (fun i _ _ => hk i (by omega)) (hk 319 (by omega)) m9, S_lf_fr (fun i _ _ => hk i (by omega)) m10⟩
      show S_tm (I 104) (upd (I 101) 14 a) (upd (I 158) 315 a)
      unfold S_tm
      rw [hk 311 (by omega), hk 312 (by omega), hk 313 (by omega), hk 314 (by omega)]
      exact ⟨t1, t2, t3, t4, rfl, Int32.not_lt.mp c1, Int32.not_lt.mp c2⟩
  · exact ⟨-3, I, ⟨fun L M0 k n Q h => w_X11_changeSize_0 (d := d + 1) hs ⟨fun q => absurd q c1, fun _ => ⟨fun q => absurd q c2, fun _ => ⟨fun q => absurd q c3, fun _ => h⟩⟩⟩, fun L C0 k n Q h => w_X12_sizes_0 (d := d + 1) hs ⟨fun q => absurd q c1, fun _ => ⟨fun q => absurd q c2, fun _ => ⟨fun q => absurd (hh.mpr q) c3, fun _ => h⟩⟩⟩⟩, hSM, hud, hf_fr_rf, by decide, fun _ => rfl⟩
end TWO
