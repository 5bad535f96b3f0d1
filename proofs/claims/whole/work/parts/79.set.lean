theorem nz_cm {A B : hf_I} (h1 : nzc A B) (h2 : nzm A B) : hf_nz A B := by
  refine ⟨fun a a1 a2 a3 a4 a5 => ?_, fun j hj => h2.2 j hj⟩
  by_cases q : a < 156 ∨ 180 < a
  · exact h1 a q a1 a2 a3
  · exact h2.1 a (by omega) (by omega) a5
theorem nzc_kpc {A B C : hf_I} (h1 : nzc A B) (h2 : kpc B C) : nzc A C := fun a a1 a2 a3 a4 => (h2 a a1).trans (h1 a a1 a2 a3 a4)
theorem nzm_kpm {A B C : hf_I} (h1 : nzm A B) (h2 : kpm B C) : nzm A C := ⟨fun a a1 a2 a3 => (h2 a (by omega) a2).trans (h1.1 a a1 a2 a3), fun j hj => by rw [h2 156 (by omega) (by omega)]; exact h1.2 j hj⟩
theorem nzc_upm {A C : hf_I} {a j j' : Nat} {v v' : Int32} (h : nzc A C) (ha : 156 ≤ a) (ha2 : a ≤ 180) : nzc (hf_up A a j v) (hf_up C a j' v') := fun b b1 b2 b3 b4 => by
  unfold hf_up
  rw [if_neg (by omega), if_neg (by omega)]
  exact h b b1 b2 b3 b4
theorem nzm_upc {A C : hf_I} {a j j' : Nat} {v v' : Int32} (h : nzm A C) (ha : a < 156) : nzm (hf_up A a j v) (hf_up C a j' v') := by
  refine ⟨fun b b1 b2 b3 => ?_, fun i hi => ?_⟩
  · unfold hf_up
    rw [if_neg (by omega), if_neg (by omega)]
    exact h.1 b b1 b2 b3
  · unfold hf_up
    rw [if_neg (by omega), if_neg (by omega)]
    exact h.2 i hi
section OPSET
variable {CC : Int32 → Int32 → Int32 → Int32 → Int32 → Int32 → (Nat → Int32) → (Nat → Int32) → Int32 → (Nat → Int32) → (Nat → Int32) → (Nat → Int32) → (Nat → Int32) → (Nat → Int32) → (Nat → Int32) → (Nat → Int32) → (Nat → Nat → Int32) → hf_P → Int64 → Int64 → Int32 → Int32 → Prop}
variable {X : hf_X} {d N t : Nat} {T : hf_T} {I I' C1 C3 : hf_I} {L : hf_L} {P : hf_P}
/-- granted, by both -/
theorem tw_ok (hN : N ≤ 100000) (h : hf_Sim hf_SL CC N t T I L P) (r1 : hf_SM I') (r2 : hf_ud I') (r3 : hf_fr I I') (n1 : nzc I' C1) (n3 : nzm I' C3) (k3 : kpc (hf_up (hf_up C1 100 15 0) 100 16 (C1 100 16 + 1)) C3) : hf_Sim hf_SL CC (N + 1) t T (hf_up C3 156 0 0) L P := by
  refine nz_sim ?_ (sim_ok hN h r1 r2 r3)
  have e100 : C1 100 = I' 100 := n1 100 (by omega) (by omega) (by omega) (by omega)
  refine nz_cm (nzc_upm (nzc_mix ?_) (by omega) (by omega)) (nzm_up (nzm_mix n3) (Or.inl rfl))
  refine nzc_kpc ?_ k3
  rw [e100]
  exact nzc_up (nzc_up n1 e100) (by show upd (C1 100) 15 0 = upd (I' 100) 15 0; rw [e100])
/-- refused, by both -/
theorem tw_no {z : Int32} {q q2 : Nat} (hq : (q, q2) = (0, 1) ∨ (q, q2) = (1, 2) ∨ (q, q2) = (2, 3) ∨ (q, q2) = (3, 5) ∨ (q, q2) = (4, 6)) (h : hf_Sim hf_SL CC N t T I' L P) (n1 : nzc I' C1) (n3 : nzm I' C3) (k3 : kpc (hf_up (hf_up C1 100 15 z) 155 q (C1 155 q + 1)) C3) : hf_Sim hf_SL CC (N + 1) t T (hf_up (hf_up C3 156 0 z) 157 q2 (C3 157 q2 + 1)) L P := by
  refine nz_sim ?_ (sim_no (z := z) hq h)
  have e100 : C1 100 = I' 100 := n1 100 (by omega) (by omega) (by omega) (by omega)
  have e155 : C1 155 = I' 155 := n1 155 (by omega) (by omega) (by omega) (by omega)
  have e157 : C3 157 = I' 157 := n3.1 157 (by omega) (by omega) (by omega)
  refine nz_cm (nzc_upm (nzc_upm (nzc_mix ?_) (by omega) (by omega)) (by omega) (by omega)) ?_
  · refine nzc_kpc ?_ k3
    rw [e155]
    exact nzc_up (nzc_up n1 e100) e155
  · rw [e157]
    exact nzm_up (nzm_up (nzm_mix n3) (Or.inl rfl)) (Or.inr e157)
set_option maxHeartbeats 1000000 in
theorem op_set {a : Int32} (hN : N ≤ 100000) (h : hf_Sim hf_SL CC N t T I L P) : hf_Pair X Y_X11_set Y_X12_set [.int a] (d + 613) 0 0 (t, T, I, L, P) (hf_SimM hf_SL CC (N + 1)) := by
  have hs := h.1
  obtain ⟨cls, hlc, hlm⟩ := sim_law h
  obtain ⟨v, I', ⟨hc, hm⟩, r1, r2, r3, r4, r5, -⟩ := tw_set (X := X) (a := a) (d := d + 1) hs h.2.1 h.2.2.1.1 hlc hlm
  refine w_X11_set_0 (d := d + 612) hs (hc L I 0 0 _ nzc_rf fun C1 n1 k1 => ?_)
  have nm : ∀ {a1 j1 a2 j2 : Nat} {v1 v2 : Int32}, a1 < 156 → a2 < 156 → nzm I (hf_up (hf_up C1 a1 j1 v1) a2 j2 v2) := fun {a1 j1 a2 j2 v1 v2} h1 h2 => nzm_kpm nzm_rf (kpm_up (kpm_up k1 h1) h2)
  rcases r4 with r | r | r | r | r
  · refine w_X11_set_6 (d := d + 610) hs ⟨fun _ => ⟨_, rfl, w_X12_set_0 (d := d + 612) hs (hm L _ 0 0 _ (nm (by omega) (by omega)) fun C3 n3 k3 => w_X12_set_6 (d := d + 611) hs ⟨fun _ => ⟨rfl, tw_ok hN h r1 r2 r3 n1 n3 k3⟩, fun q => absurd r q⟩)⟩, fun q => absurd r q⟩
  all_goals subst r
  · refine w_X11_set_6 (d := d + 610) hs ⟨fun q => absurd q (by decide), fun _ => ⟨fun q => absurd q (by decide), fun q => absurd q (by decide), fun q => absurd q (by decide), fun q => absurd q (by decide), fun q => absurd q (by decide), fun _ => ⟨_, rfl, w_X12_set_0 (d := d + 612) hs (hm L _ 0 0 _ (nm (by omega) (by omega)) fun C3 n3 k3 => w_X12_set_6 (d := d + 611) hs ⟨fun q => absurd q (by decide), fun _ => ⟨hf_vin (by decide), hf_vin (by decide), rfl, tw_no (Or.inl rfl) (sim_fr h r1 r2 r3 (r5 (by decide))) n1 n3 k3⟩⟩)⟩⟩⟩
  · refine w_X11_set_6 (d := d + 610) hs ⟨fun q => absurd q (by decide), fun _ => ⟨fun q => absurd q (by decide), fun q => absurd q (by decide), fun q => absurd q (by decide), fun q => absurd q (by decide), fun _ => ⟨_, rfl, w_X12_set_0 (d := d + 612) hs (hm L _ 0 0 _ (nm (by omega) (by omega)) fun C3 n3 k3 => w_X12_set_6 (d := d + 611) hs ⟨fun q => absurd q (by decide), fun _ => ⟨hf_vin (by decide), hf_vin (by decide), rfl, tw_no (Or.inr (Or.inl rfl)) (sim_fr h r1 r2 r3 (r5 (by decide))) n1 n3 k3⟩⟩)⟩, fun q => absurd q (by decide)⟩⟩
  · refine w_X11_set_6 (d := d + 610) hs ⟨fun q => absurd q (by decide), fun _ => ⟨fun q => absurd q (by decide), fun q => absurd q (by decide), fun q => absurd q (by decide), fun _ => ⟨_, rfl, w_X12_set_0 (d := d + 612) hs (hm L _ 0 0 _ (nm (by omega) (by omega)) fun C3 n3 k3 => w_X12_set_6 (d := d + 611) hs ⟨fun q => absurd q (by decide), fun _ => ⟨hf_vin (by decide), hf_vin (by decide), rfl, tw_no (Or.inr (Or.inr (Or.inl rfl))) (sim_fr h r1 r2 r3 (r5 (by decide))) n1 n3 k3⟩⟩)⟩, fun q => absurd q (by decide), fun q => absurd q (by decide)⟩⟩
  · refine w_X11_set_6 (d := d + 610) hs ⟨fun q => absurd q (by decide), fun _ => ⟨fun q => absurd q (by decide), fun _ => ⟨_, rfl, w_X12_set_0 (d := d + 612) hs (hm L _ 0 0 _ (nm (by omega) (by omega)) fun C3 n3 k3 => w_X12_set_6 (d := d + 611) hs ⟨fun q => absurd q (by decide), fun _ => ⟨hf_vin (by decide), hf_vin (by decide), rfl, tw_no (Or.inr (Or.inr (Or.inr (Or.inl rfl)))) (sim_fr h r1 r2 r3 (r5 (by decide))) n1 n3 k3⟩⟩)⟩, fun q => absurd q (by decide), fun q => absurd q (by decide), fun q => absurd q (by decide), fun q => absurd q (by decide)⟩⟩
end OPSET
/-! what is fed -/
theorem fd_by (x s1 s2 : Int32) (k : Nat) (hk : k ≤ 24) (h1 : ((s1.toUInt32 &&& Int32.toUInt32 31).toBitVec % 32).toNat = k) (h2 : (s2.toBitVec.smod 32).toNat = k) : (x.toUInt32 >>> (s1.toUInt32 &&& Int32.toUInt32 31)).toInt32.toInt8 = (x >>> s2).toInt8 := by
  have a1 := pk_ushr x s1 k h1
  have a2 := pk_shr x s2 k h2
  apply Int8.toInt_inj.mp
  rw [Int32.toInt_toInt8, Int32.toInt_toInt8, a2]
  generalize (x.toUInt32 >>> (s1.toUInt32 &&& Int32.toUInt32 31)).toInt32 = y at a1 ⊢
  have ey : y.toInt = (((x.toBitVec.toNat / 2 ^ k : Nat) : Int)).bmod (2 ^ 32) := by
    rw [← a1]
    show y.toBitVec.toInt = _
    rw [BitVec.toInt_eq_toNat_bmod]
  have ex : x.toInt = ((x.toBitVec.toNat : Int)).bmod (2 ^ 32) := by
    show x.toBitVec.toInt = _
    rw [BitVec.toInt_eq_toNat_bmod]
  have hX : x.toBitVec.toNat < 2 ^ 32 := x.toBitVec.isLt
  generalize x.toBitVec.toNat = X at ey ex hX
  have ey2 : y.toInt.bmod (2 ^ 8) = ((X / 2 ^ k : Nat) : Int).bmod (2 ^ 8) := by
    rw [ey]
    exact Int.bmod_bmod_of_dvd (by decide)
  rw [ey2]
  rw [Int.shiftRight_eq_div_pow]
  have ed : ∃ q : Int, x.toInt = X + q * 2 ^ 32 := by
    rw [ex]
    by_cases hh : X < 2 ^ 31
    · exact ⟨0, by rw [Int.bmod_eq_of_le (by omega) (by omega), Int.zero_mul, Int.add_zero]⟩
    · refine ⟨-1, ?_⟩
      have : ((X : Int)).bmod (2 ^ 32) = X - 2 ^ 32 := by
        rw [Int.bmod_def]
        have : (X : Int) % ((2 ^ 32 : Nat) : Int) = X := Int.emod_eq_of_lt (by omega) (by omega)
        rw [this]
        split <;> omega
      rw [this, Int.neg_mul, Int.one_mul, Int.sub_eq_add_neg]
  obtain ⟨q, hq⟩ := ed
  rw [hq]
  have hp : (2 : Int) ^ 32 = 2 ^ (32 - k) * 2 ^ k := by rw [← Int.pow_add]; congr 1; omega
  have h8 : (2 : Int) ^ (32 - k) = 2 ^ (24 - k) * 2 ^ 8 := by rw [← Int.pow_add]; congr 1; omega
  have hpos : (2 : Int) ^ k ≠ 0 := Int.ne_of_gt (Int.pow_pos (by omega))
  have e1 : ((X : Int) + q * 2 ^ 32) / ((2 ^ k : Nat) : Int) = ((X / 2 ^ k : Nat) : Int) + q * 2 ^ (24 - k) * ((2 ^ 8 : Nat) : Int) := by
    rw [hp, ← Int.mul_assoc]
    have : ((2 ^ k : Nat) : Int) = 2 ^ k := by simp
    rw [this, Int.add_mul_ediv_right _ _ hpos, h8, Int.natCast_ediv, this, ← Int.mul_assoc]
    rfl
  rw [e1, Int.add_mul_bmod_self_right]
