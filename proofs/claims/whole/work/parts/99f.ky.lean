/-! keys as longs -/
theorem lN_I {n : Nat} (h : n < 2 ^ 63) : (lN n).toInt = (n : Int) := lg_ofNat_toInt h
theorem lN_L {a b : Nat} (ha : a < 2 ^ 63) (hb : b < 2 ^ 63) : lN a < lN b ↔ a < b := by
  rw [Int64.lt_iff_toInt_lt, lN_I ha, lN_I hb]
  omega
theorem lN_bv (n : Nat) : (lN n).toBitVec = BitVec.ofNat 64 n := rfl
theorem lN_sl {c : Nat} : lN c <<< ((30 : Int32).toInt64 &&& 63) = lN (1073741824 * c) := by
  rw [show ((30 : Int32).toInt64 &&& 63) = (30 : Int64) by decide]
  apply Int64.toBitVec_inj.mp
  rw [Int64.toBitVec_shiftLeft, lN_bv, lN_bv, show ((30 : Int64).toBitVec.smod 64) = 30#64 by decide]
  apply BitVec.eq_of_toNat_eq
  rw [BitVec.shiftLeft_eq', BitVec.toNat_shiftLeft, BitVec.toNat_ofNat, BitVec.toNat_ofNat, BitVec.toNat_ofNat, Nat.shiftLeft_eq, Nat.mod_mul_mod]
  rw [Nat.mul_comm]
theorem ky_cost {c : Nat} (h : c < 2 ^ 31) : (nI c).toInt64 <<< ((30 : Int32).toInt64 &&& 63) = lN (1073741824 * c) := by
  rw [nI_l h]
  exact lN_sl
theorem ky_word : ∀ i : Fin 6, ∀ w : Fin 16, (nI w.1).toInt64 <<< ((6 + (4 * (5 - nI i.1))).toInt64 &&& 63) = lN (w.1 * 2 ^ (6 + 4 * (5 - i.1))) := by decide +kernel
theorem ky_turn : ∀ i : Fin 6, (1 : Int64) <<< ((5 - nI i.1).toInt64 &&& 63) = lN (2 ^ (5 - i.1)) := by decide +kernel
theorem lN_sr {a : Nat} (h : a < 2 ^ 63) {s : Int64} {k : Nat} (hs : (s.toBitVec.smod 64) = BitVec.ofNat 64 k) (hk : k < 64) : lN a >>> s = lN (a / 2 ^ k) := by
  apply Int64.toInt_inj.mp
  have hd : a / 2 ^ k ≤ a := Nat.div_le_self _ _
  have e : (lN a >>> s).toBitVec = (BitVec.ofNat 64 a).sshiftRight k := by
    rw [Int64.toBitVec_shiftRight, lN_bv, hs, BitVec.sshiftRight_eq', BitVec.toNat_ofNat, Nat.mod_eq_of_lt (by omega)]
  have e2 : (lN a >>> s).toInt = ((lN a >>> s).toBitVec).toInt := rfl
  have e3 : (BitVec.ofNat 64 a).toInt = (a : Int) := lN_I h
  rw [e2, e, BitVec.toInt_sshiftRight, e3, lN_I (by omega), Int.shiftRight_eq_div_pow]
  rw [Int.natCast_ediv]
theorem ky_sw : ∀ i : Fin 6, (((6 + (4 * (5 - nI i.1))).toInt64 &&& 63 : Int64).toBitVec.smod 64) = BitVec.ofNat 64 (6 + 4 * (5 - i.1)) := by decide +kernel
theorem nI_a15 {b : Nat} : nI b &&& 15 = nI (b % 16) := by
  apply Int32.toBitVec_inj.mp
  rw [Int32.toBitVec_and]
  show BitVec.ofNat 32 b &&& 15#32 = BitVec.ofNat 32 (b % 16)
  apply BitVec.eq_of_toNat_eq
  rw [BitVec.toNat_and, BitVec.toNat_ofNat, BitVec.toNat_ofNat, BitVec.toNat_ofNat, show 15 % 2 ^ 32 = 2 ^ 4 - 1 by decide, Nat.and_two_pow_sub_one_eq_mod, Nat.mod_eq_of_lt (show b % 16 < 2 ^ 32 by omega)]
  omega
theorem lN_and {a b : Nat} : lN a &&& lN b = lN (a &&& b) := by
  apply Int64.toBitVec_inj.mp
  rw [Int64.toBitVec_and, lN_bv, lN_bv, lN_bv]
  apply BitVec.eq_of_toNat_eq
  rw [BitVec.toNat_and, BitVec.toNat_ofNat, BitVec.toNat_ofNat, BitVec.toNat_ofNat, Nat.and_mod_two_pow]
/-- a key in its parts -/
theorem fz_wk_mu {w : Nat → Nat} : ∀ i, i ≤ 6 → ∃ h, fz_wk w i = h * 2 ^ (6 + 4 * (6 - i)) := by
  intro i
  induction i with
  | zero => intro _; exact ⟨0, by rw [Nat.zero_mul]; rfl⟩
  | succ i ih =>
    intro hi
    obtain ⟨h, e⟩ := ih (by omega)
    refine ⟨h * 16 + w i, ?_⟩
    rw [fz_wk, e, show 6 - i = (5 - i) + 1 by omega, show 6 + 4 * (5 - i + 1) = 4 + (6 + 4 * (5 - i)) by omega, Nat.pow_add, show 6 - (i + 1) = 5 - i by omega, ← Nat.mul_assoc, ← Nat.add_mul]
theorem fz_wk_ab {w : Nat → Nat} {p : Nat} (hp : p ≤ 6) (hw : ∀ j, j < p → w j < 16) : ∀ f i, i + f = p → fz_wk w p + 2 ^ (6 + 4 * (6 - p)) ≤ fz_wk w i + 2 ^ (6 + 4 * (6 - i)) := by
  intro f
  induction f with
  | zero => intro i hi; obtain rfl : i = p := by omega
            exact Nat.le_refl _
  | succ f ih =>
    intro i hi
    have a := ih (i + 1) (by omega)
    have b := hw i (by omega)
    rw [fz_wk] at a
    rw [show 6 - i = (5 - i) + 1 by omega, show 6 + 4 * (5 - i + 1) = (6 + 4 * (5 - i)) + 4 by omega, Nat.pow_add 2 (6 + 4 * (5 - i)) 4]
    rw [show 6 - (i + 1) = 5 - i by omega] at a
    have c : w i * 2 ^ (6 + 4 * (5 - i)) ≤ 15 * 2 ^ (6 + 4 * (5 - i)) := Nat.mul_le_mul_right _ (by omega)
    omega
theorem ky_w_nat {w : Nat → Nat} {p i c u : Nat} (hp : p ≤ 6) (hi : i < p) (hw : ∀ j, j < p → w j < 16) (hu : u < 64) : ((1073741824 * c + (fz_wk w p + u)) / 2 ^ (6 + 4 * (5 - i))) % 16 = w i := by
  obtain ⟨h, e⟩ := fz_wk_mu (w := w) i (by omega)
  have ab := fz_wk_ab hp hw (p - (i + 1)) (i + 1) (by omega)
  have lo : 2 ^ 6 ≤ 2 ^ (6 + 4 * (6 - p)) := Nat.pow_le_pow_right (by omega) (by omega)
  have mo : fz_wk w (i + 1) ≤ fz_wk w p := by
    have : ∀ f j, j + f = p → fz_wk w j ≤ fz_wk w p := by
      intro f
      induction f with
      | zero => intro j hj; obtain rfl : j = p := by omega
                exact Nat.le_refl _
      | succ f ih =>
        intro j hj
        have := ih (j + 1) (by omega)
        rw [fz_wk] at this
        omega
    exact this (p - (i + 1)) (i + 1) (by omega)
  rw [fz_wk, e, show 6 - (i + 1) = 5 - i by omega] at ab
  rw [fz_wk, e] at mo
  have e4 : 6 + 4 * (6 - i) = 4 + (6 + 4 * (5 - i)) := by omega
  rw [e4, Nat.pow_add 2 4 (6 + 4 * (5 - i)), ← Nat.mul_assoc, ← Nat.add_mul] at ab mo
  have e30 : 1073741824 = 2 ^ (4 * i) * (2 ^ 4 * 2 ^ (6 + 4 * (5 - i))) := by
    rw [← Nat.pow_add, ← Nat.pow_add, show 4 * i + (4 + (6 + 4 * (5 - i))) = 30 by omega]
  have hw' := hw i hi
  generalize hB : 2 ^ (6 + 4 * (5 - i)) = B at *
  have B0 : 0 < B := by rw [← hB]; exact Nat.pow_pos (by omega)
  generalize hP : 2 ^ (4 * i) = P4 at *
  obtain ⟨v, hv⟩ : ∃ v, fz_wk w p + u = (h * 2 ^ 4 + w i) * B + v := ⟨fz_wk w p + u - (h * 2 ^ 4 + w i) * B, by omega⟩
  have hvB : v < B := by omega
  have e5 : 1073741824 * c + (fz_wk w p + u) = B * ((P4 * c + h) * 16 + w i) + v := by
    rw [hv, e30]
    have : P4 * (2 ^ 4 * B) * c = B * (P4 * c * 16) := by
      rw [show (2 : Nat) ^ 4 = 16 from rfl]
      ac_rfl
    rw [this]
    have t1 : (h * 2 ^ 4 + w i) * B = B * (h * 16) + B * w i := by rw [Nat.add_mul, Nat.mul_comm (h * 2 ^ 4), Nat.mul_comm (w i)]
    have t2 : B * ((P4 * c + h) * 16 + w i) = B * (P4 * c * 16) + B * (h * 16) + B * w i := by rw [Nat.mul_add, Nat.add_mul, Nat.mul_add]
    rw [t1, t2]
    omega
  rw [e5, Nat.mul_add_div B0, Nat.div_eq_of_lt hvB]
  omega
theorem ky_c_nat {w : Nat → Nat} {p c u : Nat} (hp : p ≤ 6) (hw : ∀ j, j < p → w j < 16) (hu : u < 64) : (1073741824 * c + (fz_wk w p + u)) / 2 ^ 30 = c := by
  have a := fz_wk_hi p hp hw
  have lo : 2 ^ 6 ≤ 2 ^ (6 + 4 * (6 - p)) := Nat.pow_le_pow_right (by omega) (by omega)
  omega
theorem ky_64 {w : Nat → Nat} {p c u : Nat} (hp : p ≤ 6) : ∃ h, 1073741824 * c + (fz_wk w p + u) = 2 ^ 6 * h + u := by
  obtain ⟨h, e⟩ := fz_wk_mu (w := w) p hp
  refine ⟨16777216 * c + h * 2 ^ (4 * (6 - p)), ?_⟩
  rw [e, Nat.pow_add]
  have : h * (2 ^ 6 * 2 ^ (4 * (6 - p))) = 2 ^ 6 * (h * 2 ^ (4 * (6 - p))) := by ac_rfl
  rw [this]
  omega
/-- what is read off a key -/
theorem ky_wordIn {w : Nat → Nat} {p i c u : Nat} (hp : p ≤ 6) (hi : i < p) (hw : ∀ j, j < p → w j < 16) (hu : u < 64) (hc : c < 100000) : (lN (1073741824 * c + (fz_wk w p + u)) >>> ((6 + (4 * (5 - nI i))).toInt64 &&& 63)).toInt32 &&& 15 = nI (w i) := by
  have a := fz_wk_hi p hp hw
  have lo : 2 ^ 6 ≤ 2 ^ (6 + 4 * (6 - p)) := Nat.pow_le_pow_right (by omega) (by omega)
  rw [lN_sr (by omega) (ky_sw ⟨i, by omega⟩) (by omega), lN_i, nI_a15, ky_w_nat hp hi hw hu]
theorem ky_costIn {w : Nat → Nat} {p c u : Nat} (hp : p ≤ 6) (hw : ∀ j, j < p → w j < 16) (hu : u < 64) (hc : c < 100000) : (lN (1073741824 * c + (fz_wk w p + u)) >>> ((30 : Int32).toInt64 &&& 63)).toInt32 = nI c := by
  have a := fz_wk_hi p hp hw
  have lo : 2 ^ 6 ≤ 2 ^ (6 + 4 * (6 - p)) := Nat.pow_le_pow_right (by omega) (by omega)
  rw [lN_sr (k := 30) (by omega) (by decide) (by omega), lN_i, ky_c_nat hp hw hu]
theorem lN_nz {b : Nat} (hb : b < 2 ^ 63) : lN b = 0 ↔ b = 0 := by
  constructor
  · intro h
    have e := congrArg Int64.toInt h
    rw [lN_I hb] at e
    have z : (0 : Int64).toInt = 0 := by decide
    omega
  · intro h
    rw [h]; rfl
theorem ky_tb : ∀ p : Fin 7, ∀ z : Fin 32, z.1 < 2 ^ (p.1 - 1) → ∀ i : Fin 6, i.1 < p.1 → ¬ i.1 = 0 → (fz_tu (op_t p.1 z.1) p.1).testBit (5 - i.1) = op_t p.1 z.1 i.1 := by decide +kernel
theorem ky_t0 : ∀ p : Fin 7, ∀ z : Fin 32, z.1 < 2 ^ (p.1 - 1) → (fz_tu (op_t p.1 z.1) p.1).testBit 5 = false ∧ fz_tu (op_t p.1 z.1) p.1 < 32 := by decide +kernel
theorem ky_bc : ∀ p : Fin 7, 1 ≤ p.1 → ∀ z : Fin 32, z.1 < 2 ^ (p.1 - 1) → 1 + bc64 (lN (fz_tu (op_t p.1 z.1) p.1)) = nI (op_n (op_t p.1 z.1) p.1) := by decide +kernel
/-- TURNS that are a number -/
theorem fz_tn_z {tn : Nat → Bool} {p : Nat} (p1 : 1 ≤ p) (p6 : p ≤ 6) (h0 : tn 0 = false) : ∃ z, z < 2 ^ (p - 1) ∧ z < 32 ∧ (∀ j, j < p → op_t p z j = tn j) ∧ fz_tu tn p = fz_tu (op_t p z) p ∧ op_n tn p = op_n (op_t p z) p := by
  obtain ⟨a, b⟩ := fz_Z_t (tn := tn) p p1 p6
  have z32 : 2 ^ (p - 1) ≤ 32 := Nat.le_trans (Nat.pow_le_pow_right (by omega) (show p - 1 ≤ 5 by omega)) (by decide)
  have al : ∀ j, j < p → op_t p (fz_Z tn p) j = tn j := by
    intro j hj
    rw [b j hj]
    by_cases j0 : j = 0
    · subst j0; rw [h0]; rfl
    · rw [decide_eq_true j0, Bool.true_and]
  have cg := fz_cg (G := (0, 0, 0, fun _ => 0, fun _ _ => 0, fun _ => 0, fun _ => 0, fun _ _ => false, fun _ _ => false, fun _ _ _ _ _ => 0)) (w := fun _ => 0) (w' := fun _ => 0) (tn := tn) (tn' := op_t p (fz_Z tn p)) (n := p) (fun j hj => ⟨rfl, (al j hj).symm⟩) p (Nat.le_refl _)
  exact ⟨fz_Z tn p, a, by omega, al, cg.2.2.2.2.2.2.2, cg.1⟩
theorem fz_tu_lt {tn : Nat → Bool} {p : Nat} (p1 : 1 ≤ p) (p6 : p ≤ 6) (h0 : tn 0 = false) : fz_tu tn p < 32 := by
  obtain ⟨z, z1, z2, -, z4, -⟩ := fz_tn_z p1 p6 h0
  rw [z4]
  exact (ky_t0 ⟨p, by omega⟩ ⟨z, z2⟩ z1).2
theorem ky_turnsIn {w : Nat → Nat} {tn : Nat → Bool} {p i c : Nat} (p1 : 1 ≤ p) (p6 : p ≤ 6) (h0 : tn 0 = false) (hi : i < p) (hw : ∀ j, j < p → w j < 16) (hc : c < 100000) : lg_cmp (lN (1073741824 * c + (fz_wk w p + fz_tu tn p)) &&& (1 <<< ((5 - nI i).toInt64 &&& 63))) 0 = 0 ↔ tn i = false := by
  obtain ⟨z, z1, z2, z3, z4, -⟩ := fz_tn_z p1 p6 h0
  have u := fz_tu_lt p1 p6 h0
  obtain ⟨h, e⟩ := ky_64 (w := w) (p := p) (c := c) (u := fz_tu tn p) p6
  have b5 : 2 ^ (5 - i) < 64 := Nat.lt_of_le_of_lt (Nat.pow_le_pow_right (by omega) (show 5 - i ≤ 5 by omega)) (by decide)
  rw [lg_cmp_eq, ky_turn ⟨i, by omega⟩, lN_and, lN_nz (Nat.lt_of_le_of_lt Nat.and_le_right (Nat.lt_trans b5 (by decide))), e, z4]
  rw [z4] at u
  have tb : (2 ^ 6 * h + fz_tu (op_t p z) p).testBit (5 - i) = (fz_tu (op_t p z) p).testBit (5 - i) := by
    rw [Nat.testBit_two_pow_mul_add _ (by omega), if_pos (by omega)]
  have ti : (fz_tu (op_t p z) p).testBit (5 - i) = tn i := by
    by_cases i0 : i = 0
    · subst i0
      rw [h0]
      exact (ky_t0 ⟨p, by omega⟩ ⟨z, z2⟩ z1).1
    · rw [ky_tb ⟨p, by omega⟩ ⟨z, z2⟩ z1 ⟨i, by omega⟩ hi i0]
      exact z3 i hi
  rw [ti] at tb
  rw [← tb]
  generalize 2 ^ 6 * h + fz_tu (op_t p z) p = N
  constructor
  · intro q
    have := congrArg (fun x => Nat.testBit x (5 - i)) q
    simpa using this
  · intro q
    apply Nat.eq_of_testBit_eq
    intro j
    rw [Nat.testBit_and, Nat.testBit_two_pow]
    by_cases ej : 5 - i = j
    · rw [← ej, q]; simp
    · simp [ej]
theorem ky_lines {w : Nat → Nat} {tn : Nat → Bool} {p c : Nat} (p1 : 1 ≤ p) (p6 : p ≤ 6) (h0 : tn 0 = false) : 1 + bc64 (lN (1073741824 * c + (fz_wk w p + fz_tu tn p)) &&& 63) = nI (op_n tn p) := by
  obtain ⟨z, z1, z2, z3, z4, z5⟩ := fz_tn_z p1 p6 h0
  have u := fz_tu_lt p1 p6 h0
  obtain ⟨h, e⟩ := ky_64 (w := w) (p := p) (c := c) (u := fz_tu tn p) p6
  have e63 : (2 ^ 6 * h + fz_tu tn p) &&& 63 = fz_tu tn p := by
    rw [show 63 = 2 ^ 6 - 1 from rfl, Nat.and_two_pow_sub_one_eq_mod, Nat.mul_add_mod, Nat.mod_eq_of_lt (by omega)]
  rw [show (63 : Int64) = lN 63 from rfl, lN_and, e, e63, z4, z5]
  exact ky_bc ⟨p, by omega⟩ p1 ⟨z, z2⟩ z1
