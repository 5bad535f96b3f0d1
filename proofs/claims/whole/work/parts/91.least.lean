/-! the least column -/
def lb_r (m : Nat → Nat) (tn : Nat → Bool) (bl : Nat) : Nat → Nat × Nat
  | 0 => (0, 0)
  | i + 1 => (max (lb_r m tn bl i).1 (if i = 0 ∨ tn i = true then m i else (lb_r m tn bl i).2 + bl + m i), if i = 0 ∨ tn i = true then m i else (lb_r m tn bl i).2 + bl + m i)
def lb_m (g : Nat → Nat) : Nat → Nat
  | 0 => 0
  | n + 1 => max (lb_m g n) (g n)
theorem lb_m_cg {g g' : Nat → Nat} : ∀ {n : Nat}, (∀ l, l < n → g l = g' l) → lb_m g n = lb_m g' n := by
  intro n
  induction n with
  | zero => intro _; rfl
  | succ n ih => intro h; rw [lb_m, lb_m, ih (fun l hl => h l (by omega)), h n (by omega)]
theorem lb_op {m : Nat → Nat} {tn : Nat → Bool} {bl : Nat} : ∀ i, lb_m (op_b m tn bl i) (op_n tn i) = (lb_r m tn bl i).1 ∧ (0 < i → op_b m tn bl i (op_n tn i - 1) = (lb_r m tn bl i).2) := by
  intro i
  induction i with
  | zero => exact ⟨rfl, fun h => by omega⟩
  | succ i ih =>
    obtain ⟨a1, a2⟩ := ih
    have nl := op_n_le (tn := tn) i
    rw [op_n, op_b, lb_r]
    by_cases hb : i = 0 ∨ tn i = true
    · rw [if_pos hb, if_pos hb, if_pos hb]
      refine ⟨?_, fun _ => ?_⟩
      · rw [lb_m, ed_u_eq, lb_m_cg (g' := op_b m tn bl i) (fun l hl => ed_u_ne (by omega)), a1]
      · rw [Nat.add_sub_cancel, ed_u_eq]
    · rw [if_neg hb, if_neg hb, if_neg hb]
      have ip : 0 < i := by
        have : ¬ i = 0 := fun z => hb (Or.inl z)
        omega
      have a2' := a2 ip
      obtain ⟨y, hy⟩ : ∃ y, op_n tn i = y + 1 := ⟨op_n tn i - 1, by have := nl.2 ip; omega⟩
      rw [hy, Nat.add_sub_cancel] at a2'
      rw [hy, lb_m] at a1
      rw [hy, Nat.add_sub_cancel]
      refine ⟨?_, fun _ => ?_⟩
      · rw [lb_m, ed_u_eq, lb_m_cg (g' := op_b m tn bl i) (fun l hl => ed_u_ne (by omega)), ← a1, a2']
        dsimp only
        omega
      · rw [ed_u_eq, a2']
        dsimp only
        omega
theorem lb_mono {m m' : Nat → Nat} {tn : Nat → Bool} {bl : Nat} : ∀ p, (∀ i, i < p → m i ≤ m' i) → (lb_r m tn bl p).1 ≤ (lb_r m' tn bl p).1 ∧ (lb_r m tn bl p).2 ≤ (lb_r m' tn bl p).2 := by
  intro p
  induction p with
  | zero => intro _; exact ⟨Nat.le_refl _, Nat.le_refl _⟩
  | succ p ih =>
    intro h
    obtain ⟨a1, a2⟩ := ih (fun i hi => h i (by omega))
    have := h p (by omega)
    rw [lb_r, lb_r]
    by_cases hb : p = 0 ∨ tn p = true
    · rw [if_pos hb, if_pos hb]
      dsimp only
      exact ⟨by omega, by omega⟩
    · rw [if_neg hb, if_neg hb]
      dsimp only
      exact ⟨by omega, by omega⟩
theorem lb_cg {m m' : Nat → Nat} {tn tn' : Nat → Bool} {bl : Nat} : ∀ p, (∀ i, i < p → m i = m' i ∧ (¬ i = 0 → tn i = tn' i)) → lb_r m tn bl p = lb_r m' tn' bl p := by
  intro p
  induction p with
  | zero => intro _; rfl
  | succ p ih =>
    intro h
    obtain ⟨a1, a2⟩ := h p (by omega)
    have e : (p = 0 ∨ tn p = true) = (p = 0 ∨ tn' p = true) := by
      by_cases hp : p = 0
      · simp [hp]
      · rw [a2 hp]
    rw [lb_r, lb_r, ih (fun i hi => h i (by omega)), a1]
    simp only [e]
theorem lb_le {m : Nat → Nat} {tn : Nat → Bool} {bl : Nat} (hb : bl ≤ 40) (hm : ∀ i, m i ≤ 360) : ∀ p, (lb_r m tn bl p).1 ≤ 400 * p ∧ (lb_r m tn bl p).2 ≤ 400 * p := by
  intro p
  induction p with
  | zero => exact ⟨Nat.le_refl _, Nat.le_refl _⟩
  | succ p ih =>
    have := hm p
    rw [lb_r]
    dsimp only
    split <;> exact ⟨by omega, by omega⟩
/-- rows are told by their options -/
def lb_k (len idx : Nat → Nat) : Nat → Nat
  | 0 => 0
  | k + 1 => lb_k len idx k * len k + idx k
theorem lb_k_lt {len idx : Nat → Nat} : ∀ k, (∀ i, i < k → idx i < len i) → lb_k len idx k < li_p len k := by
  intro k
  induction k with
  | zero => intro _; exact Nat.lt_succ_self 0
  | succ k ih =>
    intro h
    have a1 := ih (fun i hi => h i (by omega))
    have a2 := h k (by omega)
    rw [lb_k, li_p]
    have : (lb_k len idx k + 1) * len k ≤ li_p len k * len k := Nat.mul_le_mul_right _ a1
    rw [Nat.succ_mul] at this
    omega
theorem lb_k_q {len idx : Nat → Nat} {p : Nat} (h : ∀ i, i < p → idx i < len i) : ∀ s, s ≤ p → op_q len p (lb_k len idx p) s = lb_k len idx (p - s) := by
  intro s
  induction s with
  | zero => intro _; rfl
  | succ s ih =>
    intro hs
    have hi := h (p - 1 - s) (by omega)
    rw [op_q, ih (by omega), show p - s = (p - 1 - s) + 1 by omega, lb_k, show p - (s + 1) = p - 1 - s by omega, Nat.mul_comm, Nat.mul_add_div (by omega), Nat.div_eq_of_lt hi, Nat.add_zero]
theorem lb_k_d {len idx : Nat → Nat} {p i : Nat} (h : ∀ i, i < p → idx i < len i) (hi : i < p) : op_d len p (lb_k len idx p) i = idx i := by
  have h1 := h i hi
  unfold op_d
  rw [lb_k_q h _ (by omega), show p - (p - 1 - i) = i + 1 by omega, lb_k, Nat.mul_comm, Nat.mul_add_mod, Nat.mod_eq_of_lt h1]
def lb_t (s i : Nat) : Bool := decide (¬ i = 0) && decide (¬ bt (nI s) i = 0)
theorem lb_zs : ∀ p : Fin 7, 1 ≤ p.1 → ∀ z : Fin 32, z.1 < 2 ^ (p.1 - 1) → ∃ s : Fin 32, 2 * s.1 < 2 ^ p.1 ∧ (∀ i : Fin 7, i.1 < p.1 → op_t p.1 z.1 i.1 = lb_t (2 * s.1) i.1) ∧ op_n (op_t p.1 z.1) p.1 = sy_k (nI (2 * s.1)) p.1 + 1 := by decide +kernel
theorem lb_sz : ∀ p : Fin 7, 1 ≤ p.1 → ∀ s : Fin 32, 2 * s.1 < 2 ^ p.1 → ∃ z : Fin 32, z.1 < 2 ^ (p.1 - 1) ∧ (∀ i : Fin 7, i.1 < p.1 → op_t p.1 z.1 i.1 = lb_t (2 * s.1) i.1) ∧ op_n (op_t p.1 z.1) p.1 = sy_k (nI (2 * s.1)) p.1 + 1 := by decide +kernel
/-- the class: over TURNS 2 * s, s < n + 1 -/
def nc_L (m : Nat → Nat) (bl p LN : Nat) : Nat → Nat
  | 0 => (lb_r m (lb_t 0) bl p).1
  | n + 1 => if sy_k (nI (2 * (n + 1))) p < LN then min (nc_L m bl p LN n) (lb_r m (lb_t (2 * (n + 1))) bl p).1 else nc_L m bl p LN n
theorem nc_lo {m : Nat → Nat} {bl p LN : Nat} : ∀ n s, s ≤ n → (s = 0 ∨ sy_k (nI (2 * s)) p < LN) → nc_L m bl p LN n ≤ (lb_r m (lb_t (2 * s)) bl p).1 := by
  intro n
  induction n with
  | zero =>
    intro s hs _
    obtain rfl : s = 0 := by omega
    exact Nat.le_refl _
  | succ n ih =>
    intro s hs h
    rw [nc_L]
    by_cases e : s = n + 1
    · subst e
      have h' : sy_k (nI (2 * (n + 1))) p < LN := h.resolve_left (by omega)
      rw [if_pos h']
      exact Nat.min_le_right _ _
    · have := ih s (by omega) h
      split
      · exact Nat.le_trans (Nat.min_le_left _ _) this
      · exact this
theorem nc_at {m : Nat → Nat} {bl p LN : Nat} : ∀ n, ∃ s, s ≤ n ∧ (s = 0 ∨ sy_k (nI (2 * s)) p < LN) ∧ nc_L m bl p LN n = (lb_r m (lb_t (2 * s)) bl p).1 := by
  intro n
  induction n with
  | zero => exact ⟨0, Nat.le_refl _, Or.inl rfl, rfl⟩
  | succ n ih =>
    obtain ⟨s, s1, s2, s3⟩ := ih
    rw [nc_L]
    split
    · rename_i h
      by_cases c : nc_L m bl p LN n ≤ (lb_r m (lb_t (2 * (n + 1))) bl p).1
      · rw [Nat.min_eq_left c]
        exact ⟨s, by omega, s2, s3⟩
      · rw [Nat.min_eq_right (by omega)]
        exact ⟨n + 1, Nat.le_refl _, Or.inr h, rfl⟩
    · exact ⟨s, by omega, s2, s3⟩
/-- the model: over rows -/
def lb_L (ok : Nat → Bool) (v : Nat → Nat) : Nat → Nat
  | 0 => 1000000
  | r + 1 => if ok r = true then min (lb_L ok v r) (v r) else lb_L ok v r
theorem lb_L_le {ok : Nat → Bool} {v : Nat → Nat} : ∀ n, lb_L ok v n ≤ 1000000 ∧ ∀ r, r < n → ok r = true → lb_L ok v n ≤ v r := by
  intro n
  induction n with
  | zero => exact ⟨Nat.le_refl _, fun r hr => by omega⟩
  | succ n ih =>
    rw [lb_L]
    split
    · rename_i h
      refine ⟨Nat.le_trans (Nat.min_le_left _ _) ih.1, fun r hr hk => ?_⟩
      by_cases e : r = n
      · subst e; exact Nat.min_le_right _ _
      · exact Nat.le_trans (Nat.min_le_left _ _) (ih.2 r (by omega) hk)
    · rename_i h
      refine ⟨ih.1, fun r hr hk => ?_⟩
      by_cases e : r = n
      · subst e; exact absurd hk h
      · exact ih.2 r (by omega) hk
theorem lb_L_at {ok : Nat → Bool} {v : Nat → Nat} {m : Nat} (hm : m ≤ 1000000) : ∀ n, (∀ r, r < n → ok r = true → m ≤ v r) → m ≤ lb_L ok v n := by
  intro n
  induction n with
  | zero => intro _; exact hm
  | succ n ih =>
    intro h
    rw [lb_L]
    have := ih (fun r hr => h r (by omega))
    split
    · rename_i hk
      exact Nat.le_min.mpr ⟨this, h n (by omega) hk⟩
    · exact this
theorem lb_same {p LN bl : Nat} {len : Nat → Nat} {opt : Nat → Nat → Nat} {wn nm idx : Nat → Nat} (hp1 : 1 ≤ p) (hp : p ≤ 6) (hL1 : 1 ≤ LN) (hb : bl ≤ 40) (hnm9 : ∀ i, nm i ≤ 360) (hidx : ∀ i, i < p → idx i < len i ∧ wn (opt i (idx i)) = nm i) (hnm : ∀ i k, i < p → k < len i → nm i ≤ wn (opt i k)) :
    lb_L (fun r => decide (op_n (op_t p (r % 2 ^ (p - 1))) p ≤ LN)) (fun r => (lb_r (fun i => wn (opt i (op_d len p (r / 2 ^ (p - 1)) i))) (op_t p (r % 2 ^ (p - 1))) bl p).1) (li_p len p * 2 ^ (p - 1)) = nc_L nm bl p LN (2 ^ (p - 1) - 1) := by
  have p0 : 0 < 2 ^ (p - 1) := Nat.two_pow_pos (p - 1)
  have pw : 2 ^ p = 2 * 2 ^ (p - 1) := by
    obtain ⟨y, rfl⟩ : ∃ y, p = y + 1 := ⟨p - 1, by omega⟩
    rw [Nat.add_sub_cancel, Nat.pow_succ, Nat.mul_comm]
  have p32 : 2 ^ (p - 1) ≤ 32 := Nat.pow_le_pow_right (n := 2) (i := p - 1) (j := 5) (by omega) (by omega)
  apply Nat.le_antisymm
  · -- reached
    obtain ⟨s, s1, s2, s3⟩ := nc_at (m := nm) (bl := bl) (p := p) (LN := LN) (2 ^ (p - 1) - 1)
    obtain ⟨⟨z, hz⟩, z1, z2, z3⟩ := lb_sz ⟨p, by omega⟩ hp1 ⟨s, by omega⟩ (by show 2 * s < 2 ^ p; omega)
    dsimp only at z1 z2 z3
    have hlt := lb_k_lt (len := len) (idx := idx) p (fun i hi => (hidx i hi).1)
    have hrow : lb_k len idx p * 2 ^ (p - 1) + z < li_p len p * 2 ^ (p - 1) := by
      have : (lb_k len idx p + 1) * 2 ^ (p - 1) ≤ li_p len p * 2 ^ (p - 1) := Nat.mul_le_mul_right _ hlt
      rw [Nat.succ_mul] at this
      omega
    have e1 : (lb_k len idx p * 2 ^ (p - 1) + z) / 2 ^ (p - 1) = lb_k len idx p := by rw [Nat.mul_comm, Nat.mul_add_div p0, Nat.div_eq_of_lt z1, Nat.add_zero]
    have e2 : (lb_k len idx p * 2 ^ (p - 1) + z) % 2 ^ (p - 1) = z := by rw [Nat.mul_comm, Nat.mul_add_mod, Nat.mod_eq_of_lt z1]
    have ln : op_n (op_t p z) p ≤ LN := by
      rw [z3]
      rcases s2 with rfl | s2
      · have : sy_k (nI (2 * 0)) p = 0 := (sy_0 (nw := fun _ => none) (wo := fun _ => 0) p hp).2.2
        omega
      · omega
    have := (lb_L_le (ok := fun r => decide (op_n (op_t p (r % 2 ^ (p - 1))) p ≤ LN)) (v := fun r => (lb_r (fun i => wn (opt i (op_d len p (r / 2 ^ (p - 1)) i))) (op_t p (r % 2 ^ (p - 1))) bl p).1) (li_p len p * 2 ^ (p - 1))).2 _ hrow (by rw [e2, decide_eq_true_eq]; exact ln)
    refine Nat.le_trans this (Nat.le_of_eq ?_)
    rw [e1, e2, s3, lb_cg (m' := nm) (tn' := lb_t (2 * s)) p (fun i hi => ⟨by rw [lb_k_d (fun i hi => (hidx i hi).1) hi]; exact (hidx i hi).2, fun _ => z2 ⟨i, by omega⟩ hi⟩)]
  · -- no row below
    obtain ⟨s, s1, s2, s3⟩ := nc_at (m := nm) (bl := bl) (p := p) (LN := LN) (2 ^ (p - 1) - 1)
    have vb := (lb_le (m := nm) (tn := lb_t (2 * s)) hb hnm9 p).1
    refine lb_L_at (by rw [s3]; omega) _ (fun r hr hk => ?_)
    rw [decide_eq_true_eq] at hk
    have zl : r % 2 ^ (p - 1) < 2 ^ (p - 1) := Nat.mod_lt _ p0
    generalize r % 2 ^ (p - 1) = z at hk zl
    obtain ⟨⟨s', hs'⟩, y1, y2, y3⟩ := lb_zs ⟨p, by omega⟩ hp1 ⟨z, by omega⟩ zl
    dsimp only at y1 y2 y3
    have lo := nc_lo (m := nm) (bl := bl) (p := p) (LN := LN) (2 ^ (p - 1) - 1) s' (by omega) (Or.inr (by omega))
    refine Nat.le_trans lo ?_
    rw [lb_cg (m' := nm) (tn' := op_t p z) p (fun i hi => ⟨rfl, fun _ => (y2 ⟨i, by omega⟩ hi).symm⟩)]
    have lp : ∀ i, i < p → 0 < len i := fun i hi => by have := (hidx i hi).1; omega
    exact (lb_mono p (fun i hi => hnm i _ hi (Nat.mod_lt _ (lp i hi)))).1
