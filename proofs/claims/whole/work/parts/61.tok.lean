/-! TOKENS of a row of bytes: where they begin and end, of what kind they are -/
def tk_k1 (b : Int32) : Nat := if b < 97 then (if b < 48 then 3 else if 57 < b then 3 else 2) else if 122 < b then 3 else 1
def tk_kd (tp : Nat → Int32) (z p : Nat) : Nat := if p < z then tk_k1 (tp p) else 0
def tk_sk (tp : Nat → Int32) (z : Nat) : Nat → Nat → Nat
  | 0, p => p
  | f + 1, p => if p < z ∧ tp p = 32 then tk_sk tp z f (p + 1) else p
def tk_rn (tp : Nat → Int32) (z kd : Nat) : Nat → Nat → Nat
  | 0, p => p
  | f + 1, p => if p < z ∧ tk_kd tp z p = kd then tk_rn tp z kd f (p + 1) else p
def tk_skp (tp : Nat → Int32) (z p : Nat) : Nat := tk_sk tp z (z - p) p
def tk_run (tp : Nat → Int32) (z kd p : Nat) : Nat := tk_rn tp z kd (z - p) p
def tk_en (tp : Nat → Int32) (z p : Nat) : Nat := if p < z then (if tk_kd tp z p = 1 ∨ tk_kd tp z p = 2 then tk_run tp z (tk_kd tp z p) (p + 1) else p + 1) else p
def tk_s (tp : Nat → Int32) (z : Nat) : Nat → Nat
  | 0 => tk_skp tp z 0
  | k + 1 => tk_skp tp z (tk_en tp z (tk_s tp z k))
section TK
variable {tp : Nat → Int32} {z p kd k : Nat}
theorem tk_skp_go (h : p < z) (h2 : tp p = 32) : tk_skp tp z p = tk_skp tp z (p + 1) := by
  unfold tk_skp
  rw [show z - p = (z - (p + 1)) + 1 by omega, tk_sk, if_pos ⟨h, h2⟩]
theorem tk_skp_no (h : ¬ (p < z ∧ tp p = 32)) : tk_skp tp z p = p := by
  unfold tk_skp
  cases hz : z - p with
  | zero => rfl
  | succ f => rw [tk_sk, if_neg h]
theorem tk_run_go (h : p < z) (h2 : tk_kd tp z p = kd) : tk_run tp z kd p = tk_run tp z kd (p + 1) := by
  unfold tk_run
  rw [show z - p = (z - (p + 1)) + 1 by omega, tk_rn, if_pos ⟨h, h2⟩]
theorem tk_run_no (h : ¬ (p < z ∧ tk_kd tp z p = kd)) : tk_run tp z kd p = p := by
  unfold tk_run
  cases hz : z - p with
  | zero => rfl
  | succ f => rw [tk_rn, if_neg h]
theorem tk_sk_le : ∀ (f p : Nat), p ≤ tk_sk tp z f p ∧ (p ≤ z → tk_sk tp z f p ≤ z) := by
  intro f
  induction f with
  | zero => intro p; exact ⟨Nat.le_refl _, fun h => h⟩
  | succ f ih =>
    intro p
    rw [tk_sk]
    split
    · have := ih (p + 1)
      exact ⟨by omega, fun _ => this.2 (by omega)⟩
    · exact ⟨Nat.le_refl _, fun h => h⟩
theorem tk_rn_le : ∀ (f p : Nat), p ≤ tk_rn tp z kd f p ∧ (p ≤ z → tk_rn tp z kd f p ≤ z) := by
  intro f
  induction f with
  | zero => intro p; exact ⟨Nat.le_refl _, fun h => h⟩
  | succ f ih =>
    intro p
    rw [tk_rn]
    split
    · have := ih (p + 1)
      exact ⟨by omega, fun _ => this.2 (by omega)⟩
    · exact ⟨Nat.le_refl _, fun h => h⟩
theorem tk_skp_ge : p ≤ tk_skp tp z p := (tk_sk_le _ _).1
theorem tk_skp_le (h : p ≤ z) : tk_skp tp z p ≤ z := (tk_sk_le _ _).2 h
theorem tk_run_ge : p ≤ tk_run tp z kd p := (tk_rn_le _ _).1
theorem tk_run_le (h : p ≤ z) : tk_run tp z kd p ≤ z := (tk_rn_le _ _).2 h
theorem tk_en_gt (h : p < z) : p < tk_en tp z p := by
  unfold tk_en
  rw [if_pos h]
  split
  · exact Nat.lt_of_lt_of_le (Nat.lt_succ_self p) tk_run_ge
  · exact Nat.lt_succ_self p
theorem tk_en_ge : p ≤ tk_en tp z p := by
  by_cases h : p < z
  · exact Nat.le_of_lt (tk_en_gt h)
  · unfold tk_en
    rw [if_neg h]
    exact Nat.le_refl _
theorem tk_en_le (h : p ≤ z) : tk_en tp z p ≤ z := by
  unfold tk_en
  split
  · split
    · exact tk_run_le (by omega)
    · omega
  · exact h
theorem tk_s_le : ∀ k, tk_s tp z k ≤ z := by
  intro k
  induction k with
  | zero => exact tk_skp_le (Nat.zero_le z)
  | succ k ih => exact tk_skp_le (tk_en_le ih)
theorem tk_s_lt (h : tk_s tp z k < z) : tk_s tp z k < tk_s tp z (k + 1) := Nat.lt_of_lt_of_le (tk_en_gt h) tk_skp_ge
theorem tk_s_end (h : ¬ tk_s tp z k < z) : tk_s tp z (k + 1) = tk_s tp z k := by
  rw [tk_s]
  have e : tk_en tp z (tk_s tp z k) = tk_s tp z k := by
    unfold tk_en
    rw [if_neg h]
  rw [e]
  exact tk_skp_no (fun q => h q.1)
/-- how many TOKENS there are -/
theorem tk_many (tp : Nat → Int32) (z : Nat) : ∃ m, m ≤ z ∧ (∀ k, k < m → tk_s tp z k < z) ∧ ∀ k, m ≤ k → tk_s tp z k = z := by
  have h : ∀ j, (∀ k, k < j → tk_s tp z k < z) → j ≤ tk_s tp z j ∨ j = 0 := by
    intro j
    induction j with
    | zero => intro _; exact Or.inr rfl
    | succ j ih =>
      intro hj
      have := tk_s_lt (hj j (by omega))
      rcases ih (fun k hk => hj k (by omega)) with q | q
      · exact Or.inl (by omega)
      · exact Or.inl (by omega)
  have ex : ∀ f j, j + f = z + 1 → (∀ k, k < j → tk_s tp z k < z) → ∃ m, m ≤ z ∧ (∀ k, k < m → tk_s tp z k < z) ∧ tk_s tp z m = z := by
    intro f
    induction f with
    | zero =>
      intro j hj hk
      have h1 := tk_s_le (tp := tp) (z := z) j
      rcases h j hk with q | q <;> omega
    | succ f ih =>
      intro j hj hk
      by_cases e : tk_s tp z j < z
      · refine ih (j + 1) (by omega) fun k hk' => ?_
        by_cases q : k = j
        · rw [q]; exact e
        · exact hk k (by omega)
      · exact ⟨j, by omega, hk, Nat.le_antisymm (tk_s_le j) (by omega)⟩
  obtain ⟨m, h1, h2, h3⟩ := ex (z + 1) 0 (by omega) (fun k hk => by omega)
  refine ⟨m, h1, h2, fun k hk => ?_⟩
  have : ∀ r, tk_s tp z (m + r) = z := by
    intro r
    induction r with
    | zero => exact h3
    | succ r ih => rw [← Nat.add_assoc, tk_s_end (by omega), ih]
  rw [show k = m + (k - m) by omega]
  exact this _
end TK
/-! words -/
def tk_ml (tp : Nat → Int32) (s : Nat) : List Int32 → Bool
  | [] => true
  | c :: w => decide (c = tp s) && tk_ml tp (s + 1) w
def tk_is (tp : Nat → Int32) (s e : Nat) (w : List Int32) : Bool := decide (e - s = w.length) && tk_ml tp s w
theorem tk_ml_at {tp : Nat → Int32} : ∀ {w : List Int32} {s : Nat}, tk_ml tp s w = true ↔ ∀ i, i < w.length → w.getD i 0 = tp (s + i) := by
  intro w
  induction w with
  | nil => intro s; exact ⟨fun _ i hi => absurd hi (Nat.not_lt_zero i), fun _ => rfl⟩
  | cons c w ih =>
    intro s
    rw [tk_ml, Bool.and_eq_true, decide_eq_true_eq, ih]
    constructor
    · rintro ⟨h1, h2⟩ i hi
      cases i with
      | zero => exact h1
      | succ i =>
        have := h2 i (by simpa using hi)
        rw [show s + (i + 1) = s + 1 + i by omega]
        simpa using this
    · intro h
      refine ⟨h 0 (by simp), fun i hi => ?_⟩
      have := h (i + 1) (by simpa using hi)
      rw [show s + 1 + i = s + (i + 1) by omega]
      simpa using this
theorem tk_ml_eq {tp : Nat → Int32} : ∀ {w w' : List Int32} {s : Nat}, tk_ml tp s w = true → tk_ml tp s w' = true → w.length = w'.length → w = w' := by
  intro w
  induction w with
  | nil =>
    intro w' s _ _ hl
    cases w' with
    | nil => rfl
    | cons c w' => simp at hl
  | cons c w ih =>
    intro w' s h1 h2 hl
    cases w' with
    | nil => simp at hl
    | cons c' w' =>
      rw [tk_ml, Bool.and_eq_true, decide_eq_true_eq] at h1 h2
      rw [h1.1, h2.1, ih h1.2 h2.2 (by simpa using hl)]
/-- at most one word is spelt -/
theorem tk_is_un {tp : Nat → Int32} {s e : Nat} {w w' : List Int32} (h : tk_is tp s e w = true) : tk_is tp s e w' = decide (w' = w) := by
  by_cases q : w' = w
  · rw [q, h]; simp
  · rw [decide_eq_false q]
    cases h2 : tk_is tp s e w' with
    | false => rfl
    | true =>
      unfold tk_is at h h2
      rw [Bool.and_eq_true, decide_eq_true_eq] at h h2
      exact absurd (tk_ml_eq h2.2 h.2 (by omega)) q
def tk_W : List (List Int32) := [[108, 111, 115, 101, 115], [99, 111, 115, 116, 115], [98, 97, 114, 115], [105, 102], [111, 114], [97, 110, 100], [110, 111, 116], [119, 111, 114, 100], [115, 101, 110, 115, 101], [108, 111, 115, 115], [116, 114, 117, 116, 104], [108, 101, 110, 103, 116, 104], [108, 105, 110, 101], [119, 104, 105, 116, 101], [109, 97, 110, 121], [97, 108, 105, 107, 101], [101, 99, 104, 111], [115, 105, 122, 101], [100, 97, 121], [109, 111, 111, 100], [119, 111, 114, 100, 115], [108, 101, 102, 116], [100, 111, 110, 101], [98, 114, 111, 97, 100], [115, 101, 116], [116, 117, 114, 110], [99, 108, 101, 97, 114], [116, 105, 109, 101, 115]]
/-- the first word of a row that is spelt -/
def tk_ix (tp : Nat → Int32) (s e j : Nat) : List (List Int32) → Option Nat
  | [] => none
  | w :: ws => if tk_is tp s e w = true then some j else tk_ix tp s e (j + 1) ws
def tk_wc (tp : Nat → Int32) (s e : Nat) : Nat := (tk_ix tp s e 1 tk_W).getD 0
/-- which word it is decides every row of words -/
theorem tk_wc_cs (tp : Nat → Int32) (s e : Nat) : (tk_wc tp s e = 0 ∧ ∀ w ∈ tk_W, tk_is tp s e w = false) ∨ ∃ i, i < 28 ∧ tk_wc tp s e = i + 1 ∧ ∀ w, tk_is tp s e w = decide (w = tk_W.getD i []) := by
  have gen : ∀ (ws : List (List Int32)) (j : Nat), (tk_ix tp s e j ws = none ∧ ∀ w ∈ ws, tk_is tp s e w = false) ∨ ∃ i, i < ws.length ∧ tk_ix tp s e j ws = some (j + i) ∧ tk_is tp s e (ws.getD i []) = true := by
    intro ws
    induction ws with
    | nil => intro j; exact Or.inl ⟨rfl, fun w hw => absurd hw (by simp)⟩
    | cons w ws ih =>
      intro j
      by_cases q : tk_is tp s e w = true
      · exact Or.inr ⟨0, by simp, by rw [tk_ix, if_pos q]; rfl, by simpa using q⟩
      · rcases ih (j + 1) with ⟨h1, h2⟩ | ⟨i, h1, h2, h3⟩
        · refine Or.inl ⟨by rw [tk_ix, if_neg q]; exact h1, fun w' hw => ?_⟩
          rcases List.mem_cons.mp hw with rfl | hw
          · simpa using q
          · exact h2 w' hw
        · exact Or.inr ⟨i + 1, by simpa using h1, by rw [tk_ix, if_neg q, h2]; congr 1; omega, by simpa using h3⟩
  rcases gen tk_W 1 with ⟨h1, h2⟩ | ⟨i, h1, h2, h3⟩
  · exact Or.inl ⟨by unfold tk_wc; rw [h1]; rfl, h2⟩
  · exact Or.inr ⟨i, h1, by unfold tk_wc; rw [h2]; show 1 + i = i + 1; omega, fun w => tk_is_un h3⟩
/-! numbers -/
def tk_dv (tp : Nat → Int32) (s : Nat) : Nat → Nat
  | 0 => 0
  | n + 1 => if 1000000 < tk_dv tp s n then tk_dv tp s n else 10 * tk_dv tp s n + ((tp (s + n)).toNatClampNeg - 48)
def tk_dc (tp : Nat → Int32) (s : Nat) : Nat → Nat
  | 0 => 0
  | n + 1 => if 10 * tk_dc tp s n + ((tp (s + n)).toNatClampNeg - 48) < 1001 then 10 * tk_dc tp s n + ((tp (s + n)).toNatClampNeg - 48) else 1001
theorem tk_dc_dv {tp : Nat → Int32} {s : Nat} : ∀ n, tk_dc tp s n = min 1001 (tk_dv tp s n) := by
  intro n
  induction n with
  | zero => rfl
  | succ n ih =>
    rw [tk_dc, tk_dv, ih]
    generalize (tp (s + n)).toNatClampNeg - 48 = g
    generalize tk_dv tp s n = q
    split <;> split <;> omega
/-! the row of TOKENS -/
def tk_by (b : Int32) : Nat := ((b.toInt + 256) % 256).toNat
def tk_c (tp : Nat → Int32) (z k : Nat) : Nat := if tk_kd tp z (tk_s tp z k) = 1 then tk_wc tp (tk_s tp z k) (tk_en tp z (tk_s tp z k)) else if tk_kd tp z (tk_s tp z k) = 2 then 50 else if tk_kd tp z (tk_s tp z k) = 3 then 100 + tk_by (tp (tk_s tp z k)) else 0
def tk_v (tp : Nat → Int32) (z k : Nat) : Nat := if tk_kd tp z (tk_s tp z k) = 2 then tk_dv tp (tk_s tp z k) (tk_en tp z (tk_s tp z k) - tk_s tp z k) else 0
theorem tk_c_end {tp : Nat → Int32} {z k : Nat} (h : tk_s tp z k = z) : tk_c tp z k = 0 := by
  unfold tk_c
  have : tk_kd tp z (tk_s tp z k) = 0 := by
    unfold tk_kd
    rw [if_neg (by omega)]
  rw [this, if_neg (by omega), if_neg (by omega), if_neg (by omega)]
theorem tk_wc_le (tp : Nat → Int32) (s e : Nat) : tk_wc tp s e ≤ 28 := by
  rcases tk_wc_cs tp s e with ⟨e, -⟩ | ⟨j, hj, e, -⟩ <;> omega
theorem tk_by_lt (b : Int32) : tk_by b < 256 := by
  unfold tk_by
  omega
/-- what a code tells of the kind -/
theorem tk_c_cs (tp : Nat → Int32) (z k : Nat) : (tk_kd tp z (tk_s tp z k) = 0 ∧ tk_c tp z k = 0) ∨ (tk_kd tp z (tk_s tp z k) = 1 ∧ tk_c tp z k = tk_wc tp (tk_s tp z k) (tk_en tp z (tk_s tp z k)) ∧ tk_c tp z k ≤ 28) ∨ (tk_kd tp z (tk_s tp z k) = 2 ∧ tk_c tp z k = 50) ∨ (tk_kd tp z (tk_s tp z k) = 3 ∧ tk_c tp z k = 100 + tk_by (tp (tk_s tp z k))) := by
  have h4 : tk_kd tp z (tk_s tp z k) < 4 := by
    unfold tk_kd tk_k1
    repeat' split
    all_goals omega
  have hw := tk_wc_le tp (tk_s tp z k) (tk_en tp z (tk_s tp z k))
  unfold tk_c
  by_cases h1 : tk_kd tp z (tk_s tp z k) = 1
  · rw [if_pos h1]; exact Or.inr (Or.inl ⟨h1, rfl, hw⟩)
  · rw [if_neg h1]
    by_cases h2 : tk_kd tp z (tk_s tp z k) = 2
    · rw [if_pos h2]; exact Or.inr (Or.inr (Or.inl ⟨h2, rfl⟩))
    · rw [if_neg h2]
      by_cases h3 : tk_kd tp z (tk_s tp z k) = 3
      · rw [if_pos h3]; exact Or.inr (Or.inr (Or.inr ⟨h3, rfl⟩))
      · rw [if_neg h3]; exact Or.inl ⟨by omega, rfl⟩
theorem tk_W_in : ∀ a : Fin 28, tk_W.getD a.val [] ∈ tk_W := by decide +kernel
theorem tk_W_un : ∀ a : Fin 28, ∀ b : Fin 28, tk_W.getD a.val [] = tk_W.getD b.val [] → a = b := by decide +kernel
theorem tk_is_c {tp : Nat → Int32} {s e j : Nat} (hj : j < 28) : tk_is tp s e (tk_W.getD j []) = decide (tk_wc tp s e = j + 1) := by
  rcases tk_wc_cs tp s e with ⟨g1, g2⟩ | ⟨u, hu, g1, g2⟩
  · rw [g1, decide_eq_false (by omega)]
    exact g2 _ (tk_W_in ⟨j, hj⟩)
  · rw [g1, g2]
    by_cases ej : j = u
    · subst ej; simp
    · have h1 : ¬ tk_W.getD j [] = tk_W.getD u [] := fun g => ej (by simpa using tk_W_un ⟨j, hj⟩ ⟨u, hu⟩ g)
      have h2 : ¬ u + 1 = j + 1 := by omega
      rw [decide_eq_false h1, decide_eq_false h2]
