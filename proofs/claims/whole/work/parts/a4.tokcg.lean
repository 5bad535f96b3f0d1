/-! TOKENS rest on the TAPE as far as it goes -/
section TOKCG
variable {tp tq : Nat → Int32} {z : Nat}
theorem tk_kd_cg (h : ∀ j, j < z → tp j = tq j) (p : Nat) : tk_kd tp z p = tk_kd tq z p := by
  unfold tk_kd
  by_cases e : p < z
  · rw [if_pos e, if_pos e, h p e]
  · rw [if_neg e, if_neg e]
theorem tk_sk_cg (h : ∀ j, j < z → tp j = tq j) : ∀ f p, tk_sk tp z f p = tk_sk tq z f p := by
  intro f
  induction f with
  | zero => intro p; rfl
  | succ f ih =>
    intro p
    rw [tk_sk, tk_sk, ih]
    by_cases e : p < z
    · rw [h p e]
    · rw [if_neg (fun q => e q.1), if_neg (fun q => e q.1)]
theorem tk_rn_cg (h : ∀ j, j < z → tp j = tq j) {kd : Nat} : ∀ f p, tk_rn tp z kd f p = tk_rn tq z kd f p := by
  intro f
  induction f with
  | zero => intro p; rfl
  | succ f ih =>
    intro p
    rw [tk_rn, tk_rn, ih, tk_kd_cg h]
theorem tk_en_cg (h : ∀ j, j < z → tp j = tq j) (p : Nat) : tk_en tp z p = tk_en tq z p := by
  unfold tk_en tk_run
  rw [tk_kd_cg h, tk_rn_cg h]
theorem tk_s_cg (h : ∀ j, j < z → tp j = tq j) : ∀ k, tk_s tp z k = tk_s tq z k := by
  intro k
  induction k with
  | zero =>
    show tk_sk tp z (z - 0) 0 = tk_sk tq z (z - 0) 0
    exact tk_sk_cg h _ _
  | succ k ih =>
    show tk_sk tp z (z - tk_en tp z (tk_s tp z k)) (tk_en tp z (tk_s tp z k)) = tk_sk tq z (z - tk_en tq z (tk_s tq z k)) (tk_en tq z (tk_s tq z k))
    rw [ih, tk_en_cg h, tk_sk_cg h]
theorem tk_is_cg (h : ∀ j, j < z → tp j = tq j) {s e : Nat} (he : e ≤ z) (w : List Int32) : tk_is tp s e w = tk_is tq s e w := by
  unfold tk_is
  by_cases q : e - s = w.length
  · have : tk_ml tp s w = tk_ml tq s w := by
      have a : tk_ml tp s w = true ↔ tk_ml tq s w = true := by
        rw [tk_ml_at, tk_ml_at]
        constructor
        · intro g i hi; rw [← h (s + i) (by omega)]; exact g i hi
        · intro g i hi; rw [h (s + i) (by omega)]; exact g i hi
      cases e1 : tk_ml tp s w with
      | true => rw [a.mp e1]
      | false =>
        cases e2 : tk_ml tq s w with
        | true => rw [a.mpr e2] at e1; cases e1
        | false => rfl
    rw [this]
  · rw [decide_eq_false q, Bool.false_and, Bool.false_and]
theorem tk_ix_cg (h : ∀ j, j < z → tp j = tq j) {s e : Nat} (he : e ≤ z) : ∀ (ws : List (List Int32)) (j : Nat), tk_ix tp s e j ws = tk_ix tq s e j ws := by
  intro ws
  induction ws with
  | nil => intro j; rfl
  | cons w ws ih => intro j; rw [tk_ix, tk_ix, tk_is_cg h he, ih]
theorem tk_dv_cg (h : ∀ j, j < z → tp j = tq j) {s : Nat} : ∀ n, s + n ≤ z → tk_dv tp s n = tk_dv tq s n := by
  intro n
  induction n with
  | zero => intro _; rfl
  | succ n ih => intro hn; rw [tk_dv, tk_dv, ih (by omega), h (s + n) (by omega)]
theorem tk_c_cg (h : ∀ j, j < z → tp j = tq j) : tk_c tp z = tk_c tq z := by
  funext k
  unfold tk_c tk_wc
  have sl := tk_s_le (tp := tq) (z := z) k
  have el := tk_en_le (tp := tq) (z := z) sl
  rw [tk_s_cg h, tk_kd_cg h, tk_en_cg h, tk_ix_cg h el]
  by_cases q : tk_s tq z k < z
  · rw [h _ q]
  · have e0 : tk_kd tq z (tk_s tq z k) = 0 := by unfold tk_kd; rw [if_neg q]
    rw [e0]
    simp only [show ¬ (0 : Nat) = 1 by omega, show ¬ (0 : Nat) = 2 by omega, show ¬ (0 : Nat) = 3 by omega, if_false]
theorem tk_v_cg (h : ∀ j, j < z → tp j = tq j) : tk_v tp z = tk_v tq z := by
  funext k
  unfold tk_v
  have sl := tk_s_le (tp := tq) (z := z) k
  have el := tk_en_le (tp := tq) (z := z) sl
  have eg := tk_en_ge (tp := tq) (z := z) (p := tk_s tq z k)
  rw [tk_s_cg h, tk_kd_cg h, tk_en_cg h, tk_dv_cg h _ (by omega)]
theorem tk_byte_cg (h : ∀ j, j < z → tp j = tq j) (hb : tk_byte tp z) : tk_byte tq z := fun j hj => by rw [← h j hj]; exact hb j hj
end TOKCG
