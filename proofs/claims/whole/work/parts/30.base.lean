/-! plain words for what loops work out -/
def hf_cnt (f : Nat → Int32) (x : Int32) : Nat → Nat
  | 0 => 0
  | n + 1 => hf_cnt f x n + (if f n = x then 1 else 0)
theorem hf_cnt_le (f : Nat → Int32) (x : Int32) : ∀ n, hf_cnt f x n ≤ n := by
  intro n
  induction n with
  | zero => exact Nat.le_refl _
  | succ n ih =>
    rw [hf_cnt]
    split <;> omega
theorem hf_cnt_congr {f g : Nat → Int32} {x : Int32} : ∀ {n : Nat}, (∀ j, j < n → f j = g j) → hf_cnt f x n = hf_cnt g x n := by
  intro n
  induction n with
  | zero => intro _; rfl
  | succ n ih =>
    intro h
    rw [hf_cnt, hf_cnt, ih (fun j hj => h j (by omega)), h n (by omega)]
/-- the first place below n that holds x, n if none does -/
def hf_fst (f : Nat → Int32) (x : Int32) : Nat → Nat
  | 0 => 0
  | n + 1 => if hf_fst f x n < n then hf_fst f x n else if f n = x then n else n + 1
theorem hf_fst_le (f : Nat → Int32) (x : Int32) : ∀ n, hf_fst f x n ≤ n := by
  intro n
  induction n with
  | zero => exact Nat.le_refl _
  | succ n ih =>
    rw [hf_fst]
    split
    · omega
    · split <;> omega
theorem hf_fst_is {f : Nat → Int32} {x : Int32} : ∀ {n i : Nat}, i < n → f i = x → (∀ j, j < i → ¬ f j = x) → hf_fst f x n = i := by
  intro n
  induction n with
  | zero => intro i hi; omega
  | succ n ih =>
    intro i hi hx hb
    rw [hf_fst]
    by_cases h : i < n
    · rw [ih h hx hb, if_pos h]
    · have e : i = n := by omega
      subst e
      have : hf_fst f x i = i := by
        clear ih hi h hx
        have hle := hf_fst_le f x i
        revert hb hle
        generalize hz : i = z
        intro hb hle
        clear hz
        induction z with
        | zero => rfl
        | succ z ihz =>
          rw [hf_fst]
          have h1 := ihz (fun j hj => hb j (by omega)) (hf_fst_le f x z)
          rw [h1, if_neg (by omega), if_neg (hb z (by omega))]
      rw [this, if_neg (by omega), if_pos hx]
theorem hf_fst_none {f : Nat → Int32} {x : Int32} : ∀ {n : Nat}, (∀ j, j < n → ¬ f j = x) → hf_fst f x n = n := by
  intro n
  induction n with
  | zero => intro _; rfl
  | succ n ih =>
    intro h
    rw [hf_fst, ih (fun j hj => h j (by omega)), if_neg (by omega), if_neg (h n (by omega))]
theorem hf_fst_congr {f g : Nat → Int32} {x : Int32} : ∀ {n : Nat}, (∀ j, j < n → f j = g j) → hf_fst f x n = hf_fst g x n := by
  intro n
  induction n with
  | zero => intro _; rfl
  | succ n ih =>
    intro h
    rw [hf_fst, hf_fst, ih (fun j hj => h j (by omega)), h n (by omega)]
theorem hf_nin {i c z : Nat} (h : i < c) (hc : c ≤ z) (hz : z < 2 ^ 31) : vp_in (nI i) z := vp_in_nI (by omega) hz
section LEAF
variable {X : hf_X} {d k n t : Nat} {T : hf_T} {I : hf_I} {L : hf_L} {P : hf_P} {Q : Option Value → hf_M → Prop}
theorem sp_X3_manyIn {line : Int32} {c : Nat} (hs : hf_Lay t T P) (hc : c ≤ 12) (hn : I 114 2 = nI c) (h : Q (some (.int (nI (hf_cnt (I 116) line c)))) (t, T, I, L, P)) : hf_G X Y_X3_manyIn d k n 0 (hf_en [.ref 114, .int line] 4) [] (t, T, I, L, P) Q := by
  have loop : ∀ m i, i + m = c → hf_G X Y_X3_manyIn d k n 4 [some (.ref 114), some (.int line), some (.int (nI (hf_cnt (I 116) line i))), some (.int (nI i))] [] (t, T, I, L, P) Q := by
    intro m
    induction m with
    | zero =>
      intro i hi
      have e : i = c := by omega
      subst e
      exact w_X3_manyIn_4 hs ⟨fun _ => h, fun hq => absurd (by rw [hn]; exact nI_le (Nat.le_refl _) (by omega)) hq⟩
    | succ m ih =>
      intro i hi
      refine w_X3_manyIn_4 hs ⟨fun hq => absurd hq (by rw [hn]; exact nI_ge (by omega) (by omega)), fun _ => ⟨vp_in_nI (by omega) (by omega), fun hne => ?_, fun heq => ?_⟩⟩
      · rw [nI_clamp (by omega)] at hne
        have := ih (i + 1) (by omega)
        rw [hf_cnt, if_neg hne, Nat.add_zero, ← nI_1] at this
        exact this
      · rw [nI_clamp (by omega)] at heq
        have := ih (i + 1) (by omega)
        rw [hf_cnt, if_pos heq, ← nI_1, ← nI_1] at this
        exact this
  exact w_X3_manyIn_0 hs (loop c 0 (by omega))
/-- the WORD that the first place of a line holds, -1 without -/
def hf_fw (w l : Nat → Int32) (x : Int32) (c : Nat) : Int32 := if hf_fst l x c < c then w (hf_fst l x c) else -1
theorem sp_X3_firstIn {line : Int32} {c : Nat} (hs : hf_Lay t T P) (hc : c ≤ 12) (hn : I 114 2 = nI c) (h : Q (some (.int (hf_fw (I 115) (I 116) line c))) (t, T, I, L, P)) : hf_G X Y_X3_firstIn d k n 0 (hf_en [.ref 114, .int line] 3) [] (t, T, I, L, P) Q := by
  have loop : ∀ m i, i + m = c → (∀ j, j < i → ¬ I 116 j = line) → hf_G X Y_X3_firstIn d k n 2 [some (.ref 114), some (.int line), some (.int (nI i))] [] (t, T, I, L, P) Q := by
    intro m
    induction m with
    | zero =>
      intro i hi hb
      have e : i = c := by omega
      subst e
      unfold hf_fw at h
      rw [hf_fst_none hb, if_neg (by omega)] at h
      exact w_X3_firstIn_2 hs ⟨fun _ => h, fun hq => absurd (by rw [hn]; exact nI_le (Nat.le_refl _) (by omega)) hq⟩
    | succ m ih =>
      intro i hi hb
      refine w_X3_firstIn_2 hs ⟨fun hq => absurd hq (by rw [hn]; exact nI_ge (by omega) (by omega)), fun _ => ⟨vp_in_nI (by omega) (by omega), fun hne => ?_, fun heq => ⟨vp_in_nI (by omega) (by omega), ?_⟩⟩⟩
      · rw [nI_clamp (by omega)] at hne
        have := ih (i + 1) (by omega) (fun j hj => by
          by_cases q : j < i
          · exact hb j q
          · rw [show j = i by omega]; exact hne)
        rw [← nI_1] at this
        exact this
      · rw [nI_clamp (by omega)] at heq ⊢
        unfold hf_fw at h
        rw [hf_fst_is (by omega) heq hb, if_pos (by omega)] at h
        exact h
  exact w_X3_firstIn_0 hs (loop c 0 (by omega) (fun j hj => by omega))
end LEAF
