/-! the greatest common divisor, by the model -/
section GCD
variable {X : hf_X} {d kk nn t : Nat} {T : hf_T} {J : hf_I} {L : hf_L} {P : hf_P} {Q : Option Value → hf_M → Prop}
theorem lN_zero {b : Nat} (hb : b < 2 ^ 31) : lN b = 0 ↔ b = 0 := by
  constructor
  · intro h
    have e := congrArg Int64.toInt h
    rw [lN_toInt hb] at e
    have z : (0 : Int64).toInt = 0 := by decide
    omega
  · intro h
    rw [h]; rfl
theorem ms_common {a b : Nat} (hs : hf_Lay t T P) (ha : a < 2 ^ 31) (hb : b < 2 ^ 31) (h : Q (some (.long (lN (Nat.gcd a b)))) (t, T, J, L, P)) : hf_G X Y_X12_common d kk nn 0 (hf_en [.long (lN a), .long (lN b)] 10) [] (t, T, J, L, P) Q := by
  have loop : ∀ m a b, b ≤ m → a < 2 ^ 31 → b < 2 ^ 31 → Q (some (.long (lN (Nat.gcd a b)))) (t, T, J, L, P) → hf_G X Y_X12_common d kk nn 6 [none, none, none, none, some (.long (lN a)), none, some (.long (lN b)), none, none, none] [] (t, T, J, L, P) Q := by
    intro m
    induction m with
    | zero =>
      intro a b hm ha hb hQ
      obtain rfl : b = 0 := Nat.le_zero.mp hm
      rw [Nat.gcd_zero_right] at hQ
      exact w_X12_common_6 hs ⟨fun _ => hQ, fun q => absurd (by decide) q⟩
    | succ m ih =>
      intro a b hm ha hb hQ
      by_cases b0 : b = 0
      · subst b0
        rw [Nat.gcd_zero_right] at hQ
        exact w_X12_common_6 hs ⟨fun _ => hQ, fun q => absurd (by decide) q⟩
      · have nz : ¬ lN b = 0 := fun z => b0 ((lN_zero hb).mp z)
        have hle : a / b * b ≤ a := Nat.div_mul_le_self a b
        have e : lN a - lN a / lN b * lN b = lN (a % b) := by
          rw [lN_div ha (by omega) hb, lN_mul, lN_sub hle]
          congr 1
          have := Nat.mod_add_div a b
          rw [Nat.mul_comm b] at this
          omega
        have ml : a % b < b := Nat.mod_lt _ (by omega)
        refine w_X12_common_6 hs ⟨fun q => ?_, fun _ => ⟨nz, ?_⟩⟩
        · exfalso
          exact nz ((lg_cmp_eq _ _).mp q)
        · rw [e]
          refine ih b (a % b) (by omega) hb (by omega) ?_
          rw [Nat.gcd_comm b (a % b), ← Nat.gcd_rec, Nat.gcd_comm b a]
          exact hQ
  exact w_X12_common_0 hs (loop b a b (Nat.le_refl _) ha hb h)
end GCD
