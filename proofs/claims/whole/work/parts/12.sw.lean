theorem hf_swc (x : Int32) (lo : Int) (n : Nat) : (x.toInt < lo ∨ lo + n < x.toInt) ∨ ∃ j : Nat, j ≤ n ∧ x.toInt = lo + j := by
  by_cases h : x.toInt < lo ∨ lo + n < x.toInt
  · exact Or.inl h
  · exact Or.inr ⟨(x.toInt - lo).toNat, by omega, by omega⟩
theorem hf_swi {x c : Int32} {z : Int} (h : x.toInt = z) (hc : c.toInt = z) : x = c := Int32.toInt_inj.mp (h.trans hc.symm)
def hf_cp (I : hf_I) (a b sp dp w : Nat) : hf_I := fun q => if q = b then va_cpy (I a) (I b) sp dp w else I q
theorem hw_cpn : Cond.native arraycopyName ∈ hf_tb := hw663
theorem hw_cps : Cond.static arraycopyName ∈ hf_tb := hw662
theorem hw_cpi : Cond.initialized "java/lang/System" ∈ hf_tb := hw20
theorem hf_vin {x : Int32} {n : Nat} (h : decide (¬ (x < 0 ∨ n ≤ x.toNatClampNeg)) = true) : vp_in x n := (of_decide_eq_true h : ¬ (x < 0 ∨ n ≤ x.toNatClampNeg))
