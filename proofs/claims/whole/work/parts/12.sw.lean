theorem hf_swc (x : Int32) (lo : Int) (n : Nat) : (x.toInt < lo ∨ lo + n < x.toInt) ∨ ∃ j : Nat, j ≤ n ∧ x.toInt = lo + j := by
  by_cases h : x.toInt < lo ∨ lo + n < x.toInt
  · exact Or.inl h
  · exact Or.inr ⟨(x.toInt - lo).toNat, by omega, by omega⟩
theorem hf_swi {x c : Int32} {z : Int} (h : x.toInt = z) (hc : c.toInt = z) : x = c := Int32.toInt_inj.mp (h.trans hc.symm)
def hf_cp (I : hf_I) (a b sp dp w : Nat) : hf_I := fun q => if q = b then va_cpy (I a) (I b) sp dp w else I q
theorem hw_cpn : Cond.native arraycopyName ∈ hf_tb := hw663
theorem hw_cps : Cond.static arraycopyName ∈ hf_tb := hw662
theorem hw_cpi : Cond.initialized "java/lang/System" ∈ hf_tb := hw20
theorem hf_vin {x : Int32} {n : Nat} (h : decide (¬ (x < 0 ∨ n ≤ x.toNatClampNeg)) = true) : vp_in x n := (of_decide_eq_true h : ¬ (x < 0 ∨ n ≤ x.toNatClampNeg))
theorem hf_iald_k {X : hf_X} {Y : hf_Y} {d k n pc : Nat} {l : List (Option Value)} {st : List Value} {Q : Option Value → hf_M → Prop} {t : Nat} {T : hf_T} {I : hf_I} {L : hf_L} {P : hf_P} {a z j : Nat} {i : Int32} (hj : i.toNatClampNeg = j) (hdg : decode Y.2.1 pc = .ok (.iaload, 1)) (hT : T a = (100, z)) (ha : 100 ≤ a ∧ a < 100 + t) (hin : vp_in i z) (h : hf_G X Y d k n (pc + 1) l (.int (I a j) :: st) (t, T, I, L, P) Q) : hf_G X Y d k n pc l (.int i :: .ref a :: st) (t, T, I, L, P) Q := by
  subst hj
  exact hf_iald hdg hT ha hin h
theorem hf_bald_k {X : hf_X} {Y : hf_Y} {d k n pc : Nat} {l : List (Option Value)} {st : List Value} {Q : Option Value → hf_M → Prop} {t : Nat} {T : hf_T} {I : hf_I} {L : hf_L} {P : hf_P} {a z j : Nat} {i : Int32} (hj : i.toNatClampNeg = j) (hdg : decode Y.2.1 pc = .ok (.baload, 1)) (hT : T a = (101, z)) (ha : 100 ≤ a ∧ a < 100 + t) (hin : vp_in i z) (h : hf_G X Y d k n (pc + 1) l (.int (I a j) :: st) (t, T, I, L, P) Q) : hf_G X Y d k n pc l (.int i :: .ref a :: st) (t, T, I, L, P) Q := by
  subst hj
  exact hf_bald hdg hT ha hin h
theorem hf_zald_k {X : hf_X} {Y : hf_Y} {d k n pc : Nat} {l : List (Option Value)} {st : List Value} {Q : Option Value → hf_M → Prop} {t : Nat} {T : hf_T} {I : hf_I} {L : hf_L} {P : hf_P} {a z j : Nat} {i : Int32} (hj : i.toNatClampNeg = j) (hdg : decode Y.2.1 pc = .ok (.baload, 1)) (hT : T a = (102, z)) (ha : 100 ≤ a ∧ a < 100 + t) (hin : vp_in i z) (h : hf_G X Y d k n (pc + 1) l (.int (I a j) :: st) (t, T, I, L, P) Q) : hf_G X Y d k n pc l (.int i :: .ref a :: st) (t, T, I, L, P) Q := by
  subst hj
  exact hf_zald hdg hT ha hin h
theorem hf_lald_k {X : hf_X} {Y : hf_Y} {d k n pc : Nat} {l : List (Option Value)} {st : List Value} {Q : Option Value → hf_M → Prop} {t : Nat} {T : hf_T} {I : hf_I} {L : hf_L} {P : hf_P} {a z j : Nat} {i : Int32} (hj : i.toNatClampNeg = j) (hdg : decode Y.2.1 pc = .ok (.laload, 1)) (hT : T a = (103, z)) (ha : 100 ≤ a ∧ a < 100 + t) (hin : vp_in i z) (h : hf_G X Y d k n (pc + 1) l (.long (L a j) :: st) (t, T, I, L, P) Q) : hf_G X Y d k n pc l (.int i :: .ref a :: st) (t, T, I, L, P) Q := by
  subst hj
  exact hf_lald hdg hT ha hin h
theorem hf_iast_k {X : hf_X} {Y : hf_Y} {d k n pc : Nat} {l : List (Option Value)} {st : List Value} {Q : Option Value → hf_M → Prop} {t : Nat} {T : hf_T} {I : hf_I} {L : hf_L} {P : hf_P} {a z j : Nat} {i x : Int32} (hj : i.toNatClampNeg = j) (hdg : decode Y.2.1 pc = .ok (.iastore, 1)) (hT : T a = (100, z)) (ha : 100 ≤ a ∧ a < 100 + t) (hin : vp_in i z) (h : hf_G X Y d k n (pc + 1) l st (t, T, hf_up I a j x, L, P) Q) : hf_G X Y d k n pc l (.int x :: .int i :: .ref a :: st) (t, T, I, L, P) Q := by
  subst hj
  exact hf_iast hdg hT ha hin h
theorem hf_bast_k {X : hf_X} {Y : hf_Y} {d k n pc : Nat} {l : List (Option Value)} {st : List Value} {Q : Option Value → hf_M → Prop} {t : Nat} {T : hf_T} {I : hf_I} {L : hf_L} {P : hf_P} {a z j : Nat} {i x : Int32} (hj : i.toNatClampNeg = j) (hdg : decode Y.2.1 pc = .ok (.bastore, 1)) (hT : T a = (101, z)) (ha : 100 ≤ a ∧ a < 100 + t) (hin : vp_in i z) (h : hf_G X Y d k n (pc + 1) l st (t, T, hf_up I a j (vp_nar .byte x), L, P) Q) : hf_G X Y d k n pc l (.int x :: .int i :: .ref a :: st) (t, T, I, L, P) Q := by
  subst hj
  exact hf_bast hdg hT ha hin h
theorem hf_zast_k {X : hf_X} {Y : hf_Y} {d k n pc : Nat} {l : List (Option Value)} {st : List Value} {Q : Option Value → hf_M → Prop} {t : Nat} {T : hf_T} {I : hf_I} {L : hf_L} {P : hf_P} {a z j : Nat} {i x : Int32} (hj : i.toNatClampNeg = j) (hdg : decode Y.2.1 pc = .ok (.bastore, 1)) (hT : T a = (102, z)) (ha : 100 ≤ a ∧ a < 100 + t) (hin : vp_in i z) (h : hf_G X Y d k n (pc + 1) l st (t, T, hf_up I a j (vp_nar .boolean x), L, P) Q) : hf_G X Y d k n pc l (.int x :: .int i :: .ref a :: st) (t, T, I, L, P) Q := by
  subst hj
  exact hf_zast hdg hT ha hin h
theorem hf_last_k {X : hf_X} {Y : hf_Y} {d k n pc : Nat} {l : List (Option Value)} {st : List Value} {Q : Option Value → hf_M → Prop} {t : Nat} {T : hf_T} {I : hf_I} {L : hf_L} {P : hf_P} {a z j : Nat} {i : Int32} {x : Int64} (hj : i.toNatClampNeg = j) (hdg : decode Y.2.1 pc = .ok (.lastore, 1)) (hT : T a = (103, z)) (ha : 100 ≤ a ∧ a < 100 + t) (hin : vp_in i z) (h : hf_G X Y d k n (pc + 1) l st (t, T, I, hf_upL L a j x, P) Q) : hf_G X Y d k n pc l (.long x :: .int i :: .ref a :: st) (t, T, I, L, P) Q := by
  subst hj
  exact hf_last hdg hT ha hin h
abbrev Y_L_law : hf_Y := (x, code, 4, ret)
