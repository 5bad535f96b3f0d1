/-! CLAUSES: what a whole TEXT is, and that the class reads it so -/
abbrev gr_c1 : Type := Nat × (gr_cd × gr_dn) × Nat × (gr_cd × gr_dn)
def gr_c0 : gr_c1 := (0, ([], fun _ => none), 0, ([], fun _ => none))
/-- which kind, and 1 more; 0: none -/
def gr_kd (S : Bool) (c : Nat) : Nat := match S with
  | true => if c = 25 then 1 else if c = 26 then 2 else if c = 27 then 3 else if c = 18 then 4 else 0
  | false => if c = 1 then 1 else if c = 2 then 2 else if c = 3 then 3 else 0
def gr_wsm (S : Bool) (kd : Nat) : Bool := match S with
  | true => kd == 0 || kd == 3
  | false => !(kd == 2)
def gr_sm (S : Bool) (c v : Nat → Nat) (kd k lv : Nat) : gr_r := if gr_wsm S kd = true then gr_ps S c v 600 3 0 0 k lv (fun _ => none) else gr_gd k lv [] (fun _ => some 1)
def gr_tm (S : Bool) (c v : Nat → Nat) (k : Nat) : Nat × Nat × Nat := if S = true ∧ c k = 28 then (if c (k + 1) = 50 ∧ 1 ≤ v (k + 1) ∧ v (k + 1) ≤ 20 then (2, k + 2, v (k + 1)) else (1, k + 1, 0)) else (2, k, 1)
def gr_if (S : Bool) (c v : Nat → Nat) (k lv : Nat) : gr_r := if c k = 4 then gr_ps S c v 600 9 0 0 (k + 1) lv (fun _ => none) else gr_gd k lv [] (fun _ => some 1)
def gr_cl (S : Bool) (c v : Nat → Nat) (k lv : Nat) : Nat × Nat × Nat × gr_c1 :=
  if gr_kd S (c k) = 0 then (1, k, 0, gr_c0) else
  if (gr_sm S c v (gr_kd S (c k) - 1) (k + 1) lv).1 = 2 then
    (if (gr_tm S c v (gr_sm S c v (gr_kd S (c k) - 1) (k + 1) lv).2.1).1 = 2 then
      (if (gr_if S c v (gr_tm S c v (gr_sm S c v (gr_kd S (c k) - 1) (k + 1) lv).2.1).2.1 (gr_sm S c v (gr_kd S (c k) - 1) (k + 1) lv).2.2.1).1 = 2 then
        (2, (gr_if S c v (gr_tm S c v (gr_sm S c v (gr_kd S (c k) - 1) (k + 1) lv).2.1).2.1 (gr_sm S c v (gr_kd S (c k) - 1) (k + 1) lv).2.2.1).2.1, (gr_if S c v (gr_tm S c v (gr_sm S c v (gr_kd S (c k) - 1) (k + 1) lv).2.1).2.1 (gr_sm S c v (gr_kd S (c k) - 1) (k + 1) lv).2.2.1).2.2.1, (gr_kd S (c k) - 1, (gr_sm S c v (gr_kd S (c k) - 1) (k + 1) lv).2.2.2, (gr_tm S c v (gr_sm S c v (gr_kd S (c k) - 1) (k + 1) lv).2.1).2.2, (gr_if S c v (gr_tm S c v (gr_sm S c v (gr_kd S (c k) - 1) (k + 1) lv).2.1).2.1 (gr_sm S c v (gr_kd S (c k) - 1) (k + 1) lv).2.2.1).2.2.2))
      else (1, (gr_if S c v (gr_tm S c v (gr_sm S c v (gr_kd S (c k) - 1) (k + 1) lv).2.1).2.1 (gr_sm S c v (gr_kd S (c k) - 1) (k + 1) lv).2.2.1).2.1, 0, gr_c0))
    else (1, (gr_tm S c v (gr_sm S c v (gr_kd S (c k) - 1) (k + 1) lv).2.1).2.1, 0, gr_c0))
  else (1, (gr_sm S c v (gr_kd S (c k) - 1) (k + 1) lv).2.1, 0, gr_c0)
def gr_al (S : Bool) (c v : Nat → Nat) (m : Nat) : Nat → Nat → Nat → Nat × Nat × List gr_c1
  | 0, k, _ => (1, k, [])
  | j + 1, k, lv => if (gr_cl S c v k lv).1 = 2 then (if (gr_cl S c v k lv).2.1 = m then (2, (gr_cl S c v k lv).2.1, [(gr_cl S c v k lv).2.2.2]) else if c (gr_cl S c v k lv).2.1 = 159 then ((gr_al S c v m j ((gr_cl S c v k lv).2.1 + 1) (gr_cl S c v k lv).2.2.1).1, (gr_al S c v m j ((gr_cl S c v k lv).2.1 + 1) (gr_cl S c v k lv).2.2.1).2.1, (gr_cl S c v k lv).2.2.2 :: (gr_al S c v m j ((gr_cl S c v k lv).2.1 + 1) (gr_cl S c v k lv).2.2.1).2.2) else (1, (gr_cl S c v k lv).2.1, [])) else (1, (gr_cl S c v k lv).2.1, [])
section GC
variable {S : Bool} {c v : Nat → Nat} {k lv m kd : Nat}
/-- how a CLAUSE comes about -/
theorem gr_cl_a (h : gr_kd S (c k) = 0) : gr_cl S c v k lv = (1, k, 0, gr_c0) := by unfold gr_cl; rw [if_pos h]
theorem gr_cl_b (h : ¬ gr_kd S (c k) = 0) (h1 : ¬ (gr_sm S c v (gr_kd S (c k) - 1) (k + 1) lv).1 = 2) : gr_cl S c v k lv = (1, (gr_sm S c v (gr_kd S (c k) - 1) (k + 1) lv).2.1, 0, gr_c0) := by unfold gr_cl; rw [if_neg h, if_neg h1]
theorem gr_cl_c {r1 : gr_r} (h : ¬ gr_kd S (c k) = 0) (e1 : gr_sm S c v (gr_kd S (c k) - 1) (k + 1) lv = r1) (h1 : r1.1 = 2) (h2 : ¬ (gr_tm S c v r1.2.1).1 = 2) : gr_cl S c v k lv = (1, (gr_tm S c v r1.2.1).2.1, 0, gr_c0) := by unfold gr_cl; rw [e1, if_neg h, if_pos h1, if_neg h2]
theorem gr_cl_d {r1 r2 : gr_r} {q : Nat × Nat × Nat} (h : ¬ gr_kd S (c k) = 0) (e1 : gr_sm S c v (gr_kd S (c k) - 1) (k + 1) lv = r1) (h1 : r1.1 = 2) (e2 : gr_tm S c v r1.2.1 = q) (h2 : q.1 = 2) (e3 : gr_if S c v q.2.1 r1.2.2.1 = r2) (h3 : ¬ r2.1 = 2) : gr_cl S c v k lv = (1, r2.2.1, 0, gr_c0) := by unfold gr_cl; rw [e1, if_neg h, if_pos h1, e2, if_pos h2, e3, if_neg h3]
theorem gr_cl_e {r1 r2 : gr_r} {q : Nat × Nat × Nat} (h : ¬ gr_kd S (c k) = 0) (e1 : gr_sm S c v (gr_kd S (c k) - 1) (k + 1) lv = r1) (h1 : r1.1 = 2) (e2 : gr_tm S c v r1.2.1 = q) (h2 : q.1 = 2) (e3 : gr_if S c v q.2.1 r1.2.2.1 = r2) (h3 : r2.1 = 2) : gr_cl S c v k lv = (2, r2.2.1, r2.2.2.1, (gr_kd S (c k) - 1, r1.2.2.2, q.2.2, r2.2.2.2)) := by unfold gr_cl; rw [e1, if_neg h, if_pos h1, e2, if_pos h2, e3, if_pos h3]
theorem gr_kd_lt {cc : Nat} : gr_kd S cc ≤ 4 := by
  unfold gr_kd
  cases S <;> (repeat' split) <;> omega
theorem gr_kd_ne {cc : Nat} (h : ¬ gr_kd S cc = 0) : ¬ cc = 0 := by
  intro q
  subst q
  cases S <;> exact h rfl
/-- the outcome is 1 or 2 where fuel is enough -/
theorem gr_n0 (hc : ∀ j, m ≤ j → c j = 0) (hm : m ≤ 400) (hk : k ≤ m) {nt : Nat} (hnt : nt ≤ 10) {a : gr_dn} : (gr_ps S c v 600 nt 0 0 k lv a).1 ≠ 0 ∧ (gr_ps S c v 600 nt 0 0 k lv a).2.1 ≤ m := by
  refine gr_ps_ok hc 600 nt 0 0 k lv a hnt hk (by omega) ?_
  have : gr_rk nt ≤ 7 := by
    unfold gr_rk
    split <;> omega
  omega
theorem gr_sm_fw (hm : (gr_sm S c v kd k lv).1 = 2) : k ≤ (gr_sm S c v kd k lv).2.1 ∧ (gr_sm S c v kd k lv).2.2.2.1.length + k ≤ (gr_sm S c v kd k lv).2.1 ∧ lv ≤ (gr_sm S c v kd k lv).2.2.1 ∧ (lv ≤ 50 → (gr_sm S c v kd k lv).2.2.1 ≤ 50) := by
  unfold gr_sm at hm ⊢
  split
  · rename_i h
    rw [if_pos h] at hm
    obtain ⟨f1, f2, f3, f4⟩ := gr_ps_fw (S := S) (c := c) (v := v) 600 3 0 0 k lv (fun _ => none) (by omega) hm
    rw [gr_sl_0] at f2
    exact ⟨by omega, f2, f3, f4⟩
  · exact ⟨Nat.le_refl _, by show ([] : gr_cd).length + k ≤ k; simp, Nat.le_refl _, fun h => h⟩
theorem gr_if_fw (hm : (gr_if S c v k lv).1 = 2) : k ≤ (gr_if S c v k lv).2.1 ∧ (gr_if S c v k lv).2.2.2.1.length + k ≤ (gr_if S c v k lv).2.1 ∧ lv ≤ (gr_if S c v k lv).2.2.1 ∧ (lv ≤ 50 → (gr_if S c v k lv).2.2.1 ≤ 50) := by
  unfold gr_if at hm ⊢
  split
  · rename_i h
    rw [if_pos h] at hm
    obtain ⟨f1, f2, f3, f4⟩ := gr_ps_fw (S := S) (c := c) (v := v) 600 9 0 0 (k + 1) lv (fun _ => none) (by omega) hm
    rw [gr_sl_0] at f2
    exact ⟨by omega, by omega, f3, f4⟩
  · exact ⟨Nat.le_refl _, by show ([] : gr_cd).length + k ≤ k; simp, Nat.le_refl _, fun h => h⟩
theorem gr_tm_fw : k ≤ (gr_tm S c v k).2.1 ∧ ((gr_tm S c v k).1 = 2 → 1 ≤ (gr_tm S c v k).2.2 ∧ (gr_tm S c v k).2.2 ≤ 20) := by
  unfold gr_tm
  split
  · split
    · rename_i h1 h2
      exact ⟨by show k ≤ k + 2; omega, fun _ => h2.2⟩
    · exact ⟨by show k ≤ k + 1; omega, fun h => absurd h (by show ¬ (1 = 2); omega)⟩
  · exact ⟨Nat.le_refl _, fun _ => ⟨by show 1 ≤ 1; omega, by show 1 ≤ 20; omega⟩⟩
theorem gr_sm_n (hc : ∀ j, m ≤ j → c j = 0) (hm : m ≤ 400) (hk : k ≤ m) : (gr_sm S c v kd k lv).1 ≠ 0 ∧ (gr_sm S c v kd k lv).2.1 ≤ m := by
  unfold gr_sm
  split
  · exact gr_n0 hc hm hk (by omega)
  · exact ⟨by show 2 ≠ 0; omega, hk⟩
theorem gr_lt' (hc : ∀ j, m ≤ j → c j = 0) (h : ¬ c k = 0) : k < m := by
  rcases Nat.lt_or_ge k m with q | q
  · exact q
  · exact absurd (hc k q) h
theorem gr_tm_n (hc : ∀ j, m ≤ j → c j = 0) (hk : k ≤ m) : (gr_tm S c v k).1 ≠ 0 ∧ (gr_tm S c v k).2.1 ≤ m := by
  unfold gr_tm
  split
  · rename_i h
    have := gr_lt' hc (k := k) (by omega)
    split
    · rename_i h2
      have := gr_lt' hc (k := k + 1) (by omega)
      exact ⟨by show 2 ≠ 0; omega, by show k + 2 ≤ m; omega⟩
    · exact ⟨by show 1 ≠ 0; omega, by show k + 1 ≤ m; omega⟩
  · exact ⟨by show 2 ≠ 0; omega, hk⟩
theorem gr_if_n (hc : ∀ j, m ≤ j → c j = 0) (hm : m ≤ 400) (hk : k ≤ m) : (gr_if S c v k lv).1 ≠ 0 ∧ (gr_if S c v k lv).2.1 ≤ m := by
  unfold gr_if
  split
  · exact gr_n0 hc hm (gr_lt' hc (by omega)) (by omega)
  · exact ⟨by show 2 ≠ 0; omega, hk⟩
theorem gr_cl_fw (hm : (gr_cl S c v k lv).1 = 2) : k + 1 ≤ (gr_cl S c v k lv).2.1 ∧ (gr_cl S c v k lv).2.2.2.2.1.1.length + (gr_cl S c v k lv).2.2.2.2.2.2.1.length + k ≤ (gr_cl S c v k lv).2.1 ∧ lv ≤ (gr_cl S c v k lv).2.2.1 ∧ (lv ≤ 50 → (gr_cl S c v k lv).2.2.1 ≤ 50) := by
  have no : ∀ {a : Nat} {b : Nat} {g : gr_c1} {p : Prop}, ((1, a, b, g) : Nat × Nat × Nat × gr_c1).1 = 2 → p := fun {a b g p} h => absurd h (by show ¬ (1 = 2); omega)
  by_cases h0 : gr_kd S (c k) = 0
  · rw [gr_cl_a h0] at hm; exact no hm
  generalize e1 : gr_sm S c v (gr_kd S (c k) - 1) (k + 1) lv = r1
  by_cases h1 : r1.1 = 2
  · generalize e2 : gr_tm S c v r1.2.1 = q
    by_cases h2 : q.1 = 2
    · generalize e3 : gr_if S c v q.2.1 r1.2.2.1 = r2
      by_cases h3 : r2.1 = 2
      · rw [gr_cl_e h0 e1 h1 e2 h2 e3 h3]
        obtain ⟨a1, a2, a3, a4⟩ := gr_sm_fw (S := S) (c := c) (v := v) (kd := gr_kd S (c k) - 1) (k := k + 1) (lv := lv) (by rw [e1]; exact h1)
        obtain ⟨b1, b2⟩ := gr_tm_fw (S := S) (c := c) (v := v) (k := r1.2.1)
        obtain ⟨d1, d2, d3, d4⟩ := gr_if_fw (S := S) (c := c) (v := v) (k := q.2.1) (lv := r1.2.2.1) (by rw [e3]; exact h3)
        rw [e1] at a1 a2 a3 a4
        rw [e2] at b1
        rw [e3] at d1 d2 d3 d4
        refine ⟨?_, ?_, Nat.le_trans a3 d3, fun h => d4 (a4 h)⟩
        · show k + 1 ≤ r2.2.1
          omega
        · show r1.2.2.2.1.length + r2.2.2.2.1.length + k ≤ r2.2.1
          omega
      · rw [gr_cl_d h0 e1 h1 e2 h2 e3 h3] at hm; exact no hm
    · rw [gr_cl_c h0 e1 h1 (by rw [e2]; exact h2)] at hm; exact no hm
  · rw [gr_cl_b h0 (by rw [e1]; exact h1)] at hm; exact no hm
theorem gr_cl_n (hc : ∀ j, m ≤ j → c j = 0) (hm : m ≤ 400) (hk : k ≤ m) : ((gr_cl S c v k lv).1 = 1 ∨ (gr_cl S c v k lv).1 = 2) ∧ (gr_cl S c v k lv).2.1 ≤ m := by
  by_cases h0 : gr_kd S (c k) = 0
  · rw [gr_cl_a h0]; exact ⟨Or.inl rfl, hk⟩
  have hk1 := gr_lt' hc (gr_kd_ne h0)
  obtain ⟨a1, a2⟩ := gr_sm_n (S := S) (v := v) (kd := gr_kd S (c k) - 1) (k := k + 1) (lv := lv) hc hm hk1
  generalize e1 : gr_sm S c v (gr_kd S (c k) - 1) (k + 1) lv = r1 at *
  by_cases h1 : r1.1 = 2
  · obtain ⟨b1, b2⟩ := gr_tm_n (S := S) (v := v) hc a2
    generalize e2 : gr_tm S c v r1.2.1 = q at *
    by_cases h2 : q.1 = 2
    · obtain ⟨d1, d2⟩ := gr_if_n (S := S) (v := v) (lv := r1.2.2.1) hc hm b2
      generalize e3 : gr_if S c v q.2.1 r1.2.2.1 = r2 at *
      by_cases h3 : r2.1 = 2
      · rw [gr_cl_e h0 e1 h1 e2 h2 e3 h3]; exact ⟨Or.inr rfl, d2⟩
      · rw [gr_cl_d h0 e1 h1 e2 h2 e3 h3]; exact ⟨Or.inl rfl, d2⟩
    · rw [gr_cl_c h0 e1 h1 (by rw [e2]; exact h2), e2]; exact ⟨Or.inl rfl, b2⟩
  · rw [gr_cl_b h0 (by rw [e1]; exact h1), e1]; exact ⟨Or.inl rfl, a2⟩
end GC
theorem tk_pj_lc (c : Nat) : tk_oI (tk_pj c [0, 1, 2] 0) = if gr_kd false c = 0 then -1 else nI (gr_kd false c - 1) := by
  by_cases h1 : c = 1
  · subst h1; rfl
  by_cases h2 : c = 2
  · subst h2; rfl
  by_cases h3 : c = 3
  · subst h3; rfl
  have e : gr_kd false c = 0 := by simp [gr_kd, h1, h2, h3]
  rw [e, if_pos rfl]
  simp [tk_pj, h1, h2, h3, tk_oI]
theorem tk_pj_sc (c : Nat) : tk_oI (tk_pj c [24, 25, 26, 17] 0) = if gr_kd true c = 0 then -1 else nI (gr_kd true c - 1) := by
  by_cases h1 : c = 25
  · subst h1; rfl
  by_cases h2 : c = 26
  · subst h2; rfl
  by_cases h3 : c = 27
  · subst h3; rfl
  by_cases h4 : c = 18
  · subst h4; rfl
  have e : gr_kd true c = 0 := by simp [gr_kd, h1, h2, h3, h4]
  rw [e, if_pos rfl]
  simp [tk_pj, h1, h2, h3, h4, tk_oI]
section CREAD
variable {X : hf_X} {d kk nn t : Nat} {T : hf_T} {I : hf_I} {L : hf_L} {P : hf_P} {Q : Option Value → hf_M → Prop} {tp : Nat → Int32} {z k lv nc : Nat} {code : gr_cd} {S : Bool}
/-- the TEXT's cells behind a CLAUSE -/
def cl_po (I : hf_I) (tp : Nat → Int32) (z k lv nc : Nat) (code : gr_cd) (q : gr_c1) (I' : hf_I) : Prop := pc_at tp z k I' ∧ I' 123 5 = nI lv ∧ I' 123 4 = I 123 4 ∧ I' 124 6 = nI (2 * (code ++ (q.2.1.1 ++ q.2.2.2.1)).length) ∧ pc_cd (I' 125) (code ++ (q.2.1.1 ++ q.2.2.2.1)) ∧ I' 124 7 = nI (nc + 1) ∧ I' 126 = upd (I 126) nc (nI q.1) ∧ I' 127 = upd (I 127) nc (nI (2 * code.length)) ∧ I' 128 = upd (I 128) nc (nI (2 * (code.length + q.2.1.1.length))) ∧ I' 129 = upd (I 129) nc (nI (2 * (code.length + q.2.1.1.length + q.2.2.2.1.length))) ∧ I' 130 = upd (I 130) nc (nI q.2.2.1) ∧ (∀ a, a < 123 ∨ 130 < a → I' a = I a) ∧ I' 123 1 = I 123 1
def cl_fa (I : hf_I) (tp : Nat → Int32) (z k : Nat) (I' : hf_I) : Prop := pc_fr I I' ∧ I' 123 1 = nI (tk_s tp z k)
theorem cs_addClause {kd tm : Nat} {c1 c2 : gr_cd} {k2 l2 : Nat} {I2 : hf_I} {d1 d2 : gr_dn} (hs : hf_Lay t T P) (hnc : nc < 12) (h7 : I 124 7 = nI nc) (hl : (code ++ (c1 ++ c2)).length ≤ 400) (hst : pc_st I tp z k2 l2 (code ++ (c1 ++ c2)) I2) (h : ∀ I', cl_po I tp z k2 l2 nc code (kd, (c1, d1), tm, (c2, d2)) I' → Q (some (.int 1)) (t, T, I', L, P)) : hf_G X Y_X9_addClause d kk nn 0 (hf_en [.ref 124, .int (nI kd), .int (nI (2 * code.length)), .int (nI (2 * (code.length + c1.length))), .int (nI tm)] 5) [] (t, T, I2, L, P) Q := by
  obtain ⟨p1, p2, p3, p4, p5, p6, p7, p8⟩ := hst
  have e7 : I2 124 7 = nI nc := p8.1.trans h7
  have ncin : vp_in (nI nc) 12 := vp_in_nI hnc (by omega)
  refine w_X9_addClause_0 hs ?_
  rw [e7, nI_clamp (show nc < 2 ^ 31 by omega), nI_1]
  refine ⟨fun _ => ⟨ncin, ncin, ncin, ncin, ncin, h _ ⟨p1, p2, p7, p3, p4, rfl, ?_, ?_, ?_, ?_, ?_, fun a ha => ?_, p8.2⟩⟩, fun q => absurd (nI_lt (b := 12) hnc (by omega)) q⟩
  · show upd (I2 126) nc (nI kd) = _
    rw [p5 126 (by omega) (by omega) (by omega)]
  · show upd (I2 127) nc _ = _
    rw [p5 127 (by omega) (by omega) (by omega)]
  · show upd (I2 128) nc _ = _
    rw [p5 128 (by omega) (by omega) (by omega)]
  · show upd (I2 129) nc (I2 124 6) = _
    rw [p5 129 (by omega) (by omega) (by omega), p3, List.length_append, List.length_append, Nat.add_assoc]
  · show upd (I2 130) nc _ = _
    rw [p5 130 (by omega) (by omega) (by omega)]
  · rw [← p5 a (by omega) (by omega) (by omega)]
    simp only [hf_up]
    repeat rw [if_neg (by omega)]
theorem cs_clause (hs : hf_Lay t T P) (hby : P 123 2 = some 122) (hz4 : z ≤ 400) (hb : tk_byte tp z) (hS : I 123 4 = if S = true then 0 else 1) (hk : k ≤ z) (hlv : lv ≤ 50) (hlen : code.length ≤ k) (hnc : nc < 12) (h7 : I 124 7 = nI nc) (hst : pc_st I tp z k lv code I)
    (h2 : (gr_cl S (tk_c tp z) (tk_v tp z) k lv).1 = 2 → ∀ I', cl_po I tp z (gr_cl S (tk_c tp z) (tk_v tp z) k lv).2.1 (gr_cl S (tk_c tp z) (tk_v tp z) k lv).2.2.1 nc code (gr_cl S (tk_c tp z) (tk_v tp z) k lv).2.2.2 I' → Q (some (.int 1)) (t, T, I', L, P))
    (h1 : (gr_cl S (tk_c tp z) (tk_v tp z) k lv).1 = 1 → ∀ I', cl_fa I tp z (gr_cl S (tk_c tp z) (tk_v tp z) k lv).2.1 I' → Q (some (.int 0)) (t, T, I', L, P)) : hf_G X Y_X5_readClause (d + 608) kk nn 0 (hf_en [.ref 123] 6) [] (t, T, I, L, P) Q := by
  have hc0 : ∀ j, z ≤ j → tk_c tp z j = 0 := fun j hj => by
    obtain ⟨m, e1, e2, e3⟩ := tk_many tp z
    exact tk_c_end (e3 j (by omega))
  obtain ⟨i0, i1, i2, i3, i4, i5, i6, i7, i8, i9, i10⟩ := cc_any (X := X) (t := t) (T := T) (L := L) (P := P) (I0 := I) (tp := tp) (z := z) (S := S) hs hby hz4 hb hS 600
  have h4 : ∀ {k' l' : Nat} {cd : gr_cd} {I' : hf_I}, pc_st I tp z k' l' cd I' → I' 123 4 = if S = true then 0 else 1 := fun hst' => hst'.2.2.2.2.2.2.1.trans hS
  -- the kind
  have kind : hf_G X Y_X5_readClause (d + 608) kk nn 18 [some (.ref 123), none, none, none, none, none] [.int (if gr_kd S (tk_c tp z k) = 0 then -1 else nI (gr_kd S (tk_c tp z k) - 1))] (t, T, I, L, P) Q := by
    by_cases h0 : gr_kd S (tk_c tp z k) = 0
    · rw [if_pos h0]
      refine w_X5_readClause_18 hs hby ⟨fun g => absurd rfl g, fun _ => h1 (by rw [gr_cl_a h0]) _ ?_⟩
      rw [gr_cl_a h0]
      exact pc_fail hst
    · rw [if_neg h0]
      have hkl := gr_kd_lt (S := S) (cc := tk_c tp z k)
      have hk1 := tk_c_lt (tp := tp) (gr_kd_ne h0)
      refine w_X5_readClause_18 hs hby ⟨fun _ => cp_adv (d := d + 606) hs hby hz4 hst fun I1 hst1 => ?_, fun g => absurd g (hf_nm1 (by omega))⟩
      -- behind the sum
      have aft : ∀ (r1 : gr_r), gr_sm S (tk_c tp z) (tk_v tp z) (gr_kd S (tk_c tp z k) - 1) (k + 1) lv = r1 → r1.1 = 2 → ∀ I2, pc_st I tp z r1.2.1 r1.2.2.1 (code ++ r1.2.2.2.1) I2 → (¬ I2 123 4 = 0 → hf_G X Y_X5_isWord (d + 607) 0 0 0 (hf_en [.ref 123, .ref 4] 2) [] (t, T, I2, L, P) (fun r M => hf_G X Y_X5_readClause (d + 608) kk nn 151 [some (.ref 123), some (.int (nI (gr_kd S (tk_c tp z k) - 1))), some (.int (nI (2 * code.length))), none, some (.int 1), some (.int (I2 124 6))] (r.toList ++ []) M Q)) ∧ (I2 123 4 = 0 → hf_G X Y_X5_isWord (d + 607) 0 0 0 (hf_en [.ref 123, .ref 3] 2) [] (t, T, I2, L, P) (fun r M => hf_G X Y_X5_readClause (d + 608) kk nn 106 [some (.ref 123), some (.int (nI (gr_kd S (tk_c tp z k) - 1))), some (.int (nI (2 * code.length))), none, some (.int 1), none] (r.toList ++ []) M Q)) := by
        intro r1 er1 hr1 I2 hst2
        have fw := gr_sm_fw (S := S) (c := tk_c tp z) (v := tk_v tp z) (kd := gr_kd S (tk_c tp z k) - 1) (k := k + 1) (lv := lv) (by rw [er1]; exact hr1)
        have top := (gr_sm_n (S := S) (v := tk_v tp z) (kd := gr_kd S (tk_c tp z k) - 1) (lv := lv) hc0 hz4 hk1).2
        rw [er1] at fw top
        obtain ⟨fw1, fw2, fw3, fw4⟩ := fw
        -- the test
        have tst : ∀ (q : Nat × Nat × Nat), gr_tm S (tk_c tp z) (tk_v tp z) r1.2.1 = q → q.1 = 2 → ∀ I3, pc_st I tp z q.2.1 r1.2.2.1 (code ++ r1.2.2.2.1) I3 → hf_G X Y_X5_isWord (d + 607) 0 0 0 (hf_en [.ref 123, .ref 4] 2) [] (t, T, I3, L, P) (fun r M => hf_G X Y_X5_readClause (d + 608) kk nn 151 [some (.ref 123), some (.int (nI (gr_kd S (tk_c tp z k) - 1))), some (.int (nI (2 * code.length))), none, some (.int (nI q.2.2)), some (.int (nI (2 * (code.length + r1.2.2.2.1.length))))] (r.toList ++ []) M Q) := by
          intro q eq hq I3 hst3
          have tf := gr_tm_fw (S := S) (c := tk_c tp z) (v := tk_v tp z) (k := r1.2.1)
          have tn := (gr_tm_n (S := S) (v := tk_v tp z) hc0 top).2
          rw [eq] at tf tn
          refine cw_if (d := d + 602) hs hby hz4 hst3.1 ?_
          by_cases hi : tk_c tp z q.2.1 = 4
          · rw [hf_b1 hi]
            have ei : gr_if S (tk_c tp z) (tk_v tp z) q.2.1 r1.2.2.1 = gr_ps S (tk_c tp z) (tk_v tp z) 600 9 0 0 (q.2.1 + 1) r1.2.2.1 (fun _ => none) := by unfold gr_if; rw [if_pos hi]
            have hk3 := tk_c_lt (tp := tp) (z := z) (k := q.2.1) (by omega)
            have n0 := (gr_n0 (S := S) (v := tk_v tp z) (lv := r1.2.2.1) hc0 hz4 (show q.2.1 + 1 ≤ z by omega) (show 9 ≤ 10 by omega) (a := fun _ => none)).1
            refine w_X5_readClause_151 hs hby ⟨fun g => absurd g (by decide), fun _ => cp_adv (d := d + 606) hs hby hz4 hst3 fun I4 hst4 => w_X5_readClause_158 hs hby (i9 0 (q.2.1 + 1) r1.2.2.1 _ (code ++ r1.2.2.2.1) I4 _ (d + 607) 0 0 (by omega) (by omega) (fw4 hlv) (by rw [List.length_append]; omega) hst4 n0 ⟨fun e5 I5 hst5 => ?_, fun e5 I5 q1 q2 => ?_⟩)⟩
            · rw [List.append_assoc] at hst5
              have gi := gr_if_fw (S := S) (c := tk_c tp z) (v := tk_v tp z) (k := q.2.1) (lv := r1.2.2.1) (by rw [ei]; exact e5)
              have gn := (gr_if_n (S := S) (v := tk_v tp z) (lv := r1.2.2.1) hc0 hz4 tn).2
              rw [ei] at gi gn
              have ecl := gr_cl_e h0 er1 hr1 eq hq ei e5
              refine w_X5_readClause_163 hs hby ⟨fun _ => cs_addClause hs hnc h7 (by simp only [List.length_append]; omega) hst5 fun I6 h6 => w_X5_readClause_181 hs hby ⟨fun _ => h2 (by rw [ecl]) I6 (by rw [ecl]; exact h6), fun g => absurd g (by decide)⟩, fun g => absurd g (by decide)⟩
            · have ecl := gr_cl_d h0 er1 hr1 eq hq ei (by omega)
              exact w_X5_readClause_163 hs hby ⟨fun g => absurd rfl g, fun _ => h1 (by rw [ecl]) I5 (by rw [ecl]; exact ⟨q1, q2⟩)⟩
          · rw [hf_b0 hi]
            have ei : gr_if S (tk_c tp z) (tk_v tp z) q.2.1 r1.2.2.1 = gr_gd q.2.1 r1.2.2.1 [] (fun _ => some 1) := by unfold gr_if; rw [if_neg hi]
            have ecl := gr_cl_e h0 er1 hr1 eq hq ei rfl
            have hst3' : pc_st I tp z q.2.1 r1.2.2.1 (code ++ (r1.2.2.2.1 ++ [])) I3 := by rw [List.append_nil]; exact hst3
            refine w_X5_readClause_151 hs hby ⟨fun _ => cs_addClause hs hnc h7 (by simp only [List.length_append, List.length_nil]; omega) hst3' fun I6 h6 => w_X5_readClause_181 hs hby ⟨fun _ => h2 (by rw [ecl]) I6 (by rw [ecl]; exact h6), fun g => absurd g (by decide)⟩, fun g => absurd rfl g⟩
        have e6 : ∀ {k' l' : Nat} {I3 : hf_I}, pc_st I tp z k' l' (code ++ r1.2.2.2.1) I3 → I3 124 6 = nI (2 * (code.length + r1.2.2.2.1.length)) := fun h => by rw [h.2.2.1, List.length_append]
        have s4 := h4 hst2
        refine ⟨fun g => ?_, fun g => ?_⟩
        · have hSf : S = false := by
            cases S with
            | false => rfl
            | true => exact absurd s4 g
          have et : gr_tm S (tk_c tp z) (tk_v tp z) r1.2.1 = (2, r1.2.1, 1) := by
            unfold gr_tm
            rw [if_neg (by rw [hSf]; simp)]
          rw [e6 hst2]
          exact tst _ et rfl I2 hst2
        · have hSt : S = true := by
            cases S with
            | true => rfl
            | false => rw [s4] at g; exact absurd g (by decide)
          refine cw_times (d := d + 602) hs hby hz4 hst2.1 ?_
          by_cases ht : tk_c tp z r1.2.1 = 28
          · rw [hf_b1 ht]
            have hk3 := tk_c_lt (tp := tp) (z := z) (k := r1.2.1) (by omega)
            refine w_X5_readClause_106 hs hby ⟨fun g => absurd g (by decide), fun _ => cp_adv (d := d + 606) hs hby hz4 hst2 fun I4 hst4 => w_X5_readClause_113 hs hby (ca_numberTo (mo := 20) (d := d + 606) hs hby hz4 (by omega) hst4.1 ?_)⟩
            by_cases hn : tk_c tp z (r1.2.1 + 1) = 50 ∧ 1 ≤ tk_v tp z (r1.2.1 + 1) ∧ tk_v tp z (r1.2.1 + 1) ≤ 20
            · have et : gr_tm S (tk_c tp z) (tk_v tp z) r1.2.1 = (2, r1.2.1 + 2, tk_v tp z (r1.2.1 + 1)) := by
                unfold gr_tm
                rw [if_pos ⟨hSt, ht⟩, if_pos hn]
              rw [if_pos ⟨hn.1, hn.2.2⟩]
              refine w_X5_readClause_119 hs hby ⟨fun _ => cp_adv (d := d + 606) hs hby hz4 hst4 fun I5 hst5 => w_X5_readClause_136 hs hby ?_, fun g => absurd (nI_le (a := 1) hn.2.1 (by omega)) g⟩
              rw [e6 hst5]
              exact tst _ et rfl I5 hst5
            · have et : gr_tm S (tk_c tp z) (tk_v tp z) r1.2.1 = (1, r1.2.1 + 1, 0) := by
                unfold gr_tm
                rw [if_pos ⟨hSt, ht⟩, if_neg hn]
              have ecl := gr_cl_c h0 er1 hr1 (by rw [et]; show ¬ (1 = 2); omega)
              rw [et] at ecl
              have fin : Q (some (.int 0)) (t, T, hf_up I4 123 1 (I4 123 7), L, P) := h1 (by rw [ecl]) _ (by rw [ecl]; exact pc_fail hst4)
              by_cases hn2 : tk_c tp z (r1.2.1 + 1) = 50 ∧ tk_v tp z (r1.2.1 + 1) ≤ 20
              · rw [if_pos hn2]
                have hv0 : tk_v tp z (r1.2.1 + 1) = 0 := by omega
                rw [hv0]
                exact w_X5_readClause_119 hs hby ⟨fun g => absurd g (by decide), fun _ => fin⟩
              · rw [if_neg hn2]
                exact w_X5_readClause_119 hs hby ⟨fun g => absurd g (by decide), fun _ => fin⟩
          · rw [hf_b0 ht]
            have et : gr_tm S (tk_c tp z) (tk_v tp z) r1.2.1 = (2, r1.2.1, 1) := by
              unfold gr_tm
              rw [if_neg (fun q => ht q.2)]
            refine w_X5_readClause_106 hs hby ⟨fun _ => ?_, fun g => absurd rfl g⟩
            rw [e6 hst2]
            exact tst _ et rfl I2 hst2
      have e6' : I1 124 6 = nI (2 * code.length) := hst1.2.2.1
      -- a sum
      have sum : gr_wsm S (gr_kd S (tk_c tp z k) - 1) = true → hf_G X Y_X5_readSum (d + 607) 0 0 0 (hf_en [.ref 123, .int 0] 4) [] (t, T, I1, L, P) (fun r M => hf_G X Y_X5_readClause (d + 608) kk nn 85 [some (.ref 123), some (.int (nI (gr_kd S (tk_c tp z k) - 1))), some (.int (I1 124 6)), none, none, none] (r.toList ++ []) M Q) := by
        intro hw
        have es : gr_sm S (tk_c tp z) (tk_v tp z) (gr_kd S (tk_c tp z k) - 1) (k + 1) lv = gr_ps S (tk_c tp z) (tk_v tp z) 600 3 0 0 (k + 1) lv (fun _ => none) := by unfold gr_sm; rw [if_pos hw]
        have n0 := (gr_n0 (S := S) (v := tk_v tp z) (lv := lv) hc0 hz4 (show k + 1 ≤ z by omega) (show 3 ≤ 10 by omega) (a := fun _ => none)).1
        rw [e6']
        refine i3 0 (k + 1) lv _ code I1 _ (d + 607) 0 0 (by omega) (by omega) hlv (by omega) hst1 n0 ⟨fun e5 I5 hst5 => ?_, fun e5 I5 q1 q2 => ?_⟩
        · exact w_X5_readClause_85 hs hby ⟨fun _ => aft _ es e5 I5 hst5, fun g => absurd g (by decide)⟩
        · have ecl := gr_cl_b (v := tk_v tp z) (lv := lv) h0 (by rw [es]; omega)
          rw [es] at ecl
          exact w_X5_readClause_85 hs hby ⟨fun g => absurd rfl g, fun _ => h1 (by rw [ecl]) I5 (by rw [ecl]; exact ⟨q1, q2⟩)⟩
      have nosum : ¬ gr_wsm S (gr_kd S (tk_c tp z k) - 1) = true → _ := fun hw => aft (gr_gd (k + 1) lv [] (fun _ => some 1)) (by unfold gr_sm; rw [if_neg hw]) rfl I1 (by show pc_st I tp z (k + 1) lv (code ++ []) I1; rw [List.append_nil]; exact hst1)
      have s4 := h4 hst1
      have l0 : (nI (gr_kd S (tk_c tp z k) - 1) = 0) ↔ gr_kd S (tk_c tp z k) - 1 = 0 := nI_eq (b := 0) (by omega) (by omega)
      have l2 : (nI (gr_kd S (tk_c tp z k) - 1) = 2) ↔ gr_kd S (tk_c tp z k) - 1 = 2 := nI_eq (b := 2) (by omega) (by omega)
      have l3 : (nI (gr_kd S (tk_c tp z k) - 1) = 3) ↔ gr_kd S (tk_c tp z k) - 1 = 3 := nI_eq (b := 3) (by omega) (by omega)
      refine w_X5_readClause_33 hs hby ?_
      rw [l0, l2, l3]
      rw [e6'] at sum ⊢
      refine ⟨fun g => ⟨fun g0 => sum ?_, fun g0 => ⟨fun g3 => ?_, fun g3 => sum ?_⟩⟩, fun g => ⟨fun g2 => ?_, fun g2 => sum ?_⟩⟩
      · have hSt : S = true := by
          cases S with
          | true => rfl
          | false => rw [s4] at g; exact absurd g (by decide)
        rw [hSt] at g0 ⊢
        rw [g0]
        rfl
      · have hSt : S = true := by
          cases S with
          | true => rfl
          | false => rw [s4] at g; exact absurd g (by decide)
        have := nosum (by rw [hSt] at g0 g3 ⊢; simp [gr_wsm, g0, g3])
        rw [e6'] at this
        exact this
      · have hSt : S = true := by
          cases S with
          | true => rfl
          | false => rw [s4] at g; exact absurd g (by decide)
        rw [hSt] at g3 ⊢
        rw [g3]
        rfl
      · have hSf : S = false := by
          cases S with
          | false => rfl
          | true => exact absurd s4 g
        have := nosum (by rw [hSf] at g2 ⊢; rw [g2]; decide)
        rw [e6'] at this
        exact this
      · have hSf : S = false := by
          cases S with
          | false => rfl
          | true => exact absurd s4 g
        rw [hSf] at g2 ⊢
        simp [gr_wsm, g2]
  have s4 := h4 hst
  cases S with
  | true =>
    refine w_X5_readClause_0 hs hby ⟨fun _ => cw_sc (d := d + 602) hs hby hz4 hst.1 ?_, fun g => absurd s4 g⟩
    rw [tk_pj_sc]
    exact kind
  | false =>
    refine w_X5_readClause_0 hs hby ⟨fun g => ?_, fun _ => cw_lc (d := d + 602) hs hby hz4 hst.1 ?_⟩
    · rw [s4] at g; exact absurd g (by decide)
    · rw [tk_pj_lc]
      exact kind
end CREAD
