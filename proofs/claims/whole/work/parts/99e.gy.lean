/-! TURNS as late as can be: they come first of all that FIT -/
def fz_gw (G : fz_X) (w : Nat → Nat) : Nat → Nat
  | 0 => 0
  | i + 1 => if ¬ i = 0 ∧ fz_gw G w i + gbl G + gwn G (w i) ≤ ghr G then fz_gw G w i + gbl G + gwn G (w i) else gwn G (w i)
def fz_gt (G : fz_X) (w : Nat → Nat) (i : Nat) : Bool := decide (¬ i = 0) && decide (¬ fz_gw G w i + gbl G + gwn G (w i) ≤ ghr G)
theorem fz_gt_iff {G : fz_X} {w : Nat → Nat} {i : Nat} (hi : ¬ i = 0) : fz_gt G w i = true ↔ ¬ fz_gw G w i + gbl G + gwn G (w i) ≤ ghr G := by
  unfold fz_gt
  rw [decide_eq_true hi, Bool.true_and, decide_eq_true_eq]
theorem fz_gw_wd {G : fz_X} {w : Nat → Nat} : ∀ i, (fz_wd G w (fz_gt G w) i).2 = fz_gw G w i := by
  intro i
  induction i with
  | zero => rfl
  | succ i ih =>
    unfold fz_wd at ih ⊢
    rw [lb_r, fz_gw, ih]
    by_cases i0 : i = 0
    · rw [if_pos (Or.inl i0), if_neg (fun z => z.1 i0)]
    · by_cases h : fz_gw G w i + gbl G + gwn G (w i) ≤ ghr G
      · rw [if_neg (fun z => z.elim i0 fun q => (fz_gt_iff i0).mp q h), if_pos ⟨i0, h⟩]
      · rw [if_pos (Or.inr ((fz_gt_iff i0).mpr h)), if_neg (fun z => h z.2)]
theorem fz_gw_cg {G : fz_X} {w w' : Nat → Nat} : ∀ i, (∀ j, j < i → w j = w' j) → fz_gw G w i = fz_gw G w' i ∧ ∀ j, j < i → fz_gt G w j = fz_gt G w' j := by
  intro i
  induction i with
  | zero => intro _; exact ⟨rfl, fun j hj => by omega⟩
  | succ i ih =>
    intro h
    obtain ⟨a, b⟩ := ih (fun j hj => h j (by omega))
    refine ⟨by rw [fz_gw, fz_gw, a, h i (by omega)], fun j hj => ?_⟩
    by_cases e : j = i
    · subst e
      unfold fz_gt
      rw [a, h j (by omega)]
    · exact b j (by omega)
/-- TURNS as a number -/
def fz_Z (tn : Nat → Bool) : Nat → Nat
  | 0 => 0
  | i + 1 => fz_Z tn i * 2 + (if ¬ i = 0 ∧ tn i = true then 1 else 0)
theorem fz_Z_op : ∀ p : Fin 7, 1 ≤ p.1 → ∀ z : Fin 32, z.1 < 2 ^ (p.1 - 1) → fz_Z (op_t p.1 z.1) p.1 = z.1 := by decide +kernel
theorem fz_Z_t {tn : Nat → Bool} : ∀ i, 1 ≤ i → i ≤ 6 → fz_Z tn i < 2 ^ (i - 1) ∧ ∀ j, j < i → op_t i (fz_Z tn i) j = (decide (¬ j = 0) && tn j) := by
  intro i
  induction i with
  | zero => intro h; omega
  | succ i ih =>
    intro _ h6
    by_cases i0 : i = 0
    · subst i0
      refine ⟨by show 0 * 2 + 0 < 1; omega, fun j hj => ?_⟩
      obtain rfl : j = 0 := by omega
      rfl
    · obtain ⟨a, b⟩ := ih (by omega) (by omega)
      have z16 : fz_Z tn i < 16 := Nat.lt_of_lt_of_le a (Nat.le_trans (Nat.pow_le_pow_right (by omega) (show i - 1 ≤ 4 by omega)) (by decide))
      have e2 : 2 ^ (i + 1 - 1) = 2 ^ (i - 1) * 2 := by rw [← Nat.pow_succ]; congr 1; omega
      rw [fz_Z, e2]
      refine ⟨by split <;> omega, fun j hj => ?_⟩
      have key := fun b : Fin 2 => op_t_st ⟨i, by omega⟩ (show 1 ≤ i by omega) ⟨fz_Z tn i, z16⟩ a b ⟨j, by omega⟩ (show j ≤ i by omega)
      by_cases t : tn i = true
      · rw [if_pos ⟨i0, t⟩, key ⟨1, by omega⟩]
        by_cases e : j = i
        · subst e; rw [if_pos rfl, t, decide_eq_true i0]; rfl
        · rw [if_neg e]; exact b j (by omega)
      · rw [if_neg (fun z => t z.2), key ⟨0, by omega⟩]
        by_cases e : j = i
        · subst e; rw [if_pos rfl, Bool.eq_false_iff.mpr t, Bool.and_false]; rfl
        · rw [if_neg e]; exact b j (by omega)
section GY
variable {G : fz_X} {w : Nat → Nat} {tn : Nat → Bool}
theorem fz_wd_mo : ∀ i j, i ≤ j → (fz_wd G w tn i).1 ≤ (fz_wd G w tn j).1 ∧ op_n tn i ≤ op_n tn j := by
  intro i j hij
  induction j with
  | zero =>
    obtain rfl : i = 0 := by omega
    exact ⟨Nat.le_refl _, Nat.le_refl _⟩
  | succ j ih =>
    by_cases e : i = j + 1
    · subst e; exact ⟨Nat.le_refl _, Nat.le_refl _⟩
    · obtain ⟨a, b⟩ := ih (by omega)
      refine ⟨Nat.le_trans a ?_, ?_⟩
      · unfold fz_wd
        rw [lb_r]
        exact Nat.le_max_left _ _
      · rw [op_n]
        split <;> omega
theorem fz_wd_1 {i : Nat} : (fz_wd G w tn (i + 1)) = (max (fz_wd G w tn i).1 (if i = 0 ∨ tn i = true then gwn G (w i) else (fz_wd G w tn i).2 + gbl G + gwn G (w i)), if i = 0 ∨ tn i = true then gwn G (w i) else (fz_wd G w tn i).2 + gbl G + gwn G (w i)) := rfl
/-- no TURNS do with fewer LINES -/
theorem fz_dom {p : Nat} (hok : (fz_wd G w tn p).1 ≤ ghr G) : ∀ i, 1 ≤ i → i ≤ p → (op_n (fz_gt G w) i < op_n tn i ∨ (op_n (fz_gt G w) i = op_n tn i ∧ fz_gw G w i ≤ (fz_wd G w tn i).2)) ∧ (fz_wd G w (fz_gt G w) i).1 ≤ ghr G := by
  intro i
  induction i with
  | zero => intro h; omega
  | succ i ih =>
    intro _ hi
    have m1 := (fz_wd_mo (G := G) (w := w) (tn := tn) (i + 1) p hi).1
    have ew := fz_wd_1 (G := G) (w := w) (tn := tn) (i := i)
    have eg := fz_wd_1 (G := G) (w := w) (tn := fz_gt G w) (i := i)
    rw [fz_gw_wd] at eg
    by_cases i0 : i = 0
    · subst i0
      rw [ew] at m1
      dsimp only at m1
      rw [if_pos (Or.inl rfl)] at m1
      have z0 : (fz_wd G w (fz_gt G w) 0).1 = 0 := rfl
      refine ⟨Or.inr ⟨rfl, ?_⟩, ?_⟩
      · rw [ew, fz_gw]
        dsimp only
        rw [if_neg (fun z => z.1 rfl), if_pos (Or.inl rfl)]
        exact Nat.le_refl _
      · rw [eg]
        dsimp only
        rw [if_pos (Or.inl rfl), z0]
        omega
    · obtain ⟨a, b⟩ := ih (by omega) (by omega)
      have on : op_n tn (i + 1) = if i = 0 ∨ tn i = true then op_n tn i + 1 else op_n tn i := rfl
      have og : op_n (fz_gt G w) (i + 1) = if i = 0 ∨ fz_gt G w i = true then op_n (fz_gt G w) i + 1 else op_n (fz_gt G w) i := rfl
      have gw : fz_gw G w (i + 1) = if ¬ i = 0 ∧ fz_gw G w i + gbl G + gwn G (w i) ≤ ghr G then fz_gw G w i + gbl G + gwn G (w i) else gwn G (w i) := rfl
      by_cases h : fz_gw G w i + gbl G + gwn G (w i) ≤ ghr G
      · have ng : ¬ (i = 0 ∨ fz_gt G w i = true) := fun z => z.elim i0 fun q => (fz_gt_iff i0).mp q h
        rw [if_neg ng] at og eg
        rw [if_pos ⟨i0, h⟩] at gw
        by_cases t : i = 0 ∨ tn i = true
        · rw [if_pos t] at on ew
          rw [ew] at m1
          rw [on, og, gw, ew, eg]
          dsimp only at m1 ⊢
          exact ⟨by omega, by omega⟩
        · rw [if_neg t] at on ew
          rw [ew] at m1
          rw [on, og, gw, ew, eg]
          dsimp only at m1 ⊢
          exact ⟨by omega, by omega⟩
      · have yg : i = 0 ∨ fz_gt G w i = true := Or.inr ((fz_gt_iff i0).mpr h)
        rw [if_pos yg] at og eg
        rw [if_neg (fun z => h z.2)] at gw
        by_cases t : i = 0 ∨ tn i = true
        · rw [if_pos t] at on ew
          rw [ew] at m1
          rw [on, og, gw, ew, eg]
          dsimp only at m1 ⊢
          exact ⟨by omega, by omega⟩
        · rw [if_neg t] at on ew
          rw [ew] at m1
          rw [on, og, gw, ew, eg]
          dsimp only at m1 ⊢
          exact ⟨by omega, by omega⟩
theorem fz_lex {p : Nat} (h0 : tn 0 = false) (hok : (fz_wd G w tn p).1 ≤ ghr G) : ∀ i, i ≤ p → fz_Z (fz_gt G w) i < fz_Z tn i ∨ (fz_Z (fz_gt G w) i = fz_Z tn i ∧ ∀ j, j < i → fz_gt G w j = tn j) := by
  intro i
  induction i with
  | zero => intro _; exact Or.inr ⟨rfl, fun j hj => by omega⟩
  | succ i ih =>
    intro hi
    have on : fz_Z tn (i + 1) = fz_Z tn i * 2 + (if ¬ i = 0 ∧ tn i = true then 1 else 0) := rfl
    have og : fz_Z (fz_gt G w) (i + 1) = fz_Z (fz_gt G w) i * 2 + (if ¬ i = 0 ∧ fz_gt G w i = true then 1 else 0) := rfl
    rw [on, og]
    rcases ih (by omega) with lt | ⟨eq, all⟩
    · left
      split <;> split <;> omega
    · rw [eq]
      by_cases i0 : i = 0
      · subst i0
        rw [if_neg (fun z => z.1 rfl), if_neg (fun z => z.1 rfl)]
        refine Or.inr ⟨rfl, fun j hj => ?_⟩
        obtain rfl : j = 0 := by omega
        rw [h0]
        rfl
      · have m1 := (fz_wd_mo (G := G) (w := w) (tn := tn) (i + 1) p hi).1
        rw [fz_wd_1] at m1
        dsimp only at m1
        have cg := (fz_cg (G := G) (w := w) (w' := w) (tn := fz_gt G w) (tn' := tn) (n := i) (fun j hj => ⟨rfl, all j hj⟩) i (Nat.le_refl _)).2.2.1
        have e2 : (fz_wd G w tn i).2 = fz_gw G w i := by rw [← cg, fz_gw_wd]
        rw [e2] at m1
        by_cases t : tn i = true
        · have ct : ¬ i = 0 ∧ tn i = true := ⟨i0, t⟩
          by_cases g : fz_gt G w i = true
          · have cg' : ¬ i = 0 ∧ fz_gt G w i = true := ⟨i0, g⟩
            rw [if_pos ct, if_pos cg']
            refine Or.inr ⟨rfl, fun j hj => ?_⟩
            by_cases e : j = i
            · subst e; rw [t, g]
            · exact all j (by omega)
          · have cg' : ¬ (¬ i = 0 ∧ fz_gt G w i = true) := fun z => g z.2
            rw [if_pos ct, if_neg cg']
            left
            omega
        · have ct : ¬ (¬ i = 0 ∧ tn i = true) := fun z => t z.2
          rw [if_neg (fun z => z.elim i0 t)] at m1
          have g : ¬ fz_gt G w i = true := fun z => (fz_gt_iff i0).mp z (by omega)
          have cg' : ¬ (¬ i = 0 ∧ fz_gt G w i = true) := fun z => g z.2
          rw [if_neg ct, if_neg cg']
          refine Or.inr ⟨rfl, fun j hj => ?_⟩
          by_cases e : j = i
          · subst e; rw [Bool.eq_false_iff.mpr t, Bool.eq_false_iff.mpr g]
          · exact all j (by omega)
end GY
/-- the WORDS can FIT at all -/
def fz_fe (G : fz_X) (p : Nat) (w : Nat → Nat) : Bool := decide (op_n (fz_gt G w) p ≤ gLN G) && decide ((fz_wd G w (fz_gt G w) p).1 ≤ ghr G)
/-- the first of those that are most -/
def fz_tb (ok : Nat → Bool) (pr : Nat → Nat) : Nat → Option Nat
  | 0 => none
  | r + 1 => if ok r = true then (match fz_tb ok pr r with
    | none => some r
    | some b => if pr b < pr r then some r else some b) else fz_tb ok pr r
def fz_tP (ok : Nat → Bool) (pr : Nat → Nat) (n : Nat) : Option Nat → Prop
  | none => ∀ r, r < n → ok r = false
  | some b => b < n ∧ ok b = true ∧ ∀ r, r < n → ok r = true → pr r ≤ pr b ∧ (r < b → pr r < pr b)
theorem fz_tb_P {ok : Nat → Bool} {pr : Nat → Nat} : ∀ n, fz_tP ok pr n (fz_tb ok pr n) := by
  intro n
  induction n with
  | zero => intro r hr; omega
  | succ n ih =>
    rw [fz_tb]
    by_cases e : ok n = true
    · rw [if_pos e]
      cases h : fz_tb ok pr n with
      | none =>
        rw [h] at ih
        refine ⟨Nat.lt_succ_self n, e, fun r hr ho => ?_⟩
        by_cases q : r = n
        · subst q; exact ⟨Nat.le_refl _, fun z => by omega⟩
        · have := ih r (by omega)
          rw [this] at ho
          cases ho
      | some b =>
        rw [h] at ih
        obtain ⟨b1, b2, b3⟩ := ih
        show fz_tP ok pr (n + 1) (if pr b < pr n then some n else some b)
        by_cases lt : pr b < pr n
        · rw [if_pos lt]
          refine ⟨Nat.lt_succ_self n, e, fun r hr ho => ?_⟩
          by_cases q : r = n
          · subst q; exact ⟨Nat.le_refl _, fun z => by omega⟩
          · have := (b3 r (by omega) ho).1
            exact ⟨by omega, fun _ => by omega⟩
        · rw [if_neg lt]
          refine ⟨by omega, b2, fun r hr ho => ?_⟩
          by_cases q : r = n
          · subst q; exact ⟨by omega, fun z => by omega⟩
          · exact b3 r (by omega) ho
    · rw [if_neg e]
      cases h : fz_tb ok pr n with
      | none =>
        rw [h] at ih
        intro r hr
        by_cases q : r = n
        · subst q; exact Bool.eq_false_iff.mpr e
        · exact ih r (by omega)
      | some b =>
        rw [h] at ih
        obtain ⟨b1, b2, b3⟩ := ih
        refine ⟨by omega, b2, fun r hr ho => ?_⟩
        by_cases q : r = n
        · subst q; exact absurd ho e
        · exact b3 r (by omega) ho
theorem fz_tP_uq {ok : Nat → Bool} {pr : Nat → Nat} {n : Nat} {a b : Option Nat} (ha : fz_tP ok pr n a) (hb : fz_tP ok pr n b) : a = b := by
  cases a with
  | none =>
    cases b with
    | none => rfl
    | some y =>
      obtain ⟨b1, b2, -⟩ := hb
      have := ha y b1
      rw [this] at b2
      cases b2
  | some x =>
    obtain ⟨a1, a2, a3⟩ := ha
    cases b with
    | none =>
      have := hb x a1
      rw [this] at a2
      cases a2
    | some y =>
      obtain ⟨b1, b2, b3⟩ := hb
      obtain ⟨c1, c2⟩ := a3 y b1 b2
      obtain ⟨d1, d2⟩ := b3 x a1 a2
      have : x = y := by
        rcases Nat.lt_trichotomy x y with z | z | z
        · have := d2 z; omega
        · exact z
        · have := c2 z; omega
      rw [this]
def fz_pr (tr : Nat → Nat) (w : Nat → Nat) : Nat → Nat
  | 0 => 1
  | i + 1 => fz_pr tr w i * tr (w i)
theorem fz_pr_cg {tr w w' : Nat → Nat} : ∀ i, (∀ j, j < i → w j = w' j) → fz_pr tr w i = fz_pr tr w' i := by
  intro i
  induction i with
  | zero => intro _; rfl
  | succ i ih => intro h; rw [fz_pr, fz_pr, ih (fun j hj => h j (by omega)), h i (by omega)]
theorem fz_pr_le {tr w : Nat → Nat} (h : ∀ x, tr x ≤ 10) : ∀ i, fz_pr tr w i ≤ 10 ^ i := by
  intro i
  induction i with
  | zero => exact Nat.le_refl _
  | succ i ih => rw [fz_pr, Nat.pow_succ]; exact Nat.mul_le_mul ih (h _)
/-- rows by WORDS, and all rows -/
theorem fz_tr_all {G : fz_X} {p : Nat} {tr : Nat → Nat} (p1 : 1 ≤ p) (p6 : p ≤ 6) : fz_tb (fz_rk G p) (fun r => fz_pr tr (fz_rw G p r) p) (li_p (glen G) p * 2 ^ (p - 1)) = (fz_tb (fun q => fz_fe G p (fz_w G p q)) (fun q => fz_pr tr (fz_w G p q) p) (li_p (glen G) p)).map fun q => q * 2 ^ (p - 1) + fz_Z (fz_gt G (fz_w G p q)) p := by
  have zp : 0 < 2 ^ (p - 1) := Nat.pow_pos (by omega)
  have z32 : 2 ^ (p - 1) ≤ 32 := Nat.le_trans (Nat.pow_le_pow_right (by omega) (show p - 1 ≤ 5 by omega)) (by decide)
  refine fz_tP_uq (fz_tb_P _) ?_
  have hq := fz_tb_P (ok := fun q => fz_fe G p (fz_w G p q)) (pr := fun q => fz_pr tr (fz_w G p q) p) (li_p (glen G) p)
  -- a row that FITS: its WORDS can, and its TURNS come no earlier
  have fit : ∀ r, fz_rk G p r = true → fz_fe G p (fz_w G p (r / 2 ^ (p - 1))) = true ∧ fz_Z (fz_gt G (fz_w G p (r / 2 ^ (p - 1)))) p ≤ r % 2 ^ (p - 1) := by
    intro r hr
    unfold fz_rk at hr
    rw [Bool.and_eq_true, decide_eq_true_eq, decide_eq_true_eq] at hr
    obtain ⟨h1, h2⟩ := hr
    have m1 := Nat.mod_lt r zp
    have d := fz_dom (G := G) (w := fz_rw G p r) (tn := fz_rt p r) h2 p p1 (Nat.le_refl _)
    have l := fz_lex (G := G) (w := fz_rw G p r) (tn := fz_rt p r) rfl h2 p (Nat.le_refl _)
    have ez : fz_Z (fz_rt p r) p = r % 2 ^ (p - 1) := fz_Z_op ⟨p, by omega⟩ p1 ⟨r % 2 ^ (p - 1), by omega⟩ m1
    rw [ez] at l
    constructor
    · unfold fz_fe
      rw [Bool.and_eq_true, decide_eq_true_eq, decide_eq_true_eq]
      exact ⟨by have := d.1; unfold fz_rw at this; omega, d.2⟩
    · unfold fz_rw at l
      omega
  have lt : ∀ r q, r < q * 2 ^ (p - 1) → r / 2 ^ (p - 1) < q := fun r q h => Nat.div_lt_of_lt_mul (by rw [Nat.mul_comm]; exact h)
  cases h : fz_tb (fun q => fz_fe G p (fz_w G p q)) (fun q => fz_pr tr (fz_w G p q) p) (li_p (glen G) p) with
  | none =>
    rw [h] at hq
    intro r hr
    cases e : fz_rk G p r with
    | false => rfl
    | true =>
      have := hq _ (lt r _ hr)
      dsimp only at this
      rw [(fit r e).1] at this
      cases this
  | some b =>
    rw [h] at hq
    obtain ⟨b1, b2, b3⟩ := hq
    obtain ⟨g1, g2⟩ := fz_Z_t (tn := fz_gt G (fz_w G p b)) p p1 p6
    have e1 : (b * 2 ^ (p - 1) + fz_Z (fz_gt G (fz_w G p b)) p) / 2 ^ (p - 1) = b := by rw [Nat.mul_comm, Nat.mul_add_div (by omega), Nat.div_eq_of_lt g1, Nat.add_zero]
    have e2 : (b * 2 ^ (p - 1) + fz_Z (fz_gt G (fz_w G p b)) p) % 2 ^ (p - 1) = fz_Z (fz_gt G (fz_w G p b)) p := by rw [Nat.mul_comm, Nat.mul_add_mod, Nat.mod_eq_of_lt g1]
    show fz_tP _ _ _ (some (b * 2 ^ (p - 1) + fz_Z (fz_gt G (fz_w G p b)) p))
    refine ⟨?_, ?_, fun r hr ho => ?_⟩
    · have : (b + 1) * 2 ^ (p - 1) ≤ li_p (glen G) p * 2 ^ (p - 1) := Nat.mul_le_mul_right _ b1
      rw [Nat.succ_mul] at this
      omega
    · unfold fz_fe at b2
      unfold fz_rk fz_rw fz_rt
      rw [e1, e2]
      have cg := fz_cg (G := G) (w := fz_w G p b) (w' := fz_w G p b) (tn := op_t p (fz_Z (fz_gt G (fz_w G p b)) p)) (tn' := fz_gt G (fz_w G p b)) (n := p) (fun j hj => ⟨rfl, by
        rw [g2 j hj]
        by_cases j0 : j = 0
        · subst j0; rfl
        · rw [decide_eq_true j0, Bool.true_and]⟩) p (Nat.le_refl _)
      rw [cg.1, cg.2.2.1]
      exact b2
    · obtain ⟨f1, f2⟩ := fit r ho
      obtain ⟨c1, c2⟩ := b3 _ (lt r _ hr) f1
      dsimp only at c1 c2 ⊢
      unfold fz_rw
      rw [e1]
      refine ⟨c1, fun hlt => ?_⟩
      have ex : r = 2 ^ (p - 1) * (r / 2 ^ (p - 1)) + r % 2 ^ (p - 1) := (Nat.div_add_mod r _).symm
      have m1 := Nat.mod_lt r zp
      rcases Nat.lt_trichotomy (r / 2 ^ (p - 1)) b with z | z | z
      · exact c2 z
      · exfalso
        rw [z] at ex f2
        rw [Nat.mul_comm] at ex
        omega
      · exfalso
        have : (b + 1) * 2 ^ (p - 1) ≤ r / 2 ^ (p - 1) * 2 ^ (p - 1) := Nat.mul_le_mul_right _ z
        rw [Nat.succ_mul, Nat.mul_comm (r / 2 ^ (p - 1))] at this
        omega
