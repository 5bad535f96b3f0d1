/-! rows by WORDS in blocks; one LINE by its places -/
def fz_B (G : fz_X) : Nat → Nat → Nat
  | 0, _ => 1
  | f + 1, i => glen G i * fz_B G f (i + 1)
theorem li_p_B {G : fz_X} {p : Nat} : ∀ f i, i + f = p → li_p (glen G) p = li_p (glen G) i * fz_B G f i := by
  intro f
  induction f with
  | zero => intro i hi; obtain rfl : i = p := by omega
            exact (Nat.mul_one _).symm
  | succ f ih =>
    intro i hi
    rw [ih (i + 1) (by omega), li_p, fz_B, Nat.mul_assoc]
theorem op_d_dn {len : Nat → Nat} {i y j : Nat} (hj : j < i) : op_d len (i + 1) y j = op_d len i (y / len i) j := by
  unfold op_d
  rw [show i + 1 - 1 - j = (i - 1 - j) + 1 by omega, op_q_st]
theorem op_d_B {G : fz_X} {p q j : Nat} : ∀ f i, i + f = p → j < i → op_d (glen G) p q j = op_d (glen G) i (q / fz_B G f i) j := by
  intro f
  induction f with
  | zero => intro i hi _; obtain rfl : i = p := by omega
            rw [fz_B, Nat.div_one]
  | succ f ih =>
    intro i hi hj
    rw [ih (i + 1) (by omega) (by omega), op_d_dn hj, Nat.div_div_eq_div_mul, fz_B, Nat.mul_comm]
theorem fz_B_pos {G : fz_X} {p : Nat} (hG : fz_ok G p) : ∀ f i, i + f = p → 0 < fz_B G f i := by
  intro f
  induction f with
  | zero => intro i _; exact Nat.one_pos
  | succ f ih => intro i hi; exact Nat.mul_pos (hG.2.1 i (by omega)).1 (ih (i + 1) (by omega))
theorem fz_tb_sk {ok : Nat → Bool} {pr : Nat → Nat} {a : Nat} : ∀ n, (∀ q, a ≤ q → q < a + n → ok q = false) → fz_tb ok pr (a + n) = fz_tb ok pr a := by
  intro n
  induction n with
  | zero => intro _; rfl
  | succ n ih =>
    intro h
    rw [← Nat.add_assoc, fz_tb, if_neg (by rw [h (a + n) (by omega) (by omega)]; simp), ih (fun q h1 h2 => h q h1 (by omega))]
/-- one place more, TURNS as late as can be -/
theorem fz_gs {G : fz_X} {w w' : Nat → Nat} {i : Nat} (h : ∀ j, j < i → w' j = w j) : (¬ i = 0 → fz_gw G w i + gbl G + gwn G (w' i) ≤ ghr G → op_n (fz_gt G w') (i + 1) = op_n (fz_gt G w) i ∧ fz_gw G w' (i + 1) = fz_gw G w i + gbl G + gwn G (w' i) ∧ fz_tu (fz_gt G w') (i + 1) = fz_tu (fz_gt G w) i ∧ (fz_wd G w' (fz_gt G w') (i + 1)).1 = max (fz_wd G w (fz_gt G w) i).1 (fz_gw G w i + gbl G + gwn G (w' i))) ∧
    ((i = 0 ∨ ¬ fz_gw G w i + gbl G + gwn G (w' i) ≤ ghr G) → op_n (fz_gt G w') (i + 1) = op_n (fz_gt G w) i + 1 ∧ fz_gw G w' (i + 1) = gwn G (w' i) ∧ fz_tu (fz_gt G w') (i + 1) = fz_tu (fz_gt G w) i + fz_tk i ∧ (fz_wd G w' (fz_gt G w') (i + 1)).1 = max (fz_wd G w (fz_gt G w) i).1 (gwn G (w' i))) ∧ fz_wk w' (i + 1) = fz_wk w i + w' i * 2 ^ (6 + 4 * (5 - i)) := by
  obtain ⟨g1, g2⟩ := fz_gw_cg (G := G) i h
  obtain ⟨c1, -, c3, -, -, -, c7, c8⟩ := fz_cg (G := G) (w := w') (w' := w) (tn := fz_gt G w') (tn' := fz_gt G w) (n := i) (fun j hj => ⟨h j hj, g2 j hj⟩) i (Nat.le_refl _)
  have e1 : op_n (fz_gt G w') (i + 1) = if i = 0 ∨ fz_gt G w' i = true then op_n (fz_gt G w') i + 1 else op_n (fz_gt G w') i := rfl
  have e2 : fz_gw G w' (i + 1) = if ¬ i = 0 ∧ fz_gw G w' i + gbl G + gwn G (w' i) ≤ ghr G then fz_gw G w' i + gbl G + gwn G (w' i) else gwn G (w' i) := rfl
  have e3 : fz_tu (fz_gt G w') (i + 1) = fz_tu (fz_gt G w') i + (if ¬ i = 0 ∧ fz_gt G w' i = true then 2 ^ (5 - i) else 0) := rfl
  have e4 := fz_wd_1 (G := G) (w := w') (tn := fz_gt G w') (i := i)
  rw [fz_gw_wd, g1, c3] at e4
  rw [g1] at e2
  refine ⟨fun i0 hy => ?_, fun hn => ?_, by rw [fz_wk, c7]⟩
  · have ng : ¬ fz_gt G w' i = true := fun z => (fz_gt_iff i0).mp z (by rw [g1]; exact hy)
    have nb : ¬ (i = 0 ∨ fz_gt G w' i = true) := fun z => z.elim i0 ng
    have nc : ¬ (¬ i = 0 ∧ fz_gt G w' i = true) := fun z => ng z.2
    rw [if_neg nb] at e1 e4
    rw [if_pos ⟨i0, hy⟩] at e2
    rw [if_neg nc, Nat.add_zero] at e3
    exact ⟨e1.trans c1, e2, e3.trans c8, by rw [e4]⟩
  · have yb : i = 0 ∨ fz_gt G w' i = true := by
      by_cases i0 : i = 0
      · exact Or.inl i0
      · exact Or.inr ((fz_gt_iff i0).mpr (by rw [g1]; exact hn.resolve_left i0))
    rw [if_pos yb] at e1 e4
    rw [if_neg (fun z => hn.elim z.1 fun q => q z.2)] at e2
    refine ⟨by rw [e1, c1], e2, ?_, by rw [e4]⟩
    rw [e3, c8]
    congr 1
    unfold fz_tk
    by_cases i0 : i = 0
    · rw [if_neg (fun z => z.1 i0), if_pos i0]
    · rw [if_pos ⟨i0, yb.resolve_left i0⟩, if_neg i0]
/-- WORDS that can't FIT so far can't at all -/
theorem fz_fe_no {G : fz_X} {p i : Nat} {w w' : Nat → Nat} (hi : i ≤ p) (h : ∀ j, j < i → w' j = w j) (hn : ¬ (op_n (fz_gt G w) i ≤ gLN G ∧ (fz_wd G w (fz_gt G w) i).1 ≤ ghr G)) : fz_fe G p w' = false := by
  obtain ⟨g1, g2⟩ := fz_gw_cg (G := G) i h
  obtain ⟨c1, -, c3, -⟩ := fz_cg (G := G) (w := w') (w' := w) (tn := fz_gt G w') (tn' := fz_gt G w) (n := i) (fun j hj => ⟨h j hj, g2 j hj⟩) i (Nat.le_refl _)
  obtain ⟨m1, m2⟩ := fz_wd_mo (G := G) (w := w') (tn := fz_gt G w') i p hi
  cases e : fz_fe G p w' with
  | false => rfl
  | true =>
    exfalso
    unfold fz_fe at e
    rw [Bool.and_eq_true, decide_eq_true_eq, decide_eq_true_eq] at e
    rw [c3] at m1
    rw [c1] at m2
    exact hn ⟨by omega, by omega⟩
/-- one LINE -/
def fz_ls (G : fz_X) (w : Nat → Nat) (s : Nat) : Nat → Nat
  | 0 => 0
  | n + 1 => fz_ls G w s n + gwn G (w (s + n))
def fz_le (G : fz_X) (w : Nat → Nat) (l s : Nat) : Nat → Bool
  | 0 => false
  | n + 1 => fz_le G w l s n || gex G (w (s + n)) l
theorem fz_line {G : fz_X} {w : Nat → Nat} {tn : Nat → Bool} : ∀ i, 1 ≤ i → (fz_wd G w tn i).2 = (i - fz_s tn i - 1) * gbl G + fz_ls G w (fz_s tn i) (i - fz_s tn i) ∧ fz_ec G w tn i = fz_le G w (op_n tn i - 1) (fz_s tn i) (i - fz_s tn i) := by
  intro i
  induction i with
  | zero => intro h; omega
  | succ i ih =>
    intro _
    have e4 := fz_wd_1 (G := G) (w := w) (tn := tn) (i := i)
    have es : fz_s tn (i + 1) = if i = 0 ∨ tn i = true then i else fz_s tn i := rfl
    have ec : fz_ec G w tn (i + 1) = if i = 0 ∨ tn i = true then gex G (w i) (op_n tn (i + 1) - 1) else fz_ec G w tn i || gex G (w i) (op_n tn (i + 1) - 1) := rfl
    have en : op_n tn (i + 1) = if i = 0 ∨ tn i = true then op_n tn i + 1 else op_n tn i := rfl
    by_cases b : i = 0 ∨ tn i = true
    · rw [if_pos b] at e4 es ec en
      rw [e4, es, ec]
      dsimp only
      rw [show i + 1 - i = 0 + 1 by omega, fz_ls, fz_ls, fz_le, fz_le, Bool.false_or]
      refine ⟨?_, rfl⟩
      show gwn G (w i) = (0 + 1 - 1) * gbl G + (0 + gwn G (w i))
      rw [show 0 + 1 - 1 = 0 by omega, Nat.zero_mul]
      omega
    · rw [if_neg b] at e4 es ec en
      have i0 : ¬ i = 0 := fun z => b (Or.inl z)
      obtain ⟨a1, a2⟩ := ih (by omega)
      have sl := fz_s_lt (tn := tn) i (by omega)
      rw [e4, es, ec, en, a2]
      dsimp only
      rw [a1, show i + 1 - fz_s tn i = (i - fz_s tn i) + 1 by omega, fz_ls, fz_le, show fz_s tn i + (i - fz_s tn i) = i by omega]
      refine ⟨?_, rfl⟩
      obtain ⟨y, hy⟩ : ∃ y, i - fz_s tn i = y + 1 := ⟨i - fz_s tn i - 1, by omega⟩
      rw [hy, Nat.add_sub_cancel, Nat.add_sub_cancel, Nat.succ_mul]
      omega
