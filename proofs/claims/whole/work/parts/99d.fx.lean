/-! the model's rows are these rows -/
theorem nI_su {a b : Nat} (h : b ≤ a) : nI a - nI b = nI (a - b) := by
  obtain ⟨c, rfl⟩ : ∃ c, a = c + b := ⟨a - b, by omega⟩
  rw [← nI_add, Int32.add_sub_cancel, Nat.add_sub_cancel]
theorem ft_B_fz {ok : Nat → Bool} {c : Nat → Int32} {ky cn lo : Nat → Nat} {R : Nat} (hc : ∀ r, r < R → ok r = true → c r = nI (cn r) ∧ cn r < 1000000 ∧ ky r = 1073741824 * cn r + lo r ∧ lo r < 1073741824) (hm : ∀ r r', r < r' → r' < R → lo r < lo r') : ∀ n, n ≤ R → (ft_B ok c n).2.2 = (fz_S (fun r => if ok r = true then (1, some (ky r)) else fz_e) n).1 ∧ (((ft_B ok c n).1 = none ∧ (fz_S (fun r => if ok r = true then (1, some (ky r)) else fz_e) n).2 = none ∧ (ft_B ok c n).2.1 = 1000000) ∨ ∃ r, r < n ∧ ok r = true ∧ (ft_B ok c n).1 = some r ∧ (ft_B ok c n).2.1 = c r ∧ (fz_S (fun r => if ok r = true then (1, some (ky r)) else fz_e) n).2 = some (ky r)) := by
  intro n
  induction n with
  | zero => intro _; exact ⟨rfl, Or.inl ⟨rfl, rfl, rfl⟩⟩
  | succ n ih =>
    intro hn
    obtain ⟨i1, i2⟩ := ih (by omega)
    rw [ft_B, fz_S]
    by_cases e : ok n = true
    · obtain ⟨c1, c2, c3, c4⟩ := hc n (by omega) e
      rw [if_pos e, if_pos e]
      rcases i2 with ⟨a1, a2, a3⟩ | ⟨r, r1, r2, r3, r4, r5⟩
      · have lt : c n < (ft_B ok c n).2.1 := by
          rw [a3, c1, show (1000000 : Int32) = nI 1000000 from rfl]
          exact nI_lt c2 (by omega)
        rw [if_pos lt]
        refine ⟨?_, Or.inr ⟨n, by omega, e, rfl, rfl, ?_⟩⟩
        · show _ + 1 = _ + 1
          rw [i1]
        · show fz_m _ (some (ky n)) = some (ky n)
          rw [a2]
          rfl
      · obtain ⟨d1, d2, d3, d4⟩ := hc r (by omega) r2
        have ml := hm r n r1 (by omega)
        by_cases lt : c n < (ft_B ok c n).2.1
        · rw [if_pos lt]
          refine ⟨?_, Or.inr ⟨n, by omega, e, rfl, rfl, ?_⟩⟩
          · show _ + 1 = _ + 1
            rw [i1]
          · show fz_m _ (some (ky n)) = some (ky n)
            rw [r5]
            show some (if ky r ≤ ky n then ky r else ky n) = some (ky n)
            rw [r4, c1, d1, nI_ltI (by omega) (by omega)] at lt
            rw [if_neg (by omega)]
        · rw [if_neg lt]
          refine ⟨?_, Or.inr ⟨r, by omega, r2, r3, r4, ?_⟩⟩
          · show _ + 1 = _ + 1
            rw [i1]
          · show fz_m _ (some (ky n)) = some (ky r)
            rw [r5]
            show some (if ky r ≤ ky n then ky r else ky n) = some (ky r)
            rw [r4, c1, d1, nI_ltI (by omega) (by omega)] at lt
            rw [if_pos (by omega)]
    · rw [if_neg e, if_neg e, fz_o_e]
      refine ⟨i1, ?_⟩
      rcases i2 with h | ⟨r, r1, r2⟩
      · exact Or.inl h
      · exact Or.inr ⟨r, by omega, r2⟩
theorem ro_t_cg {cls : List gr_c1} {K : Nat → Int32} {rw fr bd fr' bd' : Nat → Nat} {b : Int32} : ∀ n, (∀ l, l ≤ n → fr l = fr' l) → (∀ l, l < n → bd l = bd' l) → ro_t cls K rw fr bd b n = ro_t cls K rw fr' bd' b n := by
  intro n
  induction n with
  | zero => intro _ _; rfl
  | succ n ih =>
    intro h1 h2
    rw [ro_t, ro_t, ih (fun l hl => h1 l (by omega)) (fun l hl => h2 l (by omega))]
    congr 1
    unfold ro_l ro_a
    rw [h1 (n + 1) (by omega), h1 n (by omega), h2 n (by omega)]
    by_cases e : n = 0
    · subst e
      rw [decide_eq_false (Nat.lt_irrefl 0), Bool.false_and, Bool.false_and]
    · rw [h1 (n - 1) (by omega)]
theorem ro_t_b {cls : List gr_c1} {K : Nat → Int32} {rw fr bd : Nat → Nat} {b x : Int32} : ∀ n, ro_t cls K rw fr bd (b + x) n = ro_t cls K rw fr bd b n + x := by
  intro n
  induction n with
  | zero => rfl
  | succ n ih =>
    rw [ro_t, ro_t, ih, Int32.add_assoc, Int32.add_comm x, ← Int32.add_assoc]
/-- costs and losses as numbers -/
def fz_cst (x : Int32) : Nat := min 999 x.toNatClampNeg
theorem fz_cst_le (x : Int32) : fz_cst x ≤ 999 := Nat.min_le_left _ _
theorem fz_cst_nI {n : Nat} (h : n ≤ 999) : fz_cst (nI n) = n := by
  unfold fz_cst
  rw [nI_clamp (by omega)]
  omega
theorem lw_cl_rg (x : Int32) : ∃ n, n ≤ 999 ∧ lw_cl x = nI n := by
  unfold lw_cl
  by_cases h : x < 999
  · rw [if_pos h]
    by_cases h0 : 0 < x
    · rw [if_pos h0]
      obtain ⟨j, hj, e⟩ := nI_of2 (x := x) (M := 999) (n := 999) (by decide) (fun z => Int32.lt_irrefl (Int32.lt_trans z h0)) (Int32.le_of_lt h)
      exact ⟨j, hj, e⟩
    · rw [if_neg h0]
      exact ⟨0, by omega, rfl⟩
  · rw [if_neg h, if_pos (by decide)]
    exact ⟨999, by omega, rfl⟩
theorem jd_ct_rg {cls : List gr_c1} {f : Nat → Int32} {hr wd : Nat} {ak : Bool} (hh : hr ≤ 400) (hw : wd ≤ 2400) : ∃ n, n ≤ 999 ∧ jd_ct cls f (nI hr - nI wd) ak = nI n := by
  unfold jd_ct lw_td
  cases lw_fo f 1 none cls with
  | some x => exact lw_cl_rg x
  | none =>
    have hx : ∃ x, x ≤ 400 ∧ (if 0 < nI hr - nI wd then nI hr - nI wd else 0) = nI x := by
      by_cases e : wd ≤ hr
      · rw [nI_su e]
        by_cases z : 0 < nI (hr - wd)
        · exact ⟨hr - wd, by omega, if_pos z⟩
        · exact ⟨0, by omega, if_neg z⟩
      · refine ⟨0, by omega, if_neg ?_⟩
        intro z
        have t1 : (nI hr).toInt = (hr : Int) := Int32.toInt_ofNat_of_lt (by omega)
        have t2 : (nI wd).toInt = (wd : Int) := Int32.toInt_ofNat_of_lt (by omega)
        rw [Int32.lt_iff_toInt_lt, Int32.toInt_sub, t1, t2, Int.bmod_eq_of_le (by omega) (by omega), show (0 : Int32).toInt = 0 by decide] at z
        omega
    obtain ⟨x, x4, ex⟩ := hx
    show ∃ n, n ≤ 999 ∧ (if 0 < nI hr - nI wd then nI hr - nI wd else 0) + (if ak = true then 20 else 0) = nI n
    rw [ex]
    cases ak with
    | true => exact ⟨x + 20, by omega, by rw [if_pos rfl, show (20 : Int32) = nI 20 from rfl, nI_add]⟩
    | false => exact ⟨x, by omega, by simp⟩
theorem jd_ls_rg {cls : List gr_c1} {f : Nat → Int32} {lo : Int32} (h0 : 0 ≤ lo) (h9 : lo ≤ 99) : ∃ n, n ≤ 999 ∧ jd_ls cls f lo = nI n := by
  unfold jd_ls lw_td
  cases lw_fo f 0 none cls with
  | some x => exact lw_cl_rg x
  | none =>
    obtain ⟨j, hj, e⟩ := nI_of2 (x := lo) (M := 99) (n := 99) (by decide) (Int32.not_lt.mpr h0) h9
    exact ⟨j, by omega, e⟩
/-- all that rows rest on, out of the cells: fl a WORD's first LETTER, nx what stands NEXT door -/
def fz_G (cls : List gr_c1) (LN bl hr : Nat) (sz dy md : Int32) (len : Nat → Nat) (opt : Nat → Nat → Nat) (wn : Nat → Nat) (ls fl nx : Nat → Int32) : fz_X := (LN, bl, hr, len, opt, wn, fun w => fz_cst (ls w), fun a b => decide (fl a = fl b), fun w l => decide (nI w = nx l), fun ln wd mn ak ec => fz_cst (jd_ct cls (jf_l (nI ln) (nI hr - nI wd) (nI mn) (hf_b ak) (hf_b ec) sz dy md) (nI hr - nI wd) ak))
section FX
variable {cls : List gr_c1} {K : Nat → Int32} {LN bl hr : Nat} {sz dy md : Int32} {len : Nat → Nat} {opt : Nat → Nat → Nat} {wn : Nat → Nat} {ls fl nx : Nat → Int32} {w : Nat → Nat} {tn : Nat → Bool}
theorem fz_G_C {ln wd mn : Nat} {ak ec : Bool} (hh : hr ≤ 400) (hw : wd ≤ 2400) : jd_ct cls (jf_l (nI ln) (nI hr - nI wd) (nI mn) (hf_b ak) (hf_b ec) sz dy md) (nI hr - nI wd) ak = nI (gC (fz_G cls LN bl hr sz dy md len opt wn ls fl nx) ln wd mn ak ec) := by
  obtain ⟨n, h1, h2⟩ := jd_ct_rg (cls := cls) (f := jf_l (nI ln) (nI hr - nI wd) (nI mn) (hf_b ak) (hf_b ec) sz dy md) (ak := ak) hh hw
  show _ = nI (fz_cst (jd_ct cls (jf_l (nI ln) (nI hr - nI wd) (nI mn) (hf_b ak) (hf_b ec) sz dy md) (nI hr - nI wd) ak))
  rw [h2, fz_cst_nI h1]
theorem fz_wd_le (hb : bl ≤ 40) (hn : ∀ i, wn i ≤ 360) (i : Nat) (h6 : i ≤ 6) : (fz_wd (fz_G cls LN bl hr sz dy md len opt wn ls fl nx) w tn i).2 ≤ 2400 := by
  have := (lb_le (m := fun j => wn (w j)) (tn := tn) hb (fun j => hn _) i).2
  have e : (fz_wd (fz_G cls LN bl hr sz dy md len opt wn ls fl nx) w tn i).2 = (lb_r (fun j => wn (w j)) tn bl i).2 := rfl
  rw [e]
  omega
theorem ro_fz {n : Nat} (n6 : n ≤ 6) (h313 : K 313 = nI hr) (hh : hr ≤ 400) (h315 : K 315 = sz) (h311 : K 311 = dy) (h312 : K 312 = md) (hfl : ∀ i, i < n → K (53 + 13 * w i + 4) = fl (w i)) (hnx : ∀ l, l < 4 → K (275 + l) = nx l) (hb : bl ≤ 40) (hn : ∀ i, wn i ≤ 360) (hls : ∀ i, i < n → ls (w i) = nI (fz_cst (ls (w i)))) (hop : op_n tn n ≤ 4) :
    ∀ i, 1 ≤ i → i ≤ n → op_f tn i (op_n tn i - 1) = fz_s tn i ∧ fz_al (fz_G cls LN bl hr sz dy md len opt wn ls fl nx) w tn i = ro_a K w (op_f tn i) (op_n tn i - 1) ∧ fz_ec (fz_G cls LN bl hr sz dy md len opt wn ls fl nx) w tn i = ro_e w (nx (op_n tn i - 1)) (fz_s tn i) (i - fz_s tn i) ∧ nI (fz_ct (fz_G cls LN bl hr sz dy md len opt wn ls fl nx) w tn i) = ro_t cls K w (op_f tn i) (op_b (fun j => wn (w j)) tn bl i) (ro_s ls w i) (op_n tn i - 1) ∧
      ∀ (fr bd : Nat → Nat), fr (op_n tn i) = i → fr (op_n tn i - 1) = op_f tn i (op_n tn i - 1) → fr (op_n tn i - 1 - 1) = op_f tn i (op_n tn i - 1 - 1) → bd (op_n tn i - 1) = op_b (fun j => wn (w j)) tn bl i (op_n tn i - 1) → ro_l cls K w fr bd (op_n tn i - 1) = nI (fz_lc (fz_G cls LN bl hr sz dy md len opt wn ls fl nx) w tn i) := by
  have mono : ∀ i j, i ≤ j → op_n tn i ≤ op_n tn j := by
    intro i j hij
    induction j with
    | zero => obtain rfl : i = 0 := by omega
              exact Nat.le_refl _
    | succ j ih =>
      by_cases e : i = j + 1
      · subst e; exact Nat.le_refl _
      · have := ih (by omega)
        rw [op_n]
        split <;> omega
  intro i
  induction i with
  | zero => intro h; omega
  | succ i ih =>
    intro _ hi
    have nn := (op_n_le (tn := tn) (i + 1)).2 (by omega)
    have n4 := mono (i + 1) n hi
    -- the last conjunct out of the others
    have last : op_f tn (i + 1) (op_n tn (i + 1) - 1) = fz_s tn (i + 1) → fz_al (fz_G cls LN bl hr sz dy md len opt wn ls fl nx) w tn (i + 1) = ro_a K w (op_f tn (i + 1)) (op_n tn (i + 1) - 1) → fz_ec (fz_G cls LN bl hr sz dy md len opt wn ls fl nx) w tn (i + 1) = ro_e w (nx (op_n tn (i + 1) - 1)) (fz_s tn (i + 1)) (i + 1 - fz_s tn (i + 1)) → ∀ (fr bd : Nat → Nat), fr (op_n tn (i + 1)) = i + 1 → fr (op_n tn (i + 1) - 1) = op_f tn (i + 1) (op_n tn (i + 1) - 1) → fr (op_n tn (i + 1) - 1 - 1) = op_f tn (i + 1) (op_n tn (i + 1) - 1 - 1) → bd (op_n tn (i + 1) - 1) = op_b (fun j => wn (w j)) tn bl (i + 1) (op_n tn (i + 1) - 1) → ro_l cls K w fr bd (op_n tn (i + 1) - 1) = nI (fz_lc (fz_G cls LN bl hr sz dy md len opt wn ls fl nx) w tn (i + 1)) := by
      intro a b c fr bd f1 f2 f3 f4
      have sl := fz_s_lt (tn := tn) (i + 1) (by omega)
      obtain ⟨-, lb⟩ := lb_op (m := fun j => wn (w j)) (tn := tn) (bl := bl) (i + 1)
      have lb' := lb (by omega)
      have ea : ro_a K w fr (op_n tn (i + 1) - 1) = ro_a K w (op_f tn (i + 1)) (op_n tn (i + 1) - 1) := by unfold ro_a; rw [f2, f3]
      unfold ro_l
      rw [ea, ← b, show op_n tn (i + 1) - 1 + 1 = op_n tn (i + 1) by omega, f1, f2, a, hnx _ (by omega), ← c, f4, lb', nI_su (by omega), h313, h315, h311, h312]
      exact fz_G_C hh (fz_wd_le (cls := cls) (LN := LN) (hr := hr) (sz := sz) (dy := dy) (md := md) (len := len) (opt := opt) (ls := ls) (fl := fl) (nx := nx) (w := w) (tn := tn) hb hn (i + 1) (by omega))
    by_cases i0 : i = 0
    · subst i0
      have e1 : op_n tn 1 = 1 := rfl
      have c1 : op_f tn 1 (op_n tn 1 - 1) = fz_s tn 1 := rfl
      have c2 : fz_al (fz_G cls LN bl hr sz dy md len opt wn ls fl nx) w tn 1 = ro_a K w (op_f tn 1) (op_n tn 1 - 1) := rfl
      have c3 : fz_ec (fz_G cls LN bl hr sz dy md len opt wn ls fl nx) w tn 1 = ro_e w (nx (op_n tn 1 - 1)) (fz_s tn 1) (1 - fz_s tn 1) := by
        show decide (nI (w 0) = nx 0) = (false || decide (nI (w 0) = nx 0))
        rw [Bool.false_or]
      refine ⟨c1, c2, c3, ?_, last c1 c2 c3⟩
      show nI (0 + fz_cst (ls (w 0)) + 0) = 0 + ls (w 0)
      rw [Nat.zero_add, Nat.add_zero, Int32.zero_add]
      exact (hls 0 (by omega)).symm
    · obtain ⟨a1, a2, a3, a4, a5⟩ := ih (by omega) (by omega)
      have nn' := (op_n_le (tn := tn) i).2 (by omega)
      have sl := fz_s_lt (tn := tn) i (by omega)
      have n4' := mono i n (by omega)
      by_cases t : tn i = true
      · have hb1 : i = 0 ∨ tn i = true := Or.inr t
        have e1 : op_n tn (i + 1) = op_n tn i + 1 := by rw [op_n, if_pos hb1]
        have e2 : op_f tn (i + 1) = ed_u (op_f tn i) (op_n tn i) i := by rw [op_f, if_pos hb1]
        have e3 : op_b (fun j => wn (w j)) tn bl (i + 1) = ed_u (op_b (fun j => wn (w j)) tn bl i) (op_n tn i) (wn (w i)) := by rw [op_b, if_pos hb1]
        have e4 : fz_s tn (i + 1) = i := by rw [fz_s, if_pos hb1]
        have c1 : op_f tn (i + 1) (op_n tn (i + 1) - 1) = fz_s tn (i + 1) := by rw [e1, e2, e4, Nat.add_sub_cancel, ed_u_eq]
        have c2 : fz_al (fz_G cls LN bl hr sz dy md len opt wn ls fl nx) w tn (i + 1) = ro_a K w (op_f tn (i + 1)) (op_n tn (i + 1) - 1) := by
          rw [fz_al, if_neg i0, if_pos t]
          unfold ro_a
          rw [e1, e2, Nat.add_sub_cancel, ed_u_eq, ed_u_ne (by omega), a1, hfl i (by omega), hfl _ (by omega), decide_eq_true (show 0 < op_n tn i by omega), Bool.true_and]
          show decide (fl (w (fz_s tn i)) = fl (w i)) = decide (fl (w i) = fl (w (fz_s tn i)))
          by_cases q : fl (w (fz_s tn i)) = fl (w i)
          · rw [decide_eq_true q, decide_eq_true q.symm]
          · rw [decide_eq_false q, decide_eq_false fun z => q z.symm]
        have c3 : fz_ec (fz_G cls LN bl hr sz dy md len opt wn ls fl nx) w tn (i + 1) = ro_e w (nx (op_n tn (i + 1) - 1)) (fz_s tn (i + 1)) (i + 1 - fz_s tn (i + 1)) := by
          rw [fz_ec, if_pos hb1, e4, show i + 1 - i = 0 + 1 by omega, ro_e, ro_e, Bool.false_or, Nat.add_zero]
          rfl
        refine ⟨c1, c2, c3, ?_, last c1 c2 c3⟩
        rw [fz_ct, if_pos ⟨i0, t⟩, e1, Nat.add_sub_cancel]
        obtain ⟨y, hy⟩ : ∃ y, op_n tn i = y + 1 := ⟨op_n tn i - 1, by omega⟩
        have go := a5 (op_f tn (i + 1)) (op_b (fun j => wn (w j)) tn bl (i + 1)) (by rw [e2, ed_u_eq]) (by rw [e2, ed_u_ne (by omega)]) (by rw [e2, ed_u_ne (by omega)]) (by rw [e3, ed_u_ne (by omega)])
        rw [hy, Nat.add_sub_cancel] at go a4
        rw [hy, ro_t, go, ro_s, ro_t_b, ro_t_cg (fr' := op_f tn i) (bd' := op_b (fun j => wn (w j)) tn bl i) y (fun l hl => by rw [e2, ed_u_ne (by omega)]) (fun l hl => by rw [e3, ed_u_ne (by omega)]), ← a4, ← nI_add, ← nI_add, show nI (gls (fz_G cls LN bl hr sz dy md len opt wn ls fl nx) (w i)) = ls (w i) from (hls i (by omega)).symm]
      · have hb1 : ¬ (i = 0 ∨ tn i = true) := fun z => z.elim i0 t
        have e1 : op_n tn (i + 1) = op_n tn i := by rw [op_n, if_neg hb1]
        have e2 : op_f tn (i + 1) = op_f tn i := by rw [op_f, if_neg hb1]
        have e4 : fz_s tn (i + 1) = fz_s tn i := by rw [fz_s, if_neg hb1]
        have c1 : op_f tn (i + 1) (op_n tn (i + 1) - 1) = fz_s tn (i + 1) := by rw [e1, e2, e4, a1]
        have c2 : fz_al (fz_G cls LN bl hr sz dy md len opt wn ls fl nx) w tn (i + 1) = ro_a K w (op_f tn (i + 1)) (op_n tn (i + 1) - 1) := by
          rw [fz_al, if_neg i0, if_neg t, e1, e2, a2]
        have c3 : fz_ec (fz_G cls LN bl hr sz dy md len opt wn ls fl nx) w tn (i + 1) = ro_e w (nx (op_n tn (i + 1) - 1)) (fz_s tn (i + 1)) (i + 1 - fz_s tn (i + 1)) := by
          rw [fz_ec, if_neg hb1, e4, e1, a3, show i + 1 - fz_s tn i = (i - fz_s tn i) + 1 by omega, ro_e, show fz_s tn i + (i - fz_s tn i) = i by omega]
          rfl
        refine ⟨c1, c2, c3, ?_, last c1 c2 c3⟩
        rw [fz_ct, if_neg (fun z => t z.2), e1, e2, ro_s, ro_t_b, ro_t_cg (fr' := op_f tn i) (bd' := op_b (fun j => wn (w j)) tn bl i) _ (fun l hl => rfl) (fun l hl => by rw [op_b, if_neg hb1, ed_u_ne (by omega)]), ← a4, Nat.add_zero, ← nI_add, hls i (by omega)]
        rfl
/-- what a row costs -/
theorem ft_c_fz {p r : Nat} (p1 : 1 ≤ p) (p6 : p ≤ 6) (h313 : K 313 = nI hr) (hh : hr ≤ 400) (h315 : K 315 = sz) (h311 : K 311 = dy) (h312 : K 312 = md) (hfl : ∀ i, i < p → K (53 + 13 * ro_wd p len opt r i + 4) = fl (ro_wd p len opt r i)) (hnx : ∀ l, l < 4 → K (275 + l) = nx l) (hb : bl ≤ 40) (hn : ∀ i, wn i ≤ 360) (hls : ∀ i, i < p → ls (ro_wd p len opt r i) = nI (fz_cst (ls (ro_wd p len opt r i)))) (hop : ro_n p r ≤ 4) :
    ft_c cls K p bl len opt wn ls r = nI (fz_cs (fz_G cls LN bl hr sz dy md len opt wn ls fl nx) p (fz_rw (fz_G cls LN bl hr sz dy md len opt wn ls fl nx) p r) (fz_rt p r)) := by
  have nn := (op_n_le (tn := ro_tn p r) p).2 (by omega)
  obtain ⟨a1, a2, a3, a4, a5⟩ := ro_fz (cls := cls) (K := K) (LN := LN) (bl := bl) (hr := hr) (sz := sz) (dy := dy) (md := md) (len := len) (opt := opt) (wn := wn) (ls := ls) (fl := fl) (nx := nx) (w := ro_wd p len opt r) (tn := ro_tn p r) (n := p) p6 h313 hh h315 h311 h312 hfl hnx hb hn hls hop p p1 (Nat.le_refl _)
  obtain ⟨y, hy⟩ : ∃ y, op_n (ro_tn p r) p = y + 1 := ⟨op_n (ro_tn p r) p - 1, by omega⟩
  have go := a5 (ro_f p r) (ro_bd p bl len opt wn r) (by unfold ro_f ro_n; rw [if_pos rfl]) (by unfold ro_f ro_n; rw [if_neg (by omega)]) (by unfold ro_f ro_n; rw [if_neg (by omega)]) rfl
  unfold ft_c
  have hn' : ro_n p r = y + 1 := hy
  rw [hy, Nat.add_sub_cancel] at go a4
  rw [hn', ro_t, go, ro_t_cg (bd := ro_bd p bl len opt wn r) (fr' := op_f (ro_tn p r) p) (bd' := op_b (fun j => wn (ro_wd p len opt r j)) (ro_tn p r) bl p) y (fun l hl => by unfold ro_f; rw [hn', if_neg (by omega)]) (fun l hl => rfl), ← a4, nI_add]
  rfl
theorem ft_k_fz {p r : Nat} : ft_k p LN bl hr len opt wn r = fz_rk (fz_G cls LN bl hr sz dy md len opt wn ls fl nx) p r := by
  unfold ft_k fz_rk
  have e := (lb_op (m := fun i => wn (ro_wd p len opt r i)) (tn := ro_tn p r) (bl := bl) p).1
  rw [show lb_m (ro_bd p bl len opt wn r) (ro_n p r) = (lb_r (fun i => wn (ro_wd p len opt r i)) (ro_tn p r) bl p).1 from e]
  rfl
end FX
