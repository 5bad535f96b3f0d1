/-! the truest row: fractions, and the model -/
theorem nI_dv {a b : Nat} (ha : a < 2 ^ 31) (hb0 : 0 < b) (hb : b < 2 ^ 31) : nI a / nI b = nI (a / b) := by
  have hd : a / b ≤ a := Nat.div_le_self a b
  apply Int32.toInt_inj.mp
  rw [Int32.toInt_div, nI_toInt ha, nI_toInt hb, nI_toInt (by omega), Int.tdiv_eq_ediv_of_nonneg (by omega)]
  have e : (a : Int) / (b : Int) = ((a / b : Nat) : Int) := by rw [Int.natCast_ediv]
  rw [e]
  generalize a / b = q at hd ⊢
  exact Int.bmod_eq_of_le (by omega) (by omega)
section GCD
variable {X : hf_X} {d kk nn t : Nat} {T : hf_T} {J : hf_I} {L : hf_L} {P : hf_P} {Q : Option Value → hf_M → Prop}
theorem cs_powerOfTen {p : Nat} (hs : hf_Lay t T P) (hp : p ≤ 6) (h : Q (some (.int (nI (10 ^ p)))) (t, T, J, L, P)) : hf_G X Y_X11_powerOfTen d kk nn 0 (hf_en [.int (nI p)] 3) [] (t, T, J, L, P) Q := by
  have loop : ∀ f i, i + f = p → hf_G X Y_X11_powerOfTen d kk nn 4 [some (.int (nI p)), some (.int (nI (10 ^ i))), some (.int (nI i))] [] (t, T, J, L, P) Q := by
    intro f
    induction f with
    | zero =>
      intro i hi
      obtain rfl : i = p := by omega
      exact w_X11_powerOfTen_4 hs ⟨fun _ => h, fun z => absurd (Int32.le_refl _) z⟩
    | succ f ih =>
      intro i hi
      have key := ih (i + 1) (by omega)
      rw [Nat.pow_succ, ← pk_mul, ← nI_1 i] at key
      exact w_X11_powerOfTen_4 hs ⟨fun z => absurd z (nI_ge (by omega) (by omega)), fun _ => key⟩
  exact w_X11_powerOfTen_0 hs (loop p 0 (by omega))
theorem cs_commonDivisor {a b : Nat} (hs : hf_Lay t T P) (hab : a ≤ b) (hb0 : 0 < b) (hb : b ≤ 1000000) (h : Q (some (.int (nI (Nat.gcd a b)))) (t, T, J, L, P)) : hf_G X Y_X11_commonDivisor (d + 1) kk nn 0 (hf_en [.int (nI a), .int (nI b)] 6) [] (t, T, J, L, P) Q := by
  have out : ∀ g, 1 ≤ g → g ≤ 1000000 → (if 1 < nI g then nI g else 1) = nI g := by
    intro g g1 g2
    by_cases e : 1 < g
    · have q : (1 : Int32) < nI g := nI_lt (a := 1) e (by omega)
      rw [if_pos q]
    · have q : ¬ (1 : Int32) < nI g := fun z => e ((nI_ltI (a := 1) (by omega) (by omega)).mp z)
      rw [if_neg q]
      obtain rfl : g = 1 := by omega
      rfl
  have rem : ∀ x y, 0 < y → x ≤ 1000000 → y ≤ 1000000 → nI x - nI x / nI y * nI y = nI (x % y) := by
    intro x y y0 hx hy
    have hle : x / y * y ≤ x := Nat.div_mul_le_self x y
    rw [nI_dv (by omega) y0 (by omega), pk_mul, nI_su hle]
    congr 1
    have := Nat.mod_add_div x y
    rw [Nat.mul_comm y] at this
    omega
  have loop : ∀ f i x y, i + f = 64 → 1 ≤ i → y < x → x ≤ 1000000 → x * y * 2 ^ i ≤ 2000000000000 → Nat.gcd x y = Nat.gcd a b → hf_G X Y_X11_commonDivisor (d + 1) kk nn 7 [none, none, some (.int (nI x)), some (.int (nI y)), some (.int (nI i)), none] [] (t, T, J, L, P) Q := by
    intro f
    induction f with
    | zero =>
      intro i x y hi i1 hyx hx hP hg
      obtain rfl : i = 64 := by omega
      have y0 : y = 0 := by
        rcases Nat.eq_zero_or_pos y with z | z
        · exact z
        · exfalso
          have : 1 * 1 ≤ x * y := Nat.mul_le_mul (by omega) z
          have h2 : 1 * 2 ^ 64 ≤ x * y * 2 ^ 64 := Nat.mul_le_mul_right _ (by omega)
          have h3 : (2 : Nat) ^ 64 = 18446744073709551616 := by decide
          omega
      rw [y0, Nat.gcd_zero_right] at hg
      refine w_X11_commonDivisor_7 hs ⟨fun _ => ?_, fun z => absurd (by decide) z⟩
      rw [out x (by omega) hx, hg]
      exact h
    | succ f ih =>
      intro i x y hi i1 hyx hx hP hg
      refine w_X11_commonDivisor_7 hs ⟨fun z => absurd ((nI_leI (a := 64) (by omega) (by omega)).mp z) (by omega), fun _ => ⟨fun z => ?_, fun z => ⟨z, ?_⟩⟩⟩
      · have y0 : y = 0 := (nI_eq (b := 0) (by omega) (by omega)).mp z
        rw [y0, Nat.gcd_zero_right] at hg
        rw [out x (by omega) hx, hg]
        exact h
      · have y0 : 0 < y := by
          rcases Nat.eq_zero_or_pos y with q | q
          · rw [q] at z; exact absurd rfl z
          · exact q
        rw [rem x y y0 hx (by omega), nI_1]
        have ml := Nat.mod_lt x y0
        have half : 2 * (x % y) ≤ x := by
          have h1 := Nat.mod_add_div x y
          have h2 : 1 ≤ x / y := Nat.div_pos (by omega) y0
          have h3 : y * 1 ≤ y * (x / y) := Nat.mul_le_mul_left _ h2
          omega
        refine ih (i + 1) y (x % y) (by omega) (by omega) ml (by omega) ?_ ?_
        · rw [Nat.pow_succ]
          have h4 : y * (2 * (x % y)) * 2 ^ i ≤ y * x * 2 ^ i := Nat.mul_le_mul_right _ (Nat.mul_le_mul_left _ half)
          have h5 : y * (x % y) * (2 ^ i * 2) = y * (2 * (x % y)) * 2 ^ i := by ac_rfl
          rw [h5]
          rw [Nat.mul_comm y x] at h4
          omega
        · rw [← hg, Nat.gcd_comm y, ← Nat.gcd_rec, Nat.gcd_comm]
  refine w_X11_commonDivisor_0 hs ?_
  refine w_X11_commonDivisor_7 hs ⟨fun z => absurd z (by decide), fun _ => ⟨fun z => ?_, fun z => ⟨z, ?_⟩⟩⟩
  · have := (nI_eq (b := 0) (by omega) (by omega)).mp z
    omega
  · rw [rem a b hb0 (by omega) hb]
    have ml := Nat.mod_lt a hb0
    refine loop 63 1 b (a % b) (by omega) (by omega) ml hb ?_ ?_
    · have h1 : b * (a % b) ≤ 1000000 * 1000000 := Nat.mul_le_mul hb (by omega)
      have h2 : b * (a % b) * 2 ^ 1 ≤ 1000000 * 1000000 * 2 ^ 1 := Nat.mul_le_mul_right _ h1
      omega
    · rw [Nat.gcd_comm b, ← Nat.gcd_rec, Nat.gcd_comm]
end GCD
section MTRUE
variable {X : hf_X} {d kk nn t : Nat} {T : hf_T} {J : hf_I} {L : hf_L} {P : hf_P} {Q : Option Value → hf_M → Prop}
def hf_ol (pr : Nat → Nat) (x : Option Nat) : Int64 := match x with
  | none => -1
  | some r => lN (pr r)
theorem ms_tens {p y : Nat} (hs : hf_Lay t T P) (hp : p ≤ 6) (h317 : J 158 317 = nI p) (h : hf_G X Y_X12_truest (d + 1) kk nn 62 [some (.ref 156), some (.int (nI y)), some (.int (-1)), some (.long (-1)), none, some (.long (lN (10 ^ p))), none, some (.int 0), none, none, none] [] (t, T, J, L, P) Q) : hf_G X Y_X12_truest (d + 1) kk nn 24 [some (.ref 156), some (.int (nI y)), none, none, none, none, none, none, none, none, none] [] (t, T, J, L, P) Q := by
  have loop : ∀ f i, i + f = p → hf_G X Y_X12_truest (d + 1) kk nn 36 [some (.ref 156), some (.int (nI y)), some (.int (-1)), some (.long (-1)), none, some (.long (lN (10 ^ i))), none, some (.int (nI i)), none, none, none] [] (t, T, J, L, P) Q := by
    intro f
    induction f with
    | zero =>
      intro i hi
      obtain rfl : i = p := by omega
      exact w_X12_truest_36 hs ⟨fun _ => h, fun z => absurd (by rw [h317]; exact Int32.le_refl _) z⟩
    | succ f ih =>
      intro i hi
      have key := ih (i + 1) (by omega)
      rw [Nat.pow_succ, ← lN_mul, ← nI_1] at key
      exact w_X12_truest_36 hs ⟨fun z => absurd z (by rw [h317]; exact nI_ge (by omega) (by omega)), fun _ => key⟩
  exact w_X12_truest_24 hs (loop p 0 (by omega))
theorem ms_truest {p LN bl hairs R y : Nat} {len : Nat → Nat} {opt : Nat → Nat → Nat} {wn : Nat → Nat} {ls : Nat → Int32} {cls : List gr_c1} {tr : Nat → Nat} (hs : hf_Lay t T P) (hlw : lw_m J cls) (hk : ro_ok J p LN bl len opt wn ls) (htr : ∀ x, tr x ≤ 10) (hK : ∀ j k, j < p → k < len j → J 158 (53 + 13 * opt j k + 2) = nI (tr (opt j k))) (h36 : J 156 36 = nI R) (hR : R < 2 ^ 30) (h313 : J 158 313 = nI hairs) (hh : hairs ≤ 400) (hy : y ≤ 14)
    (h : ∀ J' v, fo_fr J J' → (fz_tb (ft_k p LN bl hairs len opt wn) (fun r => fz_pr tr (ro_wd p len opt r) p) R = none → v = -1) → (∀ r, fz_tb (ft_k p LN bl hairs len opt wn) (fun r => fz_pr tr (ro_wd p len opt r) p) R = some r → (y = 0 → v = nI (fz_pr tr (ro_wd p len opt r) p / Nat.gcd (fz_pr tr (ro_wd p len opt r) p) (10 ^ p))) ∧ (y = 1 → v = nI (10 ^ p / Nat.gcd (fz_pr tr (ro_wd p len opt r) p) (10 ^ p))) ∧ (y = 2 → v = ft_c cls (J 158) p bl len opt wn ls r) ∧ (3 ≤ y → (y < 9 → y - 3 < p → v = nI (ro_wd p len opt r (y - 3))) ∧ (9 ≤ y → y - 9 < p → v = nI (if ro_tn p r (y - 9) = true then 1 else 0)) ∧ ((y < 9 ∧ p ≤ y - 3) ∨ (9 ≤ y ∧ p ≤ y - 9) → v = -1))) → Q (some (.int v)) (t, T, J', L, P)) :
    hf_G X Y_X12_truest (d + 611) kk nn 24 [some (.ref 156), some (.int (nI y)), none, none, none, none, none, none, none, none, none] [] (t, T, J, L, P) Q := by
  generalize hok : ft_k p LN bl hairs len opt wn = ok at h
  generalize hpr : (fun r => fz_pr tr (ro_wd p len opt r) p) = pr at h
  have p6 := hk.1.2.1
  have p1 := hk.1.1
  have LN4 := hk.1.2.2.1
  have t6 : 10 ^ p ≤ 10 ^ 6 := Nat.pow_le_pow_right (by omega) p6
  have t66 : (10 : Nat) ^ 6 = 1000000 := by decide
  have t0 : 0 < 10 ^ p := Nat.pow_pos (by omega)
  have prb : ∀ r, pr r ≤ 1000000 := by
    intro r
    rw [← hpr]
    have := fz_pr_le (w := ro_wd p len opt r) htr p
    dsimp only
    omega
  have e0 : (nI y = 0) ↔ y = 0 := nI_eq (b := 0) (by omega) (by omega)
  have e2 : (nI y = 2) ↔ y = 2 := nI_eq (b := 2) (by omega) (by omega)
  have e2l : (nI y ≤ 2) ↔ y ≤ 2 := nI_leI (b := 2) (by omega) (by omega)
  -- what the row that stands open costs
  have cost : ∀ (r : Nat) (J' : hf_I) (Q' : Option Value → hf_M → Prop), fo_fr J J' → ro_at J' p bl len opt wn r → ro_n p r ≤ 4 → (∀ J3, fo_fr J J3 → Q' (some (.int (ft_c cls (J 158) p bl len opt wn ls r))) (t, T, J3, L, P)) → hf_G X Y_X12_costOfRow (d + 610) 0 0 0 (hf_en [.ref 156] 6) [] (t, T, J', L, P) Q' := by
    intro r J' Q' fr a n4 hQ
    have k2 := fo_ok hk fr
    have e158' : J' 158 = J 158 := fr.1 158 (by omega) (by omega) (by omega) (by omega) (by omega) (by omega)
    refine ms_costOfRow (d := d) (p := p) (n := ro_n p r) (rw := ro_wd p len opt r) (fr := ro_f p r) (bd := ro_bd p bl len opt wn r) (ls := ls) hs (lw_m_fr hlw e158') p6 k2.2.1 n4 a.2.1 (fun i hi => ?_) (fun l hl' => ⟨a.2.2.2 l hl', ?_⟩) (fun l hl' => (ro_f_inc hl').1) a.2.2.1 fun J3 f3 => ?_
    · obtain ⟨l1, l2, l3⟩ := k2.2.2.2.2.2.1 i hi
      obtain ⟨o1, o2, o3, o4⟩ := k2.2.2.2.2.2.2 i (op_d len p (r / 2 ^ (p - 1)) i) hi (Nat.mod_lt _ (by omega))
      exact ⟨(a.1 i hi).1, o2, o4⟩
    · by_cases e : l = ro_n p r
      · unfold ro_f; rw [if_pos e]; exact Nat.le_refl _
      · exact Nat.le_of_lt (ro_f_inc (show l < ro_n p r by omega)).2
    · rw [e158']
      exact hQ J3 (fo_jm fr f3)
  have loop : ∀ f r, r + f = R → ∀ J', fo_fr J J' → hf_G X Y_X12_truest (d + 611) kk nn 62 [some (.ref 156), some (.int (nI y)), some (.int (hf_on (fz_tb ok pr r))), some (.long (hf_ol pr (fz_tb ok pr r))), none, some (.long (lN (10 ^ p))), none, some (.int (nI r)), none, none, none] [] (t, T, J', L, P) Q := by
    intro f
    induction f with
    | zero =>
      intro r hr J' fr
      obtain rfl : r = R := by omega
      have tP := fz_tb_P (ok := ok) (pr := pr) r
      cases hb : fz_tb ok pr r with
      | none =>
        refine w_X12_truest_62 (d := d + 610) hs ⟨fun _ => ⟨fun z => absurd rfl z, fun _ => h J' _ fr (fun _ => rfl) (fun r' hr' => by rw [hb] at hr'; cases hr')⟩, fun q => absurd (by rw [fr.2 36 (by omega) (by omega), h36]; exact nI_le (Nat.le_refl _) (by omega)) q⟩
      | some b =>
        rw [hb] at tP
        obtain ⟨bR, bok, -⟩ := tP
        have bn : ro_n p b ≤ 4 := by
          rw [← hok] at bok
          unfold ft_k at bok
          rw [Bool.and_eq_true, decide_eq_true_eq] at bok
          omega
        have epb : fz_pr tr (ro_wd p len opt b) p = pr b := by rw [← hpr]
        have gpos : 0 < Nat.gcd (pr b) (10 ^ p) := Nat.gcd_pos_of_pos_right _ t0
        have gle : Nat.gcd (pr b) (10 ^ p) ≤ 10 ^ p := Nat.le_of_dvd t0 (Nat.gcd_dvd_right _ _)
        have gnz : ¬ lN (Nat.gcd (pr b) (10 ^ p)) = 0 := fun z => by have := (lN_zero (by omega)).mp z; omega
        have pb := prb b
        refine w_X12_truest_62 (d := d + 610) hs ⟨fun _ => ⟨fun _ => ⟨fun q => ?_, fun q => ?_⟩, fun z => absurd z (hf_nm1 (by omega))⟩, fun q => absurd (by rw [fr.2 36 (by omega) (by omega), h36]; exact nI_le (Nat.le_refl _) (by omega)) q⟩
        · have y2 := e2l.mp q
          refine ms_open (d := d + 609) hs (fo_ok hk fr) (show b < 2 ^ 30 by omega) fun J2 f2 a => w_X12_truest_183 (d := d + 610) hs ⟨fun q2 => ⟨fun q0 => ?_, fun q0 => ?_⟩, fun q2 => ?_⟩
          · refine ms_common hs (by omega) (by omega) (w_X12_truest_212 hs ⟨gnz, ?_⟩)
            rw [lN_div (by omega) gpos (by omega), lN_i]
            refine h J2 _ (fo_on fr f2) (fun z => by rw [hb] at z; cases z) (fun r' hr' => ?_)
            rw [hb] at hr'
            cases hr'
            rw [epb]
            exact ⟨fun z => absurd (e0.mpr z) q0, fun _ => rfl, fun z => absurd (e2.mpr z) q2, fun z => by omega⟩
          · refine ms_common hs (by omega) (by omega) (w_X12_truest_212 hs ⟨gnz, ?_⟩)
            show Q (some (.int ((lN (pr b) / lN (Nat.gcd (pr b) (10 ^ p))).toInt32))) _
            rw [lN_div (by omega) gpos (by omega), lN_i]
            refine h J2 _ (fo_on fr f2) (fun z => by rw [hb] at z; cases z) (fun r' hr' => ?_)
            rw [hb] at hr'
            cases hr'
            rw [epb]
            exact ⟨fun _ => rfl, fun z => by have := e0.mp q0; omega, fun z => absurd (e2.mpr z) q2, fun z => by omega⟩
          · refine cost b J2 _ (fo_on fr f2) a bn fun J3 f3 => w_X12_truest_193 hs (h J3 _ f3 (fun z => by rw [hb] at z; cases z) (fun r' hr' => ?_))
            rw [hb] at hr'
            cases hr'
            have := e2.mp q2
            exact ⟨fun z => by omega, fun z => by omega, fun _ => rfl, fun z => by omega⟩
        · have y3 : 3 ≤ y := by
            have : ¬ y ≤ 2 := fun z => q (e2l.mpr z)
            omega
          refine ms_tellsRow (d := d + 608) hs (fo_ok hk fr) (show b < 2 ^ 30 by omega) y3 hy fun J2 v f2 v1 v2 v3 => w_X12_truest_177 hs (h J2 v (fo_on fr f2) (fun z => by rw [hb] at z; cases z) (fun r' hr' => ?_))
          rw [hb] at hr'
          cases hr'
          exact ⟨fun z => by omega, fun z => by omega, fun z => by omega, fun _ => ⟨v1, v2, v3⟩⟩
    | succ f ih =>
      intro r hr J' fr
      have key := fun J' fr => ih (r + 1) (by omega) J' fr
      have k' := fo_ok hk fr
      have ekr : ok r = (decide (ro_n p r ≤ LN) && decide (lb_m (ro_bd p bl len opt wn r) (ro_n p r) ≤ hairs)) := by rw [← hok]; rfl
      refine w_X12_truest_62 (d := d + 610) hs ⟨fun q => absurd q (by rw [fr.2 36 (by omega) (by omega), h36]; exact nI_ge (by omega) (by omega)), fun _ => ?_⟩
      refine ms_open (d := d + 609) hs k' (by omega) fun J2 f2 a => ?_
      have fr2 := fo_on fr f2
      have k2 := fo_ok hk fr2
      have e158' : J2 158 = J 158 := fr2.1 158 (by omega) (by omega) (by omega) (by omega) (by omega) (by omega)
      have skip : ok r = false → hf_G X Y_X12_truest (d + 611) kk nn 62 [some (.ref 156), some (.int (nI y)), some (.int (hf_on (fz_tb ok pr r))), some (.long (hf_ol pr (fz_tb ok pr r))), none, some (.long (lN (10 ^ p))), none, some (.int (nI r + 1)), none, none, none] [] (t, T, J2, L, P) Q := by
        intro ho
        have := key J2 fr2
        rw [fz_tb, if_neg (by rw [ho]; simp), ← nI_1 r] at this
        exact this
      by_cases hl : LN < ro_n p r
      · rw [if_pos hl]
        exact w_X12_truest_77 (d := d + 610) hs ⟨fun _ => skip (by rw [ekr, decide_eq_false (by omega), Bool.false_and]), fun q => absurd rfl q⟩
      · rw [if_neg hl]
        obtain ⟨b1, b2⟩ := ms_broad (X := X) (d := d + 609) (kk := 0) (nn := 0) (L := L) (Q := fun r_1 M => hf_G X Y_X12_truest (d + 611) kk nn 84 [some (.ref 156), some (.int (nI y)), some (.int (hf_on (fz_tb ok pr r))), some (.long (hf_ol pr (fz_tb ok pr r))), none, some (.long (lN (10 ^ p))), none, some (.int (nI r)), none, none, none] (r_1.toList ++ []) M Q) hs k2 a
        refine w_X12_truest_77 (d := d + 610) hs ⟨fun q => absurd q (by decide), fun _ => b2 (w_X12_truest_84 hs ?_)⟩
        rw [e158', h313]
        refine ⟨fun q => ?_, fun q => ?_⟩
        · have q' := (nI_leI (show lb_m (ro_bd p bl len opt wn r) (ro_n p r) < 2 ^ 31 by omega) (show hairs < 2 ^ 31 by omega)).mp q
          have okr : ok r = true := by rw [ekr, Bool.and_eq_true, decide_eq_true_eq, decide_eq_true_eq]; exact ⟨by omega, q'⟩
          -- the product
          have prod : ∀ g i, i + g = p → hf_G X Y_X12_truest (d + 611) kk nn 104 [some (.ref 156), some (.int (nI y)), some (.int (hf_on (fz_tb ok pr r))), some (.long (hf_ol pr (fz_tb ok pr r))), none, some (.long (lN (10 ^ p))), none, some (.int (nI r)), some (.long (lN (fz_pr tr (ro_wd p len opt r) i))), none, some (.int (nI i))] [] (t, T, J2, L, P) Q := by
            intro g
            induction g with
            | zero =>
              intro i hi
              obtain rfl : i = p := by omega
              have epr : fz_pr tr (ro_wd i len opt r) i = pr r := by rw [← hpr]
              have prr := prb r
              have nxt := key J2 fr2
              rw [fz_tb, if_pos okr, ← nI_1 r] at nxt
              rw [epr]
              refine w_X12_truest_104 (d := d + 610) hs ⟨fun _ => ?_, fun z => absurd (by rw [e158', ← e158', k2.2.1]; exact Int32.le_refl _) z⟩
              rw [lg_cmp_gt]
              cases hb : fz_tb ok pr r with
              | none =>
                rw [hb] at nxt
                refine ⟨fun _ => nxt, fun z => absurd ?_ z⟩
                show (-1 : Int64) < lN (pr r)
                rw [Int64.lt_iff_toInt_lt, lN_I (by omega), show (-1 : Int64).toInt = -1 by decide]
                omega
              | some b =>
                rw [hb] at nxt
                have pb := prb b
                have el : hf_ol pr (some b) < lN (pr r) ↔ pr b < pr r := lN_L (by omega) (by omega)
                dsimp only at nxt
                refine ⟨fun z => ?_, fun z => ?_⟩
                · rw [if_pos (el.mp z)] at nxt
                  exact nxt
                · rw [if_neg (fun q => z (el.mpr q))] at nxt
                  exact nxt
            | succ g ihg =>
              intro i hi
              have nxt := ihg (i + 1) (by omega)
              obtain ⟨l1, l2, l3⟩ := k2.2.2.2.2.2.1 i (by omega)
              have dl : op_d len p (r / 2 ^ (p - 1)) i < len i := Nat.mod_lt _ (by omega)
              obtain ⟨o1, o2, -⟩ := k2.2.2.2.2.2.2 i _ (by omega) dl
              have o2' : ro_wd p len opt r i < 16 := o2
              have hK' : J 158 (53 + 13 * ro_wd p len opt r i + 2) = nI (tr (ro_wd p len opt r i)) := hK i _ (by omega) dl
              have ht := htr (ro_wd p len opt r i)
              rw [fz_pr, ← lN_mul, ← nI_1] at nxt
              refine w_X12_truest_104 (d := d + 610) hs ⟨fun z => absurd z (by rw [k2.2.1]; exact nI_ge (by omega) (by omega)), fun _ => ?_⟩
              rw [nI_clamp (show i < 2 ^ 31 by omega), (a.1 i (by omega)).1, hf_wi2, nI_clamp (show 53 + 13 * ro_wd p len opt r i + 2 < 2 ^ 31 by omega), e158', hK', nI_l (by omega)]
              exact ⟨vp_in_nI (by omega) (by omega), vp_in_nI (by omega) (by omega), nxt⟩
          exact prod p 0 (by omega)
        · refine skip ?_
          rw [ekr, decide_eq_false (show ¬ lb_m (ro_bd p bl len opt wn r) (ro_n p r) ≤ hairs from fun z => q (nI_le z (by omega))), Bool.and_false]
  exact ms_tens (d := d + 610) hs p6 hk.2.1 (loop R 0 (by omega) J fo_rf)
end MTRUE
