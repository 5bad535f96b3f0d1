/-! fit, by the model -/
def ft_k (p LN bl hairs : Nat) (len : Nat → Nat) (opt : Nat → Nat → Nat) (wn : Nat → Nat) (r : Nat) : Bool := decide (ro_n p r ≤ LN) && decide (lb_m (ro_bd p bl len opt wn r) (ro_n p r) ≤ hairs)
def ft_c (cls : List gr_c1) (K : Nat → Int32) (p bl : Nat) (len : Nat → Nat) (opt : Nat → Nat → Nat) (wn : Nat → Nat) (ls : Nat → Int32) (r : Nat) : Int32 := ro_t cls K (ro_wd p len opt r) (ro_f p r) (ro_bd p bl len opt wn r) (ro_s ls (ro_wd p len opt r) p) (ro_n p r)
def ft_B (ok : Nat → Bool) (c : Nat → Int32) : Nat → Option Nat × Int32 × Nat
  | 0 => (none, 1000000, 0)
  | r + 1 => if ok r = true then (if c r < (ft_B ok c r).2.1 then (some r, c r, (ft_B ok c r).2.2 + 1) else ((ft_B ok c r).1, (ft_B ok c r).2.1, (ft_B ok c r).2.2 + 1)) else ft_B ok c r
theorem ft_B_lt {ok : Nat → Bool} {c : Nat → Int32} : ∀ n r, (ft_B ok c n).1 = some r → r < n := by
  intro n
  induction n with
  | zero => intro r h; cases h
  | succ n ih =>
    intro r h
    rw [ft_B] at h
    split at h
    · split at h
      · cases h; omega
      · have := ih r h; omega
    · have := ih r h; omega
section MFIT
variable {X : hf_X} {d kk nn t : Nat} {T : hf_T} {J : hf_I} {L : hf_L} {P : hf_P} {Q : Option Value → hf_M → Prop}
/-- how broad an open row is -/
theorem ms_broad {J' : hf_I} {p LN bl r : Nat} {len : Nat → Nat} {opt : Nat → Nat → Nat} {wn : Nat → Nat} {ls : Nat → Int32} (hs : hf_Lay t T P) (hk : ro_ok J p LN bl len opt wn ls) (ha : ro_at J' p bl len opt wn r) : lb_m (ro_bd p bl len opt wn r) (ro_n p r) ≤ 2400 ∧ (Q (some (.int (nI (lb_m (ro_bd p bl len opt wn r) (ro_n p r))))) (t, T, J', L, P) → hf_G X Y_X12_broadest (d + 1) kk nn 0 (hf_en [.ref 156] 3) [] (t, T, J', L, P) Q) := by
  obtain ⟨⟨g1, g2, g3, g4, g5⟩, -⟩ := hk
  obtain ⟨c1, -⟩ := lb_op (m := fun i => wn (ro_wd p len opt r i)) (tn := ro_tn p r) (bl := bl) p
  have vb := (lb_le (m := fun i => wn (ro_wd p len opt r i)) (tn := ro_tn p r) g4 (fun i => g5 _) p).1
  have c2 : lb_m (ro_bd p bl len opt wn r) (ro_n p r) = (lb_r (fun i => wn (ro_wd p len opt r i)) (ro_tn p r) bl p).1 := c1
  have mono : ∀ (g : Nat → Nat) (a b : Nat), a ≤ b → lb_m g a ≤ lb_m g b := by
    intro g a b hab
    induction b with
    | zero =>
      obtain rfl : a = 0 := by omega
      exact Nat.le_refl _
    | succ b ihb =>
      by_cases q : a = b + 1
      · subst q; exact Nat.le_refl _
      · have := ihb (by omega)
        rw [lb_m]
        omega
  have n1 : ro_n p r ≤ p := (op_n_le (tn := ro_tn p r) p).1
  refine ⟨by rw [c2]; omega, fun hQ => ms_broadest hs (by omega) ha.2.1 ha.2.2.1 (fun n hn => ?_) hQ⟩
  have := mono (ro_bd p bl len opt wn r) n _ hn
  omega
theorem ms_fit {p LN bl hairs R y : Nat} {len : Nat → Nat} {opt : Nat → Nat → Nat} {wn : Nat → Nat} {ls : Nat → Int32} {cls : List gr_c1} (hs : hf_Lay t T P) (hlw : lw_m J cls) (hk : ro_ok J p LN bl len opt wn ls) (h36 : J 156 36 = nI R) (hR : R < 2 ^ 30) (h313 : J 158 313 = nI hairs) (hh : hairs ≤ 400) (hy : y ≤ 14)
    (h : ∀ J' v, fo_fr J J' → (y = 1 → v = nI (ft_B (ft_k p LN bl hairs len opt wn) (ft_c cls (J 158) p bl len opt wn ls) R).2.2) → (¬ y = 1 → (ft_B (ft_k p LN bl hairs len opt wn) (ft_c cls (J 158) p bl len opt wn ls) R).1 = none → v = -1) → (∀ r, (ft_B (ft_k p LN bl hairs len opt wn) (ft_c cls (J 158) p bl len opt wn ls) R).1 = some r → (y = 0 → v = (ft_B (ft_k p LN bl hairs len opt wn) (ft_c cls (J 158) p bl len opt wn ls) R).2.1) ∧ (y = 2 → v = nI (ro_n p r)) ∧ (3 ≤ y → (y < 9 → y - 3 < p → v = nI (ro_wd p len opt r (y - 3))) ∧ (9 ≤ y → y - 9 < p → v = nI (if ro_tn p r (y - 9) = true then 1 else 0)) ∧ ((y < 9 ∧ p ≤ y - 3) ∨ (9 ≤ y ∧ p ≤ y - 9) → v = -1))) → Q (some (.int v)) (t, T, J', L, P)) :
    hf_G X Y_X12_fit (d + 611) kk nn 31 [some (.ref 156), some (.int (nI y)), none, none, none, none, none] [] (t, T, J, L, P) Q := by
  generalize hok : ft_k p LN bl hairs len opt wn = ok at h
  generalize hc : ft_c cls (J 158) p bl len opt wn ls = c at h
  have e1 : (nI y = 1) ↔ y = 1 := nI_eq (b := 1) (by omega) (by omega)
  have e0 : (nI y = 0) ↔ y = 0 := nI_eq (b := 0) (by omega) (by omega)
  have e2 : (nI y ≤ 2) ↔ y ≤ 2 := nI_leI (b := 2) (by omega) (by omega)
  have loop : ∀ f r, r + f = R → ∀ J', fo_fr J J' → hf_G X Y_X12_fit (d + 611) kk nn 42 [some (.ref 156), some (.int (nI y)), some (.int (hf_on (ft_B ok c r).1)), some (.int (ft_B ok c r).2.1), some (.int (nI (ft_B ok c r).2.2)), some (.int (nI r)), none] [] (t, T, J', L, P) Q := by
    intro f
    induction f with
    | zero =>
      intro r hr J' fr
      obtain rfl : r = R := by omega
      have bl' := ft_B_lt (ok := ok) (c := c) r
      refine w_X12_fit_42 hs ⟨fun _ => ⟨fun q => ⟨fun z => absurd q z, fun _ => ?_⟩, fun q => ?_⟩, fun q => absurd (by rw [fr.2 36 (by omega) (by omega), h36]; exact nI_le (Nat.le_refl _) (by omega)) q⟩
      · have q' := e1.mp q
        exact h J' _ fr (fun _ => rfl) (fun z => absurd q' z) (fun r _ => ⟨fun z => by omega, fun z => by omega, fun z => by omega⟩)
      · have q' : ¬ y = 1 := fun z => q (e1.mpr z)
        cases hb : (ft_B ok c r).1 with
        | none =>
          exact ⟨fun z => absurd rfl z, fun _ => ⟨fun _ => h J' _ fr (fun z => absurd z q') (fun _ _ => rfl) (fun r' hr' => by rw [hb] at hr'; cases hr'), fun z => absurd z q⟩⟩
        | some b =>
          have bR := bl' b hb
          refine ⟨fun _ => ⟨fun q0 => ⟨fun q2 => ?_, fun q2 => ?_⟩, fun q0 => ?_⟩, fun z => absurd z (hf_nm1 (by omega))⟩
          · have y2 : y = 2 := by
              have := e2.mp q2
              have : ¬ y = 0 := fun z => q0 (e0.mpr z)
              omega
            refine ms_open (d := d + 609) hs (fo_ok hk fr) (by omega) fun J2 f2 a => w_X12_fit_153 hs ?_
            rw [a.2.1]
            refine h J2 _ (fo_on fr f2) (fun z => absurd z q') (fun _ z => by rw [hb] at z; cases z) (fun r' hr' => ?_)
            rw [hb] at hr'
            cases hr'
            exact ⟨fun z => by omega, fun _ => rfl, fun z => by omega⟩
          · have y3 : 3 ≤ y := by
              have : ¬ y ≤ 2 := fun z => q2 (e2.mpr z)
              omega
            refine ms_tellsRow (d := d + 608) hs (fo_ok hk fr) (show b < 2 ^ 30 by omega) y3 hy fun J2 v f2 v1 v2 v3 => w_X12_fit_147 hs (h J2 v (fo_on fr f2) (fun z => absurd z q') (fun _ z => by rw [hb] at z; cases z) (fun r' hr' => ?_))
            rw [hb] at hr'
            cases hr'
            exact ⟨fun z => by omega, fun z => by omega, fun _ => ⟨v1, v2, v3⟩⟩
          · have y0 := e0.mp q0
            refine h J' _ fr (fun z => absurd z q') (fun _ z => by rw [hb] at z; cases z) (fun r' _ => ⟨fun _ => rfl, fun z => by omega, fun z => by omega⟩)
    | succ f ih =>
      intro r hr J' fr
      have key := fun J' fr => ih (r + 1) (by omega) J' fr
      have k' := fo_ok hk fr
      have e158 : J' 158 = J 158 := fr.1 158 (by omega) (by omega) (by omega) (by omega) (by omega) (by omega)
      have ekr : ok r = (decide (ro_n p r ≤ LN) && decide (lb_m (ro_bd p bl len opt wn r) (ro_n p r) ≤ hairs)) := by rw [← hok]; rfl
      refine w_X12_fit_42 hs ⟨fun q => absurd q (by rw [fr.2 36 (by omega) (by omega), h36]; exact nI_ge (by omega) (by omega)), fun _ => ?_⟩
      refine ms_open (d := d + 609) hs k' (by omega) fun J2 f2 a => ?_
      have fr2 := fo_on fr f2
      have k2 := fo_ok hk fr2
      have e158' : J2 158 = J 158 := fr2.1 158 (by omega) (by omega) (by omega) (by omega) (by omega) (by omega)
      have p6 := hk.1.2.1
      have n1 : ro_n p r ≤ p := (op_n_le (tn := ro_tn p r) p).1
      by_cases hl : LN < ro_n p r
      · rw [if_pos hl]
        have := key J2 fr2
        rw [ft_B, if_neg (by rw [ekr, Bool.and_eq_true, decide_eq_true_eq]; omega), ← nI_1 r] at this
        exact w_X12_fit_57 hs ⟨fun _ => this, fun q => absurd rfl q⟩
      · rw [if_neg hl]
        obtain ⟨b1, b2⟩ := ms_broad (X := X) (d := d + 609) (kk := 0) (nn := 0) (L := L) (Q := fun r_1 M => hf_G X Y_X12_fit (d + 611) kk nn 64 [some (.ref 156), some (.int (nI y)), some (.int (hf_on (ft_B ok c r).1)), some (.int (ft_B ok c r).2.1), some (.int (nI (ft_B ok c r).2.2)), some (.int (nI r)), none] (r_1.toList ++ []) M Q) hs k2 a
        refine w_X12_fit_57 hs ⟨fun q => absurd q (by decide), fun _ => b2 (w_X12_fit_64 hs ?_)⟩
        rw [e158', h313]
        refine ⟨fun q => ?_, fun q => ?_⟩
        · have q' := (nI_leI (show lb_m (ro_bd p bl len opt wn r) (ro_n p r) < 2 ^ 31 by omega) (show hairs < 2 ^ 31 by omega)).mp q
          have okr : ok r = true := by rw [ekr, Bool.and_eq_true, decide_eq_true_eq, decide_eq_true_eq]; exact ⟨by omega, q'⟩
          have LN4 := hk.1.2.2.1
          refine ms_costOfRow (d := d) (p := p) (n := ro_n p r) (rw := ro_wd p len opt r) (fr := ro_f p r) (bd := ro_bd p bl len opt wn r) (ls := ls) hs (lw_m_fr hlw e158') p6 k2.2.1 (by omega) a.2.1 (fun i hi => ?_) (fun l hl' => ⟨a.2.2.2 l hl', ?_⟩) (fun l hl' => (ro_f_inc hl').1) a.2.2.1 fun J3 f3 => w_X12_fit_85 hs ?_
          · obtain ⟨l1, l2, l3⟩ := k2.2.2.2.2.2.1 i hi
            obtain ⟨o1, o2, o3, o4⟩ := k2.2.2.2.2.2.2 i (op_d len p (r / 2 ^ (p - 1)) i) hi (Nat.mod_lt _ (by omega))
            exact ⟨(a.1 i hi).1, o2, o4⟩
          · by_cases e : l = ro_n p r
            · unfold ro_f; rw [if_pos e]; exact Nat.le_refl _
            · exact Nat.le_of_lt (ro_f_inc (show l < ro_n p r by omega)).2
          · have := key J3 (fo_jm fr2 f3)
            rw [ft_B, if_pos okr, ← nI_1 r] at this
            rw [e158', nI_1 (ft_B ok c r).2.2]
            have ec : ro_t cls (J 158) (ro_wd p len opt r) (ro_f p r) (ro_bd p bl len opt wn r) (ro_s ls (ro_wd p len opt r) p) (ro_n p r) = c r := by rw [← hc]; rfl
            rw [ec]
            refine ⟨fun z => ?_, fun z => ?_⟩
            · rw [if_pos z] at this
              exact this
            · rw [if_neg z] at this
              exact this
        · have q' : ¬ lb_m (ro_bd p bl len opt wn r) (ro_n p r) ≤ hairs := fun z => q (nI_le z (by omega))
          have := key J2 fr2
          rw [ft_B, if_neg (by rw [ekr, Bool.and_eq_true, decide_eq_true_eq, decide_eq_true_eq]; exact fun z => q' z.2), ← nI_1 r] at this
          exact this
  exact w_X12_fit_31 hs (loop R 0 (by omega) J fo_rf)
end MFIT
