/-! what a row costs, by the class, out of its key -/
theorem fz_ls_le {G : fz_X} {w : Nat → Nat} {s : Nat} (h : ∀ x, gwn G x ≤ 360) : ∀ n, fz_ls G w s n ≤ 360 * n := by
  intro n
  induction n with
  | zero => exact Nat.le_refl _
  | succ n ih =>
    rw [fz_ls]
    have := h (w (s + n))
    omega
section RCOST
variable {X : hf_X} {d t : Nat} {T : hf_T} {P : hf_P} {G : fz_X} {p : Nat} {cls : List gr_c1} {w : Nat → Nat} {x1 : Int64}
theorem cs_rowLineCost {kk nn s e ln : Nat} {x6 : Int32} {ak : Bool} {J : hf_I} {L : hf_L} {Q : Option Value → hf_M → Prop} (hs : hf_Lay t T P) (hk : cv_ok t T P J G p cls) (hw : ∀ j, j < p → (x1 >>> ((6 + (4 * (5 - nI j))).toInt64 &&& 63)).toInt32 &&& 15 = nI (w j) ∧ w j < 16 ∧ J 137 (w j) = nI (gwn G (w j))) (hse : s < e) (hep : e ≤ p) (hln : ln < 4) (hak : (x6 = -1 ∧ ak = false) ∨ ∃ a, a < 16 ∧ x6 = nI a ∧ ak = gal G a (w s))
    (h : ∀ J', jc_fr J J' → Q (some (.int (nI (gC G ln ((e - s - 1) * gbl G + fz_ls G w s (e - s)) (e - s) ak (fz_le G w ln s (e - s)))))) (t, T, J', L, P)) :
    hf_G X Y_X8_rowLineCost (d + 4) kk nn 0 (hf_en [.ref 136, .long x1, .int (nI s), .int (nI e), .int (nI ln), .int x6] 11) [] (t, T, J, L, P) Q := by
  obtain ⟨⟨p1, p6, hG⟩, k9, k10, k12, k13, k140, kopt, kex, kal, klw, kC⟩ := id hk
  have b40 := hG.1.2.2.1
  have bls := fz_ls_le (w := w) (s := s) hG.2.2.2.1
  have bw : (e - s - 1) * gbl G ≤ 5 * 40 := Nat.mul_le_mul (by omega) b40
  have loop : ∀ f j, j + f = e → s ≤ j → hf_G X Y_X8_rowLineCost (d + 4) kk nn 19 [some (.ref 136), some (.long x1), none, some (.int (nI s)), some (.int (nI e)), some (.int (nI ln)), some (.int x6), some (.int (nI ((e - s - 1) * gbl G + fz_ls G w s (j - s)))), some (.int (hf_b (fz_le G w ln s (j - s)))), some (.int (nI j)), none] [] (t, T, J, L, P) Q := by
    intro f
    induction f with
    | zero =>
      intro j hj hsj
      obtain rfl : j = e := by omega
      have := bls (j - s)
      -- the LINE's cost
      have cost : hf_G X Y_X4_costOf (d + 3) 0 0 0 (hf_en [.ref 135, .int (nI ln), .int ((J 101 12) - nI ((j - s - 1) * gbl G + fz_ls G w s (j - s))), .int (nI j - nI s), .int (hf_b ak), .int (hf_b (fz_le G w ln s (j - s)))] 8) [] (t, T, J, L, P) (fun r M => hf_G X Y_X8_rowLineCost (d + 4) kk nn 139 [none, none, none, none, none, none, none, none, none, none, none] (r.toList ++ []) M Q) := by
        rw [k12, nI_su (show s ≤ j by omega)]
        refine cs_costOf hs klw fun J' f' => w_X8_rowLineCost_139 hs ?_
        rw [kC ln _ (j - s) ak _ (by omega)]
        exact h J' f'
      refine w_X8_rowLineCost_19 (d := d + 2) hs ⟨fun _ => ⟨fun z => ?_, fun z => ?_⟩, fun z => absurd (Int32.le_refl _) z⟩
      · rcases hak with ⟨-, a0⟩ | ⟨a, a1, a2, -⟩
        · rw [a0] at cost
          exact cost
        · rw [a2] at z
          exact absurd z (hf_nm1 (by omega))
      · rcases hak with ⟨a0, -⟩ | ⟨a, a1, a2, a3⟩
        · exact absurd a0 z
        · obtain ⟨w1, w2, -⟩ := hw s (by omega)
          rw [w1, a2, tp_9, tp_9, nI_clamp (show 9 * a < 2 ^ 31 by omega), nI_clamp (show 9 * w s < 2 ^ 31 by omega)]
          rw [a3, kal] at cost
          refine ⟨vp_in_nI (by omega) (by omega), vp_in_nI (by omega) (by omega), fun y => ?_, fun y => ?_⟩
          · rw [decide_eq_false y] at cost
            exact cost
          · rw [decide_eq_true y] at cost
            exact cost
    | succ f ih =>
      intro j hj hsj
      have key := ih (j + 1) (by omega) (by omega)
      obtain ⟨w1, w2, w3⟩ := hw j (by omega)
      rw [show j + 1 - s = (j - s) + 1 by omega, fz_ls, fz_le, show s + (j - s) = j by omega, ← Nat.add_assoc, ← nI_add, ← nI_1 j] at key
      refine w_X8_rowLineCost_19 (d := d + 2) hs ?_
      rw [w1, nI_clamp (show w j < 2 ^ 31 by omega), w3, nI_clamp (show ln < 2 ^ 31 by omega)]
      have v16 : vp_in (nI (w j)) 16 := vp_in_nI w2 (by omega)
      refine ⟨fun z => absurd z (nI_ge (by omega) (by omega)), fun _ => ⟨v16, fun z => ?_, fun z => ⟨vp_in_nI (by omega) (by omega), fun y => ?_, fun y => ?_⟩⟩⟩
      · have e1 : fz_le G w ln s (j - s) = true := by
          cases q : fz_le G w ln s (j - s) with
          | true => rfl
          | false => rw [q] at z; exact absurd rfl z
        rw [e1, Bool.true_or] at key
        exact key
      · have e0 : fz_le G w ln s (j - s) = false := by
          cases q : fz_le G w ln s (j - s) with
          | false => rfl
          | true => rw [q] at z; exact absurd z (by decide)
        rw [e0, Bool.false_or, kex, decide_eq_false y] at key
        exact key
      · have e0 : fz_le G w ln s (j - s) = false := by
          cases q : fz_le G w ln s (j - s) with
          | false => rfl
          | true => rw [q] at z; exact absurd z (by decide)
        rw [e0, Bool.false_or, kex, decide_eq_true y] at key
        exact key
  have go := loop (e - s) s (by omega) (Nat.le_refl _)
  rw [Nat.sub_self, fz_ls, fz_le, Nat.add_zero] at go
  refine w_X8_rowLineCost_0 hs ?_
  rw [nI_su (show s ≤ e by omega), show (1 : Int32) = nI 1 from rfl, nI_su (show 1 ≤ e - s by omega), k10, pk_mul]
  exact go
theorem cs_rowCost {kk nn : Nat} {tn : Nat → Bool} {J : hf_I} {L : hf_L} {Q : Option Value → hf_M → Prop} (hs : hf_Lay t T P) (hk : cv_ok t T P J G p cls) (hw : ∀ j, j < p → (x1 >>> ((6 + (4 * (5 - nI j))).toInt64 &&& 63)).toInt32 &&& 15 = nI (w j) ∧ w j < 16 ∧ J 137 (w j) = nI (gwn G (w j)) ∧ J 138 (w j) = nI (gls G (w j))) (ht : ∀ j, j < p → (lg_cmp (x1 &&& (1 <<< ((5 - nI j).toInt64 &&& 63))) 0 = 0 ↔ tn j = false)) (hn4 : op_n tn p ≤ 4)
    (h : ∀ J', jc_fr J J' → Q (some (.int (nI (fz_cs G p w tn)))) (t, T, J', L, P)) :
    hf_G X Y_X8_rowCost (d + 5) kk nn 0 (hf_en [.ref 136, .long x1] 8) [] (t, T, J, L, P) Q := by
  obtain ⟨⟨p1, p6, hG⟩, k9, k10, k12, k13, -⟩ := id hk
  have b40 := hG.1.2.2.1
  have mono : ∀ i, i ≤ p → op_n tn i ≤ op_n tn p := fun i hi => (fz_wd_mo (G := G) (w := w) (tn := tn) i p hi).2
  have loop : ∀ f i, i + (f + 1) = p → ∀ (J1 : hf_I) (x3 x6 : Int32), jc_fr J J1 → x3 + nI (gls G (w i)) = nI (fz_ct G w tn (i + 1)) → ((x6 = -1 ∧ fz_al G w tn (i + 1) = false) ∨ ∃ a, a < 16 ∧ x6 = nI a ∧ fz_al G w tn (i + 1) = gal G a (w (fz_s tn (i + 1)))) → hf_G X Y_X8_rowCost (d + 5) kk nn 14 [some (.ref 136), some (.long x1), none, some (.int x3), some (.int (nI (fz_s tn (i + 1)))), some (.int (nI (op_n tn (i + 1) - 1))), some (.int x6), some (.int (nI i))] [] (t, T, J1, L, P) Q := by
    intro f
    induction f with
    | zero =>
      intro i hi J1 x3 x6 f1 e3 e6
      have k1 := cv_mv hk (cv_jc f1)
      have sl := fz_s_lt (tn := tn) (i + 1) (by omega)
      obtain ⟨w1, w2, w3, w4⟩ := hw i (by omega)
      obtain ⟨l1, l2⟩ := fz_line (G := G) (w := w) (tn := tn) (i + 1) (by omega)
      have nn1 := (op_n_le (tn := tn) (i + 1)).2 (by omega)
      have m1 := mono (i + 1) (by omega)
      obtain rfl : p = i + 1 := by omega
      refine w_X8_rowCost_14 (d := d + 3) hs ?_
      rw [w1, nI_clamp (show w i < 2 ^ 31 by omega), f1 138 (by omega) (by omega) (by omega), w4, k1.2.1, nI_1, e3]
      refine ⟨fun z => absurd z (nI_ge (by omega) (by omega)), fun _ => ⟨vp_in_nI w2 (by omega), fun _ => ?_, fun z => absurd (Int32.le_refl _) z⟩⟩
      refine cs_rowLineCost (d := d) (w := w) (ak := fz_al G w tn (i + 1)) hs k1 (fun j hj => ⟨(hw j hj).1, (hw j hj).2.1, by rw [f1 137 (by omega) (by omega) (by omega)]; exact (hw j hj).2.2.1⟩) sl (by omega) (by omega) e6 fun J2 f2 => ?_
      refine w_X8_rowCost_78 hs ?_
      have k2 := cv_mv k1 (cv_jc f2)
      rw [nI_add, ← l1, ← l2, nI_1]
      refine w_X8_rowCost_14 (d := d + 3) hs ⟨fun _ => ?_, fun z => absurd (by rw [k2.2.1]; exact Int32.le_refl _) z⟩
      exact h J2 (fun a a1 a2 a3 => (f2 a a1 a2 a3).trans (f1 a a1 a2 a3))
    | succ f ih =>
      intro i hi J1 x3 x6 f1 e3 e6
      have k1 := cv_mv hk (cv_jc f1)
      have sl := fz_s_lt (tn := tn) (i + 1) (by omega)
      obtain ⟨w1, w2, w3, w4⟩ := hw i (by omega)
      obtain ⟨l1, l2⟩ := fz_line (G := G) (w := w) (tn := tn) (i + 1) (by omega)
      have nn1 := (op_n_le (tn := tn) (i + 1)).2 (by omega)
      have m1 := mono (i + 1) (by omega)
      have ec : fz_ct G w tn (i + 1 + 1) = fz_ct G w tn (i + 1) + gls G (w (i + 1)) + (if ¬ i + 1 = 0 ∧ tn (i + 1) = true then fz_lc G w tn (i + 1) else 0) := rfl
      have es : fz_s tn (i + 1 + 1) = if i + 1 = 0 ∨ tn (i + 1) = true then i + 1 else fz_s tn (i + 1) := rfl
      have en : op_n tn (i + 1 + 1) = if i + 1 = 0 ∨ tn (i + 1) = true then op_n tn (i + 1) + 1 else op_n tn (i + 1) := rfl
      have ea : fz_al G w tn (i + 1 + 1) = if i + 1 = 0 then false else if tn (i + 1) = true then gal G (w (fz_s tn (i + 1))) (w (i + 1)) else fz_al G w tn (i + 1) := rfl
      rw [if_neg (by omega)] at ea
      have tt := ht (i + 1) (by omega)
      refine w_X8_rowCost_14 (d := d + 3) hs ?_
      rw [w1, nI_clamp (show w i < 2 ^ 31 by omega), f1 138 (by omega) (by omega) (by omega), w4, k1.2.1, nI_1, e3, tt]
      refine ⟨fun z => absurd z (nI_ge (by omega) (by omega)), fun _ => ⟨vp_in_nI w2 (by omega), fun z => absurd z (nI_ge (by omega) (by omega)), fun _ => ⟨fun z => ?_, fun z => ?_⟩⟩⟩
      · have nt : ¬ tn (i + 1) = true := by rw [z]; simp
        have nb : ¬ (i + 1 = 0 ∨ tn (i + 1) = true) := fun q => q.elim (by omega) nt
        rw [if_neg (fun q => nt q.2)] at ec
        rw [if_neg nb] at es en
        rw [if_neg nt] at ea
        have key := ih (i + 1) (by omega) J1 (nI (fz_ct G w tn (i + 1))) x6 f1 (by rw [ec, nI_add]; rfl) (by rw [ea, es]; exact e6)
        rw [es, en] at key
        exact key
      · have yt : tn (i + 1) = true := by
          cases q : tn (i + 1) with
          | true => rfl
          | false => exact absurd q z
        have yb : i + 1 = 0 ∨ tn (i + 1) = true := Or.inr yt
        rw [if_pos ⟨by omega, yt⟩] at ec
        rw [if_pos yb] at es en
        rw [if_pos yt] at ea
        refine cs_rowLineCost (d := d) (w := w) (ak := fz_al G w tn (i + 1)) hs k1 (fun j hj => ⟨(hw j hj).1, (hw j hj).2.1, by rw [f1 137 (by omega) (by omega) (by omega)]; exact (hw j hj).2.2.1⟩) sl (by omega) (by omega) e6 fun J2 f2 => ?_
        refine w_X8_rowCost_78 hs ?_
        obtain ⟨v1, v2, -⟩ := hw (fz_s tn (i + 1)) (by omega)
        rw [nI_add, ← l1, ← l2, nI_1, nI_1, v1]
        have key := ih (i + 1) (by omega) J2 (nI (fz_ct G w tn (i + 1) + fz_lc G w tn (i + 1))) (nI (w (fz_s tn (i + 1)))) (fun a a1 a2 a3 => (f2 a a1 a2 a3).trans (f1 a a1 a2 a3)) (by rw [ec, nI_add]; congr 1; omega) (Or.inr ⟨_, v2, rfl, by rw [ea, es]⟩)
        rw [es, en, Nat.add_sub_cancel] at key
        rw [show op_n tn (i + 1) - 1 + 1 = op_n tn (i + 1) by omega]
        exact key
  refine w_X8_rowCost_0 hs ?_
  refine loop (p - 1) 0 (by omega) J 0 (-1) (fun _ _ _ _ => rfl) ?_ (Or.inl ⟨rfl, rfl⟩)
  show 0 + nI (gls G (w 0)) = nI (0 + gls G (w 0) + 0)
  rw [Int32.zero_add, Nat.zero_add]
  rfl
end RCOST
