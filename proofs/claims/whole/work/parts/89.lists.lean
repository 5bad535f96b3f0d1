/-! the model's lists -/
def li_fr (I J : hf_I) : Prop := (∀ a, ¬ a = 156 → ¬ a = 168 → ¬ a = 171 → ¬ a = 172 → ¬ a = 175 → ¬ a = 176 → J a = I a) ∧ ∀ j, j < 19 ∨ (22 < j ∧ j < 36) ∨ j = 38 ∨ 39 < j → J 156 j = I 156 j
def li_p (len : Nat → Nat) : Nat → Nat
  | 0 => 1
  | i + 1 => li_p len i * len i
/-- the options of one place, in row -/
def li_at (J : hf_I) (ok : Nat → Bool) (j n : Nat) : Prop := J 172 j = nI (pr_c ok n).length ∧ ∀ k, k < (pr_c ok n).length → J 171 (3 * j + k) = nI ((pr_c ok n).getD k 0)
theorem li_at_n {J : hf_I} {ok : Nat → Bool} {j n : Nat} (hn : ¬ ok n = true) (h : li_at J ok j n) : li_at J ok j (n + 1) := by
  unfold li_at
  rw [pr_c, if_neg hn]
  exact h
theorem li_at_fr {J J' : hf_I} {ok : Nat → Bool} {j n : Nat} (h : li_at J ok j n) (h1 : J' 171 = J 171) (h2 : J' 172 = J 172) : li_at J' ok j n := by
  unfold li_at
  rw [h1, h2]
  exact h
/-- what lists leaves: n WORDS weighed, j places listed -/
def li_st (I J : hf_I) (ww ls : Nat → Int32) (len : Nat → Nat) (sz : Int32) (p n j : Nat) : Prop := li_fr I J ∧ J 156 36 = nI ((if p = 0 then 0 else 1) * li_p len j) ∧ J 156 37 = nI (2 ^ (j - 1)) ∧ J 156 39 = I 158 52 * (sz + 2) / 2 ∧ ∀ i, i < n → J 175 i = ww i ∧ J 176 i = ls i
theorem li_st_fr {I J K : hf_I} {ww ls : Nat → Int32} {len : Nat → Nat} {sz : Int32} {p n j : Nat} (h : li_st I J ww ls len sz p n j) (g : jm_fr J K) : li_st I K ww ls len sz p n j := by
  obtain ⟨h1, h2, h3, h4, h5⟩ := h
  refine ⟨⟨fun a a1 a2 a3 a4 a5 a6 => (g.1 a a1 a2).trans (h1.1 a a1 a2 a3 a4 a5 a6), fun i hi => (g.2 i (by omega) (by omega) (by omega) (by omega)).trans (h1.2 i hi)⟩, ?_, ?_, ?_, ?_⟩
  · rw [g.2 36 (by omega) (by omega) (by omega) (by omega)]; exact h2
  · rw [g.2 37 (by omega) (by omega) (by omega) (by omega)]; exact h3
  · rw [g.2 39 (by omega) (by omega) (by omega) (by omega)]; exact h4
  · rw [g.1 175 (by omega) (by omega), g.1 176 (by omega) (by omega)]; exact h5
theorem li_st_up {I J : hf_I} {ww ls : Nat → Int32} {len : Nat → Nat} {sz v : Int32} {p n j b q : Nat} (h : li_st I J ww ls len sz p n j) (hb : b = 171 ∨ b = 172) : li_st I (hf_up J b q v) ww ls len sz p n j := by
  obtain ⟨h1, h2, h3, h4, h5⟩ := h
  have e : ∀ a, ¬ a = b → hf_up J b q v a = J a := fun a ha => by unfold hf_up; rw [if_neg ha]
  refine ⟨⟨fun a a1 a2 a3 a4 a5 a6 => (e a (by omega)).trans (h1.1 a a1 a2 a3 a4 a5 a6), fun i hi => by rw [e 156 (by omega)]; exact h1.2 i hi⟩, ?_, ?_, ?_, ?_⟩
  · rw [e 156 (by omega)]; exact h2
  · rw [e 156 (by omega)]; exact h3
  · rw [e 156 (by omega)]; exact h4
  · rw [e 175 (by omega), e 176 (by omega)]; exact h5
section LISTS
variable {X : hf_X} {d kk nn t : Nat} {T : hf_T} {I : hf_I} {L : hf_L} {P : hf_P} {Q : Option Value → hf_M → Prop}
theorem ms_lists {sz : Int32} {w p : Nat} {cls : List gr_c1} (hs : hf_Lay t T P) (hlw : lw_m I cls) (hgd : ∀ q ∈ cls, cl_gd false q) (hw : w ≤ 16) (h316 : I 158 316 = nI w) (hp : p ≤ 6) (h317 : I 158 317 = nI p) (hcnt : ∀ s : Int32, hf_cnt (fun i => I 158 (53 + 13 * i)) s w ≤ 3) (hok : ∀ i, i < w → hf_wok (I 158 (53 + 13 * i + 3)) (fun q => I 158 (53 + 13 * i + 4 + q)))
    {bd : Nat → Bool} {ww ls : Nat → Int32} {len : Nat → Nat}
    (hbd : ∀ i, i < w → bd i = jd_br cls (jf_w (nI i) (I 158 (53 + 13 * i)) (I 158 (53 + 13 * i + 1)) (I 158 (53 + 13 * i + 2)) (I 158 (53 + 13 * i + 3)) sz (I 158 311) (I 158 312)))
    (hww : ∀ i, i < w → ww i = hf_wd (fun j => I 158 (26 + j)) sz (I 158 (53 + 13 * i + 3)) (fun q => I 158 (53 + 13 * i + 4 + q)))
    (hls : ∀ i, i < w → ls i = jd_ls cls (jf_w (nI i) (I 158 (53 + 13 * i)) (I 158 (53 + 13 * i + 1)) (I 158 (53 + 13 * i + 2)) (I 158 (53 + 13 * i + 3)) (I 158 315) (I 158 311) (I 158 312)) (I 158 (53 + 13 * i + 1)))
    (hlen : ∀ j, j < p → len j = (pr_c (pr_km (I 158) bd (I 158 (269 + j))) w).length)
    (h : ∀ J, li_st I J ww ls len sz p w p → (∀ j, j < p → li_at J (pr_km (I 158) bd (I 158 (269 + j))) j w) → Q none (t, T, hf_up J 156 36 (J 156 36 * J 156 37), L, P)) :
    hf_G X Y_X12_lists (d + 610) kk nn 0 (hf_en [.ref 156, .int sz] 4) [] (t, T, I, L, P) Q := by
  have l3 : ∀ j n, n ≤ w → (pr_c (pr_km (I 158) bd (I 158 (269 + j))) n).length ≤ 3 := fun j n hn => Nat.le_trans (Nat.le_trans (pr_c_mono hn) (pr_c_cnt (se := fun i => I 158 (53 + 13 * i)) (s := I 158 (269 + j)) (fun i hi => by
    unfold pr_km at hi
    rw [Bool.and_eq_true, decide_eq_true_eq] at hi
    exact hi.2.symm) w)) (hcnt (I 158 (269 + j)))
  have e158 : ∀ {J : hf_I} {n j : Nat}, li_st I J ww ls len sz p n j → J 158 = I 158 := fun h => h.1.1 158 (by omega) (by omega) (by omega) (by omega) (by omega) (by omega)
  -- one place
  have opts : ∀ j, j < p → (∀ J, li_st I J ww ls len sz p w j → (∀ j', j' < j + 1 → li_at J (pr_km (I 158) bd (I 158 (269 + j'))) j' w) → hf_G X Y_X12_lists (d + 610) kk nn 94 [some (.ref 156), some (.int sz), some (.int (nI j)), some (.int (nI w))] [] (t, T, J, L, P) Q) → ∀ f n, n + f = w → ∀ J, li_st I J ww ls len sz p w j → (∀ j', j' < j → li_at J (pr_km (I 158) bd (I 158 (269 + j'))) j' w) → li_at J (pr_km (I 158) bd (I 158 (269 + j))) j n → hf_G X Y_X12_lists (d + 610) kk nn 94 [some (.ref 156), some (.int sz), some (.int (nI j)), some (.int (nI n))] [] (t, T, J, L, P) Q := by
    intro j hj next f
    induction f with
    | zero =>
      intro n hn J st at1 at2
      obtain rfl : n = w := by omega
      refine next J st fun j' hj' => ?_
      by_cases e : j' = j
      · subst e; exact at2
      · exact at1 j' (by omega)
    | succ f ih =>
      intro n hn J st at1 at2
      have e1 := e158 st
      refine w_X12_lists_94 hs ⟨fun q => absurd q (by rw [e1, h316]; exact nI_ge (by omega) (by omega)), fun _ => ?_⟩
      rw [e1, hf_wi0, hf_wo0, nI_clamp (show 53 + 13 * n < 2 ^ 31 by omega), nI_clamp (show 269 + j < 2 ^ 31 by omega), nI_1]
      refine ⟨vp_in_nI (by omega) (by omega), vp_in_nI (by omega) (by omega), fun q => ?_, fun q => ?_⟩
      · refine ih (n + 1) (by omega) J st at1 (li_at_n ?_ at2)
        unfold pr_km
        rw [Bool.and_eq_true, decide_eq_true_eq]
        exact fun z => q z.2.symm
      · refine ms_isBarred (d := d) hs (lw_m_fr hlw e1) hgd (by omega) fun J1 f1 => ?_
        rw [e1, ← hbd n (by omega)]
        have st1 := li_st_fr st f1
        have fr : ∀ {j' n'} {ok : Nat → Bool}, li_at J ok j' n' → li_at J1 ok j' n' := fun h => li_at_fr h (f1.1 171 (by omega) (by omega)) (f1.1 172 (by omega) (by omega))
        cases hb : bd n with
        | true =>
          refine w_X12_lists_131 hs ⟨fun z => absurd z (by decide), fun _ => ?_⟩
          rw [nI_1]
          refine ih (n + 1) (by omega) J1 st1 (fun j' hj' => fr (at1 j' hj')) (li_at_n ?_ (fr at2))
          unfold pr_km
          rw [hb]
          intro z; cases z
        | false =>
          have hk : pr_km (I 158) bd (I 158 (269 + j)) n = true := by
            unfold pr_km
            rw [Bool.and_eq_true, decide_eq_true_eq, hb]
            exact ⟨rfl, q.symm⟩
          have l1 := l3 j (n + 1) (by omega)
          rw [pr_c, if_pos hk, List.length_append] at l1
          have l2 : [n].length = 1 := rfl
          obtain ⟨b1, b2⟩ := fr at2
          have vj : vp_in (nI j) 6 := vp_in_nI (by omega) (by omega)
          refine w_X12_lists_131 hs ⟨fun _ => ⟨vj, ?_⟩, fun z => absurd rfl z⟩
          rw [nI_clamp (show j < 2 ^ 31 by omega), b1, show (3 : Int32) = nI 3 from rfl, pk_mul, nI_add, nI_1, nI_1, nI_clamp (show 3 * j + (pr_c (pr_km (I 158) bd (I 158 (269 + j))) n).length < 2 ^ 31 by omega)]
          refine ⟨vp_in_nI (by omega) (by omega), vj, vj, ?_⟩
          have ec : pr_c (pr_km (I 158) bd (I 158 (269 + j))) (n + 1) = pr_c (pr_km (I 158) bd (I 158 (269 + j))) n ++ [n] := by rw [pr_c, if_pos hk]
          refine ih (n + 1) (by omega) _ (li_st_up (li_st_up st1 (Or.inl rfl)) (Or.inr rfl)) (fun j' hj' => ⟨?_, fun k hk' => ?_⟩) ⟨?_, fun k hk' => ?_⟩
          · show upd (J1 172) j _ j' = _
            rw [hf_upd_ne (by omega)]
            exact (fr (at1 j' hj')).1
          · have := l3 j' w (Nat.le_refl _)
            show upd (J1 171) (3 * j + (pr_c (pr_km (I 158) bd (I 158 (269 + j))) n).length) (nI n) (3 * j' + k) = _
            rw [hf_upd_ne (by omega)]
            exact (fr (at1 j' hj')).2 k hk'
          · show upd (J1 172) j _ j = _
            rw [hf_upd_eq, ec, List.length_append]
            rfl
          · show upd (J1 171) (3 * j + (pr_c (pr_km (I 158) bd (I 158 (269 + j))) n).length) (nI n) (3 * j + k) = _
            rw [ec] at hk' ⊢
            rw [List.length_append] at hk'
            by_cases e : k = (pr_c (pr_km (I 158) bd (I 158 (269 + j))) n).length
            · subst e
              rw [hf_upd_eq, pr_gd1]
            · have hk2 : k < (pr_c (pr_km (I 158) bd (I 158 (269 + j))) n).length := by omega
              rw [hf_upd_ne (by omega), pr_gd0 hk2]
              exact b2 k hk2
  have places : ∀ f j, j + f = p → ∀ J, li_st I J ww ls len sz p w j → (∀ j', j' < j → li_at J (pr_km (I 158) bd (I 158 (269 + j'))) j' w) → hf_G X Y_X12_lists (d + 610) kk nn 77 [some (.ref 156), some (.int sz), some (.int (nI j)), none] [] (t, T, J, L, P) Q := by
    intro f
    induction f with
    | zero =>
      intro j hj J st at1
      obtain rfl : j = p := by omega
      have e1 := e158 st
      exact w_X12_lists_77 hs ⟨fun _ => h J st at1, fun q => absurd (by rw [e1, h317]; exact nI_le (Nat.le_refl _) (by omega)) q⟩
    | succ f ih =>
      intro j hj J st at1
      have e1 := e158 st
      refine w_X12_lists_77 hs ⟨fun q => absurd q (by rw [e1, h317]; exact nI_ge (by omega) (by omega)), fun _ => ⟨vp_in_nI (by omega) (by omega), ?_⟩⟩
      rw [nI_clamp (show j < 2 ^ 31 by omega)]
      refine opts j (by omega) (fun J2 st2 at2 => ?_) w 0 (by omega) _ (li_st_up st (Or.inr rfl)) (fun j' hj' => ⟨?_, (at1 j' hj').2⟩) ⟨?_, fun k hk => by simp [pr_c] at hk⟩
      · have e2 := e158 st2
        obtain ⟨g1, g2, g3, g4, g5⟩ := st2
        refine w_X12_lists_94 hs ⟨fun _ => ⟨vp_in_nI (by omega) (by omega), ?_⟩, fun q => absurd (by rw [e2, h316]; exact nI_le (Nat.le_refl _) (by omega)) q⟩
        rw [nI_clamp (show j < 2 ^ 31 by omega), (at2 j (by omega)).1, g2, g3, ← hlen j (by omega), pk_mul, nI_1]
        have ep : (if p = 0 then 0 else 1) * li_p len j * len j = (if p = 0 then 0 else 1) * li_p len (j + 1) := by rw [li_p, Nat.mul_assoc]
        rw [ep]
        have fin : ∀ v, v = nI (2 ^ (j + 1 - 1)) → hf_G X Y_X12_lists (d + 610) kk nn 77 [some (.ref 156), some (.int sz), some (.int (nI (j + 1))), none] [] (t, T, hf_up (hf_up J2 156 36 (nI ((if p = 0 then 0 else 1) * li_p len (j + 1)))) 156 37 v, L, P) Q := by
          intro v hv
          have e : ∀ a, ¬ a = 156 → hf_up (hf_up J2 156 36 (nI ((if p = 0 then 0 else 1) * li_p len (j + 1)))) 156 37 v a = J2 a := fun a ha => by unfold hf_up; rw [if_neg ha, if_neg ha]
          have e6 : hf_up (hf_up J2 156 36 (nI ((if p = 0 then 0 else 1) * li_p len (j + 1)))) 156 37 v 156 = upd (upd (J2 156) 36 (nI ((if p = 0 then 0 else 1) * li_p len (j + 1)))) 37 v := rfl
          refine ih (j + 1) (by omega) _ ⟨⟨fun a a1 a2 a3 a4 a5 a6 => (e a a1).trans (g1.1 a a1 a2 a3 a4 a5 a6), fun i hi => ?_⟩, ?_, ?_, ?_, ?_⟩ (fun j' hj' => li_at_fr (at2 j' hj') (e 171 (by omega)) (e 172 (by omega)))
          · rw [e6, hf_upd_ne (by omega), hf_upd_ne (by omega)]; exact g1.2 i hi
          · rw [e6, hf_upd_ne (by omega), hf_upd_eq]
          · rw [e6, hf_upd_eq, hv]
          · rw [e6, hf_upd_ne (by omega), hf_upd_ne (by omega)]; exact g4
          · rw [e 175 (by omega), e 176 (by omega)]; exact g5
        refine ⟨fun q => fin _ ?_, fun q => fin _ ?_⟩
        · have : j = 0 := by
            have := (nI_leI (a := j) (b := 0) (by omega) (by omega)).mp q
            omega
          subst this
          rw [show (1 : Int32) = nI 1 from rfl, pk_mul]
        · have : 1 ≤ j := Nat.not_lt.mp fun z => q (nI_le (b := 0) (by omega) (by omega))
          obtain ⟨y, rfl⟩ : ∃ y, j = y + 1 := ⟨j - 1, by omega⟩
          rw [show (2 : Int32) = nI 2 from rfl, pk_mul, Nat.add_sub_cancel, Nat.add_sub_cancel, Nat.pow_succ]
      · show upd (J 172) j 0 j' = _
        rw [hf_upd_ne (by omega)]
        exact (at1 j' hj').1
      · show upd (J 172) j 0 j = _
        rw [hf_upd_eq]
        rfl
  have words : ∀ f n, n + f = w → ∀ J, li_st I J ww ls len sz p n 0 → hf_G X Y_X12_lists (d + 610) kk nn 34 [some (.ref 156), some (.int sz), some (.int (nI n)), none] [] (t, T, J, L, P) Q := by
    intro f
    induction f with
    | zero =>
      intro n hn J st
      obtain rfl : n = w := by omega
      have e1 := e158 st
      exact w_X12_lists_34 hs ⟨fun _ => places p 0 (by omega) J st (fun j' hj' => by omega), fun q => absurd (by rw [e1, h316]; exact nI_le (Nat.le_refl _) (by omega)) q⟩
    | succ f ih =>
      intro n hn J st
      have e1 := e158 st
      refine w_X12_lists_34 hs ⟨fun q => absurd q (by rw [e1, h316]; exact nI_ge (by omega) (by omega)), fun _ => ?_⟩
      refine sp_X12_broadOf (d := d + 608) hs (by omega) (by rw [e1]; exact hok n (by omega)) (w_X12_lists_57 hs ⟨vp_in_nI (by omega) (by omega), ?_⟩)
      rw [e1, ← hww n (by omega), nI_clamp (show n < 2 ^ 31 by omega)]
      have e1' : hf_up J 175 n (ww n) 158 = I 158 := e1
      refine ms_losesOf (d := d) hs (lw_m_fr hlw e1') (by omega) fun J1 f1 => w_X12_lists_68 hs ⟨vp_in_nI (by omega) (by omega), ?_⟩
      rw [e1', ← hls n (by omega), nI_clamp (show n < 2 ^ 31 by omega), nI_1]
      obtain ⟨g1, g2, g3, g4, g5⟩ := st
      have e : ∀ a, ¬ a = 156 → ¬ a = 168 → ¬ a = 175 → ¬ a = 176 → hf_up J1 176 n (ls n) a = J a := by
        intro a a1 a2 a3 a4
        have e2 : hf_up J1 176 n (ls n) a = J1 a := by unfold hf_up; rw [if_neg a4]
        have e3 : hf_up J 175 n (ww n) a = J a := by unfold hf_up; rw [if_neg a3]
        rw [e2, f1.1 a a1 a2, e3]
      have e6 : ∀ i, ¬ i = 19 → ¬ i = 20 → ¬ i = 21 → ¬ i = 22 → hf_up J1 176 n (ls n) 156 i = J 156 i := fun i i1 i2 i3 i4 => f1.2 i i1 i2 i3 i4
      have e75 : hf_up J1 176 n (ls n) 175 = upd (J 175) n (ww n) := by
        show J1 175 = _
        rw [f1.1 175 (by omega) (by omega)]
        rfl
      have e76 : hf_up J1 176 n (ls n) 176 = upd (J 176) n (ls n) := by
        show upd (J1 176) n (ls n) = _
        rw [f1.1 176 (by omega) (by omega)]
        rfl
      refine ih (n + 1) (by omega) _ ⟨⟨fun a a1 a2 a3 a4 a5 a6 => (e a a1 a2 a5 a6).trans (g1.1 a a1 a2 a3 a4 a5 a6), fun i hi => (e6 i (by omega) (by omega) (by omega) (by omega)).trans (g1.2 i hi)⟩, ?_, ?_, ?_, fun i hi => ?_⟩
      · rw [e6 36 (by omega) (by omega) (by omega) (by omega)]; exact g2
      · rw [e6 37 (by omega) (by omega) (by omega) (by omega)]; exact g3
      · rw [e6 39 (by omega) (by omega) (by omega) (by omega)]; exact g4
      · rw [e75, e76]
        by_cases q : i = n
        · subst q
          rw [hf_upd_eq, hf_upd_eq]
          exact ⟨rfl, rfl⟩
        · rw [hf_upd_ne q, hf_upd_ne q]
          exact g5 i (by omega)
  have ini : ∀ v, v = nI (if p = 0 then 0 else 1) → hf_G X Y_X12_lists (d + 610) kk nn 34 [some (.ref 156), some (.int sz), some (.int 0), none] [] (t, T, hf_up (hf_up (hf_up I 156 36 v) 156 37 1) 156 39 (I 158 52 * (sz + 2) / 2), L, P) Q := by
    intro v hv
    have e : ∀ a, ¬ a = 156 → hf_up (hf_up (hf_up I 156 36 v) 156 37 1) 156 39 (I 158 52 * (sz + 2) / 2) a = I a := fun a ha => by unfold hf_up; rw [if_neg ha, if_neg ha, if_neg ha]
    have e6 : hf_up (hf_up (hf_up I 156 36 v) 156 37 1) 156 39 (I 158 52 * (sz + 2) / 2) 156 = upd (upd (upd (I 156) 36 v) 37 1) 39 (I 158 52 * (sz + 2) / 2) := rfl
    refine words w 0 (by omega) _ ⟨⟨fun a a1 _ _ _ _ _ => e a a1, fun i hi => ?_⟩, ?_, ?_, ?_, fun i hi => by omega⟩
    · rw [e6, hf_upd_ne (by omega), hf_upd_ne (by omega), hf_upd_ne (by omega)]
    · rw [e6, hf_upd_ne (by omega), hf_upd_ne (by omega), hf_upd_eq, hv, li_p, Nat.mul_one]
    · rw [e6, hf_upd_ne (by omega), hf_upd_eq]; rfl
    · rw [e6, hf_upd_eq]
  have e0 : (I 158 317 = 0) ↔ p = 0 := by rw [h317]; exact nI_eq (b := 0) (by omega) (by omega)
  refine w_X12_lists_0 (d := d + 609) hs ⟨fun q => ini _ ?_, fun q => ini _ ?_⟩
  · rw [if_neg (fun z => q (e0.mpr z))]; rfl
  · rw [if_pos (e0.mp q)]; rfl
end LISTS
