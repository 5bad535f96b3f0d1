/-! BEST and TRUEST, by the class -/
theorem fz_ct_le {G : fz_X} {p : Nat} {w : Nat → Nat} {tn : Nat → Bool} (hG : fz_ok G p) : ∀ i, fz_ct G w tn i ≤ 1998 * i := by
  intro i
  induction i with
  | zero => exact Nat.le_refl _
  | succ i ih =>
    rw [fz_ct]
    have h1 := hG.2.2.2.2.1 (w i)
    have h2 : fz_lc G w tn i ≤ 999 := hG.2.2.2.2.2 _ _ _ _ _
    split <;> omega
theorem fz_cs_le {G : fz_X} {p : Nat} {w : Nat → Nat} {tn : Nat → Bool} (hG : fz_ok G p) (hp : p ≤ 6) : fz_cs G p w tn < 100000 := by
  have h1 := fz_ct_le (w := w) (tn := tn) hG p
  have h2 : fz_lc G w tn p ≤ 999 := hG.2.2.2.2.2 _ _ _ _ _
  unfold fz_cs
  omega
/-- the truest row: what it is worth, and its key -/
def sv_t (G : fz_X) (tr : Nat → Nat) (p : Nat) (truth : Int32) (row : Int64) : Prop := match fz_tb (sk_fe G p) (sk_pr G tr p) (li_p (glen G) p) with
  | none => truth = -1
  | some b => truth = nI (sk_pr G tr p b) ∧ row = lN (fz_ky G p (fz_w G p b) (fz_gt G (fz_w G p b)))
section SOLVE
variable {X : hf_X} {d t : Nat} {T : hf_T} {P : hf_P} {G : fz_X} {p : Nat} {cls : List gr_c1} {tr : Nat → Nat}
theorem cs_solve_go {kk nn : Nat} {J : hf_I} {L : hf_L} {Q : Option Value → hf_M → Prop} (hs : hf_Lay t T P) (hk : cv_ok t T P J G p cls) (h18 : J 136 18 = -1) (h108 : ∀ j k, j < p → k < glen G j → J 108 (gopt G j k) = nI (tr (gopt G j k))) (htr : ∀ x, tr x ≤ 10)
    (h : ∀ J' L', cv_fr J J' → (∀ a, ¬ a = 136 → ¬ a = 142 → L' a = L a) → J' 136 17 = nI (fz_S (fun k => fz_T G (p - 1) 0 0 k false) (glen G 0)).1 → L' 136 16 = fz_l (fz_S (fun k => fz_T G (p - 1) 0 0 k false) (glen G 0)).2 → sv_t G tr p (J' 136 18) (L' 136 19) → Q none (t, T, J', L', P)) :
    hf_G X Y_X8_solve (d + 11) kk nn 57 [some (.ref 136), none, some (.int (nI (p - 1))), none] [] (t, T, J, L, P) Q := by
  obtain ⟨⟨p1, p6, hG⟩, k9, k10, k12, k13, k140, kopt, -⟩ := id hk
  have L1' := hG.1.1
  have L4 := hG.1.2.1
  -- behind the tails
  have fin : ∀ J1 L1, cv_fr J J1 → J1 136 18 = -1 → (∀ a, ¬ a = 136 → ¬ a = 142 → L1 a = L a) → tl_ok J1 L1 G p 0 0 → hf_G X Y_X8_solve (d + 11) kk nn 103 [some (.ref 136), none, none, none] [] (t, T, J1, L1, P) Q := by
    intro J1 L1 f1 e18 fL tl
    obtain ⟨t1, t2⟩ := tl
    have ep : p - (0 + 1) = p - 1 := by omega
    rw [ep] at t1 t2
    refine w_X8_solve_103 (d := d + 10) hs ?_
    have c2 : cv_fr J (hf_up J1 136 17 (J1 143 0)) := cv_tr f1 (cv_up (Or.inr ⟨rfl, by omega, by omega, by omega, by omega⟩))
    have k2 := cv_mv hk c2
    refine cs_leastTail (d := d + 8) (f := p - 1) (j := 0) (ln := 0) (sm := fun _ => false) hs k2 (by omega) (by omega) (Or.inl ⟨rfl, fun _ => rfl⟩) (fun k hk => (t2 k hk).1) ?_
    refine w_X8_solve_121 (d := d + 10) hs ?_
    generalize hL2 : hf_upL L1 136 16 (fz_l (fz_S (fun k => fz_T G (p - 1) 0 0 k false) (glen G 0)).2) = L2
    have l16 : L2 136 16 = fz_l (fz_S (fun k => fz_T G (p - 1) 0 0 k false) (glen G 0)).2 := by rw [← hL2, hf_upL_eq]
    have fL2 : ∀ a, ¬ a = 136 → ¬ a = 142 → L2 a = L a := fun a a1 a2 => by rw [← hL2, hf_upL_no a1]; exact fL a a1 a2
    have e17 : hf_up J1 136 17 (J1 143 0) 136 17 = nI (fz_S (fun k => fz_T G (p - 1) 0 0 k false) (glen G 0)).1 := by rw [hf_up_at, hf_upd_eq]; exact t1
    have e18' : hf_up J1 136 17 (J1 143 0) 136 18 = -1 := by rw [hf_up_at, hf_upd_ne (by omega)]; exact e18
    have h2 : ∀ j k, j < p → k < glen G j → (hf_up J1 136 17 (J1 143 0)) 108 (gopt G j k) = nI (tr (gopt G j k)) := by
      rw [c2.1 108 (by omega) (by omega) (by omega) (by omega) (by omega)]
      exact h108
    generalize hf_up J1 136 17 (J1 143 0) = J2 at c2 k2 e17 e18' h2
    obtain ⟨d', hd⟩ : ∃ d', d + 10 = d' + 1 + p := ⟨d + 9 - p, by omega⟩
    have seek := cs_seek (X := X) (d := d') (cls := cls) (tr := tr) hs htr p 0 0 0 0 J2 L2 (fun r M => hf_G X Y_X8_solve (d + 10 + 1) kk nn 133 [some (.ref 136), none, none, none] (r.toList ++ []) M Q) k2 h2 (by omega) (by show 0 < 1; omega) (Nat.zero_le _) (Nat.zero_le _) (by rw [Nat.zero_mul]; exact e18') fun J3 L3 f3 ts => ?_
    · rw [hd]
      rw [hd] at seek
      exact seek
    · have c3 := cv_tr c2 (sk_cv f3)
      have k3 := cv_mv hk c3
      have fL3 : ∀ a, ¬ a = 136 → ¬ a = 142 → L3 a = L a := fun a a1 a2 => (f3.2.2.1 a a1).trans (fL2 a a1 a2)
      have g17 : J3 136 17 = nI (fz_S (fun k => fz_T G (p - 1) 0 0 k false) (glen G 0)).1 := (f3.2.1 17 (by omega)).trans e17
      have g16 : L3 136 16 = fz_l (fz_S (fun k => fz_T G (p - 1) 0 0 k false) (glen G 0)).2 := (f3.2.2.2 16 (by omega)).trans l16
      have eB : (0 + 1) * fz_B G p 0 = li_p (glen G) p := by
        rw [li_p_B (G := G) p 0 (by omega)]
        rfl
      rw [eB] at ts
      unfold sk_ts at ts
      have tP := fz_tb_P (ok := sk_fe G p) (pr := sk_pr G tr p) (li_p (glen G) p)
      refine w_X8_solve_133 (d := d + 10) hs ?_
      cases e : fz_tb (sk_fe G p) (sk_pr G tr p) (li_p (glen G) p) with
      | none =>
        rw [e] at ts
        dsimp only at ts
        refine ⟨fun _ => h J3 L3 c3 fL3 g17 g16 ?_, fun z => absurd ts z⟩
        unfold sv_t
        rw [e]
        exact ts
      | some b =>
        rw [e] at ts tP
        obtain ⟨ts1, ts2⟩ := ts
        obtain ⟨b1, b2, -⟩ := tP
        have p10 := fz_pr_le (w := fz_w G p b) htr p
        have t6 : 10 ^ p ≤ 10 ^ 6 := Nat.pow_le_pow_right (by omega) (by omega)
        have t66 : (10 : Nat) ^ 6 = 1000000 := by decide
        have nm : ¬ J3 136 18 = -1 := by
          rw [ts1]
          exact hf_nm1 (by show fz_pr tr (fz_w G p b) p < 2 ^ 31; omega)
        refine ⟨fun z => absurd z nm, fun _ => ?_⟩
        have w16 : ∀ j, j < p → fz_w G p b j < 16 := fun j hj => hG.2.2.1 j _ hj (op_d_lt (hG.2.1 j hj).1)
        have u32 := fz_tu_lt (tn := fz_gt G (fz_w G p b)) p1 p6 rfl
        have elo : fz_lo (fz_w G p b) (fz_gt G (fz_w G p b)) p = 1073741824 * 0 + (fz_wk (fz_w G p b) p + fz_tu (fz_gt G (fz_w G p b)) p) := by unfold fz_lo; omega
        have n4 : op_n (fz_gt G (fz_w G p b)) p ≤ 4 := by
          unfold sk_fe fz_fe at b2
          rw [Bool.and_eq_true, decide_eq_true_eq, decide_eq_true_eq] at b2
          omega
        obtain ⟨-, -, -, -, -, -, kopt3, -⟩ := id k3
        rw [ts2]
        refine cs_rowCost (d := d + 5) (w := fz_w G p b) (tn := fz_gt G (fz_w G p b)) hs k3 (fun j hj => ⟨?_, w16 j hj, ?_, ?_⟩) (fun j hj => ?_) n4 fun J4 f4 => ?_
        · rw [elo]
          exact ky_wordIn p6 hj w16 (by omega) (by omega)
        · exact (kopt3 j _ hj (op_d_lt (hG.2.1 j hj).1)).2.1
        · exact (kopt3 j _ hj (op_d_lt (hG.2.1 j hj).1)).2.2
        · rw [elo]
          exact ky_turnsIn p1 p6 rfl hj w16 (by omega)
        · have cs := fz_cs_le (w := fz_w G p b) (tn := fz_gt G (fz_w G p b)) hG p6
          refine w_X8_solve_154 hs ?_
          rw [ky_cost (by omega), lN_add]
          refine h J4 _ (cv_tr c3 (cv_jc f4)) (fun a a1 a2 => by rw [hf_upL_no a1]; exact fL3 a a1 a2) ?_ ?_ ?_
          · rw [f4 136 (by omega) (by omega) (by omega)]; exact g17
          · rw [hf_upL_ne (by omega)]; exact g16
          · unfold sv_t
            rw [e]
            refine ⟨by rw [f4 136 (by omega) (by omega) (by omega)]; exact ts1, ?_⟩
            rw [hf_upL_eq]
            unfold fz_ky
            rw [Nat.add_comm]
  -- place by place, from the last
  have outer : ∀ i, i < p → ∀ J1 L1, cv_fr J J1 → J1 136 18 = -1 → (∀ a, ¬ a = 136 → ¬ a = 142 → L1 a = L a) → (∀ j l, i < j → j < p → 1 ≤ l → l ≤ j → l < gLN G → tl_ok J1 L1 G p j l) → hf_G X Y_X8_solve (d + 11) kk nn 57 [some (.ref 136), none, some (.int (nI i)), none] [] (t, T, J1, L1, P) Q := by
    intro i
    induction i with
    | zero =>
      intro hi J1 L1 f1 e18 fL tls
      obtain ⟨d', hd⟩ : ∃ d', d + 10 = d' + 5 + (p - 1) := ⟨d + 6 - p, by omega⟩
      refine w_X8_solve_57 (d := d + 10) hs ⟨fun _ => ?_, fun z => absurd (Int32.le_refl _) z⟩
      rw [hd]
      refine cs_fillTails (i := 0) (ln := 0) hs (cv_mv hk f1) (by omega) (by omega) (Nat.le_refl _) (fun j j1 j2 j3 => tls j 1 j1 j2 (by omega) (by omega) j3) fun J2 L2 f2 tl => ?_
      rw [← hd]
      exact fin J2 L2 (cv_tr f1 f2.1) (f2.2.2.1.2.trans e18) (fun a a1 a2 => (f2.2.2.2.1 a a1 a2).trans (fL a a1 a2)) tl
    | succ i ih =>
      intro hi J1 L1 f1 e18 fL tls
      refine w_X8_solve_57 (d := d + 10) hs ⟨fun z => absurd z (nI_ge (a := 0) (by omega) (by omega)), fun _ => ?_⟩
      have back : nI (i + 1) + (-1) = nI i := by rw [← nI_1, Int32.add_assoc, show (1 : Int32) + (-1) = 0 by decide, Int32.add_zero]
      have inner : ∀ g l, l + g = i + 2 → 1 ≤ l → ∀ J2 L2, cv_fr J J2 → J2 136 18 = -1 → (∀ a, ¬ a = 136 → ¬ a = 142 → L2 a = L a) → (∀ j l', i + 1 < j → j < p → 1 ≤ l' → l' ≤ j → l' < gLN G → tl_ok J2 L2 G p j l') → (∀ l', 1 ≤ l' → l' < l → l' < gLN G → tl_ok J2 L2 G p (i + 1) l') → hf_G X Y_X8_solve (d + 11) kk nn 63 [some (.ref 136), none, some (.int (nI (i + 1))), some (.int (nI l))] [] (t, T, J2, L2, P) Q := by
        intro g
        induction g with
        | zero =>
          intro l hl l1 J2 L2 f2 g18 gL tl1 tl2
          refine w_X8_solve_63 (d := d + 10) hs ⟨fun _ => ?_, fun z => absurd (nI_lt (by omega) (by omega)) z⟩
          rw [back]
          refine ih (by omega) J2 L2 f2 g18 gL fun j l' j1 j2 l1' l2' l3' => ?_
          by_cases e : j = i + 1
          · subst e; exact tl2 l' l1' (by omega) l3'
          · exact tl1 j l' (by omega) j2 l1' l2' l3'
        | succ g ihg =>
          intro l hl l1 J2 L2 f2 g18 gL tl1 tl2
          have k2 := cv_mv hk f2
          refine w_X8_solve_63 (d := d + 10) hs ⟨fun z => absurd ((nI_ltI (by omega) (by omega)).mp z) (by omega), fun _ => ?_⟩
          rw [k2.2.2.2.2.1]
          refine ⟨fun z => ?_, fun z => ?_⟩
          · have z' := (nI_leI (by omega) (by omega)).mp z
            rw [back]
            refine ih (by omega) J2 L2 f2 g18 gL fun j l' j1 j2 l1' l2' l3' => ?_
            by_cases e : j = i + 1
            · subst e; exact tl2 l' l1' (by omega) l3'
            · exact tl1 j l' (by omega) j2 l1' l2' l3'
          · have z' : l < gLN G := Nat.not_le.mp fun q => z (nI_le q (by omega))
            obtain ⟨d', hd⟩ : ∃ d', d + 10 = d' + 5 + (p - (i + 2)) := ⟨d + 5 - (p - (i + 2)), by omega⟩
            rw [hd]
            refine cs_fillTails (i := i + 1) (ln := l) hs k2 (by omega) z' (by omega) (fun j j1 j2 j3 => tl1 j (l + 1) j1 j2 (by omega) (by omega) j3) fun J3 L3 f3 tl => ?_
            rw [← hd]
            refine w_X8_solve_85 hs ?_
            rw [nI_1]
            refine ihg (l + 1) (by omega) (by omega) J3 L3 (cv_tr f2 f3.1) (f3.2.2.1.2.trans g18) (fun a a1 a2 => (f3.2.2.2.1 a a1 a2).trans (gL a a1 a2)) (fun j l' j1 j2 l1' l2' l3' => fl_tl f3 (by omega) (hG.2.1 j j2).2 (tl1 j l' j1 j2 l1' l2' l3')) (fun l' l1' l2' l3' => ?_)
            by_cases e : l' = l
            · subst e; exact tl
            · exact fl_tl f3 (by omega) (hG.2.1 (i + 1) hi).2 (tl2 l' l1' (by omega) l3')
      exact inner (i + 1) 1 (by omega) (Nat.le_refl _) J1 L1 f1 e18 fL tls (fun l' h1 h2 => by omega)
  exact outer (p - 1) (by omega) J L cv_rf h18 (fun _ _ _ => rfl) (fun j l j1 j2 => by omega)
end SOLVE
