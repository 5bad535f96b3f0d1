/-! truest, as an operation -/
section OPTRUE
variable {X : hf_X} {d N t : Nat} {T : hf_T} {I : hf_I} {L : hf_L} {P : hf_P} {cls : List gr_c1}
theorem cc_ftc {w p LN bl hr r : Nat} {lt0 : Nat → Int32} (h : hf_Sim hf_SL hf_CC N t T I L P) (h5 : I 105 5 = nI w) (hw : w ≤ 16) (h17 : I 101 17 = nI p) (p1 : 1 ≤ p) (hp : p ≤ 6) (hlt : ∀ j, j < 9 * w → lt0 j = I 110 j) (r6 : I 101 12 = nI hr)
    (G : fz_X) (hG : G = cc_G cls (I 101 12) (I 101 13) (I 101 14) (I 102) (I 104) w (I 106) (I 107) (I 108) (I 109) lt0 (I 112) (I 113)) (gl : gLN G = LN) (gh : ghr G = hr) (gb : gbl G = bl) (hok : fz_ok G p) :
    (∀ r, ft_k p LN bl hr (glen G) (gopt G) (gwn G) r = fz_rk G p r) ∧ (op_n (fz_rt p r) p ≤ 4 → ft_c cls (I 158) p bl (glen G) (gopt G) (gwn G) (cc_ls cls (I 101 14) (I 104) (I 106) (I 107) (I 108) (I 109)) r = nI (fz_cs G p (fz_rw G p r) (fz_rt p r))) := by
  obtain ⟨-, -, -, -, -, -, -, -, -, -, len3, opt, wn, lsn, -, -⟩ := cc_facts (lt0 := lt0) h cls h5 hw h17 hp hlt
  obtain ⟨m1, m2, ⟨t1, t2, t3, t4, t5⟩, ⟨w', w1, w2, w3, w4, w5⟩, m5, m6, m7, m8, m9, m10⟩ := h.2.1
  obtain rfl : w' = w := (nI_eq (by omega) (by omega)).mp (w2.symm.trans h5)
  have eG : G = fz_G cls LN bl hr (I 101 14) (I 104 0) (I 104 1) (glen G) (gopt G) (gwn G) (cc_ls cls (I 101 14) (I 104) (I 106) (I 107) (I 108) (I 109)) (fun a => lt0 (9 * a)) (I 113) := by
    rw [← gl, ← gh, ← gb, hG]
    rfl
  have h400 : hr ≤ 400 := by rw [← gh]; exact hok.1.2.2.2
  have b40 : bl ≤ 40 := by rw [← gb]; exact hok.1.2.2.1
  have oL : ∀ j k, k < glen G j → gopt G j k < w' := by
    intro j k hk
    rw [hG] at hk ⊢
    exact (opt j k hk).1
  refine ⟨fun r => ?_, fun rn => ?_⟩
  · have := ft_k_fz (cls := cls) (LN := LN) (bl := bl) (hr := hr) (sz := I 101 14) (dy := I 104 0) (md := I 104 1) (len := glen G) (opt := gopt G) (wn := gwn G) (ls := cc_ls cls (I 101 14) (I 104) (I 106) (I 107) (I 108) (I 109)) (fl := fun a => lt0 (9 * a)) (nx := I 113) (p := p) (r := r)
    rw [← eG] at this
    exact this
  · have := ft_c_fz (cls := cls) (K := I 158) (LN := LN) (bl := bl) (hr := hr) (sz := I 101 14) (dy := I 104 0) (md := I 104 1) (len := glen G) (opt := gopt G) (wn := gwn G) (ls := cc_ls cls (I 101 14) (I 104) (I 106) (I 107) (I 108) (I 109)) (fl := fun a => lt0 (9 * a)) (nx := I 113) (p := p) (r := r) p1 hp (t3.1.symm.trans r6) h400 t5.1.symm t1.1.symm t2.1.symm (fun i hi => ?_) (fun l hl => (m6 l hl).1.symm) b40 hok.2.2.2.1 (fun i hi => ?_) rn
    · rw [← eG] at this
      exact this
    · have ow : ro_wd p (glen G) (gopt G) r i < w' := oL i _ (op_d_lt (hok.2.1 i hi).1)
      rw [hlt _ (by omega)]
      exact (S_w1_ok (w4 _ ow)).2.2.2.2.2.2.1.symm
    · exact lsn _ (oL i _ (op_d_lt (hok.2.1 i hi).1))
set_option maxHeartbeats 2000000 in
theorem op_truest {a : Int32} (h : hf_Sim hf_SL hf_CC N t T I L P) : hf_Pair X Y_X11_truest Y_X12_truest [.int a] (d + 611) 0 0 (t, T, I, L, P) (hf_SimM hf_SL hf_CC (N + 1)) := by
  have hs := h.1
  refine w_X11_truest_0 (d := d + 610) hs (cs_solve (d := d + 598) h fun J L' n3 hJ e15 => ?_)
  obtain ⟨cls, hc, hm⟩ := sim_law hJ
  obtain ⟨m1, m2, ⟨t1, t2, t3, t4, t5⟩, ⟨w, w1, w2, w3, w4, w5⟩, ⟨p, p1, p2, p3, p4⟩, -⟩ := id hJ.2.1
  obtain ⟨lt0, hlt, cR⟩ := cc_found hJ e15 hc w2 w1 p2 p1
  obtain ⟨LN, hr, bl, ⟨r1, r2, r3, r4⟩, r5, r6, r7, gl, gh, gb, len3, opt, wn, lsn, trn, gok⟩ := cc_facts (lt0 := lt0) hJ cls w2 w1 p2 p1 hlt
  have mdl : ∀ (u : Int32), (a < 0 ∨ 14 < a → u = -1) → (∀ y, y ≤ 14 → a = nI y → ∀ C, hf_n2 J C → C 156 36 = nI ((if p = 0 then 0 else 1) * li_p (fun j => (cc_li cls (J 101 14) (J 104) w (J 106) (J 107) (J 108) (J 109) (J 112) j).length) p * 2 ^ (p - 1)) → (1 ≤ p → (∀ j, j < p → 1 ≤ (cc_li cls (J 101 14) (J 104) w (J 106) (J 107) (J 108) (J 109) (J 112) j).length) → ro_ok C p LN bl (fun j => (cc_li cls (J 101 14) (J 104) w (J 106) (J 107) (J 108) (J 109) (J 112) j).length) (fun j k => (cc_li cls (J 101 14) (J 104) w (J 106) (J 107) (J 108) (J 109) (J 112) j).getD k 0) (cc_wn (J 102) (J 101 14) (J 109) lt0) (cc_ls cls (J 101 14) (J 104) (J 106) (J 107) (J 108) (J 109))) → hf_G X Y_X12_truest (d + 611) 0 0 24 [some (.ref 156), some (.int (nI y)), none, none, none, none, none, none, none, none, none] [] (t, T, C, L', P) (fun r2 M2 => r2 = some (.int u) ∧ hf_SimM hf_SL hf_CC (N + 1) M2)) → ∃ u0, some (Value.int u) = some (.int u0) ∧ hf_G X Y_X12_truest (d + 611) 0 0 0 (hf_en (.ref 156 :: [.int a]) 11) [] (t, T, J, L', P) (fun r2 M2 => r2 = some (.int u0) ∧ hf_SimM hf_SL hf_CC (N + 1) M2) := by
    intro u u1 u2
    refine ⟨u, rfl, w_X12_truest_0 (d := d + 610) hs ⟨fun q => ⟨by rw [u1 (Or.inl q)], sim_same hJ⟩, fun q => ⟨fun q2 => ⟨by rw [u1 (Or.inr q2)], sim_same hJ⟩, fun q2 => ?_⟩⟩⟩
    obtain ⟨y, y1, rfl⟩ := nI_of2 (x := a) (M := 14) (n := 14) (by decide) q (Int32.not_lt.mp q2)
    rw [← t5.1]
    exact md_lists (d := d) hJ hc hm w2 w1 p2 p1 hlt r5 r2 r7 r3 n2_rf fun C nC e36 ok => u2 y y1 rfl C nC e36 ok
  obtain ⟨cR1, cR2⟩ := cR
  have neg : a < 0 ∨ 14 < a → ¬ a = 0 ∧ ¬ a = 1 ∧ ¬ a = 2 := by
    intro q
    refine ⟨fun z => ?_, fun z => ?_, fun z => ?_⟩ <;> (rw [z] at q; exact q.elim (by decide) (by decide))
  by_cases row : 1 ≤ p ∧ ∀ j, j < p → 1 ≤ (cc_li cls (J 101 14) (J 104) w (J 106) (J 107) (J 108) (J 109) (J 112) j).length
  · obtain ⟨p0, row⟩ := row
    obtain ⟨-, -, sv⟩ := cR2 p0 row
    have hok := gok row
    generalize hG : cc_G cls (J 101 12) (J 101 13) (J 101 14) (J 102) (J 104) w (J 106) (J 107) (J 108) (J 109) lt0 (J 112) (J 113) = G at sv hok gl gh gb
    have eL : glen G = fun j => (cc_li cls (J 101 14) (J 104) w (J 106) (J 107) (J 108) (J 109) (J 112) j).length := by rw [← hG]; rfl
    have eO : gopt G = fun j k => (cc_li cls (J 101 14) (J 104) w (J 106) (J 107) (J 108) (J 109) (J 112) j).getD k 0 := by rw [← hG]; rfl
    have eW : gwn G = cc_wn (J 102) (J 101 14) (J 109) lt0 := by rw [← hG]; rfl
    have htr : ∀ x, cc_tr (J 108) x ≤ 10 := fun x => Nat.min_le_left _ _
    have lp6 : li_p (glen G) p ≤ 729 := Nat.le_trans (li_p_le3 (fun j => by rw [eL]; exact len3 j) p) (Nat.pow_le_pow_right (n := 3) (i := p) (j := 6) (by omega) p1)
    have p32 : 2 ^ (p - 1) ≤ 32 := Nat.pow_le_pow_right (n := 2) (i := p - 1) (j := 5) (by omega) (by omega)
    have Rb : li_p (glen G) p * 2 ^ (p - 1) ≤ 729 * 32 := Nat.mul_le_mul lp6 p32
    have fk := fun r => (cc_ftc (cls := cls) (r := r) hJ w2 w1 p2 p0 p1 hlt r6 G hG.symm gl gh gb hok)
    have ekk : ft_k p LN bl hr (glen G) (gopt G) (gwn G) = fz_rk G p := funext fun r => (fk 0).1 r
    have all := fz_tr_all (G := G) (tr := cc_tr (J 108)) p0 p1
    -- the model, in rows
    have mdr : ∀ (u : Int32), (a < 0 ∨ 14 < a → u = -1) → (fz_tb (sk_fe G p) (sk_pr G (cc_tr (J 108)) p) (li_p (glen G) p) = none → u = -1) → (∀ b, fz_tb (sk_fe G p) (sk_pr G (cc_tr (J 108)) p) (li_p (glen G) p) = some b → (a = 0 → u = nI (sk_pr G (cc_tr (J 108)) p b / Nat.gcd (sk_pr G (cc_tr (J 108)) p b) (10 ^ p))) ∧ (a = 1 → u = nI (10 ^ p / Nat.gcd (sk_pr G (cc_tr (J 108)) p b) (10 ^ p))) ∧ (a = 2 → u = nI (fz_cs G p (fz_w G p b) (fz_gt G (fz_w G p b)))) ∧ (¬ a = 0 → ¬ a = 1 → ¬ a = 2 → to_P p (fz_w G p b) (fz_gt G (fz_w G p b)) a u)) → ∃ u0, some (Value.int u) = some (.int u0) ∧ hf_G X Y_X12_truest (d + 611) 0 0 0 (hf_en (.ref 156 :: [.int a]) 11) [] (t, T, J, L', P) (fun r2 M2 => r2 = some (.int u0) ∧ hf_SimM hf_SL hf_CC (N + 1) M2) := by
      intro u u0 u2 u3
      refine mdl u u0 fun y y14 ey C nC e36 ok => ?_
      subst ey
      rw [if_neg (by omega), Nat.one_mul, ← eL] at e36
      have ok' := ok p0 row
      rw [← eL, ← eO, ← eW] at ok'
      have c158 : C 158 = J 158 := nC.1 158 (by omega)
      refine ms_truest (d := d) (cls := cls) (hairs := hr) (tr := cc_tr (J 108)) hs (lw_m_fr hm c158) ok' htr (fun j k hj hk => ?_) e36 (by omega) (by rw [c158]; exact t3.1.symm.trans r6) r4 y14 fun C2 v f2 v2 v3 => ?_
      · have ow : gopt G j k < w := by
          rw [eL] at hk
          rw [eO]
          exact (opt j k hk).1
        rw [c158, ← trn _ ow]
        exact (S_w1_ok (w4 _ ow)).2.2.2.2.1.symm
      have tball : fz_tb (ft_k p LN bl hr (glen G) (gopt G) (gwn G)) (fun r => fz_pr (cc_tr (J 108)) (ro_wd p (glen G) (gopt G) r) p) (li_p (glen G) p * 2 ^ (p - 1)) = (fz_tb (sk_fe G p) (sk_pr G (cc_tr (J 108)) p) (li_p (glen G) p)).map fun q => q * 2 ^ (p - 1) + fz_Z (fz_gt G (fz_w G p q)) p := by
        rw [ekk]
        exact all
      rw [tball] at v2
      rw [tball, c158] at v3
      have ev : v = u := by
        have q1 : (nI y = 1) ↔ y = 1 := nI_eq (b := 1) (by omega) (by omega)
        have q0 : (nI y = 0) ↔ y = 0 := nI_eq (b := 0) (by omega) (by omega)
        have q2 : (nI y = 2) ↔ y = 2 := nI_eq (b := 2) (by omega) (by omega)
        cases hb : fz_tb (sk_fe G p) (sk_pr G (cc_tr (J 108)) p) (li_p (glen G) p) with
        | none =>
          rw [hb] at v2
          rw [v2 rfl, u2 hb]
        | some b =>
          rw [hb] at v3
          obtain ⟨z0, z1, z2, z3⟩ := v3 _ rfl
          obtain ⟨g0, g1, g2, g3⟩ := u3 b hb
          obtain ⟨f1, f2'⟩ := fz_Z_t (tn := fz_gt G (fz_w G p b)) p p0 p1
          have e1 : (b * 2 ^ (p - 1) + fz_Z (fz_gt G (fz_w G p b)) p) / 2 ^ (p - 1) = b := by rw [Nat.mul_comm, Nat.mul_add_div (by omega), Nat.div_eq_of_lt f1, Nat.add_zero]
          have e2 : (b * 2 ^ (p - 1) + fz_Z (fz_gt G (fz_w G p b)) p) % 2 ^ (p - 1) = fz_Z (fz_gt G (fz_w G p b)) p := by rw [Nat.mul_comm, Nat.mul_add_mod, Nat.mod_eq_of_lt f1]
          have ew : ro_wd p (glen G) (gopt G) (b * 2 ^ (p - 1) + fz_Z (fz_gt G (fz_w G p b)) p) = fz_w G p b := by
            funext i
            unfold ro_wd
            rw [e1]
            rfl
          have et : ∀ j, j < p → ro_tn p (b * 2 ^ (p - 1) + fz_Z (fz_gt G (fz_w G p b)) p) j = fz_gt G (fz_w G p b) j := by
            intro j hj
            unfold ro_tn
            rw [e2, f2' j hj]
            by_cases j0 : j = 0
            · subst j0; rfl
            · rw [decide_eq_true j0, Bool.true_and]
          rw [ew] at z0 z1 z3
          by_cases c0 : y = 0
          · rw [z0 c0, g0 (q0.mpr c0)]; rfl
          · by_cases c1 : y = 1
            · rw [z1 c1, g1 (q1.mpr c1)]; rfl
            · by_cases c2 : y = 2
              · have cgn := fz_cg (G := G) (w := fz_rw G p (b * 2 ^ (p - 1) + fz_Z (fz_gt G (fz_w G p b)) p)) (w' := fz_w G p b) (tn := fz_rt p (b * 2 ^ (p - 1) + fz_Z (fz_gt G (fz_w G p b)) p)) (tn' := fz_gt G (fz_w G p b)) (n := p) (fun j hj => ⟨congrFun ew j, et j hj⟩) p (Nat.le_refl _)
                have tP := fz_tb_P (ok := sk_fe G p) (pr := sk_pr G (cc_tr (J 108)) p) (li_p (glen G) p)
                rw [hb] at tP
                obtain ⟨-, bok, -⟩ := tP
                unfold sk_fe fz_fe at bok
                rw [Bool.and_eq_true, decide_eq_true_eq, decide_eq_true_eq] at bok
                have L4 := hok.1.2.1
                rw [z2 c2, g2 (q2.mpr c2), (fk _).2 (by rw [cgn.1]; omega)]
                congr 1
                unfold fz_cs fz_lc
                rw [cgn.1, cgn.2.1, cgn.2.2.1, cgn.2.2.2.1, cgn.2.2.2.2.1, cgn.2.2.2.2.2.1]
              · obtain ⟨y1, y2, y3⟩ := z3 (by omega)
                exact to_P_uq (w := fz_w G p b) (tn := fz_gt G (fz_w G p b)) (by omega) y14 (g3 (fun z => c0 (q0.mp z)) (fun z => c1 (q1.mp z)) (fun z => c2 (q2.mp z))) y1 (fun q9 qp => by rw [y2 q9 qp, et _ qp]) y3
      rw [ev]
      exact ⟨rfl, n2_sim (n2_tr nC (n2_fo f2)) (sim_same hJ)⟩
    unfold sv_t at sv
    refine w_X11_truest_11 (d := d + 610) hs ?_
    cases hb : fz_tb (sk_fe G p) (sk_pr G (cc_tr (J 108)) p) (li_p (glen G) p) with
    | none =>
      rw [hb] at sv
      refine ⟨fun z => absurd sv z, fun _ => mdr _ (fun _ => rfl) (fun _ => rfl) fun b hb' => ?_⟩
      rw [hb] at hb'
      cases hb'
    | some b =>
      rw [hb] at sv
      obtain ⟨sv1, sv2⟩ := sv
      have pb : sk_pr G (cc_tr (J 108)) p b ≤ 10 ^ p := fz_pr_le htr p
      have t6 : 10 ^ p ≤ 10 ^ 6 := Nat.pow_le_pow_right (by omega) p1
      have t66 : (10 : Nat) ^ 6 = 1000000 := by decide
      have t0 : 0 < 10 ^ p := Nat.pow_pos (by omega)
      have gpos : 0 < Nat.gcd (sk_pr G (cc_tr (J 108)) p b) (10 ^ p) := Nat.gcd_pos_of_pos_right _ t0
      have gle : Nat.gcd (sk_pr G (cc_tr (J 108)) p b) (10 ^ p) ≤ 10 ^ p := Nat.le_of_dvd t0 (Nat.gcd_dvd_right _ _)
      have gnz : ¬ nI (Nat.gcd (sk_pr G (cc_tr (J 108)) p b) (10 ^ p)) = 0 := fun z => by
        have := (nI_eq (b := 0) (by omega) (by omega)).mp z
        omega
      have w16 : ∀ j, j < p → fz_w G p b j < 16 := fun j hj => hok.2.2.1 j _ hj (op_d_lt (hok.2.1 j hj).1)
      have u32 := fz_tu_lt (tn := fz_gt G (fz_w G p b)) p0 p1 rfl
      have cs := fz_cs_le (w := fz_w G p b) (tn := fz_gt G (fz_w G p b)) hok p1
      refine ⟨fun _ => ?_, fun z => absurd z (by rw [sv1]; exact hf_nm1 (by omega))⟩
      rw [p2]
      refine cs_powerOfTen hs p1 (w_X11_truest_34 (d := d + 610) hs ?_)
      rw [sv1]
      refine cs_commonDivisor (d := d + 609) hs pb t0 (by omega) (w_X11_truest_46 (d := d + 610) hs ?_)
      rw [sv1, sv2]
      refine ⟨fun c0 => ⟨fun c1 => ⟨fun c2 => ?_, fun c2 => ?_⟩, fun c1 => ⟨gnz, ?_⟩⟩, fun c0 => ⟨gnz, ?_⟩⟩
      · refine cs_toldIn (d := d + 608) (p := p) (c := fz_cs G p (fz_w G p b) (fz_gt G (fz_w G p b))) (w := fz_w G p b) (tn := fz_gt G (fz_w G p b)) hs p0 p1 p2 w16 rfl cs c0 c1 c2 fun u hu => w_X11_truest_98 hs (mdr u (fun q => hu.2 q) (fun z => by rw [hb] at z; cases z) fun b' hb' => ?_)
        rw [hb] at hb'
        cases hb'
        exact ⟨fun z => absurd z c0, fun z => absurd z c1, fun z => absurd z c2, fun _ _ _ => hu⟩
      · have e : (lN (fz_ky G p (fz_w G p b) (fz_gt G (fz_w G p b))) >>> ((30 : Int32).toInt64 &&& 63)).toInt32 = nI (fz_cs G p (fz_w G p b) (fz_gt G (fz_w G p b))) := ky_costIn p1 w16 (by omega) cs
        rw [e]
        refine mdr _ (fun q => absurd c2 (neg q).2.2) (fun z => by rw [hb] at z; cases z) fun b' hb' => ?_
        rw [hb] at hb'
        cases hb'
        exact ⟨fun z => absurd z c0, fun z => absurd z c1, fun _ => rfl, fun _ _ z => absurd c2 z⟩
      · rw [nI_dv (by omega) gpos (by omega)]
        refine mdr _ (fun q => absurd c1 (neg q).2.1) (fun z => by rw [hb] at z; cases z) fun b' hb' => ?_
        rw [hb] at hb'
        cases hb'
        exact ⟨fun z => absurd z c0, fun _ => rfl, fun z => by rw [c1] at z; exact absurd z (by decide), fun _ z => absurd c1 z⟩
      · rw [nI_dv (by omega) gpos (by omega)]
        refine mdr _ (fun q => absurd c0 (neg q).1) (fun z => by rw [hb] at z; cases z) fun b' hb' => ?_
        rw [hb] at hb'
        cases hb'
        exact ⟨fun _ => rfl, fun z => by rw [c0] at z; exact absurd z (by decide), fun z => by rw [c0] at z; exact absurd z (by decide), fun z => absurd c0 z⟩
  · have no : p = 0 ∨ ∃ j, j < p ∧ (cc_li cls (J 101 14) (J 104) w (J 106) (J 107) (J 108) (J 109) (J 112) j).length = 0 := by
      by_cases q0 : p = 0
      · exact Or.inl q0
      · right
        apply Classical.byContradiction
        intro z
        refine row ⟨by omega, fun j hj => ?_⟩
        have : ¬ (cc_li cls (J 101 14) (J 104) w (J 106) (J 107) (J 108) (J 109) (J 112) j).length = 0 := fun y => z ⟨j, hj, y⟩
        omega
    obtain ⟨x1, x2⟩ := cR1 no
    have R0 : (if p = 0 then 0 else 1) * li_p (fun j => (cc_li cls (J 101 14) (J 104) w (J 106) (J 107) (J 108) (J 109) (J 112) j).length) p * 2 ^ (p - 1) = 0 := by
      rcases no with q | ⟨j, j1, j2⟩
      · rw [if_pos q, Nat.zero_mul, Nat.zero_mul]
      · rw [li_p_z (len := fun j => (cc_li cls (J 101 14) (J 104) w (J 106) (J 107) (J 108) (J 109) (J 112) j).length) j2 p j1, Nat.mul_zero, Nat.zero_mul]
    refine w_X11_truest_11 (d := d + 610) hs ⟨fun z => absurd x2 z, fun _ => mdl _ (fun _ => rfl) fun y y14 ey C nC e36 _ => ?_⟩
    rw [R0] at e36
    have c158 : C 158 = J 158 := nC.1 158 (by omega)
    refine ms_tens (d := d + 610) hs p1 (by rw [c158]; exact p3) (w_X12_truest_62 (d := d + 610) hs ⟨fun _ => ⟨fun z => absurd rfl z, fun _ => ⟨rfl, n2_sim nC (sim_same hJ)⟩⟩, fun q => absurd (by rw [e36]; exact Int32.le_refl _) q⟩)
end OPTRUE
