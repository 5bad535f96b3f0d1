/-! fit, as an operation -/
theorem n2_fo {J J' : hf_I} (h : fo_fr J J') : hf_n2 J J' := ⟨fun a ha => h.1 a (by omega) (by omega) (by omega) (by omega) (by omega) (by omega), fun j _ => by rw [h.1 136 (by omega) (by omega) (by omega) (by omega) (by omega) (by omega)], fun j hj => h.2 j (by omega) (by omega)⟩
section OPFIT
variable {X : hf_X} {d N t : Nat} {T : hf_T} {I : hf_I} {L : hf_L} {P : hf_P} {cls : List gr_c1}
set_option maxHeartbeats 2000000 in
theorem op_fit {a : Int32} (h : hf_Sim hf_SL hf_CC N t T I L P) : hf_Pair X Y_X11_fit Y_X12_fit [.int a] (d + 611) 0 0 (t, T, I, L, P) (hf_SimM hf_SL hf_CC (N + 1)) := by
  have hs := h.1
  have m5 := h.2.1.2.2.2.2.1
  refine w_X11_fit_0 (d := d + 610) hs ⟨fun c0 => ?_, fun c0 => ?_⟩
  · refine cs_solve (d := d + 598) h fun J L' n3 hJ e15 => ?_
    obtain ⟨cls, hc, hm⟩ := sim_law hJ
    obtain ⟨m1, m2, ⟨t1, t2, t3, t4, t5⟩, ⟨w, w1, w2, w3, w4, w5⟩, ⟨p, p1, p2, p3, p4⟩, -⟩ := id hJ.2.1
    have p0 : 1 ≤ p := by
      rw [n3.1 101 (by omega)] at p2
      rcases Nat.eq_zero_or_pos p with z | z
      · rw [z] at p2; exact absurd p2 c0
      · exact z
    obtain ⟨lt0, hlt, cR⟩ := cc_found hJ e15 hc w2 w1 p2 p1
    obtain ⟨LN, hr, bl, ⟨r1, r2, r3, r4⟩, r5, r6, r7, gl, gh, gb, len3, opt, wn, lsn, trn, gok⟩ := cc_facts (lt0 := lt0) hJ cls w2 w1 p2 p1 hlt
    have n317 : ¬ J 158 317 = 0 := by
      rw [p3]
      intro z
      have := (nI_eq (b := 0) (by omega) (by omega)).mp z
      omega
    -- the model, up to its lists
    have mdl : ∀ (u : Int32), (a < 0 ∨ 14 < a → u = -1) → (∀ y, y ≤ 14 → a = nI y → ∀ C, hf_n2 J C → C 156 36 = nI ((if p = 0 then 0 else 1) * li_p (fun j => (cc_li cls (J 101 14) (J 104) w (J 106) (J 107) (J 108) (J 109) (J 112) j).length) p * 2 ^ (p - 1)) → (1 ≤ p → (∀ j, j < p → 1 ≤ (cc_li cls (J 101 14) (J 104) w (J 106) (J 107) (J 108) (J 109) (J 112) j).length) → ro_ok C p LN bl (fun j => (cc_li cls (J 101 14) (J 104) w (J 106) (J 107) (J 108) (J 109) (J 112) j).length) (fun j k => (cc_li cls (J 101 14) (J 104) w (J 106) (J 107) (J 108) (J 109) (J 112) j).getD k 0) (cc_wn (J 102) (J 101 14) (J 109) lt0) (cc_ls cls (J 101 14) (J 104) (J 106) (J 107) (J 108) (J 109))) → hf_G X Y_X12_fit (d + 611) 0 0 31 [some (.ref 156), some (.int (nI y)), none, none, none, none, none] [] (t, T, C, L', P) (fun r2 M2 => r2 = some (.int u) ∧ hf_SimM hf_SL hf_CC (N + 1) M2)) → ∃ u0, some (Value.int u) = some (.int u0) ∧ hf_G X Y_X12_fit (d + 611) 0 0 0 (hf_en (.ref 156 :: [.int a]) 7) [] (t, T, J, L', P) (fun r2 M2 => r2 = some (.int u0) ∧ hf_SimM hf_SL hf_CC (N + 1) M2) := by
      intro u u1 u2
      refine ⟨u, rfl, w_X12_fit_0 (d := d + 610) hs ⟨fun q => ⟨by rw [u1 (Or.inl q)], sim_same hJ⟩, fun q => ⟨fun q2 => ⟨by rw [u1 (Or.inr q2)], sim_same hJ⟩, fun q2 => ⟨fun _ => ?_, fun z => absurd z n317⟩⟩⟩⟩
      obtain ⟨y, y1, rfl⟩ := nI_of2 (x := a) (M := 14) (n := 14) (by decide) q (Int32.not_lt.mp q2)
      rw [← t5.1]
      exact md_lists (d := d) hJ hc hm w2 w1 p2 p1 hlt r5 r2 r7 r3 n2_rf fun C nC e36 ok => u2 y y1 rfl C nC e36 ok
    obtain ⟨cR1, cR2⟩ := cR
    by_cases row : ∀ j, j < p → 1 ≤ (cc_li cls (J 101 14) (J 104) w (J 106) (J 107) (J 108) (J 109) (J 112) j).length
    · obtain ⟨x1, x2, -⟩ := cR2 p0 row
      have hok := gok row
      obtain ⟨b1, b2⟩ := cc_best (cls := cls) hJ w2 w1 p2 p0 p1 hlt gl gh gb hok r6 _ rfl _ rfl
      generalize hG : cc_G cls (J 101 12) (J 101 13) (J 101 14) (J 102) (J 104) w (J 106) (J 107) (J 108) (J 109) lt0 (J 112) (J 113) = G at x1 x2 hok b1 b2 gl gh gb
      have eL : glen G = fun j => (cc_li cls (J 101 14) (J 104) w (J 106) (J 107) (J 108) (J 109) (J 112) j).length := by rw [← hG]; rfl
      have eO : gopt G = fun j k => (cc_li cls (J 101 14) (J 104) w (J 106) (J 107) (J 108) (J 109) (J 112) j).getD k 0 := by rw [← hG]; rfl
      have eW : gwn G = cc_wn (J 102) (J 101 14) (J 109) lt0 := by rw [← hG]; rfl
      generalize hB : ft_B (ft_k p LN bl hr (glen G) (gopt G) (gwn G)) (ft_c cls (J 158) p bl (glen G) (gopt G) (gwn G) (cc_ls cls (J 101 14) (J 104) (J 106) (J 107) (J 108) (J 109))) (li_p (glen G) p * 2 ^ (p - 1)) = B at b1 b2
      have lp6 : li_p (glen G) p ≤ 729 := Nat.le_trans (li_p_le3 (fun j => by rw [eL]; exact len3 j) p) (Nat.pow_le_pow_right (n := 3) (i := p) (j := 6) (by omega) p1)
      have p32 : 2 ^ (p - 1) ≤ 32 := Nat.pow_le_pow_right (n := 2) (i := p - 1) (j := 5) (by omega) (by omega)
      have Rb : li_p (glen G) p * 2 ^ (p - 1) ≤ 729 * 32 := Nat.mul_le_mul lp6 p32
      -- the model, in rows
      have mdr : ∀ (u : Int32), (a < 0 ∨ 14 < a → u = -1) → (a = 1 → u = nI B.2.2) → (¬ a = 1 → B.1 = none → u = -1) → (∀ r, B.1 = some r → (a = 0 → u = B.2.1) ∧ (a = 2 → u = nI (op_n (fz_rt p r) p)) ∧ (¬ a = 0 → ¬ a = 1 → ¬ a = 2 → to_P p (fz_rw G p r) (fz_rt p r) a u)) → ∃ u0, some (Value.int u) = some (.int u0) ∧ hf_G X Y_X12_fit (d + 611) 0 0 0 (hf_en (.ref 156 :: [.int a]) 7) [] (t, T, J, L', P) (fun r2 M2 => r2 = some (.int u0) ∧ hf_SimM hf_SL hf_CC (N + 1) M2) := by
        intro u u0 u1 u2 u3
        refine mdl u u0 fun y y14 ey C nC e36 ok => ?_
        subst ey
        rw [if_neg (by omega), Nat.one_mul, ← eL] at e36
        have ok' := ok p0 row
        rw [← eL, ← eO, ← eW] at ok'
        have c158 : C 158 = J 158 := nC.1 158 (by omega)
        refine ms_fit (d := d) (cls := cls) (hairs := hr) hs (lw_m_fr hm c158) ok' e36 (by omega) (by rw [c158]; exact t3.1.symm.trans r6) r4 y14 fun C2 v f2 v1 v2 v3 => ?_
        rw [c158, hB] at v1 v2 v3
        have ev : v = u := by
          have q1 : (nI y = 1) ↔ y = 1 := nI_eq (b := 1) (by omega) (by omega)
          have q0 : (nI y = 0) ↔ y = 0 := nI_eq (b := 0) (by omega) (by omega)
          have q2 : (nI y = 2) ↔ y = 2 := nI_eq (b := 2) (by omega) (by omega)
          by_cases e1 : y = 1
          · rw [v1 e1, u1 (q1.mpr e1)]
          · cases hb : B.1 with
            | none => rw [v2 e1 hb, u2 (fun z => e1 (q1.mp z)) hb]
            | some r =>
              obtain ⟨z0, z2, z3⟩ := v3 r hb
              obtain ⟨g0, g2, g3⟩ := u3 r hb
              by_cases e0 : y = 0
              · rw [z0 e0, g0 (q0.mpr e0)]
              · by_cases e2 : y = 2
                · rw [z2 e2, g2 (q2.mpr e2)]; rfl
                · obtain ⟨y1, y2, y3⟩ := z3 (by omega)
                  exact to_P_uq (w := fz_rw G p r) (tn := fz_rt p r) (by omega) y14 (g3 (fun z => e0 (q0.mp z)) (fun z => e1 (q1.mp z)) (fun z => e2 (q2.mp z))) y1 y2 y3
        rw [ev]
        exact ⟨rfl, n2_sim (n2_tr nC (n2_fo f2)) (sim_same hJ)⟩
      have wf := fz_wf_S (f := fun k => fz_T G (p - 1) 0 0 k false) (glen G 0) (fun k _ => fz_T_wf)
      have bd := fz_bd_S (N := 6 ^ (p - 1)) (B := (p - 1 + 2) * 2199023255552) (f := fun k => fz_T G (p - 1) 0 0 k false) (glen G 0) (fun k hk => fz_T_bd p1 hok (by omega) hk)
      have l3 := (hok.2.1 0 (by omega)).2
      have n6 : 6 ^ (p - 1) ≤ 6 ^ 5 := Nat.pow_le_pow_right (by omega) (by omega)
      have n65 : (6 : Nat) ^ 5 = 7776 := by decide
      have nb : glen G 0 * 6 ^ (p - 1) ≤ 3 * 7776 := Nat.mul_le_mul l3 (by omega)
      have b1' := bd.1
      have neg : a < 0 ∨ 14 < a → ¬ a = 0 ∧ ¬ a = 1 ∧ ¬ a = 2 := by
        intro q
        refine ⟨fun z => ?_, fun z => ?_, fun z => ?_⟩ <;> (rw [z] at q; exact q.elim (by decide) (by decide))
      refine w_X11_fit_23 (d := d + 610) hs ⟨fun c1 => ⟨fun cw => ⟨fun c0 => ⟨fun c2 => ?_, fun c2 => ?_⟩, fun c0 => ?_⟩, fun cw => ?_⟩, fun c1 => ?_⟩
      · -- WORDS and TURNS
        rcases b2 with ⟨b3, b4⟩ | ⟨r, rR, rn, b3, b4, b5⟩
        · exact absurd (by rw [x1, wf.mpr b4]; rfl) cw
        · rw [x2, b5]
          have w16 : ∀ j, j < p → fz_rw G p r j < 16 := fun j hj => hok.2.2.1 j _ hj (op_d_lt (hok.2.1 j hj).1)
          refine cs_toldIn (d := d + 608) (p := p) (c := fz_cs G p (fz_rw G p r) (fz_rt p r)) (w := fz_rw G p r) (tn := fz_rt p r) hs p0 p1 p2 w16 rfl (fz_cs_le hok p1) c0 c1 c2 fun u hu => w_X11_fit_91 hs (mdr u (fun q => hu.2 q) (fun z => absurd z c1) (fun _ z => by rw [b3] at z; cases z) fun r' hr' => ?_)
          rw [b3] at hr'
          cases hr'
          exact ⟨fun z => absurd z c0, fun z => absurd z c2, fun _ _ _ => hu⟩
      · -- LINES
        rcases b2 with ⟨b3, b4⟩ | ⟨r, rR, rn, b3, b4, b5⟩
        · exact absurd (by rw [x1, wf.mpr b4]; rfl) cw
        · rw [x2, b5]
          refine w_X11_linesIn_0 hs (cs_bc64 hs (w_X11_linesIn_9 hs (w_X11_fit_78 hs ?_)))
          have e : 1 + bc64 (fz_l (some (fz_ky G p (fz_rw G p r) (fz_rt p r))) &&& 63) = nI (op_n (fz_rt p r) p) := ky_lines p0 p1 rfl
          rw [e]
          refine mdr _ (fun q => absurd c2 (neg q).2.2) (fun z => absurd z c1) (fun _ z => by rw [b3] at z; cases z) fun r' hr' => ?_
          rw [b3] at hr'
          cases hr'
          exact ⟨fun z => absurd z c0, fun _ => rfl, fun _ _ z => absurd c2 z⟩
      · -- the cost
        rcases b2 with ⟨b3, b4⟩ | ⟨r, rR, rn, b3, b4, b5⟩
        · exact absurd (by rw [x1, wf.mpr b4]; rfl) cw
        · have w16 : ∀ j, j < p → fz_rw G p r j < 16 := fun j hj => hok.2.2.1 j _ hj (op_d_lt (hok.2.1 j hj).1)
          have u32 := fz_tu_lt (tn := fz_rt p r) p0 p1 rfl
          have e : (L' 136 16 >>> ((30 : Int32).toInt64 &&& 63)).toInt32 = nI (fz_cs G p (fz_rw G p r) (fz_rt p r)) := by
            rw [x2, b5]
            exact ky_costIn p1 w16 (by omega) (fz_cs_le hok p1)
          rw [e]
          refine mdr _ (fun q => absurd c0 (neg q).1) (fun z => absurd z c1) (fun _ z => by rw [b3] at z; cases z) fun r' hr' => ?_
          exact ⟨fun _ => b4.symm, fun z => by rw [c0] at z; exact absurd z (by decide), fun z => absurd c0 z⟩
      · -- none FITS
        have z0 : (fz_S (fun k => fz_T G (p - 1) 0 0 k false) (glen G 0)).1 = 0 := by
          rw [x1] at cw
          exact (nI_eq (b := 0) (by omega) (by omega)).mp cw
        have z2 := wf.mp z0
        rcases b2 with ⟨b3, b4⟩ | ⟨r, rR, rn, b3, b4, b5⟩
        · refine mdr _ (fun _ => rfl) (fun z => absurd z c1) (fun _ _ => rfl) fun r' hr' => ?_
          rw [b3] at hr'
          cases hr'
        · rw [z2] at b5
          cases b5
      · refine mdr _ (fun q => absurd c1 (neg q).2.1) (fun _ => by rw [x1, b1]) (fun z => absurd c1 z) fun r' _ => ⟨fun z => by rw [c1] at z; exact absurd z (by decide), fun z => by rw [c1] at z; exact absurd z (by decide), fun _ z => absurd c1 z⟩
    · -- there is no row
      have no : p = 0 ∨ ∃ j, j < p ∧ (cc_li cls (J 101 14) (J 104) w (J 106) (J 107) (J 108) (J 109) (J 112) j).length = 0 := by
        right
        apply Classical.byContradiction
        intro z
        refine row fun j hj => ?_
        have : ¬ (cc_li cls (J 101 14) (J 104) w (J 106) (J 107) (J 108) (J 109) (J 112) j).length = 0 := fun y => z ⟨j, hj, y⟩
        omega
      obtain ⟨x1, x2⟩ := cR1 no
      have R0 : (if p = 0 then 0 else 1) * li_p (fun j => (cc_li cls (J 101 14) (J 104) w (J 106) (J 107) (J 108) (J 109) (J 112) j).length) p * 2 ^ (p - 1) = 0 := by
        rcases no with q | ⟨j, j1, j2⟩
        · rw [if_pos q, Nat.zero_mul, Nat.zero_mul]
        · rw [li_p_z (len := fun j => (cc_li cls (J 101 14) (J 104) w (J 106) (J 107) (J 108) (J 109) (J 112) j).length) j2 p j1, Nat.mul_zero, Nat.zero_mul]
      have mdn : ∀ (u : Int32), (a = 1 → u = 0) → (¬ a = 1 → u = -1) → ∃ u0, some (Value.int u) = some (.int u0) ∧ hf_G X Y_X12_fit (d + 611) 0 0 0 (hf_en (.ref 156 :: [.int a]) 7) [] (t, T, J, L', P) (fun r2 M2 => r2 = some (.int u0) ∧ hf_SimM hf_SL hf_CC (N + 1) M2) := by
        intro u u1 u2
        refine mdl u (fun q => u2 fun z => by rw [z] at q; exact q.elim (by decide) (by decide)) fun y y14 ey C nC e36 _ => ?_
        subst ey
        rw [R0] at e36
        have fin : ∀ v, v = u → (some (Value.int v) = some (.int u) ∧ hf_SimM hf_SL hf_CC (N + 1) (t, T, C, L', P)) := fun v hv => ⟨by rw [hv], n2_sim nC (sim_same hJ)⟩
        refine w_X12_fit_31 hs (w_X12_fit_42 (d := d + 610) hs ⟨fun _ => ⟨fun q => ⟨fun z => absurd q z, fun _ => fin _ (u1 q).symm⟩, fun q => ⟨fun z => absurd rfl z, fun _ => ⟨fun _ => fin _ (u2 q).symm, fun z => absurd z q⟩⟩⟩, fun q => absurd (by rw [e36]; exact Int32.le_refl _) q⟩)
      refine w_X11_fit_23 (d := d + 610) hs ⟨fun c1 => ⟨fun cw => absurd x1 cw, fun _ => mdn _ (fun z => absurd z c1) (fun _ => rfl)⟩, fun c1 => mdn _ (fun _ => x1) (fun z => absurd c1 z)⟩
  · obtain ⟨p, p1, p2, p3, -⟩ := m5
    have e0 : I 158 317 = 0 := by
      rw [p3]
      rw [p2] at c0
      exact c0
    exact ⟨_, rfl, w_X12_fit_0 (d := d + 610) hs ⟨fun _ => ⟨rfl, sim_same h⟩, fun _ => ⟨fun _ => ⟨rfl, sim_same h⟩, fun _ => ⟨fun z => absurd e0 z, fun _ => ⟨rfl, sim_same h⟩⟩⟩⟩⟩
end OPFIT
