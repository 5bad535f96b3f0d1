/-! law, related -/
section OPLAW
variable {X : hf_X} {d N t : Nat} {T : hf_T} {I : hf_I} {L : hf_L} {P : hf_P}
/-- the model reads, whatever the class has left in its own cells -/
theorem ms_lread {R : hf_I} {z m : Nat} {Q : Option Value → hf_M → Prop} (hs : hf_Lay t T P) (h : hf_SO I) (hR : kpm I R) (h6 : ¬ I 158 320 = 6) (z4 : z ≤ 400) (h10 : I 156 10 = nI z) (hb : tk_byte (I 163) z) (hm : m ≤ z) (hlt : ∀ k, k < m → tk_s (I 163) z k < z) (hge : ∀ k, m ≤ k → tk_s (I 163) z k = z)
    (h2 : (gr_al false (tk_c (I 163) z) (tk_v (I 163) z) m 12 0 0).1 = 2 → ∀ B1, (∀ a, ¬ a = 156 → ¬ a = 165 → ¬ a = 166 → ¬ a = 167 → B1 a = R a) → (∀ j, ¬ j = 7 → ¬ j = 10 → ¬ j = 11 → ¬ (15 ≤ j ∧ j ≤ 18) → B1 156 j = I 156 j) → B1 156 10 = 0 → B1 156 11 = -1 → B1 156 15 = nI m → (∀ k, k < m → B1 165 k = nI (tk_c (I 163) z k) ∧ B1 166 k = nI (tk_v (I 163) z k)) → hf_G X Y_X12_lays (d + 613) 0 0 0 (hf_en [.ref 156, .int (B1 158 320)] 3) [] (t, T, B1, L, P) (fun r M => hf_G X Y_X12_law (d + 614) 0 0 56 [some (.ref 156)] (r.toList ++ []) M Q))
    (h1 : (gr_al false (tk_c (I 163) z) (tk_v (I 163) z) m 12 0 0).1 = 1 → ∀ B1, (∀ a, ¬ a = 156 → ¬ a = 165 → ¬ a = 166 → ¬ a = 167 → B1 a = R a) → (∀ j, ¬ j = 7 → ¬ j = 10 → ¬ j = 11 → ¬ (15 ≤ j ∧ j ≤ 18) → B1 156 j = I 156 j) → B1 156 10 = 0 → B1 156 11 = nI (tk_s (I 163) z (gr_al false (tk_c (I 163) z) (tk_v (I 163) z) m 12 0 0).2.1) → Q (some (.int (-6))) (t, T, hf_up (hf_up B1 156 0 (-6)) 157 6 (B1 157 6 + 1), L, P)) :
    hf_G X Y_X12_law (d + 614) 0 0 0 (hf_en [.ref 156] 1) [] (t, T, R, L, P) Q := by
  have eR : ∀ a, 156 ≤ a → a ≤ 180 → R a = I a := hR
  have ff : ∀ {B1 : hf_I}, rd_fr (hf_up R 156 7 0) B1 → (∀ a, ¬ a = 156 → ¬ a = 165 → ¬ a = 166 → ¬ a = 167 → B1 a = R a) ∧ (∀ j, ¬ j = 7 → ¬ j = 10 → ¬ j = 11 → ¬ (15 ≤ j ∧ j ≤ 18) → B1 156 j = I 156 j) := by
    intro B1 f
    refine ⟨fun a z1 z2 z3 z4 => ?_, fun j z1 z2 z3 z4 => ?_⟩
    · rw [f.1 a z1 z2 z3 z4, hf_up_no z1]
    · rw [f.2 j z2 z3 (by omega) (by omega) (by omega) (by omega), ← eR 156 (by omega) (by omega)]
      show upd (R 156) 7 0 j = _
      rw [hf_upd_ne z1]
  have q162 : hf_up R 156 7 0 162 = I 162 := eR 162 (by omega) (by omega)
  have q163 : hf_up R 156 7 0 163 = I 163 := eR 163 (by omega) (by omega)
  have q10 : hf_up R 156 7 0 156 10 = nI z := by
    show R 156 10 = _
    rw [eR 156 (by omega) (by omega), h10]
  refine w_X12_law_0 (d := d + 613) hs ⟨fun _ => ms_reads (d := d + 2) (S := false) (tp := I 163) (z := z) (m := m) hs (by rw [q162]; exact h.2.2.2.2.2.2.2) z4 hb hm hlt hge q163 q10 rfl (fun g B1 f1 f2 f3 f4 f5 => ?_) (fun g B1 f1 f2 f3 => ?_), fun q => absurd (by rw [← eR 158 (by omega) (by omega)]; exact q) h6⟩
  · obtain ⟨g1, g2⟩ := ff f1
    exact w_X12_law_34 (d := d + 613) hs ⟨fun _ => h2 g B1 g1 g2 f2 f3 f4 fun k hk => ⟨(f5 k (by omega)).1, (f5 k (by omega)).2.1⟩, fun q => absurd q (by decide)⟩
  · obtain ⟨g1, g2⟩ := ff f1
    exact w_X12_law_34 (d := d + 613) hs ⟨fun q => absurd rfl q, fun _ => h1 g B1 g1 g2 f2 f3⟩
theorem op_law (hN : N ≤ 100000) (h : hf_Sim hf_SL hf_CC N t T I L P) : hf_Pair X Y_X11_law Y_X12_law [] (d + 614) 7 868 (t, T, I, L, P) (hf_SimM hf_SL hf_CC (N + 1)) := by
  have hs := h.1
  have h81 := hs.1
  have hs' := lay_123 hs
  obtain ⟨z, z4, h13, h10, htp⟩ := id h.2.2.1.2.1
  obtain ⟨n, n6, hn, hn2, -⟩ := id h.2.1.2.2.2.2.2.2.2.2.2
  have hb : tk_byte (I 122) z := fun j hj => (htp j hj).2
  have ag : ∀ j, j < z → I 122 j = I 163 j := fun j hj => (htp j hj).1
  have hb2 : tk_byte (I 163) z := tk_byte_cg ag hb
  obtain ⟨m, hm, hlt, hge⟩ := tk_many (I 122) z
  have ec := tk_c_cg ag
  have ev := tk_v_cg ag
  have es := tk_s_cg ag
  have hlt2 : ∀ k, k < m → tk_s (I 163) z k < z := fun k hk => by rw [← es k]; exact hlt k hk
  have hge2 : ∀ k, m ≤ k → tk_s (I 163) z k = z := fun k hk => by rw [← es k]; exact hge k hk
  refine w_X11_law_0_l (d := d + 612) hs ⟨fun g6 => ?_, fun g6 => ?_⟩
  · have n5 : n < 6 := by
      rw [hn] at g6
      exact (nI_ltI (b := 6) (by omega) (by omega)).mp g6
    have ne6 : ¬ I 158 320 = 6 := fun q => by
      rw [hn2] at q
      have := (nI_eq (b := 6) (by omega) (by omega)).mp q
      omega
    rw [h13]
    refine cs_reads (d := d + 4) (S := false) (tp := I 122) (z := z) (m := m) hs z4 hb hm hlt hge rfl (fun g A1 g1 g2 gF => ?_) (fun g A1 g1 g2 => ?_)
    · -- it can be read
      rw [ec, ev] at g g1
      have m4 : m ≤ 400 := by omega
      have hc0 : ∀ j, m ≤ j → tk_c (I 163) z j = 0 := fun j hj => tk_c_end (hge2 j hj)
      obtain ⟨gd1, gd2, -⟩ := gr_al_gd (S := false) (c := tk_c (I 163) z) (v := tk_v (I 163) z) (m := m) 12 0 0 (by omega) g
      have gd3 := gr_al_len (S := false) (v := tk_v (I 163) z) hc0 m4 12 0 0 (by omega) g
      generalize hcl : (gr_al false (tk_c (I 163) z) (tk_v (I 163) z) m 12 0 0).2.2 = cls at g1 gd1 gd2 gd3
      obtain ⟨e, he⟩ : ∃ e, 181 + e = 100 + t := ⟨t - 81, by omega⟩
      have h6 : A1 124 6 = nI (2 * (cl_cd cls).length) := g1.1
      have h7 : A1 124 7 = nI cls.length := g1.2.1
      have A123 : ∀ a, a < 123 ∨ 130 < a → ¬ a = 100 → A1 a = I a := fun a ha h1 => by rw [g2 a ha, hf_up_no h1]
      refine hf_G_junk (T' := fun a => if 100 + t ≤ a then xs (2 * (cl_cd cls).length) cls.length (a - (100 + t)) else T a) (I' := fun a => if 100 + t ≤ a then (fun _ => 0) else A1 a) (L' := fun a => if 100 + t ≤ a then (fun _ => 0) else L a) (P' := fun a => if 100 + t ≤ a then (fun _ => none) else hf_upP P 123 2 (some 122) a) (fun b hb => ⟨if_neg (by omega), if_neg (by omega), if_neg (by omega), if_neg (by omega)⟩) ?_
      generalize hT0 : (fun a => if 100 + t ≤ a then xs (2 * (cl_cd cls).length) cls.length (a - (100 + t)) else T a) = T0
      generalize hI0 : (fun a => if 100 + t ≤ a then (fun _ => 0) else A1 a : hf_I) = I0
      generalize hL0 : (fun a => if 100 + t ≤ a then (fun _ => 0) else L a : hf_L) = L0
      generalize hP0 : (fun a => if 100 + t ≤ a then (fun _ => none) else hf_upP P 123 2 (some 122) a : hf_P) = P0
      have fT : ∀ b, b < 100 + t → T0 b = T b := fun b hb => by rw [← hT0]; exact if_neg (by omega)
      have fI : ∀ b, b < 100 + t → I0 b = A1 b := fun b hb => by rw [← hI0]; exact if_neg (by omega)
      have fP : ∀ b, b < 100 + t → P0 b = hf_upP P 123 2 (some 122) b := fun b hb => by rw [← hP0]; exact if_neg (by omega)
      have nT : ∀ j, T0 (181 + e + j) = xs (2 * (cl_cd cls).length) cls.length j := fun j => by
        rw [← hT0]
        show (if 100 + t ≤ 181 + e + j then xs (2 * (cl_cd cls).length) cls.length (181 + e + j - (100 + t)) else T (181 + e + j)) = _
        rw [if_pos (by omega), he, Nat.add_sub_cancel_left]
      have nw : ∀ j, jk_nw T0 I0 L0 P0 (181 + e + j) (xs (2 * (cl_cd cls).length) cls.length j) := fun j => ⟨nT j, by rw [← hI0]; exact if_pos (by omega), by rw [← hL0]; exact if_pos (by omega), by rw [← hP0]; exact if_pos (by omega)⟩
      have hs0 : hf_Lay t T0 P0 := lay_cg hs' (Nat.le_refl _) (fun b hb => fT b (by omega)) (fun b hb _ _ => fP b (by omega))
      have i124 : I0 124 = A1 124 := fI 124 (by omega)
      have i101 : I0 101 = I 101 := by rw [fI 101 (by omega), A123 101 (by omega) (by omega)]
      refine w_X11_law_42_l (d := d + 612) hs0 ⟨fun _ => cs_trim (d := d + 611) hs0 he (by omega) (by omega) (by rw [i124]; exact h6) (by rw [i124]; exact h7) (fun j _ => nT j) (fun j _ => nw j) fun I1 b1 b2 b3 b4 b5 => ?_, fun q => absurd q (by decide)⟩
      have hs1 : hf_Lay (t + 7) T0 (ti_P (181 + e) P0) := lay_cg hs0 (by omega) (fun _ _ => rfl) (fun b hb _ _ => ti_P_no (by omega))
      have j101 : I1 101 = I 101 := (b1 101 (by omega)).trans i101
      refine w_X11_law_76_l (d := d + 613) hs1 (nT 0) (by omega) ⟨?_, ?_⟩
      · rw [i101, hn]
        exact vp_in_nI (by omega) (by omega)
      rw [i101, j101, hn, nI_clamp (show n < 2 ^ 31 by omega), nI_1]
      generalize hP2 : hf_upP (ti_P (181 + e) P0) 111 n (some (181 + e)) = P2
      have hs2 : hf_Lay (t + 7) T0 P2 := lay_cg hs1 (Nat.le_refl _) (fun _ _ => rfl) (fun b hb h1 _ => by rw [← hP2]; exact hf_upP_no h1)
      generalize hR : hf_up (hf_up (hf_up I1 101 15 (nI (n + 1))) 100 15 0) 100 16 (I1 100 16 + 1) = R
      have r1 : ∀ a, ¬ a = 100 → ¬ a = 101 → R a = I1 a := fun a a1 a2 => by rw [← hR, hf_up_no a1, hf_up_no a1, hf_up_no a2]
      have r2 : ∀ a, a < 100 + t → ¬ a = 100 → ¬ a = 101 → ¬ (123 ≤ a ∧ a ≤ 130) → R a = I a := fun a a0 a1 a2 a3 => by rw [r1 a a1 a2, b1 a (by omega), fI a a0, A123 a (by omega) a1]
      have r101 : R 101 = upd (I 101) 15 (nI (n + 1)) := by rw [← hR, hf_up_no (by omega), hf_up_no (by omega), hf_up_at, j101]
      have i100 : I1 100 = upd (I 100) 13 0 := by rw [b1 100 (by omega), fI 100 (by omega), g2 100 (by omega), hf_up_at]
      have r100 : R 100 = upd (upd (upd (I 100) 13 0) 15 0) 16 (I 100 16 + 1) := by
        rw [← hR, hf_up_at, hf_up_at, hf_up_no (by omega), i100]
        rfl
      refine ⟨_, rfl, ms_lread (I := I) hs2 h.2.2.1 (fun a a1 a2 => r2 a (by omega) (by omega) (by omega) (by omega)) ne6 z4 h10 hb2 hm hlt2 hge2 (fun _ B1 f1 f2 f10 f11 f15 frw => ?_) (fun gg => absurd (g.symm.trans gg) (by omega))⟩
      have q158 : B1 158 = I 158 := (f1 158 (by omega) (by omega) (by omega) (by omega)).trans (r2 158 (by omega) (by omega) (by omega) (by omega))
      rw [q158, hn2]
      refine ms_lays (i := n) (m := m) hs2 (by omega) m4 f15 fun B2 k1 k2 k3 k4 => w_X12_law_56 (d := d + 613) hs2 ?_
      have e320 : B2 158 320 = nI n := by rw [k4 320 (by omega) (by omega) (by omega), q158, hn2]
      rw [e320, nI_1]
      refine ⟨rfl, ?_⟩
      dsimp only [hf_SimM]
      generalize hM : hf_up (hf_up B2 158 320 (nI (n + 1))) 156 0 0 = M
      have w1 : ∀ a, ¬ a = 156 → ¬ a = 158 → ¬ (165 ≤ a ∧ a ≤ 167) → M a = R a := fun a a1 a2 a3 => by rw [← hM, hf_up_no a1, hf_up_no a2, k1 a a2, f1 a a1 (by omega) (by omega) (by omega)]
      have w156 : M 156 = upd (B1 156) 0 0 := by rw [← hM, hf_up_at, hf_up_no (by omega), k1 156 (by omega)]
      have w158 : M 158 = upd (B2 158) 320 (nI (n + 1)) := by rw [← hM, hf_up_no (by omega), hf_up_at]
      have w100 : M 100 = R 100 := w1 100 (by omega) (by omega) (by omega)
      have m123 : M 123 1 = -1 := by
        rw [w1 123 (by omega) (by omega) (by omega), r1 123 (by omega) (by omega), b1 123 (by omega), fI 123 (by omega)]
        exact gF
      have wI : ∀ a, 181 ≤ a → M a = I1 a := fun a ha => (w1 a (by omega) (by omega) (by omega)).trans (r1 a (by omega) (by omega))
      have o125 : ∀ a, 125 ≤ a → a ≤ 130 → I0 a = A1 a := fun a a1 a2 => fI a (by omega)
      refine sim_lw (e := e) (n := n) (m := m) (c := tk_c (I 163) z) (v := tk_v (I 163) z) hN h n5 hn he fT (fun a a1 a2 a3 => ?_) (fun i i6 hi => ?_) ?_ hs2 m4 hc0 (tk_cb _ _) (tk_vb _ _) g ?_ (fun a a1 a2 a3 a4 a5 a6 a7 => (w1 a a5 a6 a7).trans (r2 a a1 a2 a3 a4)) ((w1 101 (by omega) (by omega) (by omega)).trans r101) ?_ ?_ ?_ ?_ ?_ ?_ ?_ ?_ ?_ ?_ ?_ ?_ ?_ (fun k hk => ?_) (fun j j1 j2 j3 j4 => ?_)
      · rw [← hP2, hf_upP_no a2, ti_P_no (by omega), fP a a1, hf_upP_no a3]
      · rw [← hP2, hf_upP_nj hi, ti_P_no (by omega), fP 111 (by omega), hf_upP_no (by omega)]
      · rw [← hP2]
        exact hf_upP_at
      · rw [hcl]
        have hx := ti_P_tx (P := P0) (t := t) (T := T0) (z := 2 * (cl_cd cls).length) (m := cls.length) he (fun j _ => nT j)
        have eP : P2 (181 + e) = ti_P (181 + e) P0 (181 + e) := by rw [← hP2]; exact hf_upP_no (by omega)
        obtain ⟨x0, x1, y0, y1, y2, y3, y4, y5, -⟩ := hx
        simp only [Nat.add_assoc] at y0 y1 y2 y3 y4 y5
        refine ⟨2 * (cl_cd cls).length, cls.length, ⟨x0, x1, ⟨(congrFun eP 0).trans y0.1, y0.2⟩, ⟨(congrFun eP 1).trans y1.1, y1.2⟩, ⟨(congrFun eP 2).trans y2.1, y2.2⟩, ⟨(congrFun eP 3).trans y3.1, y3.2⟩, ⟨(congrFun eP 4).trans y4.1, y4.2⟩, ⟨(congrFun eP 5).trans y5.1, y5.2⟩, trivial⟩, by omega, by omega, Nat.le_refl _, Nat.le_refl _, ?_⟩
        refine tx_mv g1 ?_ ?_ (fun i hi => ?_) (fun i hi => ?_)
        · show M (181 + e) 6 = _
          rw [wI _ (by omega), b2, h6]
        · show M (181 + e) 7 = _
          rw [wI _ (by omega), b3, h7]
        · show M (181 + (e + 1)) i = _
          rw [wI _ (by omega), ← Nat.add_assoc, b4 i hi, o125 125 (by omega) (by omega)]
        · obtain ⟨d1, d2, d3, d4, d5⟩ := b5 i hi
          rw [o125 126 (by omega) (by omega)] at d1
          rw [o125 127 (by omega) (by omega)] at d2
          rw [o125 128 (by omega) (by omega)] at d3
          rw [o125 129 (by omega) (by omega)] at d4
          rw [o125 130 (by omega) (by omega)] at d5
          exact ⟨(congrFun (wI _ (by omega)) i).trans d1, (congrFun (wI _ (by omega)) i).trans d2, (congrFun (wI _ (by omega)) i).trans d3, (congrFun (wI _ (by omega)) i).trans d4, (congrFun (wI _ (by omega)) i).trans d5⟩
      · rw [w100, r100]; rfl
      · exact m123
      · rw [w100, r100]; rfl
      · rw [w100, r100]; rfl
      · rw [w100, r100]; rfl
      · rw [w156, hf_upd_eq]
      · rw [w156, hf_upd_ne (by omega)]; exact f10
      · rw [w156, hf_upd_ne (by omega)]; exact f11
      · rw [w156, hf_upd_ne (by omega)]; exact f2 27 (by omega) (by omega) (by omega) (by omega)
      · rw [w156, hf_upd_ne (by omega)]; exact f2 41 (by omega) (by omega) (by omega) (by omega)
      · rw [w156, hf_upd_ne (by omega)]; exact f2 49 (by omega) (by omega) (by omega) (by omega)
      · rw [w158, hf_upd_eq]
      · rw [w158, hf_upd_ne (by omega)]; exact k2
      · rw [w158, hf_upd_ne (by omega), hf_upd_ne (by omega), (k3 k hk).1, (k3 k hk).2]
        exact frw k hk
      · rw [w158, hf_upd_ne j1, k4 j j2 j3 j4, q158]
    · -- it can't
      have g1' : A1 123 1 = nI (tk_s (I 163) z (gr_al false (tk_c (I 163) z) (tk_v (I 163) z) m 12 0 0).2.1) := by rw [g1, ec, ev, es]
      rw [ec, ev] at g
      refine w_X11_law_42_l (d := d + 612) hs' ⟨fun q => absurd rfl q, fun _ => ⟨_, rfl, ?_⟩⟩
      refine ms_lread (I := I) hs' h.2.2.1 ?_ ne6 z4 h10 hb2 hm hlt2 hge2 (fun gg => absurd (g.symm.trans gg) (by omega)) (fun _ B1 f1 f2 f10 f11 => ⟨rfl, ?_⟩)
      · intro a a1 a2
        rw [hf_up_no (by omega), hf_up_no (by omega), g2 a (by omega), hf_up_no (by omega)]
      · have kk : kpc (hf_up (hf_up A1 100 15 (-6)) 155 4 (A1 155 4 + 1)) B1 := fun a ha => f1 a (by omega) (by omega) (by omega) (by omega)
        have hW : hf_Sim hf_SL hf_CC N t T (hf_mix A1 B1) L (hf_upP P 123 2 (some 122)) := by
          have b : ∀ a, 156 < a → a ≤ 180 → ¬ (165 ≤ a ∧ a ≤ 167) → B1 a = I a := fun a z1 z2 z3 => by
            rw [f1 a (by omega) (by omega) (by omega) (by omega), hf_up_no (by omega), hf_up_no (by omega), g2 a (by omega), hf_up_no (by omega)]
          have e100 : A1 100 = upd (I 100) 13 0 := by rw [g2 100 (by omega), hf_up_at]
          have e158 : B1 158 = I 158 := b 158 (by omega) (by omega) (by omega)
          refine sim_rd (w := A1 123 1) (s := I 100 14) h (fun a ha h100 => ?_) ?_ ?_ ?_ ?_ ?_ (f2 0 (by omega) (by omega) (by omega) (by omega)) f10 (f11.trans g1'.symm) (f2 27 (by omega) (by omega) (by omega) (by omega)) ((f2 41 (by omega) (by omega) (by omega) (by omega)).trans h.2.2.1.2.2.2.1.symm) (f2 49 (by omega) (by omega) (by omega) (by omega)) (fun j hj => ?_) ?_
          · by_cases q : 156 ≤ a ∧ a ≤ 180
            · rw [mx_m q]
              exact b a (by omega) (by omega) (by omega)
            · rw [mx_c (by omega), g2 a (by omega), hf_up_no h100]
          · show A1 100 13 = _
            rw [e100]; rfl
          · rfl
          · show A1 100 14 = _
            rw [e100]; rfl
          · show A1 100 15 = _
            rw [e100]; rfl
          · show A1 100 16 = _
            rw [e100]; rfl
          · show B1 158 j = _
            rw [e158]
          · show kp_same _ (fun j => B1 158 (322 + j))
            rw [e158]
            exact kp_rf
        have fin2 := sim_refuse (z := -6) (q := 4) (q2 := 6) (Or.inr (Or.inr (Or.inr (Or.inr rfl)))) hW
        rw [← mix_ref kk] at fin2
        exact fin2
  · -- no room
    have n5 : n = 6 := by
      rcases Nat.lt_or_ge n 6 with q | q
      · exact absurd (by rw [hn]; exact nI_lt (b := 6) (by omega) (by omega)) g6
      · omega
    subst n5
    obtain ⟨w, w1, w2, -⟩ := id h.2.1.2.2.2.1
    refine ⟨_, rfl, w_X12_law_0 (d := d + 613) hs ⟨fun q => absurd hn2 q, fun _ => ⟨rfl, ?_⟩⟩⟩
    have := sim_wno (z := -5) (q := 3) (q2 := 5) (l := fun j => I 110 j) hf_CC_l w1 w2 (fun _ _ => rfl) (SD_by h.2.1) (Or.inr (Or.inr (Or.inr (Or.inl rfl)))) h
    rw [show hf_set (hf_up I 100 13 0) 110 (fun j => I 110 j) = hf_up I 100 13 0 from hf_set_self] at this
    exact this
end OPLAW
