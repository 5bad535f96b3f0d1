/-! settings, related -/
section OPSG
variable {X : hf_X} {d N t : Nat} {T : hf_T} {I : hf_I} {L : hf_L} {P : hf_P}
/-- the model reads, whatever the class has left in its own cells -/
theorem ms_sread {R : hf_I} {z m : Nat} {Q : Option Value → hf_M → Prop} (hs : hf_Lay t T P) (h : hf_SO I) (hR : kpm I R) (z4 : z ≤ 400) (h10 : I 156 10 = nI z) (hb : tk_byte (I 163) z) (hm : m ≤ z) (hlt : ∀ k, k < m → tk_s (I 163) z k < z) (hge : ∀ k, m ≤ k → tk_s (I 163) z k = z)
    (h2 : (gr_al true (tk_c (I 163) z) (tk_v (I 163) z) m 12 0 0).1 = 2 → ∀ B1, (∀ a, ¬ a = 156 → ¬ a = 165 → ¬ a = 166 → ¬ a = 167 → B1 a = R a) → (∀ j, ¬ j = 7 → ¬ j = 10 → ¬ j = 11 → ¬ (15 ≤ j ∧ j ≤ 18) → ¬ j = 41 → B1 156 j = I 156 j) → B1 156 7 = 1 → B1 156 41 = -1 → B1 156 10 = 0 → B1 156 11 = -1 → B1 156 15 = nI m → (∀ k, k < m → B1 165 k = nI (tk_c (I 163) z k) ∧ B1 166 k = nI (tk_v (I 163) z k)) → hf_G X Y_X12_settings (d + 614) 0 0 26 [some (.ref 156), some (.int 0), none, none, none, none, none] [] (t, T, B1, L, P) Q)
    (h1 : (gr_al true (tk_c (I 163) z) (tk_v (I 163) z) m 12 0 0).1 = 1 → ∀ B1, (∀ a, ¬ a = 156 → ¬ a = 165 → ¬ a = 166 → ¬ a = 167 → B1 a = R a) → (∀ j, ¬ j = 7 → ¬ j = 10 → ¬ j = 11 → ¬ (15 ≤ j ∧ j ≤ 18) → ¬ j = 41 → B1 156 j = I 156 j) → B1 156 41 = -1 → B1 156 10 = 0 → B1 156 11 = nI (tk_s (I 163) z (gr_al true (tk_c (I 163) z) (tk_v (I 163) z) m 12 0 0).2.1) → Q (some (.int (-6))) (t, T, hf_up (hf_up B1 156 0 (-6)) 157 6 (B1 157 6 + 1), L, P)) :
    hf_G X Y_X12_settings (d + 614) 0 0 0 (hf_en [.ref 156] 7) [] (t, T, R, L, P) Q := by
  have eR : ∀ a, 156 ≤ a → a ≤ 180 → R a = I a := hR
  have ff : ∀ {B1 : hf_I}, rd_fr (hf_up (hf_up R 156 41 (-1)) 156 7 1) B1 → (∀ a, ¬ a = 156 → ¬ a = 165 → ¬ a = 166 → ¬ a = 167 → B1 a = R a) ∧ (∀ j, ¬ j = 7 → ¬ j = 10 → ¬ j = 11 → ¬ (15 ≤ j ∧ j ≤ 18) → ¬ j = 41 → B1 156 j = I 156 j) ∧ B1 156 7 = 1 ∧ B1 156 41 = -1 := by
    intro B1 f
    refine ⟨fun a z1 z2 z3 z4 => ?_, fun j z1 z2 z3 z4 z5 => ?_, ?_, ?_⟩
    · rw [f.1 a z1 z2 z3 z4, hf_up_no z1, hf_up_no z1]
    · rw [f.2 j z2 z3 (by omega) (by omega) (by omega) (by omega), ← eR 156 (by omega) (by omega)]
      show upd (upd (R 156) 41 (-1)) 7 1 j = _
      rw [hf_upd_ne z1, hf_upd_ne z5]
    · rw [f.2 7 (by omega) (by omega) (by omega) (by omega) (by omega) (by omega)]
      rfl
    · rw [f.2 41 (by omega) (by omega) (by omega) (by omega) (by omega) (by omega)]
      rfl
  have q162 : hf_up (hf_up R 156 41 (-1)) 156 7 1 162 = I 162 := eR 162 (by omega) (by omega)
  have q163 : hf_up (hf_up R 156 41 (-1)) 156 7 1 163 = I 163 := eR 163 (by omega) (by omega)
  have q10 : hf_up (hf_up R 156 41 (-1)) 156 7 1 156 10 = nI z := by
    show R 156 10 = _
    rw [eR 156 (by omega) (by omega), h10]
  refine w_X12_settings_0 (d := d + 613) hs (ms_reads (d := d + 2) (S := true) (tp := I 163) (z := z) (m := m) hs (by rw [q162]; exact h.2.2.2.2.2.2.2) z4 hb hm hlt hge q163 q10 rfl (fun g B1 f1 f2 f3 f4 f5 => ?_) (fun g B1 f1 f2 f3 => ?_))
  · obtain ⟨g1, g2, g3, g4⟩ := ff f1
    exact w_X12_settings_14 (d := d + 613) hs ⟨fun _ => h2 g B1 g1 g2 g3 g4 f2 f3 f4 fun k hk => ⟨(f5 k (by omega)).1, (f5 k (by omega)).2.1⟩, fun q => absurd q (by decide)⟩
  · obtain ⟨g1, g2, g3, g4⟩ := ff f1
    exact w_X12_settings_14 (d := d + 613) hs ⟨fun q => absurd rfl q, fun _ => h1 g B1 g1 g2 g4 f2 f3⟩
/-- from where the CLAUSES begin to be run -/
theorem st_run {A : hf_I} {z m : Nat} (hN : N ≤ 100000) (h : hf_Sim hf_SL hf_CC N t T I L P) (z4 : z ≤ 400) (h10 : I 156 10 = nI z) (hb : tk_byte (I 163) z) (hm : m ≤ z) (hlt : ∀ k, k < m → tk_s (I 163) z k < z) (hge : ∀ k, m ≤ k → tk_s (I 163) z k = z) (hg : (gr_al true (tk_c (I 163) z) (tk_v (I 163) z) m 12 0 0).1 = 2) (hA : st_A I (gr_al true (tk_c (I 163) z) (tk_v (I 163) z) m 12 0 0).2.2 A) :
    hf_G X Y_X11_runWholly (d + 613) 0 0 38 [some (.ref 100), some (.ref 124), some (.int (A 101 14)), some (.int 0), some (.int 0), none, none] [] (t, T, A, L, hf_upP P 123 2 (some 122)) (fun r M => hf_G X Y_X11_settings (d + 614) 0 0 50 [none, none] (r.toList ++ [.ref 100]) M (fun r M1 => ∃ v, r = some (.int v) ∧ hf_G X Y_X12_settings (d + 614) 0 0 0 (hf_en [.ref 156] 7) [] M1 (fun r2 M2 => r2 = some (.int v) ∧ hf_SimM hf_SL hf_CC (N + 1) M2))) := by
  have hs' := lay_123 h.1
  have m4 : m ≤ 400 := by omega
  have hc0 : ∀ j, m ≤ j → tk_c (I 163) z j = 0 := fun j hj => tk_c_end (hge j hj)
  obtain ⟨gd1, gd2, -⟩ := gr_al_gd (S := true) (c := tk_c (I 163) z) (v := tk_v (I 163) z) (m := m) 12 0 0 (by omega) hg
  have gd3 := gr_al_len (S := true) (v := tk_v (I 163) z) hc0 m4 12 0 0 (by omega) hg
  have sS := sim_s (c := tk_c (I 163) z) (v := tk_v (I 163) z) h m4 hA
  obtain ⟨lws, l1, l2⟩ := sim_law sS
  have hin := st_start h m4 hA (tk_cb (I 163) z) (tk_vb (I 163) z) l1 l2
  obtain ⟨u, s, I', s1, s2, s3, s4, s5, s6, s7⟩ := st_all (X := X) (d := d) hs' m4 hc0 (by omega) gd2 gd1 12 0 0 0 _ 0 (by omega) (by omega) hg rfl hin rfl (by omega)
  have kA : kpm I A := fun a a1 a2 => hA.2.1 a (by omega) (by omega) (by omega)
  -- the model, from what the class has left
  have mdl : ∀ (R : hf_I) (Q : Option Value → hf_M → Prop), kpm I R → (∀ D L', nz2 I' D → kpc R D → L' 136 = L 136 → (u = 0 → Q (some (.int (I' 156 24))) (t, T, hf_up D 156 0 0, L', hf_upP P 123 2 (some 122))) ∧ (¬ u = 0 → hf_G X Y_X12_settings (d + 614) 0 0 152 [some (.ref 156), some (.int (I 156 27)), some (.int (I 158 315)), none, some (.int (nI s)), some (.int u), some (.int 0)] [] (t, T, D, L', hf_upP P 123 2 (some 122)) Q)) → hf_G X Y_X12_settings (d + 614) 0 0 0 (hf_en [.ref 156] 7) [] (t, T, R, L, hf_upP P 123 2 (some 122)) Q := by
    intro R Q hR hQ
    refine ms_sread hs' h.2.2.1 hR z4 h10 hb hm hlt hge (fun _ B1 f1 f2 f7 f41 f10 f11 f15 frw => ?_) (fun g => absurd (hg.symm.trans g) (by omega))
    have b158 : B1 158 = I 158 := (f1 158 (by omega) (by omega) (by omega) (by omega)).trans (hR 158 (by omega) (by omega))
    refine ms_keepA (d := d + 613) hs' (ms_keepB (d := d + 613) hs' (ms_lays (i := 6) (m := m) hs' (by omega) m4 f15 fun B2 k1 k2 k3 k4 => w_X12_settings_97 hs' ?_))
    have x1 : hf_set B1 161 (cp_n (B1 158) (B1 161) 26) 156 27 = I 156 27 := f2 27 (by omega) (by omega) (by omega) (by omega) (by omega)
    have x2 : hf_set B1 161 (cp_n (B1 158) (B1 161) 26) 158 315 = I 158 315 := by
      show B1 158 315 = _
      rw [b158]
    have k2' : B2 158 328 = nI m := k2
    have x3 : (2400 : Int32) + nI m = nI (2400 + m) := by rw [show (2400 : Int32) = nI 2400 from rfl, nI_add]
    rw [x1, x2, k2', x3]
    have nz := nz2_start (A := A) (R := R) (c := tk_c (I 163) z) (v := tk_v (I 163) z) hR m4 f1 f2 f7 f41 f10 f11 frw k1 k2 k3 k4
    refine s7 L _ _ _ 0 0 Q nz rfl fun D' L' hD' kp' hL => ?_
    refine hQ D' L' hD' (kpc_tr (fun a ha => ?_) kp') hL
    rw [hf_up_no (by omega), hf_up_no (by omega), k1 a (by omega), hf_set_no (by omega), hf_set_no (by omega)]
    exact f1 a (by omega) (by omega) (by omega) (by omega)
  refine s6 L A (A 101 14) 0 0 _ (fun a b1 _ _ _ => (mx_c b1).symm) fun C' hC' kp => ⟨fun hu => ?_, fun hu => ?_⟩
  · -- all was run
    obtain ⟨n', e1, e2⟩ := s3 hu
    refine w_X11_settings_50 (d := d + 611) hs' ⟨fun _ => ⟨_, rfl, mdl _ _ ?_ fun D L' hD kD hL => ⟨fun _ => ⟨rfl, ?_⟩, fun q => absurd hu q⟩⟩, fun q => absurd (by rw [e1]; exact nI_pos' (by omega)) q⟩
    · exact kpm_tr kA (kpm_up (kpm_up kp (by omega)) (by omega))
    · show hf_Sim hf_SL hf_CC (N + 1) t T (hf_up D 156 0 0) L' (hf_upP P 123 2 (some 122))
      refine sim_L (n2_sim ?_ (sim_ok hN sS s1.1 s1.2.1 s2)) hL
      have cC : ∀ a, (a < 156 ∨ 180 < a) → ¬ a = 132 → ¬ a = 133 → ¬ a = 134 → C' a = I' a := fun a b1 b2 b3 b4 => hC' a b1 b2 b3 b4
      have cell : ∀ a, (a < 156 ∨ 180 < a) → ¬ a = 132 → ¬ a = 133 → ¬ a = 134 → hf_up D 156 0 0 a = hf_up (hf_mix (hf_up (hf_up I' 100 15 0) 100 16 (I' 100 16 + 1)) I') 156 0 0 a := by
        intro a b1 b2 b3 b4
        rw [hf_up_no (by omega), hf_up_no (by omega), mx_c b1, kD a b1]
        by_cases q : a = 100
        · subst q
          rw [hf_up_at, hf_up_at, hf_up_at, hf_up_at, cC 100 (by omega) (by omega) (by omega) (by omega)]
        · rw [hf_up_no q, hf_up_no q, hf_up_no q, hf_up_no q]
          exact cC a b1 b2 b3 b4
      refine ⟨fun a ha => ?_, fun j _ => ?_, fun j hj => ?_⟩
      · by_cases q : 156 ≤ a ∧ a ≤ 180
        · rw [hf_up_no (by omega), hf_up_no (by omega), mx_m q]
          exact hD.1 a (by omega) (by omega) (by omega)
        · exact cell a (by omega) (by omega) (by omega) (by omega)
      · rw [cell 136 (by omega) (by omega) (by omega) (by omega)]
      · show upd (D 156) 0 0 j = upd (I' 156) 0 0 j
        unfold upd
        split
        · rfl
        · exact hD.2 j (by omega) (by omega)
  · -- all goes back
    have hng : st_ng u := by
      rcases s4 with q | q
      · exact absurd q hu
      · exact q
    have fin : ∀ (zz : Int32) (q q2 : Nat), ((q, q2) = (0, 1) ∨ (q, q2) = (1, 2) ∨ (q, q2) = (2, 3) ∨ (q, q2) = (3, 5) ∨ (q, q2) = (4, 6)) → (u = -5 → zz = -5 ∧ q2 = 5) → (¬ u = -5 → zz = -3 ∧ q2 = 3) → hf_G X Y_X12_settings (d + 614) 0 0 0 (hf_en [.ref 156] 7) [] (t, T, hf_up (hf_up (hf_up (rs_c C' (A 101 14)) 100 14 (nI s)) 100 15 zz) 155 q (hf_up (rs_c C' (A 101 14)) 100 14 (nI s) 155 q + 1), L, hf_upP P 123 2 (some 122)) (fun r2 M2 => r2 = some (.int zz) ∧ hf_SimM hf_SL hf_CC (N + 1) M2) := by
      intro zz q q2 hq hz5 hz3
      refine mdl _ _ ?_ fun D L' hD kD hL => ⟨fun g => absurd g hu, fun _ => ?_⟩
      · intro a a1 a2
        rw [hf_up_no (by omega), hf_up_no (by omega), hf_up_no (by omega), rs_c_no (by omega), kp a a1 a2]
        exact kA a a1 a2
      · refine ms_backA (d := d + 613) hs' (ms_backB (d := d + 613) hs' fun z2 q3 b1 b2 => ?_)
        have ez : z2 = zz ∧ q3 = q2 := by
          by_cases g : u = -5
          · exact ⟨(b1 g).1.trans (hz5 g).1.symm, (b1 g).2.trans (hz5 g).2.symm⟩
          · exact ⟨(b2 g).1.trans (hz3 g).1.symm, (b2 g).2.trans (hz3 g).2.symm⟩
        obtain ⟨rfl, rfl⟩ := ez
        refine ⟨rfl, ?_⟩
        have hW : hf_Sim hf_SL hf_CC N t T (hf_mix (hf_up (rs_c C' (A 101 14)) 100 14 (nI s)) (hf_up (rs_m D (I 156 27) (I 158 315)) 156 41 (nI s))) L (hf_upP P 123 2 (some 122)) := by
          refine n2_sim ?_ (sim_back (s := nI s) h m4 hA s2)
          have nc := nzc_rsc (x2 := A 101 14) hC'
          have nm := nz2_rsm (x1 := I 156 27) (x2 := I 158 315) hD
          have cell : ∀ a, (a < 156 ∨ 180 < a) → ¬ a = 132 → ¬ a = 133 → ¬ a = 134 → hf_mix (hf_up (rs_c C' (A 101 14)) 100 14 (nI s)) (hf_up (rs_m D (I 156 27) (I 158 315)) 156 41 (nI s)) a = hf_up (hf_up (hf_mix (rs_c I' (A 101 14)) (rs_m I' (I 156 27) (I 158 315))) 100 14 (nI s)) 156 41 (nI s) a := by
            intro a b1 b2 b3 b4
            rw [mx_c b1, hf_up_no (show ¬ a = 156 by omega)]
            by_cases g : a = 100
            · subst g
              rw [hf_up_at, hf_up_at, mx_c (by omega), nc 100 (by omega) (by omega) (by omega) (by omega)]
            · rw [hf_up_no g, hf_up_no g, mx_c b1]
              exact nc a b1 b2 b3 b4
          refine ⟨fun a ha => ?_, fun j _ => ?_, fun j hj => ?_⟩
          · by_cases g : 156 ≤ a ∧ a ≤ 180
            · rw [mx_m g, hf_up_no (by omega), hf_up_no (by omega), hf_up_no (by omega), mx_m g]
              exact nm.1 a (by omega) (by omega) (by omega)
            · exact cell a (by omega) (by omega) (by omega) (by omega)
          · rw [cell 136 (by omega) (by omega) (by omega) (by omega)]
          · show upd (rs_m D (I 156 27) (I 158 315) 156) 41 (nI s) j = upd (rs_m I' (I 156 27) (I 158 315) 156) 41 (nI s) j
            unfold upd
            split
            · rfl
            · exact nm.2 j (by omega) (by omega)
        have kk : kpc (hf_up (hf_up (hf_up (rs_c C' (A 101 14)) 100 14 (nI s)) 100 15 z2) 155 q (hf_up (rs_c C' (A 101 14)) 100 14 (nI s) 155 q + 1)) (hf_up (rs_m D (I 156 27) (I 158 315)) 156 41 (nI s)) := by
          intro a ha
          rw [hf_up_no (by omega), rs_m_no (by omega)]
          exact kD a ha
        have fin2 := sim_refuse (z := z2) hq hW
        rw [← mix_ref kk] at fin2
        exact sim_L fin2 hL
    refine w_X6_takeFrom_0_b (d := d + 611) hs' (w_X11_runWholly_88 (d := d + 612) hs' (w_X3_takeFrom_0_b (d := d + 611) hs' (w_X11_runWholly_102 hs' ⟨fun g => ?_, fun g => ?_⟩)))
    · refine w_X11_settings_50 (d := d + 611) hs' ⟨fun q => absurd q (by decide), fun _ => ⟨fun q => absurd q (by decide), fun q => absurd q (by decide), fun q => absurd q (by decide), fun _ => ⟨_, rfl, ?_⟩, fun q => absurd q (by decide), fun q => absurd q (by decide)⟩⟩
      exact fin (-3) 2 3 (Or.inr (Or.inr (Or.inl rfl))) (fun q => absurd q g) (fun _ => ⟨rfl, rfl⟩)
    · refine w_X11_settings_50 (d := d + 611) hs' ⟨fun q => absurd q (by decide), fun _ => ⟨fun q => absurd q (by decide), fun _ => ⟨_, rfl, ?_⟩, fun q => absurd q (by decide), fun q => absurd q (by decide), fun q => absurd q (by decide), fun q => absurd q (by decide)⟩⟩
      exact fin (-5) 3 5 (Or.inr (Or.inr (Or.inr (Or.inl rfl)))) (fun _ => ⟨rfl, rfl⟩) (fun q => absurd g q)
theorem op_settings (hN : N ≤ 100000) (h : hf_Sim hf_SL hf_CC N t T I L P) : hf_Pair X Y_X11_settings Y_X12_settings [] (d + 614) 0 0 (t, T, I, L, P) (hf_SimM hf_SL hf_CC (N + 1)) := by
  have hs := h.1
  have hs' := lay_123 hs
  obtain ⟨z, z4, h13, h10, htp⟩ := id h.2.2.1.2.1
  have hb : tk_byte (I 122) z := fun j hj => (htp j hj).2
  have ag : ∀ j, j < z → I 122 j = I 163 j := fun j hj => (htp j hj).1
  have hb2 : tk_byte (I 163) z := tk_byte_cg ag hb
  obtain ⟨m, hm, hlt, hge⟩ := tk_many (I 122) z
  have ec := tk_c_cg ag
  have ev := tk_v_cg ag
  have es := tk_s_cg ag
  have hlt2 : ∀ k, k < m → tk_s (I 163) z k < z := fun k hk => by rw [← es k]; exact hlt k hk
  have hge2 : ∀ k, m ≤ k → tk_s (I 163) z k = z := fun k hk => by rw [← es k]; exact hge k hk
  refine w_X11_settings_0 (d := d + 613) hs ?_
  rw [h13]
  refine cs_reads (d := d + 4) (S := true) (tp := I 122) (z := z) (m := m) hs z4 hb hm hlt hge rfl (fun g A1 g1 g2 gF => ?_) (fun g A1 g1 g2 => ?_)
  · -- it can be read
    rw [ec, ev] at g g1
    refine w_X11_settings_28 (d := d + 612) hs' ⟨fun _ => ?_, fun q => absurd q (by decide)⟩
    refine w_X11_runWholly_0 (d := d + 612) hs' (w_X6_takeFrom_0_a (d := d + 611) hs' (w_X11_runWholly_11 (d := d + 612) hs' (w_X3_takeFrom_0_a (d := d + 611) hs' (w_X11_runWholly_25 hs' ?_))))
    exact st_run hN h z4 h10 hb2 hm hlt2 hge2 g (st_A_mk g1 g2 gF _ _ _ rfl rfl rfl)
  · -- it can't
    have g1' : A1 123 1 = nI (tk_s (I 163) z (gr_al true (tk_c (I 163) z) (tk_v (I 163) z) m 12 0 0).2.1) := by rw [g1, ec, ev, es]
    rw [ec, ev] at g
    refine w_X11_settings_28 (d := d + 612) hs' ⟨fun q => absurd rfl q, fun _ => ⟨_, rfl, ?_⟩⟩
    refine ms_sread hs' h.2.2.1 ?_ z4 h10 hb2 hm hlt2 hge2 (fun g2 => absurd (g.symm.trans g2) (by omega)) (fun _ B1 f1 f2 f41 f10 f11 => ⟨rfl, ?_⟩)
    · intro a a1 a2
      rw [hf_up_no (by omega), hf_up_no (by omega), g2 a (by omega), hf_up_no (by omega), hf_up_no (by omega)]
    · have kk : kpc (hf_up (hf_up A1 100 15 (-6)) 155 4 (A1 155 4 + 1)) B1 := fun a ha => f1 a (by omega) (by omega) (by omega) (by omega)
      have hW : hf_Sim hf_SL hf_CC N t T (hf_mix A1 B1) L (hf_upP P 123 2 (some 122)) := by
        have b : ∀ a, 156 < a → a ≤ 180 → ¬ (165 ≤ a ∧ a ≤ 167) → B1 a = I a := fun a z1 z2 z3 => by
          rw [f1 a (by omega) (by omega) (by omega) (by omega), hf_up_no (by omega), hf_up_no (by omega), g2 a (by omega), hf_up_no (by omega), hf_up_no (by omega)]
        have e100 : A1 100 = upd (upd (I 100) 13 0) 14 (-1) := by rw [g2 100 (by omega), hf_up_at, hf_up_at]
        have e158 : B1 158 = I 158 := b 158 (by omega) (by omega) (by omega)
        refine sim_rd (w := A1 123 1) (s := -1) h (fun a ha h100 => ?_) ?_ ?_ ?_ ?_ ?_ (f2 0 (by omega) (by omega) (by omega) (by omega) (by omega)) f10 (f11.trans g1'.symm) (f2 27 (by omega) (by omega) (by omega) (by omega) (by omega)) f41 (f2 49 (by omega) (by omega) (by omega) (by omega) (by omega)) (fun j hj => ?_) ?_
        · by_cases q : 156 ≤ a ∧ a ≤ 180
          · rw [mx_m q]
            exact b a (by omega) (by omega) (by omega)
          · rw [mx_c (by omega), g2 a (by omega), hf_up_no h100, hf_up_no h100]
        · show A1 100 13 = _
          rw [e100]; rfl
        · rfl
        · show A1 100 14 = _
          rw [e100]; rfl
        · show A1 100 15 = _
          rw [e100]; rfl
        · show A1 100 16 = _
          rw [e100]; rfl
        · show B1 158 j = _
          rw [e158]
        · show kp_same _ (fun j => B1 158 (322 + j))
          rw [e158]
          exact kp_rf
      have fin2 := sim_refuse (z := -6) (q := 4) (q2 := 6) (Or.inr (Or.inr (Or.inr (Or.inr rfl)))) hW
      rw [← mix_ref kk] at fin2
      exact fin2
end OPSG
