/-! SETTINGS: one CLAUSE, once, by the class -/
def tw_c (X : hf_X) (Yc : hf_Y) (ac : List Value) (d t : Nat) (T : hf_T) (P : hf_P) (I : hf_I) (v : Int32) (I' : hf_I) : Prop := ∀ (L : hf_L) (C : hf_I) (k n : Nat) (Q : Option Value → hf_M → Prop), nzc I C → (∀ C', nzc I' C' → kpm C C' → Q (some (.int v)) (t, T, C', L, P)) → hf_G X Yc d k n 0 (hf_en ac Yc.2.2.1) [] (t, T, C, L, P) Q
def tw_m (X : hf_X) (Ym : hf_Y) (am : List Value) (d t : Nat) (T : hf_T) (P : hf_P) (I : hf_I) (v : Int32) (I' : hf_I) : Prop := ∀ (L : hf_L) (C : hf_I) (k n : Nat) (Q : Option Value → hf_M → Prop), nz3 I C → (∀ C', nz3 I' C' → kpc C C' → Q (some (.int v)) (t, T, C', L, P)) → hf_G X Ym d k n 0 (hf_en am Ym.2.2.1) [] (t, T, C, L, P) Q
theorem hf_Tx_s {t : Nat} {T : hf_T} {P : hf_P} (hs : hf_Lay t T P) : hf_Tx t T P 124 800 12 125 126 127 128 129 130 := ⟨hs.2.1 124 _ rfl, hf_lin hs 124 rfl, ⟨hs.2.2 124 0 _ rfl, hs.2.1 125 _ rfl, hf_lin hs 125 rfl⟩, ⟨hs.2.2 124 1 _ rfl, hs.2.1 126 _ rfl, hf_lin hs 126 rfl⟩, ⟨hs.2.2 124 2 _ rfl, hs.2.1 127 _ rfl, hf_lin hs 127 rfl⟩, ⟨hs.2.2 124 3 _ rfl, hs.2.1 128 _ rfl, hf_lin hs 128 rfl⟩, ⟨hs.2.2 124 4 _ rfl, hs.2.1 129 _ rfl, hf_lin hs 129 rfl⟩, ⟨hs.2.2 124 5 _ rfl, hs.2.1 130 _ rfl, hf_lin hs 130 rfl⟩, trivial⟩
theorem sf_nzc {I C : hf_I} {c w : Nat} {dn : Int32} (h : nzc I C) : sf C c w dn = sf I c w dn := by
  have e : ∀ a, a < 132 → C a = I a := fun a ha => h a (by omega) (by omega) (by omega) (by omega)
  funext j
  unfold sf
  rw [e 114 (by omega), e 101 (by omega), e 102 (by omega), e 109 (by omega), e 110 (by omega), e 115 (by omega), e 116 (by omega), e 106 (by omega)]
section ONCE
variable {X : hf_X} {d t : Nat} {T : hf_T} {I I' : hf_I} {P : hf_P}
theorem cs_runOnce {c w i : Nat} {q : gr_c1} {cls : List gr_c1} {dn v : Int32} (hs : hf_Lay t T P) (hSM : hf_SM I) (hc : I 114 2 = nI c) (hc12 : c ≤ 12) (hw5 : I 105 5 = nI w) (hw16 : w ≤ 16) (htx : tx_st 124 125 126 127 128 129 130 cls I) (hz : 2 * (cl_cd cls).length ≤ 800) (hm : cls.length ≤ 12) (hq : cls[i]? = some q) (hg : cl_gd true q)
    (h0 : (q.2.2.2.2 (sf I c w dn) = none ∨ q.2.2.2.2 (sf I c w dn) = some 0) → v = 0 ∧ I' = I)
    (h3 : ∀ y, q.2.2.2.2 (sf I c w dn) = some y → ¬ y = 0 → q.2.1.2 (sf I c w dn) = none → v = -3 ∧ I' = I)
    (h4 : ∀ y x, q.2.2.2.2 (sf I c w dn) = some y → ¬ y = 0 → q.2.1.2 (sf I c w dn) = some x → ∃ u, v = (if 0 ≤ u then 1 else u) ∧ (q.1 = 0 → tw_c X Y_X11_placeWord [.ref 100, .int x] (d + 611) t T P I u I') ∧ (q.1 = 1 → tw_c X Y_X11_turnLine [.ref 100] (d + 611) t T P I u I') ∧ (q.1 = 2 → tw_c X Y_X11_emptyHead [.ref 100] (d + 611) t T P I u I') ∧ (q.1 = 3 → tw_c X Y_X11_changeSize [.ref 100, .int x] (d + 611) t T P I u I')) :
    tw_c X Y_X11_runOnce [.ref 100, .ref 124, .int (nI i), .int dn] (d + 612) t T P I v I' := by
  intro L C k n Q hC h
  have hx := hf_Tx_s hs
  have cc : ∀ {C1 : hf_I}, nzc I C1 → ∀ a, a < 132 → C1 a = I a := fun hC1 a ha => hC1 a (by omega) (by omega) (by omega) (by omega)
  obtain ⟨c', a1, a2, a3, a4, a5, a6, a7, -⟩ := sim_hd hSM
  obtain rfl : c' = c := (nI_eq (by omega) (by omega)).mp (a2.symm.trans hc)
  obtain ⟨m1, m2, m3, ⟨w', w1, w2, w3, w4, w5⟩, m5⟩ := id hSM
  obtain rfl : w' = w := (nI_eq (by omega) (by omega)).mp (w2.symm.trans hw5)
  have hok : ∀ i, i < w' → hf_wok (I 109 i) (fun q => I 110 (9 * i + q)) := fun i hi => (S_w1_ok (w4 i hi)).1
  have hil : i < cls.length := by
    rcases Nat.lt_or_ge i cls.length with z | z
    · exact z
    · rw [List.getElem?_eq_none z] at hq; cases hq
  have vin : vp_in (nI i) 12 := vp_in_nI (by omega) (by omega)
  have ei : (nI i).toNatClampNeg = i := nI_clamp (by omega)
  obtain ⟨t6, t7, tcd, trow⟩ := htx
  obtain ⟨r1, r2, r3, r4, r5⟩ := trow i q hq
  obtain ⟨rest, hsp⟩ := cl_cd_split hq
  have hcd : rk_cd (I 125) 0 (cl_cd cls) := by
    intro j hj
    rw [Nat.zero_add]
    exact tcd j hj
  have hlen := congrArg List.length hsp
  rw [List.length_append, List.length_append, List.length_append] at hlen
  rw [hsp] at hcd
  have hcs := rk_cd_r hcd
  rw [Nat.zero_add] at hcs
  have hcS := rk_cd_l hcs
  have hcT := rk_cd_l (rk_cd_r hcs)
  obtain ⟨g1, -, gS, gT⟩ := id hg
  -- what is done
  have act : ∀ y x, q.2.2.2.2 (sf I c' w' dn) = some y → ¬ y = 0 → q.2.1.2 (sf I c' w' dn) = some x → ∀ C3, nzc I C3 → kpm C C3 → (gr_wsm true q.1 = true → C3 132 2 = x) → vp_in (nI i) 12 ∧ (((C3 126 (nI i).toNatClampNeg) = 0 → hf_G X Y_X11_placeWord (d + 611) 0 0 0 (hf_en [.ref 100, .int (C3 132 2)] 4) [] (t, T, C3, L, P) (fun r M => hf_G X Y_X11_runOnce (d + 611 + 1) k n 131 [none, none, none, none, none] (r.toList ++ []) M Q)) ∧ ((C3 126 (nI i).toNatClampNeg) = 1 → hf_G X Y_X11_turnLine (d + 611) 0 0 0 (hf_en [.ref 100] 2) [] (t, T, C3, L, P) (fun r M => hf_G X Y_X11_runOnce (d + 611 + 1) k n 140 [none, none, none, none, none] (r.toList ++ []) M Q)) ∧ ((C3 126 (nI i).toNatClampNeg) = 2 → hf_G X Y_X11_emptyHead (d + 611) 0 0 0 (hf_en [.ref 100] 3) [] (t, T, C3, L, P) (fun r M => hf_G X Y_X11_runOnce (d + 611 + 1) k n 149 [none, none, none, none, none] (r.toList ++ []) M Q)) ∧ ((C3 126 (nI i).toNatClampNeg).toInt < 0 ∨ 2 < (C3 126 (nI i).toNatClampNeg).toInt → hf_G X Y_X11_changeSize (d + 611) 0 0 0 (hf_en [.ref 100, .int (C3 132 2)] 3) [] (t, T, C3, L, P) (fun r M => hf_G X Y_X11_runOnce (d + 611 + 1) k n 165 [none, none, none, none, none] (r.toList ++ []) M Q))) := by
    intro y x hy hy0 hx1 C3 hC3 k3 hv
    obtain ⟨u, hu, p0, p1, p2, p3⟩ := h4 y x hy hy0 hx1
    have fin : ∀ C4, nzc I' C4 → kpm C3 C4 → (0 ≤ u → Q (some (.int 1)) (t, T, C4, L, P)) ∧ (¬ (0 ≤ u) → Q (some (.int u)) (t, T, C4, L, P)) := by
      intro C4 hC4 k4
      refine ⟨fun z => ?_, fun z => ?_⟩
      · rw [if_pos z] at hu
        rw [← hu]
        exact h C4 hC4 (kpm_tr k3 k4)
      · rw [if_neg z] at hu
        rw [← hu]
        exact h C4 hC4 (kpm_tr k3 k4)
    have e126 : C3 126 i = nI q.1 := by rw [cc hC3 126 (by omega)]; exact r1
    rw [ei, e126]
    refine ⟨vin, fun z => ?_, fun z => ?_, fun z => ?_, fun z => ?_⟩
    · have e0 : q.1 = 0 := (nI_eq (b := 0) (by omega) (by omega)).mp z
      rw [hv (by rw [e0]; rfl)]
      exact p0 e0 L C3 0 0 _ hC3 fun C4 hC4 k4 => w_X11_runOnce_131 hs (fin C4 hC4 k4)
    · have e0 : q.1 = 1 := (nI_eq (b := 1) (by omega) (by omega)).mp z
      exact p1 e0 L C3 0 0 _ hC3 fun C4 hC4 k4 => w_X11_runOnce_140 hs (fin C4 hC4 k4)
    · have e0 : q.1 = 2 := (nI_eq (b := 2) (by omega) (by omega)).mp z
      exact p2 e0 L C3 0 0 _ hC3 fun C4 hC4 k4 => w_X11_runOnce_149 hs (fin C4 hC4 k4)
    · rw [nI_toInt (by omega)] at z
      have e0 : q.1 = 3 := by omega
      rw [hv (by rw [e0]; rfl)]
      exact p3 e0 L C3 0 0 _ hC3 fun C4 hC4 k4 => w_X11_runOnce_165 hs (fin C4 hC4 k4)
  -- the sum, the test being so
  have sum : ∀ y, q.2.2.2.2 (sf I c' w' dn) = some y → ¬ y = 0 → ∀ C2, nzc I C2 → kpm C C2 → (∀ j, j < 37 → C2 133 j = sf I c' w' dn j) → hf_G X Y_X9_hasSum (d + 611) 0 0 0 (hf_en [.ref 124, .int (nI i)] 2) [] (t, T, C2, L, P) (fun r M => hf_G X Y_X11_runOnce (d + 611 + 1) k n 57 [some (.ref 100), some (.ref 124), some (.int (nI i)), none, none] (r.toList ++ []) M Q) := by
    intro y hy hy0 C2 hC2 k2 hf
    refine w_X9_hasSum_0 hs ?_
    rw [ei, cc hC2 128 (by omega), cc hC2 127 (by omega), r2, r3, nI_leI (by omega) (by omega)]
    refine ⟨vin, vin, fun z => ?_, fun z => ?_⟩
    · have hno : q.2.1 = ([], fun _ => some 1) := by
        rcases gS with ⟨hw, cx, vx, kx, lv, hlv, e1, e2⟩ | ⟨hw, e⟩
        · have nz := gr_ps_ne (S := true) (c := cx) (v := vx) 600 3 0 0 kx lv (fun _ => none) (by omega) e1
          have rr : gr_rest 3 = 1 := rfl
          rw [e2] at nz
          omega
        · exact e
      refine w_X11_runOnce_57 (d := d + 611) hs ⟨fun _ => act y 1 hy hy0 (by rw [hno]) C2 hC2 k2 fun hw => ?_, fun g => absurd rfl g⟩
      rcases gS with ⟨-, cx, vx, kx, lv, hlv, e1, e2⟩ | ⟨hw', e⟩
      · have nz := gr_ps_ne (S := true) (c := cx) (v := vx) 600 3 0 0 kx lv (fun _ => none) (by omega) e1
        have rr : gr_rest 3 = 1 := rfl
        rw [e2] at nz
        omega
      · exact absurd hw hw'
    · rcases gS with ⟨hw, cx, vx, kx, lv, hlv, e1, e2⟩ | ⟨hw, e⟩
      · have e2' : (gr_ps true cx vx 600 3 0 0 kx lv (fun _ => none)).2.2.2.1 = q.2.1.1 := by rw [e2]
        have key := cs_reckon (X := X) (d := d + 610) (kk := 0) (nn := 0) (L := L) (I0 := C2) (n := 600) (c := cx) (v := vx) (S := true) (dp := 0) (k := kx) (lv := lv) (a := fun _ => none) (p := (cl_cd (cls.take i)).length) (zl := 2 * (cl_cd cls).length) (Q := fun r M => hf_G X Y_X11_runOnce (d + 611 + 1) k n 80 [some (.ref 100), some (.ref 124), some (.int (nI i)), none, none] (r.toList ++ []) M Q) hs hx (by omega) (by omega) (Or.inl rfl) hlv e1 (by rw [e2', cc hC2 125 (by omega)]; exact hcS) (by rw [cc hC2 124 (by omega)]; exact t6) (by rw [e2']; omega) hz
        have cg := (cl_cg (f := C2 133) (g := sf I c' w' dn) hg (fun j hj => hf j hj)).1
        rw [e2', e2, cg] at key
        refine w_X11_runOnce_57 (d := d + 611) hs ⟨fun g => absurd g (by decide), fun _ => ⟨vin, vin, ?_⟩⟩
        rw [ei, cc hC2 128 (by omega), cc hC2 127 (by omega), r2, r3]
        refine key (fun x hx1 C3 f3 f3' f3v => w_X11_runOnce_80 (d := d + 611) hs ⟨fun _ => act y x hy hy0 hx1 C3 ?_ ?_ (fun _ => f3v), fun g => absurd g (by decide)⟩) (fun hx1 C3 f3 => w_X11_runOnce_80 (d := d + 611) hs ⟨fun g => absurd rfl g, fun _ => ?_⟩)
        · exact fun a b1 b2 b3 b4 => (f3 a b4 b2).trans (hC2 a b1 b2 b3 b4)
        · exact kpm_tr k2 fun a b1 b2 => f3 a (by omega) (by omega)
        · obtain ⟨rfl, rfl⟩ := h3 y hy hy0 hx1
          exact h C3 (fun a b1 b2 b3 b4 => (f3 a b4).trans (hC2 a b1 b2 b3 b4)) (kpm_tr k2 fun a b1 b2 => f3 a (by omega))
      · rw [e] at z
        exact absurd (Nat.le_refl _) z
  -- the test
  refine w_X11_runOnce_0 (d := d + 611) hs (cs_tellFacts (d := d + 608) (c := c') (w := w') hs hc12 (by rw [cc hC 114 (by omega)]; exact hc) ?_ hw16 (by rw [cc hC 105 (by omega)]; exact hw5) ?_ fun C1 f1 g1 => ?_)
  · rw [cc hC 115 (by omega), cc hC 109 (by omega), cc hC 110 (by omega)]
    exact a4
  · rw [cc hC 109 (by omega), cc hC 110 (by omega)]
    exact hok
  rw [sf_nzc hC] at g1
  have hC1 : nzc I C1 := fun a b1 b2 b3 b4 => (f1 a b3).trans (hC a b1 b2 b3 b4)
  have k1 : kpm C C1 := fun a b1 b2 => f1 a (by omega)
  refine w_X11_runOnce_5 (d := d + 611) hs (w_X9_hasTest_0 hs ?_)
  rw [ei, cc hC1 128 (by omega), cc hC1 129 (by omega), r3, r4, nI_leI (by omega) (by omega)]
  refine ⟨vin, vin, fun z => ?_, fun z => ?_⟩
  · have hno : q.2.2.2 = ([], fun _ => some 1) := by
      rcases gT with ⟨cx, vx, kx, lv, hlv, e1, e2⟩ | e
      · have nz := gr_ps_ne (S := true) (c := cx) (v := vx) 600 9 0 0 kx lv (fun _ => none) (by omega) e1
        have rr : gr_rest 9 = 1 := rfl
        rw [e2] at nz
        omega
      · exact e
    refine w_X11_runOnce_10 (d := d + 611) hs ⟨fun _ => sum 1 (by rw [hno]) (by decide) C1 hC1 k1 g1, fun g => absurd rfl g⟩
  · rcases gT with ⟨cx, vx, kx, lv, hlv, e1, e2⟩ | e
    · have e2' : (gr_ps true cx vx 600 9 0 0 kx lv (fun _ => none)).2.2.2.1 = q.2.2.2.1 := by rw [e2]
      have key := cs_reckon (X := X) (d := d + 610) (kk := 0) (nn := 0) (L := L) (I0 := C1) (n := 600) (c := cx) (v := vx) (S := true) (dp := 0) (k := kx) (lv := lv) (a := fun _ => none) (p := (cl_cd (cls.take i)).length + q.2.1.1.length) (zl := 2 * (cl_cd cls).length) (Q := fun r M => hf_G X Y_X11_runOnce (d + 611 + 1) k n 33 [some (.ref 100), some (.ref 124), some (.int (nI i)), none, none] (r.toList ++ []) M Q) hs hx (by omega) (by omega) (Or.inr rfl) hlv e1 (by rw [e2', cc hC1 125 (by omega)]; exact hcT) (by rw [cc hC1 124 (by omega)]; exact t6) (by rw [e2']; omega) hz
      have cg := (cl_cg (f := C1 133) (g := sf I c' w' dn) hg (fun j hj => g1 j hj)).2
      rw [e2', e2, cg] at key
      refine w_X11_runOnce_10 (d := d + 611) hs ⟨fun g => absurd g (by decide), fun _ => ⟨vin, vin, ?_⟩⟩
      rw [ei, cc hC1 128 (by omega), cc hC1 129 (by omega), r3, r4]
      refine key (fun x hx1 C3 f3 f3' f3v => w_X11_runOnce_33 (d := d + 611) hs ⟨fun g => absurd g (by decide), fun _ => ⟨fun z2 => ?_, fun z2 => ?_⟩⟩) (fun hx1 C3 f3 => w_X11_runOnce_33 (d := d + 611) hs ⟨fun _ => ?_, fun g => absurd rfl g⟩)
      · rw [f3v] at z2
        refine sum x hx1 z2 C3 (fun a b1 b2 b3 b4 => (f3 a b4 b2).trans (hC1 a b1 b2 b3 b4)) (kpm_tr k1 fun a b1 b2 => f3 a (by omega) (by omega)) fun j hj => ?_
        rw [f3 133 (by omega) (by omega)]
        exact g1 j hj
      · rw [f3v] at z2
        obtain ⟨rfl, rfl⟩ := h0 (Or.inr (by rw [hx1, z2]))
        exact h C3 (fun a b1 b2 b3 b4 => (f3 a b4 b2).trans (hC1 a b1 b2 b3 b4)) (kpm_tr k1 fun a b1 b2 => f3 a (by omega) (by omega))
      · obtain ⟨rfl, rfl⟩ := h0 (Or.inl hx1)
        exact h C3 (fun a b1 b2 b3 b4 => (f3 a b4).trans (hC1 a b1 b2 b3 b4)) (kpm_tr k1 fun a b1 b2 => f3 a (by omega))
    · rw [e] at z
      exact absurd (Nat.le_refl _) z
end ONCE
