/-! SETTINGS: all CLAUSES, all times, by both -/
def st_ng (u : Int32) : Prop := u = -1 ∨ u = -2 ∨ u = -3 ∨ u = -5
theorem st_ng_n {u : Int32} (h : st_ng u) : ¬ 0 ≤ u ∧ ¬ u = 0 := by
  rcases h with rfl | rfl | rfl | rfl <;> decide
theorem nz2_up {I D : hf_I} {v : Int32} (h : nz2 I D) : nz2 I (hf_up D 156 42 v) := by
  refine ⟨fun a z1 z2 z3 => ?_, fun j z1 z2 => ?_⟩
  · rw [hf_up_no (by omega)]
    exact h.1 a z1 z2 z3
  · show upd (D 156) 42 v j = _
    rw [hf_upd_ne (by omega)]
    exact h.2 j z1 z2
section ALLC
variable {X : hf_X} {d t : Nat} {T : hf_T} {P : hf_P} {c v : Nat → Nat} {m : Nat} {cls lws : List gr_c1}
def st_tc (X : hf_X) (d t : Nat) (T : hf_T) (P : hf_P) (i : Nat) (I : hf_I) (x : Nat) (u : Int32) (I' : hf_I) : Prop := ∀ (L : hf_L) (C : hf_I) (x2 : Int32) (kk nn : Nat) (Q : Option Value → hf_M → Prop), nzc I C → (∀ C', nzc I' C' → kpm C C' → (u = 0 → hf_G X Y_X11_runWholly (d + 613) kk nn 38 [some (.ref 100), some (.ref 124), some (.int x2), some (.int (I' 156 24)), some (.int (nI i + 1)), none, none] [] (t, T, C', L, P) Q) ∧ (¬ u = 0 → hf_G X Y_X6_takeFrom (d + 612) 0 0 0 (hf_en [.ref 148, .ref 150] 2) [] (t, T, C', L, P) (fun r M => hf_G X Y_X11_runWholly (d + 613) kk nn 88 [some (.ref 100), none, some (.int x2), none, some (.int (nI i)), none, some (.int u)] (r.toList ++ []) M Q))) → hf_G X Y_X11_runWholly (d + 613) kk nn 50 [some (.ref 100), some (.ref 124), some (.int x2), some (.int (I 156 24)), some (.int (nI i)), some (.int (nI x)), none] [] (t, T, C, L, P) Q
def st_tm (X : hf_X) (d t : Nat) (T : hf_T) (P : hf_P) (m k k2 tm : Nat) (I : hf_I) (x : Nat) (u : Int32) (I' : hf_I) : Prop := ∀ (L : hf_L) (D : hf_I) (kk nn : Nat) (Q : Option Value → hf_M → Prop), nz2 I D → D 156 42 = nI (2400 + k) → (∀ D' L', nz2 I' D' → kpc D D' → L' 136 = L 136 → (u = 0 → D' 156 42 = nI (2400 + k2) → Q (some (.int 0)) (t, T, D', L', P)) ∧ (¬ u = 0 → Q (some (.int u)) (t, T, D', L', P))) → hf_G X Y_X12_runs (d + 613) kk nn 19 [some (.ref 156), some (.int (nI (2400 + m))), some (.int (nI tm)), some (.int (nI (2400 + k2))), some (.int (nI x)), none] [] (t, T, D, L, P) Q
theorem st_times {k lv i k2 : Nat} {q : gr_c1} (hs : hf_Lay t T P) (hm4 : m ≤ 400) (hc0 : ∀ j, m ≤ j → c j = 0) (hz : 2 * (cl_cd cls).length ≤ 800) (hm : cls.length ≤ 12) (hq : cls[i]? = some q) (hg : cl_gd true q) (hk : k ≤ m) (hcl : (gr_cl true c v k lv).1 = 2) (hqq : (gr_cl true c v k lv).2.2.2 = q) :
    ∀ (r x : Nat) (I : hf_I) (n : Nat), x + r = q.2.2.1 → st_in t T P c v m cls lws I → I 156 24 = nI n → ∃ u I', st_in t T P c v m cls lws I' ∧ hf_fr I I' ∧ (u = 0 → ∃ n', I' 156 24 = nI n' ∧ n' ≤ n + r) ∧ (u = 0 ∨ st_ng u) ∧ st_tc X d t T P i I x u I' ∧ st_tm X d t T P m k k2 q.2.2.1 I x u I' := by
  have hil : i < cls.length := by
    rcases Nat.lt_or_ge i cls.length with z | z
    · exact z
    · rw [List.getElem?_eq_none z] at hq; cases hq
  have vin : vp_in (nI i) 12 := vp_in_nI (by omega) (by omega)
  have ei : (nI i).toNatClampNeg = i := nI_clamp (by omega)
  have tm20 := hg.2.1
  have row : ∀ {I C : hf_I}, st_in t T P c v m cls lws I → nzc I C → C 130 i = nI q.2.2.1 := by
    intro I C hI hC
    rw [hC 130 (by omega) (by omega) (by omega) (by omega)]
    exact (hI.2.2.2.2.1.2.2.2 i q hq).2.2.2.2
  intro r
  induction r with
  | zero =>
    intro x I n hx hI h24
    refine ⟨0, I, hI, hf_fr_rf, fun _ => ⟨n, h24, by omega⟩, Or.inl rfl, fun L C x2 kk nn Q hC hQ => ?_, fun L D kk nn Q hD h42 hQ => ?_⟩
    · refine w_X11_runWholly_50 (d := d + 612) hs ?_
      rw [ei, row hI hC, nI_leI (by omega) (by omega)]
      exact ⟨vin, fun _ => (hQ C hC kpm_rf).1 rfl, fun z => absurd (show q.2.2.1 ≤ x by omega) z⟩
    · refine w_X12_runs_19 (d := d + 612) hs ?_
      rw [nI_leI (by omega) (by omega)]
      exact ⟨fun _ => (hQ _ L (nz2_up hD) (kpc_up kpc_rf (by omega) (by omega)) rfl).1 rfl rfl, fun z => absurd (show q.2.2.1 ≤ x by omega) z⟩
  | succ r ih =>
    intro x I n hx hI h24
    obtain ⟨u1, I1, s1, s2, s3, s4, s5⟩ := st_once (X := X) (d := d) (lv := lv) hs hI hm4 hc0 hz hm hq hg hk hcl hqq
    -- as far as the outcome
    have cl1 : ∀ (L : hf_L) (C : hf_I) (x2 : Int32) (kk nn : Nat) (Q : Option Value → hf_M → Prop), nzc I C → (∀ C', nzc I1 C' → kpm C C' → hf_G X Y_X11_runWholly (d + 612 + 1) kk nn 70 [some (.ref 100), some (.ref 124), some (.int x2), some (.int (I 156 24)), some (.int (nI i)), some (.int (nI x)), none] [.int u1] (t, T, C', L, P) Q) → hf_G X Y_X11_runWholly (d + 613) kk nn 50 [some (.ref 100), some (.ref 124), some (.int x2), some (.int (I 156 24)), some (.int (nI i)), some (.int (nI x)), none] [] (t, T, C, L, P) Q := by
      intro L C x2 kk nn Q hC hQ
      refine w_X11_runWholly_50 (d := d + 612) hs ?_
      rw [ei, row hI hC, nI_leI (by omega) (by omega)]
      exact ⟨vin, fun z => absurd z (by omega), fun _ => s4 L C 0 0 _ hC fun C' hC' kp => hQ C' hC' kp⟩
    have ml1 : ∀ (L : hf_L) (D : hf_I) (kk nn : Nat) (Q : Option Value → hf_M → Prop), nz2 I D → D 156 42 = nI (2400 + k) → (∀ D' L', nz2 I1 D' → D' 156 42 = nI (2400 + k) → kpc D D' → L' 136 = L 136 → (0 ≤ u1 → hf_G X Y_X12_runs (d + 613) kk nn 19 [some (.ref 156), some (.int (nI (2400 + m))), some (.int (nI q.2.2.1)), some (.int (nI (2400 + k2))), some (.int (nI x + 1)), none] [] (t, T, D', L', P) Q) ∧ (¬ 0 ≤ u1 → Q (some (.int u1)) (t, T, D', L', P))) → hf_G X Y_X12_runs (d + 613) kk nn 19 [some (.ref 156), some (.int (nI (2400 + m))), some (.int (nI q.2.2.1)), some (.int (nI (2400 + k2))), some (.int (nI x)), none] [] (t, T, D, L, P) Q := by
      intro L D kk nn Q hD h42 hQ
      refine w_X12_runs_19 (d := d + 612) hs ?_
      rw [nI_leI (by omega) (by omega)]
      exact ⟨fun z => absurd z (by omega), fun _ => s5 L D _ _ _ kk nn Q hD h42 hQ⟩
    rcases s3 with ⟨g1, g2⟩ | g
    · have hu : ∃ w, w ≤ 1 ∧ u1 = nI w := by
        rcases g1 with z | z
        · exact ⟨0, by omega, z⟩
        · exact ⟨1, by omega, z⟩
      obtain ⟨w, hw, hu⟩ := hu
      have u0 : 0 ≤ u1 := by rw [hu]; exact nI_pos' (by omega)
      obtain ⟨u, I', e1, e2, e3, e4, e5, e6⟩ := ih (x + 1) I1 (n + w) (by omega) s1 (by rw [g2, h24, hu, nI_add])
      refine ⟨u, I', e1, hf_fr_tr s2 e2, fun z => ?_, e4, fun L C x2 kk nn Q hC hQ => ?_, fun L D kk nn Q hD h42 hQ => ?_⟩
      · obtain ⟨n', f1, f2⟩ := e3 z
        exact ⟨n', f1, by omega⟩
      · refine cl1 L C x2 kk nn Q hC fun C' hC' kp => w_X11_runWholly_70 (d := d + 612) hs ⟨fun _ => ?_, fun z => absurd u0 z⟩
        rw [← g2, nI_1]
        exact e5 L C' x2 kk nn Q hC' fun C2 hC2 kp2 => hQ C2 hC2 (kpm_tr kp kp2)
      · refine ml1 L D kk nn Q hD h42 fun D' L' hD' h42' kp hL => ⟨fun _ => ?_, fun z => absurd u0 z⟩
        rw [nI_1]
        exact e6 L' D' kk nn Q hD' h42' fun D2 L2 hD2 kp2 hL2 => hQ D2 L2 hD2 (kpc_tr kp kp2) (hL2.trans hL)
    · obtain ⟨g1, g2⟩ := st_ng_n g
      refine ⟨u1, I1, s1, s2, fun z => absurd z g2, Or.inr g, fun L C x2 kk nn Q hC hQ => ?_, fun L D kk nn Q hD h42 hQ => ?_⟩
      · exact cl1 L C x2 kk nn Q hC fun C' hC' kp => w_X11_runWholly_70 (d := d + 612) hs ⟨fun z => absurd z g1, fun _ => (hQ C' hC' kp).2 g2⟩
      · exact ml1 L D kk nn Q hD h42 fun D' L' hD' h42' kp hL => ⟨fun z => absurd z g1, fun _ => (hQ D' L' hD' kp hL).2 g2⟩
def st_ac (X : hf_X) (d t : Nat) (T : hf_T) (P : hf_P) (i : Nat) (I : hf_I) (u : Int32) (s : Nat) (I' : hf_I) : Prop := ∀ (L : hf_L) (C : hf_I) (x2 : Int32) (kk nn : Nat) (Q : Option Value → hf_M → Prop), nzc I C → (∀ C', nzc I' C' → kpm C C' → (u = 0 → Q (some (.int (I' 156 24))) (t, T, C', L, P)) ∧ (¬ u = 0 → hf_G X Y_X6_takeFrom (d + 612) 0 0 0 (hf_en [.ref 148, .ref 150] 2) [] (t, T, C', L, P) (fun r M => hf_G X Y_X11_runWholly (d + 613) kk nn 88 [some (.ref 100), none, some (.int x2), none, some (.int (nI s)), none, some (.int u)] (r.toList ++ []) M Q))) → hf_G X Y_X11_runWholly (d + 613) kk nn 38 [some (.ref 100), some (.ref 124), some (.int x2), some (.int (I 156 24)), some (.int (nI i)), none, none] [] (t, T, C, L, P) Q
def st_am (X : hf_X) (d t : Nat) (T : hf_T) (P : hf_P) (m k i : Nat) (I : hf_I) (u : Int32) (s : Nat) (I' : hf_I) : Prop := ∀ (L : hf_L) (D : hf_I) (x1 x2 : Int32) (kk nn : Nat) (Q : Option Value → hf_M → Prop), nz2 I D → D 156 42 = nI (2400 + k) → (∀ D' L', nz2 I' D' → kpc D D' → L' 136 = L 136 → (u = 0 → Q (some (.int (I' 156 24))) (t, T, hf_up D' 156 0 0, L', P)) ∧ (¬ u = 0 → hf_G X Y_X12_settings (d + 614) kk nn 152 [some (.ref 156), some (.int x1), some (.int x2), none, some (.int (nI s)), some (.int u), some (.int 0)] [] (t, T, D', L', P) Q)) → hf_G X Y_X12_settings (d + 614) kk nn 126 [some (.ref 156), some (.int x1), some (.int x2), some (.int (nI (2400 + m))), some (.int (nI i)), none, none] [] (t, T, D, L, P) Q
theorem st_all (hs : hf_Lay t T P) (hm4 : m ≤ 400) (hc0 : ∀ j, m ≤ j → c j = 0) (hz : 2 * (cl_cd cls).length ≤ 800) (hm : cls.length ≤ 12) (hgd : ∀ q ∈ cls, cl_gd true q) :
    ∀ (j k lv i : Nat) (I : hf_I) (n : Nat), k ≤ m → lv ≤ 50 → (gr_al true c v m j k lv).1 = 2 → cls.drop i = (gr_al true c v m j k lv).2.2 → st_in t T P c v m cls lws I → I 156 24 = nI n → n ≤ 20 * i → ∃ u s I', st_in t T P c v m cls lws I' ∧ hf_fr I I' ∧ (u = 0 → ∃ n', I' 156 24 = nI n' ∧ n' ≤ 240) ∧ (u = 0 ∨ st_ng u) ∧ s < 12 ∧ st_ac X d t T P i I u s I' ∧ st_am X d t T P m k i I u s I' := by
  intro j
  induction j with
  | zero => intro k lv i I n _ _ hg; exact absurd hg (by show ¬ (1 = 2); omega)
  | succ j ih =>
    intro k lv i I n hk hlv hg hd hI h24 hn
    rw [gr_al] at hg hd
    by_cases ecl : (gr_cl true c v k lv).1 = 2
    · rw [if_pos ecl] at hg hd
      have fw := gr_cl_fw ecl
      have cn := (gr_cl_n (S := true) (v := v) (lv := lv) hc0 hm4 hk).2
      -- the CLAUSE
      have hq0 : ∃ rest, cls.drop i = (gr_cl true c v k lv).2.2.2 :: rest := by
        by_cases z : (gr_cl true c v k lv).2.1 = m
        · rw [if_pos z] at hd; exact ⟨_, hd⟩
        · rw [if_neg z] at hd hg
          by_cases z9 : c (gr_cl true c v k lv).2.1 = 159
          · rw [if_pos z9] at hd; exact ⟨_, hd⟩
          · rw [if_neg z9] at hg; exact absurd hg (by show ¬ (1 = 2); omega)
      obtain ⟨rest, hrest⟩ := hq0
      have hil : i < cls.length := by
        rcases Nat.lt_or_ge i cls.length with z | z
        · exact z
        · rw [List.drop_eq_nil_of_le z] at hrest; cases hrest
      have hdi := List.drop_eq_getElem_cons hil
      rw [hrest] at hdi
      have hq : cls[i]? = some (gr_cl true c v k lv).2.2.2 := by
        rw [List.getElem?_eq_getElem hil]
        exact congrArg some (List.cons.inj hdi).1.symm
      have hdr : cls.drop (i + 1) = rest := (List.cons.inj hdi).2.symm
      have hg1 := hgd _ (List.mem_of_getElem? hq)
      have tm20 := hg1.2.1
      generalize hqq : (gr_cl true c v k lv).2.2.2 = q at *
      have h0 : ¬ gr_kd true (c k) = 0 := fun z => by rw [gr_cl_a z] at ecl; exact absurd ecl (by show ¬ (1 = 2); omega)
      have hkm := gr_lt' hc0 (gr_kd_ne h0)
      obtain ⟨u1, I1, s1, s2, s3, s4, s5, s6⟩ := st_times (X := X) (d := d) (lv := lv) (k2 := (gr_cl true c v k lv).2.1 + 1) (lws := lws) hs hm4 hc0 hz hm hq hg1 hk ecl hqq q.2.2.1 0 I n (by omega) hI h24
      -- as far as the CLAUSE's end
      have cl1 : ∀ (L : hf_L) (C : hf_I) (x2 : Int32) (kk nn : Nat) (Q : Option Value → hf_M → Prop), nzc I C → (∀ C', nzc I1 C' → kpm C C' → (u1 = 0 → hf_G X Y_X11_runWholly (d + 613) kk nn 38 [some (.ref 100), some (.ref 124), some (.int x2), some (.int (I1 156 24)), some (.int (nI i + 1)), none, none] [] (t, T, C', L, P) Q) ∧ (¬ u1 = 0 → hf_G X Y_X6_takeFrom (d + 612) 0 0 0 (hf_en [.ref 148, .ref 150] 2) [] (t, T, C', L, P) (fun r M => hf_G X Y_X11_runWholly (d + 613) kk nn 88 [some (.ref 100), none, some (.int x2), none, some (.int (nI i)), none, some (.int u1)] (r.toList ++ []) M Q))) → hf_G X Y_X11_runWholly (d + 613) kk nn 38 [some (.ref 100), some (.ref 124), some (.int x2), some (.int (I 156 24)), some (.int (nI i)), none, none] [] (t, T, C, L, P) Q := by
        intro L C x2 kk nn Q hC hQ
        have e7 : C 124 7 = nI cls.length := by
          rw [hC 124 (by omega) (by omega) (by omega) (by omega)]
          exact hI.2.2.2.2.1.2.1
        refine w_X11_runWholly_38 hs ?_
        rw [e7, nI_leI (by omega) (by omega)]
        exact ⟨fun z => absurd z (by omega), fun _ => s5 L C x2 kk nn Q hC hQ⟩
      have ml1 : ∀ (L : hf_L) (D : hf_I) (x1 x2 : Int32) (kk nn : Nat) (Q : Option Value → hf_M → Prop), nz2 I D → D 156 42 = nI (2400 + k) → (∀ D' L', nz2 I1 D' → kpc D D' → L' 136 = L 136 → (u1 = 0 → D' 156 42 = nI (2400 + ((gr_cl true c v k lv).2.1 + 1)) → hf_G X Y_X12_settings (d + 614) kk nn 126 [some (.ref 156), some (.int x1), some (.int x2), some (.int (nI (2400 + m))), some (.int (nI i + 1)), none, none] [] (t, T, D', L', P) Q) ∧ (¬ u1 = 0 → hf_G X Y_X12_settings (d + 614) kk nn 152 [some (.ref 156), some (.int x1), some (.int x2), none, some (.int (nI i)), some (.int u1), some (.int 0)] [] (t, T, D', L', P) Q)) → hf_G X Y_X12_settings (d + 614) kk nn 126 [some (.ref 156), some (.int x1), some (.int x2), some (.int (nI (2400 + m))), some (.int (nI i)), none, none] [] (t, T, D, L, P) Q := by
        intro L D x1 x2 kk nn Q hD h42 hQ
        obtain ⟨a1, a2, a3, a4, a5, a6⟩ := id hI
        obtain ⟨c', b1, b2, -⟩ := sim_hd a1
        obtain ⟨w', w1, w2, -⟩ := id a1.2.2.2.1
        have d158 : D 158 = I 158 := hD.1 158 (by omega) (by omega) (by omega)
        have d24 : D 156 24 = I 156 24 := hD.2 24 (by omega) (by omega)
        refine w_X12_settings_126 (d := d + 613) hs ?_
        rw [h42, nI_leI (by omega) (by omega)]
        refine ⟨fun z => absurd z (by omega), fun _ => w_X12_runs_0 (d := d + 612) hs ?_⟩
        refine ms_goesAlong (d := d + 4) (act := false) (f := sf I c' w' (I 156 24)) hs rfl hm4 hc0 (by rw [d158]; exact a6) (fun L' J e1 e2 => ev_fa_set hs a1 (e1.trans d158) (e2.trans d24) b2 b1 w2 w1) hk h42 ecl hqq fun D' s0 f1 f2 f3 f4 f5 => w_X12_runs_6 hs ?_
        rw [f4, f2]
        refine s6 (hf_upL L 156 47 s0) D' 0 0 _ ⟨fun a z1 z2 z3 => (f1.1 a (by omega)).trans (hD.1 a z1 z2 z3), fun j z1 z2 => (f1.2 j ?_).trans (hD.2 j z1 z2)⟩ ((f1.2 42 (by decide)).trans h42) fun D2 L2 hD2 kp2 hL2 => ⟨fun z1 z2 => ?_, fun z1 => ?_⟩
        · simp only [List.mem_cons, List.not_mem_nil, or_false]
          omega
        · refine w_X12_settings_139 hs ⟨fun z => absurd rfl z, fun _ => ?_⟩
          exact (hQ D2 L2 hD2 (kpc_tr (fun a ha => f1.1 a (by omega)) kp2) hL2).1 z1 z2
        · refine w_X12_settings_139 hs ⟨fun _ => ?_, fun z => absurd z z1⟩
          exact (hQ D2 L2 hD2 (kpc_tr (fun a ha => f1.1 a (by omega)) kp2) hL2).2 z1
      rcases s4 with hu | hu
      · subst hu
        obtain ⟨n', f1, f2⟩ := s3 rfl
        by_cases z : (gr_cl true c v k lv).2.1 = m
        · -- the last CLAUSE
          rw [if_pos z] at hd
          have hr : rest = [] := by rw [hrest] at hd; exact (List.cons.inj hd).2
          have hlast : cls.length ≤ i + 1 := by
            rw [hr] at hdr
            rcases Nat.lt_or_ge (i + 1) cls.length with y | y
            · rw [List.drop_eq_getElem_cons y] at hdr; cases hdr
            · exact y
          refine ⟨0, 0, I1, s1, s2, fun _ => ⟨n', f1, by omega⟩, Or.inl rfl, by omega, fun L C x2 kk nn Q hC hQ => ?_, fun L D x1 x2 kk nn Q hD h42 hQ => ?_⟩
          · refine cl1 L C x2 kk nn Q hC fun C' hC' kp => ⟨fun _ => ?_, fun y => absurd rfl y⟩
            have e7 : C' 124 7 = nI cls.length := by
              rw [hC' 124 (by omega) (by omega) (by omega) (by omega)]
              exact s1.2.2.2.2.1.2.1
            refine w_X11_runWholly_38 hs ?_
            rw [e7, nI_1, nI_leI (by omega) (by omega)]
            exact ⟨fun _ => (hQ C' hC' kp).1 rfl, fun y => absurd hlast y⟩
          · refine ml1 L D x1 x2 kk nn Q hD h42 fun D' L' hD' kp hL => ⟨fun _ h42' => ?_, fun y => absurd rfl y⟩
            refine w_X12_settings_126 (d := d + 613) hs ?_
            rw [h42', nI_leI (by omega) (by omega), hD'.2 24 (by omega) (by omega)]
            exact ⟨fun _ => (hQ D' L' hD' kp hL).1 rfl, fun y => absurd (by omega) y⟩
        · rw [if_neg z] at hd hg
          by_cases z9 : c (gr_cl true c v k lv).2.1 = 159
          · rw [if_pos z9] at hd hg
            have hr : rest = (gr_al true c v m j ((gr_cl true c v k lv).2.1 + 1) (gr_cl true c v k lv).2.2.1).2.2 := by rw [hrest] at hd; exact (List.cons.inj hd).2
            obtain ⟨u, s, I', e1, e2, e3, e4, e5, e6, e7⟩ := ih ((gr_cl true c v k lv).2.1 + 1) (gr_cl true c v k lv).2.2.1 (i + 1) I1 n' (by omega) (fw.2.2.2 hlv) hg (hdr.trans hr) s1 f1 (by omega)
            refine ⟨u, s, I', e1, hf_fr_tr s2 e2, e3, e4, e5, fun L C x2 kk nn Q hC hQ => ?_, fun L D x1 x2 kk nn Q hD h42 hQ => ?_⟩
            · refine cl1 L C x2 kk nn Q hC fun C' hC' kp => ⟨fun _ => ?_, fun y => absurd rfl y⟩
              rw [nI_1]
              exact e6 L C' x2 kk nn Q hC' fun C2 hC2 kp2 => hQ C2 hC2 (kpm_tr kp kp2)
            · refine ml1 L D x1 x2 kk nn Q hD h42 fun D' L' hD' kp hL => ⟨fun _ h42' => ?_, fun y => absurd rfl y⟩
              rw [nI_1]
              exact e7 L' D' x1 x2 kk nn Q hD' h42' fun D2 L2 hD2 kp2 hL2 => hQ D2 L2 hD2 (kpc_tr kp kp2) (hL2.trans hL)
          · rw [if_neg z9] at hg
            exact absurd hg (by show ¬ (1 = 2); omega)
      · obtain ⟨g1, g2⟩ := st_ng_n hu
        refine ⟨u1, i, I1, s1, s2, fun z => absurd z g2, Or.inr hu, by omega, fun L C x2 kk nn Q hC hQ => ?_, fun L D x1 x2 kk nn Q hD h42 hQ => ?_⟩
        · exact cl1 L C x2 kk nn Q hC fun C' hC' kp => ⟨fun z => absurd z g2, fun _ => (hQ C' hC' kp).2 g2⟩
        · exact ml1 L D x1 x2 kk nn Q hD h42 fun D' L' hD' kp hL => ⟨fun z => absurd z g2, fun _ => (hQ D' L' hD' kp hL).2 g2⟩
    · rw [if_neg ecl] at hg
      exact absurd hg (by show ¬ (1 = 2); omega)
end ALLC
