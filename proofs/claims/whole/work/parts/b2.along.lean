/-! SETTINGS: going along one CLAUSE, by the model -/
section ALONG
variable {X : hf_X} {d kk nn t : Nat} {T : hf_T} {L : hf_L} {P : hf_P} {Q : Option Value → hf_M → Prop} {c v : Nat → Nat} {m : Nat} {f : Nat → Int32}
/-- what it leaves behind, in cell 156 alone -/
def ga_fr (l : List Nat) (D D' : hf_I) : Prop := (∀ a, ¬ a = 156 → D' a = D a) ∧ ∀ j, ¬ j ∈ l → D' 156 j = D 156 j
theorem ga_up {l : List Nat} {D D' : hf_I} {j : Nat} {w : Int32} (h : ga_fr l D D') (hj : j ∈ l) : ga_fr l D (hf_up D' 156 j w) := by
  refine ⟨fun a ha => ?_, fun i hi => ?_⟩
  · rw [← h.1 a ha]
    simp [hf_up, ha]
  · rw [← h.2 i hi]
    show upd (D' 156) j w i = D' 156 i
    exact hf_upd_ne (fun q => hi (q ▸ hj))
theorem ga_ev {l : List Nat} {D D1 D2 : hf_I} (h : ga_fr l D D1) (h1 : 19 ∈ l) (h2 : 21 ∈ l) (he : ev_fr D1 D2) : ga_fr l D D2 := by
  refine ⟨fun a ha => (he.1 a ha).trans (h.1 a ha), fun j hj => ?_⟩
  rw [he.2 j (fun q => hj (q ▸ h1)) (fun q => hj (q ▸ h2))]
  exact h.2 j hj
theorem ga_rf {l : List Nat} {D : hf_I} : ga_fr l D D := ⟨fun _ _ => rfl, fun _ _ => rfl⟩
theorem ga_tk {D D' : hf_I} (h : D' 158 = D 158) (h20 : D' 156 20 = D 156 20) (h22 : D' 156 22 = D 156 22) (htk : ev_tk D true 2400 c v m) : ev_tk D' true 2400 c v m := by
  obtain ⟨e1, e2, e3, e4, e5, e6⟩ := htk
  refine ⟨e1, e2, e3, h20.trans e4, h22.trans e5, ?_⟩
  rw [h]
  exact e6
theorem ga_if {J : hf_I} {p lv : Nat} {r2 : gr_r} {act : Bool} {live : Int32} (hs : hf_Lay t T P) (hl : live = if act = true then 1 else 0) (htk : ev_tk J true 2400 c v m) (hfa : ev_fa X t T L P J true f) (hp : p ≤ m) (h19 : J 156 19 = nI (2400 + p)) (h21 : J 156 21 = 0) (e2 : gr_if true c v p lv = r2) (g2 : r2.1 = 2)
    (h : ∀ D', ga_fr [19, 21, 46] J D' → D' 156 19 = nI (2400 + (r2.2.1 + 1)) → (act = true → (∀ y, r2.2.2.2.2 f = some y → D' 156 46 = if y = 0 then 0 else 1) ∧ (r2.2.2.2.2 f = none → D' 156 46 = 0)) → Q none (t, T, D', L, P)) :
    hf_G X Y_X12_passes0 (d + 607) 0 0 0 (hf_en [.ref 156, .int 4] 3) [] (t, T, J, L, P) (fun r M => hf_G X Y_X12_goesAlong (d + 607 + 1) kk nn 144 [some (.ref 156), none, some (.int live)] (r.toList ++ [.ref 156]) M Q) := by
  have st : ev_st J (2400 + p) 0 J := ⟨⟨fun _ _ => rfl, fun _ _ _ => rfl⟩, h19, h21⟩
  have ac : ev_ac live 0 act := by
    rw [hl]
    cases act
    · exact ⟨Or.inl rfl, (fun q => by cases q), fun _ => Or.inl rfl⟩
    · exact ⟨Or.inl rfl, fun _ => ⟨by decide, rfl⟩, (fun q => by cases q)⟩
  refine ev_pass (ch := 4) (d := d + 606) hs htk hp (by omega) st (fun hc J1 st1 => ?_) (fun hc => ?_)
  · have e2' : gr_if true c v p lv = gr_ps true c v 600 9 0 0 (p + 1) lv (fun _ => none) := by unfold gr_if; rw [if_pos hc]
    have hpm : p < m := ev_lt htk (by omega)
    refine w_X12_goesAlong_144 (d := d + 607) hs ⟨fun g => absurd g (by decide), fun _ => ?_⟩
    obtain ⟨i0, i1, i2, i3, i4, i5, i6, i7, i8, i9, i10⟩ := ce_any (X := X) (L := L) hs htk hfa 600
    refine i9 0 (p + 1) lv (fun _ => none) J1 _ (d + 607) 0 0 live 0 act (by omega) (by omega) ac st1 (by rw [← e2', e2]; exact g2) ?_
    rw [← e2', e2]
    intro J2 w hw f2 g19 ga gn
    have fin : ∀ a b : Int32, (act = true → (∀ y, r2.2.2.2.2 f = some y → b = if y = 0 then 0 else 1) ∧ (r2.2.2.2.2 f = none → b = 0)) → Q none (t, T, hf_up (hf_up (hf_up J2 156 46 a) 156 46 b) 156 19 (J2 156 19 + 1), L, P) := by
      intro a b hb
      refine h _ (ga_up (ga_up (ga_up (ga_ev ga_rf (by decide) (by decide) f2) (by decide)) (by decide)) (by decide)) ?_ hb
      show J2 156 19 + 1 = _
      rw [g19, nI_1]
      rfl
    refine w_X12_goesAlong_152 hs ⟨fun z => fin 0 0 fun ha => ?_, fun z => ⟨fun z2 => fin 1 0 fun ha => ?_, fun z2 => fin 1 1 fun ha => ?_⟩⟩
    · obtain ⟨g1, g2'⟩ := ga ha
      refine ⟨fun y hy => ?_, fun _ => rfl⟩
      rw [if_pos ((g1 y hy).1.symm.trans z)]
    · obtain ⟨g1, g2'⟩ := ga ha
      exact ⟨fun y hy => absurd (g1 y hy).2 z2, fun _ => rfl⟩
    · obtain ⟨g1, g2'⟩ := ga ha
      refine ⟨fun y hy => ?_, fun hn => ?_⟩
      · rw [if_neg (fun q => z ((g1 y hy).1.trans q))]
      · exact absurd (z2.symm.trans (g2' hn)) (by decide)
  · have e2' : r2 = gr_gd p lv [] (fun _ => some 1) := by rw [← e2]; unfold gr_if; rw [if_neg hc]
    refine w_X12_goesAlong_144 (d := d + 607) hs ⟨fun _ => ⟨fun g => absurd h21 g, fun _ => ?_⟩, fun g => absurd rfl g⟩
    refine h _ (ga_up (ga_up (ga_up ga_rf (by decide)) (by decide)) (by decide)) ?_ fun _ => ?_
    · show J 156 19 + 1 = _
      rw [h19, nI_1, e2']
      rfl
    · rw [e2']
      refine ⟨fun y hy => ?_, fun hn => by cases hn⟩
      have : (1 : Int32) = y := Option.some.inj hy
      rw [← this]
      rfl
theorem ga_tail {J : hf_I} {p lv : Nat} {qt : Nat × Nat × Nat} {r2 : gr_r} {act : Bool} {live : Int32} (hs : hf_Lay t T P) (hl : live = if act = true then 1 else 0) (htk : ev_tk J true 2400 c v m) (hfa : ∀ J', J' 158 = J 158 → J' 156 24 = J 156 24 → ev_fa X t T L P J' true f) (hp : p ≤ m) (h19 : J 156 19 = nI (2400 + p)) (h43 : J 156 43 = 1) (e1 : gr_tm true c v p = qt) (g1 : qt.1 = 2) (e2 : gr_if true c v qt.2.1 lv = r2) (g2 : r2.1 = 2)
    (h : ∀ D', ga_fr [19, 21, 43, 46] J D' → D' 156 19 = nI (2400 + (r2.2.1 + 1)) → D' 156 43 = nI qt.2.2 → (act = true → (∀ y, r2.2.2.2.2 f = some y → D' 156 46 = if y = 0 then 0 else 1) ∧ (r2.2.2.2.2 f = none → D' 156 46 = 0)) → Q none (t, T, D', L, P)) :
    hf_G X Y_X12_passes0 (d + 607) 0 0 0 (hf_en [.ref 156, .int 28] 3) [] (t, T, J, L, P) (fun r M => hf_G X Y_X12_goesAlong (d + 607 + 1) kk nn 103 [some (.ref 156), none, some (.int live)] (r.toList ++ []) M Q) := by
  have st : ev_st J (2400 + p) (J 156 21) J := ⟨⟨fun _ _ => rfl, fun _ _ _ => rfl⟩, h19, rfl⟩
  refine ev_pass (ch := 28) (d := d + 606) hs htk hp (by omega) st (fun hc J1 st1 => ?_) (fun hc => ?_)
  · have hq : c (p + 1) = 50 ∧ qt = (2, p + 2, v (p + 1)) := by
      unfold gr_tm at e1
      rw [if_pos ⟨rfl, hc⟩] at e1
      by_cases z : c (p + 1) = 50 ∧ 1 ≤ v (p + 1) ∧ v (p + 1) ≤ 20
      · rw [if_pos z] at e1; exact ⟨z.1, e1.symm⟩
      · rw [if_neg z] at e1
        rw [← e1] at g1
        exact absurd g1 (by show ¬ (1 = 2); omega)
    obtain ⟨h50, rfl⟩ := hq
    have hm1 : p + 1 < m := ev_lt htk (by omega)
    have hm4 := htk.1
    have hv := (htk.2.2.2.2.2 (p + 1) hm1).2.1
    have e31 : (3129 : Int32) + J1 156 19 = nI (3129 + 2400 + (p + 1)) := by
      rw [st1.2.1, show (3129 : Int32) = nI 3129 from rfl, nI_add]
      congr 1
      omega
    have j158 : J1 158 = J 158 := st1.1.1 158 (by omega)
    refine w_X12_goesAlong_103 (d := d + 607) hs ⟨fun g => absurd g (by decide), fun _ => ?_⟩
    rw [e31, nI_clamp (by omega), j158, hv]
    refine ⟨vp_in_nI (by omega) (by omega), ?_⟩
    have g : ga_fr [19, 21, 43, 46] J (hf_up (hf_up (hf_up J1 156 43 (nI (v (p + 1)))) 156 19 (J1 156 19 + 1)) 156 21 0) := ga_up (ga_up (ga_up (ga_ev ga_rf (by decide) (by decide) st1.1) (by decide)) (by decide)) (by decide)
    refine ga_if (act := act) (p := p + 2) (lv := lv) (r2 := r2) hs hl (ga_tk (g.1 158 (by omega)) (g.2 20 (by decide)) (g.2 22 (by decide)) htk) (hfa _ (g.1 158 (by omega)) (g.2 24 (by decide))) (by omega) ?_ rfl e2 g2 fun D' fD k19 kt => ?_
    · show J1 156 19 + 1 = _
      rw [st1.2.1, nI_1]
      rfl
    · refine h D' ⟨fun a ha => (fD.1 a ha).trans (g.1 a ha), fun j hj => ?_⟩ k19 ?_ kt
      · rw [fD.2 j (fun q => hj (by simp only [List.mem_cons, List.not_mem_nil, or_false] at q ⊢; omega))]
        exact g.2 j hj
      · rw [fD.2 43 (by decide)]
        rfl
  · have hq : qt = (2, p, 1) := by
      rw [← e1]
      unfold gr_tm
      rw [if_neg (fun z => hc z.2)]
    subst hq
    refine w_X12_goesAlong_103 (d := d + 607) hs ⟨fun _ => ?_, fun g => absurd rfl g⟩
    have g : ga_fr [19, 21, 43, 46] J (hf_up J 156 21 0) := ga_up ga_rf (by decide)
    refine ga_if (act := act) (p := p) (lv := lv) (r2 := r2) hs hl (ga_tk (g.1 158 (by omega)) (g.2 20 (by decide)) (g.2 22 (by decide)) htk) (hfa _ (g.1 158 (by omega)) (g.2 24 (by decide))) hp h19 rfl e2 g2 fun D' fD k19 kt => ?_
    refine h D' ⟨fun a ha => (fD.1 a ha).trans (g.1 a ha), fun j hj => ?_⟩ k19 ?_ kt
    · rw [fD.2 j (fun q => hj (by simp only [List.mem_cons, List.not_mem_nil, or_false] at q ⊢; omega))]
      exact g.2 j hj
    · rw [fD.2 43 (by decide)]
      exact h43
/-- which TOKEN a CLAUSE begins with -/
theorem gr_kd_t {cc : Nat} (h : ¬ gr_kd true cc = 0) : (cc = 25 ∧ gr_kd true cc - 1 = 0) ∨ (cc = 26 ∧ gr_kd true cc - 1 = 1) ∨ (cc = 27 ∧ gr_kd true cc - 1 = 2) ∨ (cc = 18 ∧ gr_kd true cc - 1 = 3) := by
  unfold gr_kd at h ⊢
  by_cases q1 : cc = 25
  · subst q1; simp
  · by_cases q2 : cc = 26
    · subst q2; simp
    · by_cases q3 : cc = 27
      · subst q3; simp
      · by_cases q4 : cc = 18
        · subst q4; simp
        · exact absurd (by simp [q1, q2, q3, q4]) h
theorem ms_goesAlong {D : hf_I} {k lv : Nat} {q : gr_c1} {act : Bool} {live : Int32} (hs : hf_Lay t T P) (hl : live = if act = true then 1 else 0) (hm4 : m ≤ 400) (hc0 : ∀ j, m ≤ j → c j = 0) (hK : ∀ k, k < m → (D 158 (329 + 2400 + k) = nI (c k) ∧ c k < 1000) ∧ D 158 (3129 + 2400 + k) = nI (v k) ∧ v k < 100000000) (hfa : ∀ L J, J 158 = D 158 → J 156 24 = D 156 24 → ev_fa X t T L P J true f) (hk : k ≤ m) (h42 : D 156 42 = nI (2400 + k)) (hcl : (gr_cl true c v k lv).1 = 2) (hq : (gr_cl true c v k lv).2.2.2 = q)
    (h : ∀ D' s0, ga_fr [19, 20, 21, 22, 43, 44, 45, 46] D D' → D' 156 19 = nI (2400 + ((gr_cl true c v k lv).2.1 + 1)) → D' 156 44 = nI (c k) → D' 156 43 = nI q.2.2.1 → (act = true → (∀ y, q.2.2.2.2 f = some y → D' 156 46 = if y = 0 then 0 else 1) ∧ (q.2.2.2.2 f = none → D' 156 46 = 0) ∧ (∀ x, q.2.1.2 f = some x → D' 156 45 = 1 ∧ (gr_wsm true q.1 = true → s0 = x.toInt64)) ∧ (q.2.1.2 f = none → D' 156 45 = 0)) → Q none (t, T, D', hf_upL L 156 47 s0, P)) :
    hf_G X Y_X12_goesAlong (d + 608) kk nn 0 (hf_en [.ref 156, .int (nI (2400 + m)), .int live] 3) [] (t, T, D, L, P) Q := by
  -- how the CLAUSE came about
  have h0 : ¬ gr_kd true (c k) = 0 := fun z => by rw [gr_cl_a z] at hcl; exact absurd hcl (by show ¬ (1 = 2); omega)
  have hkm := gr_lt' hc0 (gr_kd_ne h0)
  generalize e1 : gr_sm true c v (gr_kd true (c k) - 1) (k + 1) lv = r1
  have h1 : r1.1 = 2 := by
    by_cases z : r1.1 = 2
    · exact z
    · rw [gr_cl_b h0 (by rw [e1]; exact z)] at hcl; exact absurd hcl (by show ¬ (1 = 2); omega)
  generalize e2 : gr_tm true c v r1.2.1 = qt
  have h2 : qt.1 = 2 := by
    by_cases z : qt.1 = 2
    · exact z
    · rw [gr_cl_c h0 e1 h1 (by rw [e2]; exact z)] at hcl; exact absurd hcl (by show ¬ (1 = 2); omega)
  generalize e3 : gr_if true c v qt.2.1 r1.2.2.1 = r2
  have h3 : r2.1 = 2 := by
    by_cases z : r2.1 = 2
    · exact z
    · rw [gr_cl_d h0 e1 h1 e2 h2 e3 z] at hcl; exact absurd hcl (by show ¬ (1 = 2); omega)
  have ecl := gr_cl_e h0 e1 h1 e2 h2 e3 h3
  rw [ecl] at hq h
  subst hq
  have top1 := (gr_sm_n (S := true) (v := v) (kd := gr_kd true (c k) - 1) (lv := lv) hc0 hm4 (show k + 1 ≤ m by omega)).2
  rw [e1] at top1
  have ac : ev_ac live 0 act := by
    rw [hl]
    cases act
    · exact ⟨Or.inl rfl, (fun q => by cases q), fun _ => Or.inl rfl⟩
    · exact ⟨Or.inl rfl, fun _ => ⟨by decide, rfl⟩, (fun q => by cases q)⟩
  refine w_X12_goesAlong_0 (d := d + 607) hs ?_
  generalize hJ : hf_up (hf_up (hf_up D 156 22 1) 156 20 (nI (2400 + m))) 156 19 (D 156 42) = J
  have gJ : ga_fr [19, 20, 21, 22, 43, 44, 45, 46] D J := by rw [← hJ]; exact ga_up (ga_up (ga_up ga_rf (by decide)) (by decide)) (by decide)
  have j19 : J 156 19 = D 156 42 := by rw [← hJ]; rfl
  have j20 : J 156 20 = nI (2400 + m) := by rw [← hJ]; rfl
  have j22 : J 156 22 = 1 := by rw [← hJ]; rfl
  have tkJ : ev_tk J true 2400 c v m := by
    refine ⟨hm4, Nat.le_refl _, hc0, j20, j22, ?_⟩
    rw [gJ.1 158 (by omega)]
    exact hK
  rw [← j19]
  refine ev_code hs tkJ hk (b := J 156 21) ⟨⟨fun _ _ => rfl, fun _ _ _ => rfl⟩, j19.trans h42, rfl⟩ ?_
  -- the sum
  generalize hJ1 : hf_up (hf_up (hf_up J 156 44 (nI (c k))) 156 19 (J 156 19 + 1)) 156 21 0 = J1
  have g1 : ga_fr [19, 20, 21, 22, 43, 44, 45, 46] D J1 := by rw [← hJ1]; exact ga_up (ga_up (ga_up gJ (by decide)) (by decide)) (by decide)
  have j1a : J1 156 19 = nI (2400 + (k + 1)) := by
    rw [← hJ1]
    show J 156 19 + 1 = _
    rw [j19, h42, nI_1]
    rfl
  have j1b : J1 156 21 = 0 := by rw [← hJ1]; rfl
  have j1c : J1 156 44 = nI (c k) := by rw [← hJ1]; rfl
  have tk1 : ev_tk J1 true 2400 c v m := ga_tk (by rw [g1.1 158 (by omega), gJ.1 158 (by omega)]) (by rw [← hJ1]; rfl) (by rw [← hJ1]; rfl) tkJ
  -- behind the sum
  have tl : ∀ (J2 : hf_I) (w : Int64) (b45 : Int32), ga_fr [19, 20, 21, 22, 43, 44, 45, 46] D J2 → J2 156 19 = nI (2400 + r1.2.1) → J2 156 20 = J1 156 20 → J2 156 22 = J1 156 22 → J2 156 44 = nI (c k) → J2 156 45 = b45 → J2 156 43 = 1 → (act = true → (∀ x, r1.2.2.2.2 f = some x → b45 = 1 ∧ (gr_wsm true (gr_kd true (c k) - 1) = true → w = x.toInt64)) ∧ (r1.2.2.2.2 f = none → b45 = 0)) → hf_G X Y_X12_passes0 (d + 607) 0 0 0 (hf_en [.ref 156, .int 28] 3) [] (t, T, J2, hf_upL L 156 47 w, P) (fun r M => hf_G X Y_X12_goesAlong (d + 607 + 1) kk nn 103 [some (.ref 156), none, some (.int live)] (r.toList ++ []) M Q) := by
    intro J2 w b45 gg a1 a2 a3 a4 a5 a6 a7
    refine ga_tail (act := act) (p := r1.2.1) (lv := r1.2.2.1) hs hl (ga_tk (by rw [gg.1 158 (by omega), g1.1 158 (by omega)]) a2 a3 tk1) (fun J' b1 b2 => hfa _ J' (b1.trans (gg.1 158 (by omega))) (b2.trans (gg.2 24 (by decide)))) top1 a1 a6 e2 h2 e3 h3 fun D' fD k19 k43 kt => ?_
    refine h D' w ⟨fun a ha => (fD.1 a ha).trans (gg.1 a ha), fun j hj => ?_⟩ k19 ?_ k43 fun ha => ⟨(kt ha).1, (kt ha).2, ?_, ?_⟩
    · rw [fD.2 j (fun q => hj (by simp only [List.mem_cons, List.not_mem_nil, or_false] at q ⊢; omega))]
      exact gg.2 j hj
    · rw [fD.2 44 (by decide)]
      exact a4
    · rw [fD.2 45 (by decide), a5]
      exact (a7 ha).1
    · rw [fD.2 45 (by decide), a5]
      exact (a7 ha).2
  have sm : gr_wsm true (gr_kd true (c k) - 1) = true → hf_G X Y_X12_sumOf (d + 607) 0 0 0 (hf_en [.ref 156, .int live] 7) [] (t, T, J1, L, P) (fun r M => hf_G X Y_X12_goesAlong (d + 607 + 1) kk nn 69 [some (.ref 156), none, some (.int live)] (r.toList ++ [.ref 156]) M Q) := by
    intro hw
    have e1' : gr_ps true c v 600 3 0 0 (k + 1) lv (fun _ => none) = r1 := by rw [← e1]; unfold gr_sm; rw [if_pos hw]
    obtain ⟨i0, i1, i2, i3, i4, i5, i6, i7, i8, i9, i10⟩ := ce_any (X := X) (L := L) hs tk1 (hfa L J1 (g1.1 158 (by omega)) (g1.2 24 (by decide))) 600
    refine i3 0 (k + 1) lv (fun _ => none) J1 _ (d + 607) 0 0 live 0 act (by omega) (by omega) ac ⟨⟨fun _ _ => rfl, fun _ _ _ => rfl⟩, j1a, j1b⟩ (by rw [e1']; exact h1) ?_
    rw [e1']
    intro J2 w f2 k19 ka kn
    have g2 := ga_ev g1 (by decide) (by decide) f2
    refine w_X12_goesAlong_69 (d := d + 607) hs ⟨fun z => ?_, fun z => ?_⟩
    · refine tl _ w 0 (ga_up (ga_up g2 (by decide)) (by decide)) k19 (f2.2 20 (by omega) (by omega)) (f2.2 22 (by omega) (by omega)) ((f2.2 44 (by omega) (by omega)).trans j1c) rfl rfl fun ha => ⟨fun x hx => ?_, fun _ => rfl⟩
      exact absurd ((ka ha).1 x hx).2 z
    · refine tl _ w 1 (ga_up (ga_up g2 (by decide)) (by decide)) k19 (f2.2 20 (by omega) (by omega)) (f2.2 22 (by omega) (by omega)) ((f2.2 44 (by omega) (by omega)).trans j1c) rfl rfl fun ha => ⟨fun x hx => ⟨rfl, fun _ => ((ka ha).1 x hx).1⟩, fun hn => ?_⟩
      exact absurd (z.symm.trans ((ka ha).2 hn)) (by decide)
  have ns : gr_wsm true (gr_kd true (c k) - 1) = false → hf_G X Y_X12_passes0 (d + 607) 0 0 0 (hf_en [.ref 156, .int 28] 3) [] (t, T, hf_up (hf_up J1 156 45 1) 156 43 1, hf_upL L 156 47 0, P) (fun r M => hf_G X Y_X12_goesAlong (d + 607 + 1) kk nn 103 [some (.ref 156), none, some (.int live)] (r.toList ++ []) M Q) := by
    intro hw
    have e1' : gr_gd (k + 1) lv [] (fun _ => some 1) = r1 := by rw [← e1]; unfold gr_sm; rw [if_neg (by rw [hw]; decide)]
    refine tl _ 0 1 (ga_up (ga_up g1 (by decide)) (by decide)) ?_ rfl rfl j1c rfl rfl fun _ => ⟨fun x hx => ⟨rfl, fun z => ?_⟩, fun hn => ?_⟩
    · show J1 156 19 = _
      rw [j1a, ← e1']
      rfl
    · rw [hw] at z; cases z
    · rw [← e1'] at hn; cases hn
  have cks : c k < 1000 := (hK k (by omega)).1.2
  have n25 : (nI (c k) = 25) ↔ c k = 25 := nI_eq (b := 25) (by omega) (by omega)
  have n18 : (nI (c k) = 18) ↔ c k = 18 := nI_eq (b := 18) (by omega) (by omega)
  refine w_X12_goesAlong_27 (d := d + 607) hs ?_
  rw [n25, n18, hJ1]
  rcases gr_kd_t h0 with ⟨a, b⟩ | ⟨a, b⟩ | ⟨a, b⟩ | ⟨a, b⟩
  · exact ⟨fun _ => sm (by rw [b]; rfl), fun z => absurd a z⟩
  · exact ⟨fun z => absurd z (by omega), fun _ => ⟨fun _ => ns (by rw [b]; rfl), fun z => absurd z (by omega)⟩⟩
  · exact ⟨fun z => absurd z (by omega), fun _ => ⟨fun _ => ns (by rw [b]; rfl), fun z => absurd z (by omega)⟩⟩
  · exact ⟨fun z => absurd z (by omega), fun _ => ⟨fun z => absurd a z, fun _ => sm (by rw [b]; rfl)⟩⟩
end ALONG
