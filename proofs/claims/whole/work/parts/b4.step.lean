/-! SETTINGS: one CLAUSE, once, by both -/
def nz2 (I D : hf_I) : Prop := (∀ a, 156 < a → a ≤ 180 → ¬ (165 ≤ a ∧ a ≤ 168) → D a = I a) ∧ ∀ j, j < 15 ∨ 22 < j → j < 42 ∨ 46 < j → D 156 j = I 156 j
def hf_rs (I J : hf_I) : hf_I := fun a => match Nat.beq a 156 with
  | true => fun j => match Nat.ble 42 j && Nat.ble j 46 with
    | true => I 156 j
    | false => J 156 j
  | false => J a
theorem rs_ne {I J : hf_I} {a : Nat} (h : ¬ a = 156) : hf_rs I J a = J a := by
  unfold hf_rs
  cases e : Nat.beq a 156 with
  | true => exact absurd (Nat.eq_of_beq_eq_true e) h
  | false => rfl
theorem rs_in {I J : hf_I} {j : Nat} (h : 42 ≤ j ∧ j ≤ 46) : hf_rs I J 156 j = I 156 j := by
  show (match Nat.ble 42 j && Nat.ble j 46 with | true => I 156 j | false => J 156 j) = _
  cases e : Nat.ble 42 j && Nat.ble j 46 with
  | true => rfl
  | false =>
    have : (Nat.ble 42 j && Nat.ble j 46) = true := by rw [Bool.and_eq_true, Nat.ble_eq, Nat.ble_eq]; exact h
    rw [this] at e
    cases e
theorem rs_out {I J : hf_I} {j : Nat} (h : j < 42 ∨ 46 < j) : hf_rs I J 156 j = J 156 j := by
  show (match Nat.ble 42 j && Nat.ble j 46 with | true => I 156 j | false => J 156 j) = _
  cases e : Nat.ble 42 j && Nat.ble j 46 with
  | true =>
    rw [Bool.and_eq_true, Nat.ble_eq, Nat.ble_eq] at e
    omega
  | false => rfl
/-- the cells, once the CLAUSE has been gone along -/
def st_i (I : hf_I) (k tm cc : Nat) : hf_I := hf_up (hf_up (hf_up (hf_up (hf_up I 156 42 (nI (2400 + k))) 156 43 (nI tm)) 156 44 (nI cc)) 156 45 1) 156 46 1
theorem st_i_ne {I : hf_I} {k tm cc a : Nat} (h : ¬ a = 156) : st_i I k tm cc a = I a := by
  unfold st_i
  rw [hf_up_no h, hf_up_no h, hf_up_no h, hf_up_no h, hf_up_no h]
theorem st_i_out {I : hf_I} {k tm cc j : Nat} (h : j < 42 ∨ 46 < j) : st_i I k tm cc 156 j = I 156 j := by
  show upd (upd (upd (upd (upd (I 156) 42 _) 43 _) 44 _) 45 _) 46 _ j = _
  rw [hf_upd_ne (by omega), hf_upd_ne (by omega), hf_upd_ne (by omega), hf_upd_ne (by omega), hf_upd_ne (by omega)]
theorem st_fr {I J : hf_I} {k tm cc : Nat} (h : hf_fr (st_i I k tm cc) J) : hf_fr I (hf_rs I J) := by
  refine ⟨fun a a1 a2 a3 a4 a5 a6 a7 a8 a9 a10 a11 a12 a13 => ?_, fun j hj => ?_, fun j hj => ?_, fun j j1 j2 => ?_⟩
  · rw [rs_ne a10, h.1 a a1 a2 a3 a4 a5 a6 a7 a8 a9 a10 a11 a12 a13, st_i_ne a10]
  · rw [rs_ne (by omega), h.2.1 j hj, st_i_ne (by omega)]
  · by_cases q : 42 ≤ j ∧ j ≤ 46
    · exact rs_in q
    · rw [rs_out (by omega), h.2.2.1 j hj, st_i_out (by omega)]
  · rw [rs_ne (by omega), h.2.2.2 j j1 j2, st_i_ne (by omega)]
theorem nzc_rs {I J C : hf_I} (h : nzc J C) : nzc (hf_rs I J) C := fun a b1 b2 b3 b4 => by
  rw [rs_ne (by omega)]
  exact h a b1 b2 b3 b4
theorem nz2_rs {I J D : hf_I} (h : nz3 J D) : nz2 (hf_rs I J) D := by
  refine ⟨fun a a1 a2 a3 => ?_, fun j j1 j2 => ?_⟩
  · rw [rs_ne (by omega)]
    exact h.1 a a1 a2 a3
  · rw [rs_out j2]
    exact h.2 j j1
def st_in (t : Nat) (T : hf_T) (P : hf_P) (c v : Nat → Nat) (m : Nat) (cls lws : List gr_c1) (I : hf_I) : Prop := hf_SM I ∧ hf_ud I ∧ lw_c t T I P lws ∧ lw_m I lws ∧ tx_st 124 125 126 127 128 129 130 cls I ∧ ∀ k, k < m → (I 158 (329 + 2400 + k) = nI (c k) ∧ c k < 1000) ∧ I 158 (3129 + 2400 + k) = nI (v k) ∧ v k < 100000000
theorem st_in_fr {t : Nat} {T : hf_T} {P : hf_P} {c v : Nat → Nat} {m : Nat} {cls lws : List gr_c1} {I I' : hf_I} (h : st_in t T P c v m cls lws I) (hf : hf_fr I I') (hSM : hf_SM I') (hud : hf_ud I') : st_in t T P c v m cls lws I' := by
  obtain ⟨-, -, h1, h2, h3, h4⟩ := h
  have e : ∀ a, ¬ a = 101 → ¬ a = 114 → ¬ a = 115 → ¬ a = 116 → ¬ a = 132 → ¬ a = 133 → ¬ a = 134 → ¬ a = 148 → ¬ a = 149 → ¬ a = 156 → ¬ a = 158 → ¬ a = 168 → ¬ a = 169 → I' a = I a := hf.1
  refine ⟨hSM, hud, ?_, ?_, ?_, fun k hk => ?_⟩
  · unfold lw_c
    rw [hf.2.1 16 (by omega), hf.2.1 15 (by omega), show (fun a => I' (181 + a)) = fun a => I (181 + a) from funext fun a => hf.1 (181 + a) (by omega) (by omega) (by omega) (by omega) (by omega) (by omega) (by omega) (by omega) (by omega) (by omega) (by omega) (by omega) (by omega)]
    exact h1
  · unfold lw_m
    rw [hf.2.2.2 321 (by omega) (by omega), show (fun j => I' 158 (322 + j)) = fun j => I 158 (322 + j) from funext fun j => hf.2.2.2 (322 + j) (by omega) (by omega)]
    exact h2
  · unfold tx_st
    rw [e 124 (by omega) (by omega) (by omega) (by omega) (by omega) (by omega) (by omega) (by omega) (by omega) (by omega) (by omega) (by omega) (by omega), e 125 (by omega) (by omega) (by omega) (by omega) (by omega) (by omega) (by omega) (by omega) (by omega) (by omega) (by omega) (by omega) (by omega), e 126 (by omega) (by omega) (by omega) (by omega) (by omega) (by omega) (by omega) (by omega) (by omega) (by omega) (by omega) (by omega) (by omega), e 127 (by omega) (by omega) (by omega) (by omega) (by omega) (by omega) (by omega) (by omega) (by omega) (by omega) (by omega) (by omega) (by omega), e 128 (by omega) (by omega) (by omega) (by omega) (by omega) (by omega) (by omega) (by omega) (by omega) (by omega) (by omega) (by omega) (by omega), e 129 (by omega) (by omega) (by omega) (by omega) (by omega) (by omega) (by omega) (by omega) (by omega) (by omega) (by omega) (by omega) (by omega), e 130 (by omega) (by omega) (by omega) (by omega) (by omega) (by omega) (by omega) (by omega) (by omega) (by omega) (by omega) (by omega) (by omega)]
    exact h3
  · rw [hf.2.2.2 (329 + 2400 + k) (by omega) (by omega), hf.2.2.2 (3129 + 2400 + k) (by omega) (by omega)]
    exact h4 k hk
section STEP
variable {X : hf_X} {d t : Nat} {T : hf_T} {I I' J : hf_I} {P : hf_P}
theorem tw_c_im {Y : hf_Y} {ac : List Value} {D : Nat} {I1 : hf_I} {w : Int32} (h : tw_c X Y ac D t T P I1 w J) (h1 : ∀ C, nzc I C → nzc I1 C) (h2 : ∀ C, nzc J C → nzc I' C) : tw_c X Y ac D t T P I w I' := fun L C k n Q hC hQ => h L C k n Q (h1 C hC) fun C' hC' kp => hQ C' (h2 C' hC') kp
/-- which are to be run -/
theorem st_sub {c v : Nat → Nat} {m k lv : Nat} {q : gr_c1} {cls lws : List gr_c1} {x : Int32} (hs : hf_Lay t T P) (hI : st_in t T P c v m cls lws I) (h0 : ¬ gr_kd true (c k) = 0) (hq : q.1 = gr_kd true (c k) - 1) : ∃ w J, (q.1 = 0 → tw_c X Y_X11_placeWord [.ref 100, .int x] (d + 611) t T P (st_i I k q.2.2.1 (c k)) w J) ∧ (q.1 = 1 → tw_c X Y_X11_turnLine [.ref 100] (d + 611) t T P (st_i I k q.2.2.1 (c k)) w J) ∧ (q.1 = 2 → tw_c X Y_X11_emptyHead [.ref 100] (d + 611) t T P (st_i I k q.2.2.1 (c k)) w J) ∧ (q.1 = 3 → tw_c X Y_X11_changeSize [.ref 100, .int x] (d + 611) t T P (st_i I k q.2.2.1 (c k)) w J) ∧ (c k = 25 → tw_m X Y_X12_setsKept [.ref 156, .int (sml x)] (d + 611) t T P (st_i I k q.2.2.1 (c k)) w J) ∧ (c k = 26 → tw_m X Y_X12_turnsKept [.ref 156] (d + 611) t T P (st_i I k q.2.2.1 (c k)) w J) ∧ (c k = 27 → tw_m X Y_X12_clearsKept [.ref 156] (d + 611) t T P (st_i I k q.2.2.1 (c k)) w J) ∧ (c k = 18 → tw_m X Y_X12_sizes [.ref 156, .int (sml x)] (d + 611) t T P (st_i I k q.2.2.1 (c k)) w J) ∧ hf_SM J ∧ hf_ud J ∧ hf_fr (st_i I k q.2.2.1 (c k)) J ∧ (0 ≤ w ∨ w = -1 ∨ w = -2 ∨ w = -3 ∨ w = -5) ∧ J 156 24 = I 156 24 := by
  obtain ⟨a1, a2, a3, a4, -, -⟩ := hI
  have b1 : hf_SM (st_i I k q.2.2.1 (c k)) := a1
  have b2 : hf_ud (st_i I k q.2.2.1 (c k)) := a2
  have b3 : lw_c t T (st_i I k q.2.2.1 (c k)) P lws := by
    unfold lw_c
    rw [st_i_ne (by omega), show (fun a => st_i I k q.2.2.1 (c k) (181 + a)) = fun a => I (181 + a) from funext fun a => st_i_ne (by omega)]
    exact a3
  have b4 : lw_m (st_i I k q.2.2.1 (c k)) lws := lw_m_fr a4 (st_i_ne (by omega))
  rcases gr_kd_t h0 with ⟨g1, g2⟩ | ⟨g1, g2⟩ | ⟨g1, g2⟩ | ⟨g1, g2⟩
  · obtain ⟨w, J, ⟨tc, tm⟩, r1, r2, r3, r4, -, r5⟩ := tw_set2 (X := X) (d := d) (x := x) hs b1 b2 b3 b4
    exact ⟨w, J, fun _ => tc, fun z => absurd z (by omega), fun z => absurd z (by omega), fun z => absurd z (by omega), fun _ => tm, fun z => absurd z (by omega), fun z => absurd z (by omega), fun z => absurd z (by omega), r1, r2, r3, r4, r5⟩
  · obtain ⟨w, J, ⟨tc, tm⟩, r1, r2, r3, r4, -, r5⟩ := t3_turn (X := X) (d := d + 609) hs b1 b2
    exact ⟨w, J, fun z => absurd z (by omega), fun _ => tc, fun z => absurd z (by omega), fun z => absurd z (by omega), fun z => absurd z (by omega), fun _ => tm, fun z => absurd z (by omega), fun z => absurd z (by omega), r1, r2, r3, r4, r5⟩
  · obtain ⟨w, J, ⟨tc, tm⟩, r1, r2, r3, r4, -, r5⟩ := t3_clear (X := X) (d := d + 609) hs b1 b2
    exact ⟨w, J, fun z => absurd z (by omega), fun z => absurd z (by omega), fun _ => tc, fun z => absurd z (by omega), fun z => absurd z (by omega), fun z => absurd z (by omega), fun _ => tm, fun z => absurd z (by omega), r1, r2, r3, r4, r5⟩
  · obtain ⟨w, J, ⟨tc, tm⟩, r1, r2, r3, r4, -, r5⟩ := tw_size2 (X := X) (d := d + 609) (x := x) hs b1 b2
    exact ⟨w, J, fun z => absurd z (by omega), fun z => absurd z (by omega), fun z => absurd z (by omega), fun _ => tc, fun z => absurd z (by omega), fun z => absurd z (by omega), fun z => absurd z (by omega), fun _ => tm, r1, r2, r3, r4, r5⟩
/-- the model's half: from going along to the next time, or to the end -/
def st_m (X : hf_X) (d t : Nat) (T : hf_T) (P : hf_P) (m k : Nat) (I : hf_I) (u : Int32) (I' : hf_I) : Prop := ∀ (L : hf_L) (D : hf_I) (x2 x3 x4 : Int32) (kk nn : Nat) (Q : Option Value → hf_M → Prop), nz2 I D → D 156 42 = nI (2400 + k) → (∀ D' L', nz2 I' D' → D' 156 42 = nI (2400 + k) → kpc D D' → L' 136 = L 136 → (0 ≤ u → hf_G X Y_X12_runs (d + 613) kk nn 19 [some (.ref 156), some (.int (nI (2400 + m))), some (.int x2), some (.int x3), some (.int (x4 + 1)), none] [] (t, T, D', L', P) Q) ∧ (¬ 0 ≤ u → Q (some (.int u)) (t, T, D', L', P))) → hf_G X Y_X12_goesAlong (d + 612) 0 0 0 (hf_en [.ref 156, .int (nI (2400 + m)), .int 1] 3) [] (t, T, D, L, P) (fun r M => hf_G X Y_X12_runs (d + 613) kk nn 31 [some (.ref 156), some (.int (nI (2400 + m))), some (.int x2), some (.int x3), some (.int x4), none] (r.toList ++ []) M Q)
theorem st_once {c v : Nat → Nat} {m k lv i : Nat} {q : gr_c1} {cls lws : List gr_c1} (hs : hf_Lay t T P) (hI : st_in t T P c v m cls lws I) (hm4 : m ≤ 400) (hc0 : ∀ j, m ≤ j → c j = 0) (hz : 2 * (cl_cd cls).length ≤ 800) (hm : cls.length ≤ 12) (hq : cls[i]? = some q) (hg : cl_gd true q) (hk : k ≤ m) (hcl : (gr_cl true c v k lv).1 = 2) (hqq : (gr_cl true c v k lv).2.2.2 = q) :
    ∃ u I', st_in t T P c v m cls lws I' ∧ hf_fr I I' ∧ (((u = 0 ∨ u = 1) ∧ I' 156 24 = I 156 24 + u) ∨ (u = -1 ∨ u = -2 ∨ u = -3 ∨ u = -5)) ∧ tw_c X Y_X11_runOnce [.ref 100, .ref 124, .int (nI i), .int (I 156 24)] (d + 612) t T P I u I' ∧ st_m X d t T P m k I u I' := by
  obtain ⟨a1, a2, a3, a4, a5, a6⟩ := id hI
  obtain ⟨c', b1, b2, b3, b4, b5, b6, b7, -⟩ := sim_hd a1
  obtain ⟨w', w1, w2, w3, w4, w5⟩ := id a1.2.2.2.1
  have h0 : ¬ gr_kd true (c k) = 0 := fun z => by rw [gr_cl_a z] at hcl; exact absurd hcl (by show ¬ (1 = 2); omega)
  have hkm := gr_lt' hc0 (gr_kd_ne h0)
  have q1 : q.1 = gr_kd true (c k) - 1 := by
    by_cases z1 : (gr_sm true c v (gr_kd true (c k) - 1) (k + 1) lv).1 = 2
    · by_cases z2 : (gr_tm true c v (gr_sm true c v (gr_kd true (c k) - 1) (k + 1) lv).2.1).1 = 2
      · by_cases z3 : (gr_if true c v (gr_tm true c v (gr_sm true c v (gr_kd true (c k) - 1) (k + 1) lv).2.1).2.1 (gr_sm true c v (gr_kd true (c k) - 1) (k + 1) lv).2.2.1).1 = 2
        · rw [← hqq, gr_cl_e h0 rfl z1 rfl z2 rfl z3]
        · rw [gr_cl_d h0 rfl z1 rfl z2 rfl z3] at hcl; exact absurd hcl (by show ¬ (1 = 2); omega)
      · rw [gr_cl_c h0 rfl z1 z2] at hcl; exact absurd hcl (by show ¬ (1 = 2); omega)
    · rw [gr_cl_b h0 z1] at hcl; exact absurd hcl (by show ¬ (1 = 2); omega)
  -- the model goes along
  have along : ∀ (L : hf_L) (D : hf_I) (kk nn : Nat) (Q : Option Value → hf_M → Prop), nz2 I D → D 156 42 = nI (2400 + k) → (∀ D' s0, ga_fr [19, 20, 21, 22, 43, 44, 45, 46] D D' → D' 156 44 = nI (c k) → D' 156 43 = nI q.2.2.1 → ((∀ y, q.2.2.2.2 (sf I c' w' (I 156 24)) = some y → D' 156 46 = if y = 0 then 0 else 1) ∧ (q.2.2.2.2 (sf I c' w' (I 156 24)) = none → D' 156 46 = 0) ∧ (∀ x, q.2.1.2 (sf I c' w' (I 156 24)) = some x → D' 156 45 = 1 ∧ (gr_wsm true q.1 = true → s0 = x.toInt64)) ∧ (q.2.1.2 (sf I c' w' (I 156 24)) = none → D' 156 45 = 0)) → Q none (t, T, D', hf_upL L 156 47 s0, P)) → hf_G X Y_X12_goesAlong (d + 612) kk nn 0 (hf_en [.ref 156, .int (nI (2400 + m)), .int 1] 3) [] (t, T, D, L, P) Q := by
    intro L D kk nn Q hD h42 hQ
    have d158 : D 158 = I 158 := hD.1 158 (by omega) (by omega) (by omega)
    have d24 : D 156 24 = I 156 24 := hD.2 24 (by omega) (by omega)
    refine ms_goesAlong (d := d + 4) (act := true) hs rfl hm4 hc0 (by rw [d158]; exact a6) (fun L' J e1 e2 => ev_fa_set hs a1 (e1.trans d158) (e2.trans d24) b2 b1 w2 w1) hk h42 hcl hqq fun D' s0 e1 e2 e3 e4 e5 => hQ D' s0 e1 e3 e4 (e5 rfl)
  have ga2 : ∀ {D D' : hf_I}, nz2 I D → ga_fr [19, 20, 21, 22, 43, 44, 45, 46] D D' → nz2 I D' := by
    intro D D' hD hg
    refine ⟨fun a z1 z2 z3 => (hg.1 a (by omega)).trans (hD.1 a z1 z2 z3), fun j z1 z2 => (hg.2 j ?_).trans (hD.2 j z1 z2)⟩
    simp only [List.mem_cons, List.not_mem_nil, or_false]
    omega
  have gak : ∀ {D D' : hf_I}, ga_fr [19, 20, 21, 22, 43, 44, 45, 46] D D' → kpc D D' := fun hg a ha => hg.1 a (by omega)
  have upL : ∀ (L : hf_L) (s0 : Int64), hf_upL L 156 47 s0 136 = L 136 := fun L s0 => rfl
  cases ht : q.2.2.2.2 (sf I c' w' (I 156 24)) with
  | none =>
    refine ⟨0, I, hI, hf_fr_rf, Or.inl ⟨Or.inl rfl, (Int32.add_zero _).symm⟩, cs_runOnce hs a1 b2 b1 w2 w1 a5 hz hm hq hg (fun _ => ⟨rfl, rfl⟩) (fun y hy => by rw [ht] at hy; cases hy) (fun y x hy => by rw [ht] at hy; cases hy), ?_⟩
    intro L D x2 x3 x4 kk nn Q hD h42 hQ
    refine along L D 0 0 _ hD h42 fun D' s0 g1 g2 g3 g4 => w_X12_runs_31 (d := d + 612) hs ⟨fun z => absurd (g4.2.1 ht) z, fun _ => ?_⟩
    exact (hQ D' _ (ga2 hD g1) ((g1.2 42 (by decide)).trans h42) (gak g1) (upL L s0)).1 (by decide)
  | some y =>
    by_cases hy0 : y = 0
    · subst hy0
      refine ⟨0, I, hI, hf_fr_rf, Or.inl ⟨Or.inl rfl, (Int32.add_zero _).symm⟩, cs_runOnce hs a1 b2 b1 w2 w1 a5 hz hm hq hg (fun _ => ⟨rfl, rfl⟩) (fun y hy hy' => by rw [ht] at hy; exact absurd (Option.some.inj hy).symm hy') (fun y x hy hy' => by rw [ht] at hy; exact absurd (Option.some.inj hy).symm hy'), ?_⟩
      intro L D x2 x3 x4 kk nn Q hD h42 hQ
      refine along L D 0 0 _ hD h42 fun D' s0 g1 g2 g3 g4 => w_X12_runs_31 (d := d + 612) hs ⟨fun z => absurd (g4.1 0 ht) z, fun _ => ?_⟩
      exact (hQ D' _ (ga2 hD g1) ((g1.2 42 (by decide)).trans h42) (gak g1) (upL L s0)).1 (by decide)
    · cases hsum : q.2.1.2 (sf I c' w' (I 156 24)) with
      | none =>
        refine ⟨-3, I, hI, hf_fr_rf, Or.inr (by decide), cs_runOnce hs a1 b2 b1 w2 w1 a5 hz hm hq hg (fun z => ?_) (fun _ _ _ _ => ⟨rfl, rfl⟩) (fun y x _ _ hx => by rw [hsum] at hx; cases hx), ?_⟩
        · rw [ht] at z
          rcases z with z | z
          · cases z
          · exact absurd (Option.some.inj z) hy0
        · intro L D x2 x3 x4 kk nn Q hD h42 hQ
          refine along L D 0 0 _ hD h42 fun D' s0 g1 g2 g3 g4 => w_X12_runs_31 (d := d + 612) hs ⟨fun _ => ⟨fun z => absurd (g4.2.2.2 hsum) z, fun _ => ?_⟩, fun z => ?_⟩
          · exact (hQ D' _ (ga2 hD g1) ((g1.2 42 (by decide)).trans h42) (gak g1) (upL L s0)).2 (by decide)
          · have := g4.1 y ht
            rw [if_neg hy0, z] at this
            exact absurd this (by decide)
      | some x =>
        obtain ⟨w, J, p0, p1, p2, p3, m0, m1, m2, m3, r1, r2, r3, r4, e24⟩ := st_sub (X := X) (d := d) (x := x) (lv := lv) hs hI h0 q1
        have cI : ∀ C, nzc I C → nzc (st_i I k q.2.2.1 (c k)) C := fun C hC a z1 z2 z3 z4 => by
          rw [st_i_ne (by omega)]
          exact hC a z1 z2 z3 z4
        have e42 : J 156 42 = nI (2400 + k) := by rw [r3.2.2.1 42 (by omega)]; rfl
        -- the model, as far as what it does
        have mdl : ∀ (L : hf_L) (D : hf_I) (x2 x3 x4 : Int32) (kk nn : Nat) (Q : Option Value → hf_M → Prop), nz2 I D → D 156 42 = nI (2400 + k) → (∀ D' s0, nz3 J D' → kpc D D' → (0 ≤ w → hf_G X Y_X12_runs (d + 613) kk nn 19 [some (.ref 156), some (.int (nI (2400 + m))), some (.int x2), some (.int x3), some (.int (x4 + 1)), none] [] (t, T, hf_up D' 156 24 (D' 156 24 + 1), hf_upL L 156 47 s0, P) Q) ∧ (¬ 0 ≤ w → Q (some (.int w)) (t, T, D', hf_upL L 156 47 s0, P))) → hf_G X Y_X12_goesAlong (d + 612) 0 0 0 (hf_en [.ref 156, .int (nI (2400 + m)), .int 1] 3) [] (t, T, D, L, P) (fun r M => hf_G X Y_X12_runs (d + 613) kk nn 31 [some (.ref 156), some (.int (nI (2400 + m))), some (.int x2), some (.int x3), some (.int x4), none] (r.toList ++ []) M Q) := by
          intro L D x2 x3 x4 kk nn Q hD h42 hQ
          refine along L D 0 0 _ hD h42 fun D' s0 g1 g2 g3 g4 => ?_
          have g46 : D' 156 46 = 1 := by rw [g4.1 y ht, if_neg hy0]
          have g45 := g4.2.2.1 x hsum
          refine w_X12_runs_31 (d := d + 612) hs ⟨fun _ => ⟨fun _ => ?_, fun z => absurd (g45.1.symm.trans z) (by decide)⟩, fun z => absurd (g46.symm.trans z) (by decide)⟩
          have hD' : nz3 (st_i I k q.2.2.1 (c k)) D' := by
            have g0 := ga2 hD g1
            refine ⟨fun a z1 z2 z3 => by rw [st_i_ne (by omega)]; exact g0.1 a z1 z2 z3, fun j hj => ?_⟩
            by_cases z : j < 42 ∨ 46 < j
            · rw [st_i_out z]
              exact g0.2 j hj z
            · have : j = 42 ∨ j = 43 ∨ j = 44 ∨ j = 45 ∨ j = 46 := by omega
              rcases this with rfl | rfl | rfl | rfl | rfl
              · rw [g1.2 42 (by decide), h42]; rfl
              · exact g3
              · exact g2
              · exact g45.1
              · exact g46
          refine ms_obeys (d := d) (x := x) (cc := c k) (I := st_i I k q.2.2.1 (c k)) (I' := J) (u := w) hs ?_ g2 (fun z => ?_) m0 m1 m2 m3 hD' fun D2 n2 k2 => ?_
          · rcases gr_kd_t h0 with z | z | z | z
            · exact Or.inl z.1
            · exact Or.inr (Or.inl z.1)
            · exact Or.inr (Or.inr (Or.inl z.1))
            · exact Or.inr (Or.inr (Or.inr z.1))
          · have hw : gr_wsm true q.1 = true := by
              rw [q1]
              rcases z with z | z <;> rw [z] <;> rfl
            show s0 = _
            exact g45.2 hw
          · exact w_X12_runs_55 hs (hQ D2 s0 n2 (kpc_tr (gak g1) k2))
        by_cases hw0 : 0 ≤ w
        · refine ⟨1, hf_up (hf_rs I J) 156 24 (J 156 24 + 1), ?_, ?_, Or.inl ⟨Or.inr rfl, ?_⟩, cs_runOnce hs a1 b2 b1 w2 w1 a5 hz hm hq hg (fun z => ?_) (fun _ _ _ hx => by rw [hsum] at hx; cases hx) (fun y2 x2 hy2 _ hx2 => ?_), ?_⟩
          · exact st_in_fr hI (hf_fr_up (st_fr r3) (by omega)) r1 r2
          · exact hf_fr_up (st_fr r3) (by omega)
          · show J 156 24 + 1 = _
            rw [e24]
          · rw [ht] at z
            rcases z with z | z
            · cases z
            · exact absurd (Option.some.inj z) hy0
          · obtain rfl : x2 = x := by rw [hsum] at hx2; exact (Option.some.inj hx2).symm
            have cJ : ∀ C, nzc J C → nzc (hf_up (hf_rs I J) 156 24 (J 156 24 + 1)) C := fun C hC a z1 z2 z3 z4 => by
              rw [hf_up_no (by omega)]
              exact nzc_rs hC a z1 z2 z3 z4
            exact ⟨w, by rw [if_pos hw0], fun z => tw_c_im (p0 z) cI cJ, fun z => tw_c_im (p1 z) cI cJ, fun z => tw_c_im (p2 z) cI cJ, fun z => tw_c_im (p3 z) cI cJ⟩
          · intro L D x2 x3 x4 kk nn Q hD h42 hQ
            refine mdl L D x2 x3 x4 kk nn Q hD h42 fun D' s0 n2 k2 => ⟨fun _ => ?_, fun z => absurd hw0 z⟩
            refine (hQ _ _ ?_ ?_ (kpc_up k2 (by omega) (by omega)) (upL L s0)).1 (by decide)
            · have g := nz2_rs (I := I) n2
              rw [n2.2 24 (by omega)]
              refine ⟨fun a z1 z2 z3 => ?_, fun j z1 z2 => ?_⟩
              · rw [hf_up_no (by omega), hf_up_no (by omega)]
                exact g.1 a z1 z2 z3
              · show upd (D' 156) 24 _ j = upd (hf_rs I J 156) 24 _ j
                by_cases z : j = 24
                · subst z; rw [hf_upd_eq, hf_upd_eq]
                · rw [hf_upd_ne z, hf_upd_ne z]
                  exact g.2 j z1 z2
            · show D' 156 42 = _
              rw [n2.2 42 (by omega)]
              exact e42
        · refine ⟨w, hf_rs I J, st_in_fr hI (st_fr r3) r1 r2, st_fr r3, Or.inr ?_, cs_runOnce hs a1 b2 b1 w2 w1 a5 hz hm hq hg (fun z => ?_) (fun _ _ _ hx => by rw [hsum] at hx; cases hx) (fun y2 x2 hy2 _ hx2 => ?_), ?_⟩
          · rcases r4 with z | z
            · exact absurd z hw0
            · exact z
          · rw [ht] at z
            rcases z with z | z
            · cases z
            · exact absurd (Option.some.inj z) hy0
          · obtain rfl : x2 = x := by rw [hsum] at hx2; exact (Option.some.inj hx2).symm
            exact ⟨w, by rw [if_neg hw0], fun z => tw_c_im (p0 z) cI (fun _ => nzc_rs), fun z => tw_c_im (p1 z) cI (fun _ => nzc_rs), fun z => tw_c_im (p2 z) cI (fun _ => nzc_rs), fun z => tw_c_im (p3 z) cI (fun _ => nzc_rs)⟩
          · intro L D x2 x3 x4 kk nn Q hD h42 hQ
            refine mdl L D x2 x3 x4 kk nn Q hD h42 fun D' s0 n2 k2 => ⟨fun z => absurd z hw0, fun _ => ?_⟩
            refine (hQ _ _ (nz2_rs n2) ?_ k2 (upL L s0)).2 hw0
            rw [n2.2 42 (by omega)]
            exact e42
end STEP
