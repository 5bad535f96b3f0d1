theorem pr_b_mem {ok : Nat → Bool} {wn : Nat → Nat} : ∀ n, (pr_b ok wn n = none → pr_c ok n = []) ∧ ∀ b, pr_b ok wn n = some b → b ∈ pr_c ok n ∧ ∀ i, i ∈ pr_c ok n → wn b ≤ wn i := by
  intro n
  induction n with
  | zero => exact ⟨fun _ => rfl, fun b h => by cases h⟩
  | succ n ih =>
    obtain ⟨a1, a2⟩ := ih
    rw [pr_b, pr_c]
    by_cases e : ok n = true
    · rw [if_pos e, if_pos e]
      cases hb : pr_b ok wn n with
      | none =>
        dsimp only
        rw [a1 hb]
        refine ⟨fun h => (by cases h), fun b h => ?_⟩
        cases h
        exact ⟨by simp, fun i hi => by simp at hi; rw [hi]; exact Nat.le_refl _⟩
      | some q =>
        obtain ⟨b1, b2⟩ := a2 q hb
        dsimp only
        by_cases c : wn q ≤ wn n
        · rw [if_pos c]
          refine ⟨fun h => (by cases h), fun b h => ?_⟩
          cases h
          refine ⟨List.mem_append_left _ b1, fun i hi => ?_⟩
          rcases List.mem_append.mp hi with z | z
          · exact b2 i z
          · rw [List.mem_singleton.mp z]; exact c
        · rw [if_neg c]
          refine ⟨fun h => (by cases h), fun b h => ?_⟩
          cases h
          refine ⟨by simp, fun i hi => ?_⟩
          rcases List.mem_append.mp hi with z | z
          · have := b2 i z; omega
          · rw [List.mem_singleton.mp z]; exact Nat.le_refl _
    · rw [if_neg e, if_neg e]
      exact ⟨a1, a2⟩
theorem pr_gm {l : List Nat} {k : Nat} (h : k < l.length) : l.getD k 0 ∈ l := by
  simp [List.getD, h]
theorem pr_gx {l : List Nat} {b : Nat} (h : b ∈ l) : ∃ k, k < l.length ∧ l.getD k 0 = b := by
  obtain ⟨k, hk, e⟩ := List.getElem_of_mem h
  exact ⟨k, hk, by simp [List.getD, hk, e]⟩
section NL
variable {CC : Int32 → Int32 → Int32 → Int32 → Int32 → Int32 → (Nat → Int32) → (Nat → Int32) → Int32 → (Nat → Int32) → (Nat → Int32) → (Nat → Int32) → (Nat → Int32) → (Nat → Int32) → (Nat → Int32) → (Nat → Int32) → (Nat → Nat → Int32) → hf_P → Int64 → Int64 → Int32 → Int32 → Prop}
variable {X : hf_X} {N t : Nat} {T : hf_T} {I : hf_I} {L : hf_L} {P : hf_P}
def hf_om (x : Option Nat) : Int32 := match x with
  | none => 1000000
  | some m => nI m
set_option maxHeartbeats 2000000 in
theorem nl_val {sz : Int32} (h : hf_Sim hf_SL CC N t T I L P) (hsz : 0 ≤ sz ∧ sz ≤ 2) : ∃ v : Option Nat, (∀ m, v = some m → m ≤ 2400) ∧ (∀ (d kk nn : Nat) (Q : Option Value → hf_M → Prop) (C : hf_I), hf_n2 I C → (∀ C', hf_n2 I C' → Q (some (.int (hf_on v))) (t, T, C', L, P)) → hf_G X Y_X8_narrowestColumn (d + 5) kk nn 0 (hf_en [.ref 136, .int sz] 4) [] (t, T, C, L, P) Q) ∧ (∀ (d kk nn : Nat) (Q : Option Value → hf_M → Prop) (C : hf_I), hf_n2 I C → (∀ C', hf_n2 I C' → Q (some (.int (hf_om v))) (t, T, C', L, P)) → hf_G X Y_X12_leastBroad (d + 611) kk nn 0 (hf_en [.ref 156, .int sz] 4) [] (t, T, C, L, P) Q) := by
  have hs := h.1
  obtain ⟨cls, hc, hm⟩ := sim_law h
  obtain ⟨m1, m2, ⟨t1, t2, t3, t4, t5⟩, ⟨w, w1, w2, w3, w4, w5⟩, ⟨p, p1, p2, p3, p4⟩, m6, m7, m8, m9, m10⟩ := h.2.1
  obtain ⟨LN, L1, L2, L3⟩ := bd_rng (a := 1) (b := 4) (by decide) (by decide) t4.2.1 t4.2.2
  have L4 : I 158 314 = nI LN := t4.1.symm.trans L3
  have wd : ∀ i, ∃ q : Nat, (i < w → hf_wd (I 102) sz (I 109 i) (fun q => I 110 (9 * i + q)) = nI q ∧ hf_wd (fun j => I 158 (26 + j)) sz (I 158 (53 + 13 * i + 3)) (fun q => I 158 (53 + 13 * i + 4 + q)) = nI q) ∧ q ≤ 360 := by
    intro i
    by_cases hi : i < w
    · obtain ⟨o1, o2, e0, e1, e2, e3, e4, e5⟩ := S_w1_ok (w4 i hi)
      obtain ⟨q, q1, q2⟩ := bd_wd (br := I 102) (sz := sz) (fun j hj => (m1 j hj).2) hsz o1
      refine ⟨q, fun _ => ⟨q2, ?_⟩, q1⟩
      have ef : (fun q => I 158 (53 + 13 * i + 4 + q)) = fun q => I 158 (53 + 13 * i + (4 + q)) := funext fun q => by rw [Nat.add_assoc]
      rw [ef, ← q2]
      exact (e5 (I 102) (fun j => I 158 (26 + j)) sz (fun j hj => (m1 j hj).1)).symm
    · exact ⟨0, fun z => absurd z hi, by omega⟩
  obtain ⟨wn, hwn⟩ : ∃ wn : Nat → Nat, ∀ i, (i < w → hf_wd (I 102) sz (I 109 i) (fun q => I 110 (9 * i + q)) = nI (wn i) ∧ hf_wd (fun j => I 158 (26 + j)) sz (I 158 (53 + 13 * i + 3)) (fun q => I 158 (53 + 13 * i + 4 + q)) = nI (wn i)) ∧ wn i ≤ 360 := ⟨fun j => Classical.choose (wd j), fun j => Classical.choose_spec (wd j)⟩
  obtain ⟨bl, bl1, bl2, bl3⟩ := bd_lw (br := I 102) (sz := sz) (m1 26 (by omega)).2 hsz
  have bl4 : I 158 52 * (sz + 2) / 2 = nI bl := by rw [← bl3, (m1 26 (by omega)).1]
  have ejf : ∀ i, i < w → jf_w (nI i) (I 106 i) (I 107 i) (I 108 i) (I 109 i) sz (I 104 0) (I 104 1) = jf_w (nI i) (I 158 (53 + 13 * i)) (I 158 (53 + 13 * i + 1)) (I 158 (53 + 13 * i + 2)) (I 158 (53 + 13 * i + 3)) sz (I 158 311) (I 158 312) := by
    intro i hi
    obtain ⟨o1, o2, e0, e1, e2, e3, e4, e5⟩ := S_w1_ok (w4 i hi)
    rw [show I 106 i = I 158 (53 + 13 * i) from e0, show I 107 i = I 158 (53 + 13 * i + 1) from e1, show I 108 i = I 158 (53 + 13 * i + 2) from e2, show I 109 i = I 158 (53 + 13 * i + 3) from e3, t1.1, t2.1]
  have ccg : ∀ {ok ok' : Nat → Bool} {n : Nat}, (∀ i, i < n → ok i = ok' i) → pr_c ok n = pr_c ok' n := by
    intro ok ok' n
    induction n with
    | zero => intro _; rfl
    | succ n ih =>
      intro hk
      rw [pr_c, pr_c, ih (fun i hi => hk i (by omega)), hk n (by omega)]
  generalize hbd : (fun i => jd_br cls (jf_w (nI i) (I 106 i) (I 107 i) (I 108 i) (I 109 i) sz (I 104 0) (I 104 1))) = bd
  have lste : ∀ j, j < p → pr_c (pr_km (I 158) bd (I 158 (269 + j))) w = pr_c (pr_k I bd j) w := by
    intro j hj
    refine ccg fun i hi => ?_
    unfold pr_k pr_km
    rw [(p4 j hj).1, show I 106 i = I 158 (53 + 13 * i) from (w4 i hi).1.1]
  have len3 : ∀ j, (pr_c (pr_k I bd j) w).length ≤ 3 := fun j => Nat.le_trans (pr_c_cnt (se := I 106) (s := I 112 j) (fun i hi => by
    unfold pr_k at hi
    rw [Bool.and_eq_true, decide_eq_true_eq] at hi
    exact hi.2.symm) w) (w5.1 (I 112 j))
  -- the narrowest
  have ex : ∀ j, ∃ q : Nat × Nat, (1 ≤ (pr_c (pr_k I bd j) w).length → q.1 < (pr_c (pr_k I bd j) w).length ∧ wn ((pr_c (pr_k I bd j) w).getD q.1 0) = q.2 ∧ (∀ k, k < (pr_c (pr_k I bd j) w).length → q.2 ≤ wn ((pr_c (pr_k I bd j) w).getD k 0)) ∧ pr_m (pr_k I bd j) (fun i => hf_wd (I 102) sz (I 109 i) (fun q => I 110 (9 * i + q))) w = nI q.2) ∧ q.2 ≤ 360 := by
    intro j
    obtain ⟨a1, a2⟩ := pr_b_mem (ok := pr_k I bd j) (wn := wn) w
    cases hb : pr_b (pr_k I bd j) wn w with
    | none => exact ⟨(0, 0), fun z => by rw [a1 hb] at z; exact absurd z (by decide), by decide⟩
    | some b =>
      obtain ⟨b1, b2⟩ := a2 b hb
      obtain ⟨k, k1, k2⟩ := pr_gx b1
      refine ⟨(k, wn b), fun _ => ⟨k1, by rw [k2], fun k' hk' => b2 _ (pr_gm hk'), ?_⟩, (hwn b).2⟩
      rw [pr_mb (wn := wn) (w := w) (fun i hi => ⟨((hwn i).1 hi).1, (hwn i).2⟩) w (Nat.le_refl _), hb]
  obtain ⟨F, hF⟩ : ∃ F : Nat → Nat × Nat, ∀ j, (1 ≤ (pr_c (pr_k I bd j) w).length → (F j).1 < (pr_c (pr_k I bd j) w).length ∧ wn ((pr_c (pr_k I bd j) w).getD (F j).1 0) = (F j).2 ∧ (∀ k, k < (pr_c (pr_k I bd j) w).length → (F j).2 ≤ wn ((pr_c (pr_k I bd j) w).getD k 0)) ∧ pr_m (pr_k I bd j) (fun i => hf_wd (I 102) sz (I 109 i) (fun q => I 110 (9 * i + q))) w = nI (F j).2) ∧ (F j).2 ≤ 360 := ⟨fun j => Classical.choose (ex j), fun j => Classical.choose_spec (ex j)⟩
  have tot : (1 ≤ p ∧ ∀ j, j < p → 1 ≤ (pr_c (pr_k I bd j) w).length) ∨ (p = 0 ∨ ∃ j, j < p ∧ (pr_c (pr_k I bd j) w).length = 0) := by
    by_cases q : 1 ≤ p ∧ ∀ j, j < p → 1 ≤ (pr_c (pr_k I bd j) w).length
    · exact Or.inl q
    · right
      by_cases q0 : p = 0
      · exact Or.inl q0
      · right
        apply Classical.byContradiction
        intro z
        refine q ⟨by omega, fun j hj => ?_⟩
        have : ¬ (pr_c (pr_k I bd j) w).length = 0 := fun y => z ⟨j, hj, y⟩
        omega
  have cls1 : ∀ (v : Option Nat), (1 ≤ p → (∀ j, j < p → 1 ≤ (pr_c (pr_k I bd j) w).length) → hf_on v = nI (nc_L (fun j => (F j).2) bl p LN (2 ^ (p - 1) - 1))) → ((p = 0 ∨ ∃ j, j < p ∧ (pr_c (pr_k I bd j) w).length = 0) → hf_on v = -1) → ∀ (d kk nn : Nat) (Q : Option Value → hf_M → Prop) (C : hf_I), hf_n2 I C → (∀ C', hf_n2 I C' → Q (some (.int (hf_on v))) (t, T, C', L, P)) → hf_G X Y_X8_narrowestColumn (d + 5) kk nn 0 (hf_en [.ref 136, .int sz] 4) [] (t, T, C, L, P) Q := by
    intro v v1 v2 d kk nn Q C hC hQ
    have e := hC.1
    have hcC : lw_c t T C P cls := by
      unfold lw_c
      rw [e 101 (by omega), show (fun a => C (181 + a)) = fun a => I (181 + a) from funext fun a => e (181 + a) (by omega)]
      exact hc
    refine w_X8_narrowestColumn_0 hs (cs_prepare (d := d) (w := w) (p := p) hs hcC w1 (by rw [e 105 (by omega)]; exact w2) p1 (by rw [e 101 (by omega)]; exact p2) (by rw [e 106 (by omega)]; exact w5.1) (by rw [e 109 (by omega), e 110 (by omega)]; exact fun i hi => (S_w1_ok (w4 i hi)).1) fun I' st at1 => ?_)
    have n2' := n2_tr hC (n2_pr st)
    rw [e 106 (by omega), e 107 (by omega), e 108 (by omega), e 109 (by omega), e 110 (by omega), e 104 (by omega), e 102 (by omega), hbd] at at1
    have ekk : ∀ j, pr_k C bd j = pr_k I bd j := fun j => by unfold pr_k; rw [e 112 (by omega), e 106 (by omega)]
    have e9 : I' 136 9 = nI p := by rw [st.2.1, hf_upd_ne (by omega), hf_upd_eq]
    have e10 : I' 136 10 = nI bl := by rw [st.2.1, hf_upd_eq, e 102 (by omega)]; exact bl3
    refine cs_nc (d := d + 3) (p := p) (bl := bl) (LN := LN) (len := fun j => (pr_c (pr_k I bd j) w).length) (nm := fun j => (F j).2) hs p1 e9 e10 bl2 L2 (by rw [n2'.1 101 (by omega)]; exact L3) (fun j hj => ⟨?_, len3 j⟩) (fun j hj hl => ?_) (fun j => (hF j).2) (fun q1 q2 => ?_) (fun q => ?_)
    · have := (at1 j hj).1
      rw [ekk] at this
      exact this
    · have := (at1 j hj).2.2
      rw [ekk, ((hF j).1 hl).2.2.2] at this
      exact this
    · rw [← v1 q1 q2]; exact hQ I' n2'
    · rw [← v2 q]; exact hQ I' n2'
  have mdl : ∀ (v : Option Nat), (1 ≤ p → (∀ j, j < p → 1 ≤ (pr_c (pr_k I bd j) w).length) → hf_om v = nI (nc_L (fun j => (F j).2) bl p LN (2 ^ (p - 1) - 1))) → ((p = 0 ∨ ∃ j, j < p ∧ (pr_c (pr_k I bd j) w).length = 0) → hf_om v = 1000000) → ∀ (d kk nn : Nat) (Q : Option Value → hf_M → Prop) (C : hf_I), hf_n2 I C → (∀ C', hf_n2 I C' → Q (some (.int (hf_om v))) (t, T, C', L, P)) → hf_G X Y_X12_leastBroad (d + 611) kk nn 0 (hf_en [.ref 156, .int sz] 4) [] (t, T, C, L, P) Q := by
    intro v v1 v2 d kk nn Q C hC hQ
    have e := hC.1
    have e158 : C 158 = I 158 := e 158 (by omega)
    refine w_X12_leastBroad_0 hs (ms_lists (d := d) (w := w) (p := p) (bd := bd) (ww := fun i => nI (wn i)) (len := fun j => (pr_c (pr_k I bd j) w).length) (ls := fun i => jd_ls cls (jf_w (nI i) (I 158 (53 + 13 * i)) (I 158 (53 + 13 * i + 1)) (I 158 (53 + 13 * i + 2)) (I 158 (53 + 13 * i + 3)) (I 158 315) (I 158 311) (I 158 312)) (I 158 (53 + 13 * i + 1))) hs (lw_m_fr hm e158) (lw_gd hc) w1 (by rw [e158]; exact w3) p1 (by rw [e158]; exact p3) (by rw [e158]; exact fun s => by rw [← hf_cnt_congr (f := I 106) (g := fun i => I 158 (53 + 13 * i)) (fun j hj => (w4 j hj).1.1)]; exact w5.1 s) ?_ ?_ ?_ ?_ ?_ fun J st at1 => ?_)
    · rw [e158]
      intro i hi
      have ef : (fun q => I 158 (53 + 13 * i + 4 + q)) = fun q => I 158 (53 + 13 * i + (4 + q)) := funext fun q => by rw [Nat.add_assoc]
      rw [ef]
      exact (S_w1_ok (w4 i hi)).2.1
    · rw [e158]
      intro i hi
      rw [← hbd, ← ejf i hi]
    · rw [e158]
      exact fun i hi => ((hwn i).1 hi).2.symm
    · rw [e158]
      exact fun i hi => rfl
    · rw [e158]
      exact fun j hj => by rw [lste j hj]
    · rw [e158] at at1
      obtain ⟨g1, g2, g3, g4, g5⟩ := st
      have eJ : ∀ a, ¬ a = 156 → hf_up J 156 36 (J 156 36 * J 156 37) a = J a := fun a ha => by unfold hf_up; rw [if_neg ha]
      have eK : hf_up J 156 36 (J 156 36 * J 156 37) 156 = upd (J 156) 36 (J 156 36 * J 156 37) := rfl
      have j158 : J 158 = I 158 := (g1.1 158 (by omega) (by omega) (by omega) (by omega) (by omega) (by omega)).trans e158
      have nJ : hf_n2 I (hf_up J 156 36 (J 156 36 * J 156 37)) := by
        refine n2_tr hC ⟨fun a ha => (eJ a (by omega)).trans (g1.1 a (by omega) (by omega) (by omega) (by omega) (by omega) (by omega)), fun j hj => ?_, fun j hj => ?_⟩
        · rw [eJ 136 (by omega), g1.1 136 (by omega) (by omega) (by omega) (by omega) (by omega) (by omega)]
        · rw [eK, hf_upd_ne (by omega)]
          exact g1.2 j (by omega)
      have eR : J 156 36 * J 156 37 = nI ((if p = 0 then 0 else 1) * li_p (fun j => (pr_c (pr_k I bd j) w).length) p * 2 ^ (p - 1)) := by rw [g2, g3, pk_mul]
      rcases tot with ⟨q1, q2⟩ | q
      · have lpb : ∀ k, li_p (fun j => (pr_c (pr_k I bd j) w).length) k ≤ 3 ^ k := by
          intro k
          induction k with
          | zero => exact Nat.le_refl _
          | succ k ih => rw [li_p, Nat.pow_succ]; exact Nat.mul_le_mul ih (len3 k)
        have lp6 : li_p (fun j => (pr_c (pr_k I bd j) w).length) p ≤ 729 := Nat.le_trans (lpb p) (Nat.pow_le_pow_right (n := 3) (i := p) (j := 6) (by omega) p1)
        have p32 : 2 ^ (p - 1) ≤ 32 := Nat.pow_le_pow_right (n := 2) (i := p - 1) (j := 5) (by omega) (by omega)
        have Rb : li_p (fun j => (pr_c (pr_k I bd j) w).length) p * 2 ^ (p - 1) ≤ 729 * 32 := Nat.mul_le_mul lp6 p32
        rw [if_neg (by omega), Nat.one_mul] at eR
        refine ms_lb (d := d + 609) (p := p) (LN := LN) (bl := bl) (len := fun j => (pr_c (pr_k I bd j) w).length) (opt := fun j k => (pr_c (pr_k I bd j) w).getD k 0) (wn := wn) (R := li_p (fun j => (pr_c (pr_k I bd j) w).length) p * 2 ^ (p - 1)) hs q1 p1 (by rw [eJ 158 (by omega), j158]; exact p3) L2 (by rw [eJ 158 (by omega), j158]; exact L4) (by rw [eK, hf_upd_ne (by omega)]; exact g3) (by rw [eK, hf_upd_ne (by omega), g4, e158]; exact bl4) bl2 (fun j hj => ⟨?_, q2 j hj, len3 j⟩) (fun j k hj hk => ?_) (fun i => (hwn i).2) (by rw [eK, hf_upd_eq, eR]) (by omega) fun J' fr => ?_
        · rw [eJ 172 (by omega)]
          have := (at1 j hj).1
          rw [lste j hj] at this
          exact this
        · have hmem := pr_c_mem.mp (pr_gm hk)
          have hlt : (pr_c (pr_k I bd j) w).getD k 0 < w := hmem.1
          refine ⟨?_, by show (pr_c (pr_k I bd j) w).getD k 0 < 16; omega, ?_⟩
          · rw [eJ 171 (by omega)]
            have := (at1 j hj).2 k (by rw [lste j hj]; exact hk)
            rw [lste j hj] at this
            exact this
          · rw [eJ 175 (by omega)]
            exact (g5 _ hlt).1
        · rw [lb_same (p := p) (LN := LN) (bl := bl) (nm := fun j => (F j).2) (idx := fun j => (F j).1) q1 p1 L1 bl2 (fun i => (hF i).2) (fun i hi => ⟨((hF i).1 (q2 i hi)).1, ((hF i).1 (q2 i hi)).2.1⟩) (fun i k hi hk => ((hF i).1 (q2 i hi)).2.2.1 k hk), ← v1 q1 q2]
          refine hQ J' (n2_tr nJ ⟨fun a ha => fr.1 a (by omega) (by omega) (by omega) (by omega) (by omega), fun j _ => by rw [fr.1 136 (by omega) (by omega) (by omega) (by omega) (by omega)], fun j hj => fr.2 j (by omega)⟩)
      · have r0 : (if p = 0 then 0 else 1) * li_p (fun j => (pr_c (pr_k I bd j) w).length) p * 2 ^ (p - 1) = 0 := by
          rcases q with q | ⟨j, j1, j2⟩
          · rw [if_pos q, Nat.zero_mul, Nat.zero_mul]
          · have z : ∀ k, j < k → li_p (fun j => (pr_c (pr_k I bd j) w).length) k = 0 := by
              intro k
              induction k with
              | zero => intro z; omega
              | succ k ih =>
                intro hk
                rw [li_p]
                by_cases e : j = k
                · subst e; rw [j2, Nat.mul_zero]
                · rw [ih (by omega), Nat.zero_mul]
            rw [z p j1, Nat.mul_zero, Nat.zero_mul]
        rw [r0] at eR
        have := hQ _ nJ
        rw [v2 q] at this
        refine w_X12_leastBroad_5 hs (w_X12_leastBroad_10 (d := d + 610) hs ⟨fun _ => this, fun z => absurd ?_ z⟩)
        rw [eK, hf_upd_eq, eR]
        decide
  rcases tot with ⟨q1, q2⟩ | q
  · have no : ¬ (p = 0 ∨ ∃ j, j < p ∧ (pr_c (pr_k I bd j) w).length = 0) := by
      rintro (z | ⟨j, j1, j2⟩)
      · omega
      · have := q2 j j1; omega
    refine ⟨some (nc_L (fun j => (F j).2) bl p LN (2 ^ (p - 1) - 1)), fun m hm => ?_, cls1 _ (fun _ _ => rfl) (fun z => absurd z no), mdl _ (fun _ _ => rfl) (fun z => absurd z no)⟩
    cases hm
    obtain ⟨s, -, -, e⟩ := nc_at (m := fun j => (F j).2) (bl := bl) (p := p) (LN := LN) (2 ^ (p - 1) - 1)
    have := (lb_le (m := fun j => (F j).2) (tn := lb_t (2 * s)) bl2 (fun i => (hF i).2) p).1
    rw [e]; omega
  · have no : 1 ≤ p → (∀ j, j < p → 1 ≤ (pr_c (pr_k I bd j) w).length) → False := by
      intro z1 z2
      rcases q with z | ⟨j, j1, j2⟩
      · omega
      · have := z2 j j1; omega
    exact ⟨none, fun m hm => (by cases hm), cls1 none (fun z1 z2 => (no z1 z2).elim) (fun _ => rfl), mdl none (fun z1 z2 => (no z1 z2).elim) (fun _ => rfl)⟩
end NL
