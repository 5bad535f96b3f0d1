/-! which WORDS may stand where: prepare -/
def pr_fr (I I' : hf_I) : Prop := ∀ a, (a < 132 ∨ a = 135 ∨ 141 < a) → I' a = I a
def pr_c (ok : Nat → Bool) : Nat → List Nat
  | 0 => []
  | n + 1 => if ok n = true then pr_c ok n ++ [n] else pr_c ok n
def pr_m (ok : Nat → Bool) (ww : Nat → Int32) : Nat → Int32
  | 0 => -1
  | n + 1 => if ok n = true then (if pr_m ok ww n = -1 then ww n else if pr_m ok ww n ≤ ww n then pr_m ok ww n else ww n) else pr_m ok ww n
theorem pr_c_cnt {ok : Nat → Bool} {se : Nat → Int32} {s : Int32} (h : ∀ i, ok i = true → se i = s) : ∀ n, (pr_c ok n).length ≤ hf_cnt se s n := by
  intro n
  induction n with
  | zero => exact Nat.le_refl _
  | succ n ih =>
    rw [pr_c, hf_cnt]
    by_cases e : ok n = true
    · rw [if_pos e, if_pos (h n e), List.length_append]
      exact Nat.add_le_add_right ih 1
    · rw [if_neg e]
      exact Nat.le_trans ih (Nat.le_add_right _ _)
theorem pr_c_mono {ok : Nat → Bool} : ∀ {n m : Nat}, n ≤ m → (pr_c ok n).length ≤ (pr_c ok m).length := by
  intro n m h
  induction m with
  | zero =>
    obtain rfl : n = 0 := by omega
    exact Nat.le_refl _
  | succ m ih =>
    by_cases e : n = m + 1
    · subst e; exact Nat.le_refl _
    · have := ih (by omega)
      rw [pr_c]
      split
      · rw [List.length_append]; omega
      · exact this
theorem pr_c_mem {ok : Nat → Bool} : ∀ {n i : Nat}, i ∈ pr_c ok n ↔ i < n ∧ ok i = true := by
  intro n
  induction n with
  | zero => intro i; simp [pr_c]
  | succ n ih =>
    intro i
    rw [pr_c]
    by_cases e : ok n = true
    · rw [if_pos e, List.mem_append, ih, List.mem_singleton]
      constructor
      · rintro (⟨a, b⟩ | rfl)
        · exact ⟨by omega, b⟩
        · exact ⟨by omega, e⟩
      · rintro ⟨a, b⟩
        by_cases q : i = n
        · exact Or.inr q
        · exact Or.inl ⟨by omega, b⟩
    · rw [if_neg e, ih]
      constructor
      · rintro ⟨a, b⟩; exact ⟨by omega, b⟩
      · rintro ⟨a, b⟩
        by_cases q : i = n
        · subst q; exact absurd b e
        · exact ⟨by omega, b⟩
theorem pr_gd1 {l : List Nat} {n : Nat} : (l ++ [n]).getD l.length 0 = n := by simp [List.getD]
theorem pr_gd0 {l : List Nat} {n k : Nat} (h : k < l.length) : (l ++ [n]).getD k 0 = l.getD k 0 := by simp [List.getD, List.getElem?_append, h]
def pr_at (I' : hf_I) (ok : Nat → Bool) (ww : Nat → Int32) (j n : Nat) : Prop := I' 140 j = nI (pr_c ok n).length ∧ (∀ k, k < (pr_c ok n).length → I' 139 (3 * j + k) = nI ((pr_c ok n).getD k 0)) ∧ I' 141 j = pr_m ok ww n
theorem pr_at_n {I' : hf_I} {ok : Nat → Bool} {ww : Nat → Int32} {j n : Nat} (hn : ¬ ok n = true) (h : pr_at I' ok ww j n) : pr_at I' ok ww j (n + 1) := by
  unfold pr_at
  rw [pr_c, pr_m, if_neg hn, if_neg hn]
  exact h
theorem pr_at_fr {I' I'' : hf_I} {ok : Nat → Bool} {ww : Nat → Int32} {j n : Nat} (h : pr_at I' ok ww j n) (h1 : I'' 139 = I' 139) (h2 : I'' 140 = I' 140) (h3 : I'' 141 = I' 141) : pr_at I'' ok ww j n := by
  unfold pr_at
  rw [h1, h2, h3]
  exact h
section PREP
variable {X : hf_X} {d kk nn t : Nat} {T : hf_T} {I : hf_I} {L : hf_L} {P : hf_P} {Q : Option Value → hf_M → Prop}
theorem cs_addChoice {ok : Nat → Bool} {ww : Nat → Int32} {j n : Nat} (hs : hf_Lay t T P) (hj : j < 6) (hn : n < 16) (hok : ok n = true) (hlen : (pr_c ok n).length < 3) (h137 : I 137 n = ww n) (ha : pr_at I ok ww j n)
    (h : ∀ I', (∀ a, (a < 139 ∨ 141 < a) → I' a = I a) → pr_at I' ok ww j (n + 1) → (∀ (ok' : Nat → Bool) (j' n' : Nat), ¬ j' = j → (pr_c ok' n').length ≤ 3 → pr_at I ok' ww j' n' → pr_at I' ok' ww j' n') → Q none (t, T, I', L, P)) :
    hf_G X Y_X8_addChoice d kk nn 0 (hf_en [.ref 136, .int (nI j), .int (nI n)] 3) [] (t, T, I, L, P) Q := by
  obtain ⟨a1, a2, a3⟩ := ha
  have vj : vp_in (nI j) 6 := vp_in_nI hj (by omega)
  have vn : vp_in (nI n) 16 := vp_in_nI hn (by omega)
  have gen : ∀ I', (∀ a, (a < 139 ∨ 141 < a) → I' a = I a) → I' 139 = upd (I 139) (3 * j + (pr_c ok n).length) (nI n) → I' 140 = upd (I 140) j (nI ((pr_c ok n).length + 1)) → I' 141 j = pr_m ok ww (n + 1) → (∀ j', ¬ j' = j → I' 141 j' = I 141 j') → Q none (t, T, I', L, P) := by
    intro I' f1 f2 f3 f4 f5
    have ec : pr_c ok (n + 1) = pr_c ok n ++ [n] := by rw [pr_c, if_pos hok]
    refine h I' f1 ⟨?_, fun k hk => ?_, f4⟩ (fun ok' j' n' hjj hl h' => ⟨?_, fun k hk => ?_, ?_⟩)
    · rw [f3, hf_upd_eq, ec, List.length_append]; rfl
    · rw [ec] at hk ⊢
      rw [List.length_append] at hk
      rw [f2]
      by_cases e : k = (pr_c ok n).length
      · subst e
        rw [hf_upd_eq, pr_gd1]
      · have hk' : k < (pr_c ok n).length := by
          have : [n].length = 1 := rfl
          omega
        rw [hf_upd_ne (by omega), pr_gd0 hk']
        exact a2 k hk'
    · rw [f3, hf_upd_ne hjj]; exact h'.1
    · rw [f2, hf_upd_ne (by omega)]; exact h'.2.1 k hk
    · rw [f5 j' hjj]; exact h'.2.2
  have em : pr_m ok ww (n + 1) = if pr_m ok ww n = -1 then ww n else if pr_m ok ww n ≤ ww n then pr_m ok ww n else ww n := by rw [pr_m, if_pos hok]
  refine w_X8_addChoice_0 hs ⟨vj, ?_⟩
  rw [nI_clamp (show j < 2 ^ 31 by omega), nI_clamp (show n < 2 ^ 31 by omega), a1, a3, h137, nI_1, show (3 : Int32) = nI 3 from rfl, pk_mul, nI_add, nI_clamp (show j * 3 + (pr_c ok n).length < 2 ^ 31 by omega), Nat.mul_comm j 3]
  have fr : ∀ (I0 : hf_I) (b q : Nat) (v : Int32), 139 ≤ b → b ≤ 141 → (∀ a, (a < 139 ∨ 141 < a) → I0 a = I a) → ∀ a, (a < 139 ∨ 141 < a) → hf_up I0 b q v a = I a := by
    intro I0 b q v b1 b2 h0 a ha
    rw [← h0 a ha]
    unfold hf_up
    rw [if_neg (by omega)]
  refine ⟨fun _ => ⟨vj, vp_in_nI (by omega) (by omega), vj, vj, vj, fun q => ⟨vn, vj, ?_⟩, fun q => ⟨vn, vj, fun q2 => ?_, fun q2 => ⟨vn, vj, ?_⟩⟩⟩, fun q => absurd (nI_lt hlen (by omega)) q⟩
  · refine gen _ (fr _ _ _ _ (by omega) (by omega) (fr _ _ _ _ (by omega) (by omega) (fr _ _ _ _ (by omega) (by omega) fun _ _ => rfl))) rfl rfl ?_ (fun j' hjj => ?_)
    · rw [em, if_pos q]
      exact hf_upd_eq
    · exact hf_upd_ne hjj
  · refine gen _ (fr _ _ _ _ (by omega) (by omega) (fr _ _ _ _ (by omega) (by omega) fun _ _ => rfl)) rfl rfl ?_ (fun j' hjj => rfl)
    rw [em, if_neg q, if_pos q2]
    exact a3
  · refine gen _ (fr _ _ _ _ (by omega) (by omega) (fr _ _ _ _ (by omega) (by omega) (fr _ _ _ _ (by omega) (by omega) fun _ _ => rfl))) rfl rfl ?_ (fun j' hjj => ?_)
    · rw [em, if_neg q, if_neg q2]
      exact hf_upd_eq
    · exact hf_upd_ne hjj
/-- what prepare leaves -/
def pr_st (I I' : hf_I) (bd : Nat → Bool) (ww ls : Nat → Int32) (sz : Int32) (p n : Nat) : Prop := pr_fr I I' ∧ I' 136 = upd (upd (I 136) 9 (nI p)) 10 (hf_bl (I 102) sz) ∧ (∀ i, i < n → bd i = false → I' 137 i = ww i ∧ I' 138 i = ls i)
def pr_k (I : hf_I) (bd : Nat → Bool) (j i : Nat) : Bool := !(bd i) && decide (I 112 j = I 106 i)
theorem cs_prepare {sz : Int32} {w p : Nat} {cls : List gr_c1} (hs : hf_Lay t T P) (hlw : lw_c t T I P cls) (hw : w ≤ 16) (h5 : I 105 5 = nI w) (hp : p ≤ 6) (h17 : I 101 17 = nI p) (hcnt : ∀ s : Int32, hf_cnt (I 106) s w ≤ 3) (hok : ∀ i, i < w → hf_wok (I 109 i) (fun q => I 110 (9 * i + q)))
    (h : ∀ I', pr_st I I' (fun i => jd_br cls (jf_w (nI i) (I 106 i) (I 107 i) (I 108 i) (I 109 i) sz (I 104 0) (I 104 1))) (fun i => hf_wd (I 102) sz (I 109 i) (fun q => I 110 (9 * i + q))) (fun i => jd_ls cls (jf_w (nI i) (I 106 i) (I 107 i) (I 108 i) (I 109 i) sz (I 104 0) (I 104 1)) (I 107 i)) sz p w → (∀ j, j < p → pr_at I' (pr_k I (fun i => jd_br cls (jf_w (nI i) (I 106 i) (I 107 i) (I 108 i) (I 109 i) sz (I 104 0) (I 104 1))) j) (fun i => hf_wd (I 102) sz (I 109 i) (fun q => I 110 (9 * i + q))) j w) → Q none (t, T, I', L, P)) :
    hf_G X Y_X8_prepare (d + 4) kk nn 0 (hf_en [.ref 136, .int sz] 4) [] (t, T, I, L, P) Q := by
  generalize hbd : (fun i => jd_br cls (jf_w (nI i) (I 106 i) (I 107 i) (I 108 i) (I 109 i) sz (I 104 0) (I 104 1))) = bd at h
  generalize hww : (fun i => hf_wd (I 102) sz (I 109 i) (fun q => I 110 (9 * i + q))) = ww at h
  generalize hls : (fun i => jd_ls cls (jf_w (nI i) (I 106 i) (I 107 i) (I 108 i) (I 109 i) sz (I 104 0) (I 104 1)) (I 107 i)) = ls at h
  have len : ∀ j n, n ≤ w → (pr_c (pr_k I bd j) n).length ≤ 3 := fun j n hn => Nat.le_trans (Nat.le_trans (pr_c_mono hn) (pr_c_cnt (se := I 106) (s := I 112 j) (fun i hi => by
    unfold pr_k at hi
    rw [Bool.and_eq_true, decide_eq_true_eq] at hi
    exact hi.2.symm) w)) (hcnt (I 112 j))
  -- one WORD at each place
  have places : ∀ n, n < w → bd n = false → (∀ I', pr_st I I' bd ww ls sz p (n + 1) → (∀ j, j < p → pr_at I' (pr_k I bd j) ww j (n + 1)) → hf_G X Y_X8_prepare (d + 4) kk nn 57 [some (.ref 136), some (.int sz), some (.int (nI (n + 1))), none] [] (t, T, I', L, P) Q) → ∀ f j, j + f = p → ∀ I', pr_st I I' bd ww ls sz p (n + 1) → (∀ j', j' < j → pr_at I' (pr_k I bd j') ww j' (n + 1)) → (∀ j', j ≤ j' → j' < p → pr_at I' (pr_k I bd j') ww j' n) → hf_G X Y_X8_prepare (d + 4) kk nn 118 [some (.ref 136), some (.int sz), some (.int (nI n)), some (.int (nI j))] [] (t, T, I', L, P) Q := by
    intro n hn hb next f
    induction f with
    | zero =>
      intro j hj I' st at1 at2
      obtain rfl : j = p := by omega
      have e9 : I' 136 9 = nI j := by rw [st.2.1, hf_upd_ne (by omega), hf_upd_eq]
      refine w_X8_prepare_118 hs ⟨fun _ => ?_, fun q => absurd (by rw [e9]; exact nI_le (Nat.le_refl _) (by omega)) q⟩
      rw [nI_1]
      exact next I' st at1
    | succ f ih =>
      intro j hj I' st at1 at2
      have e9 : I' 136 9 = nI p := by rw [st.2.1, hf_upd_ne (by omega), hf_upd_eq]
      have e112 : I' 112 = I 112 := st.1 112 (by omega)
      have e106 : I' 106 = I 106 := st.1 106 (by omega)
      refine w_X8_prepare_118 hs ⟨fun q => absurd q (by rw [e9]; exact nI_ge (by omega) (by omega)), fun _ => ⟨vp_in_nI (by omega) (by omega), vp_in_nI (by omega) (by omega), ?_⟩⟩
      rw [e112, e106, nI_clamp (show j < 2 ^ 31 by omega), nI_clamp (show n < 2 ^ 31 by omega)]
      refine ⟨fun q => ?_, fun q => ?_⟩
      · rw [nI_1]
        have hk : ¬ pr_k I bd j n = true := by
          unfold pr_k
          rw [Bool.and_eq_true, decide_eq_true_eq]
          exact fun z => q z.2
        refine ih (j + 1) (by omega) I' st (fun j' hj' => ?_) (fun j' h1 h2 => at2 j' (by omega) h2)
        by_cases e : j' = j
        · subst e; exact pr_at_n hk (at2 j' (by omega) (by omega))
        · exact at1 j' (by omega)
      · have hk : pr_k I bd j n = true := by
          unfold pr_k
          rw [Bool.and_eq_true, decide_eq_true_eq, hb]
          exact ⟨rfl, q⟩
        have l1 := len j (n + 1) (by omega)
        rw [pr_c, if_pos hk, List.length_append] at l1
        have l2 : [n].length = 1 := rfl
        refine cs_addChoice (ok := pr_k I bd j) (ww := ww) hs (by omega) (by omega) hk (by omega) ((st.2.2 n (by omega) hb).1) (at2 j (by omega) (by omega)) fun I'' f1 g1 g2 => w_X8_prepare_156 hs ?_
        rw [nI_1]
        refine ih (j + 1) (by omega) I'' ⟨fun a ha => (f1 a (by omega)).trans (st.1 a ha), (f1 136 (by omega)).trans st.2.1, fun i hi hbi => ?_⟩ (fun j' hj' => ?_) (fun j' h1 h2 => g2 _ j' n (by omega) (len j' n (by omega)) (at2 j' (by omega) h2))
        · rw [f1 137 (by omega), f1 138 (by omega)]
          exact st.2.2 i hi hbi
        · by_cases e : j' = j
          · subst e; exact g1
          · exact g2 _ j' (n + 1) e (len j' (n + 1) (by omega)) (at1 j' (by omega))
  have words : ∀ f n, n + f = w → ∀ I', pr_st I I' bd ww ls sz p n → (∀ j, j < p → pr_at I' (pr_k I bd j) ww j n) → hf_G X Y_X8_prepare (d + 4) kk nn 57 [some (.ref 136), some (.int sz), some (.int (nI n)), none] [] (t, T, I', L, P) Q := by
    intro f
    induction f with
    | zero =>
      intro n hn I' st at1
      obtain rfl : n = w := by omega
      have e5 : I' 105 5 = nI n := by rw [st.1 105 (by omega)]; exact h5
      exact w_X8_prepare_57 hs ⟨fun _ => h I' st at1, fun q => absurd (by rw [e5]; exact nI_le (Nat.le_refl _) (by omega)) q⟩
    | succ f ih =>
      intro n hn I' st at1
      have e5 : I' 105 5 = nI w := by rw [st.1 105 (by omega)]; exact h5
      have lw' : lw_c t T I' P cls := by
        unfold lw_c
        rw [st.1 101 (by omega), show (fun a => I' (181 + a)) = fun a => I (181 + a) from funext fun a => st.1 (181 + a) (by omega)]
        exact hlw
      refine w_X8_prepare_57 hs ⟨fun q => absurd q (by rw [e5]; exact nI_ge (by omega) (by omega)), fun _ => ?_⟩
      refine cs_isBarred (d := d) hs lw' (by omega) fun I1 f1 => ?_
      have st1 : ∀ {I2 : hf_I} {m : Nat}, (∀ a, (a < 132 ∨ 134 < a) → I2 a = I' a) → m = n → pr_st I I2 bd ww ls sz p m := by
        intro I2 m hf hm
        subst hm
        refine ⟨fun a ha => (hf a (by omega)).trans (st.1 a ha), (hf 136 (by omega)).trans st.2.1, fun i hi hb => ?_⟩
        rw [hf 137 (by omega), hf 138 (by omega)]
        exact st.2.2 i hi hb
      have f1' : ∀ a, (a < 132 ∨ 134 < a) → I1 a = I' a := fun a ha => f1 a (by omega) (by omega) (by omega)
      have fI : ∀ a, (a < 132 ∨ a = 135 ∨ 141 < a) → I1 a = I a := fun a ha => (f1' a (by omega)).trans (st.1 a ha)
      have at1' : ∀ j, j < p → pr_at I1 (pr_k I bd j) ww j n := fun j hj => pr_at_fr (at1 j hj) (f1' 139 (by omega)) (f1' 140 (by omega)) (f1' 141 (by omega))
      rw [st.1 106 (by omega), st.1 107 (by omega), st.1 108 (by omega), st.1 109 (by omega), st.1 104 (by omega), show jd_br cls (jf_w (nI n) (I 106 n) (I 107 n) (I 108 n) (I 109 n) sz (I 104 0) (I 104 1)) = bd n from congrFun hbd n]
      cases hb : bd n with
      | true =>
        refine w_X8_prepare_80 hs ⟨fun q => absurd q (by decide), fun _ => ?_⟩
        rw [nI_1]
        refine ih (n + 1) (by omega) I1 ⟨fI, (f1' 136 (by omega)).trans st.2.1, fun i hi hbi => ?_⟩ (fun j hj => pr_at_n (by unfold pr_k; rw [hb]; intro z; cases z) (at1' j hj))
        by_cases e : i = n
        · subst e; rw [hb] at hbi; cases hbi
        · rw [f1' 137 (by omega), f1' 138 (by omega)]
          exact st.2.2 i (by omega) hbi
      | false =>
        refine w_X8_prepare_80 hs ⟨fun _ => ?_, fun q => absurd rfl q⟩
        refine sp_X1_wordWidth (d := d + 2) hs (by omega) (by rw [fI 109 (by omega), fI 110 (by omega)]; exact hok n (by omega)) (w_X8_prepare_100 hs ⟨vp_in_nI (by omega) (by omega), ?_⟩)
        rw [fI 102 (by omega), fI 109 (by omega), fI 110 (by omega), nI_clamp (show n < 2 ^ 31 by omega), show hf_wd (I 102) sz (I 109 n) (fun q => I 110 (9 * n + q)) = ww n from congrFun hww n]
        have lw1 : lw_c t T (hf_up I1 137 n (ww n)) P cls := by
          unfold lw_c
          rw [show hf_up I1 137 n (ww n) 101 = I1 101 from rfl, fI 101 (by omega), show (fun a => hf_up I1 137 n (ww n) (181 + a)) = fun a => I (181 + a) from funext fun a => by rw [hf_upJ (by omega), fI (181 + a) (by omega)]]
          exact hlw
        refine cs_lossOf (d := d) hs lw1 (by omega) fun I2 f2 => w_X8_prepare_115 hs ⟨vp_in_nI (by omega) (by omega), ?_⟩
        rw [show hf_up I1 137 n (ww n) 106 = I1 106 from rfl, show hf_up I1 137 n (ww n) 107 = I1 107 from rfl, show hf_up I1 137 n (ww n) 108 = I1 108 from rfl, show hf_up I1 137 n (ww n) 109 = I1 109 from rfl, show hf_up I1 137 n (ww n) 104 = I1 104 from rfl, fI 106 (by omega), fI 107 (by omega), fI 108 (by omega), fI 109 (by omega), fI 104 (by omega), nI_clamp (show n < 2 ^ 31 by omega), show jd_ls cls (jf_w (nI n) (I 106 n) (I 107 n) (I 108 n) (I 109 n) sz (I 104 0) (I 104 1)) (I 107 n) = ls n from congrFun hls n]
        have f3 : ∀ a, (a < 132 ∨ a = 135 ∨ a = 136 ∨ 138 < a) → hf_up I2 138 n (ls n) a = I' a := by
          intro a ha
          have e1 : hf_up I2 138 n (ls n) a = I2 a := by unfold hf_up; rw [if_neg (by omega)]
          have e2 : hf_up I1 137 n (ww n) a = I1 a := by unfold hf_up; rw [if_neg (by omega)]
          rw [e1, f2 a (by omega) (by omega) (by omega), e2, f1' a (by omega)]
        have e137 : hf_up I2 138 n (ls n) 137 = upd (I' 137) n (ww n) := by
          have e1 : hf_up I2 138 n (ls n) 137 = I2 137 := rfl
          have e2 : hf_up I1 137 n (ww n) 137 = upd (I1 137) n (ww n) := rfl
          rw [e1, f2 137 (by omega) (by omega) (by omega), e2, f1' 137 (by omega)]
        have e138 : hf_up I2 138 n (ls n) 138 = upd (I' 138) n (ls n) := by
          have e1 : hf_up I2 138 n (ls n) 138 = upd (I2 138) n (ls n) := rfl
          have e2 : hf_up I1 137 n (ww n) 138 = I1 138 := rfl
          rw [e1, f2 138 (by omega) (by omega) (by omega), e2, f1' 138 (by omega)]
        refine places n (by omega) hb (fun I3 st3 at3 => ih (n + 1) (by omega) I3 st3 at3) p 0 (by omega) _ ⟨fun a ha => (f3 a (by omega)).trans (st.1 a ha), (f3 136 (by omega)).trans st.2.1, fun i hi hbi => ?_⟩ (fun j' hj' => by omega) (fun j' _ hj' => pr_at_fr (at1 j' hj') (f3 139 (by omega)) (f3 140 (by omega)) (f3 141 (by omega)))
        rw [e137, e138]
        by_cases e : i = n
        · subst e
          rw [hf_upd_eq, hf_upd_eq]
          exact ⟨rfl, rfl⟩
        · rw [hf_upd_ne e, hf_upd_ne e]
          exact st.2.2 i (by omega) hbi
  have init : ∀ f j, j + f = p → ∀ I', pr_st I I' bd ww ls sz p 0 → (∀ j', j' < j → pr_at I' (pr_k I bd j') ww j' 0) → hf_G X Y_X8_prepare (d + 4) kk nn 27 [some (.ref 136), some (.int sz), some (.int (nI j)), none] [] (t, T, I', L, P) Q := by
    intro f
    induction f with
    | zero =>
      intro j hj I' st at1
      obtain rfl : j = p := by omega
      have e9 : I' 136 9 = nI j := by rw [st.2.1, hf_upd_ne (by omega), hf_upd_eq]
      exact w_X8_prepare_27 hs ⟨fun _ => words w 0 (by omega) I' st at1, fun q => absurd (by rw [e9]; exact nI_le (Nat.le_refl _) (by omega)) q⟩
    | succ f ih =>
      intro j hj I' st at1
      have e9 : I' 136 9 = nI p := by rw [st.2.1, hf_upd_ne (by omega), hf_upd_eq]
      have vj : vp_in (nI j) 6 := vp_in_nI (by omega) (by omega)
      refine w_X8_prepare_27 hs ⟨fun q => absurd q (by rw [e9]; exact nI_ge (by omega) (by omega)), fun _ => ⟨vj, vj, ?_⟩⟩
      rw [nI_clamp (show j < 2 ^ 31 by omega), nI_1]
      have fr : ∀ a, ¬ a = 140 → ¬ a = 141 → hf_up (hf_up I' 140 j 0) 141 j (-1) a = I' a := by
        intro a h1 h2
        unfold hf_up
        rw [if_neg h2, if_neg h1]
      refine ih (j + 1) (by omega) _ ⟨fun a ha => (fr a (by omega) (by omega)).trans (st.1 a ha), (fr 136 (by omega) (by omega)).trans st.2.1, fun i hi => by omega⟩ (fun j' hj' => ⟨?_, fun k hk => by simp [pr_c] at hk, ?_⟩)
      · show upd (I' 140) j 0 j' = _
        by_cases e : j' = j
        · rw [e, hf_upd_eq]; rfl
        · rw [hf_upd_ne e]; exact (at1 j' (by omega)).1
      · show upd (I' 141) j (-1) j' = _
        by_cases e : j' = j
        · rw [e, hf_upd_eq]; rfl
        · rw [hf_upd_ne e]; exact (at1 j' (by omega)).2.2
  refine w_X8_prepare_0 (d := d + 3) hs ?_
  rw [h17]
  refine init p 0 (by omega) _ ⟨fun a ha => ?_, rfl, fun i hi => by omega⟩ (fun j' hj' => by omega)
  unfold hf_up
  rw [if_neg (by omega), if_neg (by omega)]
end PREP
