/-! word -/
theorem rf_up {rf mr : Nat → Int32} {q q2 : Nat} (hq : (q, q2) = (0, 1) ∨ (q, q2) = (1, 2) ∨ (q, q2) = (2, 3) ∨ (q, q2) = (3, 5) ∨ (q, q2) = (4, 6)) (h : S_rf rf mr) : S_rf (upd rf q (rf q + 1)) (upd mr q2 (mr q2 + 1)) := by
  obtain ⟨r0, r1, r2, r3, r4⟩ := h
  rcases hq with hq | hq | hq | hq | hq <;> cases hq <;> simp [S_rf, upd, r0, r1, r2, r3, r4]
theorem S_wd_lt {W se lo tr le lt lt' kp : Nat → Int32} {w : Nat} (hw : w ≤ 16) (h5 : W 5 = nI w) (hl : ∀ j, j < 9 * w → lt' j = lt j) (hby : S_by lt') (h : S_wd W se lo tr le lt kp) : S_wd W se lo tr le lt' kp := by
  obtain ⟨w', a1, a2, a3, a4, a5⟩ := h
  have e : w' = w := (nI_eq (by omega) (by omega)).mp (a2.symm.trans h5)
  subst e
  refine ⟨w', a1, a2, a3, fun i hi => ?_, a5.1, hby⟩
  obtain ⟨b1, b2, b3, m, b4, b5, b6, b7, b8⟩ := a4 i hi
  refine ⟨b1, b2, b3, m, b4, b5, b6, b7, fun q hq => ?_⟩
  obtain ⟨c, c1, c2, c3⟩ := b8 q hq
  exact ⟨c, c1, by show lt' (9 * i + q) = nI c; rw [hl _ (by omega)]; exact c2, c3⟩
theorem S_h1_mono {W5 W5' hc hn : Int32} {hw hl kp : Nat → Int32} (hle : W5 ≤ W5') (h : S_h1 W5 hc hn hw hl kp) : S_h1 W5' hc hn hw hl kp := by
  obtain ⟨c, ln, h1, h2, h3, h4, h5, h6, h7⟩ := h
  refine ⟨c, ln, h1, h2, h3, h4, h5, h6, fun j hj => ?_⟩
  obtain ⟨⟨a1, a2, a3⟩, a4⟩ := h7 j hj
  exact ⟨⟨a1, a2, Int32.lt_of_lt_of_le a3 hle⟩, a4⟩
theorem S_ud_mono {W5 W5' mu : Int32} {pa pk ml : Nat → Int32} (hle : W5 ≤ W5') (h : S_ud W5 pa pk mu ml) : S_ud W5' pa pk mu ml := by
  obtain ⟨u, nx, h1, h2, h3, h4, h5, h6⟩ := h
  exact ⟨u, nx, h1, h2, h3, h4, h5, fun q hq => ⟨(h6 q hq).1, S_h1_mono hle (h6 q hq).2⟩⟩
theorem S_wd_add {W W' se lo tr le lt lt' kp K : Nat → Int32} {w n : Nat} {a b e : Int32} (h : S_wd W se lo tr le lt kp) (hby : S_by lt') (h5 : W 5 = nI w) (hW : W' 5 = nI (w + 1)) (hw : w < 16) (c1 : ¬ a < 0) (c2 : ¬ 7 < a) (c3 : ¬ b < 0) (c4 : ¬ 99 < b) (c5 : ¬ e < 0) (c6 : ¬ 10 < e) (hcnt : hf_cnt se a w < 3) (n1 : 1 ≤ n) (n9 : n ≤ 9) (K0 : K (53 + 13 * w) = a) (K1 : K (53 + 13 * w + 1) = b) (K2 : K (53 + 13 * w + 2) = e) (K3 : K (53 + 13 * w + 3) = nI n) (Kl : ∀ q, q < n → ∃ c, c ≤ 25 ∧ lt' (9 * w + q) = nI c ∧ K (53 + 13 * w + (4 + q)) = nI c) (hK : ∀ i, 53 ≤ i → i < 53 + 13 * w → K i = kp i) (K316 : K 316 = nI (w + 1)) (hl : ∀ j, j < 9 * w → lt' j = lt j) : S_wd W' (upd se w a) (upd lo w b) (upd tr w e) (upd le w (nI n)) lt' K := by
  obtain ⟨w', a1, a2, a3, a4, a5⟩ := h
  have ew : w' = w := (nI_eq (by omega) (by omega)).mp (a2.symm.trans h5)
  subst ew
  refine ⟨w' + 1, by omega, hW, K316, fun i hi => ?_, fun s => ?_, hby⟩
  · by_cases ei : i = w'
    · subst ei
      rw [hf_upd_eq, hf_upd_eq, hf_upd_eq, hf_upd_eq]
      exact ⟨⟨K0.symm, Int32.not_lt.mp c1, Int32.not_lt.mp c2⟩, ⟨K1.symm, Int32.not_lt.mp c3, Int32.not_lt.mp c4⟩, ⟨K2.symm, Int32.not_lt.mp c5, Int32.not_lt.mp c6⟩, n, n1, n9, rfl, K3, Kl⟩
    · rw [hf_upd_ne ei, hf_upd_ne ei, hf_upd_ne ei, hf_upd_ne ei]
      obtain ⟨b1, b2, b3, m, b4, b5, b6, b7, b8⟩ := S_w1_fr (kq := fun q => K (53 + 13 * i + q)) (fun j hj => hK _ (by omega) (by omega)) (a4 i (by omega))
      refine ⟨b1, b2, b3, m, b4, b5, b6, b7, fun q hq => ?_⟩
      obtain ⟨c, y1, y2, y3⟩ := b8 q hq
      exact ⟨c, y1, (hl _ (by omega)).trans y2, y3⟩
  · rw [hf_cnt, hf_upd_eq, hf_cnt_congr (g := se) (fun j hj => hf_upd_ne (by omega))]
    have := a5.1 s
    by_cases es : a = s
    · subst es
      rw [if_pos rfl]; omega
    · rw [if_neg es]; omega
/-- what was found does not rest on letters behind the last WORD -/
def hf_CCl (CC : Int32 → Int32 → Int32 → Int32 → Int32 → Int32 → (Nat → Int32) → (Nat → Int32) → Int32 → (Nat → Int32) → (Nat → Int32) → (Nat → Int32) → (Nat → Int32) → (Nat → Int32) → (Nat → Int32) → (Nat → Int32) → (Nat → Nat → Int32) → hf_P → Int64 → Int64 → Int32 → Int32 → Prop) : Prop :=
  ∀ {a b c d e f : Int32} {g h : Nat → Int32} {w : Nat} {i1 i2 i3 i4 l l' k1 k2 : Nat → Int32} {J : Nat → Nat → Int32} {P : hf_P} {x y : Int64} {u v : Int32}, w ≤ 16 → (∀ j, j < 9 * w → l' j = l j) → CC a b c d e f g h (nI w) i1 i2 i3 i4 l k1 k2 J P x y u v → CC a b c d e f g h (nI w) i1 i2 i3 i4 l' k1 k2 J P x y u v
def sp_M (I : hf_I) (w k : Nat) : hf_I := hf_set I 110 (fun i => if 9 * w ≤ i ∧ i < 9 * w + k then I 122 (i - 9 * w) - 97 else I 110 i)
def sp_ok (tp : Nat → Int32) (n : Nat) : Prop := 1 ≤ n ∧ n ≤ 9 ∧ ∀ j, j < n → 97 ≤ tp j ∧ tp j ≤ 122
theorem sp_lt {x : Int32} (h1 : 97 ≤ x) (h2 : x ≤ 122) : ∃ c, c ≤ 25 ∧ x - 97 = nI c ∧ vp_nar .byte ((x - 97).toInt8.toInt32) = nI c := by
  obtain ⟨q, q1, q2, rfl⟩ := bd_rng (a := 97) (b := 122) (by decide) (by decide) h1 h2
  obtain ⟨c, rfl⟩ : ∃ c, q = c + 97 := ⟨q - 97, by omega⟩
  have e : nI (c + 97) - 97 = nI c := by
    rw [show (97 : Int32) = nI 97 from rfl, ← nI_add, Int32.add_sub_cancel]
  refine ⟨c, by omega, e, ?_⟩
  rw [e, pk_vb]
  have : ∀ z : Fin 26, (nI z.1).toInt8.toInt32 = nI z.1 := by decide
  exact this ⟨c, by omega⟩
theorem by_M {I : hf_I} {w k : Nat} (h : S_by (I 110)) (hk : ∀ j, j < k → 97 ≤ I 122 j ∧ I 122 j ≤ 122) : S_by (sp_M I w k 110) := by
  intro j hj
  show fits .byte (.int (if 9 * w ≤ j ∧ j < 9 * w + k then I 122 (j - 9 * w) - 97 else I 110 j)) = true
  by_cases q : 9 * w ≤ j ∧ j < 9 * w + k
  · rw [if_pos q]
    obtain ⟨z1, z2⟩ := hk (j - 9 * w) (by omega)
    obtain ⟨c, y1, y2, -⟩ := sp_lt z1 z2
    rw [y2]
    have : ∀ z : Fin 26, fits .byte (.int (nI z.1)) = true := by decide
    exact this ⟨c, by omega⟩
  · rw [if_neg q]
    exact h j hj
section WORD
variable {X : hf_X} {d kk nn t : Nat} {T : hf_T} {I : hf_I} {L : hf_L} {P : hf_P} {Q : Option Value → hf_M → Prop}
theorem cs_manyOf {x : Int32} {w : Nat} (hs : hf_Lay t T P) (hw : w ≤ 16) (h5 : I 105 5 = nI w) (h : Q (some (.int (nI (hf_cnt (I 106) x w)))) (t, T, I, L, P)) : hf_G X Y_X10_manyOf d kk nn 0 (hf_en [.ref 105, .int x] 4) [] (t, T, I, L, P) Q := by
  have loop : ∀ f i, i + f = w → hf_G X Y_X10_manyOf d kk nn 4 [some (.ref 105), some (.int x), some (.int (nI (hf_cnt (I 106) x i))), some (.int (nI i))] [] (t, T, I, L, P) Q := by
    intro f
    induction f with
    | zero =>
      intro i hi
      obtain rfl : i = w := by omega
      exact w_X10_manyOf_4 hs ⟨fun _ => h, fun g => absurd (by rw [h5]; exact nI_le (Nat.le_refl _) (by omega)) g⟩
    | succ f ih =>
      intro i hi
      have key := ih (i + 1) (by omega)
      refine w_X10_manyOf_4 hs ⟨fun g => absurd g (by rw [h5]; exact nI_ge (by omega) (by omega)), fun _ => ⟨vp_in_nI (by omega) (by omega), ?_⟩⟩
      rw [nI_clamp (show i < 2 ^ 31 by omega), nI_1, nI_1]
      refine ⟨fun g => ?_, fun g => ?_⟩
      · rw [hf_cnt, if_neg g, Nat.add_zero] at key
        exact key
      · rw [hf_cnt, if_pos g] at key
        exact key
  exact w_X10_manyOf_0 hs (loop w 0 (by omega))
theorem cs_spell {w n : Nat} (hs : hf_Lay t T P) (hw : w < 16) (h5 : I 105 5 = nI w) (hn : n ≤ 400) (hy : sp_ok (I 122) n → Q (some (.int 1)) (t, T, hf_up (sp_M I w n) 109 w (nI n), L, P)) (hno : ¬ sp_ok (I 122) n → ∀ k, (∀ j, j < k → 97 ≤ I 122 j ∧ I 122 j ≤ 122) → Q (some (.int 0)) (t, T, sp_M I w k, L, P)) : hf_G X Y_X10_spell d kk nn 0 (hf_en [.ref 105, .ref 122, .int (nI n)] 4) [] (t, T, I, L, P) Q := by
  have s0 : sp_M I w 0 = I := by
    unfold sp_M
    have : (fun i => if 9 * w ≤ i ∧ i < 9 * w + 0 then I 122 (i - 9 * w) - 97 else I 110 i) = I 110 := funext fun i => if_neg (by omega)
    rw [this, hf_set_self]
  refine w_X10_spell_0 hs ⟨fun g => absurd g (by rw [h5]; exact nI_ge (b := 16) (by omega) (by omega)), fun _ => ⟨fun g => ?_, fun g => ⟨fun g2 => ?_, fun g2 => ?_⟩⟩⟩
  · have := hno (fun q => absurd g (nI_nlt (b := 1) q.1 (by omega))) 0 (fun _ z => absurd z (by omega))
    rw [s0] at this
    exact this
  · have n1 : 1 ≤ n := Nat.not_lt.mp fun q => g (nI_lt (b := 1) q (by omega))
    have n9 : n ≤ 9 := (nI_leI (b := 9) (by omega) (by omega)).mp g2
    have loop : ∀ f i, i + f = n → (∀ j, j < i → 97 ≤ I 122 j ∧ I 122 j ≤ 122) → hf_G X Y_X10_spell d kk nn 24 [some (.ref 105), some (.ref 122), some (.int (nI n)), some (.int (nI i))] [] (t, T, sp_M I w i, L, P) Q := by
      intro f
      induction f with
      | zero =>
        intro i hi ha
        obtain rfl : i = n := by omega
        have e5 : sp_M I w i 105 5 = nI w := h5
        refine w_X10_spell_24 hs ⟨fun _ => ?_, fun q => absurd (nI_le (Nat.le_refl _) (by omega)) q⟩
        rw [e5, nI_clamp (show w < 2 ^ 31 by omega)]
        exact ⟨vp_in_nI (by omega) (by omega), hy ⟨n1, n9, ha⟩⟩
      | succ f ih =>
        intro i hi ha
        have e5 : sp_M I w i 105 5 = nI w := h5
        have e122 : sp_M I w i 122 = I 122 := rfl
        have vi : vp_in (nI i) 400 := vp_in_nI (by omega) (by omega)
        refine w_X10_spell_24 hs ⟨fun q => absurd q (nI_ge (by omega) (by omega)), fun _ => ⟨vi, ?_⟩⟩
        rw [e122, nI_clamp (show i < 2 ^ 31 by omega)]
        refine ⟨fun q => hno (fun z => absurd q (Int32.not_lt.mpr (z.2.2 i (by omega)).1)) i ha, fun q => ⟨vi, fun q2 => ⟨vi, ?_⟩, fun q2 => hno (fun z => absurd (z.2.2 i (by omega)).2 q2) i ha⟩⟩
        obtain ⟨c, c1, c2, c3⟩ := sp_lt (Int32.not_lt.mp q) q2
        rw [c3, e5, show (9 : Int32) = nI 9 from rfl, pk_mul, nI_add, nI_clamp (show w * 9 + i < 2 ^ 31 by omega), nI_1]
        refine ⟨vp_in_nI (by omega) (by omega), ?_⟩
        have key := ih (i + 1) (by omega) (fun j hj => by
          by_cases e : j = i
          · subst e; exact ⟨Int32.not_lt.mp q, q2⟩
          · exact ha j (by omega))
        have e : hf_up (sp_M I w i) 110 (w * 9 + i) (nI c) = sp_M I w (i + 1) := by
          unfold sp_M
          rw [hf_up_set]
          congr 1
          funext j
          unfold upd
          by_cases z : j = w * 9 + i
          · rw [if_pos z, if_pos (by omega), show j - 9 * w = i by omega, c2]
          · rw [if_neg z]
            dsimp only
            by_cases z2 : 9 * w ≤ j ∧ j < 9 * w + i
            · rw [if_pos z2, if_pos (by omega)]
            · rw [if_neg z2, if_neg (by omega)]
        rw [e]
        exact key
    have := loop n 0 (by omega) (fun j hj => by omega)
    rw [s0] at this
    exact this
  · have := hno (fun q => absurd (nI_le (b := 9) q.2.1 (by omega)) g2) 0 (fun _ z => absurd z (by omega))
    rw [s0] at this
    exact this
def wm_J (I : hf_I) (w : Nat) (a b c e : Int32) : hf_I := hf_up (hf_up (hf_up (hf_up I 158 (53 + 13 * w) a) 158 (53 + 13 * w + 1) b) 158 (53 + 13 * w + 2) c) 158 (53 + 13 * w + 3) e
def wm_M (J : hf_I) (w n k : Nat) : hf_I := hf_set J 158 (fun i => if 53 + 13 * w + 4 ≤ i ∧ i < 53 + 13 * w + 4 + k then (if i - (53 + 13 * w + 4) < n then J 163 (i - (53 + 13 * w + 4)) - 97 else 0) else J 158 i)
theorem ms_word {a b c : Int32} {w n : Nat} (hs : hf_Lay t T P) (hw : w ≤ 16) (hn : n ≤ 400) (g1 : ¬ a < 0) (g2 : ¬ 7 < a) (g3 : ¬ b < 0) (g4 : ¬ 99 < b) (g5 : ¬ c < 0) (g6 : ¬ 10 < c) (h316 : I 158 316 = nI w) (h10 : I 156 10 = nI n)
    (h3 : hf_cnt (fun i => I 158 (53 + 13 * i)) a w = 3 → Q (some (.int (-3))) (t, T, hf_up (hf_up (hf_up I 156 10 0) 156 0 (-3)) 157 3 (I 157 3 + 1), L, P))
    (h5 : ¬ hf_cnt (fun i => I 158 (53 + 13 * i)) a w = 3 → w = 16 → Q (some (.int (-5))) (t, T, hf_up (hf_up (hf_up I 156 10 0) 156 0 (-5)) 157 5 (I 157 5 + 1), L, P))
    (h6 : ¬ hf_cnt (fun i => I 158 (53 + 13 * i)) a w = 3 → w < 16 → ¬ sp_ok (I 163) n → Q (some (.int (-6))) (t, T, hf_up (hf_up (hf_up I 156 10 0) 156 0 (-6)) 157 6 (I 157 6 + 1), L, P))
    (h0 : ¬ hf_cnt (fun i => I 158 (53 + 13 * i)) a w = 3 → w < 16 → sp_ok (I 163) n → Q (some (.int (nI w))) (t, T, hf_up (hf_up (wm_M (wm_J (hf_up I 156 10 0) w a b c (nI n)) w n 9) 158 316 (nI w + 1)) 156 0 0, L, P)) :
    hf_G X Y_X12_word (d + 1) kk nn 0 (hf_en [.ref 156, .int a, .int b, .int c] 10) [] (t, T, I, L, P) Q := by
  have letters : ∀ J : hf_I, J 158 316 = nI w → w < 16 → n ≤ 9 → Q (some (.int (nI w))) (t, T, hf_up (hf_up (wm_M J w n 9) 158 316 (nI w + 1)) 156 0 0, L, P) → hf_G X Y_X12_word (d + 1) kk nn 237 [some (.ref 156), none, none, none, some (.int (nI n)), some (.int (nI w)), none, none, some (.int (53 + (13 * nI w))), some (.int (nI 0))] [] (t, T, J, L, P) Q := by
    intro J hJ hw6 hn9 hQ
    have e316 : ∀ k, k ≤ 9 → wm_M J w n k 158 316 = nI w := by
      intro k hk
      show (if 53 + 13 * w + 4 ≤ 316 ∧ 316 < 53 + 13 * w + 4 + k then _ else J 158 316) = nI w
      rw [if_neg (by omega), hJ]
    have loop : ∀ f i, i + f = 9 → hf_G X Y_X12_word (d + 1) kk nn 237 [some (.ref 156), none, none, none, some (.int (nI n)), some (.int (nI w)), none, none, some (.int (53 + (13 * nI w))), some (.int (nI i))] [] (t, T, wm_M J w n i, L, P) Q := by
      intro f
      induction f with
      | zero =>
        intro i hi
        obtain rfl : i = 9 := by omega
        refine w_X12_word_237 hs ⟨fun _ => ?_, fun q => absurd (by decide) q⟩
        rw [e316 9 (by omega)]
        exact hQ
      | succ f ih =>
        intro i hi
        have key := ih (i + 1) (by omega)
        have vi : vp_in (nI (53 + 13 * w + 4 + i)) 5929 := vp_in_nI (by omega) (by omega)
        have e163 : wm_M J w n i 163 = J 163 := rfl
        have st : ∀ v, v = (if i < n then J 163 i - 97 else 0) → hf_up (wm_M J w n i) 158 (53 + 13 * w + 4 + i) v = wm_M J w n (i + 1) := by
          intro v hv
          unfold wm_M
          rw [hf_up_set]
          congr 1
          funext j
          unfold upd
          by_cases z : j = 53 + 13 * w + 4 + i
          · rw [if_pos z, if_pos (by omega), show j - (53 + 13 * w + 4) = i by omega, hv]
          · rw [if_neg z]
            dsimp only
            by_cases z2 : 53 + 13 * w + 4 ≤ j ∧ j < 53 + 13 * w + 4 + i
            · rw [if_pos z2, if_pos (show 53 + 13 * w + 4 ≤ j ∧ j < 53 + 13 * w + 4 + (i + 1) by omega)]
            · rw [if_neg z2, if_neg (by omega)]
        refine w_X12_word_237 hs ⟨fun q => absurd q (nI_ge (b := 9) (by omega) (by omega)), fun _ => ?_⟩
        rw [hf_wi4', nI_add, nI_clamp (show 53 + 13 * w + 4 + i < 2 ^ 31 by omega), nI_1, e163, nI_clamp (show i < 2 ^ 31 by omega)]
        refine ⟨fun q => ⟨vi, ?_⟩, fun q => ⟨vp_in_nI (by omega) (by omega), vi, ?_⟩⟩
        · rw [st _ (by rw [if_neg (by have := (nI_leI (show n < 2 ^ 31 by omega) (show i < 2 ^ 31 by omega)).mp q; omega)])]
          exact key
        · rw [st _ (by rw [if_pos (Nat.not_le.mp fun z => q (nI_le z (show i < 2 ^ 31 by omega)))])]
          exact key
    have e0 : wm_M J w n 0 = J := by
      unfold wm_M
      have : (fun i => if 53 + 13 * w + 4 ≤ i ∧ i < 53 + 13 * w + 4 + 0 then (if i - (53 + 13 * w + 4) < n then J 163 (i - (53 + 13 * w + 4)) - 97 else 0) else J 158 i) = J 158 := funext fun i => if_neg (by omega)
      rw [this, hf_set_self]
    have := loop 9 0 (by omega)
    rw [e0] at this
    exact this
  have bad : ∀ (i : Nat), (¬ hf_cnt (fun i => I 158 (53 + 13 * i)) a w = 3) → w < 16 → ¬ sp_ok (I 163) n → hf_G X Y_X12_word (d + 1) kk nn 137 [some (.ref 156), some (.int a), some (.int b), some (.int c), some (.int (nI n)), some (.int (nI w)), none, some (.int 0), some (.int (nI i)), none] [] (t, T, hf_up I 156 10 0, L, P) Q := by
    intro i h1 h2 h4
    have := h6 h1 h2 h4
    exact w_X12_word_137 hs ⟨fun _ => ⟨fun q => absurd rfl q, fun _ => this⟩, fun _ => ⟨fun _ => ⟨fun q => absurd rfl q, fun _ => this⟩, fun q => absurd rfl q⟩⟩
  have good : ∀ (f i : Nat), i + f = n → (¬ hf_cnt (fun i => I 158 (53 + 13 * i)) a w = 3) → w < 16 → 1 ≤ n → n ≤ 9 → (∀ j, j < i → 97 ≤ I 163 j ∧ I 163 j ≤ 122) → hf_G X Y_X12_word (d + 1) kk nn 137 [some (.ref 156), some (.int a), some (.int b), some (.int c), some (.int (nI n)), some (.int (nI w)), none, some (.int 1), some (.int (nI i)), none] [] (t, T, hf_up I 156 10 0, L, P) Q := by
    intro f
    induction f with
    | zero =>
      intro i hi h1 h2 n1 n9 ha
      obtain rfl : i = n := by omega
      refine w_X12_word_137 hs ⟨fun _ => ⟨fun _ => ?_, fun q => absurd q (by decide)⟩, fun q => absurd (nI_le (Nat.le_refl _) (by omega)) q⟩
      rw [hf_wi0, hf_wi1, hf_wi2, hf_wi3, nI_clamp (show 53 + 13 * w < 2 ^ 31 by omega), nI_clamp (show 53 + 13 * w + 1 < 2 ^ 31 by omega), nI_clamp (show 53 + 13 * w + 2 < 2 ^ 31 by omega), nI_clamp (show 53 + 13 * w + 3 < 2 ^ 31 by omega)]
      refine ⟨vp_in_nI (by omega) (by omega), vp_in_nI (by omega) (by omega), vp_in_nI (by omega) (by omega), vp_in_nI (by omega) (by omega), ?_⟩
      refine letters (wm_J (hf_up I 156 10 0) w a b c (nI i)) ?_ h2 n9 (h0 h1 h2 ⟨n1, n9, ha⟩)
      show upd (upd (upd (upd (I 158) (53 + 13 * w) a) (53 + 13 * w + 1) b) (53 + 13 * w + 2) c) (53 + 13 * w + 3) (nI i) 316 = nI w
      rw [hf_upd_ne (by omega), hf_upd_ne (by omega), hf_upd_ne (by omega), hf_upd_ne (by omega), h316]
    | succ f ih =>
      intro i hi h1 h2 n1 n9 ha
      refine w_X12_word_137 hs ⟨fun q => absurd q (nI_ge (by omega) (by omega)), fun _ => ⟨fun q => absurd q (by decide), fun _ => ⟨vp_in_nI (by omega) (by omega), ?_⟩⟩⟩
      have e163 : hf_up I 156 10 0 163 = I 163 := rfl
      rw [e163, nI_clamp (show i < 2 ^ 31 by omega), nI_1]
      refine ⟨fun q => ?_, fun q => ⟨fun q2 => ?_, fun q2 => ?_⟩⟩
      · exact bad (i + 1) h1 h2 (fun z => absurd q (Int32.not_lt.mpr (z.2.2 i (by omega)).1))
      · exact bad (i + 1) h1 h2 (fun z => absurd q2 (Int32.not_lt.mpr (z.2.2 i (by omega)).2))
      · exact ih (i + 1) (by omega) h1 h2 n1 n9 (fun j hj => by
          by_cases e : j = i
          · subst e; exact ⟨Int32.not_lt.mp q, Int32.not_lt.mp q2⟩
          · exact ha j (by omega))
  have many : ∀ f i, i + f = w → hf_G X Y_X12_word (d + 1) kk nn 63 [some (.ref 156), some (.int a), some (.int b), some (.int c), some (.int (nI n)), some (.int (nI w)), some (.int (nI (hf_cnt (fun i => I 158 (53 + 13 * i)) a i))), some (.int (nI i)), none, none] [] (t, T, hf_up I 156 10 0, L, P) Q := by
    intro f
    induction f with
    | zero =>
      intro i hi
      obtain rfl : i = w := by omega
      have cl := hf_cnt_le (fun i => I 158 (53 + 13 * i)) a i
      have e3 : (nI (hf_cnt (fun i => I 158 (53 + 13 * i)) a i) = 3) ↔ hf_cnt (fun i => I 158 (53 + 13 * i)) a i = 3 := nI_eq (b := 3) (by omega) (by omega)
      have e16 : (nI i = 16) ↔ i = 16 := nI_eq (b := 16) (by omega) (by omega)
      refine w_X12_word_63 hs ⟨fun _ => ⟨fun q => ?_, fun q => h3 (e3.mp q)⟩, fun q => absurd (nI_le (Nat.le_refl _) (by omega)) q⟩
      rw [e3] at q
      refine ⟨fun q2 => ?_, fun q2 => h5 q (e16.mp q2)⟩
      rw [e16] at q2
      have hi16 : i < 16 := by omega
      refine ⟨fun q3 => bad 0 q hi16 (fun z => absurd q3 (nI_nlt (b := 1) z.1 (by omega))), fun q3 => ⟨fun q4 => bad 0 q hi16 (fun z => absurd q4 (nI_nlt (a := 9) z.2.1 (by omega))), fun q4 => ?_⟩⟩
      exact good n 0 (by omega) q hi16 (Nat.not_lt.mp fun z => q3 (nI_lt (b := 1) z (by omega))) (Nat.not_lt.mp fun z => q4 (nI_lt (a := 9) z (by omega))) (fun j hj => by omega)
    | succ f ih =>
      intro i hi
      have key := ih (i + 1) (by omega)
      refine w_X12_word_63 hs ⟨fun q => absurd q (nI_ge (by omega) (by omega)), fun _ => ?_⟩
      rw [hf_wi0, nI_clamp (show 53 + 13 * i < 2 ^ 31 by omega), nI_1, nI_1, Int32.add_zero]
      refine ⟨vp_in_nI (by omega) (by omega), fun q => ?_, fun q => ?_⟩
      · rw [hf_cnt, if_neg (show ¬ (fun i => I 158 (53 + 13 * i)) i = a from q), Nat.add_zero] at key
        exact key
      · rw [hf_cnt, if_pos (show (fun i => I 158 (53 + 13 * i)) i = a from q)] at key
        exact key
  refine w_X12_word_0 hs ⟨fun q => absurd q g1, fun _ => ⟨fun q => absurd q g2, fun _ => ⟨fun q => absurd q g3, fun _ => ⟨fun q => absurd q g4, fun _ => ⟨fun q => absurd q g5, fun _ => ⟨fun q => absurd q g6, fun _ => ?_⟩⟩⟩⟩⟩⟩
  rw [h316, h10]
  exact many w 0 (by omega)
end WORD
section OPS
variable {SL : Nat → hf_T → hf_P → (Nat → Nat → Int32) → Int32 → (Nat → Int32) → (Nat → Int32) → (Nat → Int32) → Prop} {CC : Int32 → Int32 → Int32 → Int32 → Int32 → Int32 → (Nat → Int32) → (Nat → Int32) → Int32 → (Nat → Int32) → (Nat → Int32) → (Nat → Int32) → (Nat → Int32) → (Nat → Int32) → (Nat → Int32) → (Nat → Int32) → (Nat → Nat → Int32) → hf_P → Int64 → Int64 → Int32 → Int32 → Prop}
variable {X : hf_X} {d N t : Nat} {T : hf_T} {I I2 : hf_I} {L : hf_L} {P : hf_P}
theorem sim_wno {w q q2 : Nat} {z : Int32} {l : Nat → Int32} (hCC : hf_CCl CC) (hw : w ≤ 16) (h5 : I 105 5 = nI w) (hl : ∀ j, j < 9 * w → l j = I 110 j) (hby : S_by l) (hq : (q, q2) = (0, 1) ∨ (q, q2) = (1, 2) ∨ (q, q2) = (2, 3) ∨ (q, q2) = (3, 5) ∨ (q, q2) = (4, 6)) (h : hf_Sim SL CC N t T I L P) :
    hf_Sim SL CC (N + 1) t T (hf_up (hf_up (hf_up (hf_up (hf_up (hf_set (hf_up I 100 13 0) 110 l) 100 15 z) 155 q (I 155 q + 1)) 156 10 0) 156 0 z) 157 q2 (I 157 q2 + 1)) L P := by
  obtain ⟨m1, m2, m3, m4, m5⟩ := h.2.1
  obtain ⟨u1, u2, u3, u4, u5, u6, u7⟩ := h.2.2.1
  refine sim_mk0 h ⟨m1, m2, m3, S_wd_lt hw h5 hl hby m4, m5⟩ ⟨u1, ⟨0, by omega, rfl, rfl, fun j hj => by omega⟩, u3, u4, rfl, rf_up hq u6, u7⟩ rfl rfl (fun e => ?_) (fun a => by rw [hf_upJ (by omega), hf_upJ (by omega), hf_upJ (by omega), hf_upJ (by omega), hf_upJ (by omega), hf_setJ (by omega), hf_upJ (by omega)]) rfl (fun i => rfl) rfl rfl
  have := h.2.2.2.2.1 e
  rw [h5] at this
  show CC (I 101 12) (I 101 13) (I 101 14) (I 101 15) (I 101 16) (I 101 17) (I 102) (I 104) (I 105 5) (I 106) (I 107) (I 108) (I 109) l (I 112) (I 113) (fun a => I (181 + a)) P (L 136 16) (L 136 19) (I 136 17) (I 136 18)
  rw [h5]
  exact hCC hw hl this
set_option maxHeartbeats 1000000 in
theorem op_word {a b e : Int32} (hCC : hf_CCl CC) (hN : N ≤ 100000) (h : hf_Sim SL CC N t T I L P) : hf_Pair X Y_X11_word Y_X12_word [.int a, .int b, .int e] (d + 2) 0 0 (t, T, I, L, P) (hf_SimM SL CC (N + 1)) := by
  have hs := h.1
  obtain ⟨m1, m2, m3, ⟨w, w1, w2, w3, w4, w5⟩, m5, m6, m7, m8, m9, m10⟩ := h.2.1
  obtain ⟨u1, ⟨n, n1, n2, n3, n4⟩, u3, u4, u5, u6, u7⟩ := h.2.2.1
  refine w_X11_word_0 hs ⟨fun c1 => ?_, fun c1 => ⟨fun c2 => ?_, fun c2 => ⟨fun c3 => ?_, fun c3 => ⟨fun c4 => ?_, fun c4 => ⟨fun c5 => ?_, fun c5 => ⟨fun c6 => ?_, fun c6 => ?_⟩⟩⟩⟩⟩⟩
  iterate 6
    · refine ⟨_, rfl, w_X12_word_0 (d := d + 1) hs ⟨fun q1 => ?_, fun q1 => ⟨fun q2 => ?_, fun q2 => ⟨fun q3 => ?_, fun q3 => ⟨fun q4 => ?_, fun q4 => ⟨fun q5 => ?_, fun q5 => ⟨fun q6 => ?_, fun q6 => ?_⟩⟩⟩⟩⟩⟩⟩ <;> first | contradiction | exact ⟨rfl, sim_refuse (Or.inl rfl) h⟩
  have ec : hf_cnt (fun i => I 158 (53 + 13 * i)) a w = hf_cnt (I 106) a w := hf_cnt_congr fun j hj => (w4 j hj).1.1.symm
  have c3' := w5.1 a
  have eok : sp_ok (I 163) n ↔ sp_ok (I 122) n := by
    unfold sp_ok
    refine and_congr Iff.rfl (and_congr Iff.rfl (forall_congr' fun j => forall_congr' fun hj => ?_))
    rw [(n4 j hj).1]
  have l0 : ∀ J : hf_I, hf_set J 110 (J 110) = J := fun J => hf_set_self
  refine cs_manyOf (d := d + 1) hs w1 w2 ?_
  rw [n2]
  refine w_X11_word_62 hs ⟨fun q => ?_, fun q => ?_⟩
  · have q' : hf_cnt (I 106) a w < 3 := Nat.not_le.mp fun z => absurd q (nI_nlt (a := hf_cnt (I 106) a w) (b := 3) z (by omega))
    refine ⟨fun g => ?_, fun g => ?_⟩
    · have w16 : w < 16 := (nI_ltI (b := 16) (by omega) (by omega)).mp (by rw [show hf_up I 100 13 0 105 5 = I 105 5 from rfl, w2] at g; exact g)
      refine cs_spell (d := d + 1) hs w16 w2 n1 (fun ok => ?_) (fun ok k okk => ?_)
      · refine w_X11_word_101 hs ⟨fun _ => w_X10_add_0 (d := d + 1) hs ⟨fun _ => ?_, fun z => absurd (show I 105 5 < 16 from g) z⟩, fun z => absurd z (by decide)⟩
        have e5 : hf_up (sp_M (hf_up I 100 13 0) w n) 109 w (nI n) 105 5 = nI w := w2
        rw [e5, nI_clamp (show w < 2 ^ 31 by omega)]
        have vw : vp_in (nI w) 16 := vp_in_nI (by omega) (by omega)
        refine ⟨vw, vw, vw, w_X11_word_120 (d := d + 1) hs ⟨_, rfl, ms_word (d := d + 1) hs w1 n1 c1 c2 c3 c4 c5 c6 w3 n3 (fun z => absurd (ec.symm.trans z) (by omega)) (fun _ z => absurd z (by omega)) (fun _ _ z => absurd (eok.mpr ok) z) (fun _ _ _ => ⟨?_, ?_⟩)⟩⟩
        · rw [Int32.add_sub_cancel]
        · have hle : I 105 5 ≤ nI w + 1 := by rw [w2, nI_1]; exact nI_le (by omega) (by omega)
          generalize hKK : upd (fun i => if 53 + 13 * w + 4 ≤ i ∧ i < 53 + 13 * w + 4 + 9 then (if i - (53 + 13 * w + 4) < n then I 163 (i - (53 + 13 * w + 4)) - 97 else 0) else upd (upd (upd (upd (I 158) (53 + 13 * w) a) (53 + 13 * w + 1) b) (53 + 13 * w + 2) e) (53 + 13 * w + 3) (nI n) i) 316 (nI w + 1) = K
          have hk : ∀ i, ¬ (53 + 13 * w ≤ i ∧ i < 53 + 13 * w + 13 ∨ i = 316) → K i = I 158 i := fun i hi => by
            rw [← hKK, hf_upd_ne (by omega), if_neg (by omega), hf_upd_ne (by omega), hf_upd_ne (by omega), hf_upd_ne (by omega), hf_upd_ne (by omega)]
          have K0 : K (53 + 13 * w) = a := by rw [← hKK, hf_upd_ne (by omega), if_neg (by omega), hf_upd_ne (by omega), hf_upd_ne (by omega), hf_upd_ne (by omega), hf_upd_eq]
          have K1 : K (53 + 13 * w + 1) = b := by rw [← hKK, hf_upd_ne (by omega), if_neg (by omega), hf_upd_ne (by omega), hf_upd_ne (by omega), hf_upd_eq]
          have K2 : K (53 + 13 * w + 2) = e := by rw [← hKK, hf_upd_ne (by omega), if_neg (by omega), hf_upd_ne (by omega), hf_upd_eq]
          have K3 : K (53 + 13 * w + 3) = nI n := by rw [← hKK, hf_upd_ne (by omega), if_neg (by omega), hf_upd_eq]
          have K6 : K 316 = nI (w + 1) := by rw [← hKK, hf_upd_eq, nI_1]
          have nq := ok.2.1
          have Kl : ∀ q, q < n → ∃ c, c ≤ 25 ∧ sp_M (hf_up I 100 13 0) w n 110 (9 * w + q) = nI c ∧ K (53 + 13 * w + (4 + q)) = nI c := fun q hq => by
            obtain ⟨z1, z2⟩ := ok.2.2 q hq
            obtain ⟨c, y1, y2, -⟩ := sp_lt z1 z2
            refine ⟨c, y1, ?_, ?_⟩
            · show (if 9 * w ≤ 9 * w + q ∧ 9 * w + q < 9 * w + n then I 122 (9 * w + q - 9 * w) - 97 else I 110 (9 * w + q)) = nI c
              rw [if_pos (by omega), Nat.add_sub_cancel_left]
              exact y2
            · rw [← hKK, hf_upd_ne (by omega), if_pos (by omega), if_pos (by omega), show 53 + 13 * w + (4 + q) - (53 + 13 * w + 4) = q by omega, ← (n4 q hq).1]
              exact y2
          have hS : hf_up (hf_up (wm_M (wm_J (hf_up (hf_up (hf_up (hf_up (hf_up (hf_up (hf_up (hf_up (sp_M (hf_up I 100 13 0) w n) 109 w (nI n)) 106 w a) 107 w b) 108 w e) 105 5 (nI w + 1)) 100 15 0) 100 16 (I 100 16 + 1)) 156 10 0) w a b e (nI n)) w n 9) 158 316 (nI w + 1)) 156 0 0 = hf_up (hf_up (hf_set (hf_up (hf_up (hf_up (hf_up (hf_up (hf_up (hf_up (sp_M (hf_up I 100 13 0) w n) 109 w (nI n)) 106 w a) 107 w b) 108 w e) 105 5 (nI w + 1)) 100 15 0) 100 16 (I 100 16 + 1)) 158 K) 156 10 0) 156 0 0 := by
            funext x
            by_cases hx : x = 158
            · subst hx
              rw [← hKK]
              rfl
            · simp [hf_up, hf_set, wm_M, wm_J, hx]
          show hf_Sim SL CC (N + 1) t T (hf_up (hf_up (wm_M (wm_J (hf_up (hf_up (hf_up (hf_up (hf_up (hf_up (hf_up (hf_up (sp_M (hf_up I 100 13 0) w n) 109 w (nI n)) 106 w a) 107 w b) 108 w e) 105 5 (nI w + 1)) 100 15 0) 100 16 (I 100 16 + 1)) 156 10 0) w a b e (nI n)) w n 9) 158 316 (nI w + 1)) 156 0 0) L P
          rw [hS]
          refine sim_mk hN h ⟨S_br_fr (fun i _ _ => hk i (by omega)) m1, S_wo_fr (fun i _ _ => hk i (by omega)) m2, S_tm_fr (fun i _ _ => hk i (by omega)) m3, S_wd_add (h.2.1.2.2.2.1) (by_M w5.2 ok.2.2) w2 (nI_1 w) w16 c1 c2 c3 c4 c5 c6 q' ok.1 nq K0 K1 K2 K3 Kl (fun i _ _ => hk i (by omega)) K6 (fun j hj => if_neg (by omega)), S_sy_fr (fun i _ _ => hk i (by omega)) (hk 317 (by omega)) m5, fun j hj => ?_, S_h1_mono hle (S_h1_fr (fun i _ => hk i (by omega)) m7), S_se_fr (fun i _ _ => hk i (by omega)) (hk 318 (by omega)) m8, S_ma_fr (fun i _ _ => hk i (by omega)) (hk 319 (by omega)) m9, S_lf_fr (fun i _ _ => hk i (by omega)) m10⟩ ⟨S_ud_mono hle u1, ⟨0, by omega, rfl, rfl, fun j hj => by omega⟩, u3, u4, rfl, u6, u7⟩ rfl rfl (fun a => ?_) rfl (fun i => hk (322 + i) (by omega)) rfl rfl
          · obtain ⟨z1, z2, z3⟩ := m6 j hj
            exact ⟨z1.trans (hk (275 + j) (by omega)).symm, z2, Int32.lt_of_lt_of_le z3 hle⟩
          · rw [hf_upJ (by omega), hf_upJ (by omega), hf_setJ (by omega), hf_upJ (by omega), hf_upJ (by omega), hf_upJ (by omega), hf_upJ (by omega), hf_upJ (by omega), hf_upJ (by omega), hf_upJ (by omega)]
            unfold sp_M
            rw [hf_setJ (by omega), hf_upJ (by omega)]
      · refine w_X11_word_101 hs ⟨fun z => absurd rfl z, fun _ => ⟨_, rfl, ms_word (d := d + 1) hs w1 n1 c1 c2 c3 c4 c5 c6 w3 n3 (fun z => absurd (ec.symm.trans z) (by omega)) (fun _ z => absurd z (by omega)) (fun _ _ _ => ⟨rfl, sim_wno hCC w1 w2 (fun j hj => ?_) (by_M w5.2 okk) (Or.inr (Or.inr (Or.inr (Or.inr rfl)))) h⟩) (fun _ _ z => absurd (eok.mp z) ok)⟩⟩
        exact if_neg (by omega)
    · have w16 : w = 16 := by
        have : 16 ≤ w := Nat.not_lt.mp fun z => g (by show I 105 5 < 16; rw [w2]; exact nI_lt (b := 16) z (by omega))
        omega
      refine ⟨_, rfl, ms_word (d := d + 1) hs w1 n1 c1 c2 c3 c4 c5 c6 w3 n3 (fun z => absurd (ec.symm.trans z) (by omega)) (fun _ _ => ⟨rfl, ?_⟩) (fun _ z => absurd z (by omega)) (fun _ z => absurd z (by omega))⟩
      have := sim_wno (z := -5) hCC w1 w2 (fun j _ => rfl) w5.2 (Or.inr (Or.inr (Or.inr (Or.inl rfl)))) h
      rw [show hf_set (hf_up I 100 13 0) 110 (fun j => I 110 j) = hf_up I 100 13 0 from l0 _] at this
      exact this
  · have q' : hf_cnt (I 106) a w = 3 := by
      have : 3 ≤ hf_cnt (I 106) a w := Nat.not_lt.mp fun z => q (nI_lt (b := 3) z (by omega))
      omega
    refine ⟨_, rfl, ms_word (d := d + 1) hs w1 n1 c1 c2 c3 c4 c5 c6 w3 n3 (fun _ => ⟨rfl, ?_⟩) (fun z => absurd (ec.trans q') z) (fun z => absurd (ec.trans q') z) (fun z => absurd (ec.trans q') z)⟩
    have := sim_wno (z := -3) hCC w1 w2 (fun j _ => rfl) w5.2 (Or.inr (Or.inr (Or.inl rfl))) h
    rw [show hf_set (hf_up I 100 13 0) 110 (fun j => I 110 j) = hf_up I 100 13 0 from l0 _] at this
    exact this
end OPS
