/-! breadths of words and lines, on both sides -/
theorem hf_c13 (i : Nat) : (13 : Int32) * nI i = nI (13 * i) := by rw [show (13 : Int32) = nI 13 from rfl, pk_mul]
theorem hf_c9 (i : Nat) : nI i * (9 : Int32) = nI (9 * i) := by rw [show (9 : Int32) = nI 9 from rfl, pk_mul, Nat.mul_comm]
theorem hf_cadd (a i : Nat) : Int32.ofNat a + nI i = nI (a + i) := nI_add a i
theorem hf_wi3 (i : Nat) : (53 + (13 * nI i)) + 3 = nI (53 + 13 * i + 3) := by rw [hf_c13, show (53 : Int32) = nI 53 from rfl, show (3 : Int32) = nI 3 from rfl, nI_add, nI_add]
theorem hf_wi4 (i q : Nat) : (53 + (13 * nI i)) + (4 + nI q) = nI (53 + 13 * i + 4 + q) := by rw [hf_c13, show (53 : Int32) = nI 53 from rfl, show (4 : Int32) = nI 4 from rfl, nI_add, nI_add, nI_add, Nat.add_assoc (53 + 13 * i)]
theorem hf_wi4' (i : Nat) : (53 + (13 * nI i)) + 4 = nI (53 + 13 * i + 4) := by rw [hf_c13, show (53 : Int32) = nI 53 from rfl, show (4 : Int32) = nI 4 from rfl, nI_add, nI_add]
theorem hf_i26 (c : Nat) : 26 + nI c = nI (26 + c) := by rw [show (26 : Int32) = nI 26 from rfl, nI_add]
theorem hf_i12 (c : Nat) : 12 + nI c = nI (12 + c) := by rw [show (12 : Int32) = nI 12 from rfl, nI_add]
theorem hf_i0 (c : Nat) : 0 + nI c = nI c := by rw [show (0 : Int32) = nI 0 from rfl, nI_add, Nat.zero_add]
theorem hf_i275 (c : Nat) : 275 + nI c = nI (275 + c) := by rw [show (275 : Int32) = nI 275 from rfl, nI_add]
def hf_lw (br : Nat → Int32) (sz l : Int32) : Int32 := br l.toNatClampNeg * (sz + 2) / 2
def hf_bl (br : Nat → Int32) (sz : Int32) : Int32 := br 26 * (sz + 2) / 2
def hf_ww (br lt : Nat → Int32) (sz : Int32) : Nat → Int32
  | 0 => 0
  | m + 1 => hf_ww br lt sz m + hf_lw br sz (lt m)
/-- a WORD's letters are such -/
def hf_wok (le : Int32) (lt : Nat → Int32) : Prop := ∃ m, m ≤ 9 ∧ le = nI m ∧ ∀ q, q < m → ∃ c, c ≤ 25 ∧ lt q = nI c
def hf_wd (br : Nat → Int32) (sz le : Int32) (lt : Nat → Int32) : Int32 := hf_ww br lt sz le.toNatClampNeg
theorem hf_ww_congr {br br' lt lt' : Nat → Int32} {sz : Int32} : ∀ {m : Nat}, (∀ q, q < m → lt q = lt' q ∧ ∃ c, c ≤ 25 ∧ lt q = nI c) → (∀ j, j < 27 → br j = br' j) → hf_ww br lt sz m = hf_ww br' lt' sz m := by
  intro m
  induction m with
  | zero => intro _ _; rfl
  | succ m ih =>
    intro h hb
    obtain ⟨h1, c, hc, h2⟩ := h m (by omega)
    rw [hf_ww, hf_ww, ih (fun q hq => h q (by omega)) hb, ← h1, hf_lw, hf_lw, h2, nI_clamp (by omega), hb c (by omega)]
section LEAF
variable {X : hf_X} {d k n t : Nat} {T : hf_T} {I : hf_I} {L : hf_L} {P : hf_P} {Q : Option Value → hf_M → Prop}
theorem sp_X1_wordWidth {i : Nat} {sz : Int32} (hs : hf_Lay t T P) (hi : i < 16) (hw : hf_wok (I 109 i) (fun q => I 110 (9 * i + q))) (h : Q (some (.int (hf_wd (I 102) sz (I 109 i) (fun q => I 110 (9 * i + q))))) (t, T, I, L, P)) : hf_G X Y_X1_wordWidth (d + 1) k n 0 (hf_en [.ref 101, .int (nI i), .int sz] 6) [] (t, T, I, L, P) Q := by
  obtain ⟨m, hm, hle, hlt⟩ := hw
  unfold hf_wd at h
  rw [hle, nI_clamp (by omega)] at h
  have loop : ∀ r q, q + r = m → hf_G X Y_X1_wordWidth (d + 1) k n 11 [some (.ref 101), some (.int (nI i)), some (.int sz), some (.int (hf_ww (I 102) (fun q => I 110 (9 * i + q)) sz q)), some (.int (nI i * 9)), some (.int (nI q))] [] (t, T, I, L, P) Q := by
    intro r
    induction r with
    | zero =>
      intro q hq
      have e : q = m := by omega
      subst e
      refine w_X1_wordWidth_11 hs ⟨vp_in_nI hi (by omega), fun _ => h, fun hc => absurd ?_ hc⟩
      rw [nI_clamp (by omega), hle]
      exact nI_le (Nat.le_refl _) (by omega)
    | succ r ih =>
      intro q hq
      obtain ⟨c, hc, hl⟩ := hlt q (by omega)
      replace hl : I 110 (9 * i + q) = nI c := hl
      have e1 : nI i * 9 + nI q = nI (9 * i + q) := by rw [hf_c9, nI_add]
      refine w_X1_wordWidth_11 hs ⟨vp_in_nI hi (by omega), fun hc => absurd hc ?_, fun _ => ?_⟩
      · rw [nI_clamp (by omega), hle]
        exact nI_ge (by omega) (by omega)
      · rw [e1]
        refine ⟨vp_in_nI (by omega) (by omega), ?_⟩
        rw [nI_clamp (by omega)]
        refine ⟨by rw [hl]; exact vp_in_nI (by omega) (by omega), ?_⟩
        rw [nI_1]
        exact ih (q + 1) (by omega)
  exact w_X1_wordWidth_0 hs (loop m 0 (by omega))
/-- what of the places on a line is summed -/
def hf_lws (ww l : Nat → Int32) (x : Int32) : Nat → Int32
  | 0 => 0
  | n + 1 => if l n = x then hf_lws ww l x n + ww n else hf_lws ww l x n
def hf_li (s : Int32) (c : Nat) (bl : Int32) : Int32 := s + nI (c - 1) * bl
theorem hf_lws_congr {ww ww' l l' : Nat → Int32} {x : Int32} : ∀ {n : Nat}, (∀ j, j < n → l j = l' j ∧ ww j = ww' j) → hf_lws ww l x n = hf_lws ww' l' x n := by
  intro n
  induction n with
  | zero => intro _; rfl
  | succ n ih =>
    intro h
    rw [hf_lws, hf_lws, ih (fun j hj => h j (by omega)), (h n (by omega)).1, (h n (by omega)).2]
theorem hf_max1 {c : Nat} (hc : c < 2 ^ 30) : (if 0 < nI c - 1 then nI c - 1 else 0) = nI (c - 1) := by
  cases c with
  | zero => decide
  | succ c =>
    rw [nI_pred, Nat.add_sub_cancel]
    cases c with
    | zero => decide
    | succ c => rw [if_pos]; exact nI_lt (a := 0) (by omega) (by omega)
theorem sp_X1_lineWidth {line : Int32} {c : Nat} (hs : hf_Lay t T P) (hc : c ≤ 12) (hn : I 114 2 = nI c) (hw : ∀ j, j < c → ∃ i, i < 16 ∧ I 115 j = nI i ∧ hf_wok (I 109 i) (fun q => I 110 (9 * i + q)))
    (h : Q (some (.int (hf_li (hf_lws (fun j => hf_wd (I 102) (I 101 14) (I 109 (I 115 j).toNatClampNeg) (fun q => I 110 (9 * (I 115 j).toNatClampNeg + q))) (I 116) line c) (hf_cnt (I 116) line c) (hf_bl (I 102) (I 101 14))))) (t, T, I, L, P)) : hf_G X Y_X1_lineWidth (d + 2) k n 0 (hf_en [.ref 101, .int line] 5) [] (t, T, I, L, P) Q := by
  have loop : ∀ r j, j + r = c → hf_G X Y_X1_lineWidth (d + 2) k n 7 [some (.ref 101), some (.int line), some (.int (hf_lws (fun j => hf_wd (I 102) (I 101 14) (I 109 (I 115 j).toNatClampNeg) (fun q => I 110 (9 * (I 115 j).toNatClampNeg + q))) (I 116) line j)), some (.int (nI (hf_cnt (I 116) line j))), some (.int (nI j))] [] (t, T, I, L, P) Q := by
    intro r
    induction r with
    | zero =>
      intro j hj
      have e : j = c := by omega
      subst e
      refine w_X1_lineWidth_7 (d := d + 1) hs ⟨fun _ => ?_, fun hq => absurd (by rw [hn]; exact nI_le (Nat.le_refl _) (by omega)) hq⟩
      have := hf_cnt_le (I 116) line j
      rw [hf_max1 (by omega)]
      exact h
    | succ r ih =>
      intro j hj
      obtain ⟨i, hi, he, hok⟩ := hw j (by omega)
      refine w_X1_lineWidth_7 (d := d + 1) hs ⟨fun hq => absurd hq (by rw [hn]; exact nI_ge (by omega) (by omega)), fun _ => ⟨vp_in_nI (by omega) (by omega), fun heq => ⟨vp_in_nI (by omega) (by omega), ?_⟩, fun hne => ?_⟩⟩
      · rw [nI_clamp (by omega)] at heq ⊢
        have := ih (j + 1) (by omega)
        rw [hf_lws, if_pos heq, hf_cnt, if_pos heq, ← nI_1, ← nI_1] at this
        simp only [he, nI_clamp (show i < 2 ^ 31 by omega)] at this
        rw [he]
        exact sp_X1_wordWidth hs hi hok (w_X1_lineWidth_55 hs this)
      · rw [nI_clamp (by omega)] at hne
        have := ih (j + 1) (by omega)
        rw [hf_lws, if_neg hne, hf_cnt, if_neg hne, Nat.add_zero, ← nI_1] at this
        exact this
  exact w_X1_lineWidth_0 hs (loop c 0 (by omega))
/-- one of the places on a line holds the WORD -/
def hf_ech (w l : Nat → Int32) (x y : Int32) : Nat → Bool
  | 0 => false
  | n + 1 => hf_ech w l x y n || (decide (l n = x) && decide (w n = y))
theorem hf_ech_congr {w w' l l' : Nat → Int32} {x y : Int32} : ∀ {n : Nat}, (∀ j, j < n → l j = l' j ∧ w j = w' j) → hf_ech w l x y n = hf_ech w' l' x y n := by
  intro n
  induction n with
  | zero => intro _; rfl
  | succ n ih =>
    intro h
    rw [hf_ech, hf_ech, ih (fun j hj => h j (by omega)), (h n (by omega)).1, (h n (by omega)).2]
theorem hf_ech_up {w l : Nat → Int32} {x y : Int32} {i : Nat} : ∀ {n : Nat}, i < n → l i = x → w i = y → hf_ech w l x y n = true := by
  intro n
  induction n with
  | zero => intro h; omega
  | succ n ih =>
    intro h h1 h2
    rw [hf_ech]
    by_cases hi : i < n
    · rw [ih hi h1 h2]; rfl
    · rw [show n = i by omega, h1, h2]; simp
def hf_b (b : Bool) : Int32 := if b then 1 else 0
theorem sp_X1_isEcho {li c : Nat} (hs : hf_Lay t T P) (hc : c ≤ 12) (hn : I 114 2 = nI c) (hli : li < 4) (h : Q (some (.int (hf_b (hf_ech (I 115) (I 116) (nI li) (I 113 li) c)))) (t, T, I, L, P)) : hf_G X Y_X1_isEcho d k n 0 (hf_en [.ref 101, .int (nI li)] 3) [] (t, T, I, L, P) Q := by
  have loop : ∀ r j, j + r = c → hf_ech (I 115) (I 116) (nI li) (I 113 li) j = false → hf_G X Y_X1_isEcho d k n 2 [some (.ref 101), some (.int (nI li)), some (.int (nI j))] [] (t, T, I, L, P) Q := by
    intro r
    induction r with
    | zero =>
      intro j hj hf
      have e : j = c := by omega
      subst e
      rw [hf] at h
      exact w_X1_isEcho_2 hs ⟨fun _ => h, fun hq => absurd (by rw [hn]; exact nI_le (Nat.le_refl _) (by omega)) hq⟩
    | succ r ih =>
      intro j hj hf
      refine w_X1_isEcho_2 hs ⟨fun hq => absurd hq (by rw [hn]; exact nI_ge (by omega) (by omega)), fun _ => ⟨vp_in_nI (by omega) (by omega), fun hne => ?_, fun heq => ⟨vp_in_nI (by omega) (by omega), vp_in_nI (by omega) (by omega), fun hne => ?_, fun hee => ?_⟩⟩⟩
      · rw [nI_clamp (by omega)] at hne
        rw [nI_1]
        exact ih (j + 1) (by omega) (by rw [hf_ech, hf]; simp [hne])
      · rw [nI_clamp (by omega), nI_clamp (by omega)] at hne
        rw [nI_1]
        exact ih (j + 1) (by omega) (by rw [hf_ech, hf]; simp [hne])
      · rw [nI_clamp (by omega)] at heq
        rw [nI_clamp (by omega), nI_clamp (by omega)] at hee
        rw [hf_ech_up (i := j) (by omega) heq hee] at h
        exact h
  exact w_X1_isEcho_0 hs (loop c 0 (by omega) rfl)
/-- both first WORDS are there and begin with one letter -/
def hf_alk (a b : Int32) (f : Int32 → Int32) : Bool := decide (¬ a = -1) && (decide (¬ b = -1) && decide (f a = f b))
theorem sp_X1_isAlike {line : Int32} {c : Nat} (hs : hf_Lay t T P) (hc : c ≤ 12) (hn : I 114 2 = nI c) (hw : ∀ j, j < c → ∃ i, i < 16 ∧ I 115 j = nI i)
    (h : Q (some (.int (hf_b (hf_alk (hf_fw (I 115) (I 116) line c) (hf_fw (I 115) (I 116) (line - 1) c) (fun w => I 110 (9 * w.toNatClampNeg)))))) (t, T, I, L, P)) : hf_G X Y_X1_isAlike (d + 2) k n 0 (hf_en [.ref 101, .int line] 4) [] (t, T, I, L, P) Q := by
  have hfw : ∀ x : Int32, hf_fw (I 115) (I 116) x c = -1 ∨ ∃ i, i < 16 ∧ hf_fw (I 115) (I 116) x c = nI i := by
    intro x
    unfold hf_fw
    by_cases hlt : hf_fst (I 116) x c < c
    · rw [if_pos hlt]
      exact Or.inr (hw _ hlt)
    · rw [if_neg hlt]
      exact Or.inl rfl
  refine w_X1_isAlike_0 (d := d + 1) hs (sp_X3_firstIn hs hc hn ?_)
  refine w_X1_isAlike_8 (d := d + 1) hs (sp_X3_firstIn hs hc hn ?_)
  revert h
  unfold hf_alk
  rcases hfw line with e1 | ⟨i, hi, e1⟩ <;> rcases hfw (line - 1) with e2 | ⟨j, hj, e2⟩ <;> rw [e1, e2] <;> intro h
  · exact w_X1_isAlike_19 hs ⟨fun _ => h, fun hq => absurd rfl hq⟩
  · exact w_X1_isAlike_19 hs ⟨fun _ => h, fun hq => absurd rfl hq⟩
  · refine w_X1_isAlike_19 hs ⟨fun hq => absurd hq ?_, fun _ => ⟨fun _ => ?_, fun hq => absurd rfl hq⟩⟩
    · intro q
      have : (nI i).toInt = (-1 : Int32).toInt := by rw [q]
      rw [nI_toInt (by omega)] at this
      simp at this
    · simpa [hf_b] using h
  · have n1 : ∀ {i : Nat}, i < 16 → ¬ nI i = -1 := by
      intro i hi q
      have : (nI i).toInt = (-1 : Int32).toInt := by rw [q]
      rw [nI_toInt (by omega)] at this
      simp at this
    refine w_X1_isAlike_19 hs ⟨fun hq => absurd hq (n1 hi), fun _ => ⟨fun hq => absurd hq (n1 hj), fun _ => ?_⟩⟩
    rw [hf_c9, hf_c9]
    refine ⟨vp_in_nI (by omega) (by omega), vp_in_nI (by omega) (by omega), ?_⟩
    simp only [nI_clamp (show i < 2 ^ 31 by omega), nI_clamp (show j < 2 ^ 31 by omega), nI_clamp (show 9 * i < 2 ^ 31 by omega), nI_clamp (show 9 * j < 2 ^ 31 by omega)] at h ⊢
    refine ⟨fun hne => ?_, fun heq => ?_⟩
    · simpa [hf_b, n1 hi, n1 hj, hne] using h
    · simpa [hf_b, n1 hi, n1 hj, heq] using h
end LEAF
