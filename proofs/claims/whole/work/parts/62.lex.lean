/-! the class's reader of TOKENS -/
section LEX
variable {X : hf_X} {d k n t : Nat} {T : hf_T} {I : hf_I} {L : hf_L} {P : hf_P} {Q : Option Value → hf_M → Prop} {tp : Nat → Int32} {z : Nat}
theorem cs_kindAt {p : Nat} (hs : hf_Lay t T P) (hby : P 123 2 = some 122) (ht : I 122 = tp) (hz : I 123 3 = nI z) (hz4 : z ≤ 400) (hp : p ≤ z) (h : Q (some (.int (nI (tk_kd tp z p)))) (t, T, I, L, P)) : hf_G X Y_X5_kindAt d k n 0 (hf_en [.ref 123, .int (nI p)] 2) [] (t, T, I, L, P) Q := by
  refine w_X5_kindAt_0 hs hby ?_
  rw [hz, ht, nI_clamp (show p < 2 ^ 31 by omega)]
  unfold tk_kd tk_k1 at h
  refine ⟨fun q => ?_, fun q => ?_⟩
  · have hlt : p < z := (nI_ltI (by omega) (by omega)).mp q
    have v : vp_in (nI p) 400 := vp_in_nI (by omega) (by omega)
    rw [if_pos hlt] at h
    refine ⟨v, fun q1 => ⟨v, fun q2 => ?_, fun q2 => ⟨v, fun q3 => ?_, fun q3 => ?_⟩⟩, fun q1 => ⟨v, fun q2 => ⟨v, fun q3 => ?_, fun q3 => ⟨v, fun q4 => ?_, fun q4 => ?_⟩⟩, fun q2 => ?_⟩⟩
    · rw [if_pos q1, if_pos q2] at h; exact h
    · rw [if_pos q1, if_neg q2, if_pos q3] at h; exact h
    · rw [if_pos q1, if_neg q2, if_neg q3] at h; exact h
    · rw [if_neg q1, if_pos q2] at h; exact h
    · rw [if_neg q1, if_pos q2] at h; exact h
    · exact absurd (Int32.lt_trans (show (57 : Int32) < 122 by decide) q2) q4
    · rw [if_neg q1, if_neg q2] at h; exact h
  · have hlt : ¬ p < z := fun e => q ((nI_ltI (by omega) (by omega)).mpr e)
    rw [if_neg hlt] at h
    exact h
def pc_adv (I : hf_I) (tp : Nat → Int32) (z p : Nat) : hf_I := hf_up (hf_up (hf_up I 123 7 (nI (tk_skp tp z p))) 123 6 (nI (tk_kd tp z (tk_skp tp z p)))) 123 8 (nI (tk_en tp z (tk_skp tp z p)))
theorem cs_advance {p : Nat} (hs : hf_Lay t T P) (hby : P 123 2 = some 122) (ht : I 122 = tp) (hz : I 123 3 = nI z) (hz4 : z ≤ 400) (hp : p ≤ z) (h8 : I 123 8 = nI p) (h : Q none (t, T, pc_adv I tp z p, L, P)) : hf_G X Y_X5_advance (d + 1) k n 0 (hf_en [.ref 123] 2) [] (t, T, I, L, P) Q := by
  have run : ∀ r q, q + r = z → ∀ s kd, I 123 3 = nI z → (Q none (t, T, hf_up (hf_up (hf_up I 123 7 (nI s)) 123 6 (nI kd)) 123 8 (nI (tk_run tp z kd q)), L, P)) → kd < 4 → hf_G X Y_X5_advance (d + 1) k n 71 [some (.ref 123), some (.int (nI q))] [] (t, T, hf_up (hf_up I 123 7 (nI s)) 123 6 (nI kd), L, P) Q := by
    intro r
    induction r with
    | zero =>
      intro q hq s kd h3 hQ hkd
      obtain rfl : q = z := by omega
      rw [tk_run_no (by omega)] at hQ
      exact w_X5_advance_71 hs hby ⟨fun _ => hQ, fun e => absurd (show nI q ≤ nI q from Int32.le_refl _) (by rw [show hf_up (hf_up I 123 7 (nI s)) 123 6 (nI kd) 123 3 = nI q from h3] at e; exact e)⟩
    | succ r ih =>
      intro q hq s kd h3 hQ hkd
      refine w_X5_advance_71 hs hby ⟨fun e => absurd e ?_, fun _ => ?_⟩
      · rw [show hf_up (hf_up I 123 7 (nI s)) 123 6 (nI kd) 123 3 = nI z from h3]
        exact nI_ge (by omega) (by omega)
      · refine cs_kindAt hs hby (show hf_up (hf_up I 123 7 (nI s)) 123 6 (nI kd) 122 = tp from ht) h3 hz4 (by omega) ?_
        have hk4 : tk_kd tp z q < 4 := by
          unfold tk_kd tk_k1
          repeat' split
          all_goals omega
        refine w_X5_advance_84 hs hby ⟨fun e => ?_, fun e => ?_⟩
        · rw [tk_run_no (fun g => e (by rw [g.2]; rfl))] at hQ
          exact hQ
        · have e2 : nI (tk_kd tp z q) = nI kd := e
          have e3 := (nI_eq (by omega) (by omega)).mp e2
          rw [nI_1]
          rw [tk_run_go (by omega) e3] at hQ
          exact ih (q + 1) (by omega) s kd h3 hQ hkd
  have at41 : ∀ q, q ≤ z → tk_skp tp z q = q → tk_skp tp z p = q → hf_G X Y_X5_kindAt d 0 0 0 (hf_en [.ref 123, .int (nI q)] 2) [] (t, T, hf_up I 123 7 (nI q), L, P) (fun r M => hf_G X Y_X5_advance (d + 1) k n 41 [some (.ref 123), some (.int (nI q))] (r.toList ++ [.ref 123]) M Q) := by
    intro q hq hsk hpq
    refine cs_kindAt hs hby (show hf_up I 123 7 (nI q) 122 = tp from ht) hz hz4 hq ?_
    unfold pc_adv at h
    rw [hpq] at h
    have kpos : q < z → 1 ≤ tk_kd tp z q ∧ tk_kd tp z q < 4 := by
      intro hlt
      unfold tk_kd tk_k1
      rw [if_pos hlt]
      repeat' split
      all_goals omega
    refine w_X5_advance_41 hs hby ⟨fun e => ?_, fun e => ?_⟩
    · rw [show hf_up I 123 7 (nI q) 123 3 = nI z from hz] at e
      have hqz : q = z := by
        have := (nI_leI (a := z) (b := q) (by omega) (by omega)).mp e
        omega
      have hk0 : tk_kd tp z q = 0 := by
        unfold tk_kd
        rw [if_neg (by omega)]
      unfold tk_en at h
      rw [if_neg (by omega)] at h
      rw [hk0] at h ⊢
      exact ⟨fun e => absurd e (by decide), fun _ => ⟨fun _ => h, fun e => absurd e (by decide)⟩⟩
    · rw [show hf_up I 123 7 (nI q) 123 3 = nI z from hz] at e
      have hqz : q < z := by
        rcases Nat.lt_or_ge q z with g | g
        · exact g
        · exact absurd (nI_le g (by omega)) e
      have hk := kpos hqz
      unfold tk_en at h
      rw [if_pos hqz] at h
      generalize tk_kd tp z q = kd at *
      rw [nI_1]
      refine ⟨fun e => ?_, fun e => ⟨fun e2 => ?_, fun e2 => ?_⟩⟩
      · obtain rfl : kd = 1 := (nI_eq (b := 1) (by omega) (by omega)).mp e
        rw [if_pos (Or.inl rfl)] at h
        exact run _ (q + 1) (Nat.add_sub_cancel' (by omega)) q 1 hz h (by omega)
      · have : kd = 3 := by
          rcases (show kd = 1 ∨ kd = 2 ∨ kd = 3 by omega) with g | g | g
          · exact absurd (by rw [g]; rfl) e
          · exact absurd (by rw [g]; rfl) e2
          · exact g
        subst this
        rw [if_neg (by omega)] at h
        exact h
      · obtain rfl : kd = 2 := (nI_eq (b := 2) (by omega) (by omega)).mp e2
        rw [if_pos (Or.inr rfl)] at h
        exact run _ (q + 1) (Nat.add_sub_cancel' (by omega)) q 2 hz h (by omega)
  have skip : ∀ r q, q + r = z → tk_skp tp z p = tk_skp tp z q → hf_G X Y_X5_advance (d + 1) k n 5 [some (.ref 123), some (.int (nI q))] [] (t, T, I, L, P) Q := by
    intro r
    induction r with
    | zero =>
      intro q hq hsk
      have e0 : tk_skp tp z q = q := tk_skp_no (by omega)
      refine w_X5_advance_5 hs hby ⟨fun _ => at41 q (by omega) e0 (hsk.trans e0), fun e => absurd (by rw [hz]; exact nI_le (by omega) (by omega)) e⟩
    | succ r ih =>
      intro q hq hsk
      refine w_X5_advance_5 hs hby ⟨fun e => absurd e (by rw [hz]; exact nI_ge (by omega) (by omega)), fun _ => ⟨vp_in_nI (by omega) (by omega), fun e => ?_, fun e => ?_⟩⟩
      · rw [ht, nI_clamp (show q < 2 ^ 31 by omega)] at e
        have e0 : tk_skp tp z q = q := tk_skp_no (fun g => e g.2)
        exact at41 q (by omega) e0 (hsk.trans e0)
      · rw [ht, nI_clamp (show q < 2 ^ 31 by omega)] at e
        rw [nI_1]
        exact ih (q + 1) (by omega) (by rw [hsk, tk_skp_go (by omega) e])
  refine w_X5_advance_0 hs hby ?_
  rw [h8]
  exact skip (z - p) p (by omega) rfl
/-- the reader stands at TOKEN i -/
def pc_at (tp : Nat → Int32) (z i : Nat) (I : hf_I) : Prop := I 122 = tp ∧ I 123 3 = nI z ∧ I 123 7 = nI (tk_s tp z i) ∧ I 123 8 = nI (tk_en tp z (tk_s tp z i)) ∧ I 123 6 = nI (tk_kd tp z (tk_s tp z i))
theorem tk_kd_lt {p : Nat} : tk_kd tp z p < 4 := by
  unfold tk_kd tk_k1
  repeat' split
  all_goals omega
theorem tk_kd_z {p : Nat} (h : ¬ tk_kd tp z p = 0) : p < z := by
  unfold tk_kd at h
  split at h
  · assumption
  · exact absurd rfl h
theorem pc_at_adv {i : Nat} (h : pc_at tp z i I) : pc_at tp z (i + 1) (pc_adv I tp z (tk_en tp z (tk_s tp z i))) := ⟨h.1, h.2.1, rfl, rfl, rfl⟩
theorem ca_advance {i : Nat} (hs : hf_Lay t T P) (hby : P 123 2 = some 122) (hz4 : z ≤ 400) (ha : pc_at tp z i I) (h : Q none (t, T, pc_adv I tp z (tk_en tp z (tk_s tp z i)), L, P)) : hf_G X Y_X5_advance (d + 1) k n 0 (hf_en [.ref 123] 2) [] (t, T, I, L, P) Q :=
  cs_advance hs hby ha.1 ha.2.1 hz4 (tk_en_le (tk_s_le i)) ha.2.2.2.1 h
theorem tk_by_all : ∀ i : Fin 256, (Int32.ofInt (i.val - 128) &&& 255) = Int32.ofNat ((i.val + 128) % 256) := by decide +kernel
/-- a byte -/
def tk_byte (tp : Nat → Int32) (z : Nat) : Prop := ∀ j, j < z → -128 ≤ tp j ∧ tp j ≤ 127
theorem tk_by_and {b : Int32} (h : -128 ≤ b ∧ b ≤ 127) : (b &&& 255) = nI (tk_by b) ∧ tk_by b < 256 := by
  have h1 : (-128 : Int) ≤ b.toInt := by have := Int32.le_iff_toInt_le.mp h.1; simpa using this
  have h2 : b.toInt ≤ 127 := by have := Int32.le_iff_toInt_le.mp h.2; simpa using this
  have := tk_by_all ⟨(b.toInt + 128).toNat, by omega⟩
  have e1 : Int32.ofInt (((b.toInt + 128).toNat : Nat) - 128 : Int) = b := by
    rw [show (((b.toInt + 128).toNat : Nat) - 128 : Int) = b.toInt by omega, Int32.ofInt_toInt]
  have e2 : ((b.toInt + 128).toNat + 128) % 256 = tk_by b := by
    unfold tk_by
    omega
  refine ⟨?_, by unfold tk_by; omega⟩
  have t0 : (Int32.ofInt (((b.toInt + 128).toNat : Nat) - 128 : Int) &&& 255) = Int32.ofNat (((b.toInt + 128).toNat + 128) % 256) := this
  rw [e1, e2] at t0
  exact t0
theorem tk_by_eq {b : Int32} {ch : Nat} (h : -128 ≤ b ∧ b ≤ 127) (hc : ch < 128) : b = nI ch ↔ tk_by b = ch := by
  have h1 : (-128 : Int) ≤ b.toInt := by have := Int32.le_iff_toInt_le.mp h.1; simpa using this
  have h2 : b.toInt ≤ 127 := by have := Int32.le_iff_toInt_le.mp h.2; simpa using this
  have e : (nI ch).toInt = ch := nI_toInt (by omega)
  rw [← Int32.toInt_inj, e]
  unfold tk_by
  omega
theorem ca_isSign {i ch : Nat} (hs : hf_Lay t T P) (hby : P 123 2 = some 122) (hz4 : z ≤ 400) (hb : tk_byte tp z) (hc : ch < 128) (ha : pc_at tp z i I) (h : Q (some (.int (hf_b (decide (tk_c tp z i = 100 + ch))))) (t, T, I, L, P)) : hf_G X Y_X5_isSign d k n 0 (hf_en [.ref 123, .int (nI ch)] 2) [] (t, T, I, L, P) Q := by
  obtain ⟨a1, a2, a3, a4, a5⟩ := ha
  have hsl := tk_s_le (tp := tp) (z := z) i
  refine w_X5_isSign_0 hs hby ?_
  rw [a5, a3, a1, nI_clamp (show tk_s tp z i < 2 ^ 31 by omega)]
  have no : tk_c tp z i < 100 → ¬ tk_kd tp z (tk_s tp z i) = 3 → (¬ nI (tk_kd tp z (tk_s tp z i)) = 3 → Q (some (.int 0)) (t, T, I, L, P)) ∧ (nI (tk_kd tp z (tk_s tp z i)) = 3 → vp_in (nI (tk_s tp z i)) 400 ∧ ((¬ tp (tk_s tp z i) = nI ch → Q (some (.int 0)) (t, T, I, L, P)) ∧ (tp (tk_s tp z i) = nI ch → Q (some (.int 1)) (t, T, I, L, P)))) := by
    intro hlt hk
    rw [decide_eq_false (by omega)] at h
    have hlt := tk_kd_lt (tp := tp) (z := z) (p := tk_s tp z i)
    exact ⟨fun _ => h, fun q => absurd ((nI_eq (b := 3) (by omega) (by omega)).mp q) hk⟩
  rcases tk_c_cs tp z i with ⟨q1, q2⟩ | ⟨q1, q2, q3⟩ | ⟨q1, q2⟩ | ⟨q1, q2⟩
  · exact no (by omega) (by omega)
  · exact no (by omega) (by omega)
  · exact no (by omega) (by omega)
  · rw [q1]
    have hz := tk_kd_z (tp := tp) (z := z) (p := tk_s tp z i) (by omega)
    have eb := tk_by_eq (hb _ hz) hc
    refine ⟨fun q => absurd rfl q, fun _ => ⟨vp_in_nI (by omega) (by omega), fun q2' => ?_, fun q2' => ?_⟩⟩
    · rw [decide_eq_false (by rw [q2]; intro g; exact q2' (eb.mpr (by omega)))] at h
      exact h
    · rw [decide_eq_true (by rw [q2, eb.mp q2'])] at h
      exact h
/-- the letters of a text constant -/
def tk_ch (si x : Nat) : Int32 := (hf_sby.getD si []).getD x 0 &&& 255
theorem cs_isSpelt {si fr s e : Nat} {w : List Int32} (hs : hf_Lay t T P) (hby : P 123 2 = some 122) (hsi : si < 12) (ht : I 122 = tp) (h7 : I 123 7 = nI s) (h8 : I 123 8 = nI e) (hse : s ≤ e) (he : e ≤ 400) (hl : hf_sln.getD si 0 ≤ 400) (hfr : fr + w.length ≤ hf_sln.getD si 0) (hw : ∀ i, i < w.length → tk_ch si (fr + i) = w.getD i 0) (h : Q (some (.int (hf_b (tk_is tp s e w)))) (t, T, I, L, P)) : hf_G X Y_X5_isSpelt (d + 4) k n 0 (hf_en [.ref 123, .ref (1 + si), .int (nI fr), .int (nI (fr + w.length))] 5) [] (t, T, I, L, P) Q := by
  have e1 : nI e - nI s = nI (e - s) := pk_sub hse
  have e2 : nI (fr + w.length) - nI fr = nI w.length := by rw [pk_sub (by omega), Nat.add_sub_cancel_left]
  refine w_X5_isSpelt_0 hs hby hsi ?_
  rw [h7, h8, e1, e2]
  refine ⟨fun q => ?_, fun q => ?_⟩
  · have hlen : e - s = w.length := (nI_eq (by omega) (by omega)).mp q
    have loop : ∀ r i, i + r = w.length → (∀ j, j < i → w.getD j 0 = tp (s + j)) → hf_G X Y_X5_isSpelt (d + 4) k n 20 [some (.ref 123), some (.ref (1 + si)), some (.int (nI fr)), some (.int (nI (fr + w.length))), some (.int (nI (fr + i)))] [] (t, T, I, L, P) Q := by
      intro r
      induction r with
      | zero =>
        intro i hi hm
        obtain rfl : i = w.length := by omega
        have : tk_is tp s e w = true := by
          unfold tk_is
          rw [Bool.and_eq_true, decide_eq_true_eq]
          exact ⟨hlen, tk_ml_at.mpr hm⟩
        rw [this] at h
        exact w_X5_isSpelt_20 hs hby hsi ⟨fun _ => h, fun g => absurd (Int32.le_refl _) g⟩
      | succ r ih =>
        intro i hi hm
        refine w_X5_isSpelt_20 hs hby hsi ⟨fun g => absurd g (nI_ge (by omega) (by omega)), fun _ => ?_⟩
        have e3 : nI s + nI (fr + i) - nI fr = nI (s + i) := by rw [nI_add, pk_sub (by omega)]; congr 1; omega
        rw [h7, e3, ht, nI_clamp (show fr + i < 2 ^ 31 by omega), nI_clamp (show s + i < 2 ^ 31 by omega)]
        refine ⟨⟨nI_pos (by omega), nI_lt (b := hf_sln.getD si 0) (by omega) (by omega), vp_in_nI (by omega) (by omega)⟩, vp_in_nI (by omega) (by omega), fun g => ?_, fun g => ?_⟩
        · rw [nI_1]
          refine ih (i + 1) (by omega) fun j hj => ?_
          by_cases ej : j = i
          · subst ej
            rw [← hw j (by omega)]
            exact g
          · exact hm j (by omega)
        · have : tk_is tp s e w = false := by
            cases hq : tk_is tp s e w with
            | false => rfl
            | true =>
              unfold tk_is at hq
              rw [Bool.and_eq_true] at hq
              exact absurd ((hw i (by omega)).trans (tk_ml_at.mp hq.2 i (by omega))) g
          rw [this] at h
          exact h
    exact loop w.length 0 (by omega) (fun j hj => by omega)
  · have : tk_is tp s e w = false := by
      unfold tk_is
      rw [decide_eq_false (fun g => q (by rw [g])), Bool.false_and]
    rw [this] at h
    exact h
/-- a word by itself -/
theorem ca_isWord {i si j : Nat} (hs : hf_Lay t T P) (hby : P 123 2 = some 122) (hz4 : z ≤ 400) (hsi : si < 12) (hj : j < 28) (hl : hf_sln.getD si 0 = (tk_W.getD j []).length) (hl4 : hf_sln.getD si 0 ≤ 400) (hw : ∀ i, i < (tk_W.getD j []).length → tk_ch si (0 + i) = (tk_W.getD j []).getD i 0) (ha : pc_at tp z i I) (h : Q (some (.int (hf_b (decide (tk_c tp z i = j + 1))))) (t, T, I, L, P)) : hf_G X Y_X5_isWord (d + 5) k n 0 (hf_en [.ref 123, .ref (1 + si)] 2) [] (t, T, I, L, P) Q := by
  obtain ⟨a1, a2, a3, a4, a5⟩ := ha
  have hlt := tk_kd_lt (tp := tp) (z := z) (p := tk_s tp z i)
  have hsl := tk_s_le (tp := tp) (z := z) i
  have hel := tk_en_le (tp := tp) (tk_s_le (tp := tp) (z := z) i)
  have e1 : nI (tk_kd tp z (tk_s tp z i)) = 1 ↔ tk_kd tp z (tk_s tp z i) = 1 := nI_eq (b := 1) (by omega) (by omega)
  refine w_X5_isWord_0 (d := d + 3) hs hby hsi ?_
  rw [a5]
  refine ⟨fun q => ?_, fun q => ?_⟩
  · rw [e1] at q
    rw [decide_eq_false (by rcases tk_c_cs tp z i with ⟨q1, q2⟩ | ⟨q1, q2, q3⟩ | ⟨q1, q2⟩ | ⟨q1, q2⟩ <;> omega)] at h
    exact h
  · have k1 := e1.mp q
    have ec : tk_c tp z i = tk_wc tp (tk_s tp z i) (tk_en tp z (tk_s tp z i)) := by
      rcases tk_c_cs tp z i with ⟨q1, q2⟩ | ⟨q1, q2, q3⟩ | ⟨q1, q2⟩ | ⟨q1, q2⟩ <;> omega
    have hlen : Int32.ofNat (hf_sln.getD si 0) = nI (0 + (tk_W.getD j []).length) := by rw [hl, Nat.zero_add]; rfl
    rw [hlen]
    refine cs_isSpelt (fr := 0) hs hby hsi a1 a3 a4 tk_en_ge (by omega) hl4 (by omega) hw ?_
    rw [tk_is_c hj, ← ec]
    refine w_X5_isWord_18 hs hby hsi ?_
    cases hq : decide (tk_c tp z i = j + 1) with
    | false => rw [hq] at h; exact ⟨fun _ => h, fun g => absurd rfl g⟩
    | true => rw [hq] at h; exact ⟨fun g => absurd g (by decide), fun _ => h⟩
/-- the words of a row, laid in a text constant from fr on -/
def tk_lay (si : Nat) : List (List Int32) → Nat → Prop
  | [], _ => False
  | [w], fr => fr + w.length = hf_sln.getD si 0 ∧ ∀ i, i < w.length → tk_ch si (fr + i) = w.getD i 0 ∧ ¬ w.getD i 0 = 32
  | w :: w2 :: ws, fr => (fr + w.length < hf_sln.getD si 0 ∧ tk_ch si (fr + w.length) = 32 ∧ ∀ i, i < w.length → tk_ch si (fr + i) = w.getD i 0 ∧ ¬ w.getD i 0 = 32) ∧ tk_lay si (w2 :: ws) (fr + w.length + 1)
def tk_oI (o : Option Nat) : Int32 := match o with
  | none => -1
  | some j => nI j
theorem cs_placeIn {si s e : Nat} (hs : hf_Lay t T P) (hby : P 123 2 = some 122) (hsi : si < 12) (ht : I 122 = tp) (h7 : I 123 7 = nI s) (h8 : I 123 8 = nI e) (hse : s ≤ e) (he : e ≤ 400) (hl : hf_sln.getD si 0 ≤ 400) : ∀ (ws : List (List Int32)) (fr j : Nat), tk_lay si ws fr → Q (some (.int (tk_oI (tk_ix tp s e j ws)))) (t, T, I, L, P) → hf_G X Y_X5_placeIn (d + 5) k n 17 [some (.ref 123), some (.ref (1 + si)), some (.int (nI j)), some (.int (nI fr)), some (.int (nI fr))] [] (t, T, I, L, P) Q := by
  have run : ∀ (w : List Int32) (fr j : Nat), fr + w.length ≤ hf_sln.getD si 0 → (∀ i, i < w.length → tk_ch si (fr + i) = w.getD i 0 ∧ ¬ w.getD i 0 = 32) → (fr + w.length < hf_sln.getD si 0 → tk_ch si (fr + w.length) = 32) → hf_G X Y_X5_placeIn (d + 5) k n 57 [some (.ref 123), some (.ref (1 + si)), some (.int (nI j)), none, some (.int (nI (fr + w.length)))] [.int (hf_b (tk_is tp s e w))] (t, T, I, L, P) Q → ∀ r i, i + r = w.length → hf_G X Y_X5_placeIn (d + 5) k n 17 [some (.ref 123), some (.ref (1 + si)), some (.int (nI j)), some (.int (nI fr)), some (.int (nI (fr + i)))] [] (t, T, I, L, P) Q := by
    intro w fr j hle hw hend hQ r
    induction r with
    | zero =>
      intro i hi
      obtain rfl : i = w.length := by omega
      have sp := cs_isSpelt (X := X) (d := d) (k := 0) (n := 0) (L := L) (Q := fun r M => hf_G X Y_X5_placeIn (d + 5) k n 57 [some (.ref 123), some (.ref (1 + si)), some (.int (nI j)), none, some (.int (nI (fr + w.length)))] (r.toList ++ []) M Q) (fr := fr) hs hby hsi ht h7 h8 hse he hl hle (fun i hi => (hw i hi).1) hQ
      refine w_X5_placeIn_17 (d := d + 1) hs hby hsi ⟨fun g => absurd g (nI_nlt (b := fr + w.length) (by omega) (by omega)), fun _ => ⟨fun _ => sp, fun g => ?_⟩⟩
      have hlt : fr + w.length < hf_sln.getD si 0 := by
        rcases Nat.lt_or_ge (fr + w.length) (hf_sln.getD si 0) with q | q
        · exact q
        · exact absurd (nI_le q (by omega)) g
      refine ⟨⟨nI_pos (by omega), nI_lt (b := hf_sln.getD si 0) hlt (by omega), vp_in_nI hlt (by omega)⟩, fun _ => sp, fun g => ?_⟩
      rw [nI_clamp (show fr + w.length < 2 ^ 31 by omega)] at g
      exact absurd (hend hlt) g
    | succ r ih =>
      intro i hi
      refine w_X5_placeIn_17 (d := d + 1) hs hby hsi ⟨fun g => absurd g (nI_nlt (b := fr + i) (by omega) (by omega)), fun _ => ⟨fun g => absurd g (nI_ge (b := hf_sln.getD si 0) (by omega) (by omega)), fun _ => ⟨⟨nI_pos (by omega), nI_lt (b := hf_sln.getD si 0) (by omega) (by omega), vp_in_nI (by omega) (by omega)⟩, fun g => ?_, fun g => ?_⟩⟩⟩
      · rw [nI_clamp (show fr + i < 2 ^ 31 by omega)] at g
        have := hw i (by omega)
        exact absurd (this.1.symm.trans g) this.2
      · rw [nI_1]
        exact ih (i + 1) (by omega)
  intro ws
  induction ws with
  | nil => intro fr j hlay; exact hlay.elim
  | cons w ws ih =>
    intro fr j hlay hQ
    rw [tk_ix] at hQ
    cases ws with
    | nil =>
      refine run w fr j (Nat.le_of_eq hlay.1) hlay.2 (fun g => absurd hlay.1 (by omega)) ?_ w.length 0 (by omega)
      refine w_X5_placeIn_57 hs hby hsi ⟨fun g => ?_, fun g => ?_⟩
      · have hf : ¬ tk_is tp s e w = true := fun q => by rw [q] at g; exact absurd g (by decide)
        rw [if_neg hf] at hQ
        rw [nI_1, nI_1]
        refine w_X5_placeIn_17 (d := d + 1) hs hby hsi ⟨fun _ => hQ, fun g2 => absurd (nI_lt (a := hf_sln.getD si 0) (b := fr + w.length + 1) ?_ ?_) g2⟩
        · have := hlay.1; omega
        · have := hlay.1; omega
      · have hf : tk_is tp s e w = true := by
          cases hq : tk_is tp s e w with
          | true => rfl
          | false => rw [hq] at g; exact absurd rfl g
        rw [if_pos hf] at hQ
        exact hQ
    | cons w2 ws2 =>
      obtain ⟨⟨l1, l2, l3⟩, l4⟩ := hlay
      refine run w fr j (by omega) l3 (fun _ => l2) ?_ w.length 0 (by omega)
      refine w_X5_placeIn_57 hs hby hsi ⟨fun g => ?_, fun g => ?_⟩
      · have hf : ¬ tk_is tp s e w = true := fun q => by rw [q] at g; exact absurd g (by decide)
        rw [if_neg hf] at hQ
        rw [nI_1, nI_1]
        exact ih (fr + w.length + 1) (j + 1) l4 hQ
      · have hf : tk_is tp s e w = true := by
          cases hq : tk_is tp s e w with
          | true => rfl
          | false => rw [hq] at g; exact absurd rfl g
        rw [if_pos hf] at hQ
        exact hQ
end LEX
