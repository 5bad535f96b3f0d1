section LEX
variable {X : hf_X} {d k n t : Nat} {T : hf_T} {I : hf_I} {L : hf_L} {P : hf_P} {Q : Option Value → hf_M → Prop} {tp : Nat → Int32} {z : Nat}
def tk_pj (c : Nat) : List Nat → Nat → Option Nat
  | [], _ => none
  | u :: us, j => if c = u + 1 then some j else tk_pj c us (j + 1)
theorem tk_ix_pj {s e : Nat} : ∀ (us : List Nat) (j : Nat), (∀ u ∈ us, u < 28) → tk_ix tp s e j (us.map fun u => tk_W.getD u []) = tk_pj (tk_wc tp s e) us j := by
  intro us
  induction us with
  | nil => intro j _; rfl
  | cons u us ih =>
    intro j hu
    rw [List.map_cons, tk_ix, tk_pj, tk_is_c (hu u List.mem_cons_self), ih (j + 1) (fun x hx => hu x (List.mem_cons_of_mem _ hx))]
    simp
theorem tk_pj_no {c : Nat} : ∀ (us : List Nat) (j : Nat), (∀ u ∈ us, ¬ c = u + 1) → tk_pj c us j = none := by
  intro us
  induction us with
  | nil => intro j _; rfl
  | cons u us ih =>
    intro j hu
    rw [tk_pj, if_neg (hu u List.mem_cons_self), ih (j + 1) (fun x hx => hu x (List.mem_cons_of_mem _ hx))]
theorem ca_placeIn {i si : Nat} {us : List Nat} (hs : hf_Lay t T P) (hby : P 123 2 = some 122) (hz4 : z ≤ 400) (hsi : si < 12) (hl : hf_sln.getD si 0 ≤ 400) (hus : ∀ u ∈ us, u < 28) (hlay : tk_lay si (us.map fun u => tk_W.getD u []) 0) (ha : pc_at tp z i I) (h : Q (some (.int (tk_oI (tk_pj (tk_c tp z i) us 0)))) (t, T, I, L, P)) : hf_G X Y_X5_placeIn (d + 5) k n 0 (hf_en [.ref 123, .ref (1 + si)] 5) [] (t, T, I, L, P) Q := by
  obtain ⟨a1, a2, a3, a4, a5⟩ := ha
  have hlt := tk_kd_lt (tp := tp) (z := z) (p := tk_s tp z i)
  have hel := tk_en_le (tp := tp) (tk_s_le (tp := tp) (z := z) i)
  have e1 : nI (tk_kd tp z (tk_s tp z i)) = 1 ↔ tk_kd tp z (tk_s tp z i) = 1 := nI_eq (b := 1) (by omega) (by omega)
  refine w_X5_placeIn_0 hs hby hsi ?_
  rw [a5]
  refine ⟨fun q => ?_, fun q => ?_⟩
  · have k1 := e1.mp q
    have ec : tk_c tp z i = tk_wc tp (tk_s tp z i) (tk_en tp z (tk_s tp z i)) := by
      rcases tk_c_cs tp z i with ⟨q1, q2⟩ | ⟨q1, q2, q3⟩ | ⟨q1, q2⟩ | ⟨q1, q2⟩ <;> omega
    refine cs_placeIn hs hby hsi a1 a3 a4 tk_en_ge (by omega) hl _ 0 0 hlay ?_
    rw [tk_ix_pj us 0 hus, ← ec]
    exact h
  · rw [e1] at q
    rw [tk_pj_no us 0 (fun u hu => by have := hus u hu; rcases tk_c_cs tp z i with ⟨q1, q2⟩ | ⟨q1, q2, q3⟩ | ⟨q1, q2⟩ | ⟨q1, q2⟩ <;> omega)] at h
    exact h
theorem tk_rn_in {kd : Nat} : ∀ (f p q : Nat), p ≤ q → q < tk_rn tp z kd f p → tk_kd tp z q = kd := by
  intro f
  induction f with
  | zero => intro p q h1 h2; rw [tk_rn] at h2; omega
  | succ f ih =>
    intro p q h1 h2
    rw [tk_rn] at h2
    split at h2
    · rename_i g
      by_cases e : q = p
      · rw [e]; exact g.2
      · exact ih (p + 1) q (by omega) h2
    · omega
theorem tk_en_in {p q : Nat} (h2 : tk_kd tp z p = 2) (h1 : p ≤ q) (hq : q < tk_en tp z p) : tk_kd tp z q = 2 := by
  by_cases e : q = p
  · rw [e]; exact h2
  · have hz := tk_kd_z (tp := tp) (z := z) (p := p) (by omega)
    unfold tk_en at hq
    rw [if_pos hz, if_pos (Or.inr h2), h2] at hq
    exact tk_rn_in _ (p + 1) q (by omega) hq
theorem tk_kd_2 {p : Nat} (h : tk_kd tp z p = 2) : ∃ g, 48 ≤ g ∧ g ≤ 57 ∧ tp p = nI g := by
  have hz := tk_kd_z (tp := tp) (z := z) (p := p) (by omega)
  unfold tk_kd tk_k1 at h
  rw [if_pos hz] at h
  split at h
  · split at h
    · omega
    · split at h
      · omega
      · rename_i g1 g2 g3
        obtain ⟨j, hj, e⟩ := hf_rng (M := 57) (b := 57) (by decide) (fun q => g2 (Int32.lt_trans q (by decide))) g3
        refine ⟨j, ?_, hj, e⟩
        rcases Nat.lt_or_ge j 48 with q | q
        · exact absurd (by rw [e]; exact nI_lt (b := 48) q (by omega)) g2
        · exact q
  · split at h <;> omega
theorem ca_numberTo {i mo : Nat} (hs : hf_Lay t T P) (hby : P 123 2 = some 122) (hz4 : z ≤ 400) (hmo : mo ≤ 1000) (ha : pc_at tp z i I) (h : Q (some (.int (if tk_c tp z i = 50 ∧ tk_v tp z i ≤ mo then nI (tk_v tp z i) else -1))) (t, T, I, L, P)) : hf_G X Y_X5_numberTo (d + 1) k n 0 (hf_en [.ref 123, .int (nI mo)] 4) [] (t, T, I, L, P) Q := by
  obtain ⟨a1, a2, a3, a4, a5⟩ := ha
  have hlt := tk_kd_lt (tp := tp) (z := z) (p := tk_s tp z i)
  have hel := tk_en_le (tp := tp) (tk_s_le (tp := tp) (z := z) i)
  have e1 : nI (tk_kd tp z (tk_s tp z i)) = 2 ↔ tk_kd tp z (tk_s tp z i) = 2 := nI_eq (b := 2) (by omega) (by omega)
  refine w_X5_numberTo_0 hs hby ?_
  rw [a5]
  refine ⟨fun q => ?_, fun q => ?_⟩
  · have k2 := e1.mp q
    have ec : tk_c tp z i = 50 := by
      rcases tk_c_cs tp z i with ⟨q1, q2⟩ | ⟨q1, q2, q3⟩ | ⟨q1, q2⟩ | ⟨q1, q2⟩ <;> omega
    have ev : tk_v tp z i = tk_dv tp (tk_s tp z i) (tk_en tp z (tk_s tp z i) - tk_s tp z i) := by
      unfold tk_v
      rw [if_pos k2]
    have dcl : ∀ j, tk_dc tp (tk_s tp z i) j ≤ 1001 := fun j => by rw [tk_dc_dv]; omega
    have loop : ∀ r j, tk_s tp z i + j + r = tk_en tp z (tk_s tp z i) → hf_G X Y_X5_numberTo (d + 1) k n 17 [some (.ref 123), some (.int (nI mo)), some (.int (nI (tk_dc tp (tk_s tp z i) j))), some (.int (nI (tk_s tp z i + j)))] [] (t, T, I, L, P) Q := by
      intro r
      induction r with
      | zero =>
        intro j hj
        have hd := dcl j
        have hjj : tk_en tp z (tk_s tp z i) - tk_s tp z i = j := by omega
        refine w_X5_numberTo_17 hs hby ⟨fun _ => ?_, fun g => absurd (by rw [a4]; exact nI_le (by omega) (by omega)) g⟩
        rw [ec, ev, hjj] at h
        rw [tk_dc_dv] at hd ⊢
        refine ⟨fun g => ?_, fun g => ?_⟩
        · have := (nI_ltI (by omega) (by omega)).mp g
          rw [if_neg (by omega)] at h
          exact h
        · have : ¬ mo < min 1001 (tk_dv tp (tk_s tp z i) j) := fun q => g ((nI_ltI (by omega) (by omega)).mpr q)
          rw [if_pos (by omega)] at h
          rw [show min 1001 (tk_dv tp (tk_s tp z i) j) = tk_dv tp (tk_s tp z i) j by omega]
          exact h
      | succ r ih =>
        intro j hj
        have hd := dcl j
        obtain ⟨g, g1, g2, g3⟩ := tk_kd_2 (tk_en_in k2 (q := tk_s tp z i + j) (by omega) (by omega))
        refine w_X5_numberTo_17 hs hby ⟨fun q => absurd q (by rw [a4]; exact nI_ge (by omega) (by omega)), fun _ => ?_⟩
        have e2 : (10 * nI (tk_dc tp (tk_s tp z i) j) + nI g) - 48 = nI (10 * tk_dc tp (tk_s tp z i) j + (g - 48)) := by
          rw [show (10 : Int32) = nI 10 from rfl, pk_mul, nI_add, show (48 : Int32) = nI 48 from rfl, pk_sub (by omega)]
          congr 1
          omega
        rw [a1, nI_clamp (show tk_s tp z i + j < 2 ^ 31 by omega), g3, e2, nI_1]
        have e3 : (if nI (10 * tk_dc tp (tk_s tp z i) j + (g - 48)) < 1001 then nI (10 * tk_dc tp (tk_s tp z i) j + (g - 48)) else 1001) = nI (tk_dc tp (tk_s tp z i) (j + 1)) := by
          rw [tk_dc, g3, nI_clamp (show g < 2 ^ 31 by omega)]
          by_cases q : 10 * tk_dc tp (tk_s tp z i) j + (g - 48) < 1001
          · rw [if_pos q, if_pos (show nI (10 * tk_dc tp (tk_s tp z i) j + (g - 48)) < (1001 : Int32) from nI_lt (b := 1001) q (by omega))]
          · rw [if_neg q, if_neg (show ¬ nI (10 * tk_dc tp (tk_s tp z i) j + (g - 48)) < (1001 : Int32) from nI_nlt (b := 1001) (by omega) (by omega))]
            rfl
        rw [e3]
        exact ⟨vp_in_nI (by omega) (by omega), ih (j + 1) (by omega)⟩
    rw [a3]
    exact loop (tk_en tp z (tk_s tp z i) - tk_s tp z i) 0 (by have := tk_en_ge (tp := tp) (z := z) (p := tk_s tp z i); omega)
  · rw [e1] at q
    rw [if_neg (by rcases tk_c_cs tp z i with ⟨q1, q2⟩ | ⟨q1, q2, q3⟩ | ⟨q1, q2⟩ | ⟨q1, q2⟩ <;> omega)] at h
    exact h
def tk_sg (c : Nat) : List Nat → Nat → Option Nat
  | [], _ => none
  | ch :: r, j => if c = 100 + ch then some j else tk_sg c r (j + 1)
theorem tk_sg_no {c : Nat} (h : c < 100) : ∀ (chs : List Nat) (j : Nat), tk_sg c chs j = none := by
  intro chs
  induction chs with
  | nil => intro j; rfl
  | cons ch r ih =>
    intro j
    rw [tk_sg, if_neg (by omega)]
    exact ih (j + 1)
theorem ca_signStep {i si fi : Nat} {chs : List Nat} (hs : hf_Lay t T P) (hby : P 123 2 = some 122) (hz4 : z ≤ 400) (hb : tk_byte tp z) (hsi : si < 12) (hl : hf_sln.getD si 0 = chs.length) (hl4 : chs.length ≤ 400) (hch : ∀ j, j < chs.length → chs.getD j 0 < 128 ∧ tk_ch si j = nI (chs.getD j 0)) (ha : pc_at tp z i I) (h : Q (some (.int (tk_oI (tk_sg (tk_c tp z i) chs fi)))) (t, T, I, L, P)) : hf_G X Y_X5_signStep (d + 4) k n 0 (hf_en [.ref 123, .ref (1 + si), .int (nI fi)] 4) [] (t, T, I, L, P) Q := by
  obtain ⟨a1, a2, a3, a4, a5⟩ := ha
  have hlt := tk_kd_lt (tp := tp) (z := z) (p := tk_s tp z i)
  have e1 : nI (tk_kd tp z (tk_s tp z i)) = 3 ↔ tk_kd tp z (tk_s tp z i) = 3 := nI_eq (b := 3) (by omega) (by omega)
  refine w_X5_signStep_0 hs hby hsi ?_
  rw [a5]
  refine ⟨fun q => ?_, fun q => ?_⟩
  · have k3 := e1.mp q
    have hz := tk_kd_z (tp := tp) (z := z) (p := tk_s tp z i) (by omega)
    have ec : tk_c tp z i = 100 + tk_by (tp (tk_s tp z i)) := by
      rcases tk_c_cs tp z i with ⟨q1, q2⟩ | ⟨q1, q2, q3⟩ | ⟨q1, q2⟩ | ⟨q1, q2⟩ <;> omega
    have loop : ∀ r j, j + r = chs.length → tk_sg (tk_c tp z i) chs fi = tk_sg (tk_c tp z i) (chs.drop j) (fi + j) → hf_G X Y_X5_signStep (d + 4) k n 12 [some (.ref 123), some (.ref (1 + si)), some (.int (nI fi)), some (.int (nI j))] [] (t, T, I, L, P) Q := by
      intro r
      induction r with
      | zero =>
        intro j hj he
        rw [List.drop_eq_nil_of_le (by omega)] at he
        rw [he] at h
        exact w_X5_signStep_12 hs hby hsi ⟨fun _ => h, fun g => absurd (by rw [hl]; exact nI_le (by omega) (by omega)) g⟩
      | succ r ih =>
        intro j hj he
        have hd : chs.drop j = chs.getD j 0 :: chs.drop (j + 1) := by
          rw [List.drop_eq_getElem_cons (by omega)]
          congr 1
          simp [List.getD, List.getElem?_eq_getElem (show j < chs.length by omega)]
        rw [hd, tk_sg] at he
        obtain ⟨c1, c2⟩ := hch j (by omega)
        have eb := tk_by_eq (hb _ hz) c1
        refine w_X5_signStep_12 hs hby hsi ⟨fun g => absurd g (by rw [hl]; exact nI_ge (by omega) (by omega)), fun _ => ?_⟩
        rw [a3, a1, nI_clamp (show tk_s tp z i < 2 ^ 31 by omega), nI_clamp (show j < 2 ^ 31 by omega)]
        refine ⟨vp_in_nI (by omega) (by omega), ⟨nI_pos (by omega), nI_lt (b := hf_sln.getD si 0) (by omega) (by omega), vp_in_nI (by omega) (by omega)⟩, fun g => ?_, fun g => ?_⟩
        · have g' : ¬ tp (tk_s tp z i) = nI (chs.getD j 0) := fun q => g (q.trans c2.symm)
          rw [if_neg (by rw [ec]; intro q; exact g' (eb.mpr (by omega)))] at he
          rw [nI_1]
          exact ih (j + 1) (by omega) he
        · have g' : tp (tk_s tp z i) = nI (chs.getD j 0) := g.trans c2
          rw [if_pos (by rw [ec, eb.mp g'])] at he
          rw [he] at h
          rw [nI_add]
          exact h
    exact loop chs.length 0 (by omega) rfl
  · rw [e1] at q
    rw [tk_sg_no (by rcases tk_c_cs tp z i with ⟨q1, q2⟩ | ⟨q1, q2, q3⟩ | ⟨q1, q2⟩ | ⟨q1, q2⟩ <;> omega)] at h
    exact h
/-! the same for each of the class's text constants -/
theorem tk_sg_6 (c : Nat) : tk_oI (tk_sg c [60, 62, 61] 7) = if gr_o6 c = 0 then -1 else nI (gr_o6 c) := by
  unfold gr_o6
  simp only [tk_sg]
  by_cases h1 : c = 160
  · simp [h1, tk_oI]
  · by_cases h2 : c = 162
    · simp [h2, tk_oI]
    · by_cases h3 : c = 161
      · simp [h3, tk_oI]
      · simp [h1, h2, h3, tk_oI]
theorem tk_sg_4 (c : Nat) : tk_oI (tk_sg c [43, 45] 2) = if gr_o4 c = 0 then -1 else nI (gr_o4 c) := by
  unfold gr_o4
  simp only [tk_sg]
  by_cases h1 : c = 143
  · simp [h1, tk_oI]
  · by_cases h2 : c = 145
    · simp [h2, tk_oI]
    · simp [h1, h2, tk_oI]
theorem tk_sg_2 (c : Nat) : tk_oI (tk_sg c [42, 47, 37] 4) = if gr_o2 c = 0 then -1 else nI (gr_o2 c) := by
  unfold gr_o2
  simp only [tk_sg]
  by_cases h1 : c = 142
  · simp [h1, tk_oI]
  · by_cases h2 : c = 147
    · simp [h2, tk_oI]
    · by_cases h3 : c = 137
      · simp [h3, tk_oI]
      · simp [h1, h2, h3, tk_oI]
theorem cw_6 {i : Nat} (hs : hf_Lay t T P) (hby : P 123 2 = some 122) (hz4 : z ≤ 400) (hb : tk_byte tp z) (ha : pc_at tp z i I) (h : Q (some (.int (if gr_o6 (tk_c tp z i) = 0 then -1 else nI (gr_o6 (tk_c tp z i))))) (t, T, I, L, P)) : hf_G X Y_X5_signStep (d + 4) k n 0 (hf_en [.ref 123, .ref 8, .int 7] 4) [] (t, T, I, L, P) Q := by
  rw [← tk_sg_6] at h
  exact ca_signStep (si := 7) (fi := 7) (chs := [60, 62, 61]) hs hby hz4 hb (by decide) (by decide) (by decide) (by decide) ha h
theorem cw_4 {i : Nat} (hs : hf_Lay t T P) (hby : P 123 2 = some 122) (hz4 : z ≤ 400) (hb : tk_byte tp z) (ha : pc_at tp z i I) (h : Q (some (.int (if gr_o4 (tk_c tp z i) = 0 then -1 else nI (gr_o4 (tk_c tp z i))))) (t, T, I, L, P)) : hf_G X Y_X5_signStep (d + 4) k n 0 (hf_en [.ref 123, .ref 9, .int 2] 4) [] (t, T, I, L, P) Q := by
  rw [← tk_sg_4] at h
  exact ca_signStep (si := 8) (fi := 2) (chs := [43, 45]) hs hby hz4 hb (by decide) (by decide) (by decide) (by decide) ha h
theorem cw_2 {i : Nat} (hs : hf_Lay t T P) (hby : P 123 2 = some 122) (hz4 : z ≤ 400) (hb : tk_byte tp z) (ha : pc_at tp z i I) (h : Q (some (.int (if gr_o2 (tk_c tp z i) = 0 then -1 else nI (gr_o2 (tk_c tp z i))))) (t, T, I, L, P)) : hf_G X Y_X5_signStep (d + 4) k n 0 (hf_en [.ref 123, .ref 10, .int 4] 4) [] (t, T, I, L, P) Q := by
  rw [← tk_sg_2] at h
  exact ca_signStep (si := 9) (fi := 4) (chs := [42, 47, 37]) hs hby hz4 hb (by decide) (by decide) (by decide) (by decide) ha h
theorem cw_times {i : Nat} (hs : hf_Lay t T P) (hby : P 123 2 = some 122) (hz4 : z ≤ 400) (ha : pc_at tp z i I) (h : Q (some (.int (hf_b (decide (tk_c tp z i = 28))))) (t, T, I, L, P)) : hf_G X Y_X5_isWord (d + 5) k n 0 (hf_en [.ref 123, .ref 3] 2) [] (t, T, I, L, P) Q :=
  ca_isWord (si := 2) (j := 27) hs hby hz4 (by decide) (by decide) (by decide) (by decide) (by decide +kernel) ha h
theorem cw_if {i : Nat} (hs : hf_Lay t T P) (hby : P 123 2 = some 122) (hz4 : z ≤ 400) (ha : pc_at tp z i I) (h : Q (some (.int (hf_b (decide (tk_c tp z i = 4))))) (t, T, I, L, P)) : hf_G X Y_X5_isWord (d + 5) k n 0 (hf_en [.ref 123, .ref 4] 2) [] (t, T, I, L, P) Q :=
  ca_isWord (si := 3) (j := 3) hs hby hz4 (by decide) (by decide) (by decide) (by decide) (by decide +kernel) ha h
theorem cw_or {i : Nat} (hs : hf_Lay t T P) (hby : P 123 2 = some 122) (hz4 : z ≤ 400) (ha : pc_at tp z i I) (h : Q (some (.int (hf_b (decide (tk_c tp z i = 5))))) (t, T, I, L, P)) : hf_G X Y_X5_isWord (d + 5) k n 0 (hf_en [.ref 123, .ref 5] 2) [] (t, T, I, L, P) Q :=
  ca_isWord (si := 4) (j := 4) hs hby hz4 (by decide) (by decide) (by decide) (by decide) (by decide +kernel) ha h
theorem cw_and {i : Nat} (hs : hf_Lay t T P) (hby : P 123 2 = some 122) (hz4 : z ≤ 400) (ha : pc_at tp z i I) (h : Q (some (.int (hf_b (decide (tk_c tp z i = 6))))) (t, T, I, L, P)) : hf_G X Y_X5_isWord (d + 5) k n 0 (hf_en [.ref 123, .ref 6] 2) [] (t, T, I, L, P) Q :=
  ca_isWord (si := 5) (j := 5) hs hby hz4 (by decide) (by decide) (by decide) (by decide) (by decide +kernel) ha h
theorem cw_not {i : Nat} (hs : hf_Lay t T P) (hby : P 123 2 = some 122) (hz4 : z ≤ 400) (ha : pc_at tp z i I) (h : Q (some (.int (hf_b (decide (tk_c tp z i = 7))))) (t, T, I, L, P)) : hf_G X Y_X5_isWord (d + 5) k n 0 (hf_en [.ref 123, .ref 7] 2) [] (t, T, I, L, P) Q :=
  ca_isWord (si := 6) (j := 6) hs hby hz4 (by decide) (by decide) (by decide) (by decide) (by decide +kernel) ha h
theorem cw_lc {i : Nat} (hs : hf_Lay t T P) (hby : P 123 2 = some 122) (hz4 : z ≤ 400) (ha : pc_at tp z i I) (h : Q (some (.int (tk_oI (tk_pj (tk_c tp z i) [0, 1, 2] 0)))) (t, T, I, L, P)) : hf_G X Y_X5_placeIn (d + 5) k n 0 (hf_en [.ref 123, .ref 1] 5) [] (t, T, I, L, P) Q :=
  ca_placeIn (si := 0) hs hby hz4 (by decide) (by decide) (by decide) (by simp only [tk_lay, List.map]; decide +kernel) ha h
theorem cw_sc {i : Nat} (hs : hf_Lay t T P) (hby : P 123 2 = some 122) (hz4 : z ≤ 400) (ha : pc_at tp z i I) (h : Q (some (.int (tk_oI (tk_pj (tk_c tp z i) [24, 25, 26, 17] 0)))) (t, T, I, L, P)) : hf_G X Y_X5_placeIn (d + 5) k n 0 (hf_en [.ref 123, .ref 2] 5) [] (t, T, I, L, P) Q :=
  ca_placeIn (si := 1) hs hby hz4 (by decide) (by decide) (by decide) (by simp only [tk_lay, List.map]; decide +kernel) ha h
theorem cw_lw {i : Nat} (hs : hf_Lay t T P) (hby : P 123 2 = some 122) (hz4 : z ≤ 400) (ha : pc_at tp z i I) (h : Q (some (.int (tk_oI (tk_pj (tk_c tp z i) [7, 8, 9, 10, 11, 12, 13, 14, 15, 16, 17, 18, 19] 0)))) (t, T, I, L, P)) : hf_G X Y_X5_placeIn (d + 5) k n 0 (hf_en [.ref 123, .ref 11] 5) [] (t, T, I, L, P) Q :=
  ca_placeIn (si := 10) (us := [7, 8, 9, 10, 11, 12, 13, 14, 15, 16, 17, 18, 19]) hs hby hz4 (by decide) (by decide) (by decide) ⟨by decide +kernel, by decide +kernel, by decide +kernel, by decide +kernel, by decide +kernel, by decide +kernel, by decide +kernel, by decide +kernel, by decide +kernel, by decide +kernel, by decide +kernel, by decide +kernel, by decide +kernel, by decide +kernel⟩ ha h
theorem cw_sw {i : Nat} (hs : hf_Lay t T P) (hby : P 123 2 = some 122) (hz4 : z ≤ 400) (ha : pc_at tp z i I) (h : Q (some (.int (tk_oI (tk_pj (tk_c tp z i) [20, 12, 21, 22, 17, 23, 8] 0)))) (t, T, I, L, P)) : hf_G X Y_X5_placeIn (d + 5) k n 0 (hf_en [.ref 123, .ref 12] 5) [] (t, T, I, L, P) Q :=
  ca_placeIn (si := 11) hs hby hz4 (by decide) (by decide) (by decide) (by simp only [tk_lay, List.map]; decide +kernel) ha h
end LEX
