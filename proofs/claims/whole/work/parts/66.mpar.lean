/-! the model's reader of TEXTS goes as the grammar says -/
def mp_fr (I0 I : hf_I) : Prop := (∀ a, ¬ a = 156 → I a = I0 a) ∧ ∀ j, ¬ j = 16 → ¬ j = 17 → ¬ j = 18 → I 156 j = I0 156 j
def mp_st (I0 : hf_I) (i lv : Nat) (I : hf_I) : Prop := mp_fr I0 I ∧ I 156 16 = nI i ∧ I 156 17 = nI lv ∧ I 156 18 = -1
def mp_bd (I0 : hf_I) (s : Nat) (I : hf_I) : Prop := mp_fr I0 I ∧ I 156 18 = nI s
/-- the row of TOKENS lies there -/
def mp_tk (I0 : hf_I) (c v s : Nat → Nat) (m : Nat) : Prop := m ≤ 400 ∧ (∀ j, m ≤ j → c j = 0) ∧ ∀ k, k ≤ m → (I0 165 k = nI (c k) ∧ c k < 1000) ∧ (I0 166 k = nI (v k) ∧ v k < 100000000) ∧ (I0 167 k = nI (s k) ∧ s k ≤ 400)
def mp_po (I0 : hf_I) (s : Nat → Nat) (t : Nat) (T : hf_T) (L : hf_L) (P : hf_P) (r : gr_r) (Q : Option Value → hf_M → Prop) : Prop := (r.1 = 2 → ∀ I', mp_st I0 r.2.1 r.2.2.1 I' → Q none (t, T, I', L, P)) ∧ (r.1 = 1 → ∀ I', mp_bd I0 (s r.2.1) I' → Q none (t, T, I', L, P))
theorem mp_fr_up {I0 I : hf_I} {j : Nat} {w : Int32} (hj : j = 16 ∨ j = 17 ∨ j = 18) (h : mp_fr I0 I) : mp_fr I0 (hf_up I 156 j w) := by
  refine ⟨fun a ha => ?_, fun i h1 h2 h3 => ?_⟩
  · rw [← h.1 a ha]
    simp [hf_up, ha]
  · rw [← h.2 i h1 h2 h3]
    show upd (I 156) j w i = I 156 i
    exact hf_upd_ne (by omega)
section MPAR
variable {X : hf_X} {d k n t : Nat} {T : hf_T} {I I0 : hf_I} {L : hf_L} {P : hf_P} {Q : Option Value → hf_M → Prop} {c v s : Nat → Nat} {m i lv : Nat}
theorem mp_no {b : Nat} (hb : b ≤ 400) (h : mp_bd I0 b I) : ¬ I 156 18 = -1 := by rw [h.2]; exact hf_nm1 (by omega)
theorem md_takes {x : Int32} (hs : hf_Lay t T P) (hb : ¬ I 156 18 = -1) (h : Q (some (.int 0)) (t, T, I, L, P)) : hf_G X Y_X12_takes0 (d + 1) k n 0 (hf_en [.ref 156, .int x] 3) [] (t, T, I, L, P) Q :=
  w_X12_takes0_0 hs ⟨fun _ => h, fun q => absurd q hb⟩
theorem mt_takes {ch : Nat} (hs : hf_Lay t T P) (htk : mp_tk I0 c v s m) (hi : i ≤ m) (hc : ch < 1000) (hst : mp_st I0 i lv I) (h1 : c i = ch → ∀ I', mp_st I0 (i + 1) lv I' → Q (some (.int 1)) (t, T, I', L, P)) (h0 : ¬ c i = ch → Q (some (.int 0)) (t, T, I, L, P)) : hf_G X Y_X12_takes0 (d + 1) k n 0 (hf_en [.ref 156, .int (nI ch)] 3) [] (t, T, I, L, P) Q := by
  obtain ⟨f, g1, g2, g3⟩ := id hst
  obtain ⟨m4, -, tk⟩ := htk
  obtain ⟨⟨a1, a2⟩, -⟩ := tk i hi
  have e : I 165 i = nI (c i) := by rw [f.1 165 (by omega)]; exact a1
  refine w_X12_takes0_0 hs ⟨fun q => absurd g3 q, fun _ => ?_⟩
  rw [g1, nI_clamp (by omega), e, nI_1]
  refine ⟨vp_in_nI (by omega) (by omega), fun q => h0 fun z => q (by rw [z]), fun q => h1 ((nI_eq (by omega) (by omega)).mp q) _ ⟨mp_fr_up (Or.inl rfl) f, rfl, g2, g3⟩⟩
theorem md_must {x : Int32} (hs : hf_Lay t T P) (hb : ¬ I 156 18 = -1) (h : Q none (t, T, I, L, P)) : hf_G X Y_X12_must (d + 2) k n 0 (hf_en [.ref 156, .int x] 2) [] (t, T, I, L, P) Q :=
  w_X12_must_0 hs (md_takes hs hb (w_X12_must_5 hs ⟨fun _ => h, fun _ => ⟨fun _ => h, fun q => absurd q hb⟩⟩))
theorem mt_fault (htk : mp_tk I0 c v s m) (hi : i ≤ m) (hst : mp_st I0 i lv I) : mp_bd I0 (s i) (hf_up I 156 18 (I 167 i)) := by
  refine ⟨mp_fr_up (Or.inr (Or.inr rfl)) hst.1, ?_⟩
  show I 167 i = nI (s i)
  rw [hst.1.1 167 (by omega)]
  exact (htk.2.2 i hi).2.2.1
theorem mt_must {ch : Nat} (hs : hf_Lay t T P) (htk : mp_tk I0 c v s m) (hi : i ≤ m) (hc : ch < 1000) (hst : mp_st I0 i lv I) (h1 : c i = ch → ∀ I', mp_st I0 (i + 1) lv I' → Q none (t, T, I', L, P)) (h0 : ¬ c i = ch → ∀ I', mp_bd I0 (s i) I' → Q none (t, T, I', L, P)) : hf_G X Y_X12_must (d + 2) k n 0 (hf_en [.ref 156, .int (nI ch)] 2) [] (t, T, I, L, P) Q := by
  refine w_X12_must_0 hs (mt_takes hs htk hi hc hst (fun e I' h' => w_X12_must_5 hs ⟨fun _ => h1 e I' h', fun q => absurd q (by decide)⟩) fun e => w_X12_must_5 hs ⟨fun q => absurd rfl q, fun _ => ⟨fun q => absurd hst.2.2.2 q, fun _ => ?_⟩⟩)
  have := htk.1
  rw [hst.2.1, nI_clamp (by omega)]
  exact ⟨vp_in_nI (by omega) (by omega), h0 e _ (mt_fault htk hi hst)⟩
theorem mt_leaf (hs : hf_Lay t T P) (htk : mp_tk I0 c v s m) (hi : i ≤ m) (hlv : lv ≤ 50) (hst : mp_st I0 i lv I) (h1 : ¬ lv = 50 → ∀ I', mp_st I0 (i + 1) (lv + 1) I' → Q none (t, T, I', L, P)) (h0 : lv = 50 → ∀ I', mp_bd I0 (s i) I' → Q none (t, T, I', L, P)) : hf_G X Y_X12_leaf (d + 2) k n 0 (hf_en [.ref 156] 1) [] (t, T, I, L, P) Q := by
  obtain ⟨f, g1, g2, g3⟩ := id hst
  have hm := htk.1
  have h5 : (nI lv = 50) ↔ lv = 50 := nI_eq (b := 50) (by omega) (by omega)
  obtain ⟨-, -, b1, b2⟩ := htk.2.2 i hi
  have e7 : I 167 i = nI (s i) := by rw [f.1 167 (by omega)]; exact b1
  refine w_X12_leaf_0 hs ?_
  rw [g1, g2, nI_clamp (by omega), e7, nI_1, nI_1]
  refine ⟨fun q => ⟨fun z => absurd g3 z, fun _ => h1 (fun z => q (h5.mpr z)) _ ⟨mp_fr_up (Or.inl rfl) (mp_fr_up (Or.inr (Or.inl rfl)) f), rfl, rfl, g3⟩⟩, fun q => ⟨fun z => absurd g3 z, fun _ => ⟨vp_in_nI (by omega) (by omega), fun _ => h0 (h5.mp q) _ ⟨mp_fr_up (Or.inr (Or.inl rfl)) (mp_fr_up (Or.inr (Or.inr rfl)) f), rfl⟩, fun z => absurd z (hf_nm1 (by omega))⟩⟩⟩
theorem md_mustNumber {x y : Int32} (hs : hf_Lay t T P) (hb : ¬ I 156 18 = -1) (h : Q none (t, T, I, L, P)) : hf_G X Y_X12_mustNumber (d + 2) k n 0 (hf_en [.ref 156, .int x, .int y] 3) [] (t, T, I, L, P) Q :=
  w_X12_mustNumber_0 hs ⟨fun _ => ⟨fun _ => h, fun q => absurd q hb⟩, fun q => absurd q hb⟩
theorem mt_mustNumber {lo hi2 : Nat} (hs : hf_Lay t T P) (htk : mp_tk I0 c v s m) (hi : i ≤ m) (hlo : lo < 1000) (hhi : hi2 < 1000) (hst : mp_st I0 i lv I) (h1 : c i = 50 ∧ lo ≤ v i ∧ v i ≤ hi2 → ∀ I', mp_st I0 (i + 1) lv I' → Q none (t, T, I', L, P)) (h0 : ¬ (c i = 50 ∧ lo ≤ v i ∧ v i ≤ hi2) → ∀ I', mp_bd I0 (s i) I' → Q none (t, T, I', L, P)) : hf_G X Y_X12_mustNumber (d + 2) k n 0 (hf_en [.ref 156, .int (nI lo), .int (nI hi2)] 3) [] (t, T, I, L, P) Q := by
  obtain ⟨f, g1, g2, g3⟩ := id hst
  have hm := htk.1
  obtain ⟨⟨a1, a2⟩, ⟨c1, c2⟩, b1, b2⟩ := htk.2.2 i hi
  have e5 : I 165 i = nI (c i) := by rw [f.1 165 (by omega)]; exact a1
  have e6 : I 166 i = nI (v i) := by rw [f.1 166 (by omega)]; exact c1
  have e7 : I 167 i = nI (s i) := by rw [f.1 167 (by omega)]; exact b1
  have hf := fun q => h0 q _ (mt_fault htk hi hst)
  rw [e7] at hf
  have nin : vp_in (nI i) 401 := vp_in_nI (by omega) (by omega)
  have bad : ∀ q : ¬ (c i = 50 ∧ lo ≤ v i ∧ v i ≤ hi2), (¬ I 156 18 = -1 → (¬ I 156 18 = -1 → Q none (t, T, I, L, P)) ∧ (I 156 18 = -1 → Q none (t, T, hf_up I 156 16 (nI (i + 1)), L, P))) ∧ (I 156 18 = -1 → vp_in (nI i) 401 ∧ ((¬ nI (s i) = -1 → Q none (t, T, hf_up I 156 18 (nI (s i)), L, P)) ∧ (nI (s i) = -1 → Q none (t, T, hf_up (hf_up I 156 18 (nI (s i))) 156 16 (nI (i + 1)), L, P)))) := fun q => ⟨fun z => absurd g3 z, fun _ => ⟨nin, fun _ => hf q, fun z => absurd z (hf_nm1 (by omega))⟩⟩
  have l1 : (nI (v i) < nI lo) ↔ v i < lo := nI_ltI (by omega) (by omega)
  have l2 : (nI hi2 < nI (v i)) ↔ hi2 < v i := nI_ltI (by omega) (by omega)
  have l3 : (nI (c i) = 50) ↔ c i = 50 := nI_eq (b := 50) (by omega) (by omega)
  refine w_X12_mustNumber_0 hs ?_
  rw [g1, nI_clamp (by omega), e5, e6, e7, nI_1, l1, l2, l3]
  refine ⟨fun q => absurd g3 q, fun _ => ⟨nin, fun q => bad (by omega), fun q => ⟨nin, fun q2 => bad (by omega), fun q2 => ⟨fun q3 => bad (by omega), fun q3 => ⟨fun z => absurd g3 z, fun _ => h1 ⟨q, by omega, by omega⟩ _ ⟨mp_fr_up (Or.inl rfl) f, rfl, g2, g3⟩⟩⟩⟩⟩⟩
theorem mt_isValue {S : Bool} {cc : Nat} (hs : hf_Lay t T P) (hc : cc < 1000) (hS : I 156 7 = if S = true then 1 else 0) (h1 : gr_isv S cc = true → Q (some (.int 1)) (t, T, I, L, P)) (h0 : ¬ gr_isv S cc = true → Q (some (.int 0)) (t, T, I, L, P)) : hf_G X Y_X12_isValue (d + 1) k n 0 (hf_en [.ref 156, .int (nI cc)] 2) [] (t, T, I, L, P) Q := by
  have l8 : (nI cc < 8) ↔ cc < 8 := nI_ltI (b := 8) (by omega) (by omega)
  have l20 : (20 < nI cc) ↔ 20 < cc := nI_ltI (a := 20) (by omega) (by omega)
  have l21 : (nI cc < 21) ↔ cc < 21 := nI_ltI (b := 21) (by omega) (by omega)
  have l24 : (24 < nI cc) ↔ 24 < cc := nI_ltI (a := 24) (by omega) (by omega)
  have q9 : (nI cc = 9) ↔ cc = 9 := nI_eq (b := 9) (by omega) (by omega)
  have q13 : (nI cc = 13) ↔ cc = 13 := nI_eq (b := 13) (by omega) (by omega)
  have q18 : (nI cc = 18) ↔ cc = 18 := nI_eq (b := 18) (by omega) (by omega)
  refine w_X12_isValue_0 hs ?_
  rw [hS, l8, l20, l21, l24, q9, q13, q18]
  cases S with
  | false =>
    simp only [gr_isv, Bool.and_eq_true, Nat.ble_eq] at h1 h0
    exact ⟨fun _ => ⟨fun q => h0 (by omega), fun q => ⟨fun q => h0 (by omega), fun q => h1 (by omega)⟩⟩, fun q => absurd rfl q⟩
  | true =>
    simp only [gr_isv, Bool.or_eq_true, Bool.and_eq_true, beq_iff_eq, Nat.ble_eq] at h1 h0
    exact ⟨fun q => absurd q (by decide), fun _ => ⟨fun q => h1 (by omega), fun _ => ⟨fun q => h1 (by omega), fun _ => ⟨fun q => h1 (by omega), fun _ => ⟨fun q => h0 (by omega), fun _ => ⟨fun q => h0 (by omega), fun q => h1 (by omega)⟩⟩⟩⟩⟩⟩
/-! behind a fault all goes through without doing anything -/
theorem md_part {x : Int32} (hs : hf_Lay t T P) (hb : ¬ I 156 18 = -1) (h : Q none (t, T, I, L, P)) : hf_G X Y_X12_readPart (d + 2) k n 0 (hf_en [.ref 156, .int x] 3) [] (t, T, I, L, P) Q := w_X12_readPart_0 hs ⟨fun _ => h, fun q => absurd q hb⟩
theorem md_term5 {x : Int32} (hs : hf_Lay t T P) (hb : ¬ I 156 18 = -1) (h : Q none (t, T, I, L, P)) : hf_G X Y_X12_readTerm (d + 2) k n 5 [some (.ref 156), some (.int x)] [] (t, T, I, L, P) Q :=
  w_X12_readTerm_5 hs (md_takes hs hb (w_X12_readTerm_14 hs ⟨fun q => absurd rfl q, fun _ => md_takes hs hb (w_X12_readTerm_26 hs ⟨fun q => absurd rfl q, fun _ => md_takes hs hb (w_X12_readTerm_38 hs ⟨fun _ => h, fun q => absurd rfl q⟩)⟩)⟩))
theorem md_term {x : Int32} (hs : hf_Lay t T P) (hb : ¬ I 156 18 = -1) (h : Q none (t, T, I, L, P)) : hf_G X Y_X12_readTerm (d + 3) k n 0 (hf_en [.ref 156, .int x] 2) [] (t, T, I, L, P) Q := w_X12_readTerm_0 hs (md_part hs hb (md_term5 hs hb h))
theorem md_sum5 {x : Int32} (hs : hf_Lay t T P) (hb : ¬ I 156 18 = -1) (h : Q none (t, T, I, L, P)) : hf_G X Y_X12_readSum (d + 2) k n 5 [some (.ref 156), some (.int x)] [] (t, T, I, L, P) Q :=
  w_X12_readSum_5 hs (md_takes hs hb (w_X12_readSum_14 hs ⟨fun q => absurd rfl q, fun _ => md_takes hs hb (w_X12_readSum_26 hs ⟨fun _ => h, fun q => absurd rfl q⟩)⟩))
theorem md_sum {x : Int32} (hs : hf_Lay t T P) (hb : ¬ I 156 18 = -1) (h : Q none (t, T, I, L, P)) : hf_G X Y_X12_readSum (d + 4) k n 0 (hf_en [.ref 156, .int x] 2) [] (t, T, I, L, P) Q := w_X12_readSum_0 hs (md_term hs hb (md_sum5 hs hb h))
theorem md_plain2 {x y : Int32} (hs : hf_Lay t T P) (hb : ¬ I 156 18 = -1) (h : Q none (t, T, I, L, P)) : hf_G X Y_X12_readPlain (d + 2) k n 2 [some (.ref 156), some (.int x), some (.int y), none] [] (t, T, I, L, P) Q := by
  have h0 : hf_G X Y_X12_readPlain (d + 2) k n 2 [some (.ref 156), some (.int x), some (.int 0), none] [] (t, T, I, L, P) Q := w_X12_readPlain_2 hs ⟨fun _ => ⟨fun _ => h, fun q => absurd q hb⟩, fun q => absurd rfl q⟩
  exact w_X12_readPlain_2 hs ⟨fun _ => ⟨fun _ => h, fun q => absurd q hb⟩, fun _ => md_takes hs hb (w_X12_readPlain_12 hs h0)⟩
theorem md_plain {x : Int32} (hs : hf_Lay t T P) (hb : ¬ I 156 18 = -1) (h : Q none (t, T, I, L, P)) : hf_G X Y_X12_readPlain (d + 2) k n 0 (hf_en [.ref 156, .int x] 4) [] (t, T, I, L, P) Q := w_X12_readPlain_0 hs (md_plain2 hs hb h)
theorem md_both5 {x : Int32} (hs : hf_Lay t T P) (hb : ¬ I 156 18 = -1) (h : Q none (t, T, I, L, P)) : hf_G X Y_X12_readBoth (d + 2) k n 5 [some (.ref 156), some (.int x)] [] (t, T, I, L, P) Q := w_X12_readBoth_5 hs (md_takes hs hb (w_X12_readBoth_11 hs ⟨fun _ => h, fun q => absurd rfl q⟩))
theorem md_both {x : Int32} (hs : hf_Lay t T P) (hb : ¬ I 156 18 = -1) (h : Q none (t, T, I, L, P)) : hf_G X Y_X12_readBoth (d + 3) k n 0 (hf_en [.ref 156, .int x] 2) [] (t, T, I, L, P) Q := w_X12_readBoth_0 hs (md_plain hs hb (md_both5 hs hb h))
theorem md_test5 {x : Int32} (hs : hf_Lay t T P) (hb : ¬ I 156 18 = -1) (h : Q none (t, T, I, L, P)) : hf_G X Y_X12_readTest (d + 2) k n 5 [some (.ref 156), some (.int x)] [] (t, T, I, L, P) Q := w_X12_readTest_5 hs (md_takes hs hb (w_X12_readTest_10 hs ⟨fun _ => h, fun q => absurd rfl q⟩))
theorem md_test {x : Int32} (hs : hf_Lay t T P) (hb : ¬ I 156 18 = -1) (h : Q none (t, T, I, L, P)) : hf_G X Y_X12_readTest (d + 4) k n 0 (hf_en [.ref 156, .int x] 2) [] (t, T, I, L, P) Q := w_X12_readTest_0 hs (md_both hs hb (md_test5 hs hb h))
/-- the outcome of one reading is handed on -/
theorem mp_po_bd {r : gr_r} {f : Nat → Nat → gr_cd → gr_dn → gr_r} {Q1 : Option Value → hf_M → Prop} (h : mp_po I0 s t T L P (gr_bd r f) Q) (hgood : ∀ I', r.1 = 2 → mp_st I0 r.2.1 r.2.2.1 I' → mp_po I0 s t T L P (f r.2.1 r.2.2.1 r.2.2.2.1 r.2.2.2.2) Q → Q1 none (t, T, I', L, P)) (hbad : ∀ I', r.1 = 1 → mp_bd I0 (s r.2.1) I' → Q none (t, T, I', L, P) → Q1 none (t, T, I', L, P)) : mp_po I0 s t T L P r Q1 := by
  refine ⟨fun e I' hst => ?_, fun e I' h1 => ?_⟩
  · refine hgood I' e hst ?_
    rw [gr_bd_2 e] at h
    exact h
  · rw [gr_bd_1 e] at h
    exact hbad I' e h1 (h.2 e I' h1)
end MPAR
section MPAR
variable (X : hf_X) (t : Nat) (T : hf_T) (L : hf_L) (P : hf_P) (I0 : hf_I) (c v s : Nat → Nat) (m : Nat) (S : Bool)
def cm_e (Y : hf_Y) (nL nt n : Nat) : Prop := ∀ (dp k lv : Nat) (a : gr_dn) (I : hf_I) (Q : Option Value → hf_M → Prop) (D kk nn : Nat), n + 6 ≤ D → dp ≤ 8 → lv ≤ 50 → k ≤ m → mp_st I0 k lv I → (gr_ps S c v n nt 0 dp k lv a).1 ≠ 0 → mp_po I0 s t T L P (gr_ps S c v n nt 0 dp k lv a) Q → hf_G X Y D kk nn 0 (hf_en [.ref 156, .int (nI dp)] nL) [] (t, T, I, L, P) Q
def cm_o (Y : hf_Y) (nt n : Nat) : Prop := ∀ (dp k lv : Nat) (a : gr_dn) (I : hf_I) (Q : Option Value → hf_M → Prop) (D kk nn : Nat), n + 6 ≤ D → dp ≤ 8 → lv ≤ 50 → k ≤ m → mp_st I0 k lv I → (gr_ps S c v n nt 0 dp k lv a).1 ≠ 0 → mp_po I0 s t T L P (gr_ps S c v n nt 0 dp k lv a) Q → hf_G X Y D kk nn 5 [some (.ref 156), some (.int (nI dp))] [] (t, T, I, L, P) Q
def cm_5 (n : Nat) : Prop := ∀ (x dp k lv : Nat) (a : gr_dn) (I : hf_I) (Q : Option Value → hf_M → Prop) (D kk nn : Nat), n + 6 ≤ D → dp ≤ 8 → lv ≤ 50 → k ≤ m → mp_st I0 k lv I → (gr_ps S c v n 5 x dp k lv a).1 ≠ 0 → mp_po I0 s t T L P (gr_ps S c v n 5 x dp k lv a) Q → hf_G X Y_X12_readPlain D kk nn 2 [some (.ref 156), some (.int (nI dp)), some (.int 1), none] [] (t, T, I, L, P) Q
def cm_6 (n : Nat) : Prop := ∀ (dp k lv : Nat) (a : gr_dn) (I : hf_I) (Q : Option Value → hf_M → Prop) (D kk nn : Nat), n + 6 ≤ D → dp ≤ 8 → lv ≤ 50 → k ≤ m → mp_st I0 k lv I → (gr_ps S c v n 6 0 dp k lv a).1 ≠ 0 → mp_po I0 s t T L P (gr_ps S c v n 6 0 dp k lv a) Q → hf_G X Y_X12_readPlain D kk nn 2 [some (.ref 156), some (.int (nI dp)), some (.int 0), none] [] (t, T, I, L, P) Q
def cm_all (n : Nat) : Prop := cm_e X t T L P I0 c v s m S Y_X12_readPart 3 0 n ∧ cm_e X t T L P I0 c v s m S Y_X12_readTerm 2 1 n ∧ cm_o X t T L P I0 c v s m S Y_X12_readTerm 2 n ∧ cm_e X t T L P I0 c v s m S Y_X12_readSum 2 3 n ∧ cm_o X t T L P I0 c v s m S Y_X12_readSum 4 n ∧ cm_5 X t T L P I0 c v s m S n ∧ cm_6 X t T L P I0 c v s m S n ∧ cm_e X t T L P I0 c v s m S Y_X12_readBoth 2 7 n ∧ cm_o X t T L P I0 c v s m S Y_X12_readBoth 8 n ∧ cm_e X t T L P I0 c v s m S Y_X12_readTest 2 9 n ∧ cm_o X t T L P I0 c v s m S Y_X12_readTest 10 n
variable {X t T L P I0 c v s m S} {n : Nat}
theorem mp_top (htk : mp_tk I0 c v s m) {nt x dp k lv : Nat} {a : gr_dn} (hnt : nt ≤ 10) (hk : k ≤ m) (h : (gr_ps S c v n nt x dp k lv a).1 ≠ 0) : (gr_ps S c v n nt x dp k lv a).2.1 ≤ m := gr_ps_top htk.2.1 n nt x dp k lv a hnt hk h
theorem mp_lt (htk : mp_tk I0 c v s m) {k : Nat} (h : ¬ c k = 0) : k < m := by
  rcases Nat.lt_or_ge k m with q | q
  · exact q
  · exact absurd (htk.2.1 k q) h
theorem mp_s4 (htk : mp_tk I0 c v s m) {k : Nat} (h : k ≤ m) : s k ≤ 400 := (htk.2.2 k h).2.2.2

theorem cm_1s (hs : hf_Lay t T P) (htk : mp_tk I0 c v s m) (ih : cm_all X t T L P I0 c v s m S n) : cm_e X t T L P I0 c v s m S Y_X12_readTerm 2 1 (n + 1) := by
  intro dp k lv a I Q D kk nn hD hdp hlv hkm hst hne hpo
  obtain ⟨i0, i1, i2, i3, i4, i5, i6, i7, i8, i9, i10⟩ := ih
  obtain ⟨e, rfl⟩ : ∃ e, D = e + 7 := ⟨D - 7, by omega⟩
  rw [gr_ps_1] at hne hpo
  refine w_X12_readTerm_0 hs (i0 dp k lv a I _ (e + 6) 0 0 (by omega) hdp hlv hkm hst (gr_bd_ne hne) (mp_po_bd hpo (fun I' e1 hst' hpo' => ?_) fun I' e1 hb hq => ?_))
  · have fw := gr_ps_fw (S := S) (c := c) (v := v) n 0 0 dp k lv a (by omega) e1
    refine i2 dp _ _ _ I' Q (e + 7) kk nn (by omega) hdp (fw.2.2.2 hlv) (mp_top htk (by omega) hkm (by omega)) hst' (gr_bd_ne (gr_bd_nz hne e1)) ?_
    exact mp_po_bd hpo' (fun I2 e2 hst2 hpo2 => hpo2.1 rfl _ hst2) fun I2 e2 hb2 hq2 => hq2
  · exact md_term5 hs (mp_no (mp_s4 htk (mp_top htk (by omega) hkm (by omega))) hb) hq

theorem cm_3s (hs : hf_Lay t T P) (htk : mp_tk I0 c v s m) (ih : cm_all X t T L P I0 c v s m S n) : cm_e X t T L P I0 c v s m S Y_X12_readSum 2 3 (n + 1) := by
  intro dp k lv a I Q D kk nn hD hdp hlv hkm hst hne hpo
  obtain ⟨i0, i1, i2, i3, i4, i5, i6, i7, i8, i9, i10⟩ := ih
  obtain ⟨e, rfl⟩ : ∃ e, D = e + 7 := ⟨D - 7, by omega⟩
  rw [gr_ps_3] at hne hpo
  refine w_X12_readSum_0 hs (i1 dp k lv a I _ (e + 6) 0 0 (by omega) hdp hlv hkm hst (gr_bd_ne hne) (mp_po_bd hpo (fun I' e1 hst' hpo' => ?_) fun I' e1 hb hq => ?_))
  · have fw := gr_ps_fw (S := S) (c := c) (v := v) n 1 0 dp k lv a (by omega) e1
    refine i4 dp _ _ _ I' Q (e + 7) kk nn (by omega) hdp (fw.2.2.2 hlv) (mp_top htk (by omega) hkm (by omega)) hst' (gr_bd_ne (gr_bd_nz hne e1)) ?_
    exact mp_po_bd hpo' (fun I2 e2 hst2 hpo2 => hpo2.1 rfl _ hst2) fun I2 e2 hb2 hq2 => hq2
  · exact md_sum5 hs (mp_no (mp_s4 htk (mp_top htk (by omega) hkm (by omega))) hb) hq

theorem cm_7s (hs : hf_Lay t T P) (htk : mp_tk I0 c v s m) (ih : cm_all X t T L P I0 c v s m S n) : cm_e X t T L P I0 c v s m S Y_X12_readBoth 2 7 (n + 1) := by
  intro dp k lv a I Q D kk nn hD hdp hlv hkm hst hne hpo
  obtain ⟨i0, i1, i2, i3, i4, i5, i6, i7, i8, i9, i10⟩ := ih
  obtain ⟨e, rfl⟩ : ∃ e, D = e + 7 := ⟨D - 7, by omega⟩
  rw [gr_ps_7] at hne hpo
  refine w_X12_readBoth_0 hs (w_X12_readPlain_0 hs (i5 0 dp k lv a I _ (e + 6) 0 0 (by omega) hdp hlv hkm hst (gr_bd_ne hne) (mp_po_bd hpo (fun I' e1 hst' hpo' => ?_) fun I' e1 hb hq => ?_)))
  · have fw := gr_ps_fw (S := S) (c := c) (v := v) n 5 0 dp k lv a (by omega) e1
    refine i8 dp _ _ _ I' Q (e + 7) kk nn (by omega) hdp (fw.2.2.2 hlv) (mp_top htk (by omega) hkm (by omega)) hst' (gr_bd_ne (gr_bd_nz hne e1)) ?_
    exact mp_po_bd hpo' (fun I2 e2 hst2 hpo2 => hpo2.1 rfl _ hst2) fun I2 e2 hb2 hq2 => hq2
  · exact md_both5 hs (mp_no (mp_s4 htk (mp_top htk (by omega) hkm (by omega))) hb) hq

theorem cm_9s (hs : hf_Lay t T P) (htk : mp_tk I0 c v s m) (ih : cm_all X t T L P I0 c v s m S n) : cm_e X t T L P I0 c v s m S Y_X12_readTest 2 9 (n + 1) := by
  intro dp k lv a I Q D kk nn hD hdp hlv hkm hst hne hpo
  obtain ⟨i0, i1, i2, i3, i4, i5, i6, i7, i8, i9, i10⟩ := ih
  obtain ⟨e, rfl⟩ : ∃ e, D = e + 7 := ⟨D - 7, by omega⟩
  rw [gr_ps_9] at hne hpo
  refine w_X12_readTest_0 hs (i7 dp k lv a I _ (e + 6) 0 0 (by omega) hdp hlv hkm hst (gr_bd_ne hne) (mp_po_bd hpo (fun I' e1 hst' hpo' => ?_) fun I' e1 hb hq => ?_))
  · have fw := gr_ps_fw (S := S) (c := c) (v := v) n 7 0 dp k lv a (by omega) e1
    refine i10 dp _ _ _ I' Q (e + 7) kk nn (by omega) hdp (fw.2.2.2 hlv) (mp_top htk (by omega) hkm (by omega)) hst' (gr_bd_ne (gr_bd_nz hne e1)) ?_
    exact mp_po_bd hpo' (fun I2 e2 hst2 hpo2 => hpo2.1 rfl _ hst2) fun I2 e2 hb2 hq2 => hq2
  · exact md_test5 hs (mp_no (mp_s4 htk (mp_top htk (by omega) hkm (by omega))) hb) hq

theorem cm_2s (hs : hf_Lay t T P) (htk : mp_tk I0 c v s m) (ih : cm_all X t T L P I0 c v s m S n) : cm_o X t T L P I0 c v s m S Y_X12_readTerm 2 (n + 1) := by
  intro dp k lv a I Q D kk nn hD hdp hlv hkm hst hne hpo
  obtain ⟨i0, i1, i2, i3, i4, i5, i6, i7, i8, i9, i10⟩ := ih
  obtain ⟨e, rfl⟩ : ∃ e, D = e + 7 := ⟨D - 7, by omega⟩
  rw [gr_ps_2] at hne hpo
  have go : ∀ (ho : ¬ gr_o2 (c k) = 0) (I1 : hf_I), mp_st I0 (k + 1) lv I1 → hf_G X Y_X12_readPart (e + 6) 0 0 0 (hf_en [.ref 156, .int (nI dp)] 3) [] (t, T, I1, L, P) (fun r M => hf_G X Y_X12_readTerm (e + 7) kk nn 46 [some (.ref 156), some (.int (nI dp))] (r.toList ++ []) M Q) := by
    intro ho I1 hst1
    rw [if_neg ho] at hne hpo
    have hk : k < m := mp_lt htk (by intro q; rw [q] at ho; exact ho rfl)
    refine i0 dp (k + 1) lv a I1 _ (e + 6) 0 0 (by omega) hdp hlv (by omega) hst1 (gr_bd_ne hne) (mp_po_bd hpo (fun I' e1 hst' hpo' => ?_) fun I' e1 hb hq => ?_)
    · have fw := gr_ps_fw (S := S) (c := c) (v := v) n 0 0 dp (k + 1) lv a (by omega) e1
      refine w_X12_readTerm_46 hs (i2 dp _ _ _ I' Q (e + 7) kk nn (by omega) hdp (fw.2.2.2 hlv) (mp_top htk (by omega) (by omega) (by omega)) hst' (gr_bd_ne (gr_bd_nz hne e1)) ?_)
      exact mp_po_bd hpo' (fun I2 e2 hst2 hpo2 => hpo2.1 rfl _ hst2) fun I2 e2 hb2 hq2 => hq2
    · exact w_X12_readTerm_46 hs (md_term5 hs (mp_no (mp_s4 htk (mp_top htk (by omega) (by omega) (by omega))) hb) hq)
  have no : ∀ (ho : gr_o2 (c k) = 0), Q none (t, T, I, L, P) := by
    intro ho
    rw [if_pos ho] at hpo
    exact hpo.1 rfl _ hst
  refine w_X12_readTerm_5 hs (mt_takes (ch := 142) hs htk hkm (by omega) hst (fun e1 I1 h1 => w_X12_readTerm_14 hs ⟨fun _ => go (by rw [e1]; decide) I1 h1, fun q => absurd q (by decide)⟩) fun q0 => w_X12_readTerm_14 hs ⟨fun q => absurd rfl q, fun _ => mt_takes (ch := 147) hs htk hkm (by omega) hst (fun e1 I1 h1 => w_X12_readTerm_26 hs ⟨fun _ => go (by rw [e1]; decide) I1 h1, fun q => absurd q (by decide)⟩) fun q1 => w_X12_readTerm_26 hs ⟨fun q => absurd rfl q, fun _ => mt_takes (ch := 137) hs htk hkm (by omega) hst (fun e1 I1 h1 => w_X12_readTerm_38 hs ⟨fun q => absurd q (by decide), fun _ => go (by rw [e1]; decide) I1 h1⟩) fun q2 => w_X12_readTerm_38 hs ⟨fun _ => no ?_, fun q => absurd rfl q⟩⟩⟩)
  unfold gr_o2
  simp [q0, q1, q2]

theorem cm_4s (hs : hf_Lay t T P) (htk : mp_tk I0 c v s m) (ih : cm_all X t T L P I0 c v s m S n) : cm_o X t T L P I0 c v s m S Y_X12_readSum 4 (n + 1) := by
  intro dp k lv a I Q D kk nn hD hdp hlv hkm hst hne hpo
  obtain ⟨i0, i1, i2, i3, i4, i5, i6, i7, i8, i9, i10⟩ := ih
  obtain ⟨e, rfl⟩ : ∃ e, D = e + 7 := ⟨D - 7, by omega⟩
  rw [gr_ps_4] at hne hpo
  have go : ∀ (ho : ¬ gr_o4 (c k) = 0) (I1 : hf_I), mp_st I0 (k + 1) lv I1 → hf_G X Y_X12_readTerm (e + 6) 0 0 0 (hf_en [.ref 156, .int (nI dp)] 2) [] (t, T, I1, L, P) (fun r M => hf_G X Y_X12_readSum (e + 7) kk nn 34 [some (.ref 156), some (.int (nI dp))] (r.toList ++ []) M Q) := by
    intro ho I1 hst1
    rw [if_neg ho] at hne hpo
    have hk : k < m := mp_lt htk (by intro q; rw [q] at ho; exact ho rfl)
    refine i1 dp (k + 1) lv a I1 _ (e + 6) 0 0 (by omega) hdp hlv (by omega) hst1 (gr_bd_ne hne) (mp_po_bd hpo (fun I' e1 hst' hpo' => ?_) fun I' e1 hb hq => ?_)
    · have fw := gr_ps_fw (S := S) (c := c) (v := v) n 1 0 dp (k + 1) lv a (by omega) e1
      refine w_X12_readSum_34 hs (i4 dp _ _ _ I' Q (e + 7) kk nn (by omega) hdp (fw.2.2.2 hlv) (mp_top htk (by omega) (by omega) (by omega)) hst' (gr_bd_ne (gr_bd_nz hne e1)) ?_)
      exact mp_po_bd hpo' (fun I2 e2 hst2 hpo2 => hpo2.1 rfl _ hst2) fun I2 e2 hb2 hq2 => hq2
    · exact w_X12_readSum_34 hs (md_sum5 hs (mp_no (mp_s4 htk (mp_top htk (by omega) (by omega) (by omega))) hb) hq)
  have no : ∀ (ho : gr_o4 (c k) = 0), Q none (t, T, I, L, P) := by
    intro ho
    rw [if_pos ho] at hpo
    exact hpo.1 rfl _ hst
  refine w_X12_readSum_5 hs (mt_takes (ch := 143) hs htk hkm (by omega) hst (fun e1 I1 h1 => w_X12_readSum_14 hs ⟨fun _ => go (by rw [e1]; decide) I1 h1, fun q => absurd q (by decide)⟩) fun q0 => w_X12_readSum_14 hs ⟨fun q => absurd rfl q, fun _ => mt_takes (ch := 145) hs htk hkm (by omega) hst (fun e1 I1 h1 => w_X12_readSum_26 hs ⟨fun q => absurd q (by decide), fun _ => go (by rw [e1]; decide) I1 h1⟩) fun q1 => w_X12_readSum_26 hs ⟨fun _ => no ?_, fun q => absurd rfl q⟩⟩)
  unfold gr_o4
  simp [q0, q1]

theorem cm_8s (hs : hf_Lay t T P) (htk : mp_tk I0 c v s m) (ih : cm_all X t T L P I0 c v s m S n) : cm_o X t T L P I0 c v s m S Y_X12_readBoth 8 (n + 1) := by
  intro dp k lv a I Q D kk nn hD hdp hlv hkm hst hne hpo
  obtain ⟨i0, i1, i2, i3, i4, i5, i6, i7, i8, i9, i10⟩ := ih
  obtain ⟨e, rfl⟩ : ∃ e, D = e + 7 := ⟨D - 7, by omega⟩
  rw [gr_ps_8] at hne hpo
  refine w_X12_readBoth_5 hs (mt_takes (ch := 6) hs htk hkm (by omega) hst (fun ho I1 hst1 => w_X12_readBoth_11 hs ⟨fun q => absurd q (by decide), fun _ => ?_⟩) fun ho => w_X12_readBoth_11 hs ⟨fun _ => ?_, fun q => absurd rfl q⟩)
  · rw [if_pos ho] at hne hpo
    have hk : k < m := mp_lt htk (by omega)
    refine w_X12_readPlain_0 hs (i5 0 dp (k + 1) lv a I1 _ (e + 6) 0 0 (by omega) hdp hlv (by omega) hst1 (gr_bd_ne hne) (mp_po_bd hpo (fun I' e1 hst' hpo' => ?_) fun I' e1 hb hq => ?_))
    · have fw := gr_ps_fw (S := S) (c := c) (v := v) n 5 0 dp (k + 1) lv a (by omega) e1
      refine w_X12_readBoth_19 hs (i8 dp _ _ _ I' Q (e + 7) kk nn (by omega) hdp (fw.2.2.2 hlv) (mp_top htk (by omega) (by omega) (by omega)) hst' (gr_bd_ne (gr_bd_nz hne e1)) ?_)
      exact mp_po_bd hpo' (fun I2 e2 hst2 hpo2 => hpo2.1 rfl _ hst2) fun I2 e2 hb2 hq2 => hq2
    · exact w_X12_readBoth_19 hs (md_both5 hs (mp_no (mp_s4 htk (mp_top htk (by omega) (by omega) (by omega))) hb) hq)
  · rw [if_neg ho] at hpo
    exact hpo.1 rfl _ hst

theorem cm_10s (hs : hf_Lay t T P) (htk : mp_tk I0 c v s m) (ih : cm_all X t T L P I0 c v s m S n) : cm_o X t T L P I0 c v s m S Y_X12_readTest 10 (n + 1) := by
  intro dp k lv a I Q D kk nn hD hdp hlv hkm hst hne hpo
  obtain ⟨i0, i1, i2, i3, i4, i5, i6, i7, i8, i9, i10⟩ := ih
  obtain ⟨e, rfl⟩ : ∃ e, D = e + 7 := ⟨D - 7, by omega⟩
  rw [gr_ps_10] at hne hpo
  refine w_X12_readTest_5 hs (mt_takes (ch := 5) hs htk hkm (by omega) hst (fun ho I1 hst1 => w_X12_readTest_10 hs ⟨fun q => absurd q (by decide), fun _ => ?_⟩) fun ho => w_X12_readTest_10 hs ⟨fun _ => ?_, fun q => absurd rfl q⟩)
  · rw [if_pos ho] at hne hpo
    have hk : k < m := mp_lt htk (by omega)
    refine i7 dp (k + 1) lv a I1 _ (e + 6) 0 0 (by omega) hdp hlv (by omega) hst1 (gr_bd_ne hne) (mp_po_bd hpo (fun I' e1 hst' hpo' => ?_) fun I' e1 hb hq => ?_)
    · have fw := gr_ps_fw (S := S) (c := c) (v := v) n 7 0 dp (k + 1) lv a (by omega) e1
      refine w_X12_readTest_18 hs (i10 dp _ _ _ I' Q (e + 7) kk nn (by omega) hdp (fw.2.2.2 hlv) (mp_top htk (by omega) (by omega) (by omega)) hst' (gr_bd_ne (gr_bd_nz hne e1)) ?_)
      exact mp_po_bd hpo' (fun I2 e2 hst2 hpo2 => hpo2.1 rfl _ hst2) fun I2 e2 hb2 hq2 => hq2
    · exact w_X12_readTest_18 hs (md_test5 hs (mp_no (mp_s4 htk (mp_top htk (by omega) (by omega) (by omega))) hb) hq)
  · rw [if_neg ho] at hpo
    exact hpo.1 rfl _ hst

theorem cm_5s (hs : hf_Lay t T P) (htk : mp_tk I0 c v s m) (ih : cm_all X t T L P I0 c v s m S n) : cm_5 X t T L P I0 c v s m S (n + 1) := by
  intro x dp k lv a I Q D kk nn hD hdp hlv hkm hst hne hpo
  obtain ⟨i0, i1, i2, i3, i4, i5, i6, i7, i8, i9, i10⟩ := ih
  obtain ⟨e, rfl⟩ : ∃ e, D = e + 7 := ⟨D - 7, by omega⟩
  rw [gr_ps_5] at hne hpo
  refine w_X12_readPlain_2 hs ⟨fun q => absurd q (by decide), fun _ => mt_takes (ch := 7) hs htk hkm (by omega) hst (fun ho I1 hst1 => w_X12_readPlain_12 hs ?_) fun ho => w_X12_readPlain_12 hs ?_⟩
  · rw [if_pos ho] at hne hpo
    have hk : k < m := mp_lt htk (by omega)
    exact i5 _ dp (k + 1) lv a I1 Q (e + 7) kk nn (by omega) hdp hlv (by omega) hst1 hne hpo
  · rw [if_neg ho] at hne hpo
    refine i6 dp k lv a I Q (e + 7) kk nn (by omega) hdp hlv hkm hst (gr_bd_ne hne) (mp_po_bd hpo (fun I' e1 hst' hpo' => ?_) fun I' e1 hb hq => hq)
    by_cases hx : x = 0
    · rw [if_pos hx] at hpo'
      exact hpo'.1 rfl _ hst'
    · rw [if_neg hx] at hpo'
      exact hpo'.1 rfl _ hst'

theorem cm_6s (hs : hf_Lay t T P) (htk : mp_tk I0 c v s m) (ih : cm_all X t T L P I0 c v s m S n) : cm_6 X t T L P I0 c v s m S (n + 1) := by
  intro dp k lv a I Q D kk nn hD hdp hlv hkm hst hne hpo
  obtain ⟨i0, i1, i2, i3, i4, i5, i6, i7, i8, i9, i10⟩ := ih
  obtain ⟨e, rfl⟩ : ∃ e, D = e + 7 := ⟨D - 7, by omega⟩
  rw [gr_ps_6] at hne hpo
  obtain ⟨f, g1, g2, g3⟩ := id hst
  have hm4 := htk.1
  obtain ⟨⟨a1, a2⟩, -, b1, b2⟩ := htk.2.2 k hkm
  have e5 : I 165 k = nI (c k) := by rw [f.1 165 (by omega)]; exact a1
  have e7 : I 167 k = nI (s k) := by rw [f.1 167 (by omega)]; exact b1
  have l3 : (nI (c k) = 140) ↔ c k = 140 := nI_eq (b := 140) (by omega) (by omega)
  have l8 : (nI dp = 8) ↔ dp = 8 := nI_eq (b := 8) (by omega) (by omega)
  have nin : vp_in (nI k) 401 := vp_in_nI (by omega) (by omega)
  refine w_X12_readPlain_2 hs ?_
  rw [g1, nI_clamp (show k < 2 ^ 31 by omega), e5, e7, l3, l8, nI_1, nI_1]
  refine ⟨fun _ => ⟨fun q => absurd g3 q, fun _ => ⟨nin, fun ho => ?_, fun ho => ⟨fun h8 => ⟨fun q => absurd g3 q, fun _ => ?_⟩, fun h8 => ⟨fun q => absurd g3 q, fun _ => ⟨nin, fun _ => ?_, fun q => absurd q (hf_nm1 (by omega))⟩⟩⟩⟩⟩, fun q => absurd rfl q⟩
  · rw [if_neg ho] at hne hpo
    refine i3 dp k lv a I _ (e + 6) 0 0 (by omega) hdp hlv hkm hst (gr_bd_ne hne) (mp_po_bd hpo (fun I' e1 hst' hpo' => ?_) fun I' e1 hb hq => ?_)
    · have fw := gr_ps_fw (S := S) (c := c) (v := v) n 3 0 dp k lv a (by omega) e1
      have top := mp_top (n := n) (S := S) htk (nt := 3) (x := 0) (dp := dp) (lv := lv) (a := a) (by omega) hkm (by omega)
      have hne1 := gr_bd_nz hne e1
      generalize hr1 : gr_ps S c v n 3 0 dp k lv a = r1 at *
      have go : ∀ (hc : ¬ gr_o6 (c r1.2.1) = 0) (I1 : hf_I), mp_st I0 (r1.2.1 + 1) r1.2.2.1 I1 → hf_G X Y_X12_readSum (e + 6) 0 0 0 (hf_en [.ref 156, .int (nI dp)] 2) [] (t, T, I1, L, P) (fun r M => hf_G X Y_X12_readPlain (e + 7) kk nn 133 [none, none, none, none] (r.toList ++ []) M Q) := by
        intro hc I1 hst1
        rw [if_neg hc] at hpo' hne1
        have hk1 : r1.2.1 < m := mp_lt htk (by intro q; rw [q] at hc; exact hc rfl)
        exact i3 dp (r1.2.1 + 1) r1.2.2.1 a I1 _ (e + 6) 0 0 (by omega) hdp (fw.2.2.2 hlv) (by omega) hst1 (gr_bd_ne hne1) (mp_po_bd hpo' (fun I2 e2 hst2 hpo2 => w_X12_readPlain_133 hs (hpo2.1 rfl _ hst2)) fun I2 e2 hb2 hq2 => w_X12_readPlain_133 hs hq2)
      refine w_X12_readPlain_95 hs (mt_takes (ch := 160) hs htk top (by omega) hst' (fun q1 I1 h1 => w_X12_readPlain_104 hs ⟨fun _ => go (by rw [q1]; decide) I1 h1, fun q => absurd q (by decide)⟩) fun q1 => w_X12_readPlain_104 hs ⟨fun q => absurd rfl q, fun _ => mt_takes (ch := 162) hs htk top (by omega) hst' (fun q2 I1 h1 => w_X12_readPlain_116 hs ⟨fun _ => go (by rw [q2]; decide) I1 h1, fun q => absurd q (by decide)⟩) fun q2 => w_X12_readPlain_116 hs ⟨fun q => absurd rfl q, fun _ => mt_must (ch := 161) (d := e + 4) hs htk top (by omega) hst' (fun q3 I1 h1 => w_X12_readPlain_128 hs (go (by rw [q3]; decide) I1 h1)) fun q3 I1 h1 => w_X12_readPlain_128 hs (md_sum (d := e + 2) hs (mp_no (mp_s4 htk top) h1) (w_X12_readPlain_133 hs ?_))⟩⟩)
      have h0 : gr_o6 (c r1.2.1) = 0 := by
        unfold gr_o6
        simp [q1, q2, q3]
      rw [if_pos h0] at hpo'
      exact hpo'.2 rfl _ h1
    · have hd := mp_no (mp_s4 htk (mp_top htk (by omega) hkm (by omega))) hb
      exact w_X12_readPlain_95 hs (md_takes hs hd (w_X12_readPlain_104 hs ⟨fun q => absurd rfl q, fun _ => md_takes hs hd (w_X12_readPlain_116 hs ⟨fun q => absurd rfl q, fun _ => md_must (d := e + 4) hs hd (w_X12_readPlain_128 hs (md_sum (d := e + 2) hs hd (w_X12_readPlain_133 hs hq)))⟩)⟩))
  · rw [if_pos ho, if_neg h8] at hne hpo
    have hk : k < m := mp_lt htk (by omega)
    refine i9 (dp + 1) (k + 1) lv a _ _ (e + 6) 0 0 (by omega) (by omega) hlv (by omega) ⟨mp_fr_up (Or.inl rfl) f, rfl, g2, g3⟩ (gr_bd_ne hne) (mp_po_bd hpo (fun I' e1 hst' hpo' => ?_) fun I' e1 hb hq => ?_)
    · have top := mp_top (n := n) (S := S) htk (nt := 9) (x := 0) (dp := dp + 1) (k := k + 1) (lv := lv) (a := a) (by omega) (by omega) (by omega)
      refine w_X12_readPlain_78 hs (mt_must (ch := 141) (d := e + 4) hs htk top (by omega) hst' (fun q3 I1 h1 => w_X12_readPlain_87 hs ?_) fun q3 I1 h1 => w_X12_readPlain_87 hs ?_)
      · rw [if_pos q3] at hpo'
        exact hpo'.1 rfl _ h1
      · rw [if_neg q3] at hpo'
        exact hpo'.2 rfl _ h1
    · exact w_X12_readPlain_78 hs (md_must (d := e + 4) hs (mp_no (mp_s4 htk (mp_top htk (by omega) (by omega) (by omega))) hb) (w_X12_readPlain_87 hs hq))
  · rw [if_pos ho, if_pos h8] at hpo
    have := mt_fault htk hkm hst
    rw [e7] at this
    exact hpo.2 rfl _ this

theorem cm_0s (hS : I0 156 7 = if S = true then 1 else 0) (hs : hf_Lay t T P) (htk : mp_tk I0 c v s m) (ih : cm_all X t T L P I0 c v s m S n) : cm_e X t T L P I0 c v s m S Y_X12_readPart 3 0 (n + 1) := by
  intro dp k lv a I Q D kk nn hD hdp hlv hkm hst hne hpo
  obtain ⟨i0, i1, i2, i3, i4, i5, i6, i7, i8, i9, i10⟩ := ih
  obtain ⟨e, rfl⟩ : ∃ e, D = e + 7 := ⟨D - 7, by omega⟩
  rw [gr_ps_0] at hne hpo
  obtain ⟨f, g1, g2, g3⟩ := id hst
  have hS' : ∀ I', mp_fr I0 I' → I' 156 7 = if S = true then 1 else 0 := fun I' h => by rw [h.2 7 (by omega) (by omega) (by omega)]; exact hS
  have hm4 := htk.1
  obtain ⟨⟨a1, a2⟩, ⟨c1, c2⟩, b1, b2⟩ := htk.2.2 k hkm
  have e5 : I 165 k = nI (c k) := by rw [f.1 165 (by omega)]; exact a1
  have e6 : I 166 k = nI (v k) := by rw [f.1 166 (by omega)]; exact c1
  have e7 : I 167 k = nI (s k) := by rw [f.1 167 (by omega)]; exact b1
  have l3 : (nI (c k) = 191) ↔ c k = 191 := nI_eq (b := 191) (by omega) (by omega)
  have l5 : (nI (c k) = 50) ↔ c k = 50 := nI_eq (b := 50) (by omega) (by omega)
  have l6 : (nI (v k) ≤ 1000) ↔ v k ≤ 1000 := nI_leI (b := 1000) (by omega) (by omega)
  have l8 : (nI dp = 8) ↔ dp = 8 := nI_eq (b := 8) (by omega) (by omega)
  have q24 : (nI (c k) = 24) ↔ c k = 24 := nI_eq (b := 24) (by omega) (by omega)
  have q9 : (nI (c k) = 9) ↔ c k = 9 := nI_eq (b := 9) (by omega) (by omega)
  have nin : vp_in (nI k) 401 := vp_in_nI (by omega) (by omega)
  have val : ∀ (ho : ¬ c k = 191) (h5 : ¬ (c k = 50 ∧ v k ≤ 1000)), hf_G X Y_X12_isValue (e + 6) 0 0 0 (hf_en [.ref 156, .int (nI (c k))] 2) [] (t, T, I, L, P) (fun r M => hf_G X Y_X12_readPart (e + 7) kk nn 100 [some (.ref 156), none, some (.int (nI (c k)))] (r.toList ++ []) M Q) := by
    intro ho h5
    rw [if_neg ho, if_neg h5] at hpo
    refine mt_isValue (S := S) (d := e + 5) hs a2 (hS' I f) (fun hv => ?_) fun hv => ?_
    · rw [if_pos hv] at hpo
      have hk : k < m := mp_lt htk (by intro q; rw [q] at hv; cases S <;> simp [gr_isv] at hv)
      refine w_X12_readPart_100 hs ⟨fun q => absurd q (by decide), fun _ => mt_leaf (d := e + 4) hs htk hkm hlv hst (fun h50 I1 h1 => w_X12_readPart_107 hs ?_) fun h50 I1 h1 => w_X12_readPart_107 hs ?_⟩
      · rw [if_neg h50] at hpo
        rw [hS' I1 h1.1, q24, q9]
        cases S with
        | false =>
          rw [if_neg (by simp)] at hpo
          exact ⟨fun _ => hpo.1 rfl _ h1, fun q => absurd rfl q⟩
        | true =>
          refine ⟨fun q => absurd q (by decide), fun _ => ?_⟩
          have num : ∀ hw : c k = 24 ∨ c k = 9, hf_G X Y_X12_mustNumber (e + 6) 0 0 0 (hf_en [.ref 156, .int 0, .int 15] 3) [] (t, T, I1, L, P) (fun r M => hf_G X Y_X12_readPart (e + 7) kk nn 133 [none, none, none] (r.toList ++ []) M Q) := by
            intro hw
            rw [if_pos ⟨rfl, hw⟩] at hpo
            refine mt_mustNumber (lo := 0) (hi2 := 15) (d := e + 4) hs htk (by omega) (by omega) (by omega) h1 (fun q I2 h2 => w_X12_readPart_133 hs ?_) fun q I2 h2 => w_X12_readPart_133 hs ?_
            · rw [if_pos ⟨q.1, q.2.2⟩] at hpo
              exact hpo.1 rfl _ h2
            · rw [if_neg (fun z => q ⟨z.1, Nat.zero_le _, z.2⟩)] at hpo
              exact hpo.2 rfl _ h2
          refine ⟨fun q => num (Or.inl q), fun q => ⟨fun q2 => ?_, fun q2 => num (Or.inr q2)⟩⟩
          rw [if_neg (by rintro ⟨-, z | z⟩ <;> contradiction)] at hpo
          exact hpo.1 rfl _ h1
      · rw [if_pos h50] at hpo
        have hQ := hpo.2 rfl _ h1
        have hd := mp_no (mp_s4 htk hkm) h1
        rw [hS' I1 h1.1]
        cases S with
        | false => exact ⟨fun _ => hQ, fun q => absurd rfl q⟩
        | true => exact ⟨fun q => absurd q (by decide), fun _ => ⟨fun _ => md_mustNumber (d := e + 4) hs hd (w_X12_readPart_133 hs hQ), fun _ => ⟨fun _ => hQ, fun _ => md_mustNumber (d := e + 4) hs hd (w_X12_readPart_133 hs hQ)⟩⟩⟩
    · rw [if_neg hv] at hpo
      refine w_X12_readPart_100 hs ⟨fun _ => ⟨fun q => absurd g3 q, fun _ => ?_⟩, fun q => absurd rfl q⟩
      rw [g1, nI_clamp (show k < 2 ^ 31 by omega)]
      exact ⟨nin, hpo.2 rfl _ (mt_fault htk hkm hst)⟩
  refine w_X12_readPart_0 hs ?_
  rw [g1, nI_clamp (show k < 2 ^ 31 by omega), e5, e6, e7, l3, l5, l6, l8, nI_1, nI_1]
  refine ⟨fun q => absurd g3 q, fun _ => ⟨nin, fun ho => ⟨fun h5 => val ho (fun z => h5 z.1), fun h5 => ⟨nin, fun h6 => ?_, fun h6 => val ho (fun z => h6 z.2)⟩⟩, fun ho => ⟨fun h8 => ⟨fun q => absurd g3 q, fun _ => ?_⟩, fun h8 => ⟨fun q => absurd g3 q, fun _ => ⟨nin, fun _ => ?_, fun q => absurd q (hf_nm1 (by omega))⟩⟩⟩⟩⟩
  · rw [if_neg ho, if_pos ⟨h5, h6⟩] at hpo
    have n24 : ¬ nI (c k) = 24 := by rw [h5]; decide
    have n9 : ¬ nI (c k) = 9 := by rw [h5]; decide
    refine mt_leaf (d := e + 4) hs htk hkm hlv hst (fun h50 I1 h1 => w_X12_readPart_107 hs ?_) fun h50 I1 h1 => w_X12_readPart_107 hs ?_
    · rw [if_neg h50] at hpo
      have hQ := hpo.1 rfl _ h1
      exact ⟨fun _ => hQ, fun _ => ⟨fun q => absurd q n24, fun _ => ⟨fun _ => hQ, fun q => absurd q n9⟩⟩⟩
    · rw [if_pos h50] at hpo
      have hQ := hpo.2 rfl _ h1
      exact ⟨fun _ => hQ, fun _ => ⟨fun q => absurd q n24, fun _ => ⟨fun _ => hQ, fun q => absurd q n9⟩⟩⟩
  · rw [if_pos ho, if_neg h8] at hne hpo
    have hk : k < m := mp_lt htk (by omega)
    refine i3 (dp + 1) (k + 1) lv a _ _ (e + 6) 0 0 (by omega) (by omega) hlv (by omega) ⟨mp_fr_up (Or.inl rfl) f, rfl, g2, g3⟩ (gr_bd_ne hne) (mp_po_bd hpo (fun I' e1 hst' hpo' => ?_) fun I' e1 hb hq => ?_)
    · have top := mp_top (n := n) (S := S) htk (nt := 3) (x := 0) (dp := dp + 1) (k := k + 1) (lv := lv) (a := a) (by omega) (by omega) (by omega)
      refine w_X12_readPart_62 hs (mt_must (ch := 193) (d := e + 4) hs htk top (by omega) hst' (fun q3 I1 h1 => w_X12_readPart_71 hs ?_) fun q3 I1 h1 => w_X12_readPart_71 hs ?_)
      · rw [if_pos q3] at hpo'
        exact hpo'.1 rfl _ h1
      · rw [if_neg q3] at hpo'
        exact hpo'.2 rfl _ h1
    · exact w_X12_readPart_62 hs (md_must (d := e + 4) hs (mp_no (mp_s4 htk (mp_top htk (by omega) (by omega) (by omega))) hb) (w_X12_readPart_71 hs hq))
  · rw [if_pos ho, if_pos h8] at hpo
    have := mt_fault htk hkm hst
    rw [e7] at this
    exact hpo.2 rfl _ this

theorem cm_any (hs : hf_Lay t T P) (htk : mp_tk I0 c v s m) (hS : I0 156 7 = if S = true then 1 else 0) : ∀ n, cm_all X t T L P I0 c v s m S n := by
  intro n
  induction n with
  | zero =>
    refine ⟨?_, ?_, ?_, ?_, ?_, ?_, ?_, ?_, ?_, ?_, ?_⟩
    · intro dp k lv a I Q D kk nn hD hdp hlv hkm hst hne; exact absurd rfl hne
    · intro dp k lv a I Q D kk nn hD hdp hlv hkm hst hne; exact absurd rfl hne
    · intro dp k lv a I Q D kk nn hD hdp hlv hkm hst hne; exact absurd rfl hne
    · intro dp k lv a I Q D kk nn hD hdp hlv hkm hst hne; exact absurd rfl hne
    · intro dp k lv a I Q D kk nn hD hdp hlv hkm hst hne; exact absurd rfl hne
    · intro x dp k lv a I Q D kk nn hD hdp hlv hkm hst hne; exact absurd rfl hne
    · intro dp k lv a I Q D kk nn hD hdp hlv hkm hst hne; exact absurd rfl hne
    · intro dp k lv a I Q D kk nn hD hdp hlv hkm hst hne; exact absurd rfl hne
    · intro dp k lv a I Q D kk nn hD hdp hlv hkm hst hne; exact absurd rfl hne
    · intro dp k lv a I Q D kk nn hD hdp hlv hkm hst hne; exact absurd rfl hne
    · intro dp k lv a I Q D kk nn hD hdp hlv hkm hst hne; exact absurd rfl hne
  | succ n ih => exact ⟨cm_0s hS hs htk ih, cm_1s hs htk ih, cm_2s hs htk ih, cm_3s hs htk ih, cm_4s hs htk ih, cm_5s hs htk ih, cm_6s hs htk ih, cm_7s hs htk ih, cm_8s hs htk ih, cm_9s hs htk ih, cm_10s hs htk ih⟩
end MPAR
