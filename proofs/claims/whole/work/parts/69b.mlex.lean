/-! the model's row of TOKENS -/
def mw_lay : List (List Int32) → Nat → Prop
  | [], fr => fr = 144
  | w :: ws, fr => ((∀ i, i < w.length → hf_wb.getD (fr + i) 0 = w.getD i 0 ∧ ¬ w.getD i 0 = 32) ∧ hf_wb.getD (fr + w.length) 0 = 32 ∧ fr + w.length < 144) ∧ mw_lay ws (fr + w.length + 1)
theorem mw_lay_W : mw_lay tk_W 0 := by
  simp only [mw_lay, tk_W]
  refine ⟨by decide +kernel, by decide +kernel, by decide +kernel, by decide +kernel, by decide +kernel, by decide +kernel, by decide +kernel, by decide +kernel, by decide +kernel, by decide +kernel, by decide +kernel, by decide +kernel, by decide +kernel, by decide +kernel, by decide +kernel, by decide +kernel, by decide +kernel, by decide +kernel, by decide +kernel, by decide +kernel, by decide +kernel, by decide +kernel, by decide +kernel, by decide +kernel, by decide +kernel, by decide +kernel, by decide +kernel, by decide +kernel, by decide +kernel⟩
theorem mw_lt : ∀ {ws : List (List Int32)} {fr : Nat}, mw_lay ws fr → fr ≤ 144 := by
  intro ws
  cases ws with
  | nil => intro fr h; exact Nat.le_of_eq h
  | cons w ws => intro fr h; have := h.1.2.2; omega
section MLEX
variable {X : hf_X} {d k n t : Nat} {T : hf_T} {I I0 : hf_I} {L : hf_L} {P : hf_P} {Q : Option Value → hf_M → Prop} {tp : Nat → Int32} {z : Nat}
theorem ms_wordAt {s e : Nat} (hs : hf_Lay t T P) (hwb : S_wb (I 162)) (ht : I 163 = tp) (hse : s ≤ e) (he : e ≤ 400) (h : Q (some (.int (nI (tk_wc tp s e)))) (t, T, I, L, P)) : hf_G X Y_X12_wordAt d k n 0 (hf_en [.ref 156, .int (nI s), .int (nI e)] 8) [] (t, T, I, L, P) Q := by
  have main : ∀ (ws : List (List Int32)) (fr j : Nat), j ≤ 1000 → mw_lay ws fr → (∀ q, q + ws.length = j + ws.length → True) → Q (some (.int (nI ((tk_ix tp s e j ws).getD 0)))) (t, T, I, L, P) → j + ws.length ≤ 1000 → hf_G X Y_X12_wordAt d k n 5 [some (.ref 156), some (.int (nI s)), some (.int (nI e)), some (.int (nI j)), some (.int (nI fr)), none, none, none] [] (t, T, I, L, P) Q := by
    intro ws
    induction ws with
    | nil =>
      intro fr j _ hl _ hQ _
      have hl' : fr = 144 := hl
      subst hl'
      exact w_X12_wordAt_5 hs ⟨fun _ => hQ, fun q => absurd (by decide) q⟩
    | cons w ws ih =>
      intro fr j hj hl _ hQ hjl
      obtain ⟨⟨l1, l2, l3⟩, l4⟩ := hl
      rw [tk_ix] at hQ
      rw [List.length_cons] at hjl
      refine w_X12_wordAt_5 hs ⟨fun q => absurd q (nI_ge (b := 144) (by omega) (by omega)), fun _ => ?_⟩
      -- behind the length
      have cmp : ∀ (f : Nat) (b : Bool) (i : Nat), i + f = w.length → (b = true → e - s = w.length ∧ ∀ u, u < i → w.getD u 0 = tp (s + u)) → (b = false → tk_is tp s e w = false) → hf_G X Y_X12_wordAt d k n 57 [some (.ref 156), some (.int (nI s)), some (.int (nI e)), some (.int (nI j)), some (.int (nI fr)), some (.int (nI w.length)), some (.int (hf_b b)), some (.int (nI i))] [] (t, T, I, L, P) Q := by
        have next : tk_is tp s e w = false → hf_G X Y_X12_wordAt d k n 5 [some (.ref 156), some (.int (nI s)), some (.int (nI e)), some (.int (nI j + 1)), some (.int (nI fr + (nI w.length + 1))), none, none, none] [] (t, T, I, L, P) Q := by
          intro hf
          rw [hf, if_neg (by decide)] at hQ
          rw [nI_1, nI_1, nI_add, ← Nat.add_assoc]
          exact ih (fr + w.length + 1) (j + 1) (by omega) l4 (fun _ _ => trivial) hQ (by omega)
        intro f
        induction f with
        | zero =>
          intro b i hi ht' hf'
          obtain rfl : i = w.length := by omega
          refine w_X12_wordAt_57 hs ⟨fun _ => ⟨fun g => ?_, fun g => ?_⟩, fun g => absurd (nI_le (Nat.le_refl _) (by omega)) g⟩
          · cases b with
            | true => exact absurd g (by decide)
            | false => exact next (hf' rfl)
          · cases b with
            | false => exact absurd rfl g
            | true =>
              obtain ⟨q1, q2⟩ := ht' rfl
              have his : tk_is tp s e w = true := by
                unfold tk_is
                rw [Bool.and_eq_true, decide_eq_true_eq]
                exact ⟨q1, tk_ml_at.mpr q2⟩
              rw [his, if_pos rfl] at hQ
              exact hQ
        | succ f ihf =>
          intro b i hi ht' hf'
          refine w_X12_wordAt_57 hs ⟨fun g => absurd g (nI_ge (by omega) (by omega)), fun _ => ⟨fun g => ⟨fun _ => ?_, fun g2 => absurd g g2⟩, fun g => ?_⟩⟩
          · cases b with
            | true => exact absurd g (by decide)
            | false => exact next (hf' rfl)
          · cases b with
            | false => exact absurd rfl g
            | true =>
              obtain ⟨q1, q2⟩ := ht' rfl
              rw [nI_add, nI_add, nI_clamp (show fr + i < 2 ^ 31 by omega), nI_clamp (show s + i < 2 ^ 31 by omega), nI_1, hwb (fr + i) (by omega), (l1 i (by omega)).1, ht]
              refine ⟨vp_in_nI (by omega) (by omega), vp_in_nI (by omega) (by omega), fun g2 => ?_, fun g2 => ?_⟩
              · refine ihf false (i + 1) (by omega) (fun q => by cases q) (fun _ => ?_)
                cases hq : tk_is tp s e w with
                | false => rfl
                | true =>
                  unfold tk_is at hq
                  rw [Bool.and_eq_true] at hq
                  exact absurd (tk_ml_at.mp hq.2 i (by omega)) g2
              · refine ihf true (i + 1) (by omega) (fun _ => ⟨q1, fun u hu => ?_⟩) (fun q => by cases q)
                by_cases eu : u = i
                · subst eu; exact g2
                · exact q2 u (by omega)
      have len : ∀ (f i : Nat), i + f = w.length → hf_G X Y_X12_wordAt d k n 18 [some (.ref 156), some (.int (nI s)), some (.int (nI e)), some (.int (nI j)), some (.int (nI fr)), some (.int (nI i)), none, none] [] (t, T, I, L, P) Q := by
        intro f
        induction f with
        | zero =>
          intro i hi
          obtain rfl : i = w.length := by omega
          refine w_X12_wordAt_18 hs ?_
          rw [nI_add, nI_clamp (show fr + w.length < 2 ^ 31 by omega), hwb (fr + w.length) l3, l2, pk_sub hse]
          refine ⟨vp_in_nI l3 (by omega), fun _ => ⟨fun g => ?_, fun g => ?_⟩, fun g => absurd rfl g⟩
          · have hne : ¬ e - s = w.length := fun q => g (by rw [q])
            refine cmp w.length false 0 (by omega) (fun q => by cases q) (fun _ => ?_)
            unfold tk_is
            rw [decide_eq_false hne]
            rfl
          · have heq : e - s = w.length := ((nI_eq (by omega) (by omega)).mp g).symm
            exact cmp w.length true 0 (by omega) (fun _ => ⟨heq, fun u hu => absurd hu (by omega)⟩) (fun q => by cases q)
        | succ f ihf =>
          intro i hi
          refine w_X12_wordAt_18 hs ?_
          rw [nI_add, nI_clamp (show fr + i < 2 ^ 31 by omega), hwb (fr + i) (by omega), (l1 i (by omega)).1, nI_1]
          exact ⟨vp_in_nI (by omega) (by omega), fun g => absurd g (l1 i (by omega)).2, fun _ => ihf (i + 1) (by omega)⟩
      exact len w.length 0 (by omega)
  exact w_X12_wordAt_0 hs (main tk_W 0 1 (by omega) mw_lay_W (fun _ _ => trivial) h (by decide))
def sp_fr (I0 I : hf_I) : Prop := (∀ a, ¬ a = 156 → ¬ a = 165 → ¬ a = 166 → ¬ a = 167 → I a = I0 a) ∧ ∀ i, ¬ i = 15 → I 156 i = I0 156 i
def sp_rw (tp : Nat → Int32) (z k : Nat) (I : hf_I) : Prop := I 165 k = nI (tk_c tp z k) ∧ I 166 k = nI (tk_v tp z k) ∧ I 167 k = nI (tk_s tp z k)
def sp_st (I0 : hf_I) (tp : Nat → Int32) (z j : Nat) (I : hf_I) : Prop := sp_fr I0 I ∧ I 156 15 = nI j ∧ ∀ k, k < j → sp_rw tp z k I
theorem sp_fr_up {a j : Nat} {w : Int32} (ha : a = 165 ∨ a = 166 ∨ a = 167) (h : sp_fr I0 I) : sp_fr I0 (hf_up I a j w) := by
  refine ⟨fun b b1 b2 b3 b4 => ?_, fun i hi => ?_⟩
  · rw [← h.1 b b1 b2 b3 b4]
    unfold hf_up
    rw [if_neg (by omega)]
  · rw [← h.2 i hi]
    unfold hf_up
    rw [if_neg (by omega)]
theorem sp_rw_up {a j k : Nat} {w : Int32} (hjk : ¬ k = j) (h : sp_rw tp z k I) : sp_rw tp z k (hf_up I a j w) := by
  obtain ⟨h1, h2, h3⟩ := h
  have e : ∀ b, hf_up I a j w b k = I b k := fun b => by
    unfold hf_up
    by_cases hb : b = a
    · subst hb
      rw [if_pos rfl]
      exact hf_upd_ne hjk
    · rw [if_neg hb]
  exact ⟨(e _).trans h1, (e _).trans h2, (e _).trans h3⟩
theorem tk_dv_le (s : Nat) (hd : ∀ i, (tp (s + i)).toNatClampNeg - 48 ≤ 9) : ∀ m, tk_dv tp s m ≤ 10000009 := by
  intro m
  induction m with
  | zero => exact Nat.zero_le _
  | succ m ih =>
    rw [tk_dv]
    have := hd m
    split <;> omega
theorem tk_dv_le2 {s : Nat} : ∀ {m : Nat}, (∀ i, i < m → (tp (s + i)).toNatClampNeg - 48 ≤ 9) → tk_dv tp s m ≤ 10000009 := by
  intro m
  induction m with
  | zero => intro _; exact Nat.zero_le _
  | succ m ih =>
    intro hd
    rw [tk_dv]
    have h1 := ih (fun i hi => hd i (by omega))
    have h2 := hd m (by omega)
    split <;> omega
theorem tk_kd_cs {b : Int32} : (tk_k1 b = 1 ∧ ¬ b < 97 ∧ ¬ 122 < b ∧ ¬ b < 48 ∧ 57 < b) ∨ (tk_k1 b = 2 ∧ b < 97 ∧ ¬ b < 48 ∧ ¬ 57 < b) ∨ (tk_k1 b = 3 ∧ (b < 97 ∨ 122 < b) ∧ (b < 48 ∨ 57 < b)) := by
  have c1 : (b < 97) ↔ b.toInt < 97 := Int32.lt_iff_toInt_lt
  have c2 : (122 < b) ↔ 122 < b.toInt := Int32.lt_iff_toInt_lt
  have c3 : (b < 48) ↔ b.toInt < 48 := Int32.lt_iff_toInt_lt
  have c4 : (57 < b) ↔ 57 < b.toInt := Int32.lt_iff_toInt_lt
  unfold tk_k1
  simp only [c1, c2, c3, c4]
  by_cases h1 : b.toInt < 97
  · rw [if_pos h1]
    by_cases h3 : b.toInt < 48
    · rw [if_pos h3]; exact Or.inr (Or.inr ⟨rfl, Or.inl h1, Or.inl h3⟩)
    · rw [if_neg h3]
      by_cases h4 : 57 < b.toInt
      · rw [if_pos h4]; exact Or.inr (Or.inr ⟨rfl, Or.inl h1, Or.inr h4⟩)
      · rw [if_neg h4]; exact Or.inr (Or.inl ⟨rfl, h1, h3, h4⟩)
  · rw [if_neg h1]
    by_cases h2 : 122 < b.toInt
    · rw [if_pos h2]; exact Or.inr (Or.inr ⟨rfl, Or.inr h2, Or.inr (by omega)⟩)
    · rw [if_neg h2]; exact Or.inl ⟨rfl, h1, h2, by omega, by omega⟩
theorem ms_splits (hs : hf_Lay t T P) (hwb : S_wb (I0 162)) (hz4 : z ≤ 400) (hb : tk_byte tp z) (ht : I0 163 = tp) (h : ∀ I' m, m ≤ 400 → (∀ k, k < m → tk_s tp z k < z) → (∀ k, m ≤ k → tk_s tp z k = z) → sp_fr I0 I' → I' 156 15 = nI m → (∀ k, k ≤ m → sp_rw tp z k I') → Q none (t, T, I', L, P)) : hf_G X Y_X12_splits (d + 2) k n 0 (hf_en [.ref 156, .int (nI z)] 6) [] (t, T, I0, L, P) Q := by
  have main : ∀ (f p j : Nat) (I : hf_I), p + f = z → j ≤ p → (∀ k, k < j → tk_s tp z k < z) → tk_s tp z j = tk_skp tp z p → sp_st I0 tp z j I → hf_G X Y_X12_splits (d + 2) k n 7 [some (.ref 156), some (.int (nI z)), some (.int (nI p)), none, none, none] [] (t, T, I, L, P) Q := by
    intro f
    induction f using Nat.strongRecOn with
    | _ f ih =>
    intro p j I hf hj hlt hsk hst
    obtain ⟨fr, g15, grw⟩ := id hst
    have i163 : I 163 = tp := by rw [fr.1 163 (by omega) (by omega) (by omega) (by omega)]; exact ht
    have jin : vp_in (nI j) 401 := vp_in_nI (by omega) (by omega)
    refine w_X12_splits_7_x hs ?_
    rw [g15, nI_clamp (show j < 2 ^ 31 by omega), nI_clamp (show p < 2 ^ 31 by omega), i163]
    refine ⟨fun q => ?_, fun q => ?_⟩
    · have hpz : p = z := by
        have := (nI_leI (by omega) (by omega)).mp q
        omega
      subst hpz
      have hsj : tk_s tp p j = p := hsk.trans (tk_skp_no (fun q => absurd q.1 (by omega)))
      refine ⟨jin, jin, jin, h _ j (by omega) hlt (fun k hk => ?_) (sp_fr_up (Or.inr (Or.inl rfl)) (sp_fr_up (Or.inl rfl) (sp_fr_up (Or.inr (Or.inr rfl)) fr))) g15 (fun k hk => ?_)⟩
      · obtain ⟨r, rfl⟩ : ∃ r, k = j + r := ⟨k - j, by omega⟩
        clear hk
        induction r with
        | zero => exact hsj
        | succ r ihr => rw [← Nat.add_assoc, tk_s_end (by omega), ihr]
      · by_cases ek : k = j
        · subst ek
          have ek : tk_kd tp p (tk_s tp p k) = 0 := by
            unfold tk_kd
            rw [if_neg (by omega)]
          refine ⟨?_, ?_, ?_⟩
          · show upd (I 165) k 0 k = _
            rw [hf_upd_eq, tk_c_end hsj]
            rfl
          · show upd (I 166) k 0 k = _
            rw [hf_upd_eq]
            unfold tk_v
            rw [ek, if_neg (by omega)]
            rfl
          · show upd (I 167) k (nI p) k = _
            rw [hf_upd_eq, hsj]
        · exact sp_rw_up ek (sp_rw_up ek (sp_rw_up ek (grw k (by omega))))
    · have hpz : p < z := by
        rcases Nat.lt_or_ge p z with u | u
        · exact u
        · exact absurd (nI_le u (by omega)) q
      refine ⟨vp_in_nI (by omega) (by omega), fun hnb => ?_, fun hbl => ?_⟩
      · -- a TOKEN begins here
        have hsj : tk_s tp z j = p := hsk.trans (tk_skp_no (fun q => hnb q.2))
        have hkd : tk_kd tp z p = tk_k1 (tp p) := by unfold tk_kd; rw [if_pos hpz]
        have hen := tk_en_gt (tp := tp) hpz
        have henz := tk_en_le (tp := tp) (z := z) (p := p) (by omega)
        -- behind it
        have go : ∀ I2 : hf_I, sp_st I0 tp z (j + 1) I2 → hf_G X Y_X12_splits (d + 2) k n 7 [some (.ref 156), some (.int (nI z)), some (.int (nI (tk_en tp z p))), none, none, none] [] (t, T, I2, L, P) Q := by
          intro I2 h2
          refine ih (z - tk_en tp z p) (by omega) (tk_en tp z p) (j + 1) I2 (by omega) (by omega) (fun k hk => ?_) ?_ h2
          · by_cases e : k = j
            · rw [e, hsj]; exact hpz
            · exact hlt k (by omega)
          · rw [tk_s, hsj]
        have fin : ∀ (cc vv : Nat) (I2 : hf_I), sp_fr I0 I2 → I2 156 15 = nI j → (∀ k, k < j → sp_rw tp z k I2) → I2 165 j = nI (tk_c tp z j) → I2 166 j = nI (tk_v tp z j) → I2 167 j = nI p → hf_G X Y_X12_splits (d + 2) k n 247 [some (.ref 156), some (.int (nI z)), none, none, some (.int (nI (tk_en tp z p))), none] [] (t, T, I2, L, P) Q := by
          intro _ _ I2 f2 q15 r2 r5 r6 r7
          refine w_X12_splits_247_x hs (go _ ⟨⟨fun a a1 a2 a3 a4 => ?_, fun i hi => ?_⟩, ?_, fun k hk => ?_⟩)
          · rw [← f2.1 a a1 a2 a3 a4]
            simp [hf_up, a1]
          · rw [← f2.2 i hi]
            exact hf_upd_ne hi
          · show I2 156 15 + 1 = _
            rw [q15, nI_1]
          · by_cases e : k = j
            · subst e; exact ⟨r5, r6, by rw [hsj]; exact r7⟩
            · exact r2 k (by omega)
        -- the row's numbers laid
        have at100 : hf_G X Y_X12_splits (d + 2) k n 100 [some (.ref 156), some (.int (nI z)), some (.int (nI p)), some (.int (tp p)), some (.int (nI (tk_en tp z p))), none] [] (t, T, I, L, P) Q := by
          have f2 : sp_fr I0 (hf_up (hf_up I 167 j (nI p)) 166 j 0) := sp_fr_up (Or.inr (Or.inl rfl)) (sp_fr_up (Or.inr (Or.inr rfl)) fr)
          have at165 : ∀ (cc : Int32), (cc = nI (tk_c tp z j)) → (¬ tk_kd tp z p = 2) → hf_G X Y_X12_splits (d + 2) k n 165 [some (.ref 156), some (.int (nI z)), some (.int (nI p)), some (.int (tp p)), some (.int (nI (tk_en tp z p))), none] [.int cc, .int (nI j), .ref 165] (t, T, hf_up (hf_up I 167 j (nI p)) 166 j 0, L, P) Q := by
            intro cc hcc hk2
            refine w_X12_splits_165_x hs ?_
            rw [nI_clamp (show j < 2 ^ 31 by omega)]
            have r6 : tk_v tp z j = 0 := by
              unfold tk_v
              rw [hsj, if_neg hk2]
            have key := fin 0 0 (hf_up (hf_up (hf_up I 167 j (nI p)) 166 j 0) 165 j cc) (sp_fr_up (Or.inl rfl) f2) g15 (fun k hk => sp_rw_up (by omega) (sp_rw_up (by omega) (sp_rw_up (by omega) (grw k hk)))) (by show upd (I 165) j cc j = _; rw [hf_upd_eq, hcc]) (by show upd (I 166) j 0 j = _; rw [hf_upd_eq, r6]; rfl) (by show upd (I 167) j (nI p) j = _; rw [hf_upd_eq])
            refine ⟨jin, w_X12_splits_169_x hs ⟨fun g => absurd g (nI_ge (by omega) (by omega)), fun _ => ⟨fun _ => key, fun g1 => ⟨fun _ => key, fun g2 => ?_⟩⟩⟩⟩
            refine absurd ?_ hk2
            rw [hkd]
            rcases tk_kd_cs (b := tp p) with ⟨q1, q2, q3, q4, q5⟩ | ⟨q1, q2⟩ | ⟨q1, q2, q3⟩
            · exact absurd q5 g2
            · exact q1
            · rcases q3 with q3 | q3
              · exact absurd q3 g1
              · exact absurd q3 g2
          refine w_X12_splits_100_x hs ?_
          rw [g15, nI_clamp (show j < 2 ^ 31 by omega)]
          have sgn : tk_k1 (tp p) = 3 → hf_G X Y_X12_splits (d + 2) k n 145 [some (.ref 156), some (.int (nI z)), some (.int (nI p)), some (.int (tp p)), some (.int (nI (tk_en tp z p))), none] [.int (nI j), .ref 165] (t, T, hf_up (hf_up I 167 j (nI p)) 166 j 0, L, P) Q := by
            intro h3
            have hk3 : tk_kd tp z p = 3 := hkd.trans h3
            have cc : 100 + (tp p &&& 255) = nI (tk_c tp z j) := by
              obtain ⟨e1, e2⟩ := tk_by_and (hb p hpz)
              have : tk_c tp z j = 100 + tk_by (tp p) := by
                unfold tk_c
                rw [hsj, hk3, if_neg (by omega), if_neg (by omega), if_pos rfl]
              rw [e1, this, show (100 : Int32) = nI 100 from rfl, nI_add]
            have key := at165 _ cc (by omega)
            refine w_X12_splits_145_x hs ⟨fun _ => key, fun g1 => ⟨fun _ => key, fun g2 => ?_⟩⟩
            rcases tk_kd_cs (b := tp p) with ⟨q1, q2⟩ | ⟨q1, q2⟩ | ⟨q1, q2, q3⟩
            · omega
            · omega
            · rcases q3 with q3 | q3
              · exact absurd q3 g1
              · exact absurd q3 g2
          refine ⟨jin, jin, fun g1 => ?_, fun g1 => ⟨fun g2 => ?_, fun g2 => ?_⟩⟩
          · rcases tk_kd_cs (b := tp p) with ⟨q1, q2, -⟩ | ⟨q1, q2, q3, q4⟩ | ⟨q1, q2, q3⟩
            · exact absurd g1 q2
            · -- digits
              have hk2 : tk_kd tp z p = 2 := hkd.trans q1
              have hcj : tk_c tp z j = 50 := by
                unfold tk_c
                rw [hsj, hk2, if_neg (by omega), if_pos rfl]
              have hvj : tk_v tp z j = tk_dv tp p (tk_en tp z p - p) := by
                unfold tk_v
                rw [hsj, if_pos hk2]
              have dg : ∀ i, p + i < tk_en tp z p → ∃ g, 48 ≤ g ∧ g ≤ 57 ∧ tp (p + i) = nI g := fun i hi => tk_kd_2 (tk_en_in hk2 (q := p + i) (by omega) hi)
              have dl : ∀ i, p + i ≤ tk_en tp z p → tk_dv tp p i ≤ 10000009 := fun i hi => tk_dv_le2 fun u hu => by
                obtain ⟨g, e1, e2, e3⟩ := dg u (by omega)
                rw [e3, nI_clamp (by omega)]
                omega
              refine w_X12_splits_145_x hs ⟨fun g => absurd g q3, fun _ => ⟨fun g => absurd g q4, fun _ => w_X12_splits_165_x hs ?_⟩⟩
              rw [nI_clamp (show j < 2 ^ 31 by omega)]
              refine ⟨jin, ?_⟩
              have loop : ∀ (f i : Nat) (I2 : hf_I), p + i + f = tk_en tp z p → sp_fr I0 I2 → I2 156 15 = nI j → (∀ k, k < j → sp_rw tp z k I2) → I2 165 j = 50 → I2 166 j = nI (tk_dv tp p i) → I2 167 j = nI p → hf_G X Y_X12_splits (d + 2) k n 169 [some (.ref 156), some (.int (nI z)), none, some (.int (tp p)), some (.int (nI (tk_en tp z p))), some (.int (nI (p + i)))] [] (t, T, I2, L, P) Q := by
                intro f
                induction f with
                | zero =>
                  intro i I2 hi f2 r15 rr r5 r6 r7
                  have ei : tk_en tp z p - p = i := by omega
                  refine w_X12_splits_169_x hs ⟨fun _ => fin 0 0 I2 f2 r15 rr (by rw [r5, hcj]; rfl) (by rw [r6, hvj, ei]) r7, fun g => absurd (nI_le (by omega) (by omega)) g⟩
                | succ f ihf =>
                  intro i I2 hi f2 r15 rr r5 r6 r7
                  obtain ⟨g, e1, e2, e3⟩ := dg i (by omega)
                  have dli := dl i (by omega)
                  have i163' : I2 163 = tp := by rw [f2.1 163 (by omega) (by omega) (by omega) (by omega)]; exact ht
                  refine w_X12_splits_169_x hs ⟨fun g => absurd g (nI_ge (by omega) (by omega)), fun _ => ⟨fun g => absurd g q3, fun _ => ⟨fun g => absurd g q4, fun _ => w_X12_splits_183_x hs ?_⟩⟩⟩
                  rw [r15, nI_clamp (show j < 2 ^ 31 by omega), r6, nI_clamp (show p + i < 2 ^ 31 by omega), i163', e3, nI_1]
                  have e4 : ((10 * nI (tk_dv tp p i)) + nI g) - 48 = nI (10 * tk_dv tp p i + (g - 48)) := by
                    rw [show (10 : Int32) = nI 10 from rfl, pk_mul, nI_add, show (48 : Int32) = nI 48 from rfl, pk_sub (by omega)]
                    congr 1
                    omega
                  rw [e4]
                  have lm : (nI (tk_dv tp p i) ≤ 1000000) ↔ tk_dv tp p i ≤ 1000000 := nI_leI (b := 1000000) (by omega) (by omega)
                  have st : ∀ w : Int32, w = nI (tk_dv tp p (i + 1)) → hf_G X Y_X12_splits (d + 2) k n 169 [some (.ref 156), some (.int (nI z)), none, some (.int (tp p)), some (.int (nI (tk_en tp z p))), some (.int (nI (p + i + 1)))] [] (t, T, hf_up I2 166 j w, L, P) Q := by
                    intro w hw
                    refine ihf (i + 1) (hf_up I2 166 j w) (by omega) (sp_fr_up (Or.inr (Or.inl rfl)) f2) r15 (fun k hk => sp_rw_up (by omega) (rr k hk)) r5 ?_ r7
                    show upd (I2 166) j w j = _
                    rw [hf_upd_eq, hw]
                  have dn : tk_dv tp p (i + 1) = if 1000000 < tk_dv tp p i then tk_dv tp p i else 10 * tk_dv tp p i + (g - 48) := by
                    rw [tk_dv, e3, nI_clamp (show g < 2 ^ 31 by omega)]
                  refine ⟨jin, fun g => ⟨jin, vp_in_nI (by omega) (by omega), jin, st _ ?_⟩, fun g => ⟨jin, jin, st _ ?_⟩⟩
                  · rw [lm] at g
                    rw [dn, if_neg (by omega)]
                  · rw [lm] at g
                    rw [dn, if_pos (by omega)]
              have := loop (tk_en tp z p - p) 0 (hf_up (hf_up (hf_up I 167 j (nI p)) 166 j 0) 165 j 50) (by omega) (sp_fr_up (Or.inl rfl) f2) g15 (fun k hk => sp_rw_up (by omega) (sp_rw_up (by omega) (sp_rw_up (by omega) (grw k hk)))) (by show upd (I 165) j 50 j = _; rw [hf_upd_eq]) (by show upd (I 166) j 0 j = _; rw [hf_upd_eq]; rfl) (by show upd (I 167) j (nI p) j = _; rw [hf_upd_eq])
              exact this
            · exact sgn q1
          · rcases tk_kd_cs (b := tp p) with ⟨q1, q2, q3, -⟩ | ⟨q1, q2, -⟩ | ⟨q1, q2, q3⟩
            · exact absurd g2 q3
            · exact absurd q2 g1
            · exact sgn q1
          · rcases tk_kd_cs (b := tp p) with ⟨q1, -⟩ | ⟨q1, q2, -⟩ | ⟨q1, q2, q3⟩
            · -- letters
              have hk1 : tk_kd tp z p = 1 := hkd.trans q1
              have wb2 : S_wb (hf_up (hf_up I 167 j (nI p)) 166 j 0 162) := by
                rw [f2.1 162 (by omega) (by omega) (by omega) (by omega)]
                exact hwb
              refine ms_wordAt hs wb2 i163 (by omega) (by omega) (w_X12_splits_142_x hs (at165 _ ?_ (by omega)))
              congr 1
              unfold tk_c
              rw [hsj, if_pos hk1]
            · exact absurd q2 g1
            · rcases q2 with q2 | q2
              · exact absurd q2 g1
              · exact absurd q2 g2
        -- how far it goes
        have run : ∀ (pc : Nat), tk_kd tp z p = 1 ∧ pc = 43 ∨ tk_kd tp z p = 2 ∧ pc = 75 → ∀ f i, i + f = z → p + 1 ≤ i → tk_run tp z (tk_kd tp z p) i = tk_en tp z p → hf_G X Y_X12_splits (d + 2) k n pc [some (.ref 156), some (.int (nI z)), some (.int (nI p)), some (.int (tp p)), some (.int (nI i)), none] [] (t, T, I, L, P) Q := by
          intro pc hpc f
          rcases tk_kd_cs (b := tp p) with ⟨q1, q2, q3, q4, q5⟩ | ⟨q1, q2, q3, q4⟩ | ⟨q1, q2, q3⟩
          · have hk1 : tk_kd tp z p = 1 := hkd.trans q1
            obtain rfl : pc = 43 := by omega
            induction f with
            | zero =>
              intro i hi hpi hr
              rw [tk_run_no (by omega)] at hr
              rw [← hr] at at100
              exact w_X12_splits_43_x hs ⟨fun _ => w_X12_splits_68_x hs ⟨fun g => absurd g q4, fun _ => ⟨fun _ => at100, fun g => absurd q5 g⟩⟩, fun g => absurd (nI_le (by omega) (by omega)) g⟩
            | succ f ihf =>
              intro i hi hpi hr
              have stop : ¬ tk_kd tp z i = 1 → hf_G X Y_X12_splits (d + 2) k n 68 [some (.ref 156), some (.int (nI z)), some (.int (nI p)), some (.int (tp p)), some (.int (nI i)), none] [] (t, T, I, L, P) Q := by
                intro hne
                rw [tk_run_no (by rw [hk1]; exact fun q => hne q.2)] at hr
                rw [← hr] at at100
                exact w_X12_splits_68_x hs ⟨fun g => absurd g q4, fun _ => ⟨fun _ => at100, fun g => absurd q5 g⟩⟩
              have hki : tk_kd tp z i = tk_k1 (tp i) := by unfold tk_kd; rw [if_pos (by omega)]
              refine w_X12_splits_43_x hs ⟨fun g => absurd g (nI_ge (by omega) (by omega)), fun _ => ?_⟩
              rw [nI_clamp (show i < 2 ^ 31 by omega), i163, nI_1]
              refine ⟨vp_in_nI (by omega) (by omega), fun g => stop ?_, fun g => ⟨fun g2 => stop ?_, fun g2 => ?_⟩⟩
              · rcases tk_kd_cs (b := tp i) with ⟨u1, u2, -⟩ | ⟨u1, -⟩ | ⟨u1, -⟩
                · exact absurd g u2
                · omega
                · omega
              · rcases tk_kd_cs (b := tp i) with ⟨u1, u2, u3, -⟩ | ⟨u1, -⟩ | ⟨u1, -⟩
                · exact absurd g2 u3
                · omega
                · omega
              · have u : tk_kd tp z i = 1 := by
                  rw [hki]
                  rcases tk_kd_cs (b := tp i) with ⟨u1, -⟩ | ⟨u1, u2, -⟩ | ⟨u1, u2, -⟩
                  · exact u1
                  · exact absurd u2 g
                  · rcases u2 with u2 | u2
                    · exact absurd u2 g
                    · exact absurd u2 g2
                refine ihf (i + 1) (by omega) (by omega) ?_
                rw [← hr, tk_run_go (p := i) (by omega) (by rw [u, hk1])]
          · have hk2 : tk_kd tp z p = 2 := hkd.trans q1
            obtain rfl : pc = 75 := by omega
            induction f with
            | zero =>
              intro i hi hpi hr
              rw [tk_run_no (by omega)] at hr
              rw [← hr] at at100
              exact w_X12_splits_75_x hs ⟨fun _ => at100, fun g => absurd (nI_le (by omega) (by omega)) g⟩
            | succ f ihf =>
              intro i hi hpi hr
              have stop : ¬ tk_kd tp z i = 2 → hf_G X Y_X12_splits (d + 2) k n 100 [some (.ref 156), some (.int (nI z)), some (.int (nI p)), some (.int (tp p)), some (.int (nI i)), none] [] (t, T, I, L, P) Q := by
                intro hne
                rw [tk_run_no (by rw [hk2]; exact fun q => hne q.2)] at hr
                rw [← hr] at at100
                exact at100
              have hki : tk_kd tp z i = tk_k1 (tp i) := by unfold tk_kd; rw [if_pos (by omega)]
              refine w_X12_splits_75_x hs ⟨fun g => absurd g (nI_ge (by omega) (by omega)), fun _ => ?_⟩
              rw [nI_clamp (show i < 2 ^ 31 by omega), i163, nI_1]
              refine ⟨vp_in_nI (by omega) (by omega), fun g => stop ?_, fun g => ⟨fun g2 => stop ?_, fun g2 => ?_⟩⟩
              · rcases tk_kd_cs (b := tp i) with ⟨u1, -⟩ | ⟨u1, u2, u3, u4⟩ | ⟨u1, -⟩
                · omega
                · exact absurd g u3
                · omega
              · rcases tk_kd_cs (b := tp i) with ⟨u1, -⟩ | ⟨u1, u2, u3, u4⟩ | ⟨u1, -⟩
                · omega
                · exact absurd g2 u4
                · omega
              · have u : tk_kd tp z i = 2 := by
                  rw [hki]
                  rcases tk_kd_cs (b := tp i) with ⟨u1, u2, u3, u4, u5⟩ | ⟨u1, -⟩ | ⟨u1, u2, u3⟩
                  · exact absurd u5 g2
                  · exact u1
                  · rcases u3 with u3 | u3
                    · exact absurd u3 g
                    · exact absurd u3 g2
                refine ihf (i + 1) (by omega) (by omega) ?_
                rw [← hr, tk_run_go (p := i) (by omega) (by rw [u, hk2])]
          · have := hkd.trans q1
            omega
        have hrun : tk_kd tp z p = 1 ∨ tk_kd tp z p = 2 → tk_run tp z (tk_kd tp z p) (p + 1) = tk_en tp z p := by
          intro q
          unfold tk_en
          rw [if_pos hpz, if_pos q]
        refine w_X12_splits_31_x hs ?_
        rw [nI_1]
        rcases tk_kd_cs (b := tp p) with ⟨q1, q2, q3, q4, q5⟩ | ⟨q1, q2, q3, q4⟩ | ⟨q1, q2, q3⟩
        · have hk1 : tk_kd tp z p = 1 := hkd.trans q1
          exact ⟨fun g => absurd g q2, fun _ => ⟨fun g => absurd g q3, fun _ => run 43 (Or.inl ⟨hk1, rfl⟩) (z - (p + 1)) (p + 1) (by omega) (by omega) (hrun (Or.inl hk1))⟩⟩
        · have hk2 : tk_kd tp z p = 2 := hkd.trans q1
          exact ⟨fun _ => w_X12_splits_68_x hs ⟨fun g => absurd g q3, fun _ => ⟨fun g => absurd g q4, fun _ => run 75 (Or.inr ⟨hk2, rfl⟩) (z - (p + 1)) (p + 1) (by omega) (by omega) (hrun (Or.inr hk2))⟩⟩, fun g => absurd q2 g⟩
        · have hk3 : tk_kd tp z p = 3 := hkd.trans q1
          have he : tk_en tp z p = p + 1 := by
            unfold tk_en
            rw [if_pos hpz, if_neg (by omega)]
          rw [he] at at100
          have key : hf_G X Y_X12_splits (d + 2) k n 68 [some (.ref 156), some (.int (nI z)), some (.int (nI p)), some (.int (tp p)), some (.int (nI (p + 1))), none] [] (t, T, I, L, P) Q := by
            refine w_X12_splits_68_x hs ⟨fun _ => at100, fun g1 => ⟨fun _ => at100, fun g2 => ?_⟩⟩
            rcases q3 with q3 | q3
            · exact absurd q3 g1
            · exact absurd q3 g2
          refine ⟨fun _ => key, fun g1 => ⟨fun _ => key, fun g2 => ?_⟩⟩
          rcases q2 with q2 | q2
          · exact absurd q2 g1
          · exact absurd q2 g2
      · rw [nI_1]
        refine ih (z - (p + 1)) (by omega) (p + 1) j I (by omega) (by omega) hlt ?_ hst
        rw [hsk, tk_skp_go hpz hbl]
  refine w_X12_splits_0_x hs (main z 0 0 _ (by omega) (by omega) (fun k hk => absurd hk (by omega)) rfl ⟨⟨fun a a1 a2 a3 a4 => ?_, fun i hi => ?_⟩, rfl, fun k hk => absurd hk (by omega)⟩)
  · simp [hf_up, a1]
  · exact hf_upd_ne hi
end MLEX
