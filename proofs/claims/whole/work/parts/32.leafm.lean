/-! the same on the model's side; kp = the cell 158 -/
section LEAFM
variable {X : hf_X} {d k n t : Nat} {T : hf_T} {I : hf_I} {L : hf_L} {P : hf_P} {Q : Option Value → hf_M → Prop}
theorem sp_X12_manyIn {line : Int32} {c : Nat} (hs : hf_Lay t T P) (hc : c ≤ 12) (hn : I 158 24 = nI c) (h : Q (some (.int (nI (hf_cnt (fun j => I 158 (12 + j)) line c)))) (t, T, I, L, P)) : hf_G X Y_X12_manyIn d k n 0 (hf_en [.ref 156, .int line] 4) [] (t, T, I, L, P) Q := by
  have loop : ∀ m i, i + m = c → hf_G X Y_X12_manyIn d k n 4 [some (.ref 156), some (.int line), some (.int (nI (hf_cnt (fun j => I 158 (12 + j)) line i))), some (.int (nI i))] [] (t, T, I, L, P) Q := by
    intro m
    induction m with
    | zero =>
      intro i hi
      have e : i = c := by omega
      subst e
      exact w_X12_manyIn_4 hs ⟨fun _ => h, fun hq => absurd (by rw [hn]; exact nI_le (Nat.le_refl _) (by omega)) hq⟩
    | succ m ih =>
      intro i hi
      refine w_X12_manyIn_4 hs ⟨fun hq => absurd hq (by rw [hn]; exact nI_ge (by omega) (by omega)), fun _ => ?_⟩
      rw [hf_i12, nI_clamp (by omega)]
      refine ⟨vp_in_nI (by omega) (by omega), fun hne => ?_, fun heq => ?_⟩
      · have := ih (i + 1) (by omega)
        rw [hf_cnt, if_neg hne, Nat.add_zero, ← nI_1] at this
        rw [Int32.add_zero]
        exact this
      · have := ih (i + 1) (by omega)
        rw [hf_cnt, if_pos heq, ← nI_1, ← nI_1] at this
        exact this
  exact w_X12_manyIn_0 hs (loop c 0 (by omega))
theorem sp_X12_firstIn {line : Int32} {c : Nat} (hs : hf_Lay t T P) (hc : c ≤ 12) (hn : I 158 24 = nI c) (h : Q (some (.int (hf_fw (I 158) (fun j => I 158 (12 + j)) line c))) (t, T, I, L, P)) : hf_G X Y_X12_firstIn d k n 0 (hf_en [.ref 156, .int line] 3) [] (t, T, I, L, P) Q := by
  have loop : ∀ m i, i + m = c → (∀ j, j < i → ¬ I 158 (12 + j) = line) → hf_G X Y_X12_firstIn d k n 2 [some (.ref 156), some (.int line), some (.int (nI i))] [] (t, T, I, L, P) Q := by
    intro m
    induction m with
    | zero =>
      intro i hi hb
      have e : i = c := by omega
      subst e
      unfold hf_fw at h
      rw [hf_fst_none hb, if_neg (by omega)] at h
      exact w_X12_firstIn_2 hs ⟨fun _ => h, fun hq => absurd (by rw [hn]; exact nI_le (Nat.le_refl _) (by omega)) hq⟩
    | succ m ih =>
      intro i hi hb
      refine w_X12_firstIn_2 hs ⟨fun hq => absurd hq (by rw [hn]; exact nI_ge (by omega) (by omega)), fun _ => ?_⟩
      rw [hf_i12, hf_i0, nI_clamp (by omega), nI_clamp (by omega)]
      refine ⟨vp_in_nI (by omega) (by omega), fun hne => ?_, fun heq => ⟨vp_in_nI (by omega) (by omega), ?_⟩⟩
      · have := ih (i + 1) (by omega) (fun j hj => by
          by_cases q : j < i
          · exact hb j q
          · rw [show j = i by omega]; exact hne)
        rw [← nI_1] at this
        exact this
      · unfold hf_fw at h
        rw [hf_fst_is (f := fun j => I 158 (12 + j)) (i := i) (by omega) heq hb, if_pos (by omega)] at h
        exact h
  exact w_X12_firstIn_0 hs (loop c 0 (by omega) (fun j hj => by omega))
theorem sp_X12_broadOf {i : Nat} {sz : Int32} (hs : hf_Lay t T P) (hi : i < 16) (hw : hf_wok (I 158 (53 + 13 * i + 3)) (fun q => I 158 (53 + 13 * i + 4 + q))) (h : Q (some (.int (hf_wd (fun j => I 158 (26 + j)) sz (I 158 (53 + 13 * i + 3)) (fun q => I 158 (53 + 13 * i + 4 + q))))) (t, T, I, L, P)) : hf_G X Y_X12_broadOf (d + 1) k n 0 (hf_en [.ref 156, .int (nI i), .int sz] 5) [] (t, T, I, L, P) Q := by
  obtain ⟨m, hm, hle, hlt⟩ := hw
  unfold hf_wd at h
  rw [hle, nI_clamp (by omega)] at h
  have loop : ∀ r q, q + r = m → hf_G X Y_X12_broadOf (d + 1) k n 5 [some (.ref 156), some (.int (nI i)), some (.int sz), some (.int (hf_ww (fun j => I 158 (26 + j)) (fun q => I 158 (53 + 13 * i + 4 + q)) sz q)), some (.int (nI q))] [] (t, T, I, L, P) Q := by
    intro r
    induction r with
    | zero =>
      intro q hq
      have e : q = m := by omega
      subst e
      refine w_X12_broadOf_5 hs ?_
      rw [hf_wi3, nI_clamp (by omega), hle]
      exact ⟨vp_in_nI (by omega) (by omega), fun _ => h, fun hc => absurd (nI_le (Nat.le_refl _) (by omega)) hc⟩
    | succ r ih =>
      intro q hq
      obtain ⟨c, hc, hl⟩ := hlt q (by omega)
      replace hl : I 158 (53 + 13 * i + 4 + q) = nI c := hl
      refine w_X12_broadOf_5 hs ?_
      rw [hf_wi3, hf_wi4, nI_clamp (show 53 + 13 * i + 3 < 2 ^ 31 by omega), hle, nI_clamp (show 53 + 13 * i + 4 + q < 2 ^ 31 by omega), hl, hf_i26, nI_clamp (show 26 + c < 2 ^ 31 by omega)]
      refine ⟨vp_in_nI (by omega) (by omega), fun hc => absurd hc (nI_ge (by omega) (by omega)), fun _ => ⟨vp_in_nI (by omega) (by omega), vp_in_nI (by omega) (by omega), ?_⟩⟩
      have := ih (q + 1) (by omega)
      rw [hf_ww, hf_lw, hl, nI_clamp (show c < 2 ^ 31 by omega), ← nI_1] at this
      exact this
  exact w_X12_broadOf_0 hs (loop m 0 (by omega))
/-- the model sums the blanks as it goes: the same sum -/
theorem hf_li_step {s w bl : Int32} {c : Nat} : hf_li s c bl + (w + (if c = 0 then 0 else bl)) = hf_li (s + w) (c + 1) bl := by
  unfold hf_li
  cases c with
  | zero =>
    simp only [if_pos, Nat.zero_sub, Nat.zero_add, Nat.sub_self]
    rw [show nI 0 = 0 from rfl]
    simp
  | succ c =>
    rw [if_neg (by omega), Nat.add_sub_cancel, Nat.add_sub_cancel, ← nI_1 c, Int32.add_mul, Int32.one_mul]
    simp only [Int32.add_assoc]
    congr 1
    rw [← Int32.add_assoc w, Int32.add_comm w, Int32.add_assoc, Int32.add_comm w, Int32.add_assoc]
theorem sp_X12_broadIn {line : Int32} {c : Nat} (hs : hf_Lay t T P) (hc : c ≤ 12) (hn : I 158 24 = nI c) (hw : ∀ j, j < c → ∃ i, i < 16 ∧ I 158 j = nI i ∧ hf_wok (I 158 (53 + 13 * i + 3)) (fun q => I 158 (53 + 13 * i + 4 + q)))
    (h : Q (some (.int (hf_li (hf_lws (fun j => hf_wd (fun j => I 158 (26 + j)) (I 158 315) (I 158 (53 + 13 * (I 158 j).toNatClampNeg + 3)) (fun q => I 158 (53 + 13 * (I 158 j).toNatClampNeg + 4 + q))) (fun j => I 158 (12 + j)) line c) (hf_cnt (fun j => I 158 (12 + j)) line c) (hf_bl (fun j => I 158 (26 + j)) (I 158 315))))) (t, T, I, L, P)) : hf_G X Y_X12_broadIn (d + 2) k n 0 (hf_en [.ref 156, .int line] 5) [] (t, T, I, L, P) Q := by
  have loop : ∀ r j, j + r = c → hf_G X Y_X12_broadIn (d + 2) k n 7 [some (.ref 156), some (.int line), some (.int (hf_li (hf_lws (fun j => hf_wd (fun j => I 158 (26 + j)) (I 158 315) (I 158 (53 + 13 * (I 158 j).toNatClampNeg + 3)) (fun q => I 158 (53 + 13 * (I 158 j).toNatClampNeg + 4 + q))) (fun j => I 158 (12 + j)) line j) (hf_cnt (fun j => I 158 (12 + j)) line j) (hf_bl (fun j => I 158 (26 + j)) (I 158 315)))), some (.int (nI (hf_cnt (fun j => I 158 (12 + j)) line j))), some (.int (nI j))] [] (t, T, I, L, P) Q := by
    intro r
    induction r with
    | zero =>
      intro j hj
      have e : j = c := by omega
      subst e
      exact w_X12_broadIn_7 (d := d + 1) hs ⟨fun _ => h, fun hq => absurd (by rw [hn]; exact nI_le (Nat.le_refl _) (by omega)) hq⟩
    | succ r ih =>
      intro j hj
      obtain ⟨i, hi, he, hok⟩ := hw j (by omega)
      have hcl := hf_cnt_le (fun j => I 158 (12 + j)) line j
      refine w_X12_broadIn_7 (d := d + 1) hs ⟨fun hq => absurd hq (by rw [hn]; exact nI_ge (by omega) (by omega)), fun _ => ?_⟩
      rw [hf_i12, hf_i0, nI_clamp (show 12 + j < 2 ^ 31 by omega), nI_clamp (show j < 2 ^ 31 by omega)]
      refine ⟨vp_in_nI (by omega) (by omega), fun heq => ⟨vp_in_nI (by omega) (by omega), ?_⟩, fun hne => ?_⟩
      · have := ih (j + 1) (by omega)
        rw [hf_lws, if_pos heq, hf_cnt, if_pos heq, ← hf_li_step, ← nI_1, ← nI_1] at this
        simp only [he, nI_clamp (show i < 2 ^ 31 by omega)] at this
        rw [he]
        refine sp_X12_broadOf hs hi hok (w_X12_broadIn_58 hs ⟨fun h0 => ?_, fun h0 => ?_⟩)
        · have hz : hf_cnt (fun j => I 158 (12 + j)) line j = 0 := by
            rcases Nat.eq_zero_or_pos (hf_cnt (fun j => I 158 (12 + j)) line j) with q | q
            · exact q
            · exact absurd h0 (nI_nle q (by omega))
          rw [hz] at this ⊢
          exact this
        · have hz : ¬ hf_cnt (fun j => I 158 (12 + j)) line j = 0 := fun q => h0 (by rw [q]; decide)
          rw [if_neg hz] at this
          exact this
      · have := ih (j + 1) (by omega)
        rw [hf_lws, if_neg hne, hf_cnt, if_neg hne, Nat.add_zero, ← nI_1] at this
        exact this
  have h0 := loop c 0 (by omega)
  have e0 : ∀ bl : Int32, hf_li 0 0 bl = 0 := fun bl => by unfold hf_li; rw [show nI (0 - 1) = 0 from rfl]; simp
  rw [hf_lws, hf_cnt, e0] at h0
  exact w_X12_broadIn_0 hs h0
theorem sp_X12_echoIn {li c : Nat} (hs : hf_Lay t T P) (hc : c ≤ 12) (hn : I 158 24 = nI c) (hli : li < 4) (h : Q (some (.int (hf_b (hf_ech (I 158) (fun j => I 158 (12 + j)) (nI li) (I 158 (275 + li)) c)))) (t, T, I, L, P)) : hf_G X Y_X12_echoIn d k n 0 (hf_en [.ref 156, .int (nI li)] 4) [] (t, T, I, L, P) Q := by
  have loop : ∀ r j, j + r = c → hf_G X Y_X12_echoIn d k n 4 [some (.ref 156), some (.int (nI li)), some (.int (hf_b (hf_ech (I 158) (fun j => I 158 (12 + j)) (nI li) (I 158 (275 + li)) j))), some (.int (nI j))] [] (t, T, I, L, P) Q := by
    intro r
    induction r with
    | zero =>
      intro j hj
      have e : j = c := by omega
      subst e
      exact w_X12_echoIn_4 hs ⟨fun _ => h, fun hq => absurd (by rw [hn]; exact nI_le (Nat.le_refl _) (by omega)) hq⟩
    | succ r ih =>
      intro j hj
      refine w_X12_echoIn_4 hs ⟨fun hq => absurd hq (by rw [hn]; exact nI_ge (by omega) (by omega)), fun _ => ?_⟩
      have := ih (j + 1) (by omega)
      rw [hf_ech, ← nI_1] at this
      rw [hf_i12, hf_i0, hf_i275, nI_clamp (show 12 + j < 2 ^ 31 by omega), nI_clamp (show j < 2 ^ 31 by omega), nI_clamp (show 275 + li < 2 ^ 31 by omega)]
      refine ⟨vp_in_nI (by omega) (by omega), fun hne => ?_, fun heq => ⟨vp_in_nI (by omega) (by omega), vp_in_nI (by omega) (by omega), fun hne => ?_, fun hee => ?_⟩⟩
      · simpa [hne] using this
      · simpa [hne] using this
      · simpa [heq, hee, hf_b] using this
  exact w_X12_echoIn_0 hs (loop c 0 (by omega))
theorem hf_nm1 {i : Nat} (hi : i < 2 ^ 31) : ¬ nI i = -1 := by
  intro q
  have : (nI i).toInt = (-1 : Int32).toInt := by rw [q]
  rw [nI_toInt hi] at this
  simp at this
theorem sp_X12_alikeIn {line : Int32} {c : Nat} (hs : hf_Lay t T P) (hc : c ≤ 12) (hn : I 158 24 = nI c) (hw : ∀ j, j < c → ∃ i, i < 16 ∧ I 158 j = nI i)
    (h : Q (some (.int (hf_b (decide (¬ line = 0) && hf_alk (hf_fw (I 158) (fun j => I 158 (12 + j)) line c) (hf_fw (I 158) (fun j => I 158 (12 + j)) (line - 1) c) (fun w => I 158 (53 + 13 * w.toNatClampNeg + 4)))))) (t, T, I, L, P)) : hf_G X Y_X12_alikeIn (d + 1) k n 0 (hf_en [.ref 156, .int line] 2) [] (t, T, I, L, P) Q := by
  have hfw : ∀ x : Int32, hf_fw (I 158) (fun j => I 158 (12 + j)) x c = -1 ∨ ∃ i, i < 16 ∧ hf_fw (I 158) (fun j => I 158 (12 + j)) x c = nI i := by
    intro x
    unfold hf_fw
    by_cases hlt : hf_fst (fun j => I 158 (12 + j)) x c < c
    · rw [if_pos hlt]
      exact Or.inr (hw _ hlt)
    · rw [if_neg hlt]
      exact Or.inl rfl
  refine w_X12_alikeIn_0 hs ⟨fun h0 => ?_, fun h0 => sp_X12_firstIn hs hc hn ?_⟩
  · simpa [h0, hf_b] using h
  · have e0 : decide (¬ line = 0) = true := by simp [h0]
    rw [e0, Bool.true_and] at h
    revert h
    unfold hf_alk
    generalize ha : hf_fw (I 158) (fun j => I 158 (12 + j)) line c = a
    generalize hb : hf_fw (I 158) (fun j => I 158 (12 + j)) (line - 1) c = b
    intro h
    refine w_X12_alikeIn_9 hs ⟨fun q => ?_, fun q => sp_X12_firstIn hs hc hn ?_⟩
    · subst q; simpa [hf_b] using h
    · rw [hb]
      refine w_X12_alikeIn_20 hs ⟨fun q2 => sp_X12_firstIn hs hc hn ?_, fun q2 => ?_⟩
      · rw [ha]
        rcases hfw line with e1 | ⟨i, hi, e1⟩
        · exact absurd (ha.symm.trans e1) q
        rcases hfw (line - 1) with e2 | ⟨j, hj, e2⟩
        · exact absurd (hb.symm.trans e2) q2
        rw [ha] at e1
        rw [hb] at e2
        subst e1
        subst e2
        refine w_X12_alikeIn_32 hs ?_
        rw [hf_wi4', nI_clamp (show 53 + 13 * i + 4 < 2 ^ 31 by omega)]
        refine ⟨vp_in_nI (by omega) (by omega), sp_X12_firstIn hs hc hn ?_⟩
        rw [hb]
        refine w_X12_alikeIn_44 hs ?_
        rw [hf_wi4', nI_clamp (show 53 + 13 * j + 4 < 2 ^ 31 by omega)]
        simp only [nI_clamp (show i < 2 ^ 31 by omega), nI_clamp (show j < 2 ^ 31 by omega)] at h
        refine ⟨vp_in_nI (by omega) (by omega), fun hne => ?_, fun heq => ?_⟩
        · simpa [hf_b, hf_nm1 (show i < 2 ^ 31 by omega), hf_nm1 (show j < 2 ^ 31 by omega), hne] using h
        · simpa [hf_b, hf_nm1 (show i < 2 ^ 31 by omega), hf_nm1 (show j < 2 ^ 31 by omega), heq] using h
      · subst q2; simpa [hf_b] using h
end LEAFM
