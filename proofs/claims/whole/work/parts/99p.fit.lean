/-! fit: class and model -/
theorem pr_c_lt {ok : Nat → Bool} : ∀ n, ∀ a b, a < b → b < (pr_c ok n).length → (pr_c ok n).getD a 0 < (pr_c ok n).getD b 0 := by
  intro n
  induction n with
  | zero => intro a b h1 h2; exact absurd h2 (by simp [pr_c])
  | succ n ih =>
    intro a b h1 h2
    rw [pr_c] at h2 ⊢
    by_cases e : ok n = true
    · rw [if_pos e] at h2 ⊢
      rw [List.length_append] at h2
      have l1 : [n].length = 1 := rfl
      by_cases q : b = (pr_c ok n).length
      · subst q
        rw [pr_gd1, pr_gd0 h1]
        exact (pr_c_mem.mp (pr_gm h1)).1
      · rw [pr_gd0 (show b < (pr_c ok n).length by omega), pr_gd0 (show a < (pr_c ok n).length by omega)]
        exact ih a b h1 (by omega)
    · rw [if_neg e] at h2 ⊢
      exact ih a b h1 h2
theorem pr_c_cg {ok ok' : Nat → Bool} {n : Nat} : (∀ i, i < n → ok i = ok' i) → pr_c ok n = pr_c ok' n := by
  induction n with
  | zero => intro _; rfl
  | succ n ih =>
    intro hk
    rw [pr_c, pr_c, ih (fun i hi => hk i (by omega)), hk n (by omega)]
theorem li_p_le3 {len : Nat → Nat} (h : ∀ j, len j ≤ 3) : ∀ k, li_p len k ≤ 3 ^ k := by
  intro k
  induction k with
  | zero => exact Nat.le_refl _
  | succ k ih => rw [li_p, Nat.pow_succ]; exact Nat.mul_le_mul ih (h k)
theorem li_p_z {len : Nat → Nat} {j : Nat} (hj : len j = 0) : ∀ k, j < k → li_p len k = 0 := by
  intro k
  induction k with
  | zero => intro z; omega
  | succ k ih =>
    intro hk
    rw [li_p]
    by_cases e : j = k
    · subst e; rw [hj, Nat.mul_zero]
    · rw [ih (by omega), Nat.zero_mul]
section FIT
variable {X : hf_X} {d N t : Nat} {T : hf_T} {I : hf_I} {L : hf_L} {P : hf_P} {cls : List gr_c1} {CC : Int32 → Int32 → Int32 → Int32 → Int32 → Int32 → (Nat → Int32) → (Nat → Int32) → Int32 → (Nat → Int32) → (Nat → Int32) → (Nat → Int32) → (Nat → Int32) → (Nat → Int32) → (Nat → Int32) → (Nat → Int32) → (Nat → Nat → Int32) → hf_P → Int64 → Int64 → Int32 → Int32 → Prop}
set_option maxHeartbeats 2000000 in
/-- the model's lists, in the class's words -/
theorem md_lists {w p LN bl : Nat} {kk nn : Nat} {C : hf_I} {Q : Option Value → hf_M → Prop} {lt0 : Nat → Int32} (h : hf_Sim hf_SL CC N t T I L P) (hc : lw_c t T I P cls) (hm : lw_m I cls) (h5 : I 105 5 = nI w) (hw : w ≤ 16) (h17 : I 101 17 = nI p) (hp : p ≤ 6) (hlt : ∀ j, j < 9 * w → lt0 j = I 110 j) (hLN : I 101 13 = nI LN) (hL4 : LN ≤ 4) (hbl : hf_bl (I 102) (I 101 14) = nI bl) (hb4 : bl ≤ 40) (hC : hf_n2 I C)
    (hQ : ∀ C', hf_n2 I C' → C' 156 36 = nI ((if p = 0 then 0 else 1) * li_p (fun j => (cc_li cls (I 101 14) (I 104) w (I 106) (I 107) (I 108) (I 109) (I 112) j).length) p * 2 ^ (p - 1)) → (1 ≤ p → (∀ j, j < p → 1 ≤ (cc_li cls (I 101 14) (I 104) w (I 106) (I 107) (I 108) (I 109) (I 112) j).length) → ro_ok C' p LN bl (fun j => (cc_li cls (I 101 14) (I 104) w (I 106) (I 107) (I 108) (I 109) (I 112) j).length) (fun j k => (cc_li cls (I 101 14) (I 104) w (I 106) (I 107) (I 108) (I 109) (I 112) j).getD k 0) (cc_wn (I 102) (I 101 14) (I 109) lt0) (cc_ls cls (I 101 14) (I 104) (I 106) (I 107) (I 108) (I 109))) → Q none (t, T, C', L, P)) :
    hf_G X Y_X12_lists (d + 610) kk nn 0 (hf_en [.ref 156, .int (I 101 14)] 4) [] (t, T, C, L, P) Q := by
  have hs := h.1
  obtain ⟨-, -, -, -, -, -, -, -, -, -, len3, opt, wn, lsn, -, -⟩ := cc_facts (lt0 := lt0) h cls h5 hw h17 hp hlt
  obtain ⟨m1, m2, ⟨t1, t2, t3, t4, t5⟩, ⟨w', w1, w2, w3, w4, w5⟩, ⟨p', p1, p2, p3, p4⟩, m6, m7, m8, m9, m10⟩ := h.2.1
  obtain rfl : w' = w := (nI_eq (by omega) (by omega)).mp (w2.symm.trans h5)
  obtain rfl : p' = p := (nI_eq (by omega) (by omega)).mp (p2.symm.trans h17)
  have eLN : I 158 314 = nI LN := t4.1.symm.trans hLN
  have ebl : I 158 52 * (I 101 14 + 2) / 2 = nI bl := by rw [← hbl, ← (m1 26 (by omega)).1]; rfl
  have e := hC.1
  have e158 : C 158 = I 158 := e 158 (by omega)
  have ejf : ∀ i, i < w' → jf_w (nI i) (I 106 i) (I 107 i) (I 108 i) (I 109 i) (I 101 14) (I 104 0) (I 104 1) = jf_w (nI i) (I 158 (53 + 13 * i)) (I 158 (53 + 13 * i + 1)) (I 158 (53 + 13 * i + 2)) (I 158 (53 + 13 * i + 3)) (I 101 14) (I 158 311) (I 158 312) := by
    intro i hi
    obtain ⟨o1, o2, e0, e1, e2, e3, e4, e5⟩ := S_w1_ok (w4 i hi)
    rw [show I 106 i = I 158 (53 + 13 * i) from e0, show I 107 i = I 158 (53 + 13 * i + 1) from e1, show I 108 i = I 158 (53 + 13 * i + 2) from e2, show I 109 i = I 158 (53 + 13 * i + 3) from e3, t1.1, t2.1]
  have lste : ∀ j, j < p' → pr_c (pr_km (I 158) (cc_bd cls (I 101 14) (I 104) (I 106) (I 107) (I 108) (I 109)) (I 158 (269 + j))) w' = cc_li cls (I 101 14) (I 104) w' (I 106) (I 107) (I 108) (I 109) (I 112) j := by
    intro j hj
    refine pr_c_cg fun i hi => ?_
    unfold pr_km
    rw [(p4 j hj).1, show I 106 i = I 158 (53 + 13 * i) from (w4 i hi).1.1]
  have ef : ∀ i, (fun q => I 158 (53 + 13 * i + 4 + q)) = fun q => I 158 (53 + 13 * i + (4 + q)) := fun i => funext fun q => by rw [Nat.add_assoc]
  refine ms_lists (d := d) (w := w') (p := p') (bd := cc_bd cls (I 101 14) (I 104) (I 106) (I 107) (I 108) (I 109)) (ww := fun i => nI (cc_wn (I 102) (I 101 14) (I 109) lt0 i)) (len := fun j => (cc_li cls (I 101 14) (I 104) w' (I 106) (I 107) (I 108) (I 109) (I 112) j).length) (ls := cc_ls cls (I 101 14) (I 104) (I 106) (I 107) (I 108) (I 109)) hs (lw_m_fr hm e158) (lw_gd hc) w1 (by rw [e158]; exact w3) p1 (by rw [e158]; exact p3) (by rw [e158]; exact fun s => by rw [← hf_cnt_congr (f := I 106) (g := fun i => I 158 (53 + 13 * i)) (fun j hj => (w4 j hj).1.1)]; exact w5.1 s) ?_ ?_ ?_ ?_ ?_ fun J st at1 => ?_
  · rw [e158]
    intro i hi
    rw [ef]
    exact (S_w1_ok (w4 i hi)).2.1
  · rw [e158]
    intro i hi
    unfold cc_bd
    rw [← ejf i hi]
  · rw [e158]
    intro i hi
    obtain ⟨o1, o2, e0, e1, e2, e3, e4, e5⟩ := S_w1_ok (w4 i hi)
    rw [← wn i hi, ef]
    exact e5 (I 102) (fun j => I 158 (26 + j)) (I 101 14) (fun j hj => (m1 j hj).1)
  · rw [e158]
    intro i hi
    unfold cc_ls
    rw [ejf i hi, ← t5.1, show I 107 i = I 158 (53 + 13 * i + 1) from (S_w1_ok (w4 i hi)).2.2.2.1]
  · rw [e158]
    exact fun j hj => by rw [lste j hj]
  · rw [e158] at at1
    obtain ⟨g1, g2, g3, g4, g5⟩ := st
    have eJ : ∀ a, ¬ a = 156 → hf_up J 156 36 (J 156 36 * J 156 37) a = J a := fun a ha => by unfold hf_up; rw [if_neg ha]
    have eK : hf_up J 156 36 (J 156 36 * J 156 37) 156 = upd (J 156) 36 (J 156 36 * J 156 37) := rfl
    have j158 : J 158 = I 158 := (g1.1 158 (by omega) (by omega) (by omega) (by omega) (by omega) (by omega)).trans e158
    have nJ : hf_n2 I (hf_up J 156 36 (J 156 36 * J 156 37)) := by
      refine n2_tr hC ⟨fun a ha => (eJ a (by omega)).trans (g1.1 a (by omega) (by omega) (by omega) (by omega) (by omega) (by omega)), fun j hj => ?_, fun j hj => ?_⟩
      · rw [eJ 136 (by omega), g1.1 136 (by omega) (by omega) (by omega) (by omega) (by omega) (by omega)]
      · rw [eK, hf_upd_ne (by omega)]
        exact g1.2 j (by omega)
    refine hQ _ nJ (by rw [eK, hf_upd_eq, g2, g3, pk_mul]) fun q1 q2 => ⟨⟨q1, p1, hL4, hb4, fun i => Nat.min_le_left _ _⟩, by rw [eJ 158 (by omega), j158]; exact p3, by rw [eJ 158 (by omega), j158]; exact eLN, by rw [eK, hf_upd_ne (by omega)]; exact g3, by rw [eK, hf_upd_ne (by omega), g4, e158]; exact ebl, fun j hj => ⟨?_, q2 j hj, len3 j⟩, fun j k hj hk => ?_⟩
    · rw [eJ 172 (by omega)]
      have := (at1 j hj).1
      rw [lste j hj] at this
      exact this
    · obtain ⟨o1, -⟩ := opt j k hk
      refine ⟨?_, Nat.lt_of_lt_of_le o1 hw, ?_, ?_⟩
      · rw [eJ 171 (by omega)]
        have := (at1 j hj).2 k (by rw [lste j hj]; exact hk)
        rw [lste j hj] at this
        exact this
      · rw [eJ 175 (by omega)]
        exact (g5 _ o1).1
      · rw [eJ 176 (by omega)]
        exact (g5 _ o1).2
end FIT
