/-! SETTINGS, by both -/
section OPST
variable {X : hf_X} {d N t : Nat} {T : hf_T} {I : hf_I} {L : hf_L} {P : hf_P} {c v : Nat → Nat} {m : Nat} {cls : List gr_c1}
theorem st_start {A : hf_I} {lws : List gr_c1} (h : hf_Sim hf_SL hf_CC N t T I L P) (hm : m ≤ 400) (hA : st_A I cls A) (hc : ∀ k, c k < 1000) (hv : ∀ k, v k < 100000000) (l1 : lw_c t T (hf_mix A (st_B I m c v)) (hf_upP P 123 2 (some 122)) lws) (l2 : lw_m (hf_mix A (st_B I m c v)) lws) : st_in t T (hf_upP P 123 2 (some 122)) c v m cls lws (hf_mix A (st_B I m c v)) := by
  have g := sim_s (c := c) (v := v) h hm hA
  refine ⟨g.2.1, g.2.2.1.1, l1, l2, hA.1, fun k hk => ⟨⟨?_, hc k⟩, ?_, hv k⟩⟩
  · show st_K (I 158) m c v (329 + 2400 + k) = _
    unfold st_K
    rw [if_neg (by omega), if_pos (by omega), show 329 + 2400 + k - 2729 = k by omega]
  · show st_K (I 158) m c v (3129 + 2400 + k) = _
    unfold st_K
    rw [if_neg (by omega), if_neg (by omega), if_pos (by omega), show 3129 + 2400 + k - 5529 = k by omega]
/-- all taken back: as at the beginning -/
theorem sim_back {A I' : hf_I} {s : Int32} (h : hf_Sim hf_SL hf_CC N t T I L P) (hm : m ≤ 400) (hA : st_A I cls A) (hf : hf_fr (hf_mix A (st_B I m c v)) I') : hf_Sim hf_SL hf_CC N t T (hf_up (hf_up (hf_mix (rs_c I' (A 101 14)) (rs_m I' (I 156 27) (I 158 315))) 100 14 s) 156 41 s) L (hf_upP P 123 2 (some 122)) := by
  have g := sim_s (c := c) (v := v) h hm hA
  obtain ⟨a1, a2, a3, a4, a5, a6, a7, a8, a9, a10, -⟩ := hA
  generalize hE : hf_mix (rs_c I' (A 101 14)) (rs_m I' (I 156 27) (I 158 315)) = E0
  have ec : ∀ a, (a < 156 ∨ 180 < a) → E0 a = rs_c I' (A 101 14) a := fun a ha => by rw [← hE, mx_c ha]
  have em : ∀ a, (156 ≤ a ∧ a ≤ 180) → E0 a = rs_m I' (I 156 27) (I 158 315) a := fun a ha => by rw [← hE, mx_m ha]
  have cpy : ∀ {f g : Nat → Int32} {n j : Nat}, j < n → va_cpy f g 0 0 n j = f j := by
    intro f g n j hj
    have := hf_cpy_in (f := f) (g := g) (dp := 0) hj
    rw [Nat.zero_add] at this
    exact this
  have frI : ∀ a, ¬ a = 101 → ¬ a = 114 → ¬ a = 115 → ¬ a = 116 → ¬ a = 132 → ¬ a = 133 → ¬ a = 134 → ¬ a = 148 → ¬ a = 149 → ¬ a = 156 → ¬ a = 158 → ¬ a = 168 → ¬ a = 169 → I' a = hf_mix A (st_B I m c v) a := hf.1
  have i105 := frI 105 (by omega) (by omega) (by omega) (by omega) (by omega) (by omega) (by omega) (by omega) (by omega) (by omega) (by omega) (by omega) (by omega)
  have i150 : I' 150 = A 150 := frI 150 (by omega) (by omega) (by omega) (by omega) (by omega) (by omega) (by omega) (by omega) (by omega) (by omega) (by omega) (by omega) (by omega)
  have i151 : I' 151 = A 151 := frI 151 (by omega) (by omega) (by omega) (by omega) (by omega) (by omega) (by omega) (by omega) (by omega) (by omega) (by omega) (by omega) (by omega)
  have i152 : I' 152 = A 152 := frI 152 (by omega) (by omega) (by omega) (by omega) (by omega) (by omega) (by omega) (by omega) (by omega) (by omega) (by omega) (by omega) (by omega)
  have i153 : I' 153 = A 153 := frI 153 (by omega) (by omega) (by omega) (by omega) (by omega) (by omega) (by omega) (by omega) (by omega) (by omega) (by omega) (by omega) (by omega)
  have i154 : I' 154 = A 154 := frI 154 (by omega) (by omega) (by omega) (by omega) (by omega) (by omega) (by omega) (by omega) (by omega) (by omega) (by omega) (by omega) (by omega)
  have i161 : I' 161 = cp_n (I 158) (I 161) 26 := frI 161 (by omega) (by omega) (by omega) (by omega) (by omega) (by omega) (by omega) (by omega) (by omega) (by omega) (by omega) (by omega) (by omega)
  have i170 : I' 170 = cp_n (I 169) (I 170) 432 := frI 170 (by omega) (by omega) (by omega) (by omega) (by omega) (by omega) (by omega) (by omega) (by omega) (by omega) (by omega) (by omega) (by omega)
  have cpn : ∀ {f g : Nat → Int32} {n j : Nat}, j < n → cp_n f g n j = f j := fun hj => if_pos hj
  have A114 : A 114 = I 114 := a2 114 (by omega) (by omega) (by omega)
  have A115 : A 115 = I 115 := a2 115 (by omega) (by omega) (by omega)
  have A116 : A 116 = I 116 := a2 116 (by omega) (by omega) (by omega)
  have A148 : A 148 = I 148 := a2 148 (by omega) (by omega) (by omega)
  have A149 : A 149 = I 149 := a2 149 (by omega) (by omega) (by omega)
  have e105 : E0 105 = hf_mix A (st_B I m c v) 105 := by rw [ec 105 (by omega), rs_c_no (by omega), i105]
  have e14 : E0 101 14 = hf_mix A (st_B I m c v) 101 14 := by rw [ec 101 (by omega)]; rfl
  have e315 : E0 158 315 = hf_mix A (st_B I m c v) 158 315 := by
    rw [em 158 (by omega)]
    show I 158 315 = st_K (I 158) m c v 315
    rw [st_K_lo (by omega) hm]
  have fr : hf_fr (hf_mix A (st_B I m c v)) E0 := by
    refine ⟨fun a z1 z2 z3 z4 z5 z6 z7 z8 z9 z10 z11 z12 z13 => ?_, fun j hj => ?_, fun j hj => ?_, fun j j1 j2 => ?_⟩
    · rw [← frI a z1 z2 z3 z4 z5 z6 z7 z8 z9 z10 z11 z12 z13]
      by_cases q : 156 ≤ a ∧ a ≤ 180
      · rw [em a q, rs_m_no ⟨z10, z11, z13⟩]
      · rw [ec a (by omega), rs_c_no ⟨z1, z2, z3, z4, z8, z9⟩]
    · rw [← hf.2.1 j hj, ec 101 (by omega)]
      show upd (I' 101) 14 _ j = _
      exact hf_upd_ne hj
    · rw [← hf.2.2.1 j hj, em 156 (by omega)]
      show upd (I' 156) 27 _ j = _
      exact hf_upd_ne (by omega)
    · rw [← hf.2.2.2 j j1 j2, em 158 (by omega)]
      show upd (cp_n (I' 161) (I' 158) 26) 315 _ j = _
      rw [hf_upd_ne j2]
      exact if_neg (by omega)
  have hSM : hf_SM E0 := by
    refine hf_SM_hd g.2.1 fr e315 e14 ?_
    unfold S_hd
    rw [e105]
    refine S_h1_cg2 g.2.1.2.2.2.2.2.2.1 ?_ ?_ (fun j hj => ?_) (fun j hj => ?_) (fun j hj => ?_)
    · rw [ec 114 (by omega)]
      show I' 152 2 = A 114 2
      rw [i152, a7, A114]
    · rw [ec 114 (by omega)]
      show I' 152 3 = A 114 3
      rw [i152, a8, A114]
    · rw [ec 115 (by omega)]
      show va_cpy (I' 153) (I' 115) 0 0 12 j = A 115 j
      rw [cpy hj, i153, a9 j hj, A115]
    · rw [ec 116 (by omega)]
      show va_cpy (I' 154) (I' 116) 0 0 12 j = A 116 j
      rw [cpy hj, i154, a10 j hj, A116]
    · rw [em 158 (by omega)]
      show upd (cp_n (I' 161) (I' 158) 26) 315 _ j = st_K (I 158) m c v j
      rw [hf_upd_ne (by omega), cpn hj, i161, cpn hj, st_K_lo (by omega) hm]
  have hud : hf_ud E0 := by
    unfold hf_ud
    rw [e105]
    refine S_ud_cg g.2.2.1.1 ?_ ?_ (fun j hj => ?_) ?_ (fun j hj => ?_)
    · rw [ec 148 (by omega)]
      show I' 150 1 = A 148 1
      rw [i150, a4, A148]
    · rw [ec 148 (by omega)]
      show I' 150 2 = A 148 2
      rw [i150, a5, A148]
    · rw [ec 149 (by omega)]
      show va_cpy (I' 151) (I' 149) 0 0 432 j = A 149 j
      rw [cpy hj, i151, a6 j hj, A149]
    · rw [em 156 (by omega)]
      rfl
    · rw [em 169 (by omega)]
      show cp_n (I' 170) (I' 169) 432 j = I 169 j
      rw [cpn hj, i170, cpn hj]
  exact sim_st (sim_fr g hSM hud fr e14)
/-- the model has read, and begins -/
theorem nz2_start {A R B1 B2 : hf_I} (hR : kpm I R) (hm : m ≤ 400) (f1 : ∀ a, ¬ a = 156 → ¬ a = 165 → ¬ a = 166 → ¬ a = 167 → B1 a = R a) (f2 : ∀ j, ¬ j = 7 → ¬ j = 10 → ¬ j = 11 → ¬ (15 ≤ j ∧ j ≤ 18) → ¬ j = 41 → B1 156 j = I 156 j) (f7 : B1 156 7 = 1) (f41 : B1 156 41 = -1) (f10 : B1 156 10 = 0) (f11 : B1 156 11 = -1) (frw : ∀ k, k < m → B1 165 k = nI (c k) ∧ B1 166 k = nI (v k))
    (k1 : ∀ a, ¬ a = 158 → B2 a = hf_set (hf_set B1 161 (cp_n (B1 158) (B1 161) 26)) 170 (cp_n (B1 169) (B1 170) 432) a) (k2 : B2 158 328 = nI m) (k3 : ∀ k, k < m → B2 158 (329 + 400 * 6 + k) = B1 165 k ∧ B2 158 (3129 + 400 * 6 + k) = B1 166 k) (k4 : ∀ j, ¬ j = 328 → (j < 329 + 400 * 6 ∨ 329 + 400 * 6 + m ≤ j) → (j < 3129 + 400 * 6 ∨ 3129 + 400 * 6 + m ≤ j) → B2 158 j = B1 158 j) : nz2 (hf_mix A (st_B I m c v)) (hf_up (hf_up B2 156 24 0) 156 42 2400) := by
  have b : ∀ a, 156 < a → a ≤ 180 → ¬ (165 ≤ a ∧ a ≤ 167) → B1 a = I a := fun a z1 z2 z3 => (f1 a (by omega) (by omega) (by omega) (by omega)).trans (hR a (by omega) (by omega))
  refine ⟨fun a z1 z2 z3 => ?_, fun j z1 z2 => ?_⟩
  · rw [hf_up_no (by omega), hf_up_no (by omega), mx_m (by omega)]
    unfold st_B
    by_cases h158 : a = 158
    · subst h158
      rw [hf_set_at]
      funext j
      unfold st_K
      by_cases q1 : j = 328
      · rw [if_pos q1, q1, k2]
      · rw [if_neg q1]
        by_cases q2 : 2729 ≤ j ∧ j < 2729 + m
        · rw [if_pos q2, ← (frw (j - 2729) (by omega)).1, ← (k3 (j - 2729) (by omega)).1, show 329 + 400 * 6 + (j - 2729) = j by omega]
        · rw [if_neg q2]
          by_cases q3 : 5529 ≤ j ∧ j < 5529 + m
          · rw [if_pos q3, ← (frw (j - 5529) (by omega)).2, ← (k3 (j - 5529) (by omega)).2, show 3129 + 400 * 6 + (j - 5529) = j by omega]
          · rw [if_neg q3, k4 j q1 (by omega) (by omega), b 158 (by omega) (by omega) (by omega)]
    · rw [hf_set_no h158, k1 a h158, b 158 (by omega) (by omega) (by omega), b 161 (by omega) (by omega) (by omega), b 169 (by omega) (by omega) (by omega), b 170 (by omega) (by omega) (by omega)]
      unfold hf_set
      by_cases q1 : a = 170
      · rw [if_pos q1, if_pos q1]
      · rw [if_neg q1, if_neg q1]
        by_cases q2 : a = 161
        · rw [if_pos q2, if_pos q2]
        · rw [if_neg q2, if_neg q2, hf_up_no (by omega), hf_up_no (by omega), hf_up_no (by omega), hf_up_no (by omega), hf_up_no (by omega)]
          exact b a z1 z2 (by omega)
  · have e156 : B2 156 = B1 156 := k1 156 (by omega)
    show upd (upd (B2 156) 24 0) 42 2400 j = upd (upd (upd (upd (upd (I 156) 41 (-1)) 7 1) 10 0) 11 (-1)) 24 0 j
    rw [hf_upd_ne (by omega), e156]
    unfold upd
    by_cases q24 : j = 24
    · rw [if_pos q24, if_pos q24]
    · rw [if_neg q24, if_neg q24]
      by_cases q11 : j = 11
      · rw [if_pos q11, q11, f11]
      · rw [if_neg q11]
        by_cases q10 : j = 10
        · rw [if_pos q10, q10, f10]
        · rw [if_neg q10]
          by_cases q7 : j = 7
          · rw [if_pos q7, q7, f7]
          · rw [if_neg q7]
            by_cases q41 : j = 41
            · rw [if_pos q41, q41, f41]
            · rw [if_neg q41]
              exact f2 j q7 q10 q11 (by omega) q41
end OPST
