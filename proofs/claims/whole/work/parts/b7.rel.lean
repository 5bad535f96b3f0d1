/-! SETTINGS: the relation where a TEXT has been read, where all was run, where all is taken back -/
section REL
variable {X : hf_X} {d N t : Nat} {T : hf_T} {I W : hf_I} {L : hf_L} {P : hf_P}
theorem mx_c {C M : hf_I} {a : Nat} (h : a < 156 ∨ 180 < a) : hf_mix C M a = C a := by
  rw [hf_mix_c]
  cases hq : Nat.ble 156 a && Nat.ble a 180 with
  | false => rfl
  | true => rw [Bool.and_eq_true, Nat.ble_eq, Nat.ble_eq] at hq; omega
theorem mx_m {C M : hf_I} {a : Nat} (h : 156 ≤ a ∧ a ≤ 180) : hf_mix C M a = M a := by
  rw [hf_mix_m]
  rw [Bool.and_eq_true, Nat.ble_eq, Nat.ble_eq]
  exact h
theorem SD_K {kq : Nat → Int32} (h : hf_SM I) (hk : ∀ j, j < 322 → kq j = I 158 j) : hf_SD (I 101) (I 102) (I 103) (I 104) (I 105) (I 106) (I 107) (I 108) (I 109) (I 110) (I 112) (I 113) (I 114) (I 115) (I 116) (I 117) (I 118) (I 119) (I 120) kq := by
  obtain ⟨m1, m2, m3, m4, m5, m6, m7, m8, m9, m10⟩ := h
  exact ⟨S_br_fr (fun i _ _ => hk i (by omega)) m1, S_wo_fr (fun i _ _ => hk i (by omega)) m2, S_tm_fr (fun i _ _ => hk i (by omega)) m3, S_wd_fr (fun i _ _ => hk i (by omega)) (hk 316 (by omega)) m4, S_sy_fr (fun i _ _ => hk i (by omega)) (hk 317 (by omega)) m5, S_nx_fr (fun i _ _ => hk i (by omega)) m6, S_h1_fr (fun i _ => hk i (by omega)) m7, S_se_fr (fun i _ _ => hk i (by omega)) (hk 318 (by omega)) m8, S_ma_fr (fun i _ _ => hk i (by omega)) (hk 319 (by omega)) m9, S_lf_fr (fun i _ _ => hk i (by omega)) m10⟩
/-- a TEXT has been read -/
theorem sim_rd {w s : Int32} (h : hf_Sim hf_SL hf_CC N t T I L P) (e : ∀ a, (a < 123 ∨ (130 < a ∧ a < 150) ∨ a = 155 ∨ a = 157 ∨ a = 159 ∨ a = 160 ∨ a = 162 ∨ a = 169 ∨ 180 ≤ a) → ¬ a = 100 → W a = I a) (e13 : W 100 13 = 0) (e14 : W 123 1 = w) (e15 : W 100 14 = s) (e16 : W 100 15 = I 100 15) (e17 : W 100 16 = I 100 16) (f0 : W 156 0 = I 156 0) (f10 : W 156 10 = 0) (f11 : W 156 11 = w) (f27 : W 156 27 = I 156 27) (f41 : W 156 41 = s) (f49 : W 156 49 = I 156 49) (hK : ∀ j, j < 322 → W 158 j = I 158 j) (hK2 : kp_same (fun j => I 158 (322 + j)) (fun j => W 158 (322 + j))) : hf_Sim hf_SL hf_CC N t T W L (hf_upP P 123 2 (some 122)) := by
  obtain ⟨h1, h2, ⟨u1, u2, u3, u4, u5, u6, u7, u8⟩, h4, h5, h6⟩ := h
  have eJ : (fun a => W (181 + a)) = fun a => I (181 + a) := funext fun a => e (181 + a) (by omega) (by omega)
  have c101 := e 101 (by omega) (by omega)
  have c102 := e 102 (by omega) (by omega)
  have c104 := e 104 (by omega) (by omega)
  have c105 := e 105 (by omega) (by omega)
  have c106 := e 106 (by omega) (by omega)
  have c107 := e 107 (by omega) (by omega)
  have c108 := e 108 (by omega) (by omega)
  have c109 := e 109 (by omega) (by omega)
  have c110 := e 110 (by omega) (by omega)
  have c112 := e 112 (by omega) (by omega)
  have c113 := e 113 (by omega) (by omega)
  have c136 := e 136 (by omega) (by omega)
  refine ⟨lay_123 h1, ?_, ⟨?_, ⟨0, by omega, e13, f10, fun j hj => absurd hj (by omega)⟩, e14.trans f11.symm, e15.trans f41.symm, ?_, ?_, ?_, ?_⟩, ?_, ?_, ?_⟩
  · have := SD_K (kq := W 158) h2 hK
    unfold hf_SM
    rw [c101, c102, e 103 (by omega) (by omega), c104, c105, c106, c107, c108, c109, c110, c112, c113, e 114 (by omega) (by omega), e 115 (by omega) (by omega), e 116 (by omega) (by omega), e 117 (by omega) (by omega), e 118 (by omega) (by omega), e 119 (by omega) (by omega), e 120 (by omega) (by omega)]
    exact this
  · rw [c105, e 148 (by omega) (by omega), e 149 (by omega) (by omega), f27, e 169 (by omega) (by omega)]
    exact u1
  · rw [e16, f0]; exact u5
  · rw [e 155 (by omega) (by omega), e 157 (by omega) (by omega)]; exact u6
  · rw [e 146 (by omega) (by omega), e 147 (by omega) (by omega), f49, e 180 (by omega) (by omega)]; exact u7
  · rw [e 162 (by omega) (by omega)]; exact u8
  · rw [e17, c136]; exact h4
  · rw [e17, c136, c101, c102, c104, c105, c106, c107, c108, c109, c110, c112, c113, eJ]
    exact fun q => hf_CC_P upP_123 (h5 q)
  · rw [eJ, c101, e 159 (by omega) (by omega), e 160 (by omega) (by omega)]
    exact hf_SL_P upP_123 hK2 h6
/-- where it stopped -/
theorem sim_st {s : Int32} (h : hf_Sim hf_SL hf_CC N t T I L P) : hf_Sim hf_SL hf_CC N t T (hf_up (hf_up I 100 14 s) 156 41 s) L P := by
  obtain ⟨h1, h2, ⟨u1, u2, u3, u4, u5, u6, u7, u8⟩, h4, h5, h6⟩ := h
  refine ⟨h1, h2, ⟨u1, u2, u3, rfl, u5, u6, u7, u8⟩, h4, ?_, ?_⟩
  · rw [hf_up_J (by omega), hf_up_J (by omega)]; exact h5
  · rw [hf_up_J (by omega), hf_up_J (by omega)]; exact h6
/-- refused by one after the other -/
theorem mix_ref {A B : hf_I} {z : Int32} {q q2 : Nat} (hB : kpc (hf_up (hf_up A 100 15 z) 155 q (A 155 q + 1)) B) : hf_up (hf_up B 156 0 z) 157 q2 (B 157 q2 + 1) = hf_up (hf_up (hf_up (hf_up (hf_mix A B) 100 15 z) 155 q (hf_mix A B 155 q + 1)) 156 0 z) 157 q2 (hf_mix A B 157 q2 + 1) := by
  funext a
  have m155 : hf_mix A B 155 = A 155 := rfl
  have m157 : hf_mix A B 157 = B 157 := rfl
  rw [m155, m157]
  by_cases h157 : a = 157
  · subst h157; rfl
  rw [hf_up_no h157, hf_up_no h157]
  by_cases h156 : a = 156
  · subst h156; rfl
  rw [hf_up_no h156, hf_up_no h156]
  by_cases hm : 156 ≤ a ∧ a ≤ 180
  · rw [hf_up_no (by omega), hf_up_no (by omega), mx_m hm]
  · rw [hB a (by omega)]
    by_cases h155 : a = 155
    · subst h155; rfl
    rw [hf_up_no h155, hf_up_no h155]
    by_cases h100 : a = 100
    · subst h100; rfl
    rw [hf_up_no h100, hf_up_no h100, mx_c (by omega)]
/-- the cells where the CLAUSES begin to be run -/
def st_K (kp : Nat → Int32) (m : Nat) (c v : Nat → Nat) : Nat → Int32 := fun j => if j = 328 then nI m else if 2729 ≤ j ∧ j < 2729 + m then nI (c (j - 2729)) else if 5529 ≤ j ∧ j < 5529 + m then nI (v (j - 5529)) else kp j
theorem st_K_lo {kp : Nat → Int32} {m : Nat} {c v : Nat → Nat} {j : Nat} (h : j < 328 ∨ (328 < j ∧ j < 2729) ∨ (3129 ≤ j ∧ j < 5529)) (hm : m ≤ 400) : st_K kp m c v j = kp j := by
  unfold st_K
  rw [if_neg (by omega), if_neg (by omega), if_neg (by omega)]
def st_B (I : hf_I) (m : Nat) (c v : Nat → Nat) : hf_I := hf_set (hf_set (hf_set (hf_up (hf_up (hf_up (hf_up (hf_up I 156 41 (-1)) 156 7 1) 156 10 0) 156 11 (-1)) 156 24 0) 161 (cp_n (I 158) (I 161) 26)) 170 (cp_n (I 169) (I 170) 432)) 158 (st_K (I 158) m c v)
def st_A (I : hf_I) (cls : List gr_c1) (A : hf_I) : Prop := tx_st 124 125 126 127 128 129 130 cls A ∧ (∀ a, (a < 123 ∨ 130 < a) → ¬ a = 100 → ¬ (150 ≤ a ∧ a ≤ 154) → A a = I a) ∧ A 100 = upd (upd (I 100) 13 0) 14 (-1) ∧ A 150 1 = I 148 1 ∧ A 150 2 = I 148 2 ∧ (∀ j, j < 432 → A 151 j = I 149 j) ∧ A 152 2 = I 114 2 ∧ A 152 3 = I 114 3 ∧ (∀ j, j < 12 → A 153 j = I 115 j) ∧ (∀ j, j < 12 → A 154 j = I 116 j) ∧ A 123 1 = -1
theorem st_A_mk {A1 : hf_I} {cls : List gr_c1} (h1 : tx_st 124 125 126 127 128 129 130 cls A1) (h2 : ∀ a, a < 123 ∨ 130 < a → A1 a = hf_up (hf_up I 100 13 0) 100 14 (-1) a) (hF : A1 123 1 = -1) : ∀ A2 A3 A4, A2 = A1 → A3 = hf_up (hf_up (hf_cp A2 149 151 0 0 432) 150 1 (A2 148 1)) 150 2 (A2 148 2) → A4 = hf_up (hf_up (hf_cp (hf_cp A3 115 153 0 0 12) 116 154 0 0 12) 152 2 (A3 114 2)) 152 3 (A3 114 3) → st_A I cls A4 := by
  intro A2 A3 A4 e2 e3 e4
  have g2 : ∀ a, (a < 123 ∨ 130 < a) → ¬ a = 100 → A2 a = I a := by
    intro a ha h100
    rw [e2, h2 a ha, hf_up_no h100, hf_up_no h100]
  have g4 : ∀ a, ¬ (150 ≤ a ∧ a ≤ 154) → A4 a = A2 a := by
    intro a ha
    rw [e4, hf_up_no (by omega), hf_up_no (by omega)]
    unfold hf_cp
    rw [if_neg (by omega), if_neg (by omega), e3, hf_up_no (by omega), hf_up_no (by omega)]
    unfold hf_cp
    rw [if_neg (by omega)]
  have cpy : ∀ {f g : Nat → Int32} {n j : Nat}, j < n → va_cpy f g 0 0 n j = f j := by
    intro f g n j hj
    have := hf_cpy_in (f := f) (g := g) (dp := 0) hj
    rw [Nat.zero_add] at this
    exact this
  refine ⟨?_, fun a ha h100 h150 => (g4 a h150).trans (g2 a ha h100), ?_, ?_, ?_, fun j hj => ?_, ?_, ?_, fun j hj => ?_, fun j hj => ?_, ?_⟩
  · have g : ∀ a, 101 ≤ a → a ≤ 130 → A4 a = A1 a := fun a h3 h4 => by
      rw [g4 a (by omega), e2]
    unfold tx_st
    rw [g 124 (by omega) (by omega), g 125 (by omega) (by omega), g 126 (by omega) (by omega), g 127 (by omega) (by omega), g 128 (by omega) (by omega), g 129 (by omega) (by omega), g 130 (by omega) (by omega)]
    exact h1
  · rw [g4 100 (by omega), e2, h2 100 (by omega), hf_up_at, hf_up_at]
  · rw [e4]
    show A3 150 1 = _
    rw [e3]
    show A2 148 1 = _
    rw [g2 148 (by omega) (by omega)]
  · rw [e4]
    show A3 150 2 = _
    rw [e3]
    show A2 148 2 = _
    rw [g2 148 (by omega) (by omega)]
  · rw [e4]
    show A3 151 j = _
    rw [e3]
    show va_cpy (A2 149) (A2 151) 0 0 432 j = _
    rw [cpy hj, g2 149 (by omega) (by omega)]
  · rw [e4]
    show A3 114 2 = _
    rw [e3]
    show A2 114 2 = _
    rw [g2 114 (by omega) (by omega)]
  · rw [e4]
    show A3 114 3 = _
    rw [e3]
    show A2 114 3 = _
    rw [g2 114 (by omega) (by omega)]
  · rw [e4]
    show va_cpy (A3 115) (A3 153) 0 0 12 j = _
    rw [cpy hj, e3]
    show A2 115 j = _
    rw [g2 115 (by omega) (by omega)]
  · rw [e4]
    show va_cpy (hf_cp A3 115 153 0 0 12 116) (hf_cp A3 115 153 0 0 12 154) 0 0 12 j = _
    rw [cpy hj, e3]
    show A2 116 j = _
    rw [g2 116 (by omega) (by omega)]
  · rw [g4 123 (by omega), e2]
    exact hF
theorem sim_s {A : hf_I} {cls : List gr_c1} {m : Nat} {c v : Nat → Nat} (h : hf_Sim hf_SL hf_CC N t T I L P) (hm : m ≤ 400) (hA : st_A I cls A) : hf_Sim hf_SL hf_CC N t T (hf_mix A (st_B I m c v)) L (hf_upP P 123 2 (some 122)) := by
  obtain ⟨-, a2, a3, -, -, -, -, -, -, -, aF⟩ := hA
  refine sim_rd (w := -1) (s := -1) h (fun a ha h100 => ?_) ?_ ?_ ?_ ?_ ?_ rfl rfl rfl rfl rfl rfl (fun j hj => st_K_lo (by omega) hm) ⟨fun i hi => st_K_lo (by omega) hm, fun i k hi hk => ⟨st_K_lo (by omega) hm, st_K_lo (by omega) hm⟩⟩
  · by_cases q : 156 ≤ a ∧ a ≤ 180
    · rw [mx_m q]
      unfold st_B
      rw [hf_set_no (by omega), hf_set_no (by omega), hf_set_no (by omega), hf_up_no (by omega), hf_up_no (by omega), hf_up_no (by omega), hf_up_no (by omega), hf_up_no (by omega)]
    · rw [mx_c (by omega)]
      exact a2 a (by omega) h100 (by omega)
  · show A 100 13 = _
    rw [a3]; rfl
  · show A 123 1 = _
    exact aF
  · show A 100 14 = _
    rw [a3]; rfl
  · show A 100 15 = _
    rw [a3]; rfl
  · show A 100 16 = _
    rw [a3]; rfl
/-- what goes back, by the class, by the model -/
def rs_c (C : hf_I) (x2 : Int32) : hf_I := hf_up (hf_up (hf_up (hf_cp (hf_cp (hf_up (hf_up (hf_cp C 151 149 0 0 432) 148 1 (C 150 1)) 148 2 (C 150 2)) 153 115 0 0 12) 154 116 0 0 12) 114 2 (C 152 2)) 114 3 (C 152 3)) 101 14 x2
def rs_m (D : hf_I) (x1 x2 : Int32) : hf_I := hf_up (hf_up (hf_set (hf_set D 158 (cp_n (D 161) (D 158) 26)) 169 (cp_n (D 170) (D 169) 432)) 156 27 x1) 158 315 x2
theorem rs_c_no {C : hf_I} {x2 : Int32} {a : Nat} (h : ¬ a = 101 ∧ ¬ a = 114 ∧ ¬ a = 115 ∧ ¬ a = 116 ∧ ¬ a = 148 ∧ ¬ a = 149) : rs_c C x2 a = C a := by
  unfold rs_c
  rw [hf_up_no (by omega), hf_up_no (by omega), hf_up_no (by omega)]
  unfold hf_cp
  rw [if_neg (by omega), if_neg (by omega), hf_up_no (by omega), hf_up_no (by omega)]
  rw [if_neg (by omega)]
theorem rs_m_no {C : hf_I} {x1 x2 : Int32} {a : Nat} (h : ¬ a = 156 ∧ ¬ a = 158 ∧ ¬ a = 169) : rs_m C x1 x2 a = C a := by
  unfold rs_m
  rw [hf_up_no (by omega), hf_up_no (by omega), hf_set_no (by omega), hf_set_no (by omega)]
theorem nzc_cp {C : hf_I} {a b sp dp w : Nat} (h : nzc I C) (ea : C a = I a) (eb : C b = I b) : nzc (hf_cp I a b sp dp w) (hf_cp C a b sp dp w) := by
  intro q b1 b2 b3 b4
  unfold hf_cp
  by_cases z : q = b
  · rw [if_pos z, if_pos z, ea, eb]
  · rw [if_neg z, if_neg z]; exact h q b1 b2 b3 b4
theorem nzc_rsc {C : hf_I} {x2 : Int32} (h : nzc I C) : nzc (rs_c I x2) (rs_c C x2) := by
  have e : ∀ a, (a < 132 ∨ (134 < a ∧ a < 156)) → C a = I a := fun a ha => h a (by omega) (by omega) (by omega) (by omega)
  unfold rs_c
  rw [e 150 (by omega), e 152 (by omega)]
  have h1 : nzc (hf_cp I 151 149 0 0 432) (hf_cp C 151 149 0 0 432) := nzc_cp h (e 151 (by omega)) (e 149 (by omega))
  have h2 := nzc_up (a := 148) (j := 1) (v := I 150 1) h1 (h1 148 (by omega) (by omega) (by omega) (by omega))
  have h3 := nzc_up (a := 148) (j := 2) (v := I 150 2) h2 (h2 148 (by omega) (by omega) (by omega) (by omega))
  have h4 := nzc_cp (a := 153) (b := 115) (sp := 0) (dp := 0) (w := 12) h3 (h3 153 (by omega) (by omega) (by omega) (by omega)) (h3 115 (by omega) (by omega) (by omega) (by omega))
  have h5 := nzc_cp (a := 154) (b := 116) (sp := 0) (dp := 0) (w := 12) h4 (h4 154 (by omega) (by omega) (by omega) (by omega)) (h4 116 (by omega) (by omega) (by omega) (by omega))
  have h6 := nzc_up (a := 114) (j := 2) (v := I 152 2) h5 (h5 114 (by omega) (by omega) (by omega) (by omega))
  have h7 := nzc_up (a := 114) (j := 3) (v := I 152 3) h6 (h6 114 (by omega) (by omega) (by omega) (by omega))
  exact nzc_up (a := 101) (j := 14) (v := x2) h7 (h7 101 (by omega) (by omega) (by omega) (by omega))
theorem nz2_rsm {D : hf_I} {x1 x2 : Int32} (h : nz2 I D) : nz2 (rs_m I x1 x2) (rs_m D x1 x2) := by
  have e : ∀ a, 156 < a → a ≤ 180 → ¬ (165 ≤ a ∧ a ≤ 168) → D a = I a := h.1
  unfold rs_m
  rw [e 161 (by omega) (by omega) (by omega), e 158 (by omega) (by omega) (by omega), e 170 (by omega) (by omega) (by omega), e 169 (by omega) (by omega) (by omega)]
  refine ⟨fun a a1 a2 a3 => ?_, fun j j1 j2 => ?_⟩
  · by_cases z : a = 158
    · subst z; rfl
    · rw [hf_up_no z, hf_up_no z, hf_up_no (by omega), hf_up_no (by omega)]
      unfold hf_set
      by_cases z9 : a = 169
      · rw [if_pos z9, if_pos z9]
      · rw [if_neg z9, if_neg z9, if_neg z, if_neg z]; exact e a a1 a2 a3
  · show upd (D 156) 27 x1 j = upd (I 156) 27 x1 j
    unfold upd
    split
    · rfl
    · exact h.2 j j1 j2
end REL
