/-! THE RELATION between the class's cells and the model's (kp: what the model keeps) -/
def S_br (br kp : Nat → Int32) : Prop := ∀ j, j < 27 → br j = kp (26 + j) ∧ 1 ≤ br j ∧ br j ≤ 20
def S_wo (wo kp : Nat → Int32) : Prop := ∀ j, j < 8 → wo j = kp (261 + j) ∧ 0 ≤ wo j ∧ wo j ≤ 99
def S_tm (dm D kp : Nat → Int32) : Prop := (dm 0 = kp 311 ∧ 0 ≤ dm 0 ∧ dm 0 ≤ 999) ∧ (dm 1 = kp 312 ∧ 0 ≤ dm 1 ∧ dm 1 ≤ 9) ∧ (D 12 = kp 313 ∧ 10 ≤ D 12 ∧ D 12 ≤ 400) ∧ (D 13 = kp 314 ∧ 1 ≤ D 13 ∧ D 13 ≤ 4) ∧ (D 14 = kp 315 ∧ 0 ≤ D 14 ∧ D 14 ≤ 2)
/-- one WORD -/
def S_w1 (se lo tr le : Int32) (lt kp : Nat → Int32) : Prop := (se = kp 0 ∧ 0 ≤ se ∧ se ≤ 7) ∧ (lo = kp 1 ∧ 0 ≤ lo ∧ lo ≤ 99) ∧ (tr = kp 2 ∧ 0 ≤ tr ∧ tr ≤ 10) ∧ ∃ m, 1 ≤ m ∧ m ≤ 9 ∧ le = nI m ∧ kp 3 = nI m ∧ ∀ q, q < m → ∃ c, c ≤ 25 ∧ lt q = nI c ∧ kp (4 + q) = nI c
def S_by (lt : Nat → Int32) : Prop := ∀ j, j < 144 → fits .byte (.int (lt j)) = true
def S_wd (W se lo tr le lt kp : Nat → Int32) : Prop := ∃ w, w ≤ 16 ∧ W 5 = nI w ∧ kp 316 = nI w ∧ (∀ i, i < w → S_w1 (se i) (lo i) (tr i) (le i) (fun q => lt (9 * i + q)) (fun q => kp (53 + 13 * i + q))) ∧ (∀ s : Int32, hf_cnt se s w ≤ 3) ∧ S_by lt
def S_sy (D sy kp : Nat → Int32) : Prop := ∃ c, c ≤ 6 ∧ D 17 = nI c ∧ kp 317 = nI c ∧ ∀ j, j < c → sy j = kp (269 + j) ∧ 0 ≤ sy j ∧ sy j ≤ 7
def S_nx (W nx kp : Nat → Int32) : Prop := ∀ j, j < 4 → nx j = kp (275 + j) ∧ -1 ≤ nx j ∧ nx j < W 5
/-- a HEAD, as it stands or as it is kept for undo -/
def S_h1 (W5 hc hn : Int32) (hw hl kp : Nat → Int32) : Prop := ∃ c ln, c ≤ 12 ∧ ln ≤ 3 ∧ hc = nI c ∧ kp 24 = nI c ∧ hn = nI ln ∧ kp 25 = nI ln ∧ ∀ j, j < c → (hw j = kp j ∧ 0 ≤ hw j ∧ hw j < W5) ∧ ∃ q, q ≤ ln ∧ hl j = nI q ∧ kp (12 + j) = nI q
def S_hd (W H hw hl kp : Nat → Int32) : Prop := S_h1 (W 5) (H 2) (H 3) hw hl kp
def S_se (D sn kp : Nat → Int32) : Prop := ∃ c, c ≤ 4 ∧ D 18 = nI c ∧ kp 318 = nI c ∧ ∀ j, j < c → (sn (2 * j) = kp (279 + 2 * j) ∧ 0 ≤ sn (2 * j) ∧ sn (2 * j) ≤ 3) ∧ (sn (2 * j + 1) = kp (279 + 2 * j + 1) ∧ 0 ≤ sn (2 * j + 1) ∧ sn (2 * j + 1) ≤ 999)
def S_ma (D mi du mw kp : Nat → Int32) : Prop := ∃ c, c ≤ 8 ∧ D 19 = nI c ∧ kp 319 = nI c ∧ ∀ j, j < c → (mi j = kp (287 + 3 * j) ∧ 1 ≤ mi j ∧ mi j ≤ 99) ∧ (du j = kp (287 + 3 * j + 1) ∧ 0 ≤ du j ∧ du j ≤ 999) ∧ (mw j = kp (287 + 3 * j + 2) ∧ 1 ≤ mw j ∧ mw j ≤ 99)
def S_lf (D kp : Nat → Int32) : Prop := ∃ c, c ≤ 6 ∧ D 15 = nI c ∧ kp 320 = nI c ∧ D 16 = kp 321 ∧ -1 ≤ D 16 ∧ D 16 < nI c
/-- undo: the ring of the class, the row of the model -/
def S_ud (W5 : Int32) (pa pk : Nat → Int32) (mu : Int32) (ml : Nat → Int32) : Prop := ∃ u nx, u ≤ 16 ∧ nx < 16 ∧ pa 2 = nI u ∧ mu = nI u ∧ pa 1 = nI nx ∧ ∀ q, q < u → (pk (27 * ((nx + 16 - u + q) % 16) + 26) = ml (27 * q + 26) ∧ 0 ≤ ml (27 * q + 26) ∧ ml (27 * q + 26) ≤ 2) ∧ S_h1 W5 (pk (27 * ((nx + 16 - u + q) % 16) + 24)) (pk (27 * ((nx + 16 - u + q) % 16) + 25)) (fun j => pk (27 * ((nx + 16 - u + q) % 16) + j)) (fun j => pk (27 * ((nx + 16 - u + q) % 16) + 12 + j)) (fun j => ml (27 * q + j))
def S_tp (c : Int32) (tp : Nat → Int32) (mc : Int32) (mt : Nat → Int32) : Prop := ∃ n, n ≤ 400 ∧ c = nI n ∧ mc = nI n ∧ ∀ j, j < n → tp j = mt j ∧ -128 ≤ tp j ∧ tp j ≤ 127
def S_rf (rf mr : Nat → Int32) : Prop := rf 0 = mr 1 ∧ rf 1 = mr 2 ∧ rf 2 = mr 3 ∧ rf 3 = mr 5 ∧ rf 4 = mr 6
def S_au (c : Int32) (be : Nat → Int32) (mc : Int32) (mb : Nat → Int32) : Prop := ∃ n, n ≤ 12 ∧ c = nI n ∧ mc = nI n ∧ ∀ j, j < n → be j = mb j
/-- the counter of changes; what was found is of the latest change or of none -/
def S_ct (N : Nat) (ch sa : Int32) : Prop := ∃ c, c ≤ N ∧ ch = nI c ∧ (sa = -1 ∨ ∃ q, q ≤ c ∧ sa = nI q)
section FR
variable {kp kq : Nat → Int32}
theorem S_br_fr {br : Nat → Int32} (hk : ∀ j, 26 ≤ j → j < 53 → kq j = kp j) (h : S_br br kp) : S_br br kq := fun j hj => by rw [hk (26 + j) (by omega) (by omega)]; exact h j hj
theorem S_wo_fr {wo : Nat → Int32} (hk : ∀ j, 261 ≤ j → j < 269 → kq j = kp j) (h : S_wo wo kp) : S_wo wo kq := fun j hj => by rw [hk (261 + j) (by omega) (by omega)]; exact h j hj
theorem S_tm_fr {dm D : Nat → Int32} (hk : ∀ j, 311 ≤ j → j < 316 → kq j = kp j) (h : S_tm dm D kp) : S_tm dm D kq := by
  unfold S_tm
  rw [hk 311 (by omega) (by omega), hk 312 (by omega) (by omega), hk 313 (by omega) (by omega), hk 314 (by omega) (by omega), hk 315 (by omega) (by omega)]
  exact h
theorem S_w1_fr {se lo tr le : Int32} {lt : Nat → Int32} {kp kq : Nat → Int32} (hk : ∀ j, j < 13 → kq j = kp j) (h : S_w1 se lo tr le lt kp) : S_w1 se lo tr le lt kq := by
  obtain ⟨h1, h2, h3, m, h4, h5, h6, h7, h8⟩ := h
  unfold S_w1
  rw [hk 0 (by omega), hk 1 (by omega), hk 2 (by omega), hk 3 (by omega)]
  refine ⟨h1, h2, h3, m, h4, h5, h6, h7, fun q hq => ?_⟩
  rw [hk (4 + q) (by omega)]
  exact h8 q hq
theorem S_wd_fr {W se lo tr le lt : Nat → Int32} (hk : ∀ j, 53 ≤ j → j < 261 → kq j = kp j) (hk2 : kq 316 = kp 316) (h : S_wd W se lo tr le lt kp) : S_wd W se lo tr le lt kq := by
  obtain ⟨w, h1, h2, h3, h4, h5⟩ := h
  exact ⟨w, h1, h2, hk2.trans h3, fun i hi => S_w1_fr (fun j hj => hk _ (by omega) (by omega)) (h4 i hi), h5⟩
theorem S_sy_fr {D sy : Nat → Int32} (hk : ∀ j, 269 ≤ j → j < 275 → kq j = kp j) (hk2 : kq 317 = kp 317) (h : S_sy D sy kp) : S_sy D sy kq := by
  obtain ⟨c, h1, h2, h3, h4⟩ := h
  exact ⟨c, h1, h2, hk2.trans h3, fun j hj => by rw [hk (269 + j) (by omega) (by omega)]; exact h4 j hj⟩
theorem S_nx_fr {W nx : Nat → Int32} (hk : ∀ j, 275 ≤ j → j < 279 → kq j = kp j) (h : S_nx W nx kp) : S_nx W nx kq := fun j hj => by rw [hk (275 + j) (by omega) (by omega)]; exact h j hj
theorem S_h1_fr {W5 hc hn : Int32} {hw hl : Nat → Int32} {kp kq : Nat → Int32} (hk : ∀ j, j < 26 → kq j = kp j) (h : S_h1 W5 hc hn hw hl kp) : S_h1 W5 hc hn hw hl kq := by
  obtain ⟨c, ln, h1, h2, h3, h4, h5, h6, h7⟩ := h
  refine ⟨c, ln, h1, h2, h3, (hk 24 (by omega)).trans h4, h5, (hk 25 (by omega)).trans h6, fun j hj => ?_⟩
  rw [hk j (by omega), hk (12 + j) (by omega)]
  exact h7 j hj
theorem S_se_fr {D sn : Nat → Int32} (hk : ∀ j, 279 ≤ j → j < 287 → kq j = kp j) (hk2 : kq 318 = kp 318) (h : S_se D sn kp) : S_se D sn kq := by
  obtain ⟨c, h1, h2, h3, h4⟩ := h
  exact ⟨c, h1, h2, hk2.trans h3, fun j hj => by rw [hk (279 + 2 * j) (by omega) (by omega), hk (279 + 2 * j + 1) (by omega) (by omega)]; exact h4 j hj⟩
theorem S_ma_fr {D mi du mw : Nat → Int32} (hk : ∀ j, 287 ≤ j → j < 311 → kq j = kp j) (hk2 : kq 319 = kp 319) (h : S_ma D mi du mw kp) : S_ma D mi du mw kq := by
  obtain ⟨c, h1, h2, h3, h4⟩ := h
  exact ⟨c, h1, h2, hk2.trans h3, fun j hj => by rw [hk (287 + 3 * j) (by omega) (by omega), hk (287 + 3 * j + 1) (by omega) (by omega), hk (287 + 3 * j + 2) (by omega) (by omega)]; exact h4 j hj⟩
theorem S_lf_fr {D : Nat → Int32} (hk : ∀ j, 320 ≤ j → j < 322 → kq j = kp j) (h : S_lf D kp) : S_lf D kq := by
  obtain ⟨c, h1, h2, h3, h4, h5⟩ := h
  exact ⟨c, h1, h2, (hk 320 (by omega) (by omega)).trans h3, h4.trans (hk 321 (by omega) (by omega)).symm, h5⟩
end FR
/-- a whole desk against what the model keeps -/
def hf_SD (D br wo dm W se lo tr le lt sy nx H hw hl sn mi du mw kp : Nat → Int32) : Prop := S_br br kp ∧ S_wo wo kp ∧ S_tm dm D kp ∧ S_wd W se lo tr le lt kp ∧ S_sy D sy kp ∧ S_nx W nx kp ∧ S_hd W H hw hl kp ∧ S_se D sn kp ∧ S_ma D mi du mw kp ∧ S_lf D kp
def hf_SM (I : hf_I) : Prop := hf_SD (I 101) (I 102) (I 103) (I 104) (I 105) (I 106) (I 107) (I 108) (I 109) (I 110) (I 112) (I 113) (I 114) (I 115) (I 116) (I 117) (I 118) (I 119) (I 120) (I 158)
/-- the model's words, each with a blank behind it -/
def hf_wb : List Int32 := [108, 111, 115, 101, 115, 32, 99, 111, 115, 116, 115, 32, 98, 97, 114, 115, 32, 105, 102, 32, 111, 114, 32, 97, 110, 100, 32, 110, 111, 116, 32, 119, 111, 114, 100, 32, 115, 101, 110, 115, 101, 32, 108, 111, 115, 115, 32, 116, 114, 117, 116, 104, 32, 108, 101, 110, 103, 116, 104, 32, 108, 105, 110, 101, 32, 119, 104, 105, 116, 101, 32, 109, 97, 110, 121, 32, 97, 108, 105, 107, 101, 32, 101, 99, 104, 111, 32, 115, 105, 122, 101, 32, 100, 97, 121, 32, 109, 111, 111, 100, 32, 119, 111, 114, 100, 115, 32, 108, 101, 102, 116, 32, 100, 111, 110, 101, 32, 98, 114, 111, 97, 100, 32, 115, 101, 116, 32, 116, 117, 114, 110, 32, 99, 108, 101, 97, 114, 32, 116, 105, 109, 101, 115, 32]
def S_wb (w : Nat → Int32) : Prop := ∀ j, j < 144 → w j = hf_wb.getD j 0
/-- what is not the desk's -/
def hf_SO (I : hf_I) : Prop := S_ud (I 105 5) (I 148) (I 149) (I 156 27) (I 169) ∧ S_tp (I 100 13) (I 122) (I 156 10) (I 163) ∧ I 123 1 = I 156 11 ∧ I 100 14 = I 156 41 ∧ I 100 15 = I 156 0 ∧ S_rf (I 155) (I 157) ∧ S_au (I 146 1) (I 147) (I 156 49) (I 180) ∧ S_wb (I 162)
/-- the latest finding, if it is of the latest change (CC: that it is right), and the texts and images (SL) -/
def hf_Sim (SL : Nat → hf_T → hf_P → (Nat → Nat → Int32) → Int32 → (Nat → Int32) → (Nat → Int32) → (Nat → Int32) → Prop) (CC : Int32 → Int32 → Int32 → Int32 → Int32 → Int32 → (Nat → Int32) → (Nat → Int32) → Int32 → (Nat → Int32) → (Nat → Int32) → (Nat → Int32) → (Nat → Int32) → (Nat → Int32) → (Nat → Int32) → (Nat → Int32) → (Nat → Nat → Int32) → hf_P → Int64 → Int64 → Int32 → Int32 → Prop) (N t : Nat) (T : hf_T) (I : hf_I) (L : hf_L) (P : hf_P) : Prop :=
  hf_Lay t T P ∧ hf_SM I ∧ hf_SO I ∧ S_ct N (I 100 16) (I 136 15) ∧ (I 136 15 = I 100 16 → CC (I 101 12) (I 101 13) (I 101 14) (I 101 15) (I 101 16) (I 101 17) (I 102) (I 104) (I 105 5) (I 106) (I 107) (I 108) (I 109) (I 110) (I 112) (I 113) (fun a => I (181 + a)) P (L 136 16) (L 136 19) (I 136 17) (I 136 18)) ∧ SL t T P (fun a => I (181 + a)) (I 101 15) (fun j => I 158 (322 + j)) (I 159) (I 160)
theorem hf_up_J {I : hf_I} {a j : Nat} {v : Int32} (h : a < 181) : (fun b => hf_up I a j v (181 + b)) = fun b => I (181 + b) := by
  funext b
  unfold hf_up
  rw [if_neg (by omega)]
