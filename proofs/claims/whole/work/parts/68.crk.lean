/-! the class's reckoner: the steps of a reading leave what it means -/
theorem gr_ps_lv {S : Bool} {c v : Nat → Nat} : ∀ (n nt x dp k lv : Nat) (a : gr_dn), nt ≤ 10 → (gr_ps S c v n nt x dp k lv a).1 = 2 → lv + gr_rest nt ≤ (gr_ps S c v n nt x dp k lv a).2.2.1 := by
  intro n
  induction n with
  | zero => intro nt x dp k lv a _ h; exact absurd h (by show ¬ (0 = 2); omega)
  | succ n ih =>
    intro nt x dp k lv a hnt
    have fl : ∀ {j : Nat} {p : Prop}, (gr_fl j).1 = 2 → p := fun {j p} h => absurd h (by show ¬ (1 = 2); omega)
    have one : ∀ (A dp k1 lv1 : Nat) (a1 : gr_dn) (g : Nat → Nat → gr_cd → gr_dn → gr_r) (q : Nat), A ≤ 10 → (∀ k l c d, lv1 + gr_rest A ≤ l → (g k l c d).1 = 2 → q ≤ (g k l c d).2.2.1) → (gr_bd (gr_ps S c v n A 0 dp k1 lv1 a1) g).1 = 2 → q ≤ (gr_bd (gr_ps S c v n A 0 dp k1 lv1 a1) g).2.2.1 := by
      intro A dp k1 lv1 a1 g q hA hg h
      have e1 := gr_bd_g2 h
      rw [gr_bd_2 e1] at h ⊢
      exact hg _ _ _ _ (ih A 0 dp k1 lv1 a1 hA e1) h
    match nt, hnt with
    | 0, _ =>
      rw [gr_ps_0]
      split
      · split
        · exact fl
        · refine one 3 _ _ _ _ _ _ (by omega) fun k l c d hl => ?_
          split
          · intro _
            exact hl
          · exact fl
      · split
        · split
          · exact fl
          · intro _; exact Nat.le_refl _
        · split
          · split
            · exact fl
            · split
              · split
                · intro _; exact Nat.le_refl _
                · exact fl
              · intro _; exact Nat.le_refl _
          · exact fl
    | 1, _ => exact one 0 _ _ _ _ _ _ (by omega) fun k l c d hl => one 2 _ _ _ _ _ _ (by omega) fun k2 l2 c2 d2 hl2 _ => Nat.le_trans hl hl2
    | 2, _ =>
      rw [gr_ps_2]
      split
      · intro _; exact Nat.le_refl _
      · exact one 0 _ _ _ _ _ _ (by omega) fun k l c d hl => one 2 _ _ _ _ _ _ (by omega) fun k2 l2 c2 d2 hl2 _ => by have e : gr_rest 2 = 0 := rfl; have e0 : gr_rest 0 = 1 := rfl; show lv + gr_rest 2 ≤ l2; omega
    | 3, _ => exact one 1 _ _ _ _ _ _ (by omega) fun k l c d hl => one 4 _ _ _ _ _ _ (by omega) fun k2 l2 c2 d2 hl2 _ => Nat.le_trans hl hl2
    | 4, _ =>
      rw [gr_ps_4]
      split
      · intro _; exact Nat.le_refl _
      · exact one 1 _ _ _ _ _ _ (by omega) fun k l c d hl => one 4 _ _ _ _ _ _ (by omega) fun k2 l2 c2 d2 hl2 _ => by have e : gr_rest 4 = 0 := rfl; have e0 : gr_rest 1 = 1 := rfl; show lv + gr_rest 4 ≤ l2; omega
    | 5, _ =>
      rw [gr_ps_5]
      by_cases e : c k = 7
      · rw [if_pos e]; exact ih 5 _ _ _ _ _ (by omega)
      · rw [if_neg e]
        refine one 6 _ _ _ _ _ _ (by omega) fun k l c d hl => ?_
        split <;> intro _ <;> exact hl
    | 6, _ =>
      rw [gr_ps_6]
      split
      · split
        · exact fl
        · refine one 9 _ _ _ _ _ _ (by omega) fun k l c d hl => ?_
          split
          · intro _; exact hl
          · exact fl
      · refine one 3 _ _ _ _ _ _ (by omega) fun k l c d hl => ?_
        split
        · exact fl
        · exact one 3 _ _ _ _ _ _ (by omega) fun k2 l2 c2 d2 hl2 _ => Nat.le_trans hl (Nat.le_trans (Nat.le_add_right _ _) hl2)
    | 7, _ => exact one 5 _ _ _ _ _ _ (by omega) fun k l c d hl => one 8 _ _ _ _ _ _ (by omega) fun k2 l2 c2 d2 hl2 _ => Nat.le_trans hl hl2
    | 8, _ =>
      rw [gr_ps_8]
      split
      · exact one 5 _ _ _ _ _ _ (by omega) fun k l c d hl => one 8 _ _ _ _ _ _ (by omega) fun k2 l2 c2 d2 hl2 _ => by have e : gr_rest 8 = 0 := rfl; have e0 : gr_rest 5 = 1 := rfl; show lv + gr_rest 8 ≤ l2; omega
      · intro _; exact Nat.le_refl _
    | 9, _ => exact one 7 _ _ _ _ _ _ (by omega) fun k l c d hl => one 10 _ _ _ _ _ _ (by omega) fun k2 l2 c2 d2 hl2 _ => Nat.le_trans hl hl2
    | 10, _ =>
      rw [gr_ps_10]
      split
      · exact one 7 _ _ _ _ _ _ (by omega) fun k l c d hl => one 10 _ _ _ _ _ _ (by omega) fun k2 l2 c2 d2 hl2 _ => by have e : gr_rest 10 = 0 := rfl; have e0 : gr_rest 7 = 1 := rfl; show lv + gr_rest 10 ≤ l2; omega
      · intro _; exact Nat.le_refl _
    | nt + 11, h => omega
def rk_fr (I0 I : hf_I) : Prop := ∀ a, ¬ a = 134 → I a = I0 a
def rk_st (I0 : hf_I) (h : Nat) (st : Nat → Int32) (I : hf_I) : Prop := rk_fr I0 I ∧ ∀ j, j < h → I 134 j = st j
def rk_cd (f0 : Nat → Int32) (p : Nat) (code : gr_cd) : Prop := ∀ j, j < code.length → f0 (2 * (p + j)) = nI (code.getD j (0, 0)).1 ∧ f0 (2 * (p + j) + 1) = nI (code.getD j (0, 0)).2
theorem rk_cd_l {f0 : Nat → Int32} {p : Nat} {a b : gr_cd} (h : rk_cd f0 p (a ++ b)) : rk_cd f0 p a := by
  intro j hj
  have := h j (by rw [List.length_append]; omega)
  have e : (a ++ b).getD j (0, 0) = a.getD j (0, 0) := by simp [List.getD, List.getElem?_append_left hj]
  rw [e] at this
  exact this
theorem rk_cd_r {f0 : Nat → Int32} {p : Nat} {a b : gr_cd} (h : rk_cd f0 p (a ++ b)) : rk_cd f0 (p + a.length) b := by
  intro j hj
  have := h (a.length + j) (by rw [List.length_append]; omega)
  have e : (a ++ b).getD (a.length + j) (0, 0) = b.getD j (0, 0) := by simp [List.getD, List.getElem?_append_right]
  rw [e] at this
  rw [Nat.add_assoc]
  exact this
theorem rk_cd_h {f0 : Nat → Int32} {p : Nat} {s x : Nat} {b : gr_cd} (h : rk_cd f0 p ((s, x) :: b)) : f0 (2 * p) = nI s ∧ f0 (2 * p + 1) = nI x := by
  have := h 0 (by simp)
  simpa using this
theorem rk_cd_t {f0 : Nat → Int32} {p : Nat} {q : Nat × Nat} {b : gr_cd} (h : rk_cd f0 p (q :: b)) : rk_cd f0 (p + 1) b := by
  have : rk_cd f0 p ([q] ++ b) := h
  exact rk_cd_r this
theorem rk_fr_up {I0 I : hf_I} {j : Nat} {w : Int32} (h : rk_fr I0 I) : rk_fr I0 (hf_up I 134 j w) := by
  intro a ha
  rw [← h a ha]
  simp [hf_up, ha]
theorem rk_st_up {I0 I : hf_I} {h : Nat} {st : Nat → Int32} {w : Int32} (hs : rk_st I0 h st I) : rk_st I0 (h + 1) (upd st h w) (hf_up I 134 h w) := by
  refine ⟨rk_fr_up hs.1, fun j hj => ?_⟩
  show upd (I 134) h w j = upd st h w j
  by_cases e : j = h
  · subst e; rw [hf_upd_eq, hf_upd_eq]
  · rw [hf_upd_ne e, hf_upd_ne e]
    exact hs.2 j (by omega)
theorem rk_st_pop {I0 I : hf_I} {h : Nat} {st : Nat → Int32} {w : Int32} (hs : rk_st I0 (h + 1) (upd st h w) I) : rk_st I0 h st I := by
  refine ⟨hs.1, fun j hj => ?_⟩
  rw [hs.2 j (by omega), hf_upd_ne (by omega)]
theorem rk_top {I0 I : hf_I} {h : Nat} {st : Nat → Int32} {w : Int32} (hs : rk_st I0 (h + 1) (upd st h w) I) : I 134 h = w := by
  rw [hs.2 h (by omega), hf_upd_eq]
section CRK
variable (X : hf_X) (d kk nn t : Nat) (T : hf_T) (L : hf_L) (P : hf_P) (tx pe : Nat) (Q : Option Value → hf_M → Prop)
def rk_G (h p : Nat) (I : hf_I) : Prop := hf_G X Y_X7_reckon (d + 1) kk nn 20 [some (.ref 132), some (.ref tx), none, none, some (.int (nI h)), some (.int (nI (2 * pe))), some (.int (nI (2 * p))), none, none, none, none] [] (t, T, I, L, P) Q
variable {X d kk nn t T L P tx pe Q} {I I0 : hf_I} {z m c0 c1 c2 c3 c4 c5 : Nat} {h p s x : Nat} {st : Nat → Int32} {y : Int32}
theorem rk_push (hs : hf_Lay t T P) (hx : hf_Tx t T P tx z m c0 c1 c2 c3 c4 c5) (hz : 2 * pe ≤ z) (hz2 : z < 2 ^ 30) (h0 : ¬ c0 = 134) (hp : p < pe) (hh : h < 52) (hst : rk_st I0 h st I) (hc : rk_cd (I0 c0) p [(0, x)]) (hK : rk_G X d kk nn t T L P tx pe Q (h + 1) (p + 1) (hf_up I 134 h (nI x))) : rk_G X d kk nn t T L P tx pe Q h p I := by
  obtain ⟨e1, e2⟩ := rk_cd_h hc
  rw [← hst.1 c0 h0] at e1 e2
  have a2 : nI (2 * p) + 2 = nI (2 * (p + 1)) := by rw [show (2 : Int32) = nI 2 from rfl, nI_add]; rfl
  refine w_X7_reckon_20_d hs hx ?_
  rw [nI_1 (2 * p), a2, nI_1 h, nI_clamp (show 2 * p < 2 ^ 31 by omega), nI_clamp (show 2 * p + 1 < 2 ^ 31 by omega), nI_clamp (show h < 2 ^ 31 by omega), e1, e2]
  exact ⟨fun q => absurd q (nI_ge (by omega) (by omega)), fun _ => ⟨vp_in_nI (by omega) (by omega), vp_in_nI (by omega) (by omega), fun q => absurd q (by decide), fun _ => ⟨fun _ => ⟨fun _ => ⟨vp_in_nI (by omega) (by omega), hK⟩, fun q => absurd q (by decide)⟩, fun q => absurd (nI_lt (b := 52) hh (by omega)) q⟩⟩⟩
theorem rk_fact (hs : hf_Lay t T P) (hx : hf_Tx t T P tx z m c0 c1 c2 c3 c4 c5) (hz : 2 * pe ≤ z) (hz2 : z < 2 ^ 30) (h0 : ¬ c0 = 134) (hp : p < pe) (hh : h < 52) (hx37 : x < 37) (hst : rk_st I0 h st I) (hc : rk_cd (I0 c0) p [(1, x)]) (hK : rk_G X d kk nn t T L P tx pe Q (h + 1) (p + 1) (hf_up I 134 h (I0 133 x))) : rk_G X d kk nn t T L P tx pe Q h p I := by
  obtain ⟨e1, e2⟩ := rk_cd_h hc
  rw [← hst.1 c0 h0] at e1 e2
  have a2 : nI (2 * p) + 2 = nI (2 * (p + 1)) := by rw [show (2 : Int32) = nI 2 from rfl, nI_add]; rfl
  refine w_X7_reckon_20_d hs hx ?_
  rw [nI_1 (2 * p), a2, nI_1 h, nI_clamp (show 2 * p < 2 ^ 31 by omega), nI_clamp (show 2 * p + 1 < 2 ^ 31 by omega), nI_clamp (show h < 2 ^ 31 by omega), e1, e2, nI_clamp (show x < 2 ^ 31 by omega), hst.1 133 (by omega)]
  exact ⟨fun q => absurd q (nI_ge (by omega) (by omega)), fun _ => ⟨vp_in_nI (by omega) (by omega), vp_in_nI (by omega) (by omega), fun q => absurd q (by decide), fun _ => ⟨fun _ => ⟨fun q => absurd rfl q, fun _ => ⟨fun q => absurd q (nI_pos (by omega)), fun _ => ⟨fun q => absurd q (nI_ge (b := 37) hx37 (by omega)), fun _ => ⟨vp_in_nI hx37 (by omega), vp_in_nI (by omega) (by omega), hK⟩⟩⟩⟩, fun q => absurd (nI_lt (b := 52) hh (by omega)) q⟩⟩⟩
theorem rk_join (hs : hf_Lay t T P) (hx : hf_Tx t T P tx z m c0 c1 c2 c3 c4 c5) (hz : 2 * pe ≤ z) (hz2 : z < 2 ^ 30) (h0 : ¬ c0 = 134) (hp : p < pe) (hh : h + 2 ≤ 52) (hs2 : 2 ≤ s) (hs9 : s ≤ 9) {y1 y2 : Int32} (hst : rk_st I0 (h + 1 + 1) (upd (upd st h y1) (h + 1) y2) I) (hc : rk_cd (I0 c0) p [(s, x)]) (hK : ∀ w, gr_lim (gr_jn s y1.toInt64 y2.toInt64) = some w → rk_G X d kk nn t T L P tx pe Q (h + 1) (p + 1) (hf_up I 134 h w)) (h0' : gr_lim (gr_jn s y1.toInt64 y2.toInt64) = none → Q (some (.int 0)) (t, T, I, L, P)) : rk_G X d kk nn t T L P tx pe Q (h + 2) p I := by
  obtain ⟨e1, e2⟩ := rk_cd_h hc
  rw [← hst.1 c0 h0] at e1 e2
  have t2 := rk_top hst
  have t1 := rk_top (rk_st_pop hst)
  have a2 : nI (2 * p) + 2 = nI (2 * (p + 1)) := by rw [show (2 : Int32) = nI 2 from rfl, nI_add]; rfl
  have b2 : nI (h + 2) - 2 = nI h := by rw [show (2 : Int32) = nI 2 from rfl, pk_sub (by omega)]; rfl
  have b1 : nI (h + 2) - 1 = nI (h + 1) := nI_pred (h + 1)
  have b3 : nI (h + 2) + (-1) = nI (h + 1) := by rw [← b1]; rw [Int32.sub_eq_add_neg]
  have b4 : nI (h + 1) - 1 = nI h := nI_pred h
  have l1 : (1 < nI s) ↔ 1 < s := nI_ltI (a := 1) (by omega) (by omega)
  have l9 : (9 < nI s) ↔ 9 < s := nI_ltI (a := 9) (by omega) (by omega)
  have fin : ∀ w : Int64, w = gr_jn s y1.toInt64 y2.toInt64 → hf_G X Y_X7_reckon (d + 1) kk nn 137 [some (.ref 132), some (.ref tx), none, none, some (.int (nI (h + 2))), some (.int (nI (2 * pe))), some (.int (nI (2 * p))), none, none, none, none] [.long w] (t, T, I, L, P) Q := by
    intro w hw
    refine w_X7_reckon_137_d hs hx ?_
    rw [b3, b4, a2, nI_clamp (show h < 2 ^ 31 by omega)]
    refine ⟨fun q => h0' ?_, fun q => ⟨fun q2 => ⟨vp_in_nI (by omega) (by omega), hK _ ?_⟩, fun q2 => h0' ?_⟩⟩
    · unfold gr_lim; rw [← hw, if_pos q]
    · unfold gr_lim; rw [← hw, if_neg q, if_pos q2]
    · unfold gr_lim; rw [← hw, if_neg q, if_neg q2]
  refine w_X7_reckon_20_d hs hx ?_
  rw [nI_1 (2 * p), a2, b1, b2, nI_clamp (show 2 * p < 2 ^ 31 by omega), nI_clamp (show 2 * p + 1 < 2 ^ 31 by omega), nI_clamp (show h < 2 ^ 31 by omega), nI_clamp (show h + 1 < 2 ^ 31 by omega), e1, e2, t1, t2, l1, l9]
  refine ⟨fun q => absurd q (nI_ge (by omega) (by omega)), fun _ => ⟨vp_in_nI (by omega) (by omega), vp_in_nI (by omega) (by omega), fun _ => ⟨fun q => absurd q (by omega), fun _ => ⟨fun _ => ⟨vp_in_nI (by omega) (by omega), vp_in_nI (by omega) (by omega), ?_⟩, fun q => absurd (show (2 : Int32) ≤ nI (h + 2) from nI_le (a := 2) (by omega) (by omega)) q⟩⟩, fun q => absurd (by omega) q⟩⟩
  have nz : ∀ w : Int64, ¬ lg_cmp w 0 = 0 → ¬ w = 0 := fun w q z => q (by rw [z]; decide)
  refine w_X7_join_0 hs ?_
  have le : ∀ b : Nat, b < 2 ^ 31 → ((nI s = nI b) ↔ s = b) := fun b hb => nI_eq (by omega) hb
  refine ⟨fun q => fin _ ?_, fun q => fin _ ?_, fun q => fin _ ?_, fun q => ⟨fun q2 => ⟨nz _ q2, fin _ ?_⟩, fun q2 => fin _ ?_⟩, fun q => ⟨fun q2 => ⟨nz _ q2, fin _ ?_⟩, fun q2 => fin _ ?_⟩, fun q => ⟨fun q2 => fin _ ?_, fun q2 => fin _ ?_⟩, fun q => ⟨fun q2 => fin _ ?_, fun q2 => fin _ ?_⟩, fun q => ⟨fun q2 => fin _ ?_, fun q2 => fin _ ?_⟩⟩
  · rw [(le 2 (by omega)).mp q]; rfl
  · rw [(le 3 (by omega)).mp q]; rfl
  · rw [(le 4 (by omega)).mp q]; rfl
  · rw [(le 5 (by omega)).mp q]; simp [gr_jn, q2]
  · rw [(le 5 (by omega)).mp q]; simp [gr_jn, q2]
  · rw [(le 6 (by omega)).mp q]; simp [gr_jn, q2]
  · rw [(le 6 (by omega)).mp q]; simp [gr_jn, q2]
  · rw [(le 7 (by omega)).mp q]; simp [gr_jn, q2]
  · rw [(le 7 (by omega)).mp q]; simp [gr_jn, q2]
  · rw [(le 8 (by omega)).mp q]; simp [gr_jn, q2]
  · rw [(le 8 (by omega)).mp q]; simp [gr_jn, q2]
  · have : s = 9 := by rw [nI_toInt (by omega)] at q; omega
    rw [this]; simp [gr_jn, q2]
  · have : s = 9 := by rw [nI_toInt (by omega)] at q; omega
    rw [this]; simp [gr_jn, q2]
theorem rk_not (hs : hf_Lay t T P) (hx : hf_Tx t T P tx z m c0 c1 c2 c3 c4 c5) (hz : 2 * pe ≤ z) (hz2 : z < 2 ^ 30) (h0 : ¬ c0 = 134) (hp : p < pe) (hh : h + 1 ≤ 52) (hst : rk_st I0 (h + 1) (upd st h y) I) (hc : rk_cd (I0 c0) p [(10, x)]) (hK : rk_G X d kk nn t T L P tx pe Q (h + 1) (p + 1) (hf_up I 134 h (if y = 0 then 1 else 0))) : rk_G X d kk nn t T L P tx pe Q (h + 1) p I := by
  obtain ⟨e1, e2⟩ := rk_cd_h hc
  rw [← hst.1 c0 h0] at e1 e2
  have t1 := rk_top hst
  have a2 : nI (2 * p) + 2 = nI (2 * (p + 1)) := by rw [show (2 : Int32) = nI 2 from rfl, nI_add]; rfl
  have b1 : nI (h + 1) - 1 = nI h := nI_pred h
  refine w_X7_reckon_20_d hs hx ?_
  rw [nI_1 (2 * p), a2, b1, nI_clamp (show 2 * p < 2 ^ 31 by omega), nI_clamp (show 2 * p + 1 < 2 ^ 31 by omega), nI_clamp (show h < 2 ^ 31 by omega), e1, e2, t1]
  refine ⟨fun q => absurd q (nI_ge (by omega) (by omega)), fun _ => ⟨vp_in_nI (by omega) (by omega), vp_in_nI (by omega) (by omega), fun _ => ⟨fun _ => ⟨fun _ => ⟨vp_in_nI (by omega) (by omega), fun q => ⟨fun z => absurd rfl z, fun _ => ⟨vp_in_nI (by omega) (by omega), ?_⟩⟩, fun q => ⟨fun z => absurd rfl z, fun _ => ⟨vp_in_nI (by omega) (by omega), ?_⟩⟩⟩, fun q => absurd (show (1 : Int32) ≤ nI (h + 1) from nI_le (a := 1) (by omega) (by omega)) q⟩, fun q => absurd (by decide) q⟩, fun q => absurd (by decide) q⟩⟩
  · rw [if_pos q] at hK; exact hK
  · rw [if_neg q] at hK; exact hK
/-- skips: s = 11 goes on if it is so, s = 12 if it is not -/
theorem rk_skip (hs : hf_Lay t T P) (hx : hf_Tx t T P tx z m c0 c1 c2 c3 c4 c5) (hz : 2 * pe ≤ z) (hz2 : z < 2 ^ 30) (h0 : ¬ c0 = 134) (hp : p < pe) (hh : h + 1 ≤ 52) (hs1 : s = 11 ∨ s = 12) (hx2 : p + 1 + x ≤ pe) (hst : rk_st I0 (h + 1) (upd st h y) I) (hc : rk_cd (I0 c0) p [(s, 2 * x)]) (hS : (s = 11 ∧ ¬ y = 0 ∨ s = 12 ∧ y = 0) → rk_G X d kk nn t T L P tx pe Q (h + 1) (p + 1 + x) I) (hP : (s = 11 ∧ y = 0 ∨ s = 12 ∧ ¬ y = 0) → rk_G X d kk nn t T L P tx pe Q h (p + 1) I) : rk_G X d kk nn t T L P tx pe Q (h + 1) p I := by
  obtain ⟨e1, e2⟩ := rk_cd_h hc
  rw [← hst.1 c0 h0] at e1 e2
  have t1 := rk_top hst
  have a2 : nI (2 * p) + 2 = nI (2 * (p + 1)) := by rw [show (2 : Int32) = nI 2 from rfl, nI_add]; rfl
  have b1 : nI (h + 1) - 1 = nI h := nI_pred h
  have b3 : nI (h + 1) + (-1) = nI h := by rw [← b1]; rw [Int32.sub_eq_add_neg]
  have ex : (if 0 < nI (2 * x) then nI (2 * x) else 0) = nI (2 * x) := by
    cases x with
    | zero => rfl
    | succ x => rw [if_pos]; exact nI_lt (a := 0) (by omega) (by omega)
  have a3 : nI (2 * p) + nI (2 * x) + 2 = nI (2 * (p + 1 + x)) := by
    rw [show (2 : Int32) = nI 2 from rfl, nI_add, nI_add]
    congr 1
    omega
  refine w_X7_reckon_20_d hs hx ?_
  rw [nI_1 (2 * p), a2, b1, b3, nI_clamp (show 2 * p < 2 ^ 31 by omega), nI_clamp (show 2 * p + 1 < 2 ^ 31 by omega), nI_clamp (show h < 2 ^ 31 by omega), e1, e2, t1, ex, a3]
  have e10 : ¬ nI s = 10 := fun q => by have := (nI_eq (b := 10) (by omega) (by omega)).mp q; omega
  have l11 : (nI s = 11) ↔ s = 11 := nI_eq (b := 11) (by omega) (by omega)
  have l1 : (1 < nI s) ↔ 1 < s := nI_ltI (a := 1) (by omega) (by omega)
  have l9 : (9 < nI s) ↔ 9 < s := nI_ltI (a := 9) (by omega) (by omega)
  rw [l1, l9, l11]
  exact ⟨fun q => absurd q (nI_ge (by omega) (by omega)), fun _ => ⟨vp_in_nI (by omega) (by omega), vp_in_nI (by omega) (by omega), fun _ => ⟨fun _ => ⟨fun _ => ⟨vp_in_nI (by omega) (by omega), fun q => ⟨fun _ => ⟨fun z => hS (Or.inr ⟨by omega, q⟩), fun z => hP (Or.inl ⟨z, q⟩)⟩, fun z => absurd z e10⟩, fun q => ⟨fun _ => ⟨fun z => hP (Or.inr ⟨by omega, q⟩), fun z => hS (Or.inl ⟨z, q⟩)⟩, fun z => absurd z e10⟩⟩, fun q => absurd (show (1 : Int32) ≤ nI (h + 1) from nI_le (a := 1) (by omega) (by omega)) q⟩, fun q => absurd (by omega) q⟩, fun q => absurd (by omega) q⟩⟩
end CRK
section CRK
variable (X : hf_X) (d t : Nat) (T : hf_T) (L : hf_L) (P : hf_P) (I0 : hf_I) (tx c0 : Nat) (c v : Nat → Nat) (S : Bool)
def rk_po (kk nn pe h p : Nat) (st : Nat → Int32) (r : gr_r) (Q : Option Value → hf_M → Prop) : Prop := (∀ x, r.2.2.2.2 (I0 133) = some x → ∀ I', rk_st I0 (h + 1) (upd st h x) I' → rk_G X d kk nn t T L P tx pe Q (h + 1) (p + r.2.2.2.1.length) I') ∧ (r.2.2.2.2 (I0 133) = none → ∀ I', rk_fr I0 I' → Q (some (.int 0)) (t, T, I', L, P))
def cr_e (nt n : Nat) : Prop := ∀ (x dp k lv : Nat) (a : gr_dn) (h p pe kk nn : Nat) (st : Nat → Int32) (I : hf_I) (Q : Option Value → hf_M → Prop), (x = 0 ∨ nt = 5) → h ≤ lv → lv ≤ 50 → 2 * pe ≤ (T c0).2 → (gr_ps S c v n nt x dp k lv a).1 = 2 → rk_cd (I0 c0) p (gr_ps S c v n nt x dp k lv a).2.2.2.1 → p + (gr_ps S c v n nt x dp k lv a).2.2.2.1.length ≤ pe → rk_st I0 h st I → rk_po X d t T L P I0 tx kk nn pe h p st (gr_ps S c v n nt x dp k lv a) Q → rk_G X d kk nn t T L P tx pe Q h p I
def cr_o (nt n : Nat) : Prop := ∀ (dp k lv : Nat) (a : gr_dn) (h p pe kk nn : Nat) (st : Nat → Int32) (y : Int32) (I : hf_I) (Q : Option Value → hf_M → Prop), a (I0 133) = some y → h + 1 ≤ lv → lv ≤ 50 → 2 * pe ≤ (T c0).2 → (gr_ps S c v n nt 0 dp k lv a).1 = 2 → rk_cd (I0 c0) p (gr_ps S c v n nt 0 dp k lv a).2.2.2.1 → p + (gr_ps S c v n nt 0 dp k lv a).2.2.2.1.length ≤ pe → rk_st I0 (h + 1) (upd st h y) I → rk_po X d t T L P I0 tx kk nn pe h p st (gr_ps S c v n nt 0 dp k lv a) Q → rk_G X d kk nn t T L P tx pe Q (h + 1) p I
def cr_all (n : Nat) : Prop := cr_e X d t T L P I0 tx c0 c v S 0 n ∧ cr_e X d t T L P I0 tx c0 c v S 1 n ∧ cr_o X d t T L P I0 tx c0 c v S 2 n ∧ cr_e X d t T L P I0 tx c0 c v S 3 n ∧ cr_o X d t T L P I0 tx c0 c v S 4 n ∧ cr_e X d t T L P I0 tx c0 c v S 5 n ∧ cr_e X d t T L P I0 tx c0 c v S 6 n ∧ cr_e X d t T L P I0 tx c0 c v S 7 n ∧ cr_o X d t T L P I0 tx c0 c v S 8 n ∧ cr_e X d t T L P I0 tx c0 c v S 9 n ∧ cr_o X d t T L P I0 tx c0 c v S 10 n
variable {X d t T L P I0 tx c0 c v S} {n z m c1 c2 c3 c4 c5 : Nat}
theorem rk_sub {kk nn pe h p : Nat} {st : Nat → Int32} {Q : Option Value → hf_M → Prop} {r r2 : gr_r} {q : Nat} (hp : rk_po X d t T L P I0 tx kk nn pe h p st r Q) (hd : r.2.2.2.2 = r2.2.2.2.2) (hl : p + r.2.2.2.1.length = q + r2.2.2.2.1.length) : rk_po X d t T L P I0 tx kk nn pe h q st r2 Q := by
  refine ⟨fun x hx I' hI => ?_, fun hx I' hI => ?_⟩
  · have := hp.1 x (by rw [hd]; exact hx) I' hI
    rw [hl] at this
    exact this
  · exact hp.2 (by rw [hd]; exact hx) I' hI

theorem cr_1s (hs : hf_Lay t T P) (hx : hf_Tx t T P tx z m c0 c1 c2 c3 c4 c5) (hz2 : z < 2 ^ 30) (h0 : ¬ c0 = 134) (ih : cr_all X d t T L P I0 tx c0 c v S n) : cr_e X d t T L P I0 tx c0 c v S 1 (n + 1) := by
  intro x dp k lv a h p pe kk nn st I Q hx0 hh hlv hpe hg hc hl hst hpo
  obtain ⟨i0, i1, i2, i3, i4, i5, i6, i7, i8, i9, i10⟩ := ih
  have tz : (T c0).2 = z := by rw [hx.2.2.1.2.1]
  rw [gr_ps_1] at hg hc hl hpo
  have e1 := gr_bd_g2 hg
  rw [gr_bd_2 e1] at hg hc hl hpo
  have e2 := gr_bd_g2 hg
  rw [gr_bd_2 e2] at hc hl hpo
  have fw := gr_ps_fw (S := S) (c := c) (v := v) n 0 0 dp k lv a (by omega) e1
  have lw := gr_ps_lv (S := S) (c := c) (v := v) n 0 0 dp k lv a (by omega) e1
  have r1 : gr_rest 0 = 1 := rfl
  have ll : ∀ (u w : gr_cd) (k' l' : Nat) (dd : gr_dn), (gr_gd k' l' (u ++ w) dd).2.2.2.1.length = u.length + w.length := fun u w _ _ _ => List.length_append
  rw [ll] at hl
  refine i0 0 dp k lv a h p pe kk nn st I Q (Or.inl rfl) hh hlv hpe e1 (rk_cd_l hc) (by omega) hst ⟨fun y hy I1 h1 => ?_, fun hy I1 h1 => ?_⟩
  · refine i2 dp _ _ _ h _ pe kk nn st y I1 Q hy (by omega) (fw.2.2.2 hlv) hpe e2 (rk_cd_r hc) (by omega) h1 (rk_sub hpo rfl ?_)
    rw [ll]
    omega
  · exact hpo.2 (gr_ps_none n 2 dp _ _ _ (by omega) hy e2) I1 h1

theorem cr_3s (hs : hf_Lay t T P) (hx : hf_Tx t T P tx z m c0 c1 c2 c3 c4 c5) (hz2 : z < 2 ^ 30) (h0 : ¬ c0 = 134) (ih : cr_all X d t T L P I0 tx c0 c v S n) : cr_e X d t T L P I0 tx c0 c v S 3 (n + 1) := by
  intro x dp k lv a h p pe kk nn st I Q hx0 hh hlv hpe hg hc hl hst hpo
  obtain ⟨i0, i1, i2, i3, i4, i5, i6, i7, i8, i9, i10⟩ := ih
  have tz : (T c0).2 = z := by rw [hx.2.2.1.2.1]
  rw [gr_ps_3] at hg hc hl hpo
  have e1 := gr_bd_g2 hg
  rw [gr_bd_2 e1] at hg hc hl hpo
  have e2 := gr_bd_g2 hg
  rw [gr_bd_2 e2] at hc hl hpo
  have fw := gr_ps_fw (S := S) (c := c) (v := v) n 1 0 dp k lv a (by omega) e1
  have lw := gr_ps_lv (S := S) (c := c) (v := v) n 1 0 dp k lv a (by omega) e1
  have r1 : gr_rest 1 = 1 := rfl
  have ll : ∀ (u w : gr_cd) (k' l' : Nat) (dd : gr_dn), (gr_gd k' l' (u ++ w) dd).2.2.2.1.length = u.length + w.length := fun u w _ _ _ => List.length_append
  rw [ll] at hl
  refine i1 0 dp k lv a h p pe kk nn st I Q (Or.inl rfl) hh hlv hpe e1 (rk_cd_l hc) (by omega) hst ⟨fun y hy I1 h1 => ?_, fun hy I1 h1 => ?_⟩
  · refine i4 dp _ _ _ h _ pe kk nn st y I1 Q hy (by omega) (fw.2.2.2 hlv) hpe e2 (rk_cd_r hc) (by omega) h1 (rk_sub hpo rfl ?_)
    rw [ll]
    omega
  · exact hpo.2 (gr_ps_none n 4 dp _ _ _ (by omega) hy e2) I1 h1

theorem cr_7s (hs : hf_Lay t T P) (hx : hf_Tx t T P tx z m c0 c1 c2 c3 c4 c5) (hz2 : z < 2 ^ 30) (h0 : ¬ c0 = 134) (ih : cr_all X d t T L P I0 tx c0 c v S n) : cr_e X d t T L P I0 tx c0 c v S 7 (n + 1) := by
  intro x dp k lv a h p pe kk nn st I Q hx0 hh hlv hpe hg hc hl hst hpo
  obtain ⟨i0, i1, i2, i3, i4, i5, i6, i7, i8, i9, i10⟩ := ih
  have tz : (T c0).2 = z := by rw [hx.2.2.1.2.1]
  rw [gr_ps_7] at hg hc hl hpo
  have e1 := gr_bd_g2 hg
  rw [gr_bd_2 e1] at hg hc hl hpo
  have e2 := gr_bd_g2 hg
  rw [gr_bd_2 e2] at hc hl hpo
  have fw := gr_ps_fw (S := S) (c := c) (v := v) n 5 0 dp k lv a (by omega) e1
  have lw := gr_ps_lv (S := S) (c := c) (v := v) n 5 0 dp k lv a (by omega) e1
  have r1 : gr_rest 5 = 1 := rfl
  have ll : ∀ (u w : gr_cd) (k' l' : Nat) (dd : gr_dn), (gr_gd k' l' (u ++ w) dd).2.2.2.1.length = u.length + w.length := fun u w _ _ _ => List.length_append
  rw [ll] at hl
  refine i5 0 dp k lv a h p pe kk nn st I Q (Or.inl rfl) hh hlv hpe e1 (rk_cd_l hc) (by omega) hst ⟨fun y hy I1 h1 => ?_, fun hy I1 h1 => ?_⟩
  · refine i8 dp _ _ _ h _ pe kk nn st y I1 Q hy (by omega) (fw.2.2.2 hlv) hpe e2 (rk_cd_r hc) (by omega) h1 (rk_sub hpo rfl ?_)
    rw [ll]
    omega
  · exact hpo.2 (gr_ps_none n 8 dp _ _ _ (by omega) hy e2) I1 h1

theorem cr_9s (hs : hf_Lay t T P) (hx : hf_Tx t T P tx z m c0 c1 c2 c3 c4 c5) (hz2 : z < 2 ^ 30) (h0 : ¬ c0 = 134) (ih : cr_all X d t T L P I0 tx c0 c v S n) : cr_e X d t T L P I0 tx c0 c v S 9 (n + 1) := by
  intro x dp k lv a h p pe kk nn st I Q hx0 hh hlv hpe hg hc hl hst hpo
  obtain ⟨i0, i1, i2, i3, i4, i5, i6, i7, i8, i9, i10⟩ := ih
  have tz : (T c0).2 = z := by rw [hx.2.2.1.2.1]
  rw [gr_ps_9] at hg hc hl hpo
  have e1 := gr_bd_g2 hg
  rw [gr_bd_2 e1] at hg hc hl hpo
  have e2 := gr_bd_g2 hg
  rw [gr_bd_2 e2] at hc hl hpo
  have fw := gr_ps_fw (S := S) (c := c) (v := v) n 7 0 dp k lv a (by omega) e1
  have lw := gr_ps_lv (S := S) (c := c) (v := v) n 7 0 dp k lv a (by omega) e1
  have r1 : gr_rest 7 = 1 := rfl
  have ll : ∀ (u w : gr_cd) (k' l' : Nat) (dd : gr_dn), (gr_gd k' l' (u ++ w) dd).2.2.2.1.length = u.length + w.length := fun u w _ _ _ => List.length_append
  rw [ll] at hl
  refine i7 0 dp k lv a h p pe kk nn st I Q (Or.inl rfl) hh hlv hpe e1 (rk_cd_l hc) (by omega) hst ⟨fun y hy I1 h1 => ?_, fun hy I1 h1 => ?_⟩
  · refine i10 dp _ _ _ h _ pe kk nn st y I1 Q hy (by omega) (fw.2.2.2 hlv) hpe e2 (rk_cd_r hc) (by omega) h1 (rk_sub hpo rfl ?_)
    rw [ll]
    omega
  · exact hpo.2 (gr_ps_none n 10 dp _ _ _ (by omega) hy e2) I1 h1

theorem cr_2s (hs : hf_Lay t T P) (hx : hf_Tx t T P tx z m c0 c1 c2 c3 c4 c5) (hz2 : z < 2 ^ 30) (h0 : ¬ c0 = 134) (ih : cr_all X d t T L P I0 tx c0 c v S n) : cr_o X d t T L P I0 tx c0 c v S 2 (n + 1) := by
  intro dp k lv a h p pe kk nn st y I Q hy hh hlv hpe hg hc hl hst hpo
  obtain ⟨i0, i1, i2, i3, i4, i5, i6, i7, i8, i9, i10⟩ := ih
  have tz : (T c0).2 = z := by rw [hx.2.2.1.2.1]
  rw [gr_ps_2] at hg hc hl hpo
  by_cases ho : gr_o2 (c k) = 0
  · rw [if_pos ho] at hpo
    exact hpo.1 y hy I hst
  · rw [if_neg ho] at hg hc hl hpo
    have e1 := gr_bd_g2 hg
    rw [gr_bd_2 e1] at hg hc hl hpo
    have e2 := gr_bd_g2 hg
    rw [gr_bd_2 e2] at hc hl hpo
    have fw := gr_ps_fw (S := S) (c := c) (v := v) n 0 0 dp (k + 1) lv a (by omega) e1
    have lw := gr_ps_lv (S := S) (c := c) (v := v) n 0 0 dp (k + 1) lv a (by omega) e1
    have r1 : gr_rest 0 = 1 := rfl
    have fl := fw.2.2.2 hlv
    have ho2 : 2 ≤ gr_o2 (c k) ∧ gr_o2 (c k) ≤ 9 := by
      unfold gr_o2 at ho ⊢
      repeat' split at ho
      all_goals first | omega | simp_all
    have ll : ∀ (u w : gr_cd) (q : Nat × Nat) (k' l' : Nat) (dd : gr_dn), (gr_gd k' l' (u ++ q :: w) dd).2.2.2.1.length = u.length + w.length + 1 := fun u w _ _ _ _ => by show (u ++ _ :: w).length = _; rw [List.length_append, List.length_cons]; omega
    rw [ll] at hl
    have hcr := rk_cd_r hc
    refine i0 0 dp (k + 1) lv a (h + 1) p pe kk nn (upd st h y) I Q (Or.inl rfl) hh hlv hpe e1 (rk_cd_l hc) (by omega) hst ⟨fun y2 hy2 I1 h1 => ?_, fun hy2 I1 h1 => ?_⟩
    · refine rk_join (x := 0) hs hx (by omega) hz2 h0 (by omega) (by omega) ho2.1 ho2.2 h1 (rk_cd_l (b := (gr_ps S c v n 2 0 dp (gr_ps S c v n 0 0 dp (k + 1) lv a).2.1 (gr_ps S c v n 0 0 dp (k + 1) lv a).2.2.1 (gr_dj (gr_o2 (c k)) a (gr_ps S c v n 0 0 dp (k + 1) lv a).2.2.2.2)).2.2.2.1) hcr) (fun w hw => ?_) fun hw => ?_
      · refine i2 dp _ _ _ h _ pe kk nn st w _ Q ?_ (by omega) fl hpe e2 (rk_cd_t hcr) (by omega) (rk_st_up (rk_st_pop (rk_st_pop h1))) (rk_sub hpo rfl ?_)
        · simp [gr_dj, hy, hy2, hw]
        · rw [ll]
          omega
      · refine hpo.2 (gr_ps_none n 2 dp _ _ _ (by omega) ?_ e2) I1 h1.1
        simp [gr_dj, hy, hy2, hw]
    · refine hpo.2 (gr_ps_none n 2 dp _ _ _ (by omega) ?_ e2) I1 h1
      simp [gr_dj, hy, hy2]

theorem cr_4s (hs : hf_Lay t T P) (hx : hf_Tx t T P tx z m c0 c1 c2 c3 c4 c5) (hz2 : z < 2 ^ 30) (h0 : ¬ c0 = 134) (ih : cr_all X d t T L P I0 tx c0 c v S n) : cr_o X d t T L P I0 tx c0 c v S 4 (n + 1) := by
  intro dp k lv a h p pe kk nn st y I Q hy hh hlv hpe hg hc hl hst hpo
  obtain ⟨i0, i1, i2, i3, i4, i5, i6, i7, i8, i9, i10⟩ := ih
  have tz : (T c0).2 = z := by rw [hx.2.2.1.2.1]
  rw [gr_ps_4] at hg hc hl hpo
  by_cases ho : gr_o4 (c k) = 0
  · rw [if_pos ho] at hpo
    exact hpo.1 y hy I hst
  · rw [if_neg ho] at hg hc hl hpo
    have e1 := gr_bd_g2 hg
    rw [gr_bd_2 e1] at hg hc hl hpo
    have e2 := gr_bd_g2 hg
    rw [gr_bd_2 e2] at hc hl hpo
    have fw := gr_ps_fw (S := S) (c := c) (v := v) n 1 0 dp (k + 1) lv a (by omega) e1
    have lw := gr_ps_lv (S := S) (c := c) (v := v) n 1 0 dp (k + 1) lv a (by omega) e1
    have r1 : gr_rest 1 = 1 := rfl
    have fl := fw.2.2.2 hlv
    have ho2 : 2 ≤ gr_o4 (c k) ∧ gr_o4 (c k) ≤ 9 := by
      unfold gr_o4 at ho ⊢
      repeat' split at ho
      all_goals first | omega | simp_all
    have ll : ∀ (u w : gr_cd) (q : Nat × Nat) (k' l' : Nat) (dd : gr_dn), (gr_gd k' l' (u ++ q :: w) dd).2.2.2.1.length = u.length + w.length + 1 := fun u w _ _ _ _ => by show (u ++ _ :: w).length = _; rw [List.length_append, List.length_cons]; omega
    rw [ll] at hl
    have hcr := rk_cd_r hc
    refine i1 0 dp (k + 1) lv a (h + 1) p pe kk nn (upd st h y) I Q (Or.inl rfl) hh hlv hpe e1 (rk_cd_l hc) (by omega) hst ⟨fun y2 hy2 I1 h1 => ?_, fun hy2 I1 h1 => ?_⟩
    · refine rk_join (x := 0) hs hx (by omega) hz2 h0 (by omega) (by omega) ho2.1 ho2.2 h1 (rk_cd_l (b := (gr_ps S c v n 4 0 dp (gr_ps S c v n 1 0 dp (k + 1) lv a).2.1 (gr_ps S c v n 1 0 dp (k + 1) lv a).2.2.1 (gr_dj (gr_o4 (c k)) a (gr_ps S c v n 1 0 dp (k + 1) lv a).2.2.2.2)).2.2.2.1) hcr) (fun w hw => ?_) fun hw => ?_
      · refine i4 dp _ _ _ h _ pe kk nn st w _ Q ?_ (by omega) fl hpe e2 (rk_cd_t hcr) (by omega) (rk_st_up (rk_st_pop (rk_st_pop h1))) (rk_sub hpo rfl ?_)
        · simp [gr_dj, hy, hy2, hw]
        · rw [ll]
          omega
      · refine hpo.2 (gr_ps_none n 4 dp _ _ _ (by omega) ?_ e2) I1 h1.1
        simp [gr_dj, hy, hy2, hw]
    · refine hpo.2 (gr_ps_none n 4 dp _ _ _ (by omega) ?_ e2) I1 h1
      simp [gr_dj, hy, hy2]

theorem cr_8s (hs : hf_Lay t T P) (hx : hf_Tx t T P tx z m c0 c1 c2 c3 c4 c5) (hz2 : z < 2 ^ 30) (h0 : ¬ c0 = 134) (ih : cr_all X d t T L P I0 tx c0 c v S n) : cr_o X d t T L P I0 tx c0 c v S 8 (n + 1) := by
  intro dp k lv a h p pe kk nn st y I Q hy hh hlv hpe hg hc hl hst hpo
  obtain ⟨i0, i1, i2, i3, i4, i5, i6, i7, i8, i9, i10⟩ := ih
  have tz : (T c0).2 = z := by rw [hx.2.2.1.2.1]
  rw [gr_ps_8] at hg hc hl hpo
  by_cases ho : c k = 6
  · rw [if_pos ho] at hg hc hl hpo
    have e1 := gr_bd_g2 hg
    rw [gr_bd_2 e1] at hg hc hl hpo
    have e2 := gr_bd_g2 hg
    rw [gr_bd_2 e2] at hc hl hpo
    have fw := gr_ps_fw (S := S) (c := c) (v := v) n 5 0 dp (k + 1) lv a (by omega) e1
    have lw := gr_ps_lv (S := S) (c := c) (v := v) n 5 0 dp (k + 1) lv a (by omega) e1
    have r1 : gr_rest 5 = 1 := rfl
    have fl := fw.2.2.2 hlv
    have ll : ∀ (u w : gr_cd) (q : Nat × Nat) (k' l' : Nat) (dd : gr_dn), (gr_gd k' l' (q :: (u ++ w)) dd).2.2.2.1.length = u.length + w.length + 1 := fun u w _ _ _ _ => by show (_ :: (u ++ w)).length = _; rw [List.length_cons, List.length_append]
    rw [ll] at hl
    have hct := rk_cd_t hc
    have hcl := rk_cd_l hct
    have hcr := rk_cd_r hct
    refine rk_skip (s := 12) hs hx (by omega) hz2 h0 (by omega) (by omega) (by omega) (x := (gr_ps S c v n 5 0 dp (k + 1) lv a).2.2.2.1.length) (by omega) hst (fun j hj => ?_) (fun q => ?_) fun q => ?_
    · have hj0 : j = 0 := by simpa using hj
      subst hj0
      have := rk_cd_h hc
      simpa using this
    · have hy0 : y = 0 := by rcases q with ⟨q1, q2⟩ | ⟨q1, q2⟩ <;> first | omega | exact q2
      refine i8 dp _ _ _ h _ pe kk nn st y I Q ?_ (by omega) fl hpe e2 hcr (by omega) hst (rk_sub hpo rfl ?_)
      · simp [gr_dan, hy, hy0]
      · rw [ll]
        omega
    · have hy0 : ¬ y = 0 := by rcases q with ⟨q1, q2⟩ | ⟨q1, q2⟩ <;> first | omega | exact q2
      have dn : gr_dan a (gr_ps S c v n 5 0 dp (k + 1) lv a).2.2.2.2 (I0 133) = (gr_ps S c v n 5 0 dp (k + 1) lv a).2.2.2.2 (I0 133) := by simp [gr_dan, hy, hy0]
      refine i5 0 dp (k + 1) lv a h (p + 1) pe kk nn st I Q (Or.inl rfl) (by omega) hlv hpe e1 hcl (by omega) (rk_st_pop hst) ⟨fun y2 hy2 I1 h1 => ?_, fun hy2 I1 h1 => ?_⟩
      · refine i8 dp _ _ _ h _ pe kk nn st y2 I1 Q (dn.trans hy2) (by omega) fl hpe e2 hcr (by omega) h1 (rk_sub hpo rfl ?_)
        rw [ll]
        omega
      · exact hpo.2 (gr_ps_none n 8 dp _ _ _ (by omega) (dn.trans hy2) e2) I1 h1
  · rw [if_neg ho] at hpo
    exact hpo.1 y hy I hst

theorem cr_10s (hs : hf_Lay t T P) (hx : hf_Tx t T P tx z m c0 c1 c2 c3 c4 c5) (hz2 : z < 2 ^ 30) (h0 : ¬ c0 = 134) (ih : cr_all X d t T L P I0 tx c0 c v S n) : cr_o X d t T L P I0 tx c0 c v S 10 (n + 1) := by
  intro dp k lv a h p pe kk nn st y I Q hy hh hlv hpe hg hc hl hst hpo
  obtain ⟨i0, i1, i2, i3, i4, i5, i6, i7, i8, i9, i10⟩ := ih
  have tz : (T c0).2 = z := by rw [hx.2.2.1.2.1]
  rw [gr_ps_10] at hg hc hl hpo
  by_cases ho : c k = 5
  · rw [if_pos ho] at hg hc hl hpo
    have e1 := gr_bd_g2 hg
    rw [gr_bd_2 e1] at hg hc hl hpo
    have e2 := gr_bd_g2 hg
    rw [gr_bd_2 e2] at hc hl hpo
    have fw := gr_ps_fw (S := S) (c := c) (v := v) n 7 0 dp (k + 1) lv a (by omega) e1
    have lw := gr_ps_lv (S := S) (c := c) (v := v) n 7 0 dp (k + 1) lv a (by omega) e1
    have r1 : gr_rest 7 = 1 := rfl
    have fl := fw.2.2.2 hlv
    have ll : ∀ (u w : gr_cd) (q : Nat × Nat) (k' l' : Nat) (dd : gr_dn), (gr_gd k' l' (q :: (u ++ w)) dd).2.2.2.1.length = u.length + w.length + 1 := fun u w _ _ _ _ => by show (_ :: (u ++ w)).length = _; rw [List.length_cons, List.length_append]
    rw [ll] at hl
    have hct := rk_cd_t hc
    have hcl := rk_cd_l hct
    have hcr := rk_cd_r hct
    refine rk_skip (s := 11) hs hx (by omega) hz2 h0 (by omega) (by omega) (by omega) (x := (gr_ps S c v n 7 0 dp (k + 1) lv a).2.2.2.1.length) (by omega) hst (fun j hj => ?_) (fun q => ?_) fun q => ?_
    · have hj0 : j = 0 := by simpa using hj
      subst hj0
      have := rk_cd_h hc
      simpa using this
    · have hy0 : ¬ y = 0 := by rcases q with ⟨q1, q2⟩ | ⟨q1, q2⟩ <;> first | omega | exact q2
      refine i10 dp _ _ _ h _ pe kk nn st y I Q ?_ (by omega) fl hpe e2 hcr (by omega) hst (rk_sub hpo rfl ?_)
      · simp [gr_dor, hy, hy0]
      · rw [ll]
        omega
    · have hy0 : y = 0 := by rcases q with ⟨q1, q2⟩ | ⟨q1, q2⟩ <;> first | omega | exact q2
      have dn : gr_dor a (gr_ps S c v n 7 0 dp (k + 1) lv a).2.2.2.2 (I0 133) = (gr_ps S c v n 7 0 dp (k + 1) lv a).2.2.2.2 (I0 133) := by simp [gr_dor, hy, hy0]
      refine i7 0 dp (k + 1) lv a h (p + 1) pe kk nn st I Q (Or.inl rfl) (by omega) hlv hpe e1 hcl (by omega) (rk_st_pop hst) ⟨fun y2 hy2 I1 h1 => ?_, fun hy2 I1 h1 => ?_⟩
      · refine i10 dp _ _ _ h _ pe kk nn st y2 I1 Q (dn.trans hy2) (by omega) fl hpe e2 hcr (by omega) h1 (rk_sub hpo rfl ?_)
        rw [ll]
        omega
      · exact hpo.2 (gr_ps_none n 10 dp _ _ _ (by omega) (dn.trans hy2) e2) I1 h1
  · rw [if_neg ho] at hpo
    exact hpo.1 y hy I hst

theorem cr_5s (hs : hf_Lay t T P) (hx : hf_Tx t T P tx z m c0 c1 c2 c3 c4 c5) (hz2 : z < 2 ^ 30) (h0 : ¬ c0 = 134) (ih : cr_all X d t T L P I0 tx c0 c v S n) : cr_e X d t T L P I0 tx c0 c v S 5 (n + 1) := by
  intro x dp k lv a h p pe kk nn st I Q hx0 hh hlv hpe hg hc hl hst hpo
  obtain ⟨i0, i1, i2, i3, i4, i5, i6, i7, i8, i9, i10⟩ := ih
  have tz : (T c0).2 = z := by rw [hx.2.2.1.2.1]
  rw [gr_ps_5] at hg hc hl hpo
  by_cases ho : c k = 7
  · rw [if_pos ho] at hg hc hl hpo
    exact i5 _ dp (k + 1) lv a h p pe kk nn st I Q (Or.inr rfl) hh hlv hpe hg hc hl hst hpo
  · rw [if_neg ho] at hg hc hl hpo
    have e1 := gr_bd_g2 hg
    rw [gr_bd_2 e1] at hg hc hl hpo
    by_cases x0 : x = 0
    · rw [if_pos x0] at hc hl hpo
      exact i6 0 dp k lv a h p pe kk nn st I Q (Or.inl rfl) hh hlv hpe e1 hc hl hst (rk_sub hpo rfl rfl)
    · rw [if_neg x0] at hc hl hpo
      have fw := gr_ps_fw (S := S) (c := c) (v := v) n 6 0 dp k lv a (by omega) e1
      have lw := gr_ps_lv (S := S) (c := c) (v := v) n 6 0 dp k lv a (by omega) e1
      have r1 : gr_rest 6 = 1 := rfl
      have fl := fw.2.2.2 hlv
      have ll : ∀ (u : gr_cd) (q : Nat × Nat) (k' l' : Nat) (dd : gr_dn), (gr_gd k' l' (u ++ [q]) dd).2.2.2.1.length = u.length + 1 := fun u _ _ _ _ => by show (u ++ [_]).length = _; rw [List.length_append, List.length_singleton]
      rw [ll] at hl
      refine i6 0 dp k lv a h p pe kk nn st I Q (Or.inl rfl) hh hlv hpe e1 (rk_cd_l hc) (by omega) hst ⟨fun y hy I1 h1 => ?_, fun hy I1 h1 => ?_⟩
      · refine rk_not (x := 0) hs hx (by omega) hz2 h0 (by omega) (by omega) h1 (rk_cd_r hc) ?_
        have := hpo.1 (if y = 0 then 1 else 0) (by show gr_dno _ _ = _; simp [gr_dno, hy]) _ (rk_st_up (rk_st_pop h1))
        rw [ll] at this
        exact this
      · exact hpo.2 (by show gr_dno _ _ = _; simp [gr_dno, hy]) I1 h1
theorem cr_6s (hs : hf_Lay t T P) (hx : hf_Tx t T P tx z m c0 c1 c2 c3 c4 c5) (hz2 : z < 2 ^ 30) (h0 : ¬ c0 = 134) (ih : cr_all X d t T L P I0 tx c0 c v S n) : cr_e X d t T L P I0 tx c0 c v S 6 (n + 1) := by
  intro x dp k lv a h p pe kk nn st I Q hx0 hh hlv hpe hg hc hl hst hpo
  obtain ⟨i0, i1, i2, i3, i4, i5, i6, i7, i8, i9, i10⟩ := ih
  have tz : (T c0).2 = z := by rw [hx.2.2.1.2.1]
  rw [gr_ps_6] at hg hc hl hpo
  have fl0 : ∀ j, ¬ (gr_fl j).1 = 2 := fun j => by show ¬ (1 = 2); omega
  by_cases ho : c k = 140
  · rw [if_pos ho] at hg hc hl hpo
    by_cases h8 : dp = 8
    · rw [if_pos h8] at hg; exact absurd hg (fl0 _)
    · rw [if_neg h8] at hg hc hl hpo
      have e1 := gr_bd_g2 hg
      rw [gr_bd_2 e1] at hg hc hl hpo
      by_cases hcc : c (gr_ps S c v n 9 0 (dp + 1) (k + 1) lv a).2.1 = 141
      · rw [if_pos hcc] at hc hl hpo
        exact i9 0 (dp + 1) (k + 1) lv a h p pe kk nn st I Q (Or.inl rfl) hh hlv hpe e1 hc hl hst (rk_sub hpo rfl rfl)
      · rw [if_neg hcc] at hg; exact absurd hg (fl0 _)
  · rw [if_neg ho] at hg hc hl hpo
    have e1 := gr_bd_g2 hg
    rw [gr_bd_2 e1] at hg hc hl hpo
    by_cases hcc : gr_o6 (c (gr_ps S c v n 3 0 dp k lv a).2.1) = 0
    · rw [if_pos hcc] at hg; exact absurd hg (fl0 _)
    · rw [if_neg hcc] at hg hc hl hpo
      have e2 := gr_bd_g2 hg
      rw [gr_bd_2 e2] at hc hl hpo
      have fw := gr_ps_fw (S := S) (c := c) (v := v) n 3 0 dp k lv a (by omega) e1
      have lw := gr_ps_lv (S := S) (c := c) (v := v) n 3 0 dp k lv a (by omega) e1
      have fw2 := gr_ps_fw (S := S) (c := c) (v := v) n 3 0 dp ((gr_ps S c v n 3 0 dp k lv a).2.1 + 1) (gr_ps S c v n 3 0 dp k lv a).2.2.1 a (by omega) e2
      have lw2 := gr_ps_lv (S := S) (c := c) (v := v) n 3 0 dp ((gr_ps S c v n 3 0 dp k lv a).2.1 + 1) (gr_ps S c v n 3 0 dp k lv a).2.2.1 a (by omega) e2
      have r1 : gr_rest 3 = 1 := rfl
      have fl := fw.2.2.2 hlv
      have fl2 := fw2.2.2.2 fl
      have ho2 : 2 ≤ gr_o6 (c (gr_ps S c v n 3 0 dp k lv a).2.1) ∧ gr_o6 (c (gr_ps S c v n 3 0 dp k lv a).2.1) ≤ 9 := by
        generalize c (gr_ps S c v n 3 0 dp k lv a).2.1 = cc at hcc
        unfold gr_o6 at hcc ⊢
        repeat' split at hcc
        all_goals first | omega | simp_all
      have ll : ∀ (u w : gr_cd) (q : Nat × Nat) (k' l' : Nat) (dd : gr_dn), (gr_gd k' l' (u ++ (w ++ [q])) dd).2.2.2.1.length = u.length + w.length + 1 := fun u w _ _ _ _ => by show (u ++ (w ++ [_])).length = _; rw [List.length_append, List.length_append, List.length_singleton]; omega
      rw [ll] at hl
      have hcr := rk_cd_r hc
      refine i3 0 dp k lv a h p pe kk nn st I Q (Or.inl rfl) hh hlv hpe e1 (rk_cd_l hc) (by omega) hst ⟨fun y1 hy1 I1 h1 => ?_, fun hy1 I1 h1 => ?_⟩
      · refine i3 0 dp _ _ a (h + 1) _ pe kk nn (upd st h y1) I1 Q (Or.inl rfl) (by omega) fl hpe e2 (rk_cd_l hcr) (by omega) h1 ⟨fun y2 hy2 I2 h2 => ?_, fun hy2 I2 h2 => ?_⟩
        · refine rk_join (x := 0) hs hx (by omega) hz2 h0 (by omega) (by omega) ho2.1 ho2.2 h2 (rk_cd_r hcr) (fun w hw => ?_) fun hw => ?_
          · have := hpo.1 w (by show gr_dj _ _ _ _ = _; simp [gr_dj, hy1, hy2, hw]) _ (rk_st_up (rk_st_pop (rk_st_pop h2)))
            rw [ll] at this
            rw [Nat.add_assoc, Nat.add_assoc, ← Nat.add_assoc (List.length _)]
            exact this
          · exact hpo.2 (by show gr_dj _ _ _ _ = _; simp [gr_dj, hy1, hy2, hw]) I2 h2.1
        · exact hpo.2 (by show gr_dj _ _ _ _ = _; simp [gr_dj, hy1, hy2]) I2 h2
      · exact hpo.2 (by show gr_dj _ _ _ _ = _; simp [gr_dj, hy1]) I1 h1
theorem gr_fx_lt {S : Bool} {cc w : Nat} (h : gr_isv S cc = true) (hw : w ≤ 15) : gr_fx S cc w < 37 := by
  cases S with
  | false =>
    simp only [gr_isv, Bool.and_eq_true, Nat.ble_eq] at h
    show cc - 8 < 37
    omega
  | true =>
    rw [gr_fx_t]
    repeat' split
    all_goals omega
theorem cr_0s (hs : hf_Lay t T P) (hx : hf_Tx t T P tx z m c0 c1 c2 c3 c4 c5) (hz2 : z < 2 ^ 30) (h0 : ¬ c0 = 134) (ih : cr_all X d t T L P I0 tx c0 c v S n) : cr_e X d t T L P I0 tx c0 c v S 0 (n + 1) := by
  intro x dp k lv a h p pe kk nn st I Q hx0 hh hlv hpe hg hc hl hst hpo
  obtain ⟨i0, i1, i2, i3, i4, i5, i6, i7, i8, i9, i10⟩ := ih
  have tz : (T c0).2 = z := by rw [hx.2.2.1.2.1]
  rw [gr_ps_0] at hg hc hl hpo
  have fl0 : ∀ j, ¬ (gr_fl j).1 = 2 := fun j => by show ¬ (1 = 2); omega
  by_cases ho : c k = 191
  · rw [if_pos ho] at hg hc hl hpo
    by_cases h8 : dp = 8
    · rw [if_pos h8] at hg; exact absurd hg (fl0 _)
    · rw [if_neg h8] at hg hc hl hpo
      have e1 := gr_bd_g2 hg
      rw [gr_bd_2 e1] at hg hc hl hpo
      by_cases hcc : c (gr_ps S c v n 3 0 (dp + 1) (k + 1) lv a).2.1 = 193
      · rw [if_pos hcc] at hc hl hpo
        exact i3 0 (dp + 1) (k + 1) lv a h p pe kk nn st I Q (Or.inl rfl) hh hlv hpe e1 hc hl hst (rk_sub hpo rfl rfl)
      · rw [if_neg hcc] at hg; exact absurd hg (fl0 _)
  · rw [if_neg ho] at hg hc hl hpo
    by_cases h5 : c k = 50 ∧ v k ≤ 1000
    · rw [if_pos h5] at hg hc hl hpo
      by_cases h50 : lv = 50
      · rw [if_pos h50] at hg; exact absurd hg (fl0 _)
      · rw [if_neg h50] at hc hl hpo
        have hl1 : p + 1 ≤ pe := hl
        exact rk_push hs hx (by omega) hz2 h0 (by omega) (by omega) hst hc (hpo.1 _ rfl _ (rk_st_up hst))
    · rw [if_neg h5] at hg hc hl hpo
      by_cases hv : gr_isv S (c k) = true
      · rw [if_pos hv] at hg hc hl hpo
        by_cases h50 : lv = 50
        · rw [if_pos h50] at hg; exact absurd hg (fl0 _)
        · rw [if_neg h50] at hg hc hl hpo
          by_cases hw : S = true ∧ (c k = 24 ∨ c k = 9)
          · rw [if_pos hw] at hg hc hl hpo
            by_cases hn : c (k + 1) = 50 ∧ v (k + 1) ≤ 15
            · rw [if_pos hn] at hc hl hpo
              have hl1 : p + 1 ≤ pe := hl
              exact rk_fact hs hx (by omega) hz2 h0 (by omega) (by omega) (gr_fx_lt hv hn.2) hst hc (hpo.1 _ rfl _ (rk_st_up hst))
            · rw [if_neg hn] at hg; exact absurd hg (fl0 _)
          · rw [if_neg hw] at hc hl hpo
            have hl1 : p + 1 ≤ pe := hl
            exact rk_fact hs hx (by omega) hz2 h0 (by omega) (by omega) (gr_fx_lt hv (by omega)) hst hc (hpo.1 _ rfl _ (rk_st_up hst))
      · rw [if_neg hv] at hg; exact absurd hg (fl0 _)

theorem cr_any (hs : hf_Lay t T P) (hx : hf_Tx t T P tx z m c0 c1 c2 c3 c4 c5) (hz2 : z < 2 ^ 30) (h0 : ¬ c0 = 134) : ∀ n, cr_all X d t T L P I0 tx c0 c v S n := by
  intro n
  induction n with
  | zero =>
    refine ⟨?_, ?_, ?_, ?_, ?_, ?_, ?_, ?_, ?_, ?_, ?_⟩
    · intro x dp k lv a h p pe kk nn st I Q hx0 hh hlv hpe hg; exact absurd hg (by show ¬ (0 = 2); omega)
    · intro x dp k lv a h p pe kk nn st I Q hx0 hh hlv hpe hg; exact absurd hg (by show ¬ (0 = 2); omega)
    · intro dp k lv a h p pe kk nn st y I Q hy hh hlv hpe hg; exact absurd hg (by show ¬ (0 = 2); omega)
    · intro x dp k lv a h p pe kk nn st I Q hx0 hh hlv hpe hg; exact absurd hg (by show ¬ (0 = 2); omega)
    · intro dp k lv a h p pe kk nn st y I Q hy hh hlv hpe hg; exact absurd hg (by show ¬ (0 = 2); omega)
    · intro x dp k lv a h p pe kk nn st I Q hx0 hh hlv hpe hg; exact absurd hg (by show ¬ (0 = 2); omega)
    · intro x dp k lv a h p pe kk nn st I Q hx0 hh hlv hpe hg; exact absurd hg (by show ¬ (0 = 2); omega)
    · intro x dp k lv a h p pe kk nn st I Q hx0 hh hlv hpe hg; exact absurd hg (by show ¬ (0 = 2); omega)
    · intro dp k lv a h p pe kk nn st y I Q hy hh hlv hpe hg; exact absurd hg (by show ¬ (0 = 2); omega)
    · intro x dp k lv a h p pe kk nn st I Q hx0 hh hlv hpe hg; exact absurd hg (by show ¬ (0 = 2); omega)
    · intro dp k lv a h p pe kk nn st y I Q hy hh hlv hpe hg; exact absurd hg (by show ¬ (0 = 2); omega)
  | succ n ih => exact ⟨cr_0s hs hx hz2 h0 ih, cr_1s hs hx hz2 h0 ih, cr_2s hs hx hz2 h0 ih, cr_3s hs hx hz2 h0 ih, cr_4s hs hx hz2 h0 ih, cr_5s hs hx hz2 h0 ih, cr_6s hs hx hz2 h0 ih, cr_7s hs hx hz2 h0 ih, cr_8s hs hx hz2 h0 ih, cr_9s hs hx hz2 h0 ih, cr_10s hs hx hz2 h0 ih⟩
/-- a sum (nt 3) or a test (nt 9), reckoned -/
theorem cs_reckon {nt dp k lv p kk nn zl : Nat} {a : gr_dn} {Q : Option Value → hf_M → Prop} (hs : hf_Lay t T P) (hx : hf_Tx t T P tx z m c0 c1 c2 c3 c4 c5) (hz2 : z < 2 ^ 30) (h0 : ¬ c0 = 134) (hnt : nt = 3 ∨ nt = 9) (hlv : lv ≤ 50) (hg : (gr_ps S c v n nt 0 dp k lv a).1 = 2) (hc : rk_cd (I0 c0) p (gr_ps S c v n nt 0 dp k lv a).2.2.2.1) (hzl : I0 tx 6 = nI zl) (hl : 2 * (p + (gr_ps S c v n nt 0 dp k lv a).2.2.2.1.length) ≤ zl) (hlz : zl ≤ z)
    (h1 : ∀ x, (gr_ps S c v n nt 0 dp k lv a).2.2.2.2 (I0 133) = some x → ∀ I', (∀ b, ¬ b = 134 → ¬ b = 132 → I' b = I0 b) → (∀ j, ¬ j = 2 → I' 132 j = I0 132 j) → I' 132 2 = x → Q (some (.int 1)) (t, T, I', L, P)) (h2 : (gr_ps S c v n nt 0 dp k lv a).2.2.2.2 (I0 133) = none → ∀ I', rk_fr I0 I' → Q (some (.int 0)) (t, T, I', L, P)) :
    hf_G X Y_X7_reckon (d + 1) kk nn 0 (hf_en [.ref 132, .ref tx, .int (nI (2 * p)), .int (nI (2 * (p + (gr_ps S c v n nt 0 dp k lv a).2.2.2.1.length)))] 11) [] (t, T, I0, L, P) Q := by
  have tz : (T c0).2 = z := by rw [hx.2.2.1.2.1]
  obtain ⟨i0, i1, i2, i3, i4, i5, i6, i7, i8, i9, i10⟩ := cr_any (X := X) (d := d) (L := L) (I0 := I0) (c := c) (v := v) (S := S) hs hx hz2 h0 n
  generalize hr : gr_ps S c v n nt 0 dp k lv a = r at *
  have m1 : (if I0 tx 6 < nI (2 * (p + r.2.2.2.1.length)) then I0 tx 6 else nI (2 * (p + r.2.2.2.1.length))) = nI (2 * (p + r.2.2.2.1.length)) := by
    rw [hzl, if_neg]
    exact nI_nlt (by omega) (by omega)
  have m2 : (if 0 < nI (2 * p) then nI (2 * p) else 0) = nI (2 * p) := by
    cases p with
    | zero => rfl
    | succ p => rw [if_pos]; exact nI_lt (a := 0) (by omega) (by omega)
  refine w_X7_reckon_0_d hs hx ?_
  rw [m1, m2]
  have key : rk_po X d t T L P I0 tx kk nn (p + r.2.2.2.1.length) 0 p (fun _ => 0) r Q := by
    refine ⟨fun x hx1 I' hI => w_X7_reckon_20_d hs hx ⟨fun _ => ⟨fun _ => h1 x hx1 _ (fun b hb1 hb2 => ?_) (fun j hj => ?_) ?_, fun q => absurd rfl q⟩, fun q => absurd ?_ q⟩, h2⟩
    · rw [← hI.1 b hb1]
      simp [hf_up, hb2]
    · rw [← hI.1 132 (by omega)]
      show upd (I' 132) 2 _ j = _
      exact hf_upd_ne hj
    · show I' 134 0 = x
      exact rk_top hI
    · rw [nI_1]
      exact nI_le (by omega) (by omega)
  rcases hnt with e | e
  · subst e
    have := i3 0 dp k lv a 0 p (p + r.2.2.2.1.length) kk nn (fun _ => 0) I0 Q (Or.inl rfl) (Nat.zero_le _) hlv (by omega)
    rw [hr] at this
    exact this hg hc (Nat.le_refl _) ⟨fun _ _ => rfl, fun j hj => absurd hj (by omega)⟩ key
  · subst e
    have := i9 0 dp k lv a 0 p (p + r.2.2.2.1.length) kk nn (fun _ => 0) I0 Q (Or.inl rfl) (Nat.zero_le _) hlv (by omega)
    rw [hr] at this
    exact this hg hc (Nat.le_refl _) ⟨fun _ _ => rfl, fun j hj => absurd hj (by omega)⟩ key
end CRK
