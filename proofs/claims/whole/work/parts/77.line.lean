/-! LINES of the HEAD, and what it costs -/
def hl_w (br le lt hw hl : Nat → Int32) (sz x : Int32) (c : Nat) : Int32 := hf_li (hf_lws (fun j => hf_wd br sz (le (hw j).toNatClampNeg) (fun q => lt (9 * (hw j).toNatClampNeg + q))) hl x c) (hf_cnt hl x c) (hf_bl br sz)
def hl_wm (K : Nat → Int32) (x : Int32) (c : Nat) : Int32 := hf_li (hf_lws (fun j => hf_wd (fun j => K (26 + j)) (K 315) (K (53 + 13 * (K j).toNatClampNeg + 3)) (fun q => K (53 + 13 * (K j).toNatClampNeg + 4 + q))) (fun j => K (12 + j)) x c) (hf_cnt (fun j => K (12 + j)) x c) (hf_bl (fun j => K (26 + j)) (K 315))
def hl_a (lt hw hl : Nat → Int32) (x : Int32) (c : Nat) : Bool := hf_alk (hf_fw hw hl x c) (hf_fw hw hl (x - 1) c) (fun w => lt (9 * w.toNatClampNeg))
def hl_am (K : Nat → Int32) (x : Int32) (c : Nat) : Bool := decide (¬ x = 0) && hf_alk (hf_fw K (fun j => K (12 + j)) x c) (hf_fw K (fun j => K (12 + j)) (x - 1) c) (fun w => K (53 + 13 * w.toNatClampNeg + 4))
/-- what the relation tells of the HEAD -/
theorem sim_hd {I : hf_I} (h : hf_SM I) : ∃ c, c ≤ 12 ∧ I 114 2 = nI c ∧ I 158 24 = nI c ∧ (∀ j, j < c → ∃ i, i < 16 ∧ I 115 j = nI i ∧ hf_wok (I 109 i) (fun q => I 110 (9 * i + q))) ∧ (∀ j, j < c → ∃ i, i < 16 ∧ I 158 j = nI i ∧ hf_wok (I 158 (53 + 13 * i + 3)) (fun q => I 158 (53 + 13 * i + 4 + q))) ∧ (∀ x, hf_cnt (I 116) x c = hf_cnt (fun j => I 158 (12 + j)) x c) ∧ (∀ x, hl_w (I 102) (I 109) (I 110) (I 115) (I 116) (I 101 14) x c = hl_wm (I 158) x c) ∧ (∀ li, li < 4 → hl_a (I 110) (I 115) (I 116) (nI li) c = hl_am (I 158) (nI li) c) ∧ (∀ li, li < 4 → hf_ech (I 115) (I 116) (nI li) (I 113 li) c = hf_ech (I 158) (fun j => I 158 (12 + j)) (nI li) (I 158 (275 + li)) c) ∧ (∀ j, j < c → I 115 j = I 158 j) := by
  obtain ⟨m1, m2, m3, ⟨w, g1, g2, g3, g4, g5⟩, m5, m6, m7, m8, m9, m10⟩ := h
  obtain ⟨c, ln, h1, h2, h3, h4, h5, h6, h7⟩ := m7
  have hj : ∀ j, j < c → ∃ i, i < w ∧ I 115 j = nI i ∧ I 158 j = nI i ∧ ∃ q, q ≤ ln ∧ I 116 j = nI q ∧ I 158 (12 + j) = nI q := by
    intro j hjc
    obtain ⟨⟨a1, a2, a3⟩, q, b1, b2, b3⟩ := h7 j hjc
    obtain ⟨i, hi, e⟩ := nI_of (Int32.not_lt.mpr a2)
    refine ⟨i, ?_, e, a1.symm.trans e, q, b1, b2, b3⟩
    rw [e, g2] at a3
    exact (nI_ltI hi (by omega)).mp a3
  have ef : ∀ i, (fun q => I 158 (53 + 13 * i + 4 + q)) = fun q => I 158 (53 + 13 * i + (4 + q)) := fun i => funext fun q => by rw [Nat.add_assoc]
  have hcnt : ∀ x, hf_cnt (I 116) x c = hf_cnt (fun j => I 158 (12 + j)) x c := fun x => hf_cnt_congr fun j hjc => by
    obtain ⟨i, -, -, -, q, -, e1, e2⟩ := hj j hjc
    rw [e1, e2]
  have hfw : ∀ x, hf_fw (I 115) (I 116) x c = hf_fw (I 158) (fun j => I 158 (12 + j)) x c := fun x => by
    unfold hf_fw
    rw [hf_fst_congr (f := I 116) (g := fun j => I 158 (12 + j)) (fun j hjc => by obtain ⟨i, -, -, -, q, -, e1, e2⟩ := hj j hjc; rw [e1, e2])]
    by_cases hl : hf_fst (fun j => I 158 (12 + j)) x c < c
    · rw [if_pos hl, if_pos hl]
      obtain ⟨i, -, e1, e2, -⟩ := hj _ hl
      rw [e1, e2]
    · rw [if_neg hl, if_neg hl]
  refine ⟨c, h1, h3, h4, fun j hjc => ?_, fun j hjc => ?_, hcnt, fun x => ?_, fun li hli => ?_, fun li hli => ?_, fun j hjc => ?_⟩
  · obtain ⟨i, i1, e1, e2, -⟩ := hj j hjc
    exact ⟨i, by omega, e1, (S_w1_ok (g4 i i1)).1⟩
  · obtain ⟨i, i1, e1, e2, -⟩ := hj j hjc
    refine ⟨i, by omega, e2, ?_⟩
    rw [ef]
    exact (S_w1_ok (g4 i i1)).2.1
  · unfold hl_w hl_wm
    rw [hcnt]
    have eb : hf_bl (I 102) (I 101 14) = hf_bl (fun j => I 158 (26 + j)) (I 158 315) := by
      unfold hf_bl
      rw [(m1 26 (by omega)).1, m3.2.2.2.2.1]
    rw [eb]
    congr 1
    refine hf_lws_congr fun j hjc => ?_
    obtain ⟨i, i1, e1, e2, q, -, e3, e4⟩ := hj j hjc
    refine ⟨by rw [e3, e4], ?_⟩
    rw [e1, e2, nI_clamp (by omega), ef, m3.2.2.2.2.1]
    exact (S_w1_ok (g4 i i1)).2.2.2.2.2.2.2 _ _ _ (fun j hj => (m1 j hj).1)
  · unfold hl_a hl_am
    have fl : ∀ x, hf_fw (I 158) (fun j => I 158 (12 + j)) x c = -1 ∨ ∃ i, i < w ∧ hf_fw (I 158) (fun j => I 158 (12 + j)) x c = nI i := fun x => by
      unfold hf_fw
      by_cases hl : hf_fst (fun j => I 158 (12 + j)) x c < c
      · rw [if_pos hl]
        obtain ⟨i, i1, e1, e2, -⟩ := hj _ hl
        exact Or.inr ⟨i, i1, e2⟩
      · rw [if_neg hl]; exact Or.inl rfl
    have lt : ∀ i, i < w → I 110 (9 * i) = I 158 (53 + 13 * i + 4) := fun i i1 => (S_w1_ok (g4 i i1)).2.2.2.2.2.2.1
    rw [hfw, hfw]
    by_cases hz : li = 0
    · subst hz
      have e1 : hf_fw (I 158) (fun j => I 158 (12 + j)) (nI 0 - 1) c = -1 := by
        unfold hf_fw
        rw [hf_fst_none, if_neg (by omega)]
        intro j hjc
        obtain ⟨i, -, -, -, q, q1, e3, e4⟩ := hj j hjc
        show ¬ I 158 (12 + j) = nI 0 - 1
        rw [e4]
        exact hf_nm1 (by omega)
      rw [e1]
      unfold hf_alk
      simp
    · have hnz : decide (¬ nI li = 0) = true := by
        rw [decide_eq_true_eq]
        exact fun q => hz ((nI_eq (b := 0) (by omega) (by omega)).mp q)
      rw [hnz, Bool.true_and]
      unfold hf_alk
      rcases fl (nI li) with a1 | ⟨i, i1, a1⟩
      · rw [a1]; rfl
      · rcases fl (nI li - 1) with a2 | ⟨i2, i3, a2⟩
        · rw [a2]
          simp
        · rw [a1, a2]
          simp only [nI_clamp (show i < 2 ^ 31 by omega), nI_clamp (show i2 < 2 ^ 31 by omega), lt i i1, lt i2 i3]
  · rw [(m6 li hli).1]
    exact hf_ech_congr fun j hjc => by
      obtain ⟨i, -, e1, e2, q, -, e3, e4⟩ := hj j hjc
      exact ⟨by rw [e3, e4], by rw [e1, e2]⟩
  · obtain ⟨i, -, e1, e2, -⟩ := hj j hjc
    rw [e1, e2]
def hl_c (cls : List gr_c1) (hairs w : Int32) (cnt li : Nat) (al ec : Bool) (sz dy md : Int32) : Int32 := if cnt = 0 then 0 else jd_ct cls (jf_l (nI li) (hairs - w) (nI cnt) (hf_b al) (hf_b ec) sz dy md) (hairs - w) al
section LINE
variable {X : hf_X} {d kk nn t : Nat} {T : hf_T} {I : hf_I} {L : hf_L} {P : hf_P} {Q : Option Value → hf_M → Prop} {cls : List gr_c1}
theorem cs_hlc {li c : Nat} (hs : hf_Lay t T P) (hlw : lw_c t T I P cls) (hc : c ≤ 12) (hn : I 114 2 = nI c) (hw : ∀ j, j < c → ∃ i, i < 16 ∧ I 115 j = nI i ∧ hf_wok (I 109 i) (fun q => I 110 (9 * i + q))) (hli : li < 4) (h : ∀ I', jc_fr I I' → Q (some (.int (hl_c cls (I 101 12) (hl_w (I 102) (I 109) (I 110) (I 115) (I 116) (I 101 14) (nI li) c) (hf_cnt (I 116) (nI li) c) li (hl_a (I 110) (I 115) (I 116) (nI li) c) (hf_ech (I 115) (I 116) (nI li) (I 113 li) c) (I 101 14) (I 104 0) (I 104 1)))) (t, T, I', L, P)) : hf_G X Y_X4_headLineCost (d + 4) kk nn 0 (hf_en [.ref 135, .int (nI li)] 4) [] (t, T, I, L, P) Q := by
  have cl := hf_cnt_le (I 116) (nI li) c
  have z : (nI (hf_cnt (I 116) (nI li) c) = 0) ↔ hf_cnt (I 116) (nI li) c = 0 := nI_eq (b := 0) (by omega) (by omega)
  refine w_X4_headLineCost_0 hs (sp_X3_manyIn hs hc hn (w_X4_headLineCost_11 hs ⟨fun g => ?_, fun g => ?_⟩))
  · rw [z] at g
    refine sp_X1_lineWidth (d := d + 1) hs hc hn hw (w_X4_headLineCost_33 hs (sp_X1_isAlike (d := d + 1) hs hc hn (fun j hj => by obtain ⟨i, a1, a2, -⟩ := hw j hj; exact ⟨i, a1, a2⟩) (w_X4_headLineCost_47 hs (sp_X1_isEcho hs hc hn hli (w_X4_headLineCost_55 hs (cs_costOf (d := d) hs hlw fun I1 f1 => w_X4_headLineCost_58 hs ?_))))))
    have := h I1 f1
    unfold hl_c at this
    rw [if_neg g] at this
    exact this
  · rw [z] at g
    have := h I jc_rf
    unfold hl_c at this
    rw [if_pos g] at this
    exact this
theorem ms_costIn {li c : Nat} (hs : hf_Lay t T P) (hlw : lw_m I cls) (hc : c ≤ 12) (hn : I 158 24 = nI c) (hw : ∀ j, j < c → ∃ i, i < 16 ∧ I 158 j = nI i ∧ hf_wok (I 158 (53 + 13 * i + 3)) (fun q => I 158 (53 + 13 * i + 4 + q))) (hli : li < 4) (h : ∀ I', jm_fr I I' → Q (some (.int (hl_c cls (I 158 313) (hl_wm (I 158) (nI li) c) (hf_cnt (fun j => I 158 (12 + j)) (nI li) c) li (hl_am (I 158) (nI li) c) (hf_ech (I 158) (fun j => I 158 (12 + j)) (nI li) (I 158 (275 + li)) c) (I 158 315) (I 158 311) (I 158 312)))) (t, T, I', L, P)) : hf_G X Y_X12_costIn (d + 610) kk nn 0 (hf_en [.ref 156, .int (nI li)] 2) [] (t, T, I, L, P) Q := by
  have cl := hf_cnt_le (fun j => I 158 (12 + j)) (nI li) c
  have z : (nI (hf_cnt (fun j => I 158 (12 + j)) (nI li) c) = 0) ↔ hf_cnt (fun j => I 158 (12 + j)) (nI li) c = 0 := nI_eq (b := 0) (by omega) (by omega)
  refine w_X12_costIn_0 hs (sp_X12_manyIn hs hc hn (w_X12_costIn_5 hs ⟨fun g => ?_, fun g => ?_⟩))
  · rw [z] at g
    refine sp_X12_broadIn (d := d + 607) hs hc hn hw (w_X12_costIn_27 hs (sp_X12_manyIn hs hc hn (w_X12_costIn_33 hs (sp_X12_alikeIn (d := d + 608) hs hc hn (fun j hj => by obtain ⟨i, a1, a2, -⟩ := hw j hj; exact ⟨i, a1, a2⟩) (w_X12_costIn_38 hs (sp_X12_echoIn hs hc hn hli (w_X12_costIn_43 hs (ms_costOf (d := d) hs hlw fun I1 f1 => w_X12_costIn_46 hs ?_))))))))
    have := h I1 f1
    unfold hl_c at this
    rw [if_neg g] at this
    exact this
  · rw [z] at g
    have := h I jm_rf
    unfold hl_c at this
    rw [if_pos g] at this
    exact this
end LINE
section LINEOPS
variable {CC : Int32 → Int32 → Int32 → Int32 → Int32 → Int32 → (Nat → Int32) → (Nat → Int32) → Int32 → (Nat → Int32) → (Nat → Int32) → (Nat → Int32) → (Nat → Int32) → (Nat → Int32) → (Nat → Int32) → (Nat → Int32) → (Nat → Nat → Int32) → hf_P → Int64 → Int64 → Int32 → Int32 → Prop}
variable {X : hf_X} {d N t : Nat} {T : hf_T} {I : hf_I} {L : hf_L} {P : hf_P}
/-- a call that tells something and leaves noise alone -/
theorem pair_q {Yc Ym : hf_Y} {as : List Value} {D : Nat} (h : hf_Sim hf_SL CC N t T I L P) (v : Int32) (hc : ∀ Q : Option Value → hf_M → Prop, (∀ I', jc_fr I I' → Q (some (.int v)) (t, T, I', L, P)) → hf_G X Yc D 0 0 0 (hf_en (.ref 100 :: as) Yc.2.2.1) [] (t, T, I, L, P) Q) (hm : ∀ (I1 : hf_I) (Q : Option Value → hf_M → Prop), hf_nz I I1 → (∀ I', jm_fr I1 I' → Q (some (.int v)) (t, T, I', L, P)) → hf_G X Ym D 0 0 0 (hf_en (.ref 156 :: as) Ym.2.2.1) [] (t, T, I1, L, P) Q) : hf_Pair X Yc Ym as D 0 0 (t, T, I, L, P) (hf_SimM hf_SL CC (N + 1)) := by
  refine hc _ fun I1 f1 => ⟨v, rfl, hm I1 _ (nz_c f1) fun I2 f2 => ⟨rfl, ?_⟩⟩
  exact nz_sim (nz_tr (nz_c f1) (nz_m f2)) (sim_same h)
set_option maxHeartbeats 1000000 in
theorem op_line {a b : Int32} (h : hf_Sim hf_SL CC N t T I L P) : hf_Pair X Y_X11_line Y_X12_line [.int a, .int b] (d + 611) 0 0 (t, T, I, L, P) (hf_SimM hf_SL CC (N + 1)) := by
  have hs := h.1
  obtain ⟨cls, hlc, hlm⟩ := sim_law h
  obtain ⟨c, c12, hc, hm, hwc, hwm, ecnt, ew, ea, ee, e5⟩ := sim_hd h.2.1
  have t3 := h.2.1.2.2.1
  obtain ⟨q1, q2, q3, q4, q5⟩ := t3
  by_cases c1 : a < 0
  · exact pair_q h (-1) (fun Q hQ => w_X11_line_0 hs ⟨fun _ => hQ I jc_rf, fun q => absurd c1 q⟩) (fun I1 Q hn hQ => w_X12_line_0 hs ⟨fun _ => hQ I1 jm_rf, fun q => absurd c1 q⟩)
  by_cases c2 : 3 < a
  · exact pair_q h (-1) (fun Q hQ => w_X11_line_0 hs ⟨fun q => absurd q c1, fun _ => ⟨fun _ => hQ I jc_rf, fun q => absurd c2 q⟩⟩) (fun I1 Q hn hQ => w_X12_line_0 hs ⟨fun q => absurd q c1, fun _ => ⟨fun _ => hQ I1 jm_rf, fun q => absurd c2 q⟩⟩)
  obtain ⟨li, hli, rfl⟩ := hf_rng (M := 3) (b := 3) (by decide) c1 c2
  have hli4 : li < 4 := by omega
  -- the answers
  let v : Int32 := if b = 0 then hl_w (I 102) (I 109) (I 110) (I 115) (I 116) (I 101 14) (nI li) c else if b = 1 then nI (hf_cnt (I 116) (nI li) c) else if b = 2 then hl_c cls (I 101 12) (hl_w (I 102) (I 109) (I 110) (I 115) (I 116) (I 101 14) (nI li) c) (hf_cnt (I 116) (nI li) c) li (hl_a (I 110) (I 115) (I 116) (nI li) c) (hf_ech (I 115) (I 116) (nI li) (I 113 li) c) (I 101 14) (I 104 0) (I 104 1) else if b = 3 then hf_b (hl_a (I 110) (I 115) (I 116) (nI li) c) else if b = 4 then hf_b (hf_ech (I 115) (I 116) (nI li) (I 113 li) c) else -1
  have hb : ∀ {Q : Int32 → Prop} {bb : Bool}, Q (hf_b bb) → (hf_b bb = 0 → Q 0) ∧ (¬ hf_b bb = 0 → Q 1) := fun {Q bb} hq => by
    cases bb with
    | true => exact ⟨fun g => absurd g (by decide), fun _ => hq⟩
    | false => exact ⟨fun _ => hq, fun g => absurd rfl g⟩
  have vout : b.toInt < 0 ∨ 4 < b.toInt → v = -1 := fun q => by
    have n0 : ¬ b = 0 := fun z => by rw [z] at q; exact absurd q (by decide)
    have n1 : ¬ b = 1 := fun z => by rw [z] at q; exact absurd q (by decide)
    have n2 : ¬ b = 2 := fun z => by rw [z] at q; exact absurd q (by decide)
    have n3 : ¬ b = 3 := fun z => by rw [z] at q; exact absurd q (by decide)
    have n4 : ¬ b = 4 := fun z => by rw [z] at q; exact absurd q (by decide)
    show (if b = 0 then _ else _) = _
    rw [if_neg n0, if_neg n1, if_neg n2, if_neg n3, if_neg n4]
  refine pair_q h v (fun Q hQ => ?_) (fun I1 Q hn hQ => ?_)
  · refine w_X11_line_0 (d := d + 610) hs ⟨fun q => absurd q c1, fun _ => ⟨fun q => absurd q c2, fun _ => ⟨fun q => ?_, fun q => ?_, fun q => ?_, fun q => ?_, fun q => ?_, fun q => ?_⟩⟩⟩
    · refine sp_X1_lineWidth (d := d + 608) hs c12 hc hwc (w_X11_line_56 hs ?_)
      have := hQ I jc_rf
      rw [show v = _ from if_pos q] at this
      exact this
    · refine sp_X3_manyIn hs c12 hc (w_X11_line_68 hs ?_)
      have := hQ I jc_rf
      subst q
      exact this
    · refine cs_hlc (d := d + 606) hs hlc c12 hc hwc hli4 fun I2 f2 => w_X11_line_77 hs ?_
      have := hQ I2 f2
      subst q
      exact this
    · refine sp_X1_isAlike (d := d + 608) hs c12 hc (fun j hj => by obtain ⟨i, a1, a2, -⟩ := hwc j hj; exact ⟨i, a1, a2⟩) (w_X11_line_86 hs ?_)
      have := hQ I jc_rf
      subst q
      exact hb (Q := fun x => Q (some (.int x)) (t, T, I, L, P)) (bb := hl_a (I 110) (I 115) (I 116) (nI li) c) this
    · refine sp_X1_isEcho hs c12 hc hli4 (w_X11_line_103 hs ?_)
      have := hQ I jc_rf
      subst q
      exact hb (Q := fun x => Q (some (.int x)) (t, T, I, L, P)) (bb := hf_ech (I 115) (I 116) (nI li) (I 113 li) c) this
    · have := hQ I jc_rf
      rw [vout q] at this
      exact this
  · have e158 : I1 158 = I 158 := hn.1 158 (by omega) (by omega) (by omega) (by omega) (by omega)
    have hm1 : I1 158 24 = nI c := by rw [e158]; exact hm
    have hwm1 : ∀ j, j < c → ∃ i, i < 16 ∧ I1 158 j = nI i ∧ hf_wok (I1 158 (53 + 13 * i + 3)) (fun q => I1 158 (53 + 13 * i + 4 + q)) := by rw [e158]; exact hwm
    refine w_X12_line_0 (d := d + 610) hs ⟨fun q => absurd q c1, fun _ => ⟨fun q => absurd q c2, fun _ => ⟨fun q => ?_, fun q => ?_, fun q => ?_, fun q => ?_, fun q => ?_, fun q => ?_⟩⟩⟩
    · refine sp_X12_broadIn (d := d + 608) hs c12 hm1 hwm1 (w_X12_line_53 hs ?_)
      have := hQ I1 jm_rf
      subst q
      rw [show v = _ from ew (nI li), ← e158] at this
      exact this
    · refine sp_X12_manyIn hs c12 hm1 (w_X12_line_59 hs ?_)
      have := hQ I1 jm_rf
      subst q
      rw [show v = nI (hf_cnt (I 116) (nI li) c) from rfl, ecnt, ← e158] at this
      exact this
    · refine ms_costIn (d := d) hs (lw_m_fr hlm e158) c12 hm1 hwm1 hli4 fun I2 f2 => w_X12_line_65 hs ?_
      have := hQ I2 f2
      subst q
      rw [show v = hl_c cls (I 101 12) (hl_w (I 102) (I 109) (I 110) (I 115) (I 116) (I 101 14) (nI li) c) (hf_cnt (I 116) (nI li) c) li (hl_a (I 110) (I 115) (I 116) (nI li) c) (hf_ech (I 115) (I 116) (nI li) (I 113 li) c) (I 101 14) (I 104 0) (I 104 1) from rfl, ew, ecnt, ea li hli4, ee li hli4, q1.1, q2.1, q3.1, q5.1, ← e158] at this
      exact this
    · refine sp_X12_alikeIn (d := d + 609) hs c12 hm1 (fun j hj => by obtain ⟨i, a1, a2, -⟩ := hwm1 j hj; exact ⟨i, a1, a2⟩) (w_X12_line_71 hs ?_)
      have := hQ I1 jm_rf
      subst q
      rw [show v = hf_b (hl_a (I 110) (I 115) (I 116) (nI li) c) from rfl, ea li hli4, ← e158] at this
      exact this
    · refine sp_X12_echoIn hs c12 hm1 hli4 (w_X12_line_77 hs ?_)
      have := hQ I1 jm_rf
      subst q
      rw [show v = hf_b (hf_ech (I 115) (I 116) (nI li) (I 113 li) c) from rfl, ee li hli4, ← e158] at this
      exact this
    · have := hQ I1 jm_rf
      rw [vout q] at this
      exact this
/-- sums, from the first on -/
def hf_sg (f : Nat → Int32) : Nat → Int32
  | 0 => 0
  | n + 1 => hf_sg f n + f n
theorem hf_sg_cg {f g : Nat → Int32} : ∀ {n : Nat}, (∀ j, j < n → f j = g j) → hf_sg f n = hf_sg g n := by
  intro n
  induction n with
  | zero => intro _; rfl
  | succ n ih => intro h; rw [hf_sg, hf_sg, ih (fun j hj => h j (by omega)), h n (by omega)]
set_option maxHeartbeats 1000000 in
theorem op_cost (h : hf_Sim hf_SL CC N t T I L P) : hf_Pair X Y_X11_cost Y_X12_cost [] (d + 611) 0 0 (t, T, I, L, P) (hf_SimM hf_SL CC (N + 1)) := by
  have hs := h.1
  obtain ⟨cls, hlc, hlm⟩ := sim_law h
  obtain ⟨c, c12, hc, hm, hwc, hwm, ecnt, ew, ea, ee, e5⟩ := sim_hd h.2.1
  obtain ⟨m1, m2, ⟨q1, q2, q3, q4, q5⟩, ⟨w, g1, g2, g3, g4, g5⟩, m5, m6, m7, m8, m9, m10⟩ := h.2.1
  obtain ⟨c', ln, h1, h2, h3, h4, h5', h6, h7⟩ := m7
  have ecc : c' = c := (nI_eq (by omega) (by omega)).mp (h3.symm.trans hc)
  subst ecc
  have wi : ∀ j, j < c' → ∃ i, i < w ∧ I 115 j = nI i ∧ I 158 j = nI i := fun j hj => by
    obtain ⟨⟨a1, a2, a3⟩, -⟩ := h7 j hj
    obtain ⟨i, hi, e⟩ := nI_of (Int32.not_lt.mpr a2)
    refine ⟨i, ?_, e, a1.symm.trans e⟩
    rw [e, g2] at a3
    exact (nI_ltI hi (by omega)).mp a3
  -- what one WORD loses, what one LINE costs
  let fl : Nat → Int32 := fun j => jd_ls cls (jf_w (I 115 j) (I 106 (I 115 j).toNatClampNeg) (I 107 (I 115 j).toNatClampNeg) (I 108 (I 115 j).toNatClampNeg) (I 109 (I 115 j).toNatClampNeg) (I 101 14) (I 104 0) (I 104 1)) (I 107 (I 115 j).toNatClampNeg)
  let fc : Nat → Int32 := fun li => hl_c cls (I 101 12) (hl_w (I 102) (I 109) (I 110) (I 115) (I 116) (I 101 14) (nI li) c') (hf_cnt (I 116) (nI li) c') li (hl_a (I 110) (I 115) (I 116) (nI li) c') (hf_ech (I 115) (I 116) (nI li) (I 113 li) c') (I 101 14) (I 104 0) (I 104 1)
  have add4 : ∀ (s : Int32) (n : Nat), s + hf_sg fc n + fc n = s + hf_sg fc (n + 1) := fun s n => by rw [hf_sg, Int32.add_assoc]
  refine pair_q h (hf_sg fl c' + hf_sg fc 4) (fun Q hQ => ?_) (fun I1 Q hn hQ => ?_)
  · have lines : ∀ f n I', n + f = 4 → jc_fr I I' → hf_G X Y_X11_cost (d + 611) 0 0 55 [some (.ref 100), some (.int (hf_sg fl c' + hf_sg fc n)), some (.int (nI n))] [] (t, T, I', L, P) Q := by
      intro f
      induction f with
      | zero =>
        intro n I' hn hf
        obtain rfl : n = 4 := by omega
        exact w_X11_cost_55 hs ⟨fun _ => hQ I' hf, fun g => absurd (by decide) g⟩
      | succ f ih =>
        intro n I' hn hf
        have e : ∀ a, ¬ a = 132 → ¬ a = 133 → ¬ a = 134 → I' a = I a := hf
        refine w_X11_cost_55 hs ⟨fun g => absurd g (nI_ge (b := 4) (by omega) (by omega)), fun _ => cs_hlc (d := d + 606) hs (lw_c_fr hlc hf) c12 (by rw [e 114 (by omega) (by omega) (by omega)]; exact hc) (by rw [e 115 (by omega) (by omega) (by omega), e 109 (by omega) (by omega) (by omega), e 110 (by omega) (by omega) (by omega)]; exact hwc) (show n < 4 by omega) fun I2 f2 => w_X11_cost_69 hs ?_⟩
        rw [e 101 (by omega) (by omega) (by omega), e 102 (by omega) (by omega) (by omega), e 104 (by omega) (by omega) (by omega), e 109 (by omega) (by omega) (by omega), e 110 (by omega) (by omega) (by omega), e 113 (by omega) (by omega) (by omega), e 115 (by omega) (by omega) (by omega), e 116 (by omega) (by omega) (by omega), nI_1]
        have := ih (n + 1) I2 (by omega) (jc_tr hf f2)
        rw [← add4] at this
        exact this
    have words : ∀ f n I', n + f = c' → jc_fr I I' → hf_G X Y_X11_cost (d + 611) 0 0 4 [some (.ref 100), some (.int (hf_sg fl n)), some (.int (nI n))] [] (t, T, I', L, P) Q := by
      intro f
      induction f with
      | zero =>
        intro n I' hn hf
        obtain rfl : n = c' := by omega
        refine w_X11_cost_4 hs ⟨fun _ => ?_, fun g => absurd (by rw [hf 114 (by omega) (by omega) (by omega), hc]; exact nI_le (Nat.le_refl _) (by omega)) g⟩
        have := lines 4 0 I' (by omega) hf
        rw [show hf_sg fc 0 = 0 from rfl, Int32.add_zero] at this
        exact this
      | succ f ih =>
        intro n I' hn hf
        have e : ∀ a, ¬ a = 132 → ¬ a = 133 → ¬ a = 134 → I' a = I a := hf
        obtain ⟨i, i1, i2, i3⟩ := wi n (by omega)
        refine w_X11_cost_4 hs ⟨fun g => absurd g (by rw [e 114 (by omega) (by omega) (by omega), hc]; exact nI_ge (by omega) (by omega)), fun _ => ⟨vp_in_nI (by omega) (by omega), ?_⟩⟩
        rw [nI_clamp (show n < 2 ^ 31 by omega), e 115 (by omega) (by omega) (by omega), i2]
        refine cs_lossOf (d := d + 607) hs (lw_c_fr hlc hf) (by omega) fun I2 f2 => w_X11_cost_45 hs ?_
        rw [e 106 (by omega) (by omega) (by omega), e 107 (by omega) (by omega) (by omega), e 108 (by omega) (by omega) (by omega), e 109 (by omega) (by omega) (by omega), e 101 (by omega) (by omega) (by omega), e 104 (by omega) (by omega) (by omega), nI_1]
        have := ih (n + 1) I2 (by omega) (jc_tr hf f2)
        rw [hf_sg, show fl n = jd_ls cls (jf_w (nI i) (I 106 i) (I 107 i) (I 108 i) (I 109 i) (I 101 14) (I 104 0) (I 104 1)) (I 107 i) from by show jd_ls _ _ _ = _; rw [i2, nI_clamp (by omega)]] at this
        exact this
    exact w_X11_cost_0 hs (words c' 0 I (by omega) jc_rf)
  · have e158 : I1 158 = I 158 := hn.1 158 (by omega) (by omega) (by omega) (by omega) (by omega)
    have k158 : ∀ {I' : hf_I}, jm_fr I1 I' → I' 158 = I 158 := fun hf => (hf.1 158 (by omega) (by omega)).trans e158
    have lines : ∀ f n I', n + f = 4 → jm_fr I1 I' → hf_G X Y_X12_cost (d + 611) 0 0 38 [some (.ref 156), some (.int (hf_sg fl c' + hf_sg fc n)), some (.int (nI n))] [] (t, T, I', L, P) Q := by
      intro f
      induction f with
      | zero =>
        intro n I' hn hf
        obtain rfl : n = 4 := by omega
        exact w_X12_cost_38 hs ⟨fun _ => hQ I' hf, fun g => absurd (by decide) g⟩
      | succ f ih =>
        intro n I' hn hf
        refine w_X12_cost_38 hs ⟨fun g => absurd g (nI_ge (b := 4) (by omega) (by omega)), fun _ => ms_costIn (d := d) hs (lw_m_fr hlm (k158 hf)) c12 (by rw [k158 hf]; exact hm) (by rw [k158 hf]; exact hwm) (show n < 4 by omega) fun I2 f2 => w_X12_cost_49 hs ?_⟩
        have := ih (n + 1) I2 (by omega) (jm_tr hf f2)
        have efc : fc n = hl_c cls (I 158 313) (hl_wm (I 158) (nI n) c') (hf_cnt (fun j => I 158 (12 + j)) (nI n) c') n (hl_am (I 158) (nI n) c') (hf_ech (I 158) (fun j => I 158 (12 + j)) (nI n) (I 158 (275 + n)) c') (I 158 315) (I 158 311) (I 158 312) := by
          show hl_c cls (I 101 12) (hl_w (I 102) (I 109) (I 110) (I 115) (I 116) (I 101 14) (nI n) c') (hf_cnt (I 116) (nI n) c') n (hl_a (I 110) (I 115) (I 116) (nI n) c') (hf_ech (I 115) (I 116) (nI n) (I 113 n) c') (I 101 14) (I 104 0) (I 104 1) = _
          rw [ew, ecnt, ea n (by omega), ee n (by omega), q1.1, q2.1, q3.1, q5.1]
        rw [← add4, efc, ← k158 hf] at this
        rw [nI_1]
        exact this
    have words : ∀ f n I', n + f = c' → jm_fr I1 I' → hf_G X Y_X12_cost (d + 611) 0 0 4 [some (.ref 156), some (.int (hf_sg fl n)), some (.int (nI n))] [] (t, T, I', L, P) Q := by
      intro f
      induction f with
      | zero =>
        intro n I' hn hf
        obtain rfl : n = c' := by omega
        refine w_X12_cost_4 hs ⟨fun _ => ?_, fun g => absurd (by rw [k158 hf, hm]; exact nI_le (Nat.le_refl _) (by omega)) g⟩
        have := lines 4 0 I' (by omega) hf
        rw [show hf_sg fc 0 = 0 from rfl, Int32.add_zero] at this
        exact this
      | succ f ih =>
        intro n I' hn hf
        obtain ⟨i, i1, i2, i3⟩ := wi n (by omega)
        obtain ⟨o1, o2, b0, b1, b2, b3, b4, b5⟩ := S_w1_ok (g4 i i1)
        refine w_X12_cost_4 hs ⟨fun g => absurd g (by rw [k158 hf, hm]; exact nI_ge (by omega) (by omega)), fun _ => ?_⟩
        rw [hf_i0, nI_clamp (show n < 2 ^ 31 by omega), k158 hf, i3]
        refine ⟨vp_in_nI (by omega) (by omega), ms_losesOf (d := d + 1) hs (lw_m_fr hlm (k158 hf)) (by omega) fun I2 f2 => w_X12_cost_28 hs ?_⟩
        have := ih (n + 1) I2 (by omega) (jm_tr hf f2)
        have b0' : I 106 i = I 158 (53 + 13 * i) := b0
        rw [hf_sg, show fl n = jd_ls cls (jf_w (nI i) (I 106 i) (I 107 i) (I 108 i) (I 109 i) (I 101 14) (I 104 0) (I 104 1)) (I 107 i) from by show jd_ls _ _ _ = _; rw [i2, nI_clamp (by omega)], b0', show I 107 i = I 158 (53 + 13 * i + 1) from b1, show I 108 i = I 158 (53 + 13 * i + 2) from b2, show I 109 i = I 158 (53 + 13 * i + 3) from b3, q5.1, q1.1, q2.1] at this
        rw [nI_1, k158 hf]
        exact this
    exact w_X12_cost_0 hs (words c' 0 I1 (by omega) jm_rf)
end LINEOPS
