/-! what was found is right: given concretely -/
def cc_bd (cls : List gr_c1) (sz : Int32) (dm se lo tr le : Nat → Int32) (i : Nat) : Bool := jd_br cls (jf_w (nI i) (se i) (lo i) (tr i) (le i) sz (dm 0) (dm 1))
def cc_li (cls : List gr_c1) (sz : Int32) (dm : Nat → Int32) (w : Nat) (se lo tr le sy : Nat → Int32) (j : Nat) : List Nat := pr_c (fun i => !(cc_bd cls sz dm se lo tr le i) && decide (sy j = se i)) w
def cc_wn (br : Nat → Int32) (sz : Int32) (le lt : Nat → Int32) (i : Nat) : Nat := min 360 (hf_wd br sz (le i) (fun q => lt (9 * i + q))).toNatClampNeg
def cc_ls (cls : List gr_c1) (sz : Int32) (dm se lo tr le : Nat → Int32) (i : Nat) : Int32 := jd_ls cls (jf_w (nI i) (se i) (lo i) (tr i) (le i) sz (dm 0) (dm 1)) (lo i)
def cc_G (cls : List gr_c1) (hairs lines sz : Int32) (br dm : Nat → Int32) (w : Nat) (se lo tr le lt sy nx : Nat → Int32) : fz_X := fz_G cls lines.toNatClampNeg (hf_bl br sz).toNatClampNeg hairs.toNatClampNeg sz (dm 0) (dm 1) (fun j => (cc_li cls sz dm w se lo tr le sy j).length) (fun j k => (cc_li cls sz dm w se lo tr le sy j).getD k 0) (cc_wn br sz le lt) (cc_ls cls sz dm se lo tr le) (fun a => lt (9 * a)) nx
def cc_tr (tr : Nat → Int32) (i : Nat) : Nat := min 10 (tr i).toNatClampNeg
def cc_R (G : fz_X) (p : Nat) (tr : Nat → Nat) (best row : Int64) (ways truth : Int32) : Prop := ((p = 0 ∨ ∃ j, j < p ∧ glen G j = 0) → ways = 0 ∧ truth = -1) ∧ (1 ≤ p → (∀ j, j < p → 1 ≤ glen G j) → ways = nI (fz_S (fun k => fz_T G (p - 1) 0 0 k false) (glen G 0)).1 ∧ best = fz_l (fz_S (fun k => fz_T G (p - 1) 0 0 k false) (glen G 0)).2 ∧ sv_t G tr p truth row)
def hf_CC (a b c d e f : Int32) (g h : Nat → Int32) (W5 : Int32) (i1 i2 i3 i4 l k1 k2 : Nat → Int32) (J : Nat → Nat → Int32) (P : hf_P) (x y : Int64) (u v : Int32) : Prop :=
  ∃ (lt0 : Nat → Int32) (cls : List gr_c1), (∀ j, j < 9 * W5.toNatClampNeg → lt0 j = l j) ∧ (∃ (t : Nat) (T : hf_T) (I' : hf_I), I' 101 15 = d ∧ I' 101 16 = e ∧ (fun a => I' (181 + a)) = J ∧ lw_c t T I' P cls) ∧ cc_R (cc_G cls a b c g h W5.toNatClampNeg i1 i2 i3 i4 lt0 k1 k2) f.toNatClampNeg (cc_tr i3) x y u v
theorem hf_CC_l : hf_CCl hf_CC := by
  intro a b c d e f g h w i1 i2 i3 i4 l l' k1 k2 J P x y u v hw hl hc
  obtain ⟨lt0, cls, c1, c2, c3⟩ := hc
  refine ⟨lt0, cls, fun j hj => ?_, c2, c3⟩
  rw [c1 j hj, hl j (by rw [nI_clamp (by omega)] at hj; exact hj)]
theorem cc_G_uq {cls cls' : List gr_c1} (h : ∀ f kd, lw_fo f kd none cls = lw_fo f kd none cls') {hairs lines sz : Int32} {br dm : Nat → Int32} {w : Nat} {se lo tr le lt sy nx : Nat → Int32} : cc_G cls hairs lines sz br dm w se lo tr le lt sy nx = cc_G cls' hairs lines sz br dm w se lo tr le lt sy nx := by
  have e1 : jd_br cls = jd_br cls' := funext fun f => by unfold jd_br; rw [h]
  have e2 : jd_ls cls = jd_ls cls' := funext fun f => funext fun lo => by unfold jd_ls; rw [h]
  have e3 : jd_ct cls = jd_ct cls' := funext fun f => funext fun wh => funext fun al => by unfold jd_ct; rw [h]
  unfold cc_G fz_G cc_li cc_bd cc_ls
  rw [e1, e2, e3]
/-- what is noise, when something was found anew -/
def hf_n3 (I J : hf_I) : Prop := (∀ a, (100 ≤ a ∧ a ≤ 123) ∨ (146 ≤ a ∧ a ≤ 149) ∨ a = 155 ∨ (157 ≤ a ∧ a ≤ 163) ∨ a = 169 ∨ 180 ≤ a → J a = I a) ∧ (∀ j, j = 0 ∨ j = 10 ∨ j = 11 ∨ j = 27 ∨ j = 41 ∨ j = 49 → J 156 j = I 156 j)
section N3
variable {SL : Nat → hf_T → hf_P → (Nat → Nat → Int32) → Int32 → (Nat → Int32) → (Nat → Int32) → (Nat → Int32) → Prop} {CC : Int32 → Int32 → Int32 → Int32 → Int32 → Int32 → (Nat → Int32) → (Nat → Int32) → Int32 → (Nat → Int32) → (Nat → Int32) → (Nat → Int32) → (Nat → Int32) → (Nat → Int32) → (Nat → Int32) → (Nat → Int32) → (Nat → Nat → Int32) → hf_P → Int64 → Int64 → Int32 → Int32 → Prop}
variable {N t : Nat} {T : hf_T} {I J : hf_I} {L L' : hf_L} {P : hf_P}
theorem n3_sim (hn : hf_n3 I J) (h : hf_Sim SL CC N t T I L P) (hct : S_ct N (I 100 16) (J 136 15)) (hcc : J 136 15 = I 100 16 → CC (I 101 12) (I 101 13) (I 101 14) (I 101 15) (I 101 16) (I 101 17) (I 102) (I 104) (I 105 5) (I 106) (I 107) (I 108) (I 109) (I 110) (I 112) (I 113) (fun a => I (181 + a)) P (L' 136 16) (L' 136 19) (J 136 17) (J 136 18)) : hf_Sim SL CC N t T J L' P := by
  obtain ⟨h1, h2, h3, h4, h5, h6⟩ := h
  have e := hn.1
  have eJ : (fun a => J (181 + a)) = fun a => I (181 + a) := funext fun a => e (181 + a) (by omega)
  refine ⟨h1, ?_, ?_, ?_, ?_, ?_⟩
  · unfold hf_SM
    rw [e 101 (by omega), e 102 (by omega), e 103 (by omega), e 104 (by omega), e 105 (by omega), e 106 (by omega), e 107 (by omega), e 108 (by omega), e 109 (by omega), e 110 (by omega), e 112 (by omega), e 113 (by omega), e 114 (by omega), e 115 (by omega), e 116 (by omega), e 117 (by omega), e 118 (by omega), e 119 (by omega), e 120 (by omega), e 158 (by omega)]
    exact h2
  · unfold hf_SO
    rw [e 105 (by omega), e 148 (by omega), e 149 (by omega), e 169 (by omega), e 100 (by omega), e 122 (by omega), e 123 (by omega), e 163 (by omega), e 155 (by omega), e 157 (by omega), e 146 (by omega), e 147 (by omega), e 180 (by omega), e 162 (by omega), hn.2 27 (by omega), hn.2 10 (by omega), hn.2 11 (by omega), hn.2 41 (by omega), hn.2 0 (by omega), hn.2 49 (by omega)]
    exact h3
  · rw [e 100 (by omega)]; exact hct
  · rw [e 100 (by omega), e 101 (by omega), e 102 (by omega), e 104 (by omega), e 105 (by omega), e 106 (by omega), e 107 (by omega), e 108 (by omega), e 109 (by omega), e 110 (by omega), e 112 (by omega), e 113 (by omega), eJ]; exact hcc
  · rw [eJ, e 101 (by omega), e 158 (by omega), e 159 (by omega), e 160 (by omega)]; exact h6
end N3
section SOLVE
variable {X : hf_X} {d N t : Nat} {T : hf_T} {I : hf_I} {L : hf_L} {P : hf_P}
/-- the options, out of related cells -/
theorem cc_facts {SL : Nat → hf_T → hf_P → (Nat → Nat → Int32) → Int32 → (Nat → Int32) → (Nat → Int32) → (Nat → Int32) → Prop} {CC : Int32 → Int32 → Int32 → Int32 → Int32 → Int32 → (Nat → Int32) → (Nat → Int32) → Int32 → (Nat → Int32) → (Nat → Int32) → (Nat → Int32) → (Nat → Int32) → (Nat → Int32) → (Nat → Int32) → (Nat → Int32) → (Nat → Nat → Int32) → hf_P → Int64 → Int64 → Int32 → Int32 → Prop} {lt0 : Nat → Int32} (h : hf_Sim SL CC N t T I L P) (cls : List gr_c1) {w p : Nat} (h5 : I 105 5 = nI w) (hw : w ≤ 16) (h17 : I 101 17 = nI p) (hp : p ≤ 6) (hlt : ∀ j, j < 9 * w → lt0 j = I 110 j) :
    ∃ (LN hr bl : Nat), (1 ≤ LN ∧ LN ≤ 4 ∧ bl ≤ 40 ∧ hr ≤ 400) ∧ I 101 13 = nI LN ∧ I 101 12 = nI hr ∧ hf_bl (I 102) (I 101 14) = nI bl ∧ gLN (cc_G cls (I 101 12) (I 101 13) (I 101 14) (I 102) (I 104) w (I 106) (I 107) (I 108) (I 109) lt0 (I 112) (I 113)) = LN ∧ ghr (cc_G cls (I 101 12) (I 101 13) (I 101 14) (I 102) (I 104) w (I 106) (I 107) (I 108) (I 109) lt0 (I 112) (I 113)) = hr ∧ gbl (cc_G cls (I 101 12) (I 101 13) (I 101 14) (I 102) (I 104) w (I 106) (I 107) (I 108) (I 109) lt0 (I 112) (I 113)) = bl ∧
    (∀ j, (cc_li cls (I 101 14) (I 104) w (I 106) (I 107) (I 108) (I 109) (I 112) j).length ≤ 3) ∧ (∀ j k, k < (cc_li cls (I 101 14) (I 104) w (I 106) (I 107) (I 108) (I 109) (I 112) j).length → (cc_li cls (I 101 14) (I 104) w (I 106) (I 107) (I 108) (I 109) (I 112) j).getD k 0 < w ∧ cc_bd cls (I 101 14) (I 104) (I 106) (I 107) (I 108) (I 109) ((cc_li cls (I 101 14) (I 104) w (I 106) (I 107) (I 108) (I 109) (I 112) j).getD k 0) = false) ∧
    (∀ i, i < w → hf_wd (I 102) (I 101 14) (I 109 i) (fun q => I 110 (9 * i + q)) = nI (cc_wn (I 102) (I 101 14) (I 109) lt0 i)) ∧ (∀ i, i < w → cc_ls cls (I 101 14) (I 104) (I 106) (I 107) (I 108) (I 109) i = nI (fz_cst (cc_ls cls (I 101 14) (I 104) (I 106) (I 107) (I 108) (I 109) i))) ∧ (∀ i, i < w → I 108 i = nI (cc_tr (I 108) i)) ∧ ((∀ j, j < p → 1 ≤ (cc_li cls (I 101 14) (I 104) w (I 106) (I 107) (I 108) (I 109) (I 112) j).length) → fz_ok (cc_G cls (I 101 12) (I 101 13) (I 101 14) (I 102) (I 104) w (I 106) (I 107) (I 108) (I 109) lt0 (I 112) (I 113)) p) := by
  obtain ⟨m1, m2, ⟨t1, t2, t3, t4, t5⟩, ⟨w', w1, w2, w3, w4, w5⟩, m5, m6, m7, m8, m9, m10⟩ := h.2.1
  obtain rfl : w' = w := (nI_eq (by omega) (by omega)).mp (w2.symm.trans h5)
  obtain ⟨LN, a1, a2, a3⟩ := bd_rng (a := 1) (b := 4) (by decide) (by decide) t4.2.1 t4.2.2
  obtain ⟨hr, b1, b2, b3⟩ := bd_rng (a := 10) (b := 400) (by decide) (by decide) t3.2.1 t3.2.2
  obtain ⟨bl, c1, c2, c3⟩ := bd_lw (br := I 102) (sz := I 101 14) (m1 26 (by omega)).2 t5.2
  have gl : gLN (cc_G cls (I 101 12) (I 101 13) (I 101 14) (I 102) (I 104) w' (I 106) (I 107) (I 108) (I 109) lt0 (I 112) (I 113)) = LN := by
    show (I 101 13).toNatClampNeg = LN
    rw [a3, nI_clamp (by omega)]
  have gh : ghr (cc_G cls (I 101 12) (I 101 13) (I 101 14) (I 102) (I 104) w' (I 106) (I 107) (I 108) (I 109) lt0 (I 112) (I 113)) = hr := by
    show (I 101 12).toNatClampNeg = hr
    rw [b3, nI_clamp (by omega)]
  have gb : gbl (cc_G cls (I 101 12) (I 101 13) (I 101 14) (I 102) (I 104) w' (I 106) (I 107) (I 108) (I 109) lt0 (I 112) (I 113)) = bl := by
    show (hf_bl (I 102) (I 101 14)).toNatClampNeg = bl
    rw [show hf_bl (I 102) (I 101 14) = nI bl from c3, nI_clamp (by omega)]
  have len3 : ∀ j, (cc_li cls (I 101 14) (I 104) w' (I 106) (I 107) (I 108) (I 109) (I 112) j).length ≤ 3 := fun j => Nat.le_trans (pr_c_cnt (se := I 106) (s := I 112 j) (fun i hi => by
    rw [Bool.and_eq_true, decide_eq_true_eq] at hi
    exact hi.2.symm) w') (w5.1 (I 112 j))
  have opt : ∀ j k, k < (cc_li cls (I 101 14) (I 104) w' (I 106) (I 107) (I 108) (I 109) (I 112) j).length → (cc_li cls (I 101 14) (I 104) w' (I 106) (I 107) (I 108) (I 109) (I 112) j).getD k 0 < w' ∧ cc_bd cls (I 101 14) (I 104) (I 106) (I 107) (I 108) (I 109) ((cc_li cls (I 101 14) (I 104) w' (I 106) (I 107) (I 108) (I 109) (I 112) j).getD k 0) = false := by
    intro j k hk
    have hm := pr_c_mem.mp (pr_gm hk)
    refine ⟨hm.1, ?_⟩
    have := hm.2
    rw [Bool.and_eq_true, Bool.not_eq_true'] at this
    exact this.1
  refine ⟨LN, hr, bl, ⟨a1, a2, c2, b2⟩, a3, b3, c3, gl, gh, gb, len3, opt, fun i hi => ?_, fun i hi => ?_, fun i hi => ?_, fun hrow => ⟨⟨by rw [gl]; exact a1, by rw [gl]; exact a2, by rw [gb]; exact c2, by rw [gh]; exact b2⟩, fun j hj => ⟨hrow j hj, len3 j⟩, fun j k hj hk => by have := (opt j k hk).1; exact Nat.lt_of_lt_of_le this hw, fun x => Nat.min_le_left _ _, fun x => fz_cst_le _, fun _ _ _ _ _ => fz_cst_le _⟩⟩
  · obtain ⟨o1, -⟩ := S_w1_ok (w4 i hi)
    obtain ⟨q, q1, q2⟩ := bd_wd (br := I 102) (sz := I 101 14) (fun j hj => (m1 j hj).2) t5.2 o1
    have e : hf_wd (I 102) (I 101 14) (I 109 i) (fun q => lt0 (9 * i + q)) = hf_wd (I 102) (I 101 14) (I 109 i) (fun q => I 110 (9 * i + q)) := by
      obtain ⟨m, o2, o3, o4⟩ := o1
      unfold hf_wd
      refine hf_ww_congr (fun q hq => ?_) (fun _ _ => rfl)
      rw [o3, nI_clamp (by omega)] at hq
      have ee : lt0 (9 * i + q) = I 110 (9 * i + q) := hlt _ (by omega)
      exact ⟨ee, by rw [ee]; exact o4 q hq⟩
    unfold cc_wn
    rw [e, q2, nI_clamp (by omega), Nat.min_eq_right q1]
  · obtain ⟨-, l1, -⟩ := w4 i hi
    obtain ⟨n, n1, n2⟩ := jd_ls_rg (cls := cls) (f := jf_w (nI i) (I 106 i) (I 107 i) (I 108 i) (I 109 i) (I 101 14) (I 104 0) (I 104 1)) l1.2.1 l1.2.2
    unfold cc_ls
    rw [n2, fz_cst_nI n1]
  · obtain ⟨-, -, l1, -⟩ := w4 i hi
    obtain ⟨q, -, q1, q2⟩ := bd_rng (a := 0) (b := 10) (by decide) (by decide) l1.2.1 l1.2.2
    unfold cc_tr
    rw [q2, nI_clamp (by omega), Nat.min_eq_right q1]
set_option maxHeartbeats 2000000 in
theorem cs_solve {kk nn : Nat} {Q : Option Value → hf_M → Prop} (h : hf_Sim hf_SL hf_CC N t T I L P) (hQ : ∀ J L', hf_n3 I J → hf_Sim hf_SL hf_CC N t T J L' P → J 136 15 = J 100 16 → Q none (t, T, J, L', P)) :
    hf_G X Y_X8_solve (d + 12) kk nn 0 (hf_en [.ref 136, .int (I 100 16)] 4) [] (t, T, I, L, P) Q := by
  have hs := h.1
  obtain ⟨cls, hc, -⟩ := sim_law h
  obtain ⟨m1, m2, m3, ⟨w, w1, w2, w3, w4, w5⟩, ⟨p, p1, p2, p3, p4⟩, m6, m7, m8, m9, m10⟩ := h.2.1
  obtain ⟨LN, hr, bl, ⟨r1, r2, r3, r4⟩, r5, r6, r7, gl, gh, gb, len3, opt, wn, lsn, trn, gok⟩ := cc_facts (lt0 := I 110) h cls w2 w1 p2 p1 (fun _ _ => rfl)
  refine w_X8_solve_0 (d := d + 11) hs ⟨fun q => ?_, fun q => hQ I L ⟨fun _ _ => rfl, fun _ _ => rfl⟩ h q⟩
  have eI : ∀ a, ¬ a = 136 → hf_up I 136 15 (I 100 16) a = I a := fun a ha => hf_up_no ha
  have hc1 : lw_c t T (hf_up I 136 15 (I 100 16)) P cls := by
    unfold lw_c
    rw [eI 101 (by omega), show (fun a => hf_up I 136 15 (I 100 16) (181 + a)) = fun a => I (181 + a) from funext fun a => eI (181 + a) (by omega)]
    exact hc
  refine cs_prepare (d := d + 7) (w := w) (p := p) hs hc1 w1 (by rw [eI 105 (by omega)]; exact w2) p1 (by rw [eI 101 (by omega)]; exact p2) (by rw [eI 106 (by omega)]; exact w5.1) (by rw [eI 109 (by omega), eI 110 (by omega)]; exact fun i hi => (S_w1_ok (w4 i hi)).1) fun I' st at1 => ?_
  rw [eI 106 (by omega), eI 107 (by omega), eI 108 (by omega), eI 109 (by omega), eI 110 (by omega), eI 104 (by omega), eI 102 (by omega)] at st at1
  obtain ⟨s1, s2, s3⟩ := st
  have e136 : I' 136 = upd (upd (upd (I 136) 15 (I 100 16)) 9 (nI p)) 10 (hf_bl (I 102) (I 101 14)) := by
    rw [s2, hf_up_at, eI 102 (by omega)]
  have ekk : ∀ j, pr_k (hf_up I 136 15 (I 100 16)) (fun i => jd_br cls (jf_w (nI i) (I 106 i) (I 107 i) (I 108 i) (I 109 i) (I 101 14) (I 104 0) (I 104 1))) j = fun i => !(cc_bd cls (I 101 14) (I 104) (I 106) (I 107) (I 108) (I 109) i) && decide (I 112 j = I 106 i) := by
    intro j
    funext i
    unfold pr_k
    rw [eI 112 (by omega), eI 106 (by omega)]
    rfl
  -- the cells behind prepare
  have oth : ∀ a, (a < 132 ∨ a = 135 ∨ 141 < a) → I' a = I a := fun a ha => (s1 a ha).trans (eI a (by omega))
  refine w_X8_solve_25 (d := d + 11) hs ?_
  generalize hJ : hf_up (hf_up I' 136 17 0) 136 18 (-1) = J
  have f136 : ∀ j, ¬ j = 17 → ¬ j = 18 → J 136 j = I' 136 j := by
    intro j j1 j2
    rw [← hJ, hf_up_at, hf_upd_ne j2, hf_up_at, hf_upd_ne j1]
  have fo : ∀ a, ¬ a = 136 → J a = I' a := fun a ha => by rw [← hJ, hf_up_no ha, hf_up_no ha]
  have e18 : J 136 18 = -1 := by rw [← hJ, hf_up_at, hf_upd_eq]
  have e17 : J 136 17 = 0 := by rw [← hJ, hf_up_at, hf_upd_ne (by omega), hf_up_at, hf_upd_eq]
  have e9 : J 136 9 = nI p := by rw [f136 9 (by omega) (by omega), e136, hf_upd_ne (by omega), hf_upd_eq]
  have e10 : J 136 10 = nI bl := by rw [f136 10 (by omega) (by omega), e136, hf_upd_eq]; exact r7
  have e15 : J 136 15 = I 100 16 := by rw [f136 15 (by omega) (by omega), e136, hf_upd_ne (by omega), hf_upd_ne (by omega), hf_upd_eq]
  have olo : ∀ a, (a < 132 ∨ a = 135 ∨ 141 < a) → ¬ a = 136 → J a = I a := fun a ha hb => (fo a hb).trans (oth a ha)
  -- what is found is right
  have done : ∀ J2 L2, cv_fr J J2 → cc_R (cc_G cls (I 101 12) (I 101 13) (I 101 14) (I 102) (I 104) w (I 106) (I 107) (I 108) (I 109) (I 110) (I 112) (I 113)) p (cc_tr (I 108)) (L2 136 16) (L2 136 19) (J2 136 17) (J2 136 18) → Q none (t, T, J2, L2, P) := by
    intro J2 L2 f2 hR
    have n3 : hf_n3 I J2 := ⟨fun a ha => (f2.1 a (by omega) (by omega) (by omega) (by omega) (by omega)).trans (olo a (by omega) (by omega)), fun j _ => by rw [f2.1 156 (by omega) (by omega) (by omega) (by omega) (by omega), olo 156 (by omega) (by omega)]⟩
    have g15 : J2 136 15 = I 100 16 := (f2.2 15 (by omega)).trans e15
    refine hQ J2 L2 n3 (n3_sim n3 h ?_ fun _ => ⟨I 110, cls, fun _ _ => rfl, ⟨t, T, I, rfl, rfl, rfl, hc⟩, ?_⟩) (by rw [g15, n3.1 100 (by omega)])
    · obtain ⟨c, c1, c2, c3⟩ := h.2.2.2.1
      exact ⟨c, c1, c2, Or.inr ⟨c, Nat.le_refl _, by rw [g15, c2]⟩⟩
    · rw [w2, p2, nI_clamp (show w < 2 ^ 31 by omega), nI_clamp (show p < 2 ^ 31 by omega)]
      exact hR
  have hlen : ∀ j, j < p → J 140 j = nI (cc_li cls (I 101 14) (I 104) w (I 106) (I 107) (I 108) (I 109) (I 112) j).length := by
    intro j hj
    rw [fo 140 (by omega)]
    have := (at1 j hj).1
    rw [ekk] at this
    exact this
  refine cs_hasRow (p := p) (len := fun j => (cc_li cls (I 101 14) (I 104) w (I 106) (I 107) (I 108) (I 109) (I 112) j).length) hs p1 e9 (fun j hj => ⟨hlen j hj, len3 j⟩) (fun y1 y2 => ?_) (fun y => ?_)
  · have ok := gok y2
    refine w_X8_solve_46 hs ⟨fun _ => ?_, fun z => absurd z (by decide)⟩
    rw [e9, show (1 : Int32) = nI 1 from rfl, nI_su y1]
    have hk : cv_ok t T P J (cc_G cls (I 101 12) (I 101 13) (I 101 14) (I 102) (I 104) w (I 106) (I 107) (I 108) (I 109) (I 110) (I 112) (I 113)) p cls := by
      refine ⟨⟨y1, p1, ok⟩, e9, by rw [gb]; exact e10, by rw [gh, olo 101 (by omega) (by omega)]; exact r6, by rw [gl, olo 101 (by omega) (by omega)]; exact r5, hlen, fun j k hj hk => ?_, fun x l => by rw [olo 113 (by omega) (by omega)]; rfl, fun a b => by rw [olo 110 (by omega) (by omega)]; rfl, ?_, fun ln wd mn ak ec hwd => ?_⟩
      · obtain ⟨o1, o2⟩ := opt j k hk
        have a2 := (at1 j hj).2.1 k (by rw [ekk]; exact hk)
        rw [ekk] at a2
        obtain ⟨b1, b2⟩ := s3 _ o1 o2
        refine ⟨by rw [fo 139 (by omega)]; exact a2, ?_, ?_⟩
        · rw [fo 137 (by omega)]
          exact b1.trans (wn _ o1)
        · rw [fo 138 (by omega)]
          exact b2.trans (lsn _ o1)
      · unfold lw_c
        rw [olo 101 (by omega) (by omega), show (fun a => J (181 + a)) = fun a => I (181 + a) from funext fun a => olo (181 + a) (by omega) (by omega)]
        exact hc
      · rw [gh, olo 101 (by omega) (by omega), olo 104 (by omega) (by omega)]
        have e := fz_G_C (cls := cls) (LN := (I 101 13).toNatClampNeg) (bl := (hf_bl (I 102) (I 101 14)).toNatClampNeg) (hr := (I 101 12).toNatClampNeg) (sz := I 101 14) (dy := I 104 0) (md := I 104 1) (len := fun j => (cc_li cls (I 101 14) (I 104) w (I 106) (I 107) (I 108) (I 109) (I 112) j).length) (opt := fun j k => (cc_li cls (I 101 14) (I 104) w (I 106) (I 107) (I 108) (I 109) (I 112) j).getD k 0) (wn := cc_wn (I 102) (I 101 14) (I 109) (I 110)) (ls := cc_ls cls (I 101 14) (I 104) (I 106) (I 107) (I 108) (I 109)) (fl := fun a => I 110 (9 * a)) (nx := I 113) (ln := ln) (wd := wd) (mn := mn) (ak := ak) (ec := ec) (by rw [r6, nI_clamp (by omega)]; omega) hwd
        have eh : (I 101 12).toNatClampNeg = hr := by rw [r6, nI_clamp (by omega)]
        rw [eh] at e
        have eG : cc_G cls (I 101 12) (I 101 13) (I 101 14) (I 102) (I 104) w (I 106) (I 107) (I 108) (I 109) (I 110) (I 112) (I 113) = fz_G cls (I 101 13).toNatClampNeg (hf_bl (I 102) (I 101 14)).toNatClampNeg hr (I 101 14) (I 104 0) (I 104 1) (fun j => (cc_li cls (I 101 14) (I 104) w (I 106) (I 107) (I 108) (I 109) (I 112) j).length) (fun j k => (cc_li cls (I 101 14) (I 104) w (I 106) (I 107) (I 108) (I 109) (I 112) j).getD k 0) (cc_wn (I 102) (I 101 14) (I 109) (I 110)) (cc_ls cls (I 101 14) (I 104) (I 106) (I 107) (I 108) (I 109)) (fun a => I 110 (9 * a)) (I 113) := by
          unfold cc_G
          rw [eh]
        rw [eG]
        exact e
    refine cs_solve_go (d := d + 1) (tr := cc_tr (I 108)) hs hk e18 (fun j k hj hk => ?_) (fun x => Nat.min_le_left _ _) fun J2 L2 f2 _ g17 g16 gsv => done J2 L2 f2 ⟨fun z => ?_, fun _ _ => ⟨g17, g16, gsv⟩⟩
    · rw [olo 108 (by omega) (by omega)]
      exact trn _ (opt j k hk).1
    · exfalso
      rcases z with z | ⟨j, j1, j2⟩
      · omega
      · have := y2 j j1
        have j2' : (cc_li cls (I 101 14) (I 104) w (I 106) (I 107) (I 108) (I 109) (I 112) j).length = 0 := j2
        omega
  · refine w_X8_solve_46 hs ⟨fun z => absurd rfl z, fun _ => done J _ cv_rf ⟨fun _ => ⟨e17, e18⟩, fun z1 z2 => ?_⟩⟩
    exfalso
    rcases y with y | ⟨j, j1, j2⟩
    · omega
    · have z2' : 1 ≤ (cc_li cls (I 101 14) (I 104) w (I 106) (I 107) (I 108) (I 109) (I 112) j).length := z2 j j1
      have j2' : (cc_li cls (I 101 14) (I 104) w (I 106) (I 107) (I 108) (I 109) (I 112) j).length = 0 := j2
      omega
end SOLVE
