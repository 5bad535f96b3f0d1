/-! the grammar's readings, one by one -/
theorem gr_bd_as {r : gr_r} {f g : Nat → Nat → gr_cd → gr_dn → gr_r} : gr_bd (gr_bd r f) g = gr_bd r fun a b c d => gr_bd (f a b c d) g := by
  unfold gr_bd
  by_cases e : r.1 = 2
  · simp only [if_pos e]
  · simp only [if_neg e]
theorem gr_bd_2 {r : gr_r} {f : Nat → Nat → gr_cd → gr_dn → gr_r} (e : r.1 = 2) : gr_bd r f = f r.2.1 r.2.2.1 r.2.2.2.1 r.2.2.2.2 := if_pos e
theorem gr_bd_1 {r : gr_r} {f : Nat → Nat → gr_cd → gr_dn → gr_r} (e : r.1 = 1) : gr_bd r f = r := if_neg (by omega)
theorem gr_bd_gd {k l : Nat} {c : gr_cd} {d : gr_dn} {g : Nat → Nat → gr_cd → gr_dn → gr_r} : gr_bd (gr_gd k l c d) g = g k l c d := rfl
theorem gr_bd_fl {k : Nat} {g : Nat → Nat → gr_cd → gr_dn → gr_r} : gr_bd (gr_fl k) g = gr_fl k := rfl
theorem hf_b1 {p : Prop} [Decidable p] (h : p) : hf_b (decide p) = 1 := by rw [decide_eq_true h]; rfl
theorem hf_b0 {p : Prop} [Decidable p] (h : ¬ p) : hf_b (decide p) = 0 := by rw [decide_eq_false h]; rfl
section CPAR
variable (X : hf_X) (t : Nat) (T : hf_T) (L : hf_L) (P : hf_P) (I0 : hf_I) (tp : Nat → Int32) (z : Nat) (S : Bool)
/-- a reading by a method from its entry -/
def cc_e (Y : hf_Y) (nL nt n : Nat) : Prop := ∀ (dp k lv : Nat) (a : gr_dn) (code : gr_cd) (I : hf_I) (Q : Option Value → hf_M → Prop) (D kk nn : Nat), n + 6 ≤ D → dp ≤ 8 → lv ≤ 50 → code.length ≤ k → pc_st I0 tp z k lv code I → (gr_ps S (tk_c tp z) (tk_v tp z) n nt 0 dp k lv a).1 ≠ 0 → pc_po I0 tp z t T L P code (gr_ps S (tk_c tp z) (tk_v tp z) n nt 0 dp k lv a) Q → hf_G X Y D kk nn 0 (hf_en [.ref 123, .int (nI dp)] nL) [] (t, T, I, L, P) Q
/-- the rest of a term or a sum -/
def cc_o (Y : hf_Y) (o : Nat → Nat) (nt n : Nat) : Prop := ∀ (dp k lv j : Nat) (a : gr_dn) (code : gr_cd) (I : hf_I) (Q : Option Value → hf_M → Prop) (D kk nn : Nat), n + 6 ≤ D → dp ≤ 8 → lv ≤ 50 → code.length ≤ k → j ≤ k → pc_st I0 tp z k lv code I → (gr_ps S (tk_c tp z) (tk_v tp z) n nt 0 dp k lv a).1 ≠ 0 → pc_po I0 tp z t T L P code (gr_ps S (tk_c tp z) (tk_v tp z) n nt 0 dp k lv a) Q → hf_G X Y D kk nn 20 [some (.ref 123), some (.int (nI dp)), some (.int (if o (tk_c tp z k) = 0 then -1 else nI (o (tk_c tp z k)))), some (.int (nI j))] [] (t, T, I, L, P) Q
/-- the rest of a test or of what both must hold -/
def cc_w (Y : hf_Y) (nt n : Nat) : Prop := ∀ (dp k lv j : Nat) (a : gr_dn) (code : gr_cd) (I : hf_I) (Q : Option Value → hf_M → Prop) (D kk nn : Nat), n + 6 ≤ D → dp ≤ 8 → lv ≤ 50 → code.length ≤ k → j ≤ k → pc_st I0 tp z k lv code I → (gr_ps S (tk_c tp z) (tk_v tp z) n nt 0 dp k lv a).1 ≠ 0 → pc_po I0 tp z t T L P code (gr_ps S (tk_c tp z) (tk_v tp z) n nt 0 dp k lv a) Q → hf_G X Y D kk nn 12 [some (.ref 123), some (.int (nI dp)), some (.int (nI j)), none] [] (t, T, I, L, P) Q
/-- plain, behind some nots -/
def cc_5 (n : Nat) : Prop := ∀ (x dp k lv j : Nat) (a : gr_dn) (code : gr_cd) (I : hf_I) (Q : Option Value → hf_M → Prop) (D kk nn : Nat), n + 6 ≤ D → x ≤ 1 → dp ≤ 8 → lv ≤ 50 → code.length + x ≤ k → j ≤ k → pc_st I0 tp z k lv code I → (gr_ps S (tk_c tp z) (tk_v tp z) n 5 x dp k lv a).1 ≠ 0 → pc_po I0 tp z t T L P code (gr_ps S (tk_c tp z) (tk_v tp z) n 5 x dp k lv a) Q → hf_G X Y_X5_readPlain D kk nn 4 [some (.ref 123), some (.int (nI dp)), some (.int (nI x)), some (.int (nI j))] [] (t, T, I, L, P) Q
def gr_nt (x : Nat) (r : gr_r) : gr_r := gr_bd r fun k1 l1 c1 d1 => if x = 0 then gr_gd k1 l1 c1 d1 else gr_gd k1 l1 (c1 ++ [(10, 0)]) (gr_dno d1)
def cc_6 (n : Nat) : Prop := ∀ (x dp k lv : Nat) (a : gr_dn) (code : gr_cd) (I : hf_I) (Q : Option Value → hf_M → Prop) (D kk nn : Nat), n + 6 ≤ D → x ≤ 1 → dp ≤ 8 → lv ≤ 50 → code.length + x ≤ k → pc_st I0 tp z k lv code I → (gr_nt x (gr_ps S (tk_c tp z) (tk_v tp z) n 6 0 dp k lv a)).1 ≠ 0 → pc_po I0 tp z t T L P code (gr_nt x (gr_ps S (tk_c tp z) (tk_v tp z) n 6 0 dp k lv a)) Q → hf_G X Y_X5_isSign D 0 0 0 (hf_en [.ref 123, .int 40] 2) [] (t, T, I, L, P) (fun r M => hf_G X Y_X5_readPlain (D + 1) kk nn 46 [some (.ref 123), some (.int (nI dp)), some (.int (nI x)), none] (r.toList ++ []) M Q)
def cc_all (n : Nat) : Prop := cc_e X t T L P I0 tp z S Y_X5_readPart 3 0 n ∧ cc_e X t T L P I0 tp z S Y_X5_readTerm 4 1 n ∧ cc_o X t T L P I0 tp z S Y_X5_readTerm gr_o2 2 n ∧ cc_e X t T L P I0 tp z S Y_X5_readSum 4 3 n ∧ cc_o X t T L P I0 tp z S Y_X5_readSum gr_o4 4 n ∧ cc_5 X t T L P I0 tp z S n ∧ cc_6 X t T L P I0 tp z S n ∧ cc_e X t T L P I0 tp z S Y_X5_readBoth 4 7 n ∧ cc_w X t T L P I0 tp z S Y_X5_readBoth 8 n ∧ cc_e X t T L P I0 tp z S Y_X5_readTest 4 9 n ∧ cc_w X t T L P I0 tp z S Y_X5_readTest 10 n
variable {X t T L P I0 tp z S} {n : Nat}

theorem cc_1s (hs : hf_Lay t T P) (hby : P 123 2 = some 122) (hz4 : z ≤ 400) (hb : tk_byte tp z) (ih : cc_all X t T L P I0 tp z S n) : cc_e X t T L P I0 tp z S Y_X5_readTerm 4 1 (n + 1) := by
  intro dp k lv a code I Q D kk nn hD hdp hlv hlen hst hne hpo
  obtain ⟨i0, i1, i2, i3, i4, i5, i6, i7, i8, i9, i10⟩ := ih
  obtain ⟨e, rfl⟩ : ∃ e, D = e + 7 := ⟨D - 7, by omega⟩
  rw [gr_ps_1] at hne hpo
  refine w_X5_readTerm_0 hs hby (i0 dp k lv a code I _ (e + 6) 0 0 (by omega) hdp hlv hlen hst (gr_bd_ne hne) (pc_po_bd hpo (fun I' e1 hst' hpo' => ?_) fun I' hq => ?_))
  · have fw := gr_ps_fw (S := S) (c := tk_c tp z) (v := tk_v tp z) n 0 0 dp k lv a (by omega) e1
    rw [gr_sl_0] at fw
    refine w_X5_readTerm_5 hs hby ⟨fun _ => cw_2 (d := e + 2) hs hby hz4 hb hst'.1 (w_X5_readTerm_17 hs hby ?_), fun g => absurd g (by decide)⟩
    refine i2 dp _ _ 0 _ _ I' Q (e + 7) kk nn (by omega) hdp (fw.2.2.2 hlv) (by rw [List.length_append]; omega) (Nat.zero_le _) hst' (gr_bd_ne (gr_bd_nz hne e1)) ?_
    refine ⟨fun e2 I2 hst2 => ?_, fun e2 I2 q1 q2 => ?_⟩
    · unfold gr_bd at hpo'
      rw [if_pos e2] at hpo'
      refine pc_po_gd hpo' ?_
      rw [← List.append_assoc]
      exact hst2
    · unfold gr_bd at hpo'
      rw [if_neg (by omega)] at hpo'
      exact hpo'.2 e2 I2 q1 q2
  · exact w_X5_readTerm_5 hs hby ⟨fun g => absurd rfl g, fun _ => hq⟩
theorem cc_2s (hs : hf_Lay t T P) (hby : P 123 2 = some 122) (hz4 : z ≤ 400) (hb : tk_byte tp z) (ih : cc_all X t T L P I0 tp z S n) : cc_o X t T L P I0 tp z S Y_X5_readTerm gr_o2 2 (n + 1) := by
  intro dp k lv j a code I Q D kk nn hD hdp hlv hlen hj hst hne hpo
  obtain ⟨i0, i1, i2, i3, i4, i5, i6, i7, i8, i9, i10⟩ := ih
  obtain ⟨e, rfl⟩ : ∃ e, D = e + 7 := ⟨D - 7, by omega⟩
  rw [gr_ps_2] at hne hpo
  by_cases ho : gr_o2 (tk_c tp z k) = 0
  · rw [if_pos ho] at hpo ⊢
    have hQ := pc_po_gd hpo (by rw [List.append_nil]; exact hst)
    exact w_X5_readTerm_20 hs hby ⟨fun _ => hQ, fun _ => ⟨fun _ => hQ, fun g => absurd rfl g⟩⟩
  · rw [if_neg ho] at hne hpo ⊢
    have hk : k < z := tk_c_lt (tp := tp) (by intro q; rw [q] at ho; exact ho rfl)
    have ho9 : gr_o2 (tk_c tp z k) < 10 := by
      unfold gr_o2
      repeat' split
      all_goals omega
    refine w_X5_readTerm_20 hs hby ⟨fun g => absurd g (nI_ge (a := j) (b := 400) (by omega) (by omega)), fun _ => ⟨fun g => absurd g (hf_nm1 (by omega)), fun _ => cp_adv (d := e + 5) hs hby hz4 hst fun I1 hst1 => ?_⟩⟩
    refine w_X5_readTerm_36 hs hby (i0 dp (k + 1) lv a code I1 _ (e + 6) 0 0 (by omega) hdp hlv (by omega) hst1 (gr_bd_ne hne) (pc_po_bd hpo (fun I' e1 hst' hpo' => ?_) fun I' hq => ?_))
    · have fw := gr_ps_fw (S := S) (c := tk_c tp z) (v := tk_v tp z) n 0 0 dp (k + 1) lv a (by omega) e1
      rw [gr_sl_0] at fw
      have hk2 := tk_top (S := S) (tp := tp) (z := z) (show 0 ≤ 10 by omega) (show k + 1 ≤ z by omega) e1
      refine w_X5_readTerm_41 hs hby ⟨fun _ => cp_addStep (x := 0) hs hst' (by rw [List.length_append]; omega) fun I2 hst2 => ?_, fun g => absurd g (by decide)⟩
      refine w_X5_readTerm_55 hs hby ⟨fun _ => cw_2 (d := e + 2) hs hby hz4 hb hst2.1 (w_X5_readTerm_70 hs hby ?_), fun g => absurd g (by decide)⟩
      rw [nI_1]
      refine i2 dp _ _ (j + 1) _ _ I2 Q (e + 7) kk nn (by omega) hdp (fw.2.2.2 hlv) (by rw [List.length_append, List.length_append, List.length_singleton]; omega) (by have := fw.1; omega) hst2 (gr_bd_ne (gr_bd_nz hne e1)) ?_
      refine ⟨fun e2 I3 hst3 => ?_, fun e2 I3 q1 q2 => ?_⟩
      · unfold gr_bd at hpo'
        rw [if_pos e2] at hpo'
        refine pc_po_gd hpo' ?_
        rw [List.append_assoc, List.append_assoc] at hst3
        exact hst3
      · unfold gr_bd at hpo'
        rw [if_neg (by omega)] at hpo'
        exact hpo'.2 e2 I3 q1 q2
    · exact w_X5_readTerm_41 hs hby ⟨fun g => absurd rfl g, fun _ => hq⟩

theorem cc_3s (hs : hf_Lay t T P) (hby : P 123 2 = some 122) (hz4 : z ≤ 400) (hb : tk_byte tp z) (ih : cc_all X t T L P I0 tp z S n) : cc_e X t T L P I0 tp z S Y_X5_readSum 4 3 (n + 1) := by
  intro dp k lv a code I Q D kk nn hD hdp hlv hlen hst hne hpo
  obtain ⟨i0, i1, i2, i3, i4, i5, i6, i7, i8, i9, i10⟩ := ih
  obtain ⟨e, rfl⟩ : ∃ e, D = e + 7 := ⟨D - 7, by omega⟩
  rw [gr_ps_3] at hne hpo
  refine w_X5_readSum_0 hs hby (i1 dp k lv a code I _ (e + 6) 0 0 (by omega) hdp hlv hlen hst (gr_bd_ne hne) (pc_po_bd hpo (fun I' e1 hst' hpo' => ?_) fun I' hq => ?_))
  · have fw := gr_ps_fw (S := S) (c := tk_c tp z) (v := tk_v tp z) n 1 0 dp k lv a (by omega) e1
    rw [gr_sl_0] at fw
    refine w_X5_readSum_5 hs hby ⟨fun _ => cw_4 (d := e + 2) hs hby hz4 hb hst'.1 (w_X5_readSum_17 hs hby ?_), fun g => absurd g (by decide)⟩
    refine i4 dp _ _ 0 _ _ I' Q (e + 7) kk nn (by omega) hdp (fw.2.2.2 hlv) (by rw [List.length_append]; omega) (Nat.zero_le _) hst' (gr_bd_ne (gr_bd_nz hne e1)) ?_
    refine ⟨fun e2 I2 hst2 => ?_, fun e2 I2 q1 q2 => ?_⟩
    · unfold gr_bd at hpo'
      rw [if_pos e2] at hpo'
      refine pc_po_gd hpo' ?_
      rw [← List.append_assoc]
      exact hst2
    · unfold gr_bd at hpo'
      rw [if_neg (by omega)] at hpo'
      exact hpo'.2 e2 I2 q1 q2
  · exact w_X5_readSum_5 hs hby ⟨fun g => absurd rfl g, fun _ => hq⟩
theorem cc_4s (hs : hf_Lay t T P) (hby : P 123 2 = some 122) (hz4 : z ≤ 400) (hb : tk_byte tp z) (ih : cc_all X t T L P I0 tp z S n) : cc_o X t T L P I0 tp z S Y_X5_readSum gr_o4 4 (n + 1) := by
  intro dp k lv j a code I Q D kk nn hD hdp hlv hlen hj hst hne hpo
  obtain ⟨i0, i1, i2, i3, i4, i5, i6, i7, i8, i9, i10⟩ := ih
  obtain ⟨e, rfl⟩ : ∃ e, D = e + 7 := ⟨D - 7, by omega⟩
  rw [gr_ps_4] at hne hpo
  by_cases ho : gr_o4 (tk_c tp z k) = 0
  · rw [if_pos ho] at hpo ⊢
    have hQ := pc_po_gd hpo (by rw [List.append_nil]; exact hst)
    exact w_X5_readSum_20 hs hby ⟨fun _ => hQ, fun _ => ⟨fun _ => hQ, fun g => absurd rfl g⟩⟩
  · rw [if_neg ho] at hne hpo ⊢
    have hk : k < z := tk_c_lt (tp := tp) (by intro q; rw [q] at ho; exact ho rfl)
    have ho9 : gr_o4 (tk_c tp z k) < 10 := by
      unfold gr_o4
      repeat' split
      all_goals omega
    refine w_X5_readSum_20 hs hby ⟨fun g => absurd g (nI_ge (a := j) (b := 400) (by omega) (by omega)), fun _ => ⟨fun g => absurd g (hf_nm1 (by omega)), fun _ => cp_adv (d := e + 5) hs hby hz4 hst fun I1 hst1 => ?_⟩⟩
    refine w_X5_readSum_36 hs hby (i1 dp (k + 1) lv a code I1 _ (e + 6) 0 0 (by omega) hdp hlv (by omega) hst1 (gr_bd_ne hne) (pc_po_bd hpo (fun I' e1 hst' hpo' => ?_) fun I' hq => ?_))
    · have fw := gr_ps_fw (S := S) (c := tk_c tp z) (v := tk_v tp z) n 1 0 dp (k + 1) lv a (by omega) e1
      rw [gr_sl_0] at fw
      have hk2 := tk_top (S := S) (tp := tp) (z := z) (show 1 ≤ 10 by omega) (show k + 1 ≤ z by omega) e1
      refine w_X5_readSum_41 hs hby ⟨fun _ => cp_addStep (x := 0) hs hst' (by rw [List.length_append]; omega) fun I2 hst2 => ?_, fun g => absurd g (by decide)⟩
      refine w_X5_readSum_55 hs hby ⟨fun _ => cw_4 (d := e + 2) hs hby hz4 hb hst2.1 (w_X5_readSum_70 hs hby ?_), fun g => absurd g (by decide)⟩
      rw [nI_1]
      refine i4 dp _ _ (j + 1) _ _ I2 Q (e + 7) kk nn (by omega) hdp (fw.2.2.2 hlv) (by rw [List.length_append, List.length_append, List.length_singleton]; omega) (by have := fw.1; omega) hst2 (gr_bd_ne (gr_bd_nz hne e1)) ?_
      refine ⟨fun e2 I3 hst3 => ?_, fun e2 I3 q1 q2 => ?_⟩
      · unfold gr_bd at hpo'
        rw [if_pos e2] at hpo'
        refine pc_po_gd hpo' ?_
        rw [List.append_assoc, List.append_assoc] at hst3
        exact hst3
      · unfold gr_bd at hpo'
        rw [if_neg (by omega)] at hpo'
        exact hpo'.2 e2 I3 q1 q2
    · exact w_X5_readSum_41 hs hby ⟨fun g => absurd rfl g, fun _ => hq⟩

theorem cc_7s (hs : hf_Lay t T P) (hby : P 123 2 = some 122) (hz4 : z ≤ 400) (hb : tk_byte tp z) (ih : cc_all X t T L P I0 tp z S n) : cc_e X t T L P I0 tp z S Y_X5_readBoth 4 7 (n + 1) := by
  intro dp k lv a code I Q D kk nn hD hdp hlv hlen hst hne hpo
  obtain ⟨i0, i1, i2, i3, i4, i5, i6, i7, i8, i9, i10⟩ := ih
  obtain ⟨e, rfl⟩ : ∃ e, D = e + 7 := ⟨D - 7, by omega⟩
  rw [gr_ps_7] at hne hpo
  refine w_X5_readBoth_0 hs hby (w_X5_readPlain_0 hs hby (i5 0 dp k lv 0 a code I _ (e + 6) 0 0 (by omega) (by omega) hdp hlv (by omega) (Nat.zero_le _) hst (gr_bd_ne hne) (pc_po_bd hpo (fun I' e1 hst' hpo' => ?_) fun I' hq => ?_)))
  · have fw := gr_ps_fw (S := S) (c := tk_c tp z) (v := tk_v tp z) n 5 0 dp k lv a (by omega) e1
    rw [gr_sl_0] at fw
    refine w_X5_readBoth_5 hs hby ⟨fun _ => ?_, fun g => absurd g (by decide)⟩
    refine i8 dp _ _ 0 _ _ I' Q (e + 7) kk nn (by omega) hdp (fw.2.2.2 hlv) (by rw [List.length_append]; omega) (Nat.zero_le _) hst' (gr_bd_ne (gr_bd_nz hne e1)) ?_
    refine ⟨fun e2 I2 hst2 => ?_, fun e2 I2 q1 q2 => ?_⟩
    · unfold gr_bd at hpo'
      rw [if_pos e2] at hpo'
      refine pc_po_gd hpo' ?_
      rw [← List.append_assoc]
      exact hst2
    · unfold gr_bd at hpo'
      rw [if_neg (by omega)] at hpo'
      exact hpo'.2 e2 I2 q1 q2
  · exact w_X5_readBoth_5 hs hby ⟨fun g => absurd rfl g, fun _ => hq⟩
theorem cc_8s (hs : hf_Lay t T P) (hby : P 123 2 = some 122) (hz4 : z ≤ 400) (hb : tk_byte tp z) (ih : cc_all X t T L P I0 tp z S n) : cc_w X t T L P I0 tp z S Y_X5_readBoth 8 (n + 1) := by
  intro dp k lv j a code I Q D kk nn hD hdp hlv hlen hj hst hne hpo
  obtain ⟨i0, i1, i2, i3, i4, i5, i6, i7, i8, i9, i10⟩ := ih
  obtain ⟨e, rfl⟩ : ∃ e, D = e + 7 := ⟨D - 7, by omega⟩
  rw [gr_ps_8] at hne hpo
  by_cases ho : tk_c tp z k = 6
  · rw [if_pos ho] at hne hpo
    have hk : k < z := tk_c_lt (tp := tp) (by omega)
    refine w_X5_readBoth_12 hs hby ⟨fun g => absurd g (nI_ge (a := j) (b := 400) (by omega) (by omega)), fun _ => cw_and (d := e + 1) hs hby hz4 hst.1 ?_⟩
    rw [hf_b1 ho]
    refine w_X5_readBoth_25 hs hby ⟨fun g => absurd g (by decide), fun _ => cp_addStep (s := 12) (x := 0) hs hst (by omega) fun I1 hst1 => ?_⟩
    rw [hst.2.2.1]
    refine w_X5_readBoth_46 hs hby ⟨fun _ => cp_adv (d := e + 5) hs hby hz4 hst1 fun I2 hst2 => ?_, fun g => absurd g (by decide)⟩
    have hl1 : (code ++ [(12, 0)]).length = code.length + 1 := by simp
    have hpo2 : pc_po I0 tp z t T L P (code ++ [(12, 0)]) (gr_ps S (tk_c tp z) (tk_v tp z) n 5 0 dp (k + 1) lv a) (fun r M => hf_G X Y_X5_readBoth (e + 7) kk nn 63 [some (.ref 123), some (.int (nI dp)), some (.int (nI j)), some (.int (nI (2 * code.length)))] (r.toList ++ []) M Q) := by
      refine ⟨fun e1 I3 hst3 => ?_, fun e1 I3 q1 q2 => ?_⟩
      · have fw := gr_ps_fw (S := S) (c := tk_c tp z) (v := tk_v tp z) n 5 0 dp (k + 1) lv a (by omega) e1
        rw [gr_sl_0] at fw
        have hk2 := tk_top (S := S) (tp := tp) (z := z) (show 5 ≤ 10 by omega) (show k + 1 ≤ z by omega) e1
        rw [List.append_assoc] at hst3
        refine w_X5_readBoth_63 hs hby ⟨fun _ => cp_skip hs hst3 (by simp; omega) fun I4 hst4 => w_X5_readBoth_76 hs hby ?_, fun g => absurd g (by decide)⟩
        rw [nI_1]
        rw [gr_bd_2 e1] at hne hpo
        refine i8 dp _ _ (j + 1) _ _ I4 Q (e + 7) kk nn (by omega) hdp (fw.2.2.2 hlv) (by simp; omega) (by have := fw.1; omega) hst4 (gr_bd_ne hne) ?_
        refine ⟨fun e2 I5 hst5 => ?_, fun e2 I5 q1 q2 => ?_⟩
        · rw [gr_bd_2 e2] at hpo
          refine pc_po_gd hpo ?_
          rw [List.append_assoc, List.cons_append] at hst5
          exact hst5
        · rw [gr_bd_1 e2] at hpo
          exact hpo.2 e2 I5 q1 q2
      · rw [gr_bd_1 e1] at hpo
        exact w_X5_readBoth_63 hs hby ⟨fun g => absurd rfl g, fun _ => hpo.2 e1 I3 q1 q2⟩
    exact w_X5_readBoth_58 hs hby (w_X5_readPlain_0 hs hby (i5 0 dp (k + 1) lv 0 a (code ++ [(12, 0)]) I2 _ (e + 6) 0 0 (by omega) (by omega) hdp hlv (by omega) (Nat.zero_le _) hst2 (gr_bd_ne hne) hpo2))
  · rw [if_neg ho] at hpo
    have hQ := pc_po_gd hpo (by rw [List.append_nil]; exact hst)
    refine w_X5_readBoth_12 hs hby ⟨fun _ => hQ, fun _ => cw_and (d := e + 1) hs hby hz4 hst.1 ?_⟩
    rw [hf_b0 ho]
    exact w_X5_readBoth_25 hs hby ⟨fun _ => hQ, fun g => absurd rfl g⟩

theorem cc_9s (hs : hf_Lay t T P) (hby : P 123 2 = some 122) (hz4 : z ≤ 400) (hb : tk_byte tp z) (ih : cc_all X t T L P I0 tp z S n) : cc_e X t T L P I0 tp z S Y_X5_readTest 4 9 (n + 1) := by
  intro dp k lv a code I Q D kk nn hD hdp hlv hlen hst hne hpo
  obtain ⟨i0, i1, i2, i3, i4, i5, i6, i7, i8, i9, i10⟩ := ih
  obtain ⟨e, rfl⟩ : ∃ e, D = e + 7 := ⟨D - 7, by omega⟩
  rw [gr_ps_9] at hne hpo
  refine w_X5_readTest_0 hs hby ((i7 dp k lv a code I _ (e + 6) 0 0 (by omega) hdp hlv hlen hst (gr_bd_ne hne) (pc_po_bd hpo (fun I' e1 hst' hpo' => ?_) fun I' hq => ?_)))
  · have fw := gr_ps_fw (S := S) (c := tk_c tp z) (v := tk_v tp z) n 7 0 dp k lv a (by omega) e1
    rw [gr_sl_0] at fw
    refine w_X5_readTest_5 hs hby ⟨fun _ => ?_, fun g => absurd g (by decide)⟩
    refine i10 dp _ _ 0 _ _ I' Q (e + 7) kk nn (by omega) hdp (fw.2.2.2 hlv) (by rw [List.length_append]; omega) (Nat.zero_le _) hst' (gr_bd_ne (gr_bd_nz hne e1)) ?_
    refine ⟨fun e2 I2 hst2 => ?_, fun e2 I2 q1 q2 => ?_⟩
    · unfold gr_bd at hpo'
      rw [if_pos e2] at hpo'
      refine pc_po_gd hpo' ?_
      rw [← List.append_assoc]
      exact hst2
    · unfold gr_bd at hpo'
      rw [if_neg (by omega)] at hpo'
      exact hpo'.2 e2 I2 q1 q2
  · exact w_X5_readTest_5 hs hby ⟨fun g => absurd rfl g, fun _ => hq⟩
theorem cc_10s (hs : hf_Lay t T P) (hby : P 123 2 = some 122) (hz4 : z ≤ 400) (hb : tk_byte tp z) (ih : cc_all X t T L P I0 tp z S n) : cc_w X t T L P I0 tp z S Y_X5_readTest 10 (n + 1) := by
  intro dp k lv j a code I Q D kk nn hD hdp hlv hlen hj hst hne hpo
  obtain ⟨i0, i1, i2, i3, i4, i5, i6, i7, i8, i9, i10⟩ := ih
  obtain ⟨e, rfl⟩ : ∃ e, D = e + 7 := ⟨D - 7, by omega⟩
  rw [gr_ps_10] at hne hpo
  by_cases ho : tk_c tp z k = 5
  · rw [if_pos ho] at hne hpo
    have hk : k < z := tk_c_lt (tp := tp) (by omega)
    refine w_X5_readTest_12 hs hby ⟨fun g => absurd g (nI_ge (a := j) (b := 400) (by omega) (by omega)), fun _ => cw_or (d := e + 1) hs hby hz4 hst.1 ?_⟩
    rw [hf_b1 ho]
    refine w_X5_readTest_25 hs hby ⟨fun g => absurd g (by decide), fun _ => cp_addStep (s := 11) (x := 0) hs hst (by omega) fun I1 hst1 => ?_⟩
    rw [hst.2.2.1]
    refine w_X5_readTest_46 hs hby ⟨fun _ => cp_adv (d := e + 5) hs hby hz4 hst1 fun I2 hst2 => ?_, fun g => absurd g (by decide)⟩
    have hl1 : (code ++ [(11, 0)]).length = code.length + 1 := by simp
    have hpo2 : pc_po I0 tp z t T L P (code ++ [(11, 0)]) (gr_ps S (tk_c tp z) (tk_v tp z) n 7 0 dp (k + 1) lv a) (fun r M => hf_G X Y_X5_readTest (e + 7) kk nn 63 [some (.ref 123), some (.int (nI dp)), some (.int (nI j)), some (.int (nI (2 * code.length)))] (r.toList ++ []) M Q) := by
      refine ⟨fun e1 I3 hst3 => ?_, fun e1 I3 q1 q2 => ?_⟩
      · have fw := gr_ps_fw (S := S) (c := tk_c tp z) (v := tk_v tp z) n 7 0 dp (k + 1) lv a (by omega) e1
        rw [gr_sl_0] at fw
        have hk2 := tk_top (S := S) (tp := tp) (z := z) (show 7 ≤ 10 by omega) (show k + 1 ≤ z by omega) e1
        rw [List.append_assoc] at hst3
        refine w_X5_readTest_63 hs hby ⟨fun _ => cp_skip hs hst3 (by simp; omega) fun I4 hst4 => w_X5_readTest_76 hs hby ?_, fun g => absurd g (by decide)⟩
        rw [nI_1]
        rw [gr_bd_2 e1] at hne hpo
        refine i10 dp _ _ (j + 1) _ _ I4 Q (e + 7) kk nn (by omega) hdp (fw.2.2.2 hlv) (by simp; omega) (by have := fw.1; omega) hst4 (gr_bd_ne hne) ?_
        refine ⟨fun e2 I5 hst5 => ?_, fun e2 I5 q1 q2 => ?_⟩
        · rw [gr_bd_2 e2] at hpo
          refine pc_po_gd hpo ?_
          rw [List.append_assoc, List.cons_append] at hst5
          exact hst5
        · rw [gr_bd_1 e2] at hpo
          exact hpo.2 e2 I5 q1 q2
      · rw [gr_bd_1 e1] at hpo
        exact w_X5_readTest_63 hs hby ⟨fun g => absurd rfl g, fun _ => hpo.2 e1 I3 q1 q2⟩
    exact w_X5_readTest_58 hs hby ((i7 dp (k + 1) lv a (code ++ [(11, 0)]) I2 _ (e + 6) 0 0 (by omega) hdp hlv (by omega) hst2 (gr_bd_ne hne) hpo2))
  · rw [if_neg ho] at hpo
    have hQ := pc_po_gd hpo (by rw [List.append_nil]; exact hst)
    refine w_X5_readTest_12 hs hby ⟨fun _ => hQ, fun _ => cw_or (d := e + 1) hs hby hz4 hst.1 ?_⟩
    rw [hf_b0 ho]
    exact w_X5_readTest_25 hs hby ⟨fun _ => hQ, fun g => absurd rfl g⟩

theorem cc_5s (hs : hf_Lay t T P) (hby : P 123 2 = some 122) (hz4 : z ≤ 400) (hb : tk_byte tp z) (ih : cc_all X t T L P I0 tp z S n) : cc_5 X t T L P I0 tp z S (n + 1) := by
  intro x dp k lv j a code I Q D kk nn hD hx hdp hlv hlen hj hst hne hpo
  obtain ⟨i0, i1, i2, i3, i4, i5, i6, i7, i8, i9, i10⟩ := ih
  obtain ⟨e, rfl⟩ : ∃ e, D = e + 7 := ⟨D - 7, by omega⟩
  rw [gr_ps_5] at hne hpo
  by_cases ho : tk_c tp z k = 7
  · rw [if_pos ho] at hne hpo
    have hk : k < z := tk_c_lt (tp := tp) (by omega)
    refine w_X5_readPlain_4 hs hby ⟨fun g => absurd g (nI_ge (a := j) (b := 400) (by omega) (by omega)), fun _ => cw_not (d := e + 1) hs hby hz4 hst.1 ?_⟩
    rw [hf_b1 ho]
    refine w_X5_readPlain_17 hs hby ⟨fun g => absurd g (by decide), fun _ => ⟨fun g => cp_adv (d := e + 5) hs hby hz4 hst fun I1 hst1 => w_X5_readPlain_34 hs hby ?_, fun g => cp_adv (d := e + 5) hs hby hz4 hst fun I1 hst1 => w_X5_readPlain_34 hs hby ?_⟩⟩
    · have x1 : ¬ x = 0 := fun q => g (by rw [q]; rfl)
      rw [if_neg x1] at hne hpo
      rw [nI_1]
      exact i5 0 dp (k + 1) lv (j + 1) a code I1 Q (e + 7) kk nn (by omega) (by omega) hdp hlv (by omega) (by omega) hst1 hne hpo
    · have x0 : x = 0 := (nI_eq (b := 0) (by omega) (by omega)).mp g
      rw [if_pos x0] at hne hpo
      rw [nI_1]
      exact i5 1 dp (k + 1) lv (j + 1) a code I1 Q (e + 7) kk nn (by omega) (by omega) hdp hlv (by omega) (by omega) hst1 hne hpo
  · rw [if_neg ho] at hne hpo
    have key := i6 x dp k lv a code I Q (e + 6) kk nn (by omega) hx hdp hlv hlen hst hne hpo
    refine w_X5_readPlain_4 hs hby ⟨fun _ => key, fun _ => cw_not (d := e + 1) hs hby hz4 hst.1 ?_⟩
    rw [hf_b0 ho]
    exact w_X5_readPlain_17 hs hby ⟨fun _ => key, fun g => absurd rfl g⟩

theorem cc_6t (hs : hf_Lay t T P) (hby : P 123 2 = some 122) (hz4 : z ≤ 400) (hb : tk_byte tp z) {x k1 l1 e : Nat} {code c1 : gr_cd} {d1 : gr_dn} {I : hf_I} {Q : Option Value → hf_M → Prop} {kk nn : Nat} (hx : x ≤ 1) (hl : code.length + c1.length + x ≤ 400) (hst : pc_st I0 tp z k1 l1 (code ++ c1) I) (hpo : pc_po I0 tp z t T L P code (if x = 0 then gr_gd k1 l1 c1 d1 else gr_gd k1 l1 (c1 ++ [(10, 0)]) (gr_dno d1)) Q) : (nI x = 0 → Q (some (.int 1)) (t, T, I, L, P)) ∧ (¬ (nI x = 0) → hf_G X Y_X9_addStep e 0 0 0 (hf_en [.ref 124, .int 10, .int 0] 3) [] (t, T, I, L, P) (fun r M => hf_G X Y_X5_readPlain (e + 1) kk nn 171 [some (.ref 123), none, none, none] (r.toList ++ []) M Q)) := by
  refine ⟨fun g => ?_, fun g => ?_⟩
  · have x0 : x = 0 := (nI_eq (b := 0) (by omega) (by omega)).mp g
    rw [if_pos x0] at hpo
    exact pc_po_gd hpo hst
  · have x1 : ¬ x = 0 := fun q => g (by rw [q]; rfl)
    rw [if_neg x1] at hpo
    refine cp_addStep (s := 10) (x := 0) hs hst (by rw [List.length_append]; omega) fun I1 hst1 => w_X5_readPlain_171 hs hby ⟨fun _ => pc_po_gd hpo ?_, fun g => absurd g (by decide)⟩
    rw [← List.append_assoc]
    exact hst1
theorem cc_6s (hs : hf_Lay t T P) (hby : P 123 2 = some 122) (hz4 : z ≤ 400) (hb : tk_byte tp z) (ih : cc_all X t T L P I0 tp z S n) : cc_6 X t T L P I0 tp z S (n + 1) := by
  intro x dp k lv a code I Q D kk nn hD hx hdp hlv hlen hst hne hpo
  obtain ⟨i0, i1, i2, i3, i4, i5, i6, i7, i8, i9, i10⟩ := ih
  obtain ⟨e, rfl⟩ : ∃ e, D = e + 7 := ⟨D - 7, by omega⟩
  rw [gr_ps_6] at hne hpo
  refine ca_isSign (ch := 40) hs hby hz4 hb (by omega) hst.1 ?_
  by_cases ho : tk_c tp z k = 140
  · rw [hf_b1 ho]
    rw [if_pos ho] at hne hpo
    have hk : k < z := tk_c_lt (tp := tp) (by omega)
    by_cases h8 : dp = 8
    · rw [if_pos h8] at hpo
      refine w_X5_readPlain_46 hs hby ⟨fun g => absurd g (by decide), fun _ => ⟨fun g => absurd g (by rw [h8]; decide), fun _ => ?_⟩⟩
      exact pc_po_fl hst hpo
    · rw [if_neg h8] at hne hpo
      unfold gr_nt at hne hpo
      rw [gr_bd_as] at hne hpo
      refine w_X5_readPlain_46 hs hby ⟨fun g => absurd g (by decide), fun _ => ⟨fun _ => cp_adv (d := e + 6) hs hby hz4 hst fun I1 hst1 => w_X5_readPlain_64 hs hby ?_, fun g => absurd (nI_lt (a := dp) (b := 8) (by omega) (by omega)) g⟩⟩
      rw [nI_1]
      refine i9 (dp + 1) (k + 1) lv a code I1 _ (e + 7) 0 0 (by omega) (by omega) hlv (by omega) hst1 (gr_bd_ne hne) (pc_po_bd hpo (fun I2 e1 hst2 hpo2 => ?_) fun I2 hq => ?_)
      · have fw := gr_ps_fw (S := S) (c := tk_c tp z) (v := tk_v tp z) n 9 0 (dp + 1) (k + 1) lv a (by omega) e1
        rw [gr_sl_0] at fw
        have hk2 := tk_top (S := S) (tp := tp) (z := z) (show 9 ≤ 10 by omega) (show k + 1 ≤ z by omega) e1
        refine w_X5_readPlain_71 hs hby ⟨fun _ => ca_isSign (ch := 41) hs hby hz4 hb (by omega) hst2.1 ?_, fun g => absurd g (by decide)⟩
        by_cases hc : tk_c tp z (gr_ps S (tk_c tp z) (tk_v tp z) n 9 0 (dp + 1) (k + 1) lv a).2.1 = 141
        · rw [hf_b1 hc]
          rw [if_pos hc, gr_bd_gd] at hpo2
          have hk3 := tk_c_lt (tp := tp) (z := z) (k := (gr_ps S (tk_c tp z) (tk_v tp z) n 9 0 (dp + 1) (k + 1) lv a).2.1) (by omega)
          refine w_X5_readPlain_82 hs hby ⟨fun _ => cp_adv (d := e + 6) hs hby hz4 hst2 fun I3 hst3 => w_X5_readPlain_94 hs hby ?_, fun g => absurd g (by decide)⟩
          exact cc_6t hs hby hz4 hb hx (by omega) hst3 hpo2
        · rw [hf_b0 hc]
          rw [if_neg hc, gr_bd_fl] at hpo2
          refine w_X5_readPlain_82 hs hby ⟨fun g => absurd rfl g, fun _ => hpo2.2 rfl _ (pc_fail hst2).1 (pc_fail hst2).2⟩
      · exact w_X5_readPlain_71 hs hby ⟨fun g => absurd rfl g, fun _ => hq⟩
  · rw [hf_b0 ho]
    rw [if_neg ho] at hne hpo
    unfold gr_nt at hne hpo
    rw [gr_bd_as] at hne hpo
    refine w_X5_readPlain_46 hs hby ⟨fun _ => i3 dp k lv a code I _ (e + 7) 0 0 (by omega) hdp hlv (by omega) hst (gr_bd_ne hne) (pc_po_bd hpo (fun I1 e1 hst1 hpo1 => ?_) fun I1 hq => ?_), fun g => absurd rfl g⟩
    · have fw := gr_ps_fw (S := S) (c := tk_c tp z) (v := tk_v tp z) n 3 0 dp k lv a (by omega) e1
      rw [gr_sl_0] at fw
      have hne1 := gr_bd_nz hne e1
      refine w_X5_readPlain_102 hs hby ⟨fun _ => cw_6 (d := e + 3) hs hby hz4 hb hst1.1 ?_, fun g => absurd g (by decide)⟩
      generalize hr1 : gr_ps S (tk_c tp z) (tk_v tp z) n 3 0 dp k lv a = r1 at *
      by_cases hc : gr_o6 (tk_c tp z r1.2.1) = 0
      · rw [if_pos hc] at hpo1 ⊢
        rw [gr_bd_fl] at hpo1
        exact w_X5_readPlain_115 hs hby ⟨fun g => absurd rfl g, fun _ => hpo1.2 rfl _ (pc_fail hst1).1 (pc_fail hst1).2⟩
      · rw [if_neg hc] at hpo1 hne1 ⊢
        rw [gr_bd_as] at hpo1 hne1
        have ho9 : gr_o6 (tk_c tp z r1.2.1) < 10 := by
          unfold gr_o6
          repeat' split
          all_goals omega
        have hk1 : r1.2.1 < z := tk_c_lt (tp := tp) (by intro q; rw [q] at hc; exact hc rfl)
        refine w_X5_readPlain_115 hs hby ⟨fun _ => cp_adv (d := e + 6) hs hby hz4 hst1 fun I2 hst2 => w_X5_readPlain_130 hs hby ?_, fun g => absurd g (hf_nm1 (by omega))⟩
        have hpo3 : pc_po I0 tp z t T L P (code ++ r1.2.2.2.1) (gr_ps S (tk_c tp z) (tk_v tp z) n 3 0 dp (r1.2.1 + 1) r1.2.2.1 a) (fun r M => hf_G X Y_X5_readPlain (e + 7 + 1) kk nn 135 [some (.ref 123), none, some (.int (nI x)), some (.int (nI (gr_o6 (tk_c tp z r1.2.1))))] (r.toList ++ []) M Q) := by
          refine ⟨fun e2 I3 hst3 => ?_, fun e2 I3 q1 q2 => ?_⟩
          · have fw2 := gr_ps_fw (S := S) (c := tk_c tp z) (v := tk_v tp z) n 3 0 dp (r1.2.1 + 1) r1.2.2.1 a (by omega) e2
            rw [gr_sl_0] at fw2
            have hk2 := tk_top (S := S) (tp := tp) (z := z) (show 3 ≤ 10 by omega) (show r1.2.1 + 1 ≤ z by omega) e2
            unfold gr_bd at hpo1
            rw [if_pos e2] at hpo1
            refine w_X5_readPlain_135 hs hby ⟨fun _ => cp_addStep (x := 0) hs hst3 (by simp only [List.length_append]; omega) fun I4 hst4 => w_X5_readPlain_149 hs hby ⟨fun _ => ?_, fun g => absurd g (by decide)⟩, fun g => absurd g (by decide)⟩
            rw [List.append_assoc, List.append_assoc] at hst4
            exact cc_6t hs hby hz4 hb hx (by simp only [List.length_append, List.length_singleton]; omega) hst4 hpo1
          · unfold gr_bd at hpo1
            rw [if_neg (by omega)] at hpo1
            exact w_X5_readPlain_135 hs hby ⟨fun g => absurd rfl g, fun _ => hpo1.2 e2 I3 q1 q2⟩
        exact i3 dp (r1.2.1 + 1) r1.2.2.1 a (code ++ r1.2.2.2.1) I2 _ (e + 7) 0 0 (by omega) hdp (fw.2.2.2 hlv) (by rw [List.length_append]; omega) hst2 (gr_bd_ne hne1) hpo3
    · exact w_X5_readPlain_102 hs hby ⟨fun g => absurd rfl g, fun _ => hq⟩

theorem tk_pj_l (c : Nat) : tk_pj c [7, 8, 9, 10, 11, 12, 13, 14, 15, 16, 17, 18, 19] 0 = if 8 ≤ c ∧ c ≤ 20 then some (c - 8) else none := by
  simp only [tk_pj]
  by_cases h0 : c = 8
  · subst h0; rfl
  by_cases h1 : c = 9
  · subst h1; rfl
  by_cases h2 : c = 10
  · subst h2; rfl
  by_cases h3 : c = 11
  · subst h3; rfl
  by_cases h4 : c = 12
  · subst h4; rfl
  by_cases h5 : c = 13
  · subst h5; rfl
  by_cases h6 : c = 14
  · subst h6; rfl
  by_cases h7 : c = 15
  · subst h7; rfl
  by_cases h8 : c = 16
  · subst h8; rfl
  by_cases h9 : c = 17
  · subst h9; rfl
  by_cases h10 : c = 18
  · subst h10; rfl
  by_cases h11 : c = 19
  · subst h11; rfl
  by_cases h12 : c = 20
  · subst h12; rfl
  simp [h0, h1, h2, h3, h4, h5, h6, h7, h8, h9, h10, h11, h12]
  omega
theorem gr_fx_t (c w : Nat) : gr_fx true c w = if c = 21 then 0 else if c = 13 then 1 else if c = 22 then 2 else if c = 23 then 3 else if c = 18 then 4 else if c = 24 then 5 + w else 21 + w := rfl
theorem tk_pj_s (c : Nat) : tk_pj c [20, 12, 21, 22, 17, 23, 8] 0 = if gr_isv true c = true then some (if c = 24 then 5 else if c = 9 then 6 else gr_fx true c 0) else none := by
  simp only [tk_pj]
  by_cases h1 : c = 21
  · subst h1; rfl
  by_cases h2 : c = 13
  · subst h2; rfl
  by_cases h3 : c = 22
  · subst h3; rfl
  by_cases h4 : c = 23
  · subst h4; rfl
  by_cases h5 : c = 18
  · subst h5; rfl
  by_cases h6 : c = 24
  · subst h6; rfl
  by_cases h7 : c = 9
  · subst h7; rfl
  have : ¬ gr_isv true c = true := by
    simp only [gr_isv, Bool.or_eq_true, Bool.and_eq_true, beq_iff_eq, Nat.ble_eq]
    omega
  rw [if_neg this]
  simp [h1, h2, h3, h4, h5, h6, h7]
theorem pc_st_lv {k lv : Nat} {code : gr_cd} {I : hf_I} (h : pc_st I0 tp z k lv code I) : pc_st I0 tp z k (lv + 1) code (hf_up I 123 5 (I 123 5 + 1)) := by
  obtain ⟨h1, h2, h3, h4, h5, h6⟩ := h
  refine ⟨h1, ?_, h3, h4, ⟨fun a a1 a2 a3 => ?_, h6⟩⟩
  · show I 123 5 + 1 = nI (lv + 1)
    rw [h2, nI_1]
  · rw [← h5 a a1 a2 a3]
    simp [hf_up, a1]
/-- a word that stands for a fact -/
theorem cc_fact (hs : hf_Lay t T P) (hby : P 123 2 = some 122) (hz4 : z ≤ 400) (hb : tk_byte tp z) (hS : I0 123 4 = if S = true then 0 else 1) {k lv e : Nat} {code : gr_cd} {I : hf_I} {Q : Option Value → hf_M → Prop} {kk nn : Nat} (hlen : code.length ≤ k) (hst : pc_st I0 tp z k lv code I) (hpo : pc_po I0 tp z t T L P code (if gr_isv S (tk_c tp z k) = true then (if S = true ∧ (tk_c tp z k = 24 ∨ tk_c tp z k = 9) then (if tk_c tp z (k + 1) = 50 ∧ tk_v tp z (k + 1) ≤ 15 then gr_gd (k + 2) lv [(1, gr_fx S (tk_c tp z k) (tk_v tp z (k + 1)))] fun f => some (f (gr_fx S (tk_c tp z k) (tk_v tp z (k + 1)))) else gr_fl (k + 1)) else gr_gd (k + 1) lv [(1, gr_fx S (tk_c tp z k) 0)] fun f => some (f (gr_fx S (tk_c tp z k) 0))) else gr_fl k) Q) : hf_G X Y_X5_readFact (e + 6) kk nn 0 (hf_en [.ref 123] 3) [] (t, T, I, L, P) Q := by
  have h4 : I 123 4 = if S = true then 0 else 1 := hst.2.2.2.2.2.2.1.trans hS
  have ne0 : gr_isv S (tk_c tp z k) = true → ¬ tk_c tp z k = 0 := by
    intro g q
    rw [q] at g
    cases S <;> simp [gr_isv] at g
  cases S with
  | false =>
    have h4' : I 123 4 = 1 := h4
    refine w_X5_readFact_0 hs hby ⟨fun g => absurd (h4'.symm.trans g) (by decide), fun _ => cw_lw (d := e) hs hby hz4 hst.1 ?_⟩
    rw [tk_pj_l]
    by_cases hv : 8 ≤ tk_c tp z k ∧ tk_c tp z k ≤ 20
    · have hv' : gr_isv false (tk_c tp z k) = true := by
        simp only [gr_isv, Bool.and_eq_true, Nat.ble_eq]
        exact hv
      rw [if_pos hv]
      rw [if_pos hv', if_neg (by simp)] at hpo
      have hk := tk_c_lt (tp := tp) (ne0 hv')
      refine w_X5_readFact_18 hs hby ⟨fun _ => cp_adv (d := e + 4) hs hby hz4 hst fun I1 hst1 => ?_, fun g => absurd g (hf_nm1 (by omega))⟩
      have h41 : I1 123 4 = 1 := hst1.2.2.2.2.2.2.1.trans hS
      refine w_X5_readFact_33 hs hby ⟨fun _ => cp_addStep hs hst1 (by omega) fun I2 hst2 => w_X5_readFact_89 hs hby ⟨fun _ => pc_po_gd hpo hst2, fun g => absurd g (by decide)⟩, fun g => absurd (h41.symm.trans g) (by decide)⟩
    · have hv' : ¬ gr_isv false (tk_c tp z k) = true := by
        simp only [gr_isv, Bool.and_eq_true, Nat.ble_eq]
        exact hv
      rw [if_neg hv]
      rw [if_neg hv'] at hpo
      exact w_X5_readFact_18 hs hby ⟨fun g => absurd rfl g, fun _ => pc_po_fl hst hpo⟩
  | true =>
    have h4' : I 123 4 = 0 := h4
    refine w_X5_readFact_0 hs hby ⟨fun _ => cw_sw (d := e) hs hby hz4 hst.1 ?_, fun g => absurd h4' g⟩
    rw [tk_pj_s]
    by_cases hv : gr_isv true (tk_c tp z k) = true
    · rw [if_pos hv]
      rw [if_pos hv] at hpo
      have hk := tk_c_lt (tp := tp) (ne0 hv)
      have hlt : (if tk_c tp z k = 24 then 5 else if tk_c tp z k = 9 then 6 else gr_fx true (tk_c tp z k) 0) < 100 := by
        rw [gr_fx_t]
        repeat' split
        all_goals omega
      refine w_X5_readFact_18 hs hby ⟨fun _ => cp_adv (d := e + 4) hs hby hz4 hst fun I1 hst1 => ?_, fun g => absurd g (hf_nm1 (by omega))⟩
      have h41 : I1 123 4 = 0 := hst1.2.2.2.2.2.2.1.trans hS
      by_cases hw : tk_c tp z k = 24 ∨ tk_c tp z k = 9
      · rw [if_pos ⟨rfl, hw⟩] at hpo
        have h56 : (if tk_c tp z k = 24 then 5 else if tk_c tp z k = 9 then 6 else gr_fx true (tk_c tp z k) 0) = if tk_c tp z k = 24 then 5 else 6 := by
          rcases hw with hw | hw <;> simp [hw]
        rw [h56]
        refine w_X5_readFact_33 hs hby ⟨fun g => absurd h41 g, fun _ => ⟨fun g => absurd g ?_, fun _ => ca_numberTo (mo := 15) (d := e + 4) hs hby hz4 (by omega) hst1.1 ?_⟩⟩
        · rcases hw with hw | hw <;> rw [hw] <;> decide
        · by_cases hn : tk_c tp z (k + 1) = 50 ∧ tk_v tp z (k + 1) ≤ 15
          · rw [if_pos hn] at hpo ⊢
            have hk2 := tk_c_lt (tp := tp) (z := z) (k := k + 1) (by omega)
            refine w_X5_readFact_51 hs hby ⟨fun _ => cp_adv (d := e + 4) hs hby hz4 hst1 fun I2 hst2 => ?_, fun g => absurd g (hf_nm1 (by omega))⟩
            refine w_X5_readFact_66 hs hby ⟨fun g => ?_, fun g => ?_⟩
            · have hc : tk_c tp z k = 9 := by
                rcases hw with hw | hw
                · rw [hw] at g; exact absurd rfl g
                · exact hw
              have e2 : (21 : Int32) + nI (tk_v tp z (k + 1)) = nI (gr_fx true (tk_c tp z k) (tk_v tp z (k + 1))) := by
                rw [hc, show (21 : Int32) = nI 21 from rfl, nI_add]
                rfl
              rw [e2]
              exact cp_addStep hs hst2 (by omega) fun I3 hst3 => w_X5_readFact_89 hs hby ⟨fun _ => pc_po_gd hpo hst3, fun g => absurd g (by decide)⟩
            · have hc : tk_c tp z k = 24 := by
                rcases hw with hw | hw
                · exact hw
                · rw [hw] at g; exact absurd g (by decide)
              have e2 : (5 : Int32) + nI (tk_v tp z (k + 1)) = nI (gr_fx true (tk_c tp z k) (tk_v tp z (k + 1))) := by
                rw [hc, show (5 : Int32) = nI 5 from rfl, nI_add]
                rfl
              rw [e2]
              exact cp_addStep hs hst2 (by omega) fun I3 hst3 => w_X5_readFact_89 hs hby ⟨fun _ => pc_po_gd hpo hst3, fun g => absurd g (by decide)⟩
          · rw [if_neg hn] at hpo ⊢
            exact w_X5_readFact_51 hs hby ⟨fun g => absurd rfl g, fun _ => pc_po_fl hst1 hpo⟩
      · rw [if_neg (fun q => hw q.2)] at hpo
        have h5 : (if tk_c tp z k = 24 then 5 else if tk_c tp z k = 9 then 6 else gr_fx true (tk_c tp z k) 0) = gr_fx true (tk_c tp z k) 0 := by
          rw [if_neg (fun q => hw (Or.inl q)), if_neg (fun q => hw (Or.inr q))]
        have h5l : gr_fx true (tk_c tp z k) 0 < 5 := by
          simp only [gr_isv, Bool.or_eq_true, Bool.and_eq_true, beq_iff_eq, Nat.ble_eq] at hv
          rw [gr_fx_t]
          repeat' split
          all_goals omega
        rw [h5]
        exact w_X5_readFact_33 hs hby ⟨fun g => absurd h41 g, fun _ => ⟨fun _ => cp_addStep hs hst1 (by omega) fun I2 hst2 => w_X5_readFact_89 hs hby ⟨fun _ => pc_po_gd hpo hst2, fun g => absurd g (by decide)⟩, fun g => absurd (nI_lt (b := 5) h5l (by omega)) g⟩⟩
    · rw [if_neg hv]
      rw [if_neg hv] at hpo
      exact w_X5_readFact_18 hs hby ⟨fun g => absurd rfl g, fun _ => pc_po_fl hst hpo⟩
theorem hf_nb0 : narrow .boolean (.int 0) = .int 0 := by decide
theorem hf_nb1 : narrow .boolean (.int 1) = .int 1 := by decide
theorem cc_0s (hs : hf_Lay t T P) (hby : P 123 2 = some 122) (hz4 : z ≤ 400) (hb : tk_byte tp z) (hS : I0 123 4 = if S = true then 0 else 1) (ih : cc_all X t T L P I0 tp z S n) : cc_e X t T L P I0 tp z S Y_X5_readPart 3 0 (n + 1) := by
  intro dp k lv a code I Q D kk nn hD hdp hlv hlen hst hne hpo
  obtain ⟨i0, i1, i2, i3, i4, i5, i6, i7, i8, i9, i10⟩ := ih
  obtain ⟨e, rfl⟩ : ∃ e, D = e + 7 := ⟨D - 7, by omega⟩
  rw [gr_ps_0] at hne hpo
  refine w_X5_readPart_0 hs hby (ca_isSign (ch := 91) hs hby hz4 hb (by omega) hst.1 ?_)
  by_cases ho : tk_c tp z k = 191
  · rw [hf_b1 ho]
    rw [if_pos ho] at hne hpo
    have hk : k < z := tk_c_lt (tp := tp) (by omega)
    by_cases h8 : dp = 8
    · rw [if_pos h8] at hpo
      exact w_X5_readPart_6 hs hby ⟨fun g => absurd g (by decide), fun _ => ⟨fun g => absurd g (by rw [h8]; decide), fun _ => pc_po_fl hst hpo⟩⟩
    · rw [if_neg h8] at hne hpo
      refine w_X5_readPart_6 hs hby ⟨fun g => absurd g (by decide), fun _ => ⟨fun _ => cp_adv (d := e + 5) hs hby hz4 hst fun I1 hst1 => w_X5_readPart_24 hs hby ?_, fun g => absurd (nI_lt (a := dp) (b := 8) (by omega) (by omega)) g⟩⟩
      rw [nI_1]
      refine i3 (dp + 1) (k + 1) lv a code I1 _ (e + 6) 0 0 (by omega) (by omega) hlv (by omega) hst1 (gr_bd_ne hne) (pc_po_bd hpo (fun I2 e1 hst2 hpo2 => ?_) fun I2 hq => ?_)
      · refine w_X5_readPart_31 hs hby ⟨fun _ => ca_isSign (ch := 93) hs hby hz4 hb (by omega) hst2.1 ?_, fun g => absurd g (by decide)⟩
        by_cases hc : tk_c tp z (gr_ps S (tk_c tp z) (tk_v tp z) n 3 0 (dp + 1) (k + 1) lv a).2.1 = 193
        · rw [hf_b1 hc]
          rw [if_pos hc] at hpo2
          exact w_X5_readPart_42 hs hby ⟨fun _ => cp_adv (d := e + 5) hs hby hz4 hst2 fun I3 hst3 => w_X5_readPart_54 hs hby (pc_po_gd hpo2 hst3), fun g => absurd g (by decide)⟩
        · rw [hf_b0 hc]
          rw [if_neg hc] at hpo2
          exact w_X5_readPart_42 hs hby ⟨fun g => absurd rfl g, fun _ => hpo2.2 rfl _ (pc_fail hst2).1 (pc_fail hst2).2⟩
      · exact w_X5_readPart_31 hs hby ⟨fun g => absurd rfl g, fun _ => hq⟩
  · rw [hf_b0 ho]
    rw [if_neg ho] at hpo
    by_cases h50 : lv = 50
    · have hQ : Q (some (.int 0)) (t, T, hf_up I 123 1 (I 123 7), L, P) := by
        refine pc_po_fl hst ?_
        rw [if_pos h50, if_pos h50] at hpo
        by_cases g1 : tk_c tp z k = 50 ∧ tk_v tp z k ≤ 1000
        · rw [if_pos g1] at hpo; exact hpo
        · rw [if_neg g1] at hpo
          by_cases g2 : gr_isv S (tk_c tp z k) = true
          · rw [if_pos g2] at hpo; exact hpo
          · rw [if_neg g2] at hpo; exact hpo
      refine w_X5_readPart_6 hs hby ⟨fun _ => ⟨fun g => absurd g ?_, fun _ => hQ⟩, fun g => absurd rfl g⟩
      rw [hst.2.1, h50]
      decide
    · rw [if_neg h50, if_neg h50] at hpo
      have hst' := pc_st_lv hst
      refine w_X5_readPart_6 hs hby ⟨fun _ => ⟨fun _ => ca_numberTo (mo := 1000) (d := e + 5) hs hby hz4 (by omega) hst'.1 ?_, fun g => absurd ?_ g⟩, fun g => absurd rfl g⟩
      · by_cases g1 : tk_c tp z k = 50 ∧ tk_v tp z k ≤ 1000
        · rw [if_pos g1] at hpo ⊢
          have hk : k < z := tk_c_lt (tp := tp) (by omega)
          exact w_X5_readPart_87 hs hby ⟨fun _ => cp_adv (d := e + 5) hs hby hz4 hst' fun I1 hst1 => w_X5_readPart_102 hs hby (cp_addStep (s := 0) hs hst1 (by omega) fun I2 hst2 => w_X5_readPart_111 hs hby ⟨fun _ => pc_po_gd hpo hst2, fun g => absurd g (by decide)⟩), fun g => absurd g (hf_nm1 (by omega))⟩
        · rw [if_neg g1] at hpo ⊢
          refine w_X5_readPart_87 hs hby ⟨fun g => absurd rfl g, fun _ => cc_fact (e := e) (S := S) hs hby hz4 hb hS hlen hst' ⟨fun e1 I1 hst1 => w_X5_readPart_97 hs hby ⟨hf_nb1, hpo.1 e1 I1 hst1⟩, fun e1 I1 q1 q2 => w_X5_readPart_97 hs hby ⟨hf_nb0, hpo.2 e1 I1 q1 q2⟩⟩⟩
      · rw [hst.2.1]
        exact nI_lt (b := 50) (by omega) (by omega)
theorem cc_zero : cc_all X t T L P I0 tp z S 0 := by
  refine ⟨?_, ?_, ?_, ?_, ?_, ?_, ?_, ?_, ?_, ?_, ?_⟩
  · intro dp k lv a code I Q D kk nn hD hdp hlv hlen hst hne; exact absurd rfl hne
  · intro dp k lv a code I Q D kk nn hD hdp hlv hlen hst hne; exact absurd rfl hne
  · intro dp k lv j a code I Q D kk nn hD hdp hlv hlen hj hst hne; exact absurd rfl hne
  · intro dp k lv a code I Q D kk nn hD hdp hlv hlen hst hne; exact absurd rfl hne
  · intro dp k lv j a code I Q D kk nn hD hdp hlv hlen hj hst hne; exact absurd rfl hne
  · intro x dp k lv j a code I Q D kk nn hD hx hdp hlv hlen hj hst hne; exact absurd rfl hne
  · intro x dp k lv a code I Q D kk nn hD hx hdp hlv hlen hst hne; exact absurd rfl hne
  · intro dp k lv a code I Q D kk nn hD hdp hlv hlen hst hne; exact absurd rfl hne
  · intro dp k lv j a code I Q D kk nn hD hdp hlv hlen hj hst hne; exact absurd rfl hne
  · intro dp k lv a code I Q D kk nn hD hdp hlv hlen hst hne; exact absurd rfl hne
  · intro dp k lv j a code I Q D kk nn hD hdp hlv hlen hj hst hne; exact absurd rfl hne
theorem cc_any (hs : hf_Lay t T P) (hby : P 123 2 = some 122) (hz4 : z ≤ 400) (hb : tk_byte tp z) (hS : I0 123 4 = if S = true then 0 else 1) : ∀ n, cc_all X t T L P I0 tp z S n := by
  intro n
  induction n with
  | zero => exact cc_zero
  | succ n ih => exact ⟨cc_0s hs hby hz4 hb hS ih, cc_1s hs hby hz4 hb ih, cc_2s hs hby hz4 hb ih, cc_3s hs hby hz4 hb ih, cc_4s hs hby hz4 hb ih, cc_5s hs hby hz4 hb ih, cc_6s hs hby hz4 hb ih, cc_7s hs hby hz4 hb ih, cc_8s hs hby hz4 hb ih, cc_9s hs hby hz4 hb ih, cc_10s hs hby hz4 hb ih⟩

end CPAR
