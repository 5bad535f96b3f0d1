/-! a whole TEXT, read by the model -/
section MREAD
variable {X : hf_X} {d kk nn t : Nat} {T : hf_T} {I I0 : hf_I} {L : hf_L} {P : hf_P} {Q : Option Value → hf_M → Prop} {c v s : Nat → Nat} {m k lv : Nat} {S : Bool}
theorem ms_one (hs : hf_Lay t T P) (htk : mp_tk I0 c v s m) (hS : I0 156 7 = if S = true then 1 else 0) (hk : k ≤ m) (hlv : lv ≤ 50) (hst : mp_st I0 k lv I)
    (h2 : (gr_cl S c v k lv).1 = 2 → ∀ I', mp_st I0 (gr_cl S c v k lv).2.1 (gr_cl S c v k lv).2.2.1 I' → Q none (t, T, I', L, P)) (h1 : (gr_cl S c v k lv).1 = 1 → ∀ I', mp_bd I0 (s (gr_cl S c v k lv).2.1) I' → Q none (t, T, I', L, P)) : hf_G X Y_X12_readOne (d + 609) kk nn 0 (hf_en [.ref 156] 1) [] (t, T, I, L, P) Q := by
  obtain ⟨hm4, hc0, tk⟩ := id htk
  obtain ⟨i0, i1, i2, i3, i4, i5, i6, i7, i8, i9, i10⟩ := cm_any (X := X) (t := t) (T := T) (L := L) (P := P) (S := S) hs htk hS 600
  have hS' : I 156 7 = if S = true then 1 else 0 := by rw [hst.1.2 7 (by omega) (by omega) (by omega)]; exact hS
  have s4 : ∀ {j : Nat}, j ≤ m → s j ≤ 400 := fun h => mp_s4 htk h
  cases S with
  | false =>
    -- a LAW's CLAUSE
    have fin : ∀ I', Q none (t, T, I', L, P) → hf_G X Y_X12_readOne (d + 609) kk nn 18 [none] [] (t, T, I', L, P) Q := fun I' h => w_X12_readOne_18 hs h
    -- the test; pc behind the sum
    have tst : ∀ (pc : Nat), (∀ I', hf_G X Y_X12_takes0 (d + 607) 0 0 0 (hf_en [.ref 156, .int 4] 3) [] (t, T, I', L, P) (fun r M => hf_G X Y_X12_readClause (d + 608) 0 0 34 [some (.ref 156)] (r.toList ++ []) M (fun r M => hf_G X Y_X12_readOne (d + 609) kk nn 18 [none] (r.toList ++ []) M Q)) → hf_G X Y_X12_readClause (d + 608) 0 0 pc [some (.ref 156)] [] (t, T, I', L, P) (fun r M => hf_G X Y_X12_readOne (d + 609) kk nn 18 [none] (r.toList ++ []) M Q)) → ∀ (r1 : gr_r), ¬ gr_kd false (c k) = 0 → gr_sm false c v (gr_kd false (c k) - 1) (k + 1) lv = r1 → r1.1 = 2 → ∀ I', mp_st I0 r1.2.1 r1.2.2.1 I' → hf_G X Y_X12_readClause (d + 608) 0 0 pc [some (.ref 156)] [] (t, T, I', L, P) (fun r M => hf_G X Y_X12_readOne (d + 609) kk nn 18 [none] (r.toList ++ []) M Q) := by
      intro pc hpc r1 h0 er1 hr1 I1 hst1
      have hk1 := gr_lt' hc0 (gr_kd_ne h0)
      have fw := gr_sm_fw (S := false) (c := c) (v := v) (kd := gr_kd false (c k) - 1) (k := k + 1) (lv := lv) (by rw [er1]; exact hr1)
      have top := (gr_sm_n (S := false) (v := v) (kd := gr_kd false (c k) - 1) (lv := lv) hc0 hm4 hk1).2
      rw [er1] at fw top
      have et : gr_tm false c v r1.2.1 = (2, r1.2.1, 1) := by unfold gr_tm; rw [if_neg (by simp)]
      refine hpc I1 (mt_takes (ch := 4) hs htk top (by omega) hst1 (fun hi I2 hst2 => ?_) fun hi => ?_)
      · have ei : gr_if false c v r1.2.1 r1.2.2.1 = gr_ps false c v 600 9 0 0 (r1.2.1 + 1) r1.2.2.1 (fun _ => none) := by unfold gr_if; rw [if_pos hi]
        have hk3 := mp_lt htk (k := r1.2.1) (by omega)
        have n0 := gr_n0 (S := false) (v := v) (lv := r1.2.2.1) hc0 hm4 (show r1.2.1 + 1 ≤ m by omega) (show 9 ≤ 10 by omega) (a := fun _ => none)
        refine w_X12_readClause_34 hs ⟨fun g => absurd g (by decide), fun _ => i9 0 (r1.2.1 + 1) r1.2.2.1 _ I2 _ (d + 607) 0 0 (by omega) (by omega) (fw.2.2.2 hlv) (by omega) hst2 n0.1 ⟨fun e5 I5 hst5 => ?_, fun e5 I5 hb5 => ?_⟩⟩
        · have ecl := gr_cl_e h0 er1 hr1 et rfl ei e5
          exact w_X12_readClause_42 hs (fin _ (h2 (by rw [ecl]) I5 (by rw [ecl]; exact hst5)))
        · have ecl := gr_cl_d h0 er1 hr1 et rfl ei (by omega)
          exact w_X12_readClause_42 hs (fin _ (h1 (by rw [ecl]) I5 (by rw [ecl]; exact hb5)))
      · have ei : gr_if false c v r1.2.1 r1.2.2.1 = gr_gd r1.2.1 r1.2.2.1 [] (fun _ => some 1) := by unfold gr_if; rw [if_neg hi]
        have ecl := gr_cl_e h0 er1 hr1 et rfl ei rfl
        exact w_X12_readClause_34 hs ⟨fun _ => fin _ (h2 (by rw [ecl]) I1 (by rw [ecl]; exact hst1)), fun g => absurd rfl g⟩
    -- a sum
    have sum : ∀ I1, mp_st I0 (k + 1) lv I1 → ¬ gr_kd false (c k) = 0 → gr_wsm false (gr_kd false (c k) - 1) = true → hf_G X Y_X12_readSum (d + 607) 0 0 0 (hf_en [.ref 156, .int 0] 2) [] (t, T, I1, L, P) (fun r M => hf_G X Y_X12_readClause (d + 608) 0 0 21 [some (.ref 156)] (r.toList ++ []) M (fun r M => hf_G X Y_X12_readOne (d + 609) kk nn 18 [none] (r.toList ++ []) M Q)) := by
      intro I1 hst1 h0 hw
      have hk1 := gr_lt' hc0 (gr_kd_ne h0)
      have es : gr_sm false c v (gr_kd false (c k) - 1) (k + 1) lv = gr_ps false c v 600 3 0 0 (k + 1) lv (fun _ => none) := by unfold gr_sm; rw [if_pos hw]
      have n0 := gr_n0 (S := false) (v := v) (lv := lv) hc0 hm4 (show k + 1 ≤ m by omega) (show 3 ≤ 10 by omega) (a := fun _ => none)
      refine i3 0 (k + 1) lv _ I1 _ (d + 607) 0 0 (by omega) (by omega) hlv (by omega) hst1 n0.1 ⟨fun e5 I5 hst5 => ?_, fun e5 I5 hb5 => ?_⟩
      · exact tst 21 (fun I' h => w_X12_readClause_21 hs h) _ h0 es e5 I5 hst5
      · have hd := mp_no (s4 n0.2) hb5
        have ecl := gr_cl_b (v := v) (lv := lv) h0 (by rw [es]; omega)
        rw [es] at ecl
        exact w_X12_readClause_21 hs (md_takes hs hd (w_X12_readClause_34 hs ⟨fun _ => fin _ (h1 (by rw [ecl]) I5 (by rw [ecl]; exact hb5)), fun g => absurd rfl g⟩))
    refine w_X12_readOne_0 hs ⟨fun _ => w_X12_readClause_0 hs (mt_takes (ch := 1) hs htk hk (by omega) hst (fun hi I1 hst1 => w_X12_readClause_5 hs ⟨fun _ => sum I1 hst1 (by rw [hi]; decide) (by rw [hi]; decide), fun g => absurd g (by decide)⟩) fun hi1 => w_X12_readClause_5 hs ⟨fun g => absurd rfl g, fun _ => mt_takes (ch := 2) hs htk hk (by omega) hst (fun hi I1 hst1 => w_X12_readClause_13 hs ⟨fun g => absurd g (by decide), fun _ => sum I1 hst1 (by rw [hi]; decide) (by rw [hi]; decide)⟩) fun hi2 => w_X12_readClause_13 hs ⟨fun _ => mt_must (ch := 3) (d := d + 605) hs htk hk (by omega) hst (fun hi I1 hst1 => ?_) fun hi3 I1 hb1 => ?_, fun g => absurd rfl g⟩⟩), fun g => absurd hS' g⟩
    · refine tst 29 (fun I' h => w_X12_readClause_29 hs h) (gr_gd (k + 1) lv [] (fun _ => some 1)) (by rw [hi]; decide) ?_ rfl I1 hst1
      rw [hi]
      rfl
    · have h0 : gr_kd false (c k) = 0 := by simp [gr_kd, hi1, hi2, hi3]
      have hd := mp_no (s4 hk) hb1
      exact w_X12_readClause_29 hs (md_takes hs hd (w_X12_readClause_34 hs ⟨fun _ => fin _ (h1 (by rw [gr_cl_a h0]) I1 (by rw [gr_cl_a h0]; exact hb1)), fun g => absurd rfl g⟩))
  | true =>
    have fin : ∀ I', Q none (t, T, I', L, P) → hf_G X Y_X12_readOne (d + 609) kk nn 11 [none] [] (t, T, I', L, P) Q := fun I' h => w_X12_readOne_11 hs h
    -- behind a fault
    have dead47 : ∀ I', ¬ I' 156 18 = -1 → Q none (t, T, I', L, P) → hf_G X Y_X12_takes0 (d + 607) 0 0 0 (hf_en [.ref 156, .int 28] 3) [] (t, T, I', L, P) (fun r M => hf_G X Y_X12_readSetting (d + 608) 0 0 47 [some (.ref 156)] (r.toList ++ []) M (fun r M => hf_G X Y_X12_readOne (d + 609) kk nn 11 [none] (r.toList ++ []) M Q)) := fun I' hd h => md_takes hs hd (w_X12_readSetting_47 hs ⟨fun _ => md_takes hs hd (w_X12_readSetting_62 hs ⟨fun _ => fin _ h, fun g => absurd rfl g⟩), fun g => absurd rfl g⟩)
    have tst : ∀ (r1 : gr_r), ¬ gr_kd true (c k) = 0 → gr_sm true c v (gr_kd true (c k) - 1) (k + 1) lv = r1 → r1.1 = 2 → ∀ I', mp_st I0 r1.2.1 r1.2.2.1 I' → hf_G X Y_X12_takes0 (d + 607) 0 0 0 (hf_en [.ref 156, .int 28] 3) [] (t, T, I', L, P) (fun r M => hf_G X Y_X12_readSetting (d + 608) 0 0 47 [some (.ref 156)] (r.toList ++ []) M (fun r M => hf_G X Y_X12_readOne (d + 609) kk nn 11 [none] (r.toList ++ []) M Q)) := by
      intro r1 h0 er1 hr1 I1 hst1
      have hk1 := gr_lt' hc0 (gr_kd_ne h0)
      have fw := gr_sm_fw (S := true) (c := c) (v := v) (kd := gr_kd true (c k) - 1) (k := k + 1) (lv := lv) (by rw [er1]; exact hr1)
      have top := (gr_sm_n (S := true) (v := v) (kd := gr_kd true (c k) - 1) (lv := lv) hc0 hm4 hk1).2
      rw [er1] at fw top
      -- the test
      have tif : ∀ (q : Nat × Nat × Nat), gr_tm true c v r1.2.1 = q → q.1 = 2 → ∀ I3, mp_st I0 q.2.1 r1.2.2.1 I3 → hf_G X Y_X12_takes0 (d + 607) 0 0 0 (hf_en [.ref 156, .int 4] 3) [] (t, T, I3, L, P) (fun r M => hf_G X Y_X12_readSetting (d + 608) 0 0 62 [some (.ref 156)] (r.toList ++ []) M (fun r M => hf_G X Y_X12_readOne (d + 609) kk nn 11 [none] (r.toList ++ []) M Q)) := by
        intro q eq hq I3 hst3
        have tn := (gr_tm_n (S := true) (v := v) hc0 top).2
        rw [eq] at tn
        refine mt_takes (ch := 4) hs htk tn (by omega) hst3 (fun hi I2 hst2 => ?_) fun hi => ?_
        · have ei : gr_if true c v q.2.1 r1.2.2.1 = gr_ps true c v 600 9 0 0 (q.2.1 + 1) r1.2.2.1 (fun _ => none) := by unfold gr_if; rw [if_pos hi]
          have hk3 := mp_lt htk (k := q.2.1) (by omega)
          have n0 := gr_n0 (S := true) (v := v) (lv := r1.2.2.1) hc0 hm4 (show q.2.1 + 1 ≤ m by omega) (show 9 ≤ 10 by omega) (a := fun _ => none)
          refine w_X12_readSetting_62 hs ⟨fun g => absurd g (by decide), fun _ => i9 0 (q.2.1 + 1) r1.2.2.1 _ I2 _ (d + 607) 0 0 (by omega) (by omega) (fw.2.2.2 hlv) (by omega) hst2 n0.1 ⟨fun e5 I5 hst5 => ?_, fun e5 I5 hb5 => ?_⟩⟩
          · have ecl := gr_cl_e h0 er1 hr1 eq hq ei e5
            exact w_X12_readSetting_70 hs (fin _ (h2 (by rw [ecl]) I5 (by rw [ecl]; exact hst5)))
          · have ecl := gr_cl_d h0 er1 hr1 eq hq ei (by omega)
            exact w_X12_readSetting_70 hs (fin _ (h1 (by rw [ecl]) I5 (by rw [ecl]; exact hb5)))
        · have ei : gr_if true c v q.2.1 r1.2.2.1 = gr_gd q.2.1 r1.2.2.1 [] (fun _ => some 1) := by unfold gr_if; rw [if_neg hi]
          have ecl := gr_cl_e h0 er1 hr1 eq hq ei rfl
          exact w_X12_readSetting_62 hs ⟨fun _ => fin _ (h2 (by rw [ecl]) I3 (by rw [ecl]; exact hst3)), fun g => absurd rfl g⟩
      refine mt_takes (ch := 28) hs htk top (by omega) hst1 (fun ht I2 hst2 => ?_) fun ht => ?_
      · have hk3 := mp_lt htk (k := r1.2.1) (by omega)
        refine w_X12_readSetting_47 hs ⟨fun g => absurd g (by decide), fun _ => mt_mustNumber (lo := 1) (hi2 := 20) (d := d + 605) hs htk (by omega) (by omega) (by omega) hst2 (fun hn I3 hst3 => ?_) fun hn I3 hb3 => ?_⟩
        · have et : gr_tm true c v r1.2.1 = (2, r1.2.1 + 2, v (r1.2.1 + 1)) := by
            unfold gr_tm
            rw [if_pos ⟨rfl, ht⟩, if_pos hn]
          exact w_X12_readSetting_57 hs (tif _ et rfl I3 hst3)
        · have et : gr_tm true c v r1.2.1 = (1, r1.2.1 + 1, 0) := by
            unfold gr_tm
            rw [if_pos ⟨rfl, ht⟩, if_neg hn]
          have ecl := gr_cl_c h0 er1 hr1 (by rw [et]; show ¬ (1 = 2); omega)
          rw [et] at ecl
          have hd := mp_no (s4 (show r1.2.1 + 1 ≤ m by omega)) hb3
          exact w_X12_readSetting_57 hs (md_takes hs hd (w_X12_readSetting_62 hs ⟨fun _ => fin _ (h1 (by rw [ecl]) I3 (by rw [ecl]; exact hb3)), fun g => absurd rfl g⟩))
      · have et : gr_tm true c v r1.2.1 = (2, r1.2.1, 1) := by
          unfold gr_tm
          rw [if_neg (fun q => ht q.2)]
        exact w_X12_readSetting_47 hs ⟨fun _ => tif _ et rfl I1 hst1, fun g => absurd rfl g⟩
    have sum : ∀ I1, mp_st I0 (k + 1) lv I1 → ¬ gr_kd true (c k) = 0 → gr_wsm true (gr_kd true (c k) - 1) = true → hf_G X Y_X12_readSum (d + 607) 0 0 0 (hf_en [.ref 156, .int 0] 2) [] (t, T, I1, L, P) (fun r M => hf_G X Y_X12_readSetting (d + 608) 0 0 23 [some (.ref 156)] (r.toList ++ []) M (fun r M => hf_G X Y_X12_readOne (d + 609) kk nn 11 [none] (r.toList ++ []) M Q)) := by
      intro I1 hst1 h0 hw
      have hk1 := gr_lt' hc0 (gr_kd_ne h0)
      have es : gr_sm true c v (gr_kd true (c k) - 1) (k + 1) lv = gr_ps true c v 600 3 0 0 (k + 1) lv (fun _ => none) := by unfold gr_sm; rw [if_pos hw]
      have n0 := gr_n0 (S := true) (v := v) (lv := lv) hc0 hm4 (show k + 1 ≤ m by omega) (show 3 ≤ 10 by omega) (a := fun _ => none)
      refine i3 0 (k + 1) lv _ I1 _ (d + 607) 0 0 (by omega) (by omega) hlv (by omega) hst1 n0.1 ⟨fun e5 I5 hst5 => ?_, fun e5 I5 hb5 => ?_⟩
      · exact w_X12_readSetting_23 hs (tst _ h0 es e5 I5 hst5)
      · have hd := mp_no (s4 n0.2) hb5
        have ecl := gr_cl_b (v := v) (lv := lv) h0 (by rw [es]; omega)
        rw [es] at ecl
        exact w_X12_readSetting_23 hs (dead47 I5 hd (h1 (by rw [ecl]) I5 (by rw [ecl]; exact hb5)))
    have nos : ∀ I1, mp_st I0 (k + 1) lv I1 → ¬ gr_kd true (c k) = 0 → ¬ gr_wsm true (gr_kd true (c k) - 1) = true → hf_G X Y_X12_takes0 (d + 607) 0 0 0 (hf_en [.ref 156, .int 28] 3) [] (t, T, I1, L, P) (fun r M => hf_G X Y_X12_readSetting (d + 608) 0 0 47 [some (.ref 156)] (r.toList ++ []) M (fun r M => hf_G X Y_X12_readOne (d + 609) kk nn 11 [none] (r.toList ++ []) M Q)) := by
      intro I1 hst1 h0 hw
      exact tst (gr_gd (k + 1) lv [] (fun _ => some 1)) h0 (by unfold gr_sm; rw [if_neg hw]) rfl I1 hst1
    refine w_X12_readOne_0 hs ⟨fun g => absurd (hS'.symm.trans g) (by decide), fun _ => w_X12_readSetting_0 hs (mt_takes (ch := 25) hs htk hk (by omega) hst (fun hi I1 hst1 => w_X12_readSetting_6 hs ⟨fun _ => sum I1 hst1 (by rw [hi]; decide) (by rw [hi]; decide), fun g => absurd g (by decide)⟩) fun hi1 => w_X12_readSetting_6 hs ⟨fun g => absurd rfl g, fun _ => mt_takes (ch := 18) hs htk hk (by omega) hst (fun hi I1 hst1 => w_X12_readSetting_15 hs ⟨fun g => absurd g (by decide), fun _ => sum I1 hst1 (by rw [hi]; decide) (by rw [hi]; decide)⟩) fun hi2 => w_X12_readSetting_15 hs ⟨fun _ => mt_takes (ch := 26) hs htk hk (by omega) hst (fun hi I1 hst1 => w_X12_readSetting_32 hs ⟨fun _ => nos I1 hst1 (by rw [hi]; decide) (by rw [hi]; decide), fun g => absurd g (by decide)⟩) fun hi3 => w_X12_readSetting_32 hs ⟨fun g => absurd rfl g, fun _ => mt_must (ch := 27) (d := d + 605) hs htk hk (by omega) hst (fun hi I1 hst1 => w_X12_readSetting_41 hs (nos I1 hst1 (by rw [hi]; decide) (by rw [hi]; decide))) fun hi4 I1 hb1 => ?_⟩, fun g => absurd rfl g⟩⟩)⟩
    have h0 : gr_kd true (c k) = 0 := by simp [gr_kd, hi1, hi2, hi3, hi4]
    have hd := mp_no (s4 hk) hb1
    exact w_X12_readSetting_41 hs (dead47 I1 hd (h1 (by rw [gr_cl_a h0]) I1 (by rw [gr_cl_a h0]; exact hb1)))
/-- the cells behind a reading -/
def rd_fr (I0 I : hf_I) : Prop := (∀ a, ¬ a = 156 → ¬ a = 165 → ¬ a = 166 → ¬ a = 167 → I a = I0 a) ∧ ∀ i, ¬ i = 10 → ¬ i = 11 → ¬ i = 15 → ¬ i = 16 → ¬ i = 17 → ¬ i = 18 → I 156 i = I0 156 i
theorem ms_reads {Ib : hf_I} {tp : Nat → Int32} {z : Nat} (hs : hf_Lay t T P) (hwb : S_wb (Ib 162)) (hz4 : z ≤ 400) (hb : tk_byte tp z) (hm : m ≤ z) (hlt : ∀ k, k < m → tk_s tp z k < z) (hge : ∀ k, m ≤ k → tk_s tp z k = z) (ht : Ib 163 = tp) (h10 : Ib 156 10 = nI z) (hS : Ib 156 7 = if S = true then 1 else 0)
    (h2 : (gr_al S (tk_c tp z) (tk_v tp z) m 12 0 0).1 = 2 → ∀ I', rd_fr Ib I' → I' 156 10 = 0 → I' 156 11 = -1 → I' 156 15 = nI m → (∀ k, k ≤ m → sp_rw tp z k I') → Q (some (.int 1)) (t, T, I', L, P))
    (h1 : (gr_al S (tk_c tp z) (tk_v tp z) m 12 0 0).1 = 1 → ∀ I', rd_fr Ib I' → I' 156 10 = 0 → I' 156 11 = nI (tk_s tp z (gr_al S (tk_c tp z) (tk_v tp z) m 12 0 0).2.1) → Q (some (.int 0)) (t, T, I', L, P)) : hf_G X Y_X12_reads (d + 611) kk nn 0 (hf_en [.ref 156] 2) [] (t, T, Ib, L, P) Q := by
  refine w_X12_reads_0 hs ?_
  rw [h10]
  refine ms_splits (d := d + 608) hs hwb hz4 hb ht fun I1 m' hm' hlt' hge' hfr1 h15 hrw => ?_
  obtain rfl : m' = m := by
    rcases Nat.lt_trichotomy m' m with u | u | u
    · have a1 := hlt m' u
      have a2 := hge' m' (Nat.le_refl _)
      omega
    · exact u
    · have a1 := hlt' m u
      have a2 := hge m (Nat.le_refl _)
      omega
  -- the base of the reading
  let J : hf_I := hf_up (hf_up (hf_up (hf_up I1 156 10 0) 156 16 0) 156 17 0) 156 18 (-1)
  have frJ : rd_fr Ib J := by
    refine ⟨fun a a1 a2 a3 a4 => ?_, fun i i1 i2 i3 i4 i5 i6 => ?_⟩
    · rw [← hfr1.1 a a1 a2 a3 a4]
      simp [J, hf_up, a1]
    · rw [← hfr1.2 i i3]
      show upd (upd (upd (upd (I1 156) 10 0) 16 0) 17 0) 18 (-1) i = I1 156 i
      rw [hf_upd_ne i6, hf_upd_ne i5, hf_upd_ne i4, hf_upd_ne i1]
  have htk : mp_tk J (tk_c tp z) (tk_v tp z) (tk_s tp z) m' := by
    refine ⟨hm', fun j hj => tk_c_end (hge j hj), fun k hk => ?_⟩
    obtain ⟨r1, r2, r3⟩ := hrw k hk
    have cb := tk_by_lt (tp (tk_s tp z k))
    refine ⟨⟨r1, ?_⟩, ⟨r2, ?_⟩, r3, ?_⟩
    · rcases tk_c_cs tp z k with ⟨-, q⟩ | ⟨-, q, q2⟩ | ⟨-, q⟩ | ⟨-, q⟩ <;> omega
    · unfold tk_v
      split
      · rename_i h2
        have := tk_dv_le2 (tp := tp) (s := tk_s tp z k) (m := tk_en tp z (tk_s tp z k) - tk_s tp z k) fun i hi => by
          obtain ⟨g, e1, e2, e3⟩ := tk_kd_2 (tk_en_in h2 (q := tk_s tp z k + i) (by omega) (by omega))
          rw [e3, nI_clamp (by omega)]
          omega
        omega
      · omega
    · have := tk_s_le (tp := tp) (z := z) k
      omega
  have hSJ : J 156 7 = if S = true then 1 else 0 := by
    rw [frJ.2 7 (by omega) (by omega) (by omega) (by omega) (by omega) (by omega)]
    exact hS
  have hc0 : ∀ j, m' ≤ j → tk_c tp z j = 0 := fun j hj => tk_c_end (hge j hj)
  -- the end
  have frI : ∀ {I' : hf_I} {w : Int32}, mp_fr J I' → rd_fr Ib (hf_up I' 156 11 w) ∧ hf_up I' 156 11 w 156 10 = 0 ∧ hf_up I' 156 11 w 156 15 = nI m' ∧ ∀ k, k ≤ m' → sp_rw tp z k (hf_up I' 156 11 w) := by
    intro I' w hf
    refine ⟨⟨fun a a1 a2 a3 a4 => ?_, fun i i1 i2 i3 i4 i5 i6 => ?_⟩, ?_, ?_, fun k hk => ?_⟩
    · rw [← frJ.1 a a1 a2 a3 a4, ← hf.1 a a1]
      simp [hf_up, a1]
    · rw [← frJ.2 i i1 i2 i3 i4 i5 i6, ← hf.2 i i4 i5 i6]
      exact hf_upd_ne i2
    · show upd (I' 156) 11 w 10 = 0
      rw [hf_upd_ne (by omega), hf.2 10 (by omega) (by omega) (by omega)]
      rfl
    · show upd (I' 156) 11 w 15 = _
      rw [hf_upd_ne (by omega), hf.2 15 (by omega) (by omega) (by omega)]
      exact h15
    · obtain ⟨r1, r2, r3⟩ := hrw k hk
      refine ⟨?_, ?_, ?_⟩
      · show I' 165 k = _; rw [hf.1 165 (by omega)]; exact r1
      · show I' 166 k = _; rw [hf.1 166 (by omega)]; exact r2
      · show I' 167 k = _; rw [hf.1 167 (by omega)]; exact r3
  have bad43 : ∀ {I' : hf_I} {x : Int32} {b : Nat}, b ≤ 400 → mp_bd J b I' → (∀ I2, rd_fr Ib I2 → I2 156 10 = 0 → I2 156 11 = nI b → Q (some (.int 0)) (t, T, I2, L, P)) → hf_G X Y_X12_reads (d + 611) kk nn 34 [some (.ref 156), some (.int x)] [] (t, T, I', L, P) Q := by
    intro I' x b hb4 hbd hQ
    have hd := mp_no hb4 hbd
    obtain ⟨f1, f2, f3, f4⟩ := frI (w := I' 156 18) hbd.1
    exact w_X12_reads_34 hs (md_takes hs hd (w_X12_reads_43 hs ⟨fun _ => ⟨fun _ => ⟨fun _ => hQ _ f1 f2 hbd.2, fun g => absurd g hd⟩, fun g => absurd g hd⟩, fun g => absurd rfl g⟩))
  have loop : ∀ (j k lv : Nat) (I' : hf_I), 1 ≤ j → j ≤ 12 → k ≤ m' → lv ≤ 50 → mp_st J k lv I' → ((gr_al S (tk_c tp z) (tk_v tp z) m' j k lv).1 = 2 → ∀ I', rd_fr Ib I' → I' 156 10 = 0 → I' 156 11 = -1 → I' 156 15 = nI m' → (∀ k, k ≤ m' → sp_rw tp z k I') → Q (some (.int 1)) (t, T, I', L, P)) → ((gr_al S (tk_c tp z) (tk_v tp z) m' j k lv).1 = 1 → ∀ I', rd_fr Ib I' → I' 156 10 = 0 → I' 156 11 = nI (tk_s tp z (gr_al S (tk_c tp z) (tk_v tp z) m' j k lv).2.1) → Q (some (.int 0)) (t, T, I', L, P)) → hf_G X Y_X12_readOne (d + 610) 0 0 0 (hf_en [.ref 156] 1) [] (t, T, I', L, P) (fun r M => ∃ I2, M = (t, T, I2, L, P) ∧ r = none ∧ hf_G X Y_X12_reads (d + 611) kk nn 34 [some (.ref 156), some (.int (nI (13 - j)))] [] (t, T, I2, L, P) Q) := by
    intro j
    induction j with
    | zero => intro k lv I' h; omega
    | succ j ih =>
      intro k lv I' _ hj hk hlv hst g2 g1
      have cn := gr_cl_n (S := S) (v := tk_v tp z) (lv := lv) hc0 hm' hk
      refine ms_one (d := d + 1) (S := S) hs htk hSJ hk hlv hst (fun e I2 hst2 => ⟨I2, rfl, rfl, ?_⟩) fun e I2 hb2 => ⟨I2, rfl, rfl, ?_⟩
      · have fw := gr_cl_fw e
        generalize hr : gr_cl S (tk_c tp z) (tk_v tp z) k lv = r at *
        have eal : gr_al S (tk_c tp z) (tk_v tp z) m' (j + 1) k lv = if r.2.1 = m' then (2, r.2.1, [r.2.2.2]) else if tk_c tp z r.2.1 = 159 then ((gr_al S (tk_c tp z) (tk_v tp z) m' j (r.2.1 + 1) r.2.2.1).1, (gr_al S (tk_c tp z) (tk_v tp z) m' j (r.2.1 + 1) r.2.2.1).2.1, r.2.2.2 :: (gr_al S (tk_c tp z) (tk_v tp z) m' j (r.2.1 + 1) r.2.2.1).2.2) else (1, r.2.1, []) := by
          rw [gr_al, hr, if_pos e]
        have i15 : ∀ {I3 : hf_I}, mp_fr J I3 → I3 156 15 = nI m' := fun hf => by rw [hf.2 15 (by omega) (by omega) (by omega)]; exact h15
        refine w_X12_reads_34 hs (mt_takes (ch := 159) hs htk cn.2 (by omega) hst2 (fun h9 I3 hst3 => ?_) fun h9 => ?_)
        · have hkm : r.2.1 < m' := mp_lt htk (by omega)
          rw [if_neg (by omega), if_pos h9] at eal
          rw [eal] at g2 g1
          by_cases hj0 : j = 0
          · subst hj0
            have fin := g1 rfl
            refine w_X12_reads_43 hs ⟨fun g => absurd g (by decide), fun _ => ⟨fun g => absurd rfl g, fun _ => ⟨fun g => absurd hst3.2.2.2 g, fun _ => ?_⟩⟩⟩
            have hbd := mt_fault htk (show r.2.1 + 1 ≤ m' by omega) hst3
            rw [hst3.2.1, nI_clamp (show r.2.1 + 1 < 2 ^ 31 by omega)]
            refine ⟨vp_in_nI (by omega) (by omega), fun _ => bad43 (mp_s4 htk (show r.2.1 + 1 ≤ m' by omega)) hbd fin, fun g => ?_⟩
            exact absurd g (mp_no (mp_s4 htk (show r.2.1 + 1 ≤ m' by omega)) hbd)
          · refine w_X12_reads_43 hs ⟨fun g => absurd g (by decide), fun _ => ⟨fun _ => ⟨fun g => absurd hst3.2.2.2 g, fun _ => ?_⟩, fun g => ?_⟩⟩
            · refine hf_mono ?_ (ih (r.2.1 + 1) r.2.2.1 I3 (by omega) (by omega) (by omega) (fw.2.2.2 hlv) hst3 g2 g1)
              rintro r' M' ⟨I4, rfl, rfl, h4⟩
              refine w_X12_reads_67 hs ?_
              rw [nI_1, show 13 - (j + 1) + 1 = 13 - j by omega]
              exact h4
            · have := (nI_eq (b := 12) (by omega) (by omega)).mp g
              omega
        · obtain ⟨f1, f2, f3, f4⟩ := frI (w := I2 156 18) hst2.1
          have hb18 := hst2.2.2.2
          refine w_X12_reads_43 hs ⟨fun _ => ⟨fun g => absurd hb18 g, fun _ => ?_⟩, fun g => absurd rfl g⟩
          rw [i15 hst2.1, hst2.2.1]
          refine ⟨fun g => ⟨fun g => absurd hb18 g, fun _ => ?_⟩, fun g => ⟨fun g => absurd hb18 g, fun _ => ?_⟩⟩
          · have hrm : r.2.1 = m' := by
              have a1 := (nI_leI (by omega) (by omega)).mp g
              have a2 := cn.2
              omega
            rw [if_pos hrm] at eal
            refine g2 (by rw [eal]) _ f1 f2 hb18 f3 f4
          · have hrm : ¬ r.2.1 = m' := fun q => g (by rw [q]; exact nI_le (Nat.le_refl _) (by omega))
            rw [if_neg hrm, if_neg h9] at eal
            have hbd := mt_fault htk cn.2 hst2
            have cn2 := cn.2
            rw [nI_clamp (show r.2.1 < 2 ^ 31 by omega)]
            obtain ⟨u1, u2, u3, u4⟩ := frI (w := I2 167 r.2.1) hbd.1
            refine ⟨vp_in_nI (by omega) (by omega), fun _ => g1 (by rw [eal]) _ u1 u2 ?_, fun g => absurd g (mp_no (mp_s4 htk cn.2) hbd)⟩
            rw [eal]
            exact hbd.2
      · have eal : gr_al S (tk_c tp z) (tk_v tp z) m' (j + 1) k lv = (1, (gr_cl S (tk_c tp z) (tk_v tp z) k lv).2.1, []) := by
          rw [gr_al, if_neg (by omega)]
        refine bad43 (mp_s4 htk cn.2) hb2 fun I3 f1 f2 f3 => g1 (by rw [eal]) I3 f1 f2 ?_
        rw [eal]
        exact f3
  refine w_X12_reads_8 hs ?_
  have := loop 12 0 0 J (by omega) (by omega) (Nat.zero_le _) (by omega) ⟨⟨fun _ _ => rfl, fun _ _ _ _ => rfl⟩, rfl, rfl, rfl⟩ h2 h1
  refine hf_mono ?_ this
  rintro r' M' ⟨I4, rfl, rfl, h4⟩
  exact w_X12_reads_32 hs h4
end MREAD
