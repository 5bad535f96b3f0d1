/-! what a LAW says, by the model -/
theorem lw_cl_64 (x : Int32) : (0 ≤ lg_cmp x.toInt64 0 → (lg_cmp x.toInt64 999 ≤ 0 → (lw_cl x).toInt64 = x.toInt64) ∧ (¬ lg_cmp x.toInt64 999 ≤ 0 → (lw_cl x).toInt64 = 999)) ∧ (¬ 0 ≤ lg_cmp x.toInt64 0 → (lw_cl x).toInt64 = 0) := by
  rw [lg_cmp_ge, lg_cmp_le, Int64.le_iff_toInt_le, Int64.le_iff_toInt_le, Int32.toInt_toInt64]
  have e0 : (0 : Int64).toInt = 0 := by decide
  have e9 : (999 : Int64).toInt = 999 := by decide
  rw [e0, e9]
  have l9 : (x < 999) ↔ x.toInt < 999 := Int32.lt_iff_toInt_lt
  have l0 : (0 < x) ↔ 0 < x.toInt := Int32.lt_iff_toInt_lt
  have ecl : lw_cl x = if 0 < x.toInt then (if x.toInt < 999 then x else 999) else 0 := by
    unfold lw_cl
    by_cases h9 : x.toInt < 999
    · rw [if_pos (l9.mpr h9), if_pos h9]
      by_cases h0 : 0 < x.toInt
      · rw [if_pos (l0.mpr h0), if_pos h0]
      · rw [if_neg (fun q => h0 (l0.mp q)), if_neg h0]
    · rw [if_neg (fun q => h9 (l9.mp q)), if_neg h9, if_pos (by decide), if_pos (by omega)]
  rw [ecl]
  refine ⟨fun h0 => ⟨fun h9 => ?_, fun h9 => ?_⟩, fun h0 => ?_⟩
  · by_cases p0 : 0 < x.toInt
    · rw [if_pos p0]
      by_cases p9 : x.toInt < 999
      · rw [if_pos p9]
      · rw [if_neg p9]
        have : x = 999 := Int32.toInt_inj.mp (show x.toInt = 999 by omega)
        rw [this]
    · rw [if_neg p0]
      have : x = 0 := Int32.toInt_inj.mp (show x.toInt = 0 by omega)
      rw [this]
  · rw [if_pos (by omega), if_neg (by omega)]
    decide
  · rw [if_neg (by omega)]
    decide
def jm_fr (I I' : hf_I) : Prop := (∀ a, ¬ a = 156 → ¬ a = 168 → I' a = I a) ∧ ∀ i, ¬ i = 19 → ¬ i = 20 → ¬ i = 21 → ¬ i = 22 → I' 156 i = I 156 i
/-- a row of TOKENS is kept at place i -/
def kp_tk (K : Nat → Int32) (i : Nat) (c v : Nat → Nat) (m : Nat) : Prop := m ≤ 400 ∧ (∀ j, m ≤ j → c j = 0) ∧ K i = nI m ∧ ∀ k, k < m → (K (7 + 400 * i + k) = nI (c k) ∧ c k < 1000) ∧ K (2807 + 400 * i + k) = nI (v k) ∧ v k < 100000000
/-- the LAW in FORCE, by the model's cells -/
def lw_m (I : hf_I) (cls : List gr_c1) : Prop := (I 158 321 = -1 ∧ cls = []) ∨ ∃ i c v m, I 158 321 = nI i ∧ i < 6 ∧ kp_tk (fun j => I 158 (322 + j)) i c v m ∧ (gr_al false c v m 12 0 0).1 = 2 ∧ (gr_al false c v m 12 0 0).2.2 = cls
section MLAW
variable {X : hf_X} {d kk nn t : Nat} {T : hf_T} {I : hf_I} {L : hf_L} {P : hf_P} {Q : Option Value → hf_M → Prop} {cls : List gr_c1} {kd : Nat} {f : Nat → Int32} {sz wo : Int32}
theorem ms_tells (hs : hf_Lay t T P) (hlw : lw_m I cls) (hkd : kd ≤ 2) (hf10 : ∀ j, j < 10 → I 168 j = f j) (hsz : f 10 = sz) (h11 : I 158 311 = f 11) (h12 : I 158 312 = f 12) (h : ∀ I', jm_fr I I' → Q (some (.int (lw_td (lw_fo f kd none cls) wo))) (t, T, I', L, P)) : hf_G X Y_X12_tells (d + 608) kk nn 0 (hf_en [.ref 156, .int (nI (kd + 1)), .int sz, .int wo] 11) [] (t, T, I, L, P) Q := by
  rcases hlw with ⟨hn, hc⟩ | ⟨i, c, v, m, hi, hi6, ⟨hm4, hc0, hKm, htk⟩, hal, hcls⟩
  · subst hc
    exact w_X12_tells_0 hs ⟨fun g => absurd hn g, fun _ => h I ⟨fun _ _ _ => rfl, fun _ _ _ _ _ => rfl⟩⟩
  · have e322 : (322 : Int32) + nI i = nI (322 + i) := by rw [show (322 : Int32) = nI 322 from rfl, nI_add]
    have e400 : (400 : Int32) * nI i = nI (400 * i) := by rw [show (400 : Int32) = nI 400 from rfl, pk_mul]
    replace hKm : I 158 (322 + i) = nI m := hKm
    refine w_X12_tells_0 hs ?_
    rw [hi, e322, nI_clamp (show 322 + i < 2 ^ 31 by omega), hKm, e400, nI_add]
    refine ⟨fun _ => ⟨vp_in_nI (by omega) (by omega), ?_⟩, fun g => absurd g (hf_nm1 (by omega))⟩
    -- the base
    generalize hJ : hf_up (hf_up (hf_up (hf_up (hf_up (hf_up I 168 10 sz) 168 11 (I 158 311)) 168 12 (I 158 312)) 156 22 0) 156 19 (nI (400 * i))) 156 20 (nI (400 * i + m)) = J
    have frJ : jm_fr I J := by
      rw [← hJ]
      refine ⟨fun a a1 a2 => ?_, fun j j1 j2 j3 j4 => ?_⟩
      · simp [hf_up, a1, a2]
      · show upd (upd (upd (I 156) 22 0) 19 _) 20 _ j = _
        rw [hf_upd_ne j2, hf_upd_ne j1, hf_upd_ne j4]
    have j158 : J 158 = I 158 := frJ.1 158 (by omega) (by omega)
    have evk : ev_tk J false (400 * i) c v m := by
      refine ⟨hm4, by omega, hc0, ?_, ?_, fun k hk => ?_⟩
      · rw [← hJ]; rfl
      · rw [← hJ]; rfl
      · obtain ⟨a1, a2, a3⟩ := htk k hk
        rw [j158]
        refine ⟨⟨?_, a1.2⟩, ?_, a3⟩
        · rw [show 329 + 400 * i + k = 322 + (7 + 400 * i + k) by omega]; exact a1.1
        · rw [show 3129 + 400 * i + k = 322 + (2807 + 400 * i + k) by omega]; exact a2
    have evf : ev_fa X t T L P J false f := by
      intro j hj
      rw [← hJ]
      show upd (upd (upd (I 168) 10 sz) 11 (I 158 311)) 12 (I 158 312) j = f j
      by_cases q12 : j = 12
      · subst q12; rw [hf_upd_eq, h12]
      · rw [hf_upd_ne q12]
        by_cases q11 : j = 11
        · subst q11; rw [hf_upd_eq, h11]
        · rw [hf_upd_ne q11]
          by_cases q10 : j = 10
          · subst q10; rw [hf_upd_eq, hsz]
          · rw [hf_upd_ne q10]; exact hf10 j (by omega)
    obtain ⟨i0, i1, i2, i3, i4, i5, i6, i7, i8, i9, i10⟩ := ce_any (X := X) (L := L) hs evk evf 600
    have frI : ∀ {I' : hf_I}, ev_fr J I' → jm_fr I I' := by
      intro I' hf
      refine ⟨fun a a1 a2 => ?_, fun j j1 j2 j3 j4 => ?_⟩
      · rw [hf.1 a a1]; exact frJ.1 a a1 a2
      · rw [hf.2 j j1 j3]; exact frJ.2 j j1 j2 j3 j4
    have e20 : ∀ {I' : hf_I}, ev_fr J I' → I' 156 20 = nI (400 * i + m) := fun hf => by rw [hf.2 20 (by omega) (by omega)]; exact evk.2.2.2.1
    have ac1 : ev_ac 1 0 true := ⟨Or.inl rfl, fun _ => ⟨by decide, rfl⟩, fun q => by cases q⟩
    have loop : ∀ (j k lv : Nat) (acc : Option Int32) (b : Int32) (I' : hf_I), k ≤ m → lv ≤ 50 → ev_st J (400 * i + k) b I' → (gr_al false c v m j k lv).1 = 2 → (∀ I', jm_fr I I' → Q (some (.int (lw_td (lw_fo f kd acc (gr_al false c v m j k lv).2.2) wo))) (t, T, I', L, P)) → hf_G X Y_X12_tells (d + 608) kk nn 103 [some (.ref 156), some (.int (nI (kd + 1))), none, none, some (.long (lw_td acc wo).toInt64), none, none, none, none, none, none] [] (t, T, I', L, P) Q := by
      intro j
      induction j with
      | zero => intro k lv acc b I' _ _ _ hg; exact absurd hg (by show ¬ (1 = 2); omega)
      | succ j ih =>
        intro k lv acc b I' hk hlv hst hg hQ
        rw [gr_al] at hg hQ
        by_cases ecl : (gr_cl false c v k lv).1 = 2
        · rw [if_pos ecl] at hg hQ
          have gd := gr_cl_gd hlv ecl
          have fw := gr_cl_fw ecl
          have cn := (gr_cl_n (S := false) (v := v) (lv := lv) hc0 hm4 hk).2
          -- how the CLAUSE came about
          have h0 : ¬ gr_kd false (c k) = 0 := fun q => by rw [gr_cl_a q] at ecl; exact absurd ecl (by show ¬ (1 = 2); omega)
          have hkm := gr_lt' hc0 (gr_kd_ne h0)
          generalize e1 : gr_sm false c v (gr_kd false (c k) - 1) (k + 1) lv = r1
          have h1 : r1.1 = 2 := by
            by_cases q : r1.1 = 2
            · exact q
            · rw [gr_cl_b h0 (by rw [e1]; exact q)] at ecl; exact absurd ecl (by show ¬ (1 = 2); omega)
          have e2 : gr_tm false c v r1.2.1 = (2, r1.2.1, 1) := by unfold gr_tm; rw [if_neg (by simp)]
          generalize e3 : gr_if false c v r1.2.1 r1.2.2.1 = r2
          have h3 : r2.1 = 2 := by
            by_cases q : r2.1 = 2
            · exact q
            · rw [gr_cl_d h0 e1 h1 e2 rfl e3 q] at ecl; exact absurd ecl (by show ¬ (1 = 2); omega)
          have ecl' := gr_cl_e h0 e1 h1 e2 rfl e3 h3
          have top1 := (gr_sm_n (S := false) (v := v) (kd := gr_kd false (c k) - 1) (lv := lv) hc0 hm4 hkm).2
          rw [e1] at top1
          have c3 : c k = gr_kd false (c k) ∧ c k ≤ 3 := by
            unfold gr_kd at h0 ⊢
            by_cases q1 : c k = 1
            · rw [q1]; decide
            · by_cases q2 : c k = 2
              · rw [q2]; decide
              · by_cases q3 : c k = 3
                · rw [q3]; decide
                · exact absurd (by simp [q1, q2, q3]) h0
          -- what follows
          have nxt : ∀ (acc' : Option Int32) (b' : Int32) (I2 : hf_I), acc' = lw_s f kd acc (gr_cl false c v k lv).2.2.2 → ev_st J (400 * i + r2.2.1) b' I2 → hf_G X Y_X12_tells (d + 608) kk nn 103 [some (.ref 156), some (.int (nI (kd + 1))), none, none, some (.long (lw_td acc' wo).toInt64), none, none, none, none, none, none] [] (t, T, hf_up I2 156 19 (I2 156 19 + 1), L, P) Q := by
            intro acc' b' I2 ha' hst2
            have hst3 := ev_step hst2
            have er : (gr_cl false c v k lv).2.1 = r2.2.1 := by rw [ecl']
            have el : (gr_cl false c v k lv).2.2.1 = r2.2.2.1 := by rw [ecl']
            rw [er] at hg hQ cn fw
            rw [el] at hg hQ fw
            by_cases hm : r2.2.1 = m
            · rw [if_pos hm] at hQ
              refine w_X12_tells_103 hs ⟨fun _ => ?_, fun g => absurd ?_ g⟩
              · have e5 : (lw_td acc' wo).toInt64.toInt32 = lw_td acc' wo := by
                  apply Int32.toInt_inj.mp
                  rw [Int64.toInt_toInt32, Int32.toInt_toInt64]
                  have a1 := Int32.le_toInt (lw_td acc' wo)
                  have a2 := Int32.toInt_lt (lw_td acc' wo)
                  exact Int.bmod_eq_of_le (by omega) (by omega)
                rw [e5, ha']
                exact hQ _ (frI hst3.1)
              · rw [e20 hst3.1, hst3.2.1]
                exact nI_le (by omega) (by omega)
            · rw [if_neg hm] at hg hQ
              by_cases h9 : c r2.2.1 = 159
              · rw [if_pos h9] at hg hQ
                refine ih (r2.2.1 + 1) r2.2.2.1 acc' b' _ (by omega) (fw.2.2.2 hlv) hst3 hg fun I3 hf3 => ?_
                rw [ha']
                exact hQ I3 hf3
              · rw [if_neg h9] at hg
                exact absurd hg (by show ¬ (1 = 2); omega)
          -- behind sum and test
          have q1 : (gr_cl false c v k lv).2.2.2 = (gr_kd false (c k) - 1, r1.2.2.2, 1, r2.2.2.2) := by rw [ecl']
          have hq1 : ((gr_cl false c v k lv).2.2.2.1 = kd) ↔ c k = kd + 1 := by rw [q1]; show gr_kd false (c k) - 1 = kd ↔ _; omega
          have lx : (nI (c k) = nI (kd + 1)) ↔ c k = kd + 1 := nI_eq (by omega) (by omega)
          -- the two outcomes
          have same : lw_s f kd acc (gr_cl false c v k lv).2.2.2 = acc → ∀ (b' : Int32) (I2 : hf_I), ev_st J (400 * i + r2.2.1) b' I2 → hf_G X Y_X12_tells (d + 608) kk nn 103 [some (.ref 156), some (.int (nI (kd + 1))), none, none, some (.long (lw_td acc wo).toInt64), none, none, none, none, none, none] [] (t, T, hf_up I2 156 19 (I2 156 19 + 1), L, P) Q := fun hs' b' I2 h2 => nxt acc b' I2 hs'.symm h2
          have told : ∀ x, lw_s f kd acc (gr_cl false c v k lv).2.2.2 = some x → ∀ (b' : Int32) (I2 : hf_I), ev_st J (400 * i + r2.2.1) b' I2 → hf_G X Y_X12_tells (d + 608) kk nn 103 [some (.ref 156), some (.int (nI (kd + 1))), none, none, some (.long (lw_cl x).toInt64), none, none, none, none, none, none] [] (t, T, hf_up I2 156 19 (I2 156 19 + 1), L, P) Q := fun x hs' b' I2 h2 => nxt (some x) b' I2 hs'.symm h2
          have tail : ∀ (x7 : Int64) (x9 : Int32) (b1 : Int32) (I2 : hf_I), (x9 = 0 ∨ x9 = 1) → ev_st J (400 * i + r1.2.1) b1 I2 → b1 = 0 → (∀ x, r1.2.2.2.2 f = some x → x7 = x.toInt64 ∧ x9 = 0) → (r1.2.2.2.2 f = none → x9 = 1) → hf_G X Y_X12_passes0 (d + 607) 0 0 0 (hf_en [.ref 156, .int 4] 3) [] (t, T, I2, L, P) (fun r M => hf_G X Y_X12_tells (d + 608) kk nn 172 [some (.ref 156), some (.int (nI (kd + 1))), none, none, some (.long (lw_td acc wo).toInt64), none, some (.int (nI (c k))), some (.long x7), none, some (.int x9), none] (r.toList ++ []) M Q) := by
            intro x7 x9 b1 I2 h9 hst2 hb1 hx7 hx7n
            subst hb1
            -- the answer once the test is so
            have yes : ∀ (b' : Int32) (I3 : hf_I), ev_st J (400 * i + r2.2.1) b' I3 → c k = kd + 1 → r2.2.2.2.2 f = some 1 → (¬ x9 = 0 → hf_G X Y_X12_tells (d + 608) kk nn 103 [some (.ref 156), some (.int (nI (kd + 1))), none, none, some (.long (lw_td acc wo).toInt64), none, none, none, none, none, none] [] (t, T, hf_up I3 156 19 (I3 156 19 + 1), L, P) Q) ∧ (x9 = 0 → (0 ≤ lg_cmp x7 0 → (lg_cmp x7 999 ≤ 0 → hf_G X Y_X12_tells (d + 608) kk nn 103 [some (.ref 156), some (.int (nI (kd + 1))), none, none, some (.long x7), none, none, none, none, none, none] [] (t, T, hf_up I3 156 19 (I3 156 19 + 1), L, P) Q) ∧ (¬ lg_cmp x7 999 ≤ 0 → hf_G X Y_X12_tells (d + 608) kk nn 103 [some (.ref 156), some (.int (nI (kd + 1))), none, none, some (.long 999), none, none, none, none, none, none] [] (t, T, hf_up I3 156 19 (I3 156 19 + 1), L, P) Q)) ∧ (¬ 0 ≤ lg_cmp x7 0 → hf_G X Y_X12_tells (d + 608) kk nn 103 [some (.ref 156), some (.int (nI (kd + 1))), none, none, some (.long 0), none, none, none, none, none, none] [] (t, T, hf_up I3 156 19 (I3 156 19 + 1), L, P) Q)) := by
              intro b' I3 hst3 hck ht
              cases hsum : r1.2.2.2.2 f with
              | none =>
                have hx9 := hx7n hsum
                refine ⟨fun _ => same ?_ b' I3 hst3, fun g => absurd (hx9.symm.trans g) (by decide)⟩
                unfold lw_s
                rw [if_pos (hq1.mpr hck), q1]
                unfold lw_h
                show (match (r2.2.2.2.2 f).bind (fun y => if y = 0 then none else r1.2.2.2.2 f) with | some x => some x | none => acc) = acc
                rw [ht, hsum]
                rfl
              | some x =>
                obtain ⟨a1, a2⟩ := hx7 x hsum
                have hs1 : lw_s f kd acc (gr_cl false c v k lv).2.2.2 = some x := by
                  unfold lw_s
                  rw [if_pos (hq1.mpr hck), q1]
                  unfold lw_h
                  show (match (r2.2.2.2.2 f).bind (fun y => if y = 0 then none else r1.2.2.2.2 f) with | some x => some x | none => acc) = some x
                  rw [ht, hsum]
                  rfl
                have key := told x hs1 b' I3 hst3
                obtain ⟨l1, l2⟩ := lw_cl_64 x
                subst a1
                refine ⟨fun g => absurd a2 g, fun _ => ⟨fun g => ⟨fun g9 => ?_, fun g9 => ?_⟩, fun g => ?_⟩⟩
                · rw [(l1 g).1 g9] at key; exact key
                · rw [(l1 g).2 g9] at key; exact key
                · rw [l2 g] at key; exact key
            refine ev_pass (ch := 4) hs evk top1 (by omega) hst2 (fun hi4 I3 hst3 => ?_) fun hi4 => ?_
            · have ei : gr_ps false c v 600 9 0 0 (r1.2.1 + 1) r1.2.2.1 (fun _ => none) = r2 := by rw [← e3]; unfold gr_if; rw [if_pos hi4]
              have hk3 := ev_lt evk (k := r1.2.1) (by omega)
              have post : ev_pt t T L P J (400 * i) f true 0 r2 (fun r M => hf_G X Y_X12_tells (d + 608) kk nn 180 [some (.ref 156), some (.int (nI (kd + 1))), none, none, some (.long (lw_td acc wo).toInt64), none, some (.int (nI (c k))), some (.long x7), none, some (.int x9), none] (r.toList ++ []) M Q) := by
                intro I4 w w01 fr4 go4 a4 d4
                obtain ⟨p1, p2⟩ := a4 rfl
                have hst4 : ev_st J (400 * i + r2.2.1) (I4 156 21) I4 := ⟨fr4, go4, rfl⟩
                refine w_X12_tells_180 hs ?_
                rw [lx]
                cases htst : r2.2.2.2.2 f with
                | none =>
                  have hb4 := p2 htst
                  have sm : lw_s f kd acc (gr_cl false c v k lv).2.2.2 = acc := by
                    unfold lw_s
                    split
                    · rw [q1]
                      unfold lw_h
                      show (match (r2.2.2.2.2 f).bind (fun y => if y = 0 then none else r1.2.2.2.2 f) with | some x => some x | none => acc) = acc
                      rw [htst]
                      rfl
                    · rfl
                  have key := same sm _ I4 hst4
                  refine ⟨fun _ => ⟨fun _ => key, fun _ => key⟩, fun _ => ⟨fun _ => key, fun _ => ⟨fun _ => key, fun g => ?_⟩⟩⟩
                  rw [hb4] at g
                  exact absurd g (by decide)
                | some y =>
                  obtain ⟨hw, hb4⟩ := p1 y htst
                  rcases w01 with hw0 | hw1
                  · have sm : lw_s f kd acc (gr_cl false c v k lv).2.2.2 = acc := by
                      unfold lw_s
                      split
                      · rw [q1]
                        unfold lw_h
                        show (match (r2.2.2.2.2 f).bind (fun y => if y = 0 then none else r1.2.2.2.2 f) with | some x => some x | none => acc) = acc
                        rw [htst, ← hw, hw0]
                        rfl
                      · rfl
                    have key := same sm _ I4 hst4
                    exact ⟨fun _ => ⟨fun _ => key, fun _ => key⟩, fun g => absurd hw0 g⟩
                  · have ht1 : r2.2.2.2.2 f = some 1 := by rw [htst, ← hw, hw1]
                    refine ⟨fun g => ?_, fun _ => ⟨fun g => same ?_ _ I4 hst4, fun g => ⟨fun g2 => absurd hb4 g2, fun _ => yes _ I4 hst4 g ht1⟩⟩⟩
                    · rw [hw1] at g; exact absurd g (by decide)
                    · unfold lw_s
                      rw [if_neg (fun q => g (hq1.mp q))]
              rw [← ei] at post
              refine w_X12_tells_172 hs ⟨fun g => absurd g (by decide), fun _ => i9 0 (r1.2.1 + 1) r1.2.2.1 _ I3 _ (d + 607) 0 0 1 0 true (by omega) (by omega) ac1 hst3 (by rw [ei]; exact h3) post⟩
            · have ei : r2 = gr_gd r1.2.1 r1.2.2.1 [] (fun _ => some 1) := by rw [← e3]; unfold gr_if; rw [if_neg hi4]
              have ht1 : r2.2.2.2.2 f = some 1 := by rw [ei]; rfl
              have hst2' : ev_st J (400 * i + r2.2.1) 0 I2 := by rw [ei]; exact hst2
              refine w_X12_tells_172 hs ⟨fun _ => ?_, fun g => absurd rfl g⟩
              rw [lx]
              refine ⟨fun g => same ?_ _ I2 hst2', fun g => ⟨fun g2 => absurd hst2.2.2 g2, fun _ => yes _ I2 hst2' g ht1⟩⟩
              unfold lw_s
              rw [if_neg (fun q => g (hq1.mp q))]
          refine w_X12_tells_103 hs ⟨fun g => ?_, fun _ => ev_code hs evk hk hst ?_⟩
          · rw [e20 hst.1, hst.2.1] at g
            have := (nI_leI (by omega) (by omega)).mp g
            omega
          · have st0 : ev_st J (400 * i + (k + 1)) 0 (hf_up (hf_up I' 156 21 0) 156 19 (I' 156 19 + 1)) := by
              refine ⟨ev_fr_up (Or.inl rfl) (ev_fr_up (Or.inr rfl) hst.1), ?_, rfl⟩
              show I' 156 19 + 1 = _
              rw [hst.2.1, nI_1, Nat.add_assoc]
            have l3 : (nI (c k) = 3) ↔ c k = 3 := nI_eq (b := 3) (by omega) (by omega)
            refine w_X12_tells_122 hs ?_
            rw [l3]
            refine ⟨fun g => ?_, fun g => ?_⟩
            · have hw : gr_wsm false (gr_kd false (c k) - 1) = true := by
                rw [← c3.1]
                have : c k - 1 = 0 ∨ c k - 1 = 1 := by have := gr_kd_ne h0; omega
                rcases this with q | q <;> rw [q] <;> decide
              have es : gr_ps false c v 600 3 0 0 (k + 1) lv (fun _ => none) = r1 := by rw [← e1]; unfold gr_sm; rw [if_pos hw]
              have post : ev_ps t T L P J (400 * i) f true 0 r1 (fun r M => hf_G X Y_X12_tells (d + 608) kk nn 154 [some (.ref 156), some (.int (nI (kd + 1))), none, none, some (.long (lw_td acc wo).toInt64), none, some (.int (nI (c k))), none, none, none, none] (r.toList ++ []) M Q) := by
                intro I4 w fr4 go4 a4 d4
                obtain ⟨p1, p2⟩ := a4 rfl
                have hst4 : ev_st J (400 * i + r1.2.1) 0 (hf_up I4 156 21 0) := ⟨ev_fr_up (Or.inr rfl) fr4, go4, rfl⟩
                refine w_X12_tells_154 hs (tail w (I4 156 21) 0 _ ?_ hst4 rfl p1 p2)
                cases hsum : r1.2.2.2.2 f with
                | none => exact Or.inr (p2 hsum)
                | some x => exact Or.inl (p1 x hsum).2
              rw [← es] at post
              exact i3 0 (k + 1) lv _ _ _ (d + 607) 0 0 1 0 true (by omega) (by omega) ac1 st0 (by rw [es]; exact h1) post
            · have er1 : r1 = gr_gd (k + 1) lv [] (fun _ => some 1) := by
                rw [← e1]
                unfold gr_sm
                rw [g]
                rfl
              refine tail 1 0 0 _ (Or.inl rfl) ?_ rfl (fun x hx => ?_) (fun hx => ?_)
              · rw [er1]
                exact ⟨ev_fr_up (Or.inr rfl) st0.1, st0.2.1, rfl⟩
              · rw [er1] at hx
                have hx' : some (1 : Int32) = some x := hx
                cases hx'
                exact ⟨by decide, rfl⟩
              · rw [er1] at hx
                cases hx
        · rw [if_neg ecl] at hg
          exact absurd hg (by show ¬ (1 = 2); omega)
    refine loop 12 0 0 none (J 156 21) J (Nat.zero_le _) (by omega) ⟨⟨fun _ _ => rfl, fun _ _ _ => rfl⟩, ?_, rfl⟩ hal ?_
    · rw [← hJ]; rfl
    · rw [hcls]; exact h
end MLAW
