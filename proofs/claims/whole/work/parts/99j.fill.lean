/-! all tails, by the class -/
theorem hf_upL_eq {L : hf_L} {a j : Nat} {v : Int64} : hf_upL L a j v a j = v := by
  unfold hf_upL vp_updL
  rw [if_pos rfl, if_pos rfl]
theorem hf_upL_ne {L : hf_L} {a j i : Nat} {v : Int64} (h : ¬ i = j) : hf_upL L a j v a i = L a i := by
  unfold hf_upL vp_updL
  rw [if_pos rfl, if_neg h]
theorem hf_upL_no {L : hf_L} {a j b : Nat} {v : Int64} (h : ¬ b = a) : hf_upL L a j v b = L b := by
  unfold hf_upL
  rw [if_neg h]
theorem hf_up_no {I : hf_I} {a j b : Nat} {v : Int32} (h : ¬ b = a) : hf_up I a j v b = I b := by
  unfold hf_up
  rw [if_neg h]
theorem hf_up_at {I : hf_I} {a j : Nat} {v : Int32} : hf_up I a j v a = upd (I a) j v := by
  unfold hf_up
  rw [if_pos rfl]
/-- what filling the tails of a place and LINE leaves -/
def fl_fr (J J' : hf_I) (L L' : hf_L) (x : Nat) : Prop := cv_fr J J' ∧ (∀ y, ¬ y = x → J' 143 y = J 143 y) ∧ (J' 136 17 = J 136 17 ∧ J' 136 18 = J 136 18) ∧ (∀ a, ¬ a = 136 → ¬ a = 142 → L' a = L a) ∧ (∀ y, y < 6 * x ∨ 6 * x + 6 ≤ y → L' 142 y = L 142 y) ∧ ∀ j, ¬ j = 16 → L' 136 j = L 136 j
theorem fl_tl {J J' : hf_I} {L L' : hf_L} {x : Nat} {G : fz_X} {p j ln : Nat} (h : fl_fr J J' L L' x) (hx : ¬ 4 * j + ln = x) (h3 : glen G j ≤ 3) (g : tl_ok J L G p j ln) : tl_ok J' L' G p j ln := by
  obtain ⟨g1, g2⟩ := g
  refine ⟨(h.2.1 _ hx).trans g1, fun k hk => ⟨?_, fun hl => ?_⟩⟩
  · rw [h.2.2.2.2.1 _ (by omega)]; exact (g2 k hk).1
  · rw [h.2.2.2.2.1 _ (by omega)]; exact (g2 k hk).2 hl
section FILL
variable {X : hf_X} {d t : Nat} {T : hf_T} {P : hf_P} {G : fz_X} {p : Nat} {cls : List gr_c1}
theorem cs_fillTails {f i ln : Nat} {kk nn : Nat} {J : hf_I} {L : hf_L} {Q : Option Value → hf_M → Prop} (hs : hf_Lay t T P) (hk : cv_ok t T P J G p cls) (hf : i + (f + 1) = p) (hln : ln < gLN G) (hli : ln ≤ i) (htl : ∀ j, i < j → j < p → ln + 1 < gLN G → tl_ok J L G p j (ln + 1))
    (h : ∀ J' L', fl_fr J J' L L' (4 * i + ln) → tl_ok J' L' G p i ln → Q none (t, T, J', L', P)) :
    hf_G X Y_X8_fillTails (d + 5 + f) kk nn 0 (hf_en [.ref 136, .int (nI i), .int (nI ln)] 10) [] (t, T, J, L, P) Q := by
  obtain ⟨⟨p1, p6, hG⟩, k9, k10, k12, k13, k140, kopt, kex, kal, klw, kC⟩ := id hk
  have L4 := hG.1.2.1
  have hl := hG.2.1 i (by omega)
  have ep : p - (i + 1) = f := by omega
  -- so far: k choices
  have loop : ∀ g k, k + g = glen G i → ∀ J1 L1, fl_fr J J1 L L1 (4 * i + ln) → J1 136 11 = nI i → J1 136 12 = nI ln → J1 143 (4 * i + ln) = nI (fz_S (fun k => fz_T G f i ln k false) k).1 → (∀ k', k' < k → L1 142 (6 * (4 * i + ln) + 2 * k') = fz_l (fz_T G f i ln k' false).2 ∧ (1 ≤ ln → L1 142 (6 * (4 * i + ln) + 2 * k' + 1) = fz_l (fz_T G f i ln k' true).2)) → hf_G X Y_X8_fillTails (d + 5 + f) kk nn 37 [some (.ref 136), some (.int (nI i)), some (.int (nI ln)), some (.long (lN (fz_tk i))), none, some (.int (nI k)), none, none, none, none] [] (t, T, J1, L1, P) Q := by
    intro g
    induction g with
    | zero =>
      intro k hkg J1 L1 f1 e11 e12 e143 tls
      obtain rfl : k = glen G i := by omega
      have k1 := cv_mv hk f1.1
      refine w_X8_fillTails_37 hs ?_
      rw [nI_clamp (show i < 2 ^ 31 by omega), k1.2.2.2.2.2.1 i (by omega)]
      refine ⟨vp_in_nI (by omega) (by omega), fun _ => h J1 L1 f1 ⟨?_, ?_⟩, fun z => absurd (nI_le (Nat.le_refl _) (by omega)) z⟩
      · rw [ep]; exact e143
      · rw [ep]; exact tls
    | succ g ih =>
      intro k hkg J1 L1 f1 e11 e12 e143 tls
      have klt : k < glen G i := by omega
      have k1 := cv_mv hk f1.1
      obtain ⟨-, -, -, -, -, k140', kopt', kex', -⟩ := id k1
      obtain ⟨o1, o2, o3⟩ := kopt' i k (by omega) klt
      have o16 := hG.2.2.1 i k (by omega) klt
      have w360 := hG.2.2.2.1 (gopt G i k)
      have l999 := hG.2.2.2.2.1 (gopt G i k)
      have ck := fz_ck_le hG (show i < p by omega) klt
      have tk := fz_tk_le i
      have v16 : vp_in (nI (gopt G i k)) 16 := vp_in_nI o16 (by omega)
      -- one pass: spread, from cells where the first WORD and ALIKE stand
      have pass : ∀ (ak : Bool) (c : Nat) (J2 : hf_I) (L2 : hf_L) (Q2 : Option Value → hf_M → Prop), fl_fr J J2 L L2 (4 * i + ln) → J2 136 11 = nI i → J2 136 12 = nI ln → J2 136 13 = nI (gopt G i k) → J2 143 (4 * i + ln) = nI c → (∀ J3 L3, fl_fr J J3 L L3 (4 * i + ln) → J3 136 = upd (J2 136) 14 (hf_b ak) → J3 143 (4 * i + ln) = nI (c + (if ak = true then 0 else (fz_T G f i ln k false).1)) → L3 142 = L2 142 → L3 136 16 = fz_l (fz_T G f i ln k ak).2 → Q2 none (t, T, J3, L3, P)) → hf_G X Y_X8_spread (d + 4 + f) 0 0 0 (hf_en [.ref 136, .int (nI i), .int (J2 137 (gopt G i k)), .long (lN (fz_tk i) + (((J2 138 (gopt G i k)).toInt64 <<< ((30 : Int32).toInt64 &&& 63)) + ((nI (gopt G i k)).toInt64 <<< ((6 + (4 * (5 - nI i))).toInt64 &&& 63)))), .int (hf_b (gex G (gopt G i k) ln))] 11) [] (t, T, hf_up J2 136 14 (hf_b ak), hf_upL L2 136 16 1152921504606846976, P) Q2 := by
        intro ak c J2 L2 Q2 f2 g11 g12 g13 g143 hQ
        have k2 := cv_mv hk f2.1
        obtain ⟨-, o2', o3'⟩ := k2.2.2.2.2.2.2.1 i k (by omega) klt
        have cu : cv_fr J2 (hf_up J2 136 14 (hf_b ak)) := cv_up (Or.inr ⟨rfl, by omega, by omega, by omega, by omega⟩)
        have k3 := cv_mv k2 cu
        rw [o2', o3', ky_cost (by omega), ky_word ⟨i, by omega⟩ ⟨gopt G i k, o16⟩, lN_add, lN_add]
        have hck : fz_tk i + (1073741824 * gls G (gopt G i k) + gopt G i k * 2 ^ (6 + 4 * (5 - i))) = fz_tk i + fz_ck G i (gopt G i k) := rfl
        have vE : ∀ ak, sp_V G f i ln (gwn G (gopt G i k)) i (gopt G i k) ak (gex G (gopt G i k) ln) (fz_tk i + fz_ck G i (gopt G i k)) = fz_T G f i ln k ak := fun ak => rfl
        have u136 : hf_up J2 136 14 (hf_b ak) 136 = upd (J2 136) 14 (hf_b ak) := hf_up_at
        refine cs_spread (d := d) (st := i) (ln := ln) (fi := gopt G i k) (ak := ak) hs hli hln o16 f i (gwn G (gopt G i k)) (fz_tk i + fz_ck G i (gopt G i k)) c (gex G (gopt G i k) ln) none 0 0 _ _ Q2 k3 hf (Nat.le_refl _) (by rw [u136, hf_upd_ne (by omega)]; exact g11) (by rw [u136, hf_upd_ne (by omega)]; exact g12) (by rw [u136, hf_upd_ne (by omega)]; exact g13) (by rw [u136, hf_upd_eq]) (by omega) (by omega) hf_upL_eq (fun x hx => by cases hx) (by rw [hf_up_no (by omega)]; exact g143) (fun j j1 j2 j3 => ?_) fun J3 L3 s1 s2 s3 => ?_
        · obtain ⟨t1, t2⟩ := fl_tl f2 (by omega) (hG.2.1 j j2).2 (htl j j1 j2 j3)
          unfold tl_ok
          rw [hf_up_no (by omega), hf_upL_no (by omega)]
          exact ⟨t1, t2⟩
        · rw [vE] at s1 s3
          have c3 := sd_cv s1
          have e136 : J3 136 = upd (J2 136) 14 (hf_b ak) := (s1.1 136 (by omega) (by omega) (by omega) (by omega)).trans u136
          refine hQ J3 L3 ⟨cv_tr f2.1 (cv_tr cu c3), fun y hy => ?_, ⟨?_, ?_⟩, fun a a1 a2 => ?_, fun y hy => ?_, fun j hj => ?_⟩ e136 ?_ ?_ s3
          · rw [s1.2, hf_upd_ne hy, hf_up_no (by omega)]; exact f2.2.1 y hy
          · rw [e136, hf_upd_ne (by omega)]; exact f2.2.2.1.1
          · rw [e136, hf_upd_ne (by omega)]; exact f2.2.2.1.2
          · rw [s2.1 a a1, hf_upL_no a1]; exact f2.2.2.2.1 a a1 a2
          · rw [s2.1 142 (by omega), hf_upL_no (by omega)]; exact f2.2.2.2.2.1 y hy
          · rw [s2.2 j hj, hf_upL_ne hj]; exact f2.2.2.2.2.2 j hj
          · rw [s1.2, hf_upd_eq]
            cases ak with
            | true => rfl
            | false => rfl
          · rw [s2.1 142 (by omega), hf_upL_no (by omega)]
      -- the tail is laid down
      have lay : ∀ (L2 : hf_L) (y : Nat) (v : Int64) (J2 : hf_I), 6 * (4 * i + ln) ≤ y → y < 6 * (4 * i + ln) + 6 → fl_fr J J2 L L2 (4 * i + ln) → fl_fr J J2 L (hf_upL L2 142 y v) (4 * i + ln) := by
        intro L2 y v J2 y1 y2 f2
        refine ⟨f2.1, f2.2.1, f2.2.2.1, fun a a1 a2 => ?_, fun z hz => ?_, fun j hj => ?_⟩
        · rw [hf_upL_no a2]; exact f2.2.2.2.1 a a1 a2
        · rw [hf_upL_ne (by omega)]; exact f2.2.2.2.2.1 z hz
        · rw [hf_upL_no (by omega)]; exact f2.2.2.2.2.2 j hj
      obtain ⟨D, hD2, hD1⟩ : ∃ D, d + 5 + f = D + 2 ∧ d + 4 + f = D + 1 := ⟨d + 3 + f, by omega, by omega⟩
      have go : ∀ J2, fl_fr J J2 L L1 (4 * i + ln) → J2 136 11 = nI i → J2 136 12 = nI ln → J2 136 13 = nI (gopt G i k) → J2 143 (4 * i + ln) = nI (fz_S (fun k => fz_T G f i ln k false) k).1 → hf_G X Y_X8_fillTails (D + 2) kk nn 89 [some (.ref 136), some (.int (nI i)), some (.int (nI ln)), some (.long (lN (fz_tk i))), none, some (.int (nI k)), some (.int (hf_b (gex G (gopt G i k) ln))), some (.int 0), none, none] [] (t, T, J2, L1, P) Q := by
        intro J2 f2 g11 g12 g13 g143
        -- behind both passes
        have last : ∀ J4 L4, fl_fr J J4 L L4 (4 * i + ln) → J4 136 11 = nI i → J4 136 12 = nI ln → J4 143 (4 * i + ln) = nI (fz_S (fun k => fz_T G f i ln k false) (k + 1)).1 → (∀ k', k' < k + 1 → L4 142 (6 * (4 * i + ln) + 2 * k') = fz_l (fz_T G f i ln k' false).2 ∧ (1 ≤ ln → L4 142 (6 * (4 * i + ln) + 2 * k' + 1) = fz_l (fz_T G f i ln k' true).2)) → hf_G X Y_X8_fillTails (D + 2) kk nn 89 [some (.ref 136), some (.int (nI i)), some (.int (nI ln)), some (.long (lN (fz_tk i))), none, some (.int (nI k)), some (.int (hf_b (gex G (gopt G i k) ln))), some (.int 2), none, none] [] (t, T, J4, L4, P) Q := by
          intro J4 L4 f4 q11 q12 q143 qtl
          refine w_X8_fillTails_89 hs ⟨fun _ => ?_, fun z => absurd (Int32.le_refl _) z⟩
          rw [nI_1, ← hD2]
          exact ih (k + 1) (by omega) J4 L4 f4 q11 q12 q143 qtl
        refine w_X8_fillTails_89 hs ?_
        rw [g13, nI_clamp (show gopt G i k < 2 ^ 31 by omega)]
        refine ⟨fun z => absurd z (by decide), fun _ => ⟨fun _ => ⟨v16, v16, ?_⟩, fun z => absurd z (by decide)⟩⟩
        rw [← hD1]
        refine pass false _ J2 L1 _ f2 g11 g12 g13 g143 fun J3 L3 f3 e136 e143' e142 e16 => ?_
        rw [hD2.symm.trans (show d + 5 + f = (D + 1) + 1 by omega)]
        refine w_X8_fillTails_159 hs ?_
        rw [tp_0, tp_1, e136, hf_upd_eq, nI_clamp (show 6 * (4 * i + ln) + 2 * k < 2 ^ 31 by omega), e16]
        refine ⟨fun _ => ⟨vp_in_nI (by omega) (by omega), ?_⟩, fun z => absurd rfl z⟩
        have f4 := lay L3 (6 * (4 * i + ln) + 2 * k) (fz_l (fz_T G f i ln k false).2) J3 (by omega) (by omega) f3
        have q11 : J3 136 11 = nI i := by rw [e136, hf_upd_ne (by omega)]; exact g11
        have q12 : J3 136 12 = nI ln := by rw [e136, hf_upd_ne (by omega)]; exact g12
        have q13 : J3 136 13 = nI (gopt G i k) := by rw [e136, hf_upd_ne (by omega)]; exact g13
        have q143 : J3 143 (4 * i + ln) = nI (fz_S (fun k => fz_T G f i ln k false) (k + 1)).1 := e143'
        have qtl : ∀ k', k' < k + 1 → (hf_upL L3 142 (6 * (4 * i + ln) + 2 * k) (fz_l (fz_T G f i ln k false).2)) 142 (6 * (4 * i + ln) + 2 * k') = fz_l (fz_T G f i ln k' false).2 ∧ (k' < k → 1 ≤ ln → (hf_upL L3 142 (6 * (4 * i + ln) + 2 * k) (fz_l (fz_T G f i ln k false).2)) 142 (6 * (4 * i + ln) + 2 * k' + 1) = fz_l (fz_T G f i ln k' true).2) := by
          intro k' hk'
          refine ⟨?_, fun z zl => ?_⟩
          · by_cases e : k' = k
            · subst e; exact hf_upL_eq
            · rw [hf_upL_ne (by omega), e142]; exact (tls k' (by omega)).1
          · rw [hf_upL_ne (by omega), e142]; exact (tls k' z).2 zl
        generalize hf_upL L3 142 (6 * (4 * i + ln) + 2 * k) (fz_l (fz_T G f i ln k false).2) = L4' at f4 qtl
        show hf_G X Y_X8_fillTails (D + 2) kk nn 89 _ _ _ _
        refine w_X8_fillTails_89 hs ?_
        rw [q13, tp_1, nI_clamp (show gopt G i k < 2 ^ 31 by omega), nI_clamp (show 6 * (4 * i + ln) + 2 * k + 1 < 2 ^ 31 by omega)]
        refine ⟨fun z => absurd z (by decide), fun _ => ⟨fun z => absurd (by decide) z, fun _ => ⟨v16, fun z => ⟨vp_in_nI (by omega) (by omega), ?_⟩, fun z => ⟨v16, ?_⟩⟩⟩⟩
        · have l0 : ln = 0 := by
            have := (nI_leI (b := 0) (by omega) (by omega)).mp z
            omega
          refine last (hf_up J3 136 14 1) _ (lay (hf_upL L4' 136 16 1152921504606846976) _ _ _ (by omega) (by omega) ⟨cv_tr f4.1 (cv_up (Or.inr ⟨rfl, by omega, by omega, by omega, by omega⟩)), fun y hy => ?_, ⟨?_, ?_⟩, fun a a1 a2 => ?_, fun y hy => ?_, fun j hj => ?_⟩) ?_ ?_ ?_ fun k' hk' => ⟨?_, fun zl => by omega⟩
          · rw [hf_up_no (by omega)]; exact f4.2.1 y hy
          · rw [hf_up_at, hf_upd_ne (by omega)]; exact f4.2.2.1.1
          · rw [hf_up_at, hf_upd_ne (by omega)]; exact f4.2.2.1.2
          · rw [hf_upL_no a1]; exact f4.2.2.2.1 a a1 a2
          · rw [hf_upL_no (by omega)]; exact f4.2.2.2.2.1 y hy
          · rw [hf_upL_ne hj]; exact f4.2.2.2.2.2 j hj
          · rw [hf_up_at, hf_upd_ne (by omega)]; exact q11
          · rw [hf_up_at, hf_upd_ne (by omega)]; exact q12
          · rw [hf_up_no (by omega)]; exact q143
          · rw [hf_upL_ne (by omega), hf_upL_no (by omega)]; exact (qtl k' hk').1
        · rw [← hD1]
          refine pass true _ J3 L4' _ f4 q11 q12 q13 q143 fun J5 L5 f5 r136 r143 r142 r16 => ?_
          rw [hD2.symm.trans (show d + 5 + f = (D + 1) + 1 by omega)]
          refine w_X8_fillTails_159 hs ?_
          rw [tp_0, tp_1, r136, hf_upd_eq, nI_clamp (show 6 * (4 * i + ln) + 2 * k + 1 < 2 ^ 31 by omega), r16]
          refine ⟨fun z => absurd z (by decide), fun _ => ⟨vp_in_nI (by omega) (by omega), ?_⟩⟩
          refine last J5 _ (lay L5 _ _ _ (by omega) (by omega) f5) ?_ ?_ ?_ fun k' hk' => ⟨?_, fun zl => ?_⟩
          · rw [r136, hf_upd_ne (by omega)]; exact q11
          · rw [r136, hf_upd_ne (by omega)]; exact q12
          · exact r143
          · rw [hf_upL_ne (by omega), r142]; exact (qtl k' hk').1
          · by_cases e : k' = k
            · subst e; exact hf_upL_eq
            · rw [hf_upL_ne (by omega), r142]; exact (qtl k' hk').2 (by omega) zl
      have f2 : fl_fr J (hf_up J1 136 13 (nI (gopt G i k))) L L1 (4 * i + ln) := by
        refine ⟨cv_tr f1.1 (cv_up (Or.inr ⟨rfl, by omega, by omega, by omega, by omega⟩)), fun y hy => ?_, ⟨?_, ?_⟩, f1.2.2.2.1, f1.2.2.2.2.1, f1.2.2.2.2.2⟩
        · rw [hf_up_no (by omega)]; exact f1.2.1 y hy
        · rw [hf_up_at, hf_upd_ne (by omega)]; exact f1.2.2.1.1
        · rw [hf_up_at, hf_upd_ne (by omega)]; exact f1.2.2.1.2
      have g2 := go _ f2 (by rw [hf_up_at, hf_upd_ne (by omega)]; exact e11) (by rw [hf_up_at, hf_upd_ne (by omega)]; exact e12) (by rw [hf_up_at, hf_upd_eq]) (by rw [hf_up_no (by omega)]; exact e143)
      refine w_X8_fillTails_37 hs ?_
      rw [tp_c, nI_clamp (show i < 2 ^ 31 by omega), k140' i (by omega), nI_clamp (show 3 * i + k < 2 ^ 31 by omega), o1, nI_clamp (show ln < 2 ^ 31 by omega), hD2]
      rw [kex'] at g2
      refine ⟨vp_in_nI (by omega) (by omega), fun z => absurd z (nI_ge (by omega) (by omega)), fun _ => ⟨vp_in_nI (by omega) (by omega), vp_in_nI (by omega) (by omega), fun z => ?_, fun z => ?_⟩⟩
      · rw [decide_eq_false z] at g2
        exact g2
      · rw [decide_eq_true z] at g2
        exact g2
  have st := loop (glen G i) 0 (by omega) (hf_up (hf_up (hf_up J 136 11 (nI i)) 136 12 (nI ln)) 143 (4 * i + ln) 0) L ⟨cv_tr (cv_tr (cv_up (Or.inr ⟨rfl, by omega, by omega, by omega, by omega⟩)) (cv_up (Or.inr ⟨rfl, by omega, by omega, by omega, by omega⟩))) (cv_up (Or.inl rfl)), fun y hy => by rw [hf_up_at, hf_upd_ne hy]; rfl, ⟨rfl, rfl⟩, fun _ _ _ => rfl, fun _ _ => rfl, fun _ _ => rfl⟩ rfl rfl (by rw [hf_up_at, hf_upd_eq]; rfl) (fun k' hk' => by omega)
  obtain ⟨D, hD⟩ : ∃ D, d + 5 + f = D + 1 := ⟨d + 4 + f, by omega⟩
  rw [hD] at st ⊢
  refine w_X8_fillTails_0 hs ?_
  rw [tp_w, nI_clamp (show 4 * i + ln < 2 ^ 31 by omega)]
  refine ⟨vp_in_nI (by omega) (by omega), fun z => ?_, fun z => ?_⟩
  · have i0 : ¬ i = 0 := fun e => z (by rw [e]; rfl)
    rw [ky_turn ⟨i, by omega⟩]
    have e : fz_tk i = 2 ^ (5 - i) := by unfold fz_tk; rw [if_neg i0]
    rw [e] at st
    exact st
  · have i0 : i = 0 := (nI_eq (b := 0) (by omega) (by omega)).mp z
    have e : fz_tk i = 0 := by unfold fz_tk; rw [if_pos i0]
    rw [e] at st
    exact st
end FILL
