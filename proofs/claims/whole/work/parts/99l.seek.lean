/-! the truest row, by the class -/
def sk_fr (J J' : hf_I) (L L' : hf_L) : Prop := (∀ a, ¬ a = 136 → J' a = J a) ∧ (∀ j, ¬ j = 18 → J' 136 j = J 136 j) ∧ (∀ a, ¬ a = 136 → L' a = L a) ∧ ∀ j, ¬ j = 19 → L' 136 j = L 136 j
theorem sk_rf {J : hf_I} {L : hf_L} : sk_fr J J L L := ⟨fun _ _ => rfl, fun _ _ => rfl, fun _ _ => rfl, fun _ _ => rfl⟩
theorem sk_tr {I J K : hf_I} {L M N : hf_L} (h : sk_fr I J L M) (g : sk_fr J K M N) : sk_fr I K L N := ⟨fun a ha => (g.1 a ha).trans (h.1 a ha), fun j hj => (g.2.1 j hj).trans (h.2.1 j hj), fun a ha => (g.2.2.1 a ha).trans (h.2.2.1 a ha), fun j hj => (g.2.2.2 j hj).trans (h.2.2.2 j hj)⟩
theorem sk_cv {J J' : hf_I} {L L' : hf_L} (h : sk_fr J J' L L') : cv_fr J J' := ⟨fun a _ _ _ a4 _ => h.1 a a4, fun j hj => h.2.1 j (by omega)⟩
def sk_fe (G : fz_X) (p q : Nat) : Bool := fz_fe G p (fz_w G p q)
def sk_pr (G : fz_X) (tr : Nat → Nat) (p q : Nat) : Nat := fz_pr tr (fz_w G p q) p
/-- what was found among the first m rows of WORDS -/
def sk_ts (G : fz_X) (tr : Nat → Nat) (p : Nat) (J : hf_I) (L : hf_L) (m : Nat) : Prop := match fz_tb (sk_fe G p) (sk_pr G tr p) m with
  | none => J 136 18 = -1
  | some b => J 136 18 = nI (sk_pr G tr p b) ∧ L 136 19 = lN (fz_lo (fz_w G p b) (fz_gt G (fz_w G p b)) p)
section SEEK
variable {X : hf_X} {d t : Nat} {T : hf_T} {P : hf_P} {G : fz_X} {p : Nat} {cls : List gr_c1} {tr : Nat → Nat}
theorem cs_seek (hs : hf_Lay t T P) (htr : ∀ x, tr x ≤ 10) : ∀ (f i x kk nn : Nat) (J : hf_I) (L : hf_L) (Q : Option Value → hf_M → Prop), cv_ok t T P J G p cls → (∀ j k, j < p → k < glen G j → J 108 (gopt G j k) = nI (tr (gopt G j k))) → i + f = p → x < li_p (glen G) i → op_n (fz_gt G (fz_w G i x)) i ≤ gLN G → (fz_wd G (fz_w G i x) (fz_gt G (fz_w G i x)) i).1 ≤ ghr G → sk_ts G tr p J L (x * fz_B G f i) → (∀ J' L', sk_fr J J' L L' → sk_ts G tr p J' L' ((x + 1) * fz_B G f i) → Q none (t, T, J', L', P)) →
    hf_G X Y_X8_seekTruest (d + 1 + f) kk nn 0 (hf_en [.ref 136, .int (nI i), .int (nI (fz_pr tr (fz_w G i x) i)), .int (nI (op_n (fz_gt G (fz_w G i x)) i) - 1), .int (nI (fz_gw G (fz_w G i x) i)), .long (lN (fz_wk (fz_w G i x) i + fz_tu (fz_gt G (fz_w G i x)) i))] 15) [] (t, T, J, L, P) Q := by
  intro f
  induction f with
  | zero =>
    intro i x kk nn J L Q hk h108 hf hx hn hw hts h
    obtain rfl : i = p := by omega
    obtain ⟨⟨p1, p6, hG⟩, k9, -⟩ := id hk
    rw [fz_B, Nat.mul_one] at hts
    rw [fz_B, Nat.mul_one] at h
    have fe : sk_fe G i x = true := by
      unfold sk_fe fz_fe
      rw [Bool.and_eq_true, decide_eq_true_eq, decide_eq_true_eq]
      exact ⟨hn, hw⟩
    have p10 := fz_pr_le (w := fz_w G i x) htr i
    have t6 : 10 ^ i ≤ 10 ^ 6 := Nat.pow_le_pow_right (by omega) p6
    have t66 : (10 : Nat) ^ 6 = 1000000 := by decide
    refine w_X8_seekTruest_0 hs ⟨fun z => absurd z (by rw [k9]; exact Int32.lt_irrefl), fun _ => ?_⟩
    have upd1 : fz_tb (sk_fe G i) (sk_pr G tr i) (x + 1) = some x → Q none (t, T, hf_up J 136 18 (nI (fz_pr tr (fz_w G i x) i)), hf_upL L 136 19 (lN (fz_wk (fz_w G i x) i + fz_tu (fz_gt G (fz_w G i x)) i)), P) := by
      intro e
      refine h _ _ ⟨fun a ha => hf_up_no ha, fun j hj => by rw [hf_up_at, hf_upd_ne hj], fun a ha => hf_upL_no ha, fun j hj => hf_upL_ne hj⟩ ?_
      unfold sk_ts
      rw [e]
      exact ⟨by rw [hf_up_at, hf_upd_eq]; rfl, by rw [hf_upL_eq]; rfl⟩
    unfold sk_ts at hts
    cases e : fz_tb (sk_fe G i) (sk_pr G tr i) x with
    | none =>
      rw [e] at hts
      dsimp only at hts
      have e1 : fz_tb (sk_fe G i) (sk_pr G tr i) (x + 1) = some x := by rw [fz_tb, if_pos fe, e]
      rw [hts]
      refine ⟨fun _ => upd1 e1, fun z => absurd ?_ z⟩
      rw [Int32.lt_iff_toInt_lt, nI_toInt (by omega), show (-1 : Int32).toInt = -1 by decide]
      omega
    | some b =>
      rw [e] at hts
      obtain ⟨b1, b2⟩ := hts
      have pb := fz_pr_le (w := fz_w G i b) htr i
      have pb' : sk_pr G tr i b ≤ 10 ^ i := pb
      have e1 : fz_tb (sk_fe G i) (sk_pr G tr i) (x + 1) = if sk_pr G tr i b < sk_pr G tr i x then some x else some b := by rw [fz_tb, if_pos fe, e]
      rw [b1, nI_ltI (by omega) (by omega)]
      refine ⟨fun z => ?_, fun z => ?_⟩
      · have z' : sk_pr G tr i b < sk_pr G tr i x := z
        exact upd1 (by rw [e1, if_pos z'])
      · refine h J L sk_rf ?_
        have z' : ¬ sk_pr G tr i b < sk_pr G tr i x := z
        unfold sk_ts
        rw [e1, if_neg z']
        exact ⟨b1, b2⟩
  | succ f ih =>
    intro i x kk nn J L Q hk h108 hf hx hn hw hts h
    obtain ⟨⟨p1, p6, hG⟩, k9, k10, k12, k13, k140, kopt, -⟩ := id hk
    have L4 := hG.1.2.1
    have h400 := hG.1.2.2.2
    have b40 := hG.1.2.2.1
    have hl := hG.2.1 i (by omega)
    have gwh : fz_gw G (fz_w G i x) i ≤ ghr G := by
      rw [← fz_gw_wd]
      by_cases i0 : i = 0
      · rw [i0]; exact Nat.zero_le _
      · obtain ⟨y, rfl⟩ : ∃ y, i = y + 1 := ⟨i - 1, by omega⟩
        refine Nat.le_trans ?_ hw
        rw [fz_wd_1]
        exact Nat.le_max_right _ _
    have pos := fz_B_pos hG f (i + 1) (by omega)
    have p10 := fz_pr_le (w := fz_w G i x) htr i
    have t6 : 10 ^ i ≤ 10 ^ 6 := Nat.pow_le_pow_right (by omega) (by omega)
    have t66 : (10 : Nat) ^ 6 = 1000000 := by decide
    rw [fz_B] at hts h
    refine w_X8_seekTruest_0 (d := d + 1 + (f + 1)) hs ⟨fun _ => ?_, fun z => absurd (by rw [k9]; exact nI_lt (by omega) (by omega)) z⟩
    have loop : ∀ g k, k + g = glen G i → ∀ J1 L1, sk_fr J J1 L L1 → sk_ts G tr p J1 L1 ((x * glen G i + k) * fz_B G f (i + 1)) → hf_G X Y_X8_seekTruest (d + 1 + f + 1) kk nn 32 [some (.ref 136), some (.int (nI i)), some (.int (nI (fz_pr tr (fz_w G i x) i))), some (.int (nI (op_n (fz_gt G (fz_w G i x)) i) - 1)), some (.int (nI (fz_gw G (fz_w G i x) i))), some (.long (lN (fz_wk (fz_w G i x) i + fz_tu (fz_gt G (fz_w G i x)) i))), none, some (.int (nI k)), none, none, none, none, none, none, none] [] (t, T, J1, L1, P) Q := by
      intro g
      induction g with
      | zero =>
        intro k hkg J1 L1 f1 ts1
        obtain rfl : k = glen G i := by omega
        have k1 := cv_mv hk (sk_cv f1)
        refine w_X8_seekTruest_32 hs ?_
        rw [nI_clamp (show i < 2 ^ 31 by omega), k1.2.2.2.2.2.1 i (by omega)]
        refine ⟨vp_in_nI (by omega) (by omega), fun _ => h J1 L1 f1 ?_, fun z => absurd (nI_le (Nat.le_refl _) (by omega)) z⟩
        rw [← Nat.mul_assoc, Nat.succ_mul]
        exact ts1
      | succ g ihg =>
        intro k hkg J1 L1 f1 ts1
        have klt : k < glen G i := by omega
        have k1 := cv_mv hk (sk_cv f1)
        obtain ⟨-, k9', k10', k12', k13', k140', kopt', -⟩ := id k1
        obtain ⟨o1, o2, o3⟩ := kopt' i k (by omega) klt
        have o16 := hG.2.2.1 i k (by omega) klt
        have w360 := hG.2.2.2.1 (gopt G i k)
        have h1' : ∀ j k, j < p → k < glen G j → J1 108 (gopt G j k) = nI (tr (gopt G j k)) := by rw [f1.1 108 (by omega)]; exact h108
        have o4 := h1' i k (by omega) klt
        have v16 : vp_in (nI (gopt G i k)) 16 := vp_in_nI o16 (by omega)
        -- the WORDS so far
        have ww : ∀ j, j < i → fz_w G (i + 1) (x * glen G i + k) j = fz_w G i x j := by
          intro j hj
          unfold fz_w
          rw [op_d_st klt (by omega), if_neg (by omega)]
        have wi : fz_w G (i + 1) (x * glen G i + k) i = gopt G i k := by
          unfold fz_w
          rw [op_d_st klt (by omega), if_pos rfl]
        obtain ⟨s1, s2, s3⟩ := fz_gs (G := G) ww
        rw [wi] at s1 s2 s3
        have xlt : x * glen G i + k < li_p (glen G) (i + 1) := by
          rw [li_p]
          have : (x + 1) * glen G i ≤ li_p (glen G) i * glen G i := Nat.mul_le_mul_right _ hx
          rw [Nat.succ_mul] at this
          omega
        have epr : fz_pr tr (fz_w G (i + 1) (x * glen G i + k)) (i + 1) = fz_pr tr (fz_w G i x) i * tr (gopt G i k) := by rw [fz_pr, wi, fz_pr_cg i ww]
        -- on to the next choice
        have nxt : ∀ J2 L2, sk_fr J1 J2 L1 L2 → sk_ts G tr p J2 L2 ((x * glen G i + k + 1) * fz_B G f (i + 1)) → hf_G X Y_X8_seekTruest (d + 1 + f + 1) kk nn 32 [some (.ref 136), some (.int (nI i)), some (.int (nI (fz_pr tr (fz_w G i x) i))), some (.int (nI (op_n (fz_gt G (fz_w G i x)) i) - 1)), some (.int (nI (fz_gw G (fz_w G i x) i))), some (.long (lN (fz_wk (fz_w G i x) i + fz_tu (fz_gt G (fz_w G i x)) i))), none, some (.int (nI k + 1)), none, none, none, none, none, none, none] [] (t, T, J2, L2, P) Q := by
          intro J2 L2 f2 ts2
          rw [nI_1]
          exact ihg (k + 1) (by omega) J2 L2 (sk_tr f1 f2) ts2
        have no : ¬ (op_n (fz_gt G (fz_w G (i + 1) (x * glen G i + k))) (i + 1) ≤ gLN G ∧ (fz_wd G (fz_w G (i + 1) (x * glen G i + k)) (fz_gt G (fz_w G (i + 1) (x * glen G i + k))) (i + 1)).1 ≤ ghr G) → sk_ts G tr p J1 L1 ((x * glen G i + k + 1) * fz_B G f (i + 1)) := by
          intro hno
          have e : fz_tb (sk_fe G p) (sk_pr G tr p) ((x * glen G i + k + 1) * fz_B G f (i + 1)) = fz_tb (sk_fe G p) (sk_pr G tr p) ((x * glen G i + k) * fz_B G f (i + 1)) := by
            rw [Nat.succ_mul]
            refine fz_tb_sk _ fun q q1 q2 => ?_
            refine fz_fe_no (i := i + 1) (w := fz_w G (i + 1) (x * glen G i + k)) (by omega) (fun j hj => ?_) hno
            unfold fz_w
            rw [op_d_B f (i + 1) (by omega) hj]
            have eq : q / fz_B G f (i + 1) = x * glen G i + k := by
              apply Nat.div_eq_of_lt_le
              · exact q1
              · rw [Nat.succ_mul]; exact q2
            rw [eq]
          unfold sk_ts
          rw [e]
          exact ts1
        obtain ⟨D, hD⟩ : ∃ D, d + 1 + f = D := ⟨_, rfl⟩
        -- a WORD that FITS, in a new LINE or in the old one
        have deep : ∀ (at' gw' ky : Nat) (pc : Nat), (pc = 202 ∨ pc = 131) → op_n (fz_gt G (fz_w G (i + 1) (x * glen G i + k))) (i + 1) = at' → at' ≤ gLN G → (fz_wd G (fz_w G (i + 1) (x * glen G i + k)) (fz_gt G (fz_w G (i + 1) (x * glen G i + k))) (i + 1)).1 ≤ ghr G → fz_gw G (fz_w G (i + 1) (x * glen G i + k)) (i + 1) = gw' → fz_wk (fz_w G (i + 1) (x * glen G i + k)) (i + 1) + fz_tu (fz_gt G (fz_w G (i + 1) (x * glen G i + k))) (i + 1) = ky → hf_G X Y_X8_seekTruest (d + 1 + f) 0 0 0 (hf_en [.ref 136, .int (nI (i + 1)), .int (nI (fz_pr tr (fz_w G i x) i) * nI (tr (gopt G i k))), .int (nI at' - 1), .int (nI gw'), .long (lN ky)] 15) [] (t, T, J1, L1, P) (fun r M => hf_G X Y_X8_seekTruest (d + 1 + f + 1) kk nn pc [some (.ref 136), some (.int (nI i)), some (.int (nI (fz_pr tr (fz_w G i x) i))), some (.int (nI (op_n (fz_gt G (fz_w G i x)) i) - 1)), some (.int (nI (fz_gw G (fz_w G i x) i))), some (.long (lN (fz_wk (fz_w G i x) i + fz_tu (fz_gt G (fz_w G i x)) i))), none, some (.int (nI k)), none, none, none, none, none, none, none] (r.toList ++ []) M Q) := by
          intro at' gw' ky pc hpc e1 e2 e3 e4 e5
          rw [pk_mul, ← epr, ← e1, ← e4, ← e5]
          refine ih (i + 1) (x * glen G i + k) 0 0 J1 L1 _ k1 h1' (by omega) xlt (by omega) e3 ts1 fun J2 L2 f2 ts2 => ?_
          rcases hpc with rfl | rfl
          · exact w_X8_seekTruest_202 hs (nxt J2 L2 f2 ts2)
          · exact w_X8_seekTruest_131 hs (nxt J2 L2 f2 ts2)
        -- in a new LINE
        have turn : (i = 0 ∨ ¬ fz_gw G (fz_w G i x) i + gbl G + gwn G (gopt G i k) ≤ ghr G) → (nI (ghr G) < nI (gwn G (gopt G i k)) → hf_G X Y_X8_seekTruest (d + 1 + f + 1) kk nn 32 [some (.ref 136), some (.int (nI i)), some (.int (nI (fz_pr tr (fz_w G i x) i))), some (.int (nI (op_n (fz_gt G (fz_w G i x)) i) - 1)), some (.int (nI (fz_gw G (fz_w G i x) i))), some (.long (lN (fz_wk (fz_w G i x) i + fz_tu (fz_gt G (fz_w G i x)) i))), none, some (.int (nI k + 1)), none, none, none, none, none, none, none] [] (t, T, J1, L1, P) Q) ∧ (¬ (nI (ghr G) < nI (gwn G (gopt G i k))) → (nI (gLN G) ≤ nI (op_n (fz_gt G (fz_w G i x)) i) - 1 + 1 → hf_G X Y_X8_seekTruest (d + 1 + f + 1) kk nn 32 [some (.ref 136), some (.int (nI i)), some (.int (nI (fz_pr tr (fz_w G i x) i))), some (.int (nI (op_n (fz_gt G (fz_w G i x)) i) - 1)), some (.int (nI (fz_gw G (fz_w G i x) i))), some (.long (lN (fz_wk (fz_w G i x) i + fz_tu (fz_gt G (fz_w G i x)) i))), none, some (.int (nI k + 1)), none, none, none, none, none, none, none] [] (t, T, J1, L1, P) Q) ∧ (¬ (nI (gLN G) ≤ nI (op_n (fz_gt G (fz_w G i x)) i) - 1 + 1) → hf_G X Y_X8_seekTruest (d + 1 + f) 0 0 0 (hf_en [.ref 136, .int (nI (i + 1)), .int (nI (fz_pr tr (fz_w G i x) i) * nI (tr (gopt G i k))), .int (nI (op_n (fz_gt G (fz_w G i x)) i) - 1 + 1), .int (nI (gwn G (gopt G i k))), .long (lN (fz_wk (fz_w G i x) i + fz_tu (fz_gt G (fz_w G i x)) i + gopt G i k * 2 ^ (6 + 4 * (5 - i)) + fz_tk i))] 15) [] (t, T, J1, L1, P) (fun r M => hf_G X Y_X8_seekTruest (d + 1 + f + 1) kk nn 202 [some (.ref 136), some (.int (nI i)), some (.int (nI (fz_pr tr (fz_w G i x) i))), some (.int (nI (op_n (fz_gt G (fz_w G i x)) i) - 1)), some (.int (nI (fz_gw G (fz_w G i x) i))), some (.long (lN (fz_wk (fz_w G i x) i + fz_tu (fz_gt G (fz_w G i x)) i))), none, some (.int (nI k)), none, none, none, none, none, none, none] (r.toList ++ []) M Q))) := by
          intro hb
          obtain ⟨r1, r2, r3, r4⟩ := s2 hb
          refine ⟨fun z => ?_, fun z => ⟨fun y => ?_, fun y => ?_⟩⟩
          · have z' := (nI_ltI (by omega) (by omega)).mp z
            exact nxt J1 L1 sk_rf (no fun q => by rw [r4] at q; omega)
          · rw [Int32.sub_add_cancel] at y
            have y' := (nI_leI (by omega) (by omega)).mp y
            exact nxt J1 L1 sk_rf (no fun q => by rw [r1] at q; omega)
          · rw [Int32.sub_add_cancel] at y
            have y' : op_n (fz_gt G (fz_w G i x)) i < gLN G := Nat.not_le.mp fun q => y (nI_le q (by omega))
            have z' : gwn G (gopt G i k) ≤ ghr G := Nat.not_lt.mp fun q => z (nI_lt q (by omega))
            have go := deep (op_n (fz_gt G (fz_w G i x)) i + 1) (gwn G (gopt G i k)) (fz_wk (fz_w G i x) i + fz_tu (fz_gt G (fz_w G i x)) i + gopt G i k * 2 ^ (6 + 4 * (5 - i)) + fz_tk i) 202 (Or.inl rfl) r1 (by omega) (by rw [r4]; omega) r2 (by rw [s3, r3]; omega)
            rw [← nI_1 (op_n (fz_gt G (fz_w G i x)) i), Int32.add_sub_cancel] at go
            rw [Int32.sub_add_cancel]
            exact go
        refine w_X8_seekTruest_32 hs ?_
        rw [tp_c, nI_clamp (show i < 2 ^ 31 by omega), k140' i (by omega), nI_clamp (show 3 * i + k < 2 ^ 31 by omega), o1, nI_clamp (show gopt G i k < 2 ^ 31 by omega), o2, o4, k10', k12', k13', ky_word ⟨i, by omega⟩ ⟨gopt G i k, o16⟩, ky_turn ⟨i, by omega⟩, nI_1 i, nI_add, nI_add, lN_add, lN_add]
        refine ⟨vp_in_nI (by omega) (by omega), fun z => absurd z (nI_ge (by omega) (by omega)), fun _ => ⟨vp_in_nI (by omega) (by omega), v16, v16, fun z => ⟨v16, ?_⟩, fun z => ⟨fun y => ⟨v16, ?_⟩, fun y => ?_⟩⟩⟩
        · have i0 : i = 0 := by
            have := (nI_leI (b := 0) (by omega) (by omega)).mp z
            omega
          obtain ⟨u1, u2⟩ := turn (Or.inl i0)
          refine ⟨u1, fun y => ⟨(u2 y).1, fun v => ⟨fun q => absurd (by rw [i0]; rfl) q, fun _ => ⟨v16, ?_⟩⟩⟩⟩
          have go := (u2 y).2 v
          have e0 : fz_tk i = 0 := by unfold fz_tk; rw [if_pos i0]
          rw [e0, Nat.add_zero] at go
          rw [Int64.add_zero]
          exact go
        · have i0 : ¬ i = 0 := fun e => z (by rw [e]; exact Int32.le_refl _)
          have y' : ¬ fz_gw G (fz_w G i x) i + gbl G + gwn G (gopt G i k) ≤ ghr G := by
            have := (nI_ltI (by omega) (by omega)).mp y
            omega
          obtain ⟨u1, u2⟩ := turn (Or.inr y')
          refine ⟨u1, fun w => ⟨(u2 w).1, fun v => ⟨fun _ => ⟨v16, ?_⟩, fun q => absurd ((nI_eq (b := 0) (by omega) (by omega)).mp q) i0⟩⟩⟩
          have go := (u2 w).2 v
          have e0 : fz_tk i = 2 ^ (5 - i) := by unfold fz_tk; rw [if_neg i0]
          rw [e0] at go
          exact go
        · have i0 : ¬ i = 0 := fun e => z (by rw [e]; exact Int32.le_refl _)
          have y' : fz_gw G (fz_w G i x) i + gbl G + gwn G (gopt G i k) ≤ ghr G := Nat.not_lt.mp fun q => y (nI_lt q (by omega))
          obtain ⟨r1, r2, r3, r4⟩ := s1 i0 y'
          exact deep (op_n (fz_gt G (fz_w G i x)) i) (fz_gw G (fz_w G i x) i + gbl G + gwn G (gopt G i k)) (fz_wk (fz_w G i x) i + fz_tu (fz_gt G (fz_w G i x)) i + gopt G i k * 2 ^ (6 + 4 * (5 - i))) 131 (Or.inr rfl) r1 hn (by rw [r4]; omega) r2 (by rw [s3, r3]; omega)
    refine loop (glen G i) 0 (by omega) J L sk_rf ?_
    rw [Nat.add_zero, Nat.mul_assoc]
    exact hts
end SEEK
