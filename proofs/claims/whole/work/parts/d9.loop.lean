/-! the law's loop -/
theorem lo_end {x q : Nat} (hx : x ≤ 3072) (h : x < 6 * q + 6) (hq : 6 * q < 2 ^ 30) : Int32.ofNat x - 6 < nI (6 * q) := by
  rcases Nat.lt_or_ge x 6 with z | z
  · refine Int32.lt_of_lt_of_le (b := 0) ?_ (nI_le (a := 0) (Nat.zero_le _) (by omega))
    match x, z with
    | 0, _ => decide
    | 1, _ => decide
    | 2, _ => decide
    | 3, _ => decide
    | 4, _ => decide
    | 5, _ => decide
    | x + 6, z => omega
  · have e : Int32.ofNat x - 6 = nI (x - 6) := nI_su (a := x) (b := 6) z
    rw [e]
    exact nI_lt (by omega) (by omega)
set_option maxHeartbeats 8000000 in
theorem law_loop {X : hf_X} (hX : X.1 ≤ 3072) : ∀ (f q t : Nat) (T : hf_T) (I : hf_I) (L : hf_L) (P : hf_P) (k n : Nat), X.1 < 6 * q + 6 + 6 * f → q + f ≤ 1000 → 20 * f ≤ k → 868 * f ≤ n → hf_Sim hf_SL hf_CC q t T I L P → hf_G X Y_L_law 1400 k n 18 [some (.ref 0), some (.ref 100), some (.ref 156), some (.int (nI (6 * q)))] [] (t, T, I, L, P) (fun r _ => r = some (.int 1)) := by
  intro f
  induction f with
  | zero =>
    intro q t T I L P k n h1 h2 h3 h4 h
    exact w_L_law_18 h.1 ⟨fun _ => rfl, fun z => absurd (lo_end hX (by omega) (by omega)) z⟩
  | succ f ih =>
    intro q t T I L P k n h1 h2 h3 h4 h
    have hs := h.1
    have hN : q ≤ 100000 := by omega
    rcases Nat.lt_or_ge X.1 (6 * q + 6) with hq | hq
    · exact w_L_law_18 hs ⟨fun _ => rfl, fun z => absurd (lo_end hX (by omega) (by omega)) z⟩
    have v0 : vp_in (nI (6 * q)) X.1 := vp_in_nI (by omega) (by omega)
    have v1 : vp_in (nI (6 * q) + 1) X.1 := by
      rw [show (1 : Int32) = nI 1 from rfl, nI_add]
      exact vp_in_nI (by omega) (by omega)
    have v2 : vp_in (nI (6 * q) + 2) X.1 := by
      rw [show (2 : Int32) = nI 2 from rfl, nI_add]
      exact vp_in_nI (by omega) (by omega)
    have v3 : vp_in (nI (6 * q) + 3) X.1 := by
      rw [show (3 : Int32) = nI 3 from rfl, nI_add]
      exact vp_in_nI (by omega) (by omega)
    have v4 : vp_in (nI (6 * q) + 4) X.1 := by
      rw [show (4 : Int32) = nI 4 from rfl, nI_add]
      exact vp_in_nI (by omega) (by omega)
    have v5 : vp_in (nI (6 * q) + 5) X.1 := by
      rw [show (5 : Int32) = nI 5 from rfl, nI_add]
      exact vp_in_nI (by omega) (by omega)
    have e6 : nI (6 * q) + 6 = nI (6 * (q + 1)) := by
      rw [show 6 * (q + 1) = 6 * q + 6 by omega]
      rw [show (6 : Int32) = nI 6 from rfl, nI_add]
    have nx : ∀ {k' n' t2 : Nat} {T2 : hf_T} {I2 : hf_I} {L2 : hf_L} {P2 : hf_P}, k - 20 ≤ k' → n - 868 ≤ n' → hf_Sim hf_SL hf_CC (q + 1) t2 T2 I2 L2 P2 → hf_G X Y_L_law 1400 k' n' 18 [some (.ref 0), some (.ref 100), some (.ref 156), some (.int (nI (6 * q) + 6))] [] (t2, T2, I2, L2, P2) (fun r _ => r = some (.int 1)) := fun hk hn hS => by
      rw [e6]
      exact ih (q + 1) _ _ _ _ _ _ _ (by omega) (by omega) (by omega) (by omega) hS
    refine w_L_law_18 (d := 1400) hs ⟨fun _ => rfl, fun _ => ⟨v0, fun _ => ?_, fun _ => ?_, fun _ => ?_, fun _ => ?_, fun _ => ?_, fun _ => ?_, fun _ => ?_, fun _ => ?_, fun _ => ?_, fun _ => ?_, fun _ => ?_, fun _ => ?_, fun _ => ?_, fun _ => ?_, fun _ => ?_, fun _ => ?_, fun _ => ?_, fun _ => ?_, fun _ => ?_, fun _ => ?_, fun _ => ?_, fun _ => ?_, fun _ => ?_, fun _ => ?_, fun _ => ?_, fun _ => ?_, fun _ => ?_, fun _ => ?_, fun _ => ?_, fun _ => ?_, fun _ => ?_, fun _ => ?_, fun _ => ?_, fun _ => ?_, fun _ => ?_, fun _ => ?_, fun _ => ?_, fun _ => ?_, fun _ => ?_, fun _ => ?_, fun _ => ?_, fun _ => ?_, fun _ => nx (by omega) (by omega) (sim_same h)⟩⟩
    · refine w_L_law_216_c (d := 1399) hs (by omega) (by omega) ⟨v1, v2, hf_mono ?_ (hf_G_kn (by decide) (by decide) (op_breadth (X := X) (d := 1397) hN h))⟩
      rintro r M1 ⟨v, rfl, g⟩
      refine w_L_law_230_m (d := 1399) ⟨v1, v2, hf_mono ?_ g⟩
      rintro r2 ⟨t2, T2, I2, L2, P2⟩ ⟨rfl, hS⟩
      exact w_L_law_244 (d := 1400) hS.1 ⟨fun _ => nx (Nat.le_refl _) (Nat.le_refl _) hS, fun z => absurd rfl z⟩
    · refine w_L_law_249_c (d := 1399) hs (by omega) (by omega) ⟨v1, v2, hf_mono ?_ (hf_G_kn (by decide) (by decide) (op_column (X := X) (d := 1397) hN h))⟩
      rintro r M1 ⟨v, rfl, g⟩
      refine w_L_law_263_m (d := 1399) ⟨v1, v2, hf_mono ?_ g⟩
      rintro r2 ⟨t2, T2, I2, L2, P2⟩ ⟨rfl, hS⟩
      exact w_L_law_277 (d := 1400) hS.1 ⟨fun _ => nx (Nat.le_refl _) (Nat.le_refl _) hS, fun z => absurd rfl z⟩
    · refine w_L_law_282_c (d := 1399) hs (by omega) (by omega) ⟨v1, hf_mono ?_ (hf_G_kn (by decide) (by decide) (op_size (X := X) (d := 1396) hN h))⟩
      rintro r M1 ⟨v, rfl, g⟩
      refine w_L_law_291_m (d := 1399) ⟨v1, hf_mono ?_ g⟩
      rintro r2 ⟨t2, T2, I2, L2, P2⟩ ⟨rfl, hS⟩
      exact w_L_law_300 (d := 1400) hS.1 ⟨fun _ => nx (Nat.le_refl _) (Nat.le_refl _) hS, fun z => absurd rfl z⟩
    · refine w_L_law_305_c (d := 1399) hs (by omega) (by omega) ⟨v1, v2, hf_mono ?_ (hf_G_kn (by decide) (by decide) (op_worth (X := X) (d := 1397) hN h))⟩
      rintro r M1 ⟨v, rfl, g⟩
      refine w_L_law_319_m (d := 1399) ⟨v1, v2, hf_mono ?_ g⟩
      rintro r2 ⟨t2, T2, I2, L2, P2⟩ ⟨rfl, hS⟩
      exact w_L_law_333 (d := 1400) hS.1 ⟨fun _ => nx (Nat.le_refl _) (Nat.le_refl _) hS, fun z => absurd rfl z⟩
    · refine w_L_law_338_c (d := 1399) hs (by omega) (by omega) ⟨v1, v2, hf_mono ?_ (hf_G_kn (by decide) (by decide) (op_terms (X := X) (d := 1397) hN h))⟩
      rintro r M1 ⟨v, rfl, g⟩
      refine w_L_law_352_m (d := 1399) ⟨v1, v2, hf_mono ?_ g⟩
      rintro r2 ⟨t2, T2, I2, L2, P2⟩ ⟨rfl, hS⟩
      exact w_L_law_366 (d := 1400) hS.1 ⟨fun _ => nx (Nat.le_refl _) (Nat.le_refl _) hS, fun z => absurd rfl z⟩
    · refine w_L_law_371_c (d := 1399) hs (by omega) (by omega) ⟨v1, v2, v3, v4, v5, hf_mono ?_ (hf_G_kn (by decide) (by decide) (op_feed (X := X) (d := 1398) h))⟩
      rintro r M1 ⟨v, rfl, g⟩
      refine w_L_law_400_m (d := 1399) ⟨v1, v2, v3, v4, v5, hf_mono ?_ g⟩
      rintro r2 ⟨t2, T2, I2, L2, P2⟩ ⟨rfl, hS⟩
      exact w_L_law_429 (d := 1400) hS.1 ⟨fun _ => nx (Nat.le_refl _) (Nat.le_refl _) hS, fun z => absurd rfl z⟩
    · refine w_L_law_434_c (d := 1399) hs (by omega) (by omega) ⟨v1, hf_mono ?_ (hf_G_kn (by decide) (by decide) (op_end (X := X) (d := 1398) h))⟩
      rintro r M1 ⟨v, rfl, g⟩
      refine w_L_law_443_m (d := 1399) ⟨v1, hf_mono ?_ g⟩
      rintro r2 ⟨t2, T2, I2, L2, P2⟩ ⟨rfl, hS⟩
      exact w_L_law_452 (d := 1400) hS.1 ⟨fun _ => nx (Nat.le_refl _) (Nat.le_refl _) hS, fun z => absurd rfl z⟩
    · refine w_L_law_457_c (d := 1399) hs (by omega) (by omega) ⟨v1, v2, v3, hf_mono ?_ (hf_G_kn (by decide) (by decide) (op_word (X := X) (d := 1397) hf_CC_l hN h))⟩
      rintro r M1 ⟨v, rfl, g⟩
      refine w_L_law_476_m (d := 1399) ⟨v1, v2, v3, hf_mono ?_ g⟩
      rintro r2 ⟨t2, T2, I2, L2, P2⟩ ⟨rfl, hS⟩
      exact w_L_law_495 (d := 1400) hS.1 ⟨fun _ => nx (Nat.le_refl _) (Nat.le_refl _) hS, fun z => absurd rfl z⟩
    · refine w_L_law_500_c (d := 1399) hs (by omega) (by omega) ⟨v1, v2, hf_mono ?_ (hf_G_kn (by decide) (by decide) (op_at (X := X) (d := 788) h))⟩
      rintro r M1 ⟨v, rfl, g⟩
      refine w_L_law_514_m (d := 1399) ⟨v1, v2, hf_mono ?_ g⟩
      rintro r2 ⟨t2, T2, I2, L2, P2⟩ ⟨rfl, hS⟩
      exact w_L_law_528 (d := 1400) hS.1 ⟨fun _ => nx (Nat.le_refl _) (Nat.le_refl _) hS, fun z => absurd rfl z⟩
    · refine w_L_law_533_c (d := 1399) hs (by omega) (by omega) (hf_mono ?_ (hf_G_kn (by decide) (by decide) (op_law (X := X) (d := 785) hN h)))
      rintro r M1 ⟨v, rfl, g⟩
      refine w_L_law_537_m (d := 1399) (hf_mono ?_ g)
      rintro r2 ⟨t2, T2, I2, L2, P2⟩ ⟨rfl, hS⟩
      exact w_L_law_541 (d := 1400) hS.1 ⟨fun _ => nx (Nat.le_refl _) (Nat.le_refl _) hS, fun z => absurd rfl z⟩
    · refine w_L_law_546_c (d := 1399) hs (by omega) (by omega) (hf_mono ?_ (hf_G_kn (by decide) (by decide) (op_settings (X := X) (d := 785) hN h)))
      rintro r M1 ⟨v, rfl, g⟩
      refine w_L_law_550_m (d := 1399) (hf_mono ?_ g)
      rintro r2 ⟨t2, T2, I2, L2, P2⟩ ⟨rfl, hS⟩
      exact w_L_law_554 (d := 1400) hS.1 ⟨fun _ => nx (Nat.le_refl _) (Nat.le_refl _) hS, fun z => absurd rfl z⟩
    · refine w_L_law_559_c (d := 1399) hs (by omega) (by omega) (hf_mono ?_ (hf_G_kn (by decide) (by decide) (op_fault (X := X) (d := 1399) h)))
      rintro r M1 ⟨v, rfl, g⟩
      refine w_L_law_563_m (d := 1399) (hf_mono ?_ g)
      rintro r2 ⟨t2, T2, I2, L2, P2⟩ ⟨rfl, hS⟩
      exact w_L_law_567 (d := 1400) hS.1 ⟨fun _ => nx (Nat.le_refl _) (Nat.le_refl _) hS, fun z => absurd rfl z⟩
    · refine w_L_law_572_c (d := 1399) hs (by omega) (by omega) (hf_mono ?_ (hf_G_kn (by decide) (by decide) (op_stopped (X := X) (d := 1399) h)))
      rintro r M1 ⟨v, rfl, g⟩
      refine w_L_law_576_m (d := 1399) (hf_mono ?_ g)
      rintro r2 ⟨t2, T2, I2, L2, P2⟩ ⟨rfl, hS⟩
      exact w_L_law_580 (d := 1400) hS.1 ⟨fun _ => nx (Nat.le_refl _) (Nat.le_refl _) hS, fun z => absurd rfl z⟩
    · refine w_L_law_585_c (d := 1399) hs (by omega) (by omega) ⟨v1, hf_mono ?_ (hf_G_kn (by decide) (by decide) (op_force (X := X) (d := 1397) hN h))⟩
      rintro r M1 ⟨v, rfl, g⟩
      refine w_L_law_594_m (d := 1399) ⟨v1, hf_mono ?_ g⟩
      rintro r2 ⟨t2, T2, I2, L2, P2⟩ ⟨rfl, hS⟩
      exact w_L_law_603 (d := 1400) hS.1 ⟨fun _ => nx (Nat.le_refl _) (Nat.le_refl _) hS, fun z => absurd rfl z⟩
    · refine w_L_law_608_c (d := 1399) hs (by omega) (by omega) ⟨v1, hf_mono ?_ (hf_G_kn (by decide) (by decide) (op_say (X := X) (d := 1397) hN h))⟩
      rintro r M1 ⟨v, rfl, g⟩
      refine w_L_law_617_m (d := 1399) ⟨v1, hf_mono ?_ g⟩
      rintro r2 ⟨t2, T2, I2, L2, P2⟩ ⟨rfl, hS⟩
      exact w_L_law_626 (d := 1400) hS.1 ⟨fun _ => nx (Nat.le_refl _) (Nat.le_refl _) hS, fun z => absurd rfl z⟩
    · refine w_L_law_631_c (d := 1399) hs (by omega) (by omega) (hf_mono ?_ (hf_G_kn (by decide) (by decide) (op_hush (X := X) (d := 1399) hN h)))
      rintro r M1 ⟨v, rfl, g⟩
      refine w_L_law_635_m (d := 1399) (hf_mono ?_ g)
      rintro r2 ⟨t2, T2, I2, L2, P2⟩ ⟨rfl, hS⟩
      exact w_L_law_639 (d := 1400) hS.1 ⟨fun _ => nx (Nat.le_refl _) (Nat.le_refl _) hS, fun z => absurd rfl z⟩
    · refine w_L_law_644_c (d := 1399) hs (by omega) (by omega) ⟨v1, v2, hf_mono ?_ (hf_G_kn (by decide) (by decide) (op_beside (X := X) (d := 1397) hN h))⟩
      rintro r M1 ⟨v, rfl, g⟩
      refine w_L_law_658_m (d := 1399) ⟨v1, v2, hf_mono ?_ g⟩
      rintro r2 ⟨t2, T2, I2, L2, P2⟩ ⟨rfl, hS⟩
      exact w_L_law_672 (d := 1400) hS.1 ⟨fun _ => nx (Nat.le_refl _) (Nat.le_refl _) hS, fun z => absurd rfl z⟩
    · refine w_L_law_677_c (d := 1399) hs (by omega) (by omega) ⟨v1, hf_mono ?_ (hf_G_kn (by decide) (by decide) (op_set (X := X) (d := 786) hN h))⟩
      rintro r M1 ⟨v, rfl, g⟩
      refine w_L_law_686_m (d := 1399) ⟨v1, hf_mono ?_ g⟩
      rintro r2 ⟨t2, T2, I2, L2, P2⟩ ⟨rfl, hS⟩
      exact w_L_law_695 (d := 1400) hS.1 ⟨fun _ => nx (Nat.le_refl _) (Nat.le_refl _) hS, fun z => absurd rfl z⟩
    · refine w_L_law_700_c (d := 1399) hs (by omega) (by omega) (hf_mono ?_ (hf_G_kn (by decide) (by decide) (op_turn (X := X) (d := 1396) hN h)))
      rintro r M1 ⟨v, rfl, g⟩
      refine w_L_law_704_m (d := 1399) (hf_mono ?_ g)
      rintro r2 ⟨t2, T2, I2, L2, P2⟩ ⟨rfl, hS⟩
      exact w_L_law_708 (d := 1400) hS.1 ⟨fun _ => nx (Nat.le_refl _) (Nat.le_refl _) hS, fun z => absurd rfl z⟩
    · refine w_L_law_713_c (d := 1399) hs (by omega) (by omega) (hf_mono ?_ (hf_G_kn (by decide) (by decide) (op_clear (X := X) (d := 1396) hN h)))
      rintro r M1 ⟨v, rfl, g⟩
      refine w_L_law_717_m (d := 1399) (hf_mono ?_ g)
      rintro r2 ⟨t2, T2, I2, L2, P2⟩ ⟨rfl, hS⟩
      exact w_L_law_721 (d := 1400) hS.1 ⟨fun _ => nx (Nat.le_refl _) (Nat.le_refl _) hS, fun z => absurd rfl z⟩
    · refine w_L_law_726_c (d := 1399) hs (by omega) (by omega) ⟨v1, v2, hf_mono ?_ (hf_G_kn (by decide) (by decide) (op_head (X := X) (d := 1398) h))⟩
      rintro r M1 ⟨v, rfl, g⟩
      refine w_L_law_740_m (d := 1399) ⟨v1, v2, hf_mono ?_ g⟩
      rintro r2 ⟨t2, T2, I2, L2, P2⟩ ⟨rfl, hS⟩
      exact w_L_law_754 (d := 1400) hS.1 ⟨fun _ => nx (Nat.le_refl _) (Nat.le_refl _) hS, fun z => absurd rfl z⟩
    · refine w_L_law_759_c (d := 1399) hs (by omega) (by omega) ⟨v1, v2, hf_mono ?_ (hf_G_kn (by decide) (by decide) (op_line (X := X) (d := 788) h))⟩
      rintro r M1 ⟨v, rfl, g⟩
      refine w_L_law_773_m (d := 1399) ⟨v1, v2, hf_mono ?_ g⟩
      rintro r2 ⟨t2, T2, I2, L2, P2⟩ ⟨rfl, hS⟩
      exact w_L_law_787 (d := 1400) hS.1 ⟨fun _ => nx (Nat.le_refl _) (Nat.le_refl _) hS, fun z => absurd rfl z⟩
    · refine w_L_law_792_c (d := 1399) hs (by omega) (by omega) (hf_mono ?_ (hf_G_kn (by decide) (by decide) (op_cost (X := X) (d := 788) h)))
      rintro r M1 ⟨v, rfl, g⟩
      refine w_L_law_796_m (d := 1399) (hf_mono ?_ g)
      rintro r2 ⟨t2, T2, I2, L2, P2⟩ ⟨rfl, hS⟩
      exact w_L_law_800 (d := 1400) hS.1 ⟨fun _ => nx (Nat.le_refl _) (Nat.le_refl _) hS, fun z => absurd rfl z⟩
    · refine w_L_law_805_c (d := 1399) hs (by omega) (by omega) (hf_mono ?_ (hf_G_kn (by decide) (by decide) (op_undo (X := X) (d := 1397) hN h)))
      rintro r M1 ⟨v, rfl, g⟩
      refine w_L_law_809_m (d := 1399) (hf_mono ?_ g)
      rintro r2 ⟨t2, T2, I2, L2, P2⟩ ⟨rfl, hS⟩
      exact w_L_law_813 (d := 1400) hS.1 ⟨fun _ => nx (Nat.le_refl _) (Nat.le_refl _) hS, fun z => absurd rfl z⟩
    · refine w_L_law_818_c (d := 1399) hs (by omega) (by omega) ⟨v1, hf_mono ?_ (hf_G_kn (by decide) (by decide) (op_fit (X := X) (d := 788) h))⟩
      rintro r M1 ⟨v, rfl, g⟩
      refine w_L_law_827_m (d := 1399) ⟨v1, hf_mono ?_ g⟩
      rintro r2 ⟨t2, T2, I2, L2, P2⟩ ⟨rfl, hS⟩
      exact w_L_law_836 (d := 1400) hS.1 ⟨fun _ => nx (Nat.le_refl _) (Nat.le_refl _) hS, fun z => absurd rfl z⟩
    · refine w_L_law_841_c (d := 1399) hs (by omega) (by omega) (hf_mono ?_ (hf_G_kn (by decide) (by decide) (op_over (X := X) (d := 787) h)))
      rintro r M1 ⟨v, rfl, g⟩
      refine w_L_law_845_m (d := 1399) (hf_mono ?_ g)
      rintro r2 ⟨t2, T2, I2, L2, P2⟩ ⟨rfl, hS⟩
      exact w_L_law_849 (d := 1400) hS.1 ⟨fun _ => nx (Nat.le_refl _) (Nat.le_refl _) hS, fun z => absurd rfl z⟩
    · refine w_L_law_854_c (d := 1399) hs (by omega) (by omega) (hf_mono ?_ (hf_G_kn (by decide) (by decide) (op_narrow (X := X) (d := 787) h)))
      rintro r M1 ⟨v, rfl, g⟩
      refine w_L_law_858_m (d := 1399) (hf_mono ?_ g)
      rintro r2 ⟨t2, T2, I2, L2, P2⟩ ⟨rfl, hS⟩
      exact w_L_law_862 (d := 1400) hS.1 ⟨fun _ => nx (Nat.le_refl _) (Nat.le_refl _) hS, fun z => absurd rfl z⟩
    · refine w_L_law_867_c (d := 1399) hs (by omega) (by omega) (hf_mono ?_ (hf_G_kn (by decide) (by decide) (op_largest (X := X) (d := 787) h)))
      rintro r M1 ⟨v, rfl, g⟩
      refine w_L_law_871_m (d := 1399) (hf_mono ?_ g)
      rintro r2 ⟨t2, T2, I2, L2, P2⟩ ⟨rfl, hS⟩
      exact w_L_law_875 (d := 1400) hS.1 ⟨fun _ => nx (Nat.le_refl _) (Nat.le_refl _) hS, fun z => absurd rfl z⟩
    · refine w_L_law_880_c (d := 1399) hs (by omega) (by omega) ⟨v1, hf_mono ?_ (hf_G_kn (by decide) (by decide) (op_truest (X := X) (d := 788) h))⟩
      rintro r M1 ⟨v, rfl, g⟩
      refine w_L_law_889_m (d := 1399) ⟨v1, hf_mono ?_ g⟩
      rintro r2 ⟨t2, T2, I2, L2, P2⟩ ⟨rfl, hS⟩
      exact w_L_law_898 (d := 1400) hS.1 ⟨fun _ => nx (Nat.le_refl _) (Nat.le_refl _) hS, fun z => absurd rfl z⟩
    · refine w_L_law_903_c (d := 1399) hs (by omega) (by omega) ⟨v1, v2, hf_mono ?_ (hf_G_kn (by decide) (by decide) (op_says (X := X) (d := 788) h))⟩
      rintro r M1 ⟨v, rfl, g⟩
      refine w_L_law_917_m (d := 1399) ⟨v1, v2, hf_mono ?_ g⟩
      rintro r2 ⟨t2, T2, I2, L2, P2⟩ ⟨rfl, hS⟩
      exact w_L_law_931 (d := 1400) hS.1 ⟨fun _ => nx (Nat.le_refl _) (Nat.le_refl _) hS, fun z => absurd rfl z⟩
    · refine w_L_law_936_c (d := 1399) hs (by omega) (by omega) ⟨v1, v2, hf_mono ?_ (hf_G_kn (by decide) (by decide) (op_seen (X := X) (d := 1397) hN h))⟩
      rintro r M1 ⟨v, rfl, g⟩
      refine w_L_law_950_m (d := 1399) ⟨v1, v2, hf_mono ?_ g⟩
      rintro r2 ⟨t2, T2, I2, L2, P2⟩ ⟨rfl, hS⟩
      exact w_L_law_964 (d := 1400) hS.1 ⟨fun _ => nx (Nat.le_refl _) (Nat.le_refl _) hS, fun z => absurd rfl z⟩
    · refine w_L_law_969_c (d := 1399) hs (by omega) (by omega) (hf_mono ?_ (hf_G_kn (by decide) (by decide) (op_forget (X := X) (d := 1399) h)))
      rintro r M1 ⟨v, rfl, g⟩
      refine w_L_law_973_m (d := 1399) (hf_mono ?_ g)
      rintro r2 ⟨t2, T2, I2, L2, P2⟩ ⟨rfl, hS⟩
      exact w_L_law_977 (d := 1400) hS.1 ⟨fun _ => nx (Nat.le_refl _) (Nat.le_refl _) hS, fun z => absurd rfl z⟩
    · refine w_L_law_982_c (d := 1399) hs (by omega) (by omega) ⟨v1, hf_mono ?_ (hf_G_kn (by decide) (by decide) (op_changed (X := X) (d := 1395) h))⟩
      rintro r M1 ⟨v, rfl, g⟩
      refine w_L_law_991_m (d := 1399) ⟨v1, hf_mono ?_ g⟩
      rintro r2 ⟨t2, T2, I2, L2, P2⟩ ⟨rfl, hS⟩
      exact w_L_law_1000 (d := 1400) hS.1 ⟨fun _ => nx (Nat.le_refl _) (Nat.le_refl _) hS, fun z => absurd rfl z⟩
    · refine w_L_law_1005_c (d := 1399) hs (by omega) (by omega) ⟨v1, v2, v3, hf_mono ?_ (hf_G_kn (by decide) (by decide) (op_matter (X := X) (d := 1397) hN h))⟩
      rintro r M1 ⟨v, rfl, g⟩
      refine w_L_law_1024_m (d := 1399) ⟨v1, v2, v3, hf_mono ?_ g⟩
      rintro r2 ⟨t2, T2, I2, L2, P2⟩ ⟨rfl, hS⟩
      exact w_L_law_1043 (d := 1400) hS.1 ⟨fun _ => nx (Nat.le_refl _) (Nat.le_refl _) hS, fun z => absurd rfl z⟩
    · refine w_L_law_1048_c (d := 1399) hs (by omega) (by omega) (hf_mono ?_ (hf_G_kn (by decide) (by decide) (op_cancel (X := X) (d := 1399) h)))
      rintro r M1 ⟨v, rfl, g⟩
      refine w_L_law_1052_m (d := 1399) (hf_mono ?_ g)
      rintro r2 ⟨t2, T2, I2, L2, P2⟩ ⟨rfl, hS⟩
      exact w_L_law_1056 (d := 1400) hS.1 ⟨fun _ => nx (Nat.le_refl _) (Nat.le_refl _) hS, fun z => absurd rfl z⟩
    · refine w_L_law_1061_c (d := 1399) hs (by omega) (by omega) ⟨v1, hf_mono ?_ (hf_G_kn (by decide) (by decide) (op_edition (X := X) (d := 1397) h))⟩
      rintro r M1 ⟨v, rfl, g⟩
      refine w_L_law_1070_m (d := 1399) ⟨v1, hf_mono ?_ g⟩
      rintro r2 ⟨t2, T2, I2, L2, P2⟩ ⟨rfl, hS⟩
      exact w_L_law_1079 (d := 1400) hS.1 ⟨fun _ => nx (Nat.le_refl _) (Nat.le_refl _) hS, fun z => absurd rfl z⟩
    · refine w_L_law_1084_c (d := 1399) hs (by omega) (by omega) ⟨v1, v2, hf_mono ?_ (hf_G_kn (by decide) (by decide) (op_readers (X := X) (d := 1397) hN h))⟩
      rintro r M1 ⟨v, rfl, g⟩
      refine w_L_law_1098_m (d := 1399) ⟨v1, v2, hf_mono ?_ g⟩
      rintro r2 ⟨t2, T2, I2, L2, P2⟩ ⟨rfl, hS⟩
      exact w_L_law_1112 (d := 1400) hS.1 ⟨fun _ => nx (Nat.le_refl _) (Nat.le_refl _) hS, fun z => absurd rfl z⟩
    · refine w_L_law_1117_c (d := 1399) hs (by omega) (by omega) ⟨v1, hf_mono ?_ (hf_G_kn (by decide) (by decide) (op_drawn (X := X) (d := 1398) h))⟩
      rintro r M1 ⟨v, rfl, g⟩
      refine w_L_law_1126_m (d := 1399) ⟨v1, hf_mono ?_ g⟩
      rintro r2 ⟨t2, T2, I2, L2, P2⟩ ⟨rfl, hS⟩
      exact w_L_law_1135 (d := 1400) hS.1 ⟨fun _ => nx (Nat.le_refl _) (Nat.le_refl _) hS, fun z => absurd rfl z⟩
    · refine w_L_law_1140_c (d := 1399) hs (by omega) (by omega) ⟨v1, hf_mono ?_ (hf_G_kn (by decide) (by decide) (op_image (X := X) (d := 1396) hN h))⟩
      rintro r M1 ⟨v, rfl, g⟩
      refine w_L_law_1149_m (d := 1399) ⟨v1, hf_mono ?_ g⟩
      rintro r2 ⟨t2, T2, I2, L2, P2⟩ ⟨rfl, hS⟩
      exact w_L_law_1158 (d := 1400) hS.1 ⟨fun _ => nx (Nat.le_refl _) (Nat.le_refl _) hS, fun z => absurd rfl z⟩
    · refine w_L_law_1163_c (d := 1399) hs (by omega) (by omega) ⟨v1, hf_mono ?_ (hf_G_kn (by decide) (by decide) (op_back (X := X) (d := 1396) hN h))⟩
      rintro r M1 ⟨v, rfl, g⟩
      refine w_L_law_1172_m (d := 1399) ⟨v1, hf_mono ?_ g⟩
      rintro r2 ⟨t2, T2, I2, L2, P2⟩ ⟨rfl, hS⟩
      exact w_L_law_1181 (d := 1400) hS.1 ⟨fun _ => nx (Nat.le_refl _) (Nat.le_refl _) hS, fun z => absurd rfl z⟩
    · refine w_L_law_1186_c (d := 1399) hs (by omega) (by omega) ⟨v1, hf_mono ?_ (hf_G_kn (by decide) (by decide) (op_count (X := X) (d := 1398) h))⟩
      rintro r M1 ⟨v, rfl, g⟩
      refine w_L_law_1195_m (d := 1399) ⟨v1, hf_mono ?_ g⟩
      rintro r2 ⟨t2, T2, I2, L2, P2⟩ ⟨rfl, hS⟩
      exact w_L_law_1204 (d := 1400) hS.1 ⟨fun _ => nx (Nat.le_refl _) (Nat.le_refl _) hS, fun z => absurd rfl z⟩
    · refine w_L_law_1209_c (d := 1399) hs (by omega) (by omega) (hf_mono ?_ (hf_G_kn (by decide) (by decide) (op_status (X := X) (d := 1399) h)))
      rintro r M1 ⟨v, rfl, g⟩
      refine w_L_law_1213_m (d := 1399) (hf_mono ?_ g)
      rintro r2 ⟨t2, T2, I2, L2, P2⟩ ⟨rfl, hS⟩
      exact w_L_law_1217 (d := 1400) hS.1 ⟨fun _ => nx (Nat.le_refl _) (Nat.le_refl _) hS, fun z => absurd rfl z⟩
