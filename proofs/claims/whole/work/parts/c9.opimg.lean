/-! image, by both -/
section OPIMG2
variable {X : hf_X} {d N t : Nat} {T : hf_T} {I : hf_I} {L : hf_L} {P : hf_P}
theorem mi_no {x m a : Nat} {I : hf_I} (h : ¬ a = 159) : mi_I I x m a = I a := hf_set_no h
theorem mi_in {x m j : Nat} {I : hf_I} (h : j < m) : mi_I I x m 159 (5929 * x + j) = I 158 j := by
  unfold mi_I
  rw [hf_set_at]
  show (if 5929 * x ≤ 5929 * x + j ∧ 5929 * x + j < 5929 * x + m then I 158 (5929 * x + j - 5929 * x) else I 159 (5929 * x + j)) = _
  rw [if_pos (by omega), Nat.add_sub_cancel_left]
theorem mi_out {x m j : Nat} {I : hf_I} (h : ¬ (5929 * x ≤ j ∧ j < 5929 * x + m)) : mi_I I x m 159 j = I 159 j := by
  unfold mi_I
  rw [hf_set_at]
  show (if 5929 * x ≤ j ∧ j < 5929 * x + m then I 158 (j - 5929 * x) else I 159 j) = _
  rw [if_neg h]
theorem hf_upP_at {P : hf_P} {a j : Nat} {v : Option Nat} : hf_upP P a j v a j = v := by simp [hf_upP, va_up]
theorem hf_upP_nj {P : hf_P} {a j i : Nat} {v : Option Nat} (h : ¬ i = j) : hf_upP P a j v a i = P a i := by simp [hf_upP, va_up, h]
/-- what both leave: the class from I1, the model behind it -/
theorem im_mem {e x : Nat} {I1 : hf_I} (x2 : x < 2) (f : ∀ a, a < 100 + t → ¬ (181 + e ≤ a ∧ a < 181 + e + 20) → I1 a = I a) (h81 : 81 ≤ t) : ∀ M, M = hf_up (hf_up (mi_I (hf_up (hf_up (tf_M 101 (181 + e) tf_all I1) 100 15 0) 100 16 (tf_M 101 (181 + e) tf_all I1 100 16 + 1)) x 5929) 160 x 1) 156 0 0 →
    (∀ a, a < 100 + t → ¬ (181 + e ≤ a ∧ a < 181 + e + 20) → ¬ a = 100 → ¬ a = 156 → ¬ a = 159 → ¬ a = 160 → M a = I a) ∧ (∀ j i, j < 20 → tf_c tf_all j i = true → M (181 + (e + j)) i = I (101 + j) i) ∧ M 100 = upd (upd (I 100) 15 0) 16 (I 100 16 + 1) ∧ M 156 = upd (I 156) 0 0 ∧ (∀ j, j < 5929 → M 159 (5929 * x + j) = I 158 j) ∧ (∀ k, k < 2 → ¬ k = x → ∀ j, j < 5929 → M 159 (5929 * k + j) = I 159 (5929 * k + j)) ∧ M 160 x = 1 ∧ ∀ k, k < 2 → ¬ k = x → M 160 k = I 160 k := by
  intro M hM
  have o : ∀ a, ¬ (181 + e ≤ a ∧ a < 181 + e + 20) → tf_M 101 (181 + e) tf_all I1 a = I1 a := fun a ha => tf_out ha
  have g : ∀ a, a < 181 → I1 a = I a := fun a ha => f a (by omega) (by omega)
  subst hM
  refine ⟨fun a a1 a2 a3 a4 a5 a6 => ?_, fun j i hj hc => ?_, ?_, ?_, fun j hj => ?_, fun k hk hkx j hj => ?_, ?_, fun k hk hkx => ?_⟩
  · rw [hf_up_no a4, hf_up_no a6, mi_no a5, hf_up_no a3, hf_up_no a3, o a a2]
    exact f a a1 a2
  · rw [hf_up_no (by omega), hf_up_no (by omega), mi_no (by omega), hf_up_no (by omega), hf_up_no (by omega), ← Nat.add_assoc, tf_in hj hc, g _ (by omega)]
  · rw [hf_up_no (by omega), hf_up_no (by omega), mi_no (by omega), hf_up_at, hf_up_at, o 100 (by omega), g 100 (by omega)]
  · rw [hf_up_at, hf_up_no (by omega), mi_no (by omega), hf_up_no (by omega), hf_up_no (by omega), o 156 (by omega), g 156 (by omega)]
  · rw [hf_up_no (by omega), hf_up_no (by omega), mi_in hj, hf_up_no (by omega), hf_up_no (by omega), o 158 (by omega), g 158 (by omega)]
  · rw [hf_up_no (by omega), hf_up_no (by omega), mi_out (by omega), hf_up_no (by omega), hf_up_no (by omega), o 159 (by omega), g 159 (by omega)]
  · rw [hf_up_no (by omega), hf_up_at, hf_upd_eq]
  · rw [hf_up_no (by omega), hf_up_at, hf_upd_ne hkx, mi_no (by omega), hf_up_no (by omega), hf_up_no (by omega), o 160 (by omega), g 160 (by omega)]
theorem op_image {a : Int32} (hN : N ≤ 100000) (h : hf_Sim hf_SL hf_CC N t T I L P) : hf_Pair X Y_X11_image Y_X12_image [.int a] (d + 3) 20 347 (t, T, I, L, P) (hf_SimM hf_SL hf_CC (N + 1)) := by
  have hs := h.1
  have h81 := hs.1
  refine w_X11_image_0_r (d := d + 1) hs ⟨fun c1 => ⟨_, rfl, w_X12_image_0 (d := d + 2) hs ⟨fun _ => ⟨rfl, sim_refuse (Or.inl rfl) h⟩, fun q => absurd c1 q⟩⟩, fun c1 => ⟨fun c2 => ⟨_, rfl, w_X12_image_0 (d := d + 2) hs ⟨fun q => absurd q c1, fun _ => ⟨fun _ => ⟨rfl, sim_refuse (Or.inl rfl) h⟩, fun q => absurd c2 q⟩⟩⟩, fun c2 => ?_⟩⟩
  obtain ⟨x, hx, rfl⟩ := hf_rng (M := 1) (b := 1) (by decide) c1 c2
  have ex : (nI x).toNatClampNeg = x := nI_clamp (by omega)
  have vx : vp_in (nI x) 2 := vp_in_nI (by omega) (by omega)
  have hby : S_by (I 110) := SD_by h.2.1
  have hl6 := law_6 h.2.2.2.2.2.1
  rcases h.2.2.2.2.2.2.1 x (by omega) with ⟨p0, hi0⟩ | ⟨e, p1, hi1, im⟩
  · obtain ⟨e, he⟩ : ∃ e, 181 + e = 100 + t := ⟨t - 81, by omega⟩
    refine hf_G_junk (T' := fun a => if 100 + t ≤ a then bs (a - (100 + t)) else T a) (I' := fun a => if 100 + t ≤ a then (fun _ => 0) else I a) (L' := fun a => if 100 + t ≤ a then (fun _ => 0) else L a) (P' := fun a => if 100 + t ≤ a then (fun _ => none) else P a) (fun b hb => ⟨if_neg (by omega), if_neg (by omega), if_neg (by omega), if_neg (by omega)⟩) ?_
    generalize hT0 : (fun a => if 100 + t ≤ a then bs (a - (100 + t)) else T a) = T0
    generalize hI0 : (fun a => if 100 + t ≤ a then (fun _ => 0) else I a : hf_I) = I0
    generalize hL0 : (fun a => if 100 + t ≤ a then (fun _ => 0) else L a : hf_L) = L0
    generalize hP0 : (fun a => if 100 + t ≤ a then (fun _ => none) else P a : hf_P) = P0
    have fT : ∀ b, b < 100 + t → T0 b = T b := fun b hb => by rw [← hT0]; exact if_neg (by omega)
    have fI : ∀ b, b < 100 + t → I0 b = I b := fun b hb => by rw [← hI0]; exact if_neg (by omega)
    have fL : ∀ b, b < 100 + t → L0 b = L b := fun b hb => by rw [← hL0]; exact if_neg (by omega)
    have fP : ∀ b, b < 100 + t → P0 b = P b := fun b hb => by rw [← hP0]; exact if_neg (by omega)
    have nT : ∀ j, T0 (181 + e + j) = bs j := fun j => by
      rw [← hT0]
      show (if 100 + t ≤ 181 + e + j then bs (181 + e + j - (100 + t)) else T (181 + e + j)) = _
      rw [if_pos (by omega), he, Nat.add_sub_cancel_left]
    have nw : ∀ j, jk_nw T0 I0 L0 P0 (181 + e + j) (bs j) := fun j => ⟨nT j, by rw [← hI0]; exact if_pos (by omega), by rw [← hL0]; exact if_pos (by omega), by rw [← hP0]; exact if_pos (by omega)⟩
    have hs0 : hf_Lay t T0 P0 := lay_cg hs (Nat.le_refl _) (fun b hb => fT b (by omega)) (fun b hb _ _ => fP b (by omega))
    refine w_X11_image_15_z (d := d + 3) hs0 (by rw [ex, fP 121 (by omega)]; exact p0) ⟨vx, w_X11_image_24_n (d := d + 2) hs0 he (nw 0) (cs_dinit (d := d) he (fun j _ => nT j) (fun j _ _ => nw j) fun I1 g1 g2 g3 g4 g5 => ?_)⟩
    have hs1 : hf_Lay (t + 20) T0 (di_P (181 + e) P0) := lay_cg hs0 (by omega) (fun _ _ => rfl) (fun b hb _ _ => di_P_no (by omega) (by omega) (by omega))
    refine w_X11_image_36_n (d := d + 3) hs1 ⟨by omega, by omega⟩ (nT 0) ⟨vx, ?_⟩
    rw [ex]
    generalize hP2 : hf_upP (di_P (181 + e) P0) 121 x (some (181 + e)) = P2
    have fP2 : ∀ b, b < 100 + t → ¬ b = 121 → P2 b = P b := fun b hb h1 => by
      rw [← hP2, hf_upP_no h1, di_P_no (by omega) (by omega) (by omega)]
      exact fP b hb
    have hs2 : hf_Lay (t + 20) T0 P2 := lay_cg hs1 (by omega) (fun _ _ => rfl) (fun b hb _ h2 => by rw [← hP2]; exact hf_upP_no h2)
    have hb2 : bk (t + 20) T0 P2 (181 + e) := bk_P (di_P_bk he fun j _ => nT j) fun j hj => by rw [← hP2]; exact hf_upP_no (by omega)
    have p121 : P2 121 x = some (181 + e) := by rw [← hP2]; exact hf_upP_at
    have gI : ∀ b, b < 100 + t → I1 b = I b := fun b hb => by
      rw [g1 b (by omega) (by omega) (by omega), di_I_no (by omega) (by omega) (by omega)]
      exact fI b hb
    refine w_X11_image_37_s (d := d + 2) hs2 (by rw [ex]; exact p121) hb2 ⟨vx, cs_take (d := d) (Or.inl (by omega)) hb2 (bk_lay hs2) ?_ ?_ ?_⟩
    · show S_by (I1 110)
      rw [gI 110 (by omega)]
      exact hby
    · intro i hi
      show P2 111 i = none ∨ ∃ b, P2 111 i = some b ∧ T0 b = (9, 0) ∧ 100 ≤ b ∧ b < 100 + (t + 20)
      rw [fP2 111 (by omega) (by omega)]
      rcases hl6 i hi with q | ⟨b, q1, q2, q3, q4⟩
      · exact Or.inl q
      · exact Or.inr ⟨b, q1, (fT b q4).trans q2, q3, by omega⟩
    · have hs3 : hf_Lay (t + 20) T0 (tf_P 101 (181 + e) 6 P2) := lay_cg hs2 (by omega) (fun _ _ => rfl) (fun b hb _ _ => tf_P_out (by omega))
      refine w_X11_image_50_s (d := d + 2) hs3 ⟨_, rfl, ms_image (d := d + 2) hs3 (by omega) ⟨rfl, ?_⟩⟩
      obtain ⟨m1, m2, m3, m4, m5, m6, m7, m8⟩ := im_mem (I := I) (e := e) (x := x) (I1 := I1) (by omega) (fun b hb _ => gI b hb) h81 _ rfl
      dsimp only [hf_SimM]
      refine sim_im hN (by omega) h (by omega) fT (fL 136 (by omega)) (bk_P hb2 fun j hj => tf_P_out (by omega)) (by rw [tf_P_out (by omega)]; exact p121) (fun k hk hkx => ?_) (fun b hb h1 h2 => ?_) (fun i hi => ?_) (fun tx h1 _ => by omega) (fun k hk hkx e' _ hbl => ?_) m1 m2 m3 m4 m5 m6 m7 m8
      · rw [tf_P_out (by omega), ← hP2, hf_upP_nj hkx, di_P_no (by omega) (by omega) (by omega), fP 121 (by omega)]
      · rw [tf_P_out (by omega)]
        exact fP2 b hb h1
      · rw [← Nat.add_assoc, tf_P_in hi]
        show P2 111 i = _
        rw [fP2 111 (by omega) (by omega)]
      · have := hbl.1
        omega
  · have hb := bk_blk im.1
    have rg := im.1.1
    have hs1 : hf_Lay t T (tf_P 101 (181 + e) 6 P) := lay_cg hs (Nat.le_refl _) (fun _ _ => rfl) (fun b hb _ _ => tf_P_out (by omega))
    refine w_X11_image_15_s (d := d + 3) hs (by rw [ex]; exact p1) hb ⟨vx, w_X11_image_37_s (d := d + 2) hs (by rw [ex]; exact p1) hb ⟨vx, cs_take (d := d) (Or.inl (by omega)) hb (bk_lay hs) hby hl6 (w_X11_image_50_s (d := d + 2) hs1 ⟨_, rfl, ms_image (d := d + 2) hs1 (by omega) ⟨rfl, ?_⟩⟩)⟩⟩
    obtain ⟨m1, m2, m3, m4, m5, m6, m7, m8⟩ := im_mem (I := I) (e := e) (x := x) (I1 := I) (by omega) (fun b _ _ => rfl) h81 _ rfl
    have hE : sl_E P e := by
      rcases (show x = 0 ∨ x = 1 by omega) with rfl | rfl
      · exact Or.inl p1
      · exact Or.inr p1
    dsimp only [hf_SimM]
    refine sim_im hN (by omega) h (Nat.le_refl _) (fun _ _ => rfl) rfl (bk_P hb fun j hj => tf_P_out (by omega)) (by rw [tf_P_out (by omega)]; exact p1) (fun k hk hkx => by rw [tf_P_out (by omega)]) (fun b _ h1 h2 => tf_P_out (by omega)) (fun i hi => by rw [← Nat.add_assoc, tf_P_in hi]) (fun tx _ hh => hh e hE) (fun k hk hkx e' he' _ => ?_) m1 m2 m3 m4 m5 m6 m7 m8
    rcases (show x = 0 ∨ x = 1 by omega) with rfl | rfl
    · obtain rfl : k = 1 := by omega
      have := h.2.2.2.2.2.2.2 e e' p1 he'
      omega
    · obtain rfl : k = 0 := by omega
      have := h.2.2.2.2.2.2.2 e' e he' p1
      omega
end OPIMG2
