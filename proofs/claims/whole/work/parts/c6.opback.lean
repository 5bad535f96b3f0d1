/-! back, related -/
section OPBACK
variable {X : hf_X} {d N t : Nat} {T : hf_T} {I : hf_I} {L : hf_L} {P : hf_P}
theorem mb_no {x m a : Nat} {I : hf_I} (h : ¬ a = 158) : mb_I I x m a = I a := hf_set_no h
theorem mb_at {x m j : Nat} {I : hf_I} (h : j < m) : mb_I I x m 158 j = I 159 (5929 * x + j) := by
  unfold mb_I
  rw [hf_set_at, if_pos h]
theorem SD_by {D br wo dm W se lo tr le lt sy nx H hw hl sn mi du mw kp : Nat → Int32} (h : hf_SD D br wo dm W se lo tr le lt sy nx H hw hl sn mi du mw kp) : S_by lt := by
  obtain ⟨-, -, -, ⟨w, -, -, -, -, -, h6⟩, -⟩ := h
  exact h6
theorem law_6 {t : Nat} {T : hf_T} {P : hf_P} {J : Nat → Nat → Int32} {lw : Nat} {lc : Int32} {K : Nat → Int32} (h : sl_law t T P J lw lc K) : ∀ i, i < 6 → P lw i = none ∨ ∃ b, P lw i = some b ∧ T b = (9, 0) ∧ 100 ≤ b ∧ b < 100 + t := by
  obtain ⟨n, -, -, -, h6⟩ := h
  exact h6
theorem op_back {a : Int32} (hN : N ≤ 100000) (h : hf_Sim hf_SL hf_CC N t T I L P) : hf_Pair X Y_X11_back Y_X12_back [.int a] (d + 3) 0 0 (t, T, I, L, P) (hf_SimM hf_SL hf_CC (N + 1)) := by
  have hs := h.1
  refine w_X11_back_0_r (d := d + 1) hs ⟨fun c1 => ⟨_, rfl, w_X12_back_0 (d := d + 2) hs ⟨fun _ => ⟨rfl, sim_refuse (Or.inl rfl) h⟩, fun q => absurd c1 q⟩⟩, fun c1 => ⟨fun c2 => ⟨_, rfl, w_X12_back_0 (d := d + 2) hs ⟨fun q => absurd q c1, fun _ => ⟨fun _ => ⟨rfl, sim_refuse (Or.inl rfl) h⟩, fun q => absurd c2 q⟩⟩⟩, fun c2 => ?_⟩⟩
  obtain ⟨x, hx, rfl⟩ := hf_rng (M := 1) (b := 1) (by decide) c1 c2
  have ex : (nI x).toNatClampNeg = x := nI_clamp (by omega)
  have vx : vp_in (nI x) 2 := vp_in_nI (by omega) (by omega)
  rcases h.2.2.2.2.2.2.1 x (by omega) with ⟨p0, hi0⟩ | ⟨e, p1, hi1, im⟩
  · refine w_X11_back_15_z (d := d + 1) hs (by rw [ex]; exact p0) ⟨vx, _, rfl, w_X12_back_0 (d := d + 2) hs ⟨fun q => absurd q c1, fun _ => ⟨fun q => absurd q c2, fun _ => ⟨vx, fun q => absurd ?_ q, fun _ => ⟨rfl, sim_refuse (Or.inr (Or.inl rfl)) h⟩⟩⟩⟩⟩
    show I 160 (nI x).toNatClampNeg = 0
    rw [ex]
    exact hi0
  · have hb := bk_blk im.1
    have hs1 : hf_Lay t T (tf_P (181 + e) 101 6 P) := lay_cg hs (Nat.le_refl _) (fun _ _ => rfl) (fun b _ h1 _ => tf_P_out (by omega))
    refine w_X11_back_15_s (d := d + 2) hs (by rw [ex]; exact p1) hb ⟨vx, vx, cs_take (d := d) (Or.inr (by omega)) (bk_lay hs) hb ?_ ?_ ?_⟩
    · have := SD_by im.2.1
      rw [Nat.add_assoc]
      exact this
    · have := law_6 im.2.2
      rw [Nat.add_assoc]
      exact this
    · refine w_X11_back_44_s (d := d + 2) hs1 ⟨_, rfl, ms_back (d := d + 1) hs1 (by omega) ?_ ⟨rfl, ?_⟩⟩
      · rw [hf_up_no (by omega), hf_up_no (by omega), hf_up_no (by omega), tf_out (by omega)]
        exact hi1
      · dsimp only [hf_SimM]
        refine sim_bk (I1 := tf_M (181 + e) 101 tf_all I) hN (by omega) h p1 im (fun b hb => tf_out hb) (fun j i hj hc => ?_) (fun b b1 b2 b3 b4 => ?_) ?_ ?_ ?_ (fun j hj => ?_)
        · rw [tf_in hj hc, Nat.add_assoc]
        · rw [hf_up_no b3, hf_up_no b3, mb_no b4, hf_up_no b1, hf_up_no b1, hf_up_no b2]
        · rw [hf_up_no (by omega), hf_up_no (by omega), mb_no (by omega), hf_up_at, hf_up_at, hf_up_no (by omega)]
        · rw [hf_up_no (by omega), hf_up_no (by omega), mb_no (by omega), hf_up_no (by omega), hf_up_no (by omega), hf_up_at]
        · rw [hf_up_at, hf_up_at, mb_no (by omega), hf_up_no (by omega), hf_up_no (by omega), hf_up_no (by omega)]
        · rw [hf_up_no (by omega), hf_up_no (by omega), mb_at hj, hf_up_no (by omega), hf_up_no (by omega), hf_up_no (by omega), tf_out (by omega)]
end OPBACK
