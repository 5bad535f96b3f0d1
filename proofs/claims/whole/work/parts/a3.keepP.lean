/-! the reader's own reference changes nothing of texts, images, findings -/
section KEEPP
variable {t : Nat} {T : hf_T} {P P' : hf_P}
theorem Tx_P {tx z m c0 c1 c2 c3 c4 c5 : Nat} (hP : ∀ q j, ¬ q = 123 → P' q j = P q j) (htx : ¬ tx = 123) (h : hf_Tx t T P tx z m c0 c1 c2 c3 c4 c5) : hf_Tx t T P' tx z m c0 c1 c2 c3 c4 c5 := by
  unfold hf_Tx at h ⊢
  rw [hP tx 0 htx, hP tx 1 htx, hP tx 2 htx, hP tx 3 htx, hP tx 4 htx, hP tx 5 htx]
  exact h
theorem lw_c_P {I : hf_I} {cls : List gr_c1} (hP : ∀ q j, ¬ q = 123 → P' q j = P q j) (h : lw_c t T I P cls) : lw_c t T I P' cls := by
  rcases h with h | ⟨i, tx, h1, h2, h3, h4, ⟨z, m, c0, c1, c2, c3, c4, c5, h5, h6⟩, h7⟩
  · exact Or.inl h
  · exact Or.inr ⟨i, tx, h1, h2, h3, (hP 111 i (by omega)).trans h4, ⟨z, m, c0, c1, c2, c3, c4, c5, Tx_P hP (by omega) h5, h6⟩, h7⟩
theorem hf_CC_P {a b c d e f : Int32} {g h : Nat → Int32} {W5 : Int32} {i1 i2 i3 i4 l k1 k2 : Nat → Int32} {J : Nat → Nat → Int32} {x y : Int64} {u v : Int32} (hP : ∀ q j, ¬ q = 123 → P' q j = P q j) (hc : hf_CC a b c d e f g h W5 i1 i2 i3 i4 l k1 k2 J P x y u v) : hf_CC a b c d e f g h W5 i1 i2 i3 i4 l k1 k2 J P' x y u v := by
  obtain ⟨lt0, cls, c1, ⟨t', T', I', c2, c3, c4, c5⟩, c6⟩ := hc
  exact ⟨lt0, cls, c1, ⟨t', T', I', c2, c3, c4, lw_c_P hP c5⟩, c6⟩
theorem sl_tx_P {J : Nat → Nat → Int32} {tx : Nat} {cls : List gr_c1} (hP : ∀ q j, ¬ q = 123 → P' q j = P q j) (h : sl_tx t T P J tx cls) : sl_tx t T P' J tx cls := by
  obtain ⟨z, m, h1, h2⟩ := h
  exact ⟨z, m, Tx_P hP (by omega) h1, h2⟩
theorem sl_E_P {e : Nat} (hP : ∀ q j, ¬ q = 123 → P' q j = P q j) : sl_E P' e ↔ sl_E P e := by
  unfold sl_E
  rw [hP 121 0 (by omega), hP 121 1 (by omega)]
/-- also, what the model keeps behind its six LAWS may change -/
def kp_same (K K' : Nat → Int32) : Prop := (∀ i, i < 6 → K' i = K i) ∧ ∀ i k, i < 6 → k < 400 → K' (7 + 400 * i + k) = K (7 + 400 * i + k) ∧ K' (2807 + 400 * i + k) = K (2807 + 400 * i + k)
theorem kp_rf {K : Nat → Int32} : kp_same K K := ⟨fun _ _ => rfl, fun _ _ _ _ => ⟨rfl, rfl⟩⟩
theorem kp_tk_s {K K' : Nat → Int32} {i : Nat} {c v : Nat → Nat} {m : Nat} (hK : kp_same K K') (hi : i < 6) (h : kp_tk K i c v m) : kp_tk K' i c v m := by
  obtain ⟨h1, h2, h3, h4⟩ := h
  refine ⟨h1, h2, (hK.1 i hi).trans h3, fun k hk => ?_⟩
  obtain ⟨e1, e2⟩ := hK.2 i k hi (by omega)
  rw [e1, e2]
  exact h4 k hk
theorem sl_law_P {J : Nat → Nat → Int32} {lw : Nat} {lc : Int32} {K K' : Nat → Int32} (hP : ∀ q j, ¬ q = 123 → P' q j = P q j) (hlw : ¬ lw = 123) (hK : kp_same K K') (h : sl_law t T P J lw lc K) : sl_law t T P' J lw lc K' := by
  obtain ⟨n, n6, hn, hh, h6⟩ := h
  refine ⟨n, n6, hn, fun i hi => ?_, fun i hi => by rw [hP lw i hlw]; exact h6 i hi⟩
  obtain ⟨tx, c, v, m, a1, a2, a3, a4, a5⟩ := hh i hi
  exact ⟨tx, c, v, m, (hP lw i hlw).trans a1, fun e he => a2 e ((sl_E_P hP).mp he), kp_tk_s hK (by omega) a3, a4, sl_tx_P hP a5⟩
theorem sl_im_P {J : Nat → Nat → Int32} {e : Nat} {K : Nat → Int32} (hP : ∀ q j, ¬ q = 123 → P' q j = P q j) (h : sl_im t T P J e K) : sl_im t T P' J e K := by
  obtain ⟨⟨b1, b2, b3⟩, h2, h3⟩ := h
  exact ⟨⟨b1, b2, fun j i b hj hb => (hP _ i (by omega)).trans (b3 j i b hj hb)⟩, h2, sl_law_P hP (by omega) kp_rf h3⟩
theorem hf_SL_P {J : Nat → Nat → Int32} {lc : Int32} {K K' im hi : Nat → Int32} (hP : ∀ q j, ¬ q = 123 → P' q j = P q j) (hK : kp_same K K') (h : hf_SL t T P J lc K im hi) : hf_SL t T P' J lc K' im hi := by
  obtain ⟨h1, h2, h3⟩ := h
  refine ⟨sl_law_P hP (by omega) hK h1, fun k hk => ?_, fun e0 e1 g0 g1 => h3 e0 e1 ((hP 121 0 (by omega)).symm.trans g0) ((hP 121 1 (by omega)).symm.trans g1)⟩
  rcases h2 k hk with ⟨a1, a2⟩ | ⟨e, a1, a2, a3⟩
  · exact Or.inl ⟨(hP 121 k (by omega)).trans a1, a2⟩
  · exact Or.inr ⟨e, (hP 121 k (by omega)).trans a1, a2, sl_im_P hP a3⟩
theorem upP_123 {o : Option Nat} : ∀ q j, ¬ q = 123 → hf_upP P 123 2 o q j = P q j := by
  intro q j hq
  unfold hf_upP va_up
  rw [if_neg hq]
end KEEPP
