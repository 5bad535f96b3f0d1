/-! a TEXT of its own for a LAW -/
section TRIM
variable {X : hf_X} {d k n t : Nat} {T : hf_T} {I : hf_I} {L : hf_L} {P : hf_P} {Q : Option Value → hf_M → Prop}
theorem cp_no {a b sp dp w q : Nat} {I : hf_I} (h : ¬ q = b) : hf_cp I a b sp dp w q = I q := if_neg h
theorem cp_in {a b w i : Nat} {I : hf_I} (h : i < w) : hf_cp I a b 0 0 w b i = I a i := by
  unfold hf_cp
  rw [if_pos rfl]
  unfold va_cpy
  rw [if_pos (by omega), Nat.zero_add, Nat.sub_zero]
def ti_P (tx : Nat) (P : hf_P) : hf_P := (hf_upP (hf_upP (hf_upP (hf_upP (hf_upP (hf_upP P tx 0 (some (tx + 1))) tx 1 (some (tx + 2))) tx 2 (some (tx + 3))) tx 3 (some (tx + 4))) tx 4 (some (tx + 5))) tx 5 (some (tx + 6)))
theorem ti_P_no {tx a : Nat} {P : hf_P} (h : ¬ a = tx) : ti_P tx P a = P a := by
  unfold ti_P
  simp only [hf_upP_no h]
theorem ti_P_tx {tx z m : Nat} (htx : tx = 100 + t) (hT : ∀ j, j < 7 → T (tx + j) = xs z m j) : hf_Tx (t + 7) T (ti_P tx P) tx z m (tx + 1) (tx + 2) (tx + 3) (tx + 4) (tx + 5) (tx + 6) := by
  refine ⟨hT 0 (by decide), by omega, ⟨?_, hT 1 (by decide), by omega⟩, ⟨?_, hT 2 (by decide), by omega⟩, ⟨?_, hT 3 (by decide), by omega⟩, ⟨?_, hT 4 (by decide), by omega⟩, ⟨?_, hT 5 (by decide), by omega⟩, ⟨?_, hT 6 (by decide), by omega⟩, trivial⟩ <;> simp [ti_P, hf_upP, va_up]
theorem cs_trim {tx z m : Nat} (hs : hf_Lay t T P) (htx : tx = 100 + t) (hz : z ≤ 800) (hm : m ≤ 12) (h6 : I 124 6 = nI z) (h7 : I 124 7 = nI m) (hT : ∀ j, j < 7 → T (tx + j) = xs z m j) (hN : ∀ j, j < 7 → jk_nw T I L P (tx + j) (xs z m j))
    (h : ∀ I', (∀ a, ¬ (tx ≤ a ∧ a < tx + 7) → I' a = I a) → I' tx 6 = nI z → I' tx 7 = nI m → (∀ i, i < z → I' (tx + 1) i = I 125 i) → (∀ i, i < m → I' (tx + 2) i = I 126 i ∧ I' (tx + 3) i = I 127 i ∧ I' (tx + 4) i = I 128 i ∧ I' (tx + 5) i = I 129 i ∧ I' (tx + 6) i = I 130 i) → Q (some (.ref tx)) (t + 7, T, I', L, ti_P tx P)) : hf_G X Y_X9_trimmed (d + 2) 7 868 0 (hf_en [.ref 124] 2) [] (t, T, I, L, P) Q := by
  have h81 := hs.1
  have hx := ti_P_tx (P := P) htx hT
  have hs1 : hf_Lay (t + 7) T (ti_P tx P) := lay_cg hs (by omega) (fun _ _ => rfl) (fun b hb _ _ => ti_P_no (by omega))
  refine w_X9_trimmed_0_n (d := d + 1) hs htx (hN 0 (by decide)) ?_
  rw [h6, h7]
  refine w_X9_init_0_n (d := d) hz hm (by omega) (by omega) hT (fun j _ hj => hN j hj) ?_
  show hf_G X Y_X9_trimmed (d + 2) 0 0 15 [some (.ref 124), none] [.ref tx] (t + 7, T, hf_up (hf_up I tx 6 0) tx 7 0, L, ti_P tx P) Q
  generalize hI0 : hf_up (hf_up I tx 6 0) tx 7 0 = I0
  have o0 : ∀ a, ¬ a = tx → I0 a = I a := fun a ha => by rw [← hI0, hf_up_no ha, hf_up_no ha]
  have z6 : ∀ J : hf_I, J 124 = I 124 → (J 124 6).toNatClampNeg = z ∧ ¬ J 124 6 < 0 := fun J hJ => by
    rw [hJ, h6]
    exact ⟨nI_clamp (by omega), nI_nlt (b := 0) (Nat.zero_le _) (by omega)⟩
  have z7 : ∀ J : hf_I, J 124 = I 124 → (J 124 7).toNatClampNeg = m ∧ ¬ J 124 7 < 0 := fun J hJ => by
    rw [hJ, h7]
    exact ⟨nI_clamp (by omega), nI_nlt (b := 0) (Nat.zero_le _) (by omega)⟩
  have a0 : I0 124 = I 124 := o0 124 (by omega)
  refine w_X9_trimmed_15_n (d := d + 1) hs1 hx ⟨⟨trivial, trivial, (z6 _ a0).2, by rw [(z6 _ a0).1]; omega, by rw [(z6 _ a0).1]; omega⟩, ?_⟩
  rw [(z6 _ a0).1]
  generalize hI1 : hf_cp I0 125 (tx + 1) 0 0 z = I1
  have o1 : ∀ a, ¬ a = tx + 1 → I1 a = I0 a := fun a ha => by rw [← hI1, cp_no ha]
  have a1 : I1 124 = I 124 := (o1 124 (by omega)).trans a0
  refine w_X9_trimmed_33_n (d := d + 1) hs1 hx ⟨⟨trivial, trivial, (z7 _ a1).2, by rw [(z7 _ a1).1]; omega, by rw [(z7 _ a1).1]; omega⟩, ?_⟩
  rw [(z7 _ a1).1]
  generalize hI2 : hf_cp I1 126 (tx + 2) 0 0 m = I2
  have o2 : ∀ a, ¬ a = tx + 2 → I2 a = I1 a := fun a ha => by rw [← hI2, cp_no ha]
  have a2 : I2 124 = I 124 := (o2 124 (by omega)).trans a1
  refine w_X9_trimmed_50_n (d := d + 1) hs1 hx ⟨⟨trivial, trivial, (z7 _ a2).2, by rw [(z7 _ a2).1]; omega, by rw [(z7 _ a2).1]; omega⟩, ?_⟩
  rw [(z7 _ a2).1]
  generalize hI3 : hf_cp I2 127 (tx + 3) 0 0 m = I3
  have o3 : ∀ a, ¬ a = tx + 3 → I3 a = I2 a := fun a ha => by rw [← hI3, cp_no ha]
  have a3 : I3 124 = I 124 := (o3 124 (by omega)).trans a2
  refine w_X9_trimmed_67_n (d := d + 1) hs1 hx ⟨⟨trivial, trivial, (z7 _ a3).2, by rw [(z7 _ a3).1]; omega, by rw [(z7 _ a3).1]; omega⟩, ?_⟩
  rw [(z7 _ a3).1]
  generalize hI4 : hf_cp I3 128 (tx + 4) 0 0 m = I4
  have o4 : ∀ a, ¬ a = tx + 4 → I4 a = I3 a := fun a ha => by rw [← hI4, cp_no ha]
  have a4 : I4 124 = I 124 := (o4 124 (by omega)).trans a3
  refine w_X9_trimmed_84_n (d := d + 1) hs1 hx ⟨⟨trivial, trivial, (z7 _ a4).2, by rw [(z7 _ a4).1]; omega, by rw [(z7 _ a4).1]; omega⟩, ?_⟩
  rw [(z7 _ a4).1]
  generalize hI5 : hf_cp I4 129 (tx + 5) 0 0 m = I5
  have o5 : ∀ a, ¬ a = tx + 5 → I5 a = I4 a := fun a ha => by rw [← hI5, cp_no ha]
  have a5 : I5 124 = I 124 := (o5 124 (by omega)).trans a4
  refine w_X9_trimmed_101_n (d := d + 1) hs1 hx ⟨⟨trivial, trivial, (z7 _ a5).2, by rw [(z7 _ a5).1]; omega, by rw [(z7 _ a5).1]; omega⟩, ?_⟩
  rw [(z7 _ a5).1]
  generalize hI6 : hf_cp I5 130 (tx + 6) 0 0 m = I6
  have o6 : ∀ a, ¬ a = tx + 6 → I6 a = I5 a := fun a ha => by rw [← hI6, cp_no ha]
  have a6 : I6 124 = I 124 := (o6 124 (by omega)).trans a5
  have b : ∀ a, ¬ (tx ≤ a ∧ a < tx + 7) → I6 a = I a := fun a ha => by
    rw [o6 a (by omega), o5 a (by omega), o4 a (by omega), o3 a (by omega), o2 a (by omega), o1 a (by omega), o0 a (by omega)]
  refine w_X9_trimmed_118_n (d := d + 2) hs1 hx (h _ (fun a ha => ?_) ?_ ?_ (fun i hi => ?_) (fun i hi => ⟨?_, ?_, ?_, ?_, ?_⟩))
  · rw [hf_up_no (by omega), hf_up_no (by omega)]
    exact b a ha
  · rw [hf_up_at, hf_upd_ne (by omega), hf_up_at, hf_upd_eq, a6, h6]
  · rw [hf_up_at, hf_upd_eq, hf_up_no (by omega), a6, h7]
  · rw [hf_up_no (by omega), hf_up_no (by omega), o6 _ (by omega), o5 _ (by omega), o4 _ (by omega), o3 _ (by omega), o2 _ (by omega), ← hI1, cp_in hi, o0 125 (by omega)]
  · rw [hf_up_no (by omega), hf_up_no (by omega), o6 _ (by omega), o5 _ (by omega), o4 _ (by omega), o3 _ (by omega), ← hI2, cp_in hi, o1 126 (by omega), o0 126 (by omega)]
  · rw [hf_up_no (by omega), hf_up_no (by omega), o6 _ (by omega), o5 _ (by omega), o4 _ (by omega), ← hI3, cp_in hi, o2 127 (by omega), o1 127 (by omega), o0 127 (by omega)]
  · rw [hf_up_no (by omega), hf_up_no (by omega), o6 _ (by omega), o5 _ (by omega), ← hI4, cp_in hi, o3 128 (by omega), o2 128 (by omega), o1 128 (by omega), o0 128 (by omega)]
  · rw [hf_up_no (by omega), hf_up_no (by omega), o6 _ (by omega), ← hI5, cp_in hi, o4 129 (by omega), o3 129 (by omega), o2 129 (by omega), o1 129 (by omega), o0 129 (by omega)]
  · rw [hf_up_no (by omega), hf_up_no (by omega), ← hI6, cp_in hi, o5 130 (by omega), o4 130 (by omega), o3 130 (by omega), o2 130 (by omega), o1 130 (by omega), o0 130 (by omega)]
end TRIM
