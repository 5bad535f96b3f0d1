section OVER
variable {CC : Int32 → Int32 → Int32 → Int32 → Int32 → Int32 → (Nat → Int32) → (Nat → Int32) → Int32 → (Nat → Int32) → (Nat → Int32) → (Nat → Int32) → (Nat → Int32) → (Nat → Int32) → (Nat → Int32) → (Nat → Int32) → (Nat → Nat → Int32) → hf_P → Int64 → Int64 → Int32 → Int32 → Prop}
variable {X : hf_X} {d N t : Nat} {T : hf_T} {I : hf_I} {L : hf_L} {P : hf_P}
theorem n2_rf : hf_n2 I I := ⟨fun _ _ => rfl, fun _ _ => rfl, fun _ _ => rfl⟩
theorem op_narrow (h : hf_Sim hf_SL CC N t T I L P) : hf_Pair X Y_X11_narrow Y_X12_narrow [] (d + 612) 0 0 (t, T, I, L, P) (hf_SimM hf_SL CC (N + 1)) := by
  have hs := h.1
  obtain ⟨m1, m2, ⟨t1, t2, t3, t4, t5⟩, -⟩ := h.2.1
  obtain ⟨v, vb, vc, vm⟩ := nl_val (X := X) h t5.2
  refine w_X11_narrow_0 (d := d + 611) hs (vc (d + 606) 0 0 _ I n2_rf fun C1 n1 => w_X11_narrow_14 hs ⟨_, rfl, w_X12_narrow_0 (d := d + 611) hs ?_⟩)
  rw [n1.1 158 (by omega), ← t5.1]
  refine vm d 0 0 _ C1 n1 fun C2 n2 => ?_
  cases hv : v with
  | none => exact w_X12_narrow_12 hs ⟨fun q => absurd q (by decide), fun _ => ⟨rfl, n2_sim n2 (sim_same h)⟩⟩
  | some m =>
    have := vb m hv
    exact w_X12_narrow_12 hs ⟨fun _ => ⟨rfl, n2_sim n2 (sim_same h)⟩, fun q => absurd (nI_lt (a := m) (b := 1000000) (by omega) (by omega)) q⟩
theorem op_over (h : hf_Sim hf_SL CC N t T I L P) : hf_Pair X Y_X11_over Y_X12_over [] (d + 612) 0 0 (t, T, I, L, P) (hf_SimM hf_SL CC (N + 1)) := by
  have hs := h.1
  obtain ⟨m1, m2, ⟨t1, t2, t3, t4, t5⟩, -⟩ := h.2.1
  obtain ⟨v, vb, vc, vm⟩ := nl_val (X := X) h t5.2
  obtain ⟨c, -, c1, c2⟩ := bd_rng (a := 10) (b := 400) (by decide) (by decide) t3.2.1 t3.2.2
  have c3 : I 158 313 = nI c := t3.1.symm.trans c2
  have mod : ∀ (C1 : hf_I) (u : Int32), hf_n2 I C1 → (∀ m, v = some m → (0 ≤ nI m - nI c → u = nI m - nI c) ∧ (¬ 0 ≤ nI m - nI c → u = 0)) → (v = none → u = -1) → ∃ u0, some (Value.int u) = some (Value.int u0) ∧ hf_G X Y_X12_over (d + 612) 0 0 0 (hf_en (.ref 156 :: []) 2) [] (t, T, C1, L, P) (fun r2 M2 => r2 = some (.int u0) ∧ hf_SimM hf_SL CC (N + 1) M2) := by
    intro C1 u n1 u1 u2
    refine ⟨u, rfl, w_X12_over_0 (d := d + 611) hs ?_⟩
    rw [n1.1 158 (by omega), ← t5.1]
    refine vm d 0 0 _ C1 n1 fun C2 n2 => w_X12_over_12 (d := d + 611) hs ?_
    rw [n2.1 158 (by omega), c3]
    cases hv : v with
    | none => exact ⟨fun q => absurd q (by decide), fun _ => ⟨by rw [u2 hv], n2_sim n2 (sim_same h)⟩⟩
    | some m =>
      have := vb m hv
      obtain ⟨a1, a2⟩ := u1 m hv
      exact ⟨fun _ => ⟨fun q => ⟨by rw [a1 q]; rfl, n2_sim n2 (sim_same h)⟩, fun q => ⟨by rw [a2 q], n2_sim n2 (sim_same h)⟩⟩, fun q => absurd (nI_lt (a := m) (b := 1000000) (by omega) (by omega)) q⟩
  refine w_X11_over_0 (d := d + 611) hs (vc (d + 606) 0 0 _ I n2_rf fun C1 n1 => w_X11_over_14 (d := d + 611) hs ?_)
  rw [n1.1 101 (by omega), c2]
  cases hv : v with
  | none => exact ⟨fun q => absurd rfl q, fun _ => mod C1 _ n1 (fun m hm => by rw [hv] at hm; cases hm) (fun _ => rfl)⟩
  | some m =>
    have := vb m hv
    refine ⟨fun _ => mod C1 _ n1 (fun m' hm => ?_) (fun hm => by rw [hv] at hm; cases hm), fun q => absurd q (hf_nm1 (by omega))⟩
    rw [hv] at hm
    cases hm
    show (0 ≤ nI m - nI c → (if 0 < nI m - nI c then nI m - nI c else 0) = nI m - nI c) ∧ (¬ 0 ≤ nI m - nI c → (if 0 < nI m - nI c then nI m - nI c else 0) = 0)
    generalize nI m - nI c = y
    refine ⟨fun q => ?_, fun q => ?_⟩
    · by_cases z : 0 < y
      · rw [if_pos z]
      · rw [if_neg z]
        exact Int32.le_antisymm q (Int32.not_lt.mp z)
    · rw [if_neg (fun z => q (Int32.le_of_lt z))]
theorem op_largest (h : hf_Sim hf_SL CC N t T I L P) : hf_Pair X Y_X11_largest Y_X12_largest [] (d + 612) 0 0 (t, T, I, L, P) (hf_SimM hf_SL CC (N + 1)) := by
  have hs := h.1
  obtain ⟨m1, m2, ⟨t1, t2, t3, t4, t5⟩, -⟩ := h.2.1
  obtain ⟨c, -, c1, c2⟩ := bd_rng (a := 10) (b := 400) (by decide) (by decide) t3.2.1 t3.2.2
  have c3 : I 158 313 = nI c := t3.1.symm.trans c2
  have ex : ∀ k, ∃ v : Option Nat, k ≤ 2 → (∀ m, v = some m → m ≤ 2400) ∧ (∀ (d kk nn : Nat) (Q : Option Value → hf_M → Prop) (C : hf_I), hf_n2 I C → (∀ C', hf_n2 I C' → Q (some (.int (hf_on v))) (t, T, C', L, P)) → hf_G X Y_X8_narrowestColumn (d + 5) kk nn 0 (hf_en [.ref 136, .int (nI k)] 4) [] (t, T, C, L, P) Q) ∧ (∀ (d kk nn : Nat) (Q : Option Value → hf_M → Prop) (C : hf_I), hf_n2 I C → (∀ C', hf_n2 I C' → Q (some (.int (hf_om v))) (t, T, C', L, P)) → hf_G X Y_X12_leastBroad (d + 611) kk nn 0 (hf_en [.ref 156, .int (nI k)] 4) [] (t, T, C, L, P) Q) := by
    intro k
    by_cases hk : k ≤ 2
    · obtain ⟨v, hv⟩ := nl_val (X := X) (sz := nI k) h ⟨Int32.not_lt.mp (nI_pos (by omega)), nI_le (b := 2) hk (by omega)⟩
      exact ⟨v, fun _ => hv⟩
    · exact ⟨none, fun z => absurd z hk⟩
  obtain ⟨V, hV⟩ : ∃ V : Nat → Option Nat, ∀ k, k ≤ 2 → (∀ m, V k = some m → m ≤ 2400) ∧ (∀ (d kk nn : Nat) (Q : Option Value → hf_M → Prop) (C : hf_I), hf_n2 I C → (∀ C', hf_n2 I C' → Q (some (.int (hf_on (V k)))) (t, T, C', L, P)) → hf_G X Y_X8_narrowestColumn (d + 5) kk nn 0 (hf_en [.ref 136, .int (nI k)] 4) [] (t, T, C, L, P) Q) ∧ (∀ (d kk nn : Nat) (Q : Option Value → hf_M → Prop) (C : hf_I), hf_n2 I C → (∀ C', hf_n2 I C' → Q (some (.int (hf_om (V k)))) (t, T, C', L, P)) → hf_G X Y_X12_leastBroad (d + 611) kk nn 0 (hf_en [.ref 156, .int (nI k)] 4) [] (t, T, C, L, P) Q) := ⟨fun k => Classical.choose (ex k), fun k => Classical.choose_spec (ex k)⟩
  let fit : Nat → Bool := fun k => match V k with
    | none => false
    | some m => decide (m ≤ c)
  let R : Nat → Int32 := fun k => Nat.rec (-1) (fun k r => if fit k = true then nI k else r) k
  have R0 : R 0 = -1 := rfl
  have RS : ∀ k, R (k + 1) = if fit k = true then nI k else R k := fun k => rfl
  have em : ∀ k, nI k + (-1) = nI k - 1 := fun k => (Int32.sub_eq_add_neg _ _).symm
  have ek : ∀ k, nI (k + 1) - 1 = nI k := fun k => by rw [← nI_1, Int32.add_sub_cancel]
  have mdl : ∀ k, k ≤ 3 → ∀ C, hf_n2 I C → ∀ (Q : Option Value → hf_M → Prop), (∀ C', hf_n2 I C' → Q (some (.int (R k))) (t, T, C', L, P)) → hf_G X Y_X12_largest (d + 612) 0 0 2 [some (.ref 156), some (.int (nI k - 1))] [] (t, T, C, L, P) Q := by
    intro k
    induction k with
    | zero =>
      intro _ C nC Q hQ
      exact w_X12_largest_2 (d := d + 611) hs ⟨fun _ => hQ C nC, fun q => absurd (by decide) q⟩
    | succ k ih =>
      intro hk C nC Q hQ
      obtain ⟨vb, vc, vm⟩ := hV k (by omega)
      rw [ek]
      refine w_X12_largest_2 (d := d + 611) hs ⟨fun q => absurd q (nI_pos (by omega)), fun _ => vm d 0 0 _ C nC fun C2 n2 => w_X12_largest_11 hs ?_⟩
      rw [n2.1 158 (by omega), c3, em]
      rw [RS] at hQ
      cases hv : V k with
      | none =>
        have ff : ¬ fit k = true := by show ¬ (match V k with | none => false | some m => decide (m ≤ c)) = true; rw [hv]; intro z; cases z
        rw [if_neg ff] at hQ
        exact ⟨fun _ => ih (by omega) C2 n2 Q hQ, fun q => absurd (nI_lt (a := c) (b := 1000000) (by omega) (by omega)) q⟩
      | some m =>
        have mb := vb m hv
        have fe : fit k = decide (m ≤ c) := by show (match V k with | none => false | some m => decide (m ≤ c)) = _; rw [hv]
        rw [fe] at hQ
        refine ⟨fun q => ?_, fun q => ?_⟩
        · have q' := (nI_ltI (show c < 2 ^ 31 by omega) (show m < 2 ^ 31 by omega)).mp q
          rw [if_neg (by rw [decide_eq_true_eq]; omega)] at hQ
          exact ih (by omega) C2 n2 Q hQ
        · have q' : m ≤ c := Nat.not_lt.mp fun z => q (nI_lt z (by omega))
          rw [if_pos (by rw [decide_eq_true_eq]; exact q')] at hQ
          exact hQ C2 n2
  have cl : ∀ k, k ≤ 3 → ∀ C, hf_n2 I C → ∀ (Q : Option Value → hf_M → Prop), (∀ C', hf_n2 I C' → Q (some (.int (R k))) (t, T, C', L, P)) → hf_G X Y_X11_largest (d + 612) 0 0 2 [some (.ref 100), some (.int (nI k - 1)), none] [] (t, T, C, L, P) Q := by
    intro k
    induction k with
    | zero =>
      intro _ C nC Q hQ
      exact w_X11_largest_2 (d := d + 611) hs ⟨fun _ => hQ C nC, fun q => absurd (by decide) q⟩
    | succ k ih =>
      intro hk C nC Q hQ
      obtain ⟨vb, vc, vm⟩ := hV k (by omega)
      rw [ek]
      refine w_X11_largest_2 (d := d + 611) hs ⟨fun q => absurd q (nI_pos (by omega)), fun _ => vc (d + 606) 0 0 _ C nC fun C2 n2 => w_X11_largest_14 hs ?_⟩
      rw [n2.1 101 (by omega), c2, em]
      rw [RS] at hQ
      cases hv : V k with
      | none =>
        have ff : ¬ fit k = true := by show ¬ (match V k with | none => false | some m => decide (m ≤ c)) = true; rw [hv]; intro z; cases z
        rw [if_neg ff] at hQ
        exact ⟨fun _ => ih (by omega) C2 n2 Q hQ, fun q => absurd rfl q⟩
      | some m =>
        have mb := vb m hv
        have fe : fit k = decide (m ≤ c) := by show (match V k with | none => false | some m => decide (m ≤ c)) = _; rw [hv]
        rw [fe] at hQ
        refine ⟨fun q => absurd q (hf_nm1 (by omega)), fun _ => ⟨fun q => ?_, fun q => ?_⟩⟩
        · have q' := (nI_ltI (show c < 2 ^ 31 by omega) (show m < 2 ^ 31 by omega)).mp q
          rw [if_neg (by rw [decide_eq_true_eq]; omega)] at hQ
          exact ih (by omega) C2 n2 Q hQ
        · have q' : m ≤ c := Nat.not_lt.mp fun z => q (nI_lt z (by omega))
          rw [if_pos (by rw [decide_eq_true_eq]; exact q')] at hQ
          exact hQ C2 n2
  refine w_X11_largest_0 hs (cl 3 (Nat.le_refl _) I n2_rf _ fun C1 n1 => ⟨_, rfl, w_X12_largest_0 hs (mdl 3 (Nat.le_refl _) C1 n1 _ fun C2 n2 => ⟨rfl, n2_sim n2 (sim_same h)⟩)⟩)
end OVER
