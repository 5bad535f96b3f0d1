/-! keeping for undo, on both sides -/
def hf_set (I : hf_I) (a : Nat) (g : Nat → Int32) : hf_I := fun b => if b = a then g else I b
theorem hf_up_set {I : hf_I} {a j : Nat} {g : Nat → Int32} {v : Int32} : hf_up (hf_set I a g) a j v = hf_set I a (upd g j v) := by
  funext b
  unfold hf_up hf_set
  by_cases h : b = a
  · subst h; simp
  · simp [h]
theorem hf_set_self {I : hf_I} {a : Nat} : hf_set I a (I a) = I := by
  funext b
  unfold hf_set
  by_cases h : b = a
  · subst h; simp
  · simp [h]
theorem hf_setJ {I : hf_I} {a b : Nat} {g : Nat → Int32} (h : a < 181) : hf_set I a g (181 + b) = I (181 + b) := by
  unfold hf_set
  rw [if_neg (by omega)]
theorem hf_cpy_in {f g : Nat → Int32} {dp n j : Nat} (h : j < n) : va_cpy f g 0 dp n (dp + j) = f j := by
  rw [pk_cpy_in (by omega) (by omega), Nat.zero_add, Nat.add_sub_cancel_left]
theorem S_h1_cg {W5 hc hn hc' hn' : Int32} {hw hl kp hw' hl' kq : Nat → Int32} (e1 : hc' = hc) (e2 : hn' = hn) (e3 : ∀ j, j < 12 → hw' j = hw j ∧ hl' j = hl j) (e4 : ∀ j, j < 26 → kq j = kp j) (h : S_h1 W5 hc hn hw hl kp) : S_h1 W5 hc' hn' hw' hl' kq := by
  obtain ⟨c, ln, h1, h2, h3, h4, h5, h6, h7⟩ := h
  refine ⟨c, ln, h1, h2, e1.trans h3, (e4 24 (by omega)).trans h4, e2.trans h5, (e4 25 (by omega)).trans h6, fun j hj => ?_⟩
  rw [(e3 j (by omega)).1, (e3 j (by omega)).2, e4 j (by omega), e4 (12 + j) (by omega)]
  exact h7 j hj
section KEEP
variable {X : hf_X} {d k n t : Nat} {T : hf_T} {I : hf_I} {L : hf_L} {P : hf_P} {Q : Option Value → hf_M → Prop}
theorem hf_rem16 {a : Nat} (ha : a < 2 ^ 30) : nI a - nI a / 16 * 16 = nI (a % 16) := by rw [show (16 : Int32) = nI 16 from rfl, pk_rem (by omega) (by omega) (by omega)]
theorem hf_c27 (i : Nat) : nI i * (27 : Int32) = nI (27 * i) := by rw [show (27 : Int32) = nI 27 from rfl, pk_mul, Nat.mul_comm]
theorem cs_keep {kd : Int32} {nx u : Nat} (hs : hf_Lay t T P) (hnx : nx < 16) (g1 : I 148 1 = nI nx) (hu : u ≤ 16) (g2 : I 148 2 = nI u)
    (h : ∀ pk : Nat → Int32, (∀ i, i < 27 * nx ∨ 27 * nx + 27 ≤ i → pk i = I 149 i) → (∀ j, j < 12 → pk (27 * nx + j) = I 115 j ∧ pk (27 * nx + 12 + j) = I 116 j) → pk (27 * nx + 24) = I 114 2 → pk (27 * nx + 25) = I 114 3 → pk (27 * nx + 26) = kd → Q none (t, T, hf_set (hf_set I 149 pk) 148 (upd (upd (I 148) 1 (nI ((nx + 1) % 16))) 2 (nI (if u + 1 < 16 then u + 1 else 16))), L, P)) : hf_G X Y_X6_keep (d + 1) k n 0 (hf_en [.ref 148, .int kd, .ref 114] 4) [] (t, T, I, L, P) Q := by
  have a12 : nI (27 * nx) + 12 = nI (27 * nx + 12) := by rw [show (12 : Int32) = nI 12 from rfl, nI_add]
  have a24 : nI (27 * nx) + 24 = nI (27 * nx + 24) := by rw [show (24 : Int32) = nI 24 from rfl, nI_add]
  have a26 : nI (27 * nx + 24) + 2 = nI (27 * nx + 26) := by rw [show (2 : Int32) = nI 2 from rfl, nI_add]
  have amin : (if nI u + 1 < 16 then nI u + 1 else 16) = nI (if u + 1 < 16 then u + 1 else 16) := by
    rw [nI_1]
    by_cases q : u + 1 < 16
    · rw [if_pos q, if_pos (show nI (u + 1) < (16 : Int32) from nI_lt (b := 16) q (by omega))]
    · rw [if_neg q, if_neg (show ¬ nI (u + 1) < (16 : Int32) from nI_nlt (b := 16) (by omega) (by omega))]
      rfl
  refine w_X6_keep_0 hs ?_
  rw [g1, g2, hf_c27, a12, a24, a26, nI_1, nI_1, hf_rem16 (by omega), nI_clamp (show 27 * nx < 2 ^ 31 by omega), nI_clamp (show 27 * nx + 12 < 2 ^ 31 by omega), nI_clamp (show 27 * nx + 24 < 2 ^ 31 by omega), nI_clamp (show 27 * nx + 24 + 1 < 2 ^ 31 by omega), nI_clamp (show 27 * nx + 26 < 2 ^ 31 by omega)]
  rw [amin]
  refine ⟨⟨trivial, nI_pos (by omega), trivial, by omega, by omega⟩, ⟨trivial, nI_pos (by omega), trivial, by omega, by omega⟩, vp_in_nI (by omega) (by omega), vp_in_nI (by omega) (by omega), vp_in_nI (by omega) (by omega), ?_⟩
  have key := h (upd (upd (upd (va_cpy (I 116) (va_cpy (I 115) (I 149) 0 (27 * nx) 12) 0 (27 * nx + 12) 12) (27 * nx + 24) (I 114 2)) (27 * nx + 24 + 1) (I 114 3)) (27 * nx + 26) kd) (fun i hi => by
      rw [hf_upd_ne (by omega), hf_upd_ne (by omega), hf_upd_ne (by omega), pk_cpy_out (by omega), pk_cpy_out (by omega)]) (fun j hj => by
      rw [hf_upd_ne (by omega), hf_upd_ne (by omega), hf_upd_ne (by omega), pk_cpy_out (by omega), hf_cpy_in hj, hf_upd_ne (by omega), hf_upd_ne (by omega), hf_upd_ne (by omega), hf_cpy_in hj]
      exact ⟨rfl, rfl⟩) (by rw [hf_upd_ne (by omega), hf_upd_ne (by omega), hf_upd_eq]) (by rw [hf_upd_ne (by omega), hf_upd_eq]) (by rw [hf_upd_eq])
  have e : ∀ v1 v2 : Int32, hf_up (hf_up (hf_up (hf_up (hf_up (hf_cp (hf_cp I 115 149 0 (27 * nx) 12) 116 149 0 (27 * nx + 12) 12) 149 (27 * nx + 24) (I 114 2)) 149 (27 * nx + 24 + 1) (I 114 3)) 149 (27 * nx + 26) kd) 148 1 v1) 148 2 v2 = hf_set (hf_set I 149 (upd (upd (upd (va_cpy (I 116) (va_cpy (I 115) (I 149) 0 (27 * nx) 12) 0 (27 * nx + 12) 12) (27 * nx + 24) (I 114 2)) (27 * nx + 24 + 1) (I 114 3)) (27 * nx + 26) kd)) 148 (upd (upd (I 148) 1 v1) 2 v2) := by
    intro v1 v2
    funext b
    by_cases h1 : b = 148
    · subst h1; rfl
    · by_cases h2 : b = 149
      · subst h2; rfl
      · simp [hf_up, hf_cp, hf_set, h1, h2]
  rw [e]
  exact key
/-- the model's row: shifted by s if it is full -/
theorem ms_keeps {kd : Int32} {u : Nat} (hs : hf_Lay t T P) (hu : u ≤ 16) (g2 : I 156 27 = nI u)
    (h : ∀ (ml : Nat → Int32) (v s : Nat), v + s = u → (s = 1 ∧ u = 16 ∨ s = 0 ∧ u < 16) → (∀ i, i < 27 * v → ml i = I 169 (i + 27 * s)) → (∀ j, j < 26 → ml (27 * v + j) = I 158 j) → ml (27 * v + 26) = kd → Q none (t, T, hf_set (hf_set I 169 ml) 156 (upd (I 156) 27 (nI (v + 1))), L, P)) : hf_G X Y_X12_keeps d k n 0 (hf_en [.ref 156, .int kd] 4) [] (t, T, I, L, P) Q := by
  have copy : ∀ (v s : Nat), v + s = u → (s = 1 ∧ u = 16 ∨ s = 0 ∧ u < 16) → ∀ (pm : Nat → Int32), pm 27 = nI v → (∀ z, upd pm 27 z = upd (I 156) 27 z) → ∀ r j (g : Nat → Int32), j + r = 26 → (∀ i, i < 27 * v → g i = I 169 (i + 27 * s)) → (∀ i, i < j → g (27 * v + i) = I 158 i) → hf_G X Y_X12_keeps d k n 54 [some (.ref 156), some (.int kd), some (.int 27), some (.int (nI j))] [] (t, T, hf_set (hf_set I 169 g) 156 pm, L, P) Q := by
    intro v s hvs hsu pm hpm hpz r
    have e1 : (27 : Int32) * nI v = nI (27 * v) := by rw [show (27 : Int32) = nI 27 from rfl, pk_mul]
    induction r with
    | zero =>
      intro j g hj ho hn
      obtain rfl : j = 26 := by omega
      refine w_X12_keeps_54 hs ⟨fun _ => ?_, fun q => absurd (by decide) q⟩
      have e2 : hf_set (hf_set I 169 g) 156 pm 156 27 = nI v := hpm
      have e3 : nI (27 * v) + 26 = nI (27 * v + 26) := by rw [show (26 : Int32) = nI 26 from rfl, nI_add]
      rw [e2, e1, e3, nI_clamp (show 27 * v + 26 < 2 ^ 31 by omega), nI_1]
      refine ⟨vp_in_nI (by omega) (by omega), ?_⟩
      have key := h (upd g (27 * v + 26) kd) v s hvs hsu (fun i hi => by rw [hf_upd_ne (by omega)]; exact ho i hi) (fun i hi => by rw [hf_upd_ne (by omega)]; exact hn i hi) hf_upd_eq
      have e : hf_up (hf_up (hf_set (hf_set I 169 g) 156 pm) 169 (27 * v + 26) kd) 156 27 (nI (v + 1)) = hf_set (hf_set I 169 (upd g (27 * v + 26) kd)) 156 (upd (I 156) 27 (nI (v + 1))) := by
        rw [← hpz]
        funext b
        by_cases h1 : b = 156
        · subst h1; rfl
        · by_cases h2 : b = 169
          · subst h2; rfl
          · simp [hf_up, hf_set, h1, h2]
      rw [e]
      exact key
    | succ r ih =>
      intro j g hj ho hn
      refine w_X12_keeps_54 hs ⟨fun q => absurd q (nI_ge (a := j) (b := 26) (by omega) (by omega)), fun _ => ?_⟩
      have e2 : hf_set (hf_set I 169 g) 156 pm 156 27 = nI v := hpm
      rw [e2, e1, nI_add, nI_clamp (show 27 * v + j < 2 ^ 31 by omega), nI_clamp (show j < 2 ^ 31 by omega), nI_1]
      refine ⟨vp_in_nI (by omega) (by omega), vp_in_nI (by omega) (by omega), ?_⟩
      have e : hf_up (hf_set (hf_set I 169 g) 156 pm) 169 (27 * v + j) (hf_set (hf_set I 169 g) 156 pm 158 j) = hf_set (hf_set I 169 (upd g (27 * v + j) (I 158 j))) 156 pm := by
        funext b
        by_cases h1 : b = 156
        · subst h1; rfl
        · by_cases h2 : b = 169
          · subst h2; rfl
          · simp [hf_up, hf_set, h1, h2]
      rw [e]
      refine ih (j + 1) _ (by omega) (fun i hi => by rw [hf_upd_ne (by omega)]; exact ho i hi) (fun i hi => ?_)
      by_cases q : i = j
      · subst q; exact hf_upd_eq
      · rw [hf_upd_ne (by omega)]
        exact hn i (by omega)
  refine w_X12_keeps_0 hs ⟨fun q => ?_, fun q => ?_⟩
  · have hu16 : u < 16 := by
      rcases Nat.lt_or_ge u 16 with z | z
      · exact z
      · exact absurd (by rw [g2, show u = 16 by omega]; rfl) q
    have := copy u 0 (by omega) (Or.inr ⟨rfl, hu16⟩) (I 156) g2 (fun _ => rfl) 26 0 (I 169) (by omega) (fun i hi => rfl) (fun i hi => by omega)
    have e : hf_set (hf_set I 169 (I 169)) 156 (I 156) = I := by
      rw [hf_set_self]
      exact hf_set_self
    rw [e] at this
    exact this
  · have hu16 : u = 16 := by
      rw [g2] at q
      exact (nI_eq (b := 16) (by omega) (by omega)).mp q
    subst hu16
    have shift : ∀ r j (g : Nat → Int32), j + r = 405 → (∀ i, i < j → g i = I 169 (i + 27)) → (∀ i, j ≤ i → g i = I 169 i) → hf_G X Y_X12_keeps d k n 14 [some (.ref 156), some (.int kd), some (.int 27), some (.int (nI j))] [] (t, T, hf_set I 169 g, L, P) Q := by
      intro r
      induction r with
      | zero =>
        intro j g hj ho hn
        obtain rfl : j = 405 := by omega
        refine w_X12_keeps_14 hs ⟨fun _ => ?_, fun q => absurd (by decide) q⟩
        have := copy 15 1 (by omega) (Or.inl ⟨rfl, rfl⟩) (upd (I 156) 27 (nI 15)) hf_upd_eq (fun z => by funext i; unfold upd; split <;> rfl) 26 0 g (by omega) (fun i hi => ho i (by omega)) (fun i hi => by omega)
        have e : hf_up (hf_set I 169 g) 156 27 (hf_set I 169 g 156 27 - 1) = hf_set (hf_set I 169 g) 156 (upd (I 156) 27 (nI 15)) := by
          have e2 : hf_set I 169 g 156 27 = nI 16 := g2
          rw [e2, show nI 16 - 1 = nI 15 from rfl]
          rfl
        rw [e]
        exact this
      | succ r ih =>
        intro j g hj ho hn
        refine w_X12_keeps_14 hs ⟨fun q => absurd q (nI_ge (a := j) (b := 405) (by omega) (by omega)), fun _ => ?_⟩
        have e3 : nI j + 27 = nI (j + 27) := by rw [show (27 : Int32) = nI 27 from rfl, nI_add]
        rw [e3, nI_clamp (show j + 27 < 2 ^ 31 by omega), nI_clamp (show j < 2 ^ 31 by omega), nI_1]
        refine ⟨vp_in_nI (by omega) (by omega), vp_in_nI (by omega) (by omega), ?_⟩
        rw [hf_up_set]
        refine ih (j + 1) _ (by omega) (fun i hi => ?_) (fun i hi => by rw [hf_upd_ne (by omega)]; exact hn i (by omega))
        by_cases q : i = j
        · subst q
          rw [hf_upd_eq]
          show g (i + 27) = _
          exact hn _ (by omega)
        · rw [hf_upd_ne q]
          exact ho i (by omega)
    have := shift 405 0 (I 169) (by omega) (fun i hi => by omega) (fun i hi => rfl)
    rw [hf_set_self] at this
    exact this
end KEEP
/-- both rows behind it are related again -/
theorem S_ud_keep {W5 kd hc hn : Int32} {pa pk pk' ml ml' hw hl kp : Nat → Int32} {mu : Int32} {u nx v s : Nat} (hu : u ≤ 16) (hnx : nx < 16) (hvs : v + s = u) (hsu : s = 1 ∧ u = 16 ∨ s = 0 ∧ u < 16) (hkd : 0 ≤ kd ∧ kd ≤ 2)
    (hq : ∀ q, q < u → (pk (27 * ((nx + 16 - u + q) % 16) + 26) = ml (27 * q + 26) ∧ 0 ≤ ml (27 * q + 26) ∧ ml (27 * q + 26) ≤ 2) ∧ S_h1 W5 (pk (27 * ((nx + 16 - u + q) % 16) + 24)) (pk (27 * ((nx + 16 - u + q) % 16) + 25)) (fun j => pk (27 * ((nx + 16 - u + q) % 16) + j)) (fun j => pk (27 * ((nx + 16 - u + q) % 16) + 12 + j)) (fun j => ml (27 * q + j)))
    (hh : S_h1 W5 hc hn hw hl kp)
    (k1 : ∀ i, i < 27 * nx ∨ 27 * nx + 27 ≤ i → pk' i = pk i) (k2 : ∀ j, j < 12 → pk' (27 * nx + j) = hw j ∧ pk' (27 * nx + 12 + j) = hl j) (k3 : pk' (27 * nx + 24) = hc) (k4 : pk' (27 * nx + 25) = hn) (k5 : pk' (27 * nx + 26) = kd)
    (l1 : ∀ i, i < 27 * v → ml' i = ml (i + 27 * s)) (l2 : ∀ j, j < 26 → ml' (27 * v + j) = kp j) (l3 : ml' (27 * v + 26) = kd) :
    S_ud W5 (upd (upd pa 1 (nI ((nx + 1) % 16))) 2 (nI (if u + 1 < 16 then u + 1 else 16))) pk' (nI (v + 1)) ml' := by
  have e1 : (if u + 1 < 16 then u + 1 else 16) = v + 1 := by
    split <;> omega
  refine ⟨v + 1, (nx + 1) % 16, by omega, Nat.mod_lt _ (by omega), by rw [hf_upd_eq, e1], rfl, by rw [hf_upd_ne (by omega), hf_upd_eq], fun q hq1 => ?_⟩
  by_cases hlast : q = v
  · subst hlast
    have er : ((nx + 1) % 16 + 16 - (q + 1) + q) % 16 = nx := by omega
    rw [er, k5, l3]
    refine ⟨⟨rfl, hkd⟩, S_h1_cg k3 k4 (fun j hj => k2 j hj) (fun j hj => l2 j hj) hh⟩
  · have hqv : q < v := by omega
    obtain ⟨h1, h2⟩ := hq (q + s) (by omega)
    have er : ((nx + 1) % 16 + 16 - (v + 1) + q) % 16 = (nx + 16 - u + (q + s)) % 16 := by omega
    have hne : ¬ (nx + 16 - u + (q + s)) % 16 = nx := by omega
    rw [er]
    generalize (nx + 16 - u + (q + s)) % 16 = z at *
    have hout : ∀ i, i < 27 → pk' (27 * z + i) = pk (27 * z + i) := fun i hi => k1 _ (by omega)
    have hml : ∀ i, i < 27 → ml' (27 * q + i) = ml (27 * (q + s) + i) := fun i hi => by rw [l1 _ (by omega)]; congr 1; omega
    rw [hout 26 (by omega), hout 24 (by omega), hout 25 (by omega), hml 26 (by omega)]
    refine ⟨h1, S_h1_cg rfl rfl (fun j hj => ⟨hout j (by omega), ?_⟩) (fun j hj => hml j (by omega)) h2⟩
    have := hout (12 + j) (by omega)
    rw [← Nat.add_assoc] at this
    exact this
