/-! keeping for undo, on both sides -/
def hf_set (I : hf_I) (a : Nat) (g : Nat → Int32) : hf_I := fun b => if b = a then g else I b
theorem hf_up_set {I : hf_I} {a j : Nat} {g : Nat → Int32} {v : Int32} : hf_up (hf_set I a g) a j v = hf_set I a (upd g j v) := by
  funext b
  unfold hf_up hf_set
  by_cases h : b = a
  · subst h; simp
  · simp [h]
theorem hf_set_self {I : hf_I} {a : Nat} : hf_set I a (I a) = I := by
  funext b
  unfold hf_set
  by_cases h : b = a
  · subst h; simp
  · simp [h]
theorem hf_setJ {I : hf_I} {a b : Nat} {g : Nat → Int32} (h : a < 181) : hf_set I a g (181 + b) = I (181 + b) := by
  unfold hf_set
  rw [if_neg (by omega)]
theorem hf_cpy_in {f g : Nat → Int32} {dp n j : Nat} (h : j < n) : va_cpy f g 0 dp n (dp + j) = f j := by
  rw [pk_cpy_in (by omega) (by omega), Nat.zero_add, Nat.add_sub_cancel_left]
theorem S_h1_cg {W5 hc hn hc' hn' : Int32} {hw hl kp hw' hl' kq : Nat → Int32} (e1 : hc' = hc) (e2 : hn' = hn) (e3 : ∀ j, j < 12 → hw' j = hw j ∧ hl' j = hl j) (e4 : ∀ j, j < 26 → kq j = kp j) (h : S_h1 W5 hc hn hw hl kp) : S_h1 W5 hc' hn' hw' hl' kq := by
  obtain ⟨c, ln, h1, h2, h3, h4, h5, h6, h7⟩ := h
  refine ⟨c, ln, h1, h2, e1.trans h3, (e4 24 (by omega)).trans h4, e2.trans h5, (e4 25 (by omega)).trans h6, fun j hj => ?_⟩
  rw [(e3 j (by omega)).1, (e3 j (by omega)).2, e4 j (by omega), e4 (12 + j) (by omega)]
  exact h7 j hj
section KEEP
variable {X : hf_X} {d k n t : Nat} {T : hf_T} {I : hf_I} {L : hf_L} {P : hf_P} {Q : Option Value → hf_M → Prop}
theorem hf_rem16 {a : Nat} (ha : a < 2 ^ 30) : nI a - nI a / 16 * 16 = nI (a % 16) := by rw [show (16 : Int32) = nI 16 from rfl, pk_rem (by omega) (by omega) (by omega)]
theorem hf_c27 (i : Nat) : nI i * (27 : Int32) = nI (27 * i) := by rw [show (27 : Int32) = nI 27 from rfl, pk_mul, Nat.mul_comm]
def hf_pk (old w l : Nat → Int32) (nx : Nat) (c ln kd : Int32) : Nat → Int32 := upd (upd (upd (va_cpy l (va_cpy w old 0 (27 * nx) 12) 0 (27 * nx + 12) 12) (27 * nx + 24) c) (27 * nx + 24 + 1) ln) (27 * nx + 26) kd
theorem hf_pk_out {old w l : Nat → Int32} {nx i : Nat} {c ln kd : Int32} (hi : i < 27 * nx ∨ 27 * nx + 27 ≤ i) : hf_pk old w l nx c ln kd i = old i := by
  unfold hf_pk
  rw [hf_upd_ne (by omega), hf_upd_ne (by omega), hf_upd_ne (by omega), pk_cpy_out (by omega), pk_cpy_out (by omega)]
theorem hf_pk_in {old w l : Nat → Int32} {nx j : Nat} {c ln kd : Int32} (hj : j < 12) : hf_pk old w l nx c ln kd (27 * nx + j) = w j ∧ hf_pk old w l nx c ln kd (27 * nx + 12 + j) = l j := by
  unfold hf_pk
  rw [hf_upd_ne (by omega), hf_upd_ne (by omega), hf_upd_ne (by omega), pk_cpy_out (by omega), hf_cpy_in hj, hf_upd_ne (by omega), hf_upd_ne (by omega), hf_upd_ne (by omega), hf_cpy_in hj]
  exact ⟨rfl, rfl⟩
theorem hf_pk_24 {old w l : Nat → Int32} {nx : Nat} {c ln kd : Int32} : hf_pk old w l nx c ln kd (27 * nx + 24) = c := by
  unfold hf_pk
  rw [hf_upd_ne (by omega), hf_upd_ne (by omega), hf_upd_eq]
theorem hf_pk_25 {old w l : Nat → Int32} {nx : Nat} {c ln kd : Int32} : hf_pk old w l nx c ln kd (27 * nx + 25) = ln := by
  unfold hf_pk
  rw [hf_upd_ne (by omega), hf_upd_eq]
theorem hf_pk_26 {old w l : Nat → Int32} {nx : Nat} {c ln kd : Int32} : hf_pk old w l nx c ln kd (27 * nx + 26) = kd := by
  unfold hf_pk
  rw [hf_upd_eq]
/-- the class's cells behind a keeping -/
def hf_kc (I : hf_I) (nx u : Nat) (kd : Int32) : hf_I := hf_set (hf_set I 149 (hf_pk (I 149) (I 115) (I 116) nx (I 114 2) (I 114 3) kd)) 148 (upd (upd (I 148) 1 (nI ((nx + 1) % 16))) 2 (nI (if u + 1 < 16 then u + 1 else 16)))
theorem cs_keep {kd : Int32} {nx u : Nat} (hs : hf_Lay t T P) (hnx : nx < 16) (g1 : I 148 1 = nI nx) (hu : u ≤ 16) (g2 : I 148 2 = nI u)
    (h : Q none (t, T, hf_kc I nx u kd, L, P)) : hf_G X Y_X6_keep (d + 1) k n 0 (hf_en [.ref 148, .int kd, .ref 114] 4) [] (t, T, I, L, P) Q := by
  have a12 : nI (27 * nx) + 12 = nI (27 * nx + 12) := by rw [show (12 : Int32) = nI 12 from rfl, nI_add]
  have a24 : nI (27 * nx) + 24 = nI (27 * nx + 24) := by rw [show (24 : Int32) = nI 24 from rfl, nI_add]
  have a26 : nI (27 * nx + 24) + 2 = nI (27 * nx + 26) := by rw [show (2 : Int32) = nI 2 from rfl, nI_add]
  have amin : (if nI u + 1 < 16 then nI u + 1 else 16) = nI (if u + 1 < 16 then u + 1 else 16) := by
    rw [nI_1]
    by_cases q : u + 1 < 16
    · rw [if_pos q, if_pos (show nI (u + 1) < (16 : Int32) from nI_lt (b := 16) q (by omega))]
    · rw [if_neg q, if_neg (show ¬ nI (u + 1) < (16 : Int32) from nI_nlt (b := 16) (by omega) (by omega))]
      rfl
  refine w_X6_keep_0 hs ?_
  rw [g1, g2, hf_c27, a12, a24, a26, nI_1, nI_1, hf_rem16 (by omega), nI_clamp (show 27 * nx < 2 ^ 31 by omega), nI_clamp (show 27 * nx + 12 < 2 ^ 31 by omega), nI_clamp (show 27 * nx + 24 < 2 ^ 31 by omega), nI_clamp (show 27 * nx + 24 + 1 < 2 ^ 31 by omega), nI_clamp (show 27 * nx + 26 < 2 ^ 31 by omega)]
  rw [amin]
  refine ⟨⟨trivial, nI_pos (by omega), trivial, by omega, by omega⟩, ⟨trivial, nI_pos (by omega), trivial, by omega, by omega⟩, vp_in_nI (by omega) (by omega), vp_in_nI (by omega) (by omega), vp_in_nI (by omega) (by omega), ?_⟩
  have e : hf_up (hf_up (hf_up (hf_up (hf_up (hf_cp (hf_cp I 115 149 0 (27 * nx) 12) 116 149 0 (27 * nx + 12) 12) 149 (27 * nx + 24) (I 114 2)) 149 (27 * nx + 24 + 1) (I 114 3)) 149 (27 * nx + 26) kd) 148 1 (nI ((nx + 1) % 16))) 148 2 (nI (if u + 1 < 16 then u + 1 else 16)) = hf_kc I nx u kd := by
    unfold hf_kc
    funext b
    by_cases h1 : b = 148
    · subst h1; rfl
    · by_cases h2 : b = 149
      · subst h2; rfl
      · simp [hf_up, hf_cp, hf_set, h1, h2]
  rw [e]
  exact h
/-- the model's row: shifted by s if it is full -/
def hf_ml (old kp : Nat → Int32) (kd : Int32) (v s i : Nat) : Int32 := if i < 27 * v then old (i + 27 * s) else if i < 27 * v + 26 then kp (i - 27 * v) else if i = 27 * v + 26 then kd else old i
def hf_km (I : hf_I) (v s : Nat) (kd : Int32) : hf_I := hf_set (hf_set I 169 (hf_ml (I 169) (I 158) kd v s)) 156 (upd (I 156) 27 (nI (v + 1)))
theorem ms_keeps {kd : Int32} {u v s : Nat} (hs : hf_Lay t T P) (hu : u ≤ 16) (g2 : I 156 27 = nI u) (hvs : v + s = u) (hsu : s = 1 ∧ u = 16 ∨ s = 0 ∧ u < 16)
    (h : Q none (t, T, hf_km I v s kd, L, P)) : hf_G X Y_X12_keeps d k n 0 (hf_en [.ref 156, .int kd] 4) [] (t, T, I, L, P) Q := by
  have copy : ∀ (g0 pm : Nat → Int32), pm 27 = nI v → (∀ z, upd pm 27 z = upd (I 156) 27 z) → (∀ i, g0 i = if i < 27 * v then I 169 (i + 27 * s) else I 169 i) → ∀ r j, j + r = 26 → hf_G X Y_X12_keeps d k n 54 [some (.ref 156), some (.int kd), some (.int 27), some (.int (nI j))] [] (t, T, hf_set (hf_set I 169 (fun i => if 27 * v ≤ i ∧ i < 27 * v + j then I 158 (i - 27 * v) else g0 i)) 156 pm, L, P) Q := by
    intro g0 pm hpm hpz hg0 r
    have e1 : (27 : Int32) * nI v = nI (27 * v) := by rw [show (27 : Int32) = nI 27 from rfl, pk_mul]
    induction r with
    | zero =>
      intro j hj
      obtain rfl : j = 26 := by omega
      refine w_X12_keeps_54 hs ⟨fun _ => ?_, fun q => absurd (by decide) q⟩
      have e2 : hf_set (hf_set I 169 (fun i => if 27 * v ≤ i ∧ i < 27 * v + 26 then I 158 (i - 27 * v) else g0 i)) 156 pm 156 27 = nI v := hpm
      have e3 : nI (27 * v) + 26 = nI (27 * v + 26) := by rw [show (26 : Int32) = nI 26 from rfl, nI_add]
      rw [e2, e1, e3, nI_clamp (show 27 * v + 26 < 2 ^ 31 by omega), nI_1]
      refine ⟨vp_in_nI (by omega) (by omega), ?_⟩
      have e : hf_up (hf_up (hf_set (hf_set I 169 (fun i => if 27 * v ≤ i ∧ i < 27 * v + 26 then I 158 (i - 27 * v) else g0 i)) 156 pm) 169 (27 * v + 26) kd) 156 27 (nI (v + 1)) = hf_km I v s kd := by
        unfold hf_km
        rw [← hpz]
        funext b
        by_cases h1 : b = 156
        · subst h1; rfl
        · by_cases h2 : b = 169
          · subst h2
            show upd (fun i => if 27 * v ≤ i ∧ i < 27 * v + 26 then I 158 (i - 27 * v) else g0 i) (27 * v + 26) kd = hf_ml (I 169) (I 158) kd v s
            funext i
            unfold hf_ml upd
            dsimp only
            rw [hg0]
            by_cases q1 : i = 27 * v + 26
            · subst q1
              rw [if_pos rfl, if_neg (by omega), if_neg (by omega), if_pos rfl]
            · rw [if_neg q1]
              by_cases q2 : i < 27 * v
              · rw [if_neg (by omega), if_pos q2, if_pos q2]
              · by_cases q3 : i < 27 * v + 26
                · rw [if_pos (by omega), if_neg q2, if_pos q3]
                · rw [if_neg (by omega), if_neg q2, if_neg q2, if_neg q3, if_neg q1]
          · simp [hf_up, hf_set, h1, h2]
      rw [e]
      exact h
    | succ r ih =>
      intro j hj
      refine w_X12_keeps_54 hs ⟨fun q => absurd q (nI_ge (a := j) (b := 26) (by omega) (by omega)), fun _ => ?_⟩
      have e2 : hf_set (hf_set I 169 (fun i => if 27 * v ≤ i ∧ i < 27 * v + j then I 158 (i - 27 * v) else g0 i)) 156 pm 156 27 = nI v := hpm
      rw [e2, e1, nI_add, nI_clamp (show 27 * v + j < 2 ^ 31 by omega), nI_clamp (show j < 2 ^ 31 by omega), nI_1]
      refine ⟨vp_in_nI (by omega) (by omega), vp_in_nI (by omega) (by omega), ?_⟩
      have e : hf_up (hf_set (hf_set I 169 (fun i => if 27 * v ≤ i ∧ i < 27 * v + j then I 158 (i - 27 * v) else g0 i)) 156 pm) 169 (27 * v + j) (hf_set (hf_set I 169 (fun i => if 27 * v ≤ i ∧ i < 27 * v + j then I 158 (i - 27 * v) else g0 i)) 156 pm 158 j) = hf_set (hf_set I 169 (fun i => if 27 * v ≤ i ∧ i < 27 * v + (j + 1) then I 158 (i - 27 * v) else g0 i)) 156 pm := by
        funext b
        by_cases h1 : b = 156
        · subst h1; rfl
        · by_cases h2 : b = 169
          · subst h2
            show upd (fun i => if 27 * v ≤ i ∧ i < 27 * v + j then I 158 (i - 27 * v) else g0 i) (27 * v + j) (I 158 j) = fun i => if 27 * v ≤ i ∧ i < 27 * v + (j + 1) then I 158 (i - 27 * v) else g0 i
            funext i
            unfold upd
            dsimp only
            by_cases q1 : i = 27 * v + j
            · subst q1
              rw [if_pos rfl, if_pos (by omega), Nat.add_sub_cancel_left]
            · rw [if_neg q1]
              by_cases q2 : 27 * v ≤ i ∧ i < 27 * v + j
              · rw [if_pos q2, if_pos (by omega)]
              · rw [if_neg q2, if_neg (by omega)]
          · simp [hf_up, hf_set, h1, h2]
      rw [e]
      exact ih (j + 1) (by omega)
  refine w_X12_keeps_0 hs ⟨fun q => ?_, fun q => ?_⟩
  · have hu16 : u < 16 := by
      rcases Nat.lt_or_ge u 16 with z | z
      · exact z
      · exact absurd (by rw [g2, show u = 16 by omega]; rfl) q
    obtain rfl : s = 0 := by omega
    obtain rfl : v = u := by omega
    have := copy (I 169) (I 156) g2 (fun _ => rfl) (fun i => by split <;> rfl) 26 0 (by omega)
    have e : hf_set (hf_set I 169 (fun i => if 27 * v ≤ i ∧ i < 27 * v + 0 then I 158 (i - 27 * v) else I 169 i)) 156 (I 156) = I := by
      have e0 : (fun i => if 27 * v ≤ i ∧ i < 27 * v + 0 then I 158 (i - 27 * v) else I 169 i) = I 169 := funext fun i => if_neg (by omega)
      rw [e0, hf_set_self]
      exact hf_set_self
    rw [e] at this
    exact this
  · have hu16 : u = 16 := by
      rw [g2] at q
      exact (nI_eq (b := 16) (by omega) (by omega)).mp q
    subst hu16
    obtain rfl : s = 1 := by omega
    obtain rfl : v = 15 := by omega
    have shift : ∀ r j, j + r = 405 → hf_G X Y_X12_keeps d k n 14 [some (.ref 156), some (.int kd), some (.int 27), some (.int (nI j))] [] (t, T, hf_set I 169 (fun i => if i < j then I 169 (i + 27) else I 169 i), L, P) Q := by
      intro r
      induction r with
      | zero =>
        intro j hj
        obtain rfl : j = 405 := by omega
        refine w_X12_keeps_14 hs ⟨fun _ => ?_, fun q => absurd (by decide) q⟩
        have := copy (fun i => if i < 405 then I 169 (i + 27) else I 169 i) (upd (I 156) 27 (nI 15)) hf_upd_eq (fun z => by funext i; unfold upd; split <;> rfl) (fun i => rfl) 26 0 (by omega)
        have e0 : (fun i => if 27 * 15 ≤ i ∧ i < 27 * 15 + 0 then I 158 (i - 27 * 15) else (fun i => if i < 405 then I 169 (i + 27) else I 169 i) i) = (fun i => if i < 405 then I 169 (i + 27) else I 169 i) := funext fun i => if_neg (by omega)
        rw [e0] at this
        have e : hf_up (hf_set I 169 (fun i => if i < 405 then I 169 (i + 27) else I 169 i)) 156 27 (hf_set I 169 (fun i => if i < 405 then I 169 (i + 27) else I 169 i) 156 27 - 1) = hf_set (hf_set I 169 (fun i => if i < 405 then I 169 (i + 27) else I 169 i)) 156 (upd (I 156) 27 (nI 15)) := by
          have e2 : hf_set I 169 (fun i => if i < 405 then I 169 (i + 27) else I 169 i) 156 27 = nI 16 := g2
          rw [e2, show nI 16 - 1 = nI 15 from rfl]
          rfl
        rw [e]
        exact this
      | succ r ih =>
        intro j hj
        refine w_X12_keeps_14 hs ⟨fun q => absurd q (nI_ge (a := j) (b := 405) (by omega) (by omega)), fun _ => ?_⟩
        have e3 : nI j + 27 = nI (j + 27) := by rw [show (27 : Int32) = nI 27 from rfl, nI_add]
        rw [e3, nI_clamp (show j + 27 < 2 ^ 31 by omega), nI_clamp (show j < 2 ^ 31 by omega), nI_1]
        refine ⟨vp_in_nI (by omega) (by omega), vp_in_nI (by omega) (by omega), ?_⟩
        rw [hf_up_set]
        have e : upd (fun i => if i < j then I 169 (i + 27) else I 169 i) j (hf_set I 169 (fun i => if i < j then I 169 (i + 27) else I 169 i) 169 (j + 27)) = fun i => if i < j + 1 then I 169 (i + 27) else I 169 i := by
          have e0 : hf_set I 169 (fun i => if i < j then I 169 (i + 27) else I 169 i) 169 (j + 27) = I 169 (j + 27) := if_neg (by omega)
          rw [e0]
          funext i
          unfold upd
          dsimp only
          by_cases q1 : i = j
          · subst q1
            rw [if_pos rfl, if_pos (by omega)]
          · rw [if_neg q1]
            by_cases q2 : i < j
            · rw [if_pos q2, if_pos (by omega)]
            · rw [if_neg q2, if_neg (by omega)]
        rw [e]
        exact ih (j + 1) (by omega)
    have := shift 405 0 (by omega)
    have e0 : (fun i => if i < 0 then I 169 (i + 27) else I 169 i) = I 169 := funext fun i => if_neg (by omega)
    rw [e0, hf_set_self] at this
    exact this
end KEEP
/-- both rows behind it are related again -/
theorem S_ud_keep {W5 kd hc hn : Int32} {pa pk pk' ml ml' hw hl kp : Nat → Int32} {mu : Int32} {u nx v s : Nat} (hu : u ≤ 16) (hnx : nx < 16) (hvs : v + s = u) (hsu : s = 1 ∧ u = 16 ∨ s = 0 ∧ u < 16) (hkd : 0 ≤ kd ∧ kd ≤ 2)
    (hq : ∀ q, q < u → (pk (27 * ((nx + 16 - u + q) % 16) + 26) = ml (27 * q + 26) ∧ 0 ≤ ml (27 * q + 26) ∧ ml (27 * q + 26) ≤ 2) ∧ S_h1 W5 (pk (27 * ((nx + 16 - u + q) % 16) + 24)) (pk (27 * ((nx + 16 - u + q) % 16) + 25)) (fun j => pk (27 * ((nx + 16 - u + q) % 16) + j)) (fun j => pk (27 * ((nx + 16 - u + q) % 16) + 12 + j)) (fun j => ml (27 * q + j)))
    (hh : S_h1 W5 hc hn hw hl kp)
    (k1 : ∀ i, i < 27 * nx ∨ 27 * nx + 27 ≤ i → pk' i = pk i) (k2 : ∀ j, j < 12 → pk' (27 * nx + j) = hw j ∧ pk' (27 * nx + 12 + j) = hl j) (k3 : pk' (27 * nx + 24) = hc) (k4 : pk' (27 * nx + 25) = hn) (k5 : pk' (27 * nx + 26) = kd)
    (l1 : ∀ i, i < 27 * v → ml' i = ml (i + 27 * s)) (l2 : ∀ j, j < 26 → ml' (27 * v + j) = kp j) (l3 : ml' (27 * v + 26) = kd) :
    S_ud W5 (upd (upd pa 1 (nI ((nx + 1) % 16))) 2 (nI (if u + 1 < 16 then u + 1 else 16))) pk' (nI (v + 1)) ml' := by
  have e1 : (if u + 1 < 16 then u + 1 else 16) = v + 1 := by
    split <;> omega
  refine ⟨v + 1, (nx + 1) % 16, by omega, Nat.mod_lt _ (by omega), by rw [hf_upd_eq, e1], rfl, by rw [hf_upd_ne (by omega), hf_upd_eq], fun q hq1 => ?_⟩
  by_cases hlast : q = v
  · subst hlast
    have er : ((nx + 1) % 16 + 16 - (q + 1) + q) % 16 = nx := by omega
    rw [er, k5, l3]
    refine ⟨⟨rfl, hkd⟩, S_h1_cg k3 k4 (fun j hj => k2 j hj) (fun j hj => l2 j hj) hh⟩
  · have hqv : q < v := by omega
    obtain ⟨h1, h2⟩ := hq (q + s) (by omega)
    have er : ((nx + 1) % 16 + 16 - (v + 1) + q) % 16 = (nx + 16 - u + (q + s)) % 16 := by omega
    have hne : ¬ (nx + 16 - u + (q + s)) % 16 = nx := by omega
    rw [er]
    generalize (nx + 16 - u + (q + s)) % 16 = z at *
    have hout : ∀ i, i < 27 → pk' (27 * z + i) = pk (27 * z + i) := fun i hi => k1 _ (by omega)
    have hml : ∀ i, i < 27 → ml' (27 * q + i) = ml (27 * (q + s) + i) := fun i hi => by rw [l1 _ (by omega)]; congr 1; omega
    rw [hout 26 (by omega), hout 24 (by omega), hout 25 (by omega), hml 26 (by omega)]
    refine ⟨h1, S_h1_cg rfl rfl (fun j hj => ⟨hout j (by omega), ?_⟩) (fun j hj => hml j (by omega)) h2⟩
    have := hout (12 + j) (by omega)
    rw [← Nat.add_assoc] at this
    exact this
