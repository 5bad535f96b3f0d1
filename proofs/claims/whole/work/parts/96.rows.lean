/-! rows, ready to be opened -/
def ro_ok (J : hf_I) (p LN bl : Nat) (len : Nat → Nat) (opt : Nat → Nat → Nat) (wn : Nat → Nat) (ls : Nat → Int32) : Prop := (1 ≤ p ∧ p ≤ 6 ∧ LN ≤ 4 ∧ bl ≤ 40 ∧ ∀ i, wn i ≤ 360) ∧ J 158 317 = nI p ∧ J 158 314 = nI LN ∧ J 156 37 = nI (2 ^ (p - 1)) ∧ J 156 39 = nI bl ∧ (∀ j, j < p → J 172 j = nI (len j) ∧ 1 ≤ len j ∧ len j ≤ 3) ∧ ∀ j k, j < p → k < len j → J 171 (3 * j + k) = nI (opt j k) ∧ opt j k < 16 ∧ J 175 (opt j k) = nI (wn (opt j k)) ∧ J 176 (opt j k) = ls (opt j k)
/-- what opens and the judge may write -/
def fo_fr (J J' : hf_I) : Prop := (∀ a, ¬ a = 156 → ¬ a = 168 → ¬ a = 173 → ¬ a = 174 → ¬ a = 177 → ¬ a = 178 → J' a = J a) ∧ ∀ j, ¬ j = 38 → j < 19 ∨ 22 < j → J' 156 j = J 156 j
theorem fo_rf {J : hf_I} : fo_fr J J := ⟨fun _ _ _ _ _ _ _ => rfl, fun _ _ _ => rfl⟩
theorem fo_on {I J K : hf_I} (h : fo_fr I J) (g : on_fr J K) : fo_fr I K := ⟨fun a a1 a2 a3 a4 a5 a6 => (g.1 a a1 a3 a4 a5 a6).trans (h.1 a a1 a2 a3 a4 a5 a6), fun j j1 j2 => (g.2 j j1).trans (h.2 j j1 j2)⟩
theorem fo_jm {I J K : hf_I} (h : fo_fr I J) (g : jm_fr J K) : fo_fr I K := ⟨fun a a1 a2 a3 a4 a5 a6 => (g.1 a a1 a2).trans (h.1 a a1 a2 a3 a4 a5 a6), fun j j1 j2 => (g.2 j (by omega) (by omega) (by omega) (by omega)).trans (h.2 j j1 j2)⟩
theorem fo_ok {J J' : hf_I} {p LN bl : Nat} {len : Nat → Nat} {opt : Nat → Nat → Nat} {wn : Nat → Nat} {ls : Nat → Int32} (h : ro_ok J p LN bl len opt wn ls) (g : fo_fr J J') : ro_ok J' p LN bl len opt wn ls := by
  obtain ⟨h1, h2, h3, h4, h5, h6, h7⟩ := h
  have e := g.1
  refine ⟨h1, ?_, ?_, (g.2 37 (by omega) (by omega)).trans h4, (g.2 39 (by omega) (by omega)).trans h5, ?_, ?_⟩
  · rw [e 158 (by omega) (by omega) (by omega) (by omega) (by omega) (by omega)]; exact h2
  · rw [e 158 (by omega) (by omega) (by omega) (by omega) (by omega) (by omega)]; exact h3
  · rw [e 172 (by omega) (by omega) (by omega) (by omega) (by omega) (by omega)]; exact h6
  · rw [e 171 (by omega) (by omega) (by omega) (by omega) (by omega) (by omega), e 175 (by omega) (by omega) (by omega) (by omega) (by omega) (by omega), e 176 (by omega) (by omega) (by omega) (by omega) (by omega) (by omega)]; exact h7
def ro_wd (p : Nat) (len : Nat → Nat) (opt : Nat → Nat → Nat) (r i : Nat) : Nat := opt i (op_d len p (r / 2 ^ (p - 1)) i)
def ro_tn (p r : Nat) : Nat → Bool := op_t p (r % 2 ^ (p - 1))
def ro_n (p r : Nat) : Nat := op_n (ro_tn p r) p
def ro_f (p r l : Nat) : Nat := if l = ro_n p r then p else op_f (ro_tn p r) p l
def ro_bd (p bl : Nat) (len : Nat → Nat) (opt : Nat → Nat → Nat) (wn : Nat → Nat) (r : Nat) : Nat → Nat := op_b (fun i => wn (ro_wd p len opt r i)) (ro_tn p r) bl p
/-- row r stands open -/
def ro_at (J : hf_I) (p bl : Nat) (len : Nat → Nat) (opt : Nat → Nat → Nat) (wn : Nat → Nat) (r : Nat) : Prop := (∀ i, i < p → J 173 i = nI (ro_wd p len opt r i) ∧ J 174 i = nI (if ro_tn p r i = true then 1 else 0)) ∧ J 156 38 = nI (ro_n p r) ∧ (∀ l, l < ro_n p r → J 177 l = nI (ro_bd p bl len opt wn r l)) ∧ ∀ l, l ≤ ro_n p r → J 178 l = nI (ro_f p r l)
theorem op_f_lt {tn : Nat → Bool} : ∀ i l, l < op_n tn i → op_f tn i l < i ∧ (l + 1 < op_n tn i → op_f tn i l < op_f tn i (l + 1)) := by
  intro i
  induction i with
  | zero => intro l hl; exact absurd hl (by simp [op_n])
  | succ i ih =>
    intro l hl
    rw [op_n] at hl ⊢
    rw [op_f]
    by_cases hb : i = 0 ∨ tn i = true
    · rw [if_pos hb] at hl ⊢
      rw [if_pos hb]
      by_cases e : l = op_n tn i
      · subst e
        rw [ed_u_eq]
        exact ⟨by omega, fun z => by omega⟩
      · obtain ⟨a1, a2⟩ := ih l (by omega)
        rw [ed_u_ne e]
        refine ⟨by omega, fun z => ?_⟩
        by_cases e2 : l + 1 = op_n tn i
        · rw [e2, ed_u_eq]; exact a1
        · rw [ed_u_ne e2]; exact a2 (by omega)
    · rw [if_neg hb] at hl ⊢
      rw [if_neg hb]
      obtain ⟨a1, a2⟩ := ih l hl
      exact ⟨by omega, a2⟩
theorem ro_f_inc {p r l : Nat} (hl : l < ro_n p r) : ro_f p r l < ro_f p r (l + 1) ∧ ro_f p r l < p := by
  obtain ⟨a1, a2⟩ := op_f_lt (tn := ro_tn p r) p l hl
  unfold ro_f
  rw [if_neg (by omega)]
  refine ⟨?_, a1⟩
  by_cases e : l + 1 = ro_n p r
  · rw [if_pos e]; exact a1
  · rw [if_neg e]; exact a2 (by unfold ro_n at *; omega)
section ROWS
variable {X : hf_X} {d kk nn t : Nat} {T : hf_T} {J : hf_I} {L : hf_L} {P : hf_P} {Q : Option Value → hf_M → Prop}
theorem ms_open {p LN bl r : Nat} {len : Nat → Nat} {opt : Nat → Nat → Nat} {wn : Nat → Nat} {ls : Nat → Int32} (hs : hf_Lay t T P) (hk : ro_ok J p LN bl len opt wn ls) (hr : r < 2 ^ 30) (h : ∀ J', on_fr J J' → ro_at J' p bl len opt wn r → Q (some (.int (if LN < ro_n p r then 0 else 1))) (t, T, J', L, P)) : hf_G X Y_X12_opens (d + 1) kk nn 0 (hf_en [.ref 156, .int (nI r)] 4) [] (t, T, J, L, P) Q := by
  obtain ⟨⟨g1, g2, g3, g4, g5⟩, h2, h3, h4, h5, h6, h7⟩ := hk
  refine ms_opens (p := p) (LN := LN) (bl := bl) (len := len) (opt := opt) (wn := wn) hs g1 g2 h2 g3 h3 h4 h5 h6 (fun j k hj hk => ⟨(h7 j k hj hk).1, (h7 j k hj hk).2.1, (h7 j k hj hk).2.2.1⟩) hr fun J' fr a1 a2 a3 a4 => h J' fr ⟨a1, a2, fun l hl => (a3 l hl).1, fun l hl => ?_⟩
  unfold ro_f
  by_cases e : l = ro_n p r
  · rw [if_pos e, e]; exact a4
  · rw [if_neg e]
    exact (a3 l (show l < ro_n p r by omega)).2
theorem ms_tellsRow {p LN bl r y : Nat} {len : Nat → Nat} {opt : Nat → Nat → Nat} {wn : Nat → Nat} {ls : Nat → Int32} (hs : hf_Lay t T P) (hk : ro_ok J p LN bl len opt wn ls) (hr : r < 2 ^ 30) (hy3 : 3 ≤ y) (hy : y ≤ 14)
    (h : ∀ J' v, on_fr J J' → (y < 9 → y - 3 < p → v = nI (ro_wd p len opt r (y - 3))) → (9 ≤ y → y - 9 < p → v = nI (if ro_tn p r (y - 9) = true then 1 else 0)) → ((y < 9 ∧ p ≤ y - 3) ∨ (9 ≤ y ∧ p ≤ y - 9) → v = -1) → Q (some (.int v)) (t, T, J', L, P)) : hf_G X Y_X12_tellsRow (d + 2) kk nn 0 (hf_en [.ref 156, .int (nI r), .int (nI y)] 4) [] (t, T, J, L, P) Q := by
  have h317 := hk.2.1
  have p6 := hk.1.2.1
  have s9 : 9 ≤ y → nI y - 9 = nI (y - 9) := fun q => by
    obtain ⟨z, rfl⟩ : ∃ z, y = z + 9 := ⟨y - 9, by omega⟩
    rw [show (9 : Int32) = nI 9 from rfl, ← nI_add, Int32.add_sub_cancel, Nat.add_sub_cancel]
  have s3 : nI y - 3 = nI (y - 3) := by
    obtain ⟨z, rfl⟩ : ∃ z, y = z + 3 := ⟨y - 3, by omega⟩
    rw [show (3 : Int32) = nI 3 from rfl, ← nI_add, Int32.add_sub_cancel, Nat.add_sub_cancel]
  have c9 : (9 ≤ nI y) ↔ 9 ≤ y := nI_leI (a := 9) (by omega) (by omega)
  refine w_X12_tellsRow_0 (d := d + 1) hs ⟨fun q => ?_, fun q => ?_⟩
  · have q' := c9.mp q
    rw [s9 q', h317]
    refine ⟨fun z => ?_, fun z => ?_⟩
    · have z' := (nI_ltI (by omega) (by omega)).mp z
      refine ms_open hs hk hr fun J' fr a => w_X12_tellsRow_32 hs ⟨fun _ => ⟨vp_in_nI (by omega) (by omega), ?_⟩, fun g => absurd q g⟩
      rw [nI_clamp (show y - 9 < 2 ^ 31 by omega), (a.1 _ z').2]
      exact h J' _ fr (fun g => by omega) (fun _ _ => rfl) (fun g => by omega)
    · have z' : p ≤ y - 9 := Nat.not_lt.mp fun x => z (nI_lt x (by omega))
      exact h J _ on_rf (fun g => by omega) (fun _ g => by omega) (fun _ => rfl)
  · have q' : ¬ 9 ≤ y := fun z => q (c9.mpr z)
    rw [s3, h317]
    refine ⟨fun z => ?_, fun z => ?_⟩
    · have z' := (nI_ltI (by omega) (by omega)).mp z
      refine ms_open hs hk hr fun J' fr a => w_X12_tellsRow_32 hs ⟨fun g => absurd g q, fun _ => ⟨vp_in_nI (by omega) (by omega), ?_⟩⟩
      rw [nI_clamp (show y - 3 < 2 ^ 31 by omega), (a.1 _ z').1]
      exact h J' _ fr (fun _ _ => rfl) (fun g => by omega) (fun g => by omega)
    · have z' : p ≤ y - 3 := Nat.not_lt.mp fun x => z (nI_lt x (by omega))
      exact h J _ on_rf (fun _ g => by omega) (fun g => by omega) (fun _ => rfl)
end ROWS
