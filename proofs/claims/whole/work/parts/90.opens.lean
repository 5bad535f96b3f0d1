/-! a row opened -/
def op_q (len : Nat → Nat) (p q : Nat) : Nat → Nat
  | 0 => q
  | s + 1 => op_q len p q s / len (p - 1 - s)
/-- which option of place i a row has -/
def op_d (len : Nat → Nat) (p q i : Nat) : Nat := op_q len p q (p - 1 - i) % len i
def op_t (p z i : Nat) : Bool := decide (¬ i = 0) && decide (¬ bt (nI z) (p - 1 - i) = 0)
def op_n (tn : Nat → Bool) : Nat → Nat
  | 0 => 0
  | i + 1 => if i = 0 ∨ tn i = true then op_n tn i + 1 else op_n tn i
def op_f (tn : Nat → Bool) : Nat → Nat → Nat
  | 0 => fun _ => 0
  | i + 1 => if i = 0 ∨ tn i = true then ed_u (op_f tn i) (op_n tn i) i else op_f tn i
def op_b (m : Nat → Nat) (tn : Nat → Bool) (bl : Nat) : Nat → Nat → Nat
  | 0 => fun _ => 0
  | i + 1 => if i = 0 ∨ tn i = true then ed_u (op_b m tn bl i) (op_n tn i) (m i) else ed_u (op_b m tn bl i) (op_n tn i - 1) (op_b m tn bl i (op_n tn i - 1) + (bl + m i))
theorem op_n_le {tn : Nat → Bool} : ∀ i, op_n tn i ≤ i ∧ (0 < i → 1 ≤ op_n tn i) := by
  intro i
  induction i with
  | zero => exact ⟨Nat.le_refl _, fun h => by omega⟩
  | succ i ih =>
    rw [op_n]
    split
    · exact ⟨by omega, fun _ => by omega⟩
    · rename_i q
      have : ¬ i = 0 := fun z => q (Or.inl z)
      exact ⟨by omega, fun _ => by have := ih.2 (by omega); omega⟩
/-- the cells that opens writes -/
def on_fr (J J' : hf_I) : Prop := (∀ a, ¬ a = 156 → ¬ a = 173 → ¬ a = 174 → ¬ a = 177 → ¬ a = 178 → J' a = J a) ∧ ∀ j, ¬ j = 38 → J' 156 j = J 156 j
theorem on_rf {J : hf_I} : on_fr J J := ⟨fun _ _ _ _ _ _ => rfl, fun _ _ => rfl⟩
theorem on_up {J J' : hf_I} {b q : Nat} {v : Int32} (h : on_fr J J') (hb : b = 173 ∨ b = 174 ∨ b = 177 ∨ b = 178 ∨ (b = 156 ∧ q = 38)) : on_fr J (hf_up J' b q v) := by
  refine ⟨fun a a1 a2 a3 a4 a5 => ?_, fun j hj => ?_⟩
  · rw [← h.1 a a1 a2 a3 a4 a5]
    unfold hf_up
    rw [if_neg (by omega)]
  · rw [← h.2 j hj]
    by_cases e : b = 156
    · subst e
      show upd (J' 156) q v j = _
      rw [hf_upd_ne (by omega)]
    · unfold hf_up
      rw [if_neg (by omega)]
section OPENS
variable {X : hf_X} {d kk nn t : Nat} {T : hf_T} {J : hf_I} {L : hf_L} {P : hf_P} {Q : Option Value → hf_M → Prop}
theorem ms_opens {p LN bl r : Nat} {len : Nat → Nat} {opt : Nat → Nat → Nat} {wn : Nat → Nat} (hs : hf_Lay t T P) (hp1 : 1 ≤ p) (hp : p ≤ 6) (h317 : J 158 317 = nI p) (hLN : LN ≤ 4) (h314 : J 158 314 = nI LN) (h37 : J 156 37 = nI (2 ^ (p - 1))) (h39 : J 156 39 = nI bl) (hlen : ∀ j, j < p → J 172 j = nI (len j) ∧ 1 ≤ len j ∧ len j ≤ 3) (hopt : ∀ j k, j < p → k < len j → J 171 (3 * j + k) = nI (opt j k) ∧ opt j k < 16 ∧ J 175 (opt j k) = nI (wn (opt j k))) (hr : r < 2 ^ 30)
    (h : ∀ J', on_fr J J' → (∀ i, i < p → J' 173 i = nI (opt i (op_d len p (r / 2 ^ (p - 1)) i)) ∧ J' 174 i = nI (if op_t p (r % 2 ^ (p - 1)) i = true then 1 else 0)) → J' 156 38 = nI (op_n (op_t p (r % 2 ^ (p - 1))) p) → (∀ l, l < op_n (op_t p (r % 2 ^ (p - 1))) p → J' 177 l = nI (op_b (fun i => wn (opt i (op_d len p (r / 2 ^ (p - 1)) i))) (op_t p (r % 2 ^ (p - 1))) bl p l) ∧ J' 178 l = nI (op_f (op_t p (r % 2 ^ (p - 1))) p l)) → J' 178 (op_n (op_t p (r % 2 ^ (p - 1))) p) = nI p → Q (some (.int (if LN < op_n (op_t p (r % 2 ^ (p - 1))) p then 0 else 1))) (t, T, J', L, P)) :
    hf_G X Y_X12_opens (d + 1) kk nn 0 (hf_en [.ref 156, .int (nI r)] 4) [] (t, T, J, L, P) Q := by
  obtain ⟨pw1, pw2⟩ := ed_pw (c := p - 1) (by omega)
  have p0 : 0 < 2 ^ (p - 1) := Nat.two_pow_pos (p - 1)
  have ez : nI r / nI (2 ^ (p - 1)) = nI (r / 2 ^ (p - 1)) := pk_div (by omega) p0 (by omega)
  have em : nI r - nI r / nI (2 ^ (p - 1)) * nI (2 ^ (p - 1)) = nI (r % 2 ^ (p - 1)) := pk_rem (by omega) p0 (by omega)
  have n0 : ¬ nI (2 ^ (p - 1)) = 0 := fun z => by have := (nI_eq (b := 0) (show 2 ^ (p - 1) < 2 ^ 31 by omega) (by omega)).mp z; omega
  have hq0 : r / 2 ^ (p - 1) < 2 ^ 30 := Nat.lt_of_le_of_lt (Nat.div_le_self _ _) hr
  generalize r / 2 ^ (p - 1) = q at h ez hq0
  generalize hzz : r % 2 ^ (p - 1) = z at h em
  -- LINES
  have second : ∀ f i, i + f = p → ∀ J', on_fr J J' → (∀ i, i < p → J' 173 i = nI (opt i (op_d len p q i)) ∧ J' 174 i = nI (if op_t p z i = true then 1 else 0)) → J' 156 38 = nI (op_n (op_t p z) i) → (∀ l, l < op_n (op_t p z) i → J' 177 l = nI (op_b (fun i => wn (opt i (op_d len p q i))) (op_t p z) bl i l) ∧ J' 178 l = nI (op_f (op_t p z) i l)) → hf_G X Y_X12_opens (d + 1) kk nn 94 [some (.ref 156), none, none, some (.int (nI i))] [] (t, T, J', L, P) Q := by
    intro f
    induction f with
    | zero =>
      intro i hi J' fr h1 h38 hl
      obtain rfl : i = p := by omega
      have e1 : J' 158 = J 158 := fr.1 158 (by omega) (by omega) (by omega) (by omega) (by omega)
      have nl := op_n_le (tn := op_t i z) i
      refine w_X12_opens_94 hs ⟨fun _ => ?_, fun g => absurd (by rw [e1, h317]; exact nI_le (Nat.le_refl _) (by omega)) g⟩
      rw [h38, e1, h314, h317, nI_clamp (show op_n (op_t i z) i < 2 ^ 31 by omega)]
      have fin : ∀ v, v = (if LN < op_n (op_t i z) i then (0 : Int32) else 1) → Q (some (.int v)) (t, T, hf_up J' 178 (op_n (op_t i z) i) (nI i), L, P) := by
        intro v hv
        rw [hv]
        refine h _ (on_up fr (by omega)) h1 h38 (fun l hl' => ⟨(hl l hl').1, ?_⟩) ?_
        · show upd (J' 178) (op_n (op_t i z) i) (nI i) l = _
          rw [hf_upd_ne (by omega)]
          exact (hl l hl').2
        · show upd (J' 178) (op_n (op_t i z) i) (nI i) (op_n (op_t i z) i) = _
          rw [hf_upd_eq]
      refine ⟨vp_in_nI (by omega) (by omega), fun g => fin 0 ?_, fun g => fin 1 ?_⟩
      · rw [if_pos ((nI_ltI (by omega) (by omega)).mp g)]
      · rw [if_neg (fun y => g (nI_lt y (by omega)))]
    | succ f ih =>
      intro i hi J' fr h1 h38 hl
      have e1 : J' 158 = J 158 := fr.1 158 (by omega) (by omega) (by omega) (by omega) (by omega)
      have e175 : J' 175 = J 175 := fr.1 175 (by omega) (by omega) (by omega) (by omega) (by omega)
      have nl := op_n_le (tn := op_t p z) i
      obtain ⟨l1, l2, l3⟩ := hlen i (by omega)
      have dl : op_d len p q i < len i := Nat.mod_lt _ (by omega)
      obtain ⟨o1, o2, o3⟩ := hopt i (op_d len p q i) (by omega) dl
      have vi : vp_in (nI i) 6 := vp_in_nI (by omega) (by omega)
      have i0 : (nI i = 0) ↔ i = 0 := nI_eq (b := 0) (by omega) (by omega)
      refine w_X12_opens_94 hs ⟨fun g => absurd g (by rw [e1, h317]; exact nI_ge (by omega) (by omega)), fun _ => ?_⟩
      rw [h38, nI_clamp (show i < 2 ^ 31 by omega), (h1 i (by omega)).1, (h1 i (by omega)).2, nI_clamp (show opt i (op_d len p q i) < 2 ^ 31 by omega), e175, o3, nI_clamp (show op_n (op_t p z) i < 2 ^ 31 by omega), nI_1, nI_1]
      have begins : (i = 0 ∨ op_t p z i = true) → hf_G X Y_X12_opens (d + 1) kk nn 94 [some (.ref 156), none, none, some (.int (nI (i + 1)))] [] (t, T, hf_up (hf_up (hf_up J' 178 (op_n (op_t p z) i) (nI i)) 177 (op_n (op_t p z) i) (nI (wn (opt i (op_d len p q i))))) 156 38 (nI (op_n (op_t p z) i + 1)), L, P) Q := by
        intro hb
        refine ih (i + 1) (by omega) _ (on_up (on_up (on_up fr (by omega)) (by omega)) (by omega)) h1 ?_ (fun l hl' => ?_)
        · rw [op_n, if_pos hb]
          rfl
        · rw [op_n, if_pos hb] at hl'
          rw [op_b, op_f, if_pos hb, if_pos hb]
          show upd (J' 177) (op_n (op_t p z) i) (nI (wn (opt i (op_d len p q i)))) l = _ ∧ upd (J' 178) (op_n (op_t p z) i) (nI i) l = _
          by_cases e : l = op_n (op_t p z) i
          · subst e
            rw [hf_upd_eq, hf_upd_eq, ed_u_eq, ed_u_eq]
            exact ⟨rfl, rfl⟩
          · rw [hf_upd_ne e, hf_upd_ne e, ed_u_ne e, ed_u_ne e]
            exact hl l (by omega)
      refine ⟨fun g => ⟨vp_in_nI (by omega) (by omega), vi, vp_in_nI o2 (by omega), vp_in_nI (by omega) (by omega), begins (Or.inl (i0.mp g))⟩, fun g => ⟨vi, fun g2 => ?_, fun g2 => ⟨vp_in_nI (by omega) (by omega), vi, vp_in_nI o2 (by omega), vp_in_nI (by omega) (by omega), begins (Or.inr ?_)⟩⟩⟩
      · have ip : ¬ i = 0 := fun y => g (i0.mpr y)
        have ht : ¬ op_t p z i = true := fun y => g2 (by rw [if_pos y]; rfl)
        have hb : ¬ (i = 0 ∨ op_t p z i = true) := fun y => y.elim ip ht
        have n1 := nl.2 (by omega)
        obtain ⟨y, hy⟩ : ∃ y, op_n (op_t p z) i = y + 1 := ⟨op_n (op_t p z) i - 1, by omega⟩
        have ey : nI (op_n (op_t p z) i) - 1 = nI y := by rw [hy, ← nI_1, Int32.add_sub_cancel]
        have e39 : J' 156 39 = nI bl := (fr.2 39 (by omega)).trans h39
        obtain ⟨hl1, hl2⟩ := hl y (by omega)
        have vy : vp_in (nI y) 6 := vp_in_nI (by omega) (by omega)
        rw [ey, nI_clamp (show y < 2 ^ 31 by omega), hl1, e39, nI_add, nI_add]
        refine ⟨vy, vi, vp_in_nI o2 (by omega), vy, ?_⟩
        refine ih (i + 1) (by omega) _ (on_up fr (by omega)) h1 ?_ (fun l hl' => ?_)
        · rw [op_n, if_neg hb]
          exact h38
        · rw [op_n, if_neg hb] at hl'
          rw [op_b, op_f, if_neg hb, if_neg hb, hy, Nat.add_sub_cancel]
          refine ⟨?_, (hl l hl').2⟩
          show upd (J' 177) y _ l = _
          by_cases e : l = y
          · subst e
            rw [hf_upd_eq, ed_u_eq]
          · rw [hf_upd_ne e, ed_u_ne e]
            exact (hl l hl').1
      · by_cases y : op_t p z i = true
        · exact y
        · rw [if_neg y] at g2; exact absurd g2 (by decide)
  -- WORDS and TURNS, from the last place to the first
  have first : ∀ k, k ≤ p → ∀ J', on_fr J J' → (∀ i, k ≤ i → i < p → J' 173 i = nI (opt i (op_d len p q i)) ∧ J' 174 i = nI (if op_t p z i = true then 1 else 0)) → hf_G X Y_X12_opens (d + 1) kk nn 14 [some (.ref 156), some (.int (nI r)), some (.int (nI (op_q len p q (p - k)))), some (.int (nI k - 1))] [] (t, T, J', L, P) Q := by
    have qb : ∀ s, op_q len p q s ≤ q := by
      intro s
      induction s with
      | zero => exact Nat.le_refl _
      | succ s ih => exact Nat.le_trans (Nat.div_le_self _ _) ih
    intro k
    induction k with
    | zero =>
      intro _ J' fr h1
      refine w_X12_opens_14 hs ⟨fun _ => ?_, fun g => absurd (by decide) g⟩
      exact second p 0 (by omega) _ (on_up fr (by omega)) (fun i hi => h1 i (by omega) hi) rfl (fun l hl => absurd hl (by simp [op_n]))
    | succ k ih =>
      intro hk J' fr h1
      have ek : nI (k + 1) - 1 = nI k := by rw [← nI_1, Int32.add_sub_cancel]
      have e1 : J' 158 = J 158 := fr.1 158 (by omega) (by omega) (by omega) (by omega) (by omega)
      have e171 : J' 171 = J 171 := fr.1 171 (by omega) (by omega) (by omega) (by omega) (by omega)
      have e172 : J' 172 = J 172 := fr.1 172 (by omega) (by omega) (by omega) (by omega) (by omega)
      have e37 : J' 156 37 = nI (2 ^ (p - 1)) := (fr.2 37 (by omega)).trans h37
      obtain ⟨l1, l2, l3⟩ := hlen k (by omega)
      have qk := qb (p - (k + 1))
      have es : p - 1 - k = p - (k + 1) := by omega
      have ed : op_d len p q k = op_q len p q (p - (k + 1)) % len k := by unfold op_d; rw [es]
      have enx : op_q len p q (p - (k + 1)) / len k = op_q len p q (p - k) := by
        rw [show p - k = (p - (k + 1)) + 1 by omega, op_q, show p - 1 - (p - (k + 1)) = k by omega]
      have dl : op_d len p q k < len k := Nat.mod_lt _ (by omega)
      obtain ⟨o1, o2, o3⟩ := hopt k (op_d len p q k) (by omega) dl
      have vk : vp_in (nI k) 6 := vp_in_nI (by omega) (by omega)
      have ln0 : ¬ nI (len k) = 0 := fun y => by have := (nI_eq (b := 0) (show len k < 2 ^ 31 by omega) (by omega)).mp y; omega
      have erem : nI (op_q len p q (p - (k + 1))) - nI (op_q len p q (p - (k + 1))) / nI (len k) * nI (len k) = nI (op_d len p q k) := by rw [pk_rem (by omega) (by omega) (by omega), ed]
      have ediv : nI (op_q len p q (p - (k + 1))) / nI (len k) = nI (op_q len p q (p - k)) := by rw [pk_div (by omega) (by omega) (by omega), enx]
      have e3 : 3 * nI k + nI (op_d len p q k) = nI (3 * k + op_d len p q k) := by rw [show (3 : Int32) = nI 3 from rfl, pk_mul, nI_add]
      have k0 : (nI k = 0) ↔ k = 0 := nI_eq (b := 0) (by omega) (by omega)
      have em1 : nI k + (-1) = nI k - 1 := (Int32.sub_eq_add_neg _ _).symm
      rw [ek]
      refine w_X12_opens_14 hs ⟨fun g => absurd g (nI_pos (by omega)), fun _ => ⟨vk, ?_⟩⟩
      rw [nI_clamp (show k < 2 ^ 31 by omega), e172, l1, erem, e3, nI_clamp (show 3 * k + op_d len p q k < 2 ^ 31 by omega), e171, o1, ediv, e37, em, em1]
      have go : ∀ v, v = nI (if op_t p z k = true then 1 else 0) → hf_G X Y_X12_opens (d + 1) kk nn 14 [some (.ref 156), some (.int (nI r)), some (.int (nI (op_q len p q (p - k)))), some (.int (nI k - 1))] [] (t, T, hf_up (hf_up J' 173 k (nI (opt k (op_d len p q k)))) 174 k v, L, P) Q := by
        intro v hv
        refine ih (by omega) _ (on_up (on_up fr (by omega)) (by omega)) (fun i i1 i2 => ?_)
        show upd (J' 173) k (nI (opt k (op_d len p q k))) i = _ ∧ upd (J' 174) k v i = _
        by_cases e : i = k
        · subst e
          rw [hf_upd_eq, hf_upd_eq]
          exact ⟨rfl, hv⟩
        · rw [hf_upd_ne e, hf_upd_ne e]
          exact h1 i (by omega) i2
      refine ⟨ln0, vp_in_nI (by omega) (by omega), vk, vk, ln0, fun g => ⟨n0, vk, go _ ?_⟩, fun g => ⟨vk, go _ ?_⟩⟩
      · have esub : J' 158 317 - 1 - nI k = nI (p - 1 - k) := by
          obtain ⟨y, hy⟩ : ∃ y, p = y + k + 1 := ⟨p - 1 - k, by omega⟩
          rw [e1, h317, hy, ← nI_1, Int32.add_sub_cancel, ← nI_add, Int32.add_sub_cancel, show y + k + 1 - 1 - k = y by omega]
        rw [esub]
        show bt (nI z) (p - 1 - k) = _
        have kn : ¬ k = 0 := fun y => g (k0.mpr y)
        rw [bt_n]
        congr 1
        unfold op_t
        by_cases y : bt (nI z) (p - 1 - k) = 0
        · simp [y]
        · simp [y, kn]
      · have kn : k = 0 := k0.mp g
        unfold op_t
        simp [kn]
        rfl
  refine w_X12_opens_0 hs ?_
  rw [h37, h317, ez]
  have := first p (Nat.le_refl _) J on_rf (fun i i1 i2 => by omega)
  rw [Nat.sub_self] at this
  exact ⟨n0, this⟩
end OPENS
