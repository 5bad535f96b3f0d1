/-! tails, by the class: the least of them, and how a LINE spreads -/
def fz_l (o : Option Nat) : Int64 := match o with
  | none => 1152921504606846976
  | some k => lN k
def fz_lt (o : Option Nat) : Prop := ∀ x, o = some x → x < 1152921504606846976
theorem fz_l_m {a b : Option Nat} (ha : fz_lt a) (hb : fz_lt b) : (if fz_l b < fz_l a then fz_l b else fz_l a) = fz_l (fz_m a b) := by
  have e : (1152921504606846976 : Int64) = lN 1152921504606846976 := rfl
  cases a with
  | none =>
    cases b with
    | none => show (if (1152921504606846976 : Int64) < 1152921504606846976 then _ else _) = _; rw [if_neg (by decide)]; rfl
    | some y =>
      have := hb y rfl
      show (if lN y < 1152921504606846976 then lN y else 1152921504606846976) = lN y
      rw [e, if_pos ((lN_L (by omega) (by omega)).mpr this)]
  | some x =>
    have hx := ha x rfl
    cases b with
    | none =>
      show (if 1152921504606846976 < lN x then 1152921504606846976 else lN x) = lN x
      rw [e, if_neg (fun z => by have := (lN_L (by omega) (by omega)).mp z; omega)]
    | some y =>
      have hy := hb y rfl
      show (if lN y < lN x then lN y else lN x) = lN (if x ≤ y then x else y)
      by_cases q : y < x
      · rw [if_pos ((lN_L (by omega) (by omega)).mpr q), if_neg (by omega)]
      · rw [if_neg (fun z => q ((lN_L (by omega) (by omega)).mp z)), if_pos (by omega)]
theorem fz_lt_m {a b : Option Nat} (ha : fz_lt a) (hb : fz_lt b) : fz_lt (fz_m a b) := by
  cases a with
  | none => exact hb
  | some x =>
    cases b with
    | none => exact ha
    | some y =>
      intro z hz
      have e : (if x ≤ y then x else y) = z := Option.some.inj hz
      have h1 := ha x rfl
      have h2 := hb y rfl
      split at e <;> omega
theorem fz_lt_bd {N B : Nat} {a : fz_V} (h : fz_bd N B a) (hB : B < 1152921504606846976) : fz_lt a.2 := fun x hx => Nat.lt_of_le_of_lt (h.2 x hx) hB
theorem tp_ix {j ln k a : Nat} : ((((nI j * nI 4) + nI ln) * nI 3 + nI k) * nI 2) + nI a = nI (6 * (4 * j + ln) + 2 * k + a) := by
  rw [pk_mul, nI_add, pk_mul, nI_add, pk_mul, nI_add]
  congr 1
  omega
theorem tp_0 {j ln k : Nat} : ((((nI j * 4) + nI ln) * 3 + nI k) * 2) + 0 = nI (6 * (4 * j + ln) + 2 * k) := tp_ix (a := 0)
theorem tp_1 {j ln k : Nat} : ((((nI j * 4) + nI ln) * 3 + nI k) * 2) + 1 = nI (6 * (4 * j + ln) + 2 * k + 1) := tp_ix (a := 1)
theorem tp_w {j ln : Nat} : (nI j * 4) + nI ln = nI (4 * j + ln) := by
  rw [show (4 : Int32) = nI 4 from rfl, pk_mul, nI_add, Nat.mul_comm]
theorem tp_c {j k : Nat} : (nI j * 3) + nI k = nI (3 * j + k) := by
  rw [show (3 : Int32) = nI 3 from rfl, pk_mul, nI_add, Nat.mul_comm]
theorem tp_9 {j : Nat} : nI j * 9 = nI (9 * j) := by
  rw [show (9 : Int32) = nI 9 from rfl, pk_mul, Nat.mul_comm]
/-- the cells, ready for tails -/
def cv_ok (t : Nat) (T : hf_T) (P : hf_P) (J : hf_I) (G : fz_X) (p : Nat) (cls : List gr_c1) : Prop :=
  (1 ≤ p ∧ p ≤ 6 ∧ fz_ok G p) ∧ J 136 9 = nI p ∧ J 136 10 = nI (gbl G) ∧ J 101 12 = nI (ghr G) ∧ J 101 13 = nI (gLN G) ∧ (∀ j, j < p → J 140 j = nI (glen G j)) ∧ (∀ j k, j < p → k < glen G j → J 139 (3 * j + k) = nI (gopt G j k) ∧ J 137 (gopt G j k) = nI (gwn G (gopt G j k)) ∧ J 138 (gopt G j k) = nI (gls G (gopt G j k))) ∧ (∀ w l, gex G w l = decide (nI w = J 113 l)) ∧ (∀ a b, gal G a b = decide (J 110 (9 * a) = J 110 (9 * b))) ∧ lw_c t T J P cls ∧ ∀ ln wd mn ak ec, wd ≤ 2400 → jd_ct cls (jf_l (nI ln) (nI (ghr G) - nI wd) (nI mn) (hf_b ak) (hf_b ec) (J 101 14) (J 104 0) (J 104 1)) (nI (ghr G) - nI wd) ak = nI (gC G ln wd mn ak ec)
def cv_fr (J J' : hf_I) : Prop := (∀ a, ¬ a = 132 → ¬ a = 133 → ¬ a = 134 → ¬ a = 136 → ¬ a = 143 → J' a = J a) ∧ ∀ j, j < 11 ∨ j = 15 ∨ j = 16 ∨ 18 < j → J' 136 j = J 136 j
theorem cv_rf {J : hf_I} : cv_fr J J := ⟨fun _ _ _ _ _ _ => rfl, fun _ _ => rfl⟩
theorem cv_tr {I J K : hf_I} (h : cv_fr I J) (g : cv_fr J K) : cv_fr I K := ⟨fun a a1 a2 a3 a4 a5 => (g.1 a a1 a2 a3 a4 a5).trans (h.1 a a1 a2 a3 a4 a5), fun j hj => (g.2 j hj).trans (h.2 j hj)⟩
theorem cv_up {J : hf_I} {b q : Nat} {v : Int32} (hb : b = 143 ∨ (b = 136 ∧ 11 ≤ q ∧ q ≤ 18 ∧ ¬ q = 15 ∧ ¬ q = 16)) : cv_fr J (hf_up J b q v) := by
  refine ⟨fun a a1 a2 a3 a4 a5 => ?_, fun j hj => ?_⟩
  · unfold hf_up
    rw [if_neg (by omega)]
  · unfold hf_up
    by_cases e : 136 = b
    · subst e
      rw [if_pos rfl, hf_upd_ne (by omega)]
    · rw [if_neg e]
theorem cv_jc {J J' : hf_I} (h : jc_fr J J') : cv_fr J J' := ⟨fun a a1 a2 a3 _ _ => h a a1 a2 a3, fun j _ => by rw [h 136 (by omega) (by omega) (by omega)]⟩
theorem cv_mv {t : Nat} {T : hf_T} {P : hf_P} {J J' : hf_I} {G : fz_X} {p : Nat} {cls : List gr_c1} (h : cv_ok t T P J G p cls) (g : cv_fr J J') : cv_ok t T P J' G p cls := by
  obtain ⟨h1, h2, h3, h4, h5, h6, h7, h8, h9, h10, h11⟩ := h
  have e : ∀ a, (a < 132 ∨ 136 < a) ∧ ¬ a = 143 → J' a = J a := fun a ha => g.1 a (by omega) (by omega) (by omega) (by omega) (by omega)
  refine ⟨h1, (g.2 9 (by omega)).trans h2, (g.2 10 (by omega)).trans h3, ?_, ?_, ?_, ?_, ?_, ?_, ?_, ?_⟩
  · rw [e 101 (by omega)]; exact h4
  · rw [e 101 (by omega)]; exact h5
  · rw [e 140 (by omega)]; exact h6
  · rw [e 139 (by omega), e 137 (by omega), e 138 (by omega)]; exact h7
  · rw [e 113 (by omega)]; exact h8
  · rw [e 110 (by omega)]; exact h9
  · unfold lw_c
    rw [e 101 (by omega), show (fun a => J' (181 + a)) = fun a => J (181 + a) from funext fun a => e (181 + a) (by omega)]
    exact h10
  · rw [e 101 (by omega), e 104 (by omega)]; exact h11
section SPREAD
variable {X : hf_X} {d t : Nat} {T : hf_T} {P : hf_P} {G : fz_X} {p : Nat} {cls : List gr_c1}
theorem cs_leastTail {kk nn : Nat} {J : hf_I} {L : hf_L} {Q : Option Value → hf_M → Prop} {f j ln : Nat} {x3 : Int32} {sm : Nat → Bool} (hs : hf_Lay t T P) (hk : cv_ok t T P J G p cls) (hf : j + (f + 1) = p) (hln : ln < 4) (hx : (x3 = -1 ∧ ∀ k, sm k = false) ∨ ∃ a, a < 16 ∧ x3 = nI a ∧ ∀ k, sm k = gal G a (gopt G j k))
    (hT : ∀ k, k < glen G j → L 142 (6 * (4 * j + ln) + 2 * k + (if sm k = true then 1 else 0)) = fz_l (fz_T G f j ln k (sm k)).2) (h : Q (some (.long (fz_l (fz_S (fun k => fz_T G f j ln k (sm k)) (glen G j)).2))) (t, T, J, L, P)) :
    hf_G X Y_X8_leastTail (d + 2) kk nn 0 (hf_en [.ref 136, .int (nI j), .int (nI ln), .int x3] 9) [] (t, T, J, L, P) Q := by
  obtain ⟨⟨p1, p6, hG⟩, k9, k10, k12, k13, k140, kopt, kex, kal, -⟩ := hk
  have hl := hG.2.1 j (by omega)
  have bd : ∀ k, k < glen G j → fz_lt (fz_T G f j ln k (sm k)).2 := fun k hk => fz_lt_bd (fz_T_bd p6 hG hf hk) (by
    have : f ≤ 5 := by omega
    omega)
  have bs : ∀ k, k ≤ glen G j → fz_lt (fz_S (fun k => fz_T G f j ln k (sm k)) k).2 := by
    intro k
    induction k with
    | zero => intro _ x hx; cases hx
    | succ k ih => intro hk; exact fz_lt_m (ih (by omega)) (bd k (by omega))
  have loop : ∀ g k, k + g = glen G j → hf_G X Y_X8_leastTail (d + 2) kk nn 8 [some (.ref 136), some (.int (nI j)), some (.int (nI ln)), some (.int x3), some (.long (fz_l (fz_S (fun k => fz_T G f j ln k (sm k)) k).2)), none, some (.int (nI k)), none, none] [] (t, T, J, L, P) Q := by
    intro g
    induction g with
    | zero =>
      intro k hk
      obtain rfl : k = glen G j := by omega
      refine w_X8_leastTail_8 hs ?_
      rw [nI_clamp (show j < 2 ^ 31 by omega), k140 j (by omega)]
      exact ⟨vp_in_nI (by omega) (by omega), fun _ => h, fun q => absurd (nI_le (Nat.le_refl _) (by omega)) q⟩
    | succ g ih =>
      intro k hk
      have key := ih (k + 1) (by omega)
      have klt : k < glen G j := by omega
      rw [fz_S] at key
      have em := fz_l_m (bs k (by omega)) (bd k klt)
      have e2 : (fz_o (fz_S (fun k => fz_T G f j ln k (sm k)) k) (fz_T G f j ln k (sm k))).2 = fz_m (fz_S (fun k => fz_T G f j ln k (sm k)) k).2 (fz_T G f j ln k (sm k)).2 := rfl
      rw [e2, ← em, ← nI_1] at key
      have ht := hT k klt
      have o16 := hG.2.2.1 j k (by omega) klt
      refine w_X8_leastTail_8 hs ?_
      rw [tp_0, tp_1, tp_c, nI_clamp (show j < 2 ^ 31 by omega), k140 j (by omega), nI_clamp (show 3 * j + k < 2 ^ 31 by omega), (kopt j k (by omega) klt).1, nI_clamp (show 6 * (4 * j + ln) + 2 * k < 2 ^ 31 by omega), nI_clamp (show 6 * (4 * j + ln) + 2 * k + 1 < 2 ^ 31 by omega)]
      refine ⟨vp_in_nI (by omega) (by omega), fun q => absurd q (nI_ge (by omega) (by omega)), fun _ => ⟨vp_in_nI (by omega) (by omega), fun q => ⟨vp_in_nI (by omega) (by omega), ?_⟩, fun q => ?_⟩⟩
      · rcases hx with ⟨-, h0⟩ | ⟨a, a1, a2, -⟩
        · rw [h0 k, if_neg (by simp), Nat.add_zero] at ht
          rw [ht]
          rw [h0 k] at key
          exact key
        · rw [a2] at q
          exact absurd q (hf_nm1 (by omega))
      · rcases hx with ⟨h0, -⟩ | ⟨a, a1, a2, a3⟩
        · exact absurd h0 q
        · rw [a2, tp_9, tp_9, nI_clamp (show 9 * a < 2 ^ 31 by omega), nI_clamp (show 9 * gopt G j k < 2 ^ 31 by omega)]
          rw [a2] at key
          refine ⟨vp_in_nI (by omega) (by omega), vp_in_nI (by omega) (by omega), fun z => ⟨vp_in_nI (by omega) (by omega), ?_⟩, fun z => ⟨vp_in_nI (by omega) (by omega), ?_⟩⟩
          · have s0 : sm k = false := by rw [a3, kal]; exact decide_eq_false z
            rw [s0, if_neg (by simp), Nat.add_zero] at ht
            rw [ht]
            rw [s0] at key
            exact key
          · have s1 : sm k = true := by rw [a3, kal]; exact decide_eq_true z
            rw [s1, if_pos rfl] at ht
            rw [ht]
            rw [s1] at key
            exact key
  exact w_X8_leastTail_0 hs (loop (glen G j) 0 (by omega))
end SPREAD
