/-! what a row costs, by the model -/
def ro_e (rw : Nat → Nat) (nx : Int32) (a : Nat) : Nat → Bool
  | 0 => false
  | f + 1 => ro_e rw nx a f || decide (nI (rw (a + f)) = nx)
def ro_a (K : Nat → Int32) (rw fr : Nat → Nat) (l : Nat) : Bool := decide (0 < l) && decide (K (53 + 13 * rw (fr l) + 4) = K (53 + 13 * rw (fr (l - 1)) + 4))
def ro_l (cls : List gr_c1) (K : Nat → Int32) (rw fr bd : Nat → Nat) (l : Nat) : Int32 := jd_ct cls (jf_l (nI l) (K 313 - nI (bd l)) (nI (fr (l + 1)) - nI (fr l)) (hf_b (ro_a K rw fr l)) (hf_b (ro_e rw (K (275 + l)) (fr l) (fr (l + 1) - fr l))) (K 315) (K 311) (K 312)) (K 313 - nI (bd l)) (ro_a K rw fr l)
def ro_s (ls : Nat → Int32) (rw : Nat → Nat) : Nat → Int32
  | 0 => 0
  | i + 1 => ro_s ls rw i + ls (rw i)
def ro_t (cls : List gr_c1) (K : Nat → Int32) (rw fr bd : Nat → Nat) (b : Int32) : Nat → Int32
  | 0 => b
  | l + 1 => ro_t cls K rw fr bd b l + ro_l cls K rw fr bd l
section COST
variable {X : hf_X} {d kk nn t : Nat} {T : hf_T} {J : hf_I} {L : hf_L} {P : hf_P} {Q : Option Value → hf_M → Prop}
theorem ms_costOfRow {p n : Nat} {rw fr bd : Nat → Nat} {ls : Nat → Int32} {cls : List gr_c1} (hs : hf_Lay t T P) (hlw : lw_m J cls) (hp : p ≤ 6) (h317 : J 158 317 = nI p) (hn : n ≤ 4) (h38 : J 156 38 = nI n) (hrw : ∀ i, i < p → J 173 i = nI (rw i) ∧ rw i < 16 ∧ J 176 (rw i) = ls (rw i)) (hfr : ∀ l, l ≤ n → J 178 l = nI (fr l) ∧ fr l ≤ p) (hinc : ∀ l, l < n → fr l < fr (l + 1)) (hbd : ∀ l, l < n → J 177 l = nI (bd l))
    (h : ∀ J', jm_fr J J' → Q (some (.int (ro_t cls (J 158) rw fr bd (ro_s ls rw p) n))) (t, T, J', L, P)) :
    hf_G X Y_X12_costOfRow (d + 610) kk nn 0 (hf_en [.ref 156] 6) [] (t, T, J, L, P) Q := by
  have lines : ∀ f l, l + f = n → ∀ J', jm_fr J J' → hf_G X Y_X12_costOfRow (d + 610) kk nn 34 [some (.ref 156), some (.int (ro_t cls (J 158) rw fr bd (ro_s ls rw p) l)), some (.int (nI l)), none, none, none] [] (t, T, J', L, P) Q := by
    intro f
    induction f with
    | zero =>
      intro l hl J' fj
      obtain rfl : l = n := by omega
      exact w_X12_costOfRow_34 hs ⟨fun _ => h J' fj, fun q => absurd (by rw [fj.2 38 (by omega) (by omega) (by omega) (by omega), h38]; exact nI_le (Nat.le_refl _) (by omega)) q⟩
    | succ f ih =>
      intro l hl J' fj
      have e158 : J' 158 = J 158 := fj.1 158 (by omega) (by omega)
      have e173 : J' 173 = J 173 := fj.1 173 (by omega) (by omega)
      have e177 : J' 177 = J 177 := fj.1 177 (by omega) (by omega)
      have e178 : J' 178 = J 178 := fj.1 178 (by omega) (by omega)
      obtain ⟨a1, a2⟩ := hfr l (by omega)
      obtain ⟨b1, b2⟩ := hfr (l + 1) (by omega)
      have inc := hinc l (by omega)
      have v7 : vp_in (nI l) 7 := vp_in_nI (by omega) (by omega)
      have v7' : vp_in (nI (l + 1)) 7 := vp_in_nI (by omega) (by omega)
      -- the ECHO, place by place
      have echo : ∀ f i, i + f = fr (l + 1) → fr l ≤ i → hf_G X Y_X12_costOfRow (d + 610) kk nn 100 [some (.ref 156), some (.int (ro_t cls (J 158) rw fr bd (ro_s ls rw p) l)), some (.int (nI l)), some (.int (hf_b (ro_a (J 158) rw fr l))), some (.int (hf_b (ro_e rw (J 158 (275 + l)) (fr l) (i - fr l)))), some (.int (nI i))] [] (t, T, J', L, P) Q := by
        intro f
        induction f with
        | zero =>
          intro i hi hi2
          obtain rfl : i = fr (l + 1) := by omega
          refine w_X12_costOfRow_100 hs ?_
          rw [nI_1, nI_clamp (show l + 1 < 2 ^ 31 by omega), nI_clamp (show l < 2 ^ 31 by omega), e178, b1, a1, e177, hbd l (by omega), e158]
          refine ⟨v7', fun _ => ⟨vp_in_nI (by omega) (by omega), v7', v7, ?_⟩, fun q => absurd (nI_le (Nat.le_refl _) (by omega)) q⟩
          refine ms_costOf (d := d) hs (lw_m_fr hlw e158) fun J1 f1 => w_X12_costOfRow_186 hs ?_
          rw [e158, nI_1]
          exact ih (l + 1) (by omega) J1 (jm_tr fj f1)
        | succ f ih2 =>
          intro i hi hi2
          have key := ih2 (i + 1) (by omega) (by omega)
          rw [show i + 1 - fr l = (i - fr l) + 1 by omega, ro_e, show fr l + (i - fr l) = i by omega] at key
          obtain ⟨r1, r2, r3⟩ := hrw i (by omega)
          refine w_X12_costOfRow_100 hs ?_
          rw [nI_1, nI_clamp (show l + 1 < 2 ^ 31 by omega), e178, b1, nI_clamp (show i < 2 ^ 31 by omega), e173, r1, e158, show (275 : Int32) = nI 275 from rfl, nI_add, nI_clamp (show 275 + l < 2 ^ 31 by omega), nI_1]
          refine ⟨v7', fun q => absurd q (nI_ge (by omega) (by omega)), fun _ => ⟨vp_in_nI (by omega) (by omega), vp_in_nI (by omega) (by omega), fun q => ?_, fun q => ?_⟩⟩
          · rw [decide_eq_false q, Bool.or_false] at key
            exact key
          · rw [decide_eq_true q, Bool.or_true] at key
            exact key
      have go := echo (fr (l + 1) - fr l) (fr l) (by omega) (Nat.le_refl _)
      rw [Nat.sub_self, ro_e] at go
      refine w_X12_costOfRow_34 hs ⟨fun q => absurd q (by rw [fj.2 38 (by omega) (by omega) (by omega) (by omega), h38]; exact nI_ge (by omega) (by omega)), fun _ => ?_⟩
      obtain ⟨r1, r2, r3⟩ := hrw (fr l) (by omega)
      refine ⟨fun q => ⟨v7, ?_⟩, fun q => ⟨v7, ?_⟩⟩
      · have l0 : l = 0 := by
          have := (nI_leI (b := 0) (by omega) (by omega)).mp q
          omega
        have ea : ro_a (J 158) rw fr l = false := by unfold ro_a; rw [decide_eq_false (by omega), Bool.false_and]
        rw [ea] at go
        rw [nI_clamp (show l < 2 ^ 31 by omega), e178, a1]
        exact go
      · have l1 : 1 ≤ l := Nat.not_lt.mp fun z => q (nI_le (b := 0) (by omega) (by omega))
        obtain ⟨y, rfl⟩ : ∃ y, l = y + 1 := ⟨l - 1, by omega⟩
        obtain ⟨c1, c2⟩ := hfr y (by omega)
        have inc2 := hinc y (by omega)
        obtain ⟨s1, s2, s3⟩ := hrw (fr y) (by omega)
        have ey : nI (y + 1) - 1 = nI y := by rw [← nI_1, Int32.add_sub_cancel]
        have ea : ro_a (J 158) rw fr (y + 1) = decide (J 158 (53 + 13 * rw (fr (y + 1)) + 4) = J 158 (53 + 13 * rw (fr y) + 4)) := by unfold ro_a; rw [decide_eq_true (by omega), Bool.true_and, Nat.add_sub_cancel]
        rw [ea] at go
        rw [ey, nI_clamp (show y + 1 < 2 ^ 31 by omega), nI_clamp (show y < 2 ^ 31 by omega), e178, a1, c1, nI_clamp (show fr (y + 1) < 2 ^ 31 by omega), nI_clamp (show fr y < 2 ^ 31 by omega), e173, r1, s1, hf_wi4', hf_wi4', e158, nI_clamp (show 53 + 13 * rw (fr (y + 1)) + 4 < 2 ^ 31 by omega), nI_clamp (show 53 + 13 * rw (fr y) + 4 < 2 ^ 31 by omega)]
        refine ⟨vp_in_nI (by omega) (by omega), vp_in_nI (by omega) (by omega), vp_in_nI (by omega) (by omega), vp_in_nI (by omega) (by omega), vp_in_nI (by omega) (by omega), fun z => ⟨v7, ?_⟩, fun z => ⟨v7, ?_⟩⟩
        · rw [decide_eq_false z] at go
          exact go
        · rw [decide_eq_true z] at go
          exact go
  have places : ∀ f i, i + f = p → hf_G X Y_X12_costOfRow (d + 610) kk nn 4 [some (.ref 156), some (.int (ro_s ls rw i)), some (.int (nI i)), none, none, none] [] (t, T, J, L, P) Q := by
    intro f
    induction f with
    | zero =>
      intro i hi
      obtain rfl : i = p := by omega
      exact w_X12_costOfRow_4 hs ⟨fun _ => lines n 0 (by omega) J jm_rf, fun q => absurd (by rw [h317]; exact nI_le (Nat.le_refl _) (by omega)) q⟩
    | succ f ih =>
      intro i hi
      have key := ih (i + 1) (by omega)
      obtain ⟨r1, r2, r3⟩ := hrw i (by omega)
      refine w_X12_costOfRow_4 hs ⟨fun q => absurd q (by rw [h317]; exact nI_ge (by omega) (by omega)), fun _ => ?_⟩
      rw [nI_clamp (show i < 2 ^ 31 by omega), r1, nI_clamp (show rw i < 2 ^ 31 by omega), r3, nI_1]
      exact ⟨vp_in_nI (by omega) (by omega), vp_in_nI r2 (by omega), key⟩
  exact w_X12_costOfRow_0 hs (places p 0 (by omega))
end COST
