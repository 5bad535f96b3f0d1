/-! what SETTINGS are told, by the class -/
def sf (I : hf_I) (c w : Nat) (dn : Int32) (j : Nat) : Int32 := if j = 0 then I 114 2 else if j = 1 then I 114 3 else if j = 2 then I 101 12 - hl_w (I 102) (I 109) (I 110) (I 115) (I 116) (I 101 14) (I 114 3) c else if j = 3 then dn else if j = 4 then I 101 14 else if j < 21 then (if j - 5 < w then hf_wd (I 102) (I 101 14) (I 109 (j - 5)) (fun q => I 110 (9 * (j - 5) + q)) else -1) else (if j - 21 < w then I 106 (j - 21) else -1)
section FACTS
variable {X : hf_X} {d kk nn t : Nat} {T : hf_T} {I : hf_I} {L : hf_L} {P : hf_P} {Q : Option Value → hf_M → Prop}
theorem cs_tellFacts {c w : Nat} {dn : Int32} (hs : hf_Lay t T P) (hc : c ≤ 12) (h2 : I 114 2 = nI c) (hw : ∀ j, j < c → ∃ i, i < 16 ∧ I 115 j = nI i ∧ hf_wok (I 109 i) (fun q => I 110 (9 * i + q))) (w16 : w ≤ 16) (h5 : I 105 5 = nI w) (hok : ∀ i, i < w → hf_wok (I 109 i) (fun q => I 110 (9 * i + q)))
    (h : ∀ I', (∀ a, ¬ a = 133 → I' a = I a) → (∀ j, j < 37 → I' 133 j = sf I c w dn j) → Q none (t, T, I', L, P)) :
    hf_G X Y_X11_tellFacts (d + 3) kk nn 0 (hf_en [.ref 100, .int dn] 5) [] (t, T, I, L, P) Q := by
  have s5 : ∀ k, k < 16 → sf I c w dn (5 + k) = if k < w then hf_wd (I 102) (I 101 14) (I 109 k) (fun q => I 110 (9 * k + q)) else -1 := by
    intro k hk
    unfold sf
    rw [if_neg (by omega), if_neg (by omega), if_neg (by omega), if_neg (by omega), if_neg (by omega), if_pos (by omega), show 5 + k - 5 = k by omega]
  have s21 : ∀ k, k < 16 → sf I c w dn (21 + k) = if k < w then I 106 k else -1 := by
    intro k hk
    unfold sf
    rw [if_neg (by omega), if_neg (by omega), if_neg (by omega), if_neg (by omega), if_neg (by omega), if_neg (by omega), show 21 + k - 21 = k by omega]
  have loop : ∀ f i, i + f = 16 → ∀ I1, (∀ a, ¬ a = 133 → I1 a = I a) → (∀ j, j < 5 → I1 133 j = sf I c w dn j) → (∀ k, k < i → I1 133 (5 + k) = sf I c w dn (5 + k) ∧ I1 133 (21 + k) = sf I c w dn (21 + k)) → hf_G X Y_X11_tellFacts (d + 3) kk nn 78 [some (.ref 100), none, some (.ref 133), some (.int (nI i)), none] [] (t, T, I1, L, P) Q := by
    intro f
    induction f with
    | zero =>
      intro i hi I1 fr lo up
      obtain rfl : i = 16 := by omega
      refine w_X11_tellFacts_78 (d := d + 2) hs ⟨fun _ => h I1 fr fun j hj => ?_, fun z => absurd (Int32.le_refl _) z⟩
      rcases Nat.lt_or_ge j 5 with q | q
      · exact lo j q
      · rcases Nat.lt_or_ge j 21 with z | z
        · have := (up (j - 5) (by omega)).1
          rw [show 5 + (j - 5) = j by omega] at this
          exact this
        · have := (up (j - 21) (by omega)).2
          rw [show 21 + (j - 21) = j by omega] at this
          exact this
    | succ f ih =>
      intro i hi I1 fr lo up
      have e105 : I1 105 = I 105 := fr 105 (by omega)
      -- both are written
      have wr : ∀ (a b : Int32), a = sf I c w dn (5 + i) → b = sf I c w dn (21 + i) → hf_G X Y_X11_tellFacts (d + 3) kk nn 78 [some (.ref 100), none, some (.ref 133), some (.int (nI i + 1)), none] [] (t, T, hf_up (hf_up I1 133 (5 + i) a) 133 (21 + i) b, L, P) Q := by
        intro a b ha hb
        rw [nI_1]
        have e133 : hf_up (hf_up I1 133 (5 + i) a) 133 (21 + i) b 133 = upd (upd (I1 133) (5 + i) a) (21 + i) b := by rw [hf_up_at, hf_up_at]
        refine ih (i + 1) (by omega) _ (fun a' ha' => by rw [hf_up_no ha', hf_up_no ha']; exact fr a' ha') (fun j hj => ?_) fun k hk => ⟨?_, ?_⟩
        · rw [e133, hf_upd_ne (by omega), hf_upd_ne (by omega)]; exact lo j hj
        · rw [e133, hf_upd_ne (by omega)]
          by_cases e : k = i
          · subst e; rw [hf_upd_eq]; exact ha
          · rw [hf_upd_ne (by omega)]; exact (up k (by omega)).1
        · rw [e133]
          by_cases e : k = i
          · subst e; rw [hf_upd_eq]; exact hb
          · rw [hf_upd_ne (by omega), hf_upd_ne (by omega)]; exact (up k (by omega)).2
      have e5 : (5 : Int32) + nI i = nI (5 + i) := nI_add 5 i
      have e21 : (21 : Int32) + nI i = nI (21 + i) := nI_add 21 i
      refine w_X11_tellFacts_78 (d := d + 2) hs ⟨fun z => absurd z (nI_ge (b := 16) (by omega) (by omega)), fun _ => ⟨fun z => absurd z (nI_pos (by omega)), fun _ => ?_⟩⟩
      rw [e105, h5, e5, e21, nI_clamp (show 5 + i < 2 ^ 31 by omega), nI_clamp (show 21 + i < 2 ^ 31 by omega)]
      refine ⟨fun z => ⟨vp_in_nI (by omega) (by omega), vp_in_nI (by omega) (by omega), ?_⟩, fun z => ?_⟩
      · have z' := (nI_leI (by omega) (by omega)).mp z
        exact wr (-1) (-1) (by rw [s5 i (by omega), if_neg (by omega)]) (by rw [s21 i (by omega), if_neg (by omega)])
      · have z' : i < w := Nat.not_le.mp fun q => z (nI_le q (by omega))
        refine sp_X1_wordWidth (d := d + 1) hs (by omega) (by rw [fr 109 (by omega), fr 110 (by omega)]; exact hok i z') (w_X11_tellFacts_121 hs ?_)
        rw [nI_clamp (show 5 + i < 2 ^ 31 by omega), e21, nI_clamp (show 21 + i < 2 ^ 31 by omega), nI_clamp (show i < 2 ^ 31 by omega)]
        refine ⟨vp_in_nI (by omega) (by omega), fun q => absurd q (by decide), fun _ => ⟨vp_in_nI (by omega) (by omega), vp_in_nI (by omega) (by omega), ?_⟩⟩
        refine wr _ _ ?_ ?_
        · rw [s5 i (by omega), if_pos z', fr 109 (by omega), fr 110 (by omega), fr 102 (by omega), fr 101 (by omega)]
        · rw [s21 i (by omega), if_pos z', fr 106 (by omega)]
  refine w_X11_tellFacts_0 (d := d + 2) hs ?_
  have fo : ∀ a, ¬ a = 133 → hf_up (hf_up I 133 0 (I 114 2)) 133 1 (I 114 3) a = I a := fun a ha => by rw [hf_up_no ha, hf_up_no ha]
  refine sp_X1_lineWidth (d := d) (c := c) hs hc (by rw [fo 114 (by omega)]; exact h2) (by rw [fo 115 (by omega), fo 109 (by omega), fo 110 (by omega)]; exact hw) (w_X11_tellFacts_60 hs ⟨vp_in_nI (n := 2) (by omega) (by omega), ?_⟩)
  rw [fo 102 (by omega), fo 101 (by omega), fo 109 (by omega), fo 110 (by omega), fo 115 (by omega), fo 116 (by omega)]
  refine loop 16 0 (by omega) _ (fun a ha => by rw [hf_up_no ha, hf_up_no ha, hf_up_no ha]; exact fo a ha) (fun j hj => ?_) (fun k hk => by omega)
  rcases (show j = 0 ∨ j = 1 ∨ j = 2 ∨ j = 3 ∨ j = 4 by omega) with rfl | rfl | rfl | rfl | rfl <;> rfl
end FACTS
