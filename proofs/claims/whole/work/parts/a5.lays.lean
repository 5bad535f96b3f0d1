/-! TOKENS laid down, by the model -/
section LAYS
variable {X : hf_X} {d kk nn t : Nat} {T : hf_T} {I : hf_I} {L : hf_L} {P : hf_P} {Q : Option Value → hf_M → Prop}
theorem ms_lays {i m : Nat} (hs : hf_Lay t T P) (hi : i ≤ 6) (hm : m ≤ 400) (h15 : I 156 15 = nI m)
    (h : ∀ I', (∀ a, ¬ a = 158 → I' a = I a) → I' 158 (322 + i) = nI m → (∀ k, k < m → I' 158 (329 + 400 * i + k) = I 165 k ∧ I' 158 (3129 + 400 * i + k) = I 166 k) → (∀ j, ¬ j = 322 + i → (j < 329 + 400 * i ∨ 329 + 400 * i + m ≤ j) → (j < 3129 + 400 * i ∨ 3129 + 400 * i + m ≤ j) → I' 158 j = I 158 j) → Q none (t, T, I', L, P)) :
    hf_G X Y_X12_lays d kk nn 0 (hf_en [.ref 156, .int (nI i)] 3) [] (t, T, I, L, P) Q := by
  have loop : ∀ f k, k + f = m → ∀ I1, (∀ a, ¬ a = 158 → I1 a = I a) → I1 158 (322 + i) = nI m → (∀ q, q < k → I1 158 (329 + 400 * i + q) = I 165 q ∧ I1 158 (3129 + 400 * i + q) = I 166 q) → (∀ j, ¬ j = 322 + i → (j < 329 + 400 * i ∨ 329 + 400 * i + m ≤ j) → (j < 3129 + 400 * i ∨ 3129 + 400 * i + m ≤ j) → I1 158 j = I 158 j) → hf_G X Y_X12_lays d kk nn 16 [some (.ref 156), some (.int (nI i)), some (.int (nI k))] [] (t, T, I1, L, P) Q := by
    intro f
    induction f with
    | zero =>
      intro k hk I1 f1 f2 f3 f4
      obtain rfl : k = m := by omega
      exact w_X12_lays_16 hs ⟨fun _ => h I1 f1 f2 f3 f4, fun z => absurd (by rw [f1 156 (by omega), h15]; exact Int32.le_refl _) z⟩
    | succ f ih =>
      intro k hk I1 f1 f2 f3 f4
      have e1 : (329 : Int32) + 400 * nI i + nI k = nI (329 + 400 * i + k) := by rw [show (400 : Int32) = nI 400 from rfl, pk_mul, show (329 : Int32) = nI 329 from rfl, nI_add, nI_add]
      have e2 : (3129 : Int32) + 400 * nI i + nI k = nI (3129 + 400 * i + k) := by rw [show (400 : Int32) = nI 400 from rfl, pk_mul, show (3129 : Int32) = nI 3129 from rfl, nI_add, nI_add]
      refine w_X12_lays_16 hs ⟨fun z => absurd z (by rw [f1 156 (by omega), h15]; exact nI_ge (by omega) (by omega)), fun _ => ?_⟩
      rw [e1, e2, nI_clamp (show k < 2 ^ 31 by omega), nI_clamp (show 329 + 400 * i + k < 2 ^ 31 by omega), nI_clamp (show 3129 + 400 * i + k < 2 ^ 31 by omega), nI_1, f1 165 (by omega), f1 166 (by omega)]
      refine ⟨vp_in_nI (by omega) (by omega), vp_in_nI (by omega) (by omega), vp_in_nI (by omega) (by omega), vp_in_nI (by omega) (by omega), ?_⟩
      have e158 : hf_up (hf_up I1 158 (329 + 400 * i + k) (I 165 k)) 158 (3129 + 400 * i + k) (I 166 k) 158 = upd (upd (I1 158) (329 + 400 * i + k) (I 165 k)) (3129 + 400 * i + k) (I 166 k) := by rw [hf_up_at, hf_up_at]
      refine ih (k + 1) (by omega) _ (fun a ha => by rw [hf_up_no ha, hf_up_no ha]; exact f1 a ha) ?_ (fun q hq => ⟨?_, ?_⟩) (fun j j1 j2 j3 => ?_)
      · rw [e158, hf_upd_ne (by omega), hf_upd_ne (by omega)]; exact f2
      · rw [e158, hf_upd_ne (by omega)]
        by_cases e : q = k
        · subst e; rw [hf_upd_eq]
        · rw [hf_upd_ne (by omega)]; exact (f3 q (by omega)).1
      · rw [e158]
        by_cases e : q = k
        · subst e; rw [hf_upd_eq]
        · rw [hf_upd_ne (by omega), hf_upd_ne (by omega)]; exact (f3 q (by omega)).2
      · rw [e158, hf_upd_ne (by omega), hf_upd_ne (by omega)]; exact f4 j j1 j2 j3
  have e0 : (322 : Int32) + nI i = nI (322 + i) := by rw [show (322 : Int32) = nI 322 from rfl, nI_add]
  refine w_X12_lays_0 hs ?_
  rw [e0, nI_clamp (show 322 + i < 2 ^ 31 by omega), h15]
  refine ⟨vp_in_nI (by omega) (by omega), loop m 0 (by omega) _ (fun a ha => hf_up_no ha) (by rw [hf_up_at, hf_upd_eq]) (fun q hq => by omega) (fun j j1 _ _ => by rw [hf_up_at, hf_upd_ne j1])⟩
end LAYS
