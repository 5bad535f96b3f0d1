/-! a new desk; an IMAGE is kept -/
section DINIT
variable {X : hf_X} {d k n t : Nat} {T : hf_T} {I : hf_I} {L : hf_L} {P : hf_P} {Q : Option Value → hf_M → Prop}
theorem cs_dloop {db : Nat} (hd : bk t T P db) (h : ∀ I', (∀ a, ¬ a = db + 1 → ¬ a = db + 2 → ¬ a = db + 12 → I' a = I a) → (∀ i, i < 26 → I' (db + 1) i = 10) → I' (db + 1) 26 = 5 → (∀ i, i < 8 → I' (db + 2) i = 1) → (∀ i, i < 4 → I' (db + 12) i = -1) → Q none (t, T, I', L, P)) : hf_G X Y_X1_init d k n 148 [some (.ref db), some (.int 0)] [] (t, T, I, L, P) Q := by
  have l3 : ∀ f m, m + f = 4 → ∀ I1 : hf_I, (∀ a, ¬ a = db + 1 → ¬ a = db + 2 → ¬ a = db + 12 → I1 a = I a) → (∀ i, i < 26 → I1 (db + 1) i = 10) → I1 (db + 1) 26 = 5 → (∀ i, i < 8 → I1 (db + 2) i = 1) → (∀ i, i < m → I1 (db + 12) i = -1) → hf_G X Y_X1_init d k n 199 [some (.ref db), some (.int (nI m))] [] (t, T, I1, L, P) Q := by
    intro f
    induction f with
    | zero =>
      intro m hm I1 f1 f2 f3 f4 f5
      obtain rfl : m = 4 := by omega
      exact w_X1_init_199_n hd ⟨fun _ => h I1 f1 f2 f3 f4 f5, fun q => absurd (show (4 : Int32) ≤ nI 4 by decide) q⟩
    | succ f ih =>
      intro m hm I1 f1 f2 f3 f4 f5
      refine w_X1_init_199_n hd ⟨fun q => absurd q (Int32.not_le.mpr (nI_lt (b := 4) (by omega) (by omega))), fun _ => ⟨vp_in_nI (by omega) (by omega), ?_⟩⟩
      rw [nI_clamp (by omega), nI_1]
      refine ih (m + 1) (by omega) _ (fun a a1 a2 a3 => by rw [hf_up_no a3]; exact f1 a a1 a2 a3) (fun i hi => by rw [hf_up_no (by omega)]; exact f2 i hi) (by rw [hf_up_no (by omega)]; exact f3) (fun i hi => by rw [hf_up_no (by omega)]; exact f4 i hi) (fun i hi => ?_)
      rw [hf_up_at]
      by_cases e : i = m
      · subst e; rw [hf_upd_eq]
      · rw [hf_upd_ne e]; exact f5 i (by omega)
  have l2 : ∀ f m, m + f = 8 → ∀ I1 : hf_I, (∀ a, ¬ a = db + 1 → ¬ a = db + 2 → ¬ a = db + 12 → I1 a = I a) → (∀ i, i < 26 → I1 (db + 1) i = 10) → I1 (db + 1) 26 = 5 → (∀ i, i < m → I1 (db + 2) i = 1) → hf_G X Y_X1_init d k n 178 [some (.ref db), some (.int (nI m))] [] (t, T, I1, L, P) Q := by
    intro f
    induction f with
    | zero =>
      intro m hm I1 f1 f2 f3 f4
      obtain rfl : m = 8 := by omega
      exact w_X1_init_178_n hd ⟨fun _ => l3 4 0 rfl I1 f1 f2 f3 f4 (fun i hi => by omega), fun q => absurd (show (8 : Int32) ≤ nI 8 by decide) q⟩
    | succ f ih =>
      intro m hm I1 f1 f2 f3 f4
      refine w_X1_init_178_n hd ⟨fun q => absurd q (Int32.not_le.mpr (nI_lt (b := 8) (by omega) (by omega))), fun _ => ⟨vp_in_nI (by omega) (by omega), ?_⟩⟩
      rw [nI_clamp (by omega), nI_1]
      refine ih (m + 1) (by omega) _ (fun a a1 a2 a3 => by rw [hf_up_no a2]; exact f1 a a1 a2 a3) (fun i hi => by rw [hf_up_no (by omega)]; exact f2 i hi) (by rw [hf_up_no (by omega)]; exact f3) (fun i hi => ?_)
      rw [hf_up_at]
      by_cases e : i = m
      · subst e; rw [hf_upd_eq]
      · rw [hf_upd_ne e]; exact f4 i (by omega)
  have l1 : ∀ f m, m + f = 26 → ∀ I1 : hf_I, (∀ a, ¬ a = db + 1 → ¬ a = db + 2 → ¬ a = db + 12 → I1 a = I a) → (∀ i, i < m → I1 (db + 1) i = 10) → hf_G X Y_X1_init d k n 148 [some (.ref db), some (.int (nI m))] [] (t, T, I1, L, P) Q := by
    intro f
    induction f with
    | zero =>
      intro m hm I1 f1 f2
      obtain rfl : m = 26 := by omega
      refine w_X1_init_148_n hd ⟨fun _ => l2 8 0 rfl _ (fun a a1 a2 a3 => by rw [hf_up_no a1]; exact f1 a a1 a2 a3) (fun i hi => by rw [hf_up_at, hf_upd_ne (by omega)]; exact f2 i hi) (by rw [hf_up_at, hf_upd_eq]) (fun i hi => by omega), fun q => absurd (show (26 : Int32) ≤ nI 26 by decide) q⟩
    | succ f ih =>
      intro m hm I1 f1 f2
      refine w_X1_init_148_n hd ⟨fun q => absurd q (Int32.not_le.mpr (nI_lt (b := 26) (by omega) (by omega))), fun _ => ⟨vp_in_nI (by omega) (by omega), ?_⟩⟩
      rw [nI_clamp (by omega), nI_1]
      refine ih (m + 1) (by omega) _ (fun a a1 a2 a3 => by rw [hf_up_no a1]; exact f1 a a1 a2 a3) (fun i hi => ?_)
      rw [hf_up_at]
      by_cases e : i = m
      · subst e; rw [hf_upd_eq]
      · rw [hf_upd_ne e]; exact f2 i (by omega)
  exact l1 26 0 rfl I (fun a _ _ _ => rfl) (fun i hi => by omega)
def di_P (db : Nat) (P : hf_P) : hf_P := (hf_upP (hf_upP (hf_upP (hf_upP (hf_upP (hf_upP (hf_upP (hf_upP (hf_upP (hf_upP (hf_upP (hf_upP (hf_upP (hf_upP (hf_upP (hf_upP (hf_upP (hf_upP (hf_upP P db 0 (some (db + 1))) db 1 (some (db + 2))) db 2 (some (db + 3))) (db + 4) 0 (some (db + 5))) (db + 4) 1 (some (db + 6))) (db + 4) 2 (some (db + 7))) (db + 4) 3 (some (db + 8))) (db + 4) 4 (some (db + 9))) db 3 (some (db + 4))) db 4 (some (db + 10))) db 5 (some (db + 11))) db 6 (some (db + 12))) (db + 13) 0 (some (db + 14))) (db + 13) 1 (some (db + 15))) db 7 (some (db + 13))) db 8 (some (db + 16))) db 9 (some (db + 17))) db 10 (some (db + 18))) db 11 (some (db + 19)))
def di_I (db : Nat) (I : hf_I) : hf_I := (hf_up (hf_up (hf_up (hf_up (hf_up (hf_up (hf_up (hf_up (hf_up (hf_up (hf_up I (db + 4) 5 0) (db + 13) 2 0) (db + 13) 3 0) db 12 100) db 13 3) db 14 0) db 15 0) db 16 (-1)) db 17 0) db 18 0) db 19 0)
theorem di_P_no {db a : Nat} {P : hf_P} (h0 : ¬ a = db) (h4 : ¬ a = db + 4) (h13 : ¬ a = db + 13) : di_P db P a = P a := by
  unfold di_P
  simp only [hf_upP_no h0, hf_upP_no h4, hf_upP_no h13]
theorem di_I_no {db a : Nat} {I : hf_I} (h0 : ¬ a = db) (h4 : ¬ a = db + 4) (h13 : ¬ a = db + 13) : di_I db I a = I a := by
  unfold di_I
  simp only [hf_up_no h0, hf_up_no h4, hf_up_no h13]
theorem di_P_bk {db : Nat} (hdb : db = 100 + t) (ht : ∀ j, j < 20 → T (db + j) = bs j) : bk (t + 20) T (di_P db P) db := by
  refine ⟨by omega, by omega, ht 0 (by decide), ht 1 (by decide), ht 2 (by decide), ht 3 (by decide), ht 4 (by decide), ht 5 (by decide), ht 6 (by decide), ht 7 (by decide), ht 8 (by decide), ht 9 (by decide), ht 10 (by decide), ht 11 (by decide), ht 12 (by decide), ht 13 (by decide), ht 14 (by decide), ht 15 (by decide), ht 16 (by decide), ht 17 (by decide), ht 18 (by decide), ht 19 (by decide), ?_, ?_, ?_, ?_, ?_, ?_, ?_, ?_, ?_, ?_, ?_, ?_, ?_, ?_, ?_, ?_, ?_, ?_, ?_⟩ <;> simp [di_P, hf_upP, va_up]
theorem cs_dinit {db : Nat} (hdb : db = 100 + t) (ht : ∀ j, j < 20 → T (db + j) = bs j) (hN : ∀ j, 1 ≤ j → j < 20 → jk_nw T I L P (db + j) (bs j)) (h : ∀ I', (∀ a, ¬ a = db + 1 → ¬ a = db + 2 → ¬ a = db + 12 → I' a = di_I db I a) → (∀ i, i < 26 → I' (db + 1) i = 10) → I' (db + 1) 26 = 5 → (∀ i, i < 8 → I' (db + 2) i = 1) → (∀ i, i < 4 → I' (db + 12) i = -1) → Q none (t + 20, T, I', L, di_P db P)) : hf_G X Y_X1_init (d + 2) 19 327 0 (hf_en [.ref db] 2) [] (t + 1, T, I, L, P) Q :=
  w_X1_init_0_n (t := t + 1) (by omega) (by omega) ht hN (cs_dloop (di_P_bk hdb ht) h)
end DINIT
