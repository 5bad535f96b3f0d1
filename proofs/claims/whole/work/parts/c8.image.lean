/-! image, related -/
section OPIMG
variable {X : hf_X} {d N t t' : Nat} {T T' : hf_T} {I : hf_I} {L L' : hf_L} {P P' : hf_P}
/-- an IMAGE has been kept -/
theorem sim_im {e x : Nat} {M : hf_I} (hN : N ≤ 100000) (x2 : x < 2) (h : hf_Sim hf_SL hf_CC N t T I L P) (ht : t ≤ t') (hT : ∀ a, a < 100 + t → T' a = T a) (hL : L' 136 = L 136) (hb : bk t' T' P' (181 + e)) (p1 : P' 121 x = some (181 + e)) (p2 : ∀ k, k < 2 → ¬ k = x → P' 121 k = P 121 k) (p3 : ∀ a, a < 100 + t → ¬ a = 121 → ¬ a = 181 + (e + 10) → P' a = P a) (p4 : ∀ i, i < 6 → P' (181 + (e + 10)) i = P 111 i)
    (dt : ∀ tx, 181 + tx + 7 ≤ 100 + t → (∀ e', sl_E P e' → tx + 7 ≤ e' ∨ e' + 20 ≤ tx) → tx + 7 ≤ e ∨ e + 20 ≤ tx) (de : ∀ k, k < 2 → ¬ k = x → ∀ e', P 121 k = some (181 + e') → sl_blk t T P e' → e' + 20 ≤ e ∨ e + 20 ≤ e')
    (mo : ∀ a, a < 100 + t → ¬ (181 + e ≤ a ∧ a < 181 + e + 20) → ¬ a = 100 → ¬ a = 156 → ¬ a = 159 → ¬ a = 160 → M a = I a) (mi : ∀ j i, j < 20 → tf_c tf_all j i = true → M (181 + (e + j)) i = I (101 + j) i) (m100 : M 100 = upd (upd (I 100) 15 0) 16 (I 100 16 + 1)) (m156 : M 156 = upd (I 156) 0 0) (m159 : ∀ j, j < 5929 → M 159 (5929 * x + j) = I 158 j) (m159' : ∀ k, k < 2 → ¬ k = x → ∀ j, j < 5929 → M 159 (5929 * k + j) = I 159 (5929 * k + j)) (m160 : M 160 x = 1) (m160' : ∀ k, k < 2 → ¬ k = x → M 160 k = I 160 k) : hf_Sim hf_SL hf_CC (N + 1) t' T' M L' P' := by
  obtain ⟨hs, hSM, hSO, hct, hcc, hsl⟩ := h
  have h81 := hs.1
  have c1 := S_ct_1 hN hct
  have q : ∀ a, a < 181 → ¬ a = 100 → ¬ a = 156 → ¬ a = 159 → ¬ a = 160 → M a = I a := fun a a0 a1 a2 a3 a4 => mo a (by omega) (by omega) a1 a2 a3 a4
  have q0 : ∀ j, ¬ j = 15 → ¬ j = 16 → M 100 j = I 100 j := fun j j1 j2 => by rw [m100, hf_upd_ne j2, hf_upd_ne j1]
  have q6 : ∀ j, ¬ j = 0 → M 156 j = I 156 j := fun j j2 => by rw [m156, hf_upd_ne j2]
  have e17 : M 100 16 = I 100 16 + 1 := by rw [m100, hf_upd_eq]
  have e15 : M 136 15 = I 136 15 := by rw [q 136 (by omega) (by omega) (by omega) (by omega) (by omega)]
  have hSD : hf_SM M := by
    unfold hf_SM
    rw [q 101 (by omega) (by omega) (by omega) (by omega) (by omega), q 102 (by omega) (by omega) (by omega) (by omega) (by omega), q 103 (by omega) (by omega) (by omega) (by omega) (by omega), q 104 (by omega) (by omega) (by omega) (by omega) (by omega), q 105 (by omega) (by omega) (by omega) (by omega) (by omega), q 106 (by omega) (by omega) (by omega) (by omega) (by omega), q 107 (by omega) (by omega) (by omega) (by omega) (by omega), q 108 (by omega) (by omega) (by omega) (by omega) (by omega), q 109 (by omega) (by omega) (by omega) (by omega) (by omega), q 110 (by omega) (by omega) (by omega) (by omega) (by omega), q 112 (by omega) (by omega) (by omega) (by omega) (by omega), q 113 (by omega) (by omega) (by omega) (by omega) (by omega), q 114 (by omega) (by omega) (by omega) (by omega) (by omega), q 115 (by omega) (by omega) (by omega) (by omega) (by omega), q 116 (by omega) (by omega) (by omega) (by omega) (by omega), q 117 (by omega) (by omega) (by omega) (by omega) (by omega), q 118 (by omega) (by omega) (by omega) (by omega) (by omega), q 119 (by omega) (by omega) (by omega) (by omega) (by omega), q 120 (by omega) (by omega) (by omega) (by omega) (by omega), q 158 (by omega) (by omega) (by omega) (by omega) (by omega)]
    exact hSM
  refine ⟨lay_cg hs ht (fun a ha => hT a (by omega)) (fun a ha h1 h2 => p3 a (by omega) h2 (by omega)), hSD, ?_, ?_, fun z => absurd (e15.symm.trans (z.trans e17)) c1.2, ?_⟩
  · obtain ⟨u1, u2, u3, u4, u5, u6, u7, u8⟩ := hSO
    refine ⟨?_, ?_, ?_, ?_, ?_, ?_, ?_, ?_⟩
    · rw [q 105 (by omega) (by omega) (by omega) (by omega) (by omega), q 148 (by omega) (by omega) (by omega) (by omega) (by omega), q 149 (by omega) (by omega) (by omega) (by omega) (by omega), q6 27 (by omega), q 169 (by omega) (by omega) (by omega) (by omega) (by omega)]
      exact u1
    · rw [q0 13 (by omega) (by omega), q6 10 (by omega), q 122 (by omega) (by omega) (by omega) (by omega) (by omega), q 163 (by omega) (by omega) (by omega) (by omega) (by omega)]
      exact u2
    · rw [q 123 (by omega) (by omega) (by omega) (by omega) (by omega), q6 11 (by omega)]
      exact u3
    · rw [q0 14 (by omega) (by omega), q6 41 (by omega)]
      exact u4
    · rw [m100, m156, hf_upd_ne (by omega), hf_upd_eq, hf_upd_eq]
    · rw [q 155 (by omega) (by omega) (by omega) (by omega) (by omega), q 157 (by omega) (by omega) (by omega) (by omega) (by omega)]
      exact u6
    · rw [q 146 (by omega) (by omega) (by omega) (by omega) (by omega), q 147 (by omega) (by omega) (by omega) (by omega) (by omega), q6 49 (by omega), q 180 (by omega) (by omega) (by omega) (by omega) (by omega)]
      exact u7
    · rw [q 162 (by omega) (by omega) (by omega) (by omega) (by omega)]
      exact u8
  · rw [e17, e15]
    exact c1.1
  · have hE : ∀ e', sl_E P' e' → e' = e ∨ (sl_E P e' ∧ (∃ k, k < 2 ∧ ¬ k = x ∧ P 121 k = some (181 + e'))) := by
      intro e' he
      rcases he with he | he
      · by_cases hx : x = 0
        · subst hx
          rw [p1] at he
          injection he with he
          exact Or.inl (by omega)
        · rw [p2 0 (by omega) (by omega)] at he
          exact Or.inr ⟨Or.inl he, 0, by omega, by omega, he⟩
      · by_cases hx : x = 1
        · subst hx
          rw [p1] at he
          injection he with he
          exact Or.inl (by omega)
        · rw [p2 1 (by omega) (by omega)] at he
          exact Or.inr ⟨Or.inr he, 1, by omega, by omega, he⟩
    have hX : ∀ tx, 181 + tx + 7 ≤ 100 + t → (∀ e, sl_E P e → tx + 7 ≤ e ∨ e + 20 ≤ tx) → (∀ e', sl_E P' e' → tx + 7 ≤ e' ∨ e' + 20 ≤ tx) ∧ ∀ j, j < 7 → P' (181 + (tx + j)) = P (181 + (tx + j)) ∧ (fun a => M (181 + a)) (tx + j) = (fun a => I (181 + a)) (tx + j) := by
      intro tx h1 h2
      have h3 := dt tx h1 h2
      refine ⟨fun e' he => ?_, fun j hj => ⟨p3 _ (by omega) (by omega) (by omega), mo _ (by omega) (by omega) (by omega) (by omega) (by omega) (by omega)⟩⟩
      rcases hE e' he with rfl | ⟨he, -⟩
      · exact h3
      · exact h2 e' he
    obtain ⟨s1, s2, s3⟩ := hsl
    have l15 : M 101 15 = I 101 15 := by rw [q 101 (by omega) (by omega) (by omega) (by omega) (by omega)]
    have e158 : M 158 = I 158 := q 158 (by omega) (by omega) (by omega) (by omega) (by omega)
    refine ⟨?_, fun k hk => ?_, fun e0 e1 g0 g1 => ?_⟩
    · rw [l15, e158]
      exact sl_law_cg ht s1 rfl (fun i _ => congrFun (p3 111 (by omega) (by omega) (by omega)) i) hT kp_rf hX
    · by_cases hkx : k = x
      · subst hkx
        refine Or.inr ⟨e, p1, m160, blk_bk hb, ?_, ?_⟩
        · have := SD_tf (F := fun j => I (101 + j)) (G := fun j => M (181 + (e + j))) (kp := I 158) mi hSM
          exact SD_kq this (fun j hj => m159 j (by omega))
        · refine sl_law_cg ht s1 (mi 0 15 (by omega) (by decide)) p4 hT ⟨fun i hi => m159 _ (by omega), fun i k' hi hk' => ⟨m159 _ (by omega), m159 _ (by omega)⟩⟩ hX
      · rcases s2 k hk with ⟨a1, a2⟩ | ⟨e', a1, a2, a3⟩
        · exact Or.inl ⟨(p2 k hk hkx).trans a1, (m160' k hk hkx).trans a2⟩
        · have dj := de k hk hkx e' a1 a3.1
          have rg := a3.1.1
          have a3' : sl_im t' T' P' (fun a => M (181 + a)) e' (fun j => I 159 (5929 * k + j)) := sl_im_cg ht a3 rfl hT (fun j hj => ⟨p3 _ (by omega) (by omega) (by omega), mo _ (by omega) (by omega) (by omega) (by omega) (by omega) (by omega)⟩) hX
          refine Or.inr ⟨e', (p2 k hk hkx).trans a1, (m160' k hk hkx).trans a2, a3'.1, SD_kq a3'.2.1 (fun j hj => m159' k hk hkx j (by omega)), ?_⟩
          refine sl_law_cg (Nat.le_refl _) a3'.2.2 rfl (fun _ _ => rfl) (fun _ _ => rfl) ⟨fun i hi => m159' k hk hkx _ (by omega), fun i k' hi hk' => ⟨m159' k hk hkx _ (by omega), m159' k hk hkx _ (by omega)⟩⟩ (fun tx _ hh => ⟨hh, fun j _ => ⟨rfl, rfl⟩⟩)
    · have blk : ∀ k, k < 2 → ∀ e', P 121 k = some (181 + e') → sl_blk t T P e' := by
        intro k hk e' he
        rcases s2 k hk with ⟨a1, a2⟩ | ⟨e'', a1, a2, a3⟩
        · rw [a1] at he
          cases he
        · rw [a1] at he
          injection he with he
          obtain rfl : e'' = e' := by omega
          exact a3.1
      rcases (show x = 0 ∨ x = 1 by omega) with rfl | rfl
      · rw [p1] at g0
        injection g0 with g0
        obtain rfl : e = e0 := by omega
        rw [p2 1 (by omega) (by omega)] at g1
        have := de 1 (by omega) (by omega) e1 g1 (blk 1 (by omega) e1 g1)
        omega
      · rw [p1] at g1
        injection g1 with g1
        obtain rfl : e = e1 := by omega
        rw [p2 0 (by omega) (by omega)] at g0
        have := de 0 (by omega) (by omega) e0 g0 (blk 0 (by omega) e0 g0)
        omega
end OPIMG
