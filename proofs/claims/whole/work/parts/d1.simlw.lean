/-! one LAW more -/
section SIMLW
variable {X : hf_X} {d N t : Nat} {T T' : hf_T} {I M : hf_I} {L L' : hf_L} {P P' : hf_P}
theorem kp_tk_1 {K K' : Nat → Int32} {i : Nat} {c v : Nat → Nat} {m : Nat} (h0 : K' i = K i) (h1 : ∀ k, k < 400 → K' (7 + 400 * i + k) = K (7 + 400 * i + k) ∧ K' (2807 + 400 * i + k) = K (2807 + 400 * i + k)) (h : kp_tk K i c v m) : kp_tk K' i c v m := by
  obtain ⟨a, b, c1, d1⟩ := h
  refine ⟨a, b, h0.trans c1, fun k hk => ?_⟩
  rw [(h1 k (by omega)).1, (h1 k (by omega)).2]
  exact d1 k hk
theorem tx_mv {tx c0 c1 c2 c3 c4 c5 ux e0 e1 e2 e3 e4 e5 : Nat} {cls : List gr_c1} {I J : hf_I} (h : tx_st tx c0 c1 c2 c3 c4 c5 cls I) (h6 : J ux 6 = I tx 6) (h7 : J ux 7 = I tx 7) (g0 : ∀ i, i < 2 * (cl_cd cls).length → J e0 i = I c0 i) (g : ∀ i, i < cls.length → J e1 i = I c1 i ∧ J e2 i = I c2 i ∧ J e3 i = I c3 i ∧ J e4 i = I c4 i ∧ J e5 i = I c5 i) : tx_st ux e0 e1 e2 e3 e4 e5 cls J := by
  obtain ⟨a1, a2, a3, a4⟩ := h
  refine ⟨h6.trans a1, h7.trans a2, fun j hj => ?_, fun i q hq => ?_⟩
  · rw [g0 _ (by omega), g0 _ (by omega)]
    exact a3 j hj
  · have hi : i < cls.length := by
      rcases Nat.lt_or_ge i cls.length with z | z
      · exact z
      · rw [List.getElem?_eq_none z] at hq
        cases hq
    obtain ⟨b1, b2, b3, b4, b5⟩ := g i hi
    rw [b1, b2, b3, b4, b5]
    exact a4 i q hq
theorem sim_lw {e n m : Nat} {c v : Nat → Nat} (hN : N ≤ 100000) (h : hf_Sim hf_SL hf_CC N t T I L P) (n6 : n < 6) (hn : I 101 15 = nI n) (he : 181 + e = 100 + t) (hT : ∀ a, a < 100 + t → T' a = T a)
    (p3 : ∀ a, a < 100 + t → ¬ a = 111 → ¬ a = 123 → P' a = P a) (p4 : ∀ i, i < 6 → ¬ i = n → P' 111 i = P 111 i) (p5 : P' 111 n = some (181 + e)) (hlay : hf_Lay (t + 7) T' P')
    (m4 : m ≤ 400) (hc0 : ∀ j, m ≤ j → c j = 0) (hcb : ∀ k, c k < 1000) (hvb : ∀ k, v k < 100000000) (hg : (gr_al false c v m 12 0 0).1 = 2) (htx : sl_tx (t + 7) T' P' (fun a => M (181 + a)) e (gr_al false c v m 12 0 0).2.2)
    (mo : ∀ a, a < 100 + t → ¬ a = 100 → ¬ a = 101 → ¬ (123 ≤ a ∧ a ≤ 130) → ¬ a = 156 → ¬ a = 158 → ¬ (165 ≤ a ∧ a ≤ 167) → M a = I a)
    (m101 : M 101 = upd (I 101) 15 (nI (n + 1))) (e13 : M 100 13 = 0) (e14 : M 123 1 = -1) (e15 : M 100 14 = I 100 14) (e16 : M 100 15 = 0) (e17 : M 100 16 = I 100 16 + 1)
    (f0 : M 156 0 = 0) (f10 : M 156 10 = 0) (f11 : M 156 11 = -1) (f27 : M 156 27 = I 156 27) (f41 : M 156 41 = I 156 41) (f49 : M 156 49 = I 156 49)
    (k320 : M 158 320 = nI (n + 1)) (kn : M 158 (322 + n) = nI m) (kt : ∀ k, k < m → M 158 (329 + 400 * n + k) = nI (c k) ∧ M 158 (3129 + 400 * n + k) = nI (v k)) (ko : ∀ j, ¬ j = 320 → ¬ j = 322 + n → (j < 329 + 400 * n ∨ 329 + 400 * n + m ≤ j) → (j < 3129 + 400 * n ∨ 3129 + 400 * n + m ≤ j) → M 158 j = I 158 j) : hf_Sim hf_SL hf_CC (N + 1) (t + 7) T' M L' P' := by
  obtain ⟨hs, hSM, hSO, hct, hcc, hsl⟩ := h
  have h81 := hs.1
  have c1 := S_ct_1 hN hct
  have q : ∀ a, a < 181 → ¬ a = 100 → ¬ a = 101 → ¬ (123 ≤ a ∧ a ≤ 130) → ¬ a = 156 → ¬ a = 158 → ¬ (165 ≤ a ∧ a ≤ 167) → M a = I a := fun a a0 => mo a (by omega)
  have qd : ∀ a, 102 ≤ a → a ≤ 122 → M a = I a := fun a a1 a2 => q a (by omega) (by omega) (by omega) (by omega) (by omega) (by omega) (by omega)
  have qm : ∀ a, 131 ≤ a → a < 181 → ¬ a = 156 → ¬ a = 158 → ¬ (165 ≤ a ∧ a ≤ 167) → M a = I a := fun a a1 a2 a3 a4 a5 => q a (by omega) (by omega) (by omega) (by omega) a3 a4 a5
  have eD : ∀ j, ¬ j = 15 → M 101 j = I 101 j := fun j hj => by rw [m101, hf_upd_ne hj]
  have eD15 : M 101 15 = nI (n + 1) := by rw [m101, hf_upd_eq]
  have s136 : M 136 15 = I 136 15 := by rw [qm 136 (by omega) (by omega) (by omega) (by omega) (by omega)]
  have hk : ∀ j, j < 320 → M 158 j = I 158 j := fun j hj => ko j (by omega) (by omega) (by omega) (by omega)
  refine ⟨hlay, ?_, ?_, ?_, fun z => absurd (s136.symm.trans (z.trans e17)) c1.2, ?_⟩
  · obtain ⟨b1, b2, b3, b4, b5, b6, b7, b8, b9, b10⟩ := hSM
    unfold hf_SM
    rw [qd 102 (by omega) (by omega), qd 103 (by omega) (by omega), qd 104 (by omega) (by omega), qd 105 (by omega) (by omega), qd 106 (by omega) (by omega), qd 107 (by omega) (by omega), qd 108 (by omega) (by omega), qd 109 (by omega) (by omega), qd 110 (by omega) (by omega), qd 112 (by omega) (by omega), qd 113 (by omega) (by omega), qd 114 (by omega) (by omega), qd 115 (by omega) (by omega), qd 116 (by omega) (by omega), qd 117 (by omega) (by omega), qd 118 (by omega) (by omega), qd 119 (by omega) (by omega), qd 120 (by omega) (by omega)]
    refine ⟨S_br_fr (fun i _ _ => hk i (by omega)) b1, S_wo_fr (fun i _ _ => hk i (by omega)) b2, ?_, S_wd_fr (fun i _ _ => hk i (by omega)) (hk 316 (by omega)) b4, ?_, S_nx_fr (fun i _ _ => hk i (by omega)) b6, S_h1_fr (fun i _ => hk i (by omega)) b7, ?_, ?_, ?_⟩
    · have := S_tm_fr (kq := M 158) (fun i _ _ => hk i (by omega)) b3
      unfold S_tm
      rw [eD 12 (by omega), eD 13 (by omega), eD 14 (by omega)]
      exact this
    · have := S_sy_fr (kq := M 158) (fun i _ _ => hk i (by omega)) (hk 317 (by omega)) b5
      unfold S_sy
      rw [eD 17 (by omega)]
      exact this
    · have := S_se_fr (kq := M 158) (fun i _ _ => hk i (by omega)) (hk 318 (by omega)) b8
      unfold S_se
      rw [eD 18 (by omega)]
      exact this
    · have := S_ma_fr (kq := M 158) (fun i _ _ => hk i (by omega)) (hk 319 (by omega)) b9
      unfold S_ma
      rw [eD 19 (by omega)]
      exact this
    · obtain ⟨w, g1, g2, g3, g4, g5, g6⟩ := b10
      obtain rfl : w = n := (nI_eq (by omega) (by omega)).mp (g2.symm.trans hn)
      refine ⟨w + 1, by omega, eD15, k320, ?_, ?_, ?_⟩
      · rw [eD 16 (by omega), ko 321 (by omega) (by omega) (by omega) (by omega)]
        exact g4
      · rw [eD 16 (by omega)]; exact g5
      · rw [eD 16 (by omega)]
        exact Int32.lt_trans g6 (nI_lt (by omega) (by omega))
  · obtain ⟨u1, u2, u3, u4, u5, u6, u7, u8⟩ := hSO
    refine ⟨?_, ⟨0, by omega, e13, f10, fun j hj => absurd hj (by omega)⟩, e14.trans f11.symm, e15.trans (u4.trans f41.symm), e16.trans f0.symm, ?_, ?_, ?_⟩
    · rw [qd 105 (by omega) (by omega), qm 148 (by omega) (by omega) (by omega) (by omega) (by omega), qm 149 (by omega) (by omega) (by omega) (by omega) (by omega), f27, qm 169 (by omega) (by omega) (by omega) (by omega) (by omega)]
      exact u1
    · rw [qm 155 (by omega) (by omega) (by omega) (by omega) (by omega), qm 157 (by omega) (by omega) (by omega) (by omega) (by omega)]
      exact u6
    · rw [qm 146 (by omega) (by omega) (by omega) (by omega) (by omega), qm 147 (by omega) (by omega) (by omega) (by omega) (by omega), f49, qm 180 (by omega) (by omega) (by omega) (by omega) (by omega)]
      exact u7
    · rw [qm 162 (by omega) (by omega) (by omega) (by omega) (by omega)]
      exact u8
  · rw [e17, s136]
    exact c1.1
  · have p121 : P' 121 = P 121 := p3 121 (by omega) (by omega) (by omega)
    have hE : ∀ e', sl_E P' e' → sl_E P e' := fun e' he' => by
      unfold sl_E at he'
      rw [p121] at he'
      exact he'
    have hX : ∀ tx, 181 + tx + 7 ≤ 100 + t → (∀ e, sl_E P e → tx + 7 ≤ e ∨ e + 20 ≤ tx) → (∀ e', sl_E P' e' → tx + 7 ≤ e' ∨ e' + 20 ≤ tx) ∧ ∀ j, j < 7 → P' (181 + (tx + j)) = P (181 + (tx + j)) ∧ (fun a => M (181 + a)) (tx + j) = (fun a => I (181 + a)) (tx + j) := by
      intro tx h1 h2
      exact ⟨fun e' he' => h2 e' (hE e' he'), fun j hj => ⟨p3 _ (by omega) (by omega) (by omega), mo _ (by omega) (by omega) (by omega) (by omega) (by omega) (by omega) (by omega)⟩⟩
    obtain ⟨s1, s2, s3⟩ := hsl
    have blk : ∀ e', sl_E P e' → e' + 20 ≤ e := by
      have bl : ∀ k, k < 2 → ∀ e', P 121 k = some (181 + e') → e' + 20 ≤ e := by
        intro k hk e' he'
        rcases s2 k hk with ⟨a1, a2⟩ | ⟨e'', a1, a2, a3⟩
        · rw [a1] at he'
          cases he'
        · rw [a1] at he'
          injection he' with he'
          have := a3.1.1
          omega
      intro e' he'
      rcases he' with he' | he'
      · exact bl 0 (by omega) e' he'
      · exact bl 1 (by omega) e' he'
    refine ⟨?_, fun k hk => ?_, fun e0 e1 g0 g1 => s3 e0 e1 ((congrFun p121 0).symm.trans g0) ((congrFun p121 1).symm.trans g1)⟩
    · obtain ⟨n0, n06, hn0, hh, h6⟩ := s1
      obtain rfl : n0 = n := (nI_eq (by omega) (by omega)).mp (hn0.symm.trans hn)
      refine ⟨n0 + 1, by omega, eD15, fun i hi => ?_, fun i hi => ?_⟩
      · by_cases hin : i = n0
        · subst hin
          refine ⟨e, c, v, m, p5, fun e' he' => Or.inr (blk e' (hE e' he')), ⟨m4, hc0, kn, fun k hk => ⟨⟨?_, hcb k⟩, ?_, hvb k⟩⟩, hg, htx⟩
          · show M 158 (322 + (7 + 400 * i + k)) = _
            rw [show 322 + (7 + 400 * i + k) = 329 + 400 * i + k by omega]
            exact (kt k hk).1
          · show M 158 (322 + (2807 + 400 * i + k)) = _
            rw [show 322 + (2807 + 400 * i + k) = 3129 + 400 * i + k by omega]
            exact (kt k hk).2
        · obtain ⟨tx, c', v', m', a1, a2, a3, a4, a5⟩ := hh i (by omega)
          have rg : 181 + tx + 7 ≤ 100 + t := by
            obtain ⟨z, m'', x1, -⟩ := a5
            have := x1.2.2.2.2.2.2.2.1.2.2.2
            omega
          obtain ⟨b1, b2⟩ := hX tx rg a2
          exact ⟨tx, c', v', m', (p4 i (by omega) hin).trans a1, b1, kp_tk_1 (ko _ (by omega) (by omega) (by omega) (by omega)) (fun k hk => ⟨ko _ (by omega) (by omega) (by omega) (by omega), ko _ (by omega) (by omega) (by omega) (by omega)⟩) a3, a4, sl_tx_cg (by omega) (fun j hj => ⟨hT _ (by omega), b2 j hj⟩) a5⟩
      · by_cases hin : i = n0
        · subst hin
          refine Or.inr ⟨181 + e, p5, ?_, by omega, by omega⟩
          obtain ⟨z, m'', x1, -⟩ := htx
          exact x1.1
        · rw [p4 i hi hin]
          rcases h6 i hi with g | ⟨b, g1, g2, g3, g4⟩
          · exact Or.inl g
          · exact Or.inr ⟨b, g1, (hT b g4).trans g2, g3, by omega⟩
    · rw [qm 159 (by omega) (by omega) (by omega) (by omega) (by omega), qm 160 (by omega) (by omega) (by omega) (by omega) (by omega)]
      rcases s2 k hk with ⟨a1, a2⟩ | ⟨e', a1, a2, a3⟩
      · exact Or.inl ⟨(congrFun p121 k).trans a1, a2⟩
      · have rg := a3.1.1
        exact Or.inr ⟨e', (congrFun p121 k).trans a1, a2, sl_im_cg (by omega) a3 rfl hT (fun j hj => ⟨p3 _ (by omega) (by omega) (by omega), mo _ (by omega) (by omega) (by omega) (by omega) (by omega) (by omega) (by omega)⟩) hX⟩
end SIMLW
