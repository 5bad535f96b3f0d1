/-! the model's constructor, through -/
def cm_P (P : hf_P) : hf_P := (hf_upP (hf_upP (hf_upP (hf_upP (hf_upP (hf_upP (hf_upP (hf_upP (hf_upP (hf_upP (hf_upP (hf_upP (hf_upP (hf_upP (hf_upP (hf_upP (hf_upP (hf_upP (hf_upP (hf_upP (hf_upP (hf_upP (hf_upP (hf_upP P 156 1 (some 157)) 156 2 (some 158)) 156 3 (some 159)) 156 4 (some 160)) 156 5 (some 161)) 156 6 (some 162)) 156 8 (some 163)) 156 9 (some 164)) 156 12 (some 165)) 156 13 (some 166)) 156 14 (some 167)) 156 23 (some 168)) 156 25 (some 169)) 156 26 (some 170)) 156 28 (some 171)) 156 29 (some 172)) 156 30 (some 173)) 156 31 (some 174)) 156 32 (some 175)) 156 33 (some 176)) 156 34 (some 177)) 156 35 (some 178)) 156 40 (some 179)) 156 48 (some 180))
def kp_0 (K0 K : Nat → Int32) : Prop := (∀ j, j < 26 → K (26 + j) = 10) ∧ K 52 = 5 ∧ (∀ j, j < 8 → K (261 + j) = 1) ∧ (∀ j, j < 4 → K (275 + j) = -1) ∧ K 313 = 100 ∧ K 314 = 3 ∧ K 321 = -1 ∧ ∀ j, ¬ (26 ≤ j ∧ j < 53) → ¬ (261 ≤ j ∧ j < 269) → ¬ (275 ≤ j ∧ j < 279) → ¬ j = 313 → ¬ j = 314 → ¬ j = 321 → K j = K0 j
section MINIT
variable {X : hf_X} {d k n t : Nat} {T : hf_T} {I : hf_I} {L : hf_L} {P : hf_P} {Q : Option Value → hf_M → Prop}
theorem ms_iloop (hs : hf_Lay t T P) (h : ∀ I', (∀ a, ¬ a = 158 → I' a = I a) → kp_0 (I 158) (I' 158) → Q none (t, T, I', L, P)) : hf_G X Y_X12_init d k n 1089 [some (.ref 156), some (.int 0)] [] (t, T, I, L, P) Q := by
  have l3 : ∀ f m, m + f = 4 → ∀ I1 : hf_I, (∀ a, ¬ a = 158 → I1 a = I a) → (∀ i, i < 26 → I1 158 (26 + i) = 10) → I1 158 52 = 5 → (∀ i, i < 8 → I1 158 (261 + i) = 1) → (∀ i, i < m → I1 158 (275 + i) = -1) → (∀ j, ¬ (26 ≤ j ∧ j < 53) → ¬ (261 ≤ j ∧ j < 269) → ¬ (275 ≤ j ∧ j < 275 + m) → I1 158 j = I 158 j) → hf_G X Y_X12_init d k n 1149 [some (.ref 156), some (.int (nI m))] [] (t, T, I1, L, P) Q := by
    intro f
    induction f with
    | zero =>
      intro m hm I1 f1 f2 f3 f4 f5 f6
      obtain rfl : m = 4 := by omega
      refine w_X12_init_1149 hs ⟨fun _ => h _ (fun a ha => by rw [hf_up_no ha, hf_up_no ha, hf_up_no ha]; exact f1 a ha) ?_, fun q => absurd (show (4 : Int32) ≤ nI 4 by decide) q⟩
      have e : hf_up (hf_up (hf_up I1 158 313 100) 158 314 3) 158 321 (-1) 158 = upd (upd (upd (I1 158) 313 100) 314 3) 321 (-1) := by rw [hf_up_at, hf_up_at, hf_up_at]
      rw [e]
      refine ⟨fun j hj => ?_, ?_, fun j hj => ?_, fun j hj => ?_, rfl, rfl, rfl, fun j j1 j2 j3 j4 j5 j6 => ?_⟩
      · rw [hf_upd_ne (by omega), hf_upd_ne (by omega), hf_upd_ne (by omega)]; exact f2 j hj
      · rw [hf_upd_ne (by omega), hf_upd_ne (by omega), hf_upd_ne (by omega)]; exact f3
      · rw [hf_upd_ne (by omega), hf_upd_ne (by omega), hf_upd_ne (by omega)]; exact f4 j hj
      · rw [hf_upd_ne (by omega), hf_upd_ne (by omega), hf_upd_ne (by omega)]; exact f5 j hj
      · rw [hf_upd_ne j6, hf_upd_ne j5, hf_upd_ne j4]; exact f6 j j1 j2 (by omega)
    | succ f ih =>
      intro m hm I1 f1 f2 f3 f4 f5 f6
      have e : (275 : Int32) + nI m = nI (275 + m) := by rw [show (275 : Int32) = nI 275 from rfl, nI_add]
      refine w_X12_init_1149 hs ⟨fun q => absurd q (Int32.not_le.mpr (nI_lt (b := 4) (by omega) (by omega))), fun _ => ?_⟩
      rw [e, nI_clamp (by omega), nI_1]
      refine ⟨vp_in_nI (by omega) (by omega), ih (m + 1) (by omega) _ (fun a ha => by rw [hf_up_no ha]; exact f1 a ha) (fun i hi => ?_) ?_ (fun i hi => ?_) (fun i hi => ?_) (fun j j1 j2 j3 => ?_)⟩
      · rw [hf_up_at, hf_upd_ne (by omega)]; exact f2 i hi
      · rw [hf_up_at, hf_upd_ne (by omega)]; exact f3
      · rw [hf_up_at, hf_upd_ne (by omega)]; exact f4 i hi
      · rw [hf_up_at]
        by_cases z : i = m
        · subst z; rw [hf_upd_eq]
        · rw [hf_upd_ne (by omega)]; exact f5 i (by omega)
      · rw [hf_up_at, hf_upd_ne (by omega)]; exact f6 j j1 j2 (by omega)
  have l2 : ∀ f m, m + f = 8 → ∀ I1 : hf_I, (∀ a, ¬ a = 158 → I1 a = I a) → (∀ i, i < 26 → I1 158 (26 + i) = 10) → I1 158 52 = 5 → (∀ i, i < m → I1 158 (261 + i) = 1) → (∀ j, ¬ (26 ≤ j ∧ j < 53) → ¬ (261 ≤ j ∧ j < 261 + m) → I1 158 j = I 158 j) → hf_G X Y_X12_init d k n 1124 [some (.ref 156), some (.int (nI m))] [] (t, T, I1, L, P) Q := by
    intro f
    induction f with
    | zero =>
      intro m hm I1 f1 f2 f3 f4 f6
      obtain rfl : m = 8 := by omega
      exact w_X12_init_1124 hs ⟨fun _ => l3 4 0 rfl I1 f1 f2 f3 f4 (fun i hi => by omega) (fun j j1 j2 _ => f6 j j1 j2), fun q => absurd (show (8 : Int32) ≤ nI 8 by decide) q⟩
    | succ f ih =>
      intro m hm I1 f1 f2 f3 f4 f6
      have e : (261 : Int32) + nI m = nI (261 + m) := by rw [show (261 : Int32) = nI 261 from rfl, nI_add]
      refine w_X12_init_1124 hs ⟨fun q => absurd q (Int32.not_le.mpr (nI_lt (b := 8) (by omega) (by omega))), fun _ => ?_⟩
      rw [e, nI_clamp (by omega), nI_1]
      refine ⟨vp_in_nI (by omega) (by omega), ih (m + 1) (by omega) _ (fun a ha => by rw [hf_up_no ha]; exact f1 a ha) (fun i hi => ?_) ?_ (fun i hi => ?_) (fun j j1 j2 => ?_)⟩
      · rw [hf_up_at, hf_upd_ne (by omega)]; exact f2 i hi
      · rw [hf_up_at, hf_upd_ne (by omega)]; exact f3
      · rw [hf_up_at]
        by_cases z : i = m
        · subst z; rw [hf_upd_eq]
        · rw [hf_upd_ne (by omega)]; exact f4 i (by omega)
      · rw [hf_up_at, hf_upd_ne (by omega)]; exact f6 j j1 (by omega)
  have l1 : ∀ f m, m + f = 27 → ∀ I1 : hf_I, (∀ a, ¬ a = 158 → I1 a = I a) → (∀ i, i < m → I1 158 (26 + i) = if i = 26 then 5 else 10) → (∀ j, ¬ (26 ≤ j ∧ j < 26 + m) → I1 158 j = I 158 j) → hf_G X Y_X12_init d k n 1089 [some (.ref 156), some (.int (nI m))] [] (t, T, I1, L, P) Q := by
    intro f
    induction f with
    | zero =>
      intro m hm I1 f1 f2 f6
      obtain rfl : m = 27 := by omega
      exact w_X12_init_1089 hs ⟨fun _ => l2 8 0 rfl I1 f1 (fun i hi => by rw [f2 i (by omega), if_neg (by omega)]) (f2 26 (by omega)) (fun i hi => by omega) (fun j j1 _ => f6 j j1), fun q => absurd (show (27 : Int32) ≤ nI 27 by decide) q⟩
    | succ f ih =>
      intro m hm I1 f1 f2 f6
      have e : (26 : Int32) + nI m = nI (26 + m) := by rw [show (26 : Int32) = nI 26 from rfl, nI_add]
      refine w_X12_init_1089 hs ⟨fun q => absurd q (Int32.not_le.mpr (nI_lt (b := 27) (by omega) (by omega))), fun _ => ?_⟩
      have go : ∀ v : Int32, (v = if m = 26 then 5 else 10) → vp_in (26 + nI m) 5929 ∧ hf_G X Y_X12_init d k n 1089 [some (.ref 156), some (.int (nI m + 1))] [] (t, T, hf_up I1 158 (26 + nI m).toNatClampNeg v, L, P) Q := by
        intro v hv
        rw [e, nI_clamp (by omega), nI_1]
        refine ⟨vp_in_nI (by omega) (by omega), ih (m + 1) (by omega) _ (fun a ha => by rw [hf_up_no ha]; exact f1 a ha) (fun i hi => ?_) (fun j j1 => ?_)⟩
        · rw [hf_up_at]
          by_cases z : i = m
          · subst z; rw [hf_upd_eq, hv]
          · rw [hf_upd_ne (by omega)]; exact f2 i (by omega)
        · rw [hf_up_at, hf_upd_ne (by omega)]; exact f6 j (by omega)
      refine ⟨fun q => go 10 ?_, fun q => go 5 ?_⟩
      · rw [if_neg (fun z => q (by rw [z]; rfl))]
      · rw [if_pos ((nI_eq (b := 26) (by omega) (by omega)).mp q)]
  exact l1 27 0 rfl I (fun _ _ => rfl) (fun i hi => by omega) (fun _ _ => rfl)
set_option maxHeartbeats 4000000 in
theorem ms_init (hs : hf_Ly T) (hy : hf_Lay 81 T (cm_P P)) (hN : ∀ a, 157 ≤ a → a < 181 → jk_nw T I L P a (hf_sTl.getD (a - 100) (0, 0)))
    (h : ∀ I', (∀ a, ¬ a = 156 → ¬ a = 158 → ¬ a = 162 → I' a = I a) → I' 156 = upd (upd (I 156) 11 (-1)) 41 (-1) → S_wb (I' 162) → kp_0 (I 158) (I' 158) → Q none (81, T, I', L, cm_P P)) : hf_G X Y_X12_init (d + 5) 24 20552 0 (hf_en [.ref 156] 2) [] (57, T, I, L, P) Q := by
  show hf_G X Y_X12_init (d + 5) 24 20552 0 [some (.ref 156), none] [] (57, T, I, L, P) Q
  refine w_X12_init_0_k (d := d) hs hN fun hN => ?_
  refine w_X12_init_45_k (d := d) hs hN fun hN => ?_
  refine wd_51 (d := d) (I0 := I) hs hN (fun q hq => by omega) (fun _ _ => rfl) fun I1 hN hw hf => ?_
  refine wd_117 (d := d) (I0 := I) hs hN hw hf fun I1 hN hw hf => ?_
  refine wd_189 (d := d) (I0 := I) hs hN hw hf fun I1 hN hw hf => ?_
  refine wd_261 (d := d) (I0 := I) hs hN hw hf fun I1 hN hw hf => ?_
  refine wd_333 (d := d) (I0 := I) hs hN hw hf fun I1 hN hw hf => ?_
  refine wd_405 (d := d) (I0 := I) hs hN hw hf fun I1 hN hw hf => ?_
  refine wd_477 (d := d) (I0 := I) hs hN hw hf fun I1 hN hw hf => ?_
  refine wd_549 (d := d) (I0 := I) hs hN hw hf fun I1 hN hw hf => ?_
  refine wd_621 (d := d) (I0 := I) hs hN hw hf fun I1 hN hw hf => ?_
  refine wd_693 (d := d) (I0 := I) hs hN hw hf fun I1 hN hw hf => ?_
  refine wd_765 (d := d) (I0 := I) hs hN hw hf fun I1 hN hw hf => ?_
  refine wd_841 (d := d) (I0 := I) hs hN hw hf fun I1 hN hw hf => ?_
  refine w_X12_init_925_k (d := d) hs hN fun hN => ?_
  refine w_X12_init_928_k (d := d) hs hN fun hN => ?_
  refine w_X12_init_976_k (d := d) hs hN fun hN => ?_
  refine w_X12_init_1026_k (d := d) hs hN fun hN => ?_
  refine w_X12_init_1074_k (d := d) hs hN fun _ => ?_
  refine ms_iloop (P := cm_P P) hy fun I' f1 f2 => h I' (fun a a1 a2 a3 => ?_) ?_ ?_ ?_
  · rw [f1 a a2, hf_up_no a1, hf_up_no a1]
    exact hf a a3
  · rw [f1 156 (by omega), hf_up_at, hf_up_at, hf 156 (by omega)]
  · rw [f1 162 (by omega), hf_up_no (by omega), hf_up_no (by omega)]
    exact hw
  · rw [hf_up_no (by omega), hf_up_no (by omega), hf 158 (by omega)] at f2
    exact f2
end MINIT
