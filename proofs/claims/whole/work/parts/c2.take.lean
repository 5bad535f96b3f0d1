/-! a desk takes all from another one; both sides keep IMAGES and go back to them -/
abbrev tf_1 : List (Nat × Nat × Nat) := [(4, 5, 5 + 1), (9, 0, 144), (8, 0, 16), (7, 0, 16), (6, 0, 16), (5, 0, 16), (3, 0, 2), (2, 0, 8), (1, 0, 27)]
abbrev tf_all : List (Nat × Nat × Nat) := [(0, 19, 19 + 1), (0, 18, 18 + 1), (0, 17, 17 + 1), (0, 16, 16 + 1), (0, 15, 15 + 1), (0, 14, 14 + 1), (0, 13, 13 + 1), (0, 12, 12 + 1), (19, 0, 8), (18, 0, 8), (17, 0, 8), (16, 0, 8), (13, 3, 3 + 1), (13, 2, 2 + 1), (15, 0, 12), (14, 0, 12), (12, 0, 4), (11, 0, 6), (4, 5, 5 + 1), (9, 0, 144), (8, 0, 16), (7, 0, 16), (6, 0, 16), (5, 0, 16), (3, 0, 2), (2, 0, 8), (1, 0, 27)]
theorem bk_P {t b : Nat} {T : hf_T} {P P' : hf_P} (h : bk t T P b) (hP : ∀ j, j = 0 ∨ j = 4 ∨ j = 13 → P' (b + j) = P (b + j)) : bk t T P' b :=
  ⟨h.lo, h.hi, h.t0, h.t1, h.t2, h.t3, h.t4, h.t5, h.t6, h.t7, h.t8, h.t9, h.t10, h.t11, h.t12, h.t13, h.t14, h.t15, h.t16, h.t17, h.t18, h.t19, (congrFun (hP 0 (by omega)) 0).trans h.p0_0, (congrFun (hP 0 (by omega)) 1).trans h.p0_1, (congrFun (hP 0 (by omega)) 2).trans h.p0_2, (congrFun (hP 0 (by omega)) 3).trans h.p0_3, (congrFun (hP 0 (by omega)) 4).trans h.p0_4, (congrFun (hP 0 (by omega)) 5).trans h.p0_5, (congrFun (hP 0 (by omega)) 6).trans h.p0_6, (congrFun (hP 0 (by omega)) 7).trans h.p0_7, (congrFun (hP 0 (by omega)) 8).trans h.p0_8, (congrFun (hP 0 (by omega)) 9).trans h.p0_9, (congrFun (hP 0 (by omega)) 10).trans h.p0_10, (congrFun (hP 0 (by omega)) 11).trans h.p0_11, (congrFun (hP 4 (by omega)) 0).trans h.p4_0, (congrFun (hP 4 (by omega)) 1).trans h.p4_1, (congrFun (hP 4 (by omega)) 2).trans h.p4_2, (congrFun (hP 4 (by omega)) 3).trans h.p4_3, (congrFun (hP 4 (by omega)) 4).trans h.p4_4, (congrFun (hP 13 (by omega)) 0).trans h.p13_0, (congrFun (hP 13 (by omega)) 1).trans h.p13_1⟩
theorem bk_t {t t' b : Nat} {T T' : hf_T} {P P' : hf_P} (h : bk t T P b) (ht : t ≤ t') (hT : ∀ a, a < 100 + t → T' a = T a ∧ P' a = P a) : bk t' T' P' b := by
  have e : ∀ j, j < 20 → T' (b + j) = T (b + j) ∧ P' (b + j) = P (b + j) := fun j hj => hT _ (bk_in h j hj).2
  exact ⟨h.lo, by have := h.hi; omega, (e 0 (by omega)).1.trans h.t0, (e 1 (by omega)).1.trans h.t1, (e 2 (by omega)).1.trans h.t2, (e 3 (by omega)).1.trans h.t3, (e 4 (by omega)).1.trans h.t4, (e 5 (by omega)).1.trans h.t5, (e 6 (by omega)).1.trans h.t6, (e 7 (by omega)).1.trans h.t7, (e 8 (by omega)).1.trans h.t8, (e 9 (by omega)).1.trans h.t9, (e 10 (by omega)).1.trans h.t10, (e 11 (by omega)).1.trans h.t11, (e 12 (by omega)).1.trans h.t12, (e 13 (by omega)).1.trans h.t13, (e 14 (by omega)).1.trans h.t14, (e 15 (by omega)).1.trans h.t15, (e 16 (by omega)).1.trans h.t16, (e 17 (by omega)).1.trans h.t17, (e 18 (by omega)).1.trans h.t18, (e 19 (by omega)).1.trans h.t19, (congrFun (e 0 (by omega)).2 0).trans h.p0_0, (congrFun (e 0 (by omega)).2 1).trans h.p0_1, (congrFun (e 0 (by omega)).2 2).trans h.p0_2, (congrFun (e 0 (by omega)).2 3).trans h.p0_3, (congrFun (e 0 (by omega)).2 4).trans h.p0_4, (congrFun (e 0 (by omega)).2 5).trans h.p0_5, (congrFun (e 0 (by omega)).2 6).trans h.p0_6, (congrFun (e 0 (by omega)).2 7).trans h.p0_7, (congrFun (e 0 (by omega)).2 8).trans h.p0_8, (congrFun (e 0 (by omega)).2 9).trans h.p0_9, (congrFun (e 0 (by omega)).2 10).trans h.p0_10, (congrFun (e 0 (by omega)).2 11).trans h.p0_11, (congrFun (e 4 (by omega)).2 0).trans h.p4_0, (congrFun (e 4 (by omega)).2 1).trans h.p4_1, (congrFun (e 4 (by omega)).2 2).trans h.p4_2, (congrFun (e 4 (by omega)).2 3).trans h.p4_3, (congrFun (e 4 (by omega)).2 4).trans h.p4_4, (congrFun (e 13 (by omega)).2 0).trans h.p13_0, (congrFun (e 13 (by omega)).2 1).trans h.p13_1⟩
def tf_P (sb db m : Nat) (P : hf_P) : hf_P := fun a i => if a = db + 10 ∧ i < m then P (sb + 10) i else P a i
theorem tf_P_0 {sb db : Nat} {P : hf_P} : tf_P sb db 0 P = P := by
  funext a i
  unfold tf_P
  rw [if_neg (by omega)]
theorem tf_P_out {sb db m a : Nat} {P : hf_P} (h : ¬ a = db + 10) : tf_P sb db m P a = P a := by
  funext i
  unfold tf_P
  rw [if_neg (fun q => h q.1)]
theorem tf_P_in {sb db m i : Nat} {P : hf_P} (h : i < m) : tf_P sb db m P (db + 10) i = P (sb + 10) i := by
  unfold tf_P
  rw [if_pos ⟨rfl, h⟩]
theorem tf_P_1 {sb db m : Nat} {P : hf_P} : hf_upP (tf_P sb db m P) (db + 10) m (P (sb + 10) m) = tf_P sb db (m + 1) P := by
  funext a i
  unfold hf_upP
  by_cases ha : a = db + 10
  · subst ha
    rw [if_pos rfl]
    unfold va_up
    by_cases hi : i = m
    · subst hi
      rw [if_pos rfl, tf_P_in (by omega)]
    · rw [if_neg hi]
      unfold tf_P
      by_cases hm : i < m
      · rw [if_pos ⟨rfl, hm⟩, if_pos ⟨rfl, by omega⟩]
      · rw [if_neg (fun q => hm q.2), if_neg (fun q => by omega)]
  · rw [if_neg ha, tf_P_out ha, tf_P_out ha]
section TAKE
variable {X : hf_X} {d k n t : Nat} {T : hf_T} {I : hf_I} {L : hf_L} {P : hf_P} {Q : Option Value → hf_M → Prop}
theorem cs_take {sb db : Nat} (hdj : sb + 20 ≤ db ∨ db + 20 ≤ sb) (hd : bk t T P db) (ho : bk t T P sb) (hby : S_by (I (sb + 9))) (hlw : ∀ i, i < 6 → P (sb + 10) i = none ∨ ∃ b, P (sb + 10) i = some b ∧ T b = (9, 0) ∧ 100 ≤ b ∧ b < 100 + t) (h : Q none (t, T, tf_M sb db tf_all I, L, tf_P sb db 6 P)) : hf_G X Y_X1_takeFrom (d + 2) k n 0 (hf_en [.ref db, .ref sb] 3) [] (t, T, I, L, P) Q := by
  have hd' : ∀ m, bk t T (tf_P sb db m P) db := fun m => bk_P hd fun j hj => tf_P_out (by omega)
  have ho' : ∀ m, bk t T (tf_P sb db m P) sb := fun m => bk_P ho fun j hj => tf_P_out (by omega)
  have src : ∀ m, tf_P sb db m P (sb + 10) = P (sb + 10) := fun m => tf_P_out (by omega)
  have loop : ∀ f m, m + f = 6 → hf_G X Y_X1_takeFrom (d + 2) k n 57 [some (.ref db), some (.ref sb), some (.int (nI m))] [] (t, T, tf_M sb db tf_1 I, L, tf_P sb db m P) Q := by
    intro f
    induction f with
    | zero =>
      intro m hm
      obtain rfl : m = 6 := by omega
      exact w_X1_takeFrom_57_t hdj (hd' 6) (ho' 6) hby ⟨fun _ => h, fun q => absurd (show (6 : Int32) ≤ nI 6 by decide) q⟩
    | succ f ih =>
      intro m hm
      refine w_X1_takeFrom_57_t hdj (hd' m) (ho' m) hby ⟨fun q => absurd q (Int32.not_le.mpr (nI_lt (b := 6) (by omega) (by omega))), fun _ => ⟨⟨vp_in_nI (by omega) (by omega), ?_⟩, ?_⟩⟩
      · rw [nI_clamp (by omega), src]
        exact hlw m (by omega)
      · rw [nI_clamp (by omega), src, tf_P_1, nI_1]
        exact ih (m + 1) (by omega)
  have l0 := loop 6 0 rfl
  rw [tf_P_0] at l0
  have h0 := w_X1_takeFrom_0_t (cs := []) hdj hd ho hby l0
  rw [tf_nil] at h0
  exact h0
end TAKE
theorem SD_tf {F G : Nat → Nat → Int32} {kp : Nat → Int32} (e : ∀ j i, j < 20 → tf_c tf_all j i = true → G j i = F j i) (h : hf_SD (F 0) (F 1) (F 2) (F 3) (F 4) (F 5) (F 6) (F 7) (F 8) (F 9) (F 11) (F 12) (F 13) (F 14) (F 15) (F 16) (F 17) (F 18) (F 19) kp) : hf_SD (G 0) (G 1) (G 2) (G 3) (G 4) (G 5) (G 6) (G 7) (G 8) (G 9) (G 11) (G 12) (G 13) (G 14) (G 15) (G 16) (G 17) (G 18) (G 19) kp := by
  obtain ⟨h1, h2, h3, h4, h5, h6, h7, h8, h9, h10⟩ := h
  have ar : ∀ (j m : Nat), (j, 0, m) ∈ tf_all → j < 20 → ∀ i, i < m → G j i = F j i := fun j m hm hj i hi => e j i hj (List.any_eq_true.mpr ⟨_, hm, decide_eq_true ⟨rfl, Nat.zero_le _, hi⟩⟩)
  have e1 := ar 1 27 (by decide) (by decide)
  have e2 := ar 2 8 (by decide) (by decide)
  have e3 := ar 3 2 (by decide) (by decide)
  have e5 := ar 5 16 (by decide) (by decide)
  have e6 := ar 6 16 (by decide) (by decide)
  have e7 := ar 7 16 (by decide) (by decide)
  have e8 := ar 8 16 (by decide) (by decide)
  have e9 := ar 9 144 (by decide) (by decide)
  have e11 := ar 11 6 (by decide) (by decide)
  have e12 := ar 12 4 (by decide) (by decide)
  have e14 := ar 14 12 (by decide) (by decide)
  have e15 := ar 15 12 (by decide) (by decide)
  have e16 := ar 16 8 (by decide) (by decide)
  have e17 := ar 17 8 (by decide) (by decide)
  have e18 := ar 18 8 (by decide) (by decide)
  have e19 := ar 19 8 (by decide) (by decide)
  have w5 : G 4 5 = F 4 5 := e 4 5 (by decide) (by decide)
  have c2 : G 13 2 = F 13 2 := e 13 2 (by decide) (by decide)
  have c3 : G 13 3 = F 13 3 := e 13 3 (by decide) (by decide)
  have d12 : G 0 12 = F 0 12 := e 0 12 (by decide) (by decide)
  have d13 : G 0 13 = F 0 13 := e 0 13 (by decide) (by decide)
  have d14 : G 0 14 = F 0 14 := e 0 14 (by decide) (by decide)
  have d15 : G 0 15 = F 0 15 := e 0 15 (by decide) (by decide)
  have d16 : G 0 16 = F 0 16 := e 0 16 (by decide) (by decide)
  have d17 : G 0 17 = F 0 17 := e 0 17 (by decide) (by decide)
  have d18 : G 0 18 = F 0 18 := e 0 18 (by decide) (by decide)
  have d19 : G 0 19 = F 0 19 := e 0 19 (by decide) (by decide)
  refine ⟨fun j hj => ?_, fun j hj => ?_, ?_, ?_, ?_, fun j hj => ?_, ?_, ?_, ?_, ?_⟩
  · rw [e1 j hj]; exact h1 j hj
  · rw [e2 j hj]; exact h2 j hj
  · unfold S_tm
    rw [e3 0 (by omega), e3 1 (by omega), d12, d13, d14]
    exact h3
  · obtain ⟨w, a1, a2, a3, a4, a5, a6⟩ := h4
    refine ⟨w, a1, w5.trans a2, a3, fun i hi => ?_, fun s => ?_, fun j hj => by rw [e9 j hj]; exact a6 j hj⟩
    · rw [e5 i (by omega), e6 i (by omega), e7 i (by omega), e8 i (by omega)]
      obtain ⟨b1, b2, b3, m, b4, b5, b6, b7, b8⟩ := a4 i hi
      refine ⟨b1, b2, b3, m, b4, b5, b6, b7, fun q hq => ?_⟩
      show ∃ c, c ≤ 25 ∧ G 9 (9 * i + q) = nI c ∧ _
      rw [e9 _ (by omega)]
      exact b8 q hq
    · rw [hf_cnt_congr (g := F 5) (fun j hj => e5 j (by omega))]
      exact a5 s
  · obtain ⟨c, a1, a2, a3, a4⟩ := h5
    exact ⟨c, a1, d17.trans a2, a3, fun j hj => by rw [e11 j (by omega)]; exact a4 j hj⟩
  · rw [e12 j hj, w5]; exact h6 j hj
  · obtain ⟨c, ln, a1, a2, a3, a4, a5, a6, a7⟩ := h7
    refine ⟨c, ln, a1, a2, c2.trans a3, a4, c3.trans a5, a6, fun j hj => ?_⟩
    rw [e14 j (by omega), e15 j (by omega), w5]
    exact a7 j hj
  · obtain ⟨c, a1, a2, a3, a4⟩ := h8
    refine ⟨c, a1, d18.trans a2, a3, fun j hj => ?_⟩
    rw [e16 (2 * j) (by omega), e16 (2 * j + 1) (by omega)]
    exact a4 j hj
  · obtain ⟨c, a1, a2, a3, a4⟩ := h9
    refine ⟨c, a1, d19.trans a2, a3, fun j hj => ?_⟩
    rw [e17 j (by omega), e18 j (by omega), e19 j (by omega)]
    exact a4 j hj
  · unfold S_lf
    rw [d15, d16]
    exact h10
section MCOPY
variable {X : hf_X} {d k n t : Nat} {T : hf_T} {I : hf_I} {L : hf_L} {P : hf_P} {Q : Option Value → hf_M → Prop}
def mi_I (I : hf_I) (x m : Nat) : hf_I := hf_set I 159 (fun j => if 5929 * x ≤ j ∧ j < 5929 * x + m then I 158 (j - 5929 * x) else I 159 j)
def mb_I (I : hf_I) (x m : Nat) : hf_I := hf_set I 158 (fun j => if j < m then I 159 (5929 * x + j) else I 158 j)
theorem ms_image {x : Nat} (hs : hf_Lay t T P) (hx : x < 2) (h : Q (some (.int 0)) (t, T, hf_up (hf_up (mi_I I x 5929) 160 x 1) 156 0 0, L, P)) : hf_G X Y_X12_image (d + 1) k n 0 (hf_en [.ref 156, .int (nI x)] 3) [] (t, T, I, L, P) Q := by
  have e0 : (5929 : Int32) * nI x = nI (5929 * x) := by
    rcases (show x = 0 ∨ x = 1 by omega) with rfl | rfl <;> decide
  have e : ∀ j, j < 5929 → (5929 : Int32) * nI x + nI j = nI (5929 * x + j) := fun j hj => by rw [e0, nI_add]
  have s0 : mi_I I x 0 = I := by
    unfold mi_I
    have : (fun j => if 5929 * x ≤ j ∧ j < 5929 * x + 0 then I 158 (j - 5929 * x) else I 159 j) = I 159 := by
      funext j
      rw [if_neg (by omega)]
    rw [this, hf_set_self]
  have s1 : ∀ m, hf_up (mi_I I x m) 159 (5929 * x + m) (mi_I I x m 158 m) = mi_I I x (m + 1) := fun m => by
    funext a
    by_cases ha : a = 159
    · subst ha
      funext j
      rw [hf_up_at]
      show upd (fun j => if 5929 * x ≤ j ∧ j < 5929 * x + m then I 158 (j - 5929 * x) else I 159 j) (5929 * x + m) (I 158 m) j = if 5929 * x ≤ j ∧ j < 5929 * x + (m + 1) then I 158 (j - 5929 * x) else I 159 j
      by_cases hj : j = 5929 * x + m
      · subst hj
        rw [hf_upd_eq, if_pos (by omega), Nat.add_sub_cancel_left]
      · rw [hf_upd_ne hj]
        by_cases hq : 5929 * x ≤ j ∧ j < 5929 * x + m
        · rw [if_pos hq, if_pos (by omega)]
        · rw [if_neg hq, if_neg (by omega)]
    · rw [hf_up_no ha]
      unfold mi_I
      rw [hf_set_no ha, hf_set_no ha]
  have loop : ∀ f m, m + f = 5929 → hf_G X Y_X12_image (d + 1) k n 17 [some (.ref 156), some (.int (nI x)), some (.int (nI m))] [] (t, T, mi_I I x m, L, P) Q := by
    intro f
    induction f with
    | zero =>
      intro m hm
      obtain rfl : m = 5929 := by omega
      refine w_X12_image_17 hs ⟨fun _ => ⟨vp_in_nI (by omega) (by omega), ?_⟩, fun q => absurd (show (5929 : Int32) ≤ nI 5929 from Int32.le_refl _) q⟩
      rw [nI_clamp (by omega)]
      exact h
    | succ f ih =>
      intro m hm
      refine w_X12_image_17 hs ⟨fun q => absurd q (Int32.not_le.mpr (nI_lt (b := 5929) (by omega) (by omega))), fun _ => ⟨vp_in_nI (by omega) (by omega), ?_⟩⟩
      rw [e m (by omega), nI_clamp (by omega), nI_clamp (by omega), s1 m, nI_1]
      exact ⟨vp_in_nI (by omega) (by omega), ih (m + 1) (by omega)⟩
  have l0 := loop 5929 0 rfl
  rw [s0] at l0
  exact w_X12_image_0 hs ⟨fun q => absurd q (nI_nlt (b := 0) (Nat.zero_le _) (by omega)), fun _ => ⟨fun q => absurd q (nI_nlt (a := 1) (b := x) (by omega) (by omega)), fun _ => l0⟩⟩
theorem ms_back {x : Nat} (hs : hf_Lay t T P) (hx : x < 2) (hi : I 160 x = 1) (h : Q (some (.int 0)) (t, T, hf_up (hf_up (mb_I I x 5929) 156 27 0) 156 0 0, L, P)) : hf_G X Y_X12_back (d + 2) k n 0 (hf_en [.ref 156, .int (nI x)] 3) [] (t, T, I, L, P) Q := by
  have e0 : (5929 : Int32) * nI x = nI (5929 * x) := by
    rcases (show x = 0 ∨ x = 1 by omega) with rfl | rfl <;> decide
  have e : ∀ j, j < 5929 → (5929 : Int32) * nI x + nI j = nI (5929 * x + j) := fun j hj => by rw [e0, nI_add]
  have s0 : mb_I I x 0 = I := by
    unfold mb_I
    have : (fun j => if j < 0 then I 159 (5929 * x + j) else I 158 j) = I 158 := by
      funext j
      rw [if_neg (by omega)]
    rw [this, hf_set_self]
  have s1 : ∀ m, hf_up (mb_I I x m) 158 m (mb_I I x m 159 (5929 * x + m)) = mb_I I x (m + 1) := fun m => by
    funext a
    by_cases ha : a = 158
    · subst ha
      funext j
      rw [hf_up_at]
      show upd (fun j => if j < m then I 159 (5929 * x + j) else I 158 j) m (I 159 (5929 * x + m)) j = if j < m + 1 then I 159 (5929 * x + j) else I 158 j
      by_cases hj : j = m
      · subst hj
        rw [hf_upd_eq, if_pos (by omega)]
      · rw [hf_upd_ne hj]
        by_cases hq : j < m
        · rw [if_pos hq, if_pos (by omega)]
        · rw [if_neg hq, if_neg (by omega)]
    · rw [hf_up_no ha]
      unfold mb_I
      rw [hf_set_no ha, hf_set_no ha]
  have loop : ∀ f m, m + f = 5929 → hf_G X Y_X12_back (d + 2) k n 33 [some (.ref 156), some (.int (nI x)), some (.int (nI m))] [] (t, T, mb_I I x m, L, P) Q := by
    intro f
    induction f with
    | zero =>
      intro m hm
      obtain rfl : m = 5929 := by omega
      exact w_X12_back_33 hs ⟨fun _ => h, fun q => absurd (show (5929 : Int32) ≤ nI 5929 from Int32.le_refl _) q⟩
    | succ f ih =>
      intro m hm
      refine w_X12_back_33 hs ⟨fun q => absurd q (Int32.not_le.mpr (nI_lt (b := 5929) (by omega) (by omega))), fun _ => ?_⟩
      rw [e m (by omega), nI_clamp (by omega), nI_clamp (by omega), s1 m, nI_1]
      exact ⟨vp_in_nI (by omega) (by omega), vp_in_nI (by omega) (by omega), ih (m + 1) (by omega)⟩
  have l0 := loop 5929 0 rfl
  rw [s0] at l0
  refine w_X12_back_0 (d := d + 1) hs ⟨fun q => absurd q (nI_nlt (b := 0) (Nat.zero_le _) (by omega)), fun _ => ⟨fun q => absurd q (nI_nlt (a := 1) (b := x) (by omega) (by omega)), fun _ => ⟨vp_in_nI (by omega) (by omega), fun _ => l0, fun q => ?_⟩⟩⟩
  rw [nI_clamp (by omega), hi] at q
  exact absurd q (by decide)
end MCOPY
