/-! what the model reckons out of a row of TOKENS is what the grammar says that it means -/
/-- what is broken stays so -/
theorem gr_bd_dn {r : gr_r} {g : Nat → Nat → gr_cd → gr_dn → gr_r} {f : Nat → Int32} (h : (gr_bd r g).1 = 2) (hg : r.1 = 2 → (g r.2.1 r.2.2.1 r.2.2.2.1 r.2.2.2.2).1 = 2 → (g r.2.1 r.2.2.1 r.2.2.2.1 r.2.2.2.2).2.2.2.2 f = none) : (gr_bd r g).2.2.2.2 f = none := by
  unfold gr_bd at h ⊢
  by_cases e : r.1 = 2
  · rw [if_pos e] at h ⊢
    exact hg e h
  · rw [if_neg e] at h
    exact absurd h e
theorem gr_bd_g2 {r : gr_r} {g : Nat → Nat → gr_cd → gr_dn → gr_r} (h : (gr_bd r g).1 = 2) : r.1 = 2 := by
  unfold gr_bd at h
  by_cases e : r.1 = 2
  · exact e
  · rw [if_neg e] at h
    exact h
theorem gr_ps_none {S : Bool} {c v : Nat → Nat} {f : Nat → Int32} : ∀ (n nt dp k lv : Nat) (a : gr_dn), nt = 2 ∨ nt = 4 ∨ nt = 8 ∨ nt = 10 → a f = none → (gr_ps S c v n nt 0 dp k lv a).1 = 2 → (gr_ps S c v n nt 0 dp k lv a).2.2.2.2 f = none := by
  intro n
  induction n with
  | zero => intro nt dp k lv a _ _ h; exact absurd h (by show ¬ (0 = 2); omega)
  | succ n ih =>
    intro nt dp k lv a hnt ha
    have step : ∀ (A B k1 : Nat) (F : gr_cd → gr_cd → gr_cd) (g : gr_dn → gr_dn), (B = 2 ∨ B = 4 ∨ B = 8 ∨ B = 10) → (∀ d, g d f = none) → (gr_bd (gr_ps S c v n A 0 dp k1 lv a) fun k1 l1 c1 d1 => gr_bd (gr_ps S c v n B 0 dp k1 l1 (g d1)) fun k2 l2 c2 d2 => gr_gd k2 l2 (F c1 c2) d2).1 = 2 → (gr_bd (gr_ps S c v n A 0 dp k1 lv a) fun k1 l1 c1 d1 => gr_bd (gr_ps S c v n B 0 dp k1 l1 (g d1)) fun k2 l2 c2 d2 => gr_gd k2 l2 (F c1 c2) d2).2.2.2.2 f = none := by
      intro A B k1 F g hB hg h
      refine gr_bd_dn h fun e1 h1 => gr_bd_dn h1 fun e2 h2 => ?_
      exact ih B dp _ _ _ hB (hg _) e2
    rcases hnt with rfl | rfl | rfl | rfl
    · rw [gr_ps_2]
      split
      · intro _; exact ha
      · exact step 0 2 (k + 1) (fun a b => a ++ (gr_o2 (c k), 0) :: b) (gr_dj (gr_o2 (c k)) a) (Or.inl rfl) fun d => by simp [gr_dj, ha]
    · rw [gr_ps_4]
      split
      · intro _; exact ha
      · exact step 1 4 (k + 1) (fun a b => a ++ (gr_o4 (c k), 0) :: b) (gr_dj (gr_o4 (c k)) a) (Or.inr (Or.inl rfl)) fun d => by simp [gr_dj, ha]
    · rw [gr_ps_8]
      split
      · exact step 5 8 (k + 1) (fun c1 c2 => (12, 2 * c1.length) :: (c1 ++ c2)) (gr_dan a) (Or.inr (Or.inr (Or.inl rfl))) fun d => by simp [gr_dan, ha]
      · intro _; exact ha
    · rw [gr_ps_10]
      split
      · exact step 7 10 (k + 1) (fun c1 c2 => (11, 2 * c1.length) :: (c1 ++ c2)) (gr_dor a) (Or.inr (Or.inr (Or.inr rfl))) fun d => by simp [gr_dor, ha]
      · intro _; exact ha
theorem gr_lim_64 {z : Int64} {x : Int32} (h : gr_lim z = some x) : z = x.toInt64 := by
  unfold gr_lim at h
  split at h
  · cases h
  · split at h
    · rename_i h1 h2
      cases h
      rw [lg_cmp_gt] at h1
      rw [lg_cmp_ge] at h2
      have h1' := Int64.not_lt.mp h1
      rw [Int64.le_iff_toInt_le] at h1' h2
      have e1 : (1000000000 : Int64).toInt = 1000000000 := by decide
      have e2 : (-1000000000 : Int64).toInt = -1000000000 := by decide
      rw [e1] at h1'
      rw [e2] at h2
      apply Int64.toInt_inj.mp
      rw [Int32.toInt_toInt64, Int64.toInt_toInt32]
      rw [Int.bmod_eq_of_le (by omega) (by omega)]
    · cases h
def ev_fr (I0 I : hf_I) : Prop := (∀ a, ¬ a = 156 → I a = I0 a) ∧ ∀ j, ¬ j = 19 → ¬ j = 21 → I 156 j = I0 156 j
def ev_st (I0 : hf_I) (g : Nat) (b : Int32) (I : hf_I) : Prop := ev_fr I0 I ∧ I 156 19 = nI g ∧ I 156 21 = b
theorem ev_fr_up {I0 I : hf_I} {j : Nat} {w : Int32} (hj : j = 19 ∨ j = 21) (h : ev_fr I0 I) : ev_fr I0 (hf_up I 156 j w) := by
  refine ⟨fun a ha => ?_, fun i h1 h2 => ?_⟩
  · rw [← h.1 a ha]
    simp [hf_up, ha]
  · rw [← h.2 i h1 h2]
    show upd (I 156) j w i = I 156 i
    exact hf_upd_ne (by omega)
/-- is it reckoned, or only gone through -/
def ev_ac (live b : Int32) (act : Bool) : Prop := (b = 0 ∨ b = 1) ∧ (act = true → ¬ live = 0 ∧ b = 0) ∧ (act = false → live = 0 ∨ b = 1)
/-- the row of TOKENS, as it is kept -/
def ev_tk (I0 : hf_I) (S : Bool) (B0 : Nat) (c v : Nat → Nat) (m : Nat) : Prop := m ≤ 400 ∧ B0 ≤ 2400 ∧ (∀ j, m ≤ j → c j = 0) ∧ I0 156 20 = nI (B0 + m) ∧ (I0 156 22 = if S = true then 1 else 0) ∧ ∀ k, k < m → (I0 158 (329 + B0 + k) = nI (c k) ∧ c k < 1000) ∧ I0 158 (3129 + B0 + k) = nI (v k) ∧ v k < 100000000
/-- what the words stand for -/
def ev_fa (X : hf_X) (t : Nat) (T : hf_T) (L : hf_L) (P : hf_P) (I0 : hf_I) (S : Bool) (f : Nat → Int32) : Prop := match S with
  | false => ∀ j, j < 13 → I0 168 j = f j
  | true => ∀ (cc w : Nat) (I : hf_I) (Q : Option Value → hf_M → Prop) (D kk nn : Nat), 5 ≤ D → gr_isv true cc = true → w ≤ 15 → ev_fr I0 I → Q (some (.int (f (gr_fx true cc w)))) (t, T, I, L, P) → hf_G X Y_X12_settingOf D kk nn 0 (hf_en [.ref 156, .int (nI cc), .int (nI w)] 3) [] (t, T, I, L, P) Q
def ev_ps (t : Nat) (T : hf_T) (L : hf_L) (P : hf_P) (I0 : hf_I) (B0 : Nat) (f : Nat → Int32) (act : Bool) (b : Int32) (r : gr_r) (Q : Option Value → hf_M → Prop) : Prop := ∀ (I' : hf_I) (w : Int64), ev_fr I0 I' → I' 156 19 = nI (B0 + r.2.1) → (act = true → (∀ x, r.2.2.2.2 f = some x → w = x.toInt64 ∧ I' 156 21 = 0) ∧ (r.2.2.2.2 f = none → I' 156 21 = 1)) → (act = false → I' 156 21 = b) → Q (some (.long w)) (t, T, I', L, P)
def ev_pt (t : Nat) (T : hf_T) (L : hf_L) (P : hf_P) (I0 : hf_I) (B0 : Nat) (f : Nat → Int32) (act : Bool) (b : Int32) (r : gr_r) (Q : Option Value → hf_M → Prop) : Prop := ∀ (I' : hf_I) (w : Int32), (w = 0 ∨ w = 1) → ev_fr I0 I' → I' 156 19 = nI (B0 + r.2.1) → (act = true → (∀ x, r.2.2.2.2 f = some x → w = x ∧ I' 156 21 = 0) ∧ (r.2.2.2.2 f = none → I' 156 21 = 1)) → (act = false → I' 156 21 = b) → Q (some (.int w)) (t, T, I', L, P)
section MEV
variable {X : hf_X} {t : Nat} {T : hf_T} {L : hf_L} {P : hf_P} {I0 I : hf_I} {B0 : Nat} {c v : Nat → Nat} {m : Nat} {S : Bool} {f : Nat → Int32} {n d k nn kk : Nat} {act act' : Bool} {b b' live : Int32} {Q : Option Value → hf_M → Prop}
theorem ev_tr {r : gr_r} (h1 : act' = true → act = true) (h2 : act = true → act' = false → r.2.2.2.2 f = none ∧ b' = 1) (h3 : act = false → act' = false ∧ b' = b) (h : ev_ps t T L P I0 B0 f act b r Q) : ev_ps t T L P I0 B0 f act' b' r Q := by
  intro I' w g1 g2 g3 g4
  cases hq : act' with
  | true =>
    have ha := h1 hq
    exact h I' w g1 g2 (fun _ => g3 hq) (fun e => by rw [ha] at e; cases e)
  | false =>
    have hb := g4 hq
    refine h I' w g1 g2 (fun e => ?_) (fun e => by rw [hb, (h3 e).2])
    obtain ⟨q1, q2⟩ := h2 e hq
    exact ⟨fun x hx => (by rw [q1] at hx; cases hx), fun _ => by rw [hb, q2]⟩
theorem ev_trt {r : gr_r} (h1 : act' = true → act = true) (h2 : act = true → act' = false → r.2.2.2.2 f = none ∧ b' = 1) (h3 : act = false → act' = false ∧ b' = b) (h : ev_pt t T L P I0 B0 f act b r Q) : ev_pt t T L P I0 B0 f act' b' r Q := by
  intro I' w g0 g1 g2 g3 g4
  cases hq : act' with
  | true =>
    have ha := h1 hq
    exact h I' w g0 g1 g2 (fun _ => g3 hq) (fun e => by rw [ha] at e; cases e)
  | false =>
    have hb := g4 hq
    refine h I' w g0 g1 g2 (fun e => ?_) (fun e => by rw [hb, (h3 e).2])
    obtain ⟨q1, q2⟩ := h2 e hq
    exact ⟨fun x hx => (by rw [q1] at hx; cases hx), fun _ => by rw [hb, q2]⟩
/-- how it stands behind a reckoning -/
theorem ev_nx {I' : hf_I} {o : Option Int32} {z : Prop} {y : Int32 → Prop} (hac : ev_ac live b act) (g3 : act = true → (∀ x, o = some x → y x ∧ I' 156 21 = 0) ∧ (o = none → I' 156 21 = 1)) (g4 : act = false → I' 156 21 = b) : ∃ b' act', I' 156 21 = b' ∧ ev_ac live b' act' ∧ (act' = true → act = true ∧ ∃ x, o = some x ∧ y x) ∧ (act = true → act' = false → o = none ∧ b' = 1) ∧ (act = false → act' = false ∧ b' = b) := by
  cases act with
  | true =>
    obtain ⟨p1, p2⟩ := g3 rfl
    cases o with
    | some x =>
      obtain ⟨q1, q2⟩ := p1 x rfl
      exact ⟨0, true, q2, ⟨Or.inl rfl, fun _ => ⟨(hac.2.1 rfl).1, rfl⟩, (fun e => by cases e)⟩, fun _ => ⟨rfl, x, rfl, q1⟩, (fun _ e => by cases e), (fun e => by cases e)⟩
    | none => exact ⟨1, false, p2 rfl, ⟨Or.inr rfl, (fun e => by cases e), fun _ => Or.inr rfl⟩, (fun e => by cases e), fun _ _ => ⟨rfl, rfl⟩, (fun e => by cases e)⟩
  | false => exact ⟨b, false, g4 rfl, hac, (fun e => by cases e), (fun e => by cases e), fun _ => ⟨rfl, rfl⟩⟩
theorem ev_lt (htk : ev_tk I0 S B0 c v m) (h : ¬ c k = 0) : k < m := by
  rcases Nat.lt_or_ge k m with q | q
  · exact q
  · exact absurd (htk.2.2.1 k q) h
theorem ev_code (hs : hf_Lay t T P) (htk : ev_tk I0 S B0 c v m) (hk : k ≤ m) (hst : ev_st I0 (B0 + k) b I) (h : Q (some (.int (nI (c k)))) (t, T, I, L, P)) : hf_G X Y_X12_codeAt d kk nn 0 (hf_en [.ref 156, .int (I 156 19)] 2) [] (t, T, I, L, P) Q := by
  obtain ⟨m4, b4, h0, h20, -, tk⟩ := htk
  obtain ⟨fr, g1, g2⟩ := hst
  have e20 : I 156 20 = nI (B0 + m) := by rw [fr.2 20 (by omega) (by omega)]; exact h20
  have e3 : (329 : Int32) + nI (B0 + k) = nI (329 + B0 + k) := by rw [show (329 : Int32) = nI 329 from rfl, nI_add, Nat.add_assoc]
  refine w_X12_codeAt_0 hs ?_
  rw [e20, g1, e3, nI_clamp (by omega)]
  refine ⟨fun q => ?_, fun q => ⟨vp_in_nI (by omega) (by omega), ?_⟩⟩
  · have hm : m ≤ k := by
      have := (nI_leI (by omega) (by omega)).mp q
      omega
    rw [h0 k hm] at h
    exact h
  · have hm : k < m := by
      rcases Nat.lt_or_ge k m with z | z
      · exact z
      · exact absurd (nI_le (by omega) (by omega)) q
    rw [fr.1 158 (by omega), (tk k hm).1.1]
    exact h
theorem ev_c1000 (htk : ev_tk I0 S B0 c v m) (k : Nat) : c k < 1000 := by
  rcases Nat.lt_or_ge k m with q | q
  · exact (htk.2.2.2.2.2 k q).1.2
  · rw [htk.2.2.1 k q]; omega
theorem ev_pass {ch : Nat} (hs : hf_Lay t T P) (htk : ev_tk I0 S B0 c v m) (hk : k ≤ m) (hc : ch < 1000) (hst : ev_st I0 (B0 + k) b I) (h1 : c k = ch → ∀ I', ev_st I0 (B0 + (k + 1)) b I' → Q (some (.int 1)) (t, T, I', L, P)) (h0 : ¬ c k = ch → Q (some (.int 0)) (t, T, I, L, P)) : hf_G X Y_X12_passes0 (d + 1) kk nn 0 (hf_en [.ref 156, .int (nI ch)] 3) [] (t, T, I, L, P) Q := by
  have c1 := ev_c1000 htk k
  refine w_X12_passes0_0 hs (ev_code hs htk hk hst (w_X12_passes0_8 hs ⟨fun q => h0 fun z => q (by rw [z]), fun q => h1 ((nI_eq (by omega) (by omega)).mp q) _ ⟨ev_fr_up (Or.inl rfl) hst.1, ?_, hst.2.2⟩⟩))
  show I 156 19 + 1 = _
  rw [hst.2.1, nI_1, Nat.add_assoc]
theorem ev_step (hst : ev_st I0 (B0 + k) b I) : ev_st I0 (B0 + (k + 1)) b (hf_up I 156 19 (I 156 19 + 1)) := by
  refine ⟨ev_fr_up (Or.inl rfl) hst.1, ?_, hst.2.2⟩
  show I 156 19 + 1 = _
  rw [hst.2.1, nI_1, Nat.add_assoc]
theorem ev_bounded {z : Int64} {g : Nat} (hs : hf_Lay t T P) (hac : ev_ac live b act) (hst : ev_st I0 g b I) (h : ∀ (I' : hf_I) (w : Int64), ev_fr I0 I' → I' 156 19 = nI g → (act = true → (∀ x, gr_lim z = some x → w = x.toInt64 ∧ I' 156 21 = 0) ∧ (gr_lim z = none → I' 156 21 = 1)) → (act = false → I' 156 21 = b) → Q (some (.long w)) (t, T, I', L, P)) : hf_G X Y_X12_bounded d kk nn 0 (hf_en [.ref 156, .long z, .int live] 4) [] (t, T, I, L, P) Q := by
  obtain ⟨fr, g1, g2⟩ := hst
  obtain ⟨a1, a2, a3⟩ := hac
  have up : ev_fr I0 (hf_up I 156 21 1) := ev_fr_up (Or.inr rfl) fr
  have dead : act = false → b = 1 ∨ live = 0 := fun e => by
    rcases a3 e with q | q
    · exact Or.inr q
    · exact Or.inl q
  refine w_X12_bounded_0 hs ?_
  rw [g2]
  refine ⟨fun q => ?_, fun q => ?_⟩
  · have na : ¬ act = true := fun e => (a2 e).1 q
    exact ⟨fun q2 => h I z fr g1 (fun e => absurd e na) (fun _ => g2), fun q2 => h I 0 fr g1 (fun e => absurd e na) (fun _ => g2)⟩
  · have one : (act = true → gr_lim z = none) → Q (some (.long 0)) (t, T, hf_up I 156 21 1, L, P) := by
      intro hn
      refine h _ 0 up g1 (fun e => ⟨fun x hx => ?_, fun _ => rfl⟩) (fun e => ?_)
      · rw [hn e] at hx; cases hx
      · rcases dead e with z | z
        · rw [z]; rfl
        · exact absurd z q
    refine ⟨fun q2 => one fun _ => ?_, fun q2 => ⟨fun q3 => ⟨fun q4 => ?_, fun q4 => ?_⟩, fun q3 => one fun _ => ?_⟩⟩
    · unfold gr_lim; rw [if_pos q2]
    · have e : gr_lim z = some z.toInt32 := by unfold gr_lim; rw [if_neg q2, if_pos q3]
      refine h I z fr g1 (fun _ => ⟨fun x hx => ⟨gr_lim_64 hx, by rw [g2, q4]⟩, fun hx => ?_⟩) (fun _ => g2)
      rw [e] at hx; cases hx
    · exact h I 0 fr g1 (fun e => absurd (a2 e).2 q4) (fun _ => g2)
    · unfold gr_lim; rw [if_neg q2, if_neg q3]
end MEV
section MEV
variable (X : hf_X) (t : Nat) (T : hf_T) (L : hf_L) (P : hf_P) (I0 : hf_I) (B0 : Nat) (c v : Nat → Nat) (m : Nat) (S : Bool) (f : Nat → Int32)
def ce_e (Y : hf_Y) (nL nt n : Nat) : Prop := ∀ (dp k lv : Nat) (a : gr_dn) (I : hf_I) (Q : Option Value → hf_M → Prop) (D kk nn : Nat) (live b : Int32) (act : Bool), n + 6 ≤ D → k ≤ m → ev_ac live b act → ev_st I0 (B0 + k) b I → (gr_ps S c v n nt 0 dp k lv a).1 = 2 → ev_ps t T L P I0 B0 f act b (gr_ps S c v n nt 0 dp k lv a) Q → hf_G X Y D kk nn 0 (hf_en [.ref 156, .int live] nL) [] (t, T, I, L, P) Q
def ce_o (Y : hf_Y) (nt n : Nat) : Prop := ∀ (dp k lv : Nat) (a : gr_dn) (x2 : Int64) (I : hf_I) (Q : Option Value → hf_M → Prop) (D kk nn : Nat) (live b : Int32) (act : Bool), n + 6 ≤ D → k ≤ m → ev_ac live b act → (act = true → ∃ y, a f = some y ∧ x2 = y.toInt64) → ev_st I0 (B0 + k) b I → (gr_ps S c v n nt 0 dp k lv a).1 = 2 → ev_ps t T L P I0 B0 f act b (gr_ps S c v n nt 0 dp k lv a) Q → hf_G X Y D kk nn 6 [some (.ref 156), some (.int live), some (.long x2), none, none, none, none] [] (t, T, I, L, P) Q
def ce_t (Y : hf_Y) (nL nt n : Nat) : Prop := ∀ (dp k lv : Nat) (a : gr_dn) (I : hf_I) (Q : Option Value → hf_M → Prop) (D kk nn : Nat) (live b : Int32) (act : Bool), n + 6 ≤ D → k ≤ m → ev_ac live b act → ev_st I0 (B0 + k) b I → (gr_ps S c v n nt 0 dp k lv a).1 = 2 → ev_pt t T L P I0 B0 f act b (gr_ps S c v n nt 0 dp k lv a) Q → hf_G X Y D kk nn 0 (hf_en [.ref 156, .int live] nL) [] (t, T, I, L, P) Q
def ce_w (Y : hf_Y) (nt n : Nat) : Prop := ∀ (dp k lv : Nat) (a : gr_dn) (x2 : Int32) (I : hf_I) (Q : Option Value → hf_M → Prop) (D kk nn : Nat) (live b : Int32) (act : Bool), n + 6 ≤ D → k ≤ m → ev_ac live b act → (x2 = 0 ∨ x2 = 1) → (act = true → a f = some x2) → ev_st I0 (B0 + k) b I → (gr_ps S c v n nt 0 dp k lv a).1 = 2 → ev_pt t T L P I0 B0 f act b (gr_ps S c v n nt 0 dp k lv a) Q → hf_G X Y D kk nn 6 [some (.ref 156), some (.int live), some (.int x2), none] [] (t, T, I, L, P) Q
def ce_5 (n : Nat) : Prop := ∀ (x dp k lv : Nat) (a : gr_dn) (I : hf_I) (Q : Option Value → hf_M → Prop) (D kk nn : Nat) (live b : Int32) (act : Bool), n + 6 ≤ D → x ≤ 1 → k ≤ m → ev_ac live b act → ev_st I0 (B0 + k) b I → (gr_ps S c v n 5 x dp k lv a).1 = 2 → ev_pt t T L P I0 B0 f act b (gr_ps S c v n 5 x dp k lv a) Q → hf_G X Y_X12_plainOf D kk nn 2 [some (.ref 156), some (.int live), some (.int (nI x))] [] (t, T, I, L, P) Q
def ce_all (n : Nat) : Prop := ce_e X t T L P I0 B0 c v m S f Y_X12_partOf 4 0 n ∧ ce_e X t T L P I0 B0 c v m S f Y_X12_termOf 7 1 n ∧ ce_o X t T L P I0 B0 c v m S f Y_X12_termOf 2 n ∧ ce_e X t T L P I0 B0 c v m S f Y_X12_sumOf 7 3 n ∧ ce_o X t T L P I0 B0 c v m S f Y_X12_sumOf 4 n ∧ ce_5 X t T L P I0 B0 c v m S f n ∧ ce_t X t T L P I0 B0 c v m S f Y_X12_positiveOf 7 6 n ∧ ce_t X t T L P I0 B0 c v m S f Y_X12_bothOf 4 7 n ∧ ce_w X t T L P I0 B0 c v m S f Y_X12_bothOf 8 n ∧ ce_t X t T L P I0 B0 c v m S f Y_X12_testOf 4 9 n ∧ ce_w X t T L P I0 B0 c v m S f Y_X12_testOf 10 n
variable {X t T L P I0 B0 c v m S f} {n : Nat}
theorem ev_top (htk : ev_tk I0 S B0 c v m) {nt x dp k lv : Nat} {a : gr_dn} (hnt : nt ≤ 10) (hk : k ≤ m) (h : (gr_ps S c v n nt x dp k lv a).1 = 2) : (gr_ps S c v n nt x dp k lv a).2.1 ≤ m := gr_ps_top htk.2.2.1 n nt x dp k lv a hnt hk (by omega)

theorem ce_1s (hs : hf_Lay t T P) (htk : ev_tk I0 S B0 c v m) (ih : ce_all X t T L P I0 B0 c v m S f n) : ce_e X t T L P I0 B0 c v m S f Y_X12_termOf 7 1 (n + 1) := by
  intro dp k lv a I Q D kk nn live b act hD hkm hac hst hg hpo
  obtain ⟨i0, i1, i2, i3, i4, i5, i6, i7, i8, i9, i10⟩ := ih
  obtain ⟨e, rfl⟩ : ∃ e, D = e + 7 := ⟨D - 7, by omega⟩
  rw [gr_ps_1] at hg hpo
  have e1 := gr_bd_g2 hg
  rw [gr_bd_2 e1] at hg hpo
  have e2 := gr_bd_g2 hg
  rw [gr_bd_2 e2] at hpo
  have top := ev_top (n := n) (nt := 0) (x := 0) (dp := dp) (lv := lv) (a := a) htk (by omega) hkm e1
  refine w_X12_termOf_0 hs (i0 dp k lv a I _ (e + 6) 0 0 live b act (by omega) hkm hac hst e1 ?_)
  intro I1 w fr1 go1 a1 d1
  obtain ⟨b', act', hb', hac', n1, n2, n3⟩ := ev_nx (z := True) (y := fun x => w = x.toInt64) hac a1 d1
  refine w_X12_termOf_5 hs (i2 dp _ _ _ w I1 Q (e + 7) kk nn live b' act' (by omega) top hac' (fun q => (n1 q).2) ⟨fr1, go1, hb'⟩ e2 ?_)
  refine ev_tr (fun q => (n1 q).1) (fun q1 q2 => ⟨gr_ps_none n 2 dp _ _ _ (by omega) (n2 q1 q2).1 e2, (n2 q1 q2).2⟩) n3 ?_
  exact hpo

theorem ce_3s (hs : hf_Lay t T P) (htk : ev_tk I0 S B0 c v m) (ih : ce_all X t T L P I0 B0 c v m S f n) : ce_e X t T L P I0 B0 c v m S f Y_X12_sumOf 7 3 (n + 1) := by
  intro dp k lv a I Q D kk nn live b act hD hkm hac hst hg hpo
  obtain ⟨i0, i1, i2, i3, i4, i5, i6, i7, i8, i9, i10⟩ := ih
  obtain ⟨e, rfl⟩ : ∃ e, D = e + 7 := ⟨D - 7, by omega⟩
  rw [gr_ps_3] at hg hpo
  have e1 := gr_bd_g2 hg
  rw [gr_bd_2 e1] at hg hpo
  have e2 := gr_bd_g2 hg
  rw [gr_bd_2 e2] at hpo
  have top := ev_top (n := n) (nt := 1) (x := 0) (dp := dp) (lv := lv) (a := a) htk (by omega) hkm e1
  refine w_X12_sumOf_0 hs (i1 dp k lv a I _ (e + 6) 0 0 live b act (by omega) hkm hac hst e1 ?_)
  intro I1 w fr1 go1 a1 d1
  obtain ⟨b', act', hb', hac', n1, n2, n3⟩ := ev_nx (z := True) (y := fun x => w = x.toInt64) hac a1 d1
  refine w_X12_sumOf_5 hs (i4 dp _ _ _ w I1 Q (e + 7) kk nn live b' act' (by omega) top hac' (fun q => (n1 q).2) ⟨fr1, go1, hb'⟩ e2 ?_)
  refine ev_tr (fun q => (n1 q).1) (fun q1 q2 => ⟨gr_ps_none n 4 dp _ _ _ (by omega) (n2 q1 q2).1 e2, (n2 q1 q2).2⟩) n3 ?_
  exact hpo

theorem ce_7s (hs : hf_Lay t T P) (htk : ev_tk I0 S B0 c v m) (ih : ce_all X t T L P I0 B0 c v m S f n) : ce_t X t T L P I0 B0 c v m S f Y_X12_bothOf 4 7 (n + 1) := by
  intro dp k lv a I Q D kk nn live b act hD hkm hac hst hg hpo
  obtain ⟨i0, i1, i2, i3, i4, i5, i6, i7, i8, i9, i10⟩ := ih
  obtain ⟨e, rfl⟩ : ∃ e, D = e + 7 := ⟨D - 7, by omega⟩
  rw [gr_ps_7] at hg hpo
  have e1 := gr_bd_g2 hg
  rw [gr_bd_2 e1] at hg hpo
  have e2 := gr_bd_g2 hg
  rw [gr_bd_2 e2] at hpo
  have top := ev_top (n := n) (nt := 5) (x := 0) (dp := dp) (lv := lv) (a := a) htk (by omega) hkm e1
  refine w_X12_bothOf_0 hs (w_X12_plainOf_0 hs (i5 0 dp k lv a I _ (e + 6) 0 0 live b act (by omega) (by omega) hkm hac hst e1 ?_))
  intro I1 w w01 fr1 go1 a1 d1
  obtain ⟨b', act', hb', hac', n1, n2, n3⟩ := ev_nx (z := True) (y := fun x => w = x) hac a1 d1
  refine w_X12_bothOf_5 hs (i8 dp _ _ _ w I1 Q (e + 7) kk nn live b' act' (by omega) top hac' w01 (fun q => by obtain ⟨-, x, hx, hy⟩ := n1 q; rw [hy]; exact hx) ⟨fr1, go1, hb'⟩ e2 ?_)
  refine ev_trt (fun q => (n1 q).1) (fun q1 q2 => ⟨gr_ps_none n 8 dp _ _ _ (by omega) (n2 q1 q2).1 e2, (n2 q1 q2).2⟩) n3 ?_
  exact hpo

theorem ce_9s (hs : hf_Lay t T P) (htk : ev_tk I0 S B0 c v m) (ih : ce_all X t T L P I0 B0 c v m S f n) : ce_t X t T L P I0 B0 c v m S f Y_X12_testOf 4 9 (n + 1) := by
  intro dp k lv a I Q D kk nn live b act hD hkm hac hst hg hpo
  obtain ⟨i0, i1, i2, i3, i4, i5, i6, i7, i8, i9, i10⟩ := ih
  obtain ⟨e, rfl⟩ : ∃ e, D = e + 7 := ⟨D - 7, by omega⟩
  rw [gr_ps_9] at hg hpo
  have e1 := gr_bd_g2 hg
  rw [gr_bd_2 e1] at hg hpo
  have e2 := gr_bd_g2 hg
  rw [gr_bd_2 e2] at hpo
  have top := ev_top (n := n) (nt := 7) (x := 0) (dp := dp) (lv := lv) (a := a) htk (by omega) hkm e1
  refine w_X12_testOf_0 hs (i7 dp k lv a I _ (e + 6) 0 0 live b act (by omega) hkm hac hst e1 ?_)
  intro I1 w w01 fr1 go1 a1 d1
  obtain ⟨b', act', hb', hac', n1, n2, n3⟩ := ev_nx (z := True) (y := fun x => w = x) hac a1 d1
  refine w_X12_testOf_5 hs (i10 dp _ _ _ w I1 Q (e + 7) kk nn live b' act' (by omega) top hac' w01 (fun q => by obtain ⟨-, x, hx, hy⟩ := n1 q; rw [hy]; exact hx) ⟨fr1, go1, hb'⟩ e2 ?_)
  refine ev_trt (fun q => (n1 q).1) (fun q1 q2 => ⟨gr_ps_none n 10 dp _ _ _ (by omega) (n2 q1 q2).1 e2, (n2 q1 q2).2⟩) n3 ?_
  exact hpo

theorem ce_2s (hs : hf_Lay t T P) (htk : ev_tk I0 S B0 c v m) (ih : ce_all X t T L P I0 B0 c v m S f n) : ce_o X t T L P I0 B0 c v m S f Y_X12_termOf 2 (n + 1) := by
  intro dp k lv a x2 I Q D kk nn live b act hD hkm hac hx2 hst hg hpo
  obtain ⟨i0, i1, i2, i3, i4, i5, i6, i7, i8, i9, i10⟩ := ih
  obtain ⟨e, rfl⟩ : ∃ e, D = e + 7 := ⟨D - 7, by omega⟩
  rw [gr_ps_2] at hg hpo
  have c1 := ev_c1000 htk k
  have go : ∀ (ho : ¬ gr_o2 (c k) = 0), hf_G X Y_X12_termOf (e + 7) kk nn 62 [some (.ref 156), some (.int live), some (.long x2), none, none, none, none] [.int (nI (c k))] (t, T, I, L, P) Q := by
    intro ho
    rw [if_neg ho] at hg hpo
    have hk : k < m := ev_lt htk (by intro q; rw [q] at ho; exact ho rfl)
    have e1 := gr_bd_g2 hg
    rw [gr_bd_2 e1] at hg hpo
    have e2 := gr_bd_g2 hg
    rw [gr_bd_2 e2] at hpo
    have top := ev_top (n := n) (nt := 0) (x := 0) (dp := dp) (lv := lv) (a := a) htk (by omega) (show k + 1 ≤ m by omega) e1
    refine w_X12_termOf_62 hs (i0 dp (k + 1) lv a _ _ (e + 6) 0 0 live b act (by omega) (by omega) hac (ev_step hst) e1 ?_)
    intro I1 w fr1 go1 a1 d1
    obtain ⟨b1, act1, hb1, hac1, n1, n2, n3⟩ := ev_nx (z := True) (y := fun x => w = x.toInt64) hac a1 d1
    -- behind the bound
    have fin : ∀ (zz : Int64) (I2 : hf_I) (b2 : Int32) (act2 : Bool), ev_ac live b2 act2 → ev_st I0 (B0 + (gr_ps S c v n 0 0 dp (k + 1) lv a).2.1) b2 I2 → (act2 = true → act = true ∧ gr_dj (gr_o2 (c k)) a (gr_ps S c v n 0 0 dp (k + 1) lv a).2.2.2.2 f = gr_lim zz) → (act = true → act2 = false → gr_dj (gr_o2 (c k)) a (gr_ps S c v n 0 0 dp (k + 1) lv a).2.2.2.2 f = none ∧ b2 = 1) → (act = false → act2 = false ∧ b2 = b) → hf_G X Y_X12_bounded (e + 6) 0 0 0 (hf_en [.ref 156, .long zz, .int live] 4) [] (t, T, I2, L, P) (fun r M => hf_G X Y_X12_termOf (e + 7) kk nn 164 [some (.ref 156), some (.int live), none, none, none, none, none] (r.toList ++ []) M Q) := by
      intro zz I2 b2 act2 hac2 hst2 q1 q2 q3
      refine ev_bounded hs hac2 hst2 fun I3 w3 fr3 go3 a3 d3 => ?_
      obtain ⟨b3, act3, hb3, hac3, p1, p2, p3⟩ := ev_nx (z := True) (y := fun x => w3 = x.toInt64) hac2 a3 d3
      refine w_X12_termOf_164 hs (i2 dp _ _ _ w3 I3 Q (e + 7) kk nn live b3 act3 (by omega) top hac3 (fun q => ?_) ⟨fr3, go3, hb3⟩ e2 ?_)
      · obtain ⟨g1, x, hx, hw⟩ := p1 q
        exact ⟨x, (q1 g1).2.trans hx, hw⟩
      · refine ev_tr (fun q => (q1 (p1 q).1).1) (fun g1 g2 => ?_) (fun g1 => ?_) hpo
        · cases ha2 : act2 with
          | true =>
            obtain ⟨z1, z2⟩ := p2 ha2 g2
            exact ⟨gr_ps_none n 2 dp _ _ _ (by omega) ((q1 ha2).2.trans z1) e2, z2⟩
          | false =>
            obtain ⟨z1, z2⟩ := q2 g1 ha2
            exact ⟨gr_ps_none n 2 dp _ _ _ (by omega) z1 e2, ((p3 ha2).2).trans z2⟩
        · obtain ⟨z1, z2⟩ := q3 g1
          obtain ⟨z3, z4⟩ := p3 z1
          exact ⟨z3, z4.trans z2⟩
    -- the join of a divisor that is not 0, or of a product
    have fin1 : ∀ (zz : Int64), (act1 = true → gr_jn (gr_o2 (c k)) x2 w = zz) → hf_G X Y_X12_bounded (e + 6) 0 0 0 (hf_en [.ref 156, .long zz, .int live] 4) [] (t, T, I1, L, P) (fun r M => hf_G X Y_X12_termOf (e + 7) kk nn 164 [some (.ref 156), some (.int live), none, none, none, none, none] (r.toList ++ []) M Q) := by
      intro zz hzz
      refine fin zz I1 b1 act1 hac1 ⟨fr1, go1, hb1⟩ (fun q => ?_) (fun q1 q2 => ?_) n3
      · obtain ⟨ha, x, hx, hw⟩ := n1 q
        obtain ⟨y, hy, hy2⟩ := hx2 ha
        refine ⟨ha, ?_⟩
        rw [← hzz q, hy2, hw]
        simp [gr_dj, hy, hx]
      · obtain ⟨z1, z2⟩ := n2 q1 q2
        refine ⟨?_, z2⟩
        obtain ⟨y, hy, hy2⟩ := hx2 q1
        simp [gr_dj, hy, z1]
    have l142 : (nI (c k) = 142) ↔ c k = 142 := nI_eq (b := 142) (by omega) (by omega)
    have l147 : (nI (c k) = 147) ↔ c k = 147 := nI_eq (b := 147) (by omega) (by omega)
    refine w_X12_termOf_79 hs ?_
    rw [l142, l147, hb1]
    by_cases h142 : c k = 142
    · have key := fin1 (x2 * w) (fun _ => by rw [h142]; rfl)
      exact ⟨fun _ => ⟨fun q => absurd h142 q, fun _ => key⟩, fun q => absurd h142 q⟩
    · have nz : ¬ lg_cmp w 0 = 0 → ¬ w = 0 := fun q z => q (by rw [z]; decide)
      refine ⟨fun q => absurd q h142, fun _ => ⟨fun hz => ⟨fun _ => ⟨fun h147 => ⟨nz hz, fin1 _ fun _ => ?_⟩, fun h147 => ⟨nz hz, fin1 _ fun _ => ?_⟩⟩, fun q => absurd q h142⟩, fun hz => ?_⟩⟩
      · have h137 : c k = 137 := by rcases gr_o2_ne ho with q | q | q <;> first | contradiction | exact q
        rw [h137]
        show (if lg_cmp w 0 = 0 then 1000000001 else x2 - x2 / w * w) = _
        rw [if_neg hz]
      · rw [h147]
        show (if lg_cmp w 0 = 0 then 1000000001 else x2 / w) = _
        rw [if_neg hz]
      · -- divided by 0
        have dz : act1 = true → gr_dj (gr_o2 (c k)) a (gr_ps S c v n 0 0 dp (k + 1) lv a).2.2.2.2 f = none := by
          intro q
          obtain ⟨ha, x, hx, hw⟩ := n1 q
          obtain ⟨y, hy, hy2⟩ := hx2 ha
          have hz' : lg_cmp x.toInt64 0 = 0 := by rw [← hw]; exact hz
          have : gr_jn (gr_o2 (c k)) y.toInt64 x.toInt64 = 1000000001 := by
            rcases gr_o2_ne ho with q | q | q
            · exact absurd q h142
            · rw [q]; show (if lg_cmp x.toInt64 0 = 0 then 1000000001 else y.toInt64 / x.toInt64) = _; rw [if_pos hz']
            · rw [q]; show (if lg_cmp x.toInt64 0 = 0 then 1000000001 else y.toInt64 - y.toInt64 / x.toInt64 * x.toInt64) = _; rw [if_pos hz']
          simp only [gr_dj, hy, hx, Option.bind_some, this]
          decide
        have brk : ∀ (zz : Int64), ¬ (act1 = false ∧ b1 = 0) → hf_G X Y_X12_bounded (e + 6) 0 0 0 (hf_en [.ref 156, .long zz, .int live] 4) [] (t, T, hf_up I1 156 21 1, L, P) (fun r M => hf_G X Y_X12_termOf (e + 7) kk nn 164 [some (.ref 156), some (.int live), none, none, none, none, none] (r.toList ++ []) M Q) := by
          intro zz hn
          refine fin zz _ 1 false ⟨Or.inr rfl, (fun q => by cases q), fun _ => Or.inr rfl⟩ ⟨ev_fr_up (Or.inr rfl) fr1, go1, rfl⟩ (fun q => by cases q) (fun q1 _ => ?_) (fun q1 => ⟨rfl, ?_⟩)
          · refine ⟨?_, rfl⟩
            cases ha1 : act1 with
            | true => exact dz ha1
            | false =>
              obtain ⟨y, hy, hy2⟩ := hx2 q1
              simp [gr_dj, hy, (n2 q1 ha1).1]
          · obtain ⟨z1, z2⟩ := n3 q1
            rcases hac1.1 with q | q
            · exact absurd ⟨z1, q⟩ hn
            · rw [← z2, q]
        have liv : ∀ (zz : Int64), live = 0 → b1 = 0 → hf_G X Y_X12_bounded (e + 6) 0 0 0 (hf_en [.ref 156, .long zz, .int live] 4) [] (t, T, hf_up I1 156 21 0, L, P) (fun r M => hf_G X Y_X12_termOf (e + 7) kk nn 164 [some (.ref 156), some (.int live), none, none, none, none, none] (r.toList ++ []) M Q) := by
          intro zz hl hb0
          have na : act1 = false := by
            cases ha1 : act1 with
            | true => exact absurd hl (hac1.2.1 ha1).1
            | false => rfl
          have nb : act = false := by
            cases ha : act with
            | true => exact absurd hl (hac.2.1 ha).1
            | false => rfl
          refine fin zz _ 0 false ⟨Or.inl rfl, (fun q => by cases q), fun _ => Or.inl hl⟩ ⟨ev_fr_up (Or.inr rfl) fr1, go1, rfl⟩ (fun q => by cases q) (fun q1 _ => by rw [nb] at q1; cases q1) (fun q1 => ⟨rfl, ?_⟩)
          rw [← (n3 q1).2, hb0]
        refine ⟨fun hb => ⟨fun _ => ⟨fun _ => brk _ (fun q => hb q.2), fun _ => brk _ (fun q => hb q.2)⟩, fun q => absurd q h142⟩, fun hb => ⟨fun hl => ⟨fun _ => ⟨fun _ => liv _ hl hb, fun _ => liv _ hl hb⟩, fun q => absurd q h142⟩, fun hl => ?_⟩⟩
        have nn2 : ¬ (act1 = false ∧ b1 = 0) := by
          rintro ⟨q1, q2⟩
          rcases hac1.2.2 q1 with q | q
          · exact hl q
          · rw [q2] at q; exact absurd q (by decide)
        exact ⟨fun _ => ⟨fun _ => brk _ nn2, fun _ => brk _ nn2⟩, fun q => absurd q h142⟩
  have no : ∀ (ho : gr_o2 (c k) = 0), Q (some (.long x2)) (t, T, I, L, P) := by
    intro ho
    rw [if_pos ho] at hpo
    refine hpo I x2 hst.1 hst.2.1 (fun q => ?_) (fun _ => hst.2.2)
    obtain ⟨y, hy, hy2⟩ := hx2 q
    have hb0 := (hac.2.1 q).2
    refine ⟨fun x hx => ⟨?_, hst.2.2.trans hb0⟩, fun hx => ?_⟩
    · have hx' : a f = some x := hx
      rw [hy] at hx'
      cases hx'
      exact hy2
    · have hx' : a f = none := hx
      rw [hy] at hx'
      cases hx'
  have l142 : (nI (c k) = 142) ↔ c k = 142 := nI_eq (b := 142) (by omega) (by omega)
  have l147 : (nI (c k) = 147) ↔ c k = 147 := nI_eq (b := 147) (by omega) (by omega)
  have l137 : (nI (c k) = 137) ↔ c k = 137 := nI_eq (b := 137) (by omega) (by omega)
  refine w_X12_termOf_6 hs (ev_code hs htk hkm hst (w_X12_termOf_14 hs ⟨fun q => ev_code hs htk hkm hst (go (by rw [l142.mp q]; decide)), fun q1 => ev_code hs htk hkm hst (w_X12_termOf_30 hs ⟨fun q => ev_code hs htk hkm hst (go (by rw [l147.mp q]; decide)), fun q2 => ev_code hs htk hkm hst (w_X12_termOf_46 hs ⟨fun q3 => no ?_, fun q => ev_code hs htk hkm hst (go (by rw [l137.mp q]; decide))⟩)⟩)⟩))
  rw [l142] at q1
  rw [l147] at q2
  rw [l137] at q3
  unfold gr_o2
  simp [q1, q2, q3]

theorem ce_4s (hs : hf_Lay t T P) (htk : ev_tk I0 S B0 c v m) (ih : ce_all X t T L P I0 B0 c v m S f n) : ce_o X t T L P I0 B0 c v m S f Y_X12_sumOf 4 (n + 1) := by
  intro dp k lv a x2 I Q D kk nn live b act hD hkm hac hx2 hst hg hpo
  obtain ⟨i0, i1, i2, i3, i4, i5, i6, i7, i8, i9, i10⟩ := ih
  obtain ⟨e, rfl⟩ : ∃ e, D = e + 7 := ⟨D - 7, by omega⟩
  rw [gr_ps_4] at hg hpo
  have c1 := ev_c1000 htk k
  have l143 : (nI (c k) = 143) ↔ c k = 143 := nI_eq (b := 143) (by omega) (by omega)
  have l145 : (nI (c k) = 145) ↔ c k = 145 := nI_eq (b := 145) (by omega) (by omega)
  have go : ∀ (ho : ¬ gr_o4 (c k) = 0), hf_G X Y_X12_sumOf (e + 7) kk nn 46 [some (.ref 156), some (.int live), some (.long x2), none, none, none, none] [.int (nI (c k))] (t, T, I, L, P) Q := by
    intro ho
    rw [if_neg ho] at hg hpo
    have hk : k < m := ev_lt htk (by intro q; rw [q] at ho; exact ho rfl)
    have e1 := gr_bd_g2 hg
    rw [gr_bd_2 e1] at hg hpo
    have e2 := gr_bd_g2 hg
    rw [gr_bd_2 e2] at hpo
    have top := ev_top (n := n) (nt := 1) (x := 0) (dp := dp) (lv := lv) (a := a) htk (by omega) (show k + 1 ≤ m by omega) e1
    have key : ∀ (pl : Int32) (J : Int64 → Int64), (∀ I1 w, hf_G X Y_X12_bounded (e + 6) 0 0 0 (hf_en [.ref 156, .long (J w), .int live] 4) [] (t, T, I1, L, P) (fun r M => hf_G X Y_X12_sumOf (e + 7) kk nn 99 [some (.ref 156), some (.int live), none, none, none, none, none] (r.toList ++ []) M Q) → hf_G X Y_X12_sumOf (e + 7) kk nn 76 [some (.ref 156), some (.int live), some (.long x2), none, some (.int pl), none, none] [.long w] (t, T, I1, L, P) Q) → (∀ w, gr_jn (gr_o4 (c k)) x2 w = J w) → hf_G X Y_X12_termOf (e + 6) 0 0 0 (hf_en [.ref 156, .int live] 7) [] (t, T, hf_up I 156 19 (I 156 19 + 1), L, P) (fun r M => hf_G X Y_X12_sumOf (e + 7) kk nn 76 [some (.ref 156), some (.int live), some (.long x2), none, some (.int pl), none, none] (r.toList ++ []) M Q) := by
      intro pl J hJ hjn
      refine i1 dp (k + 1) lv a _ _ (e + 6) 0 0 live b act (by omega) (by omega) hac (ev_step hst) e1 ?_
      intro I1 w fr1 go1 a1 d1
      obtain ⟨b1, act1, hb1, hac1, n1, n2, n3⟩ := ev_nx (z := True) (y := fun x => w = x.toInt64) hac a1 d1
      refine hJ I1 w (ev_bounded hs hac1 ⟨fr1, go1, hb1⟩ fun I3 w3 fr3 go3 a3 d3 => ?_)
      have dj : act1 = true → gr_dj (gr_o4 (c k)) a (gr_ps S c v n 1 0 dp (k + 1) lv a).2.2.2.2 f = gr_lim (J w) := by
        intro q
        obtain ⟨ha, x, hx, hw⟩ := n1 q
        obtain ⟨y, hy, hy2⟩ := hx2 ha
        rw [← hjn, hy2, hw]
        simp [gr_dj, hy, hx]
      obtain ⟨b3, act3, hb3, hac3, p1, p2, p3⟩ := ev_nx (z := True) (y := fun x => w3 = x.toInt64) hac1 a3 d3
      refine w_X12_sumOf_99 hs (i4 dp _ _ _ w3 I3 Q (e + 7) kk nn live b3 act3 (by omega) top hac3 (fun q => ?_) ⟨fr3, go3, hb3⟩ e2 ?_)
      · obtain ⟨g1, x, hx, hw⟩ := p1 q
        exact ⟨x, (dj g1).trans hx, hw⟩
      · refine ev_tr (fun q => (n1 (p1 q).1).1) (fun g1 g2 => ?_) (fun g1 => ?_) hpo
        · cases ha2 : act1 with
          | true =>
            obtain ⟨z1, z2⟩ := p2 ha2 g2
            exact ⟨gr_ps_none n 4 dp _ _ _ (by omega) ((dj ha2).trans z1) e2, z2⟩
          | false =>
            obtain ⟨z1, z2⟩ := n2 g1 ha2
            refine ⟨gr_ps_none n 4 dp _ _ _ (by omega) ?_ e2, ((p3 ha2).2).trans z2⟩
            obtain ⟨y, hy, hy2⟩ := hx2 g1
            simp [gr_dj, hy, z1]
        · obtain ⟨z1, z2⟩ := n3 g1
          obtain ⟨z3, z4⟩ := p3 z1
          exact ⟨z3, z4.trans z2⟩
    refine w_X12_sumOf_46 hs ⟨fun q => ?_, fun q => ?_⟩
    · have h145 : c k = 145 := by
        rw [l143] at q
        rcases gr_o4_ne ho with z | z
        · exact absurd z q
        · exact z
      exact key 0 (fun w => x2 - w) (fun I1 w h => w_X12_sumOf_76 hs ⟨fun _ => h, fun q => absurd rfl q⟩) (fun w => by rw [h145]; rfl)
    · exact key 1 (fun w => x2 + w) (fun I1 w h => w_X12_sumOf_76 hs ⟨fun q => absurd q (by decide), fun _ => h⟩) (fun w => by rw [l143.mp q]; rfl)
  have no : ∀ (ho : gr_o4 (c k) = 0), Q (some (.long x2)) (t, T, I, L, P) := by
    intro ho
    rw [if_pos ho] at hpo
    refine hpo I x2 hst.1 hst.2.1 (fun q => ?_) (fun _ => hst.2.2)
    obtain ⟨y, hy, hy2⟩ := hx2 q
    have hb0 := (hac.2.1 q).2
    refine ⟨fun x hx => ⟨?_, hst.2.2.trans hb0⟩, fun hx => ?_⟩
    · have hx' : a f = some x := hx
      rw [hy] at hx'
      cases hx'
      exact hy2
    · have hx' : a f = none := hx
      rw [hy] at hx'
      cases hx'
  refine w_X12_sumOf_6 hs (ev_code hs htk hkm hst (w_X12_sumOf_14 hs ⟨fun q => ev_code hs htk hkm hst (go (by rw [l143.mp q]; decide)), fun q1 => ev_code hs htk hkm hst (w_X12_sumOf_30 hs ⟨fun q3 => no ?_, fun q => ev_code hs htk hkm hst (go (by rw [l145.mp q]; decide))⟩)⟩))
  rw [l143] at q1
  rw [l145] at q3
  unfold gr_o4
  simp [q1, q3]

theorem ce_8s (hs : hf_Lay t T P) (htk : ev_tk I0 S B0 c v m) (ih : ce_all X t T L P I0 B0 c v m S f n) : ce_w X t T L P I0 B0 c v m S f Y_X12_bothOf 8 (n + 1) := by
  intro dp k lv a x2 I Q D kk nn live b act hD hkm hac h01 hx2 hst hg hpo
  obtain ⟨i0, i1, i2, i3, i4, i5, i6, i7, i8, i9, i10⟩ := ih
  obtain ⟨e, rfl⟩ : ∃ e, D = e + 7 := ⟨D - 7, by omega⟩
  rw [gr_ps_8] at hg hpo
  refine w_X12_bothOf_6 hs (ev_pass (ch := 6) hs htk hkm (by omega) hst (fun ho I1 hst1 => ?_) fun ho => ?_)
  · rw [if_pos ho] at hg hpo
    have hk : k < m := ev_lt htk (by omega)
    have e1 := gr_bd_g2 hg
    rw [gr_bd_2 e1] at hg hpo
    have e2 := gr_bd_g2 hg
    rw [gr_bd_2 e2] at hpo
    have top := ev_top (n := n) (nt := 5) (x := 0) (dp := dp) (lv := lv) (a := a) htk (by omega) (show k + 1 ≤ m by omega) e1
    -- gone through, only: the value stays
    have dead : (x2 = 0 ∨ act = false) → hf_G X Y_X12_plainOf (e + 6) 0 0 0 (hf_en [.ref 156, .int 0] 3) [] (t, T, I1, L, P) (fun r M => hf_G X Y_X12_bothOf (e + 7) kk nn 32 [some (.ref 156), some (.int live), some (.int x2), none] (r.toList ++ []) M Q) := by
      intro hd
      refine w_X12_plainOf_0 hs (i5 0 dp (k + 1) lv a I1 _ (e + 6) 0 0 0 b false (by omega) (by omega) (by omega) ⟨hac.1, (fun q => by cases q), fun _ => Or.inl rfl⟩ hst1 e1 ?_)
      intro I2 w w01 fr2 go2 a2 d2
      have hb2 := d2 rfl
      have next : ∀ y : Int32, (y = 0 ∨ y = 1) → (act = true → y = x2) → hf_G X Y_X12_bothOf (e + 7) kk nn 6 [some (.ref 156), some (.int live), some (.int y), none] [] (t, T, I2, L, P) Q := by
        intro y hy01 hy
        refine i8 dp _ _ _ y I2 Q (e + 7) kk nn live b act (by omega) top hac hy01 (fun q => ?_) ⟨fr2, go2, hb2⟩ e2 hpo
        rw [hy q]
        rcases hd with hd | hd
        · have := hx2 q
          simp [gr_dan, this, hd]
        · rw [hd] at q; cases q
      refine w_X12_bothOf_32 hs ⟨fun q => ?_, fun q => ⟨fun q3 => ?_, fun q3 => ?_⟩⟩
      · exact next 0 (Or.inl rfl) (fun _ => q.symm)
      · refine next 0 (Or.inl rfl) (fun z => ?_)
        rcases hd with hd | hd
        · exact absurd hd q
        · rw [hd] at z; cases z
      · refine next 1 (Or.inr rfl) (fun z => ?_)
        rcases hd with hd | hd
        · exact absurd hd q
        · rw [hd] at z; cases z
    have alive : ¬ live = 0 → ¬ x2 = 0 → hf_G X Y_X12_plainOf (e + 6) 0 0 0 (hf_en [.ref 156, .int 1] 3) [] (t, T, I1, L, P) (fun r M => hf_G X Y_X12_bothOf (e + 7) kk nn 32 [some (.ref 156), some (.int live), some (.int x2), none] (r.toList ++ []) M Q) := by
      intro hl hx
      have hac1 : ev_ac 1 b act := by
        refine ⟨hac.1, fun q => ⟨by decide, (hac.2.1 q).2⟩, fun q => ?_⟩
        rcases hac.2.2 q with z | z
        · exact absurd z hl
        · exact Or.inr z
      refine w_X12_plainOf_0 hs (i5 0 dp (k + 1) lv a I1 _ (e + 6) 0 0 1 b act (by omega) (by omega) (by omega) hac1 hst1 e1 ?_)
      intro I2 w w01 fr2 go2 a2 d2
      obtain ⟨b1, act1, hb1, hac2, n1, n2, n3⟩ := ev_nx (z := True) (y := fun x => w = x) hac1 a2 d2
      have hac3 : ev_ac live b1 act1 := by
        refine ⟨hac2.1, fun q => ⟨hl, (hac2.2.1 q).2⟩, fun q => ?_⟩
        rcases hac2.2.2 q with z | z
        · exact absurd z (by decide)
        · exact Or.inr z
      have dn : act = true → gr_dan a (gr_ps S c v n 5 0 dp (k + 1) lv a).2.2.2.2 f = (gr_ps S c v n 5 0 dp (k + 1) lv a).2.2.2.2 f := by
        intro q
        have := hx2 q
        simp [gr_dan, this, hx]
      have next : hf_G X Y_X12_bothOf (e + 7) kk nn 6 [some (.ref 156), some (.int live), some (.int w), none] [] (t, T, I2, L, P) Q := by
        refine i8 dp _ _ _ w I2 Q (e + 7) kk nn live b1 act1 (by omega) top hac3 w01 (fun q => ?_) ⟨fr2, go2, hb1⟩ e2 ?_
        · obtain ⟨ha, x, hx1, hw⟩ := n1 q
          rw [dn ha, hx1, hw]
        · exact ev_trt (fun q => (n1 q).1) (fun q1 q2 => ⟨gr_ps_none n 8 dp _ _ _ (by omega) ((dn q1).trans (n2 q1 q2).1) e2, (n2 q1 q2).2⟩) n3 hpo
      refine w_X12_bothOf_32 hs ⟨fun q => absurd q hx, fun _ => ⟨fun q3 => ?_, fun q3 => ?_⟩⟩
      · rw [q3] at next; exact next
      · rcases w01 with z | z
        · exact absurd z q3
        · rw [z] at next; exact next
    have hdl : live = 0 → act = false := fun q => by
      cases ha : act with
      | true => exact absurd q (hac.2.1 ha).1
      | false => rfl
    exact w_X12_bothOf_12 hs ⟨fun q => absurd q (by decide), fun _ => ⟨fun hl => dead (Or.inr (hdl hl)), fun hl => ⟨fun hx => dead (Or.inl hx), fun hx => alive hl hx⟩⟩⟩
  · rw [if_neg ho] at hpo
    refine w_X12_bothOf_12 hs ⟨fun _ => ⟨?_, ?_⟩, fun q => absurd rfl q⟩
    · rcases h01 with z | z <;> rw [z]
      · exact hf_nb0
      · exact hf_nb1
    · refine hpo I x2 h01 hst.1 hst.2.1 (fun q => ?_) (fun _ => hst.2.2)
      have hy := hx2 q
      refine ⟨fun x hx => ⟨?_, hst.2.2.trans (hac.2.1 q).2⟩, fun hx => ?_⟩
      · have hx' : a f = some x := hx
        rw [hy] at hx'
        cases hx'
        rfl
      · have hx' : a f = none := hx
        rw [hy] at hx'
        cases hx'

theorem ce_10s (hs : hf_Lay t T P) (htk : ev_tk I0 S B0 c v m) (ih : ce_all X t T L P I0 B0 c v m S f n) : ce_w X t T L P I0 B0 c v m S f Y_X12_testOf 10 (n + 1) := by
  intro dp k lv a x2 I Q D kk nn live b act hD hkm hac h01 hx2 hst hg hpo
  obtain ⟨i0, i1, i2, i3, i4, i5, i6, i7, i8, i9, i10⟩ := ih
  obtain ⟨e, rfl⟩ : ∃ e, D = e + 7 := ⟨D - 7, by omega⟩
  rw [gr_ps_10] at hg hpo
  refine w_X12_testOf_6 hs (ev_pass (ch := 5) hs htk hkm (by omega) hst (fun ho I1 hst1 => ?_) fun ho => ?_)
  · rw [if_pos ho] at hg hpo
    have hk : k < m := ev_lt htk (by omega)
    have e1 := gr_bd_g2 hg
    rw [gr_bd_2 e1] at hg hpo
    have e2 := gr_bd_g2 hg
    rw [gr_bd_2 e2] at hpo
    have top := ev_top (n := n) (nt := 7) (x := 0) (dp := dp) (lv := lv) (a := a) htk (by omega) (show k + 1 ≤ m by omega) e1
    -- gone through, only: the value stays
    have dead : (¬ x2 = 0 ∨ act = false) → hf_G X Y_X12_bothOf (e + 6) 0 0 0 (hf_en [.ref 156, .int 0] 4) [] (t, T, I1, L, P) (fun r M => hf_G X Y_X12_testOf (e + 7) kk nn 31 [some (.ref 156), some (.int live), some (.int x2), none] (r.toList ++ []) M Q) := by
      intro hd
      refine i7 dp (k + 1) lv a I1 _ (e + 6) 0 0 0 b false (by omega) (by omega) ⟨hac.1, (fun q => by cases q), fun _ => Or.inl rfl⟩ hst1 e1 ?_
      intro I2 w w01 fr2 go2 a2 d2
      have hb2 := d2 rfl
      have next : ∀ y : Int32, (y = 0 ∨ y = 1) → (act = true → y = x2) → hf_G X Y_X12_testOf (e + 7) kk nn 6 [some (.ref 156), some (.int live), some (.int y), none] [] (t, T, I2, L, P) Q := by
        intro y hy01 hy
        refine i10 dp _ _ _ y I2 Q (e + 7) kk nn live b act (by omega) top hac hy01 (fun q => ?_) ⟨fr2, go2, hb2⟩ e2 hpo
        rw [hy q]
        rcases hd with hd | hd
        · have := hx2 q
          simp [gr_dor, this, hd]
        · rw [hd] at q; cases q
      refine w_X12_testOf_31 hs ⟨fun q => ?_, fun q => ⟨fun q3 => ?_, fun q3 => ?_⟩⟩
      · refine next 1 (Or.inr rfl) (fun _ => ?_)
        rcases h01 with z | z
        · exact absurd z q
        · exact z.symm
      · refine next 0 (Or.inl rfl) (fun z => q.symm)
      · refine next 1 (Or.inr rfl) (fun z => ?_)
        rcases hd with hd | hd
        · exact absurd q hd
        · rw [hd] at z; cases z
    have alive : ¬ live = 0 → x2 = 0 → hf_G X Y_X12_bothOf (e + 6) 0 0 0 (hf_en [.ref 156, .int 1] 4) [] (t, T, I1, L, P) (fun r M => hf_G X Y_X12_testOf (e + 7) kk nn 31 [some (.ref 156), some (.int live), some (.int x2), none] (r.toList ++ []) M Q) := by
      intro hl hx
      have hac1 : ev_ac 1 b act := by
        refine ⟨hac.1, fun q => ⟨by decide, (hac.2.1 q).2⟩, fun q => ?_⟩
        rcases hac.2.2 q with z | z
        · exact absurd z hl
        · exact Or.inr z
      refine i7 dp (k + 1) lv a I1 _ (e + 6) 0 0 1 b act (by omega) (by omega) hac1 hst1 e1 ?_
      intro I2 w w01 fr2 go2 a2 d2
      obtain ⟨b1, act1, hb1, hac2, n1, n2, n3⟩ := ev_nx (z := True) (y := fun x => w = x) hac1 a2 d2
      have hac3 : ev_ac live b1 act1 := by
        refine ⟨hac2.1, fun q => ⟨hl, (hac2.2.1 q).2⟩, fun q => ?_⟩
        rcases hac2.2.2 q with z | z
        · exact absurd z (by decide)
        · exact Or.inr z
      have dn : act = true → gr_dor a (gr_ps S c v n 7 0 dp (k + 1) lv a).2.2.2.2 f = (gr_ps S c v n 7 0 dp (k + 1) lv a).2.2.2.2 f := by
        intro q
        have := hx2 q
        simp [gr_dor, this, hx]
      have next : hf_G X Y_X12_testOf (e + 7) kk nn 6 [some (.ref 156), some (.int live), some (.int w), none] [] (t, T, I2, L, P) Q := by
        refine i10 dp _ _ _ w I2 Q (e + 7) kk nn live b1 act1 (by omega) top hac3 w01 (fun q => ?_) ⟨fr2, go2, hb1⟩ e2 ?_
        · obtain ⟨ha, x, hx1, hw⟩ := n1 q
          rw [dn ha, hx1, hw]
        · exact ev_trt (fun q => (n1 q).1) (fun q1 q2 => ⟨gr_ps_none n 10 dp _ _ _ (by omega) ((dn q1).trans (n2 q1 q2).1) e2, (n2 q1 q2).2⟩) n3 hpo
      refine w_X12_testOf_31 hs ⟨fun q => absurd hx q, fun _ => ⟨fun q3 => ?_, fun q3 => ?_⟩⟩
      · rw [q3] at next; exact next
      · rcases w01 with z | z
        · exact absurd z q3
        · rw [z] at next; exact next
    have hdl : live = 0 → act = false := fun q => by
      cases ha : act with
      | true => exact absurd q (hac.2.1 ha).1
      | false => rfl
    exact w_X12_testOf_11 hs ⟨fun q => absurd q (by decide), fun _ => ⟨fun hl => dead (Or.inr (hdl hl)), fun hl => ⟨fun hx => dead (Or.inl hx), fun hx => alive hl hx⟩⟩⟩
  · rw [if_neg ho] at hpo
    refine w_X12_testOf_11 hs ⟨fun _ => ⟨?_, ?_⟩, fun q => absurd rfl q⟩
    · rcases h01 with z | z <;> rw [z]
      · exact hf_nb0
      · exact hf_nb1
    · refine hpo I x2 h01 hst.1 hst.2.1 (fun q => ?_) (fun _ => hst.2.2)
      have hy := hx2 q
      refine ⟨fun x hx => ⟨?_, hst.2.2.trans (hac.2.1 q).2⟩, fun hx => ?_⟩
      · have hx' : a f = some x := hx
        rw [hy] at hx'
        cases hx'
        rfl
      · have hx' : a f = none := hx
        rw [hy] at hx'
        cases hx'

theorem ce_5s (hs : hf_Lay t T P) (htk : ev_tk I0 S B0 c v m) (ih : ce_all X t T L P I0 B0 c v m S f n) : ce_5 X t T L P I0 B0 c v m S f (n + 1) := by
  intro x dp k lv a I Q D kk nn live b act hD hx hkm hac hst hg hpo
  obtain ⟨i0, i1, i2, i3, i4, i5, i6, i7, i8, i9, i10⟩ := ih
  obtain ⟨e, rfl⟩ : ∃ e, D = e + 7 := ⟨D - 7, by omega⟩
  rw [gr_ps_5] at hg hpo
  have lx : (nI x = 0) ↔ x = 0 := nI_eq (b := 0) (by omega) (by omega)
  refine w_X12_plainOf_2 hs (ev_pass (ch := 7) hs htk hkm (by omega) hst (fun ho I1 hst1 => ?_) fun ho => ?_)
  · rw [if_pos ho] at hg hpo
    have hk : k < m := ev_lt htk (by omega)
    refine w_X12_plainOf_8 hs ⟨fun q => absurd q (by decide), fun _ => ⟨fun q => ?_, fun q => ?_⟩⟩
    · rw [lx] at q
      rw [if_neg q] at hg hpo
      exact i5 0 dp (k + 1) lv a I1 Q (e + 7) kk nn live b act (by omega) (by omega) (by omega) hac hst1 hg hpo
    · rw [lx] at q
      rw [if_pos q] at hg hpo
      exact i5 1 dp (k + 1) lv a I1 Q (e + 7) kk nn live b act (by omega) (by omega) (by omega) hac hst1 hg hpo
  · rw [if_neg ho] at hg hpo
    have e1 := gr_bd_g2 hg
    rw [gr_bd_2 e1] at hpo
    refine w_X12_plainOf_8 hs ⟨fun _ => i6 dp k lv a I _ (e + 6) 0 0 live b act (by omega) hkm hac hst e1 ?_, fun q => absurd rfl q⟩
    intro I1 w w01 fr1 go1 a1 d1
    by_cases x0 : x = 0
    · rw [if_pos x0] at hpo
      have key := hpo I1 w w01 fr1 go1 a1 d1
      refine w_X12_plainOf_29 hs ⟨fun q => ?_, fun q => ?_⟩
      · rw [q, x0] at key; exact key
      · rw [x0] at q
        rcases w01 with z | z
        · exact absurd z q
        · rw [z] at key; exact key
    · rw [if_neg x0] at hpo
      have x1 : x = 1 := by omega
      have key : ∀ y : Int32, (y = 0 ∨ y = 1) → (w = 0 → y = 1) → (w = 1 → y = 0) → Q (some (.int y)) (t, T, I1, L, P) := by
        intro y hy q0 q1
        refine hpo I1 y hy fr1 go1 (fun q => ⟨fun u hu => ?_, fun hu => ?_⟩) d1
        · have hu' : gr_dno (gr_ps S c v n 6 0 dp k lv a).2.2.2.2 f = some u := hu
          cases hd : (gr_ps S c v n 6 0 dp k lv a).2.2.2.2 f with
          | none => simp [gr_dno, hd] at hu'
          | some z =>
            obtain ⟨p1, p2⟩ := (a1 q).1 z hd
            simp [gr_dno, hd] at hu'
            refine ⟨?_, p2⟩
            rcases w01 with zz | zz
            · rw [q0 zz, ← hu', ← p1, zz, if_pos rfl]
            · rw [q1 zz, ← hu', ← p1, zz, if_neg (by decide)]
        · have hu' : gr_dno (gr_ps S c v n 6 0 dp k lv a).2.2.2.2 f = none := hu
          cases hd : (gr_ps S c v n 6 0 dp k lv a).2.2.2.2 f with
          | none => exact (a1 q).2 hd
          | some z => simp [gr_dno, hd] at hu'
      refine w_X12_plainOf_29 hs ⟨fun q => ?_, fun q => ?_⟩
      · rw [x1] at q
        exact key 0 (Or.inl rfl) (fun z => by rw [z] at q; exact absurd q (by decide)) (fun _ => rfl)
      · rw [x1] at q
        exact key 1 (Or.inr rfl) (fun _ => rfl) (fun z => absurd z q)
theorem ce_6s (hs : hf_Lay t T P) (htk : ev_tk I0 S B0 c v m) (ih : ce_all X t T L P I0 B0 c v m S f n) : ce_t X t T L P I0 B0 c v m S f Y_X12_positiveOf 7 6 (n + 1) := by
  intro dp k lv a I Q D kk nn live b act hD hkm hac hst hg hpo
  obtain ⟨i0, i1, i2, i3, i4, i5, i6, i7, i8, i9, i10⟩ := ih
  obtain ⟨e, rfl⟩ : ∃ e, D = e + 7 := ⟨D - 7, by omega⟩
  rw [gr_ps_6] at hg hpo
  refine w_X12_positiveOf_0 hs (ev_pass (ch := 140) hs htk hkm (by omega) hst (fun ho I1 hst1 => ?_) fun ho => ?_)
  · rw [if_pos ho] at hg hpo
    have hk : k < m := ev_lt htk (by omega)
    by_cases h8 : dp = 8
    · rw [if_pos h8] at hg
      exact absurd hg (by show ¬ (1 = 2); omega)
    · rw [if_neg h8] at hg hpo
      have e1 := gr_bd_g2 hg
      rw [gr_bd_2 e1] at hg hpo
      refine w_X12_positiveOf_9 hs ⟨fun q => absurd q (by decide), fun _ => i9 (dp + 1) (k + 1) lv a I1 _ (e + 6) 0 0 live b act (by omega) (by omega) hac hst1 e1 ?_⟩
      intro I2 w w01 fr2 go2 a2 d2
      by_cases hc : c (gr_ps S c v n 9 0 (dp + 1) (k + 1) lv a).2.1 = 141
      · rw [if_pos hc] at hpo
        refine w_X12_positiveOf_17 hs ⟨?_, ?_⟩
        · rcases w01 with z | z <;> rw [z]
          · exact hf_nb0
          · exact hf_nb1
        · refine hpo _ w w01 (ev_fr_up (Or.inl rfl) fr2) ?_ a2 d2
          show I2 156 19 + 1 = _
          rw [go2, nI_1, Nat.add_assoc]
          rfl
      · rw [if_neg hc] at hg
        exact absurd hg (by show ¬ (1 = 2); omega)
  · rw [if_neg ho] at hg hpo
    have e1 := gr_bd_g2 hg
    rw [gr_bd_2 e1] at hg hpo
    have top := ev_top (n := n) (nt := 3) (x := 0) (dp := dp) (lv := lv) (a := a) htk (by omega) hkm e1
    by_cases hc : gr_o6 (c (gr_ps S c v n 3 0 dp k lv a).2.1) = 0
    · rw [if_pos hc] at hg
      exact absurd hg (by show ¬ (1 = 2); omega)
    · rw [if_neg hc] at hg hpo
      have e2 := gr_bd_g2 hg
      rw [gr_bd_2 e2] at hpo
      have hk1 : (gr_ps S c v n 3 0 dp k lv a).2.1 < m := ev_lt htk (by intro q; rw [q] at hc; exact hc rfl)
      refine w_X12_positiveOf_9 hs ⟨fun _ => i3 dp k lv a I _ (e + 6) 0 0 live b act (by omega) hkm hac hst e1 ?_, fun q => absurd rfl q⟩
      intro I1 w1 fr1 go1 a1 d1
      obtain ⟨b1, act1, hb1, hac1, n1, n2, n3⟩ := ev_nx (z := True) (y := fun x => w1 = x.toInt64) hac a1 d1
      refine w_X12_positiveOf_35 hs (ev_code hs htk top ⟨fr1, go1, hb1⟩ (w_X12_positiveOf_44 hs (i3 dp _ _ a _ _ (e + 6) 0 0 live b1 act1 (by omega) hk1 hac1 (ev_step ⟨fr1, go1, hb1⟩) e2 ?_)))
      intro I2 w2 fr2 go2 a2 d2
      obtain ⟨b2, act2, hb2, hac2, p1, p2, p3⟩ := ev_nx (z := True) (y := fun x => w2 = x.toInt64) hac1 a2 d2
      generalize hr1 : gr_ps S c v n 3 0 dp k lv a = r1 at *
      generalize hr2 : gr_ps S c v n 3 0 dp (r1.2.1 + 1) r1.2.2.1 a = r2 at *
      have c1 := ev_c1000 htk r1.2.1
      have key : ∀ y : Int32, (y = 0 ∨ y = 1) → (act2 = true → gr_lim (gr_jn (gr_o6 (c r1.2.1)) w1 w2) = some y) → Q (some (.int y)) (t, T, I2, L, P) := by
        intro y hy hj
        have dn : (gr_gd r2.2.1 r2.2.2.1 (r1.2.2.2.1 ++ (r2.2.2.2.1 ++ [(gr_o6 (c r1.2.1), 0)])) (gr_dj (gr_o6 (c r1.2.1)) r1.2.2.2.2 r2.2.2.2.2)).2.2.2.2 f = gr_dj (gr_o6 (c r1.2.1)) r1.2.2.2.2 r2.2.2.2.2 f := rfl
        refine hpo I2 y hy fr2 go2 (fun q => ?_) (fun q => ?_)
        · rw [dn]
          cases ha1 : act1 with
          | true =>
            obtain ⟨-, x1, hx1, hw1⟩ := n1 ha1
            cases ha2 : act2 with
            | true =>
              obtain ⟨-, x2, hx2, hw2⟩ := p1 ha2
              have := hj ha2
              rw [hw1, hw2] at this
              have hd : gr_dj (gr_o6 (c r1.2.1)) r1.2.2.2.2 r2.2.2.2.2 f = some y := by simp [gr_dj, hx1, hx2, this]
              rw [hd]
              refine ⟨fun x hx => ?_, fun hx => by cases hx⟩
              cases hx
              exact ⟨rfl, hb2.trans (hac2.2.1 ha2).2⟩
            | false =>
              obtain ⟨q1, q2⟩ := p2 ha1 ha2
              have hd : gr_dj (gr_o6 (c r1.2.1)) r1.2.2.2.2 r2.2.2.2.2 f = none := by simp [gr_dj, hx1, q1]
              rw [hd]
              exact ⟨(fun x hx => by cases hx), fun _ => hb2.trans q2⟩
          | false =>
            obtain ⟨q1, q2⟩ := n2 q ha1
            have hd : gr_dj (gr_o6 (c r1.2.1)) r1.2.2.2.2 r2.2.2.2.2 f = none := by simp [gr_dj, q1]
            rw [hd]
            exact ⟨(fun x hx => by cases hx), fun _ => hb2.trans ((p3 ha1).2.trans q2)⟩
        · obtain ⟨q1, q2⟩ := n3 q
          obtain ⟨q3, q4⟩ := p3 q1
          exact hb2.trans (q4.trans q2)
      have l160 : (nI (c r1.2.1) = 160) ↔ c r1.2.1 = 160 := nI_eq (b := 160) (by omega) (by omega)
      have l162 : (nI (c r1.2.1) = 162) ↔ c r1.2.1 = 162 := nI_eq (b := 162) (by omega) (by omega)
      have na : act2 = true → ¬ live = 0 ∧ b2 = 0 := hac2.2.1
      refine w_X12_positiveOf_61 hs ?_
      rw [l160, l162, hb2]
      refine ⟨fun q => key 0 (Or.inl rfl) (fun z => absurd q (na z).1), fun _ => ⟨fun q => key 0 (Or.inl rfl) (fun z => absurd (na z).2 q), fun _ => ⟨fun q160 => ⟨fun q162 => ?_, fun q162 => ?_⟩, fun q160 => ?_⟩⟩⟩
      · have h161 : c r1.2.1 = 161 := by rcases gr_o6_ne hc with z | z | z <;> first | contradiction | exact z
        refine ⟨fun q => key 0 (Or.inl rfl) (fun _ => ?_), fun q => key 1 (Or.inr rfl) (fun _ => ?_)⟩
        · rw [h161]
          show gr_lim (if lg_cmp w1 w2 = 0 then 1 else 0) = _
          rw [if_neg q]; decide
        · rw [h161]
          show gr_lim (if lg_cmp w1 w2 = 0 then 1 else 0) = _
          rw [if_pos q]; decide
      · refine ⟨fun q => key 0 (Or.inl rfl) (fun _ => ?_), fun q => key 1 (Or.inr rfl) (fun _ => ?_)⟩
        · rw [q162]
          show gr_lim (if lg_cmp w1 w2 ≤ 0 then 0 else 1) = _
          rw [if_pos q]; decide
        · rw [q162]
          show gr_lim (if lg_cmp w1 w2 ≤ 0 then 0 else 1) = _
          rw [if_neg q]; decide
      · refine ⟨fun q => key 0 (Or.inl rfl) (fun _ => ?_), fun q => key 1 (Or.inr rfl) (fun _ => ?_)⟩
        · rw [q160]
          show gr_lim (if 0 ≤ lg_cmp w1 w2 then 0 else 1) = _
          rw [if_pos q]; decide
        · rw [q160]
          show gr_lim (if 0 ≤ lg_cmp w1 w2 then 0 else 1) = _
          rw [if_neg q]; decide

theorem ce_0s (hfa : ev_fa X t T L P I0 S f) (hs : hf_Lay t T P) (htk : ev_tk I0 S B0 c v m) (ih : ce_all X t T L P I0 B0 c v m S f n) : ce_e X t T L P I0 B0 c v m S f Y_X12_partOf 4 0 (n + 1) := by
  intro dp k lv a I Q D kk nn live b act hD hkm hac hst hg hpo
  obtain ⟨i0, i1, i2, i3, i4, i5, i6, i7, i8, i9, i10⟩ := ih
  obtain ⟨e, rfl⟩ : ∃ e, D = e + 7 := ⟨D - 7, by omega⟩
  rw [gr_ps_0] at hg hpo
  have c1 := ev_c1000 htk k
  obtain ⟨m4, b4, h0, h20, h22, tk⟩ := id htk
  have i22 : I 156 22 = if S = true then 1 else 0 := by rw [hst.1.2 22 (by omega) (by omega)]; exact h22
  have fl : ∀ j, ¬ (gr_fl j).1 = 2 := fun j => by show ¬ (1 = 2); omega
  refine w_X12_partOf_0 hs (ev_pass (ch := 191) hs htk hkm (by omega) hst (fun ho I1 hst1 => ?_) fun ho => ?_)
  · rw [if_pos ho] at hg hpo
    have hk : k < m := ev_lt htk (by omega)
    by_cases h8 : dp = 8
    · rw [if_pos h8] at hg
      exact absurd hg (fl _)
    · rw [if_neg h8] at hg hpo
      have e1 := gr_bd_g2 hg
      rw [gr_bd_2 e1] at hg hpo
      refine w_X12_partOf_9 hs ⟨fun q => absurd q (by decide), fun _ => i3 (dp + 1) (k + 1) lv a I1 _ (e + 6) 0 0 live b act (by omega) (by omega) hac hst1 e1 ?_⟩
      intro I2 w fr2 go2 a2 d2
      by_cases hc : c (gr_ps S c v n 3 0 (dp + 1) (k + 1) lv a).2.1 = 193
      · rw [if_pos hc] at hpo
        refine w_X12_partOf_17 hs (hpo _ w (ev_fr_up (Or.inl rfl) fr2) ?_ a2 d2)
        show I2 156 19 + 1 = _
        rw [go2, nI_1, Nat.add_assoc]
        rfl
      · rw [if_neg hc] at hg
        exact absurd hg (fl _)
  · rw [if_neg ho] at hg hpo
    have use : ∀ (k' l' : Nat) (cd : gr_cd) (dn : gr_dn) (I' : hf_I) (w : Int64), ev_ps t T L P I0 B0 f act b (gr_gd k' l' cd dn) Q → ev_st I0 (B0 + k') b I' → (act = true → ∃ y, dn f = some y ∧ w = y.toInt64) → Q (some (.long w)) (t, T, I', L, P) := by
      intro k' l' cd dn I' w hp hs' hy
      refine hp I' w hs'.1 hs'.2.1 (fun q => ?_) (fun _ => hs'.2.2)
      obtain ⟨y, hy1, hy2⟩ := hy q
      refine ⟨fun x hx => ⟨?_, hs'.2.2.trans (hac.2.1 q).2⟩, fun hx => ?_⟩
      · have hx' : dn f = some x := hx
        rw [hy1] at hx'
        cases hx'
        exact hy2
      · have hx' : dn f = none := hx
        rw [hy1] at hx'
        cases hx'
    have st1 := ev_step hst
    have st2 : ev_st I0 (B0 + (k + 2)) b (hf_up (hf_up I 156 19 (I 156 19 + 1)) 156 19 (I 156 19 + 1 + 1)) := by
      refine ⟨ev_fr_up (Or.inl rfl) st1.1, ?_, st1.2.2⟩
      show I 156 19 + 1 + 1 = _
      rw [hst.2.1, nI_1, nI_1]
      rfl
    have dead0 : live = 0 → act = true → False := fun q z => (hac.2.1 z).1 q
    have dead1 : ¬ b = 0 → act = true → False := fun q z => q (hac.2.1 z).2
    have eN : (3129 + (nI (B0 + k) + 1)) - 1 = nI (3129 + B0 + k) := by rw [nI_1, show (3129 : Int32) = nI 3129 from rfl, nI_add, ← Nat.add_assoc, nI_pred, Nat.add_assoc]
    have eW : (3129 : Int32) + (nI (B0 + k) + 1) = nI (3129 + B0 + (k + 1)) := by rw [nI_1, show (3129 : Int32) = nI 3129 from rfl, nI_add, Nat.add_assoc, Nat.add_assoc]
    have l50 : (nI (c k) = 50) ↔ c k = 50 := nI_eq (b := 50) (by omega) (by omega)
    have l24 : (nI (c k) = 24) ↔ c k = 24 := nI_eq (b := 24) (by omega) (by omega)
    have l9 : (nI (c k) = 9) ↔ c k = 9 := nI_eq (b := 9) (by omega) (by omega)
    have h158 : I 158 = I0 158 := hst.1.1 158 (by omega)
    have h168 : I 168 = I0 168 := hst.1.1 168 (by omega)
    -- a number
    have num : c k = 50 → k < m ∧ ev_ps t T L P I0 B0 f act b (gr_gd (k + 1) (lv + 1) [(0, v k)] fun _ => some (nI (v k))) Q := by
      intro h5
      refine ⟨ev_lt htk (by omega), ?_⟩
      by_cases hv : c k = 50 ∧ v k ≤ 1000
      · rw [if_pos hv] at hg hpo
        by_cases h50 : lv = 50
        · rw [if_pos h50] at hg; exact absurd hg (fl _)
        · rw [if_neg h50] at hpo; exact hpo
      · rw [if_neg hv] at hg
        have : ¬ gr_isv S (c k) = true := by rw [h5]; cases S <;> decide
        rw [if_neg this] at hg
        exact absurd hg (fl _)
    -- a word
    have wrd : ¬ c k = 50 → gr_isv S (c k) = true ∧ k < m ∧ ((S = true ∧ (c k = 24 ∨ c k = 9) ∧ (c (k + 1) = 50 ∧ v (k + 1) ≤ 15) ∧ ev_ps t T L P I0 B0 f act b (gr_gd (k + 2) (lv + 1) [(1, gr_fx S (c k) (v (k + 1)))] fun f => some (f (gr_fx S (c k) (v (k + 1))))) Q) ∨ (¬ (S = true ∧ (c k = 24 ∨ c k = 9)) ∧ ev_ps t T L P I0 B0 f act b (gr_gd (k + 1) (lv + 1) [(1, gr_fx S (c k) 0)] fun f => some (f (gr_fx S (c k) 0))) Q)) := by
      intro h5
      rw [if_neg (fun q => h5 q.1)] at hg hpo
      by_cases hv : gr_isv S (c k) = true
      · rw [if_pos hv] at hg hpo
        refine ⟨hv, ev_lt htk (by intro q; rw [q] at hv; cases S <;> simp [gr_isv] at hv), ?_⟩
        by_cases h50 : lv = 50
        · rw [if_pos h50] at hg; exact absurd hg (fl _)
        · rw [if_neg h50] at hg hpo
          by_cases hw : S = true ∧ (c k = 24 ∨ c k = 9)
          · rw [if_pos hw] at hg hpo
            by_cases hn : c (k + 1) = 50 ∧ v (k + 1) ≤ 15
            · rw [if_pos hn] at hpo
              exact Or.inl ⟨hw.1, hw.2, hn, hpo⟩
            · rw [if_neg hn] at hg; exact absurd hg (fl _)
          · rw [if_neg hw] at hpo
            exact Or.inr ⟨hw, hpo⟩
      · rw [if_neg hv] at hg; exact absurd hg (fl _)
    -- one TOKEN, gone through or reckoned
    have any1 : ∃ l' cd dn, ev_ps t T L P I0 B0 f act b (gr_gd (k + 1) l' cd dn) Q ∨ (S = true ∧ (c k = 24 ∨ c k = 9)) := by
      by_cases h5 : c k = 50
      · exact ⟨_, _, _, Or.inl (num h5).2⟩
      · rcases (wrd h5).2.2 with ⟨q1, q2, -⟩ | ⟨-, q⟩
        · exact ⟨0, [], (fun _ => none), Or.inr ⟨q1, q2⟩⟩
        · exact ⟨_, _, _, Or.inl q⟩
    have thr1 : ¬ (S = true ∧ (c k = 24 ∨ c k = 9)) → (act = true → False) → Q (some (.long 0)) (t, T, hf_up I 156 19 (I 156 19 + 1), L, P) := by
      intro hn hd
      obtain ⟨l', cd, dn, q | q⟩ := any1
      · exact use _ _ _ _ _ 0 q st1 (fun z => absurd (hd z) (by simp))
      · exact absurd q hn
    have nb1 : c k = 50 → vp_in ((3129 + (nI (B0 + k) + 1)) - 1) 5929 ∧ Q (some (.long (I 158 ((3129 + (nI (B0 + k) + 1)) - 1).toNatClampNeg).toInt64)) (t, T, hf_up I 156 19 (I 156 19 + 1), L, P) := by
      intro h5
      obtain ⟨hk, q⟩ := num h5
      rw [eN, nI_clamp (show 3129 + B0 + k < 2 ^ 31 by omega), h158, (tk k hk).2.1]
      exact ⟨vp_in_nI (by omega) (by omega), use _ _ _ _ _ _ q st1 (fun _ => ⟨_, rfl, rfl⟩)⟩
    refine w_X12_partOf_9 hs ⟨fun _ => ev_code hs htk hkm hst (w_X12_partOf_38 hs ?_), fun q => absurd rfl q⟩
    rw [i22, hst.2.2, l50, l24, l9]
    have g19 := hst.2.1
    cases S with
    | false =>
      have nS : ¬ (false = true ∧ (c k = 24 ∨ c k = 9)) := fun q => by cases q.1
      refine ⟨fun _ => ⟨fun q => thr1 nS (dead0 q), fun _ => ⟨fun hb => ⟨fun h5 => ⟨fun _ => ?_, fun q => absurd rfl q⟩, fun h5 => ?_⟩, fun hb => thr1 nS (dead1 hb)⟩⟩, fun q => absurd rfl q⟩
      · obtain ⟨hv, hk, q⟩ := wrd h5
        have hv' : 8 ≤ c k ∧ c k ≤ 20 := by
          simp only [gr_isv, Bool.and_eq_true, Nat.ble_eq] at hv
          exact hv
        have e8 : nI (c k) - 8 = nI (c k - 8) := by rw [show (8 : Int32) = nI 8 from rfl, pk_sub hv'.1]
        rw [e8, nI_clamp (show c k - 8 < 2 ^ 31 by omega)]
        refine ⟨vp_in_nI (by omega) (by omega), ?_⟩
        rcases q with ⟨q, -⟩ | ⟨-, q⟩
        · cases q
        · refine use _ _ _ _ _ _ q st1 (fun _ => ⟨_, rfl, ?_⟩)
          show _ = (f (c k - 8)).toInt64
          rw [h168, hfa (c k - 8) (by omega)]
      · have := nb1 h5
        rw [← g19] at this
        exact this
    | true =>
      have set2 : ∀ (hw : c k = 24 ∨ c k = 9), vp_in (3129 + (I 156 19 + 1)) 5929 ∧ ((live = 0 → Q (some (.long 0)) (t, T, hf_up (hf_up I 156 19 (I 156 19 + 1)) 156 19 (I 156 19 + 1 + 1), L, P)) ∧ (¬ live = 0 → (b = 0 → (¬ c k = 50 → ((if true = true then (1 : Int32) else 0) = 0 → vp_in (nI (c k) - 8) 13 ∧ Q (some (.long (I 168 (nI (c k) - 8).toNatClampNeg).toInt64)) (t, T, hf_up (hf_up I 156 19 (I 156 19 + 1)) 156 19 (I 156 19 + 1 + 1), L, P)) ∧ (¬ (if true = true then (1 : Int32) else 0) = 0 → hf_G X Y_X12_settingOf (e + 6) 0 0 0 (hf_en [.ref 156, .int (nI (c k)), .int (I 158 (3129 + (I 156 19 + 1)).toNatClampNeg)] 3) [] (t, T, hf_up (hf_up I 156 19 (I 156 19 + 1)) 156 19 (I 156 19 + 1 + 1), L, P) (fun r M => hf_G X Y_X12_partOf (e + 6 + 1) kk nn 143 [none, none, none, none] (r.toList ++ []) M Q))) ∧ (c k = 50 → vp_in ((3129 + (I 156 19 + 1 + 1)) - 1) 5929 ∧ Q (some (.long (I 158 ((3129 + (I 156 19 + 1 + 1)) - 1).toNatClampNeg).toInt64)) (t, T, hf_up (hf_up I 156 19 (I 156 19 + 1)) 156 19 (I 156 19 + 1 + 1), L, P))) ∧ (¬ b = 0 → Q (some (.long 0)) (t, T, hf_up (hf_up I 156 19 (I 156 19 + 1)) 156 19 (I 156 19 + 1 + 1), L, P)))) := by
        intro hw
        have h5 : ¬ c k = 50 := by omega
        obtain ⟨hv, hk, q⟩ := wrd h5
        rcases q with ⟨-, -, hn, q⟩ | ⟨q, -⟩
        · have hk1 : k + 1 < m := ev_lt htk (by omega)
          have thr2 : (act = true → False) → Q (some (.long 0)) (t, T, hf_up (hf_up I 156 19 (I 156 19 + 1)) 156 19 (I 156 19 + 1 + 1), L, P) := fun hd => use _ _ _ _ _ 0 q st2 (fun z => absurd (hd z) (by simp))
          refine ⟨?_, fun z => thr2 (dead0 z), fun _ => ⟨fun hb => ⟨fun _ => ⟨fun z => absurd z (by decide), fun _ => ?_⟩, fun z => absurd z h5⟩, fun hb => thr2 (dead1 hb)⟩⟩
          · rw [g19, eW]
            exact vp_in_nI (by omega) (by omega)
          · have ev : I 158 (3129 + (I 156 19 + 1)).toNatClampNeg = nI (v (k + 1)) := by rw [g19, eW, nI_clamp (show 3129 + B0 + (k + 1) < 2 ^ 31 by omega), h158, (tk (k + 1) hk1).2.1]
            rw [ev]
            exact hfa (c k) (v (k + 1)) _ _ (e + 6) 0 0 (by omega) hv hn.2 st2.1 (w_X12_partOf_143 hs (use _ _ _ _ _ _ q st2 (fun _ => ⟨_, rfl, rfl⟩)))
        · exact absurd ⟨rfl, hw⟩ q
      refine ⟨fun q => absurd q (by decide), fun _ => ⟨fun h24 => set2 (Or.inl h24), fun h24 => ⟨fun h9 => ?_, fun h9 => set2 (Or.inr h9)⟩⟩⟩
      have nS : ¬ (true = true ∧ (c k = 24 ∨ c k = 9)) := by rintro ⟨-, z | z⟩ <;> contradiction
      refine ⟨fun q => thr1 nS (dead0 q), fun _ => ⟨fun hb => ⟨fun h5 => ⟨fun z => absurd z (by decide), fun _ => ?_⟩, fun h5 => ?_⟩, fun hb => thr1 nS (dead1 hb)⟩⟩
      · obtain ⟨hv, hk, q⟩ := wrd h5
        rcases q with ⟨q1, q2, -⟩ | ⟨-, q⟩
        · exact absurd ⟨q1, q2⟩ nS
        · exact hfa (c k) 0 _ _ (e + 6) 0 0 (by omega) hv (by omega) st1.1 (w_X12_partOf_143 hs (use _ _ _ _ _ _ q st1 (fun _ => ⟨_, rfl, rfl⟩)))
      · have := nb1 h5
        rw [← g19] at this
        exact this

theorem ce_any (hs : hf_Lay t T P) (htk : ev_tk I0 S B0 c v m) (hfa : ev_fa X t T L P I0 S f) : ∀ n, ce_all X t T L P I0 B0 c v m S f n := by
  intro n
  induction n with
  | zero =>
    refine ⟨?_, ?_, ?_, ?_, ?_, ?_, ?_, ?_, ?_, ?_, ?_⟩
    · intro dp k lv a I Q D kk nn live b act hD hkm hac hst hg; exact absurd hg (by show ¬ (0 = 2); omega)
    · intro dp k lv a I Q D kk nn live b act hD hkm hac hst hg; exact absurd hg (by show ¬ (0 = 2); omega)
    · intro dp k lv a x2 I Q D kk nn live b act hD hkm hac hx2 hst hg; exact absurd hg (by show ¬ (0 = 2); omega)
    · intro dp k lv a I Q D kk nn live b act hD hkm hac hst hg; exact absurd hg (by show ¬ (0 = 2); omega)
    · intro dp k lv a x2 I Q D kk nn live b act hD hkm hac hx2 hst hg; exact absurd hg (by show ¬ (0 = 2); omega)
    · intro x dp k lv a I Q D kk nn live b act hD hx hkm hac hst hg; exact absurd hg (by show ¬ (0 = 2); omega)
    · intro dp k lv a I Q D kk nn live b act hD hkm hac hst hg; exact absurd hg (by show ¬ (0 = 2); omega)
    · intro dp k lv a I Q D kk nn live b act hD hkm hac hst hg; exact absurd hg (by show ¬ (0 = 2); omega)
    · intro dp k lv a x2 I Q D kk nn live b act hD hkm hac h01 hx2 hst hg; exact absurd hg (by show ¬ (0 = 2); omega)
    · intro dp k lv a I Q D kk nn live b act hD hkm hac hst hg; exact absurd hg (by show ¬ (0 = 2); omega)
    · intro dp k lv a x2 I Q D kk nn live b act hD hkm hac h01 hx2 hst hg; exact absurd hg (by show ¬ (0 = 2); omega)
  | succ n ih => exact ⟨ce_0s hfa hs htk ih, ce_1s hs htk ih, ce_2s hs htk ih, ce_3s hs htk ih, ce_4s hs htk ih, ce_5s hs htk ih, ce_6s hs htk ih, ce_7s hs htk ih, ce_8s hs htk ih, ce_9s hs htk ih, ce_10s hs htk ih⟩
end MEV
