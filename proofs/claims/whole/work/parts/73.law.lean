/-! what a LAW says: the last CLAUSE of a kind that HOLDS; on both sides -/
def lw_h (f : Nat → Int32) (q : gr_c1) : Option Int32 := (q.2.2.2.2 f).bind fun y => if y = 0 then none else q.2.1.2 f
def lw_s (f : Nat → Int32) (kd : Nat) (acc : Option Int32) (q : gr_c1) : Option Int32 := if q.1 = kd then (match lw_h f q with
  | some x => some x
  | none => acc) else acc
def lw_fo (f : Nat → Int32) (kd : Nat) : Option Int32 → List gr_c1 → Option Int32
  | acc, [] => acc
  | acc, q :: qs => lw_fo f kd (lw_s f kd acc q) qs
theorem lw_fo_snoc (f : Nat → Int32) (kd : Nat) (q : gr_c1) : ∀ (qs : List gr_c1) (acc : Option Int32), lw_fo f kd acc (qs ++ [q]) = lw_s f kd (lw_fo f kd acc qs) q := by
  intro qs
  induction qs with
  | nil => intro acc; rfl
  | cons r qs ih => intro acc; exact ih _
def lw_cl (x : Int32) : Int32 := if 0 < (if x < 999 then x else 999) then (if x < 999 then x else 999) else 0
def lw_td (o : Option Int32) (wo : Int32) : Int32 := match o with
  | some x => lw_cl x
  | none => wo
/-- a reading's code and meaning -/
def cl_gd (S : Bool) (q : gr_c1) : Prop := q.1 ≤ 3 ∧ (1 ≤ q.2.2.1 ∧ q.2.2.1 ≤ 20) ∧ ((gr_wsm S q.1 = true ∧ ∃ c v k lv, lv ≤ 50 ∧ (gr_ps S c v 600 3 0 0 k lv (fun _ => none)).1 = 2 ∧ (gr_ps S c v 600 3 0 0 k lv (fun _ => none)).2.2.2 = q.2.1) ∨ (¬ gr_wsm S q.1 = true ∧ q.2.1 = ([], fun _ => some 1))) ∧ ((∃ c v k lv, lv ≤ 50 ∧ (gr_ps S c v 600 9 0 0 k lv (fun _ => none)).1 = 2 ∧ (gr_ps S c v 600 9 0 0 k lv (fun _ => none)).2.2.2 = q.2.2.2) ∨ q.2.2.2 = ([], fun _ => some 1))
theorem gr_cl_gd {S : Bool} {c v : Nat → Nat} {k lv : Nat} (hlv : lv ≤ 50) (hm : (gr_cl S c v k lv).1 = 2) : cl_gd S (gr_cl S c v k lv).2.2.2 := by
  have no : ∀ {a : Nat} {b : Nat} {g : gr_c1} {p : Prop}, ((1, a, b, g) : Nat × Nat × Nat × gr_c1).1 = 2 → p := fun {a b g p} h => absurd h (by show ¬ (1 = 2); omega)
  by_cases h0 : gr_kd S (c k) = 0
  · rw [gr_cl_a h0] at hm; exact no hm
  generalize e1 : gr_sm S c v (gr_kd S (c k) - 1) (k + 1) lv = r1
  by_cases h1 : r1.1 = 2
  · generalize e2 : gr_tm S c v r1.2.1 = q
    by_cases h2 : q.1 = 2
    · generalize e3 : gr_if S c v q.2.1 r1.2.2.1 = r2
      by_cases h3 : r2.1 = 2
      · rw [gr_cl_e h0 e1 h1 e2 h2 e3 h3]
        have fw := gr_sm_fw (S := S) (c := c) (v := v) (kd := gr_kd S (c k) - 1) (k := k + 1) (lv := lv) (by rw [e1]; exact h1)
        have kl := gr_kd_lt (S := S) (cc := c k)
        have tf := (gr_tm_fw (S := S) (c := c) (v := v) (k := r1.2.1)).2
        rw [e1] at fw
        rw [e2] at tf
        refine ⟨by show gr_kd S (c k) - 1 ≤ 3; omega, tf h2, ?_, ?_⟩
        · show (gr_wsm S (gr_kd S (c k) - 1) = true ∧ _) ∨ _
          by_cases hw : gr_wsm S (gr_kd S (c k) - 1) = true
          · refine Or.inl ⟨hw, c, v, k + 1, lv, hlv, ?_, ?_⟩
            · unfold gr_sm at e1; rw [if_pos hw] at e1; rw [e1]; exact h1
            · unfold gr_sm at e1; rw [if_pos hw] at e1; rw [e1]
          · refine Or.inr ⟨hw, ?_⟩
            unfold gr_sm at e1; rw [if_neg hw] at e1
            show r1.2.2.2 = _
            rw [← e1]
            rfl
        · show (∃ c v k lv, _) ∨ r2.2.2.2 = _
          by_cases hi : c q.2.1 = 4
          · refine Or.inl ⟨c, v, q.2.1 + 1, r1.2.2.1, fw.2.2.2 hlv, ?_, ?_⟩
            · unfold gr_if at e3; rw [if_pos hi] at e3; rw [e3]; exact h3
            · unfold gr_if at e3; rw [if_pos hi] at e3; rw [e3]
          · unfold gr_if at e3; rw [if_neg hi] at e3
            exact Or.inr (by rw [← e3]; rfl)
      · rw [gr_cl_d h0 e1 h1 e2 h2 e3 h3] at hm; exact no hm
    · rw [gr_cl_c h0 e1 h1 (by rw [e2]; exact h2)] at hm; exact no hm
  · rw [gr_cl_b h0 (by rw [e1]; exact h1)] at hm; exact no hm
theorem gr_al_gd {S : Bool} {c v : Nat → Nat} {m : Nat} : ∀ (j k lv : Nat), lv ≤ 50 → (gr_al S c v m j k lv).1 = 2 → (∀ q ∈ (gr_al S c v m j k lv).2.2, cl_gd S q) ∧ (gr_al S c v m j k lv).2.2.length ≤ j ∧ (cl_cd (gr_al S c v m j k lv).2.2).length + k ≤ m + 1 := by
  intro j
  induction j with
  | zero => intro k lv _ h; exact absurd h (by show ¬ (1 = 2); omega)
  | succ j ih =>
    intro k lv hlv h
    rw [gr_al] at h ⊢
    by_cases e : (gr_cl S c v k lv).1 = 2
    · have gd := gr_cl_gd hlv e
      have fw := gr_cl_fw e
      rw [if_pos e] at h ⊢
      generalize gr_cl S c v k lv = r at *
      by_cases hm : r.2.1 = m
      · rw [if_pos hm]
        refine ⟨fun q hq => ?_, ?_, ?_⟩
        · have : q = r.2.2.2 := by simpa using hq
          rw [this]; exact gd
        · show 1 ≤ j + 1; omega
        · show (cl_cd [r.2.2.2]).length + k ≤ m + 1
          have : cl_cd [r.2.2.2] = r.2.2.2.2.1.1 ++ r.2.2.2.2.2.2.1 := by simp [cl_cd]
          rw [this, List.length_append]
          omega
      · rw [if_neg hm] at h ⊢
        by_cases h9 : c r.2.1 = 159
        · rw [if_pos h9] at h ⊢
          obtain ⟨a1, a2, a3⟩ := ih (r.2.1 + 1) r.2.2.1 (fw.2.2.2 hlv) h
          refine ⟨fun q hq => ?_, ?_, ?_⟩
          · rcases List.mem_cons.mp hq with u | u
            · rw [u]; exact gd
            · exact a1 q u
          · show (_ :: _).length ≤ j + 1
            rw [List.length_cons]; omega
          · show (cl_cd (r.2.2.2 :: _)).length + k ≤ m + 1
            have : ∀ (q : gr_c1) (qs : List gr_c1), cl_cd (q :: qs) = q.2.1.1 ++ q.2.2.2.1 ++ cl_cd qs := fun q qs => by simp [cl_cd]
            rw [this, List.length_append, List.length_append]
            omega
        · rw [if_neg h9] at h
          exact absurd h (by show ¬ (1 = 2); omega)
    · rw [if_neg e] at h
      exact absurd h (by show ¬ (1 = 2); omega)
/-- each reading leaves a step -/
theorem gr_ps_ne {S : Bool} {c v : Nat → Nat} : ∀ (n nt x dp k lv : Nat) (a : gr_dn), nt ≤ 10 → (gr_ps S c v n nt x dp k lv a).1 = 2 → gr_rest nt ≤ (gr_ps S c v n nt x dp k lv a).2.2.2.1.length := by
  intro n
  induction n with
  | zero => intro nt x dp k lv a _ h; exact absurd h (by show ¬ (0 = 2); omega)
  | succ n ih =>
    intro nt x dp k lv a hnt
    have fl : ∀ {j : Nat} {p : Prop}, (gr_fl j).1 = 2 → p := fun {j p} h => absurd h (by show ¬ (1 = 2); omega)
    have one : ∀ (A dp k1 lv1 : Nat) (a1 : gr_dn) (g : Nat → Nat → gr_cd → gr_dn → gr_r) (q : Nat), A ≤ 10 → (∀ k l c d, gr_rest A ≤ c.length → (g k l c d).1 = 2 → q ≤ (g k l c d).2.2.2.1.length) → (gr_bd (gr_ps S c v n A 0 dp k1 lv1 a1) g).1 = 2 → q ≤ (gr_bd (gr_ps S c v n A 0 dp k1 lv1 a1) g).2.2.2.1.length := by
      intro A dp k1 lv1 a1 g q hA hg h
      have e1 := gr_bd_g2 h
      rw [gr_bd_2 e1] at h ⊢
      exact hg _ _ _ _ (ih A 0 dp k1 lv1 a1 hA e1) h
    have ap : ∀ {u w : gr_cd} {q : Nat}, q ≤ u.length → q ≤ (u ++ w).length := fun {u w q} h => by rw [List.length_append]; omega
    match nt, hnt with
    | 0, _ =>
      rw [gr_ps_0]
      split
      · split
        · exact fl
        · refine one 3 _ _ _ _ _ _ (by omega) fun k l c d hl => ?_
          split
          · intro _; exact hl
          · exact fl
      · split
        · split
          · exact fl
          · intro _; exact Nat.le_refl _
        · split
          · split
            · exact fl
            · split
              · split
                · intro _; exact Nat.le_refl _
                · exact fl
              · intro _; exact Nat.le_refl _
          · exact fl
    | 1, _ => exact one 0 _ _ _ _ _ _ (by omega) fun k l c d hl => one 2 _ _ _ _ _ _ (by omega) fun k2 l2 c2 d2 hl2 _ => ap hl
    | 2, _ => intro _; exact Nat.zero_le _
    | 3, _ => exact one 1 _ _ _ _ _ _ (by omega) fun k l c d hl => one 4 _ _ _ _ _ _ (by omega) fun k2 l2 c2 d2 hl2 _ => ap hl
    | 4, _ => intro _; exact Nat.zero_le _
    | 5, _ =>
      rw [gr_ps_5]
      by_cases e : c k = 7
      · rw [if_pos e]; exact ih 5 _ _ _ _ _ (by omega)
      · rw [if_neg e]
        refine one 6 _ _ _ _ _ _ (by omega) fun k l c d hl => ?_
        split
        · intro _; exact hl
        · intro _; exact ap hl
    | 6, _ =>
      rw [gr_ps_6]
      split
      · split
        · exact fl
        · refine one 9 _ _ _ _ _ _ (by omega) fun k l c d hl => ?_
          split
          · intro _; exact hl
          · exact fl
      · refine one 3 _ _ _ _ _ _ (by omega) fun k l c d hl => ?_
        split
        · exact fl
        · exact one 3 _ _ _ _ _ _ (by omega) fun k2 l2 c2 d2 hl2 _ => ap hl
    | 7, _ => exact one 5 _ _ _ _ _ _ (by omega) fun k l c d hl => one 8 _ _ _ _ _ _ (by omega) fun k2 l2 c2 d2 hl2 _ => ap hl
    | 8, _ => intro _; exact Nat.zero_le _
    | 9, _ => exact one 7 _ _ _ _ _ _ (by omega) fun k l c d hl => one 10 _ _ _ _ _ _ (by omega) fun k2 l2 c2 d2 hl2 _ => ap hl
    | 10, _ => intro _; exact Nat.zero_le _
    | nt + 11, h => omega
/-- only the words' own facts matter -/
def gr_fb (S : Bool) : Nat := if S = true then 37 else 13
theorem gr_ps_cg {S : Bool} {c v : Nat → Nat} {f g : Nat → Int32} (hfg : ∀ j, j < gr_fb S → f j = g j) : ∀ (n nt x dp k lv : Nat) (a : gr_dn), nt ≤ 10 → a f = a g → (gr_ps S c v n nt x dp k lv a).1 = 2 → (gr_ps S c v n nt x dp k lv a).2.2.2.2 f = (gr_ps S c v n nt x dp k lv a).2.2.2.2 g := by
  intro n
  induction n with
  | zero => intro nt x dp k lv a _ _ h; exact absurd h (by show ¬ (0 = 2); omega)
  | succ n ih =>
    intro nt x dp k lv a hnt ha
    have fl : ∀ {j : Nat} {p : Prop}, (gr_fl j).1 = 2 → p := fun {j p} h => absurd h (by show ¬ (1 = 2); omega)
    have one : ∀ (A dp k1 lv1 : Nat) (a1 : gr_dn) (G : Nat → Nat → gr_cd → gr_dn → gr_r), A ≤ 10 → a1 f = a1 g → (∀ k l c d, d f = d g → (G k l c d).1 = 2 → (G k l c d).2.2.2.2 f = (G k l c d).2.2.2.2 g) → (gr_bd (gr_ps S c v n A 0 dp k1 lv1 a1) G).1 = 2 → (gr_bd (gr_ps S c v n A 0 dp k1 lv1 a1) G).2.2.2.2 f = (gr_bd (gr_ps S c v n A 0 dp k1 lv1 a1) G).2.2.2.2 g := by
      intro A dp k1 lv1 a1 G hA ha1 hg h
      have e1 := gr_bd_g2 h
      rw [gr_bd_2 e1] at h ⊢
      exact hg _ _ _ _ (ih A 0 dp k1 lv1 a1 hA ha1 e1) h
    have fx : ∀ {cc w : Nat}, gr_isv S cc = true → w ≤ 15 → gr_fx S cc w < gr_fb S := by
      intro cc w h hw
      cases S with
      | false =>
        simp only [gr_isv, Bool.and_eq_true, Nat.ble_eq] at h
        show cc - 8 < 13
        omega
      | true => exact gr_fx_lt h hw
    match nt, hnt with
    | 0, _ =>
      rw [gr_ps_0]
      by_cases h1 : c k = 191
      · rw [if_pos h1]
        split
        · exact fl
        · refine one 3 _ _ _ _ _ (by omega) ha fun k l c d hl => ?_
          split
          · intro _; exact hl
          · exact fl
      · rw [if_neg h1]
        by_cases h2 : c k = 50 ∧ v k ≤ 1000
        · rw [if_pos h2]
          split
          · exact fl
          · intro _; rfl
        · rw [if_neg h2]
          by_cases h3 : gr_isv S (c k) = true
          · rw [if_pos h3]
            split
            · exact fl
            · by_cases h4 : S = true ∧ (c k = 24 ∨ c k = 9)
              · rw [if_pos h4]
                by_cases h5 : c (k + 1) = 50 ∧ v (k + 1) ≤ 15
                · rw [if_pos h5]
                  intro _
                  show some (f _) = some (g _)
                  rw [hfg _ (fx h3 h5.2)]
                · rw [if_neg h5]; exact fl
              · rw [if_neg h4]
                intro _
                show some (f _) = some (g _)
                rw [hfg _ (fx h3 (by omega))]
          · rw [if_neg h3]; exact fl
    | 1, _ => exact one 0 _ _ _ _ _ (by omega) ha fun k l c d hl => one 2 _ _ _ _ _ (by omega) hl fun k2 l2 c2 d2 hl2 _ => hl2
    | 2, _ =>
      rw [gr_ps_2]
      split
      · intro _; exact ha
      · exact one 0 _ _ _ _ _ (by omega) ha fun k l c d hl => one 2 _ _ _ _ _ (by omega) (by simp only [gr_dj, ha, hl]) fun k2 l2 c2 d2 hl2 _ => hl2
    | 3, _ => exact one 1 _ _ _ _ _ (by omega) ha fun k l c d hl => one 4 _ _ _ _ _ (by omega) hl fun k2 l2 c2 d2 hl2 _ => hl2
    | 4, _ =>
      rw [gr_ps_4]
      split
      · intro _; exact ha
      · exact one 1 _ _ _ _ _ (by omega) ha fun k l c d hl => one 4 _ _ _ _ _ (by omega) (by simp only [gr_dj, ha, hl]) fun k2 l2 c2 d2 hl2 _ => hl2
    | 5, _ =>
      rw [gr_ps_5]
      by_cases e : c k = 7
      · rw [if_pos e]; exact ih 5 _ _ _ _ _ (by omega) ha
      · rw [if_neg e]
        refine one 6 _ _ _ _ _ (by omega) ha fun k l c d hl => ?_
        split
        · intro _; exact hl
        · intro _
          show gr_dno d f = gr_dno d g
          simp only [gr_dno, hl]
    | 6, _ =>
      rw [gr_ps_6]
      split
      · split
        · exact fl
        · refine one 9 _ _ _ _ _ (by omega) ha fun k l c d hl => ?_
          split
          · intro _; exact hl
          · exact fl
      · refine one 3 _ _ _ _ _ (by omega) ha fun k l c d hl => ?_
        split
        · exact fl
        · refine one 3 _ _ _ _ _ (by omega) ha fun k2 l2 c2 d2 hl2 _ => ?_
          show gr_dj _ d d2 f = gr_dj _ d d2 g
          simp only [gr_dj, hl, hl2]
    | 7, _ => exact one 5 _ _ _ _ _ (by omega) ha fun k l c d hl => one 8 _ _ _ _ _ (by omega) hl fun k2 l2 c2 d2 hl2 _ => hl2
    | 8, _ =>
      rw [gr_ps_8]
      split
      · exact one 5 _ _ _ _ _ (by omega) ha fun k l c d hl => one 8 _ _ _ _ _ (by omega) (by simp only [gr_dan, ha, hl]) fun k2 l2 c2 d2 hl2 _ => hl2
      · intro _; exact ha
    | 9, _ => exact one 7 _ _ _ _ _ (by omega) ha fun k l c d hl => one 10 _ _ _ _ _ (by omega) hl fun k2 l2 c2 d2 hl2 _ => hl2
    | 10, _ =>
      rw [gr_ps_10]
      split
      · exact one 7 _ _ _ _ _ (by omega) ha fun k l c d hl => one 10 _ _ _ _ _ (by omega) (by simp only [gr_dor, ha, hl]) fun k2 l2 c2 d2 hl2 _ => hl2
      · intro _; exact ha
    | nt + 11, h => omega
theorem cl_cg {S : Bool} {q : gr_c1} {f g : Nat → Int32} (h : cl_gd S q) (hfg : ∀ j, j < gr_fb S → f j = g j) : q.2.1.2 f = q.2.1.2 g ∧ q.2.2.2.2 f = q.2.2.2.2 g := by
  obtain ⟨-, -, h1, h2⟩ := h
  constructor
  · rcases h1 with ⟨-, c, v, k, lv, -, e1, e2⟩ | ⟨-, e⟩
    · rw [← e2]; exact gr_ps_cg hfg 600 3 0 0 k lv _ (by omega) rfl e1
    · rw [e]
  · rcases h2 with ⟨c, v, k, lv, -, e1, e2⟩ | e
    · rw [← e2]; exact gr_ps_cg hfg 600 9 0 0 k lv _ (by omega) rfl e1
    · rw [e]
theorem lw_fo_cg {S : Bool} {f g : Nat → Int32} {kd : Nat} (hfg : ∀ j, j < gr_fb S → f j = g j) : ∀ (cls : List gr_c1) (acc : Option Int32), (∀ q ∈ cls, cl_gd S q) → lw_fo f kd acc cls = lw_fo g kd acc cls := by
  intro cls
  induction cls with
  | nil => intro acc _; rfl
  | cons q qs ih =>
    intro acc h
    obtain ⟨e1, e2⟩ := cl_cg (h q (by simp)) hfg
    have es : lw_s f kd acc q = lw_s g kd acc q := by
      unfold lw_s lw_h
      rw [e1, e2]
    rw [lw_fo, lw_fo, es]
    exact ih _ fun r hr => h r (by simp [hr])
theorem cl_cd_split {cls : List gr_c1} {i : Nat} {q : gr_c1} (h : cls[i]? = some q) : ∃ rest, cl_cd cls = cl_cd (cls.take i) ++ (q.2.1.1 ++ (q.2.2.2.1 ++ rest)) := by
  obtain ⟨hl, hq⟩ := List.getElem?_eq_some_iff.mp h
  refine ⟨cl_cd (cls.drop (i + 1)), ?_⟩
  have e : cls = cls.take i ++ (q :: cls.drop (i + 1)) := by
    rw [← hq, ← List.drop_eq_getElem_cons hl, List.take_append_drop]
  have : cl_cd cls = cl_cd (cls.take i ++ (q :: cls.drop (i + 1))) := by rw [← e]
  rw [this]
  unfold cl_cd
  rw [List.flatMap_append, List.flatMap_cons, List.append_assoc]
/-- a TEXT that stands somewhere beyond the static cells -/
def lw_tx (t : Nat) (T : hf_T) (P : hf_P) (J : Nat → Nat → Int32) (tx : Nat) (cls : List gr_c1) : Prop := ∃ z m c0 c1 c2 c3 c4 c5, hf_Tx t T P (181 + tx) z m (181 + c0) (181 + c1) (181 + c2) (181 + c3) (181 + c4) (181 + c5) ∧ z ≤ 800 ∧ m ≤ 12 ∧ 2 * (cl_cd cls).length ≤ z ∧ cls.length ≤ m ∧ tx_st tx c0 c1 c2 c3 c4 c5 cls J
section LAW
variable {X : hf_X} {d kk nn t : Nat} {T : hf_T} {I : hf_I} {L : hf_L} {P : hf_P} {Q : Option Value → hf_M → Prop} {cls : List gr_c1} {kd : Nat}
def jc_fr (I I' : hf_I) : Prop := ∀ a, ¬ a = 132 → ¬ a = 133 → ¬ a = 134 → I' a = I a
/-- the LAW in FORCE, by the class's cells -/
def lw_c (t : Nat) (T : hf_T) (I : hf_I) (P : hf_P) (cls : List gr_c1) : Prop := (I 101 16 = -1 ∧ cls = []) ∨ ∃ i tx, I 101 16 = nI i ∧ i < 6 ∧ I 101 16 < I 101 15 ∧ P 111 i = some (181 + tx) ∧ lw_tx t T P (fun a => I (181 + a)) tx cls ∧ ∀ q ∈ cls, cl_gd false q
theorem cs_find (hs : hf_Lay t T P) (hlw : lw_c t T I P cls) (h1 : ∀ x, lw_fo (I 133) kd none cls = some x → ∀ I', jc_fr I I' → (gr_wsm false kd = true → I' 132 2 = x) → Q (some (.int 1)) (t, T, I', L, P)) (h0 : lw_fo (I 133) kd none cls = none → ∀ I', jc_fr I I' → Q (some (.int 0)) (t, T, I', L, P)) (hkd : kd ≤ 3) : hf_G X Y_X4_findHolding (d + 2) kk nn 0 (hf_en [.ref 135, .int (nI kd)] 5) [] (t, T, I, L, P) Q := by
  rcases hlw with ⟨hn, hc⟩ | ⟨i, tx, hi, hi6, hlt, hP, ⟨z, m, c0, c1, c2, c3, c4, c5, hx, hz8, hm12, hlz, hlm, htx⟩, hgd⟩
  · -- no LAW
    subst hc
    have hx : hf_Tx t T P 124 800 12 125 126 127 128 129 130 := ⟨hs.2.1 124 _ rfl, hf_lin hs 124 rfl, ⟨hs.2.2 124 0 _ rfl, hs.2.1 125 _ rfl, hf_lin hs 125 rfl⟩, ⟨hs.2.2 124 1 _ rfl, hs.2.1 126 _ rfl, hf_lin hs 126 rfl⟩, ⟨hs.2.2 124 2 _ rfl, hs.2.1 127 _ rfl, hf_lin hs 127 rfl⟩, ⟨hs.2.2 124 3 _ rfl, hs.2.1 128 _ rfl, hf_lin hs 128 rfl⟩, ⟨hs.2.2 124 4 _ rfl, hs.2.1 129 _ rfl, hf_lin hs 129 rfl⟩, ⟨hs.2.2 124 5 _ rfl, hs.2.1 130 _ rfl, hf_lin hs 130 rfl⟩, trivial⟩
    refine w_X4_findHolding_0_d hs hx (Or.inl (by rw [hn]; decide)) ?_
    rw [hn]
    exact ⟨fun _ => h0 rfl I (fun _ _ _ _ => rfl), fun g => absurd (by decide) g⟩
  · have hcl : I 101 16 < 0 ∨ P 111 (I 101 16).toNatClampNeg = some (181 + tx) := Or.inr (by rw [hi, nI_clamp (by omega)]; exact hP)
    refine w_X4_findHolding_0_d hs hx hcl ⟨fun g => absurd g (by rw [hi]; exact nI_pos (by omega)), fun _ => ⟨fun _ => ⟨by rw [hi]; exact vp_in_nI hi6 (by omega), ?_⟩, fun g => absurd hlt g⟩⟩
    -- from the last CLAUSE to the first
    have fr_tx : ∀ {I' : hf_I}, jc_fr I I' → ∀ a, I' (181 + a) = I (181 + a) := fun hf a => hf (181 + a) (by omega) (by omega) (by omega)
    have loop : ∀ (n : Nat) (I' : hf_I), n ≤ cls.length → jc_fr I I' → I' 133 = I 133 → lw_fo (I 133) kd none cls = lw_fo (I 133) kd none (cls.take n) → hf_G X Y_X4_findHolding (d + 2) kk nn 58 [some (.ref 135), some (.int (nI kd)), some (.ref (181 + tx)), some (.int (nI n - 1)), none] [] (t, T, I', L, P) Q := by
      intro n
      induction n with
      | zero =>
        intro I' _ hf _ he
        exact w_X4_findHolding_58_d hs hx ⟨fun _ => h0 he I' hf, fun g => absurd (by decide) g⟩
      | succ n ih =>
        intro I' hn hf h133 he
        obtain ⟨q, hq⟩ : ∃ q, cls[n]? = some q := ⟨cls[n], List.getElem?_eq_getElem (by omega)⟩
        have hqg := hgd q (List.mem_of_getElem? hq)
        have htk : cls.take (n + 1) = cls.take n ++ [q] := by
          rw [List.take_succ, hq]
          rfl
        rw [htk, lw_fo_snoc] at he
        obtain ⟨t6, t7, tcd, trow⟩ := htx
        obtain ⟨r1, r2, r3, r4, r5⟩ := trow n q hq
        replace r1 : I (181 + c1) n = nI q.1 := r1
        rw [← fr_tx hf] at r1
        replace r2 : I (181 + c2) n = nI (2 * (cl_cd (cls.take n)).length) := r2
        rw [← fr_tx hf] at r2
        replace r3 : I (181 + c3) n = nI (2 * ((cl_cd (cls.take n)).length + q.2.1.1.length)) := r3
        rw [← fr_tx hf] at r3
        replace r4 : I (181 + c4) n = nI (2 * ((cl_cd (cls.take n)).length + q.2.1.1.length + q.2.2.2.1.length)) := r4
        rw [← fr_tx hf] at r4
        obtain ⟨rest, hsp⟩ := cl_cd_split hq
        have hcd : rk_cd (I' (181 + c0)) 0 (cl_cd cls) := by
          intro j hj
          rw [Nat.zero_add, fr_tx hf]
          exact tcd j hj
        have hlen := congrArg List.length hsp
        rw [List.length_append, List.length_append, List.length_append] at hlen
        rw [hsp] at hcd
        have hcs := rk_cd_r hcd
        rw [Nat.zero_add] at hcs
        have hcS := rk_cd_l hcs
        have hcT := rk_cd_l (rk_cd_r hcs)
        have t6' : I' (181 + tx) 6 = nI (2 * (cl_cd cls).length) := by rw [fr_tx hf]; exact t6
        obtain ⟨g1, -, gS, gT⟩ := hqg
        have x4 : nI n + (-1) = nI n - 1 := by rw [Int32.sub_eq_add_neg]
        have vin : vp_in (nI n) m := vp_in_nI (by omega) (by omega)
        rw [nI_pred]
        have next : lw_s (I 133) kd (lw_fo (I 133) kd none (cls.take n)) q = lw_fo (I 133) kd none (cls.take n) → ∀ I2, jc_fr I I2 → I2 133 = I 133 → hf_G X Y_X4_findHolding (d + 2) kk nn 58 [some (.ref 135), some (.int (nI kd)), some (.ref (181 + tx)), some (.int (nI n + (-1))), none] [] (t, T, I2, L, P) Q := by
          intro hno I2 hf2 h2
          rw [x4]
          exact ih I2 (by omega) hf2 h2 (he.trans hno)
        by_cases hk : q.1 = kd
        · have sk : ∀ x, lw_h (I 133) q = some x → lw_fo (I 133) kd none cls = some x := fun x hx1 => by rw [he]; unfold lw_s; rw [if_pos hk, hx1]
          have no : lw_h (I 133) q = none → ∀ I2, jc_fr I I2 → I2 133 = I 133 → _ := fun hx1 => next (by unfold lw_s; rw [if_pos hk, hx1])
          -- the sum, the test being so
          have sum : ∀ (y : Int32), q.2.2.2.2 (I 133) = some y → ¬ y = 0 → ∀ I2, jc_fr I I2 → I2 133 = I 133 → I2 (181 + c2) n = nI (2 * (cl_cd (cls.take n)).length) → I2 (181 + c3) n = nI (2 * ((cl_cd (cls.take n)).length + q.2.1.1.length)) → (nI (2 * ((cl_cd (cls.take n)).length + q.2.1.1.length)) ≤ nI (2 * (cl_cd (cls.take n)).length) → Q (some (.int 1)) (t, T, I2, L, P)) ∧ (¬ nI (2 * ((cl_cd (cls.take n)).length + q.2.1.1.length)) ≤ nI (2 * (cl_cd (cls.take n)).length) → vp_in (nI n) m ∧ (vp_in (nI n) m ∧ hf_G X Y_X7_reckon (d + 1) 0 0 0 (hf_en [.ref 132, .ref (181 + tx), .int (nI (2 * (cl_cd (cls.take n)).length)), .int (nI (2 * ((cl_cd (cls.take n)).length + q.2.1.1.length)))] 11) [] (t, T, I2, L, P) (fun r M => hf_G X Y_X4_findHolding (d + 2) kk nn 151 [some (.ref 135), some (.int (nI kd)), some (.ref (181 + tx)), some (.int (nI n)), none] (r.toList ++ []) M Q))) := by
            intro y hy hy0 I2 hf2 h133' _ _
            have hh : lw_h (I 133) q = q.2.1.2 (I 133) := by unfold lw_h; rw [hy]; simp [hy0]
            rcases gS with ⟨hw, c, v, k, lv, hlv, e1, e2⟩ | ⟨hw, e⟩
            · have nz := gr_ps_ne (S := false) (c := c) (v := v) 600 3 0 0 k lv (fun _ => none) (by omega) e1
              have r1 : gr_rest 3 = 1 := rfl
              have e2' : (gr_ps false c v 600 3 0 0 k lv (fun _ => none)).2.2.2.1 = q.2.1.1 := by rw [e2]
              rw [e2'] at nz
              refine ⟨fun g => ?_, fun _ => ⟨vin, vin, ?_⟩⟩
              · have := (nI_leI (by omega) (by omega)).mp g
                omega
              · have hcS' : rk_cd (I2 (181 + c0)) (cl_cd (cls.take n)).length q.2.1.1 := by
                  rw [fr_tx hf2, ← fr_tx hf]; exact hcS
                have key := cs_reckon (X := X) (d := d) (kk := 0) (nn := 0) (L := L) (I0 := I2) (n := 600) (c := c) (v := v) (S := false) (dp := 0) (k := k) (lv := lv) (a := fun _ => none) (p := (cl_cd (cls.take n)).length) (zl := 2 * (cl_cd cls).length) (Q := fun r M => hf_G X Y_X4_findHolding (d + 2) kk nn 151 [some (.ref 135), some (.int (nI kd)), some (.ref (181 + tx)), some (.int (nI n)), none] (r.toList ++ []) M Q) hs hx (by omega) (by omega) (Or.inl rfl) hlv e1 (by rw [e2']; exact hcS') (by rw [fr_tx hf2]; exact t6) (by rw [e2']; omega) hlz
                rw [e2'] at key
                refine key (fun x hx1 I3 f3 f3' f3v => w_X4_findHolding_151_d hs hx ⟨fun g => absurd g (by decide), fun _ => ?_⟩) (fun hx1 I3 f3 => w_X4_findHolding_151_d hs hx ⟨fun _ => ?_, fun g => absurd rfl g⟩)
                · have hx2 : q.2.1.2 (I 133) = some x := by
                    rw [e2, h133'] at hx1
                    exact hx1
                  refine h1 x (sk x (hh.trans hx2)) I3 (fun a a1 a2 a3 => ?_) (fun _ => f3v)
                  rw [f3 a a3 a1]; exact hf2 a a1 a2 a3
                · have hx2 : q.2.1.2 (I 133) = none := by
                    rw [e2, h133'] at hx1
                    exact hx1
                  refine no (hh.trans hx2) I3 (fun a a1 a2 a3 => ?_) ?_
                  · rw [f3 a a3]; exact hf2 a a1 a2 a3
                  · rw [f3 133 (by omega)]; exact h133'
            · have e1 : q.2.1.1.length = 0 := by rw [e]; rfl
              have e2 : q.2.1.2 (I 133) = some 1 := by rw [e]
              refine ⟨fun _ => h1 1 (sk 1 (hh.trans e2)) I2 hf2 (fun q => absurd (hk ▸ q) hw), fun g => absurd ?_ g⟩
              rw [e1]
              exact nI_le (by omega) (by omega)
          refine w_X4_findHolding_58_d hs hx ?_
          rw [nI_clamp (show n < 2 ^ 31 by omega), r1, r2, r3, r4]
          refine ⟨fun g => absurd g (nI_pos (by omega)), fun _ => ⟨vin, fun _ => ⟨vin, vin, fun g => ⟨vin, vin, ?_⟩, fun g => ⟨vin, vin, ?_⟩⟩, fun g => absurd (by rw [hk]) g⟩⟩
          · have hT : q.2.2.2 = ([], fun _ => some 1) := by
              rcases gT with ⟨c, v, k, lv, -, e1, e2⟩ | e
              · have nz := gr_ps_ne (S := false) (c := c) (v := v) 600 9 0 0 k lv (fun _ => none) (by omega) e1
                rw [e2] at nz
                have r1 : gr_rest 9 = 1 := rfl
                have := (nI_leI (by omega) (by omega)).mp g
                omega
              · exact e
            exact sum 1 (by rw [hT]) (by decide) I' hf h133 r2 r3
          · rcases gT with ⟨c, v, k, lv, hlv, e1, e2⟩ | e
            · have e2' : (gr_ps false c v 600 9 0 0 k lv (fun _ => none)).2.2.2.1 = q.2.2.2.1 := by rw [e2]
              have key := cs_reckon (X := X) (d := d) (kk := 0) (nn := 0) (L := L) (I0 := I') (n := 600) (c := c) (v := v) (S := false) (dp := 0) (k := k) (lv := lv) (a := fun _ => none) (p := (cl_cd (cls.take n)).length + q.2.1.1.length) (zl := 2 * (cl_cd cls).length) (Q := fun r M => hf_G X Y_X4_findHolding (d + 2) kk nn 103 [some (.ref 135), some (.int (nI kd)), some (.ref (181 + tx)), some (.int (nI n)), none] (r.toList ++ []) M Q) hs hx (by omega) (by omega) (Or.inr rfl) hlv e1 (by rw [e2']; exact hcT) t6' (by rw [e2']; omega) hlz
              rw [e2'] at key
              refine key (fun y hy I3 f3 f3' f3v => ?_) (fun hy I3 f3 => ?_)
              · have hy2 : q.2.2.2.2 (I 133) = some y := by rw [e2, h133] at hy; exact hy
                have f3i : jc_fr I I3 := fun a a1 a2 a3 => by rw [f3 a a3 a1]; exact hf a a1 a2 a3
                have f33 : I3 133 = I 133 := by rw [f3 133 (by omega) (by omega)]; exact h133
                have u2 : I3 (181 + c2) n = nI (2 * (cl_cd (cls.take n)).length) := by rw [fr_tx f3i, ← fr_tx hf]; exact r2
                have u3 : I3 (181 + c3) n = nI (2 * ((cl_cd (cls.take n)).length + q.2.1.1.length)) := by rw [fr_tx f3i, ← fr_tx hf]; exact r3
                refine w_X4_findHolding_103_d hs hx ?_
                rw [nI_clamp (show n < 2 ^ 31 by omega), u2, u3, f3v]
                exact ⟨fun g => absurd g (by decide), fun _ => ⟨fun hy0 => ⟨vin, vin, sum y hy2 hy0 I3 f3i f33 u2 u3⟩, fun hy0 => no (by unfold lw_h; rw [hy2]; simp [hy0]) I3 f3i f33⟩⟩
              · have hy2 : q.2.2.2.2 (I 133) = none := by rw [e2, h133] at hy; exact hy
                have f3i : jc_fr I I3 := fun a a1 a2 a3 => by rw [f3 a a3]; exact hf a a1 a2 a3
                have f33 : I3 133 = I 133 := by rw [f3 133 (by omega)]; exact h133
                exact w_X4_findHolding_103_d hs hx ⟨fun _ => no (by unfold lw_h; rw [hy2]; rfl) I3 f3i f33, fun g => absurd rfl g⟩
            · have e1 : q.2.2.2.1.length = 0 := by rw [e]; rfl
              refine absurd ?_ g
              rw [e1]
              exact nI_le (by omega) (by omega)
        · refine w_X4_findHolding_58_d hs hx ?_
          rw [nI_clamp (show n < 2 ^ 31 by omega), r1]
          refine ⟨fun g => absurd g (nI_pos (by omega)), fun _ => ⟨vin, fun g => absurd ((nI_eq (by omega) (by omega)).mp g) hk, fun _ => next (by unfold lw_s; rw [if_neg hk]) I' hf h133⟩⟩
    have e7 : I (181 + tx) 7 = nI cls.length := htx.2.1
    rw [e7]
    exact loop cls.length I (Nat.le_refl _) (fun _ _ _ _ => rfl) rfl (by rw [List.take_length])
end LAW
