/-! steps mean one thing alone: what is read off them, without the machine -/
def rk (f : Nat → Int32) : gr_cd → Nat → List Int32 → Option (List Int32)
  | [], _, st => some st
  | _ :: cs, s + 1, st => rk f cs s st
  | (o, x) :: cs, 0, st => if o = 0 then rk f cs 0 (nI x :: st) else if o = 1 then rk f cs 0 (f x :: st) else if o ≤ 9 then (match st with
      | b :: a :: r => (gr_lim (gr_jn o a.toInt64 b.toInt64)).bind fun y => rk f cs 0 (y :: r)
      | _ => none) else (match st with
      | a :: r => if o = 10 then rk f cs 0 ((if a = 0 then 1 else 0) :: r) else if o = 11 then (if a = 0 then rk f cs 0 r else rk f cs (x / 2) (a :: r)) else (if a = 0 then rk f cs (x / 2) (a :: r) else rk f cs 0 r)
      | [] => none)
theorem rk_sk {f : Nat → Int32} {rest : gr_cd} {st : List Int32} : ∀ c : gr_cd, rk f (c ++ rest) c.length st = rk f rest 0 st := by
  intro c
  induction c with
  | nil => rfl
  | cons q c ih => exact ih
theorem rk_bin {f : Nat → Int32} {o x : Nat} {cs : gr_cd} {a b : Int32} {r : List Int32} (h2 : 2 ≤ o) (h9 : o ≤ 9) : rk f ((o, x) :: cs) 0 (b :: a :: r) = (gr_lim (gr_jn o a.toInt64 b.toInt64)).bind fun y => rk f cs 0 (y :: r) := by
  rw [rk, if_neg (by omega), if_neg (by omega), if_pos h9]
/-- a value comes on the pile -/
def rk_v (C : gr_cd) (D : gr_dn) : Prop := ∀ f rest st, rk f (C ++ rest) 0 st = (D f).bind fun y => rk f rest 0 (y :: st)
/-- what stands behind a value makes another of it -/
def rk_r (a : gr_dn) (C : gr_cd) (D : gr_dn) : Prop := ∀ f rest st, (a f).bind (fun y => rk f (C ++ rest) 0 (y :: st)) = (D f).bind fun y => rk f rest 0 (y :: st)
def rk_b (C : gr_cd) : Prop := ∀ q ∈ C, q.1 ≤ 12 ∧ (q.2 ≤ 1000 ∨ q.2 ≤ 2 * C.length)
theorem rk_b_w {C D : gr_cd} (h : rk_b C) (hl : C.length ≤ D.length) : ∀ q ∈ C, q.1 ≤ 12 ∧ (q.2 ≤ 1000 ∨ q.2 ≤ 2 * D.length) := by
  intro q hq
  obtain ⟨a, b⟩ := h q hq
  exact ⟨a, by omega⟩
theorem rk_b_nil : rk_b [] := fun q hq => by simp at hq
theorem rk_b_app {A B : gr_cd} (ha : rk_b A) (hb : rk_b B) : rk_b (A ++ B) := by
  intro q hq
  rw [List.mem_append] at hq
  rcases hq with hq | hq
  · exact rk_b_w ha (by rw [List.length_append]; omega) q hq
  · exact rk_b_w hb (by rw [List.length_append]; omega) q hq
theorem rk_b_one {o x : Nat} (h1 : o ≤ 12) (h2 : x ≤ 1000) : rk_b [(o, x)] := by
  intro q hq
  rw [List.mem_singleton] at hq
  subst hq
  exact ⟨h1, Or.inl h2⟩
theorem rk_b_cons {o x : Nat} {A : gr_cd} (h1 : o ≤ 12) (h2 : x ≤ 1000) (ha : rk_b A) : rk_b ((o, x) :: A) := rk_b_app (A := [(o, x)]) (rk_b_one h1 h2) ha
theorem rk_b_skip {o : Nat} {A B : gr_cd} (h1 : o ≤ 12) (ha : rk_b A) (hb : rk_b B) : rk_b ((o, 2 * A.length) :: (A ++ B)) := by
  intro q hq
  rw [List.mem_cons] at hq
  rcases hq with rfl | hq
  · refine ⟨h1, Or.inr ?_⟩
    show 2 * A.length ≤ _
    rw [List.length_cons, List.length_append]; omega
  · exact rk_b_w (rk_b_app ha hb) (by rw [List.length_cons]; omega) q hq
theorem rk_v_two {c1 c2 : gr_cd} {d1 d2 : gr_dn} (h1 : rk_v c1 d1) (h2 : rk_r d1 c2 d2) : rk_v (c1 ++ c2) d2 := by
  intro f rest st
  rw [List.append_assoc, h1 f (c2 ++ rest) st]
  exact h2 f rest st
theorem rk_r_nil {a : gr_dn} : rk_r a [] a := fun _ _ _ => rfl
theorem rk_r_bin {o : Nat} {a d1 d2 : gr_dn} {c1 c2 : gr_cd} (h2 : 2 ≤ o) (h9 : o ≤ 9) (h1 : rk_v c1 d1) (hr : rk_r (gr_dj o a d1) c2 d2) : rk_r a (c1 ++ (o, 0) :: c2) d2 := by
  intro f rest st
  rw [← hr f rest st]
  unfold gr_dj
  cases a f with
  | none => rfl
  | some y =>
    show rk f (c1 ++ (o, 0) :: c2 ++ rest) 0 (y :: st) = ((d1 f).bind fun z => gr_lim (gr_jn o y.toInt64 z.toInt64)).bind fun y => rk f (c2 ++ rest) 0 (y :: st)
    rw [List.append_assoc, List.cons_append, h1 f ((o, 0) :: (c2 ++ rest)) (y :: st)]
    cases d1 f with
    | none => rfl
    | some z => exact rk_bin h2 h9
theorem rk_v_cmp {o : Nat} {d1 d2 : gr_dn} {c1 c2 : gr_cd} (ho2 : 2 ≤ o) (ho9 : o ≤ 9) (h1 : rk_v c1 d1) (h2 : rk_v c2 d2) : rk_v (c1 ++ (c2 ++ [(o, 0)])) (gr_dj o d1 d2) := by
  intro f rest st
  rw [List.append_assoc, List.append_assoc, h1 f _ st]
  unfold gr_dj
  cases d1 f with
  | none => rfl
  | some y =>
    show rk f (c2 ++ ([(o, 0)] ++ rest)) 0 (y :: st) = ((d2 f).bind fun z => gr_lim (gr_jn o y.toInt64 z.toInt64)).bind fun y => rk f rest 0 (y :: st)
    rw [h2 f _ (y :: st)]
    cases d2 f with
    | none => rfl
    | some z => exact rk_bin ho2 ho9
theorem rk_v_not {d1 : gr_dn} {c1 : gr_cd} (h1 : rk_v c1 d1) : rk_v (c1 ++ [(10, 0)]) (gr_dno d1) := by
  intro f rest st
  rw [List.append_assoc, h1 f _ st]
  unfold gr_dno
  cases d1 f with
  | none => rfl
  | some y => rfl
theorem rk_r_and {a d1 d2 : gr_dn} {c1 c2 : gr_cd} (h1 : rk_v c1 d1) (hr : rk_r (gr_dan a d1) c2 d2) : rk_r a ((12, 2 * c1.length) :: (c1 ++ c2)) d2 := by
  intro f rest st
  rw [← hr f rest st]
  unfold gr_dan
  cases a f with
  | none => rfl
  | some y =>
    show (if y = 0 then rk f (c1 ++ c2 ++ rest) (2 * c1.length / 2) (y :: st) else rk f (c1 ++ c2 ++ rest) 0 st) = (if y = 0 then some y else d1 f).bind fun y => rk f (c2 ++ rest) 0 (y :: st)
    rw [List.append_assoc, Nat.mul_div_cancel_left _ (by omega)]
    by_cases e : y = 0
    · rw [if_pos e, if_pos e, rk_sk]
      rfl
    · rw [if_neg e, if_neg e]
      exact h1 f _ st
theorem rk_r_or {a d1 d2 : gr_dn} {c1 c2 : gr_cd} (h1 : rk_v c1 d1) (hr : rk_r (gr_dor a d1) c2 d2) : rk_r a ((11, 2 * c1.length) :: (c1 ++ c2)) d2 := by
  intro f rest st
  rw [← hr f rest st]
  unfold gr_dor
  cases a f with
  | none => rfl
  | some y =>
    show (if y = 0 then rk f (c1 ++ c2 ++ rest) 0 st else rk f (c1 ++ c2 ++ rest) (2 * c1.length / 2) (y :: st)) = (if y = 0 then d1 f else some y).bind fun y => rk f (c2 ++ rest) 0 (y :: st)
    rw [List.append_assoc, Nat.mul_div_cancel_left _ (by omega)]
    by_cases e : y = 0
    · rw [if_pos e, if_pos e]
      exact h1 f _ st
    · rw [if_neg e, if_neg e, rk_sk]
      rfl
theorem gr_bd_two {r : gr_r} {f : Nat → Nat → gr_cd → gr_dn → gr_r} (h : (gr_bd r f).1 = 2) : r.1 = 2 ∧ gr_bd r f = f r.2.1 r.2.2.1 r.2.2.2.1 r.2.2.2.2 := by
  unfold gr_bd at h ⊢
  by_cases e : r.1 = 2
  · rw [if_pos e]; exact ⟨e, rfl⟩
  · rw [if_neg e] at h; exact absurd h e
def rk_P (nt : Nat) (a : gr_dn) (r : gr_r) : Prop := r.1 = 2 → rk_b r.2.2.2.1 ∧ (gr_rest nt = 1 → rk_v r.2.2.2.1 r.2.2.2.2) ∧ (gr_rest nt = 0 → rk_r a r.2.2.2.1 r.2.2.2.2)
theorem rk_P_fl {nt k : Nat} {a : gr_dn} : rk_P nt a (gr_fl k) := fun h => absurd (show 1 = 2 from h) (by decide)
theorem gr_fx_le {S : Bool} {c w : Nat} (h : gr_isv S c = true) (hw : w ≤ 15) : gr_fx S c w ≤ 1000 := by
  cases S with
  | true =>
    show (if c = 21 then 0 else if c = 13 then 1 else if c = 22 then 2 else if c = 23 then 3 else if c = 18 then 4 else if c = 24 then 5 + w else 21 + w) ≤ 1000
    repeat' split
    all_goals omega
  | false =>
    show c - 8 ≤ 1000
    have h' : (Nat.ble 8 c && Nat.ble c 20) = true := h
    rw [Bool.and_eq_true, Nat.ble_eq, Nat.ble_eq] at h'
    omega
theorem gr_o2_r {c : Nat} (h : ¬ gr_o2 c = 0) : 2 ≤ gr_o2 c ∧ gr_o2 c ≤ 9 := by
  rcases gr_o2_ne h with rfl | rfl | rfl <;> decide
theorem gr_o4_r {c : Nat} (h : ¬ gr_o4 c = 0) : 2 ≤ gr_o4 c ∧ gr_o4 c ≤ 9 := by
  rcases gr_o4_ne h with rfl | rfl <;> decide
theorem gr_o6_r {c : Nat} (h : ¬ gr_o6 c = 0) : 2 ≤ gr_o6 c ∧ gr_o6 c ≤ 9 := by
  rcases gr_o6_ne h with rfl | rfl | rfl <;> decide
theorem rk_ps {S : Bool} {c v : Nat → Nat} : ∀ (n nt x dp k lv : Nat) (a : gr_dn), nt ≤ 10 → rk_P nt a (gr_ps S c v n nt x dp k lv a) := by
  intro n
  induction n with
  | zero => intro nt x dp k lv a _ h; exact absurd (show 0 = 2 from h) (by decide)
  | succ n ih =>
    intro nt x dp k lv a hnt
    -- two readings, one behind the other
    have two : ∀ (A B : Nat), A ≤ 10 → B ≤ 10 → gr_rest A = 1 → gr_rest B = 0 → gr_rest nt = 1 → rk_P nt a (gr_bd (gr_ps S c v n A 0 dp k lv a) fun k1 l1 c1 d1 => gr_bd (gr_ps S c v n B 0 dp k1 l1 d1) fun k2 l2 c2 d2 => gr_gd k2 l2 (c1 ++ c2) d2) := by
      intro A B hA hB rA rB rn h
      obtain ⟨e1, e2⟩ := gr_bd_two h
      rw [e2] at h ⊢
      obtain ⟨e3, e4⟩ := gr_bd_two h
      rw [e4]
      obtain ⟨p1, p2, -⟩ := ih A 0 dp k lv a hA e1
      obtain ⟨q1, -, q3⟩ := ih B 0 dp _ _ _ hB e3
      exact ⟨rk_b_app p1 q1, fun _ => rk_v_two (p2 rA) (q3 rB), fun z => by omega⟩
    have bin : ∀ (A B o : Nat), A ≤ 10 → B ≤ 10 → gr_rest A = 1 → gr_rest B = 0 → gr_rest nt = 0 → 2 ≤ o → o ≤ 9 → rk_P nt a (gr_bd (gr_ps S c v n A 0 dp (k + 1) lv a) fun k1 l1 c1 d1 => gr_bd (gr_ps S c v n B 0 dp k1 l1 (gr_dj o a d1)) fun k2 l2 c2 d2 => gr_gd k2 l2 (c1 ++ (o, 0) :: c2) d2) := by
      intro A B o hA hB rA rB rn o2 o9 h
      obtain ⟨e1, e2⟩ := gr_bd_two h
      rw [e2] at h ⊢
      obtain ⟨e3, e4⟩ := gr_bd_two h
      rw [e4]
      obtain ⟨p1, p2, -⟩ := ih A 0 dp (k + 1) lv a hA e1
      obtain ⟨q1, -, q3⟩ := ih B 0 dp _ _ _ hB e3
      exact ⟨rk_b_app p1 (rk_b_cons (by omega) (by omega) q1), fun z => by omega, fun _ => rk_r_bin o2 o9 (p2 rA) (q3 rB)⟩
    have nl : gr_rest nt = 0 → rk_P nt a (gr_gd k lv [] a) := fun z _ => ⟨rk_b_nil, fun y => by omega, fun _ => rk_r_nil⟩
    match nt, hnt with
    | 0, _ =>
      rw [gr_ps_0]
      split
      · split
        · exact rk_P_fl
        · intro h
          obtain ⟨e1, e2⟩ := gr_bd_two h
          rw [e2] at h ⊢
          split at h
          · rename_i hc
            rw [if_pos hc]
            obtain ⟨p1, p2, -⟩ := ih 3 0 (dp + 1) (k + 1) lv a (by omega) e1
            exact ⟨p1, fun _ => p2 rfl, fun z => absurd z (by decide)⟩
          · exact absurd (show 1 = 2 from h) (by decide)
      · split
        · rename_i hv
          split
          · exact rk_P_fl
          · exact fun _ => ⟨rk_b_one (by omega) hv.2, fun _ => fun _ _ _ => rfl, fun z => absurd z (by decide)⟩
        · split
          · rename_i hv
            split
            · exact rk_P_fl
            · split
              · split
                · rename_i hw
                  exact fun _ => ⟨rk_b_one (by omega) (gr_fx_le hv hw.2), fun _ => fun _ _ _ => rfl, fun z => absurd z (by decide)⟩
                · exact rk_P_fl
              · exact fun _ => ⟨rk_b_one (by omega) (gr_fx_le hv (by omega)), fun _ => fun _ _ _ => rfl, fun z => absurd z (by decide)⟩
          · exact rk_P_fl
    | 1, _ => exact two 0 2 (by omega) (by omega) rfl rfl rfl
    | 2, _ =>
      rw [gr_ps_2]
      split
      · exact nl rfl
      · rename_i ho
        exact bin 0 2 _ (by omega) (by omega) rfl rfl rfl (gr_o2_r ho).1 (gr_o2_r ho).2
    | 3, _ => exact two 1 4 (by omega) (by omega) rfl rfl rfl
    | 4, _ =>
      rw [gr_ps_4]
      split
      · exact nl rfl
      · rename_i ho
        exact bin 1 4 _ (by omega) (by omega) rfl rfl rfl (gr_o4_r ho).1 (gr_o4_r ho).2
    | 5, _ =>
      rw [gr_ps_5]
      by_cases e : c k = 7
      · rw [if_pos e]
        intro h
        obtain ⟨p1, p2, -⟩ := ih 5 _ dp (k + 1) lv a (by omega) h
        exact ⟨p1, fun _ => p2 rfl, fun z => absurd z (by decide)⟩
      · rw [if_neg e]
        intro h
        obtain ⟨e1, e2⟩ := gr_bd_two h
        rw [e2]
        obtain ⟨p1, p2, -⟩ := ih 6 0 dp k lv a (by omega) e1
        by_cases ex : x = 0
        · rw [if_pos ex]
          exact ⟨p1, fun _ => p2 rfl, fun z => absurd z (by decide)⟩
        · rw [if_neg ex]
          exact ⟨rk_b_app p1 (rk_b_one (by omega) (by omega)), fun _ => rk_v_not (p2 rfl), fun z => absurd z (by decide)⟩
    | 6, _ =>
      rw [gr_ps_6]
      split
      · split
        · exact rk_P_fl
        · intro h
          obtain ⟨e1, e2⟩ := gr_bd_two h
          rw [e2] at h ⊢
          split at h
          · rename_i hc
            rw [if_pos hc]
            obtain ⟨p1, p2, -⟩ := ih 9 0 (dp + 1) (k + 1) lv a (by omega) e1
            exact ⟨p1, fun _ => p2 rfl, fun z => absurd z (by decide)⟩
          · exact absurd (show 1 = 2 from h) (by decide)
      · intro h
        obtain ⟨e1, e2⟩ := gr_bd_two h
        rw [e2] at h ⊢
        split at h
        · exact absurd (show 1 = 2 from h) (by decide)
        · rename_i ho
          rw [if_neg ho]
          obtain ⟨e3, e4⟩ := gr_bd_two h
          rw [e4]
          obtain ⟨p1, p2, -⟩ := ih 3 0 dp k lv a (by omega) e1
          obtain ⟨q1, q2, -⟩ := ih 3 0 dp _ _ a (by omega) e3
          obtain ⟨o2, o9⟩ := gr_o6_r ho
          exact ⟨rk_b_app p1 (rk_b_app q1 (rk_b_one (by omega) (by omega))), fun _ => rk_v_cmp o2 o9 (p2 rfl) (q2 rfl), fun z => absurd z (by decide)⟩
    | 7, _ => exact two 5 8 (by omega) (by omega) rfl rfl rfl
    | 8, _ =>
      rw [gr_ps_8]
      split
      · intro h
        obtain ⟨e1, e2⟩ := gr_bd_two h
        rw [e2] at h ⊢
        obtain ⟨e3, e4⟩ := gr_bd_two h
        rw [e4]
        obtain ⟨p1, p2, -⟩ := ih 5 0 dp (k + 1) lv a (by omega) e1
        obtain ⟨q1, -, q3⟩ := ih 8 0 dp _ _ _ (by omega) e3
        exact ⟨rk_b_skip (by omega) p1 q1, fun z => absurd z (by decide), fun _ => rk_r_and (p2 rfl) (q3 rfl)⟩
      · exact nl rfl
    | 9, _ => exact two 7 10 (by omega) (by omega) rfl rfl rfl
    | 10, _ =>
      rw [gr_ps_10]
      split
      · intro h
        obtain ⟨e1, e2⟩ := gr_bd_two h
        rw [e2] at h ⊢
        obtain ⟨e3, e4⟩ := gr_bd_two h
        rw [e4]
        obtain ⟨p1, p2, -⟩ := ih 7 0 dp (k + 1) lv a (by omega) e1
        obtain ⟨q1, -, q3⟩ := ih 10 0 dp _ _ _ (by omega) e3
        exact ⟨rk_b_skip (by omega) p1 q1, fun z => absurd z (by decide), fun _ => rk_r_or (p2 rfl) (q3 rfl)⟩
      · exact nl rfl
    | nt + 11, h => omega
/-- a value's steps tell what it is -/
theorem rk_v_uq {C : gr_cd} {D D' : gr_dn} (h : rk_v C D) (h' : rk_v C D') : ∀ f, D f = D' f := by
  intro f
  have a := h f [] []
  have b := h' f [] []
  rw [a] at b
  cases e : D f with
  | none =>
    rw [e] at b
    cases e' : D' f with
    | none => rfl
    | some y => rw [e'] at b; exact absurd b (by simp [rk])
  | some x =>
    rw [e] at b
    cases e' : D' f with
    | none => rw [e'] at b; exact absurd b (by simp [rk])
    | some y =>
      rw [e'] at b
      simp [rk] at b
      rw [b]
theorem rk_v_ne {D : gr_dn} (h : rk_v [] D) : False := by
  have a := h (fun _ => 0) [] []
  cases e : D (fun _ => 0) with
  | none => rw [e] at a; exact absurd a (by simp [rk])
  | some y => rw [e] at a; exact absurd a (by simp [rk])
/-- of a CLAUSE -/
theorem cl_rk {S : Bool} {q : gr_c1} (h : cl_gd S q) : rk_b q.2.1.1 ∧ rk_b q.2.2.2.1 ∧ (rk_v q.2.1.1 q.2.1.2 ∨ (¬ gr_wsm S q.1 = true ∧ q.2.1 = ([], fun _ => some 1))) ∧ (rk_v q.2.2.2.1 q.2.2.2.2 ∨ q.2.2.2 = ([], fun _ => some 1)) := by
  obtain ⟨-, -, h1, h2⟩ := h
  refine ⟨?_, ?_, ?_, ?_⟩
  · rcases h1 with ⟨-, c, v, k, lv, -, e, e2⟩ | ⟨-, e⟩
    · rw [← e2]; exact (rk_ps 600 3 0 0 k lv _ (by omega) e).1
    · rw [e]; exact rk_b_nil
  · rcases h2 with ⟨c, v, k, lv, -, e, e2⟩ | e
    · rw [← e2]; exact (rk_ps 600 9 0 0 k lv _ (by omega) e).1
    · rw [e]; exact rk_b_nil
  · rcases h1 with ⟨-, c, v, k, lv, -, e, e2⟩ | h1
    · rw [← e2]; exact Or.inl ((rk_ps 600 3 0 0 k lv _ (by omega) e).2.1 rfl)
    · exact Or.inr h1
  · rcases h2 with ⟨c, v, k, lv, -, e, e2⟩ | h2
    · rw [← e2]; exact Or.inl ((rk_ps 600 9 0 0 k lv _ (by omega) e).2.1 rfl)
    · exact Or.inr h2
theorem cl_uq {S : Bool} {q q' : gr_c1} (h : cl_gd S q) (h' : cl_gd S q') (e1 : q.2.1.1 = q'.2.1.1) (e2 : q.2.2.2.1 = q'.2.2.2.1) (f : Nat → Int32) : q.2.1.2 f = q'.2.1.2 f ∧ q.2.2.2.2 f = q'.2.2.2.2 f := by
  obtain ⟨-, -, a, b⟩ := cl_rk h
  obtain ⟨-, -, a', b'⟩ := cl_rk h'
  rw [e1] at a
  rw [e2] at b
  constructor
  · rcases a with a | ⟨-, a⟩
    · rcases a' with a' | ⟨-, a'⟩
      · exact rk_v_uq a a' f
      · rw [show q'.2.1.1 = [] by rw [a']] at a
        exact (rk_v_ne a).elim
    · rcases a' with a' | ⟨-, a'⟩
      · rw [← e1, show q.2.1.1 = [] by rw [a]] at a'
        exact (rk_v_ne a').elim
      · rw [a, a']
  · rcases b with b | b
    · rcases b' with b' | b'
      · exact rk_v_uq b b' f
      · rw [show q'.2.2.2.1 = [] by rw [b']] at b
        exact (rk_v_ne b).elim
    · rcases b' with b' | b'
      · rw [← e2, show q.2.2.2.1 = [] by rw [b]] at b'
        exact (rk_v_ne b').elim
      · rw [b, b']
theorem lw_fo_uq {f : Nat → Int32} {kd : Nat} : ∀ (cls cls' : List gr_c1) (acc : Option Int32), cls.length = cls'.length → (∀ (i : Nat) (q q' : gr_c1), cls[i]? = some q → cls'[i]? = some q' → q.1 = q'.1 ∧ lw_h f q = lw_h f q') → lw_fo f kd acc cls = lw_fo f kd acc cls' := by
  intro cls
  induction cls with
  | nil =>
    intro cls' acc hl h
    cases cls' with
    | nil => rfl
    | cons q qs => exact absurd hl (by simp)
  | cons q qs ih =>
    intro cls' acc hl h
    cases cls' with
    | nil => exact absurd hl (by simp)
    | cons q' qs' =>
      obtain ⟨a, b⟩ := h 0 q q' rfl rfl
      rw [lw_fo, lw_fo, show lw_s f kd acc q = lw_s f kd acc q' by unfold lw_s; rw [a, b]]
      exact ih qs' _ (by simpa using hl) fun i r r' hr hr' => h (i + 1) r r' hr hr'
theorem cl_cd_at {cls : List gr_c1} {i : Nat} {q : gr_c1} (h : cls[i]? = some q) : ∃ D, cl_cd cls = cl_cd (cls.take i) ++ ((q.2.1.1 ++ q.2.2.2.1) ++ D) := by
  refine ⟨cl_cd (cls.drop (i + 1)), ?_⟩
  obtain ⟨hi, e⟩ := List.getElem?_eq_some_iff.mp h
  have e2 : cls = cls.take i ++ (q :: cls.drop (i + 1)) := by
    rw [← e, List.getElem_cons_drop, List.take_append_drop]
  have e3 : cl_cd (cls.take i ++ (q :: cls.drop (i + 1))) = cl_cd (cls.take i) ++ ((q.2.1.1 ++ q.2.2.2.1) ++ cl_cd (cls.drop (i + 1))) := by
    unfold cl_cd
    rw [List.flatMap_append, List.flatMap_cons]
  rw [← e3, ← e2]
/-- the same cells hold the same CLAUSES, as far as they mean something -/
theorem tx_uq {S : Bool} {tx c0 c1 c2 c3 c4 c5 : Nat} {cls cls' : List gr_c1} {J : Nat → Nat → Int32} (h : tx_st tx c0 c1 c2 c3 c4 c5 cls J) (h' : tx_st tx c0 c1 c2 c3 c4 c5 cls' J) (hg : ∀ q ∈ cls, cl_gd S q) (hg' : ∀ q ∈ cls', cl_gd S q) (hl : cls.length ≤ 12) (hl' : cls'.length ≤ 12) (hz : 2 * (cl_cd cls).length ≤ 800) (hz' : 2 * (cl_cd cls').length ≤ 800) :
    cls.length = cls'.length ∧ (cl_cd cls).length = (cl_cd cls').length ∧ ∀ (i : Nat) (q q' : gr_c1), cls[i]? = some q → cls'[i]? = some q' → q.1 = q'.1 ∧ q.2.2.1 = q'.2.2.1 ∧ ∀ f, q.2.1.2 f = q'.2.1.2 f ∧ q.2.2.2.2 f = q'.2.2.2.2 f := by
  obtain ⟨a1, a2, a3, a4⟩ := h
  obtain ⟨b1, b2, b3, b4⟩ := h'
  have el : cls.length = cls'.length := (nI_eq (by omega) (by omega)).mp (a2.symm.trans b2)
  have ec : (cl_cd cls).length = (cl_cd cls').length := by
    have := (nI_eq (by omega) (by omega)).mp (a1.symm.trans b1)
    omega
  have bd : ∀ (cls : List gr_c1), (∀ q ∈ cls, cl_gd S q) → 2 * (cl_cd cls).length ≤ 800 → ∀ q ∈ cl_cd cls, q.1 ≤ 12 ∧ q.2 ≤ 1000 := by
    intro cls hg hz q hq
    obtain ⟨r, hr, hq'⟩ := List.mem_flatMap.mp hq
    obtain ⟨g1, g2, -, -⟩ := cl_rk (hg r hr)
    obtain ⟨i, hi⟩ := List.getElem?_of_mem hr
    obtain ⟨D, eD⟩ := cl_cd_at hi
    have ll := congrArg List.length eD
    rw [List.length_append, List.length_append, List.length_append] at ll
    rw [List.mem_append] at hq'
    rcases hq' with hq' | hq'
    · obtain ⟨u, w⟩ := g1 q hq'
      exact ⟨u, by omega⟩
    · obtain ⟨u, w⟩ := g2 q hq'
      exact ⟨u, by omega⟩
  have eq : cl_cd cls = cl_cd cls' := by
    apply List.ext_getElem?
    intro i
    by_cases hi : i < (cl_cd cls).length
    · have hi' : i < (cl_cd cls').length := by omega
      obtain ⟨x1, x2⟩ := a3 i hi
      obtain ⟨y1, y2⟩ := b3 i hi'
      rw [List.getD_eq_getElem?_getD, List.getElem?_eq_getElem hi] at x1 x2
      rw [List.getD_eq_getElem?_getD, List.getElem?_eq_getElem hi'] at y1 y2
      obtain ⟨u1, u2⟩ := bd cls hg hz _ (List.getElem_mem hi)
      obtain ⟨w1, w2⟩ := bd cls' hg' hz' _ (List.getElem_mem hi')
      simp only [Option.getD_some] at x1 x2 y1 y2
      rw [List.getElem?_eq_getElem hi, List.getElem?_eq_getElem hi']
      have z1 := (nI_eq (by omega) (by omega)).mp (x1.symm.trans y1)
      have z2 := (nI_eq (by omega) (by omega)).mp (x2.symm.trans y2)
      exact congrArg some (Prod.ext z1 z2)
    · rw [List.getElem?_eq_none (by omega), List.getElem?_eq_none (by omega)]
  refine ⟨el, ec, fun i q q' hq hq' => ?_⟩
  obtain ⟨p1, p2, p3, p4, p5⟩ := a4 i q hq
  obtain ⟨r1, r2, r3, r4, r5⟩ := b4 i q' hq'
  obtain ⟨D, eD⟩ := cl_cd_at hq
  obtain ⟨D', eD'⟩ := cl_cd_at hq'
  have gq := hg q (List.mem_of_getElem? hq)
  have gq' := hg' q' (List.mem_of_getElem? hq')
  have ll := congrArg List.length eD
  have ll' := congrArg List.length eD'
  rw [List.length_append, List.length_append, List.length_append] at ll ll'
  have l2 := (nI_eq (by omega) (by omega)).mp (p2.symm.trans r2)
  have l3 := (nI_eq (by omega) (by omega)).mp (p3.symm.trans r3)
  have l4 := (nI_eq (by omega) (by omega)).mp (p4.symm.trans r4)
  have k1 : q.1 ≤ 3 := gq.1
  have k2 : q'.1 ≤ 3 := gq'.1
  have k3 : q.2.2.1 ≤ 20 := gq.2.1.2
  have k4 : q'.2.2.1 ≤ 20 := gq'.2.1.2
  have e0 := (nI_eq (by omega) (by omega)).mp (p1.symm.trans r1)
  have e5 := (nI_eq (by omega) (by omega)).mp (p5.symm.trans r5)
  rw [eq, eD'] at eD
  have s1 := List.append_inj_right eD (by omega)
  have s2 := List.append_inj_left s1 (by rw [List.length_append, List.length_append]; omega)
  have s3 := List.append_inj s2 (by omega)
  exact ⟨e0, e5, fun f => cl_uq gq gq' s3.1.symm s3.2.symm f⟩
/-- what the LAW in FORCE says is told by the class's cells -/
theorem lw_c_uq {t t' : Nat} {T T' : hf_T} {I I' : hf_I} {P P' : hf_P} {cls cls' : List gr_c1} (h : lw_c t T I P cls) (h' : lw_c t' T' I' P' cls') (e16 : I' 101 16 = I 101 16) (eJ : (fun a => I' (181 + a)) = fun a => I (181 + a)) (eP : P' = P) : ∀ f kd, lw_fo f kd none cls = lw_fo f kd none cls' := by
  intro f kd
  subst eP
  rcases h with ⟨h1, rfl⟩ | ⟨i, tx, h1, h2, h3, h4, ⟨z, m, c0, c1, c2, c3, c4, c5, h5, h6, h7, h8, h9, h10⟩, h11⟩
  · rcases h' with ⟨g1, rfl⟩ | ⟨i', tx', g1, g2, -⟩
    · rfl
    · rw [e16, h1] at g1
      exact absurd g1.symm (hf_nm1 (by omega))
  · rcases h' with ⟨g1, -⟩ | ⟨i', tx', g1, g2, g3, g4, ⟨z', m', b0, b1, b2, b3, b4, b5, g5, g6, g7, g8, g9, g10⟩, g11⟩
    · rw [e16, h1] at g1
      exact absurd g1 (hf_nm1 (by omega))
    · have ei : i' = i := (nI_eq (by omega) (by omega)).mp (g1.symm.trans (e16.trans h1))
      subst ei
      have etx : tx' = tx := by
        have := Option.some.inj (g4.symm.trans h4)
        omega
      subst etx
      obtain ⟨-, -, ⟨p0, -⟩, ⟨p1, -⟩, ⟨p2, -⟩, ⟨p3, -⟩, ⟨p4, -⟩, ⟨p5, -⟩, -⟩ := h5
      obtain ⟨-, -, ⟨q0, -⟩, ⟨q1, -⟩, ⟨q2, -⟩, ⟨q3, -⟩, ⟨q4, -⟩, ⟨q5, -⟩, -⟩ := g5
      have s0 : b0 = c0 := by have := Option.some.inj (q0.symm.trans p0); omega
      have s1 : b1 = c1 := by have := Option.some.inj (q1.symm.trans p1); omega
      have s2 : b2 = c2 := by have := Option.some.inj (q2.symm.trans p2); omega
      have s3 : b3 = c3 := by have := Option.some.inj (q3.symm.trans p3); omega
      have s4 : b4 = c4 := by have := Option.some.inj (q4.symm.trans p4); omega
      have s5 : b5 = c5 := by have := Option.some.inj (q5.symm.trans p5); omega
      subst s0; subst s1; subst s2; subst s3; subst s4; subst s5
      rw [eJ] at g10
      obtain ⟨u1, -, u3⟩ := tx_uq h10 g10 h11 g11 (by omega) (by omega) (by omega) (by omega)
      refine lw_fo_uq cls cls' none u1 fun j q q' hq hq' => ?_
      obtain ⟨v1, -, v3⟩ := u3 j q q' hq hq'
      refine ⟨v1, ?_⟩
      unfold lw_h
      rw [(v3 f).1, (v3 f).2]
