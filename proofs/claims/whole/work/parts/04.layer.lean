/-! the judgement without the machine's noise: memory as functions of cell and place, cells numbered from 100 in the order of their making -/
abbrev hf_T : Type := Nat → Nat × Nat
abbrev hf_I : Type := Nat → Nat → Int32
abbrev hf_L : Type := Nat → Nat → Int64
abbrev hf_P : Type := Nat → Nat → Option Nat
abbrev hf_M : Type := Nat × hf_T × hf_I × hf_L × hf_P
abbrev hf_Y : Type := MethodName × ByteArray × Nat × Option FieldType
def hf_ad (B : Nat) (ad : Nat → Nat) (k : Nat) : Nat := if k < 100 then ad k else B + (k - 100)
def hf_v (B : Nat) (ad : Nat → Nat) (v : Value) : Value := match v with
  | .ref k => .ref (hf_ad B ad k)
  | v => v
def hf_ty (c : Nat) : Nat → FieldType := match c with
  | 0 => tyX0
  | 1 => tyX1
  | 2 => tyX2
  | 3 => tyX3
  | 4 => tyX4
  | 5 => tyX5
  | 6 => tyX6
  | 7 => tyX7
  | 8 => tyX8
  | 9 => tyX9
  | 10 => tyX10
  | 11 => tyX11
  | _ => tyX12
def hf_N (c : Nat) : Nat := ((vwCl[c]?).map (fun q => q.2.2)).getD 0
def hf_fv (B : Nat) (ad : Nat → Nat) (ty : FieldType) (i : Int32) (l : Int64) (p : Option Nat) : Value := match ty with
  | .long => .long l
  | .object _ => va_rf (p.map (hf_ad B ad))
  | .array _ => va_rf (p.map (hf_ad B ad))
  | _ => .int i
def hf_fs (B : Nat) (ad : Nat → Nat) (c : Nat) (i : Nat → Int32) (l : Nat → Int64) (p : Nat → Option Nat) : List Value := (List.range (hf_N c)).map (fun j => hf_fv B ad (hf_ty c j) (i j) (l j) (p j))
def hf_ar (B : Nat) (ad : Nat → Nat) (dA : Nat → ClassId) (kd n : Nat) (i : Nat → Int32) (l : Nat → Int64) (p : Nat → Option Nat) : va_E :=
  if kd = 103 then .inl (dA kd, n, .inr (.inl l)) else if 104 ≤ kd then .inl (dA kd, n, .inr (.inr (.inr (.inr (fun j => (p j).map (hf_ad B ad)))))) else .inl (dA kd, n, .inl i)
def hf_c (B : Nat) (ad : Nat → Nat) (dA : Nat → ClassId) (q : Nat × Nat) (i : Nat → Int32) (l : Nat → Int64) (p : Nat → Option Nat) : va_E :=
  if q.1 < 100 then .inr (q.1, hf_fs B ad q.1 i l p) else hf_ar B ad dA q.1 q.2 i l p
def hf_cm (B : Nat) (ad : Nat → Nat) (dA : Nat → ClassId) (M : hf_M) (a : Nat) : va_E := hf_c B ad dA (M.2.1 a) (M.2.2.1 a) (M.2.2.2.1 a) (M.2.2.2.2 a)
def hf_ws (B : Nat) (ad : Nat → Nat) (dA : Nat → ClassId) (M : hf_M) : va_W := (List.range M.1).map (fun k => (B + k, hf_cm B ad dA M (100 + k)))
def hf_H (B : Nat) (ad : Nat → Nat) (D : va_G) (dA : Nat → ClassId) (M : hf_M) (H : Heap) : Prop := H.size = B + M.1 ∧ va_P D vwCl (hf_ws B ad dA M) H
def hf_A (B : Nat) : Nat → Prop := fun q => B ≤ q
def hf_tys (dA : Nat → ClassId) : List (ClassId × FieldType) := [(dA 100, .int), (dA 101, .byte), (dA 102, .boolean), (dA 103, .long), (dA 104, .object RX1), (dA 105, .object RX9)]
/-- what stays true of the tables and of what was there before -/
def hf_w (B : Nat) (ad : Nat → Nat) (D : va_G) (dA : Nat → ClassId) (Lx : Nat) (xs : Nat → Int32) (s : State) : Prop := va_K D vwCl (hf_tys dA) s ∧ B ≤ s.heap.size ∧ ad 0 < B ∧ va_X (ad 0) Lx xs s s.heap
def hf_cx (Y : hf_Y) (B : Nat) (ad : Nat → Nat) (D : va_G) (dA : Nat → ClassId) (Lx : Nat) (xs : Nat → Int32) (p : Program) (s : State) (m : MethodId) (args : Array Value) (meth : Method) (c : Code) : Prop :=
  p.tables.exec = Jvm.exec ∧ c.code = Y.2.1 ∧ meth.sig.returnType = Y.2.2.2 ∧ c.maxLocals = Y.2.2.1 ∧ s.vm.findClass Y.1.cls = some m.cls ∧ (∀ w ∈ hf_tb, w.before args s = true) ∧ meth.locks = false ∧ meth.name = Y.1.name ∧ hf_w B ad D dA Lx xs s
def hf_R (d k n : Nat) : Room := { frames := d, cells := k, slots := n, locals := 60 * d }
def hf_Qc (B : Nat) (ad : Nat → Nat) (D : va_G) (dA : Nat → ClassId) (Q : Option Value → hf_M → Prop) : Array Value → State → Outcome → State → Prop := fun _ st o t =>
  (∃ (r : Option Value) (M : hf_M), o = .returned (r.map (hf_v B ad)) ∧ Q r M ∧ hf_H B ad D dA M t.heap) ∧ va_F (hf_A B) st t
def hf_ls (B : Nat) (ad : Nat → Nat) (ls : Array Slot) (nL : Nat) (l : List (Option Value)) : Prop := ls.size = nL ∧ lv_wf ls ∧ ∀ (i : Nat) (v : Value), l[i]? = some (some v) → ls[i]? = some (.val (hf_v B ad v))
/-- from here the method returns, in a state with Q -/
def hf_G (Y : hf_Y) (d k n pc : Nat) (l : List (Option Value)) (st : List Value) (M : hf_M) (Q : Option Value → hf_M → Prop) : Prop :=
  ∀ (B : Nat) (ad : Nat → Nat) (D : va_G) (dA : Nat → ClassId) (Lx : Nat) (xs : Nat → Int32) (p : Program) (la : Launch) (e : Env) (s : State) (m : MethodId) (args : Array Value) (below : List Frame) (meth : Method) (c : Code) (H : Heap) (locs : List Loc) (cells slots mc ms : Nat) (ls : Array Slot),
    hf_cx Y B ad D dA Lx xs p s m args meth c → cells + k ≤ mc → slots + n ≤ ms → hf_H B ad D dA M H → va_S (hf_A B) s.heap H locs → hf_ls B ad ls Y.2.2.1 l →
    W p la e (hf_R d mc ms) s m args below meth c H locs cells slots (MQ below (hf_Qc B ad D dA Q) args s mc ms (hf_A B)) (F0 m pc ls (st.map (hf_v B ad)))
theorem hf_ad_hi {B : Nat} {ad : Nat → Nat} {a : Nat} (h : 100 ≤ a) : hf_ad B ad a = B + (a - 100) := by
  unfold hf_ad
  rw [if_neg (by omega)]
theorem hf_cat (B : Nat) (ad : Nat → Nat) (v : Value) : (hf_v B ad v).category = v.category := by cases v <;> rfl
theorem hf_ws_at {B : Nat} {ad : Nat → Nat} {dA : Nat → ClassId} {M : hf_M} {a : Nat} (h1 : 100 ≤ a) (h2 : a < 100 + M.1) : (hf_ws B ad dA M)[a - 100]? = some (hf_ad B ad a, hf_cm B ad dA M a) := by
  unfold hf_ws
  rw [List.getElem?_map, List.getElem?_range (by omega), hf_ad_hi h1]
  simp only [Option.map_some]
  rw [show 100 + (a - 100) = a by omega]
theorem hf_ws_in {B : Nat} {ad : Nat → Nat} {dA : Nat → ClassId} {M : hf_M} {k : Nat} {q : Nat × va_E} (h : (hf_ws B ad dA M)[k]? = some q) : k < M.1 ∧ q = (B + k, hf_cm B ad dA M (100 + k)) := by
  unfold hf_ws at h
  rw [List.getElem?_map] at h
  by_cases hk : k < M.1
  · rw [List.getElem?_range hk] at h
    exact ⟨hk, (Option.some.inj h).symm⟩
  · rw [List.getElem?_eq_none (by simp; omega)] at h
    cases h
theorem hf_D {B : Nat} {ad : Nat → Nat} {dA : Nat → ClassId} {M : hf_M} : va_D (hf_A B) (hf_ws B ad dA M) := by
  refine ⟨fun i j x y hx hy hxy => ?_, fun k q hk => ?_⟩
  · obtain ⟨-, rfl⟩ := hf_ws_in hx
    obtain ⟨-, rfl⟩ := hf_ws_in hy
    have h : B + i = B + j := hxy
    omega
  · obtain ⟨-, rfl⟩ := hf_ws_in hk
    exact Nat.le_add_right B k
theorem hf_ws_set {B : Nat} {ad : Nat → Nat} {dA : Nat → ClassId} {M M' : hf_M} {a : Nat} {x : va_E} (h1 : 100 ≤ a) (h2 : a < 100 + M.1) (hm : M'.1 = M.1) (ho : ∀ b, b ≠ a → hf_cm B ad dA M' b = hf_cm B ad dA M b) (hx : hf_cm B ad dA M' a = x) : (hf_ws B ad dA M).set (a - 100) (hf_ad B ad a, x) = hf_ws B ad dA M' := by
  apply List.ext_getElem?
  intro i
  rw [List.getElem?_set]
  by_cases hi : a - 100 = i
  · rw [if_pos hi]
    subst hi
    rw [if_pos (by simp [hf_ws]; omega), hf_ws_at h1 (by omega), hx]
  · rw [if_neg hi]
    unfold hf_ws
    rw [List.getElem?_map, List.getElem?_map, hm]
    by_cases hk : i < M.1
    · rw [List.getElem?_range hk]
      simp only [Option.map_some]
      rw [ho (100 + i) (by omega)]
    · rw [List.getElem?_eq_none (by simp; omega)]
      rfl
/-- the locals, laid as the kit has them -/
def hf_ll (B : Nat) (ad : Nat → Nat) (l : List (Option Value)) : List (Nat × Value) := (List.range l.length).filterMap (fun i => match l[i]? with
  | some (some v) => some (i, hf_v B ad v)
  | _ => none)
theorem hf_ll_mem {B : Nat} {ad : Nat → Nat} {l : List (Option Value)} {q : Nat × Value} : q ∈ hf_ll B ad l ↔ ∃ v, l[q.1]? = some (some v) ∧ q.2 = hf_v B ad v := by
  unfold hf_ll
  rw [List.mem_filterMap]
  constructor
  · rintro ⟨i, -, h⟩
    cases hl : l[i]? with
    | none => rw [hl] at h; cases h
    | some o =>
      cases o with
      | none => rw [hl] at h; cases h
      | some v =>
        rw [hl] at h
        cases h
        exact ⟨v, hl, rfl⟩
  · rintro ⟨v, h1, h2⟩
    refine ⟨q.1, ?_, ?_⟩
    · rw [List.mem_range]
      exact (List.getElem?_eq_some_iff.mp h1).1
    · rw [h1]
      simp only
      rw [← h2]
theorem hf_has {B : Nat} {ad : Nat → Nat} {ls : Array Slot} {nL : Nat} {l : List (Option Value)} (h : hf_ls B ad ls nL l) : lv_has ls nL (hf_ll B ad l) := by
  refine ⟨h.1, h.2.1, fun q hq => ?_⟩
  obtain ⟨v, h1, h2⟩ := hf_ll_mem.mp hq
  rw [h2]
  exact h.2.2 q.1 v h1
def hf_wide (a : Option Value) : Bool := match a with
  | some (.long _) => true
  | some (.double _) => true
  | _ => false
def hf_st1 (l : List (Option Value)) (i : Nat) (v : Value) : List (Option Value) := match l, i with
  | [], _ => []
  | _ :: t, 0 => some v :: t
  | a :: t, 1 => (if hf_wide a then none else a) :: hf_st1 t 0 v
  | a :: t, i + 2 => a :: hf_st1 t (i + 1) v
def hf_st2 (l : List (Option Value)) (i : Nat) (v : Value) : List (Option Value) := (hf_st1 l i v).set (i + 1) none
theorem hf_st1_at {l : List (Option Value)} {i : Nat} {v : Value} : ∀ {j : Nat} {w : Value}, (hf_st1 l i v)[j]? = some (some w) → (j = i ∧ w = v) ∨ (j ≠ i ∧ l[j]? = some (some w) ∧ ¬ (j + 1 = i ∧ w.category = 2)) := by
  induction l generalizing i with
  | nil => intro j w h; simp [hf_st1] at h
  | cons a t ih =>
    intro j w h
    match i with
    | 0 =>
      rw [hf_st1] at h
      cases j with
      | zero => exact Or.inl ⟨rfl, by simpa using h.symm⟩
      | succ j => exact Or.inr ⟨by omega, by simpa using h, by omega⟩
    | 1 =>
      rw [hf_st1] at h
      cases j with
      | zero =>
        refine Or.inr ⟨by omega, ?_, ?_⟩
        · cases hw : hf_wide a <;> simp [hw] at h ⊢
          exact h
        · rintro ⟨-, hc⟩
          cases hw : hf_wide a <;> simp [hw] at h
          subst h
          cases w <;> simp [Value.category] at hc <;> simp [hf_wide] at hw
      | succ j =>
        rw [List.getElem?_cons_succ] at h
        rcases ih h with ⟨h1, h2⟩ | ⟨h1, h2, h3⟩
        · exact Or.inl ⟨by omega, h2⟩
        · exact Or.inr ⟨by omega, by simpa using h2, by omega⟩
    | i + 2 =>
      rw [hf_st1] at h
      cases j with
      | zero => exact Or.inr ⟨by omega, by simpa using h, by omega⟩
      | succ j =>
        rw [List.getElem?_cons_succ] at h
        rcases ih h with ⟨h1, h2⟩ | ⟨h1, h2, h3⟩
        · exact Or.inl ⟨by omega, h2⟩
        · exact Or.inr ⟨by omega, by simpa using h2, by omega⟩
theorem hf_ls_st1 {B : Nat} {ad : Nat → Nat} {ls' : Array Slot} {nL i : Nat} {v : Value} {l : List (Option Value)} (h : lv_has ls' nL ((i, hf_v B ad v) :: (hf_ll B ad l).filter (fun q => !(q.1 == i) && !(q.1 + 1 == i && q.2.category == 2)))) : hf_ls B ad ls' nL (hf_st1 l i v) := by
  refine ⟨h.1, h.2.1, fun j w hj => ?_⟩
  rcases hf_st1_at hj with ⟨rfl, rfl⟩ | ⟨h1, h2, h3⟩
  · exact h.2.2 (j, hf_v B ad w) List.mem_cons_self
  · refine h.2.2 (j, hf_v B ad w) (List.mem_cons_of_mem _ (List.mem_filter.mpr ⟨hf_ll_mem.mpr ⟨w, h2, rfl⟩, ?_⟩))
    simp only [Bool.and_eq_true, Bool.not_eq_true', beq_eq_false_iff_ne, ne_eq, Bool.and_eq_false_iff, hf_cat]
    refine ⟨h1, ?_⟩
    by_cases hq : j + 1 = i
    · exact Or.inr fun hc => h3 ⟨hq, hc⟩
    · exact Or.inl hq
theorem hf_ls_st2 {B : Nat} {ad : Nat → Nat} {ls' : Array Slot} {nL i : Nat} {v : Value} {l : List (Option Value)} (h : lv_has ls' nL ((i, hf_v B ad v) :: (hf_ll B ad l).filter (fun q => !(q.1 == i) && (!(q.1 == i + 1) && !(q.1 + 1 == i && q.2.category == 2))))) : hf_ls B ad ls' nL (hf_st2 l i v) := by
  refine ⟨h.1, h.2.1, fun j w hj => ?_⟩
  unfold hf_st2 at hj
  rw [List.getElem?_set] at hj
  by_cases hi : i + 1 = j
  · rw [if_pos hi] at hj
    split at hj <;> cases hj
  · rw [if_neg hi] at hj
    rcases hf_st1_at hj with ⟨rfl, rfl⟩ | ⟨h1, h2, h3⟩
    · exact h.2.2 (j, hf_v B ad w) List.mem_cons_self
    · refine h.2.2 (j, hf_v B ad w) (List.mem_cons_of_mem _ (List.mem_filter.mpr ⟨hf_ll_mem.mpr ⟨w, h2, rfl⟩, ?_⟩))
      simp only [Bool.and_eq_true, Bool.not_eq_true', beq_eq_false_iff_ne, ne_eq, Bool.and_eq_false_iff, hf_cat]
      refine ⟨h1, by omega, ?_⟩
      by_cases hq : j + 1 = i
      · exact Or.inr fun hc => h3 ⟨hq, hc⟩
      · exact Or.inl hq
theorem hf_ls_lt {B : Nat} {ad : Nat → Nat} {ls : Array Slot} {nL : Nat} {l : List (Option Value)} (h : hf_ls B ad ls nL l) : ls.size = nL := h.1
/-- fewer locals are known -/
def hf_le (l' l : List (Option Value)) : Bool := match l', l with
  | [], _ => true
  | none :: t', _ :: t => hf_le t' t
  | some v :: t', some w :: t => decide (v = w) && hf_le t' t
  | none :: t', [] => hf_le t' []
  | _, _ => false
theorem hf_fewer {Y : hf_Y} {d k n pc : Nat} {l l' : List (Option Value)} {st : List Value} {M : hf_M} {Q : Option Value → hf_M → Prop} (hle : ∀ (i : Nat) (v : Value), l'[i]? = some (some v) → l[i]? = some (some v)) (h : hf_G Y d k n pc l' st M Q) : hf_G Y d k n pc l st M Q := by
  intro B ad D dA Lx xs p la e s m args below meth c H locs cells slots mc ms ls hc hk hn hH hS hl
  exact h B ad D dA Lx xs p la e s m args below meth c H locs cells slots mc ms ls hc hk hn hH hS ⟨hl.1, hl.2.1, fun i v hv => hl.2.2 i v (hle i v hv)⟩
theorem hf_mono {Y : hf_Y} {d k n pc : Nat} {l : List (Option Value)} {st : List Value} {M : hf_M} {Q Q' : Option Value → hf_M → Prop} (hq : ∀ r M', Q r M' → Q' r M') (h : hf_G Y d k n pc l st M Q) : hf_G Y d k n pc l st M Q' := by
  intro B ad D dA Lx xs p la e s m args below meth c H locs cells slots mc ms ls hc hk hn hH hS hl T hT X
  obtain ⟨t, h1, o, h2, h3, ⟨⟨r, M', h4, h5, h6⟩, h7⟩, h8⟩ := h B ad D dA Lx xs p la e s m args below meth c H locs cells slots mc ms ls hc hk hn hH hS hl T hT X
  exact ⟨t, h1, o, h2, h3, ⟨⟨r, M', h4, hq r M' h5, h6⟩, h7⟩, h8⟩
