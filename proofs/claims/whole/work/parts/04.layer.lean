/-! the judgement without the machine's noise: memory as functions of cell and place, cells numbered from 100 in the order of their making -/
abbrev hf_T : Type := Nat → Nat × Nat
abbrev hf_I : Type := Nat → Nat → Int32
abbrev hf_L : Type := Nat → Nat → Int64
abbrev hf_P : Type := Nat → Nat → Option Nat
abbrev hf_M : Type := Nat × hf_T × hf_I × hf_L × hf_P
abbrev hf_X : Type := Nat × (Nat → Int32)
abbrev hf_Y : Type := MethodName × ByteArray × Nat × Option FieldType
def hf_ad (B : Nat) (ad : Nat → Nat) (k : Nat) : Nat := if k < 100 then ad k else B + (k - 100)
def hf_v (B : Nat) (ad : Nat → Nat) (v : Value) : Value := match v with
  | .ref k => .ref (hf_ad B ad k)
  | v => v
def hf_ty (c : Nat) : Nat → FieldType := match c with
  | 0 => tyX0
  | 1 => tyX1
  | 2 => tyX2
  | 3 => tyX3
  | 4 => tyX4
  | 5 => tyX5
  | 6 => tyX6
  | 7 => tyX7
  | 8 => tyX8
  | 9 => tyX9
  | 10 => tyX10
  | 11 => tyX11
  | _ => tyX12
def hf_N (c : Nat) : Nat := ((vwCl[c]?).map (fun q => q.2.2)).getD 0
def hf_fv (B : Nat) (ad : Nat → Nat) (ty : FieldType) (i : Int32) (l : Int64) (p : Option Nat) : Value := match ty with
  | .long => .long l
  | .object _ => va_rf (p.map (hf_ad B ad))
  | .array _ => va_rf (p.map (hf_ad B ad))
  | _ => .int i
def hf_fs (B : Nat) (ad : Nat → Nat) (c : Nat) (i : Nat → Int32) (l : Nat → Int64) (p : Nat → Option Nat) : List Value := (List.range (hf_N c)).map (fun j => hf_fv B ad (hf_ty c j) (i j) (l j) (p j))
def hf_ar (B : Nat) (ad : Nat → Nat) (dA : Nat → ClassId) (kd n : Nat) (i : Nat → Int32) (l : Nat → Int64) (p : Nat → Option Nat) : va_E :=
  if kd = 103 then .inl (dA kd, n, .inr (.inl l)) else if 104 ≤ kd then .inl (dA kd, n, .inr (.inr (.inr (.inr (fun j => (p j).map (hf_ad B ad)))))) else .inl (dA kd, n, .inl i)
def hf_c (B : Nat) (ad : Nat → Nat) (dA : Nat → ClassId) (q : Nat × Nat) (i : Nat → Int32) (l : Nat → Int64) (p : Nat → Option Nat) : va_E :=
  if q.1 < 100 then .inr (q.1, hf_fs B ad q.1 i l p) else hf_ar B ad dA q.1 q.2 i l p
def hf_cm (B : Nat) (ad : Nat → Nat) (dA : Nat → ClassId) (M : hf_M) (a : Nat) : va_E := hf_c B ad dA (M.2.1 a) (M.2.2.1 a) (M.2.2.2.1 a) (M.2.2.2.2 a)
def hf_ws (B : Nat) (ad : Nat → Nat) (dA : Nat → ClassId) (M : hf_M) : va_W := (List.range M.1).map (fun k => (B + k, hf_cm B ad dA M (100 + k)))
def hf_H (B : Nat) (ad : Nat → Nat) (D : va_G) (dA : Nat → ClassId) (M : hf_M) (H : Heap) : Prop := H.size = B + M.1 ∧ va_P D vwCl (hf_ws B ad dA M) H
def hf_A (B : Nat) : Nat → Prop := fun q => B ≤ q
def hf_tys (dA : Nat → ClassId) : List (ClassId × FieldType) := [(dA 100, .int), (dA 101, .byte), (dA 102, .boolean), (dA 103, .long), (dA 104, .object RX1), (dA 105, .object RX9)]
/-- what stays true of the tables and of what was there before -/
def hf_nests : List (String × Nat × MethodName × String) := [(RX1, 23, yX10_init, RX11), (RX1, 42, yX3_init, RX11), (RX11, 26, yX5_init, RX11), (RX11, 33, yX7_init, RX11), (RX11, 58, yX2_init, RX11), (RX11, 65, yX0_init, RX11), (RX11, 72, yX6_init, RX11), (RX11, 82, yX3_init, RX11), (RX8, 153, yX11_turnKey, RX11), (RX8, 112, yX11_costKey, RX11), (RX8, 171, yX11_wordKey, RX11), (RX8, 197, yX11_wordIn, RX11), (RX8, 201, yX11_turnsIn, RX11)]
def hf_xw (s : State) : Prop := (∀ q ∈ hf_nests, va_Nw (.methodLinkNest q.1 q.2.1 q.2.2.1 q.2.2.2) s) ∧ va_AO RX1 s ∧ va_AO RX9 s
def hf_strs : List (Nat × String) := [(90, "loses costs bars"), (92, "set turn clear size"), (102, "times"), (111, "if"), (123, "or"), (136, "and"), (138, "not"), (140, "<>="), (149, "+-"), (154, "*/%"), (159, "word sense loss truth length line white many alike echo size day mood"), (161, "words line left done size broad sense")]
def hf_sln : List Nat := [16, 19, 5, 2, 2, 3, 3, 3, 2, 3, 69, 37]
def hf_sby : List (List Int32) := [[108, 111, 115, 101, 115, 32, 99, 111, 115, 116, 115, 32, 98, 97, 114, 115], [115, 101, 116, 32, 116, 117, 114, 110, 32, 99, 108, 101, 97, 114, 32, 115, 105, 122, 101], [116, 105, 109, 101, 115], [105, 102], [111, 114], [97, 110, 100], [110, 111, 116], [60, 62, 61], [43, 45], [42, 47, 37], [119, 111, 114, 100, 32, 115, 101, 110, 115, 101, 32, 108, 111, 115, 115, 32, 116, 114, 117, 116, 104, 32, 108, 101, 110, 103, 116, 104, 32, 108, 105, 110, 101, 32, 119, 104, 105, 116, 101, 32, 109, 97, 110, 121, 32, 97, 108, 105, 107, 101, 32, 101, 99, 104, 111, 32, 115, 105, 122, 101, 32, 100, 97, 121, 32, 109, 111, 111, 100], [119, 111, 114, 100, 115, 32, 108, 105, 110, 101, 32, 108, 101, 102, 116, 32, 100, 111, 110, 101, 32, 115, 105, 122, 101, 32, 98, 114, 111, 97, 100, 32, 115, 101, 110, 115, 101]]
/-- the text constants and what their methods read -/
def hf_sx (B : Nat) (ad : Nat → Nat) (s : State) : Prop := (∀ i q, hf_strs[i]? = some q → vk_R RX5 q.1 q.2 (ad (1 + i)) s) ∧ vk_S 12 hf_sln hf_sby (fun i => ad (1 + i)) (fun i => ad (21 + i)) (hf_A B) s s.heap ∧ va_Z "java/lang/String" "COMPACT_STRINGS" "Z" (.int 1) (hf_A B) s s.heap ∧ ∃ v, (v = .null ∨ v = .ref (ad 40)) ∧ va_Z "jdk/internal/util/Preconditions" "SIOOBE_FORMATTER" "Ljava/util/function/BiFunction;" v (hf_A B) s s.heap
def hf_w (B : Nat) (ad : Nat → Nat) (D : va_G) (dA : Nat → ClassId) (Lx : Nat) (xs : Nat → Int32) (s : State) : Prop := va_K D vwCl (hf_tys dA) s ∧ B ≤ s.heap.size ∧ ad 0 < B ∧ va_X (ad 0) Lx xs s s.heap ∧ hf_xw s ∧ hf_sx B ad s
def hf_cx (Y : hf_Y) (B : Nat) (ad : Nat → Nat) (D : va_G) (dA : Nat → ClassId) (Lx : Nat) (xs : Nat → Int32) (p : Program) (s : State) (m : MethodId) (args : Array Value) (meth : Method) (c : Code) : Prop :=
  p.tables.exec = Jvm.exec ∧ c.code = Y.2.1 ∧ meth.sig.returnType = Y.2.2.2 ∧ c.maxLocals = Y.2.2.1 ∧ s.vm.findClass Y.1.cls = some m.cls ∧ (∀ w ∈ hf_tb, w.before args s = true) ∧ meth.locks = false ∧ (Y.1.name = "<init>" → meth.name = "<init>") ∧ hf_w B ad D dA Lx xs s
def hf_R (d k n : Nat) : Room := { frames := d, cells := k, slots := n, locals := 60 * d }
def hf_Qc (B : Nat) (ad : Nat → Nat) (D : va_G) (dA : Nat → ClassId) (Q : Option Value → hf_M → Prop) : Array Value → State → Outcome → State → Prop := fun _ st o t =>
  (∃ (r : Option Value) (M : hf_M), o = .returned (r.map (hf_v B ad)) ∧ Q r M ∧ hf_H B ad D dA M t.heap) ∧ va_F (hf_A B) st t
def hf_ls (B : Nat) (ad : Nat → Nat) (ls : Array Slot) (nL : Nat) (l : List (Option Value)) : Prop := ls.size = nL ∧ lv_wf ls ∧ ∀ (i : Nat) (v : Value), l[i]? = some (some v) → ls[i]? = some (.val (hf_v B ad v))
/-- from here the method returns, in a state with Q -/
def hf_G (X : hf_X) (Y : hf_Y) (d k n pc : Nat) (l : List (Option Value)) (st : List Value) (M : hf_M) (Q : Option Value → hf_M → Prop) : Prop :=
  ∀ (B : Nat) (ad : Nat → Nat) (D : va_G) (dA : Nat → ClassId) (p : Program) (la : Launch) (e : Env) (s : State) (m : MethodId) (args : Array Value) (below : List Frame) (meth : Method) (c : Code) (H : Heap) (locs : List Loc) (cells slots mc ms : Nat) (ls : Array Slot),
    hf_cx Y B ad D dA X.1 X.2 p s m args meth c → cells + k ≤ mc → slots + n ≤ ms → hf_H B ad D dA M H → va_S (hf_A B) s.heap H locs → hf_ls B ad ls Y.2.2.1 l →
    W p la e (hf_R d mc ms) s m args below meth c H locs cells slots (MQ below (hf_Qc B ad D dA Q) args s mc ms (hf_A B)) (F0 m pc ls (st.map (hf_v B ad)))
theorem hf_ad_hi {B : Nat} {ad : Nat → Nat} {a : Nat} (h : 100 ≤ a) : hf_ad B ad a = B + (a - 100) := by
  unfold hf_ad
  rw [if_neg (by omega)]
theorem hf_cat (B : Nat) (ad : Nat → Nat) (v : Value) : (hf_v B ad v).category = v.category := by cases v <;> rfl
theorem hf_ws_at {B : Nat} {ad : Nat → Nat} {dA : Nat → ClassId} {M : hf_M} {a : Nat} (h1 : 100 ≤ a) (h2 : a < 100 + M.1) : (hf_ws B ad dA M)[a - 100]? = some (hf_ad B ad a, hf_cm B ad dA M a) := by
  unfold hf_ws
  rw [List.getElem?_map, List.getElem?_range (by omega), hf_ad_hi h1]
  simp only [Option.map_some]
  rw [show 100 + (a - 100) = a by omega]
theorem hf_ws_in {B : Nat} {ad : Nat → Nat} {dA : Nat → ClassId} {M : hf_M} {k : Nat} {q : Nat × va_E} (h : (hf_ws B ad dA M)[k]? = some q) : k < M.1 ∧ q = (B + k, hf_cm B ad dA M (100 + k)) := by
  unfold hf_ws at h
  rw [List.getElem?_map] at h
  by_cases hk : k < M.1
  · rw [List.getElem?_range hk] at h
    exact ⟨hk, (Option.some.inj h).symm⟩
  · rw [List.getElem?_eq_none (by simp; omega)] at h
    cases h
theorem hf_D {B : Nat} {ad : Nat → Nat} {dA : Nat → ClassId} {M : hf_M} : va_D (hf_A B) (hf_ws B ad dA M) := by
  refine ⟨fun i j x y hx hy hxy => ?_, fun k q hk => ?_⟩
  · obtain ⟨-, rfl⟩ := hf_ws_in hx
    obtain ⟨-, rfl⟩ := hf_ws_in hy
    have h : B + i = B + j := hxy
    omega
  · obtain ⟨-, rfl⟩ := hf_ws_in hk
    exact Nat.le_add_right B k
theorem hf_ws_set {B : Nat} {ad : Nat → Nat} {dA : Nat → ClassId} {M M' : hf_M} {a : Nat} {x : va_E} (h1 : 100 ≤ a) (h2 : a < 100 + M.1) (hm : M'.1 = M.1) (ho : ∀ b, b ≠ a → hf_cm B ad dA M' b = hf_cm B ad dA M b) (hx : hf_cm B ad dA M' a = x) : (hf_ws B ad dA M).set (a - 100) (hf_ad B ad a, x) = hf_ws B ad dA M' := by
  apply List.ext_getElem?
  intro i
  rw [List.getElem?_set]
  by_cases hi : a - 100 = i
  · rw [if_pos hi]
    subst hi
    rw [if_pos (by simp [hf_ws]; omega), hf_ws_at h1 (by omega), hx]
  · rw [if_neg hi]
    unfold hf_ws
    rw [List.getElem?_map, List.getElem?_map, hm]
    by_cases hk : i < M.1
    · rw [List.getElem?_range hk]
      simp only [Option.map_some]
      rw [ho (100 + i) (by omega)]
    · rw [List.getElem?_eq_none (by simp; omega)]
      rfl
/-- the locals, laid as the kit has them -/
def hf_ll (B : Nat) (ad : Nat → Nat) (l : List (Option Value)) : List (Nat × Value) := (List.range l.length).filterMap (fun i => match l[i]? with
  | some (some v) => some (i, hf_v B ad v)
  | _ => none)
theorem hf_ll_mem {B : Nat} {ad : Nat → Nat} {l : List (Option Value)} {q : Nat × Value} : q ∈ hf_ll B ad l ↔ ∃ v, l[q.1]? = some (some v) ∧ q.2 = hf_v B ad v := by
  unfold hf_ll
  rw [List.mem_filterMap]
  constructor
  · rintro ⟨i, -, h⟩
    cases hl : l[i]? with
    | none => rw [hl] at h; cases h
    | some o =>
      cases o with
      | none => rw [hl] at h; cases h
      | some v =>
        rw [hl] at h
        cases h
        exact ⟨v, hl, rfl⟩
  · rintro ⟨v, h1, h2⟩
    refine ⟨q.1, ?_, ?_⟩
    · rw [List.mem_range]
      exact (List.getElem?_eq_some_iff.mp h1).1
    · rw [h1]
      simp only
      rw [← h2]
theorem hf_has {B : Nat} {ad : Nat → Nat} {ls : Array Slot} {nL : Nat} {l : List (Option Value)} (h : hf_ls B ad ls nL l) : lv_has ls nL (hf_ll B ad l) := by
  refine ⟨h.1, h.2.1, fun q hq => ?_⟩
  obtain ⟨v, h1, h2⟩ := hf_ll_mem.mp hq
  rw [h2]
  exact h.2.2 q.1 v h1
def hf_wide (a : Option Value) : Bool := match a with
  | some (.long _) => true
  | some (.double _) => true
  | _ => false
def hf_st1 (l : List (Option Value)) (i : Nat) (v : Value) : List (Option Value) := match l, i with
  | [], _ => []
  | _ :: t, 0 => some v :: t
  | a :: t, 1 => (if hf_wide a then none else a) :: hf_st1 t 0 v
  | a :: t, i + 2 => a :: hf_st1 t (i + 1) v
def hf_st2 (l : List (Option Value)) (i : Nat) (v : Value) : List (Option Value) := (hf_st1 l i v).set (i + 1) none
theorem hf_st1_at {l : List (Option Value)} {i : Nat} {v : Value} : ∀ {j : Nat} {w : Value}, (hf_st1 l i v)[j]? = some (some w) → (j = i ∧ w = v) ∨ (j ≠ i ∧ l[j]? = some (some w) ∧ ¬ (j + 1 = i ∧ w.category = 2)) := by
  induction l generalizing i with
  | nil => intro j w h; simp [hf_st1] at h
  | cons a t ih =>
    intro j w h
    match i with
    | 0 =>
      rw [hf_st1] at h
      cases j with
      | zero => exact Or.inl ⟨rfl, by simpa using h.symm⟩
      | succ j => exact Or.inr ⟨by omega, by simpa using h, by omega⟩
    | 1 =>
      rw [hf_st1] at h
      cases j with
      | zero =>
        refine Or.inr ⟨by omega, ?_, ?_⟩
        · cases hw : hf_wide a <;> simp [hw] at h ⊢
          exact h
        · rintro ⟨-, hc⟩
          cases hw : hf_wide a <;> simp [hw] at h
          subst h
          cases w <;> simp [Value.category] at hc <;> simp [hf_wide] at hw
      | succ j =>
        rw [List.getElem?_cons_succ] at h
        rcases ih h with ⟨h1, h2⟩ | ⟨h1, h2, h3⟩
        · exact Or.inl ⟨by omega, h2⟩
        · exact Or.inr ⟨by omega, by simpa using h2, by omega⟩
    | i + 2 =>
      rw [hf_st1] at h
      cases j with
      | zero => exact Or.inr ⟨by omega, by simpa using h, by omega⟩
      | succ j =>
        rw [List.getElem?_cons_succ] at h
        rcases ih h with ⟨h1, h2⟩ | ⟨h1, h2, h3⟩
        · exact Or.inl ⟨by omega, h2⟩
        · exact Or.inr ⟨by omega, by simpa using h2, by omega⟩
theorem hf_ls_st1 {B : Nat} {ad : Nat → Nat} {ls' : Array Slot} {nL i : Nat} {v : Value} {l : List (Option Value)} (h : lv_has ls' nL ((i, hf_v B ad v) :: (hf_ll B ad l).filter (fun q => !(q.1 == i) && !(q.1 + 1 == i && q.2.category == 2)))) : hf_ls B ad ls' nL (hf_st1 l i v) := by
  refine ⟨h.1, h.2.1, fun j w hj => ?_⟩
  rcases hf_st1_at hj with ⟨rfl, rfl⟩ | ⟨h1, h2, h3⟩
  · exact h.2.2 (j, hf_v B ad w) List.mem_cons_self
  · refine h.2.2 (j, hf_v B ad w) (List.mem_cons_of_mem _ (List.mem_filter.mpr ⟨hf_ll_mem.mpr ⟨w, h2, rfl⟩, ?_⟩))
    simp only [Bool.and_eq_true, Bool.not_eq_true', beq_eq_false_iff_ne, ne_eq, Bool.and_eq_false_iff, hf_cat]
    refine ⟨h1, ?_⟩
    by_cases hq : j + 1 = i
    · exact Or.inr fun hc => h3 ⟨hq, hc⟩
    · exact Or.inl hq
theorem hf_ls_st2 {B : Nat} {ad : Nat → Nat} {ls' : Array Slot} {nL i : Nat} {v : Value} {l : List (Option Value)} (h : lv_has ls' nL ((i, hf_v B ad v) :: (hf_ll B ad l).filter (fun q => !(q.1 == i) && (!(q.1 == i + 1) && !(q.1 + 1 == i && q.2.category == 2))))) : hf_ls B ad ls' nL (hf_st2 l i v) := by
  refine ⟨h.1, h.2.1, fun j w hj => ?_⟩
  unfold hf_st2 at hj
  rw [List.getElem?_set] at hj
  by_cases hi : i + 1 = j
  · rw [if_pos hi] at hj
    split at hj <;> cases hj
  · rw [if_neg hi] at hj
    rcases hf_st1_at hj with ⟨rfl, rfl⟩ | ⟨h1, h2, h3⟩
    · exact h.2.2 (j, hf_v B ad w) List.mem_cons_self
    · refine h.2.2 (j, hf_v B ad w) (List.mem_cons_of_mem _ (List.mem_filter.mpr ⟨hf_ll_mem.mpr ⟨w, h2, rfl⟩, ?_⟩))
      simp only [Bool.and_eq_true, Bool.not_eq_true', beq_eq_false_iff_ne, ne_eq, Bool.and_eq_false_iff, hf_cat]
      refine ⟨h1, by omega, ?_⟩
      by_cases hq : j + 1 = i
      · exact Or.inr fun hc => h3 ⟨hq, hc⟩
      · exact Or.inl hq
theorem hf_ls_lt {B : Nat} {ad : Nat → Nat} {ls : Array Slot} {nL : Nat} {l : List (Option Value)} (h : hf_ls B ad ls nL l) : ls.size = nL := h.1
/-- fewer locals are known -/
def hf_le (l' l : List (Option Value)) : Bool := match l', l with
  | [], _ => true
  | none :: t', _ :: t => hf_le t' t
  | some v :: t', some w :: t => decide (v = w) && hf_le t' t
  | none :: t', [] => hf_le t' []
  | _, _ => false
theorem hf_fewer {X : hf_X} {Y : hf_Y} {d k n pc : Nat} {l l' : List (Option Value)} {st : List Value} {M : hf_M} {Q : Option Value → hf_M → Prop} (hle : ∀ (i : Nat) (v : Value), l'[i]? = some (some v) → l[i]? = some (some v)) (h : hf_G X Y d k n pc l' st M Q) : hf_G X Y d k n pc l st M Q := by
  intro B ad D dA p la e s m args below meth c H locs cells slots mc ms ls hc hk hn hH hS hl
  exact h B ad D dA p la e s m args below meth c H locs cells slots mc ms ls hc hk hn hH hS ⟨hl.1, hl.2.1, fun i v hv => hl.2.2 i v (hle i v hv)⟩
theorem hf_mono {X : hf_X} {Y : hf_Y} {d k n pc : Nat} {l : List (Option Value)} {st : List Value} {M : hf_M} {Q Q' : Option Value → hf_M → Prop} (hq : ∀ r M', Q r M' → Q' r M') (h : hf_G X Y d k n pc l st M Q) : hf_G X Y d k n pc l st M Q' := by
  intro B ad D dA p la e s m args below meth c H locs cells slots mc ms ls hc hk hn hH hS hl T hT X
  obtain ⟨t, h1, o, h2, h3, ⟨⟨r, M', h4, h5, h6⟩, h7⟩, h8⟩ := h B ad D dA p la e s m args below meth c H locs cells slots mc ms ls hc hk hn hH hS hl T hT X
  exact ⟨t, h1, o, h2, h3, ⟨⟨r, M', h4, hq r M' h5, h6⟩, h7⟩, h8⟩
theorem hf_xw_warm {s U : State} (hW : s.WarmedH U.vm) (h : hf_xw s) : hf_xw U := ⟨fun q hq => va_Nw.warmM hW (h.1 q hq), h.2.1.moved hW.alike, h.2.2.moved hW.alike⟩
theorem hf_xw_same {s U : State} (hv : s.vm = U.vm) (h : hf_xw s) : hf_xw U := ⟨fun q hq => va_Nw.same rfl hv (h.1 q hq), h.2.1.moved (by rw [hv]; exact Vm.Alike.refl _), h.2.2.moved (by rw [hv]; exact Vm.Alike.refl _)⟩
theorem hf_sx_warm {B : Nat} {ad : Nat → Nat} {s U : State} (hW : s.WarmedH U.vm) (hq : ∀ a : Nat, a < s.heap.size → ¬ hf_A B a → U.heap[a]? = s.heap[a]?) (h : hf_sx B ad s) : hf_sx B ad U := by
  obtain ⟨h1, h2, h3, v, hv, h4⟩ := h
  exact ⟨fun i q hi => vk_R.warm hW (h1 i q hi), (vk_S.moved hW.alike h2).kept hq, (va_Z.moved hW.alike h3).kept hq, v, hv, (va_Z.moved hW.alike h4).kept hq⟩
theorem hf_sx_same {B : Nat} {ad : Nat → Nat} {s U : State} (hv0 : s.vm = U.vm) (hh : s.heap = U.heap) (h : hf_sx B ad s) : hf_sx B ad U := by
  obtain ⟨h1, h2, h3, v, hv, h4⟩ := h
  have ha : s.vm.Alike U.vm := by rw [hv0]; exact Vm.Alike.refl _
  have hq : ∀ a : Nat, a < s.heap.size → ¬ hf_A B a → U.heap[a]? = s.heap[a]? := fun a _ _ => by rw [hh]
  exact ⟨fun i q hi => vk_R.same hv0.symm (h1 i q hi), (vk_S.moved ha h2).kept hq, (va_Z.moved ha h3).kept hq, v, hv, (va_Z.moved ha h4).kept hq⟩
/-- at a callee's entry -/
theorem hf_w_call {B : Nat} {ad : Nat → Nat} {D : va_G} {dA : Nat → ClassId} {Lx : Nat} {xs : Nat → Int32} {s U : State} {H : Heap} {locs : List Loc} (h : hf_w B ad D dA Lx xs s) (hW : s.WarmedH U.vm) (hU : U.heap = H) (hS : va_S (hf_A B) s.heap H locs) : hf_w B ad D dA Lx xs U := by
  obtain ⟨h1, h2, h3, h4, h5, h6⟩ := h
  refine ⟨va_K.moved hW.alike h1, by rw [hU]; exact Nat.le_trans h2 hS.1, h3, ?_, hf_xw_warm hW h5, hf_sx_warm hW (fun a g1 g2 => by rw [hU]; exact hS.2.1 a g1 g2) h6⟩
  rw [hU]
  exact va_X.moved hW.alike (h4.kept (hS.2.1 (ad 0) (Nat.lt_of_lt_of_le h3 h2) (Nat.not_le.mpr h3)))
theorem hf_w_same {B : Nat} {ad : Nat → Nat} {D : va_G} {dA : Nat → ClassId} {Lx : Nat} {xs : Nat → Int32} {s U : State} (h : hf_w B ad D dA Lx xs s) (hv : s.vm = U.vm) (hh : s.heap = U.heap) : hf_w B ad D dA Lx xs U := by
  obtain ⟨h1, h2, h3, h4, h5, h6⟩ := h
  have ha : s.vm.Alike U.vm := by rw [hv]; exact Vm.Alike.refl _
  exact ⟨va_K.moved ha h1, by rw [← hh]; exact h2, h3, by rw [← hh]; exact va_X.moved ha h4, hf_xw_same hv h5, hf_sx_same hv hh h6⟩
def hf_en0 (as : List Value) : List (Option Value) := match as with
  | [] => []
  | v :: t => if hf_wide (some v) then some v :: none :: hf_en0 t else some v :: hf_en0 t
def hf_en (as : List Value) (nL : Nat) : List (Option Value) := hf_en0 as ++ List.replicate (nL - (hf_en0 as).length) none
theorem hf_wide_cat (v : Value) : hf_wide (some v) = decide (v.category = 2) := by cases v <;> rfl
theorem hf_en0_mem {B : Nat} {ad : Nat → Nat} : ∀ (as : List Value) (o i : Nat) (v : Value), (hf_en0 as)[i]? = some (some v) → (o + i, hf_v B ad v) ∈ lv_args o (as.map (hf_v B ad)) := by
  intro as
  induction as with
  | nil => intro o i v h; simp [hf_en0] at h
  | cons a t ih =>
    intro o i v h
    rw [hf_en0, hf_wide_cat] at h
    rw [List.map_cons, lv_args, hf_cat]
    by_cases hc : a.category = 2
    · simp only [hc, decide_true, if_true] at h ⊢
      match i with
      | 0 =>
        simp at h
        subst h
        exact List.mem_cons_self
      | 1 => simp at h
      | i + 2 =>
        rw [List.getElem?_cons_succ, List.getElem?_cons_succ] at h
        have := ih (o + 2) i v h
        rw [show o + 2 + i = o + (i + 2) by omega] at this
        exact List.mem_cons_of_mem _ this
    · simp only [hc, decide_false, if_false, Bool.false_eq_true] at h ⊢
      match i with
      | 0 =>
        simp at h
        subst h
        exact List.mem_cons_self
      | i + 1 =>
        rw [List.getElem?_cons_succ] at h
        have := ih (o + 1) i v h
        rw [show o + 1 + i = o + (i + 1) by omega] at this
        exact List.mem_cons_of_mem _ this
theorem hf_en_ls {B : Nat} {ad : Nat → Nat} {as : List Value} {nL : Nat} {ls : Array Slot} (h : lv_has ls nL (lv_args 0 (as.map (hf_v B ad)))) : hf_ls B ad ls nL (hf_en as nL) := by
  refine ⟨h.1, h.2.1, fun i v hv => ?_⟩
  unfold hf_en at hv
  by_cases hi : i < (hf_en0 as).length
  · rw [List.getElem?_append_left hi] at hv
    have := hf_en0_mem (B := B) (ad := ad) as 0 i v hv
    rw [Nat.zero_add] at this
    exact h.2.2 _ this
  · rw [List.getElem?_append_right (by omega), List.getElem?_replicate] at hv
    split at hv <;> cases hv
def hf_ok (Y : hf_Y) (nargs : Nat) : Prop := plainName Y.1.cls = true ∧ Cond.code Y.1 Y.2.1 Y.2.2.1 Y.2.2.2 ∈ hf_tb ∧ Cond.initialized Y.1.cls ∈ hf_tb ∧ (Y.1.cls ≠ "java/lang/invoke/MethodHandle" ∧ Y.1.cls ≠ "java/lang/invoke/VarHandle" ∧ (parseMethodDescriptor Y.1.desc).map (fun d => d.parameters.length) = some nargs) ∧ Y.2.2.1 ≤ 41
def hf_Pc (B : Nat) (ad : Nat → Nat) (D : va_G) (dA : Nat → ClassId) (Lx : Nat) (xs : Nat → Int32) (as : List Value) (M : hf_M) : Array Value → State → Prop := va_Pc (as.map (hf_v B ad)) (fun U => hf_H B ad D dA M U.heap ∧ hf_w B ad D dA Lx xs U)
/-- a method's walk from its entry is its contract -/
theorem hf_met {X : hf_X} {Y : hf_Y} {nargs d k n : Nat} {as : List Value} {M : hf_M} {Q : Option Value → hf_M → Prop} (hok : hf_ok Y nargs) (hlen : (hf_en0 as).length ≤ Y.2.2.1) (hG : hf_G X Y d k n 0 (hf_en as Y.2.2.1) [] M Q) (B : Nat) (ad : Nat → Nat) (D : va_G) (dA : Nat → ClassId) (la : Launch) :
    Met la Y.1 (Cond.code Y.1 Y.2.1 Y.2.2.1 Y.2.2.2 :: hf_tb) (hf_R d k n) (hf_Pc B ad D dA X.1 X.2 as M) (hf_Qc B ad D dA Q) k n (hf_A B) := by
  refine Met.ofW (cc := Y.2.1) (maxL := Y.2.2.1) (ret := Y.2.2.2) hok.1 rfl ?_
  intro p e s m args below meth c s₁ Bd hml hv
  obtain ⟨rfl, hH, hw⟩ := hv
  have hts := atoms_spec (ws := Cond.code Y.1 Y.2.1 Y.2.2.1 Y.2.2.2 :: hf_tb) Bd.pre
  have hl0 : (lg_sl (as.map (hf_v B ad))).length ≤ Y.2.2.1 := by
    refine Nat.le_trans (Nat.le_of_eq ?_) hlen
    clear hlen hG hts Bd
    induction as with
    | nil => rfl
    | cons a t ih =>
      rw [List.map_cons, hf_en0, hf_wide_cat]
      unfold lg_sl at ih ⊢
      rw [List.flatMap_cons, hf_cat, List.length_append, ih]
      by_cases hc : a.category = 2 <;> simp [hc] <;> omega
  have hl := lv_entry (as.map (hf_v B ad)) hl0
  rw [lg_entry_eq]
  exact hG B ad D dA p la e s m _ below meth c s.heap [] 0 0 k n _ ⟨Bd.exec, Bd.bytes, Bd.returns, hml, findClass_of_methodNamed Bd.named, fun w hw => hts w (List.mem_cons_of_mem _ hw), Bd.notSynchronized, fun hn => (name_of_methodNamed Bd.named Bd.method).1.trans hn, hw⟩ (by omega) (by omega) hH va_S.rf (hf_en_ls hl)
theorem hf_blind {B : Nat} {ad : Nat → Nat} {D : va_G} {dA : Nat → ClassId} {Lx : Nat} {xs : Nat → Int32} {as : List Value} {M : hf_M} : FrameBlind (hf_Pc B ad D dA Lx xs as M) := by
  intro a U g mk h
  obtain ⟨h1, h2, h3⟩ := h
  exact ⟨h1, h2, hf_w_same h3 rfl rfl⟩
/-- behind a call -/
theorem hf_after {X : hf_X} {Y : hf_Y} {d k n k1 n1 pc : Nat} {l : List (Option Value)} {st : List Value} {Q : Option Value → hf_M → Prop} {st0 : List Value} {a : Array Value}
    {B : Nat} {ad : Nat → Nat} {D : va_G} {dA : Nat → ClassId} {p : Program} {la : Launch} {e : Env} {s : State} {m : MethodId} {args : Array Value} {below : List Frame} {meth : Method} {c : Code} {H : Heap} {locs : List Loc} {cells slots mc ms : Nat} {ls : Array Slot}
    (hc : hf_cx Y B ad D dA X.1 X.2 p s m args meth c) (hk : cells + k ≤ mc) (hn : slots + n ≤ ms) (hk1 : k1 ≤ k) (hn1 : n1 ≤ n) (hS : va_S (hf_A B) s.heap H locs) (hl : hf_ls B ad ls Y.2.2.1 l)
    (hr : va_Run p la e (hf_R d mc ms) s m args below meth c H locs cells slots k1 n1 (F0 m pc ls st0) (st.map (hf_v B ad)) (hf_Qc B ad D dA (fun r M' => hf_G X Y d (k - k1) (n - n1) (pc + 3) l (r.toList ++ st) M' Q) a) (hf_A B)) :
    W p la e (hf_R d mc ms) s m args below meth c H locs cells slots (MQ below (hf_Qc B ad D dA Q) args s mc ms (hf_A B)) (F0 m pc ls st0) := by
  intro T hT X
  obtain ⟨v, st₀, t, T', L, h0, X', hL, e1, e2, ⟨⟨r, M', hv, hq, hH'⟩, hz, hkq⟩, go⟩ := hr T hT X
  have hv' : v = r.map (hf_v B ad) := by cases hv; rfl
  subst hv'
  rw [h0] at hz hkq
  have hS' : va_S (hf_A B) s.heap T'.heap (locs ++ L) := by
    refine ⟨Nat.le_trans hS.1 (by rw [e1]; exact hz), fun q h1 h2 => ?_, fun q hq => ?_⟩
    · rw [e1, hkq q (Nat.lt_of_lt_of_le h1 hS.1) h2]
      exact hS.2.1 q h1 h2
    · rcases List.mem_append.mp hq with h | h
      · exact hS.2.2 q h
      · exact hL q h
  obtain ⟨t2, a1, b1⟩ := hq B ad D dA p la e s m args below meth c T'.heap (locs ++ L) (cells + k1) (slots + n1) mc ms ls hc (by omega) (by omega) (by rw [e1]; exact hH') hS' hl T' rfl X'
  refine ⟨t2, go t2 ?_, b1⟩
  have : ((r.toList ++ st).map (hf_v B ad)) = (r.map (hf_v B ad)).toList ++ st.map (hf_v B ad) := by cases r <;> rfl
  rw [this] at a1
  exact a1
theorem hf_callB {Y Z : hf_Y} {nargs d k1 n1 mc ms ix : Nat} {s : State} {args : Array Value} (hts : ∀ w ∈ hf_tb, w.before args s = true) (hok : hf_ok Z nargs) (hlk : Cond.methodLink Y.1.cls ix Z.1 ∈ hf_tb) :
    CallB (hf_R (d + 1) mc ms) s args Y.1.cls ix Z.1 Z.2.1 Z.2.2.1 Z.2.2.2 (Cond.code Z.1 Z.2.1 Z.2.2.1 Z.2.2.2 :: hf_tb) (hf_R d k1 n1) k1 n1 nargs := by
  refine callB_of (ws' := hf_tb) nargs hts (fun w hw => ?_) rfl rfl rfl (hts _ hok.2.2.1) (hts _ hlk) hok.2.2.2.1 ⟨Nat.le_refl _, ?_⟩
  · have hw' : w ∈ hf_tb := by
      rcases List.mem_cons.mp hw with rfl | h
      · exact hok.2.1
      · exact h
    exact ⟨hw', (hf_tb_good hw').2⟩
  · have := hok.2.2.2.2
    show 8 + (Z.2.2.1 + 11) + 60 * d ≤ 60 * (d + 1)
    omega
theorem hf_callN {Y Z : hf_Y} {nargs d k1 n1 mc ms ix : Nat} {host : String} {s : State} {args : Array Value} (hts : ∀ w ∈ hf_tb, w.before args s = true) (hxw : hf_xw s) (hok : hf_ok Z nargs) (hlk : (Y.1.cls, ix, Z.1, host) ∈ hf_nests) :
    va_CN (hf_R (d + 1) mc ms) s args Y.1.cls ix Z.1 host Z.2.1 Z.2.2.1 Z.2.2.2 (Cond.code Z.1 Z.2.1 Z.2.2.1 Z.2.2.2 :: hf_tb) (hf_R d k1 n1) k1 n1 nargs := by
  refine va_cnB (ws' := hf_tb) nargs hts (fun w hw => ?_) rfl rfl rfl (hxw.1 _ hlk) (hts _ hok.2.2.1) hok.2.2.2.1 ⟨Nat.le_refl _, ?_⟩
  · have hw' : w ∈ hf_tb := by
      rcases List.mem_cons.mp hw with rfl | h
      · exact hok.2.1
      · exact h
    exact ⟨hw', (hf_tb_good hw').2⟩
  · have := hok.2.2.2.2
    show 8 + (Z.2.2.1 + 11) + 60 * d ≤ 60 * (d + 1)
    omega
