/-! the grammar, as a function of the row of TOKENS (c: their codes, v: their numbers); what is read leaves steps and means something -/
abbrev gr_dn : Type := (Nat → Int32) → Option Int32
abbrev gr_cd : Type := List (Nat × Nat)
abbrev gr_r : Type := Nat × Nat × Nat × gr_cd × gr_dn
/-- outcome: 0 no fuel, 1 a fault at that TOKEN, 2 read -/
def gr_fl (k : Nat) : gr_r := (1, k, 0, [], fun _ => none)
def gr_gd (k l : Nat) (c : gr_cd) (d : gr_dn) : gr_r := (2, k, l, c, d)
def gr_bd (r : gr_r) (f : Nat → Nat → gr_cd → gr_dn → gr_r) : gr_r := if r.1 = 2 then f r.2.1 r.2.2.1 r.2.2.2.1 r.2.2.2.2 else r
def gr_lim (x : Int64) : Option Int32 := if 0 < lg_cmp x 1000000000 then none else if 0 ≤ lg_cmp x (-1000000000) then some x.toInt32 else none
def gr_jn (s : Nat) (a b : Int64) : Int64 := if s = 2 then a + b else if s = 3 then a - b else if s = 4 then a * b else if s = 5 then (if lg_cmp b 0 = 0 then 1000000001 else a / b) else if s = 6 then (if lg_cmp b 0 = 0 then 1000000001 else a - a / b * b) else if s = 7 then (if 0 ≤ lg_cmp a b then 0 else 1) else if s = 8 then (if lg_cmp a b ≤ 0 then 0 else 1) else if lg_cmp a b = 0 then 1 else 0
def gr_dj (s : Nat) (a b : gr_dn) : gr_dn := fun f => (a f).bind fun x => (b f).bind fun y => gr_lim (gr_jn s x.toInt64 y.toInt64)
def gr_dor (a b : gr_dn) : gr_dn := fun f => (a f).bind fun x => if x = 0 then b f else some x
def gr_dan (a b : gr_dn) : gr_dn := fun f => (a f).bind fun x => if x = 0 then some x else b f
def gr_dno (a : gr_dn) : gr_dn := fun f => (a f).bind fun x => some (if x = 0 then 1 else 0)
def gr_isv (S : Bool) (c : Nat) : Bool := match S with
  | true => c == 9 || c == 13 || c == 18 || (Nat.ble 21 c && Nat.ble c 24)
  | false => Nat.ble 8 c && Nat.ble c 20
def gr_fx (S : Bool) (c w : Nat) : Nat := match S with
  | true => if c = 21 then 0 else if c = 13 then 1 else if c = 22 then 2 else if c = 23 then 3 else if c = 18 then 4 else if c = 24 then 5 + w else 21 + w
  | false => c - 8
def gr_o2 (c : Nat) : Nat := if c = 142 then 4 else if c = 147 then 5 else if c = 137 then 6 else 0
def gr_o4 (c : Nat) : Nat := if c = 143 then 2 else if c = 145 then 3 else 0
def gr_o6 (c : Nat) : Nat := if c = 160 then 7 else if c = 162 then 8 else if c = 161 then 9 else 0
/-- 0 part, 1 term, 2 its rest, 3 sum, 4 its rest, 5 plain (x: turned), 6 without not, 7 both, 8 its rest, 9 test, 10 its rest -/
def gr_ps (S : Bool) (c v : Nat → Nat) : Nat → Nat → Nat → Nat → Nat → Nat → gr_dn → gr_r
  | 0, _, _, _, _, _, _ => (0, 0, 0, [], fun _ => none)
  | n + 1, 0, _, dp, k, lv, a =>
    if c k = 191 then (if dp = 8 then gr_fl k else gr_bd (gr_ps S c v n 3 0 (dp + 1) (k + 1) lv a) fun k1 l1 c1 d1 => if c k1 = 193 then gr_gd (k1 + 1) l1 c1 d1 else gr_fl k1)
    else if c k = 50 ∧ v k ≤ 1000 then (if lv = 50 then gr_fl k else gr_gd (k + 1) (lv + 1) [(0, v k)] fun _ => some (nI (v k)))
    else if gr_isv S (c k) = true then (if lv = 50 then gr_fl k else if S = true ∧ (c k = 24 ∨ c k = 9) then (if c (k + 1) = 50 ∧ v (k + 1) ≤ 15 then gr_gd (k + 2) (lv + 1) [(1, gr_fx S (c k) (v (k + 1)))] fun f => some (f (gr_fx S (c k) (v (k + 1)))) else gr_fl (k + 1)) else gr_gd (k + 1) (lv + 1) [(1, gr_fx S (c k) 0)] fun f => some (f (gr_fx S (c k) 0)))
    else gr_fl k
  | n + 1, 1, _, dp, k, lv, a => gr_bd (gr_ps S c v n 0 0 dp k lv a) fun k1 l1 c1 d1 => gr_bd (gr_ps S c v n 2 0 dp k1 l1 d1) fun k2 l2 c2 d2 => gr_gd k2 l2 (c1 ++ c2) d2
  | n + 1, 2, _, dp, k, lv, a => if gr_o2 (c k) = 0 then gr_gd k lv [] a else gr_bd (gr_ps S c v n 0 0 dp (k + 1) lv a) fun k1 l1 c1 d1 => gr_bd (gr_ps S c v n 2 0 dp k1 l1 (gr_dj (gr_o2 (c k)) a d1)) fun k2 l2 c2 d2 => gr_gd k2 l2 (c1 ++ (gr_o2 (c k), 0) :: c2) d2
  | n + 1, 3, _, dp, k, lv, a => gr_bd (gr_ps S c v n 1 0 dp k lv a) fun k1 l1 c1 d1 => gr_bd (gr_ps S c v n 4 0 dp k1 l1 d1) fun k2 l2 c2 d2 => gr_gd k2 l2 (c1 ++ c2) d2
  | n + 1, 4, _, dp, k, lv, a => if gr_o4 (c k) = 0 then gr_gd k lv [] a else gr_bd (gr_ps S c v n 1 0 dp (k + 1) lv a) fun k1 l1 c1 d1 => gr_bd (gr_ps S c v n 4 0 dp k1 l1 (gr_dj (gr_o4 (c k)) a d1)) fun k2 l2 c2 d2 => gr_gd k2 l2 (c1 ++ (gr_o4 (c k), 0) :: c2) d2
  | n + 1, 5, x, dp, k, lv, a => if c k = 7 then gr_ps S c v n 5 (if x = 0 then 1 else 0) dp (k + 1) lv a else gr_bd (gr_ps S c v n 6 0 dp k lv a) fun k1 l1 c1 d1 => if x = 0 then gr_gd k1 l1 c1 d1 else gr_gd k1 l1 (c1 ++ [(10, 0)]) (gr_dno d1)
  | n + 1, 6, _, dp, k, lv, a =>
    if c k = 140 then (if dp = 8 then gr_fl k else gr_bd (gr_ps S c v n 9 0 (dp + 1) (k + 1) lv a) fun k1 l1 c1 d1 => if c k1 = 141 then gr_gd (k1 + 1) l1 c1 d1 else gr_fl k1)
    else gr_bd (gr_ps S c v n 3 0 dp k lv a) fun k1 l1 c1 d1 => if gr_o6 (c k1) = 0 then gr_fl k1 else gr_bd (gr_ps S c v n 3 0 dp (k1 + 1) l1 a) fun k2 l2 c2 d2 => gr_gd k2 l2 (c1 ++ (c2 ++ [(gr_o6 (c k1), 0)])) (gr_dj (gr_o6 (c k1)) d1 d2)
  | n + 1, 7, _, dp, k, lv, a => gr_bd (gr_ps S c v n 5 0 dp k lv a) fun k1 l1 c1 d1 => gr_bd (gr_ps S c v n 8 0 dp k1 l1 d1) fun k2 l2 c2 d2 => gr_gd k2 l2 (c1 ++ c2) d2
  | n + 1, 8, _, dp, k, lv, a => if c k = 6 then gr_bd (gr_ps S c v n 5 0 dp (k + 1) lv a) fun k1 l1 c1 d1 => gr_bd (gr_ps S c v n 8 0 dp k1 l1 (gr_dan a d1)) fun k2 l2 c2 d2 => gr_gd k2 l2 ((12, 2 * c1.length) :: (c1 ++ c2)) d2 else gr_gd k lv [] a
  | n + 1, 9, _, dp, k, lv, a => gr_bd (gr_ps S c v n 7 0 dp k lv a) fun k1 l1 c1 d1 => gr_bd (gr_ps S c v n 10 0 dp k1 l1 d1) fun k2 l2 c2 d2 => gr_gd k2 l2 (c1 ++ c2) d2
  | n + 1, _, _, dp, k, lv, a => if c k = 5 then gr_bd (gr_ps S c v n 7 0 dp (k + 1) lv a) fun k1 l1 c1 d1 => gr_bd (gr_ps S c v n 10 0 dp k1 l1 (gr_dor a d1)) fun k2 l2 c2 d2 => gr_gd k2 l2 ((11, 2 * c1.length) :: (c1 ++ c2)) d2 else gr_gd k lv [] a
theorem gr_bd_ne {r : gr_r} {f : Nat → Nat → gr_cd → gr_dn → gr_r} (h : (gr_bd r f).1 ≠ 0) : r.1 ≠ 0 := by
  unfold gr_bd at h
  split at h
  · omega
  · exact h
/-- outcomes are 0, 1, 2 -/
theorem gr_bd_cs {r : gr_r} {f : Nat → Nat → gr_cd → gr_dn → gr_r} (hr : r.1 ≤ 2) (h : (gr_bd r f).1 ≠ 0) : (r.1 = 1 ∧ gr_bd r f = r) ∨ (r.1 = 2 ∧ gr_bd r f = f r.2.1 r.2.2.1 r.2.2.2.1 r.2.2.2.2) := by
  have h0 := gr_bd_ne h
  unfold gr_bd
  by_cases e : r.1 = 2
  · exact Or.inr ⟨e, if_pos e⟩
  · exact Or.inl ⟨by omega, if_neg e⟩
theorem gr_bd_le {r : gr_r} {f : Nat → Nat → gr_cd → gr_dn → gr_r} (hr : r.1 ≤ 2) (hf : ∀ k l c d, (f k l c d).1 ≤ 2) : (gr_bd r f).1 ≤ 2 := by
  unfold gr_bd
  split
  · exact hf _ _ _ _
  · exact hr
section GR
variable {S : Bool} {c v : Nat → Nat} {n x dp k lv : Nat} {a : gr_dn}
theorem gr_ps_1 : gr_ps S c v (n + 1) 1 x dp k lv a = gr_bd (gr_ps S c v n 0 0 dp k lv a) fun k1 l1 c1 d1 => gr_bd (gr_ps S c v n 2 0 dp k1 l1 d1) fun k2 l2 c2 d2 => gr_gd k2 l2 (c1 ++ c2) d2 := rfl
theorem gr_ps_2 : gr_ps S c v (n + 1) 2 x dp k lv a = if gr_o2 (c k) = 0 then gr_gd k lv [] a else gr_bd (gr_ps S c v n 0 0 dp (k + 1) lv a) fun k1 l1 c1 d1 => gr_bd (gr_ps S c v n 2 0 dp k1 l1 (gr_dj (gr_o2 (c k)) a d1)) fun k2 l2 c2 d2 => gr_gd k2 l2 (c1 ++ (gr_o2 (c k), 0) :: c2) d2 := rfl
theorem gr_ps_3 : gr_ps S c v (n + 1) 3 x dp k lv a = gr_bd (gr_ps S c v n 1 0 dp k lv a) fun k1 l1 c1 d1 => gr_bd (gr_ps S c v n 4 0 dp k1 l1 d1) fun k2 l2 c2 d2 => gr_gd k2 l2 (c1 ++ c2) d2 := rfl
theorem gr_ps_4 : gr_ps S c v (n + 1) 4 x dp k lv a = if gr_o4 (c k) = 0 then gr_gd k lv [] a else gr_bd (gr_ps S c v n 1 0 dp (k + 1) lv a) fun k1 l1 c1 d1 => gr_bd (gr_ps S c v n 4 0 dp k1 l1 (gr_dj (gr_o4 (c k)) a d1)) fun k2 l2 c2 d2 => gr_gd k2 l2 (c1 ++ (gr_o4 (c k), 0) :: c2) d2 := rfl
theorem gr_ps_5 : gr_ps S c v (n + 1) 5 x dp k lv a = if c k = 7 then gr_ps S c v n 5 (if x = 0 then 1 else 0) dp (k + 1) lv a else gr_bd (gr_ps S c v n 6 0 dp k lv a) fun k1 l1 c1 d1 => if x = 0 then gr_gd k1 l1 c1 d1 else gr_gd k1 l1 (c1 ++ [(10, 0)]) (gr_dno d1) := rfl
theorem gr_ps_6 : gr_ps S c v (n + 1) 6 x dp k lv a = if c k = 140 then (if dp = 8 then gr_fl k else gr_bd (gr_ps S c v n 9 0 (dp + 1) (k + 1) lv a) fun k1 l1 c1 d1 => if c k1 = 141 then gr_gd (k1 + 1) l1 c1 d1 else gr_fl k1)
    else gr_bd (gr_ps S c v n 3 0 dp k lv a) fun k1 l1 c1 d1 => if gr_o6 (c k1) = 0 then gr_fl k1 else gr_bd (gr_ps S c v n 3 0 dp (k1 + 1) l1 a) fun k2 l2 c2 d2 => gr_gd k2 l2 (c1 ++ (c2 ++ [(gr_o6 (c k1), 0)])) (gr_dj (gr_o6 (c k1)) d1 d2) := rfl
theorem gr_ps_7 : gr_ps S c v (n + 1) 7 x dp k lv a = gr_bd (gr_ps S c v n 5 0 dp k lv a) fun k1 l1 c1 d1 => gr_bd (gr_ps S c v n 8 0 dp k1 l1 d1) fun k2 l2 c2 d2 => gr_gd k2 l2 (c1 ++ c2) d2 := rfl
theorem gr_ps_8 : gr_ps S c v (n + 1) 8 x dp k lv a = if c k = 6 then gr_bd (gr_ps S c v n 5 0 dp (k + 1) lv a) fun k1 l1 c1 d1 => gr_bd (gr_ps S c v n 8 0 dp k1 l1 (gr_dan a d1)) fun k2 l2 c2 d2 => gr_gd k2 l2 ((12, 2 * c1.length) :: (c1 ++ c2)) d2 else gr_gd k lv [] a := rfl
theorem gr_ps_9 : gr_ps S c v (n + 1) 9 x dp k lv a = gr_bd (gr_ps S c v n 7 0 dp k lv a) fun k1 l1 c1 d1 => gr_bd (gr_ps S c v n 10 0 dp k1 l1 d1) fun k2 l2 c2 d2 => gr_gd k2 l2 (c1 ++ c2) d2 := rfl
theorem gr_ps_10 : gr_ps S c v (n + 1) 10 x dp k lv a = if c k = 5 then gr_bd (gr_ps S c v n 7 0 dp (k + 1) lv a) fun k1 l1 c1 d1 => gr_bd (gr_ps S c v n 10 0 dp k1 l1 (gr_dor a d1)) fun k2 l2 c2 d2 => gr_gd k2 l2 ((11, 2 * c1.length) :: (c1 ++ c2)) d2 else gr_gd k lv [] a := rfl
theorem gr_ps_0 : gr_ps S c v (n + 1) 0 x dp k lv a = if c k = 191 then (if dp = 8 then gr_fl k else gr_bd (gr_ps S c v n 3 0 (dp + 1) (k + 1) lv a) fun k1 l1 c1 d1 => if c k1 = 193 then gr_gd (k1 + 1) l1 c1 d1 else gr_fl k1)
    else if c k = 50 ∧ v k ≤ 1000 then (if lv = 50 then gr_fl k else gr_gd (k + 1) (lv + 1) [(0, v k)] fun _ => some (nI (v k)))
    else if gr_isv S (c k) = true then (if lv = 50 then gr_fl k else if S = true ∧ (c k = 24 ∨ c k = 9) then (if c (k + 1) = 50 ∧ v (k + 1) ≤ 15 then gr_gd (k + 2) (lv + 1) [(1, gr_fx S (c k) (v (k + 1)))] fun f => some (f (gr_fx S (c k) (v (k + 1)))) else gr_fl (k + 1)) else gr_gd (k + 1) (lv + 1) [(1, gr_fx S (c k) 0)] fun f => some (f (gr_fx S (c k) 0)))
    else gr_fl k := rfl
end GR
theorem gr_ps_le {S : Bool} {c v : Nat → Nat} : ∀ (n nt x dp k lv : Nat) (a : gr_dn), (gr_ps S c v n nt x dp k lv a).1 ≤ 2 := by
  have gd : ∀ k l c d, (gr_gd k l c d).1 ≤ 2 := fun k l c d => Nat.le_refl 2
  have fl : ∀ k, (gr_fl k).1 ≤ 2 := fun k => by show 1 ≤ 2; omega
  intro n
  induction n with
  | zero => intro nt x dp k lv a; exact Nat.zero_le 2
  | succ n ih =>
    intro nt x dp k lv a
    have one : ∀ (A x dp k1 : Nat) (f : Nat → Nat → gr_cd → gr_dn → gr_r), (∀ k l c d, (f k l c d).1 ≤ 2) → (gr_bd (gr_ps S c v n A x dp k1 lv a) f).1 ≤ 2 := fun A x dp k1 f hf => gr_bd_le (ih _ _ _ _ _ _) hf
    have two : ∀ (A B k1 : Nat) (f : gr_cd → gr_cd → gr_cd) (g : gr_dn → gr_dn), (gr_bd (gr_ps S c v n A 0 dp k1 lv a) fun k1 l1 c1 d1 => gr_bd (gr_ps S c v n B 0 dp k1 l1 (g d1)) fun k2 l2 c2 d2 => gr_gd k2 l2 (f c1 c2) d2).1 ≤ 2 := fun A B k1 f g => gr_bd_le (ih _ _ _ _ _ _) fun _ _ _ _ => gr_bd_le (ih _ _ _ _ _ _) fun _ _ _ _ => gd _ _ _ _
    match nt with
    | 0 =>
      rw [gr_ps_0]
      split
      · split
        · exact fl _
        · refine one _ _ _ _ _ fun _ _ _ _ => ?_
          split
          · exact gd _ _ _ _
          · exact fl _
      · split
        · split
          · exact fl _
          · exact gd _ _ _ _
        · split
          · split
            · exact fl _
            · split
              · split
                · exact gd _ _ _ _
                · exact fl _
              · exact gd _ _ _ _
          · exact fl _
    | 1 => exact two _ _ _ (fun a b => a ++ b) id
    | 2 =>
      rw [gr_ps_2]
      split
      · exact gd _ _ _ _
      · exact two _ _ _ (fun a b => a ++ (gr_o2 (c k), 0) :: b) _
    | 3 => exact two _ _ _ (fun a b => a ++ b) id
    | 4 =>
      rw [gr_ps_4]
      split
      · exact gd _ _ _ _
      · exact two _ _ _ (fun a b => a ++ (gr_o4 (c k), 0) :: b) _
    | 5 =>
      rw [gr_ps_5]
      by_cases e : c k = 7
      · rw [if_pos e]
        exact ih _ _ _ _ _ _
      · rw [if_neg e]
        refine one _ _ _ _ _ fun _ _ _ _ => ?_
        split <;> exact gd _ _ _ _
    | 6 =>
      rw [gr_ps_6]
      split
      · split
        · exact fl _
        · refine one _ _ _ _ _ fun _ _ _ _ => ?_
          split
          · exact gd _ _ _ _
          · exact fl _
      · refine one _ _ _ _ _ fun _ _ _ _ => ?_
        split
        · exact fl _
        · exact gr_bd_le (ih _ _ _ _ _ _) fun _ _ _ _ => gd _ _ _ _
    | 7 => exact two _ _ _ (fun a b => a ++ b) id
    | 8 =>
      rw [gr_ps_8]
      split
      · exact two _ _ _ (fun c1 c2 => (12, 2 * c1.length) :: (c1 ++ c2)) _
      · exact gd _ _ _ _
    | 9 => exact two _ _ _ (fun a b => a ++ b) id
    | nt + 10 =>
      show (if c k = 5 then gr_bd (gr_ps S c v n 7 0 dp (k + 1) lv a) fun k1 l1 c1 d1 => gr_bd (gr_ps S c v n 10 0 dp k1 l1 (gr_dor a d1)) fun k2 l2 c2 d2 => gr_gd k2 l2 ((11, 2 * c1.length) :: (c1 ++ c2)) d2 else gr_gd k lv [] a).1 ≤ 2
      split
      · exact two _ _ _ (fun c1 c2 => (11, 2 * c1.length) :: (c1 ++ c2)) _
      · exact gd _ _ _ _
/-- how the outcome of two readings one behind the other comes about -/
theorem gr_bd2 {r : gr_r} {f : Nat → Nat → gr_cd → gr_dn → gr_r} (hr : r.1 ≤ 2) (P : gr_r → Prop) (h1 : r.1 = 0 → P r) (h2 : r.1 = 1 → P r) (h3 : r.1 = 2 → P (f r.2.1 r.2.2.1 r.2.2.2.1 r.2.2.2.2)) : P (gr_bd r f) := by
  unfold gr_bd
  by_cases e : r.1 = 2
  · rw [if_pos e]; exact h3 e
  · rw [if_neg e]
    rcases (show r.1 = 0 ∨ r.1 = 1 by omega) with e | e
    · exact h1 e
    · exact h2 e
/-- TOKENS go forward; no TOKEN leaves more than one step; the count of leaves -/
def gr_rest (nt : Nat) : Nat := if nt = 2 ∨ nt = 4 ∨ nt = 8 ∨ nt = 10 then 0 else 1
/-- a step for not that was read ahead -/
def gr_sl (nt x : Nat) : Nat := if nt = 5 then (if x = 0 then 0 else 1) else 0
theorem gr_sl_0 (nt : Nat) : gr_sl nt 0 = 0 := by
  unfold gr_sl
  split <;> rfl
def gr_fw (nt x k lv : Nat) (r : gr_r) : Prop := r.1 = 2 → (k + gr_rest nt ≤ r.2.1 ∧ r.2.2.2.1.length + k ≤ r.2.1 + gr_sl nt x ∧ lv ≤ r.2.2.1 ∧ (lv ≤ 50 → r.2.2.1 ≤ 50))
theorem gr_fw_fl {nt x k lv j : Nat} : gr_fw nt x k lv (gr_fl j) := fun h => absurd (show 1 = 2 from h) (by decide)
theorem gr_fw_no {nt x k lv : Nat} {r : gr_r} (h : r.1 = 0) : gr_fw nt x k lv r := fun e => by omega
theorem gr_fw_no1 {nt x k lv : Nat} {r : gr_r} (h : r.1 = 1) : gr_fw nt x k lv r := fun e => by omega
theorem gr_o2_ne {c : Nat} (h : ¬ gr_o2 c = 0) : c = 142 ∨ c = 147 ∨ c = 137 := by
  unfold gr_o2 at h
  split at h
  · omega
  · split at h
    · omega
    · split at h <;> omega
theorem gr_o4_ne {c : Nat} (h : ¬ gr_o4 c = 0) : c = 143 ∨ c = 145 := by
  unfold gr_o4 at h
  split at h
  · omega
  · split at h <;> omega
theorem gr_o6_ne {c : Nat} (h : ¬ gr_o6 c = 0) : c = 160 ∨ c = 162 ∨ c = 161 := by
  unfold gr_o6 at h
  split at h
  · omega
  · split at h
    · omega
    · split at h <;> omega
theorem gr_ps_fw {S : Bool} {c v : Nat → Nat} : ∀ (n nt x dp k lv : Nat) (a : gr_dn), nt ≤ 10 → gr_fw nt x k lv (gr_ps S c v n nt x dp k lv a) := by
  intro n
  induction n with
  | zero => intro nt x dp k lv a _; exact gr_fw_no rfl
  | succ n ih =>
    intro nt x dp k lv a hnt
    have two : ∀ (A B k1 : Nat) (f : gr_cd → gr_cd → gr_cd) (g : gr_dn → gr_dn) (h : gr_dn → gr_dn → gr_dn), A ≤ 10 → B ≤ 10 → k ≤ k1 → (gr_rest nt ≤ k1 - k + gr_rest A) → (∀ c1 c2, (f c1 c2).length ≤ c1.length + c2.length + (k1 - k)) → gr_fw nt x k lv (gr_bd (gr_ps S c v n A 0 dp k1 lv a) fun k1 l1 c1 d1 => gr_bd (gr_ps S c v n B 0 dp k1 l1 (g d1)) fun k2 l2 c2 d2 => gr_gd k2 l2 (f c1 c2) (h d1 d2)) := by
      intro A B k1 f g h hA hB hk hr hf
      refine gr_bd2 (gr_ps_le _ _ _ _ _ _ _) _ gr_fw_no gr_fw_no1 fun e1 => ?_
      refine gr_bd2 (gr_ps_le _ _ _ _ _ _ _) _ gr_fw_no gr_fw_no1 fun e2 => fun _ => ?_
      obtain ⟨p1, p2, p3, p4⟩ := ih A 0 dp k1 lv a hA e1
      obtain ⟨q1, q2, q3, q4⟩ := ih B 0 dp _ _ _ hB e2
      rw [gr_sl_0] at p2 q2
      have hl := hf (gr_ps S c v n A 0 dp k1 lv a).2.2.2.1 (gr_ps S c v n B 0 dp (gr_ps S c v n A 0 dp k1 lv a).2.1 (gr_ps S c v n A 0 dp k1 lv a).2.2.1 (g (gr_ps S c v n A 0 dp k1 lv a).2.2.2.2)).2.2.2.1
      refine ⟨?_, ?_, ?_, ?_⟩
      · show k + gr_rest nt ≤ (gr_ps S c v n B 0 dp _ _ _).2.1
        omega
      · show (f _ _).length + k ≤ (gr_ps S c v n B 0 dp _ _ _).2.1 + gr_sl nt x
        omega
      · exact Nat.le_trans p3 q3
      · exact fun h => q4 (p4 h)
    have nl : gr_fw nt x k lv (gr_gd k lv [] a) ∨ ¬ gr_rest nt = 0 := by
      by_cases e : gr_rest nt = 0
      · exact Or.inl fun _ => ⟨by show k + gr_rest nt ≤ k; omega, by show 0 + k ≤ k + gr_sl nt x; omega, Nat.le_refl lv, fun h => h⟩
      · exact Or.inr e
    match nt, hnt with
    | 0, _ =>
      rw [gr_ps_0]
      split
      · split
        · exact gr_fw_fl
        · refine gr_bd2 (gr_ps_le _ _ _ _ _ _ _) _ gr_fw_no gr_fw_no1 fun e1 => ?_
          split
          · obtain ⟨p1, p2, p3, p4⟩ := ih 3 0 (dp + 1) (k + 1) lv a (by omega) e1
            refine fun _ => ⟨?_, ?_, p3, p4⟩
            · show k + 1 ≤ _ + 1
              omega
            · show List.length (gr_ps S c v n 3 0 (dp + 1) (k + 1) lv a).2.2.2.1 + k ≤ (gr_ps S c v n 3 0 (dp + 1) (k + 1) lv a).2.1 + 1 + 0
              rw [gr_sl_0] at p2
              omega
          · exact gr_fw_fl
      · split
        · split
          · exact gr_fw_fl
          · exact fun _ => ⟨Nat.le_refl _, by show 1 + k ≤ k + 1; omega, Nat.le_succ lv, fun h => by show lv + 1 ≤ 50; omega⟩
        · split
          · split
            · exact gr_fw_fl
            · split
              · split
                · exact fun _ => ⟨by show k + 1 ≤ k + 2; omega, by show 1 + k ≤ k + 2; omega, Nat.le_succ lv, fun h => by show lv + 1 ≤ 50; omega⟩
                · exact gr_fw_fl
              · exact fun _ => ⟨Nat.le_refl _, by show 1 + k ≤ k + 1; omega, Nat.le_succ lv, fun h => by show lv + 1 ≤ 50; omega⟩
          · exact gr_fw_fl
    | 1, _ => exact two 0 2 k (fun a b => a ++ b) id (fun _ b => b) (by omega) (by omega) (Nat.le_refl _) (by show 1 ≤ k - k + 1; omega) fun a b => by rw [List.length_append]; omega
    | 2, _ =>
      rw [gr_ps_2]
      split
      · exact nl.resolve_right (fun h => h rfl)
      · exact two 0 2 (k + 1) (fun a b => a ++ (gr_o2 (c k), 0) :: b) (gr_dj (gr_o2 (c k)) a) (fun _ b => b) (by omega) (by omega) (Nat.le_succ _) (by show 0 ≤ _; omega) fun a b => by rw [List.length_append, List.length_cons]; omega
    | 3, _ => exact two 1 4 k (fun a b => a ++ b) id (fun _ b => b) (by omega) (by omega) (Nat.le_refl _) (by show 1 ≤ k - k + 1; omega) fun a b => by rw [List.length_append]; omega
    | 4, _ =>
      rw [gr_ps_4]
      split
      · exact nl.resolve_right (fun h => h rfl)
      · exact two 1 4 (k + 1) (fun a b => a ++ (gr_o4 (c k), 0) :: b) (gr_dj (gr_o4 (c k)) a) (fun _ b => b) (by omega) (by omega) (Nat.le_succ _) (by show 0 ≤ _; omega) fun a b => by rw [List.length_append, List.length_cons]; omega
    | 5, _ =>
      rw [gr_ps_5]
      by_cases e : c k = 7
      · rw [if_pos e]
        intro h
        obtain ⟨p1, p2, p3, p4⟩ := ih 5 _ dp (k + 1) lv a (by omega) h
        have hx : gr_sl 5 (if x = 0 then 1 else 0) ≤ 1 := by
          unfold gr_sl
          by_cases e0 : x = 0 <;> simp [e0]
        exact ⟨Nat.le_trans (by show k + 1 ≤ k + 1 + 1; omega) p1, by omega, p3, p4⟩
      · rw [if_neg e]
        refine gr_bd2 (gr_ps_le _ _ _ _ _ _ _) _ gr_fw_no gr_fw_no1 fun e1 => ?_
        obtain ⟨p1, p2, p3, p4⟩ := ih 6 0 dp k lv a (by omega) e1
        rw [gr_sl_0] at p2
        by_cases ex : x = 0
        · rw [if_pos ex]
          exact fun _ => ⟨p1, Nat.le_trans p2 (by show _ ≤ (gr_ps S c v n 6 0 dp k lv a).2.1 + _; omega), p3, p4⟩
        · rw [if_neg ex]
          refine fun _ => ⟨p1, ?_, p3, p4⟩
          show ((gr_ps S c v n 6 0 dp k lv a).2.2.2.1 ++ [(10, 0)]).length + k ≤ (gr_ps S c v n 6 0 dp k lv a).2.1 + gr_sl 5 x
          have hx : gr_sl 5 x = 1 := by
            unfold gr_sl
            rw [if_pos rfl, if_neg ex]
          rw [List.length_append, List.length_singleton, hx]
          omega
    | 6, _ =>
      rw [gr_ps_6]
      split
      · split
        · exact gr_fw_fl
        · refine gr_bd2 (gr_ps_le _ _ _ _ _ _ _) _ gr_fw_no gr_fw_no1 fun e1 => ?_
          split
          · obtain ⟨p1, p2, p3, p4⟩ := ih 9 0 (dp + 1) (k + 1) lv a (by omega) e1
            refine fun _ => ⟨?_, ?_, p3, p4⟩
            · show k + 1 ≤ _ + 1
              omega
            · show List.length (gr_ps S c v n 9 0 (dp + 1) (k + 1) lv a).2.2.2.1 + k ≤ (gr_ps S c v n 9 0 (dp + 1) (k + 1) lv a).2.1 + 1 + 0
              rw [gr_sl_0] at p2
              omega
          · exact gr_fw_fl
      · refine gr_bd2 (gr_ps_le _ _ _ _ _ _ _) _ gr_fw_no gr_fw_no1 fun e1 => ?_
        split
        · exact gr_fw_fl
        · refine gr_bd2 (gr_ps_le _ _ _ _ _ _ _) _ gr_fw_no gr_fw_no1 fun e2 => fun _ => ?_
          obtain ⟨p1, p2, p3, p4⟩ := ih 3 0 dp k lv a (by omega) e1
          obtain ⟨q1, q2, q3, q4⟩ := ih 3 0 dp _ _ _ (by omega) e2
          rw [gr_sl_0] at p2 q2
          refine ⟨?_, ?_, Nat.le_trans p3 q3, fun h => q4 (p4 h)⟩
          · show k + 1 ≤ (gr_ps S c v n 3 0 dp _ _ _).2.1
            omega
          · show (_ ++ (_ ++ [_])).length + k ≤ (gr_ps S c v n 3 0 dp _ _ _).2.1 + 0
            rw [List.length_append, List.length_append, List.length_singleton]
            omega
    | 7, _ => exact two 5 8 k (fun a b => a ++ b) id (fun _ b => b) (by omega) (by omega) (Nat.le_refl _) (by show 1 ≤ k - k + 1; omega) fun a b => by rw [List.length_append]; omega
    | 8, _ =>
      rw [gr_ps_8]
      split
      · refine gr_bd2 (gr_ps_le _ _ _ _ _ _ _) _ gr_fw_no gr_fw_no1 fun e1 => ?_
        refine gr_bd2 (gr_ps_le _ _ _ _ _ _ _) _ gr_fw_no gr_fw_no1 fun e2 => fun _ => ?_
        obtain ⟨p1, p2, p3, p4⟩ := ih 5 0 dp (k + 1) lv a (by omega) e1
        obtain ⟨q1, q2, q3, q4⟩ := ih 8 0 dp _ _ _ (by omega) e2
        rw [gr_sl_0] at p2 q2
        refine ⟨?_, ?_, Nat.le_trans p3 q3, fun h => q4 (p4 h)⟩
        · show k + 0 ≤ (gr_ps S c v n 8 0 dp _ _ _).2.1
          omega
        · show (_ :: (_ ++ _)).length + k ≤ (gr_ps S c v n 8 0 dp _ _ _).2.1 + 0
          rw [List.length_cons, List.length_append]
          omega
      · exact nl.resolve_right (fun h => h rfl)
    | 9, _ => exact two 7 10 k (fun a b => a ++ b) id (fun _ b => b) (by omega) (by omega) (Nat.le_refl _) (by show 1 ≤ k - k + 1; omega) fun a b => by rw [List.length_append]; omega
    | 10, _ =>
      rw [gr_ps_10]
      split
      · refine gr_bd2 (gr_ps_le _ _ _ _ _ _ _) _ gr_fw_no gr_fw_no1 fun e1 => ?_
        refine gr_bd2 (gr_ps_le _ _ _ _ _ _ _) _ gr_fw_no gr_fw_no1 fun e2 => fun _ => ?_
        obtain ⟨p1, p2, p3, p4⟩ := ih 7 0 dp (k + 1) lv a (by omega) e1
        obtain ⟨q1, q2, q3, q4⟩ := ih 10 0 dp _ _ _ (by omega) e2
        rw [gr_sl_0] at p2 q2
        refine ⟨?_, ?_, Nat.le_trans p3 q3, fun h => q4 (p4 h)⟩
        · show k + 0 ≤ (gr_ps S c v n 10 0 dp _ _ _).2.1
          omega
        · show (_ :: (_ ++ _)).length + k ≤ (gr_ps S c v n 10 0 dp _ _ _).2.1 + 0
          rw [List.length_cons, List.length_append]
          omega
      · exact nl.resolve_right (fun h => h rfl)
    | nt + 11, h => omega
/-- fuel enough: no reading runs out of it, and none goes beyond the last TOKEN -/
def gr_rk (nt : Nat) : Nat := match nt with
  | 0 => 1
  | 1 => 2
  | 2 => 2
  | 3 => 3
  | 4 => 3
  | 5 => 5
  | 6 => 4
  | 7 => 6
  | 8 => 6
  | _ => 7
def gr_fin (m : Nat) (r : gr_r) : Prop := r.1 ≠ 0 ∧ r.2.1 ≤ m
theorem gr_fin_fl {m k : Nat} (h : k ≤ m) : gr_fin m (gr_fl k) := ⟨by show 1 ≠ 0; omega, h⟩
theorem gr_fin_gd {m k l : Nat} {c : gr_cd} {d : gr_dn} (h : k ≤ m) : gr_fin m (gr_gd k l c d) := ⟨by show 2 ≠ 0; omega, h⟩
theorem gr_fin_bd {m : Nat} {r : gr_r} {f : Nat → Nat → gr_cd → gr_dn → gr_r} (hr : gr_fin m r) (hf : r.1 = 2 → gr_fin m (f r.2.1 r.2.2.1 r.2.2.2.1 r.2.2.2.2)) : gr_fin m (gr_bd r f) := by
  unfold gr_bd
  by_cases e : r.1 = 2
  · rw [if_pos e]; exact hf e
  · rw [if_neg e]; exact hr
theorem gr_ps_ok {S : Bool} {c v : Nat → Nat} {m : Nat} (hc : ∀ j, m ≤ j → c j = 0) : ∀ (n nt x dp k lv : Nat) (a : gr_dn), nt ≤ 10 → k ≤ m → dp ≤ 8 → (m - k) + 12 * (9 - dp) + gr_rk nt ≤ n → gr_fin m (gr_ps S c v n nt x dp k lv a) := by
  have lt : ∀ k, k ≤ m → ¬ c k = 0 → k < m := fun k hk h => by
    rcases Nat.lt_or_ge k m with q | q
    · exact q
    · exact absurd (hc k q) h
  intro n
  induction n with
  | zero =>
    intro nt x dp k lv a hnt hk hd hn
    exfalso
    omega
  | succ n ih =>
    intro nt x dp k lv a hnt hk hd hn
    have two : ∀ (A B k1 : Nat) (f : gr_cd → gr_cd → gr_cd) (g : gr_dn → gr_dn) (h : gr_dn → gr_dn → gr_dn), A ≤ 10 → B ≤ 10 → k ≤ k1 → k1 ≤ m → gr_rest A = 1 → (gr_rk A + 1 ≤ gr_rk nt + (k1 - k)) → gr_rk B ≤ gr_rk nt → gr_fin m (gr_bd (gr_ps S c v n A 0 dp k1 lv a) fun k1 l1 c1 d1 => gr_bd (gr_ps S c v n B 0 dp k1 l1 (g d1)) fun k2 l2 c2 d2 => gr_gd k2 l2 (f c1 c2) (h d1 d2)) := by
      intro A B k1 f g h hA hB hk1 hkm hr h1 h2
      have r1 := ih A 0 dp k1 lv a hA hkm hd (by omega)
      refine gr_fin_bd r1 fun e1 => ?_
      have fw := gr_ps_fw (S := S) (c := c) (v := v) n A 0 dp k1 lv a hA e1
      have r2 := ih B 0 dp _ (gr_ps S c v n A 0 dp k1 lv a).2.2.1 (g (gr_ps S c v n A 0 dp k1 lv a).2.2.2.2) hB r1.2 hd (by have := fw.1; have := r1.2; omega)
      exact gr_fin_bd r2 fun e2 => gr_fin_gd r2.2
    match nt, hnt with
    | 0, _ =>
      rw [gr_ps_0]
      split
      · rename_i e
        have := lt k hk (by omega)
        split
        · exact gr_fin_fl hk
        · have r1 := ih 3 0 (dp + 1) (k + 1) lv a (by omega) (by omega) (by omega) (by have : gr_rk 0 = 1 := rfl; have : gr_rk 3 = 3 := rfl; omega)
          refine gr_fin_bd r1 fun e1 => ?_
          split
          · rename_i e2
            have := lt _ r1.2 (by omega)
            exact gr_fin_gd (by omega)
          · exact gr_fin_fl r1.2
      · split
        · rename_i e
          have := lt k hk (by omega)
          split
          · exact gr_fin_fl hk
          · exact gr_fin_gd (by omega)
        · split
          · rename_i e
            have := lt k hk (by intro q; rw [q] at e; cases S <;> simp [gr_isv] at e)
            split
            · exact gr_fin_fl hk
            · split
              · split
                · rename_i e2
                  have := lt (k + 1) (by omega) (by omega)
                  exact gr_fin_gd (by omega)
                · exact gr_fin_fl (by omega)
              · exact gr_fin_gd (by omega)
          · exact gr_fin_fl hk
    | 1, _ => exact two 0 2 k (fun a b => a ++ b) id (fun _ b => b) (by omega) (by omega) (Nat.le_refl _) hk rfl (by show 1 + 1 ≤ 2 + _; omega) (by show 2 ≤ 2; omega)
    | 2, _ =>
      rw [gr_ps_2]
      split
      · exact gr_fin_gd hk
      · rename_i e
        have := lt k hk (by rcases gr_o2_ne e with q | q | q <;> omega)
        exact two 0 2 (k + 1) (fun a b => a ++ (gr_o2 (c k), 0) :: b) (gr_dj (gr_o2 (c k)) a) (fun _ b => b) (by omega) (by omega) (Nat.le_succ _) (by omega) rfl (by show 1 + 1 ≤ 2 + _; omega) (by show 2 ≤ 2; omega)
    | 3, _ => exact two 1 4 k (fun a b => a ++ b) id (fun _ b => b) (by omega) (by omega) (Nat.le_refl _) hk rfl (by show 2 + 1 ≤ 3 + _; omega) (by show 3 ≤ 3; omega)
    | 4, _ =>
      rw [gr_ps_4]
      split
      · exact gr_fin_gd hk
      · rename_i e
        have := lt k hk (by rcases gr_o4_ne e with q | q <;> omega)
        exact two 1 4 (k + 1) (fun a b => a ++ (gr_o4 (c k), 0) :: b) (gr_dj (gr_o4 (c k)) a) (fun _ b => b) (by omega) (by omega) (Nat.le_succ _) (by omega) rfl (by show 2 + 1 ≤ 3 + _; omega) (by show 3 ≤ 3; omega)
    | 5, _ =>
      rw [gr_ps_5]
      by_cases e : c k = 7
      · rw [if_pos e]
        have := lt k hk (by omega)
        exact ih 5 _ dp (k + 1) lv a (by omega) (by omega) hd (by omega)
      · rw [if_neg e]
        have r1 := ih 6 0 dp k lv a (by omega) hk hd (by have : gr_rk 5 = 5 := rfl; have : gr_rk 6 = 4 := rfl; omega)
        refine gr_fin_bd r1 fun e1 => ?_
        split <;> exact gr_fin_gd r1.2
    | 6, _ =>
      have g6 : gr_rk 6 = 4 := rfl
      have g9 : gr_rk 9 = 7 := rfl
      have g3 : gr_rk 3 = 3 := rfl
      rw [gr_ps_6]
      split
      · rename_i e
        have := lt k hk (by omega)
        split
        · exact gr_fin_fl hk
        · have r1 := ih 9 0 (dp + 1) (k + 1) lv a (by omega) (by omega) (by omega) (by omega)
          refine gr_fin_bd r1 fun e1 => ?_
          split
          · rename_i e2
            have := lt _ r1.2 (by omega)
            exact gr_fin_gd (by omega)
          · exact gr_fin_fl r1.2
      · have r1 := ih 3 0 dp k lv a (by omega) hk hd (by omega)
        refine gr_fin_bd r1 fun e1 => ?_
        have fw := gr_ps_fw (S := S) (c := c) (v := v) n 3 0 dp k lv a (by omega) e1
        split
        · exact gr_fin_fl r1.2
        · rename_i e2
          have := lt _ r1.2 (by rcases gr_o6_ne e2 with q | q | q <;> omega)
          have r2 := ih 3 0 dp ((gr_ps S c v n 3 0 dp k lv a).2.1 + 1) (gr_ps S c v n 3 0 dp k lv a).2.2.1 a (by omega) (by omega) hd (by omega)
          exact gr_fin_bd r2 fun e3 => gr_fin_gd r2.2
    | 7, _ => exact two 5 8 k (fun a b => a ++ b) id (fun _ b => b) (by omega) (by omega) (Nat.le_refl _) hk rfl (by show 5 + 1 ≤ 6 + _; omega) (by show 6 ≤ 6; omega)
    | 8, _ =>
      rw [gr_ps_8]
      split
      · have := lt k hk (by omega)
        exact two 5 8 (k + 1) (fun c1 c2 => (12, 2 * c1.length) :: (c1 ++ c2)) (gr_dan a) (fun _ b => b) (by omega) (by omega) (Nat.le_succ _) (by omega) rfl (by show 5 + 1 ≤ 6 + _; omega) (by show 6 ≤ 6; omega)
      · exact gr_fin_gd hk
    | 9, _ => exact two 7 10 k (fun a b => a ++ b) id (fun _ b => b) (by omega) (by omega) (Nat.le_refl _) hk rfl (by show 6 + 1 ≤ 7 + _; omega) (by show 7 ≤ 7; omega)
    | 10, _ =>
      rw [gr_ps_10]
      split
      · have := lt k hk (by omega)
        exact two 7 10 (k + 1) (fun c1 c2 => (11, 2 * c1.length) :: (c1 ++ c2)) (gr_dor a) (fun _ b => b) (by omega) (by omega) (Nat.le_succ _) (by omega) rfl (by show 6 + 1 ≤ 7 + _; omega) (by show 7 ≤ 7; omega)
      · exact gr_fin_gd hk
    | nt + 11, h => omega
/-- none goes beyond the last TOKEN -/
def gr_tp (m : Nat) (r : gr_r) : Prop := r.1 ≠ 0 → r.2.1 ≤ m
theorem gr_tp_bd {m : Nat} {r : gr_r} {f : Nat → Nat → gr_cd → gr_dn → gr_r} (hr : gr_tp m r) (hf : r.1 = 2 → r.2.1 ≤ m → gr_tp m (f r.2.1 r.2.2.1 r.2.2.2.1 r.2.2.2.2)) : gr_tp m (gr_bd r f) := by
  unfold gr_bd
  by_cases e : r.1 = 2
  · rw [if_pos e]; exact hf e (hr (by omega))
  · rw [if_neg e]; exact hr
theorem gr_ps_top {S : Bool} {c v : Nat → Nat} {m : Nat} (hc : ∀ j, m ≤ j → c j = 0) : ∀ (n nt x dp k lv : Nat) (a : gr_dn), nt ≤ 10 → k ≤ m → gr_tp m (gr_ps S c v n nt x dp k lv a) := by
  have lt : ∀ k, k ≤ m → ¬ c k = 0 → k + 1 ≤ m := fun k hk h => by
    rcases Nat.lt_or_ge k m with q | q
    · exact q
    · exact absurd (hc k q) h
  intro n
  induction n with
  | zero =>
    intro nt x dp k lv a hnt hk h
    exact absurd rfl h
  | succ n ih =>
    intro nt x dp k lv a hnt hk
    have two : ∀ (A B k1 : Nat) (f : gr_cd → gr_cd → gr_cd) (g : gr_dn → gr_dn) (h : gr_dn → gr_dn → gr_dn), A ≤ 10 → B ≤ 10 → k1 ≤ m → gr_tp m (gr_bd (gr_ps S c v n A 0 dp k1 lv a) fun k1 l1 c1 d1 => gr_bd (gr_ps S c v n B 0 dp k1 l1 (g d1)) fun k2 l2 c2 d2 => gr_gd k2 l2 (f c1 c2) (h d1 d2)) := by
      intro A B k1 f g h hA hB hkm
      exact gr_tp_bd (ih A 0 dp k1 lv a hA hkm) fun e1 r1 => gr_tp_bd (ih B 0 dp _ _ _ hB r1) fun e2 r2 => fun _ => r2
    match nt, hnt with
    | 0, _ =>
      rw [gr_ps_0]
      split
      · rename_i e
        have := lt k hk (by omega)
        split
        · exact fun _ => hk
        · refine gr_tp_bd (ih 3 0 (dp + 1) (k + 1) lv a (by omega) this) fun e1 r1 => ?_
          split
          · rename_i e2
            exact fun _ => lt _ r1 (by omega)
          · exact fun _ => r1
      · split
        · rename_i e
          have := lt k hk (by omega)
          split
          · exact fun _ => hk
          · exact fun _ => this
        · split
          · rename_i e
            have := lt k hk (by intro q; rw [q] at e; cases S <;> simp [gr_isv] at e)
            split
            · exact fun _ => hk
            · split
              · split
                · rename_i e2
                  exact fun _ => lt (k + 1) this (by omega)
                · exact fun _ => this
              · exact fun _ => this
          · exact fun _ => hk
    | 1, _ => exact two 0 2 k (fun a b => a ++ b) id (fun _ b => b) (by omega) (by omega) hk
    | 2, _ =>
      rw [gr_ps_2]
      split
      · exact fun _ => hk
      · rename_i e
        exact two 0 2 (k + 1) (fun a b => a ++ (gr_o2 (c k), 0) :: b) (gr_dj (gr_o2 (c k)) a) (fun _ b => b) (by omega) (by omega) (lt k hk (by rcases gr_o2_ne e with q | q | q <;> omega))
    | 3, _ => exact two 1 4 k (fun a b => a ++ b) id (fun _ b => b) (by omega) (by omega) hk
    | 4, _ =>
      rw [gr_ps_4]
      split
      · exact fun _ => hk
      · rename_i e
        exact two 1 4 (k + 1) (fun a b => a ++ (gr_o4 (c k), 0) :: b) (gr_dj (gr_o4 (c k)) a) (fun _ b => b) (by omega) (by omega) (lt k hk (by rcases gr_o4_ne e with q | q <;> omega))
    | 5, _ =>
      rw [gr_ps_5]
      by_cases e : c k = 7
      · rw [if_pos e]
        exact ih 5 _ dp (k + 1) lv a (by omega) (lt k hk (by omega))
      · rw [if_neg e]
        refine gr_tp_bd (ih 6 0 dp k lv a (by omega) hk) fun e1 r1 => ?_
        split <;> exact fun _ => r1
    | 6, _ =>
      rw [gr_ps_6]
      split
      · rename_i e
        have := lt k hk (by omega)
        split
        · exact fun _ => hk
        · refine gr_tp_bd (ih 9 0 (dp + 1) (k + 1) lv a (by omega) this) fun e1 r1 => ?_
          split
          · rename_i e2
            exact fun _ => lt _ r1 (by omega)
          · exact fun _ => r1
      · refine gr_tp_bd (ih 3 0 dp k lv a (by omega) hk) fun e1 r1 => ?_
        split
        · exact fun _ => r1
        · rename_i e2
          exact gr_tp_bd (ih 3 0 dp _ _ a (by omega) (lt _ r1 (by rcases gr_o6_ne e2 with q | q | q <;> omega))) fun e3 r3 => fun _ => r3
    | 7, _ => exact two 5 8 k (fun a b => a ++ b) id (fun _ b => b) (by omega) (by omega) hk
    | 8, _ =>
      rw [gr_ps_8]
      split
      · exact two 5 8 (k + 1) (fun c1 c2 => (12, 2 * c1.length) :: (c1 ++ c2)) (gr_dan a) (fun _ b => b) (by omega) (by omega) (lt k hk (by omega))
      · exact fun _ => hk
    | 9, _ => exact two 7 10 k (fun a b => a ++ b) id (fun _ b => b) (by omega) (by omega) hk
    | 10, _ =>
      rw [gr_ps_10]
      split
      · exact two 7 10 (k + 1) (fun c1 c2 => (11, 2 * c1.length) :: (c1 ++ c2)) (gr_dor a) (fun _ b => b) (by omega) (by omega) (lt k hk (by omega))
      · exact fun _ => hk
    | nt + 11, h => omega
