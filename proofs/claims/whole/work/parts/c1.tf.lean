/-! one desk copied into another -/
def bk (t : Nat) (T : hf_T) (P : hf_P) (db : Nat) : Prop := 100 ≤ db ∧ db + 20 ≤ 100 + t ∧ T db = (1, 0) ∧ T (db + 1) = (100, 27) ∧ T (db + 2) = (100, 8) ∧ T (db + 3) = (100, 2) ∧ T (db + 4) = (10, 0) ∧ T (db + 5) = (100, 16) ∧ T (db + 6) = (100, 16) ∧ T (db + 7) = (100, 16) ∧ T (db + 8) = (100, 16) ∧ T (db + 9) = (101, 144) ∧ T (db + 10) = (105, 6) ∧ T (db + 11) = (100, 6) ∧ T (db + 12) = (100, 4) ∧ T (db + 13) = (3, 0) ∧ T (db + 14) = (100, 12) ∧ T (db + 15) = (100, 12) ∧ T (db + 16) = (100, 8) ∧ T (db + 17) = (100, 8) ∧ T (db + 18) = (100, 8) ∧ T (db + 19) = (100, 8) ∧ P db 0 = some (db + 1) ∧ P db 1 = some (db + 2) ∧ P db 2 = some (db + 3) ∧ P db 3 = some (db + 4) ∧ P db 4 = some (db + 10) ∧ P db 5 = some (db + 11) ∧ P db 6 = some (db + 12) ∧ P db 7 = some (db + 13) ∧ P db 8 = some (db + 16) ∧ P db 9 = some (db + 17) ∧ P db 10 = some (db + 18) ∧ P db 11 = some (db + 19) ∧ P (db + 4) 0 = some (db + 5) ∧ P (db + 4) 1 = some (db + 6) ∧ P (db + 4) 2 = some (db + 7) ∧ P (db + 4) 3 = some (db + 8) ∧ P (db + 4) 4 = some (db + 9) ∧ P (db + 13) 0 = some (db + 14) ∧ P (db + 13) 1 = some (db + 15)
theorem bk.lo {t : Nat} {T : hf_T} {P : hf_P} {db : Nat} (h : bk t T P db) : 100 ≤ db := h.1
theorem bk.hi {t : Nat} {T : hf_T} {P : hf_P} {db : Nat} (h : bk t T P db) : db + 20 ≤ 100 + t := h.2.1
theorem bk.t0 {t : Nat} {T : hf_T} {P : hf_P} {db : Nat} (h : bk t T P db) : T db = (1, 0) := h.2.2.1
theorem bk.t1 {t : Nat} {T : hf_T} {P : hf_P} {db : Nat} (h : bk t T P db) : T (db + 1) = (100, 27) := h.2.2.2.1
theorem bk.t2 {t : Nat} {T : hf_T} {P : hf_P} {db : Nat} (h : bk t T P db) : T (db + 2) = (100, 8) := h.2.2.2.2.1
theorem bk.t3 {t : Nat} {T : hf_T} {P : hf_P} {db : Nat} (h : bk t T P db) : T (db + 3) = (100, 2) := h.2.2.2.2.2.1
theorem bk.t4 {t : Nat} {T : hf_T} {P : hf_P} {db : Nat} (h : bk t T P db) : T (db + 4) = (10, 0) := h.2.2.2.2.2.2.1
theorem bk.t5 {t : Nat} {T : hf_T} {P : hf_P} {db : Nat} (h : bk t T P db) : T (db + 5) = (100, 16) := h.2.2.2.2.2.2.2.1
theorem bk.t6 {t : Nat} {T : hf_T} {P : hf_P} {db : Nat} (h : bk t T P db) : T (db + 6) = (100, 16) := h.2.2.2.2.2.2.2.2.1
theorem bk.t7 {t : Nat} {T : hf_T} {P : hf_P} {db : Nat} (h : bk t T P db) : T (db + 7) = (100, 16) := h.2.2.2.2.2.2.2.2.2.1
theorem bk.t8 {t : Nat} {T : hf_T} {P : hf_P} {db : Nat} (h : bk t T P db) : T (db + 8) = (100, 16) := h.2.2.2.2.2.2.2.2.2.2.1
theorem bk.t9 {t : Nat} {T : hf_T} {P : hf_P} {db : Nat} (h : bk t T P db) : T (db + 9) = (101, 144) := h.2.2.2.2.2.2.2.2.2.2.2.1
theorem bk.t10 {t : Nat} {T : hf_T} {P : hf_P} {db : Nat} (h : bk t T P db) : T (db + 10) = (105, 6) := h.2.2.2.2.2.2.2.2.2.2.2.2.1
theorem bk.t11 {t : Nat} {T : hf_T} {P : hf_P} {db : Nat} (h : bk t T P db) : T (db + 11) = (100, 6) := h.2.2.2.2.2.2.2.2.2.2.2.2.2.1
theorem bk.t12 {t : Nat} {T : hf_T} {P : hf_P} {db : Nat} (h : bk t T P db) : T (db + 12) = (100, 4) := h.2.2.2.2.2.2.2.2.2.2.2.2.2.2.1
theorem bk.t13 {t : Nat} {T : hf_T} {P : hf_P} {db : Nat} (h : bk t T P db) : T (db + 13) = (3, 0) := h.2.2.2.2.2.2.2.2.2.2.2.2.2.2.2.1
theorem bk.t14 {t : Nat} {T : hf_T} {P : hf_P} {db : Nat} (h : bk t T P db) : T (db + 14) = (100, 12) := h.2.2.2.2.2.2.2.2.2.2.2.2.2.2.2.2.1
theorem bk.t15 {t : Nat} {T : hf_T} {P : hf_P} {db : Nat} (h : bk t T P db) : T (db + 15) = (100, 12) := h.2.2.2.2.2.2.2.2.2.2.2.2.2.2.2.2.2.1
theorem bk.t16 {t : Nat} {T : hf_T} {P : hf_P} {db : Nat} (h : bk t T P db) : T (db + 16) = (100, 8) := h.2.2.2.2.2.2.2.2.2.2.2.2.2.2.2.2.2.2.1
theorem bk.t17 {t : Nat} {T : hf_T} {P : hf_P} {db : Nat} (h : bk t T P db) : T (db + 17) = (100, 8) := h.2.2.2.2.2.2.2.2.2.2.2.2.2.2.2.2.2.2.2.1
theorem bk.t18 {t : Nat} {T : hf_T} {P : hf_P} {db : Nat} (h : bk t T P db) : T (db + 18) = (100, 8) := h.2.2.2.2.2.2.2.2.2.2.2.2.2.2.2.2.2.2.2.2.1
theorem bk.t19 {t : Nat} {T : hf_T} {P : hf_P} {db : Nat} (h : bk t T P db) : T (db + 19) = (100, 8) := h.2.2.2.2.2.2.2.2.2.2.2.2.2.2.2.2.2.2.2.2.2.1
theorem bk.p0_0 {t : Nat} {T : hf_T} {P : hf_P} {db : Nat} (h : bk t T P db) : P db 0 = some (db + 1) := h.2.2.2.2.2.2.2.2.2.2.2.2.2.2.2.2.2.2.2.2.2.2.1
theorem bk.p0_1 {t : Nat} {T : hf_T} {P : hf_P} {db : Nat} (h : bk t T P db) : P db 1 = some (db + 2) := h.2.2.2.2.2.2.2.2.2.2.2.2.2.2.2.2.2.2.2.2.2.2.2.1
theorem bk.p0_2 {t : Nat} {T : hf_T} {P : hf_P} {db : Nat} (h : bk t T P db) : P db 2 = some (db + 3) := h.2.2.2.2.2.2.2.2.2.2.2.2.2.2.2.2.2.2.2.2.2.2.2.2.1
theorem bk.p0_3 {t : Nat} {T : hf_T} {P : hf_P} {db : Nat} (h : bk t T P db) : P db 3 = some (db + 4) := h.2.2.2.2.2.2.2.2.2.2.2.2.2.2.2.2.2.2.2.2.2.2.2.2.2.1
theorem bk.p0_4 {t : Nat} {T : hf_T} {P : hf_P} {db : Nat} (h : bk t T P db) : P db 4 = some (db + 10) := h.2.2.2.2.2.2.2.2.2.2.2.2.2.2.2.2.2.2.2.2.2.2.2.2.2.2.1
theorem bk.p0_5 {t : Nat} {T : hf_T} {P : hf_P} {db : Nat} (h : bk t T P db) : P db 5 = some (db + 11) := h.2.2.2.2.2.2.2.2.2.2.2.2.2.2.2.2.2.2.2.2.2.2.2.2.2.2.2.1
theorem bk.p0_6 {t : Nat} {T : hf_T} {P : hf_P} {db : Nat} (h : bk t T P db) : P db 6 = some (db + 12) := h.2.2.2.2.2.2.2.2.2.2.2.2.2.2.2.2.2.2.2.2.2.2.2.2.2.2.2.2.1
theorem bk.p0_7 {t : Nat} {T : hf_T} {P : hf_P} {db : Nat} (h : bk t T P db) : P db 7 = some (db + 13) := h.2.2.2.2.2.2.2.2.2.2.2.2.2.2.2.2.2.2.2.2.2.2.2.2.2.2.2.2.2.1
theorem bk.p0_8 {t : Nat} {T : hf_T} {P : hf_P} {db : Nat} (h : bk t T P db) : P db 8 = some (db + 16) := h.2.2.2.2.2.2.2.2.2.2.2.2.2.2.2.2.2.2.2.2.2.2.2.2.2.2.2.2.2.2.1
theorem bk.p0_9 {t : Nat} {T : hf_T} {P : hf_P} {db : Nat} (h : bk t T P db) : P db 9 = some (db + 17) := h.2.2.2.2.2.2.2.2.2.2.2.2.2.2.2.2.2.2.2.2.2.2.2.2.2.2.2.2.2.2.2.1
theorem bk.p0_10 {t : Nat} {T : hf_T} {P : hf_P} {db : Nat} (h : bk t T P db) : P db 10 = some (db + 18) := h.2.2.2.2.2.2.2.2.2.2.2.2.2.2.2.2.2.2.2.2.2.2.2.2.2.2.2.2.2.2.2.2.1
theorem bk.p0_11 {t : Nat} {T : hf_T} {P : hf_P} {db : Nat} (h : bk t T P db) : P db 11 = some (db + 19) := h.2.2.2.2.2.2.2.2.2.2.2.2.2.2.2.2.2.2.2.2.2.2.2.2.2.2.2.2.2.2.2.2.2.1
theorem bk.p4_0 {t : Nat} {T : hf_T} {P : hf_P} {db : Nat} (h : bk t T P db) : P (db + 4) 0 = some (db + 5) := h.2.2.2.2.2.2.2.2.2.2.2.2.2.2.2.2.2.2.2.2.2.2.2.2.2.2.2.2.2.2.2.2.2.2.1
theorem bk.p4_1 {t : Nat} {T : hf_T} {P : hf_P} {db : Nat} (h : bk t T P db) : P (db + 4) 1 = some (db + 6) := h.2.2.2.2.2.2.2.2.2.2.2.2.2.2.2.2.2.2.2.2.2.2.2.2.2.2.2.2.2.2.2.2.2.2.2.1
theorem bk.p4_2 {t : Nat} {T : hf_T} {P : hf_P} {db : Nat} (h : bk t T P db) : P (db + 4) 2 = some (db + 7) := h.2.2.2.2.2.2.2.2.2.2.2.2.2.2.2.2.2.2.2.2.2.2.2.2.2.2.2.2.2.2.2.2.2.2.2.2.1
theorem bk.p4_3 {t : Nat} {T : hf_T} {P : hf_P} {db : Nat} (h : bk t T P db) : P (db + 4) 3 = some (db + 8) := h.2.2.2.2.2.2.2.2.2.2.2.2.2.2.2.2.2.2.2.2.2.2.2.2.2.2.2.2.2.2.2.2.2.2.2.2.2.1
theorem bk.p4_4 {t : Nat} {T : hf_T} {P : hf_P} {db : Nat} (h : bk t T P db) : P (db + 4) 4 = some (db + 9) := h.2.2.2.2.2.2.2.2.2.2.2.2.2.2.2.2.2.2.2.2.2.2.2.2.2.2.2.2.2.2.2.2.2.2.2.2.2.2.1
theorem bk.p13_0 {t : Nat} {T : hf_T} {P : hf_P} {db : Nat} (h : bk t T P db) : P (db + 13) 0 = some (db + 14) := h.2.2.2.2.2.2.2.2.2.2.2.2.2.2.2.2.2.2.2.2.2.2.2.2.2.2.2.2.2.2.2.2.2.2.2.2.2.2.2.1
theorem bk.p13_1 {t : Nat} {T : hf_T} {P : hf_P} {db : Nat} (h : bk t T P db) : P (db + 13) 1 = some (db + 15) := h.2.2.2.2.2.2.2.2.2.2.2.2.2.2.2.2.2.2.2.2.2.2.2.2.2.2.2.2.2.2.2.2.2.2.2.2.2.2.2.2
theorem bk_in {t db : Nat} {T : hf_T} {P : hf_P} (h : bk t T P db) (j : Nat) (hj : j < 20) : 100 ≤ db + j ∧ db + j < 100 + t := by
  have := h.lo
  have := h.hi
  omega
theorem bk_lay {t : Nat} {T : hf_T} {P : hf_P} (hs : hf_Lay t T P) : bk t T P 101 :=
  ⟨by omega, by have := hs.1; omega, hs.2.1 101 _ rfl, hs.2.1 102 _ rfl, hs.2.1 103 _ rfl, hs.2.1 104 _ rfl, hs.2.1 105 _ rfl, hs.2.1 106 _ rfl, hs.2.1 107 _ rfl, hs.2.1 108 _ rfl, hs.2.1 109 _ rfl, hs.2.1 110 _ rfl, hs.2.1 111 _ rfl, hs.2.1 112 _ rfl, hs.2.1 113 _ rfl, hs.2.1 114 _ rfl, hs.2.1 115 _ rfl, hs.2.1 116 _ rfl, hs.2.1 117 _ rfl, hs.2.1 118 _ rfl, hs.2.1 119 _ rfl, hs.2.1 120 _ rfl, hs.2.2 101 0 _ rfl, hs.2.2 101 1 _ rfl, hs.2.2 101 2 _ rfl, hs.2.2 101 3 _ rfl, hs.2.2 101 4 _ rfl, hs.2.2 101 5 _ rfl, hs.2.2 101 6 _ rfl, hs.2.2 101 7 _ rfl, hs.2.2 101 8 _ rfl, hs.2.2 101 9 _ rfl, hs.2.2 101 10 _ rfl, hs.2.2 101 11 _ rfl, hs.2.2 105 0 _ rfl, hs.2.2 105 1 _ rfl, hs.2.2 105 2 _ rfl, hs.2.2 105 3 _ rfl, hs.2.2 105 4 _ rfl, hs.2.2 114 0 _ rfl, hs.2.2 114 1 _ rfl⟩
theorem bk_blk {t e : Nat} {T : hf_T} {P : hf_P} (hs : sl_blk t T P e) : bk t T P (181 + e) :=
  ⟨by omega, by have := hs.1; omega, hs.2.1 0 _ (by decide) rfl, hs.2.1 1 _ (by decide) rfl, hs.2.1 2 _ (by decide) rfl, hs.2.1 3 _ (by decide) rfl, hs.2.1 4 _ (by decide) rfl, hs.2.1 5 _ (by decide) rfl, hs.2.1 6 _ (by decide) rfl, hs.2.1 7 _ (by decide) rfl, hs.2.1 8 _ (by decide) rfl, hs.2.1 9 _ (by decide) rfl, hs.2.1 10 _ (by decide) rfl, hs.2.1 11 _ (by decide) rfl, hs.2.1 12 _ (by decide) rfl, hs.2.1 13 _ (by decide) rfl, hs.2.1 14 _ (by decide) rfl, hs.2.1 15 _ (by decide) rfl, hs.2.1 16 _ (by decide) rfl, hs.2.1 17 _ (by decide) rfl, hs.2.1 18 _ (by decide) rfl, hs.2.1 19 _ (by decide) rfl, hs.2.2 0 0 _ (by decide) rfl, hs.2.2 0 1 _ (by decide) rfl, hs.2.2 0 2 _ (by decide) rfl, hs.2.2 0 3 _ (by decide) rfl, hs.2.2 0 4 _ (by decide) rfl, hs.2.2 0 5 _ (by decide) rfl, hs.2.2 0 6 _ (by decide) rfl, hs.2.2 0 7 _ (by decide) rfl, hs.2.2 0 8 _ (by decide) rfl, hs.2.2 0 9 _ (by decide) rfl, hs.2.2 0 10 _ (by decide) rfl, hs.2.2 0 11 _ (by decide) rfl, hs.2.2 4 0 _ (by decide) rfl, hs.2.2 4 1 _ (by decide) rfl, hs.2.2 4 2 _ (by decide) rfl, hs.2.2 4 3 _ (by decide) rfl, hs.2.2 4 4 _ (by decide) rfl, hs.2.2 13 0 _ (by decide) rfl, hs.2.2 13 1 _ (by decide) rfl⟩
theorem blk_bk {t e : Nat} {T : hf_T} {P : hf_P} (h : bk t T P (181 + e)) : sl_blk t T P e := by
  refine ⟨by have := h.hi; omega, fun j q hj hq => ?_, fun j i b hj hb => ?_⟩
  · match j, hj with
    | 0, _ => exact h.t0.trans (Option.some.inj hq)
    | 1, _ => exact h.t1.trans (Option.some.inj hq)
    | 2, _ => exact h.t2.trans (Option.some.inj hq)
    | 3, _ => exact h.t3.trans (Option.some.inj hq)
    | 4, _ => exact h.t4.trans (Option.some.inj hq)
    | 5, _ => exact h.t5.trans (Option.some.inj hq)
    | 6, _ => exact h.t6.trans (Option.some.inj hq)
    | 7, _ => exact h.t7.trans (Option.some.inj hq)
    | 8, _ => exact h.t8.trans (Option.some.inj hq)
    | 9, _ => exact h.t9.trans (Option.some.inj hq)
    | 10, _ => exact h.t10.trans (Option.some.inj hq)
    | 11, _ => exact h.t11.trans (Option.some.inj hq)
    | 12, _ => exact h.t12.trans (Option.some.inj hq)
    | 13, _ => exact h.t13.trans (Option.some.inj hq)
    | 14, _ => exact h.t14.trans (Option.some.inj hq)
    | 15, _ => exact h.t15.trans (Option.some.inj hq)
    | 16, _ => exact h.t16.trans (Option.some.inj hq)
    | 17, _ => exact h.t17.trans (Option.some.inj hq)
    | 18, _ => exact h.t18.trans (Option.some.inj hq)
    | 19, _ => exact h.t19.trans (Option.some.inj hq)
    | j + 20, hj => exact absurd hj (by omega)
  · match j, hj with
    | 0, _ =>
      match i with
      | 0 => obtain rfl := Option.some.inj (show some 102 = some b from hb); exact h.p0_0
      | 1 => obtain rfl := Option.some.inj (show some 103 = some b from hb); exact h.p0_1
      | 2 => obtain rfl := Option.some.inj (show some 104 = some b from hb); exact h.p0_2
      | 3 => obtain rfl := Option.some.inj (show some 105 = some b from hb); exact h.p0_3
      | 4 => obtain rfl := Option.some.inj (show some 111 = some b from hb); exact h.p0_4
      | 5 => obtain rfl := Option.some.inj (show some 112 = some b from hb); exact h.p0_5
      | 6 => obtain rfl := Option.some.inj (show some 113 = some b from hb); exact h.p0_6
      | 7 => obtain rfl := Option.some.inj (show some 114 = some b from hb); exact h.p0_7
      | 8 => obtain rfl := Option.some.inj (show some 117 = some b from hb); exact h.p0_8
      | 9 => obtain rfl := Option.some.inj (show some 118 = some b from hb); exact h.p0_9
      | 10 => obtain rfl := Option.some.inj (show some 119 = some b from hb); exact h.p0_10
      | 11 => obtain rfl := Option.some.inj (show some 120 = some b from hb); exact h.p0_11
      | i + 12 => exact absurd (show (none : Option Nat) = some b from hb) (by simp)
    | 1, _ => exact absurd (show (none : Option Nat) = some b from hb) (by simp)
    | 2, _ => exact absurd (show (none : Option Nat) = some b from hb) (by simp)
    | 3, _ => exact absurd (show (none : Option Nat) = some b from hb) (by simp)
    | 4, _ =>
      match i with
      | 0 => obtain rfl := Option.some.inj (show some 106 = some b from hb); exact h.p4_0
      | 1 => obtain rfl := Option.some.inj (show some 107 = some b from hb); exact h.p4_1
      | 2 => obtain rfl := Option.some.inj (show some 108 = some b from hb); exact h.p4_2
      | 3 => obtain rfl := Option.some.inj (show some 109 = some b from hb); exact h.p4_3
      | 4 => obtain rfl := Option.some.inj (show some 110 = some b from hb); exact h.p4_4
      | i + 5 => exact absurd (show (none : Option Nat) = some b from hb) (by simp)
    | 5, _ => exact absurd (show (none : Option Nat) = some b from hb) (by simp)
    | 6, _ => exact absurd (show (none : Option Nat) = some b from hb) (by simp)
    | 7, _ => exact absurd (show (none : Option Nat) = some b from hb) (by simp)
    | 8, _ => exact absurd (show (none : Option Nat) = some b from hb) (by simp)
    | 9, _ => exact absurd (show (none : Option Nat) = some b from hb) (by simp)
    | 10, _ => exact absurd (show (none : Option Nat) = some b from hb) (by simp)
    | 11, _ => exact absurd (show (none : Option Nat) = some b from hb) (by simp)
    | 12, _ => exact absurd (show (none : Option Nat) = some b from hb) (by simp)
    | 13, _ =>
      match i with
      | 0 => obtain rfl := Option.some.inj (show some 115 = some b from hb); exact h.p13_0
      | 1 => obtain rfl := Option.some.inj (show some 116 = some b from hb); exact h.p13_1
      | i + 2 => exact absurd (show (none : Option Nat) = some b from hb) (by simp)
    | 14, _ => exact absurd (show (none : Option Nat) = some b from hb) (by simp)
    | 15, _ => exact absurd (show (none : Option Nat) = some b from hb) (by simp)
    | 16, _ => exact absurd (show (none : Option Nat) = some b from hb) (by simp)
    | 17, _ => exact absurd (show (none : Option Nat) = some b from hb) (by simp)
    | 18, _ => exact absurd (show (none : Option Nat) = some b from hb) (by simp)
    | 19, _ => exact absurd (show (none : Option Nat) = some b from hb) (by simp)
    | j + 20, hj => exact absurd hj (by omega)
def tf_c (cs : List (Nat × Nat × Nat)) (j i : Nat) : Bool := cs.any (fun q => decide (q.1 = j ∧ q.2.1 ≤ i ∧ i < q.2.2))
theorem tf_c_cons {cs : List (Nat × Nat × Nat)} {j lo hi j' i : Nat} : tf_c ((j, lo, hi) :: cs) j' i = true ↔ (j = j' ∧ lo ≤ i ∧ i < hi) ∨ tf_c cs j' i = true := by
  unfold tf_c
  rw [List.any_cons, Bool.or_eq_true, decide_eq_true_iff]
def tf_M (sb db : Nat) (cs : List (Nat × Nat × Nat)) (I : hf_I) : hf_I := fun a i => if db ≤ a ∧ a < db + 20 ∧ tf_c cs (a - db) i = true then I (sb + (a - db)) i else I a i
theorem tf_nil {sb db : Nat} {I : hf_I} : tf_M sb db [] I = I := by
  funext a i
  unfold tf_M
  rw [if_neg (fun q => absurd q.2.2 (by simp [tf_c]))]
theorem tf_out {sb db a : Nat} {cs : List (Nat × Nat × Nat)} {I : hf_I} (h : ¬ (db ≤ a ∧ a < db + 20)) : tf_M sb db cs I a = I a := by
  funext i
  unfold tf_M
  rw [if_neg (fun q => h ⟨q.1, q.2.1⟩)]
theorem tf_src {sb db j : Nat} {cs : List (Nat × Nat × Nat)} {I : hf_I} (hj : j < 20) (hd : sb + 20 ≤ db ∨ db + 20 ≤ sb) : tf_M sb db cs I (sb + j) = I (sb + j) := tf_out (by omega)
theorem tf_in {sb db j i : Nat} {cs : List (Nat × Nat × Nat)} {I : hf_I} (hj : j < 20) (h : tf_c cs j i = true) : tf_M sb db cs I (db + j) i = I (sb + j) i := by
  unfold tf_M
  rw [Nat.add_sub_cancel_left, if_pos ⟨by omega, by omega, h⟩]
theorem tf_cons {sb db j lo hi : Nat} {cs : List (Nat × Nat × Nat)} {I J : hf_I} (hj : j < 20) (h1 : ∀ i, lo ≤ i → i < hi → J (db + j) i = I (sb + j) i) (h2 : ∀ i, ¬ (lo ≤ i ∧ i < hi) → J (db + j) i = tf_M sb db cs I (db + j) i) (h3 : ∀ a, ¬ a = db + j → J a = tf_M sb db cs I a) : J = tf_M sb db ((j, lo, hi) :: cs) I := by
  funext a i
  by_cases ha : a = db + j
  · subst ha
    by_cases hi' : lo ≤ i ∧ i < hi
    · rw [h1 i hi'.1 hi'.2, tf_in hj (tf_c_cons.mpr (Or.inl ⟨rfl, hi'⟩))]
    · rw [h2 i hi']
      unfold tf_M
      rw [Nat.add_sub_cancel_left]
      by_cases hc : tf_c cs j i = true
      · rw [if_pos ⟨by omega, by omega, hc⟩, if_pos ⟨by omega, by omega, tf_c_cons.mpr (Or.inr hc)⟩]
      · rw [if_neg (fun q => hc q.2.2), if_neg (fun q => (tf_c_cons.mp q.2.2).elim (fun z => hi' z.2) hc)]
  · rw [h3 a ha]
    unfold tf_M
    by_cases hc : db ≤ a ∧ a < db + 20 ∧ tf_c cs (a - db) i = true
    · rw [if_pos hc, if_pos ⟨hc.1, hc.2.1, tf_c_cons.mpr (Or.inr hc.2.2)⟩]
    · rw [if_neg hc, if_neg (fun q => (tf_c_cons.mp q.2.2).elim (fun z => ha (by omega)) (fun z => hc ⟨q.1, q.2.1, z⟩))]
section TF
variable {X : hf_X} {Y : hf_Y} {d k n pc ix : Nat} {l : List (Option Value)} {st : List Value} {Q : Option Value → hf_M → Prop}
variable {t : Nat} {T : hf_T} {I : hf_I} {L : hf_L} {P : hf_P}
theorem tf_copy {sb db j w kd a b : Nat} {cs : List (Nat × Nat × Nat)} {x : Int32} (ea : a = sb + j) (eb : b = db + j) (hj : j < 20) (hx : x.toNatClampNeg = w) (hx0 : ¬ x < 0) (hdj : sb + 20 ≤ db ∨ db + 20 ≤ sb) (hdg : decode Y.2.1 pc = .ok (.invokestatic ix, 3)) (hw1 : Cond.methodLink Y.1.cls ix arraycopyName ∈ hf_tb) (hTa : T a = (kd, w)) (hTb : T b = (kd, w)) (ha : 100 ≤ a ∧ a < 100 + t) (hb : 100 ≤ b ∧ b < 100 + t) (hkd : kd = 100 ∨ (kd = 101 ∧ ∀ i, i < w → fits .byte (.int (I (sb + j) i)) = true)) (hroom : (st.map fun v => v.category).sum ≤ 8)
    (h : hf_G X Y (d + 1) k n (pc + 3) l st (t, T, tf_M sb db ((j, 0, w) :: cs) I, L, P) Q) : hf_G X Y (d + 1) k n pc l (.int x :: .int 0 :: .ref b :: .int 0 :: .ref a :: st) (t, T, tf_M sb db cs I, L, P) Q := by
  subst ea eb
  have h0 : (0 : Int32).toNatClampNeg = 0 := rfl
  refine hf_copy (kb := kd - 100) hdg hw1 hw_cpn hw_cps hw_cpi hTa hTb ha hb (by rcases hkd with e | ⟨e, -⟩ <;> subst e <;> decide) (by decide) (by decide) hx0 (by rw [h0]; omega) (by rw [h0]; omega) (fun q i hi => ?_) hroom ?_
  · rcases hkd with e | ⟨-, hf⟩
    · omega
    · rw [tf_src hj hdj, h0, Nat.zero_add]
      exact hf i (by omega)
  · have e : (fun q => if q = db + j then va_cpy (tf_M sb db cs I (sb + j)) (tf_M sb db cs I (db + j)) (0 : Int32).toNatClampNeg (0 : Int32).toNatClampNeg x.toNatClampNeg else tf_M sb db cs I q) = tf_M sb db ((j, 0, w) :: cs) I := by
      rw [h0, hx]
      refine tf_cons hj (fun i _ hi => ?_) (fun i hi => ?_) (fun a ha => ?_)
      · show (if db + j = db + j then va_cpy _ _ 0 0 w else _) i = _
        rw [if_pos rfl, tf_src hj hdj]
        show (if _ then _ else _) = _
        rw [if_pos (by omega)]
        congr 1
        omega
      · show (if db + j = db + j then va_cpy _ _ 0 0 w else _) i = _
        rw [if_pos rfl]
        show (if _ then _ else _) = _
        rw [if_neg (by omega)]
      · show (if a = db + j then _ else _) = _
        rw [if_neg ha]
    rw [e]
    exact h
theorem tf_upG {sb db j i b : Nat} {cs : List (Nat × Nat × Nat)} {v : Int32} (eb : b = db + j) (hj : j < 20) (hdj : sb + 20 ≤ db ∨ db + 20 ≤ sb) (ev : v = tf_M sb db cs I (sb + j) i) (h : hf_G X Y d k n pc l st (t, T, tf_M sb db ((j, i, i + 1) :: cs) I, L, P) Q) : hf_G X Y d k n pc l st (t, T, hf_up (tf_M sb db cs I) b i v, L, P) Q := by
  subst eb ev
  have e : hf_up (tf_M sb db cs I) (db + j) i (tf_M sb db cs I (sb + j) i) = tf_M sb db ((j, i, i + 1) :: cs) I := by
    refine tf_cons hj (fun q h1 h2 => ?_) (fun q hq => ?_) (fun a ha => hf_up_no ha)
    · obtain rfl : q = i := by omega
      rw [hf_up_at, hf_upd_eq, tf_src hj hdj]
    · rw [hf_up_at, hf_upd_ne (by omega)]
  rw [e]
  exact h
end TF
set_option maxHeartbeats 4000000 in
theorem w_X1_takeFrom_0_t {X : hf_X} {d k n t : Nat} {T : hf_T} {I : hf_I} {L : hf_L} {P : hf_P} {Q : Option Value → hf_M → Prop}  {sb db : Nat} {cs : List (Nat × Nat × Nat)} (hdj : sb + 20 ≤ db ∨ db + 20 ≤ sb) (hd : bk t T P db) (ho : bk t T P sb) (hby : S_by (I (sb + 9))) (h : hf_G X Y_X1_takeFrom (d + 2) k n 57 [some (.ref db), some (.ref sb), some (.int 0)] [] (t, T, (tf_M sb db ((4, 5, 5 + 1) :: ((9, 0, 144) :: ((8, 0, 16) :: ((7, 0, 16) :: ((6, 0, 16) :: ((5, 0, 16) :: ((3, 0, 2) :: ((2, 0, 8) :: ((1, 0, 27) :: cs))))))))) I), L, P) Q) : hf_G X Y_X1_takeFrom (d + 2) k n 0 (hf_en [.ref db, .ref sb] 3) [] (t, T, tf_M sb db cs I, L, P) Q := by
  show hf_G X Y_X1_takeFrom (d + 2) k n 0 [some (.ref db), some (.ref sb), none] [] (t, T, tf_M sb db cs I, L, P) Q
  refine hf_aload_n dX1_takeFrom_0 rfl rfl ?_
  refine hf_getr (b := (sb + 1)) (c := 1) (j := 0) dX1_takeFrom_1 ho.t0 (bk_in ho 0 (by decide)) (by decide) (by decide) hw99 rfl ho.p0_0 ?_
  refine hf_iconst (v := 0) dX1_takeFrom_4 (by decide) ?_
  refine hf_aload_n dX1_takeFrom_5 rfl rfl ?_
  refine hf_getr (b := (db + 1)) (c := 1) (j := 0) dX1_takeFrom_6 hd.t0 (bk_in hd 0 (by decide)) (by decide) (by decide) hw99 rfl hd.p0_0 ?_
  refine hf_iconst (v := 0) dX1_takeFrom_9 (by decide) ?_
  refine hf_bipush (v := 27) dX1_takeFrom_10 (by decide) ?_
  refine tf_copy (j := 1) (w := 27) (kd := 100) rfl rfl (by decide) rfl (by decide) hdj dX1_takeFrom_12 hw1011 ho.t1 hd.t1 (bk_in ho 1 (by decide)) (bk_in hd 1 (by decide)) (Or.inl rfl) (Nat.le_of_ble_eq_true rfl) ?_
  refine hf_aload_n dX1_takeFrom_15 rfl rfl ?_
  refine hf_getr (b := (sb + 2)) (c := 1) (j := 1) dX1_takeFrom_16 ho.t0 (bk_in ho 0 (by decide)) (by decide) (by decide) hw101 rfl ho.p0_1 ?_
  refine hf_iconst (v := 0) dX1_takeFrom_19 (by decide) ?_
  refine hf_aload_n dX1_takeFrom_20 rfl rfl ?_
  refine hf_getr (b := (db + 2)) (c := 1) (j := 1) dX1_takeFrom_21 hd.t0 (bk_in hd 0 (by decide)) (by decide) (by decide) hw101 rfl hd.p0_1 ?_
  refine hf_iconst (v := 0) dX1_takeFrom_24 (by decide) ?_
  refine hf_bipush (v := 8) dX1_takeFrom_25 (by decide) ?_
  refine tf_copy (j := 2) (w := 8) (kd := 100) rfl rfl (by decide) rfl (by decide) hdj dX1_takeFrom_27 hw1011 ho.t2 hd.t2 (bk_in ho 2 (by decide)) (bk_in hd 2 (by decide)) (Or.inl rfl) (Nat.le_of_ble_eq_true rfl) ?_
  refine hf_aload_n dX1_takeFrom_30 rfl rfl ?_
  refine hf_getr (b := (sb + 3)) (c := 1) (j := 2) dX1_takeFrom_31 ho.t0 (bk_in ho 0 (by decide)) (by decide) (by decide) hw104 rfl ho.p0_2 ?_
  refine hf_iconst (v := 0) dX1_takeFrom_34 (by decide) ?_
  refine hf_aload_n dX1_takeFrom_35 rfl rfl ?_
  refine hf_getr (b := (db + 3)) (c := 1) (j := 2) dX1_takeFrom_36 hd.t0 (bk_in hd 0 (by decide)) (by decide) (by decide) hw104 rfl hd.p0_2 ?_
  refine hf_iconst (v := 0) dX1_takeFrom_39 (by decide) ?_
  refine hf_iconst (v := 2) dX1_takeFrom_40 (by decide) ?_
  refine tf_copy (j := 3) (w := 2) (kd := 100) rfl rfl (by decide) rfl (by decide) hdj dX1_takeFrom_41 hw1011 ho.t3 hd.t3 (bk_in ho 3 (by decide)) (bk_in hd 3 (by decide)) (Or.inl rfl) (Nat.le_of_ble_eq_true rfl) ?_
  refine hf_aload_n dX1_takeFrom_44 rfl rfl ?_
  refine hf_getr (b := (db + 4)) (c := 1) (j := 3) dX1_takeFrom_45 hd.t0 (bk_in hd 0 (by decide)) (by decide) (by decide) hw107 rfl hd.p0_3 ?_
  refine hf_aload_n dX1_takeFrom_48 rfl rfl ?_
  refine hf_getr (b := (sb + 4)) (c := 1) (j := 3) dX1_takeFrom_49 ho.t0 (bk_in ho 0 (by decide)) (by decide) (by decide) hw107 rfl ho.p0_3 ?_
  refine hf_callV (c := 10) (as := [.ref (sb + 4)]) ok_X10_takeFrom dX1_takeFrom_52 hw1012 hw1013 hw1014 hd.t4 (by decide) (bk_in hd 4 (by decide)) rfl (Nat.le_of_ble_eq_true rfl) rfl (Nat.le_of_ble_eq_true rfl) (Nat.zero_le _) (Nat.zero_le _) ?_
  show hf_G X Y_X10_takeFrom (d + 1) _ _ 0 [some (.ref (db + 4)), some (.ref (sb + 4))] [] (t, T, (tf_M sb db ((3, 0, 2) :: ((2, 0, 8) :: ((1, 0, 27) :: cs))) I), L, P) _
  refine hf_aload_n dX10_takeFrom_0 rfl rfl ?_
  refine hf_getr (b := (sb + 5)) (c := 10) (j := 0) dX10_takeFrom_1 ho.t4 (bk_in ho 4 (by decide)) (by decide) (by decide) hw42 rfl ho.p4_0 ?_
  refine hf_iconst (v := 0) dX10_takeFrom_4 (by decide) ?_
  refine hf_aload_n dX10_takeFrom_5 rfl rfl ?_
  refine hf_getr (b := (db + 5)) (c := 10) (j := 0) dX10_takeFrom_6 hd.t4 (bk_in hd 4 (by decide)) (by decide) (by decide) hw42 rfl hd.p4_0 ?_
  refine hf_iconst (v := 0) dX10_takeFrom_9 (by decide) ?_
  refine hf_bipush (v := 16) dX10_takeFrom_10 (by decide) ?_
  refine tf_copy (j := 5) (w := 16) (kd := 100) rfl rfl (by decide) rfl (by decide) hdj dX10_takeFrom_12 hw1016 ho.t5 hd.t5 (bk_in ho 5 (by decide)) (bk_in hd 5 (by decide)) (Or.inl rfl) (Nat.le_of_ble_eq_true rfl) ?_
  refine hf_aload_n dX10_takeFrom_15 rfl rfl ?_
  refine hf_getr (b := (sb + 6)) (c := 10) (j := 1) dX10_takeFrom_16 ho.t4 (bk_in ho 4 (by decide)) (by decide) (by decide) hw47 rfl ho.p4_1 ?_
  refine hf_iconst (v := 0) dX10_takeFrom_19 (by decide) ?_
  refine hf_aload_n dX10_takeFrom_20 rfl rfl ?_
  refine hf_getr (b := (db + 6)) (c := 10) (j := 1) dX10_takeFrom_21 hd.t4 (bk_in hd 4 (by decide)) (by decide) (by decide) hw47 rfl hd.p4_1 ?_
  refine hf_iconst (v := 0) dX10_takeFrom_24 (by decide) ?_
  refine hf_bipush (v := 16) dX10_takeFrom_25 (by decide) ?_
  refine tf_copy (j := 6) (w := 16) (kd := 100) rfl rfl (by decide) rfl (by decide) hdj dX10_takeFrom_27 hw1016 ho.t6 hd.t6 (bk_in ho 6 (by decide)) (bk_in hd 6 (by decide)) (Or.inl rfl) (Nat.le_of_ble_eq_true rfl) ?_
  refine hf_aload_n dX10_takeFrom_30 rfl rfl ?_
  refine hf_getr (b := (sb + 7)) (c := 10) (j := 2) dX10_takeFrom_31 ho.t4 (bk_in ho 4 (by decide)) (by decide) (by decide) hw50 rfl ho.p4_2 ?_
  refine hf_iconst (v := 0) dX10_takeFrom_34 (by decide) ?_
  refine hf_aload_n dX10_takeFrom_35 rfl rfl ?_
  refine hf_getr (b := (db + 7)) (c := 10) (j := 2) dX10_takeFrom_36 hd.t4 (bk_in hd 4 (by decide)) (by decide) (by decide) hw50 rfl hd.p4_2 ?_
  refine hf_iconst (v := 0) dX10_takeFrom_39 (by decide) ?_
  refine hf_bipush (v := 16) dX10_takeFrom_40 (by decide) ?_
  refine tf_copy (j := 7) (w := 16) (kd := 100) rfl rfl (by decide) rfl (by decide) hdj dX10_takeFrom_42 hw1016 ho.t7 hd.t7 (bk_in ho 7 (by decide)) (bk_in hd 7 (by decide)) (Or.inl rfl) (Nat.le_of_ble_eq_true rfl) ?_
  refine hf_aload_n dX10_takeFrom_45 rfl rfl ?_
  refine hf_getr (b := (sb + 8)) (c := 10) (j := 3) dX10_takeFrom_46 ho.t4 (bk_in ho 4 (by decide)) (by decide) (by decide) hw55 rfl ho.p4_3 ?_
  refine hf_iconst (v := 0) dX10_takeFrom_49 (by decide) ?_
  refine hf_aload_n dX10_takeFrom_50 rfl rfl ?_
  refine hf_getr (b := (db + 8)) (c := 10) (j := 3) dX10_takeFrom_51 hd.t4 (bk_in hd 4 (by decide)) (by decide) (by decide) hw55 rfl hd.p4_3 ?_
  refine hf_iconst (v := 0) dX10_takeFrom_54 (by decide) ?_
  refine hf_bipush (v := 16) dX10_takeFrom_55 (by decide) ?_
  refine tf_copy (j := 8) (w := 16) (kd := 100) rfl rfl (by decide) rfl (by decide) hdj dX10_takeFrom_57 hw1016 ho.t8 hd.t8 (bk_in ho 8 (by decide)) (bk_in hd 8 (by decide)) (Or.inl rfl) (Nat.le_of_ble_eq_true rfl) ?_
  refine hf_aload_n dX10_takeFrom_60 rfl rfl ?_
  refine hf_getr (b := (sb + 9)) (c := 10) (j := 4) dX10_takeFrom_61 ho.t4 (bk_in ho 4 (by decide)) (by decide) (by decide) hw59 rfl ho.p4_4 ?_
  refine hf_iconst (v := 0) dX10_takeFrom_64 (by decide) ?_
  refine hf_aload_n dX10_takeFrom_65 rfl rfl ?_
  refine hf_getr (b := (db + 9)) (c := 10) (j := 4) dX10_takeFrom_66 hd.t4 (bk_in hd 4 (by decide)) (by decide) (by decide) hw59 rfl hd.p4_4 ?_
  refine hf_iconst (v := 0) dX10_takeFrom_69 (by decide) ?_
  refine hf_sipush (v := 144) dX10_takeFrom_70 (by decide) ?_
  refine tf_copy (j := 9) (w := 144) (kd := 101) rfl rfl (by decide) rfl (by decide) hdj dX10_takeFrom_73 hw1016 ho.t9 hd.t9 (bk_in ho 9 (by decide)) (bk_in hd 9 (by decide)) (Or.inr ⟨rfl, hby⟩) (Nat.le_of_ble_eq_true rfl) ?_
  refine hf_aload_n dX10_takeFrom_76 rfl rfl ?_
  refine hf_aload_n dX10_takeFrom_77 rfl rfl ?_
  refine hf_geti (c := 10) (j := 5) dX10_takeFrom_78 ho.t4 (bk_in ho 4 (by decide)) (by decide) (by decide) hw61 (Or.inl rfl) ?_
  refine hf_puti (c := 10) (j := 5) dX10_takeFrom_81 hd.t4 (bk_in hd 4 (by decide)) (by decide) (by decide) hw61 rfl rfl ?_
  refine tf_upG (j := 4) rfl (by decide) hdj rfl ?_
  refine hf_return dX10_takeFrom_84 rfl ?_
  show hf_G X Y_X1_takeFrom (d + 2) _ _ 55 [some (.ref db), some (.ref sb), none] [] (t, T, (tf_M sb db ((4, 5, 5 + 1) :: ((9, 0, 144) :: ((8, 0, 16) :: ((7, 0, 16) :: ((6, 0, 16) :: ((5, 0, 16) :: ((3, 0, 2) :: ((2, 0, 8) :: ((1, 0, 27) :: cs))))))))) I), L, P) _
  refine hf_iconst (v := 0) dX1_takeFrom_55 (by decide) ?_
  refine hf_istore_n (l2 := [some (.ref db), some (.ref sb), some (.int 0)]) dX1_takeFrom_56 rfl (by decide) rfl ?_
  exact h

set_option maxHeartbeats 4000000 in
theorem w_X1_takeFrom_57_t {X : hf_X} {d k n t : Nat} {T : hf_T} {I : hf_I} {L : hf_L} {P : hf_P} {Q : Option Value → hf_M → Prop} {i : Int32} {sb db : Nat} {cs : List (Nat × Nat × Nat)} (hdj : sb + 20 ≤ db ∨ db + 20 ≤ sb) (hd : bk t T P db) (ho : bk t T P sb) (hby : S_by (I (sb + 9))) (h : (6 ≤ i → Q none (t, T, (tf_M sb db ((0, 19, 19 + 1) :: ((0, 18, 18 + 1) :: ((0, 17, 17 + 1) :: ((0, 16, 16 + 1) :: ((0, 15, 15 + 1) :: ((0, 14, 14 + 1) :: ((0, 13, 13 + 1) :: ((0, 12, 12 + 1) :: ((19, 0, 8) :: ((18, 0, 8) :: ((17, 0, 8) :: ((16, 0, 8) :: ((13, 3, 3 + 1) :: ((13, 2, 2 + 1) :: ((15, 0, 12) :: ((14, 0, 12) :: ((12, 0, 4) :: ((11, 0, 6) :: cs)))))))))))))))))) I), L, P)) ∧ (¬ (6 ≤ i) → (vp_in i 6 ∧ (P (sb + 10) i.toNatClampNeg = none ∨ ∃ b, P (sb + 10) i.toNatClampNeg = some b ∧ T b = (9, 0) ∧ 100 ≤ b ∧ b < 100 + t)) ∧ (hf_G X Y_X1_takeFrom (d + 2) k n 57 [some (.ref db), some (.ref sb), some (.int (i + 1))] [] (t, T, (tf_M sb db cs I), L, (hf_upP P (db + 10) i.toNatClampNeg (P (sb + 10) i.toNatClampNeg))) Q))) : hf_G X Y_X1_takeFrom (d + 2) k n 57 [some (.ref db), some (.ref sb), some (.int i)] [] (t, T, tf_M sb db cs I, L, P) Q := by
  refine hf_iload_n dX1_takeFrom_57 rfl rfl ?_
  refine hf_bipush (v := 6) dX1_takeFrom_58 (by decide) ?_
  refine hf_icmp_ge (tgt := 81) dX1_takeFrom_60 (by decide) (fun hc => ?_) (fun hc => ?_)
  · replace h := h.1 hc
    refine hf_aload_n dX1_takeFrom_81 rfl rfl ?_
    refine hf_getr (b := (sb + 11)) (c := 1) (j := 5) dX1_takeFrom_82 ho.t0 (bk_in ho 0 (by decide)) (by decide) (by decide) hw115 rfl ho.p0_5 ?_
    refine hf_iconst (v := 0) dX1_takeFrom_85 (by decide) ?_
    refine hf_aload_n dX1_takeFrom_86 rfl rfl ?_
    refine hf_getr (b := (db + 11)) (c := 1) (j := 5) dX1_takeFrom_87 hd.t0 (bk_in hd 0 (by decide)) (by decide) (by decide) hw115 rfl hd.p0_5 ?_
    refine hf_iconst (v := 0) dX1_takeFrom_90 (by decide) ?_
    refine hf_bipush (v := 6) dX1_takeFrom_91 (by decide) ?_
    refine tf_copy (j := 11) (w := 6) (kd := 100) rfl rfl (by decide) rfl (by decide) hdj dX1_takeFrom_93 hw1011 ho.t11 hd.t11 (bk_in ho 11 (by decide)) (bk_in hd 11 (by decide)) (Or.inl rfl) (Nat.le_of_ble_eq_true rfl) ?_
    refine hf_aload_n dX1_takeFrom_96 rfl rfl ?_
    refine hf_getr (b := (sb + 12)) (c := 1) (j := 6) dX1_takeFrom_97 ho.t0 (bk_in ho 0 (by decide)) (by decide) (by decide) hw118 rfl ho.p0_6 ?_
    refine hf_iconst (v := 0) dX1_takeFrom_100 (by decide) ?_
    refine hf_aload_n dX1_takeFrom_101 rfl rfl ?_
    refine hf_getr (b := (db + 12)) (c := 1) (j := 6) dX1_takeFrom_102 hd.t0 (bk_in hd 0 (by decide)) (by decide) (by decide) hw118 rfl hd.p0_6 ?_
    refine hf_iconst (v := 0) dX1_takeFrom_105 (by decide) ?_
    refine hf_iconst (v := 4) dX1_takeFrom_106 (by decide) ?_
    refine tf_copy (j := 12) (w := 4) (kd := 100) rfl rfl (by decide) rfl (by decide) hdj dX1_takeFrom_107 hw1011 ho.t12 hd.t12 (bk_in ho 12 (by decide)) (bk_in hd 12 (by decide)) (Or.inl rfl) (Nat.le_of_ble_eq_true rfl) ?_
    refine hf_aload_n dX1_takeFrom_110 rfl rfl ?_
    refine hf_getr (b := (db + 13)) (c := 1) (j := 7) dX1_takeFrom_111 hd.t0 (bk_in hd 0 (by decide)) (by decide) (by decide) hw121 rfl hd.p0_7 ?_
    refine hf_aload_n dX1_takeFrom_114 rfl rfl ?_
    refine hf_getr (b := (sb + 13)) (c := 1) (j := 7) dX1_takeFrom_115 ho.t0 (bk_in ho 0 (by decide)) (by decide) (by decide) hw121 rfl ho.p0_7 ?_
    refine hf_callV (c := 3) (as := [.ref (sb + 13)]) ok_X3_takeFrom dX1_takeFrom_118 hw1017 hw677 hw678 hd.t13 (by decide) (bk_in hd 13 (by decide)) rfl (Nat.le_of_ble_eq_true rfl) rfl (Nat.le_of_ble_eq_true rfl) (Nat.zero_le _) (Nat.zero_le _) ?_
    show hf_G X Y_X3_takeFrom (d + 1) _ _ 0 [some (.ref (db + 13)), some (.ref (sb + 13))] [] (t, T, (tf_M sb db ((12, 0, 4) :: ((11, 0, 6) :: cs)) I), L, P) _
    refine hf_aload_n dX3_takeFrom_0 rfl rfl ?_
    refine hf_getr (b := (sb + 14)) (c := 3) (j := 0) dX3_takeFrom_1 ho.t13 (bk_in ho 13 (by decide)) (by decide) (by decide) hw78 rfl ho.p13_0 ?_
    refine hf_iconst (v := 0) dX3_takeFrom_4 (by decide) ?_
    refine hf_aload_n dX3_takeFrom_5 rfl rfl ?_
    refine hf_getr (b := (db + 14)) (c := 3) (j := 0) dX3_takeFrom_6 hd.t13 (bk_in hd 13 (by decide)) (by decide) (by decide) hw78 rfl hd.p13_0 ?_
    refine hf_iconst (v := 0) dX3_takeFrom_9 (by decide) ?_
    refine hf_bipush (v := 12) dX3_takeFrom_10 (by decide) ?_
    refine tf_copy (j := 14) (w := 12) (kd := 100) rfl rfl (by decide) rfl (by decide) hdj dX3_takeFrom_12 hw680 ho.t14 hd.t14 (bk_in ho 14 (by decide)) (bk_in hd 14 (by decide)) (Or.inl rfl) (Nat.le_of_ble_eq_true rfl) ?_
    refine hf_aload_n dX3_takeFrom_15 rfl rfl ?_
    refine hf_getr (b := (sb + 15)) (c := 3) (j := 1) dX3_takeFrom_16 ho.t13 (bk_in ho 13 (by decide)) (by decide) (by decide) hw83 rfl ho.p13_1 ?_
    refine hf_iconst (v := 0) dX3_takeFrom_19 (by decide) ?_
    refine hf_aload_n dX3_takeFrom_20 rfl rfl ?_
    refine hf_getr (b := (db + 15)) (c := 3) (j := 1) dX3_takeFrom_21 hd.t13 (bk_in hd 13 (by decide)) (by decide) (by decide) hw83 rfl hd.p13_1 ?_
    refine hf_iconst (v := 0) dX3_takeFrom_24 (by decide) ?_
    refine hf_bipush (v := 12) dX3_takeFrom_25 (by decide) ?_
    refine tf_copy (j := 15) (w := 12) (kd := 100) rfl rfl (by decide) rfl (by decide) hdj dX3_takeFrom_27 hw680 ho.t15 hd.t15 (bk_in ho 15 (by decide)) (bk_in hd 15 (by decide)) (Or.inl rfl) (Nat.le_of_ble_eq_true rfl) ?_
    refine hf_aload_n dX3_takeFrom_30 rfl rfl ?_
    refine hf_aload_n dX3_takeFrom_31 rfl rfl ?_
    refine hf_geti (c := 3) (j := 2) dX3_takeFrom_32 ho.t13 (bk_in ho 13 (by decide)) (by decide) (by decide) hw87 (Or.inl rfl) ?_
    refine hf_puti (c := 3) (j := 2) dX3_takeFrom_35 hd.t13 (bk_in hd 13 (by decide)) (by decide) (by decide) hw87 rfl rfl ?_
    refine tf_upG (j := 13) rfl (by decide) hdj rfl ?_
    refine hf_aload_n dX3_takeFrom_38 rfl rfl ?_
    refine hf_aload_n dX3_takeFrom_39 rfl rfl ?_
    refine hf_geti (c := 3) (j := 3) dX3_takeFrom_40 ho.t13 (bk_in ho 13 (by decide)) (by decide) (by decide) hw92 (Or.inl rfl) ?_
    refine hf_puti (c := 3) (j := 3) dX3_takeFrom_43 hd.t13 (bk_in hd 13 (by decide)) (by decide) (by decide) hw92 rfl rfl ?_
    refine tf_upG (j := 13) rfl (by decide) hdj rfl ?_
    refine hf_return dX3_takeFrom_46 rfl ?_
    show hf_G X Y_X1_takeFrom (d + 2) _ _ 121 [some (.ref db), some (.ref sb), some (.int i)] [] (t, T, (tf_M sb db ((13, 3, 3 + 1) :: ((13, 2, 2 + 1) :: ((15, 0, 12) :: ((14, 0, 12) :: ((12, 0, 4) :: ((11, 0, 6) :: cs)))))) I), L, P) _
    refine hf_aload_n dX1_takeFrom_121 rfl rfl ?_
    refine hf_getr (b := (sb + 16)) (c := 1) (j := 8) dX1_takeFrom_122 ho.t0 (bk_in ho 0 (by decide)) (by decide) (by decide) hw125 rfl ho.p0_8 ?_
    refine hf_iconst (v := 0) dX1_takeFrom_125 (by decide) ?_
    refine hf_aload_n dX1_takeFrom_126 rfl rfl ?_
    refine hf_getr (b := (db + 16)) (c := 1) (j := 8) dX1_takeFrom_127 hd.t0 (bk_in hd 0 (by decide)) (by decide) (by decide) hw125 rfl hd.p0_8 ?_
    refine hf_iconst (v := 0) dX1_takeFrom_130 (by decide) ?_
    refine hf_bipush (v := 8) dX1_takeFrom_131 (by decide) ?_
    refine tf_copy (j := 16) (w := 8) (kd := 100) rfl rfl (by decide) rfl (by decide) hdj dX1_takeFrom_133 hw1011 ho.t16 hd.t16 (bk_in ho 16 (by decide)) (bk_in hd 16 (by decide)) (Or.inl rfl) (Nat.le_of_ble_eq_true rfl) ?_
    refine hf_aload_n dX1_takeFrom_136 rfl rfl ?_
    refine hf_getr (b := (sb + 17)) (c := 1) (j := 9) dX1_takeFrom_137 ho.t0 (bk_in ho 0 (by decide)) (by decide) (by decide) hw127 rfl ho.p0_9 ?_
    refine hf_iconst (v := 0) dX1_takeFrom_140 (by decide) ?_
    refine hf_aload_n dX1_takeFrom_141 rfl rfl ?_
    refine hf_getr (b := (db + 17)) (c := 1) (j := 9) dX1_takeFrom_142 hd.t0 (bk_in hd 0 (by decide)) (by decide) (by decide) hw127 rfl hd.p0_9 ?_
    refine hf_iconst (v := 0) dX1_takeFrom_145 (by decide) ?_
    refine hf_bipush (v := 8) dX1_takeFrom_146 (by decide) ?_
    refine tf_copy (j := 17) (w := 8) (kd := 100) rfl rfl (by decide) rfl (by decide) hdj dX1_takeFrom_148 hw1011 ho.t17 hd.t17 (bk_in ho 17 (by decide)) (bk_in hd 17 (by decide)) (Or.inl rfl) (Nat.le_of_ble_eq_true rfl) ?_
    refine hf_aload_n dX1_takeFrom_151 rfl rfl ?_
    refine hf_getr (b := (sb + 18)) (c := 1) (j := 10) dX1_takeFrom_152 ho.t0 (bk_in ho 0 (by decide)) (by decide) (by decide) hw130 rfl ho.p0_10 ?_
    refine hf_iconst (v := 0) dX1_takeFrom_155 (by decide) ?_
    refine hf_aload_n dX1_takeFrom_156 rfl rfl ?_
    refine hf_getr (b := (db + 18)) (c := 1) (j := 10) dX1_takeFrom_157 hd.t0 (bk_in hd 0 (by decide)) (by decide) (by decide) hw130 rfl hd.p0_10 ?_
    refine hf_iconst (v := 0) dX1_takeFrom_160 (by decide) ?_
    refine hf_bipush (v := 8) dX1_takeFrom_161 (by decide) ?_
    refine tf_copy (j := 18) (w := 8) (kd := 100) rfl rfl (by decide) rfl (by decide) hdj dX1_takeFrom_163 hw1011 ho.t18 hd.t18 (bk_in ho 18 (by decide)) (bk_in hd 18 (by decide)) (Or.inl rfl) (Nat.le_of_ble_eq_true rfl) ?_
    refine hf_aload_n dX1_takeFrom_166 rfl rfl ?_
    refine hf_getr (b := (sb + 19)) (c := 1) (j := 11) dX1_takeFrom_167 ho.t0 (bk_in ho 0 (by decide)) (by decide) (by decide) hw133 rfl ho.p0_11 ?_
    refine hf_iconst (v := 0) dX1_takeFrom_170 (by decide) ?_
    refine hf_aload_n dX1_takeFrom_171 rfl rfl ?_
    refine hf_getr (b := (db + 19)) (c := 1) (j := 11) dX1_takeFrom_172 hd.t0 (bk_in hd 0 (by decide)) (by decide) (by decide) hw133 rfl hd.p0_11 ?_
    refine hf_iconst (v := 0) dX1_takeFrom_175 (by decide) ?_
    refine hf_bipush (v := 8) dX1_takeFrom_176 (by decide) ?_
    refine tf_copy (j := 19) (w := 8) (kd := 100) rfl rfl (by decide) rfl (by decide) hdj dX1_takeFrom_178 hw1011 ho.t19 hd.t19 (bk_in ho 19 (by decide)) (bk_in hd 19 (by decide)) (Or.inl rfl) (Nat.le_of_ble_eq_true rfl) ?_
    refine hf_aload_n dX1_takeFrom_181 rfl rfl ?_
    refine hf_aload_n dX1_takeFrom_182 rfl rfl ?_
    refine hf_geti (c := 1) (j := 12) dX1_takeFrom_183 ho.t0 (bk_in ho 0 (by decide)) (by decide) (by decide) hw136 (Or.inl rfl) ?_
    refine hf_puti (c := 1) (j := 12) dX1_takeFrom_186 hd.t0 (bk_in hd 0 (by decide)) (by decide) (by decide) hw136 rfl rfl ?_
    refine tf_upG (j := 0) rfl (by decide) hdj rfl ?_
    refine hf_aload_n dX1_takeFrom_189 rfl rfl ?_
    refine hf_aload_n dX1_takeFrom_190 rfl rfl ?_
    refine hf_geti (c := 1) (j := 13) dX1_takeFrom_191 ho.t0 (bk_in ho 0 (by decide)) (by decide) (by decide) hw140 (Or.inl rfl) ?_
    refine hf_puti (c := 1) (j := 13) dX1_takeFrom_194 hd.t0 (bk_in hd 0 (by decide)) (by decide) (by decide) hw140 rfl rfl ?_
    refine tf_upG (j := 0) rfl (by decide) hdj rfl ?_
    refine hf_aload_n dX1_takeFrom_197 rfl rfl ?_
    refine hf_aload_n dX1_takeFrom_198 rfl rfl ?_
    refine hf_geti (c := 1) (j := 14) dX1_takeFrom_199 ho.t0 (bk_in ho 0 (by decide)) (by decide) (by decide) hw143 (Or.inl rfl) ?_
    refine hf_puti (c := 1) (j := 14) dX1_takeFrom_202 hd.t0 (bk_in hd 0 (by decide)) (by decide) (by decide) hw143 rfl rfl ?_
    refine tf_upG (j := 0) rfl (by decide) hdj rfl ?_
    refine hf_aload_n dX1_takeFrom_205 rfl rfl ?_
    refine hf_aload_n dX1_takeFrom_206 rfl rfl ?_
    refine hf_geti (c := 1) (j := 15) dX1_takeFrom_207 ho.t0 (bk_in ho 0 (by decide)) (by decide) (by decide) hw147 (Or.inl rfl) ?_
    refine hf_puti (c := 1) (j := 15) dX1_takeFrom_210 hd.t0 (bk_in hd 0 (by decide)) (by decide) (by decide) hw147 rfl rfl ?_
    refine tf_upG (j := 0) rfl (by decide) hdj rfl ?_
    refine hf_aload_n dX1_takeFrom_213 rfl rfl ?_
    refine hf_aload_n dX1_takeFrom_214 rfl rfl ?_
    refine hf_geti (c := 1) (j := 16) dX1_takeFrom_215 ho.t0 (bk_in ho 0 (by decide)) (by decide) (by decide) hw150 (Or.inl rfl) ?_
    refine hf_puti (c := 1) (j := 16) dX1_takeFrom_218 hd.t0 (bk_in hd 0 (by decide)) (by decide) (by decide) hw150 rfl rfl ?_
    refine tf_upG (j := 0) rfl (by decide) hdj rfl ?_
    refine hf_aload_n dX1_takeFrom_221 rfl rfl ?_
    refine hf_aload_n dX1_takeFrom_222 rfl rfl ?_
    refine hf_geti (c := 1) (j := 17) dX1_takeFrom_223 ho.t0 (bk_in ho 0 (by decide)) (by decide) (by decide) hw153 (Or.inl rfl) ?_
    refine hf_puti (c := 1) (j := 17) dX1_takeFrom_226 hd.t0 (bk_in hd 0 (by decide)) (by decide) (by decide) hw153 rfl rfl ?_
    refine tf_upG (j := 0) rfl (by decide) hdj rfl ?_
    refine hf_aload_n dX1_takeFrom_229 rfl rfl ?_
    refine hf_aload_n dX1_takeFrom_230 rfl rfl ?_
    refine hf_geti (c := 1) (j := 18) dX1_takeFrom_231 ho.t0 (bk_in ho 0 (by decide)) (by decide) (by decide) hw156 (Or.inl rfl) ?_
    refine hf_puti (c := 1) (j := 18) dX1_takeFrom_234 hd.t0 (bk_in hd 0 (by decide)) (by decide) (by decide) hw156 rfl rfl ?_
    refine tf_upG (j := 0) rfl (by decide) hdj rfl ?_
    refine hf_aload_n dX1_takeFrom_237 rfl rfl ?_
    refine hf_aload_n dX1_takeFrom_238 rfl rfl ?_
    refine hf_geti (c := 1) (j := 19) dX1_takeFrom_239 ho.t0 (bk_in ho 0 (by decide)) (by decide) (by decide) hw158 (Or.inl rfl) ?_
    refine hf_puti (c := 1) (j := 19) dX1_takeFrom_242 hd.t0 (bk_in hd 0 (by decide)) (by decide) (by decide) hw158 rfl rfl ?_
    refine tf_upG (j := 0) rfl (by decide) hdj rfl ?_
    refine hf_return dX1_takeFrom_245 rfl ?_
    exact h
  · replace h := h.2 hc
    refine hf_aload_n dX1_takeFrom_63 rfl rfl ?_
    refine hf_getr (b := (db + 10)) (c := 1) (j := 4) dX1_takeFrom_64 hd.t0 (bk_in hd 0 (by decide)) (by decide) (by decide) hw112 rfl hd.p0_4 ?_
    refine hf_iload_n dX1_takeFrom_67 rfl rfl ?_
    refine hf_aload_n dX1_takeFrom_68 rfl rfl ?_
    refine hf_getr (b := (sb + 10)) (c := 1) (j := 4) dX1_takeFrom_69 ho.t0 (bk_in ho 0 (by decide)) (by decide) (by decide) hw112 rfl ho.p0_4 ?_
    refine hf_iload_n dX1_takeFrom_72 rfl rfl ?_
    refine hf_aacp rfl dX1_takeFrom_73 dX1_takeFrom_74 ho.t10 hd.t10 (bk_in ho 10 (by decide)) (bk_in hd 10 (by decide)) h.1.1 h.1.2 ?_
    replace h := h.2
    refine hf_iinc (v := (i + 1)) (l2 := [some (.ref db), some (.ref sb), some (.int (i + 1))]) dX1_takeFrom_75 (by decide) rfl rfl rfl ?_
    refine hf_goto (tgt := 57) dX1_takeFrom_78 (by decide) ?_
    exact h

