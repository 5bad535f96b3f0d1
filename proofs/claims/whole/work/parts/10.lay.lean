/-! the static cells: kinds and lengths, and where their fields point -/
def hf_sTl : List (Nat × Nat) := [(11, 0), (1, 0), (100, 27), (100, 8), (100, 2), (10, 0), (100, 16), (100, 16), (100, 16), (100, 16), (101, 144), (105, 6), (100, 6), (100, 4), (3, 0), (100, 12), (100, 12), (100, 8), (100, 8), (100, 8), (100, 8), (104, 2), (101, 400), (5, 0), (9, 0), (100, 800), (100, 12), (100, 12), (100, 12), (100, 12), (100, 12), (101, 0), (7, 0), (100, 37), (100, 52), (4, 0), (8, 0), (100, 16), (100, 16), (100, 18), (100, 6), (100, 6), (103, 144), (100, 24), (2, 0), (100, 8), (0, 0), (100, 12), (6, 0), (100, 432), (6, 0), (100, 432), (3, 0), (100, 12), (100, 12), (100, 5), (12, 0), (100, 7), (100, 5929), (100, 11858), (102, 2), (100, 26), (101, 144), (101, 400), (100, 5), (100, 401), (100, 401), (100, 401), (100, 13), (100, 432), (100, 432), (100, 18), (100, 6), (100, 6), (100, 6), (100, 16), (100, 16), (100, 6), (100, 7), (100, 8), (100, 12)]
def hf_sPl : List (List (Option Nat)) := [[some 101, some 121, some 122, some 123, some 132, some 135, some 136, some 144, some 146, some 148, some 150, some 152, some 155], [some 102, some 103, some 104, some 105, some 111, some 112, some 113, some 114, some 117, some 118, some 119, some 120], [], [], [], [some 106, some 107, some 108, some 109, some 110], [], [], [], [], [], [], [], [], [some 115, some 116], [], [], [], [], [], [], [], [], [some 124], [some 125, some 126, some 127, some 128, some 129, some 130], [], [], [], [], [], [], [], [some 133, some 134], [], [], [some 101, some 132], [some 101, some 135, some 137, some 138, some 139, some 140, some 141, some 142, some 143], [], [], [], [], [], [], [], [some 145], [], [some 147], [], [some 149], [], [some 151], [], [some 153, some 154], [], [], [], [none, some 157, some 158, some 159, some 160, some 161, some 162, none, some 163, some 164, none, none, some 165, some 166, some 167, none, none, none, none, none, none, none, none, some 168, none, some 169, some 170, none, some 171, some 172, some 173, some 174, some 175, some 176, some 177, some 178, none, none, none, none, some 179, none, none, none, none, none, none, none, some 180], [], [], [], [], [], [], [], [], [], [], [], [], [], [], [], [], [], [], [], [], [], [], [], []]
def hf_sT (a : Nat) : Option (Nat × Nat) := hf_sTl[a - 100]?
def hf_sP (a j : Nat) : Option Nat := match hf_sPl[a - 100]? with
  | some r => match r[j]? with
    | some q => q
    | none => none
  | none => none
/-- the static cells are as the constructors left them -/
def hf_Lay (t : Nat) (T : hf_T) (P : hf_P) : Prop := 81 ≤ t ∧ (∀ a q, hf_sT a = some q → T a = q) ∧ ∀ a j b, hf_sP a j = some b → P a j = some b
theorem hf_lin {t : Nat} {T : hf_T} {P : hf_P} (h : hf_Lay t T P) (a : Nat) (ha : (Nat.ble 100 a && Nat.ble a 180) = true) : 100 ≤ a ∧ a < 100 + t := by
  rw [Bool.and_eq_true, Nat.ble_eq, Nat.ble_eq] at ha
  have := h.1
  omega
def hf_sub (l' l : List (Option Value)) : Prop := match l', l with
  | [], _ => True
  | none :: t', _ :: t => hf_sub t' t
  | some v :: t', some w :: t => v = w ∧ hf_sub t' t
  | _, _ => False
theorem hf_sub_at : ∀ {l' l : List (Option Value)}, hf_sub l' l → ∀ (i : Nat) (v : Value), l'[i]? = some (some v) → l[i]? = some (some v) := by
  intro l'
  induction l' with
  | nil => intro l h i v hi; simp at hi
  | cons a t' ih =>
    intro l h i v hi
    cases l with
    | nil => cases a <;> simp [hf_sub] at h
    | cons b t =>
      cases a with
      | none =>
        rw [hf_sub] at h
        cases i with
        | zero => simp at hi
        | succ i => simpa using ih h i v (by simpa using hi)
      | some w =>
        cases b with
        | none => simp [hf_sub] at h
        | some u =>
          rw [hf_sub] at h
          cases i with
          | zero => simp at hi; subst hi; simp [h.1]
          | succ i => simpa using ih h.2 i v (by simpa using hi)
theorem hf_drop {X : hf_X} {Y : hf_Y} {d k n pc : Nat} {l l' : List (Option Value)} {st : List Value} {M : hf_M} {Q : Option Value → hf_M → Prop} (hs : hf_sub l' l) (h : hf_G X Y d k n pc l' st M Q) : hf_G X Y d k n pc l st M Q := hf_fewer (hf_sub_at hs) h
