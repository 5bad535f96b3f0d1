/-! ROWS, all of them and by tails: how many they are, and the least key -/
abbrev fz_V : Type := Nat × Option Nat
def fz_m : Option Nat → Option Nat → Option Nat
  | none, b => b
  | some x, none => some x
  | some x, some y => some (if x ≤ y then x else y)
def fz_o (a b : fz_V) : fz_V := (a.1 + b.1, fz_m a.2 b.2)
def fz_e : fz_V := (0, none)
def fz_ad (k : Nat) (a : fz_V) : fz_V := (a.1, a.2.map (k + ·))
def fz_S (f : Nat → fz_V) : Nat → fz_V
  | 0 => fz_e
  | n + 1 => fz_o (fz_S f n) (f n)
theorem fz_m_c (a b : Option Nat) : fz_m a b = fz_m b a := by
  cases a with
  | none => cases b <;> rfl
  | some x =>
    cases b with
    | none => rfl
    | some y =>
      show some (if x ≤ y then x else y) = some (if y ≤ x then y else x)
      congr 1
      split <;> split <;> omega
theorem fz_m_a (a b c : Option Nat) : fz_m (fz_m a b) c = fz_m a (fz_m b c) := by
  cases a with
  | none => rfl
  | some x =>
    cases b with
    | none => rfl
    | some y =>
      cases c with
      | none => rfl
      | some z =>
        show some (if (if x ≤ y then x else y) ≤ z then (if x ≤ y then x else y) else z) = some (if x ≤ (if y ≤ z then y else z) then x else (if y ≤ z then y else z))
        congr 1
        by_cases h1 : x ≤ y
        · by_cases h2 : y ≤ z
          · rw [if_pos h1, if_pos h2, if_pos (by omega), if_pos h1]
          · rw [if_pos h1, if_neg h2]
        · by_cases h2 : y ≤ z
          · rw [if_neg h1, if_pos h2, if_neg h1]
          · rw [if_neg h1, if_neg h2, if_neg (by omega)]
theorem fz_o_c (a b : fz_V) : fz_o a b = fz_o b a := by
  unfold fz_o
  rw [Nat.add_comm, fz_m_c]
theorem fz_o_a (a b c : fz_V) : fz_o (fz_o a b) c = fz_o a (fz_o b c) := by
  unfold fz_o
  dsimp only
  rw [Nat.add_assoc, fz_m_a]
theorem fz_e_o (a : fz_V) : fz_o fz_e a = a := by
  show (0 + a.1, a.2) = a
  rw [Nat.zero_add]
theorem fz_o_e (a : fz_V) : fz_o a fz_e = a := by rw [fz_o_c, fz_e_o]
theorem fz_o_4 (a b c d : fz_V) : fz_o (fz_o a b) (fz_o c d) = fz_o (fz_o a c) (fz_o b d) := by
  rw [fz_o_a, fz_o_a, ← fz_o_a b c d, fz_o_c b c, fz_o_a c b d]
theorem fz_ad_e (k : Nat) : fz_ad k fz_e = fz_e := rfl
theorem fz_ad_o (k : Nat) (a b : fz_V) : fz_ad k (fz_o a b) = fz_o (fz_ad k a) (fz_ad k b) := by
  obtain ⟨n, x⟩ := a
  obtain ⟨m, y⟩ := b
  unfold fz_ad fz_o
  dsimp only
  congr 1
  cases x with
  | none => rfl
  | some x =>
    cases y with
    | none => rfl
    | some y =>
      show some (k + (if x ≤ y then x else y)) = some (if k + x ≤ k + y then k + x else k + y)
      congr 1
      by_cases h : x ≤ y
      · rw [if_pos h, if_pos (by omega)]
      · rw [if_neg h, if_neg (by omega)]
theorem fz_ad_ad (k l : Nat) (a : fz_V) : fz_ad k (fz_ad l a) = fz_ad (k + l) a := by
  obtain ⟨n, x⟩ := a
  unfold fz_ad
  dsimp only
  congr 1
  cases x with
  | none => rfl
  | some x =>
    show some (k + (l + x)) = some (k + l + x)
    rw [Nat.add_assoc]
theorem fz_ad_0 (a : fz_V) : fz_ad 0 a = a := by
  obtain ⟨n, x⟩ := a
  unfold fz_ad
  dsimp only
  congr 1
  cases x with
  | none => rfl
  | some x => show some (0 + x) = some x; rw [Nat.zero_add]
theorem fz_S_cg {f g : Nat → fz_V} : ∀ {n : Nat}, (∀ i, i < n → f i = g i) → fz_S f n = fz_S g n := by
  intro n
  induction n with
  | zero => intro _; rfl
  | succ n ih =>
    intro h
    rw [fz_S, fz_S, ih (fun i hi => h i (by omega)), h n (by omega)]
theorem fz_S_ad {f : Nat → fz_V} {k : Nat} : ∀ n, fz_ad k (fz_S f n) = fz_S (fun i => fz_ad k (f i)) n := by
  intro n
  induction n with
  | zero => rfl
  | succ n ih => rw [fz_S, fz_S, fz_ad_o, ih]
theorem fz_S_o {f g : Nat → fz_V} : ∀ n, fz_S (fun i => fz_o (f i) (g i)) n = fz_o (fz_S f n) (fz_S g n) := by
  intro n
  induction n with
  | zero => rfl
  | succ n ih => rw [fz_S, fz_S, fz_S, ih, fz_o_4]
theorem fz_S_z : ∀ n, fz_S (fun _ => fz_e) n = fz_e := by
  intro n
  induction n with
  | zero => rfl
  | succ n ih => rw [fz_S, ih]; rfl
theorem fz_S_sw {f : Nat → Nat → fz_V} (m : Nat) : ∀ n, fz_S (fun i => fz_S (fun j => f i j) m) n = fz_S (fun j => fz_S (fun i => f i j) n) m := by
  intro n
  induction n with
  | zero => exact (fz_S_z m).symm
  | succ n ih =>
    rw [fz_S, ih, ← fz_S_o]
    rfl
theorem fz_S_add {f : Nat → fz_V} (a : Nat) : ∀ b, fz_S f (a + b) = fz_o (fz_S f a) (fz_S (fun y => f (a + y)) b) := by
  intro b
  induction b with
  | zero => exact (fz_o_e _).symm
  | succ b ih =>
    rw [show a + (b + 1) = (a + b) + 1 by omega, fz_S, fz_S, ih, fz_o_a]
theorem fz_S_mul {f : Nat → fz_V} (m : Nat) : ∀ n, fz_S f (n * m) = fz_S (fun x => fz_S (fun y => f (x * m + y)) m) n := by
  intro n
  induction n with
  | zero => rw [Nat.zero_mul]; rfl
  | succ n ih => rw [Nat.succ_mul, fz_S_add, fz_S, ih]
/-- none, if there are none -/
def fz_wf (a : fz_V) : Prop := a.1 = 0 ↔ a.2 = none
theorem fz_wf_e : fz_wf fz_e := ⟨fun _ => rfl, fun _ => rfl⟩
theorem fz_wf_o {a b : fz_V} (ha : fz_wf a) (hb : fz_wf b) : fz_wf (fz_o a b) := by
  obtain ⟨n, x⟩ := a
  obtain ⟨m, y⟩ := b
  have ha' : n = 0 ↔ x = none := ha
  have hb' : m = 0 ↔ y = none := hb
  show n + m = 0 ↔ fz_m x y = none
  cases x with
  | none =>
    show n + m = 0 ↔ y = none
    have := ha'.mpr rfl
    constructor
    · intro h; exact hb'.mp (by omega)
    · intro h; have := hb'.mpr h; omega
  | some x =>
    have hn : ¬ n = 0 := fun z => by cases ha'.mp z
    cases y with
    | none => exact ⟨fun h => by omega, fun h => by cases h⟩
    | some y => exact ⟨fun h => by omega, fun h => by cases h⟩
theorem fz_wf_ad {k : Nat} {a : fz_V} (ha : fz_wf a) : fz_wf (fz_ad k a) := by
  obtain ⟨n, x⟩ := a
  cases x with
  | none => exact ha
  | some x =>
    have ha' : n = 0 ↔ some x = none := ha
    exact ⟨fun h => absurd (ha'.mp h) (Option.some_ne_none _), fun h => absurd h (Option.some_ne_none _)⟩
theorem fz_wf_S {f : Nat → fz_V} : ∀ n, (∀ i, i < n → fz_wf (f i)) → fz_wf (fz_S f n) := by
  intro n
  induction n with
  | zero => intro _; exact fz_wf_e
  | succ n ih => intro h; exact fz_wf_o (ih fun i hi => h i (by omega)) (h n (by omega))
/-- bounds -/
def fz_bd (N B : Nat) (a : fz_V) : Prop := a.1 ≤ N ∧ ∀ x, a.2 = some x → x ≤ B
theorem fz_bd_e {N B : Nat} : fz_bd N B fz_e := ⟨Nat.zero_le _, fun x h => by cases h⟩
theorem fz_bd_o {N M B : Nat} {a b : fz_V} (ha : fz_bd N B a) (hb : fz_bd M B b) : fz_bd (N + M) B (fz_o a b) := by
  obtain ⟨n, x⟩ := a
  obtain ⟨m, y⟩ := b
  obtain ⟨a1, a2⟩ := ha
  obtain ⟨b1, b2⟩ := hb
  refine ⟨Nat.add_le_add a1 b1, fun z hz => ?_⟩
  have hz' : fz_m x y = some z := hz
  cases x with
  | none => exact b2 z hz'
  | some x =>
    cases y with
    | none => exact a2 z hz'
    | some y =>
      have e : (if x ≤ y then x else y) = z := Option.some.inj hz'
      have u1 := a2 x rfl
      have u2 := b2 y rfl
      split at e <;> omega
theorem fz_bd_ad {N B k : Nat} {a : fz_V} (ha : fz_bd N B a) : fz_bd N (k + B) (fz_ad k a) := by
  obtain ⟨n, x⟩ := a
  refine ⟨ha.1, fun z hz => ?_⟩
  cases x with
  | none => cases hz
  | some x =>
    have e : k + x = z := Option.some.inj hz
    have := ha.2 x rfl
    omega
theorem fz_bd_w {N M B C : Nat} {a : fz_V} (h : fz_bd N B a) (h1 : N ≤ M) (h2 : B ≤ C) : fz_bd M C a := ⟨Nat.le_trans h.1 h1, fun x hx => Nat.le_trans (h.2 x hx) h2⟩
theorem fz_bd_S {N B : Nat} {f : Nat → fz_V} : ∀ n, (∀ i, i < n → fz_bd N B (f i)) → fz_bd (n * N) B (fz_S f n) := by
  intro n
  induction n with
  | zero => intro _; exact fz_bd_e
  | succ n ih =>
    intro h
    rw [Nat.succ_mul]
    exact fz_bd_o (ih fun i hi => h i (by omega)) (h n (by omega))
theorem fz_S_1 {f g : Nat → fz_V} : ∀ {n : Nat}, (∀ i, i < n → (f i).1 = (g i).1) → (fz_S f n).1 = (fz_S g n).1 := by
  intro n
  induction n with
  | zero => intro _; rfl
  | succ n ih =>
    intro h
    show (fz_S f n).1 + (f n).1 = (fz_S g n).1 + (g n).1
    rw [ih (fun i hi => h i (by omega)), h n (by omega)]
/-- all that ROWS rest on: LINES, blank, COLUMN, options, breadths, losses, ALIKE, ECHO, what a LINE COSTS -/
abbrev fz_X : Type := Nat × Nat × Nat × (Nat → Nat) × (Nat → Nat → Nat) × (Nat → Nat) × (Nat → Nat) × (Nat → Nat → Bool) × (Nat → Nat → Bool) × (Nat → Nat → Nat → Bool → Bool → Nat)
def gLN (G : fz_X) : Nat := G.1
def gbl (G : fz_X) : Nat := G.2.1
def ghr (G : fz_X) : Nat := G.2.2.1
def glen (G : fz_X) : Nat → Nat := G.2.2.2.1
def gopt (G : fz_X) : Nat → Nat → Nat := G.2.2.2.2.1
def gwn (G : fz_X) : Nat → Nat := G.2.2.2.2.2.1
def gls (G : fz_X) : Nat → Nat := G.2.2.2.2.2.2.1
def gal (G : fz_X) : Nat → Nat → Bool := G.2.2.2.2.2.2.2.1
def gex (G : fz_X) : Nat → Nat → Bool := G.2.2.2.2.2.2.2.2.1
def gC (G : fz_X) : Nat → Nat → Nat → Bool → Bool → Nat := G.2.2.2.2.2.2.2.2.2
def fz_ck (G : fz_X) (i w : Nat) : Nat := 1073741824 * gls G w + w * 2 ^ (6 + 4 * (5 - i))
def fz_tk (i : Nat) : Nat := if i = 0 then 0 else 2 ^ (5 - i)
/-- what may follow, behind a place: the LINE, how broad it is, where it began, with which WORD, ALIKE, ECHO -/
def fz_R (G : fz_X) : Nat → Nat → Nat → Nat → Nat → Nat → Bool → Bool → fz_V
  | 0, i, ln, wd, st, _, ak, ec => (1, some (1073741824 * gC G ln wd (i - st) ak ec))
  | f + 1, i, ln, wd, st, fi, ak, ec => fz_o (fz_S (fun k => if wd + gbl G + gwn G (gopt G i k) ≤ ghr G then fz_ad (fz_ck G i (gopt G i k)) (fz_R G f (i + 1) ln (wd + gbl G + gwn G (gopt G i k)) st fi ak (ec || gex G (gopt G i k) ln)) else fz_e) (glen G i))
      (if ln + 1 < gLN G then fz_ad (1073741824 * gC G ln wd (i - st) ak ec) (fz_S (fun k => if gwn G (gopt G i k) ≤ ghr G then fz_ad (fz_tk i + fz_ck G i (gopt G i k)) (fz_R G f (i + 1) (ln + 1) (gwn G (gopt G i k)) i (gopt G i k) (gal G fi (gopt G i k)) (gex G (gopt G i k) (ln + 1))) else fz_e) (glen G i)) else fz_e)
/-- a LINE begins at place i with its choice k -/
def fz_T (G : fz_X) (f i ln k : Nat) (ak : Bool) : fz_V := if gwn G (gopt G i k) ≤ ghr G then fz_ad (fz_tk i + fz_ck G i (gopt G i k)) (fz_R G f (i + 1) ln (gwn G (gopt G i k)) i (gopt G i k) ak (gex G (gopt G i k) ln)) else fz_e
/-- the LINE goes on at place i with its choice k -/
def fz_W (G : fz_X) (f i ln wd st fi : Nat) (ak ec : Bool) (k : Nat) : fz_V := if wd + gbl G + gwn G (gopt G i k) ≤ ghr G then fz_ad (fz_ck G i (gopt G i k)) (fz_R G f (i + 1) ln (wd + gbl G + gwn G (gopt G i k)) st fi ak (ec || gex G (gopt G i k) ln)) else fz_e
theorem fz_R_1 {G : fz_X} {f i ln wd st fi : Nat} {ak ec : Bool} : fz_R G (f + 1) i ln wd st fi ak ec = fz_o (fz_S (fz_W G f i ln wd st fi ak ec) (glen G i)) (if ln + 1 < gLN G then fz_ad (1073741824 * gC G ln wd (i - st) ak ec) (fz_S (fun k => fz_T G f i (ln + 1) k (gal G fi (gopt G i k))) (glen G i)) else fz_e) := rfl
theorem fz_R_ct {G : fz_X} : ∀ (f i ln wd st fi st' fi' : Nat) (ak ec ak' ec' : Bool), (fz_R G f i ln wd st fi ak ec).1 = (fz_R G f i ln wd st' fi' ak' ec').1 := by
  intro f
  induction f with
  | zero => intro i ln wd st fi st' fi' ak ec ak' ec'; rfl
  | succ f ih =>
    intro i ln wd st fi st' fi' ak ec ak' ec'
    rw [fz_R_1, fz_R_1]
    show (fz_S _ _).1 + _ = (fz_S _ _).1 + _
    congr 1
    · refine fz_S_1 fun k _ => ?_
      unfold fz_W
      split
      · exact ih _ _ _ _ _ _ _ _ _ _ _
      · rfl
    · split
      · refine fz_S_1 fun k _ => ?_
        unfold fz_T
        split
        · exact ih _ _ _ _ _ _ _ _ _ _ _
        · rfl
      · rfl
theorem fz_T_ct {G : fz_X} {f i ln k : Nat} {ak ak' : Bool} : (fz_T G f i ln k ak).1 = (fz_T G f i ln k ak').1 := by
  unfold fz_T
  split
  · exact fz_R_ct _ _ _ _ _ _ _ _ _ _ _ _
  · rfl
theorem fz_R_wf {G : fz_X} : ∀ (f i ln wd st fi : Nat) (ak ec : Bool), fz_wf (fz_R G f i ln wd st fi ak ec) := by
  intro f
  induction f with
  | zero => intro i ln wd st fi ak ec; exact ⟨fun h => absurd (show 1 = 0 from h) (by decide), fun h => absurd h (Option.some_ne_none _)⟩
  | succ f ih =>
    intro i ln wd st fi ak ec
    rw [fz_R_1]
    refine fz_wf_o (fz_wf_S _ fun k _ => ?_) ?_
    · unfold fz_W
      split
      · exact fz_wf_ad (ih _ _ _ _ _ _ _)
      · exact fz_wf_e
    · split
      · refine fz_wf_ad (fz_wf_S _ fun k _ => ?_)
        unfold fz_T
        split
        · exact fz_wf_ad (ih _ _ _ _ _ _ _)
        · exact fz_wf_e
      · exact fz_wf_e
theorem fz_T_wf {G : fz_X} {f i ln k : Nat} {ak : Bool} : fz_wf (fz_T G f i ln k ak) := by
  unfold fz_T
  split
  · exact fz_wf_ad (fz_R_wf _ _ _ _ _ _ _ _)
  · exact fz_wf_e
/-- what the bounds rest on -/
def fz_ok (G : fz_X) (p : Nat) : Prop := (1 ≤ gLN G ∧ gLN G ≤ 4 ∧ gbl G ≤ 40 ∧ ghr G ≤ 400) ∧ (∀ i, i < p → 1 ≤ glen G i ∧ glen G i ≤ 3) ∧ (∀ i k, i < p → k < glen G i → gopt G i k < 16) ∧ (∀ w, gwn G w ≤ 360) ∧ (∀ w, gls G w ≤ 999) ∧ ∀ ln wd mn ak ec, gC G ln wd mn ak ec ≤ 999
theorem fz_ck_le {G : fz_X} {p i k : Nat} (h : fz_ok G p) (hi : i < p) (hk : k < glen G i) : fz_ck G i (gopt G i k) ≤ 1073741824 * 1000 := by
  have h1 := h.2.2.1 i k hi hk
  have h2 := h.2.2.2.2.1 (gopt G i k)
  have h3 : 2 ^ (6 + 4 * (5 - i)) ≤ 2 ^ 26 := Nat.pow_le_pow_right (by omega) (by omega)
  have h4 : gopt G i k * 2 ^ (6 + 4 * (5 - i)) ≤ 15 * 2 ^ 26 := Nat.mul_le_mul (by omega) h3
  unfold fz_ck
  omega
theorem fz_tk_le (i : Nat) : fz_tk i ≤ 32 := by
  unfold fz_tk
  split
  · omega
  · exact Nat.le_trans (Nat.pow_le_pow_right (by omega) (show 5 - i ≤ 5 by omega)) (by decide)
theorem fz_R_bd {G : fz_X} {p : Nat} (hp : p ≤ 6) (h : fz_ok G p) : ∀ (f i ln wd st fi : Nat) (ak ec : Bool), i + f = p → fz_bd (6 ^ f) ((f + 1) * 2199023255552) (fz_R G f i ln wd st fi ak ec) := by
  intro f
  have hC := h.2.2.2.2.2
  induction f with
  | zero =>
    intro i ln wd st fi ak ec hi
    refine ⟨Nat.le_refl 1, fun x hx => ?_⟩
    have e : 1073741824 * gC G ln wd (i - st) ak ec = x := Option.some.inj hx
    have := hC ln wd (i - st) ak ec
    omega
  | succ f ih =>
    intro i ln wd st fi ak ec hi
    rw [fz_R_1]
    have hl := h.2.1 i (by omega)
    have tk := fz_tk_le i
    have s1 : fz_bd (glen G i * 6 ^ f) ((f + 2) * 2199023255552) (fz_S (fz_W G f i ln wd st fi ak ec) (glen G i)) := by
      refine fz_bd_S _ fun k hk => ?_
      have ck := fz_ck_le h (show i < p by omega) hk
      unfold fz_W
      split
      · exact fz_bd_w (fz_bd_ad (ih (i + 1) _ _ _ _ _ _ (by omega))) (Nat.le_refl _) (by omega)
      · exact fz_bd_e
    have s2 : fz_bd (glen G i * 6 ^ f) ((f + 2) * 2199023255552) (if ln + 1 < gLN G then fz_ad (1073741824 * gC G ln wd (i - st) ak ec) (fz_S (fun k => fz_T G f i (ln + 1) k (gal G fi (gopt G i k))) (glen G i)) else fz_e) := by
      split
      · have := hC ln wd (i - st) ak ec
        refine fz_bd_w (fz_bd_ad (fz_bd_S (N := 6 ^ f) (B := 32 + 1073741824 * 1000 + (f + 1) * 2199023255552) _ fun k hk => ?_)) (Nat.le_refl _) (by omega)
        have ck := fz_ck_le h (show i < p by omega) hk
        unfold fz_T
        split
        · exact fz_bd_w (fz_bd_ad (ih (i + 1) _ _ _ _ _ _ (by omega))) (Nat.le_refl _) (by omega)
        · exact fz_bd_e
      · exact fz_bd_e
    refine fz_bd_w (fz_bd_o s1 s2) ?_ (Nat.le_refl _)
    have : glen G i * 6 ^ f ≤ 3 * 6 ^ f := Nat.mul_le_mul_right _ hl.2
    rw [Nat.pow_succ]
    omega
theorem fz_T_bd {G : fz_X} {p f i ln k : Nat} {ak : Bool} (hp : p ≤ 6) (h : fz_ok G p) (hi : i + (f + 1) = p) (hk : k < glen G i) : fz_bd (6 ^ f) ((f + 2) * 2199023255552) (fz_T G f i ln k ak) := by
  have ck := fz_ck_le h (show i < p by omega) hk
  have tk := fz_tk_le i
  unfold fz_T
  split
  · exact fz_bd_w (fz_bd_ad (fz_R_bd hp h f (i + 1) _ _ _ _ _ _ (by omega))) (Nat.le_refl _) (by omega)
  · exact fz_bd_e
