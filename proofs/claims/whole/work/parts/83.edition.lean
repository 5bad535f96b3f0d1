/-! edition -/
theorem bt_01 (y : Int32) : y &&& 1 = 0 ∨ y &&& 1 = 1 := by
  have h : (y &&& 1).toBitVec = y.toBitVec &&& 1#32 := rfl
  rw [BitVec.and_one_eq_setWidth_ofBool_getLsbD] at h
  cases hb : y.toBitVec.getLsbD 0 with
  | false => exact Or.inl (Int32.toBitVec_inj.mp (by rw [h, hb]; rfl))
  | true => exact Or.inr (Int32.toBitVec_inj.mp (by rw [h, hb]; rfl))
def bt (s : Int32) (j : Nat) : Int32 := (s >>> (nI j &&& 31)) &&& 1
theorem bt_1 {s : Int32} {j : Nat} : bt s j = 1 ↔ ¬ bt s j = 0 := by
  rcases bt_01 (s >>> (nI j &&& 31)) with h | h
  · constructor
    · intro e
      unfold bt at e
      rw [h] at e
      exact absurd e (by decide)
    · intro e
      exact absurd h e
  · constructor
    · intro _ e
      unfold bt at e
      rw [h] at e
      exact absurd e (by decide)
    · intro _
      exact h
theorem bt_n {s : Int32} {j : Nat} : bt s j = nI (if bt s j = 0 then 0 else 1) := by
  by_cases h : bt s j = 0
  · rw [if_pos h]; exact h
  · rw [if_neg h]; exact bt_1.mpr h
def ed_u (o : Nat → Nat) (x v : Nat) : Nat → Nat := fun j => if j = x then v else o j
theorem ed_u_eq {o : Nat → Nat} {x v : Nat} : ed_u o x v x = v := if_pos rfl
theorem ed_u_ne {o : Nat → Nat} {x v j : Nat} (h : ¬ j = x) : ed_u o x v j = o j := if_neg h
def ed_i (f : Nat → Nat) (v : Nat) : Nat → (Nat → Nat) → Nat → Nat
  | 0, o => ed_u o 0 v
  | x + 1, o => if f (o x) ≤ f v then ed_u o (x + 1) v else ed_i f v x (ed_u o (x + 1) (o x))
def ed_s (f : Nat → Nat) : Nat → Nat → Nat
  | 0 => fun _ => 0
  | n + 1 => ed_i f n n (ed_s f n)
def ed_sum (F : Nat → Nat) (o : Nat → Nat) : Nat → Nat
  | 0 => 0
  | n + 1 => ed_sum F o n + F (o n)
theorem ed_sum_cg {F : Nat → Nat} {o o' : Nat → Nat} : ∀ {n : Nat}, (∀ j, j < n → o j = o' j) → ed_sum F o n = ed_sum F o' n := by
  intro n
  induction n with
  | zero => intro _; rfl
  | succ n ih =>
    intro h
    rw [ed_sum, ed_sum, ih (fun j hj => h j (by omega)), h n (by omega)]
theorem ed_sum_le {F : Nat → Nat} {o : Nat → Nat} {b : Nat} (hF : ∀ j, F j ≤ b) : ∀ n, ed_sum F o n ≤ b * n := by
  intro n
  induction n with
  | zero => exact Nat.le_refl _
  | succ n ih =>
    rw [ed_sum, Nat.mul_succ]
    have := hF (o n)
    omega
theorem ed_sum_mono {F : Nat → Nat} {o : Nat → Nat} : ∀ {n m : Nat}, n ≤ m → ed_sum F o n ≤ ed_sum F o m := by
  intro n m h
  induction m with
  | zero =>
    obtain rfl : n = 0 := by omega
    exact Nat.le_refl _
  | succ m ih =>
    by_cases e : n = m + 1
    · subst e; exact Nat.le_refl _
    · have := ih (by omega)
      rw [ed_sum]
      omega
theorem ed_swap {F : Nat → Nat} {o : Nat → Nat} {x a b : Nat} : ∀ n, x + 1 < n → ed_sum F (ed_u (ed_u o (x + 1) a) x b) n = ed_sum F (ed_u (ed_u o (x + 1) b) x a) n := by
  intro n
  induction n with
  | zero => intro h; omega
  | succ n ih =>
    intro h
    by_cases e : x + 1 < n
    · rw [ed_sum, ed_sum, ih e, ed_u_ne (by omega), ed_u_ne (by omega), ed_u_ne (by omega), ed_u_ne (by omega)]
    · obtain rfl : n = x + 1 := by omega
      rw [ed_sum, ed_sum, ed_sum, ed_sum, ed_u_eq, ed_u_eq, ed_u_ne (by omega), ed_u_eq, ed_u_ne (by omega), ed_u_eq, ed_sum_cg (o' := ed_u (ed_u o (x + 1) b) x a) (fun j hj => by rw [ed_u_ne (by omega), ed_u_ne (by omega), ed_u_ne (by omega), ed_u_ne (by omega)])]
      omega
theorem ed_i_sum {F f : Nat → Nat} {v n : Nat} : ∀ x (o : Nat → Nat), x < n → ed_sum F (ed_i f v x o) n = ed_sum F (ed_u o x v) n := by
  intro x
  induction x with
  | zero => intro o _; rfl
  | succ x ih =>
    intro o h
    rw [ed_i]
    split
    · rfl
    · rw [ih _ (by omega), ed_swap n h]
      apply ed_sum_cg
      intro j _
      by_cases e : j = x
      · subst e; rw [ed_u_eq, ed_u_ne (by omega)]
      · rw [ed_u_ne e]
theorem ed_s_sum {F f : Nat → Nat} : ∀ n, ed_sum F (ed_s f n) n = ed_sum F (fun j => j) n := by
  intro n
  induction n with
  | zero => rfl
  | succ n ih =>
    rw [ed_s, ed_i_sum _ _ (by omega), ed_sum, ed_sum, ed_u_eq, ed_sum_cg (o' := ed_s f n) (fun j hj => ed_u_ne (by omega)), ih]
theorem ed_i_lt {f : Nat → Nat} {v : Nat} : ∀ x (o : Nat → Nat), (∀ j, o j ≤ v) → ∀ j, ed_i f v x o j ≤ v := by
  intro x
  induction x with
  | zero =>
    intro o h j
    show (if j = 0 then v else o j) ≤ v
    split
    · exact Nat.le_refl _
    · exact h j
  | succ x ih =>
    intro o h j
    rw [ed_i]
    split
    · unfold ed_u
      split
      · exact Nat.le_refl _
      · exact h j
    · exact ih _ (fun j => by
        unfold ed_u
        split
        · exact h x
        · exact h j) j
theorem ed_s_lt {f : Nat → Nat} : ∀ n j, ed_s f n j ≤ n - 1 := by
  intro n
  induction n with
  | zero => intro j; exact Nat.le_refl _
  | succ n ih => exact ed_i_lt n _ (fun j => by have := ih j; omega)
def ed_t (mi du : Nat → Nat) (o : Nat → Nat) (s : Int32) : Nat → Option Nat
  | 0 => some 0
  | i + 1 => (ed_t mi du o s i).bind fun τ => if bt s (o i) = 0 then some τ else if τ + mi (o i) ≤ du (o i) then some (τ + mi (o i)) else none
theorem ed_t_no {mi du o : Nat → Nat} {s : Int32} {i : Nat} (h : ed_t mi du o s i = none) : ∀ n, i ≤ n → ed_t mi du o s n = none := by
  intro n hn
  induction n with
  | zero =>
    obtain rfl : i = 0 := by omega
    exact h
  | succ n ih =>
    by_cases e : i = n + 1
    · subst e; exact h
    · rw [ed_t, ih (by omega)]; rfl
theorem ed_t_le {mi du o : Nat → Nat} {s : Int32} (hm : ∀ j, mi j ≤ 99) : ∀ i τ, ed_t mi du o s i = some τ → τ ≤ 99 * i := by
  intro i
  induction i with
  | zero => intro τ h; cases h; exact Nat.le_refl _
  | succ i ih =>
    intro τ h
    rw [ed_t] at h
    cases e : ed_t mi du o s i with
    | none => rw [e] at h; cases h
    | some q =>
      rw [e] at h
      have := ih q e
      have := hm (o i)
      rw [Option.bind_some] at h
      split at h
      · cases h; omega
      · split at h
        · cases h; omega
        · cases h
theorem ed_t_0 {mi du o : Nat → Nat} (ho : ∀ j, o j < 8) : ∀ i, ed_t mi du o 0 i = some 0 := by
  have z : ∀ j : Fin 8, bt 0 j.1 = 0 := by decide
  intro i
  induction i with
  | zero => rfl
  | succ i ih => rw [ed_t, ih, Option.bind_some, if_pos (z ⟨o i, ho i⟩)]
def ed_F (wo : Nat → Nat) (s : Int32) (j : Nat) : Nat := if bt s j = 0 then 0 else wo j
def ed_V (wo : Nat → Nat) (s : Int32) (c : Nat) : Nat := ed_sum (ed_F wo s) (fun j => j) c
def ed_B (mi du wo o : Nat → Nat) (c : Nat) : Nat → Nat × Nat × Nat
  | 0 => (0, 0, 0)
  | k + 1 => if (ed_B mi du wo o c k).1 < ed_V wo (nI (k + 1)) c then (match ed_t mi du o (nI (k + 1)) c with
    | none => ed_B mi du wo o c k
    | some τ => (ed_V wo (nI (k + 1)) c, k + 1, τ)) else ed_B mi du wo o c k
theorem ed_B_t {mi du wo o : Nat → Nat} {c : Nat} (ho : ∀ j, o j < 8) : ∀ k, ed_t mi du o (nI (ed_B mi du wo o c k).2.1) c = some (ed_B mi du wo o c k).2.2 ∧ (ed_B mi du wo o c k).2.1 ≤ k := by
  intro k
  induction k with
  | zero => exact ⟨ed_t_0 ho c, Nat.le_refl _⟩
  | succ k ih =>
    rw [ed_B]
    split
    · cases e : ed_t mi du o (nI (k + 1)) c with
      | none => exact ⟨ih.1, by have := ih.2; dsimp only; omega⟩
      | some τ => exact ⟨e, Nat.le_refl _⟩
    · exact ⟨ih.1, by have := ih.2; omega⟩
theorem ed_V_le {wo : Nat → Nat} {s : Int32} {c : Nat} (hw : ∀ j, wo j ≤ 99) : ed_V wo s c ≤ 99 * c := ed_sum_le (fun j => by unfold ed_F; split; omega; exact hw j) c
theorem ed_B_le {mi du wo o : Nat → Nat} {c : Nat} (hw : ∀ j, wo j ≤ 99) : ∀ k, (ed_B mi du wo o c k).1 ≤ 99 * c := by
  intro k
  induction k with
  | zero => exact Nat.zero_le _
  | succ k ih =>
    rw [ed_B]
    split
    · split
      · exact ih
      · exact ed_V_le hw
    · exact ih
def ed_M (I : hf_I) (w b m : Int32) : hf_I := hf_set I 144 (upd (upd (upd (I 144) 2 w) 3 b) 4 m)
theorem ed_M_up {I : hf_I} {w b m w' b' m' : Int32} : hf_up (hf_up (hf_up (ed_M I w b m) 144 2 w') 144 3 b') 144 4 m' = ed_M I w' b' m' := by
  funext x
  by_cases hx : x = 144
  · subst hx
    show upd (upd (upd (upd (upd (upd (I 144) 2 w) 3 b) 4 m) 2 w') 3 b') 4 m' = upd (upd (upd (I 144) 2 w') 3 b') 4 m'
    funext j
    unfold upd
    by_cases h4 : j = 4
    · simp [h4]
    · by_cases h3 : j = 3
      · simp [h3]
      · by_cases h2 : j = 2
        · simp [h2]
        · simp [h4, h3, h2]
  · simp [ed_M, hf_up, hf_set, hx]
theorem ed_pw {c : Nat} (hc : c ≤ 8) : (1 : Int32) <<< (nI c &&& 31) = nI (2 ^ c) ∧ 2 ^ c ≤ 256 := by
  have : ∀ z : Fin 9, (1 : Int32) <<< (nI z.1 &&& 31) = nI (2 ^ z.1) ∧ 2 ^ z.1 ≤ 256 := by decide
  exact this ⟨c, by omega⟩
section EDC
variable {X : hf_X} {d kk nn t : Nat} {T : hf_T} {I : hf_I} {L : hf_L} {P : hf_P} {Q : Option Value → hf_M → Prop}
theorem cs_sort {c : Nat} {du : Nat → Nat} (hs : hf_Lay t T P) (hc : c ≤ 8) (h19 : I 101 19 = nI c) (hd : ∀ j, j < c → I 119 j = nI (du j)) (hdu : ∀ j, du j ≤ 999) (h : ∀ g, (∀ j, j < c → g j = nI (ed_s du c j)) → Q none (t, T, hf_set (hf_up I 144 1 (nI c)) 145 g, L, P)) : hf_G X Y_X2_sort d kk nn 0 (hf_en [.ref 144, .ref 101] 4) [] (t, T, I, L, P) Q := by
  have inner : ∀ v, v < c → ∀ x, x ≤ v → ∀ (o : Nat → Nat) (g : Nat → Int32), (∀ j, o j ≤ v) → (∀ j, j ≤ v → ¬ j = x → g j = nI (o j)) → (∀ g', (∀ j, j ≤ v → g' j = nI (ed_i du v x o j)) → hf_G X Y_X2_sort d kk nn 10 [some (.ref 144), some (.ref 101), some (.int (nI (v + 1))), none] [] (t, T, hf_set (hf_up I 144 1 (nI c)) 145 g', L, P) Q) → hf_G X Y_X2_sort d kk nn 20 [some (.ref 144), some (.ref 101), some (.int (nI v)), some (.int (nI x))] [] (t, T, hf_set (hf_up I 144 1 (nI c)) 145 g, L, P) Q := by
    intro v hv x
    have put : ∀ x, x ≤ v → ∀ (o : Nat → Nat) (g : Nat → Int32), (∀ j, j ≤ v → ¬ j = x → g j = nI (o j)) → ∀ j, j ≤ v → upd g x (nI v) j = nI (ed_u o x v j) := by
      intro x _ o g hg j hj
      unfold upd ed_u
      by_cases e : j = x
      · rw [if_pos e, if_pos e]
      · rw [if_neg e, if_neg e, hg j hj e]
    induction x with
    | zero =>
      intro hx o g ho hg hG
      refine w_X2_sort_20 hs ⟨fun _ => ⟨vp_in_nI (by omega) (by omega), ?_⟩, fun q => absurd (by decide) q⟩
      rw [nI_1, nI_clamp (show 0 < 2 ^ 31 by omega), hf_up_set]
      exact hG _ (put 0 hx o g hg)
    | succ x ih =>
      intro hx o g ho hg hG
      have ex : nI (x + 1) - 1 = nI x := by rw [← nI_1, Int32.add_sub_cancel]
      have ex2 : nI (x + 1) + (-1) = nI x := by rw [← Int32.sub_eq_add_neg, ex]
      have ox := ho x
      refine w_X2_sort_20 hs ⟨fun q => absurd q (by have := nI_ge (a := 0) (b := x + 1) (by omega) (by omega); exact this), fun _ => ?_⟩
      have e1 : hf_set (hf_up I 144 1 (nI c)) 145 g 145 x = nI (o x) := hg x (by omega) (by omega)
      have e2 : hf_set (hf_up I 144 1 (nI c)) 145 g 119 (o x) = nI (du (o x)) := hd _ (by omega)
      have e3 : hf_set (hf_up I 144 1 (nI c)) 145 g 119 v = nI (du v) := hd v hv
      rw [ex, ex2, nI_clamp (show x < 2 ^ 31 by omega), e1, nI_clamp (show o x < 2 ^ 31 by omega), e2, nI_clamp (show v < 2 ^ 31 by omega), e3, nI_1, nI_clamp (show x + 1 < 2 ^ 31 by omega), hf_up_set, hf_up_set]
      have b1 := hdu (o x)
      have b2 := hdu v
      refine ⟨vp_in_nI (by omega) (by omega), vp_in_nI (by omega) (by omega), vp_in_nI (by omega) (by omega), fun q => ⟨vp_in_nI (by omega) (by omega), ?_⟩, fun q => ⟨vp_in_nI (by omega) (by omega), vp_in_nI (by omega) (by omega), ?_⟩⟩
      · have q' := (nI_leI (show du (o x) < 2 ^ 31 by omega) (show du v < 2 ^ 31 by omega)).mp q
        refine hG _ fun j hj => ?_
        rw [ed_i, if_pos q']
        exact put (x + 1) hx o g hg j hj
      · have q' : ¬ du (o x) ≤ du v := fun z => q (nI_le z (by omega))
        refine ih (by omega) (ed_u o (x + 1) (o x)) _ (fun j => ?_) (fun j hj hjx => ?_) (fun g' hg' => hG g' fun j hj => ?_)
        · unfold ed_u
          split
          · exact ox
          · exact ho j
        · unfold upd ed_u
          by_cases e : j = x + 1
          · rw [if_pos e, if_pos e]
          · rw [if_neg e, if_neg e, hg j hj e]
        · rw [ed_i, if_neg q']
          exact hg' j hj
  have outer : ∀ f v, v + f = c → ∀ g, (∀ j, j < v → g j = nI (ed_s du v j)) → hf_G X Y_X2_sort d kk nn 10 [some (.ref 144), some (.ref 101), some (.int (nI v)), none] [] (t, T, hf_set (hf_up I 144 1 (nI c)) 145 g, L, P) Q := by
    intro f
    induction f with
    | zero =>
      intro v hv g hg
      obtain rfl : v = c := by omega
      exact w_X2_sort_10 hs ⟨fun _ => h g hg, fun q => absurd (nI_le (Nat.le_refl _) (by omega)) q⟩
    | succ f ih =>
      intro v hv g hg
      refine w_X2_sort_10 hs ⟨fun q => absurd q (nI_ge (a := v) (b := c) (by omega) (by omega)), fun _ => ?_⟩
      exact inner v (by omega) v (Nat.le_refl _) (ed_s du v) g (fun j => by have := ed_s_lt (f := du) v j; omega) (fun j hj hjv => hg j (by omega)) (fun g' hg' => ih (v + 1) (by omega) g' fun j hj => hg' j (by omega))
  refine w_X2_sort_0 hs ?_
  rw [h19]
  have := outer c 0 (by omega) (hf_up I 144 1 (nI c) 145) (fun j hj => by omega)
  rw [hf_set_self] at this
  exact this
theorem cs_weigh {c b : Nat} {s : Int32} {mi du wo o : Nat → Nat} (hs : hf_Lay t T P) (hc : c ≤ 8) (hb : b ≤ 999) (h1 : I 144 1 = nI c) (h2 : I 144 2 = nI b) (h118 : ∀ j, j < c → I 118 j = nI (mi j)) (h119 : ∀ j, j < c → I 119 j = nI (du j)) (h120 : ∀ j, j < c → I 120 j = nI (wo j)) (hmi : ∀ j, mi j ≤ 99) (hdu : ∀ j, du j ≤ 999) (hwo : ∀ j, wo j ≤ 99) (ho : ∀ j, j < c → I 145 j = nI (o j) ∧ o j < c)
    (hno : (∀ τ, ed_t mi du o s c = some τ → ¬ b < ed_sum (ed_F wo s) o c) → Q none (t, T, I, L, P))
    (hy : ∀ τ, ed_t mi du o s c = some τ → b < ed_sum (ed_F wo s) o c → Q none (t, T, hf_up (hf_up (hf_up I 144 2 (nI (ed_sum (ed_F wo s) o c))) 144 3 s) 144 4 (nI τ), L, P)) :
    hf_G X Y_X2_weigh d kk nn 0 (hf_en [.ref 144, .ref 101, .int s] 7) [] (t, T, I, L, P) Q := by
  have hF : ∀ j, ed_F wo s j ≤ 99 := fun j => by unfold ed_F; split; omega; exact hwo j
  have loop : ∀ f i, i + f = c → ∀ τ, ed_t mi du o s i = some τ → hf_G X Y_X2_weigh d kk nn 8 [some (.ref 144), some (.ref 101), some (.int s), some (.int (nI (ed_sum (ed_F wo s) o i))), some (.int (nI τ)), some (.int (nI i)), none] [] (t, T, I, L, P) Q := by
    intro f
    induction f with
    | zero =>
      intro i hi τ ht
      obtain rfl : i = c := by omega
      have sl := ed_sum_le (o := o) hF i
      refine w_X2_weigh_8 hs ⟨fun _ => ⟨fun q => ?_, fun q => ?_⟩, fun q => absurd (by rw [h1]; exact nI_le (Nat.le_refl _) (by omega)) q⟩
      · rw [h2] at q
        exact hy τ ht ((nI_ltI (by omega) (by omega)).mp q)
      · rw [h2] at q
        exact hno fun _ _ z => q (nI_lt z (by omega))
    | succ f ih =>
      intro i hi τ ht
      obtain ⟨o1, o2⟩ := ho i (by omega)
      have sl := ed_sum_le (o := o) hF i
      have tl := ed_t_le (du := du) (o := o) (s := s) hmi i τ ht
      have ml := hmi (o i)
      have dl := hdu (o i)
      have key := ih (i + 1) (by omega)
      rw [ed_t, ht, Option.bind_some, ed_sum] at key
      refine w_X2_weigh_8 hs ⟨fun q => absurd q (by rw [h1]; exact nI_ge (by omega) (by omega)), fun _ => ⟨vp_in_nI (by omega) (by omega), ?_⟩⟩
      rw [nI_clamp (show i < 2 ^ 31 by omega), o1, nI_clamp (show o i < 2 ^ 31 by omega), h118 _ o2, h119 _ o2, h120 _ o2, nI_add, nI_add, nI_1]
      have vo : vp_in (nI (o i)) 8 := vp_in_nI (by omega) (by omega)
      refine ⟨fun q => ⟨vo, vo, fun q2 => ⟨vo, ?_⟩, fun q2 => ?_⟩, fun q => ?_⟩
      · have q' : ¬ bt s (o i) = 0 := q
        have q2' := (nI_leI (show τ + mi (o i) < 2 ^ 31 by omega) (show du (o i) < 2 ^ 31 by omega)).mp q2
        rw [if_neg q', if_pos q2', show ed_F wo s (o i) = wo (o i) from if_neg q'] at key
        exact key _ rfl
      · have q' : ¬ bt s (o i) = 0 := q
        have q2' : ¬ τ + mi (o i) ≤ du (o i) := fun z => q2 (nI_le z (by omega))
        have e : ed_t mi du o s (i + 1) = none := by rw [ed_t, ht, Option.bind_some, if_neg q', if_neg q2']
        have := ed_t_no e c (by omega)
        exact hno fun τ z => by rw [this] at z; cases z
      · have q' : bt s (o i) = 0 := q
        rw [if_pos q', show ed_F wo s (o i) = 0 from if_pos q', Nat.add_zero] at key
        exact key _ rfl
  exact w_X2_weigh_0 hs (loop c 0 (by omega) 0 rfl)
end EDC
