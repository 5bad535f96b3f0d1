/-! ROWS place by place: what stands so far, and that nothing is lost or told twice -/
def fz_u {α : Type} (f : Nat → α) (i : Nat) (x : α) : Nat → α := fun j => if j = i then x else f j
theorem fz_u_eq {α : Type} {f : Nat → α} {i : Nat} {x : α} : fz_u f i x i = x := if_pos rfl
theorem fz_u_ne {α : Type} {f : Nat → α} {i j : Nat} {x : α} (h : ¬ j = i) : fz_u f i x j = f j := if_neg h
def fz_s (tn : Nat → Bool) : Nat → Nat
  | 0 => 0
  | i + 1 => if i = 0 ∨ tn i = true then i else fz_s tn i
def fz_wd (G : fz_X) (w : Nat → Nat) (tn : Nat → Bool) (i : Nat) : Nat × Nat := lb_r (fun j => gwn G (w j)) tn (gbl G) i
def fz_ec (G : fz_X) (w : Nat → Nat) (tn : Nat → Bool) : Nat → Bool
  | 0 => false
  | i + 1 => if i = 0 ∨ tn i = true then gex G (w i) (op_n tn (i + 1) - 1) else fz_ec G w tn i || gex G (w i) (op_n tn (i + 1) - 1)
def fz_al (G : fz_X) (w : Nat → Nat) (tn : Nat → Bool) : Nat → Bool
  | 0 => false
  | i + 1 => if i = 0 then false else if tn i = true then gal G (w (fz_s tn i)) (w i) else fz_al G w tn i
def fz_lc (G : fz_X) (w : Nat → Nat) (tn : Nat → Bool) (i : Nat) : Nat := gC G (op_n tn i - 1) (fz_wd G w tn i).2 (i - fz_s tn i) (fz_al G w tn i) (fz_ec G w tn i)
def fz_ct (G : fz_X) (w : Nat → Nat) (tn : Nat → Bool) : Nat → Nat
  | 0 => 0
  | i + 1 => fz_ct G w tn i + gls G (w i) + (if ¬ i = 0 ∧ tn i = true then fz_lc G w tn i else 0)
def fz_wk (w : Nat → Nat) : Nat → Nat
  | 0 => 0
  | i + 1 => fz_wk w i + w i * 2 ^ (6 + 4 * (5 - i))
def fz_tu (tn : Nat → Bool) : Nat → Nat
  | 0 => 0
  | i + 1 => fz_tu tn i + (if ¬ i = 0 ∧ tn i = true then 2 ^ (5 - i) else 0)
def fz_ac (G : fz_X) (w : Nat → Nat) (tn : Nat → Bool) (i : Nat) : Nat := 1073741824 * fz_ct G w tn i + fz_wk w i + fz_tu tn i
def fz_F (G : fz_X) (p : Nat) (w : Nat → Nat) (tn : Nat → Bool) (i : Nat) : fz_V := if op_n tn i ≤ gLN G ∧ (fz_wd G w tn i).1 ≤ ghr G then fz_ad (fz_ac G w tn i) (fz_R G (p - i) i (op_n tn i - 1) (fz_wd G w tn i).2 (fz_s tn i) (w (fz_s tn i)) (fz_al G w tn i) (fz_ec G w tn i)) else fz_e
theorem fz_s_lt {tn : Nat → Bool} : ∀ i, 0 < i → fz_s tn i < i := by
  intro i
  induction i with
  | zero => intro h; omega
  | succ i ih =>
    intro _
    rw [fz_s]
    split
    · omega
    · rename_i q
      have : ¬ i = 0 := fun z => q (Or.inl z)
      have := ih (by omega)
      omega
theorem fz_cg {G : fz_X} {w w' : Nat → Nat} {tn tn' : Nat → Bool} {n : Nat} (h : ∀ j, j < n → w j = w' j ∧ tn j = tn' j) : ∀ i, i ≤ n → op_n tn i = op_n tn' i ∧ fz_s tn i = fz_s tn' i ∧ fz_wd G w tn i = fz_wd G w' tn' i ∧ fz_ec G w tn i = fz_ec G w' tn' i ∧ fz_al G w tn i = fz_al G w' tn' i ∧ fz_ct G w tn i = fz_ct G w' tn' i ∧ fz_wk w i = fz_wk w' i ∧ fz_tu tn i = fz_tu tn' i := by
  intro i
  induction i with
  | zero => intro _; exact ⟨rfl, rfl, rfl, rfl, rfl, rfl, rfl, rfl⟩
  | succ i ih =>
    intro hi
    obtain ⟨a1, a2, a3, a4, a5, a6, a7, a8⟩ := ih (by omega)
    obtain ⟨hw, ht⟩ := h i (by omega)
    have en : op_n tn (i + 1) = op_n tn' (i + 1) := by rw [op_n, op_n, a1, ht]
    have el : fz_lc G w tn i = fz_lc G w' tn' i := by unfold fz_lc; rw [a1, a2, a3, a4, a5]
    refine ⟨en, ?_, ?_, ?_, ?_, ?_, ?_, ?_⟩
    · rw [fz_s, fz_s, a2, ht]
    · unfold fz_wd at a3 ⊢
      rw [lb_r, lb_r, a3, ht, hw]
    · rw [fz_ec, fz_ec, a4, ht, hw, en]
    · rw [fz_al, fz_al, a5, a2, ht, hw]
      by_cases e : i = 0
      · rw [if_pos e, if_pos e]
      · rw [if_neg e, if_neg e, (h (fz_s tn' i) (by have := fz_s_lt (tn := tn') i (by omega); omega)).1]
    · rw [fz_ct, fz_ct, a6, ht, hw, el]
    · rw [fz_wk, fz_wk, a7, hw]
    · rw [fz_tu, fz_tu, a8, ht]
theorem fz_F_cg {G : fz_X} {p : Nat} {w w' : Nat → Nat} {tn tn' : Nat → Bool} {n : Nat} (h : ∀ j, j < n → w j = w' j ∧ tn j = tn' j) (hn : 1 ≤ n) : fz_F G p w tn n = fz_F G p w' tn' n := by
  obtain ⟨a1, a2, a3, a4, a5, a6, a7, a8⟩ := fz_cg (G := G) h n (Nat.le_refl _)
  unfold fz_F fz_ac
  rw [a1, a2, a3, a4, a5, a6, a7, a8, (h (fz_s tn' n) (fz_s_lt n hn)).1]
theorem fz_F_st {G : fz_X} {p i : Nat} {w : Nat → Nat} {tn : Nat → Bool} (hi : 1 ≤ i) (hp : i < p) : fz_F G p w tn i = fz_S (fun k => fz_o (fz_F G p (fz_u w i (gopt G i k)) (fz_u tn i false) (i + 1)) (fz_F G p (fz_u w i (gopt G i k)) (fz_u tn i true) (i + 1))) (glen G i) := by
  have nn : 1 ≤ op_n tn i := (op_n_le i).2 hi
  have i0 : ¬ i = 0 := by omega
  -- what stands so far, at the next place
  have nx : ∀ (x : Nat) (b : Bool), op_n (fz_u tn i b) i = op_n tn i ∧ fz_s (fz_u tn i b) i = fz_s tn i ∧ fz_wd G (fz_u w i x) (fz_u tn i b) i = fz_wd G w tn i ∧ fz_ec G (fz_u w i x) (fz_u tn i b) i = fz_ec G w tn i ∧ fz_al G (fz_u w i x) (fz_u tn i b) i = fz_al G w tn i ∧ fz_ct G (fz_u w i x) (fz_u tn i b) i = fz_ct G w tn i ∧ fz_wk (fz_u w i x) i = fz_wk w i ∧ fz_tu (fz_u tn i b) i = fz_tu tn i :=
    fun x b => fz_cg (fun j hj => ⟨fz_u_ne (by omega), fz_u_ne (by omega)⟩) i (Nat.le_refl _)
  have sl := fz_s_lt (tn := tn) i (by omega)
  have lc : ∀ (x : Nat) (b : Bool), fz_lc G (fz_u w i x) (fz_u tn i b) i = fz_lc G w tn i := by
    intro x b
    obtain ⟨a1, a2, a3, a4, a5, a6, a7, a8⟩ := nx x b
    unfold fz_lc
    rw [a1, a2, a3, a4, a5]
  -- no TURN
  have fF : ∀ x, fz_F G p (fz_u w i x) (fz_u tn i false) (i + 1) = if op_n tn i ≤ gLN G ∧ max (fz_wd G w tn i).1 ((fz_wd G w tn i).2 + gbl G + gwn G x) ≤ ghr G then fz_ad (fz_ac G w tn i + fz_ck G i x) (fz_R G (p - (i + 1)) (i + 1) (op_n tn i - 1) ((fz_wd G w tn i).2 + gbl G + gwn G x) (fz_s tn i) (w (fz_s tn i)) (fz_al G w tn i) (fz_ec G w tn i || gex G x (op_n tn i - 1))) else fz_e := by
    intro x
    obtain ⟨a1, a2, a3, a4, a5, a6, a7, a8⟩ := nx x false
    have hb : ¬ (i = 0 ∨ fz_u tn i false i = true) := by rw [fz_u_eq]; simp [i0]
    have hb2 : ¬ (¬ i = 0 ∧ fz_u tn i false i = true) := by rw [fz_u_eq]; simp
    have e1 : op_n (fz_u tn i false) (i + 1) = op_n tn i := by rw [op_n, if_neg hb, a1]
    have e2 : fz_s (fz_u tn i false) (i + 1) = fz_s tn i := by rw [fz_s, if_neg hb, a2]
    have e3 : fz_wd G (fz_u w i x) (fz_u tn i false) (i + 1) = (max (fz_wd G w tn i).1 ((fz_wd G w tn i).2 + gbl G + gwn G x), (fz_wd G w tn i).2 + gbl G + gwn G x) := by
      rw [← a3]
      unfold fz_wd
      rw [lb_r, if_neg hb, fz_u_eq]
    have e4 : fz_ec G (fz_u w i x) (fz_u tn i false) (i + 1) = (fz_ec G w tn i || gex G x (op_n tn i - 1)) := by rw [fz_ec, if_neg hb, e1, a4, fz_u_eq]
    have e5 : fz_al G (fz_u w i x) (fz_u tn i false) (i + 1) = fz_al G w tn i := by rw [fz_al, if_neg i0, if_neg (by rw [fz_u_eq]; simp), a5]
    have e6 : fz_ac G (fz_u w i x) (fz_u tn i false) (i + 1) = fz_ac G w tn i + fz_ck G i x := by
      unfold fz_ac fz_ck
      rw [fz_ct, fz_wk, fz_tu, if_neg hb2, if_neg hb2, fz_u_eq, a6, a7, a8]
      omega
    unfold fz_F
    rw [e1, e2, e3, e4, e5, e6, fz_u_ne (by omega)]
  -- a TURN
  have fT : ∀ x, fz_F G p (fz_u w i x) (fz_u tn i true) (i + 1) = if op_n tn i + 1 ≤ gLN G ∧ max (fz_wd G w tn i).1 (gwn G x) ≤ ghr G then fz_ad (fz_ac G w tn i + (1073741824 * fz_lc G w tn i + (fz_tk i + fz_ck G i x))) (fz_R G (p - (i + 1)) (i + 1) (op_n tn i) (gwn G x) i x (gal G (w (fz_s tn i)) x) (gex G x (op_n tn i))) else fz_e := by
    intro x
    obtain ⟨a1, a2, a3, a4, a5, a6, a7, a8⟩ := nx x true
    have hb : i = 0 ∨ fz_u tn i true i = true := Or.inr fz_u_eq
    have hb2 : ¬ i = 0 ∧ fz_u tn i true i = true := ⟨i0, fz_u_eq⟩
    have e1 : op_n (fz_u tn i true) (i + 1) = op_n tn i + 1 := by rw [op_n, if_pos hb, a1]
    have e2 : fz_s (fz_u tn i true) (i + 1) = i := by rw [fz_s, if_pos hb]
    have e3 : fz_wd G (fz_u w i x) (fz_u tn i true) (i + 1) = (max (fz_wd G w tn i).1 (gwn G x), gwn G x) := by
      rw [← a3]
      unfold fz_wd
      rw [lb_r, if_pos hb, fz_u_eq]
    have e4 : fz_ec G (fz_u w i x) (fz_u tn i true) (i + 1) = gex G x (op_n tn i) := by rw [fz_ec, if_pos hb, e1, fz_u_eq, Nat.add_sub_cancel]
    have e5 : fz_al G (fz_u w i x) (fz_u tn i true) (i + 1) = gal G (w (fz_s tn i)) x := by rw [fz_al, if_neg i0, if_pos fz_u_eq, a2, fz_u_eq, fz_u_ne (by omega)]
    have e6 : fz_ac G (fz_u w i x) (fz_u tn i true) (i + 1) = fz_ac G w tn i + (1073741824 * fz_lc G w tn i + (fz_tk i + fz_ck G i x)) := by
      unfold fz_ac fz_ck fz_tk
      rw [fz_ct, fz_wk, fz_tu, if_pos hb2, if_pos hb2, if_neg i0, fz_u_eq, a6, a7, a8, lc]
      omega
    unfold fz_F
    rw [e1, e2, e3, e4, e5, e6, fz_u_eq, Nat.add_sub_cancel]
  by_cases ok : op_n tn i ≤ gLN G ∧ (fz_wd G w tn i).1 ≤ ghr G
  · have e0 : fz_F G p w tn i = fz_ad (fz_ac G w tn i) (fz_R G ((p - (i + 1)) + 1) i (op_n tn i - 1) (fz_wd G w tn i).2 (fz_s tn i) (w (fz_s tn i)) (fz_al G w tn i) (fz_ec G w tn i)) := by
      unfold fz_F
      rw [if_pos ok, show p - i = (p - (i + 1)) + 1 by omega]
    rw [e0, fz_R_1, fz_ad_o, fz_S_o, fz_S_ad (k := fz_ac G w tn i)]
    congr 1
    · refine fz_S_cg fun k _ => ?_
      rw [fF]
      unfold fz_W
      by_cases h : (fz_wd G w tn i).2 + gbl G + gwn G (gopt G i k) ≤ ghr G
      · rw [if_pos h, if_pos ⟨ok.1, by omega⟩, fz_ad_ad]
      · rw [if_neg h, if_neg (fun z => h (by omega))]
        rfl
    · by_cases hl : op_n tn i - 1 + 1 < gLN G
      · rw [if_pos hl, fz_ad_ad, fz_S_ad]
        refine fz_S_cg fun k _ => ?_
        rw [fT]
        unfold fz_T
        by_cases h : gwn G (gopt G i k) ≤ ghr G
        · rw [if_pos h, if_pos ⟨by omega, by omega⟩, fz_ad_ad, show op_n tn i - 1 + 1 = op_n tn i by omega]
          unfold fz_lc
          rw [Nat.add_assoc]
        · rw [if_neg h, if_neg (fun z => h (by omega))]
          rfl
      · rw [if_neg hl, fz_ad_e]
        refine (fz_S_z (glen G i)).symm.trans (fz_S_cg fun k _ => ?_)
        rw [fT, if_neg (fun z => hl (by omega))]
  · have e0 : fz_F G p w tn i = fz_e := by unfold fz_F; rw [if_neg ok]
    rw [e0]
    refine (fz_S_z (glen G i)).symm.trans (fz_S_cg fun k _ => ?_)
    rw [fF, fT, if_neg (fun z => ok ⟨z.1, by omega⟩), if_neg (fun z => ok ⟨by omega, by omega⟩)]
    rfl
/-- numbers of rows, place by place -/
theorem op_q_st {len : Nat → Nat} {i x : Nat} : ∀ s, op_q len (i + 1) x (s + 1) = op_q len i (x / len i) s := by
  intro s
  induction s with
  | zero => rfl
  | succ s ih =>
    rw [op_q, ih, op_q, show i + 1 - 1 - (s + 1) = i - 1 - s by omega]
theorem op_d_st {len : Nat → Nat} {i q k j : Nat} (hk : k < len i) (hj : j ≤ i) : op_d len (i + 1) (q * len i + k) j = if j = i then k else op_d len i q j := by
  by_cases e : j = i
  · subst e
    rw [if_pos rfl]
    unfold op_d
    rw [show j + 1 - 1 - j = 0 by omega, op_q, Nat.mul_comm, Nat.mul_add_mod, Nat.mod_eq_of_lt hk]
  · rw [if_neg e]
    unfold op_d
    rw [show i + 1 - 1 - j = (i - 1 - j) + 1 by omega, op_q_st, Nat.mul_comm, Nat.mul_add_div (by omega), Nat.div_eq_of_lt hk, Nat.add_zero]
theorem op_t_st : ∀ i : Fin 6, 1 ≤ i.1 → ∀ z : Fin 16, z.1 < 2 ^ (i.1 - 1) → ∀ b : Fin 2, ∀ j : Fin 6, j.1 ≤ i.1 → op_t (i.1 + 1) (z.1 * 2 + b.1) j.1 = if j.1 = i.1 then decide (b.1 = 1) else op_t i.1 z.1 j.1 := by decide +kernel
def fz_w (G : fz_X) (i q : Nat) (j : Nat) : Nat := gopt G j (op_d (glen G) i q j)
theorem fz_G_st {G : fz_X} {p i : Nat} (hi : 1 ≤ i) (hp : i < p) (p6 : p ≤ 6) : fz_S (fun q => fz_S (fun z => fz_F G p (fz_w G i q) (op_t i z) i) (2 ^ (i - 1))) (li_p (glen G) i) = fz_S (fun q => fz_S (fun z => fz_F G p (fz_w G (i + 1) q) (op_t (i + 1) z) (i + 1)) (2 ^ (i + 1 - 1))) (li_p (glen G) (i + 1)) := by
  rw [li_p, fz_S_mul (glen G i)]
  refine fz_S_cg fun q _ => ?_
  have e2 : 2 ^ (i + 1 - 1) = 2 ^ (i - 1) * 2 := by rw [← Nat.pow_succ]; congr 1; omega
  have e3 : (fun y => fz_S (fun z => fz_F G p (fz_w G (i + 1) (q * glen G i + y)) (op_t (i + 1) z) (i + 1)) (2 ^ (i + 1 - 1))) = fun y => fz_S (fun z => fz_S (fun b => fz_F G p (fz_w G (i + 1) (q * glen G i + y)) (op_t (i + 1) (z * 2 + b)) (i + 1)) 2) (2 ^ (i - 1)) := by
    funext y
    rw [e2, fz_S_mul 2]
  rw [e3, fz_S_sw]
  refine fz_S_cg fun z hz => ?_
  have z16 : z < 16 := Nat.lt_of_lt_of_le hz (Nat.le_trans (Nat.pow_le_pow_right (by omega) (show i - 1 ≤ 4 by omega)) (by decide))
  rw [fz_F_st hi hp]
  refine fz_S_cg fun k hk => ?_
  have cg : ∀ b : Fin 2, fz_F G p (fz_u (fz_w G i q) i (gopt G i k)) (fz_u (op_t i z) i (decide (b.1 = 1))) (i + 1) = fz_F G p (fz_w G (i + 1) (q * glen G i + k)) (op_t (i + 1) (z * 2 + b.1)) (i + 1) := by
    intro b
    refine fz_F_cg (fun j hj => ⟨?_, ?_⟩) (by omega)
    · unfold fz_w
      rw [op_d_st hk (by omega)]
      by_cases e : j = i
      · subst e; rw [fz_u_eq, if_pos rfl]
      · rw [fz_u_ne e, if_neg e]
    · rw [op_t_st ⟨i, by omega⟩ hi ⟨z, z16⟩ hz b ⟨j, by omega⟩ (show j ≤ i by omega)]
      by_cases e : j = i
      · subst e; rw [fz_u_eq, if_pos rfl]
      · rw [fz_u_ne e, if_neg e]
  have c0 := cg ⟨0, by omega⟩
  have c1 := cg ⟨1, by omega⟩
  rw [show decide ((⟨0, by omega⟩ : Fin 2).1 = 1) = false from rfl] at c0
  rw [show decide ((⟨1, by omega⟩ : Fin 2).1 = 1) = true from rfl] at c1
  rw [fz_S, fz_S, fz_S, fz_e_o, c0, c1]
theorem fz_G_all {G : fz_X} {p : Nat} (p6 : p ≤ 6) : ∀ i, 1 ≤ i → i ≤ p → fz_S (fun q => fz_S (fun z => fz_F G p (fz_w G 1 q) (op_t 1 z) 1) (2 ^ (1 - 1))) (li_p (glen G) 1) = fz_S (fun q => fz_S (fun z => fz_F G p (fz_w G i q) (op_t i z) i) (2 ^ (i - 1))) (li_p (glen G) i) := by
  intro i
  induction i with
  | zero => intro h; omega
  | succ i ih =>
    intro _ hp
    by_cases e : i = 0
    · subst e; rfl
    · rw [ih (by omega) (by omega)]
      exact fz_G_st (by omega) (by omega) p6
/-- what a whole row costs, and its key -/
def fz_cs (G : fz_X) (p : Nat) (w : Nat → Nat) (tn : Nat → Bool) : Nat := fz_ct G w tn p + fz_lc G w tn p
def fz_lo (w : Nat → Nat) (tn : Nat → Bool) (p : Nat) : Nat := fz_wk w p + fz_tu tn p
def fz_ky (G : fz_X) (p : Nat) (w : Nat → Nat) (tn : Nat → Bool) : Nat := 1073741824 * fz_cs G p w tn + fz_lo w tn p
def fz_rw (G : fz_X) (p r : Nat) : Nat → Nat := fz_w G p (r / 2 ^ (p - 1))
def fz_rt (p r : Nat) : Nat → Bool := op_t p (r % 2 ^ (p - 1))
def fz_rk (G : fz_X) (p r : Nat) : Bool := decide (op_n (fz_rt p r) p ≤ gLN G) && decide ((fz_wd G (fz_rw G p r) (fz_rt p r) p).1 ≤ ghr G)
theorem fz_main {G : fz_X} {p : Nat} (p1 : 1 ≤ p) (p6 : p ≤ 6) (hG : fz_ok G p) : fz_S (fun k => fz_T G (p - 1) 0 0 k false) (glen G 0) = fz_S (fun r => if fz_rk G p r = true then (1, some (fz_ky G p (fz_rw G p r) (fz_rt p r))) else fz_e) (li_p (glen G) p * 2 ^ (p - 1)) := by
  have s1 : fz_S (fun q => fz_S (fun z => fz_F G p (fz_w G 1 q) (op_t 1 z) 1) (2 ^ (1 - 1))) (li_p (glen G) 1) = fz_S (fun k => fz_T G (p - 1) 0 0 k false) (glen G 0) := by
    rw [li_p, li_p, Nat.one_mul]
    refine fz_S_cg fun k hk => ?_
    rw [show 2 ^ (1 - 1) = 1 from rfl, fz_S, fz_S, fz_e_o]
    have ew : fz_w G 1 k 0 = gopt G 0 k := by
      unfold fz_w op_d
      rw [show 1 - 1 - 0 = 0 by omega, op_q, Nat.mod_eq_of_lt hk]
    have L1 := hG.1.1
    have cnd : (op_n (op_t 1 0) 1 ≤ gLN G ∧ (fz_wd G (fz_w G 1 k) (op_t 1 0) 1).1 ≤ ghr G) ↔ gwn G (gopt G 0 k) ≤ ghr G := by
      have e1 : op_n (op_t 1 0) 1 = 1 := rfl
      have e2 : (fz_wd G (fz_w G 1 k) (op_t 1 0) 1).1 = max 0 (gwn G (fz_w G 1 k 0)) := rfl
      rw [e1, e2, ew]
      constructor
      · intro h; omega
      · intro h; exact ⟨L1, by omega⟩
    unfold fz_F fz_T
    by_cases h : gwn G (gopt G 0 k) ≤ ghr G
    · rw [if_pos (cnd.mpr h), if_pos h]
      have ea : fz_ac G (fz_w G 1 k) (op_t 1 0) 1 = fz_tk 0 + fz_ck G 0 (gopt G 0 k) := by
        show 1073741824 * (0 + gls G (fz_w G 1 k 0) + 0) + (0 + fz_w G 1 k 0 * 2 ^ (6 + 4 * (5 - 0))) + (0 + 0) = 0 + (1073741824 * gls G (gopt G 0 k) + gopt G 0 k * 2 ^ (6 + 4 * (5 - 0)))
        rw [ew]
        omega
      rw [ea]
      have e3 : (fz_wd G (fz_w G 1 k) (op_t 1 0) 1).2 = gwn G (gopt G 0 k) := by
        show gwn G (fz_w G 1 k 0) = _
        rw [ew]
      have e4 : fz_w G 1 k (fz_s (op_t 1 0) 1) = gopt G 0 k := ew
      have e5 : fz_ec G (fz_w G 1 k) (op_t 1 0) 1 = gex G (gopt G 0 k) 0 := by
        show gex G (fz_w G 1 k 0) 0 = _
        rw [ew]
      rw [e3, e4, e5]
      rfl
    · rw [if_neg (fun z => h (cnd.mp z)), if_neg h]
  have s2 := fz_G_all (G := G) p6 p p1 (Nat.le_refl _)
  rw [← s1, s2, fz_S_mul]
  refine fz_S_cg fun q _ => fz_S_cg fun z hz => ?_
  have e1 : (q * 2 ^ (p - 1) + z) / 2 ^ (p - 1) = q := by rw [Nat.mul_comm, Nat.mul_add_div (by omega), Nat.div_eq_of_lt hz, Nat.add_zero]
  have e2 : (q * 2 ^ (p - 1) + z) % 2 ^ (p - 1) = z := by rw [Nat.mul_comm, Nat.mul_add_mod, Nat.mod_eq_of_lt hz]
  unfold fz_F fz_rk fz_rw fz_rt
  rw [e1, e2]
  by_cases h : op_n (op_t p z) p ≤ gLN G ∧ (fz_wd G (fz_w G p q) (op_t p z) p).1 ≤ ghr G
  · rw [if_pos h, if_pos (by rw [Bool.and_eq_true, decide_eq_true_eq, decide_eq_true_eq]; exact h), Nat.sub_self, fz_R]
    show (1, some (fz_ac G (fz_w G p q) (op_t p z) p + 1073741824 * fz_lc G (fz_w G p q) (op_t p z) p)) = _
    congr 2
    unfold fz_ky fz_cs fz_lo fz_ac
    omega
  · rw [if_neg h, if_neg (by rw [Bool.and_eq_true, decide_eq_true_eq, decide_eq_true_eq]; exact h)]
/-- keys go as rows go -/
theorem fz_wk_hi {w : Nat → Nat} : ∀ i, i ≤ 6 → (∀ j, j < i → w j < 16) → fz_wk w i + 2 ^ (6 + 4 * (6 - i)) ≤ 1073741824 := by
  intro i
  induction i with
  | zero =>
    intro _ _
    show 0 + 2 ^ (6 + 4 * (6 - 0)) ≤ 1073741824
    decide
  | succ i ih =>
    intro h hw
    have a := ih (by omega) (fun j hj => hw j (by omega))
    have b := hw i (by omega)
    rw [show 6 - i = (5 - i) + 1 by omega, show 6 + 4 * (5 - i + 1) = (6 + 4 * (5 - i)) + 4 by omega, Nat.pow_add] at a
    rw [fz_wk, show 6 - (i + 1) = 5 - i by omega]
    have c : w i * 2 ^ (6 + 4 * (5 - i)) ≤ 15 * 2 ^ (6 + 4 * (5 - i)) := Nat.mul_le_mul_right _ (by omega)
    omega
theorem fz_wk_mo {G : fz_X} {p : Nat} (hG : fz_ok G p) (hO : ∀ j a b, j < p → a < b → b < glen G j → gopt G j a < gopt G j b) (p6 : p ≤ 6) : ∀ i, i ≤ p → ∀ q q', q < q' → q' < li_p (glen G) i → fz_wk (fz_w G i q) i + 2 ^ (6 + 4 * (6 - i)) ≤ fz_wk (fz_w G i q') i := by
  intro i
  induction i with
  | zero => intro _ q q' h h'; rw [li_p] at h'; omega
  | succ i ih =>
    intro hi q q' h h'
    have hl := (hG.2.1 i (by omega)).1
    rw [li_p] at h'
    -- a row is a row of one place less, and an option
    have sp : ∀ x, fz_wk (fz_w G (i + 1) x) (i + 1) = fz_wk (fz_w G i (x / glen G i)) i + gopt G i (x % glen G i) * 2 ^ (6 + 4 * (5 - i)) := by
      intro x
      have hm : x % glen G i < glen G i := Nat.mod_lt _ (by omega)
      have ex : x = x / glen G i * glen G i + x % glen G i := by rw [Nat.mul_comm]; exact (Nat.div_add_mod x _).symm
      have cg : ∀ j, j ≤ i → fz_w G (i + 1) x j = if j = i then gopt G i (x % glen G i) else fz_w G i (x / glen G i) j := by
        intro j hj
        unfold fz_w
        conv => lhs; rw [ex]
        rw [op_d_st hm hj]
        by_cases e : j = i
        · subst e; rw [if_pos rfl, if_pos rfl]
        · rw [if_neg e, if_neg e]
      rw [fz_wk, cg i (Nat.le_refl _), if_pos rfl]
      congr 1
      exact (fz_cg (G := G) (w := fz_w G (i + 1) x) (w' := fz_w G i (x / glen G i)) (tn := fun _ => false) (tn' := fun _ => false) (n := i) (fun j hj => ⟨by rw [cg j (by omega), if_neg (by omega)], rfl⟩) i (Nat.le_refl _)).2.2.2.2.2.2.1
    rw [sp, sp, show 6 - (i + 1) = 5 - i by omega]
    have hm : q % glen G i < glen G i := Nat.mod_lt _ (by omega)
    have hm' : q' % glen G i < glen G i := Nat.mod_lt _ (by omega)
    have o1 := hG.2.2.1 i _ (by omega) hm
    have ex : q = glen G i * (q / glen G i) + q % glen G i := (Nat.div_add_mod q _).symm
    have ex' : q' = glen G i * (q' / glen G i) + q' % glen G i := (Nat.div_add_mod q' _).symm
    have c : gopt G i (q % glen G i) * 2 ^ (6 + 4 * (5 - i)) ≤ 15 * 2 ^ (6 + 4 * (5 - i)) := Nat.mul_le_mul_right _ (by omega)
    have dl : q / glen G i ≤ q' / glen G i := Nat.div_le_div_right (by omega)
    by_cases e : q / glen G i = q' / glen G i
    · have lt : q % glen G i < q' % glen G i := by
        rw [e] at ex
        omega
      have := hO i _ _ (by omega) lt hm'
      have c2 : (gopt G i (q % glen G i) + 1) * 2 ^ (6 + 4 * (5 - i)) ≤ gopt G i (q' % glen G i) * 2 ^ (6 + 4 * (5 - i)) := Nat.mul_le_mul_right _ this
      rw [Nat.succ_mul] at c2
      rw [e]
      omega
    · have hq' : q' / glen G i < li_p (glen G) i := Nat.div_lt_of_lt_mul (by rw [Nat.mul_comm]; exact h')
      have a := ih (by omega) _ _ (show q / glen G i < q' / glen G i by omega) hq'
      rw [show 6 - i = (5 - i) + 1 by omega, show 6 + 4 * (5 - i + 1) = (6 + 4 * (5 - i)) + 4 by omega, Nat.pow_add] at a
      omega
theorem fz_tu_z : ∀ p : Fin 7, 1 ≤ p.1 → ∀ z : Fin 32, z.1 < 2 ^ (p.1 - 1) → fz_tu (op_t p.1 z.1) p.1 = z.1 * 2 ^ (6 - p.1) := by decide +kernel
theorem op_d_lt {len : Nat → Nat} {p q j : Nat} (h : 1 ≤ len j) : op_d len p q j < len j := Nat.mod_lt _ (by omega)
theorem fz_lo_mo {G : fz_X} {p r r' : Nat} (hG : fz_ok G p) (hO : ∀ j a b, j < p → a < b → b < glen G j → gopt G j a < gopt G j b) (p1 : 1 ≤ p) (p6 : p ≤ 6) (h : r < r') (h' : r' < li_p (glen G) p * 2 ^ (p - 1)) : fz_lo (fz_rw G p r) (fz_rt p r) p < fz_lo (fz_rw G p r') (fz_rt p r') p := by
  have zp : 0 < 2 ^ (p - 1) := Nat.pow_pos (by omega)
  have z32 : 2 ^ (p - 1) ≤ 32 := Nat.le_trans (Nat.pow_le_pow_right (by omega) (show p - 1 ≤ 5 by omega)) (by decide)
  have m1 := Nat.mod_lt r zp
  have m2 := Nat.mod_lt r' zp
  have t1 := fz_tu_z ⟨p, by omega⟩ p1 ⟨r % 2 ^ (p - 1), by omega⟩ m1
  have t2 := fz_tu_z ⟨p, by omega⟩ p1 ⟨r' % 2 ^ (p - 1), by omega⟩ m2
  dsimp only at t1 t2
  have pp : 2 ^ (p - 1) * 2 ^ (6 - p) = 32 := by
    rw [← Nat.pow_add, show p - 1 + (6 - p) = 5 by omega]
  have b1 : (r % 2 ^ (p - 1)) * 2 ^ (6 - p) < 2 ^ (p - 1) * 2 ^ (6 - p) := Nat.mul_lt_mul_of_pos_right m1 (Nat.pow_pos (by omega))
  unfold fz_lo fz_rw fz_rt
  rw [t1, t2]
  have ex : r = 2 ^ (p - 1) * (r / 2 ^ (p - 1)) + r % 2 ^ (p - 1) := (Nat.div_add_mod r _).symm
  have ex' : r' = 2 ^ (p - 1) * (r' / 2 ^ (p - 1)) + r' % 2 ^ (p - 1) := (Nat.div_add_mod r' _).symm
  have dl : r / 2 ^ (p - 1) ≤ r' / 2 ^ (p - 1) := Nat.div_le_div_right (by omega)
  by_cases e : r / 2 ^ (p - 1) = r' / 2 ^ (p - 1)
  · have lt : r % 2 ^ (p - 1) < r' % 2 ^ (p - 1) := by
      rw [e] at ex
      omega
    have : (r % 2 ^ (p - 1)) * 2 ^ (6 - p) < (r' % 2 ^ (p - 1)) * 2 ^ (6 - p) := Nat.mul_lt_mul_of_pos_right lt (Nat.pow_pos (by omega))
    rw [e]
    omega
  · have a := fz_wk_mo hG hO p6 p (Nat.le_refl _) _ _ (show r / 2 ^ (p - 1) < r' / 2 ^ (p - 1) by omega) (Nat.div_lt_of_lt_mul (by rw [Nat.mul_comm]; exact h'))
    have b : 2 ^ 6 ≤ 2 ^ (6 + 4 * (6 - p)) := Nat.pow_le_pow_right (by omega) (by omega)
    omega
theorem fz_lo_hi {G : fz_X} {p r : Nat} (hG : fz_ok G p) (p1 : 1 ≤ p) (p6 : p ≤ 6) : fz_wk (fz_rw G p r) p + 64 ≤ 1073741824 ∧ fz_tu (fz_rt p r) p < 32 ∧ fz_lo (fz_rw G p r) (fz_rt p r) p < 1073741824 := by
  have zp : 0 < 2 ^ (p - 1) := Nat.pow_pos (by omega)
  have z32 : 2 ^ (p - 1) ≤ 32 := Nat.le_trans (Nat.pow_le_pow_right (by omega) (show p - 1 ≤ 5 by omega)) (by decide)
  have m1 := Nat.mod_lt r zp
  have t1 := fz_tu_z ⟨p, by omega⟩ p1 ⟨r % 2 ^ (p - 1), by omega⟩ m1
  dsimp only at t1
  have pp : 2 ^ (p - 1) * 2 ^ (6 - p) = 32 := by
    rw [← Nat.pow_add, show p - 1 + (6 - p) = 5 by omega]
  have b1 : (r % 2 ^ (p - 1)) * 2 ^ (6 - p) < 2 ^ (p - 1) * 2 ^ (6 - p) := Nat.mul_lt_mul_of_pos_right m1 (Nat.pow_pos (by omega))
  have a := fz_wk_hi (w := fz_rw G p r) p p6 (fun j hj => hG.2.2.1 j _ hj (op_d_lt (hG.2.1 j hj).1))
  have b : 2 ^ 6 ≤ 2 ^ (6 + 4 * (6 - p)) := Nat.pow_le_pow_right (by omega) (by omega)
  have e : fz_tu (fz_rt p r) p = r % 2 ^ (p - 1) * 2 ^ (6 - p) := t1
  unfold fz_lo
  rw [e]
  omega
