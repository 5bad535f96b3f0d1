/-! says -/
def pr_b (ok : Nat → Bool) (wn : Nat → Nat) : Nat → Option Nat
  | 0 => none
  | n + 1 => if ok n = true then (match pr_b ok wn n with
    | none => some n
    | some b => if wn b ≤ wn n then some b else some n) else pr_b ok wn n
theorem pr_b_lt {ok : Nat → Bool} {wn : Nat → Nat} : ∀ n b, pr_b ok wn n = some b → b < n := by
  intro n
  induction n with
  | zero => intro b h; cases h
  | succ n ih =>
    intro b h
    rw [pr_b] at h
    split at h
    · split at h
      · cases h; omega
      · rename_i q hq
        split at h
        · cases h; have := ih _ hq; omega
        · cases h; omega
    · have := ih _ h; omega
theorem pr_mb {ok : Nat → Bool} {ww : Nat → Int32} {wn : Nat → Nat} {w : Nat} (h : ∀ i, i < w → ww i = nI (wn i) ∧ wn i ≤ 360) : ∀ n, n ≤ w → pr_m ok ww n = match pr_b ok wn n with
    | none => -1
    | some b => nI (wn b) := by
  intro n
  induction n with
  | zero => intro _; rfl
  | succ n ih =>
    intro hn
    rw [pr_m, pr_b, ih (by omega)]
    by_cases e : ok n = true
    · rw [if_pos e, if_pos e]
      cases hb : pr_b ok wn n with
      | none =>
        dsimp only
        rw [if_pos rfl]
        exact (h n (by omega)).1
      | some b =>
        dsimp only
        have b1 := pr_b_lt n b hb
        obtain ⟨n1, n2⟩ := h n (by omega)
        obtain ⟨_, b2⟩ := h b (by omega)
        rw [if_neg (hf_nm1 (by omega)), n1]
        by_cases q : wn b ≤ wn n
        · rw [if_pos (nI_le q (by omega)), if_pos q]
        · rw [if_neg (fun z => q ((nI_leI (by omega) (by omega)).mp z)), if_neg q]
    · rw [if_neg e, if_neg e]
/-- how broad some places are, said in one LINE -/
def sy_W (nw : Nat → Option Nat) (s : Int32) : Nat → Option Nat
  | 0 => some 0
  | i + 1 => (sy_W nw s i).bind fun τ => if bt s i = 0 then some τ else (nw i).map fun m => τ + m
def sy_k (s : Int32) (i : Nat) : Nat := ed_sum (ed_F (fun _ => 1) s) (fun j => j) i
def sy_w (nw : Nat → Option Nat) (bl p : Nat) (s : Int32) : Option Nat := (sy_W nw s p).map fun τ => τ + (sy_k s p - 1) * bl
theorem sy_W_no {nw : Nat → Option Nat} {s : Int32} {i : Nat} (h : sy_W nw s i = none) : ∀ n, i ≤ n → sy_W nw s n = none := by
  intro n hn
  induction n with
  | zero =>
    obtain rfl : i = 0 := by omega
    exact h
  | succ n ih =>
    by_cases e : i = n + 1
    · subst e; exact h
    · rw [sy_W, ih (by omega)]; rfl
theorem sy_W_le {nw : Nat → Option Nat} {s : Int32} (hm : ∀ j m, nw j = some m → m ≤ 360) : ∀ i τ, sy_W nw s i = some τ → τ ≤ 360 * i := by
  intro i
  induction i with
  | zero => intro τ h; cases h; exact Nat.le_refl _
  | succ i ih =>
    intro τ h
    rw [sy_W] at h
    cases e : sy_W nw s i with
    | none => rw [e] at h; cases h
    | some q =>
      rw [e, Option.bind_some] at h
      have := ih q e
      split at h
      · cases h; omega
      · cases hn : nw i with
        | none => rw [hn] at h; cases h
        | some m =>
          rw [hn] at h
          have := hm i m hn
          cases h
          dsimp only
          omega
theorem sy_k_le {s : Int32} {i : Nat} : sy_k s i ≤ i := by
  have := ed_sum_le (F := ed_F (fun _ => 1) s) (o := fun j => j) (b := 1) (fun j => by unfold ed_F; split; exact Nat.zero_le _; exact Nat.le_refl _) i
  unfold sy_k
  omega
def sy_B (nw : Nat → Option Nat) (wo : Nat → Nat) (bl p hairs : Nat) : Nat → Nat × Nat × Nat
  | 0 => (0, 0, 0)
  | k + 1 => match sy_w nw bl p (nI (k + 1)) with
    | none => sy_B nw wo bl p hairs k
    | some q => if q ≤ hairs ∧ (sy_B nw wo bl p hairs k).1 < ed_V wo (nI (k + 1)) p then (ed_V wo (nI (k + 1)) p, k + 1, q) else sy_B nw wo bl p hairs k
theorem sy_0 {nw : Nat → Option Nat} {wo : Nat → Nat} : ∀ p, p ≤ 6 → sy_W nw 0 p = some 0 ∧ ed_V wo 0 p = 0 ∧ sy_k 0 p = 0 := by
  have z : ∀ j : Fin 8, bt 0 j.1 = 0 := by decide
  intro p
  induction p with
  | zero => intro _; exact ⟨rfl, rfl, rfl⟩
  | succ p ih =>
    intro hp
    obtain ⟨a1, a2, a3⟩ := ih (by omega)
    have zp := z ⟨p, by omega⟩
    refine ⟨by rw [sy_W, a1, Option.bind_some, if_pos zp], ?_, ?_⟩
    · unfold ed_V at a2 ⊢
      rw [ed_sum, a2, show ed_F wo 0 p = 0 from if_pos zp]
    · unfold sy_k at a3 ⊢
      rw [ed_sum, a3, show ed_F (fun _ => 1) 0 p = 0 from if_pos zp]
theorem sy_B_t {nw : Nat → Option Nat} {wo : Nat → Nat} {bl p hairs : Nat} (hp : p ≤ 6) (hw : ∀ j, wo j ≤ 99) : ∀ k, sy_w nw bl p (nI (sy_B nw wo bl p hairs k).2.1) = some (sy_B nw wo bl p hairs k).2.2 ∧ ed_V wo (nI (sy_B nw wo bl p hairs k).2.1) p = (sy_B nw wo bl p hairs k).1 ∧ (sy_B nw wo bl p hairs k).2.1 ≤ k ∧ (sy_B nw wo bl p hairs k).1 ≤ 594 := by
  intro k
  induction k with
  | zero =>
    obtain ⟨a1, a2, a3⟩ := sy_0 (nw := nw) (wo := wo) p hp
    refine ⟨?_, a2, Nat.le_refl _, by show 0 ≤ 594; omega⟩
    show sy_w nw bl p 0 = some 0
    unfold sy_w
    rw [a1, a3]
    simp
  | succ k ih =>
    rw [sy_B]
    cases e : sy_w nw bl p (nI (k + 1)) with
    | none => exact ⟨ih.1, ih.2.1, by have := ih.2.2.1; dsimp only; omega, ih.2.2.2⟩
    | some q =>
      dsimp only
      split
      · refine ⟨e, rfl, Nat.le_refl _, ?_⟩
        have := ed_V_le (wo := wo) (s := nI (k + 1)) (c := p) hw
        dsimp only
        omega
      · exact ⟨ih.1, ih.2.1, by have := ih.2.2.1; omega, ih.2.2.2⟩
def hf_on (x : Option Nat) : Int32 := match x with
  | none => -1
  | some m => nI m
section SYC
variable {X : hf_X} {d kk nn t : Nat} {T : hf_T} {I : hf_I} {L : hf_L} {P : hf_P} {Q : Option Value → hf_M → Prop}
theorem cs_worthOf {s : Int32} {p : Nat} {wo : Nat → Nat} (hs : hf_Lay t T P) (hp : p ≤ 6) (h9 : I 136 9 = nI p) (hwo : ∀ j, j < p → vp_in (I 112 j) 8 ∧ I 103 (I 112 j).toNatClampNeg = nI (wo j)) (h : Q (some (.int (nI (ed_V wo s p)))) (t, T, I, L, P)) : hf_G X Y_X8_worthOf d kk nn 0 (hf_en [.ref 136, .int s] 4) [] (t, T, I, L, P) Q := by
  have loop : ∀ f i, i + f = p → hf_G X Y_X8_worthOf d kk nn 4 [some (.ref 136), some (.int s), some (.int (nI (ed_V wo s i))), some (.int (nI i))] [] (t, T, I, L, P) Q := by
    intro f
    induction f with
    | zero =>
      intro i hi
      obtain rfl : i = p := by omega
      exact w_X8_worthOf_4 hs ⟨fun _ => h, fun q => absurd (by rw [h9]; exact nI_le (Nat.le_refl _) (by omega)) q⟩
    | succ f ih =>
      intro i hi
      have key := ih (i + 1) (by omega)
      unfold ed_V at key
      rw [ed_sum] at key
      obtain ⟨v1, v2⟩ := hwo i (by omega)
      refine w_X8_worthOf_4 hs ⟨fun q => absurd q (by rw [h9]; exact nI_ge (by omega) (by omega)), fun _ => ?_⟩
      rw [nI_clamp (show i < 2 ^ 31 by omega), v2, nI_add, nI_1]
      refine ⟨fun q => ?_, fun q => ⟨vp_in_nI (by omega) (by omega), v1, ?_⟩⟩
      · have q' : bt s i = 0 := by
          by_cases z : bt s i = 0
          · exact z
          · exact absurd (bt_1.mpr z) q
        rw [show ed_F wo s i = 0 from if_pos q', Nat.add_zero] at key
        exact key
      · rw [show ed_F wo s i = wo i from if_neg (bt_1.mp q)] at key
        exact key
  exact w_X8_worthOf_0 hs (loop p 0 (by omega))
theorem cs_widthOf {s p bl : Nat} {nw : Nat → Option Nat} (hs : hf_Lay t T P) (hp : p ≤ 6) (hs2 : s < 2 ^ p) (h9 : I 136 9 = nI p) (h10 : I 136 10 = nI bl) (hnw : ∀ j, j < p → I 141 j = hf_on (nw j)) (hm : ∀ j m, nw j = some m → m ≤ 360) (h : Q (some (.int (hf_on (sy_w nw bl p (nI s))))) (t, T, I, L, P)) : hf_G X Y_X8_widthOf (d + 1) kk nn 0 (hf_en [.ref 136, .int (nI s)] 4) [] (t, T, I, L, P) Q := by
  have s64 : s < 64 := Nat.lt_of_lt_of_le hs2 (Nat.pow_le_pow_right (by omega) hp)
  obtain ⟨bc, -⟩ := bc32_n ⟨p, by omega⟩ ⟨s, s64⟩ hs2
  have kl := sy_k_le (s := nI s) (i := p)
  refine w_X8_widthOf_0 hs (cs_bc32 hs (w_X8_widthOf_5 hs ?_))
  have em : (if (0 : Int32) < bc32 (nI s) - 1 then bc32 (nI s) - 1 else 0) * I 136 10 = nI ((sy_k (nI s) p - 1) * bl) := by
    rw [h10, ← pk_mul]
    congr 1
    rw [bc]
    show (if (0 : Int32) < nI (sy_k (nI s) p) - 1 then nI (sy_k (nI s) p) - 1 else 0) = nI (sy_k (nI s) p - 1)
    generalize sy_k (nI s) p = k at kl
    have : ∀ z : Fin 7, (if (0 : Int32) < nI z.1 - 1 then nI z.1 - 1 else 0) = nI (z.1 - 1) := by decide
    exact this ⟨k, by omega⟩
  rw [em]
  unfold sy_w at h
  have loop : ∀ f i, i + f = p → ∀ τ, sy_W nw (nI s) i = some τ → hf_G X Y_X8_widthOf (d + 1) kk nn 18 [some (.ref 136), some (.int (nI s)), some (.int (nI (τ + (sy_k (nI s) p - 1) * bl))), some (.int (nI i))] [] (t, T, I, L, P) Q := by
    intro f
    induction f with
    | zero =>
      intro i hi τ ht
      obtain rfl : i = p := by omega
      rw [ht] at h
      exact w_X8_widthOf_18 hs ⟨fun _ => h, fun q => absurd (by rw [h9]; exact nI_le (Nat.le_refl _) (by omega)) q⟩
    | succ f ih =>
      intro i hi τ ht
      have key := ih (i + 1) (by omega)
      rw [sy_W, ht, Option.bind_some] at key
      refine w_X8_widthOf_18 hs ⟨fun q => absurd q (by rw [h9]; exact nI_ge (by omega) (by omega)), fun _ => ?_⟩
      rw [nI_clamp (show i < 2 ^ 31 by omega), hnw i (by omega), nI_1]
      have vi : vp_in (nI i) 6 := vp_in_nI (by omega) (by omega)
      refine ⟨fun q => ⟨vi, fun q2 => ⟨vi, ?_⟩, fun q2 => ?_⟩, fun q => ?_⟩
      · rw [if_neg (show ¬ bt (nI s) i = 0 from q)] at key
        cases hn : nw i with
        | none => rw [hn] at q2; exact absurd rfl q2
        | some m =>
          rw [hn] at key
          have := key (τ + m) rfl
          show hf_G X Y_X8_widthOf _ _ _ 18 [_, _, some (.int (nI _ + nI m)), _] _ _ _
          rw [nI_add, show τ + (sy_k (nI s) p - 1) * bl + m = τ + m + (sy_k (nI s) p - 1) * bl by omega]
          exact this
      · cases hn : nw i with
        | none =>
          have e : sy_W nw (nI s) (i + 1) = none := by rw [sy_W, ht, Option.bind_some, if_neg (show ¬ bt (nI s) i = 0 from q), hn]; rfl
          rw [sy_W_no e p (by omega)] at h
          exact h
        | some m =>
          rw [hn] at q2
          exact absurd q2 (hf_nm1 (by have := hm i m hn; omega))
      · rw [if_pos (show bt (nI s) i = 0 from q)] at key
        exact key τ rfl
  have := loop p 0 (by omega) 0 rfl
  rw [Nat.zero_add] at this
  exact this
theorem cs_mostWorth {p bl hairs : Nat} {nw : Nat → Option Nat} {wo : Nat → Nat} (hs : hf_Lay t T P) (hp : p ≤ 6) (hb : bl ≤ 40) (hh : hairs ≤ 400) (h9 : I 136 9 = nI p) (h10 : I 136 10 = nI bl) (hnw : ∀ j, j < p → I 141 j = hf_on (nw j)) (hm : ∀ j m, nw j = some m → m ≤ 360) (hwo : ∀ j, j < p → vp_in (I 112 j) 8 ∧ I 103 (I 112 j).toNatClampNeg = nI (wo j)) (hw9 : ∀ j, wo j ≤ 99) (h : Q (some (.int (nI (sy_B nw wo bl p hairs (2 ^ p - 1)).2.1))) (t, T, I, L, P)) : hf_G X Y_X8_mostWorth (d + 2) kk nn 11 [some (.ref 136), some (.int (nI hairs)), none, none, none] [] (t, T, I, L, P) Q := by
  obtain ⟨p1, p2⟩ := ed_pw (c := p) (by omega)
  have p0 : 0 < 2 ^ p := Nat.two_pow_pos p
  have loop : ∀ f k, k + f = 2 ^ p - 1 → hf_G X Y_X8_mostWorth (d + 2) kk nn 15 [some (.ref 136), some (.int (nI hairs)), some (.int (nI (sy_B nw wo bl p hairs k).2.1)), some (.int (nI (k + 1))), none] [] (t, T, I, L, P) Q := by
    intro f
    induction f with
    | zero =>
      intro k hk
      obtain rfl : k = 2 ^ p - 1 := by omega
      exact w_X8_mostWorth_15 hs ⟨fun _ => h, fun q => absurd (by rw [h9, p1]; exact nI_le (by omega) (by omega)) q⟩
    | succ f ih =>
      intro k hk
      have key := ih (k + 1) (by omega)
      obtain ⟨t1, t2, t3, t4⟩ := sy_B_t (nw := nw) (bl := bl) (hairs := hairs) hp hw9 k
      have vl := ed_V_le (wo := wo) (s := nI (k + 1)) (c := p) hw9
      refine w_X8_mostWorth_15 hs ⟨fun q => absurd q (by rw [h9, p1]; exact nI_ge (by omega) (by omega)), fun _ => ?_⟩
      refine cs_widthOf (nw := nw) (bl := bl) (p := p) hs hp (by omega) h9 h10 hnw hm ?_
      cases e : sy_w nw bl p (nI (k + 1)) with
      | none =>
        rw [sy_B, e] at key
        refine w_X8_mostWorth_30 hs ⟨fun _ => ?_, fun q => absurd rfl q⟩
        rw [nI_1]
        exact key
      | some q =>
        have ql : q ≤ 2400 := by
          unfold sy_w at e
          cases eW : sy_W nw (nI (k + 1)) p with
          | none => rw [eW] at e; cases e
          | some τ =>
            rw [eW] at e
            cases e
            have a1 := sy_W_le hm p τ eW
            have a2 := sy_k_le (s := nI (k + 1)) (i := p)
            have a3 : (sy_k (nI (k + 1)) p - 1) * bl ≤ 5 * 40 := Nat.mul_le_mul (by omega) hb
            dsimp only
            omega
        rw [sy_B, e] at key
        dsimp only at key
        refine w_X8_mostWorth_30 hs ⟨fun z => absurd z (hf_nm1 (by omega)), fun _ => ⟨fun z => ?_, fun z => ?_⟩⟩
        · have z' := (nI_ltI (show hairs < 2 ^ 31 by omega) (show q < 2 ^ 31 by omega)).mp z
          rw [if_neg (by omega)] at key
          rw [nI_1]
          exact key
        · have z' : q ≤ hairs := Nat.not_lt.mp fun y => z (nI_lt y (by omega))
          refine cs_worthOf hs hp h9 hwo (w_X8_mostWorth_49 hs (cs_worthOf hs hp h9 hwo (w_X8_mostWorth_54 hs ⟨fun y => ?_, fun y => ?_⟩)))
          · rw [t2] at y
            have y' := (nI_leI (show ed_V wo (nI (k + 1)) p < 2 ^ 31 by omega) (show (sy_B nw wo bl p hairs k).1 < 2 ^ 31 by omega)).mp y
            rw [if_neg (by omega)] at key
            rw [nI_1]
            exact key
          · rw [t2] at y
            have y' : (sy_B nw wo bl p hairs k).1 < ed_V wo (nI (k + 1)) p := Nat.not_le.mp fun x => y (nI_le x (by omega))
            rw [if_pos ⟨z', y'⟩] at key
            rw [nI_1]
            exact key
  exact w_X8_mostWorth_11 hs (loop (2 ^ p - 1) 0 (by omega))
end SYC
