theorem nI_max {a b : Nat} (ha : a < 2 ^ 31) (hb : b < 2 ^ 31) : (if nI a < nI b then nI b else nI a) = nI (max a b) := by
  by_cases h : a < b
  · rw [if_pos (nI_lt h hb), Nat.max_eq_right (by omega)]
  · rw [if_neg (fun z => h ((nI_ltI ha hb).mp z)), Nat.max_eq_left (by omega)]
theorem nI_min {a b : Nat} (ha : a < 2 ^ 31) (hb : b < 2 ^ 31) : (if nI a < nI b then nI a else nI b) = nI (min b a) := by
  by_cases h : a < b
  · rw [if_pos (nI_lt h hb), Nat.min_eq_right (by omega)]
  · rw [if_neg (fun z => h ((nI_ltI ha hb).mp z)), Nat.min_eq_left (by omega)]
section NARC
variable {X : hf_X} {d kk nn t : Nat} {T : hf_T} {I : hf_I} {L : hf_L} {P : hf_P} {Q : Option Value → hf_M → Prop}
theorem cs_broadestLine {s p bl : Nat} {nm : Nat → Nat} (hs : hf_Lay t T P) (hp : p ≤ 6) (h9 : I 136 9 = nI p) (h10 : I 136 10 = nI bl) (hb : bl ≤ 40) (hnm : ∀ j, j < p → I 141 j = nI (nm j)) (hm : ∀ j, nm j ≤ 360) (h : Q (some (.int (nI (lb_r nm (lb_t s) bl p).1))) (t, T, I, L, P)) : hf_G X Y_X8_broadestLine (d + 1) kk nn 0 (hf_en [.ref 136, .int (nI s)] 6) [] (t, T, I, L, P) Q := by
  have loop : ∀ f i, i + f = p → hf_G X Y_X8_broadestLine (d + 1) kk nn 7 [some (.ref 136), some (.int (nI s)), some (.int (nI (lb_r nm (lb_t s) bl i).1)), some (.int (nI (lb_r nm (lb_t s) bl i).2)), some (.int (nI i)), none] [] (t, T, I, L, P) Q := by
    intro f
    induction f with
    | zero =>
      intro i hi
      obtain rfl : i = p := by omega
      exact w_X8_broadestLine_7 hs ⟨fun _ => h, fun q => absurd (by rw [h9]; exact nI_le (Nat.le_refl _) (by omega)) q⟩
    | succ f ih =>
      intro i hi
      have key := ih (i + 1) (by omega)
      obtain ⟨b1, b2⟩ := lb_le (m := nm) (tn := lb_t s) hb hm i
      have mi := hm i
      have i0 : (nI i = 0) ↔ i = 0 := nI_eq (b := 0) (by omega) (by omega)
      have vi : vp_in (nI i) 6 := vp_in_nI (by omega) (by omega)
      rw [lb_r] at key
      dsimp only at key
      refine w_X8_broadestLine_7 hs ⟨fun q => absurd q (by rw [h9]; exact nI_ge (by omega) (by omega)), fun _ => ?_⟩
      rw [nI_clamp (show i < 2 ^ 31 by omega), hnm i (by omega), h10, nI_1, nI_add, nI_add, nI_max (by omega) (by omega), nI_max (by omega) (by omega)]
      refine ⟨fun q => ⟨vi, ?_⟩, fun q => ⟨fun q2 => ⟨vi, ?_⟩, fun q2 => ⟨vi, ?_⟩⟩⟩
      · rw [if_pos (Or.inl (i0.mp q))] at key
        exact key
      · have hb' : ¬ (i = 0 ∨ lb_t s i = true) := by
          rintro (z | z)
          · exact q (i0.mpr z)
          · unfold lb_t at z
            rw [Bool.and_eq_true, decide_eq_true_eq, decide_eq_true_eq] at z
            exact q2 (bt_1.mpr z.2)
        rw [if_neg hb'] at key
        exact key
      · have hb' : i = 0 ∨ lb_t s i = true := by
          right
          unfold lb_t
          rw [Bool.and_eq_true, decide_eq_true_eq, decide_eq_true_eq]
          exact ⟨fun z => q (i0.mpr z), bt_1.mp q2⟩
        rw [if_pos hb'] at key
        exact key
  exact w_X8_broadestLine_0 hs (loop p 0 (by omega))
theorem cs_hasRow {p : Nat} {len : Nat → Nat} (hs : hf_Lay t T P) (hp : p ≤ 6) (h9 : I 136 9 = nI p) (hlen : ∀ j, j < p → I 140 j = nI (len j) ∧ len j ≤ 3) (hy : 1 ≤ p → (∀ j, j < p → 1 ≤ len j) → Q (some (.int 1)) (t, T, I, L, P)) (hno : (p = 0 ∨ ∃ j, j < p ∧ len j = 0) → Q (some (.int 0)) (t, T, I, L, P)) : hf_G X Y_X8_hasRow d kk nn 0 (hf_en [.ref 136] 2) [] (t, T, I, L, P) Q := by
  have loop : ∀ f i, i + f = p → (∀ j, j < i → 1 ≤ len j) → hf_G X Y_X8_hasRow d kk nn 2 [some (.ref 136), some (.int (nI i))] [] (t, T, I, L, P) Q := by
    intro f
    induction f with
    | zero =>
      intro i hi ha
      obtain rfl : i = p := by omega
      refine w_X8_hasRow_2 hs ⟨fun _ => ⟨fun q => hno (Or.inl ?_), fun q => hy ?_ ha⟩, fun q => absurd (by rw [h9]; exact nI_le (Nat.le_refl _) (by omega)) q⟩
      · rw [h9] at q
        have := (nI_leI (b := 0) (by omega) (by omega)).mp q
        omega
      · rw [h9] at q
        exact Nat.not_lt.mp fun z => q (nI_le (b := 0) (by omega) (by omega))
    | succ f ih =>
      intro i hi ha
      obtain ⟨l1, l2⟩ := hlen i (by omega)
      refine w_X8_hasRow_2 hs ⟨fun q => absurd q (by rw [h9]; exact nI_ge (by omega) (by omega)), fun _ => ⟨vp_in_nI (by omega) (by omega), ?_⟩⟩
      rw [nI_clamp (show i < 2 ^ 31 by omega), l1, nI_1]
      have l0 : (nI (len i) = 0) ↔ len i = 0 := nI_eq (b := 0) (by omega) (by omega)
      refine ⟨fun q => ih (i + 1) (by omega) (fun j hj => ?_), fun q => hno (Or.inr ⟨i, by omega, l0.mp q⟩)⟩
      by_cases e : j = i
      · subst e
        have : ¬ len j = 0 := fun z => q (l0.mpr z)
        omega
      · exact ha j (by omega)
  exact w_X8_hasRow_0 hs (loop p 0 (by omega) (fun j hj => by omega))
theorem cs_nc {p bl LN : Nat} {len nm : Nat → Nat} (hs : hf_Lay t T P) (hp : p ≤ 6) (h9 : I 136 9 = nI p) (h10 : I 136 10 = nI bl) (hb : bl ≤ 40) (hLN : LN ≤ 4) (h13 : I 101 13 = nI LN) (hlen : ∀ j, j < p → I 140 j = nI (len j) ∧ len j ≤ 3) (hnm : ∀ j, j < p → 1 ≤ len j → I 141 j = nI (nm j)) (hm : ∀ j, nm j ≤ 360) (hy : 1 ≤ p → (∀ j, j < p → 1 ≤ len j) → Q (some (.int (nI (nc_L nm bl p LN (2 ^ (p - 1) - 1))))) (t, T, I, L, P)) (hno : (p = 0 ∨ ∃ j, j < p ∧ len j = 0) → Q (some (.int (-1))) (t, T, I, L, P)) : hf_G X Y_X8_narrowestColumn (d + 2) kk nn 5 [some (.ref 136), none, none, none] [] (t, T, I, L, P) Q := by
  refine w_X8_narrowestColumn_5 hs (cs_hasRow hs hp h9 hlen (fun p1 la => w_X8_narrowestColumn_9 hs ⟨fun _ => ?_, fun q => absurd q (by decide)⟩) (fun z => w_X8_narrowestColumn_9 hs ⟨fun q => absurd rfl q, fun _ => hno z⟩))
  have hnm' : ∀ j, j < p → I 141 j = nI (nm j) := fun j hj => hnm j hj (la j hj)
  obtain ⟨pw1, pw2⟩ := ed_pw (c := p) (by omega)
  have p0 : 0 < 2 ^ (p - 1) := Nat.two_pow_pos (p - 1)
  have pw : 2 ^ p = 2 * 2 ^ (p - 1) := by
    obtain ⟨y, rfl⟩ : ∃ y, p = y + 1 := ⟨p - 1, by omega⟩
    rw [Nat.add_sub_cancel, Nat.pow_succ, Nat.mul_comm]
  have p64 : 2 ^ p ≤ 64 := Nat.pow_le_pow_right (n := 2) (i := p) (j := 6) (by omega) hp
  have vb : ∀ n, nc_L nm bl p LN n < 2 ^ 31 := by
    intro n
    obtain ⟨s, -, -, e⟩ := nc_at (m := nm) (bl := bl) (p := p) (LN := LN) n
    have := (lb_le (m := nm) (tn := lb_t (2 * s)) hb hm p).1
    rw [e]; omega
  have loop : ∀ f n, n + f = 2 ^ (p - 1) - 1 → hf_G X Y_X8_narrowestColumn (d + 2) kk nn 22 [some (.ref 136), none, some (.int (nI (nc_L nm bl p LN n))), some (.int (nI (2 * (n + 1))))] [] (t, T, I, L, P) Q := by
    intro f
    induction f with
    | zero =>
      intro n hn
      obtain rfl : n = 2 ^ (p - 1) - 1 := by omega
      exact w_X8_narrowestColumn_22 hs ⟨fun _ => hy p1 la, fun q => absurd (by rw [h9, pw1]; exact nI_le (by omega) (by omega)) q⟩
    | succ f ih =>
      intro n hn
      have key := ih (n + 1) (by omega)
      have e2 : nI (2 * (n + 1)) + 2 = nI (2 * (n + 1 + 1)) := by rw [show (2 : Int32) = nI 2 from rfl, nI_add]; exact congrArg nI (by omega)
      have bc := (bc32_n ⟨p, by omega⟩ ⟨2 * (n + 1), by omega⟩ (by show 2 * (n + 1) < 2 ^ p; omega)).1
      have bc' : bc32 (nI (2 * (n + 1))) = nI (sy_k (nI (2 * (n + 1))) p) := bc
      have kl := sy_k_le (s := nI (2 * (n + 1))) (i := p)
      refine w_X8_narrowestColumn_22 hs ⟨fun q => absurd q (by rw [h9, pw1]; exact nI_ge (by omega) (by omega)), fun _ => cs_bc32 hs ?_⟩
      rw [bc']
      refine w_X8_narrowestColumn_36 hs ?_
      rw [h13, e2]
      rw [nc_L] at key
      refine ⟨fun q => ?_, fun q => ?_⟩
      · have q' := (nI_leI (show LN < 2 ^ 31 by omega) (show sy_k (nI (2 * (n + 1))) p < 2 ^ 31 by omega)).mp q
        rw [if_neg (by omega)] at key
        exact key
      · have q' : sy_k (nI (2 * (n + 1))) p < LN := Nat.not_le.mp fun z => q (nI_le z (by omega))
        rw [if_pos q'] at key
        refine cs_broadestLine (nm := nm) (bl := bl) (p := p) hs hp h9 h10 hb hnm' hm (w_X8_narrowestColumn_52 hs ?_)
        have := (lb_le (m := nm) (tn := lb_t (2 * (n + 1))) hb hm p).1
        rw [nI_min (by omega) (vb n), e2]
        exact key
  exact cs_broadestLine (s := 0) (nm := nm) (bl := bl) (p := p) hs hp h9 h10 hb hnm' hm (w_X8_narrowestColumn_19 hs (loop (2 ^ (p - 1) - 1) 0 (by omega)))
end NARC
section NARM
variable {X : hf_X} {d kk nn t : Nat} {T : hf_T} {J : hf_I} {L : hf_L} {P : hf_P} {Q : Option Value → hf_M → Prop}
theorem ms_broadest {k : Nat} {g : Nat → Nat} (hs : hf_Lay t T P) (hk : k ≤ 6) (h38 : J 156 38 = nI k) (hg : ∀ l, l < k → J 177 l = nI (g l)) (hb : ∀ n, n ≤ k → lb_m g n < 2 ^ 30) (h : Q (some (.int (nI (lb_m g k)))) (t, T, J, L, P)) : hf_G X Y_X12_broadest (d + 1) kk nn 0 (hf_en [.ref 156] 3) [] (t, T, J, L, P) Q := by
  have loop : ∀ f i, i + f = k → hf_G X Y_X12_broadest (d + 1) kk nn 4 [some (.ref 156), some (.int (nI (lb_m g i))), some (.int (nI i))] [] (t, T, J, L, P) Q := by
    intro f
    induction f with
    | zero =>
      intro i hi
      obtain rfl : i = k := by omega
      exact w_X12_broadest_4 hs ⟨fun _ => h, fun q => absurd (by rw [h38]; exact nI_le (Nat.le_refl _) (by omega)) q⟩
    | succ f ih =>
      intro i hi
      have key := ih (i + 1) (by omega)
      have b1 := hb i (by omega)
      have b2 := hb (i + 1) (by omega)
      rw [lb_m] at key b2
      have b3 : g i < 2 ^ 30 := by omega
      refine w_X12_broadest_4 hs ⟨fun q => absurd q (by rw [h38]; exact nI_ge (by omega) (by omega)), fun _ => ⟨vp_in_nI (by omega) (by omega), ?_⟩⟩
      rw [nI_clamp (show i < 2 ^ 31 by omega), hg i (by omega), nI_1]
      refine ⟨fun q => ?_, fun q => ?_⟩
      · have q' := (nI_leI (show lb_m g i < 2 ^ 31 by omega) (show g i < 2 ^ 31 by omega)).mp q
        rw [Nat.max_eq_right q'] at key
        exact key
      · have q' : ¬ lb_m g i ≤ g i := fun z => q (nI_le z (by omega))
        rw [Nat.max_eq_left (by omega)] at key
        exact key
  exact w_X12_broadest_0 hs (loop k 0 (by omega))
theorem on_tr {I J K : hf_I} (h : on_fr I J) (g : on_fr J K) : on_fr I K := ⟨fun a a1 a2 a3 a4 a5 => (g.1 a a1 a2 a3 a4 a5).trans (h.1 a a1 a2 a3 a4 a5), fun j hj => (g.2 j hj).trans (h.2 j hj)⟩
theorem ms_lb {p LN bl R : Nat} {len : Nat → Nat} {opt : Nat → Nat → Nat} {wn : Nat → Nat} (hs : hf_Lay t T P) (hp1 : 1 ≤ p) (hp : p ≤ 6) (h317 : J 158 317 = nI p) (hLN : LN ≤ 4) (h314 : J 158 314 = nI LN) (h37 : J 156 37 = nI (2 ^ (p - 1))) (h39 : J 156 39 = nI bl) (hb : bl ≤ 40) (hlen : ∀ j, j < p → J 172 j = nI (len j) ∧ 1 ≤ len j ∧ len j ≤ 3) (hopt : ∀ j k, j < p → k < len j → J 171 (3 * j + k) = nI (opt j k) ∧ opt j k < 16 ∧ J 175 (opt j k) = nI (wn (opt j k))) (hwn : ∀ i, wn i ≤ 360) (h36 : J 156 36 = nI R) (hR : R < 2 ^ 30)
    (h : ∀ J', on_fr J J' → Q (some (.int (nI (lb_L (fun r => decide (op_n (op_t p (r % 2 ^ (p - 1))) p ≤ LN)) (fun r => (lb_r (fun i => wn (opt i (op_d len p (r / 2 ^ (p - 1)) i))) (op_t p (r % 2 ^ (p - 1))) bl p).1) R)))) (t, T, J', L, P)) :
    hf_G X Y_X12_leastBroad (d + 2) kk nn 5 [some (.ref 156), none, none, none] [] (t, T, J, L, P) Q := by
  generalize hok : (fun r => decide (op_n (op_t p (r % 2 ^ (p - 1))) p ≤ LN)) = ok at h
  generalize hv : (fun r => (lb_r (fun i => wn (opt i (op_d len p (r / 2 ^ (p - 1)) i))) (op_t p (r % 2 ^ (p - 1))) bl p).1) = v at h
  have loop : ∀ f r, r + f = R → ∀ J', on_fr J J' → hf_G X Y_X12_leastBroad (d + 2) kk nn 10 [some (.ref 156), none, some (.int (nI (lb_L ok v r))), some (.int (nI r))] [] (t, T, J', L, P) Q := by
    intro f
    induction f with
    | zero =>
      intro r hr J' fr
      obtain rfl : r = R := by omega
      exact w_X12_leastBroad_10 hs ⟨fun _ => h J' fr, fun q => absurd (by rw [fr.2 36 (by omega), h36]; exact nI_le (Nat.le_refl _) (by omega)) q⟩
    | succ f ih =>
      intro r hr J' fr
      have e : ∀ a, ¬ a = 156 → ¬ a = 173 → ¬ a = 174 → ¬ a = 177 → ¬ a = 178 → J' a = J a := fr.1
      have key := fun J' fr => ih (r + 1) (by omega) J' fr
      have ll := (lb_L_le (ok := ok) (v := v) r).1
      have evr : v r = (lb_r (fun i => wn (opt i (op_d len p (r / 2 ^ (p - 1)) i))) (op_t p (r % 2 ^ (p - 1))) bl p).1 := by rw [← hv]
      have eor : ok r = decide (op_n (op_t p (r % 2 ^ (p - 1))) p ≤ LN) := by rw [← hok]
      refine w_X12_leastBroad_10 hs ⟨fun q => absurd q (by rw [fr.2 36 (by omega), h36]; exact nI_ge (by omega) (by omega)), fun _ => ?_⟩
      refine ms_opens (p := p) (LN := LN) (bl := bl) (len := len) (opt := opt) (wn := wn) hs hp1 hp (by rw [e 158 (by omega) (by omega) (by omega) (by omega) (by omega)]; exact h317) hLN (by rw [e 158 (by omega) (by omega) (by omega) (by omega) (by omega)]; exact h314) ((fr.2 37 (by omega)).trans h37) ((fr.2 39 (by omega)).trans h39) (by rw [e 172 (by omega) (by omega) (by omega) (by omega) (by omega)]; exact hlen) (by rw [e 171 (by omega) (by omega) (by omega) (by omega) (by omega), e 175 (by omega) (by omega) (by omega) (by omega) (by omega)]; exact hopt) (by omega) fun J2 fr2 _ w38 wl _ => ?_
      have fr3 := on_tr fr fr2
      obtain ⟨n1, n2⟩ := op_n_le (tn := op_t p (r % 2 ^ (p - 1))) p
      obtain ⟨c1, -⟩ := lb_op (m := fun i => wn (opt i (op_d len p (r / 2 ^ (p - 1)) i))) (tn := op_t p (r % 2 ^ (p - 1))) (bl := bl) p
      have vb := (lb_le (m := fun i => wn (opt i (op_d len p (r / 2 ^ (p - 1)) i))) (tn := op_t p (r % 2 ^ (p - 1))) hb (fun i => hwn _) p).1
      rw [← evr] at c1 vb
      have mono : ∀ (g : Nat → Nat) (a b : Nat), a ≤ b → lb_m g a ≤ lb_m g b := by
        intro g a b hab
        induction b with
        | zero =>
          obtain rfl : a = 0 := by omega
          exact Nat.le_refl _
        | succ b ihb =>
          by_cases q : a = b + 1
          · subst q; exact Nat.le_refl _
          · have := ihb (by omega)
            rw [lb_m]
            omega
      have broad : ∀ {Q' : Option Value → hf_M → Prop}, Q' (some (.int (nI (v r)))) (t, T, J2, L, P) → hf_G X Y_X12_broadest (d + 1) 0 0 0 (hf_en [.ref 156] 3) [] (t, T, J2, L, P) Q' := by
        intro Q' hQ
        refine ms_broadest hs (by omega) w38 (fun l hl => (wl l hl).1) (fun n hn => ?_) (by rw [c1]; exact hQ)
        have := mono (op_b (fun i => wn (opt i (op_d len p (r / 2 ^ (p - 1)) i))) (op_t p (r % 2 ^ (p - 1))) bl p) n _ hn
        omega
      have k2 := key J2 fr3
      rw [lb_L] at k2
      by_cases hl : LN < op_n (op_t p (r % 2 ^ (p - 1))) p
      · rw [if_pos hl]
        rw [if_neg (by rw [eor, decide_eq_true_eq]; omega), ← nI_1] at k2
        exact w_X12_leastBroad_23 hs ⟨fun _ => k2, fun q => absurd rfl q⟩
      · rw [if_neg hl]
        rw [if_pos (by rw [eor, decide_eq_true_eq]; omega), ← nI_1] at k2
        refine w_X12_leastBroad_23 hs ⟨fun q => absurd q (by decide), fun _ => broad (w_X12_leastBroad_30 hs ⟨fun q => ?_, fun q => broad (w_X12_leastBroad_38 hs ?_)⟩)⟩
        · have q' := (nI_leI (show lb_L ok v r < 2 ^ 31 by omega) (show v r < 2 ^ 31 by omega)).mp q
          rw [Nat.min_eq_left q'] at k2
          exact k2
        · have q' : ¬ lb_L ok v r ≤ v r := fun z => q (nI_le z (by omega))
          rw [Nat.min_eq_right (by omega)] at k2
          exact k2
  exact w_X12_leastBroad_5 hs (loop R 0 (by omega) J on_rf)
end NARM
