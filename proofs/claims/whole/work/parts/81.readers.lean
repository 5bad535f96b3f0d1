/-! READERS -/
theorem lN_div {a b : Nat} (ha : a < 2 ^ 31) (hb0 : 0 < b) (hb : b < 2 ^ 31) : lN a / lN b = lN (a / b) := by
  have hd : a / b ≤ a := Nat.div_le_self a b
  apply Int64.toInt_inj.mp
  rw [Int64.toInt_div, lN_toInt ha, lN_toInt hb, lN_toInt (by omega), Int.natCast_ediv, Int.tdiv_eq_ediv_of_nonneg (by omega)]
  have e : (a : Int) / (b : Int) = ((a / b : Nat) : Int) := by rw [Int.natCast_ediv]
  rw [e]
  generalize a / b = q at hd ⊢
  exact Int.bmod_eq_of_le (by omega) (by omega)
def rd_n (s : Nat) : Nat := (s * 1103 + 12345) % 1000003
def rd_s (s : Nat) : Nat → Nat
  | 0 => s
  | i + 1 => rd_n (rd_s s i)
def rd_b (tr : Nat → Nat) (s i : Nat) : Bool := decide (rd_s s (i + 1) % 10 < tr i)
def rd_c (tr : Nat → Nat) (s : Nat) : Nat → Nat
  | 0 => 0
  | i + 1 => rd_c tr s i + (if rd_b tr s i = true then 1 else 0)
def rd_o (c : Nat) (tr : Nat → Nat) (seed : Nat) : Nat → Nat × Nat × (Nat → Nat)
  | 0 => (seed, 0, fun _ => 0)
  | r + 1 => (rd_s (rd_o c tr seed r).1 c, (rd_o c tr seed r).2.1 + (if rd_c tr (rd_o c tr seed r).1 c = c then 1 else 0), fun i => (rd_o c tr seed r).2.2 i + (if i < c ∧ rd_b tr (rd_o c tr seed r).1 i = true then 1 else 0))
theorem rd_n_lt (s : Nat) : rd_n s ≤ 1000002 := by
  unfold rd_n
  have := Nat.mod_lt (s * 1103 + 12345) (show 1000003 > 0 by omega)
  omega
theorem rd_s_le {s : Nat} (h : s ≤ 1000002) : ∀ i, rd_s s i ≤ 1000002 := by
  intro i
  cases i with
  | zero => exact h
  | succ i => exact rd_n_lt _
theorem rd_o_le {c : Nat} {tr : Nat → Nat} {seed : Nat} (h : seed ≤ 1000002) : ∀ r, (rd_o c tr seed r).1 ≤ 1000002 ∧ (rd_o c tr seed r).2.1 ≤ r ∧ ∀ i, (rd_o c tr seed r).2.2 i ≤ r := by
  intro r
  induction r with
  | zero => exact ⟨h, Nat.le_refl _, fun _ => Nat.le_refl _⟩
  | succ r ih =>
    refine ⟨rd_s_le ih.1 c, ?_, fun i => ?_⟩
    · show _ + (if _ then 1 else 0) ≤ r + 1
      have := ih.2.1
      split <;> omega
    · show _ + (if _ then 1 else 0) ≤ r + 1
      have := ih.2.2 i
      split <;> omega
theorem rd_c_le (tr : Nat → Nat) (s : Nat) : ∀ i, rd_c tr s i ≤ i := by
  intro i
  induction i with
  | zero => exact Nat.le_refl _
  | succ i ih =>
    rw [rd_c]
    split <;> omega
theorem rd_i32 {s : Nat} (h : s ≤ 1000002) : ((nI s * 1103) + 12345) - ((nI s * 1103) + 12345) / 1000003 * 1000003 = nI (rd_n s) := by
  rw [show (1103 : Int32) = nI 1103 from rfl, pk_mul, show (12345 : Int32) = nI 12345 from rfl, nI_add, show (1000003 : Int32) = nI 1000003 from rfl, pk_rem (by omega) (by omega) (by omega)]
  rfl
theorem rd_10 {s : Nat} (h : s ≤ 1000002) : nI s - nI s / 10 * 10 = nI (s % 10) := by rw [show (10 : Int32) = nI 10 from rfl, pk_rem (by omega) (by omega) (by omega)]
theorem rd_i64 {s : Nat} (h : s ≤ 1000002) : (((1103 * (nI s).toInt64) + 12345) - ((1103 * (nI s).toInt64) + 12345) / 1000003 * 1000003).toInt32 = nI (rd_n s) := by
  rw [nI_l (by omega), show (1103 : Int64) = lN 1103 from rfl, lN_mul, show (12345 : Int64) = lN 12345 from rfl, lN_add, show (1000003 : Int64) = lN 1000003 from rfl, lN_div (by omega) (by omega) (by omega), lN_mul]
  have hm : (1103 * s + 12345) / 1000003 * 1000003 ≤ 1103 * s + 12345 := Nat.div_mul_le_self _ _
  have e : 1103 * s + 12345 - (1103 * s + 12345) / 1000003 * 1000003 = rd_n s := by
    unfold rd_n
    omega
  rw [lN_sub hm, lN_i, e]
def rd_w (g : Nat → Int32) (c : Nat) (b : Nat → Nat) (tr : Nat → Nat) (s i : Nat) : Nat → Int32 := fun j => if j < c then nI (b j + (if j < i ∧ rd_b tr s j = true then 1 else 0)) else g j
theorem rd_w_y {g : Nat → Int32} {c s i : Nat} {b tr : Nat → Nat} (hi : i < c) (hb : rd_b tr s i = true) : upd (rd_w g c b tr s i) i (rd_w g c b tr s i i + 1) = rd_w g c b tr s (i + 1) := by
  funext j
  unfold upd rd_w
  by_cases e : j = i
  · subst e
    rw [if_pos rfl, if_pos hi, if_pos hi, if_neg (fun q => absurd q.1 (Nat.lt_irrefl _)), if_pos ⟨by omega, hb⟩, Nat.add_zero, nI_1]
  · rw [if_neg e]
    by_cases hj : j < c
    · rw [if_pos hj, if_pos hj]
      congr 2
      by_cases q : j < i ∧ rd_b tr s j = true
      · rw [if_pos q, if_pos ⟨by omega, q.2⟩]
      · rw [if_neg q, if_neg (fun z => q ⟨by omega, z.2⟩)]
    · rw [if_neg hj, if_neg hj]
theorem rd_w_n {g : Nat → Int32} {c s i : Nat} {b tr : Nat → Nat} (hb : ¬ rd_b tr s i = true) : rd_w g c b tr s i = rd_w g c b tr s (i + 1) := by
  funext j
  unfold rd_w
  by_cases hj : j < c
  · rw [if_pos hj, if_pos hj]
    congr 2
    by_cases q : j < i ∧ rd_b tr s j = true
    · rw [if_pos q, if_pos ⟨by omega, q.2⟩]
    · rw [if_neg q, if_neg]
      rintro ⟨z1, z2⟩
      by_cases e : j = i
      · subst e; exact hb z2
      · exact q ⟨by omega, z2⟩
  · rw [if_neg hj, if_neg hj]
theorem rd_w_e {g : Nat → Int32} {c seed r : Nat} {tr : Nat → Nat} {s' : Nat} : rd_w g c (rd_o c tr seed r).2.2 tr (rd_o c tr seed r).1 c = rd_w g c (rd_o c tr seed (r + 1)).2.2 tr s' 0 := by
  funext j
  unfold rd_w
  by_cases hj : j < c
  · rw [if_pos hj, if_pos hj]
    rw [if_neg (show ¬ (j < 0 ∧ rd_b tr s' j = true) from fun q => by omega)]
    rfl
  · rw [if_neg hj, if_neg hj]
section READERS
variable {X : hf_X} {d kk nn t : Nat} {T : hf_T} {I : hf_I} {L : hf_L} {P : hf_P} {Q : Option Value → hf_M → Prop}
theorem cs_read {c seed n : Nat} {tr : Nat → Nat} (hs : hf_Lay t T P) (hc : c ≤ 12) (hn : I 114 2 = nI c) (hseed : seed ≤ 1000000) (hn1 : n ≤ 100) (htr : ∀ j, j < c → ∃ w, w < 16 ∧ I 115 j = nI w ∧ I 108 w = nI (tr j) ∧ tr j ≤ 10) (h : Q (some (.int (nI (rd_o c tr seed n).2.1))) (t, T, hf_set (hf_up I 146 1 (nI c)) 147 (rd_w (I 147) c (rd_o c tr seed n).2.2 tr 0 0), L, P)) : hf_G X Y_X0_read d kk nn 0 (hf_en [.ref 146, .ref 101, .int (nI seed), .int (nI n)] 11) [] (t, T, I, L, P) Q := by
  have bl := rd_o_le (c := c) (tr := tr) (show seed ≤ 1000002 by omega)
  -- one reader
  have words : ∀ r, r < n → ∀ f i, i + f = c → hf_G X Y_X0_read d kk nn 50 [some (.ref 146), some (.ref 101), none, some (.int (nI n)), some (.ref 114), some (.int (nI (rd_o c tr seed (r + 1)).2.1)), some (.int (nI (rd_o c tr seed (r + 1)).1)), some (.int (nI (r + 1))), none, none, none] [] (t, T, hf_set (hf_up I 146 1 (nI c)) 147 (rd_w (I 147) c (rd_o c tr seed (r + 1)).2.2 tr 0 0), L, P) Q → hf_G X Y_X0_read d kk nn 62 [some (.ref 146), some (.ref 101), none, some (.int (nI n)), some (.ref 114), some (.int (nI (rd_o c tr seed r).2.1)), some (.int (nI (rd_s (rd_o c tr seed r).1 i))), some (.int (nI r)), some (.int (if rd_c tr (rd_o c tr seed r).1 i = i then 1 else 0)), some (.int (nI i)), none] [] (t, T, hf_set (hf_up I 146 1 (nI c)) 147 (rd_w (I 147) c (rd_o c tr seed r).2.2 tr (rd_o c tr seed r).1 i), L, P) Q := by
    intro r hr f
    induction f with
    | zero =>
      intro i hi hG
      obtain rfl : i = c := by omega
      have e1 : hf_set (hf_up I 146 1 (nI i)) 147 (rd_w (I 147) i (rd_o i tr seed r).2.2 tr (rd_o i tr seed r).1 i) 146 1 = nI i := rfl
      refine w_X0_read_62 hs ?_
      rw [e1, nI_1, nI_1, rd_w_e (s' := 0)]
      refine ⟨fun _ => ⟨fun g => ?_, fun g => ?_⟩, fun g => absurd (nI_le (Nat.le_refl _) (by omega)) g⟩
      · have hne : ¬ rd_c tr (rd_o i tr seed r).1 i = i := fun q => by rw [if_pos q] at g; exact absurd g (by decide)
        have e2 : (rd_o i tr seed (r + 1)).2.1 = (rd_o i tr seed r).2.1 := by
          show _ + (if _ then 1 else 0) = _
          rw [if_neg hne]; rfl
        rw [e2] at hG
        exact hG
      · have heq : rd_c tr (rd_o i tr seed r).1 i = i := by
          by_cases q : rd_c tr (rd_o i tr seed r).1 i = i
          · exact q
          · rw [if_neg q] at g; exact absurd rfl g
        have e2 : (rd_o i tr seed (r + 1)).2.1 = (rd_o i tr seed r).2.1 + 1 := by
          show _ + (if _ then 1 else 0) = _
          rw [if_pos heq]
        rw [e2] at hG
        exact hG
    | succ f ih =>
      intro i hi hG
      have hsl := rd_s_le (bl r).1 i
      have hsl2 := rd_s_le (bl r).1 (i + 1)
      obtain ⟨w, w1, w2, w3, w4⟩ := htr i (by omega)
      have cle := rd_c_le tr (rd_o c tr seed r).1 i
      have key := ih (i + 1) (by omega) hG
      refine w_X0_read_62 hs ?_
      have e1 : hf_set (hf_up I 146 1 (nI c)) 147 (rd_w (I 147) c (rd_o c tr seed r).2.2 tr (rd_o c tr seed r).1 i) 146 1 = nI c := rfl
      have e2 : hf_set (hf_up I 146 1 (nI c)) 147 (rd_w (I 147) c (rd_o c tr seed r).2.2 tr (rd_o c tr seed r).1 i) 115 i = nI w := w2
      have e3 : hf_set (hf_up I 146 1 (nI c)) 147 (rd_w (I 147) c (rd_o c tr seed r).2.2 tr (rd_o c tr seed r).1 i) 108 w = nI (tr i) := w3
      rw [e1, nI_clamp (show i < 2 ^ 31 by omega), e2, nI_clamp (show w < 2 ^ 31 by omega), e3, rd_i32 hsl, rd_10 (rd_n_lt _), nI_1 i, hf_up_set]
      have vi : vp_in (nI i) 12 := vp_in_nI (by omega) (by omega)
      have hb : (nI (tr i) ≤ nI (rd_n (rd_s (rd_o c tr seed r).1 i) % 10)) ↔ ¬ rd_b tr (rd_o c tr seed r).1 i = true := by
        rw [nI_leI (by omega) (by omega)]
        unfold rd_b
        rw [decide_eq_true_eq]
        show _ ↔ ¬ (rd_n (rd_s (rd_o c tr seed r).1 i) % 10 < tr i)
        omega
      have e147 : hf_set (hf_up I 146 1 (nI c)) 147 (rd_w (I 147) c (rd_o c tr seed r).2.2 tr (rd_o c tr seed r).1 i) 147 i = rd_w (I 147) c (rd_o c tr seed r).2.2 tr (rd_o c tr seed r).1 i i := rfl
      refine ⟨fun g => absurd g (nI_ge (by omega) (by omega)), fun _ => ⟨vi, vp_in_nI w1 (by omega), fun g => ?_, fun g => ⟨vi, vi, ?_⟩⟩⟩
      · rw [hb] at g
        have e4 : rd_c tr (rd_o c tr seed r).1 (i + 1) = rd_c tr (rd_o c tr seed r).1 i := by rw [rd_c, if_neg g]; rfl
        rw [if_neg (show ¬ rd_c tr (rd_o c tr seed r).1 (i + 1) = i + 1 by omega), ← rd_w_n g] at key
        exact ⟨fun _ => key, fun _ => key⟩
      · rw [hb, Decidable.not_not] at g
        have e4 : rd_c tr (rd_o c tr seed r).1 (i + 1) = rd_c tr (rd_o c tr seed r).1 i + 1 := by rw [rd_c, if_pos g]
        rw [e147, rd_w_y (by omega) g]
        refine ⟨fun g2 => ?_, fun g2 => ?_⟩
        · have hne : ¬ rd_c tr (rd_o c tr seed r).1 i = i := fun q => by rw [if_pos q] at g2; exact absurd g2 (by decide)
          rw [if_neg (show ¬ rd_c tr (rd_o c tr seed r).1 (i + 1) = i + 1 by omega)] at key
          exact key
        · have heq : rd_c tr (rd_o c tr seed r).1 i = i := by
            by_cases q : rd_c tr (rd_o c tr seed r).1 i = i
            · exact q
            · rw [if_neg q] at g2; exact absurd rfl g2
          rw [if_pos (show rd_c tr (rd_o c tr seed r).1 (i + 1) = i + 1 by omega)] at key
          exact key
  have w0 : ∀ {b : Nat → Nat} {s s' : Nat}, rd_w (I 147) c b tr s 0 = rd_w (I 147) c b tr s' 0 := by
    intro b s s'
    funext j
    unfold rd_w
    rw [if_neg (show ¬ (j < 0 ∧ rd_b tr s j = true) from fun q => by omega), if_neg (show ¬ (j < 0 ∧ rd_b tr s' j = true) from fun q => by omega)]
  have readers : ∀ f r, r + f = n → hf_G X Y_X0_read d kk nn 50 [some (.ref 146), some (.ref 101), none, some (.int (nI n)), some (.ref 114), some (.int (nI (rd_o c tr seed r).2.1)), some (.int (nI (rd_o c tr seed r).1)), some (.int (nI r)), none, none, none] [] (t, T, hf_set (hf_up I 146 1 (nI c)) 147 (rd_w (I 147) c (rd_o c tr seed r).2.2 tr 0 0), L, P) Q := by
    intro f
    induction f with
    | zero =>
      intro r hr
      obtain rfl : r = n := by omega
      exact w_X0_read_50 hs ⟨fun _ => h, fun g => absurd (nI_le (Nat.le_refl _) (by omega)) g⟩
    | succ f ih =>
      intro r hr
      refine w_X0_read_50 hs ⟨fun g => absurd g (nI_ge (by omega) (by omega)), fun _ => ?_⟩
      have := words r (by omega) c 0 (by omega) (ih (r + 1) (by omega))
      rw [w0 (s' := 0)] at this
      exact this
  have init : ∀ f i, i + f = c → hf_G X Y_X0_read d kk nn 18 [some (.ref 146), some (.ref 101), some (.int (nI seed)), some (.int (nI n)), some (.ref 114), some (.int (nI i)), none, none, none, none, none] [] (t, T, hf_set (hf_up I 146 1 (nI c)) 147 (fun j => if j < i then 0 else I 147 j), L, P) Q := by
    intro f
    induction f with
    | zero =>
      intro i hi
      obtain rfl : i = c := by omega
      refine w_X0_read_18 hs ⟨fun _ => ?_, fun g => absurd (nI_le (Nat.le_refl _) (by omega)) g⟩
      have := readers n 0 (by omega)
      have e : rd_w (I 147) i (rd_o i tr seed 0).2.2 tr 0 0 = fun j => if j < i then 0 else I 147 j := by
        funext j
        unfold rd_w
        by_cases hj : j < i
        · rw [if_pos hj, if_pos hj, if_neg (fun q => by omega)]
          rfl
        · rw [if_neg hj, if_neg hj]
      rw [e] at this
      exact this
    | succ f ih =>
      intro i hi
      refine w_X0_read_18 hs ⟨fun g => absurd g (nI_ge (a := i) (b := c) (by omega) (by omega)), fun _ => ?_⟩
      rw [nI_clamp (show i < 2 ^ 31 by omega), nI_1, hf_up_set]
      refine ⟨vp_in_nI (by omega) (by omega), ?_⟩
      have e : upd (fun j => if j < i then 0 else I 147 j) i 0 = fun j => if j < i + 1 then 0 else I 147 j := by
        funext j
        unfold upd
        dsimp only
        by_cases q : j = i
        · rw [if_pos q, if_pos (by omega)]
        · rw [if_neg q]
          by_cases q2 : j < i
          · rw [if_pos q2, if_pos (by omega)]
          · rw [if_neg q2, if_neg (by omega)]
      rw [e]
      exact ih (i + 1) (by omega)
  refine w_X0_read_0 hs ?_
  rw [hn]
  have := init c 0 (by omega)
  have e : hf_set (hf_up I 146 1 (nI c)) 147 (fun j => if j < 0 then 0 else I 147 j) = hf_up I 146 1 (nI c) := by
    have e0 : (fun j => if j < 0 then 0 else I 147 j) = hf_up I 146 1 (nI c) 147 := funext fun j => if_neg (by omega)
    rw [e0, hf_set_self]
  rw [e] at this
  exact this
def rd_m (I : hf_I) (c s : Nat) (row : Nat → Int32) : hf_I := hf_set (hf_set I 156 (upd (upd (I 156) 50 (nI s)) 49 (nI c))) 180 row
theorem rd_m_s {c s s' : Nat} {row : Nat → Int32} : hf_up (rd_m I c s row) 156 50 (nI s') = rd_m I c s' row := by
  funext b
  by_cases h1 : b = 156
  · subst h1
    show upd (upd (upd (I 156) 50 (nI s)) 49 (nI c)) 50 (nI s') = upd (upd (I 156) 50 (nI s')) 49 (nI c)
    funext j
    unfold upd
    by_cases e1 : j = 50
    · rw [if_pos e1, if_neg (by omega), if_pos e1]
    · rw [if_neg e1]
      by_cases e2 : j = 49
      · rw [if_pos e2, if_pos e2]
      · rw [if_neg e2, if_neg e2, if_neg e1, if_neg e1]
  · simp [rd_m, hf_up, hf_set, h1]
theorem ms_readers {c seed n : Nat} {tr : Nat → Nat} (hs : hf_Lay t T P) (hc : c ≤ 12) (hn : I 158 24 = nI c) (hseed : seed ≤ 1000000) (hn0 : 1 ≤ n) (hn1 : n ≤ 100) (htr : ∀ j, j < c → ∃ w, w < 16 ∧ I 158 j = nI w ∧ I 158 (53 + 13 * w + 2) = nI (tr j) ∧ tr j ≤ 10) (h : ∀ g, Q (some (.int (nI (rd_o c tr seed n).2.1))) (t, T, hf_up (rd_m I c (rd_o c tr seed n).1 (rd_w g c (rd_o c tr seed n).2.2 tr 0 0)) 156 0 0, L, P)) : hf_G X Y_X12_readers (d + 1) kk nn 0 (hf_en [.ref 156, .int (nI seed), .int (nI n)] 8) [] (t, T, I, L, P) Q := by
  have bl := rd_o_le (c := c) (tr := tr) (show seed ≤ 1000002 by omega)
  generalize hg : (fun j => if j < 12 then (0 : Int32) else I 180 j) = g
  have w0 : ∀ {b : Nat → Nat} {s s' : Nat}, rd_w g c b tr s 0 = rd_w g c b tr s' 0 := by
    intro b s s'
    funext j
    unfold rd_w
    rw [if_neg (show ¬ (j < 0 ∧ rd_b tr s j = true) from fun q => by omega), if_neg (show ¬ (j < 0 ∧ rd_b tr s' j = true) from fun q => by omega)]
  have words : ∀ r, r < n → ∀ f i, i + f = c → hf_G X Y_X12_readers (d + 1) kk nn 68 [some (.ref 156), none, some (.int (nI n)), some (.int (nI (rd_o c tr seed (r + 1)).2.1)), some (.int (nI (r + 1))), none, none, none] [] (t, T, rd_m I c (rd_o c tr seed (r + 1)).1 (rd_w g c (rd_o c tr seed (r + 1)).2.2 tr 0 0), L, P) Q → hf_G X Y_X12_readers (d + 1) kk nn 80 [some (.ref 156), none, some (.int (nI n)), some (.int (nI (rd_o c tr seed r).2.1)), some (.int (nI r)), some (.int (nI (rd_c tr (rd_o c tr seed r).1 i))), some (.int (nI i)), none] [] (t, T, rd_m I c (rd_s (rd_o c tr seed r).1 i) (rd_w g c (rd_o c tr seed r).2.2 tr (rd_o c tr seed r).1 i), L, P) Q := by
    intro r hr f
    induction f with
    | zero =>
      intro i hi hG
      obtain rfl : i = c := by omega
      have cle := rd_c_le tr (rd_o i tr seed r).1 i
      have e1 : rd_m I i (rd_s (rd_o i tr seed r).1 i) (rd_w g i (rd_o i tr seed r).2.2 tr (rd_o i tr seed r).1 i) 156 49 = nI i := rfl
      refine w_X12_readers_80 hs ?_
      rw [e1, nI_1, nI_1, rd_w_e (s' := 0), Int32.add_zero, nI_eq (by omega) (by omega)]
      refine ⟨fun _ => ⟨fun g => ?_, fun g => ?_⟩, fun g => absurd (nI_le (Nat.le_refl _) (by omega)) g⟩
      · have e2 : (rd_o i tr seed (r + 1)).2.1 = (rd_o i tr seed r).2.1 := by
          show _ + (if _ then 1 else 0) = _
          rw [if_neg g]; rfl
        rw [e2] at hG
        exact hG
      · have e2 : (rd_o i tr seed (r + 1)).2.1 = (rd_o i tr seed r).2.1 + 1 := by
          show _ + (if _ then 1 else 0) = _
          rw [if_pos g]
        rw [e2] at hG
        exact hG
    | succ f ih =>
      intro i hi hG
      have hsl := rd_s_le (bl r).1 i
      obtain ⟨w, w1, w2, w3, w4⟩ := htr i (by omega)
      have key := ih (i + 1) (by omega) hG
      have e1 : ∀ {s : Nat} {row : Nat → Int32}, rd_m I c s row 156 49 = nI c := rfl
      refine w_X12_readers_80 hs ⟨fun q => absurd q (by rw [e1]; exact nI_ge (by omega) (by omega)), fun _ => w_X12_draws_0 hs ⟨by decide, w_X12_readers_95 hs ?_⟩⟩
      have e5 : rd_m I c (rd_s (rd_o c tr seed r).1 i) (rd_w g c (rd_o c tr seed r).2.2 tr (rd_o c tr seed r).1 i) 156 50 = nI (rd_s (rd_o c tr seed r).1 i) := by
        show upd (upd (I 156) 50 (nI (rd_s (rd_o c tr seed r).1 i))) 49 (nI c) 50 = _
        rw [hf_upd_ne (by omega), hf_upd_eq]
      rw [e5, rd_i64 hsl, rd_10 (rd_n_lt _), rd_m_s, hf_i0, nI_clamp (show i < 2 ^ 31 by omega)]
      have e2 : ∀ {s : Nat} {row : Nat → Int32}, rd_m I c s row 158 = I 158 := rfl
      have e3 : ∀ {s : Nat} {row : Nat → Int32}, rd_m I c s row 180 = row := rfl
      have e4 : ∀ {s : Nat} {row : Nat → Int32} {v : Int32} {j : Nat}, hf_up (rd_m I c s row) 180 j v = rd_m I c s (upd row j v) := fun {s row v j} => hf_up_set
      rw [e2, w2, hf_wi2, nI_clamp (show 53 + 13 * w + 2 < 2 ^ 31 by omega), w3, e3, e4, e4, nI_1, nI_1, Int32.add_zero, Int32.add_zero]
      have vi : vp_in (nI i) 12 := vp_in_nI (by omega) (by omega)
      have hb : (nI (tr i) ≤ nI (rd_n (rd_s (rd_o c tr seed r).1 i) % 10)) ↔ ¬ rd_b tr (rd_o c tr seed r).1 i = true := by
        rw [nI_leI (by omega) (by omega)]
        unfold rd_b
        rw [decide_eq_true_eq]
        show _ ↔ ¬ (rd_n (rd_s (rd_o c tr seed r).1 i) % 10 < tr i)
        omega
      refine ⟨vp_in_nI (by omega) (by omega), vp_in_nI (by omega) (by omega), fun q => ⟨vi, vi, ?_⟩, fun q => ⟨vi, vi, ?_⟩⟩
      · rw [hb] at q
        have e6 : rd_c tr (rd_o c tr seed r).1 (i + 1) = rd_c tr (rd_o c tr seed r).1 i := by rw [rd_c, if_neg q]; rfl
        have e7 : upd (rd_w g c (rd_o c tr seed r).2.2 tr (rd_o c tr seed r).1 i) i (rd_w g c (rd_o c tr seed r).2.2 tr (rd_o c tr seed r).1 i i) = rd_w g c (rd_o c tr seed r).2.2 tr (rd_o c tr seed r).1 i := by
          funext j
          unfold upd
          split
          · rename_i z; rw [z]
          · rfl
        rw [e6, ← rd_w_n q] at key
        rw [e7]
        exact key
      · rw [hb, Decidable.not_not] at q
        have e6 : rd_c tr (rd_o c tr seed r).1 (i + 1) = rd_c tr (rd_o c tr seed r).1 i + 1 := by rw [rd_c, if_pos q]
        rw [e6, ← rd_w_y (by omega) q] at key
        exact key
  have readers : ∀ f r, r + f = n → hf_G X Y_X12_readers (d + 1) kk nn 68 [some (.ref 156), none, some (.int (nI n)), some (.int (nI (rd_o c tr seed r).2.1)), some (.int (nI r)), none, none, none] [] (t, T, rd_m I c (rd_o c tr seed r).1 (rd_w g c (rd_o c tr seed r).2.2 tr 0 0), L, P) Q := by
    intro f
    induction f with
    | zero =>
      intro r hr
      obtain rfl : r = n := by omega
      exact w_X12_readers_68 hs ⟨fun _ => h g, fun q => absurd (nI_le (Nat.le_refl _) (by omega)) q⟩
    | succ f ih =>
      intro r hr
      refine w_X12_readers_68 hs ⟨fun q => absurd q (nI_ge (by omega) (by omega)), fun _ => ?_⟩
      have := words r (by omega) c 0 (by omega) (ih (r + 1) (by omega))
      rw [w0 (s' := 0)] at this
      exact this
  have init : ∀ f i, i + f = 12 → hf_G X Y_X12_readers (d + 1) kk nn 44 [some (.ref 156), none, some (.int (nI n)), some (.int (nI i)), none, none, none, none] [] (t, T, rd_m I c seed (fun j => if j < i then 0 else I 180 j), L, P) Q := by
    intro f
    induction f with
    | zero =>
      intro i hi
      obtain rfl : i = 12 := by omega
      refine w_X12_readers_44 hs ⟨fun _ => ?_, fun q => absurd (by decide) q⟩
      have := readers n 0 (by omega)
      have e : rd_w g c (rd_o c tr seed 0).2.2 tr 0 0 = fun j => if j < 12 then 0 else I 180 j := by
        rw [← hg]
        funext j
        unfold rd_w
        by_cases hj : j < c
        · rw [if_pos hj, if_neg (fun q => by omega), if_pos (by omega)]
          rfl
        · rw [if_neg hj]
      rw [e] at this
      exact this
    | succ f ih =>
      intro i hi
      refine w_X12_readers_44 hs ⟨fun q => absurd q (nI_ge (a := i) (b := 12) (by omega) (by omega)), fun _ => ?_⟩
      have e4 : ∀ {s : Nat} {row : Nat → Int32} {v : Int32} {j : Nat}, hf_up (rd_m I c s row) 180 j v = rd_m I c s (upd row j v) := fun {s row v j} => hf_up_set
      rw [nI_clamp (show i < 2 ^ 31 by omega), nI_1, e4]
      refine ⟨vp_in_nI (by omega) (by omega), ?_⟩
      have e : upd (fun j => if j < i then 0 else I 180 j) i 0 = fun j => if j < i + 1 then 0 else I 180 j := by
        funext j
        unfold upd
        dsimp only
        by_cases q : j = i
        · rw [if_pos q, if_pos (by omega)]
        · rw [if_neg q]
          by_cases q2 : j < i
          · rw [if_pos q2, if_pos (by omega)]
          · rw [if_neg q2, if_neg (by omega)]
      rw [e]
      exact ih (i + 1) (by omega)
  refine w_X12_readers_0 hs ⟨fun q => absurd q (nI_pos (by omega)), fun _ => ⟨fun q => absurd q (nI_nlt (a := 1000000) (b := seed) (by omega) (by omega)), fun _ => ⟨fun q => absurd q (nI_nlt (b := 1) (by omega) (by omega)), fun _ => ⟨fun q => absurd q (nI_nlt (a := 100) (b := n) (by omega) (by omega)), fun _ => ?_⟩⟩⟩⟩
  rw [hn]
  have := init 12 0 (by omega)
  have e : rd_m I c seed (fun j => if j < 0 then 0 else I 180 j) = hf_up (hf_up I 156 50 (nI seed)) 156 49 (nI c) := by
    have e0 : (fun j => if j < 0 then 0 else I 180 j) = I 180 := funext fun j => if_neg (by omega)
    unfold rd_m
    rw [e0]
    funext b
    by_cases h1 : b = 156
    · subst h1; rfl
    · by_cases h2 : b = 180
      · subst h2; rfl
      · simp [hf_set, hf_up, h1, h2]
  rw [e] at this
  exact this
end READERS
section OPS
variable {SL : Nat → hf_T → hf_P → (Nat → Nat → Int32) → Int32 → (Nat → Int32) → (Nat → Int32) → (Nat → Int32) → Prop} {CC : Int32 → Int32 → Int32 → Int32 → Int32 → Int32 → (Nat → Int32) → (Nat → Int32) → Int32 → (Nat → Int32) → (Nat → Int32) → (Nat → Int32) → (Nat → Int32) → (Nat → Int32) → (Nat → Int32) → (Nat → Int32) → (Nat → Nat → Int32) → hf_P → Int64 → Int64 → Int32 → Int32 → Prop}
variable {X : hf_X} {d N t : Nat} {T : hf_T} {I I2 : hf_I} {L : hf_L} {P : hf_P}
set_option maxHeartbeats 1000000 in
theorem op_readers {a b : Int32} (hN : N ≤ 100000) (h : hf_Sim SL CC N t T I L P) : hf_Pair X Y_X11_readers Y_X12_readers [.int a, .int b] (d + 2) 0 0 (t, T, I, L, P) (hf_SimM SL CC (N + 1)) := by
  have hs := h.1
  obtain ⟨m1, m2, m3, ⟨w, w1, w2, w3, w4, w5⟩, m5, m6, ⟨c, ln, h1, h2, h3, h4, h5, h6, h7⟩, m8, m9, m10⟩ := h.2.1
  obtain ⟨u1, u2, u3, u4, u5, u6, u7, u8⟩ := h.2.2.1
  refine w_X11_readers_0 hs ⟨fun c1 => ?_, fun c1 => ⟨fun c2 => ?_, fun c2 => ⟨fun c3 => ?_, fun c3 => ⟨fun c4 => ?_, fun c4 => ?_⟩⟩⟩⟩
  iterate 4
    · refine ⟨_, rfl, w_X12_readers_0 (d := d + 1) hs ⟨fun q1 => ?_, fun q1 => ⟨fun q2 => ?_, fun q2 => ⟨fun q3 => ?_, fun q3 => ⟨fun q4 => ?_, fun q4 => ?_⟩⟩⟩⟩⟩ <;> first | contradiction | exact ⟨rfl, sim_refuse (Or.inl rfl) h⟩
  obtain ⟨seed, hseed, rfl⟩ := hf_rng (M := 1000000) (b := 1000000) (by decide) c1 c2
  obtain ⟨n, n1, n2, rfl⟩ := bd_rng (a := 1) (b := 100) (by decide) (by decide) (Int32.not_lt.mp c3) (Int32.not_lt.mp c4)
  -- the truths
  have ex : ∀ j, ∃ q : Nat, j < c → ∃ i, i < 16 ∧ I 115 j = nI i ∧ I 158 j = nI i ∧ I 108 i = nI q ∧ I 158 (53 + 13 * i + 2) = nI q ∧ q ≤ 10 := by
    intro j
    by_cases hj : j < c
    · obtain ⟨⟨a1, a2, a3⟩, -⟩ := h7 j hj
      obtain ⟨i, hi, e⟩ := nI_of (Int32.not_lt.mpr a2)
      have hiw : i < w := by
        rw [e, w2] at a3
        exact (nI_ltI hi (by omega)).mp a3
      obtain ⟨-, -, ⟨b1, b2, b3⟩, -⟩ := w4 i hiw
      obtain ⟨q, q1, q2, q3⟩ := bd_rng (a := 0) (b := 10) (by decide) (by decide) b2 b3
      exact ⟨q, fun _ => ⟨i, by omega, e, a1.symm.trans e, q3, b1.symm.trans q3, q2⟩⟩
    · exact ⟨0, fun q => absurd q hj⟩
  obtain ⟨tr, htr⟩ : ∃ tr : Nat → Nat, ∀ j, j < c → ∃ i, i < 16 ∧ I 115 j = nI i ∧ I 158 j = nI i ∧ I 108 i = nI (tr j) ∧ I 158 (53 + 13 * i + 2) = nI (tr j) ∧ tr j ≤ 10 := ⟨fun j => Classical.choose (ex j), fun j hj => Classical.choose_spec (ex j) hj⟩
  refine cs_read (d := d + 1) hs h1 h3 hseed n2 (fun j hj => by obtain ⟨i, a1, a2, a3, a4, a5, a6⟩ := htr j hj; exact ⟨i, a1, a2, a4, a6⟩) (w_X11_readers_41 (d := d + 1) hs ⟨_, rfl, ms_readers (d := d + 1) hs h1 h4 hseed n1 n2 (fun j hj => by obtain ⟨i, a1, a2, a3, a4, a5, a6⟩ := htr j hj; exact ⟨i, a1, a3, a5, a6⟩) fun g => ⟨rfl, ?_⟩⟩)
  refine sim_mk hN h h.2.1 ⟨u1, u2, u3, u4, rfl, u6, ⟨c, h1, rfl, rfl, fun j hj => ?_⟩, u8⟩ rfl rfl (fun a => ?_) rfl (fun i => rfl) rfl rfl
  · show rd_w (I 147) c _ tr 0 0 j = rd_w g c _ tr 0 0 j
    unfold rd_w
    rw [if_pos hj, if_pos hj]
  · dsimp only
    rw [hf_upJ (by omega)]
    unfold rd_m
    rw [hf_setJ (by omega), hf_setJ (by omega), hf_upJ (by omega), hf_upJ (by omega), hf_setJ (by omega), hf_upJ (by omega)]
end OPS
