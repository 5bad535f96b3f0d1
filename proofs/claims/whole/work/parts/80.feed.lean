/-! feed -/
def fd_c (x s : Int32) : Int32 := (x.toUInt32 >>> (s.toUInt32 &&& Int32.toUInt32 31)).toInt32.toInt8.toInt32
def fd_a (a b c d e : Int32) (k : Nat) : Int32 := if k / 4 = 0 then a else if k / 4 = 1 then b else if k / 4 = 2 then c else if k / 4 = 3 then d else e
def fd_f (a b c d e : Int32) (k : Nat) : Int32 := fd_c (fd_a a b c d e k) (nI (24 - 8 * (k % 4)))
theorem fd_rng (x : Int8) : -128 ≤ x.toInt32 ∧ x.toInt32 ≤ 127 := by
  rw [Int32.le_iff_toInt_le, Int32.le_iff_toInt_le, Int8.toInt_toInt32]
  have a1 := Int8.le_toInt x
  have a2 := Int8.toInt_lt x
  have e1 : (-128 : Int32).toInt = -128 := by decide
  have e2 : (127 : Int32).toInt = 127 := by decide
  omega
def fd_M (I : hf_I) (z : Nat) (f : Nat → Int32) (k : Nat) : hf_I := hf_set (hf_up I 100 13 (nI (z + k))) 122 (fun i => if z ≤ i ∧ i < z + k then f (i - z) else I 122 i)
theorem fd_st {I : hf_I} {z k : Nat} {f : Nat → Int32} : hf_up (hf_up (fd_M I z f k) 122 (z + k) (f k)) 100 13 (nI (z + k) + 1) = fd_M I z f (k + 1) := by
  funext b
  by_cases h1 : b = 100
  · subst h1
    show upd (upd (I 100) 13 (nI (z + k))) 13 (nI (z + k) + 1) = upd (I 100) 13 (nI (z + (k + 1)))
    funext i
    unfold upd
    rw [nI_1]
    split <;> rfl
  · by_cases h2 : b = 122
    · subst h2
      show upd (fun i => if z ≤ i ∧ i < z + k then f (i - z) else I 122 i) (z + k) (f k) = fun i => if z ≤ i ∧ i < z + (k + 1) then f (i - z) else I 122 i
      funext i
      unfold upd
      dsimp only
      by_cases q1 : i = z + k
      · subst q1
        rw [if_pos rfl, if_pos (by omega), Nat.add_sub_cancel_left]
      · rw [if_neg q1]
        by_cases q2 : z ≤ i ∧ i < z + k
        · rw [if_pos q2, if_pos (by omega)]
        · rw [if_neg q2, if_neg (by omega)]
    · simp [fd_M, hf_up, hf_set, h1, h2]
section FEED
variable {X : hf_X} {d kk nn t : Nat} {T : hf_T} {I : hf_I} {L : hf_L} {P : hf_P} {Q : Option Value → hf_M → Prop}
theorem cs_addBytes {x : Int32} {z k : Nat} {f : Nat → Int32} (hs : hf_Lay t T P) (hz : z + k + 4 ≤ 400) (hf : ∀ j, j < 4 → f (k + j) = fd_c x (nI (24 - 8 * j))) (h : Q none (t, T, fd_M I z f (k + 4), L, P)) : hf_G X Y_X11_addBytes d kk nn 0 (hf_en [.ref 100, .int x] 3) [] (t, T, fd_M I z f k, L, P) Q := by
  have step : ∀ (j : Nat), j < 4 → hf_G X Y_X11_addBytes d kk nn 3 [some (.ref 100), some (.int x), some (.int (nI (24 - 8 * j) + (-8)))] [] (t, T, fd_M I z f (k + j + 1), L, P) Q → hf_G X Y_X11_addBytes d kk nn 3 [some (.ref 100), some (.int x), some (.int (nI (24 - 8 * j)))] [] (t, T, fd_M I z f (k + j), L, P) Q := by
    intro j hj hG
    refine w_X11_addBytes_3 hs ⟨fun g => absurd g (nI_pos (by omega)), fun _ => ?_⟩
    have e : fd_M I z f (k + j) 100 13 = nI (z + (k + j)) := rfl
    rw [e, nI_clamp (show z + (k + j) < 2 ^ 31 by omega), pk_vb]
    have ef := hf j hj
    unfold fd_c at ef
    rw [← ef, fd_st]
    exact ⟨vp_in_nI (by omega) (by omega), hG⟩
  refine w_X11_addBytes_0 hs (step 0 (by omega) ?_)
  refine step 1 (by omega) ?_
  refine step 2 (by omega) ?_
  refine step 3 (by omega) ?_
  exact w_X11_addBytes_3 hs ⟨fun _ => h, fun g => absurd (by decide) g⟩
theorem fd_0 {z : Nat} {f : Nat → Int32} (h : I 100 13 = nI z) : fd_M I z f 0 = I := by
  funext b
  by_cases h1 : b = 122
  · subst h1
    show (fun i => if z ≤ i ∧ i < z + 0 then f (i - z) else I 122 i) = I 122
    exact funext fun i => if_neg (by omega)
  · by_cases h2 : b = 100
    · subst h2
      show upd (I 100) 13 (nI (z + 0)) = I 100
      funext i
      unfold upd
      split
      · rename_i q; rw [q, h]; rfl
      · rfl
    · simp [fd_M, hf_up, hf_set, h1, h2]
def fd_N (I : hf_I) (z : Nat) (g : Nat → Int32) (k : Nat) : hf_I := hf_set I 163 (fun i => if z ≤ i ∧ i < z + k then g (i - z) else I 163 i)
theorem ms_feed {a b c d' e : Int32} {z : Nat} (hs : hf_Lay t T P) (hz : z + 20 ≤ 400) (h10 : I 156 10 = nI z) (h : Q (some (.int (nI (z + 20)))) (t, T, hf_up (fd_N (hf_up (hf_up (hf_up (hf_up (hf_up I 164 0 a) 164 1 b) 164 2 c) 164 3 d') 164 4 e) z (fd_f a b c d' e) 20) 156 10 (nI (z + 20)), L, P)) : hf_G X Y_X12_feed d kk nn 0 (hf_en [.ref 156, .int a, .int b, .int c, .int d', .int e] 7) [] (t, T, I, L, P) Q := by
  have l20 : ((nI z + 20) ≤ 400) := by
    rw [show (20 : Int32) = nI 20 from rfl, nI_add]
    exact nI_le (b := 400) (by omega) (by omega)
  generalize hJ : hf_up (hf_up (hf_up (hf_up (hf_up I 164 0 a) 164 1 b) 164 2 c) 164 3 d') 164 4 e = J at h
  have j10 : J 156 10 = nI z := by rw [← hJ]; exact h10
  have jf : ∀ k, k < 20 → J 164 (k / 4) = fd_a a b c d' e k := by
    intro k hk
    rw [← hJ]
    unfold fd_a
    show upd (upd (upd (upd (upd (I 164) 0 a) 1 b) 2 c) 3 d') 4 e (k / 4) = _
    have : k / 4 < 5 := by omega
    generalize k / 4 = q at this
    match q, this with
    | 0, _ => rfl
    | 1, _ => rfl
    | 2, _ => rfl
    | 3, _ => rfl
    | 4, _ => rfl
    | n + 5, h => omega
  have loop : ∀ f k, k + f = 20 → hf_G X Y_X12_feed d kk nn 55 [some (.ref 156), none, none, none, none, none, some (.int (nI k))] [] (t, T, fd_N J z (fd_f a b c d' e) k, L, P) Q := by
    intro f
    induction f with
    | zero =>
      intro k hk
      obtain rfl : k = 20 := by omega
      refine w_X12_feed_55 hs ⟨fun _ => ?_, fun g => absurd (by decide) g⟩
      have e10 : fd_N J z (fd_f a b c d' e) 20 156 10 = nI z := j10
      rw [e10, show (20 : Int32) = nI 20 from rfl, nI_add]
      exact h
    | succ f ih =>
      intro k hk
      refine w_X12_feed_55 hs ⟨fun g => absurd g (nI_ge (b := 20) (by omega) (by omega)), fun _ => ?_⟩
      have e10 : fd_N J z (fd_f a b c d' e) k 156 10 = nI z := j10
      have e4 : nI k / 4 = nI (k / 4) := by rw [show (4 : Int32) = nI 4 from rfl, pk_div (by omega) (by omega) (by omega)]
      have er : nI k - nI (k / 4) * 4 = nI (k % 4) := by
        rw [← e4, show (4 : Int32) = nI 4 from rfl, pk_rem (by omega) (by omega) (by omega)]
      have e8 : (24 : Int32) - 8 * nI (k % 4) = nI (24 - 8 * (k % 4)) := by
        rw [show (8 : Int32) = nI 8 from rfl, pk_mul, show (24 : Int32) = nI 24 from rfl, pk_sub (by omega)]
      have e164 : fd_N J z (fd_f a b c d' e) k 164 (k / 4) = fd_a a b c d' e k := jf k (by omega)
      rw [e10, nI_add, nI_clamp (show z + k < 2 ^ 31 by omega), e4, nI_clamp (show k / 4 < 2 ^ 31 by omega), e164, er, e8, nI_1, pk_vb]
      refine ⟨vp_in_nI (by omega) (by omega), vp_in_nI (by omega) (by omega), ?_⟩
      have ev : ((fd_a a b c d' e k >>> (nI (24 - 8 * (k % 4)) &&& 31)).toInt8).toInt32 = fd_f a b c d' e k := by
        unfold fd_f fd_c
        have hk4 : k % 4 < 4 := Nat.mod_lt _ (by omega)
        generalize k % 4 = q at hk4
        match q, hk4 with
        | 0, _ => rw [fd_by _ (nI (24 - 8 * 0)) (nI (24 - 8 * 0) &&& 31) 24 (by omega) (by decide) (by decide)]
        | 1, _ => rw [fd_by _ (nI (24 - 8 * 1)) (nI (24 - 8 * 1) &&& 31) 16 (by omega) (by decide) (by decide)]
        | 2, _ => rw [fd_by _ (nI (24 - 8 * 2)) (nI (24 - 8 * 2) &&& 31) 8 (by omega) (by decide) (by decide)]
        | 3, _ => rw [fd_by _ (nI (24 - 8 * 3)) (nI (24 - 8 * 3) &&& 31) 0 (by omega) (by decide) (by decide)]
        | n + 4, h => omega
      rw [ev]
      have es : hf_up (fd_N J z (fd_f a b c d' e) k) 163 (z + k) (fd_f a b c d' e k) = fd_N J z (fd_f a b c d' e) (k + 1) := by
        unfold fd_N
        rw [hf_up_set]
        congr 1
        funext i
        unfold upd
        dsimp only
        by_cases q1 : i = z + k
        · subst q1
          rw [if_pos rfl, if_pos (by omega), Nat.add_sub_cancel_left]
        · rw [if_neg q1]
          by_cases q2 : z ≤ i ∧ i < z + k
          · rw [if_pos q2, if_pos (by omega)]
          · rw [if_neg q2, if_neg (by omega)]
      rw [es]
      exact ih (k + 1) (by omega)
  refine w_X12_feed_0 hs ⟨fun _ => ?_, fun g => absurd (by rw [h10]; exact l20) g⟩
  rw [hJ]
  have := loop 20 0 (by omega)
  have e0 : fd_N J z (fd_f a b c d' e) 0 = J := by
    unfold fd_N
    have : (fun i => if z ≤ i ∧ i < z + 0 then fd_f a b c d' e (i - z) else J 163 i) = J 163 := funext fun i => if_neg (by omega)
    rw [this, hf_set_self]
  rw [e0] at this
  exact this
end FEED
section OPS
variable {SL : Nat → hf_T → hf_P → (Nat → Nat → Int32) → Int32 → (Nat → Int32) → (Nat → Int32) → (Nat → Int32) → Prop} {CC : Int32 → Int32 → Int32 → Int32 → Int32 → Int32 → (Nat → Int32) → (Nat → Int32) → Int32 → (Nat → Int32) → (Nat → Int32) → (Nat → Int32) → (Nat → Int32) → (Nat → Int32) → (Nat → Int32) → (Nat → Int32) → (Nat → Nat → Int32) → hf_P → Int64 → Int64 → Int32 → Int32 → Prop}
variable {X : hf_X} {d N t : Nat} {T : hf_T} {I I2 : hf_I} {L : hf_L} {P : hf_P}
set_option maxHeartbeats 1000000 in
theorem op_feed {a b c d' e : Int32} (h : hf_Sim SL CC N t T I L P) : hf_Pair X Y_X11_feed Y_X12_feed [.int a, .int b, .int c, .int d', .int e] (d + 1) 0 0 (t, T, I, L, P) (hf_SimM SL CC (N + 1)) := by
  have hs := h.1
  obtain ⟨u1, ⟨z, g1, g2, g3, g4⟩, u3, u4, u5, u6, u7⟩ := h.2.2.1
  have l20 : ((nI z + 20) ≤ 400) ↔ z + 20 ≤ 400 := by
    rw [show (20 : Int32) = nI 20 from rfl, nI_add]
    exact nI_leI (b := 400) (by omega) (by omega)
  by_cases hz : z + 20 ≤ 400
  · refine w_X11_feed_0 hs ⟨fun _ => ?_, fun q => absurd (by rw [g2]; exact l20.mpr hz) q⟩
    have e0 := fd_0 (I := I) (z := z) (f := fd_f a b c d' e) g2
    have key : hf_G X Y_X11_addBytes d 0 0 0 (hf_en [.ref 100, .int a] 3) [] (t, T, fd_M I z (fd_f a b c d' e) 0, L, P) (fun r M => hf_G X Y_X11_feed (d + 1) 0 0 20 [some (.ref 100), none, some (.int b), some (.int c), some (.int d'), some (.int e)] (r.toList ++ []) M (fun r M1 => ∃ v, r = some (.int v) ∧ hf_G X Y_X12_feed (d + 1) 0 0 0 (hf_en [.ref 156, .int a, .int b, .int c, .int d', .int e] 7) [] M1 (fun r2 M2 => r2 = some (.int v) ∧ hf_SimM SL CC (N + 1) M2))) := by
      have fa : ∀ b5 j, j < 4 → fd_f a b c d' e (4 * b5 + j) = fd_c (fd_a a b c d' e (4 * b5)) (nI (24 - 8 * j)) := fun b5 j hj => by
        unfold fd_f
        have e1 : (4 * b5 + j) % 4 = j := by omega
        have e2 : fd_a a b c d' e (4 * b5 + j) = fd_a a b c d' e (4 * b5) := by
          unfold fd_a
          rw [show (4 * b5 + j) / 4 = 4 * b5 / 4 by omega]
        rw [e1, e2]
      refine cs_addBytes (k := 0) hs (by omega) (fun j hj => fa 0 j hj) (w_X11_feed_20 hs ?_)
      refine cs_addBytes (k := 4) hs (by omega) (fun j hj => fa 1 j hj) (w_X11_feed_25 hs ?_)
      refine cs_addBytes (k := 8) hs (by omega) (fun j hj => fa 2 j hj) (w_X11_feed_30 hs ?_)
      refine cs_addBytes (k := 12) hs (by omega) (fun j hj => fa 3 j hj) (w_X11_feed_36 hs ?_)
      refine cs_addBytes (k := 16) hs (by omega) (fun j hj => fa 4 j hj) (w_X11_feed_42 hs ⟨nI (z + 20), rfl, ms_feed hs hz g3 ⟨rfl, ?_⟩⟩)
      refine sim_mk0 h h.2.1 ⟨u1, ⟨z + 20, hz, rfl, rfl, fun j hj => ?_⟩, u3, u4, u5, u6, u7⟩ rfl rfl h.2.2.2.2.1 (fun a => ?_) rfl (fun i => rfl) rfl rfl
      · show (if z ≤ j ∧ j < z + 20 then fd_f a b c d' e (j - z) else I 122 j) = (if z ≤ j ∧ j < z + 20 then fd_f a b c d' e (j - z) else I 163 j) ∧ -128 ≤ (if z ≤ j ∧ j < z + 20 then fd_f a b c d' e (j - z) else I 122 j) ∧ (if z ≤ j ∧ j < z + 20 then fd_f a b c d' e (j - z) else I 122 j) ≤ 127
        by_cases q : z ≤ j ∧ j < z + 20
        · rw [if_pos q, if_pos q]
          exact ⟨rfl, fd_rng _⟩
        · rw [if_neg q, if_neg q]
          exact g4 j (by omega)
      · dsimp only
        rw [hf_upJ (by omega)]
        unfold fd_N fd_M
        rw [hf_setJ (by omega), hf_upJ (by omega), hf_upJ (by omega), hf_upJ (by omega), hf_upJ (by omega), hf_upJ (by omega), hf_setJ (by omega), hf_upJ (by omega)]
    rw [e0] at key
    exact key
  · exact w_X11_feed_0 hs ⟨fun q => absurd (l20.mp (by rw [g2] at q; exact q)) hz, fun _ => ⟨_, rfl, w_X12_feed_0 hs ⟨fun q => absurd (l20.mp (by rw [g3] at q; exact q)) hz, fun _ => ⟨rfl, sim_same h⟩⟩⟩⟩
end OPS
