/-! changed -/
noncomputable def ch_g (ok : Nat → Prop) (x : Int32) : Nat → Nat → Nat → Int32
  | 0, _, n => if x = -1 then nI n else -1
  | f + 1, z, n => @ite _ (ok z) (Classical.propDecidable _) (if nI n = x then nI z else ch_g ok x f (z + 1) (n + 1)) (ch_g ok x f (z + 1) n)
theorem ch_y {ok : Nat → Prop} {x : Int32} {f z n : Nat} (h : ok z) : ch_g ok x (f + 1) z n = if nI n = x then nI z else ch_g ok x f (z + 1) (n + 1) := by rw [ch_g, if_pos h]
theorem ch_n {ok : Nat → Prop} {x : Int32} {f z n : Nat} (h : ¬ ok z) : ch_g ok x (f + 1) z n = ch_g ok x f (z + 1) n := by rw [ch_g, if_neg h]
theorem ch_skip {ok : Nat → Prop} {x : Int32} {f n : Nat} : ∀ m z, (∀ y, z ≤ y → y < z + m → ¬ ok y) → ch_g ok x (f + m) z n = ch_g ok x f (z + m) n := by
  intro m
  induction m with
  | zero => intro z _; rfl
  | succ m ih =>
    intro z h
    rw [← Nat.add_assoc, ch_n (h z (by omega) (by omega)), ih (z + 1) (fun y h1 h2 => h y (by omega) (by omega)), show z + 1 + m = z + (m + 1) by omega]
theorem lws_upd {ww ww' l : Nat → Int32} {x : Int32} {p : Nat} (h : ∀ j, ¬ j = p → ww' j = ww j) : ∀ n, hf_lws ww' l x n = hf_lws ww l x n + (if p < n ∧ l p = x then ww' p - ww p else 0) := by
  intro n
  induction n with
  | zero => rw [if_neg (by omega), Int32.add_zero]; rfl
  | succ n ih =>
    rw [hf_lws, hf_lws, ih]
    by_cases e : n = p
    · subst e
      rw [if_neg (show ¬ (n < n ∧ l n = x) from fun q => absurd q.1 (Nat.lt_irrefl _)), Int32.add_zero]
      by_cases hl : l n = x
      · rw [if_pos hl, if_pos hl, if_pos ⟨by omega, hl⟩, Int32.add_assoc, Int32.add_comm (ww n), Int32.sub_add_cancel]
      · rw [if_neg hl, if_neg hl, if_neg (fun q => hl q.2), Int32.add_zero]
    · rw [h n e]
      have e2 : (p < n + 1 ∧ l p = x) = (p < n ∧ l p = x) := propext ⟨fun q => ⟨by omega, q.2⟩, fun q => ⟨by omega, q.2⟩⟩
      simp only [e2]
      by_cases hl : l n = x
      · rw [if_pos hl, if_pos hl, Int32.add_assoc, Int32.add_assoc, Int32.add_comm (ww n)]
      · rw [if_neg hl, if_neg hl]
theorem hl_upd {br le lt hw hl : Nat → Int32} {sz x : Int32} {c p o : Nat} (hp : p < c) (ho : o < 2 ^ 31) : hl_w br le lt (upd hw p (nI o)) hl sz x c = hl_w br le lt hw hl sz x c + (if x = hl p then hf_wd br sz (le o) (fun q => lt (9 * o + q)) - hf_wd br sz (le (hw p).toNatClampNeg) (fun q => lt (9 * (hw p).toNatClampNeg + q)) else 0) := by
  unfold hl_w
  rw [lws_upd (p := p) (ww := fun j => hf_wd br sz (le (hw j).toNatClampNeg) (fun q => lt (9 * (hw j).toNatClampNeg + q))) (fun j hj => by rw [hf_upd_ne hj])]
  rw [hf_upd_eq, nI_clamp ho]
  unfold hf_li
  have e2 : (p < c ∧ hl p = x) = (x = hl p) := propext ⟨fun q => q.2.symm, fun q => ⟨hp, q.symm⟩⟩
  simp only [e2]
  rw [Int32.add_assoc, Int32.add_assoc, Int32.add_comm (if x = hl p then _ else _)]
section CHC
variable {X : hf_X} {d kk nn t : Nat} {T : hf_T} {I : hf_I} {L : hf_L} {P : hf_P} {Q : Option Value → hf_M → Prop}
theorem cs_isAsSeen {c k p o i : Nat} (hs : hf_Lay t T P) (hc : c ≤ 12) (hn : I 114 2 = nI c) (hw : ∀ j, j < c → ∃ i, i < 16 ∧ I 115 j = nI i ∧ hf_wok (I 109 i) (fun q => I 110 (9 * i + q))) (hk : k ≤ 4) (h18 : I 101 18 = nI k) (hp : p < c) (hi : I 115 p = nI i) (ho : o < 16) (how : hf_wok (I 109 o) (fun q => I 110 (9 * o + q)))
    (hy : (∀ j, j < k → hl_w (I 102) (I 109) (I 110) (upd (I 115) p (nI o)) (I 116) (I 101 14) (I 117 (2 * j)) c = I 117 (2 * j + 1)) → Q (some (.int 1)) (t, T, I, L, P))
    (hno : (¬ ∀ j, j < k → hl_w (I 102) (I 109) (I 110) (upd (I 115) p (nI o)) (I 116) (I 101 14) (I 117 (2 * j)) c = I 117 (2 * j + 1)) → Q (some (.int 0)) (t, T, I, L, P)) :
    hf_G X Y_X1_isAsSeen (d + 3) kk nn 0 (hf_en [.ref 101, .int (nI p), .int (nI o)] 7) [] (t, T, I, L, P) Q := by
  obtain ⟨i', hi16, hi', hiw⟩ := hw p hp
  rw [hi] at hi'
  have vp : vp_in (nI p) 12 := vp_in_nI (by omega) (by omega)
  have loop : ∀ f j, j + f = k → (∀ j', j' < j → hl_w (I 102) (I 109) (I 110) (upd (I 115) p (nI o)) (I 116) (I 101 14) (I 117 (2 * j')) c = I 117 (2 * j' + 1)) → hf_G X Y_X1_isAsSeen (d + 3) kk nn 31 [some (.ref 101), some (.int (nI p)), none, some (.int (hf_wd (I 102) (I 101 14) (I 109 o) (fun q => I 110 (9 * o + q)) - hf_wd (I 102) (I 101 14) (I 109 i') (fun q => I 110 (9 * i' + q)))), some (.int (nI j)), none, none] [] (t, T, I, L, P) Q := by
    intro f
    induction f with
    | zero =>
      intro j hj ha
      obtain rfl : j = k := by omega
      exact w_X1_isAsSeen_31 hs ⟨fun _ => hy ha, fun q => absurd (by rw [h18]; exact nI_le (Nat.le_refl _) (by omega)) q⟩
    | succ f ih =>
      intro j hj ha
      have e2 : 2 * nI j = nI (2 * j) := by rw [show (2 : Int32) = nI 2 from rfl, pk_mul]
      have hu := hl_upd (br := I 102) (le := I 109) (lt := I 110) (hw := I 115) (hl := I 116) (sz := I 101 14) (x := I 117 (2 * j)) hp (show o < 2 ^ 31 by omega)
      rw [hi, hi', nI_clamp (show i' < 2 ^ 31 by omega)] at hu
      refine w_X1_isAsSeen_31 hs ⟨fun q => absurd q (by rw [h18]; exact nI_ge (by omega) (by omega)), fun _ => ?_⟩
      rw [e2, nI_clamp (show 2 * j < 2 ^ 31 by omega)]
      refine ⟨vp_in_nI (by omega) (by omega), sp_X1_lineWidth hs hc hn hw ?_⟩
      change hf_G X Y_X1_isAsSeen _ _ _ 57 _ [.int (hl_w (I 102) (I 109) (I 110) (I 115) (I 116) (I 101 14) (I 117 (2 * j)) c)] _ _
      refine w_X1_isAsSeen_57 hs ⟨vp, ?_⟩
      rw [e2, nI_1, nI_1, nI_clamp (show 2 * j + 1 < 2 ^ 31 by omega), nI_clamp (show p < 2 ^ 31 by omega)]
      have v8 : vp_in (nI (2 * j + 1)) 8 := vp_in_nI (by omega) (by omega)
      have go : hl_w (I 102) (I 109) (I 110) (upd (I 115) p (nI o)) (I 116) (I 101 14) (I 117 (2 * j)) c = I 117 (2 * j + 1) → ∀ j', j' < j + 1 → hl_w (I 102) (I 109) (I 110) (upd (I 115) p (nI o)) (I 116) (I 101 14) (I 117 (2 * j')) c = I 117 (2 * j' + 1) := by
        intro g j' hj'
        by_cases e : j' = j
        · rw [e]; exact g
        · exact ha j' (by omega)
      refine ⟨fun g => ⟨v8, fun g2 => ?_, fun g2 => ?_⟩, fun g => ⟨v8, fun g2 => ?_, fun g2 => ?_⟩⟩
      · rw [if_neg g] at hu
        exact ih (j + 1) (by omega) (go (hu.trans g2))
      · rw [if_neg g] at hu
        exact hno fun z => g2 (hu.symm.trans (z j (by omega)))
      · rw [if_pos g] at hu
        exact ih (j + 1) (by omega) (go (hu.trans g2))
      · rw [if_pos g] at hu
        exact hno fun z => g2 (hu.symm.trans (z j (by omega)))
  refine w_X1_isAsSeen_0 hs (sp_X1_wordWidth hs ho how (w_X1_isAsSeen_9 hs ⟨vp, ?_⟩))
  rw [nI_clamp (show p < 2 ^ 31 by omega), hi, hi']
  exact sp_X1_wordWidth hs hi16 hiw (w_X1_isAsSeen_26 hs (loop k 0 (by omega) (fun j' hj' => by omega)))
def ch_ok (I : hf_I) (w c k : Nat) (z : Nat) : Prop := z % 16 < w ∧ ¬ nI (z % 16) = I 115 (z / 16) ∧ I 106 (z % 16) = I 106 (I 115 (z / 16)).toNatClampNeg ∧ ∀ j, j < k → hl_w (I 102) (I 109) (I 110) (upd (I 115) (z / 16) (nI (z % 16))) (I 116) (I 101 14) (I 117 (2 * j)) c = I 117 (2 * j + 1)
theorem cs_changed {x : Int32} {w c k : Nat} (hs : hf_Lay t T P) (hw16 : w ≤ 16) (h5 : I 105 5 = nI w) (hc : c ≤ 12) (hn : I 114 2 = nI c) (hw : ∀ j, j < c → ∃ i, i < 16 ∧ I 115 j = nI i ∧ hf_wok (I 109 i) (fun q => I 110 (9 * i + q))) (hww : ∀ o, o < w → hf_wok (I 109 o) (fun q => I 110 (9 * o + q))) (hk : k ≤ 4) (h18 : I 101 18 = nI k) (h : Q (some (.int (ch_g (ch_ok I w c k) x (16 * c) 0 0))) (t, T, I, L, P)) :
    hf_G X Y_X11_changed (d + 4) kk nn 0 (hf_en [.ref 100, .int x] 5) [] (t, T, I, L, P) Q := by
  have inner : ∀ p, p < c → ∀ f o, o + f = w → ∀ n, (∀ n', Q (some (.int (ch_g (ch_ok I w c k) x (16 * (c - (p + 1))) (16 * (p + 1)) n'))) (t, T, I, L, P) → hf_G X Y_X11_changed (d + 4) kk nn 4 [some (.ref 100), some (.int x), some (.int (nI n')), some (.int (nI (p + 1))), none] [] (t, T, I, L, P) Q) → Q (some (.int (ch_g (ch_ok I w c k) x (16 * (c - (p + 1)) + (16 - o)) (16 * p + o) n))) (t, T, I, L, P) → hf_G X Y_X11_changed (d + 4) kk nn 21 [some (.ref 100), some (.int x), some (.int (nI n)), some (.int (nI p)), some (.int (nI o))] [] (t, T, I, L, P) Q := by
    intro p hp f
    obtain ⟨i, i16, hi, hiw⟩ := hw p hp
    have vp : vp_in (nI p) 12 := vp_in_nI (by omega) (by omega)
    induction f with
    | zero =>
      intro o ho n hG hQ
      obtain rfl : o = w := by omega
      refine w_X11_changed_21 hs ⟨fun _ => ?_, fun q => absurd (by rw [h5]; exact nI_le (Nat.le_refl _) (by omega)) q⟩
      rw [nI_1]
      refine hG n ?_
      rw [ch_skip (16 - o) (16 * p + o) (fun y h1 h2 q => by have := q.1; omega), show 16 * p + o + (16 - o) = 16 * (p + 1) by omega] at hQ
      exact hQ
    | succ f ih =>
      intro o ho n hG hQ
      have ez1 : (16 * p + o) % 16 = o := by omega
      have ez2 : (16 * p + o) / 16 = p := by omega
      have fl : 16 * (c - (p + 1)) + (16 - o) = (16 * (c - (p + 1)) + (16 - (o + 1))) + 1 := by omega
      rw [fl] at hQ
      have next := ih (o + 1) (by omega)
      refine w_X11_changed_21 hs ⟨fun q => absurd q (by rw [h5]; exact nI_ge (by omega) (by omega)), fun _ => ⟨vp, ?_⟩⟩
      rw [nI_clamp (show p < 2 ^ 31 by omega), nI_clamp (show o < 2 ^ 31 by omega), nI_1]
      have bad : ¬ ch_ok I w c k (16 * p + o) → hf_G X Y_X11_changed (d + 4) kk nn 21 [some (.ref 100), some (.int x), some (.int (nI n)), some (.int (nI p)), some (.int (nI (o + 1)))] [] (t, T, I, L, P) Q := by
        intro b
        rw [ch_n b] at hQ
        exact next n hG hQ
      refine ⟨fun q => bad fun z => z.2.1 (by rw [ez1, ez2]; exact q), fun q => ⟨vp_in_nI (by omega) (by omega), by rw [hi]; exact vp_in_nI i16 (by omega), fun q2 => bad fun z => q2 (by have := z.2.2.1; rw [ez1, ez2] at this; exact this), fun q2 => ?_⟩⟩
      refine cs_isAsSeen (i := i) hs hc hn hw hk h18 hp hi (by omega) (hww o (by omega)) (fun a => ?_) (fun a => ?_)
      · have ok : ch_ok I w c k (16 * p + o) := by
          unfold ch_ok
          rw [ez1, ez2]
          exact ⟨by omega, q, q2, a⟩
        rw [ch_y ok] at hQ
        refine w_X11_changed_59 hs ⟨fun _ => ⟨fun q3 => ?_, fun q3 => ?_⟩, fun q3 => absurd q3 (by decide)⟩
        · rw [if_neg q3] at hQ
          rw [nI_1, nI_1]
          exact next (n + 1) hG hQ
        · rw [if_pos q3] at hQ
          rw [show (16 : Int32) = nI 16 from rfl, pk_mul, nI_add]
          exact hQ
      · refine w_X11_changed_59 hs ⟨fun q3 => absurd rfl q3, fun _ => ?_⟩
        rw [nI_1]
        exact bad fun z => a (by have := z.2.2.2; rw [ez1, ez2] at this; exact this)
  have outer : ∀ f p, p + f = c → ∀ n, Q (some (.int (ch_g (ch_ok I w c k) x (16 * (c - p)) (16 * p) n))) (t, T, I, L, P) → hf_G X Y_X11_changed (d + 4) kk nn 4 [some (.ref 100), some (.int x), some (.int (nI n)), some (.int (nI p)), none] [] (t, T, I, L, P) Q := by
    intro f
    induction f with
    | zero =>
      intro p hp n hQ
      obtain rfl : p = c := by omega
      rw [Nat.sub_self] at hQ
      refine w_X11_changed_4 hs ⟨fun _ => ⟨fun q => ?_, fun q => ?_⟩, fun q => absurd (by rw [hn]; exact nI_le (Nat.le_refl _) (by omega)) q⟩
      · rw [Nat.mul_zero, ch_g, if_neg q] at hQ
        exact hQ
      · rw [Nat.mul_zero, ch_g, if_pos q] at hQ
        exact hQ
    | succ f ih =>
      intro p hp n hQ
      refine w_X11_changed_4 hs ⟨fun q => absurd q (by rw [hn]; exact nI_ge (by omega) (by omega)), fun _ => ?_⟩
      refine inner p (by omega) w 0 (by omega) n (fun n' hQ' => ih (p + 1) (by omega) n' hQ') ?_
      rw [show 16 * (c - (p + 1)) + (16 - 0) = 16 * (c - p) by omega]
      exact hQ
  exact w_X11_changed_0 hs (outer c 0 (by omega) 0 h)
end CHC
section CHM
variable {X : hf_X} {d kk nn t : Nat} {T : hf_T} {I : hf_I} {L : hf_L} {P : hf_P} {Q : Option Value → hf_M → Prop}
theorem hf_se0 (i : Nat) : 279 + (2 * nI i) = nI (279 + 2 * i) := by rw [show (279 : Int32) = nI 279 from rfl, show (2 : Int32) = nI 2 from rfl, pk_mul, nI_add]
/-- what was SEEN, held against the HEAD with one WORD changed -/
theorem ms_asSeen {c k p : Nat} {x1 x2 x3 x4 o h : Int32} {Ok : Prop} (hs : hf_Lay t T P) (hc : c ≤ 12) (hn : I 158 24 = nI c) (hk : k ≤ 4) (h318 : I 158 318 = nI k) (hp : p < c)
    (hw : ∀ j, j < c → ∃ i, i < 16 ∧ I 158 j = nI i ∧ hf_wok (I 158 (53 + 13 * i + 3)) (fun q => I 158 (53 + 13 * i + 4 + q)))
    (hy : (∀ j, j < k → hl_wm (I 158) (I 158 (279 + 2 * j)) c = I 158 (279 + 2 * j + 1)) → (¬ x2 = x1 → hf_G X Y_X12_changed (d + 3) kk nn 14 [some (.ref 156), some (.int x1), some (.int (x2 + 1)), some (.int x3), some (.int (x4 + 1)), none, none, none, none, none] [] (t, T, hf_up I 158 p h, L, P) Q) ∧ (x2 = x1 → hf_G X Y_X12_changed (d + 3) kk nn 14 [some (.ref 156), some (.int x1), some (.int (x2 + 1)), some (.int x4), some (.int (x4 + 1)), none, none, none, none, none] [] (t, T, hf_up I 158 p h, L, P) Q))
    (hno : (¬ ∀ j, j < k → hl_wm (I 158) (I 158 (279 + 2 * j)) c = I 158 (279 + 2 * j + 1)) → hf_G X Y_X12_changed (d + 3) kk nn 14 [some (.ref 156), some (.int x1), some (.int x2), some (.int x3), some (.int (x4 + 1)), none, none, none, none, none] [] (t, T, hf_up I 158 p h, L, P) Q) :
    hf_G X Y_X12_changed (d + 3) kk nn 110 [some (.ref 156), some (.int x1), some (.int x2), some (.int x3), some (.int x4), some (.int (nI p)), some (.int h), none, some (.int 1), some (.int 0)] [] (t, T, I, L, P) Q := by
  have vp : vp_in (nI p) 5929 := vp_in_nI (by omega) (by omega)
  have bad : ∀ f j, j + f = k → (¬ ∀ j, j < k → hl_wm (I 158) (I 158 (279 + 2 * j)) c = I 158 (279 + 2 * j + 1)) → hf_G X Y_X12_changed (d + 3) kk nn 110 [some (.ref 156), some (.int x1), some (.int x2), some (.int x3), some (.int x4), some (.int (nI p)), some (.int h), none, some (.int 0), some (.int (nI j))] [] (t, T, I, L, P) Q := by
    intro f
    induction f with
    | zero =>
      intro j hj hb
      obtain rfl : j = k := by omega
      refine w_X12_changed_110 hs ⟨fun _ => ⟨vp, fun q => absurd rfl q, fun _ => ?_⟩, fun q => absurd (by rw [h318]; exact nI_le (Nat.le_refl _) (by omega)) q⟩
      rw [nI_clamp (show p < 2 ^ 31 by omega)]
      exact hno hb
    | succ f ih =>
      intro j hj hb
      refine w_X12_changed_110 hs ⟨fun q => absurd q (by rw [h318]; exact nI_ge (by omega) (by omega)), fun _ => ⟨fun _ => ?_, fun q => absurd rfl q⟩⟩
      rw [nI_1]
      exact ih (j + 1) (by omega) hb
  have good : ∀ f j, j + f = k → (∀ j', j' < j → hl_wm (I 158) (I 158 (279 + 2 * j')) c = I 158 (279 + 2 * j' + 1)) → hf_G X Y_X12_changed (d + 3) kk nn 110 [some (.ref 156), some (.int x1), some (.int x2), some (.int x3), some (.int x4), some (.int (nI p)), some (.int h), none, some (.int 1), some (.int (nI j))] [] (t, T, I, L, P) Q := by
    intro f
    induction f with
    | zero =>
      intro j hj ha
      obtain rfl : j = k := by omega
      refine w_X12_changed_110 hs ⟨fun _ => ⟨vp, fun _ => ?_, fun q => absurd q (by decide)⟩, fun q => absurd (by rw [h318]; exact nI_le (Nat.le_refl _) (by omega)) q⟩
      rw [nI_clamp (show p < 2 ^ 31 by omega)]
      exact hy ha
    | succ f ih =>
      intro j hj ha
      refine w_X12_changed_110 hs ⟨fun q => absurd q (by rw [h318]; exact nI_ge (by omega) (by omega)), fun _ => ⟨fun q => absurd q (by decide), fun _ => ?_⟩⟩
      rw [hf_se0, nI_clamp (show 279 + 2 * j < 2 ^ 31 by omega)]
      refine ⟨vp_in_nI (by omega) (by omega), sp_X12_broadIn hs hc hn hw ?_⟩
      change hf_G X Y_X12_changed _ _ _ 145 _ [.int (hl_wm (I 158) (I 158 (279 + 2 * j)) c)] _ _
      refine w_X12_changed_145 hs ?_
      rw [hf_se0, nI_1, nI_1, nI_clamp (show 279 + 2 * j + 1 < 2 ^ 31 by omega)]
      refine ⟨vp_in_nI (by omega) (by omega), fun q => ?_, fun q => ?_⟩
      · exact bad f (j + 1) (by omega) fun z => q (z j (by omega))
      · refine ih (j + 1) (by omega) fun j' hj' => ?_
        by_cases e : j' = j
        · rw [e]; exact q
        · exact ha j' (by omega)
  exact good k 0 (by omega) (fun j' hj' => by omega)
end CHM
