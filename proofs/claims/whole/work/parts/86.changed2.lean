section CHM
variable {X : hf_X} {d kk nn t : Nat} {T : hf_T} {I : hf_I} {L : hf_L} {P : hf_P} {Q : Option Value → hf_M → Prop}
theorem hf_up_back {I : hf_I} {a p : Nat} {v : Int32} : hf_up (hf_up I a p v) a p (I a p) = I := by
  funext x
  by_cases hx : x = a
  · subst hx
    show (if x = x then upd (if x = x then upd (I x) p v else I x) p (I x p) else _) = I x
    rw [if_pos rfl, if_pos rfl]
    funext j
    unfold upd
    by_cases e : j = p
    · rw [if_pos e, e]
    · rw [if_neg e, if_neg e]
  · simp [hf_up, hx]
theorem ms_changed {x : Int32} {w c k : Nat} {ok : Nat → Prop} (hs : hf_Lay t T P) (hw16 : w ≤ 16) (h316 : I 158 316 = nI w) (hc : c ≤ 12) (hn : I 158 24 = nI c) (hk : k ≤ 4) (h318 : I 158 318 = nI k) (hh : ∀ p, p < c → ∃ i, i < w ∧ I 158 p = nI i)
    (hA : ∀ p o, p < c → o < w → ∀ j, j < c → ∃ i, i < 16 ∧ upd (I 158) p (nI o) j = nI i ∧ hf_wok (upd (I 158) p (nI o) (53 + 13 * i + 3)) (fun q => upd (I 158) p (nI o) (53 + 13 * i + 4 + q)))
    (hok : ∀ z, z < 16 * c → (ok z ↔ z % 16 < w ∧ ¬ nI (z % 16) = I 158 (z / 16) ∧ I 158 (53 + 13 * (z % 16)) = I 158 (53 + 13 * (I 158 (z / 16)).toNatClampNeg) ∧ ∀ j, j < k → hl_wm (upd (I 158) (z / 16) (nI (z % 16))) (I 158 (279 + 2 * j)) c = I 158 (279 + 2 * j + 1)))
    (hx : -1 ≤ x) (h : Q (some (.int (ch_g ok x (16 * c) 0 0))) (t, T, I, L, P)) : hf_G X Y_X12_changed (d + 4) kk nn 0 (hf_en [.ref 156, .int x] 10) [] (t, T, I, L, P) Q := by
  have e16 : 16 * I 158 24 = nI (16 * c) := by rw [hn, show (16 : Int32) = nI 16 from rfl, pk_mul]
  have found : ∀ z n, z ≤ 16 * c → n ≤ z → (¬ x = -1) → ∀ y, y < 16 * c → Q (some (.int (nI y))) (t, T, I, L, P) → hf_G X Y_X12_changed (d + 4) kk nn 14 [some (.ref 156), some (.int x), some (.int (nI n)), some (.int (nI y)), some (.int (nI z)), none, none, none, none, none] [] (t, T, I, L, P) Q := by
    intro z n hz hnz hx1 y hy hQ
    exact w_X12_changed_14 hs ⟨fun _ => ⟨fun _ => hQ, fun q => absurd q hx1⟩, fun _ => ⟨fun _ => ⟨fun _ => hQ, fun q => absurd q hx1⟩, fun q => absurd q (hf_nm1 (by omega))⟩⟩
  have loop : ∀ f z, z + f = 16 * c → ∀ n, n ≤ z → Q (some (.int (ch_g ok x f z n))) (t, T, I, L, P) → hf_G X Y_X12_changed (d + 4) kk nn 14 [some (.ref 156), some (.int x), some (.int (nI n)), some (.int (-1)), some (.int (nI z)), none, none, none, none, none] [] (t, T, I, L, P) Q := by
    intro f
    induction f with
    | zero =>
      intro z hz n hnz hQ
      obtain rfl : z = 16 * c := by omega
      refine w_X12_changed_14 hs ⟨fun _ => ⟨fun q => ?_, fun q => ?_⟩, fun q => absurd (by rw [e16]; exact nI_le (Nat.le_refl _) (by omega)) q⟩
      · rw [ch_g, if_neg q] at hQ
        exact hQ
      · rw [ch_g, if_pos q] at hQ
        exact hQ
    | succ f ih =>
      intro z hz n hnz hQ
      have hp : z / 16 < c := by omega
      obtain ⟨i, i1, i2⟩ := hh (z / 16) hp
      have next := ih (z + 1) (by omega)
      have bad : ¬ ok z → hf_G X Y_X12_changed (d + 4) kk nn 14 [some (.ref 156), some (.int x), some (.int (nI n)), some (.int (-1)), some (.int (nI (z + 1))), none, none, none, none, none] [] (t, T, I, L, P) Q := by
        intro b
        rw [ch_n b] at hQ
        exact next n (by omega) hQ
      have hkz := hok z (by omega)
      refine w_X12_changed_14 hs ⟨fun q => absurd q (by rw [e16]; exact nI_ge (by omega) (by omega)), fun _ => ⟨fun q => absurd rfl q, fun _ => ?_⟩⟩
      have ed : nI z / 16 = nI (z / 16) := by rw [show (16 : Int32) = nI 16 from rfl, pk_div (by omega) (by omega) (by omega)]
      have ew : I 158 316 - 1 = nI (w - 1) := by
        obtain ⟨y, rfl⟩ : ∃ y, w = y + 1 := ⟨w - 1, by omega⟩
        rw [h316, ← nI_1, Int32.add_sub_cancel, Nat.add_sub_cancel]
      rw [hf_rem16 (by omega), ed, hf_i0, nI_clamp (show z / 16 < 2 ^ 31 by omega), ew, hf_wi0, i2, hf_wi0, nI_clamp (show 53 + 13 * (z % 16) < 2 ^ 31 by omega), nI_clamp (show 53 + 13 * i < 2 ^ 31 by omega), nI_1]
      rw [i2, nI_clamp (show i < 2 ^ 31 by omega)] at hkz
      refine ⟨vp_in_nI (by omega) (by omega), fun q => absurd q (nI_pos (by omega)), fun _ => ⟨fun q => ?_, fun q => ⟨fun q2 => ?_, fun q2 => ⟨vp_in_nI (by omega) (by omega), vp_in_nI (by omega) (by omega), fun q3 => ⟨vp_in_nI (by omega) (by omega), ?_⟩, fun q3 => ?_⟩⟩⟩⟩
      · have := (nI_ltI (by omega) (by omega)).mp q
        exact bad fun b => by have := (hkz.mp b).1; omega
      · exact bad fun b => (hkz.mp b).2.1 q2
      · have ho : z % 16 < w := by
          have : ¬ w - 1 < z % 16 := fun y => q (nI_lt y (by omega))
          omega
        have en : ∀ y, ¬ y = z / 16 → hf_up I 158 (z / 16) (nI (z % 16)) 158 y = I 158 y := fun y hy => hf_upd_ne hy
        have eback : hf_up (hf_up I 158 (z / 16) (nI (z % 16))) 158 (z / 16) (nI i) = I := by rw [← i2]; exact hf_up_back
        have ek : (∀ j, j < k → hl_wm (hf_up I 158 (z / 16) (nI (z % 16)) 158) (hf_up I 158 (z / 16) (nI (z % 16)) 158 (279 + 2 * j)) c = hf_up I 158 (z / 16) (nI (z % 16)) 158 (279 + 2 * j + 1)) ↔ ok z := by
          rw [hkz]
          constructor
          · intro a
            refine ⟨ho, q2, q3, fun j hj => ?_⟩
            have := a j hj
            rw [en _ (by omega), en _ (by omega)] at this
            exact this
          · intro a j hj
            rw [en _ (by omega), en _ (by omega)]
            exact a.2.2.2 j hj
        refine ms_asSeen (d := d + 1) (c := c) (k := k) (p := z / 16) (o := 0) (Ok := True) hs hc ((en 24 (by omega)).trans hn) hk ((en 318 (by omega)).trans h318) hp (hA (z / 16) (z % 16) hp ho) (fun a => ?_) (fun a => ?_)
        · rw [ch_y (ek.mp a)] at hQ
          rw [eback, nI_1, nI_1]
          refine ⟨fun g => ?_, fun g => ?_⟩
          · rw [if_neg g] at hQ
            exact next (n + 1) (by omega) hQ
          · rw [if_pos g] at hQ
            exact found (z + 1) (n + 1) (by omega) (by omega) (fun g2 => hf_nm1 (show n < 2 ^ 31 by omega) (g.trans g2)) z (by omega) hQ
        · rw [eback, nI_1]
          exact bad fun b => a (ek.mpr b)
      · exact bad fun b => q3 (hkz.mp b).2.2.1
  exact w_X12_changed_0 hs ⟨fun _ => loop (16 * c) 0 (by omega) 0 (by omega) h, fun q => absurd hx q⟩
theorem ch_lo {ok : Nat → Prop} {x : Int32} (hx : ¬ -1 ≤ x) : ∀ f z n, n + f < 2 ^ 31 → ch_g ok x f z n = -1 := by
  have hx1 : ¬ x = -1 := fun e => hx (by rw [e]; exact Int32.le_refl _)
  intro f
  induction f with
  | zero => intro z n _; rw [ch_g, if_neg hx1]
  | succ f ih =>
    intro z n hn
    by_cases e : ok z
    · rw [ch_y e, if_neg]
      · exact ih _ _ (by omega)
      · intro g
        apply hx
        rw [← g, Int32.le_iff_toInt_le, nI_toInt (by omega)]
        have : (-1 : Int32).toInt = -1 := by decide
        omega
    · rw [ch_n e]
      exact ih _ _ (by omega)
end CHM
section OPS
variable {SL : Nat → hf_T → hf_P → (Nat → Nat → Int32) → Int32 → (Nat → Int32) → (Nat → Int32) → (Nat → Int32) → Prop} {CC : Int32 → Int32 → Int32 → Int32 → Int32 → Int32 → (Nat → Int32) → (Nat → Int32) → Int32 → (Nat → Int32) → (Nat → Int32) → (Nat → Int32) → (Nat → Int32) → (Nat → Int32) → (Nat → Int32) → (Nat → Int32) → (Nat → Nat → Int32) → hf_P → Int64 → Int64 → Int32 → Int32 → Prop}
variable {X : hf_X} {d N t : Nat} {T : hf_T} {I I2 : hf_I} {L : hf_L} {P : hf_P}
/-- one WORD of the HEAD changed, on both sides -/
theorem sm_swap {p o w c : Nat} (h : hf_SM I) (hw : w ≤ 16) (h5 : I 105 5 = nI w) (hc : c ≤ 12) (h2 : I 114 2 = nI c) (hp : p < c) (ho : o < w) : hf_SM (hf_up (hf_up I 115 p (nI o)) 158 p (nI o)) := by
  obtain ⟨m1, m2, m3, m4, m5, m6, ⟨c', ln, h1, h2', h3, h4, h5', h6, h7⟩, m8, m9, m10⟩ := h
  have ec : c' = c := (nI_eq (by omega) (by omega)).mp (h3.symm.trans h2)
  subst ec
  have hk : ∀ i, ¬ i = p → upd (I 158) p (nI o) i = I 158 i := fun i hi => hf_upd_ne hi
  refine ⟨S_br_fr (fun i _ _ => hk i (by omega)) m1, S_wo_fr (fun i _ _ => hk i (by omega)) m2, S_tm_fr (fun i _ _ => hk i (by omega)) m3, S_wd_fr (fun i _ _ => hk i (by omega)) (hk 316 (by omega)) m4, S_sy_fr (fun i _ _ => hk i (by omega)) (hk 317 (by omega)) m5, S_nx_fr (fun i _ _ => hk i (by omega)) m6, ⟨c', ln, h1, h2', h3, (hk 24 (by omega)).trans h4, h5', (hk 25 (by omega)).trans h6, fun j hj => ?_⟩, S_se_fr (fun i _ _ => hk i (by omega)) (hk 318 (by omega)) m8, S_ma_fr (fun i _ _ => hk i (by omega)) (hk 319 (by omega)) m9, S_lf_fr (fun i _ _ => hk i (by omega)) m10⟩
  obtain ⟨a, q, b1, b2, b3⟩ := h7 j hj
  refine ⟨?_, q, b1, b2, (hk (12 + j) (by omega)).trans b3⟩
  show upd (I 115) p (nI o) j = upd (I 158) p (nI o) j ∧ 0 ≤ upd (I 115) p (nI o) j ∧ upd (I 115) p (nI o) j < I 105 5
  by_cases e : j = p
  · subst e
    rw [hf_upd_eq, hf_upd_eq, h5]
    exact ⟨rfl, Int32.not_lt.mp (nI_pos (by omega)), nI_lt ho (by omega)⟩
  · rw [hf_upd_ne e, hf_upd_ne e]
    exact a
set_option maxHeartbeats 1000000 in
theorem op_changed {a : Int32} (h : hf_Sim SL CC N t T I L P) : hf_Pair X Y_X11_changed Y_X12_changed [.int a] (d + 4) 0 0 (t, T, I, L, P) (hf_SimM SL CC (N + 1)) := by
  have hs := h.1
  obtain ⟨c, c1, c2, c3, c4, -, -, -, -, -, c10⟩ := sim_hd h.2.1
  obtain ⟨m1, m2, m3, ⟨w, w1, w2, w3, w4, w5⟩, m5, m6, ⟨c', ln, y1, y2, y3, y4, y5, y6, y7⟩, ⟨k, k1, k2, k3, k4⟩, m9, m10⟩ := h.2.1
  have ec : c' = c := (nI_eq (by omega) (by omega)).mp (y3.symm.trans c2)
  subst ec
  have hh : ∀ p, p < c' → ∃ i, i < w ∧ I 115 p = nI i ∧ I 158 p = nI i := by
    intro p hp
    obtain ⟨⟨a1, a2, a3⟩, -⟩ := y7 p hp
    obtain ⟨i, hi, e⟩ := nI_of (Int32.not_lt.mpr a2)
    refine ⟨i, ?_, e, a1.symm.trans e⟩
    rw [e, w2] at a3
    exact (nI_ltI hi (by omega)).mp a3
  have sw : ∀ p o, p < c' → o < w → (∀ j, j < c' → ∃ i, i < 16 ∧ upd (I 158) p (nI o) j = nI i ∧ hf_wok (upd (I 158) p (nI o) (53 + 13 * i + 3)) (fun q => upd (I 158) p (nI o) (53 + 13 * i + 4 + q))) ∧ ∀ x, hl_w (I 102) (I 109) (I 110) (upd (I 115) p (nI o)) (I 116) (I 101 14) x c' = hl_wm (upd (I 158) p (nI o)) x c' := by
    intro p o hp ho
    obtain ⟨c2', z1, z2, z3, z4, z5, z6, z7, -⟩ := sim_hd (sm_swap h.2.1 w1 w2 c1 c2 hp ho)
    have ec2 : c2' = c' := (nI_eq (by omega) (by omega)).mp (z2.symm.trans c2)
    subst ec2
    exact ⟨z5, z7⟩
  have res : ∀ v, v = ch_g (ch_ok I w c' k) a (16 * c') 0 0 → hf_G X Y_X12_changed (d + 4) 0 0 0 (hf_en (.ref 156 :: [.int a]) 10) [] (t, T, I, L, P) (fun r2 M2 => r2 = some (.int v) ∧ hf_SimM SL CC (N + 1) M2) := by
    intro v hv
    by_cases ha : -1 ≤ a
    · refine ms_changed (w := w) (c := c') (k := k) (ok := ch_ok I w c' k) hs w1 w3 c1 c3 k1 k3 (fun p hp => by obtain ⟨i, i1, -, i3⟩ := hh p hp; exact ⟨i, i1, i3⟩) (fun p o hp ho => (sw p o hp ho).1) (fun z hz => ?_) ha ⟨by rw [hv], sim_same h⟩
      obtain ⟨i, i1, i2, i3⟩ := hh (z / 16) (by omega)
      unfold ch_ok
      rw [i2, i3, nI_clamp (show i < 2 ^ 31 by omega)]
      refine and_congr_right fun g1 => and_congr_right fun g2 => ?_
      have es : ∀ o, o < w → I 106 o = I 158 (53 + 13 * o) := fun o ho => (w4 o ho).1.1
      rw [es _ g1, es i i1]
      refine and_congr_right fun g3 => forall_congr' fun j => forall_congr' fun hj => ?_
      obtain ⟨⟨e1, -⟩, e2, -⟩ := k4 j hj
      rw [(sw (z / 16) (z % 16) (by omega) g1).2, e1, e2]
    · rw [ch_lo ha (16 * c') 0 0 (by omega)] at hv
      rw [hv]
      exact w_X12_changed_0 hs ⟨fun q => absurd q ha, fun _ => ⟨rfl, sim_same h⟩⟩
  exact cs_changed hs w1 w2 c1 c2 c4 (fun o ho => (S_w1_ok (w4 o ho)).1) k1 k2 ⟨_, rfl, res _ rfl⟩
end OPS
