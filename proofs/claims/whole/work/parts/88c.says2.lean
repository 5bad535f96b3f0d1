def sm_fr (I J : hf_I) : Prop := (∀ a, ¬ a = 156 → ¬ a = 168 → ¬ a = 173 → J a = I a) ∧ ∀ j, j < 19 ∨ 22 < j → J 156 j = I 156 j
theorem sm_jm {I J K : hf_I} (h : sm_fr I J) (g : jm_fr J K) : sm_fr I K := ⟨fun a a1 a2 a3 => (g.1 a a1 a2).trans (h.1 a a1 a2 a3), fun j hj => (g.2 j (by omega) (by omega) (by omega) (by omega)).trans (h.2 j hj)⟩
theorem sm_rf {I : hf_I} : sm_fr I I := ⟨fun _ _ _ _ => rfl, fun _ _ => rfl⟩
section SYM
variable {X : hf_X} {d kk nn t : Nat} {T : hf_T} {I : hf_I} {L : hf_L} {P : hf_P} {Q : Option Value → hf_M → Prop}
def pr_km (K : Nat → Int32) (bd : Nat → Bool) (s : Int32) (i : Nat) : Bool := !(bd i) && decide (s = K (53 + 13 * i))
theorem ms_narrowestOf {s : Int32} {w : Nat} {wn : Nat → Nat} {cls : List gr_c1} (hs : hf_Lay t T P) (hlw : lw_m I cls) (hgd : ∀ q ∈ cls, cl_gd false q) (hw : w ≤ 16) (h316 : I 158 316 = nI w) (hok : ∀ i, i < w → hf_wok (I 158 (53 + 13 * i + 3)) (fun q => I 158 (53 + 13 * i + 4 + q))) (hwn : ∀ i, i < w → hf_wd (fun j => I 158 (26 + j)) (I 158 315) (I 158 (53 + 13 * i + 3)) (fun q => I 158 (53 + 13 * i + 4 + q)) = nI (wn i) ∧ wn i ≤ 360)
    (h : ∀ J, jm_fr I J → Q (some (.int (hf_on (pr_b (pr_km (I 158) (fun i => jd_br cls (jf_w (nI i) (I 158 (53 + 13 * i)) (I 158 (53 + 13 * i + 1)) (I 158 (53 + 13 * i + 2)) (I 158 (53 + 13 * i + 3)) (I 158 315) (I 158 311) (I 158 312))) s) wn w)))) (t, T, J, L, P)) : hf_G X Y_X12_narrowestOf (d + 610) kk nn 0 (hf_en [.ref 156, .int s] 4) [] (t, T, I, L, P) Q := by
  generalize hbd : (fun i => jd_br cls (jf_w (nI i) (I 158 (53 + 13 * i)) (I 158 (53 + 13 * i + 1)) (I 158 (53 + 13 * i + 2)) (I 158 (53 + 13 * i + 3)) (I 158 315) (I 158 311) (I 158 312))) = bd at h
  have loop : ∀ f n, n + f = w → ∀ J, jm_fr I J → hf_G X Y_X12_narrowestOf (d + 610) kk nn 4 [some (.ref 156), some (.int s), some (.int (hf_on (pr_b (pr_km (I 158) bd s) wn n))), some (.int (nI n))] [] (t, T, J, L, P) Q := by
    intro f
    induction f with
    | zero =>
      intro n hn J hJ
      obtain rfl : n = w := by omega
      have e158 : J 158 = I 158 := hJ.1 158 (by omega) (by omega)
      exact w_X12_narrowestOf_4 hs ⟨fun _ => h J hJ, fun q => absurd (by rw [e158, h316]; exact nI_le (Nat.le_refl _) (by omega)) q⟩
    | succ f ih =>
      intro n hn J hJ
      have e158 : J 158 = I 158 := hJ.1 158 (by omega) (by omega)
      have key := fun J hJ => ih (n + 1) (by omega) J hJ
      refine w_X12_narrowestOf_4 hs ⟨fun q => absurd q (by rw [e158, h316]; exact nI_ge (by omega) (by omega)), fun _ => ?_⟩
      rw [e158, hf_wi0, nI_clamp (show 53 + 13 * n < 2 ^ 31 by omega), nI_1]
      refine ⟨vp_in_nI (by omega) (by omega), fun q => ?_, fun q => ?_⟩
      · have hk : ¬ pr_km (I 158) bd s n = true := by
          unfold pr_km
          rw [Bool.and_eq_true, decide_eq_true_eq]
          exact fun z => q z.2.symm
        have := key J hJ
        rw [pr_b, if_neg hk] at this
        exact this
      · refine ms_isBarred (d := d) hs (lw_m_fr hlw e158) hgd (by omega) fun J1 f1 => ?_
        have hJ1 : jm_fr I J1 := jm_tr hJ f1
        have e158' : J1 158 = I 158 := hJ1.1 158 (by omega) (by omega)
        rw [e158, show jd_br cls (jf_w (nI n) (I 158 (53 + 13 * n)) (I 158 (53 + 13 * n + 1)) (I 158 (53 + 13 * n + 2)) (I 158 (53 + 13 * n + 3)) (I 158 315) (I 158 311) (I 158 312)) = bd n from congrFun hbd n]
        have this := key J1 hJ1
        cases hb : bd n with
        | true =>
          have hk : ¬ pr_km (I 158) bd s n = true := by unfold pr_km; rw [hb]; intro z; cases z
          rw [pr_b, if_neg hk] at this
          refine w_X12_narrowestOf_39 hs ⟨fun _ => ?_, fun z => absurd z (by decide)⟩
          rw [nI_1]
          exact this
        | false =>
          have hk : pr_km (I 158) bd s n = true := by unfold pr_km; rw [hb, Bool.and_eq_true, decide_eq_true_eq]; exact ⟨rfl, q.symm⟩
          rw [pr_b, if_pos hk] at this
          refine w_X12_narrowestOf_39 hs ⟨fun z => absurd rfl z, fun _ => ?_⟩
          rw [nI_1]
          cases hp : pr_b (pr_km (I 158) bd s) wn n with
          | none =>
            rw [hp] at this
            exact ⟨fun _ => this, fun z => absurd rfl z⟩
          | some b =>
            rw [hp] at this
            dsimp only at this
            have bl := pr_b_lt n b hp
            obtain ⟨n1, n2⟩ := hwn n (by omega)
            obtain ⟨b1, b2⟩ := hwn b (by omega)
            refine ⟨fun z => absurd z (hf_nm1 (by omega)), fun _ => ?_⟩
            rw [e158']
            refine sp_X12_broadOf (d := d + 608) hs (by omega) (by rw [e158']; exact hok n (by omega)) (w_X12_narrowestOf_60 hs ?_)
            rw [e158', n1]
            refine sp_X12_broadOf (i := b) (d := d + 608) hs (by omega) (by rw [e158']; exact hok b (by omega)) (w_X12_narrowestOf_73 hs ?_)
            rw [e158', b1, nI_1]
            refine ⟨fun z => ?_, fun z => ?_⟩
            · rw [if_pos ((nI_leI (by omega) (by omega)).mp z)] at this
              exact this
            · rw [if_neg (fun y => z (nI_le y (by omega)))] at this
              exact this
  exact w_X12_narrowestOf_0 hs (loop w 0 (by omega) I jm_rf)
theorem hf_wo0 (i : Nat) : 269 + nI i = nI (269 + i) := by rw [show (269 : Int32) = nI 269 from rfl, nI_add]
theorem hf_wo1 (i : Nat) : 261 + nI i = nI (261 + i) := by rw [show (261 : Int32) = nI 261 from rfl, nI_add]
theorem sy_st (A m b : Int32) : (A - b) + (m + b) = (A + m + b) - b := by
  rw [Int32.add_sub_cancel, Int32.sub_eq_add_neg, Int32.add_assoc, Int32.add_comm m b, ← Int32.add_assoc (-b) b m, Int32.add_comm (-b) b, ← Int32.sub_eq_add_neg b b, Int32.sub_self, Int32.zero_add]
theorem ms_says {x2 : Int32} {w p bl hairs : Nat} {wn wo : Nat → Nat} {cls : List gr_c1} (hs : hf_Lay t T P) (hlw : lw_m I cls) (hgd : ∀ q ∈ cls, cl_gd false q) (hw : w ≤ 16) (h316 : I 158 316 = nI w) (hok : ∀ i, i < w → hf_wok (I 158 (53 + 13 * i + 3)) (fun q => I 158 (53 + 13 * i + 4 + q))) (hwn : ∀ i, i < w → hf_wd (fun j => I 158 (26 + j)) (I 158 315) (I 158 (53 + 13 * i + 3)) (fun q => I 158 (53 + 13 * i + 4 + q)) = nI (wn i) ∧ wn i ≤ 360)
    (hp : p ≤ 6) (h317 : I 158 317 = nI p) (hbl : I 158 52 * (I 158 315 + 2) / 2 = nI bl) (hb40 : bl ≤ 40) (hwo : ∀ j, j < p → ∃ q, q ≤ 7 ∧ I 158 (269 + j) = nI q ∧ I 158 (261 + q) = nI (wo j)) (hw9 : ∀ j, wo j ≤ 99) (hh1 : 1 ≤ hairs) (hh : hairs ≤ 400) (g1 : ¬ x2 < 0) (g2 : ¬ 2 < x2) {nb : Nat → Option Nat} (hnb : ∀ j, j < p → nb j = pr_b (pr_km (I 158) (fun i => jd_br cls (jf_w (nI i) (I 158 (53 + 13 * i)) (I 158 (53 + 13 * i + 1)) (I 158 (53 + 13 * i + 2)) (I 158 (53 + 13 * i + 3)) (I 158 315) (I 158 311) (I 158 312))) (I 158 (269 + j))) wn w)
    (hnbw : ∀ j b, nb j = some b → b < w)
    (h : ∀ J v, sm_fr I J → (x2 = 0 → v = nI (sy_B (fun j => (nb j).map wn) wo bl p hairs (2 ^ p - 1)).1) → (x2 = 1 → v = nI (sy_B (fun j => (nb j).map wn) wo bl p hairs (2 ^ p - 1)).2.1) → (x2 = 2 → v = nI (sy_B (fun j => (nb j).map wn) wo bl p hairs (2 ^ p - 1)).2.2) → Q (some (.int v)) (t, T, J, L, P)) :
    hf_G X Y_X12_says (d + 611) kk nn 0 (hf_en [.ref 156, .int (nI hairs), .int x2] 11) [] (t, T, I, L, P) Q := by
  obtain ⟨p1, p2⟩ := ed_pw (c := p) (by omega)
  have p0 : 0 < 2 ^ p := Nat.two_pow_pos p
  generalize hnw : (fun j => (nb j).map wn) = nw at h
  have nwj : ∀ j, nw j = (nb j).map wn := fun j => by rw [← hnw]
  have hm : ∀ j m, nw j = some m → m ≤ 360 := by
    intro j m hj
    rw [nwj] at hj
    cases e : nb j with
    | none => rw [e] at hj; cases hj
    | some b =>
      rw [e] at hj
      cases hj
      exact (hwn b (hnbw j b e)).2
  -- all some places
  have sets : ∀ J, sm_fr I J → (∀ j, j < p → J 173 j = hf_on (nb j)) → ∀ f k, k + f = 2 ^ p - 1 → hf_G X Y_X12_says (d + 611) kk nn 69 [some (.ref 156), some (.int (nI hairs)), some (.int x2), some (.int (nI (sy_B nw wo bl p hairs k).2.1)), some (.int (nI (sy_B nw wo bl p hairs k).1)), some (.int (nI (sy_B nw wo bl p hairs k).2.2)), some (.int (nI (k + 1))), none, none, none, none] [] (t, T, J, L, P) Q := by
    intro J hJ h173 f
    have e158 : J 158 = I 158 := hJ.1 158 (by omega) (by omega) (by omega)
    induction f with
    | zero =>
      intro k hk
      obtain rfl : k = 2 ^ p - 1 := by omega
      refine w_X12_says_69 hs ⟨fun _ => ⟨fun q0 => ⟨fun q1 => ?_, fun q1 => ?_⟩, fun q0 => ?_⟩, fun q => absurd (by rw [e158, h317, p1]; exact nI_le (by omega) (by omega)) q⟩
      · exact h J _ hJ (fun z => absurd z q0) (fun z => absurd z q1) (fun _ => rfl)
      · exact h J _ hJ (fun z => absurd z q0) (fun _ => rfl) (fun z => by rw [z] at q1; exact absurd q1 (by decide))
      · exact h J _ hJ (fun _ => rfl) (fun z => by rw [z] at q0; exact absurd q0 (by decide)) (fun z => by rw [z] at q0; exact absurd q0 (by decide))
    | succ f ih =>
      intro k hk
      have key := ih (k + 1) (by omega)
      obtain ⟨t1, t2, t3, t4⟩ := sy_B_t (nw := nw) (bl := bl) (hairs := hairs) hp hw9 k
      have vl := ed_V_le (wo := wo) (s := nI (k + 1)) (c := p) hw9
      have k64 : k + 1 < 64 := Nat.lt_of_lt_of_le (show k + 1 < 2 ^ p by omega) (Nat.pow_le_pow_right (by omega) hp)
      have kpos := (bc32_n ⟨p, by omega⟩ ⟨k + 1, k64⟩ (show k + 1 < 2 ^ p by omega)).2 (by show 1 ≤ k + 1; omega)
      have kpos' : 1 ≤ sy_k (nI (k + 1)) p := kpos
      refine w_X12_says_69 hs ⟨fun q => absurd q (by rw [e158, h317, p1]; exact nI_ge (by omega) (by omega)), fun _ => ?_⟩
      -- no WORD for one of them
      have cant : ∀ (x7 x8 : Int32) (i : Nat), sy_W nw (nI (k + 1)) p = none → hf_G X Y_X12_says (d + 611) kk nn 106 [some (.ref 156), some (.int (nI hairs)), some (.int x2), some (.int (nI (sy_B nw wo bl p hairs k).2.1)), some (.int (nI (sy_B nw wo bl p hairs k).1)), some (.int (nI (sy_B nw wo bl p hairs k).2.2)), some (.int (nI (k + 1))), some (.int x7), some (.int x8), some (.int 0), some (.int (nI i))] [] (t, T, J, L, P) Q := by
        intro x7 x8 i hn
        have e : sy_w nw bl p (nI (k + 1)) = none := by unfold sy_w; rw [hn]; rfl
        rw [sy_B, e] at key
        rw [← nI_1 (k + 1)] at key
        exact w_X12_says_106 hs ⟨fun _ => ⟨fun _ => key, fun z => absurd rfl z⟩, fun _ => ⟨fun _ => ⟨fun _ => key, fun z => absurd rfl z⟩, fun z => absurd rfl z⟩⟩
      have walk : ∀ f i, i + f = p → ∀ τ, sy_W nw (nI (k + 1)) i = some τ → hf_G X Y_X12_says (d + 611) kk nn 106 [some (.ref 156), some (.int (nI hairs)), some (.int x2), some (.int (nI (sy_B nw wo bl p hairs k).2.1)), some (.int (nI (sy_B nw wo bl p hairs k).1)), some (.int (nI (sy_B nw wo bl p hairs k).2.2)), some (.int (nI (k + 1))), some (.int (nI (τ + sy_k (nI (k + 1)) i * bl) - nI bl)), some (.int (nI (ed_V wo (nI (k + 1)) i))), some (.int 1), some (.int (nI i))] [] (t, T, J, L, P) Q := by
        intro f
        induction f with
        | zero =>
          intro i hi τ ht
          obtain rfl : i = p := by omega
          have ew : nI (τ + sy_k (nI (k + 1)) i * bl) - nI bl = nI (τ + (sy_k (nI (k + 1)) i - 1) * bl) := by
            obtain ⟨y, hy⟩ : ∃ y, sy_k (nI (k + 1)) i = y + 1 := ⟨sy_k (nI (k + 1)) i - 1, by omega⟩
            rw [hy, Nat.add_sub_cancel, Nat.succ_mul, ← Nat.add_assoc, ← nI_add, Int32.add_sub_cancel]
          have e : sy_w nw bl i (nI (k + 1)) = some (τ + (sy_k (nI (k + 1)) i - 1) * bl) := by unfold sy_w; rw [ht]; rfl
          have a1 := sy_W_le hm i τ ht
          have a2 := sy_k_le (s := nI (k + 1)) (i := i)
          have a3 : (sy_k (nI (k + 1)) i - 1) * bl ≤ 5 * 40 := Nat.mul_le_mul (by omega) hb40
          rw [ew]
          rw [sy_B, e] at key
          dsimp only at key
          have ql : τ + (sy_k (nI (k + 1)) i - 1) * bl ≤ 2400 := by omega
          generalize τ + (sy_k (nI (k + 1)) i - 1) * bl = q at key e ql ⊢
          rw [← nI_1 (k + 1)] at key
          refine w_X12_says_106 hs ⟨fun _ => ⟨fun z => absurd z (by decide), fun _ => ⟨fun z => ?_, fun z => ⟨fun y => ?_, fun y => ?_⟩⟩⟩, fun z => absurd (by rw [e158, h317]; exact nI_le (Nat.le_refl _) (by omega)) z⟩
          · have z' := (nI_ltI (show hairs < 2 ^ 31 by omega) (show q < 2 ^ 31 by omega)).mp z
            rw [if_neg (by omega)] at key
            exact key
          · have z' : q ≤ hairs := Nat.not_lt.mp fun y => z (nI_lt y (by omega))
            have y' := (nI_ltI (show (sy_B nw wo bl i hairs k).1 < 2 ^ 31 by omega) (show ed_V wo (nI (k + 1)) i < 2 ^ 31 by omega)).mp y
            rw [if_pos ⟨z', y'⟩] at key
            exact key
          · have y' : ¬ (sy_B nw wo bl i hairs k).1 < ed_V wo (nI (k + 1)) i := fun x => y (nI_lt x (by omega))
            rw [if_neg (fun x => y' x.2)] at key
            exact key
        | succ f ih2 =>
          intro i hi τ ht
          have key2 := ih2 (i + 1) (by omega)
          have ek : sy_k (nI (k + 1)) (i + 1) = sy_k (nI (k + 1)) i + ed_F (fun _ => 1) (nI (k + 1)) i := rfl
          have ev : ed_V wo (nI (k + 1)) (i + 1) = ed_V wo (nI (k + 1)) i + ed_F wo (nI (k + 1)) i := rfl
          rw [sy_W, ht, Option.bind_some, ek, ev] at key2
          obtain ⟨q, q7, q1, q2⟩ := hwo i (by omega)
          refine w_X12_says_106 hs ⟨fun z => absurd z (by rw [e158, h317]; exact nI_ge (by omega) (by omega)), fun _ => ⟨fun z => absurd z (by decide), fun _ => ⟨fun z => ?_, fun z => ⟨vp_in_nI (by omega) (by omega), ?_⟩⟩⟩⟩
          · have z' : bt (nI (k + 1)) i = 0 := by
              by_cases y : bt (nI (k + 1)) i = 0
              · exact y
              · exact absurd (bt_1.mpr y) z
            rw [if_pos z', show ed_F (fun _ => 1) (nI (k + 1)) i = 0 from if_pos z', show ed_F wo (nI (k + 1)) i = 0 from if_pos z'] at key2
            rw [nI_1]
            exact key2 τ rfl
          · have z' : ¬ bt (nI (k + 1)) i = 0 := bt_1.mp z
            rw [nI_clamp (show i < 2 ^ 31 by omega), h173 i (by omega), nI_1]
            rw [if_neg z', show ed_F (fun _ => 1) (nI (k + 1)) i = 1 from if_neg z', show ed_F wo (nI (k + 1)) i = wo i from if_neg z', nwj] at key2
            cases en : nb i with
            | none =>
              refine ⟨fun _ => cant _ _ (i + 1) (sy_W_no (i := i + 1) ?_ p (by omega)), fun y => absurd rfl y⟩
              rw [sy_W, ht, Option.bind_some, if_neg z', nwj, en]
              rfl
            | some b =>
              rw [en] at key2
              have bw := hnbw i b en
              obtain ⟨b1, b2⟩ := hwn b bw
              refine ⟨fun y => absurd y (hf_nm1 (by omega)), fun _ => ⟨vp_in_nI (by omega) (by omega), ?_⟩⟩
              refine sp_X12_broadOf (i := b) (d := d + 609) hs (by omega) (by rw [e158]; exact hok b bw) (w_X12_says_180 hs ?_)
              have key3 := key2 (τ + wn b) rfl
              rw [e158, b1, hf_wo0, nI_clamp (show 269 + i < 2 ^ 31 by omega), q1, hf_wo1, nI_clamp (show 261 + q < 2 ^ 31 by omega), q2, hbl, sy_st, nI_add, nI_add, nI_add, nI_1]
              refine ⟨vp_in_nI (by omega) (by omega), vp_in_nI (by omega) (by omega), ?_⟩
              rw [show τ + sy_k (nI (k + 1)) i * bl + wn b + bl = τ + wn b + (sy_k (nI (k + 1)) i + 1) * bl by rw [Nat.succ_mul]; omega]
              exact key3
      have := walk p 0 (by omega) 0 rfl
      rw [e158, hbl]
      have e0 : nI (0 + sy_k (nI (k + 1)) 0 * bl) - nI bl = -nI bl := by
        show nI (0 + 0 * bl) - nI bl = _
        rw [Nat.zero_mul, Int32.sub_eq_add_neg, show nI (0 + 0) = 0 from rfl, Int32.zero_add]
      rw [e0] at this
      exact this
  -- the narrowest at each place
  have fill : ∀ f j, j + f = p → ∀ J, sm_fr I J → (∀ j', j' < j → J 173 j' = hf_on (nb j')) → hf_G X Y_X12_says (d + 611) kk nn 24 [some (.ref 156), some (.int (nI hairs)), some (.int x2), some (.int (nI j)), none, none, none, none, none, none, none] [] (t, T, J, L, P) Q := by
    intro f
    induction f with
    | zero =>
      intro j hj J hJ h173
      obtain rfl : j = p := by omega
      have e158 : J 158 = I 158 := hJ.1 158 (by omega) (by omega) (by omega)
      exact w_X12_says_24 hs ⟨fun _ => sets J hJ h173 (2 ^ j - 1) 0 (by omega), fun q => absurd (by rw [e158, h317]; exact nI_le (Nat.le_refl _) (by omega)) q⟩
    | succ f ih =>
      intro j hj J hJ h173
      have e158 : J 158 = I 158 := hJ.1 158 (by omega) (by omega) (by omega)
      refine w_X12_says_24 hs ⟨fun q => absurd q (by rw [e158, h317]; exact nI_ge (by omega) (by omega)), fun _ => ?_⟩
      rw [hf_wo0, nI_clamp (show 269 + j < 2 ^ 31 by omega), e158]
      refine ⟨vp_in_nI (by omega) (by omega), ms_narrowestOf (d := d) (w := w) (wn := wn) hs (lw_m_fr hlw e158) hgd hw (by rw [e158]; exact h316) (by rw [e158]; exact hok) (by rw [e158]; exact hwn) fun J1 f1 => w_X12_says_51 hs ⟨vp_in_nI (by omega) (by omega), ?_⟩⟩
      rw [e158, ← hnb j (by omega), nI_clamp (show j < 2 ^ 31 by omega), nI_1]
      have hJ1 := sm_jm hJ f1
      refine ih (j + 1) (by omega) _ ⟨fun a a1 a2 a3 => ?_, fun i hi => hJ1.2 i hi⟩ (fun j' hj' => ?_)
      · rw [← hJ1.1 a a1 a2 a3]
        unfold hf_up
        rw [if_neg a3]
      · show upd (J1 173) j (hf_on (nb j)) j' = _
        by_cases e : j' = j
        · rw [e, hf_upd_eq]
        · rw [hf_upd_ne e, f1.1 173 (by omega) (by omega)]
          exact h173 j' (by omega)
  refine w_X12_says_0 (d := d + 610) hs ⟨fun q => absurd q (nI_nlt (b := 1) hh1 (by omega)), fun _ => ⟨fun q => absurd q (nI_nlt (a := 400) hh (by omega)), fun _ => ⟨fun q => absurd q g1, fun _ => ⟨fun q => absurd q g2, fun _ => fill p 0 (by omega) I sm_rf (fun j' hj' => by omega)⟩⟩⟩⟩
end SYM
