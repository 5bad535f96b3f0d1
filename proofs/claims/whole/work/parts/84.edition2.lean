section EDC2
variable {X : hf_X} {d kk nn t : Nat} {T : hf_T} {I : hf_I} {L : hf_L} {P : hf_P} {Q : Option Value → hf_M → Prop}
theorem ed_st {mi du wo o : Nat → Nat} {c k : Nat} (h : ed_sum (ed_F wo (nI (k + 1))) o c = ed_V wo (nI (k + 1)) c) (hno : ∀ τ, ed_t mi du o (nI (k + 1)) c = some τ → ¬ (ed_B mi du wo o c k).1 < ed_sum (ed_F wo (nI (k + 1))) o c) : ed_B mi du wo o c (k + 1) = ed_B mi du wo o c k := by
  rw [h] at hno
  rw [ed_B]
  split
  · rename_i z
    cases e : ed_t mi du o (nI (k + 1)) c with
    | none => rfl
    | some τ => exact absurd z (hno τ e)
  · rfl
theorem cs_choose {c : Nat} {mi du wo : Nat → Nat} (hs : hf_Lay t T P) (hc : c ≤ 8) (h19 : I 101 19 = nI c) (h118 : ∀ j, j < c → I 118 j = nI (mi j)) (h119 : ∀ j, j < c → I 119 j = nI (du j)) (h120 : ∀ j, j < c → I 120 j = nI (wo j)) (hmi : ∀ j, mi j ≤ 99) (hdu : ∀ j, du j ≤ 999) (hwo : ∀ j, wo j ≤ 99)
    (h : ∀ g, (∀ j, j < c → g j = nI (ed_s du c j)) → Q none (t, T, ed_M (hf_set (hf_up I 144 1 (nI c)) 145 g) (nI (ed_B mi du wo (ed_s du c) c (2 ^ c - 1)).1) (nI (ed_B mi du wo (ed_s du c) c (2 ^ c - 1)).2.1) (nI (ed_B mi du wo (ed_s du c) c (2 ^ c - 1)).2.2), L, P)) :
    hf_G X Y_X2_choose (d + 1) kk nn 0 (hf_en [.ref 144, .ref 101] 3) [] (t, T, I, L, P) Q := by
  obtain ⟨p1, p2⟩ := ed_pw hc
  have p0 : 0 < 2 ^ c := Nat.two_pow_pos c
  refine w_X2_choose_0 hs (cs_sort hs hc h19 h119 hdu fun g hg => w_X2_choose_5 hs ?_)
  have ob : ∀ j, j < c → ed_s du c j < c := fun j hj => by have := ed_s_lt (f := du) c j; omega
  have loop : ∀ f k, k + f = 2 ^ c - 1 → hf_G X Y_X2_choose (d + 1) kk nn 22 [some (.ref 144), some (.ref 101), some (.int (nI (k + 1)))] [] (t, T, ed_M (hf_set (hf_up I 144 1 (nI c)) 145 g) (nI (ed_B mi du wo (ed_s du c) c k).1) (nI (ed_B mi du wo (ed_s du c) c k).2.1) (nI (ed_B mi du wo (ed_s du c) c k).2.2), L, P) Q := by
    intro f
    induction f with
    | zero =>
      intro k hk
      obtain rfl : k = 2 ^ c - 1 := by omega
      refine w_X2_choose_22 hs ⟨fun _ => h g hg, fun q => absurd ?_ q⟩
      show (1 : Int32) <<< (nI c &&& 31) ≤ _
      rw [p1]
      exact nI_le (by omega) (by omega)
    | succ f ih =>
      intro k hk
      have key := ih (k + 1) (by omega)
      refine w_X2_choose_22 hs ⟨fun q => absurd q ?_, fun _ => ?_⟩
      · show ¬ (1 : Int32) <<< (nI c &&& 31) ≤ _
        rw [p1]
        exact nI_ge (by omega) (by omega)
      · have bl := ed_B_le (mi := mi) (du := du) (o := ed_s du c) (c := c) hwo k
        have es : ed_sum (ed_F wo (nI (k + 1))) (ed_s du c) c = ed_V wo (nI (k + 1)) c := ed_s_sum c
        refine cs_weigh (c := c) (b := (ed_B mi du wo (ed_s du c) c k).1) (o := ed_s du c) hs hc (by omega) rfl rfl h118 h119 h120 hmi hdu hwo (fun j hj => ⟨hg j hj, ob j hj⟩) (fun hno => w_X2_choose_38 hs ?_) (fun τ ht hlt => w_X2_choose_38 hs ?_)
        · rw [nI_1, ← ed_st es hno]
          exact key
        · have e : ed_B mi du wo (ed_s du c) c (k + 1) = (ed_V wo (nI (k + 1)) c, k + 1, τ) := by
            rw [es] at hlt
            rw [ed_B, if_pos hlt, ht]
          rw [e] at key
          rw [ed_M_up, nI_1, es]
          exact key
  have := loop (2 ^ c - 1) 0 (by omega)
  have e : hf_up (hf_up (hf_up (hf_set (hf_up I 144 1 (nI c)) 145 g) 144 2 0) 144 3 0) 144 4 0 = ed_M (hf_set (hf_up I 144 1 (nI c)) 145 g) (nI 0) (nI 0) (nI 0) := by
    funext x
    by_cases hx : x = 144
    · subst hx; rfl
    · simp [ed_M, hf_up, hf_set, hx]
  rw [e]
  exact this
/-- which of those in the edition comes i-th, in the order o -/
def ed_f (o : Nat → Nat) (s : Int32) (x : Int32) (c : Nat) : Nat → Nat → Nat → Int32
  | 0, _, _ => -1
  | f + 1, i, n => if bt s (o i) = 0 then ed_f o s x c f (i + 1) n else if nI n = x then nI (o i) else ed_f o s x c f (i + 1) (n + 1)
theorem cs_inOrder {c : Nat} {s x : Int32} {o : Nat → Nat} (hs : hf_Lay t T P) (hc : c ≤ 8) (h1 : I 144 1 = nI c) (h3 : I 144 3 = s) (ho : ∀ j, j < c → I 145 j = nI (o j)) (h : Q (some (.int (ed_f o s x c c 0 0))) (t, T, I, L, P)) : hf_G X Y_X2_inOrder d kk nn 0 (hf_en [.ref 144, .int x] 4) [] (t, T, I, L, P) Q := by
  have loop : ∀ f i, i + f = c → ∀ n, Q (some (.int (ed_f o s x c f i n))) (t, T, I, L, P) → hf_G X Y_X2_inOrder d kk nn 4 [some (.ref 144), some (.int x), some (.int (nI n)), some (.int (nI i))] [] (t, T, I, L, P) Q := by
    intro f
    induction f with
    | zero =>
      intro i hi n hQ
      obtain rfl : i = c := by omega
      exact w_X2_inOrder_4 hs ⟨fun _ => hQ, fun q => absurd (by rw [h1]; exact nI_le (Nat.le_refl _) (by omega)) q⟩
    | succ f ih =>
      intro i hi n hQ
      refine w_X2_inOrder_4 hs ⟨fun q => absurd q (by rw [h1]; exact nI_ge (by omega) (by omega)), fun _ => ⟨vp_in_nI (by omega) (by omega), ?_⟩⟩
      rw [nI_clamp (show i < 2 ^ 31 by omega), ho i (by omega), h3, nI_1, nI_1]
      rw [ed_f] at hQ
      refine ⟨fun q => ⟨fun q2 => ?_, fun q2 => ⟨vp_in_nI (by omega) (by omega), ?_⟩⟩, fun q => ?_⟩
      · rw [if_neg (show ¬ bt s (o i) = 0 from q), if_neg q2] at hQ
        exact ih (i + 1) (by omega) (n + 1) hQ
      · rw [if_neg (show ¬ bt s (o i) = 0 from q), if_pos q2] at hQ
        exact hQ
      · rw [if_pos (show bt s (o i) = 0 from q)] at hQ
        exact ih (i + 1) (by omega) n hQ
  exact w_X2_inOrder_0 hs (loop c 0 (by omega) 0 h)
theorem ed_f_no {o : Nat → Nat} {s x : Int32} {c m : Nat} (hx : x = nI m) (hm : m < 2 ^ 31) (hc : c ≤ 8) : ∀ f i, i + f = c → ∀ n, n + (ed_sum (ed_F (fun _ => 1) s) o c - ed_sum (ed_F (fun _ => 1) s) o i) ≤ m → ed_f o s x c f i n = -1 := by
  intro f
  induction f with
  | zero => intro i _ n _; rfl
  | succ f ih =>
    intro i hi n hn
    have m1 := ed_sum_mono (F := ed_F (fun _ => 1) s) (o := o) (show i + 1 ≤ c by omega)
    rw [ed_sum] at m1
    have key := ih (i + 1) (by omega)
    rw [ed_sum] at key
    rw [ed_f]
    by_cases q : bt s (o i) = 0
    · have e : ed_F (fun _ => 1) s (o i) = 0 := if_pos q
      rw [e] at m1 key
      rw [if_pos q]
      exact key n (by omega)
    · have e : ed_F (fun _ => 1) s (o i) = 1 := if_neg q
      rw [e] at m1 key
      rw [if_neg q, if_neg]
      · exact key (n + 1) (by omega)
      · rw [hx, nI_eq (by omega) (by omega)]
        omega
end EDC2
section EDM
variable {X : hf_X} {d kk nn t : Nat} {T : hf_T} {I : hf_I} {L : hf_L} {P : hf_P} {Q : Option Value → hf_M → Prop}
theorem hf_ma1 (i : Nat) : (287 + (3 * nI i)) + 1 = nI (287 + 3 * i + 1) := by rw [show (287 : Int32) = nI 287 from rfl, show (3 : Int32) = nI 3 from rfl, pk_mul, nI_add, nI_1]
theorem hf_ma2 (i : Nat) : (287 + (3 * nI i)) + 2 = nI (287 + 3 * i + 2) := by rw [show (287 : Int32) = nI 287 from rfl, show (3 : Int32) = nI 3 from rfl, show (2 : Int32) = nI 2 from rfl, pk_mul, nI_add, nI_add]
theorem hf_ma0 (i : Nat) : 287 + (3 * nI i) = nI (287 + 3 * i) := by rw [show (287 : Int32) = nI 287 from rfl, show (3 : Int32) = nI 3 from rfl, pk_mul, nI_add]
theorem ms_sort {c : Nat} {du : Nat → Nat} (hs : hf_Lay t T P) (hc : c ≤ 8) (h19 : I 158 319 = nI c) (hd : ∀ j, j < c → I 158 (287 + 3 * j + 1) = nI (du j)) (hdu : ∀ j, du j ≤ 999) (h : ∀ g, (∀ j, j < c → g j = nI (ed_s du c j)) → Q none (t, T, hf_set I 179 g, L, P)) : hf_G X Y_X12_sortsMatters d kk nn 0 (hf_en [.ref 156] 3) [] (t, T, I, L, P) Q := by
  have inner : ∀ v, v < c → ∀ x, x ≤ v → ∀ (o : Nat → Nat) (g : Nat → Int32), (∀ j, o j ≤ v) → (∀ j, j ≤ v → ¬ j = x → g j = nI (o j)) → (∀ g', (∀ j, j ≤ v → g' j = nI (ed_i du v x o j)) → hf_G X Y_X12_sortsMatters d kk nn 2 [some (.ref 156), some (.int (nI (v + 1))), none] [] (t, T, hf_set I 179 g', L, P) Q) → hf_G X Y_X12_sortsMatters d kk nn 16 [some (.ref 156), some (.int (nI v)), some (.int (nI x))] [] (t, T, hf_set I 179 g, L, P) Q := by
    intro v hv x
    have put : ∀ x, x ≤ v → ∀ (o : Nat → Nat) (g : Nat → Int32), (∀ j, j ≤ v → ¬ j = x → g j = nI (o j)) → ∀ j, j ≤ v → upd g x (nI v) j = nI (ed_u o x v j) := by
      intro x _ o g hg j hj
      unfold upd ed_u
      by_cases e : j = x
      · rw [if_pos e, if_pos e]
      · rw [if_neg e, if_neg e, hg j hj e]
    induction x with
    | zero =>
      intro hx o g ho hg hG
      refine w_X12_sortsMatters_16 hs ⟨fun _ => ⟨vp_in_nI (by omega) (by omega), ?_⟩, fun q => absurd (by decide) q⟩
      rw [nI_1, nI_clamp (show 0 < 2 ^ 31 by omega), hf_up_set]
      exact hG _ (put 0 hx o g hg)
    | succ x ih =>
      intro hx o g ho hg hG
      have ex : nI (x + 1) - 1 = nI x := by rw [← nI_1, Int32.add_sub_cancel]
      have ex2 : nI (x + 1) + (-1) = nI x := by rw [← Int32.sub_eq_add_neg, ex]
      have ox := ho x
      refine w_X12_sortsMatters_16 hs ⟨fun q => absurd q (by have := nI_ge (a := 0) (b := x + 1) (by omega) (by omega); exact this), fun _ => ?_⟩
      have e1 : hf_set I 179 g 179 x = nI (o x) := hg x (by omega) (by omega)
      have e2 : hf_set I 179 g 158 (287 + 3 * o x + 1) = nI (du (o x)) := hd _ (by omega)
      have e3 : hf_set I 179 g 158 (287 + 3 * v + 1) = nI (du v) := hd v hv
      rw [ex, ex2, nI_clamp (show x < 2 ^ 31 by omega), e1, hf_ma1, hf_ma1, nI_clamp (show 287 + 3 * o x + 1 < 2 ^ 31 by omega), e2, nI_clamp (show 287 + 3 * v + 1 < 2 ^ 31 by omega), e3, nI_1 v, nI_clamp (show x + 1 < 2 ^ 31 by omega), hf_up_set, hf_up_set]
      have b1 := hdu (o x)
      have b2 := hdu v
      refine ⟨vp_in_nI (by omega) (by omega), vp_in_nI (by omega) (by omega), vp_in_nI (by omega) (by omega), fun q => ⟨vp_in_nI (by omega) (by omega), ?_⟩, fun q => ⟨vp_in_nI (by omega) (by omega), vp_in_nI (by omega) (by omega), ?_⟩⟩
      · have q' := (nI_leI (show du (o x) < 2 ^ 31 by omega) (show du v < 2 ^ 31 by omega)).mp q
        refine hG _ fun j hj => ?_
        rw [ed_i, if_pos q']
        exact put (x + 1) hx o g hg j hj
      · have q' : ¬ du (o x) ≤ du v := fun z => q (nI_le z (by omega))
        refine ih (by omega) (ed_u o (x + 1) (o x)) _ (fun j => ?_) (fun j hj hjx => ?_) (fun g' hg' => hG g' fun j hj => ?_)
        · unfold ed_u
          split
          · exact ox
          · exact ho j
        · unfold upd ed_u
          by_cases e : j = x + 1
          · rw [if_pos e, if_pos e]
          · rw [if_neg e, if_neg e, hg j hj e]
        · rw [ed_i, if_neg q']
          exact hg' j hj
  have outer : ∀ f v, v + f = c → ∀ g, (∀ j, j < v → g j = nI (ed_s du v j)) → hf_G X Y_X12_sortsMatters d kk nn 2 [some (.ref 156), some (.int (nI v)), none] [] (t, T, hf_set I 179 g, L, P) Q := by
    intro f
    induction f with
    | zero =>
      intro v hv g hg
      obtain rfl : v = c := by omega
      exact w_X12_sortsMatters_2 hs ⟨fun _ => h g hg, fun q => absurd (by show I 158 319 ≤ _; rw [h19]; exact nI_le (Nat.le_refl _) (by omega)) q⟩
    | succ f ih =>
      intro v hv g hg
      refine w_X12_sortsMatters_2 hs ⟨fun q => absurd q (by show ¬ I 158 319 ≤ _; rw [h19]; exact nI_ge (a := v) (b := c) (by omega) (by omega)), fun _ => ?_⟩
      exact inner v (by omega) v (Nat.le_refl _) (ed_s du v) g (fun j => by have := ed_s_lt (f := du) v j; omega) (fun j hj hjv => hg j (by omega)) (fun g' hg' => ih (v + 1) (by omega) g' fun j hj => hg' j (by omega))
  refine w_X12_sortsMatters_0 hs ?_
  have := outer c 0 (by omega) (I 179) (fun j hj => by omega)
  rw [hf_set_self] at this
  exact this
theorem ms_doneBy {c : Nat} {s : Int32} {mi du o : Nat → Nat} (hs : hf_Lay t T P) (hc : c ≤ 8) (h1 : I 158 319 = nI c) (h0m : ∀ j, j < c → I 158 (287 + 3 * j) = nI (mi j)) (h1m : ∀ j, j < c → I 158 (287 + 3 * j + 1) = nI (du j)) (hmi : ∀ j, mi j ≤ 99) (hdu : ∀ j, du j ≤ 999) (ho : ∀ j, j < c → I 179 j = nI (o j) ∧ o j < c)
    (hno : ed_t mi du o s c = none → Q (some (.int 1000000)) (t, T, I, L, P)) (hy : ∀ τ, ed_t mi du o s c = some τ → Q (some (.int (nI τ))) (t, T, I, L, P)) :
    hf_G X Y_X12_doneBy (d + 1) kk nn 0 (hf_en [.ref 156, .int s] 4) [] (t, T, I, L, P) Q := by
  have loop : ∀ f i, i + f = c → ∀ τ, ed_t mi du o s i = some τ → hf_G X Y_X12_doneBy (d + 1) kk nn 4 [some (.ref 156), some (.int s), some (.int (nI τ)), some (.int (nI i))] [] (t, T, I, L, P) Q := by
    intro f
    induction f with
    | zero =>
      intro i hi τ ht
      obtain rfl : i = c := by omega
      exact w_X12_doneBy_4 hs ⟨fun _ => hy τ ht, fun q => absurd (by rw [h1]; exact nI_le (Nat.le_refl _) (by omega)) q⟩
    | succ f ih =>
      intro i hi τ ht
      obtain ⟨o1, o2⟩ := ho i (by omega)
      have tl := ed_t_le (du := du) (o := o) (s := s) hmi i τ ht
      have ml := hmi (o i)
      have dl := hdu (o i)
      have key := ih (i + 1) (by omega)
      rw [ed_t, ht, Option.bind_some] at key
      have vi : vp_in (nI i) 8 := vp_in_nI (by omega) (by omega)
      refine w_X12_doneBy_4 hs ⟨fun q => absurd q (by rw [h1]; exact nI_ge (by omega) (by omega)), fun _ => ⟨vi, ?_⟩⟩
      rw [nI_clamp (show i < 2 ^ 31 by omega), o1, hf_ma1, hf_ma0, nI_clamp (show 287 + 3 * o i < 2 ^ 31 by omega), nI_clamp (show 287 + 3 * o i + 1 < 2 ^ 31 by omega), h0m _ o2, h1m _ o2, nI_add, nI_1]
      refine ⟨fun q => ?_, fun q => ⟨vi, vp_in_nI (by omega) (by omega), vi, vp_in_nI (by omega) (by omega), fun q2 => ?_, fun q2 => ?_⟩⟩
      · have q' : bt s (o i) = 0 := by
          by_cases z : bt s (o i) = 0
          · exact z
          · exact absurd (bt_1.mpr z) q
        rw [if_pos q'] at key
        exact key _ rfl
      · have q' : ¬ bt s (o i) = 0 := bt_1.mp q
        have q2' := (nI_leI (show τ + mi (o i) < 2 ^ 31 by omega) (show du (o i) < 2 ^ 31 by omega)).mp q2
        rw [if_neg q', if_pos q2'] at key
        exact key _ rfl
      · have q' : ¬ bt s (o i) = 0 := bt_1.mp q
        have q2' : ¬ τ + mi (o i) ≤ du (o i) := fun z => q2 (nI_le z (by omega))
        have e : ed_t mi du o s (i + 1) = none := by rw [ed_t, ht, Option.bind_some, if_neg q', if_neg q2']
        exact hno (ed_t_no e c (by omega))
  exact w_X12_doneBy_0 hs (loop c 0 (by omega) 0 rfl)
theorem ms_ones {s : Int32} (hs : hf_Lay t T P) (h : Q (some (.int (nI (ed_sum (ed_F (fun _ => 1) s) (fun j => j) 8)))) (t, T, I, L, P)) : hf_G X Y_X12_ones d kk nn 0 (hf_en [.int s] 3) [] (t, T, I, L, P) Q := by
  have loop : ∀ f i, i + f = 8 → hf_G X Y_X12_ones d kk nn 4 [some (.int s), some (.int (nI (ed_sum (ed_F (fun _ => 1) s) (fun j => j) i))), some (.int (nI i))] [] (t, T, I, L, P) Q := by
    intro f
    induction f with
    | zero =>
      intro i hi
      obtain rfl : i = 8 := by omega
      exact w_X12_ones_4 hs ⟨fun _ => h, fun q => absurd (by decide) q⟩
    | succ f ih =>
      intro i hi
      have key := ih (i + 1) (by omega)
      rw [ed_sum] at key
      refine w_X12_ones_4 hs ⟨fun q => absurd q (nI_ge (b := 8) (by omega) (by omega)), fun _ => ?_⟩
      have e : (s >>> (nI i &&& 31)) &&& 1 = nI (ed_F (fun _ => 1) s i) := bt_n
      rw [e, nI_add, nI_1]
      exact key
  exact w_X12_ones_0 hs (loop 8 0 (by omega))
theorem ms_edition {c : Nat} {x : Int32} {mi du wo : Nat → Nat} (hs : hf_Lay t T P) (hc : c ≤ 8) (h319 : I 158 319 = nI c) (hm0 : ∀ j, j < c → I 158 (287 + 3 * j) = nI (mi j)) (hm1 : ∀ j, j < c → I 158 (287 + 3 * j + 1) = nI (du j)) (hm2 : ∀ j, j < c → I 158 (287 + 3 * j + 2) = nI (wo j)) (hmi : ∀ j, mi j ≤ 99) (hdu : ∀ j, du j ≤ 999) (hwo : ∀ j, wo j ≤ 99) (hx : 0 ≤ x)
    (h : ∀ g v, (x = 0 → v = nI (ed_B mi du wo (ed_s du c) c (2 ^ c - 1)).1) → (x = 1 → v = nI (ed_B mi du wo (ed_s du c) c (2 ^ c - 1)).2.1) → (x = 2 → v = nI (ed_B mi du wo (ed_s du c) c (2 ^ c - 1)).2.2) → (3 ≤ x → v = ed_f (ed_s du c) (nI (ed_B mi du wo (ed_s du c) c (2 ^ c - 1)).2.1) (x - 3) c c 0 0) → Q (some (.int v)) (t, T, hf_set I 179 g, L, P)) :
    hf_G X Y_X12_edition (d + 2) kk nn 0 (hf_en [.ref 156, .int x] 7) [] (t, T, I, L, P) Q := by
  obtain ⟨p1, p2⟩ := ed_pw hc
  have p0 : 0 < 2 ^ c := Nat.two_pow_pos c
  refine w_X12_edition_0 hs ⟨fun _ => ms_sort hs hc h319 hm1 hdu fun g hg => w_X12_edition_10 hs ?_, fun q => absurd hx q⟩
  have ob : ∀ j, j < c → ed_s du c j < c := fun j hj => by have := ed_s_lt (f := du) c j; omega
  have o8 : ∀ j, ed_s du c j < 8 := fun j => by have := ed_s_lt (f := du) c j; omega
  obtain ⟨z1, z2⟩ := ed_B_t (mi := mi) (du := du) (wo := wo) (c := c) o8 (2 ^ c - 1)
  have e319 : hf_set I 179 g 158 319 = nI c := h319
  -- the end
  have ends : hf_G X Y_X12_edition (d + 2) kk nn 17 [some (.ref 156), some (.int x), some (.int (nI (ed_B mi du wo (ed_s du c) c (2 ^ c - 1)).2.1)), some (.int (nI (ed_B mi du wo (ed_s du c) c (2 ^ c - 1)).1)), some (.int (nI (2 ^ c))), none, none] [] (t, T, hf_set I 179 g, L, P) Q := by
    generalize ed_B mi du wo (ed_s du c) c (2 ^ c - 1) = B at h z1 z2 ⊢
    refine w_X12_edition_17 hs ⟨fun _ => ⟨fun q => ?_, fun q => ⟨fun q0 => ⟨fun q1 => ?_, fun q1 => ?_⟩, fun q0 => ?_⟩⟩, fun q => absurd ?_ q⟩
    · -- in order
      obtain ⟨m, m1, m2⟩ := nI_of (x := x) (Int32.not_lt.mpr hx)
      have m3 : 3 ≤ m := (nI_leI (a := 3) (by omega) (by omega)).mp (by rw [← m2]; exact q)
      have ex : x - 3 = nI (m - 3) := by
        obtain ⟨y, rfl⟩ : ∃ y, m = y + 3 := ⟨m - 3, by omega⟩
        rw [m2, show (3 : Int32) = nI 3 from rfl, ← nI_add, Int32.add_sub_cancel, Nat.add_sub_cancel]
      have x0 : ¬ x = 0 := fun z => by rw [z] at q; exact absurd q (by decide)
      have x1 : ¬ x = 1 := fun z => by rw [z] at q; exact absurd q (by decide)
      have x2 : ¬ x = 2 := fun z => by rw [z] at q; exact absurd q (by decide)
      have hQ := h g (ed_f (ed_s du c) (nI B.2.1) (x - 3) c c 0 0) (fun z => absurd z x0) (fun z => absurd z x1) (fun z => absurd z x2) (fun _ => rfl)
      refine ms_ones hs (w_X12_edition_162 hs ⟨fun g1 => ?_, fun g1 => ?_⟩)
      · have loop : ∀ f i, i + f = c → ∀ n, Q (some (.int (ed_f (ed_s du c) (nI B.2.1) (x - 3) c f i n))) (t, T, hf_set I 179 g, L, P) → hf_G X Y_X12_edition (d + 2) kk nn 173 [some (.ref 156), none, some (.int (nI B.2.1)), none, some (.int (x - 3)), some (.int (nI n)), some (.int (nI i))] [] (t, T, hf_set I 179 g, L, P) Q := by
          intro f
          induction f with
          | zero =>
            intro i hi n hQ
            obtain rfl : i = c := by omega
            exact w_X12_edition_173 hs ⟨fun _ => hQ, fun q => absurd (by rw [e319]; exact nI_le (Nat.le_refl _) (by omega)) q⟩
          | succ f ih =>
            intro i hi n hQ
            refine w_X12_edition_173 hs ⟨fun q => absurd q (by rw [e319]; exact nI_ge (by omega) (by omega)), fun _ => ⟨vp_in_nI (by omega) (by omega), ?_⟩⟩
            have e179 : hf_set I 179 g 179 i = nI (ed_s du c i) := hg i (by omega)
            rw [nI_clamp (show i < 2 ^ 31 by omega), e179, nI_1, nI_1]
            rw [ed_f] at hQ
            refine ⟨fun q => ?_, fun q => ⟨fun q2 => ?_, fun q2 => ⟨vp_in_nI (by omega) (by omega), ?_⟩⟩⟩
            · have q' : bt (nI B.2.1) (ed_s du c i) = 0 := by
                by_cases z : bt (nI B.2.1) (ed_s du c i) = 0
                · exact z
                · exact absurd (bt_1.mpr z) q
              rw [if_pos q'] at hQ
              exact ih (i + 1) (by omega) n hQ
            · rw [if_neg (bt_1.mp q), if_neg q2] at hQ
              exact ih (i + 1) (by omega) (n + 1) hQ
            · rw [if_neg (bt_1.mp q), if_pos q2] at hQ
              exact hQ
        exact loop c 0 (by omega) 0 hQ
      · have ol := ed_sum_le (F := ed_F (fun _ => 1) (nI B.2.1)) (o := fun j => j) (b := 1) (fun j => by unfold ed_F; split; exact Nat.zero_le _; exact Nat.le_refl _) 8
        have g2 : ed_sum (ed_F (fun _ => 1) (nI B.2.1)) (fun j => j) 8 ≤ m - 3 := Nat.not_lt.mp fun z => g1 (by rw [ex]; exact nI_lt z (by omega))
        have g3 := ed_sum_mono (F := ed_F (fun _ => 1) (nI B.2.1)) (o := fun j => j) hc
        have g4 := ed_s_sum (F := ed_F (fun _ => 1) (nI B.2.1)) (f := du) c
        rw [ed_f_no (m := m - 3) ex (by omega) hc c 0 (by omega) 0 (by omega)] at hQ
        exact hQ
    · -- minutes
      have x2 : x = 2 := by
        obtain ⟨m, m1, m2⟩ := nI_of (x := x) (Int32.not_lt.mpr hx)
        rw [m2] at q q0 q1 ⊢
        have a1 : ¬ 3 ≤ m := fun z => q (nI_le (a := 3) z (by omega))
        have a2 : ¬ m = 0 := fun z => q0 (by rw [z]; rfl)
        have a3 : ¬ m = 1 := fun z => q1 (by rw [z]; rfl)
        rw [show m = 2 by omega]; rfl
      refine ms_doneBy hs hc e319 hm0 hm1 hmi hdu (fun j hj => ⟨hg j hj, ob j hj⟩) (fun z => by rw [z1] at z; cases z) (fun τ z => ?_)
      rw [z1] at z
      cases z
      exact w_X12_edition_150 hs (h g _ (fun z => absurd z q0) (fun z => absurd z q1) (fun _ => rfl) (fun z => absurd z q))
    · exact h g _ (fun z => absurd z q0) (fun _ => rfl) (fun z => by rw [z] at q1; exact absurd q1 (by decide)) (fun z => absurd z q)
    · exact h g _ (fun _ => rfl) (fun z => by rw [z] at q0; exact absurd q0 (by decide)) (fun z => by rw [z] at q0; exact absurd q0 (by decide)) (fun z => absurd z q)
    · rw [e319, p1]
      exact nI_le (Nat.le_refl _) (by omega)
  have sets : ∀ f k, k + f = 2 ^ c - 1 → hf_G X Y_X12_edition (d + 2) kk nn 17 [some (.ref 156), some (.int x), some (.int (nI (ed_B mi du wo (ed_s du c) c k).2.1)), some (.int (nI (ed_B mi du wo (ed_s du c) c k).1)), some (.int (nI (k + 1))), none, none] [] (t, T, hf_set I 179 g, L, P) Q := by
    intro f
    induction f with
    | zero =>
      intro k hk
      have e : k + 1 = 2 ^ c := by omega
      rw [e]
      have e2 : k = 2 ^ c - 1 := by omega
      rw [e2]
      exact ends
    | succ f ih =>
      intro k hk
      have key := ih (k + 1) (by omega)
      have bl := ed_B_le (mi := mi) (du := du) (o := ed_s du c) (c := c) hwo k
      have vl := ed_V_le (wo := wo) (s := nI (k + 1)) (c := c) hwo
      have hF : ∀ j, ed_F wo (nI (k + 1)) j ≤ 99 := fun j => by unfold ed_F; split; omega; exact hwo j
      refine w_X12_edition_17 hs ⟨fun q => absurd q (by rw [e319, p1]; exact nI_ge (by omega) (by omega)), fun _ => ?_⟩
      have sum : ∀ f i, i + f = c → hf_G X Y_X12_edition (d + 2) kk nn 38 [some (.ref 156), some (.int x), some (.int (nI (ed_B mi du wo (ed_s du c) c k).2.1)), some (.int (nI (ed_B mi du wo (ed_s du c) c k).1)), some (.int (nI (k + 1))), some (.int (nI (ed_sum (ed_F wo (nI (k + 1))) (fun j => j) i))), some (.int (nI i))] [] (t, T, hf_set I 179 g, L, P) Q := by
        intro f
        induction f with
        | zero =>
          intro i hi
          obtain rfl : i = c := by omega
          refine w_X12_edition_38 hs ⟨fun _ => ⟨fun q => ?_, fun q => ?_⟩, fun q => absurd (by rw [e319]; exact nI_le (Nat.le_refl _) (by omega)) q⟩
          · have q' := (nI_leI (show ed_V wo (nI (k + 1)) i < 2 ^ 31 by omega) (show (ed_B mi du wo (ed_s du i) i k).1 < 2 ^ 31 by omega)).mp q
            rw [ed_B, if_neg (by omega)] at key
            rw [nI_1]
            exact key
          · have q' : (ed_B mi du wo (ed_s du i) i k).1 < ed_V wo (nI (k + 1)) i := Nat.not_le.mp fun z => q (nI_le z (by omega))
            rw [ed_B, if_pos q'] at key
            refine ms_doneBy hs hc e319 hm0 hm1 hmi hdu (fun j hj => ⟨hg j hj, ob j hj⟩) (fun z => ?_) (fun τ z => ?_)
            · rw [z] at key
              refine w_X12_edition_103 hs ⟨fun g1 => absurd rfl g1, fun _ => ?_⟩
              rw [nI_1]
              exact key
            · rw [z] at key
              have tl := ed_t_le hmi i τ z
              refine w_X12_edition_103 hs ⟨fun _ => ?_, fun g1 => ?_⟩
              · rw [nI_1]
                exact key
              · have := (nI_eq (b := 1000000) (show τ < 2 ^ 31 by omega) (by omega)).mp g1
                omega
        | succ f ih2 =>
          intro i hi
          have key2 := ih2 (i + 1) (by omega)
          rw [ed_sum] at key2
          refine w_X12_edition_38 hs ⟨fun q => absurd q (by rw [e319]; exact nI_ge (by omega) (by omega)), fun _ => ?_⟩
          have e2 : hf_set I 179 g 158 (287 + 3 * i + 2) = nI (wo i) := hm2 i (by omega)
          rw [hf_ma2, nI_clamp (show 287 + 3 * i + 2 < 2 ^ 31 by omega), e2, nI_add, nI_1, Int32.add_zero]
          refine ⟨fun q => ?_, fun q => ⟨vp_in_nI (by omega) (by omega), ?_⟩⟩
          · have q' : bt (nI (k + 1)) i = 0 := by
              by_cases z : bt (nI (k + 1)) i = 0
              · exact z
              · exact absurd (bt_1.mpr z) q
            rw [show ed_F wo (nI (k + 1)) i = 0 from if_pos q', Nat.add_zero] at key2
            exact key2
          · rw [show ed_F wo (nI (k + 1)) i = wo i from if_neg (bt_1.mp q)] at key2
            exact key2
      exact sum c 0 (by omega)
  exact sets (2 ^ c - 1) 0 (by omega)
end EDM
section OPS
variable {SL : Nat → hf_T → hf_P → (Nat → Nat → Int32) → Int32 → (Nat → Int32) → (Nat → Int32) → (Nat → Int32) → Prop} {CC : Int32 → Int32 → Int32 → Int32 → Int32 → Int32 → (Nat → Int32) → (Nat → Int32) → Int32 → (Nat → Int32) → (Nat → Int32) → (Nat → Int32) → (Nat → Int32) → (Nat → Int32) → (Nat → Int32) → (Nat → Int32) → (Nat → Nat → Int32) → hf_P → Int64 → Int64 → Int32 → Int32 → Prop}
variable {X : hf_X} {d N t : Nat} {T : hf_T} {I I2 : hf_I} {L : hf_L} {P : hf_P}
set_option maxHeartbeats 1000000 in
theorem op_edition {a : Int32} (h : hf_Sim SL CC N t T I L P) : hf_Pair X Y_X11_edition Y_X12_edition [.int a] (d + 2) 0 0 (t, T, I, L, P) (hf_SimM SL CC (N + 1)) := by
  have hs := h.1
  obtain ⟨m1, m2, m3, m4, m5, m6, m7, m8, ⟨c, c1, c2, c3, c4⟩, m10⟩ := h.2.1
  have ex : ∀ j, ∃ q : Nat × Nat × Nat, (j < c → I 118 j = nI q.1 ∧ I 119 j = nI q.2.1 ∧ I 120 j = nI q.2.2 ∧ I 158 (287 + 3 * j) = nI q.1 ∧ I 158 (287 + 3 * j + 1) = nI q.2.1 ∧ I 158 (287 + 3 * j + 2) = nI q.2.2) ∧ q.1 ≤ 99 ∧ q.2.1 ≤ 999 ∧ q.2.2 ≤ 99 := by
    intro j
    by_cases hj : j < c
    · obtain ⟨⟨a1, a2, a3⟩, ⟨b1, b2, b3⟩, d1, d2, d3⟩ := c4 j hj
      obtain ⟨q1, _, q2, q3⟩ := bd_rng (a := 1) (b := 99) (by decide) (by decide) a2 a3
      obtain ⟨r1, _, r2, r3⟩ := bd_rng (a := 0) (b := 999) (by decide) (by decide) b2 b3
      obtain ⟨s1, _, s2, s3⟩ := bd_rng (a := 1) (b := 99) (by decide) (by decide) d2 d3
      exact ⟨(q1, r1, s1), fun _ => ⟨q3, r3, s3, a1.symm.trans q3, b1.symm.trans r3, d1.symm.trans s3⟩, q2, r2, s2⟩
    · exact ⟨(0, 0, 0), fun z => absurd z hj, by decide, by decide, by decide⟩
  obtain ⟨F, hF⟩ : ∃ F : Nat → Nat × Nat × Nat, ∀ j, (j < c → I 118 j = nI (F j).1 ∧ I 119 j = nI (F j).2.1 ∧ I 120 j = nI (F j).2.2 ∧ I 158 (287 + 3 * j) = nI (F j).1 ∧ I 158 (287 + 3 * j + 1) = nI (F j).2.1 ∧ I 158 (287 + 3 * j + 2) = nI (F j).2.2) ∧ (F j).1 ≤ 99 ∧ (F j).2.1 ≤ 999 ∧ (F j).2.2 ≤ 99 := ⟨fun j => Classical.choose (ex j), fun j => Classical.choose_spec (ex j)⟩
  have post : ∀ (g g' : Nat → Int32) (w b m : Int32), hf_Sim SL CC (N + 1) t T (hf_set (ed_M (hf_set (hf_up I 144 1 (nI c)) 145 g) w b m) 179 g') L P := by
    intro g g' w b m
    refine sim_mk0 h h.2.1 h.2.2.1 rfl rfl h.2.2.2.2.1 (fun a => ?_) rfl (fun i => rfl) rfl rfl
    unfold ed_M
    rw [hf_setJ (by omega), hf_setJ (by omega), hf_setJ (by omega), hf_upJ (by omega)]
  refine w_X11_edition_0 (d := d + 1) hs (cs_choose hs c1 c2 (fun j hj => ((hF j).1 hj).1) (fun j hj => ((hF j).1 hj).2.1) (fun j hj => ((hF j).1 hj).2.2.1) (fun j => (hF j).2.1) (fun j => (hF j).2.2.1) (fun j => (hF j).2.2.2) fun g hg => ?_)
  have mod : ∀ (w b m v : Int32), 0 ≤ a → (∀ v', (a = 0 → v' = nI (ed_B (fun j => (F j).1) (fun j => (F j).2.1) (fun j => (F j).2.2) (ed_s (fun j => (F j).2.1) c) c (2 ^ c - 1)).1) → (a = 1 → v' = nI (ed_B (fun j => (F j).1) (fun j => (F j).2.1) (fun j => (F j).2.2) (ed_s (fun j => (F j).2.1) c) c (2 ^ c - 1)).2.1) → (a = 2 → v' = nI (ed_B (fun j => (F j).1) (fun j => (F j).2.1) (fun j => (F j).2.2) (ed_s (fun j => (F j).2.1) c) c (2 ^ c - 1)).2.2) → (3 ≤ a → v' = ed_f (ed_s (fun j => (F j).2.1) c) (nI (ed_B (fun j => (F j).1) (fun j => (F j).2.1) (fun j => (F j).2.2) (ed_s (fun j => (F j).2.1) c) c (2 ^ c - 1)).2.1) (a - 3) c c 0 0) → v' = v) → ∃ v0, some (Value.int v) = some (Value.int v0) ∧ hf_G X Y_X12_edition (d + 2) 0 0 0 (hf_en (.ref 156 :: [.int a]) 7) [] (t, T, ed_M (hf_set (hf_up I 144 1 (nI c)) 145 g) w b m, L, P) (fun r2 M2 => r2 = some (.int v0) ∧ hf_SimM SL CC (N + 1) M2) := by
    intro w b m v ha hv
    exact ⟨v, rfl, ms_edition hs c1 c3 (fun j hj => ((hF j).1 hj).2.2.2.1) (fun j hj => ((hF j).1 hj).2.2.2.2.1) (fun j hj => ((hF j).1 hj).2.2.2.2.2) (fun j => (hF j).2.1) (fun j => (hF j).2.2.1) (fun j => (hF j).2.2.2) ha fun g' v' z0 z1 z2 z3 => ⟨by rw [hv v' z0 z1 z2 z3], post g g' w b m⟩⟩
  refine w_X11_edition_11 hs ⟨fun q0 => ⟨fun q1 => ⟨fun q2 => ⟨fun q3 => ?_, fun q3 => ?_⟩, fun q2 => ?_⟩, fun q1 => ?_⟩, fun q0 => ?_⟩
  · refine cs_inOrder (o := ed_s (fun j => (F j).2.1) c) hs c1 rfl rfl hg (w_X11_edition_68 hs ?_)
    exact mod _ _ _ _ (Int32.le_trans (by decide) q3) (fun v' _ _ _ z => z q3)
  · have ha : ¬ 0 ≤ a := by
      intro z
      obtain ⟨m, m1, m2⟩ := nI_of (x := a) (Int32.not_lt.mpr z)
      rw [m2] at q0 q1 q2 q3
      have a1 : ¬ 3 ≤ m := fun z => q3 (nI_le (a := 3) z (by omega))
      have a2 : ¬ m = 0 := fun z => q0 (by rw [z]; rfl)
      have a3 : ¬ m = 1 := fun z => q1 (by rw [z]; rfl)
      exact q2 (by rw [show m = 2 by omega]; rfl)
    refine ⟨_, rfl, w_X12_edition_0 (d := d + 1) hs ⟨fun z => absurd z ha, fun _ => ⟨rfl, ?_⟩⟩⟩
    have := post g (I 179) (nI (ed_B (fun j => (F j).1) (fun j => (F j).2.1) (fun j => (F j).2.2) (ed_s (fun j => (F j).2.1) c) c (2 ^ c - 1)).1) (nI (ed_B (fun j => (F j).1) (fun j => (F j).2.1) (fun j => (F j).2.2) (ed_s (fun j => (F j).2.1) c) c (2 ^ c - 1)).2.1) (nI (ed_B (fun j => (F j).1) (fun j => (F j).2.1) (fun j => (F j).2.2) (ed_s (fun j => (F j).2.1) c) c (2 ^ c - 1)).2.2)
    rw [show ∀ J : hf_I, J 179 = I 179 → hf_set J 179 (I 179) = J from fun J hJ => by rw [← hJ, hf_set_self]] at this
    · exact this
    · rfl
  · subst q2
    exact mod _ _ _ _ (by decide) (fun v' _ _ z _ => z rfl)
  · subst q1
    exact mod _ _ _ _ (by decide) (fun v' _ z _ _ => z rfl)
  · subst q0
    exact mod _ _ _ _ (by decide) (fun v' z _ _ _ => z rfl)
end OPS
