/-! cells that are not made yet may be what one likes; new cells are as they stand there -/
section JK
variable {X : hf_X} {Y : hf_Y} {d k n pc ix : Nat} {l : List (Option Value)} {st : List Value} {Q : Option Value → hf_M → Prop}
variable {t : Nat} {T T' : hf_T} {I I' : hf_I} {L L' : hf_L} {P P' : hf_P}
theorem hf_G_kn {k' n' : Nat} {M : hf_M} (hk : k' ≤ k) (hn : n' ≤ n) (h : hf_G X Y d k' n' pc l st M Q) : hf_G X Y d k n pc l st M Q := by
  intro B ad D dA p la e s m args below meth c H locs cells slots mc ms ls hc hk1 hn1 hH hS hl
  exact h B ad D dA p la e s m args below meth c H locs cells slots mc ms ls hc (by omega) (by omega) hH hS hl
def jk_as (t : Nat) (T T' : hf_T) (I I' : hf_I) (L L' : hf_L) (P P' : hf_P) : Prop := ∀ a, a < 100 + t → T' a = T a ∧ I' a = I a ∧ L' a = L a ∧ P' a = P a
theorem hf_ws_cg {B : Nat} {ad : Nat → Nat} {dA : Nat → ClassId} (h : jk_as t T T' I I' L L' P P') : hf_ws B ad dA (t, T', I', L', P') = hf_ws B ad dA (t, T, I, L, P) := by
  unfold hf_ws
  refine List.map_congr_left fun k hk => ?_
  have hk : k < t := List.mem_range.mp hk
  obtain ⟨e1, e2, e3, e4⟩ := h (100 + k) (by omega)
  show (B + k, hf_c B ad dA (T' (100 + k)) (I' (100 + k)) (L' (100 + k)) (P' (100 + k))) = (B + k, hf_c B ad dA (T (100 + k)) (I (100 + k)) (L (100 + k)) (P (100 + k)))
  rw [e1, e2, e3, e4]
theorem hf_G_junk (h : jk_as t T T' I I' L L' P P') (g : hf_G X Y d k n pc l st (t, T', I', L', P') Q) : hf_G X Y d k n pc l st (t, T, I, L, P) Q := by
  intro B ad D dA p la e s m args below meth c H locs cells slots mc ms ls hc hk1 hn1 hH hS hl
  have hH' : hf_H B ad D dA (t, T', I', L', P') H := ⟨hH.1, by rw [hf_ws_cg h]; exact hH.2⟩
  exact g B ad D dA p la e s m args below meth c H locs cells slots mc ms ls hc hk1 hn1 hH' hS hl
/-- cell a is as a new one -/
def jk_nw (T : hf_T) (I : hf_I) (L : hf_L) (P : hf_P) (a : Nat) (q : Nat × Nat) : Prop := T a = q ∧ I a = (fun _ => 0) ∧ L a = (fun _ => 0) ∧ P a = (fun _ => none)
theorem jk_M {a : Nat} {q : Nat × Nat} (h : jk_nw T I L P a q) : hf_nT T a q = T ∧ hf_nI I a = I ∧ hf_nL L a = L ∧ hf_nP P a = P := by
  obtain ⟨h1, h2, h3, h4⟩ := h
  refine ⟨funext fun b => ?_, funext fun b => ?_, funext fun b => ?_, funext fun b => ?_⟩
  · unfold hf_nT
    by_cases e : b = a
    · rw [if_pos e, e, h1]
    · rw [if_neg e]
  · unfold hf_nI
    by_cases e : b = a
    · rw [if_pos e, e, h2]
    · rw [if_neg e]
  · unfold hf_nL
    by_cases e : b = a
    · rw [if_pos e, e, h3]
    · rw [if_neg e]
  · unfold hf_nP
    by_cases e : b = a
    · rw [if_pos e, e, h4]
    · rw [if_neg e]
theorem hf_new_p {c m a : Nat} (ha : a = 100 + t) (hm : hf_N c = m) (hdg : decode Y.2.1 pc = .ok (.new ix, 3)) (hc : c < 13) (hw1 : Cond.classLink Y.1.cls ix (hf_cl c).1 ∈ hf_tb) (hw2 : Cond.instantiable (hf_cl c).1 (hf_N c) ∈ hf_tb) (hw3 : Cond.initialized (hf_cl c).1 ∈ hf_tb) (hj : jk_nw T I L P a (c, 0))
    (h : hf_G X Y d k n (pc + 3) l (.ref a :: st) (t + 1, T, I, L, P) Q) : hf_G X Y d (k + 1) (n + m) pc l st (t, T, I, L, P) Q := by
  subst ha
  obtain ⟨e1, e2, e3, e4⟩ := jk_M hj
  refine hf_new hdg hc hw1 hw2 hw3 (by omega) (by omega) ?_
  rw [e1, e2, e3, e4, hm, Nat.add_sub_cancel, Nat.add_sub_cancel]
  exact h
theorem hf_newa_p {atype : ArrayType} {kd z zm a : Nat} {x : Int32} (ha : a = 100 + t) (hdg : decode Y.2.1 pc = .ok (.newarray atype, 2)) (hw1 : Cond.arrayClass (newarray.typeOf atype) ∈ hf_tb) (hkd : (kd = 100 ∧ newarray.typeOf atype = .int) ∨ (kd = 101 ∧ newarray.typeOf atype = .byte) ∨ (kd = 102 ∧ newarray.typeOf atype = .boolean) ∨ (kd = 103 ∧ newarray.typeOf atype = .long)) (hx0 : ¬ x < 0) (hz : x.toNatClampNeg = z) (hzm : z ≤ zm) (hzs : zm ≤ 100000) (hj : jk_nw T I L P a (kd, z))
    (h : hf_G X Y d k n (pc + 2) l (.ref a :: st) (t + 1, T, I, L, P) Q) : hf_G X Y d (k + 1) (n + zm) pc l (.int x :: st) (t, T, I, L, P) Q := by
  subst ha
  obtain ⟨e1, e2, e3, e4⟩ := jk_M hj
  refine hf_newa (kd := kd) hdg hw1 hkd hx0 hz (by omega) (by omega) (by omega) ?_
  rw [e1, e2, e3, e4]
  exact hf_G_kn (by omega) (by omega) h
theorem hf_newq_p {kd z a : Nat} {C : String} {x : Int32} (ha : a = 100 + t) (hdg : decode Y.2.1 pc = .ok (.anewarray ix, 3)) (hw1 : Cond.classLink Y.1.cls ix C ∈ hf_tb) (hkd : (kd = 104 ∧ C = RX1) ∨ (kd = 105 ∧ C = RX9)) (hx0 : ¬ x < 0) (hz : x.toNatClampNeg = z) (hzs : z ≤ 100000) (hj : jk_nw T I L P a (kd, z))
    (h : hf_G X Y d k n (pc + 3) l (.ref a :: st) (t + 1, T, I, L, P) Q) : hf_G X Y d (k + 1) (n + z) pc l (.int x :: st) (t, T, I, L, P) Q := by
  subst ha
  obtain ⟨e1, e2, e3, e4⟩ := jk_M hj
  refine hf_newq (kd := kd) hdg hw1 hkd hx0 hz (by omega) (by omega) (by omega) ?_
  rw [e1, e2, e3, e4]
  exact hf_G_kn (by omega) (by omega) h
theorem hf_ifnonnullN {off : Int} {M : hf_M} (hdg : decode Y.2.1 pc = .ok (.ifnonnull off, 3)) (h : hf_G X Y d k n (pc + 3) l st M Q) : hf_G X Y d k n pc l (.null :: st) M Q := by
  intro B ad D dA p la e s m args below meth c H locs cells slots mc ms ls hc hk hn hH hS hl
  obtain ⟨hx, hb, hr, hml, hown, hts, hlk, hnm, hw⟩ := id hc
  exact lv_ifnonnullN hx hb hdg (h B ad D dA p la e s m args below meth c H locs cells slots mc ms ls hc hk hn hH hS hl)
/-- one reference of an array of TEXTS goes into another -/
theorem hf_aacp {a b m : Nat} {x : Int32} (hx : x.toNatClampNeg = m) (hdg : decode Y.2.1 pc = .ok (.aaload, 1)) (hdg2 : decode Y.2.1 (pc + 1) = .ok (.aastore, 1)) (hTa : T a = (105, 6)) (hTb : T b = (105, 6)) (ha : 100 ≤ a ∧ a < 100 + t) (hb : 100 ≤ b ∧ b < 100 + t) (hin : vp_in x 6) (hP : P a m = none ∨ ∃ b, P a m = some b ∧ T b = (9, 0) ∧ 100 ≤ b ∧ b < 100 + t)
    (h : hf_G X Y d k n (pc + 2) l st (t, T, I, L, hf_upP P b m (P a m)) Q) : hf_G X Y d k n pc l (.int x :: .ref a :: .int x :: .ref b :: st) (t, T, I, L, P) Q := by
  subst hx
  rcases hP with e | ⟨c, e, e1, e2⟩
  · rw [e] at h
    exact hf_aldn hdg hTa (Or.inr rfl) ha hin e (hf_astn hdg2 hTb hb (Or.inr rfl) hin h)
  · rw [e] at h
    exact hf_aldq hdg hTa (Or.inr rfl) ha hin e (hf_astq hdg2 hTb hb (Or.inr ⟨rfl, rfl⟩) e1 e2 hin h)
end JK
