def hf_nT (T : hf_T) (a : Nat) (q : Nat × Nat) : hf_T := fun b => if b = a then q else T b
def hf_nI (I : hf_I) (a : Nat) : hf_I := fun b => if b = a then (fun _ => 0) else I b
def hf_nL (L : hf_L) (a : Nat) : hf_L := fun b => if b = a then (fun _ => 0) else L b
def hf_nP (P : hf_P) (a : Nat) : hf_P := fun b => if b = a then (fun _ => none) else P b
def hf_notfd (ty : FieldType) : Bool := match ty with
  | .float => false
  | .double => false
  | _ => true
theorem hf_fv_dflt {B : Nat} {ad : Nat → Nat} {ty : FieldType} (h : hf_notfd ty = true) : defaultValue ty = hf_fv B ad ty 0 0 none := by
  cases ty <;> first | rfl | cases h
theorem hf_nofd : ∀ c, c < 13 → ∀ j, j < hf_N c → hf_notfd (hf_ty c j) = true := by decide +kernel
section HN
variable {X : hf_X} {Y : hf_Y} {d k n pc ix : Nat} {l : List (Option Value)} {st : List Value} {Q : Option Value → hf_M → Prop}
variable {t : Nat} {T : hf_T} {I : hf_I} {L : hf_L} {P : hf_P}
/-- one more cell behind the others -/
theorem hf_H_new {B : Nat} {ad : Nat → Nat} {D : va_G} {dA : Nat → ClassId} {q : Nat × Nat} {H H1 : Heap} (hH : hf_H B ad D dA (t, T, I, L, P) H) (hz : H1.size = H.size + 1) (o1 : ∀ x, x < H.size → H1[x]? = H[x]?) (hx : va_at D vwCl (B + t, hf_c B ad dA q (fun _ => 0) (fun _ => 0) (fun _ => none)) H1) : hf_H B ad D dA (t + 1, hf_nT T (100 + t) q, hf_nI I (100 + t), hf_nL L (100 + t), hf_nP P (100 + t)) H1 := by
  refine ⟨by rw [hz, hH.1]; rfl, fun i x hi => ?_⟩
  obtain ⟨h1, rfl⟩ := hf_ws_in hi
  have h1 : i < t + 1 := h1
  by_cases hit : i = t
  · subst hit
    have e : hf_cm B ad dA (i + 1, hf_nT T (100 + i) q, hf_nI I (100 + i), hf_nL L (100 + i), hf_nP P (100 + i)) (100 + i) = hf_c B ad dA q (fun _ => 0) (fun _ => 0) (fun _ => none) := by
      simp [hf_cm, hf_nT, hf_nI, hf_nL, hf_nP]
    rw [e]
    exact hx
  · have hlt : i < t := by omega
    have e : hf_cm B ad dA (t + 1, hf_nT T (100 + t) q, hf_nI I (100 + t), hf_nL L (100 + t), hf_nP P (100 + t)) (100 + i) = hf_cm B ad dA (t, T, I, L, P) (100 + i) := by
      have : ¬ 100 + i = 100 + t := by omega
      simp [hf_cm, hf_nT, hf_nI, hf_nL, hf_nP, hit]
    rw [e]
    have hold := hH.2 i _ (by have := hf_ws_at (B := B) (ad := ad) (dA := dA) (M := (t, T, I, L, P)) (a := 100 + i) (by omega) (by show 100 + i < 100 + t; omega); rw [show 100 + i - 100 = i by omega, hf_ad_hi (by omega), show 100 + i - 100 = i by omega] at this; exact this)
    exact hold.kept (o1 _ (by show B + i < H.size; rw [hH.1]; show B + i < B + t; omega))
theorem hf_S_new {B : Nat} {H0 H H1 : Heap} {locs : List Loc} (hS : va_S (hf_A B) H0 H locs) (hz : H1.size = H.size + 1) (o1 : ∀ x, x < H.size → H1[x]? = H[x]?) : va_S (hf_A B) H0 H1 locs :=
  ⟨Nat.le_trans hS.1 (by omega), fun x h1 h2 => (o1 x (Nat.lt_of_lt_of_le h1 hS.1)).trans (hS.2.1 x h1 h2), hS.2.2⟩
theorem hf_new {c : Nat} (hdg : decode Y.2.1 pc = .ok (.new ix, 3)) (hc : c < 13) (hw1 : Cond.classLink Y.1.cls ix (hf_cl c).1 ∈ hf_tb) (hw2 : Cond.instantiable (hf_cl c).1 (hf_N c) ∈ hf_tb) (hw3 : Cond.initialized (hf_cl c).1 ∈ hf_tb) (hk1 : 1 ≤ k) (hn1 : hf_N c ≤ n)
    (h : hf_G X Y d (k - 1) (n - hf_N c) (pc + 3) l (.ref (100 + t) :: st) (t + 1, hf_nT T (100 + t) (c, 0), hf_nI I (100 + t), hf_nL L (100 + t), hf_nP P (100 + t)) Q) : hf_G X Y d k n pc l st (t, T, I, L, P) Q := by
  intro B ad D dA p la e s m args below meth c0 H locs cells slots mc ms ls hc0 hk hn hH hS hl
  obtain ⟨hx, hb, hr, hml, hown, hts, hlk, hnm, hw⟩ := id hc0
  obtain ⟨o1, o2⟩ := hf_cl_ok c hc
  have hKn := (hf_K hw).1 c _ o1
  refine W.newcK hx hb hown (hts _ hw1) (hts _ hw2) (hts _ hw3) rfl hdg (by show cells + 1 ≤ mc; omega) (by show slots + hf_N c ≤ ms; omega) hKn.2.1 rfl fun H1 kC hkC e1 z1 q1 => ?_
  have hat : va_at D vwCl (B + t, hf_c B ad dA (c, 0) (fun _ => 0) (fun _ => 0) (fun _ => none)) H1 := by
    have e : hf_c B ad dA (c, 0) (fun _ => 0) (fun _ => 0) (fun _ => none) = .inr (c, hf_fs B ad c (fun _ => 0) (fun _ => 0) (fun _ => none)) := by
      unfold hf_c
      rw [if_pos (by show c < 100; omega)]
    rw [e]
    refine ⟨_, o1, ?_⟩
    have hsz : H.size = B + t := hH.1
    rw [hsz] at e1
    refine (u_born (hf_ty c) hts (hf_cl_in c hc) hKn hkC e1 (hf_cl_ty c hc)).to (fun j hj => ?_)
    show defaultValue (hf_ty c j) = vp_V _ j
    unfold vp_V
    rw [List.getD_eq_getElem?_getD, hf_fs_at (by rw [o2]; exact hj), hf_fv_dflt (hf_nofd c hc j (by rw [o2]; exact hj))]
    rfl
  have hcon := h B ad D dA p la e s m args below meth c0 H1 locs (cells + 1) (slots + hf_N c) mc ms ls hc0 (by omega) (by omega) (hf_H_new hH z1 q1 hat) (hf_S_new hS z1 q1) hl
  have hsz : H.size = hf_ad B ad (100 + t) := by rw [hH.1, hf_ad_hi (by omega)]; show B + t = _; omega
  rw [hsz]
  exact hcon
/-- an array of ints, bytes, booleans, longs -/
theorem hf_newa {atype : ArrayType} {kd z : Nat} {x : Int32} (hdg : decode Y.2.1 pc = .ok (.newarray atype, 2)) (hw1 : Cond.arrayClass (newarray.typeOf atype) ∈ hf_tb) (hkd : (kd = 100 ∧ newarray.typeOf atype = .int) ∨ (kd = 101 ∧ newarray.typeOf atype = .byte) ∨ (kd = 102 ∧ newarray.typeOf atype = .boolean) ∨ (kd = 103 ∧ newarray.typeOf atype = .long)) (hx0 : ¬ x < 0) (hz : x.toNatClampNeg = z) (hzs : z ≤ 100000) (hk1 : 1 ≤ k) (hn1 : z ≤ n)
    (h : hf_G X Y d (k - 1) (n - z) (pc + 2) l (.ref (100 + t) :: st) (t + 1, hf_nT T (100 + t) (kd, z), hf_nI I (100 + t), hf_nL L (100 + t), hf_nP P (100 + t)) Q) : hf_G X Y d k n pc l (.int x :: st) (t, T, I, L, P) Q := by
  intro B ad D dA p la e s m args below meth c0 H locs cells slots mc ms ls hc0 hk hn hH hS hl
  obtain ⟨hx, hb, hr, hml, hown, hts, hlk, hnm, hw⟩ := id hc0
  have hby : z * componentBytes (newarray.typeOf atype) ≤ 536870912 := by
    have : componentBytes (newarray.typeOf atype) ≤ 8 := by cases atype <;> decide
    calc z * componentBytes (newarray.typeOf atype) ≤ 100000 * 8 := Nat.mul_le_mul hzs this
      _ ≤ 536870912 := by decide
  refine va_newaK hx hb (hts _ hw1) rfl hdg rfl hx0 hz hby (by show cells + 1 ≤ mc; omega) (by show slots + z ≤ ms; omega) rfl fun H1 cA e1 z1 q1 hAr hNm => ?_
  have hsz : H.size = B + t := hH.1
  have hat : va_at D vwCl (B + t, hf_c B ad dA (kd, z) (fun _ => 0) (fun _ => 0) (fun _ => none)) H1 := by
    rw [hsz] at e1
    have hcA : cA = dA kd := by
      rcases hkd with ⟨rfl, hty⟩ | ⟨rfl, hty⟩ | ⟨rfl, hty⟩ | ⟨rfl, hty⟩ <;> rw [hty] at hNm
      · exact Option.some.inj (hNm.symm.trans ((hf_K hw).2 0 _ rfl).2)
      · exact Option.some.inj (hNm.symm.trans ((hf_K hw).2 1 _ rfl).2)
      · exact Option.some.inj (hNm.symm.trans ((hf_K hw).2 2 _ rfl).2)
      · exact Option.some.inj (hNm.symm.trans ((hf_K hw).2 3 _ rfl).2)
    subst hcA
    rcases hkd with ⟨rfl, hty⟩ | ⟨rfl, hty⟩ | ⟨rfl, hty⟩ | ⟨rfl, hty⟩ <;> rw [hty] at e1 <;> exact e1
  have hcon := h B ad D dA p la e s m args below meth c0 H1 locs (cells + 1) (slots + z) mc ms ls hc0 (by omega) (by omega) (hf_H_new hH z1 q1 hat) (hf_S_new hS z1 q1) hl
  have hsz2 : H.size = hf_ad B ad (100 + t) := by rw [hH.1, hf_ad_hi (by omega)]; show B + t = _; omega
  rw [hsz2]
  exact hcon
/-- an array of references -/
theorem hf_newq {kd z : Nat} {C : String} {x : Int32} (hdg : decode Y.2.1 pc = .ok (.anewarray ix, 3)) (hw1 : Cond.classLink Y.1.cls ix C ∈ hf_tb) (hkd : (kd = 104 ∧ C = RX1) ∨ (kd = 105 ∧ C = RX9)) (hx0 : ¬ x < 0) (hz : x.toNatClampNeg = z) (hzs : z ≤ 100000) (hk1 : 1 ≤ k) (hn1 : z ≤ n)
    (h : hf_G X Y d (k - 1) (n - z) (pc + 3) l (.ref (100 + t) :: st) (t + 1, hf_nT T (100 + t) (kd, z), hf_nI I (100 + t), hf_nL L (100 + t), hf_nP P (100 + t)) Q) : hf_G X Y d k n pc l (.int x :: st) (t, T, I, L, P) Q := by
  intro B ad D dA p la e s m args below meth c0 H locs cells slots mc ms ls hc0 hk hn hH hS hl
  obtain ⟨hx, hb, hr, hml, hown, hts, hlk, hnm, hw⟩ := id hc0
  subst hz
  have hao : va_AO C s := by
    rcases hkd with ⟨-, rfl⟩ | ⟨-, rfl⟩
    · exact hw.2.2.2.2.1.2.1
    · exact hw.2.2.2.2.1.2.2
  refine W.anew hx hb hown (hts _ hw1) (va_AO.use hao) rfl hdg rfl hx0 (by omega) (by show cells + 1 ≤ mc; omega) (by show slots + x.toNatClampNeg ≤ ms; omega) fun cA kA comp f1 f2 f3 f4 => ?_
  generalize hH1 : H.push ({ cls := cA, slots := Array.replicate x.toNatClampNeg .null, vm := .none } : Cell) = H1
  have z1 : H1.size = H.size + 1 := by rw [← hH1, Array.size_push]
  have e1 : H1[H.size]? = some (arrV cA x.toNatClampNeg (fun _ => .null)) := by rw [← hH1, Array.getElem?_push_size, ← arrV_new]
  have q1 : ∀ q : Nat, q < H.size → H1[q]? = H[q]? := fun q hq => by rw [← hH1, Array.getElem?_push, if_neg (Nat.ne_of_lt hq)]
  have hsz : H.size = B + t := hH.1
  have hat : va_at D vwCl (B + t, hf_c B ad dA (kd, x.toNatClampNeg) (fun _ => 0) (fun _ => 0) (fun _ => none)) H1 := by
    rw [hsz] at e1
    have hcA : cA = dA kd := by
      rcases hkd with ⟨rfl, rfl⟩ | ⟨rfl, rfl⟩
      · obtain ⟨_, _, -, -, -, k4⟩ := ((hf_K hw).2 4 _ rfl).2
        exact Option.some.inj (f1.symm.trans k4)
      · obtain ⟨_, _, -, -, -, k4⟩ := ((hf_K hw).2 5 _ rfl).2
        exact Option.some.inj (f1.symm.trans k4)
    subst hcA
    rcases hkd with ⟨rfl, -⟩ | ⟨rfl, -⟩ <;> exact e1
  have hcon := h B ad D dA p la e s m args below meth c0 H1 locs (cells + 1) (slots + x.toNatClampNeg) mc ms ls hc0 (by omega) (by omega) (hf_H_new hH z1 q1 hat) (hf_S_new hS z1 q1) hl
  have hsz2 : H.size = hf_ad B ad (100 + t) := by rw [hH.1, hf_ad_hi (by omega)]; show B + t = _; omega
  rw [hsz2]
  exact hcon
theorem hf_map_up {f : Nat → Option Nat} {g : Nat → Nat} {k : Nat} {v : Option Nat} : (fun j => (va_up f k v j).map g) = va_up (fun j => (f j).map g) k (v.map g) := by
  funext j
  unfold va_up
  by_cases h : j = k <;> simp [h]
theorem hf_astq {a b c kd z zb : Nat} {x : Int32} (hdg : decode Y.2.1 pc = .ok (.aastore, 1)) (hT : T a = (kd, z)) (ha : 100 ≤ a ∧ a < 100 + t) (hkd : (kd = 104 ∧ c = 1) ∨ (kd = 105 ∧ c = 9)) (hTb : T b = (c, zb)) (hb0 : 100 ≤ b ∧ b < 100 + t) (hin : vp_in x z)
    (h : hf_G X Y d k n (pc + 1) l st (t, T, I, L, hf_upP P a x.toNatClampNeg (some b)) Q) : hf_G X Y d k n pc l (.ref b :: .int x :: .ref a :: st) (t, T, I, L, P) Q := by
  intro B ad D dA p la e s m args below meth c0 H locs cells slots mc ms ls hc0 hk hn hH hS hl
  obtain ⟨hx, hb, hr, hml, hown, hts, hlk, hnm, hw⟩ := id hc0
  have he := hf_ws_at (B := B) (ad := ad) (dA := dA) (M := (t, T, I, L, P)) ha.1 ha.2
  have hv := hf_ws_at (B := B) (ad := ad) (dA := dA) (M := (t, T, I, L, P)) hb0.1 hb0.2
  have hc13 : c < 13 := by omega
  rw [hf_cm_q hT (by omega)] at he
  rw [hf_cm_obj hTb (by omega)] at hv
  have hlt : x.toNatClampNeg < z := Nat.not_le.mp fun q => hin (Or.inr q)
  have h0 : ¬ x < 0 := fun q => hin (Or.inl q)
  obtain ⟨r', hr', cellV, g1, g2, g3, -⟩ := hH.2 _ _ hv
  have hcls := ((hf_K hw).1 c _ (hf_cl_ok c hc13).1).2
  obtain ⟨kC, hkC, -⟩ := hcls.2
  have hend : ∀ H1 : Heap, H1[hf_ad B ad a]? = some ((vp_cell (dA kd) (z, .inr (.inr (.inr (.inr (fun j => (P a j).map (hf_ad B ad))))))).setSlot x.toNatClampNeg (.ref (hf_ad B ad b))) → H1.size = H.size → (∀ q, q ≠ hf_ad B ad a → H1[q]? = H[q]?) → W p la e (hf_R d mc ms) s m args below meth c0 H1 (locs ++ [⟨hf_ad B ad a, x.toNatClampNeg⟩]) cells slots (MQ below (hf_Qc B ad D dA Q) args s mc ms (hf_A B)) (F0 m (pc + 1) ls (st.map (hf_v B ad))) := by
    intro H1 e1 z1 oq
    refine h B ad D dA p la e s m args below meth c0 H1 _ cells slots mc ms ls hc0 hk hn (hf_H_set hH ha z1 (fun b' hb' => ⟨rfl, rfl, by simp [hf_upP, hb']⟩) (hf_cm_q (M := (t, T, I, L, hf_upP P a x.toNatClampNeg (some b))) hT (by omega)) ?_ oq) (hS.put z1 oq (hf_ad_A ha.1)) hl
    show H1[hf_ad B ad a]? = some (vp_cell _ _)
    rw [e1, vp_cell_q, vp_cell_q, arrV_store]
    congr 2
    funext q
    show _ = va_rf ((hf_upP P a x.toNatClampNeg (some b) a q).map (hf_ad B ad))
    by_cases hq : q = x.toNatClampNeg
    · subst hq
      simp [updV, hf_upP, va_up, va_rf]
    · simp [updV, hf_upP, va_up, hq]
  rcases hkd with ⟨rfl, rfl⟩ | ⟨rfl, rfl⟩
  · obtain ⟨kA, comp, k1, k2, k3, -⟩ := ((hf_K hw).2 4 _ rfl).2
    have hcomp : comp = D.1 1 := Option.some.inj (k3.symm.trans hcls.1)
    subst hcomp
    exact W.aast hx hb (hH.2 _ _ he) (fun q h => by cases h) (fun h => by cases h) k1 k2 rfl hkC ⟨h0, by show _ < (arrV _ _ _).slots.size; rw [arrV_size]; exact hlt⟩ g1 (fun q h => by rw [g3] at h; cases h) (by rw [g2]; exact hkC) (by rw [g2]; exact va_assign hcls) rfl rfl hdg hend
  · obtain ⟨kA, comp, k1, k2, k3, -⟩ := ((hf_K hw).2 5 _ rfl).2
    have hcomp : comp = D.1 9 := Option.some.inj (k3.symm.trans hcls.1)
    subst hcomp
    exact W.aast hx hb (hH.2 _ _ he) (fun q h => by cases h) (fun h => by cases h) k1 k2 rfl hkC ⟨h0, by show _ < (arrV _ _ _).slots.size; rw [arrV_size]; exact hlt⟩ g1 (fun q h => by rw [g3] at h; cases h) (by rw [g2]; exact hkC) (by rw [g2]; exact va_assign hcls) rfl rfl hdg hend
theorem hf_astn {a kd z : Nat} {x : Int32} (hdg : decode Y.2.1 pc = .ok (.aastore, 1)) (hT : T a = (kd, z)) (ha : 100 ≤ a ∧ a < 100 + t) (hkd : kd = 104 ∨ kd = 105) (hin : vp_in x z)
    (h : hf_G X Y d k n (pc + 1) l st (t, T, I, L, hf_upP P a x.toNatClampNeg none) Q) : hf_G X Y d k n pc l (.null :: .int x :: .ref a :: st) (t, T, I, L, P) Q := by
  intro B ad D dA p la e s m args below meth c0 H locs cells slots mc ms ls hc0 hk hn hH hS hl
  obtain ⟨hx, hb, hr, hml, hown, hts, hlk, hnm, hw⟩ := id hc0
  have he := hf_ws_at (B := B) (ad := ad) (dA := dA) (M := (t, T, I, L, P)) ha.1 ha.2
  rw [hf_cm_q hT (by omega)] at he
  have hend : ∀ H1 : Heap, H1[hf_ad B ad a]? = some ((vp_cell (dA kd) (z, .inr (.inr (.inr (.inr (fun j => (P a j).map (hf_ad B ad))))))).setSlot x.toNatClampNeg .null) → H1.size = H.size → (∀ q, q ≠ hf_ad B ad a → H1[q]? = H[q]?) → W p la e (hf_R d mc ms) s m args below meth c0 H1 (locs ++ [⟨hf_ad B ad a, x.toNatClampNeg⟩]) cells slots (MQ below (hf_Qc B ad D dA Q) args s mc ms (hf_A B)) (F0 m (pc + 1) ls (st.map (hf_v B ad))) := by
    intro H1 e1 z1 oq
    refine h B ad D dA p la e s m args below meth c0 H1 _ cells slots mc ms ls hc0 hk hn (hf_H_set hH ha z1 (fun b' hb' => ⟨rfl, rfl, by simp [hf_upP, hb']⟩) (hf_cm_q (M := (t, T, I, L, hf_upP P a x.toNatClampNeg none)) hT (by omega)) ?_ oq) (hS.put z1 oq (hf_ad_A ha.1)) hl
    show H1[hf_ad B ad a]? = some (vp_cell _ _)
    rw [e1, vp_cell_q, vp_cell_q, arrV_store]
    congr 2
    funext q
    show _ = va_rf ((hf_upP P a x.toNatClampNeg none a q).map (hf_ad B ad))
    by_cases hq : q = x.toNatClampNeg
    · subst hq
      simp [updV, hf_upP, va_up, va_rf]
    · simp [updV, hf_upP, va_up, hq]
  rcases hkd with rfl | rfl
  · exact va_WaastN (C := RX1) hx hb (hH.2 _ _ he) (((hf_K hw).2 4 _ rfl).1 z (fun j => va_rf ((P a j).map (hf_ad B ad)))) (fun h => by cases h) (by show ¬ (x < 0 ∨ (arrV _ _ _).slots.size ≤ _); rw [arrV_size]; exact hin) rfl rfl hdg hend
  · exact va_WaastN (C := RX9) hx hb (hH.2 _ _ he) (((hf_K hw).2 5 _ rfl).1 z (fun j => va_rf ((P a j).map (hf_ad B ad)))) (fun h => by cases h) (by show ¬ (x < 0 ∨ (arrV _ _ _).slots.size ≤ _); rw [arrV_size]; exact hin) rfl rfl hdg hend
/-- the law's own script -/
theorem hf_sld {x : Int32} (hdg : decode Y.2.1 pc = .ok (.iaload, 1)) (hin : vp_in x X.1) (h : hf_G X Y d k n (pc + 1) l (.int (X.2 x.toNatClampNeg) :: st) (t, T, I, L, P) Q) : hf_G X Y d k n pc l (.int x :: .ref 0 :: st) (t, T, I, L, P) Q := by
  intro B ad D dA p la e s m args below meth c0 H locs cells slots mc ms ls hc0 hk hn hH hS hl
  obtain ⟨hx, hb, hr, hml, hown, hts, hlk, hnm, hw⟩ := id hc0
  exact va_sld hx hb hw.2.2.2.1 (Nat.lt_of_lt_of_le hw.2.2.1 hw.2.1) (Nat.not_le.mpr hw.2.2.1) hS hin hdg (h B ad D dA p la e s m args below meth c0 H locs cells slots mc ms ls hc0 hk hn hH hS hl)
theorem hf_slen (hdg : decode Y.2.1 pc = .ok (.arraylength, 1)) (h : hf_G X Y d k n (pc + 1) l (.int (Int32.ofNat X.1) :: st) (t, T, I, L, P) Q) : hf_G X Y d k n pc l (.ref 0 :: st) (t, T, I, L, P) Q := by
  intro B ad D dA p la e s m args below meth c0 H locs cells slots mc ms ls hc0 hk hn hH hS hl
  obtain ⟨hx, hb, hr, hml, hown, hts, hlk, hnm, hw⟩ := id hc0
  exact va_slen hx hb hw.2.2.2.1 (Nat.lt_of_lt_of_le hw.2.2.1 hw.2.1) (Nat.not_le.mpr hw.2.2.1) hS hdg (h B ad D dA p la e s m args below meth c0 H locs cells slots mc ms ls hc0 hk hn hH hS hl)
/-- System.arraycopy of ints or bytes -/
theorem hf_copy {a b ka kb za zb : Nat} {sp dp w : Int32} (hdg : decode Y.2.1 pc = .ok (.invokestatic ix, 3)) (hw1 : Cond.methodLink Y.1.cls ix arraycopyName ∈ hf_tb) (hw2 : Cond.native arraycopyName ∈ hf_tb) (hw3 : Cond.static arraycopyName ∈ hf_tb) (hw4 : Cond.initialized "java/lang/System" ∈ hf_tb)
    (hTa : T a = (ka, za)) (hTb : T b = (ka, zb)) (ha : 100 ≤ a ∧ a < 100 + t) (hb0 : 100 ≤ b ∧ b < 100 + t) (hka : (ka = 100 ∧ kb = 0) ∨ (ka = 101 ∧ kb = 1)) (h1 : ¬ sp < 0) (h2 : ¬ dp < 0) (h3 : ¬ w < 0) (h4 : sp.toNatClampNeg + w.toNatClampNeg ≤ za) (h5 : dp.toNatClampNeg + w.toNatClampNeg ≤ zb)
    (hfit : ka = 101 → ∀ i, i < w.toNatClampNeg → fits .byte (.int (I a (sp.toNatClampNeg + i))) = true) (hroom : (st.map fun v => v.category).sum ≤ 8)
    (h : hf_G X Y (d + 1) k n (pc + 3) l st (t, T, (fun q => if q = b then va_cpy (I a) (I b) sp.toNatClampNeg dp.toNatClampNeg w.toNatClampNeg else I q), L, P) Q) : hf_G X Y (d + 1) k n pc l (.int w :: .int dp :: .ref b :: .int sp :: .ref a :: st) (t, T, I, L, P) Q := by
  intro B ad D dA p la e s m args below meth c0 H locs cells slots mc ms ls hc0 hk hn hH hS hl
  obtain ⟨hx, hb, hr, hml, hown, hts, hlk, hnm, hw⟩ := id hc0
  have hea := hf_ws_at (B := B) (ad := ad) (dA := dA) (M := (t, T, I, L, P)) ha.1 ha.2
  have heb := hf_ws_at (B := B) (ad := ad) (dA := dA) (M := (t, T, I, L, P)) hb0.1 hb0.2
  rw [hf_cm_i hTa (by omega)] at hea
  rw [hf_cm_i hTb (by omega)] at heb
  have hc0' : H[hf_ad B ad a]? = some (vp_cell (dA ka) (za, .inl (I a))) := hH.2 _ _ hea
  have hc1' : H[hf_ad B ad b]? = some (vp_cell (dA ka) (zb, .inl (I b))) := hH.2 _ _ heb
  have nn : ∀ z : Int32, ¬ z < 0 → z.toInt = (z.toNatClampNeg : Int) := by
    intro z hz
    have hz0 : (0 : Int) ≤ z.toInt := by
      have := Int32.not_lt.mp hz
      simpa using Int32.le_iff_toInt_le.mp this
    show z.toInt = ((z.toInt.toNat : Nat) : Int)
    omega
  obtain ⟨ty, hprim, hty, hfit', hAr⟩ : ∃ ty : FieldType, refKind ty = false ∧ (ty = .int ∨ ty = .byte) ∧ (∀ i, i < w.toNatClampNeg → fits ty (.int (I a (sp.toNatClampNeg + i))) = true) ∧ ArrOfT s (dA ka) ty := by
    rcases hka with ⟨rfl, -⟩ | ⟨rfl, -⟩
    · exact ⟨.int, rfl, Or.inl rfl, fun _ _ => rfl, ((hf_K hw).2 0 _ rfl).1⟩
    · exact ⟨.byte, rfl, Or.inr rfl, hfit rfl, ((hf_K hw).2 1 _ rfl).1⟩
  have hroom2 := lv_room (m := m) (pc := pc) (ls := ls) (rest := (Value.int w :: .int dp :: .ref b :: .int sp :: .ref a :: st).map (hf_v B ad)) (hf_sum (B := B) (ad := ad) hroom)
  intro T0 hT X0
  obtain ⟨-, k0, hk0, cm0, hkk0⟩ := hAr za (fun j => .int (I a j))
  obtain ⟨-, k1, hk1, cm1, hkk1⟩ := hAr zb (fun j => .int (I b j))
  obtain ⟨vm', X', step⟩ := X0.arraycopy hx hown (hts _ hw1) (hts _ hw2) (hts _ hw3) (hts _ hw4) (src := hf_ad B ad a) (dst := hf_ad B ad b) (cs := vp_cell (dA ka) (za, .inl (I a))) (cd := vp_cell (dA ka) (zb, .inl (I b))) (srcPos := sp) (destPos := dp) (n := w) (by rw [hT]; exact hc0') (by rw [hT]; exact hc1')
    (fun _ h => by cases h) (fun _ h => by cases h) (fun h => by cases h) (fun h => by cases h) hk0 hk1 hkk0 hkk1 (by simp [hprim]) h1 h2 h3
    (by rw [nn sp h1, nn w h3]; show ¬ _ > ((arrV (dA ka) za (fun j => .int (I a j))).slots.size : Int); rw [arrV_size]; omega)
    (by rw [nn dp h2, nn w h3]; show ¬ _ > ((arrV (dA ka) zb (fun j => .int (I b j))).slots.size : Int); rw [arrV_size]; omega)
    (fun vm₁ _ i hi => by
      have e : (vp_cell (dA ka) (za, .inl (I a))).slots.getD (sp.toNatClampNeg + i) .null = .int (I a (sp.toNatClampNeg + i)) := by
        show (arrV (dA ka) za (fun j => .int (I a j))).slots.getD _ _ = _
        rw [Array.getD_eq_getD_getElem?, arrV_read _ _ (by omega)]
        rfl
      refine ⟨?_, ?_⟩
      · rw [e]
        exact hfit' i hi
      · rw [e]
        exact trivial)
    (g := F0 m pc ls ((Value.int w :: .int dp :: .ref b :: .int sp :: .ref a :: st).map (hf_v B ad))) rfl (by rw [hml]; exact hl.1) (rest := st.map (hf_v B ad)) rfl (by rw [hb]; exact hdg) (by show 1 ≤ d + 1; omega) (by
      have hq := hf_sum (B := B) (ad := ad) hroom
      have h19 : nativeFrameWords "java/lang/System" "arraycopy" 5 ≤ 30 := by decide +kernel
      show 2 * 0 + _ + _ ≤ 60 * (d + 1)
      omega)
  have e1 : copied (vp_cell (dA ka) (za, .inl (I a))) (vp_cell (dA ka) (zb, .inl (I b))) sp dp w = vp_cell (dA ka) (zb, .inl (va_cpy (I a) (I b) sp.toNatClampNeg dp.toNatClampNeg w.toNatClampNeg)) := va_copied (fun z => .int z) (dA ka) (dA ka) (I a) (I b) h4
  rw [e1] at X' step
  have hlt : hf_ad B ad b < H.size := (Array.getElem?_eq_some_iff.mp hc1').1
  have hheap : ((T0.setVm vm').setCell (hf_ad B ad b) (vp_cell (dA ka) (zb, .inl (va_cpy (I a) (I b) sp.toNatClampNeg dp.toNatClampNeg w.toNatClampNeg)))).heap = H.setIfInBounds (hf_ad B ad b) (vp_cell (dA ka) (zb, .inl (va_cpy (I a) (I b) sp.toNatClampNeg dp.toNatClampNeg w.toNatClampNeg))) := by rw [← hT]; rfl
  have oq : ∀ q : Nat, q ≠ hf_ad B ad b → (H.setIfInBounds (hf_ad B ad b) (vp_cell (dA ka) (zb, .inl (va_cpy (I a) (I b) sp.toNatClampNeg dp.toNatClampNeg w.toNatClampNeg))))[q]? = H[q]? := fun q hq => by simp [Array.getElem?_setIfInBounds, Ne.symm hq]
  obtain ⟨t2, a1, b1⟩ := h B ad D dA p la e s m args below meth c0 _ _ cells slots mc ms ls hc0 hk hn (hf_H_set hH hb0 (by simp) (fun b' hb' => ⟨by simp [hb'], rfl, rfl⟩) (hf_cm_i (M := (t, T, (fun q => if q = b then va_cpy (I a) (I b) sp.toNatClampNeg dp.toNatClampNeg w.toNatClampNeg else I q), L, P)) hTb (by omega)) (show (H.setIfInBounds (hf_ad B ad b) _)[hf_ad B ad b]? = some _ by simp [Array.getElem?_setIfInBounds, hlt]) oq) ⟨by simp; exact hS.1, fun q g1 g2 => by
      rw [oq q (fun e => g2 (by rw [e]; exact hf_ad_A hb0.1))]
      exact hS.2.1 q g1 g2, fun q hq => by
      rcases List.mem_append.mp hq with h | h
      · exact hS.2.2 q h
      · obtain ⟨z, -, hz⟩ := List.mem_map.mp h
        rw [← hz]
        exact hf_ad_A hb0.1⟩ hl _ hheap X'
  exact ⟨t2, step t2 a1, b1⟩
end HN
