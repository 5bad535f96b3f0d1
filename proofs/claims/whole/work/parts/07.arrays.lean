theorem hf_cm_i {B : Nat} {ad : Nat → Nat} {dA : Nat → ClassId} {M : hf_M} {a c z : Nat} (h : M.2.1 a = (c, z)) (hc : 100 ≤ c ∧ c < 103) : hf_cm B ad dA M a = .inl (dA c, z, .inl (M.2.2.1 a)) := by
  unfold hf_cm hf_c hf_ar
  rw [h, if_neg (by show ¬ c < 100; omega), if_neg (by show ¬ c = 103; omega), if_neg (by show ¬ 104 ≤ c; omega)]
theorem hf_cm_l {B : Nat} {ad : Nat → Nat} {dA : Nat → ClassId} {M : hf_M} {a z : Nat} (h : M.2.1 a = (103, z)) : hf_cm B ad dA M a = .inl (dA 103, z, .inr (.inl (M.2.2.2.1 a))) := by
  unfold hf_cm hf_c hf_ar
  rw [h, if_neg (by show ¬ 103 < 100; omega), if_pos rfl]
theorem hf_cm_q {B : Nat} {ad : Nat → Nat} {dA : Nat → ClassId} {M : hf_M} {a c z : Nat} (h : M.2.1 a = (c, z)) (hc : 104 ≤ c) : hf_cm B ad dA M a = .inl (dA c, z, .inr (.inr (.inr (.inr (fun j => (M.2.2.2.2 a j).map (hf_ad B ad)))))) := by
  unfold hf_cm hf_c hf_ar
  rw [h, if_neg (by show ¬ c < 100; omega), if_neg (by show ¬ c = 103; omega), if_pos hc]
section HA
variable {X : hf_X} {Y : hf_Y} {d k n pc : Nat} {l : List (Option Value)} {st : List Value} {Q : Option Value → hf_M → Prop}
variable {t : Nat} {T : hf_T} {I : hf_I} {L : hf_L} {P : hf_P}
theorem hf_iald {a z : Nat} {i : Int32} (hdg : decode Y.2.1 pc = .ok (.iaload, 1)) (hT : T a = (100, z)) (ha : 100 ≤ a ∧ a < 100 + t) (hin : vp_in i z) (h : hf_G X Y d k n (pc + 1) l (.int (I a i.toNatClampNeg) :: st) (t, T, I, L, P) Q) : hf_G X Y d k n pc l (.int i :: .ref a :: st) (t, T, I, L, P) Q := by
  intro B ad D dA p la e s m args below meth c0 H locs cells slots mc ms ls hc0 hk hn hH hS hl
  obtain ⟨hx, hb, hr, hml, hown, hts, hlk, hnm, hw⟩ := id hc0
  have he := hf_ws_at (B := B) (ad := ad) (dA := dA) (M := (t, T, I, L, P)) ha.1 ha.2
  rw [hf_cm_i hT (by omega)] at he
  exact va_iald hx hb (hf_K hw) hH.2 (a - 100) 0 he rfl hin hdg (h B ad D dA p la e s m args below meth c0 H locs cells slots mc ms ls hc0 hk hn hH hS hl)
theorem hf_bald {a z : Nat} {i : Int32} (hdg : decode Y.2.1 pc = .ok (.baload, 1)) (hT : T a = (101, z)) (ha : 100 ≤ a ∧ a < 100 + t) (hin : vp_in i z) (h : hf_G X Y d k n (pc + 1) l (.int (I a i.toNatClampNeg) :: st) (t, T, I, L, P) Q) : hf_G X Y d k n pc l (.int i :: .ref a :: st) (t, T, I, L, P) Q := by
  intro B ad D dA p la e s m args below meth c0 H locs cells slots mc ms ls hc0 hk hn hH hS hl
  obtain ⟨hx, hb, hr, hml, hown, hts, hlk, hnm, hw⟩ := id hc0
  have he := hf_ws_at (B := B) (ad := ad) (dA := dA) (M := (t, T, I, L, P)) ha.1 ha.2
  rw [hf_cm_i hT (by omega)] at he
  exact va_bald hx hb (hf_K hw) hH.2 (a - 100) 1 he rfl hin hdg (h B ad D dA p la e s m args below meth c0 H locs cells slots mc ms ls hc0 hk hn hH hS hl)
theorem hf_zald {a z : Nat} {i : Int32} (hdg : decode Y.2.1 pc = .ok (.baload, 1)) (hT : T a = (102, z)) (ha : 100 ≤ a ∧ a < 100 + t) (hin : vp_in i z) (h : hf_G X Y d k n (pc + 1) l (.int (I a i.toNatClampNeg) :: st) (t, T, I, L, P) Q) : hf_G X Y d k n pc l (.int i :: .ref a :: st) (t, T, I, L, P) Q := by
  intro B ad D dA p la e s m args below meth c0 H locs cells slots mc ms ls hc0 hk hn hH hS hl
  obtain ⟨hx, hb, hr, hml, hown, hts, hlk, hnm, hw⟩ := id hc0
  have he := hf_ws_at (B := B) (ad := ad) (dA := dA) (M := (t, T, I, L, P)) ha.1 ha.2
  rw [hf_cm_i hT (by omega)] at he
  exact va_zald hx hb (hf_K hw) hH.2 (a - 100) 2 he rfl hin hdg (h B ad D dA p la e s m args below meth c0 H locs cells slots mc ms ls hc0 hk hn hH hS hl)
theorem hf_lald {a z : Nat} {i : Int32} (hdg : decode Y.2.1 pc = .ok (.laload, 1)) (hT : T a = (103, z)) (ha : 100 ≤ a ∧ a < 100 + t) (hin : vp_in i z) (h : hf_G X Y d k n (pc + 1) l (.long (L a i.toNatClampNeg) :: st) (t, T, I, L, P) Q) : hf_G X Y d k n pc l (.int i :: .ref a :: st) (t, T, I, L, P) Q := by
  intro B ad D dA p la e s m args below meth c0 H locs cells slots mc ms ls hc0 hk hn hH hS hl
  obtain ⟨hx, hb, hr, hml, hown, hts, hlk, hnm, hw⟩ := id hc0
  have he := hf_ws_at (B := B) (ad := ad) (dA := dA) (M := (t, T, I, L, P)) ha.1 ha.2
  rw [hf_cm_l hT] at he
  exact va_lald hx hb (hf_K hw) hH.2 (a - 100) 3 he rfl hin hdg (h B ad D dA p la e s m args below meth c0 H locs cells slots mc ms ls hc0 hk hn hH hS hl)
theorem hf_aldq {a c z b : Nat} {i : Int32} (hdg : decode Y.2.1 pc = .ok (.aaload, 1)) (hT : T a = (c, z)) (hc : c = 104 ∨ c = 105) (ha : 100 ≤ a ∧ a < 100 + t) (hin : vp_in i z) (hP : P a i.toNatClampNeg = some b) (h : hf_G X Y d k n (pc + 1) l (.ref b :: st) (t, T, I, L, P) Q) : hf_G X Y d k n pc l (.int i :: .ref a :: st) (t, T, I, L, P) Q := by
  intro B ad D dA p la e s m args below meth c0 H locs cells slots mc ms ls hc0 hk hn hH hS hl
  obtain ⟨hx, hb, hr, hml, hown, hts, hlk, hnm, hw⟩ := id hc0
  have he := hf_ws_at (B := B) (ad := ad) (dA := dA) (M := (t, T, I, L, P)) ha.1 ha.2
  rw [hf_cm_q hT (by omega)] at he
  have hcon := h B ad D dA p la e s m args below meth c0 H locs cells slots mc ms ls hc0 hk hn hH hS hl
  have hval : va_rf ((P a i.toNatClampNeg).map (hf_ad B ad)) = .ref (hf_ad B ad b) := by rw [hP]; rfl
  rcases hc with rfl | rfl
  · exact va_aldq hx hb (hf_K hw) hH.2 (a - 100) 4 he rfl hin hdg (by show W _ _ _ _ _ _ _ _ _ _ _ _ _ _ _ (F0 m (pc + 1) ls (va_rf ((P a i.toNatClampNeg).map (hf_ad B ad)) :: _)); rw [hval]; exact hcon)
  · exact va_aldq hx hb (hf_K hw) hH.2 (a - 100) 5 he rfl hin hdg (by show W _ _ _ _ _ _ _ _ _ _ _ _ _ _ _ (F0 m (pc + 1) ls (va_rf ((P a i.toNatClampNeg).map (hf_ad B ad)) :: _)); rw [hval]; exact hcon)
theorem hf_aldn {a c z : Nat} {i : Int32} (hdg : decode Y.2.1 pc = .ok (.aaload, 1)) (hT : T a = (c, z)) (hc : c = 104 ∨ c = 105) (ha : 100 ≤ a ∧ a < 100 + t) (hin : vp_in i z) (hP : P a i.toNatClampNeg = none) (h : hf_G X Y d k n (pc + 1) l (.null :: st) (t, T, I, L, P) Q) : hf_G X Y d k n pc l (.int i :: .ref a :: st) (t, T, I, L, P) Q := by
  intro B ad D dA p la e s m args below meth c0 H locs cells slots mc ms ls hc0 hk hn hH hS hl
  obtain ⟨hx, hb, hr, hml, hown, hts, hlk, hnm, hw⟩ := id hc0
  have he := hf_ws_at (B := B) (ad := ad) (dA := dA) (M := (t, T, I, L, P)) ha.1 ha.2
  rw [hf_cm_q hT (by omega)] at he
  have hcon := h B ad D dA p la e s m args below meth c0 H locs cells slots mc ms ls hc0 hk hn hH hS hl
  have hval : va_rf ((P a i.toNatClampNeg).map (hf_ad B ad)) = .null := by rw [hP]; rfl
  rcases hc with rfl | rfl
  · exact va_aldq hx hb (hf_K hw) hH.2 (a - 100) 4 he rfl hin hdg (by show W _ _ _ _ _ _ _ _ _ _ _ _ _ _ _ (F0 m (pc + 1) ls (va_rf ((P a i.toNatClampNeg).map (hf_ad B ad)) :: _)); rw [hval]; exact hcon)
  · exact va_aldq hx hb (hf_K hw) hH.2 (a - 100) 5 he rfl hin hdg (by show W _ _ _ _ _ _ _ _ _ _ _ _ _ _ _ (F0 m (pc + 1) ls (va_rf ((P a i.toNatClampNeg).map (hf_ad B ad)) :: _)); rw [hval]; exact hcon)
/-- arraylength -/
theorem hf_alen {a c z : Nat} (hdg : decode Y.2.1 pc = .ok (.arraylength, 1)) (hT : T a = (c, z)) (hc : 100 ≤ c ∧ c < 103) (ha : 100 ≤ a ∧ a < 100 + t) (h : hf_G X Y d k n (pc + 1) l (.int (Int32.ofNat z) :: st) (t, T, I, L, P) Q) : hf_G X Y d k n pc l (.ref a :: st) (t, T, I, L, P) Q := by
  intro B ad D dA p la e s m args below meth c0 H locs cells slots mc ms ls hc0 hk hn hH hS hl
  obtain ⟨hx, hb, hr, hml, hown, hts, hlk, hnm, hw⟩ := id hc0
  have he := hf_ws_at (B := B) (ad := ad) (dA := dA) (M := (t, T, I, L, P)) ha.1 ha.2
  rw [hf_cm_i hT hc] at he
  have hcon := h B ad D dA p la e s m args below meth c0 H locs cells slots mc ms ls hc0 hk hn hH hS hl
  obtain rfl | rfl | rfl : c = 100 ∨ c = 101 ∨ c = 102 := by omega
  · exact va_alen hx hb (hf_K hw) hH.2 (a - 100) 0 he rfl rfl hdg hcon
  · exact va_alen hx hb (hf_K hw) hH.2 (a - 100) 1 he rfl rfl hdg hcon
  · exact va_alen hx hb (hf_K hw) hH.2 (a - 100) 2 he rfl rfl hdg hcon
/-- a cell's contents were changed, no other's: the memory behind it -/
theorem hf_H_set {B : Nat} {ad : Nat → Nat} {D : va_G} {dA : Nat → ClassId} {a : Nat} {I' : hf_I} {L' : hf_L} {P' : hf_P} {x : va_E} {H H1 : Heap} (hH : hf_H B ad D dA (t, T, I, L, P) H) (ha : 100 ≤ a ∧ a < 100 + t) (hz : H1.size = H.size) (ho : ∀ b, b ≠ a → I' b = I b ∧ L' b = L b ∧ P' b = P b) (hcm : hf_cm B ad dA (t, T, I', L', P') a = x) (hx : va_at D vwCl (hf_ad B ad a, x) H1) (oq : ∀ q : Nat, q ≠ hf_ad B ad a → H1[q]? = H[q]?) : hf_H B ad D dA (t, T, I', L', P') H1 := by
  refine ⟨hz.trans hH.1, ?_⟩
  have hset := hf_ws_set (B := B) (ad := ad) (dA := dA) (M := (t, T, I, L, P)) (M' := (t, T, I', L', P')) (a := a) (x := x) ha.1 ha.2 rfl (fun b hb => by
    obtain ⟨q1, q2, q3⟩ := ho b hb
    show hf_c B ad dA (T b) (I' b) (L' b) (P' b) = hf_c B ad dA (T b) (I b) (L b) (P b)
    rw [q1, q2, q3]) hcm
  rw [← hset]
  exact hH.2.set hf_D (hf_ws_at (M := (t, T, I, L, P)) ha.1 ha.2) hx oq
theorem hf_ad_A {B : Nat} {ad : Nat → Nat} {a : Nat} (h : 100 ≤ a) : hf_A B (hf_ad B ad a) := by
  rw [hf_ad_hi h]
  exact Nat.le_add_right _ _
theorem hf_iast {a z : Nat} {i x : Int32} (hdg : decode Y.2.1 pc = .ok (.iastore, 1)) (hT : T a = (100, z)) (ha : 100 ≤ a ∧ a < 100 + t) (hin : vp_in i z) (h : hf_G X Y d k n (pc + 1) l st (t, T, hf_up I a i.toNatClampNeg x, L, P) Q) : hf_G X Y d k n pc l (.int x :: .int i :: .ref a :: st) (t, T, I, L, P) Q := by
  intro B ad D dA p la e s m args below meth c0 H locs cells slots mc ms ls hc0 hk hn hH hS hl
  obtain ⟨hx, hb, hr, hml, hown, hts, hlk, hnm, hw⟩ := id hc0
  have he := hf_ws_at (B := B) (ad := ad) (dA := dA) (M := (t, T, I, L, P)) ha.1 ha.2
  rw [hf_cm_i hT (by omega)] at he
  refine W.iast hx hb (hH.2 (a - 100) _ he) (((hf_K hw).2 0 _ rfl).1 z (fun j => .int (I a j))) (fun q => by cases q) (by show ¬ (i < 0 ∨ (arrV _ _ _).slots.size ≤ _); rw [arrV_size]; exact hin) rfl rfl hdg fun H1 e1 z1 oq => ?_
  refine h B ad D dA p la e s m args below meth c0 H1 _ cells slots mc ms ls hc0 hk hn (hf_H_set hH ha z1 (fun b hb => ⟨by simp [hf_up, hb], rfl, rfl⟩) (hf_cm_i (M := (t, T, hf_up I a i.toNatClampNeg x, L, P)) hT (by omega)) ?_ oq) (hS.put z1 oq (hf_ad_A ha.1)) hl
  show H1[hf_ad B ad a]? = some (vp_cell _ _)
  rw [e1]
  rw [vp_cell_i, vp_cell_i, arrV_store]
  congr 2
  funext q
  show _ = Value.int (hf_up I a i.toNatClampNeg x a q)
  by_cases hq : q = i.toNatClampNeg
  · subst hq
    simp [updV, hf_up, upd, vp_nar]
    try rfl
  · simp [updV, hf_up, upd, hq]
theorem hf_bast {a z : Nat} {i x : Int32} (hdg : decode Y.2.1 pc = .ok (.bastore, 1)) (hT : T a = (101, z)) (ha : 100 ≤ a ∧ a < 100 + t) (hin : vp_in i z) (h : hf_G X Y d k n (pc + 1) l st (t, T, hf_up I a i.toNatClampNeg (vp_nar .byte x), L, P) Q) : hf_G X Y d k n pc l (.int x :: .int i :: .ref a :: st) (t, T, I, L, P) Q := by
  intro B ad D dA p la e s m args below meth c0 H locs cells slots mc ms ls hc0 hk hn hH hS hl
  obtain ⟨hx, hb, hr, hml, hown, hts, hlk, hnm, hw⟩ := id hc0
  have he := hf_ws_at (B := B) (ad := ad) (dA := dA) (M := (t, T, I, L, P)) ha.1 ha.2
  rw [hf_cm_i hT (by omega)] at he
  refine W.bast hx hb (hH.2 (a - 100) _ he) (((hf_K hw).2 1 _ rfl).1 z (fun j => .int (I a j))) (fun q => by cases q) (by show ¬ (i < 0 ∨ (arrV _ _ _).slots.size ≤ _); rw [arrV_size]; exact hin) rfl rfl hdg fun H1 e1 z1 oq => ?_
  refine h B ad D dA p la e s m args below meth c0 H1 _ cells slots mc ms ls hc0 hk hn (hf_H_set hH ha z1 (fun b hb => ⟨by simp [hf_up, hb], rfl, rfl⟩) (hf_cm_i (M := (t, T, hf_up I a i.toNatClampNeg (vp_nar .byte x), L, P)) hT (by omega)) ?_ oq) (hS.put z1 oq (hf_ad_A ha.1)) hl
  show H1[hf_ad B ad a]? = some (vp_cell _ _)
  rw [e1]
  rw [vp_cell_i, vp_cell_i, arrV_store]
  congr 2
  funext q
  show _ = Value.int (hf_up I a i.toNatClampNeg (vp_nar .byte x) a q)
  by_cases hq : q = i.toNatClampNeg
  · subst hq
    simp [updV, hf_up, upd, vp_nar]
    try rfl
  · simp [updV, hf_up, upd, hq]
theorem hf_zast {a z : Nat} {i x : Int32} (hdg : decode Y.2.1 pc = .ok (.bastore, 1)) (hT : T a = (102, z)) (ha : 100 ≤ a ∧ a < 100 + t) (hin : vp_in i z) (h : hf_G X Y d k n (pc + 1) l st (t, T, hf_up I a i.toNatClampNeg (vp_nar .boolean x), L, P) Q) : hf_G X Y d k n pc l (.int x :: .int i :: .ref a :: st) (t, T, I, L, P) Q := by
  intro B ad D dA p la e s m args below meth c0 H locs cells slots mc ms ls hc0 hk hn hH hS hl
  obtain ⟨hx, hb, hr, hml, hown, hts, hlk, hnm, hw⟩ := id hc0
  have he := hf_ws_at (B := B) (ad := ad) (dA := dA) (M := (t, T, I, L, P)) ha.1 ha.2
  rw [hf_cm_i hT (by omega)] at he
  refine W.zast hx hb (hH.2 (a - 100) _ he) (((hf_K hw).2 2 _ rfl).1 z (fun j => .int (I a j))) (fun q => by cases q) (by show ¬ (i < 0 ∨ (arrV _ _ _).slots.size ≤ _); rw [arrV_size]; exact hin) rfl rfl hdg fun H1 e1 z1 oq => ?_
  refine h B ad D dA p la e s m args below meth c0 H1 _ cells slots mc ms ls hc0 hk hn (hf_H_set hH ha z1 (fun b hb => ⟨by simp [hf_up, hb], rfl, rfl⟩) (hf_cm_i (M := (t, T, hf_up I a i.toNatClampNeg (vp_nar .boolean x), L, P)) hT (by omega)) ?_ oq) (hS.put z1 oq (hf_ad_A ha.1)) hl
  show H1[hf_ad B ad a]? = some (vp_cell _ _)
  rw [e1]
  rw [vp_cell_i, vp_cell_i, arrV_store]
  congr 2
  funext q
  show _ = Value.int (hf_up I a i.toNatClampNeg (vp_nar .boolean x) a q)
  by_cases hq : q = i.toNatClampNeg
  · subst hq
    simp [updV, hf_up, upd, vp_nar]
    try rfl
  · simp [updV, hf_up, upd, hq]
theorem hf_last {a z : Nat} {i : Int32} {x : Int64} (hdg : decode Y.2.1 pc = .ok (.lastore, 1)) (hT : T a = (103, z)) (ha : 100 ≤ a ∧ a < 100 + t) (hin : vp_in i z) (h : hf_G X Y d k n (pc + 1) l st (t, T, I, hf_upL L a i.toNatClampNeg x, P) Q) : hf_G X Y d k n pc l (.long x :: .int i :: .ref a :: st) (t, T, I, L, P) Q := by
  intro B ad D dA p la e s m args below meth c0 H locs cells slots mc ms ls hc0 hk hn hH hS hl
  obtain ⟨hx, hb, hr, hml, hown, hts, hlk, hnm, hw⟩ := id hc0
  have he := hf_ws_at (B := B) (ad := ad) (dA := dA) (M := (t, T, I, L, P)) ha.1 ha.2
  rw [hf_cm_l hT] at he
  refine W.last hx hb (hH.2 (a - 100) _ he) (((hf_K hw).2 3 _ rfl).1 z (fun j => .long (L a j))) (fun q => by cases q) (by show ¬ (i < 0 ∨ (arrV _ _ _).slots.size ≤ _); rw [arrV_size]; exact hin) rfl rfl hdg fun H1 e1 z1 oq => ?_
  refine h B ad D dA p la e s m args below meth c0 H1 _ cells slots mc ms ls hc0 hk hn (hf_H_set hH ha z1 (fun b hb => ⟨rfl, by simp [hf_upL, hb], rfl⟩) (hf_cm_l (M := (t, T, I, hf_upL L a i.toNatClampNeg x, P)) hT) ?_ oq) (hS.put z1 oq (hf_ad_A ha.1)) hl
  show H1[hf_ad B ad a]? = some (vp_cell _ _)
  rw [e1]
  rw [vp_cell_l, vp_cell_l, arrV_store]
  congr 2
  funext q
  show _ = Value.long (hf_upL L a i.toNatClampNeg x a q)
  by_cases hq : q = i.toNatClampNeg
  · subst hq
    simp [updV, hf_upL, vp_updL]
  · simp [updV, hf_upL, vp_updL, hq]
end HA
