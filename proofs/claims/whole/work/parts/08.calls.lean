section HC
variable {X : hf_X} {Y Z : hf_Y} {d k n k1 n1 pc ix nargs : Nat} {l : List (Option Value)} {st st0 : List Value} {Q : Option Value → hf_M → Prop}
variable {t : Nat} {T : hf_T} {I : hf_I} {L : hf_L} {P : hf_P}
theorem hf_pre {B : Nat} {ad : Nat → Nat} {D : va_G} {dA : Nat → ClassId} {Lx : Nat} {xs : Nat → Int32} {s : State} {H : Heap} {locs : List Loc} {as : List Value} {M : hf_M} (hw : hf_w B ad D dA Lx xs s) (hH : hf_H B ad D dA M H) (hS : va_S (hf_A B) s.heap H locs) : PreS s H (hf_Pc B ad D dA Lx xs as M) (as.map (hf_v B ad)) :=
  ⟨hf_blind, fun U hU hW => ⟨rfl, by rw [hU]; exact hH, hf_w_call hw hW hU hS⟩⟩
theorem hf_sum {B : Nat} {ad : Nat → Nat} (h : (st.map fun v => v.category).sum ≤ 8) : ((st.map (hf_v B ad)).map fun v => v.category).sum ≤ 8 := by
  rw [List.map_map]
  rw [show ((fun v : Value => v.category) ∘ hf_v B ad) = (fun v => v.category) from funext fun v => hf_cat B ad v]
  exact h
theorem hf_callV {a c z : Nat} {as : List Value} (hok : hf_ok Z nargs) (hdg : decode Y.2.1 pc = .ok (.invokevirtual ix, 3)) (hw1 : Cond.methodLink Y.1.cls ix Z.1 ∈ hf_tb) (hw2 : Cond.instanceMethod Z.1 ∈ hf_tb) (hw3 : Cond.selects (hf_cl c).1 Z.1 Z.1 ∈ hf_tb) (hT : T a = (c, z)) (hc : c < 13) (ha : 100 ≤ a ∧ a < 100 + t) (hn0 : as.length = nargs) (hen : (hf_en0 (.ref a :: as)).length ≤ Z.2.2.1) (hst : st0 = as.reverse ++ .ref a :: st) (hroom : (st.map fun v => v.category).sum ≤ 8) (hk1 : k1 ≤ k) (hn1 : n1 ≤ n)
    (h : hf_G X Z d k1 n1 0 (hf_en (.ref a :: as) Z.2.2.1) [] (t, T, I, L, P) (fun r M' => hf_G X Y (d + 1) (k - k1) (n - n1) (pc + 3) l (r.toList ++ st) M' Q)) : hf_G X Y (d + 1) k n pc l st0 (t, T, I, L, P) Q := by
  intro B ad D dA p la e s m args below meth c0 H locs cells slots mc ms ls hc0 hk hn hH hS hl
  obtain ⟨hx, hb, hr, hml, hown, hts, hlk, hnm, hw⟩ := id hc0
  subst hst
  have he := hf_ws_at (B := B) (ad := ad) (dA := dA) (M := (t, T, I, L, P)) ha.1 ha.2
  rw [hf_cm_obj hT (by omega)] at he
  obtain ⟨hp1, hp2⟩ := hf_pre (as := .ref a :: as) hw hH hS
  refine hf_after (st := st) hc0 hk hn hk1 hn1 hS hl (a := (Value.ref (hf_ad B ad a) :: as.map (hf_v B ad)).toArray) ?_
  exact va_runV (As := as.map (hf_v B ad)) (rest := st.map (hf_v B ad)) (b := hf_ad B ad a) (C := (hf_cl c).1) ⟨hx, hb, hml, hown, hts⟩ (hf_met hok hen h B ad D dA la) ⟨hf_callB hts hok hw1, hts _ hw2, hts _ hw3⟩ ⟨hp1, va_recv (hf_K hw) hH.2 (hf_cl_ok c hc).1 he, hp2⟩ rfl (by rw [List.length_map]; exact hn0) hl.1 (by show List.map _ _ = _; rw [List.map_append, List.map_reverse]; rfl) (lv_room (hf_sum hroom)) hdg ⟨by show cells + k1 ≤ mc; omega, by show slots + n1 ≤ ms; omega⟩
theorem hf_callS {as : List Value} (hok : hf_ok Z nargs) (hdg : decode Y.2.1 pc = .ok (.invokestatic ix, 3)) (hw1 : Cond.methodLink Y.1.cls ix Z.1 ∈ hf_tb) (hw2 : Cond.static Z.1 ∈ hf_tb) (hn0 : as.length = nargs) (hen : (hf_en0 as).length ≤ Z.2.2.1) (hst : st0 = as.reverse ++ st) (hroom : (st.map fun v => v.category).sum ≤ 8) (hk1 : k1 ≤ k) (hn1 : n1 ≤ n)
    (h : hf_G X Z d k1 n1 0 (hf_en as Z.2.2.1) [] (t, T, I, L, P) (fun r M' => hf_G X Y (d + 1) (k - k1) (n - n1) (pc + 3) l (r.toList ++ st) M' Q)) : hf_G X Y (d + 1) k n pc l st0 (t, T, I, L, P) Q := by
  intro B ad D dA p la e s m args below meth c0 H locs cells slots mc ms ls hc0 hk hn hH hS hl
  obtain ⟨hx, hb, hr, hml, hown, hts, hlk, hnm, hw⟩ := id hc0
  subst hst
  refine hf_after (st := st) hc0 hk hn hk1 hn1 hS hl (a := (as.map (hf_v B ad)).toArray) ?_
  exact va_runS (As := as.map (hf_v B ad)) (rest := st.map (hf_v B ad)) ⟨hx, hb, hml, hown, hts⟩ (hf_met hok hen h B ad D dA la) ⟨hf_callB hts hok hw1, hts _ hw2⟩ (hf_pre hw hH hS) rfl (by rw [List.length_map]; exact hn0) hl.1 (by show List.map _ _ = _; rw [List.map_append, List.map_reverse]) (lv_room (hf_sum hroom)) hdg ⟨by show cells + k1 ≤ mc; omega, by show slots + n1 ≤ ms; omega⟩
theorem hf_callSN {as : List Value} {host : String} (hok : hf_ok Z nargs) (hdg : decode Y.2.1 pc = .ok (.invokestatic ix, 3)) (hw1 : (Y.1.cls, ix, Z.1, host) ∈ hf_nests) (hw2 : Cond.static Z.1 ∈ hf_tb) (hn0 : as.length = nargs) (hen : (hf_en0 as).length ≤ Z.2.2.1) (hst : st0 = as.reverse ++ st) (hroom : (st.map fun v => v.category).sum ≤ 8) (hk1 : k1 ≤ k) (hn1 : n1 ≤ n)
    (h : hf_G X Z d k1 n1 0 (hf_en as Z.2.2.1) [] (t, T, I, L, P) (fun r M' => hf_G X Y (d + 1) (k - k1) (n - n1) (pc + 3) l (r.toList ++ st) M' Q)) : hf_G X Y (d + 1) k n pc l st0 (t, T, I, L, P) Q := by
  intro B ad D dA p la e s m args below meth c0 H locs cells slots mc ms ls hc0 hk hn hH hS hl
  obtain ⟨hx, hb, hr, hml, hown, hts, hlk, hnm, hw⟩ := id hc0
  subst hst
  refine hf_after (st := st) hc0 hk hn hk1 hn1 hS hl (a := (as.map (hf_v B ad)).toArray) ?_
  exact va_runSN (As := as.map (hf_v B ad)) (rest := st.map (hf_v B ad)) ⟨hx, hb, hml, hown, hts⟩ (hf_met hok hen h B ad D dA la) ⟨hf_callN hts hw.2.2.2.2.1 hok hw1, hts _ hw2, trivial⟩ (hf_pre hw hH hS) rfl (by rw [List.length_map]; exact hn0) hl.1 (by show List.map _ _ = _; rw [List.map_append, List.map_reverse]) (lv_room (hf_sum hroom)) hdg ⟨by show cells + k1 ≤ mc; omega, by show slots + n1 ≤ ms; omega⟩
theorem hf_callI {a : Nat} {as : List Value} (hok : hf_ok Z nargs) (hret : Z.2.2.2 = none) (hnm0 : Z.1.name = "<init>") (hdg : decode Y.2.1 pc = .ok (.invokespecial ix, 3)) (hw1 : Cond.methodLink Y.1.cls ix Z.1 ∈ hf_tb) (hw2 : Cond.instanceMethod Z.1 ∈ hf_tb) (hn0 : as.length = nargs) (hen : (hf_en0 (.ref a :: as)).length ≤ Z.2.2.1) (hst : st0 = as.reverse ++ .ref a :: st) (hroom : (st.map fun v => v.category).sum ≤ 8) (hk1 : k1 ≤ k) (hn1 : n1 ≤ n)
    (h : hf_G X Z d k1 n1 0 (hf_en (.ref a :: as) Z.2.2.1) [] (t, T, I, L, P) (fun r M' => hf_G X Y (d + 1) (k - k1) (n - n1) (pc + 3) l (r.toList ++ st) M' Q)) : hf_G X Y (d + 1) k n pc l st0 (t, T, I, L, P) Q := by
  intro B ad D dA p la e s m args below meth c0 H locs cells slots mc ms ls hc0 hk hn hH hS hl
  obtain ⟨hx, hb, hr, hml, hown, hts, hlk, hnm, hw⟩ := id hc0
  subst hst
  refine hf_after (st := st) hc0 hk hn hk1 hn1 hS hl (a := (Value.ref (hf_ad B ad a) :: as.map (hf_v B ad)).toArray) ?_
  have hcb := hf_callB (d := d) (k1 := k1) (n1 := n1) (mc := mc) (ms := ms) hts hok hw1
  have hM := hf_met hok hen h B ad D dA la
  rw [hret] at hcb hM
  exact va_runI (As := as.map (hf_v B ad)) (rest := st.map (hf_v B ad)) (b := hf_ad B ad a) ⟨hx, hb, hml, hown, hts⟩ hM ⟨hcb, hnm0, hts _ hw2⟩ (hf_pre (as := .ref a :: as) hw hH hS) rfl (by rw [List.length_map]; exact hn0) hl.1 (by show List.map _ _ = _; rw [List.map_append, List.map_reverse]; rfl) (lv_room (hf_sum hroom)) hdg ⟨by show cells + k1 ≤ mc; omega, by show slots + n1 ≤ ms; omega⟩
theorem hf_callIN {a : Nat} {as : List Value} {host : String} (hok : hf_ok Z nargs) (hret : Z.2.2.2 = none) (hnm0 : Z.1.name = "<init>") (hdg : decode Y.2.1 pc = .ok (.invokespecial ix, 3)) (hw1 : (Y.1.cls, ix, Z.1, host) ∈ hf_nests) (hw2 : Cond.instanceMethod Z.1 ∈ hf_tb) (hn0 : as.length = nargs) (hen : (hf_en0 (.ref a :: as)).length ≤ Z.2.2.1) (hst : st0 = as.reverse ++ .ref a :: st) (hroom : (st.map fun v => v.category).sum ≤ 8) (hk1 : k1 ≤ k) (hn1 : n1 ≤ n)
    (h : hf_G X Z d k1 n1 0 (hf_en (.ref a :: as) Z.2.2.1) [] (t, T, I, L, P) (fun r M' => hf_G X Y (d + 1) (k - k1) (n - n1) (pc + 3) l (r.toList ++ st) M' Q)) : hf_G X Y (d + 1) k n pc l st0 (t, T, I, L, P) Q := by
  intro B ad D dA p la e s m args below meth c0 H locs cells slots mc ms ls hc0 hk hn hH hS hl
  obtain ⟨hx, hb, hr, hml, hown, hts, hlk, hnm, hw⟩ := id hc0
  subst hst
  refine hf_after (st := st) hc0 hk hn hk1 hn1 hS hl (a := (Value.ref (hf_ad B ad a) :: as.map (hf_v B ad)).toArray) ?_
  have hcb := hf_callN (d := d) (k1 := k1) (n1 := n1) (mc := mc) (ms := ms) hts hw.2.2.2.2.1 hok hw1
  have hM := hf_met hok hen h B ad D dA la
  rw [hret] at hcb hM
  exact va_runIN (As := as.map (hf_v B ad)) (rest := st.map (hf_v B ad)) (b := hf_ad B ad a) ⟨hx, hb, hml, hown, hts⟩ hM ⟨hcb, hnm0, hts _ hw2⟩ (hf_pre (as := .ref a :: as) hw hH hS) rfl (by rw [List.length_map]; exact hn0) hl.1 (by show List.map _ _ = _; rw [List.map_append, List.map_reverse]; rfl) (lv_room (hf_sum hroom)) hdg ⟨by show cells + k1 ≤ mc; omega, by show slots + n1 ≤ ms; omega⟩
/-- Object.<init> -/
theorem hf_objInit {a : Nat} (hdg : decode Y.2.1 pc = .ok (.invokespecial ix, 3)) (hw1 : Cond.methodLink Y.1.cls ix objectInit ∈ hf_tb) (hw2 : Cond.instanceMethod objectInit ∈ hf_tb) (hw3 : Cond.code objectInit ⟨#[0xb1]⟩ 1 none ∈ hf_tb) (hroom : (st.map fun v => v.category).sum ≤ 8) (h : hf_G X Y (d + 1) k n (pc + 3) l st (t, T, I, L, P) Q) : hf_G X Y (d + 1) k n pc l (.ref a :: st) (t, T, I, L, P) Q := by
  intro B ad D dA p la e s m args below meth c0 H locs cells slots mc ms ls hc0 hk hn hH hS hl
  obtain ⟨hx, hb, hr, hml, hown, hts, hlk, hnm, hw⟩ := id hc0
  have := lv_room (m := m) (pc := pc) (ls := ls) (rest := (Value.ref a :: st).map (hf_v B ad)) (hf_sum (B := B) (ad := ad) hroom)
  exact W.objInit hx hb hown (hts _ hw1) (hts _ hw2) (hts _ hw3) rfl (by rw [hml]; exact hl.1) rfl hdg (by show 1 ≤ d + 1; omega) (by show 2 * (F0 m pc ls _).monitorRoom + _ + 12 ≤ 60 * (d + 1); omega) (h B ad D dA p la e s m args below meth c0 H locs cells slots mc ms ls hc0 hk hn hH hS hl)
end HC
