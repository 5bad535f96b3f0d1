/-! the model's object is still an object of its class, whatever the class's call has done: the machine's own frame says so -/
def hr_R (B : Nat) (s : State) (H : Heap) : Prop := ∃ cell : Cell, H[B + 56]? = some cell ∧ cell.vm.isStatics = false ∧ s.vm.findClass (hf_cl 12).1 = some cell.cls
def hr_kp (st t : State) : Prop := ∀ (a : Nat) (c : Cell), st.heap[a]? = some c → ∃ c' : Cell, t.heap[a]? = some c' ∧ c'.vm = c.vm ∧ c'.cls = c.cls
theorem hr_met {l : Launch} {y : MethodName} {ws : List Cond} {rm : Room} {Pc : Array Value → State → Prop} {Qc : Array Value → State → Outcome → State → Prop} {mc ms : Nat} {free : Addr → Prop} (hM : Met l y ws rm Pc Qc mc ms free) : Met l y ws rm Pc (fun a st o t => Qc a st o t ∧ hr_kp st t) mc ms free := by
  intro p e h1 h2 h3 s m args below h4 h5 h6 h7
  obtain ⟨n, o, a1, a2, a3, a4, L, a5, a6⟩ := hM p e h1 h2 h3 s m args below h4 h5 h6 h7
  refine ⟨n, o, a1, a2, a3, ⟨a4, ?_⟩, L, a5, a6⟩
  obtain ⟨-, -, -, -, -, -, -, hh⟩ := a5
  intro a c hc
  obtain ⟨c', b1, b2, -⟩ := hh a c hc
  exact ⟨c', b1, (congrArg Cell.vm b2).trans rfl, (congrArg Cell.cls b2).trans rfl⟩
def hr_G (X : hf_X) (Y : hf_Y) (d k n pc : Nat) (l : List (Option Value)) (st : List Value) (M : hf_M) (Q : Option Value → hf_M → Prop) : Prop :=
  ∀ (B : Nat) (ad : Nat → Nat) (D : va_G) (dA : Nat → ClassId) (p : Program) (la : Launch) (e : Env) (s : State) (m : MethodId) (args : Array Value) (below : List Frame) (meth : Method) (c : Code) (H : Heap) (locs : List Loc) (cells slots mc ms : Nat) (ls : Array Slot),
    hf_cx Y B ad D dA X.1 X.2 p s m args meth c → cells + k ≤ mc → slots + n ≤ ms → hf_H B ad D dA M H → va_S (hf_A B) s.heap H locs → hf_ls B ad ls Y.2.2.1 l → hr_R B s H →
    W p la e (hf_R d mc ms) s m args below meth c H locs cells slots (MQ below (hf_Qc B ad D dA Q) args s mc ms (hf_A B)) (F0 m pc ls (st.map (hf_v B ad)))
theorem hr_iconst {X : hf_X} {Y : hf_Y} {d k n pc : Nat} {l : List (Option Value)} {st : List Value} {M : hf_M} {Q : Option Value → hf_M → Prop} {z : Int} {v : Int32} (hdg : decode Y.2.1 pc = .ok (.iconst z, 1)) (hv : Int32.ofInt z = v) (h : hr_G X Y d k n (pc + 1) l (.int v :: st) M Q) : hr_G X Y d k n pc l (st) M Q := by
  intro B ad D dA p la e s m args below meth c H locs cells slots mc ms ls hc hk hn hH hS hl hR
  obtain ⟨hx, hb, hr, hml, hown, hts, hlk, hnm, hw⟩ := id hc
  exact lv_iconst hx hb hdg hv (h B ad D dA p la e s m args below meth c H locs cells slots mc ms ls hc hk hn hH hS hl hR)
theorem hr_iload_n {X : hf_X} {Y : hf_Y} {d k n pc : Nat} {l : List (Option Value)} {st : List Value} {M : hf_M} {Q : Option Value → hf_M → Prop} {z : Fin 4} {i : Nat} {x : Int32} (hdg : decode Y.2.1 pc = .ok (.iload_n z, 1)) (hi : (z : Nat) = i) (hl0 : l[i]? = some (some (.int x))) (h : hr_G X Y d k n (pc + 1) l (.int x :: st) M Q) : hr_G X Y d k n pc l (st) M Q := by
  intro B ad D dA p la e s m args below meth c H locs cells slots mc ms ls hc hk hn hH hS hl hR
  obtain ⟨hx, hb, hr, hml, hown, hts, hlk, hnm, hw⟩ := id hc
  exact lv_iload_n hx hb hdg hi (hl.2.2 _ _ hl0) (h B ad D dA p la e s m args below meth c H locs cells slots mc ms ls hc hk hn hH hS hl hR)
theorem hr_aload_n {X : hf_X} {Y : hf_Y} {d k n pc : Nat} {l : List (Option Value)} {st : List Value} {M : hf_M} {Q : Option Value → hf_M → Prop} {z : Fin 4} {i : Nat} {x : Nat} (hdg : decode Y.2.1 pc = .ok (.aload_n z, 1)) (hi : (z : Nat) = i) (hl0 : l[i]? = some (some (.ref x))) (h : hr_G X Y d k n (pc + 1) l (.ref x :: st) M Q) : hr_G X Y d k n pc l (st) M Q := by
  intro B ad D dA p la e s m args below meth c H locs cells slots mc ms ls hc hk hn hH hS hl hR
  obtain ⟨hx, hb, hr, hml, hown, hts, hlk, hnm, hw⟩ := id hc
  exact lv_aload_n hx hb hdg hi (hl.2.2 _ _ hl0) (h B ad D dA p la e s m args below meth c H locs cells slots mc ms ls hc hk hn hH hS hl hR)
theorem hr_iadd {X : hf_X} {Y : hf_Y} {d k n pc : Nat} {l : List (Option Value)} {st : List Value} {M : hf_M} {Q : Option Value → hf_M → Prop} {x y : Int32} (hdg : decode Y.2.1 pc = .ok (.iadd, 1)) (h : hr_G X Y d k n (pc + 1) l (.int (x + y) :: st) M Q) : hr_G X Y d k n pc l (.int y :: .int x :: st) M Q := by
  intro B ad D dA p la e s m args below meth c H locs cells slots mc ms ls hc hk hn hH hS hl hR
  obtain ⟨hx, hb, hr, hml, hown, hts, hlk, hnm, hw⟩ := id hc
  exact lv_iadd hx hb hdg (h B ad D dA p la e s m args below meth c H locs cells slots mc ms ls hc hk hn hH hS hl hR)
section HR
variable {X : hf_X} {Y Z : hf_Y} {d k n k1 n1 pc ix nargs : Nat} {l : List (Option Value)} {st st0 : List Value} {Q : Option Value → hf_M → Prop} {M : hf_M}
variable {t : Nat} {T : hf_T} {I : hf_I} {L : hf_L} {P : hf_P}
theorem hr_sld {x : Int32} (hdg : decode Y.2.1 pc = .ok (.iaload, 1)) (hin : vp_in x X.1) (h : hr_G X Y d k n (pc + 1) l (.int (X.2 x.toNatClampNeg) :: st) M Q) : hr_G X Y d k n pc l (.int x :: .ref 0 :: st) M Q := by
  intro B ad D dA p la e s m args below meth c0 H locs cells slots mc ms ls hc0 hk hn hH hS hl hR
  obtain ⟨hx, hb, hr, hml, hown, hts, hlk, hnm, hw⟩ := id hc0
  exact va_sld hx hb hw.2.2.2.1 (Nat.lt_of_lt_of_le hw.2.2.1 hw.2.1) (Nat.not_le.mpr hw.2.2.1) hS hin hdg (h B ad D dA p la e s m args below meth c0 H locs cells slots mc ms ls hc0 hk hn hH hS hl hR)
/-- behind a call, the model still there -/
theorem hr_after {a : Array Value} {B : Nat} {ad : Nat → Nat} {D : va_G} {dA : Nat → ClassId} {p : Program} {la : Launch} {e : Env} {s : State} {m : MethodId} {args : Array Value} {below : List Frame} {meth : Method} {c : Code} {H : Heap} {locs : List Loc} {cells slots mc ms : Nat} {ls : Array Slot} {stv : List Value}
    (hc : hf_cx Y B ad D dA X.1 X.2 p s m args meth c) (hk : cells + k ≤ mc) (hn : slots + n ≤ ms) (hk1 : k1 ≤ k) (hn1 : n1 ≤ n) (hS : va_S (hf_A B) s.heap H locs) (hl : hf_ls B ad ls Y.2.2.1 l) (hR : hr_R B s H)
    (hr : va_Run p la e (hf_R d mc ms) s m args below meth c H locs cells slots k1 n1 (F0 m pc ls stv) (st.map (hf_v B ad)) (fun st2 o t2 => hf_Qc B ad D dA (fun r M' => hr_G X Y d (k - k1) (n - n1) (pc + 3) l (r.toList ++ st) M' Q) a st2 o t2 ∧ hr_kp st2 t2) (hf_A B)) :
    W p la e (hf_R d mc ms) s m args below meth c H locs cells slots (MQ below (hf_Qc B ad D dA Q) args s mc ms (hf_A B)) (F0 m pc ls stv) := by
  intro T hT X
  obtain ⟨v, st₀, t, T', L, h0, X', hL, e1, e2, ⟨⟨⟨r, M', hv, hq, hH'⟩, hz, hkq⟩, hkp⟩, go⟩ := hr T hT X
  have hv' : v = r.map (hf_v B ad) := by cases hv; rfl
  subst hv'
  rw [h0] at hz hkq
  have hS' : va_S (hf_A B) s.heap T'.heap (locs ++ L) := by
    refine ⟨Nat.le_trans hS.1 (by rw [e1]; exact hz), fun q h1 h2 => ?_, fun q hq => ?_⟩
    · rw [e1, hkq q (Nat.lt_of_lt_of_le h1 hS.1) h2]
      exact hS.2.1 q h1 h2
    · rcases List.mem_append.mp hq with h | h
      · exact hS.2.2 q h
      · exact hL q h
  have hR' : hr_R B s T'.heap := by
    obtain ⟨cell, g1, g2, g3⟩ := hR
    obtain ⟨c', b1, b2, b3⟩ := hkp (B + 56) cell (by rw [h0]; exact g1)
    exact ⟨c', by rw [e1]; exact b1, by rw [b2]; exact g2, by rw [b3]; exact g3⟩
  obtain ⟨t2, a1, b1⟩ := hq B ad D dA p la e s m args below meth c T'.heap (locs ++ L) (cells + k1) (slots + n1) mc ms ls hc (by omega) (by omega) (by rw [e1]; exact hH') hS' hl hR' T' rfl X'
  refine ⟨t2, go t2 ?_, b1⟩
  have : ((r.toList ++ st).map (hf_v B ad)) = (r.map (hf_v B ad)).toList ++ st.map (hf_v B ad) := by cases r <;> rfl
  rw [this] at a1
  exact a1
theorem hr_callV {a c z : Nat} {as : List Value} (hok : hf_ok Z nargs) (hdg : decode Y.2.1 pc = .ok (.invokevirtual ix, 3)) (hw1 : Cond.methodLink Y.1.cls ix Z.1 ∈ hf_tb) (hw2 : Cond.instanceMethod Z.1 ∈ hf_tb) (hw3 : Cond.selects (hf_cl c).1 Z.1 Z.1 ∈ hf_tb) (hT : T a = (c, z)) (hc : c < 13) (ha : 100 ≤ a ∧ a < 100 + t) (hn0 : as.length = nargs) (hen : (hf_en0 (.ref a :: as)).length ≤ Z.2.2.1) (hst : st0 = as.reverse ++ .ref a :: st) (hroom : (st.map fun v => v.category).sum ≤ 8) (hk1 : k1 ≤ k) (hn1 : n1 ≤ n) (hT2 : T 156 = (12, 0)) (ht2 : 56 < t)
    (h : hf_G X Z d k1 n1 0 (hf_en (.ref a :: as) Z.2.2.1) [] (t, T, I, L, P) (fun r M' => hr_G X Y (d + 1) (k - k1) (n - n1) (pc + 3) l (r.toList ++ st) M' Q)) : hf_G X Y (d + 1) k n pc l st0 (t, T, I, L, P) Q := by
  intro B ad D dA p la e s m args below meth c0 H locs cells slots mc ms ls hc0 hk hn hH hS hl
  obtain ⟨hx, hb, hr, hml, hown, hts, hlk, hnm, hw⟩ := id hc0
  subst hst
  have he := hf_ws_at (B := B) (ad := ad) (dA := dA) (M := (t, T, I, L, P)) ha.1 ha.2
  rw [hf_cm_obj hT (by omega)] at he
  have he2 := hf_ws_at (B := B) (ad := ad) (dA := dA) (M := (t, T, I, L, P)) (a := 156) (by omega) (by show 156 < 100 + t; omega)
  rw [hf_cm_obj hT2 (by omega), hf_ad_hi (by omega)] at he2
  have hR : hr_R B s H := va_recv (hf_K hw) hH.2 (hf_cl_ok 12 (by omega)).1 he2
  obtain ⟨hp1, hp2⟩ := hf_pre (as := .ref a :: as) hw hH hS
  refine hr_after (st := st) hc0 hk hn hk1 hn1 hS hl hR (a := (Value.ref (hf_ad B ad a) :: as.map (hf_v B ad)).toArray) ?_
  exact va_runV (As := as.map (hf_v B ad)) (rest := st.map (hf_v B ad)) (b := hf_ad B ad a) (C := (hf_cl c).1) ⟨hx, hb, hml, hown, hts⟩ (hr_met (hf_met hok hen h B ad D dA la)) ⟨hf_callB hts hok hw1, hts _ hw2, hts _ hw3⟩ ⟨hp1, va_recv (hf_K hw) hH.2 (hf_cl_ok c hc).1 he, hp2⟩ rfl (by rw [List.length_map]; exact hn0) hl.1 (by show List.map _ _ = _; rw [List.map_append, List.map_reverse]; rfl) (lv_room (hf_sum hroom)) hdg ⟨by show cells + k1 ≤ mc; omega, by show slots + n1 ≤ ms; omega⟩
theorem hr_callM {as : List Value} (hok : hf_ok Z nargs) (hdg : decode Y.2.1 pc = .ok (.invokevirtual ix, 3)) (hw1 : Cond.methodLink Y.1.cls ix Z.1 ∈ hf_tb) (hw2 : Cond.instanceMethod Z.1 ∈ hf_tb) (hw3 : Cond.selects (hf_cl 12).1 Z.1 Z.1 ∈ hf_tb) (hn0 : as.length = nargs) (hen : (hf_en0 (.ref 156 :: as)).length ≤ Z.2.2.1) (hst : st0 = as.reverse ++ .ref 156 :: st) (hroom : (st.map fun v => v.category).sum ≤ 8) (hk1 : k1 ≤ k) (hn1 : n1 ≤ n)
    (h : hf_G X Z d k1 n1 0 (hf_en (.ref 156 :: as) Z.2.2.1) [] M (fun r M' => hf_G X Y (d + 1) (k - k1) (n - n1) (pc + 3) l (r.toList ++ st) M' Q)) : hr_G X Y (d + 1) k n pc l st0 M Q := by
  intro B ad D dA p la e s m args below meth c0 H locs cells slots mc ms ls hc0 hk hn hH hS hl hR
  obtain ⟨hx, hb, hr, hml, hown, hts, hlk, hnm, hw⟩ := id hc0
  subst hst
  obtain ⟨hp1, hp2⟩ := hf_pre (as := .ref 156 :: as) hw hH hS
  refine hf_after (st := st) hc0 hk hn hk1 hn1 hS hl (a := (Value.ref (hf_ad B ad 156) :: as.map (hf_v B ad)).toArray) ?_
  exact va_runV (As := as.map (hf_v B ad)) (rest := st.map (hf_v B ad)) (b := hf_ad B ad 156) (C := (hf_cl 12).1) ⟨hx, hb, hml, hown, hts⟩ (hf_met hok hen h B ad D dA la) ⟨hf_callB hts hok hw1, hts _ hw2, hts _ hw3⟩ ⟨hp1, hR, hp2⟩ rfl (by rw [List.length_map]; exact hn0) hl.1 (by show List.map _ _ = _; rw [List.map_append, List.map_reverse]; rfl) (lv_room (hf_sum hroom)) hdg ⟨by show cells + k1 ≤ mc; omega, by show slots + n1 ≤ ms; omega⟩
end HR
