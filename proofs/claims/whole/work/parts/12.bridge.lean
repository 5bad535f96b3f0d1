/-! THE CLAIM OUT OF ONE WALK OF THE LAW'S BODY. Your part is whole_start (and what it stands on); all else here is the same for every law, but numbers. -/
def R_law : String := "HeadFitsLaw"
def lw_P (b : Addr) (xs : List Int32) (args : Array Value) (s : State) : Prop := args = #[.ref b] ∧ s.IntsAt b xs ∧ xs.length ≤ 3072 ∧ (Jvm.Cond.and given_1 narrow_1).before args s = true
def lw_Q (_ : Array Value) (s : State) (o : Outcome) (t : State) : Prop := o = .returned (some (.int 1)) ∧ Framed s o t [] 600000 7302250
def lw_Z (below : List Frame) (a : Array Value) (s : State) : State → Prop := fun t => ∃ o, t.status = .running ∧ Ended t below o ∧ lw_Q a s o t
/-- the law's own end, with 1 on the stack, nothing written that was there before, its room as the claim has it -/
theorem lw_ret {p : Program} {l : Launch} {e : Env} {s : State} {m : MethodId} {below : List Frame} {meth : Method} {c : Code} {b : Nat} (hx : p.tables.exec = Jvm.exec) (hb : c.code = code) (hr : meth.sig.returnType = ret) (hlocks : meth.locks = false) {pc : Nat} {H : Heap} {ls : Array Slot} (hdg : decode code pc = .ok (.ireturn, 1)) : W p l e room_1 s m #[Value.ref b] below meth c H [] 600000 7302250 (lw_Z below #[Value.ref b] s) (F0 m pc ls [.int 1]) := by
  intro T hT X
  obtain ⟨fs, hret, hrun, hended, hW, hframe⟩ := X.leave (v := some (.int 1)) (hlocks := hlocks) (fun h => by rw [hr] at h; cases h)
  have hmeth' : T.vm.method? m = some meth := X.method'
  refine ⟨T.setFrames fs, ?_, .returned (some (.int 1)), hrun, hended, rfl, ⟨_, rfl⟩, hW, hframe⟩
  jvm_step X.here [X.here.top, hx, hb, hdg, hmeth', hr, ret, narrow_b1]
  (try refine ⟨rfl, ?_⟩); (try refine ⟨rfl, ?_⟩)
  first | (intro acts; rw [hret _ acts rfl rfl rfl]) | rw [hret _ _ rfl rfl rfl]
  exact Steps.refl _
/-- what holds at the law's entry: the machine, the code, the tables' words (any of lw_tbl by 'hts w (by decide +kernel)'), the script of L ints xs at the cell b, what the Statement gives of the start (any of its parts by flat_of_before) -/
def lw_At (p : Program) (s : State) (m : MethodId) (meth : Method) (c : Code) (b L : Nat) (xs : Nat → Int32) : Prop :=
  p.tables.exec = Jvm.exec ∧ c.code = code ∧ meth.sig.returnType = ret ∧ c.maxLocals = 4 ∧ s.vm.findClass R_law = some m.cls ∧ (∀ w ∈ lw_tbl, w.before #[Value.ref b] s = true) ∧ va_X b L xs s s.heap ∧ b < s.heap.size ∧ meth.locks = false ∧ (Jvm.Cond.and given_1 narrow_1).before #[Value.ref b] s = true

abbrev Y_L_law : hf_Y := (x, code, 4, ret)
theorem hf_u1 {w : Cond} (i : Nat) (h0 : tables_1_1[i]? = some w) : w ∈ lw_tbl := by
  have h : w ∈ tables_1_1 := List.mem_of_getElem? h0
  exact List.mem_append_right _ (show w ∈ tables_1 from List.mem_append_left _ h)
theorem hf_u2 {w : Cond} (i : Nat) (h0 : tables_1_2[i]? = some w) : w ∈ lw_tbl := by
  have h : w ∈ tables_1_2 := List.mem_of_getElem? h0
  exact List.mem_append_right _ (show w ∈ tables_1 from List.mem_append_right _ (List.mem_append_left _ h))
theorem hf_u3 {w : Cond} (i : Nat) (h0 : tables_1_3[i]? = some w) : w ∈ lw_tbl := by
  have h : w ∈ tables_1_3 := List.mem_of_getElem? h0
  exact List.mem_append_right _ (show w ∈ tables_1 from List.mem_append_right _ (List.mem_append_right _ (List.mem_append_left _ h)))
theorem hf_u4 {w : Cond} (i : Nat) (h0 : tables_1_4[i]? = some w) : w ∈ lw_tbl := by
  have h : w ∈ tables_1_4 := List.mem_of_getElem? h0
  exact List.mem_append_right _ (show w ∈ tables_1 from List.mem_append_right _ (List.mem_append_right _ (List.mem_append_right _ (List.mem_append_left _ h))))
theorem hf_u5 {w : Cond} (i : Nat) (h0 : tables_1_5[i]? = some w) : w ∈ lw_tbl := by
  have h : w ∈ tables_1_5 := List.mem_of_getElem? h0
  exact List.mem_append_right _ (show w ∈ tables_1 from List.mem_append_right _ (List.mem_append_right _ (List.mem_append_right _ (List.mem_append_right _ (List.mem_append_left _ h)))))
theorem hf_u6 {w : Cond} (i : Nat) (h0 : tables_1_6[i]? = some w) : w ∈ lw_tbl := by
  have h : w ∈ tables_1_6 := List.mem_of_getElem? h0
  exact List.mem_append_right _ (show w ∈ tables_1 from List.mem_append_right _ (List.mem_append_right _ (List.mem_append_right _ (List.mem_append_right _ (List.mem_append_right _ (List.mem_append_left _ h))))))
theorem hf_u7 {w : Cond} (i : Nat) (h0 : tables_1_7[i]? = some w) : w ∈ lw_tbl := by
  have h : w ∈ tables_1_7 := List.mem_of_getElem? h0
  exact List.mem_append_right _ (show w ∈ tables_1 from List.mem_append_right _ (List.mem_append_right _ (List.mem_append_right _ (List.mem_append_right _ (List.mem_append_right _ (List.mem_append_right _ (List.mem_append_left _ h)))))))
theorem hf_u8 {w : Cond} (i : Nat) (h0 : tables_1_8[i]? = some w) : w ∈ lw_tbl := by
  have h : w ∈ tables_1_8 := List.mem_of_getElem? h0
  exact List.mem_append_right _ (show w ∈ tables_1 from List.mem_append_right _ (List.mem_append_right _ (List.mem_append_right _ (List.mem_append_right _ (List.mem_append_right _ (List.mem_append_right _ (List.mem_append_right _ (h))))))))
theorem hf_nests_ok {A : Array Value} {s : State} (hts : ∀ w ∈ lw_tbl, w.before A s = true) : ∀ q ∈ hf_nests, va_Nw (.methodLinkNest q.1 q.2.1 q.2.2.1 q.2.2.2) s := List.forall_mem_cons.mpr ⟨va_Nw.of rfl (hts _ (hf_u1 38 rfl)), List.forall_mem_cons.mpr ⟨va_Nw.of rfl (hts _ (hf_u1 83 rfl)), List.forall_mem_cons.mpr ⟨va_Nw.of rfl (hts _ (hf_u1 219 rfl)), List.forall_mem_cons.mpr ⟨va_Nw.of rfl (hts _ (hf_u2 64 rfl)), List.forall_mem_cons.mpr ⟨va_Nw.of rfl (hts _ (hf_u2 170 rfl)), List.forall_mem_cons.mpr ⟨va_Nw.of rfl (hts _ (hf_u2 195 rfl)), List.forall_mem_cons.mpr ⟨va_Nw.of rfl (hts _ (hf_u2 210 rfl)), List.forall_mem_cons.mpr ⟨va_Nw.of rfl (hts _ (hf_u2 226 rfl)), List.forall_mem_cons.mpr ⟨va_Nw.of rfl (hts _ (hf_u5 43 rfl)), List.forall_mem_cons.mpr ⟨va_Nw.of rfl (hts _ (hf_u5 50 rfl)), List.forall_mem_cons.mpr ⟨va_Nw.of rfl (hts _ (hf_u5 53 rfl)), List.forall_mem_cons.mpr ⟨va_Nw.of rfl (hts _ (hf_u5 84 rfl)), List.forall_mem_cons.mpr ⟨va_Nw.of rfl (hts _ (hf_u5 87 rfl)), fun _ h => absurd h List.not_mem_nil⟩⟩⟩⟩⟩⟩⟩⟩⟩⟩⟩⟩⟩
theorem hf_inst : ∀ c, c < 13 → Cond.instantiable (hf_cl c).1 (hf_cl c).2.2 ∈ hf_tb := by
  intro c hc
  match c, hc with
  | 0, _ => exact hw342
  | 1, _ => exact hw32
  | 2, _ => exact hw324
  | 3, _ => exact hw74
  | 4, _ => exact hw262
  | 5, _ => exact hw182
  | 6, _ => exact hw353
  | 7, _ => exact hw247
  | 8, _ => exact hw272
  | 9, _ => exact hw187
  | 10, _ => exact hw38
  | 11, _ => exact hw24
  | 12, _ => exact hw1031
theorem hf_arr {A : Array Value} {s : State} {ty : FieldType} (h : (Cond.arrayClass ty).before A s = true) (hty : ty = .int ∨ ty = .byte ∨ ty = .boolean ∨ ty = .long) : ∃ cA, ArrOfT s cA ty ∧ va_RA s cA ty := by
  obtain ⟨cA, kA, comp, h1, h2, h3⟩ := Cond.arrayClass_spec h
  refine ⟨cA, fun n z => ⟨fun k h => (by cases h), kA, h2, comp, h3⟩, ?_⟩
  rcases hty with rfl | rfl | rfl | rfl <;> exact h1
theorem hf_arrO {A : Array Value} {s : State} {C : String} (h : (Cond.arrayOver (.object C)).before A s = true) : ∃ cA, ArrOfT s cA (.object C) ∧ va_RA s cA (.object C) := by
  obtain ⟨comp, cA, kA, h1, -, h2, h3, h4⟩ := Cond.arrayOver_spec h
  exact ⟨cA, fun n z => ⟨fun k h => (by cases h), kA, h2, comp, h3⟩, kA, comp, h2, h3, h1, h4⟩
abbrev hf_M0 : hf_M := (0, fun _ => (0, 0), fun _ _ => 0, fun _ _ => 0, fun _ _ => none)
set_option maxHeartbeats 4000000 in
theorem hf_bridge (hG : ∀ X : hf_X, X.1 ≤ 3072 → hf_G X Y_L_law 1400 600000 7302250 0 (hf_en [.ref 0] 4) [] hf_M0 (fun r _ => r = some (.int 1))) {p : Program} {e : Env} {s : State} {m : MethodId} {below : List Frame} {meth : Method} {c : Code} (l : Launch) {b L : Nat} {xs : Nat → Int32} (hL : L ≤ 3072) (C0 : lw_At p s m meth c b L xs) : W p l e room_1 s m #[Value.ref b] below meth c s.heap [] 0 0 (lw_Z below #[Value.ref b] s) (entryFrame m ([Value.ref b] : List Value).toArray 4) := by
  obtain ⟨hx, hb, hr, hml, hown, hts, hX, hbl, hlocks, hgv⟩ := C0
  have hts' : ∀ w ∈ hf_tb, w.before #[Value.ref b] s = true := fun w h => hts w (hf_tb_good h).1
  have hKn : ∀ c : Nat, ∃ (q : ClassId × (Nat → Nat)), c < 13 → u_Kn s (hf_cl c).1 (hf_cl c).2.1 (hf_cl c).2.2 q.1 q.2 := by
    intro c
    by_cases hc : c < 13
    · obtain ⟨cC, iS, h⟩ := u_known hts' (hf_cl_in c hc) (hts' _ (hf_inst c hc))
      exact ⟨(cC, iS), fun _ => h⟩
    · exact ⟨(0, fun _ => 0), fun h => absurd h hc⟩
  obtain ⟨a0, ha0⟩ := hf_arr (hts' _ hw70) (Or.inl rfl)
  obtain ⟨a1, ha1⟩ := hf_arr (hts' _ hw71) (Or.inr (Or.inl rfl))
  obtain ⟨a2, ha2⟩ := hf_arr (hts' _ hw1138) (Or.inr (Or.inr (Or.inl rfl)))
  obtain ⟨a3, ha3⟩ := hf_arr (hts' _ hw322) (Or.inr (Or.inr (Or.inr rfl)))
  have hoD : (Cond.arrayOver (.object RX1)).before #[Value.ref b] s = true := hts _ (hf_u1 216 rfl)
  have hoT : (Cond.arrayOver (.object RX9)).before #[Value.ref b] s = true := hts _ (hf_u1 80 rfl)
  obtain ⟨a4, ha4⟩ := hf_arrO hoD
  obtain ⟨a5, ha5⟩ := hf_arrO hoT
  obtain ⟨dA, hdA⟩ : ∃ dA : Nat → ClassId, hf_tys dA = [(a0, .int), (a1, .byte), (a2, .boolean), (a3, .long), (a4, .object RX1), (a5, .object RX9)] :=
    ⟨fun k => if k = 100 then a0 else if k = 101 then a1 else if k = 102 then a2 else if k = 103 then a3 else if k = 104 then a4 else a5, rfl⟩
  have hK : va_K (fun c => (Classical.choose (hKn c)).1, fun c => (Classical.choose (hKn c)).2) vwCl (hf_tys dA) s := by
    refine ⟨fun c q hq => ?_, fun k q hk => ?_⟩
    · have hc : c < 13 := (List.getElem?_eq_some_iff.mp hq).1
      have := Classical.choose_spec (hKn c) hc
      have e := (hf_cl_ok c hc).1.symm.trans hq
      cases e
      exact this
    · rw [hdA] at hk
      match k, hk with
      | 0, hk => cases hk; exact ha0
      | 1, hk => cases hk; exact ha1
      | 2, hk => cases hk; exact ha2
      | 3, hk => cases hk; exact ha3
      | 4, hk => cases hk; exact ha4
      | 5, hk => cases hk; exact ha5
      | k + 6, hk => simp at hk
  have hw : hf_w s.heap.size (fun _ => b) (fun c => (Classical.choose (hKn c)).1, fun c => (Classical.choose (hKn c)).2) dA L xs s := ⟨hK, Nat.le_refl _, hbl, hX, hf_nests_ok hts, va_AO.of hoD, va_AO.of hoT⟩
  have hl := lv_entry (([Value.ref 0] : List Value).map (hf_v s.heap.size (fun _ => b))) (n := 4) (Nat.le_of_ble_eq_true rfl)
  have hW := hG (L, xs) hL s.heap.size (fun _ => b) _ dA p l e s m #[Value.ref b] below meth c s.heap [] 0 0 600000 7302250 _ ⟨hx, hb, hr, hml, hown, hts', hlocks, fun h => absurd h (by decide +kernel), hw⟩ (by omega) (by omega) ⟨rfl, fun k q hk => by simp [hf_ws] at hk⟩ va_S.rf (hf_en_ls hl)
  rw [lg_entry_eq]
  intro T hT X
  have hroom : s.hasRoom e.platform (hf_R 1400 600000 7302250) = true := by
    have h := X.room
    simp only [State.hasRoom, room_1, hf_R, Bool.and_eq_true, decide_eq_true_eq] at h ⊢
    obtain ⟨⟨⟨⟨h1, h2⟩, h3⟩, h4⟩, h5⟩ := h
    refine ⟨⟨⟨⟨?_, ?_⟩, h3⟩, h4⟩, h5⟩
    · exact h1
    · replace h2 := of_decide_eq_true h2
      refine decide_eq_true ?_
      exact ⟨Nat.le_trans (by show _ + 1400 ≤ _ + 2048; omega) h2.1, Nat.le_trans (by show _ + 1400 ≤ _ + 2048; omega) h2.2.1, h2.2.2⟩
  have X' : Stand p l e (hf_R 1400 600000 7302250) s m #[Value.ref b] below meth c T [] 0 0 := { X with room := hroom }
  obtain ⟨t, steps, o, hrun, hend, ⟨⟨r, M, ho, hr1, -⟩, -⟩, L', hFE, hL'⟩ := hW T hT X'
  refine ⟨t, steps, o, hrun, hend, ?_, hFE.1, hFE.2.1, hFE.2.2.weaken (fun x hx hlt => absurd (hL' x hx) (Nat.not_le.mpr hlt)) (Nat.le_refl _) (Nat.le_refl _)⟩
  rw [ho, hr1]
  rfl
