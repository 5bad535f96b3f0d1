/-! THE CLAIM OUT OF ONE WALK OF THE LAW'S BODY. Your part is whole_start (and what it stands on); all else here is the same for every law, but numbers. -/
def R_law : String := "HeadFitsLaw"
def lw_P (b : Addr) (xs : List Int32) (args : Array Value) (s : State) : Prop := args = #[.ref b] ∧ s.IntsAt b xs ∧ xs.length ≤ 3072 ∧ (Jvm.Cond.and given_1 narrow_1).before args s = true
def lw_Q (_ : Array Value) (s : State) (o : Outcome) (t : State) : Prop := o = .returned (some (.int 1)) ∧ Framed s o t [] 600000 7302250
def lw_Z (below : List Frame) (a : Array Value) (s : State) : State → Prop := fun t => ∃ o, t.status = .running ∧ Ended t below o ∧ lw_Q a s o t
/-- the law's own end, with 1 on the stack, nothing written that was there before, its room as the claim has it -/
theorem lw_ret {p : Program} {l : Launch} {e : Env} {s : State} {m : MethodId} {below : List Frame} {meth : Method} {c : Code} {b : Nat} (hx : p.tables.exec = Jvm.exec) (hb : c.code = code) (hr : meth.sig.returnType = ret) (hlocks : meth.locks = false) {pc : Nat} {H : Heap} {ls : Array Slot} (hdg : decode code pc = .ok (.ireturn, 1)) : W p l e room_1 s m #[Value.ref b] below meth c H [] 600000 7302250 (lw_Z below #[Value.ref b] s) (F0 m pc ls [.int 1]) := by
  intro T hT X
  obtain ⟨fs, hret, hrun, hended, hW, hframe⟩ := X.leave (v := some (.int 1)) (hlocks := hlocks) (fun h => by rw [hr] at h; cases h)
  have hmeth' : T.vm.method? m = some meth := X.method'
  refine ⟨T.setFrames fs, ?_, .returned (some (.int 1)), hrun, hended, rfl, ⟨_, rfl⟩, hW, hframe⟩
  jvm_step X.here [X.here.top, hx, hb, hdg, hmeth', hr, ret, narrow_b1]
  (try refine ⟨rfl, ?_⟩); (try refine ⟨rfl, ?_⟩)
  first | (intro acts; rw [hret _ acts rfl rfl rfl]) | rw [hret _ _ rfl rfl rfl]
  exact Steps.refl _
/-- what holds at the law's entry: the machine, the code, the tables' words (any of lw_tbl by 'hts w (by decide +kernel)'), the script of L ints xs at the cell b, what the Statement gives of the start (any of its parts by flat_of_before) -/
def lw_At (p : Program) (s : State) (m : MethodId) (meth : Method) (c : Code) (b L : Nat) (xs : Nat → Int32) : Prop :=
  p.tables.exec = Jvm.exec ∧ c.code = code ∧ meth.sig.returnType = ret ∧ c.maxLocals = 4 ∧ s.vm.findClass R_law = some m.cls ∧ (∀ w ∈ lw_tbl, w.before #[Value.ref b] s = true) ∧ va_X b L xs s s.heap ∧ b < s.heap.size ∧ meth.locks = false ∧ (Jvm.Cond.and given_1 narrow_1).before #[Value.ref b] s = true

theorem hf_u1 {w : Cond} (i : Nat) (h0 : tables_1_1[i]? = some w) : w ∈ lw_tbl := by
  have h : w ∈ tables_1_1 := List.mem_of_getElem? h0
  exact List.mem_append_right _ (show w ∈ tables_1 from List.mem_append_left _ h)
theorem hf_u2 {w : Cond} (i : Nat) (h0 : tables_1_2[i]? = some w) : w ∈ lw_tbl := by
  have h : w ∈ tables_1_2 := List.mem_of_getElem? h0
  exact List.mem_append_right _ (show w ∈ tables_1 from List.mem_append_right _ (List.mem_append_left _ h))
theorem hf_u3 {w : Cond} (i : Nat) (h0 : tables_1_3[i]? = some w) : w ∈ lw_tbl := by
  have h : w ∈ tables_1_3 := List.mem_of_getElem? h0
  exact List.mem_append_right _ (show w ∈ tables_1 from List.mem_append_right _ (List.mem_append_right _ (List.mem_append_left _ h)))
theorem hf_u4 {w : Cond} (i : Nat) (h0 : tables_1_4[i]? = some w) : w ∈ lw_tbl := by
  have h : w ∈ tables_1_4 := List.mem_of_getElem? h0
  exact List.mem_append_right _ (show w ∈ tables_1 from List.mem_append_right _ (List.mem_append_right _ (List.mem_append_right _ (List.mem_append_left _ h))))
theorem hf_u5 {w : Cond} (i : Nat) (h0 : tables_1_5[i]? = some w) : w ∈ lw_tbl := by
  have h : w ∈ tables_1_5 := List.mem_of_getElem? h0
  exact List.mem_append_right _ (show w ∈ tables_1 from List.mem_append_right _ (List.mem_append_right _ (List.mem_append_right _ (List.mem_append_right _ (List.mem_append_left _ h)))))
theorem hf_u6 {w : Cond} (i : Nat) (h0 : tables_1_6[i]? = some w) : w ∈ lw_tbl := by
  have h : w ∈ tables_1_6 := List.mem_of_getElem? h0
  exact List.mem_append_right _ (show w ∈ tables_1 from List.mem_append_right _ (List.mem_append_right _ (List.mem_append_right _ (List.mem_append_right _ (List.mem_append_right _ (List.mem_append_left _ h))))))
theorem hf_u7 {w : Cond} (i : Nat) (h0 : tables_1_7[i]? = some w) : w ∈ lw_tbl := by
  have h : w ∈ tables_1_7 := List.mem_of_getElem? h0
  exact List.mem_append_right _ (show w ∈ tables_1 from List.mem_append_right _ (List.mem_append_right _ (List.mem_append_right _ (List.mem_append_right _ (List.mem_append_right _ (List.mem_append_right _ (List.mem_append_left _ h)))))))
theorem hf_u8 {w : Cond} (i : Nat) (h0 : tables_1_8[i]? = some w) : w ∈ lw_tbl := by
  have h : w ∈ tables_1_8 := List.mem_of_getElem? h0
  exact List.mem_append_right _ (show w ∈ tables_1 from List.mem_append_right _ (List.mem_append_right _ (List.mem_append_right _ (List.mem_append_right _ (List.mem_append_right _ (List.mem_append_right _ (List.mem_append_right _ (h))))))))
theorem hf_nests_ok {A : Array Value} {s : State} (hts : ∀ w ∈ lw_tbl, w.before A s = true) : ∀ q ∈ hf_nests, va_Nw (.methodLinkNest q.1 q.2.1 q.2.2.1 q.2.2.2) s := List.forall_mem_cons.mpr ⟨va_Nw.of rfl (hts _ (hf_u1 38 rfl)), List.forall_mem_cons.mpr ⟨va_Nw.of rfl (hts _ (hf_u1 83 rfl)), List.forall_mem_cons.mpr ⟨va_Nw.of rfl (hts _ (hf_u1 219 rfl)), List.forall_mem_cons.mpr ⟨va_Nw.of rfl (hts _ (hf_u2 64 rfl)), List.forall_mem_cons.mpr ⟨va_Nw.of rfl (hts _ (hf_u2 170 rfl)), List.forall_mem_cons.mpr ⟨va_Nw.of rfl (hts _ (hf_u2 195 rfl)), List.forall_mem_cons.mpr ⟨va_Nw.of rfl (hts _ (hf_u2 210 rfl)), List.forall_mem_cons.mpr ⟨va_Nw.of rfl (hts _ (hf_u2 226 rfl)), List.forall_mem_cons.mpr ⟨va_Nw.of rfl (hts _ (hf_u5 36 rfl)), List.forall_mem_cons.mpr ⟨va_Nw.of rfl (hts _ (hf_u5 43 rfl)), List.forall_mem_cons.mpr ⟨va_Nw.of rfl (hts _ (hf_u5 46 rfl)), List.forall_mem_cons.mpr ⟨va_Nw.of rfl (hts _ (hf_u5 77 rfl)), List.forall_mem_cons.mpr ⟨va_Nw.of rfl (hts _ (hf_u5 80 rfl)), fun _ h => absurd h List.not_mem_nil⟩⟩⟩⟩⟩⟩⟩⟩⟩⟩⟩⟩⟩
theorem hf_inst : ∀ c, c < 13 → Cond.instantiable (hf_cl c).1 (hf_cl c).2.2 ∈ hf_tb := by
  intro c hc
  match c, hc with
  | 0, _ => exact hw342
  | 1, _ => exact hw32
  | 2, _ => exact hw324
  | 3, _ => exact hw74
  | 4, _ => exact hw262
  | 5, _ => exact hw182
  | 6, _ => exact hw353
  | 7, _ => exact hw247
  | 8, _ => exact hw272
  | 9, _ => exact hw187
  | 10, _ => exact hw38
  | 11, _ => exact hw24
  | 12, _ => exact hw1031
theorem hf_arr {A : Array Value} {s : State} {ty : FieldType} (h : (Cond.arrayClass ty).before A s = true) (hty : ty = .int ∨ ty = .byte ∨ ty = .boolean ∨ ty = .long) : ∃ cA, ArrOfT s cA ty ∧ va_RA s cA ty := by
  obtain ⟨cA, kA, comp, h1, h2, h3⟩ := Cond.arrayClass_spec h
  refine ⟨cA, fun n z => ⟨fun k h => (by cases h), kA, h2, comp, h3⟩, ?_⟩
  rcases hty with rfl | rfl | rfl | rfl <;> exact h1
theorem hf_arrO {A : Array Value} {s : State} {C : String} (h : (Cond.arrayOver (.object C)).before A s = true) : ∃ cA, ArrOfT s cA (.object C) ∧ va_RA s cA (.object C) := by
  obtain ⟨comp, cA, kA, h1, -, h2, h3, h4⟩ := Cond.arrayOver_spec h
  exact ⟨cA, fun n z => ⟨fun k h => (by cases h), kA, h2, comp, h3⟩, kA, comp, h2, h3, h1, h4⟩
def hf_tm (i : Nat) : Term := .string RX5 ((hf_strs.getD i (0, "")).1)
def hf_fl0 : List Cond := flatC (Jvm.Cond.and given_1 narrow_1)
theorem hf_sq1 : ∀ i, i < 12 → Cond.exactly (hf_tm i) "java/lang/String" ∈ hf_fl0 := by decide +kernel
theorem hf_sq2 : ∀ i, i < 12 → Cond.eq (.field (hf_tm i) "java/lang/String" "coder" "B") (.int 0) ∈ hf_fl0 := by decide +kernel
theorem hf_sq3 : ∀ i, i < 12 → Cond.arrayOf (.field (hf_tm i) "java/lang/String" "value" "[B") .byte ∈ hf_fl0 := by decide +kernel
theorem hf_sq4 : ∀ i, i < 12 → Cond.eq (.length (.field (hf_tm i) "java/lang/String" "value" "[B")) (.int (Int32.ofNat (hf_sln.getD i 0))) ∈ hf_fl0 := by decide +kernel
theorem hf_sq5_0 : ∀ j, j < 16 → Cond.eq (.elem (.field (hf_tm 0) "java/lang/String" "value" "[B") (.int (Int32.ofNat j))) (.int ((hf_sby.getD 0 []).getD j 0)) ∈ hf_fl0 := by
  intro j hj
  match j, hj with
  | 0, _ => exact List.mem_of_getElem? (i := 39) (by decide +kernel)
  | 1, _ => exact List.mem_of_getElem? (i := 40) (by decide +kernel)
  | 2, _ => exact List.mem_of_getElem? (i := 41) (by decide +kernel)
  | 3, _ => exact List.mem_of_getElem? (i := 42) (by decide +kernel)
  | 4, _ => exact List.mem_of_getElem? (i := 43) (by decide +kernel)
  | 5, _ => exact List.mem_of_getElem? (i := 44) (by decide +kernel)
  | 6, _ => exact List.mem_of_getElem? (i := 45) (by decide +kernel)
  | 7, _ => exact List.mem_of_getElem? (i := 46) (by decide +kernel)
  | 8, _ => exact List.mem_of_getElem? (i := 47) (by decide +kernel)
  | 9, _ => exact List.mem_of_getElem? (i := 48) (by decide +kernel)
  | 10, _ => exact List.mem_of_getElem? (i := 49) (by decide +kernel)
  | 11, _ => exact List.mem_of_getElem? (i := 50) (by decide +kernel)
  | 12, _ => exact List.mem_of_getElem? (i := 51) (by decide +kernel)
  | 13, _ => exact List.mem_of_getElem? (i := 52) (by decide +kernel)
  | 14, _ => exact List.mem_of_getElem? (i := 53) (by decide +kernel)
  | 15, _ => exact List.mem_of_getElem? (i := 54) (by decide +kernel)
  | j + 16, hj => exact absurd hj (by omega)
theorem hf_sq5_1 : ∀ j, j < 19 → Cond.eq (.elem (.field (hf_tm 1) "java/lang/String" "value" "[B") (.int (Int32.ofNat j))) (.int ((hf_sby.getD 1 []).getD j 0)) ∈ hf_fl0 := by
  intro j hj
  match j, hj with
  | 0, _ => exact List.mem_of_getElem? (i := 59) (by decide +kernel)
  | 1, _ => exact List.mem_of_getElem? (i := 60) (by decide +kernel)
  | 2, _ => exact List.mem_of_getElem? (i := 61) (by decide +kernel)
  | 3, _ => exact List.mem_of_getElem? (i := 62) (by decide +kernel)
  | 4, _ => exact List.mem_of_getElem? (i := 63) (by decide +kernel)
  | 5, _ => exact List.mem_of_getElem? (i := 64) (by decide +kernel)
  | 6, _ => exact List.mem_of_getElem? (i := 65) (by decide +kernel)
  | 7, _ => exact List.mem_of_getElem? (i := 66) (by decide +kernel)
  | 8, _ => exact List.mem_of_getElem? (i := 67) (by decide +kernel)
  | 9, _ => exact List.mem_of_getElem? (i := 68) (by decide +kernel)
  | 10, _ => exact List.mem_of_getElem? (i := 69) (by decide +kernel)
  | 11, _ => exact List.mem_of_getElem? (i := 70) (by decide +kernel)
  | 12, _ => exact List.mem_of_getElem? (i := 71) (by decide +kernel)
  | 13, _ => exact List.mem_of_getElem? (i := 72) (by decide +kernel)
  | 14, _ => exact List.mem_of_getElem? (i := 73) (by decide +kernel)
  | 15, _ => exact List.mem_of_getElem? (i := 74) (by decide +kernel)
  | 16, _ => exact List.mem_of_getElem? (i := 75) (by decide +kernel)
  | 17, _ => exact List.mem_of_getElem? (i := 76) (by decide +kernel)
  | 18, _ => exact List.mem_of_getElem? (i := 77) (by decide +kernel)
  | j + 19, hj => exact absurd hj (by omega)
theorem hf_sq5_2 : ∀ j, j < 5 → Cond.eq (.elem (.field (hf_tm 2) "java/lang/String" "value" "[B") (.int (Int32.ofNat j))) (.int ((hf_sby.getD 2 []).getD j 0)) ∈ hf_fl0 := by
  intro j hj
  match j, hj with
  | 0, _ => exact List.mem_of_getElem? (i := 224) (by decide +kernel)
  | 1, _ => exact List.mem_of_getElem? (i := 225) (by decide +kernel)
  | 2, _ => exact List.mem_of_getElem? (i := 226) (by decide +kernel)
  | 3, _ => exact List.mem_of_getElem? (i := 227) (by decide +kernel)
  | 4, _ => exact List.mem_of_getElem? (i := 228) (by decide +kernel)
  | j + 5, hj => exact absurd hj (by omega)
theorem hf_sq5_3 : ∀ j, j < 2 → Cond.eq (.elem (.field (hf_tm 3) "java/lang/String" "value" "[B") (.int (Int32.ofNat j))) (.int ((hf_sby.getD 3 []).getD j 0)) ∈ hf_fl0 := by
  intro j hj
  match j, hj with
  | 0, _ => exact List.mem_of_getElem? (i := 239) (by decide +kernel)
  | 1, _ => exact List.mem_of_getElem? (i := 240) (by decide +kernel)
  | j + 2, hj => exact absurd hj (by omega)
theorem hf_sq5_4 : ∀ j, j < 2 → Cond.eq (.elem (.field (hf_tm 4) "java/lang/String" "value" "[B") (.int (Int32.ofNat j))) (.int ((hf_sby.getD 4 []).getD j 0)) ∈ hf_fl0 := by
  intro j hj
  match j, hj with
  | 0, _ => exact List.mem_of_getElem? (i := 300) (by decide +kernel)
  | 1, _ => exact List.mem_of_getElem? (i := 301) (by decide +kernel)
  | j + 2, hj => exact absurd hj (by omega)
theorem hf_sq5_5 : ∀ j, j < 3 → Cond.eq (.elem (.field (hf_tm 5) "java/lang/String" "value" "[B") (.int (Int32.ofNat j))) (.int ((hf_sby.getD 5 []).getD j 0)) ∈ hf_fl0 := by
  intro j hj
  match j, hj with
  | 0, _ => exact List.mem_of_getElem? (i := 283) (by decide +kernel)
  | 1, _ => exact List.mem_of_getElem? (i := 284) (by decide +kernel)
  | 2, _ => exact List.mem_of_getElem? (i := 285) (by decide +kernel)
  | j + 3, hj => exact absurd hj (by omega)
theorem hf_sq5_6 : ∀ j, j < 3 → Cond.eq (.elem (.field (hf_tm 6) "java/lang/String" "value" "[B") (.int (Int32.ofNat j))) (.int ((hf_sby.getD 6 []).getD j 0)) ∈ hf_fl0 := by
  intro j hj
  match j, hj with
  | 0, _ => exact List.mem_of_getElem? (i := 252) (by decide +kernel)
  | 1, _ => exact List.mem_of_getElem? (i := 253) (by decide +kernel)
  | 2, _ => exact List.mem_of_getElem? (i := 254) (by decide +kernel)
  | j + 3, hj => exact absurd hj (by omega)
theorem hf_sq5_7 : ∀ j, j < 3 → Cond.eq (.elem (.field (hf_tm 7) "java/lang/String" "value" "[B") (.int (Int32.ofNat j))) (.int ((hf_sby.getD 7 []).getD j 0)) ∈ hf_fl0 := by
  intro j hj
  match j, hj with
  | 0, _ => exact List.mem_of_getElem? (i := 267) (by decide +kernel)
  | 1, _ => exact List.mem_of_getElem? (i := 268) (by decide +kernel)
  | 2, _ => exact List.mem_of_getElem? (i := 269) (by decide +kernel)
  | j + 3, hj => exact absurd hj (by omega)
theorem hf_sq5_8 : ∀ j, j < 2 → Cond.eq (.elem (.field (hf_tm 8) "java/lang/String" "value" "[B") (.int (Int32.ofNat j))) (.int ((hf_sby.getD 8 []).getD j 0)) ∈ hf_fl0 := by
  intro j hj
  match j, hj with
  | 0, _ => exact List.mem_of_getElem? (i := 213) (by decide +kernel)
  | 1, _ => exact List.mem_of_getElem? (i := 214) (by decide +kernel)
  | j + 2, hj => exact absurd hj (by omega)
theorem hf_sq5_9 : ∀ j, j < 3 → Cond.eq (.elem (.field (hf_tm 9) "java/lang/String" "value" "[B") (.int (Int32.ofNat j))) (.int ((hf_sby.getD 9 []).getD j 0)) ∈ hf_fl0 := by
  intro j hj
  match j, hj with
  | 0, _ => exact List.mem_of_getElem? (i := 202) (by decide +kernel)
  | 1, _ => exact List.mem_of_getElem? (i := 203) (by decide +kernel)
  | 2, _ => exact List.mem_of_getElem? (i := 204) (by decide +kernel)
  | j + 3, hj => exact absurd hj (by omega)
theorem hf_sq5_10 : ∀ j, j < 69 → Cond.eq (.elem (.field (hf_tm 10) "java/lang/String" "value" "[B") (.int (Int32.ofNat j))) (.int ((hf_sby.getD 10 []).getD j 0)) ∈ hf_fl0 := by
  intro j hj
  match j, hj with
  | 0, _ => exact List.mem_of_getElem? (i := 83) (by decide +kernel)
  | 1, _ => exact List.mem_of_getElem? (i := 84) (by decide +kernel)
  | 2, _ => exact List.mem_of_getElem? (i := 85) (by decide +kernel)
  | 3, _ => exact List.mem_of_getElem? (i := 86) (by decide +kernel)
  | 4, _ => exact List.mem_of_getElem? (i := 87) (by decide +kernel)
  | 5, _ => exact List.mem_of_getElem? (i := 88) (by decide +kernel)
  | 6, _ => exact List.mem_of_getElem? (i := 89) (by decide +kernel)
  | 7, _ => exact List.mem_of_getElem? (i := 90) (by decide +kernel)
  | 8, _ => exact List.mem_of_getElem? (i := 91) (by decide +kernel)
  | 9, _ => exact List.mem_of_getElem? (i := 92) (by decide +kernel)
  | 10, _ => exact List.mem_of_getElem? (i := 93) (by decide +kernel)
  | 11, _ => exact List.mem_of_getElem? (i := 94) (by decide +kernel)
  | 12, _ => exact List.mem_of_getElem? (i := 95) (by decide +kernel)
  | 13, _ => exact List.mem_of_getElem? (i := 96) (by decide +kernel)
  | 14, _ => exact List.mem_of_getElem? (i := 97) (by decide +kernel)
  | 15, _ => exact List.mem_of_getElem? (i := 98) (by decide +kernel)
  | 16, _ => exact List.mem_of_getElem? (i := 99) (by decide +kernel)
  | 17, _ => exact List.mem_of_getElem? (i := 100) (by decide +kernel)
  | 18, _ => exact List.mem_of_getElem? (i := 101) (by decide +kernel)
  | 19, _ => exact List.mem_of_getElem? (i := 102) (by decide +kernel)
  | 20, _ => exact List.mem_of_getElem? (i := 103) (by decide +kernel)
  | 21, _ => exact List.mem_of_getElem? (i := 104) (by decide +kernel)
  | 22, _ => exact List.mem_of_getElem? (i := 105) (by decide +kernel)
  | 23, _ => exact List.mem_of_getElem? (i := 106) (by decide +kernel)
  | 24, _ => exact List.mem_of_getElem? (i := 107) (by decide +kernel)
  | 25, _ => exact List.mem_of_getElem? (i := 108) (by decide +kernel)
  | 26, _ => exact List.mem_of_getElem? (i := 109) (by decide +kernel)
  | 27, _ => exact List.mem_of_getElem? (i := 110) (by decide +kernel)
  | 28, _ => exact List.mem_of_getElem? (i := 111) (by decide +kernel)
  | 29, _ => exact List.mem_of_getElem? (i := 112) (by decide +kernel)
  | 30, _ => exact List.mem_of_getElem? (i := 113) (by decide +kernel)
  | 31, _ => exact List.mem_of_getElem? (i := 114) (by decide +kernel)
  | 32, _ => exact List.mem_of_getElem? (i := 115) (by decide +kernel)
  | 33, _ => exact List.mem_of_getElem? (i := 116) (by decide +kernel)
  | 34, _ => exact List.mem_of_getElem? (i := 117) (by decide +kernel)
  | 35, _ => exact List.mem_of_getElem? (i := 118) (by decide +kernel)
  | 36, _ => exact List.mem_of_getElem? (i := 119) (by decide +kernel)
  | 37, _ => exact List.mem_of_getElem? (i := 120) (by decide +kernel)
  | 38, _ => exact List.mem_of_getElem? (i := 121) (by decide +kernel)
  | 39, _ => exact List.mem_of_getElem? (i := 122) (by decide +kernel)
  | 40, _ => exact List.mem_of_getElem? (i := 123) (by decide +kernel)
  | 41, _ => exact List.mem_of_getElem? (i := 124) (by decide +kernel)
  | 42, _ => exact List.mem_of_getElem? (i := 125) (by decide +kernel)
  | 43, _ => exact List.mem_of_getElem? (i := 126) (by decide +kernel)
  | 44, _ => exact List.mem_of_getElem? (i := 127) (by decide +kernel)
  | 45, _ => exact List.mem_of_getElem? (i := 128) (by decide +kernel)
  | 46, _ => exact List.mem_of_getElem? (i := 129) (by decide +kernel)
  | 47, _ => exact List.mem_of_getElem? (i := 130) (by decide +kernel)
  | 48, _ => exact List.mem_of_getElem? (i := 131) (by decide +kernel)
  | 49, _ => exact List.mem_of_getElem? (i := 132) (by decide +kernel)
  | 50, _ => exact List.mem_of_getElem? (i := 133) (by decide +kernel)
  | 51, _ => exact List.mem_of_getElem? (i := 134) (by decide +kernel)
  | 52, _ => exact List.mem_of_getElem? (i := 135) (by decide +kernel)
  | 53, _ => exact List.mem_of_getElem? (i := 136) (by decide +kernel)
  | 54, _ => exact List.mem_of_getElem? (i := 137) (by decide +kernel)
  | 55, _ => exact List.mem_of_getElem? (i := 138) (by decide +kernel)
  | 56, _ => exact List.mem_of_getElem? (i := 139) (by decide +kernel)
  | 57, _ => exact List.mem_of_getElem? (i := 140) (by decide +kernel)
  | 58, _ => exact List.mem_of_getElem? (i := 141) (by decide +kernel)
  | 59, _ => exact List.mem_of_getElem? (i := 142) (by decide +kernel)
  | 60, _ => exact List.mem_of_getElem? (i := 143) (by decide +kernel)
  | 61, _ => exact List.mem_of_getElem? (i := 144) (by decide +kernel)
  | 62, _ => exact List.mem_of_getElem? (i := 145) (by decide +kernel)
  | 63, _ => exact List.mem_of_getElem? (i := 146) (by decide +kernel)
  | 64, _ => exact List.mem_of_getElem? (i := 147) (by decide +kernel)
  | 65, _ => exact List.mem_of_getElem? (i := 148) (by decide +kernel)
  | 66, _ => exact List.mem_of_getElem? (i := 149) (by decide +kernel)
  | 67, _ => exact List.mem_of_getElem? (i := 150) (by decide +kernel)
  | 68, _ => exact List.mem_of_getElem? (i := 151) (by decide +kernel)
  | j + 69, hj => exact absurd hj (by omega)
theorem hf_sq5_11 : ∀ j, j < 37 → Cond.eq (.elem (.field (hf_tm 11) "java/lang/String" "value" "[B") (.int (Int32.ofNat j))) (.int ((hf_sby.getD 11 []).getD j 0)) ∈ hf_fl0 := by
  intro j hj
  match j, hj with
  | 0, _ => exact List.mem_of_getElem? (i := 158) (by decide +kernel)
  | 1, _ => exact List.mem_of_getElem? (i := 159) (by decide +kernel)
  | 2, _ => exact List.mem_of_getElem? (i := 160) (by decide +kernel)
  | 3, _ => exact List.mem_of_getElem? (i := 161) (by decide +kernel)
  | 4, _ => exact List.mem_of_getElem? (i := 162) (by decide +kernel)
  | 5, _ => exact List.mem_of_getElem? (i := 163) (by decide +kernel)
  | 6, _ => exact List.mem_of_getElem? (i := 164) (by decide +kernel)
  | 7, _ => exact List.mem_of_getElem? (i := 165) (by decide +kernel)
  | 8, _ => exact List.mem_of_getElem? (i := 166) (by decide +kernel)
  | 9, _ => exact List.mem_of_getElem? (i := 167) (by decide +kernel)
  | 10, _ => exact List.mem_of_getElem? (i := 168) (by decide +kernel)
  | 11, _ => exact List.mem_of_getElem? (i := 169) (by decide +kernel)
  | 12, _ => exact List.mem_of_getElem? (i := 170) (by decide +kernel)
  | 13, _ => exact List.mem_of_getElem? (i := 171) (by decide +kernel)
  | 14, _ => exact List.mem_of_getElem? (i := 172) (by decide +kernel)
  | 15, _ => exact List.mem_of_getElem? (i := 173) (by decide +kernel)
  | 16, _ => exact List.mem_of_getElem? (i := 174) (by decide +kernel)
  | 17, _ => exact List.mem_of_getElem? (i := 175) (by decide +kernel)
  | 18, _ => exact List.mem_of_getElem? (i := 176) (by decide +kernel)
  | 19, _ => exact List.mem_of_getElem? (i := 177) (by decide +kernel)
  | 20, _ => exact List.mem_of_getElem? (i := 178) (by decide +kernel)
  | 21, _ => exact List.mem_of_getElem? (i := 179) (by decide +kernel)
  | 22, _ => exact List.mem_of_getElem? (i := 180) (by decide +kernel)
  | 23, _ => exact List.mem_of_getElem? (i := 181) (by decide +kernel)
  | 24, _ => exact List.mem_of_getElem? (i := 182) (by decide +kernel)
  | 25, _ => exact List.mem_of_getElem? (i := 183) (by decide +kernel)
  | 26, _ => exact List.mem_of_getElem? (i := 184) (by decide +kernel)
  | 27, _ => exact List.mem_of_getElem? (i := 185) (by decide +kernel)
  | 28, _ => exact List.mem_of_getElem? (i := 186) (by decide +kernel)
  | 29, _ => exact List.mem_of_getElem? (i := 187) (by decide +kernel)
  | 30, _ => exact List.mem_of_getElem? (i := 188) (by decide +kernel)
  | 31, _ => exact List.mem_of_getElem? (i := 189) (by decide +kernel)
  | 32, _ => exact List.mem_of_getElem? (i := 190) (by decide +kernel)
  | 33, _ => exact List.mem_of_getElem? (i := 191) (by decide +kernel)
  | 34, _ => exact List.mem_of_getElem? (i := 192) (by decide +kernel)
  | 35, _ => exact List.mem_of_getElem? (i := 193) (by decide +kernel)
  | 36, _ => exact List.mem_of_getElem? (i := 194) (by decide +kernel)
  | j + 37, hj => exact absurd hj (by omega)
theorem hf_sq5 : ∀ i, i < 12 → ∀ j, j < hf_sln.getD i 0 → Cond.eq (.elem (.field (hf_tm i) "java/lang/String" "value" "[B") (.int (Int32.ofNat j))) (.int ((hf_sby.getD i []).getD j 0)) ∈ hf_fl0 := by
  intro i hi
  match i, hi with
  | 0, _ => exact hf_sq5_0
  | 1, _ => exact hf_sq5_1
  | 2, _ => exact hf_sq5_2
  | 3, _ => exact hf_sq5_3
  | 4, _ => exact hf_sq5_4
  | 5, _ => exact hf_sq5_5
  | 6, _ => exact hf_sq5_6
  | 7, _ => exact hf_sq5_7
  | 8, _ => exact hf_sq5_8
  | 9, _ => exact hf_sq5_9
  | 10, _ => exact hf_sq5_10
  | 11, _ => exact hf_sq5_11
theorem hf_sq6_0 : ∀ j, j < 12 → 0 ≠ j → (Cond.not (Cond.eq (hf_tm 0) (hf_tm j)) ∈ hf_fl0 ∨ Cond.not (Cond.eq (hf_tm j) (hf_tm 0)) ∈ hf_fl0) := by
  intro j hj hij
  match j, hj, hij with
  | 0, _, h => exact absurd rfl h
  | 1, _, _ => exact Or.inl (List.mem_of_getElem? (i := 78) (by decide +kernel))
  | 2, _, _ => exact Or.inl (List.mem_of_getElem? (i := 229) (by decide +kernel))
  | 3, _, _ => exact Or.inl (List.mem_of_getElem? (i := 241) (by decide +kernel))
  | 4, _, _ => exact Or.inl (List.mem_of_getElem? (i := 302) (by decide +kernel))
  | 5, _, _ => exact Or.inl (List.mem_of_getElem? (i := 286) (by decide +kernel))
  | 6, _, _ => exact Or.inl (List.mem_of_getElem? (i := 255) (by decide +kernel))
  | 7, _, _ => exact Or.inl (List.mem_of_getElem? (i := 270) (by decide +kernel))
  | 8, _, _ => exact Or.inl (List.mem_of_getElem? (i := 215) (by decide +kernel))
  | 9, _, _ => exact Or.inl (List.mem_of_getElem? (i := 205) (by decide +kernel))
  | 10, _, _ => exact Or.inl (List.mem_of_getElem? (i := 152) (by decide +kernel))
  | 11, _, _ => exact Or.inl (List.mem_of_getElem? (i := 195) (by decide +kernel))
theorem hf_sq6_1 : ∀ j, j < 12 → 1 ≠ j → (Cond.not (Cond.eq (hf_tm 1) (hf_tm j)) ∈ hf_fl0 ∨ Cond.not (Cond.eq (hf_tm j) (hf_tm 1)) ∈ hf_fl0) := by
  intro j hj hij
  match j, hj, hij with
  | 0, _, _ => exact Or.inr (List.mem_of_getElem? (i := 78) (by decide +kernel))
  | 1, _, h => exact absurd rfl h
  | 2, _, _ => exact Or.inl (List.mem_of_getElem? (i := 230) (by decide +kernel))
  | 3, _, _ => exact Or.inl (List.mem_of_getElem? (i := 242) (by decide +kernel))
  | 4, _, _ => exact Or.inl (List.mem_of_getElem? (i := 303) (by decide +kernel))
  | 5, _, _ => exact Or.inl (List.mem_of_getElem? (i := 287) (by decide +kernel))
  | 6, _, _ => exact Or.inl (List.mem_of_getElem? (i := 256) (by decide +kernel))
  | 7, _, _ => exact Or.inl (List.mem_of_getElem? (i := 271) (by decide +kernel))
  | 8, _, _ => exact Or.inl (List.mem_of_getElem? (i := 216) (by decide +kernel))
  | 9, _, _ => exact Or.inl (List.mem_of_getElem? (i := 206) (by decide +kernel))
  | 10, _, _ => exact Or.inl (List.mem_of_getElem? (i := 153) (by decide +kernel))
  | 11, _, _ => exact Or.inl (List.mem_of_getElem? (i := 196) (by decide +kernel))
theorem hf_sq6_2 : ∀ j, j < 12 → 2 ≠ j → (Cond.not (Cond.eq (hf_tm 2) (hf_tm j)) ∈ hf_fl0 ∨ Cond.not (Cond.eq (hf_tm j) (hf_tm 2)) ∈ hf_fl0) := by
  intro j hj hij
  match j, hj, hij with
  | 0, _, _ => exact Or.inr (List.mem_of_getElem? (i := 229) (by decide +kernel))
  | 1, _, _ => exact Or.inr (List.mem_of_getElem? (i := 230) (by decide +kernel))
  | 2, _, h => exact absurd rfl h
  | 3, _, _ => exact Or.inl (List.mem_of_getElem? (i := 247) (by decide +kernel))
  | 4, _, _ => exact Or.inl (List.mem_of_getElem? (i := 308) (by decide +kernel))
  | 5, _, _ => exact Or.inl (List.mem_of_getElem? (i := 292) (by decide +kernel))
  | 6, _, _ => exact Or.inl (List.mem_of_getElem? (i := 261) (by decide +kernel))
  | 7, _, _ => exact Or.inl (List.mem_of_getElem? (i := 276) (by decide +kernel))
  | 8, _, _ => exact Or.inr (List.mem_of_getElem? (i := 234) (by decide +kernel))
  | 9, _, _ => exact Or.inr (List.mem_of_getElem? (i := 233) (by decide +kernel))
  | 10, _, _ => exact Or.inr (List.mem_of_getElem? (i := 231) (by decide +kernel))
  | 11, _, _ => exact Or.inr (List.mem_of_getElem? (i := 232) (by decide +kernel))
theorem hf_sq6_3 : ∀ j, j < 12 → 3 ≠ j → (Cond.not (Cond.eq (hf_tm 3) (hf_tm j)) ∈ hf_fl0 ∨ Cond.not (Cond.eq (hf_tm j) (hf_tm 3)) ∈ hf_fl0) := by
  intro j hj hij
  match j, hj, hij with
  | 0, _, _ => exact Or.inr (List.mem_of_getElem? (i := 241) (by decide +kernel))
  | 1, _, _ => exact Or.inr (List.mem_of_getElem? (i := 242) (by decide +kernel))
  | 2, _, _ => exact Or.inr (List.mem_of_getElem? (i := 247) (by decide +kernel))
  | 3, _, h => exact absurd rfl h
  | 4, _, _ => exact Or.inl (List.mem_of_getElem? (i := 309) (by decide +kernel))
  | 5, _, _ => exact Or.inl (List.mem_of_getElem? (i := 293) (by decide +kernel))
  | 6, _, _ => exact Or.inl (List.mem_of_getElem? (i := 262) (by decide +kernel))
  | 7, _, _ => exact Or.inl (List.mem_of_getElem? (i := 277) (by decide +kernel))
  | 8, _, _ => exact Or.inr (List.mem_of_getElem? (i := 246) (by decide +kernel))
  | 9, _, _ => exact Or.inr (List.mem_of_getElem? (i := 245) (by decide +kernel))
  | 10, _, _ => exact Or.inr (List.mem_of_getElem? (i := 243) (by decide +kernel))
  | 11, _, _ => exact Or.inr (List.mem_of_getElem? (i := 244) (by decide +kernel))
theorem hf_sq6_4 : ∀ j, j < 12 → 4 ≠ j → (Cond.not (Cond.eq (hf_tm 4) (hf_tm j)) ∈ hf_fl0 ∨ Cond.not (Cond.eq (hf_tm j) (hf_tm 4)) ∈ hf_fl0) := by
  intro j hj hij
  match j, hj, hij with
  | 0, _, _ => exact Or.inr (List.mem_of_getElem? (i := 302) (by decide +kernel))
  | 1, _, _ => exact Or.inr (List.mem_of_getElem? (i := 303) (by decide +kernel))
  | 2, _, _ => exact Or.inr (List.mem_of_getElem? (i := 308) (by decide +kernel))
  | 3, _, _ => exact Or.inr (List.mem_of_getElem? (i := 309) (by decide +kernel))
  | 4, _, h => exact absurd rfl h
  | 5, _, _ => exact Or.inr (List.mem_of_getElem? (i := 312) (by decide +kernel))
  | 6, _, _ => exact Or.inr (List.mem_of_getElem? (i := 310) (by decide +kernel))
  | 7, _, _ => exact Or.inr (List.mem_of_getElem? (i := 311) (by decide +kernel))
  | 8, _, _ => exact Or.inr (List.mem_of_getElem? (i := 307) (by decide +kernel))
  | 9, _, _ => exact Or.inr (List.mem_of_getElem? (i := 306) (by decide +kernel))
  | 10, _, _ => exact Or.inr (List.mem_of_getElem? (i := 304) (by decide +kernel))
  | 11, _, _ => exact Or.inr (List.mem_of_getElem? (i := 305) (by decide +kernel))
theorem hf_sq6_5 : ∀ j, j < 12 → 5 ≠ j → (Cond.not (Cond.eq (hf_tm 5) (hf_tm j)) ∈ hf_fl0 ∨ Cond.not (Cond.eq (hf_tm j) (hf_tm 5)) ∈ hf_fl0) := by
  intro j hj hij
  match j, hj, hij with
  | 0, _, _ => exact Or.inr (List.mem_of_getElem? (i := 286) (by decide +kernel))
  | 1, _, _ => exact Or.inr (List.mem_of_getElem? (i := 287) (by decide +kernel))
  | 2, _, _ => exact Or.inr (List.mem_of_getElem? (i := 292) (by decide +kernel))
  | 3, _, _ => exact Or.inr (List.mem_of_getElem? (i := 293) (by decide +kernel))
  | 4, _, _ => exact Or.inl (List.mem_of_getElem? (i := 312) (by decide +kernel))
  | 5, _, h => exact absurd rfl h
  | 6, _, _ => exact Or.inr (List.mem_of_getElem? (i := 294) (by decide +kernel))
  | 7, _, _ => exact Or.inr (List.mem_of_getElem? (i := 295) (by decide +kernel))
  | 8, _, _ => exact Or.inr (List.mem_of_getElem? (i := 291) (by decide +kernel))
  | 9, _, _ => exact Or.inr (List.mem_of_getElem? (i := 290) (by decide +kernel))
  | 10, _, _ => exact Or.inr (List.mem_of_getElem? (i := 288) (by decide +kernel))
  | 11, _, _ => exact Or.inr (List.mem_of_getElem? (i := 289) (by decide +kernel))
theorem hf_sq6_6 : ∀ j, j < 12 → 6 ≠ j → (Cond.not (Cond.eq (hf_tm 6) (hf_tm j)) ∈ hf_fl0 ∨ Cond.not (Cond.eq (hf_tm j) (hf_tm 6)) ∈ hf_fl0) := by
  intro j hj hij
  match j, hj, hij with
  | 0, _, _ => exact Or.inr (List.mem_of_getElem? (i := 255) (by decide +kernel))
  | 1, _, _ => exact Or.inr (List.mem_of_getElem? (i := 256) (by decide +kernel))
  | 2, _, _ => exact Or.inr (List.mem_of_getElem? (i := 261) (by decide +kernel))
  | 3, _, _ => exact Or.inr (List.mem_of_getElem? (i := 262) (by decide +kernel))
  | 4, _, _ => exact Or.inl (List.mem_of_getElem? (i := 310) (by decide +kernel))
  | 5, _, _ => exact Or.inl (List.mem_of_getElem? (i := 294) (by decide +kernel))
  | 6, _, h => exact absurd rfl h
  | 7, _, _ => exact Or.inl (List.mem_of_getElem? (i := 278) (by decide +kernel))
  | 8, _, _ => exact Or.inr (List.mem_of_getElem? (i := 260) (by decide +kernel))
  | 9, _, _ => exact Or.inr (List.mem_of_getElem? (i := 259) (by decide +kernel))
  | 10, _, _ => exact Or.inr (List.mem_of_getElem? (i := 257) (by decide +kernel))
  | 11, _, _ => exact Or.inr (List.mem_of_getElem? (i := 258) (by decide +kernel))
theorem hf_sq6_7 : ∀ j, j < 12 → 7 ≠ j → (Cond.not (Cond.eq (hf_tm 7) (hf_tm j)) ∈ hf_fl0 ∨ Cond.not (Cond.eq (hf_tm j) (hf_tm 7)) ∈ hf_fl0) := by
  intro j hj hij
  match j, hj, hij with
  | 0, _, _ => exact Or.inr (List.mem_of_getElem? (i := 270) (by decide +kernel))
  | 1, _, _ => exact Or.inr (List.mem_of_getElem? (i := 271) (by decide +kernel))
  | 2, _, _ => exact Or.inr (List.mem_of_getElem? (i := 276) (by decide +kernel))
  | 3, _, _ => exact Or.inr (List.mem_of_getElem? (i := 277) (by decide +kernel))
  | 4, _, _ => exact Or.inl (List.mem_of_getElem? (i := 311) (by decide +kernel))
  | 5, _, _ => exact Or.inl (List.mem_of_getElem? (i := 295) (by decide +kernel))
  | 6, _, _ => exact Or.inr (List.mem_of_getElem? (i := 278) (by decide +kernel))
  | 7, _, h => exact absurd rfl h
  | 8, _, _ => exact Or.inr (List.mem_of_getElem? (i := 275) (by decide +kernel))
  | 9, _, _ => exact Or.inr (List.mem_of_getElem? (i := 274) (by decide +kernel))
  | 10, _, _ => exact Or.inr (List.mem_of_getElem? (i := 272) (by decide +kernel))
  | 11, _, _ => exact Or.inr (List.mem_of_getElem? (i := 273) (by decide +kernel))
theorem hf_sq6_8 : ∀ j, j < 12 → 8 ≠ j → (Cond.not (Cond.eq (hf_tm 8) (hf_tm j)) ∈ hf_fl0 ∨ Cond.not (Cond.eq (hf_tm j) (hf_tm 8)) ∈ hf_fl0) := by
  intro j hj hij
  match j, hj, hij with
  | 0, _, _ => exact Or.inr (List.mem_of_getElem? (i := 215) (by decide +kernel))
  | 1, _, _ => exact Or.inr (List.mem_of_getElem? (i := 216) (by decide +kernel))
  | 2, _, _ => exact Or.inl (List.mem_of_getElem? (i := 234) (by decide +kernel))
  | 3, _, _ => exact Or.inl (List.mem_of_getElem? (i := 246) (by decide +kernel))
  | 4, _, _ => exact Or.inl (List.mem_of_getElem? (i := 307) (by decide +kernel))
  | 5, _, _ => exact Or.inl (List.mem_of_getElem? (i := 291) (by decide +kernel))
  | 6, _, _ => exact Or.inl (List.mem_of_getElem? (i := 260) (by decide +kernel))
  | 7, _, _ => exact Or.inl (List.mem_of_getElem? (i := 275) (by decide +kernel))
  | 8, _, h => exact absurd rfl h
  | 9, _, _ => exact Or.inr (List.mem_of_getElem? (i := 219) (by decide +kernel))
  | 10, _, _ => exact Or.inr (List.mem_of_getElem? (i := 217) (by decide +kernel))
  | 11, _, _ => exact Or.inr (List.mem_of_getElem? (i := 218) (by decide +kernel))
theorem hf_sq6_9 : ∀ j, j < 12 → 9 ≠ j → (Cond.not (Cond.eq (hf_tm 9) (hf_tm j)) ∈ hf_fl0 ∨ Cond.not (Cond.eq (hf_tm j) (hf_tm 9)) ∈ hf_fl0) := by
  intro j hj hij
  match j, hj, hij with
  | 0, _, _ => exact Or.inr (List.mem_of_getElem? (i := 205) (by decide +kernel))
  | 1, _, _ => exact Or.inr (List.mem_of_getElem? (i := 206) (by decide +kernel))
  | 2, _, _ => exact Or.inl (List.mem_of_getElem? (i := 233) (by decide +kernel))
  | 3, _, _ => exact Or.inl (List.mem_of_getElem? (i := 245) (by decide +kernel))
  | 4, _, _ => exact Or.inl (List.mem_of_getElem? (i := 306) (by decide +kernel))
  | 5, _, _ => exact Or.inl (List.mem_of_getElem? (i := 290) (by decide +kernel))
  | 6, _, _ => exact Or.inl (List.mem_of_getElem? (i := 259) (by decide +kernel))
  | 7, _, _ => exact Or.inl (List.mem_of_getElem? (i := 274) (by decide +kernel))
  | 8, _, _ => exact Or.inl (List.mem_of_getElem? (i := 219) (by decide +kernel))
  | 9, _, h => exact absurd rfl h
  | 10, _, _ => exact Or.inr (List.mem_of_getElem? (i := 207) (by decide +kernel))
  | 11, _, _ => exact Or.inr (List.mem_of_getElem? (i := 208) (by decide +kernel))
theorem hf_sq6_10 : ∀ j, j < 12 → 10 ≠ j → (Cond.not (Cond.eq (hf_tm 10) (hf_tm j)) ∈ hf_fl0 ∨ Cond.not (Cond.eq (hf_tm j) (hf_tm 10)) ∈ hf_fl0) := by
  intro j hj hij
  match j, hj, hij with
  | 0, _, _ => exact Or.inr (List.mem_of_getElem? (i := 152) (by decide +kernel))
  | 1, _, _ => exact Or.inr (List.mem_of_getElem? (i := 153) (by decide +kernel))
  | 2, _, _ => exact Or.inl (List.mem_of_getElem? (i := 231) (by decide +kernel))
  | 3, _, _ => exact Or.inl (List.mem_of_getElem? (i := 243) (by decide +kernel))
  | 4, _, _ => exact Or.inl (List.mem_of_getElem? (i := 304) (by decide +kernel))
  | 5, _, _ => exact Or.inl (List.mem_of_getElem? (i := 288) (by decide +kernel))
  | 6, _, _ => exact Or.inl (List.mem_of_getElem? (i := 257) (by decide +kernel))
  | 7, _, _ => exact Or.inl (List.mem_of_getElem? (i := 272) (by decide +kernel))
  | 8, _, _ => exact Or.inl (List.mem_of_getElem? (i := 217) (by decide +kernel))
  | 9, _, _ => exact Or.inl (List.mem_of_getElem? (i := 207) (by decide +kernel))
  | 10, _, h => exact absurd rfl h
  | 11, _, _ => exact Or.inl (List.mem_of_getElem? (i := 197) (by decide +kernel))
theorem hf_sq6_11 : ∀ j, j < 12 → 11 ≠ j → (Cond.not (Cond.eq (hf_tm 11) (hf_tm j)) ∈ hf_fl0 ∨ Cond.not (Cond.eq (hf_tm j) (hf_tm 11)) ∈ hf_fl0) := by
  intro j hj hij
  match j, hj, hij with
  | 0, _, _ => exact Or.inr (List.mem_of_getElem? (i := 195) (by decide +kernel))
  | 1, _, _ => exact Or.inr (List.mem_of_getElem? (i := 196) (by decide +kernel))
  | 2, _, _ => exact Or.inl (List.mem_of_getElem? (i := 232) (by decide +kernel))
  | 3, _, _ => exact Or.inl (List.mem_of_getElem? (i := 244) (by decide +kernel))
  | 4, _, _ => exact Or.inl (List.mem_of_getElem? (i := 305) (by decide +kernel))
  | 5, _, _ => exact Or.inl (List.mem_of_getElem? (i := 289) (by decide +kernel))
  | 6, _, _ => exact Or.inl (List.mem_of_getElem? (i := 258) (by decide +kernel))
  | 7, _, _ => exact Or.inl (List.mem_of_getElem? (i := 273) (by decide +kernel))
  | 8, _, _ => exact Or.inl (List.mem_of_getElem? (i := 218) (by decide +kernel))
  | 9, _, _ => exact Or.inl (List.mem_of_getElem? (i := 208) (by decide +kernel))
  | 10, _, _ => exact Or.inr (List.mem_of_getElem? (i := 197) (by decide +kernel))
  | 11, _, h => exact absurd rfl h
theorem hf_sq6 : ∀ i, i < 12 → ∀ j, j < 12 → i ≠ j → (Cond.not (Cond.eq (hf_tm i) (hf_tm j)) ∈ hf_fl0 ∨ Cond.not (Cond.eq (hf_tm j) (hf_tm i)) ∈ hf_fl0) := by
  intro i hi
  match i, hi with
  | 0, _ => exact hf_sq6_0
  | 1, _ => exact hf_sq6_1
  | 2, _ => exact hf_sq6_2
  | 3, _ => exact hf_sq6_3
  | 4, _ => exact hf_sq6_4
  | 5, _ => exact hf_sq6_5
  | 6, _ => exact hf_sq6_6
  | 7, _ => exact hf_sq6_7
  | 8, _ => exact hf_sq6_8
  | 9, _ => exact hf_sq6_9
  | 10, _ => exact hf_sq6_10
  | 11, _ => exact hf_sq6_11
theorem hf_sq7 : Cond.eq (.static "java/lang/String" "COMPACT_STRINGS" "Z") (.int 1) ∈ hf_fl0 := by decide +kernel
theorem hf_sq8 : Cond.isRef (.static "jdk/internal/util/Preconditions" "SIOOBE_FORMATTER" "Ljava/util/function/BiFunction;") ∈ hf_fl0 := by decide +kernel
theorem hf_sq9 : ∀ i, i < 12 → Cond.stringRef RX5 ((hf_strs.getD i (0, "")).1) ((hf_strs.getD i (0, "")).2) ∈ lw_tbl := by
  intro i hi
  match i, hi with
  | 0, _ => exact hf_u3 205 rfl
  | 1, _ => exact hf_u3 206 rfl
  | 2, _ => exact hf_u4 63 rfl
  | 3, _ => exact hf_u4 68 rfl
  | 4, _ => exact hf_u4 88 rfl
  | 5, _ => exact hf_u4 83 rfl
  | 6, _ => exact hf_u4 81 rfl
  | 7, _ => exact hf_u4 82 rfl
  | 8, _ => exact hf_u4 62 rfl
  | 9, _ => exact hf_u4 57 rfl
  | 10, _ => exact hf_u4 51 rfl
  | 11, _ => exact hf_u4 52 rfl
theorem hf_sxof {b : Nat} {s : State} (hts : ∀ w ∈ lw_tbl, w.before #[Value.ref b] s = true) (hgv : (Jvm.Cond.and given_1 narrow_1).before #[Value.ref b] s = true) : ∃ ad : Nat → Nat, ad 0 = b ∧ hf_sx s.heap.size ad s := by
  have hs := flat_of_before _ hgv
  have hA : ∀ a : Nat, a < s.heap.size → ¬ hf_A s.heap.size a := fun a h q => absurd q (Nat.not_le.mpr h)
  obtain ⟨adK, adV, h1, h2⟩ := vk_Sof (args := #[Value.ref b]) (s := s) (N := 12) (tm := hf_tm) (len := hf_sln) (byt := hf_sby) (A := hf_A s.heap.size) (by decide +kernel) (fun i hi => hs _ (hf_sq1 i hi)) (fun i hi => hs _ (hf_sq2 i hi)) (fun i hi => hs _ (hf_sq3 i hi)) (fun i hi => hs _ (hf_sq4 i hi)) (fun i hi j hj => hs _ (hf_sq5 i hi j hj)) (fun i j hi hj hij => (hf_sq6 i hi j hj hij).imp (hs _) (hs _)) hA
  have hz := va_Zof (A := hf_A s.heap.size) (hts _ (hf_u3 220 rfl)) (hts _ (hf_tb_good hw16).1) (va_eqt (hs _ hf_sq7)) hA
  have hq := va_Zqof (A := hf_A s.heap.size) (hts _ (hf_u3 236 rfl)) (hts _ (hf_tb_good hw18).1) (hs _ hf_sq8) hA
  obtain ⟨w, hqz⟩ : ∃ w : Nat, ∀ ad : Nat → Nat, ad 40 = w → ∃ v, (v = .null ∨ v = .ref (ad 40)) ∧ va_Z "jdk/internal/util/Preconditions" "SIOOBE_FORMATTER" "Ljava/util/function/BiFunction;" v (hf_A s.heap.size) s s.heap := by
    rcases hq with h | ⟨w, h⟩
    · exact ⟨0, fun ad _ => ⟨_, Or.inl rfl, h⟩⟩
    · exact ⟨w, fun ad hw => ⟨_, Or.inr (by rw [hw]), h⟩⟩
  refine ⟨fun k => if k = 0 then b else if k = 40 then w else if k < 21 then adK (k - 1) else adV (k - 21), rfl, fun i q hi => ?_, ?_, hz, hqz (fun k => if k = 0 then b else if k = 40 then w else if k < 21 then adK (k - 1) else adV (k - 21)) rfl⟩
  · have hlt : i < 12 := (List.getElem?_eq_some_iff.mp hi).1
    have e : hf_strs.getD i (0, "") = q := by rw [List.getD_eq_getElem?_getD, hi]; rfl
    have h9 := hts _ (hf_sq9 i hlt)
    have h8 := h2 i hlt
    unfold hf_tm at h8
    rw [e] at h8 h9
    have e2 : (if 1 + i = 0 then b else if 1 + i = 40 then w else if 1 + i < 21 then adK (1 + i - 1) else adV (1 + i - 21)) = adK i := by
      rw [if_neg (by omega), if_neg (by omega), if_pos (by omega), show 1 + i - 1 = i by omega]
    show vk_R RX5 q.1 q.2 (if 1 + i = 0 then b else if 1 + i = 40 then w else if 1 + i < 21 then adK (1 + i - 1) else adV (1 + i - 21)) s
    rw [e2]
    exact vk_R.of h9 h8
  · have e1 : ∀ i, i < 12 → (if 1 + i = 0 then b else if 1 + i = 40 then w else if 1 + i < 21 then adK (1 + i - 1) else adV (1 + i - 21)) = adK i := fun i hi => by
      rw [if_neg (by omega), if_neg (by omega), if_pos (by omega), show 1 + i - 1 = i by omega]
    have e2 : ∀ i, i < 12 → (if 21 + i = 0 then b else if 21 + i = 40 then w else if 21 + i < 21 then adK (21 + i - 1) else adV (21 + i - 21)) = adV i := fun i hi => by
      rw [if_neg (by omega), if_neg (by omega), if_neg (by omega), show 21 + i - 21 = i by omega]
    refine ⟨fun i hi => ?_, fun i j hi hj hij => ?_⟩
    · show va_O _ (if 1 + i = 0 then b else if 1 + i = 40 then w else if 1 + i < 21 then adK (1 + i - 1) else adV (1 + i - 21)) _ _ _ ∧ va_OF _ _ _ _ (if 1 + i = 0 then b else if 1 + i = 40 then w else if 1 + i < 21 then adK (1 + i - 1) else adV (1 + i - 21)) _ _ _ ∧ va_OF _ _ _ (.ref (if 21 + i = 0 then b else if 21 + i = 40 then w else if 21 + i < 21 then adK (21 + i - 1) else adV (21 + i - 21))) (if 1 + i = 0 then b else if 1 + i = 40 then w else if 1 + i < 21 then adK (1 + i - 1) else adV (1 + i - 21)) _ _ _ ∧ va_T _ (if 21 + i = 0 then b else if 21 + i = 40 then w else if 21 + i < 21 then adK (21 + i - 1) else adV (21 + i - 21)) _ _ _ _ _
      rw [e1 i hi, e2 i hi]
      exact h1.1 i hi
    · have hij : (if 1 + i = 0 then b else if 1 + i = 40 then w else if 1 + i < 21 then adK (1 + i - 1) else adV (1 + i - 21)) = (if 1 + j = 0 then b else if 1 + j = 40 then w else if 1 + j < 21 then adK (1 + j - 1) else adV (1 + j - 21)) := hij
      rw [e1 i hi, e1 j hj] at hij
      exact h1.2 i j hi hj hij
abbrev hf_M0 : hf_M := (0, fun _ => (0, 0), fun _ _ => 0, fun _ _ => 0, fun _ _ => none)
set_option maxHeartbeats 4000000 in
theorem hf_bridge (hG : ∀ X : hf_X, X.1 ≤ 3072 → hf_G X Y_L_law 1400 600000 7302250 0 (hf_en [.ref 0] 4) [] hf_M0 (fun r _ => r = some (.int 1))) {p : Program} {e : Env} {s : State} {m : MethodId} {below : List Frame} {meth : Method} {c : Code} (l : Launch) {b L : Nat} {xs : Nat → Int32} (hL : L ≤ 3072) (C0 : lw_At p s m meth c b L xs) : W p l e room_1 s m #[Value.ref b] below meth c s.heap [] 0 0 (lw_Z below #[Value.ref b] s) (entryFrame m ([Value.ref b] : List Value).toArray 4) := by
  obtain ⟨hx, hb, hr, hml, hown, hts, hX, hbl, hlocks, hgv⟩ := C0
  have hts' : ∀ w ∈ hf_tb, w.before #[Value.ref b] s = true := fun w h => hts w (hf_tb_good h).1
  have hKn : ∀ c : Nat, ∃ (q : ClassId × (Nat → Nat)), c < 13 → u_Kn s (hf_cl c).1 (hf_cl c).2.1 (hf_cl c).2.2 q.1 q.2 := by
    intro c
    by_cases hc : c < 13
    · obtain ⟨cC, iS, h⟩ := u_known hts' (hf_cl_in c hc) (hts' _ (hf_inst c hc))
      exact ⟨(cC, iS), fun _ => h⟩
    · exact ⟨(0, fun _ => 0), fun h => absurd h hc⟩
  obtain ⟨a0, ha0⟩ := hf_arr (hts' _ hw70) (Or.inl rfl)
  obtain ⟨a1, ha1⟩ := hf_arr (hts' _ hw71) (Or.inr (Or.inl rfl))
  obtain ⟨a2, ha2⟩ := hf_arr (hts' _ hw1138) (Or.inr (Or.inr (Or.inl rfl)))
  obtain ⟨a3, ha3⟩ := hf_arr (hts' _ hw322) (Or.inr (Or.inr (Or.inr rfl)))
  have hoD : (Cond.arrayOver (.object RX1)).before #[Value.ref b] s = true := hts _ (hf_u1 216 rfl)
  have hoT : (Cond.arrayOver (.object RX9)).before #[Value.ref b] s = true := hts _ (hf_u1 80 rfl)
  obtain ⟨a4, ha4⟩ := hf_arrO hoD
  obtain ⟨a5, ha5⟩ := hf_arrO hoT
  obtain ⟨dA, hdA⟩ : ∃ dA : Nat → ClassId, hf_tys dA = [(a0, .int), (a1, .byte), (a2, .boolean), (a3, .long), (a4, .object RX1), (a5, .object RX9)] :=
    ⟨fun k => if k = 100 then a0 else if k = 101 then a1 else if k = 102 then a2 else if k = 103 then a3 else if k = 104 then a4 else a5, rfl⟩
  have hK : va_K (fun c => (Classical.choose (hKn c)).1, fun c => (Classical.choose (hKn c)).2) vwCl (hf_tys dA) s := by
    refine ⟨fun c q hq => ?_, fun k q hk => ?_⟩
    · have hc : c < 13 := (List.getElem?_eq_some_iff.mp hq).1
      have := Classical.choose_spec (hKn c) hc
      have e := (hf_cl_ok c hc).1.symm.trans hq
      cases e
      exact this
    · rw [hdA] at hk
      match k, hk with
      | 0, hk => cases hk; exact ha0
      | 1, hk => cases hk; exact ha1
      | 2, hk => cases hk; exact ha2
      | 3, hk => cases hk; exact ha3
      | 4, hk => cases hk; exact ha4
      | 5, hk => cases hk; exact ha5
      | k + 6, hk => simp at hk
  obtain ⟨ad, rfl, hsx⟩ := hf_sxof hts hgv
  have hw : hf_w s.heap.size ad (fun c => (Classical.choose (hKn c)).1, fun c => (Classical.choose (hKn c)).2) dA L xs s := ⟨hK, Nat.le_refl _, hbl, hX, ⟨hf_nests_ok hts, va_AO.of hoD, va_AO.of hoT⟩, hsx⟩
  have hl := lv_entry (([Value.ref 0] : List Value).map (hf_v s.heap.size ad)) (n := 4) (Nat.le_of_ble_eq_true rfl)
  have hW := hG (L, xs) hL s.heap.size ad _ dA p l e s m #[Value.ref (ad 0)] below meth c s.heap [] 0 0 600000 7302250 _ ⟨hx, hb, hr, hml, hown, hts', hlocks, fun h => absurd h (by decide +kernel), hw⟩ (by omega) (by omega) ⟨rfl, fun k q hk => by simp [hf_ws] at hk⟩ va_S.rf (hf_en_ls hl)
  rw [lg_entry_eq]
  intro T hT X
  have hroom : s.hasRoom e.platform (hf_R 1400 600000 7302250) = true := by
    have h := X.room
    simp only [State.hasRoom, room_1, hf_R, Bool.and_eq_true, decide_eq_true_eq] at h ⊢
    obtain ⟨⟨⟨⟨h1, h2⟩, h3⟩, h4⟩, h5⟩ := h
    refine ⟨⟨⟨⟨?_, ?_⟩, h3⟩, h4⟩, h5⟩
    · exact h1
    · replace h2 := of_decide_eq_true h2
      refine decide_eq_true ?_
      exact ⟨Nat.le_trans (by show _ + 1400 ≤ _ + 2048; omega) h2.1, Nat.le_trans (by show _ + 1400 ≤ _ + 2048; omega) h2.2.1, h2.2.2⟩
  have X' : Stand p l e (hf_R 1400 600000 7302250) s m #[Value.ref (ad 0)] below meth c T [] 0 0 := { X with room := hroom }
  obtain ⟨t, steps, o, hrun, hend, ⟨⟨r, M, ho, hr1, -⟩, -⟩, L', hFE, hL'⟩ := hW T hT X'
  refine ⟨t, steps, o, hrun, hend, ?_, hFE.1, hFE.2.1, hFE.2.2.weaken (fun x hx hlt => absurd (hL' x hx) (Nat.not_le.mpr hlt)) (Nat.le_refl _) (Nat.le_refl _)⟩
  rw [ho, hr1]
  rfl
