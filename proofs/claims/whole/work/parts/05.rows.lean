theorem hf_iconst {X : hf_X} {Y : hf_Y} {d k n pc : Nat} {l : List (Option Value)} {st : List Value} {M : hf_M} {Q : Option Value → hf_M → Prop} {z : Int} {v : Int32} (hdg : decode Y.2.1 pc = .ok (.iconst z, 1)) (hv : Int32.ofInt z = v) (h : hf_G X Y d k n (pc + 1) l (.int v :: st) M Q) : hf_G X Y d k n pc l (st) M Q := by
  intro B ad D dA p la e s m args below meth c H locs cells slots mc ms ls hc hk hn hH hS hl
  obtain ⟨hx, hb, hr, hml, hown, hts, hlk, hnm, hw⟩ := id hc
  exact lv_iconst hx hb hdg hv (h B ad D dA p la e s m args below meth c H locs cells slots mc ms ls hc hk hn hH hS hl)
theorem hf_bipush {X : hf_X} {Y : hf_Y} {d k n pc : Nat} {l : List (Option Value)} {st : List Value} {M : hf_M} {Q : Option Value → hf_M → Prop} {z : Int} {v : Int32} (hdg : decode Y.2.1 pc = .ok (.bipush z, 2)) (hv : (Int8.ofInt z).toInt32 = v) (h : hf_G X Y d k n (pc + 2) l (.int v :: st) M Q) : hf_G X Y d k n pc l (st) M Q := by
  intro B ad D dA p la e s m args below meth c H locs cells slots mc ms ls hc hk hn hH hS hl
  obtain ⟨hx, hb, hr, hml, hown, hts, hlk, hnm, hw⟩ := id hc
  exact lv_bipush hx hb hdg hv (h B ad D dA p la e s m args below meth c H locs cells slots mc ms ls hc hk hn hH hS hl)
theorem hf_sipush {X : hf_X} {Y : hf_Y} {d k n pc : Nat} {l : List (Option Value)} {st : List Value} {M : hf_M} {Q : Option Value → hf_M → Prop} {z : Int} {v : Int32} (hdg : decode Y.2.1 pc = .ok (.sipush z, 3)) (hv : (Int16.ofInt z).toInt32 = v) (h : hf_G X Y d k n (pc + 3) l (.int v :: st) M Q) : hf_G X Y d k n pc l (st) M Q := by
  intro B ad D dA p la e s m args below meth c H locs cells slots mc ms ls hc hk hn hH hS hl
  obtain ⟨hx, hb, hr, hml, hown, hts, hlk, hnm, hw⟩ := id hc
  exact lv_sipush hx hb hdg hv (h B ad D dA p la e s m args below meth c H locs cells slots mc ms ls hc hk hn hH hS hl)
theorem hf_lconst {X : hf_X} {Y : hf_Y} {d k n pc : Nat} {l : List (Option Value)} {st : List Value} {M : hf_M} {Q : Option Value → hf_M → Prop} {z : Fin 2} {v : Int64} (hdg : decode Y.2.1 pc = .ok (.lconst z, 1)) (hv : Int64.ofNat (z : Nat) = v) (h : hf_G X Y d k n (pc + 1) l (.long v :: st) M Q) : hf_G X Y d k n pc l (st) M Q := by
  intro B ad D dA p la e s m args below meth c H locs cells slots mc ms ls hc hk hn hH hS hl
  obtain ⟨hx, hb, hr, hml, hown, hts, hlk, hnm, hw⟩ := id hc
  exact lv_lconst hx hb hdg hv (h B ad D dA p la e s m args below meth c H locs cells slots mc ms ls hc hk hn hH hS hl)
theorem hf_ldc {X : hf_X} {Y : hf_Y} {d k n pc : Nat} {l : List (Option Value)} {st : List Value} {M : hf_M} {Q : Option Value → hf_M → Prop} {ix : Nat} {v : Int32} (hdg : decode Y.2.1 pc = .ok (.ldc ix, 2)) (hw0 : Cond.constant Y.1.cls ix v ∈ hf_tb) (h : hf_G X Y d k n (pc + 2) l (.int v :: st) M Q) : hf_G X Y d k n pc l (st) M Q := by
  intro B ad D dA p la e s m args below meth c H locs cells slots mc ms ls hc hk hn hH hS hl
  obtain ⟨hx, hb, hr, hml, hown, hts, hlk, hnm, hw⟩ := id hc
  exact lv_ldc hx hb hown (hts _ hw0) hdg (h B ad D dA p la e s m args below meth c H locs cells slots mc ms ls hc hk hn hH hS hl)
theorem hf_ldcw {X : hf_X} {Y : hf_Y} {d k n pc : Nat} {l : List (Option Value)} {st : List Value} {M : hf_M} {Q : Option Value → hf_M → Prop} {ix : Nat} {v : Int32} (hdg : decode Y.2.1 pc = .ok (.ldc_w ix, 3)) (hw0 : Cond.constant Y.1.cls ix v ∈ hf_tb) (h : hf_G X Y d k n (pc + 3) l (.int v :: st) M Q) : hf_G X Y d k n pc l (st) M Q := by
  intro B ad D dA p la e s m args below meth c H locs cells slots mc ms ls hc hk hn hH hS hl
  obtain ⟨hx, hb, hr, hml, hown, hts, hlk, hnm, hw⟩ := id hc
  exact lv_ldcw hx hb hown (hts _ hw0) hdg (h B ad D dA p la e s m args below meth c H locs cells slots mc ms ls hc hk hn hH hS hl)
theorem hf_ldc2 {X : hf_X} {Y : hf_Y} {d k n pc : Nat} {l : List (Option Value)} {st : List Value} {M : hf_M} {Q : Option Value → hf_M → Prop} {ix : Nat} {v : Int64} (hdg : decode Y.2.1 pc = .ok (.ldc2_w ix, 3)) (hw0 : Cond.constantLong Y.1.cls ix v ∈ hf_tb) (h : hf_G X Y d k n (pc + 3) l (.long v :: st) M Q) : hf_G X Y d k n pc l (st) M Q := by
  intro B ad D dA p la e s m args below meth c H locs cells slots mc ms ls hc hk hn hH hS hl
  obtain ⟨hx, hb, hr, hml, hown, hts, hlk, hnm, hw⟩ := id hc
  exact lv_ldc2 hx hb hown (hts _ hw0) hdg (h B ad D dA p la e s m args below meth c H locs cells slots mc ms ls hc hk hn hH hS hl)
theorem hf_iload_n {X : hf_X} {Y : hf_Y} {d k n pc : Nat} {l : List (Option Value)} {st : List Value} {M : hf_M} {Q : Option Value → hf_M → Prop} {z : Fin 4} {i : Nat} {x : Int32} (hdg : decode Y.2.1 pc = .ok (.iload_n z, 1)) (hi : (z : Nat) = i) (hl0 : l[i]? = some (some (.int x))) (h : hf_G X Y d k n (pc + 1) l (.int x :: st) M Q) : hf_G X Y d k n pc l (st) M Q := by
  intro B ad D dA p la e s m args below meth c H locs cells slots mc ms ls hc hk hn hH hS hl
  obtain ⟨hx, hb, hr, hml, hown, hts, hlk, hnm, hw⟩ := id hc
  exact lv_iload_n hx hb hdg hi (hl.2.2 _ _ hl0) (h B ad D dA p la e s m args below meth c H locs cells slots mc ms ls hc hk hn hH hS hl)
theorem hf_iload {X : hf_X} {Y : hf_Y} {d k n pc : Nat} {l : List (Option Value)} {st : List Value} {M : hf_M} {Q : Option Value → hf_M → Prop} {i : Nat} {x : Int32} (hdg : decode Y.2.1 pc = .ok (.iload i, 2)) (hl0 : l[i]? = some (some (.int x))) (h : hf_G X Y d k n (pc + 2) l (.int x :: st) M Q) : hf_G X Y d k n pc l (st) M Q := by
  intro B ad D dA p la e s m args below meth c H locs cells slots mc ms ls hc hk hn hH hS hl
  obtain ⟨hx, hb, hr, hml, hown, hts, hlk, hnm, hw⟩ := id hc
  exact lv_iload hx hb hdg (hl.2.2 _ _ hl0) (h B ad D dA p la e s m args below meth c H locs cells slots mc ms ls hc hk hn hH hS hl)
theorem hf_lload_n {X : hf_X} {Y : hf_Y} {d k n pc : Nat} {l : List (Option Value)} {st : List Value} {M : hf_M} {Q : Option Value → hf_M → Prop} {z : Fin 4} {i : Nat} {x : Int64} (hdg : decode Y.2.1 pc = .ok (.lload_n z, 1)) (hi : (z : Nat) = i) (hl0 : l[i]? = some (some (.long x))) (h : hf_G X Y d k n (pc + 1) l (.long x :: st) M Q) : hf_G X Y d k n pc l (st) M Q := by
  intro B ad D dA p la e s m args below meth c H locs cells slots mc ms ls hc hk hn hH hS hl
  obtain ⟨hx, hb, hr, hml, hown, hts, hlk, hnm, hw⟩ := id hc
  exact lv_lload_n hx hb hdg hi (hl.2.2 _ _ hl0) (h B ad D dA p la e s m args below meth c H locs cells slots mc ms ls hc hk hn hH hS hl)
theorem hf_lload {X : hf_X} {Y : hf_Y} {d k n pc : Nat} {l : List (Option Value)} {st : List Value} {M : hf_M} {Q : Option Value → hf_M → Prop} {i : Nat} {x : Int64} (hdg : decode Y.2.1 pc = .ok (.lload i, 2)) (hl0 : l[i]? = some (some (.long x))) (h : hf_G X Y d k n (pc + 2) l (.long x :: st) M Q) : hf_G X Y d k n pc l (st) M Q := by
  intro B ad D dA p la e s m args below meth c H locs cells slots mc ms ls hc hk hn hH hS hl
  obtain ⟨hx, hb, hr, hml, hown, hts, hlk, hnm, hw⟩ := id hc
  exact lv_lload hx hb hdg (hl.2.2 _ _ hl0) (h B ad D dA p la e s m args below meth c H locs cells slots mc ms ls hc hk hn hH hS hl)
theorem hf_aload_n {X : hf_X} {Y : hf_Y} {d k n pc : Nat} {l : List (Option Value)} {st : List Value} {M : hf_M} {Q : Option Value → hf_M → Prop} {z : Fin 4} {i : Nat} {x : Nat} (hdg : decode Y.2.1 pc = .ok (.aload_n z, 1)) (hi : (z : Nat) = i) (hl0 : l[i]? = some (some (.ref x))) (h : hf_G X Y d k n (pc + 1) l (.ref x :: st) M Q) : hf_G X Y d k n pc l (st) M Q := by
  intro B ad D dA p la e s m args below meth c H locs cells slots mc ms ls hc hk hn hH hS hl
  obtain ⟨hx, hb, hr, hml, hown, hts, hlk, hnm, hw⟩ := id hc
  exact lv_aload_n hx hb hdg hi (hl.2.2 _ _ hl0) (h B ad D dA p la e s m args below meth c H locs cells slots mc ms ls hc hk hn hH hS hl)
theorem hf_aload {X : hf_X} {Y : hf_Y} {d k n pc : Nat} {l : List (Option Value)} {st : List Value} {M : hf_M} {Q : Option Value → hf_M → Prop} {i : Nat} {x : Nat} (hdg : decode Y.2.1 pc = .ok (.aload i, 2)) (hl0 : l[i]? = some (some (.ref x))) (h : hf_G X Y d k n (pc + 2) l (.ref x :: st) M Q) : hf_G X Y d k n pc l (st) M Q := by
  intro B ad D dA p la e s m args below meth c H locs cells slots mc ms ls hc hk hn hH hS hl
  obtain ⟨hx, hb, hr, hml, hown, hts, hlk, hnm, hw⟩ := id hc
  exact lv_aload hx hb hdg (hl.2.2 _ _ hl0) (h B ad D dA p la e s m args below meth c H locs cells slots mc ms ls hc hk hn hH hS hl)
theorem hf_istore_n {X : hf_X} {Y : hf_Y} {d k n pc : Nat} {l : List (Option Value)} {st : List Value} {M : hf_M} {Q : Option Value → hf_M → Prop} {z : Fin 4} {i : Nat} {x : Int32} {l2 : List (Option Value)} (hdg : decode Y.2.1 pc = .ok (.istore_n z, 1)) (hi : (z : Nat) = i) (hlt : i < Y.2.2.1) (hl2 : hf_st1 l i (.int x) = l2) (h : hf_G X Y d k n (pc + 1) l2 st M Q) : hf_G X Y d k n pc l (.int x :: st) M Q := by
  intro B ad D dA p la e s m args below meth c H locs cells slots mc ms ls hc hk hn hH hS hl
  obtain ⟨hx, hb, hr, hml, hown, hts, hlk, hnm, hw⟩ := id hc
  subst hl2
  exact lv_istore_n hx hb hdg hi (hf_has hl) hlt rfl (fun ls1 hl1 => h B ad D dA p la e s m args below meth c H locs cells slots mc ms ls1 hc hk hn hH hS (hf_ls_st1 (v := .int x) hl1))
theorem hf_istore {X : hf_X} {Y : hf_Y} {d k n pc : Nat} {l : List (Option Value)} {st : List Value} {M : hf_M} {Q : Option Value → hf_M → Prop} {i : Nat} {x : Int32} {l2 : List (Option Value)} (hdg : decode Y.2.1 pc = .ok (.istore i, 2)) (hlt : i < Y.2.2.1) (hl2 : hf_st1 l i (.int x) = l2) (h : hf_G X Y d k n (pc + 2) l2 st M Q) : hf_G X Y d k n pc l (.int x :: st) M Q := by
  intro B ad D dA p la e s m args below meth c H locs cells slots mc ms ls hc hk hn hH hS hl
  obtain ⟨hx, hb, hr, hml, hown, hts, hlk, hnm, hw⟩ := id hc
  subst hl2
  exact lv_istore hx hb hdg (hf_has hl) hlt rfl (fun ls1 hl1 => h B ad D dA p la e s m args below meth c H locs cells slots mc ms ls1 hc hk hn hH hS (hf_ls_st1 (v := .int x) hl1))
theorem hf_lstore_n {X : hf_X} {Y : hf_Y} {d k n pc : Nat} {l : List (Option Value)} {st : List Value} {M : hf_M} {Q : Option Value → hf_M → Prop} {z : Fin 4} {i : Nat} {x : Int64} {l2 : List (Option Value)} (hdg : decode Y.2.1 pc = .ok (.lstore_n z, 1)) (hi : (z : Nat) = i) (hlt : i + 1 < Y.2.2.1) (hl2 : hf_st2 l i (.long x) = l2) (h : hf_G X Y d k n (pc + 1) l2 st M Q) : hf_G X Y d k n pc l (.long x :: st) M Q := by
  intro B ad D dA p la e s m args below meth c H locs cells slots mc ms ls hc hk hn hH hS hl
  obtain ⟨hx, hb, hr, hml, hown, hts, hlk, hnm, hw⟩ := id hc
  subst hl2
  exact lv_lstore_n hx hb hdg hi (hf_has hl) hlt rfl (fun ls1 hl1 => h B ad D dA p la e s m args below meth c H locs cells slots mc ms ls1 hc hk hn hH hS (hf_ls_st2 (v := .long x) hl1))
theorem hf_lstore {X : hf_X} {Y : hf_Y} {d k n pc : Nat} {l : List (Option Value)} {st : List Value} {M : hf_M} {Q : Option Value → hf_M → Prop} {i : Nat} {x : Int64} {l2 : List (Option Value)} (hdg : decode Y.2.1 pc = .ok (.lstore i, 2)) (hlt : i + 1 < Y.2.2.1) (hl2 : hf_st2 l i (.long x) = l2) (h : hf_G X Y d k n (pc + 2) l2 st M Q) : hf_G X Y d k n pc l (.long x :: st) M Q := by
  intro B ad D dA p la e s m args below meth c H locs cells slots mc ms ls hc hk hn hH hS hl
  obtain ⟨hx, hb, hr, hml, hown, hts, hlk, hnm, hw⟩ := id hc
  subst hl2
  exact lv_lstore hx hb hdg (hf_has hl) hlt rfl (fun ls1 hl1 => h B ad D dA p la e s m args below meth c H locs cells slots mc ms ls1 hc hk hn hH hS (hf_ls_st2 (v := .long x) hl1))
theorem hf_astore_n {X : hf_X} {Y : hf_Y} {d k n pc : Nat} {l : List (Option Value)} {st : List Value} {M : hf_M} {Q : Option Value → hf_M → Prop} {z : Fin 4} {i : Nat} {x : Nat} {l2 : List (Option Value)} (hdg : decode Y.2.1 pc = .ok (.astore_n z, 1)) (hi : (z : Nat) = i) (hlt : i < Y.2.2.1) (hl2 : hf_st1 l i (.ref x) = l2) (h : hf_G X Y d k n (pc + 1) l2 st M Q) : hf_G X Y d k n pc l (.ref x :: st) M Q := by
  intro B ad D dA p la e s m args below meth c H locs cells slots mc ms ls hc hk hn hH hS hl
  obtain ⟨hx, hb, hr, hml, hown, hts, hlk, hnm, hw⟩ := id hc
  subst hl2
  exact lv_astore_n hx hb hdg hi (hf_has hl) hlt rfl (fun ls1 hl1 => h B ad D dA p la e s m args below meth c H locs cells slots mc ms ls1 hc hk hn hH hS (hf_ls_st1 (v := .ref x) hl1))
theorem hf_astore {X : hf_X} {Y : hf_Y} {d k n pc : Nat} {l : List (Option Value)} {st : List Value} {M : hf_M} {Q : Option Value → hf_M → Prop} {i : Nat} {x : Nat} {l2 : List (Option Value)} (hdg : decode Y.2.1 pc = .ok (.astore i, 2)) (hlt : i < Y.2.2.1) (hl2 : hf_st1 l i (.ref x) = l2) (h : hf_G X Y d k n (pc + 2) l2 st M Q) : hf_G X Y d k n pc l (.ref x :: st) M Q := by
  intro B ad D dA p la e s m args below meth c H locs cells slots mc ms ls hc hk hn hH hS hl
  obtain ⟨hx, hb, hr, hml, hown, hts, hlk, hnm, hw⟩ := id hc
  subst hl2
  exact lv_astore hx hb hdg (hf_has hl) hlt rfl (fun ls1 hl1 => h B ad D dA p la e s m args below meth c H locs cells slots mc ms ls1 hc hk hn hH hS (hf_ls_st1 (v := .ref x) hl1))
theorem hf_iinc {X : hf_X} {Y : hf_Y} {d k n pc : Nat} {l : List (Option Value)} {st : List Value} {M : hf_M} {Q : Option Value → hf_M → Prop} {i : Nat} {z : Int} {x v : Int32} {l2 : List (Option Value)} (hdg : decode Y.2.1 pc = .ok (.iinc i z, 3)) (hlt : i < Y.2.2.1) (hl0 : l[i]? = some (some (.int x))) (hv : x + Int32.ofInt z = v) (hl2 : hf_st1 l i (.int v) = l2) (h : hf_G X Y d k n (pc + 3) l2 st M Q) : hf_G X Y d k n pc l st M Q := by
  intro B ad D dA p la e s m args below meth c H locs cells slots mc ms ls hc hk hn hH hS hl
  obtain ⟨hx, hb, hr, hml, hown, hts, hlk, hnm, hw⟩ := id hc
  subst hl2
  obtain ⟨j, hj⟩ := List.getElem?_of_mem (hf_ll_mem (B := B) (ad := ad) (q := (i, .int x)).mpr ⟨_, hl0, rfl⟩)
  exact lv_iinc hx hb hdg (hf_has hl) hj hv hlt rfl (fun ls1 hl1 => h B ad D dA p la e s m args below meth c H locs cells slots mc ms ls1 hc hk hn hH hS (hf_ls_st1 (v := .int v) hl1))
theorem hf_iadd {X : hf_X} {Y : hf_Y} {d k n pc : Nat} {l : List (Option Value)} {st : List Value} {M : hf_M} {Q : Option Value → hf_M → Prop} {x y : Int32} (hdg : decode Y.2.1 pc = .ok (.iadd, 1)) (h : hf_G X Y d k n (pc + 1) l (.int (x + y) :: st) M Q) : hf_G X Y d k n pc l (.int y :: .int x :: st) M Q := by
  intro B ad D dA p la e s m args below meth c H locs cells slots mc ms ls hc hk hn hH hS hl
  obtain ⟨hx, hb, hr, hml, hown, hts, hlk, hnm, hw⟩ := id hc
  exact lv_iadd hx hb hdg (h B ad D dA p la e s m args below meth c H locs cells slots mc ms ls hc hk hn hH hS hl)
theorem hf_isub {X : hf_X} {Y : hf_Y} {d k n pc : Nat} {l : List (Option Value)} {st : List Value} {M : hf_M} {Q : Option Value → hf_M → Prop} {x y : Int32} (hdg : decode Y.2.1 pc = .ok (.isub, 1)) (h : hf_G X Y d k n (pc + 1) l (.int (x - y) :: st) M Q) : hf_G X Y d k n pc l (.int y :: .int x :: st) M Q := by
  intro B ad D dA p la e s m args below meth c H locs cells slots mc ms ls hc hk hn hH hS hl
  obtain ⟨hx, hb, hr, hml, hown, hts, hlk, hnm, hw⟩ := id hc
  exact lv_isub hx hb hdg (h B ad D dA p la e s m args below meth c H locs cells slots mc ms ls hc hk hn hH hS hl)
theorem hf_imul {X : hf_X} {Y : hf_Y} {d k n pc : Nat} {l : List (Option Value)} {st : List Value} {M : hf_M} {Q : Option Value → hf_M → Prop} {x y : Int32} (hdg : decode Y.2.1 pc = .ok (.imul, 1)) (h : hf_G X Y d k n (pc + 1) l (.int (x * y) :: st) M Q) : hf_G X Y d k n pc l (.int y :: .int x :: st) M Q := by
  intro B ad D dA p la e s m args below meth c H locs cells slots mc ms ls hc hk hn hH hS hl
  obtain ⟨hx, hb, hr, hml, hown, hts, hlk, hnm, hw⟩ := id hc
  exact lv_imul hx hb hdg (h B ad D dA p la e s m args below meth c H locs cells slots mc ms ls hc hk hn hH hS hl)
theorem hf_iand {X : hf_X} {Y : hf_Y} {d k n pc : Nat} {l : List (Option Value)} {st : List Value} {M : hf_M} {Q : Option Value → hf_M → Prop} {x y : Int32} (hdg : decode Y.2.1 pc = .ok (.iand, 1)) (h : hf_G X Y d k n (pc + 1) l (.int (x &&& y) :: st) M Q) : hf_G X Y d k n pc l (.int y :: .int x :: st) M Q := by
  intro B ad D dA p la e s m args below meth c H locs cells slots mc ms ls hc hk hn hH hS hl
  obtain ⟨hx, hb, hr, hml, hown, hts, hlk, hnm, hw⟩ := id hc
  exact lv_iand hx hb hdg (h B ad D dA p la e s m args below meth c H locs cells slots mc ms ls hc hk hn hH hS hl)
theorem hf_ishl {X : hf_X} {Y : hf_Y} {d k n pc : Nat} {l : List (Option Value)} {st : List Value} {M : hf_M} {Q : Option Value → hf_M → Prop} {x y : Int32} (hdg : decode Y.2.1 pc = .ok (.ishl, 1)) (h : hf_G X Y d k n (pc + 1) l (.int (x <<< (y &&& 31)) :: st) M Q) : hf_G X Y d k n pc l (.int y :: .int x :: st) M Q := by
  intro B ad D dA p la e s m args below meth c H locs cells slots mc ms ls hc hk hn hH hS hl
  obtain ⟨hx, hb, hr, hml, hown, hts, hlk, hnm, hw⟩ := id hc
  exact lv_ishl hx hb hdg (h B ad D dA p la e s m args below meth c H locs cells slots mc ms ls hc hk hn hH hS hl)
theorem hf_ishr {X : hf_X} {Y : hf_Y} {d k n pc : Nat} {l : List (Option Value)} {st : List Value} {M : hf_M} {Q : Option Value → hf_M → Prop} {x y : Int32} (hdg : decode Y.2.1 pc = .ok (.ishr, 1)) (h : hf_G X Y d k n (pc + 1) l (.int (x >>> (y &&& 31)) :: st) M Q) : hf_G X Y d k n pc l (.int y :: .int x :: st) M Q := by
  intro B ad D dA p la e s m args below meth c H locs cells slots mc ms ls hc hk hn hH hS hl
  obtain ⟨hx, hb, hr, hml, hown, hts, hlk, hnm, hw⟩ := id hc
  exact lv_ishr hx hb hdg (h B ad D dA p la e s m args below meth c H locs cells slots mc ms ls hc hk hn hH hS hl)
theorem hf_idiv {X : hf_X} {Y : hf_Y} {d k n pc : Nat} {l : List (Option Value)} {st : List Value} {M : hf_M} {Q : Option Value → hf_M → Prop} {x y : Int32} (hdg : decode Y.2.1 pc = .ok (.idiv, 1)) (hne : ¬ y = 0) (h : hf_G X Y d k n (pc + 1) l (.int (x / y) :: st) M Q) : hf_G X Y d k n pc l (.int y :: .int x :: st) M Q := by
  intro B ad D dA p la e s m args below meth c H locs cells slots mc ms ls hc hk hn hH hS hl
  obtain ⟨hx, hb, hr, hml, hown, hts, hlk, hnm, hw⟩ := id hc
  exact lv_idiv hx hb hdg hne (h B ad D dA p la e s m args below meth c H locs cells slots mc ms ls hc hk hn hH hS hl)
theorem hf_irem {X : hf_X} {Y : hf_Y} {d k n pc : Nat} {l : List (Option Value)} {st : List Value} {M : hf_M} {Q : Option Value → hf_M → Prop} {x y : Int32} (hdg : decode Y.2.1 pc = .ok (.irem, 1)) (hne : ¬ y = 0) (h : hf_G X Y d k n (pc + 1) l (.int (x - x / y * y) :: st) M Q) : hf_G X Y d k n pc l (.int y :: .int x :: st) M Q := by
  intro B ad D dA p la e s m args below meth c H locs cells slots mc ms ls hc hk hn hH hS hl
  obtain ⟨hx, hb, hr, hml, hown, hts, hlk, hnm, hw⟩ := id hc
  exact lv_irem hx hb hdg hne (h B ad D dA p la e s m args below meth c H locs cells slots mc ms ls hc hk hn hH hS hl)
theorem hf_ineg {X : hf_X} {Y : hf_Y} {d k n pc : Nat} {l : List (Option Value)} {st : List Value} {M : hf_M} {Q : Option Value → hf_M → Prop} {x : Int32} (hdg : decode Y.2.1 pc = .ok (.ineg, 1)) (h : hf_G X Y d k n (pc + 1) l (.int (-x) :: st) M Q) : hf_G X Y d k n pc l (.int x :: st) M Q := by
  intro B ad D dA p la e s m args below meth c H locs cells slots mc ms ls hc hk hn hH hS hl
  obtain ⟨hx, hb, hr, hml, hown, hts, hlk, hnm, hw⟩ := id hc
  exact lv_ineg hx hb hdg (h B ad D dA p la e s m args below meth c H locs cells slots mc ms ls hc hk hn hH hS hl)
theorem hf_iushr {X : hf_X} {Y : hf_Y} {d k n pc : Nat} {l : List (Option Value)} {st : List Value} {M : hf_M} {Q : Option Value → hf_M → Prop} {x y v : Int32} (hdg : decode Y.2.1 pc = .ok (.iushr, 1)) (hv : (x.toUInt32 >>> (y.toUInt32 &&& Int32.toUInt32 31)).toInt32 = v) (h : hf_G X Y d k n (pc + 1) l (.int v :: st) M Q) : hf_G X Y d k n pc l (.int y :: .int x :: st) M Q := by
  intro B ad D dA p la e s m args below meth c H locs cells slots mc ms ls hc hk hn hH hS hl
  obtain ⟨hx, hb, hr, hml, hown, hts, hlk, hnm, hw⟩ := id hc
  exact lv_iushr hx hb hdg hv (h B ad D dA p la e s m args below meth c H locs cells slots mc ms ls hc hk hn hH hS hl)
theorem hf_ladd {X : hf_X} {Y : hf_Y} {d k n pc : Nat} {l : List (Option Value)} {st : List Value} {M : hf_M} {Q : Option Value → hf_M → Prop} {x y : Int64} (hdg : decode Y.2.1 pc = .ok (.ladd, 1)) (h : hf_G X Y d k n (pc + 1) l (.long (x + y) :: st) M Q) : hf_G X Y d k n pc l (.long y :: .long x :: st) M Q := by
  intro B ad D dA p la e s m args below meth c H locs cells slots mc ms ls hc hk hn hH hS hl
  obtain ⟨hx, hb, hr, hml, hown, hts, hlk, hnm, hw⟩ := id hc
  exact lv_ladd hx hb hdg (h B ad D dA p la e s m args below meth c H locs cells slots mc ms ls hc hk hn hH hS hl)
theorem hf_lsub {X : hf_X} {Y : hf_Y} {d k n pc : Nat} {l : List (Option Value)} {st : List Value} {M : hf_M} {Q : Option Value → hf_M → Prop} {x y : Int64} (hdg : decode Y.2.1 pc = .ok (.lsub, 1)) (h : hf_G X Y d k n (pc + 1) l (.long (x - y) :: st) M Q) : hf_G X Y d k n pc l (.long y :: .long x :: st) M Q := by
  intro B ad D dA p la e s m args below meth c H locs cells slots mc ms ls hc hk hn hH hS hl
  obtain ⟨hx, hb, hr, hml, hown, hts, hlk, hnm, hw⟩ := id hc
  exact lv_lsub hx hb hdg (h B ad D dA p la e s m args below meth c H locs cells slots mc ms ls hc hk hn hH hS hl)
theorem hf_lmul {X : hf_X} {Y : hf_Y} {d k n pc : Nat} {l : List (Option Value)} {st : List Value} {M : hf_M} {Q : Option Value → hf_M → Prop} {x y : Int64} (hdg : decode Y.2.1 pc = .ok (.lmul, 1)) (h : hf_G X Y d k n (pc + 1) l (.long (x * y) :: st) M Q) : hf_G X Y d k n pc l (.long y :: .long x :: st) M Q := by
  intro B ad D dA p la e s m args below meth c H locs cells slots mc ms ls hc hk hn hH hS hl
  obtain ⟨hx, hb, hr, hml, hown, hts, hlk, hnm, hw⟩ := id hc
  exact lv_lmul hx hb hdg (h B ad D dA p la e s m args below meth c H locs cells slots mc ms ls hc hk hn hH hS hl)
theorem hf_land {X : hf_X} {Y : hf_Y} {d k n pc : Nat} {l : List (Option Value)} {st : List Value} {M : hf_M} {Q : Option Value → hf_M → Prop} {x y : Int64} (hdg : decode Y.2.1 pc = .ok (.land, 1)) (h : hf_G X Y d k n (pc + 1) l (.long (x &&& y) :: st) M Q) : hf_G X Y d k n pc l (.long y :: .long x :: st) M Q := by
  intro B ad D dA p la e s m args below meth c H locs cells slots mc ms ls hc hk hn hH hS hl
  obtain ⟨hx, hb, hr, hml, hown, hts, hlk, hnm, hw⟩ := id hc
  exact lv_land hx hb hdg (h B ad D dA p la e s m args below meth c H locs cells slots mc ms ls hc hk hn hH hS hl)
theorem hf_ldiv {X : hf_X} {Y : hf_Y} {d k n pc : Nat} {l : List (Option Value)} {st : List Value} {M : hf_M} {Q : Option Value → hf_M → Prop} {x y : Int64} (hdg : decode Y.2.1 pc = .ok (.ldiv, 1)) (hne : ¬ y = 0) (h : hf_G X Y d k n (pc + 1) l (.long (x / y) :: st) M Q) : hf_G X Y d k n pc l (.long y :: .long x :: st) M Q := by
  intro B ad D dA p la e s m args below meth c H locs cells slots mc ms ls hc hk hn hH hS hl
  obtain ⟨hx, hb, hr, hml, hown, hts, hlk, hnm, hw⟩ := id hc
  exact lv_ldiv hx hb hdg hne (h B ad D dA p la e s m args below meth c H locs cells slots mc ms ls hc hk hn hH hS hl)
theorem hf_lrem {X : hf_X} {Y : hf_Y} {d k n pc : Nat} {l : List (Option Value)} {st : List Value} {M : hf_M} {Q : Option Value → hf_M → Prop} {x y : Int64} (hdg : decode Y.2.1 pc = .ok (.lrem, 1)) (hne : ¬ y = 0) (h : hf_G X Y d k n (pc + 1) l (.long (x - x / y * y) :: st) M Q) : hf_G X Y d k n pc l (.long y :: .long x :: st) M Q := by
  intro B ad D dA p la e s m args below meth c H locs cells slots mc ms ls hc hk hn hH hS hl
  obtain ⟨hx, hb, hr, hml, hown, hts, hlk, hnm, hw⟩ := id hc
  exact lv_lrem hx hb hdg hne (h B ad D dA p la e s m args below meth c H locs cells slots mc ms ls hc hk hn hH hS hl)
theorem hf_lshl {X : hf_X} {Y : hf_Y} {d k n pc : Nat} {l : List (Option Value)} {st : List Value} {M : hf_M} {Q : Option Value → hf_M → Prop} {x v : Int64} {y : Int32} (hdg : decode Y.2.1 pc = .ok (.lshl, 1)) (hv : x <<< (y.toInt64 &&& 63) = v) (h : hf_G X Y d k n (pc + 1) l (.long v :: st) M Q) : hf_G X Y d k n pc l (.int y :: .long x :: st) M Q := by
  intro B ad D dA p la e s m args below meth c H locs cells slots mc ms ls hc hk hn hH hS hl
  obtain ⟨hx, hb, hr, hml, hown, hts, hlk, hnm, hw⟩ := id hc
  exact lv_lshl hx hb hdg hv (h B ad D dA p la e s m args below meth c H locs cells slots mc ms ls hc hk hn hH hS hl)
theorem hf_lshr {X : hf_X} {Y : hf_Y} {d k n pc : Nat} {l : List (Option Value)} {st : List Value} {M : hf_M} {Q : Option Value → hf_M → Prop} {x v : Int64} {y : Int32} (hdg : decode Y.2.1 pc = .ok (.lshr, 1)) (hv : x >>> (y.toInt64 &&& 63) = v) (h : hf_G X Y d k n (pc + 1) l (.long v :: st) M Q) : hf_G X Y d k n pc l (.int y :: .long x :: st) M Q := by
  intro B ad D dA p la e s m args below meth c H locs cells slots mc ms ls hc hk hn hH hS hl
  obtain ⟨hx, hb, hr, hml, hown, hts, hlk, hnm, hw⟩ := id hc
  exact lv_lshr hx hb hdg hv (h B ad D dA p la e s m args below meth c H locs cells slots mc ms ls hc hk hn hH hS hl)
theorem hf_lushr {X : hf_X} {Y : hf_Y} {d k n pc : Nat} {l : List (Option Value)} {st : List Value} {M : hf_M} {Q : Option Value → hf_M → Prop} {x v : Int64} {y : Int32} (hdg : decode Y.2.1 pc = .ok (.lushr, 1)) (hv : (x.toUInt64 >>> (y.toInt64.toUInt64 &&& Int64.toUInt64 63)).toInt64 = v) (h : hf_G X Y d k n (pc + 1) l (.long v :: st) M Q) : hf_G X Y d k n pc l (.int y :: .long x :: st) M Q := by
  intro B ad D dA p la e s m args below meth c H locs cells slots mc ms ls hc hk hn hH hS hl
  obtain ⟨hx, hb, hr, hml, hown, hts, hlk, hnm, hw⟩ := id hc
  exact lv_lushr hx hb hdg hv (h B ad D dA p la e s m args below meth c H locs cells slots mc ms ls hc hk hn hH hS hl)
theorem hf_lcmp {X : hf_X} {Y : hf_Y} {d k n pc : Nat} {l : List (Option Value)} {st : List Value} {M : hf_M} {Q : Option Value → hf_M → Prop} {x y : Int64} (hdg : decode Y.2.1 pc = .ok (.lcmp, 1)) (h : hf_G X Y d k n (pc + 1) l (.int (lg_cmp x y) :: st) M Q) : hf_G X Y d k n pc l (.long y :: .long x :: st) M Q := by
  intro B ad D dA p la e s m args below meth c H locs cells slots mc ms ls hc hk hn hH hS hl
  obtain ⟨hx, hb, hr, hml, hown, hts, hlk, hnm, hw⟩ := id hc
  exact W.lcmp hx hb hdg (h B ad D dA p la e s m args below meth c H locs cells slots mc ms ls hc hk hn hH hS hl)
theorem hf_i2l {X : hf_X} {Y : hf_Y} {d k n pc : Nat} {l : List (Option Value)} {st : List Value} {M : hf_M} {Q : Option Value → hf_M → Prop} {x : Int32} (hdg : decode Y.2.1 pc = .ok (.i2l, 1)) (h : hf_G X Y d k n (pc + 1) l (.long x.toInt64 :: st) M Q) : hf_G X Y d k n pc l (.int x :: st) M Q := by
  intro B ad D dA p la e s m args below meth c H locs cells slots mc ms ls hc hk hn hH hS hl
  obtain ⟨hx, hb, hr, hml, hown, hts, hlk, hnm, hw⟩ := id hc
  exact lv_i2l hx hb hdg rfl (h B ad D dA p la e s m args below meth c H locs cells slots mc ms ls hc hk hn hH hS hl)
theorem hf_l2i {X : hf_X} {Y : hf_Y} {d k n pc : Nat} {l : List (Option Value)} {st : List Value} {M : hf_M} {Q : Option Value → hf_M → Prop} {x : Int64} (hdg : decode Y.2.1 pc = .ok (.l2i, 1)) (h : hf_G X Y d k n (pc + 1) l (.int x.toInt32 :: st) M Q) : hf_G X Y d k n pc l (.long x :: st) M Q := by
  intro B ad D dA p la e s m args below meth c H locs cells slots mc ms ls hc hk hn hH hS hl
  obtain ⟨hx, hb, hr, hml, hown, hts, hlk, hnm, hw⟩ := id hc
  exact lv_l2i hx hb hdg rfl (h B ad D dA p la e s m args below meth c H locs cells slots mc ms ls hc hk hn hH hS hl)
theorem hf_i2b {X : hf_X} {Y : hf_Y} {d k n pc : Nat} {l : List (Option Value)} {st : List Value} {M : hf_M} {Q : Option Value → hf_M → Prop} {x : Int32} (hdg : decode Y.2.1 pc = .ok (.i2b, 1)) (h : hf_G X Y d k n (pc + 1) l (.int x.toInt8.toInt32 :: st) M Q) : hf_G X Y d k n pc l (.int x :: st) M Q := by
  intro B ad D dA p la e s m args below meth c H locs cells slots mc ms ls hc hk hn hH hS hl
  obtain ⟨hx, hb, hr, hml, hown, hts, hlk, hnm, hw⟩ := id hc
  exact lv_i2b hx hb hdg rfl (h B ad D dA p la e s m args below meth c H locs cells slots mc ms ls hc hk hn hH hS hl)
theorem hf_i2c {X : hf_X} {Y : hf_Y} {d k n pc : Nat} {l : List (Option Value)} {st : List Value} {M : hf_M} {Q : Option Value → hf_M → Prop} {x : Int32} (hdg : decode Y.2.1 pc = .ok (.i2c, 1)) (h : hf_G X Y d k n (pc + 1) l (.int (x.toUInt32 % 65536).toInt32 :: st) M Q) : hf_G X Y d k n pc l (.int x :: st) M Q := by
  intro B ad D dA p la e s m args below meth c H locs cells slots mc ms ls hc hk hn hH hS hl
  obtain ⟨hx, hb, hr, hml, hown, hts, hlk, hnm, hw⟩ := id hc
  exact lv_i2c hx hb hdg rfl (h B ad D dA p la e s m args below meth c H locs cells slots mc ms ls hc hk hn hH hS hl)
theorem hf_dup {X : hf_X} {Y : hf_Y} {d k n pc : Nat} {l : List (Option Value)} {st : List Value} {M : hf_M} {Q : Option Value → hf_M → Prop} {va : Value} (hdg : decode Y.2.1 pc = .ok (.dup, 1)) (hva : va.category = 1) (h : hf_G X Y d k n (pc + 1) l (va :: va :: st) M Q) : hf_G X Y d k n pc l (va :: st) M Q := by
  intro B ad D dA p la e s m args below meth c H locs cells slots mc ms ls hc hk hn hH hS hl
  obtain ⟨hx, hb, hr, hml, hown, hts, hlk, hnm, hw⟩ := id hc
  exact lv_dup hx hb hdg (by rw [hf_cat]; exact hva) (h B ad D dA p la e s m args below meth c H locs cells slots mc ms ls hc hk hn hH hS hl)
theorem hf_pop {X : hf_X} {Y : hf_Y} {d k n pc : Nat} {l : List (Option Value)} {st : List Value} {M : hf_M} {Q : Option Value → hf_M → Prop} {va : Value} (hdg : decode Y.2.1 pc = .ok (.pop, 1)) (hva : va.category = 1) (h : hf_G X Y d k n (pc + 1) l (st) M Q) : hf_G X Y d k n pc l (va :: st) M Q := by
  intro B ad D dA p la e s m args below meth c H locs cells slots mc ms ls hc hk hn hH hS hl
  obtain ⟨hx, hb, hr, hml, hown, hts, hlk, hnm, hw⟩ := id hc
  exact lv_pop hx hb hdg (by rw [hf_cat]; exact hva) (h B ad D dA p la e s m args below meth c H locs cells slots mc ms ls hc hk hn hH hS hl)
theorem hf_dup_x1 {X : hf_X} {Y : hf_Y} {d k n pc : Nat} {l : List (Option Value)} {st : List Value} {M : hf_M} {Q : Option Value → hf_M → Prop} {va vb : Value} (hdg : decode Y.2.1 pc = .ok (.dup_x1, 1)) (hva : va.category = 1) (hvb : vb.category = 1) (h : hf_G X Y d k n (pc + 1) l (va :: vb :: va :: st) M Q) : hf_G X Y d k n pc l (va :: vb :: st) M Q := by
  intro B ad D dA p la e s m args below meth c H locs cells slots mc ms ls hc hk hn hH hS hl
  obtain ⟨hx, hb, hr, hml, hown, hts, hlk, hnm, hw⟩ := id hc
  exact lv_dup_x1 hx hb hdg (by rw [hf_cat]; exact hva) (by rw [hf_cat]; exact hvb) (h B ad D dA p la e s m args below meth c H locs cells slots mc ms ls hc hk hn hH hS hl)
theorem hf_dup2 {X : hf_X} {Y : hf_Y} {d k n pc : Nat} {l : List (Option Value)} {st : List Value} {M : hf_M} {Q : Option Value → hf_M → Prop} {va vb : Value} (hdg : decode Y.2.1 pc = .ok (.dup2, 1)) (hva : va.category = 1) (hvb : vb.category = 1) (h : hf_G X Y d k n (pc + 1) l (va :: vb :: va :: vb :: st) M Q) : hf_G X Y d k n pc l (va :: vb :: st) M Q := by
  intro B ad D dA p la e s m args below meth c H locs cells slots mc ms ls hc hk hn hH hS hl
  obtain ⟨hx, hb, hr, hml, hown, hts, hlk, hnm, hw⟩ := id hc
  exact lv_dup2_11 hx hb hdg (by rw [hf_cat]; exact hva) (by rw [hf_cat]; exact hvb) (h B ad D dA p la e s m args below meth c H locs cells slots mc ms ls hc hk hn hH hS hl)
theorem hf_null {X : hf_X} {Y : hf_Y} {d k n pc : Nat} {l : List (Option Value)} {st : List Value} {M : hf_M} {Q : Option Value → hf_M → Prop} (hdg : decode Y.2.1 pc = .ok (.aconst_null, 1)) (h : hf_G X Y d k n (pc + 1) l (.null :: st) M Q) : hf_G X Y d k n pc l (st) M Q := by
  intro B ad D dA p la e s m args below meth c H locs cells slots mc ms ls hc hk hn hH hS hl
  obtain ⟨hx, hb, hr, hml, hown, hts, hlk, hnm, hw⟩ := id hc
  exact lv_null hx hb hdg (h B ad D dA p la e s m args below meth c H locs cells slots mc ms ls hc hk hn hH hS hl)
theorem hf_goto {X : hf_X} {Y : hf_Y} {d k n pc : Nat} {l : List (Option Value)} {st : List Value} {M : hf_M} {Q : Option Value → hf_M → Prop} {off : Int} {tgt : Nat} (hdg : decode Y.2.1 pc = .ok (.goto off, 3)) (ht : (pc : Int) + off = (tgt : Int)) (h : hf_G X Y d k n tgt l st M Q) : hf_G X Y d k n pc l st M Q := by
  intro B ad D dA p la e s m args below meth c H locs cells slots mc ms ls hc hk hn hH hS hl
  obtain ⟨hx, hb, hr, hml, hown, hts, hlk, hnm, hw⟩ := id hc
  exact lv_goto hx hb hdg ht (h B ad D dA p la e s m args below meth c H locs cells slots mc ms ls hc hk hn hH hS hl)
theorem hf_if_eq {X : hf_X} {Y : hf_Y} {d k n pc : Nat} {l : List (Option Value)} {st : List Value} {M : hf_M} {Q : Option Value → hf_M → Prop} {x : Int32} {off : Int} {tgt : Nat} (hdg : decode Y.2.1 pc = .ok (.ifCond .eq off, 3)) (ht : (pc : Int) + off = (tgt : Int)) (h1 : x = 0 → hf_G X Y d k n tgt l st M Q) (h2 : ¬ (x = 0) → hf_G X Y d k n (pc + 3) l st M Q) : hf_G X Y d k n pc l (.int x :: st) M Q := by
  intro B ad D dA p la e s m args below meth c H locs cells slots mc ms ls hc hk hn hH hS hl
  obtain ⟨hx, hb, hr, hml, hown, hts, hlk, hnm, hw⟩ := id hc
  exact lv_if_eq hx hb hdg ht (fun q => h1 q B ad D dA p la e s m args below meth c H locs cells slots mc ms ls hc hk hn hH hS hl) (fun q => h2 q B ad D dA p la e s m args below meth c H locs cells slots mc ms ls hc hk hn hH hS hl)
theorem hf_icmp_eq {X : hf_X} {Y : hf_Y} {d k n pc : Nat} {l : List (Option Value)} {st : List Value} {M : hf_M} {Q : Option Value → hf_M → Prop} {x y : Int32} {off : Int} {tgt : Nat} (hdg : decode Y.2.1 pc = .ok (.if_icmp .eq off, 3)) (ht : (pc : Int) + off = (tgt : Int)) (h1 : x = y → hf_G X Y d k n tgt l st M Q) (h2 : ¬ (x = y) → hf_G X Y d k n (pc + 3) l st M Q) : hf_G X Y d k n pc l (.int y :: .int x :: st) M Q := by
  intro B ad D dA p la e s m args below meth c H locs cells slots mc ms ls hc hk hn hH hS hl
  obtain ⟨hx, hb, hr, hml, hown, hts, hlk, hnm, hw⟩ := id hc
  exact lv_icmp_eq hx hb hdg ht (fun q => h1 q B ad D dA p la e s m args below meth c H locs cells slots mc ms ls hc hk hn hH hS hl) (fun q => h2 q B ad D dA p la e s m args below meth c H locs cells slots mc ms ls hc hk hn hH hS hl)
theorem hf_if_ne {X : hf_X} {Y : hf_Y} {d k n pc : Nat} {l : List (Option Value)} {st : List Value} {M : hf_M} {Q : Option Value → hf_M → Prop} {x : Int32} {off : Int} {tgt : Nat} (hdg : decode Y.2.1 pc = .ok (.ifCond .ne off, 3)) (ht : (pc : Int) + off = (tgt : Int)) (h1 : ¬ x = 0 → hf_G X Y d k n tgt l st M Q) (h2 : x = 0 → hf_G X Y d k n (pc + 3) l st M Q) : hf_G X Y d k n pc l (.int x :: st) M Q := by
  intro B ad D dA p la e s m args below meth c H locs cells slots mc ms ls hc hk hn hH hS hl
  obtain ⟨hx, hb, hr, hml, hown, hts, hlk, hnm, hw⟩ := id hc
  exact lv_if_ne hx hb hdg ht (fun q => h1 q B ad D dA p la e s m args below meth c H locs cells slots mc ms ls hc hk hn hH hS hl) (fun q => h2 q B ad D dA p la e s m args below meth c H locs cells slots mc ms ls hc hk hn hH hS hl)
theorem hf_icmp_ne {X : hf_X} {Y : hf_Y} {d k n pc : Nat} {l : List (Option Value)} {st : List Value} {M : hf_M} {Q : Option Value → hf_M → Prop} {x y : Int32} {off : Int} {tgt : Nat} (hdg : decode Y.2.1 pc = .ok (.if_icmp .ne off, 3)) (ht : (pc : Int) + off = (tgt : Int)) (h1 : ¬ x = y → hf_G X Y d k n tgt l st M Q) (h2 : x = y → hf_G X Y d k n (pc + 3) l st M Q) : hf_G X Y d k n pc l (.int y :: .int x :: st) M Q := by
  intro B ad D dA p la e s m args below meth c H locs cells slots mc ms ls hc hk hn hH hS hl
  obtain ⟨hx, hb, hr, hml, hown, hts, hlk, hnm, hw⟩ := id hc
  exact lv_icmp_ne hx hb hdg ht (fun q => h1 q B ad D dA p la e s m args below meth c H locs cells slots mc ms ls hc hk hn hH hS hl) (fun q => h2 q B ad D dA p la e s m args below meth c H locs cells slots mc ms ls hc hk hn hH hS hl)
theorem hf_if_lt {X : hf_X} {Y : hf_Y} {d k n pc : Nat} {l : List (Option Value)} {st : List Value} {M : hf_M} {Q : Option Value → hf_M → Prop} {x : Int32} {off : Int} {tgt : Nat} (hdg : decode Y.2.1 pc = .ok (.ifCond .lt off, 3)) (ht : (pc : Int) + off = (tgt : Int)) (h1 : x < 0 → hf_G X Y d k n tgt l st M Q) (h2 : ¬ (x < 0) → hf_G X Y d k n (pc + 3) l st M Q) : hf_G X Y d k n pc l (.int x :: st) M Q := by
  intro B ad D dA p la e s m args below meth c H locs cells slots mc ms ls hc hk hn hH hS hl
  obtain ⟨hx, hb, hr, hml, hown, hts, hlk, hnm, hw⟩ := id hc
  exact lv_if_lt hx hb hdg ht (fun q => h1 q B ad D dA p la e s m args below meth c H locs cells slots mc ms ls hc hk hn hH hS hl) (fun q => h2 q B ad D dA p la e s m args below meth c H locs cells slots mc ms ls hc hk hn hH hS hl)
theorem hf_icmp_lt {X : hf_X} {Y : hf_Y} {d k n pc : Nat} {l : List (Option Value)} {st : List Value} {M : hf_M} {Q : Option Value → hf_M → Prop} {x y : Int32} {off : Int} {tgt : Nat} (hdg : decode Y.2.1 pc = .ok (.if_icmp .lt off, 3)) (ht : (pc : Int) + off = (tgt : Int)) (h1 : x < y → hf_G X Y d k n tgt l st M Q) (h2 : ¬ (x < y) → hf_G X Y d k n (pc + 3) l st M Q) : hf_G X Y d k n pc l (.int y :: .int x :: st) M Q := by
  intro B ad D dA p la e s m args below meth c H locs cells slots mc ms ls hc hk hn hH hS hl
  obtain ⟨hx, hb, hr, hml, hown, hts, hlk, hnm, hw⟩ := id hc
  exact lv_icmp_lt hx hb hdg ht (fun q => h1 q B ad D dA p la e s m args below meth c H locs cells slots mc ms ls hc hk hn hH hS hl) (fun q => h2 q B ad D dA p la e s m args below meth c H locs cells slots mc ms ls hc hk hn hH hS hl)
theorem hf_if_ge {X : hf_X} {Y : hf_Y} {d k n pc : Nat} {l : List (Option Value)} {st : List Value} {M : hf_M} {Q : Option Value → hf_M → Prop} {x : Int32} {off : Int} {tgt : Nat} (hdg : decode Y.2.1 pc = .ok (.ifCond .ge off, 3)) (ht : (pc : Int) + off = (tgt : Int)) (h1 : 0 ≤ x → hf_G X Y d k n tgt l st M Q) (h2 : ¬ (0 ≤ x) → hf_G X Y d k n (pc + 3) l st M Q) : hf_G X Y d k n pc l (.int x :: st) M Q := by
  intro B ad D dA p la e s m args below meth c H locs cells slots mc ms ls hc hk hn hH hS hl
  obtain ⟨hx, hb, hr, hml, hown, hts, hlk, hnm, hw⟩ := id hc
  exact lv_if_ge hx hb hdg ht (fun q => h1 q B ad D dA p la e s m args below meth c H locs cells slots mc ms ls hc hk hn hH hS hl) (fun q => h2 q B ad D dA p la e s m args below meth c H locs cells slots mc ms ls hc hk hn hH hS hl)
theorem hf_icmp_ge {X : hf_X} {Y : hf_Y} {d k n pc : Nat} {l : List (Option Value)} {st : List Value} {M : hf_M} {Q : Option Value → hf_M → Prop} {x y : Int32} {off : Int} {tgt : Nat} (hdg : decode Y.2.1 pc = .ok (.if_icmp .ge off, 3)) (ht : (pc : Int) + off = (tgt : Int)) (h1 : y ≤ x → hf_G X Y d k n tgt l st M Q) (h2 : ¬ (y ≤ x) → hf_G X Y d k n (pc + 3) l st M Q) : hf_G X Y d k n pc l (.int y :: .int x :: st) M Q := by
  intro B ad D dA p la e s m args below meth c H locs cells slots mc ms ls hc hk hn hH hS hl
  obtain ⟨hx, hb, hr, hml, hown, hts, hlk, hnm, hw⟩ := id hc
  exact lv_icmp_ge hx hb hdg ht (fun q => h1 q B ad D dA p la e s m args below meth c H locs cells slots mc ms ls hc hk hn hH hS hl) (fun q => h2 q B ad D dA p la e s m args below meth c H locs cells slots mc ms ls hc hk hn hH hS hl)
theorem hf_if_gt {X : hf_X} {Y : hf_Y} {d k n pc : Nat} {l : List (Option Value)} {st : List Value} {M : hf_M} {Q : Option Value → hf_M → Prop} {x : Int32} {off : Int} {tgt : Nat} (hdg : decode Y.2.1 pc = .ok (.ifCond .gt off, 3)) (ht : (pc : Int) + off = (tgt : Int)) (h1 : 0 < x → hf_G X Y d k n tgt l st M Q) (h2 : ¬ (0 < x) → hf_G X Y d k n (pc + 3) l st M Q) : hf_G X Y d k n pc l (.int x :: st) M Q := by
  intro B ad D dA p la e s m args below meth c H locs cells slots mc ms ls hc hk hn hH hS hl
  obtain ⟨hx, hb, hr, hml, hown, hts, hlk, hnm, hw⟩ := id hc
  exact lv_if_gt hx hb hdg ht (fun q => h1 q B ad D dA p la e s m args below meth c H locs cells slots mc ms ls hc hk hn hH hS hl) (fun q => h2 q B ad D dA p la e s m args below meth c H locs cells slots mc ms ls hc hk hn hH hS hl)
theorem hf_icmp_gt {X : hf_X} {Y : hf_Y} {d k n pc : Nat} {l : List (Option Value)} {st : List Value} {M : hf_M} {Q : Option Value → hf_M → Prop} {x y : Int32} {off : Int} {tgt : Nat} (hdg : decode Y.2.1 pc = .ok (.if_icmp .gt off, 3)) (ht : (pc : Int) + off = (tgt : Int)) (h1 : y < x → hf_G X Y d k n tgt l st M Q) (h2 : ¬ (y < x) → hf_G X Y d k n (pc + 3) l st M Q) : hf_G X Y d k n pc l (.int y :: .int x :: st) M Q := by
  intro B ad D dA p la e s m args below meth c H locs cells slots mc ms ls hc hk hn hH hS hl
  obtain ⟨hx, hb, hr, hml, hown, hts, hlk, hnm, hw⟩ := id hc
  exact lv_icmp_gt hx hb hdg ht (fun q => h1 q B ad D dA p la e s m args below meth c H locs cells slots mc ms ls hc hk hn hH hS hl) (fun q => h2 q B ad D dA p la e s m args below meth c H locs cells slots mc ms ls hc hk hn hH hS hl)
theorem hf_if_le {X : hf_X} {Y : hf_Y} {d k n pc : Nat} {l : List (Option Value)} {st : List Value} {M : hf_M} {Q : Option Value → hf_M → Prop} {x : Int32} {off : Int} {tgt : Nat} (hdg : decode Y.2.1 pc = .ok (.ifCond .le off, 3)) (ht : (pc : Int) + off = (tgt : Int)) (h1 : x ≤ 0 → hf_G X Y d k n tgt l st M Q) (h2 : ¬ (x ≤ 0) → hf_G X Y d k n (pc + 3) l st M Q) : hf_G X Y d k n pc l (.int x :: st) M Q := by
  intro B ad D dA p la e s m args below meth c H locs cells slots mc ms ls hc hk hn hH hS hl
  obtain ⟨hx, hb, hr, hml, hown, hts, hlk, hnm, hw⟩ := id hc
  exact lv_if_le hx hb hdg ht (fun q => h1 q B ad D dA p la e s m args below meth c H locs cells slots mc ms ls hc hk hn hH hS hl) (fun q => h2 q B ad D dA p la e s m args below meth c H locs cells slots mc ms ls hc hk hn hH hS hl)
theorem hf_icmp_le {X : hf_X} {Y : hf_Y} {d k n pc : Nat} {l : List (Option Value)} {st : List Value} {M : hf_M} {Q : Option Value → hf_M → Prop} {x y : Int32} {off : Int} {tgt : Nat} (hdg : decode Y.2.1 pc = .ok (.if_icmp .le off, 3)) (ht : (pc : Int) + off = (tgt : Int)) (h1 : x ≤ y → hf_G X Y d k n tgt l st M Q) (h2 : ¬ (x ≤ y) → hf_G X Y d k n (pc + 3) l st M Q) : hf_G X Y d k n pc l (.int y :: .int x :: st) M Q := by
  intro B ad D dA p la e s m args below meth c H locs cells slots mc ms ls hc hk hn hH hS hl
  obtain ⟨hx, hb, hr, hml, hown, hts, hlk, hnm, hw⟩ := id hc
  exact lv_icmp_le hx hb hdg ht (fun q => h1 q B ad D dA p la e s m args below meth c H locs cells slots mc ms ls hc hk hn hH hS hl) (fun q => h2 q B ad D dA p la e s m args below meth c H locs cells slots mc ms ls hc hk hn hH hS hl)
theorem hf_ifnonnull {X : hf_X} {Y : hf_Y} {d k n pc : Nat} {l : List (Option Value)} {st : List Value} {M : hf_M} {Q : Option Value → hf_M → Prop} {x : Nat} {off : Int} {tgt : Nat} (hdg : decode Y.2.1 pc = .ok (.ifnonnull off, 3)) (ht : (pc : Int) + off = (tgt : Int)) (h : hf_G X Y d k n tgt l st M Q) : hf_G X Y d k n pc l (.ref x :: st) M Q := by
  intro B ad D dA p la e s m args below meth c H locs cells slots mc ms ls hc hk hn hH hS hl
  obtain ⟨hx, hb, hr, hml, hown, hts, hlk, hnm, hw⟩ := id hc
  exact lv_ifnonnull hx hb hdg ht (h B ad D dA p la e s m args below meth c H locs cells slots mc ms ls hc hk hn hH hS hl)
theorem hf_tableOut {X : hf_X} {Y : hf_Y} {d k n pc : Nat} {l : List (Option Value)} {st : List Value} {M : hf_M} {Q : Option Value → hf_M → Prop} {dflt lo hi : Int} {offs : Array Int} {len : Nat} {x : Int32} {tgt : Nat} (hdg : decode Y.2.1 pc = .ok (.tableswitch dflt lo hi offs, len)) (hq : x.toInt < lo ∨ hi < x.toInt) (ht : (pc : Int) + dflt = (tgt : Int)) (h : hf_G X Y d k n tgt l st M Q) : hf_G X Y d k n pc l (.int x :: st) M Q := by
  intro B ad D dA p la e s m args below meth c H locs cells slots mc ms ls hc hk hn hH hS hl
  obtain ⟨hx, hb, hr, hml, hown, hts, hlk, hnm, hw⟩ := id hc
  exact lv_tableOut hx hb hdg hq ht (h B ad D dA p la e s m args below meth c H locs cells slots mc ms ls hc hk hn hH hS hl)
theorem hf_tableIn {X : hf_X} {Y : hf_Y} {d k n pc : Nat} {l : List (Option Value)} {st : List Value} {M : hf_M} {Q : Option Value → hf_M → Prop} {dflt lo hi : Int} {offs : Array Int} {len : Nat} {x : Int32} {off : Int} {tgt : Nat} (hdg : decode Y.2.1 pc = .ok (.tableswitch dflt lo hi offs, len)) (h1 : ¬ x.toInt < lo) (h2 : ¬ hi < x.toInt) (ho : offs[(x.toInt - lo).toNat]? = some off) (ht : (pc : Int) + off = (tgt : Int)) (h : hf_G X Y d k n tgt l st M Q) : hf_G X Y d k n pc l (.int x :: st) M Q := by
  intro B ad D dA p la e s m args below meth c H locs cells slots mc ms ls hc hk hn hH hS hl
  obtain ⟨hx, hb, hr, hml, hown, hts, hlk, hnm, hw⟩ := id hc
  exact lv_tableIn hx hb hdg h1 h2 ho ht (h B ad D dA p la e s m args below meth c H locs cells slots mc ms ls hc hk hn hH hS hl)
theorem hf_lookup {X : hf_X} {Y : hf_Y} {d k n pc : Nat} {l : List (Option Value)} {st : List Value} {M : hf_M} {Q : Option Value → hf_M → Prop} {dflt : Int} {ps : Array (Int × Int)} {len : Nat} {x : Int32} {off : Int} {tgt : Nat} (hdg : decode Y.2.1 pc = .ok (.lookupswitch dflt ps, len)) (hp : (ps.toList.zip (ps.toList.drop 1)).all (fun (a, next) => a.1 < next.1) = true) (ho : Op.lookupswitch.offset ps.toList dflt x.toInt = off) (ht : (pc : Int) + off = (tgt : Int)) (h : hf_G X Y d k n tgt l st M Q) : hf_G X Y d k n pc l (.int x :: st) M Q := by
  intro B ad D dA p la e s m args below meth c H locs cells slots mc ms ls hc hk hn hH hS hl
  obtain ⟨hx, hb, hr, hml, hown, hts, hlk, hnm, hw⟩ := id hc
  exact lv_lookup hx hb hdg hp ho ht (h B ad D dA p la e s m args below meth c H locs cells slots mc ms ls hc hk hn hH hS hl)
theorem hf_ireturn {X : hf_X} {Y : hf_Y} {d k n pc : Nat} {l : List (Option Value)} {M : hf_M} {Q : Option Value → hf_M → Prop} {x : Int32} {ty : FieldType} (hdg : decode Y.2.1 pc = .ok (.ireturn, 1)) (hret : Y.2.2.2 = some ty) (hnar : narrow ty (.int x) = .int x) (h : Q (some (.int x)) M) : hf_G X Y d k n pc l [.int x] M Q := by
  intro B ad D dA p la e s m args below meth c H locs cells slots mc ms ls hc hk hn hH hS hl
  obtain ⟨hx, hb, hr, hml, hown, hts, hlk, hnm, hw⟩ := id hc
  refine W.widen (k := mc) (n := ms) (by omega) (by omega) ?_
  exact W.zret (v := x) hx hb (hr.trans hret) hnar (fun t ht hW => ⟨⟨some (.int x), M, rfl, h, by rw [ht]; exact hH⟩, hS.F ht⟩) hS.2.2 hdg hlk
theorem hf_return {X : hf_X} {Y : hf_Y} {d k n pc : Nat} {l : List (Option Value)} {M : hf_M} {Q : Option Value → hf_M → Prop} (hdg : decode Y.2.1 pc = .ok (.return_, 1)) (hret : Y.2.2.2 = none) (h : Q none M) : hf_G X Y d k n pc l [] M Q := by
  intro B ad D dA p la e s m args below meth c H locs cells slots mc ms ls hc hk hn hH hS hl
  obtain ⟨hx, hb, hr, hml, hown, hts, hlk, hnm, hw⟩ := id hc
  refine W.widen (k := mc) (n := ms) (by omega) (by omega) ?_
  exact W.vret hx hb (hr.trans hret) (fun t ht hW => ⟨⟨none, M, rfl, h, by rw [ht]; exact hH⟩, hS.F ht⟩) hS.2.2 hdg hlk
theorem hf_lreturn {X : hf_X} {Y : hf_Y} {d k n pc : Nat} {l : List (Option Value)} {M : hf_M} {Q : Option Value → hf_M → Prop} {x : Int64} (hdg : decode Y.2.1 pc = .ok (.lreturn, 1)) (hret : Y.2.2.2 = some .long) (h : Q (some (.long x)) M) : hf_G X Y d k n pc l [.long x] M Q := by
  intro B ad D dA p la e s m args below meth c H locs cells slots mc ms ls hc hk hn hH hS hl
  obtain ⟨hx, hb, hr, hml, hown, hts, hlk, hnm, hw⟩ := id hc
  refine W.widen (k := mc) (n := ms) (by omega) (by omega) ?_
  exact W.lret (v := x) hx hb (hr.trans hret) (fun t ht hW => ⟨⟨some (.long x), M, rfl, h, by rw [ht]; exact hH⟩, hS.F ht⟩) hS.2.2 hdg hlk
theorem hf_areturn {X : hf_X} {Y : hf_Y} {d k n pc : Nat} {l : List (Option Value)} {M : hf_M} {Q : Option Value → hf_M → Prop} {x : Nat} {rt : FieldType} (hdg : decode Y.2.1 pc = .ok (.areturn, 1)) (hret : Y.2.2.2 = some rt) (hrt : (∃ n, rt = .object n) ∨ ∃ t, rt = .array t) (h : Q (some (.ref x)) M) : hf_G X Y d k n pc l [.ref x] M Q := by
  intro B ad D dA p la e s m args below meth c H locs cells slots mc ms ls hc hk hn hH hS hl
  obtain ⟨hx, hb, hr, hml, hown, hts, hlk, hnm, hw⟩ := id hc
  refine W.widen (k := mc) (n := ms) (by omega) (by omega) ?_
  exact W.aret (v := .ref (hf_ad B ad x)) hx hb (hr.trans hret) hrt (Or.inr ⟨_, rfl⟩) (fun t ht hW => ⟨⟨some (.ref x), M, rfl, h, by rw [ht]; exact hH⟩, hS.F ht⟩) hS.2.2 hdg hlk
