section HST
variable {X : hf_X} {Y Z : hf_Y} {d k n k1 n1 pc ix nargs : Nat} {l : List (Option Value)} {st st0 : List Value} {Q : Option Value → hf_M → Prop} {M : hf_M}
theorem hf_ad_lo {B : Nat} {ad : Nat → Nat} {k : Nat} (h : k < 100) : hf_ad B ad k = ad k := if_pos h
theorem hf_ldcS {i : Nat} {q : Nat × String} (hdg : decode Y.2.1 pc = .ok (.ldc q.1, 2)) (hcl : Y.1.cls = RX5) (hq : hf_strs[i]? = some q) (h : hf_G X Y d k n (pc + 2) l (.ref (1 + i) :: st) M Q) : hf_G X Y d k n pc l st M Q := by
  intro B ad D dA p la e s m args below meth c0 H locs cells slots mc ms ls hc0 hk hn hH hS hl
  obtain ⟨hx, hb, hr, hml, hown, hts, hlk, hnm, hw⟩ := id hc0
  obtain ⟨hz1, hz2, hz3, v0, hv0, hz4⟩ := hw.2.2.2.2.2
  have hi : i < 12 := (List.getElem?_eq_some_iff.mp hq).1
  have hcon := (h B ad D dA p la e s m args below meth c0 H locs cells slots mc ms ls hc0 hk hn hH hS hl)
  have e : (Value.ref (1 + i) :: st).map (hf_v B ad) = .ref (ad (1 + i)) :: st.map (hf_v B ad) := by
    show Value.ref (hf_ad B ad (1 + i)) :: _ = _
    rw [hf_ad_lo (by omega)]
  rw [e] at hcon
  rw [hcl] at hown
  exact va_ldcS hx hb hown (hz1 i q hq) hdg hcon
theorem hf_sval {i : Nat} (hi : i < 12) (hdg : decode Y.2.1 pc = .ok (.getfield ix, 3)) (hw0 : Cond.fieldLink Y.1.cls ix "java/lang/String" "value" "[B" ∈ hf_tb) (h : hf_G X Y d k n (pc + 3) l (.ref (21 + i) :: st) M Q) : hf_G X Y d k n pc l (.ref (1 + i) :: st) M Q := by
  intro B ad D dA p la e s m args below meth c0 H locs cells slots mc ms ls hc0 hk hn hH hS hl
  obtain ⟨hx, hb, hr, hml, hown, hts, hlk, hnm, hw⟩ := id hc0
  obtain ⟨hz1, hz2, hz3, v0, hv0, hz4⟩ := hw.2.2.2.2.2
  have hcon := (h B ad D dA p la e s m args below meth c0 H locs cells slots mc ms ls hc0 hk hn hH hS hl)
  have e : (Value.ref (21 + i) :: st).map (hf_v B ad) = .ref (ad (21 + i)) :: st.map (hf_v B ad) := by
    show Value.ref (hf_ad B ad (21 + i)) :: _ = _
    rw [hf_ad_lo (by omega)]
  have e2 : (Value.ref (1 + i) :: st).map (hf_v B ad) = .ref (ad (1 + i)) :: st.map (hf_v B ad) := by
    show Value.ref (hf_ad B ad (1 + i)) :: _ = _
    rw [hf_ad_lo (by omega)]
  rw [e] at hcon
  rw [e2]
  exact vk_getf hx hb (hz2.1 i hi).2.2.1 hS hown (hts _ hw0) (fun _ q => q) hdg hcon
theorem hf_scod {i : Nat} (hi : i < 12) (hdg : decode Y.2.1 pc = .ok (.getfield ix, 3)) (hw0 : Cond.fieldLink Y.1.cls ix "java/lang/String" "coder" "B" ∈ hf_tb) (h : hf_G X Y d k n (pc + 3) l (.int 0 :: st) M Q) : hf_G X Y d k n pc l (.ref (1 + i) :: st) M Q := by
  intro B ad D dA p la e s m args below meth c0 H locs cells slots mc ms ls hc0 hk hn hH hS hl
  obtain ⟨hx, hb, hr, hml, hown, hts, hlk, hnm, hw⟩ := id hc0
  obtain ⟨hz1, hz2, hz3, v0, hv0, hz4⟩ := hw.2.2.2.2.2
  have hcon := (h B ad D dA p la e s m args below meth c0 H locs cells slots mc ms ls hc0 hk hn hH hS hl)
  have e2 : (Value.ref (1 + i) :: st).map (hf_v B ad) = .ref (ad (1 + i)) :: st.map (hf_v B ad) := by
    show Value.ref (hf_ad B ad (1 + i)) :: _ = _
    rw [hf_ad_lo (by omega)]
  rw [e2]
  exact vk_getf hx hb (hz2.1 i hi).2.1 hS hown (hts _ hw0) (fun _ q => q) hdg hcon
theorem hf_sbl {i : Nat} (hi : i < 12) (hdg : decode Y.2.1 pc = .ok (.arraylength, 1)) (h : hf_G X Y d k n (pc + 1) l (.int (Int32.ofNat (hf_sln.getD i 0)) :: st) M Q) : hf_G X Y d k n pc l (.ref (21 + i) :: st) M Q := by
  intro B ad D dA p la e s m args below meth c0 H locs cells slots mc ms ls hc0 hk hn hH hS hl
  obtain ⟨hx, hb, hr, hml, hown, hts, hlk, hnm, hw⟩ := id hc0
  obtain ⟨hz1, hz2, hz3, v0, hv0, hz4⟩ := hw.2.2.2.2.2
  have hcon := (h B ad D dA p la e s m args below meth c0 H locs cells slots mc ms ls hc0 hk hn hH hS hl)
  have e2 : (Value.ref (21 + i) :: st).map (hf_v B ad) = .ref (ad (21 + i)) :: st.map (hf_v B ad) := by
    show Value.ref (hf_ad B ad (21 + i)) :: _ = _
    rw [hf_ad_lo (by omega)]
  rw [e2]
  exact va_tlen hx hb (hz2.1 i hi).2.2.2 hS rfl hdg hcon
theorem hf_sbld {i : Nat} {x : Int32} (hi : i < 12) (hin : vp_in x (hf_sln.getD i 0)) (hdg : decode Y.2.1 pc = .ok (.baload, 1)) (h : hf_G X Y d k n (pc + 1) l (.int ((hf_sby.getD i []).getD x.toNatClampNeg 0) :: st) M Q) : hf_G X Y d k n pc l (.int x :: .ref (21 + i) :: st) M Q := by
  intro B ad D dA p la e s m args below meth c0 H locs cells slots mc ms ls hc0 hk hn hH hS hl
  obtain ⟨hx, hb, hr, hml, hown, hts, hlk, hnm, hw⟩ := id hc0
  obtain ⟨hz1, hz2, hz3, v0, hv0, hz4⟩ := hw.2.2.2.2.2
  have hcon := (h B ad D dA p la e s m args below meth c0 H locs cells slots mc ms ls hc0 hk hn hH hS hl)
  have e2 : (Value.int x :: .ref (21 + i) :: st).map (hf_v B ad) = .int x :: .ref (ad (21 + i)) :: st.map (hf_v B ad) := by
    show Value.int x :: Value.ref (hf_ad B ad (21 + i)) :: _ = _
    rw [hf_ad_lo (by omega)]
  rw [e2]
  exact va_tb hx hb (hz2.1 i hi).2.2.2 hS hin rfl hdg hcon
theorem hf_gcs (hdg : decode Y.2.1 pc = .ok (.getstatic ix, 3)) (hw0 : Cond.fieldLink Y.1.cls ix "java/lang/String" "COMPACT_STRINGS" "Z" ∈ hf_tb) (h : hf_G X Y d k n (pc + 3) l (.int 1 :: st) M Q) : hf_G X Y d k n pc l st M Q := by
  intro B ad D dA p la e s m args below meth c0 H locs cells slots mc ms ls hc0 hk hn hH hS hl
  obtain ⟨hx, hb, hr, hml, hown, hts, hlk, hnm, hw⟩ := id hc0
  obtain ⟨hz1, hz2, hz3, v0, hv0, hz4⟩ := hw.2.2.2.2.2
  exact va_gets hx hb hz3 hS hown (hts _ hw0) (fun _ q => q) hdg (h B ad D dA p la e s m args below meth c0 H locs cells slots mc ms ls hc0 hk hn hH hS hl)
theorem hf_gsf (hdg : decode Y.2.1 pc = .ok (.getstatic ix, 3)) (hw0 : Cond.fieldLink Y.1.cls ix "jdk/internal/util/Preconditions" "SIOOBE_FORMATTER" "Ljava/util/function/BiFunction;" ∈ hf_tb) (h : hf_G X Y d k n (pc + 3) l (.ref 40 :: st) M Q) (h2 : hf_G X Y d k n (pc + 3) l (.null :: st) M Q) : hf_G X Y d k n pc l st M Q := by
  intro B ad D dA p la e s m args below meth c0 H locs cells slots mc ms ls hc0 hk hn hH hS hl
  obtain ⟨hx, hb, hr, hml, hown, hts, hlk, hnm, hw⟩ := id hc0
  obtain ⟨hz1, hz2, hz3, v0, hv0, hz4⟩ := hw.2.2.2.2.2
  rcases hv0 with rfl | rfl
  · exact va_gets hx hb hz4 hS hown (hts _ hw0) (fun _ q => q) hdg (h2 B ad D dA p la e s m args below meth c0 H locs cells slots mc ms ls hc0 hk hn hH hS hl)
  · exact va_gets hx hb hz4 hS hown (hts _ hw0) (fun _ q => q) hdg (h B ad D dA p la e s m args below meth c0 H locs cells slots mc ms ls hc0 hk hn hH hS hl)
theorem hf_callVs {i : Nat} {as : List Value} (hi : i < 12) (hok : hf_ok Z nargs) (hdg : decode Y.2.1 pc = .ok (.invokevirtual ix, 3)) (hw1 : Cond.methodLink Y.1.cls ix Z.1 ∈ hf_tb) (hw2 : Cond.instanceMethod Z.1 ∈ hf_tb) (hw3 : Cond.selects "java/lang/String" Z.1 Z.1 ∈ hf_tb) (hn0 : as.length = nargs) (hen : (hf_en0 (.ref (1 + i) :: as)).length ≤ Z.2.2.1) (hst : st0 = as.reverse ++ .ref (1 + i) :: st) (hroom : (st.map fun v => v.category).sum ≤ 8)
    (h : hf_G X Z d 0 0 0 (hf_en (.ref (1 + i) :: as) Z.2.2.1) [] M (fun r M' => hf_G X Y (d + 1) k n (pc + 3) l (r.toList ++ st) M' Q)) : hf_G X Y (d + 1) k n pc l st0 M Q := by
  intro B ad D dA p la e s m args below meth c0 H locs cells slots mc ms ls hc0 hk hn hH hS hl
  obtain ⟨hx, hb, hr, hml, hown, hts, hlk, hnm, hw⟩ := id hc0
  obtain ⟨hz1, hz2, hz3, v0, hv0, hz4⟩ := hw.2.2.2.2.2
  subst hst
  obtain ⟨hp1, hp2⟩ := hf_pre (as := .ref (1 + i) :: as) hw hH hS
  refine hf_after (st := st) hc0 hk hn (Nat.zero_le _) (Nat.zero_le _) hS hl (a := (Value.ref (hf_ad B ad (1 + i)) :: as.map (hf_v B ad)).toArray) ?_
  refine va_runV (As := as.map (hf_v B ad)) (rest := st.map (hf_v B ad)) (b := hf_ad B ad (1 + i)) (C := "java/lang/String") ⟨hx, hb, hml, hown, hts⟩ (hf_met hok hen h B ad D dA la) ⟨hf_callB hts hok hw1, hts _ hw2, hts _ hw3⟩ ⟨hp1, ?_, hp2⟩ rfl (by rw [List.length_map]; exact hn0) hl.1 (by show List.map _ _ = _; rw [List.map_append, List.map_reverse]; rfl) (lv_room (hf_sum hroom)) hdg ⟨by show cells + 0 ≤ mc; omega, by show slots + 0 ≤ ms; omega⟩
  rw [hf_ad_lo (by omega)]
  exact vk_recv (i := i) hz2 hi hS
end HST
