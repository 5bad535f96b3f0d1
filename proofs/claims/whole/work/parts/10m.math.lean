theorem hw_max : Cond.code Lib.Math.max.name Lib.Math.max.code 2 (some .int) ∈ hf_tb := hf_t1 231 rfl rfl
theorem hw_min : Cond.code Lib.Math.min.name Lib.Math.min.code 2 (some .int) ∈ hf_tb := hf_t3 159 rfl rfl
theorem hw_minl : Cond.code Lib.MathLoose.min_long.x Lib.MathLoose.min_long.code 4 (some .long) ∈ hf_tb := hf_t5 68 rfl rfl
theorem hw_maxs : Cond.static Lib.Math.max.name ∈ hf_tb := hf_t1 230 rfl rfl
theorem hw_mins : Cond.static Lib.Math.min.name ∈ hf_tb := hf_t3 158 rfl rfl
theorem hw_minls : Cond.static Lib.MathLoose.min_long.x ∈ hf_tb := hf_t5 67 rfl rfl
theorem hw_mathi : Cond.initialized "java/lang/Math" ∈ hf_tb := hf_t1 7 rfl rfl
section HMA
variable {X : hf_X} {Y : hf_Y} {d k n pc ix : Nat} {l : List (Option Value)} {st : List Value} {Q : Option Value → hf_M → Prop} {M : hf_M}
theorem hf_mmax {x y : Int32} (hdg : decode Y.2.1 pc = .ok (.invokestatic ix, 3)) (hw1 : Cond.methodLink Y.1.cls ix Lib.Math.max.name ∈ hf_tb) (hroom : (st.map fun v => v.category).sum ≤ 8) (h : hf_G X Y (d + 1) k n (pc + 3) l (.int (if x < y then y else x) :: st) M Q) : hf_G X Y (d + 1) k n pc l (.int y :: .int x :: st) M Q := by
  intro B ad D dA p la e s m args below meth c0 H locs cells slots mc ms ls hc0 hk hn hH hS hl
  obtain ⟨hx, hb, hr, hml, hown, hts, hlk, hnm, hw⟩ := id hc0
  have hq := hf_sum (B := B) (ad := ad) hroom
  exact va_mmax hx hb (hml.trans hl.1.symm) hown (hts _ hw1) (hts _ hw_maxs) (hts _ hw_mathi) (hts _ hw_max) (by show 1 ≤ d + 1; omega) (by show _ ≤ 60 * (d + 1); omega) (by show cells ≤ mc; omega) (by show slots ≤ ms; omega) hdg (h B ad D dA p la e s m args below meth c0 H locs cells slots mc ms ls hc0 hk hn hH hS hl)
theorem hf_mmin {x y : Int32} (hdg : decode Y.2.1 pc = .ok (.invokestatic ix, 3)) (hw1 : Cond.methodLink Y.1.cls ix Lib.Math.min.name ∈ hf_tb) (hroom : (st.map fun v => v.category).sum ≤ 8) (h : hf_G X Y (d + 1) k n (pc + 3) l (.int (if y < x then y else x) :: st) M Q) : hf_G X Y (d + 1) k n pc l (.int y :: .int x :: st) M Q := by
  intro B ad D dA p la e s m args below meth c0 H locs cells slots mc ms ls hc0 hk hn hH hS hl
  obtain ⟨hx, hb, hr, hml, hown, hts, hlk, hnm, hw⟩ := id hc0
  have hq := hf_sum (B := B) (ad := ad) hroom
  exact va_mmin hx hb (hml.trans hl.1.symm) hown (hts _ hw1) (hts _ hw_mins) (hts _ hw_mathi) (hts _ hw_min) (by show 1 ≤ d + 1; omega) (by show _ ≤ 60 * (d + 1); omega) (by show cells ≤ mc; omega) (by show slots ≤ ms; omega) hdg (h B ad D dA p la e s m args below meth c0 H locs cells slots mc ms ls hc0 hk hn hH hS hl)
theorem hf_mminl {x y : Int64} (hdg : decode Y.2.1 pc = .ok (.invokestatic ix, 3)) (hw1 : Cond.methodLink Y.1.cls ix Lib.MathLoose.min_long.x ∈ hf_tb) (hroom : (st.map fun v => v.category).sum ≤ 8) (h : hf_G X Y (d + 1) k n (pc + 3) l (.long (if y < x then y else x) :: st) M Q) : hf_G X Y (d + 1) k n pc l (.long y :: .long x :: st) M Q := by
  intro B ad D dA p la e s m args below meth c0 H locs cells slots mc ms ls hc0 hk hn hH hS hl
  obtain ⟨hx, hb, hr, hml, hown, hts, hlk, hnm, hw⟩ := id hc0
  have hq := lv_room (m := m) (pc := pc) (ls := ls) (rest := (Value.long y :: .long x :: st).map (hf_v B ad)) (hf_sum (B := B) (ad := ad) hroom)
  intro T hT X0
  obtain ⟨vm', X', st'⟩ := X0.mathMinLH hx hown (hts _ hw1) (hts _ hw_minls) (hts _ hw_mathi) (hts _ hw_minl) (g := F0 m pc ls ((Value.long y :: .long x :: st).map (hf_v B ad))) rfl (hl.1.trans hml.symm) (a := x) (b := y) (rest := st.map (hf_v B ad)) rfl (by rw [hb]; exact hdg) (by show 1 ≤ d + 1; omega) (by show 2 * (F0 m pc ls _).monitorRoom + _ + 15 ≤ 60 * (d + 1); omega) (by show cells ≤ mc; omega) (by show slots ≤ ms; omega)
  obtain ⟨t, a1, b1⟩ := h B ad D dA p la e s m args below meth c0 H locs cells slots mc ms ls hc0 hk hn hH hS hl (T.setVm vm') hT X'
  exact ⟨t, st' t a1, b1⟩
end HMA
