/-! SETTINGS: what a CLAUSE does, by both -/
def sml (x : Int32) : Int32 := if x.toInt < 0 ∨ 1000000 < x.toInt then -1 else x
theorem sml_64 (x : Int32) : (lg_cmp x.toInt64 0 < 0 → sml x = -1) ∧ (¬ lg_cmp x.toInt64 0 < 0 → (lg_cmp x.toInt64 1000000 ≤ 0 → sml x = x.toInt64.toInt32) ∧ (¬ lg_cmp x.toInt64 1000000 ≤ 0 → sml x = -1)) := by
  rw [lg_cmp_lt, lg_cmp_le, Int64.lt_iff_toInt_lt, Int64.le_iff_toInt_le, Int32.toInt_toInt64]
  have e0 : (0 : Int64).toInt = 0 := by decide
  have e9 : (1000000 : Int64).toInt = 1000000 := by decide
  rw [e0, e9]
  have e5 : x.toInt64.toInt32 = x := by
    apply Int32.toInt_inj.mp
    rw [Int64.toInt_toInt32, Int32.toInt_toInt64]
    have a1 := Int32.le_toInt x
    have a2 := Int32.toInt_lt x
    exact Int.bmod_eq_of_le (by omega) (by omega)
  rw [e5]
  unfold sml
  refine ⟨fun h => if_pos (Or.inl h), fun h => ⟨fun h2 => if_neg (by omega), fun h2 => if_pos (by omega)⟩⟩
section OBEY
variable {X : hf_X} {d t : Nat} {T : hf_T} {I I' : hf_I} {P : hf_P}
theorem sml_no {x : Int32} (h : x.toInt < 0 ∨ 1000000 < x.toInt) : sml x = -1 := if_pos h
theorem sml_ok {x : Int32} (h : ¬ (x.toInt < 0 ∨ 1000000 < x.toInt)) : sml x = x := if_neg h
theorem tw_set2 {x : Int32} {cls : List gr_c1} (hs : hf_Lay t T P) (hSM : hf_SM I) (hud : hf_ud I) (hlc : lw_c t T I P cls) (hlm : lw_m I cls) : hf_sub5 X Y_X11_placeWord Y_X12_setsKept [.ref 100, .int x] [.ref 156, .int (sml x)] (d + 611) t T P I := by
  by_cases hx : x.toInt < 0 ∨ 1000000 < x.toInt
  · rw [sml_no hx]
    obtain ⟨w, w1, w2, -⟩ := hSM.2.2.2.1
    refine ⟨-2, I, ⟨fun L C k n Q hC h => ?_, fun L C k n Q hC h => w_X12_setsKept_0 (d := d + 609) hs ⟨fun _ => h C hC kpc_rf, fun q => absurd (by decide) q⟩⟩, hSM, hud, hf_fr_rf, by decide, fun _ => rfl, rfl⟩
    refine w_X11_placeWord_0 (d := d + 610) hs ⟨fun _ => h C hC kpm_rf, fun z => ⟨fun _ => h C hC kpm_rf, fun z2 => absurd ?_ z2⟩⟩
    rw [hC 105 (by omega) (by omega) (by omega) (by omega), w2, Int32.le_iff_toInt_le, nI_toInt (by omega)]
    rw [Int32.lt_iff_toInt_lt] at z
    have : (0 : Int32).toInt = 0 := by decide
    omega
  · rw [sml_ok hx]
    exact t3_set hs hSM hud hlc hlm
theorem tw_size2 {x : Int32} (hs : hf_Lay t T P) (hSM : hf_SM I) (hud : hf_ud I) : hf_sub5 X Y_X11_changeSize Y_X12_sizes [.ref 100, .int x] [.ref 156, .int (sml x)] (d + 2) t T P I := by
  by_cases hx : x.toInt < 0 ∨ 1000000 < x.toInt
  · rw [sml_no hx]
    refine ⟨-1, I, ⟨fun L C k n Q hC h => ?_, fun L C k n Q hC h => w_X12_sizes_0 (d := d + 1) hs ⟨fun _ => h C hC kpc_rf, fun q => absurd (by decide) q⟩⟩, hSM, hud, hf_fr_rf, by decide, fun _ => rfl, rfl⟩
    refine w_X11_changeSize_0 (d := d + 1) hs ⟨fun _ => h C hC kpm_rf, fun z => ⟨fun _ => h C hC kpm_rf, fun z2 => absurd ?_ z2⟩⟩
    rw [Int32.lt_iff_toInt_lt] at z ⊢
    have : (0 : Int32).toInt = 0 := by decide
    have : (2 : Int32).toInt = 2 := by decide
    omega
  · rw [sml_ok hx]
    exact t3_size hs hSM hud
theorem ms_obeys {L : hf_L} {D : hf_I} {kk nn cc : Nat} {Q : Option Value → hf_M → Prop} {u x : Int32} (hs : hf_Lay t T P) (hcc : cc = 25 ∨ cc = 26 ∨ cc = 27 ∨ cc = 18) (h44 : D 156 44 = nI cc) (hL : cc = 25 ∨ cc = 18 → L 156 47 = x.toInt64)
    (p0 : cc = 25 → tw_m X Y_X12_setsKept [.ref 156, .int (sml x)] (d + 611) t T P I u I') (p1 : cc = 26 → tw_m X Y_X12_turnsKept [.ref 156] (d + 611) t T P I u I') (p2 : cc = 27 → tw_m X Y_X12_clearsKept [.ref 156] (d + 611) t T P I u I') (p3 : cc = 18 → tw_m X Y_X12_sizes [.ref 156, .int (sml x)] (d + 611) t T P I u I')
    (hD : nz3 I D) (h : ∀ D', nz3 I' D' → kpc D D' → Q (some (.int u)) (t, T, D', L, P)) : hf_G X Y_X12_obeys (d + 612) kk nn 0 (hf_en [.ref 156] 1) [] (t, T, D, L, P) Q := by
  obtain ⟨s1, s2⟩ := sml_64 x
  have n : ∀ b : Nat, b < 100 → ((nI cc = nI b) ↔ cc = b) := fun b hb => nI_eq (by omega) (by omega)
  refine w_X12_obeys_0 (d := d + 611) hs ?_
  rw [h44, nI_toInt (by omega)]
  refine ⟨fun z => ?_, fun z => ?_, fun z => ?_, fun z => ?_⟩
  · have e := (n 25 (by omega)).mp z
    rw [hL (Or.inl e)]
    have go : hf_G X Y_X12_setsKept (d + 611) 0 0 0 (hf_en [.ref 156, .int (sml x)] 4) [] (t, T, D, L, P) (fun r M => hf_G X Y_X12_obeys (d + 611 + 1) kk nn 43 [none] (r.toList ++ []) M Q) := p0 e L D 0 0 _ hD fun D' h1 h2 => w_X12_obeys_43 hs (h D' h1 h2)
    refine ⟨fun g => by rw [← s1 g]; exact go, fun g => ⟨fun g2 => by rw [← (s2 g).1 g2]; exact go, fun g2 => by rw [← (s2 g).2 g2]; exact go⟩⟩
  · exact p1 ((n 26 (by omega)).mp z) L D 0 0 _ hD fun D' h1 h2 => w_X12_obeys_48 hs (h D' h1 h2)
  · exact p2 ((n 27 (by omega)).mp z) L D 0 0 _ hD fun D' h1 h2 => w_X12_obeys_53 hs (h D' h1 h2)
  · have e : cc = 18 := by omega
    rw [hL (Or.inr e)]
    have go : hf_G X Y_X12_sizes (d + 611) 0 0 0 (hf_en [.ref 156, .int (sml x)] 3) [] (t, T, D, L, P) (fun r M => hf_G X Y_X12_obeys (d + 611 + 1) kk nn 65 [none] (r.toList ++ []) M Q) := p3 e L D 0 0 _ hD fun D' h1 h2 => w_X12_obeys_65 hs (h D' h1 h2)
    refine ⟨fun g => by rw [← s1 g]; exact go, fun g => ⟨fun g2 => by rw [← (s2 g).1 g2]; exact go, fun g2 => by rw [← (s2 g).2 g2]; exact go⟩⟩
end OBEY
