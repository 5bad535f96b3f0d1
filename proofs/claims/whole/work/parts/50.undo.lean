section OPS
variable {SL : Nat → hf_T → hf_P → (Nat → Nat → Int32) → Int32 → (Nat → Int32) → (Nat → Int32) → (Nat → Int32) → Prop} {CC : Int32 → Int32 → Int32 → Int32 → Int32 → Int32 → (Nat → Int32) → (Nat → Int32) → Int32 → (Nat → Int32) → (Nat → Int32) → (Nat → Int32) → (Nat → Int32) → (Nat → Int32) → (Nat → Int32) → (Nat → Int32) → (Nat → Nat → Int32) → hf_P → Int64 → Int64 → Int32 → Int32 → Prop}
variable {X : hf_X} {d N t : Nat} {T : hf_T} {I I2 : hf_I} {L : hf_L} {P : hf_P}
/-- the class's cells behind takeBack -/
def hf_tkb (I : hf_I) (z u : Nat) : hf_I := hf_up (hf_up (hf_set (hf_set (hf_up (hf_up I 148 1 (nI z)) 148 2 (nI u)) 115 (va_cpy (I 149) (I 115) (27 * z) 0 12)) 116 (va_cpy (I 149) (I 116) (27 * z + 12) 0 12)) 114 2 (I 149 (27 * z + 24))) 114 3 (I 149 (27 * z + 25))
theorem cs_takeBack {k n : Nat} {nx u : Nat} {Q : Option Value → hf_M → Prop} (hs : hf_Lay t T P) (hnx : nx < 16) (g1 : I 148 1 = nI nx) (hu : u + 1 ≤ 16) (g2 : I 148 2 = nI (u + 1))
    (h : Q (some (.int (I 149 (27 * ((nx + 15) % 16) + 26)))) (t, T, hf_tkb I ((nx + 15) % 16) u, L, P)) : hf_G X Y_X6_takeBack (d + 1) k n 0 (hf_en [.ref 148, .ref 114] 3) [] (t, T, I, L, P) Q := by
  have hz : (nx + 15) % 16 < 16 := Nat.mod_lt _ (by omega)
  have e1 : nI nx + 16 - 1 = nI (nx + 15) := by rw [show (16 : Int32) = nI 16 from rfl, nI_add, show nx + 16 = (nx + 15) + 1 by omega, nI_pred]
  refine w_X6_takeBack_0 hs ⟨fun _ => ?_, fun q => absurd q ?_⟩
  · rw [g1, g2, e1, hf_rem16 (by omega), hf_c27, nI_pred]
    generalize (nx + 15) % 16 = z at *
    have a12 : nI (27 * z) + 12 = nI (27 * z + 12) := by rw [show (12 : Int32) = nI 12 from rfl, nI_add]
    have a24 : nI (27 * z) + 24 = nI (27 * z + 24) := by rw [show (24 : Int32) = nI 24 from rfl, nI_add]
    have a26 : nI (27 * z + 24) + 2 = nI (27 * z + 26) := by rw [show (2 : Int32) = nI 2 from rfl, nI_add]
    rw [a12, a24, a26, nI_1, nI_clamp (show 27 * z < 2 ^ 31 by omega), nI_clamp (show 27 * z + 12 < 2 ^ 31 by omega), nI_clamp (show 27 * z + 24 < 2 ^ 31 by omega), nI_clamp (show 27 * z + 24 + 1 < 2 ^ 31 by omega), nI_clamp (show 27 * z + 26 < 2 ^ 31 by omega)]
    refine ⟨⟨nI_pos (by omega), trivial, trivial, by omega, by omega⟩, ⟨nI_pos (by omega), trivial, trivial, by omega, by omega⟩, vp_in_nI (by omega) (by omega), vp_in_nI (by omega) (by omega), vp_in_nI (by omega) (by omega), ?_⟩
    exact h
  · rw [g2]
    exact fun q => absurd ((nI_eq (b := 0) (by omega) (by omega)).mp q) (by omega)
theorem ms_undo {k n : Nat} {u : Nat} {Q : Option Value → hf_M → Prop} (hs : hf_Lay t T P) (hu : u + 1 ≤ 16) (g2 : I 156 27 = nI (u + 1))
    (h : Q (some (.int (I 169 (27 * u + 26)))) (t, T, hf_up (hf_set (hf_up I 156 27 (nI u)) 158 (fun i => if i < 26 then I 169 (27 * u + i) else I 158 i)) 156 0 0, L, P)) : hf_G X Y_X12_undo (d + 1) k n 0 (hf_en [.ref 156] 3) [] (t, T, I, L, P) Q := by
  have e1 : (27 : Int32) * nI u = nI (27 * u) := by rw [show (27 : Int32) = nI 27 from rfl, pk_mul]
  have loop : ∀ r j, j + r = 26 → hf_G X Y_X12_undo (d + 1) k n 34 [some (.ref 156), some (.int (nI (27 * u))), some (.int (nI j))] [] (t, T, hf_set (hf_up I 156 27 (nI u)) 158 (fun i => if i < j then I 169 (27 * u + i) else I 158 i), L, P) Q := by
    intro r
    induction r with
    | zero =>
      intro j hj
      obtain rfl : j = 26 := by omega
      have a26 : nI (27 * u) + 26 = nI (27 * u + 26) := by rw [show (26 : Int32) = nI 26 from rfl, nI_add]
      refine w_X12_undo_34 hs ⟨fun _ => ?_, fun q => absurd (by decide) q⟩
      rw [a26, nI_clamp (show 27 * u + 26 < 2 ^ 31 by omega)]
      exact ⟨vp_in_nI (by omega) (by omega), h⟩
    | succ r ih =>
      intro j hj
      refine w_X12_undo_34 hs ⟨fun q => absurd q (nI_ge (a := j) (b := 26) (by omega) (by omega)), fun _ => ?_⟩
      rw [nI_add, nI_clamp (show 27 * u + j < 2 ^ 31 by omega), nI_clamp (show j < 2 ^ 31 by omega), nI_1, hf_up_set]
      refine ⟨vp_in_nI (by omega) (by omega), vp_in_nI (by omega) (by omega), ?_⟩
      have e : upd (fun i => if i < j then I 169 (27 * u + i) else I 158 i) j (hf_set (hf_up I 156 27 (nI u)) 158 (fun i => if i < j then I 169 (27 * u + i) else I 158 i) 169 (27 * u + j)) = fun i => if i < j + 1 then I 169 (27 * u + i) else I 158 i := by
        have e0 : hf_set (hf_up I 156 27 (nI u)) 158 (fun i => if i < j then I 169 (27 * u + i) else I 158 i) 169 (27 * u + j) = I 169 (27 * u + j) := rfl
        rw [e0]
        funext i
        unfold upd
        dsimp only
        by_cases q1 : i = j
        · subst q1
          rw [if_pos rfl, if_pos (by omega)]
        · rw [if_neg q1]
          by_cases q2 : i < j
          · rw [if_pos q2, if_pos (by omega)]
          · rw [if_neg q2, if_neg (by omega)]
      rw [e]
      exact ih (j + 1) (by omega)
  refine w_X12_undo_0 hs ⟨fun _ => ?_, fun q => absurd q ?_⟩
  · rw [g2, nI_pred, e1]
    have := loop 26 0 (by omega)
    have e : hf_set (hf_up I 156 27 (nI u)) 158 (fun i => if i < 0 then I 169 (27 * u + i) else I 158 i) = hf_up I 156 27 (nI u) := by
      have e0 : (fun i => if i < 0 then I 169 (27 * u + i) else I 158 i) = hf_up I 156 27 (nI u) 158 := funext fun i => if_neg (by omega)
      rw [e0, hf_set_self]
    rw [e] at this
    exact this
  · rw [g2]
    exact fun q => absurd ((nI_eq (b := 0) (by omega) (by omega)).mp q) (by omega)
set_option maxHeartbeats 1000000 in
theorem op_undo (hN : N ≤ 100000) (h : hf_Sim SL CC N t T I L P) : hf_Pair X Y_X11_undo Y_X12_undo [] (d + 2) 0 0 (t, T, I, L, P) (hf_SimM SL CC (N + 1)) := by
  have hs := h.1
  have hSM := h.2.1
  obtain ⟨m1, m2, m3, m4, m5, m6, m7, m8, m9, m10⟩ := h.2.1
  obtain ⟨u1, u2, u3, u4, u5, u6, u7⟩ := h.2.2.1
  obtain ⟨u, nx, h1, h2, h3, h4, h5, h6⟩ := id u1
  cases u with
  | zero =>
    exact w_X11_undo_0 hs ⟨fun q => absurd h3 q, fun _ => ⟨_, rfl, w_X12_undo_0 (d := d + 1) hs ⟨fun q => absurd h4 q, fun _ => ⟨rfl, sim_refuse (Or.inr (Or.inr (Or.inl rfl))) h⟩⟩⟩⟩
  | succ u =>
    have hz : (nx + 15) % 16 < 16 := Nat.mod_lt _ (by omega)
    obtain ⟨⟨r1, r2, r3⟩, r4⟩ := h6 u (by omega)
    rw [show (nx + 16 - (u + 1) + u) % 16 = (nx + 15) % 16 by congr 1; omega] at r1 r4
    refine w_X11_undo_0 hs ⟨fun _ => cs_takeBack hs h2 h5 h1 h3 (w_X11_undo_32 (d := d + 1) hs ⟨_, rfl, ms_undo (d := d + 1) hs h1 h4 ⟨?_, ?_⟩⟩), fun q => absurd (h3.symm.trans q) fun q => absurd ((nI_eq (b := 0) (by omega) (by omega)).mp q) (by omega)⟩
    · show some (Value.int (I 169 (27 * u + 26))) = some (Value.int (I 149 (27 * ((nx + 15) % 16) + 26)))
      rw [r1]
    · generalize hzz : (nx + 15) % 16 = z at *
      have fr : hf_fr I (hf_mix (hf_tkb I z u) (hf_set (hf_up I 156 27 (nI u)) 158 (fun i => if i < 26 then I 169 (27 * u + i) else I 158 i))) := by
        refine hf_fr_mix (hf_fr_up (hf_fr_up (hf_fr_set (hf_fr_set (hf_fr_up (hf_fr_up hf_fr_rf (by omega)) (by omega)) (by omega)) (by omega)) (by omega)) (by omega)) ?_
        have f := hf_fr_up (a := 156) (j := 27) (v := nI u) (hf_fr_rf (I := I)) (by omega)
        refine ⟨fun b h1 h2 h3 h4 h5 h6 h7 h8 h9 h10 h11 h12 h13 => ?_, fun i hi => rfl, fun i hi => f.2.2.1 i hi, fun i h1 h2 => if_neg (by omega)⟩
        rw [← f.1 b h1 h2 h3 h4 h5 h6 h7 h8 h9 h10 h11 h12 h13]
        unfold hf_set
        rw [if_neg h11]
      have hh : S_hd (I 105) (hf_tkb I z u 114) (hf_tkb I z u 115) (hf_tkb I z u 116) (fun i => if i < 26 then I 169 (27 * u + i) else I 158 i) := by
        refine S_h1_cg (hc := I 149 (27 * z + 24)) (hn := I 149 (27 * z + 25)) rfl rfl (fun j hj => ⟨?_, ?_⟩) (fun j hj => if_pos hj) r4
        · show va_cpy (I 149) (I 115) (27 * z) 0 12 j = I 149 (27 * z + j)
          rw [pk_cpy_in (by omega) (by omega), Nat.sub_zero]
        · show va_cpy (I 149) (I 116) (27 * z + 12) 0 12 j = I 149 (27 * z + 12 + j)
          rw [pk_cpy_in (by omega) (by omega), Nat.sub_zero]
      have hud : hf_ud (hf_mix (hf_tkb I z u) (hf_set (hf_up I 156 27 (nI u)) 158 (fun i => if i < 26 then I 169 (27 * u + i) else I 158 i))) := by
        refine ⟨u, z, by omega, hz, rfl, rfl, rfl, fun q hq => ?_⟩
        have := h6 q (by omega)
        rw [show (nx + 16 - (u + 1) + q) % 16 = (z + 16 - u + q) % 16 by omega] at this
        exact this
      have key := sim_ok hN h (hf_SM_hd hSM fr rfl rfl hh) hud fr
      have e : hf_up (hf_set (hf_up (hf_up (hf_up (hf_tkb I z u) 100 15 0) 100 16 (hf_tkb I z u 100 16 + 1)) 156 27 (nI u)) 158 (fun i => if i < 26 then I 169 (27 * u + i) else I 158 i)) 156 0 0 = hf_up (hf_mix (hf_up (hf_up (hf_mix (hf_tkb I z u) (hf_set (hf_up I 156 27 (nI u)) 158 (fun i => if i < 26 then I 169 (27 * u + i) else I 158 i))) 100 15 0) 100 16 (hf_mix (hf_tkb I z u) (hf_set (hf_up I 156 27 (nI u)) 158 (fun i => if i < 26 then I 169 (27 * u + i) else I 158 i)) 100 16 + 1)) (hf_mix (hf_tkb I z u) (hf_set (hf_up I 156 27 (nI u)) 158 (fun i => if i < 26 then I 169 (27 * u + i) else I 158 i)))) 156 0 0 := by
        rw [hf_mix_upc (a := 100) (j := 15) (by decide), hf_mix_upc (a := 100) (j := 16) (by decide), hf_mix_l, hf_mix_r]
        congr 1
        funext b
        unfold hf_mix hf_set
        by_cases b1 : b = 158
        · subst b1; rfl
        · rw [if_neg b1, if_neg b1]
          by_cases b2 : b = 156
          · subst b2; rfl
          · split
            · rename_i hb
              have : ¬ b = 100 ∧ ¬ b = 148 ∧ ¬ b = 115 ∧ ¬ b = 116 ∧ ¬ b = 114 := by
                rw [Bool.and_eq_true, Nat.ble_eq, Nat.ble_eq] at hb
                omega
              simp [hf_up, hf_tkb, hf_set, b2, this]
            · unfold hf_up
              rw [if_neg b2]
              rfl
      unfold hf_SimM
      dsimp only
      have key2 : hf_Sim SL CC (N + 1) t T (hf_up (hf_set (hf_up (hf_up (hf_up (hf_tkb I z u) 100 15 0) 100 16 (hf_tkb I z u 100 16 + 1)) 156 27 (nI u)) 158 (fun i => if i < 26 then I 169 (27 * u + i) else I 158 i)) 156 0 0) L P := by
        rw [e]
        exact key
      exact key2
end OPS
