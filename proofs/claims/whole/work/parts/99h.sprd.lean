/-! how a LINE spreads, by the class -/
/-- tails that are known -/
def tl_ok (J : hf_I) (L : hf_L) (G : fz_X) (p j ln : Nat) : Prop := J 143 (4 * j + ln) = nI (fz_S (fun k => fz_T G (p - (j + 1)) j ln k false) (glen G j)).1 ∧ ∀ k, k < glen G j → L 142 (6 * (4 * j + ln) + 2 * k) = fz_l (fz_T G (p - (j + 1)) j ln k false).2 ∧ (1 ≤ ln → L 142 (6 * (4 * j + ln) + 2 * k + 1) = fz_l (fz_T G (p - (j + 1)) j ln k true).2)
/-- what spreading writes -/
def sd_fr (J J' : hf_I) (x : Nat) (v : Int32) : Prop := (∀ a, ¬ a = 132 → ¬ a = 133 → ¬ a = 134 → ¬ a = 143 → J' a = J a) ∧ J' 143 = upd (J 143) x v
def sd_L (L L' : hf_L) : Prop := (∀ a, ¬ a = 136 → L' a = L a) ∧ ∀ j, ¬ j = 16 → L' 136 j = L 136 j
theorem sd_cv {J J' : hf_I} {x : Nat} {v : Int32} (h : sd_fr J J' x v) : cv_fr J J' := ⟨fun a a1 a2 a3 _ a5 => h.1 a a1 a2 a3 a5, fun j _ => by rw [h.1 136 (by omega) (by omega) (by omega) (by omega)]⟩
theorem upd_id {f : Nat → Int32} {x : Nat} {v : Int32} (h : f x = v) : upd f x v = f := by
  funext j
  by_cases e : j = x
  · subst e; rw [hf_upd_eq, h]
  · rw [hf_upd_ne e]
theorem upd_upd {f : Nat → Int32} {x : Nat} {v w : Int32} : upd (upd f x v) x w = upd f x w := by
  funext j
  by_cases e : j = x
  · subst e; rw [hf_upd_eq, hf_upd_eq]
  · rw [hf_upd_ne e, hf_upd_ne e, hf_upd_ne e]
theorem sd_rf {J : hf_I} {x : Nat} {v : Int32} (h : J 143 x = v) : sd_fr J J x v := ⟨fun _ _ _ _ _ => rfl, (upd_id h).symm⟩
theorem sd_tr {I J K : hf_I} {x : Nat} {v w : Int32} (h : sd_fr I J x v) (g : sd_fr J K x w) : sd_fr I K x w := ⟨fun a a1 a2 a3 a4 => (g.1 a a1 a2 a3 a4).trans (h.1 a a1 a2 a3 a4), by rw [g.2, h.2, upd_upd]⟩
theorem sd_L_rf {L : hf_L} : sd_L L L := ⟨fun _ _ => rfl, fun _ _ => rfl⟩
theorem sd_L_tr {K L M : hf_L} (h : sd_L K L) (g : sd_L L M) : sd_L K M := ⟨fun a ha => (g.1 a ha).trans (h.1 a ha), fun j hj => (g.2 j hj).trans (h.2 j hj)⟩
theorem sd_L_up {L : hf_L} {v : Int64} : sd_L L (hf_upL L 136 16 v) ∧ hf_upL L 136 16 v 136 16 = v := by
  refine ⟨⟨fun a ha => ?_, fun j hj => ?_⟩, ?_⟩
  · unfold hf_upL; rw [if_neg ha]
  · unfold hf_upL vp_updL; rw [if_pos rfl, if_neg hj]
  · unfold hf_upL vp_updL; rw [if_pos rfl, if_pos rfl]
theorem tl_mv {J J' : hf_I} {L L' : hf_L} {G : fz_X} {p j ln x : Nat} {v : Int32} (h : tl_ok J L G p j ln) (hx : ¬ 4 * j + ln = x) (g : sd_fr J J' x v) (gL : sd_L L L') : tl_ok J' L' G p j ln := by
  unfold tl_ok
  rw [g.2, hf_upd_ne hx, gL.1 142 (by omega)]
  exact h
section SPREAD
variable {X : hf_X} {d t : Nat} {T : hf_T} {P : hf_P} {G : fz_X} {p : Nat} {cls : List gr_c1}
/-- what a LINE that ends here leaves for what follows -/
def sp_U (G : fz_X) (f i ln wd st fi : Nat) (ak ec : Bool) : fz_V := match f with
  | 0 => (1, some (1073741824 * gC G ln wd (i - st) ak ec))
  | f + 1 => if ln + 1 < gLN G then fz_ad (1073741824 * gC G ln wd (i - st) ak ec) (fz_S (fun k => fz_T G f i (ln + 1) k (gal G fi (gopt G i k))) (glen G i)) else fz_e
/-- the LINE ends behind place i: from what can follow on -/
theorem cs_spread_end {f i ln wd st fi c K : Nat} {ak ec : Bool} {o : Option Nat} {kk nn : Nat} {J : hf_I} {L : hf_L} {Q : Option Value → hf_M → Prop} (hs : hf_Lay t T P) (hk : cv_ok t T P J G p cls) (hf : i + (f + 1) = p) (hst : st ≤ i) (hls : ln ≤ st) (hln : ln < gLN G) (hfi : fi < 16) (h11 : J 136 11 = nI st) (h12 : J 136 12 = nI ln) (h13 : J 136 13 = nI fi) (h14 : J 136 14 = hf_b ak) (hwd : wd ≤ 2400) (hK : K ≤ (i + 1) * 2199023255552) (hL : L 136 16 = fz_l o) (ho : fz_lt o) (hc : J 143 (4 * st + ln) = nI c) (htl : ∀ j, i < j → j < p → ln + 1 < gLN G → tl_ok J L G p j (ln + 1))
    (h : ∀ J' L', sd_fr J J' (4 * st + ln) (nI (c + (if ak = true then 0 else (sp_U G f (i + 1) ln wd st fi ak ec).1))) → sd_L L L' → L' 136 16 = fz_l (fz_m o (fz_ad K (sp_U G f (i + 1) ln wd st fi ak ec)).2) → (f = 0 → Q none (t, T, J', L', P)) ∧ (¬ f = 0 → hf_G X Y_X8_spread (d + 4 + f) kk nn 166 [some (.ref 136), none, some (.int (nI wd)), some (.long (lN K)), none, some (.int (hf_b ec)), some (.int (nI (i + 1))), none, some (.int 0), none, none] [] (t, T, J', L', P) Q)) :
    hf_G X Y_X8_spread (d + 4 + f) kk nn 31 [some (.ref 136), none, some (.int (nI wd)), some (.long (lN K)), none, some (.int (hf_b ec)), some (.int (nI (i + 1))), none, none, none, none] [.int (nI (sp_U G f (i + 1) ln wd st fi ak ec).1)] (t, T, J, L, P) Q := by
  have hk0 := hk
  obtain ⟨⟨p1, p6, hG⟩, k9, k10, k12, k13, k140, kopt, kex, kal, klw, kC⟩ := hk
  have L4 := hG.1.2.1
  -- bounds of what follows
  have ub : fz_bd (6 ^ (f + 1)) ((f + 2) * 2199023255552) (sp_U G f (i + 1) ln wd st fi ak ec) := by
    have hC := hG.2.2.2.2.2 ln wd (i + 1 - st) ak ec
    cases f with
    | zero =>
      refine ⟨(by show 1 ≤ 6 ^ (0 + 1); decide), fun x hx => ?_⟩
      have e : 1073741824 * gC G ln wd (i + 1 - st) ak ec = x := Option.some.inj hx
      omega
    | succ f =>
      unfold sp_U
      dsimp only
      split
      · have hl := hG.2.1 (i + 1) (by omega)
        refine fz_bd_w (fz_bd_ad (fz_bd_S (N := 6 ^ f) (B := (f + 2) * 2199023255552) _ fun k hk => fz_T_bd p6 hG (by omega) hk)) ?_ (by omega)
        have : glen G (i + 1) * 6 ^ f ≤ 36 * 6 ^ f := Nat.mul_le_mul_right _ (by omega)
        rw [show f + 1 + 1 = f + 2 by omega, Nat.pow_add]
        omega
      · exact fz_bd_e
  have f5 : f ≤ 5 := by omega
  have n6 : 6 ^ (f + 1) ≤ 6 ^ 6 := Nat.pow_le_pow_right (by omega) (by omega)
  have n66 : (6 : Nat) ^ 6 = 46656 := by decide
  have uc := ub.1
  have lt : fz_lt (fz_ad K (sp_U G f (i + 1) ln wd st fi ak ec)).2 := fz_lt_bd (fz_bd_ad ub) (by omega)
  have wf : fz_wf (sp_U G f (i + 1) ln wd st fi ak ec) := by
    cases f with
    | zero => exact ⟨fun h => absurd (show 1 = 0 from h) (by decide), fun h => absurd h (Option.some_ne_none _)⟩
    | succ f =>
      unfold sp_U
      dsimp only
      split
      · exact fz_wf_ad (fz_wf_S _ fun k _ => fz_T_wf)
      · exact fz_wf_e
  have e6 : (nI (i + 1) = J 136 9) ↔ f = 0 := by
    rw [k9, nI_eq (by omega) (by omega)]
    omega
  obtain ⟨D, hD⟩ : ∃ D, d + 4 + f = D + 1 := ⟨d + 3 + f, by omega⟩
  rw [hD] at h ⊢
  refine w_X8_spread_31 hs ⟨fun q => ?_, fun q => ?_⟩
  · -- nothing can follow
    have z : (sp_U G f (i + 1) ln wd st fi ak ec).1 = 0 := by
      have := (nI_leI (b := 0) (by omega) (by omega)).mp q
      omega
    have z2 := wf.mp z
    have m0 : (fz_ad K (sp_U G f (i + 1) ln wd st fi ak ec)).2 = none := by
      show (sp_U G f (i + 1) ln wd st fi ak ec).2.map _ = none
      rw [z2]; rfl
    have go := h J L (sd_rf (by rw [hc, z]; split <;> rfl)) sd_L_rf (by rw [hL, m0, fz_m_c]; rfl)
    exact ⟨fun g => go.2 (fun w => g (e6.mpr w)), fun g => go.1 (e6.mp g)⟩
  · have nz : ¬ (sp_U G f (i + 1) ln wd st fi ak ec).1 = 0 := fun z => q (by rw [z]; exact Int32.le_refl _)
    -- the cost, then the least that follows
    have next : ∀ J1, cv_fr J J1 → J1 136 = J 136 → sd_fr J J1 (4 * st + ln) (nI (c + (if ak = true then 0 else (sp_U G f (i + 1) ln wd st fi ak ec).1))) → hf_G X Y_X4_costOf D 0 0 0 (hf_en [.ref 135, .int (J 136 12), .int ((J 101 12) - nI wd), .int (nI (i + 1) - (J 136 11)), .int (J 136 14), .int (hf_b ec)] 8) [] (t, T, J1, L, P) (fun r M => hf_G X Y_X8_spread (D + 1) kk nn 99 [some (.ref 136), none, some (.int (nI wd)), some (.long (lN K)), none, some (.int (hf_b ec)), some (.int (nI (i + 1))), none, none, none, none] (r.toList ++ []) M Q) := by
      intro J1 c1 e136 s1
      have k1 := cv_mv hk0 c1
      obtain ⟨-, -, -, -, -, -, -, -, -, klw1, kC1⟩ := k1
      rw [h12, k12, h11, h14, nI_su (show st ≤ i + 1 by omega)]
      obtain ⟨D', hD'⟩ : ∃ D', D = D' + 3 := ⟨d + f, by omega⟩
      rw [hD']
      refine cs_costOf hs klw1 fun J2 f2 => ?_
      rw [kC1 ln wd (i + 1 - st) ak ec hwd]
      have c2 := cv_jc f2
      have k2 := cv_mv hk0 (cv_tr c1 c2)
      have e136' : J2 136 = J 136 := (f2 136 (by omega) (by omega) (by omega)).trans e136
      have s2 : sd_fr J J2 (4 * st + ln) (nI (c + (if ak = true then 0 else (sp_U G f (i + 1) ln wd st fi ak ec).1))) := ⟨fun a a1 a2 a3 a4 => (f2 a a1 a2 a3).trans (s1.1 a a1 a2 a3 a4), (f2 143 (by omega) (by omega) (by omega)).trans s1.2⟩
      have hC := hG.2.2.2.2.2 ln wd (i + 1 - st) ak ec
      refine w_X8_spread_99 hs ?_
      rw [e136', h12, h13]
      refine ⟨fun g => ?_, fun g => ⟨fun g' => absurd g g', fun _ => ?_⟩⟩
      · have f0 : ¬ f = 0 := fun w => g (e6.mpr w)
        obtain ⟨f', rfl⟩ : ∃ f', f = f' + 1 := ⟨f - 1, by omega⟩
        have hl1 : ln + 1 < gLN G := by
          rcases Nat.lt_or_ge (ln + 1) (gLN G) with w | w
          · exact w
          · exact absurd (by unfold sp_U; dsimp only; rw [if_neg (by omega)]; rfl) nz
        obtain ⟨t1, t2⟩ := tl_mv (htl (i + 1) (by omega) (by omega) hl1) (show ¬ 4 * (i + 1) + (ln + 1) = 4 * st + ln by omega) s2 sd_L_rf
        have ep : p - (i + 1 + 1) = f' := by omega
        rw [ep] at t1 t2
        rw [nI_1]
        refine cs_leastTail (d := D' + 1) (f := f') (sm := fun k => gal G fi (gopt G (i + 1) k)) hs k2 (by omega) (by omega) (Or.inr ⟨fi, hfi, rfl, fun _ => rfl⟩) (fun k hk => ?_) ?_
        · cases e : gal G fi (gopt G (i + 1) k) with
          | false => exact (t2 k hk).1
          | true => exact (t2 k hk).2 (by omega)
        · -- there is one: its key
          have eU : sp_U G (f' + 1) (i + 1) ln wd st fi ak ec = fz_ad (1073741824 * gC G ln wd (i + 1 - st) ak ec) (fz_S (fun k => fz_T G f' (i + 1) (ln + 1) k (gal G fi (gopt G (i + 1) k))) (glen G (i + 1))) := by unfold sp_U; dsimp only; rw [if_pos hl1]
          cases hv : (fz_S (fun k => fz_T G f' (i + 1) (ln + 1) k (gal G fi (gopt G (i + 1) k))) (glen G (i + 1))).2 with
          | none =>
            exfalso
            apply nz
            refine wf.mpr ?_
            rw [eU]
            show (fz_S _ _).2.map _ = none
            rw [hv]; rfl
          | some x =>
            have eK : (fz_ad K (sp_U G (f' + 1) (i + 1) ln wd st fi ak ec)).2 = some (K + (1073741824 * gC G ln wd (i + 1 - st) ak ec + x)) := by
              rw [eU]
              show ((fz_S _ _).2.map _).map _ = _
              rw [hv]; rfl
            refine w_X8_spread_130 hs ?_
            rw [e136', ky_cost (by omega), lN_add, show fz_l (some x) = lN x from rfl, lN_add, hL, Nat.add_assoc K, show lN (K + (1073741824 * gC G ln wd (i + 1 - st) ak ec + x)) = fz_l (some (K + (1073741824 * gC G ln wd (i + 1 - st) ak ec + x))) from rfl, ← eK, fz_l_m ho lt]
            obtain ⟨u1, u2⟩ := sd_L_up (L := L) (v := fz_l (fz_m o (fz_ad K (sp_U G (f' + 1) (i + 1) ln wd st fi ak ec)).2))
            have go := h J2 _ s2 u1 u2
            exact ⟨fun _ => by rw [← hD'] ; exact go.2 f0, fun w => absurd w g⟩
      · have f0 := e6.mp g
        subst f0
        have eU : (fz_ad K (sp_U G 0 (i + 1) ln wd st fi ak ec)).2 = some (K + 1073741824 * gC G ln wd (i + 1 - st) ak ec) := rfl
        rw [ky_cost (by omega), lN_add, hL, Int64.add_zero, show lN (K + 1073741824 * gC G ln wd (i + 1 - st) ak ec) = fz_l (some (K + 1073741824 * gC G ln wd (i + 1 - st) ak ec)) from rfl, ← eU, fz_l_m ho lt]
        obtain ⟨u1, u2⟩ := sd_L_up (L := L) (v := fz_l (fz_m o (fz_ad K (sp_U G 0 (i + 1) ln wd st fi ak ec)).2))
        exact (h J2 _ s2 u1 u2).1 rfl
    refine ⟨fun g => ?_, fun g => ?_⟩
    · have a1 : ak = true := by
        cases ak with
        | true => rfl
        | false => exact absurd h14 g
      exact next J cv_rf rfl (sd_rf (by rw [hc, a1]; rfl))
    · have a0 : ak = false := by
        cases ak with
        | false => rfl
        | true => rw [h14] at g; exact absurd g (by decide)
      rw [h11, h12, tp_w, nI_clamp (show 4 * st + ln < 2 ^ 31 by omega), hc, nI_add]
      refine ⟨vp_in_nI (by omega) (by omega), vp_in_nI (by omega) (by omega), ?_⟩
      rw [← h11, ← h12]
      refine next (hf_up J 143 (4 * st + ln) (nI (c + (sp_U G f (i + 1) ln wd st fi ak ec).1))) (cv_up (Or.inl rfl)) rfl ⟨fun a a1 a2 a3 a4 => ?_, ?_⟩
      · unfold hf_up; rw [if_neg a4]
      · rw [a0, if_neg (by simp)]
        unfold hf_up
        rw [if_pos rfl]
end SPREAD
