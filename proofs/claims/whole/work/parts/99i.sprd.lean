/-! how a LINE spreads, to its end -/
def sp_V (G : fz_X) (f i ln wd st fi : Nat) (ak ec : Bool) (K : Nat) : fz_V := if wd ≤ ghr G then fz_ad K (fz_R G f (i + 1) ln wd st fi ak ec) else fz_e
section SPREAD
variable {X : hf_X} {d t : Nat} {T : hf_T} {P : hf_P} {G : fz_X} {p : Nat} {cls : List gr_c1}
theorem sp_U_ct {f i ln wd st fi : Nat} {ak ec : Bool} : (sp_U G (f + 1) i ln wd st fi ak ec).1 = if ln + 1 < gLN G then (fz_S (fun k => fz_T G f i (ln + 1) k false) (glen G i)).1 else 0 := by
  unfold sp_U
  dsimp only
  split
  · exact fz_S_1 fun k _ => fz_T_ct
  · rfl
theorem cs_spread {st ln fi : Nat} {ak : Bool} (hs : hf_Lay t T P) (hls : ln ≤ st) (hln : ln < gLN G) (hfi : fi < 16) : ∀ (f i wd K c : Nat) (ec : Bool) (o : Option Nat) (kk nn : Nat) (J : hf_I) (L : hf_L) (Q : Option Value → hf_M → Prop), cv_ok t T P J G p cls → i + (f + 1) = p → st ≤ i → J 136 11 = nI st → J 136 12 = nI ln → J 136 13 = nI fi → J 136 14 = hf_b ak → wd ≤ 800 → K ≤ (i + 1) * 2199023255552 → L 136 16 = fz_l o → fz_lt o → J 143 (4 * st + ln) = nI c → (∀ j, i < j → j < p → ln + 1 < gLN G → tl_ok J L G p j (ln + 1)) →
    (∀ J' L', sd_fr J J' (4 * st + ln) (nI (c + (if ak = true then 0 else (sp_V G f i ln wd st fi ak ec K).1))) → sd_L L L' → L' 136 16 = fz_l (fz_m o (sp_V G f i ln wd st fi ak ec K).2) → Q none (t, T, J', L', P)) →
    hf_G X Y_X8_spread (d + 4 + f) kk nn 0 (hf_en [.ref 136, .int (nI i), .int (nI wd), .long (lN K), .int (hf_b ec)] 11) [] (t, T, J, L, P) Q := by
  intro f
  induction f with
  | zero =>
    intro i wd K c ec o kk nn J L Q hk hf hst h11 h12 h13 h14 hwd hK hL ho hc htl h
    obtain ⟨⟨p1, p6, hG⟩, k9, k10, k12, k13, -⟩ := id hk
    have h400 := hG.1.2.2.2
    refine w_X8_spread_0 (d := d + 3) hs ?_
    rw [k12, k9, nI_1]
    refine ⟨fun q => ?_, fun q => ⟨fun _ => ?_, fun z => absurd (nI_lt (by omega) (by omega)) z⟩⟩
    · have q' := (nI_ltI (by omega) (by omega)).mp q
      have e : sp_V G 0 i ln wd st fi ak ec K = fz_e := by unfold sp_V; rw [if_neg (by omega)]
      rw [e] at h
      exact h J L (sd_rf (by rw [hc]; split <;> rfl)) sd_L_rf (by rw [hL, fz_m_c]; rfl)
    · have q' : wd ≤ ghr G := Nat.not_lt.mp fun z => q (nI_lt z (by omega))
      have e : sp_V G 0 i ln wd st fi ak ec K = fz_ad K (sp_U G 0 (i + 1) ln wd st fi ak ec) := by unfold sp_V; rw [if_pos q']; rfl
      rw [e] at h
      refine w_X8_waysBehind_0 hs ⟨fun z => absurd (by rw [k9]; congr 1) z, fun _ => ?_⟩
      exact cs_spread_end (d := d) (f := 0) (c := c) (o := o) hs hk hf hst hls hln hfi h11 h12 h13 h14 (by omega) hK hL ho hc htl fun J' L' s1 s2 s3 => ⟨fun _ => h J' L' s1 s2 s3, fun z => absurd rfl z⟩
  | succ f ih =>
    intro i wd K c ec o kk nn J L Q hk hf hst h11 h12 h13 h14 hwd hK hL ho hc htl h
    obtain ⟨⟨p1, p6, hG⟩, k9, k10, k12, k13, k140, kopt, kex, kal, klw, kC⟩ := id hk
    have h400 := hG.1.2.2.2
    have L4 := hG.1.2.1
    have hl := hG.2.1 (i + 1) (by omega)
    obtain ⟨D, hD2, hD1⟩ : ∃ D, d + 4 + (f + 1) = D + 2 ∧ d + 4 + f = D + 1 := ⟨d + 3 + f, by omega, by omega⟩
    refine w_X8_spread_0 (d := d + 4 + f) hs ?_
    rw [k12, k9, nI_1]
    refine ⟨fun q => ?_, fun q => ⟨fun _ => ?_, fun z => absurd (nI_lt (by omega) (by omega)) z⟩⟩
    · have q' := (nI_ltI (by omega) (by omega)).mp q
      have e : sp_V G (f + 1) i ln wd st fi ak ec K = fz_e := by unfold sp_V; rw [if_neg (by omega)]
      rw [e] at h
      exact h J L (sd_rf (by rw [hc]; split <;> rfl)) sd_L_rf (by rw [hL, fz_m_c]; rfl)
    · have q' : wd ≤ ghr G := Nat.not_lt.mp fun z => q (nI_lt z (by omega))
      have eV : sp_V G (f + 1) i ln wd st fi ak ec K = fz_o (fz_ad K (fz_S (fz_W G f (i + 1) ln wd st fi ak ec) (glen G (i + 1)))) (fz_ad K (sp_U G (f + 1) (i + 1) ln wd st fi ak ec)) := by
        unfold sp_V
        rw [if_pos q', fz_R_1, fz_ad_o]
        rfl
      rw [eV] at h
      -- what follows, and then each choice
      have rest : hf_G X Y_X8_spread (d + 4 + (f + 1)) kk nn 31 [some (.ref 136), none, some (.int (nI wd)), some (.long (lN K)), none, some (.int (hf_b ec)), some (.int (nI (i + 1))), none, none, none, none] [.int (nI (sp_U G (f + 1) (i + 1) ln wd st fi ak ec).1)] (t, T, J, L, P) Q := by
        refine cs_spread_end (d := d) (f := f + 1) (c := c) (o := o) hs hk hf hst hls hln hfi h11 h12 h13 h14 (by omega) hK hL ho hc htl fun J1 L1 s1 s2 s3 => ⟨fun z => by omega, fun _ => ?_⟩
        have lU : fz_lt (fz_ad K (sp_U G (f + 1) (i + 1) ln wd st fi ak ec)).2 := by
          have hC := hG.2.2.2.2.2 ln wd (i + 1 - st) ak ec
          have ub : fz_bd (3 * 6 ^ f) ((f + 3) * 2199023255552) (sp_U G (f + 1) (i + 1) ln wd st fi ak ec) := by
            unfold sp_U
            dsimp only
            split
            · exact fz_bd_w (fz_bd_ad (fz_bd_S (N := 6 ^ f) (B := (f + 2) * 2199023255552) _ fun k hk => fz_T_bd p6 hG (by omega) hk)) (Nat.mul_le_mul_right _ hl.2) (by omega)
            · exact fz_bd_e
          exact fz_lt_bd (fz_bd_ad ub) (by omega)
        have lW : ∀ k, k < glen G (i + 1) → fz_lt (fz_ad K (fz_W G f (i + 1) ln wd st fi ak ec k)).2 := by
          intro k hk
          have ck := fz_ck_le hG (show i + 1 < p by omega) hk
          have ub : fz_bd (6 ^ f) ((f + 2) * 2199023255552) (fz_W G f (i + 1) ln wd st fi ak ec k) := by
            unfold fz_W
            split
            · exact fz_bd_w (fz_bd_ad (fz_R_bd p6 hG f (i + 1 + 1) _ _ _ _ _ _ (by omega))) (Nat.le_refl _) (by omega)
            · exact fz_bd_e
          exact fz_lt_bd (fz_bd_ad ub) (by omega)
        have lS : ∀ k, k ≤ glen G (i + 1) → fz_lt (fz_ad K (fz_S (fz_W G f (i + 1) ln wd st fi ak ec) k)).2 := by
          intro k
          induction k with
          | zero => intro _ x hx; cases hx
          | succ k ihk =>
            intro hk
            rw [fz_S, fz_ad_o]
            exact fz_lt_m (ihk (by omega)) (lW k (by omega))
        have loop : ∀ g k, k + g = glen G (i + 1) → ∀ J2 L2, sd_fr J J2 (4 * st + ln) (nI (c + (if ak = true then 0 else (sp_U G (f + 1) (i + 1) ln wd st fi ak ec).1) + (if ak = true then 0 else (fz_S (fz_W G f (i + 1) ln wd st fi ak ec) k).1))) → sd_L L L2 → L2 136 16 = fz_l (fz_m (fz_m o (fz_ad K (sp_U G (f + 1) (i + 1) ln wd st fi ak ec)).2) (fz_ad K (fz_S (fz_W G f (i + 1) ln wd st fi ak ec) k)).2) → hf_G X Y_X8_spread (d + 4 + (f + 1)) kk nn 166 [some (.ref 136), none, some (.int (nI wd)), some (.long (lN K)), none, some (.int (hf_b ec)), some (.int (nI (i + 1))), none, some (.int (nI k)), none, none] [] (t, T, J2, L2, P) Q := by
          intro g
          induction g with
          | zero =>
            intro k hkg J2 L2 g1 g2 g3
            obtain rfl : k = glen G (i + 1) := by omega
            have k2 := cv_mv hk (sd_cv g1)
            rw [hD2]
            refine w_X8_spread_166 hs ?_
            rw [nI_clamp (show i + 1 < 2 ^ 31 by omega), k2.2.2.2.2.2.1 (i + 1) (by omega)]
            refine ⟨vp_in_nI (by omega) (by omega), fun _ => h J2 L2 ?_ g2 ?_, fun z => absurd (nI_le (Nat.le_refl _) (by omega)) z⟩
            · have e : c + (if ak = true then 0 else (sp_U G (f + 1) (i + 1) ln wd st fi ak ec).1) + (if ak = true then 0 else (fz_S (fz_W G f (i + 1) ln wd st fi ak ec) (glen G (i + 1))).1) = c + (if ak = true then 0 else (fz_o (fz_ad K (fz_S (fz_W G f (i + 1) ln wd st fi ak ec) (glen G (i + 1)))) (fz_ad K (sp_U G (f + 1) (i + 1) ln wd st fi ak ec))).1) := by
                cases ak with
                | true => simp
                | false =>
                  simp only [Bool.false_eq_true, if_false]
                  show c + _ + _ = c + (_ + _)
                  show c + (sp_U G (f + 1) (i + 1) ln wd st fi false ec).1 + (fz_S (fz_W G f (i + 1) ln wd st fi false ec) (glen G (i + 1))).1 = c + ((fz_S (fz_W G f (i + 1) ln wd st fi false ec) (glen G (i + 1))).1 + (sp_U G (f + 1) (i + 1) ln wd st fi false ec).1)
                  omega
              rw [← e]
              exact g1
            · rw [g3, fz_m_a]
              congr 2
              exact fz_m_c _ _
          | succ g ihg =>
            intro k hkg J2 L2 g1 g2 g3
            have klt : k < glen G (i + 1) := by omega
            have cv2 := sd_cv g1
            have k2 := cv_mv hk cv2
            have e136 : J2 136 = J 136 := g1.1 136 (by omega) (by omega) (by omega) (by omega)
            obtain ⟨-, -, k10', -, -, k140', kopt', kex', -⟩ := id k2
            obtain ⟨o1, o2, o3⟩ := kopt' (i + 1) k (by omega) klt
            have o16 := hG.2.2.1 (i + 1) k (by omega) klt
            have w360 := hG.2.2.2.1 (gopt G (i + 1) k)
            have b40 := hG.1.2.2.1
            have l999 := hG.2.2.2.2.1 (gopt G (i + 1) k)
            have ck := fz_ck_le hG (show i + 1 < p by omega) klt
            -- the choice, with its ECHO
            have child : ∀ e' : Bool, e' = (ec || gex G (gopt G (i + 1) k) ln) → hf_G X Y_X8_spread (d + 4 + f) 0 0 0 (hf_en [.ref 136, .int (nI (i + 1)), .int (nI wd + nI (gbl G) + nI (gwn G (gopt G (i + 1) k))), .long (lN K + (((nI (gls G (gopt G (i + 1) k))).toInt64 <<< ((30 : Int32).toInt64 &&& 63)) + ((nI (gopt G (i + 1) k)).toInt64 <<< ((6 + (4 * (5 - nI (i + 1)))).toInt64 &&& 63)))), .int (hf_b e')] 11) [] (t, T, J2, L2, P) (fun r M => hf_G X Y_X8_spread (d + 4 + (f + 1)) kk nn 253 [some (.ref 136), none, some (.int (nI wd)), some (.long (lN K)), none, some (.int (hf_b ec)), some (.int (nI (i + 1))), none, some (.int (nI k)), none, none] (r.toList ++ []) M Q) := by
              intro e' he
              rw [nI_add, nI_add, ky_cost (by omega), ky_word ⟨i + 1, by omega⟩ ⟨gopt G (i + 1) k, o16⟩, lN_add, lN_add]
              have hck : 1073741824 * gls G (gopt G (i + 1) k) + gopt G (i + 1) k * 2 ^ (6 + 4 * (5 - (i + 1))) = fz_ck G (i + 1) (gopt G (i + 1) k) := rfl
              have vE : sp_V G f (i + 1) ln (wd + gbl G + gwn G (gopt G (i + 1) k)) st fi ak e' (K + fz_ck G (i + 1) (gopt G (i + 1) k)) = fz_ad K (fz_W G f (i + 1) ln wd st fi ak ec k) := by
                unfold sp_V fz_W
                rw [he]
                split
                · rw [fz_ad_ad]
                · rfl
              refine ih (i + 1) _ (K + fz_ck G (i + 1) (gopt G (i + 1) k)) (c + (if ak = true then 0 else (sp_U G (f + 1) (i + 1) ln wd st fi ak ec).1) + (if ak = true then 0 else (fz_S (fz_W G f (i + 1) ln wd st fi ak ec) k).1)) e' (fz_m (fz_m o (fz_ad K (sp_U G (f + 1) (i + 1) ln wd st fi ak ec)).2) (fz_ad K (fz_S (fz_W G f (i + 1) ln wd st fi ak ec) k)).2) 0 0 J2 L2 _ k2 (by omega) (by omega) (by rw [e136]; exact h11) (by rw [e136]; exact h12) (by rw [e136]; exact h13) (by rw [e136]; exact h14) (by omega) (by omega) g3 (fz_lt_m (fz_lt_m ho lU) (lS k (by omega))) (by rw [g1.2, hf_upd_eq]) (fun j j1 j2 j3 => tl_mv (htl j (by omega) j2 j3) (by omega) g1 g2) fun J3 L3 r1 r2 r3 => ?_
              rw [vE] at r1 r3
              refine w_X8_spread_253 hs ?_
              rw [nI_1]
              refine ihg (k + 1) (by omega) J3 L3 (sd_tr g1 ?_) (sd_L_tr g2 r2) ?_
              · have e : c + (if ak = true then 0 else (sp_U G (f + 1) (i + 1) ln wd st fi ak ec).1) + (if ak = true then 0 else (fz_S (fz_W G f (i + 1) ln wd st fi ak ec) (k + 1)).1) = c + (if ak = true then 0 else (sp_U G (f + 1) (i + 1) ln wd st fi ak ec).1) + (if ak = true then 0 else (fz_S (fz_W G f (i + 1) ln wd st fi ak ec) k).1) + (if ak = true then 0 else (fz_ad K (fz_W G f (i + 1) ln wd st fi ak ec k)).1) := by
                  cases ak with
                  | true => simp
                  | false =>
                    simp only [Bool.false_eq_true, if_false]
                    show c + _ + ((fz_S (fz_W G f (i + 1) ln wd st fi false ec) k).1 + (fz_W G f (i + 1) ln wd st fi false ec k).1) = c + _ + (fz_S (fz_W G f (i + 1) ln wd st fi false ec) k).1 + (fz_W G f (i + 1) ln wd st fi false ec k).1
                    omega
                rw [e]
                exact r1
              · rw [r3, fz_S, fz_ad_o, fz_m_a]
                rfl
            rw [hD2, hD1] at child
            rw [hD2]
            refine w_X8_spread_166 hs ?_
            rw [tp_c, nI_clamp (show i + 1 < 2 ^ 31 by omega), k140' (i + 1) (by omega), nI_clamp (show 3 * (i + 1) + k < 2 ^ 31 by omega), o1, nI_clamp (show gopt G (i + 1) k < 2 ^ 31 by omega), o2, o3, k10', e136, h12, nI_clamp (show ln < 2 ^ 31 by omega)]
            have v16 : vp_in (nI (gopt G (i + 1) k)) 16 := vp_in_nI o16 (by omega)
            refine ⟨vp_in_nI (by omega) (by omega), fun z => absurd z (nI_ge (by omega) (by omega)), fun _ => ⟨vp_in_nI (by omega) (by omega), fun z => ⟨v16, v16, ?_⟩, fun z => ⟨vp_in_nI (by omega) (by omega), fun y => ⟨v16, v16, ?_⟩, fun y => ⟨v16, v16, ?_⟩⟩⟩⟩
            · have e1 : ec = true := by
                cases ec with
                | true => rfl
                | false => exact absurd rfl z
              exact child true (by rw [e1]; rfl)
            · have e0 : ec = false := by
                cases ec with
                | false => rfl
                | true => exact absurd z (by decide)
              exact child false (by rw [e0, kex', decide_eq_false y]; rfl)
            · have e0 : ec = false := by
                cases ec with
                | false => rfl
                | true => exact absurd z (by decide)
              exact child true (by rw [e0, kex', decide_eq_true y]; rfl)
        refine loop (glen G (i + 1)) 0 (by omega) J1 L1 ?_ s2 ?_
        · have e : c + (if ak = true then 0 else (sp_U G (f + 1) (i + 1) ln wd st fi ak ec).1) + (if ak = true then 0 else (fz_S (fz_W G f (i + 1) ln wd st fi ak ec) 0).1) = c + (if ak = true then 0 else (sp_U G (f + 1) (i + 1) ln wd st fi ak ec).1) := by
            cases ak <;> rfl
          rw [e]
          exact s1
        · rw [s3, fz_m_c _ (fz_ad K (fz_S (fz_W G f (i + 1) ln wd st fi ak ec) 0)).2]
          rfl
      refine w_X8_waysBehind_0 hs ⟨fun z => ?_, fun z => absurd z (by rw [k9, nI_eq (by omega) (by omega)]; omega)⟩
      rw [k13, h12, nI_1, tp_w, nI_1, nI_clamp (show 4 * (i + 1) + ln + 1 < 2 ^ 31 by omega)]
      refine ⟨fun y => ?_, fun y => ?_⟩
      · have y' := (nI_leI (by omega) (by omega)).mp y
        have e0 : (sp_U G (f + 1) (i + 1) ln wd st fi ak ec).1 = 0 := by rw [sp_U_ct, if_neg (by omega)]
        rw [e0] at rest
        exact rest
      · have y' : ln + 1 < gLN G := Nat.not_le.mp fun z => y (nI_le z (by omega))
        have t1 := (htl (i + 1) (by omega) (by omega) y').1
        rw [show p - (i + 1 + 1) = f by omega] at t1
        rw [← Nat.add_assoc] at t1
        refine ⟨vp_in_nI (by omega) (by omega), ?_⟩
        rw [t1]
        have e0 : (sp_U G (f + 1) (i + 1) ln wd st fi ak ec).1 = (fz_S (fun k => fz_T G f (i + 1) (ln + 1) k false) (glen G (i + 1))).1 := by rw [sp_U_ct, if_pos y']
        rw [e0] at rest
        exact rest
end SPREAD
