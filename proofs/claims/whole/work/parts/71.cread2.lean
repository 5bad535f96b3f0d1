/-! a whole TEXT, read by the class -/
def cl_cd (cls : List gr_c1) : gr_cd := cls.flatMap fun q => q.2.1.1 ++ q.2.2.2.1
theorem cl_cd_snoc (cls : List gr_c1) (q : gr_c1) : cl_cd (cls ++ [q]) = cl_cd cls ++ (q.2.1.1 ++ q.2.2.2.1) := by
  unfold cl_cd
  rw [List.flatMap_append]
  simp
/-- the cells of a TEXT hold these CLAUSES -/
def tx_st (tx c0 c1 c2 c3 c4 c5 : Nat) (cls : List gr_c1) (I : hf_I) : Prop := I tx 6 = nI (2 * (cl_cd cls).length) ∧ I tx 7 = nI cls.length ∧ pc_cd (I c0) (cl_cd cls) ∧ ∀ i q, cls[i]? = some q → I c1 i = nI q.1 ∧ I c2 i = nI (2 * (cl_cd (cls.take i)).length) ∧ I c3 i = nI (2 * ((cl_cd (cls.take i)).length + q.2.1.1.length)) ∧ I c4 i = nI (2 * ((cl_cd (cls.take i)).length + q.2.1.1.length + q.2.2.2.1.length)) ∧ I c5 i = nI q.2.2.1
theorem tx_snoc {I I' : hf_I} {cls : List gr_c1} {tp : Nat → Int32} {z k lv : Nat} {q : gr_c1} (h : tx_st 124 125 126 127 128 129 130 cls I) (hp : cl_po I tp z k lv cls.length (cl_cd cls) q I') : tx_st 124 125 126 127 128 129 130 (cls ++ [q]) I' := by
  obtain ⟨h1, h2, h3, h4⟩ := h
  obtain ⟨p1, p2, p3, p4, p5, p6, p7, p8, p9, p10, p11, p12⟩ := hp
  refine ⟨?_, ?_, ?_, fun i r hi => ?_⟩
  · rw [cl_cd_snoc]; exact p4
  · rw [List.length_append, List.length_singleton]; exact p6
  · rw [cl_cd_snoc]; exact p5
  · rw [p7, p8, p9, p10, p11]
    by_cases e : i = cls.length
    · subst e
      have er : r = q := by
        rw [List.getElem?_append_right (Nat.le_refl _), Nat.sub_self] at hi
        exact (Option.some.inj hi).symm
      subst er
      rw [hf_upd_eq, hf_upd_eq, hf_upd_eq, hf_upd_eq, hf_upd_eq]
      have et : (cls ++ [r]).take cls.length = cls := by simp
      rw [et]
      exact ⟨rfl, rfl, rfl, rfl, rfl⟩
    · have hlt : i < cls.length := by
        rcases Nat.lt_or_ge i cls.length with u | u
        · exact u
        · rw [List.getElem?_eq_none (by rw [List.length_append, List.length_singleton]; omega)] at hi
          cases hi
      rw [List.getElem?_append_left hlt] at hi
      rw [hf_upd_ne e, hf_upd_ne e, hf_upd_ne e, hf_upd_ne e, hf_upd_ne e]
      have et : (cls ++ [q]).take i = cls.take i := by
        rw [List.take_append_of_le_length (by omega)]
      rw [et]
      exact h4 i r hi
section CREAD
variable {X : hf_X} {d kk nn t : Nat} {T : hf_T} {I : hf_I} {L : hf_L} {P : hf_P} {Q : Option Value → hf_M → Prop} {tp : Nat → Int32} {z m : Nat} {S : Bool}
theorem cs_reads_loop {Ib : hf_I} (hs : hf_Lay t T P) (hby : P 123 2 = some 122) (hz4 : z ≤ 400) (hb : tk_byte tp z) (hm : m ≤ z) (hlt : ∀ k, k < m → tk_s tp z k < z) (hge : ∀ k, m ≤ k → tk_s tp z k = z) : ∀ (j : Nat) (cls : List gr_c1) (k lv p : Nat) (I : hf_I), cls.length + j = 12 → k ≤ m → lv ≤ 50 → (cl_cd cls).length ≤ k → p ≤ z → tk_skp tp z p = tk_s tp z k → I 122 = tp → I 123 3 = nI z → I 123 8 = nI p → I 123 5 = nI lv → (I 123 4 = if S = true then 0 else 1) → I 123 1 = -1 → tx_st 124 125 126 127 128 129 130 cls I → (∀ a, a < 123 ∨ 130 < a → I a = Ib a) →
    ((gr_al S (tk_c tp z) (tk_v tp z) m j k lv).1 = 2 → ∀ I', tx_st 124 125 126 127 128 129 130 (cls ++ (gr_al S (tk_c tp z) (tk_v tp z) m j k lv).2.2) I' → (∀ a, a < 123 ∨ 130 < a → I' a = Ib a) → I' 123 1 = -1 → Q (some (.int 1)) (t, T, I', L, P)) →
    ((gr_al S (tk_c tp z) (tk_v tp z) m j k lv).1 = 1 → ∀ I', I' 123 1 = nI (tk_s tp z (gr_al S (tk_c tp z) (tk_v tp z) m j k lv).2.1) → (∀ a, a < 123 ∨ 130 < a → I' a = Ib a) → Q (some (.int 0)) (t, T, I', L, P)) →
    hf_G X Y_X5_reads (d + 609) kk nn 54 [some (.ref 123), none, none, none, some (.int (nI cls.length))] [] (t, T, I, L, P) Q := by
  have hc0 : ∀ j, m ≤ j → tk_c tp z j = 0 := fun j hj => tk_c_end (hge j hj)
  intro j
  induction j with
  | zero =>
    intro cls k lv p I hj hk hlv hlen hp hsk h122 h3 h8 h5 h4 hF htx hfr h2 h1
    have e12 : cls.length = 12 := by omega
    refine w_X5_reads_54 hs ⟨fun _ => cs_advance (d := d + 607) hs hby h122 h3 hz4 hp h8 (w_X5_reads_107 hs (h1 rfl _ ?_ fun a ha => ?_)), fun g => absurd (by rw [e12]; decide) g⟩
    · show pc_adv I tp z p 123 7 = _
      show nI (tk_skp tp z p) = nI (tk_s tp z k)
      rw [hsk]
    · rw [← hfr a ha]
      simp only [pc_adv, hf_up]
      repeat rw [if_neg (by omega)]
  | succ j ih =>
    intro cls k lv p I hj hk hlv hlen hp hsk h122 h3 h8 h5 h4 hF htx hfr h2 h1
    refine w_X5_reads_54 hs ⟨fun g => absurd g (nI_ge (b := 12) (by omega) (by omega)), fun _ => cs_advance (d := d + 607) hs hby h122 h3 hz4 hp h8 (w_X5_reads_65 hs ?_)⟩
    have hst : pc_st (pc_adv I tp z p) tp z k lv (cl_cd cls) (pc_adv I tp z p) := by
      refine ⟨⟨h122, h3, ?_, ?_, ?_⟩, h5, htx.1, htx.2.2.1, ⟨fun _ _ _ _ => rfl, rfl, rfl, rfl, rfl⟩⟩
      · show nI (tk_skp tp z p) = _; rw [hsk]
      · show nI (tk_en tp z (tk_skp tp z p)) = _; rw [hsk]
      · show nI (tk_kd tp z (tk_skp tp z p)) = _; rw [hsk]
    have hfr1 : ∀ a, a < 123 ∨ 130 < a → pc_adv I tp z p a = Ib a := fun a ha => by
      rw [← hfr a ha]
      simp only [pc_adv, hf_up]
      repeat rw [if_neg (by omega)]
    have htx1 : tx_st 124 125 126 127 128 129 130 cls (pc_adv I tp z p) := htx
    have cn := gr_cl_n (S := S) (v := tk_v tp z) (lv := lv) hc0 (show m ≤ 400 by omega) hk
    refine cs_clause (d := d) (S := S) hs hby hz4 hb h4 (by omega) hlv hlen (by omega) htx.2.1 hst (fun e I2 hp2 => ?_) fun e I2 hf2 => ?_
    · have fw := gr_cl_fw e
      generalize hr : gr_cl S (tk_c tp z) (tk_v tp z) k lv = r at *
      have htx2 := tx_snoc htx1 hp2
      obtain ⟨p1, p2, p3, p4, p5, p6, p7, p8, p9, p10, p11, p12⟩ := id hp2
      have hfr2 : ∀ a, a < 123 ∨ 130 < a → I2 a = Ib a := fun a ha => (p12.1 a ha).trans (hfr1 a ha)
      have e6 := p1.2.2.2.2
      have kl := tk_kd_lt (tp := tp) (z := z) (p := tk_s tp z r.2.1)
      have z6 : (nI (tk_kd tp z (tk_s tp z r.2.1)) = 0) ↔ tk_kd tp z (tk_s tp z r.2.1) = 0 := nI_eq (b := 0) (by omega) (by omega)
      have zend : tk_kd tp z (tk_s tp z r.2.1) = 0 ↔ r.2.1 = m := by
        constructor
        · intro q
          rcases Nat.lt_or_ge r.2.1 m with u | u
          · have := hlt _ u
            unfold tk_kd tk_k1 at q
            rw [if_pos this] at q
            repeat' split at q
            all_goals omega
          · have := cn.2; omega
        · intro q
          unfold tk_kd
          rw [if_neg (by rw [hge _ (by omega)]; omega)]
      have eal : gr_al S (tk_c tp z) (tk_v tp z) m (j + 1) k lv = if r.2.1 = m then (2, r.2.1, [r.2.2.2]) else if tk_c tp z r.2.1 = 159 then ((gr_al S (tk_c tp z) (tk_v tp z) m j (r.2.1 + 1) r.2.2.1).1, (gr_al S (tk_c tp z) (tk_v tp z) m j (r.2.1 + 1) r.2.2.1).2.1, r.2.2.2 :: (gr_al S (tk_c tp z) (tk_v tp z) m j (r.2.1 + 1) r.2.2.1).2.2) else (1, r.2.1, []) := by
        rw [gr_al, hr, if_pos e]
      refine w_X5_reads_69 hs ⟨fun _ => ⟨fun g => ?_, fun g => ?_⟩, fun g => absurd g (by decide)⟩
      · rw [e6, z6, zend] at g
        rw [if_neg g] at eal
        refine ca_isSign (ch := 59) hs hby hz4 hb (by omega) p1 ?_
        by_cases h9 : tk_c tp z r.2.1 = 159
        · rw [hf_b1 h9]
          rw [if_pos h9] at eal
          have hkm := cn.2
          refine w_X5_reads_89 hs ⟨fun _ => ?_, fun g => absurd g (by decide)⟩
          rw [nI_1]
          have := ih (cls ++ [r.2.2.2]) (r.2.1 + 1) r.2.2.1 (tk_en tp z (tk_s tp z r.2.1)) I2 (by rw [List.length_append, List.length_singleton]; omega) (by omega) (fw.2.2.2 hlv) (by rw [cl_cd_snoc, List.length_append, List.length_append]; omega) (tk_en_le (tk_s_le _)) rfl p1.1 p1.2.1 p1.2.2.2.1 p2 (p3.trans h4) (p12.2.trans hF) htx2 hfr2 (fun e2 I3 h3t h3f h3F => ?_) (fun e2 I3 h3t h3f => ?_)
          · rw [List.length_append, List.length_singleton] at this
            exact this
          · refine h2 (by rw [eal]; exact e2) I3 ?_ h3f h3F
            rw [eal]
            rw [List.append_assoc] at h3t
            exact h3t
          · refine h1 (by rw [eal]; exact e2) I3 ?_ h3f
            rw [eal]
            exact h3t
        · rw [hf_b0 h9]
          rw [if_neg h9] at eal
          refine w_X5_reads_89 hs ⟨fun g => absurd rfl g, fun _ => h1 (by rw [eal]) _ ?_ fun a ha => ?_⟩
          · rw [eal]
            show I2 123 7 = _
            exact p1.2.2.1
          · rw [← hfr2 a ha]
            simp only [hf_up]
            rw [if_neg (by omega)]
      · rw [e6, z6, zend] at g
        rw [if_pos g] at eal
        refine h2 (by rw [eal]) I2 ?_ hfr2 (p12.2.trans hF)
        rw [eal]
        exact htx2
    · have eal : gr_al S (tk_c tp z) (tk_v tp z) m (j + 1) k lv = (1, (gr_cl S (tk_c tp z) (tk_v tp z) k lv).2.1, []) := by
        rw [gr_al, if_neg (by omega)]
      refine w_X5_reads_69 hs ⟨fun g => absurd rfl g, fun _ => h1 (by rw [eal]) I2 ?_ fun a ha => ?_⟩
      · rw [eal]; exact hf2.2
      · rw [← hfr1 a ha]
        exact hf2.1.1 a (by omega) (by omega) (by omega)
theorem cs_reads (hs : hf_Lay t T P) (hz4 : z ≤ 400) (hb : tk_byte tp z) (hm : m ≤ z) (hlt : ∀ k, k < m → tk_s tp z k < z) (hge : ∀ k, m ≤ k → tk_s tp z k = z) (ht : I 122 = tp)
    (h2 : (gr_al S (tk_c tp z) (tk_v tp z) m 12 0 0).1 = 2 → ∀ I', tx_st 124 125 126 127 128 129 130 (gr_al S (tk_c tp z) (tk_v tp z) m 12 0 0).2.2 I' → (∀ a, a < 123 ∨ 130 < a → I' a = I a) → I' 123 1 = -1 → Q (some (.int 1)) (t, T, I', L, hf_upP P 123 2 (some 122)))
    (h1 : (gr_al S (tk_c tp z) (tk_v tp z) m 12 0 0).1 = 1 → ∀ I', I' 123 1 = nI (tk_s tp z (gr_al S (tk_c tp z) (tk_v tp z) m 12 0 0).2.1) → (∀ a, a < 123 ∨ 130 < a → I' a = I a) → Q (some (.int 0)) (t, T, I', L, hf_upP P 123 2 (some 122))) : hf_G X Y_X5_reads (d + 609) kk nn 0 (hf_en [.ref 123, .ref 122, .int (nI z), .int (if S = true then 0 else 1)] 5) [] (t, T, I, L, P) Q := by
  have m1 : (if 400 < nI z then 400 else nI z) = nI z := if_neg (nI_nlt (a := 400) (by omega) (by omega))
  refine w_X5_reads_0 hs ⟨by cases S <;> simp, ?_⟩
  rw [m1]
  have hs' : hf_Lay t T (hf_upP P 123 2 (some 122)) := by
    refine ⟨hs.1, hs.2.1, fun a j b h => ?_⟩
    have hne : ¬ (a = 123 ∧ j = 2) := by
      rintro ⟨rfl, rfl⟩
      cases h
    rw [← hs.2.2 a j b h]
    unfold hf_upP va_up
    by_cases ea : a = 123
    · subst ea
      rw [if_pos rfl]
      rw [if_neg (fun q => hne ⟨rfl, q⟩)]
    · rw [if_neg ea]
  refine cs_reads_loop (Ib := I) (d := d) (S := S) hs' (by simp [hf_upP, va_up]) hz4 hb hm hlt hge 12 [] 0 0 0 _ (by simp) (Nat.zero_le _) (by omega) (by simp [cl_cd]) (Nat.zero_le _) rfl ht rfl rfl rfl rfl rfl ⟨rfl, rfl, fun j hj => absurd hj (by simp [cl_cd]), fun i q hi => by simp at hi⟩ (fun a ha => ?_) h2 h1
  simp only [hf_up]
  repeat rw [if_neg (by omega)]
end CREAD
