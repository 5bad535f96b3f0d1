set_option maxHeartbeats 4000000 in
theorem w_X0_read_0 {X : hf_X} {d k n t : Nat} {T : hf_T} {I : hf_I} {L : hf_L} {P : hf_P} {Q : Option Value → hf_M → Prop} {x2 : Int32} {x3 : Int32} (hs : hf_Lay t T P) (h : hf_G X Y_X0_read d k n 18 [some (.ref 146), some (.ref 101), some (.int x2), some (.int x3), some (.ref 114), some (.int 0), none, none, none, none, none] [] (t, T, (hf_up I 146 1 (I 114 2)), L, P) Q) : hf_G X Y_X0_read d k n 0 (hf_en [.ref 146, .ref 101, .int x2, .int x3] 11) [] (t, T, I, L, P) Q := by
  show hf_G X Y_X0_read d k n 0 [some (.ref 146), some (.ref 101), some (.int x2), some (.int x3), none, none, none, none, none, none, none] [] (t, T, I, L, P) Q
  refine hf_aload_n dX0_read_0 rfl rfl ?_
  refine hf_getr (b := 114) (c := 1) (j := 7) dX0_read_1 (hs.2.1 101 _ rfl) (hf_lin hs 101 rfl) (by decide) (by decide) hw122 rfl (hs.2.2 101 7 _ rfl) ?_
  refine hf_astore (l2 := [some (.ref 146), some (.ref 101), some (.int x2), some (.int x3), some (.ref 114), none, none, none, none, none, none]) dX0_read_4 (by decide) rfl ?_
  refine hf_aload_n dX0_read_6 rfl rfl ?_
  refine hf_aload dX0_read_7 rfl ?_
  refine hf_geti (c := 3) (j := 2) dX0_read_9 (hs.2.1 114 _ rfl) (hf_lin hs 114 rfl) (by decide) (by decide) hw88 (Or.inl rfl) ?_
  refine hf_puti (c := 0) (j := 1) dX0_read_12 (hs.2.1 146 _ rfl) (hf_lin hs 146 rfl) (by decide) (by decide) hw348 rfl rfl ?_
  refine hf_iconst (v := 0) dX0_read_15 (by decide) ?_
  refine hf_istore (l2 := [some (.ref 146), some (.ref 101), some (.int x2), some (.int x3), some (.ref 114), some (.int 0), none, none, none, none, none]) dX0_read_16 (by decide) rfl ?_
  exact h

set_option maxHeartbeats 4000000 in
theorem w_X0_read_18 {X : hf_X} {d k n t : Nat} {T : hf_T} {I : hf_I} {L : hf_L} {P : hf_P} {Q : Option Value → hf_M → Prop} {x2 : Int32} {x3 : Int32} {x5 : Int32} (hs : hf_Lay t T P) (h : ((I 146 1) ≤ x5 → hf_G X Y_X0_read d k n 50 [some (.ref 146), some (.ref 101), none, some (.int x3), some (.ref 114), some (.int 0), some (.int x2), some (.int 0), none, none, none] [] (t, T, I, L, P) Q) ∧ (¬ ((I 146 1) ≤ x5) → vp_in x5 12 ∧ (hf_G X Y_X0_read d k n 18 [some (.ref 146), some (.ref 101), some (.int x2), some (.int x3), some (.ref 114), some (.int (x5 + 1)), none, none, none, none, none] [] (t, T, (hf_up I 147 x5.toNatClampNeg 0), L, P) Q))) : hf_G X Y_X0_read d k n 18 [some (.ref 146), some (.ref 101), some (.int x2), some (.int x3), some (.ref 114), some (.int x5), none, none, none, none, none] [] (t, T, I, L, P) Q := by
  refine hf_iload dX0_read_18 rfl ?_
  refine hf_aload_n dX0_read_20 rfl rfl ?_
  refine hf_geti (c := 0) (j := 1) dX0_read_21 (hs.2.1 146 _ rfl) (hf_lin hs 146 rfl) (by decide) (by decide) hw348 (Or.inl rfl) ?_
  refine hf_icmp_ge (tgt := 41) dX0_read_24 (by decide) (fun hc => ?_) (fun hc => ?_)
  · replace h := h.1 hc
    refine hf_iconst (v := 0) dX0_read_41 (by decide) ?_
    refine hf_istore (l2 := [some (.ref 146), some (.ref 101), some (.int x2), some (.int x3), some (.ref 114), some (.int 0), none, none, none, none, none]) dX0_read_42 (by decide) rfl ?_
    refine hf_iload_n dX0_read_44 rfl rfl ?_
    refine hf_istore (l2 := [some (.ref 146), some (.ref 101), some (.int x2), some (.int x3), some (.ref 114), some (.int 0), some (.int x2), none, none, none, none]) dX0_read_45 (by decide) rfl ?_
    refine hf_iconst (v := 0) dX0_read_47 (by decide) ?_
    refine hf_istore (l2 := [some (.ref 146), some (.ref 101), some (.int x2), some (.int x3), some (.ref 114), some (.int 0), some (.int x2), some (.int 0), none, none, none]) dX0_read_48 (by decide) rfl ?_
    refine hf_drop (l' := [some (.ref 146), some (.ref 101), none, some (.int x3), some (.ref 114), some (.int 0), some (.int x2), some (.int 0), none, none, none]) (by simp [hf_sub]) ?_
    exact h
  · replace h := h.2 hc
    refine hf_aload_n dX0_read_27 rfl rfl ?_
    refine hf_getr (b := 147) (c := 0) (j := 0) dX0_read_28 (hs.2.1 146 _ rfl) (hf_lin hs 146 rfl) (by decide) (by decide) hw346 rfl (hs.2.2 146 0 _ rfl) ?_
    refine hf_iload dX0_read_31 rfl ?_
    refine hf_iconst (v := 0) dX0_read_33 (by decide) ?_
    refine hf_iast dX0_read_34 (hs.2.1 147 _ rfl) (hf_lin hs 147 rfl) h.1 ?_
    replace h := h.2
    refine hf_iinc (v := (x5 + 1)) (l2 := [some (.ref 146), some (.ref 101), some (.int x2), some (.int x3), some (.ref 114), some (.int (x5 + 1)), none, none, none, none, none]) dX0_read_35 (by decide) rfl rfl rfl ?_
    refine hf_goto (tgt := 18) dX0_read_38 (by decide) ?_
    exact h

set_option maxHeartbeats 4000000 in
theorem w_X0_read_50 {X : hf_X} {d k n t : Nat} {T : hf_T} {I : hf_I} {L : hf_L} {P : hf_P} {Q : Option Value → hf_M → Prop} {x3 : Int32} {x5 : Int32} {x6 : Int32} {x7 : Int32} (hs : hf_Lay t T P) (h : (x3 ≤ x7 → Q (some (.int x5)) (t, T, I, L, P)) ∧ (¬ (x3 ≤ x7) → hf_G X Y_X0_read d k n 62 [some (.ref 146), some (.ref 101), none, some (.int x3), some (.ref 114), some (.int x5), some (.int x6), some (.int x7), some (.int 1), some (.int 0), none] [] (t, T, I, L, P) Q)) : hf_G X Y_X0_read d k n 50 [some (.ref 146), some (.ref 101), none, some (.int x3), some (.ref 114), some (.int x5), some (.int x6), some (.int x7), none, none, none] [] (t, T, I, L, P) Q := by
  refine hf_iload dX0_read_50 rfl ?_
  refine hf_iload_n dX0_read_52 rfl rfl ?_
  refine hf_icmp_ge (tgt := 170) dX0_read_53 (by decide) (fun hc => ?_) (fun hc => ?_)
  · replace h := h.1 hc
    refine hf_iload dX0_read_170 rfl ?_
    refine hf_ireturn dX0_read_172 rfl rfl ?_
    exact h
  · replace h := h.2 hc
    refine hf_iconst (v := 1) dX0_read_56 (by decide) ?_
    refine hf_istore (l2 := [some (.ref 146), some (.ref 101), none, some (.int x3), some (.ref 114), some (.int x5), some (.int x6), some (.int x7), some (.int 1), none, none]) dX0_read_57 (by decide) rfl ?_
    refine hf_iconst (v := 0) dX0_read_59 (by decide) ?_
    refine hf_istore (l2 := [some (.ref 146), some (.ref 101), none, some (.int x3), some (.ref 114), some (.int x5), some (.int x6), some (.int x7), some (.int 1), some (.int 0), none]) dX0_read_60 (by decide) rfl ?_
    exact h

set_option maxHeartbeats 4000000 in
theorem w_X0_read_62 {X : hf_X} {d k n t : Nat} {T : hf_T} {I : hf_I} {L : hf_L} {P : hf_P} {Q : Option Value → hf_M → Prop} {x3 : Int32} {x5 : Int32} {x6 : Int32} {x7 : Int32} {x8 : Int32} {x9 : Int32} (hs : hf_Lay t T P) (h : ((I 146 1) ≤ x9 → (x8 = 0 → hf_G X Y_X0_read d k n 50 [some (.ref 146), some (.ref 101), none, some (.int x3), some (.ref 114), some (.int x5), some (.int x6), some (.int (x7 + 1)), none, none, none] [] (t, T, I, L, P) Q) ∧ (¬ (x8 = 0) → hf_G X Y_X0_read d k n 50 [some (.ref 146), some (.ref 101), none, some (.int x3), some (.ref 114), some (.int (x5 + 1)), some (.int x6), some (.int (x7 + 1)), none, none, none] [] (t, T, I, L, P) Q)) ∧ (¬ ((I 146 1) ≤ x9) → vp_in x9 12 ∧ (vp_in (I 115 x9.toNatClampNeg) 16 ∧ (((I 108 (((I 115 x9.toNatClampNeg)).toNatClampNeg)) ≤ ((((x6 * 1103) + 12345) - ((x6 * 1103) + 12345) / 1000003 * 1000003) - (((x6 * 1103) + 12345) - ((x6 * 1103) + 12345) / 1000003 * 1000003) / 10 * 10) → (x8 = 0 → hf_G X Y_X0_read d k n 62 [some (.ref 146), some (.ref 101), none, some (.int x3), some (.ref 114), some (.int x5), some (.int (((x6 * 1103) + 12345) - ((x6 * 1103) + 12345) / 1000003 * 1000003)), some (.int x7), some (.int 0), some (.int (x9 + 1)), none] [] (t, T, I, L, P) Q) ∧ (¬ (x8 = 0) → hf_G X Y_X0_read d k n 62 [some (.ref 146), some (.ref 101), none, some (.int x3), some (.ref 114), some (.int x5), some (.int (((x6 * 1103) + 12345) - ((x6 * 1103) + 12345) / 1000003 * 1000003)), some (.int x7), some (.int 0), some (.int (x9 + 1)), none] [] (t, T, I, L, P) Q)) ∧ (¬ ((I 108 (((I 115 x9.toNatClampNeg)).toNatClampNeg)) ≤ ((((x6 * 1103) + 12345) - ((x6 * 1103) + 12345) / 1000003 * 1000003) - (((x6 * 1103) + 12345) - ((x6 * 1103) + 12345) / 1000003 * 1000003) / 10 * 10)) → vp_in x9 12 ∧ (vp_in x9 12 ∧ ((x8 = 0 → hf_G X Y_X0_read d k n 62 [some (.ref 146), some (.ref 101), none, some (.int x3), some (.ref 114), some (.int x5), some (.int (((x6 * 1103) + 12345) - ((x6 * 1103) + 12345) / 1000003 * 1000003)), some (.int x7), some (.int 0), some (.int (x9 + 1)), none] [] (t, T, (hf_up I 147 x9.toNatClampNeg ((I 147 x9.toNatClampNeg) + 1)), L, P) Q) ∧ (¬ (x8 = 0) → hf_G X Y_X0_read d k n 62 [some (.ref 146), some (.ref 101), none, some (.int x3), some (.ref 114), some (.int x5), some (.int (((x6 * 1103) + 12345) - ((x6 * 1103) + 12345) / 1000003 * 1000003)), some (.int x7), some (.int 1), some (.int (x9 + 1)), none] [] (t, T, (hf_up I 147 x9.toNatClampNeg ((I 147 x9.toNatClampNeg) + 1)), L, P) Q)))))))) : hf_G X Y_X0_read d k n 62 [some (.ref 146), some (.ref 101), none, some (.int x3), some (.ref 114), some (.int x5), some (.int x6), some (.int x7), some (.int x8), some (.int x9), none] [] (t, T, I, L, P) Q := by
  refine hf_iload dX0_read_62 rfl ?_
  refine hf_aload_n dX0_read_64 rfl rfl ?_
  refine hf_geti (c := 0) (j := 1) dX0_read_65 (hs.2.1 146 _ rfl) (hf_lin hs 146 rfl) (by decide) (by decide) hw348 (Or.inl rfl) ?_
  refine hf_icmp_ge (tgt := 156) dX0_read_68 (by decide) (fun hc => ?_) (fun hc => ?_)
  · replace h := h.1 hc
    refine hf_iload dX0_read_156 rfl ?_
    refine hf_if_eq (tgt := 164) dX0_read_158 (by decide) (fun hc => ?_) (fun hc => ?_)
    · replace h := h.1 hc
      refine hf_iinc (v := (x7 + 1)) (l2 := [some (.ref 146), some (.ref 101), none, some (.int x3), some (.ref 114), some (.int x5), some (.int x6), some (.int (x7 + 1)), some (.int x8), some (.int x9), none]) dX0_read_164 (by decide) rfl rfl rfl ?_
      refine hf_goto (tgt := 50) dX0_read_167 (by decide) ?_
      refine hf_drop (l' := [some (.ref 146), some (.ref 101), none, some (.int x3), some (.ref 114), some (.int x5), some (.int x6), some (.int (x7 + 1)), none, none, none]) (by simp [hf_sub]) ?_
      exact h
    · replace h := h.2 hc
      refine hf_iinc (v := (x5 + 1)) (l2 := [some (.ref 146), some (.ref 101), none, some (.int x3), some (.ref 114), some (.int (x5 + 1)), some (.int x6), some (.int x7), some (.int x8), some (.int x9), none]) dX0_read_161 (by decide) rfl rfl rfl ?_
      refine hf_iinc (v := (x7 + 1)) (l2 := [some (.ref 146), some (.ref 101), none, some (.int x3), some (.ref 114), some (.int (x5 + 1)), some (.int x6), some (.int (x7 + 1)), some (.int x8), some (.int x9), none]) dX0_read_164 (by decide) rfl rfl rfl ?_
      refine hf_goto (tgt := 50) dX0_read_167 (by decide) ?_
      refine hf_drop (l' := [some (.ref 146), some (.ref 101), none, some (.int x3), some (.ref 114), some (.int (x5 + 1)), some (.int x6), some (.int (x7 + 1)), none, none, none]) (by simp [hf_sub]) ?_
      exact h
  · replace h := h.2 hc
    refine hf_iload dX0_read_71 rfl ?_
    refine hf_sipush (v := 1103) dX0_read_73 (by decide) ?_
    refine hf_imul dX0_read_76 ?_
    refine hf_sipush (v := 12345) dX0_read_77 (by decide) ?_
    refine hf_iadd dX0_read_80 ?_
    refine hf_ldc (v := 1000003) dX0_read_81 hw998 ?_
    refine hf_irem dX0_read_83 (by decide) ?_
    refine hf_istore (l2 := [some (.ref 146), some (.ref 101), none, some (.int x3), some (.ref 114), some (.int x5), some (.int (((x6 * 1103) + 12345) - ((x6 * 1103) + 12345) / 1000003 * 1000003)), some (.int x7), some (.int x8), some (.int x9), none]) dX0_read_84 (by decide) rfl ?_
    refine hf_iload dX0_read_86 rfl ?_
    refine hf_bipush (v := 10) dX0_read_88 (by decide) ?_
    refine hf_irem dX0_read_90 (by decide) ?_
    refine hf_aload_n dX0_read_91 rfl rfl ?_
    refine hf_getr (b := 105) (c := 1) (j := 3) dX0_read_92 (hs.2.1 101 _ rfl) (hf_lin hs 101 rfl) (by decide) (by decide) hw109 rfl (hs.2.2 101 3 _ rfl) ?_
    refine hf_getr (b := 108) (c := 10) (j := 2) dX0_read_95 (hs.2.1 105 _ rfl) (hf_lin hs 105 rfl) (by decide) (by decide) hw51 rfl (hs.2.2 105 2 _ rfl) ?_
    refine hf_aload dX0_read_98 rfl ?_
    refine hf_getr (b := 115) (c := 3) (j := 0) dX0_read_100 (hs.2.1 114 _ rfl) (hf_lin hs 114 rfl) (by decide) (by decide) hw79 rfl (hs.2.2 114 0 _ rfl) ?_
    refine hf_iload dX0_read_103 rfl ?_
    refine hf_iald dX0_read_105 (hs.2.1 115 _ rfl) (hf_lin hs 115 rfl) h.1 ?_
    replace h := h.2
    refine hf_iald dX0_read_106 (hs.2.1 108 _ rfl) (hf_lin hs 108 rfl) h.1 ?_
    replace h := h.2
    refine hf_icmp_ge (tgt := 114) dX0_read_107 (by decide) (fun hc => ?_) (fun hc => ?_)
    · replace h := h.1 hc
      refine hf_iconst (v := 0) dX0_read_114 (by decide) ?_
      refine hf_istore (l2 := [some (.ref 146), some (.ref 101), none, some (.int x3), some (.ref 114), some (.int x5), some (.int (((x6 * 1103) + 12345) - ((x6 * 1103) + 12345) / 1000003 * 1000003)), some (.int x7), some (.int x8), some (.int x9), some (.int 0)]) dX0_read_115 (by decide) rfl ?_
      refine hf_iload dX0_read_117 rfl ?_
      refine hf_if_eq (tgt := 133) dX0_read_119 (by decide) (fun _ => ?_) (fun hc => absurd (show (0 : Int32) = (0 : Int32) by decide) hc)
      refine hf_iload dX0_read_133 rfl ?_
      refine hf_if_eq (tgt := 147) dX0_read_135 (by decide) (fun hc => ?_) (fun hc => ?_)
      · replace h := h.1 hc
        refine hf_iconst (v := 0) dX0_read_147 (by decide) ?_
        refine hf_istore (l2 := [some (.ref 146), some (.ref 101), none, some (.int x3), some (.ref 114), some (.int x5), some (.int (((x6 * 1103) + 12345) - ((x6 * 1103) + 12345) / 1000003 * 1000003)), some (.int x7), some (.int 0), some (.int x9), some (.int 0)]) dX0_read_148 (by decide) rfl ?_
        refine hf_iinc (v := (x9 + 1)) (l2 := [some (.ref 146), some (.ref 101), none, some (.int x3), some (.ref 114), some (.int x5), some (.int (((x6 * 1103) + 12345) - ((x6 * 1103) + 12345) / 1000003 * 1000003)), some (.int x7), some (.int 0), some (.int (x9 + 1)), some (.int 0)]) dX0_read_150 (by decide) rfl rfl rfl ?_
        refine hf_goto (tgt := 62) dX0_read_153 (by decide) ?_
        refine hf_drop (l' := [some (.ref 146), some (.ref 101), none, some (.int x3), some (.ref 114), some (.int x5), some (.int (((x6 * 1103) + 12345) - ((x6 * 1103) + 12345) / 1000003 * 1000003)), some (.int x7), some (.int 0), some (.int (x9 + 1)), none]) (by simp [hf_sub]) ?_
        exact h
      · replace h := h.2 hc
        refine hf_iload dX0_read_138 rfl ?_
        refine hf_if_eq (tgt := 147) dX0_read_140 (by decide) (fun _ => ?_) (fun hc => absurd (show (0 : Int32) = (0 : Int32) by decide) hc)
        refine hf_iconst (v := 0) dX0_read_147 (by decide) ?_
        refine hf_istore (l2 := [some (.ref 146), some (.ref 101), none, some (.int x3), some (.ref 114), some (.int x5), some (.int (((x6 * 1103) + 12345) - ((x6 * 1103) + 12345) / 1000003 * 1000003)), some (.int x7), some (.int 0), some (.int x9), some (.int 0)]) dX0_read_148 (by decide) rfl ?_
        refine hf_iinc (v := (x9 + 1)) (l2 := [some (.ref 146), some (.ref 101), none, some (.int x3), some (.ref 114), some (.int x5), some (.int (((x6 * 1103) + 12345) - ((x6 * 1103) + 12345) / 1000003 * 1000003)), some (.int x7), some (.int 0), some (.int (x9 + 1)), some (.int 0)]) dX0_read_150 (by decide) rfl rfl rfl ?_
        refine hf_goto (tgt := 62) dX0_read_153 (by decide) ?_
        refine hf_drop (l' := [some (.ref 146), some (.ref 101), none, some (.int x3), some (.ref 114), some (.int x5), some (.int (((x6 * 1103) + 12345) - ((x6 * 1103) + 12345) / 1000003 * 1000003)), some (.int x7), some (.int 0), some (.int (x9 + 1)), none]) (by simp [hf_sub]) ?_
        exact h
    · replace h := h.2 hc
      refine hf_iconst (v := 1) dX0_read_110 (by decide) ?_
      refine hf_goto (tgt := 115) dX0_read_111 (by decide) ?_
      refine hf_istore (l2 := [some (.ref 146), some (.ref 101), none, some (.int x3), some (.ref 114), some (.int x5), some (.int (((x6 * 1103) + 12345) - ((x6 * 1103) + 12345) / 1000003 * 1000003)), some (.int x7), some (.int x8), some (.int x9), some (.int 1)]) dX0_read_115 (by decide) rfl ?_
      refine hf_iload dX0_read_117 rfl ?_
      refine hf_if_eq (tgt := 133) dX0_read_119 (by decide) (fun hc => absurd (show (1 : Int32) = (0 : Int32) from hc) (by decide)) (fun _ => ?_)
      refine hf_aload_n dX0_read_122 rfl rfl ?_
      refine hf_getr (b := 147) (c := 0) (j := 0) dX0_read_123 (hs.2.1 146 _ rfl) (hf_lin hs 146 rfl) (by decide) (by decide) hw346 rfl (hs.2.2 146 0 _ rfl) ?_
      refine hf_iload dX0_read_126 rfl ?_
      refine hf_dup2 dX0_read_128 rfl rfl ?_
      refine hf_iald dX0_read_129 (hs.2.1 147 _ rfl) (hf_lin hs 147 rfl) h.1 ?_
      replace h := h.2
      refine hf_iconst (v := 1) dX0_read_130 (by decide) ?_
      refine hf_iadd dX0_read_131 ?_
      refine hf_iast dX0_read_132 (hs.2.1 147 _ rfl) (hf_lin hs 147 rfl) h.1 ?_
      replace h := h.2
      refine hf_iload dX0_read_133 rfl ?_
      refine hf_if_eq (tgt := 147) dX0_read_135 (by decide) (fun hc => ?_) (fun hc => ?_)
      · replace h := h.1 hc
        refine hf_iconst (v := 0) dX0_read_147 (by decide) ?_
        refine hf_istore (l2 := [some (.ref 146), some (.ref 101), none, some (.int x3), some (.ref 114), some (.int x5), some (.int (((x6 * 1103) + 12345) - ((x6 * 1103) + 12345) / 1000003 * 1000003)), some (.int x7), some (.int 0), some (.int x9), some (.int 1)]) dX0_read_148 (by decide) rfl ?_
        refine hf_iinc (v := (x9 + 1)) (l2 := [some (.ref 146), some (.ref 101), none, some (.int x3), some (.ref 114), some (.int x5), some (.int (((x6 * 1103) + 12345) - ((x6 * 1103) + 12345) / 1000003 * 1000003)), some (.int x7), some (.int 0), some (.int (x9 + 1)), some (.int 1)]) dX0_read_150 (by decide) rfl rfl rfl ?_
        refine hf_goto (tgt := 62) dX0_read_153 (by decide) ?_
        refine hf_drop (l' := [some (.ref 146), some (.ref 101), none, some (.int x3), some (.ref 114), some (.int x5), some (.int (((x6 * 1103) + 12345) - ((x6 * 1103) + 12345) / 1000003 * 1000003)), some (.int x7), some (.int 0), some (.int (x9 + 1)), none]) (by simp [hf_sub]) ?_
        exact h
      · replace h := h.2 hc
        refine hf_iload dX0_read_138 rfl ?_
        refine hf_if_eq (tgt := 147) dX0_read_140 (by decide) (fun hc => absurd (show (1 : Int32) = (0 : Int32) from hc) (by decide)) (fun _ => ?_)
        refine hf_iconst (v := 1) dX0_read_143 (by decide) ?_
        refine hf_goto (tgt := 148) dX0_read_144 (by decide) ?_
        refine hf_istore (l2 := [some (.ref 146), some (.ref 101), none, some (.int x3), some (.ref 114), some (.int x5), some (.int (((x6 * 1103) + 12345) - ((x6 * 1103) + 12345) / 1000003 * 1000003)), some (.int x7), some (.int 1), some (.int x9), some (.int 1)]) dX0_read_148 (by decide) rfl ?_
        refine hf_iinc (v := (x9 + 1)) (l2 := [some (.ref 146), some (.ref 101), none, some (.int x3), some (.ref 114), some (.int x5), some (.int (((x6 * 1103) + 12345) - ((x6 * 1103) + 12345) / 1000003 * 1000003)), some (.int x7), some (.int 1), some (.int (x9 + 1)), some (.int 1)]) dX0_read_150 (by decide) rfl rfl rfl ?_
        refine hf_goto (tgt := 62) dX0_read_153 (by decide) ?_
        refine hf_drop (l' := [some (.ref 146), some (.ref 101), none, some (.int x3), some (.ref 114), some (.int x5), some (.int (((x6 * 1103) + 12345) - ((x6 * 1103) + 12345) / 1000003 * 1000003)), some (.int x7), some (.int 1), some (.int (x9 + 1)), none]) (by simp [hf_sub]) ?_
        exact h
