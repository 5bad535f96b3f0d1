set_option maxHeartbeats 4000000 in
theorem w_X12_wordAt_0 {X : hf_X} {d k n t : Nat} {T : hf_T} {I : hf_I} {L : hf_L} {P : hf_P} {Q : Option Value → hf_M → Prop} {x1 : Int32} {x2 : Int32} (hs : hf_Lay t T P) (h : hf_G X Y_X12_wordAt d k n 5 [some (.ref 156), some (.int x1), some (.int x2), some (.int 1), some (.int 0), none, none, none] [] (t, T, I, L, P) Q) : hf_G X Y_X12_wordAt d k n 0 (hf_en [.ref 156, .int x1, .int x2] 8) [] (t, T, I, L, P) Q := by
  show hf_G X Y_X12_wordAt d k n 0 [some (.ref 156), some (.int x1), some (.int x2), none, none, none, none, none] [] (t, T, I, L, P) Q
  refine hf_iconst (v := 1) dX12_wordAt_0 (by decide) ?_
  refine hf_istore_n (l2 := [some (.ref 156), some (.int x1), some (.int x2), some (.int 1), none, none, none, none]) dX12_wordAt_1 rfl (by decide) rfl ?_
  refine hf_iconst (v := 0) dX12_wordAt_2 (by decide) ?_
  refine hf_istore (l2 := [some (.ref 156), some (.int x1), some (.int x2), some (.int 1), some (.int 0), none, none, none]) dX12_wordAt_3 (by decide) rfl ?_
  exact h

set_option maxHeartbeats 4000000 in
theorem w_X12_wordAt_5 {X : hf_X} {d k n t : Nat} {T : hf_T} {I : hf_I} {L : hf_L} {P : hf_P} {Q : Option Value → hf_M → Prop} {x1 : Int32} {x2 : Int32} {x3 : Int32} {x4 : Int32} (hs : hf_Lay t T P) (h : (144 ≤ x4 → Q (some (.int 0)) (t, T, I, L, P)) ∧ (¬ (144 ≤ x4) → hf_G X Y_X12_wordAt d k n 18 [some (.ref 156), some (.int x1), some (.int x2), some (.int x3), some (.int x4), some (.int 0), none, none] [] (t, T, I, L, P) Q)) : hf_G X Y_X12_wordAt d k n 5 [some (.ref 156), some (.int x1), some (.int x2), some (.int x3), some (.int x4), none, none, none] [] (t, T, I, L, P) Q := by
  refine hf_iload dX12_wordAt_5 rfl ?_
  refine hf_aload_n dX12_wordAt_7 rfl rfl ?_
  refine hf_getr (b := 162) (c := 12) (j := 6) dX12_wordAt_8 (hs.2.1 156 _ rfl) (hf_lin hs 156 rfl) (by decide) (by decide) hw1042 rfl (hs.2.2 156 6 _ rfl) ?_
  refine hf_alen dX12_wordAt_11 (hs.2.1 162 _ rfl) (by decide) (hf_lin hs 162 rfl) ?_
  refine hf_icmp_ge (tgt := 126) dX12_wordAt_12 (by decide) (fun hc => ?_) (fun hc => ?_)
  · replace h := h.1 hc
    refine hf_iconst (v := 0) dX12_wordAt_126 (by decide) ?_
    refine hf_ireturn dX12_wordAt_127 rfl rfl ?_
    exact h
  · replace h := h.2 hc
    refine hf_iconst (v := 0) dX12_wordAt_15 (by decide) ?_
    refine hf_istore (l2 := [some (.ref 156), some (.int x1), some (.int x2), some (.int x3), some (.int x4), some (.int 0), none, none]) dX12_wordAt_16 (by decide) rfl ?_
    exact h

set_option maxHeartbeats 4000000 in
theorem w_X12_wordAt_18 {X : hf_X} {d k n t : Nat} {T : hf_T} {I : hf_I} {L : hf_L} {P : hf_P} {Q : Option Value → hf_M → Prop} {x1 : Int32} {x2 : Int32} {x3 : Int32} {x4 : Int32} {x5 : Int32} (hs : hf_Lay t T P) (h : vp_in (x4 + x5) 144 ∧ (((I 162 (((x4 + x5)).toNatClampNeg)) = 32 → (¬ x5 = (x2 - x1) → hf_G X Y_X12_wordAt d k n 57 [some (.ref 156), some (.int x1), some (.int x2), some (.int x3), some (.int x4), some (.int x5), some (.int 0), some (.int 0)] [] (t, T, I, L, P) Q) ∧ (x5 = (x2 - x1) → hf_G X Y_X12_wordAt d k n 57 [some (.ref 156), some (.int x1), some (.int x2), some (.int x3), some (.int x4), some (.int x5), some (.int 1), some (.int 0)] [] (t, T, I, L, P) Q)) ∧ (¬ ((I 162 (((x4 + x5)).toNatClampNeg)) = 32) → hf_G X Y_X12_wordAt d k n 18 [some (.ref 156), some (.int x1), some (.int x2), some (.int x3), some (.int x4), some (.int (x5 + 1)), none, none] [] (t, T, I, L, P) Q))) : hf_G X Y_X12_wordAt d k n 18 [some (.ref 156), some (.int x1), some (.int x2), some (.int x3), some (.int x4), some (.int x5), none, none] [] (t, T, I, L, P) Q := by
  refine hf_aload_n dX12_wordAt_18 rfl rfl ?_
  refine hf_getr (b := 162) (c := 12) (j := 6) dX12_wordAt_19 (hs.2.1 156 _ rfl) (hf_lin hs 156 rfl) (by decide) (by decide) hw1042 rfl (hs.2.2 156 6 _ rfl) ?_
  refine hf_iload dX12_wordAt_22 rfl ?_
  refine hf_iload dX12_wordAt_24 rfl ?_
  refine hf_iadd dX12_wordAt_26 ?_
  refine hf_bald dX12_wordAt_27 (hs.2.1 162 _ rfl) (hf_lin hs 162 rfl) h.1 ?_
  replace h := h.2
  refine hf_bipush (v := 32) dX12_wordAt_28 (by decide) ?_
  refine hf_icmp_eq (tgt := 39) dX12_wordAt_30 (by decide) (fun hc => ?_) (fun hc => ?_)
  · replace h := h.1 hc
    refine hf_iload dX12_wordAt_39 rfl ?_
    refine hf_iload_n dX12_wordAt_41 rfl rfl ?_
    refine hf_iload_n dX12_wordAt_42 rfl rfl ?_
    refine hf_isub dX12_wordAt_43 ?_
    refine hf_icmp_ne (tgt := 51) dX12_wordAt_44 (by decide) (fun hc => ?_) (fun hc => ?_)
    · replace h := h.1 hc
      refine hf_iconst (v := 0) dX12_wordAt_51 (by decide) ?_
      refine hf_istore (l2 := [some (.ref 156), some (.int x1), some (.int x2), some (.int x3), some (.int x4), some (.int x5), some (.int 0), none]) dX12_wordAt_52 (by decide) rfl ?_
      refine hf_iconst (v := 0) dX12_wordAt_54 (by decide) ?_
      refine hf_istore (l2 := [some (.ref 156), some (.int x1), some (.int x2), some (.int x3), some (.int x4), some (.int x5), some (.int 0), some (.int 0)]) dX12_wordAt_55 (by decide) rfl ?_
      exact h
    · replace h := h.2 hc
      refine hf_iconst (v := 1) dX12_wordAt_47 (by decide) ?_
      refine hf_goto (tgt := 52) dX12_wordAt_48 (by decide) ?_
      refine hf_istore (l2 := [some (.ref 156), some (.int x1), some (.int x2), some (.int x3), some (.int x4), some (.int x5), some (.int 1), none]) dX12_wordAt_52 (by decide) rfl ?_
      refine hf_iconst (v := 0) dX12_wordAt_54 (by decide) ?_
      refine hf_istore (l2 := [some (.ref 156), some (.int x1), some (.int x2), some (.int x3), some (.int x4), some (.int x5), some (.int 1), some (.int 0)]) dX12_wordAt_55 (by decide) rfl ?_
      exact h
  · replace h := h.2 hc
    refine hf_iinc (v := (x5 + 1)) (l2 := [some (.ref 156), some (.int x1), some (.int x2), some (.int x3), some (.int x4), some (.int (x5 + 1)), none, none]) dX12_wordAt_33 (by decide) rfl rfl rfl ?_
    refine hf_goto (tgt := 18) dX12_wordAt_36 (by decide) ?_
    exact h

set_option maxHeartbeats 4000000 in
theorem w_X12_wordAt_57 {X : hf_X} {d k n t : Nat} {T : hf_T} {I : hf_I} {L : hf_L} {P : hf_P} {Q : Option Value → hf_M → Prop} {x1 : Int32} {x2 : Int32} {x3 : Int32} {x4 : Int32} {x5 : Int32} {x6 : Int32} {x7 : Int32} (hs : hf_Lay t T P) (h : (x5 ≤ x7 → (x6 = 0 → hf_G X Y_X12_wordAt d k n 5 [some (.ref 156), some (.int x1), some (.int x2), some (.int (x3 + 1)), some (.int (x4 + (x5 + 1))), none, none, none] [] (t, T, I, L, P) Q) ∧ (¬ (x6 = 0) → Q (some (.int x3)) (t, T, I, L, P))) ∧ (¬ (x5 ≤ x7) → (x6 = 0 → (x6 = 0 → hf_G X Y_X12_wordAt d k n 5 [some (.ref 156), some (.int x1), some (.int x2), some (.int (x3 + 1)), some (.int (x4 + (x5 + 1))), none, none, none] [] (t, T, I, L, P) Q) ∧ (¬ (x6 = 0) → Q (some (.int x3)) (t, T, I, L, P))) ∧ (¬ (x6 = 0) → vp_in (x4 + x7) 144 ∧ (vp_in (x1 + x7) 400 ∧ ((¬ (I 162 (((x4 + x7)).toNatClampNeg)) = (I 163 (((x1 + x7)).toNatClampNeg)) → hf_G X Y_X12_wordAt d k n 57 [some (.ref 156), some (.int x1), some (.int x2), some (.int x3), some (.int x4), some (.int x5), some (.int 0), some (.int (x7 + 1))] [] (t, T, I, L, P) Q) ∧ ((I 162 (((x4 + x7)).toNatClampNeg)) = (I 163 (((x1 + x7)).toNatClampNeg)) → hf_G X Y_X12_wordAt d k n 57 [some (.ref 156), some (.int x1), some (.int x2), some (.int x3), some (.int x4), some (.int x5), some (.int 1), some (.int (x7 + 1))] [] (t, T, I, L, P) Q)))))) : hf_G X Y_X12_wordAt d k n 57 [some (.ref 156), some (.int x1), some (.int x2), some (.int x3), some (.int x4), some (.int x5), some (.int x6), some (.int x7)] [] (t, T, I, L, P) Q := by
  refine hf_iload dX12_wordAt_57 rfl ?_
  refine hf_iload dX12_wordAt_59 rfl ?_
  refine hf_icmp_ge (tgt := 104) dX12_wordAt_61 (by decide) (fun hc => ?_) (fun hc => ?_)
  · replace h := h.1 hc
    refine hf_iload dX12_wordAt_104 rfl ?_
    refine hf_if_eq (tgt := 111) dX12_wordAt_106 (by decide) (fun hc => ?_) (fun hc => ?_)
    · replace h := h.1 hc
      refine hf_iload dX12_wordAt_111 rfl ?_
      refine hf_iload dX12_wordAt_113 rfl ?_
      refine hf_iconst (v := 1) dX12_wordAt_115 (by decide) ?_
      refine hf_iadd dX12_wordAt_116 ?_
      refine hf_iadd dX12_wordAt_117 ?_
      refine hf_istore (l2 := [some (.ref 156), some (.int x1), some (.int x2), some (.int x3), some (.int (x4 + (x5 + 1))), some (.int x5), some (.int x6), some (.int x7)]) dX12_wordAt_118 (by decide) rfl ?_
      refine hf_iinc (v := (x3 + 1)) (l2 := [some (.ref 156), some (.int x1), some (.int x2), some (.int (x3 + 1)), some (.int (x4 + (x5 + 1))), some (.int x5), some (.int x6), some (.int x7)]) dX12_wordAt_120 (by decide) rfl rfl rfl ?_
      refine hf_goto (tgt := 5) dX12_wordAt_123 (by decide) ?_
      refine hf_drop (l' := [some (.ref 156), some (.int x1), some (.int x2), some (.int (x3 + 1)), some (.int (x4 + (x5 + 1))), none, none, none]) (by simp [hf_sub]) ?_
      exact h
    · replace h := h.2 hc
      refine hf_iload_n dX12_wordAt_109 rfl rfl ?_
      refine hf_ireturn dX12_wordAt_110 rfl rfl ?_
      exact h
  · replace h := h.2 hc
    refine hf_iload dX12_wordAt_64 rfl ?_
    refine hf_if_eq (tgt := 104) dX12_wordAt_66 (by decide) (fun hc => ?_) (fun hc => ?_)
    · replace h := h.1 hc
      refine hf_iload dX12_wordAt_104 rfl ?_
      refine hf_if_eq (tgt := 111) dX12_wordAt_106 (by decide) (fun hc => ?_) (fun hc => ?_)
      · replace h := h.1 hc
        refine hf_iload dX12_wordAt_111 rfl ?_
        refine hf_iload dX12_wordAt_113 rfl ?_
        refine hf_iconst (v := 1) dX12_wordAt_115 (by decide) ?_
        refine hf_iadd dX12_wordAt_116 ?_
        refine hf_iadd dX12_wordAt_117 ?_
        refine hf_istore (l2 := [some (.ref 156), some (.int x1), some (.int x2), some (.int x3), some (.int (x4 + (x5 + 1))), some (.int x5), some (.int x6), some (.int x7)]) dX12_wordAt_118 (by decide) rfl ?_
        refine hf_iinc (v := (x3 + 1)) (l2 := [some (.ref 156), some (.int x1), some (.int x2), some (.int (x3 + 1)), some (.int (x4 + (x5 + 1))), some (.int x5), some (.int x6), some (.int x7)]) dX12_wordAt_120 (by decide) rfl rfl rfl ?_
        refine hf_goto (tgt := 5) dX12_wordAt_123 (by decide) ?_
        refine hf_drop (l' := [some (.ref 156), some (.int x1), some (.int x2), some (.int (x3 + 1)), some (.int (x4 + (x5 + 1))), none, none, none]) (by simp [hf_sub]) ?_
        exact h
      · replace h := h.2 hc
        refine hf_iload_n dX12_wordAt_109 rfl rfl ?_
        refine hf_ireturn dX12_wordAt_110 rfl rfl ?_
        exact h
    · replace h := h.2 hc
      refine hf_aload_n dX12_wordAt_69 rfl rfl ?_
      refine hf_getr (b := 162) (c := 12) (j := 6) dX12_wordAt_70 (hs.2.1 156 _ rfl) (hf_lin hs 156 rfl) (by decide) (by decide) hw1042 rfl (hs.2.2 156 6 _ rfl) ?_
      refine hf_iload dX12_wordAt_73 rfl ?_
      refine hf_iload dX12_wordAt_75 rfl ?_
      refine hf_iadd dX12_wordAt_77 ?_
      refine hf_bald dX12_wordAt_78 (hs.2.1 162 _ rfl) (hf_lin hs 162 rfl) h.1 ?_
      replace h := h.2
      refine hf_aload_n dX12_wordAt_79 rfl rfl ?_
      refine hf_getr (b := 163) (c := 12) (j := 8) dX12_wordAt_80 (hs.2.1 156 _ rfl) (hf_lin hs 156 rfl) (by decide) (by decide) hw1044 rfl (hs.2.2 156 8 _ rfl) ?_
      refine hf_iload_n dX12_wordAt_83 rfl rfl ?_
      refine hf_iload dX12_wordAt_84 rfl ?_
      refine hf_iadd dX12_wordAt_86 ?_
      refine hf_bald dX12_wordAt_87 (hs.2.1 163 _ rfl) (hf_lin hs 163 rfl) h.1 ?_
      replace h := h.2
      refine hf_icmp_ne (tgt := 95) dX12_wordAt_88 (by decide) (fun hc => ?_) (fun hc => ?_)
      · replace h := h.1 hc
        refine hf_iconst (v := 0) dX12_wordAt_95 (by decide) ?_
        refine hf_istore (l2 := [some (.ref 156), some (.int x1), some (.int x2), some (.int x3), some (.int x4), some (.int x5), some (.int 0), some (.int x7)]) dX12_wordAt_96 (by decide) rfl ?_
        refine hf_iinc (v := (x7 + 1)) (l2 := [some (.ref 156), some (.int x1), some (.int x2), some (.int x3), some (.int x4), some (.int x5), some (.int 0), some (.int (x7 + 1))]) dX12_wordAt_98 (by decide) rfl rfl rfl ?_
        refine hf_goto (tgt := 57) dX12_wordAt_101 (by decide) ?_
        exact h
      · replace h := h.2 hc
        refine hf_iconst (v := 1) dX12_wordAt_91 (by decide) ?_
        refine hf_goto (tgt := 96) dX12_wordAt_92 (by decide) ?_
        refine hf_istore (l2 := [some (.ref 156), some (.int x1), some (.int x2), some (.int x3), some (.int x4), some (.int x5), some (.int 1), some (.int x7)]) dX12_wordAt_96 (by decide) rfl ?_
        refine hf_iinc (v := (x7 + 1)) (l2 := [some (.ref 156), some (.int x1), some (.int x2), some (.int x3), some (.int x4), some (.int x5), some (.int 1), some (.int (x7 + 1))]) dX12_wordAt_98 (by decide) rfl rfl rfl ?_
        refine hf_goto (tgt := 57) dX12_wordAt_101 (by decide) ?_
        exact h
