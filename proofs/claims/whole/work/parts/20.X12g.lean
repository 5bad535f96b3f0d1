set_option maxHeartbeats 4000000 in
theorem w_X12_says_0 {X : hf_X} {d k n t : Nat} {T : hf_T} {I : hf_I} {L : hf_L} {P : hf_P} {Q : Option Value → hf_M → Prop} {x1 : Int32} {x2 : Int32} (hs : hf_Lay t T P) (h : (x1 < 1 → Q (some (.int (-1))) (t, T, I, L, P)) ∧ (¬ (x1 < 1) → (400 < x1 → Q (some (.int (-1))) (t, T, I, L, P)) ∧ (¬ (400 < x1) → (x2 < 0 → Q (some (.int (-1))) (t, T, I, L, P)) ∧ (¬ (x2 < 0) → (2 < x2 → Q (some (.int (-1))) (t, T, I, L, P)) ∧ (¬ (2 < x2) → hf_G X Y_X12_says (d + 1) k n 24 [some (.ref 156), some (.int x1), some (.int x2), some (.int 0), none, none, none, none, none, none, none] [] (t, T, I, L, P) Q))))) : hf_G X Y_X12_says (d + 1) k n 0 (hf_en [.ref 156, .int x1, .int x2] 11) [] (t, T, I, L, P) Q := by
  show hf_G X Y_X12_says (d + 1) k n 0 [some (.ref 156), some (.int x1), some (.int x2), none, none, none, none, none, none, none, none] [] (t, T, I, L, P) Q
  refine hf_iload_n dX12_says_0 rfl rfl ?_
  refine hf_iconst (v := 1) dX12_says_1 (by decide) ?_
  refine hf_sipush (v := 400) dX12_says_2 (by decide) ?_
  refine hf_callS (as := [.int x1, .int 1, .int 400]) ok_X12_lies dX12_says_5 hw1143 hw1144 rfl (Nat.le_of_ble_eq_true rfl) rfl (Nat.le_of_ble_eq_true rfl) (Nat.zero_le _) (Nat.zero_le _) ?_
  show hf_G X Y_X12_lies d _ _ 0 [some (.int x1), some (.int 1), some (.int 400)] [] (t, T, I, L, P) _
  refine hf_iload_n dX12_lies_0 rfl rfl ?_
  refine hf_iload_n dX12_lies_1 rfl rfl ?_
  refine hf_icmp_lt (tgt := 14) dX12_lies_2 (by decide) (fun hc => ?_) (fun hc => ?_)
  · replace h := h.1 hc
    refine hf_iconst (v := 0) dX12_lies_14 (by decide) ?_
    refine hf_ireturn dX12_lies_15 rfl (by decide) ?_
    show hf_G X Y_X12_says (d + 1) _ _ 8 [some (.ref 156), some (.int x1), some (.int x2), none, none, none, none, none, none, none, none] [.int 0] (t, T, I, L, P) _
    refine hf_if_eq (tgt := 20) dX12_says_8 (by decide) (fun _ => ?_) (fun hc => absurd (show (0 : Int32) = (0 : Int32) by decide) hc)
    refine hf_iconst (v := (-1)) dX12_says_20 (by decide) ?_
    refine hf_ireturn dX12_says_21 rfl rfl ?_
    exact h
  · replace h := h.2 hc
    refine hf_iload_n dX12_lies_5 rfl rfl ?_
    refine hf_iload_n dX12_lies_6 rfl rfl ?_
    refine hf_icmp_gt (tgt := 14) dX12_lies_7 (by decide) (fun hc => ?_) (fun hc => ?_)
    · replace h := h.1 hc
      refine hf_iconst (v := 0) dX12_lies_14 (by decide) ?_
      refine hf_ireturn dX12_lies_15 rfl (by decide) ?_
      show hf_G X Y_X12_says (d + 1) _ _ 8 [some (.ref 156), some (.int x1), some (.int x2), none, none, none, none, none, none, none, none] [.int 0] (t, T, I, L, P) _
      refine hf_if_eq (tgt := 20) dX12_says_8 (by decide) (fun _ => ?_) (fun hc => absurd (show (0 : Int32) = (0 : Int32) by decide) hc)
      refine hf_iconst (v := (-1)) dX12_says_20 (by decide) ?_
      refine hf_ireturn dX12_says_21 rfl rfl ?_
      exact h
    · replace h := h.2 hc
      refine hf_iconst (v := 1) dX12_lies_10 (by decide) ?_
      refine hf_goto (tgt := 15) dX12_lies_11 (by decide) ?_
      refine hf_ireturn dX12_lies_15 rfl (by decide) ?_
      show hf_G X Y_X12_says (d + 1) _ _ 8 [some (.ref 156), some (.int x1), some (.int x2), none, none, none, none, none, none, none, none] [.int 1] (t, T, I, L, P) _
      refine hf_if_eq (tgt := 20) dX12_says_8 (by decide) (fun hc => absurd (show (1 : Int32) = (0 : Int32) from hc) (by decide)) (fun _ => ?_)
      refine hf_iload_n dX12_says_11 rfl rfl ?_
      refine hf_iconst (v := 0) dX12_says_12 (by decide) ?_
      refine hf_iconst (v := 2) dX12_says_13 (by decide) ?_
      refine hf_callS (as := [.int x2, .int 0, .int 2]) ok_X12_lies dX12_says_14 hw1143 hw1144 rfl (Nat.le_of_ble_eq_true rfl) rfl (Nat.le_of_ble_eq_true rfl) (Nat.zero_le _) (Nat.zero_le _) ?_
      show hf_G X Y_X12_lies d _ _ 0 [some (.int x2), some (.int 0), some (.int 2)] [] (t, T, I, L, P) _
      refine hf_iload_n dX12_lies_0 rfl rfl ?_
      refine hf_iload_n dX12_lies_1 rfl rfl ?_
      refine hf_icmp_lt (tgt := 14) dX12_lies_2 (by decide) (fun hc => ?_) (fun hc => ?_)
      · replace h := h.1 hc
        refine hf_iconst (v := 0) dX12_lies_14 (by decide) ?_
        refine hf_ireturn dX12_lies_15 rfl (by decide) ?_
        show hf_G X Y_X12_says (d + 1) _ _ 17 [some (.ref 156), some (.int x1), some (.int x2), none, none, none, none, none, none, none, none] [.int 0] (t, T, I, L, P) _
        refine hf_if_ne (tgt := 22) dX12_says_17 (by decide) (fun hc => absurd (show ¬ (0 : Int32) = (0 : Int32) from hc) (by decide)) (fun _ => ?_)
        refine hf_iconst (v := (-1)) dX12_says_20 (by decide) ?_
        refine hf_ireturn dX12_says_21 rfl rfl ?_
        exact h
      · replace h := h.2 hc
        refine hf_iload_n dX12_lies_5 rfl rfl ?_
        refine hf_iload_n dX12_lies_6 rfl rfl ?_
        refine hf_icmp_gt (tgt := 14) dX12_lies_7 (by decide) (fun hc => ?_) (fun hc => ?_)
        · replace h := h.1 hc
          refine hf_iconst (v := 0) dX12_lies_14 (by decide) ?_
          refine hf_ireturn dX12_lies_15 rfl (by decide) ?_
          show hf_G X Y_X12_says (d + 1) _ _ 17 [some (.ref 156), some (.int x1), some (.int x2), none, none, none, none, none, none, none, none] [.int 0] (t, T, I, L, P) _
          refine hf_if_ne (tgt := 22) dX12_says_17 (by decide) (fun hc => absurd (show ¬ (0 : Int32) = (0 : Int32) from hc) (by decide)) (fun _ => ?_)
          refine hf_iconst (v := (-1)) dX12_says_20 (by decide) ?_
          refine hf_ireturn dX12_says_21 rfl rfl ?_
          exact h
        · replace h := h.2 hc
          refine hf_iconst (v := 1) dX12_lies_10 (by decide) ?_
          refine hf_goto (tgt := 15) dX12_lies_11 (by decide) ?_
          refine hf_ireturn dX12_lies_15 rfl (by decide) ?_
          show hf_G X Y_X12_says (d + 1) _ _ 17 [some (.ref 156), some (.int x1), some (.int x2), none, none, none, none, none, none, none, none] [.int 1] (t, T, I, L, P) _
          refine hf_if_ne (tgt := 22) dX12_says_17 (by decide) (fun _ => ?_) (fun hc => absurd (show (1 : Int32) = (0 : Int32) from hc) (by decide))
          refine hf_iconst (v := 0) dX12_says_22 (by decide) ?_
          refine hf_istore_n (l2 := [some (.ref 156), some (.int x1), some (.int x2), some (.int 0), none, none, none, none, none, none, none]) dX12_says_23 rfl (by decide) rfl ?_
          exact h

set_option maxHeartbeats 4000000 in
theorem w_X12_says_24 {X : hf_X} {d k n t : Nat} {T : hf_T} {I : hf_I} {L : hf_L} {P : hf_P} {Q : Option Value → hf_M → Prop} {x1 : Int32} {x2 : Int32} {x3 : Int32} (hs : hf_Lay t T P) (h : ((I 158 317) ≤ x3 → hf_G X Y_X12_says (d + 1) k n 69 [some (.ref 156), some (.int x1), some (.int x2), some (.int 0), some (.int 0), some (.int 0), some (.int 1), none, none, none, none] [] (t, T, I, L, P) Q) ∧ (¬ ((I 158 317) ≤ x3) → vp_in (269 + x3) 5929 ∧ (hf_G X Y_X12_narrowestOf d 0 0 0 (hf_en [.ref 156, .int (I 158 (((269 + x3)).toNatClampNeg))] 4) [] (t, T, I, L, P) (fun r M => hf_G X Y_X12_says (d + 1) k n 51 [some (.ref 156), some (.int x1), some (.int x2), some (.int x3), none, none, none, none, none, none, none] (r.toList ++ [.int x3, .ref 173]) M Q)))) : hf_G X Y_X12_says (d + 1) k n 24 [some (.ref 156), some (.int x1), some (.int x2), some (.int x3), none, none, none, none, none, none, none] [] (t, T, I, L, P) Q := by
  refine hf_iload_n dX12_says_24 rfl rfl ?_
  refine hf_aload_n dX12_says_25 rfl rfl ?_
  refine hf_callV (c := 12) (as := []) ok_X12_said dX12_says_26 hw1423 hw1424 hw1656 (hs.2.1 156 _ rfl) (by decide) (hf_lin hs 156 rfl) rfl (Nat.le_of_ble_eq_true rfl) rfl (Nat.le_of_ble_eq_true rfl) (Nat.zero_le _) (Nat.zero_le _) ?_
  show hf_G X Y_X12_said d _ _ 0 [some (.ref 156)] [] (t, T, I, L, P) _
  refine hf_aload_n dX12_said_0 rfl rfl ?_
  refine hf_getr (b := 158) (c := 12) (j := 2) dX12_said_1 (hs.2.1 156 _ rfl) (hf_lin hs 156 rfl) (by decide) (by decide) hw1038 rfl (hs.2.2 156 2 _ rfl) ?_
  refine hf_sipush (v := 317) dX12_said_4 (by decide) ?_
  refine hf_iald_k (j := 317) (by decide) dX12_said_7 (hs.2.1 158 _ rfl) (hf_lin hs 158 rfl) (hf_vin (by decide)) ?_
  refine hf_ireturn dX12_said_8 rfl rfl ?_
  show hf_G X Y_X12_says (d + 1) _ _ 29 [some (.ref 156), some (.int x1), some (.int x2), some (.int x3), none, none, none, none, none, none, none] [.int (I 158 317), .int x3] (t, T, I, L, P) _
  refine hf_icmp_ge (tgt := 58) dX12_says_29 (by decide) (fun hc => ?_) (fun hc => ?_)
  · replace h := h.1 hc
    refine hf_iconst (v := 0) dX12_says_58 (by decide) ?_
    refine hf_istore_n (l2 := [some (.ref 156), some (.int x1), some (.int x2), some (.int 0), none, none, none, none, none, none, none]) dX12_says_59 rfl (by decide) rfl ?_
    refine hf_iconst (v := 0) dX12_says_60 (by decide) ?_
    refine hf_istore (l2 := [some (.ref 156), some (.int x1), some (.int x2), some (.int 0), some (.int 0), none, none, none, none, none, none]) dX12_says_61 (by decide) rfl ?_
    refine hf_iconst (v := 0) dX12_says_63 (by decide) ?_
    refine hf_istore (l2 := [some (.ref 156), some (.int x1), some (.int x2), some (.int 0), some (.int 0), some (.int 0), none, none, none, none, none]) dX12_says_64 (by decide) rfl ?_
    refine hf_iconst (v := 1) dX12_says_66 (by decide) ?_
    refine hf_istore (l2 := [some (.ref 156), some (.int x1), some (.int x2), some (.int 0), some (.int 0), some (.int 0), some (.int 1), none, none, none, none]) dX12_says_67 (by decide) rfl ?_
    exact h
  · replace h := h.2 hc
    refine hf_aload_n dX12_says_32 rfl rfl ?_
    refine hf_getr (b := 173) (c := 12) (j := 30) dX12_says_33 (hs.2.1 156 _ rfl) (hf_lin hs 156 rfl) (by decide) (by decide) hw1066 rfl (hs.2.2 156 30 _ rfl) ?_
    refine hf_iload_n dX12_says_36 rfl rfl ?_
    refine hf_aload_n dX12_says_37 rfl rfl ?_
    refine hf_aload_n dX12_says_38 rfl rfl ?_
    refine hf_getr (b := 158) (c := 12) (j := 2) dX12_says_39 (hs.2.1 156 _ rfl) (hf_lin hs 156 rfl) (by decide) (by decide) hw1038 rfl (hs.2.2 156 2 _ rfl) ?_
    refine hf_sipush (v := 269) dX12_says_42 (by decide) ?_
    refine hf_iload_n dX12_says_45 rfl rfl ?_
    refine hf_iadd dX12_says_46 ?_
    refine hf_iald dX12_says_47 (hs.2.1 158 _ rfl) (hf_lin hs 158 rfl) h.1 ?_
    replace h := h.2
    exact hf_callV (c := 12) (as := [.int (I 158 (((269 + x3)).toNatClampNeg))]) ok_X12_narrowestOf dX12_says_48 hw1469 hw1470 hw1663 (hs.2.1 156 _ rfl) (by decide) (hf_lin hs 156 rfl) rfl (Nat.le_of_ble_eq_true rfl) rfl (Nat.le_of_ble_eq_true rfl) (Nat.zero_le _) (Nat.zero_le _) h

set_option maxHeartbeats 4000000 in
theorem w_X12_says_69 {X : hf_X} {d k n t : Nat} {T : hf_T} {I : hf_I} {L : hf_L} {P : hf_P} {Q : Option Value → hf_M → Prop} {x1 : Int32} {x2 : Int32} {x3 : Int32} {x4 : Int32} {x5 : Int32} {x6 : Int32} (hs : hf_Lay t T P) (h : ((1 <<< ((I 158 317) &&& 31)) ≤ x6 → (¬ x2 = 0 → (¬ x2 = 1 → Q (some (.int x5)) (t, T, I, L, P)) ∧ (x2 = 1 → Q (some (.int x3)) (t, T, I, L, P))) ∧ (x2 = 0 → Q (some (.int x4)) (t, T, I, L, P))) ∧ (¬ ((1 <<< ((I 158 317) &&& 31)) ≤ x6) → hf_G X Y_X12_says (d + 1) k n 106 [some (.ref 156), some (.int x1), some (.int x2), some (.int x3), some (.int x4), some (.int x5), some (.int x6), some (.int (-(((I 158 52) * ((I 158 315) + 2)) / 2))), some (.int 0), some (.int 1), some (.int 0)] [] (t, T, I, L, P) Q)) : hf_G X Y_X12_says (d + 1) k n 69 [some (.ref 156), some (.int x1), some (.int x2), some (.int x3), some (.int x4), some (.int x5), some (.int x6), none, none, none, none] [] (t, T, I, L, P) Q := by
  refine hf_iload dX12_says_69 rfl ?_
  refine hf_iconst (v := 1) dX12_says_71 (by decide) ?_
  refine hf_aload_n dX12_says_72 rfl rfl ?_
  refine hf_callV (c := 12) (as := []) ok_X12_said dX12_says_73 hw1423 hw1424 hw1656 (hs.2.1 156 _ rfl) (by decide) (hf_lin hs 156 rfl) rfl (Nat.le_of_ble_eq_true rfl) rfl (Nat.le_of_ble_eq_true rfl) (Nat.zero_le _) (Nat.zero_le _) ?_
  show hf_G X Y_X12_said d _ _ 0 [some (.ref 156)] [] (t, T, I, L, P) _
  refine hf_aload_n dX12_said_0 rfl rfl ?_
  refine hf_getr (b := 158) (c := 12) (j := 2) dX12_said_1 (hs.2.1 156 _ rfl) (hf_lin hs 156 rfl) (by decide) (by decide) hw1038 rfl (hs.2.2 156 2 _ rfl) ?_
  refine hf_sipush (v := 317) dX12_said_4 (by decide) ?_
  refine hf_iald_k (j := 317) (by decide) dX12_said_7 (hs.2.1 158 _ rfl) (hf_lin hs 158 rfl) (hf_vin (by decide)) ?_
  refine hf_ireturn dX12_said_8 rfl rfl ?_
  show hf_G X Y_X12_says (d + 1) _ _ 76 [some (.ref 156), some (.int x1), some (.int x2), some (.int x3), some (.int x4), some (.int x5), some (.int x6), none, none, none, none] [.int (I 158 317), .int 1, .int x6] (t, T, I, L, P) _
  refine hf_ishl dX12_says_76 ?_
  refine hf_icmp_ge (tgt := 267) dX12_says_77 (by decide) (fun hc => ?_) (fun hc => ?_)
  · replace h := h.1 hc
    refine hf_iload_n dX12_says_267 rfl rfl ?_
    refine hf_if_ne (tgt := 276) dX12_says_268 (by decide) (fun hc => ?_) (fun hc => ?_)
    · replace h := h.1 hc
      refine hf_iload_n dX12_says_276 rfl rfl ?_
      refine hf_iconst (v := 1) dX12_says_277 (by decide) ?_
      refine hf_icmp_ne (tgt := 285) dX12_says_278 (by decide) (fun hc => ?_) (fun hc => ?_)
      · replace h := h.1 hc
        refine hf_iload dX12_says_285 rfl ?_
        refine hf_ireturn dX12_says_287 rfl rfl ?_
        exact h
      · replace h := h.2 hc
        refine hf_iload_n dX12_says_281 rfl rfl ?_
        refine hf_goto (tgt := 287) dX12_says_282 (by decide) ?_
        refine hf_ireturn dX12_says_287 rfl rfl ?_
        exact h
    · replace h := h.2 hc
      refine hf_iload dX12_says_271 rfl ?_
      refine hf_goto (tgt := 287) dX12_says_273 (by decide) ?_
      refine hf_ireturn dX12_says_287 rfl rfl ?_
      exact h
  · replace h := h.2 hc
    refine hf_aload_n dX12_says_80 rfl rfl ?_
    refine hf_bipush (v := 26) dX12_says_81 (by decide) ?_
    refine hf_aload_n dX12_says_83 rfl rfl ?_
    refine hf_getr (b := 158) (c := 12) (j := 2) dX12_says_84 (hs.2.1 156 _ rfl) (hf_lin hs 156 rfl) (by decide) (by decide) hw1038 rfl (hs.2.2 156 2 _ rfl) ?_
    refine hf_sipush (v := 315) dX12_says_87 (by decide) ?_
    refine hf_iald_k (j := 315) (by decide) dX12_says_90 (hs.2.1 158 _ rfl) (hf_lin hs 158 rfl) (hf_vin (by decide)) ?_
    refine hf_callV (c := 12) (as := [.int 26, .int (I 158 315)]) ok_X12_hairsOf dX12_says_91 hw1202 hw1203 hw1609 (hs.2.1 156 _ rfl) (by decide) (hf_lin hs 156 rfl) rfl (Nat.le_of_ble_eq_true rfl) rfl (Nat.le_of_ble_eq_true rfl) (Nat.zero_le _) (Nat.zero_le _) ?_
    show hf_G X Y_X12_hairsOf d _ _ 0 [some (.ref 156), some (.int 26), some (.int (I 158 315))] [] (t, T, I, L, P) _
    refine hf_aload_n dX12_hairsOf_0 rfl rfl ?_
    refine hf_getr (b := 158) (c := 12) (j := 2) dX12_hairsOf_1 (hs.2.1 156 _ rfl) (hf_lin hs 156 rfl) (by decide) (by decide) hw1038 rfl (hs.2.2 156 2 _ rfl) ?_
    refine hf_bipush (v := 26) dX12_hairsOf_4 (by decide) ?_
    refine hf_iload_n dX12_hairsOf_6 rfl rfl ?_
    refine hf_iadd dX12_hairsOf_7 ?_
    rw [show ((26 + 26) : Int32) = 52 by decide]
    refine hf_iald_k (j := 52) (by decide) dX12_hairsOf_8 (hs.2.1 158 _ rfl) (hf_lin hs 158 rfl) (hf_vin (by decide)) ?_
    refine hf_iload_n dX12_hairsOf_9 rfl rfl ?_
    refine hf_iconst (v := 2) dX12_hairsOf_10 (by decide) ?_
    refine hf_iadd dX12_hairsOf_11 ?_
    refine hf_imul dX12_hairsOf_12 ?_
    refine hf_iconst (v := 2) dX12_hairsOf_13 (by decide) ?_
    refine hf_idiv dX12_hairsOf_14 (by decide) ?_
    refine hf_ireturn dX12_hairsOf_15 rfl rfl ?_
    show hf_G X Y_X12_says (d + 1) _ _ 94 [some (.ref 156), some (.int x1), some (.int x2), some (.int x3), some (.int x4), some (.int x5), some (.int x6), none, none, none, none] [.int (((I 158 52) * ((I 158 315) + 2)) / 2)] (t, T, I, L, P) _
    refine hf_ineg dX12_says_94 ?_
    refine hf_istore (l2 := [some (.ref 156), some (.int x1), some (.int x2), some (.int x3), some (.int x4), some (.int x5), some (.int x6), some (.int (-(((I 158 52) * ((I 158 315) + 2)) / 2))), none, none, none]) dX12_says_95 (by decide) rfl ?_
    refine hf_iconst (v := 0) dX12_says_97 (by decide) ?_
    refine hf_istore (l2 := [some (.ref 156), some (.int x1), some (.int x2), some (.int x3), some (.int x4), some (.int x5), some (.int x6), some (.int (-(((I 158 52) * ((I 158 315) + 2)) / 2))), some (.int 0), none, none]) dX12_says_98 (by decide) rfl ?_
    refine hf_iconst (v := 1) dX12_says_100 (by decide) ?_
    refine hf_istore (l2 := [some (.ref 156), some (.int x1), some (.int x2), some (.int x3), some (.int x4), some (.int x5), some (.int x6), some (.int (-(((I 158 52) * ((I 158 315) + 2)) / 2))), some (.int 0), some (.int 1), none]) dX12_says_101 (by decide) rfl ?_
    refine hf_iconst (v := 0) dX12_says_103 (by decide) ?_
    refine hf_istore (l2 := [some (.ref 156), some (.int x1), some (.int x2), some (.int x3), some (.int x4), some (.int x5), some (.int x6), some (.int (-(((I 158 52) * ((I 158 315) + 2)) / 2))), some (.int 0), some (.int 1), some (.int 0)]) dX12_says_104 (by decide) rfl ?_
    exact h

set_option maxHeartbeats 4000000 in
theorem w_X12_says_51 {X : hf_X} {d k n t : Nat} {T : hf_T} {I : hf_I} {L : hf_L} {P : hf_P} {Q : Option Value → hf_M → Prop} {x1 : Int32} {x2 : Int32} {x3 : Int32} {s0 : Int32} {s1 : Int32} (hs : hf_Lay t T P) (h : vp_in s1 6 ∧ (hf_G X Y_X12_says d k n 24 [some (.ref 156), some (.int x1), some (.int x2), some (.int (x3 + 1)), none, none, none, none, none, none, none] [] (t, T, (hf_up I 173 s1.toNatClampNeg s0), L, P) Q)) : hf_G X Y_X12_says d k n 51 [some (.ref 156), some (.int x1), some (.int x2), some (.int x3), none, none, none, none, none, none, none] [.int s0, .int s1, .ref 173] (t, T, I, L, P) Q := by
  refine hf_iast dX12_says_51 (hs.2.1 173 _ rfl) (hf_lin hs 173 rfl) h.1 ?_
  replace h := h.2
  refine hf_iinc (v := (x3 + 1)) (l2 := [some (.ref 156), some (.int x1), some (.int x2), some (.int (x3 + 1)), none, none, none, none, none, none, none]) dX12_says_52 (by decide) rfl rfl rfl ?_
  refine hf_goto (tgt := 24) dX12_says_55 (by decide) ?_
  exact h

set_option maxHeartbeats 4000000 in
theorem w_X12_says_106 {X : hf_X} {d k n t : Nat} {T : hf_T} {I : hf_I} {L : hf_L} {P : hf_P} {Q : Option Value → hf_M → Prop} {x1 : Int32} {x2 : Int32} {x3 : Int32} {x4 : Int32} {x5 : Int32} {x6 : Int32} {x7 : Int32} {x8 : Int32} {x9 : Int32} {x10 : Int32} (hs : hf_Lay t T P) (h : ((I 158 317) ≤ x10 → (x9 = 0 → hf_G X Y_X12_says (d + 1) k n 69 [some (.ref 156), some (.int x1), some (.int x2), some (.int x3), some (.int x4), some (.int x5), some (.int (x6 + 1)), none, none, none, none] [] (t, T, I, L, P) Q) ∧ (¬ (x9 = 0) → (x1 < x7 → hf_G X Y_X12_says (d + 1) k n 69 [some (.ref 156), some (.int x1), some (.int x2), some (.int x3), some (.int x4), some (.int x5), some (.int (x6 + 1)), none, none, none, none] [] (t, T, I, L, P) Q) ∧ (¬ (x1 < x7) → (x4 < x8 → hf_G X Y_X12_says (d + 1) k n 69 [some (.ref 156), some (.int x1), some (.int x2), some (.int x6), some (.int x8), some (.int x7), some (.int (x6 + 1)), none, none, none, none] [] (t, T, I, L, P) Q) ∧ (¬ (x4 < x8) → hf_G X Y_X12_says (d + 1) k n 69 [some (.ref 156), some (.int x1), some (.int x2), some (.int x3), some (.int x4), some (.int x5), some (.int (x6 + 1)), none, none, none, none] [] (t, T, I, L, P) Q)))) ∧ (¬ ((I 158 317) ≤ x10) → (x9 = 0 → (x9 = 0 → hf_G X Y_X12_says (d + 1) k n 69 [some (.ref 156), some (.int x1), some (.int x2), some (.int x3), some (.int x4), some (.int x5), some (.int (x6 + 1)), none, none, none, none] [] (t, T, I, L, P) Q) ∧ (¬ (x9 = 0) → (x1 < x7 → hf_G X Y_X12_says (d + 1) k n 69 [some (.ref 156), some (.int x1), some (.int x2), some (.int x3), some (.int x4), some (.int x5), some (.int (x6 + 1)), none, none, none, none] [] (t, T, I, L, P) Q) ∧ (¬ (x1 < x7) → (x4 < x8 → hf_G X Y_X12_says (d + 1) k n 69 [some (.ref 156), some (.int x1), some (.int x2), some (.int x6), some (.int x8), some (.int x7), some (.int (x6 + 1)), none, none, none, none] [] (t, T, I, L, P) Q) ∧ (¬ (x4 < x8) → hf_G X Y_X12_says (d + 1) k n 69 [some (.ref 156), some (.int x1), some (.int x2), some (.int x3), some (.int x4), some (.int x5), some (.int (x6 + 1)), none, none, none, none] [] (t, T, I, L, P) Q)))) ∧ (¬ (x9 = 0) → (¬ ((x6 >>> (x10 &&& 31)) &&& 1) = 1 → hf_G X Y_X12_says (d + 1) k n 106 [some (.ref 156), some (.int x1), some (.int x2), some (.int x3), some (.int x4), some (.int x5), some (.int x6), some (.int x7), some (.int x8), some (.int x9), some (.int (x10 + 1))] [] (t, T, I, L, P) Q) ∧ (((x6 >>> (x10 &&& 31)) &&& 1) = 1 → vp_in x10 6 ∧ (((I 173 x10.toNatClampNeg) = (-1) → hf_G X Y_X12_says (d + 1) k n 106 [some (.ref 156), some (.int x1), some (.int x2), some (.int x3), some (.int x4), some (.int x5), some (.int x6), some (.int x7), some (.int x8), some (.int 0), some (.int (x10 + 1))] [] (t, T, I, L, P) Q) ∧ (¬ ((I 173 x10.toNatClampNeg) = (-1)) → vp_in x10 6 ∧ (hf_G X Y_X12_broadOf d 0 0 0 (hf_en [.ref 156, .int (I 173 x10.toNatClampNeg), .int (I 158 315)] 5) [] (t, T, I, L, P) (fun r M => hf_G X Y_X12_says (d + 1) k n 180 [some (.ref 156), some (.int x1), some (.int x2), some (.int x3), some (.int x4), some (.int x5), some (.int x6), none, some (.int x8), some (.int 1), some (.int x10)] (r.toList ++ [.int x7]) M Q)))))))) : hf_G X Y_X12_says (d + 1) k n 106 [some (.ref 156), some (.int x1), some (.int x2), some (.int x3), some (.int x4), some (.int x5), some (.int x6), some (.int x7), some (.int x8), some (.int x9), some (.int x10)] [] (t, T, I, L, P) Q := by
  refine hf_iload dX12_says_106 rfl ?_
  refine hf_aload_n dX12_says_108 rfl rfl ?_
  refine hf_callV (c := 12) (as := []) ok_X12_said dX12_says_109 hw1423 hw1424 hw1656 (hs.2.1 156 _ rfl) (by decide) (hf_lin hs 156 rfl) rfl (Nat.le_of_ble_eq_true rfl) rfl (Nat.le_of_ble_eq_true rfl) (Nat.zero_le _) (Nat.zero_le _) ?_
  show hf_G X Y_X12_said d _ _ 0 [some (.ref 156)] [] (t, T, I, L, P) _
  refine hf_aload_n dX12_said_0 rfl rfl ?_
  refine hf_getr (b := 158) (c := 12) (j := 2) dX12_said_1 (hs.2.1 156 _ rfl) (hf_lin hs 156 rfl) (by decide) (by decide) hw1038 rfl (hs.2.2 156 2 _ rfl) ?_
  refine hf_sipush (v := 317) dX12_said_4 (by decide) ?_
  refine hf_iald_k (j := 317) (by decide) dX12_said_7 (hs.2.1 158 _ rfl) (hf_lin hs 158 rfl) (hf_vin (by decide)) ?_
  refine hf_ireturn dX12_said_8 rfl rfl ?_
  show hf_G X Y_X12_says (d + 1) _ _ 112 [some (.ref 156), some (.int x1), some (.int x2), some (.int x3), some (.int x4), some (.int x5), some (.int x6), some (.int x7), some (.int x8), some (.int x9), some (.int x10)] [.int (I 158 317), .int x10] (t, T, I, L, P) _
  refine hf_icmp_ge (tgt := 229) dX12_says_112 (by decide) (fun hc => ?_) (fun hc => ?_)
  · replace h := h.1 hc
    refine hf_iload dX12_says_229 rfl ?_
    refine hf_if_eq (tgt := 261) dX12_says_231 (by decide) (fun hc => ?_) (fun hc => ?_)
    · replace h := h.1 hc
      refine hf_iinc (v := (x6 + 1)) (l2 := [some (.ref 156), some (.int x1), some (.int x2), some (.int x3), some (.int x4), some (.int x5), some (.int (x6 + 1)), some (.int x7), some (.int x8), some (.int x9), some (.int x10)]) dX12_says_261 (by decide) rfl rfl rfl ?_
      refine hf_goto (tgt := 69) dX12_says_264 (by decide) ?_
      refine hf_drop (l' := [some (.ref 156), some (.int x1), some (.int x2), some (.int x3), some (.int x4), some (.int x5), some (.int (x6 + 1)), none, none, none, none]) (by simp [hf_sub]) ?_
      exact h
    · replace h := h.2 hc
      refine hf_iload dX12_says_234 rfl ?_
      refine hf_iload_n dX12_says_236 rfl rfl ?_
      refine hf_icmp_gt (tgt := 261) dX12_says_237 (by decide) (fun hc => ?_) (fun hc => ?_)
      · replace h := h.1 hc
        refine hf_iinc (v := (x6 + 1)) (l2 := [some (.ref 156), some (.int x1), some (.int x2), some (.int x3), some (.int x4), some (.int x5), some (.int (x6 + 1)), some (.int x7), some (.int x8), some (.int x9), some (.int x10)]) dX12_says_261 (by decide) rfl rfl rfl ?_
        refine hf_goto (tgt := 69) dX12_says_264 (by decide) ?_
        refine hf_drop (l' := [some (.ref 156), some (.int x1), some (.int x2), some (.int x3), some (.int x4), some (.int x5), some (.int (x6 + 1)), none, none, none, none]) (by simp [hf_sub]) ?_
        exact h
      · replace h := h.2 hc
        refine hf_iload dX12_says_240 rfl ?_
        refine hf_iload dX12_says_242 rfl ?_
        refine hf_icmp_gt (tgt := 250) dX12_says_244 (by decide) (fun hc => ?_) (fun hc => ?_)
        · replace h := h.1 hc
          refine hf_iload dX12_says_250 rfl ?_
          refine hf_istore_n (l2 := [some (.ref 156), some (.int x1), some (.int x2), some (.int x6), some (.int x4), some (.int x5), some (.int x6), some (.int x7), some (.int x8), some (.int x9), some (.int x10)]) dX12_says_252 rfl (by decide) rfl ?_
          refine hf_iload dX12_says_253 rfl ?_
          refine hf_istore (l2 := [some (.ref 156), some (.int x1), some (.int x2), some (.int x6), some (.int x8), some (.int x5), some (.int x6), some (.int x7), some (.int x8), some (.int x9), some (.int x10)]) dX12_says_255 (by decide) rfl ?_
          refine hf_iload dX12_says_257 rfl ?_
          refine hf_istore (l2 := [some (.ref 156), some (.int x1), some (.int x2), some (.int x6), some (.int x8), some (.int x7), some (.int x6), some (.int x7), some (.int x8), some (.int x9), some (.int x10)]) dX12_says_259 (by decide) rfl ?_
          refine hf_iinc (v := (x6 + 1)) (l2 := [some (.ref 156), some (.int x1), some (.int x2), some (.int x6), some (.int x8), some (.int x7), some (.int (x6 + 1)), some (.int x7), some (.int x8), some (.int x9), some (.int x10)]) dX12_says_261 (by decide) rfl rfl rfl ?_
          refine hf_goto (tgt := 69) dX12_says_264 (by decide) ?_
          refine hf_drop (l' := [some (.ref 156), some (.int x1), some (.int x2), some (.int x6), some (.int x8), some (.int x7), some (.int (x6 + 1)), none, none, none, none]) (by simp [hf_sub]) ?_
          exact h
        · replace h := h.2 hc
          refine hf_goto (tgt := 261) dX12_says_247 (by decide) ?_
          refine hf_iinc (v := (x6 + 1)) (l2 := [some (.ref 156), some (.int x1), some (.int x2), some (.int x3), some (.int x4), some (.int x5), some (.int (x6 + 1)), some (.int x7), some (.int x8), some (.int x9), some (.int x10)]) dX12_says_261 (by decide) rfl rfl rfl ?_
          refine hf_goto (tgt := 69) dX12_says_264 (by decide) ?_
          refine hf_drop (l' := [some (.ref 156), some (.int x1), some (.int x2), some (.int x3), some (.int x4), some (.int x5), some (.int (x6 + 1)), none, none, none, none]) (by simp [hf_sub]) ?_
          exact h
  · replace h := h.2 hc
    refine hf_iload dX12_says_115 rfl ?_
    refine hf_if_eq (tgt := 229) dX12_says_117 (by decide) (fun hc => ?_) (fun hc => ?_)
    · replace h := h.1 hc
      refine hf_iload dX12_says_229 rfl ?_
      refine hf_if_eq (tgt := 261) dX12_says_231 (by decide) (fun hc => ?_) (fun hc => ?_)
      · replace h := h.1 hc
        refine hf_iinc (v := (x6 + 1)) (l2 := [some (.ref 156), some (.int x1), some (.int x2), some (.int x3), some (.int x4), some (.int x5), some (.int (x6 + 1)), some (.int x7), some (.int x8), some (.int x9), some (.int x10)]) dX12_says_261 (by decide) rfl rfl rfl ?_
        refine hf_goto (tgt := 69) dX12_says_264 (by decide) ?_
        refine hf_drop (l' := [some (.ref 156), some (.int x1), some (.int x2), some (.int x3), some (.int x4), some (.int x5), some (.int (x6 + 1)), none, none, none, none]) (by simp [hf_sub]) ?_
        exact h
      · replace h := h.2 hc
        refine hf_iload dX12_says_234 rfl ?_
        refine hf_iload_n dX12_says_236 rfl rfl ?_
        refine hf_icmp_gt (tgt := 261) dX12_says_237 (by decide) (fun hc => ?_) (fun hc => ?_)
        · replace h := h.1 hc
          refine hf_iinc (v := (x6 + 1)) (l2 := [some (.ref 156), some (.int x1), some (.int x2), some (.int x3), some (.int x4), some (.int x5), some (.int (x6 + 1)), some (.int x7), some (.int x8), some (.int x9), some (.int x10)]) dX12_says_261 (by decide) rfl rfl rfl ?_
          refine hf_goto (tgt := 69) dX12_says_264 (by decide) ?_
          refine hf_drop (l' := [some (.ref 156), some (.int x1), some (.int x2), some (.int x3), some (.int x4), some (.int x5), some (.int (x6 + 1)), none, none, none, none]) (by simp [hf_sub]) ?_
          exact h
        · replace h := h.2 hc
          refine hf_iload dX12_says_240 rfl ?_
          refine hf_iload dX12_says_242 rfl ?_
          refine hf_icmp_gt (tgt := 250) dX12_says_244 (by decide) (fun hc => ?_) (fun hc => ?_)
          · replace h := h.1 hc
            refine hf_iload dX12_says_250 rfl ?_
            refine hf_istore_n (l2 := [some (.ref 156), some (.int x1), some (.int x2), some (.int x6), some (.int x4), some (.int x5), some (.int x6), some (.int x7), some (.int x8), some (.int x9), some (.int x10)]) dX12_says_252 rfl (by decide) rfl ?_
            refine hf_iload dX12_says_253 rfl ?_
            refine hf_istore (l2 := [some (.ref 156), some (.int x1), some (.int x2), some (.int x6), some (.int x8), some (.int x5), some (.int x6), some (.int x7), some (.int x8), some (.int x9), some (.int x10)]) dX12_says_255 (by decide) rfl ?_
            refine hf_iload dX12_says_257 rfl ?_
            refine hf_istore (l2 := [some (.ref 156), some (.int x1), some (.int x2), some (.int x6), some (.int x8), some (.int x7), some (.int x6), some (.int x7), some (.int x8), some (.int x9), some (.int x10)]) dX12_says_259 (by decide) rfl ?_
            refine hf_iinc (v := (x6 + 1)) (l2 := [some (.ref 156), some (.int x1), some (.int x2), some (.int x6), some (.int x8), some (.int x7), some (.int (x6 + 1)), some (.int x7), some (.int x8), some (.int x9), some (.int x10)]) dX12_says_261 (by decide) rfl rfl rfl ?_
            refine hf_goto (tgt := 69) dX12_says_264 (by decide) ?_
            refine hf_drop (l' := [some (.ref 156), some (.int x1), some (.int x2), some (.int x6), some (.int x8), some (.int x7), some (.int (x6 + 1)), none, none, none, none]) (by simp [hf_sub]) ?_
            exact h
          · replace h := h.2 hc
            refine hf_goto (tgt := 261) dX12_says_247 (by decide) ?_
            refine hf_iinc (v := (x6 + 1)) (l2 := [some (.ref 156), some (.int x1), some (.int x2), some (.int x3), some (.int x4), some (.int x5), some (.int (x6 + 1)), some (.int x7), some (.int x8), some (.int x9), some (.int x10)]) dX12_says_261 (by decide) rfl rfl rfl ?_
            refine hf_goto (tgt := 69) dX12_says_264 (by decide) ?_
            refine hf_drop (l' := [some (.ref 156), some (.int x1), some (.int x2), some (.int x3), some (.int x4), some (.int x5), some (.int (x6 + 1)), none, none, none, none]) (by simp [hf_sub]) ?_
            exact h
    · replace h := h.2 hc
      refine hf_iload dX12_says_120 rfl ?_
      refine hf_iload dX12_says_122 rfl ?_
      refine hf_callS (as := [.int x6, .int x10]) ok_X12_isIn dX12_says_124 hw1472 hw1473 rfl (Nat.le_of_ble_eq_true rfl) rfl (Nat.le_of_ble_eq_true rfl) (Nat.zero_le _) (Nat.zero_le _) ?_
      show hf_G X Y_X12_isIn d _ _ 0 [some (.int x6), some (.int x10)] [] (t, T, I, L, P) _
      refine hf_iload_n dX12_isIn_0 rfl rfl ?_
      refine hf_iload_n dX12_isIn_1 rfl rfl ?_
      refine hf_ishr dX12_isIn_2 ?_
      refine hf_iconst (v := 1) dX12_isIn_3 (by decide) ?_
      refine hf_iand dX12_isIn_4 ?_
      refine hf_iconst (v := 1) dX12_isIn_5 (by decide) ?_
      refine hf_icmp_ne (tgt := 13) dX12_isIn_6 (by decide) (fun hc => ?_) (fun hc => ?_)
      · replace h := h.1 hc
        refine hf_iconst (v := 0) dX12_isIn_13 (by decide) ?_
        refine hf_ireturn dX12_isIn_14 rfl (by decide) ?_
        show hf_G X Y_X12_says (d + 1) _ _ 127 [some (.ref 156), some (.int x1), some (.int x2), some (.int x3), some (.int x4), some (.int x5), some (.int x6), some (.int x7), some (.int x8), some (.int x9), some (.int x10)] [.int 0] (t, T, I, L, P) _
        refine hf_if_ne (tgt := 133) dX12_says_127 (by decide) (fun hc => absurd (show ¬ (0 : Int32) = (0 : Int32) from hc) (by decide)) (fun _ => ?_)
        refine hf_goto (tgt := 223) dX12_says_130 (by decide) ?_
        refine hf_iinc (v := (x10 + 1)) (l2 := [some (.ref 156), some (.int x1), some (.int x2), some (.int x3), some (.int x4), some (.int x5), some (.int x6), some (.int x7), some (.int x8), some (.int x9), some (.int (x10 + 1))]) dX12_says_223 (by decide) rfl rfl rfl ?_
        refine hf_goto (tgt := 106) dX12_says_226 (by decide) ?_
        exact h
      · replace h := h.2 hc
        refine hf_iconst (v := 1) dX12_isIn_9 (by decide) ?_
        refine hf_goto (tgt := 14) dX12_isIn_10 (by decide) ?_
        refine hf_ireturn dX12_isIn_14 rfl (by decide) ?_
        show hf_G X Y_X12_says (d + 1) _ _ 127 [some (.ref 156), some (.int x1), some (.int x2), some (.int x3), some (.int x4), some (.int x5), some (.int x6), some (.int x7), some (.int x8), some (.int x9), some (.int x10)] [.int 1] (t, T, I, L, P) _
        refine hf_if_ne (tgt := 133) dX12_says_127 (by decide) (fun _ => ?_) (fun hc => absurd (show (1 : Int32) = (0 : Int32) from hc) (by decide))
        refine hf_aload_n dX12_says_133 rfl rfl ?_
        refine hf_getr (b := 173) (c := 12) (j := 30) dX12_says_134 (hs.2.1 156 _ rfl) (hf_lin hs 156 rfl) (by decide) (by decide) hw1066 rfl (hs.2.2 156 30 _ rfl) ?_
        refine hf_iload dX12_says_137 rfl ?_
        refine hf_iald dX12_says_139 (hs.2.1 173 _ rfl) (hf_lin hs 173 rfl) h.1 ?_
        replace h := h.2
        refine hf_iconst (v := (-1)) dX12_says_140 (by decide) ?_
        refine hf_icmp_eq (tgt := 148) dX12_says_141 (by decide) (fun hc => ?_) (fun hc => ?_)
        · replace h := h.1 hc
          refine hf_iconst (v := 0) dX12_says_148 (by decide) ?_
          refine hf_istore (l2 := [some (.ref 156), some (.int x1), some (.int x2), some (.int x3), some (.int x4), some (.int x5), some (.int x6), some (.int x7), some (.int x8), some (.int 0), some (.int x10)]) dX12_says_149 (by decide) rfl ?_
          refine hf_iload dX12_says_151 rfl ?_
          refine hf_if_ne (tgt := 159) dX12_says_153 (by decide) (fun hc => absurd (show ¬ (0 : Int32) = (0 : Int32) from hc) (by decide)) (fun _ => ?_)
          refine hf_goto (tgt := 223) dX12_says_156 (by decide) ?_
          refine hf_iinc (v := (x10 + 1)) (l2 := [some (.ref 156), some (.int x1), some (.int x2), some (.int x3), some (.int x4), some (.int x5), some (.int x6), some (.int x7), some (.int x8), some (.int 0), some (.int (x10 + 1))]) dX12_says_223 (by decide) rfl rfl rfl ?_
          refine hf_goto (tgt := 106) dX12_says_226 (by decide) ?_
          exact h
        · replace h := h.2 hc
          refine hf_iconst (v := 1) dX12_says_144 (by decide) ?_
          refine hf_goto (tgt := 149) dX12_says_145 (by decide) ?_
          refine hf_istore (l2 := [some (.ref 156), some (.int x1), some (.int x2), some (.int x3), some (.int x4), some (.int x5), some (.int x6), some (.int x7), some (.int x8), some (.int 1), some (.int x10)]) dX12_says_149 (by decide) rfl ?_
          refine hf_iload dX12_says_151 rfl ?_
          refine hf_if_ne (tgt := 159) dX12_says_153 (by decide) (fun _ => ?_) (fun hc => absurd (show (1 : Int32) = (0 : Int32) from hc) (by decide))
          refine hf_iload dX12_says_159 rfl ?_
          refine hf_aload_n dX12_says_161 rfl rfl ?_
          refine hf_aload_n dX12_says_162 rfl rfl ?_
          refine hf_getr (b := 173) (c := 12) (j := 30) dX12_says_163 (hs.2.1 156 _ rfl) (hf_lin hs 156 rfl) (by decide) (by decide) hw1066 rfl (hs.2.2 156 30 _ rfl) ?_
          refine hf_iload dX12_says_166 rfl ?_
          refine hf_iald dX12_says_168 (hs.2.1 173 _ rfl) (hf_lin hs 173 rfl) h.1 ?_
          replace h := h.2
          refine hf_aload_n dX12_says_169 rfl rfl ?_
          refine hf_getr (b := 158) (c := 12) (j := 2) dX12_says_170 (hs.2.1 156 _ rfl) (hf_lin hs 156 rfl) (by decide) (by decide) hw1038 rfl (hs.2.2 156 2 _ rfl) ?_
          refine hf_sipush (v := 315) dX12_says_173 (by decide) ?_
          refine hf_iald_k (j := 315) (by decide) dX12_says_176 (hs.2.1 158 _ rfl) (hf_lin hs 158 rfl) (hf_vin (by decide)) ?_
          exact hf_callV (c := 12) (as := [.int (I 173 x10.toNatClampNeg), .int (I 158 315)]) ok_X12_broadOf dX12_says_177 hw1199 hw1200 hw1608 (hs.2.1 156 _ rfl) (by decide) (hf_lin hs 156 rfl) rfl (Nat.le_of_ble_eq_true rfl) rfl (Nat.le_of_ble_eq_true rfl) (Nat.zero_le _) (Nat.zero_le _) (hf_mono (fun r M q => hf_drop (l' := [some (.ref 156), some (.int x1), some (.int x2), some (.int x3), some (.int x4), some (.int x5), some (.int x6), none, some (.int x8), some (.int 1), some (.int x10)]) (by simp [hf_sub]) q) h)

set_option maxHeartbeats 4000000 in
theorem w_X12_says_180 {X : hf_X} {d k n t : Nat} {T : hf_T} {I : hf_I} {L : hf_L} {P : hf_P} {Q : Option Value → hf_M → Prop} {x1 : Int32} {x2 : Int32} {x3 : Int32} {x4 : Int32} {x5 : Int32} {x6 : Int32} {x8 : Int32} {x9 : Int32} {x10 : Int32} {s0 : Int32} {s1 : Int32} (hs : hf_Lay t T P) (h : vp_in (269 + x10) 5929 ∧ (vp_in (261 + (I 158 (((269 + x10)).toNatClampNeg))) 5929 ∧ (hf_G X Y_X12_says (d + 1) k n 106 [some (.ref 156), some (.int x1), some (.int x2), some (.int x3), some (.int x4), some (.int x5), some (.int x6), some (.int (s1 + (s0 + (((I 158 52) * ((I 158 315) + 2)) / 2)))), some (.int (x8 + (I 158 (((261 + (I 158 (((269 + x10)).toNatClampNeg)))).toNatClampNeg)))), some (.int x9), some (.int (x10 + 1))] [] (t, T, I, L, P) Q))) : hf_G X Y_X12_says (d + 1) k n 180 [some (.ref 156), some (.int x1), some (.int x2), some (.int x3), some (.int x4), some (.int x5), some (.int x6), none, some (.int x8), some (.int x9), some (.int x10)] [.int s0, .int s1] (t, T, I, L, P) Q := by
  refine hf_aload_n dX12_says_180 rfl rfl ?_
  refine hf_bipush (v := 26) dX12_says_181 (by decide) ?_
  refine hf_aload_n dX12_says_183 rfl rfl ?_
  refine hf_getr (b := 158) (c := 12) (j := 2) dX12_says_184 (hs.2.1 156 _ rfl) (hf_lin hs 156 rfl) (by decide) (by decide) hw1038 rfl (hs.2.2 156 2 _ rfl) ?_
  refine hf_sipush (v := 315) dX12_says_187 (by decide) ?_
  refine hf_iald_k (j := 315) (by decide) dX12_says_190 (hs.2.1 158 _ rfl) (hf_lin hs 158 rfl) (hf_vin (by decide)) ?_
  refine hf_callV (c := 12) (as := [.int 26, .int (I 158 315)]) ok_X12_hairsOf dX12_says_191 hw1202 hw1203 hw1609 (hs.2.1 156 _ rfl) (by decide) (hf_lin hs 156 rfl) rfl (Nat.le_of_ble_eq_true rfl) rfl (Nat.le_of_ble_eq_true rfl) (Nat.zero_le _) (Nat.zero_le _) ?_
  show hf_G X Y_X12_hairsOf d _ _ 0 [some (.ref 156), some (.int 26), some (.int (I 158 315))] [] (t, T, I, L, P) _
  refine hf_aload_n dX12_hairsOf_0 rfl rfl ?_
  refine hf_getr (b := 158) (c := 12) (j := 2) dX12_hairsOf_1 (hs.2.1 156 _ rfl) (hf_lin hs 156 rfl) (by decide) (by decide) hw1038 rfl (hs.2.2 156 2 _ rfl) ?_
  refine hf_bipush (v := 26) dX12_hairsOf_4 (by decide) ?_
  refine hf_iload_n dX12_hairsOf_6 rfl rfl ?_
  refine hf_iadd dX12_hairsOf_7 ?_
  rw [show ((26 + 26) : Int32) = 52 by decide]
  refine hf_iald_k (j := 52) (by decide) dX12_hairsOf_8 (hs.2.1 158 _ rfl) (hf_lin hs 158 rfl) (hf_vin (by decide)) ?_
  refine hf_iload_n dX12_hairsOf_9 rfl rfl ?_
  refine hf_iconst (v := 2) dX12_hairsOf_10 (by decide) ?_
  refine hf_iadd dX12_hairsOf_11 ?_
  refine hf_imul dX12_hairsOf_12 ?_
  refine hf_iconst (v := 2) dX12_hairsOf_13 (by decide) ?_
  refine hf_idiv dX12_hairsOf_14 (by decide) ?_
  refine hf_ireturn dX12_hairsOf_15 rfl rfl ?_
  show hf_G X Y_X12_says (d + 1) _ _ 194 [some (.ref 156), some (.int x1), some (.int x2), some (.int x3), some (.int x4), some (.int x5), some (.int x6), none, some (.int x8), some (.int x9), some (.int x10)] [.int (((I 158 52) * ((I 158 315) + 2)) / 2), .int s0, .int s1] (t, T, I, L, P) _
  refine hf_iadd dX12_says_194 ?_
  refine hf_iadd dX12_says_195 ?_
  refine hf_istore (l2 := [some (.ref 156), some (.int x1), some (.int x2), some (.int x3), some (.int x4), some (.int x5), some (.int x6), some (.int (s1 + (s0 + (((I 158 52) * ((I 158 315) + 2)) / 2)))), some (.int x8), some (.int x9), some (.int x10)]) dX12_says_196 (by decide) rfl ?_
  refine hf_iload dX12_says_198 rfl ?_
  refine hf_aload_n dX12_says_200 rfl rfl ?_
  refine hf_getr (b := 158) (c := 12) (j := 2) dX12_says_201 (hs.2.1 156 _ rfl) (hf_lin hs 156 rfl) (by decide) (by decide) hw1038 rfl (hs.2.2 156 2 _ rfl) ?_
  refine hf_sipush (v := 261) dX12_says_204 (by decide) ?_
  refine hf_aload_n dX12_says_207 rfl rfl ?_
  refine hf_getr (b := 158) (c := 12) (j := 2) dX12_says_208 (hs.2.1 156 _ rfl) (hf_lin hs 156 rfl) (by decide) (by decide) hw1038 rfl (hs.2.2 156 2 _ rfl) ?_
  refine hf_sipush (v := 269) dX12_says_211 (by decide) ?_
  refine hf_iload dX12_says_214 rfl ?_
  refine hf_iadd dX12_says_216 ?_
  refine hf_iald dX12_says_217 (hs.2.1 158 _ rfl) (hf_lin hs 158 rfl) h.1 ?_
  replace h := h.2
  refine hf_iadd dX12_says_218 ?_
  refine hf_iald dX12_says_219 (hs.2.1 158 _ rfl) (hf_lin hs 158 rfl) h.1 ?_
  replace h := h.2
  refine hf_iadd dX12_says_220 ?_
  refine hf_istore (l2 := [some (.ref 156), some (.int x1), some (.int x2), some (.int x3), some (.int x4), some (.int x5), some (.int x6), some (.int (s1 + (s0 + (((I 158 52) * ((I 158 315) + 2)) / 2)))), some (.int (x8 + (I 158 (((261 + (I 158 (((269 + x10)).toNatClampNeg)))).toNatClampNeg)))), some (.int x9), some (.int x10)]) dX12_says_221 (by decide) rfl ?_
  refine hf_iinc (v := (x10 + 1)) (l2 := [some (.ref 156), some (.int x1), some (.int x2), some (.int x3), some (.int x4), some (.int x5), some (.int x6), some (.int (s1 + (s0 + (((I 158 52) * ((I 158 315) + 2)) / 2)))), some (.int (x8 + (I 158 (((261 + (I 158 (((269 + x10)).toNatClampNeg)))).toNatClampNeg)))), some (.int x9), some (.int (x10 + 1))]) dX12_says_223 (by decide) rfl rfl rfl ?_
  refine hf_goto (tgt := 106) dX12_says_226 (by decide) ?_
  exact h

set_option maxHeartbeats 4000000 in
theorem w_X12_seen_0 {X : hf_X} {d k n t : Nat} {T : hf_T} {I : hf_I} {L : hf_L} {P : hf_P} {Q : Option Value → hf_M → Prop} {x1 : Int32} {x2 : Int32} (hs : hf_Lay t T P) (h : (x1 < 0 → Q (some (.int (-1))) (t, T, (hf_up (hf_up I 156 0 (-1)) 157 1 ((I 157 1) + 1)), L, P)) ∧ (¬ (x1 < 0) → (3 < x1 → Q (some (.int (-1))) (t, T, (hf_up (hf_up I 156 0 (-1)) 157 1 ((I 157 1) + 1)), L, P)) ∧ (¬ (3 < x1) → (x2 < 0 → Q (some (.int (-1))) (t, T, (hf_up (hf_up I 156 0 (-1)) 157 1 ((I 157 1) + 1)), L, P)) ∧ (¬ (x2 < 0) → (999 < x2 → Q (some (.int (-1))) (t, T, (hf_up (hf_up I 156 0 (-1)) 157 1 ((I 157 1) + 1)), L, P)) ∧ (¬ (999 < x2) → (¬ (I 158 318) = 4 → vp_in (279 + (2 * (I 158 318))) 5929 ∧ (vp_in ((279 + (2 * (I 158 318))) + 1) 5929 ∧ (Q (some (.int ((I 158 318) + 1))) (t, T, (hf_up (hf_up (hf_up (hf_up I 158 (((279 + (2 * (I 158 318)))).toNatClampNeg) x1) 158 ((((279 + (2 * (I 158 318))) + 1)).toNatClampNeg) x2) 158 318 (((hf_up (hf_up I 158 (((279 + (2 * (I 158 318)))).toNatClampNeg) x1) 158 ((((279 + (2 * (I 158 318))) + 1)).toNatClampNeg) x2) 158 318) + 1)) 156 0 0), L, P)))) ∧ ((I 158 318) = 4 → Q (some (.int (-5))) (t, T, (hf_up (hf_up I 156 0 (-5)) 157 5 ((I 157 5) + 1)), L, P))))))) : hf_G X Y_X12_seen (d + 1) k n 0 (hf_en [.ref 156, .int x1, .int x2] 4) [] (t, T, I, L, P) Q := by
  show hf_G X Y_X12_seen (d + 1) k n 0 [some (.ref 156), some (.int x1), some (.int x2), none] [] (t, T, I, L, P) Q
  refine hf_iload_n dX12_seen_0 rfl rfl ?_
  refine hf_iconst (v := 0) dX12_seen_1 (by decide) ?_
  refine hf_iconst (v := 3) dX12_seen_2 (by decide) ?_
  refine hf_callS (as := [.int x1, .int 0, .int 3]) ok_X12_lies dX12_seen_3 hw1143 hw1144 rfl (Nat.le_of_ble_eq_true rfl) rfl (Nat.le_of_ble_eq_true rfl) (Nat.zero_le _) (Nat.zero_le _) ?_
  show hf_G X Y_X12_lies d _ _ 0 [some (.int x1), some (.int 0), some (.int 3)] [] (t, T, I, L, P) _
  refine hf_iload_n dX12_lies_0 rfl rfl ?_
  refine hf_iload_n dX12_lies_1 rfl rfl ?_
  refine hf_icmp_lt (tgt := 14) dX12_lies_2 (by decide) (fun hc => ?_) (fun hc => ?_)
  · replace h := h.1 hc
    refine hf_iconst (v := 0) dX12_lies_14 (by decide) ?_
    refine hf_ireturn dX12_lies_15 rfl (by decide) ?_
    show hf_G X Y_X12_seen (d + 1) _ _ 6 [some (.ref 156), some (.int x1), some (.int x2), none] [.int 0] (t, T, I, L, P) _
    refine hf_if_eq (tgt := 20) dX12_seen_6 (by decide) (fun _ => ?_) (fun hc => absurd (show (0 : Int32) = (0 : Int32) by decide) hc)
    refine hf_aload_n dX12_seen_20 rfl rfl ?_
    refine hf_iconst (v := (-1)) dX12_seen_21 (by decide) ?_
    refine hf_callV (c := 12) (as := [.int (-1)]) ok_X12_refuses dX12_seen_22 hw1146 hw1147 hw1601 (hs.2.1 156 _ rfl) (by decide) (hf_lin hs 156 rfl) rfl (Nat.le_of_ble_eq_true rfl) rfl (Nat.le_of_ble_eq_true rfl) (Nat.zero_le _) (Nat.zero_le _) ?_
    show hf_G X Y_X12_refuses d _ _ 0 [some (.ref 156), some (.int (-1))] [] (t, T, I, L, P) _
    refine hf_aload_n dX12_refuses_0 rfl rfl ?_
    refine hf_iload_n dX12_refuses_1 rfl rfl ?_
    refine hf_puti (c := 12) (j := 0) dX12_refuses_2 (hs.2.1 156 _ rfl) (hf_lin hs 156 rfl) (by decide) (by decide) hw1036 rfl rfl ?_
    refine hf_aload_n dX12_refuses_5 rfl rfl ?_
    refine hf_getr (b := 157) (c := 12) (j := 1) dX12_refuses_6 (hs.2.1 156 _ rfl) (hf_lin hs 156 rfl) (by decide) (by decide) hw1037 rfl (hs.2.2 156 1 _ rfl) ?_
    refine hf_iload_n dX12_refuses_9 rfl rfl ?_
    refine hf_ineg dX12_refuses_10 ?_
    rw [show (-(-1) : Int32) = 1 by decide]
    refine hf_dup2 dX12_refuses_11 rfl rfl ?_
    refine hf_iald_k (j := 1) (by decide) dX12_refuses_12 (hs.2.1 157 _ rfl) (hf_lin hs 157 rfl) (hf_vin (by decide)) ?_
    refine hf_iconst (v := 1) dX12_refuses_13 (by decide) ?_
    refine hf_iadd dX12_refuses_14 ?_
    refine hf_iast_k (j := 1) (by decide) dX12_refuses_15 (hs.2.1 157 _ rfl) (hf_lin hs 157 rfl) (hf_vin (by decide)) ?_
    refine hf_iload_n dX12_refuses_16 rfl rfl ?_
    refine hf_ireturn dX12_refuses_17 rfl rfl ?_
    show hf_G X Y_X12_seen (d + 1) _ _ 25 [some (.ref 156), some (.int x1), some (.int x2), none] [.int (-1)] (t, T, (hf_up (hf_up I 156 0 (-1)) 157 1 ((I 157 1) + 1)), L, P) _
    refine hf_ireturn dX12_seen_25 rfl rfl ?_
    exact h
  · replace h := h.2 hc
    refine hf_iload_n dX12_lies_5 rfl rfl ?_
    refine hf_iload_n dX12_lies_6 rfl rfl ?_
    refine hf_icmp_gt (tgt := 14) dX12_lies_7 (by decide) (fun hc => ?_) (fun hc => ?_)
    · replace h := h.1 hc
      refine hf_iconst (v := 0) dX12_lies_14 (by decide) ?_
      refine hf_ireturn dX12_lies_15 rfl (by decide) ?_
      show hf_G X Y_X12_seen (d + 1) _ _ 6 [some (.ref 156), some (.int x1), some (.int x2), none] [.int 0] (t, T, I, L, P) _
      refine hf_if_eq (tgt := 20) dX12_seen_6 (by decide) (fun _ => ?_) (fun hc => absurd (show (0 : Int32) = (0 : Int32) by decide) hc)
      refine hf_aload_n dX12_seen_20 rfl rfl ?_
      refine hf_iconst (v := (-1)) dX12_seen_21 (by decide) ?_
      refine hf_callV (c := 12) (as := [.int (-1)]) ok_X12_refuses dX12_seen_22 hw1146 hw1147 hw1601 (hs.2.1 156 _ rfl) (by decide) (hf_lin hs 156 rfl) rfl (Nat.le_of_ble_eq_true rfl) rfl (Nat.le_of_ble_eq_true rfl) (Nat.zero_le _) (Nat.zero_le _) ?_
      show hf_G X Y_X12_refuses d _ _ 0 [some (.ref 156), some (.int (-1))] [] (t, T, I, L, P) _
      refine hf_aload_n dX12_refuses_0 rfl rfl ?_
      refine hf_iload_n dX12_refuses_1 rfl rfl ?_
      refine hf_puti (c := 12) (j := 0) dX12_refuses_2 (hs.2.1 156 _ rfl) (hf_lin hs 156 rfl) (by decide) (by decide) hw1036 rfl rfl ?_
      refine hf_aload_n dX12_refuses_5 rfl rfl ?_
      refine hf_getr (b := 157) (c := 12) (j := 1) dX12_refuses_6 (hs.2.1 156 _ rfl) (hf_lin hs 156 rfl) (by decide) (by decide) hw1037 rfl (hs.2.2 156 1 _ rfl) ?_
      refine hf_iload_n dX12_refuses_9 rfl rfl ?_
      refine hf_ineg dX12_refuses_10 ?_
      rw [show (-(-1) : Int32) = 1 by decide]
      refine hf_dup2 dX12_refuses_11 rfl rfl ?_
      refine hf_iald_k (j := 1) (by decide) dX12_refuses_12 (hs.2.1 157 _ rfl) (hf_lin hs 157 rfl) (hf_vin (by decide)) ?_
      refine hf_iconst (v := 1) dX12_refuses_13 (by decide) ?_
      refine hf_iadd dX12_refuses_14 ?_
      refine hf_iast_k (j := 1) (by decide) dX12_refuses_15 (hs.2.1 157 _ rfl) (hf_lin hs 157 rfl) (hf_vin (by decide)) ?_
      refine hf_iload_n dX12_refuses_16 rfl rfl ?_
      refine hf_ireturn dX12_refuses_17 rfl rfl ?_
      show hf_G X Y_X12_seen (d + 1) _ _ 25 [some (.ref 156), some (.int x1), some (.int x2), none] [.int (-1)] (t, T, (hf_up (hf_up I 156 0 (-1)) 157 1 ((I 157 1) + 1)), L, P) _
      refine hf_ireturn dX12_seen_25 rfl rfl ?_
      exact h
    · replace h := h.2 hc
      refine hf_iconst (v := 1) dX12_lies_10 (by decide) ?_
      refine hf_goto (tgt := 15) dX12_lies_11 (by decide) ?_
      refine hf_ireturn dX12_lies_15 rfl (by decide) ?_
      show hf_G X Y_X12_seen (d + 1) _ _ 6 [some (.ref 156), some (.int x1), some (.int x2), none] [.int 1] (t, T, I, L, P) _
      refine hf_if_eq (tgt := 20) dX12_seen_6 (by decide) (fun hc => absurd (show (1 : Int32) = (0 : Int32) from hc) (by decide)) (fun _ => ?_)
      refine hf_iload_n dX12_seen_9 rfl rfl ?_
      refine hf_iconst (v := 0) dX12_seen_10 (by decide) ?_
      refine hf_sipush (v := 999) dX12_seen_11 (by decide) ?_
      refine hf_callS (as := [.int x2, .int 0, .int 999]) ok_X12_lies dX12_seen_14 hw1143 hw1144 rfl (Nat.le_of_ble_eq_true rfl) rfl (Nat.le_of_ble_eq_true rfl) (Nat.zero_le _) (Nat.zero_le _) ?_
      show hf_G X Y_X12_lies d _ _ 0 [some (.int x2), some (.int 0), some (.int 999)] [] (t, T, I, L, P) _
      refine hf_iload_n dX12_lies_0 rfl rfl ?_
      refine hf_iload_n dX12_lies_1 rfl rfl ?_
      refine hf_icmp_lt (tgt := 14) dX12_lies_2 (by decide) (fun hc => ?_) (fun hc => ?_)
      · replace h := h.1 hc
        refine hf_iconst (v := 0) dX12_lies_14 (by decide) ?_
        refine hf_ireturn dX12_lies_15 rfl (by decide) ?_
        show hf_G X Y_X12_seen (d + 1) _ _ 17 [some (.ref 156), some (.int x1), some (.int x2), none] [.int 0] (t, T, I, L, P) _
        refine hf_if_ne (tgt := 26) dX12_seen_17 (by decide) (fun hc => absurd (show ¬ (0 : Int32) = (0 : Int32) from hc) (by decide)) (fun _ => ?_)
        refine hf_aload_n dX12_seen_20 rfl rfl ?_
        refine hf_iconst (v := (-1)) dX12_seen_21 (by decide) ?_
        refine hf_callV (c := 12) (as := [.int (-1)]) ok_X12_refuses dX12_seen_22 hw1146 hw1147 hw1601 (hs.2.1 156 _ rfl) (by decide) (hf_lin hs 156 rfl) rfl (Nat.le_of_ble_eq_true rfl) rfl (Nat.le_of_ble_eq_true rfl) (Nat.zero_le _) (Nat.zero_le _) ?_
        show hf_G X Y_X12_refuses d _ _ 0 [some (.ref 156), some (.int (-1))] [] (t, T, I, L, P) _
        refine hf_aload_n dX12_refuses_0 rfl rfl ?_
        refine hf_iload_n dX12_refuses_1 rfl rfl ?_
        refine hf_puti (c := 12) (j := 0) dX12_refuses_2 (hs.2.1 156 _ rfl) (hf_lin hs 156 rfl) (by decide) (by decide) hw1036 rfl rfl ?_
        refine hf_aload_n dX12_refuses_5 rfl rfl ?_
        refine hf_getr (b := 157) (c := 12) (j := 1) dX12_refuses_6 (hs.2.1 156 _ rfl) (hf_lin hs 156 rfl) (by decide) (by decide) hw1037 rfl (hs.2.2 156 1 _ rfl) ?_
        refine hf_iload_n dX12_refuses_9 rfl rfl ?_
        refine hf_ineg dX12_refuses_10 ?_
        rw [show (-(-1) : Int32) = 1 by decide]
        refine hf_dup2 dX12_refuses_11 rfl rfl ?_
        refine hf_iald_k (j := 1) (by decide) dX12_refuses_12 (hs.2.1 157 _ rfl) (hf_lin hs 157 rfl) (hf_vin (by decide)) ?_
        refine hf_iconst (v := 1) dX12_refuses_13 (by decide) ?_
        refine hf_iadd dX12_refuses_14 ?_
        refine hf_iast_k (j := 1) (by decide) dX12_refuses_15 (hs.2.1 157 _ rfl) (hf_lin hs 157 rfl) (hf_vin (by decide)) ?_
        refine hf_iload_n dX12_refuses_16 rfl rfl ?_
        refine hf_ireturn dX12_refuses_17 rfl rfl ?_
        show hf_G X Y_X12_seen (d + 1) _ _ 25 [some (.ref 156), some (.int x1), some (.int x2), none] [.int (-1)] (t, T, (hf_up (hf_up I 156 0 (-1)) 157 1 ((I 157 1) + 1)), L, P) _
        refine hf_ireturn dX12_seen_25 rfl rfl ?_
        exact h
      · replace h := h.2 hc
        refine hf_iload_n dX12_lies_5 rfl rfl ?_
        refine hf_iload_n dX12_lies_6 rfl rfl ?_
        refine hf_icmp_gt (tgt := 14) dX12_lies_7 (by decide) (fun hc => ?_) (fun hc => ?_)
        · replace h := h.1 hc
          refine hf_iconst (v := 0) dX12_lies_14 (by decide) ?_
          refine hf_ireturn dX12_lies_15 rfl (by decide) ?_
          show hf_G X Y_X12_seen (d + 1) _ _ 17 [some (.ref 156), some (.int x1), some (.int x2), none] [.int 0] (t, T, I, L, P) _
          refine hf_if_ne (tgt := 26) dX12_seen_17 (by decide) (fun hc => absurd (show ¬ (0 : Int32) = (0 : Int32) from hc) (by decide)) (fun _ => ?_)
          refine hf_aload_n dX12_seen_20 rfl rfl ?_
          refine hf_iconst (v := (-1)) dX12_seen_21 (by decide) ?_
          refine hf_callV (c := 12) (as := [.int (-1)]) ok_X12_refuses dX12_seen_22 hw1146 hw1147 hw1601 (hs.2.1 156 _ rfl) (by decide) (hf_lin hs 156 rfl) rfl (Nat.le_of_ble_eq_true rfl) rfl (Nat.le_of_ble_eq_true rfl) (Nat.zero_le _) (Nat.zero_le _) ?_
          show hf_G X Y_X12_refuses d _ _ 0 [some (.ref 156), some (.int (-1))] [] (t, T, I, L, P) _
          refine hf_aload_n dX12_refuses_0 rfl rfl ?_
          refine hf_iload_n dX12_refuses_1 rfl rfl ?_
          refine hf_puti (c := 12) (j := 0) dX12_refuses_2 (hs.2.1 156 _ rfl) (hf_lin hs 156 rfl) (by decide) (by decide) hw1036 rfl rfl ?_
          refine hf_aload_n dX12_refuses_5 rfl rfl ?_
          refine hf_getr (b := 157) (c := 12) (j := 1) dX12_refuses_6 (hs.2.1 156 _ rfl) (hf_lin hs 156 rfl) (by decide) (by decide) hw1037 rfl (hs.2.2 156 1 _ rfl) ?_
          refine hf_iload_n dX12_refuses_9 rfl rfl ?_
          refine hf_ineg dX12_refuses_10 ?_
          rw [show (-(-1) : Int32) = 1 by decide]
          refine hf_dup2 dX12_refuses_11 rfl rfl ?_
          refine hf_iald_k (j := 1) (by decide) dX12_refuses_12 (hs.2.1 157 _ rfl) (hf_lin hs 157 rfl) (hf_vin (by decide)) ?_
          refine hf_iconst (v := 1) dX12_refuses_13 (by decide) ?_
          refine hf_iadd dX12_refuses_14 ?_
          refine hf_iast_k (j := 1) (by decide) dX12_refuses_15 (hs.2.1 157 _ rfl) (hf_lin hs 157 rfl) (hf_vin (by decide)) ?_
          refine hf_iload_n dX12_refuses_16 rfl rfl ?_
          refine hf_ireturn dX12_refuses_17 rfl rfl ?_
          show hf_G X Y_X12_seen (d + 1) _ _ 25 [some (.ref 156), some (.int x1), some (.int x2), none] [.int (-1)] (t, T, (hf_up (hf_up I 156 0 (-1)) 157 1 ((I 157 1) + 1)), L, P) _
          refine hf_ireturn dX12_seen_25 rfl rfl ?_
          exact h
        · replace h := h.2 hc
          refine hf_iconst (v := 1) dX12_lies_10 (by decide) ?_
          refine hf_goto (tgt := 15) dX12_lies_11 (by decide) ?_
          refine hf_ireturn dX12_lies_15 rfl (by decide) ?_
          show hf_G X Y_X12_seen (d + 1) _ _ 17 [some (.ref 156), some (.int x1), some (.int x2), none] [.int 1] (t, T, I, L, P) _
          refine hf_if_ne (tgt := 26) dX12_seen_17 (by decide) (fun _ => ?_) (fun hc => absurd (show (1 : Int32) = (0 : Int32) from hc) (by decide))
          refine hf_aload_n dX12_seen_26 rfl rfl ?_
          refine hf_getr (b := 158) (c := 12) (j := 2) dX12_seen_27 (hs.2.1 156 _ rfl) (hf_lin hs 156 rfl) (by decide) (by decide) hw1038 rfl (hs.2.2 156 2 _ rfl) ?_
          refine hf_sipush (v := 318) dX12_seen_30 (by decide) ?_
          refine hf_iald_k (j := 318) (by decide) dX12_seen_33 (hs.2.1 158 _ rfl) (hf_lin hs 158 rfl) (hf_vin (by decide)) ?_
          refine hf_istore_n (l2 := [some (.ref 156), some (.int x1), some (.int x2), some (.int (I 158 318))]) dX12_seen_34 rfl (by decide) rfl ?_
          refine hf_iload_n dX12_seen_35 rfl rfl ?_
          refine hf_iconst (v := 4) dX12_seen_36 (by decide) ?_
          refine hf_icmp_ne (tgt := 47) dX12_seen_37 (by decide) (fun hc => ?_) (fun hc => ?_)
          · replace h := h.1 hc
            refine hf_aload_n dX12_seen_47 rfl rfl ?_
            refine hf_getr (b := 158) (c := 12) (j := 2) dX12_seen_48 (hs.2.1 156 _ rfl) (hf_lin hs 156 rfl) (by decide) (by decide) hw1038 rfl (hs.2.2 156 2 _ rfl) ?_
            refine hf_sipush (v := 279) dX12_seen_51 (by decide) ?_
            refine hf_iconst (v := 2) dX12_seen_54 (by decide) ?_
            refine hf_iload_n dX12_seen_55 rfl rfl ?_
            refine hf_imul dX12_seen_56 ?_
            refine hf_iadd dX12_seen_57 ?_
            refine hf_iload_n dX12_seen_58 rfl rfl ?_
            refine hf_iast dX12_seen_59 (hs.2.1 158 _ rfl) (hf_lin hs 158 rfl) h.1 ?_
            replace h := h.2
            refine hf_aload_n dX12_seen_60 rfl rfl ?_
            refine hf_getr (b := 158) (c := 12) (j := 2) dX12_seen_61 (hs.2.1 156 _ rfl) (hf_lin hs 156 rfl) (by decide) (by decide) hw1038 rfl (hs.2.2 156 2 _ rfl) ?_
            refine hf_sipush (v := 279) dX12_seen_64 (by decide) ?_
            refine hf_iconst (v := 2) dX12_seen_67 (by decide) ?_
            refine hf_iload_n dX12_seen_68 rfl rfl ?_
            refine hf_imul dX12_seen_69 ?_
            refine hf_iadd dX12_seen_70 ?_
            refine hf_iconst (v := 1) dX12_seen_71 (by decide) ?_
            refine hf_iadd dX12_seen_72 ?_
            refine hf_iload_n dX12_seen_73 rfl rfl ?_
            refine hf_iast dX12_seen_74 (hs.2.1 158 _ rfl) (hf_lin hs 158 rfl) h.1 ?_
            replace h := h.2
            refine hf_aload_n dX12_seen_75 rfl rfl ?_
            refine hf_getr (b := 158) (c := 12) (j := 2) dX12_seen_76 (hs.2.1 156 _ rfl) (hf_lin hs 156 rfl) (by decide) (by decide) hw1038 rfl (hs.2.2 156 2 _ rfl) ?_
            refine hf_sipush (v := 318) dX12_seen_79 (by decide) ?_
            refine hf_dup2 dX12_seen_82 rfl rfl ?_
            refine hf_iald_k (j := 318) (by decide) dX12_seen_83 (hs.2.1 158 _ rfl) (hf_lin hs 158 rfl) (hf_vin (by decide)) ?_
            refine hf_iconst (v := 1) dX12_seen_84 (by decide) ?_
            refine hf_iadd dX12_seen_85 ?_
            refine hf_iast_k (j := 318) (by decide) dX12_seen_86 (hs.2.1 158 _ rfl) (hf_lin hs 158 rfl) (hf_vin (by decide)) ?_
            refine hf_aload_n dX12_seen_87 rfl rfl ?_
            refine hf_iload_n dX12_seen_88 rfl rfl ?_
            refine hf_iconst (v := 1) dX12_seen_89 (by decide) ?_
            refine hf_iadd dX12_seen_90 ?_
            refine hf_callV (c := 12) (as := [.int ((I 158 318) + 1)]) ok_X12_good dX12_seen_91 hw1149 hw1150 hw1602 (hs.2.1 156 _ rfl) (by decide) (hf_lin hs 156 rfl) rfl (Nat.le_of_ble_eq_true rfl) rfl (Nat.le_of_ble_eq_true rfl) (Nat.zero_le _) (Nat.zero_le _) ?_
            show hf_G X Y_X12_good d _ _ 0 [some (.ref 156), some (.int ((I 158 318) + 1))] [] (t, T, (hf_up (hf_up (hf_up I 158 (((279 + (2 * (I 158 318)))).toNatClampNeg) x1) 158 ((((279 + (2 * (I 158 318))) + 1)).toNatClampNeg) x2) 158 318 (((hf_up (hf_up I 158 (((279 + (2 * (I 158 318)))).toNatClampNeg) x1) 158 ((((279 + (2 * (I 158 318))) + 1)).toNatClampNeg) x2) 158 318) + 1)), L, P) _
            refine hf_aload_n dX12_good_0 rfl rfl ?_
            refine hf_iconst (v := 0) dX12_good_1 (by decide) ?_
            refine hf_puti (c := 12) (j := 0) dX12_good_2 (hs.2.1 156 _ rfl) (hf_lin hs 156 rfl) (by decide) (by decide) hw1036 rfl rfl ?_
            refine hf_iload_n dX12_good_5 rfl rfl ?_
            refine hf_ireturn dX12_good_6 rfl rfl ?_
            show hf_G X Y_X12_seen (d + 1) _ _ 94 [some (.ref 156), some (.int x1), some (.int x2), some (.int (I 158 318))] [.int ((I 158 318) + 1)] (t, T, (hf_up (hf_up (hf_up (hf_up I 158 (((279 + (2 * (I 158 318)))).toNatClampNeg) x1) 158 ((((279 + (2 * (I 158 318))) + 1)).toNatClampNeg) x2) 158 318 (((hf_up (hf_up I 158 (((279 + (2 * (I 158 318)))).toNatClampNeg) x1) 158 ((((279 + (2 * (I 158 318))) + 1)).toNatClampNeg) x2) 158 318) + 1)) 156 0 0), L, P) _
            refine hf_ireturn dX12_seen_94 rfl rfl ?_
            exact h
          · replace h := h.2 hc
            refine hf_aload_n dX12_seen_40 rfl rfl ?_
            refine hf_bipush (v := (-5)) dX12_seen_41 (by decide) ?_
            refine hf_callV (c := 12) (as := [.int (-5)]) ok_X12_refuses dX12_seen_43 hw1146 hw1147 hw1601 (hs.2.1 156 _ rfl) (by decide) (hf_lin hs 156 rfl) rfl (Nat.le_of_ble_eq_true rfl) rfl (Nat.le_of_ble_eq_true rfl) (Nat.zero_le _) (Nat.zero_le _) ?_
            show hf_G X Y_X12_refuses d _ _ 0 [some (.ref 156), some (.int (-5))] [] (t, T, I, L, P) _
            refine hf_aload_n dX12_refuses_0 rfl rfl ?_
            refine hf_iload_n dX12_refuses_1 rfl rfl ?_
            refine hf_puti (c := 12) (j := 0) dX12_refuses_2 (hs.2.1 156 _ rfl) (hf_lin hs 156 rfl) (by decide) (by decide) hw1036 rfl rfl ?_
            refine hf_aload_n dX12_refuses_5 rfl rfl ?_
            refine hf_getr (b := 157) (c := 12) (j := 1) dX12_refuses_6 (hs.2.1 156 _ rfl) (hf_lin hs 156 rfl) (by decide) (by decide) hw1037 rfl (hs.2.2 156 1 _ rfl) ?_
            refine hf_iload_n dX12_refuses_9 rfl rfl ?_
            refine hf_ineg dX12_refuses_10 ?_
            rw [show (-(-5) : Int32) = 5 by decide]
            refine hf_dup2 dX12_refuses_11 rfl rfl ?_
            refine hf_iald_k (j := 5) (by decide) dX12_refuses_12 (hs.2.1 157 _ rfl) (hf_lin hs 157 rfl) (hf_vin (by decide)) ?_
            refine hf_iconst (v := 1) dX12_refuses_13 (by decide) ?_
            refine hf_iadd dX12_refuses_14 ?_
            refine hf_iast_k (j := 5) (by decide) dX12_refuses_15 (hs.2.1 157 _ rfl) (hf_lin hs 157 rfl) (hf_vin (by decide)) ?_
            refine hf_iload_n dX12_refuses_16 rfl rfl ?_
            refine hf_ireturn dX12_refuses_17 rfl rfl ?_
            show hf_G X Y_X12_seen (d + 1) _ _ 46 [some (.ref 156), some (.int x1), some (.int x2), some (.int (I 158 318))] [.int (-5)] (t, T, (hf_up (hf_up I 156 0 (-5)) 157 5 ((I 157 5) + 1)), L, P) _
            refine hf_ireturn dX12_seen_46 rfl rfl ?_
            exact h

set_option maxHeartbeats 4000000 in
theorem w_X12_forget_0 {X : hf_X} {d k n t : Nat} {T : hf_T} {I : hf_I} {L : hf_L} {P : hf_P} {Q : Option Value → hf_M → Prop}  (hs : hf_Lay t T P) (h : Q (some (.int (I 158 318))) (t, T, (hf_up I 158 318 0), L, P)) : hf_G X Y_X12_forget d k n 0 (hf_en [.ref 156] 2) [] (t, T, I, L, P) Q := by
  show hf_G X Y_X12_forget d k n 0 [some (.ref 156), none] [] (t, T, I, L, P) Q
  refine hf_aload_n dX12_forget_0 rfl rfl ?_
  refine hf_getr (b := 158) (c := 12) (j := 2) dX12_forget_1 (hs.2.1 156 _ rfl) (hf_lin hs 156 rfl) (by decide) (by decide) hw1038 rfl (hs.2.2 156 2 _ rfl) ?_
  refine hf_sipush (v := 318) dX12_forget_4 (by decide) ?_
  refine hf_iald_k (j := 318) (by decide) dX12_forget_7 (hs.2.1 158 _ rfl) (hf_lin hs 158 rfl) (hf_vin (by decide)) ?_
  refine hf_istore_n (l2 := [some (.ref 156), some (.int (I 158 318))]) dX12_forget_8 rfl (by decide) rfl ?_
  refine hf_aload_n dX12_forget_9 rfl rfl ?_
  refine hf_getr (b := 158) (c := 12) (j := 2) dX12_forget_10 (hs.2.1 156 _ rfl) (hf_lin hs 156 rfl) (by decide) (by decide) hw1038 rfl (hs.2.2 156 2 _ rfl) ?_
  refine hf_sipush (v := 318) dX12_forget_13 (by decide) ?_
  refine hf_iconst (v := 0) dX12_forget_16 (by decide) ?_
  refine hf_iast_k (j := 318) (by decide) dX12_forget_17 (hs.2.1 158 _ rfl) (hf_lin hs 158 rfl) (hf_vin (by decide)) ?_
  refine hf_iload_n dX12_forget_18 rfl rfl ?_
  refine hf_ireturn dX12_forget_19 rfl rfl ?_
  exact h

set_option maxHeartbeats 4000000 in
theorem w_X12_changed_0 {X : hf_X} {d k n t : Nat} {T : hf_T} {I : hf_I} {L : hf_L} {P : hf_P} {Q : Option Value → hf_M → Prop} {x1 : Int32} (hs : hf_Lay t T P) (h : ((-1) ≤ x1 → hf_G X Y_X12_changed d k n 14 [some (.ref 156), some (.int x1), some (.int 0), some (.int (-1)), some (.int 0), none, none, none, none, none] [] (t, T, I, L, P) Q) ∧ (¬ ((-1) ≤ x1) → Q (some (.int (-1))) (t, T, I, L, P))) : hf_G X Y_X12_changed d k n 0 (hf_en [.ref 156, .int x1] 10) [] (t, T, I, L, P) Q := by
  show hf_G X Y_X12_changed d k n 0 [some (.ref 156), some (.int x1), none, none, none, none, none, none, none, none] [] (t, T, I, L, P) Q
  refine hf_iload_n dX12_changed_0 rfl rfl ?_
  refine hf_iconst (v := (-1)) dX12_changed_1 (by decide) ?_
  refine hf_icmp_ge (tgt := 7) dX12_changed_2 (by decide) (fun hc => ?_) (fun hc => ?_)
  · replace h := h.1 hc
    refine hf_iconst (v := 0) dX12_changed_7 (by decide) ?_
    refine hf_istore_n (l2 := [some (.ref 156), some (.int x1), some (.int 0), none, none, none, none, none, none, none]) dX12_changed_8 rfl (by decide) rfl ?_
    refine hf_iconst (v := (-1)) dX12_changed_9 (by decide) ?_
    refine hf_istore_n (l2 := [some (.ref 156), some (.int x1), some (.int 0), some (.int (-1)), none, none, none, none, none, none]) dX12_changed_10 rfl (by decide) rfl ?_
    refine hf_iconst (v := 0) dX12_changed_11 (by decide) ?_
    refine hf_istore (l2 := [some (.ref 156), some (.int x1), some (.int 0), some (.int (-1)), some (.int 0), none, none, none, none, none]) dX12_changed_12 (by decide) rfl ?_
    exact h
  · replace h := h.2 hc
    refine hf_iconst (v := (-1)) dX12_changed_5 (by decide) ?_
    refine hf_ireturn dX12_changed_6 rfl rfl ?_
    exact h

set_option maxHeartbeats 4000000 in
theorem w_X12_changed_14 {X : hf_X} {d k n t : Nat} {T : hf_T} {I : hf_I} {L : hf_L} {P : hf_P} {Q : Option Value → hf_M → Prop} {x1 : Int32} {x2 : Int32} {x3 : Int32} {x4 : Int32} (hs : hf_Lay t T P) (h : ((16 * (I 158 24)) ≤ x4 → (¬ x1 = (-1) → Q (some (.int x3)) (t, T, I, L, P)) ∧ (x1 = (-1) → Q (some (.int x2)) (t, T, I, L, P))) ∧ (¬ ((16 * (I 158 24)) ≤ x4) → (¬ x3 = (-1) → (¬ x1 = (-1) → Q (some (.int x3)) (t, T, I, L, P)) ∧ (x1 = (-1) → Q (some (.int x2)) (t, T, I, L, P))) ∧ (x3 = (-1) → vp_in (0 + (x4 / 16)) 5929 ∧ (((x4 - x4 / 16 * 16) < 0 → hf_G X Y_X12_changed (d + 2) k n 14 [some (.ref 156), some (.int x1), some (.int x2), some (.int x3), some (.int (x4 + 1)), none, none, none, none, none] [] (t, T, I, L, P) Q) ∧ (¬ ((x4 - x4 / 16 * 16) < 0) → (((I 158 316) - 1) < (x4 - x4 / 16 * 16) → hf_G X Y_X12_changed (d + 2) k n 14 [some (.ref 156), some (.int x1), some (.int x2), some (.int x3), some (.int (x4 + 1)), none, none, none, none, none] [] (t, T, I, L, P) Q) ∧ (¬ (((I 158 316) - 1) < (x4 - x4 / 16 * 16)) → ((x4 - x4 / 16 * 16) = (I 158 (((0 + (x4 / 16))).toNatClampNeg)) → hf_G X Y_X12_changed (d + 2) k n 14 [some (.ref 156), some (.int x1), some (.int x2), some (.int x3), some (.int (x4 + 1)), none, none, none, none, none] [] (t, T, I, L, P) Q) ∧ (¬ ((x4 - x4 / 16 * 16) = (I 158 (((0 + (x4 / 16))).toNatClampNeg))) → vp_in ((53 + (13 * (x4 - x4 / 16 * 16))) + 0) 5929 ∧ (vp_in ((53 + (13 * (I 158 (((0 + (x4 / 16))).toNatClampNeg)))) + 0) 5929 ∧ (((I 158 ((((53 + (13 * (x4 - x4 / 16 * 16))) + 0)).toNatClampNeg)) = (I 158 ((((53 + (13 * (I 158 (((0 + (x4 / 16))).toNatClampNeg)))) + 0)).toNatClampNeg)) → vp_in (0 + (x4 / 16)) 5929 ∧ (hf_G X Y_X12_changed (d + 2) k n 110 [some (.ref 156), some (.int x1), some (.int x2), some (.int x3), some (.int x4), some (.int (0 + (x4 / 16))), some (.int (I 158 (((0 + (x4 / 16))).toNatClampNeg))), none, some (.int 1), some (.int 0)] [] (t, T, (hf_up I 158 (((0 + (x4 / 16))).toNatClampNeg) (x4 - x4 / 16 * 16)), L, P) Q)) ∧ (¬ ((I 158 ((((53 + (13 * (x4 - x4 / 16 * 16))) + 0)).toNatClampNeg)) = (I 158 ((((53 + (13 * (I 158 (((0 + (x4 / 16))).toNatClampNeg)))) + 0)).toNatClampNeg))) → hf_G X Y_X12_changed (d + 2) k n 14 [some (.ref 156), some (.int x1), some (.int x2), some (.int x3), some (.int (x4 + 1)), none, none, none, none, none] [] (t, T, I, L, P) Q)))))))))) : hf_G X Y_X12_changed (d + 2) k n 14 [some (.ref 156), some (.int x1), some (.int x2), some (.int x3), some (.int x4), none, none, none, none, none] [] (t, T, I, L, P) Q := by
  refine hf_iload dX12_changed_14 rfl ?_
  refine hf_bipush (v := 16) dX12_changed_16 (by decide) ?_
  refine hf_aload_n dX12_changed_18 rfl rfl ?_
  refine hf_getr (b := 158) (c := 12) (j := 2) dX12_changed_19 (hs.2.1 156 _ rfl) (hf_lin hs 156 rfl) (by decide) (by decide) hw1038 rfl (hs.2.2 156 2 _ rfl) ?_
  refine hf_bipush (v := 24) dX12_changed_22 (by decide) ?_
  refine hf_iald_k (j := 24) (by decide) dX12_changed_24 (hs.2.1 158 _ rfl) (hf_lin hs 158 rfl) (hf_vin (by decide)) ?_
  refine hf_imul dX12_changed_25 ?_
  refine hf_icmp_ge (tgt := 210) dX12_changed_26 (by decide) (fun hc => ?_) (fun hc => ?_)
  · replace h := h.1 hc
    refine hf_iload_n dX12_changed_210 rfl rfl ?_
    refine hf_iconst (v := (-1)) dX12_changed_211 (by decide) ?_
    refine hf_icmp_ne (tgt := 219) dX12_changed_212 (by decide) (fun hc => ?_) (fun hc => ?_)
    · replace h := h.1 hc
      refine hf_iload_n dX12_changed_219 rfl rfl ?_
      refine hf_ireturn dX12_changed_220 rfl rfl ?_
      exact h
    · replace h := h.2 hc
      refine hf_iload_n dX12_changed_215 rfl rfl ?_
      refine hf_goto (tgt := 220) dX12_changed_216 (by decide) ?_
      refine hf_ireturn dX12_changed_220 rfl rfl ?_
      exact h
  · replace h := h.2 hc
    refine hf_iload_n dX12_changed_29 rfl rfl ?_
    refine hf_iconst (v := (-1)) dX12_changed_30 (by decide) ?_
    refine hf_icmp_ne (tgt := 210) dX12_changed_31 (by decide) (fun hc => ?_) (fun hc => ?_)
    · replace h := h.1 hc
      refine hf_iload_n dX12_changed_210 rfl rfl ?_
      refine hf_iconst (v := (-1)) dX12_changed_211 (by decide) ?_
      refine hf_icmp_ne (tgt := 219) dX12_changed_212 (by decide) (fun hc => ?_) (fun hc => ?_)
      · replace h := h.1 hc
        refine hf_iload_n dX12_changed_219 rfl rfl ?_
        refine hf_ireturn dX12_changed_220 rfl rfl ?_
        exact h
      · replace h := h.2 hc
        refine hf_iload_n dX12_changed_215 rfl rfl ?_
        refine hf_goto (tgt := 220) dX12_changed_216 (by decide) ?_
        refine hf_ireturn dX12_changed_220 rfl rfl ?_
        exact h
    · replace h := h.2 hc
      refine hf_iconst (v := 0) dX12_changed_34 (by decide) ?_
      refine hf_iload dX12_changed_35 rfl ?_
      refine hf_bipush (v := 16) dX12_changed_37 (by decide) ?_
      refine hf_idiv dX12_changed_39 (by decide) ?_
      refine hf_iadd dX12_changed_40 ?_
      refine hf_istore (l2 := [some (.ref 156), some (.int x1), some (.int x2), some (.int x3), some (.int x4), some (.int (0 + (x4 / 16))), none, none, none, none]) dX12_changed_41 (by decide) rfl ?_
      refine hf_aload_n dX12_changed_43 rfl rfl ?_
      refine hf_getr (b := 158) (c := 12) (j := 2) dX12_changed_44 (hs.2.1 156 _ rfl) (hf_lin hs 156 rfl) (by decide) (by decide) hw1038 rfl (hs.2.2 156 2 _ rfl) ?_
      refine hf_iload dX12_changed_47 rfl ?_
      refine hf_iald dX12_changed_49 (hs.2.1 158 _ rfl) (hf_lin hs 158 rfl) h.1 ?_
      replace h := h.2
      refine hf_istore (l2 := [some (.ref 156), some (.int x1), some (.int x2), some (.int x3), some (.int x4), some (.int (0 + (x4 / 16))), some (.int (I 158 (((0 + (x4 / 16))).toNatClampNeg))), none, none, none]) dX12_changed_50 (by decide) rfl ?_
      refine hf_iload dX12_changed_52 rfl ?_
      refine hf_bipush (v := 16) dX12_changed_54 (by decide) ?_
      refine hf_irem dX12_changed_56 (by decide) ?_
      refine hf_istore (l2 := [some (.ref 156), some (.int x1), some (.int x2), some (.int x3), some (.int x4), some (.int (0 + (x4 / 16))), some (.int (I 158 (((0 + (x4 / 16))).toNatClampNeg))), some (.int (x4 - x4 / 16 * 16)), none, none]) dX12_changed_57 (by decide) rfl ?_
      refine hf_aload_n dX12_changed_59 rfl rfl ?_
      refine hf_iload dX12_changed_60 rfl ?_
      refine hf_callV (c := 12) (as := [.int (x4 - x4 / 16 * 16)]) ok_X12_isWord dX12_changed_62 hw1196 hw1197 hw1607 (hs.2.1 156 _ rfl) (by decide) (hf_lin hs 156 rfl) rfl (Nat.le_of_ble_eq_true rfl) rfl (Nat.le_of_ble_eq_true rfl) (Nat.zero_le _) (Nat.zero_le _) ?_
      show hf_G X Y_X12_isWord (d + 1) _ _ 0 [some (.ref 156), some (.int (x4 - x4 / 16 * 16))] [] (t, T, I, L, P) _
      refine hf_iload_n dX12_isWord_0 rfl rfl ?_
      refine hf_iconst (v := 0) dX12_isWord_1 (by decide) ?_
      refine hf_aload_n dX12_isWord_2 rfl rfl ?_
      refine hf_getr (b := 158) (c := 12) (j := 2) dX12_isWord_3 (hs.2.1 156 _ rfl) (hf_lin hs 156 rfl) (by decide) (by decide) hw1038 rfl (hs.2.2 156 2 _ rfl) ?_
      refine hf_sipush (v := 316) dX12_isWord_6 (by decide) ?_
      refine hf_iald_k (j := 316) (by decide) dX12_isWord_9 (hs.2.1 158 _ rfl) (hf_lin hs 158 rfl) (hf_vin (by decide)) ?_
      refine hf_iconst (v := 1) dX12_isWord_10 (by decide) ?_
      refine hf_isub dX12_isWord_11 ?_
      refine hf_callS (as := [.int (x4 - x4 / 16 * 16), .int 0, .int ((I 158 316) - 1)]) ok_X12_lies dX12_isWord_12 hw1143 hw1144 rfl (Nat.le_of_ble_eq_true rfl) rfl (Nat.le_of_ble_eq_true rfl) (Nat.zero_le _) (Nat.zero_le _) ?_
      show hf_G X Y_X12_lies d _ _ 0 [some (.int (x4 - x4 / 16 * 16)), some (.int 0), some (.int ((I 158 316) - 1))] [] (t, T, I, L, P) _
      refine hf_iload_n dX12_lies_0 rfl rfl ?_
      refine hf_iload_n dX12_lies_1 rfl rfl ?_
      refine hf_icmp_lt (tgt := 14) dX12_lies_2 (by decide) (fun hc => ?_) (fun hc => ?_)
      · replace h := h.1 hc
        refine hf_iconst (v := 0) dX12_lies_14 (by decide) ?_
        refine hf_ireturn dX12_lies_15 rfl (by decide) ?_
        show hf_G X Y_X12_isWord (d + 1) _ _ 15 [some (.ref 156), some (.int (x4 - x4 / 16 * 16))] [.int 0] (t, T, I, L, P) _
        refine hf_ireturn dX12_isWord_15 rfl (by decide) ?_
        show hf_G X Y_X12_changed (d + 2) _ _ 65 [some (.ref 156), some (.int x1), some (.int x2), some (.int x3), some (.int x4), some (.int (0 + (x4 / 16))), some (.int (I 158 (((0 + (x4 / 16))).toNatClampNeg))), some (.int (x4 - x4 / 16 * 16)), none, none] [.int 0] (t, T, I, L, P) _
        refine hf_if_eq (tgt := 204) dX12_changed_65 (by decide) (fun _ => ?_) (fun hc => absurd (show (0 : Int32) = (0 : Int32) by decide) hc)
        refine hf_iinc (v := (x4 + 1)) (l2 := [some (.ref 156), some (.int x1), some (.int x2), some (.int x3), some (.int (x4 + 1)), some (.int (0 + (x4 / 16))), some (.int (I 158 (((0 + (x4 / 16))).toNatClampNeg))), some (.int (x4 - x4 / 16 * 16)), none, none]) dX12_changed_204 (by decide) rfl rfl rfl ?_
        refine hf_goto (tgt := 14) dX12_changed_207 (by decide) ?_
        refine hf_drop (l' := [some (.ref 156), some (.int x1), some (.int x2), some (.int x3), some (.int (x4 + 1)), none, none, none, none, none]) (by simp [hf_sub]) ?_
        exact h
      · replace h := h.2 hc
        refine hf_iload_n dX12_lies_5 rfl rfl ?_
        refine hf_iload_n dX12_lies_6 rfl rfl ?_
        refine hf_icmp_gt (tgt := 14) dX12_lies_7 (by decide) (fun hc => ?_) (fun hc => ?_)
        · replace h := h.1 hc
          refine hf_iconst (v := 0) dX12_lies_14 (by decide) ?_
          refine hf_ireturn dX12_lies_15 rfl (by decide) ?_
          show hf_G X Y_X12_isWord (d + 1) _ _ 15 [some (.ref 156), some (.int (x4 - x4 / 16 * 16))] [.int 0] (t, T, I, L, P) _
          refine hf_ireturn dX12_isWord_15 rfl (by decide) ?_
          show hf_G X Y_X12_changed (d + 2) _ _ 65 [some (.ref 156), some (.int x1), some (.int x2), some (.int x3), some (.int x4), some (.int (0 + (x4 / 16))), some (.int (I 158 (((0 + (x4 / 16))).toNatClampNeg))), some (.int (x4 - x4 / 16 * 16)), none, none] [.int 0] (t, T, I, L, P) _
          refine hf_if_eq (tgt := 204) dX12_changed_65 (by decide) (fun _ => ?_) (fun hc => absurd (show (0 : Int32) = (0 : Int32) by decide) hc)
          refine hf_iinc (v := (x4 + 1)) (l2 := [some (.ref 156), some (.int x1), some (.int x2), some (.int x3), some (.int (x4 + 1)), some (.int (0 + (x4 / 16))), some (.int (I 158 (((0 + (x4 / 16))).toNatClampNeg))), some (.int (x4 - x4 / 16 * 16)), none, none]) dX12_changed_204 (by decide) rfl rfl rfl ?_
          refine hf_goto (tgt := 14) dX12_changed_207 (by decide) ?_
          refine hf_drop (l' := [some (.ref 156), some (.int x1), some (.int x2), some (.int x3), some (.int (x4 + 1)), none, none, none, none, none]) (by simp [hf_sub]) ?_
          exact h
        · replace h := h.2 hc
          refine hf_iconst (v := 1) dX12_lies_10 (by decide) ?_
          refine hf_goto (tgt := 15) dX12_lies_11 (by decide) ?_
          refine hf_ireturn dX12_lies_15 rfl (by decide) ?_
          show hf_G X Y_X12_isWord (d + 1) _ _ 15 [some (.ref 156), some (.int (x4 - x4 / 16 * 16))] [.int 1] (t, T, I, L, P) _
          refine hf_ireturn dX12_isWord_15 rfl (by decide) ?_
          show hf_G X Y_X12_changed (d + 2) _ _ 65 [some (.ref 156), some (.int x1), some (.int x2), some (.int x3), some (.int x4), some (.int (0 + (x4 / 16))), some (.int (I 158 (((0 + (x4 / 16))).toNatClampNeg))), some (.int (x4 - x4 / 16 * 16)), none, none] [.int 1] (t, T, I, L, P) _
          refine hf_if_eq (tgt := 204) dX12_changed_65 (by decide) (fun hc => absurd (show (1 : Int32) = (0 : Int32) from hc) (by decide)) (fun _ => ?_)
          refine hf_iload dX12_changed_68 rfl ?_
          refine hf_iload dX12_changed_70 rfl ?_
          refine hf_icmp_eq (tgt := 204) dX12_changed_72 (by decide) (fun hc => ?_) (fun hc => ?_)
          · replace h := h.1 hc
            refine hf_iinc (v := (x4 + 1)) (l2 := [some (.ref 156), some (.int x1), some (.int x2), some (.int x3), some (.int (x4 + 1)), some (.int (0 + (x4 / 16))), some (.int (I 158 (((0 + (x4 / 16))).toNatClampNeg))), some (.int (x4 - x4 / 16 * 16)), none, none]) dX12_changed_204 (by decide) rfl rfl rfl ?_
            refine hf_goto (tgt := 14) dX12_changed_207 (by decide) ?_
            refine hf_drop (l' := [some (.ref 156), some (.int x1), some (.int x2), some (.int x3), some (.int (x4 + 1)), none, none, none, none, none]) (by simp [hf_sub]) ?_
            exact h
          · replace h := h.2 hc
            refine hf_aload_n dX12_changed_75 rfl rfl ?_
            refine hf_iload dX12_changed_76 rfl ?_
            refine hf_iconst (v := 0) dX12_changed_78 (by decide) ?_
            refine hf_callV (c := 12) (as := [.int (x4 - x4 / 16 * 16), .int 0]) ok_X12_fact dX12_changed_79 hw1189 hw1190 hw1606 (hs.2.1 156 _ rfl) (by decide) (hf_lin hs 156 rfl) rfl (Nat.le_of_ble_eq_true rfl) rfl (Nat.le_of_ble_eq_true rfl) (Nat.zero_le _) (Nat.zero_le _) ?_
            show hf_G X Y_X12_fact (d + 1) _ _ 0 [some (.ref 156), some (.int (x4 - x4 / 16 * 16)), some (.int 0)] [] (t, T, I, L, P) _
            refine hf_aload_n dX12_fact_0 rfl rfl ?_
            refine hf_getr (b := 158) (c := 12) (j := 2) dX12_fact_1 (hs.2.1 156 _ rfl) (hf_lin hs 156 rfl) (by decide) (by decide) hw1038 rfl (hs.2.2 156 2 _ rfl) ?_
            refine hf_bipush (v := 53) dX12_fact_4 (by decide) ?_
            refine hf_bipush (v := 13) dX12_fact_6 (by decide) ?_
            refine hf_iload_n dX12_fact_8 rfl rfl ?_
            refine hf_imul dX12_fact_9 ?_
            refine hf_iadd dX12_fact_10 ?_
            refine hf_iload_n dX12_fact_11 rfl rfl ?_
            refine hf_iadd dX12_fact_12 ?_
            refine hf_iald dX12_fact_13 (hs.2.1 158 _ rfl) (hf_lin hs 158 rfl) h.1 ?_
            replace h := h.2
            refine hf_ireturn dX12_fact_14 rfl rfl ?_
            show hf_G X Y_X12_changed (d + 2) _ _ 82 [some (.ref 156), some (.int x1), some (.int x2), some (.int x3), some (.int x4), some (.int (0 + (x4 / 16))), some (.int (I 158 (((0 + (x4 / 16))).toNatClampNeg))), some (.int (x4 - x4 / 16 * 16)), none, none] [.int (I 158 ((((53 + (13 * (x4 - x4 / 16 * 16))) + 0)).toNatClampNeg))] (t, T, I, L, P) _
            refine hf_aload_n dX12_changed_82 rfl rfl ?_
            refine hf_iload dX12_changed_83 rfl ?_
            refine hf_iconst (v := 0) dX12_changed_85 (by decide) ?_
            refine hf_callV (c := 12) (as := [.int (I 158 (((0 + (x4 / 16))).toNatClampNeg)), .int 0]) ok_X12_fact dX12_changed_86 hw1189 hw1190 hw1606 (hs.2.1 156 _ rfl) (by decide) (hf_lin hs 156 rfl) rfl (Nat.le_of_ble_eq_true rfl) rfl (Nat.le_of_ble_eq_true rfl) (Nat.zero_le _) (Nat.zero_le _) ?_
            show hf_G X Y_X12_fact (d + 1) _ _ 0 [some (.ref 156), some (.int (I 158 (((0 + (x4 / 16))).toNatClampNeg))), some (.int 0)] [] (t, T, I, L, P) _
            refine hf_aload_n dX12_fact_0 rfl rfl ?_
            refine hf_getr (b := 158) (c := 12) (j := 2) dX12_fact_1 (hs.2.1 156 _ rfl) (hf_lin hs 156 rfl) (by decide) (by decide) hw1038 rfl (hs.2.2 156 2 _ rfl) ?_
            refine hf_bipush (v := 53) dX12_fact_4 (by decide) ?_
            refine hf_bipush (v := 13) dX12_fact_6 (by decide) ?_
            refine hf_iload_n dX12_fact_8 rfl rfl ?_
            refine hf_imul dX12_fact_9 ?_
            refine hf_iadd dX12_fact_10 ?_
            refine hf_iload_n dX12_fact_11 rfl rfl ?_
            refine hf_iadd dX12_fact_12 ?_
            refine hf_iald dX12_fact_13 (hs.2.1 158 _ rfl) (hf_lin hs 158 rfl) h.1 ?_
            replace h := h.2
            refine hf_ireturn dX12_fact_14 rfl rfl ?_
            show hf_G X Y_X12_changed (d + 2) _ _ 89 [some (.ref 156), some (.int x1), some (.int x2), some (.int x3), some (.int x4), some (.int (0 + (x4 / 16))), some (.int (I 158 (((0 + (x4 / 16))).toNatClampNeg))), some (.int (x4 - x4 / 16 * 16)), none, none] [.int (I 158 ((((53 + (13 * (I 158 (((0 + (x4 / 16))).toNatClampNeg)))) + 0)).toNatClampNeg)), .int (I 158 ((((53 + (13 * (x4 - x4 / 16 * 16))) + 0)).toNatClampNeg))] (t, T, I, L, P) _
            refine hf_icmp_eq (tgt := 95) dX12_changed_89 (by decide) (fun hc => ?_) (fun hc => ?_)
            · replace h := h.1 hc
              refine hf_aload_n dX12_changed_95 rfl rfl ?_
              refine hf_getr (b := 158) (c := 12) (j := 2) dX12_changed_96 (hs.2.1 156 _ rfl) (hf_lin hs 156 rfl) (by decide) (by decide) hw1038 rfl (hs.2.2 156 2 _ rfl) ?_
              refine hf_iload dX12_changed_99 rfl ?_
              refine hf_iload dX12_changed_101 rfl ?_
              refine hf_iast dX12_changed_103 (hs.2.1 158 _ rfl) (hf_lin hs 158 rfl) h.1 ?_
              replace h := h.2
              refine hf_iconst (v := 1) dX12_changed_104 (by decide) ?_
              refine hf_istore (l2 := [some (.ref 156), some (.int x1), some (.int x2), some (.int x3), some (.int x4), some (.int (0 + (x4 / 16))), some (.int (I 158 (((0 + (x4 / 16))).toNatClampNeg))), some (.int (x4 - x4 / 16 * 16)), some (.int 1), none]) dX12_changed_105 (by decide) rfl ?_
              refine hf_iconst (v := 0) dX12_changed_107 (by decide) ?_
              refine hf_istore (l2 := [some (.ref 156), some (.int x1), some (.int x2), some (.int x3), some (.int x4), some (.int (0 + (x4 / 16))), some (.int (I 158 (((0 + (x4 / 16))).toNatClampNeg))), some (.int (x4 - x4 / 16 * 16)), some (.int 1), some (.int 0)]) dX12_changed_108 (by decide) rfl ?_
              refine hf_drop (l' := [some (.ref 156), some (.int x1), some (.int x2), some (.int x3), some (.int x4), some (.int (0 + (x4 / 16))), some (.int (I 158 (((0 + (x4 / 16))).toNatClampNeg))), none, some (.int 1), some (.int 0)]) (by simp [hf_sub]) ?_
              exact h
            · replace h := h.2 hc
              refine hf_goto (tgt := 204) dX12_changed_92 (by decide) ?_
              refine hf_iinc (v := (x4 + 1)) (l2 := [some (.ref 156), some (.int x1), some (.int x2), some (.int x3), some (.int (x4 + 1)), some (.int (0 + (x4 / 16))), some (.int (I 158 (((0 + (x4 / 16))).toNatClampNeg))), some (.int (x4 - x4 / 16 * 16)), none, none]) dX12_changed_204 (by decide) rfl rfl rfl ?_
              refine hf_goto (tgt := 14) dX12_changed_207 (by decide) ?_
              refine hf_drop (l' := [some (.ref 156), some (.int x1), some (.int x2), some (.int x3), some (.int (x4 + 1)), none, none, none, none, none]) (by simp [hf_sub]) ?_
              exact h

set_option maxHeartbeats 4000000 in
theorem w_X12_changed_110 {X : hf_X} {d k n t : Nat} {T : hf_T} {I : hf_I} {L : hf_L} {P : hf_P} {Q : Option Value → hf_M → Prop} {x1 : Int32} {x2 : Int32} {x3 : Int32} {x4 : Int32} {x5 : Int32} {x6 : Int32} {x8 : Int32} {x9 : Int32} (hs : hf_Lay t T P) (h : ((I 158 318) ≤ x9 → vp_in x5 5929 ∧ ((¬ x8 = 0 → (¬ x2 = x1 → hf_G X Y_X12_changed (d + 1) k n 14 [some (.ref 156), some (.int x1), some (.int (x2 + 1)), some (.int x3), some (.int (x4 + 1)), none, none, none, none, none] [] (t, T, (hf_up I 158 x5.toNatClampNeg x6), L, P) Q) ∧ (x2 = x1 → hf_G X Y_X12_changed (d + 1) k n 14 [some (.ref 156), some (.int x1), some (.int (x2 + 1)), some (.int x4), some (.int (x4 + 1)), none, none, none, none, none] [] (t, T, (hf_up I 158 x5.toNatClampNeg x6), L, P) Q)) ∧ (x8 = 0 → hf_G X Y_X12_changed (d + 1) k n 14 [some (.ref 156), some (.int x1), some (.int x2), some (.int x3), some (.int (x4 + 1)), none, none, none, none, none] [] (t, T, (hf_up I 158 x5.toNatClampNeg x6), L, P) Q))) ∧ (¬ ((I 158 318) ≤ x9) → (x8 = 0 → hf_G X Y_X12_changed (d + 1) k n 110 [some (.ref 156), some (.int x1), some (.int x2), some (.int x3), some (.int x4), some (.int x5), some (.int x6), none, some (.int 0), some (.int (x9 + 1))] [] (t, T, I, L, P) Q) ∧ (¬ (x8 = 0) → vp_in (279 + (2 * x9)) 5929 ∧ (hf_G X Y_X12_broadIn d 0 0 0 (hf_en [.ref 156, .int (I 158 (((279 + (2 * x9))).toNatClampNeg))] 5) [] (t, T, I, L, P) (fun r M => hf_G X Y_X12_changed (d + 1) k n 145 [some (.ref 156), some (.int x1), some (.int x2), some (.int x3), some (.int x4), some (.int x5), some (.int x6), none, none, some (.int x9)] (r.toList ++ []) M Q))))) : hf_G X Y_X12_changed (d + 1) k n 110 [some (.ref 156), some (.int x1), some (.int x2), some (.int x3), some (.int x4), some (.int x5), some (.int x6), none, some (.int x8), some (.int x9)] [] (t, T, I, L, P) Q := by
  refine hf_iload dX12_changed_110 rfl ?_
  refine hf_aload_n dX12_changed_112 rfl rfl ?_
  refine hf_getr (b := 158) (c := 12) (j := 2) dX12_changed_113 (hs.2.1 156 _ rfl) (hf_lin hs 156 rfl) (by decide) (by decide) hw1038 rfl (hs.2.2 156 2 _ rfl) ?_
  refine hf_sipush (v := 318) dX12_changed_116 (by decide) ?_
  refine hf_iald_k (j := 318) (by decide) dX12_changed_119 (hs.2.1 158 _ rfl) (hf_lin hs 158 rfl) (hf_vin (by decide)) ?_
  refine hf_icmp_ge (tgt := 176) dX12_changed_120 (by decide) (fun hc => ?_) (fun hc => ?_)
  · replace h := h.1 hc
    refine hf_aload_n dX12_changed_176 rfl rfl ?_
    refine hf_getr (b := 158) (c := 12) (j := 2) dX12_changed_177 (hs.2.1 156 _ rfl) (hf_lin hs 156 rfl) (by decide) (by decide) hw1038 rfl (hs.2.2 156 2 _ rfl) ?_
    refine hf_iload dX12_changed_180 rfl ?_
    refine hf_iload dX12_changed_182 rfl ?_
    refine hf_iast dX12_changed_184 (hs.2.1 158 _ rfl) (hf_lin hs 158 rfl) h.1 ?_
    replace h := h.2
    refine hf_iload dX12_changed_185 rfl ?_
    refine hf_if_ne (tgt := 193) dX12_changed_187 (by decide) (fun hc => ?_) (fun hc => ?_)
    · replace h := h.1 hc
      refine hf_iload_n dX12_changed_193 rfl rfl ?_
      refine hf_iload_n dX12_changed_194 rfl rfl ?_
      refine hf_icmp_ne (tgt := 201) dX12_changed_195 (by decide) (fun hc => ?_) (fun hc => ?_)
      · replace h := h.1 hc
        refine hf_iinc (v := (x2 + 1)) (l2 := [some (.ref 156), some (.int x1), some (.int (x2 + 1)), some (.int x3), some (.int x4), some (.int x5), some (.int x6), none, some (.int x8), some (.int x9)]) dX12_changed_201 (by decide) rfl rfl rfl ?_
        refine hf_iinc (v := (x4 + 1)) (l2 := [some (.ref 156), some (.int x1), some (.int (x2 + 1)), some (.int x3), some (.int (x4 + 1)), some (.int x5), some (.int x6), none, some (.int x8), some (.int x9)]) dX12_changed_204 (by decide) rfl rfl rfl ?_
        refine hf_goto (tgt := 14) dX12_changed_207 (by decide) ?_
        refine hf_drop (l' := [some (.ref 156), some (.int x1), some (.int (x2 + 1)), some (.int x3), some (.int (x4 + 1)), none, none, none, none, none]) (by simp [hf_sub]) ?_
        exact h
      · replace h := h.2 hc
        refine hf_iload dX12_changed_198 rfl ?_
        refine hf_istore_n (l2 := [some (.ref 156), some (.int x1), some (.int x2), some (.int x4), some (.int x4), some (.int x5), some (.int x6), none, some (.int x8), some (.int x9)]) dX12_changed_200 rfl (by decide) rfl ?_
        refine hf_iinc (v := (x2 + 1)) (l2 := [some (.ref 156), some (.int x1), some (.int (x2 + 1)), some (.int x4), some (.int x4), some (.int x5), some (.int x6), none, some (.int x8), some (.int x9)]) dX12_changed_201 (by decide) rfl rfl rfl ?_
        refine hf_iinc (v := (x4 + 1)) (l2 := [some (.ref 156), some (.int x1), some (.int (x2 + 1)), some (.int x4), some (.int (x4 + 1)), some (.int x5), some (.int x6), none, some (.int x8), some (.int x9)]) dX12_changed_204 (by decide) rfl rfl rfl ?_
        refine hf_goto (tgt := 14) dX12_changed_207 (by decide) ?_
        refine hf_drop (l' := [some (.ref 156), some (.int x1), some (.int (x2 + 1)), some (.int x4), some (.int (x4 + 1)), none, none, none, none, none]) (by simp [hf_sub]) ?_
        exact h
    · replace h := h.2 hc
      refine hf_goto (tgt := 204) dX12_changed_190 (by decide) ?_
      refine hf_iinc (v := (x4 + 1)) (l2 := [some (.ref 156), some (.int x1), some (.int x2), some (.int x3), some (.int (x4 + 1)), some (.int x5), some (.int x6), none, some (.int x8), some (.int x9)]) dX12_changed_204 (by decide) rfl rfl rfl ?_
      refine hf_goto (tgt := 14) dX12_changed_207 (by decide) ?_
      refine hf_drop (l' := [some (.ref 156), some (.int x1), some (.int x2), some (.int x3), some (.int (x4 + 1)), none, none, none, none, none]) (by simp [hf_sub]) ?_
      exact h
  · replace h := h.2 hc
    refine hf_iload dX12_changed_123 rfl ?_
    refine hf_if_eq (tgt := 167) dX12_changed_125 (by decide) (fun hc => ?_) (fun hc => ?_)
    · replace h := h.1 hc
      refine hf_iconst (v := 0) dX12_changed_167 (by decide) ?_
      refine hf_istore (l2 := [some (.ref 156), some (.int x1), some (.int x2), some (.int x3), some (.int x4), some (.int x5), some (.int x6), none, some (.int 0), some (.int x9)]) dX12_changed_168 (by decide) rfl ?_
      refine hf_iinc (v := (x9 + 1)) (l2 := [some (.ref 156), some (.int x1), some (.int x2), some (.int x3), some (.int x4), some (.int x5), some (.int x6), none, some (.int 0), some (.int (x9 + 1))]) dX12_changed_170 (by decide) rfl rfl rfl ?_
      refine hf_goto (tgt := 110) dX12_changed_173 (by decide) ?_
      exact h
    · replace h := h.2 hc
      refine hf_aload_n dX12_changed_128 rfl rfl ?_
      refine hf_aload_n dX12_changed_129 rfl rfl ?_
      refine hf_getr (b := 158) (c := 12) (j := 2) dX12_changed_130 (hs.2.1 156 _ rfl) (hf_lin hs 156 rfl) (by decide) (by decide) hw1038 rfl (hs.2.2 156 2 _ rfl) ?_
      refine hf_sipush (v := 279) dX12_changed_133 (by decide) ?_
      refine hf_iconst (v := 2) dX12_changed_136 (by decide) ?_
      refine hf_iload dX12_changed_137 rfl ?_
      refine hf_imul dX12_changed_139 ?_
      refine hf_iadd dX12_changed_140 ?_
      refine hf_iald dX12_changed_141 (hs.2.1 158 _ rfl) (hf_lin hs 158 rfl) h.1 ?_
      replace h := h.2
      exact hf_callV (c := 12) (as := [.int (I 158 (((279 + (2 * x9))).toNatClampNeg))]) ok_X12_broadIn dX12_changed_142 hw1235 hw1236 hw1619 (hs.2.1 156 _ rfl) (by decide) (hf_lin hs 156 rfl) rfl (Nat.le_of_ble_eq_true rfl) rfl (Nat.le_of_ble_eq_true rfl) (Nat.zero_le _) (Nat.zero_le _) (hf_mono (fun r M q => hf_drop (l' := [some (.ref 156), some (.int x1), some (.int x2), some (.int x3), some (.int x4), some (.int x5), some (.int x6), none, none, some (.int x9)]) (by simp [hf_sub]) q) h)

set_option maxHeartbeats 4000000 in
theorem w_X12_changed_145 {X : hf_X} {d k n t : Nat} {T : hf_T} {I : hf_I} {L : hf_L} {P : hf_P} {Q : Option Value → hf_M → Prop} {x1 : Int32} {x2 : Int32} {x3 : Int32} {x4 : Int32} {x5 : Int32} {x6 : Int32} {x9 : Int32} {s0 : Int32} (hs : hf_Lay t T P) (h : vp_in ((279 + (2 * x9)) + 1) 5929 ∧ ((¬ s0 = (I 158 ((((279 + (2 * x9)) + 1)).toNatClampNeg)) → hf_G X Y_X12_changed d k n 110 [some (.ref 156), some (.int x1), some (.int x2), some (.int x3), some (.int x4), some (.int x5), some (.int x6), none, some (.int 0), some (.int (x9 + 1))] [] (t, T, I, L, P) Q) ∧ (s0 = (I 158 ((((279 + (2 * x9)) + 1)).toNatClampNeg)) → hf_G X Y_X12_changed d k n 110 [some (.ref 156), some (.int x1), some (.int x2), some (.int x3), some (.int x4), some (.int x5), some (.int x6), none, some (.int 1), some (.int (x9 + 1))] [] (t, T, I, L, P) Q))) : hf_G X Y_X12_changed d k n 145 [some (.ref 156), some (.int x1), some (.int x2), some (.int x3), some (.int x4), some (.int x5), some (.int x6), none, none, some (.int x9)] [.int s0] (t, T, I, L, P) Q := by
  refine hf_aload_n dX12_changed_145 rfl rfl ?_
  refine hf_getr (b := 158) (c := 12) (j := 2) dX12_changed_146 (hs.2.1 156 _ rfl) (hf_lin hs 156 rfl) (by decide) (by decide) hw1038 rfl (hs.2.2 156 2 _ rfl) ?_
  refine hf_sipush (v := 279) dX12_changed_149 (by decide) ?_
  refine hf_iconst (v := 2) dX12_changed_152 (by decide) ?_
  refine hf_iload dX12_changed_153 rfl ?_
  refine hf_imul dX12_changed_155 ?_
  refine hf_iadd dX12_changed_156 ?_
  refine hf_iconst (v := 1) dX12_changed_157 (by decide) ?_
  refine hf_iadd dX12_changed_158 ?_
  refine hf_iald dX12_changed_159 (hs.2.1 158 _ rfl) (hf_lin hs 158 rfl) h.1 ?_
  replace h := h.2
  refine hf_icmp_ne (tgt := 167) dX12_changed_160 (by decide) (fun hc => ?_) (fun hc => ?_)
  · replace h := h.1 hc
    refine hf_iconst (v := 0) dX12_changed_167 (by decide) ?_
    refine hf_istore (l2 := [some (.ref 156), some (.int x1), some (.int x2), some (.int x3), some (.int x4), some (.int x5), some (.int x6), none, some (.int 0), some (.int x9)]) dX12_changed_168 (by decide) rfl ?_
    refine hf_iinc (v := (x9 + 1)) (l2 := [some (.ref 156), some (.int x1), some (.int x2), some (.int x3), some (.int x4), some (.int x5), some (.int x6), none, some (.int 0), some (.int (x9 + 1))]) dX12_changed_170 (by decide) rfl rfl rfl ?_
    refine hf_goto (tgt := 110) dX12_changed_173 (by decide) ?_
    exact h
  · replace h := h.2 hc
    refine hf_iconst (v := 1) dX12_changed_163 (by decide) ?_
    refine hf_goto (tgt := 168) dX12_changed_164 (by decide) ?_
    refine hf_istore (l2 := [some (.ref 156), some (.int x1), some (.int x2), some (.int x3), some (.int x4), some (.int x5), some (.int x6), none, some (.int 1), some (.int x9)]) dX12_changed_168 (by decide) rfl ?_
    refine hf_iinc (v := (x9 + 1)) (l2 := [some (.ref 156), some (.int x1), some (.int x2), some (.int x3), some (.int x4), some (.int x5), some (.int x6), none, some (.int 1), some (.int (x9 + 1))]) dX12_changed_170 (by decide) rfl rfl rfl ?_
    refine hf_goto (tgt := 110) dX12_changed_173 (by decide) ?_
    exact h

set_option maxHeartbeats 4000000 in
theorem w_X12_matter_0 {X : hf_X} {d k n t : Nat} {T : hf_T} {I : hf_I} {L : hf_L} {P : hf_P} {Q : Option Value → hf_M → Prop} {x1 : Int32} {x2 : Int32} {x3 : Int32} (hs : hf_Lay t T P) (h : (x1 < 1 → Q (some (.int (-1))) (t, T, (hf_up (hf_up I 156 0 (-1)) 157 1 ((I 157 1) + 1)), L, P)) ∧ (¬ (x1 < 1) → (99 < x1 → Q (some (.int (-1))) (t, T, (hf_up (hf_up I 156 0 (-1)) 157 1 ((I 157 1) + 1)), L, P)) ∧ (¬ (99 < x1) → (x2 < 0 → Q (some (.int (-1))) (t, T, (hf_up (hf_up I 156 0 (-1)) 157 1 ((I 157 1) + 1)), L, P)) ∧ (¬ (x2 < 0) → (999 < x2 → Q (some (.int (-1))) (t, T, (hf_up (hf_up I 156 0 (-1)) 157 1 ((I 157 1) + 1)), L, P)) ∧ (¬ (999 < x2) → (x3 < 1 → Q (some (.int (-1))) (t, T, (hf_up (hf_up I 156 0 (-1)) 157 1 ((I 157 1) + 1)), L, P)) ∧ (¬ (x3 < 1) → (99 < x3 → Q (some (.int (-1))) (t, T, (hf_up (hf_up I 156 0 (-1)) 157 1 ((I 157 1) + 1)), L, P)) ∧ (¬ (99 < x3) → (¬ (I 158 319) = 8 → vp_in (287 + (3 * (I 158 319))) 5929 ∧ (vp_in ((287 + (3 * (I 158 319))) + 1) 5929 ∧ (vp_in ((287 + (3 * (I 158 319))) + 2) 5929 ∧ (Q (some (.int (I 158 319))) (t, T, (hf_up (hf_up (hf_up (hf_up (hf_up I 158 (((287 + (3 * (I 158 319)))).toNatClampNeg) x1) 158 ((((287 + (3 * (I 158 319))) + 1)).toNatClampNeg) x2) 158 ((((287 + (3 * (I 158 319))) + 2)).toNatClampNeg) x3) 158 319 (((hf_up (hf_up (hf_up I 158 (((287 + (3 * (I 158 319)))).toNatClampNeg) x1) 158 ((((287 + (3 * (I 158 319))) + 1)).toNatClampNeg) x2) 158 ((((287 + (3 * (I 158 319))) + 2)).toNatClampNeg) x3) 158 319) + 1)) 156 0 0), L, P))))) ∧ ((I 158 319) = 8 → Q (some (.int (-5))) (t, T, (hf_up (hf_up I 156 0 (-5)) 157 5 ((I 157 5) + 1)), L, P))))))))) : hf_G X Y_X12_matter (d + 1) k n 0 (hf_en [.ref 156, .int x1, .int x2, .int x3] 5) [] (t, T, I, L, P) Q := by
  show hf_G X Y_X12_matter (d + 1) k n 0 [some (.ref 156), some (.int x1), some (.int x2), some (.int x3), none] [] (t, T, I, L, P) Q
  refine hf_iload_n dX12_matter_0 rfl rfl ?_
  refine hf_iconst (v := 1) dX12_matter_1 (by decide) ?_
  refine hf_bipush (v := 99) dX12_matter_2 (by decide) ?_
  refine hf_callS (as := [.int x1, .int 1, .int 99]) ok_X12_lies dX12_matter_4 hw1143 hw1144 rfl (Nat.le_of_ble_eq_true rfl) rfl (Nat.le_of_ble_eq_true rfl) (Nat.zero_le _) (Nat.zero_le _) ?_
  show hf_G X Y_X12_lies d _ _ 0 [some (.int x1), some (.int 1), some (.int 99)] [] (t, T, I, L, P) _
  refine hf_iload_n dX12_lies_0 rfl rfl ?_
  refine hf_iload_n dX12_lies_1 rfl rfl ?_
  refine hf_icmp_lt (tgt := 14) dX12_lies_2 (by decide) (fun hc => ?_) (fun hc => ?_)
  · replace h := h.1 hc
    refine hf_iconst (v := 0) dX12_lies_14 (by decide) ?_
    refine hf_ireturn dX12_lies_15 rfl (by decide) ?_
    show hf_G X Y_X12_matter (d + 1) _ _ 7 [some (.ref 156), some (.int x1), some (.int x2), some (.int x3), none] [.int 0] (t, T, I, L, P) _
    refine hf_if_eq (tgt := 31) dX12_matter_7 (by decide) (fun _ => ?_) (fun hc => absurd (show (0 : Int32) = (0 : Int32) by decide) hc)
    refine hf_aload_n dX12_matter_31 rfl rfl ?_
    refine hf_iconst (v := (-1)) dX12_matter_32 (by decide) ?_
    refine hf_callV (c := 12) (as := [.int (-1)]) ok_X12_refuses dX12_matter_33 hw1146 hw1147 hw1601 (hs.2.1 156 _ rfl) (by decide) (hf_lin hs 156 rfl) rfl (Nat.le_of_ble_eq_true rfl) rfl (Nat.le_of_ble_eq_true rfl) (Nat.zero_le _) (Nat.zero_le _) ?_
    show hf_G X Y_X12_refuses d _ _ 0 [some (.ref 156), some (.int (-1))] [] (t, T, I, L, P) _
    refine hf_aload_n dX12_refuses_0 rfl rfl ?_
    refine hf_iload_n dX12_refuses_1 rfl rfl ?_
    refine hf_puti (c := 12) (j := 0) dX12_refuses_2 (hs.2.1 156 _ rfl) (hf_lin hs 156 rfl) (by decide) (by decide) hw1036 rfl rfl ?_
    refine hf_aload_n dX12_refuses_5 rfl rfl ?_
    refine hf_getr (b := 157) (c := 12) (j := 1) dX12_refuses_6 (hs.2.1 156 _ rfl) (hf_lin hs 156 rfl) (by decide) (by decide) hw1037 rfl (hs.2.2 156 1 _ rfl) ?_
    refine hf_iload_n dX12_refuses_9 rfl rfl ?_
    refine hf_ineg dX12_refuses_10 ?_
    rw [show (-(-1) : Int32) = 1 by decide]
    refine hf_dup2 dX12_refuses_11 rfl rfl ?_
    refine hf_iald_k (j := 1) (by decide) dX12_refuses_12 (hs.2.1 157 _ rfl) (hf_lin hs 157 rfl) (hf_vin (by decide)) ?_
    refine hf_iconst (v := 1) dX12_refuses_13 (by decide) ?_
    refine hf_iadd dX12_refuses_14 ?_
    refine hf_iast_k (j := 1) (by decide) dX12_refuses_15 (hs.2.1 157 _ rfl) (hf_lin hs 157 rfl) (hf_vin (by decide)) ?_
    refine hf_iload_n dX12_refuses_16 rfl rfl ?_
    refine hf_ireturn dX12_refuses_17 rfl rfl ?_
    show hf_G X Y_X12_matter (d + 1) _ _ 36 [some (.ref 156), some (.int x1), some (.int x2), some (.int x3), none] [.int (-1)] (t, T, (hf_up (hf_up I 156 0 (-1)) 157 1 ((I 157 1) + 1)), L, P) _
    refine hf_ireturn dX12_matter_36 rfl rfl ?_
    exact h
  · replace h := h.2 hc
    refine hf_iload_n dX12_lies_5 rfl rfl ?_
    refine hf_iload_n dX12_lies_6 rfl rfl ?_
    refine hf_icmp_gt (tgt := 14) dX12_lies_7 (by decide) (fun hc => ?_) (fun hc => ?_)
    · replace h := h.1 hc
      refine hf_iconst (v := 0) dX12_lies_14 (by decide) ?_
      refine hf_ireturn dX12_lies_15 rfl (by decide) ?_
      show hf_G X Y_X12_matter (d + 1) _ _ 7 [some (.ref 156), some (.int x1), some (.int x2), some (.int x3), none] [.int 0] (t, T, I, L, P) _
      refine hf_if_eq (tgt := 31) dX12_matter_7 (by decide) (fun _ => ?_) (fun hc => absurd (show (0 : Int32) = (0 : Int32) by decide) hc)
      refine hf_aload_n dX12_matter_31 rfl rfl ?_
      refine hf_iconst (v := (-1)) dX12_matter_32 (by decide) ?_
      refine hf_callV (c := 12) (as := [.int (-1)]) ok_X12_refuses dX12_matter_33 hw1146 hw1147 hw1601 (hs.2.1 156 _ rfl) (by decide) (hf_lin hs 156 rfl) rfl (Nat.le_of_ble_eq_true rfl) rfl (Nat.le_of_ble_eq_true rfl) (Nat.zero_le _) (Nat.zero_le _) ?_
      show hf_G X Y_X12_refuses d _ _ 0 [some (.ref 156), some (.int (-1))] [] (t, T, I, L, P) _
      refine hf_aload_n dX12_refuses_0 rfl rfl ?_
      refine hf_iload_n dX12_refuses_1 rfl rfl ?_
      refine hf_puti (c := 12) (j := 0) dX12_refuses_2 (hs.2.1 156 _ rfl) (hf_lin hs 156 rfl) (by decide) (by decide) hw1036 rfl rfl ?_
      refine hf_aload_n dX12_refuses_5 rfl rfl ?_
      refine hf_getr (b := 157) (c := 12) (j := 1) dX12_refuses_6 (hs.2.1 156 _ rfl) (hf_lin hs 156 rfl) (by decide) (by decide) hw1037 rfl (hs.2.2 156 1 _ rfl) ?_
      refine hf_iload_n dX12_refuses_9 rfl rfl ?_
      refine hf_ineg dX12_refuses_10 ?_
      rw [show (-(-1) : Int32) = 1 by decide]
      refine hf_dup2 dX12_refuses_11 rfl rfl ?_
      refine hf_iald_k (j := 1) (by decide) dX12_refuses_12 (hs.2.1 157 _ rfl) (hf_lin hs 157 rfl) (hf_vin (by decide)) ?_
      refine hf_iconst (v := 1) dX12_refuses_13 (by decide) ?_
      refine hf_iadd dX12_refuses_14 ?_
      refine hf_iast_k (j := 1) (by decide) dX12_refuses_15 (hs.2.1 157 _ rfl) (hf_lin hs 157 rfl) (hf_vin (by decide)) ?_
      refine hf_iload_n dX12_refuses_16 rfl rfl ?_
      refine hf_ireturn dX12_refuses_17 rfl rfl ?_
      show hf_G X Y_X12_matter (d + 1) _ _ 36 [some (.ref 156), some (.int x1), some (.int x2), some (.int x3), none] [.int (-1)] (t, T, (hf_up (hf_up I 156 0 (-1)) 157 1 ((I 157 1) + 1)), L, P) _
      refine hf_ireturn dX12_matter_36 rfl rfl ?_
      exact h
    · replace h := h.2 hc
      refine hf_iconst (v := 1) dX12_lies_10 (by decide) ?_
      refine hf_goto (tgt := 15) dX12_lies_11 (by decide) ?_
      refine hf_ireturn dX12_lies_15 rfl (by decide) ?_
      show hf_G X Y_X12_matter (d + 1) _ _ 7 [some (.ref 156), some (.int x1), some (.int x2), some (.int x3), none] [.int 1] (t, T, I, L, P) _
      refine hf_if_eq (tgt := 31) dX12_matter_7 (by decide) (fun hc => absurd (show (1 : Int32) = (0 : Int32) from hc) (by decide)) (fun _ => ?_)
      refine hf_iload_n dX12_matter_10 rfl rfl ?_
      refine hf_iconst (v := 0) dX12_matter_11 (by decide) ?_
      refine hf_sipush (v := 999) dX12_matter_12 (by decide) ?_
      refine hf_callS (as := [.int x2, .int 0, .int 999]) ok_X12_lies dX12_matter_15 hw1143 hw1144 rfl (Nat.le_of_ble_eq_true rfl) rfl (Nat.le_of_ble_eq_true rfl) (Nat.zero_le _) (Nat.zero_le _) ?_
      show hf_G X Y_X12_lies d _ _ 0 [some (.int x2), some (.int 0), some (.int 999)] [] (t, T, I, L, P) _
      refine hf_iload_n dX12_lies_0 rfl rfl ?_
      refine hf_iload_n dX12_lies_1 rfl rfl ?_
      refine hf_icmp_lt (tgt := 14) dX12_lies_2 (by decide) (fun hc => ?_) (fun hc => ?_)
      · replace h := h.1 hc
        refine hf_iconst (v := 0) dX12_lies_14 (by decide) ?_
        refine hf_ireturn dX12_lies_15 rfl (by decide) ?_
        show hf_G X Y_X12_matter (d + 1) _ _ 18 [some (.ref 156), some (.int x1), some (.int x2), some (.int x3), none] [.int 0] (t, T, I, L, P) _
        refine hf_if_eq (tgt := 31) dX12_matter_18 (by decide) (fun _ => ?_) (fun hc => absurd (show (0 : Int32) = (0 : Int32) by decide) hc)
        refine hf_aload_n dX12_matter_31 rfl rfl ?_
        refine hf_iconst (v := (-1)) dX12_matter_32 (by decide) ?_
        refine hf_callV (c := 12) (as := [.int (-1)]) ok_X12_refuses dX12_matter_33 hw1146 hw1147 hw1601 (hs.2.1 156 _ rfl) (by decide) (hf_lin hs 156 rfl) rfl (Nat.le_of_ble_eq_true rfl) rfl (Nat.le_of_ble_eq_true rfl) (Nat.zero_le _) (Nat.zero_le _) ?_
        show hf_G X Y_X12_refuses d _ _ 0 [some (.ref 156), some (.int (-1))] [] (t, T, I, L, P) _
        refine hf_aload_n dX12_refuses_0 rfl rfl ?_
        refine hf_iload_n dX12_refuses_1 rfl rfl ?_
        refine hf_puti (c := 12) (j := 0) dX12_refuses_2 (hs.2.1 156 _ rfl) (hf_lin hs 156 rfl) (by decide) (by decide) hw1036 rfl rfl ?_
        refine hf_aload_n dX12_refuses_5 rfl rfl ?_
        refine hf_getr (b := 157) (c := 12) (j := 1) dX12_refuses_6 (hs.2.1 156 _ rfl) (hf_lin hs 156 rfl) (by decide) (by decide) hw1037 rfl (hs.2.2 156 1 _ rfl) ?_
        refine hf_iload_n dX12_refuses_9 rfl rfl ?_
        refine hf_ineg dX12_refuses_10 ?_
        rw [show (-(-1) : Int32) = 1 by decide]
        refine hf_dup2 dX12_refuses_11 rfl rfl ?_
        refine hf_iald_k (j := 1) (by decide) dX12_refuses_12 (hs.2.1 157 _ rfl) (hf_lin hs 157 rfl) (hf_vin (by decide)) ?_
        refine hf_iconst (v := 1) dX12_refuses_13 (by decide) ?_
        refine hf_iadd dX12_refuses_14 ?_
        refine hf_iast_k (j := 1) (by decide) dX12_refuses_15 (hs.2.1 157 _ rfl) (hf_lin hs 157 rfl) (hf_vin (by decide)) ?_
        refine hf_iload_n dX12_refuses_16 rfl rfl ?_
        refine hf_ireturn dX12_refuses_17 rfl rfl ?_
        show hf_G X Y_X12_matter (d + 1) _ _ 36 [some (.ref 156), some (.int x1), some (.int x2), some (.int x3), none] [.int (-1)] (t, T, (hf_up (hf_up I 156 0 (-1)) 157 1 ((I 157 1) + 1)), L, P) _
        refine hf_ireturn dX12_matter_36 rfl rfl ?_
        exact h
      · replace h := h.2 hc
        refine hf_iload_n dX12_lies_5 rfl rfl ?_
        refine hf_iload_n dX12_lies_6 rfl rfl ?_
        refine hf_icmp_gt (tgt := 14) dX12_lies_7 (by decide) (fun hc => ?_) (fun hc => ?_)
        · replace h := h.1 hc
          refine hf_iconst (v := 0) dX12_lies_14 (by decide) ?_
          refine hf_ireturn dX12_lies_15 rfl (by decide) ?_
          show hf_G X Y_X12_matter (d + 1) _ _ 18 [some (.ref 156), some (.int x1), some (.int x2), some (.int x3), none] [.int 0] (t, T, I, L, P) _
          refine hf_if_eq (tgt := 31) dX12_matter_18 (by decide) (fun _ => ?_) (fun hc => absurd (show (0 : Int32) = (0 : Int32) by decide) hc)
          refine hf_aload_n dX12_matter_31 rfl rfl ?_
          refine hf_iconst (v := (-1)) dX12_matter_32 (by decide) ?_
          refine hf_callV (c := 12) (as := [.int (-1)]) ok_X12_refuses dX12_matter_33 hw1146 hw1147 hw1601 (hs.2.1 156 _ rfl) (by decide) (hf_lin hs 156 rfl) rfl (Nat.le_of_ble_eq_true rfl) rfl (Nat.le_of_ble_eq_true rfl) (Nat.zero_le _) (Nat.zero_le _) ?_
          show hf_G X Y_X12_refuses d _ _ 0 [some (.ref 156), some (.int (-1))] [] (t, T, I, L, P) _
          refine hf_aload_n dX12_refuses_0 rfl rfl ?_
          refine hf_iload_n dX12_refuses_1 rfl rfl ?_
          refine hf_puti (c := 12) (j := 0) dX12_refuses_2 (hs.2.1 156 _ rfl) (hf_lin hs 156 rfl) (by decide) (by decide) hw1036 rfl rfl ?_
          refine hf_aload_n dX12_refuses_5 rfl rfl ?_
          refine hf_getr (b := 157) (c := 12) (j := 1) dX12_refuses_6 (hs.2.1 156 _ rfl) (hf_lin hs 156 rfl) (by decide) (by decide) hw1037 rfl (hs.2.2 156 1 _ rfl) ?_
          refine hf_iload_n dX12_refuses_9 rfl rfl ?_
          refine hf_ineg dX12_refuses_10 ?_
          rw [show (-(-1) : Int32) = 1 by decide]
          refine hf_dup2 dX12_refuses_11 rfl rfl ?_
          refine hf_iald_k (j := 1) (by decide) dX12_refuses_12 (hs.2.1 157 _ rfl) (hf_lin hs 157 rfl) (hf_vin (by decide)) ?_
          refine hf_iconst (v := 1) dX12_refuses_13 (by decide) ?_
          refine hf_iadd dX12_refuses_14 ?_
          refine hf_iast_k (j := 1) (by decide) dX12_refuses_15 (hs.2.1 157 _ rfl) (hf_lin hs 157 rfl) (hf_vin (by decide)) ?_
          refine hf_iload_n dX12_refuses_16 rfl rfl ?_
          refine hf_ireturn dX12_refuses_17 rfl rfl ?_
          show hf_G X Y_X12_matter (d + 1) _ _ 36 [some (.ref 156), some (.int x1), some (.int x2), some (.int x3), none] [.int (-1)] (t, T, (hf_up (hf_up I 156 0 (-1)) 157 1 ((I 157 1) + 1)), L, P) _
          refine hf_ireturn dX12_matter_36 rfl rfl ?_
          exact h
        · replace h := h.2 hc
          refine hf_iconst (v := 1) dX12_lies_10 (by decide) ?_
          refine hf_goto (tgt := 15) dX12_lies_11 (by decide) ?_
          refine hf_ireturn dX12_lies_15 rfl (by decide) ?_
          show hf_G X Y_X12_matter (d + 1) _ _ 18 [some (.ref 156), some (.int x1), some (.int x2), some (.int x3), none] [.int 1] (t, T, I, L, P) _
          refine hf_if_eq (tgt := 31) dX12_matter_18 (by decide) (fun hc => absurd (show (1 : Int32) = (0 : Int32) from hc) (by decide)) (fun _ => ?_)
          refine hf_iload_n dX12_matter_21 rfl rfl ?_
          refine hf_iconst (v := 1) dX12_matter_22 (by decide) ?_
          refine hf_bipush (v := 99) dX12_matter_23 (by decide) ?_
          refine hf_callS (as := [.int x3, .int 1, .int 99]) ok_X12_lies dX12_matter_25 hw1143 hw1144 rfl (Nat.le_of_ble_eq_true rfl) rfl (Nat.le_of_ble_eq_true rfl) (Nat.zero_le _) (Nat.zero_le _) ?_
          show hf_G X Y_X12_lies d _ _ 0 [some (.int x3), some (.int 1), some (.int 99)] [] (t, T, I, L, P) _
          refine hf_iload_n dX12_lies_0 rfl rfl ?_
          refine hf_iload_n dX12_lies_1 rfl rfl ?_
          refine hf_icmp_lt (tgt := 14) dX12_lies_2 (by decide) (fun hc => ?_) (fun hc => ?_)
          · replace h := h.1 hc
            refine hf_iconst (v := 0) dX12_lies_14 (by decide) ?_
            refine hf_ireturn dX12_lies_15 rfl (by decide) ?_
            show hf_G X Y_X12_matter (d + 1) _ _ 28 [some (.ref 156), some (.int x1), some (.int x2), some (.int x3), none] [.int 0] (t, T, I, L, P) _
            refine hf_if_ne (tgt := 37) dX12_matter_28 (by decide) (fun hc => absurd (show ¬ (0 : Int32) = (0 : Int32) from hc) (by decide)) (fun _ => ?_)
            refine hf_aload_n dX12_matter_31 rfl rfl ?_
            refine hf_iconst (v := (-1)) dX12_matter_32 (by decide) ?_
            refine hf_callV (c := 12) (as := [.int (-1)]) ok_X12_refuses dX12_matter_33 hw1146 hw1147 hw1601 (hs.2.1 156 _ rfl) (by decide) (hf_lin hs 156 rfl) rfl (Nat.le_of_ble_eq_true rfl) rfl (Nat.le_of_ble_eq_true rfl) (Nat.zero_le _) (Nat.zero_le _) ?_
            show hf_G X Y_X12_refuses d _ _ 0 [some (.ref 156), some (.int (-1))] [] (t, T, I, L, P) _
            refine hf_aload_n dX12_refuses_0 rfl rfl ?_
            refine hf_iload_n dX12_refuses_1 rfl rfl ?_
            refine hf_puti (c := 12) (j := 0) dX12_refuses_2 (hs.2.1 156 _ rfl) (hf_lin hs 156 rfl) (by decide) (by decide) hw1036 rfl rfl ?_
            refine hf_aload_n dX12_refuses_5 rfl rfl ?_
            refine hf_getr (b := 157) (c := 12) (j := 1) dX12_refuses_6 (hs.2.1 156 _ rfl) (hf_lin hs 156 rfl) (by decide) (by decide) hw1037 rfl (hs.2.2 156 1 _ rfl) ?_
            refine hf_iload_n dX12_refuses_9 rfl rfl ?_
            refine hf_ineg dX12_refuses_10 ?_
            rw [show (-(-1) : Int32) = 1 by decide]
            refine hf_dup2 dX12_refuses_11 rfl rfl ?_
            refine hf_iald_k (j := 1) (by decide) dX12_refuses_12 (hs.2.1 157 _ rfl) (hf_lin hs 157 rfl) (hf_vin (by decide)) ?_
            refine hf_iconst (v := 1) dX12_refuses_13 (by decide) ?_
            refine hf_iadd dX12_refuses_14 ?_
            refine hf_iast_k (j := 1) (by decide) dX12_refuses_15 (hs.2.1 157 _ rfl) (hf_lin hs 157 rfl) (hf_vin (by decide)) ?_
            refine hf_iload_n dX12_refuses_16 rfl rfl ?_
            refine hf_ireturn dX12_refuses_17 rfl rfl ?_
            show hf_G X Y_X12_matter (d + 1) _ _ 36 [some (.ref 156), some (.int x1), some (.int x2), some (.int x3), none] [.int (-1)] (t, T, (hf_up (hf_up I 156 0 (-1)) 157 1 ((I 157 1) + 1)), L, P) _
            refine hf_ireturn dX12_matter_36 rfl rfl ?_
            exact h
          · replace h := h.2 hc
            refine hf_iload_n dX12_lies_5 rfl rfl ?_
            refine hf_iload_n dX12_lies_6 rfl rfl ?_
            refine hf_icmp_gt (tgt := 14) dX12_lies_7 (by decide) (fun hc => ?_) (fun hc => ?_)
            · replace h := h.1 hc
              refine hf_iconst (v := 0) dX12_lies_14 (by decide) ?_
              refine hf_ireturn dX12_lies_15 rfl (by decide) ?_
              show hf_G X Y_X12_matter (d + 1) _ _ 28 [some (.ref 156), some (.int x1), some (.int x2), some (.int x3), none] [.int 0] (t, T, I, L, P) _
              refine hf_if_ne (tgt := 37) dX12_matter_28 (by decide) (fun hc => absurd (show ¬ (0 : Int32) = (0 : Int32) from hc) (by decide)) (fun _ => ?_)
              refine hf_aload_n dX12_matter_31 rfl rfl ?_
              refine hf_iconst (v := (-1)) dX12_matter_32 (by decide) ?_
              refine hf_callV (c := 12) (as := [.int (-1)]) ok_X12_refuses dX12_matter_33 hw1146 hw1147 hw1601 (hs.2.1 156 _ rfl) (by decide) (hf_lin hs 156 rfl) rfl (Nat.le_of_ble_eq_true rfl) rfl (Nat.le_of_ble_eq_true rfl) (Nat.zero_le _) (Nat.zero_le _) ?_
              show hf_G X Y_X12_refuses d _ _ 0 [some (.ref 156), some (.int (-1))] [] (t, T, I, L, P) _
              refine hf_aload_n dX12_refuses_0 rfl rfl ?_
              refine hf_iload_n dX12_refuses_1 rfl rfl ?_
              refine hf_puti (c := 12) (j := 0) dX12_refuses_2 (hs.2.1 156 _ rfl) (hf_lin hs 156 rfl) (by decide) (by decide) hw1036 rfl rfl ?_
              refine hf_aload_n dX12_refuses_5 rfl rfl ?_
              refine hf_getr (b := 157) (c := 12) (j := 1) dX12_refuses_6 (hs.2.1 156 _ rfl) (hf_lin hs 156 rfl) (by decide) (by decide) hw1037 rfl (hs.2.2 156 1 _ rfl) ?_
              refine hf_iload_n dX12_refuses_9 rfl rfl ?_
              refine hf_ineg dX12_refuses_10 ?_
              rw [show (-(-1) : Int32) = 1 by decide]
              refine hf_dup2 dX12_refuses_11 rfl rfl ?_
              refine hf_iald_k (j := 1) (by decide) dX12_refuses_12 (hs.2.1 157 _ rfl) (hf_lin hs 157 rfl) (hf_vin (by decide)) ?_
              refine hf_iconst (v := 1) dX12_refuses_13 (by decide) ?_
              refine hf_iadd dX12_refuses_14 ?_
              refine hf_iast_k (j := 1) (by decide) dX12_refuses_15 (hs.2.1 157 _ rfl) (hf_lin hs 157 rfl) (hf_vin (by decide)) ?_
              refine hf_iload_n dX12_refuses_16 rfl rfl ?_
              refine hf_ireturn dX12_refuses_17 rfl rfl ?_
              show hf_G X Y_X12_matter (d + 1) _ _ 36 [some (.ref 156), some (.int x1), some (.int x2), some (.int x3), none] [.int (-1)] (t, T, (hf_up (hf_up I 156 0 (-1)) 157 1 ((I 157 1) + 1)), L, P) _
              refine hf_ireturn dX12_matter_36 rfl rfl ?_
              exact h
            · replace h := h.2 hc
              refine hf_iconst (v := 1) dX12_lies_10 (by decide) ?_
              refine hf_goto (tgt := 15) dX12_lies_11 (by decide) ?_
              refine hf_ireturn dX12_lies_15 rfl (by decide) ?_
              show hf_G X Y_X12_matter (d + 1) _ _ 28 [some (.ref 156), some (.int x1), some (.int x2), some (.int x3), none] [.int 1] (t, T, I, L, P) _
              refine hf_if_ne (tgt := 37) dX12_matter_28 (by decide) (fun _ => ?_) (fun hc => absurd (show (1 : Int32) = (0 : Int32) from hc) (by decide))
              refine hf_aload_n dX12_matter_37 rfl rfl ?_
              refine hf_getr (b := 158) (c := 12) (j := 2) dX12_matter_38 (hs.2.1 156 _ rfl) (hf_lin hs 156 rfl) (by decide) (by decide) hw1038 rfl (hs.2.2 156 2 _ rfl) ?_
              refine hf_sipush (v := 319) dX12_matter_41 (by decide) ?_
              refine hf_iald_k (j := 319) (by decide) dX12_matter_44 (hs.2.1 158 _ rfl) (hf_lin hs 158 rfl) (hf_vin (by decide)) ?_
              refine hf_istore (l2 := [some (.ref 156), some (.int x1), some (.int x2), some (.int x3), some (.int (I 158 319))]) dX12_matter_45 (by decide) rfl ?_
              refine hf_iload dX12_matter_47 rfl ?_
              refine hf_bipush (v := 8) dX12_matter_49 (by decide) ?_
              refine hf_icmp_ne (tgt := 61) dX12_matter_51 (by decide) (fun hc => ?_) (fun hc => ?_)
              · replace h := h.1 hc
                refine hf_aload_n dX12_matter_61 rfl rfl ?_
                refine hf_getr (b := 158) (c := 12) (j := 2) dX12_matter_62 (hs.2.1 156 _ rfl) (hf_lin hs 156 rfl) (by decide) (by decide) hw1038 rfl (hs.2.2 156 2 _ rfl) ?_
                refine hf_sipush (v := 287) dX12_matter_65 (by decide) ?_
                refine hf_iconst (v := 3) dX12_matter_68 (by decide) ?_
                refine hf_iload dX12_matter_69 rfl ?_
                refine hf_imul dX12_matter_71 ?_
                refine hf_iadd dX12_matter_72 ?_
                refine hf_iload_n dX12_matter_73 rfl rfl ?_
                refine hf_iast dX12_matter_74 (hs.2.1 158 _ rfl) (hf_lin hs 158 rfl) h.1 ?_
                replace h := h.2
                refine hf_aload_n dX12_matter_75 rfl rfl ?_
                refine hf_getr (b := 158) (c := 12) (j := 2) dX12_matter_76 (hs.2.1 156 _ rfl) (hf_lin hs 156 rfl) (by decide) (by decide) hw1038 rfl (hs.2.2 156 2 _ rfl) ?_
                refine hf_sipush (v := 287) dX12_matter_79 (by decide) ?_
                refine hf_iconst (v := 3) dX12_matter_82 (by decide) ?_
                refine hf_iload dX12_matter_83 rfl ?_
                refine hf_imul dX12_matter_85 ?_
                refine hf_iadd dX12_matter_86 ?_
                refine hf_iconst (v := 1) dX12_matter_87 (by decide) ?_
                refine hf_iadd dX12_matter_88 ?_
                refine hf_iload_n dX12_matter_89 rfl rfl ?_
                refine hf_iast dX12_matter_90 (hs.2.1 158 _ rfl) (hf_lin hs 158 rfl) h.1 ?_
                replace h := h.2
                refine hf_aload_n dX12_matter_91 rfl rfl ?_
                refine hf_getr (b := 158) (c := 12) (j := 2) dX12_matter_92 (hs.2.1 156 _ rfl) (hf_lin hs 156 rfl) (by decide) (by decide) hw1038 rfl (hs.2.2 156 2 _ rfl) ?_
                refine hf_sipush (v := 287) dX12_matter_95 (by decide) ?_
                refine hf_iconst (v := 3) dX12_matter_98 (by decide) ?_
                refine hf_iload dX12_matter_99 rfl ?_
                refine hf_imul dX12_matter_101 ?_
                refine hf_iadd dX12_matter_102 ?_
                refine hf_iconst (v := 2) dX12_matter_103 (by decide) ?_
                refine hf_iadd dX12_matter_104 ?_
                refine hf_iload_n dX12_matter_105 rfl rfl ?_
                refine hf_iast dX12_matter_106 (hs.2.1 158 _ rfl) (hf_lin hs 158 rfl) h.1 ?_
                replace h := h.2
                refine hf_aload_n dX12_matter_107 rfl rfl ?_
                refine hf_getr (b := 158) (c := 12) (j := 2) dX12_matter_108 (hs.2.1 156 _ rfl) (hf_lin hs 156 rfl) (by decide) (by decide) hw1038 rfl (hs.2.2 156 2 _ rfl) ?_
                refine hf_sipush (v := 319) dX12_matter_111 (by decide) ?_
                refine hf_dup2 dX12_matter_114 rfl rfl ?_
                refine hf_iald_k (j := 319) (by decide) dX12_matter_115 (hs.2.1 158 _ rfl) (hf_lin hs 158 rfl) (hf_vin (by decide)) ?_
                refine hf_iconst (v := 1) dX12_matter_116 (by decide) ?_
                refine hf_iadd dX12_matter_117 ?_
                refine hf_iast_k (j := 319) (by decide) dX12_matter_118 (hs.2.1 158 _ rfl) (hf_lin hs 158 rfl) (hf_vin (by decide)) ?_
                refine hf_aload_n dX12_matter_119 rfl rfl ?_
                refine hf_iload dX12_matter_120 rfl ?_
                refine hf_callV (c := 12) (as := [.int (I 158 319)]) ok_X12_good dX12_matter_122 hw1149 hw1150 hw1602 (hs.2.1 156 _ rfl) (by decide) (hf_lin hs 156 rfl) rfl (Nat.le_of_ble_eq_true rfl) rfl (Nat.le_of_ble_eq_true rfl) (Nat.zero_le _) (Nat.zero_le _) ?_
                show hf_G X Y_X12_good d _ _ 0 [some (.ref 156), some (.int (I 158 319))] [] (t, T, (hf_up (hf_up (hf_up (hf_up I 158 (((287 + (3 * (I 158 319)))).toNatClampNeg) x1) 158 ((((287 + (3 * (I 158 319))) + 1)).toNatClampNeg) x2) 158 ((((287 + (3 * (I 158 319))) + 2)).toNatClampNeg) x3) 158 319 (((hf_up (hf_up (hf_up I 158 (((287 + (3 * (I 158 319)))).toNatClampNeg) x1) 158 ((((287 + (3 * (I 158 319))) + 1)).toNatClampNeg) x2) 158 ((((287 + (3 * (I 158 319))) + 2)).toNatClampNeg) x3) 158 319) + 1)), L, P) _
                refine hf_aload_n dX12_good_0 rfl rfl ?_
                refine hf_iconst (v := 0) dX12_good_1 (by decide) ?_
                refine hf_puti (c := 12) (j := 0) dX12_good_2 (hs.2.1 156 _ rfl) (hf_lin hs 156 rfl) (by decide) (by decide) hw1036 rfl rfl ?_
                refine hf_iload_n dX12_good_5 rfl rfl ?_
                refine hf_ireturn dX12_good_6 rfl rfl ?_
                show hf_G X Y_X12_matter (d + 1) _ _ 125 [some (.ref 156), some (.int x1), some (.int x2), some (.int x3), some (.int (I 158 319))] [.int (I 158 319)] (t, T, (hf_up (hf_up (hf_up (hf_up (hf_up I 158 (((287 + (3 * (I 158 319)))).toNatClampNeg) x1) 158 ((((287 + (3 * (I 158 319))) + 1)).toNatClampNeg) x2) 158 ((((287 + (3 * (I 158 319))) + 2)).toNatClampNeg) x3) 158 319 (((hf_up (hf_up (hf_up I 158 (((287 + (3 * (I 158 319)))).toNatClampNeg) x1) 158 ((((287 + (3 * (I 158 319))) + 1)).toNatClampNeg) x2) 158 ((((287 + (3 * (I 158 319))) + 2)).toNatClampNeg) x3) 158 319) + 1)) 156 0 0), L, P) _
                refine hf_ireturn dX12_matter_125 rfl rfl ?_
                exact h
              · replace h := h.2 hc
                refine hf_aload_n dX12_matter_54 rfl rfl ?_
                refine hf_bipush (v := (-5)) dX12_matter_55 (by decide) ?_
                refine hf_callV (c := 12) (as := [.int (-5)]) ok_X12_refuses dX12_matter_57 hw1146 hw1147 hw1601 (hs.2.1 156 _ rfl) (by decide) (hf_lin hs 156 rfl) rfl (Nat.le_of_ble_eq_true rfl) rfl (Nat.le_of_ble_eq_true rfl) (Nat.zero_le _) (Nat.zero_le _) ?_
                show hf_G X Y_X12_refuses d _ _ 0 [some (.ref 156), some (.int (-5))] [] (t, T, I, L, P) _
                refine hf_aload_n dX12_refuses_0 rfl rfl ?_
                refine hf_iload_n dX12_refuses_1 rfl rfl ?_
                refine hf_puti (c := 12) (j := 0) dX12_refuses_2 (hs.2.1 156 _ rfl) (hf_lin hs 156 rfl) (by decide) (by decide) hw1036 rfl rfl ?_
                refine hf_aload_n dX12_refuses_5 rfl rfl ?_
                refine hf_getr (b := 157) (c := 12) (j := 1) dX12_refuses_6 (hs.2.1 156 _ rfl) (hf_lin hs 156 rfl) (by decide) (by decide) hw1037 rfl (hs.2.2 156 1 _ rfl) ?_
                refine hf_iload_n dX12_refuses_9 rfl rfl ?_
                refine hf_ineg dX12_refuses_10 ?_
                rw [show (-(-5) : Int32) = 5 by decide]
                refine hf_dup2 dX12_refuses_11 rfl rfl ?_
                refine hf_iald_k (j := 5) (by decide) dX12_refuses_12 (hs.2.1 157 _ rfl) (hf_lin hs 157 rfl) (hf_vin (by decide)) ?_
                refine hf_iconst (v := 1) dX12_refuses_13 (by decide) ?_
                refine hf_iadd dX12_refuses_14 ?_
                refine hf_iast_k (j := 5) (by decide) dX12_refuses_15 (hs.2.1 157 _ rfl) (hf_lin hs 157 rfl) (hf_vin (by decide)) ?_
                refine hf_iload_n dX12_refuses_16 rfl rfl ?_
                refine hf_ireturn dX12_refuses_17 rfl rfl ?_
                show hf_G X Y_X12_matter (d + 1) _ _ 60 [some (.ref 156), some (.int x1), some (.int x2), some (.int x3), some (.int (I 158 319))] [.int (-5)] (t, T, (hf_up (hf_up I 156 0 (-5)) 157 5 ((I 157 5) + 1)), L, P) _
                refine hf_ireturn dX12_matter_60 rfl rfl ?_
                exact h

set_option maxHeartbeats 4000000 in
theorem w_X12_cancel_0 {X : hf_X} {d k n t : Nat} {T : hf_T} {I : hf_I} {L : hf_L} {P : hf_P} {Q : Option Value → hf_M → Prop}  (hs : hf_Lay t T P) (h : Q (some (.int (I 158 319))) (t, T, (hf_up I 158 319 0), L, P)) : hf_G X Y_X12_cancel d k n 0 (hf_en [.ref 156] 2) [] (t, T, I, L, P) Q := by
  show hf_G X Y_X12_cancel d k n 0 [some (.ref 156), none] [] (t, T, I, L, P) Q
  refine hf_aload_n dX12_cancel_0 rfl rfl ?_
  refine hf_getr (b := 158) (c := 12) (j := 2) dX12_cancel_1 (hs.2.1 156 _ rfl) (hf_lin hs 156 rfl) (by decide) (by decide) hw1038 rfl (hs.2.2 156 2 _ rfl) ?_
  refine hf_sipush (v := 319) dX12_cancel_4 (by decide) ?_
  refine hf_iald_k (j := 319) (by decide) dX12_cancel_7 (hs.2.1 158 _ rfl) (hf_lin hs 158 rfl) (hf_vin (by decide)) ?_
  refine hf_istore_n (l2 := [some (.ref 156), some (.int (I 158 319))]) dX12_cancel_8 rfl (by decide) rfl ?_
  refine hf_aload_n dX12_cancel_9 rfl rfl ?_
  refine hf_getr (b := 158) (c := 12) (j := 2) dX12_cancel_10 (hs.2.1 156 _ rfl) (hf_lin hs 156 rfl) (by decide) (by decide) hw1038 rfl (hs.2.2 156 2 _ rfl) ?_
  refine hf_sipush (v := 319) dX12_cancel_13 (by decide) ?_
  refine hf_iconst (v := 0) dX12_cancel_16 (by decide) ?_
  refine hf_iast_k (j := 319) (by decide) dX12_cancel_17 (hs.2.1 158 _ rfl) (hf_lin hs 158 rfl) (hf_vin (by decide)) ?_
  refine hf_iload_n dX12_cancel_18 rfl rfl ?_
  refine hf_ireturn dX12_cancel_19 rfl rfl ?_
  exact h

set_option maxHeartbeats 4000000 in
theorem w_X12_sortsMatters_0 {X : hf_X} {d k n t : Nat} {T : hf_T} {I : hf_I} {L : hf_L} {P : hf_P} {Q : Option Value → hf_M → Prop}  (hs : hf_Lay t T P) (h : hf_G X Y_X12_sortsMatters d k n 2 [some (.ref 156), some (.int 0), none] [] (t, T, I, L, P) Q) : hf_G X Y_X12_sortsMatters d k n 0 (hf_en [.ref 156] 3) [] (t, T, I, L, P) Q := by
  show hf_G X Y_X12_sortsMatters d k n 0 [some (.ref 156), none, none] [] (t, T, I, L, P) Q
  refine hf_iconst (v := 0) dX12_sortsMatters_0 (by decide) ?_
  refine hf_istore_n (l2 := [some (.ref 156), some (.int 0), none]) dX12_sortsMatters_1 rfl (by decide) rfl ?_
  exact h

set_option maxHeartbeats 4000000 in
theorem w_X12_sortsMatters_2 {X : hf_X} {d k n t : Nat} {T : hf_T} {I : hf_I} {L : hf_L} {P : hf_P} {Q : Option Value → hf_M → Prop} {x1 : Int32} (hs : hf_Lay t T P) (h : ((I 158 319) ≤ x1 → Q none (t, T, I, L, P)) ∧ (¬ ((I 158 319) ≤ x1) → hf_G X Y_X12_sortsMatters d k n 16 [some (.ref 156), some (.int x1), some (.int x1)] [] (t, T, I, L, P) Q)) : hf_G X Y_X12_sortsMatters d k n 2 [some (.ref 156), some (.int x1), none] [] (t, T, I, L, P) Q := by
  refine hf_iload_n dX12_sortsMatters_2 rfl rfl ?_
  refine hf_aload_n dX12_sortsMatters_3 rfl rfl ?_
  refine hf_getr (b := 158) (c := 12) (j := 2) dX12_sortsMatters_4 (hs.2.1 156 _ rfl) (hf_lin hs 156 rfl) (by decide) (by decide) hw1038 rfl (hs.2.2 156 2 _ rfl) ?_
  refine hf_sipush (v := 319) dX12_sortsMatters_7 (by decide) ?_
  refine hf_iald_k (j := 319) (by decide) dX12_sortsMatters_10 (hs.2.1 158 _ rfl) (hf_lin hs 158 rfl) (hf_vin (by decide)) ?_
  refine hf_icmp_ge (tgt := 91) dX12_sortsMatters_11 (by decide) (fun hc => ?_) (fun hc => ?_)
  · replace h := h.1 hc
    refine hf_return dX12_sortsMatters_91 rfl ?_
    exact h
  · replace h := h.2 hc
    refine hf_iload_n dX12_sortsMatters_14 rfl rfl ?_
    refine hf_istore_n (l2 := [some (.ref 156), some (.int x1), some (.int x1)]) dX12_sortsMatters_15 rfl (by decide) rfl ?_
    exact h

set_option maxHeartbeats 4000000 in
theorem w_X12_sortsMatters_16 {X : hf_X} {d k n t : Nat} {T : hf_T} {I : hf_I} {L : hf_L} {P : hf_P} {Q : Option Value → hf_M → Prop} {x1 : Int32} {x2 : Int32} (hs : hf_Lay t T P) (h : (x2 ≤ 0 → vp_in x2 8 ∧ (hf_G X Y_X12_sortsMatters d k n 2 [some (.ref 156), some (.int (x1 + 1)), none] [] (t, T, (hf_up I 179 x2.toNatClampNeg x1), L, P) Q)) ∧ (¬ (x2 ≤ 0) → vp_in (x2 - 1) 8 ∧ (vp_in ((287 + (3 * (I 179 (((x2 - 1)).toNatClampNeg)))) + 1) 5929 ∧ (vp_in ((287 + (3 * x1)) + 1) 5929 ∧ (((I 158 ((((287 + (3 * (I 179 (((x2 - 1)).toNatClampNeg)))) + 1)).toNatClampNeg)) ≤ (I 158 ((((287 + (3 * x1)) + 1)).toNatClampNeg)) → vp_in x2 8 ∧ (hf_G X Y_X12_sortsMatters d k n 2 [some (.ref 156), some (.int (x1 + 1)), none] [] (t, T, (hf_up I 179 x2.toNatClampNeg x1), L, P) Q)) ∧ (¬ ((I 158 ((((287 + (3 * (I 179 (((x2 - 1)).toNatClampNeg)))) + 1)).toNatClampNeg)) ≤ (I 158 ((((287 + (3 * x1)) + 1)).toNatClampNeg))) → vp_in (x2 - 1) 8 ∧ (vp_in x2 8 ∧ (hf_G X Y_X12_sortsMatters d k n 16 [some (.ref 156), some (.int x1), some (.int (x2 + (-1)))] [] (t, T, (hf_up I 179 x2.toNatClampNeg (I 179 (((x2 - 1)).toNatClampNeg))), L, P) Q)))))))) : hf_G X Y_X12_sortsMatters d k n 16 [some (.ref 156), some (.int x1), some (.int x2)] [] (t, T, I, L, P) Q := by
  refine hf_iload_n dX12_sortsMatters_16 rfl rfl ?_
  refine hf_if_le (tgt := 78) dX12_sortsMatters_17 (by decide) (fun hc => ?_) (fun hc => ?_)
  · replace h := h.1 hc
    refine hf_aload_n dX12_sortsMatters_78 rfl rfl ?_
    refine hf_getr (b := 179) (c := 12) (j := 40) dX12_sortsMatters_79 (hs.2.1 156 _ rfl) (hf_lin hs 156 rfl) (by decide) (by decide) hw1076 rfl (hs.2.2 156 40 _ rfl) ?_
    refine hf_iload_n dX12_sortsMatters_82 rfl rfl ?_
    refine hf_iload_n dX12_sortsMatters_83 rfl rfl ?_
    refine hf_iast dX12_sortsMatters_84 (hs.2.1 179 _ rfl) (hf_lin hs 179 rfl) h.1 ?_
    replace h := h.2
    refine hf_iinc (v := (x1 + 1)) (l2 := [some (.ref 156), some (.int (x1 + 1)), some (.int x2)]) dX12_sortsMatters_85 (by decide) rfl rfl rfl ?_
    refine hf_goto (tgt := 2) dX12_sortsMatters_88 (by decide) ?_
    refine hf_drop (l' := [some (.ref 156), some (.int (x1 + 1)), none]) (by simp [hf_sub]) ?_
    exact h
  · replace h := h.2 hc
    refine hf_aload_n dX12_sortsMatters_20 rfl rfl ?_
    refine hf_getr (b := 158) (c := 12) (j := 2) dX12_sortsMatters_21 (hs.2.1 156 _ rfl) (hf_lin hs 156 rfl) (by decide) (by decide) hw1038 rfl (hs.2.2 156 2 _ rfl) ?_
    refine hf_sipush (v := 287) dX12_sortsMatters_24 (by decide) ?_
    refine hf_iconst (v := 3) dX12_sortsMatters_27 (by decide) ?_
    refine hf_aload_n dX12_sortsMatters_28 rfl rfl ?_
    refine hf_getr (b := 179) (c := 12) (j := 40) dX12_sortsMatters_29 (hs.2.1 156 _ rfl) (hf_lin hs 156 rfl) (by decide) (by decide) hw1076 rfl (hs.2.2 156 40 _ rfl) ?_
    refine hf_iload_n dX12_sortsMatters_32 rfl rfl ?_
    refine hf_iconst (v := 1) dX12_sortsMatters_33 (by decide) ?_
    refine hf_isub dX12_sortsMatters_34 ?_
    refine hf_iald dX12_sortsMatters_35 (hs.2.1 179 _ rfl) (hf_lin hs 179 rfl) h.1 ?_
    replace h := h.2
    refine hf_imul dX12_sortsMatters_36 ?_
    refine hf_iadd dX12_sortsMatters_37 ?_
    refine hf_iconst (v := 1) dX12_sortsMatters_38 (by decide) ?_
    refine hf_iadd dX12_sortsMatters_39 ?_
    refine hf_iald dX12_sortsMatters_40 (hs.2.1 158 _ rfl) (hf_lin hs 158 rfl) h.1 ?_
    replace h := h.2
    refine hf_aload_n dX12_sortsMatters_41 rfl rfl ?_
    refine hf_getr (b := 158) (c := 12) (j := 2) dX12_sortsMatters_42 (hs.2.1 156 _ rfl) (hf_lin hs 156 rfl) (by decide) (by decide) hw1038 rfl (hs.2.2 156 2 _ rfl) ?_
    refine hf_sipush (v := 287) dX12_sortsMatters_45 (by decide) ?_
    refine hf_iconst (v := 3) dX12_sortsMatters_48 (by decide) ?_
    refine hf_iload_n dX12_sortsMatters_49 rfl rfl ?_
    refine hf_imul dX12_sortsMatters_50 ?_
    refine hf_iadd dX12_sortsMatters_51 ?_
    refine hf_iconst (v := 1) dX12_sortsMatters_52 (by decide) ?_
    refine hf_iadd dX12_sortsMatters_53 ?_
    refine hf_iald dX12_sortsMatters_54 (hs.2.1 158 _ rfl) (hf_lin hs 158 rfl) h.1 ?_
    replace h := h.2
    refine hf_icmp_le (tgt := 78) dX12_sortsMatters_55 (by decide) (fun hc => ?_) (fun hc => ?_)
    · replace h := h.1 hc
      refine hf_aload_n dX12_sortsMatters_78 rfl rfl ?_
      refine hf_getr (b := 179) (c := 12) (j := 40) dX12_sortsMatters_79 (hs.2.1 156 _ rfl) (hf_lin hs 156 rfl) (by decide) (by decide) hw1076 rfl (hs.2.2 156 40 _ rfl) ?_
      refine hf_iload_n dX12_sortsMatters_82 rfl rfl ?_
      refine hf_iload_n dX12_sortsMatters_83 rfl rfl ?_
      refine hf_iast dX12_sortsMatters_84 (hs.2.1 179 _ rfl) (hf_lin hs 179 rfl) h.1 ?_
      replace h := h.2
      refine hf_iinc (v := (x1 + 1)) (l2 := [some (.ref 156), some (.int (x1 + 1)), some (.int x2)]) dX12_sortsMatters_85 (by decide) rfl rfl rfl ?_
      refine hf_goto (tgt := 2) dX12_sortsMatters_88 (by decide) ?_
      refine hf_drop (l' := [some (.ref 156), some (.int (x1 + 1)), none]) (by simp [hf_sub]) ?_
      exact h
    · replace h := h.2 hc
      refine hf_aload_n dX12_sortsMatters_58 rfl rfl ?_
      refine hf_getr (b := 179) (c := 12) (j := 40) dX12_sortsMatters_59 (hs.2.1 156 _ rfl) (hf_lin hs 156 rfl) (by decide) (by decide) hw1076 rfl (hs.2.2 156 40 _ rfl) ?_
      refine hf_iload_n dX12_sortsMatters_62 rfl rfl ?_
      refine hf_aload_n dX12_sortsMatters_63 rfl rfl ?_
      refine hf_getr (b := 179) (c := 12) (j := 40) dX12_sortsMatters_64 (hs.2.1 156 _ rfl) (hf_lin hs 156 rfl) (by decide) (by decide) hw1076 rfl (hs.2.2 156 40 _ rfl) ?_
      refine hf_iload_n dX12_sortsMatters_67 rfl rfl ?_
      refine hf_iconst (v := 1) dX12_sortsMatters_68 (by decide) ?_
      refine hf_isub dX12_sortsMatters_69 ?_
      refine hf_iald dX12_sortsMatters_70 (hs.2.1 179 _ rfl) (hf_lin hs 179 rfl) h.1 ?_
      replace h := h.2
      refine hf_iast dX12_sortsMatters_71 (hs.2.1 179 _ rfl) (hf_lin hs 179 rfl) h.1 ?_
      replace h := h.2
      refine hf_iinc (v := (x2 + (-1))) (l2 := [some (.ref 156), some (.int x1), some (.int (x2 + (-1)))]) dX12_sortsMatters_72 (by decide) rfl rfl rfl ?_
      refine hf_goto (tgt := 16) dX12_sortsMatters_75 (by decide) ?_
      exact h

set_option maxHeartbeats 4000000 in
theorem w_X12_doneBy_0 {X : hf_X} {d k n t : Nat} {T : hf_T} {I : hf_I} {L : hf_L} {P : hf_P} {Q : Option Value → hf_M → Prop} {x1 : Int32} (hs : hf_Lay t T P) (h : hf_G X Y_X12_doneBy d k n 4 [some (.ref 156), some (.int x1), some (.int 0), some (.int 0)] [] (t, T, I, L, P) Q) : hf_G X Y_X12_doneBy d k n 0 (hf_en [.ref 156, .int x1] 4) [] (t, T, I, L, P) Q := by
  show hf_G X Y_X12_doneBy d k n 0 [some (.ref 156), some (.int x1), none, none] [] (t, T, I, L, P) Q
  refine hf_iconst (v := 0) dX12_doneBy_0 (by decide) ?_
  refine hf_istore_n (l2 := [some (.ref 156), some (.int x1), some (.int 0), none]) dX12_doneBy_1 rfl (by decide) rfl ?_
  refine hf_iconst (v := 0) dX12_doneBy_2 (by decide) ?_
  refine hf_istore_n (l2 := [some (.ref 156), some (.int x1), some (.int 0), some (.int 0)]) dX12_doneBy_3 rfl (by decide) rfl ?_
  exact h

set_option maxHeartbeats 4000000 in
theorem w_X12_doneBy_4 {X : hf_X} {d k n t : Nat} {T : hf_T} {I : hf_I} {L : hf_L} {P : hf_P} {Q : Option Value → hf_M → Prop} {x1 : Int32} {x2 : Int32} {x3 : Int32} (hs : hf_Lay t T P) (h : ((I 158 319) ≤ x3 → Q (some (.int x2)) (t, T, I, L, P)) ∧ (¬ ((I 158 319) ≤ x3) → vp_in x3 8 ∧ ((¬ ((x1 >>> ((I 179 x3.toNatClampNeg) &&& 31)) &&& 1) = 1 → hf_G X Y_X12_doneBy (d + 1) k n 4 [some (.ref 156), some (.int x1), some (.int x2), some (.int (x3 + 1))] [] (t, T, I, L, P) Q) ∧ (((x1 >>> ((I 179 x3.toNatClampNeg) &&& 31)) &&& 1) = 1 → vp_in x3 8 ∧ (vp_in (287 + (3 * (I 179 x3.toNatClampNeg))) 5929 ∧ (vp_in x3 8 ∧ (vp_in ((287 + (3 * (I 179 x3.toNatClampNeg))) + 1) 5929 ∧ (((x2 + (I 158 (((287 + (3 * (I 179 x3.toNatClampNeg)))).toNatClampNeg))) ≤ (I 158 ((((287 + (3 * (I 179 x3.toNatClampNeg))) + 1)).toNatClampNeg)) → hf_G X Y_X12_doneBy (d + 1) k n 4 [some (.ref 156), some (.int x1), some (.int (x2 + (I 158 (((287 + (3 * (I 179 x3.toNatClampNeg)))).toNatClampNeg)))), some (.int (x3 + 1))] [] (t, T, I, L, P) Q) ∧ (¬ ((x2 + (I 158 (((287 + (3 * (I 179 x3.toNatClampNeg)))).toNatClampNeg))) ≤ (I 158 ((((287 + (3 * (I 179 x3.toNatClampNeg))) + 1)).toNatClampNeg))) → Q (some (.int 1000000)) (t, T, I, L, P)))))))))) : hf_G X Y_X12_doneBy (d + 1) k n 4 [some (.ref 156), some (.int x1), some (.int x2), some (.int x3)] [] (t, T, I, L, P) Q := by
  refine hf_iload_n dX12_doneBy_4 rfl rfl ?_
  refine hf_aload_n dX12_doneBy_5 rfl rfl ?_
  refine hf_getr (b := 158) (c := 12) (j := 2) dX12_doneBy_6 (hs.2.1 156 _ rfl) (hf_lin hs 156 rfl) (by decide) (by decide) hw1038 rfl (hs.2.2 156 2 _ rfl) ?_
  refine hf_sipush (v := 319) dX12_doneBy_9 (by decide) ?_
  refine hf_iald_k (j := 319) (by decide) dX12_doneBy_12 (hs.2.1 158 _ rfl) (hf_lin hs 158 rfl) (hf_vin (by decide)) ?_
  refine hf_icmp_ge (tgt := 84) dX12_doneBy_13 (by decide) (fun hc => ?_) (fun hc => ?_)
  · replace h := h.1 hc
    refine hf_iload_n dX12_doneBy_84 rfl rfl ?_
    refine hf_ireturn dX12_doneBy_85 rfl rfl ?_
    exact h
  · replace h := h.2 hc
    refine hf_iload_n dX12_doneBy_16 rfl rfl ?_
    refine hf_aload_n dX12_doneBy_17 rfl rfl ?_
    refine hf_getr (b := 179) (c := 12) (j := 40) dX12_doneBy_18 (hs.2.1 156 _ rfl) (hf_lin hs 156 rfl) (by decide) (by decide) hw1076 rfl (hs.2.2 156 40 _ rfl) ?_
    refine hf_iload_n dX12_doneBy_21 rfl rfl ?_
    refine hf_iald dX12_doneBy_22 (hs.2.1 179 _ rfl) (hf_lin hs 179 rfl) h.1 ?_
    replace h := h.2
    refine hf_callS (as := [.int x1, .int (I 179 x3.toNatClampNeg)]) ok_X12_isIn dX12_doneBy_23 hw1472 hw1473 rfl (Nat.le_of_ble_eq_true rfl) rfl (Nat.le_of_ble_eq_true rfl) (Nat.zero_le _) (Nat.zero_le _) ?_
    show hf_G X Y_X12_isIn d _ _ 0 [some (.int x1), some (.int (I 179 x3.toNatClampNeg))] [] (t, T, I, L, P) _
    refine hf_iload_n dX12_isIn_0 rfl rfl ?_
    refine hf_iload_n dX12_isIn_1 rfl rfl ?_
    refine hf_ishr dX12_isIn_2 ?_
    refine hf_iconst (v := 1) dX12_isIn_3 (by decide) ?_
    refine hf_iand dX12_isIn_4 ?_
    refine hf_iconst (v := 1) dX12_isIn_5 (by decide) ?_
    refine hf_icmp_ne (tgt := 13) dX12_isIn_6 (by decide) (fun hc => ?_) (fun hc => ?_)
    · replace h := h.1 hc
      refine hf_iconst (v := 0) dX12_isIn_13 (by decide) ?_
      refine hf_ireturn dX12_isIn_14 rfl (by decide) ?_
      show hf_G X Y_X12_doneBy (d + 1) _ _ 26 [some (.ref 156), some (.int x1), some (.int x2), some (.int x3)] [.int 0] (t, T, I, L, P) _
      refine hf_if_ne (tgt := 32) dX12_doneBy_26 (by decide) (fun hc => absurd (show ¬ (0 : Int32) = (0 : Int32) from hc) (by decide)) (fun _ => ?_)
      refine hf_goto (tgt := 78) dX12_doneBy_29 (by decide) ?_
      refine hf_iinc (v := (x3 + 1)) (l2 := [some (.ref 156), some (.int x1), some (.int x2), some (.int (x3 + 1))]) dX12_doneBy_78 (by decide) rfl rfl rfl ?_
      refine hf_goto (tgt := 4) dX12_doneBy_81 (by decide) ?_
      exact h
    · replace h := h.2 hc
      refine hf_iconst (v := 1) dX12_isIn_9 (by decide) ?_
      refine hf_goto (tgt := 14) dX12_isIn_10 (by decide) ?_
      refine hf_ireturn dX12_isIn_14 rfl (by decide) ?_
      show hf_G X Y_X12_doneBy (d + 1) _ _ 26 [some (.ref 156), some (.int x1), some (.int x2), some (.int x3)] [.int 1] (t, T, I, L, P) _
      refine hf_if_ne (tgt := 32) dX12_doneBy_26 (by decide) (fun _ => ?_) (fun hc => absurd (show (1 : Int32) = (0 : Int32) from hc) (by decide))
      refine hf_iload_n dX12_doneBy_32 rfl rfl ?_
      refine hf_aload_n dX12_doneBy_33 rfl rfl ?_
      refine hf_getr (b := 158) (c := 12) (j := 2) dX12_doneBy_34 (hs.2.1 156 _ rfl) (hf_lin hs 156 rfl) (by decide) (by decide) hw1038 rfl (hs.2.2 156 2 _ rfl) ?_
      refine hf_sipush (v := 287) dX12_doneBy_37 (by decide) ?_
      refine hf_iconst (v := 3) dX12_doneBy_40 (by decide) ?_
      refine hf_aload_n dX12_doneBy_41 rfl rfl ?_
      refine hf_getr (b := 179) (c := 12) (j := 40) dX12_doneBy_42 (hs.2.1 156 _ rfl) (hf_lin hs 156 rfl) (by decide) (by decide) hw1076 rfl (hs.2.2 156 40 _ rfl) ?_
      refine hf_iload_n dX12_doneBy_45 rfl rfl ?_
      refine hf_iald dX12_doneBy_46 (hs.2.1 179 _ rfl) (hf_lin hs 179 rfl) h.1 ?_
      replace h := h.2
      refine hf_imul dX12_doneBy_47 ?_
      refine hf_iadd dX12_doneBy_48 ?_
      refine hf_iald dX12_doneBy_49 (hs.2.1 158 _ rfl) (hf_lin hs 158 rfl) h.1 ?_
      replace h := h.2
      refine hf_iadd dX12_doneBy_50 ?_
      refine hf_istore_n (l2 := [some (.ref 156), some (.int x1), some (.int (x2 + (I 158 (((287 + (3 * (I 179 x3.toNatClampNeg)))).toNatClampNeg)))), some (.int x3)]) dX12_doneBy_51 rfl (by decide) rfl ?_
      refine hf_iload_n dX12_doneBy_52 rfl rfl ?_
      refine hf_aload_n dX12_doneBy_53 rfl rfl ?_
      refine hf_getr (b := 158) (c := 12) (j := 2) dX12_doneBy_54 (hs.2.1 156 _ rfl) (hf_lin hs 156 rfl) (by decide) (by decide) hw1038 rfl (hs.2.2 156 2 _ rfl) ?_
      refine hf_sipush (v := 287) dX12_doneBy_57 (by decide) ?_
      refine hf_iconst (v := 3) dX12_doneBy_60 (by decide) ?_
      refine hf_aload_n dX12_doneBy_61 rfl rfl ?_
      refine hf_getr (b := 179) (c := 12) (j := 40) dX12_doneBy_62 (hs.2.1 156 _ rfl) (hf_lin hs 156 rfl) (by decide) (by decide) hw1076 rfl (hs.2.2 156 40 _ rfl) ?_
      refine hf_iload_n dX12_doneBy_65 rfl rfl ?_
      refine hf_iald dX12_doneBy_66 (hs.2.1 179 _ rfl) (hf_lin hs 179 rfl) h.1 ?_
      replace h := h.2
      refine hf_imul dX12_doneBy_67 ?_
      refine hf_iadd dX12_doneBy_68 ?_
      refine hf_iconst (v := 1) dX12_doneBy_69 (by decide) ?_
      refine hf_iadd dX12_doneBy_70 ?_
      refine hf_iald dX12_doneBy_71 (hs.2.1 158 _ rfl) (hf_lin hs 158 rfl) h.1 ?_
      replace h := h.2
      refine hf_icmp_le (tgt := 78) dX12_doneBy_72 (by decide) (fun hc => ?_) (fun hc => ?_)
      · replace h := h.1 hc
        refine hf_iinc (v := (x3 + 1)) (l2 := [some (.ref 156), some (.int x1), some (.int (x2 + (I 158 (((287 + (3 * (I 179 x3.toNatClampNeg)))).toNatClampNeg)))), some (.int (x3 + 1))]) dX12_doneBy_78 (by decide) rfl rfl rfl ?_
        refine hf_goto (tgt := 4) dX12_doneBy_81 (by decide) ?_
        exact h
      · replace h := h.2 hc
        refine hf_ldc (v := 1000000) dX12_doneBy_75 hw1298 ?_
        refine hf_ireturn dX12_doneBy_77 rfl rfl ?_
        exact h

set_option maxHeartbeats 4000000 in
theorem w_X12_edition_0 {X : hf_X} {d k n t : Nat} {T : hf_T} {I : hf_I} {L : hf_L} {P : hf_P} {Q : Option Value → hf_M → Prop} {x1 : Int32} (hs : hf_Lay t T P) (h : (0 ≤ x1 → hf_G X Y_X12_sortsMatters d 0 0 0 (hf_en [.ref 156] 3) [] (t, T, I, L, P) (fun r M => hf_G X Y_X12_edition (d + 1) k n 10 [some (.ref 156), some (.int x1), none, none, none, none, none] (r.toList ++ []) M Q)) ∧ (¬ (0 ≤ x1) → Q (some (.int (-1))) (t, T, I, L, P))) : hf_G X Y_X12_edition (d + 1) k n 0 (hf_en [.ref 156, .int x1] 7) [] (t, T, I, L, P) Q := by
  show hf_G X Y_X12_edition (d + 1) k n 0 [some (.ref 156), some (.int x1), none, none, none, none, none] [] (t, T, I, L, P) Q
  refine hf_iload_n dX12_edition_0 rfl rfl ?_
  refine hf_if_ge (tgt := 6) dX12_edition_1 (by decide) (fun hc => ?_) (fun hc => ?_)
  · replace h := h.1 hc
    refine hf_aload_n dX12_edition_6 rfl rfl ?_
    exact hf_callV (c := 12) (as := []) ok_X12_sortsMatters dX12_edition_7 hw1499 hw1500 hw1664 (hs.2.1 156 _ rfl) (by decide) (hf_lin hs 156 rfl) rfl (Nat.le_of_ble_eq_true rfl) rfl (Nat.le_of_ble_eq_true rfl) (Nat.zero_le _) (Nat.zero_le _) h
  · replace h := h.2 hc
    refine hf_iconst (v := (-1)) dX12_edition_4 (by decide) ?_
    refine hf_ireturn dX12_edition_5 rfl rfl ?_
    exact h

set_option maxHeartbeats 4000000 in
theorem w_X12_edition_10 {X : hf_X} {d k n t : Nat} {T : hf_T} {I : hf_I} {L : hf_L} {P : hf_P} {Q : Option Value → hf_M → Prop} {x1 : Int32} (hs : hf_Lay t T P) (h : hf_G X Y_X12_edition d k n 17 [some (.ref 156), some (.int x1), some (.int 0), some (.int 0), some (.int 1), none, none] [] (t, T, I, L, P) Q) : hf_G X Y_X12_edition d k n 10 [some (.ref 156), some (.int x1), none, none, none, none, none] [] (t, T, I, L, P) Q := by
  refine hf_iconst (v := 0) dX12_edition_10 (by decide) ?_
  refine hf_istore_n (l2 := [some (.ref 156), some (.int x1), some (.int 0), none, none, none, none]) dX12_edition_11 rfl (by decide) rfl ?_
  refine hf_iconst (v := 0) dX12_edition_12 (by decide) ?_
  refine hf_istore_n (l2 := [some (.ref 156), some (.int x1), some (.int 0), some (.int 0), none, none, none]) dX12_edition_13 rfl (by decide) rfl ?_
  refine hf_iconst (v := 1) dX12_edition_14 (by decide) ?_
  refine hf_istore (l2 := [some (.ref 156), some (.int x1), some (.int 0), some (.int 0), some (.int 1), none, none]) dX12_edition_15 (by decide) rfl ?_
  exact h

set_option maxHeartbeats 4000000 in
theorem w_X12_edition_17 {X : hf_X} {d k n t : Nat} {T : hf_T} {I : hf_I} {L : hf_L} {P : hf_P} {Q : Option Value → hf_M → Prop} {x1 : Int32} {x2 : Int32} {x3 : Int32} {x4 : Int32} (hs : hf_Lay t T P) (h : ((1 <<< ((I 158 319) &&& 31)) ≤ x4 → (3 ≤ x1 → hf_G X Y_X12_ones d 0 0 0 (hf_en [.int x2] 3) [] (t, T, I, L, P) (fun r M => hf_G X Y_X12_edition (d + 1) k n 162 [some (.ref 156), none, some (.int x2), none, some (.int (x1 - 3)), none, none] (r.toList ++ [.int (x1 - 3)]) M Q)) ∧ (¬ (3 ≤ x1) → (¬ x1 = 0 → (¬ x1 = 1 → hf_G X Y_X12_doneBy d 0 0 0 (hf_en [.ref 156, .int x2] 4) [] (t, T, I, L, P) (fun r M => hf_G X Y_X12_edition (d + 1) k n 150 [none, none, none, none, none, none, none] (r.toList ++ []) M Q)) ∧ (x1 = 1 → Q (some (.int x2)) (t, T, I, L, P))) ∧ (x1 = 0 → Q (some (.int x3)) (t, T, I, L, P)))) ∧ (¬ ((1 <<< ((I 158 319) &&& 31)) ≤ x4) → hf_G X Y_X12_edition (d + 1) k n 38 [some (.ref 156), some (.int x1), some (.int x2), some (.int x3), some (.int x4), some (.int 0), some (.int 0)] [] (t, T, I, L, P) Q)) : hf_G X Y_X12_edition (d + 1) k n 17 [some (.ref 156), some (.int x1), some (.int x2), some (.int x3), some (.int x4), none, none] [] (t, T, I, L, P) Q := by
  refine hf_iload dX12_edition_17 rfl ?_
  refine hf_iconst (v := 1) dX12_edition_19 (by decide) ?_
  refine hf_aload_n dX12_edition_20 rfl rfl ?_
  refine hf_getr (b := 158) (c := 12) (j := 2) dX12_edition_21 (hs.2.1 156 _ rfl) (hf_lin hs 156 rfl) (by decide) (by decide) hw1038 rfl (hs.2.2 156 2 _ rfl) ?_
  refine hf_sipush (v := 319) dX12_edition_24 (by decide) ?_
  refine hf_iald_k (j := 319) (by decide) dX12_edition_27 (hs.2.1 158 _ rfl) (hf_lin hs 158 rfl) (hf_vin (by decide)) ?_
  refine hf_ishl dX12_edition_28 ?_
  refine hf_icmp_ge (tgt := 123) dX12_edition_29 (by decide) (fun hc => ?_) (fun hc => ?_)
  · replace h := h.1 hc
    refine hf_iload_n dX12_edition_123 rfl rfl ?_
    refine hf_iconst (v := 3) dX12_edition_124 (by decide) ?_
    refine hf_icmp_ge (tgt := 151) dX12_edition_125 (by decide) (fun hc => ?_) (fun hc => ?_)
    · replace h := h.1 hc
      refine hf_iload_n dX12_edition_151 rfl rfl ?_
      refine hf_iconst (v := 3) dX12_edition_152 (by decide) ?_
      refine hf_isub dX12_edition_153 ?_
      refine hf_istore (l2 := [some (.ref 156), some (.int x1), some (.int x2), some (.int x3), some (.int (x1 - 3)), none, none]) dX12_edition_154 (by decide) rfl ?_
      refine hf_iload dX12_edition_156 rfl ?_
      refine hf_iload_n dX12_edition_158 rfl rfl ?_
      exact hf_callS (as := [.int x2]) ok_X12_ones dX12_edition_159 hw1505 hw1506 rfl (Nat.le_of_ble_eq_true rfl) rfl (Nat.le_of_ble_eq_true rfl) (Nat.zero_le _) (Nat.zero_le _) (hf_mono (fun r M q => hf_drop (l' := [some (.ref 156), none, some (.int x2), none, some (.int (x1 - 3)), none, none]) (by simp [hf_sub]) q) h)
    · replace h := h.2 hc
      refine hf_iload_n dX12_edition_128 rfl rfl ?_
      refine hf_if_ne (tgt := 136) dX12_edition_129 (by decide) (fun hc => ?_) (fun hc => ?_)
      · replace h := h.1 hc
        refine hf_iload_n dX12_edition_136 rfl rfl ?_
        refine hf_iconst (v := 1) dX12_edition_137 (by decide) ?_
        refine hf_icmp_ne (tgt := 145) dX12_edition_138 (by decide) (fun hc => ?_) (fun hc => ?_)
        · replace h := h.1 hc
          refine hf_aload_n dX12_edition_145 rfl rfl ?_
          refine hf_iload_n dX12_edition_146 rfl rfl ?_
          exact hf_callV (c := 12) (as := [.int x2]) ok_X12_doneBy dX12_edition_147 hw1502 hw1503 hw1665 (hs.2.1 156 _ rfl) (by decide) (hf_lin hs 156 rfl) rfl (Nat.le_of_ble_eq_true rfl) rfl (Nat.le_of_ble_eq_true rfl) (Nat.zero_le _) (Nat.zero_le _) (hf_mono (fun r M q => hf_drop (l' := [none, none, none, none, none, none, none]) (by simp [hf_sub]) q) h)
        · replace h := h.2 hc
          refine hf_iload_n dX12_edition_141 rfl rfl ?_
          refine hf_goto (tgt := 150) dX12_edition_142 (by decide) ?_
          refine hf_ireturn dX12_edition_150 rfl rfl ?_
          exact h
      · replace h := h.2 hc
        refine hf_iload_n dX12_edition_132 rfl rfl ?_
        refine hf_goto (tgt := 150) dX12_edition_133 (by decide) ?_
        refine hf_ireturn dX12_edition_150 rfl rfl ?_
        exact h
  · replace h := h.2 hc
    refine hf_iconst (v := 0) dX12_edition_32 (by decide) ?_
    refine hf_istore (l2 := [some (.ref 156), some (.int x1), some (.int x2), some (.int x3), some (.int x4), some (.int 0), none]) dX12_edition_33 (by decide) rfl ?_
    refine hf_iconst (v := 0) dX12_edition_35 (by decide) ?_
    refine hf_istore (l2 := [some (.ref 156), some (.int x1), some (.int x2), some (.int x3), some (.int x4), some (.int 0), some (.int 0)]) dX12_edition_36 (by decide) rfl ?_
    exact h

set_option maxHeartbeats 4000000 in
theorem w_X12_edition_38 {X : hf_X} {d k n t : Nat} {T : hf_T} {I : hf_I} {L : hf_L} {P : hf_P} {Q : Option Value → hf_M → Prop} {x1 : Int32} {x2 : Int32} {x3 : Int32} {x4 : Int32} {x5 : Int32} {x6 : Int32} (hs : hf_Lay t T P) (h : ((I 158 319) ≤ x6 → (x5 ≤ x3 → hf_G X Y_X12_edition (d + 1) k n 17 [some (.ref 156), some (.int x1), some (.int x2), some (.int x3), some (.int (x4 + 1)), none, none] [] (t, T, I, L, P) Q) ∧ (¬ (x5 ≤ x3) → hf_G X Y_X12_doneBy d 0 0 0 (hf_en [.ref 156, .int x4] 4) [] (t, T, I, L, P) (fun r M => hf_G X Y_X12_edition (d + 1) k n 103 [some (.ref 156), some (.int x1), some (.int x2), some (.int x3), some (.int x4), some (.int x5), none] (r.toList ++ []) M Q))) ∧ (¬ ((I 158 319) ≤ x6) → (¬ ((x4 >>> (x6 &&& 31)) &&& 1) = 1 → hf_G X Y_X12_edition (d + 1) k n 38 [some (.ref 156), some (.int x1), some (.int x2), some (.int x3), some (.int x4), some (.int (x5 + 0)), some (.int (x6 + 1))] [] (t, T, I, L, P) Q) ∧ (((x4 >>> (x6 &&& 31)) &&& 1) = 1 → vp_in ((287 + (3 * x6)) + 2) 5929 ∧ (hf_G X Y_X12_edition (d + 1) k n 38 [some (.ref 156), some (.int x1), some (.int x2), some (.int x3), some (.int x4), some (.int (x5 + (I 158 ((((287 + (3 * x6)) + 2)).toNatClampNeg)))), some (.int (x6 + 1))] [] (t, T, I, L, P) Q)))) : hf_G X Y_X12_edition (d + 1) k n 38 [some (.ref 156), some (.int x1), some (.int x2), some (.int x3), some (.int x4), some (.int x5), some (.int x6)] [] (t, T, I, L, P) Q := by
  refine hf_iload dX12_edition_38 rfl ?_
  refine hf_aload_n dX12_edition_40 rfl rfl ?_
  refine hf_getr (b := 158) (c := 12) (j := 2) dX12_edition_41 (hs.2.1 156 _ rfl) (hf_lin hs 156 rfl) (by decide) (by decide) hw1038 rfl (hs.2.2 156 2 _ rfl) ?_
  refine hf_sipush (v := 319) dX12_edition_44 (by decide) ?_
  refine hf_iald_k (j := 319) (by decide) dX12_edition_47 (hs.2.1 158 _ rfl) (hf_lin hs 158 rfl) (hf_vin (by decide)) ?_
  refine hf_icmp_ge (tgt := 91) dX12_edition_48 (by decide) (fun hc => ?_) (fun hc => ?_)
  · replace h := h.1 hc
    refine hf_iload dX12_edition_91 rfl ?_
    refine hf_iload_n dX12_edition_93 rfl rfl ?_
    refine hf_icmp_le (tgt := 117) dX12_edition_94 (by decide) (fun hc => ?_) (fun hc => ?_)
    · replace h := h.1 hc
      refine hf_iinc (v := (x4 + 1)) (l2 := [some (.ref 156), some (.int x1), some (.int x2), some (.int x3), some (.int (x4 + 1)), some (.int x5), some (.int x6)]) dX12_edition_117 (by decide) rfl rfl rfl ?_
      refine hf_goto (tgt := 17) dX12_edition_120 (by decide) ?_
      refine hf_drop (l' := [some (.ref 156), some (.int x1), some (.int x2), some (.int x3), some (.int (x4 + 1)), none, none]) (by simp [hf_sub]) ?_
      exact h
    · replace h := h.2 hc
      refine hf_aload_n dX12_edition_97 rfl rfl ?_
      refine hf_iload dX12_edition_98 rfl ?_
      exact hf_callV (c := 12) (as := [.int x4]) ok_X12_doneBy dX12_edition_100 hw1502 hw1503 hw1665 (hs.2.1 156 _ rfl) (by decide) (hf_lin hs 156 rfl) rfl (Nat.le_of_ble_eq_true rfl) rfl (Nat.le_of_ble_eq_true rfl) (Nat.zero_le _) (Nat.zero_le _) (hf_mono (fun r M q => hf_drop (l' := [some (.ref 156), some (.int x1), some (.int x2), some (.int x3), some (.int x4), some (.int x5), none]) (by simp [hf_sub]) q) h)
  · replace h := h.2 hc
    refine hf_iload dX12_edition_51 rfl ?_
    refine hf_iload dX12_edition_53 rfl ?_
    refine hf_iload dX12_edition_55 rfl ?_
    refine hf_callS (as := [.int x4, .int x6]) ok_X12_isIn dX12_edition_57 hw1472 hw1473 rfl (Nat.le_of_ble_eq_true rfl) rfl (Nat.le_of_ble_eq_true rfl) (Nat.zero_le _) (Nat.zero_le _) ?_
    show hf_G X Y_X12_isIn d _ _ 0 [some (.int x4), some (.int x6)] [] (t, T, I, L, P) _
    refine hf_iload_n dX12_isIn_0 rfl rfl ?_
    refine hf_iload_n dX12_isIn_1 rfl rfl ?_
    refine hf_ishr dX12_isIn_2 ?_
    refine hf_iconst (v := 1) dX12_isIn_3 (by decide) ?_
    refine hf_iand dX12_isIn_4 ?_
    refine hf_iconst (v := 1) dX12_isIn_5 (by decide) ?_
    refine hf_icmp_ne (tgt := 13) dX12_isIn_6 (by decide) (fun hc => ?_) (fun hc => ?_)
    · replace h := h.1 hc
      refine hf_iconst (v := 0) dX12_isIn_13 (by decide) ?_
      refine hf_ireturn dX12_isIn_14 rfl (by decide) ?_
      show hf_G X Y_X12_edition (d + 1) _ _ 60 [some (.ref 156), some (.int x1), some (.int x2), some (.int x3), some (.int x4), some (.int x5), some (.int x6)] [.int 0, .int x5] (t, T, I, L, P) _
      refine hf_if_eq (tgt := 81) dX12_edition_60 (by decide) (fun _ => ?_) (fun hc => absurd (show (0 : Int32) = (0 : Int32) by decide) hc)
      refine hf_iconst (v := 0) dX12_edition_81 (by decide) ?_
      refine hf_iadd dX12_edition_82 ?_
      refine hf_istore (l2 := [some (.ref 156), some (.int x1), some (.int x2), some (.int x3), some (.int x4), some (.int (x5 + 0)), some (.int x6)]) dX12_edition_83 (by decide) rfl ?_
      refine hf_iinc (v := (x6 + 1)) (l2 := [some (.ref 156), some (.int x1), some (.int x2), some (.int x3), some (.int x4), some (.int (x5 + 0)), some (.int (x6 + 1))]) dX12_edition_85 (by decide) rfl rfl rfl ?_
      refine hf_goto (tgt := 38) dX12_edition_88 (by decide) ?_
      exact h
    · replace h := h.2 hc
      refine hf_iconst (v := 1) dX12_isIn_9 (by decide) ?_
      refine hf_goto (tgt := 14) dX12_isIn_10 (by decide) ?_
      refine hf_ireturn dX12_isIn_14 rfl (by decide) ?_
      show hf_G X Y_X12_edition (d + 1) _ _ 60 [some (.ref 156), some (.int x1), some (.int x2), some (.int x3), some (.int x4), some (.int x5), some (.int x6)] [.int 1, .int x5] (t, T, I, L, P) _
      refine hf_if_eq (tgt := 81) dX12_edition_60 (by decide) (fun hc => absurd (show (1 : Int32) = (0 : Int32) from hc) (by decide)) (fun _ => ?_)
      refine hf_aload_n dX12_edition_63 rfl rfl ?_
      refine hf_getr (b := 158) (c := 12) (j := 2) dX12_edition_64 (hs.2.1 156 _ rfl) (hf_lin hs 156 rfl) (by decide) (by decide) hw1038 rfl (hs.2.2 156 2 _ rfl) ?_
      refine hf_sipush (v := 287) dX12_edition_67 (by decide) ?_
      refine hf_iconst (v := 3) dX12_edition_70 (by decide) ?_
      refine hf_iload dX12_edition_71 rfl ?_
      refine hf_imul dX12_edition_73 ?_
      refine hf_iadd dX12_edition_74 ?_
      refine hf_iconst (v := 2) dX12_edition_75 (by decide) ?_
      refine hf_iadd dX12_edition_76 ?_
      refine hf_iald dX12_edition_77 (hs.2.1 158 _ rfl) (hf_lin hs 158 rfl) h.1 ?_
      replace h := h.2
      refine hf_goto (tgt := 82) dX12_edition_78 (by decide) ?_
      refine hf_iadd dX12_edition_82 ?_
      refine hf_istore (l2 := [some (.ref 156), some (.int x1), some (.int x2), some (.int x3), some (.int x4), some (.int (x5 + (I 158 ((((287 + (3 * x6)) + 2)).toNatClampNeg)))), some (.int x6)]) dX12_edition_83 (by decide) rfl ?_
      refine hf_iinc (v := (x6 + 1)) (l2 := [some (.ref 156), some (.int x1), some (.int x2), some (.int x3), some (.int x4), some (.int (x5 + (I 158 ((((287 + (3 * x6)) + 2)).toNatClampNeg)))), some (.int (x6 + 1))]) dX12_edition_85 (by decide) rfl rfl rfl ?_
      refine hf_goto (tgt := 38) dX12_edition_88 (by decide) ?_
      exact h

set_option maxHeartbeats 4000000 in
theorem w_X12_edition_162 {X : hf_X} {d k n t : Nat} {T : hf_T} {I : hf_I} {L : hf_L} {P : hf_P} {Q : Option Value → hf_M → Prop} {x2 : Int32} {x4 : Int32} {s0 : Int32} {s1 : Int32} (hs : hf_Lay t T P) (h : (s1 < s0 → hf_G X Y_X12_edition d k n 173 [some (.ref 156), none, some (.int x2), none, some (.int x4), some (.int 0), some (.int 0)] [] (t, T, I, L, P) Q) ∧ (¬ (s1 < s0) → Q (some (.int (-1))) (t, T, I, L, P))) : hf_G X Y_X12_edition d k n 162 [some (.ref 156), none, some (.int x2), none, some (.int x4), none, none] [.int s0, .int s1] (t, T, I, L, P) Q := by
  refine hf_icmp_lt (tgt := 167) dX12_edition_162 (by decide) (fun hc => ?_) (fun hc => ?_)
  · replace h := h.1 hc
    refine hf_iconst (v := 0) dX12_edition_167 (by decide) ?_
    refine hf_istore (l2 := [some (.ref 156), none, some (.int x2), none, some (.int x4), some (.int 0), none]) dX12_edition_168 (by decide) rfl ?_
    refine hf_iconst (v := 0) dX12_edition_170 (by decide) ?_
    refine hf_istore (l2 := [some (.ref 156), none, some (.int x2), none, some (.int x4), some (.int 0), some (.int 0)]) dX12_edition_171 (by decide) rfl ?_
    exact h
  · replace h := h.2 hc
    refine hf_iconst (v := (-1)) dX12_edition_165 (by decide) ?_
    refine hf_ireturn dX12_edition_166 rfl rfl ?_
    exact h

set_option maxHeartbeats 4000000 in
theorem w_X12_edition_150 {X : hf_X} {d k n t : Nat} {T : hf_T} {I : hf_I} {L : hf_L} {P : hf_P} {Q : Option Value → hf_M → Prop} {s0 : Int32} (hs : hf_Lay t T P) (h : Q (some (.int s0)) (t, T, I, L, P)) : hf_G X Y_X12_edition d k n 150 [none, none, none, none, none, none, none] [.int s0] (t, T, I, L, P) Q := by
  refine hf_ireturn dX12_edition_150 rfl rfl ?_
  exact h

set_option maxHeartbeats 4000000 in
theorem w_X12_edition_103 {X : hf_X} {d k n t : Nat} {T : hf_T} {I : hf_I} {L : hf_L} {P : hf_P} {Q : Option Value → hf_M → Prop} {x1 : Int32} {x2 : Int32} {x3 : Int32} {x4 : Int32} {x5 : Int32} {s0 : Int32} (hs : hf_Lay t T P) (h : (¬ s0 = 1000000 → hf_G X Y_X12_edition d k n 17 [some (.ref 156), some (.int x1), some (.int x4), some (.int x5), some (.int (x4 + 1)), none, none] [] (t, T, I, L, P) Q) ∧ (s0 = 1000000 → hf_G X Y_X12_edition d k n 17 [some (.ref 156), some (.int x1), some (.int x2), some (.int x3), some (.int (x4 + 1)), none, none] [] (t, T, I, L, P) Q)) : hf_G X Y_X12_edition d k n 103 [some (.ref 156), some (.int x1), some (.int x2), some (.int x3), some (.int x4), some (.int x5), none] [.int s0] (t, T, I, L, P) Q := by
  refine hf_ldc (v := 1000000) dX12_edition_103 hw1298 ?_
  refine hf_icmp_ne (tgt := 111) dX12_edition_105 (by decide) (fun hc => ?_) (fun hc => ?_)
  · replace h := h.1 hc
    refine hf_iload dX12_edition_111 rfl ?_
    refine hf_istore_n (l2 := [some (.ref 156), some (.int x1), some (.int x4), some (.int x3), some (.int x4), some (.int x5), none]) dX12_edition_113 rfl (by decide) rfl ?_
    refine hf_iload dX12_edition_114 rfl ?_
    refine hf_istore_n (l2 := [some (.ref 156), some (.int x1), some (.int x4), some (.int x5), some (.int x4), some (.int x5), none]) dX12_edition_116 rfl (by decide) rfl ?_
    refine hf_iinc (v := (x4 + 1)) (l2 := [some (.ref 156), some (.int x1), some (.int x4), some (.int x5), some (.int (x4 + 1)), some (.int x5), none]) dX12_edition_117 (by decide) rfl rfl rfl ?_
    refine hf_goto (tgt := 17) dX12_edition_120 (by decide) ?_
    refine hf_drop (l' := [some (.ref 156), some (.int x1), some (.int x4), some (.int x5), some (.int (x4 + 1)), none, none]) (by simp [hf_sub]) ?_
    exact h
  · replace h := h.2 hc
    refine hf_goto (tgt := 117) dX12_edition_108 (by decide) ?_
    refine hf_iinc (v := (x4 + 1)) (l2 := [some (.ref 156), some (.int x1), some (.int x2), some (.int x3), some (.int (x4 + 1)), some (.int x5), none]) dX12_edition_117 (by decide) rfl rfl rfl ?_
    refine hf_goto (tgt := 17) dX12_edition_120 (by decide) ?_
    refine hf_drop (l' := [some (.ref 156), some (.int x1), some (.int x2), some (.int x3), some (.int (x4 + 1)), none, none]) (by simp [hf_sub]) ?_
    exact h

set_option maxHeartbeats 4000000 in
theorem w_X12_edition_173 {X : hf_X} {d k n t : Nat} {T : hf_T} {I : hf_I} {L : hf_L} {P : hf_P} {Q : Option Value → hf_M → Prop} {x2 : Int32} {x4 : Int32} {x5 : Int32} {x6 : Int32} (hs : hf_Lay t T P) (h : ((I 158 319) ≤ x6 → Q (some (.int (-1))) (t, T, I, L, P)) ∧ (¬ ((I 158 319) ≤ x6) → vp_in x6 8 ∧ ((¬ ((x2 >>> ((I 179 x6.toNatClampNeg) &&& 31)) &&& 1) = 1 → hf_G X Y_X12_edition (d + 1) k n 173 [some (.ref 156), none, some (.int x2), none, some (.int x4), some (.int x5), some (.int (x6 + 1))] [] (t, T, I, L, P) Q) ∧ (((x2 >>> ((I 179 x6.toNatClampNeg) &&& 31)) &&& 1) = 1 → (¬ x5 = x4 → hf_G X Y_X12_edition (d + 1) k n 173 [some (.ref 156), none, some (.int x2), none, some (.int x4), some (.int (x5 + 1)), some (.int (x6 + 1))] [] (t, T, I, L, P) Q) ∧ (x5 = x4 → vp_in x6 8 ∧ (Q (some (.int (I 179 x6.toNatClampNeg))) (t, T, I, L, P))))))) : hf_G X Y_X12_edition (d + 1) k n 173 [some (.ref 156), none, some (.int x2), none, some (.int x4), some (.int x5), some (.int x6)] [] (t, T, I, L, P) Q := by
  refine hf_iload dX12_edition_173 rfl ?_
  refine hf_aload_n dX12_edition_175 rfl rfl ?_
  refine hf_getr (b := 158) (c := 12) (j := 2) dX12_edition_176 (hs.2.1 156 _ rfl) (hf_lin hs 156 rfl) (by decide) (by decide) hw1038 rfl (hs.2.2 156 2 _ rfl) ?_
  refine hf_sipush (v := 319) dX12_edition_179 (by decide) ?_
  refine hf_iald_k (j := 319) (by decide) dX12_edition_182 (hs.2.1 158 _ rfl) (hf_lin hs 158 rfl) (hf_vin (by decide)) ?_
  refine hf_icmp_ge (tgt := 227) dX12_edition_183 (by decide) (fun hc => ?_) (fun hc => ?_)
  · replace h := h.1 hc
    refine hf_iconst (v := (-1)) dX12_edition_227 (by decide) ?_
    refine hf_ireturn dX12_edition_228 rfl rfl ?_
    exact h
  · replace h := h.2 hc
    refine hf_iload_n dX12_edition_186 rfl rfl ?_
    refine hf_aload_n dX12_edition_187 rfl rfl ?_
    refine hf_getr (b := 179) (c := 12) (j := 40) dX12_edition_188 (hs.2.1 156 _ rfl) (hf_lin hs 156 rfl) (by decide) (by decide) hw1076 rfl (hs.2.2 156 40 _ rfl) ?_
    refine hf_iload dX12_edition_191 rfl ?_
    refine hf_iald dX12_edition_193 (hs.2.1 179 _ rfl) (hf_lin hs 179 rfl) h.1 ?_
    replace h := h.2
    refine hf_callS (as := [.int x2, .int (I 179 x6.toNatClampNeg)]) ok_X12_isIn dX12_edition_194 hw1472 hw1473 rfl (Nat.le_of_ble_eq_true rfl) rfl (Nat.le_of_ble_eq_true rfl) (Nat.zero_le _) (Nat.zero_le _) ?_
    show hf_G X Y_X12_isIn d _ _ 0 [some (.int x2), some (.int (I 179 x6.toNatClampNeg))] [] (t, T, I, L, P) _
    refine hf_iload_n dX12_isIn_0 rfl rfl ?_
    refine hf_iload_n dX12_isIn_1 rfl rfl ?_
    refine hf_ishr dX12_isIn_2 ?_
    refine hf_iconst (v := 1) dX12_isIn_3 (by decide) ?_
    refine hf_iand dX12_isIn_4 ?_
    refine hf_iconst (v := 1) dX12_isIn_5 (by decide) ?_
    refine hf_icmp_ne (tgt := 13) dX12_isIn_6 (by decide) (fun hc => ?_) (fun hc => ?_)
    · replace h := h.1 hc
      refine hf_iconst (v := 0) dX12_isIn_13 (by decide) ?_
      refine hf_ireturn dX12_isIn_14 rfl (by decide) ?_
      show hf_G X Y_X12_edition (d + 1) _ _ 197 [some (.ref 156), none, some (.int x2), none, some (.int x4), some (.int x5), some (.int x6)] [.int 0] (t, T, I, L, P) _
      refine hf_if_ne (tgt := 203) dX12_edition_197 (by decide) (fun hc => absurd (show ¬ (0 : Int32) = (0 : Int32) from hc) (by decide)) (fun _ => ?_)
      refine hf_goto (tgt := 221) dX12_edition_200 (by decide) ?_
      refine hf_iinc (v := (x6 + 1)) (l2 := [some (.ref 156), none, some (.int x2), none, some (.int x4), some (.int x5), some (.int (x6 + 1))]) dX12_edition_221 (by decide) rfl rfl rfl ?_
      refine hf_goto (tgt := 173) dX12_edition_224 (by decide) ?_
      exact h
    · replace h := h.2 hc
      refine hf_iconst (v := 1) dX12_isIn_9 (by decide) ?_
      refine hf_goto (tgt := 14) dX12_isIn_10 (by decide) ?_
      refine hf_ireturn dX12_isIn_14 rfl (by decide) ?_
      show hf_G X Y_X12_edition (d + 1) _ _ 197 [some (.ref 156), none, some (.int x2), none, some (.int x4), some (.int x5), some (.int x6)] [.int 1] (t, T, I, L, P) _
      refine hf_if_ne (tgt := 203) dX12_edition_197 (by decide) (fun _ => ?_) (fun hc => absurd (show (1 : Int32) = (0 : Int32) from hc) (by decide))
      refine hf_iload dX12_edition_203 rfl ?_
      refine hf_iload dX12_edition_205 rfl ?_
      refine hf_icmp_ne (tgt := 218) dX12_edition_207 (by decide) (fun hc => ?_) (fun hc => ?_)
      · replace h := h.1 hc
        refine hf_iinc (v := (x5 + 1)) (l2 := [some (.ref 156), none, some (.int x2), none, some (.int x4), some (.int (x5 + 1)), some (.int x6)]) dX12_edition_218 (by decide) rfl rfl rfl ?_
        refine hf_iinc (v := (x6 + 1)) (l2 := [some (.ref 156), none, some (.int x2), none, some (.int x4), some (.int (x5 + 1)), some (.int (x6 + 1))]) dX12_edition_221 (by decide) rfl rfl rfl ?_
        refine hf_goto (tgt := 173) dX12_edition_224 (by decide) ?_
        exact h
      · replace h := h.2 hc
        refine hf_aload_n dX12_edition_210 rfl rfl ?_
        refine hf_getr (b := 179) (c := 12) (j := 40) dX12_edition_211 (hs.2.1 156 _ rfl) (hf_lin hs 156 rfl) (by decide) (by decide) hw1076 rfl (hs.2.2 156 40 _ rfl) ?_
        refine hf_iload dX12_edition_214 rfl ?_
        refine hf_iald dX12_edition_216 (hs.2.1 179 _ rfl) (hf_lin hs 179 rfl) h.1 ?_
        replace h := h.2
        refine hf_ireturn dX12_edition_217 rfl rfl ?_
        exact h

set_option maxHeartbeats 4000000 in
theorem w_X12_stopped_0 {X : hf_X} {d k n t : Nat} {T : hf_T} {I : hf_I} {L : hf_L} {P : hf_P} {Q : Option Value → hf_M → Prop}  (hs : hf_Lay t T P) (h : Q (some (.int (I 156 41))) (t, T, I, L, P)) : hf_G X Y_X12_stopped d k n 0 (hf_en [.ref 156] 1) [] (t, T, I, L, P) Q := by
  show hf_G X Y_X12_stopped d k n 0 [some (.ref 156)] [] (t, T, I, L, P) Q
  refine hf_aload_n dX12_stopped_0 rfl rfl ?_
  refine hf_geti (c := 12) (j := 41) dX12_stopped_1 (hs.2.1 156 _ rfl) (hf_lin hs 156 rfl) (by decide) (by decide) hw1077 (Or.inl rfl) ?_
  refine hf_ireturn dX12_stopped_4 rfl rfl ?_
  exact h

set_option maxHeartbeats 4000000 in
theorem w_X12_settings_0 {X : hf_X} {d k n t : Nat} {T : hf_T} {I : hf_I} {L : hf_L} {P : hf_P} {Q : Option Value → hf_M → Prop}  (hs : hf_Lay t T P) (h : hf_G X Y_X12_reads d 0 0 0 (hf_en [.ref 156] 2) [] (t, T, (hf_up (hf_up I 156 41 (-1)) 156 7 1), L, P) (fun r M => hf_G X Y_X12_settings (d + 1) k n 14 [some (.ref 156), none, none, none, none, none, none] (r.toList ++ []) M Q)) : hf_G X Y_X12_settings (d + 1) k n 0 (hf_en [.ref 156] 7) [] (t, T, I, L, P) Q := by
  show hf_G X Y_X12_settings (d + 1) k n 0 [some (.ref 156), none, none, none, none, none, none] [] (t, T, I, L, P) Q
  refine hf_aload_n dX12_settings_0 rfl rfl ?_
  refine hf_iconst (v := (-1)) dX12_settings_1 (by decide) ?_
  refine hf_puti (c := 12) (j := 41) dX12_settings_2 (hs.2.1 156 _ rfl) (hf_lin hs 156 rfl) (by decide) (by decide) hw1077 rfl rfl ?_
  refine hf_aload_n dX12_settings_5 rfl rfl ?_
  refine hf_iconst (v := 1) dX12_settings_6 (by decide) ?_
  refine hf_putz (c := 12) (j := 7) dX12_settings_7 (hs.2.1 156 _ rfl) (hf_lin hs 156 rfl) (by decide) (by decide) hw1043 rfl rfl (by decide) ?_
  refine hf_aload_n dX12_settings_10 rfl rfl ?_
  exact hf_callV (c := 12) (as := []) ok_X12_reads dX12_settings_11 hw1283 hw1284 hw1626 (hs.2.1 156 _ rfl) (by decide) (hf_lin hs 156 rfl) rfl (Nat.le_of_ble_eq_true rfl) rfl (Nat.le_of_ble_eq_true rfl) (Nat.zero_le _) (Nat.zero_le _) h

set_option maxHeartbeats 4000000 in
theorem w_X12_settings_14 {X : hf_X} {d k n t : Nat} {T : hf_T} {I : hf_I} {L : hf_L} {P : hf_P} {Q : Option Value → hf_M → Prop} {s0 : Int32} (hs : hf_Lay t T P) (h : (¬ s0 = 0 → hf_G X Y_X12_settings (d + 1) k n 26 [some (.ref 156), some (.int 0), none, none, none, none, none] [] (t, T, I, L, P) Q) ∧ (s0 = 0 → Q (some (.int (-6))) (t, T, (hf_up (hf_up I 156 0 (-6)) 157 6 ((I 157 6) + 1)), L, P))) : hf_G X Y_X12_settings (d + 1) k n 14 [some (.ref 156), none, none, none, none, none, none] [.int s0] (t, T, I, L, P) Q := by
  refine hf_if_ne (tgt := 24) dX12_settings_14 (by decide) (fun hc => ?_) (fun hc => ?_)
  · replace h := h.1 hc
    refine hf_iconst (v := 0) dX12_settings_24 (by decide) ?_
    refine hf_istore_n (l2 := [some (.ref 156), some (.int 0), none, none, none, none, none]) dX12_settings_25 rfl (by decide) rfl ?_
    exact h
  · replace h := h.2 hc
    refine hf_aload_n dX12_settings_17 rfl rfl ?_
    refine hf_bipush (v := (-6)) dX12_settings_18 (by decide) ?_
    refine hf_callV (c := 12) (as := [.int (-6)]) ok_X12_refuses dX12_settings_20 hw1146 hw1147 hw1601 (hs.2.1 156 _ rfl) (by decide) (hf_lin hs 156 rfl) rfl (Nat.le_of_ble_eq_true rfl) rfl (Nat.le_of_ble_eq_true rfl) (Nat.zero_le _) (Nat.zero_le _) ?_
    show hf_G X Y_X12_refuses d _ _ 0 [some (.ref 156), some (.int (-6))] [] (t, T, I, L, P) _
    refine hf_aload_n dX12_refuses_0 rfl rfl ?_
    refine hf_iload_n dX12_refuses_1 rfl rfl ?_
    refine hf_puti (c := 12) (j := 0) dX12_refuses_2 (hs.2.1 156 _ rfl) (hf_lin hs 156 rfl) (by decide) (by decide) hw1036 rfl rfl ?_
    refine hf_aload_n dX12_refuses_5 rfl rfl ?_
    refine hf_getr (b := 157) (c := 12) (j := 1) dX12_refuses_6 (hs.2.1 156 _ rfl) (hf_lin hs 156 rfl) (by decide) (by decide) hw1037 rfl (hs.2.2 156 1 _ rfl) ?_
    refine hf_iload_n dX12_refuses_9 rfl rfl ?_
    refine hf_ineg dX12_refuses_10 ?_
    rw [show (-(-6) : Int32) = 6 by decide]
    refine hf_dup2 dX12_refuses_11 rfl rfl ?_
    refine hf_iald_k (j := 6) (by decide) dX12_refuses_12 (hs.2.1 157 _ rfl) (hf_lin hs 157 rfl) (hf_vin (by decide)) ?_
    refine hf_iconst (v := 1) dX12_refuses_13 (by decide) ?_
    refine hf_iadd dX12_refuses_14 ?_
    refine hf_iast_k (j := 6) (by decide) dX12_refuses_15 (hs.2.1 157 _ rfl) (hf_lin hs 157 rfl) (hf_vin (by decide)) ?_
    refine hf_iload_n dX12_refuses_16 rfl rfl ?_
    refine hf_ireturn dX12_refuses_17 rfl rfl ?_
    show hf_G X Y_X12_settings (d + 1) _ _ 23 [some (.ref 156), none, none, none, none, none, none] [.int (-6)] (t, T, (hf_up (hf_up I 156 0 (-6)) 157 6 ((I 157 6) + 1)), L, P) _
    refine hf_ireturn dX12_settings_23 rfl rfl ?_
    exact h

set_option maxHeartbeats 4000000 in
theorem w_X12_settings_26 {X : hf_X} {d k n t : Nat} {T : hf_T} {I : hf_I} {L : hf_L} {P : hf_P} {Q : Option Value → hf_M → Prop} {x1 : Int32} (hs : hf_Lay t T P) (h : (26 ≤ x1 → hf_G X Y_X12_settings d k n 52 [some (.ref 156), some (.int 0), none, none, none, none, none] [] (t, T, I, L, P) Q) ∧ (¬ (26 ≤ x1) → vp_in x1 5929 ∧ (vp_in x1 26 ∧ (hf_G X Y_X12_settings d k n 26 [some (.ref 156), some (.int (x1 + 1)), none, none, none, none, none] [] (t, T, (hf_up I 161 x1.toNatClampNeg (I 158 x1.toNatClampNeg)), L, P) Q)))) : hf_G X Y_X12_settings d k n 26 [some (.ref 156), some (.int x1), none, none, none, none, none] [] (t, T, I, L, P) Q := by
  refine hf_iload_n dX12_settings_26 rfl rfl ?_
  refine hf_bipush (v := 26) dX12_settings_27 (by decide) ?_
  refine hf_icmp_ge (tgt := 50) dX12_settings_29 (by decide) (fun hc => ?_) (fun hc => ?_)
  · replace h := h.1 hc
    refine hf_iconst (v := 0) dX12_settings_50 (by decide) ?_
    refine hf_istore_n (l2 := [some (.ref 156), some (.int 0), none, none, none, none, none]) dX12_settings_51 rfl (by decide) rfl ?_
    exact h
  · replace h := h.2 hc
    refine hf_aload_n dX12_settings_32 rfl rfl ?_
    refine hf_getr (b := 161) (c := 12) (j := 5) dX12_settings_33 (hs.2.1 156 _ rfl) (hf_lin hs 156 rfl) (by decide) (by decide) hw1041 rfl (hs.2.2 156 5 _ rfl) ?_
    refine hf_iload_n dX12_settings_36 rfl rfl ?_
    refine hf_aload_n dX12_settings_37 rfl rfl ?_
    refine hf_getr (b := 158) (c := 12) (j := 2) dX12_settings_38 (hs.2.1 156 _ rfl) (hf_lin hs 156 rfl) (by decide) (by decide) hw1038 rfl (hs.2.2 156 2 _ rfl) ?_
    refine hf_iload_n dX12_settings_41 rfl rfl ?_
    refine hf_iald dX12_settings_42 (hs.2.1 158 _ rfl) (hf_lin hs 158 rfl) h.1 ?_
    replace h := h.2
    refine hf_iast dX12_settings_43 (hs.2.1 161 _ rfl) (hf_lin hs 161 rfl) h.1 ?_
    replace h := h.2
    refine hf_iinc (v := (x1 + 1)) (l2 := [some (.ref 156), some (.int (x1 + 1)), none, none, none, none, none]) dX12_settings_44 (by decide) rfl rfl rfl ?_
    refine hf_goto (tgt := 26) dX12_settings_47 (by decide) ?_
    exact h

set_option maxHeartbeats 4000000 in
theorem w_X12_settings_52 {X : hf_X} {d k n t : Nat} {T : hf_T} {I : hf_I} {L : hf_L} {P : hf_P} {Q : Option Value → hf_M → Prop} {x1 : Int32} (hs : hf_Lay t T P) (h : (432 ≤ x1 → hf_G X Y_X12_lays d 0 0 0 (hf_en [.ref 156, .int 6] 3) [] (t, T, I, L, P) (fun r M => hf_G X Y_X12_settings (d + 1) k n 97 [some (.ref 156), some (.int (I 156 27)), some (.int (I 158 315)), none, none, none, none] (r.toList ++ []) M Q)) ∧ (¬ (432 ≤ x1) → vp_in x1 432 ∧ (vp_in x1 432 ∧ (hf_G X Y_X12_settings (d + 1) k n 52 [some (.ref 156), some (.int (x1 + 1)), none, none, none, none, none] [] (t, T, (hf_up I 170 x1.toNatClampNeg (I 169 x1.toNatClampNeg)), L, P) Q)))) : hf_G X Y_X12_settings (d + 1) k n 52 [some (.ref 156), some (.int x1), none, none, none, none, none] [] (t, T, I, L, P) Q := by
  refine hf_iload_n dX12_settings_52 rfl rfl ?_
  refine hf_sipush (v := 432) dX12_settings_53 (by decide) ?_
  refine hf_icmp_ge (tgt := 77) dX12_settings_56 (by decide) (fun hc => ?_) (fun hc => ?_)
  · replace h := h.1 hc
    refine hf_aload_n dX12_settings_77 rfl rfl ?_
    refine hf_geti (c := 12) (j := 27) dX12_settings_78 (hs.2.1 156 _ rfl) (hf_lin hs 156 rfl) (by decide) (by decide) hw1063 (Or.inl rfl) ?_
    refine hf_istore_n (l2 := [some (.ref 156), some (.int (I 156 27)), none, none, none, none, none]) dX12_settings_81 rfl (by decide) rfl ?_
    refine hf_aload_n dX12_settings_82 rfl rfl ?_
    refine hf_getr (b := 158) (c := 12) (j := 2) dX12_settings_83 (hs.2.1 156 _ rfl) (hf_lin hs 156 rfl) (by decide) (by decide) hw1038 rfl (hs.2.2 156 2 _ rfl) ?_
    refine hf_sipush (v := 315) dX12_settings_86 (by decide) ?_
    refine hf_iald_k (j := 315) (by decide) dX12_settings_89 (hs.2.1 158 _ rfl) (hf_lin hs 158 rfl) (hf_vin (by decide)) ?_
    refine hf_istore_n (l2 := [some (.ref 156), some (.int (I 156 27)), some (.int (I 158 315)), none, none, none, none]) dX12_settings_90 rfl (by decide) rfl ?_
    refine hf_aload_n dX12_settings_91 rfl rfl ?_
    refine hf_bipush (v := 6) dX12_settings_92 (by decide) ?_
    exact hf_callV (c := 12) (as := [.int 6]) ok_X12_lays dX12_settings_94 hw1347 hw1348 hw1645 (hs.2.1 156 _ rfl) (by decide) (hf_lin hs 156 rfl) rfl (Nat.le_of_ble_eq_true rfl) rfl (Nat.le_of_ble_eq_true rfl) (Nat.zero_le _) (Nat.zero_le _) h
  · replace h := h.2 hc
    refine hf_aload_n dX12_settings_59 rfl rfl ?_
    refine hf_getr (b := 170) (c := 12) (j := 26) dX12_settings_60 (hs.2.1 156 _ rfl) (hf_lin hs 156 rfl) (by decide) (by decide) hw1062 rfl (hs.2.2 156 26 _ rfl) ?_
    refine hf_iload_n dX12_settings_63 rfl rfl ?_
    refine hf_aload_n dX12_settings_64 rfl rfl ?_
    refine hf_getr (b := 169) (c := 12) (j := 25) dX12_settings_65 (hs.2.1 156 _ rfl) (hf_lin hs 156 rfl) (by decide) (by decide) hw1061 rfl (hs.2.2 156 25 _ rfl) ?_
    refine hf_iload_n dX12_settings_68 rfl rfl ?_
    refine hf_iald dX12_settings_69 (hs.2.1 169 _ rfl) (hf_lin hs 169 rfl) h.1 ?_
    replace h := h.2
    refine hf_iast dX12_settings_70 (hs.2.1 170 _ rfl) (hf_lin hs 170 rfl) h.1 ?_
    replace h := h.2
    refine hf_iinc (v := (x1 + 1)) (l2 := [some (.ref 156), some (.int (x1 + 1)), none, none, none, none, none]) dX12_settings_71 (by decide) rfl rfl rfl ?_
    refine hf_goto (tgt := 52) dX12_settings_74 (by decide) ?_
    exact h

set_option maxHeartbeats 4000000 in
theorem w_X12_settings_97 {X : hf_X} {d k n t : Nat} {T : hf_T} {I : hf_I} {L : hf_L} {P : hf_P} {Q : Option Value → hf_M → Prop} {x1 : Int32} {x2 : Int32} (hs : hf_Lay t T P) (h : hf_G X Y_X12_settings d k n 126 [some (.ref 156), some (.int x1), some (.int x2), some (.int (2400 + (I 158 328))), some (.int 0), none, none] [] (t, T, (hf_up (hf_up I 156 24 0) 156 42 2400), L, P) Q) : hf_G X Y_X12_settings d k n 97 [some (.ref 156), some (.int x1), some (.int x2), none, none, none, none] [] (t, T, I, L, P) Q := by
  refine hf_aload_n dX12_settings_97 rfl rfl ?_
  refine hf_iconst (v := 0) dX12_settings_98 (by decide) ?_
  refine hf_puti (c := 12) (j := 24) dX12_settings_99 (hs.2.1 156 _ rfl) (hf_lin hs 156 rfl) (by decide) (by decide) hw1060 rfl rfl ?_
  refine hf_aload_n dX12_settings_102 rfl rfl ?_
  refine hf_sipush (v := 2400) dX12_settings_103 (by decide) ?_
  refine hf_puti (c := 12) (j := 42) dX12_settings_106 (hs.2.1 156 _ rfl) (hf_lin hs 156 rfl) (by decide) (by decide) hw1078 rfl rfl ?_
  refine hf_aload_n dX12_settings_109 rfl rfl ?_
  refine hf_geti (c := 12) (j := 42) dX12_settings_110 (hs.2.1 156 _ rfl) (hf_lin hs 156 rfl) (by decide) (by decide) hw1078 (Or.inl rfl) ?_
  refine hf_aload_n dX12_settings_113 rfl rfl ?_
  refine hf_getr (b := 158) (c := 12) (j := 2) dX12_settings_114 (hs.2.1 156 _ rfl) (hf_lin hs 156 rfl) (by decide) (by decide) hw1038 rfl (hs.2.2 156 2 _ rfl) ?_
  refine hf_sipush (v := 328) dX12_settings_117 (by decide) ?_
  refine hf_iald_k (j := 328) (by decide) dX12_settings_120 (hs.2.1 158 _ rfl) (hf_lin hs 158 rfl) (hf_vin (by decide)) ?_
  refine hf_iadd dX12_settings_121 ?_
  refine hf_istore_n (l2 := [some (.ref 156), some (.int x1), some (.int x2), some (.int (2400 + (I 158 328))), none, none, none]) dX12_settings_122 rfl (by decide) rfl ?_
  refine hf_iconst (v := 0) dX12_settings_123 (by decide) ?_
  refine hf_istore (l2 := [some (.ref 156), some (.int x1), some (.int x2), some (.int (2400 + (I 158 328))), some (.int 0), none, none]) dX12_settings_124 (by decide) rfl ?_
  exact h

set_option maxHeartbeats 4000000 in
theorem w_X12_settings_126 {X : hf_X} {d k n t : Nat} {T : hf_T} {I : hf_I} {L : hf_L} {P : hf_P} {Q : Option Value → hf_M → Prop} {x1 : Int32} {x2 : Int32} {x3 : Int32} {x4 : Int32} (hs : hf_Lay t T P) (h : (x3 ≤ (I 156 42) → Q (some (.int (I 156 24))) (t, T, (hf_up I 156 0 0), L, P)) ∧ (¬ (x3 ≤ (I 156 42)) → hf_G X Y_X12_runs d 0 0 0 (hf_en [.ref 156, .int x3] 6) [] (t, T, I, L, P) (fun r M => hf_G X Y_X12_settings (d + 1) k n 139 [some (.ref 156), some (.int x1), some (.int x2), some (.int x3), some (.int x4), none, none] (r.toList ++ []) M Q))) : hf_G X Y_X12_settings (d + 1) k n 126 [some (.ref 156), some (.int x1), some (.int x2), some (.int x3), some (.int x4), none, none] [] (t, T, I, L, P) Q := by
  refine hf_aload_n dX12_settings_126 rfl rfl ?_
  refine hf_geti (c := 12) (j := 42) dX12_settings_127 (hs.2.1 156 _ rfl) (hf_lin hs 156 rfl) (by decide) (by decide) hw1078 (Or.inl rfl) ?_
  refine hf_iload_n dX12_settings_130 rfl rfl ?_
  refine hf_icmp_ge (tgt := 255) dX12_settings_131 (by decide) (fun hc => ?_) (fun hc => ?_)
  · replace h := h.1 hc
    refine hf_aload_n dX12_settings_255 rfl rfl ?_
    refine hf_aload_n dX12_settings_256 rfl rfl ?_
    refine hf_geti (c := 12) (j := 24) dX12_settings_257 (hs.2.1 156 _ rfl) (hf_lin hs 156 rfl) (by decide) (by decide) hw1060 (Or.inl rfl) ?_
    refine hf_callV (c := 12) (as := [.int (I 156 24)]) ok_X12_good dX12_settings_260 hw1149 hw1150 hw1602 (hs.2.1 156 _ rfl) (by decide) (hf_lin hs 156 rfl) rfl (Nat.le_of_ble_eq_true rfl) rfl (Nat.le_of_ble_eq_true rfl) (Nat.zero_le _) (Nat.zero_le _) ?_
    show hf_G X Y_X12_good d _ _ 0 [some (.ref 156), some (.int (I 156 24))] [] (t, T, I, L, P) _
    refine hf_aload_n dX12_good_0 rfl rfl ?_
    refine hf_iconst (v := 0) dX12_good_1 (by decide) ?_
    refine hf_puti (c := 12) (j := 0) dX12_good_2 (hs.2.1 156 _ rfl) (hf_lin hs 156 rfl) (by decide) (by decide) hw1036 rfl rfl ?_
    refine hf_iload_n dX12_good_5 rfl rfl ?_
    refine hf_ireturn dX12_good_6 rfl rfl ?_
    show hf_G X Y_X12_settings (d + 1) _ _ 263 [some (.ref 156), some (.int x1), some (.int x2), some (.int x3), some (.int x4), none, none] [.int (I 156 24)] (t, T, (hf_up I 156 0 0), L, P) _
    refine hf_ireturn dX12_settings_263 rfl rfl ?_
    exact h
  · replace h := h.2 hc
    refine hf_aload_n dX12_settings_134 rfl rfl ?_
    refine hf_iload_n dX12_settings_135 rfl rfl ?_
    exact hf_callV (c := 12) (as := [.int x3]) ok_X12_runs dX12_settings_136 hw1516 hw1517 hw1666 (hs.2.1 156 _ rfl) (by decide) (hf_lin hs 156 rfl) rfl (Nat.le_of_ble_eq_true rfl) rfl (Nat.le_of_ble_eq_true rfl) (Nat.zero_le _) (Nat.zero_le _) h

set_option maxHeartbeats 4000000 in
theorem w_X12_settings_139 {X : hf_X} {d k n t : Nat} {T : hf_T} {I : hf_I} {L : hf_L} {P : hf_P} {Q : Option Value → hf_M → Prop} {x1 : Int32} {x2 : Int32} {x3 : Int32} {x4 : Int32} {s0 : Int32} (hs : hf_Lay t T P) (h : (¬ s0 = 0 → hf_G X Y_X12_settings d k n 152 [some (.ref 156), some (.int x1), some (.int x2), none, some (.int x4), some (.int s0), some (.int 0)] [] (t, T, I, L, P) Q) ∧ (s0 = 0 → hf_G X Y_X12_settings d k n 126 [some (.ref 156), some (.int x1), some (.int x2), some (.int x3), some (.int (x4 + 1)), none, none] [] (t, T, I, L, P) Q)) : hf_G X Y_X12_settings d k n 139 [some (.ref 156), some (.int x1), some (.int x2), some (.int x3), some (.int x4), none, none] [.int s0] (t, T, I, L, P) Q := by
  refine hf_istore (l2 := [some (.ref 156), some (.int x1), some (.int x2), some (.int x3), some (.int x4), some (.int s0), none]) dX12_settings_139 (by decide) rfl ?_
  refine hf_iload dX12_settings_141 rfl ?_
  refine hf_if_ne (tgt := 149) dX12_settings_143 (by decide) (fun hc => ?_) (fun hc => ?_)
  · replace h := h.1 hc
    refine hf_iconst (v := 0) dX12_settings_149 (by decide) ?_
    refine hf_istore (l2 := [some (.ref 156), some (.int x1), some (.int x2), some (.int x3), some (.int x4), some (.int s0), some (.int 0)]) dX12_settings_150 (by decide) rfl ?_
    refine hf_drop (l' := [some (.ref 156), some (.int x1), some (.int x2), none, some (.int x4), some (.int s0), some (.int 0)]) (by simp [hf_sub]) ?_
    exact h
  · replace h := h.2 hc
    refine hf_goto (tgt := 249) dX12_settings_146 (by decide) ?_
    refine hf_iinc (v := (x4 + 1)) (l2 := [some (.ref 156), some (.int x1), some (.int x2), some (.int x3), some (.int (x4 + 1)), some (.int s0), none]) dX12_settings_249 (by decide) rfl rfl rfl ?_
    refine hf_goto (tgt := 126) dX12_settings_252 (by decide) ?_
    refine hf_drop (l' := [some (.ref 156), some (.int x1), some (.int x2), some (.int x3), some (.int (x4 + 1)), none, none]) (by simp [hf_sub]) ?_
    exact h

set_option maxHeartbeats 4000000 in
theorem w_X12_settings_152 {X : hf_X} {d k n t : Nat} {T : hf_T} {I : hf_I} {L : hf_L} {P : hf_P} {Q : Option Value → hf_M → Prop} {x1 : Int32} {x2 : Int32} {x4 : Int32} {x5 : Int32} {x6 : Int32} (hs : hf_Lay t T P) (h : (26 ≤ x6 → hf_G X Y_X12_settings d k n 182 [some (.ref 156), some (.int x1), some (.int x2), none, some (.int x4), some (.int x5), some (.int 0)] [] (t, T, I, L, P) Q) ∧ (¬ (26 ≤ x6) → vp_in x6 26 ∧ (vp_in x6 5929 ∧ (hf_G X Y_X12_settings d k n 152 [some (.ref 156), some (.int x1), some (.int x2), none, some (.int x4), some (.int x5), some (.int (x6 + 1))] [] (t, T, (hf_up I 158 x6.toNatClampNeg (I 161 x6.toNatClampNeg)), L, P) Q)))) : hf_G X Y_X12_settings d k n 152 [some (.ref 156), some (.int x1), some (.int x2), none, some (.int x4), some (.int x5), some (.int x6)] [] (t, T, I, L, P) Q := by
  refine hf_iload dX12_settings_152 rfl ?_
  refine hf_bipush (v := 26) dX12_settings_154 (by decide) ?_
  refine hf_icmp_ge (tgt := 179) dX12_settings_156 (by decide) (fun hc => ?_) (fun hc => ?_)
  · replace h := h.1 hc
    refine hf_iconst (v := 0) dX12_settings_179 (by decide) ?_
    refine hf_istore (l2 := [some (.ref 156), some (.int x1), some (.int x2), none, some (.int x4), some (.int x5), some (.int 0)]) dX12_settings_180 (by decide) rfl ?_
    exact h
  · replace h := h.2 hc
    refine hf_aload_n dX12_settings_159 rfl rfl ?_
    refine hf_getr (b := 158) (c := 12) (j := 2) dX12_settings_160 (hs.2.1 156 _ rfl) (hf_lin hs 156 rfl) (by decide) (by decide) hw1038 rfl (hs.2.2 156 2 _ rfl) ?_
    refine hf_iload dX12_settings_163 rfl ?_
    refine hf_aload_n dX12_settings_165 rfl rfl ?_
    refine hf_getr (b := 161) (c := 12) (j := 5) dX12_settings_166 (hs.2.1 156 _ rfl) (hf_lin hs 156 rfl) (by decide) (by decide) hw1041 rfl (hs.2.2 156 5 _ rfl) ?_
    refine hf_iload dX12_settings_169 rfl ?_
    refine hf_iald dX12_settings_171 (hs.2.1 161 _ rfl) (hf_lin hs 161 rfl) h.1 ?_
    replace h := h.2
    refine hf_iast dX12_settings_172 (hs.2.1 158 _ rfl) (hf_lin hs 158 rfl) h.1 ?_
    replace h := h.2
    refine hf_iinc (v := (x6 + 1)) (l2 := [some (.ref 156), some (.int x1), some (.int x2), none, some (.int x4), some (.int x5), some (.int (x6 + 1))]) dX12_settings_173 (by decide) rfl rfl rfl ?_
    refine hf_goto (tgt := 152) dX12_settings_176 (by decide) ?_
    exact h

set_option maxHeartbeats 4000000 in
theorem w_X12_settings_182 {X : hf_X} {d k n t : Nat} {T : hf_T} {I : hf_I} {L : hf_L} {P : hf_P} {Q : Option Value → hf_M → Prop} {x1 : Int32} {x2 : Int32} {x4 : Int32} {x5 : Int32} {x6 : Int32} (hs : hf_Lay t T P) (h : (432 ≤ x6 → (¬ x5 = (-5) → Q (some (.int (-3))) (t, T, (hf_up (hf_up (hf_up (hf_up (hf_up I 156 27 x1) 158 315 x2) 156 41 x4) 156 0 (-3)) 157 3 ((I 157 3) + 1)), L, P)) ∧ (x5 = (-5) → Q (some (.int (-5))) (t, T, (hf_up (hf_up (hf_up (hf_up (hf_up I 156 27 x1) 158 315 x2) 156 41 x4) 156 0 (-5)) 157 5 ((I 157 5) + 1)), L, P))) ∧ (¬ (432 ≤ x6) → vp_in x6 432 ∧ (vp_in x6 432 ∧ (hf_G X Y_X12_settings (d + 1) k n 182 [some (.ref 156), some (.int x1), some (.int x2), none, some (.int x4), some (.int x5), some (.int (x6 + 1))] [] (t, T, (hf_up I 169 x6.toNatClampNeg (I 170 x6.toNatClampNeg)), L, P) Q)))) : hf_G X Y_X12_settings (d + 1) k n 182 [some (.ref 156), some (.int x1), some (.int x2), none, some (.int x4), some (.int x5), some (.int x6)] [] (t, T, I, L, P) Q := by
  refine hf_iload dX12_settings_182 rfl ?_
  refine hf_sipush (v := 432) dX12_settings_184 (by decide) ?_
  refine hf_icmp_ge (tgt := 210) dX12_settings_187 (by decide) (fun hc => ?_) (fun hc => ?_)
  · replace h := h.1 hc
    refine hf_aload_n dX12_settings_210 rfl rfl ?_
    refine hf_iload_n dX12_settings_211 rfl rfl ?_
    refine hf_puti (c := 12) (j := 27) dX12_settings_212 (hs.2.1 156 _ rfl) (hf_lin hs 156 rfl) (by decide) (by decide) hw1063 rfl rfl ?_
    refine hf_aload_n dX12_settings_215 rfl rfl ?_
    refine hf_getr (b := 158) (c := 12) (j := 2) dX12_settings_216 (hs.2.1 156 _ rfl) (hf_lin hs 156 rfl) (by decide) (by decide) hw1038 rfl (hs.2.2 156 2 _ rfl) ?_
    refine hf_sipush (v := 315) dX12_settings_219 (by decide) ?_
    refine hf_iload_n dX12_settings_222 rfl rfl ?_
    refine hf_iast_k (j := 315) (by decide) dX12_settings_223 (hs.2.1 158 _ rfl) (hf_lin hs 158 rfl) (hf_vin (by decide)) ?_
    refine hf_aload_n dX12_settings_224 rfl rfl ?_
    refine hf_iload dX12_settings_225 rfl ?_
    refine hf_puti (c := 12) (j := 41) dX12_settings_227 (hs.2.1 156 _ rfl) (hf_lin hs 156 rfl) (by decide) (by decide) hw1077 rfl rfl ?_
    refine hf_aload_n dX12_settings_230 rfl rfl ?_
    refine hf_iload dX12_settings_231 rfl ?_
    refine hf_bipush (v := (-5)) dX12_settings_233 (by decide) ?_
    refine hf_icmp_ne (tgt := 243) dX12_settings_235 (by decide) (fun hc => ?_) (fun hc => ?_)
    · replace h := h.1 hc
      refine hf_bipush (v := (-3)) dX12_settings_243 (by decide) ?_
      refine hf_callV (c := 12) (as := [.int (-3)]) ok_X12_refuses dX12_settings_245 hw1146 hw1147 hw1601 (hs.2.1 156 _ rfl) (by decide) (hf_lin hs 156 rfl) rfl (Nat.le_of_ble_eq_true rfl) rfl (Nat.le_of_ble_eq_true rfl) (Nat.zero_le _) (Nat.zero_le _) ?_
      show hf_G X Y_X12_refuses d _ _ 0 [some (.ref 156), some (.int (-3))] [] (t, T, (hf_up (hf_up (hf_up I 156 27 x1) 158 315 x2) 156 41 x4), L, P) _
      refine hf_aload_n dX12_refuses_0 rfl rfl ?_
      refine hf_iload_n dX12_refuses_1 rfl rfl ?_
      refine hf_puti (c := 12) (j := 0) dX12_refuses_2 (hs.2.1 156 _ rfl) (hf_lin hs 156 rfl) (by decide) (by decide) hw1036 rfl rfl ?_
      refine hf_aload_n dX12_refuses_5 rfl rfl ?_
      refine hf_getr (b := 157) (c := 12) (j := 1) dX12_refuses_6 (hs.2.1 156 _ rfl) (hf_lin hs 156 rfl) (by decide) (by decide) hw1037 rfl (hs.2.2 156 1 _ rfl) ?_
      refine hf_iload_n dX12_refuses_9 rfl rfl ?_
      refine hf_ineg dX12_refuses_10 ?_
      rw [show (-(-3) : Int32) = 3 by decide]
      refine hf_dup2 dX12_refuses_11 rfl rfl ?_
      refine hf_iald_k (j := 3) (by decide) dX12_refuses_12 (hs.2.1 157 _ rfl) (hf_lin hs 157 rfl) (hf_vin (by decide)) ?_
      refine hf_iconst (v := 1) dX12_refuses_13 (by decide) ?_
      refine hf_iadd dX12_refuses_14 ?_
      refine hf_iast_k (j := 3) (by decide) dX12_refuses_15 (hs.2.1 157 _ rfl) (hf_lin hs 157 rfl) (hf_vin (by decide)) ?_
      refine hf_iload_n dX12_refuses_16 rfl rfl ?_
      refine hf_ireturn dX12_refuses_17 rfl rfl ?_
      show hf_G X Y_X12_settings (d + 1) _ _ 248 [some (.ref 156), some (.int x1), some (.int x2), none, some (.int x4), some (.int x5), some (.int x6)] [.int (-3)] (t, T, (hf_up (hf_up (hf_up (hf_up (hf_up I 156 27 x1) 158 315 x2) 156 41 x4) 156 0 (-3)) 157 3 ((I 157 3) + 1)), L, P) _
      refine hf_ireturn dX12_settings_248 rfl rfl ?_
      exact h
    · replace h := h.2 hc
      refine hf_bipush (v := (-5)) dX12_settings_238 (by decide) ?_
      refine hf_goto (tgt := 245) dX12_settings_240 (by decide) ?_
      refine hf_callV (c := 12) (as := [.int (-5)]) ok_X12_refuses dX12_settings_245 hw1146 hw1147 hw1601 (hs.2.1 156 _ rfl) (by decide) (hf_lin hs 156 rfl) rfl (Nat.le_of_ble_eq_true rfl) rfl (Nat.le_of_ble_eq_true rfl) (Nat.zero_le _) (Nat.zero_le _) ?_
      show hf_G X Y_X12_refuses d _ _ 0 [some (.ref 156), some (.int (-5))] [] (t, T, (hf_up (hf_up (hf_up I 156 27 x1) 158 315 x2) 156 41 x4), L, P) _
      refine hf_aload_n dX12_refuses_0 rfl rfl ?_
      refine hf_iload_n dX12_refuses_1 rfl rfl ?_
      refine hf_puti (c := 12) (j := 0) dX12_refuses_2 (hs.2.1 156 _ rfl) (hf_lin hs 156 rfl) (by decide) (by decide) hw1036 rfl rfl ?_
      refine hf_aload_n dX12_refuses_5 rfl rfl ?_
      refine hf_getr (b := 157) (c := 12) (j := 1) dX12_refuses_6 (hs.2.1 156 _ rfl) (hf_lin hs 156 rfl) (by decide) (by decide) hw1037 rfl (hs.2.2 156 1 _ rfl) ?_
      refine hf_iload_n dX12_refuses_9 rfl rfl ?_
      refine hf_ineg dX12_refuses_10 ?_
      rw [show (-(-5) : Int32) = 5 by decide]
      refine hf_dup2 dX12_refuses_11 rfl rfl ?_
      refine hf_iald_k (j := 5) (by decide) dX12_refuses_12 (hs.2.1 157 _ rfl) (hf_lin hs 157 rfl) (hf_vin (by decide)) ?_
      refine hf_iconst (v := 1) dX12_refuses_13 (by decide) ?_
      refine hf_iadd dX12_refuses_14 ?_
      refine hf_iast_k (j := 5) (by decide) dX12_refuses_15 (hs.2.1 157 _ rfl) (hf_lin hs 157 rfl) (hf_vin (by decide)) ?_
      refine hf_iload_n dX12_refuses_16 rfl rfl ?_
      refine hf_ireturn dX12_refuses_17 rfl rfl ?_
      show hf_G X Y_X12_settings (d + 1) _ _ 248 [some (.ref 156), some (.int x1), some (.int x2), none, some (.int x4), some (.int x5), some (.int x6)] [.int (-5)] (t, T, (hf_up (hf_up (hf_up (hf_up (hf_up I 156 27 x1) 158 315 x2) 156 41 x4) 156 0 (-5)) 157 5 ((I 157 5) + 1)), L, P) _
      refine hf_ireturn dX12_settings_248 rfl rfl ?_
      exact h
  · replace h := h.2 hc
    refine hf_aload_n dX12_settings_190 rfl rfl ?_
    refine hf_getr (b := 169) (c := 12) (j := 25) dX12_settings_191 (hs.2.1 156 _ rfl) (hf_lin hs 156 rfl) (by decide) (by decide) hw1061 rfl (hs.2.2 156 25 _ rfl) ?_
    refine hf_iload dX12_settings_194 rfl ?_
    refine hf_aload_n dX12_settings_196 rfl rfl ?_
    refine hf_getr (b := 170) (c := 12) (j := 26) dX12_settings_197 (hs.2.1 156 _ rfl) (hf_lin hs 156 rfl) (by decide) (by decide) hw1062 rfl (hs.2.2 156 26 _ rfl) ?_
    refine hf_iload dX12_settings_200 rfl ?_
    refine hf_iald dX12_settings_202 (hs.2.1 170 _ rfl) (hf_lin hs 170 rfl) h.1 ?_
    replace h := h.2
    refine hf_iast dX12_settings_203 (hs.2.1 169 _ rfl) (hf_lin hs 169 rfl) h.1 ?_
    replace h := h.2
    refine hf_iinc (v := (x6 + 1)) (l2 := [some (.ref 156), some (.int x1), some (.int x2), none, some (.int x4), some (.int x5), some (.int (x6 + 1))]) dX12_settings_204 (by decide) rfl rfl rfl ?_
    refine hf_goto (tgt := 182) dX12_settings_207 (by decide) ?_
    exact h

set_option maxHeartbeats 4000000 in
theorem w_X12_goesAlong_0 {X : hf_X} {d k n t : Nat} {T : hf_T} {I : hf_I} {L : hf_L} {P : hf_P} {Q : Option Value → hf_M → Prop} {x1 : Int32} {x2 : Int32} (hs : hf_Lay t T P) (h : hf_G X Y_X12_codeAt d 0 0 0 (hf_en [.ref 156, .int (I 156 42)] 2) [] (t, T, (hf_up (hf_up (hf_up I 156 22 1) 156 20 x1) 156 19 (I 156 42)), L, P) (fun r M => hf_G X Y_X12_goesAlong (d + 1) k n 27 [some (.ref 156), none, some (.int x2)] (r.toList ++ [.ref 156]) M Q)) : hf_G X Y_X12_goesAlong (d + 1) k n 0 (hf_en [.ref 156, .int x1, .int x2] 3) [] (t, T, I, L, P) Q := by
  show hf_G X Y_X12_goesAlong (d + 1) k n 0 [some (.ref 156), some (.int x1), some (.int x2)] [] (t, T, I, L, P) Q
  refine hf_aload_n dX12_goesAlong_0 rfl rfl ?_
  refine hf_iconst (v := 1) dX12_goesAlong_1 (by decide) ?_
  refine hf_putz (c := 12) (j := 22) dX12_goesAlong_2 (hs.2.1 156 _ rfl) (hf_lin hs 156 rfl) (by decide) (by decide) hw1058 rfl rfl (by decide) ?_
  refine hf_aload_n dX12_goesAlong_5 rfl rfl ?_
  refine hf_iload_n dX12_goesAlong_6 rfl rfl ?_
  refine hf_puti (c := 12) (j := 20) dX12_goesAlong_7 (hs.2.1 156 _ rfl) (hf_lin hs 156 rfl) (by decide) (by decide) hw1056 rfl rfl ?_
  refine hf_aload_n dX12_goesAlong_10 rfl rfl ?_
  refine hf_aload_n dX12_goesAlong_11 rfl rfl ?_
  refine hf_geti (c := 12) (j := 42) dX12_goesAlong_12 (hs.2.1 156 _ rfl) (hf_lin hs 156 rfl) (by decide) (by decide) hw1078 (Or.inl rfl) ?_
  refine hf_puti (c := 12) (j := 19) dX12_goesAlong_15 (hs.2.1 156 _ rfl) (hf_lin hs 156 rfl) (by decide) (by decide) hw1055 rfl rfl ?_
  refine hf_aload_n dX12_goesAlong_18 rfl rfl ?_
  refine hf_aload_n dX12_goesAlong_19 rfl rfl ?_
  refine hf_aload_n dX12_goesAlong_20 rfl rfl ?_
  refine hf_geti (c := 12) (j := 19) dX12_goesAlong_21 (hs.2.1 156 _ rfl) (hf_lin hs 156 rfl) (by decide) (by decide) hw1055 (Or.inl rfl) ?_
  exact hf_callV (c := 12) (as := [.int (I 156 42)]) ok_X12_codeAt dX12_goesAlong_24 hw1214 hw1215 hw1613 (hs.2.1 156 _ rfl) (by decide) (hf_lin hs 156 rfl) rfl (Nat.le_of_ble_eq_true rfl) rfl (Nat.le_of_ble_eq_true rfl) (Nat.zero_le _) (Nat.zero_le _) (hf_mono (fun r M q => hf_drop (l' := [some (.ref 156), none, some (.int x2)]) (by simp [hf_sub]) q) h)

set_option maxHeartbeats 4000000 in
theorem w_X12_goesAlong_27 {X : hf_X} {d k n t : Nat} {T : hf_T} {I : hf_I} {L : hf_L} {P : hf_P} {Q : Option Value → hf_M → Prop} {x2 : Int32} {s0 : Int32} (hs : hf_Lay t T P) (h : (s0 = 25 → hf_G X Y_X12_sumOf d 0 0 0 (hf_en [.ref 156, .int x2] 7) [] (t, T, (hf_up (hf_up (hf_up I 156 44 s0) 156 19 ((I 156 19) + 1)) 156 21 0), L, P) (fun r M => hf_G X Y_X12_goesAlong (d + 1) k n 69 [some (.ref 156), none, some (.int x2)] (r.toList ++ [.ref 156]) M Q)) ∧ (¬ (s0 = 25) → (¬ s0 = 18 → hf_G X Y_X12_passes0 d 0 0 0 (hf_en [.ref 156, .int 28] 3) [] (t, T, (hf_up (hf_up (hf_up (hf_up (hf_up I 156 44 s0) 156 19 ((I 156 19) + 1)) 156 21 0) 156 45 1) 156 43 1), (hf_upL L 156 47 0), P) (fun r M => hf_G X Y_X12_goesAlong (d + 1) k n 103 [some (.ref 156), none, some (.int x2)] (r.toList ++ []) M Q)) ∧ (s0 = 18 → hf_G X Y_X12_sumOf d 0 0 0 (hf_en [.ref 156, .int x2] 7) [] (t, T, (hf_up (hf_up (hf_up I 156 44 s0) 156 19 ((I 156 19) + 1)) 156 21 0), L, P) (fun r M => hf_G X Y_X12_goesAlong (d + 1) k n 69 [some (.ref 156), none, some (.int x2)] (r.toList ++ [.ref 156]) M Q)))) : hf_G X Y_X12_goesAlong (d + 1) k n 27 [some (.ref 156), none, some (.int x2)] [.int s0, .ref 156] (t, T, I, L, P) Q := by
  refine hf_puti (c := 12) (j := 44) dX12_goesAlong_27 (hs.2.1 156 _ rfl) (hf_lin hs 156 rfl) (by decide) (by decide) hw1080 rfl rfl ?_
  refine hf_aload_n dX12_goesAlong_30 rfl rfl ?_
  refine hf_dup dX12_goesAlong_31 rfl ?_
  refine hf_geti (c := 12) (j := 19) dX12_goesAlong_32 (hs.2.1 156 _ rfl) (hf_lin hs 156 rfl) (by decide) (by decide) hw1055 (Or.inl rfl) ?_
  refine hf_iconst (v := 1) dX12_goesAlong_35 (by decide) ?_
  refine hf_iadd dX12_goesAlong_36 ?_
  refine hf_puti (c := 12) (j := 19) dX12_goesAlong_37 (hs.2.1 156 _ rfl) (hf_lin hs 156 rfl) (by decide) (by decide) hw1055 rfl rfl ?_
  refine hf_aload_n dX12_goesAlong_40 rfl rfl ?_
  refine hf_iconst (v := 0) dX12_goesAlong_41 (by decide) ?_
  refine hf_putz (c := 12) (j := 21) dX12_goesAlong_42 (hs.2.1 156 _ rfl) (hf_lin hs 156 rfl) (by decide) (by decide) hw1057 rfl rfl (by decide) ?_
  refine hf_aload_n dX12_goesAlong_45 rfl rfl ?_
  refine hf_aload_n dX12_goesAlong_46 rfl rfl ?_
  refine hf_geti (c := 12) (j := 44) dX12_goesAlong_47 (hs.2.1 156 _ rfl) (hf_lin hs 156 rfl) (by decide) (by decide) hw1080 (Or.inl rfl) ?_
  refine hf_bipush (v := 25) dX12_goesAlong_50 (by decide) ?_
  refine hf_icmp_eq (tgt := 64) dX12_goesAlong_52 (by decide) (fun hc => ?_) (fun hc => ?_)
  · replace h := h.1 hc
    refine hf_aload_n dX12_goesAlong_64 rfl rfl ?_
    refine hf_iload_n dX12_goesAlong_65 rfl rfl ?_
    exact hf_callV (c := 12) (as := [.int x2]) ok_X12_sumOf dX12_goesAlong_66 hw1217 hw1218 hw1614 (hs.2.1 156 _ rfl) (by decide) (hf_lin hs 156 rfl) rfl (Nat.le_of_ble_eq_true rfl) rfl (Nat.le_of_ble_eq_true rfl) (Nat.zero_le _) (Nat.zero_le _) h
  · replace h := h.2 hc
    refine hf_aload_n dX12_goesAlong_55 rfl rfl ?_
    refine hf_geti (c := 12) (j := 44) dX12_goesAlong_56 (hs.2.1 156 _ rfl) (hf_lin hs 156 rfl) (by decide) (by decide) hw1080 (Or.inl rfl) ?_
    refine hf_bipush (v := 18) dX12_goesAlong_59 (by decide) ?_
    refine hf_icmp_ne (tgt := 72) dX12_goesAlong_61 (by decide) (fun hc => ?_) (fun hc => ?_)
    · replace h := h.1 hc
      refine hf_lconst (v := 0) dX12_goesAlong_72 (by decide) ?_
      refine hf_putl (c := 12) (j := 47) dX12_goesAlong_73 (hs.2.1 156 _ rfl) (hf_lin hs 156 rfl) (by decide) (by decide) hw1083 rfl rfl ?_
      refine hf_aload_n dX12_goesAlong_76 rfl rfl ?_
      refine hf_aload_n dX12_goesAlong_77 rfl rfl ?_
      refine hf_geti (c := 12) (j := 21) dX12_goesAlong_78 (hs.2.1 156 _ rfl) (hf_lin hs 156 rfl) (by decide) (by decide) hw1057 (Or.inr rfl) ?_
      refine hf_if_ne (tgt := 88) dX12_goesAlong_81 (by decide) (fun hc => absurd (show ¬ (0 : Int32) = (0 : Int32) from hc) (by decide)) (fun _ => ?_)
      refine hf_iconst (v := 1) dX12_goesAlong_84 (by decide) ?_
      refine hf_goto (tgt := 89) dX12_goesAlong_85 (by decide) ?_
      refine hf_putz (c := 12) (j := 45) dX12_goesAlong_89 (hs.2.1 156 _ rfl) (hf_lin hs 156 rfl) (by decide) (by decide) hw1081 rfl rfl (by decide) ?_
      refine hf_aload_n dX12_goesAlong_92 rfl rfl ?_
      refine hf_iconst (v := 1) dX12_goesAlong_93 (by decide) ?_
      refine hf_puti (c := 12) (j := 43) dX12_goesAlong_94 (hs.2.1 156 _ rfl) (hf_lin hs 156 rfl) (by decide) (by decide) hw1079 rfl rfl ?_
      refine hf_aload_n dX12_goesAlong_97 rfl rfl ?_
      refine hf_bipush (v := 28) dX12_goesAlong_98 (by decide) ?_
      exact hf_callV (c := 12) (as := [.int 28]) ok_X12_passes0 dX12_goesAlong_100 hw1229 hw1230 hw1617 (hs.2.1 156 _ rfl) (by decide) (hf_lin hs 156 rfl) rfl (Nat.le_of_ble_eq_true rfl) rfl (Nat.le_of_ble_eq_true rfl) (Nat.zero_le _) (Nat.zero_le _) h
    · replace h := h.2 hc
      refine hf_aload_n dX12_goesAlong_64 rfl rfl ?_
      refine hf_iload_n dX12_goesAlong_65 rfl rfl ?_
      exact hf_callV (c := 12) (as := [.int x2]) ok_X12_sumOf dX12_goesAlong_66 hw1217 hw1218 hw1614 (hs.2.1 156 _ rfl) (by decide) (hf_lin hs 156 rfl) rfl (Nat.le_of_ble_eq_true rfl) rfl (Nat.le_of_ble_eq_true rfl) (Nat.zero_le _) (Nat.zero_le _) h

set_option maxHeartbeats 4000000 in
theorem w_X12_goesAlong_69 {X : hf_X} {d k n t : Nat} {T : hf_T} {I : hf_I} {L : hf_L} {P : hf_P} {Q : Option Value → hf_M → Prop} {x2 : Int32} {s0 : Int64} (hs : hf_Lay t T P) (h : (¬ (I 156 21) = 0 → hf_G X Y_X12_passes0 d 0 0 0 (hf_en [.ref 156, .int 28] 3) [] (t, T, (hf_up (hf_up I 156 45 0) 156 43 1), (hf_upL L 156 47 s0), P) (fun r M => hf_G X Y_X12_goesAlong (d + 1) k n 103 [some (.ref 156), none, some (.int x2)] (r.toList ++ []) M Q)) ∧ ((I 156 21) = 0 → hf_G X Y_X12_passes0 d 0 0 0 (hf_en [.ref 156, .int 28] 3) [] (t, T, (hf_up (hf_up I 156 45 1) 156 43 1), (hf_upL L 156 47 s0), P) (fun r M => hf_G X Y_X12_goesAlong (d + 1) k n 103 [some (.ref 156), none, some (.int x2)] (r.toList ++ []) M Q))) : hf_G X Y_X12_goesAlong (d + 1) k n 69 [some (.ref 156), none, some (.int x2)] [.long s0, .ref 156] (t, T, I, L, P) Q := by
  refine hf_goto (tgt := 73) dX12_goesAlong_69 (by decide) ?_
  refine hf_putl (c := 12) (j := 47) dX12_goesAlong_73 (hs.2.1 156 _ rfl) (hf_lin hs 156 rfl) (by decide) (by decide) hw1083 rfl rfl ?_
  refine hf_aload_n dX12_goesAlong_76 rfl rfl ?_
  refine hf_aload_n dX12_goesAlong_77 rfl rfl ?_
  refine hf_geti (c := 12) (j := 21) dX12_goesAlong_78 (hs.2.1 156 _ rfl) (hf_lin hs 156 rfl) (by decide) (by decide) hw1057 (Or.inr rfl) ?_
  refine hf_if_ne (tgt := 88) dX12_goesAlong_81 (by decide) (fun hc => ?_) (fun hc => ?_)
  · replace h := h.1 hc
    refine hf_iconst (v := 0) dX12_goesAlong_88 (by decide) ?_
    refine hf_putz (c := 12) (j := 45) dX12_goesAlong_89 (hs.2.1 156 _ rfl) (hf_lin hs 156 rfl) (by decide) (by decide) hw1081 rfl rfl (by decide) ?_
    refine hf_aload_n dX12_goesAlong_92 rfl rfl ?_
    refine hf_iconst (v := 1) dX12_goesAlong_93 (by decide) ?_
    refine hf_puti (c := 12) (j := 43) dX12_goesAlong_94 (hs.2.1 156 _ rfl) (hf_lin hs 156 rfl) (by decide) (by decide) hw1079 rfl rfl ?_
    refine hf_aload_n dX12_goesAlong_97 rfl rfl ?_
    refine hf_bipush (v := 28) dX12_goesAlong_98 (by decide) ?_
    exact hf_callV (c := 12) (as := [.int 28]) ok_X12_passes0 dX12_goesAlong_100 hw1229 hw1230 hw1617 (hs.2.1 156 _ rfl) (by decide) (hf_lin hs 156 rfl) rfl (Nat.le_of_ble_eq_true rfl) rfl (Nat.le_of_ble_eq_true rfl) (Nat.zero_le _) (Nat.zero_le _) h
  · replace h := h.2 hc
    refine hf_iconst (v := 1) dX12_goesAlong_84 (by decide) ?_
    refine hf_goto (tgt := 89) dX12_goesAlong_85 (by decide) ?_
    refine hf_putz (c := 12) (j := 45) dX12_goesAlong_89 (hs.2.1 156 _ rfl) (hf_lin hs 156 rfl) (by decide) (by decide) hw1081 rfl rfl (by decide) ?_
    refine hf_aload_n dX12_goesAlong_92 rfl rfl ?_
    refine hf_iconst (v := 1) dX12_goesAlong_93 (by decide) ?_
    refine hf_puti (c := 12) (j := 43) dX12_goesAlong_94 (hs.2.1 156 _ rfl) (hf_lin hs 156 rfl) (by decide) (by decide) hw1079 rfl rfl ?_
    refine hf_aload_n dX12_goesAlong_97 rfl rfl ?_
    refine hf_bipush (v := 28) dX12_goesAlong_98 (by decide) ?_
    exact hf_callV (c := 12) (as := [.int 28]) ok_X12_passes0 dX12_goesAlong_100 hw1229 hw1230 hw1617 (hs.2.1 156 _ rfl) (by decide) (hf_lin hs 156 rfl) rfl (Nat.le_of_ble_eq_true rfl) rfl (Nat.le_of_ble_eq_true rfl) (Nat.zero_le _) (Nat.zero_le _) h

set_option maxHeartbeats 4000000 in
theorem w_X12_goesAlong_103 {X : hf_X} {d k n t : Nat} {T : hf_T} {I : hf_I} {L : hf_L} {P : hf_P} {Q : Option Value → hf_M → Prop} {x2 : Int32} {s0 : Int32} (hs : hf_Lay t T P) (h : (s0 = 0 → hf_G X Y_X12_passes0 d 0 0 0 (hf_en [.ref 156, .int 4] 3) [] (t, T, (hf_up I 156 21 0), L, P) (fun r M => hf_G X Y_X12_goesAlong (d + 1) k n 144 [some (.ref 156), none, some (.int x2)] (r.toList ++ [.ref 156]) M Q)) ∧ (¬ (s0 = 0) → vp_in (3129 + (I 156 19)) 5929 ∧ (hf_G X Y_X12_passes0 d 0 0 0 (hf_en [.ref 156, .int 4] 3) [] (t, T, (hf_up (hf_up (hf_up I 156 43 (I 158 (((3129 + (I 156 19))).toNatClampNeg))) 156 19 ((I 156 19) + 1)) 156 21 0), L, P) (fun r M => hf_G X Y_X12_goesAlong (d + 1) k n 144 [some (.ref 156), none, some (.int x2)] (r.toList ++ [.ref 156]) M Q)))) : hf_G X Y_X12_goesAlong (d + 1) k n 103 [some (.ref 156), none, some (.int x2)] [.int s0] (t, T, I, L, P) Q := by
  refine hf_if_eq (tgt := 133) dX12_goesAlong_103 (by decide) (fun hc => ?_) (fun hc => ?_)
  · replace h := h.1 hc
    refine hf_aload_n dX12_goesAlong_133 rfl rfl ?_
    refine hf_iconst (v := 0) dX12_goesAlong_134 (by decide) ?_
    refine hf_putz (c := 12) (j := 21) dX12_goesAlong_135 (hs.2.1 156 _ rfl) (hf_lin hs 156 rfl) (by decide) (by decide) hw1057 rfl rfl (by decide) ?_
    refine hf_aload_n dX12_goesAlong_138 rfl rfl ?_
    refine hf_aload_n dX12_goesAlong_139 rfl rfl ?_
    refine hf_iconst (v := 4) dX12_goesAlong_140 (by decide) ?_
    exact hf_callV (c := 12) (as := [.int 4]) ok_X12_passes0 dX12_goesAlong_141 hw1229 hw1230 hw1617 (hs.2.1 156 _ rfl) (by decide) (hf_lin hs 156 rfl) rfl (Nat.le_of_ble_eq_true rfl) rfl (Nat.le_of_ble_eq_true rfl) (Nat.zero_le _) (Nat.zero_le _) h
  · replace h := h.2 hc
    refine hf_aload_n dX12_goesAlong_106 rfl rfl ?_
    refine hf_aload_n dX12_goesAlong_107 rfl rfl ?_
    refine hf_getr (b := 158) (c := 12) (j := 2) dX12_goesAlong_108 (hs.2.1 156 _ rfl) (hf_lin hs 156 rfl) (by decide) (by decide) hw1038 rfl (hs.2.2 156 2 _ rfl) ?_
    refine hf_sipush (v := 3129) dX12_goesAlong_111 (by decide) ?_
    refine hf_aload_n dX12_goesAlong_114 rfl rfl ?_
    refine hf_geti (c := 12) (j := 19) dX12_goesAlong_115 (hs.2.1 156 _ rfl) (hf_lin hs 156 rfl) (by decide) (by decide) hw1055 (Or.inl rfl) ?_
    refine hf_iadd dX12_goesAlong_118 ?_
    refine hf_iald dX12_goesAlong_119 (hs.2.1 158 _ rfl) (hf_lin hs 158 rfl) h.1 ?_
    replace h := h.2
    refine hf_puti (c := 12) (j := 43) dX12_goesAlong_120 (hs.2.1 156 _ rfl) (hf_lin hs 156 rfl) (by decide) (by decide) hw1079 rfl rfl ?_
    refine hf_aload_n dX12_goesAlong_123 rfl rfl ?_
    refine hf_dup dX12_goesAlong_124 rfl ?_
    refine hf_geti (c := 12) (j := 19) dX12_goesAlong_125 (hs.2.1 156 _ rfl) (hf_lin hs 156 rfl) (by decide) (by decide) hw1055 (Or.inl rfl) ?_
    refine hf_iconst (v := 1) dX12_goesAlong_128 (by decide) ?_
    refine hf_iadd dX12_goesAlong_129 ?_
    refine hf_puti (c := 12) (j := 19) dX12_goesAlong_130 (hs.2.1 156 _ rfl) (hf_lin hs 156 rfl) (by decide) (by decide) hw1055 rfl rfl ?_
    refine hf_aload_n dX12_goesAlong_133 rfl rfl ?_
    refine hf_iconst (v := 0) dX12_goesAlong_134 (by decide) ?_
    refine hf_putz (c := 12) (j := 21) dX12_goesAlong_135 (hs.2.1 156 _ rfl) (hf_lin hs 156 rfl) (by decide) (by decide) hw1057 rfl rfl (by decide) ?_
    refine hf_aload_n dX12_goesAlong_138 rfl rfl ?_
    refine hf_aload_n dX12_goesAlong_139 rfl rfl ?_
    refine hf_iconst (v := 4) dX12_goesAlong_140 (by decide) ?_
    exact hf_callV (c := 12) (as := [.int 4]) ok_X12_passes0 dX12_goesAlong_141 hw1229 hw1230 hw1617 (hs.2.1 156 _ rfl) (by decide) (hf_lin hs 156 rfl) rfl (Nat.le_of_ble_eq_true rfl) rfl (Nat.le_of_ble_eq_true rfl) (Nat.zero_le _) (Nat.zero_le _) h

set_option maxHeartbeats 4000000 in
theorem w_X12_goesAlong_144 {X : hf_X} {d k n t : Nat} {T : hf_T} {I : hf_I} {L : hf_L} {P : hf_P} {Q : Option Value → hf_M → Prop} {x2 : Int32} {s0 : Int32} (hs : hf_Lay t T P) (h : (s0 = 0 → (¬ (I 156 21) = 0 → Q none (t, T, (hf_up (hf_up (hf_up I 156 46 1) 156 46 0) 156 19 ((I 156 19) + 1)), L, P)) ∧ ((I 156 21) = 0 → Q none (t, T, (hf_up (hf_up (hf_up I 156 46 1) 156 46 1) 156 19 ((I 156 19) + 1)), L, P))) ∧ (¬ (s0 = 0) → hf_G X Y_X12_testOf d 0 0 0 (hf_en [.ref 156, .int x2] 4) [] (t, T, I, L, P) (fun r M => hf_G X Y_X12_goesAlong (d + 1) k n 152 [some (.ref 156), none, none] (r.toList ++ [.ref 156]) M Q))) : hf_G X Y_X12_goesAlong (d + 1) k n 144 [some (.ref 156), none, some (.int x2)] [.int s0, .ref 156] (t, T, I, L, P) Q := by
  refine hf_if_eq (tgt := 155) dX12_goesAlong_144 (by decide) (fun hc => ?_) (fun hc => ?_)
  · replace h := h.1 hc
    refine hf_iconst (v := 1) dX12_goesAlong_155 (by decide) ?_
    refine hf_goto (tgt := 160) dX12_goesAlong_156 (by decide) ?_
    refine hf_putz (c := 12) (j := 46) dX12_goesAlong_160 (hs.2.1 156 _ rfl) (hf_lin hs 156 rfl) (by decide) (by decide) hw1082 rfl rfl (by decide) ?_
    refine hf_aload_n dX12_goesAlong_163 rfl rfl ?_
    refine hf_aload_n dX12_goesAlong_164 rfl rfl ?_
    refine hf_geti (c := 12) (j := 46) dX12_goesAlong_165 (hs.2.1 156 _ rfl) (hf_lin hs 156 rfl) (by decide) (by decide) hw1082 (Or.inr rfl) ?_
    refine hf_if_eq (tgt := 182) dX12_goesAlong_168 (by decide) (fun hc => absurd (show (1 : Int32) = (0 : Int32) from hc) (by decide)) (fun _ => ?_)
    refine hf_aload_n dX12_goesAlong_171 rfl rfl ?_
    refine hf_geti (c := 12) (j := 21) dX12_goesAlong_172 (hs.2.1 156 _ rfl) (hf_lin hs 156 rfl) (by decide) (by decide) hw1057 (Or.inr rfl) ?_
    refine hf_if_ne (tgt := 182) dX12_goesAlong_175 (by decide) (fun hc => ?_) (fun hc => ?_)
    · replace h := h.1 hc
      refine hf_iconst (v := 0) dX12_goesAlong_182 (by decide) ?_
      refine hf_putz (c := 12) (j := 46) dX12_goesAlong_183 (hs.2.1 156 _ rfl) (hf_lin hs 156 rfl) (by decide) (by decide) hw1082 rfl rfl (by decide) ?_
      refine hf_aload_n dX12_goesAlong_186 rfl rfl ?_
      refine hf_dup dX12_goesAlong_187 rfl ?_
      refine hf_geti (c := 12) (j := 19) dX12_goesAlong_188 (hs.2.1 156 _ rfl) (hf_lin hs 156 rfl) (by decide) (by decide) hw1055 (Or.inl rfl) ?_
      refine hf_iconst (v := 1) dX12_goesAlong_191 (by decide) ?_
      refine hf_iadd dX12_goesAlong_192 ?_
      refine hf_puti (c := 12) (j := 19) dX12_goesAlong_193 (hs.2.1 156 _ rfl) (hf_lin hs 156 rfl) (by decide) (by decide) hw1055 rfl rfl ?_
      refine hf_return dX12_goesAlong_196 rfl ?_
      exact h
    · replace h := h.2 hc
      refine hf_iconst (v := 1) dX12_goesAlong_178 (by decide) ?_
      refine hf_goto (tgt := 183) dX12_goesAlong_179 (by decide) ?_
      refine hf_putz (c := 12) (j := 46) dX12_goesAlong_183 (hs.2.1 156 _ rfl) (hf_lin hs 156 rfl) (by decide) (by decide) hw1082 rfl rfl (by decide) ?_
      refine hf_aload_n dX12_goesAlong_186 rfl rfl ?_
      refine hf_dup dX12_goesAlong_187 rfl ?_
      refine hf_geti (c := 12) (j := 19) dX12_goesAlong_188 (hs.2.1 156 _ rfl) (hf_lin hs 156 rfl) (by decide) (by decide) hw1055 (Or.inl rfl) ?_
      refine hf_iconst (v := 1) dX12_goesAlong_191 (by decide) ?_
      refine hf_iadd dX12_goesAlong_192 ?_
      refine hf_puti (c := 12) (j := 19) dX12_goesAlong_193 (hs.2.1 156 _ rfl) (hf_lin hs 156 rfl) (by decide) (by decide) hw1055 rfl rfl ?_
      refine hf_return dX12_goesAlong_196 rfl ?_
      exact h
  · replace h := h.2 hc
    refine hf_aload_n dX12_goesAlong_147 rfl rfl ?_
    refine hf_iload_n dX12_goesAlong_148 rfl rfl ?_
    exact hf_callV (c := 12) (as := [.int x2]) ok_X12_testOf dX12_goesAlong_149 hw1243 hw1244 hw1621 (hs.2.1 156 _ rfl) (by decide) (hf_lin hs 156 rfl) rfl (Nat.le_of_ble_eq_true rfl) rfl (Nat.le_of_ble_eq_true rfl) (Nat.zero_le _) (Nat.zero_le _) (hf_mono (fun r M q => hf_drop (l' := [some (.ref 156), none, none]) (by simp [hf_sub]) q) h)

set_option maxHeartbeats 4000000 in
theorem w_X12_goesAlong_152 {X : hf_X} {d k n t : Nat} {T : hf_T} {I : hf_I} {L : hf_L} {P : hf_P} {Q : Option Value → hf_M → Prop} {s0 : Int32} (hs : hf_Lay t T P) (h : (s0 = 0 → Q none (t, T, (hf_up (hf_up (hf_up I 156 46 0) 156 46 0) 156 19 ((I 156 19) + 1)), L, P)) ∧ (¬ (s0 = 0) → (¬ (I 156 21) = 0 → Q none (t, T, (hf_up (hf_up (hf_up I 156 46 1) 156 46 0) 156 19 ((I 156 19) + 1)), L, P)) ∧ ((I 156 21) = 0 → Q none (t, T, (hf_up (hf_up (hf_up I 156 46 1) 156 46 1) 156 19 ((I 156 19) + 1)), L, P)))) : hf_G X Y_X12_goesAlong d k n 152 [some (.ref 156), none, none] [.int s0, .ref 156] (t, T, I, L, P) Q := by
  refine hf_if_eq (tgt := 159) dX12_goesAlong_152 (by decide) (fun hc => ?_) (fun hc => ?_)
  · replace h := h.1 hc
    refine hf_iconst (v := 0) dX12_goesAlong_159 (by decide) ?_
    refine hf_putz (c := 12) (j := 46) dX12_goesAlong_160 (hs.2.1 156 _ rfl) (hf_lin hs 156 rfl) (by decide) (by decide) hw1082 rfl rfl (by decide) ?_
    refine hf_aload_n dX12_goesAlong_163 rfl rfl ?_
    refine hf_aload_n dX12_goesAlong_164 rfl rfl ?_
    refine hf_geti (c := 12) (j := 46) dX12_goesAlong_165 (hs.2.1 156 _ rfl) (hf_lin hs 156 rfl) (by decide) (by decide) hw1082 (Or.inr rfl) ?_
    refine hf_if_eq (tgt := 182) dX12_goesAlong_168 (by decide) (fun _ => ?_) (fun hc => absurd (show (0 : Int32) = (0 : Int32) by decide) hc)
    refine hf_iconst (v := 0) dX12_goesAlong_182 (by decide) ?_
    refine hf_putz (c := 12) (j := 46) dX12_goesAlong_183 (hs.2.1 156 _ rfl) (hf_lin hs 156 rfl) (by decide) (by decide) hw1082 rfl rfl (by decide) ?_
    refine hf_aload_n dX12_goesAlong_186 rfl rfl ?_
    refine hf_dup dX12_goesAlong_187 rfl ?_
    refine hf_geti (c := 12) (j := 19) dX12_goesAlong_188 (hs.2.1 156 _ rfl) (hf_lin hs 156 rfl) (by decide) (by decide) hw1055 (Or.inl rfl) ?_
    refine hf_iconst (v := 1) dX12_goesAlong_191 (by decide) ?_
    refine hf_iadd dX12_goesAlong_192 ?_
    refine hf_puti (c := 12) (j := 19) dX12_goesAlong_193 (hs.2.1 156 _ rfl) (hf_lin hs 156 rfl) (by decide) (by decide) hw1055 rfl rfl ?_
    refine hf_return dX12_goesAlong_196 rfl ?_
    exact h
  · replace h := h.2 hc
    refine hf_iconst (v := 1) dX12_goesAlong_155 (by decide) ?_
    refine hf_goto (tgt := 160) dX12_goesAlong_156 (by decide) ?_
    refine hf_putz (c := 12) (j := 46) dX12_goesAlong_160 (hs.2.1 156 _ rfl) (hf_lin hs 156 rfl) (by decide) (by decide) hw1082 rfl rfl (by decide) ?_
    refine hf_aload_n dX12_goesAlong_163 rfl rfl ?_
    refine hf_aload_n dX12_goesAlong_164 rfl rfl ?_
    refine hf_geti (c := 12) (j := 46) dX12_goesAlong_165 (hs.2.1 156 _ rfl) (hf_lin hs 156 rfl) (by decide) (by decide) hw1082 (Or.inr rfl) ?_
    refine hf_if_eq (tgt := 182) dX12_goesAlong_168 (by decide) (fun hc => absurd (show (1 : Int32) = (0 : Int32) from hc) (by decide)) (fun _ => ?_)
    refine hf_aload_n dX12_goesAlong_171 rfl rfl ?_
    refine hf_geti (c := 12) (j := 21) dX12_goesAlong_172 (hs.2.1 156 _ rfl) (hf_lin hs 156 rfl) (by decide) (by decide) hw1057 (Or.inr rfl) ?_
    refine hf_if_ne (tgt := 182) dX12_goesAlong_175 (by decide) (fun hc => ?_) (fun hc => ?_)
    · replace h := h.1 hc
      refine hf_iconst (v := 0) dX12_goesAlong_182 (by decide) ?_
      refine hf_putz (c := 12) (j := 46) dX12_goesAlong_183 (hs.2.1 156 _ rfl) (hf_lin hs 156 rfl) (by decide) (by decide) hw1082 rfl rfl (by decide) ?_
      refine hf_aload_n dX12_goesAlong_186 rfl rfl ?_
      refine hf_dup dX12_goesAlong_187 rfl ?_
      refine hf_geti (c := 12) (j := 19) dX12_goesAlong_188 (hs.2.1 156 _ rfl) (hf_lin hs 156 rfl) (by decide) (by decide) hw1055 (Or.inl rfl) ?_
      refine hf_iconst (v := 1) dX12_goesAlong_191 (by decide) ?_
      refine hf_iadd dX12_goesAlong_192 ?_
      refine hf_puti (c := 12) (j := 19) dX12_goesAlong_193 (hs.2.1 156 _ rfl) (hf_lin hs 156 rfl) (by decide) (by decide) hw1055 rfl rfl ?_
      refine hf_return dX12_goesAlong_196 rfl ?_
      exact h
    · replace h := h.2 hc
      refine hf_iconst (v := 1) dX12_goesAlong_178 (by decide) ?_
      refine hf_goto (tgt := 183) dX12_goesAlong_179 (by decide) ?_
      refine hf_putz (c := 12) (j := 46) dX12_goesAlong_183 (hs.2.1 156 _ rfl) (hf_lin hs 156 rfl) (by decide) (by decide) hw1082 rfl rfl (by decide) ?_
      refine hf_aload_n dX12_goesAlong_186 rfl rfl ?_
      refine hf_dup dX12_goesAlong_187 rfl ?_
      refine hf_geti (c := 12) (j := 19) dX12_goesAlong_188 (hs.2.1 156 _ rfl) (hf_lin hs 156 rfl) (by decide) (by decide) hw1055 (Or.inl rfl) ?_
      refine hf_iconst (v := 1) dX12_goesAlong_191 (by decide) ?_
      refine hf_iadd dX12_goesAlong_192 ?_
      refine hf_puti (c := 12) (j := 19) dX12_goesAlong_193 (hs.2.1 156 _ rfl) (hf_lin hs 156 rfl) (by decide) (by decide) hw1055 rfl rfl ?_
      refine hf_return dX12_goesAlong_196 rfl ?_
      exact h

set_option maxHeartbeats 4000000 in
theorem w_X12_small_0 {X : hf_X} {d k n t : Nat} {T : hf_T} {I : hf_I} {L : hf_L} {P : hf_P} {Q : Option Value → hf_M → Prop} {x0 : Int64} (hs : hf_Lay t T P) (h : ((lg_cmp x0 0) < 0 → Q (some (.int (-1))) (t, T, I, L, P)) ∧ (¬ ((lg_cmp x0 0) < 0) → ((lg_cmp x0 1000000) ≤ 0 → Q (some (.int x0.toInt32)) (t, T, I, L, P)) ∧ (¬ ((lg_cmp x0 1000000) ≤ 0) → Q (some (.int (-1))) (t, T, I, L, P)))) : hf_G X Y_X12_small d k n 0 (hf_en [.long x0] 2) [] (t, T, I, L, P) Q := by
  show hf_G X Y_X12_small d k n 0 [some (.long x0), none] [] (t, T, I, L, P) Q
  refine hf_lload_n dX12_small_0 rfl rfl ?_
  refine hf_lconst (v := 0) dX12_small_1 (by decide) ?_
  refine hf_lcmp dX12_small_2 ?_
  refine hf_if_lt (tgt := 14) dX12_small_3 (by decide) (fun hc => ?_) (fun hc => ?_)
  · replace h := h.1 hc
    refine hf_iconst (v := (-1)) dX12_small_14 (by decide) ?_
    refine hf_goto (tgt := 20) dX12_small_15 (by decide) ?_
    refine hf_ireturn dX12_small_20 rfl rfl ?_
    exact h
  · replace h := h.2 hc
    refine hf_lload_n dX12_small_6 rfl rfl ?_
    refine hf_ldc2 (v := 1000000) dX12_small_7 hw1528 ?_
    refine hf_lcmp dX12_small_10 ?_
    refine hf_if_le (tgt := 18) dX12_small_11 (by decide) (fun hc => ?_) (fun hc => ?_)
    · replace h := h.1 hc
      refine hf_lload_n dX12_small_18 rfl rfl ?_
      refine hf_l2i dX12_small_19 ?_
      refine hf_ireturn dX12_small_20 rfl rfl ?_
      exact h
    · replace h := h.2 hc
      refine hf_iconst (v := (-1)) dX12_small_14 (by decide) ?_
      refine hf_goto (tgt := 20) dX12_small_15 (by decide) ?_
      refine hf_ireturn dX12_small_20 rfl rfl ?_
      exact h

set_option maxHeartbeats 4000000 in
theorem w_X12_obeys_0 {X : hf_X} {d k n t : Nat} {T : hf_T} {I : hf_I} {L : hf_L} {P : hf_P} {Q : Option Value → hf_M → Prop}  (hs : hf_Lay t T P) (h : ((I 156 44) = 25 → ((lg_cmp (L 156 47) 0) < 0 → hf_G X Y_X12_setsKept d 0 0 0 (hf_en [.ref 156, .int (-1)] 4) [] (t, T, I, L, P) (fun r M => hf_G X Y_X12_obeys (d + 1) k n 43 [none] (r.toList ++ []) M Q)) ∧ (¬ ((lg_cmp (L 156 47) 0) < 0) → ((lg_cmp (L 156 47) 1000000) ≤ 0 → hf_G X Y_X12_setsKept d 0 0 0 (hf_en [.ref 156, .int ((L 156 47).toInt32)] 4) [] (t, T, I, L, P) (fun r M => hf_G X Y_X12_obeys (d + 1) k n 43 [none] (r.toList ++ []) M Q)) ∧ (¬ ((lg_cmp (L 156 47) 1000000) ≤ 0) → hf_G X Y_X12_setsKept d 0 0 0 (hf_en [.ref 156, .int (-1)] 4) [] (t, T, I, L, P) (fun r M => hf_G X Y_X12_obeys (d + 1) k n 43 [none] (r.toList ++ []) M Q)))) ∧ ((I 156 44) = 26 → hf_G X Y_X12_turnsKept d 0 0 0 (hf_en [.ref 156] 1) [] (t, T, I, L, P) (fun r M => hf_G X Y_X12_obeys (d + 1) k n 48 [none] (r.toList ++ []) M Q)) ∧ ((I 156 44) = 27 → hf_G X Y_X12_clearsKept d 0 0 0 (hf_en [.ref 156] 2) [] (t, T, I, L, P) (fun r M => hf_G X Y_X12_obeys (d + 1) k n 53 [none] (r.toList ++ []) M Q)) ∧ ((I 156 44).toInt < 25 ∨ 27 < (I 156 44).toInt → ((lg_cmp (L 156 47) 0) < 0 → hf_G X Y_X12_sizes d 0 0 0 (hf_en [.ref 156, .int (-1)] 3) [] (t, T, I, L, P) (fun r M => hf_G X Y_X12_obeys (d + 1) k n 65 [none] (r.toList ++ []) M Q)) ∧ (¬ ((lg_cmp (L 156 47) 0) < 0) → ((lg_cmp (L 156 47) 1000000) ≤ 0 → hf_G X Y_X12_sizes d 0 0 0 (hf_en [.ref 156, .int ((L 156 47).toInt32)] 3) [] (t, T, I, L, P) (fun r M => hf_G X Y_X12_obeys (d + 1) k n 65 [none] (r.toList ++ []) M Q)) ∧ (¬ ((lg_cmp (L 156 47) 1000000) ≤ 0) → hf_G X Y_X12_sizes d 0 0 0 (hf_en [.ref 156, .int (-1)] 3) [] (t, T, I, L, P) (fun r M => hf_G X Y_X12_obeys (d + 1) k n 65 [none] (r.toList ++ []) M Q))))) : hf_G X Y_X12_obeys (d + 1) k n 0 (hf_en [.ref 156] 1) [] (t, T, I, L, P) Q := by
  show hf_G X Y_X12_obeys (d + 1) k n 0 [some (.ref 156)] [] (t, T, I, L, P) Q
  refine hf_aload_n dX12_obeys_0 rfl rfl ?_
  refine hf_geti (c := 12) (j := 44) dX12_obeys_1 (hs.2.1 156 _ rfl) (hf_lin hs 156 rfl) (by decide) (by decide) hw1080 (Or.inl rfl) ?_
  rcases hf_swc (I 156 44) 25 2 with hq | ⟨j, hj, hq⟩
  · refine hf_tableOut (tgt := 54) dX12_obeys_4 (by omega) (by decide) ?_
    replace h := h.2.2.2 (by omega)
    refine hf_aload_n dX12_obeys_54 rfl rfl ?_
    refine hf_aload_n dX12_obeys_55 rfl rfl ?_
    refine hf_getl (c := 12) (j := 47) dX12_obeys_56 (hs.2.1 156 _ rfl) (hf_lin hs 156 rfl) (by decide) (by decide) hw1083 rfl ?_
    refine hf_callS (as := [.long (L 156 47)]) ok_X12_small dX12_obeys_59 hw1525 hw1526 rfl (Nat.le_of_ble_eq_true rfl) rfl (Nat.le_of_ble_eq_true rfl) (Nat.zero_le _) (Nat.zero_le _) ?_
    show hf_G X Y_X12_small d _ _ 0 [some (.long (L 156 47)), none] [] (t, T, I, L, P) _
    refine hf_lload_n dX12_small_0 rfl rfl ?_
    refine hf_lconst (v := 0) dX12_small_1 (by decide) ?_
    refine hf_lcmp dX12_small_2 ?_
    refine hf_if_lt (tgt := 14) dX12_small_3 (by decide) (fun hc => ?_) (fun hc => ?_)
    · replace h := h.1 hc
      refine hf_iconst (v := (-1)) dX12_small_14 (by decide) ?_
      refine hf_goto (tgt := 20) dX12_small_15 (by decide) ?_
      refine hf_ireturn dX12_small_20 rfl rfl ?_
      show hf_G X Y_X12_obeys (d + 1) _ _ 62 [some (.ref 156)] [.int (-1), .ref 156] (t, T, I, L, P) _
      exact hf_callV (c := 12) (as := [.int (-1)]) ok_X12_sizes dX12_obeys_62 hw1171 hw1172 hw1604 (hs.2.1 156 _ rfl) (by decide) (hf_lin hs 156 rfl) rfl (Nat.le_of_ble_eq_true rfl) rfl (Nat.le_of_ble_eq_true rfl) (Nat.zero_le _) (Nat.zero_le _) (hf_mono (fun r M q => hf_drop (l' := [none]) (by simp [hf_sub]) q) h)
    · replace h := h.2 hc
      refine hf_lload_n dX12_small_6 rfl rfl ?_
      refine hf_ldc2 (v := 1000000) dX12_small_7 hw1528 ?_
      refine hf_lcmp dX12_small_10 ?_
      refine hf_if_le (tgt := 18) dX12_small_11 (by decide) (fun hc => ?_) (fun hc => ?_)
      · replace h := h.1 hc
        refine hf_lload_n dX12_small_18 rfl rfl ?_
        refine hf_l2i dX12_small_19 ?_
        refine hf_ireturn dX12_small_20 rfl rfl ?_
        show hf_G X Y_X12_obeys (d + 1) _ _ 62 [some (.ref 156)] [.int ((L 156 47).toInt32), .ref 156] (t, T, I, L, P) _
        exact hf_callV (c := 12) (as := [.int ((L 156 47).toInt32)]) ok_X12_sizes dX12_obeys_62 hw1171 hw1172 hw1604 (hs.2.1 156 _ rfl) (by decide) (hf_lin hs 156 rfl) rfl (Nat.le_of_ble_eq_true rfl) rfl (Nat.le_of_ble_eq_true rfl) (Nat.zero_le _) (Nat.zero_le _) (hf_mono (fun r M q => hf_drop (l' := [none]) (by simp [hf_sub]) q) h)
      · replace h := h.2 hc
        refine hf_iconst (v := (-1)) dX12_small_14 (by decide) ?_
        refine hf_goto (tgt := 20) dX12_small_15 (by decide) ?_
        refine hf_ireturn dX12_small_20 rfl rfl ?_
        show hf_G X Y_X12_obeys (d + 1) _ _ 62 [some (.ref 156)] [.int (-1), .ref 156] (t, T, I, L, P) _
        exact hf_callV (c := 12) (as := [.int (-1)]) ok_X12_sizes dX12_obeys_62 hw1171 hw1172 hw1604 (hs.2.1 156 _ rfl) (by decide) (hf_lin hs 156 rfl) rfl (Nat.le_of_ble_eq_true rfl) rfl (Nat.le_of_ble_eq_true rfl) (Nat.zero_le _) (Nat.zero_le _) (hf_mono (fun r M q => hf_drop (l' := [none]) (by simp [hf_sub]) q) h)
  · match j, hj with
    | 0, _ =>
      have hx : (I 156 44) = 25 := hf_swi hq (by decide)
      refine hf_tableIn (off := 28) (tgt := 32) dX12_obeys_4 (by rw [hx]; decide) (by rw [hx]; decide) (by rw [hx]; rfl) (by decide) ?_
      replace h := h.1 hx
      refine hf_aload_n dX12_obeys_32 rfl rfl ?_
      refine hf_aload_n dX12_obeys_33 rfl rfl ?_
      refine hf_getl (c := 12) (j := 47) dX12_obeys_34 (hs.2.1 156 _ rfl) (hf_lin hs 156 rfl) (by decide) (by decide) hw1083 rfl ?_
      refine hf_callS (as := [.long (L 156 47)]) ok_X12_small dX12_obeys_37 hw1525 hw1526 rfl (Nat.le_of_ble_eq_true rfl) rfl (Nat.le_of_ble_eq_true rfl) (Nat.zero_le _) (Nat.zero_le _) ?_
      show hf_G X Y_X12_small d _ _ 0 [some (.long (L 156 47)), none] [] (t, T, I, L, P) _
      refine hf_lload_n dX12_small_0 rfl rfl ?_
      refine hf_lconst (v := 0) dX12_small_1 (by decide) ?_
      refine hf_lcmp dX12_small_2 ?_
      refine hf_if_lt (tgt := 14) dX12_small_3 (by decide) (fun hc => ?_) (fun hc => ?_)
      · replace h := h.1 hc
        refine hf_iconst (v := (-1)) dX12_small_14 (by decide) ?_
        refine hf_goto (tgt := 20) dX12_small_15 (by decide) ?_
        refine hf_ireturn dX12_small_20 rfl rfl ?_
        show hf_G X Y_X12_obeys (d + 1) _ _ 40 [some (.ref 156)] [.int (-1), .ref 156] (t, T, I, L, P) _
        exact hf_callV (c := 12) (as := [.int (-1)]) ok_X12_setsKept dX12_obeys_40 hw1399 hw1400 hw1652 (hs.2.1 156 _ rfl) (by decide) (hf_lin hs 156 rfl) rfl (Nat.le_of_ble_eq_true rfl) rfl (Nat.le_of_ble_eq_true rfl) (Nat.zero_le _) (Nat.zero_le _) (hf_mono (fun r M q => hf_drop (l' := [none]) (by simp [hf_sub]) q) h)
      · replace h := h.2 hc
        refine hf_lload_n dX12_small_6 rfl rfl ?_
        refine hf_ldc2 (v := 1000000) dX12_small_7 hw1528 ?_
        refine hf_lcmp dX12_small_10 ?_
        refine hf_if_le (tgt := 18) dX12_small_11 (by decide) (fun hc => ?_) (fun hc => ?_)
        · replace h := h.1 hc
          refine hf_lload_n dX12_small_18 rfl rfl ?_
          refine hf_l2i dX12_small_19 ?_
          refine hf_ireturn dX12_small_20 rfl rfl ?_
          show hf_G X Y_X12_obeys (d + 1) _ _ 40 [some (.ref 156)] [.int ((L 156 47).toInt32), .ref 156] (t, T, I, L, P) _
          exact hf_callV (c := 12) (as := [.int ((L 156 47).toInt32)]) ok_X12_setsKept dX12_obeys_40 hw1399 hw1400 hw1652 (hs.2.1 156 _ rfl) (by decide) (hf_lin hs 156 rfl) rfl (Nat.le_of_ble_eq_true rfl) rfl (Nat.le_of_ble_eq_true rfl) (Nat.zero_le _) (Nat.zero_le _) (hf_mono (fun r M q => hf_drop (l' := [none]) (by simp [hf_sub]) q) h)
        · replace h := h.2 hc
          refine hf_iconst (v := (-1)) dX12_small_14 (by decide) ?_
          refine hf_goto (tgt := 20) dX12_small_15 (by decide) ?_
          refine hf_ireturn dX12_small_20 rfl rfl ?_
          show hf_G X Y_X12_obeys (d + 1) _ _ 40 [some (.ref 156)] [.int (-1), .ref 156] (t, T, I, L, P) _
          exact hf_callV (c := 12) (as := [.int (-1)]) ok_X12_setsKept dX12_obeys_40 hw1399 hw1400 hw1652 (hs.2.1 156 _ rfl) (by decide) (hf_lin hs 156 rfl) rfl (Nat.le_of_ble_eq_true rfl) rfl (Nat.le_of_ble_eq_true rfl) (Nat.zero_le _) (Nat.zero_le _) (hf_mono (fun r M q => hf_drop (l' := [none]) (by simp [hf_sub]) q) h)
    | 1, _ =>
      have hx : (I 156 44) = 26 := hf_swi hq (by decide)
      refine hf_tableIn (off := 40) (tgt := 44) dX12_obeys_4 (by rw [hx]; decide) (by rw [hx]; decide) (by rw [hx]; rfl) (by decide) ?_
      replace h := h.2.1 hx
      refine hf_aload_n dX12_obeys_44 rfl rfl ?_
      exact hf_callV (c := 12) (as := []) ok_X12_turnsKept dX12_obeys_45 hw1409 hw1410 hw1654 (hs.2.1 156 _ rfl) (by decide) (hf_lin hs 156 rfl) rfl (Nat.le_of_ble_eq_true rfl) rfl (Nat.le_of_ble_eq_true rfl) (Nat.zero_le _) (Nat.zero_le _) (hf_mono (fun r M q => hf_drop (l' := [none]) (by simp [hf_sub]) q) h)
    | 2, _ =>
      have hx : (I 156 44) = 27 := hf_swi hq (by decide)
      refine hf_tableIn (off := 45) (tgt := 49) dX12_obeys_4 (by rw [hx]; decide) (by rw [hx]; decide) (by rw [hx]; rfl) (by decide) ?_
      replace h := h.2.2.1 hx
      refine hf_aload_n dX12_obeys_49 rfl rfl ?_
      exact hf_callV (c := 12) (as := []) ok_X12_clearsKept dX12_obeys_50 hw1416 hw1417 hw1655 (hs.2.1 156 _ rfl) (by decide) (hf_lin hs 156 rfl) rfl (Nat.le_of_ble_eq_true rfl) rfl (Nat.le_of_ble_eq_true rfl) (Nat.zero_le _) (Nat.zero_le _) (hf_mono (fun r M q => hf_drop (l' := [none]) (by simp [hf_sub]) q) h)
    | j + 3, hj => exact absurd hj (by omega)

set_option maxHeartbeats 4000000 in
theorem w_X12_obeys_65 {X : hf_X} {d k n t : Nat} {T : hf_T} {I : hf_I} {L : hf_L} {P : hf_P} {Q : Option Value → hf_M → Prop} {s0 : Int32} (hs : hf_Lay t T P) (h : Q (some (.int s0)) (t, T, I, L, P)) : hf_G X Y_X12_obeys d k n 65 [none] [.int s0] (t, T, I, L, P) Q := by
  refine hf_ireturn dX12_obeys_65 rfl rfl ?_
  exact h

set_option maxHeartbeats 4000000 in
theorem w_X12_obeys_43 {X : hf_X} {d k n t : Nat} {T : hf_T} {I : hf_I} {L : hf_L} {P : hf_P} {Q : Option Value → hf_M → Prop} {s0 : Int32} (hs : hf_Lay t T P) (h : Q (some (.int s0)) (t, T, I, L, P)) : hf_G X Y_X12_obeys d k n 43 [none] [.int s0] (t, T, I, L, P) Q := by
  refine hf_ireturn dX12_obeys_43 rfl rfl ?_
  exact h

set_option maxHeartbeats 4000000 in
theorem w_X12_obeys_48 {X : hf_X} {d k n t : Nat} {T : hf_T} {I : hf_I} {L : hf_L} {P : hf_P} {Q : Option Value → hf_M → Prop} {s0 : Int32} (hs : hf_Lay t T P) (h : Q (some (.int s0)) (t, T, I, L, P)) : hf_G X Y_X12_obeys d k n 48 [none] [.int s0] (t, T, I, L, P) Q := by
  refine hf_ireturn dX12_obeys_48 rfl rfl ?_
  exact h

set_option maxHeartbeats 4000000 in
theorem w_X12_obeys_53 {X : hf_X} {d k n t : Nat} {T : hf_T} {I : hf_I} {L : hf_L} {P : hf_P} {Q : Option Value → hf_M → Prop} {s0 : Int32} (hs : hf_Lay t T P) (h : Q (some (.int s0)) (t, T, I, L, P)) : hf_G X Y_X12_obeys d k n 53 [none] [.int s0] (t, T, I, L, P) Q := by
  refine hf_ireturn dX12_obeys_53 rfl rfl ?_
  exact h

set_option maxHeartbeats 4000000 in
theorem w_X12_runs_0 {X : hf_X} {d k n t : Nat} {T : hf_T} {I : hf_I} {L : hf_L} {P : hf_P} {Q : Option Value → hf_M → Prop} {x1 : Int32} (hs : hf_Lay t T P) (h : hf_G X Y_X12_goesAlong d 0 0 0 (hf_en [.ref 156, .int x1, .int 0] 3) [] (t, T, I, L, P) (fun r M => hf_G X Y_X12_runs (d + 1) k n 6 [some (.ref 156), some (.int x1), none, none, none, none] (r.toList ++ []) M Q)) : hf_G X Y_X12_runs (d + 1) k n 0 (hf_en [.ref 156, .int x1] 6) [] (t, T, I, L, P) Q := by
  show hf_G X Y_X12_runs (d + 1) k n 0 [some (.ref 156), some (.int x1), none, none, none, none] [] (t, T, I, L, P) Q
  refine hf_aload_n dX12_runs_0 rfl rfl ?_
  refine hf_iload_n dX12_runs_1 rfl rfl ?_
  refine hf_iconst (v := 0) dX12_runs_2 (by decide) ?_
  exact hf_callV (c := 12) (as := [.int x1, .int 0]) ok_X12_goesAlong dX12_runs_3 hw1519 hw1520 hw1667 (hs.2.1 156 _ rfl) (by decide) (hf_lin hs 156 rfl) rfl (Nat.le_of_ble_eq_true rfl) rfl (Nat.le_of_ble_eq_true rfl) (Nat.zero_le _) (Nat.zero_le _) h

set_option maxHeartbeats 4000000 in
theorem w_X12_runs_6 {X : hf_X} {d k n t : Nat} {T : hf_T} {I : hf_I} {L : hf_L} {P : hf_P} {Q : Option Value → hf_M → Prop} {x1 : Int32} (hs : hf_Lay t T P) (h : hf_G X Y_X12_runs d k n 19 [some (.ref 156), some (.int x1), some (.int (I 156 43)), some (.int (I 156 19)), some (.int 0), none] [] (t, T, I, L, P) Q) : hf_G X Y_X12_runs d k n 6 [some (.ref 156), some (.int x1), none, none, none, none] [] (t, T, I, L, P) Q := by
  refine hf_aload_n dX12_runs_6 rfl rfl ?_
  refine hf_geti (c := 12) (j := 43) dX12_runs_7 (hs.2.1 156 _ rfl) (hf_lin hs 156 rfl) (by decide) (by decide) hw1079 (Or.inl rfl) ?_
  refine hf_istore_n (l2 := [some (.ref 156), some (.int x1), some (.int (I 156 43)), none, none, none]) dX12_runs_10 rfl (by decide) rfl ?_
  refine hf_aload_n dX12_runs_11 rfl rfl ?_
  refine hf_geti (c := 12) (j := 19) dX12_runs_12 (hs.2.1 156 _ rfl) (hf_lin hs 156 rfl) (by decide) (by decide) hw1055 (Or.inl rfl) ?_
  refine hf_istore_n (l2 := [some (.ref 156), some (.int x1), some (.int (I 156 43)), some (.int (I 156 19)), none, none]) dX12_runs_15 rfl (by decide) rfl ?_
  refine hf_iconst (v := 0) dX12_runs_16 (by decide) ?_
  refine hf_istore (l2 := [some (.ref 156), some (.int x1), some (.int (I 156 43)), some (.int (I 156 19)), some (.int 0), none]) dX12_runs_17 (by decide) rfl ?_
  exact h

set_option maxHeartbeats 4000000 in
theorem w_X12_runs_19 {X : hf_X} {d k n t : Nat} {T : hf_T} {I : hf_I} {L : hf_L} {P : hf_P} {Q : Option Value → hf_M → Prop} {x1 : Int32} {x2 : Int32} {x3 : Int32} {x4 : Int32} (hs : hf_Lay t T P) (h : (x2 ≤ x4 → Q (some (.int 0)) (t, T, (hf_up I 156 42 x3), L, P)) ∧ (¬ (x2 ≤ x4) → hf_G X Y_X12_goesAlong d 0 0 0 (hf_en [.ref 156, .int x1, .int 1] 3) [] (t, T, I, L, P) (fun r M => hf_G X Y_X12_runs (d + 1) k n 31 [some (.ref 156), some (.int x1), some (.int x2), some (.int x3), some (.int x4), none] (r.toList ++ []) M Q))) : hf_G X Y_X12_runs (d + 1) k n 19 [some (.ref 156), some (.int x1), some (.int x2), some (.int x3), some (.int x4), none] [] (t, T, I, L, P) Q := by
  refine hf_iload dX12_runs_19 rfl ?_
  refine hf_iload_n dX12_runs_21 rfl rfl ?_
  refine hf_icmp_ge (tgt := 81) dX12_runs_22 (by decide) (fun hc => ?_) (fun hc => ?_)
  · replace h := h.1 hc
    refine hf_aload_n dX12_runs_81 rfl rfl ?_
    refine hf_iload_n dX12_runs_82 rfl rfl ?_
    refine hf_puti (c := 12) (j := 42) dX12_runs_83 (hs.2.1 156 _ rfl) (hf_lin hs 156 rfl) (by decide) (by decide) hw1078 rfl rfl ?_
    refine hf_iconst (v := 0) dX12_runs_86 (by decide) ?_
    refine hf_ireturn dX12_runs_87 rfl rfl ?_
    exact h
  · replace h := h.2 hc
    refine hf_aload_n dX12_runs_25 rfl rfl ?_
    refine hf_iload_n dX12_runs_26 rfl rfl ?_
    refine hf_iconst (v := 1) dX12_runs_27 (by decide) ?_
    exact hf_callV (c := 12) (as := [.int x1, .int 1]) ok_X12_goesAlong dX12_runs_28 hw1519 hw1520 hw1667 (hs.2.1 156 _ rfl) (by decide) (hf_lin hs 156 rfl) rfl (Nat.le_of_ble_eq_true rfl) rfl (Nat.le_of_ble_eq_true rfl) (Nat.zero_le _) (Nat.zero_le _) h

set_option maxHeartbeats 4000000 in
theorem w_X12_runs_31 {X : hf_X} {d k n t : Nat} {T : hf_T} {I : hf_I} {L : hf_L} {P : hf_P} {Q : Option Value → hf_M → Prop} {x1 : Int32} {x2 : Int32} {x3 : Int32} {x4 : Int32} (hs : hf_Lay t T P) (h : (¬ (I 156 46) = 0 → (¬ (I 156 45) = 0 → hf_G X Y_X12_obeys d 0 0 0 (hf_en [.ref 156] 1) [] (t, T, I, L, P) (fun r M => hf_G X Y_X12_runs (d + 1) k n 55 [some (.ref 156), some (.int x1), some (.int x2), some (.int x3), some (.int x4), none] (r.toList ++ []) M Q)) ∧ ((I 156 45) = 0 → Q (some (.int (-3))) (t, T, I, L, P))) ∧ ((I 156 46) = 0 → hf_G X Y_X12_runs (d + 1) k n 19 [some (.ref 156), some (.int x1), some (.int x2), some (.int x3), some (.int (x4 + 1)), none] [] (t, T, I, L, P) Q)) : hf_G X Y_X12_runs (d + 1) k n 31 [some (.ref 156), some (.int x1), some (.int x2), some (.int x3), some (.int x4), none] [] (t, T, I, L, P) Q := by
  refine hf_aload_n dX12_runs_31 rfl rfl ?_
  refine hf_geti (c := 12) (j := 46) dX12_runs_32 (hs.2.1 156 _ rfl) (hf_lin hs 156 rfl) (by decide) (by decide) hw1082 (Or.inr rfl) ?_
  refine hf_if_ne (tgt := 41) dX12_runs_35 (by decide) (fun hc => ?_) (fun hc => ?_)
  · replace h := h.1 hc
    refine hf_aload_n dX12_runs_41 rfl rfl ?_
    refine hf_geti (c := 12) (j := 45) dX12_runs_42 (hs.2.1 156 _ rfl) (hf_lin hs 156 rfl) (by decide) (by decide) hw1081 (Or.inr rfl) ?_
    refine hf_if_ne (tgt := 51) dX12_runs_45 (by decide) (fun hc => ?_) (fun hc => ?_)
    · replace h := h.1 hc
      refine hf_aload_n dX12_runs_51 rfl rfl ?_
      exact hf_callV (c := 12) (as := []) ok_X12_obeys dX12_runs_52 hw1522 hw1523 hw1668 (hs.2.1 156 _ rfl) (by decide) (hf_lin hs 156 rfl) rfl (Nat.le_of_ble_eq_true rfl) rfl (Nat.le_of_ble_eq_true rfl) (Nat.zero_le _) (Nat.zero_le _) h
    · replace h := h.2 hc
      refine hf_bipush (v := (-3)) dX12_runs_48 (by decide) ?_
      refine hf_ireturn dX12_runs_50 rfl rfl ?_
      exact h
  · replace h := h.2 hc
    refine hf_goto (tgt := 75) dX12_runs_38 (by decide) ?_
    refine hf_iinc (v := (x4 + 1)) (l2 := [some (.ref 156), some (.int x1), some (.int x2), some (.int x3), some (.int (x4 + 1)), none]) dX12_runs_75 (by decide) rfl rfl rfl ?_
    refine hf_goto (tgt := 19) dX12_runs_78 (by decide) ?_
    exact h

set_option maxHeartbeats 4000000 in
theorem w_X12_runs_55 {X : hf_X} {d k n t : Nat} {T : hf_T} {I : hf_I} {L : hf_L} {P : hf_P} {Q : Option Value → hf_M → Prop} {x1 : Int32} {x2 : Int32} {x3 : Int32} {x4 : Int32} {s0 : Int32} (hs : hf_Lay t T P) (h : (0 ≤ s0 → hf_G X Y_X12_runs d k n 19 [some (.ref 156), some (.int x1), some (.int x2), some (.int x3), some (.int (x4 + 1)), none] [] (t, T, (hf_up I 156 24 ((I 156 24) + 1)), L, P) Q) ∧ (¬ (0 ≤ s0) → Q (some (.int s0)) (t, T, I, L, P))) : hf_G X Y_X12_runs d k n 55 [some (.ref 156), some (.int x1), some (.int x2), some (.int x3), some (.int x4), none] [.int s0] (t, T, I, L, P) Q := by
  refine hf_istore (l2 := [some (.ref 156), some (.int x1), some (.int x2), some (.int x3), some (.int x4), some (.int s0)]) dX12_runs_55 (by decide) rfl ?_
  refine hf_iload dX12_runs_57 rfl ?_
  refine hf_if_ge (tgt := 65) dX12_runs_59 (by decide) (fun hc => ?_) (fun hc => ?_)
  · replace h := h.1 hc
    refine hf_aload_n dX12_runs_65 rfl rfl ?_
    refine hf_dup dX12_runs_66 rfl ?_
    refine hf_geti (c := 12) (j := 24) dX12_runs_67 (hs.2.1 156 _ rfl) (hf_lin hs 156 rfl) (by decide) (by decide) hw1060 (Or.inl rfl) ?_
    refine hf_iconst (v := 1) dX12_runs_70 (by decide) ?_
    refine hf_iadd dX12_runs_71 ?_
    refine hf_puti (c := 12) (j := 24) dX12_runs_72 (hs.2.1 156 _ rfl) (hf_lin hs 156 rfl) (by decide) (by decide) hw1060 rfl rfl ?_
    refine hf_iinc (v := (x4 + 1)) (l2 := [some (.ref 156), some (.int x1), some (.int x2), some (.int x3), some (.int (x4 + 1)), some (.int s0)]) dX12_runs_75 (by decide) rfl rfl rfl ?_
    refine hf_goto (tgt := 19) dX12_runs_78 (by decide) ?_
    refine hf_drop (l' := [some (.ref 156), some (.int x1), some (.int x2), some (.int x3), some (.int (x4 + 1)), none]) (by simp [hf_sub]) ?_
    exact h
  · replace h := h.2 hc
    refine hf_iload dX12_runs_62 rfl ?_
    refine hf_ireturn dX12_runs_64 rfl rfl ?_
    exact h

set_option maxHeartbeats 4000000 in
theorem w_X12_draws_0 {X : hf_X} {d k n t : Nat} {T : hf_T} {I : hf_I} {L : hf_L} {P : hf_P} {Q : Option Value → hf_M → Prop} {x1 : Int32} (hs : hf_Lay t T P) (h : ¬ x1 = 0 ∧ (Q (some (.int (((((1103 * (I 156 50).toInt64) + 12345) - ((1103 * (I 156 50).toInt64) + 12345) / 1000003 * 1000003).toInt32) - ((((1103 * (I 156 50).toInt64) + 12345) - ((1103 * (I 156 50).toInt64) + 12345) / 1000003 * 1000003).toInt32) / x1 * x1))) (t, T, (hf_up I 156 50 ((((1103 * (I 156 50).toInt64) + 12345) - ((1103 * (I 156 50).toInt64) + 12345) / 1000003 * 1000003).toInt32)), L, P))) : hf_G X Y_X12_draws d k n 0 (hf_en [.ref 156, .int x1] 2) [] (t, T, I, L, P) Q := by
  show hf_G X Y_X12_draws d k n 0 [some (.ref 156), some (.int x1)] [] (t, T, I, L, P) Q
  refine hf_aload_n dX12_draws_0 rfl rfl ?_
  refine hf_ldc2 (v := 1103) dX12_draws_1 hw1536 ?_
  refine hf_aload_n dX12_draws_4 rfl rfl ?_
  refine hf_geti (c := 12) (j := 50) dX12_draws_5 (hs.2.1 156 _ rfl) (hf_lin hs 156 rfl) (by decide) (by decide) hw1086 (Or.inl rfl) ?_
  refine hf_i2l dX12_draws_8 ?_
  refine hf_lmul dX12_draws_9 ?_
  refine hf_ldc2 (v := 12345) dX12_draws_10 hw1537 ?_
  refine hf_ladd dX12_draws_13 ?_
  refine hf_ldc2 (v := 1000003) dX12_draws_14 hw1538 ?_
  refine hf_lrem dX12_draws_17 (by decide) ?_
  refine hf_l2i dX12_draws_18 ?_
  refine hf_puti (c := 12) (j := 50) dX12_draws_19 (hs.2.1 156 _ rfl) (hf_lin hs 156 rfl) (by decide) (by decide) hw1086 rfl rfl ?_
  refine hf_aload_n dX12_draws_22 rfl rfl ?_
  refine hf_geti (c := 12) (j := 50) dX12_draws_23 (hs.2.1 156 _ rfl) (hf_lin hs 156 rfl) (by decide) (by decide) hw1086 (Or.inl rfl) ?_
  refine hf_iload_n dX12_draws_26 rfl rfl ?_
  refine hf_irem dX12_draws_27 h.1 ?_
  replace h := h.2
  refine hf_ireturn dX12_draws_28 rfl rfl ?_
  exact h
