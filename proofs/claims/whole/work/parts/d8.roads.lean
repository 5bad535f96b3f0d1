/-! the law's roads: the class is called, then the model -/
set_option maxHeartbeats 4000000 in
theorem w_L_law_216_c {X : hf_X} {d k n t : Nat} {T : hf_T} {I : hf_I} {L : hf_L} {P : hf_P} {Q : Option Value → hf_M → Prop} {i : Int32} (hs : hf_Lay t T P) (hk : 20 ≤ k) (hn : 868 ≤ n) (h : vp_in (i + 1) X.1 ∧ (vp_in (i + 2) X.1 ∧ (hf_G X Y_X11_breadth d 20 868 0 (hf_en [.ref 100, .int (X.2 (i + 1).toNatClampNeg), .int (X.2 (i + 2).toNatClampNeg)] 4) [] (t, T, I, L, P) (fun r M => hr_G X Y_L_law (d + 1) (k - 20) (n - 868) 230 [some (.ref 0), some (.ref 100), some (.ref 156), some (.int i)] (r.toList ++ []) M Q)))) : hf_G X Y_L_law (d + 1) k n 216 [some (.ref 0), some (.ref 100), some (.ref 156), some (.int i)] [] (t, T, I, L, P) Q := by
  refine hf_aload_n dL_law_216 rfl rfl ?_
  refine hf_aload_n dL_law_217 rfl rfl ?_
  refine hf_iload_n dL_law_218 rfl rfl ?_
  refine hf_iconst (v := 1) dL_law_219 (by decide) ?_
  refine hf_iadd dL_law_220 ?_
  refine hf_sld dL_law_221 h.1 ?_
  replace h := h.2
  refine hf_aload_n dL_law_222 rfl rfl ?_
  refine hf_iload_n dL_law_223 rfl rfl ?_
  refine hf_iconst (v := 2) dL_law_224 (by decide) ?_
  refine hf_iadd dL_law_225 ?_
  refine hf_sld dL_law_226 h.1 ?_
  replace h := h.2
  exact hr_callV (c := 11) (as := [.int (X.2 (i + 1).toNatClampNeg), .int (X.2 (i + 2).toNatClampNeg)]) ok_X11_breadth dL_law_227 hw401 hw402 hw403 (hs.2.1 100 _ rfl) (by decide) (hf_lin hs 100 rfl) rfl (Nat.le_of_ble_eq_true rfl) rfl (Nat.le_of_ble_eq_true rfl) hk hn (hs.2.1 156 _ rfl) (by have := hs.1; omega) h

set_option maxHeartbeats 4000000 in
theorem w_L_law_230_m {X : hf_X} {d k n : Nat} {M : hf_M} {Q : Option Value → hf_M → Prop} {i : Int32} {s0 : Int32} (h : vp_in (i + 1) X.1 ∧ (vp_in (i + 2) X.1 ∧ (hf_G X Y_X12_breadth d 0 0 0 (hf_en [.ref 156, .int (X.2 (i + 1).toNatClampNeg), .int (X.2 (i + 2).toNatClampNeg)] 4) [] M (fun r M1 => hf_G X Y_L_law (d + 1) k n 244 [some (.ref 0), some (.ref 100), some (.ref 156), some (.int i)] (r.toList ++ [.int s0]) M1 Q)))) : hr_G X Y_L_law (d + 1) k n 230 [some (.ref 0), some (.ref 100), some (.ref 156), some (.int i)] [.int s0] M Q := by
  refine hr_aload_n dL_law_230 rfl rfl ?_
  refine hr_aload_n dL_law_231 rfl rfl ?_
  refine hr_iload_n dL_law_232 rfl rfl ?_
  refine hr_iconst (v := 1) dL_law_233 (by decide) ?_
  refine hr_iadd dL_law_234 ?_
  refine hr_sld dL_law_235 h.1 ?_
  replace h := h.2
  refine hr_aload_n dL_law_236 rfl rfl ?_
  refine hr_iload_n dL_law_237 rfl rfl ?_
  refine hr_iconst (v := 2) dL_law_238 (by decide) ?_
  refine hr_iadd dL_law_239 ?_
  refine hr_sld dL_law_240 h.1 ?_
  replace h := h.2
  exact hr_callM (as := [.int (X.2 (i + 1).toNatClampNeg), .int (X.2 (i + 2).toNatClampNeg)]) ok_X12_breadth dL_law_241 hw1159 hw1160 hw1161 rfl (Nat.le_of_ble_eq_true rfl) rfl (Nat.le_of_ble_eq_true rfl) (Nat.zero_le _) (Nat.zero_le _) h

set_option maxHeartbeats 4000000 in
theorem w_L_law_249_c {X : hf_X} {d k n t : Nat} {T : hf_T} {I : hf_I} {L : hf_L} {P : hf_P} {Q : Option Value → hf_M → Prop} {i : Int32} (hs : hf_Lay t T P) (hk : 20 ≤ k) (hn : 868 ≤ n) (h : vp_in (i + 1) X.1 ∧ (vp_in (i + 2) X.1 ∧ (hf_G X Y_X11_column d 20 868 0 (hf_en [.ref 100, .int (X.2 (i + 1).toNatClampNeg), .int (X.2 (i + 2).toNatClampNeg)] 3) [] (t, T, I, L, P) (fun r M => hr_G X Y_L_law (d + 1) (k - 20) (n - 868) 263 [some (.ref 0), some (.ref 100), some (.ref 156), some (.int i)] (r.toList ++ []) M Q)))) : hf_G X Y_L_law (d + 1) k n 249 [some (.ref 0), some (.ref 100), some (.ref 156), some (.int i)] [] (t, T, I, L, P) Q := by
  refine hf_aload_n dL_law_249 rfl rfl ?_
  refine hf_aload_n dL_law_250 rfl rfl ?_
  refine hf_iload_n dL_law_251 rfl rfl ?_
  refine hf_iconst (v := 1) dL_law_252 (by decide) ?_
  refine hf_iadd dL_law_253 ?_
  refine hf_sld dL_law_254 h.1 ?_
  replace h := h.2
  refine hf_aload_n dL_law_255 rfl rfl ?_
  refine hf_iload_n dL_law_256 rfl rfl ?_
  refine hf_iconst (v := 2) dL_law_257 (by decide) ?_
  refine hf_iadd dL_law_258 ?_
  refine hf_sld dL_law_259 h.1 ?_
  replace h := h.2
  exact hr_callV (c := 11) (as := [.int (X.2 (i + 1).toNatClampNeg), .int (X.2 (i + 2).toNatClampNeg)]) ok_X11_column dL_law_260 hw421 hw422 hw423 (hs.2.1 100 _ rfl) (by decide) (hf_lin hs 100 rfl) rfl (Nat.le_of_ble_eq_true rfl) rfl (Nat.le_of_ble_eq_true rfl) hk hn (hs.2.1 156 _ rfl) (by have := hs.1; omega) h

set_option maxHeartbeats 4000000 in
theorem w_L_law_263_m {X : hf_X} {d k n : Nat} {M : hf_M} {Q : Option Value → hf_M → Prop} {i : Int32} {s0 : Int32} (h : vp_in (i + 1) X.1 ∧ (vp_in (i + 2) X.1 ∧ (hf_G X Y_X12_column d 0 0 0 (hf_en [.ref 156, .int (X.2 (i + 1).toNatClampNeg), .int (X.2 (i + 2).toNatClampNeg)] 3) [] M (fun r M1 => hf_G X Y_L_law (d + 1) k n 277 [some (.ref 0), some (.ref 100), some (.ref 156), some (.int i)] (r.toList ++ [.int s0]) M1 Q)))) : hr_G X Y_L_law (d + 1) k n 263 [some (.ref 0), some (.ref 100), some (.ref 156), some (.int i)] [.int s0] M Q := by
  refine hr_aload_n dL_law_263 rfl rfl ?_
  refine hr_aload_n dL_law_264 rfl rfl ?_
  refine hr_iload_n dL_law_265 rfl rfl ?_
  refine hr_iconst (v := 1) dL_law_266 (by decide) ?_
  refine hr_iadd dL_law_267 ?_
  refine hr_sld dL_law_268 h.1 ?_
  replace h := h.2
  refine hr_aload_n dL_law_269 rfl rfl ?_
  refine hr_iload_n dL_law_270 rfl rfl ?_
  refine hr_iconst (v := 2) dL_law_271 (by decide) ?_
  refine hr_iadd dL_law_272 ?_
  refine hr_sld dL_law_273 h.1 ?_
  replace h := h.2
  exact hr_callM (as := [.int (X.2 (i + 1).toNatClampNeg), .int (X.2 (i + 2).toNatClampNeg)]) ok_X12_column dL_law_274 hw1163 hw1164 hw1165 rfl (Nat.le_of_ble_eq_true rfl) rfl (Nat.le_of_ble_eq_true rfl) (Nat.zero_le _) (Nat.zero_le _) h

set_option maxHeartbeats 4000000 in
theorem w_L_law_282_c {X : hf_X} {d k n t : Nat} {T : hf_T} {I : hf_I} {L : hf_L} {P : hf_P} {Q : Option Value → hf_M → Prop} {i : Int32} (hs : hf_Lay t T P) (hk : 20 ≤ k) (hn : 868 ≤ n) (h : vp_in (i + 1) X.1 ∧ (hf_G X Y_X11_size d 20 868 0 (hf_en [.ref 100, .int (X.2 (i + 1).toNatClampNeg)] 2) [] (t, T, I, L, P) (fun r M => hr_G X Y_L_law (d + 1) (k - 20) (n - 868) 291 [some (.ref 0), some (.ref 100), some (.ref 156), some (.int i)] (r.toList ++ []) M Q))) : hf_G X Y_L_law (d + 1) k n 282 [some (.ref 0), some (.ref 100), some (.ref 156), some (.int i)] [] (t, T, I, L, P) Q := by
  refine hf_aload_n dL_law_282 rfl rfl ?_
  refine hf_aload_n dL_law_283 rfl rfl ?_
  refine hf_iload_n dL_law_284 rfl rfl ?_
  refine hf_iconst (v := 1) dL_law_285 (by decide) ?_
  refine hf_iadd dL_law_286 ?_
  refine hf_sld dL_law_287 h.1 ?_
  replace h := h.2
  exact hr_callV (c := 11) (as := [.int (X.2 (i + 1).toNatClampNeg)]) ok_X11_size dL_law_288 hw425 hw426 hw427 (hs.2.1 100 _ rfl) (by decide) (hf_lin hs 100 rfl) rfl (Nat.le_of_ble_eq_true rfl) rfl (Nat.le_of_ble_eq_true rfl) hk hn (hs.2.1 156 _ rfl) (by have := hs.1; omega) h

set_option maxHeartbeats 4000000 in
theorem w_L_law_291_m {X : hf_X} {d k n : Nat} {M : hf_M} {Q : Option Value → hf_M → Prop} {i : Int32} {s0 : Int32} (h : vp_in (i + 1) X.1 ∧ (hf_G X Y_X12_size d 0 0 0 (hf_en [.ref 156, .int (X.2 (i + 1).toNatClampNeg)] 2) [] M (fun r M1 => hf_G X Y_L_law (d + 1) k n 300 [some (.ref 0), some (.ref 100), some (.ref 156), some (.int i)] (r.toList ++ [.int s0]) M1 Q))) : hr_G X Y_L_law (d + 1) k n 291 [some (.ref 0), some (.ref 100), some (.ref 156), some (.int i)] [.int s0] M Q := by
  refine hr_aload_n dL_law_291 rfl rfl ?_
  refine hr_aload_n dL_law_292 rfl rfl ?_
  refine hr_iload_n dL_law_293 rfl rfl ?_
  refine hr_iconst (v := 1) dL_law_294 (by decide) ?_
  refine hr_iadd dL_law_295 ?_
  refine hr_sld dL_law_296 h.1 ?_
  replace h := h.2
  exact hr_callM (as := [.int (X.2 (i + 1).toNatClampNeg)]) ok_X12_size dL_law_297 hw1167 hw1168 hw1169 rfl (Nat.le_of_ble_eq_true rfl) rfl (Nat.le_of_ble_eq_true rfl) (Nat.zero_le _) (Nat.zero_le _) h

set_option maxHeartbeats 4000000 in
theorem w_L_law_305_c {X : hf_X} {d k n t : Nat} {T : hf_T} {I : hf_I} {L : hf_L} {P : hf_P} {Q : Option Value → hf_M → Prop} {i : Int32} (hs : hf_Lay t T P) (hk : 20 ≤ k) (hn : 868 ≤ n) (h : vp_in (i + 1) X.1 ∧ (vp_in (i + 2) X.1 ∧ (hf_G X Y_X11_worth d 20 868 0 (hf_en [.ref 100, .int (X.2 (i + 1).toNatClampNeg), .int (X.2 (i + 2).toNatClampNeg)] 4) [] (t, T, I, L, P) (fun r M => hr_G X Y_L_law (d + 1) (k - 20) (n - 868) 319 [some (.ref 0), some (.ref 100), some (.ref 156), some (.int i)] (r.toList ++ []) M Q)))) : hf_G X Y_L_law (d + 1) k n 305 [some (.ref 0), some (.ref 100), some (.ref 156), some (.int i)] [] (t, T, I, L, P) Q := by
  refine hf_aload_n dL_law_305 rfl rfl ?_
  refine hf_aload_n dL_law_306 rfl rfl ?_
  refine hf_iload_n dL_law_307 rfl rfl ?_
  refine hf_iconst (v := 1) dL_law_308 (by decide) ?_
  refine hf_iadd dL_law_309 ?_
  refine hf_sld dL_law_310 h.1 ?_
  replace h := h.2
  refine hf_aload_n dL_law_311 rfl rfl ?_
  refine hf_iload_n dL_law_312 rfl rfl ?_
  refine hf_iconst (v := 2) dL_law_313 (by decide) ?_
  refine hf_iadd dL_law_314 ?_
  refine hf_sld dL_law_315 h.1 ?_
  replace h := h.2
  exact hr_callV (c := 11) (as := [.int (X.2 (i + 1).toNatClampNeg), .int (X.2 (i + 2).toNatClampNeg)]) ok_X11_worth dL_law_316 hw435 hw436 hw437 (hs.2.1 100 _ rfl) (by decide) (hf_lin hs 100 rfl) rfl (Nat.le_of_ble_eq_true rfl) rfl (Nat.le_of_ble_eq_true rfl) hk hn (hs.2.1 156 _ rfl) (by have := hs.1; omega) h

set_option maxHeartbeats 4000000 in
theorem w_L_law_319_m {X : hf_X} {d k n : Nat} {M : hf_M} {Q : Option Value → hf_M → Prop} {i : Int32} {s0 : Int32} (h : vp_in (i + 1) X.1 ∧ (vp_in (i + 2) X.1 ∧ (hf_G X Y_X12_worth d 0 0 0 (hf_en [.ref 156, .int (X.2 (i + 1).toNatClampNeg), .int (X.2 (i + 2).toNatClampNeg)] 4) [] M (fun r M1 => hf_G X Y_L_law (d + 1) k n 333 [some (.ref 0), some (.ref 100), some (.ref 156), some (.int i)] (r.toList ++ [.int s0]) M1 Q)))) : hr_G X Y_L_law (d + 1) k n 319 [some (.ref 0), some (.ref 100), some (.ref 156), some (.int i)] [.int s0] M Q := by
  refine hr_aload_n dL_law_319 rfl rfl ?_
  refine hr_aload_n dL_law_320 rfl rfl ?_
  refine hr_iload_n dL_law_321 rfl rfl ?_
  refine hr_iconst (v := 1) dL_law_322 (by decide) ?_
  refine hr_iadd dL_law_323 ?_
  refine hr_sld dL_law_324 h.1 ?_
  replace h := h.2
  refine hr_aload_n dL_law_325 rfl rfl ?_
  refine hr_iload_n dL_law_326 rfl rfl ?_
  refine hr_iconst (v := 2) dL_law_327 (by decide) ?_
  refine hr_iadd dL_law_328 ?_
  refine hr_sld dL_law_329 h.1 ?_
  replace h := h.2
  exact hr_callM (as := [.int (X.2 (i + 1).toNatClampNeg), .int (X.2 (i + 2).toNatClampNeg)]) ok_X12_worth dL_law_330 hw1177 hw1178 hw1179 rfl (Nat.le_of_ble_eq_true rfl) rfl (Nat.le_of_ble_eq_true rfl) (Nat.zero_le _) (Nat.zero_le _) h

set_option maxHeartbeats 4000000 in
theorem w_L_law_338_c {X : hf_X} {d k n t : Nat} {T : hf_T} {I : hf_I} {L : hf_L} {P : hf_P} {Q : Option Value → hf_M → Prop} {i : Int32} (hs : hf_Lay t T P) (hk : 20 ≤ k) (hn : 868 ≤ n) (h : vp_in (i + 1) X.1 ∧ (vp_in (i + 2) X.1 ∧ (hf_G X Y_X11_terms d 20 868 0 (hf_en [.ref 100, .int (X.2 (i + 1).toNatClampNeg), .int (X.2 (i + 2).toNatClampNeg)] 4) [] (t, T, I, L, P) (fun r M => hr_G X Y_L_law (d + 1) (k - 20) (n - 868) 352 [some (.ref 0), some (.ref 100), some (.ref 156), some (.int i)] (r.toList ++ []) M Q)))) : hf_G X Y_L_law (d + 1) k n 338 [some (.ref 0), some (.ref 100), some (.ref 156), some (.int i)] [] (t, T, I, L, P) Q := by
  refine hf_aload_n dL_law_338 rfl rfl ?_
  refine hf_aload_n dL_law_339 rfl rfl ?_
  refine hf_iload_n dL_law_340 rfl rfl ?_
  refine hf_iconst (v := 1) dL_law_341 (by decide) ?_
  refine hf_iadd dL_law_342 ?_
  refine hf_sld dL_law_343 h.1 ?_
  replace h := h.2
  refine hf_aload_n dL_law_344 rfl rfl ?_
  refine hf_iload_n dL_law_345 rfl rfl ?_
  refine hf_iconst (v := 2) dL_law_346 (by decide) ?_
  refine hf_iadd dL_law_347 ?_
  refine hf_sld dL_law_348 h.1 ?_
  replace h := h.2
  exact hr_callV (c := 11) (as := [.int (X.2 (i + 1).toNatClampNeg), .int (X.2 (i + 2).toNatClampNeg)]) ok_X11_terms dL_law_349 hw439 hw440 hw441 (hs.2.1 100 _ rfl) (by decide) (hf_lin hs 100 rfl) rfl (Nat.le_of_ble_eq_true rfl) rfl (Nat.le_of_ble_eq_true rfl) hk hn (hs.2.1 156 _ rfl) (by have := hs.1; omega) h

set_option maxHeartbeats 4000000 in
theorem w_L_law_352_m {X : hf_X} {d k n : Nat} {M : hf_M} {Q : Option Value → hf_M → Prop} {i : Int32} {s0 : Int32} (h : vp_in (i + 1) X.1 ∧ (vp_in (i + 2) X.1 ∧ (hf_G X Y_X12_terms d 0 0 0 (hf_en [.ref 156, .int (X.2 (i + 1).toNatClampNeg), .int (X.2 (i + 2).toNatClampNeg)] 4) [] M (fun r M1 => hf_G X Y_L_law (d + 1) k n 366 [some (.ref 0), some (.ref 100), some (.ref 156), some (.int i)] (r.toList ++ [.int s0]) M1 Q)))) : hr_G X Y_L_law (d + 1) k n 352 [some (.ref 0), some (.ref 100), some (.ref 156), some (.int i)] [.int s0] M Q := by
  refine hr_aload_n dL_law_352 rfl rfl ?_
  refine hr_aload_n dL_law_353 rfl rfl ?_
  refine hr_iload_n dL_law_354 rfl rfl ?_
  refine hr_iconst (v := 1) dL_law_355 (by decide) ?_
  refine hr_iadd dL_law_356 ?_
  refine hr_sld dL_law_357 h.1 ?_
  replace h := h.2
  refine hr_aload_n dL_law_358 rfl rfl ?_
  refine hr_iload_n dL_law_359 rfl rfl ?_
  refine hr_iconst (v := 2) dL_law_360 (by decide) ?_
  refine hr_iadd dL_law_361 ?_
  refine hr_sld dL_law_362 h.1 ?_
  replace h := h.2
  exact hr_callM (as := [.int (X.2 (i + 1).toNatClampNeg), .int (X.2 (i + 2).toNatClampNeg)]) ok_X12_terms dL_law_363 hw1181 hw1182 hw1183 rfl (Nat.le_of_ble_eq_true rfl) rfl (Nat.le_of_ble_eq_true rfl) (Nat.zero_le _) (Nat.zero_le _) h

set_option maxHeartbeats 4000000 in
theorem w_L_law_371_c {X : hf_X} {d k n t : Nat} {T : hf_T} {I : hf_I} {L : hf_L} {P : hf_P} {Q : Option Value → hf_M → Prop} {i : Int32} (hs : hf_Lay t T P) (hk : 20 ≤ k) (hn : 868 ≤ n) (h : vp_in (i + 1) X.1 ∧ (vp_in (i + 2) X.1 ∧ (vp_in (i + 3) X.1 ∧ (vp_in (i + 4) X.1 ∧ (vp_in (i + 5) X.1 ∧ (hf_G X Y_X11_feed d 20 868 0 (hf_en [.ref 100, .int (X.2 (i + 1).toNatClampNeg), .int (X.2 (i + 2).toNatClampNeg), .int (X.2 (i + 3).toNatClampNeg), .int (X.2 (i + 4).toNatClampNeg), .int (X.2 (i + 5).toNatClampNeg)] 6) [] (t, T, I, L, P) (fun r M => hr_G X Y_L_law (d + 1) (k - 20) (n - 868) 400 [some (.ref 0), some (.ref 100), some (.ref 156), some (.int i)] (r.toList ++ []) M Q))))))) : hf_G X Y_L_law (d + 1) k n 371 [some (.ref 0), some (.ref 100), some (.ref 156), some (.int i)] [] (t, T, I, L, P) Q := by
  refine hf_aload_n dL_law_371 rfl rfl ?_
  refine hf_aload_n dL_law_372 rfl rfl ?_
  refine hf_iload_n dL_law_373 rfl rfl ?_
  refine hf_iconst (v := 1) dL_law_374 (by decide) ?_
  refine hf_iadd dL_law_375 ?_
  refine hf_sld dL_law_376 h.1 ?_
  replace h := h.2
  refine hf_aload_n dL_law_377 rfl rfl ?_
  refine hf_iload_n dL_law_378 rfl rfl ?_
  refine hf_iconst (v := 2) dL_law_379 (by decide) ?_
  refine hf_iadd dL_law_380 ?_
  refine hf_sld dL_law_381 h.1 ?_
  replace h := h.2
  refine hf_aload_n dL_law_382 rfl rfl ?_
  refine hf_iload_n dL_law_383 rfl rfl ?_
  refine hf_iconst (v := 3) dL_law_384 (by decide) ?_
  refine hf_iadd dL_law_385 ?_
  refine hf_sld dL_law_386 h.1 ?_
  replace h := h.2
  refine hf_aload_n dL_law_387 rfl rfl ?_
  refine hf_iload_n dL_law_388 rfl rfl ?_
  refine hf_iconst (v := 4) dL_law_389 (by decide) ?_
  refine hf_iadd dL_law_390 ?_
  refine hf_sld dL_law_391 h.1 ?_
  replace h := h.2
  refine hf_aload_n dL_law_392 rfl rfl ?_
  refine hf_iload_n dL_law_393 rfl rfl ?_
  refine hf_iconst (v := 5) dL_law_394 (by decide) ?_
  refine hf_iadd dL_law_395 ?_
  refine hf_sld dL_law_396 h.1 ?_
  replace h := h.2
  exact hr_callV (c := 11) (as := [.int (X.2 (i + 1).toNatClampNeg), .int (X.2 (i + 2).toNatClampNeg), .int (X.2 (i + 3).toNatClampNeg), .int (X.2 (i + 4).toNatClampNeg), .int (X.2 (i + 5).toNatClampNeg)]) ok_X11_feed dL_law_397 hw443 hw444 hw445 (hs.2.1 100 _ rfl) (by decide) (hf_lin hs 100 rfl) rfl (Nat.le_of_ble_eq_true rfl) rfl (Nat.le_of_ble_eq_true rfl) hk hn (hs.2.1 156 _ rfl) (by have := hs.1; omega) h

set_option maxHeartbeats 4000000 in
theorem w_L_law_400_m {X : hf_X} {d k n : Nat} {M : hf_M} {Q : Option Value → hf_M → Prop} {i : Int32} {s0 : Int32} (h : vp_in (i + 1) X.1 ∧ (vp_in (i + 2) X.1 ∧ (vp_in (i + 3) X.1 ∧ (vp_in (i + 4) X.1 ∧ (vp_in (i + 5) X.1 ∧ (hf_G X Y_X12_feed d 0 0 0 (hf_en [.ref 156, .int (X.2 (i + 1).toNatClampNeg), .int (X.2 (i + 2).toNatClampNeg), .int (X.2 (i + 3).toNatClampNeg), .int (X.2 (i + 4).toNatClampNeg), .int (X.2 (i + 5).toNatClampNeg)] 7) [] M (fun r M1 => hf_G X Y_L_law (d + 1) k n 429 [some (.ref 0), some (.ref 100), some (.ref 156), some (.int i)] (r.toList ++ [.int s0]) M1 Q))))))) : hr_G X Y_L_law (d + 1) k n 400 [some (.ref 0), some (.ref 100), some (.ref 156), some (.int i)] [.int s0] M Q := by
  refine hr_aload_n dL_law_400 rfl rfl ?_
  refine hr_aload_n dL_law_401 rfl rfl ?_
  refine hr_iload_n dL_law_402 rfl rfl ?_
  refine hr_iconst (v := 1) dL_law_403 (by decide) ?_
  refine hr_iadd dL_law_404 ?_
  refine hr_sld dL_law_405 h.1 ?_
  replace h := h.2
  refine hr_aload_n dL_law_406 rfl rfl ?_
  refine hr_iload_n dL_law_407 rfl rfl ?_
  refine hr_iconst (v := 2) dL_law_408 (by decide) ?_
  refine hr_iadd dL_law_409 ?_
  refine hr_sld dL_law_410 h.1 ?_
  replace h := h.2
  refine hr_aload_n dL_law_411 rfl rfl ?_
  refine hr_iload_n dL_law_412 rfl rfl ?_
  refine hr_iconst (v := 3) dL_law_413 (by decide) ?_
  refine hr_iadd dL_law_414 ?_
  refine hr_sld dL_law_415 h.1 ?_
  replace h := h.2
  refine hr_aload_n dL_law_416 rfl rfl ?_
  refine hr_iload_n dL_law_417 rfl rfl ?_
  refine hr_iconst (v := 4) dL_law_418 (by decide) ?_
  refine hr_iadd dL_law_419 ?_
  refine hr_sld dL_law_420 h.1 ?_
  replace h := h.2
  refine hr_aload_n dL_law_421 rfl rfl ?_
  refine hr_iload_n dL_law_422 rfl rfl ?_
  refine hr_iconst (v := 5) dL_law_423 (by decide) ?_
  refine hr_iadd dL_law_424 ?_
  refine hr_sld dL_law_425 h.1 ?_
  replace h := h.2
  exact hr_callM (as := [.int (X.2 (i + 1).toNatClampNeg), .int (X.2 (i + 2).toNatClampNeg), .int (X.2 (i + 3).toNatClampNeg), .int (X.2 (i + 4).toNatClampNeg), .int (X.2 (i + 5).toNatClampNeg)]) ok_X12_feed dL_law_426 hw1271 hw1272 hw1273 rfl (Nat.le_of_ble_eq_true rfl) rfl (Nat.le_of_ble_eq_true rfl) (Nat.zero_le _) (Nat.zero_le _) h

set_option maxHeartbeats 4000000 in
theorem w_L_law_434_c {X : hf_X} {d k n t : Nat} {T : hf_T} {I : hf_I} {L : hf_L} {P : hf_P} {Q : Option Value → hf_M → Prop} {i : Int32} (hs : hf_Lay t T P) (hk : 20 ≤ k) (hn : 868 ≤ n) (h : vp_in (i + 1) X.1 ∧ (hf_G X Y_X11_end d 20 868 0 (hf_en [.ref 100, .int (X.2 (i + 1).toNatClampNeg)] 2) [] (t, T, I, L, P) (fun r M => hr_G X Y_L_law (d + 1) (k - 20) (n - 868) 443 [some (.ref 0), some (.ref 100), some (.ref 156), some (.int i)] (r.toList ++ []) M Q))) : hf_G X Y_L_law (d + 1) k n 434 [some (.ref 0), some (.ref 100), some (.ref 156), some (.int i)] [] (t, T, I, L, P) Q := by
  refine hf_aload_n dL_law_434 rfl rfl ?_
  refine hf_aload_n dL_law_435 rfl rfl ?_
  refine hf_iload_n dL_law_436 rfl rfl ?_
  refine hf_iconst (v := 1) dL_law_437 (by decide) ?_
  refine hf_iadd dL_law_438 ?_
  refine hf_sld dL_law_439 h.1 ?_
  replace h := h.2
  exact hr_callV (c := 11) (as := [.int (X.2 (i + 1).toNatClampNeg)]) ok_X11_end dL_law_440 hw450 hw451 hw452 (hs.2.1 100 _ rfl) (by decide) (hf_lin hs 100 rfl) rfl (Nat.le_of_ble_eq_true rfl) rfl (Nat.le_of_ble_eq_true rfl) hk hn (hs.2.1 156 _ rfl) (by have := hs.1; omega) h

set_option maxHeartbeats 4000000 in
theorem w_L_law_443_m {X : hf_X} {d k n : Nat} {M : hf_M} {Q : Option Value → hf_M → Prop} {i : Int32} {s0 : Int32} (h : vp_in (i + 1) X.1 ∧ (hf_G X Y_X12_end d 0 0 0 (hf_en [.ref 156, .int (X.2 (i + 1).toNatClampNeg)] 2) [] M (fun r M1 => hf_G X Y_L_law (d + 1) k n 452 [some (.ref 0), some (.ref 100), some (.ref 156), some (.int i)] (r.toList ++ [.int s0]) M1 Q))) : hr_G X Y_L_law (d + 1) k n 443 [some (.ref 0), some (.ref 100), some (.ref 156), some (.int i)] [.int s0] M Q := by
  refine hr_aload_n dL_law_443 rfl rfl ?_
  refine hr_aload_n dL_law_444 rfl rfl ?_
  refine hr_iload_n dL_law_445 rfl rfl ?_
  refine hr_iconst (v := 1) dL_law_446 (by decide) ?_
  refine hr_iadd dL_law_447 ?_
  refine hr_sld dL_law_448 h.1 ?_
  replace h := h.2
  exact hr_callM (as := [.int (X.2 (i + 1).toNatClampNeg)]) ok_X12_end dL_law_449 hw1275 hw1276 hw1277 rfl (Nat.le_of_ble_eq_true rfl) rfl (Nat.le_of_ble_eq_true rfl) (Nat.zero_le _) (Nat.zero_le _) h

set_option maxHeartbeats 4000000 in
theorem w_L_law_457_c {X : hf_X} {d k n t : Nat} {T : hf_T} {I : hf_I} {L : hf_L} {P : hf_P} {Q : Option Value → hf_M → Prop} {i : Int32} (hs : hf_Lay t T P) (hk : 20 ≤ k) (hn : 868 ≤ n) (h : vp_in (i + 1) X.1 ∧ (vp_in (i + 2) X.1 ∧ (vp_in (i + 3) X.1 ∧ (hf_G X Y_X11_word d 20 868 0 (hf_en [.ref 100, .int (X.2 (i + 1).toNatClampNeg), .int (X.2 (i + 2).toNatClampNeg), .int (X.2 (i + 3).toNatClampNeg)] 6) [] (t, T, I, L, P) (fun r M => hr_G X Y_L_law (d + 1) (k - 20) (n - 868) 476 [some (.ref 0), some (.ref 100), some (.ref 156), some (.int i)] (r.toList ++ []) M Q))))) : hf_G X Y_L_law (d + 1) k n 457 [some (.ref 0), some (.ref 100), some (.ref 156), some (.int i)] [] (t, T, I, L, P) Q := by
  refine hf_aload_n dL_law_457 rfl rfl ?_
  refine hf_aload_n dL_law_458 rfl rfl ?_
  refine hf_iload_n dL_law_459 rfl rfl ?_
  refine hf_iconst (v := 1) dL_law_460 (by decide) ?_
  refine hf_iadd dL_law_461 ?_
  refine hf_sld dL_law_462 h.1 ?_
  replace h := h.2
  refine hf_aload_n dL_law_463 rfl rfl ?_
  refine hf_iload_n dL_law_464 rfl rfl ?_
  refine hf_iconst (v := 2) dL_law_465 (by decide) ?_
  refine hf_iadd dL_law_466 ?_
  refine hf_sld dL_law_467 h.1 ?_
  replace h := h.2
  refine hf_aload_n dL_law_468 rfl rfl ?_
  refine hf_iload_n dL_law_469 rfl rfl ?_
  refine hf_iconst (v := 3) dL_law_470 (by decide) ?_
  refine hf_iadd dL_law_471 ?_
  refine hf_sld dL_law_472 h.1 ?_
  replace h := h.2
  exact hr_callV (c := 11) (as := [.int (X.2 (i + 1).toNatClampNeg), .int (X.2 (i + 2).toNatClampNeg), .int (X.2 (i + 3).toNatClampNeg)]) ok_X11_word dL_law_473 hw454 hw455 hw456 (hs.2.1 100 _ rfl) (by decide) (hf_lin hs 100 rfl) rfl (Nat.le_of_ble_eq_true rfl) rfl (Nat.le_of_ble_eq_true rfl) hk hn (hs.2.1 156 _ rfl) (by have := hs.1; omega) h

set_option maxHeartbeats 4000000 in
theorem w_L_law_476_m {X : hf_X} {d k n : Nat} {M : hf_M} {Q : Option Value → hf_M → Prop} {i : Int32} {s0 : Int32} (h : vp_in (i + 1) X.1 ∧ (vp_in (i + 2) X.1 ∧ (vp_in (i + 3) X.1 ∧ (hf_G X Y_X12_word d 0 0 0 (hf_en [.ref 156, .int (X.2 (i + 1).toNatClampNeg), .int (X.2 (i + 2).toNatClampNeg), .int (X.2 (i + 3).toNatClampNeg)] 10) [] M (fun r M1 => hf_G X Y_L_law (d + 1) k n 495 [some (.ref 0), some (.ref 100), some (.ref 156), some (.int i)] (r.toList ++ [.int s0]) M1 Q))))) : hr_G X Y_L_law (d + 1) k n 476 [some (.ref 0), some (.ref 100), some (.ref 156), some (.int i)] [.int s0] M Q := by
  refine hr_aload_n dL_law_476 rfl rfl ?_
  refine hr_aload_n dL_law_477 rfl rfl ?_
  refine hr_iload_n dL_law_478 rfl rfl ?_
  refine hr_iconst (v := 1) dL_law_479 (by decide) ?_
  refine hr_iadd dL_law_480 ?_
  refine hr_sld dL_law_481 h.1 ?_
  replace h := h.2
  refine hr_aload_n dL_law_482 rfl rfl ?_
  refine hr_iload_n dL_law_483 rfl rfl ?_
  refine hr_iconst (v := 2) dL_law_484 (by decide) ?_
  refine hr_iadd dL_law_485 ?_
  refine hr_sld dL_law_486 h.1 ?_
  replace h := h.2
  refine hr_aload_n dL_law_487 rfl rfl ?_
  refine hr_iload_n dL_law_488 rfl rfl ?_
  refine hr_iconst (v := 3) dL_law_489 (by decide) ?_
  refine hr_iadd dL_law_490 ?_
  refine hr_sld dL_law_491 h.1 ?_
  replace h := h.2
  exact hr_callM (as := [.int (X.2 (i + 1).toNatClampNeg), .int (X.2 (i + 2).toNatClampNeg), .int (X.2 (i + 3).toNatClampNeg)]) ok_X12_word dL_law_492 hw1185 hw1186 hw1187 rfl (Nat.le_of_ble_eq_true rfl) rfl (Nat.le_of_ble_eq_true rfl) (Nat.zero_le _) (Nat.zero_le _) h

set_option maxHeartbeats 4000000 in
theorem w_L_law_500_c {X : hf_X} {d k n t : Nat} {T : hf_T} {I : hf_I} {L : hf_L} {P : hf_P} {Q : Option Value → hf_M → Prop} {i : Int32} (hs : hf_Lay t T P) (hk : 20 ≤ k) (hn : 868 ≤ n) (h : vp_in (i + 1) X.1 ∧ (vp_in (i + 2) X.1 ∧ (hf_G X Y_X11_at d 20 868 0 (hf_en [.ref 100, .int (X.2 (i + 1).toNatClampNeg), .int (X.2 (i + 2).toNatClampNeg)] 4) [] (t, T, I, L, P) (fun r M => hr_G X Y_L_law (d + 1) (k - 20) (n - 868) 514 [some (.ref 0), some (.ref 100), some (.ref 156), some (.int i)] (r.toList ++ []) M Q)))) : hf_G X Y_L_law (d + 1) k n 500 [some (.ref 0), some (.ref 100), some (.ref 156), some (.int i)] [] (t, T, I, L, P) Q := by
  refine hf_aload_n dL_law_500 rfl rfl ?_
  refine hf_aload_n dL_law_501 rfl rfl ?_
  refine hf_iload_n dL_law_502 rfl rfl ?_
  refine hf_iconst (v := 1) dL_law_503 (by decide) ?_
  refine hf_iadd dL_law_504 ?_
  refine hf_sld dL_law_505 h.1 ?_
  replace h := h.2
  refine hf_aload_n dL_law_506 rfl rfl ?_
  refine hf_iload_n dL_law_507 rfl rfl ?_
  refine hf_iconst (v := 2) dL_law_508 (by decide) ?_
  refine hf_iadd dL_law_509 ?_
  refine hf_sld dL_law_510 h.1 ?_
  replace h := h.2
  exact hr_callV (c := 11) (as := [.int (X.2 (i + 1).toNatClampNeg), .int (X.2 (i + 2).toNatClampNeg)]) ok_X11_at dL_law_511 hw470 hw471 hw472 (hs.2.1 100 _ rfl) (by decide) (hf_lin hs 100 rfl) rfl (Nat.le_of_ble_eq_true rfl) rfl (Nat.le_of_ble_eq_true rfl) hk hn (hs.2.1 156 _ rfl) (by have := hs.1; omega) h

set_option maxHeartbeats 4000000 in
theorem w_L_law_514_m {X : hf_X} {d k n : Nat} {M : hf_M} {Q : Option Value → hf_M → Prop} {i : Int32} {s0 : Int32} (h : vp_in (i + 1) X.1 ∧ (vp_in (i + 2) X.1 ∧ (hf_G X Y_X12_at d 0 0 0 (hf_en [.ref 156, .int (X.2 (i + 1).toNatClampNeg), .int (X.2 (i + 2).toNatClampNeg)] 3) [] M (fun r M1 => hf_G X Y_L_law (d + 1) k n 528 [some (.ref 0), some (.ref 100), some (.ref 156), some (.int i)] (r.toList ++ [.int s0]) M1 Q)))) : hr_G X Y_L_law (d + 1) k n 514 [some (.ref 0), some (.ref 100), some (.ref 156), some (.int i)] [.int s0] M Q := by
  refine hr_aload_n dL_law_514 rfl rfl ?_
  refine hr_aload_n dL_law_515 rfl rfl ?_
  refine hr_iload_n dL_law_516 rfl rfl ?_
  refine hr_iconst (v := 1) dL_law_517 (by decide) ?_
  refine hr_iadd dL_law_518 ?_
  refine hr_sld dL_law_519 h.1 ?_
  replace h := h.2
  refine hr_aload_n dL_law_520 rfl rfl ?_
  refine hr_iload_n dL_law_521 rfl rfl ?_
  refine hr_iconst (v := 2) dL_law_522 (by decide) ?_
  refine hr_iadd dL_law_523 ?_
  refine hr_sld dL_law_524 h.1 ?_
  replace h := h.2
  exact hr_callM (as := [.int (X.2 (i + 1).toNatClampNeg), .int (X.2 (i + 2).toNatClampNeg)]) ok_X12_at dL_law_525 hw1192 hw1193 hw1194 rfl (Nat.le_of_ble_eq_true rfl) rfl (Nat.le_of_ble_eq_true rfl) (Nat.zero_le _) (Nat.zero_le _) h

set_option maxHeartbeats 4000000 in
theorem w_L_law_533_c {X : hf_X} {d k n t : Nat} {T : hf_T} {I : hf_I} {L : hf_L} {P : hf_P} {Q : Option Value → hf_M → Prop} {i : Int32} (hs : hf_Lay t T P) (hk : 20 ≤ k) (hn : 868 ≤ n) (h : hf_G X Y_X11_law d 20 868 0 (hf_en [.ref 100] 2) [] (t, T, I, L, P) (fun r M => hr_G X Y_L_law (d + 1) (k - 20) (n - 868) 537 [some (.ref 0), some (.ref 100), some (.ref 156), some (.int i)] (r.toList ++ []) M Q)) : hf_G X Y_L_law (d + 1) k n 533 [some (.ref 0), some (.ref 100), some (.ref 156), some (.int i)] [] (t, T, I, L, P) Q := by
  refine hf_aload_n dL_law_533 rfl rfl ?_
  exact hr_callV (c := 11) (as := []) ok_X11_law dL_law_534 hw537 hw538 hw539 (hs.2.1 100 _ rfl) (by decide) (hf_lin hs 100 rfl) rfl (Nat.le_of_ble_eq_true rfl) rfl (Nat.le_of_ble_eq_true rfl) hk hn (hs.2.1 156 _ rfl) (by have := hs.1; omega) h

set_option maxHeartbeats 4000000 in
theorem w_L_law_537_m {X : hf_X} {d k n : Nat} {M : hf_M} {Q : Option Value → hf_M → Prop} {i : Int32} {s0 : Int32} (h : hf_G X Y_X12_law d 0 0 0 (hf_en [.ref 156] 1) [] M (fun r M1 => hf_G X Y_L_law (d + 1) k n 541 [some (.ref 0), some (.ref 100), some (.ref 156), some (.int i)] (r.toList ++ [.int s0]) M1 Q)) : hr_G X Y_L_law (d + 1) k n 537 [some (.ref 0), some (.ref 100), some (.ref 156), some (.int i)] [.int s0] M Q := by
  refine hr_aload_n dL_law_537 rfl rfl ?_
  exact hr_callM (as := []) ok_X12_law dL_law_538 hw1279 hw1280 hw1281 rfl (Nat.le_of_ble_eq_true rfl) rfl (Nat.le_of_ble_eq_true rfl) (Nat.zero_le _) (Nat.zero_le _) h

set_option maxHeartbeats 4000000 in
theorem w_L_law_546_c {X : hf_X} {d k n t : Nat} {T : hf_T} {I : hf_I} {L : hf_L} {P : hf_P} {Q : Option Value → hf_M → Prop} {i : Int32} (hs : hf_Lay t T P) (hk : 20 ≤ k) (hn : 868 ≤ n) (h : hf_G X Y_X11_settings d 20 868 0 (hf_en [.ref 100] 2) [] (t, T, I, L, P) (fun r M => hr_G X Y_L_law (d + 1) (k - 20) (n - 868) 550 [some (.ref 0), some (.ref 100), some (.ref 156), some (.int i)] (r.toList ++ []) M Q)) : hf_G X Y_L_law (d + 1) k n 546 [some (.ref 0), some (.ref 100), some (.ref 156), some (.int i)] [] (t, T, I, L, P) Q := by
  refine hf_aload_n dL_law_546 rfl rfl ?_
  exact hr_callV (c := 11) (as := []) ok_X11_settings dL_law_547 hw664 hw665 hw666 (hs.2.1 100 _ rfl) (by decide) (hf_lin hs 100 rfl) rfl (Nat.le_of_ble_eq_true rfl) rfl (Nat.le_of_ble_eq_true rfl) hk hn (hs.2.1 156 _ rfl) (by have := hs.1; omega) h

set_option maxHeartbeats 4000000 in
theorem w_L_law_550_m {X : hf_X} {d k n : Nat} {M : hf_M} {Q : Option Value → hf_M → Prop} {i : Int32} {s0 : Int32} (h : hf_G X Y_X12_settings d 0 0 0 (hf_en [.ref 156] 7) [] M (fun r M1 => hf_G X Y_L_law (d + 1) k n 554 [some (.ref 0), some (.ref 100), some (.ref 156), some (.int i)] (r.toList ++ [.int s0]) M1 Q)) : hr_G X Y_L_law (d + 1) k n 550 [some (.ref 0), some (.ref 100), some (.ref 156), some (.int i)] [.int s0] M Q := by
  refine hr_aload_n dL_law_550 rfl rfl ?_
  exact hr_callM (as := []) ok_X12_settings dL_law_551 hw1512 hw1513 hw1514 rfl (Nat.le_of_ble_eq_true rfl) rfl (Nat.le_of_ble_eq_true rfl) (Nat.zero_le _) (Nat.zero_le _) h

set_option maxHeartbeats 4000000 in
theorem w_L_law_559_c {X : hf_X} {d k n t : Nat} {T : hf_T} {I : hf_I} {L : hf_L} {P : hf_P} {Q : Option Value → hf_M → Prop} {i : Int32} (hs : hf_Lay t T P) (hk : 20 ≤ k) (hn : 868 ≤ n) (h : hf_G X Y_X11_fault d 20 868 0 (hf_en [.ref 100] 1) [] (t, T, I, L, P) (fun r M => hr_G X Y_L_law (d + 1) (k - 20) (n - 868) 563 [some (.ref 0), some (.ref 100), some (.ref 156), some (.int i)] (r.toList ++ []) M Q)) : hf_G X Y_L_law (d + 1) k n 559 [some (.ref 0), some (.ref 100), some (.ref 156), some (.int i)] [] (t, T, I, L, P) Q := by
  refine hf_aload_n dL_law_559 rfl rfl ?_
  exact hr_callV (c := 11) (as := []) ok_X11_fault dL_law_560 hw719 hw720 hw721 (hs.2.1 100 _ rfl) (by decide) (hf_lin hs 100 rfl) rfl (Nat.le_of_ble_eq_true rfl) rfl (Nat.le_of_ble_eq_true rfl) hk hn (hs.2.1 156 _ rfl) (by have := hs.1; omega) h

set_option maxHeartbeats 4000000 in
theorem w_L_law_563_m {X : hf_X} {d k n : Nat} {M : hf_M} {Q : Option Value → hf_M → Prop} {i : Int32} {s0 : Int32} (h : hf_G X Y_X12_fault d 0 0 0 (hf_en [.ref 156] 1) [] M (fun r M1 => hf_G X Y_L_law (d + 1) k n 567 [some (.ref 0), some (.ref 100), some (.ref 156), some (.int i)] (r.toList ++ [.int s0]) M1 Q)) : hr_G X Y_L_law (d + 1) k n 563 [some (.ref 0), some (.ref 100), some (.ref 156), some (.int i)] [.int s0] M Q := by
  refine hr_aload_n dL_law_563 rfl rfl ?_
  exact hr_callM (as := []) ok_X12_fault dL_law_564 hw1350 hw1351 hw1352 rfl (Nat.le_of_ble_eq_true rfl) rfl (Nat.le_of_ble_eq_true rfl) (Nat.zero_le _) (Nat.zero_le _) h

set_option maxHeartbeats 4000000 in
theorem w_L_law_572_c {X : hf_X} {d k n t : Nat} {T : hf_T} {I : hf_I} {L : hf_L} {P : hf_P} {Q : Option Value → hf_M → Prop} {i : Int32} (hs : hf_Lay t T P) (hk : 20 ≤ k) (hn : 868 ≤ n) (h : hf_G X Y_X11_stopped d 20 868 0 (hf_en [.ref 100] 1) [] (t, T, I, L, P) (fun r M => hr_G X Y_L_law (d + 1) (k - 20) (n - 868) 576 [some (.ref 0), some (.ref 100), some (.ref 156), some (.int i)] (r.toList ++ []) M Q)) : hf_G X Y_L_law (d + 1) k n 572 [some (.ref 0), some (.ref 100), some (.ref 156), some (.int i)] [] (t, T, I, L, P) Q := by
  refine hf_aload_n dL_law_572 rfl rfl ?_
  exact hr_callV (c := 11) (as := []) ok_X11_stopped dL_law_573 hw723 hw724 hw725 (hs.2.1 100 _ rfl) (by decide) (hf_lin hs 100 rfl) rfl (Nat.le_of_ble_eq_true rfl) rfl (Nat.le_of_ble_eq_true rfl) hk hn (hs.2.1 156 _ rfl) (by have := hs.1; omega) h

set_option maxHeartbeats 4000000 in
theorem w_L_law_576_m {X : hf_X} {d k n : Nat} {M : hf_M} {Q : Option Value → hf_M → Prop} {i : Int32} {s0 : Int32} (h : hf_G X Y_X12_stopped d 0 0 0 (hf_en [.ref 156] 1) [] M (fun r M1 => hf_G X Y_L_law (d + 1) k n 580 [some (.ref 0), some (.ref 100), some (.ref 156), some (.int i)] (r.toList ++ [.int s0]) M1 Q)) : hr_G X Y_L_law (d + 1) k n 576 [some (.ref 0), some (.ref 100), some (.ref 156), some (.int i)] [.int s0] M Q := by
  refine hr_aload_n dL_law_576 rfl rfl ?_
  exact hr_callM (as := []) ok_X12_stopped dL_law_577 hw1508 hw1509 hw1510 rfl (Nat.le_of_ble_eq_true rfl) rfl (Nat.le_of_ble_eq_true rfl) (Nat.zero_le _) (Nat.zero_le _) h

set_option maxHeartbeats 4000000 in
theorem w_L_law_585_c {X : hf_X} {d k n t : Nat} {T : hf_T} {I : hf_I} {L : hf_L} {P : hf_P} {Q : Option Value → hf_M → Prop} {i : Int32} (hs : hf_Lay t T P) (hk : 20 ≤ k) (hn : 868 ≤ n) (h : vp_in (i + 1) X.1 ∧ (hf_G X Y_X11_force d 20 868 0 (hf_en [.ref 100, .int (X.2 (i + 1).toNatClampNeg)] 3) [] (t, T, I, L, P) (fun r M => hr_G X Y_L_law (d + 1) (k - 20) (n - 868) 594 [some (.ref 0), some (.ref 100), some (.ref 156), some (.int i)] (r.toList ++ []) M Q))) : hf_G X Y_L_law (d + 1) k n 585 [some (.ref 0), some (.ref 100), some (.ref 156), some (.int i)] [] (t, T, I, L, P) Q := by
  refine hf_aload_n dL_law_585 rfl rfl ?_
  refine hf_aload_n dL_law_586 rfl rfl ?_
  refine hf_iload_n dL_law_587 rfl rfl ?_
  refine hf_iconst (v := 1) dL_law_588 (by decide) ?_
  refine hf_iadd dL_law_589 ?_
  refine hf_sld dL_law_590 h.1 ?_
  replace h := h.2
  exact hr_callV (c := 11) (as := [.int (X.2 (i + 1).toNatClampNeg)]) ok_X11_force dL_law_591 hw727 hw728 hw729 (hs.2.1 100 _ rfl) (by decide) (hf_lin hs 100 rfl) rfl (Nat.le_of_ble_eq_true rfl) rfl (Nat.le_of_ble_eq_true rfl) hk hn (hs.2.1 156 _ rfl) (by have := hs.1; omega) h

set_option maxHeartbeats 4000000 in
theorem w_L_law_594_m {X : hf_X} {d k n : Nat} {M : hf_M} {Q : Option Value → hf_M → Prop} {i : Int32} {s0 : Int32} (h : vp_in (i + 1) X.1 ∧ (hf_G X Y_X12_force d 0 0 0 (hf_en [.ref 156, .int (X.2 (i + 1).toNatClampNeg)] 3) [] M (fun r M1 => hf_G X Y_L_law (d + 1) k n 603 [some (.ref 0), some (.ref 100), some (.ref 156), some (.int i)] (r.toList ++ [.int s0]) M1 Q))) : hr_G X Y_L_law (d + 1) k n 594 [some (.ref 0), some (.ref 100), some (.ref 156), some (.int i)] [.int s0] M Q := by
  refine hr_aload_n dL_law_594 rfl rfl ?_
  refine hr_aload_n dL_law_595 rfl rfl ?_
  refine hr_iload_n dL_law_596 rfl rfl ?_
  refine hr_iconst (v := 1) dL_law_597 (by decide) ?_
  refine hr_iadd dL_law_598 ?_
  refine hr_sld dL_law_599 h.1 ?_
  replace h := h.2
  exact hr_callM (as := [.int (X.2 (i + 1).toNatClampNeg)]) ok_X12_force dL_law_600 hw1354 hw1355 hw1356 rfl (Nat.le_of_ble_eq_true rfl) rfl (Nat.le_of_ble_eq_true rfl) (Nat.zero_le _) (Nat.zero_le _) h

set_option maxHeartbeats 4000000 in
theorem w_L_law_608_c {X : hf_X} {d k n t : Nat} {T : hf_T} {I : hf_I} {L : hf_L} {P : hf_P} {Q : Option Value → hf_M → Prop} {i : Int32} (hs : hf_Lay t T P) (hk : 20 ≤ k) (hn : 868 ≤ n) (h : vp_in (i + 1) X.1 ∧ (hf_G X Y_X11_say d 20 868 0 (hf_en [.ref 100, .int (X.2 (i + 1).toNatClampNeg)] 2) [] (t, T, I, L, P) (fun r M => hr_G X Y_L_law (d + 1) (k - 20) (n - 868) 617 [some (.ref 0), some (.ref 100), some (.ref 156), some (.int i)] (r.toList ++ []) M Q))) : hf_G X Y_L_law (d + 1) k n 608 [some (.ref 0), some (.ref 100), some (.ref 156), some (.int i)] [] (t, T, I, L, P) Q := by
  refine hf_aload_n dL_law_608 rfl rfl ?_
  refine hf_aload_n dL_law_609 rfl rfl ?_
  refine hf_iload_n dL_law_610 rfl rfl ?_
  refine hf_iconst (v := 1) dL_law_611 (by decide) ?_
  refine hf_iadd dL_law_612 ?_
  refine hf_sld dL_law_613 h.1 ?_
  replace h := h.2
  exact hr_callV (c := 11) (as := [.int (X.2 (i + 1).toNatClampNeg)]) ok_X11_say dL_law_614 hw731 hw732 hw733 (hs.2.1 100 _ rfl) (by decide) (hf_lin hs 100 rfl) rfl (Nat.le_of_ble_eq_true rfl) rfl (Nat.le_of_ble_eq_true rfl) hk hn (hs.2.1 156 _ rfl) (by have := hs.1; omega) h

set_option maxHeartbeats 4000000 in
theorem w_L_law_617_m {X : hf_X} {d k n : Nat} {M : hf_M} {Q : Option Value → hf_M → Prop} {i : Int32} {s0 : Int32} (h : vp_in (i + 1) X.1 ∧ (hf_G X Y_X12_say d 0 0 0 (hf_en [.ref 156, .int (X.2 (i + 1).toNatClampNeg)] 3) [] M (fun r M1 => hf_G X Y_L_law (d + 1) k n 626 [some (.ref 0), some (.ref 100), some (.ref 156), some (.int i)] (r.toList ++ [.int s0]) M1 Q))) : hr_G X Y_L_law (d + 1) k n 617 [some (.ref 0), some (.ref 100), some (.ref 156), some (.int i)] [.int s0] M Q := by
  refine hr_aload_n dL_law_617 rfl rfl ?_
  refine hr_aload_n dL_law_618 rfl rfl ?_
  refine hr_iload_n dL_law_619 rfl rfl ?_
  refine hr_iconst (v := 1) dL_law_620 (by decide) ?_
  refine hr_iadd dL_law_621 ?_
  refine hr_sld dL_law_622 h.1 ?_
  replace h := h.2
  exact hr_callM (as := [.int (X.2 (i + 1).toNatClampNeg)]) ok_X12_say dL_law_623 hw1259 hw1260 hw1261 rfl (Nat.le_of_ble_eq_true rfl) rfl (Nat.le_of_ble_eq_true rfl) (Nat.zero_le _) (Nat.zero_le _) h

set_option maxHeartbeats 4000000 in
theorem w_L_law_631_c {X : hf_X} {d k n t : Nat} {T : hf_T} {I : hf_I} {L : hf_L} {P : hf_P} {Q : Option Value → hf_M → Prop} {i : Int32} (hs : hf_Lay t T P) (hk : 20 ≤ k) (hn : 868 ≤ n) (h : hf_G X Y_X11_hush d 20 868 0 (hf_en [.ref 100] 2) [] (t, T, I, L, P) (fun r M => hr_G X Y_L_law (d + 1) (k - 20) (n - 868) 635 [some (.ref 0), some (.ref 100), some (.ref 156), some (.int i)] (r.toList ++ []) M Q)) : hf_G X Y_L_law (d + 1) k n 631 [some (.ref 0), some (.ref 100), some (.ref 156), some (.int i)] [] (t, T, I, L, P) Q := by
  refine hf_aload_n dL_law_631 rfl rfl ?_
  exact hr_callV (c := 11) (as := []) ok_X11_hush dL_law_632 hw735 hw736 hw737 (hs.2.1 100 _ rfl) (by decide) (hf_lin hs 100 rfl) rfl (Nat.le_of_ble_eq_true rfl) rfl (Nat.le_of_ble_eq_true rfl) hk hn (hs.2.1 156 _ rfl) (by have := hs.1; omega) h

set_option maxHeartbeats 4000000 in
theorem w_L_law_635_m {X : hf_X} {d k n : Nat} {M : hf_M} {Q : Option Value → hf_M → Prop} {i : Int32} {s0 : Int32} (h : hf_G X Y_X12_hush d 0 0 0 (hf_en [.ref 156] 2) [] M (fun r M1 => hf_G X Y_L_law (d + 1) k n 639 [some (.ref 0), some (.ref 100), some (.ref 156), some (.int i)] (r.toList ++ [.int s0]) M1 Q)) : hr_G X Y_L_law (d + 1) k n 635 [some (.ref 0), some (.ref 100), some (.ref 156), some (.int i)] [.int s0] M Q := by
  refine hr_aload_n dL_law_635 rfl rfl ?_
  exact hr_callM (as := []) ok_X12_hush dL_law_636 hw1263 hw1264 hw1265 rfl (Nat.le_of_ble_eq_true rfl) rfl (Nat.le_of_ble_eq_true rfl) (Nat.zero_le _) (Nat.zero_le _) h

set_option maxHeartbeats 4000000 in
theorem w_L_law_644_c {X : hf_X} {d k n t : Nat} {T : hf_T} {I : hf_I} {L : hf_L} {P : hf_P} {Q : Option Value → hf_M → Prop} {i : Int32} (hs : hf_Lay t T P) (hk : 20 ≤ k) (hn : 868 ≤ n) (h : vp_in (i + 1) X.1 ∧ (vp_in (i + 2) X.1 ∧ (hf_G X Y_X11_beside d 20 868 0 (hf_en [.ref 100, .int (X.2 (i + 1).toNatClampNeg), .int (X.2 (i + 2).toNatClampNeg)] 4) [] (t, T, I, L, P) (fun r M => hr_G X Y_L_law (d + 1) (k - 20) (n - 868) 658 [some (.ref 0), some (.ref 100), some (.ref 156), some (.int i)] (r.toList ++ []) M Q)))) : hf_G X Y_L_law (d + 1) k n 644 [some (.ref 0), some (.ref 100), some (.ref 156), some (.int i)] [] (t, T, I, L, P) Q := by
  refine hf_aload_n dL_law_644 rfl rfl ?_
  refine hf_aload_n dL_law_645 rfl rfl ?_
  refine hf_iload_n dL_law_646 rfl rfl ?_
  refine hf_iconst (v := 1) dL_law_647 (by decide) ?_
  refine hf_iadd dL_law_648 ?_
  refine hf_sld dL_law_649 h.1 ?_
  replace h := h.2
  refine hf_aload_n dL_law_650 rfl rfl ?_
  refine hf_iload_n dL_law_651 rfl rfl ?_
  refine hf_iconst (v := 2) dL_law_652 (by decide) ?_
  refine hf_iadd dL_law_653 ?_
  refine hf_sld dL_law_654 h.1 ?_
  replace h := h.2
  exact hr_callV (c := 11) (as := [.int (X.2 (i + 1).toNatClampNeg), .int (X.2 (i + 2).toNatClampNeg)]) ok_X11_beside dL_law_655 hw739 hw740 hw741 (hs.2.1 100 _ rfl) (by decide) (hf_lin hs 100 rfl) rfl (Nat.le_of_ble_eq_true rfl) rfl (Nat.le_of_ble_eq_true rfl) hk hn (hs.2.1 156 _ rfl) (by have := hs.1; omega) h

set_option maxHeartbeats 4000000 in
theorem w_L_law_658_m {X : hf_X} {d k n : Nat} {M : hf_M} {Q : Option Value → hf_M → Prop} {i : Int32} {s0 : Int32} (h : vp_in (i + 1) X.1 ∧ (vp_in (i + 2) X.1 ∧ (hf_G X Y_X12_beside d 0 0 0 (hf_en [.ref 156, .int (X.2 (i + 1).toNatClampNeg), .int (X.2 (i + 2).toNatClampNeg)] 4) [] M (fun r M1 => hf_G X Y_L_law (d + 1) k n 672 [some (.ref 0), some (.ref 100), some (.ref 156), some (.int i)] (r.toList ++ [.int s0]) M1 Q)))) : hr_G X Y_L_law (d + 1) k n 658 [some (.ref 0), some (.ref 100), some (.ref 156), some (.int i)] [.int s0] M Q := by
  refine hr_aload_n dL_law_658 rfl rfl ?_
  refine hr_aload_n dL_law_659 rfl rfl ?_
  refine hr_iload_n dL_law_660 rfl rfl ?_
  refine hr_iconst (v := 1) dL_law_661 (by decide) ?_
  refine hr_iadd dL_law_662 ?_
  refine hr_sld dL_law_663 h.1 ?_
  replace h := h.2
  refine hr_aload_n dL_law_664 rfl rfl ?_
  refine hr_iload_n dL_law_665 rfl rfl ?_
  refine hr_iconst (v := 2) dL_law_666 (by decide) ?_
  refine hr_iadd dL_law_667 ?_
  refine hr_sld dL_law_668 h.1 ?_
  replace h := h.2
  exact hr_callM (as := [.int (X.2 (i + 1).toNatClampNeg), .int (X.2 (i + 2).toNatClampNeg)]) ok_X12_beside dL_law_669 hw1267 hw1268 hw1269 rfl (Nat.le_of_ble_eq_true rfl) rfl (Nat.le_of_ble_eq_true rfl) (Nat.zero_le _) (Nat.zero_le _) h

set_option maxHeartbeats 4000000 in
theorem w_L_law_677_c {X : hf_X} {d k n t : Nat} {T : hf_T} {I : hf_I} {L : hf_L} {P : hf_P} {Q : Option Value → hf_M → Prop} {i : Int32} (hs : hf_Lay t T P) (hk : 20 ≤ k) (hn : 868 ≤ n) (h : vp_in (i + 1) X.1 ∧ (hf_G X Y_X11_set d 20 868 0 (hf_en [.ref 100, .int (X.2 (i + 1).toNatClampNeg)] 2) [] (t, T, I, L, P) (fun r M => hr_G X Y_L_law (d + 1) (k - 20) (n - 868) 686 [some (.ref 0), some (.ref 100), some (.ref 156), some (.int i)] (r.toList ++ []) M Q))) : hf_G X Y_L_law (d + 1) k n 677 [some (.ref 0), some (.ref 100), some (.ref 156), some (.int i)] [] (t, T, I, L, P) Q := by
  refine hf_aload_n dL_law_677 rfl rfl ?_
  refine hf_aload_n dL_law_678 rfl rfl ?_
  refine hf_iload_n dL_law_679 rfl rfl ?_
  refine hf_iconst (v := 1) dL_law_680 (by decide) ?_
  refine hf_iadd dL_law_681 ?_
  refine hf_sld dL_law_682 h.1 ?_
  replace h := h.2
  exact hr_callV (c := 11) (as := [.int (X.2 (i + 1).toNatClampNeg)]) ok_X11_set dL_law_683 hw743 hw744 hw745 (hs.2.1 100 _ rfl) (by decide) (hf_lin hs 100 rfl) rfl (Nat.le_of_ble_eq_true rfl) rfl (Nat.le_of_ble_eq_true rfl) hk hn (hs.2.1 156 _ rfl) (by have := hs.1; omega) h

set_option maxHeartbeats 4000000 in
theorem w_L_law_686_m {X : hf_X} {d k n : Nat} {M : hf_M} {Q : Option Value → hf_M → Prop} {i : Int32} {s0 : Int32} (h : vp_in (i + 1) X.1 ∧ (hf_G X Y_X12_set d 0 0 0 (hf_en [.ref 156, .int (X.2 (i + 1).toNatClampNeg)] 2) [] M (fun r M1 => hf_G X Y_L_law (d + 1) k n 695 [some (.ref 0), some (.ref 100), some (.ref 156), some (.int i)] (r.toList ++ [.int s0]) M1 Q))) : hr_G X Y_L_law (d + 1) k n 686 [some (.ref 0), some (.ref 100), some (.ref 156), some (.int i)] [.int s0] M Q := by
  refine hr_aload_n dL_law_686 rfl rfl ?_
  refine hr_aload_n dL_law_687 rfl rfl ?_
  refine hr_iload_n dL_law_688 rfl rfl ?_
  refine hr_iconst (v := 1) dL_law_689 (by decide) ?_
  refine hr_iadd dL_law_690 ?_
  refine hr_sld dL_law_691 h.1 ?_
  replace h := h.2
  exact hr_callM (as := [.int (X.2 (i + 1).toNatClampNeg)]) ok_X12_set dL_law_692 hw1395 hw1396 hw1397 rfl (Nat.le_of_ble_eq_true rfl) rfl (Nat.le_of_ble_eq_true rfl) (Nat.zero_le _) (Nat.zero_le _) h

set_option maxHeartbeats 4000000 in
theorem w_L_law_700_c {X : hf_X} {d k n t : Nat} {T : hf_T} {I : hf_I} {L : hf_L} {P : hf_P} {Q : Option Value → hf_M → Prop} {i : Int32} (hs : hf_Lay t T P) (hk : 20 ≤ k) (hn : 868 ≤ n) (h : hf_G X Y_X11_turn d 20 868 0 (hf_en [.ref 100] 1) [] (t, T, I, L, P) (fun r M => hr_G X Y_L_law (d + 1) (k - 20) (n - 868) 704 [some (.ref 0), some (.ref 100), some (.ref 156), some (.int i)] (r.toList ++ []) M Q)) : hf_G X Y_L_law (d + 1) k n 700 [some (.ref 0), some (.ref 100), some (.ref 156), some (.int i)] [] (t, T, I, L, P) Q := by
  refine hf_aload_n dL_law_700 rfl rfl ?_
  exact hr_callV (c := 11) (as := []) ok_X11_turn dL_law_701 hw747 hw748 hw749 (hs.2.1 100 _ rfl) (by decide) (hf_lin hs 100 rfl) rfl (Nat.le_of_ble_eq_true rfl) rfl (Nat.le_of_ble_eq_true rfl) hk hn (hs.2.1 156 _ rfl) (by have := hs.1; omega) h

set_option maxHeartbeats 4000000 in
theorem w_L_law_704_m {X : hf_X} {d k n : Nat} {M : hf_M} {Q : Option Value → hf_M → Prop} {i : Int32} {s0 : Int32} (h : hf_G X Y_X12_turn d 0 0 0 (hf_en [.ref 156] 1) [] M (fun r M1 => hf_G X Y_L_law (d + 1) k n 708 [some (.ref 0), some (.ref 100), some (.ref 156), some (.int i)] (r.toList ++ [.int s0]) M1 Q)) : hr_G X Y_L_law (d + 1) k n 704 [some (.ref 0), some (.ref 100), some (.ref 156), some (.int i)] [.int s0] M Q := by
  refine hr_aload_n dL_law_704 rfl rfl ?_
  exact hr_callM (as := []) ok_X12_turn dL_law_705 hw1405 hw1406 hw1407 rfl (Nat.le_of_ble_eq_true rfl) rfl (Nat.le_of_ble_eq_true rfl) (Nat.zero_le _) (Nat.zero_le _) h

set_option maxHeartbeats 4000000 in
theorem w_L_law_713_c {X : hf_X} {d k n t : Nat} {T : hf_T} {I : hf_I} {L : hf_L} {P : hf_P} {Q : Option Value → hf_M → Prop} {i : Int32} (hs : hf_Lay t T P) (hk : 20 ≤ k) (hn : 868 ≤ n) (h : hf_G X Y_X11_clear d 20 868 0 (hf_en [.ref 100] 1) [] (t, T, I, L, P) (fun r M => hr_G X Y_L_law (d + 1) (k - 20) (n - 868) 717 [some (.ref 0), some (.ref 100), some (.ref 156), some (.int i)] (r.toList ++ []) M Q)) : hf_G X Y_L_law (d + 1) k n 713 [some (.ref 0), some (.ref 100), some (.ref 156), some (.int i)] [] (t, T, I, L, P) Q := by
  refine hf_aload_n dL_law_713 rfl rfl ?_
  exact hr_callV (c := 11) (as := []) ok_X11_clear dL_law_714 hw751 hw752 hw753 (hs.2.1 100 _ rfl) (by decide) (hf_lin hs 100 rfl) rfl (Nat.le_of_ble_eq_true rfl) rfl (Nat.le_of_ble_eq_true rfl) hk hn (hs.2.1 156 _ rfl) (by have := hs.1; omega) h

set_option maxHeartbeats 4000000 in
theorem w_L_law_717_m {X : hf_X} {d k n : Nat} {M : hf_M} {Q : Option Value → hf_M → Prop} {i : Int32} {s0 : Int32} (h : hf_G X Y_X12_clear d 0 0 0 (hf_en [.ref 156] 1) [] M (fun r M1 => hf_G X Y_L_law (d + 1) k n 721 [some (.ref 0), some (.ref 100), some (.ref 156), some (.int i)] (r.toList ++ [.int s0]) M1 Q)) : hr_G X Y_L_law (d + 1) k n 717 [some (.ref 0), some (.ref 100), some (.ref 156), some (.int i)] [.int s0] M Q := by
  refine hr_aload_n dL_law_717 rfl rfl ?_
  exact hr_callM (as := []) ok_X12_clear dL_law_718 hw1412 hw1413 hw1414 rfl (Nat.le_of_ble_eq_true rfl) rfl (Nat.le_of_ble_eq_true rfl) (Nat.zero_le _) (Nat.zero_le _) h

set_option maxHeartbeats 4000000 in
theorem w_L_law_726_c {X : hf_X} {d k n t : Nat} {T : hf_T} {I : hf_I} {L : hf_L} {P : hf_P} {Q : Option Value → hf_M → Prop} {i : Int32} (hs : hf_Lay t T P) (hk : 20 ≤ k) (hn : 868 ≤ n) (h : vp_in (i + 1) X.1 ∧ (vp_in (i + 2) X.1 ∧ (hf_G X Y_X11_head d 20 868 0 (hf_en [.ref 100, .int (X.2 (i + 1).toNatClampNeg), .int (X.2 (i + 2).toNatClampNeg)] 3) [] (t, T, I, L, P) (fun r M => hr_G X Y_L_law (d + 1) (k - 20) (n - 868) 740 [some (.ref 0), some (.ref 100), some (.ref 156), some (.int i)] (r.toList ++ []) M Q)))) : hf_G X Y_L_law (d + 1) k n 726 [some (.ref 0), some (.ref 100), some (.ref 156), some (.int i)] [] (t, T, I, L, P) Q := by
  refine hf_aload_n dL_law_726 rfl rfl ?_
  refine hf_aload_n dL_law_727 rfl rfl ?_
  refine hf_iload_n dL_law_728 rfl rfl ?_
  refine hf_iconst (v := 1) dL_law_729 (by decide) ?_
  refine hf_iadd dL_law_730 ?_
  refine hf_sld dL_law_731 h.1 ?_
  replace h := h.2
  refine hf_aload_n dL_law_732 rfl rfl ?_
  refine hf_iload_n dL_law_733 rfl rfl ?_
  refine hf_iconst (v := 2) dL_law_734 (by decide) ?_
  refine hf_iadd dL_law_735 ?_
  refine hf_sld dL_law_736 h.1 ?_
  replace h := h.2
  exact hr_callV (c := 11) (as := [.int (X.2 (i + 1).toNatClampNeg), .int (X.2 (i + 2).toNatClampNeg)]) ok_X11_head dL_law_737 hw755 hw756 hw757 (hs.2.1 100 _ rfl) (by decide) (hf_lin hs 100 rfl) rfl (Nat.le_of_ble_eq_true rfl) rfl (Nat.le_of_ble_eq_true rfl) hk hn (hs.2.1 156 _ rfl) (by have := hs.1; omega) h

set_option maxHeartbeats 4000000 in
theorem w_L_law_740_m {X : hf_X} {d k n : Nat} {M : hf_M} {Q : Option Value → hf_M → Prop} {i : Int32} {s0 : Int32} (h : vp_in (i + 1) X.1 ∧ (vp_in (i + 2) X.1 ∧ (hf_G X Y_X12_head d 0 0 0 (hf_en [.ref 156, .int (X.2 (i + 1).toNatClampNeg), .int (X.2 (i + 2).toNatClampNeg)] 3) [] M (fun r M1 => hf_G X Y_L_law (d + 1) k n 754 [some (.ref 0), some (.ref 100), some (.ref 156), some (.int i)] (r.toList ++ [.int s0]) M1 Q)))) : hr_G X Y_L_law (d + 1) k n 740 [some (.ref 0), some (.ref 100), some (.ref 156), some (.int i)] [.int s0] M Q := by
  refine hr_aload_n dL_law_740 rfl rfl ?_
  refine hr_aload_n dL_law_741 rfl rfl ?_
  refine hr_iload_n dL_law_742 rfl rfl ?_
  refine hr_iconst (v := 1) dL_law_743 (by decide) ?_
  refine hr_iadd dL_law_744 ?_
  refine hr_sld dL_law_745 h.1 ?_
  replace h := h.2
  refine hr_aload_n dL_law_746 rfl rfl ?_
  refine hr_iload_n dL_law_747 rfl rfl ?_
  refine hr_iconst (v := 2) dL_law_748 (by decide) ?_
  refine hr_iadd dL_law_749 ?_
  refine hr_sld dL_law_750 h.1 ?_
  replace h := h.2
  exact hr_callM (as := [.int (X.2 (i + 1).toNatClampNeg), .int (X.2 (i + 2).toNatClampNeg)]) ok_X12_head dL_law_751 hw1358 hw1359 hw1360 rfl (Nat.le_of_ble_eq_true rfl) rfl (Nat.le_of_ble_eq_true rfl) (Nat.zero_le _) (Nat.zero_le _) h

set_option maxHeartbeats 4000000 in
theorem w_L_law_759_c {X : hf_X} {d k n t : Nat} {T : hf_T} {I : hf_I} {L : hf_L} {P : hf_P} {Q : Option Value → hf_M → Prop} {i : Int32} (hs : hf_Lay t T P) (hk : 20 ≤ k) (hn : 868 ≤ n) (h : vp_in (i + 1) X.1 ∧ (vp_in (i + 2) X.1 ∧ (hf_G X Y_X11_line d 20 868 0 (hf_en [.ref 100, .int (X.2 (i + 1).toNatClampNeg), .int (X.2 (i + 2).toNatClampNeg)] 3) [] (t, T, I, L, P) (fun r M => hr_G X Y_L_law (d + 1) (k - 20) (n - 868) 773 [some (.ref 0), some (.ref 100), some (.ref 156), some (.int i)] (r.toList ++ []) M Q)))) : hf_G X Y_L_law (d + 1) k n 759 [some (.ref 0), some (.ref 100), some (.ref 156), some (.int i)] [] (t, T, I, L, P) Q := by
  refine hf_aload_n dL_law_759 rfl rfl ?_
  refine hf_aload_n dL_law_760 rfl rfl ?_
  refine hf_iload_n dL_law_761 rfl rfl ?_
  refine hf_iconst (v := 1) dL_law_762 (by decide) ?_
  refine hf_iadd dL_law_763 ?_
  refine hf_sld dL_law_764 h.1 ?_
  replace h := h.2
  refine hf_aload_n dL_law_765 rfl rfl ?_
  refine hf_iload_n dL_law_766 rfl rfl ?_
  refine hf_iconst (v := 2) dL_law_767 (by decide) ?_
  refine hf_iadd dL_law_768 ?_
  refine hf_sld dL_law_769 h.1 ?_
  replace h := h.2
  exact hr_callV (c := 11) (as := [.int (X.2 (i + 1).toNatClampNeg), .int (X.2 (i + 2).toNatClampNeg)]) ok_X11_line dL_law_770 hw759 hw760 hw761 (hs.2.1 100 _ rfl) (by decide) (hf_lin hs 100 rfl) rfl (Nat.le_of_ble_eq_true rfl) rfl (Nat.le_of_ble_eq_true rfl) hk hn (hs.2.1 156 _ rfl) (by have := hs.1; omega) h

set_option maxHeartbeats 4000000 in
theorem w_L_law_773_m {X : hf_X} {d k n : Nat} {M : hf_M} {Q : Option Value → hf_M → Prop} {i : Int32} {s0 : Int32} (h : vp_in (i + 1) X.1 ∧ (vp_in (i + 2) X.1 ∧ (hf_G X Y_X12_line d 0 0 0 (hf_en [.ref 156, .int (X.2 (i + 1).toNatClampNeg), .int (X.2 (i + 2).toNatClampNeg)] 3) [] M (fun r M1 => hf_G X Y_L_law (d + 1) k n 787 [some (.ref 0), some (.ref 100), some (.ref 156), some (.int i)] (r.toList ++ [.int s0]) M1 Q)))) : hr_G X Y_L_law (d + 1) k n 773 [some (.ref 0), some (.ref 100), some (.ref 156), some (.int i)] [.int s0] M Q := by
  refine hr_aload_n dL_law_773 rfl rfl ?_
  refine hr_aload_n dL_law_774 rfl rfl ?_
  refine hr_iload_n dL_law_775 rfl rfl ?_
  refine hr_iconst (v := 1) dL_law_776 (by decide) ?_
  refine hr_iadd dL_law_777 ?_
  refine hr_sld dL_law_778 h.1 ?_
  replace h := h.2
  refine hr_aload_n dL_law_779 rfl rfl ?_
  refine hr_iload_n dL_law_780 rfl rfl ?_
  refine hr_iconst (v := 2) dL_law_781 (by decide) ?_
  refine hr_iadd dL_law_782 ?_
  refine hr_sld dL_law_783 h.1 ?_
  replace h := h.2
  exact hr_callM (as := [.int (X.2 (i + 1).toNatClampNeg), .int (X.2 (i + 2).toNatClampNeg)]) ok_X12_line dL_law_784 hw1362 hw1363 hw1364 rfl (Nat.le_of_ble_eq_true rfl) rfl (Nat.le_of_ble_eq_true rfl) (Nat.zero_le _) (Nat.zero_le _) h

set_option maxHeartbeats 4000000 in
theorem w_L_law_792_c {X : hf_X} {d k n t : Nat} {T : hf_T} {I : hf_I} {L : hf_L} {P : hf_P} {Q : Option Value → hf_M → Prop} {i : Int32} (hs : hf_Lay t T P) (hk : 20 ≤ k) (hn : 868 ≤ n) (h : hf_G X Y_X11_cost d 20 868 0 (hf_en [.ref 100] 3) [] (t, T, I, L, P) (fun r M => hr_G X Y_L_law (d + 1) (k - 20) (n - 868) 796 [some (.ref 0), some (.ref 100), some (.ref 156), some (.int i)] (r.toList ++ []) M Q)) : hf_G X Y_L_law (d + 1) k n 792 [some (.ref 0), some (.ref 100), some (.ref 156), some (.int i)] [] (t, T, I, L, P) Q := by
  refine hf_aload_n dL_law_792 rfl rfl ?_
  exact hr_callV (c := 11) (as := []) ok_X11_cost dL_law_793 hw792 hw793 hw794 (hs.2.1 100 _ rfl) (by decide) (hf_lin hs 100 rfl) rfl (Nat.le_of_ble_eq_true rfl) rfl (Nat.le_of_ble_eq_true rfl) hk hn (hs.2.1 156 _ rfl) (by have := hs.1; omega) h

set_option maxHeartbeats 4000000 in
theorem w_L_law_796_m {X : hf_X} {d k n : Nat} {M : hf_M} {Q : Option Value → hf_M → Prop} {i : Int32} {s0 : Int32} (h : hf_G X Y_X12_cost d 0 0 0 (hf_en [.ref 156] 3) [] M (fun r M1 => hf_G X Y_L_law (d + 1) k n 800 [some (.ref 0), some (.ref 100), some (.ref 156), some (.int i)] (r.toList ++ [.int s0]) M1 Q)) : hr_G X Y_L_law (d + 1) k n 796 [some (.ref 0), some (.ref 100), some (.ref 156), some (.int i)] [.int s0] M Q := by
  refine hr_aload_n dL_law_796 rfl rfl ?_
  exact hr_callM (as := []) ok_X12_cost dL_law_797 hw1387 hw1388 hw1389 rfl (Nat.le_of_ble_eq_true rfl) rfl (Nat.le_of_ble_eq_true rfl) (Nat.zero_le _) (Nat.zero_le _) h

set_option maxHeartbeats 4000000 in
theorem w_L_law_805_c {X : hf_X} {d k n t : Nat} {T : hf_T} {I : hf_I} {L : hf_L} {P : hf_P} {Q : Option Value → hf_M → Prop} {i : Int32} (hs : hf_Lay t T P) (hk : 20 ≤ k) (hn : 868 ≤ n) (h : hf_G X Y_X11_undo d 20 868 0 (hf_en [.ref 100] 1) [] (t, T, I, L, P) (fun r M => hr_G X Y_L_law (d + 1) (k - 20) (n - 868) 809 [some (.ref 0), some (.ref 100), some (.ref 156), some (.int i)] (r.toList ++ []) M Q)) : hf_G X Y_L_law (d + 1) k n 805 [some (.ref 0), some (.ref 100), some (.ref 156), some (.int i)] [] (t, T, I, L, P) Q := by
  refine hf_aload_n dL_law_805 rfl rfl ?_
  exact hr_callV (c := 11) (as := []) ok_X11_undo dL_law_806 hw796 hw797 hw798 (hs.2.1 100 _ rfl) (by decide) (hf_lin hs 100 rfl) rfl (Nat.le_of_ble_eq_true rfl) rfl (Nat.le_of_ble_eq_true rfl) hk hn (hs.2.1 156 _ rfl) (by have := hs.1; omega) h

set_option maxHeartbeats 4000000 in
theorem w_L_law_809_m {X : hf_X} {d k n : Nat} {M : hf_M} {Q : Option Value → hf_M → Prop} {i : Int32} {s0 : Int32} (h : hf_G X Y_X12_undo d 0 0 0 (hf_en [.ref 156] 3) [] M (fun r M1 => hf_G X Y_L_law (d + 1) k n 813 [some (.ref 0), some (.ref 100), some (.ref 156), some (.int i)] (r.toList ++ [.int s0]) M1 Q)) : hr_G X Y_L_law (d + 1) k n 809 [some (.ref 0), some (.ref 100), some (.ref 156), some (.int i)] [.int s0] M Q := by
  refine hr_aload_n dL_law_809 rfl rfl ?_
  exact hr_callM (as := []) ok_X12_undo dL_law_810 hw1391 hw1392 hw1393 rfl (Nat.le_of_ble_eq_true rfl) rfl (Nat.le_of_ble_eq_true rfl) (Nat.zero_le _) (Nat.zero_le _) h

set_option maxHeartbeats 4000000 in
theorem w_L_law_818_c {X : hf_X} {d k n t : Nat} {T : hf_T} {I : hf_I} {L : hf_L} {P : hf_P} {Q : Option Value → hf_M → Prop} {i : Int32} (hs : hf_Lay t T P) (hk : 20 ≤ k) (hn : 868 ≤ n) (h : vp_in (i + 1) X.1 ∧ (hf_G X Y_X11_fit d 20 868 0 (hf_en [.ref 100, .int (X.2 (i + 1).toNatClampNeg)] 2) [] (t, T, I, L, P) (fun r M => hr_G X Y_L_law (d + 1) (k - 20) (n - 868) 827 [some (.ref 0), some (.ref 100), some (.ref 156), some (.int i)] (r.toList ++ []) M Q))) : hf_G X Y_L_law (d + 1) k n 818 [some (.ref 0), some (.ref 100), some (.ref 156), some (.int i)] [] (t, T, I, L, P) Q := by
  refine hf_aload_n dL_law_818 rfl rfl ?_
  refine hf_aload_n dL_law_819 rfl rfl ?_
  refine hf_iload_n dL_law_820 rfl rfl ?_
  refine hf_iconst (v := 1) dL_law_821 (by decide) ?_
  refine hf_iadd dL_law_822 ?_
  refine hf_sld dL_law_823 h.1 ?_
  replace h := h.2
  exact hr_callV (c := 11) (as := [.int (X.2 (i + 1).toNatClampNeg)]) ok_X11_fit dL_law_824 hw804 hw805 hw806 (hs.2.1 100 _ rfl) (by decide) (hf_lin hs 100 rfl) rfl (Nat.le_of_ble_eq_true rfl) rfl (Nat.le_of_ble_eq_true rfl) hk hn (hs.2.1 156 _ rfl) (by have := hs.1; omega) h

set_option maxHeartbeats 4000000 in
theorem w_L_law_827_m {X : hf_X} {d k n : Nat} {M : hf_M} {Q : Option Value → hf_M → Prop} {i : Int32} {s0 : Int32} (h : vp_in (i + 1) X.1 ∧ (hf_G X Y_X12_fit d 0 0 0 (hf_en [.ref 156, .int (X.2 (i + 1).toNatClampNeg)] 7) [] M (fun r M1 => hf_G X Y_L_law (d + 1) k n 836 [some (.ref 0), some (.ref 100), some (.ref 156), some (.int i)] (r.toList ++ [.int s0]) M1 Q))) : hr_G X Y_L_law (d + 1) k n 827 [some (.ref 0), some (.ref 100), some (.ref 156), some (.int i)] [.int s0] M Q := by
  refine hr_aload_n dL_law_827 rfl rfl ?_
  refine hr_aload_n dL_law_828 rfl rfl ?_
  refine hr_iload_n dL_law_829 rfl rfl ?_
  refine hr_iconst (v := 1) dL_law_830 (by decide) ?_
  refine hr_iadd dL_law_831 ?_
  refine hr_sld dL_law_832 h.1 ?_
  replace h := h.2
  exact hr_callM (as := [.int (X.2 (i + 1).toNatClampNeg)]) ok_X12_fit dL_law_833 hw1419 hw1420 hw1421 rfl (Nat.le_of_ble_eq_true rfl) rfl (Nat.le_of_ble_eq_true rfl) (Nat.zero_le _) (Nat.zero_le _) h

set_option maxHeartbeats 4000000 in
theorem w_L_law_841_c {X : hf_X} {d k n t : Nat} {T : hf_T} {I : hf_I} {L : hf_L} {P : hf_P} {Q : Option Value → hf_M → Prop} {i : Int32} (hs : hf_Lay t T P) (hk : 20 ≤ k) (hn : 868 ≤ n) (h : hf_G X Y_X11_over d 20 868 0 (hf_en [.ref 100] 2) [] (t, T, I, L, P) (fun r M => hr_G X Y_L_law (d + 1) (k - 20) (n - 868) 845 [some (.ref 0), some (.ref 100), some (.ref 156), some (.int i)] (r.toList ++ []) M Q)) : hf_G X Y_L_law (d + 1) k n 841 [some (.ref 0), some (.ref 100), some (.ref 156), some (.int i)] [] (t, T, I, L, P) Q := by
  refine hf_aload_n dL_law_841 rfl rfl ?_
  exact hr_callV (c := 11) (as := []) ok_X11_over dL_law_842 hw886 hw887 hw888 (hs.2.1 100 _ rfl) (by decide) (hf_lin hs 100 rfl) rfl (Nat.le_of_ble_eq_true rfl) rfl (Nat.le_of_ble_eq_true rfl) hk hn (hs.2.1 156 _ rfl) (by have := hs.1; omega) h

set_option maxHeartbeats 4000000 in
theorem w_L_law_845_m {X : hf_X} {d k n : Nat} {M : hf_M} {Q : Option Value → hf_M → Prop} {i : Int32} {s0 : Int32} (h : hf_G X Y_X12_over d 0 0 0 (hf_en [.ref 156] 2) [] M (fun r M1 => hf_G X Y_L_law (d + 1) k n 849 [some (.ref 0), some (.ref 100), some (.ref 156), some (.int i)] (r.toList ++ [.int s0]) M1 Q)) : hr_G X Y_L_law (d + 1) k n 845 [some (.ref 0), some (.ref 100), some (.ref 156), some (.int i)] [.int s0] M Q := by
  refine hr_aload_n dL_law_845 rfl rfl ?_
  exact hr_callM (as := []) ok_X12_over dL_law_846 hw1441 hw1442 hw1443 rfl (Nat.le_of_ble_eq_true rfl) rfl (Nat.le_of_ble_eq_true rfl) (Nat.zero_le _) (Nat.zero_le _) h

set_option maxHeartbeats 4000000 in
theorem w_L_law_854_c {X : hf_X} {d k n t : Nat} {T : hf_T} {I : hf_I} {L : hf_L} {P : hf_P} {Q : Option Value → hf_M → Prop} {i : Int32} (hs : hf_Lay t T P) (hk : 20 ≤ k) (hn : 868 ≤ n) (h : hf_G X Y_X11_narrow d 20 868 0 (hf_en [.ref 100] 1) [] (t, T, I, L, P) (fun r M => hr_G X Y_L_law (d + 1) (k - 20) (n - 868) 858 [some (.ref 0), some (.ref 100), some (.ref 156), some (.int i)] (r.toList ++ []) M Q)) : hf_G X Y_L_law (d + 1) k n 854 [some (.ref 0), some (.ref 100), some (.ref 156), some (.int i)] [] (t, T, I, L, P) Q := by
  refine hf_aload_n dL_law_854 rfl rfl ?_
  exact hr_callV (c := 11) (as := []) ok_X11_narrow dL_law_855 hw906 hw907 hw908 (hs.2.1 100 _ rfl) (by decide) (hf_lin hs 100 rfl) rfl (Nat.le_of_ble_eq_true rfl) rfl (Nat.le_of_ble_eq_true rfl) hk hn (hs.2.1 156 _ rfl) (by have := hs.1; omega) h

set_option maxHeartbeats 4000000 in
theorem w_L_law_858_m {X : hf_X} {d k n : Nat} {M : hf_M} {Q : Option Value → hf_M → Prop} {i : Int32} {s0 : Int32} (h : hf_G X Y_X12_narrow d 0 0 0 (hf_en [.ref 156] 2) [] M (fun r M1 => hf_G X Y_L_law (d + 1) k n 862 [some (.ref 0), some (.ref 100), some (.ref 156), some (.int i)] (r.toList ++ [.int s0]) M1 Q)) : hr_G X Y_L_law (d + 1) k n 858 [some (.ref 0), some (.ref 100), some (.ref 156), some (.int i)] [.int s0] M Q := by
  refine hr_aload_n dL_law_858 rfl rfl ?_
  exact hr_callM (as := []) ok_X12_narrow dL_law_859 hw1448 hw1449 hw1450 rfl (Nat.le_of_ble_eq_true rfl) rfl (Nat.le_of_ble_eq_true rfl) (Nat.zero_le _) (Nat.zero_le _) h

set_option maxHeartbeats 4000000 in
theorem w_L_law_867_c {X : hf_X} {d k n t : Nat} {T : hf_T} {I : hf_I} {L : hf_L} {P : hf_P} {Q : Option Value → hf_M → Prop} {i : Int32} (hs : hf_Lay t T P) (hk : 20 ≤ k) (hn : 868 ≤ n) (h : hf_G X Y_X11_largest d 20 868 0 (hf_en [.ref 100] 3) [] (t, T, I, L, P) (fun r M => hr_G X Y_L_law (d + 1) (k - 20) (n - 868) 871 [some (.ref 0), some (.ref 100), some (.ref 156), some (.int i)] (r.toList ++ []) M Q)) : hf_G X Y_L_law (d + 1) k n 867 [some (.ref 0), some (.ref 100), some (.ref 156), some (.int i)] [] (t, T, I, L, P) Q := by
  refine hf_aload_n dL_law_867 rfl rfl ?_
  exact hr_callV (c := 11) (as := []) ok_X11_largest dL_law_868 hw910 hw911 hw912 (hs.2.1 100 _ rfl) (by decide) (hf_lin hs 100 rfl) rfl (Nat.le_of_ble_eq_true rfl) rfl (Nat.le_of_ble_eq_true rfl) hk hn (hs.2.1 156 _ rfl) (by have := hs.1; omega) h

set_option maxHeartbeats 4000000 in
theorem w_L_law_871_m {X : hf_X} {d k n : Nat} {M : hf_M} {Q : Option Value → hf_M → Prop} {i : Int32} {s0 : Int32} (h : hf_G X Y_X12_largest d 0 0 0 (hf_en [.ref 156] 2) [] M (fun r M1 => hf_G X Y_L_law (d + 1) k n 875 [some (.ref 0), some (.ref 100), some (.ref 156), some (.int i)] (r.toList ++ [.int s0]) M1 Q)) : hr_G X Y_L_law (d + 1) k n 871 [some (.ref 0), some (.ref 100), some (.ref 156), some (.int i)] [.int s0] M Q := by
  refine hr_aload_n dL_law_871 rfl rfl ?_
  exact hr_callM (as := []) ok_X12_largest dL_law_872 hw1452 hw1453 hw1454 rfl (Nat.le_of_ble_eq_true rfl) rfl (Nat.le_of_ble_eq_true rfl) (Nat.zero_le _) (Nat.zero_le _) h

set_option maxHeartbeats 4000000 in
theorem w_L_law_880_c {X : hf_X} {d k n t : Nat} {T : hf_T} {I : hf_I} {L : hf_L} {P : hf_P} {Q : Option Value → hf_M → Prop} {i : Int32} (hs : hf_Lay t T P) (hk : 20 ≤ k) (hn : 868 ≤ n) (h : vp_in (i + 1) X.1 ∧ (hf_G X Y_X11_truest d 20 868 0 (hf_en [.ref 100, .int (X.2 (i + 1).toNatClampNeg)] 4) [] (t, T, I, L, P) (fun r M => hr_G X Y_L_law (d + 1) (k - 20) (n - 868) 889 [some (.ref 0), some (.ref 100), some (.ref 156), some (.int i)] (r.toList ++ []) M Q))) : hf_G X Y_L_law (d + 1) k n 880 [some (.ref 0), some (.ref 100), some (.ref 156), some (.int i)] [] (t, T, I, L, P) Q := by
  refine hf_aload_n dL_law_880 rfl rfl ?_
  refine hf_aload_n dL_law_881 rfl rfl ?_
  refine hf_iload_n dL_law_882 rfl rfl ?_
  refine hf_iconst (v := 1) dL_law_883 (by decide) ?_
  refine hf_iadd dL_law_884 ?_
  refine hf_sld dL_law_885 h.1 ?_
  replace h := h.2
  exact hr_callV (c := 11) (as := [.int (X.2 (i + 1).toNatClampNeg)]) ok_X11_truest dL_law_886 hw914 hw915 hw916 (hs.2.1 100 _ rfl) (by decide) (hf_lin hs 100 rfl) rfl (Nat.le_of_ble_eq_true rfl) rfl (Nat.le_of_ble_eq_true rfl) hk hn (hs.2.1 156 _ rfl) (by have := hs.1; omega) h

set_option maxHeartbeats 4000000 in
theorem w_L_law_889_m {X : hf_X} {d k n : Nat} {M : hf_M} {Q : Option Value → hf_M → Prop} {i : Int32} {s0 : Int32} (h : vp_in (i + 1) X.1 ∧ (hf_G X Y_X12_truest d 0 0 0 (hf_en [.ref 156, .int (X.2 (i + 1).toNatClampNeg)] 11) [] M (fun r M1 => hf_G X Y_L_law (d + 1) k n 898 [some (.ref 0), some (.ref 100), some (.ref 156), some (.int i)] (r.toList ++ [.int s0]) M1 Q))) : hr_G X Y_L_law (d + 1) k n 889 [some (.ref 0), some (.ref 100), some (.ref 156), some (.int i)] [.int s0] M Q := by
  refine hr_aload_n dL_law_889 rfl rfl ?_
  refine hr_aload_n dL_law_890 rfl rfl ?_
  refine hr_iload_n dL_law_891 rfl rfl ?_
  refine hr_iconst (v := 1) dL_law_892 (by decide) ?_
  refine hr_iadd dL_law_893 ?_
  refine hr_sld dL_law_894 h.1 ?_
  replace h := h.2
  exact hr_callM (as := [.int (X.2 (i + 1).toNatClampNeg)]) ok_X12_truest dL_law_895 hw1456 hw1457 hw1458 rfl (Nat.le_of_ble_eq_true rfl) rfl (Nat.le_of_ble_eq_true rfl) (Nat.zero_le _) (Nat.zero_le _) h

set_option maxHeartbeats 4000000 in
theorem w_L_law_903_c {X : hf_X} {d k n t : Nat} {T : hf_T} {I : hf_I} {L : hf_L} {P : hf_P} {Q : Option Value → hf_M → Prop} {i : Int32} (hs : hf_Lay t T P) (hk : 20 ≤ k) (hn : 868 ≤ n) (h : vp_in (i + 1) X.1 ∧ (vp_in (i + 2) X.1 ∧ (hf_G X Y_X11_says d 20 868 0 (hf_en [.ref 100, .int (X.2 (i + 1).toNatClampNeg), .int (X.2 (i + 2).toNatClampNeg)] 4) [] (t, T, I, L, P) (fun r M => hr_G X Y_L_law (d + 1) (k - 20) (n - 868) 917 [some (.ref 0), some (.ref 100), some (.ref 156), some (.int i)] (r.toList ++ []) M Q)))) : hf_G X Y_L_law (d + 1) k n 903 [some (.ref 0), some (.ref 100), some (.ref 156), some (.int i)] [] (t, T, I, L, P) Q := by
  refine hf_aload_n dL_law_903 rfl rfl ?_
  refine hf_aload_n dL_law_904 rfl rfl ?_
  refine hf_iload_n dL_law_905 rfl rfl ?_
  refine hf_iconst (v := 1) dL_law_906 (by decide) ?_
  refine hf_iadd dL_law_907 ?_
  refine hf_sld dL_law_908 h.1 ?_
  replace h := h.2
  refine hf_aload_n dL_law_909 rfl rfl ?_
  refine hf_iload_n dL_law_910 rfl rfl ?_
  refine hf_iconst (v := 2) dL_law_911 (by decide) ?_
  refine hf_iadd dL_law_912 ?_
  refine hf_sld dL_law_913 h.1 ?_
  replace h := h.2
  exact hr_callV (c := 11) (as := [.int (X.2 (i + 1).toNatClampNeg), .int (X.2 (i + 2).toNatClampNeg)]) ok_X11_says dL_law_914 hw924 hw925 hw926 (hs.2.1 100 _ rfl) (by decide) (hf_lin hs 100 rfl) rfl (Nat.le_of_ble_eq_true rfl) rfl (Nat.le_of_ble_eq_true rfl) hk hn (hs.2.1 156 _ rfl) (by have := hs.1; omega) h

set_option maxHeartbeats 4000000 in
theorem w_L_law_917_m {X : hf_X} {d k n : Nat} {M : hf_M} {Q : Option Value → hf_M → Prop} {i : Int32} {s0 : Int32} (h : vp_in (i + 1) X.1 ∧ (vp_in (i + 2) X.1 ∧ (hf_G X Y_X12_says d 0 0 0 (hf_en [.ref 156, .int (X.2 (i + 1).toNatClampNeg), .int (X.2 (i + 2).toNatClampNeg)] 11) [] M (fun r M1 => hf_G X Y_L_law (d + 1) k n 931 [some (.ref 0), some (.ref 100), some (.ref 156), some (.int i)] (r.toList ++ [.int s0]) M1 Q)))) : hr_G X Y_L_law (d + 1) k n 917 [some (.ref 0), some (.ref 100), some (.ref 156), some (.int i)] [.int s0] M Q := by
  refine hr_aload_n dL_law_917 rfl rfl ?_
  refine hr_aload_n dL_law_918 rfl rfl ?_
  refine hr_iload_n dL_law_919 rfl rfl ?_
  refine hr_iconst (v := 1) dL_law_920 (by decide) ?_
  refine hr_iadd dL_law_921 ?_
  refine hr_sld dL_law_922 h.1 ?_
  replace h := h.2
  refine hr_aload_n dL_law_923 rfl rfl ?_
  refine hr_iload_n dL_law_924 rfl rfl ?_
  refine hr_iconst (v := 2) dL_law_925 (by decide) ?_
  refine hr_iadd dL_law_926 ?_
  refine hr_sld dL_law_927 h.1 ?_
  replace h := h.2
  exact hr_callM (as := [.int (X.2 (i + 1).toNatClampNeg), .int (X.2 (i + 2).toNatClampNeg)]) ok_X12_says dL_law_928 hw1465 hw1466 hw1467 rfl (Nat.le_of_ble_eq_true rfl) rfl (Nat.le_of_ble_eq_true rfl) (Nat.zero_le _) (Nat.zero_le _) h

set_option maxHeartbeats 4000000 in
theorem w_L_law_936_c {X : hf_X} {d k n t : Nat} {T : hf_T} {I : hf_I} {L : hf_L} {P : hf_P} {Q : Option Value → hf_M → Prop} {i : Int32} (hs : hf_Lay t T P) (hk : 20 ≤ k) (hn : 868 ≤ n) (h : vp_in (i + 1) X.1 ∧ (vp_in (i + 2) X.1 ∧ (hf_G X Y_X11_seen d 20 868 0 (hf_en [.ref 100, .int (X.2 (i + 1).toNatClampNeg), .int (X.2 (i + 2).toNatClampNeg)] 3) [] (t, T, I, L, P) (fun r M => hr_G X Y_L_law (d + 1) (k - 20) (n - 868) 950 [some (.ref 0), some (.ref 100), some (.ref 156), some (.int i)] (r.toList ++ []) M Q)))) : hf_G X Y_L_law (d + 1) k n 936 [some (.ref 0), some (.ref 100), some (.ref 156), some (.int i)] [] (t, T, I, L, P) Q := by
  refine hf_aload_n dL_law_936 rfl rfl ?_
  refine hf_aload_n dL_law_937 rfl rfl ?_
  refine hf_iload_n dL_law_938 rfl rfl ?_
  refine hf_iconst (v := 1) dL_law_939 (by decide) ?_
  refine hf_iadd dL_law_940 ?_
  refine hf_sld dL_law_941 h.1 ?_
  replace h := h.2
  refine hf_aload_n dL_law_942 rfl rfl ?_
  refine hf_iload_n dL_law_943 rfl rfl ?_
  refine hf_iconst (v := 2) dL_law_944 (by decide) ?_
  refine hf_iadd dL_law_945 ?_
  refine hf_sld dL_law_946 h.1 ?_
  replace h := h.2
  exact hr_callV (c := 11) (as := [.int (X.2 (i + 1).toNatClampNeg), .int (X.2 (i + 2).toNatClampNeg)]) ok_X11_seen dL_law_947 hw942 hw943 hw944 (hs.2.1 100 _ rfl) (by decide) (hf_lin hs 100 rfl) rfl (Nat.le_of_ble_eq_true rfl) rfl (Nat.le_of_ble_eq_true rfl) hk hn (hs.2.1 156 _ rfl) (by have := hs.1; omega) h

set_option maxHeartbeats 4000000 in
theorem w_L_law_950_m {X : hf_X} {d k n : Nat} {M : hf_M} {Q : Option Value → hf_M → Prop} {i : Int32} {s0 : Int32} (h : vp_in (i + 1) X.1 ∧ (vp_in (i + 2) X.1 ∧ (hf_G X Y_X12_seen d 0 0 0 (hf_en [.ref 156, .int (X.2 (i + 1).toNatClampNeg), .int (X.2 (i + 2).toNatClampNeg)] 4) [] M (fun r M1 => hf_G X Y_L_law (d + 1) k n 964 [some (.ref 0), some (.ref 100), some (.ref 156), some (.int i)] (r.toList ++ [.int s0]) M1 Q)))) : hr_G X Y_L_law (d + 1) k n 950 [some (.ref 0), some (.ref 100), some (.ref 156), some (.int i)] [.int s0] M Q := by
  refine hr_aload_n dL_law_950 rfl rfl ?_
  refine hr_aload_n dL_law_951 rfl rfl ?_
  refine hr_iload_n dL_law_952 rfl rfl ?_
  refine hr_iconst (v := 1) dL_law_953 (by decide) ?_
  refine hr_iadd dL_law_954 ?_
  refine hr_sld dL_law_955 h.1 ?_
  replace h := h.2
  refine hr_aload_n dL_law_956 rfl rfl ?_
  refine hr_iload_n dL_law_957 rfl rfl ?_
  refine hr_iconst (v := 2) dL_law_958 (by decide) ?_
  refine hr_iadd dL_law_959 ?_
  refine hr_sld dL_law_960 h.1 ?_
  replace h := h.2
  exact hr_callM (as := [.int (X.2 (i + 1).toNatClampNeg), .int (X.2 (i + 2).toNatClampNeg)]) ok_X12_seen dL_law_961 hw1475 hw1476 hw1477 rfl (Nat.le_of_ble_eq_true rfl) rfl (Nat.le_of_ble_eq_true rfl) (Nat.zero_le _) (Nat.zero_le _) h

set_option maxHeartbeats 4000000 in
theorem w_L_law_969_c {X : hf_X} {d k n t : Nat} {T : hf_T} {I : hf_I} {L : hf_L} {P : hf_P} {Q : Option Value → hf_M → Prop} {i : Int32} (hs : hf_Lay t T P) (hk : 20 ≤ k) (hn : 868 ≤ n) (h : hf_G X Y_X11_forget d 20 868 0 (hf_en [.ref 100] 2) [] (t, T, I, L, P) (fun r M => hr_G X Y_L_law (d + 1) (k - 20) (n - 868) 973 [some (.ref 0), some (.ref 100), some (.ref 156), some (.int i)] (r.toList ++ []) M Q)) : hf_G X Y_L_law (d + 1) k n 969 [some (.ref 0), some (.ref 100), some (.ref 156), some (.int i)] [] (t, T, I, L, P) Q := by
  refine hf_aload_n dL_law_969 rfl rfl ?_
  exact hr_callV (c := 11) (as := []) ok_X11_forget dL_law_970 hw946 hw947 hw948 (hs.2.1 100 _ rfl) (by decide) (hf_lin hs 100 rfl) rfl (Nat.le_of_ble_eq_true rfl) rfl (Nat.le_of_ble_eq_true rfl) hk hn (hs.2.1 156 _ rfl) (by have := hs.1; omega) h

set_option maxHeartbeats 4000000 in
theorem w_L_law_973_m {X : hf_X} {d k n : Nat} {M : hf_M} {Q : Option Value → hf_M → Prop} {i : Int32} {s0 : Int32} (h : hf_G X Y_X12_forget d 0 0 0 (hf_en [.ref 156] 2) [] M (fun r M1 => hf_G X Y_L_law (d + 1) k n 977 [some (.ref 0), some (.ref 100), some (.ref 156), some (.int i)] (r.toList ++ [.int s0]) M1 Q)) : hr_G X Y_L_law (d + 1) k n 973 [some (.ref 0), some (.ref 100), some (.ref 156), some (.int i)] [.int s0] M Q := by
  refine hr_aload_n dL_law_973 rfl rfl ?_
  exact hr_callM (as := []) ok_X12_forget dL_law_974 hw1479 hw1480 hw1481 rfl (Nat.le_of_ble_eq_true rfl) rfl (Nat.le_of_ble_eq_true rfl) (Nat.zero_le _) (Nat.zero_le _) h

set_option maxHeartbeats 4000000 in
theorem w_L_law_982_c {X : hf_X} {d k n t : Nat} {T : hf_T} {I : hf_I} {L : hf_L} {P : hf_P} {Q : Option Value → hf_M → Prop} {i : Int32} (hs : hf_Lay t T P) (hk : 20 ≤ k) (hn : 868 ≤ n) (h : vp_in (i + 1) X.1 ∧ (hf_G X Y_X11_changed d 20 868 0 (hf_en [.ref 100, .int (X.2 (i + 1).toNatClampNeg)] 5) [] (t, T, I, L, P) (fun r M => hr_G X Y_L_law (d + 1) (k - 20) (n - 868) 991 [some (.ref 0), some (.ref 100), some (.ref 156), some (.int i)] (r.toList ++ []) M Q))) : hf_G X Y_L_law (d + 1) k n 982 [some (.ref 0), some (.ref 100), some (.ref 156), some (.int i)] [] (t, T, I, L, P) Q := by
  refine hf_aload_n dL_law_982 rfl rfl ?_
  refine hf_aload_n dL_law_983 rfl rfl ?_
  refine hf_iload_n dL_law_984 rfl rfl ?_
  refine hf_iconst (v := 1) dL_law_985 (by decide) ?_
  refine hf_iadd dL_law_986 ?_
  refine hf_sld dL_law_987 h.1 ?_
  replace h := h.2
  exact hr_callV (c := 11) (as := [.int (X.2 (i + 1).toNatClampNeg)]) ok_X11_changed dL_law_988 hw950 hw951 hw952 (hs.2.1 100 _ rfl) (by decide) (hf_lin hs 100 rfl) rfl (Nat.le_of_ble_eq_true rfl) rfl (Nat.le_of_ble_eq_true rfl) hk hn (hs.2.1 156 _ rfl) (by have := hs.1; omega) h

set_option maxHeartbeats 4000000 in
theorem w_L_law_991_m {X : hf_X} {d k n : Nat} {M : hf_M} {Q : Option Value → hf_M → Prop} {i : Int32} {s0 : Int32} (h : vp_in (i + 1) X.1 ∧ (hf_G X Y_X12_changed d 0 0 0 (hf_en [.ref 156, .int (X.2 (i + 1).toNatClampNeg)] 10) [] M (fun r M1 => hf_G X Y_L_law (d + 1) k n 1000 [some (.ref 0), some (.ref 100), some (.ref 156), some (.int i)] (r.toList ++ [.int s0]) M1 Q))) : hr_G X Y_L_law (d + 1) k n 991 [some (.ref 0), some (.ref 100), some (.ref 156), some (.int i)] [.int s0] M Q := by
  refine hr_aload_n dL_law_991 rfl rfl ?_
  refine hr_aload_n dL_law_992 rfl rfl ?_
  refine hr_iload_n dL_law_993 rfl rfl ?_
  refine hr_iconst (v := 1) dL_law_994 (by decide) ?_
  refine hr_iadd dL_law_995 ?_
  refine hr_sld dL_law_996 h.1 ?_
  replace h := h.2
  exact hr_callM (as := [.int (X.2 (i + 1).toNatClampNeg)]) ok_X12_changed dL_law_997 hw1483 hw1484 hw1485 rfl (Nat.le_of_ble_eq_true rfl) rfl (Nat.le_of_ble_eq_true rfl) (Nat.zero_le _) (Nat.zero_le _) h

set_option maxHeartbeats 4000000 in
theorem w_L_law_1005_c {X : hf_X} {d k n t : Nat} {T : hf_T} {I : hf_I} {L : hf_L} {P : hf_P} {Q : Option Value → hf_M → Prop} {i : Int32} (hs : hf_Lay t T P) (hk : 20 ≤ k) (hn : 868 ≤ n) (h : vp_in (i + 1) X.1 ∧ (vp_in (i + 2) X.1 ∧ (vp_in (i + 3) X.1 ∧ (hf_G X Y_X11_matter d 20 868 0 (hf_en [.ref 100, .int (X.2 (i + 1).toNatClampNeg), .int (X.2 (i + 2).toNatClampNeg), .int (X.2 (i + 3).toNatClampNeg)] 5) [] (t, T, I, L, P) (fun r M => hr_G X Y_L_law (d + 1) (k - 20) (n - 868) 1024 [some (.ref 0), some (.ref 100), some (.ref 156), some (.int i)] (r.toList ++ []) M Q))))) : hf_G X Y_L_law (d + 1) k n 1005 [some (.ref 0), some (.ref 100), some (.ref 156), some (.int i)] [] (t, T, I, L, P) Q := by
  refine hf_aload_n dL_law_1005 rfl rfl ?_
  refine hf_aload_n dL_law_1006 rfl rfl ?_
  refine hf_iload_n dL_law_1007 rfl rfl ?_
  refine hf_iconst (v := 1) dL_law_1008 (by decide) ?_
  refine hf_iadd dL_law_1009 ?_
  refine hf_sld dL_law_1010 h.1 ?_
  replace h := h.2
  refine hf_aload_n dL_law_1011 rfl rfl ?_
  refine hf_iload_n dL_law_1012 rfl rfl ?_
  refine hf_iconst (v := 2) dL_law_1013 (by decide) ?_
  refine hf_iadd dL_law_1014 ?_
  refine hf_sld dL_law_1015 h.1 ?_
  replace h := h.2
  refine hf_aload_n dL_law_1016 rfl rfl ?_
  refine hf_iload_n dL_law_1017 rfl rfl ?_
  refine hf_iconst (v := 3) dL_law_1018 (by decide) ?_
  refine hf_iadd dL_law_1019 ?_
  refine hf_sld dL_law_1020 h.1 ?_
  replace h := h.2
  exact hr_callV (c := 11) (as := [.int (X.2 (i + 1).toNatClampNeg), .int (X.2 (i + 2).toNatClampNeg), .int (X.2 (i + 3).toNatClampNeg)]) ok_X11_matter dL_law_1021 hw963 hw964 hw965 (hs.2.1 100 _ rfl) (by decide) (hf_lin hs 100 rfl) rfl (Nat.le_of_ble_eq_true rfl) rfl (Nat.le_of_ble_eq_true rfl) hk hn (hs.2.1 156 _ rfl) (by have := hs.1; omega) h

set_option maxHeartbeats 4000000 in
theorem w_L_law_1024_m {X : hf_X} {d k n : Nat} {M : hf_M} {Q : Option Value → hf_M → Prop} {i : Int32} {s0 : Int32} (h : vp_in (i + 1) X.1 ∧ (vp_in (i + 2) X.1 ∧ (vp_in (i + 3) X.1 ∧ (hf_G X Y_X12_matter d 0 0 0 (hf_en [.ref 156, .int (X.2 (i + 1).toNatClampNeg), .int (X.2 (i + 2).toNatClampNeg), .int (X.2 (i + 3).toNatClampNeg)] 5) [] M (fun r M1 => hf_G X Y_L_law (d + 1) k n 1043 [some (.ref 0), some (.ref 100), some (.ref 156), some (.int i)] (r.toList ++ [.int s0]) M1 Q))))) : hr_G X Y_L_law (d + 1) k n 1024 [some (.ref 0), some (.ref 100), some (.ref 156), some (.int i)] [.int s0] M Q := by
  refine hr_aload_n dL_law_1024 rfl rfl ?_
  refine hr_aload_n dL_law_1025 rfl rfl ?_
  refine hr_iload_n dL_law_1026 rfl rfl ?_
  refine hr_iconst (v := 1) dL_law_1027 (by decide) ?_
  refine hr_iadd dL_law_1028 ?_
  refine hr_sld dL_law_1029 h.1 ?_
  replace h := h.2
  refine hr_aload_n dL_law_1030 rfl rfl ?_
  refine hr_iload_n dL_law_1031 rfl rfl ?_
  refine hr_iconst (v := 2) dL_law_1032 (by decide) ?_
  refine hr_iadd dL_law_1033 ?_
  refine hr_sld dL_law_1034 h.1 ?_
  replace h := h.2
  refine hr_aload_n dL_law_1035 rfl rfl ?_
  refine hr_iload_n dL_law_1036 rfl rfl ?_
  refine hr_iconst (v := 3) dL_law_1037 (by decide) ?_
  refine hr_iadd dL_law_1038 ?_
  refine hr_sld dL_law_1039 h.1 ?_
  replace h := h.2
  exact hr_callM (as := [.int (X.2 (i + 1).toNatClampNeg), .int (X.2 (i + 2).toNatClampNeg), .int (X.2 (i + 3).toNatClampNeg)]) ok_X12_matter dL_law_1040 hw1487 hw1488 hw1489 rfl (Nat.le_of_ble_eq_true rfl) rfl (Nat.le_of_ble_eq_true rfl) (Nat.zero_le _) (Nat.zero_le _) h

set_option maxHeartbeats 4000000 in
theorem w_L_law_1048_c {X : hf_X} {d k n t : Nat} {T : hf_T} {I : hf_I} {L : hf_L} {P : hf_P} {Q : Option Value → hf_M → Prop} {i : Int32} (hs : hf_Lay t T P) (hk : 20 ≤ k) (hn : 868 ≤ n) (h : hf_G X Y_X11_cancel d 20 868 0 (hf_en [.ref 100] 2) [] (t, T, I, L, P) (fun r M => hr_G X Y_L_law (d + 1) (k - 20) (n - 868) 1052 [some (.ref 0), some (.ref 100), some (.ref 156), some (.int i)] (r.toList ++ []) M Q)) : hf_G X Y_L_law (d + 1) k n 1048 [some (.ref 0), some (.ref 100), some (.ref 156), some (.int i)] [] (t, T, I, L, P) Q := by
  refine hf_aload_n dL_law_1048 rfl rfl ?_
  exact hr_callV (c := 11) (as := []) ok_X11_cancel dL_law_1049 hw967 hw968 hw969 (hs.2.1 100 _ rfl) (by decide) (hf_lin hs 100 rfl) rfl (Nat.le_of_ble_eq_true rfl) rfl (Nat.le_of_ble_eq_true rfl) hk hn (hs.2.1 156 _ rfl) (by have := hs.1; omega) h

set_option maxHeartbeats 4000000 in
theorem w_L_law_1052_m {X : hf_X} {d k n : Nat} {M : hf_M} {Q : Option Value → hf_M → Prop} {i : Int32} {s0 : Int32} (h : hf_G X Y_X12_cancel d 0 0 0 (hf_en [.ref 156] 2) [] M (fun r M1 => hf_G X Y_L_law (d + 1) k n 1056 [some (.ref 0), some (.ref 100), some (.ref 156), some (.int i)] (r.toList ++ [.int s0]) M1 Q)) : hr_G X Y_L_law (d + 1) k n 1052 [some (.ref 0), some (.ref 100), some (.ref 156), some (.int i)] [.int s0] M Q := by
  refine hr_aload_n dL_law_1052 rfl rfl ?_
  exact hr_callM (as := []) ok_X12_cancel dL_law_1053 hw1491 hw1492 hw1493 rfl (Nat.le_of_ble_eq_true rfl) rfl (Nat.le_of_ble_eq_true rfl) (Nat.zero_le _) (Nat.zero_le _) h

set_option maxHeartbeats 4000000 in
theorem w_L_law_1061_c {X : hf_X} {d k n t : Nat} {T : hf_T} {I : hf_I} {L : hf_L} {P : hf_P} {Q : Option Value → hf_M → Prop} {i : Int32} (hs : hf_Lay t T P) (hk : 20 ≤ k) (hn : 868 ≤ n) (h : vp_in (i + 1) X.1 ∧ (hf_G X Y_X11_edition d 20 868 0 (hf_en [.ref 100, .int (X.2 (i + 1).toNatClampNeg)] 2) [] (t, T, I, L, P) (fun r M => hr_G X Y_L_law (d + 1) (k - 20) (n - 868) 1070 [some (.ref 0), some (.ref 100), some (.ref 156), some (.int i)] (r.toList ++ []) M Q))) : hf_G X Y_L_law (d + 1) k n 1061 [some (.ref 0), some (.ref 100), some (.ref 156), some (.int i)] [] (t, T, I, L, P) Q := by
  refine hf_aload_n dL_law_1061 rfl rfl ?_
  refine hf_aload_n dL_law_1062 rfl rfl ?_
  refine hf_iload_n dL_law_1063 rfl rfl ?_
  refine hf_iconst (v := 1) dL_law_1064 (by decide) ?_
  refine hf_iadd dL_law_1065 ?_
  refine hf_sld dL_law_1066 h.1 ?_
  replace h := h.2
  exact hr_callV (c := 11) (as := [.int (X.2 (i + 1).toNatClampNeg)]) ok_X11_edition dL_law_1067 hw971 hw972 hw973 (hs.2.1 100 _ rfl) (by decide) (hf_lin hs 100 rfl) rfl (Nat.le_of_ble_eq_true rfl) rfl (Nat.le_of_ble_eq_true rfl) hk hn (hs.2.1 156 _ rfl) (by have := hs.1; omega) h

set_option maxHeartbeats 4000000 in
theorem w_L_law_1070_m {X : hf_X} {d k n : Nat} {M : hf_M} {Q : Option Value → hf_M → Prop} {i : Int32} {s0 : Int32} (h : vp_in (i + 1) X.1 ∧ (hf_G X Y_X12_edition d 0 0 0 (hf_en [.ref 156, .int (X.2 (i + 1).toNatClampNeg)] 7) [] M (fun r M1 => hf_G X Y_L_law (d + 1) k n 1079 [some (.ref 0), some (.ref 100), some (.ref 156), some (.int i)] (r.toList ++ [.int s0]) M1 Q))) : hr_G X Y_L_law (d + 1) k n 1070 [some (.ref 0), some (.ref 100), some (.ref 156), some (.int i)] [.int s0] M Q := by
  refine hr_aload_n dL_law_1070 rfl rfl ?_
  refine hr_aload_n dL_law_1071 rfl rfl ?_
  refine hr_iload_n dL_law_1072 rfl rfl ?_
  refine hr_iconst (v := 1) dL_law_1073 (by decide) ?_
  refine hr_iadd dL_law_1074 ?_
  refine hr_sld dL_law_1075 h.1 ?_
  replace h := h.2
  exact hr_callM (as := [.int (X.2 (i + 1).toNatClampNeg)]) ok_X12_edition dL_law_1076 hw1495 hw1496 hw1497 rfl (Nat.le_of_ble_eq_true rfl) rfl (Nat.le_of_ble_eq_true rfl) (Nat.zero_le _) (Nat.zero_le _) h

set_option maxHeartbeats 4000000 in
theorem w_L_law_1084_c {X : hf_X} {d k n t : Nat} {T : hf_T} {I : hf_I} {L : hf_L} {P : hf_P} {Q : Option Value → hf_M → Prop} {i : Int32} (hs : hf_Lay t T P) (hk : 20 ≤ k) (hn : 868 ≤ n) (h : vp_in (i + 1) X.1 ∧ (vp_in (i + 2) X.1 ∧ (hf_G X Y_X11_readers d 20 868 0 (hf_en [.ref 100, .int (X.2 (i + 1).toNatClampNeg), .int (X.2 (i + 2).toNatClampNeg)] 3) [] (t, T, I, L, P) (fun r M => hr_G X Y_L_law (d + 1) (k - 20) (n - 868) 1098 [some (.ref 0), some (.ref 100), some (.ref 156), some (.int i)] (r.toList ++ []) M Q)))) : hf_G X Y_L_law (d + 1) k n 1084 [some (.ref 0), some (.ref 100), some (.ref 156), some (.int i)] [] (t, T, I, L, P) Q := by
  refine hf_aload_n dL_law_1084 rfl rfl ?_
  refine hf_aload_n dL_law_1085 rfl rfl ?_
  refine hf_iload_n dL_law_1086 rfl rfl ?_
  refine hf_iconst (v := 1) dL_law_1087 (by decide) ?_
  refine hf_iadd dL_law_1088 ?_
  refine hf_sld dL_law_1089 h.1 ?_
  replace h := h.2
  refine hf_aload_n dL_law_1090 rfl rfl ?_
  refine hf_iload_n dL_law_1091 rfl rfl ?_
  refine hf_iconst (v := 2) dL_law_1092 (by decide) ?_
  refine hf_iadd dL_law_1093 ?_
  refine hf_sld dL_law_1094 h.1 ?_
  replace h := h.2
  exact hr_callV (c := 11) (as := [.int (X.2 (i + 1).toNatClampNeg), .int (X.2 (i + 2).toNatClampNeg)]) ok_X11_readers dL_law_1095 hw989 hw990 hw991 (hs.2.1 100 _ rfl) (by decide) (hf_lin hs 100 rfl) rfl (Nat.le_of_ble_eq_true rfl) rfl (Nat.le_of_ble_eq_true rfl) hk hn (hs.2.1 156 _ rfl) (by have := hs.1; omega) h

set_option maxHeartbeats 4000000 in
theorem w_L_law_1098_m {X : hf_X} {d k n : Nat} {M : hf_M} {Q : Option Value → hf_M → Prop} {i : Int32} {s0 : Int32} (h : vp_in (i + 1) X.1 ∧ (vp_in (i + 2) X.1 ∧ (hf_G X Y_X12_readers d 0 0 0 (hf_en [.ref 156, .int (X.2 (i + 1).toNatClampNeg), .int (X.2 (i + 2).toNatClampNeg)] 8) [] M (fun r M1 => hf_G X Y_L_law (d + 1) k n 1112 [some (.ref 0), some (.ref 100), some (.ref 156), some (.int i)] (r.toList ++ [.int s0]) M1 Q)))) : hr_G X Y_L_law (d + 1) k n 1098 [some (.ref 0), some (.ref 100), some (.ref 156), some (.int i)] [.int s0] M Q := by
  refine hr_aload_n dL_law_1098 rfl rfl ?_
  refine hr_aload_n dL_law_1099 rfl rfl ?_
  refine hr_iload_n dL_law_1100 rfl rfl ?_
  refine hr_iconst (v := 1) dL_law_1101 (by decide) ?_
  refine hr_iadd dL_law_1102 ?_
  refine hr_sld dL_law_1103 h.1 ?_
  replace h := h.2
  refine hr_aload_n dL_law_1104 rfl rfl ?_
  refine hr_iload_n dL_law_1105 rfl rfl ?_
  refine hr_iconst (v := 2) dL_law_1106 (by decide) ?_
  refine hr_iadd dL_law_1107 ?_
  refine hr_sld dL_law_1108 h.1 ?_
  replace h := h.2
  exact hr_callM (as := [.int (X.2 (i + 1).toNatClampNeg), .int (X.2 (i + 2).toNatClampNeg)]) ok_X12_readers dL_law_1109 hw1529 hw1530 hw1531 rfl (Nat.le_of_ble_eq_true rfl) rfl (Nat.le_of_ble_eq_true rfl) (Nat.zero_le _) (Nat.zero_le _) h

set_option maxHeartbeats 4000000 in
theorem w_L_law_1117_c {X : hf_X} {d k n t : Nat} {T : hf_T} {I : hf_I} {L : hf_L} {P : hf_P} {Q : Option Value → hf_M → Prop} {i : Int32} (hs : hf_Lay t T P) (hk : 20 ≤ k) (hn : 868 ≤ n) (h : vp_in (i + 1) X.1 ∧ (hf_G X Y_X11_drawn d 20 868 0 (hf_en [.ref 100, .int (X.2 (i + 1).toNatClampNeg)] 2) [] (t, T, I, L, P) (fun r M => hr_G X Y_L_law (d + 1) (k - 20) (n - 868) 1126 [some (.ref 0), some (.ref 100), some (.ref 156), some (.int i)] (r.toList ++ []) M Q))) : hf_G X Y_L_law (d + 1) k n 1117 [some (.ref 0), some (.ref 100), some (.ref 156), some (.int i)] [] (t, T, I, L, P) Q := by
  refine hf_aload_n dL_law_1117 rfl rfl ?_
  refine hf_aload_n dL_law_1118 rfl rfl ?_
  refine hf_iload_n dL_law_1119 rfl rfl ?_
  refine hf_iconst (v := 1) dL_law_1120 (by decide) ?_
  refine hf_iadd dL_law_1121 ?_
  refine hf_sld dL_law_1122 h.1 ?_
  replace h := h.2
  exact hr_callV (c := 11) (as := [.int (X.2 (i + 1).toNatClampNeg)]) ok_X11_drawn dL_law_1123 hw999 hw1000 hw1001 (hs.2.1 100 _ rfl) (by decide) (hf_lin hs 100 rfl) rfl (Nat.le_of_ble_eq_true rfl) rfl (Nat.le_of_ble_eq_true rfl) hk hn (hs.2.1 156 _ rfl) (by have := hs.1; omega) h

set_option maxHeartbeats 4000000 in
theorem w_L_law_1126_m {X : hf_X} {d k n : Nat} {M : hf_M} {Q : Option Value → hf_M → Prop} {i : Int32} {s0 : Int32} (h : vp_in (i + 1) X.1 ∧ (hf_G X Y_X12_drawn d 0 0 0 (hf_en [.ref 156, .int (X.2 (i + 1).toNatClampNeg)] 2) [] M (fun r M1 => hf_G X Y_L_law (d + 1) k n 1135 [some (.ref 0), some (.ref 100), some (.ref 156), some (.int i)] (r.toList ++ [.int s0]) M1 Q))) : hr_G X Y_L_law (d + 1) k n 1126 [some (.ref 0), some (.ref 100), some (.ref 156), some (.int i)] [.int s0] M Q := by
  refine hr_aload_n dL_law_1126 rfl rfl ?_
  refine hr_aload_n dL_law_1127 rfl rfl ?_
  refine hr_iload_n dL_law_1128 rfl rfl ?_
  refine hr_iconst (v := 1) dL_law_1129 (by decide) ?_
  refine hr_iadd dL_law_1130 ?_
  refine hr_sld dL_law_1131 h.1 ?_
  replace h := h.2
  exact hr_callM (as := [.int (X.2 (i + 1).toNatClampNeg)]) ok_X12_drawn dL_law_1132 hw1539 hw1540 hw1541 rfl (Nat.le_of_ble_eq_true rfl) rfl (Nat.le_of_ble_eq_true rfl) (Nat.zero_le _) (Nat.zero_le _) h

set_option maxHeartbeats 4000000 in
theorem w_L_law_1140_c {X : hf_X} {d k n t : Nat} {T : hf_T} {I : hf_I} {L : hf_L} {P : hf_P} {Q : Option Value → hf_M → Prop} {i : Int32} (hs : hf_Lay t T P) (hk : 20 ≤ k) (hn : 868 ≤ n) (h : vp_in (i + 1) X.1 ∧ (hf_G X Y_X11_image d 20 868 0 (hf_en [.ref 100, .int (X.2 (i + 1).toNatClampNeg)] 2) [] (t, T, I, L, P) (fun r M => hr_G X Y_L_law (d + 1) (k - 20) (n - 868) 1149 [some (.ref 0), some (.ref 100), some (.ref 156), some (.int i)] (r.toList ++ []) M Q))) : hf_G X Y_L_law (d + 1) k n 1140 [some (.ref 0), some (.ref 100), some (.ref 156), some (.int i)] [] (t, T, I, L, P) Q := by
  refine hf_aload_n dL_law_1140 rfl rfl ?_
  refine hf_aload_n dL_law_1141 rfl rfl ?_
  refine hf_iload_n dL_law_1142 rfl rfl ?_
  refine hf_iconst (v := 1) dL_law_1143 (by decide) ?_
  refine hf_iadd dL_law_1144 ?_
  refine hf_sld dL_law_1145 h.1 ?_
  replace h := h.2
  exact hr_callV (c := 11) (as := [.int (X.2 (i + 1).toNatClampNeg)]) ok_X11_image dL_law_1146 hw1003 hw1004 hw1005 (hs.2.1 100 _ rfl) (by decide) (hf_lin hs 100 rfl) rfl (Nat.le_of_ble_eq_true rfl) rfl (Nat.le_of_ble_eq_true rfl) hk hn (hs.2.1 156 _ rfl) (by have := hs.1; omega) h

set_option maxHeartbeats 4000000 in
theorem w_L_law_1149_m {X : hf_X} {d k n : Nat} {M : hf_M} {Q : Option Value → hf_M → Prop} {i : Int32} {s0 : Int32} (h : vp_in (i + 1) X.1 ∧ (hf_G X Y_X12_image d 0 0 0 (hf_en [.ref 156, .int (X.2 (i + 1).toNatClampNeg)] 3) [] M (fun r M1 => hf_G X Y_L_law (d + 1) k n 1158 [some (.ref 0), some (.ref 100), some (.ref 156), some (.int i)] (r.toList ++ [.int s0]) M1 Q))) : hr_G X Y_L_law (d + 1) k n 1149 [some (.ref 0), some (.ref 100), some (.ref 156), some (.int i)] [.int s0] M Q := by
  refine hr_aload_n dL_law_1149 rfl rfl ?_
  refine hr_aload_n dL_law_1150 rfl rfl ?_
  refine hr_iload_n dL_law_1151 rfl rfl ?_
  refine hr_iconst (v := 1) dL_law_1152 (by decide) ?_
  refine hr_iadd dL_law_1153 ?_
  refine hr_sld dL_law_1154 h.1 ?_
  replace h := h.2
  exact hr_callM (as := [.int (X.2 (i + 1).toNatClampNeg)]) ok_X12_image dL_law_1155 hw1139 hw1140 hw1141 rfl (Nat.le_of_ble_eq_true rfl) rfl (Nat.le_of_ble_eq_true rfl) (Nat.zero_le _) (Nat.zero_le _) h

set_option maxHeartbeats 4000000 in
theorem w_L_law_1163_c {X : hf_X} {d k n t : Nat} {T : hf_T} {I : hf_I} {L : hf_L} {P : hf_P} {Q : Option Value → hf_M → Prop} {i : Int32} (hs : hf_Lay t T P) (hk : 20 ≤ k) (hn : 868 ≤ n) (h : vp_in (i + 1) X.1 ∧ (hf_G X Y_X11_back d 20 868 0 (hf_en [.ref 100, .int (X.2 (i + 1).toNatClampNeg)] 2) [] (t, T, I, L, P) (fun r M => hr_G X Y_L_law (d + 1) (k - 20) (n - 868) 1172 [some (.ref 0), some (.ref 100), some (.ref 156), some (.int i)] (r.toList ++ []) M Q))) : hf_G X Y_L_law (d + 1) k n 1163 [some (.ref 0), some (.ref 100), some (.ref 156), some (.int i)] [] (t, T, I, L, P) Q := by
  refine hf_aload_n dL_law_1163 rfl rfl ?_
  refine hf_aload_n dL_law_1164 rfl rfl ?_
  refine hf_iload_n dL_law_1165 rfl rfl ?_
  refine hf_iconst (v := 1) dL_law_1166 (by decide) ?_
  refine hf_iadd dL_law_1167 ?_
  refine hf_sld dL_law_1168 h.1 ?_
  replace h := h.2
  exact hr_callV (c := 11) (as := [.int (X.2 (i + 1).toNatClampNeg)]) ok_X11_back dL_law_1169 hw1018 hw1019 hw1020 (hs.2.1 100 _ rfl) (by decide) (hf_lin hs 100 rfl) rfl (Nat.le_of_ble_eq_true rfl) rfl (Nat.le_of_ble_eq_true rfl) hk hn (hs.2.1 156 _ rfl) (by have := hs.1; omega) h

set_option maxHeartbeats 4000000 in
theorem w_L_law_1172_m {X : hf_X} {d k n : Nat} {M : hf_M} {Q : Option Value → hf_M → Prop} {i : Int32} {s0 : Int32} (h : vp_in (i + 1) X.1 ∧ (hf_G X Y_X12_back d 0 0 0 (hf_en [.ref 156, .int (X.2 (i + 1).toNatClampNeg)] 3) [] M (fun r M1 => hf_G X Y_L_law (d + 1) k n 1181 [some (.ref 0), some (.ref 100), some (.ref 156), some (.int i)] (r.toList ++ [.int s0]) M1 Q))) : hr_G X Y_L_law (d + 1) k n 1172 [some (.ref 0), some (.ref 100), some (.ref 156), some (.int i)] [.int s0] M Q := by
  refine hr_aload_n dL_law_1172 rfl rfl ?_
  refine hr_aload_n dL_law_1173 rfl rfl ?_
  refine hr_iload_n dL_law_1174 rfl rfl ?_
  refine hr_iconst (v := 1) dL_law_1175 (by decide) ?_
  refine hr_iadd dL_law_1176 ?_
  refine hr_sld dL_law_1177 h.1 ?_
  replace h := h.2
  exact hr_callM (as := [.int (X.2 (i + 1).toNatClampNeg)]) ok_X12_back dL_law_1178 hw1152 hw1153 hw1154 rfl (Nat.le_of_ble_eq_true rfl) rfl (Nat.le_of_ble_eq_true rfl) (Nat.zero_le _) (Nat.zero_le _) h

set_option maxHeartbeats 4000000 in
theorem w_L_law_1186_c {X : hf_X} {d k n t : Nat} {T : hf_T} {I : hf_I} {L : hf_L} {P : hf_P} {Q : Option Value → hf_M → Prop} {i : Int32} (hs : hf_Lay t T P) (hk : 20 ≤ k) (hn : 868 ≤ n) (h : vp_in (i + 1) X.1 ∧ (hf_G X Y_X11_count d 20 868 0 (hf_en [.ref 100, .int (X.2 (i + 1).toNatClampNeg)] 2) [] (t, T, I, L, P) (fun r M => hr_G X Y_L_law (d + 1) (k - 20) (n - 868) 1195 [some (.ref 0), some (.ref 100), some (.ref 156), some (.int i)] (r.toList ++ []) M Q))) : hf_G X Y_L_law (d + 1) k n 1186 [some (.ref 0), some (.ref 100), some (.ref 156), some (.int i)] [] (t, T, I, L, P) Q := by
  refine hf_aload_n dL_law_1186 rfl rfl ?_
  refine hf_aload_n dL_law_1187 rfl rfl ?_
  refine hf_iload_n dL_law_1188 rfl rfl ?_
  refine hf_iconst (v := 1) dL_law_1189 (by decide) ?_
  refine hf_iadd dL_law_1190 ?_
  refine hf_sld dL_law_1191 h.1 ?_
  replace h := h.2
  exact hr_callV (c := 11) (as := [.int (X.2 (i + 1).toNatClampNeg)]) ok_X11_count dL_law_1192 hw1022 hw1023 hw1024 (hs.2.1 100 _ rfl) (by decide) (hf_lin hs 100 rfl) rfl (Nat.le_of_ble_eq_true rfl) rfl (Nat.le_of_ble_eq_true rfl) hk hn (hs.2.1 156 _ rfl) (by have := hs.1; omega) h

set_option maxHeartbeats 4000000 in
theorem w_L_law_1195_m {X : hf_X} {d k n : Nat} {M : hf_M} {Q : Option Value → hf_M → Prop} {i : Int32} {s0 : Int32} (h : vp_in (i + 1) X.1 ∧ (hf_G X Y_X12_count d 0 0 0 (hf_en [.ref 156, .int (X.2 (i + 1).toNatClampNeg)] 2) [] M (fun r M1 => hf_G X Y_L_law (d + 1) k n 1204 [some (.ref 0), some (.ref 100), some (.ref 156), some (.int i)] (r.toList ++ [.int s0]) M1 Q))) : hr_G X Y_L_law (d + 1) k n 1195 [some (.ref 0), some (.ref 100), some (.ref 156), some (.int i)] [.int s0] M Q := by
  refine hr_aload_n dL_law_1195 rfl rfl ?_
  refine hr_aload_n dL_law_1196 rfl rfl ?_
  refine hr_iload_n dL_law_1197 rfl rfl ?_
  refine hr_iconst (v := 1) dL_law_1198 (by decide) ?_
  refine hr_iadd dL_law_1199 ?_
  refine hr_sld dL_law_1200 h.1 ?_
  replace h := h.2
  exact hr_callM (as := [.int (X.2 (i + 1).toNatClampNeg)]) ok_X12_count dL_law_1201 hw1543 hw1544 hw1545 rfl (Nat.le_of_ble_eq_true rfl) rfl (Nat.le_of_ble_eq_true rfl) (Nat.zero_le _) (Nat.zero_le _) h

set_option maxHeartbeats 4000000 in
theorem w_L_law_1209_c {X : hf_X} {d k n t : Nat} {T : hf_T} {I : hf_I} {L : hf_L} {P : hf_P} {Q : Option Value → hf_M → Prop} {i : Int32} (hs : hf_Lay t T P) (hk : 20 ≤ k) (hn : 868 ≤ n) (h : hf_G X Y_X11_status d 20 868 0 (hf_en [.ref 100] 1) [] (t, T, I, L, P) (fun r M => hr_G X Y_L_law (d + 1) (k - 20) (n - 868) 1213 [some (.ref 0), some (.ref 100), some (.ref 156), some (.int i)] (r.toList ++ []) M Q)) : hf_G X Y_L_law (d + 1) k n 1209 [some (.ref 0), some (.ref 100), some (.ref 156), some (.int i)] [] (t, T, I, L, P) Q := by
  refine hf_aload_n dL_law_1209 rfl rfl ?_
  exact hr_callV (c := 11) (as := []) ok_X11_status dL_law_1210 hw1026 hw1027 hw1028 (hs.2.1 100 _ rfl) (by decide) (hf_lin hs 100 rfl) rfl (Nat.le_of_ble_eq_true rfl) rfl (Nat.le_of_ble_eq_true rfl) hk hn (hs.2.1 156 _ rfl) (by have := hs.1; omega) h

set_option maxHeartbeats 4000000 in
theorem w_L_law_1213_m {X : hf_X} {d k n : Nat} {M : hf_M} {Q : Option Value → hf_M → Prop} {i : Int32} {s0 : Int32} (h : hf_G X Y_X12_status d 0 0 0 (hf_en [.ref 156] 1) [] M (fun r M1 => hf_G X Y_L_law (d + 1) k n 1217 [some (.ref 0), some (.ref 100), some (.ref 156), some (.int i)] (r.toList ++ [.int s0]) M1 Q)) : hr_G X Y_L_law (d + 1) k n 1213 [some (.ref 0), some (.ref 100), some (.ref 156), some (.int i)] [.int s0] M Q := by
  refine hr_aload_n dL_law_1213 rfl rfl ?_
  exact hr_callM (as := []) ok_X12_status dL_law_1214 hw1547 hw1548 hw1549 rfl (Nat.le_of_ble_eq_true rfl) rfl (Nat.le_of_ble_eq_true rfl) (Nat.zero_le _) (Nat.zero_le _) h

