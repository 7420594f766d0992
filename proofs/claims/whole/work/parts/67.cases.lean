/-! ===== the law, case by case ===== -/
theorem lc_cell (l : Launch) {L : Nat} {xs : Nat → Int32} (H : ix_Mo (tL_0 L xs)) {i : Nat} (hi : i + 6 ≤ L) (hL : L ≤ 3072) (μ : ix_M) (I : Inv μ) (Q : ix_R → Prop) (K : ∀ μ', Inv μ' → ix_Ev (tL_0 L xs) Q (1636, [some (vr 25 0), some (vr 9 0), some (vr 10 112), some (vi (nI i))], [], μ')) : ix_Ev (tL_0 L xs) Q (224, [some (vr 25 0), some (vr 9 0), some (vr 10 112), some (vi (nI i))], [], μ) := by
  obtain ⟨i1, h1⟩ : ∃ j, j = i + 1 := ⟨_, rfl⟩
  have a1 : nI i + 1 = nI i1 := by rw [h1]; exact nI_add i 1
  have b1 : (nI i1).toNatClampNeg = i1 := nI_clamp (by omega)
  have c1 : vp_in (nI i1) L := vp_in_nI (by omega) (by omega)
  obtain ⟨i2, h2⟩ : ∃ j, j = i + 2 := ⟨_, rfl⟩
  have a2 : nI i + 2 = nI i2 := by rw [h2]; exact nI_add i 2
  have b2 : (nI i2).toNatClampNeg = i2 := nI_clamp (by omega)
  have c2 : vp_in (nI i2) L := vp_in_nI (by omega) (by omega)
  obtain ⟨i3, h3⟩ : ∃ j, j = i + 3 := ⟨_, rfl⟩
  have a3 : nI i + 3 = nI i3 := by rw [h3]; exact nI_add i 3
  have b3 : (nI i3).toNatClampNeg = i3 := nI_clamp (by omega)
  have c3 : vp_in (nI i3) L := vp_in_nI (by omega) (by omega)
  simp (decide := true) only [e_L_224 H, e_L_225 H, e_L_226 H, e_L_227 H, e_L_228 H, e_L_229 H, e_L_230 H, e_L_231 H, e_L_232 H, e_L_233 H, e_L_234 H, e_L_235 H, e_L_236 H, e_L_237 H, e_L_238 H, e_L_239 H, e_L_240 H, e_L_243 H, e_L_244 H, e_L_245 H, e_L_246 H, e_L_247 H, e_L_248 H, e_L_249 H, e_L_250 H, e_L_251 H, e_L_252 H, e_L_253 H, e_L_254 H, e_L_255 H, e_L_256 H, e_L_257 H, e_L_258 H, e_L_259 H, e_L_262 H, e_L_265 H, e_L_266 H, vi, vl, vr, oc_X10_cell, T_X10_cell, oc_X11_cell, T_X11_cell, ix_xld, ix_xln, ix_push, ix_iload, ix_lload, ix_aload, ix_istore, ix_astore, ix_iinc, ix_bin, ix_div, ix_un, ix_i2l, ix_l2i, ix_lbin, ix_lsh, ix_lcmp, ix_dup, ix_dup2, ix_pop, ix_if, ix_cmp, ix_goto, ix_switch, ix_sw, ix_iret, ix_zret, ix_vret, ix_aret, ix_geti, ix_getr, ix_puti, ix_putz, ix_puts, ix_gets, ix_iald, ix_iast, ix_alen, ix_aald, ix_gval, ix_gcod, ix_bald, ix_blen, ix_sald, ix_nret, ix_math2, ix_math1, ix_acopy, Nat.add_assoc, Int32.reduceLT, Int32.reduceLE, Int32.reduceToNatClampNeg, Int32.reduceSub, Int32.reduceAdd, Nat.reduceAdd, Nat.reduceLeDiff, true_or, or_true, or_false, false_or, not_false_eq_true, not_true_eq_false, false_implies, true_implies, implies_true, and_self, mB_0, mB_01, Classical.not_not, Nat.zero_le, List.getElem?_cons_zero, List.getElem?_cons_succ, List.set_cons_zero, List.set_cons_succ, ix_nl, ix_cs, true_and, and_true, Option.toList_some, Option.toList_none, List.cons_append, List.nil_append, a1, b1, c1, a2, b2, c2, a3, b3, c3]
  refine ⟨_, pr_cell _ _ _ μ I _ (fun vv μ1 h => ?_), fun r hr => hr⟩
  refine ⟨Nat.le_of_ble_eq_true rfl, Pst vv, h, fun r hr => ?_⟩
  obtain ⟨r1, r2⟩ := r
  have e : r1 = some (vi vv) := hr.1
  subst e
  exact ⟨fun _ => K _ hr.2, fun z => absurd rfl z⟩
theorem lc_ofCell (l : Launch) {L : Nat} {xs : Nat → Int32} (H : ix_Mo (tL_0 L xs)) {i : Nat} (hi : i + 6 ≤ L) (hL : L ≤ 3072) (μ : ix_M) (I : Inv μ) (Q : ix_R → Prop) (K : ∀ μ', Inv μ' → ix_Ev (tL_0 L xs) Q (1636, [some (vr 25 0), some (vr 9 0), some (vr 10 112), some (vi (nI i))], [], μ')) : ix_Ev (tL_0 L xs) Q (267, [some (vr 25 0), some (vr 9 0), some (vr 10 112), some (vi (nI i))], [], μ) := by
  obtain ⟨i1, h1⟩ : ∃ j, j = i + 1 := ⟨_, rfl⟩
  have a1 : nI i + 1 = nI i1 := by rw [h1]; exact nI_add i 1
  have b1 : (nI i1).toNatClampNeg = i1 := nI_clamp (by omega)
  have c1 : vp_in (nI i1) L := vp_in_nI (by omega) (by omega)
  obtain ⟨i2, h2⟩ : ∃ j, j = i + 2 := ⟨_, rfl⟩
  have a2 : nI i + 2 = nI i2 := by rw [h2]; exact nI_add i 2
  have b2 : (nI i2).toNatClampNeg = i2 := nI_clamp (by omega)
  have c2 : vp_in (nI i2) L := vp_in_nI (by omega) (by omega)
  simp (decide := true) only [e_L_267 H, e_L_268 H, e_L_269 H, e_L_270 H, e_L_271 H, e_L_272 H, e_L_273 H, e_L_274 H, e_L_275 H, e_L_276 H, e_L_277 H, e_L_278 H, e_L_281 H, e_L_282 H, e_L_283 H, e_L_284 H, e_L_285 H, e_L_286 H, e_L_287 H, e_L_288 H, e_L_289 H, e_L_290 H, e_L_291 H, e_L_292 H, e_L_295 H, e_L_298 H, e_L_299 H, vi, vl, vr, oc_X10_ofCell, T_X10_ofCell, oc_X11_ofCell, T_X11_ofCell, ix_xld, ix_xln, ix_push, ix_iload, ix_lload, ix_aload, ix_istore, ix_astore, ix_iinc, ix_bin, ix_div, ix_un, ix_i2l, ix_l2i, ix_lbin, ix_lsh, ix_lcmp, ix_dup, ix_dup2, ix_pop, ix_if, ix_cmp, ix_goto, ix_switch, ix_sw, ix_iret, ix_zret, ix_vret, ix_aret, ix_geti, ix_getr, ix_puti, ix_putz, ix_puts, ix_gets, ix_iald, ix_iast, ix_alen, ix_aald, ix_gval, ix_gcod, ix_bald, ix_blen, ix_sald, ix_nret, ix_math2, ix_math1, ix_acopy, Nat.add_assoc, Int32.reduceLT, Int32.reduceLE, Int32.reduceToNatClampNeg, Int32.reduceSub, Int32.reduceAdd, Nat.reduceAdd, Nat.reduceLeDiff, true_or, or_true, or_false, false_or, not_false_eq_true, not_true_eq_false, false_implies, true_implies, implies_true, and_self, mB_0, mB_01, Classical.not_not, Nat.zero_le, List.getElem?_cons_zero, List.getElem?_cons_succ, List.set_cons_zero, List.set_cons_succ, ix_nl, ix_cs, true_and, and_true, Option.toList_some, Option.toList_none, List.cons_append, List.nil_append, a1, b1, c1, a2, b2, c2]
  refine ⟨_, pr_ofCell _ _ μ I _ (fun vv μ1 h => ?_), fun r hr => hr⟩
  refine ⟨Nat.le_of_ble_eq_true rfl, Pst vv, h, fun r hr => ?_⟩
  obtain ⟨r1, r2⟩ := r
  have e : r1 = some (vi vv) := hr.1
  subst e
  exact ⟨fun _ => K _ hr.2, fun z => absurd rfl z⟩
theorem lc_list (l : Launch) {L : Nat} {xs : Nat → Int32} (H : ix_Mo (tL_0 L xs)) {i : Nat} (hi : i + 6 ≤ L) (hL : L ≤ 3072) (μ : ix_M) (I : Inv μ) (Q : ix_R → Prop) (K : ∀ μ', Inv μ' → ix_Ev (tL_0 L xs) Q (1636, [some (vr 25 0), some (vr 9 0), some (vr 10 112), some (vi (nI i))], [], μ')) : ix_Ev (tL_0 L xs) Q (300, [some (vr 25 0), some (vr 9 0), some (vr 10 112), some (vi (nI i))], [], μ) := by
  obtain ⟨i1, h1⟩ : ∃ j, j = i + 1 := ⟨_, rfl⟩
  have a1 : nI i + 1 = nI i1 := by rw [h1]; exact nI_add i 1
  have b1 : (nI i1).toNatClampNeg = i1 := nI_clamp (by omega)
  have c1 : vp_in (nI i1) L := vp_in_nI (by omega) (by omega)
  obtain ⟨i2, h2⟩ : ∃ j, j = i + 2 := ⟨_, rfl⟩
  have a2 : nI i + 2 = nI i2 := by rw [h2]; exact nI_add i 2
  have b2 : (nI i2).toNatClampNeg = i2 := nI_clamp (by omega)
  have c2 : vp_in (nI i2) L := vp_in_nI (by omega) (by omega)
  simp (decide := true) only [e_L_300 H, e_L_301 H, e_L_302 H, e_L_303 H, e_L_304 H, e_L_305 H, e_L_306 H, e_L_307 H, e_L_308 H, e_L_309 H, e_L_310 H, e_L_311 H, e_L_314 H, e_L_315 H, e_L_316 H, e_L_317 H, e_L_318 H, e_L_319 H, e_L_320 H, e_L_321 H, e_L_322 H, e_L_323 H, e_L_324 H, e_L_325 H, e_L_328 H, e_L_331 H, e_L_332 H, vi, vl, vr, oc_X10_list, T_X10_list, oc_X11_list, T_X11_list, ix_xld, ix_xln, ix_push, ix_iload, ix_lload, ix_aload, ix_istore, ix_astore, ix_iinc, ix_bin, ix_div, ix_un, ix_i2l, ix_l2i, ix_lbin, ix_lsh, ix_lcmp, ix_dup, ix_dup2, ix_pop, ix_if, ix_cmp, ix_goto, ix_switch, ix_sw, ix_iret, ix_zret, ix_vret, ix_aret, ix_geti, ix_getr, ix_puti, ix_putz, ix_puts, ix_gets, ix_iald, ix_iast, ix_alen, ix_aald, ix_gval, ix_gcod, ix_bald, ix_blen, ix_sald, ix_nret, ix_math2, ix_math1, ix_acopy, Nat.add_assoc, Int32.reduceLT, Int32.reduceLE, Int32.reduceToNatClampNeg, Int32.reduceSub, Int32.reduceAdd, Nat.reduceAdd, Nat.reduceLeDiff, true_or, or_true, or_false, false_or, not_false_eq_true, not_true_eq_false, false_implies, true_implies, implies_true, and_self, mB_0, mB_01, Classical.not_not, Nat.zero_le, List.getElem?_cons_zero, List.getElem?_cons_succ, List.set_cons_zero, List.set_cons_succ, ix_nl, ix_cs, true_and, and_true, Option.toList_some, Option.toList_none, List.cons_append, List.nil_append, a1, b1, c1, a2, b2, c2]
  refine ⟨_, pr_list _ _ μ I _ (fun vv μ1 h => ?_), fun r hr => hr⟩
  refine ⟨Nat.le_of_ble_eq_true rfl, Pst vv, h, fun r hr => ?_⟩
  obtain ⟨r1, r2⟩ := r
  have e : r1 = some (vi vv) := hr.1
  subst e
  exact ⟨fun _ => K _ hr.2, fun z => absurd rfl z⟩
theorem lc_ofList (l : Launch) {L : Nat} {xs : Nat → Int32} (H : ix_Mo (tL_0 L xs)) {i : Nat} (hi : i + 6 ≤ L) (hL : L ≤ 3072) (μ : ix_M) (I : Inv μ) (Q : ix_R → Prop) (K : ∀ μ', Inv μ' → ix_Ev (tL_0 L xs) Q (1636, [some (vr 25 0), some (vr 9 0), some (vr 10 112), some (vi (nI i))], [], μ')) : ix_Ev (tL_0 L xs) Q (333, [some (vr 25 0), some (vr 9 0), some (vr 10 112), some (vi (nI i))], [], μ) := by
  obtain ⟨i1, h1⟩ : ∃ j, j = i + 1 := ⟨_, rfl⟩
  have a1 : nI i + 1 = nI i1 := by rw [h1]; exact nI_add i 1
  have b1 : (nI i1).toNatClampNeg = i1 := nI_clamp (by omega)
  have c1 : vp_in (nI i1) L := vp_in_nI (by omega) (by omega)
  simp (decide := true) only [e_L_333 H, e_L_334 H, e_L_335 H, e_L_336 H, e_L_337 H, e_L_338 H, e_L_339 H, e_L_342 H, e_L_343 H, e_L_344 H, e_L_345 H, e_L_346 H, e_L_347 H, e_L_348 H, e_L_351 H, e_L_354 H, e_L_355 H, vi, vl, vr, oc_X10_ofList, T_X10_ofList, oc_X11_ofList, T_X11_ofList, ix_xld, ix_xln, ix_push, ix_iload, ix_lload, ix_aload, ix_istore, ix_astore, ix_iinc, ix_bin, ix_div, ix_un, ix_i2l, ix_l2i, ix_lbin, ix_lsh, ix_lcmp, ix_dup, ix_dup2, ix_pop, ix_if, ix_cmp, ix_goto, ix_switch, ix_sw, ix_iret, ix_zret, ix_vret, ix_aret, ix_geti, ix_getr, ix_puti, ix_putz, ix_puts, ix_gets, ix_iald, ix_iast, ix_alen, ix_aald, ix_gval, ix_gcod, ix_bald, ix_blen, ix_sald, ix_nret, ix_math2, ix_math1, ix_acopy, Nat.add_assoc, Int32.reduceLT, Int32.reduceLE, Int32.reduceToNatClampNeg, Int32.reduceSub, Int32.reduceAdd, Nat.reduceAdd, Nat.reduceLeDiff, true_or, or_true, or_false, false_or, not_false_eq_true, not_true_eq_false, false_implies, true_implies, implies_true, and_self, mB_0, mB_01, Classical.not_not, Nat.zero_le, List.getElem?_cons_zero, List.getElem?_cons_succ, List.set_cons_zero, List.set_cons_succ, ix_nl, ix_cs, true_and, and_true, Option.toList_some, Option.toList_none, List.cons_append, List.nil_append, a1, b1, c1]
  refine ⟨_, pr_ofList _ μ I _ (fun vv μ1 h => ?_), fun r hr => hr⟩
  refine ⟨Nat.le_of_ble_eq_true rfl, Pst vv, h, fun r hr => ?_⟩
  obtain ⟨r1, r2⟩ := r
  have e : r1 = some (vi vv) := hr.1
  subst e
  exact ⟨fun _ => K _ hr.2, fun z => absurd rfl z⟩
theorem lc_dark (l : Launch) {L : Nat} {xs : Nat → Int32} (H : ix_Mo (tL_0 L xs)) {i : Nat} (hi : i + 6 ≤ L) (hL : L ≤ 3072) (μ : ix_M) (I : Inv μ) (Q : ix_R → Prop) (K : ∀ μ', Inv μ' → ix_Ev (tL_0 L xs) Q (1636, [some (vr 25 0), some (vr 9 0), some (vr 10 112), some (vi (nI i))], [], μ')) : ix_Ev (tL_0 L xs) Q (356, [some (vr 25 0), some (vr 9 0), some (vr 10 112), some (vi (nI i))], [], μ) := by
  obtain ⟨i1, h1⟩ : ∃ j, j = i + 1 := ⟨_, rfl⟩
  have a1 : nI i + 1 = nI i1 := by rw [h1]; exact nI_add i 1
  have b1 : (nI i1).toNatClampNeg = i1 := nI_clamp (by omega)
  have c1 : vp_in (nI i1) L := vp_in_nI (by omega) (by omega)
  simp (decide := true) only [e_L_356 H, e_L_357 H, e_L_358 H, e_L_359 H, e_L_360 H, e_L_361 H, e_L_362 H, e_L_365 H, e_L_366 H, e_L_367 H, e_L_368 H, e_L_369 H, e_L_370 H, e_L_371 H, e_L_374 H, e_L_377 H, e_L_378 H, vi, vl, vr, oc_X10_dark, T_X10_dark, oc_X11_dark, T_X11_dark, ix_xld, ix_xln, ix_push, ix_iload, ix_lload, ix_aload, ix_istore, ix_astore, ix_iinc, ix_bin, ix_div, ix_un, ix_i2l, ix_l2i, ix_lbin, ix_lsh, ix_lcmp, ix_dup, ix_dup2, ix_pop, ix_if, ix_cmp, ix_goto, ix_switch, ix_sw, ix_iret, ix_zret, ix_vret, ix_aret, ix_geti, ix_getr, ix_puti, ix_putz, ix_puts, ix_gets, ix_iald, ix_iast, ix_alen, ix_aald, ix_gval, ix_gcod, ix_bald, ix_blen, ix_sald, ix_nret, ix_math2, ix_math1, ix_acopy, Nat.add_assoc, Int32.reduceLT, Int32.reduceLE, Int32.reduceToNatClampNeg, Int32.reduceSub, Int32.reduceAdd, Nat.reduceAdd, Nat.reduceLeDiff, true_or, or_true, or_false, false_or, not_false_eq_true, not_true_eq_false, false_implies, true_implies, implies_true, and_self, mB_0, mB_01, Classical.not_not, Nat.zero_le, List.getElem?_cons_zero, List.getElem?_cons_succ, List.set_cons_zero, List.set_cons_succ, ix_nl, ix_cs, true_and, and_true, Option.toList_some, Option.toList_none, List.cons_append, List.nil_append, a1, b1, c1]
  refine ⟨_, pr_dark _ μ I _ (fun vv μ1 h => ?_), fun r hr => hr⟩
  refine ⟨Nat.le_of_ble_eq_true rfl, Pst vv, h, fun r hr => ?_⟩
  obtain ⟨r1, r2⟩ := r
  have e : r1 = some (vi vv) := hr.1
  subst e
  exact ⟨fun _ => K _ hr.2, fun z => absurd rfl z⟩
theorem lc_wants (l : Launch) {L : Nat} {xs : Nat → Int32} (H : ix_Mo (tL_0 L xs)) {i : Nat} (hi : i + 6 ≤ L) (hL : L ≤ 3072) (μ : ix_M) (I : Inv μ) (Q : ix_R → Prop) (K : ∀ μ', Inv μ' → ix_Ev (tL_0 L xs) Q (1636, [some (vr 25 0), some (vr 9 0), some (vr 10 112), some (vi (nI i))], [], μ')) : ix_Ev (tL_0 L xs) Q (379, [some (vr 25 0), some (vr 9 0), some (vr 10 112), some (vi (nI i))], [], μ) := by
  obtain ⟨i1, h1⟩ : ∃ j, j = i + 1 := ⟨_, rfl⟩
  have a1 : nI i + 1 = nI i1 := by rw [h1]; exact nI_add i 1
  have b1 : (nI i1).toNatClampNeg = i1 := nI_clamp (by omega)
  have c1 : vp_in (nI i1) L := vp_in_nI (by omega) (by omega)
  obtain ⟨i2, h2⟩ : ∃ j, j = i + 2 := ⟨_, rfl⟩
  have a2 : nI i + 2 = nI i2 := by rw [h2]; exact nI_add i 2
  have b2 : (nI i2).toNatClampNeg = i2 := nI_clamp (by omega)
  have c2 : vp_in (nI i2) L := vp_in_nI (by omega) (by omega)
  simp (decide := true) only [e_L_379 H, e_L_380 H, e_L_381 H, e_L_382 H, e_L_383 H, e_L_384 H, e_L_385 H, e_L_386 H, e_L_387 H, e_L_388 H, e_L_389 H, e_L_390 H, e_L_393 H, e_L_394 H, e_L_395 H, e_L_396 H, e_L_397 H, e_L_398 H, e_L_399 H, e_L_400 H, e_L_401 H, e_L_402 H, e_L_403 H, e_L_404 H, e_L_407 H, e_L_410 H, e_L_411 H, vi, vl, vr, oc_X10_wants, T_X10_wants, oc_X11_wants, T_X11_wants, ix_xld, ix_xln, ix_push, ix_iload, ix_lload, ix_aload, ix_istore, ix_astore, ix_iinc, ix_bin, ix_div, ix_un, ix_i2l, ix_l2i, ix_lbin, ix_lsh, ix_lcmp, ix_dup, ix_dup2, ix_pop, ix_if, ix_cmp, ix_goto, ix_switch, ix_sw, ix_iret, ix_zret, ix_vret, ix_aret, ix_geti, ix_getr, ix_puti, ix_putz, ix_puts, ix_gets, ix_iald, ix_iast, ix_alen, ix_aald, ix_gval, ix_gcod, ix_bald, ix_blen, ix_sald, ix_nret, ix_math2, ix_math1, ix_acopy, Nat.add_assoc, Int32.reduceLT, Int32.reduceLE, Int32.reduceToNatClampNeg, Int32.reduceSub, Int32.reduceAdd, Nat.reduceAdd, Nat.reduceLeDiff, true_or, or_true, or_false, false_or, not_false_eq_true, not_true_eq_false, false_implies, true_implies, implies_true, and_self, mB_0, mB_01, Classical.not_not, Nat.zero_le, List.getElem?_cons_zero, List.getElem?_cons_succ, List.set_cons_zero, List.set_cons_succ, ix_nl, ix_cs, true_and, and_true, Option.toList_some, Option.toList_none, List.cons_append, List.nil_append, a1, b1, c1, a2, b2, c2]
  refine ⟨_, pr_wants _ _ μ I _ (fun vv μ1 h => ?_), fun r hr => hr⟩
  refine ⟨Nat.le_of_ble_eq_true rfl, Pst vv, h, fun r hr => ?_⟩
  obtain ⟨r1, r2⟩ := r
  have e : r1 = some (vi vv) := hr.1
  subst e
  exact ⟨fun _ => K _ hr.2, fun z => absurd rfl z⟩
theorem lc_ofWearer (l : Launch) {L : Nat} {xs : Nat → Int32} (H : ix_Mo (tL_0 L xs)) {i : Nat} (hi : i + 6 ≤ L) (hL : L ≤ 3072) (μ : ix_M) (I : Inv μ) (Q : ix_R → Prop) (K : ∀ μ', Inv μ' → ix_Ev (tL_0 L xs) Q (1636, [some (vr 25 0), some (vr 9 0), some (vr 10 112), some (vi (nI i))], [], μ')) : ix_Ev (tL_0 L xs) Q (412, [some (vr 25 0), some (vr 9 0), some (vr 10 112), some (vi (nI i))], [], μ) := by
  obtain ⟨i1, h1⟩ : ∃ j, j = i + 1 := ⟨_, rfl⟩
  have a1 : nI i + 1 = nI i1 := by rw [h1]; exact nI_add i 1
  have b1 : (nI i1).toNatClampNeg = i1 := nI_clamp (by omega)
  have c1 : vp_in (nI i1) L := vp_in_nI (by omega) (by omega)
  simp (decide := true) only [e_L_412 H, e_L_413 H, e_L_414 H, e_L_415 H, e_L_416 H, e_L_417 H, e_L_418 H, e_L_421 H, e_L_422 H, e_L_423 H, e_L_424 H, e_L_425 H, e_L_426 H, e_L_427 H, e_L_430 H, e_L_433 H, e_L_434 H, vi, vl, vr, oc_X10_ofWearer, T_X10_ofWearer, oc_X11_ofWearer, T_X11_ofWearer, ix_xld, ix_xln, ix_push, ix_iload, ix_lload, ix_aload, ix_istore, ix_astore, ix_iinc, ix_bin, ix_div, ix_un, ix_i2l, ix_l2i, ix_lbin, ix_lsh, ix_lcmp, ix_dup, ix_dup2, ix_pop, ix_if, ix_cmp, ix_goto, ix_switch, ix_sw, ix_iret, ix_zret, ix_vret, ix_aret, ix_geti, ix_getr, ix_puti, ix_putz, ix_puts, ix_gets, ix_iald, ix_iast, ix_alen, ix_aald, ix_gval, ix_gcod, ix_bald, ix_blen, ix_sald, ix_nret, ix_math2, ix_math1, ix_acopy, Nat.add_assoc, Int32.reduceLT, Int32.reduceLE, Int32.reduceToNatClampNeg, Int32.reduceSub, Int32.reduceAdd, Nat.reduceAdd, Nat.reduceLeDiff, true_or, or_true, or_false, false_or, not_false_eq_true, not_true_eq_false, false_implies, true_implies, implies_true, and_self, mB_0, mB_01, Classical.not_not, Nat.zero_le, List.getElem?_cons_zero, List.getElem?_cons_succ, List.set_cons_zero, List.set_cons_succ, ix_nl, ix_cs, true_and, and_true, Option.toList_some, Option.toList_none, List.cons_append, List.nil_append, a1, b1, c1]
  refine ⟨_, pr_ofWearer _ μ I _ (fun vv μ1 h => ?_), fun r hr => hr⟩
  refine ⟨Nat.le_of_ble_eq_true rfl, Pst vv, h, fun r hr => ?_⟩
  obtain ⟨r1, r2⟩ := r
  have e : r1 = some (vi vv) := hr.1
  subst e
  exact ⟨fun _ => K _ hr.2, fun z => absurd rfl z⟩
theorem lc_boat (l : Launch) {L : Nat} {xs : Nat → Int32} (H : ix_Mo (tL_0 L xs)) {i : Nat} (hi : i + 6 ≤ L) (hL : L ≤ 3072) (μ : ix_M) (I : Inv μ) (Q : ix_R → Prop) (K : ∀ μ', Inv μ' → ix_Ev (tL_0 L xs) Q (1636, [some (vr 25 0), some (vr 9 0), some (vr 10 112), some (vi (nI i))], [], μ')) : ix_Ev (tL_0 L xs) Q (435, [some (vr 25 0), some (vr 9 0), some (vr 10 112), some (vi (nI i))], [], μ) := by
  obtain ⟨i1, h1⟩ : ∃ j, j = i + 1 := ⟨_, rfl⟩
  have a1 : nI i + 1 = nI i1 := by rw [h1]; exact nI_add i 1
  have b1 : (nI i1).toNatClampNeg = i1 := nI_clamp (by omega)
  have c1 : vp_in (nI i1) L := vp_in_nI (by omega) (by omega)
  obtain ⟨i2, h2⟩ : ∃ j, j = i + 2 := ⟨_, rfl⟩
  have a2 : nI i + 2 = nI i2 := by rw [h2]; exact nI_add i 2
  have b2 : (nI i2).toNatClampNeg = i2 := nI_clamp (by omega)
  have c2 : vp_in (nI i2) L := vp_in_nI (by omega) (by omega)
  simp (decide := true) only [e_L_435 H, e_L_436 H, e_L_437 H, e_L_438 H, e_L_439 H, e_L_440 H, e_L_441 H, e_L_442 H, e_L_443 H, e_L_444 H, e_L_445 H, e_L_446 H, e_L_449 H, e_L_450 H, e_L_451 H, e_L_452 H, e_L_453 H, e_L_454 H, e_L_455 H, e_L_456 H, e_L_457 H, e_L_458 H, e_L_459 H, e_L_460 H, e_L_463 H, e_L_466 H, e_L_467 H, vi, vl, vr, oc_X10_boat, T_X10_boat, oc_X11_boat, T_X11_boat, ix_xld, ix_xln, ix_push, ix_iload, ix_lload, ix_aload, ix_istore, ix_astore, ix_iinc, ix_bin, ix_div, ix_un, ix_i2l, ix_l2i, ix_lbin, ix_lsh, ix_lcmp, ix_dup, ix_dup2, ix_pop, ix_if, ix_cmp, ix_goto, ix_switch, ix_sw, ix_iret, ix_zret, ix_vret, ix_aret, ix_geti, ix_getr, ix_puti, ix_putz, ix_puts, ix_gets, ix_iald, ix_iast, ix_alen, ix_aald, ix_gval, ix_gcod, ix_bald, ix_blen, ix_sald, ix_nret, ix_math2, ix_math1, ix_acopy, Nat.add_assoc, Int32.reduceLT, Int32.reduceLE, Int32.reduceToNatClampNeg, Int32.reduceSub, Int32.reduceAdd, Nat.reduceAdd, Nat.reduceLeDiff, true_or, or_true, or_false, false_or, not_false_eq_true, not_true_eq_false, false_implies, true_implies, implies_true, and_self, mB_0, mB_01, Classical.not_not, Nat.zero_le, List.getElem?_cons_zero, List.getElem?_cons_succ, List.set_cons_zero, List.set_cons_succ, ix_nl, ix_cs, true_and, and_true, Option.toList_some, Option.toList_none, List.cons_append, List.nil_append, a1, b1, c1, a2, b2, c2]
  refine ⟨_, pr_boat _ _ μ I _ (fun vv μ1 h => ?_), fun r hr => hr⟩
  refine ⟨Nat.le_of_ble_eq_true rfl, Pst vv, h, fun r hr => ?_⟩
  obtain ⟨r1, r2⟩ := r
  have e : r1 = some (vi vv) := hr.1
  subst e
  exact ⟨fun _ => K _ hr.2, fun z => absurd rfl z⟩
theorem lc_ofBoat (l : Launch) {L : Nat} {xs : Nat → Int32} (H : ix_Mo (tL_0 L xs)) {i : Nat} (hi : i + 6 ≤ L) (hL : L ≤ 3072) (μ : ix_M) (I : Inv μ) (Q : ix_R → Prop) (K : ∀ μ', Inv μ' → ix_Ev (tL_0 L xs) Q (1636, [some (vr 25 0), some (vr 9 0), some (vr 10 112), some (vi (nI i))], [], μ')) : ix_Ev (tL_0 L xs) Q (468, [some (vr 25 0), some (vr 9 0), some (vr 10 112), some (vi (nI i))], [], μ) := by
  obtain ⟨i1, h1⟩ : ∃ j, j = i + 1 := ⟨_, rfl⟩
  have a1 : nI i + 1 = nI i1 := by rw [h1]; exact nI_add i 1
  have b1 : (nI i1).toNatClampNeg = i1 := nI_clamp (by omega)
  have c1 : vp_in (nI i1) L := vp_in_nI (by omega) (by omega)
  obtain ⟨i2, h2⟩ : ∃ j, j = i + 2 := ⟨_, rfl⟩
  have a2 : nI i + 2 = nI i2 := by rw [h2]; exact nI_add i 2
  have b2 : (nI i2).toNatClampNeg = i2 := nI_clamp (by omega)
  have c2 : vp_in (nI i2) L := vp_in_nI (by omega) (by omega)
  simp (decide := true) only [e_L_468 H, e_L_469 H, e_L_470 H, e_L_471 H, e_L_472 H, e_L_473 H, e_L_474 H, e_L_475 H, e_L_476 H, e_L_477 H, e_L_478 H, e_L_479 H, e_L_482 H, e_L_483 H, e_L_484 H, e_L_485 H, e_L_486 H, e_L_487 H, e_L_488 H, e_L_489 H, e_L_490 H, e_L_491 H, e_L_492 H, e_L_493 H, e_L_496 H, e_L_499 H, e_L_500 H, vi, vl, vr, oc_X10_ofBoat, T_X10_ofBoat, oc_X11_ofBoat, T_X11_ofBoat, ix_xld, ix_xln, ix_push, ix_iload, ix_lload, ix_aload, ix_istore, ix_astore, ix_iinc, ix_bin, ix_div, ix_un, ix_i2l, ix_l2i, ix_lbin, ix_lsh, ix_lcmp, ix_dup, ix_dup2, ix_pop, ix_if, ix_cmp, ix_goto, ix_switch, ix_sw, ix_iret, ix_zret, ix_vret, ix_aret, ix_geti, ix_getr, ix_puti, ix_putz, ix_puts, ix_gets, ix_iald, ix_iast, ix_alen, ix_aald, ix_gval, ix_gcod, ix_bald, ix_blen, ix_sald, ix_nret, ix_math2, ix_math1, ix_acopy, Nat.add_assoc, Int32.reduceLT, Int32.reduceLE, Int32.reduceToNatClampNeg, Int32.reduceSub, Int32.reduceAdd, Nat.reduceAdd, Nat.reduceLeDiff, true_or, or_true, or_false, false_or, not_false_eq_true, not_true_eq_false, false_implies, true_implies, implies_true, and_self, mB_0, mB_01, Classical.not_not, Nat.zero_le, List.getElem?_cons_zero, List.getElem?_cons_succ, List.set_cons_zero, List.set_cons_succ, ix_nl, ix_cs, true_and, and_true, Option.toList_some, Option.toList_none, List.cons_append, List.nil_append, a1, b1, c1, a2, b2, c2]
  refine ⟨_, pr_ofBoat _ _ μ I _ (fun vv μ1 h => ?_), fun r hr => hr⟩
  refine ⟨Nat.le_of_ble_eq_true rfl, Pst vv, h, fun r hr => ?_⟩
  obtain ⟨r1, r2⟩ := r
  have e : r1 = some (vi vv) := hr.1
  subst e
  exact ⟨fun _ => K _ hr.2, fun z => absurd rfl z⟩
theorem lc_change (l : Launch) {L : Nat} {xs : Nat → Int32} (H : ix_Mo (tL_0 L xs)) {i : Nat} (hi : i + 6 ≤ L) (hL : L ≤ 3072) (μ : ix_M) (I : Inv μ) (Q : ix_R → Prop) (K : ∀ μ', Inv μ' → ix_Ev (tL_0 L xs) Q (1636, [some (vr 25 0), some (vr 9 0), some (vr 10 112), some (vi (nI i))], [], μ')) : ix_Ev (tL_0 L xs) Q (501, [some (vr 25 0), some (vr 9 0), some (vr 10 112), some (vi (nI i))], [], μ) := by
  obtain ⟨i1, h1⟩ : ∃ j, j = i + 1 := ⟨_, rfl⟩
  have a1 : nI i + 1 = nI i1 := by rw [h1]; exact nI_add i 1
  have b1 : (nI i1).toNatClampNeg = i1 := nI_clamp (by omega)
  have c1 : vp_in (nI i1) L := vp_in_nI (by omega) (by omega)
  obtain ⟨i2, h2⟩ : ∃ j, j = i + 2 := ⟨_, rfl⟩
  have a2 : nI i + 2 = nI i2 := by rw [h2]; exact nI_add i 2
  have b2 : (nI i2).toNatClampNeg = i2 := nI_clamp (by omega)
  have c2 : vp_in (nI i2) L := vp_in_nI (by omega) (by omega)
  obtain ⟨i3, h3⟩ : ∃ j, j = i + 3 := ⟨_, rfl⟩
  have a3 : nI i + 3 = nI i3 := by rw [h3]; exact nI_add i 3
  have b3 : (nI i3).toNatClampNeg = i3 := nI_clamp (by omega)
  have c3 : vp_in (nI i3) L := vp_in_nI (by omega) (by omega)
  simp (decide := true) only [e_L_501 H, e_L_502 H, e_L_503 H, e_L_504 H, e_L_505 H, e_L_506 H, e_L_507 H, e_L_508 H, e_L_509 H, e_L_510 H, e_L_511 H, e_L_512 H, e_L_513 H, e_L_514 H, e_L_515 H, e_L_516 H, e_L_517 H, e_L_520 H, e_L_521 H, e_L_522 H, e_L_523 H, e_L_524 H, e_L_525 H, e_L_526 H, e_L_527 H, e_L_528 H, e_L_529 H, e_L_530 H, e_L_531 H, e_L_532 H, e_L_533 H, e_L_534 H, e_L_535 H, e_L_536 H, e_L_539 H, e_L_542 H, e_L_543 H, vi, vl, vr, oc_X10_change, T_X10_change, oc_X11_change, T_X11_change, ix_xld, ix_xln, ix_push, ix_iload, ix_lload, ix_aload, ix_istore, ix_astore, ix_iinc, ix_bin, ix_div, ix_un, ix_i2l, ix_l2i, ix_lbin, ix_lsh, ix_lcmp, ix_dup, ix_dup2, ix_pop, ix_if, ix_cmp, ix_goto, ix_switch, ix_sw, ix_iret, ix_zret, ix_vret, ix_aret, ix_geti, ix_getr, ix_puti, ix_putz, ix_puts, ix_gets, ix_iald, ix_iast, ix_alen, ix_aald, ix_gval, ix_gcod, ix_bald, ix_blen, ix_sald, ix_nret, ix_math2, ix_math1, ix_acopy, Nat.add_assoc, Int32.reduceLT, Int32.reduceLE, Int32.reduceToNatClampNeg, Int32.reduceSub, Int32.reduceAdd, Nat.reduceAdd, Nat.reduceLeDiff, true_or, or_true, or_false, false_or, not_false_eq_true, not_true_eq_false, false_implies, true_implies, implies_true, and_self, mB_0, mB_01, Classical.not_not, Nat.zero_le, List.getElem?_cons_zero, List.getElem?_cons_succ, List.set_cons_zero, List.set_cons_succ, ix_nl, ix_cs, true_and, and_true, Option.toList_some, Option.toList_none, List.cons_append, List.nil_append, a1, b1, c1, a2, b2, c2, a3, b3, c3]
  refine ⟨_, pr_change _ _ _ μ I _ (fun vv μ1 h => ?_), fun r hr => hr⟩
  refine ⟨Nat.le_of_ble_eq_true rfl, Pst vv, h, fun r hr => ?_⟩
  obtain ⟨r1, r2⟩ := r
  have e : r1 = some (vi vv) := hr.1
  subst e
  exact ⟨fun _ => K _ hr.2, fun z => absurd rfl z⟩
theorem lc_become (l : Launch) {L : Nat} {xs : Nat → Int32} (H : ix_Mo (tL_0 L xs)) {i : Nat} (hi : i + 6 ≤ L) (hL : L ≤ 3072) (μ : ix_M) (I : Inv μ) (Q : ix_R → Prop) (K : ∀ μ', Inv μ' → ix_Ev (tL_0 L xs) Q (1636, [some (vr 25 0), some (vr 9 0), some (vr 10 112), some (vi (nI i))], [], μ')) : ix_Ev (tL_0 L xs) Q (544, [some (vr 25 0), some (vr 9 0), some (vr 10 112), some (vi (nI i))], [], μ) := by
  obtain ⟨i1, h1⟩ : ∃ j, j = i + 1 := ⟨_, rfl⟩
  have a1 : nI i + 1 = nI i1 := by rw [h1]; exact nI_add i 1
  have b1 : (nI i1).toNatClampNeg = i1 := nI_clamp (by omega)
  have c1 : vp_in (nI i1) L := vp_in_nI (by omega) (by omega)
  obtain ⟨i2, h2⟩ : ∃ j, j = i + 2 := ⟨_, rfl⟩
  have a2 : nI i + 2 = nI i2 := by rw [h2]; exact nI_add i 2
  have b2 : (nI i2).toNatClampNeg = i2 := nI_clamp (by omega)
  have c2 : vp_in (nI i2) L := vp_in_nI (by omega) (by omega)
  simp (decide := true) only [e_L_544 H, e_L_545 H, e_L_546 H, e_L_547 H, e_L_548 H, e_L_549 H, e_L_550 H, e_L_551 H, e_L_552 H, e_L_553 H, e_L_554 H, e_L_555 H, e_L_558 H, e_L_559 H, e_L_560 H, e_L_561 H, e_L_562 H, e_L_563 H, e_L_564 H, e_L_565 H, e_L_566 H, e_L_567 H, e_L_568 H, e_L_569 H, e_L_572 H, e_L_575 H, e_L_576 H, vi, vl, vr, oc_X10_become, T_X10_become, oc_X11_become, T_X11_become, ix_xld, ix_xln, ix_push, ix_iload, ix_lload, ix_aload, ix_istore, ix_astore, ix_iinc, ix_bin, ix_div, ix_un, ix_i2l, ix_l2i, ix_lbin, ix_lsh, ix_lcmp, ix_dup, ix_dup2, ix_pop, ix_if, ix_cmp, ix_goto, ix_switch, ix_sw, ix_iret, ix_zret, ix_vret, ix_aret, ix_geti, ix_getr, ix_puti, ix_putz, ix_puts, ix_gets, ix_iald, ix_iast, ix_alen, ix_aald, ix_gval, ix_gcod, ix_bald, ix_blen, ix_sald, ix_nret, ix_math2, ix_math1, ix_acopy, Nat.add_assoc, Int32.reduceLT, Int32.reduceLE, Int32.reduceToNatClampNeg, Int32.reduceSub, Int32.reduceAdd, Nat.reduceAdd, Nat.reduceLeDiff, true_or, or_true, or_false, false_or, not_false_eq_true, not_true_eq_false, false_implies, true_implies, implies_true, and_self, mB_0, mB_01, Classical.not_not, Nat.zero_le, List.getElem?_cons_zero, List.getElem?_cons_succ, List.set_cons_zero, List.set_cons_succ, ix_nl, ix_cs, true_and, and_true, Option.toList_some, Option.toList_none, List.cons_append, List.nil_append, a1, b1, c1, a2, b2, c2]
  refine ⟨_, pr_become _ _ μ I _ (fun vv μ1 h => ?_), fun r hr => hr⟩
  refine ⟨Nat.le_of_ble_eq_true rfl, Pst vv, h, fun r hr => ?_⟩
  obtain ⟨r1, r2⟩ := r
  have e : r1 = some (vi vv) := hr.1
  subst e
  exact ⟨fun _ => K _ hr.2, fun z => absurd rfl z⟩
theorem lc_as (l : Launch) {L : Nat} {xs : Nat → Int32} (H : ix_Mo (tL_0 L xs)) {i : Nat} (hi : i + 6 ≤ L) (hL : L ≤ 3072) (μ : ix_M) (I : Inv μ) (Q : ix_R → Prop) (K : ∀ μ', Inv μ' → ix_Ev (tL_0 L xs) Q (1636, [some (vr 25 0), some (vr 9 0), some (vr 10 112), some (vi (nI i))], [], μ')) : ix_Ev (tL_0 L xs) Q (577, [some (vr 25 0), some (vr 9 0), some (vr 10 112), some (vi (nI i))], [], μ) := by
  obtain ⟨i1, h1⟩ : ∃ j, j = i + 1 := ⟨_, rfl⟩
  have a1 : nI i + 1 = nI i1 := by rw [h1]; exact nI_add i 1
  have b1 : (nI i1).toNatClampNeg = i1 := nI_clamp (by omega)
  have c1 : vp_in (nI i1) L := vp_in_nI (by omega) (by omega)
  obtain ⟨i2, h2⟩ : ∃ j, j = i + 2 := ⟨_, rfl⟩
  have a2 : nI i + 2 = nI i2 := by rw [h2]; exact nI_add i 2
  have b2 : (nI i2).toNatClampNeg = i2 := nI_clamp (by omega)
  have c2 : vp_in (nI i2) L := vp_in_nI (by omega) (by omega)
  simp (decide := true) only [e_L_577 H, e_L_578 H, e_L_579 H, e_L_580 H, e_L_581 H, e_L_582 H, e_L_583 H, e_L_584 H, e_L_585 H, e_L_586 H, e_L_587 H, e_L_588 H, e_L_591 H, e_L_592 H, e_L_593 H, e_L_594 H, e_L_595 H, e_L_596 H, e_L_597 H, e_L_598 H, e_L_599 H, e_L_600 H, e_L_601 H, e_L_602 H, e_L_605 H, e_L_608 H, e_L_609 H, vi, vl, vr, oc_X10_as, T_X10_as, oc_X11_as, T_X11_as, ix_xld, ix_xln, ix_push, ix_iload, ix_lload, ix_aload, ix_istore, ix_astore, ix_iinc, ix_bin, ix_div, ix_un, ix_i2l, ix_l2i, ix_lbin, ix_lsh, ix_lcmp, ix_dup, ix_dup2, ix_pop, ix_if, ix_cmp, ix_goto, ix_switch, ix_sw, ix_iret, ix_zret, ix_vret, ix_aret, ix_geti, ix_getr, ix_puti, ix_putz, ix_puts, ix_gets, ix_iald, ix_iast, ix_alen, ix_aald, ix_gval, ix_gcod, ix_bald, ix_blen, ix_sald, ix_nret, ix_math2, ix_math1, ix_acopy, Nat.add_assoc, Int32.reduceLT, Int32.reduceLE, Int32.reduceToNatClampNeg, Int32.reduceSub, Int32.reduceAdd, Nat.reduceAdd, Nat.reduceLeDiff, true_or, or_true, or_false, false_or, not_false_eq_true, not_true_eq_false, false_implies, true_implies, implies_true, and_self, mB_0, mB_01, Classical.not_not, Nat.zero_le, List.getElem?_cons_zero, List.getElem?_cons_succ, List.set_cons_zero, List.set_cons_succ, ix_nl, ix_cs, true_and, and_true, Option.toList_some, Option.toList_none, List.cons_append, List.nil_append, a1, b1, c1, a2, b2, c2]
  refine ⟨_, pr_as _ _ μ I _ (fun vv μ1 h => ?_), fun r hr => hr⟩
  refine ⟨Nat.le_of_ble_eq_true rfl, Pst vv, h, fun r hr => ?_⟩
  obtain ⟨r1, r2⟩ := r
  have e : r1 = some (vi vv) := hr.1
  subst e
  exact ⟨fun _ => K _ hr.2, fun z => absurd rfl z⟩
theorem lc_feed (l : Launch) {L : Nat} {xs : Nat → Int32} (H : ix_Mo (tL_0 L xs)) {i : Nat} (hi : i + 6 ≤ L) (hL : L ≤ 3072) (μ : ix_M) (I : Inv μ) (Q : ix_R → Prop) (K : ∀ μ', Inv μ' → ix_Ev (tL_0 L xs) Q (1636, [some (vr 25 0), some (vr 9 0), some (vr 10 112), some (vi (nI i))], [], μ')) : ix_Ev (tL_0 L xs) Q (610, [some (vr 25 0), some (vr 9 0), some (vr 10 112), some (vi (nI i))], [], μ) := by
  obtain ⟨i1, h1⟩ : ∃ j, j = i + 1 := ⟨_, rfl⟩
  have a1 : nI i + 1 = nI i1 := by rw [h1]; exact nI_add i 1
  have b1 : (nI i1).toNatClampNeg = i1 := nI_clamp (by omega)
  have c1 : vp_in (nI i1) L := vp_in_nI (by omega) (by omega)
  obtain ⟨i2, h2⟩ : ∃ j, j = i + 2 := ⟨_, rfl⟩
  have a2 : nI i + 2 = nI i2 := by rw [h2]; exact nI_add i 2
  have b2 : (nI i2).toNatClampNeg = i2 := nI_clamp (by omega)
  have c2 : vp_in (nI i2) L := vp_in_nI (by omega) (by omega)
  obtain ⟨i3, h3⟩ : ∃ j, j = i + 3 := ⟨_, rfl⟩
  have a3 : nI i + 3 = nI i3 := by rw [h3]; exact nI_add i 3
  have b3 : (nI i3).toNatClampNeg = i3 := nI_clamp (by omega)
  have c3 : vp_in (nI i3) L := vp_in_nI (by omega) (by omega)
  simp (decide := true) only [e_L_610 H, e_L_611 H, e_L_612 H, e_L_613 H, e_L_614 H, e_L_615 H, e_L_616 H, e_L_617 H, e_L_619 H, e_L_620 H, e_L_621 H, e_L_622 H, e_L_623 H, e_L_624 H, e_L_625 H, e_L_626 H, e_L_629 H, e_L_630 H, e_L_631 H, e_L_632 H, e_L_633 H, e_L_634 H, e_L_635 H, e_L_636 H, e_L_639 H, e_L_640 H, e_L_641 H, e_L_642 H, e_L_643 H, e_L_644 H, e_L_645 H, e_L_646 H, e_L_648 H, e_L_649 H, e_L_650 H, e_L_651 H, e_L_652 H, e_L_653 H, e_L_654 H, e_L_655 H, e_L_658 H, e_L_659 H, e_L_660 H, e_L_661 H, e_L_662 H, e_L_663 H, e_L_664 H, e_L_665 H, e_L_668 H, e_L_671 H, e_L_672 H, vi, vl, vr, oc_X10_feed, T_X10_feed, oc_X11_feed, T_X11_feed, ix_xld, ix_xln, ix_push, ix_iload, ix_lload, ix_aload, ix_istore, ix_astore, ix_iinc, ix_bin, ix_div, ix_un, ix_i2l, ix_l2i, ix_lbin, ix_lsh, ix_lcmp, ix_dup, ix_dup2, ix_pop, ix_if, ix_cmp, ix_goto, ix_switch, ix_sw, ix_iret, ix_zret, ix_vret, ix_aret, ix_geti, ix_getr, ix_puti, ix_putz, ix_puts, ix_gets, ix_iald, ix_iast, ix_alen, ix_aald, ix_gval, ix_gcod, ix_bald, ix_blen, ix_sald, ix_nret, ix_math2, ix_math1, ix_acopy, Nat.add_assoc, Int32.reduceLT, Int32.reduceLE, Int32.reduceToNatClampNeg, Int32.reduceSub, Int32.reduceAdd, Nat.reduceAdd, Nat.reduceLeDiff, true_or, or_true, or_false, false_or, not_false_eq_true, not_true_eq_false, false_implies, true_implies, implies_true, and_self, mB_0, mB_01, Classical.not_not, Nat.zero_le, List.getElem?_cons_zero, List.getElem?_cons_succ, List.set_cons_zero, List.set_cons_succ, ix_nl, ix_cs, true_and, and_true, Option.toList_some, Option.toList_none, List.cons_append, List.nil_append, a1, b1, c1, a2, b2, c2, a3, b3, c3]
  refine ⟨_, pr_feed _ _ μ I _ (fun vv μ1 h => ?_), fun r hr => hr⟩
  refine ⟨Nat.le_of_ble_eq_true rfl, Pst vv, h, fun r hr => ?_⟩
  obtain ⟨r1, r2⟩ := r
  have e : r1 = some (vi vv) := hr.1
  subst e
  exact ⟨fun _ => K _ hr.2, fun z => absurd rfl z⟩
theorem lc_text (l : Launch) {L : Nat} {xs : Nat → Int32} (H : ix_Mo (tL_0 L xs)) {i : Nat} (hi : i + 6 ≤ L) (hL : L ≤ 3072) (μ : ix_M) (I : Inv μ) (Q : ix_R → Prop) (K : ∀ μ', Inv μ' → ix_Ev (tL_0 L xs) Q (1636, [some (vr 25 0), some (vr 9 0), some (vr 10 112), some (vi (nI i))], [], μ')) : ix_Ev (tL_0 L xs) Q (673, [some (vr 25 0), some (vr 9 0), some (vr 10 112), some (vi (nI i))], [], μ) := by
  obtain ⟨i1, h1⟩ : ∃ j, j = i + 1 := ⟨_, rfl⟩
  have a1 : nI i + 1 = nI i1 := by rw [h1]; exact nI_add i 1
  have b1 : (nI i1).toNatClampNeg = i1 := nI_clamp (by omega)
  have c1 : vp_in (nI i1) L := vp_in_nI (by omega) (by omega)
  simp (decide := true) only [e_L_673 H, e_L_674 H, e_L_675 H, e_L_676 H, e_L_677 H, e_L_678 H, e_L_679 H, e_L_682 H, e_L_683 H, e_L_684 H, e_L_685 H, e_L_686 H, e_L_687 H, e_L_688 H, e_L_691 H, e_L_694 H, e_L_695 H, vi, vl, vr, oc_X10_text, T_X10_text, oc_X11_text, T_X11_text, ix_xld, ix_xln, ix_push, ix_iload, ix_lload, ix_aload, ix_istore, ix_astore, ix_iinc, ix_bin, ix_div, ix_un, ix_i2l, ix_l2i, ix_lbin, ix_lsh, ix_lcmp, ix_dup, ix_dup2, ix_pop, ix_if, ix_cmp, ix_goto, ix_switch, ix_sw, ix_iret, ix_zret, ix_vret, ix_aret, ix_geti, ix_getr, ix_puti, ix_putz, ix_puts, ix_gets, ix_iald, ix_iast, ix_alen, ix_aald, ix_gval, ix_gcod, ix_bald, ix_blen, ix_sald, ix_nret, ix_math2, ix_math1, ix_acopy, Nat.add_assoc, Int32.reduceLT, Int32.reduceLE, Int32.reduceToNatClampNeg, Int32.reduceSub, Int32.reduceAdd, Nat.reduceAdd, Nat.reduceLeDiff, true_or, or_true, or_false, false_or, not_false_eq_true, not_true_eq_false, false_implies, true_implies, implies_true, and_self, mB_0, mB_01, Classical.not_not, Nat.zero_le, List.getElem?_cons_zero, List.getElem?_cons_succ, List.set_cons_zero, List.set_cons_succ, ix_nl, ix_cs, true_and, and_true, Option.toList_some, Option.toList_none, List.cons_append, List.nil_append, a1, b1, c1]
  refine ⟨_, pr_text _ μ I _ (fun vv μ1 h => ?_), fun r hr => hr⟩
  refine ⟨Nat.le_of_ble_eq_true rfl, Pst vv, h, fun r hr => ?_⟩
  obtain ⟨r1, r2⟩ := r
  have e : r1 = some (vi vv) := hr.1
  subst e
  exact ⟨fun _ => K _ hr.2, fun z => absurd rfl z⟩
theorem lc_law (l : Launch) {L : Nat} {xs : Nat → Int32} (H : ix_Mo (tL_0 L xs)) {i : Nat} (hi : i + 6 ≤ L) (hL : L ≤ 3072) (μ : ix_M) (I : Inv μ) (Q : ix_R → Prop) (K : ∀ μ', Inv μ' → ix_Ev (tL_0 L xs) Q (1636, [some (vr 25 0), some (vr 9 0), some (vr 10 112), some (vi (nI i))], [], μ')) : ix_Ev (tL_0 L xs) Q (696, [some (vr 25 0), some (vr 9 0), some (vr 10 112), some (vi (nI i))], [], μ) := by
  obtain ⟨i1, h1⟩ : ∃ j, j = i + 1 := ⟨_, rfl⟩
  have a1 : nI i + 1 = nI i1 := by rw [h1]; exact nI_add i 1
  have b1 : (nI i1).toNatClampNeg = i1 := nI_clamp (by omega)
  have c1 : vp_in (nI i1) L := vp_in_nI (by omega) (by omega)
  obtain ⟨i2, h2⟩ : ∃ j, j = i + 2 := ⟨_, rfl⟩
  have a2 : nI i + 2 = nI i2 := by rw [h2]; exact nI_add i 2
  have b2 : (nI i2).toNatClampNeg = i2 := nI_clamp (by omega)
  have c2 : vp_in (nI i2) L := vp_in_nI (by omega) (by omega)
  obtain ⟨i3, h3⟩ : ∃ j, j = i + 3 := ⟨_, rfl⟩
  have a3 : nI i + 3 = nI i3 := by rw [h3]; exact nI_add i 3
  have b3 : (nI i3).toNatClampNeg = i3 := nI_clamp (by omega)
  have c3 : vp_in (nI i3) L := vp_in_nI (by omega) (by omega)
  obtain ⟨i4, h4⟩ : ∃ j, j = i + 4 := ⟨_, rfl⟩
  have a4 : nI i + 4 = nI i4 := by rw [h4]; exact nI_add i 4
  have b4 : (nI i4).toNatClampNeg = i4 := nI_clamp (by omega)
  have c4 : vp_in (nI i4) L := vp_in_nI (by omega) (by omega)
  simp (decide := true) only [e_L_696 H, e_L_697 H, e_L_698 H, e_L_699 H, e_L_700 H, e_L_701 H, e_L_702 H, e_L_703 H, e_L_704 H, e_L_705 H, e_L_706 H, e_L_707 H, e_L_708 H, e_L_709 H, e_L_710 H, e_L_711 H, e_L_712 H, e_L_713 H, e_L_714 H, e_L_715 H, e_L_716 H, e_L_717 H, e_L_720 H, e_L_721 H, e_L_722 H, e_L_723 H, e_L_724 H, e_L_725 H, e_L_726 H, e_L_727 H, e_L_728 H, e_L_729 H, e_L_730 H, e_L_731 H, e_L_732 H, e_L_733 H, e_L_734 H, e_L_735 H, e_L_736 H, e_L_737 H, e_L_738 H, e_L_739 H, e_L_740 H, e_L_741 H, e_L_744 H, e_L_747 H, e_L_748 H, vi, vl, vr, oc_X10_law, T_X10_law, oc_X11_law, T_X11_law, ix_xld, ix_xln, ix_push, ix_iload, ix_lload, ix_aload, ix_istore, ix_astore, ix_iinc, ix_bin, ix_div, ix_un, ix_i2l, ix_l2i, ix_lbin, ix_lsh, ix_lcmp, ix_dup, ix_dup2, ix_pop, ix_if, ix_cmp, ix_goto, ix_switch, ix_sw, ix_iret, ix_zret, ix_vret, ix_aret, ix_geti, ix_getr, ix_puti, ix_putz, ix_puts, ix_gets, ix_iald, ix_iast, ix_alen, ix_aald, ix_gval, ix_gcod, ix_bald, ix_blen, ix_sald, ix_nret, ix_math2, ix_math1, ix_acopy, Nat.add_assoc, Int32.reduceLT, Int32.reduceLE, Int32.reduceToNatClampNeg, Int32.reduceSub, Int32.reduceAdd, Nat.reduceAdd, Nat.reduceLeDiff, true_or, or_true, or_false, false_or, not_false_eq_true, not_true_eq_false, false_implies, true_implies, implies_true, and_self, mB_0, mB_01, Classical.not_not, Nat.zero_le, List.getElem?_cons_zero, List.getElem?_cons_succ, List.set_cons_zero, List.set_cons_succ, ix_nl, ix_cs, true_and, and_true, Option.toList_some, Option.toList_none, List.cons_append, List.nil_append, a1, b1, c1, a2, b2, c2, a3, b3, c3, a4, b4, c4]
  refine ⟨_, pr_law _ _ _ _ μ I _ (fun vv μ1 h => ?_), fun r hr => hr⟩
  refine ⟨Nat.le_of_ble_eq_true rfl, Pst vv, h, fun r hr => ?_⟩
  obtain ⟨r1, r2⟩ := r
  have e : r1 = some (vi vv) := hr.1
  subst e
  exact ⟨fun _ => K _ hr.2, fun z => absurd rfl z⟩
theorem lc_minutes (l : Launch) {L : Nat} {xs : Nat → Int32} (H : ix_Mo (tL_0 L xs)) {i : Nat} (hi : i + 6 ≤ L) (hL : L ≤ 3072) (μ : ix_M) (I : Inv μ) (Q : ix_R → Prop) (K : ∀ μ', Inv μ' → ix_Ev (tL_0 L xs) Q (1636, [some (vr 25 0), some (vr 9 0), some (vr 10 112), some (vi (nI i))], [], μ')) : ix_Ev (tL_0 L xs) Q (749, [some (vr 25 0), some (vr 9 0), some (vr 10 112), some (vi (nI i))], [], μ) := by
  obtain ⟨i1, h1⟩ : ∃ j, j = i + 1 := ⟨_, rfl⟩
  have a1 : nI i + 1 = nI i1 := by rw [h1]; exact nI_add i 1
  have b1 : (nI i1).toNatClampNeg = i1 := nI_clamp (by omega)
  have c1 : vp_in (nI i1) L := vp_in_nI (by omega) (by omega)
  simp (decide := true) only [e_L_749 H, e_L_750 H, e_L_751 H, e_L_752 H, e_L_753 H, e_L_754 H, e_L_755 H, e_L_758 H, e_L_759 H, e_L_760 H, e_L_761 H, e_L_762 H, e_L_763 H, e_L_764 H, e_L_767 H, e_L_770 H, e_L_771 H, vi, vl, vr, oc_X10_minutes, T_X10_minutes, oc_X11_minutes, T_X11_minutes, ix_xld, ix_xln, ix_push, ix_iload, ix_lload, ix_aload, ix_istore, ix_astore, ix_iinc, ix_bin, ix_div, ix_un, ix_i2l, ix_l2i, ix_lbin, ix_lsh, ix_lcmp, ix_dup, ix_dup2, ix_pop, ix_if, ix_cmp, ix_goto, ix_switch, ix_sw, ix_iret, ix_zret, ix_vret, ix_aret, ix_geti, ix_getr, ix_puti, ix_putz, ix_puts, ix_gets, ix_iald, ix_iast, ix_alen, ix_aald, ix_gval, ix_gcod, ix_bald, ix_blen, ix_sald, ix_nret, ix_math2, ix_math1, ix_acopy, Nat.add_assoc, Int32.reduceLT, Int32.reduceLE, Int32.reduceToNatClampNeg, Int32.reduceSub, Int32.reduceAdd, Nat.reduceAdd, Nat.reduceLeDiff, true_or, or_true, or_false, false_or, not_false_eq_true, not_true_eq_false, false_implies, true_implies, implies_true, and_self, mB_0, mB_01, Classical.not_not, Nat.zero_le, List.getElem?_cons_zero, List.getElem?_cons_succ, List.set_cons_zero, List.set_cons_succ, ix_nl, ix_cs, true_and, and_true, Option.toList_some, Option.toList_none, List.cons_append, List.nil_append, a1, b1, c1]
  refine ⟨_, pr_minutes _ μ I _ (fun vv μ1 h => ?_), fun r hr => hr⟩
  refine ⟨Nat.le_of_ble_eq_true rfl, Pst vv, h, fun r hr => ?_⟩
  obtain ⟨r1, r2⟩ := r
  have e : r1 = some (vi vv) := hr.1
  subst e
  exact ⟨fun _ => K _ hr.2, fun z => absurd rfl z⟩
theorem lc_loose (l : Launch) {L : Nat} {xs : Nat → Int32} (H : ix_Mo (tL_0 L xs)) {i : Nat} (hi : i + 6 ≤ L) (hL : L ≤ 3072) (μ : ix_M) (I : Inv μ) (Q : ix_R → Prop) (K : ∀ μ', Inv μ' → ix_Ev (tL_0 L xs) Q (1636, [some (vr 25 0), some (vr 9 0), some (vr 10 112), some (vi (nI i))], [], μ')) : ix_Ev (tL_0 L xs) Q (772, [some (vr 25 0), some (vr 9 0), some (vr 10 112), some (vi (nI i))], [], μ) := by
  obtain ⟨i1, h1⟩ : ∃ j, j = i + 1 := ⟨_, rfl⟩
  have a1 : nI i + 1 = nI i1 := by rw [h1]; exact nI_add i 1
  have b1 : (nI i1).toNatClampNeg = i1 := nI_clamp (by omega)
  have c1 : vp_in (nI i1) L := vp_in_nI (by omega) (by omega)
  simp (decide := true) only [e_L_772 H, e_L_773 H, e_L_774 H, e_L_775 H, e_L_776 H, e_L_777 H, e_L_778 H, e_L_781 H, e_L_782 H, e_L_783 H, e_L_784 H, e_L_785 H, e_L_786 H, e_L_787 H, e_L_790 H, e_L_793 H, e_L_794 H, vi, vl, vr, oc_X10_loose, T_X10_loose, oc_X11_loose, T_X11_loose, ix_xld, ix_xln, ix_push, ix_iload, ix_lload, ix_aload, ix_istore, ix_astore, ix_iinc, ix_bin, ix_div, ix_un, ix_i2l, ix_l2i, ix_lbin, ix_lsh, ix_lcmp, ix_dup, ix_dup2, ix_pop, ix_if, ix_cmp, ix_goto, ix_switch, ix_sw, ix_iret, ix_zret, ix_vret, ix_aret, ix_geti, ix_getr, ix_puti, ix_putz, ix_puts, ix_gets, ix_iald, ix_iast, ix_alen, ix_aald, ix_gval, ix_gcod, ix_bald, ix_blen, ix_sald, ix_nret, ix_math2, ix_math1, ix_acopy, Nat.add_assoc, Int32.reduceLT, Int32.reduceLE, Int32.reduceToNatClampNeg, Int32.reduceSub, Int32.reduceAdd, Nat.reduceAdd, Nat.reduceLeDiff, true_or, or_true, or_false, false_or, not_false_eq_true, not_true_eq_false, false_implies, true_implies, implies_true, and_self, mB_0, mB_01, Classical.not_not, Nat.zero_le, List.getElem?_cons_zero, List.getElem?_cons_succ, List.set_cons_zero, List.set_cons_succ, ix_nl, ix_cs, true_and, and_true, Option.toList_some, Option.toList_none, List.cons_append, List.nil_append, a1, b1, c1]
  refine ⟨_, pr_loose _ μ I _ (fun vv μ1 h => ?_), fun r hr => hr⟩
  refine ⟨Nat.le_of_ble_eq_true rfl, Pst vv, h, fun r hr => ?_⟩
  obtain ⟨r1, r2⟩ := r
  have e : r1 = some (vi vv) := hr.1
  subst e
  exact ⟨fun _ => K _ hr.2, fun z => absurd rfl z⟩
theorem lc_then (l : Launch) {L : Nat} {xs : Nat → Int32} (H : ix_Mo (tL_0 L xs)) {i : Nat} (hi : i + 6 ≤ L) (hL : L ≤ 3072) (μ : ix_M) (I : Inv μ) (Q : ix_R → Prop) (K : ∀ μ', Inv μ' → ix_Ev (tL_0 L xs) Q (1636, [some (vr 25 0), some (vr 9 0), some (vr 10 112), some (vi (nI i))], [], μ')) : ix_Ev (tL_0 L xs) Q (795, [some (vr 25 0), some (vr 9 0), some (vr 10 112), some (vi (nI i))], [], μ) := by
  obtain ⟨i1, h1⟩ : ∃ j, j = i + 1 := ⟨_, rfl⟩
  have a1 : nI i + 1 = nI i1 := by rw [h1]; exact nI_add i 1
  have b1 : (nI i1).toNatClampNeg = i1 := nI_clamp (by omega)
  have c1 : vp_in (nI i1) L := vp_in_nI (by omega) (by omega)
  obtain ⟨i2, h2⟩ : ∃ j, j = i + 2 := ⟨_, rfl⟩
  have a2 : nI i + 2 = nI i2 := by rw [h2]; exact nI_add i 2
  have b2 : (nI i2).toNatClampNeg = i2 := nI_clamp (by omega)
  have c2 : vp_in (nI i2) L := vp_in_nI (by omega) (by omega)
  simp (decide := true) only [e_L_795 H, e_L_796 H, e_L_797 H, e_L_798 H, e_L_799 H, e_L_800 H, e_L_801 H, e_L_802 H, e_L_803 H, e_L_804 H, e_L_805 H, e_L_806 H, e_L_809 H, e_L_810 H, e_L_811 H, e_L_812 H, e_L_813 H, e_L_814 H, e_L_815 H, e_L_816 H, e_L_817 H, e_L_818 H, e_L_819 H, e_L_820 H, e_L_823 H, e_L_826 H, e_L_827 H, vi, vl, vr, oc_X10_then, T_X10_then, oc_X11_then, T_X11_then, ix_xld, ix_xln, ix_push, ix_iload, ix_lload, ix_aload, ix_istore, ix_astore, ix_iinc, ix_bin, ix_div, ix_un, ix_i2l, ix_l2i, ix_lbin, ix_lsh, ix_lcmp, ix_dup, ix_dup2, ix_pop, ix_if, ix_cmp, ix_goto, ix_switch, ix_sw, ix_iret, ix_zret, ix_vret, ix_aret, ix_geti, ix_getr, ix_puti, ix_putz, ix_puts, ix_gets, ix_iald, ix_iast, ix_alen, ix_aald, ix_gval, ix_gcod, ix_bald, ix_blen, ix_sald, ix_nret, ix_math2, ix_math1, ix_acopy, Nat.add_assoc, Int32.reduceLT, Int32.reduceLE, Int32.reduceToNatClampNeg, Int32.reduceSub, Int32.reduceAdd, Nat.reduceAdd, Nat.reduceLeDiff, true_or, or_true, or_false, false_or, not_false_eq_true, not_true_eq_false, false_implies, true_implies, implies_true, and_self, mB_0, mB_01, Classical.not_not, Nat.zero_le, List.getElem?_cons_zero, List.getElem?_cons_succ, List.set_cons_zero, List.set_cons_succ, ix_nl, ix_cs, true_and, and_true, Option.toList_some, Option.toList_none, List.cons_append, List.nil_append, a1, b1, c1, a2, b2, c2]
  refine ⟨_, pr_then _ _ μ I _ (fun vv μ1 h => ?_), fun r hr => hr⟩
  refine ⟨Nat.le_of_ble_eq_true rfl, Pst vv, h, fun r hr => ?_⟩
  obtain ⟨r1, r2⟩ := r
  have e : r1 = some (vi vv) := hr.1
  subst e
  exact ⟨fun _ => K _ hr.2, fun z => absurd rfl z⟩
theorem lc_on (l : Launch) {L : Nat} {xs : Nat → Int32} (H : ix_Mo (tL_0 L xs)) {i : Nat} (hi : i + 6 ≤ L) (hL : L ≤ 3072) (μ : ix_M) (I : Inv μ) (Q : ix_R → Prop) (K : ∀ μ', Inv μ' → ix_Ev (tL_0 L xs) Q (1636, [some (vr 25 0), some (vr 9 0), some (vr 10 112), some (vi (nI i))], [], μ')) : ix_Ev (tL_0 L xs) Q (828, [some (vr 25 0), some (vr 9 0), some (vr 10 112), some (vi (nI i))], [], μ) := by
  obtain ⟨i1, h1⟩ : ∃ j, j = i + 1 := ⟨_, rfl⟩
  have a1 : nI i + 1 = nI i1 := by rw [h1]; exact nI_add i 1
  have b1 : (nI i1).toNatClampNeg = i1 := nI_clamp (by omega)
  have c1 : vp_in (nI i1) L := vp_in_nI (by omega) (by omega)
  obtain ⟨i2, h2⟩ : ∃ j, j = i + 2 := ⟨_, rfl⟩
  have a2 : nI i + 2 = nI i2 := by rw [h2]; exact nI_add i 2
  have b2 : (nI i2).toNatClampNeg = i2 := nI_clamp (by omega)
  have c2 : vp_in (nI i2) L := vp_in_nI (by omega) (by omega)
  obtain ⟨i3, h3⟩ : ∃ j, j = i + 3 := ⟨_, rfl⟩
  have a3 : nI i + 3 = nI i3 := by rw [h3]; exact nI_add i 3
  have b3 : (nI i3).toNatClampNeg = i3 := nI_clamp (by omega)
  have c3 : vp_in (nI i3) L := vp_in_nI (by omega) (by omega)
  simp (decide := true) only [e_L_828 H, e_L_829 H, e_L_830 H, e_L_831 H, e_L_832 H, e_L_833 H, e_L_834 H, e_L_835 H, e_L_836 H, e_L_837 H, e_L_838 H, e_L_839 H, e_L_840 H, e_L_841 H, e_L_842 H, e_L_843 H, e_L_844 H, e_L_847 H, e_L_848 H, e_L_849 H, e_L_850 H, e_L_851 H, e_L_852 H, e_L_853 H, e_L_854 H, e_L_855 H, e_L_856 H, e_L_857 H, e_L_858 H, e_L_859 H, e_L_860 H, e_L_861 H, e_L_862 H, e_L_863 H, e_L_866 H, e_L_869 H, e_L_870 H, vi, vl, vr, oc_X10_on, T_X10_on, oc_X11_on, T_X11_on, ix_xld, ix_xln, ix_push, ix_iload, ix_lload, ix_aload, ix_istore, ix_astore, ix_iinc, ix_bin, ix_div, ix_un, ix_i2l, ix_l2i, ix_lbin, ix_lsh, ix_lcmp, ix_dup, ix_dup2, ix_pop, ix_if, ix_cmp, ix_goto, ix_switch, ix_sw, ix_iret, ix_zret, ix_vret, ix_aret, ix_geti, ix_getr, ix_puti, ix_putz, ix_puts, ix_gets, ix_iald, ix_iast, ix_alen, ix_aald, ix_gval, ix_gcod, ix_bald, ix_blen, ix_sald, ix_nret, ix_math2, ix_math1, ix_acopy, Nat.add_assoc, Int32.reduceLT, Int32.reduceLE, Int32.reduceToNatClampNeg, Int32.reduceSub, Int32.reduceAdd, Nat.reduceAdd, Nat.reduceLeDiff, true_or, or_true, or_false, false_or, not_false_eq_true, not_true_eq_false, false_implies, true_implies, implies_true, and_self, mB_0, mB_01, Classical.not_not, Nat.zero_le, List.getElem?_cons_zero, List.getElem?_cons_succ, List.set_cons_zero, List.set_cons_succ, ix_nl, ix_cs, true_and, and_true, Option.toList_some, Option.toList_none, List.cons_append, List.nil_append, a1, b1, c1, a2, b2, c2, a3, b3, c3]
  refine ⟨_, pr_on _ _ _ μ I _ (fun vv μ1 h => ?_), fun r hr => hr⟩
  refine ⟨Nat.le_of_ble_eq_true rfl, Pst vv, h, fun r hr => ?_⟩
  obtain ⟨r1, r2⟩ := r
  have e : r1 = some (vi vv) := hr.1
  subst e
  exact ⟨fun _ => K _ hr.2, fun z => absurd rfl z⟩
theorem lc_full (l : Launch) {L : Nat} {xs : Nat → Int32} (H : ix_Mo (tL_0 L xs)) {i : Nat} (hi : i + 6 ≤ L) (hL : L ≤ 3072) (μ : ix_M) (I : Inv μ) (Q : ix_R → Prop) (K : ∀ μ', Inv μ' → ix_Ev (tL_0 L xs) Q (1636, [some (vr 25 0), some (vr 9 0), some (vr 10 112), some (vi (nI i))], [], μ')) : ix_Ev (tL_0 L xs) Q (871, [some (vr 25 0), some (vr 9 0), some (vr 10 112), some (vi (nI i))], [], μ) := by
  obtain ⟨i1, h1⟩ : ∃ j, j = i + 1 := ⟨_, rfl⟩
  have a1 : nI i + 1 = nI i1 := by rw [h1]; exact nI_add i 1
  have b1 : (nI i1).toNatClampNeg = i1 := nI_clamp (by omega)
  have c1 : vp_in (nI i1) L := vp_in_nI (by omega) (by omega)
  obtain ⟨i2, h2⟩ : ∃ j, j = i + 2 := ⟨_, rfl⟩
  have a2 : nI i + 2 = nI i2 := by rw [h2]; exact nI_add i 2
  have b2 : (nI i2).toNatClampNeg = i2 := nI_clamp (by omega)
  have c2 : vp_in (nI i2) L := vp_in_nI (by omega) (by omega)
  simp (decide := true) only [e_L_871 H, e_L_872 H, e_L_873 H, e_L_874 H, e_L_875 H, e_L_876 H, e_L_877 H, e_L_878 H, e_L_879 H, e_L_880 H, e_L_881 H, e_L_882 H, e_L_885 H, e_L_886 H, e_L_887 H, e_L_888 H, e_L_889 H, e_L_890 H, e_L_891 H, e_L_892 H, e_L_893 H, e_L_894 H, e_L_895 H, e_L_896 H, e_L_899 H, e_L_902 H, e_L_903 H, vi, vl, vr, oc_X10_full, T_X10_full, oc_X11_full, T_X11_full, ix_xld, ix_xln, ix_push, ix_iload, ix_lload, ix_aload, ix_istore, ix_astore, ix_iinc, ix_bin, ix_div, ix_un, ix_i2l, ix_l2i, ix_lbin, ix_lsh, ix_lcmp, ix_dup, ix_dup2, ix_pop, ix_if, ix_cmp, ix_goto, ix_switch, ix_sw, ix_iret, ix_zret, ix_vret, ix_aret, ix_geti, ix_getr, ix_puti, ix_putz, ix_puts, ix_gets, ix_iald, ix_iast, ix_alen, ix_aald, ix_gval, ix_gcod, ix_bald, ix_blen, ix_sald, ix_nret, ix_math2, ix_math1, ix_acopy, Nat.add_assoc, Int32.reduceLT, Int32.reduceLE, Int32.reduceToNatClampNeg, Int32.reduceSub, Int32.reduceAdd, Nat.reduceAdd, Nat.reduceLeDiff, true_or, or_true, or_false, false_or, not_false_eq_true, not_true_eq_false, false_implies, true_implies, implies_true, and_self, mB_0, mB_01, Classical.not_not, Nat.zero_le, List.getElem?_cons_zero, List.getElem?_cons_succ, List.set_cons_zero, List.set_cons_succ, ix_nl, ix_cs, true_and, and_true, Option.toList_some, Option.toList_none, List.cons_append, List.nil_append, a1, b1, c1, a2, b2, c2]
  refine ⟨_, pr_full _ _ μ I _ (fun vv μ1 h => ?_), fun r hr => hr⟩
  refine ⟨Nat.le_of_ble_eq_true rfl, Pst vv, h, fun r hr => ?_⟩
  obtain ⟨r1, r2⟩ := r
  have e : r1 = some (vi vv) := hr.1
  subst e
  exact ⟨fun _ => K _ hr.2, fun z => absurd rfl z⟩
theorem lc_wayFor (l : Launch) {L : Nat} {xs : Nat → Int32} (H : ix_Mo (tL_0 L xs)) {i : Nat} (hi : i + 6 ≤ L) (hL : L ≤ 3072) (μ : ix_M) (I : Inv μ) (Q : ix_R → Prop) (K : ∀ μ', Inv μ' → ix_Ev (tL_0 L xs) Q (1636, [some (vr 25 0), some (vr 9 0), some (vr 10 112), some (vi (nI i))], [], μ')) : ix_Ev (tL_0 L xs) Q (904, [some (vr 25 0), some (vr 9 0), some (vr 10 112), some (vi (nI i))], [], μ) := by
  obtain ⟨i1, h1⟩ : ∃ j, j = i + 1 := ⟨_, rfl⟩
  have a1 : nI i + 1 = nI i1 := by rw [h1]; exact nI_add i 1
  have b1 : (nI i1).toNatClampNeg = i1 := nI_clamp (by omega)
  have c1 : vp_in (nI i1) L := vp_in_nI (by omega) (by omega)
  obtain ⟨i2, h2⟩ : ∃ j, j = i + 2 := ⟨_, rfl⟩
  have a2 : nI i + 2 = nI i2 := by rw [h2]; exact nI_add i 2
  have b2 : (nI i2).toNatClampNeg = i2 := nI_clamp (by omega)
  have c2 : vp_in (nI i2) L := vp_in_nI (by omega) (by omega)
  simp (decide := true) only [e_L_904 H, e_L_905 H, e_L_906 H, e_L_907 H, e_L_908 H, e_L_909 H, e_L_910 H, e_L_911 H, e_L_912 H, e_L_913 H, e_L_914 H, e_L_915 H, e_L_918 H, e_L_919 H, e_L_920 H, e_L_921 H, e_L_922 H, e_L_923 H, e_L_924 H, e_L_925 H, e_L_926 H, e_L_927 H, e_L_928 H, e_L_929 H, e_L_932 H, e_L_935 H, e_L_936 H, vi, vl, vr, oc_X10_wayFor, T_X10_wayFor, oc_X11_wayFor, T_X11_wayFor, ix_xld, ix_xln, ix_push, ix_iload, ix_lload, ix_aload, ix_istore, ix_astore, ix_iinc, ix_bin, ix_div, ix_un, ix_i2l, ix_l2i, ix_lbin, ix_lsh, ix_lcmp, ix_dup, ix_dup2, ix_pop, ix_if, ix_cmp, ix_goto, ix_switch, ix_sw, ix_iret, ix_zret, ix_vret, ix_aret, ix_geti, ix_getr, ix_puti, ix_putz, ix_puts, ix_gets, ix_iald, ix_iast, ix_alen, ix_aald, ix_gval, ix_gcod, ix_bald, ix_blen, ix_sald, ix_nret, ix_math2, ix_math1, ix_acopy, Nat.add_assoc, Int32.reduceLT, Int32.reduceLE, Int32.reduceToNatClampNeg, Int32.reduceSub, Int32.reduceAdd, Nat.reduceAdd, Nat.reduceLeDiff, true_or, or_true, or_false, false_or, not_false_eq_true, not_true_eq_false, false_implies, true_implies, implies_true, and_self, mB_0, mB_01, Classical.not_not, Nat.zero_le, List.getElem?_cons_zero, List.getElem?_cons_succ, List.set_cons_zero, List.set_cons_succ, ix_nl, ix_cs, true_and, and_true, Option.toList_some, Option.toList_none, List.cons_append, List.nil_append, a1, b1, c1, a2, b2, c2]
  refine ⟨_, pr_wayFor _ _ μ I _ (fun vv μ1 h => ?_), fun r hr => hr⟩
  refine ⟨Nat.le_of_ble_eq_true rfl, Pst vv, h, fun r hr => ?_⟩
  obtain ⟨r1, r2⟩ := r
  have e : r1 = some (vi vv) := hr.1
  subst e
  exact ⟨fun _ => K _ hr.2, fun z => absurd rfl z⟩
theorem lc_cellFor (l : Launch) {L : Nat} {xs : Nat → Int32} (H : ix_Mo (tL_0 L xs)) {i : Nat} (hi : i + 6 ≤ L) (hL : L ≤ 3072) (μ : ix_M) (I : Inv μ) (Q : ix_R → Prop) (K : ∀ μ', Inv μ' → ix_Ev (tL_0 L xs) Q (1636, [some (vr 25 0), some (vr 9 0), some (vr 10 112), some (vi (nI i))], [], μ')) : ix_Ev (tL_0 L xs) Q (937, [some (vr 25 0), some (vr 9 0), some (vr 10 112), some (vi (nI i))], [], μ) := by
  obtain ⟨i1, h1⟩ : ∃ j, j = i + 1 := ⟨_, rfl⟩
  have a1 : nI i + 1 = nI i1 := by rw [h1]; exact nI_add i 1
  have b1 : (nI i1).toNatClampNeg = i1 := nI_clamp (by omega)
  have c1 : vp_in (nI i1) L := vp_in_nI (by omega) (by omega)
  obtain ⟨i2, h2⟩ : ∃ j, j = i + 2 := ⟨_, rfl⟩
  have a2 : nI i + 2 = nI i2 := by rw [h2]; exact nI_add i 2
  have b2 : (nI i2).toNatClampNeg = i2 := nI_clamp (by omega)
  have c2 : vp_in (nI i2) L := vp_in_nI (by omega) (by omega)
  simp (decide := true) only [e_L_937 H, e_L_938 H, e_L_939 H, e_L_940 H, e_L_941 H, e_L_942 H, e_L_943 H, e_L_944 H, e_L_945 H, e_L_946 H, e_L_947 H, e_L_948 H, e_L_951 H, e_L_952 H, e_L_953 H, e_L_954 H, e_L_955 H, e_L_956 H, e_L_957 H, e_L_958 H, e_L_959 H, e_L_960 H, e_L_961 H, e_L_962 H, e_L_965 H, e_L_968 H, e_L_969 H, vi, vl, vr, oc_X10_cellFor, T_X10_cellFor, oc_X11_cellFor, T_X11_cellFor, ix_xld, ix_xln, ix_push, ix_iload, ix_lload, ix_aload, ix_istore, ix_astore, ix_iinc, ix_bin, ix_div, ix_un, ix_i2l, ix_l2i, ix_lbin, ix_lsh, ix_lcmp, ix_dup, ix_dup2, ix_pop, ix_if, ix_cmp, ix_goto, ix_switch, ix_sw, ix_iret, ix_zret, ix_vret, ix_aret, ix_geti, ix_getr, ix_puti, ix_putz, ix_puts, ix_gets, ix_iald, ix_iast, ix_alen, ix_aald, ix_gval, ix_gcod, ix_bald, ix_blen, ix_sald, ix_nret, ix_math2, ix_math1, ix_acopy, Nat.add_assoc, Int32.reduceLT, Int32.reduceLE, Int32.reduceToNatClampNeg, Int32.reduceSub, Int32.reduceAdd, Nat.reduceAdd, Nat.reduceLeDiff, true_or, or_true, or_false, false_or, not_false_eq_true, not_true_eq_false, false_implies, true_implies, implies_true, and_self, mB_0, mB_01, Classical.not_not, Nat.zero_le, List.getElem?_cons_zero, List.getElem?_cons_succ, List.set_cons_zero, List.set_cons_succ, ix_nl, ix_cs, true_and, and_true, Option.toList_some, Option.toList_none, List.cons_append, List.nil_append, a1, b1, c1, a2, b2, c2]
  refine ⟨_, pr_cellFor _ _ μ I _ (fun vv μ1 h => ?_), fun r hr => hr⟩
  refine ⟨Nat.le_of_ble_eq_true rfl, Pst vv, h, fun r hr => ?_⟩
  obtain ⟨r1, r2⟩ := r
  have e : r1 = some (vi vv) := hr.1
  subst e
  exact ⟨fun _ => K _ hr.2, fun z => absurd rfl z⟩
theorem lc_kindFor (l : Launch) {L : Nat} {xs : Nat → Int32} (H : ix_Mo (tL_0 L xs)) {i : Nat} (hi : i + 6 ≤ L) (hL : L ≤ 3072) (μ : ix_M) (I : Inv μ) (Q : ix_R → Prop) (K : ∀ μ', Inv μ' → ix_Ev (tL_0 L xs) Q (1636, [some (vr 25 0), some (vr 9 0), some (vr 10 112), some (vi (nI i))], [], μ')) : ix_Ev (tL_0 L xs) Q (970, [some (vr 25 0), some (vr 9 0), some (vr 10 112), some (vi (nI i))], [], μ) := by
  obtain ⟨i1, h1⟩ : ∃ j, j = i + 1 := ⟨_, rfl⟩
  have a1 : nI i + 1 = nI i1 := by rw [h1]; exact nI_add i 1
  have b1 : (nI i1).toNatClampNeg = i1 := nI_clamp (by omega)
  have c1 : vp_in (nI i1) L := vp_in_nI (by omega) (by omega)
  obtain ⟨i2, h2⟩ : ∃ j, j = i + 2 := ⟨_, rfl⟩
  have a2 : nI i + 2 = nI i2 := by rw [h2]; exact nI_add i 2
  have b2 : (nI i2).toNatClampNeg = i2 := nI_clamp (by omega)
  have c2 : vp_in (nI i2) L := vp_in_nI (by omega) (by omega)
  simp (decide := true) only [e_L_970 H, e_L_971 H, e_L_972 H, e_L_973 H, e_L_974 H, e_L_975 H, e_L_976 H, e_L_977 H, e_L_978 H, e_L_979 H, e_L_980 H, e_L_981 H, e_L_984 H, e_L_985 H, e_L_986 H, e_L_987 H, e_L_988 H, e_L_989 H, e_L_990 H, e_L_991 H, e_L_992 H, e_L_993 H, e_L_994 H, e_L_995 H, e_L_998 H, e_L_1001 H, e_L_1002 H, vi, vl, vr, oc_X10_kindFor, T_X10_kindFor, oc_X11_kindFor, T_X11_kindFor, ix_xld, ix_xln, ix_push, ix_iload, ix_lload, ix_aload, ix_istore, ix_astore, ix_iinc, ix_bin, ix_div, ix_un, ix_i2l, ix_l2i, ix_lbin, ix_lsh, ix_lcmp, ix_dup, ix_dup2, ix_pop, ix_if, ix_cmp, ix_goto, ix_switch, ix_sw, ix_iret, ix_zret, ix_vret, ix_aret, ix_geti, ix_getr, ix_puti, ix_putz, ix_puts, ix_gets, ix_iald, ix_iast, ix_alen, ix_aald, ix_gval, ix_gcod, ix_bald, ix_blen, ix_sald, ix_nret, ix_math2, ix_math1, ix_acopy, Nat.add_assoc, Int32.reduceLT, Int32.reduceLE, Int32.reduceToNatClampNeg, Int32.reduceSub, Int32.reduceAdd, Nat.reduceAdd, Nat.reduceLeDiff, true_or, or_true, or_false, false_or, not_false_eq_true, not_true_eq_false, false_implies, true_implies, implies_true, and_self, mB_0, mB_01, Classical.not_not, Nat.zero_le, List.getElem?_cons_zero, List.getElem?_cons_succ, List.set_cons_zero, List.set_cons_succ, ix_nl, ix_cs, true_and, and_true, Option.toList_some, Option.toList_none, List.cons_append, List.nil_append, a1, b1, c1, a2, b2, c2]
  refine ⟨_, pr_kindFor _ _ μ I _ (fun vv μ1 h => ?_), fun r hr => hr⟩
  refine ⟨Nat.le_of_ble_eq_true rfl, Pst vv, h, fun r hr => ?_⟩
  obtain ⟨r1, r2⟩ := r
  have e : r1 = some (vi vv) := hr.1
  subst e
  exact ⟨fun _ => K _ hr.2, fun z => absurd rfl z⟩
theorem lc_route (l : Launch) {L : Nat} {xs : Nat → Int32} (H : ix_Mo (tL_0 L xs)) {i : Nat} (hi : i + 6 ≤ L) (hL : L ≤ 3072) (μ : ix_M) (I : Inv μ) (Q : ix_R → Prop) (K : ∀ μ', Inv μ' → ix_Ev (tL_0 L xs) Q (1636, [some (vr 25 0), some (vr 9 0), some (vr 10 112), some (vi (nI i))], [], μ')) : ix_Ev (tL_0 L xs) Q (1003, [some (vr 25 0), some (vr 9 0), some (vr 10 112), some (vi (nI i))], [], μ) := by
  obtain ⟨i1, h1⟩ : ∃ j, j = i + 1 := ⟨_, rfl⟩
  have a1 : nI i + 1 = nI i1 := by rw [h1]; exact nI_add i 1
  have b1 : (nI i1).toNatClampNeg = i1 := nI_clamp (by omega)
  have c1 : vp_in (nI i1) L := vp_in_nI (by omega) (by omega)
  obtain ⟨i2, h2⟩ : ∃ j, j = i + 2 := ⟨_, rfl⟩
  have a2 : nI i + 2 = nI i2 := by rw [h2]; exact nI_add i 2
  have b2 : (nI i2).toNatClampNeg = i2 := nI_clamp (by omega)
  have c2 : vp_in (nI i2) L := vp_in_nI (by omega) (by omega)
  obtain ⟨i3, h3⟩ : ∃ j, j = i + 3 := ⟨_, rfl⟩
  have a3 : nI i + 3 = nI i3 := by rw [h3]; exact nI_add i 3
  have b3 : (nI i3).toNatClampNeg = i3 := nI_clamp (by omega)
  have c3 : vp_in (nI i3) L := vp_in_nI (by omega) (by omega)
  simp (decide := true) only [e_L_1003 H, e_L_1004 H, e_L_1005 H, e_L_1006 H, e_L_1007 H, e_L_1008 H, e_L_1009 H, e_L_1010 H, e_L_1011 H, e_L_1012 H, e_L_1013 H, e_L_1014 H, e_L_1015 H, e_L_1016 H, e_L_1017 H, e_L_1018 H, e_L_1019 H, e_L_1022 H, e_L_1023 H, e_L_1024 H, e_L_1025 H, e_L_1026 H, e_L_1027 H, e_L_1028 H, e_L_1029 H, e_L_1030 H, e_L_1031 H, e_L_1032 H, e_L_1033 H, e_L_1034 H, e_L_1035 H, e_L_1036 H, e_L_1037 H, e_L_1038 H, e_L_1041 H, e_L_1044 H, e_L_1045 H, vi, vl, vr, oc_X10_route, T_X10_route, oc_X11_route, T_X11_route, ix_xld, ix_xln, ix_push, ix_iload, ix_lload, ix_aload, ix_istore, ix_astore, ix_iinc, ix_bin, ix_div, ix_un, ix_i2l, ix_l2i, ix_lbin, ix_lsh, ix_lcmp, ix_dup, ix_dup2, ix_pop, ix_if, ix_cmp, ix_goto, ix_switch, ix_sw, ix_iret, ix_zret, ix_vret, ix_aret, ix_geti, ix_getr, ix_puti, ix_putz, ix_puts, ix_gets, ix_iald, ix_iast, ix_alen, ix_aald, ix_gval, ix_gcod, ix_bald, ix_blen, ix_sald, ix_nret, ix_math2, ix_math1, ix_acopy, Nat.add_assoc, Int32.reduceLT, Int32.reduceLE, Int32.reduceToNatClampNeg, Int32.reduceSub, Int32.reduceAdd, Nat.reduceAdd, Nat.reduceLeDiff, true_or, or_true, or_false, false_or, not_false_eq_true, not_true_eq_false, false_implies, true_implies, implies_true, and_self, mB_0, mB_01, Classical.not_not, Nat.zero_le, List.getElem?_cons_zero, List.getElem?_cons_succ, List.set_cons_zero, List.set_cons_succ, ix_nl, ix_cs, true_and, and_true, Option.toList_some, Option.toList_none, List.cons_append, List.nil_append, a1, b1, c1, a2, b2, c2, a3, b3, c3]
  refine ⟨_, pr_route (a_X10_route l 60 (by decide) (k_tryR l) (by decide) mo_tryR) _ _ _ μ I _ (fun vv μ1 h => ?_), fun r hr => hr⟩
  refine ⟨Nat.le_of_ble_eq_true rfl, Pst vv, h, fun r hr => ?_⟩
  obtain ⟨r1, r2⟩ := r
  have e : r1 = some (vi vv) := hr.1
  subst e
  exact ⟨fun _ => K _ hr.2, fun z => absurd rfl z⟩
theorem lc_darkFor (l : Launch) {L : Nat} {xs : Nat → Int32} (H : ix_Mo (tL_0 L xs)) {i : Nat} (hi : i + 6 ≤ L) (hL : L ≤ 3072) (μ : ix_M) (I : Inv μ) (Q : ix_R → Prop) (K : ∀ μ', Inv μ' → ix_Ev (tL_0 L xs) Q (1636, [some (vr 25 0), some (vr 9 0), some (vr 10 112), some (vi (nI i))], [], μ')) : ix_Ev (tL_0 L xs) Q (1046, [some (vr 25 0), some (vr 9 0), some (vr 10 112), some (vi (nI i))], [], μ) := by
  obtain ⟨i1, h1⟩ : ∃ j, j = i + 1 := ⟨_, rfl⟩
  have a1 : nI i + 1 = nI i1 := by rw [h1]; exact nI_add i 1
  have b1 : (nI i1).toNatClampNeg = i1 := nI_clamp (by omega)
  have c1 : vp_in (nI i1) L := vp_in_nI (by omega) (by omega)
  obtain ⟨i2, h2⟩ : ∃ j, j = i + 2 := ⟨_, rfl⟩
  have a2 : nI i + 2 = nI i2 := by rw [h2]; exact nI_add i 2
  have b2 : (nI i2).toNatClampNeg = i2 := nI_clamp (by omega)
  have c2 : vp_in (nI i2) L := vp_in_nI (by omega) (by omega)
  simp (decide := true) only [e_L_1046 H, e_L_1047 H, e_L_1048 H, e_L_1049 H, e_L_1050 H, e_L_1051 H, e_L_1052 H, e_L_1053 H, e_L_1054 H, e_L_1055 H, e_L_1056 H, e_L_1057 H, e_L_1060 H, e_L_1061 H, e_L_1062 H, e_L_1063 H, e_L_1064 H, e_L_1065 H, e_L_1066 H, e_L_1067 H, e_L_1068 H, e_L_1069 H, e_L_1070 H, e_L_1071 H, e_L_1074 H, e_L_1077 H, e_L_1078 H, vi, vl, vr, oc_X10_darkFor, T_X10_darkFor, oc_X11_darkFor, T_X11_darkFor, ix_xld, ix_xln, ix_push, ix_iload, ix_lload, ix_aload, ix_istore, ix_astore, ix_iinc, ix_bin, ix_div, ix_un, ix_i2l, ix_l2i, ix_lbin, ix_lsh, ix_lcmp, ix_dup, ix_dup2, ix_pop, ix_if, ix_cmp, ix_goto, ix_switch, ix_sw, ix_iret, ix_zret, ix_vret, ix_aret, ix_geti, ix_getr, ix_puti, ix_putz, ix_puts, ix_gets, ix_iald, ix_iast, ix_alen, ix_aald, ix_gval, ix_gcod, ix_bald, ix_blen, ix_sald, ix_nret, ix_math2, ix_math1, ix_acopy, Nat.add_assoc, Int32.reduceLT, Int32.reduceLE, Int32.reduceToNatClampNeg, Int32.reduceSub, Int32.reduceAdd, Nat.reduceAdd, Nat.reduceLeDiff, true_or, or_true, or_false, false_or, not_false_eq_true, not_true_eq_false, false_implies, true_implies, implies_true, and_self, mB_0, mB_01, Classical.not_not, Nat.zero_le, List.getElem?_cons_zero, List.getElem?_cons_succ, List.set_cons_zero, List.set_cons_succ, ix_nl, ix_cs, true_and, and_true, Option.toList_some, Option.toList_none, List.cons_append, List.nil_append, a1, b1, c1, a2, b2, c2]
  refine ⟨_, pr_darkFor _ _ μ I _ (fun vv μ1 h => ?_), fun r hr => hr⟩
  refine ⟨Nat.le_of_ble_eq_true rfl, Pst vv, h, fun r hr => ?_⟩
  obtain ⟨r1, r2⟩ := r
  have e : r1 = some (vi vv) := hr.1
  subst e
  exact ⟨fun _ => K _ hr.2, fun z => absurd rfl z⟩
theorem lc_match (l : Launch) {L : Nat} {xs : Nat → Int32} (H : ix_Mo (tL_0 L xs)) {i : Nat} (hi : i + 6 ≤ L) (hL : L ≤ 3072) (μ : ix_M) (I : Inv μ) (Q : ix_R → Prop) (K : ∀ μ', Inv μ' → ix_Ev (tL_0 L xs) Q (1636, [some (vr 25 0), some (vr 9 0), some (vr 10 112), some (vi (nI i))], [], μ')) : ix_Ev (tL_0 L xs) Q (1079, [some (vr 25 0), some (vr 9 0), some (vr 10 112), some (vi (nI i))], [], μ) := by
  obtain ⟨i1, h1⟩ : ∃ j, j = i + 1 := ⟨_, rfl⟩
  have a1 : nI i + 1 = nI i1 := by rw [h1]; exact nI_add i 1
  have b1 : (nI i1).toNatClampNeg = i1 := nI_clamp (by omega)
  have c1 : vp_in (nI i1) L := vp_in_nI (by omega) (by omega)
  simp (decide := true) only [e_L_1079 H, e_L_1080 H, e_L_1081 H, e_L_1082 H, e_L_1083 H, e_L_1084 H, e_L_1085 H, e_L_1088 H, e_L_1089 H, e_L_1090 H, e_L_1091 H, e_L_1092 H, e_L_1093 H, e_L_1094 H, e_L_1097 H, e_L_1100 H, e_L_1101 H, vi, vl, vr, oc_X10_match, T_X10_match, oc_X11_match, T_X11_match, ix_xld, ix_xln, ix_push, ix_iload, ix_lload, ix_aload, ix_istore, ix_astore, ix_iinc, ix_bin, ix_div, ix_un, ix_i2l, ix_l2i, ix_lbin, ix_lsh, ix_lcmp, ix_dup, ix_dup2, ix_pop, ix_if, ix_cmp, ix_goto, ix_switch, ix_sw, ix_iret, ix_zret, ix_vret, ix_aret, ix_geti, ix_getr, ix_puti, ix_putz, ix_puts, ix_gets, ix_iald, ix_iast, ix_alen, ix_aald, ix_gval, ix_gcod, ix_bald, ix_blen, ix_sald, ix_nret, ix_math2, ix_math1, ix_acopy, Nat.add_assoc, Int32.reduceLT, Int32.reduceLE, Int32.reduceToNatClampNeg, Int32.reduceSub, Int32.reduceAdd, Nat.reduceAdd, Nat.reduceLeDiff, true_or, or_true, or_false, false_or, not_false_eq_true, not_true_eq_false, false_implies, true_implies, implies_true, and_self, mB_0, mB_01, Classical.not_not, Nat.zero_le, List.getElem?_cons_zero, List.getElem?_cons_succ, List.set_cons_zero, List.set_cons_succ, ix_nl, ix_cs, true_and, and_true, Option.toList_some, Option.toList_none, List.cons_append, List.nil_append, a1, b1, c1]
  refine ⟨_, pr_match _ μ I _ (fun vv μ1 h => ?_), fun r hr => hr⟩
  refine ⟨Nat.le_of_ble_eq_true rfl, Pst vv, h, fun r hr => ?_⟩
  obtain ⟨r1, r2⟩ := r
  have e : r1 = some (vi vv) := hr.1
  subst e
  exact ⟨fun _ => K _ hr.2, fun z => absurd rfl z⟩
theorem lc_blend (l : Launch) {L : Nat} {xs : Nat → Int32} (H : ix_Mo (tL_0 L xs)) {i : Nat} (hi : i + 6 ≤ L) (hL : L ≤ 3072) (μ : ix_M) (I : Inv μ) (Q : ix_R → Prop) (K : ∀ μ', Inv μ' → ix_Ev (tL_0 L xs) Q (1636, [some (vr 25 0), some (vr 9 0), some (vr 10 112), some (vi (nI i))], [], μ')) : ix_Ev (tL_0 L xs) Q (1102, [some (vr 25 0), some (vr 9 0), some (vr 10 112), some (vi (nI i))], [], μ) := by
  obtain ⟨i1, h1⟩ : ∃ j, j = i + 1 := ⟨_, rfl⟩
  have a1 : nI i + 1 = nI i1 := by rw [h1]; exact nI_add i 1
  have b1 : (nI i1).toNatClampNeg = i1 := nI_clamp (by omega)
  have c1 : vp_in (nI i1) L := vp_in_nI (by omega) (by omega)
  simp (decide := true) only [e_L_1102 H, e_L_1103 H, e_L_1104 H, e_L_1105 H, e_L_1106 H, e_L_1107 H, e_L_1108 H, e_L_1111 H, e_L_1112 H, e_L_1113 H, e_L_1114 H, e_L_1115 H, e_L_1116 H, e_L_1117 H, e_L_1120 H, e_L_1123 H, e_L_1124 H, vi, vl, vr, oc_X10_blend, T_X10_blend, oc_X11_blend, T_X11_blend, ix_xld, ix_xln, ix_push, ix_iload, ix_lload, ix_aload, ix_istore, ix_astore, ix_iinc, ix_bin, ix_div, ix_un, ix_i2l, ix_l2i, ix_lbin, ix_lsh, ix_lcmp, ix_dup, ix_dup2, ix_pop, ix_if, ix_cmp, ix_goto, ix_switch, ix_sw, ix_iret, ix_zret, ix_vret, ix_aret, ix_geti, ix_getr, ix_puti, ix_putz, ix_puts, ix_gets, ix_iald, ix_iast, ix_alen, ix_aald, ix_gval, ix_gcod, ix_bald, ix_blen, ix_sald, ix_nret, ix_math2, ix_math1, ix_acopy, Nat.add_assoc, Int32.reduceLT, Int32.reduceLE, Int32.reduceToNatClampNeg, Int32.reduceSub, Int32.reduceAdd, Nat.reduceAdd, Nat.reduceLeDiff, true_or, or_true, or_false, false_or, not_false_eq_true, not_true_eq_false, false_implies, true_implies, implies_true, and_self, mB_0, mB_01, Classical.not_not, Nat.zero_le, List.getElem?_cons_zero, List.getElem?_cons_succ, List.set_cons_zero, List.set_cons_succ, ix_nl, ix_cs, true_and, and_true, Option.toList_some, Option.toList_none, List.cons_append, List.nil_append, a1, b1, c1]
  refine ⟨_, pr_blend _ μ I _ (fun vv μ1 h => ?_), fun r hr => hr⟩
  refine ⟨Nat.le_of_ble_eq_true rfl, Pst vv, h, fun r hr => ?_⟩
  obtain ⟨r1, r2⟩ := r
  have e : r1 = some (vi vv) := hr.1
  subst e
  exact ⟨fun _ => K _ hr.2, fun z => absurd rfl z⟩
theorem lc_which (l : Launch) {L : Nat} {xs : Nat → Int32} (H : ix_Mo (tL_0 L xs)) {i : Nat} (hi : i + 6 ≤ L) (hL : L ≤ 3072) (μ : ix_M) (I : Inv μ) (Q : ix_R → Prop) (K : ∀ μ', Inv μ' → ix_Ev (tL_0 L xs) Q (1636, [some (vr 25 0), some (vr 9 0), some (vr 10 112), some (vi (nI i))], [], μ')) : ix_Ev (tL_0 L xs) Q (1125, [some (vr 25 0), some (vr 9 0), some (vr 10 112), some (vi (nI i))], [], μ) := by
  obtain ⟨i1, h1⟩ : ∃ j, j = i + 1 := ⟨_, rfl⟩
  have a1 : nI i + 1 = nI i1 := by rw [h1]; exact nI_add i 1
  have b1 : (nI i1).toNatClampNeg = i1 := nI_clamp (by omega)
  have c1 : vp_in (nI i1) L := vp_in_nI (by omega) (by omega)
  obtain ⟨i2, h2⟩ : ∃ j, j = i + 2 := ⟨_, rfl⟩
  have a2 : nI i + 2 = nI i2 := by rw [h2]; exact nI_add i 2
  have b2 : (nI i2).toNatClampNeg = i2 := nI_clamp (by omega)
  have c2 : vp_in (nI i2) L := vp_in_nI (by omega) (by omega)
  simp (decide := true) only [e_L_1125 H, e_L_1126 H, e_L_1127 H, e_L_1128 H, e_L_1129 H, e_L_1130 H, e_L_1131 H, e_L_1132 H, e_L_1133 H, e_L_1134 H, e_L_1135 H, e_L_1136 H, e_L_1139 H, e_L_1140 H, e_L_1141 H, e_L_1142 H, e_L_1143 H, e_L_1144 H, e_L_1145 H, e_L_1146 H, e_L_1147 H, e_L_1148 H, e_L_1149 H, e_L_1150 H, e_L_1153 H, e_L_1156 H, e_L_1157 H, vi, vl, vr, oc_X10_which, T_X10_which, oc_X11_which, T_X11_which, ix_xld, ix_xln, ix_push, ix_iload, ix_lload, ix_aload, ix_istore, ix_astore, ix_iinc, ix_bin, ix_div, ix_un, ix_i2l, ix_l2i, ix_lbin, ix_lsh, ix_lcmp, ix_dup, ix_dup2, ix_pop, ix_if, ix_cmp, ix_goto, ix_switch, ix_sw, ix_iret, ix_zret, ix_vret, ix_aret, ix_geti, ix_getr, ix_puti, ix_putz, ix_puts, ix_gets, ix_iald, ix_iast, ix_alen, ix_aald, ix_gval, ix_gcod, ix_bald, ix_blen, ix_sald, ix_nret, ix_math2, ix_math1, ix_acopy, Nat.add_assoc, Int32.reduceLT, Int32.reduceLE, Int32.reduceToNatClampNeg, Int32.reduceSub, Int32.reduceAdd, Nat.reduceAdd, Nat.reduceLeDiff, true_or, or_true, or_false, false_or, not_false_eq_true, not_true_eq_false, false_implies, true_implies, implies_true, and_self, mB_0, mB_01, Classical.not_not, Nat.zero_le, List.getElem?_cons_zero, List.getElem?_cons_succ, List.set_cons_zero, List.set_cons_succ, ix_nl, ix_cs, true_and, and_true, Option.toList_some, Option.toList_none, List.cons_append, List.nil_append, a1, b1, c1, a2, b2, c2]
  refine ⟨_, pr_which _ _ μ I _ (fun vv μ1 h => ?_), fun r hr => hr⟩
  refine ⟨Nat.le_of_ble_eq_true rfl, Pst vv, h, fun r hr => ?_⟩
  obtain ⟨r1, r2⟩ := r
  have e : r1 = some (vi vv) := hr.1
  subst e
  exact ⟨fun _ => K _ hr.2, fun z => absurd rfl z⟩
theorem lc_lay (l : Launch) {L : Nat} {xs : Nat → Int32} (H : ix_Mo (tL_0 L xs)) {i : Nat} (hi : i + 6 ≤ L) (hL : L ≤ 3072) (μ : ix_M) (I : Inv μ) (Q : ix_R → Prop) (K : ∀ μ', Inv μ' → ix_Ev (tL_0 L xs) Q (1636, [some (vr 25 0), some (vr 9 0), some (vr 10 112), some (vi (nI i))], [], μ')) : ix_Ev (tL_0 L xs) Q (1158, [some (vr 25 0), some (vr 9 0), some (vr 10 112), some (vi (nI i))], [], μ) := by
  obtain ⟨i1, h1⟩ : ∃ j, j = i + 1 := ⟨_, rfl⟩
  have a1 : nI i + 1 = nI i1 := by rw [h1]; exact nI_add i 1
  have b1 : (nI i1).toNatClampNeg = i1 := nI_clamp (by omega)
  have c1 : vp_in (nI i1) L := vp_in_nI (by omega) (by omega)
  obtain ⟨i2, h2⟩ : ∃ j, j = i + 2 := ⟨_, rfl⟩
  have a2 : nI i + 2 = nI i2 := by rw [h2]; exact nI_add i 2
  have b2 : (nI i2).toNatClampNeg = i2 := nI_clamp (by omega)
  have c2 : vp_in (nI i2) L := vp_in_nI (by omega) (by omega)
  obtain ⟨i3, h3⟩ : ∃ j, j = i + 3 := ⟨_, rfl⟩
  have a3 : nI i + 3 = nI i3 := by rw [h3]; exact nI_add i 3
  have b3 : (nI i3).toNatClampNeg = i3 := nI_clamp (by omega)
  have c3 : vp_in (nI i3) L := vp_in_nI (by omega) (by omega)
  simp (decide := true) only [e_L_1158 H, e_L_1159 H, e_L_1160 H, e_L_1161 H, e_L_1162 H, e_L_1163 H, e_L_1164 H, e_L_1165 H, e_L_1166 H, e_L_1167 H, e_L_1168 H, e_L_1169 H, e_L_1170 H, e_L_1171 H, e_L_1172 H, e_L_1173 H, e_L_1174 H, e_L_1177 H, e_L_1178 H, e_L_1179 H, e_L_1180 H, e_L_1181 H, e_L_1182 H, e_L_1183 H, e_L_1184 H, e_L_1185 H, e_L_1186 H, e_L_1187 H, e_L_1188 H, e_L_1189 H, e_L_1190 H, e_L_1191 H, e_L_1192 H, e_L_1193 H, e_L_1196 H, e_L_1199 H, e_L_1200 H, vi, vl, vr, oc_X10_lay, T_X10_lay, oc_X11_lay, T_X11_lay, ix_xld, ix_xln, ix_push, ix_iload, ix_lload, ix_aload, ix_istore, ix_astore, ix_iinc, ix_bin, ix_div, ix_un, ix_i2l, ix_l2i, ix_lbin, ix_lsh, ix_lcmp, ix_dup, ix_dup2, ix_pop, ix_if, ix_cmp, ix_goto, ix_switch, ix_sw, ix_iret, ix_zret, ix_vret, ix_aret, ix_geti, ix_getr, ix_puti, ix_putz, ix_puts, ix_gets, ix_iald, ix_iast, ix_alen, ix_aald, ix_gval, ix_gcod, ix_bald, ix_blen, ix_sald, ix_nret, ix_math2, ix_math1, ix_acopy, Nat.add_assoc, Int32.reduceLT, Int32.reduceLE, Int32.reduceToNatClampNeg, Int32.reduceSub, Int32.reduceAdd, Nat.reduceAdd, Nat.reduceLeDiff, true_or, or_true, or_false, false_or, not_false_eq_true, not_true_eq_false, false_implies, true_implies, implies_true, and_self, mB_0, mB_01, Classical.not_not, Nat.zero_le, List.getElem?_cons_zero, List.getElem?_cons_succ, List.set_cons_zero, List.set_cons_succ, ix_nl, ix_cs, true_and, and_true, Option.toList_some, Option.toList_none, List.cons_append, List.nil_append, a1, b1, c1, a2, b2, c2, a3, b3, c3]
  refine ⟨_, pr_lay _ _ _ μ I _ (fun vv μ1 h => ?_), fun r hr => hr⟩
  refine ⟨Nat.le_of_ble_eq_true rfl, Pst vv, h, fun r hr => ?_⟩
  obtain ⟨r1, r2⟩ := r
  have e : r1 = some (vi vv) := hr.1
  subst e
  exact ⟨fun _ => K _ hr.2, fun z => absurd rfl z⟩
theorem lc_odds (l : Launch) {L : Nat} {xs : Nat → Int32} (H : ix_Mo (tL_0 L xs)) {i : Nat} (hi : i + 6 ≤ L) (hL : L ≤ 3072) (μ : ix_M) (I : Inv μ) (Q : ix_R → Prop) (K : ∀ μ', Inv μ' → ix_Ev (tL_0 L xs) Q (1636, [some (vr 25 0), some (vr 9 0), some (vr 10 112), some (vi (nI i))], [], μ')) : ix_Ev (tL_0 L xs) Q (1201, [some (vr 25 0), some (vr 9 0), some (vr 10 112), some (vi (nI i))], [], μ) := by
  obtain ⟨i1, h1⟩ : ∃ j, j = i + 1 := ⟨_, rfl⟩
  have a1 : nI i + 1 = nI i1 := by rw [h1]; exact nI_add i 1
  have b1 : (nI i1).toNatClampNeg = i1 := nI_clamp (by omega)
  have c1 : vp_in (nI i1) L := vp_in_nI (by omega) (by omega)
  obtain ⟨i2, h2⟩ : ∃ j, j = i + 2 := ⟨_, rfl⟩
  have a2 : nI i + 2 = nI i2 := by rw [h2]; exact nI_add i 2
  have b2 : (nI i2).toNatClampNeg = i2 := nI_clamp (by omega)
  have c2 : vp_in (nI i2) L := vp_in_nI (by omega) (by omega)
  obtain ⟨i3, h3⟩ : ∃ j, j = i + 3 := ⟨_, rfl⟩
  have a3 : nI i + 3 = nI i3 := by rw [h3]; exact nI_add i 3
  have b3 : (nI i3).toNatClampNeg = i3 := nI_clamp (by omega)
  have c3 : vp_in (nI i3) L := vp_in_nI (by omega) (by omega)
  simp (decide := true) only [e_L_1201 H, e_L_1202 H, e_L_1203 H, e_L_1204 H, e_L_1205 H, e_L_1206 H, e_L_1207 H, e_L_1208 H, e_L_1209 H, e_L_1210 H, e_L_1211 H, e_L_1212 H, e_L_1213 H, e_L_1214 H, e_L_1215 H, e_L_1216 H, e_L_1217 H, e_L_1220 H, e_L_1221 H, e_L_1222 H, e_L_1223 H, e_L_1224 H, e_L_1225 H, e_L_1226 H, e_L_1227 H, e_L_1228 H, e_L_1229 H, e_L_1230 H, e_L_1231 H, e_L_1232 H, e_L_1233 H, e_L_1234 H, e_L_1235 H, e_L_1236 H, e_L_1239 H, e_L_1242 H, e_L_1243 H, vi, vl, vr, oc_X10_odds, T_X10_odds, oc_X11_odds, T_X11_odds, ix_xld, ix_xln, ix_push, ix_iload, ix_lload, ix_aload, ix_istore, ix_astore, ix_iinc, ix_bin, ix_div, ix_un, ix_i2l, ix_l2i, ix_lbin, ix_lsh, ix_lcmp, ix_dup, ix_dup2, ix_pop, ix_if, ix_cmp, ix_goto, ix_switch, ix_sw, ix_iret, ix_zret, ix_vret, ix_aret, ix_geti, ix_getr, ix_puti, ix_putz, ix_puts, ix_gets, ix_iald, ix_iast, ix_alen, ix_aald, ix_gval, ix_gcod, ix_bald, ix_blen, ix_sald, ix_nret, ix_math2, ix_math1, ix_acopy, Nat.add_assoc, Int32.reduceLT, Int32.reduceLE, Int32.reduceToNatClampNeg, Int32.reduceSub, Int32.reduceAdd, Nat.reduceAdd, Nat.reduceLeDiff, true_or, or_true, or_false, false_or, not_false_eq_true, not_true_eq_false, false_implies, true_implies, implies_true, and_self, mB_0, mB_01, Classical.not_not, Nat.zero_le, List.getElem?_cons_zero, List.getElem?_cons_succ, List.set_cons_zero, List.set_cons_succ, ix_nl, ix_cs, true_and, and_true, Option.toList_some, Option.toList_none, List.cons_append, List.nil_append, a1, b1, c1, a2, b2, c2, a3, b3, c3]
  refine ⟨_, pr_odds _ _ _ μ I _ (fun vv μ1 h => ?_), fun r hr => hr⟩
  refine ⟨Nat.le_of_ble_eq_true rfl, Pst vv, h, fun r hr => ?_⟩
  obtain ⟨r1, r2⟩ := r
  have e : r1 = some (vi vv) := hr.1
  subst e
  exact ⟨fun _ => K _ hr.2, fun z => absurd rfl z⟩
theorem lc_seed (l : Launch) {L : Nat} {xs : Nat → Int32} (H : ix_Mo (tL_0 L xs)) {i : Nat} (hi : i + 6 ≤ L) (hL : L ≤ 3072) (μ : ix_M) (I : Inv μ) (Q : ix_R → Prop) (K : ∀ μ', Inv μ' → ix_Ev (tL_0 L xs) Q (1636, [some (vr 25 0), some (vr 9 0), some (vr 10 112), some (vi (nI i))], [], μ')) : ix_Ev (tL_0 L xs) Q (1244, [some (vr 25 0), some (vr 9 0), some (vr 10 112), some (vi (nI i))], [], μ) := by
  obtain ⟨i1, h1⟩ : ∃ j, j = i + 1 := ⟨_, rfl⟩
  have a1 : nI i + 1 = nI i1 := by rw [h1]; exact nI_add i 1
  have b1 : (nI i1).toNatClampNeg = i1 := nI_clamp (by omega)
  have c1 : vp_in (nI i1) L := vp_in_nI (by omega) (by omega)
  simp (decide := true) only [e_L_1244 H, e_L_1245 H, e_L_1246 H, e_L_1247 H, e_L_1248 H, e_L_1249 H, e_L_1250 H, e_L_1253 H, e_L_1254 H, e_L_1255 H, e_L_1256 H, e_L_1257 H, e_L_1258 H, e_L_1259 H, e_L_1262 H, e_L_1265 H, e_L_1266 H, vi, vl, vr, oc_X10_seed, T_X10_seed, oc_X11_seed, T_X11_seed, ix_xld, ix_xln, ix_push, ix_iload, ix_lload, ix_aload, ix_istore, ix_astore, ix_iinc, ix_bin, ix_div, ix_un, ix_i2l, ix_l2i, ix_lbin, ix_lsh, ix_lcmp, ix_dup, ix_dup2, ix_pop, ix_if, ix_cmp, ix_goto, ix_switch, ix_sw, ix_iret, ix_zret, ix_vret, ix_aret, ix_geti, ix_getr, ix_puti, ix_putz, ix_puts, ix_gets, ix_iald, ix_iast, ix_alen, ix_aald, ix_gval, ix_gcod, ix_bald, ix_blen, ix_sald, ix_nret, ix_math2, ix_math1, ix_acopy, Nat.add_assoc, Int32.reduceLT, Int32.reduceLE, Int32.reduceToNatClampNeg, Int32.reduceSub, Int32.reduceAdd, Nat.reduceAdd, Nat.reduceLeDiff, true_or, or_true, or_false, false_or, not_false_eq_true, not_true_eq_false, false_implies, true_implies, implies_true, and_self, mB_0, mB_01, Classical.not_not, Nat.zero_le, List.getElem?_cons_zero, List.getElem?_cons_succ, List.set_cons_zero, List.set_cons_succ, ix_nl, ix_cs, true_and, and_true, Option.toList_some, Option.toList_none, List.cons_append, List.nil_append, a1, b1, c1]
  refine ⟨_, pr_seed _ μ I _ (fun vv μ1 h => ?_), fun r hr => hr⟩
  refine ⟨Nat.le_of_ble_eq_true rfl, Pst vv, h, fun r hr => ?_⟩
  obtain ⟨r1, r2⟩ := r
  have e : r1 = some (vi vv) := hr.1
  subst e
  exact ⟨fun _ => K _ hr.2, fun z => absurd rfl z⟩
theorem lc_voice (l : Launch) {L : Nat} {xs : Nat → Int32} (H : ix_Mo (tL_0 L xs)) {i : Nat} (hi : i + 6 ≤ L) (hL : L ≤ 3072) (μ : ix_M) (I : Inv μ) (Q : ix_R → Prop) (K : ∀ μ', Inv μ' → ix_Ev (tL_0 L xs) Q (1636, [some (vr 25 0), some (vr 9 0), some (vr 10 112), some (vi (nI i))], [], μ')) : ix_Ev (tL_0 L xs) Q (1267, [some (vr 25 0), some (vr 9 0), some (vr 10 112), some (vi (nI i))], [], μ) := by
  obtain ⟨i1, h1⟩ : ∃ j, j = i + 1 := ⟨_, rfl⟩
  have a1 : nI i + 1 = nI i1 := by rw [h1]; exact nI_add i 1
  have b1 : (nI i1).toNatClampNeg = i1 := nI_clamp (by omega)
  have c1 : vp_in (nI i1) L := vp_in_nI (by omega) (by omega)
  obtain ⟨i2, h2⟩ : ∃ j, j = i + 2 := ⟨_, rfl⟩
  have a2 : nI i + 2 = nI i2 := by rw [h2]; exact nI_add i 2
  have b2 : (nI i2).toNatClampNeg = i2 := nI_clamp (by omega)
  have c2 : vp_in (nI i2) L := vp_in_nI (by omega) (by omega)
  obtain ⟨i3, h3⟩ : ∃ j, j = i + 3 := ⟨_, rfl⟩
  have a3 : nI i + 3 = nI i3 := by rw [h3]; exact nI_add i 3
  have b3 : (nI i3).toNatClampNeg = i3 := nI_clamp (by omega)
  have c3 : vp_in (nI i3) L := vp_in_nI (by omega) (by omega)
  simp (decide := true) only [e_L_1267 H, e_L_1268 H, e_L_1269 H, e_L_1270 H, e_L_1271 H, e_L_1272 H, e_L_1273 H, e_L_1274 H, e_L_1275 H, e_L_1276 H, e_L_1277 H, e_L_1278 H, e_L_1279 H, e_L_1280 H, e_L_1281 H, e_L_1282 H, e_L_1283 H, e_L_1286 H, e_L_1287 H, e_L_1288 H, e_L_1289 H, e_L_1290 H, e_L_1291 H, e_L_1292 H, e_L_1293 H, e_L_1294 H, e_L_1295 H, e_L_1296 H, e_L_1297 H, e_L_1298 H, e_L_1299 H, e_L_1300 H, e_L_1301 H, e_L_1302 H, e_L_1305 H, e_L_1308 H, e_L_1309 H, vi, vl, vr, oc_X10_voice, T_X10_voice, oc_X11_voice, T_X11_voice, ix_xld, ix_xln, ix_push, ix_iload, ix_lload, ix_aload, ix_istore, ix_astore, ix_iinc, ix_bin, ix_div, ix_un, ix_i2l, ix_l2i, ix_lbin, ix_lsh, ix_lcmp, ix_dup, ix_dup2, ix_pop, ix_if, ix_cmp, ix_goto, ix_switch, ix_sw, ix_iret, ix_zret, ix_vret, ix_aret, ix_geti, ix_getr, ix_puti, ix_putz, ix_puts, ix_gets, ix_iald, ix_iast, ix_alen, ix_aald, ix_gval, ix_gcod, ix_bald, ix_blen, ix_sald, ix_nret, ix_math2, ix_math1, ix_acopy, Nat.add_assoc, Int32.reduceLT, Int32.reduceLE, Int32.reduceToNatClampNeg, Int32.reduceSub, Int32.reduceAdd, Nat.reduceAdd, Nat.reduceLeDiff, true_or, or_true, or_false, false_or, not_false_eq_true, not_true_eq_false, false_implies, true_implies, implies_true, and_self, mB_0, mB_01, Classical.not_not, Nat.zero_le, List.getElem?_cons_zero, List.getElem?_cons_succ, List.set_cons_zero, List.set_cons_succ, ix_nl, ix_cs, true_and, and_true, Option.toList_some, Option.toList_none, List.cons_append, List.nil_append, a1, b1, c1, a2, b2, c2, a3, b3, c3]
  refine ⟨_, pr_voice _ _ _ μ I _ (fun vv μ1 h => ?_), fun r hr => hr⟩
  refine ⟨Nat.le_of_ble_eq_true rfl, Pst vv, h, fun r hr => ?_⟩
  obtain ⟨r1, r2⟩ := r
  have e : r1 = some (vi vv) := hr.1
  subst e
  exact ⟨fun _ => K _ hr.2, fun z => absurd rfl z⟩
theorem lc_trace (l : Launch) {L : Nat} {xs : Nat → Int32} (H : ix_Mo (tL_0 L xs)) {i : Nat} (hi : i + 6 ≤ L) (hL : L ≤ 3072) (μ : ix_M) (I : Inv μ) (Q : ix_R → Prop) (K : ∀ μ', Inv μ' → ix_Ev (tL_0 L xs) Q (1636, [some (vr 25 0), some (vr 9 0), some (vr 10 112), some (vi (nI i))], [], μ')) : ix_Ev (tL_0 L xs) Q (1310, [some (vr 25 0), some (vr 9 0), some (vr 10 112), some (vi (nI i))], [], μ) := by
  obtain ⟨i1, h1⟩ : ∃ j, j = i + 1 := ⟨_, rfl⟩
  have a1 : nI i + 1 = nI i1 := by rw [h1]; exact nI_add i 1
  have b1 : (nI i1).toNatClampNeg = i1 := nI_clamp (by omega)
  have c1 : vp_in (nI i1) L := vp_in_nI (by omega) (by omega)
  simp (decide := true) only [e_L_1310 H, e_L_1311 H, e_L_1312 H, e_L_1313 H, e_L_1314 H, e_L_1315 H, e_L_1316 H, e_L_1319 H, e_L_1320 H, e_L_1321 H, e_L_1322 H, e_L_1323 H, e_L_1324 H, e_L_1325 H, e_L_1328 H, e_L_1331 H, e_L_1332 H, vi, vl, vr, oc_X10_trace, T_X10_trace, oc_X11_trace, T_X11_trace, ix_xld, ix_xln, ix_push, ix_iload, ix_lload, ix_aload, ix_istore, ix_astore, ix_iinc, ix_bin, ix_div, ix_un, ix_i2l, ix_l2i, ix_lbin, ix_lsh, ix_lcmp, ix_dup, ix_dup2, ix_pop, ix_if, ix_cmp, ix_goto, ix_switch, ix_sw, ix_iret, ix_zret, ix_vret, ix_aret, ix_geti, ix_getr, ix_puti, ix_putz, ix_puts, ix_gets, ix_iald, ix_iast, ix_alen, ix_aald, ix_gval, ix_gcod, ix_bald, ix_blen, ix_sald, ix_nret, ix_math2, ix_math1, ix_acopy, Nat.add_assoc, Int32.reduceLT, Int32.reduceLE, Int32.reduceToNatClampNeg, Int32.reduceSub, Int32.reduceAdd, Nat.reduceAdd, Nat.reduceLeDiff, true_or, or_true, or_false, false_or, not_false_eq_true, not_true_eq_false, false_implies, true_implies, implies_true, and_self, mB_0, mB_01, Classical.not_not, Nat.zero_le, List.getElem?_cons_zero, List.getElem?_cons_succ, List.set_cons_zero, List.set_cons_succ, ix_nl, ix_cs, true_and, and_true, Option.toList_some, Option.toList_none, List.cons_append, List.nil_append, a1, b1, c1]
  refine ⟨_, pr_trace _ μ I _ (fun vv μ1 h => ?_), fun r hr => hr⟩
  refine ⟨Nat.le_of_ble_eq_true rfl, Pst vv, h, fun r hr => ?_⟩
  obtain ⟨r1, r2⟩ := r
  have e : r1 = some (vi vv) := hr.1
  subst e
  exact ⟨fun _ => K _ hr.2, fun z => absurd rfl z⟩
theorem lc_sheet (l : Launch) {L : Nat} {xs : Nat → Int32} (H : ix_Mo (tL_0 L xs)) {i : Nat} (hi : i + 6 ≤ L) (hL : L ≤ 3072) (μ : ix_M) (I : Inv μ) (Q : ix_R → Prop) (K : ∀ μ', Inv μ' → ix_Ev (tL_0 L xs) Q (1636, [some (vr 25 0), some (vr 9 0), some (vr 10 112), some (vi (nI i))], [], μ')) : ix_Ev (tL_0 L xs) Q (1333, [some (vr 25 0), some (vr 9 0), some (vr 10 112), some (vi (nI i))], [], μ) := by
  obtain ⟨i1, h1⟩ : ∃ j, j = i + 1 := ⟨_, rfl⟩
  have a1 : nI i + 1 = nI i1 := by rw [h1]; exact nI_add i 1
  have b1 : (nI i1).toNatClampNeg = i1 := nI_clamp (by omega)
  have c1 : vp_in (nI i1) L := vp_in_nI (by omega) (by omega)
  obtain ⟨i2, h2⟩ : ∃ j, j = i + 2 := ⟨_, rfl⟩
  have a2 : nI i + 2 = nI i2 := by rw [h2]; exact nI_add i 2
  have b2 : (nI i2).toNatClampNeg = i2 := nI_clamp (by omega)
  have c2 : vp_in (nI i2) L := vp_in_nI (by omega) (by omega)
  obtain ⟨i3, h3⟩ : ∃ j, j = i + 3 := ⟨_, rfl⟩
  have a3 : nI i + 3 = nI i3 := by rw [h3]; exact nI_add i 3
  have b3 : (nI i3).toNatClampNeg = i3 := nI_clamp (by omega)
  have c3 : vp_in (nI i3) L := vp_in_nI (by omega) (by omega)
  simp (decide := true) only [e_L_1333 H, e_L_1334 H, e_L_1335 H, e_L_1336 H, e_L_1337 H, e_L_1338 H, e_L_1339 H, e_L_1340 H, e_L_1341 H, e_L_1342 H, e_L_1343 H, e_L_1344 H, e_L_1345 H, e_L_1346 H, e_L_1347 H, e_L_1348 H, e_L_1349 H, e_L_1352 H, e_L_1353 H, e_L_1354 H, e_L_1355 H, e_L_1356 H, e_L_1357 H, e_L_1358 H, e_L_1359 H, e_L_1360 H, e_L_1361 H, e_L_1362 H, e_L_1363 H, e_L_1364 H, e_L_1365 H, e_L_1366 H, e_L_1367 H, e_L_1368 H, e_L_1371 H, e_L_1374 H, e_L_1375 H, vi, vl, vr, oc_X10_sheet, T_X10_sheet, oc_X11_sheet, T_X11_sheet, ix_xld, ix_xln, ix_push, ix_iload, ix_lload, ix_aload, ix_istore, ix_astore, ix_iinc, ix_bin, ix_div, ix_un, ix_i2l, ix_l2i, ix_lbin, ix_lsh, ix_lcmp, ix_dup, ix_dup2, ix_pop, ix_if, ix_cmp, ix_goto, ix_switch, ix_sw, ix_iret, ix_zret, ix_vret, ix_aret, ix_geti, ix_getr, ix_puti, ix_putz, ix_puts, ix_gets, ix_iald, ix_iast, ix_alen, ix_aald, ix_gval, ix_gcod, ix_bald, ix_blen, ix_sald, ix_nret, ix_math2, ix_math1, ix_acopy, Nat.add_assoc, Int32.reduceLT, Int32.reduceLE, Int32.reduceToNatClampNeg, Int32.reduceSub, Int32.reduceAdd, Nat.reduceAdd, Nat.reduceLeDiff, true_or, or_true, or_false, false_or, not_false_eq_true, not_true_eq_false, false_implies, true_implies, implies_true, and_self, mB_0, mB_01, Classical.not_not, Nat.zero_le, List.getElem?_cons_zero, List.getElem?_cons_succ, List.set_cons_zero, List.set_cons_succ, ix_nl, ix_cs, true_and, and_true, Option.toList_some, Option.toList_none, List.cons_append, List.nil_append, a1, b1, c1, a2, b2, c2, a3, b3, c3]
  refine ⟨_, pr_sheet _ _ _ μ I _ (fun vv μ1 h => ?_), fun r hr => hr⟩
  refine ⟨Nat.le_of_ble_eq_true rfl, Pst vv, h, fun r hr => ?_⟩
  obtain ⟨r1, r2⟩ := r
  have e : r1 = some (vi vv) := hr.1
  subst e
  exact ⟨fun _ => K _ hr.2, fun z => absurd rfl z⟩
theorem lc_put (l : Launch) {L : Nat} {xs : Nat → Int32} (H : ix_Mo (tL_0 L xs)) {i : Nat} (hi : i + 6 ≤ L) (hL : L ≤ 3072) (μ : ix_M) (I : Inv μ) (Q : ix_R → Prop) (K : ∀ μ', Inv μ' → ix_Ev (tL_0 L xs) Q (1636, [some (vr 25 0), some (vr 9 0), some (vr 10 112), some (vi (nI i))], [], μ')) : ix_Ev (tL_0 L xs) Q (1376, [some (vr 25 0), some (vr 9 0), some (vr 10 112), some (vi (nI i))], [], μ) := by
  obtain ⟨i1, h1⟩ : ∃ j, j = i + 1 := ⟨_, rfl⟩
  have a1 : nI i + 1 = nI i1 := by rw [h1]; exact nI_add i 1
  have b1 : (nI i1).toNatClampNeg = i1 := nI_clamp (by omega)
  have c1 : vp_in (nI i1) L := vp_in_nI (by omega) (by omega)
  obtain ⟨i2, h2⟩ : ∃ j, j = i + 2 := ⟨_, rfl⟩
  have a2 : nI i + 2 = nI i2 := by rw [h2]; exact nI_add i 2
  have b2 : (nI i2).toNatClampNeg = i2 := nI_clamp (by omega)
  have c2 : vp_in (nI i2) L := vp_in_nI (by omega) (by omega)
  obtain ⟨i3, h3⟩ : ∃ j, j = i + 3 := ⟨_, rfl⟩
  have a3 : nI i + 3 = nI i3 := by rw [h3]; exact nI_add i 3
  have b3 : (nI i3).toNatClampNeg = i3 := nI_clamp (by omega)
  have c3 : vp_in (nI i3) L := vp_in_nI (by omega) (by omega)
  simp (decide := true) only [e_L_1376 H, e_L_1377 H, e_L_1378 H, e_L_1379 H, e_L_1380 H, e_L_1381 H, e_L_1382 H, e_L_1383 H, e_L_1384 H, e_L_1385 H, e_L_1386 H, e_L_1387 H, e_L_1388 H, e_L_1389 H, e_L_1390 H, e_L_1391 H, e_L_1392 H, e_L_1395 H, e_L_1396 H, e_L_1397 H, e_L_1398 H, e_L_1399 H, e_L_1400 H, e_L_1401 H, e_L_1402 H, e_L_1403 H, e_L_1404 H, e_L_1405 H, e_L_1406 H, e_L_1407 H, e_L_1408 H, e_L_1409 H, e_L_1410 H, e_L_1411 H, e_L_1414 H, e_L_1417 H, e_L_1418 H, vi, vl, vr, oc_X10_put, T_X10_put, oc_X11_put, T_X11_put, ix_xld, ix_xln, ix_push, ix_iload, ix_lload, ix_aload, ix_istore, ix_astore, ix_iinc, ix_bin, ix_div, ix_un, ix_i2l, ix_l2i, ix_lbin, ix_lsh, ix_lcmp, ix_dup, ix_dup2, ix_pop, ix_if, ix_cmp, ix_goto, ix_switch, ix_sw, ix_iret, ix_zret, ix_vret, ix_aret, ix_geti, ix_getr, ix_puti, ix_putz, ix_puts, ix_gets, ix_iald, ix_iast, ix_alen, ix_aald, ix_gval, ix_gcod, ix_bald, ix_blen, ix_sald, ix_nret, ix_math2, ix_math1, ix_acopy, Nat.add_assoc, Int32.reduceLT, Int32.reduceLE, Int32.reduceToNatClampNeg, Int32.reduceSub, Int32.reduceAdd, Nat.reduceAdd, Nat.reduceLeDiff, true_or, or_true, or_false, false_or, not_false_eq_true, not_true_eq_false, false_implies, true_implies, implies_true, and_self, mB_0, mB_01, Classical.not_not, Nat.zero_le, List.getElem?_cons_zero, List.getElem?_cons_succ, List.set_cons_zero, List.set_cons_succ, ix_nl, ix_cs, true_and, and_true, Option.toList_some, Option.toList_none, List.cons_append, List.nil_append, a1, b1, c1, a2, b2, c2, a3, b3, c3]
  refine ⟨_, pr_put _ _ _ μ I _ (fun vv μ1 h => ?_), fun r hr => hr⟩
  refine ⟨Nat.le_of_ble_eq_true rfl, Pst vv, h, fun r hr => ?_⟩
  obtain ⟨r1, r2⟩ := r
  have e : r1 = some (vi vv) := hr.1
  subst e
  exact ⟨fun _ => K _ hr.2, fun z => absurd rfl z⟩
theorem lc_move (l : Launch) {L : Nat} {xs : Nat → Int32} (H : ix_Mo (tL_0 L xs)) {i : Nat} (hi : i + 6 ≤ L) (hL : L ≤ 3072) (μ : ix_M) (I : Inv μ) (Q : ix_R → Prop) (K : ∀ μ', Inv μ' → ix_Ev (tL_0 L xs) Q (1636, [some (vr 25 0), some (vr 9 0), some (vr 10 112), some (vi (nI i))], [], μ')) : ix_Ev (tL_0 L xs) Q (1419, [some (vr 25 0), some (vr 9 0), some (vr 10 112), some (vi (nI i))], [], μ) := by
  obtain ⟨i1, h1⟩ : ∃ j, j = i + 1 := ⟨_, rfl⟩
  have a1 : nI i + 1 = nI i1 := by rw [h1]; exact nI_add i 1
  have b1 : (nI i1).toNatClampNeg = i1 := nI_clamp (by omega)
  have c1 : vp_in (nI i1) L := vp_in_nI (by omega) (by omega)
  obtain ⟨i2, h2⟩ : ∃ j, j = i + 2 := ⟨_, rfl⟩
  have a2 : nI i + 2 = nI i2 := by rw [h2]; exact nI_add i 2
  have b2 : (nI i2).toNatClampNeg = i2 := nI_clamp (by omega)
  have c2 : vp_in (nI i2) L := vp_in_nI (by omega) (by omega)
  obtain ⟨i3, h3⟩ : ∃ j, j = i + 3 := ⟨_, rfl⟩
  have a3 : nI i + 3 = nI i3 := by rw [h3]; exact nI_add i 3
  have b3 : (nI i3).toNatClampNeg = i3 := nI_clamp (by omega)
  have c3 : vp_in (nI i3) L := vp_in_nI (by omega) (by omega)
  obtain ⟨i4, h4⟩ : ∃ j, j = i + 4 := ⟨_, rfl⟩
  have a4 : nI i + 4 = nI i4 := by rw [h4]; exact nI_add i 4
  have b4 : (nI i4).toNatClampNeg = i4 := nI_clamp (by omega)
  have c4 : vp_in (nI i4) L := vp_in_nI (by omega) (by omega)
  obtain ⟨i5, h5⟩ : ∃ j, j = i + 5 := ⟨_, rfl⟩
  have a5 : nI i + 5 = nI i5 := by rw [h5]; exact nI_add i 5
  have b5 : (nI i5).toNatClampNeg = i5 := nI_clamp (by omega)
  have c5 : vp_in (nI i5) L := vp_in_nI (by omega) (by omega)
  simp (decide := true) only [e_L_1419 H, e_L_1420 H, e_L_1421 H, e_L_1422 H, e_L_1423 H, e_L_1424 H, e_L_1425 H, e_L_1426 H, e_L_1427 H, e_L_1428 H, e_L_1429 H, e_L_1430 H, e_L_1431 H, e_L_1432 H, e_L_1433 H, e_L_1434 H, e_L_1435 H, e_L_1436 H, e_L_1437 H, e_L_1438 H, e_L_1439 H, e_L_1440 H, e_L_1441 H, e_L_1442 H, e_L_1443 H, e_L_1444 H, e_L_1445 H, e_L_1448 H, e_L_1449 H, e_L_1450 H, e_L_1451 H, e_L_1452 H, e_L_1453 H, e_L_1454 H, e_L_1455 H, e_L_1456 H, e_L_1457 H, e_L_1458 H, e_L_1459 H, e_L_1460 H, e_L_1461 H, e_L_1462 H, e_L_1463 H, e_L_1464 H, e_L_1465 H, e_L_1466 H, e_L_1467 H, e_L_1468 H, e_L_1469 H, e_L_1470 H, e_L_1471 H, e_L_1472 H, e_L_1473 H, e_L_1474 H, e_L_1477 H, e_L_1480 H, e_L_1481 H, vi, vl, vr, oc_X10_move, T_X10_move, oc_X11_move, T_X11_move, ix_xld, ix_xln, ix_push, ix_iload, ix_lload, ix_aload, ix_istore, ix_astore, ix_iinc, ix_bin, ix_div, ix_un, ix_i2l, ix_l2i, ix_lbin, ix_lsh, ix_lcmp, ix_dup, ix_dup2, ix_pop, ix_if, ix_cmp, ix_goto, ix_switch, ix_sw, ix_iret, ix_zret, ix_vret, ix_aret, ix_geti, ix_getr, ix_puti, ix_putz, ix_puts, ix_gets, ix_iald, ix_iast, ix_alen, ix_aald, ix_gval, ix_gcod, ix_bald, ix_blen, ix_sald, ix_nret, ix_math2, ix_math1, ix_acopy, Nat.add_assoc, Int32.reduceLT, Int32.reduceLE, Int32.reduceToNatClampNeg, Int32.reduceSub, Int32.reduceAdd, Nat.reduceAdd, Nat.reduceLeDiff, true_or, or_true, or_false, false_or, not_false_eq_true, not_true_eq_false, false_implies, true_implies, implies_true, and_self, mB_0, mB_01, Classical.not_not, Nat.zero_le, List.getElem?_cons_zero, List.getElem?_cons_succ, List.set_cons_zero, List.set_cons_succ, ix_nl, ix_cs, true_and, and_true, Option.toList_some, Option.toList_none, List.cons_append, List.nil_append, a1, b1, c1, a2, b2, c2, a3, b3, c3, a4, b4, c4, a5, b5, c5]
  refine ⟨_, pr_move _ _ _ _ _ μ I _ (fun vv μ1 h => ?_), fun r hr => hr⟩
  refine ⟨Nat.le_of_ble_eq_true rfl, Pst vv, h, fun r hr => ?_⟩
  obtain ⟨r1, r2⟩ := r
  have e : r1 = some (vi vv) := hr.1
  subst e
  exact ⟨fun _ => K _ hr.2, fun z => absurd rfl z⟩
theorem lc_lies (l : Launch) {L : Nat} {xs : Nat → Int32} (H : ix_Mo (tL_0 L xs)) {i : Nat} (hi : i + 6 ≤ L) (hL : L ≤ 3072) (μ : ix_M) (I : Inv μ) (Q : ix_R → Prop) (K : ∀ μ', Inv μ' → ix_Ev (tL_0 L xs) Q (1636, [some (vr 25 0), some (vr 9 0), some (vr 10 112), some (vi (nI i))], [], μ')) : ix_Ev (tL_0 L xs) Q (1482, [some (vr 25 0), some (vr 9 0), some (vr 10 112), some (vi (nI i))], [], μ) := by
  obtain ⟨i1, h1⟩ : ∃ j, j = i + 1 := ⟨_, rfl⟩
  have a1 : nI i + 1 = nI i1 := by rw [h1]; exact nI_add i 1
  have b1 : (nI i1).toNatClampNeg = i1 := nI_clamp (by omega)
  have c1 : vp_in (nI i1) L := vp_in_nI (by omega) (by omega)
  simp (decide := true) only [e_L_1482 H, e_L_1483 H, e_L_1484 H, e_L_1485 H, e_L_1486 H, e_L_1487 H, e_L_1488 H, e_L_1491 H, e_L_1492 H, e_L_1493 H, e_L_1494 H, e_L_1495 H, e_L_1496 H, e_L_1497 H, e_L_1500 H, e_L_1503 H, e_L_1504 H, vi, vl, vr, oc_X10_lies, T_X10_lies, oc_X11_lies, T_X11_lies, ix_xld, ix_xln, ix_push, ix_iload, ix_lload, ix_aload, ix_istore, ix_astore, ix_iinc, ix_bin, ix_div, ix_un, ix_i2l, ix_l2i, ix_lbin, ix_lsh, ix_lcmp, ix_dup, ix_dup2, ix_pop, ix_if, ix_cmp, ix_goto, ix_switch, ix_sw, ix_iret, ix_zret, ix_vret, ix_aret, ix_geti, ix_getr, ix_puti, ix_putz, ix_puts, ix_gets, ix_iald, ix_iast, ix_alen, ix_aald, ix_gval, ix_gcod, ix_bald, ix_blen, ix_sald, ix_nret, ix_math2, ix_math1, ix_acopy, Nat.add_assoc, Int32.reduceLT, Int32.reduceLE, Int32.reduceToNatClampNeg, Int32.reduceSub, Int32.reduceAdd, Nat.reduceAdd, Nat.reduceLeDiff, true_or, or_true, or_false, false_or, not_false_eq_true, not_true_eq_false, false_implies, true_implies, implies_true, and_self, mB_0, mB_01, Classical.not_not, Nat.zero_le, List.getElem?_cons_zero, List.getElem?_cons_succ, List.set_cons_zero, List.set_cons_succ, ix_nl, ix_cs, true_and, and_true, Option.toList_some, Option.toList_none, List.cons_append, List.nil_append, a1, b1, c1]
  refine ⟨_, pr_lies _ μ I _ (fun vv μ1 h => ?_), fun r hr => hr⟩
  refine ⟨Nat.le_of_ble_eq_true rfl, Pst vv, h, fun r hr => ?_⟩
  obtain ⟨r1, r2⟩ := r
  have e : r1 = some (vi vv) := hr.1
  subst e
  exact ⟨fun _ => K _ hr.2, fun z => absurd rfl z⟩
theorem lc_judge (l : Launch) {L : Nat} {xs : Nat → Int32} (H : ix_Mo (tL_0 L xs)) {i : Nat} (hi : i + 6 ≤ L) (hL : L ≤ 3072) (μ : ix_M) (I : Inv μ) (Q : ix_R → Prop) (K : ∀ μ', Inv μ' → ix_Ev (tL_0 L xs) Q (1636, [some (vr 25 0), some (vr 9 0), some (vr 10 112), some (vi (nI i))], [], μ')) : ix_Ev (tL_0 L xs) Q (1505, [some (vr 25 0), some (vr 9 0), some (vr 10 112), some (vi (nI i))], [], μ) := by
  obtain ⟨i1, h1⟩ : ∃ j, j = i + 1 := ⟨_, rfl⟩
  have a1 : nI i + 1 = nI i1 := by rw [h1]; exact nI_add i 1
  have b1 : (nI i1).toNatClampNeg = i1 := nI_clamp (by omega)
  have c1 : vp_in (nI i1) L := vp_in_nI (by omega) (by omega)
  simp (decide := true) only [e_L_1505 H, e_L_1506 H, e_L_1507 H, e_L_1508 H, e_L_1509 H, e_L_1510 H, e_L_1511 H, e_L_1514 H, e_L_1515 H, e_L_1516 H, e_L_1517 H, e_L_1518 H, e_L_1519 H, e_L_1520 H, e_L_1523 H, e_L_1526 H, e_L_1527 H, vi, vl, vr, oc_X10_judge, T_X10_judge, oc_X11_judge, T_X11_judge, ix_xld, ix_xln, ix_push, ix_iload, ix_lload, ix_aload, ix_istore, ix_astore, ix_iinc, ix_bin, ix_div, ix_un, ix_i2l, ix_l2i, ix_lbin, ix_lsh, ix_lcmp, ix_dup, ix_dup2, ix_pop, ix_if, ix_cmp, ix_goto, ix_switch, ix_sw, ix_iret, ix_zret, ix_vret, ix_aret, ix_geti, ix_getr, ix_puti, ix_putz, ix_puts, ix_gets, ix_iald, ix_iast, ix_alen, ix_aald, ix_gval, ix_gcod, ix_bald, ix_blen, ix_sald, ix_nret, ix_math2, ix_math1, ix_acopy, Nat.add_assoc, Int32.reduceLT, Int32.reduceLE, Int32.reduceToNatClampNeg, Int32.reduceSub, Int32.reduceAdd, Nat.reduceAdd, Nat.reduceLeDiff, true_or, or_true, or_false, false_or, not_false_eq_true, not_true_eq_false, false_implies, true_implies, implies_true, and_self, mB_0, mB_01, Classical.not_not, Nat.zero_le, List.getElem?_cons_zero, List.getElem?_cons_succ, List.set_cons_zero, List.set_cons_succ, ix_nl, ix_cs, true_and, and_true, Option.toList_some, Option.toList_none, List.cons_append, List.nil_append, a1, b1, c1]
  refine ⟨_, pr_judge _ μ I _ (fun vv μ1 h => ?_), fun r hr => hr⟩
  refine ⟨Nat.le_of_ble_eq_true rfl, Pst vv, h, fun r hr => ?_⟩
  obtain ⟨r1, r2⟩ := r
  have e : r1 = some (vi vv) := hr.1
  subst e
  exact ⟨fun _ => K _ hr.2, fun z => absurd rfl z⟩
theorem lc_image (l : Launch) {L : Nat} {xs : Nat → Int32} (H : ix_Mo (tL_0 L xs)) {i : Nat} (hi : i + 6 ≤ L) (hL : L ≤ 3072) (μ : ix_M) (I : Inv μ) (Q : ix_R → Prop) (K : ∀ μ', Inv μ' → ix_Ev (tL_0 L xs) Q (1636, [some (vr 25 0), some (vr 9 0), some (vr 10 112), some (vi (nI i))], [], μ')) : ix_Ev (tL_0 L xs) Q (1528, [some (vr 25 0), some (vr 9 0), some (vr 10 112), some (vi (nI i))], [], μ) := by
  simp (decide := true) only [e_L_1528 H, e_L_1529 H, e_L_1532 H, e_L_1533 H, e_L_1536 H, e_L_1539 H, e_L_1540 H, vi, vl, vr, oc_X10_image, T_X10_image, oc_X11_image, T_X11_image, ix_xld, ix_xln, ix_push, ix_iload, ix_lload, ix_aload, ix_istore, ix_astore, ix_iinc, ix_bin, ix_div, ix_un, ix_i2l, ix_l2i, ix_lbin, ix_lsh, ix_lcmp, ix_dup, ix_dup2, ix_pop, ix_if, ix_cmp, ix_goto, ix_switch, ix_sw, ix_iret, ix_zret, ix_vret, ix_aret, ix_geti, ix_getr, ix_puti, ix_putz, ix_puts, ix_gets, ix_iald, ix_iast, ix_alen, ix_aald, ix_gval, ix_gcod, ix_bald, ix_blen, ix_sald, ix_nret, ix_math2, ix_math1, ix_acopy, Nat.add_assoc, Int32.reduceLT, Int32.reduceLE, Int32.reduceToNatClampNeg, Int32.reduceSub, Int32.reduceAdd, Nat.reduceAdd, Nat.reduceLeDiff, true_or, or_true, or_false, false_or, not_false_eq_true, not_true_eq_false, false_implies, true_implies, implies_true, and_self, mB_0, mB_01, Classical.not_not, Nat.zero_le, List.getElem?_cons_zero, List.getElem?_cons_succ, List.set_cons_zero, List.set_cons_succ, ix_nl, ix_cs, true_and, and_true, Option.toList_some, Option.toList_none, List.cons_append, List.nil_append]
  refine ⟨_, pr_image μ I _ (fun vv μ1 h => ?_), fun r hr => hr⟩
  refine ⟨Nat.le_of_ble_eq_true rfl, Pst vv, h, fun r hr => ?_⟩
  obtain ⟨r1, r2⟩ := r
  have e : r1 = some (vi vv) := hr.1
  subst e
  exact ⟨fun _ => K _ hr.2, fun z => absurd rfl z⟩
theorem lc_restore (l : Launch) {L : Nat} {xs : Nat → Int32} (H : ix_Mo (tL_0 L xs)) {i : Nat} (hi : i + 6 ≤ L) (hL : L ≤ 3072) (μ : ix_M) (I : Inv μ) (Q : ix_R → Prop) (K : ∀ μ', Inv μ' → ix_Ev (tL_0 L xs) Q (1636, [some (vr 25 0), some (vr 9 0), some (vr 10 112), some (vi (nI i))], [], μ')) : ix_Ev (tL_0 L xs) Q (1541, [some (vr 25 0), some (vr 9 0), some (vr 10 112), some (vi (nI i))], [], μ) := by
  simp (decide := true) only [e_L_1541 H, e_L_1542 H, e_L_1545 H, e_L_1546 H, e_L_1549 H, e_L_1552 H, e_L_1553 H, vi, vl, vr, oc_X10_restore, T_X10_restore, oc_X11_restore, T_X11_restore, ix_xld, ix_xln, ix_push, ix_iload, ix_lload, ix_aload, ix_istore, ix_astore, ix_iinc, ix_bin, ix_div, ix_un, ix_i2l, ix_l2i, ix_lbin, ix_lsh, ix_lcmp, ix_dup, ix_dup2, ix_pop, ix_if, ix_cmp, ix_goto, ix_switch, ix_sw, ix_iret, ix_zret, ix_vret, ix_aret, ix_geti, ix_getr, ix_puti, ix_putz, ix_puts, ix_gets, ix_iald, ix_iast, ix_alen, ix_aald, ix_gval, ix_gcod, ix_bald, ix_blen, ix_sald, ix_nret, ix_math2, ix_math1, ix_acopy, Nat.add_assoc, Int32.reduceLT, Int32.reduceLE, Int32.reduceToNatClampNeg, Int32.reduceSub, Int32.reduceAdd, Nat.reduceAdd, Nat.reduceLeDiff, true_or, or_true, or_false, false_or, not_false_eq_true, not_true_eq_false, false_implies, true_implies, implies_true, and_self, mB_0, mB_01, Classical.not_not, Nat.zero_le, List.getElem?_cons_zero, List.getElem?_cons_succ, List.set_cons_zero, List.set_cons_succ, ix_nl, ix_cs, true_and, and_true, Option.toList_some, Option.toList_none, List.cons_append, List.nil_append]
  refine ⟨_, pr_restore μ I _ (fun vv μ1 h => ?_), fun r hr => hr⟩
  refine ⟨Nat.le_of_ble_eq_true rfl, Pst vv, h, fun r hr => ?_⟩
  obtain ⟨r1, r2⟩ := r
  have e : r1 = some (vi vv) := hr.1
  subst e
  exact ⟨fun _ => K _ hr.2, fun z => absurd rfl z⟩
theorem lc_tell (l : Launch) {L : Nat} {xs : Nat → Int32} (H : ix_Mo (tL_0 L xs)) {i : Nat} (hi : i + 6 ≤ L) (hL : L ≤ 3072) (μ : ix_M) (I : Inv μ) (Q : ix_R → Prop) (K : ∀ μ', Inv μ' → ix_Ev (tL_0 L xs) Q (1636, [some (vr 25 0), some (vr 9 0), some (vr 10 112), some (vi (nI i))], [], μ')) : ix_Ev (tL_0 L xs) Q (1554, [some (vr 25 0), some (vr 9 0), some (vr 10 112), some (vi (nI i))], [], μ) := by
  obtain ⟨i1, h1⟩ : ∃ j, j = i + 1 := ⟨_, rfl⟩
  have a1 : nI i + 1 = nI i1 := by rw [h1]; exact nI_add i 1
  have b1 : (nI i1).toNatClampNeg = i1 := nI_clamp (by omega)
  have c1 : vp_in (nI i1) L := vp_in_nI (by omega) (by omega)
  simp (decide := true) only [e_L_1554 H, e_L_1555 H, e_L_1556 H, e_L_1557 H, e_L_1558 H, e_L_1559 H, e_L_1560 H, e_L_1563 H, e_L_1564 H, e_L_1565 H, e_L_1566 H, e_L_1567 H, e_L_1568 H, e_L_1569 H, e_L_1572 H, e_L_1575 H, e_L_1576 H, vi, vl, vr, oc_X10_tell, T_X10_tell, oc_X11_tell, T_X11_tell, ix_xld, ix_xln, ix_push, ix_iload, ix_lload, ix_aload, ix_istore, ix_astore, ix_iinc, ix_bin, ix_div, ix_un, ix_i2l, ix_l2i, ix_lbin, ix_lsh, ix_lcmp, ix_dup, ix_dup2, ix_pop, ix_if, ix_cmp, ix_goto, ix_switch, ix_sw, ix_iret, ix_zret, ix_vret, ix_aret, ix_geti, ix_getr, ix_puti, ix_putz, ix_puts, ix_gets, ix_iald, ix_iast, ix_alen, ix_aald, ix_gval, ix_gcod, ix_bald, ix_blen, ix_sald, ix_nret, ix_math2, ix_math1, ix_acopy, Nat.add_assoc, Int32.reduceLT, Int32.reduceLE, Int32.reduceToNatClampNeg, Int32.reduceSub, Int32.reduceAdd, Nat.reduceAdd, Nat.reduceLeDiff, true_or, or_true, or_false, false_or, not_false_eq_true, not_true_eq_false, false_implies, true_implies, implies_true, and_self, mB_0, mB_01, Classical.not_not, Nat.zero_le, List.getElem?_cons_zero, List.getElem?_cons_succ, List.set_cons_zero, List.set_cons_succ, ix_nl, ix_cs, true_and, and_true, Option.toList_some, Option.toList_none, List.cons_append, List.nil_append, a1, b1, c1]
  refine ⟨_, pr_tell _ μ I _ (fun vv μ1 h => ?_), fun r hr => hr⟩
  refine ⟨Nat.le_of_ble_eq_true rfl, Pst vv, h, fun r hr => ?_⟩
  obtain ⟨r1, r2⟩ := r
  have e : r1 = some (vi vv) := hr.1
  subst e
  exact ⟨fun _ => K _ hr.2, fun z => absurd rfl z⟩
theorem lc_check (l : Launch) {L : Nat} {xs : Nat → Int32} (H : ix_Mo (tL_0 L xs)) {i : Nat} (hi : i + 6 ≤ L) (hL : L ≤ 3072) (μ : ix_M) (I : Inv μ) (Q : ix_R → Prop) (K : ∀ μ', Inv μ' → ix_Ev (tL_0 L xs) Q (1636, [some (vr 25 0), some (vr 9 0), some (vr 10 112), some (vi (nI i))], [], μ')) : ix_Ev (tL_0 L xs) Q (1577, [some (vr 25 0), some (vr 9 0), some (vr 10 112), some (vi (nI i))], [], μ) := by
  simp (decide := true) only [e_L_1577 H, e_L_1578 H, e_L_1581 H, e_L_1582 H, e_L_1585 H, e_L_1588 H, e_L_1589 H, vi, vl, vr, oc_X10_check, T_X10_check, oc_X11_check, T_X11_check, ix_xld, ix_xln, ix_push, ix_iload, ix_lload, ix_aload, ix_istore, ix_astore, ix_iinc, ix_bin, ix_div, ix_un, ix_i2l, ix_l2i, ix_lbin, ix_lsh, ix_lcmp, ix_dup, ix_dup2, ix_pop, ix_if, ix_cmp, ix_goto, ix_switch, ix_sw, ix_iret, ix_zret, ix_vret, ix_aret, ix_geti, ix_getr, ix_puti, ix_putz, ix_puts, ix_gets, ix_iald, ix_iast, ix_alen, ix_aald, ix_gval, ix_gcod, ix_bald, ix_blen, ix_sald, ix_nret, ix_math2, ix_math1, ix_acopy, Nat.add_assoc, Int32.reduceLT, Int32.reduceLE, Int32.reduceToNatClampNeg, Int32.reduceSub, Int32.reduceAdd, Nat.reduceAdd, Nat.reduceLeDiff, true_or, or_true, or_false, false_or, not_false_eq_true, not_true_eq_false, false_implies, true_implies, implies_true, and_self, mB_0, mB_01, Classical.not_not, Nat.zero_le, List.getElem?_cons_zero, List.getElem?_cons_succ, List.set_cons_zero, List.set_cons_succ, ix_nl, ix_cs, true_and, and_true, Option.toList_some, Option.toList_none, List.cons_append, List.nil_append]
  refine ⟨_, pr_check μ I _ (fun vv μ1 h => ?_), fun r hr => hr⟩
  refine ⟨Nat.le_of_ble_eq_true rfl, Pst vv, h, fun r hr => ?_⟩
  obtain ⟨r1, r2⟩ := r
  have e : r1 = some (vi vv) := hr.1
  subst e
  exact ⟨fun _ => K _ hr.2, fun z => absurd rfl z⟩
theorem lc_count (l : Launch) {L : Nat} {xs : Nat → Int32} (H : ix_Mo (tL_0 L xs)) {i : Nat} (hi : i + 6 ≤ L) (hL : L ≤ 3072) (μ : ix_M) (I : Inv μ) (Q : ix_R → Prop) (K : ∀ μ', Inv μ' → ix_Ev (tL_0 L xs) Q (1636, [some (vr 25 0), some (vr 9 0), some (vr 10 112), some (vi (nI i))], [], μ')) : ix_Ev (tL_0 L xs) Q (1590, [some (vr 25 0), some (vr 9 0), some (vr 10 112), some (vi (nI i))], [], μ) := by
  obtain ⟨i1, h1⟩ : ∃ j, j = i + 1 := ⟨_, rfl⟩
  have a1 : nI i + 1 = nI i1 := by rw [h1]; exact nI_add i 1
  have b1 : (nI i1).toNatClampNeg = i1 := nI_clamp (by omega)
  have c1 : vp_in (nI i1) L := vp_in_nI (by omega) (by omega)
  simp (decide := true) only [e_L_1590 H, e_L_1591 H, e_L_1592 H, e_L_1593 H, e_L_1594 H, e_L_1595 H, e_L_1596 H, e_L_1599 H, e_L_1600 H, e_L_1601 H, e_L_1602 H, e_L_1603 H, e_L_1604 H, e_L_1605 H, e_L_1608 H, e_L_1611 H, e_L_1612 H, vi, vl, vr, oc_X10_count, T_X10_count, oc_X11_count, T_X11_count, ix_xld, ix_xln, ix_push, ix_iload, ix_lload, ix_aload, ix_istore, ix_astore, ix_iinc, ix_bin, ix_div, ix_un, ix_i2l, ix_l2i, ix_lbin, ix_lsh, ix_lcmp, ix_dup, ix_dup2, ix_pop, ix_if, ix_cmp, ix_goto, ix_switch, ix_sw, ix_iret, ix_zret, ix_vret, ix_aret, ix_geti, ix_getr, ix_puti, ix_putz, ix_puts, ix_gets, ix_iald, ix_iast, ix_alen, ix_aald, ix_gval, ix_gcod, ix_bald, ix_blen, ix_sald, ix_nret, ix_math2, ix_math1, ix_acopy, Nat.add_assoc, Int32.reduceLT, Int32.reduceLE, Int32.reduceToNatClampNeg, Int32.reduceSub, Int32.reduceAdd, Nat.reduceAdd, Nat.reduceLeDiff, true_or, or_true, or_false, false_or, not_false_eq_true, not_true_eq_false, false_implies, true_implies, implies_true, and_self, mB_0, mB_01, Classical.not_not, Nat.zero_le, List.getElem?_cons_zero, List.getElem?_cons_succ, List.set_cons_zero, List.set_cons_succ, ix_nl, ix_cs, true_and, and_true, Option.toList_some, Option.toList_none, List.cons_append, List.nil_append, a1, b1, c1]
  refine ⟨_, pr_count _ μ I _ (fun vv μ1 h => ?_), fun r hr => hr⟩
  refine ⟨Nat.le_of_ble_eq_true rfl, Pst vv, h, fun r hr => ?_⟩
  obtain ⟨r1, r2⟩ := r
  have e : r1 = some (vi vv) := hr.1
  subst e
  exact ⟨fun _ => K _ hr.2, fun z => absurd rfl z⟩
theorem lc_told (l : Launch) {L : Nat} {xs : Nat → Int32} (H : ix_Mo (tL_0 L xs)) {i : Nat} (hi : i + 6 ≤ L) (hL : L ≤ 3072) (μ : ix_M) (I : Inv μ) (Q : ix_R → Prop) (K : ∀ μ', Inv μ' → ix_Ev (tL_0 L xs) Q (1636, [some (vr 25 0), some (vr 9 0), some (vr 10 112), some (vi (nI i))], [], μ')) : ix_Ev (tL_0 L xs) Q (1613, [some (vr 25 0), some (vr 9 0), some (vr 10 112), some (vi (nI i))], [], μ) := by
  obtain ⟨i1, h1⟩ : ∃ j, j = i + 1 := ⟨_, rfl⟩
  have a1 : nI i + 1 = nI i1 := by rw [h1]; exact nI_add i 1
  have b1 : (nI i1).toNatClampNeg = i1 := nI_clamp (by omega)
  have c1 : vp_in (nI i1) L := vp_in_nI (by omega) (by omega)
  simp (decide := true) only [e_L_1613 H, e_L_1614 H, e_L_1615 H, e_L_1616 H, e_L_1617 H, e_L_1618 H, e_L_1619 H, e_L_1622 H, e_L_1623 H, e_L_1624 H, e_L_1625 H, e_L_1626 H, e_L_1627 H, e_L_1628 H, e_L_1631 H, e_L_1634 H, e_L_1635 H, vi, vl, vr, oc_X10_told, T_X10_told, oc_X11_told, T_X11_told, ix_xld, ix_xln, ix_push, ix_iload, ix_lload, ix_aload, ix_istore, ix_astore, ix_iinc, ix_bin, ix_div, ix_un, ix_i2l, ix_l2i, ix_lbin, ix_lsh, ix_lcmp, ix_dup, ix_dup2, ix_pop, ix_if, ix_cmp, ix_goto, ix_switch, ix_sw, ix_iret, ix_zret, ix_vret, ix_aret, ix_geti, ix_getr, ix_puti, ix_putz, ix_puts, ix_gets, ix_iald, ix_iast, ix_alen, ix_aald, ix_gval, ix_gcod, ix_bald, ix_blen, ix_sald, ix_nret, ix_math2, ix_math1, ix_acopy, Nat.add_assoc, Int32.reduceLT, Int32.reduceLE, Int32.reduceToNatClampNeg, Int32.reduceSub, Int32.reduceAdd, Nat.reduceAdd, Nat.reduceLeDiff, true_or, or_true, or_false, false_or, not_false_eq_true, not_true_eq_false, false_implies, true_implies, implies_true, and_self, mB_0, mB_01, Classical.not_not, Nat.zero_le, List.getElem?_cons_zero, List.getElem?_cons_succ, List.set_cons_zero, List.set_cons_succ, ix_nl, ix_cs, true_and, and_true, Option.toList_some, Option.toList_none, List.cons_append, List.nil_append, a1, b1, c1]
  refine ⟨_, pr_told _ μ I _ (fun vv μ1 h => ?_), fun r hr => hr⟩
  refine ⟨Nat.le_of_ble_eq_true rfl, Pst vv, h, fun r hr => ?_⟩
  obtain ⟨r1, r2⟩ := r
  have e : r1 = some (vi vv) := hr.1
  subst e
  exact ⟨fun _ => K _ hr.2, fun z => absurd rfl z⟩
