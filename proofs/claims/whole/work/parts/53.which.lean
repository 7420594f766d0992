/-! ===== calls, class against model: which, lay ===== -/
theorem fUn_cong {ds dl : List Int32} {f g : Nat → Int32} : ∀ (k i : Nat) (v : WV), (∀ j, j < i + k → f j = g j) → fUn ds dl f k i v = fUn ds dl g k i v
  | 0, _, _, _ => rfl
  | k + 1, i, v, h => by
    rw [fUn, fUn, h i (by omega), fUn_cong k (i + 1) _ (fun j hj => h j (by omega))]
def o_X10_which : List (Nat × ix_Op) := [
  (0, ix_iload 1 1),
  (1, ix_push (vi 3) 2),
  (2, oc_X10_outside 5),
  (5, ix_if (fun x => x = 0) 8 16),
  (8, ix_aload 0 9),
  (9, ix_iload 2 10),
  (10, oc_X10_noBoat 13),
  (13, ix_if (fun x => x = 0) 22 16),
  (16, ix_aload 0 17),
  (17, ix_push (vi 1) 18),
  (18, oc_X10_error 21),
  (21, ix_iret),
  (22, ix_aload 0 23),
  (23, ix_getr 9 22 (fun _ => 98) 26),
  (26, ix_iload 1 27),
  (27, ix_aald 22 98 4 4 (fun i => 99 + 3 * i) 28),
  (28, oc_X5_isMissing 31),
  (31, ix_if (fun x => x = 0) 40 34),
  (34, ix_aload 0 35),
  (35, ix_push (vi 2) 36),
  (36, oc_X10_error 39),
  (39, ix_iret),
  (40, ix_push (vi 0) 41),
  (41, ix_istore 3 42),
  (42, ix_push (vi 0) 43),
  (43, ix_istore 4 45),
  (45, ix_iload 4 47),
  (47, ix_push (vi 7) 49),
  (49, ix_cmp (fun x y => y ≤ x) 90 52),
  (52, ix_aload 0 53),
  (53, ix_aload 0 54),
  (54, ix_push (vi 2) 55),
  (55, ix_iload 2 56),
  (56, ix_iload 4 58),
  (58, oc_X10_suppose 61),
  (61, ix_aload 0 62),
  (62, ix_getr 9 22 (fun _ => 98) 65),
  (65, ix_iload 1 66),
  (66, ix_aald 22 98 4 4 (fun i => 99 + 3 * i) 67),
  (67, ix_getr 4 3 (fun k => k + 1) 70),
  (70, oc_X10_firstUnlike 73),
  (73, ix_push (vi (-1)) 74),
  (74, ix_cmp (fun x y => x = y) 77 84),
  (77, ix_iload 3 78),
  (78, ix_push (vi 1) 79),
  (79, ix_iload 4 81),
  (81, ix_bin (fun x y => x <<< (y &&& 31)) 82),
  (82, ix_bin (fun x y => x ||| y) 83),
  (83, ix_istore 3 84),
  (84, ix_iinc 4 1 87),
  (87, ix_goto 45),
  (90, ix_iload 3 91),
  (91, ix_iret)]
set_option maxRecDepth 20000 in
theorem a_X10_which (l : Launch) : ix_AllS l cX10_which 5 RX10 60 (some .int) o_X10_which :=
  .cons (ix_s_iload_n dX10_which_0 rfl) <|
  .cons (ix_s_iconst dX10_which_1 (by decide +kernel)) <|
  .cons (oc_X10_outside_s (ix_s_calls (k_X10_outside l) (by decide) (by decide) tw_291 tw_1 tw_289 tw_290 ⟨by decide, by decide, by decide +kernel⟩ (fun _ => rfl) dX10_which_2)) <|
  .cons (ix_s_if_ne dX10_which_5 (by decide)) <|
  .cons (ix_s_aload_n dX10_which_8 rfl) <|
  .cons (ix_s_iload_n dX10_which_9 rfl) <|
  .cons (oc_X10_noBoat_s (ix_s_callv (t := 9) (k_X10_noBoat l) (by decide) (by decide) tw_369 tw_1 tw_366 tw_368 tp_1 ⟨by decide, by decide, by decide +kernel⟩ (by decide) rfl rfl (fun _ => ⟨_, _, rfl, rfl⟩) dX10_which_10)) <|
  .cons (ix_s_if_eq dX10_which_13 (by decide)) <|
  .cons (ix_s_aload_n dX10_which_16 rfl) <|
  .cons (ix_s_iconst dX10_which_17 (by decide +kernel)) <|
  .cons (oc_X10_error_s (ix_s_callv (t := 9) (k_X10_error l) (by decide) (by decide) tw_295 tw_1 tw_292 tw_294 tp_0 ⟨by decide, by decide, by decide +kernel⟩ (by decide) rfl rfl (fun _ => ⟨_, _, rfl, rfl⟩) dX10_which_18)) <|
  .cons (ix_s_iret dX10_which_21 rfl) <|
  .cons (ix_s_aload_n dX10_which_22 rfl) <|
  .cons (ix_s_getr (j := 7) tu_X10 rfl (by decide) (by decide) tw_258 rfl ts_9_7_r dX10_which_23) <|
  .cons (ix_s_iload_n dX10_which_26 rfl) <|
  .cons (ix_s_aald (E0 := ix_tys) (by decide) (by decide +kernel) (fun _ => rfl) (by decide +kernel) dX10_which_27) <|
  .cons (oc_X5_isMissing_s (ix_s_callv (t := 4) (k_X5_isMissing l) (by decide) (by decide) tw_739 tw_11 tw_736 tw_737 tw_738 ⟨by decide, by decide, by decide +kernel⟩ (by decide) rfl rfl (fun _ => ⟨_, _, rfl, rfl⟩) dX10_which_28)) <|
  .cons (ix_s_if_eq dX10_which_31 (by decide)) <|
  .cons (ix_s_aload_n dX10_which_34 rfl) <|
  .cons (ix_s_iconst dX10_which_35 (by decide +kernel)) <|
  .cons (oc_X10_error_s (ix_s_callv (t := 9) (k_X10_error l) (by decide) (by decide) tw_295 tw_1 tw_292 tw_294 tp_0 ⟨by decide, by decide, by decide +kernel⟩ (by decide) rfl rfl (fun _ => ⟨_, _, rfl, rfl⟩) dX10_which_36)) <|
  .cons (ix_s_iret dX10_which_39 rfl) <|
  .cons (ix_s_iconst dX10_which_40 (by decide +kernel)) <|
  .cons (ix_s_istore_n dX10_which_41 rfl (by decide)) <|
  .cons (ix_s_iconst dX10_which_42 (by decide +kernel)) <|
  .cons (ix_s_istore dX10_which_43 (by decide)) <|
  .cons (ix_s_iload dX10_which_45) <|
  .cons (ix_s_bipush dX10_which_47 (by decide +kernel)) <|
  .cons (ix_s_cmp_ge dX10_which_49 (by decide)) <|
  .cons (ix_s_aload_n dX10_which_52 rfl) <|
  .cons (ix_s_aload_n dX10_which_53 rfl) <|
  .cons (ix_s_iconst dX10_which_54 (by decide +kernel)) <|
  .cons (ix_s_iload_n dX10_which_55 rfl) <|
  .cons (ix_s_iload dX10_which_56) <|
  .cons (oc_X10_suppose_s (ix_s_callv (t := 9) (k_X10_suppose l) (by decide) (by decide) tw_667 tw_1 tw_664 tw_666 tp_10 ⟨by decide, by decide, by decide +kernel⟩ (by decide) rfl rfl (fun _ => ⟨_, _, rfl, rfl⟩) dX10_which_58)) <|
  .cons (ix_s_aload_n dX10_which_61 rfl) <|
  .cons (ix_s_getr (j := 7) tu_X10 rfl (by decide) (by decide) tw_258 rfl ts_9_7_r dX10_which_62) <|
  .cons (ix_s_iload_n dX10_which_65 rfl) <|
  .cons (ix_s_aald (E0 := ix_tys) (by decide) (by decide +kernel) (fun _ => rfl) (by decide +kernel) dX10_which_66) <|
  .cons (ix_s_getr (j := 0) tu_X5 rfl (by decide) (by decide) tw_243 rfl ts_4_0_r dX10_which_67) <|
  .cons (oc_X10_firstUnlike_s (ix_s_callv (t := 9) (k_X10_firstUnlike l) (by decide) (by decide) tw_743 tw_1 tw_740 tw_742 tp_15 ⟨by decide, by decide, by decide +kernel⟩ (by decide) rfl rfl (fun _ => ⟨_, _, rfl, rfl⟩) dX10_which_70)) <|
  .cons (ix_s_iconst dX10_which_73 (by decide +kernel)) <|
  .cons (ix_s_cmp_ne dX10_which_74 (by decide)) <|
  .cons (ix_s_iload_n dX10_which_77 rfl) <|
  .cons (ix_s_iconst dX10_which_78 (by decide +kernel)) <|
  .cons (ix_s_iload dX10_which_79) <|
  .cons (ix_s_ishl dX10_which_81) <|
  .cons (ix_s_ior dX10_which_82) <|
  .cons (ix_s_istore_n dX10_which_83 rfl (by decide)) <|
  .cons (ix_s_iinc dX10_which_84 (by decide +kernel) (by decide)) <|
  .cons (ix_s_goto dX10_which_87 (by decide)) <|
  .cons (ix_s_iload_n dX10_which_90 rfl) <|
  .cons (ix_s_iret dX10_which_91 rfl) <| .nil
theorem e_X10_which_0 (Q : ix_R → Prop) (ls : ix_L) (st : List ix_V) (μ : ix_M) : ix_Ev o_X10_which Q (0, ls, st, μ) = ix_iload 1 1 (ix_Ev o_X10_which Q) Q ls st μ := ix_Ev.eq (a_X10_which launch0) rfl ls st μ
theorem e_X10_which_1 (Q : ix_R → Prop) (ls : ix_L) (st : List ix_V) (μ : ix_M) : ix_Ev o_X10_which Q (1, ls, st, μ) = ix_push (vi 3) 2 (ix_Ev o_X10_which Q) Q ls st μ := ix_Ev.eq (a_X10_which launch0) rfl ls st μ
theorem e_X10_which_2 (Q : ix_R → Prop) (ls : ix_L) (st : List ix_V) (μ : ix_M) : ix_Ev o_X10_which Q (2, ls, st, μ) = oc_X10_outside 5 (ix_Ev o_X10_which Q) Q ls st μ := ix_Ev.eq (a_X10_which launch0) rfl ls st μ
theorem e_X10_which_5 (Q : ix_R → Prop) (ls : ix_L) (st : List ix_V) (μ : ix_M) : ix_Ev o_X10_which Q (5, ls, st, μ) = ix_if (fun x => x = 0) 8 16 (ix_Ev o_X10_which Q) Q ls st μ := ix_Ev.eq (a_X10_which launch0) rfl ls st μ
theorem e_X10_which_8 (Q : ix_R → Prop) (ls : ix_L) (st : List ix_V) (μ : ix_M) : ix_Ev o_X10_which Q (8, ls, st, μ) = ix_aload 0 9 (ix_Ev o_X10_which Q) Q ls st μ := ix_Ev.eq (a_X10_which launch0) rfl ls st μ
theorem e_X10_which_9 (Q : ix_R → Prop) (ls : ix_L) (st : List ix_V) (μ : ix_M) : ix_Ev o_X10_which Q (9, ls, st, μ) = ix_iload 2 10 (ix_Ev o_X10_which Q) Q ls st μ := ix_Ev.eq (a_X10_which launch0) rfl ls st μ
theorem e_X10_which_10 (Q : ix_R → Prop) (ls : ix_L) (st : List ix_V) (μ : ix_M) : ix_Ev o_X10_which Q (10, ls, st, μ) = oc_X10_noBoat 13 (ix_Ev o_X10_which Q) Q ls st μ := ix_Ev.eq (a_X10_which launch0) rfl ls st μ
theorem e_X10_which_13 (Q : ix_R → Prop) (ls : ix_L) (st : List ix_V) (μ : ix_M) : ix_Ev o_X10_which Q (13, ls, st, μ) = ix_if (fun x => x = 0) 22 16 (ix_Ev o_X10_which Q) Q ls st μ := ix_Ev.eq (a_X10_which launch0) rfl ls st μ
theorem e_X10_which_16 (Q : ix_R → Prop) (ls : ix_L) (st : List ix_V) (μ : ix_M) : ix_Ev o_X10_which Q (16, ls, st, μ) = ix_aload 0 17 (ix_Ev o_X10_which Q) Q ls st μ := ix_Ev.eq (a_X10_which launch0) rfl ls st μ
theorem e_X10_which_17 (Q : ix_R → Prop) (ls : ix_L) (st : List ix_V) (μ : ix_M) : ix_Ev o_X10_which Q (17, ls, st, μ) = ix_push (vi 1) 18 (ix_Ev o_X10_which Q) Q ls st μ := ix_Ev.eq (a_X10_which launch0) rfl ls st μ
theorem e_X10_which_18 (Q : ix_R → Prop) (ls : ix_L) (st : List ix_V) (μ : ix_M) : ix_Ev o_X10_which Q (18, ls, st, μ) = oc_X10_error 21 (ix_Ev o_X10_which Q) Q ls st μ := ix_Ev.eq (a_X10_which launch0) rfl ls st μ
theorem e_X10_which_21 (Q : ix_R → Prop) (ls : ix_L) (st : List ix_V) (μ : ix_M) : ix_Ev o_X10_which Q (21, ls, st, μ) = ix_iret (ix_Ev o_X10_which Q) Q ls st μ := ix_Ev.eq (a_X10_which launch0) rfl ls st μ
theorem e_X10_which_22 (Q : ix_R → Prop) (ls : ix_L) (st : List ix_V) (μ : ix_M) : ix_Ev o_X10_which Q (22, ls, st, μ) = ix_aload 0 23 (ix_Ev o_X10_which Q) Q ls st μ := ix_Ev.eq (a_X10_which launch0) rfl ls st μ
theorem e_X10_which_23 (Q : ix_R → Prop) (ls : ix_L) (st : List ix_V) (μ : ix_M) : ix_Ev o_X10_which Q (23, ls, st, μ) = ix_getr 9 22 (fun _ => 98) 26 (ix_Ev o_X10_which Q) Q ls st μ := ix_Ev.eq (a_X10_which launch0) rfl ls st μ
theorem e_X10_which_26 (Q : ix_R → Prop) (ls : ix_L) (st : List ix_V) (μ : ix_M) : ix_Ev o_X10_which Q (26, ls, st, μ) = ix_iload 1 27 (ix_Ev o_X10_which Q) Q ls st μ := ix_Ev.eq (a_X10_which launch0) rfl ls st μ
theorem e_X10_which_27 (Q : ix_R → Prop) (ls : ix_L) (st : List ix_V) (μ : ix_M) : ix_Ev o_X10_which Q (27, ls, st, μ) = ix_aald 22 98 4 4 (fun i => 99 + 3 * i) 28 (ix_Ev o_X10_which Q) Q ls st μ := ix_Ev.eq (a_X10_which launch0) rfl ls st μ
theorem e_X10_which_28 (Q : ix_R → Prop) (ls : ix_L) (st : List ix_V) (μ : ix_M) : ix_Ev o_X10_which Q (28, ls, st, μ) = oc_X5_isMissing 31 (ix_Ev o_X10_which Q) Q ls st μ := ix_Ev.eq (a_X10_which launch0) rfl ls st μ
theorem e_X10_which_31 (Q : ix_R → Prop) (ls : ix_L) (st : List ix_V) (μ : ix_M) : ix_Ev o_X10_which Q (31, ls, st, μ) = ix_if (fun x => x = 0) 40 34 (ix_Ev o_X10_which Q) Q ls st μ := ix_Ev.eq (a_X10_which launch0) rfl ls st μ
theorem e_X10_which_34 (Q : ix_R → Prop) (ls : ix_L) (st : List ix_V) (μ : ix_M) : ix_Ev o_X10_which Q (34, ls, st, μ) = ix_aload 0 35 (ix_Ev o_X10_which Q) Q ls st μ := ix_Ev.eq (a_X10_which launch0) rfl ls st μ
theorem e_X10_which_35 (Q : ix_R → Prop) (ls : ix_L) (st : List ix_V) (μ : ix_M) : ix_Ev o_X10_which Q (35, ls, st, μ) = ix_push (vi 2) 36 (ix_Ev o_X10_which Q) Q ls st μ := ix_Ev.eq (a_X10_which launch0) rfl ls st μ
theorem e_X10_which_36 (Q : ix_R → Prop) (ls : ix_L) (st : List ix_V) (μ : ix_M) : ix_Ev o_X10_which Q (36, ls, st, μ) = oc_X10_error 39 (ix_Ev o_X10_which Q) Q ls st μ := ix_Ev.eq (a_X10_which launch0) rfl ls st μ
theorem e_X10_which_39 (Q : ix_R → Prop) (ls : ix_L) (st : List ix_V) (μ : ix_M) : ix_Ev o_X10_which Q (39, ls, st, μ) = ix_iret (ix_Ev o_X10_which Q) Q ls st μ := ix_Ev.eq (a_X10_which launch0) rfl ls st μ
theorem e_X10_which_40 (Q : ix_R → Prop) (ls : ix_L) (st : List ix_V) (μ : ix_M) : ix_Ev o_X10_which Q (40, ls, st, μ) = ix_push (vi 0) 41 (ix_Ev o_X10_which Q) Q ls st μ := ix_Ev.eq (a_X10_which launch0) rfl ls st μ
theorem e_X10_which_41 (Q : ix_R → Prop) (ls : ix_L) (st : List ix_V) (μ : ix_M) : ix_Ev o_X10_which Q (41, ls, st, μ) = ix_istore 3 42 (ix_Ev o_X10_which Q) Q ls st μ := ix_Ev.eq (a_X10_which launch0) rfl ls st μ
theorem e_X10_which_42 (Q : ix_R → Prop) (ls : ix_L) (st : List ix_V) (μ : ix_M) : ix_Ev o_X10_which Q (42, ls, st, μ) = ix_push (vi 0) 43 (ix_Ev o_X10_which Q) Q ls st μ := ix_Ev.eq (a_X10_which launch0) rfl ls st μ
theorem e_X10_which_43 (Q : ix_R → Prop) (ls : ix_L) (st : List ix_V) (μ : ix_M) : ix_Ev o_X10_which Q (43, ls, st, μ) = ix_istore 4 45 (ix_Ev o_X10_which Q) Q ls st μ := ix_Ev.eq (a_X10_which launch0) rfl ls st μ
theorem e_X10_which_45 (Q : ix_R → Prop) (ls : ix_L) (st : List ix_V) (μ : ix_M) : ix_Ev o_X10_which Q (45, ls, st, μ) = ix_iload 4 47 (ix_Ev o_X10_which Q) Q ls st μ := ix_Ev.eq (a_X10_which launch0) rfl ls st μ
theorem e_X10_which_47 (Q : ix_R → Prop) (ls : ix_L) (st : List ix_V) (μ : ix_M) : ix_Ev o_X10_which Q (47, ls, st, μ) = ix_push (vi 7) 49 (ix_Ev o_X10_which Q) Q ls st μ := ix_Ev.eq (a_X10_which launch0) rfl ls st μ
theorem e_X10_which_49 (Q : ix_R → Prop) (ls : ix_L) (st : List ix_V) (μ : ix_M) : ix_Ev o_X10_which Q (49, ls, st, μ) = ix_cmp (fun x y => y ≤ x) 90 52 (ix_Ev o_X10_which Q) Q ls st μ := ix_Ev.eq (a_X10_which launch0) rfl ls st μ
theorem e_X10_which_52 (Q : ix_R → Prop) (ls : ix_L) (st : List ix_V) (μ : ix_M) : ix_Ev o_X10_which Q (52, ls, st, μ) = ix_aload 0 53 (ix_Ev o_X10_which Q) Q ls st μ := ix_Ev.eq (a_X10_which launch0) rfl ls st μ
theorem e_X10_which_53 (Q : ix_R → Prop) (ls : ix_L) (st : List ix_V) (μ : ix_M) : ix_Ev o_X10_which Q (53, ls, st, μ) = ix_aload 0 54 (ix_Ev o_X10_which Q) Q ls st μ := ix_Ev.eq (a_X10_which launch0) rfl ls st μ
theorem e_X10_which_54 (Q : ix_R → Prop) (ls : ix_L) (st : List ix_V) (μ : ix_M) : ix_Ev o_X10_which Q (54, ls, st, μ) = ix_push (vi 2) 55 (ix_Ev o_X10_which Q) Q ls st μ := ix_Ev.eq (a_X10_which launch0) rfl ls st μ
theorem e_X10_which_55 (Q : ix_R → Prop) (ls : ix_L) (st : List ix_V) (μ : ix_M) : ix_Ev o_X10_which Q (55, ls, st, μ) = ix_iload 2 56 (ix_Ev o_X10_which Q) Q ls st μ := ix_Ev.eq (a_X10_which launch0) rfl ls st μ
theorem e_X10_which_56 (Q : ix_R → Prop) (ls : ix_L) (st : List ix_V) (μ : ix_M) : ix_Ev o_X10_which Q (56, ls, st, μ) = ix_iload 4 58 (ix_Ev o_X10_which Q) Q ls st μ := ix_Ev.eq (a_X10_which launch0) rfl ls st μ
theorem e_X10_which_58 (Q : ix_R → Prop) (ls : ix_L) (st : List ix_V) (μ : ix_M) : ix_Ev o_X10_which Q (58, ls, st, μ) = oc_X10_suppose 61 (ix_Ev o_X10_which Q) Q ls st μ := ix_Ev.eq (a_X10_which launch0) rfl ls st μ
theorem e_X10_which_61 (Q : ix_R → Prop) (ls : ix_L) (st : List ix_V) (μ : ix_M) : ix_Ev o_X10_which Q (61, ls, st, μ) = ix_aload 0 62 (ix_Ev o_X10_which Q) Q ls st μ := ix_Ev.eq (a_X10_which launch0) rfl ls st μ
theorem e_X10_which_62 (Q : ix_R → Prop) (ls : ix_L) (st : List ix_V) (μ : ix_M) : ix_Ev o_X10_which Q (62, ls, st, μ) = ix_getr 9 22 (fun _ => 98) 65 (ix_Ev o_X10_which Q) Q ls st μ := ix_Ev.eq (a_X10_which launch0) rfl ls st μ
theorem e_X10_which_65 (Q : ix_R → Prop) (ls : ix_L) (st : List ix_V) (μ : ix_M) : ix_Ev o_X10_which Q (65, ls, st, μ) = ix_iload 1 66 (ix_Ev o_X10_which Q) Q ls st μ := ix_Ev.eq (a_X10_which launch0) rfl ls st μ
theorem e_X10_which_66 (Q : ix_R → Prop) (ls : ix_L) (st : List ix_V) (μ : ix_M) : ix_Ev o_X10_which Q (66, ls, st, μ) = ix_aald 22 98 4 4 (fun i => 99 + 3 * i) 67 (ix_Ev o_X10_which Q) Q ls st μ := ix_Ev.eq (a_X10_which launch0) rfl ls st μ
theorem e_X10_which_67 (Q : ix_R → Prop) (ls : ix_L) (st : List ix_V) (μ : ix_M) : ix_Ev o_X10_which Q (67, ls, st, μ) = ix_getr 4 3 (fun k => k + 1) 70 (ix_Ev o_X10_which Q) Q ls st μ := ix_Ev.eq (a_X10_which launch0) rfl ls st μ
theorem e_X10_which_70 (Q : ix_R → Prop) (ls : ix_L) (st : List ix_V) (μ : ix_M) : ix_Ev o_X10_which Q (70, ls, st, μ) = oc_X10_firstUnlike 73 (ix_Ev o_X10_which Q) Q ls st μ := ix_Ev.eq (a_X10_which launch0) rfl ls st μ
theorem e_X10_which_73 (Q : ix_R → Prop) (ls : ix_L) (st : List ix_V) (μ : ix_M) : ix_Ev o_X10_which Q (73, ls, st, μ) = ix_push (vi (-1)) 74 (ix_Ev o_X10_which Q) Q ls st μ := ix_Ev.eq (a_X10_which launch0) rfl ls st μ
theorem e_X10_which_74 (Q : ix_R → Prop) (ls : ix_L) (st : List ix_V) (μ : ix_M) : ix_Ev o_X10_which Q (74, ls, st, μ) = ix_cmp (fun x y => x = y) 77 84 (ix_Ev o_X10_which Q) Q ls st μ := ix_Ev.eq (a_X10_which launch0) rfl ls st μ
theorem e_X10_which_77 (Q : ix_R → Prop) (ls : ix_L) (st : List ix_V) (μ : ix_M) : ix_Ev o_X10_which Q (77, ls, st, μ) = ix_iload 3 78 (ix_Ev o_X10_which Q) Q ls st μ := ix_Ev.eq (a_X10_which launch0) rfl ls st μ
theorem e_X10_which_78 (Q : ix_R → Prop) (ls : ix_L) (st : List ix_V) (μ : ix_M) : ix_Ev o_X10_which Q (78, ls, st, μ) = ix_push (vi 1) 79 (ix_Ev o_X10_which Q) Q ls st μ := ix_Ev.eq (a_X10_which launch0) rfl ls st μ
theorem e_X10_which_79 (Q : ix_R → Prop) (ls : ix_L) (st : List ix_V) (μ : ix_M) : ix_Ev o_X10_which Q (79, ls, st, μ) = ix_iload 4 81 (ix_Ev o_X10_which Q) Q ls st μ := ix_Ev.eq (a_X10_which launch0) rfl ls st μ
theorem e_X10_which_81 (Q : ix_R → Prop) (ls : ix_L) (st : List ix_V) (μ : ix_M) : ix_Ev o_X10_which Q (81, ls, st, μ) = ix_bin (fun x y => x <<< (y &&& 31)) 82 (ix_Ev o_X10_which Q) Q ls st μ := ix_Ev.eq (a_X10_which launch0) rfl ls st μ
theorem e_X10_which_82 (Q : ix_R → Prop) (ls : ix_L) (st : List ix_V) (μ : ix_M) : ix_Ev o_X10_which Q (82, ls, st, μ) = ix_bin (fun x y => x ||| y) 83 (ix_Ev o_X10_which Q) Q ls st μ := ix_Ev.eq (a_X10_which launch0) rfl ls st μ
theorem e_X10_which_83 (Q : ix_R → Prop) (ls : ix_L) (st : List ix_V) (μ : ix_M) : ix_Ev o_X10_which Q (83, ls, st, μ) = ix_istore 3 84 (ix_Ev o_X10_which Q) Q ls st μ := ix_Ev.eq (a_X10_which launch0) rfl ls st μ
theorem e_X10_which_84 (Q : ix_R → Prop) (ls : ix_L) (st : List ix_V) (μ : ix_M) : ix_Ev o_X10_which Q (84, ls, st, μ) = ix_iinc 4 1 87 (ix_Ev o_X10_which Q) Q ls st μ := ix_Ev.eq (a_X10_which launch0) rfl ls st μ
theorem e_X10_which_87 (Q : ix_R → Prop) (ls : ix_L) (st : List ix_V) (μ : ix_M) : ix_Ev o_X10_which Q (87, ls, st, μ) = ix_goto 45 (ix_Ev o_X10_which Q) Q ls st μ := ix_Ev.eq (a_X10_which launch0) rfl ls st μ
theorem e_X10_which_90 (Q : ix_R → Prop) (ls : ix_L) (st : List ix_V) (μ : ix_M) : ix_Ev o_X10_which Q (90, ls, st, μ) = ix_iload 3 91 (ix_Ev o_X10_which Q) Q ls st μ := ix_Ev.eq (a_X10_which launch0) rfl ls st μ
theorem e_X10_which_91 (Q : ix_R → Prop) (ls : ix_L) (st : List ix_V) (μ : ix_M) : ix_Ev o_X10_which Q (91, ls, st, μ) = ix_iret (ix_Ev o_X10_which Q) Q ls st μ := ix_Ev.eq (a_X10_which launch0) rfl ls st μ
def o_X11_which : List (Nat × ix_Op) := [
  (0, ix_iload 1 1),
  (1, oc_X11_isSheet 4),
  (4, ix_if (fun x => x = 0) 15 7),
  (7, ix_aload 0 8),
  (8, ix_iload 2 9),
  (9, oc_X11_isBoat 12),
  (12, ix_if (fun x => x = 0) 15 22),
  (15, ix_aload 0 16),
  (16, ix_push (vi (-1000000001)) 18),
  (18, oc_X11_finding 21),
  (21, ix_iret),
  (22, ix_aload 0 23),
  (23, ix_getr 10 20 (fun _ => 123) 26),
  (26, ix_iload 1 27),
  (27, ix_iald 28),
  (28, ix_if (fun x => x = 0) 31 39),
  (31, ix_aload 0 32),
  (32, ix_push (vi (-1000000002)) 35),
  (35, oc_X11_finding 38),
  (38, ix_iret),
  (39, ix_aload 0 40),
  (40, ix_iload 2 41),
  (41, ix_push (vi 0) 42),
  (42, oc_X11_boatIs 45),
  (45, ix_istore 3 46),
  (46, ix_push (vi 0) 47),
  (47, ix_istore 4 49),
  (49, ix_push (vi 0) 50),
  (50, ix_istore 5 52),
  (52, ix_iload 5 54),
  (54, ix_push (vi 6) 56),
  (56, ix_cmp (fun x y => y < x) 98 59),
  (59, ix_aload 0 60),
  (60, ix_getr 10 20 (fun _ => 113) 63),
  (63, ix_iload 2 64),
  (64, ix_push (vi 0) 65),
  (65, oc_X11_boatAt 68),
  (68, ix_iload 5 70),
  (70, ix_iast 71),
  (71, ix_iload 4 73),
  (73, ix_aload 0 74),
  (74, ix_iload 1 75),
  (75, oc_X11_isSoHad 78),
  (78, ix_if (fun x => x = 0) 88 81),
  (81, ix_push (vi 1) 82),
  (82, ix_iload 5 84),
  (84, ix_bin (fun x y => x <<< (y &&& 31)) 85),
  (85, ix_goto 89),
  (88, ix_push (vi 0) 89),
  (89, ix_bin (fun x y => x ||| y) 90),
  (90, ix_istore 4 92),
  (92, ix_iinc 5 1 95),
  (95, ix_goto 52),
  (98, ix_aload 0 99),
  (99, ix_getr 10 20 (fun _ => 113) 102),
  (102, ix_iload 2 103),
  (103, ix_push (vi 0) 104),
  (104, oc_X11_boatAt 107),
  (107, ix_iload 3 108),
  (108, ix_iast 109),
  (109, ix_iload 4 111),
  (111, ix_iret)]
set_option maxRecDepth 20000 in
theorem a_X11_which (l : Launch) : ix_AllS l cX11_which 6 RX11 60 (some .int) o_X11_which :=
  .cons (ix_s_iload_n dX11_which_0 rfl) <|
  .cons (oc_X11_isSheet_s (ix_s_calls (k_X11_isSheet l) (by decide) (by decide) tw_1305 tw_12 tw_1303 tw_1304 ⟨by decide, by decide, by decide +kernel⟩ (fun _ => rfl) dX11_which_1)) <|
  .cons (ix_s_if_eq dX11_which_4 (by decide)) <|
  .cons (ix_s_aload_n dX11_which_7 rfl) <|
  .cons (ix_s_iload_n dX11_which_8 rfl) <|
  .cons (oc_X11_isBoat_s (ix_s_callv (t := 10) (k_X11_isBoat l) (by decide) (by decide) tw_1135 tw_12 tw_1132 tw_1134 tp_37 ⟨by decide, by decide, by decide +kernel⟩ (by decide) rfl rfl (fun _ => ⟨_, _, rfl, rfl⟩) dX11_which_9)) <|
  .cons (ix_s_if_ne dX11_which_12 (by decide)) <|
  .cons (ix_s_aload_n dX11_which_15 rfl) <|
  .cons (ix_s_ldc tw_961 dX11_which_16) <|
  .cons (oc_X11_finding_s (ix_s_callv (t := 10) (k_X11_finding l) (by decide) (by decide) tw_965 tw_12 tw_962 tw_964 tp_18 ⟨by decide, by decide, by decide +kernel⟩ (by decide) rfl rfl (fun _ => ⟨_, _, rfl, rfl⟩) dX11_which_18)) <|
  .cons (ix_s_iret dX11_which_21 rfl) <|
  .cons (ix_s_aload_n dX11_which_22 rfl) <|
  .cons (ix_s_getr (j := 22) tu_X11 rfl (by decide) (by decide) tw_897 rfl ts_10_22_r dX11_which_23) <|
  .cons (ix_s_iload_n dX11_which_26 rfl) <|
  .cons (ix_s_iald dX11_which_27) <|
  .cons (ix_s_if_ne dX11_which_28 (by decide)) <|
  .cons (ix_s_aload_n dX11_which_31 rfl) <|
  .cons (ix_s_ldcw tw_1238 dX11_which_32) <|
  .cons (oc_X11_finding_s (ix_s_callv (t := 10) (k_X11_finding l) (by decide) (by decide) tw_965 tw_12 tw_962 tw_964 tp_18 ⟨by decide, by decide, by decide +kernel⟩ (by decide) rfl rfl (fun _ => ⟨_, _, rfl, rfl⟩) dX11_which_35)) <|
  .cons (ix_s_iret dX11_which_38 rfl) <|
  .cons (ix_s_aload_n dX11_which_39 rfl) <|
  .cons (ix_s_iload_n dX11_which_40 rfl) <|
  .cons (ix_s_iconst dX11_which_41 (by decide +kernel)) <|
  .cons (oc_X11_boatIs_s (ix_s_callv (t := 10) (k_X11_boatIs l) (by decide) (by decide) tw_1083 tw_12 tw_1080 tw_1082 tp_34 ⟨by decide, by decide, by decide +kernel⟩ (by decide) rfl rfl (fun _ => ⟨_, _, rfl, rfl⟩) dX11_which_42)) <|
  .cons (ix_s_istore_n dX11_which_45 rfl (by decide)) <|
  .cons (ix_s_iconst dX11_which_46 (by decide +kernel)) <|
  .cons (ix_s_istore dX11_which_47 (by decide)) <|
  .cons (ix_s_iconst dX11_which_49 (by decide +kernel)) <|
  .cons (ix_s_istore dX11_which_50 (by decide)) <|
  .cons (ix_s_iload dX11_which_52) <|
  .cons (ix_s_bipush dX11_which_54 (by decide +kernel)) <|
  .cons (ix_s_cmp_gt dX11_which_56 (by decide)) <|
  .cons (ix_s_aload_n dX11_which_59 rfl) <|
  .cons (ix_s_getr (j := 0) tu_X11 rfl (by decide) (by decide) tw_875 rfl ts_10_0_r dX11_which_60) <|
  .cons (ix_s_iload_n dX11_which_63 rfl) <|
  .cons (ix_s_iconst dX11_which_64 (by decide +kernel)) <|
  .cons (oc_X11_boatAt_s (ix_s_calls (k_X11_boatAt l) (by decide) (by decide) tw_1086 tw_12 tw_1084 tw_1085 ⟨by decide, by decide, by decide +kernel⟩ (fun _ => rfl) dX11_which_65)) <|
  .cons (ix_s_iload dX11_which_68) <|
  .cons (ix_s_iast dX11_which_70) <|
  .cons (ix_s_iload dX11_which_71) <|
  .cons (ix_s_aload_n dX11_which_73 rfl) <|
  .cons (ix_s_iload_n dX11_which_74 rfl) <|
  .cons (oc_X11_isSoHad_s (ix_s_callv (t := 10) (k_X11_isSoHad l) (by decide) (by decide) tw_1309 tw_12 tw_1306 tw_1308 tp_58 ⟨by decide, by decide, by decide +kernel⟩ (by decide) rfl rfl (fun _ => ⟨_, _, rfl, rfl⟩) dX11_which_75)) <|
  .cons (ix_s_if_eq dX11_which_78 (by decide)) <|
  .cons (ix_s_iconst dX11_which_81 (by decide +kernel)) <|
  .cons (ix_s_iload dX11_which_82) <|
  .cons (ix_s_ishl dX11_which_84) <|
  .cons (ix_s_goto dX11_which_85 (by decide)) <|
  .cons (ix_s_iconst dX11_which_88 (by decide +kernel)) <|
  .cons (ix_s_ior dX11_which_89) <|
  .cons (ix_s_istore dX11_which_90 (by decide)) <|
  .cons (ix_s_iinc dX11_which_92 (by decide +kernel) (by decide)) <|
  .cons (ix_s_goto dX11_which_95 (by decide)) <|
  .cons (ix_s_aload_n dX11_which_98 rfl) <|
  .cons (ix_s_getr (j := 0) tu_X11 rfl (by decide) (by decide) tw_875 rfl ts_10_0_r dX11_which_99) <|
  .cons (ix_s_iload_n dX11_which_102 rfl) <|
  .cons (ix_s_iconst dX11_which_103 (by decide +kernel)) <|
  .cons (oc_X11_boatAt_s (ix_s_calls (k_X11_boatAt l) (by decide) (by decide) tw_1086 tw_12 tw_1084 tw_1085 ⟨by decide, by decide, by decide +kernel⟩ (fun _ => rfl) dX11_which_104)) <|
  .cons (ix_s_iload_n dX11_which_107 rfl) <|
  .cons (ix_s_iast dX11_which_108) <|
  .cons (ix_s_iload dX11_which_109) <|
  .cons (ix_s_iret dX11_which_111 rfl) <| .nil
theorem e_X11_which_0 (Q : ix_R → Prop) (ls : ix_L) (st : List ix_V) (μ : ix_M) : ix_Ev o_X11_which Q (0, ls, st, μ) = ix_iload 1 1 (ix_Ev o_X11_which Q) Q ls st μ := ix_Ev.eq (a_X11_which launch0) rfl ls st μ
theorem e_X11_which_1 (Q : ix_R → Prop) (ls : ix_L) (st : List ix_V) (μ : ix_M) : ix_Ev o_X11_which Q (1, ls, st, μ) = oc_X11_isSheet 4 (ix_Ev o_X11_which Q) Q ls st μ := ix_Ev.eq (a_X11_which launch0) rfl ls st μ
theorem e_X11_which_4 (Q : ix_R → Prop) (ls : ix_L) (st : List ix_V) (μ : ix_M) : ix_Ev o_X11_which Q (4, ls, st, μ) = ix_if (fun x => x = 0) 15 7 (ix_Ev o_X11_which Q) Q ls st μ := ix_Ev.eq (a_X11_which launch0) rfl ls st μ
theorem e_X11_which_7 (Q : ix_R → Prop) (ls : ix_L) (st : List ix_V) (μ : ix_M) : ix_Ev o_X11_which Q (7, ls, st, μ) = ix_aload 0 8 (ix_Ev o_X11_which Q) Q ls st μ := ix_Ev.eq (a_X11_which launch0) rfl ls st μ
theorem e_X11_which_8 (Q : ix_R → Prop) (ls : ix_L) (st : List ix_V) (μ : ix_M) : ix_Ev o_X11_which Q (8, ls, st, μ) = ix_iload 2 9 (ix_Ev o_X11_which Q) Q ls st μ := ix_Ev.eq (a_X11_which launch0) rfl ls st μ
theorem e_X11_which_9 (Q : ix_R → Prop) (ls : ix_L) (st : List ix_V) (μ : ix_M) : ix_Ev o_X11_which Q (9, ls, st, μ) = oc_X11_isBoat 12 (ix_Ev o_X11_which Q) Q ls st μ := ix_Ev.eq (a_X11_which launch0) rfl ls st μ
theorem e_X11_which_12 (Q : ix_R → Prop) (ls : ix_L) (st : List ix_V) (μ : ix_M) : ix_Ev o_X11_which Q (12, ls, st, μ) = ix_if (fun x => x = 0) 15 22 (ix_Ev o_X11_which Q) Q ls st μ := ix_Ev.eq (a_X11_which launch0) rfl ls st μ
theorem e_X11_which_15 (Q : ix_R → Prop) (ls : ix_L) (st : List ix_V) (μ : ix_M) : ix_Ev o_X11_which Q (15, ls, st, μ) = ix_aload 0 16 (ix_Ev o_X11_which Q) Q ls st μ := ix_Ev.eq (a_X11_which launch0) rfl ls st μ
theorem e_X11_which_16 (Q : ix_R → Prop) (ls : ix_L) (st : List ix_V) (μ : ix_M) : ix_Ev o_X11_which Q (16, ls, st, μ) = ix_push (vi (-1000000001)) 18 (ix_Ev o_X11_which Q) Q ls st μ := ix_Ev.eq (a_X11_which launch0) rfl ls st μ
theorem e_X11_which_18 (Q : ix_R → Prop) (ls : ix_L) (st : List ix_V) (μ : ix_M) : ix_Ev o_X11_which Q (18, ls, st, μ) = oc_X11_finding 21 (ix_Ev o_X11_which Q) Q ls st μ := ix_Ev.eq (a_X11_which launch0) rfl ls st μ
theorem e_X11_which_21 (Q : ix_R → Prop) (ls : ix_L) (st : List ix_V) (μ : ix_M) : ix_Ev o_X11_which Q (21, ls, st, μ) = ix_iret (ix_Ev o_X11_which Q) Q ls st μ := ix_Ev.eq (a_X11_which launch0) rfl ls st μ
theorem e_X11_which_22 (Q : ix_R → Prop) (ls : ix_L) (st : List ix_V) (μ : ix_M) : ix_Ev o_X11_which Q (22, ls, st, μ) = ix_aload 0 23 (ix_Ev o_X11_which Q) Q ls st μ := ix_Ev.eq (a_X11_which launch0) rfl ls st μ
theorem e_X11_which_23 (Q : ix_R → Prop) (ls : ix_L) (st : List ix_V) (μ : ix_M) : ix_Ev o_X11_which Q (23, ls, st, μ) = ix_getr 10 20 (fun _ => 123) 26 (ix_Ev o_X11_which Q) Q ls st μ := ix_Ev.eq (a_X11_which launch0) rfl ls st μ
theorem e_X11_which_26 (Q : ix_R → Prop) (ls : ix_L) (st : List ix_V) (μ : ix_M) : ix_Ev o_X11_which Q (26, ls, st, μ) = ix_iload 1 27 (ix_Ev o_X11_which Q) Q ls st μ := ix_Ev.eq (a_X11_which launch0) rfl ls st μ
theorem e_X11_which_27 (Q : ix_R → Prop) (ls : ix_L) (st : List ix_V) (μ : ix_M) : ix_Ev o_X11_which Q (27, ls, st, μ) = ix_iald 28 (ix_Ev o_X11_which Q) Q ls st μ := ix_Ev.eq (a_X11_which launch0) rfl ls st μ
theorem e_X11_which_28 (Q : ix_R → Prop) (ls : ix_L) (st : List ix_V) (μ : ix_M) : ix_Ev o_X11_which Q (28, ls, st, μ) = ix_if (fun x => x = 0) 31 39 (ix_Ev o_X11_which Q) Q ls st μ := ix_Ev.eq (a_X11_which launch0) rfl ls st μ
theorem e_X11_which_31 (Q : ix_R → Prop) (ls : ix_L) (st : List ix_V) (μ : ix_M) : ix_Ev o_X11_which Q (31, ls, st, μ) = ix_aload 0 32 (ix_Ev o_X11_which Q) Q ls st μ := ix_Ev.eq (a_X11_which launch0) rfl ls st μ
theorem e_X11_which_32 (Q : ix_R → Prop) (ls : ix_L) (st : List ix_V) (μ : ix_M) : ix_Ev o_X11_which Q (32, ls, st, μ) = ix_push (vi (-1000000002)) 35 (ix_Ev o_X11_which Q) Q ls st μ := ix_Ev.eq (a_X11_which launch0) rfl ls st μ
theorem e_X11_which_35 (Q : ix_R → Prop) (ls : ix_L) (st : List ix_V) (μ : ix_M) : ix_Ev o_X11_which Q (35, ls, st, μ) = oc_X11_finding 38 (ix_Ev o_X11_which Q) Q ls st μ := ix_Ev.eq (a_X11_which launch0) rfl ls st μ
theorem e_X11_which_38 (Q : ix_R → Prop) (ls : ix_L) (st : List ix_V) (μ : ix_M) : ix_Ev o_X11_which Q (38, ls, st, μ) = ix_iret (ix_Ev o_X11_which Q) Q ls st μ := ix_Ev.eq (a_X11_which launch0) rfl ls st μ
theorem e_X11_which_39 (Q : ix_R → Prop) (ls : ix_L) (st : List ix_V) (μ : ix_M) : ix_Ev o_X11_which Q (39, ls, st, μ) = ix_aload 0 40 (ix_Ev o_X11_which Q) Q ls st μ := ix_Ev.eq (a_X11_which launch0) rfl ls st μ
theorem e_X11_which_40 (Q : ix_R → Prop) (ls : ix_L) (st : List ix_V) (μ : ix_M) : ix_Ev o_X11_which Q (40, ls, st, μ) = ix_iload 2 41 (ix_Ev o_X11_which Q) Q ls st μ := ix_Ev.eq (a_X11_which launch0) rfl ls st μ
theorem e_X11_which_41 (Q : ix_R → Prop) (ls : ix_L) (st : List ix_V) (μ : ix_M) : ix_Ev o_X11_which Q (41, ls, st, μ) = ix_push (vi 0) 42 (ix_Ev o_X11_which Q) Q ls st μ := ix_Ev.eq (a_X11_which launch0) rfl ls st μ
theorem e_X11_which_42 (Q : ix_R → Prop) (ls : ix_L) (st : List ix_V) (μ : ix_M) : ix_Ev o_X11_which Q (42, ls, st, μ) = oc_X11_boatIs 45 (ix_Ev o_X11_which Q) Q ls st μ := ix_Ev.eq (a_X11_which launch0) rfl ls st μ
theorem e_X11_which_45 (Q : ix_R → Prop) (ls : ix_L) (st : List ix_V) (μ : ix_M) : ix_Ev o_X11_which Q (45, ls, st, μ) = ix_istore 3 46 (ix_Ev o_X11_which Q) Q ls st μ := ix_Ev.eq (a_X11_which launch0) rfl ls st μ
theorem e_X11_which_46 (Q : ix_R → Prop) (ls : ix_L) (st : List ix_V) (μ : ix_M) : ix_Ev o_X11_which Q (46, ls, st, μ) = ix_push (vi 0) 47 (ix_Ev o_X11_which Q) Q ls st μ := ix_Ev.eq (a_X11_which launch0) rfl ls st μ
theorem e_X11_which_47 (Q : ix_R → Prop) (ls : ix_L) (st : List ix_V) (μ : ix_M) : ix_Ev o_X11_which Q (47, ls, st, μ) = ix_istore 4 49 (ix_Ev o_X11_which Q) Q ls st μ := ix_Ev.eq (a_X11_which launch0) rfl ls st μ
theorem e_X11_which_49 (Q : ix_R → Prop) (ls : ix_L) (st : List ix_V) (μ : ix_M) : ix_Ev o_X11_which Q (49, ls, st, μ) = ix_push (vi 0) 50 (ix_Ev o_X11_which Q) Q ls st μ := ix_Ev.eq (a_X11_which launch0) rfl ls st μ
theorem e_X11_which_50 (Q : ix_R → Prop) (ls : ix_L) (st : List ix_V) (μ : ix_M) : ix_Ev o_X11_which Q (50, ls, st, μ) = ix_istore 5 52 (ix_Ev o_X11_which Q) Q ls st μ := ix_Ev.eq (a_X11_which launch0) rfl ls st μ
theorem e_X11_which_52 (Q : ix_R → Prop) (ls : ix_L) (st : List ix_V) (μ : ix_M) : ix_Ev o_X11_which Q (52, ls, st, μ) = ix_iload 5 54 (ix_Ev o_X11_which Q) Q ls st μ := ix_Ev.eq (a_X11_which launch0) rfl ls st μ
theorem e_X11_which_54 (Q : ix_R → Prop) (ls : ix_L) (st : List ix_V) (μ : ix_M) : ix_Ev o_X11_which Q (54, ls, st, μ) = ix_push (vi 6) 56 (ix_Ev o_X11_which Q) Q ls st μ := ix_Ev.eq (a_X11_which launch0) rfl ls st μ
theorem e_X11_which_56 (Q : ix_R → Prop) (ls : ix_L) (st : List ix_V) (μ : ix_M) : ix_Ev o_X11_which Q (56, ls, st, μ) = ix_cmp (fun x y => y < x) 98 59 (ix_Ev o_X11_which Q) Q ls st μ := ix_Ev.eq (a_X11_which launch0) rfl ls st μ
theorem e_X11_which_59 (Q : ix_R → Prop) (ls : ix_L) (st : List ix_V) (μ : ix_M) : ix_Ev o_X11_which Q (59, ls, st, μ) = ix_aload 0 60 (ix_Ev o_X11_which Q) Q ls st μ := ix_Ev.eq (a_X11_which launch0) rfl ls st μ
theorem e_X11_which_60 (Q : ix_R → Prop) (ls : ix_L) (st : List ix_V) (μ : ix_M) : ix_Ev o_X11_which Q (60, ls, st, μ) = ix_getr 10 20 (fun _ => 113) 63 (ix_Ev o_X11_which Q) Q ls st μ := ix_Ev.eq (a_X11_which launch0) rfl ls st μ
theorem e_X11_which_63 (Q : ix_R → Prop) (ls : ix_L) (st : List ix_V) (μ : ix_M) : ix_Ev o_X11_which Q (63, ls, st, μ) = ix_iload 2 64 (ix_Ev o_X11_which Q) Q ls st μ := ix_Ev.eq (a_X11_which launch0) rfl ls st μ
theorem e_X11_which_64 (Q : ix_R → Prop) (ls : ix_L) (st : List ix_V) (μ : ix_M) : ix_Ev o_X11_which Q (64, ls, st, μ) = ix_push (vi 0) 65 (ix_Ev o_X11_which Q) Q ls st μ := ix_Ev.eq (a_X11_which launch0) rfl ls st μ
theorem e_X11_which_65 (Q : ix_R → Prop) (ls : ix_L) (st : List ix_V) (μ : ix_M) : ix_Ev o_X11_which Q (65, ls, st, μ) = oc_X11_boatAt 68 (ix_Ev o_X11_which Q) Q ls st μ := ix_Ev.eq (a_X11_which launch0) rfl ls st μ
theorem e_X11_which_68 (Q : ix_R → Prop) (ls : ix_L) (st : List ix_V) (μ : ix_M) : ix_Ev o_X11_which Q (68, ls, st, μ) = ix_iload 5 70 (ix_Ev o_X11_which Q) Q ls st μ := ix_Ev.eq (a_X11_which launch0) rfl ls st μ
theorem e_X11_which_70 (Q : ix_R → Prop) (ls : ix_L) (st : List ix_V) (μ : ix_M) : ix_Ev o_X11_which Q (70, ls, st, μ) = ix_iast 71 (ix_Ev o_X11_which Q) Q ls st μ := ix_Ev.eq (a_X11_which launch0) rfl ls st μ
theorem e_X11_which_71 (Q : ix_R → Prop) (ls : ix_L) (st : List ix_V) (μ : ix_M) : ix_Ev o_X11_which Q (71, ls, st, μ) = ix_iload 4 73 (ix_Ev o_X11_which Q) Q ls st μ := ix_Ev.eq (a_X11_which launch0) rfl ls st μ
theorem e_X11_which_73 (Q : ix_R → Prop) (ls : ix_L) (st : List ix_V) (μ : ix_M) : ix_Ev o_X11_which Q (73, ls, st, μ) = ix_aload 0 74 (ix_Ev o_X11_which Q) Q ls st μ := ix_Ev.eq (a_X11_which launch0) rfl ls st μ
theorem e_X11_which_74 (Q : ix_R → Prop) (ls : ix_L) (st : List ix_V) (μ : ix_M) : ix_Ev o_X11_which Q (74, ls, st, μ) = ix_iload 1 75 (ix_Ev o_X11_which Q) Q ls st μ := ix_Ev.eq (a_X11_which launch0) rfl ls st μ
theorem e_X11_which_75 (Q : ix_R → Prop) (ls : ix_L) (st : List ix_V) (μ : ix_M) : ix_Ev o_X11_which Q (75, ls, st, μ) = oc_X11_isSoHad 78 (ix_Ev o_X11_which Q) Q ls st μ := ix_Ev.eq (a_X11_which launch0) rfl ls st μ
theorem e_X11_which_78 (Q : ix_R → Prop) (ls : ix_L) (st : List ix_V) (μ : ix_M) : ix_Ev o_X11_which Q (78, ls, st, μ) = ix_if (fun x => x = 0) 88 81 (ix_Ev o_X11_which Q) Q ls st μ := ix_Ev.eq (a_X11_which launch0) rfl ls st μ
theorem e_X11_which_81 (Q : ix_R → Prop) (ls : ix_L) (st : List ix_V) (μ : ix_M) : ix_Ev o_X11_which Q (81, ls, st, μ) = ix_push (vi 1) 82 (ix_Ev o_X11_which Q) Q ls st μ := ix_Ev.eq (a_X11_which launch0) rfl ls st μ
theorem e_X11_which_82 (Q : ix_R → Prop) (ls : ix_L) (st : List ix_V) (μ : ix_M) : ix_Ev o_X11_which Q (82, ls, st, μ) = ix_iload 5 84 (ix_Ev o_X11_which Q) Q ls st μ := ix_Ev.eq (a_X11_which launch0) rfl ls st μ
theorem e_X11_which_84 (Q : ix_R → Prop) (ls : ix_L) (st : List ix_V) (μ : ix_M) : ix_Ev o_X11_which Q (84, ls, st, μ) = ix_bin (fun x y => x <<< (y &&& 31)) 85 (ix_Ev o_X11_which Q) Q ls st μ := ix_Ev.eq (a_X11_which launch0) rfl ls st μ
theorem e_X11_which_85 (Q : ix_R → Prop) (ls : ix_L) (st : List ix_V) (μ : ix_M) : ix_Ev o_X11_which Q (85, ls, st, μ) = ix_goto 89 (ix_Ev o_X11_which Q) Q ls st μ := ix_Ev.eq (a_X11_which launch0) rfl ls st μ
theorem e_X11_which_88 (Q : ix_R → Prop) (ls : ix_L) (st : List ix_V) (μ : ix_M) : ix_Ev o_X11_which Q (88, ls, st, μ) = ix_push (vi 0) 89 (ix_Ev o_X11_which Q) Q ls st μ := ix_Ev.eq (a_X11_which launch0) rfl ls st μ
theorem e_X11_which_89 (Q : ix_R → Prop) (ls : ix_L) (st : List ix_V) (μ : ix_M) : ix_Ev o_X11_which Q (89, ls, st, μ) = ix_bin (fun x y => x ||| y) 90 (ix_Ev o_X11_which Q) Q ls st μ := ix_Ev.eq (a_X11_which launch0) rfl ls st μ
theorem e_X11_which_90 (Q : ix_R → Prop) (ls : ix_L) (st : List ix_V) (μ : ix_M) : ix_Ev o_X11_which Q (90, ls, st, μ) = ix_istore 4 92 (ix_Ev o_X11_which Q) Q ls st μ := ix_Ev.eq (a_X11_which launch0) rfl ls st μ
theorem e_X11_which_92 (Q : ix_R → Prop) (ls : ix_L) (st : List ix_V) (μ : ix_M) : ix_Ev o_X11_which Q (92, ls, st, μ) = ix_iinc 5 1 95 (ix_Ev o_X11_which Q) Q ls st μ := ix_Ev.eq (a_X11_which launch0) rfl ls st μ
theorem e_X11_which_95 (Q : ix_R → Prop) (ls : ix_L) (st : List ix_V) (μ : ix_M) : ix_Ev o_X11_which Q (95, ls, st, μ) = ix_goto 52 (ix_Ev o_X11_which Q) Q ls st μ := ix_Ev.eq (a_X11_which launch0) rfl ls st μ
theorem e_X11_which_98 (Q : ix_R → Prop) (ls : ix_L) (st : List ix_V) (μ : ix_M) : ix_Ev o_X11_which Q (98, ls, st, μ) = ix_aload 0 99 (ix_Ev o_X11_which Q) Q ls st μ := ix_Ev.eq (a_X11_which launch0) rfl ls st μ
theorem e_X11_which_99 (Q : ix_R → Prop) (ls : ix_L) (st : List ix_V) (μ : ix_M) : ix_Ev o_X11_which Q (99, ls, st, μ) = ix_getr 10 20 (fun _ => 113) 102 (ix_Ev o_X11_which Q) Q ls st μ := ix_Ev.eq (a_X11_which launch0) rfl ls st μ
theorem e_X11_which_102 (Q : ix_R → Prop) (ls : ix_L) (st : List ix_V) (μ : ix_M) : ix_Ev o_X11_which Q (102, ls, st, μ) = ix_iload 2 103 (ix_Ev o_X11_which Q) Q ls st μ := ix_Ev.eq (a_X11_which launch0) rfl ls st μ
theorem e_X11_which_103 (Q : ix_R → Prop) (ls : ix_L) (st : List ix_V) (μ : ix_M) : ix_Ev o_X11_which Q (103, ls, st, μ) = ix_push (vi 0) 104 (ix_Ev o_X11_which Q) Q ls st μ := ix_Ev.eq (a_X11_which launch0) rfl ls st μ
theorem e_X11_which_104 (Q : ix_R → Prop) (ls : ix_L) (st : List ix_V) (μ : ix_M) : ix_Ev o_X11_which Q (104, ls, st, μ) = oc_X11_boatAt 107 (ix_Ev o_X11_which Q) Q ls st μ := ix_Ev.eq (a_X11_which launch0) rfl ls st μ
theorem e_X11_which_107 (Q : ix_R → Prop) (ls : ix_L) (st : List ix_V) (μ : ix_M) : ix_Ev o_X11_which Q (107, ls, st, μ) = ix_iload 3 108 (ix_Ev o_X11_which Q) Q ls st μ := ix_Ev.eq (a_X11_which launch0) rfl ls st μ
theorem e_X11_which_108 (Q : ix_R → Prop) (ls : ix_L) (st : List ix_V) (μ : ix_M) : ix_Ev o_X11_which Q (108, ls, st, μ) = ix_iast 109 (ix_Ev o_X11_which Q) Q ls st μ := ix_Ev.eq (a_X11_which launch0) rfl ls st μ
theorem e_X11_which_109 (Q : ix_R → Prop) (ls : ix_L) (st : List ix_V) (μ : ix_M) : ix_Ev o_X11_which Q (109, ls, st, μ) = ix_iload 4 111 (ix_Ev o_X11_which Q) Q ls st μ := ix_Ev.eq (a_X11_which launch0) rfl ls st μ
theorem e_X11_which_111 (Q : ix_R → Prop) (ls : ix_L) (st : List ix_V) (μ : ix_M) : ix_Ev o_X11_which Q (111, ls, st, μ) = ix_iret (ix_Ev o_X11_which Q) Q ls st μ := ix_Ev.eq (a_X11_which launch0) rfl ls st μ
def wSt (f : Nat → Int32) (n : Nat) : Int32 := match n with
  | 0 => 0
  | n + 1 => if f n = -1 then wSt f n ||| ((1 : Int32) <<< (nI n &&& 31)) else wSt f n
theorem shLen : ∀ S, S < 4 → ix_len (99 + (3 * S + 2)) = 40 := by decide +kernel
theorem l_X10_which {M S B N : Nat} {ds dl : List Int32} {μ0 : ix_M} {Q : ix_R → Prop} {f : Nat → Int32} (hf : f = fun k => fUn ds dl (μ0 (101 + 3 * S)) N 0 (setV 4 B (nI k) (wv μ0 2))) (hS : S < 4) (hB : B < 8) (hR : WR (wv μ0 2) M) (hM : M ≤ 9999) (hN : N ≤ 40) (hs : μ0 (100 + 3 * S) 1 = nI N) (hL : LW μ0 ds dl) (h1 : ∀ μ', Fx wT μ0 μ' → Q (some (vi (wSt f 7)), μ')) : ∀ (k n : Nat) (μ : ix_M), n + k = 7 → Fx wT μ0 μ → ix_Ev o_X10_which Q (45, [some (vr 9 0), some (vi (nI S)), some (vi (nI B)), some (vi (wSt f n)), some (vi (nI n))], [], μ) := by
  have Sc : (nI S).toNatClampNeg = S := nI_clamp (by omega)
  have v4 : vp_in (nI S) 4 := vp_in_nI hS (by decide)
  intro k
  induction k with
  | zero =>
    intro n μ hn hF
    have hn : n = 7 := hn
    subst hn
    have c1 : 7 ≤ nI 7 := by decide
    rw [e_X10_which_45]
    simp (decide := true) only [e_X10_which_0, e_X10_which_1, e_X10_which_2, e_X10_which_5, e_X10_which_8, e_X10_which_9, e_X10_which_10, e_X10_which_13, e_X10_which_16, e_X10_which_17, e_X10_which_18, e_X10_which_21, e_X10_which_22, e_X10_which_23, e_X10_which_26, e_X10_which_27, e_X10_which_28, e_X10_which_31, e_X10_which_34, e_X10_which_35, e_X10_which_36, e_X10_which_39, e_X10_which_40, e_X10_which_41, e_X10_which_42, e_X10_which_43, e_X10_which_47, e_X10_which_49, e_X10_which_52, e_X10_which_53, e_X10_which_54, e_X10_which_55, e_X10_which_56, e_X10_which_58, e_X10_which_61, e_X10_which_62, e_X10_which_65, e_X10_which_66, e_X10_which_67, e_X10_which_70, e_X10_which_73, e_X10_which_74, e_X10_which_77, e_X10_which_78, e_X10_which_79, e_X10_which_81, e_X10_which_82, e_X10_which_83, e_X10_which_84, e_X10_which_87, e_X10_which_90, e_X10_which_91, vi, vl, vr, oc_X10_error, T_X10_error, oc_X10_firstUnlike, T_X10_firstUnlike, oc_X10_noBoat, T_X10_noBoat, oc_X10_outside, T_X10_outside, oc_X10_suppose, T_X10_suppose, oc_X5_isMissing, T_X5_isMissing, ix_push, ix_iload, ix_lload, ix_aload, ix_istore, ix_astore, ix_iinc, ix_bin, ix_div, ix_un, ix_i2l, ix_l2i, ix_lbin, ix_lsh, ix_lcmp, ix_dup, ix_dup2, ix_pop, ix_if, ix_cmp, ix_goto, ix_switch, ix_sw, ix_iret, ix_zret, ix_vret, ix_aret, ix_geti, ix_getr, ix_puti, ix_putz, ix_puts, ix_gets, ix_iald, ix_iast, ix_alen, ix_aald, ix_gval, ix_gcod, ix_bald, ix_blen, ix_sald, ix_nret, ix_math2, ix_math1, ix_acopy, Nat.add_assoc, Int32.reduceLT, Int32.reduceLE, Int32.reduceToNatClampNeg, Int32.reduceSub, Int32.reduceAdd, Nat.reduceAdd, Nat.reduceLeDiff, true_or, or_true, or_false, false_or, not_false_eq_true, not_true_eq_false, false_implies, true_implies, implies_true, and_self, mB_0, mB_01, Classical.not_not, Nat.zero_le, List.getElem?_cons_zero, List.getElem?_cons_succ, List.set_cons_zero, List.set_cons_succ, ix_nl, ix_cs, true_and, and_true, Option.toList_some, Option.toList_none, List.cons_append, List.nil_append, c1]
    exact h1 μ hF
  | succ k ih =>
    intro n μ hn hF
    have c1 : ¬ 7 ≤ nI n := nI_ge (a := n) (b := 7) (by omega) (by decide)
    have n1 : nI n + 1 = nI (n + 1) := nI_1 n
    rw [e_X10_which_45]
    simp (decide := true) only [e_X10_which_0, e_X10_which_1, e_X10_which_2, e_X10_which_5, e_X10_which_8, e_X10_which_9, e_X10_which_10, e_X10_which_13, e_X10_which_16, e_X10_which_17, e_X10_which_18, e_X10_which_21, e_X10_which_22, e_X10_which_23, e_X10_which_26, e_X10_which_27, e_X10_which_28, e_X10_which_31, e_X10_which_34, e_X10_which_35, e_X10_which_36, e_X10_which_39, e_X10_which_40, e_X10_which_41, e_X10_which_42, e_X10_which_43, e_X10_which_47, e_X10_which_49, e_X10_which_52, e_X10_which_53, e_X10_which_54, e_X10_which_55, e_X10_which_56, e_X10_which_58, e_X10_which_61, e_X10_which_62, e_X10_which_65, e_X10_which_66, e_X10_which_67, e_X10_which_70, e_X10_which_73, e_X10_which_74, e_X10_which_77, e_X10_which_78, e_X10_which_79, e_X10_which_81, e_X10_which_82, e_X10_which_83, e_X10_which_84, e_X10_which_87, e_X10_which_90, e_X10_which_91, vi, vl, vr, oc_X10_error, T_X10_error, oc_X10_firstUnlike, T_X10_firstUnlike, oc_X10_noBoat, T_X10_noBoat, oc_X10_outside, T_X10_outside, oc_X10_suppose, T_X10_suppose, oc_X5_isMissing, T_X5_isMissing, ix_push, ix_iload, ix_lload, ix_aload, ix_istore, ix_astore, ix_iinc, ix_bin, ix_div, ix_un, ix_i2l, ix_l2i, ix_lbin, ix_lsh, ix_lcmp, ix_dup, ix_dup2, ix_pop, ix_if, ix_cmp, ix_goto, ix_switch, ix_sw, ix_iret, ix_zret, ix_vret, ix_aret, ix_geti, ix_getr, ix_puti, ix_putz, ix_puts, ix_gets, ix_iald, ix_iast, ix_alen, ix_aald, ix_gval, ix_gcod, ix_bald, ix_blen, ix_sald, ix_nret, ix_math2, ix_math1, ix_acopy, Nat.add_assoc, Int32.reduceLT, Int32.reduceLE, Int32.reduceToNatClampNeg, Int32.reduceSub, Int32.reduceAdd, Nat.reduceAdd, Nat.reduceLeDiff, true_or, or_true, or_false, false_or, not_false_eq_true, not_true_eq_false, false_implies, true_implies, implies_true, and_self, mB_0, mB_01, Classical.not_not, Nat.zero_le, List.getElem?_cons_zero, List.getElem?_cons_succ, List.set_cons_zero, List.set_cons_succ, ix_nl, ix_cs, true_and, and_true, Option.toList_some, Option.toList_none, List.cons_append, List.nil_append, c1, n1, Sc, v4]
    refine ⟨⟨fun z => absurd z (by decide), fun z => absurd z (by decide), fun _ => vp_in_nI (by omega) (by decide), fun z => absurd z (by decide)⟩, fun μ1 F1 V1 => ?_⟩
    have F01 : Fx wT μ0 μ1 := hF.tr (F1.mono (by decide))
    have e2 : wv μ 2 = wv μ0 2 := wv_fx (fun r hr => hF _ (by simp [wT]; omega))
    have hV : wv μ1 48 = setV 4 B (nI n) (wv μ0 2) := by
      rw [V1, e2]
      simp (decide := true) only [supR, supI, if_true, if_false, nI_clamp (show B < 2 ^ 31 by omega)]
    have ee : ∀ a, 88 ≤ a → μ1 a = μ0 a := fun a ha => F01 a (by simp [wT]; omega)
    have ef : fUn ds dl (μ1 (99 + (3 * S + 2))) N 0 (wv μ1 48) = f n := by
      rw [hV, hf, ee _ (by omega), show 99 + (3 * S + 2) = 101 + 3 * S by omega]
    have hlen : ix_len (99 + (3 * S + 2)) = 40 := shLen S hS
    refine ⟨M, N, ds, dl, by rw [hV]; exact (wr_set hR (by unfold wrB; omega)).1, by rw [ee _ (by omega), show 99 + (3 * S + 1) = 100 + 3 * S by omega]; exact hs, hN, by rw [hlen]; exact hN, by omega, hL.fx F01 (by decide), by simp [wP]; omega, by simp [wP]; omega, fun μ2 F2 => ?_⟩
    rw [ef]
    have F02 : Fx wT μ0 μ2 := F01.tr (F2.mono (by decide))
    have := ih (n + 1) μ2 (by omega) F02
    rw [wSt] at this
    refine ⟨fun z => ?_, fun z => ?_⟩
    · rw [if_pos z] at this
      exact this
    · rw [if_neg z] at this
      exact this
theorem l_X11_which {M S B N : Nat} {w : Int32} {ds dl : List Int32} {μ0 : ix_M} {Q : ix_R → Prop} {f : Nat → Int32} (hf : f = fun k => fUn ds dl (fun j => μ0 125 (40 * S + j)) N 0 (setV 4 B (nI k) (nv (μ0 113)))) (hS : S < 4) (hB : B < 8) (hW : MW μ0 M ds dl) (hM : M ≤ 9999) (hN : N ≤ 40) (hs : μ0 124 S = nI N) (hl : μ0 112 5 = -1) (hw : μ0 113 (50 + 4 * B) = w) (h1 : ∀ μ', Fx [113, 115, 119, 120] μ0 μ' → RE (μ' 113) (μ0 113) → Q (some (vi (wSt f 7)), μ')) : ∀ (k n : Nat) (μ : ix_M), n + k = 7 → Fx [113, 115, 119, 120] μ0 μ → (∀ j, j < 256 → j ≠ 50 + 4 * B → μ 113 j = μ0 113 j) → ix_Ev o_X11_which Q (52, [some (vr 10 112), some (vi (nI S)), some (vi (nI B)), some (vi w), some (vi (wSt f n)), some (vi (nI n))], [], μ) := by
  have hx := bx B hB
  intro k
  induction k with
  | zero =>
    intro n μ hn hF hr
    have hn : n = 7 := hn
    subst hn
    have c1 : 6 < nI 7 := by decide
    rw [e_X11_which_52]
    simp (decide := true) only [e_X11_which_0, e_X11_which_1, e_X11_which_4, e_X11_which_7, e_X11_which_8, e_X11_which_9, e_X11_which_12, e_X11_which_15, e_X11_which_16, e_X11_which_18, e_X11_which_21, e_X11_which_22, e_X11_which_23, e_X11_which_26, e_X11_which_27, e_X11_which_28, e_X11_which_31, e_X11_which_32, e_X11_which_35, e_X11_which_38, e_X11_which_39, e_X11_which_40, e_X11_which_41, e_X11_which_42, e_X11_which_45, e_X11_which_46, e_X11_which_47, e_X11_which_49, e_X11_which_50, e_X11_which_54, e_X11_which_56, e_X11_which_59, e_X11_which_60, e_X11_which_63, e_X11_which_64, e_X11_which_65, e_X11_which_68, e_X11_which_70, e_X11_which_71, e_X11_which_73, e_X11_which_74, e_X11_which_75, e_X11_which_78, e_X11_which_81, e_X11_which_82, e_X11_which_84, e_X11_which_85, e_X11_which_88, e_X11_which_89, e_X11_which_90, e_X11_which_92, e_X11_which_95, e_X11_which_98, e_X11_which_99, e_X11_which_102, e_X11_which_103, e_X11_which_104, e_X11_which_107, e_X11_which_108, e_X11_which_109, e_X11_which_111, vi, vl, vr, oc_X11_boatAt, T_X11_boatAt, oc_X11_boatIs, T_X11_boatIs, oc_X11_finding, T_X11_finding, oc_X11_isBoat, T_X11_isBoat, oc_X11_isSheet, T_X11_isSheet, oc_X11_isSoHad, T_X11_isSoHad, ix_push, ix_iload, ix_lload, ix_aload, ix_istore, ix_astore, ix_iinc, ix_bin, ix_div, ix_un, ix_i2l, ix_l2i, ix_lbin, ix_lsh, ix_lcmp, ix_dup, ix_dup2, ix_pop, ix_if, ix_cmp, ix_goto, ix_switch, ix_sw, ix_iret, ix_zret, ix_vret, ix_aret, ix_geti, ix_getr, ix_puti, ix_putz, ix_puts, ix_gets, ix_iald, ix_iast, ix_alen, ix_aald, ix_gval, ix_gcod, ix_bald, ix_blen, ix_sald, ix_nret, ix_math2, ix_math1, ix_acopy, ml_113, ml_114, ml_115, ml_116, ml_118, ml_119, ml_120, ml_121, ml_122, ml_123, ml_124, ml_125, ml_126, mv_0, mv_1, mv_2, mv_3, mv_4, mv_5, mB_or, Nat.add_assoc, Int32.reduceLT, Int32.reduceLE, Int32.reduceToNatClampNeg, Int32.reduceSub, Int32.reduceAdd, Nat.reduceAdd, Nat.reduceLeDiff, true_or, or_true, or_false, false_or, not_false_eq_true, not_true_eq_false, false_implies, true_implies, implies_true, and_self, mB_0, mB_01, Classical.not_not, Nat.zero_le, List.getElem?_cons_zero, List.getElem?_cons_succ, List.set_cons_zero, List.set_cons_succ, ix_nl, ix_cs, true_and, and_true, Option.toList_some, Option.toList_none, List.cons_append, List.nil_append, c1, hx]
    refine h1 _ (hF.up (by simp)) (fun j hj => ?_)
    rw [ix_up_ap]
    by_cases c : j = 50 + 4 * B
    · rw [if_pos ⟨rfl, c⟩, c, hw]
    · rw [if_neg (fun z => c z.2)]
      exact hr j hj c
  | succ k ih =>
    intro n μ hn hF hr
    have c1 : ¬ 6 < nI n := nI_nlt (a := 6) (b := n) (by omega) (by decide)
    have n1 : nI n + 1 = nI (n + 1) := nI_1 n
    have n2 : wSt f n ||| 0 = wSt f n := Int32.or_zero
    rw [e_X11_which_52]
    simp (decide := true) only [e_X11_which_0, e_X11_which_1, e_X11_which_4, e_X11_which_7, e_X11_which_8, e_X11_which_9, e_X11_which_12, e_X11_which_15, e_X11_which_16, e_X11_which_18, e_X11_which_21, e_X11_which_22, e_X11_which_23, e_X11_which_26, e_X11_which_27, e_X11_which_28, e_X11_which_31, e_X11_which_32, e_X11_which_35, e_X11_which_38, e_X11_which_39, e_X11_which_40, e_X11_which_41, e_X11_which_42, e_X11_which_45, e_X11_which_46, e_X11_which_47, e_X11_which_49, e_X11_which_50, e_X11_which_54, e_X11_which_56, e_X11_which_59, e_X11_which_60, e_X11_which_63, e_X11_which_64, e_X11_which_65, e_X11_which_68, e_X11_which_70, e_X11_which_71, e_X11_which_73, e_X11_which_74, e_X11_which_75, e_X11_which_78, e_X11_which_81, e_X11_which_82, e_X11_which_84, e_X11_which_85, e_X11_which_88, e_X11_which_89, e_X11_which_90, e_X11_which_92, e_X11_which_95, e_X11_which_98, e_X11_which_99, e_X11_which_102, e_X11_which_103, e_X11_which_104, e_X11_which_107, e_X11_which_108, e_X11_which_109, e_X11_which_111, vi, vl, vr, oc_X11_boatAt, T_X11_boatAt, oc_X11_boatIs, T_X11_boatIs, oc_X11_finding, T_X11_finding, oc_X11_isBoat, T_X11_isBoat, oc_X11_isSheet, T_X11_isSheet, oc_X11_isSoHad, T_X11_isSoHad, ix_push, ix_iload, ix_lload, ix_aload, ix_istore, ix_astore, ix_iinc, ix_bin, ix_div, ix_un, ix_i2l, ix_l2i, ix_lbin, ix_lsh, ix_lcmp, ix_dup, ix_dup2, ix_pop, ix_if, ix_cmp, ix_goto, ix_switch, ix_sw, ix_iret, ix_zret, ix_vret, ix_aret, ix_geti, ix_getr, ix_puti, ix_putz, ix_puts, ix_gets, ix_iald, ix_iast, ix_alen, ix_aald, ix_gval, ix_gcod, ix_bald, ix_blen, ix_sald, ix_nret, ix_math2, ix_math1, ix_acopy, ml_113, ml_114, ml_115, ml_116, ml_118, ml_119, ml_120, ml_121, ml_122, ml_123, ml_124, ml_125, ml_126, mv_0, mv_1, mv_2, mv_3, mv_4, mv_5, mB_or, Nat.add_assoc, Int32.reduceLT, Int32.reduceLE, Int32.reduceToNatClampNeg, Int32.reduceSub, Int32.reduceAdd, Nat.reduceAdd, Nat.reduceLeDiff, true_or, or_true, or_false, false_or, not_false_eq_true, not_true_eq_false, false_implies, true_implies, implies_true, and_self, mB_0, mB_01, Classical.not_not, Nat.zero_le, List.getElem?_cons_zero, List.getElem?_cons_succ, List.set_cons_zero, List.set_cons_succ, ix_nl, ix_cs, true_and, and_true, Option.toList_some, Option.toList_none, List.cons_append, List.nil_append, c1, n1, n2, hx]
    have R1 : RE (ix_up μ 113 (50 + 4 * B) (nI n) 113) (upd (μ0 113) (nvI 4 B) (nI n)) := fun j hj => by
      rw [ix_up_ap]
      by_cases c : j = 50 + 4 * B
      · rw [if_pos ⟨rfl, c⟩, c]
        exact upd_eq.symm
      · rw [if_neg (fun z => c z.2), upd_ne (show j ≠ nvI 4 B from c)]
        exact hr j hj c
    obtain ⟨w1, w2⟩ := setOk.mw (C := 7) hW ⟨wok_4 hB, Or.inr (Or.inr (Or.inl rfl))⟩ (show n < 7 by omega) R1
    have F1 : Fx [113, 115, 119, 120] μ0 (ix_up μ 113 (50 + 4 * B) (nI n)) := hF.up (by simp)
    refine ⟨M, N, S, ds, dl, w1, rfl, hS, by rw [F1 124 (by decide)]; exact hs, hN, by omega, by rw [F1 112 (by decide)]; exact hl, fun μ2 F2 R2 => ?_⟩
    have hr2 : ∀ j, j < 256 → j ≠ 50 + 4 * B → μ2 113 j = μ0 113 j := fun j hj c => by
      rw [R2 j hj, ix_up_ap, if_neg (fun z => c z.2)]
      exact hr j hj c
    have := ih (n + 1) μ2 (by omega) (F1.tr F2) hr2
    have ef : fUn ds dl (fun j => ix_up μ 113 (50 + 4 * B) (nI n) 125 (40 * S + j)) N 0 (nv (ix_up μ 113 (50 + 4 * B) (nI n) 113)) = f n := by rw [w2, hf, F1 125 (by decide)]
    rw [wSt] at this
    rw [ef]
    refine ⟨fun z => ?_, fun z => ?_⟩
    · rw [if_neg z] at this
      exact this
    · rw [if_pos z] at this
      exact this
theorem pr_which (s : Int32) (b : Int32) (μ : ix_M) (I : Inv μ) (Q : ix_R → Prop) (hQ : ∀ vv μ', ix_Ev o_X11_which (Pst vv) (0, [some (vr 10 112), some (vi s), some (vi b), none, none, none], [], μ') → Q (some (vi vv), μ')) : ix_Ev o_X10_which Q (0, [some (vr 9 0), some (vi s), some (vi b), none, none], [], μ) := by
  obtain ⟨N, hN, n1, n2⟩ := I.n
  rcases inR s 3 (by decide) with ⟨S, hS, rfl⟩ | ⟨hx1, hx2⟩
  · obtain ⟨S1, S2, S3, S4⟩ : ¬ nI S < 0 ∧ ¬ (3 : Int32) < nI S ∧ 0 ≤ nI S ∧ nI S ≤ (3 : Int32) := rgN hS (by decide)
    have Sc : (nI S).toNatClampNeg = S := nI_clamp (by omega)
    rcases inB b hN with ⟨B, hB, rfl, B1, B2, B3, B4⟩ | ⟨hx1, hx2⟩
    · have Bc : (nI B).toNatClampNeg = B := nI_clamp (by omega)
      obtain ⟨M, hM, hR, m1, m2⟩ := I.mi
      obtain ⟨ds, dl, hL, x1, x2⟩ := I.tx
      have hx := bx B (by omega)
      have v4 : vp_in (nI S) 4 := vp_in_nI (by omega) (by decide)
      obtain ⟨h1, N1, hN1, h2, h3, h4⟩ := I.2.2.2.2.1 S (by omega)
      by_cases c : μ 123 S = 0
      · simp (decide := true) only [e_X10_which_0, e_X10_which_1, e_X10_which_2, e_X10_which_5, e_X10_which_8, e_X10_which_9, e_X10_which_10, e_X10_which_13, e_X10_which_16, e_X10_which_17, e_X10_which_18, e_X10_which_21, e_X10_which_22, e_X10_which_23, e_X10_which_26, e_X10_which_27, e_X10_which_28, e_X10_which_31, e_X10_which_34, e_X10_which_35, e_X10_which_36, e_X10_which_39, e_X10_which_40, e_X10_which_41, e_X10_which_42, e_X10_which_43, e_X10_which_47, e_X10_which_49, e_X10_which_52, e_X10_which_53, e_X10_which_54, e_X10_which_55, e_X10_which_56, e_X10_which_58, e_X10_which_61, e_X10_which_62, e_X10_which_65, e_X10_which_66, e_X10_which_67, e_X10_which_70, e_X10_which_73, e_X10_which_74, e_X10_which_77, e_X10_which_78, e_X10_which_79, e_X10_which_81, e_X10_which_82, e_X10_which_83, e_X10_which_84, e_X10_which_87, e_X10_which_90, e_X10_which_91, vi, vl, vr, oc_X10_error, T_X10_error, oc_X10_firstUnlike, T_X10_firstUnlike, oc_X10_noBoat, T_X10_noBoat, oc_X10_outside, T_X10_outside, oc_X10_suppose, T_X10_suppose, oc_X5_isMissing, T_X5_isMissing, ix_push, ix_iload, ix_lload, ix_aload, ix_istore, ix_astore, ix_iinc, ix_bin, ix_div, ix_un, ix_i2l, ix_l2i, ix_lbin, ix_lsh, ix_lcmp, ix_dup, ix_dup2, ix_pop, ix_if, ix_cmp, ix_goto, ix_switch, ix_sw, ix_iret, ix_zret, ix_vret, ix_aret, ix_geti, ix_getr, ix_puti, ix_putz, ix_puts, ix_gets, ix_iald, ix_iast, ix_alen, ix_aald, ix_gval, ix_gcod, ix_bald, ix_blen, ix_sald, ix_nret, ix_math2, ix_math1, ix_acopy, Nat.add_assoc, Int32.reduceLT, Int32.reduceLE, Int32.reduceToNatClampNeg, Int32.reduceSub, Int32.reduceAdd, Nat.reduceAdd, Nat.reduceLeDiff, true_or, or_true, or_false, false_or, not_false_eq_true, not_true_eq_false, false_implies, true_implies, implies_true, and_self, mB_0, mB_01, Classical.not_not, Nat.zero_le, List.getElem?_cons_zero, List.getElem?_cons_succ, List.set_cons_zero, List.set_cons_succ, ix_nl, ix_cs, true_and, and_true, Option.toList_some, Option.toList_none, List.cons_append, List.nil_append, n1, n2, S1, S2, S3, S4, Sc, B1, B2, B3, B4, Bc, v4, h1, c, ix_up_ne, ix_up_k, ve_1, ve_2, ve_3, ve_4, ve_5]
        refine hQ _ _ ?_
        simp (decide := true) only [e_X11_which_0, e_X11_which_1, e_X11_which_4, e_X11_which_7, e_X11_which_8, e_X11_which_9, e_X11_which_12, e_X11_which_15, e_X11_which_16, e_X11_which_18, e_X11_which_21, e_X11_which_22, e_X11_which_23, e_X11_which_26, e_X11_which_27, e_X11_which_28, e_X11_which_31, e_X11_which_32, e_X11_which_35, e_X11_which_38, e_X11_which_39, e_X11_which_40, e_X11_which_41, e_X11_which_42, e_X11_which_45, e_X11_which_46, e_X11_which_47, e_X11_which_49, e_X11_which_50, e_X11_which_54, e_X11_which_56, e_X11_which_59, e_X11_which_60, e_X11_which_63, e_X11_which_64, e_X11_which_65, e_X11_which_68, e_X11_which_70, e_X11_which_71, e_X11_which_73, e_X11_which_74, e_X11_which_75, e_X11_which_78, e_X11_which_81, e_X11_which_82, e_X11_which_84, e_X11_which_85, e_X11_which_88, e_X11_which_89, e_X11_which_90, e_X11_which_92, e_X11_which_95, e_X11_which_98, e_X11_which_99, e_X11_which_102, e_X11_which_103, e_X11_which_104, e_X11_which_107, e_X11_which_108, e_X11_which_109, e_X11_which_111, vi, vl, vr, oc_X11_boatAt, T_X11_boatAt, oc_X11_boatIs, T_X11_boatIs, oc_X11_finding, T_X11_finding, oc_X11_isBoat, T_X11_isBoat, oc_X11_isSheet, T_X11_isSheet, oc_X11_isSoHad, T_X11_isSoHad, ix_push, ix_iload, ix_lload, ix_aload, ix_istore, ix_astore, ix_iinc, ix_bin, ix_div, ix_un, ix_i2l, ix_l2i, ix_lbin, ix_lsh, ix_lcmp, ix_dup, ix_dup2, ix_pop, ix_if, ix_cmp, ix_goto, ix_switch, ix_sw, ix_iret, ix_zret, ix_vret, ix_aret, ix_geti, ix_getr, ix_puti, ix_putz, ix_puts, ix_gets, ix_iald, ix_iast, ix_alen, ix_aald, ix_gval, ix_gcod, ix_bald, ix_blen, ix_sald, ix_nret, ix_math2, ix_math1, ix_acopy, ml_113, ml_114, ml_115, ml_116, ml_118, ml_119, ml_120, ml_121, ml_122, ml_123, ml_124, ml_125, ml_126, mv_0, mv_1, mv_2, mv_3, mv_4, mv_5, mB_or, Nat.add_assoc, Int32.reduceLT, Int32.reduceLE, Int32.reduceToNatClampNeg, Int32.reduceSub, Int32.reduceAdd, Nat.reduceAdd, Nat.reduceLeDiff, true_or, or_true, or_false, false_or, not_false_eq_true, not_true_eq_false, false_implies, true_implies, implies_true, and_self, mB_0, mB_01, Classical.not_not, Nat.zero_le, List.getElem?_cons_zero, List.getElem?_cons_succ, List.set_cons_zero, List.set_cons_succ, ix_nl, ix_cs, true_and, and_true, Option.toList_some, Option.toList_none, List.cons_append, List.nil_append, n1, n2, S1, S2, S3, S4, Sc, B1, B2, B3, B4, Bc, v4, h1, c, ix_up_ne, ix_up_k, ve_1, ve_2, ve_3, ve_4, ve_5]
        repeat' (first | exact I.er 2 (by decide) | refine ⟨fun _ => ?_, fun _ => ?_⟩)
      · simp (decide := true) only [e_X10_which_0, e_X10_which_1, e_X10_which_2, e_X10_which_5, e_X10_which_8, e_X10_which_9, e_X10_which_10, e_X10_which_13, e_X10_which_16, e_X10_which_17, e_X10_which_18, e_X10_which_21, e_X10_which_22, e_X10_which_23, e_X10_which_26, e_X10_which_27, e_X10_which_28, e_X10_which_31, e_X10_which_34, e_X10_which_35, e_X10_which_36, e_X10_which_39, e_X10_which_40, e_X10_which_41, e_X10_which_42, e_X10_which_43, e_X10_which_47, e_X10_which_49, e_X10_which_52, e_X10_which_53, e_X10_which_54, e_X10_which_55, e_X10_which_56, e_X10_which_58, e_X10_which_61, e_X10_which_62, e_X10_which_65, e_X10_which_66, e_X10_which_67, e_X10_which_70, e_X10_which_73, e_X10_which_74, e_X10_which_77, e_X10_which_78, e_X10_which_79, e_X10_which_81, e_X10_which_82, e_X10_which_83, e_X10_which_84, e_X10_which_87, e_X10_which_90, e_X10_which_91, vi, vl, vr, oc_X10_error, T_X10_error, oc_X10_firstUnlike, T_X10_firstUnlike, oc_X10_noBoat, T_X10_noBoat, oc_X10_outside, T_X10_outside, oc_X10_suppose, T_X10_suppose, oc_X5_isMissing, T_X5_isMissing, ix_push, ix_iload, ix_lload, ix_aload, ix_istore, ix_astore, ix_iinc, ix_bin, ix_div, ix_un, ix_i2l, ix_l2i, ix_lbin, ix_lsh, ix_lcmp, ix_dup, ix_dup2, ix_pop, ix_if, ix_cmp, ix_goto, ix_switch, ix_sw, ix_iret, ix_zret, ix_vret, ix_aret, ix_geti, ix_getr, ix_puti, ix_putz, ix_puts, ix_gets, ix_iald, ix_iast, ix_alen, ix_aald, ix_gval, ix_gcod, ix_bald, ix_blen, ix_sald, ix_nret, ix_math2, ix_math1, ix_acopy, Nat.add_assoc, Int32.reduceLT, Int32.reduceLE, Int32.reduceToNatClampNeg, Int32.reduceSub, Int32.reduceAdd, Nat.reduceAdd, Nat.reduceLeDiff, true_or, or_true, or_false, false_or, not_false_eq_true, not_true_eq_false, false_implies, true_implies, implies_true, and_self, mB_0, mB_01, Classical.not_not, Nat.zero_le, List.getElem?_cons_zero, List.getElem?_cons_succ, List.set_cons_zero, List.set_cons_succ, ix_nl, ix_cs, true_and, and_true, Option.toList_some, Option.toList_none, List.cons_append, List.nil_append, n1, n2, S1, S2, S3, S4, Sc, B1, B2, B3, B4, Bc, v4, h1, c, ix_up_ne, ix_up_k, ve_1, ve_2, ve_3, ve_4, ve_5]
        refine l_X10_which (M := M) (S := S) (B := B) (N := N1) (μ0 := μ) (ds := ds) (dl := dl) rfl (by omega) (by omega) (by rw [I.hw]; exact hR) hM hN1 h2 hL (fun μ2 F2 => hQ _ _ ?_) 7 0 μ rfl Fx.rf
        have I2 := I.scr F2 (by decide)
        have e : μ2 113 = μ 113 := F2 113 (by decide)
        have n3 : μ2 113 1 = nI N := by rw [e]; exact n2
        have c2 : ¬ μ2 123 S = 0 := by rw [F2 123 (by decide)]; exact c
        simp (decide := true) only [e_X11_which_0, e_X11_which_1, e_X11_which_4, e_X11_which_7, e_X11_which_8, e_X11_which_9, e_X11_which_12, e_X11_which_15, e_X11_which_16, e_X11_which_18, e_X11_which_21, e_X11_which_22, e_X11_which_23, e_X11_which_26, e_X11_which_27, e_X11_which_28, e_X11_which_31, e_X11_which_32, e_X11_which_35, e_X11_which_38, e_X11_which_39, e_X11_which_40, e_X11_which_41, e_X11_which_42, e_X11_which_45, e_X11_which_46, e_X11_which_47, e_X11_which_49, e_X11_which_50, e_X11_which_54, e_X11_which_56, e_X11_which_59, e_X11_which_60, e_X11_which_63, e_X11_which_64, e_X11_which_65, e_X11_which_68, e_X11_which_70, e_X11_which_71, e_X11_which_73, e_X11_which_74, e_X11_which_75, e_X11_which_78, e_X11_which_81, e_X11_which_82, e_X11_which_84, e_X11_which_85, e_X11_which_88, e_X11_which_89, e_X11_which_90, e_X11_which_92, e_X11_which_95, e_X11_which_98, e_X11_which_99, e_X11_which_102, e_X11_which_103, e_X11_which_104, e_X11_which_107, e_X11_which_108, e_X11_which_109, e_X11_which_111, vi, vl, vr, oc_X11_boatAt, T_X11_boatAt, oc_X11_boatIs, T_X11_boatIs, oc_X11_finding, T_X11_finding, oc_X11_isBoat, T_X11_isBoat, oc_X11_isSheet, T_X11_isSheet, oc_X11_isSoHad, T_X11_isSoHad, ix_push, ix_iload, ix_lload, ix_aload, ix_istore, ix_astore, ix_iinc, ix_bin, ix_div, ix_un, ix_i2l, ix_l2i, ix_lbin, ix_lsh, ix_lcmp, ix_dup, ix_dup2, ix_pop, ix_if, ix_cmp, ix_goto, ix_switch, ix_sw, ix_iret, ix_zret, ix_vret, ix_aret, ix_geti, ix_getr, ix_puti, ix_putz, ix_puts, ix_gets, ix_iald, ix_iast, ix_alen, ix_aald, ix_gval, ix_gcod, ix_bald, ix_blen, ix_sald, ix_nret, ix_math2, ix_math1, ix_acopy, ml_113, ml_114, ml_115, ml_116, ml_118, ml_119, ml_120, ml_121, ml_122, ml_123, ml_124, ml_125, ml_126, mv_0, mv_1, mv_2, mv_3, mv_4, mv_5, mB_or, Nat.add_assoc, Int32.reduceLT, Int32.reduceLE, Int32.reduceToNatClampNeg, Int32.reduceSub, Int32.reduceAdd, Nat.reduceAdd, Nat.reduceLeDiff, true_or, or_true, or_false, false_or, not_false_eq_true, not_true_eq_false, false_implies, true_implies, implies_true, and_self, mB_0, mB_01, Classical.not_not, Nat.zero_le, List.getElem?_cons_zero, List.getElem?_cons_succ, List.set_cons_zero, List.set_cons_succ, ix_nl, ix_cs, true_and, and_true, Option.toList_some, Option.toList_none, List.cons_append, List.nil_append, S3, S4, Sc, B3, B4, Bc, n3, v4, c2, hx, ix_up_ne, ix_up_k, ve_1, ve_2, ve_3, ve_4, ve_5]
        refine l_X11_which (M := M) (S := S) (B := B) (N := N1) (μ0 := μ2) (ds := ds) (dl := dl) ?_ (by omega) (by omega) (mwOf (by rw [e]; exact hR) (by rw [e]; exact x1) (by rw [e]; exact x2)) hM hN1 (by rw [F2 124 (by decide)]; exact h3) I2.2.2.2.2.2.2.1 rfl (fun μ3 F3 R3 => pst rfl (I2.back F3 R3)) 7 0 μ2 rfl Fx.rf (fun _ _ _ => rfl)
        funext k
        rw [I.hw, e, F2 125 (by decide)]
        exact fUn_cong N1 0 _ (fun j hj => h4 j (by omega))
    · simp (decide := true) only [e_X10_which_0, e_X10_which_1, e_X10_which_2, e_X10_which_5, e_X10_which_8, e_X10_which_9, e_X10_which_10, e_X10_which_13, e_X10_which_16, e_X10_which_17, e_X10_which_18, e_X10_which_21, e_X10_which_22, e_X10_which_23, e_X10_which_26, e_X10_which_27, e_X10_which_28, e_X10_which_31, e_X10_which_34, e_X10_which_35, e_X10_which_36, e_X10_which_39, e_X10_which_40, e_X10_which_41, e_X10_which_42, e_X10_which_43, e_X10_which_47, e_X10_which_49, e_X10_which_52, e_X10_which_53, e_X10_which_54, e_X10_which_55, e_X10_which_56, e_X10_which_58, e_X10_which_61, e_X10_which_62, e_X10_which_65, e_X10_which_66, e_X10_which_67, e_X10_which_70, e_X10_which_73, e_X10_which_74, e_X10_which_77, e_X10_which_78, e_X10_which_79, e_X10_which_81, e_X10_which_82, e_X10_which_83, e_X10_which_84, e_X10_which_87, e_X10_which_90, e_X10_which_91, vi, vl, vr, oc_X10_error, T_X10_error, oc_X10_firstUnlike, T_X10_firstUnlike, oc_X10_noBoat, T_X10_noBoat, oc_X10_outside, T_X10_outside, oc_X10_suppose, T_X10_suppose, oc_X5_isMissing, T_X5_isMissing, ix_push, ix_iload, ix_lload, ix_aload, ix_istore, ix_astore, ix_iinc, ix_bin, ix_div, ix_un, ix_i2l, ix_l2i, ix_lbin, ix_lsh, ix_lcmp, ix_dup, ix_dup2, ix_pop, ix_if, ix_cmp, ix_goto, ix_switch, ix_sw, ix_iret, ix_zret, ix_vret, ix_aret, ix_geti, ix_getr, ix_puti, ix_putz, ix_puts, ix_gets, ix_iald, ix_iast, ix_alen, ix_aald, ix_gval, ix_gcod, ix_bald, ix_blen, ix_sald, ix_nret, ix_math2, ix_math1, ix_acopy, Nat.add_assoc, Int32.reduceLT, Int32.reduceLE, Int32.reduceToNatClampNeg, Int32.reduceSub, Int32.reduceAdd, Nat.reduceAdd, Nat.reduceLeDiff, true_or, or_true, or_false, false_or, not_false_eq_true, not_true_eq_false, false_implies, true_implies, implies_true, and_self, mB_0, mB_01, Classical.not_not, Nat.zero_le, List.getElem?_cons_zero, List.getElem?_cons_succ, List.set_cons_zero, List.set_cons_succ, ix_nl, ix_cs, true_and, and_true, Option.toList_some, Option.toList_none, List.cons_append, List.nil_append, n1, n2, S1, S2, S3, S4, Sc, hx1, hx2, ix_up_ne, ix_up_k, ve_1, ve_2, ve_3, ve_4, ve_5]
      refine hQ _ _ ?_
      simp (decide := true) only [e_X11_which_0, e_X11_which_1, e_X11_which_4, e_X11_which_7, e_X11_which_8, e_X11_which_9, e_X11_which_12, e_X11_which_15, e_X11_which_16, e_X11_which_18, e_X11_which_21, e_X11_which_22, e_X11_which_23, e_X11_which_26, e_X11_which_27, e_X11_which_28, e_X11_which_31, e_X11_which_32, e_X11_which_35, e_X11_which_38, e_X11_which_39, e_X11_which_40, e_X11_which_41, e_X11_which_42, e_X11_which_45, e_X11_which_46, e_X11_which_47, e_X11_which_49, e_X11_which_50, e_X11_which_54, e_X11_which_56, e_X11_which_59, e_X11_which_60, e_X11_which_63, e_X11_which_64, e_X11_which_65, e_X11_which_68, e_X11_which_70, e_X11_which_71, e_X11_which_73, e_X11_which_74, e_X11_which_75, e_X11_which_78, e_X11_which_81, e_X11_which_82, e_X11_which_84, e_X11_which_85, e_X11_which_88, e_X11_which_89, e_X11_which_90, e_X11_which_92, e_X11_which_95, e_X11_which_98, e_X11_which_99, e_X11_which_102, e_X11_which_103, e_X11_which_104, e_X11_which_107, e_X11_which_108, e_X11_which_109, e_X11_which_111, vi, vl, vr, oc_X11_boatAt, T_X11_boatAt, oc_X11_boatIs, T_X11_boatIs, oc_X11_finding, T_X11_finding, oc_X11_isBoat, T_X11_isBoat, oc_X11_isSheet, T_X11_isSheet, oc_X11_isSoHad, T_X11_isSoHad, ix_push, ix_iload, ix_lload, ix_aload, ix_istore, ix_astore, ix_iinc, ix_bin, ix_div, ix_un, ix_i2l, ix_l2i, ix_lbin, ix_lsh, ix_lcmp, ix_dup, ix_dup2, ix_pop, ix_if, ix_cmp, ix_goto, ix_switch, ix_sw, ix_iret, ix_zret, ix_vret, ix_aret, ix_geti, ix_getr, ix_puti, ix_putz, ix_puts, ix_gets, ix_iald, ix_iast, ix_alen, ix_aald, ix_gval, ix_gcod, ix_bald, ix_blen, ix_sald, ix_nret, ix_math2, ix_math1, ix_acopy, ml_113, ml_114, ml_115, ml_116, ml_118, ml_119, ml_120, ml_121, ml_122, ml_123, ml_124, ml_125, ml_126, mv_0, mv_1, mv_2, mv_3, mv_4, mv_5, mB_or, Nat.add_assoc, Int32.reduceLT, Int32.reduceLE, Int32.reduceToNatClampNeg, Int32.reduceSub, Int32.reduceAdd, Nat.reduceAdd, Nat.reduceLeDiff, true_or, or_true, or_false, false_or, not_false_eq_true, not_true_eq_false, false_implies, true_implies, implies_true, and_self, mB_0, mB_01, Classical.not_not, Nat.zero_le, List.getElem?_cons_zero, List.getElem?_cons_succ, List.set_cons_zero, List.set_cons_succ, ix_nl, ix_cs, true_and, and_true, Option.toList_some, Option.toList_none, List.cons_append, List.nil_append, n1, n2, S1, S2, S3, S4, Sc, hx1, hx2, ix_up_ne, ix_up_k, ve_1, ve_2, ve_3, ve_4, ve_5]
      repeat' (first | exact I.er 1 (by decide) | refine ⟨fun _ => ?_, fun _ => ?_⟩)
  · have hx1 : s < 0 ∨ (3 : Int32) < s := hx1
    have hx2 : ¬ (0 ≤ s ∧ s ≤ (3 : Int32)) := hx2
    simp (decide := true) only [e_X10_which_0, e_X10_which_1, e_X10_which_2, e_X10_which_5, e_X10_which_8, e_X10_which_9, e_X10_which_10, e_X10_which_13, e_X10_which_16, e_X10_which_17, e_X10_which_18, e_X10_which_21, e_X10_which_22, e_X10_which_23, e_X10_which_26, e_X10_which_27, e_X10_which_28, e_X10_which_31, e_X10_which_34, e_X10_which_35, e_X10_which_36, e_X10_which_39, e_X10_which_40, e_X10_which_41, e_X10_which_42, e_X10_which_43, e_X10_which_47, e_X10_which_49, e_X10_which_52, e_X10_which_53, e_X10_which_54, e_X10_which_55, e_X10_which_56, e_X10_which_58, e_X10_which_61, e_X10_which_62, e_X10_which_65, e_X10_which_66, e_X10_which_67, e_X10_which_70, e_X10_which_73, e_X10_which_74, e_X10_which_77, e_X10_which_78, e_X10_which_79, e_X10_which_81, e_X10_which_82, e_X10_which_83, e_X10_which_84, e_X10_which_87, e_X10_which_90, e_X10_which_91, vi, vl, vr, oc_X10_error, T_X10_error, oc_X10_firstUnlike, T_X10_firstUnlike, oc_X10_noBoat, T_X10_noBoat, oc_X10_outside, T_X10_outside, oc_X10_suppose, T_X10_suppose, oc_X5_isMissing, T_X5_isMissing, ix_push, ix_iload, ix_lload, ix_aload, ix_istore, ix_astore, ix_iinc, ix_bin, ix_div, ix_un, ix_i2l, ix_l2i, ix_lbin, ix_lsh, ix_lcmp, ix_dup, ix_dup2, ix_pop, ix_if, ix_cmp, ix_goto, ix_switch, ix_sw, ix_iret, ix_zret, ix_vret, ix_aret, ix_geti, ix_getr, ix_puti, ix_putz, ix_puts, ix_gets, ix_iald, ix_iast, ix_alen, ix_aald, ix_gval, ix_gcod, ix_bald, ix_blen, ix_sald, ix_nret, ix_math2, ix_math1, ix_acopy, Nat.add_assoc, Int32.reduceLT, Int32.reduceLE, Int32.reduceToNatClampNeg, Int32.reduceSub, Int32.reduceAdd, Nat.reduceAdd, Nat.reduceLeDiff, true_or, or_true, or_false, false_or, not_false_eq_true, not_true_eq_false, false_implies, true_implies, implies_true, and_self, mB_0, mB_01, Classical.not_not, Nat.zero_le, List.getElem?_cons_zero, List.getElem?_cons_succ, List.set_cons_zero, List.set_cons_succ, ix_nl, ix_cs, true_and, and_true, Option.toList_some, Option.toList_none, List.cons_append, List.nil_append, n1, n2, hx1, hx2, ix_up_ne, ix_up_k, ve_1, ve_2, ve_3, ve_4, ve_5]
    refine hQ _ _ ?_
    simp (decide := true) only [e_X11_which_0, e_X11_which_1, e_X11_which_4, e_X11_which_7, e_X11_which_8, e_X11_which_9, e_X11_which_12, e_X11_which_15, e_X11_which_16, e_X11_which_18, e_X11_which_21, e_X11_which_22, e_X11_which_23, e_X11_which_26, e_X11_which_27, e_X11_which_28, e_X11_which_31, e_X11_which_32, e_X11_which_35, e_X11_which_38, e_X11_which_39, e_X11_which_40, e_X11_which_41, e_X11_which_42, e_X11_which_45, e_X11_which_46, e_X11_which_47, e_X11_which_49, e_X11_which_50, e_X11_which_54, e_X11_which_56, e_X11_which_59, e_X11_which_60, e_X11_which_63, e_X11_which_64, e_X11_which_65, e_X11_which_68, e_X11_which_70, e_X11_which_71, e_X11_which_73, e_X11_which_74, e_X11_which_75, e_X11_which_78, e_X11_which_81, e_X11_which_82, e_X11_which_84, e_X11_which_85, e_X11_which_88, e_X11_which_89, e_X11_which_90, e_X11_which_92, e_X11_which_95, e_X11_which_98, e_X11_which_99, e_X11_which_102, e_X11_which_103, e_X11_which_104, e_X11_which_107, e_X11_which_108, e_X11_which_109, e_X11_which_111, vi, vl, vr, oc_X11_boatAt, T_X11_boatAt, oc_X11_boatIs, T_X11_boatIs, oc_X11_finding, T_X11_finding, oc_X11_isBoat, T_X11_isBoat, oc_X11_isSheet, T_X11_isSheet, oc_X11_isSoHad, T_X11_isSoHad, ix_push, ix_iload, ix_lload, ix_aload, ix_istore, ix_astore, ix_iinc, ix_bin, ix_div, ix_un, ix_i2l, ix_l2i, ix_lbin, ix_lsh, ix_lcmp, ix_dup, ix_dup2, ix_pop, ix_if, ix_cmp, ix_goto, ix_switch, ix_sw, ix_iret, ix_zret, ix_vret, ix_aret, ix_geti, ix_getr, ix_puti, ix_putz, ix_puts, ix_gets, ix_iald, ix_iast, ix_alen, ix_aald, ix_gval, ix_gcod, ix_bald, ix_blen, ix_sald, ix_nret, ix_math2, ix_math1, ix_acopy, ml_113, ml_114, ml_115, ml_116, ml_118, ml_119, ml_120, ml_121, ml_122, ml_123, ml_124, ml_125, ml_126, mv_0, mv_1, mv_2, mv_3, mv_4, mv_5, mB_or, Nat.add_assoc, Int32.reduceLT, Int32.reduceLE, Int32.reduceToNatClampNeg, Int32.reduceSub, Int32.reduceAdd, Nat.reduceAdd, Nat.reduceLeDiff, true_or, or_true, or_false, false_or, not_false_eq_true, not_true_eq_false, false_implies, true_implies, implies_true, and_self, mB_0, mB_01, Classical.not_not, Nat.zero_le, List.getElem?_cons_zero, List.getElem?_cons_succ, List.set_cons_zero, List.set_cons_succ, ix_nl, ix_cs, true_and, and_true, Option.toList_some, Option.toList_none, List.cons_append, List.nil_append, n1, n2, hx1, hx2, ix_up_ne, ix_up_k, ve_1, ve_2, ve_3, ve_4, ve_5]
    repeat' (first | exact I.er 1 (by decide) | refine ⟨fun _ => ?_, fun _ => ?_⟩)
