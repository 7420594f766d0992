/-! ===== calls, class against model: lies, sheet ===== -/
def o_X10_lies : List (Nat × ix_Op) := [
  (0, ix_iload 1 1),
  (1, ix_push (vi 3) 2),
  (2, oc_X10_outside 5),
  (5, ix_if (fun x => x = 0) 14 8),
  (8, ix_aload 0 9),
  (9, ix_push (vi 1) 10),
  (10, oc_X10_error 13),
  (13, ix_iret),
  (14, ix_aload 0 15),
  (15, ix_getr 9 22 (fun _ => 98) 18),
  (18, ix_iload 1 19),
  (19, ix_aald 22 98 4 4 (fun i => 99 + 3 * i) 20),
  (20, oc_X5_isMissing 23),
  (23, ix_if (fun x => x = 0) 32 26),
  (26, ix_aload 0 27),
  (27, ix_push (vi 2) 28),
  (28, oc_X10_error 31),
  (31, ix_iret),
  (32, ix_aload 0 33),
  (33, ix_getr 9 22 (fun _ => 98) 36),
  (36, ix_iload 1 37),
  (37, ix_aald 22 98 4 4 (fun i => 99 + 3 * i) 38),
  (38, ix_getr 4 3 (fun k => k + 1) 41),
  (41, ix_astore 2 42),
  (42, ix_push (vi 0) 43),
  (43, ix_istore 3 44),
  (44, ix_iload 3 45),
  (45, ix_push (vi 16) 47),
  (47, ix_cmp (fun x y => y ≤ x) 96 50),
  (50, ix_aload 2 51),
  (51, ix_iload 3 52),
  (52, oc_X4_has 55),
  (55, ix_if (fun x => x = 0) 71 58),
  (58, ix_aload 2 59),
  (59, ix_iload 3 60),
  (60, oc_X4_get 63),
  (63, ix_push (vi 99) 65),
  (65, oc_X10_outside 68),
  (68, ix_if (fun x => x = 0) 73 71),
  (71, ix_iload 3 72),
  (72, ix_iret),
  (73, ix_aload 0 74),
  (74, ix_getr 9 5 (fun _ => 1) 77),
  (77, ix_getr 5 8 (fun k => k + 1) 80),
  (80, ix_getr 8 20 (fun k => k + 2) 83),
  (83, ix_iload 3 84),
  (84, ix_aload 2 85),
  (85, ix_iload 3 86),
  (86, oc_X4_get 89),
  (89, ix_iast 90),
  (90, ix_iinc 3 1 93),
  (93, ix_goto 44),
  (96, ix_push (vi 16) 98),
  (98, ix_iret)]
set_option maxRecDepth 20000 in
theorem a_X10_lies (l : Launch) : ix_AllS l cX10_lies 4 RX10 60 (some .int) o_X10_lies :=
  .cons (ix_s_iload_n dX10_lies_0 rfl) <|
  .cons (ix_s_iconst dX10_lies_1 (by decide +kernel)) <|
  .cons (oc_X10_outside_s (ix_s_calls (k_X10_outside l) (by decide) (by decide) tw_291 tw_1 tw_289 tw_290 ⟨by decide, by decide, by decide +kernel⟩ (fun _ => rfl) dX10_lies_2)) <|
  .cons (ix_s_if_eq dX10_lies_5 (by decide)) <|
  .cons (ix_s_aload_n dX10_lies_8 rfl) <|
  .cons (ix_s_iconst dX10_lies_9 (by decide +kernel)) <|
  .cons (oc_X10_error_s (ix_s_callv (t := 9) (k_X10_error l) (by decide) (by decide) tw_295 tw_1 tw_292 tw_294 tp_0 ⟨by decide, by decide, by decide +kernel⟩ (by decide) rfl rfl (fun _ => ⟨_, _, rfl, rfl⟩) dX10_lies_10)) <|
  .cons (ix_s_iret dX10_lies_13 rfl) <|
  .cons (ix_s_aload_n dX10_lies_14 rfl) <|
  .cons (ix_s_getr (j := 7) tu_X10 rfl (by decide) (by decide) tw_258 rfl ts_9_7_r dX10_lies_15) <|
  .cons (ix_s_iload_n dX10_lies_18 rfl) <|
  .cons (ix_s_aald (E0 := ix_tys) (by decide) (by decide +kernel) (fun _ => rfl) (by decide +kernel) dX10_lies_19) <|
  .cons (oc_X5_isMissing_s (ix_s_callv (t := 4) (k_X5_isMissing l) (by decide) (by decide) tw_739 tw_11 tw_736 tw_737 tw_738 ⟨by decide, by decide, by decide +kernel⟩ (by decide) rfl rfl (fun _ => ⟨_, _, rfl, rfl⟩) dX10_lies_20)) <|
  .cons (ix_s_if_eq dX10_lies_23 (by decide)) <|
  .cons (ix_s_aload_n dX10_lies_26 rfl) <|
  .cons (ix_s_iconst dX10_lies_27 (by decide +kernel)) <|
  .cons (oc_X10_error_s (ix_s_callv (t := 9) (k_X10_error l) (by decide) (by decide) tw_295 tw_1 tw_292 tw_294 tp_0 ⟨by decide, by decide, by decide +kernel⟩ (by decide) rfl rfl (fun _ => ⟨_, _, rfl, rfl⟩) dX10_lies_28)) <|
  .cons (ix_s_iret dX10_lies_31 rfl) <|
  .cons (ix_s_aload_n dX10_lies_32 rfl) <|
  .cons (ix_s_getr (j := 7) tu_X10 rfl (by decide) (by decide) tw_258 rfl ts_9_7_r dX10_lies_33) <|
  .cons (ix_s_iload_n dX10_lies_36 rfl) <|
  .cons (ix_s_aald (E0 := ix_tys) (by decide) (by decide +kernel) (fun _ => rfl) (by decide +kernel) dX10_lies_37) <|
  .cons (ix_s_getr (j := 0) tu_X5 rfl (by decide) (by decide) tw_243 rfl ts_4_0_r dX10_lies_38) <|
  .cons (ix_s_astore_n dX10_lies_41 rfl (by decide)) <|
  .cons (ix_s_iconst dX10_lies_42 (by decide +kernel)) <|
  .cons (ix_s_istore_n dX10_lies_43 rfl (by decide)) <|
  .cons (ix_s_iload_n dX10_lies_44 rfl) <|
  .cons (ix_s_bipush dX10_lies_45 (by decide +kernel)) <|
  .cons (ix_s_cmp_ge dX10_lies_47 (by decide)) <|
  .cons (ix_s_aload_n dX10_lies_50 rfl) <|
  .cons (ix_s_iload_n dX10_lies_51 rfl) <|
  .cons (oc_X4_has_s (ix_s_callv (t := 3) (k_X4_has l) (by decide) (by decide) tw_474 tw_6 tw_790 tw_472 tw_473 ⟨by decide, by decide, by decide +kernel⟩ (by decide) rfl rfl (fun _ => ⟨_, _, rfl, rfl⟩) dX10_lies_52)) <|
  .cons (ix_s_if_eq dX10_lies_55 (by decide)) <|
  .cons (ix_s_aload_n dX10_lies_58 rfl) <|
  .cons (ix_s_iload_n dX10_lies_59 rfl) <|
  .cons (oc_X4_get_s (ix_s_callv (t := 3) (k_X4_get l) (by decide) (by decide) tw_747 tw_6 tw_744 tw_745 tw_746 ⟨by decide, by decide, by decide +kernel⟩ (by decide) rfl rfl (fun _ => ⟨_, _, rfl, rfl⟩) dX10_lies_60)) <|
  .cons (ix_s_bipush dX10_lies_63 (by decide +kernel)) <|
  .cons (oc_X10_outside_s (ix_s_calls (k_X10_outside l) (by decide) (by decide) tw_291 tw_1 tw_289 tw_290 ⟨by decide, by decide, by decide +kernel⟩ (fun _ => rfl) dX10_lies_65)) <|
  .cons (ix_s_if_eq dX10_lies_68 (by decide)) <|
  .cons (ix_s_iload_n dX10_lies_71 rfl) <|
  .cons (ix_s_iret dX10_lies_72 rfl) <|
  .cons (ix_s_aload_n dX10_lies_73 rfl) <|
  .cons (ix_s_getr (j := 0) tu_X10 rfl (by decide) (by decide) tw_251 rfl ts_9_0_r dX10_lies_74) <|
  .cons (ix_s_getr (j := 0) tu_X6 rfl (by decide) (by decide) tw_138 rfl ts_5_0_r dX10_lies_77) <|
  .cons (ix_s_getr (j := 1) tu_X9 rfl (by decide) (by decide) tw_43 rfl ts_8_1_r dX10_lies_80) <|
  .cons (ix_s_iload_n dX10_lies_83 rfl) <|
  .cons (ix_s_aload_n dX10_lies_84 rfl) <|
  .cons (ix_s_iload_n dX10_lies_85 rfl) <|
  .cons (oc_X4_get_s (ix_s_callv (t := 3) (k_X4_get l) (by decide) (by decide) tw_747 tw_6 tw_744 tw_745 tw_746 ⟨by decide, by decide, by decide +kernel⟩ (by decide) rfl rfl (fun _ => ⟨_, _, rfl, rfl⟩) dX10_lies_86)) <|
  .cons (ix_s_iast dX10_lies_89) <|
  .cons (ix_s_iinc dX10_lies_90 (by decide +kernel) (by decide)) <|
  .cons (ix_s_goto dX10_lies_93 (by decide)) <|
  .cons (ix_s_bipush dX10_lies_96 (by decide +kernel)) <|
  .cons (ix_s_iret dX10_lies_98 rfl) <| .nil
theorem e_X10_lies_0 (Q : ix_R → Prop) (ls : ix_L) (st : List ix_V) (μ : ix_M) : ix_Ev o_X10_lies Q (0, ls, st, μ) = ix_iload 1 1 (ix_Ev o_X10_lies Q) Q ls st μ := ix_Ev.eq (a_X10_lies launch0) rfl ls st μ
theorem e_X10_lies_1 (Q : ix_R → Prop) (ls : ix_L) (st : List ix_V) (μ : ix_M) : ix_Ev o_X10_lies Q (1, ls, st, μ) = ix_push (vi 3) 2 (ix_Ev o_X10_lies Q) Q ls st μ := ix_Ev.eq (a_X10_lies launch0) rfl ls st μ
theorem e_X10_lies_2 (Q : ix_R → Prop) (ls : ix_L) (st : List ix_V) (μ : ix_M) : ix_Ev o_X10_lies Q (2, ls, st, μ) = oc_X10_outside 5 (ix_Ev o_X10_lies Q) Q ls st μ := ix_Ev.eq (a_X10_lies launch0) rfl ls st μ
theorem e_X10_lies_5 (Q : ix_R → Prop) (ls : ix_L) (st : List ix_V) (μ : ix_M) : ix_Ev o_X10_lies Q (5, ls, st, μ) = ix_if (fun x => x = 0) 14 8 (ix_Ev o_X10_lies Q) Q ls st μ := ix_Ev.eq (a_X10_lies launch0) rfl ls st μ
theorem e_X10_lies_8 (Q : ix_R → Prop) (ls : ix_L) (st : List ix_V) (μ : ix_M) : ix_Ev o_X10_lies Q (8, ls, st, μ) = ix_aload 0 9 (ix_Ev o_X10_lies Q) Q ls st μ := ix_Ev.eq (a_X10_lies launch0) rfl ls st μ
theorem e_X10_lies_9 (Q : ix_R → Prop) (ls : ix_L) (st : List ix_V) (μ : ix_M) : ix_Ev o_X10_lies Q (9, ls, st, μ) = ix_push (vi 1) 10 (ix_Ev o_X10_lies Q) Q ls st μ := ix_Ev.eq (a_X10_lies launch0) rfl ls st μ
theorem e_X10_lies_10 (Q : ix_R → Prop) (ls : ix_L) (st : List ix_V) (μ : ix_M) : ix_Ev o_X10_lies Q (10, ls, st, μ) = oc_X10_error 13 (ix_Ev o_X10_lies Q) Q ls st μ := ix_Ev.eq (a_X10_lies launch0) rfl ls st μ
theorem e_X10_lies_13 (Q : ix_R → Prop) (ls : ix_L) (st : List ix_V) (μ : ix_M) : ix_Ev o_X10_lies Q (13, ls, st, μ) = ix_iret (ix_Ev o_X10_lies Q) Q ls st μ := ix_Ev.eq (a_X10_lies launch0) rfl ls st μ
theorem e_X10_lies_14 (Q : ix_R → Prop) (ls : ix_L) (st : List ix_V) (μ : ix_M) : ix_Ev o_X10_lies Q (14, ls, st, μ) = ix_aload 0 15 (ix_Ev o_X10_lies Q) Q ls st μ := ix_Ev.eq (a_X10_lies launch0) rfl ls st μ
theorem e_X10_lies_15 (Q : ix_R → Prop) (ls : ix_L) (st : List ix_V) (μ : ix_M) : ix_Ev o_X10_lies Q (15, ls, st, μ) = ix_getr 9 22 (fun _ => 98) 18 (ix_Ev o_X10_lies Q) Q ls st μ := ix_Ev.eq (a_X10_lies launch0) rfl ls st μ
theorem e_X10_lies_18 (Q : ix_R → Prop) (ls : ix_L) (st : List ix_V) (μ : ix_M) : ix_Ev o_X10_lies Q (18, ls, st, μ) = ix_iload 1 19 (ix_Ev o_X10_lies Q) Q ls st μ := ix_Ev.eq (a_X10_lies launch0) rfl ls st μ
theorem e_X10_lies_19 (Q : ix_R → Prop) (ls : ix_L) (st : List ix_V) (μ : ix_M) : ix_Ev o_X10_lies Q (19, ls, st, μ) = ix_aald 22 98 4 4 (fun i => 99 + 3 * i) 20 (ix_Ev o_X10_lies Q) Q ls st μ := ix_Ev.eq (a_X10_lies launch0) rfl ls st μ
theorem e_X10_lies_20 (Q : ix_R → Prop) (ls : ix_L) (st : List ix_V) (μ : ix_M) : ix_Ev o_X10_lies Q (20, ls, st, μ) = oc_X5_isMissing 23 (ix_Ev o_X10_lies Q) Q ls st μ := ix_Ev.eq (a_X10_lies launch0) rfl ls st μ
theorem e_X10_lies_23 (Q : ix_R → Prop) (ls : ix_L) (st : List ix_V) (μ : ix_M) : ix_Ev o_X10_lies Q (23, ls, st, μ) = ix_if (fun x => x = 0) 32 26 (ix_Ev o_X10_lies Q) Q ls st μ := ix_Ev.eq (a_X10_lies launch0) rfl ls st μ
theorem e_X10_lies_26 (Q : ix_R → Prop) (ls : ix_L) (st : List ix_V) (μ : ix_M) : ix_Ev o_X10_lies Q (26, ls, st, μ) = ix_aload 0 27 (ix_Ev o_X10_lies Q) Q ls st μ := ix_Ev.eq (a_X10_lies launch0) rfl ls st μ
theorem e_X10_lies_27 (Q : ix_R → Prop) (ls : ix_L) (st : List ix_V) (μ : ix_M) : ix_Ev o_X10_lies Q (27, ls, st, μ) = ix_push (vi 2) 28 (ix_Ev o_X10_lies Q) Q ls st μ := ix_Ev.eq (a_X10_lies launch0) rfl ls st μ
theorem e_X10_lies_28 (Q : ix_R → Prop) (ls : ix_L) (st : List ix_V) (μ : ix_M) : ix_Ev o_X10_lies Q (28, ls, st, μ) = oc_X10_error 31 (ix_Ev o_X10_lies Q) Q ls st μ := ix_Ev.eq (a_X10_lies launch0) rfl ls st μ
theorem e_X10_lies_31 (Q : ix_R → Prop) (ls : ix_L) (st : List ix_V) (μ : ix_M) : ix_Ev o_X10_lies Q (31, ls, st, μ) = ix_iret (ix_Ev o_X10_lies Q) Q ls st μ := ix_Ev.eq (a_X10_lies launch0) rfl ls st μ
theorem e_X10_lies_32 (Q : ix_R → Prop) (ls : ix_L) (st : List ix_V) (μ : ix_M) : ix_Ev o_X10_lies Q (32, ls, st, μ) = ix_aload 0 33 (ix_Ev o_X10_lies Q) Q ls st μ := ix_Ev.eq (a_X10_lies launch0) rfl ls st μ
theorem e_X10_lies_33 (Q : ix_R → Prop) (ls : ix_L) (st : List ix_V) (μ : ix_M) : ix_Ev o_X10_lies Q (33, ls, st, μ) = ix_getr 9 22 (fun _ => 98) 36 (ix_Ev o_X10_lies Q) Q ls st μ := ix_Ev.eq (a_X10_lies launch0) rfl ls st μ
theorem e_X10_lies_36 (Q : ix_R → Prop) (ls : ix_L) (st : List ix_V) (μ : ix_M) : ix_Ev o_X10_lies Q (36, ls, st, μ) = ix_iload 1 37 (ix_Ev o_X10_lies Q) Q ls st μ := ix_Ev.eq (a_X10_lies launch0) rfl ls st μ
theorem e_X10_lies_37 (Q : ix_R → Prop) (ls : ix_L) (st : List ix_V) (μ : ix_M) : ix_Ev o_X10_lies Q (37, ls, st, μ) = ix_aald 22 98 4 4 (fun i => 99 + 3 * i) 38 (ix_Ev o_X10_lies Q) Q ls st μ := ix_Ev.eq (a_X10_lies launch0) rfl ls st μ
theorem e_X10_lies_38 (Q : ix_R → Prop) (ls : ix_L) (st : List ix_V) (μ : ix_M) : ix_Ev o_X10_lies Q (38, ls, st, μ) = ix_getr 4 3 (fun k => k + 1) 41 (ix_Ev o_X10_lies Q) Q ls st μ := ix_Ev.eq (a_X10_lies launch0) rfl ls st μ
theorem e_X10_lies_41 (Q : ix_R → Prop) (ls : ix_L) (st : List ix_V) (μ : ix_M) : ix_Ev o_X10_lies Q (41, ls, st, μ) = ix_astore 2 42 (ix_Ev o_X10_lies Q) Q ls st μ := ix_Ev.eq (a_X10_lies launch0) rfl ls st μ
theorem e_X10_lies_42 (Q : ix_R → Prop) (ls : ix_L) (st : List ix_V) (μ : ix_M) : ix_Ev o_X10_lies Q (42, ls, st, μ) = ix_push (vi 0) 43 (ix_Ev o_X10_lies Q) Q ls st μ := ix_Ev.eq (a_X10_lies launch0) rfl ls st μ
theorem e_X10_lies_43 (Q : ix_R → Prop) (ls : ix_L) (st : List ix_V) (μ : ix_M) : ix_Ev o_X10_lies Q (43, ls, st, μ) = ix_istore 3 44 (ix_Ev o_X10_lies Q) Q ls st μ := ix_Ev.eq (a_X10_lies launch0) rfl ls st μ
theorem e_X10_lies_44 (Q : ix_R → Prop) (ls : ix_L) (st : List ix_V) (μ : ix_M) : ix_Ev o_X10_lies Q (44, ls, st, μ) = ix_iload 3 45 (ix_Ev o_X10_lies Q) Q ls st μ := ix_Ev.eq (a_X10_lies launch0) rfl ls st μ
theorem e_X10_lies_45 (Q : ix_R → Prop) (ls : ix_L) (st : List ix_V) (μ : ix_M) : ix_Ev o_X10_lies Q (45, ls, st, μ) = ix_push (vi 16) 47 (ix_Ev o_X10_lies Q) Q ls st μ := ix_Ev.eq (a_X10_lies launch0) rfl ls st μ
theorem e_X10_lies_47 (Q : ix_R → Prop) (ls : ix_L) (st : List ix_V) (μ : ix_M) : ix_Ev o_X10_lies Q (47, ls, st, μ) = ix_cmp (fun x y => y ≤ x) 96 50 (ix_Ev o_X10_lies Q) Q ls st μ := ix_Ev.eq (a_X10_lies launch0) rfl ls st μ
theorem e_X10_lies_50 (Q : ix_R → Prop) (ls : ix_L) (st : List ix_V) (μ : ix_M) : ix_Ev o_X10_lies Q (50, ls, st, μ) = ix_aload 2 51 (ix_Ev o_X10_lies Q) Q ls st μ := ix_Ev.eq (a_X10_lies launch0) rfl ls st μ
theorem e_X10_lies_51 (Q : ix_R → Prop) (ls : ix_L) (st : List ix_V) (μ : ix_M) : ix_Ev o_X10_lies Q (51, ls, st, μ) = ix_iload 3 52 (ix_Ev o_X10_lies Q) Q ls st μ := ix_Ev.eq (a_X10_lies launch0) rfl ls st μ
theorem e_X10_lies_52 (Q : ix_R → Prop) (ls : ix_L) (st : List ix_V) (μ : ix_M) : ix_Ev o_X10_lies Q (52, ls, st, μ) = oc_X4_has 55 (ix_Ev o_X10_lies Q) Q ls st μ := ix_Ev.eq (a_X10_lies launch0) rfl ls st μ
theorem e_X10_lies_55 (Q : ix_R → Prop) (ls : ix_L) (st : List ix_V) (μ : ix_M) : ix_Ev o_X10_lies Q (55, ls, st, μ) = ix_if (fun x => x = 0) 71 58 (ix_Ev o_X10_lies Q) Q ls st μ := ix_Ev.eq (a_X10_lies launch0) rfl ls st μ
theorem e_X10_lies_58 (Q : ix_R → Prop) (ls : ix_L) (st : List ix_V) (μ : ix_M) : ix_Ev o_X10_lies Q (58, ls, st, μ) = ix_aload 2 59 (ix_Ev o_X10_lies Q) Q ls st μ := ix_Ev.eq (a_X10_lies launch0) rfl ls st μ
theorem e_X10_lies_59 (Q : ix_R → Prop) (ls : ix_L) (st : List ix_V) (μ : ix_M) : ix_Ev o_X10_lies Q (59, ls, st, μ) = ix_iload 3 60 (ix_Ev o_X10_lies Q) Q ls st μ := ix_Ev.eq (a_X10_lies launch0) rfl ls st μ
theorem e_X10_lies_60 (Q : ix_R → Prop) (ls : ix_L) (st : List ix_V) (μ : ix_M) : ix_Ev o_X10_lies Q (60, ls, st, μ) = oc_X4_get 63 (ix_Ev o_X10_lies Q) Q ls st μ := ix_Ev.eq (a_X10_lies launch0) rfl ls st μ
theorem e_X10_lies_63 (Q : ix_R → Prop) (ls : ix_L) (st : List ix_V) (μ : ix_M) : ix_Ev o_X10_lies Q (63, ls, st, μ) = ix_push (vi 99) 65 (ix_Ev o_X10_lies Q) Q ls st μ := ix_Ev.eq (a_X10_lies launch0) rfl ls st μ
theorem e_X10_lies_65 (Q : ix_R → Prop) (ls : ix_L) (st : List ix_V) (μ : ix_M) : ix_Ev o_X10_lies Q (65, ls, st, μ) = oc_X10_outside 68 (ix_Ev o_X10_lies Q) Q ls st μ := ix_Ev.eq (a_X10_lies launch0) rfl ls st μ
theorem e_X10_lies_68 (Q : ix_R → Prop) (ls : ix_L) (st : List ix_V) (μ : ix_M) : ix_Ev o_X10_lies Q (68, ls, st, μ) = ix_if (fun x => x = 0) 73 71 (ix_Ev o_X10_lies Q) Q ls st μ := ix_Ev.eq (a_X10_lies launch0) rfl ls st μ
theorem e_X10_lies_71 (Q : ix_R → Prop) (ls : ix_L) (st : List ix_V) (μ : ix_M) : ix_Ev o_X10_lies Q (71, ls, st, μ) = ix_iload 3 72 (ix_Ev o_X10_lies Q) Q ls st μ := ix_Ev.eq (a_X10_lies launch0) rfl ls st μ
theorem e_X10_lies_72 (Q : ix_R → Prop) (ls : ix_L) (st : List ix_V) (μ : ix_M) : ix_Ev o_X10_lies Q (72, ls, st, μ) = ix_iret (ix_Ev o_X10_lies Q) Q ls st μ := ix_Ev.eq (a_X10_lies launch0) rfl ls st μ
theorem e_X10_lies_73 (Q : ix_R → Prop) (ls : ix_L) (st : List ix_V) (μ : ix_M) : ix_Ev o_X10_lies Q (73, ls, st, μ) = ix_aload 0 74 (ix_Ev o_X10_lies Q) Q ls st μ := ix_Ev.eq (a_X10_lies launch0) rfl ls st μ
theorem e_X10_lies_74 (Q : ix_R → Prop) (ls : ix_L) (st : List ix_V) (μ : ix_M) : ix_Ev o_X10_lies Q (74, ls, st, μ) = ix_getr 9 5 (fun _ => 1) 77 (ix_Ev o_X10_lies Q) Q ls st μ := ix_Ev.eq (a_X10_lies launch0) rfl ls st μ
theorem e_X10_lies_77 (Q : ix_R → Prop) (ls : ix_L) (st : List ix_V) (μ : ix_M) : ix_Ev o_X10_lies Q (77, ls, st, μ) = ix_getr 5 8 (fun k => k + 1) 80 (ix_Ev o_X10_lies Q) Q ls st μ := ix_Ev.eq (a_X10_lies launch0) rfl ls st μ
theorem e_X10_lies_80 (Q : ix_R → Prop) (ls : ix_L) (st : List ix_V) (μ : ix_M) : ix_Ev o_X10_lies Q (80, ls, st, μ) = ix_getr 8 20 (fun k => k + 2) 83 (ix_Ev o_X10_lies Q) Q ls st μ := ix_Ev.eq (a_X10_lies launch0) rfl ls st μ
theorem e_X10_lies_83 (Q : ix_R → Prop) (ls : ix_L) (st : List ix_V) (μ : ix_M) : ix_Ev o_X10_lies Q (83, ls, st, μ) = ix_iload 3 84 (ix_Ev o_X10_lies Q) Q ls st μ := ix_Ev.eq (a_X10_lies launch0) rfl ls st μ
theorem e_X10_lies_84 (Q : ix_R → Prop) (ls : ix_L) (st : List ix_V) (μ : ix_M) : ix_Ev o_X10_lies Q (84, ls, st, μ) = ix_aload 2 85 (ix_Ev o_X10_lies Q) Q ls st μ := ix_Ev.eq (a_X10_lies launch0) rfl ls st μ
theorem e_X10_lies_85 (Q : ix_R → Prop) (ls : ix_L) (st : List ix_V) (μ : ix_M) : ix_Ev o_X10_lies Q (85, ls, st, μ) = ix_iload 3 86 (ix_Ev o_X10_lies Q) Q ls st μ := ix_Ev.eq (a_X10_lies launch0) rfl ls st μ
theorem e_X10_lies_86 (Q : ix_R → Prop) (ls : ix_L) (st : List ix_V) (μ : ix_M) : ix_Ev o_X10_lies Q (86, ls, st, μ) = oc_X4_get 89 (ix_Ev o_X10_lies Q) Q ls st μ := ix_Ev.eq (a_X10_lies launch0) rfl ls st μ
theorem e_X10_lies_89 (Q : ix_R → Prop) (ls : ix_L) (st : List ix_V) (μ : ix_M) : ix_Ev o_X10_lies Q (89, ls, st, μ) = ix_iast 90 (ix_Ev o_X10_lies Q) Q ls st μ := ix_Ev.eq (a_X10_lies launch0) rfl ls st μ
theorem e_X10_lies_90 (Q : ix_R → Prop) (ls : ix_L) (st : List ix_V) (μ : ix_M) : ix_Ev o_X10_lies Q (90, ls, st, μ) = ix_iinc 3 1 93 (ix_Ev o_X10_lies Q) Q ls st μ := ix_Ev.eq (a_X10_lies launch0) rfl ls st μ
theorem e_X10_lies_93 (Q : ix_R → Prop) (ls : ix_L) (st : List ix_V) (μ : ix_M) : ix_Ev o_X10_lies Q (93, ls, st, μ) = ix_goto 44 (ix_Ev o_X10_lies Q) Q ls st μ := ix_Ev.eq (a_X10_lies launch0) rfl ls st μ
theorem e_X10_lies_96 (Q : ix_R → Prop) (ls : ix_L) (st : List ix_V) (μ : ix_M) : ix_Ev o_X10_lies Q (96, ls, st, μ) = ix_push (vi 16) 98 (ix_Ev o_X10_lies Q) Q ls st μ := ix_Ev.eq (a_X10_lies launch0) rfl ls st μ
theorem e_X10_lies_98 (Q : ix_R → Prop) (ls : ix_L) (st : List ix_V) (μ : ix_M) : ix_Ev o_X10_lies Q (98, ls, st, μ) = ix_iret (ix_Ev o_X10_lies Q) Q ls st μ := ix_Ev.eq (a_X10_lies launch0) rfl ls st μ
def o_X11_lies : List (Nat × ix_Op) := [
  (0, ix_iload 1 1),
  (1, oc_X11_isSheet 4),
  (4, ix_if (fun x => x = 0) 7 14),
  (7, ix_aload 0 8),
  (8, ix_push (vi (-1000000001)) 10),
  (10, oc_X11_finding 13),
  (13, ix_iret),
  (14, ix_aload 0 15),
  (15, ix_getr 10 20 (fun _ => 123) 18),
  (18, ix_iload 1 19),
  (19, ix_iald 20),
  (20, ix_if (fun x => x = 0) 23 31),
  (23, ix_aload 0 24),
  (24, ix_push (vi (-1000000002)) 27),
  (27, oc_X11_finding 30),
  (30, ix_iret),
  (31, ix_push (vi 0) 32),
  (32, ix_istore 2 33),
  (33, ix_iload 2 34),
  (34, ix_aload 0 35),
  (35, ix_getr 10 20 (fun _ => 124) 38),
  (38, ix_iload 1 39),
  (39, ix_iald 40),
  (40, ix_cmp (fun x y => y ≤ x) 93 43),
  (43, ix_iload 2 44),
  (44, oc_X11_isCell 47),
  (47, ix_if (fun x => x = 0) 93 50),
  (50, ix_aload 0 51),
  (51, ix_getr 10 20 (fun _ => 125) 54),
  (54, ix_push (vi 40) 56),
  (56, ix_iload 1 57),
  (57, ix_bin (fun x y => x * y) 58),
  (58, ix_iload 2 59),
  (59, ix_bin (fun x y => x + y) 60),
  (60, ix_iald 61),
  (61, oc_X11_isMost 64),
  (64, ix_if (fun x => x = 0) 93 67),
  (67, ix_aload 0 68),
  (68, ix_getr 10 20 (fun _ => 113) 71),
  (71, ix_push (vi 34) 73),
  (73, ix_iload 2 74),
  (74, ix_bin (fun x y => x + y) 75),
  (75, ix_aload 0 76),
  (76, ix_getr 10 20 (fun _ => 125) 79),
  (79, ix_push (vi 40) 81),
  (81, ix_iload 1 82),
  (82, ix_bin (fun x y => x * y) 83),
  (83, ix_iload 2 84),
  (84, ix_bin (fun x y => x + y) 85),
  (85, ix_iald 86),
  (86, ix_iast 87),
  (87, ix_iinc 2 1 90),
  (90, ix_goto 33),
  (93, ix_iload 2 94),
  (94, ix_iret)]
set_option maxRecDepth 20000 in
theorem a_X11_lies (l : Launch) : ix_AllS l cX11_lies 3 RX11 60 (some .int) o_X11_lies :=
  .cons (ix_s_iload_n dX11_lies_0 rfl) <|
  .cons (oc_X11_isSheet_s (ix_s_calls (k_X11_isSheet l) (by decide) (by decide) tw_1305 tw_12 tw_1303 tw_1304 ⟨by decide, by decide, by decide +kernel⟩ (fun _ => rfl) dX11_lies_1)) <|
  .cons (ix_s_if_ne dX11_lies_4 (by decide)) <|
  .cons (ix_s_aload_n dX11_lies_7 rfl) <|
  .cons (ix_s_ldc tw_961 dX11_lies_8) <|
  .cons (oc_X11_finding_s (ix_s_callv (t := 10) (k_X11_finding l) (by decide) (by decide) tw_965 tw_12 tw_962 tw_964 tp_18 ⟨by decide, by decide, by decide +kernel⟩ (by decide) rfl rfl (fun _ => ⟨_, _, rfl, rfl⟩) dX11_lies_10)) <|
  .cons (ix_s_iret dX11_lies_13 rfl) <|
  .cons (ix_s_aload_n dX11_lies_14 rfl) <|
  .cons (ix_s_getr (j := 22) tu_X11 rfl (by decide) (by decide) tw_897 rfl ts_10_22_r dX11_lies_15) <|
  .cons (ix_s_iload_n dX11_lies_18 rfl) <|
  .cons (ix_s_iald dX11_lies_19) <|
  .cons (ix_s_if_ne dX11_lies_20 (by decide)) <|
  .cons (ix_s_aload_n dX11_lies_23 rfl) <|
  .cons (ix_s_ldcw tw_1238 dX11_lies_24) <|
  .cons (oc_X11_finding_s (ix_s_callv (t := 10) (k_X11_finding l) (by decide) (by decide) tw_965 tw_12 tw_962 tw_964 tp_18 ⟨by decide, by decide, by decide +kernel⟩ (by decide) rfl rfl (fun _ => ⟨_, _, rfl, rfl⟩) dX11_lies_27)) <|
  .cons (ix_s_iret dX11_lies_30 rfl) <|
  .cons (ix_s_iconst dX11_lies_31 (by decide +kernel)) <|
  .cons (ix_s_istore_n dX11_lies_32 rfl (by decide)) <|
  .cons (ix_s_iload_n dX11_lies_33 rfl) <|
  .cons (ix_s_aload_n dX11_lies_34 rfl) <|
  .cons (ix_s_getr (j := 23) tu_X11 rfl (by decide) (by decide) tw_898 rfl ts_10_23_r dX11_lies_35) <|
  .cons (ix_s_iload_n dX11_lies_38 rfl) <|
  .cons (ix_s_iald dX11_lies_39) <|
  .cons (ix_s_cmp_ge dX11_lies_40 (by decide)) <|
  .cons (ix_s_iload_n dX11_lies_43 rfl) <|
  .cons (oc_X11_isCell_s (ix_s_calls (k_X11_isCell l) (by decide) (by decide) tw_1067 tw_12 tw_1065 tw_1066 ⟨by decide, by decide, by decide +kernel⟩ (fun _ => rfl) dX11_lies_44)) <|
  .cons (ix_s_if_eq dX11_lies_47 (by decide)) <|
  .cons (ix_s_aload_n dX11_lies_50 rfl) <|
  .cons (ix_s_getr (j := 24) tu_X11 rfl (by decide) (by decide) tw_899 rfl ts_10_24_r dX11_lies_51) <|
  .cons (ix_s_bipush dX11_lies_54 (by decide +kernel)) <|
  .cons (ix_s_iload_n dX11_lies_56 rfl) <|
  .cons (ix_s_imul dX11_lies_57) <|
  .cons (ix_s_iload_n dX11_lies_58 rfl) <|
  .cons (ix_s_iadd dX11_lies_59) <|
  .cons (ix_s_iald dX11_lies_60) <|
  .cons (oc_X11_isMost_s (ix_s_calls (k_X11_isMost l) (by decide) (by decide) tw_1064 tw_12 tw_1062 tw_1063 ⟨by decide, by decide, by decide +kernel⟩ (fun _ => rfl) dX11_lies_61)) <|
  .cons (ix_s_if_eq dX11_lies_64 (by decide)) <|
  .cons (ix_s_aload_n dX11_lies_67 rfl) <|
  .cons (ix_s_getr (j := 0) tu_X11 rfl (by decide) (by decide) tw_875 rfl ts_10_0_r dX11_lies_68) <|
  .cons (ix_s_bipush dX11_lies_71 (by decide +kernel)) <|
  .cons (ix_s_iload_n dX11_lies_73 rfl) <|
  .cons (ix_s_iadd dX11_lies_74) <|
  .cons (ix_s_aload_n dX11_lies_75 rfl) <|
  .cons (ix_s_getr (j := 24) tu_X11 rfl (by decide) (by decide) tw_899 rfl ts_10_24_r dX11_lies_76) <|
  .cons (ix_s_bipush dX11_lies_79 (by decide +kernel)) <|
  .cons (ix_s_iload_n dX11_lies_81 rfl) <|
  .cons (ix_s_imul dX11_lies_82) <|
  .cons (ix_s_iload_n dX11_lies_83 rfl) <|
  .cons (ix_s_iadd dX11_lies_84) <|
  .cons (ix_s_iald dX11_lies_85) <|
  .cons (ix_s_iast dX11_lies_86) <|
  .cons (ix_s_iinc dX11_lies_87 (by decide +kernel) (by decide)) <|
  .cons (ix_s_goto dX11_lies_90 (by decide)) <|
  .cons (ix_s_iload_n dX11_lies_93 rfl) <|
  .cons (ix_s_iret dX11_lies_94 rfl) <| .nil
theorem e_X11_lies_0 (Q : ix_R → Prop) (ls : ix_L) (st : List ix_V) (μ : ix_M) : ix_Ev o_X11_lies Q (0, ls, st, μ) = ix_iload 1 1 (ix_Ev o_X11_lies Q) Q ls st μ := ix_Ev.eq (a_X11_lies launch0) rfl ls st μ
theorem e_X11_lies_1 (Q : ix_R → Prop) (ls : ix_L) (st : List ix_V) (μ : ix_M) : ix_Ev o_X11_lies Q (1, ls, st, μ) = oc_X11_isSheet 4 (ix_Ev o_X11_lies Q) Q ls st μ := ix_Ev.eq (a_X11_lies launch0) rfl ls st μ
theorem e_X11_lies_4 (Q : ix_R → Prop) (ls : ix_L) (st : List ix_V) (μ : ix_M) : ix_Ev o_X11_lies Q (4, ls, st, μ) = ix_if (fun x => x = 0) 7 14 (ix_Ev o_X11_lies Q) Q ls st μ := ix_Ev.eq (a_X11_lies launch0) rfl ls st μ
theorem e_X11_lies_7 (Q : ix_R → Prop) (ls : ix_L) (st : List ix_V) (μ : ix_M) : ix_Ev o_X11_lies Q (7, ls, st, μ) = ix_aload 0 8 (ix_Ev o_X11_lies Q) Q ls st μ := ix_Ev.eq (a_X11_lies launch0) rfl ls st μ
theorem e_X11_lies_8 (Q : ix_R → Prop) (ls : ix_L) (st : List ix_V) (μ : ix_M) : ix_Ev o_X11_lies Q (8, ls, st, μ) = ix_push (vi (-1000000001)) 10 (ix_Ev o_X11_lies Q) Q ls st μ := ix_Ev.eq (a_X11_lies launch0) rfl ls st μ
theorem e_X11_lies_10 (Q : ix_R → Prop) (ls : ix_L) (st : List ix_V) (μ : ix_M) : ix_Ev o_X11_lies Q (10, ls, st, μ) = oc_X11_finding 13 (ix_Ev o_X11_lies Q) Q ls st μ := ix_Ev.eq (a_X11_lies launch0) rfl ls st μ
theorem e_X11_lies_13 (Q : ix_R → Prop) (ls : ix_L) (st : List ix_V) (μ : ix_M) : ix_Ev o_X11_lies Q (13, ls, st, μ) = ix_iret (ix_Ev o_X11_lies Q) Q ls st μ := ix_Ev.eq (a_X11_lies launch0) rfl ls st μ
theorem e_X11_lies_14 (Q : ix_R → Prop) (ls : ix_L) (st : List ix_V) (μ : ix_M) : ix_Ev o_X11_lies Q (14, ls, st, μ) = ix_aload 0 15 (ix_Ev o_X11_lies Q) Q ls st μ := ix_Ev.eq (a_X11_lies launch0) rfl ls st μ
theorem e_X11_lies_15 (Q : ix_R → Prop) (ls : ix_L) (st : List ix_V) (μ : ix_M) : ix_Ev o_X11_lies Q (15, ls, st, μ) = ix_getr 10 20 (fun _ => 123) 18 (ix_Ev o_X11_lies Q) Q ls st μ := ix_Ev.eq (a_X11_lies launch0) rfl ls st μ
theorem e_X11_lies_18 (Q : ix_R → Prop) (ls : ix_L) (st : List ix_V) (μ : ix_M) : ix_Ev o_X11_lies Q (18, ls, st, μ) = ix_iload 1 19 (ix_Ev o_X11_lies Q) Q ls st μ := ix_Ev.eq (a_X11_lies launch0) rfl ls st μ
theorem e_X11_lies_19 (Q : ix_R → Prop) (ls : ix_L) (st : List ix_V) (μ : ix_M) : ix_Ev o_X11_lies Q (19, ls, st, μ) = ix_iald 20 (ix_Ev o_X11_lies Q) Q ls st μ := ix_Ev.eq (a_X11_lies launch0) rfl ls st μ
theorem e_X11_lies_20 (Q : ix_R → Prop) (ls : ix_L) (st : List ix_V) (μ : ix_M) : ix_Ev o_X11_lies Q (20, ls, st, μ) = ix_if (fun x => x = 0) 23 31 (ix_Ev o_X11_lies Q) Q ls st μ := ix_Ev.eq (a_X11_lies launch0) rfl ls st μ
theorem e_X11_lies_23 (Q : ix_R → Prop) (ls : ix_L) (st : List ix_V) (μ : ix_M) : ix_Ev o_X11_lies Q (23, ls, st, μ) = ix_aload 0 24 (ix_Ev o_X11_lies Q) Q ls st μ := ix_Ev.eq (a_X11_lies launch0) rfl ls st μ
theorem e_X11_lies_24 (Q : ix_R → Prop) (ls : ix_L) (st : List ix_V) (μ : ix_M) : ix_Ev o_X11_lies Q (24, ls, st, μ) = ix_push (vi (-1000000002)) 27 (ix_Ev o_X11_lies Q) Q ls st μ := ix_Ev.eq (a_X11_lies launch0) rfl ls st μ
theorem e_X11_lies_27 (Q : ix_R → Prop) (ls : ix_L) (st : List ix_V) (μ : ix_M) : ix_Ev o_X11_lies Q (27, ls, st, μ) = oc_X11_finding 30 (ix_Ev o_X11_lies Q) Q ls st μ := ix_Ev.eq (a_X11_lies launch0) rfl ls st μ
theorem e_X11_lies_30 (Q : ix_R → Prop) (ls : ix_L) (st : List ix_V) (μ : ix_M) : ix_Ev o_X11_lies Q (30, ls, st, μ) = ix_iret (ix_Ev o_X11_lies Q) Q ls st μ := ix_Ev.eq (a_X11_lies launch0) rfl ls st μ
theorem e_X11_lies_31 (Q : ix_R → Prop) (ls : ix_L) (st : List ix_V) (μ : ix_M) : ix_Ev o_X11_lies Q (31, ls, st, μ) = ix_push (vi 0) 32 (ix_Ev o_X11_lies Q) Q ls st μ := ix_Ev.eq (a_X11_lies launch0) rfl ls st μ
theorem e_X11_lies_32 (Q : ix_R → Prop) (ls : ix_L) (st : List ix_V) (μ : ix_M) : ix_Ev o_X11_lies Q (32, ls, st, μ) = ix_istore 2 33 (ix_Ev o_X11_lies Q) Q ls st μ := ix_Ev.eq (a_X11_lies launch0) rfl ls st μ
theorem e_X11_lies_33 (Q : ix_R → Prop) (ls : ix_L) (st : List ix_V) (μ : ix_M) : ix_Ev o_X11_lies Q (33, ls, st, μ) = ix_iload 2 34 (ix_Ev o_X11_lies Q) Q ls st μ := ix_Ev.eq (a_X11_lies launch0) rfl ls st μ
theorem e_X11_lies_34 (Q : ix_R → Prop) (ls : ix_L) (st : List ix_V) (μ : ix_M) : ix_Ev o_X11_lies Q (34, ls, st, μ) = ix_aload 0 35 (ix_Ev o_X11_lies Q) Q ls st μ := ix_Ev.eq (a_X11_lies launch0) rfl ls st μ
theorem e_X11_lies_35 (Q : ix_R → Prop) (ls : ix_L) (st : List ix_V) (μ : ix_M) : ix_Ev o_X11_lies Q (35, ls, st, μ) = ix_getr 10 20 (fun _ => 124) 38 (ix_Ev o_X11_lies Q) Q ls st μ := ix_Ev.eq (a_X11_lies launch0) rfl ls st μ
theorem e_X11_lies_38 (Q : ix_R → Prop) (ls : ix_L) (st : List ix_V) (μ : ix_M) : ix_Ev o_X11_lies Q (38, ls, st, μ) = ix_iload 1 39 (ix_Ev o_X11_lies Q) Q ls st μ := ix_Ev.eq (a_X11_lies launch0) rfl ls st μ
theorem e_X11_lies_39 (Q : ix_R → Prop) (ls : ix_L) (st : List ix_V) (μ : ix_M) : ix_Ev o_X11_lies Q (39, ls, st, μ) = ix_iald 40 (ix_Ev o_X11_lies Q) Q ls st μ := ix_Ev.eq (a_X11_lies launch0) rfl ls st μ
theorem e_X11_lies_40 (Q : ix_R → Prop) (ls : ix_L) (st : List ix_V) (μ : ix_M) : ix_Ev o_X11_lies Q (40, ls, st, μ) = ix_cmp (fun x y => y ≤ x) 93 43 (ix_Ev o_X11_lies Q) Q ls st μ := ix_Ev.eq (a_X11_lies launch0) rfl ls st μ
theorem e_X11_lies_43 (Q : ix_R → Prop) (ls : ix_L) (st : List ix_V) (μ : ix_M) : ix_Ev o_X11_lies Q (43, ls, st, μ) = ix_iload 2 44 (ix_Ev o_X11_lies Q) Q ls st μ := ix_Ev.eq (a_X11_lies launch0) rfl ls st μ
theorem e_X11_lies_44 (Q : ix_R → Prop) (ls : ix_L) (st : List ix_V) (μ : ix_M) : ix_Ev o_X11_lies Q (44, ls, st, μ) = oc_X11_isCell 47 (ix_Ev o_X11_lies Q) Q ls st μ := ix_Ev.eq (a_X11_lies launch0) rfl ls st μ
theorem e_X11_lies_47 (Q : ix_R → Prop) (ls : ix_L) (st : List ix_V) (μ : ix_M) : ix_Ev o_X11_lies Q (47, ls, st, μ) = ix_if (fun x => x = 0) 93 50 (ix_Ev o_X11_lies Q) Q ls st μ := ix_Ev.eq (a_X11_lies launch0) rfl ls st μ
theorem e_X11_lies_50 (Q : ix_R → Prop) (ls : ix_L) (st : List ix_V) (μ : ix_M) : ix_Ev o_X11_lies Q (50, ls, st, μ) = ix_aload 0 51 (ix_Ev o_X11_lies Q) Q ls st μ := ix_Ev.eq (a_X11_lies launch0) rfl ls st μ
theorem e_X11_lies_51 (Q : ix_R → Prop) (ls : ix_L) (st : List ix_V) (μ : ix_M) : ix_Ev o_X11_lies Q (51, ls, st, μ) = ix_getr 10 20 (fun _ => 125) 54 (ix_Ev o_X11_lies Q) Q ls st μ := ix_Ev.eq (a_X11_lies launch0) rfl ls st μ
theorem e_X11_lies_54 (Q : ix_R → Prop) (ls : ix_L) (st : List ix_V) (μ : ix_M) : ix_Ev o_X11_lies Q (54, ls, st, μ) = ix_push (vi 40) 56 (ix_Ev o_X11_lies Q) Q ls st μ := ix_Ev.eq (a_X11_lies launch0) rfl ls st μ
theorem e_X11_lies_56 (Q : ix_R → Prop) (ls : ix_L) (st : List ix_V) (μ : ix_M) : ix_Ev o_X11_lies Q (56, ls, st, μ) = ix_iload 1 57 (ix_Ev o_X11_lies Q) Q ls st μ := ix_Ev.eq (a_X11_lies launch0) rfl ls st μ
theorem e_X11_lies_57 (Q : ix_R → Prop) (ls : ix_L) (st : List ix_V) (μ : ix_M) : ix_Ev o_X11_lies Q (57, ls, st, μ) = ix_bin (fun x y => x * y) 58 (ix_Ev o_X11_lies Q) Q ls st μ := ix_Ev.eq (a_X11_lies launch0) rfl ls st μ
theorem e_X11_lies_58 (Q : ix_R → Prop) (ls : ix_L) (st : List ix_V) (μ : ix_M) : ix_Ev o_X11_lies Q (58, ls, st, μ) = ix_iload 2 59 (ix_Ev o_X11_lies Q) Q ls st μ := ix_Ev.eq (a_X11_lies launch0) rfl ls st μ
theorem e_X11_lies_59 (Q : ix_R → Prop) (ls : ix_L) (st : List ix_V) (μ : ix_M) : ix_Ev o_X11_lies Q (59, ls, st, μ) = ix_bin (fun x y => x + y) 60 (ix_Ev o_X11_lies Q) Q ls st μ := ix_Ev.eq (a_X11_lies launch0) rfl ls st μ
theorem e_X11_lies_60 (Q : ix_R → Prop) (ls : ix_L) (st : List ix_V) (μ : ix_M) : ix_Ev o_X11_lies Q (60, ls, st, μ) = ix_iald 61 (ix_Ev o_X11_lies Q) Q ls st μ := ix_Ev.eq (a_X11_lies launch0) rfl ls st μ
theorem e_X11_lies_61 (Q : ix_R → Prop) (ls : ix_L) (st : List ix_V) (μ : ix_M) : ix_Ev o_X11_lies Q (61, ls, st, μ) = oc_X11_isMost 64 (ix_Ev o_X11_lies Q) Q ls st μ := ix_Ev.eq (a_X11_lies launch0) rfl ls st μ
theorem e_X11_lies_64 (Q : ix_R → Prop) (ls : ix_L) (st : List ix_V) (μ : ix_M) : ix_Ev o_X11_lies Q (64, ls, st, μ) = ix_if (fun x => x = 0) 93 67 (ix_Ev o_X11_lies Q) Q ls st μ := ix_Ev.eq (a_X11_lies launch0) rfl ls st μ
theorem e_X11_lies_67 (Q : ix_R → Prop) (ls : ix_L) (st : List ix_V) (μ : ix_M) : ix_Ev o_X11_lies Q (67, ls, st, μ) = ix_aload 0 68 (ix_Ev o_X11_lies Q) Q ls st μ := ix_Ev.eq (a_X11_lies launch0) rfl ls st μ
theorem e_X11_lies_68 (Q : ix_R → Prop) (ls : ix_L) (st : List ix_V) (μ : ix_M) : ix_Ev o_X11_lies Q (68, ls, st, μ) = ix_getr 10 20 (fun _ => 113) 71 (ix_Ev o_X11_lies Q) Q ls st μ := ix_Ev.eq (a_X11_lies launch0) rfl ls st μ
theorem e_X11_lies_71 (Q : ix_R → Prop) (ls : ix_L) (st : List ix_V) (μ : ix_M) : ix_Ev o_X11_lies Q (71, ls, st, μ) = ix_push (vi 34) 73 (ix_Ev o_X11_lies Q) Q ls st μ := ix_Ev.eq (a_X11_lies launch0) rfl ls st μ
theorem e_X11_lies_73 (Q : ix_R → Prop) (ls : ix_L) (st : List ix_V) (μ : ix_M) : ix_Ev o_X11_lies Q (73, ls, st, μ) = ix_iload 2 74 (ix_Ev o_X11_lies Q) Q ls st μ := ix_Ev.eq (a_X11_lies launch0) rfl ls st μ
theorem e_X11_lies_74 (Q : ix_R → Prop) (ls : ix_L) (st : List ix_V) (μ : ix_M) : ix_Ev o_X11_lies Q (74, ls, st, μ) = ix_bin (fun x y => x + y) 75 (ix_Ev o_X11_lies Q) Q ls st μ := ix_Ev.eq (a_X11_lies launch0) rfl ls st μ
theorem e_X11_lies_75 (Q : ix_R → Prop) (ls : ix_L) (st : List ix_V) (μ : ix_M) : ix_Ev o_X11_lies Q (75, ls, st, μ) = ix_aload 0 76 (ix_Ev o_X11_lies Q) Q ls st μ := ix_Ev.eq (a_X11_lies launch0) rfl ls st μ
theorem e_X11_lies_76 (Q : ix_R → Prop) (ls : ix_L) (st : List ix_V) (μ : ix_M) : ix_Ev o_X11_lies Q (76, ls, st, μ) = ix_getr 10 20 (fun _ => 125) 79 (ix_Ev o_X11_lies Q) Q ls st μ := ix_Ev.eq (a_X11_lies launch0) rfl ls st μ
theorem e_X11_lies_79 (Q : ix_R → Prop) (ls : ix_L) (st : List ix_V) (μ : ix_M) : ix_Ev o_X11_lies Q (79, ls, st, μ) = ix_push (vi 40) 81 (ix_Ev o_X11_lies Q) Q ls st μ := ix_Ev.eq (a_X11_lies launch0) rfl ls st μ
theorem e_X11_lies_81 (Q : ix_R → Prop) (ls : ix_L) (st : List ix_V) (μ : ix_M) : ix_Ev o_X11_lies Q (81, ls, st, μ) = ix_iload 1 82 (ix_Ev o_X11_lies Q) Q ls st μ := ix_Ev.eq (a_X11_lies launch0) rfl ls st μ
theorem e_X11_lies_82 (Q : ix_R → Prop) (ls : ix_L) (st : List ix_V) (μ : ix_M) : ix_Ev o_X11_lies Q (82, ls, st, μ) = ix_bin (fun x y => x * y) 83 (ix_Ev o_X11_lies Q) Q ls st μ := ix_Ev.eq (a_X11_lies launch0) rfl ls st μ
theorem e_X11_lies_83 (Q : ix_R → Prop) (ls : ix_L) (st : List ix_V) (μ : ix_M) : ix_Ev o_X11_lies Q (83, ls, st, μ) = ix_iload 2 84 (ix_Ev o_X11_lies Q) Q ls st μ := ix_Ev.eq (a_X11_lies launch0) rfl ls st μ
theorem e_X11_lies_84 (Q : ix_R → Prop) (ls : ix_L) (st : List ix_V) (μ : ix_M) : ix_Ev o_X11_lies Q (84, ls, st, μ) = ix_bin (fun x y => x + y) 85 (ix_Ev o_X11_lies Q) Q ls st μ := ix_Ev.eq (a_X11_lies launch0) rfl ls st μ
theorem e_X11_lies_85 (Q : ix_R → Prop) (ls : ix_L) (st : List ix_V) (μ : ix_M) : ix_Ev o_X11_lies Q (85, ls, st, μ) = ix_iald 86 (ix_Ev o_X11_lies Q) Q ls st μ := ix_Ev.eq (a_X11_lies launch0) rfl ls st μ
theorem e_X11_lies_86 (Q : ix_R → Prop) (ls : ix_L) (st : List ix_V) (μ : ix_M) : ix_Ev o_X11_lies Q (86, ls, st, μ) = ix_iast 87 (ix_Ev o_X11_lies Q) Q ls st μ := ix_Ev.eq (a_X11_lies launch0) rfl ls st μ
theorem e_X11_lies_87 (Q : ix_R → Prop) (ls : ix_L) (st : List ix_V) (μ : ix_M) : ix_Ev o_X11_lies Q (87, ls, st, μ) = ix_iinc 2 1 90 (ix_Ev o_X11_lies Q) Q ls st μ := ix_Ev.eq (a_X11_lies launch0) rfl ls st μ
theorem e_X11_lies_90 (Q : ix_R → Prop) (ls : ix_L) (st : List ix_V) (μ : ix_M) : ix_Ev o_X11_lies Q (90, ls, st, μ) = ix_goto 33 (ix_Ev o_X11_lies Q) Q ls st μ := ix_Ev.eq (a_X11_lies launch0) rfl ls st μ
theorem e_X11_lies_93 (Q : ix_R → Prop) (ls : ix_L) (st : List ix_V) (μ : ix_M) : ix_Ev o_X11_lies Q (93, ls, st, μ) = ix_iload 2 94 (ix_Ev o_X11_lies Q) Q ls st μ := ix_Ev.eq (a_X11_lies launch0) rfl ls st μ
theorem e_X11_lies_94 (Q : ix_R → Prop) (ls : ix_L) (st : List ix_V) (μ : ix_M) : ix_Ev o_X11_lies Q (94, ls, st, μ) = ix_iret (ix_Ev o_X11_lies Q) Q ls st μ := ix_Ev.eq (a_X11_lies launch0) rfl ls st μ
def inM (x : Int32) : Prop := ¬ (x < 0 ∨ 99 < x)
theorem inM_iff (x : Int32) : (0 ≤ x ∧ x ≤ 99) ↔ inM x := by
  unfold inM
  constructor
  · rintro ⟨h1, h2⟩ (h | h)
    · exact absurd h (Int32.not_lt.mpr h1)
    · exact absurd h (Int32.not_lt.mpr h2)
  · intro h
    exact ⟨Int32.not_lt.mp (fun z => h (Or.inl z)), Int32.not_lt.mp (fun z => h (Or.inr z))⟩
theorem l_X10_lies {S n : Nat} {μ0 : ix_M} {Q : ix_R → Prop} {g : Nat → Int32} (hS : S < 4) (hn : n ≤ 40) (hs : μ0 (99 + (3 * S + 1)) 1 = nI n) (hg : g = μ0 (99 + (3 * S + 2))) (hQ : ∀ m μ', m ≤ 16 → m ≤ n → (∀ j, j < m → inM (g j)) → (m = 16 ∨ m = n ∨ ¬ inM (g m)) → Fx [4] μ0 μ' → (∀ j, μ' 4 j = if j < m then g j else μ0 4 j) → Q (some (vi (nI m)), μ')) : ∀ (k i : Nat) (μ : ix_M), i + k = 16 → i ≤ n → (∀ j, j < i → inM (g j)) → Fx [4] μ0 μ → (∀ j, μ 4 j = if j < i then g j else μ0 4 j) → ix_Ev o_X10_lies Q (44, [some (vr 9 0), some (vi (nI S)), some (vr 3 (99 + (3 * S + 1))), some (vi (nI i))], [], μ) := by
  intro k
  induction k with
  | zero =>
    intro i μ hi hin hj hF h4
    have hi : i = 16 := hi
    subst hi
    have c1 : 16 ≤ nI 16 := by decide
    rw [e_X10_lies_44]
    simp (decide := true) only [e_X10_lies_0, e_X10_lies_1, e_X10_lies_2, e_X10_lies_5, e_X10_lies_8, e_X10_lies_9, e_X10_lies_10, e_X10_lies_13, e_X10_lies_14, e_X10_lies_15, e_X10_lies_18, e_X10_lies_19, e_X10_lies_20, e_X10_lies_23, e_X10_lies_26, e_X10_lies_27, e_X10_lies_28, e_X10_lies_31, e_X10_lies_32, e_X10_lies_33, e_X10_lies_36, e_X10_lies_37, e_X10_lies_38, e_X10_lies_41, e_X10_lies_42, e_X10_lies_43, e_X10_lies_45, e_X10_lies_47, e_X10_lies_50, e_X10_lies_51, e_X10_lies_52, e_X10_lies_55, e_X10_lies_58, e_X10_lies_59, e_X10_lies_60, e_X10_lies_63, e_X10_lies_65, e_X10_lies_68, e_X10_lies_71, e_X10_lies_72, e_X10_lies_73, e_X10_lies_74, e_X10_lies_77, e_X10_lies_80, e_X10_lies_83, e_X10_lies_84, e_X10_lies_85, e_X10_lies_86, e_X10_lies_89, e_X10_lies_90, e_X10_lies_93, e_X10_lies_96, e_X10_lies_98, vi, vl, vr, oc_X10_error, T_X10_error, oc_X10_outside, T_X10_outside, oc_X4_get, T_X4_get, oc_X4_has, T_X4_has, oc_X5_isMissing, T_X5_isMissing, ix_push, ix_iload, ix_lload, ix_aload, ix_istore, ix_astore, ix_iinc, ix_bin, ix_div, ix_un, ix_i2l, ix_l2i, ix_lbin, ix_lsh, ix_lcmp, ix_dup, ix_dup2, ix_pop, ix_if, ix_cmp, ix_goto, ix_switch, ix_sw, ix_iret, ix_zret, ix_vret, ix_aret, ix_geti, ix_getr, ix_puti, ix_putz, ix_puts, ix_gets, ix_iald, ix_iast, ix_alen, ix_aald, ix_gval, ix_gcod, ix_bald, ix_blen, ix_sald, ix_nret, ix_math2, ix_math1, ix_acopy, Nat.add_assoc, Int32.reduceLT, Int32.reduceLE, Int32.reduceToNatClampNeg, Int32.reduceSub, Int32.reduceAdd, Nat.reduceAdd, Nat.reduceLeDiff, true_or, or_true, or_false, false_or, not_false_eq_true, not_true_eq_false, false_implies, true_implies, implies_true, and_self, mB_0, mB_01, Classical.not_not, Nat.zero_le, List.getElem?_cons_zero, List.getElem?_cons_succ, List.set_cons_zero, List.set_cons_succ, ix_nl, ix_cs, true_and, and_true, Option.toList_some, Option.toList_none, List.cons_append, List.nil_append, c1]
    exact hQ 16 μ (by decide) hin hj (Or.inl rfl) hF h4
  | succ k ih =>
    intro i μ hi hin hj hF h4
    have c1 : ¬ 16 ≤ nI i := nI_ge (a := i) (b := 16) (by omega) (by decide)
    have n1 : nI i + 1 = nI (i + 1) := nI_1 i
    have v1 : vp_in (nI i) (ix_len 4) := vp_in_nI (show i < 16 by omega) (by decide)
    have Ic : (nI i).toNatClampNeg = i := nI_clamp (by omega)
    have I0 : ¬ nI i < 0 := nI_pos (by omega)
    have hs' : μ (99 + (3 * S + 1)) 1 = nI n := by rw [hF _ (by simp; omega)]; exact hs
    have hg' : μ (99 + (3 * S + 2)) = g := by rw [hF _ (by simp; omega)]; exact hg.symm
    have rk : RowOk μ (99 + (3 * S + 1)) := rowOk hs' hn (shLen S hS) (by decide)
    rw [e_X10_lies_44]
    simp (decide := true) only [e_X10_lies_0, e_X10_lies_1, e_X10_lies_2, e_X10_lies_5, e_X10_lies_8, e_X10_lies_9, e_X10_lies_10, e_X10_lies_13, e_X10_lies_14, e_X10_lies_15, e_X10_lies_18, e_X10_lies_19, e_X10_lies_20, e_X10_lies_23, e_X10_lies_26, e_X10_lies_27, e_X10_lies_28, e_X10_lies_31, e_X10_lies_32, e_X10_lies_33, e_X10_lies_36, e_X10_lies_37, e_X10_lies_38, e_X10_lies_41, e_X10_lies_42, e_X10_lies_43, e_X10_lies_45, e_X10_lies_47, e_X10_lies_50, e_X10_lies_51, e_X10_lies_52, e_X10_lies_55, e_X10_lies_58, e_X10_lies_59, e_X10_lies_60, e_X10_lies_63, e_X10_lies_65, e_X10_lies_68, e_X10_lies_71, e_X10_lies_72, e_X10_lies_73, e_X10_lies_74, e_X10_lies_77, e_X10_lies_80, e_X10_lies_83, e_X10_lies_84, e_X10_lies_85, e_X10_lies_86, e_X10_lies_89, e_X10_lies_90, e_X10_lies_93, e_X10_lies_96, e_X10_lies_98, vi, vl, vr, oc_X10_error, T_X10_error, oc_X10_outside, T_X10_outside, oc_X4_get, T_X4_get, oc_X4_has, T_X4_has, oc_X5_isMissing, T_X5_isMissing, ix_push, ix_iload, ix_lload, ix_aload, ix_istore, ix_astore, ix_iinc, ix_bin, ix_div, ix_un, ix_i2l, ix_l2i, ix_lbin, ix_lsh, ix_lcmp, ix_dup, ix_dup2, ix_pop, ix_if, ix_cmp, ix_goto, ix_switch, ix_sw, ix_iret, ix_zret, ix_vret, ix_aret, ix_geti, ix_getr, ix_puti, ix_putz, ix_puts, ix_gets, ix_iald, ix_iast, ix_alen, ix_aald, ix_gval, ix_gcod, ix_bald, ix_blen, ix_sald, ix_nret, ix_math2, ix_math1, ix_acopy, Nat.add_assoc, Int32.reduceLT, Int32.reduceLE, Int32.reduceToNatClampNeg, Int32.reduceSub, Int32.reduceAdd, Nat.reduceAdd, Nat.reduceLeDiff, true_or, or_true, or_false, false_or, not_false_eq_true, not_true_eq_false, false_implies, true_implies, implies_true, and_self, mB_0, mB_01, Classical.not_not, Nat.zero_le, List.getElem?_cons_zero, List.getElem?_cons_succ, List.set_cons_zero, List.set_cons_succ, ix_nl, ix_cs, true_and, and_true, Option.toList_some, Option.toList_none, List.cons_append, List.nil_append, c1, n1, v1, Ic, I0, hs', hg', rk]
    by_cases c2 : i = n
    · have z : nI n ≤ nI i := nI_le (by omega) (by omega)
      exact ⟨fun _ => hQ i μ (by omega) hin hj (Or.inr (Or.inl c2)) hF h4, fun y => absurd z y⟩
    · have z : ¬ nI n ≤ nI i := nI_ge (by omega) (by omega)
      refine ⟨fun y => absurd y z, fun _ => ?_⟩
      rw [if_pos z]
      refine ⟨fun y => ih (i + 1) _ (by omega) (by omega) (fun j hj' => ?_) (hF.up (by simp)) (fun j => ?_), fun y => hQ i μ (by omega) hin hj (Or.inr (Or.inr (fun w => w y))) hF h4⟩
      · by_cases c3 : j = i
        · rw [c3]
          exact y
        · exact hj j (by omega)
      · rw [ix_up_ap]
        by_cases c3 : j = i
        · rw [if_pos ⟨rfl, c3⟩, if_pos (by omega), c3]
        · rw [if_neg (fun w => c3 w.2), h4 j]
          by_cases c4 : j < i
          · rw [if_pos c4, if_pos (by omega)]
          · rw [if_neg c4, if_neg (by omega)]
theorem l_X11_lies {S n m : Nat} {μ0 : ix_M} {Q : ix_R → Prop} (hS : S < 4) (hn : n ≤ 40) (hs : μ0 124 S = nI n) (hm : m ≤ 16) (hm2 : m ≤ n) (hj : ∀ j, j < m → inM (μ0 125 (40 * S + j))) (hx : m = 16 ∨ m = n ∨ ¬ inM (μ0 125 (40 * S + m))) (hQ : ∀ μ', Fx [113] μ0 μ' → (∀ j, μ' 113 j = if 34 ≤ j ∧ j < 34 + m then μ0 125 (40 * S + (j - 34)) else μ0 113 j) → Q (some (vi (nI m)), μ')) : ∀ (k i : Nat) (μ : ix_M), i + k = m → Fx [113] μ0 μ → (∀ j, μ 113 j = if 34 ≤ j ∧ j < 34 + i then μ0 125 (40 * S + (j - 34)) else μ0 113 j) → ix_Ev o_X11_lies Q (33, [some (vr 10 112), some (vi (nI S)), some (vi (nI i))], [], μ) := by
  have Sc : (nI S).toNatClampNeg = S := nI_clamp (by omega)
  have v4 : vp_in (nI S) 4 := vp_in_nI hS (by decide)
  have e40 : (40 : Int32) * nI S = nI (40 * S) := (Int32.ofNat_mul 40 S).symm
  have e41 : ∀ i, i < 40 → nI (40 * S) + nI i = nI (40 * S + i) ∧ (nI (40 * S + i)).toNatClampNeg = 40 * S + i ∧ vp_in (nI (40 * S + i)) 160 := fun i hi => ⟨nI_add _ _, nI_clamp (by omega), vp_in_nI (by omega) (by decide)⟩
  intro k
  induction k with
  | zero =>
    intro i μ hi hF hr
    have hi : i = m := hi
    subst hi
    have hs' : μ 124 S = nI n := by rw [hF _ (by simp)]; exact hs
    have q3 : nI n ≤ nI i ↔ n ≤ i := nI_leI (by omega) (by omega)
    have q4 : (0 ≤ nI i ∧ nI i ≤ 15) ↔ i ≤ 15 := ⟨fun z => (nI_leI (b := 15) (by omega) (by decide)).mp z.2, fun z => ⟨nI_pos' (by omega), nI_le (b := 15) z (by decide)⟩⟩
    rw [e_X11_lies_33]
    simp (decide := true) only [e_X11_lies_0, e_X11_lies_1, e_X11_lies_4, e_X11_lies_7, e_X11_lies_8, e_X11_lies_10, e_X11_lies_13, e_X11_lies_14, e_X11_lies_15, e_X11_lies_18, e_X11_lies_19, e_X11_lies_20, e_X11_lies_23, e_X11_lies_24, e_X11_lies_27, e_X11_lies_30, e_X11_lies_31, e_X11_lies_32, e_X11_lies_34, e_X11_lies_35, e_X11_lies_38, e_X11_lies_39, e_X11_lies_40, e_X11_lies_43, e_X11_lies_44, e_X11_lies_47, e_X11_lies_50, e_X11_lies_51, e_X11_lies_54, e_X11_lies_56, e_X11_lies_57, e_X11_lies_58, e_X11_lies_59, e_X11_lies_60, e_X11_lies_61, e_X11_lies_64, e_X11_lies_67, e_X11_lies_68, e_X11_lies_71, e_X11_lies_73, e_X11_lies_74, e_X11_lies_75, e_X11_lies_76, e_X11_lies_79, e_X11_lies_81, e_X11_lies_82, e_X11_lies_83, e_X11_lies_84, e_X11_lies_85, e_X11_lies_86, e_X11_lies_87, e_X11_lies_90, e_X11_lies_93, e_X11_lies_94, vi, vl, vr, oc_X11_finding, T_X11_finding, oc_X11_isCell, T_X11_isCell, oc_X11_isMost, T_X11_isMost, oc_X11_isSheet, T_X11_isSheet, ix_push, ix_iload, ix_lload, ix_aload, ix_istore, ix_astore, ix_iinc, ix_bin, ix_div, ix_un, ix_i2l, ix_l2i, ix_lbin, ix_lsh, ix_lcmp, ix_dup, ix_dup2, ix_pop, ix_if, ix_cmp, ix_goto, ix_switch, ix_sw, ix_iret, ix_zret, ix_vret, ix_aret, ix_geti, ix_getr, ix_puti, ix_putz, ix_puts, ix_gets, ix_iald, ix_iast, ix_alen, ix_aald, ix_gval, ix_gcod, ix_bald, ix_blen, ix_sald, ix_nret, ix_math2, ix_math1, ix_acopy, ml_113, ml_114, ml_115, ml_116, ml_118, ml_119, ml_120, ml_121, ml_122, ml_123, ml_124, ml_125, ml_126, mv_0, mv_1, mv_2, mv_3, mv_4, mv_5, mB_or, Nat.add_assoc, Int32.reduceLT, Int32.reduceLE, Int32.reduceToNatClampNeg, Int32.reduceSub, Int32.reduceAdd, Nat.reduceAdd, Nat.reduceLeDiff, true_or, or_true, or_false, false_or, not_false_eq_true, not_true_eq_false, false_implies, true_implies, implies_true, and_self, mB_0, mB_01, Classical.not_not, Nat.zero_le, List.getElem?_cons_zero, List.getElem?_cons_succ, List.set_cons_zero, List.set_cons_succ, ix_nl, ix_cs, true_and, and_true, Option.toList_some, Option.toList_none, List.cons_append, List.nil_append, hs', Sc, v4, e40, q3, q4, inM_iff]
    have q := hQ μ hF hr
    refine ⟨fun _ => q, fun z => ⟨fun _ => q, fun y => ?_⟩⟩
    have q6 := e41 i (by omega)
    rw [q6.1, q6.2.1, hF 125 (by decide)]
    refine ⟨q6.2.2, fun _ => q, fun w => ?_⟩
    rcases hx with h | h | h
    · omega
    · omega
    · exact absurd w h
  | succ k ih =>
    intro i μ hi hF hr
    have n1 : nI i + 1 = nI (i + 1) := nI_1 i
    have hs' : μ 124 S = nI n := by rw [hF _ (by simp)]; exact hs
    have q3 : ¬ nI n ≤ nI i := nI_ge (by omega) (by omega)
    have q4 : 0 ≤ nI i ∧ nI i ≤ 15 := ⟨nI_pos' (by omega), nI_le (b := 15) (by omega) (by decide)⟩
    have q6 := e41 i (by omega)
    have e125 : μ 125 = μ0 125 := hF 125 (by decide)
    have q7 := (inM_iff _).mpr (hj i (by omega))
    obtain ⟨y1, y2, y3⟩ := mix 34 i (by omega)
    have y1 : (34 : Int32) + nI i = nI (34 + i) := y1
    rw [e_X11_lies_33]
    simp (decide := true) only [e_X11_lies_0, e_X11_lies_1, e_X11_lies_4, e_X11_lies_7, e_X11_lies_8, e_X11_lies_10, e_X11_lies_13, e_X11_lies_14, e_X11_lies_15, e_X11_lies_18, e_X11_lies_19, e_X11_lies_20, e_X11_lies_23, e_X11_lies_24, e_X11_lies_27, e_X11_lies_30, e_X11_lies_31, e_X11_lies_32, e_X11_lies_34, e_X11_lies_35, e_X11_lies_38, e_X11_lies_39, e_X11_lies_40, e_X11_lies_43, e_X11_lies_44, e_X11_lies_47, e_X11_lies_50, e_X11_lies_51, e_X11_lies_54, e_X11_lies_56, e_X11_lies_57, e_X11_lies_58, e_X11_lies_59, e_X11_lies_60, e_X11_lies_61, e_X11_lies_64, e_X11_lies_67, e_X11_lies_68, e_X11_lies_71, e_X11_lies_73, e_X11_lies_74, e_X11_lies_75, e_X11_lies_76, e_X11_lies_79, e_X11_lies_81, e_X11_lies_82, e_X11_lies_83, e_X11_lies_84, e_X11_lies_85, e_X11_lies_86, e_X11_lies_87, e_X11_lies_90, e_X11_lies_93, e_X11_lies_94, vi, vl, vr, oc_X11_finding, T_X11_finding, oc_X11_isCell, T_X11_isCell, oc_X11_isMost, T_X11_isMost, oc_X11_isSheet, T_X11_isSheet, ix_push, ix_iload, ix_lload, ix_aload, ix_istore, ix_astore, ix_iinc, ix_bin, ix_div, ix_un, ix_i2l, ix_l2i, ix_lbin, ix_lsh, ix_lcmp, ix_dup, ix_dup2, ix_pop, ix_if, ix_cmp, ix_goto, ix_switch, ix_sw, ix_iret, ix_zret, ix_vret, ix_aret, ix_geti, ix_getr, ix_puti, ix_putz, ix_puts, ix_gets, ix_iald, ix_iast, ix_alen, ix_aald, ix_gval, ix_gcod, ix_bald, ix_blen, ix_sald, ix_nret, ix_math2, ix_math1, ix_acopy, ml_113, ml_114, ml_115, ml_116, ml_118, ml_119, ml_120, ml_121, ml_122, ml_123, ml_124, ml_125, ml_126, mv_0, mv_1, mv_2, mv_3, mv_4, mv_5, mB_or, Nat.add_assoc, Int32.reduceLT, Int32.reduceLE, Int32.reduceToNatClampNeg, Int32.reduceSub, Int32.reduceAdd, Nat.reduceAdd, Nat.reduceLeDiff, true_or, or_true, or_false, false_or, not_false_eq_true, not_true_eq_false, false_implies, true_implies, implies_true, and_self, mB_0, mB_01, Classical.not_not, Nat.zero_le, List.getElem?_cons_zero, List.getElem?_cons_succ, List.set_cons_zero, List.set_cons_succ, ix_nl, ix_cs, true_and, and_true, Option.toList_some, Option.toList_none, List.cons_append, List.nil_append, hs', Sc, v4, e40, q3, q4, q6, q7, n1, e125, y1, y2, y3]
    refine ih (i + 1) _ (by omega) (hF.up (by simp)) (fun j => ?_)
    rw [ix_up_ap]
    by_cases c : j = 34 + i
    · rw [if_pos ⟨rfl, c⟩, if_pos (by omega), c, show 34 + i - 34 = i by omega]
    · rw [if_neg (fun z => c z.2), hr j]
      by_cases c2 : 34 ≤ j ∧ j < 34 + i
      · rw [if_pos c2, if_pos (by omega)]
      · rw [if_neg c2, if_neg (by omega)]
theorem wr_cong {v v' : WV} {M : Nat} (h : WR v M) (he : ∀ r i, r ≠ 2 → v' r i = v r i) : WR v' M := by
  obtain ⟨⟨h1, h2, h3⟩, h4, h5, h6, h7⟩ := h
  refine ⟨⟨by rw [he 0 7 (by decide)]; exact h1, by rw [he 0 8 (by decide)]; exact h2, fun b hb => by rw [he 6 b (by decide)]; exact h3 b hb⟩, fun b hb => by rw [he 3 b (by decide)]; exact h4 b hb, fun b hb => by rw [he 4 b (by decide)]; exact h5 b hb, fun b hb => by rw [he 5 b (by decide)]; exact h6 b hb, fun b hb => by rw [he 7 b (by decide)]; exact h7 b hb⟩
theorem pr_lies (s : Int32) (μ : ix_M) (I : Inv μ) (Q : ix_R → Prop) (hQ : ∀ vv μ', ix_Ev o_X11_lies (Pst vv) (0, [some (vr 10 112), some (vi s), none], [], μ') → Q (some (vi vv), μ')) : ix_Ev o_X10_lies Q (0, [some (vr 9 0), some (vi s), none, none], [], μ) := by
  rcases inR s 3 (by decide) with ⟨S, hS, rfl⟩ | ⟨hx1, hx2⟩
  · obtain ⟨S1, S2, S3, S4⟩ : ¬ nI S < 0 ∧ ¬ (3 : Int32) < nI S ∧ 0 ≤ nI S ∧ nI S ≤ (3 : Int32) := rgN hS (by decide)
    have Sc : (nI S).toNatClampNeg = S := nI_clamp (by omega)
    have v4 : vp_in (nI S) 4 := vp_in_nI (by omega) (by decide)
    obtain ⟨M, hM, hR, m1, m2⟩ := I.mi
    obtain ⟨h1, N1, hN1, h2, h3, h4⟩ := I.2.2.2.2.1 S (by omega)
    have h2' : μ (99 + (3 * S + 1)) 1 = nI N1 := by rw [show 99 + (3 * S + 1) = 100 + 3 * S by omega]; exact h2
    have h4' : ∀ j, j < N1 → μ (99 + (3 * S + 2)) j = μ 125 (40 * S + j) := fun j hj => by rw [show 99 + (3 * S + 2) = 101 + 3 * S by omega]; exact h4 j hj
    by_cases c : μ 123 S = 0
    · simp (decide := true) only [e_X10_lies_0, e_X10_lies_1, e_X10_lies_2, e_X10_lies_5, e_X10_lies_8, e_X10_lies_9, e_X10_lies_10, e_X10_lies_13, e_X10_lies_14, e_X10_lies_15, e_X10_lies_18, e_X10_lies_19, e_X10_lies_20, e_X10_lies_23, e_X10_lies_26, e_X10_lies_27, e_X10_lies_28, e_X10_lies_31, e_X10_lies_32, e_X10_lies_33, e_X10_lies_36, e_X10_lies_37, e_X10_lies_38, e_X10_lies_41, e_X10_lies_42, e_X10_lies_43, e_X10_lies_45, e_X10_lies_47, e_X10_lies_50, e_X10_lies_51, e_X10_lies_52, e_X10_lies_55, e_X10_lies_58, e_X10_lies_59, e_X10_lies_60, e_X10_lies_63, e_X10_lies_65, e_X10_lies_68, e_X10_lies_71, e_X10_lies_72, e_X10_lies_73, e_X10_lies_74, e_X10_lies_77, e_X10_lies_80, e_X10_lies_83, e_X10_lies_84, e_X10_lies_85, e_X10_lies_86, e_X10_lies_89, e_X10_lies_90, e_X10_lies_93, e_X10_lies_96, e_X10_lies_98, vi, vl, vr, oc_X10_error, T_X10_error, oc_X10_outside, T_X10_outside, oc_X4_get, T_X4_get, oc_X4_has, T_X4_has, oc_X5_isMissing, T_X5_isMissing, ix_push, ix_iload, ix_lload, ix_aload, ix_istore, ix_astore, ix_iinc, ix_bin, ix_div, ix_un, ix_i2l, ix_l2i, ix_lbin, ix_lsh, ix_lcmp, ix_dup, ix_dup2, ix_pop, ix_if, ix_cmp, ix_goto, ix_switch, ix_sw, ix_iret, ix_zret, ix_vret, ix_aret, ix_geti, ix_getr, ix_puti, ix_putz, ix_puts, ix_gets, ix_iald, ix_iast, ix_alen, ix_aald, ix_gval, ix_gcod, ix_bald, ix_blen, ix_sald, ix_nret, ix_math2, ix_math1, ix_acopy, Nat.add_assoc, Int32.reduceLT, Int32.reduceLE, Int32.reduceToNatClampNeg, Int32.reduceSub, Int32.reduceAdd, Nat.reduceAdd, Nat.reduceLeDiff, true_or, or_true, or_false, false_or, not_false_eq_true, not_true_eq_false, false_implies, true_implies, implies_true, and_self, mB_0, mB_01, Classical.not_not, Nat.zero_le, List.getElem?_cons_zero, List.getElem?_cons_succ, List.set_cons_zero, List.set_cons_succ, ix_nl, ix_cs, true_and, and_true, Option.toList_some, Option.toList_none, List.cons_append, List.nil_append, S1, S2, S3, S4, Sc, v4, h1, c, ix_up_ne, ix_up_k, ve_1, ve_2, ve_3, ve_4, ve_5]
      refine hQ _ _ ?_
      simp (decide := true) only [e_X11_lies_0, e_X11_lies_1, e_X11_lies_4, e_X11_lies_7, e_X11_lies_8, e_X11_lies_10, e_X11_lies_13, e_X11_lies_14, e_X11_lies_15, e_X11_lies_18, e_X11_lies_19, e_X11_lies_20, e_X11_lies_23, e_X11_lies_24, e_X11_lies_27, e_X11_lies_30, e_X11_lies_31, e_X11_lies_32, e_X11_lies_34, e_X11_lies_35, e_X11_lies_38, e_X11_lies_39, e_X11_lies_40, e_X11_lies_43, e_X11_lies_44, e_X11_lies_47, e_X11_lies_50, e_X11_lies_51, e_X11_lies_54, e_X11_lies_56, e_X11_lies_57, e_X11_lies_58, e_X11_lies_59, e_X11_lies_60, e_X11_lies_61, e_X11_lies_64, e_X11_lies_67, e_X11_lies_68, e_X11_lies_71, e_X11_lies_73, e_X11_lies_74, e_X11_lies_75, e_X11_lies_76, e_X11_lies_79, e_X11_lies_81, e_X11_lies_82, e_X11_lies_83, e_X11_lies_84, e_X11_lies_85, e_X11_lies_86, e_X11_lies_87, e_X11_lies_90, e_X11_lies_93, e_X11_lies_94, vi, vl, vr, oc_X11_finding, T_X11_finding, oc_X11_isCell, T_X11_isCell, oc_X11_isMost, T_X11_isMost, oc_X11_isSheet, T_X11_isSheet, ix_push, ix_iload, ix_lload, ix_aload, ix_istore, ix_astore, ix_iinc, ix_bin, ix_div, ix_un, ix_i2l, ix_l2i, ix_lbin, ix_lsh, ix_lcmp, ix_dup, ix_dup2, ix_pop, ix_if, ix_cmp, ix_goto, ix_switch, ix_sw, ix_iret, ix_zret, ix_vret, ix_aret, ix_geti, ix_getr, ix_puti, ix_putz, ix_puts, ix_gets, ix_iald, ix_iast, ix_alen, ix_aald, ix_gval, ix_gcod, ix_bald, ix_blen, ix_sald, ix_nret, ix_math2, ix_math1, ix_acopy, ml_113, ml_114, ml_115, ml_116, ml_118, ml_119, ml_120, ml_121, ml_122, ml_123, ml_124, ml_125, ml_126, mv_0, mv_1, mv_2, mv_3, mv_4, mv_5, mB_or, Nat.add_assoc, Int32.reduceLT, Int32.reduceLE, Int32.reduceToNatClampNeg, Int32.reduceSub, Int32.reduceAdd, Nat.reduceAdd, Nat.reduceLeDiff, true_or, or_true, or_false, false_or, not_false_eq_true, not_true_eq_false, false_implies, true_implies, implies_true, and_self, mB_0, mB_01, Classical.not_not, Nat.zero_le, List.getElem?_cons_zero, List.getElem?_cons_succ, List.set_cons_zero, List.set_cons_succ, ix_nl, ix_cs, true_and, and_true, Option.toList_some, Option.toList_none, List.cons_append, List.nil_append, S1, S2, S3, S4, Sc, v4, h1, c, ix_up_ne, ix_up_k, ve_1, ve_2, ve_3, ve_4, ve_5]
      repeat' (first | exact I.er 2 (by decide) | refine ⟨fun _ => ?_, fun _ => ?_⟩)
    · simp (decide := true) only [e_X10_lies_0, e_X10_lies_1, e_X10_lies_2, e_X10_lies_5, e_X10_lies_8, e_X10_lies_9, e_X10_lies_10, e_X10_lies_13, e_X10_lies_14, e_X10_lies_15, e_X10_lies_18, e_X10_lies_19, e_X10_lies_20, e_X10_lies_23, e_X10_lies_26, e_X10_lies_27, e_X10_lies_28, e_X10_lies_31, e_X10_lies_32, e_X10_lies_33, e_X10_lies_36, e_X10_lies_37, e_X10_lies_38, e_X10_lies_41, e_X10_lies_42, e_X10_lies_43, e_X10_lies_45, e_X10_lies_47, e_X10_lies_50, e_X10_lies_51, e_X10_lies_52, e_X10_lies_55, e_X10_lies_58, e_X10_lies_59, e_X10_lies_60, e_X10_lies_63, e_X10_lies_65, e_X10_lies_68, e_X10_lies_71, e_X10_lies_72, e_X10_lies_73, e_X10_lies_74, e_X10_lies_77, e_X10_lies_80, e_X10_lies_83, e_X10_lies_84, e_X10_lies_85, e_X10_lies_86, e_X10_lies_89, e_X10_lies_90, e_X10_lies_93, e_X10_lies_96, e_X10_lies_98, vi, vl, vr, oc_X10_error, T_X10_error, oc_X10_outside, T_X10_outside, oc_X4_get, T_X4_get, oc_X4_has, T_X4_has, oc_X5_isMissing, T_X5_isMissing, ix_push, ix_iload, ix_lload, ix_aload, ix_istore, ix_astore, ix_iinc, ix_bin, ix_div, ix_un, ix_i2l, ix_l2i, ix_lbin, ix_lsh, ix_lcmp, ix_dup, ix_dup2, ix_pop, ix_if, ix_cmp, ix_goto, ix_switch, ix_sw, ix_iret, ix_zret, ix_vret, ix_aret, ix_geti, ix_getr, ix_puti, ix_putz, ix_puts, ix_gets, ix_iald, ix_iast, ix_alen, ix_aald, ix_gval, ix_gcod, ix_bald, ix_blen, ix_sald, ix_nret, ix_math2, ix_math1, ix_acopy, Nat.add_assoc, Int32.reduceLT, Int32.reduceLE, Int32.reduceToNatClampNeg, Int32.reduceSub, Int32.reduceAdd, Nat.reduceAdd, Nat.reduceLeDiff, true_or, or_true, or_false, false_or, not_false_eq_true, not_true_eq_false, false_implies, true_implies, implies_true, and_self, mB_0, mB_01, Classical.not_not, Nat.zero_le, List.getElem?_cons_zero, List.getElem?_cons_succ, List.set_cons_zero, List.set_cons_succ, ix_nl, ix_cs, true_and, and_true, Option.toList_some, Option.toList_none, List.cons_append, List.nil_append, S1, S2, S3, S4, Sc, v4, h1, c, ix_up_ne, ix_up_k, ve_1, ve_2, ve_3, ve_4, ve_5]
      refine l_X10_lies (S := S) (n := N1) (μ0 := μ) (by omega) hN1 h2' rfl (fun m μ1 k1 k2 k3 k4 F1 g1 => hQ _ _ ?_) 16 0 μ rfl (by omega) (fun j hj => absurd hj (Nat.not_lt_zero j)) Fx.rf (fun j => by rw [if_neg (Nat.not_lt_zero j)])
      have c2 : ¬ μ1 123 S = 0 := by rw [F1 123 (by decide)]; exact c
      simp (decide := true) only [e_X11_lies_0, e_X11_lies_1, e_X11_lies_4, e_X11_lies_7, e_X11_lies_8, e_X11_lies_10, e_X11_lies_13, e_X11_lies_14, e_X11_lies_15, e_X11_lies_18, e_X11_lies_19, e_X11_lies_20, e_X11_lies_23, e_X11_lies_24, e_X11_lies_27, e_X11_lies_30, e_X11_lies_31, e_X11_lies_32, e_X11_lies_34, e_X11_lies_35, e_X11_lies_38, e_X11_lies_39, e_X11_lies_40, e_X11_lies_43, e_X11_lies_44, e_X11_lies_47, e_X11_lies_50, e_X11_lies_51, e_X11_lies_54, e_X11_lies_56, e_X11_lies_57, e_X11_lies_58, e_X11_lies_59, e_X11_lies_60, e_X11_lies_61, e_X11_lies_64, e_X11_lies_67, e_X11_lies_68, e_X11_lies_71, e_X11_lies_73, e_X11_lies_74, e_X11_lies_75, e_X11_lies_76, e_X11_lies_79, e_X11_lies_81, e_X11_lies_82, e_X11_lies_83, e_X11_lies_84, e_X11_lies_85, e_X11_lies_86, e_X11_lies_87, e_X11_lies_90, e_X11_lies_93, e_X11_lies_94, vi, vl, vr, oc_X11_finding, T_X11_finding, oc_X11_isCell, T_X11_isCell, oc_X11_isMost, T_X11_isMost, oc_X11_isSheet, T_X11_isSheet, ix_push, ix_iload, ix_lload, ix_aload, ix_istore, ix_astore, ix_iinc, ix_bin, ix_div, ix_un, ix_i2l, ix_l2i, ix_lbin, ix_lsh, ix_lcmp, ix_dup, ix_dup2, ix_pop, ix_if, ix_cmp, ix_goto, ix_switch, ix_sw, ix_iret, ix_zret, ix_vret, ix_aret, ix_geti, ix_getr, ix_puti, ix_putz, ix_puts, ix_gets, ix_iald, ix_iast, ix_alen, ix_aald, ix_gval, ix_gcod, ix_bald, ix_blen, ix_sald, ix_nret, ix_math2, ix_math1, ix_acopy, ml_113, ml_114, ml_115, ml_116, ml_118, ml_119, ml_120, ml_121, ml_122, ml_123, ml_124, ml_125, ml_126, mv_0, mv_1, mv_2, mv_3, mv_4, mv_5, mB_or, Nat.add_assoc, Int32.reduceLT, Int32.reduceLE, Int32.reduceToNatClampNeg, Int32.reduceSub, Int32.reduceAdd, Nat.reduceAdd, Nat.reduceLeDiff, true_or, or_true, or_false, false_or, not_false_eq_true, not_true_eq_false, false_implies, true_implies, implies_true, and_self, mB_0, mB_01, Classical.not_not, Nat.zero_le, List.getElem?_cons_zero, List.getElem?_cons_succ, List.set_cons_zero, List.set_cons_succ, ix_nl, ix_cs, true_and, and_true, Option.toList_some, Option.toList_none, List.cons_append, List.nil_append, S1, S2, S3, S4, Sc, v4, c2, ix_up_ne, ix_up_k, ve_1, ve_2, ve_3, ve_4, ve_5]
      have e125 : μ1 125 = μ 125 := F1 125 (by decide)
      have e113 : μ1 113 = μ 113 := F1 113 (by decide)
      refine l_X11_lies (S := S) (n := N1) (m := m) (μ0 := μ1) (by omega) hN1 (by rw [F1 124 (by decide)]; exact h3) k1 k2 (fun j hj => by rw [e125, ← h4' j (by omega)]; exact k3 j hj) ?_ (fun μ2 F2 g2 => pst rfl ?_) m 0 μ1 (by omega) Fx.rf (fun j => by rw [if_neg (by omega)])
      · rcases k4 with h | h | h
        · exact Or.inl h
        · exact Or.inr (Or.inl h)
        · by_cases k : m = N1
          · exact Or.inr (Or.inl k)
          · rw [h4' m (by omega)] at h
            rw [e125]
            exact Or.inr (Or.inr h)
      · rw [e125, e113] at g2
        have g3 : ∀ j, ¬ (34 ≤ j ∧ j < 50) → μ2 113 j = μ 113 j := fun j hj => by rw [g2 j, if_neg (by omega)]
        have ni : ∀ r i, wok r i = true → r ≠ 2 → ¬ (34 ≤ nvI r i ∧ nvI r i < 50) := fun r i hw hr => by
          simp [wok] at hw
          unfold nvI
          repeat' split
          all_goals omega
        have gn : ∀ r i, r ≠ 2 → nv (μ2 113) r i = nv (μ 113) r i := fun r i hr => by
          unfold nv
          by_cases cw : wok r i = true
          · rw [if_pos cw, if_pos cw, g3 _ (ni r i cw hr)]
          · rw [if_neg cw, if_neg cw]
        refine I.wat (L := [4, 113]) (Fx.tr (F1.mono (by decide)) (F2.mono (by decide))) (fun a ha => ?_) ?_ hM (wr_cong hR gn) (fun j hj _ => g3 j (by unfold rst at hj; omega))
        · simp at ha
          omega
        · funext r i
          by_cases cw : wok r i = true
          · by_cases hr : r = 2
            · subst hr
              have hi : i < 16 := by
                simp [wok] at cw
                exact cw
              rw [wv_at cw, nv_2 _ hi, F2 4 (by decide), g1 i, g2 (34 + i)]
              by_cases ci : i < m
              · rw [if_pos ci, if_pos (by omega), show 34 + i - 34 = i by omega, h4' i (by omega)]
              · rw [if_neg ci, if_neg (by omega)]
                exact I.w2 hi
            · rw [gn r i hr, wv_at cw, F2 _ (by simp [wok] at cw; simp; omega), F1 _ (by simp; omega), nv_at cw]
              exact I.w cw
          · unfold wv nv
            rw [if_neg cw, if_neg cw]
  · have hx1 : s < 0 ∨ (3 : Int32) < s := hx1
    have hx2 : ¬ (0 ≤ s ∧ s ≤ (3 : Int32)) := hx2
    simp (decide := true) only [e_X10_lies_0, e_X10_lies_1, e_X10_lies_2, e_X10_lies_5, e_X10_lies_8, e_X10_lies_9, e_X10_lies_10, e_X10_lies_13, e_X10_lies_14, e_X10_lies_15, e_X10_lies_18, e_X10_lies_19, e_X10_lies_20, e_X10_lies_23, e_X10_lies_26, e_X10_lies_27, e_X10_lies_28, e_X10_lies_31, e_X10_lies_32, e_X10_lies_33, e_X10_lies_36, e_X10_lies_37, e_X10_lies_38, e_X10_lies_41, e_X10_lies_42, e_X10_lies_43, e_X10_lies_45, e_X10_lies_47, e_X10_lies_50, e_X10_lies_51, e_X10_lies_52, e_X10_lies_55, e_X10_lies_58, e_X10_lies_59, e_X10_lies_60, e_X10_lies_63, e_X10_lies_65, e_X10_lies_68, e_X10_lies_71, e_X10_lies_72, e_X10_lies_73, e_X10_lies_74, e_X10_lies_77, e_X10_lies_80, e_X10_lies_83, e_X10_lies_84, e_X10_lies_85, e_X10_lies_86, e_X10_lies_89, e_X10_lies_90, e_X10_lies_93, e_X10_lies_96, e_X10_lies_98, vi, vl, vr, oc_X10_error, T_X10_error, oc_X10_outside, T_X10_outside, oc_X4_get, T_X4_get, oc_X4_has, T_X4_has, oc_X5_isMissing, T_X5_isMissing, ix_push, ix_iload, ix_lload, ix_aload, ix_istore, ix_astore, ix_iinc, ix_bin, ix_div, ix_un, ix_i2l, ix_l2i, ix_lbin, ix_lsh, ix_lcmp, ix_dup, ix_dup2, ix_pop, ix_if, ix_cmp, ix_goto, ix_switch, ix_sw, ix_iret, ix_zret, ix_vret, ix_aret, ix_geti, ix_getr, ix_puti, ix_putz, ix_puts, ix_gets, ix_iald, ix_iast, ix_alen, ix_aald, ix_gval, ix_gcod, ix_bald, ix_blen, ix_sald, ix_nret, ix_math2, ix_math1, ix_acopy, Nat.add_assoc, Int32.reduceLT, Int32.reduceLE, Int32.reduceToNatClampNeg, Int32.reduceSub, Int32.reduceAdd, Nat.reduceAdd, Nat.reduceLeDiff, true_or, or_true, or_false, false_or, not_false_eq_true, not_true_eq_false, false_implies, true_implies, implies_true, and_self, mB_0, mB_01, Classical.not_not, Nat.zero_le, List.getElem?_cons_zero, List.getElem?_cons_succ, List.set_cons_zero, List.set_cons_succ, ix_nl, ix_cs, true_and, and_true, Option.toList_some, Option.toList_none, List.cons_append, List.nil_append, hx1, hx2, ix_up_ne, ix_up_k, ve_1, ve_2, ve_3, ve_4, ve_5]
    refine hQ _ _ ?_
    simp (decide := true) only [e_X11_lies_0, e_X11_lies_1, e_X11_lies_4, e_X11_lies_7, e_X11_lies_8, e_X11_lies_10, e_X11_lies_13, e_X11_lies_14, e_X11_lies_15, e_X11_lies_18, e_X11_lies_19, e_X11_lies_20, e_X11_lies_23, e_X11_lies_24, e_X11_lies_27, e_X11_lies_30, e_X11_lies_31, e_X11_lies_32, e_X11_lies_34, e_X11_lies_35, e_X11_lies_38, e_X11_lies_39, e_X11_lies_40, e_X11_lies_43, e_X11_lies_44, e_X11_lies_47, e_X11_lies_50, e_X11_lies_51, e_X11_lies_54, e_X11_lies_56, e_X11_lies_57, e_X11_lies_58, e_X11_lies_59, e_X11_lies_60, e_X11_lies_61, e_X11_lies_64, e_X11_lies_67, e_X11_lies_68, e_X11_lies_71, e_X11_lies_73, e_X11_lies_74, e_X11_lies_75, e_X11_lies_76, e_X11_lies_79, e_X11_lies_81, e_X11_lies_82, e_X11_lies_83, e_X11_lies_84, e_X11_lies_85, e_X11_lies_86, e_X11_lies_87, e_X11_lies_90, e_X11_lies_93, e_X11_lies_94, vi, vl, vr, oc_X11_finding, T_X11_finding, oc_X11_isCell, T_X11_isCell, oc_X11_isMost, T_X11_isMost, oc_X11_isSheet, T_X11_isSheet, ix_push, ix_iload, ix_lload, ix_aload, ix_istore, ix_astore, ix_iinc, ix_bin, ix_div, ix_un, ix_i2l, ix_l2i, ix_lbin, ix_lsh, ix_lcmp, ix_dup, ix_dup2, ix_pop, ix_if, ix_cmp, ix_goto, ix_switch, ix_sw, ix_iret, ix_zret, ix_vret, ix_aret, ix_geti, ix_getr, ix_puti, ix_putz, ix_puts, ix_gets, ix_iald, ix_iast, ix_alen, ix_aald, ix_gval, ix_gcod, ix_bald, ix_blen, ix_sald, ix_nret, ix_math2, ix_math1, ix_acopy, ml_113, ml_114, ml_115, ml_116, ml_118, ml_119, ml_120, ml_121, ml_122, ml_123, ml_124, ml_125, ml_126, mv_0, mv_1, mv_2, mv_3, mv_4, mv_5, mB_or, Nat.add_assoc, Int32.reduceLT, Int32.reduceLE, Int32.reduceToNatClampNeg, Int32.reduceSub, Int32.reduceAdd, Nat.reduceAdd, Nat.reduceLeDiff, true_or, or_true, or_false, false_or, not_false_eq_true, not_true_eq_false, false_implies, true_implies, implies_true, and_self, mB_0, mB_01, Classical.not_not, Nat.zero_le, List.getElem?_cons_zero, List.getElem?_cons_succ, List.set_cons_zero, List.set_cons_succ, ix_nl, ix_cs, true_and, and_true, Option.toList_some, Option.toList_none, List.cons_append, List.nil_append, hx1, hx2, ix_up_ne, ix_up_k, ve_1, ve_2, ve_3, ve_4, ve_5]
    repeat' (first | exact I.er 1 (by decide) | refine ⟨fun _ => ?_, fun _ => ?_⟩)
def o_X10_sheet : List (Nat × ix_Op) := [
  (0, ix_iload 1 1),
  (1, ix_push (vi 3) 2),
  (2, oc_X10_outside 5),
  (5, ix_if (fun x => x = 0) 8 30),
  (8, ix_iload 2 9),
  (9, ix_if (fun x => x = 0) 36 12),
  (12, ix_iload 2 13),
  (13, ix_push (vi 8) 15),
  (15, ix_cmp (fun x y => x = y) 36 18),
  (18, ix_iload 2 19),
  (19, ix_push (vi 16) 21),
  (21, ix_cmp (fun x y => x = y) 36 24),
  (24, ix_iload 2 25),
  (25, ix_push (vi 32) 27),
  (27, ix_cmp (fun x y => x = y) 36 30),
  (30, ix_aload 0 31),
  (31, ix_push (vi 1) 32),
  (32, oc_X10_error 35),
  (35, ix_iret),
  (36, ix_iload 2 37),
  (37, ix_if (fun x => x = 0) 50 40),
  (40, ix_iload 3 41),
  (41, ix_if (fun x => 0 ≤ x) 50 44),
  (44, ix_aload 0 45),
  (45, ix_push (vi 3) 46),
  (46, oc_X10_error 49),
  (49, ix_iret),
  (50, ix_iload 2 51),
  (51, ix_if (fun x => x = 0) 66 54),
  (54, ix_iload 3 55),
  (55, ix_push (vi 40) 57),
  (57, ix_cmp (fun x y => x ≤ y) 66 60),
  (60, ix_aload 0 61),
  (61, ix_push (vi 1) 62),
  (62, oc_X10_error 65),
  (65, ix_iret),
  (66, ix_aload 0 67),
  (67, ix_getr 9 22 (fun _ => 98) 70),
  (70, ix_iload 1 71),
  (71, ix_aald 22 98 4 4 (fun i => 99 + 3 * i) 72),
  (72, ix_iload 2 73),
  (73, ix_iload 2 74),
  (74, ix_if (fun x => x = 0) 77 81),
  (77, ix_push (vi 0) 78),
  (78, ix_goto 82),
  (81, ix_iload 3 82),
  (82, oc_X5_begin 85),
  (85, ix_push (vi 1) 86),
  (86, ix_iret)]
set_option maxRecDepth 20000 in
theorem a_X10_sheet (l : Launch) : ix_AllS l cX10_sheet 4 RX10 60 (some .int) o_X10_sheet :=
  .cons (ix_s_iload_n dX10_sheet_0 rfl) <|
  .cons (ix_s_iconst dX10_sheet_1 (by decide +kernel)) <|
  .cons (oc_X10_outside_s (ix_s_calls (k_X10_outside l) (by decide) (by decide) tw_291 tw_1 tw_289 tw_290 ⟨by decide, by decide, by decide +kernel⟩ (fun _ => rfl) dX10_sheet_2)) <|
  .cons (ix_s_if_ne dX10_sheet_5 (by decide)) <|
  .cons (ix_s_iload_n dX10_sheet_8 rfl) <|
  .cons (ix_s_if_eq dX10_sheet_9 (by decide)) <|
  .cons (ix_s_iload_n dX10_sheet_12 rfl) <|
  .cons (ix_s_bipush dX10_sheet_13 (by decide +kernel)) <|
  .cons (ix_s_cmp_eq dX10_sheet_15 (by decide)) <|
  .cons (ix_s_iload_n dX10_sheet_18 rfl) <|
  .cons (ix_s_bipush dX10_sheet_19 (by decide +kernel)) <|
  .cons (ix_s_cmp_eq dX10_sheet_21 (by decide)) <|
  .cons (ix_s_iload_n dX10_sheet_24 rfl) <|
  .cons (ix_s_bipush dX10_sheet_25 (by decide +kernel)) <|
  .cons (ix_s_cmp_eq dX10_sheet_27 (by decide)) <|
  .cons (ix_s_aload_n dX10_sheet_30 rfl) <|
  .cons (ix_s_iconst dX10_sheet_31 (by decide +kernel)) <|
  .cons (oc_X10_error_s (ix_s_callv (t := 9) (k_X10_error l) (by decide) (by decide) tw_295 tw_1 tw_292 tw_294 tp_0 ⟨by decide, by decide, by decide +kernel⟩ (by decide) rfl rfl (fun _ => ⟨_, _, rfl, rfl⟩) dX10_sheet_32)) <|
  .cons (ix_s_iret dX10_sheet_35 rfl) <|
  .cons (ix_s_iload_n dX10_sheet_36 rfl) <|
  .cons (ix_s_if_eq dX10_sheet_37 (by decide)) <|
  .cons (ix_s_iload_n dX10_sheet_40 rfl) <|
  .cons (ix_s_if_ge dX10_sheet_41 (by decide)) <|
  .cons (ix_s_aload_n dX10_sheet_44 rfl) <|
  .cons (ix_s_iconst dX10_sheet_45 (by decide +kernel)) <|
  .cons (oc_X10_error_s (ix_s_callv (t := 9) (k_X10_error l) (by decide) (by decide) tw_295 tw_1 tw_292 tw_294 tp_0 ⟨by decide, by decide, by decide +kernel⟩ (by decide) rfl rfl (fun _ => ⟨_, _, rfl, rfl⟩) dX10_sheet_46)) <|
  .cons (ix_s_iret dX10_sheet_49 rfl) <|
  .cons (ix_s_iload_n dX10_sheet_50 rfl) <|
  .cons (ix_s_if_eq dX10_sheet_51 (by decide)) <|
  .cons (ix_s_iload_n dX10_sheet_54 rfl) <|
  .cons (ix_s_bipush dX10_sheet_55 (by decide +kernel)) <|
  .cons (ix_s_cmp_le dX10_sheet_57 (by decide)) <|
  .cons (ix_s_aload_n dX10_sheet_60 rfl) <|
  .cons (ix_s_iconst dX10_sheet_61 (by decide +kernel)) <|
  .cons (oc_X10_error_s (ix_s_callv (t := 9) (k_X10_error l) (by decide) (by decide) tw_295 tw_1 tw_292 tw_294 tp_0 ⟨by decide, by decide, by decide +kernel⟩ (by decide) rfl rfl (fun _ => ⟨_, _, rfl, rfl⟩) dX10_sheet_62)) <|
  .cons (ix_s_iret dX10_sheet_65 rfl) <|
  .cons (ix_s_aload_n dX10_sheet_66 rfl) <|
  .cons (ix_s_getr (j := 7) tu_X10 rfl (by decide) (by decide) tw_258 rfl ts_9_7_r dX10_sheet_67) <|
  .cons (ix_s_iload_n dX10_sheet_70 rfl) <|
  .cons (ix_s_aald (E0 := ix_tys) (by decide) (by decide +kernel) (fun _ => rfl) (by decide +kernel) dX10_sheet_71) <|
  .cons (ix_s_iload_n dX10_sheet_72 rfl) <|
  .cons (ix_s_iload_n dX10_sheet_73 rfl) <|
  .cons (ix_s_if_ne dX10_sheet_74 (by decide)) <|
  .cons (ix_s_iconst dX10_sheet_77 (by decide +kernel)) <|
  .cons (ix_s_goto dX10_sheet_78 (by decide)) <|
  .cons (ix_s_iload_n dX10_sheet_81 rfl) <|
  .cons (oc_X5_begin_s (ix_s_callv (t := 4) (k_X5_begin l) (by decide) (by decide) tw_798 tw_11 tw_795 tw_796 tw_797 ⟨by decide, by decide, by decide +kernel⟩ (by decide) rfl rfl (fun _ => ⟨_, _, rfl, rfl⟩) dX10_sheet_82)) <|
  .cons (ix_s_iconst dX10_sheet_85 (by decide +kernel)) <|
  .cons (ix_s_iret dX10_sheet_86 rfl) <| .nil
theorem e_X10_sheet_0 (Q : ix_R → Prop) (ls : ix_L) (st : List ix_V) (μ : ix_M) : ix_Ev o_X10_sheet Q (0, ls, st, μ) = ix_iload 1 1 (ix_Ev o_X10_sheet Q) Q ls st μ := ix_Ev.eq (a_X10_sheet launch0) rfl ls st μ
theorem e_X10_sheet_1 (Q : ix_R → Prop) (ls : ix_L) (st : List ix_V) (μ : ix_M) : ix_Ev o_X10_sheet Q (1, ls, st, μ) = ix_push (vi 3) 2 (ix_Ev o_X10_sheet Q) Q ls st μ := ix_Ev.eq (a_X10_sheet launch0) rfl ls st μ
theorem e_X10_sheet_2 (Q : ix_R → Prop) (ls : ix_L) (st : List ix_V) (μ : ix_M) : ix_Ev o_X10_sheet Q (2, ls, st, μ) = oc_X10_outside 5 (ix_Ev o_X10_sheet Q) Q ls st μ := ix_Ev.eq (a_X10_sheet launch0) rfl ls st μ
theorem e_X10_sheet_5 (Q : ix_R → Prop) (ls : ix_L) (st : List ix_V) (μ : ix_M) : ix_Ev o_X10_sheet Q (5, ls, st, μ) = ix_if (fun x => x = 0) 8 30 (ix_Ev o_X10_sheet Q) Q ls st μ := ix_Ev.eq (a_X10_sheet launch0) rfl ls st μ
theorem e_X10_sheet_8 (Q : ix_R → Prop) (ls : ix_L) (st : List ix_V) (μ : ix_M) : ix_Ev o_X10_sheet Q (8, ls, st, μ) = ix_iload 2 9 (ix_Ev o_X10_sheet Q) Q ls st μ := ix_Ev.eq (a_X10_sheet launch0) rfl ls st μ
theorem e_X10_sheet_9 (Q : ix_R → Prop) (ls : ix_L) (st : List ix_V) (μ : ix_M) : ix_Ev o_X10_sheet Q (9, ls, st, μ) = ix_if (fun x => x = 0) 36 12 (ix_Ev o_X10_sheet Q) Q ls st μ := ix_Ev.eq (a_X10_sheet launch0) rfl ls st μ
theorem e_X10_sheet_12 (Q : ix_R → Prop) (ls : ix_L) (st : List ix_V) (μ : ix_M) : ix_Ev o_X10_sheet Q (12, ls, st, μ) = ix_iload 2 13 (ix_Ev o_X10_sheet Q) Q ls st μ := ix_Ev.eq (a_X10_sheet launch0) rfl ls st μ
theorem e_X10_sheet_13 (Q : ix_R → Prop) (ls : ix_L) (st : List ix_V) (μ : ix_M) : ix_Ev o_X10_sheet Q (13, ls, st, μ) = ix_push (vi 8) 15 (ix_Ev o_X10_sheet Q) Q ls st μ := ix_Ev.eq (a_X10_sheet launch0) rfl ls st μ
theorem e_X10_sheet_15 (Q : ix_R → Prop) (ls : ix_L) (st : List ix_V) (μ : ix_M) : ix_Ev o_X10_sheet Q (15, ls, st, μ) = ix_cmp (fun x y => x = y) 36 18 (ix_Ev o_X10_sheet Q) Q ls st μ := ix_Ev.eq (a_X10_sheet launch0) rfl ls st μ
theorem e_X10_sheet_18 (Q : ix_R → Prop) (ls : ix_L) (st : List ix_V) (μ : ix_M) : ix_Ev o_X10_sheet Q (18, ls, st, μ) = ix_iload 2 19 (ix_Ev o_X10_sheet Q) Q ls st μ := ix_Ev.eq (a_X10_sheet launch0) rfl ls st μ
theorem e_X10_sheet_19 (Q : ix_R → Prop) (ls : ix_L) (st : List ix_V) (μ : ix_M) : ix_Ev o_X10_sheet Q (19, ls, st, μ) = ix_push (vi 16) 21 (ix_Ev o_X10_sheet Q) Q ls st μ := ix_Ev.eq (a_X10_sheet launch0) rfl ls st μ
theorem e_X10_sheet_21 (Q : ix_R → Prop) (ls : ix_L) (st : List ix_V) (μ : ix_M) : ix_Ev o_X10_sheet Q (21, ls, st, μ) = ix_cmp (fun x y => x = y) 36 24 (ix_Ev o_X10_sheet Q) Q ls st μ := ix_Ev.eq (a_X10_sheet launch0) rfl ls st μ
theorem e_X10_sheet_24 (Q : ix_R → Prop) (ls : ix_L) (st : List ix_V) (μ : ix_M) : ix_Ev o_X10_sheet Q (24, ls, st, μ) = ix_iload 2 25 (ix_Ev o_X10_sheet Q) Q ls st μ := ix_Ev.eq (a_X10_sheet launch0) rfl ls st μ
theorem e_X10_sheet_25 (Q : ix_R → Prop) (ls : ix_L) (st : List ix_V) (μ : ix_M) : ix_Ev o_X10_sheet Q (25, ls, st, μ) = ix_push (vi 32) 27 (ix_Ev o_X10_sheet Q) Q ls st μ := ix_Ev.eq (a_X10_sheet launch0) rfl ls st μ
theorem e_X10_sheet_27 (Q : ix_R → Prop) (ls : ix_L) (st : List ix_V) (μ : ix_M) : ix_Ev o_X10_sheet Q (27, ls, st, μ) = ix_cmp (fun x y => x = y) 36 30 (ix_Ev o_X10_sheet Q) Q ls st μ := ix_Ev.eq (a_X10_sheet launch0) rfl ls st μ
theorem e_X10_sheet_30 (Q : ix_R → Prop) (ls : ix_L) (st : List ix_V) (μ : ix_M) : ix_Ev o_X10_sheet Q (30, ls, st, μ) = ix_aload 0 31 (ix_Ev o_X10_sheet Q) Q ls st μ := ix_Ev.eq (a_X10_sheet launch0) rfl ls st μ
theorem e_X10_sheet_31 (Q : ix_R → Prop) (ls : ix_L) (st : List ix_V) (μ : ix_M) : ix_Ev o_X10_sheet Q (31, ls, st, μ) = ix_push (vi 1) 32 (ix_Ev o_X10_sheet Q) Q ls st μ := ix_Ev.eq (a_X10_sheet launch0) rfl ls st μ
theorem e_X10_sheet_32 (Q : ix_R → Prop) (ls : ix_L) (st : List ix_V) (μ : ix_M) : ix_Ev o_X10_sheet Q (32, ls, st, μ) = oc_X10_error 35 (ix_Ev o_X10_sheet Q) Q ls st μ := ix_Ev.eq (a_X10_sheet launch0) rfl ls st μ
theorem e_X10_sheet_35 (Q : ix_R → Prop) (ls : ix_L) (st : List ix_V) (μ : ix_M) : ix_Ev o_X10_sheet Q (35, ls, st, μ) = ix_iret (ix_Ev o_X10_sheet Q) Q ls st μ := ix_Ev.eq (a_X10_sheet launch0) rfl ls st μ
theorem e_X10_sheet_36 (Q : ix_R → Prop) (ls : ix_L) (st : List ix_V) (μ : ix_M) : ix_Ev o_X10_sheet Q (36, ls, st, μ) = ix_iload 2 37 (ix_Ev o_X10_sheet Q) Q ls st μ := ix_Ev.eq (a_X10_sheet launch0) rfl ls st μ
theorem e_X10_sheet_37 (Q : ix_R → Prop) (ls : ix_L) (st : List ix_V) (μ : ix_M) : ix_Ev o_X10_sheet Q (37, ls, st, μ) = ix_if (fun x => x = 0) 50 40 (ix_Ev o_X10_sheet Q) Q ls st μ := ix_Ev.eq (a_X10_sheet launch0) rfl ls st μ
theorem e_X10_sheet_40 (Q : ix_R → Prop) (ls : ix_L) (st : List ix_V) (μ : ix_M) : ix_Ev o_X10_sheet Q (40, ls, st, μ) = ix_iload 3 41 (ix_Ev o_X10_sheet Q) Q ls st μ := ix_Ev.eq (a_X10_sheet launch0) rfl ls st μ
theorem e_X10_sheet_41 (Q : ix_R → Prop) (ls : ix_L) (st : List ix_V) (μ : ix_M) : ix_Ev o_X10_sheet Q (41, ls, st, μ) = ix_if (fun x => 0 ≤ x) 50 44 (ix_Ev o_X10_sheet Q) Q ls st μ := ix_Ev.eq (a_X10_sheet launch0) rfl ls st μ
theorem e_X10_sheet_44 (Q : ix_R → Prop) (ls : ix_L) (st : List ix_V) (μ : ix_M) : ix_Ev o_X10_sheet Q (44, ls, st, μ) = ix_aload 0 45 (ix_Ev o_X10_sheet Q) Q ls st μ := ix_Ev.eq (a_X10_sheet launch0) rfl ls st μ
theorem e_X10_sheet_45 (Q : ix_R → Prop) (ls : ix_L) (st : List ix_V) (μ : ix_M) : ix_Ev o_X10_sheet Q (45, ls, st, μ) = ix_push (vi 3) 46 (ix_Ev o_X10_sheet Q) Q ls st μ := ix_Ev.eq (a_X10_sheet launch0) rfl ls st μ
theorem e_X10_sheet_46 (Q : ix_R → Prop) (ls : ix_L) (st : List ix_V) (μ : ix_M) : ix_Ev o_X10_sheet Q (46, ls, st, μ) = oc_X10_error 49 (ix_Ev o_X10_sheet Q) Q ls st μ := ix_Ev.eq (a_X10_sheet launch0) rfl ls st μ
theorem e_X10_sheet_49 (Q : ix_R → Prop) (ls : ix_L) (st : List ix_V) (μ : ix_M) : ix_Ev o_X10_sheet Q (49, ls, st, μ) = ix_iret (ix_Ev o_X10_sheet Q) Q ls st μ := ix_Ev.eq (a_X10_sheet launch0) rfl ls st μ
theorem e_X10_sheet_50 (Q : ix_R → Prop) (ls : ix_L) (st : List ix_V) (μ : ix_M) : ix_Ev o_X10_sheet Q (50, ls, st, μ) = ix_iload 2 51 (ix_Ev o_X10_sheet Q) Q ls st μ := ix_Ev.eq (a_X10_sheet launch0) rfl ls st μ
theorem e_X10_sheet_51 (Q : ix_R → Prop) (ls : ix_L) (st : List ix_V) (μ : ix_M) : ix_Ev o_X10_sheet Q (51, ls, st, μ) = ix_if (fun x => x = 0) 66 54 (ix_Ev o_X10_sheet Q) Q ls st μ := ix_Ev.eq (a_X10_sheet launch0) rfl ls st μ
theorem e_X10_sheet_54 (Q : ix_R → Prop) (ls : ix_L) (st : List ix_V) (μ : ix_M) : ix_Ev o_X10_sheet Q (54, ls, st, μ) = ix_iload 3 55 (ix_Ev o_X10_sheet Q) Q ls st μ := ix_Ev.eq (a_X10_sheet launch0) rfl ls st μ
theorem e_X10_sheet_55 (Q : ix_R → Prop) (ls : ix_L) (st : List ix_V) (μ : ix_M) : ix_Ev o_X10_sheet Q (55, ls, st, μ) = ix_push (vi 40) 57 (ix_Ev o_X10_sheet Q) Q ls st μ := ix_Ev.eq (a_X10_sheet launch0) rfl ls st μ
theorem e_X10_sheet_57 (Q : ix_R → Prop) (ls : ix_L) (st : List ix_V) (μ : ix_M) : ix_Ev o_X10_sheet Q (57, ls, st, μ) = ix_cmp (fun x y => x ≤ y) 66 60 (ix_Ev o_X10_sheet Q) Q ls st μ := ix_Ev.eq (a_X10_sheet launch0) rfl ls st μ
theorem e_X10_sheet_60 (Q : ix_R → Prop) (ls : ix_L) (st : List ix_V) (μ : ix_M) : ix_Ev o_X10_sheet Q (60, ls, st, μ) = ix_aload 0 61 (ix_Ev o_X10_sheet Q) Q ls st μ := ix_Ev.eq (a_X10_sheet launch0) rfl ls st μ
theorem e_X10_sheet_61 (Q : ix_R → Prop) (ls : ix_L) (st : List ix_V) (μ : ix_M) : ix_Ev o_X10_sheet Q (61, ls, st, μ) = ix_push (vi 1) 62 (ix_Ev o_X10_sheet Q) Q ls st μ := ix_Ev.eq (a_X10_sheet launch0) rfl ls st μ
theorem e_X10_sheet_62 (Q : ix_R → Prop) (ls : ix_L) (st : List ix_V) (μ : ix_M) : ix_Ev o_X10_sheet Q (62, ls, st, μ) = oc_X10_error 65 (ix_Ev o_X10_sheet Q) Q ls st μ := ix_Ev.eq (a_X10_sheet launch0) rfl ls st μ
theorem e_X10_sheet_65 (Q : ix_R → Prop) (ls : ix_L) (st : List ix_V) (μ : ix_M) : ix_Ev o_X10_sheet Q (65, ls, st, μ) = ix_iret (ix_Ev o_X10_sheet Q) Q ls st μ := ix_Ev.eq (a_X10_sheet launch0) rfl ls st μ
theorem e_X10_sheet_66 (Q : ix_R → Prop) (ls : ix_L) (st : List ix_V) (μ : ix_M) : ix_Ev o_X10_sheet Q (66, ls, st, μ) = ix_aload 0 67 (ix_Ev o_X10_sheet Q) Q ls st μ := ix_Ev.eq (a_X10_sheet launch0) rfl ls st μ
theorem e_X10_sheet_67 (Q : ix_R → Prop) (ls : ix_L) (st : List ix_V) (μ : ix_M) : ix_Ev o_X10_sheet Q (67, ls, st, μ) = ix_getr 9 22 (fun _ => 98) 70 (ix_Ev o_X10_sheet Q) Q ls st μ := ix_Ev.eq (a_X10_sheet launch0) rfl ls st μ
theorem e_X10_sheet_70 (Q : ix_R → Prop) (ls : ix_L) (st : List ix_V) (μ : ix_M) : ix_Ev o_X10_sheet Q (70, ls, st, μ) = ix_iload 1 71 (ix_Ev o_X10_sheet Q) Q ls st μ := ix_Ev.eq (a_X10_sheet launch0) rfl ls st μ
theorem e_X10_sheet_71 (Q : ix_R → Prop) (ls : ix_L) (st : List ix_V) (μ : ix_M) : ix_Ev o_X10_sheet Q (71, ls, st, μ) = ix_aald 22 98 4 4 (fun i => 99 + 3 * i) 72 (ix_Ev o_X10_sheet Q) Q ls st μ := ix_Ev.eq (a_X10_sheet launch0) rfl ls st μ
theorem e_X10_sheet_72 (Q : ix_R → Prop) (ls : ix_L) (st : List ix_V) (μ : ix_M) : ix_Ev o_X10_sheet Q (72, ls, st, μ) = ix_iload 2 73 (ix_Ev o_X10_sheet Q) Q ls st μ := ix_Ev.eq (a_X10_sheet launch0) rfl ls st μ
theorem e_X10_sheet_73 (Q : ix_R → Prop) (ls : ix_L) (st : List ix_V) (μ : ix_M) : ix_Ev o_X10_sheet Q (73, ls, st, μ) = ix_iload 2 74 (ix_Ev o_X10_sheet Q) Q ls st μ := ix_Ev.eq (a_X10_sheet launch0) rfl ls st μ
theorem e_X10_sheet_74 (Q : ix_R → Prop) (ls : ix_L) (st : List ix_V) (μ : ix_M) : ix_Ev o_X10_sheet Q (74, ls, st, μ) = ix_if (fun x => x = 0) 77 81 (ix_Ev o_X10_sheet Q) Q ls st μ := ix_Ev.eq (a_X10_sheet launch0) rfl ls st μ
theorem e_X10_sheet_77 (Q : ix_R → Prop) (ls : ix_L) (st : List ix_V) (μ : ix_M) : ix_Ev o_X10_sheet Q (77, ls, st, μ) = ix_push (vi 0) 78 (ix_Ev o_X10_sheet Q) Q ls st μ := ix_Ev.eq (a_X10_sheet launch0) rfl ls st μ
theorem e_X10_sheet_78 (Q : ix_R → Prop) (ls : ix_L) (st : List ix_V) (μ : ix_M) : ix_Ev o_X10_sheet Q (78, ls, st, μ) = ix_goto 82 (ix_Ev o_X10_sheet Q) Q ls st μ := ix_Ev.eq (a_X10_sheet launch0) rfl ls st μ
theorem e_X10_sheet_81 (Q : ix_R → Prop) (ls : ix_L) (st : List ix_V) (μ : ix_M) : ix_Ev o_X10_sheet Q (81, ls, st, μ) = ix_iload 3 82 (ix_Ev o_X10_sheet Q) Q ls st μ := ix_Ev.eq (a_X10_sheet launch0) rfl ls st μ
theorem e_X10_sheet_82 (Q : ix_R → Prop) (ls : ix_L) (st : List ix_V) (μ : ix_M) : ix_Ev o_X10_sheet Q (82, ls, st, μ) = oc_X5_begin 85 (ix_Ev o_X10_sheet Q) Q ls st μ := ix_Ev.eq (a_X10_sheet launch0) rfl ls st μ
theorem e_X10_sheet_85 (Q : ix_R → Prop) (ls : ix_L) (st : List ix_V) (μ : ix_M) : ix_Ev o_X10_sheet Q (85, ls, st, μ) = ix_push (vi 1) 86 (ix_Ev o_X10_sheet Q) Q ls st μ := ix_Ev.eq (a_X10_sheet launch0) rfl ls st μ
theorem e_X10_sheet_86 (Q : ix_R → Prop) (ls : ix_L) (st : List ix_V) (μ : ix_M) : ix_Ev o_X10_sheet Q (86, ls, st, μ) = ix_iret (ix_Ev o_X10_sheet Q) Q ls st μ := ix_Ev.eq (a_X10_sheet launch0) rfl ls st μ
def o_X11_sheet : List (Nat × ix_Op) := [
  (0, ix_iload 1 1),
  (1, oc_X11_isSheet 4),
  (4, ix_if (fun x => x = 0) 29 7),
  (7, ix_iload 2 8),
  (8, ix_if (fun x => x = 0) 36 11),
  (11, ix_iload 2 12),
  (12, ix_push (vi 8) 14),
  (14, ix_cmp (fun x y => x = y) 36 17),
  (17, ix_iload 2 18),
  (18, ix_push (vi 16) 20),
  (20, ix_cmp (fun x y => x = y) 36 23),
  (23, ix_iload 2 24),
  (24, ix_push (vi 32) 26),
  (26, ix_cmp (fun x y => x = y) 36 29),
  (29, ix_aload 0 30),
  (30, ix_push (vi (-1000000001)) 32),
  (32, oc_X11_finding 35),
  (35, ix_iret),
  (36, ix_iload 2 37),
  (37, ix_if (fun x => x = 0) 51 40),
  (40, ix_iload 3 41),
  (41, ix_if (fun x => 0 ≤ x) 51 44),
  (44, ix_aload 0 45),
  (45, ix_push (vi (-1000000003)) 47),
  (47, oc_X11_finding 50),
  (50, ix_iret),
  (51, ix_iload 2 52),
  (52, ix_if (fun x => x = 0) 68 55),
  (55, ix_iload 3 56),
  (56, ix_push (vi 40) 58),
  (58, ix_cmp (fun x y => x ≤ y) 68 61),
  (61, ix_aload 0 62),
  (62, ix_push (vi (-1000000001)) 64),
  (64, oc_X11_finding 67),
  (67, ix_iret),
  (68, ix_aload 0 69),
  (69, ix_getr 10 20 (fun _ => 123) 72),
  (72, ix_iload 1 73),
  (73, ix_iload 2 74),
  (74, ix_iast 75),
  (75, ix_aload 0 76),
  (76, ix_getr 10 20 (fun _ => 124) 79),
  (79, ix_iload 1 80),
  (80, ix_iload 2 81),
  (81, ix_if (fun x => x = 0) 84 88),
  (84, ix_push (vi 0) 85),
  (85, ix_goto 89),
  (88, ix_iload 3 89),
  (89, ix_iast 90),
  (90, ix_push (vi 0) 91),
  (91, ix_istore 4 93),
  (93, ix_iload 4 95),
  (95, ix_push (vi 40) 97),
  (97, ix_cmp (fun x y => y ≤ x) 119 100),
  (100, ix_aload 0 101),
  (101, ix_getr 10 20 (fun _ => 125) 104),
  (104, ix_push (vi 40) 106),
  (106, ix_iload 1 107),
  (107, ix_bin (fun x y => x * y) 108),
  (108, ix_iload 4 110),
  (110, ix_bin (fun x y => x + y) 111),
  (111, ix_push (vi 0) 112),
  (112, ix_iast 113),
  (113, ix_iinc 4 1 116),
  (116, ix_goto 93),
  (119, ix_push (vi 1) 120),
  (120, ix_iret)]
set_option maxRecDepth 20000 in
theorem a_X11_sheet (l : Launch) : ix_AllS l cX11_sheet 5 RX11 60 (some .int) o_X11_sheet :=
  .cons (ix_s_iload_n dX11_sheet_0 rfl) <|
  .cons (oc_X11_isSheet_s (ix_s_calls (k_X11_isSheet l) (by decide) (by decide) tw_1305 tw_12 tw_1303 tw_1304 ⟨by decide, by decide, by decide +kernel⟩ (fun _ => rfl) dX11_sheet_1)) <|
  .cons (ix_s_if_eq dX11_sheet_4 (by decide)) <|
  .cons (ix_s_iload_n dX11_sheet_7 rfl) <|
  .cons (ix_s_if_eq dX11_sheet_8 (by decide)) <|
  .cons (ix_s_iload_n dX11_sheet_11 rfl) <|
  .cons (ix_s_bipush dX11_sheet_12 (by decide +kernel)) <|
  .cons (ix_s_cmp_eq dX11_sheet_14 (by decide)) <|
  .cons (ix_s_iload_n dX11_sheet_17 rfl) <|
  .cons (ix_s_bipush dX11_sheet_18 (by decide +kernel)) <|
  .cons (ix_s_cmp_eq dX11_sheet_20 (by decide)) <|
  .cons (ix_s_iload_n dX11_sheet_23 rfl) <|
  .cons (ix_s_bipush dX11_sheet_24 (by decide +kernel)) <|
  .cons (ix_s_cmp_eq dX11_sheet_26 (by decide)) <|
  .cons (ix_s_aload_n dX11_sheet_29 rfl) <|
  .cons (ix_s_ldc tw_961 dX11_sheet_30) <|
  .cons (oc_X11_finding_s (ix_s_callv (t := 10) (k_X11_finding l) (by decide) (by decide) tw_965 tw_12 tw_962 tw_964 tp_18 ⟨by decide, by decide, by decide +kernel⟩ (by decide) rfl rfl (fun _ => ⟨_, _, rfl, rfl⟩) dX11_sheet_32)) <|
  .cons (ix_s_iret dX11_sheet_35 rfl) <|
  .cons (ix_s_iload_n dX11_sheet_36 rfl) <|
  .cons (ix_s_if_eq dX11_sheet_37 (by decide)) <|
  .cons (ix_s_iload_n dX11_sheet_40 rfl) <|
  .cons (ix_s_if_ge dX11_sheet_41 (by decide)) <|
  .cons (ix_s_aload_n dX11_sheet_44 rfl) <|
  .cons (ix_s_ldc tw_1183 dX11_sheet_45) <|
  .cons (oc_X11_finding_s (ix_s_callv (t := 10) (k_X11_finding l) (by decide) (by decide) tw_965 tw_12 tw_962 tw_964 tp_18 ⟨by decide, by decide, by decide +kernel⟩ (by decide) rfl rfl (fun _ => ⟨_, _, rfl, rfl⟩) dX11_sheet_47)) <|
  .cons (ix_s_iret dX11_sheet_50 rfl) <|
  .cons (ix_s_iload_n dX11_sheet_51 rfl) <|
  .cons (ix_s_if_eq dX11_sheet_52 (by decide)) <|
  .cons (ix_s_iload_n dX11_sheet_55 rfl) <|
  .cons (ix_s_bipush dX11_sheet_56 (by decide +kernel)) <|
  .cons (ix_s_cmp_le dX11_sheet_58 (by decide)) <|
  .cons (ix_s_aload_n dX11_sheet_61 rfl) <|
  .cons (ix_s_ldc tw_961 dX11_sheet_62) <|
  .cons (oc_X11_finding_s (ix_s_callv (t := 10) (k_X11_finding l) (by decide) (by decide) tw_965 tw_12 tw_962 tw_964 tp_18 ⟨by decide, by decide, by decide +kernel⟩ (by decide) rfl rfl (fun _ => ⟨_, _, rfl, rfl⟩) dX11_sheet_64)) <|
  .cons (ix_s_iret dX11_sheet_67 rfl) <|
  .cons (ix_s_aload_n dX11_sheet_68 rfl) <|
  .cons (ix_s_getr (j := 22) tu_X11 rfl (by decide) (by decide) tw_897 rfl ts_10_22_r dX11_sheet_69) <|
  .cons (ix_s_iload_n dX11_sheet_72 rfl) <|
  .cons (ix_s_iload_n dX11_sheet_73 rfl) <|
  .cons (ix_s_iast dX11_sheet_74) <|
  .cons (ix_s_aload_n dX11_sheet_75 rfl) <|
  .cons (ix_s_getr (j := 23) tu_X11 rfl (by decide) (by decide) tw_898 rfl ts_10_23_r dX11_sheet_76) <|
  .cons (ix_s_iload_n dX11_sheet_79 rfl) <|
  .cons (ix_s_iload_n dX11_sheet_80 rfl) <|
  .cons (ix_s_if_ne dX11_sheet_81 (by decide)) <|
  .cons (ix_s_iconst dX11_sheet_84 (by decide +kernel)) <|
  .cons (ix_s_goto dX11_sheet_85 (by decide)) <|
  .cons (ix_s_iload_n dX11_sheet_88 rfl) <|
  .cons (ix_s_iast dX11_sheet_89) <|
  .cons (ix_s_iconst dX11_sheet_90 (by decide +kernel)) <|
  .cons (ix_s_istore dX11_sheet_91 (by decide)) <|
  .cons (ix_s_iload dX11_sheet_93) <|
  .cons (ix_s_bipush dX11_sheet_95 (by decide +kernel)) <|
  .cons (ix_s_cmp_ge dX11_sheet_97 (by decide)) <|
  .cons (ix_s_aload_n dX11_sheet_100 rfl) <|
  .cons (ix_s_getr (j := 24) tu_X11 rfl (by decide) (by decide) tw_899 rfl ts_10_24_r dX11_sheet_101) <|
  .cons (ix_s_bipush dX11_sheet_104 (by decide +kernel)) <|
  .cons (ix_s_iload_n dX11_sheet_106 rfl) <|
  .cons (ix_s_imul dX11_sheet_107) <|
  .cons (ix_s_iload dX11_sheet_108) <|
  .cons (ix_s_iadd dX11_sheet_110) <|
  .cons (ix_s_iconst dX11_sheet_111 (by decide +kernel)) <|
  .cons (ix_s_iast dX11_sheet_112) <|
  .cons (ix_s_iinc dX11_sheet_113 (by decide +kernel) (by decide)) <|
  .cons (ix_s_goto dX11_sheet_116 (by decide)) <|
  .cons (ix_s_iconst dX11_sheet_119 (by decide +kernel)) <|
  .cons (ix_s_iret dX11_sheet_120 rfl) <| .nil
theorem e_X11_sheet_0 (Q : ix_R → Prop) (ls : ix_L) (st : List ix_V) (μ : ix_M) : ix_Ev o_X11_sheet Q (0, ls, st, μ) = ix_iload 1 1 (ix_Ev o_X11_sheet Q) Q ls st μ := ix_Ev.eq (a_X11_sheet launch0) rfl ls st μ
theorem e_X11_sheet_1 (Q : ix_R → Prop) (ls : ix_L) (st : List ix_V) (μ : ix_M) : ix_Ev o_X11_sheet Q (1, ls, st, μ) = oc_X11_isSheet 4 (ix_Ev o_X11_sheet Q) Q ls st μ := ix_Ev.eq (a_X11_sheet launch0) rfl ls st μ
theorem e_X11_sheet_4 (Q : ix_R → Prop) (ls : ix_L) (st : List ix_V) (μ : ix_M) : ix_Ev o_X11_sheet Q (4, ls, st, μ) = ix_if (fun x => x = 0) 29 7 (ix_Ev o_X11_sheet Q) Q ls st μ := ix_Ev.eq (a_X11_sheet launch0) rfl ls st μ
theorem e_X11_sheet_7 (Q : ix_R → Prop) (ls : ix_L) (st : List ix_V) (μ : ix_M) : ix_Ev o_X11_sheet Q (7, ls, st, μ) = ix_iload 2 8 (ix_Ev o_X11_sheet Q) Q ls st μ := ix_Ev.eq (a_X11_sheet launch0) rfl ls st μ
theorem e_X11_sheet_8 (Q : ix_R → Prop) (ls : ix_L) (st : List ix_V) (μ : ix_M) : ix_Ev o_X11_sheet Q (8, ls, st, μ) = ix_if (fun x => x = 0) 36 11 (ix_Ev o_X11_sheet Q) Q ls st μ := ix_Ev.eq (a_X11_sheet launch0) rfl ls st μ
theorem e_X11_sheet_11 (Q : ix_R → Prop) (ls : ix_L) (st : List ix_V) (μ : ix_M) : ix_Ev o_X11_sheet Q (11, ls, st, μ) = ix_iload 2 12 (ix_Ev o_X11_sheet Q) Q ls st μ := ix_Ev.eq (a_X11_sheet launch0) rfl ls st μ
theorem e_X11_sheet_12 (Q : ix_R → Prop) (ls : ix_L) (st : List ix_V) (μ : ix_M) : ix_Ev o_X11_sheet Q (12, ls, st, μ) = ix_push (vi 8) 14 (ix_Ev o_X11_sheet Q) Q ls st μ := ix_Ev.eq (a_X11_sheet launch0) rfl ls st μ
theorem e_X11_sheet_14 (Q : ix_R → Prop) (ls : ix_L) (st : List ix_V) (μ : ix_M) : ix_Ev o_X11_sheet Q (14, ls, st, μ) = ix_cmp (fun x y => x = y) 36 17 (ix_Ev o_X11_sheet Q) Q ls st μ := ix_Ev.eq (a_X11_sheet launch0) rfl ls st μ
theorem e_X11_sheet_17 (Q : ix_R → Prop) (ls : ix_L) (st : List ix_V) (μ : ix_M) : ix_Ev o_X11_sheet Q (17, ls, st, μ) = ix_iload 2 18 (ix_Ev o_X11_sheet Q) Q ls st μ := ix_Ev.eq (a_X11_sheet launch0) rfl ls st μ
theorem e_X11_sheet_18 (Q : ix_R → Prop) (ls : ix_L) (st : List ix_V) (μ : ix_M) : ix_Ev o_X11_sheet Q (18, ls, st, μ) = ix_push (vi 16) 20 (ix_Ev o_X11_sheet Q) Q ls st μ := ix_Ev.eq (a_X11_sheet launch0) rfl ls st μ
theorem e_X11_sheet_20 (Q : ix_R → Prop) (ls : ix_L) (st : List ix_V) (μ : ix_M) : ix_Ev o_X11_sheet Q (20, ls, st, μ) = ix_cmp (fun x y => x = y) 36 23 (ix_Ev o_X11_sheet Q) Q ls st μ := ix_Ev.eq (a_X11_sheet launch0) rfl ls st μ
theorem e_X11_sheet_23 (Q : ix_R → Prop) (ls : ix_L) (st : List ix_V) (μ : ix_M) : ix_Ev o_X11_sheet Q (23, ls, st, μ) = ix_iload 2 24 (ix_Ev o_X11_sheet Q) Q ls st μ := ix_Ev.eq (a_X11_sheet launch0) rfl ls st μ
theorem e_X11_sheet_24 (Q : ix_R → Prop) (ls : ix_L) (st : List ix_V) (μ : ix_M) : ix_Ev o_X11_sheet Q (24, ls, st, μ) = ix_push (vi 32) 26 (ix_Ev o_X11_sheet Q) Q ls st μ := ix_Ev.eq (a_X11_sheet launch0) rfl ls st μ
theorem e_X11_sheet_26 (Q : ix_R → Prop) (ls : ix_L) (st : List ix_V) (μ : ix_M) : ix_Ev o_X11_sheet Q (26, ls, st, μ) = ix_cmp (fun x y => x = y) 36 29 (ix_Ev o_X11_sheet Q) Q ls st μ := ix_Ev.eq (a_X11_sheet launch0) rfl ls st μ
theorem e_X11_sheet_29 (Q : ix_R → Prop) (ls : ix_L) (st : List ix_V) (μ : ix_M) : ix_Ev o_X11_sheet Q (29, ls, st, μ) = ix_aload 0 30 (ix_Ev o_X11_sheet Q) Q ls st μ := ix_Ev.eq (a_X11_sheet launch0) rfl ls st μ
theorem e_X11_sheet_30 (Q : ix_R → Prop) (ls : ix_L) (st : List ix_V) (μ : ix_M) : ix_Ev o_X11_sheet Q (30, ls, st, μ) = ix_push (vi (-1000000001)) 32 (ix_Ev o_X11_sheet Q) Q ls st μ := ix_Ev.eq (a_X11_sheet launch0) rfl ls st μ
theorem e_X11_sheet_32 (Q : ix_R → Prop) (ls : ix_L) (st : List ix_V) (μ : ix_M) : ix_Ev o_X11_sheet Q (32, ls, st, μ) = oc_X11_finding 35 (ix_Ev o_X11_sheet Q) Q ls st μ := ix_Ev.eq (a_X11_sheet launch0) rfl ls st μ
theorem e_X11_sheet_35 (Q : ix_R → Prop) (ls : ix_L) (st : List ix_V) (μ : ix_M) : ix_Ev o_X11_sheet Q (35, ls, st, μ) = ix_iret (ix_Ev o_X11_sheet Q) Q ls st μ := ix_Ev.eq (a_X11_sheet launch0) rfl ls st μ
theorem e_X11_sheet_36 (Q : ix_R → Prop) (ls : ix_L) (st : List ix_V) (μ : ix_M) : ix_Ev o_X11_sheet Q (36, ls, st, μ) = ix_iload 2 37 (ix_Ev o_X11_sheet Q) Q ls st μ := ix_Ev.eq (a_X11_sheet launch0) rfl ls st μ
theorem e_X11_sheet_37 (Q : ix_R → Prop) (ls : ix_L) (st : List ix_V) (μ : ix_M) : ix_Ev o_X11_sheet Q (37, ls, st, μ) = ix_if (fun x => x = 0) 51 40 (ix_Ev o_X11_sheet Q) Q ls st μ := ix_Ev.eq (a_X11_sheet launch0) rfl ls st μ
theorem e_X11_sheet_40 (Q : ix_R → Prop) (ls : ix_L) (st : List ix_V) (μ : ix_M) : ix_Ev o_X11_sheet Q (40, ls, st, μ) = ix_iload 3 41 (ix_Ev o_X11_sheet Q) Q ls st μ := ix_Ev.eq (a_X11_sheet launch0) rfl ls st μ
theorem e_X11_sheet_41 (Q : ix_R → Prop) (ls : ix_L) (st : List ix_V) (μ : ix_M) : ix_Ev o_X11_sheet Q (41, ls, st, μ) = ix_if (fun x => 0 ≤ x) 51 44 (ix_Ev o_X11_sheet Q) Q ls st μ := ix_Ev.eq (a_X11_sheet launch0) rfl ls st μ
theorem e_X11_sheet_44 (Q : ix_R → Prop) (ls : ix_L) (st : List ix_V) (μ : ix_M) : ix_Ev o_X11_sheet Q (44, ls, st, μ) = ix_aload 0 45 (ix_Ev o_X11_sheet Q) Q ls st μ := ix_Ev.eq (a_X11_sheet launch0) rfl ls st μ
theorem e_X11_sheet_45 (Q : ix_R → Prop) (ls : ix_L) (st : List ix_V) (μ : ix_M) : ix_Ev o_X11_sheet Q (45, ls, st, μ) = ix_push (vi (-1000000003)) 47 (ix_Ev o_X11_sheet Q) Q ls st μ := ix_Ev.eq (a_X11_sheet launch0) rfl ls st μ
theorem e_X11_sheet_47 (Q : ix_R → Prop) (ls : ix_L) (st : List ix_V) (μ : ix_M) : ix_Ev o_X11_sheet Q (47, ls, st, μ) = oc_X11_finding 50 (ix_Ev o_X11_sheet Q) Q ls st μ := ix_Ev.eq (a_X11_sheet launch0) rfl ls st μ
theorem e_X11_sheet_50 (Q : ix_R → Prop) (ls : ix_L) (st : List ix_V) (μ : ix_M) : ix_Ev o_X11_sheet Q (50, ls, st, μ) = ix_iret (ix_Ev o_X11_sheet Q) Q ls st μ := ix_Ev.eq (a_X11_sheet launch0) rfl ls st μ
theorem e_X11_sheet_51 (Q : ix_R → Prop) (ls : ix_L) (st : List ix_V) (μ : ix_M) : ix_Ev o_X11_sheet Q (51, ls, st, μ) = ix_iload 2 52 (ix_Ev o_X11_sheet Q) Q ls st μ := ix_Ev.eq (a_X11_sheet launch0) rfl ls st μ
theorem e_X11_sheet_52 (Q : ix_R → Prop) (ls : ix_L) (st : List ix_V) (μ : ix_M) : ix_Ev o_X11_sheet Q (52, ls, st, μ) = ix_if (fun x => x = 0) 68 55 (ix_Ev o_X11_sheet Q) Q ls st μ := ix_Ev.eq (a_X11_sheet launch0) rfl ls st μ
theorem e_X11_sheet_55 (Q : ix_R → Prop) (ls : ix_L) (st : List ix_V) (μ : ix_M) : ix_Ev o_X11_sheet Q (55, ls, st, μ) = ix_iload 3 56 (ix_Ev o_X11_sheet Q) Q ls st μ := ix_Ev.eq (a_X11_sheet launch0) rfl ls st μ
theorem e_X11_sheet_56 (Q : ix_R → Prop) (ls : ix_L) (st : List ix_V) (μ : ix_M) : ix_Ev o_X11_sheet Q (56, ls, st, μ) = ix_push (vi 40) 58 (ix_Ev o_X11_sheet Q) Q ls st μ := ix_Ev.eq (a_X11_sheet launch0) rfl ls st μ
theorem e_X11_sheet_58 (Q : ix_R → Prop) (ls : ix_L) (st : List ix_V) (μ : ix_M) : ix_Ev o_X11_sheet Q (58, ls, st, μ) = ix_cmp (fun x y => x ≤ y) 68 61 (ix_Ev o_X11_sheet Q) Q ls st μ := ix_Ev.eq (a_X11_sheet launch0) rfl ls st μ
theorem e_X11_sheet_61 (Q : ix_R → Prop) (ls : ix_L) (st : List ix_V) (μ : ix_M) : ix_Ev o_X11_sheet Q (61, ls, st, μ) = ix_aload 0 62 (ix_Ev o_X11_sheet Q) Q ls st μ := ix_Ev.eq (a_X11_sheet launch0) rfl ls st μ
theorem e_X11_sheet_62 (Q : ix_R → Prop) (ls : ix_L) (st : List ix_V) (μ : ix_M) : ix_Ev o_X11_sheet Q (62, ls, st, μ) = ix_push (vi (-1000000001)) 64 (ix_Ev o_X11_sheet Q) Q ls st μ := ix_Ev.eq (a_X11_sheet launch0) rfl ls st μ
theorem e_X11_sheet_64 (Q : ix_R → Prop) (ls : ix_L) (st : List ix_V) (μ : ix_M) : ix_Ev o_X11_sheet Q (64, ls, st, μ) = oc_X11_finding 67 (ix_Ev o_X11_sheet Q) Q ls st μ := ix_Ev.eq (a_X11_sheet launch0) rfl ls st μ
theorem e_X11_sheet_67 (Q : ix_R → Prop) (ls : ix_L) (st : List ix_V) (μ : ix_M) : ix_Ev o_X11_sheet Q (67, ls, st, μ) = ix_iret (ix_Ev o_X11_sheet Q) Q ls st μ := ix_Ev.eq (a_X11_sheet launch0) rfl ls st μ
theorem e_X11_sheet_68 (Q : ix_R → Prop) (ls : ix_L) (st : List ix_V) (μ : ix_M) : ix_Ev o_X11_sheet Q (68, ls, st, μ) = ix_aload 0 69 (ix_Ev o_X11_sheet Q) Q ls st μ := ix_Ev.eq (a_X11_sheet launch0) rfl ls st μ
theorem e_X11_sheet_69 (Q : ix_R → Prop) (ls : ix_L) (st : List ix_V) (μ : ix_M) : ix_Ev o_X11_sheet Q (69, ls, st, μ) = ix_getr 10 20 (fun _ => 123) 72 (ix_Ev o_X11_sheet Q) Q ls st μ := ix_Ev.eq (a_X11_sheet launch0) rfl ls st μ
theorem e_X11_sheet_72 (Q : ix_R → Prop) (ls : ix_L) (st : List ix_V) (μ : ix_M) : ix_Ev o_X11_sheet Q (72, ls, st, μ) = ix_iload 1 73 (ix_Ev o_X11_sheet Q) Q ls st μ := ix_Ev.eq (a_X11_sheet launch0) rfl ls st μ
theorem e_X11_sheet_73 (Q : ix_R → Prop) (ls : ix_L) (st : List ix_V) (μ : ix_M) : ix_Ev o_X11_sheet Q (73, ls, st, μ) = ix_iload 2 74 (ix_Ev o_X11_sheet Q) Q ls st μ := ix_Ev.eq (a_X11_sheet launch0) rfl ls st μ
theorem e_X11_sheet_74 (Q : ix_R → Prop) (ls : ix_L) (st : List ix_V) (μ : ix_M) : ix_Ev o_X11_sheet Q (74, ls, st, μ) = ix_iast 75 (ix_Ev o_X11_sheet Q) Q ls st μ := ix_Ev.eq (a_X11_sheet launch0) rfl ls st μ
theorem e_X11_sheet_75 (Q : ix_R → Prop) (ls : ix_L) (st : List ix_V) (μ : ix_M) : ix_Ev o_X11_sheet Q (75, ls, st, μ) = ix_aload 0 76 (ix_Ev o_X11_sheet Q) Q ls st μ := ix_Ev.eq (a_X11_sheet launch0) rfl ls st μ
theorem e_X11_sheet_76 (Q : ix_R → Prop) (ls : ix_L) (st : List ix_V) (μ : ix_M) : ix_Ev o_X11_sheet Q (76, ls, st, μ) = ix_getr 10 20 (fun _ => 124) 79 (ix_Ev o_X11_sheet Q) Q ls st μ := ix_Ev.eq (a_X11_sheet launch0) rfl ls st μ
theorem e_X11_sheet_79 (Q : ix_R → Prop) (ls : ix_L) (st : List ix_V) (μ : ix_M) : ix_Ev o_X11_sheet Q (79, ls, st, μ) = ix_iload 1 80 (ix_Ev o_X11_sheet Q) Q ls st μ := ix_Ev.eq (a_X11_sheet launch0) rfl ls st μ
theorem e_X11_sheet_80 (Q : ix_R → Prop) (ls : ix_L) (st : List ix_V) (μ : ix_M) : ix_Ev o_X11_sheet Q (80, ls, st, μ) = ix_iload 2 81 (ix_Ev o_X11_sheet Q) Q ls st μ := ix_Ev.eq (a_X11_sheet launch0) rfl ls st μ
theorem e_X11_sheet_81 (Q : ix_R → Prop) (ls : ix_L) (st : List ix_V) (μ : ix_M) : ix_Ev o_X11_sheet Q (81, ls, st, μ) = ix_if (fun x => x = 0) 84 88 (ix_Ev o_X11_sheet Q) Q ls st μ := ix_Ev.eq (a_X11_sheet launch0) rfl ls st μ
theorem e_X11_sheet_84 (Q : ix_R → Prop) (ls : ix_L) (st : List ix_V) (μ : ix_M) : ix_Ev o_X11_sheet Q (84, ls, st, μ) = ix_push (vi 0) 85 (ix_Ev o_X11_sheet Q) Q ls st μ := ix_Ev.eq (a_X11_sheet launch0) rfl ls st μ
theorem e_X11_sheet_85 (Q : ix_R → Prop) (ls : ix_L) (st : List ix_V) (μ : ix_M) : ix_Ev o_X11_sheet Q (85, ls, st, μ) = ix_goto 89 (ix_Ev o_X11_sheet Q) Q ls st μ := ix_Ev.eq (a_X11_sheet launch0) rfl ls st μ
theorem e_X11_sheet_88 (Q : ix_R → Prop) (ls : ix_L) (st : List ix_V) (μ : ix_M) : ix_Ev o_X11_sheet Q (88, ls, st, μ) = ix_iload 3 89 (ix_Ev o_X11_sheet Q) Q ls st μ := ix_Ev.eq (a_X11_sheet launch0) rfl ls st μ
theorem e_X11_sheet_89 (Q : ix_R → Prop) (ls : ix_L) (st : List ix_V) (μ : ix_M) : ix_Ev o_X11_sheet Q (89, ls, st, μ) = ix_iast 90 (ix_Ev o_X11_sheet Q) Q ls st μ := ix_Ev.eq (a_X11_sheet launch0) rfl ls st μ
theorem e_X11_sheet_90 (Q : ix_R → Prop) (ls : ix_L) (st : List ix_V) (μ : ix_M) : ix_Ev o_X11_sheet Q (90, ls, st, μ) = ix_push (vi 0) 91 (ix_Ev o_X11_sheet Q) Q ls st μ := ix_Ev.eq (a_X11_sheet launch0) rfl ls st μ
theorem e_X11_sheet_91 (Q : ix_R → Prop) (ls : ix_L) (st : List ix_V) (μ : ix_M) : ix_Ev o_X11_sheet Q (91, ls, st, μ) = ix_istore 4 93 (ix_Ev o_X11_sheet Q) Q ls st μ := ix_Ev.eq (a_X11_sheet launch0) rfl ls st μ
theorem e_X11_sheet_93 (Q : ix_R → Prop) (ls : ix_L) (st : List ix_V) (μ : ix_M) : ix_Ev o_X11_sheet Q (93, ls, st, μ) = ix_iload 4 95 (ix_Ev o_X11_sheet Q) Q ls st μ := ix_Ev.eq (a_X11_sheet launch0) rfl ls st μ
theorem e_X11_sheet_95 (Q : ix_R → Prop) (ls : ix_L) (st : List ix_V) (μ : ix_M) : ix_Ev o_X11_sheet Q (95, ls, st, μ) = ix_push (vi 40) 97 (ix_Ev o_X11_sheet Q) Q ls st μ := ix_Ev.eq (a_X11_sheet launch0) rfl ls st μ
theorem e_X11_sheet_97 (Q : ix_R → Prop) (ls : ix_L) (st : List ix_V) (μ : ix_M) : ix_Ev o_X11_sheet Q (97, ls, st, μ) = ix_cmp (fun x y => y ≤ x) 119 100 (ix_Ev o_X11_sheet Q) Q ls st μ := ix_Ev.eq (a_X11_sheet launch0) rfl ls st μ
theorem e_X11_sheet_100 (Q : ix_R → Prop) (ls : ix_L) (st : List ix_V) (μ : ix_M) : ix_Ev o_X11_sheet Q (100, ls, st, μ) = ix_aload 0 101 (ix_Ev o_X11_sheet Q) Q ls st μ := ix_Ev.eq (a_X11_sheet launch0) rfl ls st μ
theorem e_X11_sheet_101 (Q : ix_R → Prop) (ls : ix_L) (st : List ix_V) (μ : ix_M) : ix_Ev o_X11_sheet Q (101, ls, st, μ) = ix_getr 10 20 (fun _ => 125) 104 (ix_Ev o_X11_sheet Q) Q ls st μ := ix_Ev.eq (a_X11_sheet launch0) rfl ls st μ
theorem e_X11_sheet_104 (Q : ix_R → Prop) (ls : ix_L) (st : List ix_V) (μ : ix_M) : ix_Ev o_X11_sheet Q (104, ls, st, μ) = ix_push (vi 40) 106 (ix_Ev o_X11_sheet Q) Q ls st μ := ix_Ev.eq (a_X11_sheet launch0) rfl ls st μ
theorem e_X11_sheet_106 (Q : ix_R → Prop) (ls : ix_L) (st : List ix_V) (μ : ix_M) : ix_Ev o_X11_sheet Q (106, ls, st, μ) = ix_iload 1 107 (ix_Ev o_X11_sheet Q) Q ls st μ := ix_Ev.eq (a_X11_sheet launch0) rfl ls st μ
theorem e_X11_sheet_107 (Q : ix_R → Prop) (ls : ix_L) (st : List ix_V) (μ : ix_M) : ix_Ev o_X11_sheet Q (107, ls, st, μ) = ix_bin (fun x y => x * y) 108 (ix_Ev o_X11_sheet Q) Q ls st μ := ix_Ev.eq (a_X11_sheet launch0) rfl ls st μ
theorem e_X11_sheet_108 (Q : ix_R → Prop) (ls : ix_L) (st : List ix_V) (μ : ix_M) : ix_Ev o_X11_sheet Q (108, ls, st, μ) = ix_iload 4 110 (ix_Ev o_X11_sheet Q) Q ls st μ := ix_Ev.eq (a_X11_sheet launch0) rfl ls st μ
theorem e_X11_sheet_110 (Q : ix_R → Prop) (ls : ix_L) (st : List ix_V) (μ : ix_M) : ix_Ev o_X11_sheet Q (110, ls, st, μ) = ix_bin (fun x y => x + y) 111 (ix_Ev o_X11_sheet Q) Q ls st μ := ix_Ev.eq (a_X11_sheet launch0) rfl ls st μ
theorem e_X11_sheet_111 (Q : ix_R → Prop) (ls : ix_L) (st : List ix_V) (μ : ix_M) : ix_Ev o_X11_sheet Q (111, ls, st, μ) = ix_push (vi 0) 112 (ix_Ev o_X11_sheet Q) Q ls st μ := ix_Ev.eq (a_X11_sheet launch0) rfl ls st μ
theorem e_X11_sheet_112 (Q : ix_R → Prop) (ls : ix_L) (st : List ix_V) (μ : ix_M) : ix_Ev o_X11_sheet Q (112, ls, st, μ) = ix_iast 113 (ix_Ev o_X11_sheet Q) Q ls st μ := ix_Ev.eq (a_X11_sheet launch0) rfl ls st μ
theorem e_X11_sheet_113 (Q : ix_R → Prop) (ls : ix_L) (st : List ix_V) (μ : ix_M) : ix_Ev o_X11_sheet Q (113, ls, st, μ) = ix_iinc 4 1 116 (ix_Ev o_X11_sheet Q) Q ls st μ := ix_Ev.eq (a_X11_sheet launch0) rfl ls st μ
theorem e_X11_sheet_116 (Q : ix_R → Prop) (ls : ix_L) (st : List ix_V) (μ : ix_M) : ix_Ev o_X11_sheet Q (116, ls, st, μ) = ix_goto 93 (ix_Ev o_X11_sheet Q) Q ls st μ := ix_Ev.eq (a_X11_sheet launch0) rfl ls st μ
theorem e_X11_sheet_119 (Q : ix_R → Prop) (ls : ix_L) (st : List ix_V) (μ : ix_M) : ix_Ev o_X11_sheet Q (119, ls, st, μ) = ix_push (vi 1) 120 (ix_Ev o_X11_sheet Q) Q ls st μ := ix_Ev.eq (a_X11_sheet launch0) rfl ls st μ
theorem e_X11_sheet_120 (Q : ix_R → Prop) (ls : ix_L) (st : List ix_V) (μ : ix_M) : ix_Ev o_X11_sheet Q (120, ls, st, μ) = ix_iret (ix_Ev o_X11_sheet Q) Q ls st μ := ix_Ev.eq (a_X11_sheet launch0) rfl ls st μ
theorem l_X11_sheet {S : Nat} {b n : Int32} {μ0 : ix_M} {Q : ix_R → Prop} (hS : S < 4) (hQ : ∀ μ', Fx [125] μ0 μ' → (∀ j, μ' 125 j = if 40 * S ≤ j ∧ j < 40 * S + 40 then 0 else μ0 125 j) → Q (some (vi 1), μ')) : ∀ (k i : Nat) (μ : ix_M), i + k = 40 → Fx [125] μ0 μ → (∀ j, μ 125 j = if 40 * S ≤ j ∧ j < 40 * S + i then 0 else μ0 125 j) → ix_Ev o_X11_sheet Q (93, [some (vr 10 112), some (vi (nI S)), some (vi b), some (vi n), some (vi (nI i))], [], μ) := by
  have e40 : (40 : Int32) * nI S = nI (40 * S) := (Int32.ofNat_mul 40 S).symm
  intro k
  induction k with
  | zero =>
    intro i μ hi hF hr
    have hi : i = 40 := hi
    subst hi
    have c1 : 40 ≤ nI 40 := by decide
    rw [e_X11_sheet_93]
    simp (decide := true) only [e_X11_sheet_0, e_X11_sheet_1, e_X11_sheet_4, e_X11_sheet_7, e_X11_sheet_8, e_X11_sheet_11, e_X11_sheet_12, e_X11_sheet_14, e_X11_sheet_17, e_X11_sheet_18, e_X11_sheet_20, e_X11_sheet_23, e_X11_sheet_24, e_X11_sheet_26, e_X11_sheet_29, e_X11_sheet_30, e_X11_sheet_32, e_X11_sheet_35, e_X11_sheet_36, e_X11_sheet_37, e_X11_sheet_40, e_X11_sheet_41, e_X11_sheet_44, e_X11_sheet_45, e_X11_sheet_47, e_X11_sheet_50, e_X11_sheet_51, e_X11_sheet_52, e_X11_sheet_55, e_X11_sheet_56, e_X11_sheet_58, e_X11_sheet_61, e_X11_sheet_62, e_X11_sheet_64, e_X11_sheet_67, e_X11_sheet_68, e_X11_sheet_69, e_X11_sheet_72, e_X11_sheet_73, e_X11_sheet_74, e_X11_sheet_75, e_X11_sheet_76, e_X11_sheet_79, e_X11_sheet_80, e_X11_sheet_81, e_X11_sheet_84, e_X11_sheet_85, e_X11_sheet_88, e_X11_sheet_89, e_X11_sheet_90, e_X11_sheet_91, e_X11_sheet_95, e_X11_sheet_97, e_X11_sheet_100, e_X11_sheet_101, e_X11_sheet_104, e_X11_sheet_106, e_X11_sheet_107, e_X11_sheet_108, e_X11_sheet_110, e_X11_sheet_111, e_X11_sheet_112, e_X11_sheet_113, e_X11_sheet_116, e_X11_sheet_119, e_X11_sheet_120, vi, vl, vr, oc_X11_finding, T_X11_finding, oc_X11_isSheet, T_X11_isSheet, ix_push, ix_iload, ix_lload, ix_aload, ix_istore, ix_astore, ix_iinc, ix_bin, ix_div, ix_un, ix_i2l, ix_l2i, ix_lbin, ix_lsh, ix_lcmp, ix_dup, ix_dup2, ix_pop, ix_if, ix_cmp, ix_goto, ix_switch, ix_sw, ix_iret, ix_zret, ix_vret, ix_aret, ix_geti, ix_getr, ix_puti, ix_putz, ix_puts, ix_gets, ix_iald, ix_iast, ix_alen, ix_aald, ix_gval, ix_gcod, ix_bald, ix_blen, ix_sald, ix_nret, ix_math2, ix_math1, ix_acopy, ml_113, ml_114, ml_115, ml_116, ml_118, ml_119, ml_120, ml_121, ml_122, ml_123, ml_124, ml_125, ml_126, mv_0, mv_1, mv_2, mv_3, mv_4, mv_5, mB_or, Nat.add_assoc, Int32.reduceLT, Int32.reduceLE, Int32.reduceToNatClampNeg, Int32.reduceSub, Int32.reduceAdd, Nat.reduceAdd, Nat.reduceLeDiff, true_or, or_true, or_false, false_or, not_false_eq_true, not_true_eq_false, false_implies, true_implies, implies_true, and_self, mB_0, mB_01, Classical.not_not, Nat.zero_le, List.getElem?_cons_zero, List.getElem?_cons_succ, List.set_cons_zero, List.set_cons_succ, ix_nl, ix_cs, true_and, and_true, Option.toList_some, Option.toList_none, List.cons_append, List.nil_append, c1]
    exact hQ μ hF hr
  | succ k ih =>
    intro i μ hi hF hr
    have c1 : ¬ 40 ≤ nI i := nI_ge (a := i) (b := 40) (by omega) (by decide)
    have n1 : nI i + 1 = nI (i + 1) := nI_1 i
    have q1 : nI (40 * S) + nI i = nI (40 * S + i) := nI_add _ _
    have q2 : (nI (40 * S + i)).toNatClampNeg = 40 * S + i := nI_clamp (by omega)
    have q3 : vp_in (nI (40 * S + i)) 160 := vp_in_nI (by omega) (by decide)
    rw [e_X11_sheet_93]
    simp (decide := true) only [e_X11_sheet_0, e_X11_sheet_1, e_X11_sheet_4, e_X11_sheet_7, e_X11_sheet_8, e_X11_sheet_11, e_X11_sheet_12, e_X11_sheet_14, e_X11_sheet_17, e_X11_sheet_18, e_X11_sheet_20, e_X11_sheet_23, e_X11_sheet_24, e_X11_sheet_26, e_X11_sheet_29, e_X11_sheet_30, e_X11_sheet_32, e_X11_sheet_35, e_X11_sheet_36, e_X11_sheet_37, e_X11_sheet_40, e_X11_sheet_41, e_X11_sheet_44, e_X11_sheet_45, e_X11_sheet_47, e_X11_sheet_50, e_X11_sheet_51, e_X11_sheet_52, e_X11_sheet_55, e_X11_sheet_56, e_X11_sheet_58, e_X11_sheet_61, e_X11_sheet_62, e_X11_sheet_64, e_X11_sheet_67, e_X11_sheet_68, e_X11_sheet_69, e_X11_sheet_72, e_X11_sheet_73, e_X11_sheet_74, e_X11_sheet_75, e_X11_sheet_76, e_X11_sheet_79, e_X11_sheet_80, e_X11_sheet_81, e_X11_sheet_84, e_X11_sheet_85, e_X11_sheet_88, e_X11_sheet_89, e_X11_sheet_90, e_X11_sheet_91, e_X11_sheet_95, e_X11_sheet_97, e_X11_sheet_100, e_X11_sheet_101, e_X11_sheet_104, e_X11_sheet_106, e_X11_sheet_107, e_X11_sheet_108, e_X11_sheet_110, e_X11_sheet_111, e_X11_sheet_112, e_X11_sheet_113, e_X11_sheet_116, e_X11_sheet_119, e_X11_sheet_120, vi, vl, vr, oc_X11_finding, T_X11_finding, oc_X11_isSheet, T_X11_isSheet, ix_push, ix_iload, ix_lload, ix_aload, ix_istore, ix_astore, ix_iinc, ix_bin, ix_div, ix_un, ix_i2l, ix_l2i, ix_lbin, ix_lsh, ix_lcmp, ix_dup, ix_dup2, ix_pop, ix_if, ix_cmp, ix_goto, ix_switch, ix_sw, ix_iret, ix_zret, ix_vret, ix_aret, ix_geti, ix_getr, ix_puti, ix_putz, ix_puts, ix_gets, ix_iald, ix_iast, ix_alen, ix_aald, ix_gval, ix_gcod, ix_bald, ix_blen, ix_sald, ix_nret, ix_math2, ix_math1, ix_acopy, ml_113, ml_114, ml_115, ml_116, ml_118, ml_119, ml_120, ml_121, ml_122, ml_123, ml_124, ml_125, ml_126, mv_0, mv_1, mv_2, mv_3, mv_4, mv_5, mB_or, Nat.add_assoc, Int32.reduceLT, Int32.reduceLE, Int32.reduceToNatClampNeg, Int32.reduceSub, Int32.reduceAdd, Nat.reduceAdd, Nat.reduceLeDiff, true_or, or_true, or_false, false_or, not_false_eq_true, not_true_eq_false, false_implies, true_implies, implies_true, and_self, mB_0, mB_01, Classical.not_not, Nat.zero_le, List.getElem?_cons_zero, List.getElem?_cons_succ, List.set_cons_zero, List.set_cons_succ, ix_nl, ix_cs, true_and, and_true, Option.toList_some, Option.toList_none, List.cons_append, List.nil_append, c1, n1, e40, q1, q2, q3]
    refine ih (i + 1) _ (by omega) (hF.up (by simp)) (fun j => ?_)
    rw [ix_up_ap]
    by_cases c : j = 40 * S + i
    · rw [if_pos ⟨rfl, c⟩, if_pos (by omega)]
    · rw [if_neg (fun z => c z.2), hr j]
      by_cases c2 : 40 * S ≤ j ∧ j < 40 * S + i
      · rw [if_pos c2, if_pos (by omega)]
      · rw [if_neg c2, if_neg (by omega)]
/-- a sheet begun on both sides -/
theorem Inv.shb {μ μ1 μ2 : ix_M} (I : Inv μ) {S N : Nat} {b : Int32} (hS : S < 4) (hN : N ≤ 40) (F1 : Fx [99 + 3 * S, 99 + (3 * S + 1), 99 + (3 * S + 2)] μ μ1) (h1 : μ1 (99 + 3 * S) 1 = b) (h2 : μ1 (99 + (3 * S + 1)) 1 = nI N) (h3 : ∀ j, j < N → μ1 (99 + (3 * S + 2)) j = 0) (F2 : Fx [125] (ix_up (ix_up μ1 123 S b) 124 S (nI N)) μ2) (h4 : ∀ j, μ2 125 j = if 40 * S ≤ j ∧ j < 40 * S + 40 then 0 else ix_up (ix_up μ1 123 S b) 124 S (nI N) 125 j) : Inv μ2 := by
  have F2' : ∀ a, a ≠ 123 → a ≠ 124 → a ≠ 125 → μ2 a = μ1 a := fun a k1 k2 k3 => by rw [F2 a (by simp [k3]), ix_up_ne k2, ix_up_ne k1]
  have F1' : ∀ a, a < 99 + 3 * S ∨ 99 + 3 * S + 2 < a → μ1 a = μ a := fun a k => F1 a (by simp; omega)
  refine I.shc (fun a k1 k2 => by rw [F2' a (by omega) (by omega) (by omega), F1' a (by omega)]) (fun i hi => ?_)
  have e123 : ∀ j, μ2 123 j = if j = S then b else μ 123 j := fun j => by
    rw [F2 123 (by decide), ix_up_ne (by decide), ix_up_ap, F1' 123 (by omega)]
    by_cases c : j = S
    · rw [if_pos ⟨rfl, c⟩, if_pos c]
    · rw [if_neg (fun z => c z.2), if_neg c]
  have e124 : ∀ j, μ2 124 j = if j = S then nI N else μ 124 j := fun j => by
    rw [F2 124 (by decide), ix_up_ap]
    by_cases c : j = S
    · rw [if_pos ⟨rfl, c⟩, if_pos c]
    · rw [if_neg (fun z => c z.2), if_neg c, ix_up_ne (by decide), F1' 124 (by omega)]
  have e125 : ∀ j, ix_up (ix_up μ1 123 S b) 124 S (nI N) 125 j = μ 125 j := fun j => by rw [ix_up_ne (by decide), ix_up_ne (by decide), F1' 125 (by omega)]
  by_cases c : i = S
  · subst c
    refine ⟨by rw [F2' _ (by omega) (by omega) (by omega), h1, e123, if_pos rfl], N, hN, by rw [F2' _ (by omega) (by omega) (by omega), show 100 + 3 * i = 99 + (3 * i + 1) by omega]; exact h2, by rw [e124, if_pos rfl], fun j hj => ?_⟩
    rw [F2' _ (by omega) (by omega) (by omega), show 101 + 3 * i = 99 + (3 * i + 2) by omega, h3 j hj, h4, if_pos (by omega)]
  · obtain ⟨p1, n, p2, p3, p4, p5⟩ := I.2.2.2.2.1 i hi
    refine ⟨by rw [F2' _ (by omega) (by omega) (by omega), F1' _ (by omega), e123, if_neg c]; exact p1, n, p2, by rw [F2' _ (by omega) (by omega) (by omega), F1' _ (by omega)]; exact p3, by rw [e124, if_neg c]; exact p4, fun j hj => ?_⟩
    rw [F2' _ (by omega) (by omega) (by omega), F1' _ (by omega), h4, if_neg (by omega), e125]
    exact p5 j hj
theorem pr_sheet (s : Int32) (b : Int32) (n : Int32) (μ : ix_M) (I : Inv μ) (Q : ix_R → Prop) (hQ : ∀ vv μ', ix_Ev o_X11_sheet (Pst vv) (0, [some (vr 10 112), some (vi s), some (vi b), some (vi n), none], [], μ') → Q (some (vi vv), μ')) : ix_Ev o_X10_sheet Q (0, [some (vr 9 0), some (vi s), some (vi b), some (vi n)], [], μ) := by
  rcases inR s 3 (by decide) with ⟨S, hS, rfl⟩ | ⟨hx1, hx2⟩
  · obtain ⟨S1, S2, S3, S4⟩ : ¬ nI S < 0 ∧ ¬ (3 : Int32) < nI S ∧ 0 ≤ nI S ∧ nI S ≤ (3 : Int32) := rgN hS (by decide)
    have Sc : (nI S).toNatClampNeg = S := nI_clamp (by omega)
    have v4 : vp_in (nI S) 4 := vp_in_nI (by omega) (by decide)
    by_cases b0 : b = 0
    · subst b0
      simp (decide := true) only [e_X10_sheet_0, e_X10_sheet_1, e_X10_sheet_2, e_X10_sheet_5, e_X10_sheet_8, e_X10_sheet_9, e_X10_sheet_12, e_X10_sheet_13, e_X10_sheet_15, e_X10_sheet_18, e_X10_sheet_19, e_X10_sheet_21, e_X10_sheet_24, e_X10_sheet_25, e_X10_sheet_27, e_X10_sheet_30, e_X10_sheet_31, e_X10_sheet_32, e_X10_sheet_35, e_X10_sheet_36, e_X10_sheet_37, e_X10_sheet_40, e_X10_sheet_41, e_X10_sheet_44, e_X10_sheet_45, e_X10_sheet_46, e_X10_sheet_49, e_X10_sheet_50, e_X10_sheet_51, e_X10_sheet_54, e_X10_sheet_55, e_X10_sheet_57, e_X10_sheet_60, e_X10_sheet_61, e_X10_sheet_62, e_X10_sheet_65, e_X10_sheet_66, e_X10_sheet_67, e_X10_sheet_70, e_X10_sheet_71, e_X10_sheet_72, e_X10_sheet_73, e_X10_sheet_74, e_X10_sheet_77, e_X10_sheet_78, e_X10_sheet_81, e_X10_sheet_82, e_X10_sheet_85, e_X10_sheet_86, vi, vl, vr, oc_X10_error, T_X10_error, oc_X10_outside, T_X10_outside, oc_X5_begin, T_X5_begin, ix_push, ix_iload, ix_lload, ix_aload, ix_istore, ix_astore, ix_iinc, ix_bin, ix_div, ix_un, ix_i2l, ix_l2i, ix_lbin, ix_lsh, ix_lcmp, ix_dup, ix_dup2, ix_pop, ix_if, ix_cmp, ix_goto, ix_switch, ix_sw, ix_iret, ix_zret, ix_vret, ix_aret, ix_geti, ix_getr, ix_puti, ix_putz, ix_puts, ix_gets, ix_iald, ix_iast, ix_alen, ix_aald, ix_gval, ix_gcod, ix_bald, ix_blen, ix_sald, ix_nret, ix_math2, ix_math1, ix_acopy, Nat.add_assoc, Int32.reduceLT, Int32.reduceLE, Int32.reduceToNatClampNeg, Int32.reduceSub, Int32.reduceAdd, Nat.reduceAdd, Nat.reduceLeDiff, true_or, or_true, or_false, false_or, not_false_eq_true, not_true_eq_false, false_implies, true_implies, implies_true, and_self, mB_0, mB_01, Classical.not_not, Nat.zero_le, List.getElem?_cons_zero, List.getElem?_cons_succ, List.set_cons_zero, List.set_cons_succ, ix_nl, ix_cs, true_and, and_true, Option.toList_some, Option.toList_none, List.cons_append, List.nil_append, S1, S2, S3, S4, Sc, v4, ix_up_ne, ix_up_k, ve_1, ve_2, ve_3, ve_4, ve_5]
      refine ⟨0, rfl, by decide, fun μ1 F1 g1 g2 g3 => hQ _ _ ?_⟩
      simp (decide := true) only [e_X11_sheet_0, e_X11_sheet_1, e_X11_sheet_4, e_X11_sheet_7, e_X11_sheet_8, e_X11_sheet_11, e_X11_sheet_12, e_X11_sheet_14, e_X11_sheet_17, e_X11_sheet_18, e_X11_sheet_20, e_X11_sheet_23, e_X11_sheet_24, e_X11_sheet_26, e_X11_sheet_29, e_X11_sheet_30, e_X11_sheet_32, e_X11_sheet_35, e_X11_sheet_36, e_X11_sheet_37, e_X11_sheet_40, e_X11_sheet_41, e_X11_sheet_44, e_X11_sheet_45, e_X11_sheet_47, e_X11_sheet_50, e_X11_sheet_51, e_X11_sheet_52, e_X11_sheet_55, e_X11_sheet_56, e_X11_sheet_58, e_X11_sheet_61, e_X11_sheet_62, e_X11_sheet_64, e_X11_sheet_67, e_X11_sheet_68, e_X11_sheet_69, e_X11_sheet_72, e_X11_sheet_73, e_X11_sheet_74, e_X11_sheet_75, e_X11_sheet_76, e_X11_sheet_79, e_X11_sheet_80, e_X11_sheet_81, e_X11_sheet_84, e_X11_sheet_85, e_X11_sheet_88, e_X11_sheet_89, e_X11_sheet_90, e_X11_sheet_91, e_X11_sheet_95, e_X11_sheet_97, e_X11_sheet_100, e_X11_sheet_101, e_X11_sheet_104, e_X11_sheet_106, e_X11_sheet_107, e_X11_sheet_108, e_X11_sheet_110, e_X11_sheet_111, e_X11_sheet_112, e_X11_sheet_113, e_X11_sheet_116, e_X11_sheet_119, e_X11_sheet_120, vi, vl, vr, oc_X11_finding, T_X11_finding, oc_X11_isSheet, T_X11_isSheet, ix_push, ix_iload, ix_lload, ix_aload, ix_istore, ix_astore, ix_iinc, ix_bin, ix_div, ix_un, ix_i2l, ix_l2i, ix_lbin, ix_lsh, ix_lcmp, ix_dup, ix_dup2, ix_pop, ix_if, ix_cmp, ix_goto, ix_switch, ix_sw, ix_iret, ix_zret, ix_vret, ix_aret, ix_geti, ix_getr, ix_puti, ix_putz, ix_puts, ix_gets, ix_iald, ix_iast, ix_alen, ix_aald, ix_gval, ix_gcod, ix_bald, ix_blen, ix_sald, ix_nret, ix_math2, ix_math1, ix_acopy, ml_113, ml_114, ml_115, ml_116, ml_118, ml_119, ml_120, ml_121, ml_122, ml_123, ml_124, ml_125, ml_126, mv_0, mv_1, mv_2, mv_3, mv_4, mv_5, mB_or, Nat.add_assoc, Int32.reduceLT, Int32.reduceLE, Int32.reduceToNatClampNeg, Int32.reduceSub, Int32.reduceAdd, Nat.reduceAdd, Nat.reduceLeDiff, true_or, or_true, or_false, false_or, not_false_eq_true, not_true_eq_false, false_implies, true_implies, implies_true, and_self, mB_0, mB_01, Classical.not_not, Nat.zero_le, List.getElem?_cons_zero, List.getElem?_cons_succ, List.set_cons_zero, List.set_cons_succ, ix_nl, ix_cs, true_and, and_true, Option.toList_some, Option.toList_none, List.cons_append, List.nil_append, S1, S2, S3, S4, Sc, v4, ix_up_ne, ix_up_k, ve_1, ve_2, ve_3, ve_4, ve_5]
      exact l_X11_sheet (S := S) (by omega) (fun μ2 F2 g4 => pst rfl (I.shb (N := 0) (by omega) (by decide) F1 g1 g2 g3 F2 g4)) 40 0 _ rfl Fx.rf (fun j => by rw [if_neg (by omega)]; rfl)
    · by_cases hb : b = 8 ∨ b = 16 ∨ b = 32
      · by_cases c1 : n < 0
        · have c0 : ¬ 0 ≤ n := Int32.not_le.mpr c1
          rcases hb with rfl | rfl | rfl
          · simp (decide := true) only [e_X10_sheet_0, e_X10_sheet_1, e_X10_sheet_2, e_X10_sheet_5, e_X10_sheet_8, e_X10_sheet_9, e_X10_sheet_12, e_X10_sheet_13, e_X10_sheet_15, e_X10_sheet_18, e_X10_sheet_19, e_X10_sheet_21, e_X10_sheet_24, e_X10_sheet_25, e_X10_sheet_27, e_X10_sheet_30, e_X10_sheet_31, e_X10_sheet_32, e_X10_sheet_35, e_X10_sheet_36, e_X10_sheet_37, e_X10_sheet_40, e_X10_sheet_41, e_X10_sheet_44, e_X10_sheet_45, e_X10_sheet_46, e_X10_sheet_49, e_X10_sheet_50, e_X10_sheet_51, e_X10_sheet_54, e_X10_sheet_55, e_X10_sheet_57, e_X10_sheet_60, e_X10_sheet_61, e_X10_sheet_62, e_X10_sheet_65, e_X10_sheet_66, e_X10_sheet_67, e_X10_sheet_70, e_X10_sheet_71, e_X10_sheet_72, e_X10_sheet_73, e_X10_sheet_74, e_X10_sheet_77, e_X10_sheet_78, e_X10_sheet_81, e_X10_sheet_82, e_X10_sheet_85, e_X10_sheet_86, vi, vl, vr, oc_X10_error, T_X10_error, oc_X10_outside, T_X10_outside, oc_X5_begin, T_X5_begin, ix_push, ix_iload, ix_lload, ix_aload, ix_istore, ix_astore, ix_iinc, ix_bin, ix_div, ix_un, ix_i2l, ix_l2i, ix_lbin, ix_lsh, ix_lcmp, ix_dup, ix_dup2, ix_pop, ix_if, ix_cmp, ix_goto, ix_switch, ix_sw, ix_iret, ix_zret, ix_vret, ix_aret, ix_geti, ix_getr, ix_puti, ix_putz, ix_puts, ix_gets, ix_iald, ix_iast, ix_alen, ix_aald, ix_gval, ix_gcod, ix_bald, ix_blen, ix_sald, ix_nret, ix_math2, ix_math1, ix_acopy, Nat.add_assoc, Int32.reduceLT, Int32.reduceLE, Int32.reduceToNatClampNeg, Int32.reduceSub, Int32.reduceAdd, Nat.reduceAdd, Nat.reduceLeDiff, true_or, or_true, or_false, false_or, not_false_eq_true, not_true_eq_false, false_implies, true_implies, implies_true, and_self, mB_0, mB_01, Classical.not_not, Nat.zero_le, List.getElem?_cons_zero, List.getElem?_cons_succ, List.set_cons_zero, List.set_cons_succ, ix_nl, ix_cs, true_and, and_true, Option.toList_some, Option.toList_none, List.cons_append, List.nil_append, S1, S2, S3, S4, Sc, c1, c0, ix_up_ne, ix_up_k, ve_1, ve_2, ve_3, ve_4, ve_5]
            refine hQ _ _ ?_
            simp (decide := true) only [e_X11_sheet_0, e_X11_sheet_1, e_X11_sheet_4, e_X11_sheet_7, e_X11_sheet_8, e_X11_sheet_11, e_X11_sheet_12, e_X11_sheet_14, e_X11_sheet_17, e_X11_sheet_18, e_X11_sheet_20, e_X11_sheet_23, e_X11_sheet_24, e_X11_sheet_26, e_X11_sheet_29, e_X11_sheet_30, e_X11_sheet_32, e_X11_sheet_35, e_X11_sheet_36, e_X11_sheet_37, e_X11_sheet_40, e_X11_sheet_41, e_X11_sheet_44, e_X11_sheet_45, e_X11_sheet_47, e_X11_sheet_50, e_X11_sheet_51, e_X11_sheet_52, e_X11_sheet_55, e_X11_sheet_56, e_X11_sheet_58, e_X11_sheet_61, e_X11_sheet_62, e_X11_sheet_64, e_X11_sheet_67, e_X11_sheet_68, e_X11_sheet_69, e_X11_sheet_72, e_X11_sheet_73, e_X11_sheet_74, e_X11_sheet_75, e_X11_sheet_76, e_X11_sheet_79, e_X11_sheet_80, e_X11_sheet_81, e_X11_sheet_84, e_X11_sheet_85, e_X11_sheet_88, e_X11_sheet_89, e_X11_sheet_90, e_X11_sheet_91, e_X11_sheet_95, e_X11_sheet_97, e_X11_sheet_100, e_X11_sheet_101, e_X11_sheet_104, e_X11_sheet_106, e_X11_sheet_107, e_X11_sheet_108, e_X11_sheet_110, e_X11_sheet_111, e_X11_sheet_112, e_X11_sheet_113, e_X11_sheet_116, e_X11_sheet_119, e_X11_sheet_120, vi, vl, vr, oc_X11_finding, T_X11_finding, oc_X11_isSheet, T_X11_isSheet, ix_push, ix_iload, ix_lload, ix_aload, ix_istore, ix_astore, ix_iinc, ix_bin, ix_div, ix_un, ix_i2l, ix_l2i, ix_lbin, ix_lsh, ix_lcmp, ix_dup, ix_dup2, ix_pop, ix_if, ix_cmp, ix_goto, ix_switch, ix_sw, ix_iret, ix_zret, ix_vret, ix_aret, ix_geti, ix_getr, ix_puti, ix_putz, ix_puts, ix_gets, ix_iald, ix_iast, ix_alen, ix_aald, ix_gval, ix_gcod, ix_bald, ix_blen, ix_sald, ix_nret, ix_math2, ix_math1, ix_acopy, ml_113, ml_114, ml_115, ml_116, ml_118, ml_119, ml_120, ml_121, ml_122, ml_123, ml_124, ml_125, ml_126, mv_0, mv_1, mv_2, mv_3, mv_4, mv_5, mB_or, Nat.add_assoc, Int32.reduceLT, Int32.reduceLE, Int32.reduceToNatClampNeg, Int32.reduceSub, Int32.reduceAdd, Nat.reduceAdd, Nat.reduceLeDiff, true_or, or_true, or_false, false_or, not_false_eq_true, not_true_eq_false, false_implies, true_implies, implies_true, and_self, mB_0, mB_01, Classical.not_not, Nat.zero_le, List.getElem?_cons_zero, List.getElem?_cons_succ, List.set_cons_zero, List.set_cons_succ, ix_nl, ix_cs, true_and, and_true, Option.toList_some, Option.toList_none, List.cons_append, List.nil_append, S1, S2, S3, S4, Sc, c1, c0, ix_up_ne, ix_up_k, ve_1, ve_2, ve_3, ve_4, ve_5]
            repeat' (first | exact I.er 3 (by decide) | refine ⟨fun _ => ?_, fun _ => ?_⟩)
          · simp (decide := true) only [e_X10_sheet_0, e_X10_sheet_1, e_X10_sheet_2, e_X10_sheet_5, e_X10_sheet_8, e_X10_sheet_9, e_X10_sheet_12, e_X10_sheet_13, e_X10_sheet_15, e_X10_sheet_18, e_X10_sheet_19, e_X10_sheet_21, e_X10_sheet_24, e_X10_sheet_25, e_X10_sheet_27, e_X10_sheet_30, e_X10_sheet_31, e_X10_sheet_32, e_X10_sheet_35, e_X10_sheet_36, e_X10_sheet_37, e_X10_sheet_40, e_X10_sheet_41, e_X10_sheet_44, e_X10_sheet_45, e_X10_sheet_46, e_X10_sheet_49, e_X10_sheet_50, e_X10_sheet_51, e_X10_sheet_54, e_X10_sheet_55, e_X10_sheet_57, e_X10_sheet_60, e_X10_sheet_61, e_X10_sheet_62, e_X10_sheet_65, e_X10_sheet_66, e_X10_sheet_67, e_X10_sheet_70, e_X10_sheet_71, e_X10_sheet_72, e_X10_sheet_73, e_X10_sheet_74, e_X10_sheet_77, e_X10_sheet_78, e_X10_sheet_81, e_X10_sheet_82, e_X10_sheet_85, e_X10_sheet_86, vi, vl, vr, oc_X10_error, T_X10_error, oc_X10_outside, T_X10_outside, oc_X5_begin, T_X5_begin, ix_push, ix_iload, ix_lload, ix_aload, ix_istore, ix_astore, ix_iinc, ix_bin, ix_div, ix_un, ix_i2l, ix_l2i, ix_lbin, ix_lsh, ix_lcmp, ix_dup, ix_dup2, ix_pop, ix_if, ix_cmp, ix_goto, ix_switch, ix_sw, ix_iret, ix_zret, ix_vret, ix_aret, ix_geti, ix_getr, ix_puti, ix_putz, ix_puts, ix_gets, ix_iald, ix_iast, ix_alen, ix_aald, ix_gval, ix_gcod, ix_bald, ix_blen, ix_sald, ix_nret, ix_math2, ix_math1, ix_acopy, Nat.add_assoc, Int32.reduceLT, Int32.reduceLE, Int32.reduceToNatClampNeg, Int32.reduceSub, Int32.reduceAdd, Nat.reduceAdd, Nat.reduceLeDiff, true_or, or_true, or_false, false_or, not_false_eq_true, not_true_eq_false, false_implies, true_implies, implies_true, and_self, mB_0, mB_01, Classical.not_not, Nat.zero_le, List.getElem?_cons_zero, List.getElem?_cons_succ, List.set_cons_zero, List.set_cons_succ, ix_nl, ix_cs, true_and, and_true, Option.toList_some, Option.toList_none, List.cons_append, List.nil_append, S1, S2, S3, S4, Sc, c1, c0, ix_up_ne, ix_up_k, ve_1, ve_2, ve_3, ve_4, ve_5]
            refine hQ _ _ ?_
            simp (decide := true) only [e_X11_sheet_0, e_X11_sheet_1, e_X11_sheet_4, e_X11_sheet_7, e_X11_sheet_8, e_X11_sheet_11, e_X11_sheet_12, e_X11_sheet_14, e_X11_sheet_17, e_X11_sheet_18, e_X11_sheet_20, e_X11_sheet_23, e_X11_sheet_24, e_X11_sheet_26, e_X11_sheet_29, e_X11_sheet_30, e_X11_sheet_32, e_X11_sheet_35, e_X11_sheet_36, e_X11_sheet_37, e_X11_sheet_40, e_X11_sheet_41, e_X11_sheet_44, e_X11_sheet_45, e_X11_sheet_47, e_X11_sheet_50, e_X11_sheet_51, e_X11_sheet_52, e_X11_sheet_55, e_X11_sheet_56, e_X11_sheet_58, e_X11_sheet_61, e_X11_sheet_62, e_X11_sheet_64, e_X11_sheet_67, e_X11_sheet_68, e_X11_sheet_69, e_X11_sheet_72, e_X11_sheet_73, e_X11_sheet_74, e_X11_sheet_75, e_X11_sheet_76, e_X11_sheet_79, e_X11_sheet_80, e_X11_sheet_81, e_X11_sheet_84, e_X11_sheet_85, e_X11_sheet_88, e_X11_sheet_89, e_X11_sheet_90, e_X11_sheet_91, e_X11_sheet_95, e_X11_sheet_97, e_X11_sheet_100, e_X11_sheet_101, e_X11_sheet_104, e_X11_sheet_106, e_X11_sheet_107, e_X11_sheet_108, e_X11_sheet_110, e_X11_sheet_111, e_X11_sheet_112, e_X11_sheet_113, e_X11_sheet_116, e_X11_sheet_119, e_X11_sheet_120, vi, vl, vr, oc_X11_finding, T_X11_finding, oc_X11_isSheet, T_X11_isSheet, ix_push, ix_iload, ix_lload, ix_aload, ix_istore, ix_astore, ix_iinc, ix_bin, ix_div, ix_un, ix_i2l, ix_l2i, ix_lbin, ix_lsh, ix_lcmp, ix_dup, ix_dup2, ix_pop, ix_if, ix_cmp, ix_goto, ix_switch, ix_sw, ix_iret, ix_zret, ix_vret, ix_aret, ix_geti, ix_getr, ix_puti, ix_putz, ix_puts, ix_gets, ix_iald, ix_iast, ix_alen, ix_aald, ix_gval, ix_gcod, ix_bald, ix_blen, ix_sald, ix_nret, ix_math2, ix_math1, ix_acopy, ml_113, ml_114, ml_115, ml_116, ml_118, ml_119, ml_120, ml_121, ml_122, ml_123, ml_124, ml_125, ml_126, mv_0, mv_1, mv_2, mv_3, mv_4, mv_5, mB_or, Nat.add_assoc, Int32.reduceLT, Int32.reduceLE, Int32.reduceToNatClampNeg, Int32.reduceSub, Int32.reduceAdd, Nat.reduceAdd, Nat.reduceLeDiff, true_or, or_true, or_false, false_or, not_false_eq_true, not_true_eq_false, false_implies, true_implies, implies_true, and_self, mB_0, mB_01, Classical.not_not, Nat.zero_le, List.getElem?_cons_zero, List.getElem?_cons_succ, List.set_cons_zero, List.set_cons_succ, ix_nl, ix_cs, true_and, and_true, Option.toList_some, Option.toList_none, List.cons_append, List.nil_append, S1, S2, S3, S4, Sc, c1, c0, ix_up_ne, ix_up_k, ve_1, ve_2, ve_3, ve_4, ve_5]
            repeat' (first | exact I.er 3 (by decide) | refine ⟨fun _ => ?_, fun _ => ?_⟩)
          · simp (decide := true) only [e_X10_sheet_0, e_X10_sheet_1, e_X10_sheet_2, e_X10_sheet_5, e_X10_sheet_8, e_X10_sheet_9, e_X10_sheet_12, e_X10_sheet_13, e_X10_sheet_15, e_X10_sheet_18, e_X10_sheet_19, e_X10_sheet_21, e_X10_sheet_24, e_X10_sheet_25, e_X10_sheet_27, e_X10_sheet_30, e_X10_sheet_31, e_X10_sheet_32, e_X10_sheet_35, e_X10_sheet_36, e_X10_sheet_37, e_X10_sheet_40, e_X10_sheet_41, e_X10_sheet_44, e_X10_sheet_45, e_X10_sheet_46, e_X10_sheet_49, e_X10_sheet_50, e_X10_sheet_51, e_X10_sheet_54, e_X10_sheet_55, e_X10_sheet_57, e_X10_sheet_60, e_X10_sheet_61, e_X10_sheet_62, e_X10_sheet_65, e_X10_sheet_66, e_X10_sheet_67, e_X10_sheet_70, e_X10_sheet_71, e_X10_sheet_72, e_X10_sheet_73, e_X10_sheet_74, e_X10_sheet_77, e_X10_sheet_78, e_X10_sheet_81, e_X10_sheet_82, e_X10_sheet_85, e_X10_sheet_86, vi, vl, vr, oc_X10_error, T_X10_error, oc_X10_outside, T_X10_outside, oc_X5_begin, T_X5_begin, ix_push, ix_iload, ix_lload, ix_aload, ix_istore, ix_astore, ix_iinc, ix_bin, ix_div, ix_un, ix_i2l, ix_l2i, ix_lbin, ix_lsh, ix_lcmp, ix_dup, ix_dup2, ix_pop, ix_if, ix_cmp, ix_goto, ix_switch, ix_sw, ix_iret, ix_zret, ix_vret, ix_aret, ix_geti, ix_getr, ix_puti, ix_putz, ix_puts, ix_gets, ix_iald, ix_iast, ix_alen, ix_aald, ix_gval, ix_gcod, ix_bald, ix_blen, ix_sald, ix_nret, ix_math2, ix_math1, ix_acopy, Nat.add_assoc, Int32.reduceLT, Int32.reduceLE, Int32.reduceToNatClampNeg, Int32.reduceSub, Int32.reduceAdd, Nat.reduceAdd, Nat.reduceLeDiff, true_or, or_true, or_false, false_or, not_false_eq_true, not_true_eq_false, false_implies, true_implies, implies_true, and_self, mB_0, mB_01, Classical.not_not, Nat.zero_le, List.getElem?_cons_zero, List.getElem?_cons_succ, List.set_cons_zero, List.set_cons_succ, ix_nl, ix_cs, true_and, and_true, Option.toList_some, Option.toList_none, List.cons_append, List.nil_append, S1, S2, S3, S4, Sc, c1, c0, ix_up_ne, ix_up_k, ve_1, ve_2, ve_3, ve_4, ve_5]
            refine hQ _ _ ?_
            simp (decide := true) only [e_X11_sheet_0, e_X11_sheet_1, e_X11_sheet_4, e_X11_sheet_7, e_X11_sheet_8, e_X11_sheet_11, e_X11_sheet_12, e_X11_sheet_14, e_X11_sheet_17, e_X11_sheet_18, e_X11_sheet_20, e_X11_sheet_23, e_X11_sheet_24, e_X11_sheet_26, e_X11_sheet_29, e_X11_sheet_30, e_X11_sheet_32, e_X11_sheet_35, e_X11_sheet_36, e_X11_sheet_37, e_X11_sheet_40, e_X11_sheet_41, e_X11_sheet_44, e_X11_sheet_45, e_X11_sheet_47, e_X11_sheet_50, e_X11_sheet_51, e_X11_sheet_52, e_X11_sheet_55, e_X11_sheet_56, e_X11_sheet_58, e_X11_sheet_61, e_X11_sheet_62, e_X11_sheet_64, e_X11_sheet_67, e_X11_sheet_68, e_X11_sheet_69, e_X11_sheet_72, e_X11_sheet_73, e_X11_sheet_74, e_X11_sheet_75, e_X11_sheet_76, e_X11_sheet_79, e_X11_sheet_80, e_X11_sheet_81, e_X11_sheet_84, e_X11_sheet_85, e_X11_sheet_88, e_X11_sheet_89, e_X11_sheet_90, e_X11_sheet_91, e_X11_sheet_95, e_X11_sheet_97, e_X11_sheet_100, e_X11_sheet_101, e_X11_sheet_104, e_X11_sheet_106, e_X11_sheet_107, e_X11_sheet_108, e_X11_sheet_110, e_X11_sheet_111, e_X11_sheet_112, e_X11_sheet_113, e_X11_sheet_116, e_X11_sheet_119, e_X11_sheet_120, vi, vl, vr, oc_X11_finding, T_X11_finding, oc_X11_isSheet, T_X11_isSheet, ix_push, ix_iload, ix_lload, ix_aload, ix_istore, ix_astore, ix_iinc, ix_bin, ix_div, ix_un, ix_i2l, ix_l2i, ix_lbin, ix_lsh, ix_lcmp, ix_dup, ix_dup2, ix_pop, ix_if, ix_cmp, ix_goto, ix_switch, ix_sw, ix_iret, ix_zret, ix_vret, ix_aret, ix_geti, ix_getr, ix_puti, ix_putz, ix_puts, ix_gets, ix_iald, ix_iast, ix_alen, ix_aald, ix_gval, ix_gcod, ix_bald, ix_blen, ix_sald, ix_nret, ix_math2, ix_math1, ix_acopy, ml_113, ml_114, ml_115, ml_116, ml_118, ml_119, ml_120, ml_121, ml_122, ml_123, ml_124, ml_125, ml_126, mv_0, mv_1, mv_2, mv_3, mv_4, mv_5, mB_or, Nat.add_assoc, Int32.reduceLT, Int32.reduceLE, Int32.reduceToNatClampNeg, Int32.reduceSub, Int32.reduceAdd, Nat.reduceAdd, Nat.reduceLeDiff, true_or, or_true, or_false, false_or, not_false_eq_true, not_true_eq_false, false_implies, true_implies, implies_true, and_self, mB_0, mB_01, Classical.not_not, Nat.zero_le, List.getElem?_cons_zero, List.getElem?_cons_succ, List.set_cons_zero, List.set_cons_succ, ix_nl, ix_cs, true_and, and_true, Option.toList_some, Option.toList_none, List.cons_append, List.nil_append, S1, S2, S3, S4, Sc, c1, c0, ix_up_ne, ix_up_k, ve_1, ve_2, ve_3, ve_4, ve_5]
            repeat' (first | exact I.er 3 (by decide) | refine ⟨fun _ => ?_, fun _ => ?_⟩)
        · by_cases c2 : n ≤ 40
          · obtain ⟨K, hK, rfl⟩ := nI_of2 (n := 40) (M := 40) rfl c1 c2
            have c3 : ¬ 40 < nI K := Int32.not_lt.mpr c2
            have c0 : 0 ≤ nI K := Int32.not_lt.mp c1
            rcases hb with rfl | rfl | rfl
            · simp (decide := true) only [e_X10_sheet_0, e_X10_sheet_1, e_X10_sheet_2, e_X10_sheet_5, e_X10_sheet_8, e_X10_sheet_9, e_X10_sheet_12, e_X10_sheet_13, e_X10_sheet_15, e_X10_sheet_18, e_X10_sheet_19, e_X10_sheet_21, e_X10_sheet_24, e_X10_sheet_25, e_X10_sheet_27, e_X10_sheet_30, e_X10_sheet_31, e_X10_sheet_32, e_X10_sheet_35, e_X10_sheet_36, e_X10_sheet_37, e_X10_sheet_40, e_X10_sheet_41, e_X10_sheet_44, e_X10_sheet_45, e_X10_sheet_46, e_X10_sheet_49, e_X10_sheet_50, e_X10_sheet_51, e_X10_sheet_54, e_X10_sheet_55, e_X10_sheet_57, e_X10_sheet_60, e_X10_sheet_61, e_X10_sheet_62, e_X10_sheet_65, e_X10_sheet_66, e_X10_sheet_67, e_X10_sheet_70, e_X10_sheet_71, e_X10_sheet_72, e_X10_sheet_73, e_X10_sheet_74, e_X10_sheet_77, e_X10_sheet_78, e_X10_sheet_81, e_X10_sheet_82, e_X10_sheet_85, e_X10_sheet_86, vi, vl, vr, oc_X10_error, T_X10_error, oc_X10_outside, T_X10_outside, oc_X5_begin, T_X5_begin, ix_push, ix_iload, ix_lload, ix_aload, ix_istore, ix_astore, ix_iinc, ix_bin, ix_div, ix_un, ix_i2l, ix_l2i, ix_lbin, ix_lsh, ix_lcmp, ix_dup, ix_dup2, ix_pop, ix_if, ix_cmp, ix_goto, ix_switch, ix_sw, ix_iret, ix_zret, ix_vret, ix_aret, ix_geti, ix_getr, ix_puti, ix_putz, ix_puts, ix_gets, ix_iald, ix_iast, ix_alen, ix_aald, ix_gval, ix_gcod, ix_bald, ix_blen, ix_sald, ix_nret, ix_math2, ix_math1, ix_acopy, Nat.add_assoc, Int32.reduceLT, Int32.reduceLE, Int32.reduceToNatClampNeg, Int32.reduceSub, Int32.reduceAdd, Nat.reduceAdd, Nat.reduceLeDiff, true_or, or_true, or_false, false_or, not_false_eq_true, not_true_eq_false, false_implies, true_implies, implies_true, and_self, mB_0, mB_01, Classical.not_not, Nat.zero_le, List.getElem?_cons_zero, List.getElem?_cons_succ, List.set_cons_zero, List.set_cons_succ, ix_nl, ix_cs, true_and, and_true, Option.toList_some, Option.toList_none, List.cons_append, List.nil_append, S1, S2, S3, S4, Sc, v4, c0, c1, c2, c3, ix_up_ne, ix_up_k, ve_1, ve_2, ve_3, ve_4, ve_5]
              refine ⟨K, rfl, hK, fun μ1 F1 g1 g2 g3 => hQ _ _ ?_⟩
              simp (decide := true) only [e_X11_sheet_0, e_X11_sheet_1, e_X11_sheet_4, e_X11_sheet_7, e_X11_sheet_8, e_X11_sheet_11, e_X11_sheet_12, e_X11_sheet_14, e_X11_sheet_17, e_X11_sheet_18, e_X11_sheet_20, e_X11_sheet_23, e_X11_sheet_24, e_X11_sheet_26, e_X11_sheet_29, e_X11_sheet_30, e_X11_sheet_32, e_X11_sheet_35, e_X11_sheet_36, e_X11_sheet_37, e_X11_sheet_40, e_X11_sheet_41, e_X11_sheet_44, e_X11_sheet_45, e_X11_sheet_47, e_X11_sheet_50, e_X11_sheet_51, e_X11_sheet_52, e_X11_sheet_55, e_X11_sheet_56, e_X11_sheet_58, e_X11_sheet_61, e_X11_sheet_62, e_X11_sheet_64, e_X11_sheet_67, e_X11_sheet_68, e_X11_sheet_69, e_X11_sheet_72, e_X11_sheet_73, e_X11_sheet_74, e_X11_sheet_75, e_X11_sheet_76, e_X11_sheet_79, e_X11_sheet_80, e_X11_sheet_81, e_X11_sheet_84, e_X11_sheet_85, e_X11_sheet_88, e_X11_sheet_89, e_X11_sheet_90, e_X11_sheet_91, e_X11_sheet_95, e_X11_sheet_97, e_X11_sheet_100, e_X11_sheet_101, e_X11_sheet_104, e_X11_sheet_106, e_X11_sheet_107, e_X11_sheet_108, e_X11_sheet_110, e_X11_sheet_111, e_X11_sheet_112, e_X11_sheet_113, e_X11_sheet_116, e_X11_sheet_119, e_X11_sheet_120, vi, vl, vr, oc_X11_finding, T_X11_finding, oc_X11_isSheet, T_X11_isSheet, ix_push, ix_iload, ix_lload, ix_aload, ix_istore, ix_astore, ix_iinc, ix_bin, ix_div, ix_un, ix_i2l, ix_l2i, ix_lbin, ix_lsh, ix_lcmp, ix_dup, ix_dup2, ix_pop, ix_if, ix_cmp, ix_goto, ix_switch, ix_sw, ix_iret, ix_zret, ix_vret, ix_aret, ix_geti, ix_getr, ix_puti, ix_putz, ix_puts, ix_gets, ix_iald, ix_iast, ix_alen, ix_aald, ix_gval, ix_gcod, ix_bald, ix_blen, ix_sald, ix_nret, ix_math2, ix_math1, ix_acopy, ml_113, ml_114, ml_115, ml_116, ml_118, ml_119, ml_120, ml_121, ml_122, ml_123, ml_124, ml_125, ml_126, mv_0, mv_1, mv_2, mv_3, mv_4, mv_5, mB_or, Nat.add_assoc, Int32.reduceLT, Int32.reduceLE, Int32.reduceToNatClampNeg, Int32.reduceSub, Int32.reduceAdd, Nat.reduceAdd, Nat.reduceLeDiff, true_or, or_true, or_false, false_or, not_false_eq_true, not_true_eq_false, false_implies, true_implies, implies_true, and_self, mB_0, mB_01, Classical.not_not, Nat.zero_le, List.getElem?_cons_zero, List.getElem?_cons_succ, List.set_cons_zero, List.set_cons_succ, ix_nl, ix_cs, true_and, and_true, Option.toList_some, Option.toList_none, List.cons_append, List.nil_append, S1, S2, S3, S4, Sc, v4, c0, c1, c2, c3, ix_up_ne, ix_up_k, ve_1, ve_2, ve_3, ve_4, ve_5]
              exact l_X11_sheet (S := S) (by omega) (fun μ2 F2 g4 => pst rfl (I.shb (N := K) (by omega) hK F1 g1 g2 g3 F2 g4)) 40 0 _ rfl Fx.rf (fun j => by rw [if_neg (by omega)])
            · simp (decide := true) only [e_X10_sheet_0, e_X10_sheet_1, e_X10_sheet_2, e_X10_sheet_5, e_X10_sheet_8, e_X10_sheet_9, e_X10_sheet_12, e_X10_sheet_13, e_X10_sheet_15, e_X10_sheet_18, e_X10_sheet_19, e_X10_sheet_21, e_X10_sheet_24, e_X10_sheet_25, e_X10_sheet_27, e_X10_sheet_30, e_X10_sheet_31, e_X10_sheet_32, e_X10_sheet_35, e_X10_sheet_36, e_X10_sheet_37, e_X10_sheet_40, e_X10_sheet_41, e_X10_sheet_44, e_X10_sheet_45, e_X10_sheet_46, e_X10_sheet_49, e_X10_sheet_50, e_X10_sheet_51, e_X10_sheet_54, e_X10_sheet_55, e_X10_sheet_57, e_X10_sheet_60, e_X10_sheet_61, e_X10_sheet_62, e_X10_sheet_65, e_X10_sheet_66, e_X10_sheet_67, e_X10_sheet_70, e_X10_sheet_71, e_X10_sheet_72, e_X10_sheet_73, e_X10_sheet_74, e_X10_sheet_77, e_X10_sheet_78, e_X10_sheet_81, e_X10_sheet_82, e_X10_sheet_85, e_X10_sheet_86, vi, vl, vr, oc_X10_error, T_X10_error, oc_X10_outside, T_X10_outside, oc_X5_begin, T_X5_begin, ix_push, ix_iload, ix_lload, ix_aload, ix_istore, ix_astore, ix_iinc, ix_bin, ix_div, ix_un, ix_i2l, ix_l2i, ix_lbin, ix_lsh, ix_lcmp, ix_dup, ix_dup2, ix_pop, ix_if, ix_cmp, ix_goto, ix_switch, ix_sw, ix_iret, ix_zret, ix_vret, ix_aret, ix_geti, ix_getr, ix_puti, ix_putz, ix_puts, ix_gets, ix_iald, ix_iast, ix_alen, ix_aald, ix_gval, ix_gcod, ix_bald, ix_blen, ix_sald, ix_nret, ix_math2, ix_math1, ix_acopy, Nat.add_assoc, Int32.reduceLT, Int32.reduceLE, Int32.reduceToNatClampNeg, Int32.reduceSub, Int32.reduceAdd, Nat.reduceAdd, Nat.reduceLeDiff, true_or, or_true, or_false, false_or, not_false_eq_true, not_true_eq_false, false_implies, true_implies, implies_true, and_self, mB_0, mB_01, Classical.not_not, Nat.zero_le, List.getElem?_cons_zero, List.getElem?_cons_succ, List.set_cons_zero, List.set_cons_succ, ix_nl, ix_cs, true_and, and_true, Option.toList_some, Option.toList_none, List.cons_append, List.nil_append, S1, S2, S3, S4, Sc, v4, c0, c1, c2, c3, ix_up_ne, ix_up_k, ve_1, ve_2, ve_3, ve_4, ve_5]
              refine ⟨K, rfl, hK, fun μ1 F1 g1 g2 g3 => hQ _ _ ?_⟩
              simp (decide := true) only [e_X11_sheet_0, e_X11_sheet_1, e_X11_sheet_4, e_X11_sheet_7, e_X11_sheet_8, e_X11_sheet_11, e_X11_sheet_12, e_X11_sheet_14, e_X11_sheet_17, e_X11_sheet_18, e_X11_sheet_20, e_X11_sheet_23, e_X11_sheet_24, e_X11_sheet_26, e_X11_sheet_29, e_X11_sheet_30, e_X11_sheet_32, e_X11_sheet_35, e_X11_sheet_36, e_X11_sheet_37, e_X11_sheet_40, e_X11_sheet_41, e_X11_sheet_44, e_X11_sheet_45, e_X11_sheet_47, e_X11_sheet_50, e_X11_sheet_51, e_X11_sheet_52, e_X11_sheet_55, e_X11_sheet_56, e_X11_sheet_58, e_X11_sheet_61, e_X11_sheet_62, e_X11_sheet_64, e_X11_sheet_67, e_X11_sheet_68, e_X11_sheet_69, e_X11_sheet_72, e_X11_sheet_73, e_X11_sheet_74, e_X11_sheet_75, e_X11_sheet_76, e_X11_sheet_79, e_X11_sheet_80, e_X11_sheet_81, e_X11_sheet_84, e_X11_sheet_85, e_X11_sheet_88, e_X11_sheet_89, e_X11_sheet_90, e_X11_sheet_91, e_X11_sheet_95, e_X11_sheet_97, e_X11_sheet_100, e_X11_sheet_101, e_X11_sheet_104, e_X11_sheet_106, e_X11_sheet_107, e_X11_sheet_108, e_X11_sheet_110, e_X11_sheet_111, e_X11_sheet_112, e_X11_sheet_113, e_X11_sheet_116, e_X11_sheet_119, e_X11_sheet_120, vi, vl, vr, oc_X11_finding, T_X11_finding, oc_X11_isSheet, T_X11_isSheet, ix_push, ix_iload, ix_lload, ix_aload, ix_istore, ix_astore, ix_iinc, ix_bin, ix_div, ix_un, ix_i2l, ix_l2i, ix_lbin, ix_lsh, ix_lcmp, ix_dup, ix_dup2, ix_pop, ix_if, ix_cmp, ix_goto, ix_switch, ix_sw, ix_iret, ix_zret, ix_vret, ix_aret, ix_geti, ix_getr, ix_puti, ix_putz, ix_puts, ix_gets, ix_iald, ix_iast, ix_alen, ix_aald, ix_gval, ix_gcod, ix_bald, ix_blen, ix_sald, ix_nret, ix_math2, ix_math1, ix_acopy, ml_113, ml_114, ml_115, ml_116, ml_118, ml_119, ml_120, ml_121, ml_122, ml_123, ml_124, ml_125, ml_126, mv_0, mv_1, mv_2, mv_3, mv_4, mv_5, mB_or, Nat.add_assoc, Int32.reduceLT, Int32.reduceLE, Int32.reduceToNatClampNeg, Int32.reduceSub, Int32.reduceAdd, Nat.reduceAdd, Nat.reduceLeDiff, true_or, or_true, or_false, false_or, not_false_eq_true, not_true_eq_false, false_implies, true_implies, implies_true, and_self, mB_0, mB_01, Classical.not_not, Nat.zero_le, List.getElem?_cons_zero, List.getElem?_cons_succ, List.set_cons_zero, List.set_cons_succ, ix_nl, ix_cs, true_and, and_true, Option.toList_some, Option.toList_none, List.cons_append, List.nil_append, S1, S2, S3, S4, Sc, v4, c0, c1, c2, c3, ix_up_ne, ix_up_k, ve_1, ve_2, ve_3, ve_4, ve_5]
              exact l_X11_sheet (S := S) (by omega) (fun μ2 F2 g4 => pst rfl (I.shb (N := K) (by omega) hK F1 g1 g2 g3 F2 g4)) 40 0 _ rfl Fx.rf (fun j => by rw [if_neg (by omega)])
            · simp (decide := true) only [e_X10_sheet_0, e_X10_sheet_1, e_X10_sheet_2, e_X10_sheet_5, e_X10_sheet_8, e_X10_sheet_9, e_X10_sheet_12, e_X10_sheet_13, e_X10_sheet_15, e_X10_sheet_18, e_X10_sheet_19, e_X10_sheet_21, e_X10_sheet_24, e_X10_sheet_25, e_X10_sheet_27, e_X10_sheet_30, e_X10_sheet_31, e_X10_sheet_32, e_X10_sheet_35, e_X10_sheet_36, e_X10_sheet_37, e_X10_sheet_40, e_X10_sheet_41, e_X10_sheet_44, e_X10_sheet_45, e_X10_sheet_46, e_X10_sheet_49, e_X10_sheet_50, e_X10_sheet_51, e_X10_sheet_54, e_X10_sheet_55, e_X10_sheet_57, e_X10_sheet_60, e_X10_sheet_61, e_X10_sheet_62, e_X10_sheet_65, e_X10_sheet_66, e_X10_sheet_67, e_X10_sheet_70, e_X10_sheet_71, e_X10_sheet_72, e_X10_sheet_73, e_X10_sheet_74, e_X10_sheet_77, e_X10_sheet_78, e_X10_sheet_81, e_X10_sheet_82, e_X10_sheet_85, e_X10_sheet_86, vi, vl, vr, oc_X10_error, T_X10_error, oc_X10_outside, T_X10_outside, oc_X5_begin, T_X5_begin, ix_push, ix_iload, ix_lload, ix_aload, ix_istore, ix_astore, ix_iinc, ix_bin, ix_div, ix_un, ix_i2l, ix_l2i, ix_lbin, ix_lsh, ix_lcmp, ix_dup, ix_dup2, ix_pop, ix_if, ix_cmp, ix_goto, ix_switch, ix_sw, ix_iret, ix_zret, ix_vret, ix_aret, ix_geti, ix_getr, ix_puti, ix_putz, ix_puts, ix_gets, ix_iald, ix_iast, ix_alen, ix_aald, ix_gval, ix_gcod, ix_bald, ix_blen, ix_sald, ix_nret, ix_math2, ix_math1, ix_acopy, Nat.add_assoc, Int32.reduceLT, Int32.reduceLE, Int32.reduceToNatClampNeg, Int32.reduceSub, Int32.reduceAdd, Nat.reduceAdd, Nat.reduceLeDiff, true_or, or_true, or_false, false_or, not_false_eq_true, not_true_eq_false, false_implies, true_implies, implies_true, and_self, mB_0, mB_01, Classical.not_not, Nat.zero_le, List.getElem?_cons_zero, List.getElem?_cons_succ, List.set_cons_zero, List.set_cons_succ, ix_nl, ix_cs, true_and, and_true, Option.toList_some, Option.toList_none, List.cons_append, List.nil_append, S1, S2, S3, S4, Sc, v4, c0, c1, c2, c3, ix_up_ne, ix_up_k, ve_1, ve_2, ve_3, ve_4, ve_5]
              refine ⟨K, rfl, hK, fun μ1 F1 g1 g2 g3 => hQ _ _ ?_⟩
              simp (decide := true) only [e_X11_sheet_0, e_X11_sheet_1, e_X11_sheet_4, e_X11_sheet_7, e_X11_sheet_8, e_X11_sheet_11, e_X11_sheet_12, e_X11_sheet_14, e_X11_sheet_17, e_X11_sheet_18, e_X11_sheet_20, e_X11_sheet_23, e_X11_sheet_24, e_X11_sheet_26, e_X11_sheet_29, e_X11_sheet_30, e_X11_sheet_32, e_X11_sheet_35, e_X11_sheet_36, e_X11_sheet_37, e_X11_sheet_40, e_X11_sheet_41, e_X11_sheet_44, e_X11_sheet_45, e_X11_sheet_47, e_X11_sheet_50, e_X11_sheet_51, e_X11_sheet_52, e_X11_sheet_55, e_X11_sheet_56, e_X11_sheet_58, e_X11_sheet_61, e_X11_sheet_62, e_X11_sheet_64, e_X11_sheet_67, e_X11_sheet_68, e_X11_sheet_69, e_X11_sheet_72, e_X11_sheet_73, e_X11_sheet_74, e_X11_sheet_75, e_X11_sheet_76, e_X11_sheet_79, e_X11_sheet_80, e_X11_sheet_81, e_X11_sheet_84, e_X11_sheet_85, e_X11_sheet_88, e_X11_sheet_89, e_X11_sheet_90, e_X11_sheet_91, e_X11_sheet_95, e_X11_sheet_97, e_X11_sheet_100, e_X11_sheet_101, e_X11_sheet_104, e_X11_sheet_106, e_X11_sheet_107, e_X11_sheet_108, e_X11_sheet_110, e_X11_sheet_111, e_X11_sheet_112, e_X11_sheet_113, e_X11_sheet_116, e_X11_sheet_119, e_X11_sheet_120, vi, vl, vr, oc_X11_finding, T_X11_finding, oc_X11_isSheet, T_X11_isSheet, ix_push, ix_iload, ix_lload, ix_aload, ix_istore, ix_astore, ix_iinc, ix_bin, ix_div, ix_un, ix_i2l, ix_l2i, ix_lbin, ix_lsh, ix_lcmp, ix_dup, ix_dup2, ix_pop, ix_if, ix_cmp, ix_goto, ix_switch, ix_sw, ix_iret, ix_zret, ix_vret, ix_aret, ix_geti, ix_getr, ix_puti, ix_putz, ix_puts, ix_gets, ix_iald, ix_iast, ix_alen, ix_aald, ix_gval, ix_gcod, ix_bald, ix_blen, ix_sald, ix_nret, ix_math2, ix_math1, ix_acopy, ml_113, ml_114, ml_115, ml_116, ml_118, ml_119, ml_120, ml_121, ml_122, ml_123, ml_124, ml_125, ml_126, mv_0, mv_1, mv_2, mv_3, mv_4, mv_5, mB_or, Nat.add_assoc, Int32.reduceLT, Int32.reduceLE, Int32.reduceToNatClampNeg, Int32.reduceSub, Int32.reduceAdd, Nat.reduceAdd, Nat.reduceLeDiff, true_or, or_true, or_false, false_or, not_false_eq_true, not_true_eq_false, false_implies, true_implies, implies_true, and_self, mB_0, mB_01, Classical.not_not, Nat.zero_le, List.getElem?_cons_zero, List.getElem?_cons_succ, List.set_cons_zero, List.set_cons_succ, ix_nl, ix_cs, true_and, and_true, Option.toList_some, Option.toList_none, List.cons_append, List.nil_append, S1, S2, S3, S4, Sc, v4, c0, c1, c2, c3, ix_up_ne, ix_up_k, ve_1, ve_2, ve_3, ve_4, ve_5]
              exact l_X11_sheet (S := S) (by omega) (fun μ2 F2 g4 => pst rfl (I.shb (N := K) (by omega) hK F1 g1 g2 g3 F2 g4)) 40 0 _ rfl Fx.rf (fun j => by rw [if_neg (by omega)])
          · have c3 : 40 < n := Int32.not_le.mp c2
            have c0 : 0 ≤ n := Int32.not_lt.mp c1
            rcases hb with rfl | rfl | rfl
            · simp (decide := true) only [e_X10_sheet_0, e_X10_sheet_1, e_X10_sheet_2, e_X10_sheet_5, e_X10_sheet_8, e_X10_sheet_9, e_X10_sheet_12, e_X10_sheet_13, e_X10_sheet_15, e_X10_sheet_18, e_X10_sheet_19, e_X10_sheet_21, e_X10_sheet_24, e_X10_sheet_25, e_X10_sheet_27, e_X10_sheet_30, e_X10_sheet_31, e_X10_sheet_32, e_X10_sheet_35, e_X10_sheet_36, e_X10_sheet_37, e_X10_sheet_40, e_X10_sheet_41, e_X10_sheet_44, e_X10_sheet_45, e_X10_sheet_46, e_X10_sheet_49, e_X10_sheet_50, e_X10_sheet_51, e_X10_sheet_54, e_X10_sheet_55, e_X10_sheet_57, e_X10_sheet_60, e_X10_sheet_61, e_X10_sheet_62, e_X10_sheet_65, e_X10_sheet_66, e_X10_sheet_67, e_X10_sheet_70, e_X10_sheet_71, e_X10_sheet_72, e_X10_sheet_73, e_X10_sheet_74, e_X10_sheet_77, e_X10_sheet_78, e_X10_sheet_81, e_X10_sheet_82, e_X10_sheet_85, e_X10_sheet_86, vi, vl, vr, oc_X10_error, T_X10_error, oc_X10_outside, T_X10_outside, oc_X5_begin, T_X5_begin, ix_push, ix_iload, ix_lload, ix_aload, ix_istore, ix_astore, ix_iinc, ix_bin, ix_div, ix_un, ix_i2l, ix_l2i, ix_lbin, ix_lsh, ix_lcmp, ix_dup, ix_dup2, ix_pop, ix_if, ix_cmp, ix_goto, ix_switch, ix_sw, ix_iret, ix_zret, ix_vret, ix_aret, ix_geti, ix_getr, ix_puti, ix_putz, ix_puts, ix_gets, ix_iald, ix_iast, ix_alen, ix_aald, ix_gval, ix_gcod, ix_bald, ix_blen, ix_sald, ix_nret, ix_math2, ix_math1, ix_acopy, Nat.add_assoc, Int32.reduceLT, Int32.reduceLE, Int32.reduceToNatClampNeg, Int32.reduceSub, Int32.reduceAdd, Nat.reduceAdd, Nat.reduceLeDiff, true_or, or_true, or_false, false_or, not_false_eq_true, not_true_eq_false, false_implies, true_implies, implies_true, and_self, mB_0, mB_01, Classical.not_not, Nat.zero_le, List.getElem?_cons_zero, List.getElem?_cons_succ, List.set_cons_zero, List.set_cons_succ, ix_nl, ix_cs, true_and, and_true, Option.toList_some, Option.toList_none, List.cons_append, List.nil_append, S1, S2, S3, S4, Sc, c0, c1, c2, c3, ix_up_ne, ix_up_k, ve_1, ve_2, ve_3, ve_4, ve_5]
              refine hQ _ _ ?_
              simp (decide := true) only [e_X11_sheet_0, e_X11_sheet_1, e_X11_sheet_4, e_X11_sheet_7, e_X11_sheet_8, e_X11_sheet_11, e_X11_sheet_12, e_X11_sheet_14, e_X11_sheet_17, e_X11_sheet_18, e_X11_sheet_20, e_X11_sheet_23, e_X11_sheet_24, e_X11_sheet_26, e_X11_sheet_29, e_X11_sheet_30, e_X11_sheet_32, e_X11_sheet_35, e_X11_sheet_36, e_X11_sheet_37, e_X11_sheet_40, e_X11_sheet_41, e_X11_sheet_44, e_X11_sheet_45, e_X11_sheet_47, e_X11_sheet_50, e_X11_sheet_51, e_X11_sheet_52, e_X11_sheet_55, e_X11_sheet_56, e_X11_sheet_58, e_X11_sheet_61, e_X11_sheet_62, e_X11_sheet_64, e_X11_sheet_67, e_X11_sheet_68, e_X11_sheet_69, e_X11_sheet_72, e_X11_sheet_73, e_X11_sheet_74, e_X11_sheet_75, e_X11_sheet_76, e_X11_sheet_79, e_X11_sheet_80, e_X11_sheet_81, e_X11_sheet_84, e_X11_sheet_85, e_X11_sheet_88, e_X11_sheet_89, e_X11_sheet_90, e_X11_sheet_91, e_X11_sheet_95, e_X11_sheet_97, e_X11_sheet_100, e_X11_sheet_101, e_X11_sheet_104, e_X11_sheet_106, e_X11_sheet_107, e_X11_sheet_108, e_X11_sheet_110, e_X11_sheet_111, e_X11_sheet_112, e_X11_sheet_113, e_X11_sheet_116, e_X11_sheet_119, e_X11_sheet_120, vi, vl, vr, oc_X11_finding, T_X11_finding, oc_X11_isSheet, T_X11_isSheet, ix_push, ix_iload, ix_lload, ix_aload, ix_istore, ix_astore, ix_iinc, ix_bin, ix_div, ix_un, ix_i2l, ix_l2i, ix_lbin, ix_lsh, ix_lcmp, ix_dup, ix_dup2, ix_pop, ix_if, ix_cmp, ix_goto, ix_switch, ix_sw, ix_iret, ix_zret, ix_vret, ix_aret, ix_geti, ix_getr, ix_puti, ix_putz, ix_puts, ix_gets, ix_iald, ix_iast, ix_alen, ix_aald, ix_gval, ix_gcod, ix_bald, ix_blen, ix_sald, ix_nret, ix_math2, ix_math1, ix_acopy, ml_113, ml_114, ml_115, ml_116, ml_118, ml_119, ml_120, ml_121, ml_122, ml_123, ml_124, ml_125, ml_126, mv_0, mv_1, mv_2, mv_3, mv_4, mv_5, mB_or, Nat.add_assoc, Int32.reduceLT, Int32.reduceLE, Int32.reduceToNatClampNeg, Int32.reduceSub, Int32.reduceAdd, Nat.reduceAdd, Nat.reduceLeDiff, true_or, or_true, or_false, false_or, not_false_eq_true, not_true_eq_false, false_implies, true_implies, implies_true, and_self, mB_0, mB_01, Classical.not_not, Nat.zero_le, List.getElem?_cons_zero, List.getElem?_cons_succ, List.set_cons_zero, List.set_cons_succ, ix_nl, ix_cs, true_and, and_true, Option.toList_some, Option.toList_none, List.cons_append, List.nil_append, S1, S2, S3, S4, Sc, c0, c1, c2, c3, ix_up_ne, ix_up_k, ve_1, ve_2, ve_3, ve_4, ve_5]
              repeat' (first | exact I.er 1 (by decide) | refine ⟨fun _ => ?_, fun _ => ?_⟩)
            · simp (decide := true) only [e_X10_sheet_0, e_X10_sheet_1, e_X10_sheet_2, e_X10_sheet_5, e_X10_sheet_8, e_X10_sheet_9, e_X10_sheet_12, e_X10_sheet_13, e_X10_sheet_15, e_X10_sheet_18, e_X10_sheet_19, e_X10_sheet_21, e_X10_sheet_24, e_X10_sheet_25, e_X10_sheet_27, e_X10_sheet_30, e_X10_sheet_31, e_X10_sheet_32, e_X10_sheet_35, e_X10_sheet_36, e_X10_sheet_37, e_X10_sheet_40, e_X10_sheet_41, e_X10_sheet_44, e_X10_sheet_45, e_X10_sheet_46, e_X10_sheet_49, e_X10_sheet_50, e_X10_sheet_51, e_X10_sheet_54, e_X10_sheet_55, e_X10_sheet_57, e_X10_sheet_60, e_X10_sheet_61, e_X10_sheet_62, e_X10_sheet_65, e_X10_sheet_66, e_X10_sheet_67, e_X10_sheet_70, e_X10_sheet_71, e_X10_sheet_72, e_X10_sheet_73, e_X10_sheet_74, e_X10_sheet_77, e_X10_sheet_78, e_X10_sheet_81, e_X10_sheet_82, e_X10_sheet_85, e_X10_sheet_86, vi, vl, vr, oc_X10_error, T_X10_error, oc_X10_outside, T_X10_outside, oc_X5_begin, T_X5_begin, ix_push, ix_iload, ix_lload, ix_aload, ix_istore, ix_astore, ix_iinc, ix_bin, ix_div, ix_un, ix_i2l, ix_l2i, ix_lbin, ix_lsh, ix_lcmp, ix_dup, ix_dup2, ix_pop, ix_if, ix_cmp, ix_goto, ix_switch, ix_sw, ix_iret, ix_zret, ix_vret, ix_aret, ix_geti, ix_getr, ix_puti, ix_putz, ix_puts, ix_gets, ix_iald, ix_iast, ix_alen, ix_aald, ix_gval, ix_gcod, ix_bald, ix_blen, ix_sald, ix_nret, ix_math2, ix_math1, ix_acopy, Nat.add_assoc, Int32.reduceLT, Int32.reduceLE, Int32.reduceToNatClampNeg, Int32.reduceSub, Int32.reduceAdd, Nat.reduceAdd, Nat.reduceLeDiff, true_or, or_true, or_false, false_or, not_false_eq_true, not_true_eq_false, false_implies, true_implies, implies_true, and_self, mB_0, mB_01, Classical.not_not, Nat.zero_le, List.getElem?_cons_zero, List.getElem?_cons_succ, List.set_cons_zero, List.set_cons_succ, ix_nl, ix_cs, true_and, and_true, Option.toList_some, Option.toList_none, List.cons_append, List.nil_append, S1, S2, S3, S4, Sc, c0, c1, c2, c3, ix_up_ne, ix_up_k, ve_1, ve_2, ve_3, ve_4, ve_5]
              refine hQ _ _ ?_
              simp (decide := true) only [e_X11_sheet_0, e_X11_sheet_1, e_X11_sheet_4, e_X11_sheet_7, e_X11_sheet_8, e_X11_sheet_11, e_X11_sheet_12, e_X11_sheet_14, e_X11_sheet_17, e_X11_sheet_18, e_X11_sheet_20, e_X11_sheet_23, e_X11_sheet_24, e_X11_sheet_26, e_X11_sheet_29, e_X11_sheet_30, e_X11_sheet_32, e_X11_sheet_35, e_X11_sheet_36, e_X11_sheet_37, e_X11_sheet_40, e_X11_sheet_41, e_X11_sheet_44, e_X11_sheet_45, e_X11_sheet_47, e_X11_sheet_50, e_X11_sheet_51, e_X11_sheet_52, e_X11_sheet_55, e_X11_sheet_56, e_X11_sheet_58, e_X11_sheet_61, e_X11_sheet_62, e_X11_sheet_64, e_X11_sheet_67, e_X11_sheet_68, e_X11_sheet_69, e_X11_sheet_72, e_X11_sheet_73, e_X11_sheet_74, e_X11_sheet_75, e_X11_sheet_76, e_X11_sheet_79, e_X11_sheet_80, e_X11_sheet_81, e_X11_sheet_84, e_X11_sheet_85, e_X11_sheet_88, e_X11_sheet_89, e_X11_sheet_90, e_X11_sheet_91, e_X11_sheet_95, e_X11_sheet_97, e_X11_sheet_100, e_X11_sheet_101, e_X11_sheet_104, e_X11_sheet_106, e_X11_sheet_107, e_X11_sheet_108, e_X11_sheet_110, e_X11_sheet_111, e_X11_sheet_112, e_X11_sheet_113, e_X11_sheet_116, e_X11_sheet_119, e_X11_sheet_120, vi, vl, vr, oc_X11_finding, T_X11_finding, oc_X11_isSheet, T_X11_isSheet, ix_push, ix_iload, ix_lload, ix_aload, ix_istore, ix_astore, ix_iinc, ix_bin, ix_div, ix_un, ix_i2l, ix_l2i, ix_lbin, ix_lsh, ix_lcmp, ix_dup, ix_dup2, ix_pop, ix_if, ix_cmp, ix_goto, ix_switch, ix_sw, ix_iret, ix_zret, ix_vret, ix_aret, ix_geti, ix_getr, ix_puti, ix_putz, ix_puts, ix_gets, ix_iald, ix_iast, ix_alen, ix_aald, ix_gval, ix_gcod, ix_bald, ix_blen, ix_sald, ix_nret, ix_math2, ix_math1, ix_acopy, ml_113, ml_114, ml_115, ml_116, ml_118, ml_119, ml_120, ml_121, ml_122, ml_123, ml_124, ml_125, ml_126, mv_0, mv_1, mv_2, mv_3, mv_4, mv_5, mB_or, Nat.add_assoc, Int32.reduceLT, Int32.reduceLE, Int32.reduceToNatClampNeg, Int32.reduceSub, Int32.reduceAdd, Nat.reduceAdd, Nat.reduceLeDiff, true_or, or_true, or_false, false_or, not_false_eq_true, not_true_eq_false, false_implies, true_implies, implies_true, and_self, mB_0, mB_01, Classical.not_not, Nat.zero_le, List.getElem?_cons_zero, List.getElem?_cons_succ, List.set_cons_zero, List.set_cons_succ, ix_nl, ix_cs, true_and, and_true, Option.toList_some, Option.toList_none, List.cons_append, List.nil_append, S1, S2, S3, S4, Sc, c0, c1, c2, c3, ix_up_ne, ix_up_k, ve_1, ve_2, ve_3, ve_4, ve_5]
              repeat' (first | exact I.er 1 (by decide) | refine ⟨fun _ => ?_, fun _ => ?_⟩)
            · simp (decide := true) only [e_X10_sheet_0, e_X10_sheet_1, e_X10_sheet_2, e_X10_sheet_5, e_X10_sheet_8, e_X10_sheet_9, e_X10_sheet_12, e_X10_sheet_13, e_X10_sheet_15, e_X10_sheet_18, e_X10_sheet_19, e_X10_sheet_21, e_X10_sheet_24, e_X10_sheet_25, e_X10_sheet_27, e_X10_sheet_30, e_X10_sheet_31, e_X10_sheet_32, e_X10_sheet_35, e_X10_sheet_36, e_X10_sheet_37, e_X10_sheet_40, e_X10_sheet_41, e_X10_sheet_44, e_X10_sheet_45, e_X10_sheet_46, e_X10_sheet_49, e_X10_sheet_50, e_X10_sheet_51, e_X10_sheet_54, e_X10_sheet_55, e_X10_sheet_57, e_X10_sheet_60, e_X10_sheet_61, e_X10_sheet_62, e_X10_sheet_65, e_X10_sheet_66, e_X10_sheet_67, e_X10_sheet_70, e_X10_sheet_71, e_X10_sheet_72, e_X10_sheet_73, e_X10_sheet_74, e_X10_sheet_77, e_X10_sheet_78, e_X10_sheet_81, e_X10_sheet_82, e_X10_sheet_85, e_X10_sheet_86, vi, vl, vr, oc_X10_error, T_X10_error, oc_X10_outside, T_X10_outside, oc_X5_begin, T_X5_begin, ix_push, ix_iload, ix_lload, ix_aload, ix_istore, ix_astore, ix_iinc, ix_bin, ix_div, ix_un, ix_i2l, ix_l2i, ix_lbin, ix_lsh, ix_lcmp, ix_dup, ix_dup2, ix_pop, ix_if, ix_cmp, ix_goto, ix_switch, ix_sw, ix_iret, ix_zret, ix_vret, ix_aret, ix_geti, ix_getr, ix_puti, ix_putz, ix_puts, ix_gets, ix_iald, ix_iast, ix_alen, ix_aald, ix_gval, ix_gcod, ix_bald, ix_blen, ix_sald, ix_nret, ix_math2, ix_math1, ix_acopy, Nat.add_assoc, Int32.reduceLT, Int32.reduceLE, Int32.reduceToNatClampNeg, Int32.reduceSub, Int32.reduceAdd, Nat.reduceAdd, Nat.reduceLeDiff, true_or, or_true, or_false, false_or, not_false_eq_true, not_true_eq_false, false_implies, true_implies, implies_true, and_self, mB_0, mB_01, Classical.not_not, Nat.zero_le, List.getElem?_cons_zero, List.getElem?_cons_succ, List.set_cons_zero, List.set_cons_succ, ix_nl, ix_cs, true_and, and_true, Option.toList_some, Option.toList_none, List.cons_append, List.nil_append, S1, S2, S3, S4, Sc, c0, c1, c2, c3, ix_up_ne, ix_up_k, ve_1, ve_2, ve_3, ve_4, ve_5]
              refine hQ _ _ ?_
              simp (decide := true) only [e_X11_sheet_0, e_X11_sheet_1, e_X11_sheet_4, e_X11_sheet_7, e_X11_sheet_8, e_X11_sheet_11, e_X11_sheet_12, e_X11_sheet_14, e_X11_sheet_17, e_X11_sheet_18, e_X11_sheet_20, e_X11_sheet_23, e_X11_sheet_24, e_X11_sheet_26, e_X11_sheet_29, e_X11_sheet_30, e_X11_sheet_32, e_X11_sheet_35, e_X11_sheet_36, e_X11_sheet_37, e_X11_sheet_40, e_X11_sheet_41, e_X11_sheet_44, e_X11_sheet_45, e_X11_sheet_47, e_X11_sheet_50, e_X11_sheet_51, e_X11_sheet_52, e_X11_sheet_55, e_X11_sheet_56, e_X11_sheet_58, e_X11_sheet_61, e_X11_sheet_62, e_X11_sheet_64, e_X11_sheet_67, e_X11_sheet_68, e_X11_sheet_69, e_X11_sheet_72, e_X11_sheet_73, e_X11_sheet_74, e_X11_sheet_75, e_X11_sheet_76, e_X11_sheet_79, e_X11_sheet_80, e_X11_sheet_81, e_X11_sheet_84, e_X11_sheet_85, e_X11_sheet_88, e_X11_sheet_89, e_X11_sheet_90, e_X11_sheet_91, e_X11_sheet_95, e_X11_sheet_97, e_X11_sheet_100, e_X11_sheet_101, e_X11_sheet_104, e_X11_sheet_106, e_X11_sheet_107, e_X11_sheet_108, e_X11_sheet_110, e_X11_sheet_111, e_X11_sheet_112, e_X11_sheet_113, e_X11_sheet_116, e_X11_sheet_119, e_X11_sheet_120, vi, vl, vr, oc_X11_finding, T_X11_finding, oc_X11_isSheet, T_X11_isSheet, ix_push, ix_iload, ix_lload, ix_aload, ix_istore, ix_astore, ix_iinc, ix_bin, ix_div, ix_un, ix_i2l, ix_l2i, ix_lbin, ix_lsh, ix_lcmp, ix_dup, ix_dup2, ix_pop, ix_if, ix_cmp, ix_goto, ix_switch, ix_sw, ix_iret, ix_zret, ix_vret, ix_aret, ix_geti, ix_getr, ix_puti, ix_putz, ix_puts, ix_gets, ix_iald, ix_iast, ix_alen, ix_aald, ix_gval, ix_gcod, ix_bald, ix_blen, ix_sald, ix_nret, ix_math2, ix_math1, ix_acopy, ml_113, ml_114, ml_115, ml_116, ml_118, ml_119, ml_120, ml_121, ml_122, ml_123, ml_124, ml_125, ml_126, mv_0, mv_1, mv_2, mv_3, mv_4, mv_5, mB_or, Nat.add_assoc, Int32.reduceLT, Int32.reduceLE, Int32.reduceToNatClampNeg, Int32.reduceSub, Int32.reduceAdd, Nat.reduceAdd, Nat.reduceLeDiff, true_or, or_true, or_false, false_or, not_false_eq_true, not_true_eq_false, false_implies, true_implies, implies_true, and_self, mB_0, mB_01, Classical.not_not, Nat.zero_le, List.getElem?_cons_zero, List.getElem?_cons_succ, List.set_cons_zero, List.set_cons_succ, ix_nl, ix_cs, true_and, and_true, Option.toList_some, Option.toList_none, List.cons_append, List.nil_append, S1, S2, S3, S4, Sc, c0, c1, c2, c3, ix_up_ne, ix_up_k, ve_1, ve_2, ve_3, ve_4, ve_5]
              repeat' (first | exact I.er 1 (by decide) | refine ⟨fun _ => ?_, fun _ => ?_⟩)
      · have b1 : ¬ b = 8 := fun z => hb (Or.inl z)
        have b2 : ¬ b = 16 := fun z => hb (Or.inr (Or.inl z))
        have b3 : ¬ b = 32 := fun z => hb (Or.inr (Or.inr z))
        simp (decide := true) only [e_X10_sheet_0, e_X10_sheet_1, e_X10_sheet_2, e_X10_sheet_5, e_X10_sheet_8, e_X10_sheet_9, e_X10_sheet_12, e_X10_sheet_13, e_X10_sheet_15, e_X10_sheet_18, e_X10_sheet_19, e_X10_sheet_21, e_X10_sheet_24, e_X10_sheet_25, e_X10_sheet_27, e_X10_sheet_30, e_X10_sheet_31, e_X10_sheet_32, e_X10_sheet_35, e_X10_sheet_36, e_X10_sheet_37, e_X10_sheet_40, e_X10_sheet_41, e_X10_sheet_44, e_X10_sheet_45, e_X10_sheet_46, e_X10_sheet_49, e_X10_sheet_50, e_X10_sheet_51, e_X10_sheet_54, e_X10_sheet_55, e_X10_sheet_57, e_X10_sheet_60, e_X10_sheet_61, e_X10_sheet_62, e_X10_sheet_65, e_X10_sheet_66, e_X10_sheet_67, e_X10_sheet_70, e_X10_sheet_71, e_X10_sheet_72, e_X10_sheet_73, e_X10_sheet_74, e_X10_sheet_77, e_X10_sheet_78, e_X10_sheet_81, e_X10_sheet_82, e_X10_sheet_85, e_X10_sheet_86, vi, vl, vr, oc_X10_error, T_X10_error, oc_X10_outside, T_X10_outside, oc_X5_begin, T_X5_begin, ix_push, ix_iload, ix_lload, ix_aload, ix_istore, ix_astore, ix_iinc, ix_bin, ix_div, ix_un, ix_i2l, ix_l2i, ix_lbin, ix_lsh, ix_lcmp, ix_dup, ix_dup2, ix_pop, ix_if, ix_cmp, ix_goto, ix_switch, ix_sw, ix_iret, ix_zret, ix_vret, ix_aret, ix_geti, ix_getr, ix_puti, ix_putz, ix_puts, ix_gets, ix_iald, ix_iast, ix_alen, ix_aald, ix_gval, ix_gcod, ix_bald, ix_blen, ix_sald, ix_nret, ix_math2, ix_math1, ix_acopy, Nat.add_assoc, Int32.reduceLT, Int32.reduceLE, Int32.reduceToNatClampNeg, Int32.reduceSub, Int32.reduceAdd, Nat.reduceAdd, Nat.reduceLeDiff, true_or, or_true, or_false, false_or, not_false_eq_true, not_true_eq_false, false_implies, true_implies, implies_true, and_self, mB_0, mB_01, Classical.not_not, Nat.zero_le, List.getElem?_cons_zero, List.getElem?_cons_succ, List.set_cons_zero, List.set_cons_succ, ix_nl, ix_cs, true_and, and_true, Option.toList_some, Option.toList_none, List.cons_append, List.nil_append, S1, S2, S3, S4, Sc, b0, b1, b2, b3, ix_up_ne, ix_up_k, ve_1, ve_2, ve_3, ve_4, ve_5]
        refine hQ _ _ ?_
        simp (decide := true) only [e_X11_sheet_0, e_X11_sheet_1, e_X11_sheet_4, e_X11_sheet_7, e_X11_sheet_8, e_X11_sheet_11, e_X11_sheet_12, e_X11_sheet_14, e_X11_sheet_17, e_X11_sheet_18, e_X11_sheet_20, e_X11_sheet_23, e_X11_sheet_24, e_X11_sheet_26, e_X11_sheet_29, e_X11_sheet_30, e_X11_sheet_32, e_X11_sheet_35, e_X11_sheet_36, e_X11_sheet_37, e_X11_sheet_40, e_X11_sheet_41, e_X11_sheet_44, e_X11_sheet_45, e_X11_sheet_47, e_X11_sheet_50, e_X11_sheet_51, e_X11_sheet_52, e_X11_sheet_55, e_X11_sheet_56, e_X11_sheet_58, e_X11_sheet_61, e_X11_sheet_62, e_X11_sheet_64, e_X11_sheet_67, e_X11_sheet_68, e_X11_sheet_69, e_X11_sheet_72, e_X11_sheet_73, e_X11_sheet_74, e_X11_sheet_75, e_X11_sheet_76, e_X11_sheet_79, e_X11_sheet_80, e_X11_sheet_81, e_X11_sheet_84, e_X11_sheet_85, e_X11_sheet_88, e_X11_sheet_89, e_X11_sheet_90, e_X11_sheet_91, e_X11_sheet_95, e_X11_sheet_97, e_X11_sheet_100, e_X11_sheet_101, e_X11_sheet_104, e_X11_sheet_106, e_X11_sheet_107, e_X11_sheet_108, e_X11_sheet_110, e_X11_sheet_111, e_X11_sheet_112, e_X11_sheet_113, e_X11_sheet_116, e_X11_sheet_119, e_X11_sheet_120, vi, vl, vr, oc_X11_finding, T_X11_finding, oc_X11_isSheet, T_X11_isSheet, ix_push, ix_iload, ix_lload, ix_aload, ix_istore, ix_astore, ix_iinc, ix_bin, ix_div, ix_un, ix_i2l, ix_l2i, ix_lbin, ix_lsh, ix_lcmp, ix_dup, ix_dup2, ix_pop, ix_if, ix_cmp, ix_goto, ix_switch, ix_sw, ix_iret, ix_zret, ix_vret, ix_aret, ix_geti, ix_getr, ix_puti, ix_putz, ix_puts, ix_gets, ix_iald, ix_iast, ix_alen, ix_aald, ix_gval, ix_gcod, ix_bald, ix_blen, ix_sald, ix_nret, ix_math2, ix_math1, ix_acopy, ml_113, ml_114, ml_115, ml_116, ml_118, ml_119, ml_120, ml_121, ml_122, ml_123, ml_124, ml_125, ml_126, mv_0, mv_1, mv_2, mv_3, mv_4, mv_5, mB_or, Nat.add_assoc, Int32.reduceLT, Int32.reduceLE, Int32.reduceToNatClampNeg, Int32.reduceSub, Int32.reduceAdd, Nat.reduceAdd, Nat.reduceLeDiff, true_or, or_true, or_false, false_or, not_false_eq_true, not_true_eq_false, false_implies, true_implies, implies_true, and_self, mB_0, mB_01, Classical.not_not, Nat.zero_le, List.getElem?_cons_zero, List.getElem?_cons_succ, List.set_cons_zero, List.set_cons_succ, ix_nl, ix_cs, true_and, and_true, Option.toList_some, Option.toList_none, List.cons_append, List.nil_append, S1, S2, S3, S4, Sc, b0, b1, b2, b3, ix_up_ne, ix_up_k, ve_1, ve_2, ve_3, ve_4, ve_5]
        repeat' (first | exact I.er 1 (by decide) | refine ⟨fun _ => ?_, fun _ => ?_⟩)
  · have hx1 : s < 0 ∨ (3 : Int32) < s := hx1
    have hx2 : ¬ (0 ≤ s ∧ s ≤ (3 : Int32)) := hx2
    simp (decide := true) only [e_X10_sheet_0, e_X10_sheet_1, e_X10_sheet_2, e_X10_sheet_5, e_X10_sheet_8, e_X10_sheet_9, e_X10_sheet_12, e_X10_sheet_13, e_X10_sheet_15, e_X10_sheet_18, e_X10_sheet_19, e_X10_sheet_21, e_X10_sheet_24, e_X10_sheet_25, e_X10_sheet_27, e_X10_sheet_30, e_X10_sheet_31, e_X10_sheet_32, e_X10_sheet_35, e_X10_sheet_36, e_X10_sheet_37, e_X10_sheet_40, e_X10_sheet_41, e_X10_sheet_44, e_X10_sheet_45, e_X10_sheet_46, e_X10_sheet_49, e_X10_sheet_50, e_X10_sheet_51, e_X10_sheet_54, e_X10_sheet_55, e_X10_sheet_57, e_X10_sheet_60, e_X10_sheet_61, e_X10_sheet_62, e_X10_sheet_65, e_X10_sheet_66, e_X10_sheet_67, e_X10_sheet_70, e_X10_sheet_71, e_X10_sheet_72, e_X10_sheet_73, e_X10_sheet_74, e_X10_sheet_77, e_X10_sheet_78, e_X10_sheet_81, e_X10_sheet_82, e_X10_sheet_85, e_X10_sheet_86, vi, vl, vr, oc_X10_error, T_X10_error, oc_X10_outside, T_X10_outside, oc_X5_begin, T_X5_begin, ix_push, ix_iload, ix_lload, ix_aload, ix_istore, ix_astore, ix_iinc, ix_bin, ix_div, ix_un, ix_i2l, ix_l2i, ix_lbin, ix_lsh, ix_lcmp, ix_dup, ix_dup2, ix_pop, ix_if, ix_cmp, ix_goto, ix_switch, ix_sw, ix_iret, ix_zret, ix_vret, ix_aret, ix_geti, ix_getr, ix_puti, ix_putz, ix_puts, ix_gets, ix_iald, ix_iast, ix_alen, ix_aald, ix_gval, ix_gcod, ix_bald, ix_blen, ix_sald, ix_nret, ix_math2, ix_math1, ix_acopy, Nat.add_assoc, Int32.reduceLT, Int32.reduceLE, Int32.reduceToNatClampNeg, Int32.reduceSub, Int32.reduceAdd, Nat.reduceAdd, Nat.reduceLeDiff, true_or, or_true, or_false, false_or, not_false_eq_true, not_true_eq_false, false_implies, true_implies, implies_true, and_self, mB_0, mB_01, Classical.not_not, Nat.zero_le, List.getElem?_cons_zero, List.getElem?_cons_succ, List.set_cons_zero, List.set_cons_succ, ix_nl, ix_cs, true_and, and_true, Option.toList_some, Option.toList_none, List.cons_append, List.nil_append, hx1, hx2, ix_up_ne, ix_up_k, ve_1, ve_2, ve_3, ve_4, ve_5]
    refine hQ _ _ ?_
    simp (decide := true) only [e_X11_sheet_0, e_X11_sheet_1, e_X11_sheet_4, e_X11_sheet_7, e_X11_sheet_8, e_X11_sheet_11, e_X11_sheet_12, e_X11_sheet_14, e_X11_sheet_17, e_X11_sheet_18, e_X11_sheet_20, e_X11_sheet_23, e_X11_sheet_24, e_X11_sheet_26, e_X11_sheet_29, e_X11_sheet_30, e_X11_sheet_32, e_X11_sheet_35, e_X11_sheet_36, e_X11_sheet_37, e_X11_sheet_40, e_X11_sheet_41, e_X11_sheet_44, e_X11_sheet_45, e_X11_sheet_47, e_X11_sheet_50, e_X11_sheet_51, e_X11_sheet_52, e_X11_sheet_55, e_X11_sheet_56, e_X11_sheet_58, e_X11_sheet_61, e_X11_sheet_62, e_X11_sheet_64, e_X11_sheet_67, e_X11_sheet_68, e_X11_sheet_69, e_X11_sheet_72, e_X11_sheet_73, e_X11_sheet_74, e_X11_sheet_75, e_X11_sheet_76, e_X11_sheet_79, e_X11_sheet_80, e_X11_sheet_81, e_X11_sheet_84, e_X11_sheet_85, e_X11_sheet_88, e_X11_sheet_89, e_X11_sheet_90, e_X11_sheet_91, e_X11_sheet_95, e_X11_sheet_97, e_X11_sheet_100, e_X11_sheet_101, e_X11_sheet_104, e_X11_sheet_106, e_X11_sheet_107, e_X11_sheet_108, e_X11_sheet_110, e_X11_sheet_111, e_X11_sheet_112, e_X11_sheet_113, e_X11_sheet_116, e_X11_sheet_119, e_X11_sheet_120, vi, vl, vr, oc_X11_finding, T_X11_finding, oc_X11_isSheet, T_X11_isSheet, ix_push, ix_iload, ix_lload, ix_aload, ix_istore, ix_astore, ix_iinc, ix_bin, ix_div, ix_un, ix_i2l, ix_l2i, ix_lbin, ix_lsh, ix_lcmp, ix_dup, ix_dup2, ix_pop, ix_if, ix_cmp, ix_goto, ix_switch, ix_sw, ix_iret, ix_zret, ix_vret, ix_aret, ix_geti, ix_getr, ix_puti, ix_putz, ix_puts, ix_gets, ix_iald, ix_iast, ix_alen, ix_aald, ix_gval, ix_gcod, ix_bald, ix_blen, ix_sald, ix_nret, ix_math2, ix_math1, ix_acopy, ml_113, ml_114, ml_115, ml_116, ml_118, ml_119, ml_120, ml_121, ml_122, ml_123, ml_124, ml_125, ml_126, mv_0, mv_1, mv_2, mv_3, mv_4, mv_5, mB_or, Nat.add_assoc, Int32.reduceLT, Int32.reduceLE, Int32.reduceToNatClampNeg, Int32.reduceSub, Int32.reduceAdd, Nat.reduceAdd, Nat.reduceLeDiff, true_or, or_true, or_false, false_or, not_false_eq_true, not_true_eq_false, false_implies, true_implies, implies_true, and_self, mB_0, mB_01, Classical.not_not, Nat.zero_le, List.getElem?_cons_zero, List.getElem?_cons_succ, List.set_cons_zero, List.set_cons_succ, ix_nl, ix_cs, true_and, and_true, Option.toList_some, Option.toList_none, List.cons_append, List.nil_append, hx1, hx2, ix_up_ne, ix_up_k, ve_1, ve_2, ve_3, ve_4, ve_5]
    repeat' (first | exact I.er 1 (by decide) | refine ⟨fun _ => ?_, fun _ => ?_⟩)
