/-! ===== calls, class against model: judge, put ===== -/
def o_X10_judge : List (Nat × ix_Op) := [
  (0, ix_iload 1 1),
  (1, ix_push (vi 3) 2),
  (2, oc_X10_outside 5),
  (5, ix_if (fun x => x = 0) 14 8),
  (8, ix_aload 0 9),
  (9, ix_push (vi 1) 10),
  (10, oc_X10_error 13),
  (13, ix_iret),
  (14, ix_aload 0 15),
  (15, ix_getr 9 22 (fun _ => 98) 18),
  (18, ix_iload 1 19),
  (19, ix_aald 22 98 4 4 (fun i => 99 + 3 * i) 20),
  (20, oc_X5_isMissing 23),
  (23, ix_if (fun x => x = 0) 32 26),
  (26, ix_aload 0 27),
  (27, ix_push (vi 2) 28),
  (28, oc_X10_error 31),
  (31, ix_iret),
  (32, ix_aload 0 33),
  (33, ix_getr 9 22 (fun _ => 98) 36),
  (36, ix_iload 1 37),
  (37, ix_aald 22 98 4 4 (fun i => 99 + 3 * i) 38),
  (38, ix_getr 4 3 (fun k => k + 1) 41),
  (41, ix_astore 2 42),
  (42, ix_aload 0 43),
  (43, ix_getr 9 5 (fun _ => 1) 46),
  (46, ix_getr 5 8 (fun k => k + 1) 49),
  (49, ix_geti 8 7 52),
  (52, ix_istore 3 53),
  (53, ix_push (vi 0) 54),
  (54, ix_istore 4 56),
  (56, ix_iload 4 58),
  (58, ix_iload 3 59),
  (59, ix_cmp (fun x y => y ≤ x) 102 62),
  (62, ix_aload 2 63),
  (63, ix_iload 4 65),
  (65, oc_X4_has 68),
  (68, ix_if (fun x => x = 0) 93 71),
  (71, ix_aload 2 72),
  (72, ix_iload 4 74),
  (74, oc_X4_get 77),
  (77, ix_aload 0 78),
  (78, ix_getr 9 5 (fun _ => 1) 81),
  (81, ix_getr 5 8 (fun k => k + 1) 84),
  (84, ix_getr 8 20 (fun k => k + 7) 87),
  (87, ix_iload 4 89),
  (89, ix_iald 90),
  (90, ix_cmp (fun x y => x = y) 96 93),
  (93, ix_iload 4 95),
  (95, ix_iret),
  (96, ix_iinc 4 1 99),
  (99, ix_goto 56),
  (102, ix_aload 2 103),
  (103, ix_geti 3 1 106),
  (106, ix_iload 3 107),
  (107, ix_cmp (fun x y => x ≤ y) 114 110),
  (110, ix_iload 3 111),
  (111, ix_goto 115),
  (114, ix_push (vi (-1)) 115),
  (115, ix_iret)]
set_option maxRecDepth 20000 in
theorem a_X10_judge (l : Launch) : ix_AllS l cX10_judge 5 RX10 60 (some .int) o_X10_judge :=
  .cons (ix_s_iload_n dX10_judge_0 rfl) <|
  .cons (ix_s_iconst dX10_judge_1 (by decide +kernel)) <|
  .cons (oc_X10_outside_s (ix_s_calls (k_X10_outside l) (by decide) (by decide) tw_291 tw_1 tw_289 tw_290 ⟨by decide, by decide, by decide +kernel⟩ (fun _ => rfl) dX10_judge_2)) <|
  .cons (ix_s_if_eq dX10_judge_5 (by decide)) <|
  .cons (ix_s_aload_n dX10_judge_8 rfl) <|
  .cons (ix_s_iconst dX10_judge_9 (by decide +kernel)) <|
  .cons (oc_X10_error_s (ix_s_callv (t := 9) (k_X10_error l) (by decide) (by decide) tw_295 tw_1 tw_292 tw_294 tp_0 ⟨by decide, by decide, by decide +kernel⟩ (by decide) rfl rfl (fun _ => ⟨_, _, rfl, rfl⟩) dX10_judge_10)) <|
  .cons (ix_s_iret dX10_judge_13 rfl) <|
  .cons (ix_s_aload_n dX10_judge_14 rfl) <|
  .cons (ix_s_getr (j := 7) tu_X10 rfl (by decide) (by decide) tw_258 rfl ts_9_7_r dX10_judge_15) <|
  .cons (ix_s_iload_n dX10_judge_18 rfl) <|
  .cons (ix_s_aald (E0 := ix_tys) (by decide) (by decide +kernel) (fun _ => rfl) (by decide +kernel) dX10_judge_19) <|
  .cons (oc_X5_isMissing_s (ix_s_callv (t := 4) (k_X5_isMissing l) (by decide) (by decide) tw_739 tw_11 tw_736 tw_737 tw_738 ⟨by decide, by decide, by decide +kernel⟩ (by decide) rfl rfl (fun _ => ⟨_, _, rfl, rfl⟩) dX10_judge_20)) <|
  .cons (ix_s_if_eq dX10_judge_23 (by decide)) <|
  .cons (ix_s_aload_n dX10_judge_26 rfl) <|
  .cons (ix_s_iconst dX10_judge_27 (by decide +kernel)) <|
  .cons (oc_X10_error_s (ix_s_callv (t := 9) (k_X10_error l) (by decide) (by decide) tw_295 tw_1 tw_292 tw_294 tp_0 ⟨by decide, by decide, by decide +kernel⟩ (by decide) rfl rfl (fun _ => ⟨_, _, rfl, rfl⟩) dX10_judge_28)) <|
  .cons (ix_s_iret dX10_judge_31 rfl) <|
  .cons (ix_s_aload_n dX10_judge_32 rfl) <|
  .cons (ix_s_getr (j := 7) tu_X10 rfl (by decide) (by decide) tw_258 rfl ts_9_7_r dX10_judge_33) <|
  .cons (ix_s_iload_n dX10_judge_36 rfl) <|
  .cons (ix_s_aald (E0 := ix_tys) (by decide) (by decide +kernel) (fun _ => rfl) (by decide +kernel) dX10_judge_37) <|
  .cons (ix_s_getr (j := 0) tu_X5 rfl (by decide) (by decide) tw_243 rfl ts_4_0_r dX10_judge_38) <|
  .cons (ix_s_astore_n dX10_judge_41 rfl (by decide)) <|
  .cons (ix_s_aload_n dX10_judge_42 rfl) <|
  .cons (ix_s_getr (j := 0) tu_X10 rfl (by decide) (by decide) tw_251 rfl ts_9_0_r dX10_judge_43) <|
  .cons (ix_s_getr (j := 0) tu_X6 rfl (by decide) (by decide) tw_138 rfl ts_5_0_r dX10_judge_46) <|
  .cons (ix_s_geti (j := 7) tu_X9 rfl (by decide) (by decide) tw_57 rfl ts_8_7_i dX10_judge_49) <|
  .cons (ix_s_istore_n dX10_judge_52 rfl (by decide)) <|
  .cons (ix_s_iconst dX10_judge_53 (by decide +kernel)) <|
  .cons (ix_s_istore dX10_judge_54 (by decide)) <|
  .cons (ix_s_iload dX10_judge_56) <|
  .cons (ix_s_iload_n dX10_judge_58 rfl) <|
  .cons (ix_s_cmp_ge dX10_judge_59 (by decide)) <|
  .cons (ix_s_aload_n dX10_judge_62 rfl) <|
  .cons (ix_s_iload dX10_judge_63) <|
  .cons (oc_X4_has_s (ix_s_callv (t := 3) (k_X4_has l) (by decide) (by decide) tw_474 tw_6 tw_790 tw_472 tw_473 ⟨by decide, by decide, by decide +kernel⟩ (by decide) rfl rfl (fun _ => ⟨_, _, rfl, rfl⟩) dX10_judge_65)) <|
  .cons (ix_s_if_eq dX10_judge_68 (by decide)) <|
  .cons (ix_s_aload_n dX10_judge_71 rfl) <|
  .cons (ix_s_iload dX10_judge_72) <|
  .cons (oc_X4_get_s (ix_s_callv (t := 3) (k_X4_get l) (by decide) (by decide) tw_747 tw_6 tw_744 tw_745 tw_746 ⟨by decide, by decide, by decide +kernel⟩ (by decide) rfl rfl (fun _ => ⟨_, _, rfl, rfl⟩) dX10_judge_74)) <|
  .cons (ix_s_aload_n dX10_judge_77 rfl) <|
  .cons (ix_s_getr (j := 0) tu_X10 rfl (by decide) (by decide) tw_251 rfl ts_9_0_r dX10_judge_78) <|
  .cons (ix_s_getr (j := 0) tu_X6 rfl (by decide) (by decide) tw_138 rfl ts_5_0_r dX10_judge_81) <|
  .cons (ix_s_getr (j := 6) tu_X9 rfl (by decide) (by decide) tw_54 rfl ts_8_6_r dX10_judge_84) <|
  .cons (ix_s_iload dX10_judge_87) <|
  .cons (ix_s_iald dX10_judge_89) <|
  .cons (ix_s_cmp_eq dX10_judge_90 (by decide)) <|
  .cons (ix_s_iload dX10_judge_93) <|
  .cons (ix_s_iret dX10_judge_95 rfl) <|
  .cons (ix_s_iinc dX10_judge_96 (by decide +kernel) (by decide)) <|
  .cons (ix_s_goto dX10_judge_99 (by decide)) <|
  .cons (ix_s_aload_n dX10_judge_102 rfl) <|
  .cons (ix_s_geti (j := 1) tu_X4 rfl (by decide) (by decide) tw_113 rfl ts_3_1_i dX10_judge_103) <|
  .cons (ix_s_iload_n dX10_judge_106 rfl) <|
  .cons (ix_s_cmp_le dX10_judge_107 (by decide)) <|
  .cons (ix_s_iload_n dX10_judge_110 rfl) <|
  .cons (ix_s_goto dX10_judge_111 (by decide)) <|
  .cons (ix_s_iconst dX10_judge_114 (by decide +kernel)) <|
  .cons (ix_s_iret dX10_judge_115 rfl) <| .nil
theorem e_X10_judge_0 (Q : ix_R → Prop) (ls : ix_L) (st : List ix_V) (μ : ix_M) : ix_Ev o_X10_judge Q (0, ls, st, μ) = ix_iload 1 1 (ix_Ev o_X10_judge Q) Q ls st μ := ix_Ev.eq (a_X10_judge launch0) rfl ls st μ
theorem e_X10_judge_1 (Q : ix_R → Prop) (ls : ix_L) (st : List ix_V) (μ : ix_M) : ix_Ev o_X10_judge Q (1, ls, st, μ) = ix_push (vi 3) 2 (ix_Ev o_X10_judge Q) Q ls st μ := ix_Ev.eq (a_X10_judge launch0) rfl ls st μ
theorem e_X10_judge_2 (Q : ix_R → Prop) (ls : ix_L) (st : List ix_V) (μ : ix_M) : ix_Ev o_X10_judge Q (2, ls, st, μ) = oc_X10_outside 5 (ix_Ev o_X10_judge Q) Q ls st μ := ix_Ev.eq (a_X10_judge launch0) rfl ls st μ
theorem e_X10_judge_5 (Q : ix_R → Prop) (ls : ix_L) (st : List ix_V) (μ : ix_M) : ix_Ev o_X10_judge Q (5, ls, st, μ) = ix_if (fun x => x = 0) 14 8 (ix_Ev o_X10_judge Q) Q ls st μ := ix_Ev.eq (a_X10_judge launch0) rfl ls st μ
theorem e_X10_judge_8 (Q : ix_R → Prop) (ls : ix_L) (st : List ix_V) (μ : ix_M) : ix_Ev o_X10_judge Q (8, ls, st, μ) = ix_aload 0 9 (ix_Ev o_X10_judge Q) Q ls st μ := ix_Ev.eq (a_X10_judge launch0) rfl ls st μ
theorem e_X10_judge_9 (Q : ix_R → Prop) (ls : ix_L) (st : List ix_V) (μ : ix_M) : ix_Ev o_X10_judge Q (9, ls, st, μ) = ix_push (vi 1) 10 (ix_Ev o_X10_judge Q) Q ls st μ := ix_Ev.eq (a_X10_judge launch0) rfl ls st μ
theorem e_X10_judge_10 (Q : ix_R → Prop) (ls : ix_L) (st : List ix_V) (μ : ix_M) : ix_Ev o_X10_judge Q (10, ls, st, μ) = oc_X10_error 13 (ix_Ev o_X10_judge Q) Q ls st μ := ix_Ev.eq (a_X10_judge launch0) rfl ls st μ
theorem e_X10_judge_13 (Q : ix_R → Prop) (ls : ix_L) (st : List ix_V) (μ : ix_M) : ix_Ev o_X10_judge Q (13, ls, st, μ) = ix_iret (ix_Ev o_X10_judge Q) Q ls st μ := ix_Ev.eq (a_X10_judge launch0) rfl ls st μ
theorem e_X10_judge_14 (Q : ix_R → Prop) (ls : ix_L) (st : List ix_V) (μ : ix_M) : ix_Ev o_X10_judge Q (14, ls, st, μ) = ix_aload 0 15 (ix_Ev o_X10_judge Q) Q ls st μ := ix_Ev.eq (a_X10_judge launch0) rfl ls st μ
theorem e_X10_judge_15 (Q : ix_R → Prop) (ls : ix_L) (st : List ix_V) (μ : ix_M) : ix_Ev o_X10_judge Q (15, ls, st, μ) = ix_getr 9 22 (fun _ => 98) 18 (ix_Ev o_X10_judge Q) Q ls st μ := ix_Ev.eq (a_X10_judge launch0) rfl ls st μ
theorem e_X10_judge_18 (Q : ix_R → Prop) (ls : ix_L) (st : List ix_V) (μ : ix_M) : ix_Ev o_X10_judge Q (18, ls, st, μ) = ix_iload 1 19 (ix_Ev o_X10_judge Q) Q ls st μ := ix_Ev.eq (a_X10_judge launch0) rfl ls st μ
theorem e_X10_judge_19 (Q : ix_R → Prop) (ls : ix_L) (st : List ix_V) (μ : ix_M) : ix_Ev o_X10_judge Q (19, ls, st, μ) = ix_aald 22 98 4 4 (fun i => 99 + 3 * i) 20 (ix_Ev o_X10_judge Q) Q ls st μ := ix_Ev.eq (a_X10_judge launch0) rfl ls st μ
theorem e_X10_judge_20 (Q : ix_R → Prop) (ls : ix_L) (st : List ix_V) (μ : ix_M) : ix_Ev o_X10_judge Q (20, ls, st, μ) = oc_X5_isMissing 23 (ix_Ev o_X10_judge Q) Q ls st μ := ix_Ev.eq (a_X10_judge launch0) rfl ls st μ
theorem e_X10_judge_23 (Q : ix_R → Prop) (ls : ix_L) (st : List ix_V) (μ : ix_M) : ix_Ev o_X10_judge Q (23, ls, st, μ) = ix_if (fun x => x = 0) 32 26 (ix_Ev o_X10_judge Q) Q ls st μ := ix_Ev.eq (a_X10_judge launch0) rfl ls st μ
theorem e_X10_judge_26 (Q : ix_R → Prop) (ls : ix_L) (st : List ix_V) (μ : ix_M) : ix_Ev o_X10_judge Q (26, ls, st, μ) = ix_aload 0 27 (ix_Ev o_X10_judge Q) Q ls st μ := ix_Ev.eq (a_X10_judge launch0) rfl ls st μ
theorem e_X10_judge_27 (Q : ix_R → Prop) (ls : ix_L) (st : List ix_V) (μ : ix_M) : ix_Ev o_X10_judge Q (27, ls, st, μ) = ix_push (vi 2) 28 (ix_Ev o_X10_judge Q) Q ls st μ := ix_Ev.eq (a_X10_judge launch0) rfl ls st μ
theorem e_X10_judge_28 (Q : ix_R → Prop) (ls : ix_L) (st : List ix_V) (μ : ix_M) : ix_Ev o_X10_judge Q (28, ls, st, μ) = oc_X10_error 31 (ix_Ev o_X10_judge Q) Q ls st μ := ix_Ev.eq (a_X10_judge launch0) rfl ls st μ
theorem e_X10_judge_31 (Q : ix_R → Prop) (ls : ix_L) (st : List ix_V) (μ : ix_M) : ix_Ev o_X10_judge Q (31, ls, st, μ) = ix_iret (ix_Ev o_X10_judge Q) Q ls st μ := ix_Ev.eq (a_X10_judge launch0) rfl ls st μ
theorem e_X10_judge_32 (Q : ix_R → Prop) (ls : ix_L) (st : List ix_V) (μ : ix_M) : ix_Ev o_X10_judge Q (32, ls, st, μ) = ix_aload 0 33 (ix_Ev o_X10_judge Q) Q ls st μ := ix_Ev.eq (a_X10_judge launch0) rfl ls st μ
theorem e_X10_judge_33 (Q : ix_R → Prop) (ls : ix_L) (st : List ix_V) (μ : ix_M) : ix_Ev o_X10_judge Q (33, ls, st, μ) = ix_getr 9 22 (fun _ => 98) 36 (ix_Ev o_X10_judge Q) Q ls st μ := ix_Ev.eq (a_X10_judge launch0) rfl ls st μ
theorem e_X10_judge_36 (Q : ix_R → Prop) (ls : ix_L) (st : List ix_V) (μ : ix_M) : ix_Ev o_X10_judge Q (36, ls, st, μ) = ix_iload 1 37 (ix_Ev o_X10_judge Q) Q ls st μ := ix_Ev.eq (a_X10_judge launch0) rfl ls st μ
theorem e_X10_judge_37 (Q : ix_R → Prop) (ls : ix_L) (st : List ix_V) (μ : ix_M) : ix_Ev o_X10_judge Q (37, ls, st, μ) = ix_aald 22 98 4 4 (fun i => 99 + 3 * i) 38 (ix_Ev o_X10_judge Q) Q ls st μ := ix_Ev.eq (a_X10_judge launch0) rfl ls st μ
theorem e_X10_judge_38 (Q : ix_R → Prop) (ls : ix_L) (st : List ix_V) (μ : ix_M) : ix_Ev o_X10_judge Q (38, ls, st, μ) = ix_getr 4 3 (fun k => k + 1) 41 (ix_Ev o_X10_judge Q) Q ls st μ := ix_Ev.eq (a_X10_judge launch0) rfl ls st μ
theorem e_X10_judge_41 (Q : ix_R → Prop) (ls : ix_L) (st : List ix_V) (μ : ix_M) : ix_Ev o_X10_judge Q (41, ls, st, μ) = ix_astore 2 42 (ix_Ev o_X10_judge Q) Q ls st μ := ix_Ev.eq (a_X10_judge launch0) rfl ls st μ
theorem e_X10_judge_42 (Q : ix_R → Prop) (ls : ix_L) (st : List ix_V) (μ : ix_M) : ix_Ev o_X10_judge Q (42, ls, st, μ) = ix_aload 0 43 (ix_Ev o_X10_judge Q) Q ls st μ := ix_Ev.eq (a_X10_judge launch0) rfl ls st μ
theorem e_X10_judge_43 (Q : ix_R → Prop) (ls : ix_L) (st : List ix_V) (μ : ix_M) : ix_Ev o_X10_judge Q (43, ls, st, μ) = ix_getr 9 5 (fun _ => 1) 46 (ix_Ev o_X10_judge Q) Q ls st μ := ix_Ev.eq (a_X10_judge launch0) rfl ls st μ
theorem e_X10_judge_46 (Q : ix_R → Prop) (ls : ix_L) (st : List ix_V) (μ : ix_M) : ix_Ev o_X10_judge Q (46, ls, st, μ) = ix_getr 5 8 (fun k => k + 1) 49 (ix_Ev o_X10_judge Q) Q ls st μ := ix_Ev.eq (a_X10_judge launch0) rfl ls st μ
theorem e_X10_judge_49 (Q : ix_R → Prop) (ls : ix_L) (st : List ix_V) (μ : ix_M) : ix_Ev o_X10_judge Q (49, ls, st, μ) = ix_geti 8 7 52 (ix_Ev o_X10_judge Q) Q ls st μ := ix_Ev.eq (a_X10_judge launch0) rfl ls st μ
theorem e_X10_judge_52 (Q : ix_R → Prop) (ls : ix_L) (st : List ix_V) (μ : ix_M) : ix_Ev o_X10_judge Q (52, ls, st, μ) = ix_istore 3 53 (ix_Ev o_X10_judge Q) Q ls st μ := ix_Ev.eq (a_X10_judge launch0) rfl ls st μ
theorem e_X10_judge_53 (Q : ix_R → Prop) (ls : ix_L) (st : List ix_V) (μ : ix_M) : ix_Ev o_X10_judge Q (53, ls, st, μ) = ix_push (vi 0) 54 (ix_Ev o_X10_judge Q) Q ls st μ := ix_Ev.eq (a_X10_judge launch0) rfl ls st μ
theorem e_X10_judge_54 (Q : ix_R → Prop) (ls : ix_L) (st : List ix_V) (μ : ix_M) : ix_Ev o_X10_judge Q (54, ls, st, μ) = ix_istore 4 56 (ix_Ev o_X10_judge Q) Q ls st μ := ix_Ev.eq (a_X10_judge launch0) rfl ls st μ
theorem e_X10_judge_56 (Q : ix_R → Prop) (ls : ix_L) (st : List ix_V) (μ : ix_M) : ix_Ev o_X10_judge Q (56, ls, st, μ) = ix_iload 4 58 (ix_Ev o_X10_judge Q) Q ls st μ := ix_Ev.eq (a_X10_judge launch0) rfl ls st μ
theorem e_X10_judge_58 (Q : ix_R → Prop) (ls : ix_L) (st : List ix_V) (μ : ix_M) : ix_Ev o_X10_judge Q (58, ls, st, μ) = ix_iload 3 59 (ix_Ev o_X10_judge Q) Q ls st μ := ix_Ev.eq (a_X10_judge launch0) rfl ls st μ
theorem e_X10_judge_59 (Q : ix_R → Prop) (ls : ix_L) (st : List ix_V) (μ : ix_M) : ix_Ev o_X10_judge Q (59, ls, st, μ) = ix_cmp (fun x y => y ≤ x) 102 62 (ix_Ev o_X10_judge Q) Q ls st μ := ix_Ev.eq (a_X10_judge launch0) rfl ls st μ
theorem e_X10_judge_62 (Q : ix_R → Prop) (ls : ix_L) (st : List ix_V) (μ : ix_M) : ix_Ev o_X10_judge Q (62, ls, st, μ) = ix_aload 2 63 (ix_Ev o_X10_judge Q) Q ls st μ := ix_Ev.eq (a_X10_judge launch0) rfl ls st μ
theorem e_X10_judge_63 (Q : ix_R → Prop) (ls : ix_L) (st : List ix_V) (μ : ix_M) : ix_Ev o_X10_judge Q (63, ls, st, μ) = ix_iload 4 65 (ix_Ev o_X10_judge Q) Q ls st μ := ix_Ev.eq (a_X10_judge launch0) rfl ls st μ
theorem e_X10_judge_65 (Q : ix_R → Prop) (ls : ix_L) (st : List ix_V) (μ : ix_M) : ix_Ev o_X10_judge Q (65, ls, st, μ) = oc_X4_has 68 (ix_Ev o_X10_judge Q) Q ls st μ := ix_Ev.eq (a_X10_judge launch0) rfl ls st μ
theorem e_X10_judge_68 (Q : ix_R → Prop) (ls : ix_L) (st : List ix_V) (μ : ix_M) : ix_Ev o_X10_judge Q (68, ls, st, μ) = ix_if (fun x => x = 0) 93 71 (ix_Ev o_X10_judge Q) Q ls st μ := ix_Ev.eq (a_X10_judge launch0) rfl ls st μ
theorem e_X10_judge_71 (Q : ix_R → Prop) (ls : ix_L) (st : List ix_V) (μ : ix_M) : ix_Ev o_X10_judge Q (71, ls, st, μ) = ix_aload 2 72 (ix_Ev o_X10_judge Q) Q ls st μ := ix_Ev.eq (a_X10_judge launch0) rfl ls st μ
theorem e_X10_judge_72 (Q : ix_R → Prop) (ls : ix_L) (st : List ix_V) (μ : ix_M) : ix_Ev o_X10_judge Q (72, ls, st, μ) = ix_iload 4 74 (ix_Ev o_X10_judge Q) Q ls st μ := ix_Ev.eq (a_X10_judge launch0) rfl ls st μ
theorem e_X10_judge_74 (Q : ix_R → Prop) (ls : ix_L) (st : List ix_V) (μ : ix_M) : ix_Ev o_X10_judge Q (74, ls, st, μ) = oc_X4_get 77 (ix_Ev o_X10_judge Q) Q ls st μ := ix_Ev.eq (a_X10_judge launch0) rfl ls st μ
theorem e_X10_judge_77 (Q : ix_R → Prop) (ls : ix_L) (st : List ix_V) (μ : ix_M) : ix_Ev o_X10_judge Q (77, ls, st, μ) = ix_aload 0 78 (ix_Ev o_X10_judge Q) Q ls st μ := ix_Ev.eq (a_X10_judge launch0) rfl ls st μ
theorem e_X10_judge_78 (Q : ix_R → Prop) (ls : ix_L) (st : List ix_V) (μ : ix_M) : ix_Ev o_X10_judge Q (78, ls, st, μ) = ix_getr 9 5 (fun _ => 1) 81 (ix_Ev o_X10_judge Q) Q ls st μ := ix_Ev.eq (a_X10_judge launch0) rfl ls st μ
theorem e_X10_judge_81 (Q : ix_R → Prop) (ls : ix_L) (st : List ix_V) (μ : ix_M) : ix_Ev o_X10_judge Q (81, ls, st, μ) = ix_getr 5 8 (fun k => k + 1) 84 (ix_Ev o_X10_judge Q) Q ls st μ := ix_Ev.eq (a_X10_judge launch0) rfl ls st μ
theorem e_X10_judge_84 (Q : ix_R → Prop) (ls : ix_L) (st : List ix_V) (μ : ix_M) : ix_Ev o_X10_judge Q (84, ls, st, μ) = ix_getr 8 20 (fun k => k + 7) 87 (ix_Ev o_X10_judge Q) Q ls st μ := ix_Ev.eq (a_X10_judge launch0) rfl ls st μ
theorem e_X10_judge_87 (Q : ix_R → Prop) (ls : ix_L) (st : List ix_V) (μ : ix_M) : ix_Ev o_X10_judge Q (87, ls, st, μ) = ix_iload 4 89 (ix_Ev o_X10_judge Q) Q ls st μ := ix_Ev.eq (a_X10_judge launch0) rfl ls st μ
theorem e_X10_judge_89 (Q : ix_R → Prop) (ls : ix_L) (st : List ix_V) (μ : ix_M) : ix_Ev o_X10_judge Q (89, ls, st, μ) = ix_iald 90 (ix_Ev o_X10_judge Q) Q ls st μ := ix_Ev.eq (a_X10_judge launch0) rfl ls st μ
theorem e_X10_judge_90 (Q : ix_R → Prop) (ls : ix_L) (st : List ix_V) (μ : ix_M) : ix_Ev o_X10_judge Q (90, ls, st, μ) = ix_cmp (fun x y => x = y) 96 93 (ix_Ev o_X10_judge Q) Q ls st μ := ix_Ev.eq (a_X10_judge launch0) rfl ls st μ
theorem e_X10_judge_93 (Q : ix_R → Prop) (ls : ix_L) (st : List ix_V) (μ : ix_M) : ix_Ev o_X10_judge Q (93, ls, st, μ) = ix_iload 4 95 (ix_Ev o_X10_judge Q) Q ls st μ := ix_Ev.eq (a_X10_judge launch0) rfl ls st μ
theorem e_X10_judge_95 (Q : ix_R → Prop) (ls : ix_L) (st : List ix_V) (μ : ix_M) : ix_Ev o_X10_judge Q (95, ls, st, μ) = ix_iret (ix_Ev o_X10_judge Q) Q ls st μ := ix_Ev.eq (a_X10_judge launch0) rfl ls st μ
theorem e_X10_judge_96 (Q : ix_R → Prop) (ls : ix_L) (st : List ix_V) (μ : ix_M) : ix_Ev o_X10_judge Q (96, ls, st, μ) = ix_iinc 4 1 99 (ix_Ev o_X10_judge Q) Q ls st μ := ix_Ev.eq (a_X10_judge launch0) rfl ls st μ
theorem e_X10_judge_99 (Q : ix_R → Prop) (ls : ix_L) (st : List ix_V) (μ : ix_M) : ix_Ev o_X10_judge Q (99, ls, st, μ) = ix_goto 56 (ix_Ev o_X10_judge Q) Q ls st μ := ix_Ev.eq (a_X10_judge launch0) rfl ls st μ
theorem e_X10_judge_102 (Q : ix_R → Prop) (ls : ix_L) (st : List ix_V) (μ : ix_M) : ix_Ev o_X10_judge Q (102, ls, st, μ) = ix_aload 2 103 (ix_Ev o_X10_judge Q) Q ls st μ := ix_Ev.eq (a_X10_judge launch0) rfl ls st μ
theorem e_X10_judge_103 (Q : ix_R → Prop) (ls : ix_L) (st : List ix_V) (μ : ix_M) : ix_Ev o_X10_judge Q (103, ls, st, μ) = ix_geti 3 1 106 (ix_Ev o_X10_judge Q) Q ls st μ := ix_Ev.eq (a_X10_judge launch0) rfl ls st μ
theorem e_X10_judge_106 (Q : ix_R → Prop) (ls : ix_L) (st : List ix_V) (μ : ix_M) : ix_Ev o_X10_judge Q (106, ls, st, μ) = ix_iload 3 107 (ix_Ev o_X10_judge Q) Q ls st μ := ix_Ev.eq (a_X10_judge launch0) rfl ls st μ
theorem e_X10_judge_107 (Q : ix_R → Prop) (ls : ix_L) (st : List ix_V) (μ : ix_M) : ix_Ev o_X10_judge Q (107, ls, st, μ) = ix_cmp (fun x y => x ≤ y) 114 110 (ix_Ev o_X10_judge Q) Q ls st μ := ix_Ev.eq (a_X10_judge launch0) rfl ls st μ
theorem e_X10_judge_110 (Q : ix_R → Prop) (ls : ix_L) (st : List ix_V) (μ : ix_M) : ix_Ev o_X10_judge Q (110, ls, st, μ) = ix_iload 3 111 (ix_Ev o_X10_judge Q) Q ls st μ := ix_Ev.eq (a_X10_judge launch0) rfl ls st μ
theorem e_X10_judge_111 (Q : ix_R → Prop) (ls : ix_L) (st : List ix_V) (μ : ix_M) : ix_Ev o_X10_judge Q (111, ls, st, μ) = ix_goto 115 (ix_Ev o_X10_judge Q) Q ls st μ := ix_Ev.eq (a_X10_judge launch0) rfl ls st μ
theorem e_X10_judge_114 (Q : ix_R → Prop) (ls : ix_L) (st : List ix_V) (μ : ix_M) : ix_Ev o_X10_judge Q (114, ls, st, μ) = ix_push (vi (-1)) 115 (ix_Ev o_X10_judge Q) Q ls st μ := ix_Ev.eq (a_X10_judge launch0) rfl ls st μ
theorem e_X10_judge_115 (Q : ix_R → Prop) (ls : ix_L) (st : List ix_V) (μ : ix_M) : ix_Ev o_X10_judge Q (115, ls, st, μ) = ix_iret (ix_Ev o_X10_judge Q) Q ls st μ := ix_Ev.eq (a_X10_judge launch0) rfl ls st μ
def o_X11_judge : List (Nat × ix_Op) := [
  (0, ix_iload 1 1),
  (1, oc_X11_isSheet 4),
  (4, ix_if (fun x => x = 0) 7 14),
  (7, ix_aload 0 8),
  (8, ix_push (vi (-1000000001)) 10),
  (10, oc_X11_finding 13),
  (13, ix_iret),
  (14, ix_aload 0 15),
  (15, ix_getr 10 20 (fun _ => 123) 18),
  (18, ix_iload 1 19),
  (19, ix_iald 20),
  (20, ix_if (fun x => x = 0) 23 31),
  (23, ix_aload 0 24),
  (24, ix_push (vi (-1000000002)) 27),
  (27, oc_X11_finding 30),
  (30, ix_iret),
  (31, ix_push (vi 0) 32),
  (32, ix_istore 2 33),
  (33, ix_iload 2 34),
  (34, ix_aload 0 35),
  (35, ix_getr 10 20 (fun _ => 124) 38),
  (38, ix_iload 1 39),
  (39, ix_iald 40),
  (40, ix_cmp (fun x y => y ≤ x) 77 43),
  (43, ix_aload 0 44),
  (44, ix_iload 2 45),
  (45, oc_X11_isBoat 48),
  (48, ix_if (fun x => x = 0) 77 51),
  (51, ix_aload 0 52),
  (52, ix_getr 10 20 (fun _ => 125) 55),
  (55, ix_push (vi 40) 57),
  (57, ix_iload 1 58),
  (58, ix_bin (fun x y => x * y) 59),
  (59, ix_iload 2 60),
  (60, ix_bin (fun x y => x + y) 61),
  (61, ix_iald 62),
  (62, ix_aload 0 63),
  (63, ix_iload 2 64),
  (64, ix_push (vi 3) 65),
  (65, oc_X11_boatIs 68),
  (68, ix_cmp (fun x y => x = y) 71 77),
  (71, ix_iinc 2 1 74),
  (74, ix_goto 33),
  (77, ix_iload 2 78),
  (78, ix_aload 0 79),
  (79, ix_getr 10 20 (fun _ => 124) 82),
  (82, ix_iload 1 83),
  (83, ix_iald 84),
  (84, ix_cmp (fun x y => x = y) 87 101),
  (87, ix_iload 2 88),
  (88, ix_aload 0 89),
  (89, ix_getr 10 20 (fun _ => 113) 92),
  (92, ix_push (vi 1) 93),
  (93, ix_iald 94),
  (94, ix_cmp (fun x y => x = y) 97 101),
  (97, ix_push (vi (-1)) 98),
  (98, ix_goto 102),
  (101, ix_iload 2 102),
  (102, ix_iret)]
set_option maxRecDepth 20000 in
theorem a_X11_judge (l : Launch) : ix_AllS l cX11_judge 3 RX11 60 (some .int) o_X11_judge :=
  .cons (ix_s_iload_n dX11_judge_0 rfl) <|
  .cons (oc_X11_isSheet_s (ix_s_calls (k_X11_isSheet l) (by decide) (by decide) tw_1305 tw_12 tw_1303 tw_1304 ⟨by decide, by decide, by decide +kernel⟩ (fun _ => rfl) dX11_judge_1)) <|
  .cons (ix_s_if_ne dX11_judge_4 (by decide)) <|
  .cons (ix_s_aload_n dX11_judge_7 rfl) <|
  .cons (ix_s_ldc tw_961 dX11_judge_8) <|
  .cons (oc_X11_finding_s (ix_s_callv (t := 10) (k_X11_finding l) (by decide) (by decide) tw_965 tw_12 tw_962 tw_964 tp_18 ⟨by decide, by decide, by decide +kernel⟩ (by decide) rfl rfl (fun _ => ⟨_, _, rfl, rfl⟩) dX11_judge_10)) <|
  .cons (ix_s_iret dX11_judge_13 rfl) <|
  .cons (ix_s_aload_n dX11_judge_14 rfl) <|
  .cons (ix_s_getr (j := 22) tu_X11 rfl (by decide) (by decide) tw_897 rfl ts_10_22_r dX11_judge_15) <|
  .cons (ix_s_iload_n dX11_judge_18 rfl) <|
  .cons (ix_s_iald dX11_judge_19) <|
  .cons (ix_s_if_ne dX11_judge_20 (by decide)) <|
  .cons (ix_s_aload_n dX11_judge_23 rfl) <|
  .cons (ix_s_ldcw tw_1238 dX11_judge_24) <|
  .cons (oc_X11_finding_s (ix_s_callv (t := 10) (k_X11_finding l) (by decide) (by decide) tw_965 tw_12 tw_962 tw_964 tp_18 ⟨by decide, by decide, by decide +kernel⟩ (by decide) rfl rfl (fun _ => ⟨_, _, rfl, rfl⟩) dX11_judge_27)) <|
  .cons (ix_s_iret dX11_judge_30 rfl) <|
  .cons (ix_s_iconst dX11_judge_31 (by decide +kernel)) <|
  .cons (ix_s_istore_n dX11_judge_32 rfl (by decide)) <|
  .cons (ix_s_iload_n dX11_judge_33 rfl) <|
  .cons (ix_s_aload_n dX11_judge_34 rfl) <|
  .cons (ix_s_getr (j := 23) tu_X11 rfl (by decide) (by decide) tw_898 rfl ts_10_23_r dX11_judge_35) <|
  .cons (ix_s_iload_n dX11_judge_38 rfl) <|
  .cons (ix_s_iald dX11_judge_39) <|
  .cons (ix_s_cmp_ge dX11_judge_40 (by decide)) <|
  .cons (ix_s_aload_n dX11_judge_43 rfl) <|
  .cons (ix_s_iload_n dX11_judge_44 rfl) <|
  .cons (oc_X11_isBoat_s (ix_s_callv (t := 10) (k_X11_isBoat l) (by decide) (by decide) tw_1135 tw_12 tw_1132 tw_1134 tp_37 ⟨by decide, by decide, by decide +kernel⟩ (by decide) rfl rfl (fun _ => ⟨_, _, rfl, rfl⟩) dX11_judge_45)) <|
  .cons (ix_s_if_eq dX11_judge_48 (by decide)) <|
  .cons (ix_s_aload_n dX11_judge_51 rfl) <|
  .cons (ix_s_getr (j := 24) tu_X11 rfl (by decide) (by decide) tw_899 rfl ts_10_24_r dX11_judge_52) <|
  .cons (ix_s_bipush dX11_judge_55 (by decide +kernel)) <|
  .cons (ix_s_iload_n dX11_judge_57 rfl) <|
  .cons (ix_s_imul dX11_judge_58) <|
  .cons (ix_s_iload_n dX11_judge_59 rfl) <|
  .cons (ix_s_iadd dX11_judge_60) <|
  .cons (ix_s_iald dX11_judge_61) <|
  .cons (ix_s_aload_n dX11_judge_62 rfl) <|
  .cons (ix_s_iload_n dX11_judge_63 rfl) <|
  .cons (ix_s_iconst dX11_judge_64 (by decide +kernel)) <|
  .cons (oc_X11_boatIs_s (ix_s_callv (t := 10) (k_X11_boatIs l) (by decide) (by decide) tw_1083 tw_12 tw_1080 tw_1082 tp_34 ⟨by decide, by decide, by decide +kernel⟩ (by decide) rfl rfl (fun _ => ⟨_, _, rfl, rfl⟩) dX11_judge_65)) <|
  .cons (ix_s_cmp_ne dX11_judge_68 (by decide)) <|
  .cons (ix_s_iinc dX11_judge_71 (by decide +kernel) (by decide)) <|
  .cons (ix_s_goto dX11_judge_74 (by decide)) <|
  .cons (ix_s_iload_n dX11_judge_77 rfl) <|
  .cons (ix_s_aload_n dX11_judge_78 rfl) <|
  .cons (ix_s_getr (j := 23) tu_X11 rfl (by decide) (by decide) tw_898 rfl ts_10_23_r dX11_judge_79) <|
  .cons (ix_s_iload_n dX11_judge_82 rfl) <|
  .cons (ix_s_iald dX11_judge_83) <|
  .cons (ix_s_cmp_ne dX11_judge_84 (by decide)) <|
  .cons (ix_s_iload_n dX11_judge_87 rfl) <|
  .cons (ix_s_aload_n dX11_judge_88 rfl) <|
  .cons (ix_s_getr (j := 0) tu_X11 rfl (by decide) (by decide) tw_875 rfl ts_10_0_r dX11_judge_89) <|
  .cons (ix_s_iconst dX11_judge_92 (by decide +kernel)) <|
  .cons (ix_s_iald dX11_judge_93) <|
  .cons (ix_s_cmp_ne dX11_judge_94 (by decide)) <|
  .cons (ix_s_iconst dX11_judge_97 (by decide +kernel)) <|
  .cons (ix_s_goto dX11_judge_98 (by decide)) <|
  .cons (ix_s_iload_n dX11_judge_101 rfl) <|
  .cons (ix_s_iret dX11_judge_102 rfl) <| .nil
theorem e_X11_judge_0 (Q : ix_R → Prop) (ls : ix_L) (st : List ix_V) (μ : ix_M) : ix_Ev o_X11_judge Q (0, ls, st, μ) = ix_iload 1 1 (ix_Ev o_X11_judge Q) Q ls st μ := ix_Ev.eq (a_X11_judge launch0) rfl ls st μ
theorem e_X11_judge_1 (Q : ix_R → Prop) (ls : ix_L) (st : List ix_V) (μ : ix_M) : ix_Ev o_X11_judge Q (1, ls, st, μ) = oc_X11_isSheet 4 (ix_Ev o_X11_judge Q) Q ls st μ := ix_Ev.eq (a_X11_judge launch0) rfl ls st μ
theorem e_X11_judge_4 (Q : ix_R → Prop) (ls : ix_L) (st : List ix_V) (μ : ix_M) : ix_Ev o_X11_judge Q (4, ls, st, μ) = ix_if (fun x => x = 0) 7 14 (ix_Ev o_X11_judge Q) Q ls st μ := ix_Ev.eq (a_X11_judge launch0) rfl ls st μ
theorem e_X11_judge_7 (Q : ix_R → Prop) (ls : ix_L) (st : List ix_V) (μ : ix_M) : ix_Ev o_X11_judge Q (7, ls, st, μ) = ix_aload 0 8 (ix_Ev o_X11_judge Q) Q ls st μ := ix_Ev.eq (a_X11_judge launch0) rfl ls st μ
theorem e_X11_judge_8 (Q : ix_R → Prop) (ls : ix_L) (st : List ix_V) (μ : ix_M) : ix_Ev o_X11_judge Q (8, ls, st, μ) = ix_push (vi (-1000000001)) 10 (ix_Ev o_X11_judge Q) Q ls st μ := ix_Ev.eq (a_X11_judge launch0) rfl ls st μ
theorem e_X11_judge_10 (Q : ix_R → Prop) (ls : ix_L) (st : List ix_V) (μ : ix_M) : ix_Ev o_X11_judge Q (10, ls, st, μ) = oc_X11_finding 13 (ix_Ev o_X11_judge Q) Q ls st μ := ix_Ev.eq (a_X11_judge launch0) rfl ls st μ
theorem e_X11_judge_13 (Q : ix_R → Prop) (ls : ix_L) (st : List ix_V) (μ : ix_M) : ix_Ev o_X11_judge Q (13, ls, st, μ) = ix_iret (ix_Ev o_X11_judge Q) Q ls st μ := ix_Ev.eq (a_X11_judge launch0) rfl ls st μ
theorem e_X11_judge_14 (Q : ix_R → Prop) (ls : ix_L) (st : List ix_V) (μ : ix_M) : ix_Ev o_X11_judge Q (14, ls, st, μ) = ix_aload 0 15 (ix_Ev o_X11_judge Q) Q ls st μ := ix_Ev.eq (a_X11_judge launch0) rfl ls st μ
theorem e_X11_judge_15 (Q : ix_R → Prop) (ls : ix_L) (st : List ix_V) (μ : ix_M) : ix_Ev o_X11_judge Q (15, ls, st, μ) = ix_getr 10 20 (fun _ => 123) 18 (ix_Ev o_X11_judge Q) Q ls st μ := ix_Ev.eq (a_X11_judge launch0) rfl ls st μ
theorem e_X11_judge_18 (Q : ix_R → Prop) (ls : ix_L) (st : List ix_V) (μ : ix_M) : ix_Ev o_X11_judge Q (18, ls, st, μ) = ix_iload 1 19 (ix_Ev o_X11_judge Q) Q ls st μ := ix_Ev.eq (a_X11_judge launch0) rfl ls st μ
theorem e_X11_judge_19 (Q : ix_R → Prop) (ls : ix_L) (st : List ix_V) (μ : ix_M) : ix_Ev o_X11_judge Q (19, ls, st, μ) = ix_iald 20 (ix_Ev o_X11_judge Q) Q ls st μ := ix_Ev.eq (a_X11_judge launch0) rfl ls st μ
theorem e_X11_judge_20 (Q : ix_R → Prop) (ls : ix_L) (st : List ix_V) (μ : ix_M) : ix_Ev o_X11_judge Q (20, ls, st, μ) = ix_if (fun x => x = 0) 23 31 (ix_Ev o_X11_judge Q) Q ls st μ := ix_Ev.eq (a_X11_judge launch0) rfl ls st μ
theorem e_X11_judge_23 (Q : ix_R → Prop) (ls : ix_L) (st : List ix_V) (μ : ix_M) : ix_Ev o_X11_judge Q (23, ls, st, μ) = ix_aload 0 24 (ix_Ev o_X11_judge Q) Q ls st μ := ix_Ev.eq (a_X11_judge launch0) rfl ls st μ
theorem e_X11_judge_24 (Q : ix_R → Prop) (ls : ix_L) (st : List ix_V) (μ : ix_M) : ix_Ev o_X11_judge Q (24, ls, st, μ) = ix_push (vi (-1000000002)) 27 (ix_Ev o_X11_judge Q) Q ls st μ := ix_Ev.eq (a_X11_judge launch0) rfl ls st μ
theorem e_X11_judge_27 (Q : ix_R → Prop) (ls : ix_L) (st : List ix_V) (μ : ix_M) : ix_Ev o_X11_judge Q (27, ls, st, μ) = oc_X11_finding 30 (ix_Ev o_X11_judge Q) Q ls st μ := ix_Ev.eq (a_X11_judge launch0) rfl ls st μ
theorem e_X11_judge_30 (Q : ix_R → Prop) (ls : ix_L) (st : List ix_V) (μ : ix_M) : ix_Ev o_X11_judge Q (30, ls, st, μ) = ix_iret (ix_Ev o_X11_judge Q) Q ls st μ := ix_Ev.eq (a_X11_judge launch0) rfl ls st μ
theorem e_X11_judge_31 (Q : ix_R → Prop) (ls : ix_L) (st : List ix_V) (μ : ix_M) : ix_Ev o_X11_judge Q (31, ls, st, μ) = ix_push (vi 0) 32 (ix_Ev o_X11_judge Q) Q ls st μ := ix_Ev.eq (a_X11_judge launch0) rfl ls st μ
theorem e_X11_judge_32 (Q : ix_R → Prop) (ls : ix_L) (st : List ix_V) (μ : ix_M) : ix_Ev o_X11_judge Q (32, ls, st, μ) = ix_istore 2 33 (ix_Ev o_X11_judge Q) Q ls st μ := ix_Ev.eq (a_X11_judge launch0) rfl ls st μ
theorem e_X11_judge_33 (Q : ix_R → Prop) (ls : ix_L) (st : List ix_V) (μ : ix_M) : ix_Ev o_X11_judge Q (33, ls, st, μ) = ix_iload 2 34 (ix_Ev o_X11_judge Q) Q ls st μ := ix_Ev.eq (a_X11_judge launch0) rfl ls st μ
theorem e_X11_judge_34 (Q : ix_R → Prop) (ls : ix_L) (st : List ix_V) (μ : ix_M) : ix_Ev o_X11_judge Q (34, ls, st, μ) = ix_aload 0 35 (ix_Ev o_X11_judge Q) Q ls st μ := ix_Ev.eq (a_X11_judge launch0) rfl ls st μ
theorem e_X11_judge_35 (Q : ix_R → Prop) (ls : ix_L) (st : List ix_V) (μ : ix_M) : ix_Ev o_X11_judge Q (35, ls, st, μ) = ix_getr 10 20 (fun _ => 124) 38 (ix_Ev o_X11_judge Q) Q ls st μ := ix_Ev.eq (a_X11_judge launch0) rfl ls st μ
theorem e_X11_judge_38 (Q : ix_R → Prop) (ls : ix_L) (st : List ix_V) (μ : ix_M) : ix_Ev o_X11_judge Q (38, ls, st, μ) = ix_iload 1 39 (ix_Ev o_X11_judge Q) Q ls st μ := ix_Ev.eq (a_X11_judge launch0) rfl ls st μ
theorem e_X11_judge_39 (Q : ix_R → Prop) (ls : ix_L) (st : List ix_V) (μ : ix_M) : ix_Ev o_X11_judge Q (39, ls, st, μ) = ix_iald 40 (ix_Ev o_X11_judge Q) Q ls st μ := ix_Ev.eq (a_X11_judge launch0) rfl ls st μ
theorem e_X11_judge_40 (Q : ix_R → Prop) (ls : ix_L) (st : List ix_V) (μ : ix_M) : ix_Ev o_X11_judge Q (40, ls, st, μ) = ix_cmp (fun x y => y ≤ x) 77 43 (ix_Ev o_X11_judge Q) Q ls st μ := ix_Ev.eq (a_X11_judge launch0) rfl ls st μ
theorem e_X11_judge_43 (Q : ix_R → Prop) (ls : ix_L) (st : List ix_V) (μ : ix_M) : ix_Ev o_X11_judge Q (43, ls, st, μ) = ix_aload 0 44 (ix_Ev o_X11_judge Q) Q ls st μ := ix_Ev.eq (a_X11_judge launch0) rfl ls st μ
theorem e_X11_judge_44 (Q : ix_R → Prop) (ls : ix_L) (st : List ix_V) (μ : ix_M) : ix_Ev o_X11_judge Q (44, ls, st, μ) = ix_iload 2 45 (ix_Ev o_X11_judge Q) Q ls st μ := ix_Ev.eq (a_X11_judge launch0) rfl ls st μ
theorem e_X11_judge_45 (Q : ix_R → Prop) (ls : ix_L) (st : List ix_V) (μ : ix_M) : ix_Ev o_X11_judge Q (45, ls, st, μ) = oc_X11_isBoat 48 (ix_Ev o_X11_judge Q) Q ls st μ := ix_Ev.eq (a_X11_judge launch0) rfl ls st μ
theorem e_X11_judge_48 (Q : ix_R → Prop) (ls : ix_L) (st : List ix_V) (μ : ix_M) : ix_Ev o_X11_judge Q (48, ls, st, μ) = ix_if (fun x => x = 0) 77 51 (ix_Ev o_X11_judge Q) Q ls st μ := ix_Ev.eq (a_X11_judge launch0) rfl ls st μ
theorem e_X11_judge_51 (Q : ix_R → Prop) (ls : ix_L) (st : List ix_V) (μ : ix_M) : ix_Ev o_X11_judge Q (51, ls, st, μ) = ix_aload 0 52 (ix_Ev o_X11_judge Q) Q ls st μ := ix_Ev.eq (a_X11_judge launch0) rfl ls st μ
theorem e_X11_judge_52 (Q : ix_R → Prop) (ls : ix_L) (st : List ix_V) (μ : ix_M) : ix_Ev o_X11_judge Q (52, ls, st, μ) = ix_getr 10 20 (fun _ => 125) 55 (ix_Ev o_X11_judge Q) Q ls st μ := ix_Ev.eq (a_X11_judge launch0) rfl ls st μ
theorem e_X11_judge_55 (Q : ix_R → Prop) (ls : ix_L) (st : List ix_V) (μ : ix_M) : ix_Ev o_X11_judge Q (55, ls, st, μ) = ix_push (vi 40) 57 (ix_Ev o_X11_judge Q) Q ls st μ := ix_Ev.eq (a_X11_judge launch0) rfl ls st μ
theorem e_X11_judge_57 (Q : ix_R → Prop) (ls : ix_L) (st : List ix_V) (μ : ix_M) : ix_Ev o_X11_judge Q (57, ls, st, μ) = ix_iload 1 58 (ix_Ev o_X11_judge Q) Q ls st μ := ix_Ev.eq (a_X11_judge launch0) rfl ls st μ
theorem e_X11_judge_58 (Q : ix_R → Prop) (ls : ix_L) (st : List ix_V) (μ : ix_M) : ix_Ev o_X11_judge Q (58, ls, st, μ) = ix_bin (fun x y => x * y) 59 (ix_Ev o_X11_judge Q) Q ls st μ := ix_Ev.eq (a_X11_judge launch0) rfl ls st μ
theorem e_X11_judge_59 (Q : ix_R → Prop) (ls : ix_L) (st : List ix_V) (μ : ix_M) : ix_Ev o_X11_judge Q (59, ls, st, μ) = ix_iload 2 60 (ix_Ev o_X11_judge Q) Q ls st μ := ix_Ev.eq (a_X11_judge launch0) rfl ls st μ
theorem e_X11_judge_60 (Q : ix_R → Prop) (ls : ix_L) (st : List ix_V) (μ : ix_M) : ix_Ev o_X11_judge Q (60, ls, st, μ) = ix_bin (fun x y => x + y) 61 (ix_Ev o_X11_judge Q) Q ls st μ := ix_Ev.eq (a_X11_judge launch0) rfl ls st μ
theorem e_X11_judge_61 (Q : ix_R → Prop) (ls : ix_L) (st : List ix_V) (μ : ix_M) : ix_Ev o_X11_judge Q (61, ls, st, μ) = ix_iald 62 (ix_Ev o_X11_judge Q) Q ls st μ := ix_Ev.eq (a_X11_judge launch0) rfl ls st μ
theorem e_X11_judge_62 (Q : ix_R → Prop) (ls : ix_L) (st : List ix_V) (μ : ix_M) : ix_Ev o_X11_judge Q (62, ls, st, μ) = ix_aload 0 63 (ix_Ev o_X11_judge Q) Q ls st μ := ix_Ev.eq (a_X11_judge launch0) rfl ls st μ
theorem e_X11_judge_63 (Q : ix_R → Prop) (ls : ix_L) (st : List ix_V) (μ : ix_M) : ix_Ev o_X11_judge Q (63, ls, st, μ) = ix_iload 2 64 (ix_Ev o_X11_judge Q) Q ls st μ := ix_Ev.eq (a_X11_judge launch0) rfl ls st μ
theorem e_X11_judge_64 (Q : ix_R → Prop) (ls : ix_L) (st : List ix_V) (μ : ix_M) : ix_Ev o_X11_judge Q (64, ls, st, μ) = ix_push (vi 3) 65 (ix_Ev o_X11_judge Q) Q ls st μ := ix_Ev.eq (a_X11_judge launch0) rfl ls st μ
theorem e_X11_judge_65 (Q : ix_R → Prop) (ls : ix_L) (st : List ix_V) (μ : ix_M) : ix_Ev o_X11_judge Q (65, ls, st, μ) = oc_X11_boatIs 68 (ix_Ev o_X11_judge Q) Q ls st μ := ix_Ev.eq (a_X11_judge launch0) rfl ls st μ
theorem e_X11_judge_68 (Q : ix_R → Prop) (ls : ix_L) (st : List ix_V) (μ : ix_M) : ix_Ev o_X11_judge Q (68, ls, st, μ) = ix_cmp (fun x y => x = y) 71 77 (ix_Ev o_X11_judge Q) Q ls st μ := ix_Ev.eq (a_X11_judge launch0) rfl ls st μ
theorem e_X11_judge_71 (Q : ix_R → Prop) (ls : ix_L) (st : List ix_V) (μ : ix_M) : ix_Ev o_X11_judge Q (71, ls, st, μ) = ix_iinc 2 1 74 (ix_Ev o_X11_judge Q) Q ls st μ := ix_Ev.eq (a_X11_judge launch0) rfl ls st μ
theorem e_X11_judge_74 (Q : ix_R → Prop) (ls : ix_L) (st : List ix_V) (μ : ix_M) : ix_Ev o_X11_judge Q (74, ls, st, μ) = ix_goto 33 (ix_Ev o_X11_judge Q) Q ls st μ := ix_Ev.eq (a_X11_judge launch0) rfl ls st μ
theorem e_X11_judge_77 (Q : ix_R → Prop) (ls : ix_L) (st : List ix_V) (μ : ix_M) : ix_Ev o_X11_judge Q (77, ls, st, μ) = ix_iload 2 78 (ix_Ev o_X11_judge Q) Q ls st μ := ix_Ev.eq (a_X11_judge launch0) rfl ls st μ
theorem e_X11_judge_78 (Q : ix_R → Prop) (ls : ix_L) (st : List ix_V) (μ : ix_M) : ix_Ev o_X11_judge Q (78, ls, st, μ) = ix_aload 0 79 (ix_Ev o_X11_judge Q) Q ls st μ := ix_Ev.eq (a_X11_judge launch0) rfl ls st μ
theorem e_X11_judge_79 (Q : ix_R → Prop) (ls : ix_L) (st : List ix_V) (μ : ix_M) : ix_Ev o_X11_judge Q (79, ls, st, μ) = ix_getr 10 20 (fun _ => 124) 82 (ix_Ev o_X11_judge Q) Q ls st μ := ix_Ev.eq (a_X11_judge launch0) rfl ls st μ
theorem e_X11_judge_82 (Q : ix_R → Prop) (ls : ix_L) (st : List ix_V) (μ : ix_M) : ix_Ev o_X11_judge Q (82, ls, st, μ) = ix_iload 1 83 (ix_Ev o_X11_judge Q) Q ls st μ := ix_Ev.eq (a_X11_judge launch0) rfl ls st μ
theorem e_X11_judge_83 (Q : ix_R → Prop) (ls : ix_L) (st : List ix_V) (μ : ix_M) : ix_Ev o_X11_judge Q (83, ls, st, μ) = ix_iald 84 (ix_Ev o_X11_judge Q) Q ls st μ := ix_Ev.eq (a_X11_judge launch0) rfl ls st μ
theorem e_X11_judge_84 (Q : ix_R → Prop) (ls : ix_L) (st : List ix_V) (μ : ix_M) : ix_Ev o_X11_judge Q (84, ls, st, μ) = ix_cmp (fun x y => x = y) 87 101 (ix_Ev o_X11_judge Q) Q ls st μ := ix_Ev.eq (a_X11_judge launch0) rfl ls st μ
theorem e_X11_judge_87 (Q : ix_R → Prop) (ls : ix_L) (st : List ix_V) (μ : ix_M) : ix_Ev o_X11_judge Q (87, ls, st, μ) = ix_iload 2 88 (ix_Ev o_X11_judge Q) Q ls st μ := ix_Ev.eq (a_X11_judge launch0) rfl ls st μ
theorem e_X11_judge_88 (Q : ix_R → Prop) (ls : ix_L) (st : List ix_V) (μ : ix_M) : ix_Ev o_X11_judge Q (88, ls, st, μ) = ix_aload 0 89 (ix_Ev o_X11_judge Q) Q ls st μ := ix_Ev.eq (a_X11_judge launch0) rfl ls st μ
theorem e_X11_judge_89 (Q : ix_R → Prop) (ls : ix_L) (st : List ix_V) (μ : ix_M) : ix_Ev o_X11_judge Q (89, ls, st, μ) = ix_getr 10 20 (fun _ => 113) 92 (ix_Ev o_X11_judge Q) Q ls st μ := ix_Ev.eq (a_X11_judge launch0) rfl ls st μ
theorem e_X11_judge_92 (Q : ix_R → Prop) (ls : ix_L) (st : List ix_V) (μ : ix_M) : ix_Ev o_X11_judge Q (92, ls, st, μ) = ix_push (vi 1) 93 (ix_Ev o_X11_judge Q) Q ls st μ := ix_Ev.eq (a_X11_judge launch0) rfl ls st μ
theorem e_X11_judge_93 (Q : ix_R → Prop) (ls : ix_L) (st : List ix_V) (μ : ix_M) : ix_Ev o_X11_judge Q (93, ls, st, μ) = ix_iald 94 (ix_Ev o_X11_judge Q) Q ls st μ := ix_Ev.eq (a_X11_judge launch0) rfl ls st μ
theorem e_X11_judge_94 (Q : ix_R → Prop) (ls : ix_L) (st : List ix_V) (μ : ix_M) : ix_Ev o_X11_judge Q (94, ls, st, μ) = ix_cmp (fun x y => x = y) 97 101 (ix_Ev o_X11_judge Q) Q ls st μ := ix_Ev.eq (a_X11_judge launch0) rfl ls st μ
theorem e_X11_judge_97 (Q : ix_R → Prop) (ls : ix_L) (st : List ix_V) (μ : ix_M) : ix_Ev o_X11_judge Q (97, ls, st, μ) = ix_push (vi (-1)) 98 (ix_Ev o_X11_judge Q) Q ls st μ := ix_Ev.eq (a_X11_judge launch0) rfl ls st μ
theorem e_X11_judge_98 (Q : ix_R → Prop) (ls : ix_L) (st : List ix_V) (μ : ix_M) : ix_Ev o_X11_judge Q (98, ls, st, μ) = ix_goto 102 (ix_Ev o_X11_judge Q) Q ls st μ := ix_Ev.eq (a_X11_judge launch0) rfl ls st μ
theorem e_X11_judge_101 (Q : ix_R → Prop) (ls : ix_L) (st : List ix_V) (μ : ix_M) : ix_Ev o_X11_judge Q (101, ls, st, μ) = ix_iload 2 102 (ix_Ev o_X11_judge Q) Q ls st μ := ix_Ev.eq (a_X11_judge launch0) rfl ls st μ
theorem e_X11_judge_102 (Q : ix_R → Prop) (ls : ix_L) (st : List ix_V) (μ : ix_M) : ix_Ev o_X11_judge Q (102, ls, st, μ) = ix_iret (ix_Ev o_X11_judge Q) Q ls st μ := ix_Ev.eq (a_X11_judge launch0) rfl ls st μ
theorem l_X10_judge {S N n : Nat} {μ : ix_M} {Q : ix_R → Prop} {g : Nat → Int32} (hS : S < 4) (hN : N ≤ 8) (hn : n ≤ 40) (hs : μ (99 + (3 * S + 1)) 1 = nI n) (hg : g = μ (99 + (3 * S + 2))) (hQ : ∀ m, m ≤ N → m ≤ n → (∀ j, j < m → g j = μ 9 j) → (m = N ∨ m = n ∨ ¬ g m = μ 9 m) → (m < N → Q (some (vi (nI m)), μ)) ∧ (m = N → (n ≤ N → Q (some (vi (-1)), μ)) ∧ (N < n → Q (some (vi (nI m)), μ)))) : ∀ (k i : Nat), i + k = N → i ≤ n → (∀ j, j < i → g j = μ 9 j) → ix_Ev o_X10_judge Q (56, [some (vr 9 0), some (vi (nI S)), some (vr 3 (99 + (3 * S + 1))), some (vi (nI N)), some (vi (nI i))], [], μ) := by
  have rk : RowOk μ (99 + (3 * S + 1)) := rowOk hs hn (shLen S hS) (by decide)
  intro k
  induction k with
  | zero =>
    intro i hi hin hj
    have hi : i = N := hi
    subst hi
    have c1 : nI i ≤ nI i := Int32.le_refl _
    rw [e_X10_judge_56]
    simp (decide := true) only [e_X10_judge_0, e_X10_judge_1, e_X10_judge_2, e_X10_judge_5, e_X10_judge_8, e_X10_judge_9, e_X10_judge_10, e_X10_judge_13, e_X10_judge_14, e_X10_judge_15, e_X10_judge_18, e_X10_judge_19, e_X10_judge_20, e_X10_judge_23, e_X10_judge_26, e_X10_judge_27, e_X10_judge_28, e_X10_judge_31, e_X10_judge_32, e_X10_judge_33, e_X10_judge_36, e_X10_judge_37, e_X10_judge_38, e_X10_judge_41, e_X10_judge_42, e_X10_judge_43, e_X10_judge_46, e_X10_judge_49, e_X10_judge_52, e_X10_judge_53, e_X10_judge_54, e_X10_judge_58, e_X10_judge_59, e_X10_judge_62, e_X10_judge_63, e_X10_judge_65, e_X10_judge_68, e_X10_judge_71, e_X10_judge_72, e_X10_judge_74, e_X10_judge_77, e_X10_judge_78, e_X10_judge_81, e_X10_judge_84, e_X10_judge_87, e_X10_judge_89, e_X10_judge_90, e_X10_judge_93, e_X10_judge_95, e_X10_judge_96, e_X10_judge_99, e_X10_judge_102, e_X10_judge_103, e_X10_judge_106, e_X10_judge_107, e_X10_judge_110, e_X10_judge_111, e_X10_judge_114, e_X10_judge_115, vi, vl, vr, oc_X10_error, T_X10_error, oc_X10_outside, T_X10_outside, oc_X4_get, T_X4_get, oc_X4_has, T_X4_has, oc_X5_isMissing, T_X5_isMissing, ix_push, ix_iload, ix_lload, ix_aload, ix_istore, ix_astore, ix_iinc, ix_bin, ix_div, ix_un, ix_i2l, ix_l2i, ix_lbin, ix_lsh, ix_lcmp, ix_dup, ix_dup2, ix_pop, ix_if, ix_cmp, ix_goto, ix_switch, ix_sw, ix_iret, ix_zret, ix_vret, ix_aret, ix_geti, ix_getr, ix_puti, ix_putz, ix_puts, ix_gets, ix_iald, ix_iast, ix_alen, ix_aald, ix_gval, ix_gcod, ix_bald, ix_blen, ix_sald, ix_nret, ix_math2, ix_math1, ix_acopy, Nat.add_assoc, Int32.reduceLT, Int32.reduceLE, Int32.reduceToNatClampNeg, Int32.reduceSub, Int32.reduceAdd, Nat.reduceAdd, Nat.reduceLeDiff, true_or, or_true, or_false, false_or, not_false_eq_true, not_true_eq_false, false_implies, true_implies, implies_true, and_self, mB_0, mB_01, Classical.not_not, Nat.zero_le, List.getElem?_cons_zero, List.getElem?_cons_succ, List.set_cons_zero, List.set_cons_succ, ix_nl, ix_cs, true_and, and_true, Option.toList_some, Option.toList_none, List.cons_append, List.nil_append, c1, hs]
    have q := (hQ i (Nat.le_refl _) hin hj (Or.inl rfl)).2 rfl
    rw [nI_leI (by omega) (by omega)]
    exact ⟨q.1, fun z => q.2 (by omega)⟩
  | succ k ih =>
    intro i hi hin hj
    have c1 : ¬ nI N ≤ nI i := nI_ge (by omega) (by omega)
    have n1 : nI i + 1 = nI (i + 1) := nI_1 i
    have v1 : vp_in (nI i) (ix_len 9) := vp_in_nI (show i < 8 by omega) (by decide)
    have Ic : (nI i).toNatClampNeg = i := nI_clamp (by omega)
    have I0 : ¬ nI i < 0 := nI_pos (by omega)
    rw [e_X10_judge_56]
    simp (decide := true) only [e_X10_judge_0, e_X10_judge_1, e_X10_judge_2, e_X10_judge_5, e_X10_judge_8, e_X10_judge_9, e_X10_judge_10, e_X10_judge_13, e_X10_judge_14, e_X10_judge_15, e_X10_judge_18, e_X10_judge_19, e_X10_judge_20, e_X10_judge_23, e_X10_judge_26, e_X10_judge_27, e_X10_judge_28, e_X10_judge_31, e_X10_judge_32, e_X10_judge_33, e_X10_judge_36, e_X10_judge_37, e_X10_judge_38, e_X10_judge_41, e_X10_judge_42, e_X10_judge_43, e_X10_judge_46, e_X10_judge_49, e_X10_judge_52, e_X10_judge_53, e_X10_judge_54, e_X10_judge_58, e_X10_judge_59, e_X10_judge_62, e_X10_judge_63, e_X10_judge_65, e_X10_judge_68, e_X10_judge_71, e_X10_judge_72, e_X10_judge_74, e_X10_judge_77, e_X10_judge_78, e_X10_judge_81, e_X10_judge_84, e_X10_judge_87, e_X10_judge_89, e_X10_judge_90, e_X10_judge_93, e_X10_judge_95, e_X10_judge_96, e_X10_judge_99, e_X10_judge_102, e_X10_judge_103, e_X10_judge_106, e_X10_judge_107, e_X10_judge_110, e_X10_judge_111, e_X10_judge_114, e_X10_judge_115, vi, vl, vr, oc_X10_error, T_X10_error, oc_X10_outside, T_X10_outside, oc_X4_get, T_X4_get, oc_X4_has, T_X4_has, oc_X5_isMissing, T_X5_isMissing, ix_push, ix_iload, ix_lload, ix_aload, ix_istore, ix_astore, ix_iinc, ix_bin, ix_div, ix_un, ix_i2l, ix_l2i, ix_lbin, ix_lsh, ix_lcmp, ix_dup, ix_dup2, ix_pop, ix_if, ix_cmp, ix_goto, ix_switch, ix_sw, ix_iret, ix_zret, ix_vret, ix_aret, ix_geti, ix_getr, ix_puti, ix_putz, ix_puts, ix_gets, ix_iald, ix_iast, ix_alen, ix_aald, ix_gval, ix_gcod, ix_bald, ix_blen, ix_sald, ix_nret, ix_math2, ix_math1, ix_acopy, Nat.add_assoc, Int32.reduceLT, Int32.reduceLE, Int32.reduceToNatClampNeg, Int32.reduceSub, Int32.reduceAdd, Nat.reduceAdd, Nat.reduceLeDiff, true_or, or_true, or_false, false_or, not_false_eq_true, not_true_eq_false, false_implies, true_implies, implies_true, and_self, mB_0, mB_01, Classical.not_not, Nat.zero_le, List.getElem?_cons_zero, List.getElem?_cons_succ, List.set_cons_zero, List.set_cons_succ, ix_nl, ix_cs, true_and, and_true, Option.toList_some, Option.toList_none, List.cons_append, List.nil_append, c1, n1, v1, Ic, I0, hs, rk]
    by_cases c2 : i = n
    · have z : nI n ≤ nI i := nI_le (by omega) (by omega)
      exact ⟨fun _ => (hQ i (by omega) hin hj (Or.inr (Or.inl c2))).1 (by omega), fun y => absurd z y⟩
    · have z : ¬ nI n ≤ nI i := nI_ge (by omega) (by omega)
      refine ⟨fun y => absurd y z, fun _ => ?_⟩
      rw [if_pos z, ← hg]
      refine ⟨fun y => ih (i + 1) (by omega) (by omega) (fun j hj' => ?_), fun y => (hQ i (by omega) hin hj (Or.inr (Or.inr y))).1 (by omega)⟩
      by_cases c3 : j = i
      · rw [c3]
        exact y
      · exact hj j (by omega)
theorem l_X11_judge {S N n m : Nat} {μ : ix_M} {Q : ix_R → Prop} (hS : S < 4) (hN : N ≤ 8) (hn : n ≤ 40) (hs : μ 124 S = nI n) (hb : μ 113 1 = nI N) (hm : m ≤ N) (hm2 : m ≤ n) (hj : ∀ j, j < m → μ 125 (40 * S + j) = μ 113 (53 + 4 * j)) (hx : m = N ∨ m = n ∨ ¬ μ 125 (40 * S + m) = μ 113 (53 + 4 * m)) (hQ : (m = n ∧ m = N → Q (some (vi (-1)), μ)) ∧ (¬ (m = n ∧ m = N) → Q (some (vi (nI m)), μ))) : ∀ (k i : Nat), i + k = m → ix_Ev o_X11_judge Q (33, [some (vr 10 112), some (vi (nI S)), some (vi (nI i))], [], μ) := by
  have Sc : (nI S).toNatClampNeg = S := nI_clamp (by omega)
  have v4 : vp_in (nI S) 4 := vp_in_nI hS (by decide)
  have e40 : (40 : Int32) * nI S = nI (40 * S) := (Int32.ofNat_mul 40 S).symm
  have e41 : ∀ i, i < 40 → nI (40 * S) + nI i = nI (40 * S + i) ∧ (nI (40 * S + i)).toNatClampNeg = 40 * S + i ∧ vp_in (nI (40 * S + i)) 160 := fun i hi => ⟨nI_add _ _, nI_clamp (by omega), vp_in_nI (by omega) (by decide)⟩
  have bN : ∀ i, i ≤ 8 → ((0 ≤ nI i ∧ nI i ≤ nI N - 1) ↔ i < N) := by
    intro i hi
    rcases inB (nI i) hN with ⟨B, h1, h2, h3, h4, h5, h6⟩ | ⟨h1, h2⟩
    · rw [nI_eq (by omega) (by omega)] at h2
      subst h2
      exact ⟨fun _ => h1, fun _ => ⟨h5, h6⟩⟩
    · refine ⟨fun z => absurd z h2, fun z => ?_⟩
      rcases h1 with h1 | h1
      · exact absurd h1 (nI_pos (by omega))
      · exact absurd h1 (nI_ge z (by omega))
  intro k
  induction k with
  | zero =>
    intro i hi
    have hi : i = m := hi
    subst hi
    have q1 : nI i = nI n ↔ i = n := nI_eq (by omega) (by omega)
    have q2 : nI i = nI N ↔ i = N := nI_eq (by omega) (by omega)
    have q3 : nI n ≤ nI i ↔ n ≤ i := nI_leI (by omega) (by omega)
    have q4 := bN i (by omega)
    have fin : (i = n → (i = N → Q (some (Sum.inl (-1)), μ)) ∧ (¬ i = N → Q (some (Sum.inl (nI i)), μ))) ∧ (¬ i = n → Q (some (Sum.inl (nI i)), μ)) := ⟨fun z => ⟨fun y => hQ.1 ⟨z, y⟩, fun y => hQ.2 (fun w => y w.2)⟩, fun z => hQ.2 (fun w => z w.1)⟩
    rw [e_X11_judge_33]
    simp (decide := true) only [e_X11_judge_0, e_X11_judge_1, e_X11_judge_4, e_X11_judge_7, e_X11_judge_8, e_X11_judge_10, e_X11_judge_13, e_X11_judge_14, e_X11_judge_15, e_X11_judge_18, e_X11_judge_19, e_X11_judge_20, e_X11_judge_23, e_X11_judge_24, e_X11_judge_27, e_X11_judge_30, e_X11_judge_31, e_X11_judge_32, e_X11_judge_34, e_X11_judge_35, e_X11_judge_38, e_X11_judge_39, e_X11_judge_40, e_X11_judge_43, e_X11_judge_44, e_X11_judge_45, e_X11_judge_48, e_X11_judge_51, e_X11_judge_52, e_X11_judge_55, e_X11_judge_57, e_X11_judge_58, e_X11_judge_59, e_X11_judge_60, e_X11_judge_61, e_X11_judge_62, e_X11_judge_63, e_X11_judge_64, e_X11_judge_65, e_X11_judge_68, e_X11_judge_71, e_X11_judge_74, e_X11_judge_77, e_X11_judge_78, e_X11_judge_79, e_X11_judge_82, e_X11_judge_83, e_X11_judge_84, e_X11_judge_87, e_X11_judge_88, e_X11_judge_89, e_X11_judge_92, e_X11_judge_93, e_X11_judge_94, e_X11_judge_97, e_X11_judge_98, e_X11_judge_101, e_X11_judge_102, vi, vl, vr, oc_X11_boatIs, T_X11_boatIs, oc_X11_finding, T_X11_finding, oc_X11_isBoat, T_X11_isBoat, oc_X11_isSheet, T_X11_isSheet, ix_push, ix_iload, ix_lload, ix_aload, ix_istore, ix_astore, ix_iinc, ix_bin, ix_div, ix_un, ix_i2l, ix_l2i, ix_lbin, ix_lsh, ix_lcmp, ix_dup, ix_dup2, ix_pop, ix_if, ix_cmp, ix_goto, ix_switch, ix_sw, ix_iret, ix_zret, ix_vret, ix_aret, ix_geti, ix_getr, ix_puti, ix_putz, ix_puts, ix_gets, ix_iald, ix_iast, ix_alen, ix_aald, ix_gval, ix_gcod, ix_bald, ix_blen, ix_sald, ix_nret, ix_math2, ix_math1, ix_acopy, ml_113, ml_114, ml_115, ml_116, ml_118, ml_119, ml_120, ml_121, ml_122, ml_123, ml_124, ml_125, ml_126, mv_0, mv_1, mv_2, mv_3, mv_4, mv_5, mB_or, Nat.add_assoc, Int32.reduceLT, Int32.reduceLE, Int32.reduceToNatClampNeg, Int32.reduceSub, Int32.reduceAdd, Nat.reduceAdd, Nat.reduceLeDiff, true_or, or_true, or_false, false_or, not_false_eq_true, not_true_eq_false, false_implies, true_implies, implies_true, and_self, mB_0, mB_01, Classical.not_not, Nat.zero_le, List.getElem?_cons_zero, List.getElem?_cons_succ, List.set_cons_zero, List.set_cons_succ, ix_nl, ix_cs, true_and, and_true, Option.toList_some, Option.toList_none, List.cons_append, List.nil_append, hs, hb, Sc, v4, e40, q1, q2, q3, q4]
    refine ⟨fun _ => fin, fun z => ⟨fun _ => fin, fun y => ?_⟩⟩
    have q5 := bx i (by omega)
    have q6 := e41 i (by omega)
    rw [q6.1, q6.2.1, q5.2.2.2.1]
    refine ⟨q6.2.2, q5.2.2.2.2.2.2.2, fun w => ?_, fun _ => fin⟩
    rcases hx with h | h | h
    · omega
    · omega
    · exact absurd w h
  | succ k ih =>
    intro i hi
    have n1 : nI i + 1 = nI (i + 1) := nI_1 i
    have q3 : ¬ nI n ≤ nI i := nI_ge (by omega) (by omega)
    have q4 := (bN i (by omega)).mpr (by omega)
    have q5 := bx i (by omega)
    have q6 := e41 i (by omega)
    have q7 := hj i (by omega)
    rw [e_X11_judge_33]
    simp (decide := true) only [e_X11_judge_0, e_X11_judge_1, e_X11_judge_4, e_X11_judge_7, e_X11_judge_8, e_X11_judge_10, e_X11_judge_13, e_X11_judge_14, e_X11_judge_15, e_X11_judge_18, e_X11_judge_19, e_X11_judge_20, e_X11_judge_23, e_X11_judge_24, e_X11_judge_27, e_X11_judge_30, e_X11_judge_31, e_X11_judge_32, e_X11_judge_34, e_X11_judge_35, e_X11_judge_38, e_X11_judge_39, e_X11_judge_40, e_X11_judge_43, e_X11_judge_44, e_X11_judge_45, e_X11_judge_48, e_X11_judge_51, e_X11_judge_52, e_X11_judge_55, e_X11_judge_57, e_X11_judge_58, e_X11_judge_59, e_X11_judge_60, e_X11_judge_61, e_X11_judge_62, e_X11_judge_63, e_X11_judge_64, e_X11_judge_65, e_X11_judge_68, e_X11_judge_71, e_X11_judge_74, e_X11_judge_77, e_X11_judge_78, e_X11_judge_79, e_X11_judge_82, e_X11_judge_83, e_X11_judge_84, e_X11_judge_87, e_X11_judge_88, e_X11_judge_89, e_X11_judge_92, e_X11_judge_93, e_X11_judge_94, e_X11_judge_97, e_X11_judge_98, e_X11_judge_101, e_X11_judge_102, vi, vl, vr, oc_X11_boatIs, T_X11_boatIs, oc_X11_finding, T_X11_finding, oc_X11_isBoat, T_X11_isBoat, oc_X11_isSheet, T_X11_isSheet, ix_push, ix_iload, ix_lload, ix_aload, ix_istore, ix_astore, ix_iinc, ix_bin, ix_div, ix_un, ix_i2l, ix_l2i, ix_lbin, ix_lsh, ix_lcmp, ix_dup, ix_dup2, ix_pop, ix_if, ix_cmp, ix_goto, ix_switch, ix_sw, ix_iret, ix_zret, ix_vret, ix_aret, ix_geti, ix_getr, ix_puti, ix_putz, ix_puts, ix_gets, ix_iald, ix_iast, ix_alen, ix_aald, ix_gval, ix_gcod, ix_bald, ix_blen, ix_sald, ix_nret, ix_math2, ix_math1, ix_acopy, ml_113, ml_114, ml_115, ml_116, ml_118, ml_119, ml_120, ml_121, ml_122, ml_123, ml_124, ml_125, ml_126, mv_0, mv_1, mv_2, mv_3, mv_4, mv_5, mB_or, Nat.add_assoc, Int32.reduceLT, Int32.reduceLE, Int32.reduceToNatClampNeg, Int32.reduceSub, Int32.reduceAdd, Nat.reduceAdd, Nat.reduceLeDiff, true_or, or_true, or_false, false_or, not_false_eq_true, not_true_eq_false, false_implies, true_implies, implies_true, and_self, mB_0, mB_01, Classical.not_not, Nat.zero_le, List.getElem?_cons_zero, List.getElem?_cons_succ, List.set_cons_zero, List.set_cons_succ, ix_nl, ix_cs, true_and, and_true, Option.toList_some, Option.toList_none, List.cons_append, List.nil_append, hs, hb, Sc, v4, e40, q3, q4, q5, q6, q7, n1]
    exact ih (i + 1) (by omega)
theorem pr_judge (s : Int32) (μ : ix_M) (I : Inv μ) (Q : ix_R → Prop) (hQ : ∀ vv μ', ix_Ev o_X11_judge (Pst vv) (0, [some (vr 10 112), some (vi s), none], [], μ') → Q (some (vi vv), μ')) : ix_Ev o_X10_judge Q (0, [some (vr 9 0), some (vi s), none, none, none], [], μ) := by
  rcases inR s 3 (by decide) with ⟨S, hS, rfl⟩ | ⟨hx1, hx2⟩
  · obtain ⟨S1, S2, S3, S4⟩ : ¬ nI S < 0 ∧ ¬ (3 : Int32) < nI S ∧ 0 ≤ nI S ∧ nI S ≤ (3 : Int32) := rgN hS (by decide)
    have Sc : (nI S).toNatClampNeg = S := nI_clamp (by omega)
    have v4 : vp_in (nI S) 4 := vp_in_nI (by omega) (by decide)
    obtain ⟨N, hN, n1, n2⟩ := I.n
    obtain ⟨h1, N1, hN1, h2, h3, h4⟩ := I.2.2.2.2.1 S (by omega)
    have h2' : μ (99 + (3 * S + 1)) 1 = nI N1 := by rw [show 99 + (3 * S + 1) = 100 + 3 * S by omega]; exact h2
    have h4' : ∀ j, j < N1 → μ (99 + (3 * S + 2)) j = μ 125 (40 * S + j) := fun j hj => by rw [show 99 + (3 * S + 2) = 101 + 3 * S by omega]; exact h4 j hj
    by_cases c : μ 123 S = 0
    · simp (decide := true) only [e_X10_judge_0, e_X10_judge_1, e_X10_judge_2, e_X10_judge_5, e_X10_judge_8, e_X10_judge_9, e_X10_judge_10, e_X10_judge_13, e_X10_judge_14, e_X10_judge_15, e_X10_judge_18, e_X10_judge_19, e_X10_judge_20, e_X10_judge_23, e_X10_judge_26, e_X10_judge_27, e_X10_judge_28, e_X10_judge_31, e_X10_judge_32, e_X10_judge_33, e_X10_judge_36, e_X10_judge_37, e_X10_judge_38, e_X10_judge_41, e_X10_judge_42, e_X10_judge_43, e_X10_judge_46, e_X10_judge_49, e_X10_judge_52, e_X10_judge_53, e_X10_judge_54, e_X10_judge_58, e_X10_judge_59, e_X10_judge_62, e_X10_judge_63, e_X10_judge_65, e_X10_judge_68, e_X10_judge_71, e_X10_judge_72, e_X10_judge_74, e_X10_judge_77, e_X10_judge_78, e_X10_judge_81, e_X10_judge_84, e_X10_judge_87, e_X10_judge_89, e_X10_judge_90, e_X10_judge_93, e_X10_judge_95, e_X10_judge_96, e_X10_judge_99, e_X10_judge_102, e_X10_judge_103, e_X10_judge_106, e_X10_judge_107, e_X10_judge_110, e_X10_judge_111, e_X10_judge_114, e_X10_judge_115, vi, vl, vr, oc_X10_error, T_X10_error, oc_X10_outside, T_X10_outside, oc_X4_get, T_X4_get, oc_X4_has, T_X4_has, oc_X5_isMissing, T_X5_isMissing, ix_push, ix_iload, ix_lload, ix_aload, ix_istore, ix_astore, ix_iinc, ix_bin, ix_div, ix_un, ix_i2l, ix_l2i, ix_lbin, ix_lsh, ix_lcmp, ix_dup, ix_dup2, ix_pop, ix_if, ix_cmp, ix_goto, ix_switch, ix_sw, ix_iret, ix_zret, ix_vret, ix_aret, ix_geti, ix_getr, ix_puti, ix_putz, ix_puts, ix_gets, ix_iald, ix_iast, ix_alen, ix_aald, ix_gval, ix_gcod, ix_bald, ix_blen, ix_sald, ix_nret, ix_math2, ix_math1, ix_acopy, Nat.add_assoc, Int32.reduceLT, Int32.reduceLE, Int32.reduceToNatClampNeg, Int32.reduceSub, Int32.reduceAdd, Nat.reduceAdd, Nat.reduceLeDiff, true_or, or_true, or_false, false_or, not_false_eq_true, not_true_eq_false, false_implies, true_implies, implies_true, and_self, mB_0, mB_01, Classical.not_not, Nat.zero_le, List.getElem?_cons_zero, List.getElem?_cons_succ, List.set_cons_zero, List.set_cons_succ, ix_nl, ix_cs, true_and, and_true, Option.toList_some, Option.toList_none, List.cons_append, List.nil_append, S1, S2, S3, S4, Sc, v4, h1, c, ix_up_ne, ix_up_k, ve_1, ve_2, ve_3, ve_4, ve_5]
      refine hQ _ _ ?_
      simp (decide := true) only [e_X11_judge_0, e_X11_judge_1, e_X11_judge_4, e_X11_judge_7, e_X11_judge_8, e_X11_judge_10, e_X11_judge_13, e_X11_judge_14, e_X11_judge_15, e_X11_judge_18, e_X11_judge_19, e_X11_judge_20, e_X11_judge_23, e_X11_judge_24, e_X11_judge_27, e_X11_judge_30, e_X11_judge_31, e_X11_judge_32, e_X11_judge_34, e_X11_judge_35, e_X11_judge_38, e_X11_judge_39, e_X11_judge_40, e_X11_judge_43, e_X11_judge_44, e_X11_judge_45, e_X11_judge_48, e_X11_judge_51, e_X11_judge_52, e_X11_judge_55, e_X11_judge_57, e_X11_judge_58, e_X11_judge_59, e_X11_judge_60, e_X11_judge_61, e_X11_judge_62, e_X11_judge_63, e_X11_judge_64, e_X11_judge_65, e_X11_judge_68, e_X11_judge_71, e_X11_judge_74, e_X11_judge_77, e_X11_judge_78, e_X11_judge_79, e_X11_judge_82, e_X11_judge_83, e_X11_judge_84, e_X11_judge_87, e_X11_judge_88, e_X11_judge_89, e_X11_judge_92, e_X11_judge_93, e_X11_judge_94, e_X11_judge_97, e_X11_judge_98, e_X11_judge_101, e_X11_judge_102, vi, vl, vr, oc_X11_boatIs, T_X11_boatIs, oc_X11_finding, T_X11_finding, oc_X11_isBoat, T_X11_isBoat, oc_X11_isSheet, T_X11_isSheet, ix_push, ix_iload, ix_lload, ix_aload, ix_istore, ix_astore, ix_iinc, ix_bin, ix_div, ix_un, ix_i2l, ix_l2i, ix_lbin, ix_lsh, ix_lcmp, ix_dup, ix_dup2, ix_pop, ix_if, ix_cmp, ix_goto, ix_switch, ix_sw, ix_iret, ix_zret, ix_vret, ix_aret, ix_geti, ix_getr, ix_puti, ix_putz, ix_puts, ix_gets, ix_iald, ix_iast, ix_alen, ix_aald, ix_gval, ix_gcod, ix_bald, ix_blen, ix_sald, ix_nret, ix_math2, ix_math1, ix_acopy, ml_113, ml_114, ml_115, ml_116, ml_118, ml_119, ml_120, ml_121, ml_122, ml_123, ml_124, ml_125, ml_126, mv_0, mv_1, mv_2, mv_3, mv_4, mv_5, mB_or, Nat.add_assoc, Int32.reduceLT, Int32.reduceLE, Int32.reduceToNatClampNeg, Int32.reduceSub, Int32.reduceAdd, Nat.reduceAdd, Nat.reduceLeDiff, true_or, or_true, or_false, false_or, not_false_eq_true, not_true_eq_false, false_implies, true_implies, implies_true, and_self, mB_0, mB_01, Classical.not_not, Nat.zero_le, List.getElem?_cons_zero, List.getElem?_cons_succ, List.set_cons_zero, List.set_cons_succ, ix_nl, ix_cs, true_and, and_true, Option.toList_some, Option.toList_none, List.cons_append, List.nil_append, S1, S2, S3, S4, Sc, v4, h1, c, ix_up_ne, ix_up_k, ve_1, ve_2, ve_3, ve_4, ve_5]
      repeat' (first | exact I.er 2 (by decide) | refine ⟨fun _ => ?_, fun _ => ?_⟩)
    · simp (decide := true) only [e_X10_judge_0, e_X10_judge_1, e_X10_judge_2, e_X10_judge_5, e_X10_judge_8, e_X10_judge_9, e_X10_judge_10, e_X10_judge_13, e_X10_judge_14, e_X10_judge_15, e_X10_judge_18, e_X10_judge_19, e_X10_judge_20, e_X10_judge_23, e_X10_judge_26, e_X10_judge_27, e_X10_judge_28, e_X10_judge_31, e_X10_judge_32, e_X10_judge_33, e_X10_judge_36, e_X10_judge_37, e_X10_judge_38, e_X10_judge_41, e_X10_judge_42, e_X10_judge_43, e_X10_judge_46, e_X10_judge_49, e_X10_judge_52, e_X10_judge_53, e_X10_judge_54, e_X10_judge_58, e_X10_judge_59, e_X10_judge_62, e_X10_judge_63, e_X10_judge_65, e_X10_judge_68, e_X10_judge_71, e_X10_judge_72, e_X10_judge_74, e_X10_judge_77, e_X10_judge_78, e_X10_judge_81, e_X10_judge_84, e_X10_judge_87, e_X10_judge_89, e_X10_judge_90, e_X10_judge_93, e_X10_judge_95, e_X10_judge_96, e_X10_judge_99, e_X10_judge_102, e_X10_judge_103, e_X10_judge_106, e_X10_judge_107, e_X10_judge_110, e_X10_judge_111, e_X10_judge_114, e_X10_judge_115, vi, vl, vr, oc_X10_error, T_X10_error, oc_X10_outside, T_X10_outside, oc_X4_get, T_X4_get, oc_X4_has, T_X4_has, oc_X5_isMissing, T_X5_isMissing, ix_push, ix_iload, ix_lload, ix_aload, ix_istore, ix_astore, ix_iinc, ix_bin, ix_div, ix_un, ix_i2l, ix_l2i, ix_lbin, ix_lsh, ix_lcmp, ix_dup, ix_dup2, ix_pop, ix_if, ix_cmp, ix_goto, ix_switch, ix_sw, ix_iret, ix_zret, ix_vret, ix_aret, ix_geti, ix_getr, ix_puti, ix_putz, ix_puts, ix_gets, ix_iald, ix_iast, ix_alen, ix_aald, ix_gval, ix_gcod, ix_bald, ix_blen, ix_sald, ix_nret, ix_math2, ix_math1, ix_acopy, Nat.add_assoc, Int32.reduceLT, Int32.reduceLE, Int32.reduceToNatClampNeg, Int32.reduceSub, Int32.reduceAdd, Nat.reduceAdd, Nat.reduceLeDiff, true_or, or_true, or_false, false_or, not_false_eq_true, not_true_eq_false, false_implies, true_implies, implies_true, and_self, mB_0, mB_01, Classical.not_not, Nat.zero_le, List.getElem?_cons_zero, List.getElem?_cons_succ, List.set_cons_zero, List.set_cons_succ, ix_nl, ix_cs, true_and, and_true, Option.toList_some, Option.toList_none, List.cons_append, List.nil_append, S1, S2, S3, S4, Sc, v4, h1, c, n1, ix_up_ne, ix_up_k, ve_1, ve_2, ve_3, ve_4, ve_5]
      refine l_X10_judge (S := S) (N := N) (n := N1) (by omega) hN hN1 h2' rfl (fun m m1 m2 m3 m4 => ?_) N 0 (by omega) (by omega) (fun j hj => absurd hj (Nat.not_lt_zero j))
      have md : ∀ v : Int32, (m = N1 ∧ m = N → v = -1) → (¬ (m = N1 ∧ m = N) → v = nI m) → ix_Ev o_X11_judge (Pst v) (0, [some (vr 10 112), some (vi (nI S)), none], [], μ) := by
        intro v w1 w2
        simp (decide := true) only [e_X11_judge_0, e_X11_judge_1, e_X11_judge_4, e_X11_judge_7, e_X11_judge_8, e_X11_judge_10, e_X11_judge_13, e_X11_judge_14, e_X11_judge_15, e_X11_judge_18, e_X11_judge_19, e_X11_judge_20, e_X11_judge_23, e_X11_judge_24, e_X11_judge_27, e_X11_judge_30, e_X11_judge_31, e_X11_judge_32, e_X11_judge_34, e_X11_judge_35, e_X11_judge_38, e_X11_judge_39, e_X11_judge_40, e_X11_judge_43, e_X11_judge_44, e_X11_judge_45, e_X11_judge_48, e_X11_judge_51, e_X11_judge_52, e_X11_judge_55, e_X11_judge_57, e_X11_judge_58, e_X11_judge_59, e_X11_judge_60, e_X11_judge_61, e_X11_judge_62, e_X11_judge_63, e_X11_judge_64, e_X11_judge_65, e_X11_judge_68, e_X11_judge_71, e_X11_judge_74, e_X11_judge_77, e_X11_judge_78, e_X11_judge_79, e_X11_judge_82, e_X11_judge_83, e_X11_judge_84, e_X11_judge_87, e_X11_judge_88, e_X11_judge_89, e_X11_judge_92, e_X11_judge_93, e_X11_judge_94, e_X11_judge_97, e_X11_judge_98, e_X11_judge_101, e_X11_judge_102, vi, vl, vr, oc_X11_boatIs, T_X11_boatIs, oc_X11_finding, T_X11_finding, oc_X11_isBoat, T_X11_isBoat, oc_X11_isSheet, T_X11_isSheet, ix_push, ix_iload, ix_lload, ix_aload, ix_istore, ix_astore, ix_iinc, ix_bin, ix_div, ix_un, ix_i2l, ix_l2i, ix_lbin, ix_lsh, ix_lcmp, ix_dup, ix_dup2, ix_pop, ix_if, ix_cmp, ix_goto, ix_switch, ix_sw, ix_iret, ix_zret, ix_vret, ix_aret, ix_geti, ix_getr, ix_puti, ix_putz, ix_puts, ix_gets, ix_iald, ix_iast, ix_alen, ix_aald, ix_gval, ix_gcod, ix_bald, ix_blen, ix_sald, ix_nret, ix_math2, ix_math1, ix_acopy, ml_113, ml_114, ml_115, ml_116, ml_118, ml_119, ml_120, ml_121, ml_122, ml_123, ml_124, ml_125, ml_126, mv_0, mv_1, mv_2, mv_3, mv_4, mv_5, mB_or, Nat.add_assoc, Int32.reduceLT, Int32.reduceLE, Int32.reduceToNatClampNeg, Int32.reduceSub, Int32.reduceAdd, Nat.reduceAdd, Nat.reduceLeDiff, true_or, or_true, or_false, false_or, not_false_eq_true, not_true_eq_false, false_implies, true_implies, implies_true, and_self, mB_0, mB_01, Classical.not_not, Nat.zero_le, List.getElem?_cons_zero, List.getElem?_cons_succ, List.set_cons_zero, List.set_cons_succ, ix_nl, ix_cs, true_and, and_true, Option.toList_some, Option.toList_none, List.cons_append, List.nil_append, S1, S2, S3, S4, Sc, v4, c, ix_up_ne, ix_up_k, ve_1, ve_2, ve_3, ve_4, ve_5]
        refine l_X11_judge (S := S) (N := N) (n := N1) (m := m) (by omega) hN hN1 h3 n2 m1 m2 (fun j hj => ?_) ?_ ⟨fun z => pst (w1 z).symm I, fun z => pst (w2 z).symm I⟩ m 0 (by omega)
        · rw [← h4' j (by omega), m3 j hj, I.w7 (by omega)]
        · rcases m4 with h | h | h
          · exact Or.inl h
          · exact Or.inr (Or.inl h)
          · by_cases k : m = N
            · exact Or.inl k
            · by_cases k2 : m = N1
              · exact Or.inr (Or.inl k2)
              · rw [h4' m (by omega), I.w7 (by omega)] at h
                exact Or.inr (Or.inr h)
      refine ⟨fun z => hQ _ _ (md _ (fun y => absurd y.2 (by omega)) (fun _ => rfl)), fun z => ⟨fun y => hQ _ _ (md _ (fun _ => rfl) (fun w => absurd ⟨by omega, z⟩ w)), fun y => hQ _ _ (md _ (fun w => absurd w.1 (by omega)) (fun _ => rfl))⟩⟩
  · have hx1 : s < 0 ∨ (3 : Int32) < s := hx1
    have hx2 : ¬ (0 ≤ s ∧ s ≤ (3 : Int32)) := hx2
    simp (decide := true) only [e_X10_judge_0, e_X10_judge_1, e_X10_judge_2, e_X10_judge_5, e_X10_judge_8, e_X10_judge_9, e_X10_judge_10, e_X10_judge_13, e_X10_judge_14, e_X10_judge_15, e_X10_judge_18, e_X10_judge_19, e_X10_judge_20, e_X10_judge_23, e_X10_judge_26, e_X10_judge_27, e_X10_judge_28, e_X10_judge_31, e_X10_judge_32, e_X10_judge_33, e_X10_judge_36, e_X10_judge_37, e_X10_judge_38, e_X10_judge_41, e_X10_judge_42, e_X10_judge_43, e_X10_judge_46, e_X10_judge_49, e_X10_judge_52, e_X10_judge_53, e_X10_judge_54, e_X10_judge_58, e_X10_judge_59, e_X10_judge_62, e_X10_judge_63, e_X10_judge_65, e_X10_judge_68, e_X10_judge_71, e_X10_judge_72, e_X10_judge_74, e_X10_judge_77, e_X10_judge_78, e_X10_judge_81, e_X10_judge_84, e_X10_judge_87, e_X10_judge_89, e_X10_judge_90, e_X10_judge_93, e_X10_judge_95, e_X10_judge_96, e_X10_judge_99, e_X10_judge_102, e_X10_judge_103, e_X10_judge_106, e_X10_judge_107, e_X10_judge_110, e_X10_judge_111, e_X10_judge_114, e_X10_judge_115, vi, vl, vr, oc_X10_error, T_X10_error, oc_X10_outside, T_X10_outside, oc_X4_get, T_X4_get, oc_X4_has, T_X4_has, oc_X5_isMissing, T_X5_isMissing, ix_push, ix_iload, ix_lload, ix_aload, ix_istore, ix_astore, ix_iinc, ix_bin, ix_div, ix_un, ix_i2l, ix_l2i, ix_lbin, ix_lsh, ix_lcmp, ix_dup, ix_dup2, ix_pop, ix_if, ix_cmp, ix_goto, ix_switch, ix_sw, ix_iret, ix_zret, ix_vret, ix_aret, ix_geti, ix_getr, ix_puti, ix_putz, ix_puts, ix_gets, ix_iald, ix_iast, ix_alen, ix_aald, ix_gval, ix_gcod, ix_bald, ix_blen, ix_sald, ix_nret, ix_math2, ix_math1, ix_acopy, Nat.add_assoc, Int32.reduceLT, Int32.reduceLE, Int32.reduceToNatClampNeg, Int32.reduceSub, Int32.reduceAdd, Nat.reduceAdd, Nat.reduceLeDiff, true_or, or_true, or_false, false_or, not_false_eq_true, not_true_eq_false, false_implies, true_implies, implies_true, and_self, mB_0, mB_01, Classical.not_not, Nat.zero_le, List.getElem?_cons_zero, List.getElem?_cons_succ, List.set_cons_zero, List.set_cons_succ, ix_nl, ix_cs, true_and, and_true, Option.toList_some, Option.toList_none, List.cons_append, List.nil_append, hx1, hx2, ix_up_ne, ix_up_k, ve_1, ve_2, ve_3, ve_4, ve_5]
    refine hQ _ _ ?_
    simp (decide := true) only [e_X11_judge_0, e_X11_judge_1, e_X11_judge_4, e_X11_judge_7, e_X11_judge_8, e_X11_judge_10, e_X11_judge_13, e_X11_judge_14, e_X11_judge_15, e_X11_judge_18, e_X11_judge_19, e_X11_judge_20, e_X11_judge_23, e_X11_judge_24, e_X11_judge_27, e_X11_judge_30, e_X11_judge_31, e_X11_judge_32, e_X11_judge_34, e_X11_judge_35, e_X11_judge_38, e_X11_judge_39, e_X11_judge_40, e_X11_judge_43, e_X11_judge_44, e_X11_judge_45, e_X11_judge_48, e_X11_judge_51, e_X11_judge_52, e_X11_judge_55, e_X11_judge_57, e_X11_judge_58, e_X11_judge_59, e_X11_judge_60, e_X11_judge_61, e_X11_judge_62, e_X11_judge_63, e_X11_judge_64, e_X11_judge_65, e_X11_judge_68, e_X11_judge_71, e_X11_judge_74, e_X11_judge_77, e_X11_judge_78, e_X11_judge_79, e_X11_judge_82, e_X11_judge_83, e_X11_judge_84, e_X11_judge_87, e_X11_judge_88, e_X11_judge_89, e_X11_judge_92, e_X11_judge_93, e_X11_judge_94, e_X11_judge_97, e_X11_judge_98, e_X11_judge_101, e_X11_judge_102, vi, vl, vr, oc_X11_boatIs, T_X11_boatIs, oc_X11_finding, T_X11_finding, oc_X11_isBoat, T_X11_isBoat, oc_X11_isSheet, T_X11_isSheet, ix_push, ix_iload, ix_lload, ix_aload, ix_istore, ix_astore, ix_iinc, ix_bin, ix_div, ix_un, ix_i2l, ix_l2i, ix_lbin, ix_lsh, ix_lcmp, ix_dup, ix_dup2, ix_pop, ix_if, ix_cmp, ix_goto, ix_switch, ix_sw, ix_iret, ix_zret, ix_vret, ix_aret, ix_geti, ix_getr, ix_puti, ix_putz, ix_puts, ix_gets, ix_iald, ix_iast, ix_alen, ix_aald, ix_gval, ix_gcod, ix_bald, ix_blen, ix_sald, ix_nret, ix_math2, ix_math1, ix_acopy, ml_113, ml_114, ml_115, ml_116, ml_118, ml_119, ml_120, ml_121, ml_122, ml_123, ml_124, ml_125, ml_126, mv_0, mv_1, mv_2, mv_3, mv_4, mv_5, mB_or, Nat.add_assoc, Int32.reduceLT, Int32.reduceLE, Int32.reduceToNatClampNeg, Int32.reduceSub, Int32.reduceAdd, Nat.reduceAdd, Nat.reduceLeDiff, true_or, or_true, or_false, false_or, not_false_eq_true, not_true_eq_false, false_implies, true_implies, implies_true, and_self, mB_0, mB_01, Classical.not_not, Nat.zero_le, List.getElem?_cons_zero, List.getElem?_cons_succ, List.set_cons_zero, List.set_cons_succ, ix_nl, ix_cs, true_and, and_true, Option.toList_some, Option.toList_none, List.cons_append, List.nil_append, hx1, hx2, ix_up_ne, ix_up_k, ve_1, ve_2, ve_3, ve_4, ve_5]
    repeat' (first | exact I.er 1 (by decide) | refine ⟨fun _ => ?_, fun _ => ?_⟩)
theorem Inv.shc {μ μ' : ix_M} (I : Inv μ) (hc : ∀ a, ¬ (99 ≤ a ∧ a ≤ 110) → ¬ (123 ≤ a ∧ a ≤ 126) → μ' a = μ a) (h2 : SH μ') : Inv μ' := by
  obtain ⟨i1, i2, i3, i4, i5, ⟨tr, t1, t2, t3⟩, i7, i8, i9⟩ := I
  have e0 := hc 0 (by decide) (by decide)
  have e112 := hc 112 (by decide) (by decide)
  refine ⟨?_, fun z => ?_, by rw [e0, e112]; exact i3, fun k hk => by rw [hc 111 (by decide) (by decide), hc 116 (by decide) (by decide)]; exact i4 k hk, h2, ⟨tr, ⟨by rw [hc 94 (by decide) (by decide)]; exact t1.1, t1.2.1, fun j hj => by rw [hc 95 (by decide) (by decide)]; exact t1.2.2 j hj⟩, by rw [e112]; exact t2, fun j hj => by rw [hc 122 (by decide) (by decide)]; exact t3 j hj⟩, by rw [e112]; exact i7, by rw [hc 97 (by decide) (by decide)]; exact i8, by rw [hc 121 (by decide) (by decide)]; exact i9⟩
  · rw [hc 113 (by decide) (by decide)]
    exact i1.fx (fun a h1 h2 _ _ => hc a (by omega) (by omega)) (fun j _ => rfl)
  · rw [e0] at z
    rw [hc 114 (by decide) (by decide)]
    exact (i2 z).fx (fun a h1 h2 _ _ => hc a (by omega) (by omega)) (fun j _ => rfl)
def o_X10_put : List (Nat × ix_Op) := [
  (0, ix_iload 1 1),
  (1, ix_push (vi 3) 2),
  (2, oc_X10_outside 5),
  (5, ix_if (fun x => x = 0) 14 8),
  (8, ix_aload 0 9),
  (9, ix_push (vi 1) 10),
  (10, oc_X10_error 13),
  (13, ix_iret),
  (14, ix_aload 0 15),
  (15, ix_getr 9 22 (fun _ => 98) 18),
  (18, ix_iload 1 19),
  (19, ix_aald 22 98 4 4 (fun i => 99 + 3 * i) 20),
  (20, oc_X5_isMissing 23),
  (23, ix_if (fun x => x = 0) 32 26),
  (26, ix_aload 0 27),
  (27, ix_push (vi 2) 28),
  (28, oc_X10_error 31),
  (31, ix_iret),
  (32, ix_aload 0 33),
  (33, ix_getr 9 22 (fun _ => 98) 36),
  (36, ix_iload 1 37),
  (37, ix_aald 22 98 4 4 (fun i => 99 + 3 * i) 38),
  (38, ix_getr 4 3 (fun k => k + 1) 41),
  (41, ix_iload 2 42),
  (42, oc_X4_has 45),
  (45, ix_if (fun x => x = 0) 48 54),
  (48, ix_aload 0 49),
  (49, ix_push (vi 1) 50),
  (50, oc_X10_error 53),
  (53, ix_iret),
  (54, ix_aload 0 55),
  (55, ix_getr 9 22 (fun _ => 98) 58),
  (58, ix_iload 1 59),
  (59, ix_aald 22 98 4 4 (fun i => 99 + 3 * i) 60),
  (60, ix_iload 2 61),
  (61, ix_iload 3 62),
  (62, oc_X5_write 65),
  (65, ix_push (vi 1) 66),
  (66, ix_iret)]
set_option maxRecDepth 20000 in
theorem a_X10_put (l : Launch) : ix_AllS l cX10_put 4 RX10 60 (some .int) o_X10_put :=
  .cons (ix_s_iload_n dX10_put_0 rfl) <|
  .cons (ix_s_iconst dX10_put_1 (by decide +kernel)) <|
  .cons (oc_X10_outside_s (ix_s_calls (k_X10_outside l) (by decide) (by decide) tw_291 tw_1 tw_289 tw_290 ⟨by decide, by decide, by decide +kernel⟩ (fun _ => rfl) dX10_put_2)) <|
  .cons (ix_s_if_eq dX10_put_5 (by decide)) <|
  .cons (ix_s_aload_n dX10_put_8 rfl) <|
  .cons (ix_s_iconst dX10_put_9 (by decide +kernel)) <|
  .cons (oc_X10_error_s (ix_s_callv (t := 9) (k_X10_error l) (by decide) (by decide) tw_295 tw_1 tw_292 tw_294 tp_0 ⟨by decide, by decide, by decide +kernel⟩ (by decide) rfl rfl (fun _ => ⟨_, _, rfl, rfl⟩) dX10_put_10)) <|
  .cons (ix_s_iret dX10_put_13 rfl) <|
  .cons (ix_s_aload_n dX10_put_14 rfl) <|
  .cons (ix_s_getr (j := 7) tu_X10 rfl (by decide) (by decide) tw_258 rfl ts_9_7_r dX10_put_15) <|
  .cons (ix_s_iload_n dX10_put_18 rfl) <|
  .cons (ix_s_aald (E0 := ix_tys) (by decide) (by decide +kernel) (fun _ => rfl) (by decide +kernel) dX10_put_19) <|
  .cons (oc_X5_isMissing_s (ix_s_callv (t := 4) (k_X5_isMissing l) (by decide) (by decide) tw_739 tw_11 tw_736 tw_737 tw_738 ⟨by decide, by decide, by decide +kernel⟩ (by decide) rfl rfl (fun _ => ⟨_, _, rfl, rfl⟩) dX10_put_20)) <|
  .cons (ix_s_if_eq dX10_put_23 (by decide)) <|
  .cons (ix_s_aload_n dX10_put_26 rfl) <|
  .cons (ix_s_iconst dX10_put_27 (by decide +kernel)) <|
  .cons (oc_X10_error_s (ix_s_callv (t := 9) (k_X10_error l) (by decide) (by decide) tw_295 tw_1 tw_292 tw_294 tp_0 ⟨by decide, by decide, by decide +kernel⟩ (by decide) rfl rfl (fun _ => ⟨_, _, rfl, rfl⟩) dX10_put_28)) <|
  .cons (ix_s_iret dX10_put_31 rfl) <|
  .cons (ix_s_aload_n dX10_put_32 rfl) <|
  .cons (ix_s_getr (j := 7) tu_X10 rfl (by decide) (by decide) tw_258 rfl ts_9_7_r dX10_put_33) <|
  .cons (ix_s_iload_n dX10_put_36 rfl) <|
  .cons (ix_s_aald (E0 := ix_tys) (by decide) (by decide +kernel) (fun _ => rfl) (by decide +kernel) dX10_put_37) <|
  .cons (ix_s_getr (j := 0) tu_X5 rfl (by decide) (by decide) tw_243 rfl ts_4_0_r dX10_put_38) <|
  .cons (ix_s_iload_n dX10_put_41 rfl) <|
  .cons (oc_X4_has_s (ix_s_callv (t := 3) (k_X4_has l) (by decide) (by decide) tw_474 tw_6 tw_790 tw_472 tw_473 ⟨by decide, by decide, by decide +kernel⟩ (by decide) rfl rfl (fun _ => ⟨_, _, rfl, rfl⟩) dX10_put_42)) <|
  .cons (ix_s_if_ne dX10_put_45 (by decide)) <|
  .cons (ix_s_aload_n dX10_put_48 rfl) <|
  .cons (ix_s_iconst dX10_put_49 (by decide +kernel)) <|
  .cons (oc_X10_error_s (ix_s_callv (t := 9) (k_X10_error l) (by decide) (by decide) tw_295 tw_1 tw_292 tw_294 tp_0 ⟨by decide, by decide, by decide +kernel⟩ (by decide) rfl rfl (fun _ => ⟨_, _, rfl, rfl⟩) dX10_put_50)) <|
  .cons (ix_s_iret dX10_put_53 rfl) <|
  .cons (ix_s_aload_n dX10_put_54 rfl) <|
  .cons (ix_s_getr (j := 7) tu_X10 rfl (by decide) (by decide) tw_258 rfl ts_9_7_r dX10_put_55) <|
  .cons (ix_s_iload_n dX10_put_58 rfl) <|
  .cons (ix_s_aald (E0 := ix_tys) (by decide) (by decide +kernel) (fun _ => rfl) (by decide +kernel) dX10_put_59) <|
  .cons (ix_s_iload_n dX10_put_60 rfl) <|
  .cons (ix_s_iload_n dX10_put_61 rfl) <|
  .cons (oc_X5_write_s (ix_s_callv (t := 4) (k_X5_write l) (by decide) (by decide) tw_808 tw_11 tw_805 tw_806 tw_807 ⟨by decide, by decide, by decide +kernel⟩ (by decide) rfl rfl (fun _ => ⟨_, _, rfl, rfl⟩) dX10_put_62)) <|
  .cons (ix_s_iconst dX10_put_65 (by decide +kernel)) <|
  .cons (ix_s_iret dX10_put_66 rfl) <| .nil
theorem e_X10_put_0 (Q : ix_R → Prop) (ls : ix_L) (st : List ix_V) (μ : ix_M) : ix_Ev o_X10_put Q (0, ls, st, μ) = ix_iload 1 1 (ix_Ev o_X10_put Q) Q ls st μ := ix_Ev.eq (a_X10_put launch0) rfl ls st μ
theorem e_X10_put_1 (Q : ix_R → Prop) (ls : ix_L) (st : List ix_V) (μ : ix_M) : ix_Ev o_X10_put Q (1, ls, st, μ) = ix_push (vi 3) 2 (ix_Ev o_X10_put Q) Q ls st μ := ix_Ev.eq (a_X10_put launch0) rfl ls st μ
theorem e_X10_put_2 (Q : ix_R → Prop) (ls : ix_L) (st : List ix_V) (μ : ix_M) : ix_Ev o_X10_put Q (2, ls, st, μ) = oc_X10_outside 5 (ix_Ev o_X10_put Q) Q ls st μ := ix_Ev.eq (a_X10_put launch0) rfl ls st μ
theorem e_X10_put_5 (Q : ix_R → Prop) (ls : ix_L) (st : List ix_V) (μ : ix_M) : ix_Ev o_X10_put Q (5, ls, st, μ) = ix_if (fun x => x = 0) 14 8 (ix_Ev o_X10_put Q) Q ls st μ := ix_Ev.eq (a_X10_put launch0) rfl ls st μ
theorem e_X10_put_8 (Q : ix_R → Prop) (ls : ix_L) (st : List ix_V) (μ : ix_M) : ix_Ev o_X10_put Q (8, ls, st, μ) = ix_aload 0 9 (ix_Ev o_X10_put Q) Q ls st μ := ix_Ev.eq (a_X10_put launch0) rfl ls st μ
theorem e_X10_put_9 (Q : ix_R → Prop) (ls : ix_L) (st : List ix_V) (μ : ix_M) : ix_Ev o_X10_put Q (9, ls, st, μ) = ix_push (vi 1) 10 (ix_Ev o_X10_put Q) Q ls st μ := ix_Ev.eq (a_X10_put launch0) rfl ls st μ
theorem e_X10_put_10 (Q : ix_R → Prop) (ls : ix_L) (st : List ix_V) (μ : ix_M) : ix_Ev o_X10_put Q (10, ls, st, μ) = oc_X10_error 13 (ix_Ev o_X10_put Q) Q ls st μ := ix_Ev.eq (a_X10_put launch0) rfl ls st μ
theorem e_X10_put_13 (Q : ix_R → Prop) (ls : ix_L) (st : List ix_V) (μ : ix_M) : ix_Ev o_X10_put Q (13, ls, st, μ) = ix_iret (ix_Ev o_X10_put Q) Q ls st μ := ix_Ev.eq (a_X10_put launch0) rfl ls st μ
theorem e_X10_put_14 (Q : ix_R → Prop) (ls : ix_L) (st : List ix_V) (μ : ix_M) : ix_Ev o_X10_put Q (14, ls, st, μ) = ix_aload 0 15 (ix_Ev o_X10_put Q) Q ls st μ := ix_Ev.eq (a_X10_put launch0) rfl ls st μ
theorem e_X10_put_15 (Q : ix_R → Prop) (ls : ix_L) (st : List ix_V) (μ : ix_M) : ix_Ev o_X10_put Q (15, ls, st, μ) = ix_getr 9 22 (fun _ => 98) 18 (ix_Ev o_X10_put Q) Q ls st μ := ix_Ev.eq (a_X10_put launch0) rfl ls st μ
theorem e_X10_put_18 (Q : ix_R → Prop) (ls : ix_L) (st : List ix_V) (μ : ix_M) : ix_Ev o_X10_put Q (18, ls, st, μ) = ix_iload 1 19 (ix_Ev o_X10_put Q) Q ls st μ := ix_Ev.eq (a_X10_put launch0) rfl ls st μ
theorem e_X10_put_19 (Q : ix_R → Prop) (ls : ix_L) (st : List ix_V) (μ : ix_M) : ix_Ev o_X10_put Q (19, ls, st, μ) = ix_aald 22 98 4 4 (fun i => 99 + 3 * i) 20 (ix_Ev o_X10_put Q) Q ls st μ := ix_Ev.eq (a_X10_put launch0) rfl ls st μ
theorem e_X10_put_20 (Q : ix_R → Prop) (ls : ix_L) (st : List ix_V) (μ : ix_M) : ix_Ev o_X10_put Q (20, ls, st, μ) = oc_X5_isMissing 23 (ix_Ev o_X10_put Q) Q ls st μ := ix_Ev.eq (a_X10_put launch0) rfl ls st μ
theorem e_X10_put_23 (Q : ix_R → Prop) (ls : ix_L) (st : List ix_V) (μ : ix_M) : ix_Ev o_X10_put Q (23, ls, st, μ) = ix_if (fun x => x = 0) 32 26 (ix_Ev o_X10_put Q) Q ls st μ := ix_Ev.eq (a_X10_put launch0) rfl ls st μ
theorem e_X10_put_26 (Q : ix_R → Prop) (ls : ix_L) (st : List ix_V) (μ : ix_M) : ix_Ev o_X10_put Q (26, ls, st, μ) = ix_aload 0 27 (ix_Ev o_X10_put Q) Q ls st μ := ix_Ev.eq (a_X10_put launch0) rfl ls st μ
theorem e_X10_put_27 (Q : ix_R → Prop) (ls : ix_L) (st : List ix_V) (μ : ix_M) : ix_Ev o_X10_put Q (27, ls, st, μ) = ix_push (vi 2) 28 (ix_Ev o_X10_put Q) Q ls st μ := ix_Ev.eq (a_X10_put launch0) rfl ls st μ
theorem e_X10_put_28 (Q : ix_R → Prop) (ls : ix_L) (st : List ix_V) (μ : ix_M) : ix_Ev o_X10_put Q (28, ls, st, μ) = oc_X10_error 31 (ix_Ev o_X10_put Q) Q ls st μ := ix_Ev.eq (a_X10_put launch0) rfl ls st μ
theorem e_X10_put_31 (Q : ix_R → Prop) (ls : ix_L) (st : List ix_V) (μ : ix_M) : ix_Ev o_X10_put Q (31, ls, st, μ) = ix_iret (ix_Ev o_X10_put Q) Q ls st μ := ix_Ev.eq (a_X10_put launch0) rfl ls st μ
theorem e_X10_put_32 (Q : ix_R → Prop) (ls : ix_L) (st : List ix_V) (μ : ix_M) : ix_Ev o_X10_put Q (32, ls, st, μ) = ix_aload 0 33 (ix_Ev o_X10_put Q) Q ls st μ := ix_Ev.eq (a_X10_put launch0) rfl ls st μ
theorem e_X10_put_33 (Q : ix_R → Prop) (ls : ix_L) (st : List ix_V) (μ : ix_M) : ix_Ev o_X10_put Q (33, ls, st, μ) = ix_getr 9 22 (fun _ => 98) 36 (ix_Ev o_X10_put Q) Q ls st μ := ix_Ev.eq (a_X10_put launch0) rfl ls st μ
theorem e_X10_put_36 (Q : ix_R → Prop) (ls : ix_L) (st : List ix_V) (μ : ix_M) : ix_Ev o_X10_put Q (36, ls, st, μ) = ix_iload 1 37 (ix_Ev o_X10_put Q) Q ls st μ := ix_Ev.eq (a_X10_put launch0) rfl ls st μ
theorem e_X10_put_37 (Q : ix_R → Prop) (ls : ix_L) (st : List ix_V) (μ : ix_M) : ix_Ev o_X10_put Q (37, ls, st, μ) = ix_aald 22 98 4 4 (fun i => 99 + 3 * i) 38 (ix_Ev o_X10_put Q) Q ls st μ := ix_Ev.eq (a_X10_put launch0) rfl ls st μ
theorem e_X10_put_38 (Q : ix_R → Prop) (ls : ix_L) (st : List ix_V) (μ : ix_M) : ix_Ev o_X10_put Q (38, ls, st, μ) = ix_getr 4 3 (fun k => k + 1) 41 (ix_Ev o_X10_put Q) Q ls st μ := ix_Ev.eq (a_X10_put launch0) rfl ls st μ
theorem e_X10_put_41 (Q : ix_R → Prop) (ls : ix_L) (st : List ix_V) (μ : ix_M) : ix_Ev o_X10_put Q (41, ls, st, μ) = ix_iload 2 42 (ix_Ev o_X10_put Q) Q ls st μ := ix_Ev.eq (a_X10_put launch0) rfl ls st μ
theorem e_X10_put_42 (Q : ix_R → Prop) (ls : ix_L) (st : List ix_V) (μ : ix_M) : ix_Ev o_X10_put Q (42, ls, st, μ) = oc_X4_has 45 (ix_Ev o_X10_put Q) Q ls st μ := ix_Ev.eq (a_X10_put launch0) rfl ls st μ
theorem e_X10_put_45 (Q : ix_R → Prop) (ls : ix_L) (st : List ix_V) (μ : ix_M) : ix_Ev o_X10_put Q (45, ls, st, μ) = ix_if (fun x => x = 0) 48 54 (ix_Ev o_X10_put Q) Q ls st μ := ix_Ev.eq (a_X10_put launch0) rfl ls st μ
theorem e_X10_put_48 (Q : ix_R → Prop) (ls : ix_L) (st : List ix_V) (μ : ix_M) : ix_Ev o_X10_put Q (48, ls, st, μ) = ix_aload 0 49 (ix_Ev o_X10_put Q) Q ls st μ := ix_Ev.eq (a_X10_put launch0) rfl ls st μ
theorem e_X10_put_49 (Q : ix_R → Prop) (ls : ix_L) (st : List ix_V) (μ : ix_M) : ix_Ev o_X10_put Q (49, ls, st, μ) = ix_push (vi 1) 50 (ix_Ev o_X10_put Q) Q ls st μ := ix_Ev.eq (a_X10_put launch0) rfl ls st μ
theorem e_X10_put_50 (Q : ix_R → Prop) (ls : ix_L) (st : List ix_V) (μ : ix_M) : ix_Ev o_X10_put Q (50, ls, st, μ) = oc_X10_error 53 (ix_Ev o_X10_put Q) Q ls st μ := ix_Ev.eq (a_X10_put launch0) rfl ls st μ
theorem e_X10_put_53 (Q : ix_R → Prop) (ls : ix_L) (st : List ix_V) (μ : ix_M) : ix_Ev o_X10_put Q (53, ls, st, μ) = ix_iret (ix_Ev o_X10_put Q) Q ls st μ := ix_Ev.eq (a_X10_put launch0) rfl ls st μ
theorem e_X10_put_54 (Q : ix_R → Prop) (ls : ix_L) (st : List ix_V) (μ : ix_M) : ix_Ev o_X10_put Q (54, ls, st, μ) = ix_aload 0 55 (ix_Ev o_X10_put Q) Q ls st μ := ix_Ev.eq (a_X10_put launch0) rfl ls st μ
theorem e_X10_put_55 (Q : ix_R → Prop) (ls : ix_L) (st : List ix_V) (μ : ix_M) : ix_Ev o_X10_put Q (55, ls, st, μ) = ix_getr 9 22 (fun _ => 98) 58 (ix_Ev o_X10_put Q) Q ls st μ := ix_Ev.eq (a_X10_put launch0) rfl ls st μ
theorem e_X10_put_58 (Q : ix_R → Prop) (ls : ix_L) (st : List ix_V) (μ : ix_M) : ix_Ev o_X10_put Q (58, ls, st, μ) = ix_iload 1 59 (ix_Ev o_X10_put Q) Q ls st μ := ix_Ev.eq (a_X10_put launch0) rfl ls st μ
theorem e_X10_put_59 (Q : ix_R → Prop) (ls : ix_L) (st : List ix_V) (μ : ix_M) : ix_Ev o_X10_put Q (59, ls, st, μ) = ix_aald 22 98 4 4 (fun i => 99 + 3 * i) 60 (ix_Ev o_X10_put Q) Q ls st μ := ix_Ev.eq (a_X10_put launch0) rfl ls st μ
theorem e_X10_put_60 (Q : ix_R → Prop) (ls : ix_L) (st : List ix_V) (μ : ix_M) : ix_Ev o_X10_put Q (60, ls, st, μ) = ix_iload 2 61 (ix_Ev o_X10_put Q) Q ls st μ := ix_Ev.eq (a_X10_put launch0) rfl ls st μ
theorem e_X10_put_61 (Q : ix_R → Prop) (ls : ix_L) (st : List ix_V) (μ : ix_M) : ix_Ev o_X10_put Q (61, ls, st, μ) = ix_iload 3 62 (ix_Ev o_X10_put Q) Q ls st μ := ix_Ev.eq (a_X10_put launch0) rfl ls st μ
theorem e_X10_put_62 (Q : ix_R → Prop) (ls : ix_L) (st : List ix_V) (μ : ix_M) : ix_Ev o_X10_put Q (62, ls, st, μ) = oc_X5_write 65 (ix_Ev o_X10_put Q) Q ls st μ := ix_Ev.eq (a_X10_put launch0) rfl ls st μ
theorem e_X10_put_65 (Q : ix_R → Prop) (ls : ix_L) (st : List ix_V) (μ : ix_M) : ix_Ev o_X10_put Q (65, ls, st, μ) = ix_push (vi 1) 66 (ix_Ev o_X10_put Q) Q ls st μ := ix_Ev.eq (a_X10_put launch0) rfl ls st μ
theorem e_X10_put_66 (Q : ix_R → Prop) (ls : ix_L) (st : List ix_V) (μ : ix_M) : ix_Ev o_X10_put Q (66, ls, st, μ) = ix_iret (ix_Ev o_X10_put Q) Q ls st μ := ix_Ev.eq (a_X10_put launch0) rfl ls st μ
def o_X11_put : List (Nat × ix_Op) := [
  (0, ix_iload 1 1),
  (1, oc_X11_isSheet 4),
  (4, ix_if (fun x => x = 0) 7 14),
  (7, ix_aload 0 8),
  (8, ix_push (vi (-1000000001)) 10),
  (10, oc_X11_finding 13),
  (13, ix_iret),
  (14, ix_aload 0 15),
  (15, ix_getr 10 20 (fun _ => 123) 18),
  (18, ix_iload 1 19),
  (19, ix_iald 20),
  (20, ix_if (fun x => x = 0) 23 31),
  (23, ix_aload 0 24),
  (24, ix_push (vi (-1000000002)) 27),
  (27, oc_X11_finding 30),
  (30, ix_iret),
  (31, ix_iload 2 32),
  (32, ix_push (vi 0) 33),
  (33, ix_aload 0 34),
  (34, ix_getr 10 20 (fun _ => 124) 37),
  (37, ix_iload 1 38),
  (38, ix_iald 39),
  (39, ix_push (vi 1) 40),
  (40, ix_bin (fun x y => x - y) 41),
  (41, oc_X11_within 44),
  (44, ix_if (fun x => x = 0) 47 54),
  (47, ix_aload 0 48),
  (48, ix_push (vi (-1000000001)) 50),
  (50, oc_X11_finding 53),
  (53, ix_iret),
  (54, ix_aload 0 55),
  (55, ix_getr 10 20 (fun _ => 125) 58),
  (58, ix_push (vi 40) 60),
  (60, ix_iload 1 61),
  (61, ix_bin (fun x y => x * y) 62),
  (62, ix_iload 2 63),
  (63, ix_bin (fun x y => x + y) 64),
  (64, ix_aload 0 65),
  (65, ix_getr 10 20 (fun _ => 123) 68),
  (68, ix_iload 1 69),
  (69, ix_iald 70),
  (70, ix_push (vi 8) 72),
  (72, ix_cmp (fun x y => x = y) 75 80),
  (75, ix_iload 3 76),
  (76, ix_un (fun x => x.toInt8.toInt32) 77),
  (77, ix_goto 97),
  (80, ix_aload 0 81),
  (81, ix_getr 10 20 (fun _ => 123) 84),
  (84, ix_iload 1 85),
  (85, ix_iald 86),
  (86, ix_push (vi 16) 88),
  (88, ix_cmp (fun x y => x = y) 91 96),
  (91, ix_iload 3 92),
  (92, ix_un (fun x => x.toInt16.toInt32) 93),
  (93, ix_goto 97),
  (96, ix_iload 3 97),
  (97, ix_iast 98),
  (98, ix_push (vi 1) 99),
  (99, ix_iret)]
set_option maxRecDepth 20000 in
theorem a_X11_put (l : Launch) : ix_AllS l cX11_put 4 RX11 60 (some .int) o_X11_put :=
  .cons (ix_s_iload_n dX11_put_0 rfl) <|
  .cons (oc_X11_isSheet_s (ix_s_calls (k_X11_isSheet l) (by decide) (by decide) tw_1305 tw_12 tw_1303 tw_1304 ⟨by decide, by decide, by decide +kernel⟩ (fun _ => rfl) dX11_put_1)) <|
  .cons (ix_s_if_ne dX11_put_4 (by decide)) <|
  .cons (ix_s_aload_n dX11_put_7 rfl) <|
  .cons (ix_s_ldc tw_961 dX11_put_8) <|
  .cons (oc_X11_finding_s (ix_s_callv (t := 10) (k_X11_finding l) (by decide) (by decide) tw_965 tw_12 tw_962 tw_964 tp_18 ⟨by decide, by decide, by decide +kernel⟩ (by decide) rfl rfl (fun _ => ⟨_, _, rfl, rfl⟩) dX11_put_10)) <|
  .cons (ix_s_iret dX11_put_13 rfl) <|
  .cons (ix_s_aload_n dX11_put_14 rfl) <|
  .cons (ix_s_getr (j := 22) tu_X11 rfl (by decide) (by decide) tw_897 rfl ts_10_22_r dX11_put_15) <|
  .cons (ix_s_iload_n dX11_put_18 rfl) <|
  .cons (ix_s_iald dX11_put_19) <|
  .cons (ix_s_if_ne dX11_put_20 (by decide)) <|
  .cons (ix_s_aload_n dX11_put_23 rfl) <|
  .cons (ix_s_ldcw tw_1238 dX11_put_24) <|
  .cons (oc_X11_finding_s (ix_s_callv (t := 10) (k_X11_finding l) (by decide) (by decide) tw_965 tw_12 tw_962 tw_964 tp_18 ⟨by decide, by decide, by decide +kernel⟩ (by decide) rfl rfl (fun _ => ⟨_, _, rfl, rfl⟩) dX11_put_27)) <|
  .cons (ix_s_iret dX11_put_30 rfl) <|
  .cons (ix_s_iload_n dX11_put_31 rfl) <|
  .cons (ix_s_iconst dX11_put_32 (by decide +kernel)) <|
  .cons (ix_s_aload_n dX11_put_33 rfl) <|
  .cons (ix_s_getr (j := 23) tu_X11 rfl (by decide) (by decide) tw_898 rfl ts_10_23_r dX11_put_34) <|
  .cons (ix_s_iload_n dX11_put_37 rfl) <|
  .cons (ix_s_iald dX11_put_38) <|
  .cons (ix_s_iconst dX11_put_39 (by decide +kernel)) <|
  .cons (ix_s_isub dX11_put_40) <|
  .cons (oc_X11_within_s (ix_s_calls (k_X11_within l) (by decide) (by decide) tw_960 tw_12 tw_958 tw_959 ⟨by decide, by decide, by decide +kernel⟩ (fun _ => rfl) dX11_put_41)) <|
  .cons (ix_s_if_ne dX11_put_44 (by decide)) <|
  .cons (ix_s_aload_n dX11_put_47 rfl) <|
  .cons (ix_s_ldc tw_961 dX11_put_48) <|
  .cons (oc_X11_finding_s (ix_s_callv (t := 10) (k_X11_finding l) (by decide) (by decide) tw_965 tw_12 tw_962 tw_964 tp_18 ⟨by decide, by decide, by decide +kernel⟩ (by decide) rfl rfl (fun _ => ⟨_, _, rfl, rfl⟩) dX11_put_50)) <|
  .cons (ix_s_iret dX11_put_53 rfl) <|
  .cons (ix_s_aload_n dX11_put_54 rfl) <|
  .cons (ix_s_getr (j := 24) tu_X11 rfl (by decide) (by decide) tw_899 rfl ts_10_24_r dX11_put_55) <|
  .cons (ix_s_bipush dX11_put_58 (by decide +kernel)) <|
  .cons (ix_s_iload_n dX11_put_60 rfl) <|
  .cons (ix_s_imul dX11_put_61) <|
  .cons (ix_s_iload_n dX11_put_62 rfl) <|
  .cons (ix_s_iadd dX11_put_63) <|
  .cons (ix_s_aload_n dX11_put_64 rfl) <|
  .cons (ix_s_getr (j := 22) tu_X11 rfl (by decide) (by decide) tw_897 rfl ts_10_22_r dX11_put_65) <|
  .cons (ix_s_iload_n dX11_put_68 rfl) <|
  .cons (ix_s_iald dX11_put_69) <|
  .cons (ix_s_bipush dX11_put_70 (by decide +kernel)) <|
  .cons (ix_s_cmp_ne dX11_put_72 (by decide)) <|
  .cons (ix_s_iload_n dX11_put_75 rfl) <|
  .cons (ix_s_i2b dX11_put_76) <|
  .cons (ix_s_goto dX11_put_77 (by decide)) <|
  .cons (ix_s_aload_n dX11_put_80 rfl) <|
  .cons (ix_s_getr (j := 22) tu_X11 rfl (by decide) (by decide) tw_897 rfl ts_10_22_r dX11_put_81) <|
  .cons (ix_s_iload_n dX11_put_84 rfl) <|
  .cons (ix_s_iald dX11_put_85) <|
  .cons (ix_s_bipush dX11_put_86 (by decide +kernel)) <|
  .cons (ix_s_cmp_ne dX11_put_88 (by decide)) <|
  .cons (ix_s_iload_n dX11_put_91 rfl) <|
  .cons (ix_s_i2s dX11_put_92) <|
  .cons (ix_s_goto dX11_put_93 (by decide)) <|
  .cons (ix_s_iload_n dX11_put_96 rfl) <|
  .cons (ix_s_iast dX11_put_97) <|
  .cons (ix_s_iconst dX11_put_98 (by decide +kernel)) <|
  .cons (ix_s_iret dX11_put_99 rfl) <| .nil
theorem e_X11_put_0 (Q : ix_R → Prop) (ls : ix_L) (st : List ix_V) (μ : ix_M) : ix_Ev o_X11_put Q (0, ls, st, μ) = ix_iload 1 1 (ix_Ev o_X11_put Q) Q ls st μ := ix_Ev.eq (a_X11_put launch0) rfl ls st μ
theorem e_X11_put_1 (Q : ix_R → Prop) (ls : ix_L) (st : List ix_V) (μ : ix_M) : ix_Ev o_X11_put Q (1, ls, st, μ) = oc_X11_isSheet 4 (ix_Ev o_X11_put Q) Q ls st μ := ix_Ev.eq (a_X11_put launch0) rfl ls st μ
theorem e_X11_put_4 (Q : ix_R → Prop) (ls : ix_L) (st : List ix_V) (μ : ix_M) : ix_Ev o_X11_put Q (4, ls, st, μ) = ix_if (fun x => x = 0) 7 14 (ix_Ev o_X11_put Q) Q ls st μ := ix_Ev.eq (a_X11_put launch0) rfl ls st μ
theorem e_X11_put_7 (Q : ix_R → Prop) (ls : ix_L) (st : List ix_V) (μ : ix_M) : ix_Ev o_X11_put Q (7, ls, st, μ) = ix_aload 0 8 (ix_Ev o_X11_put Q) Q ls st μ := ix_Ev.eq (a_X11_put launch0) rfl ls st μ
theorem e_X11_put_8 (Q : ix_R → Prop) (ls : ix_L) (st : List ix_V) (μ : ix_M) : ix_Ev o_X11_put Q (8, ls, st, μ) = ix_push (vi (-1000000001)) 10 (ix_Ev o_X11_put Q) Q ls st μ := ix_Ev.eq (a_X11_put launch0) rfl ls st μ
theorem e_X11_put_10 (Q : ix_R → Prop) (ls : ix_L) (st : List ix_V) (μ : ix_M) : ix_Ev o_X11_put Q (10, ls, st, μ) = oc_X11_finding 13 (ix_Ev o_X11_put Q) Q ls st μ := ix_Ev.eq (a_X11_put launch0) rfl ls st μ
theorem e_X11_put_13 (Q : ix_R → Prop) (ls : ix_L) (st : List ix_V) (μ : ix_M) : ix_Ev o_X11_put Q (13, ls, st, μ) = ix_iret (ix_Ev o_X11_put Q) Q ls st μ := ix_Ev.eq (a_X11_put launch0) rfl ls st μ
theorem e_X11_put_14 (Q : ix_R → Prop) (ls : ix_L) (st : List ix_V) (μ : ix_M) : ix_Ev o_X11_put Q (14, ls, st, μ) = ix_aload 0 15 (ix_Ev o_X11_put Q) Q ls st μ := ix_Ev.eq (a_X11_put launch0) rfl ls st μ
theorem e_X11_put_15 (Q : ix_R → Prop) (ls : ix_L) (st : List ix_V) (μ : ix_M) : ix_Ev o_X11_put Q (15, ls, st, μ) = ix_getr 10 20 (fun _ => 123) 18 (ix_Ev o_X11_put Q) Q ls st μ := ix_Ev.eq (a_X11_put launch0) rfl ls st μ
theorem e_X11_put_18 (Q : ix_R → Prop) (ls : ix_L) (st : List ix_V) (μ : ix_M) : ix_Ev o_X11_put Q (18, ls, st, μ) = ix_iload 1 19 (ix_Ev o_X11_put Q) Q ls st μ := ix_Ev.eq (a_X11_put launch0) rfl ls st μ
theorem e_X11_put_19 (Q : ix_R → Prop) (ls : ix_L) (st : List ix_V) (μ : ix_M) : ix_Ev o_X11_put Q (19, ls, st, μ) = ix_iald 20 (ix_Ev o_X11_put Q) Q ls st μ := ix_Ev.eq (a_X11_put launch0) rfl ls st μ
theorem e_X11_put_20 (Q : ix_R → Prop) (ls : ix_L) (st : List ix_V) (μ : ix_M) : ix_Ev o_X11_put Q (20, ls, st, μ) = ix_if (fun x => x = 0) 23 31 (ix_Ev o_X11_put Q) Q ls st μ := ix_Ev.eq (a_X11_put launch0) rfl ls st μ
theorem e_X11_put_23 (Q : ix_R → Prop) (ls : ix_L) (st : List ix_V) (μ : ix_M) : ix_Ev o_X11_put Q (23, ls, st, μ) = ix_aload 0 24 (ix_Ev o_X11_put Q) Q ls st μ := ix_Ev.eq (a_X11_put launch0) rfl ls st μ
theorem e_X11_put_24 (Q : ix_R → Prop) (ls : ix_L) (st : List ix_V) (μ : ix_M) : ix_Ev o_X11_put Q (24, ls, st, μ) = ix_push (vi (-1000000002)) 27 (ix_Ev o_X11_put Q) Q ls st μ := ix_Ev.eq (a_X11_put launch0) rfl ls st μ
theorem e_X11_put_27 (Q : ix_R → Prop) (ls : ix_L) (st : List ix_V) (μ : ix_M) : ix_Ev o_X11_put Q (27, ls, st, μ) = oc_X11_finding 30 (ix_Ev o_X11_put Q) Q ls st μ := ix_Ev.eq (a_X11_put launch0) rfl ls st μ
theorem e_X11_put_30 (Q : ix_R → Prop) (ls : ix_L) (st : List ix_V) (μ : ix_M) : ix_Ev o_X11_put Q (30, ls, st, μ) = ix_iret (ix_Ev o_X11_put Q) Q ls st μ := ix_Ev.eq (a_X11_put launch0) rfl ls st μ
theorem e_X11_put_31 (Q : ix_R → Prop) (ls : ix_L) (st : List ix_V) (μ : ix_M) : ix_Ev o_X11_put Q (31, ls, st, μ) = ix_iload 2 32 (ix_Ev o_X11_put Q) Q ls st μ := ix_Ev.eq (a_X11_put launch0) rfl ls st μ
theorem e_X11_put_32 (Q : ix_R → Prop) (ls : ix_L) (st : List ix_V) (μ : ix_M) : ix_Ev o_X11_put Q (32, ls, st, μ) = ix_push (vi 0) 33 (ix_Ev o_X11_put Q) Q ls st μ := ix_Ev.eq (a_X11_put launch0) rfl ls st μ
theorem e_X11_put_33 (Q : ix_R → Prop) (ls : ix_L) (st : List ix_V) (μ : ix_M) : ix_Ev o_X11_put Q (33, ls, st, μ) = ix_aload 0 34 (ix_Ev o_X11_put Q) Q ls st μ := ix_Ev.eq (a_X11_put launch0) rfl ls st μ
theorem e_X11_put_34 (Q : ix_R → Prop) (ls : ix_L) (st : List ix_V) (μ : ix_M) : ix_Ev o_X11_put Q (34, ls, st, μ) = ix_getr 10 20 (fun _ => 124) 37 (ix_Ev o_X11_put Q) Q ls st μ := ix_Ev.eq (a_X11_put launch0) rfl ls st μ
theorem e_X11_put_37 (Q : ix_R → Prop) (ls : ix_L) (st : List ix_V) (μ : ix_M) : ix_Ev o_X11_put Q (37, ls, st, μ) = ix_iload 1 38 (ix_Ev o_X11_put Q) Q ls st μ := ix_Ev.eq (a_X11_put launch0) rfl ls st μ
theorem e_X11_put_38 (Q : ix_R → Prop) (ls : ix_L) (st : List ix_V) (μ : ix_M) : ix_Ev o_X11_put Q (38, ls, st, μ) = ix_iald 39 (ix_Ev o_X11_put Q) Q ls st μ := ix_Ev.eq (a_X11_put launch0) rfl ls st μ
theorem e_X11_put_39 (Q : ix_R → Prop) (ls : ix_L) (st : List ix_V) (μ : ix_M) : ix_Ev o_X11_put Q (39, ls, st, μ) = ix_push (vi 1) 40 (ix_Ev o_X11_put Q) Q ls st μ := ix_Ev.eq (a_X11_put launch0) rfl ls st μ
theorem e_X11_put_40 (Q : ix_R → Prop) (ls : ix_L) (st : List ix_V) (μ : ix_M) : ix_Ev o_X11_put Q (40, ls, st, μ) = ix_bin (fun x y => x - y) 41 (ix_Ev o_X11_put Q) Q ls st μ := ix_Ev.eq (a_X11_put launch0) rfl ls st μ
theorem e_X11_put_41 (Q : ix_R → Prop) (ls : ix_L) (st : List ix_V) (μ : ix_M) : ix_Ev o_X11_put Q (41, ls, st, μ) = oc_X11_within 44 (ix_Ev o_X11_put Q) Q ls st μ := ix_Ev.eq (a_X11_put launch0) rfl ls st μ
theorem e_X11_put_44 (Q : ix_R → Prop) (ls : ix_L) (st : List ix_V) (μ : ix_M) : ix_Ev o_X11_put Q (44, ls, st, μ) = ix_if (fun x => x = 0) 47 54 (ix_Ev o_X11_put Q) Q ls st μ := ix_Ev.eq (a_X11_put launch0) rfl ls st μ
theorem e_X11_put_47 (Q : ix_R → Prop) (ls : ix_L) (st : List ix_V) (μ : ix_M) : ix_Ev o_X11_put Q (47, ls, st, μ) = ix_aload 0 48 (ix_Ev o_X11_put Q) Q ls st μ := ix_Ev.eq (a_X11_put launch0) rfl ls st μ
theorem e_X11_put_48 (Q : ix_R → Prop) (ls : ix_L) (st : List ix_V) (μ : ix_M) : ix_Ev o_X11_put Q (48, ls, st, μ) = ix_push (vi (-1000000001)) 50 (ix_Ev o_X11_put Q) Q ls st μ := ix_Ev.eq (a_X11_put launch0) rfl ls st μ
theorem e_X11_put_50 (Q : ix_R → Prop) (ls : ix_L) (st : List ix_V) (μ : ix_M) : ix_Ev o_X11_put Q (50, ls, st, μ) = oc_X11_finding 53 (ix_Ev o_X11_put Q) Q ls st μ := ix_Ev.eq (a_X11_put launch0) rfl ls st μ
theorem e_X11_put_53 (Q : ix_R → Prop) (ls : ix_L) (st : List ix_V) (μ : ix_M) : ix_Ev o_X11_put Q (53, ls, st, μ) = ix_iret (ix_Ev o_X11_put Q) Q ls st μ := ix_Ev.eq (a_X11_put launch0) rfl ls st μ
theorem e_X11_put_54 (Q : ix_R → Prop) (ls : ix_L) (st : List ix_V) (μ : ix_M) : ix_Ev o_X11_put Q (54, ls, st, μ) = ix_aload 0 55 (ix_Ev o_X11_put Q) Q ls st μ := ix_Ev.eq (a_X11_put launch0) rfl ls st μ
theorem e_X11_put_55 (Q : ix_R → Prop) (ls : ix_L) (st : List ix_V) (μ : ix_M) : ix_Ev o_X11_put Q (55, ls, st, μ) = ix_getr 10 20 (fun _ => 125) 58 (ix_Ev o_X11_put Q) Q ls st μ := ix_Ev.eq (a_X11_put launch0) rfl ls st μ
theorem e_X11_put_58 (Q : ix_R → Prop) (ls : ix_L) (st : List ix_V) (μ : ix_M) : ix_Ev o_X11_put Q (58, ls, st, μ) = ix_push (vi 40) 60 (ix_Ev o_X11_put Q) Q ls st μ := ix_Ev.eq (a_X11_put launch0) rfl ls st μ
theorem e_X11_put_60 (Q : ix_R → Prop) (ls : ix_L) (st : List ix_V) (μ : ix_M) : ix_Ev o_X11_put Q (60, ls, st, μ) = ix_iload 1 61 (ix_Ev o_X11_put Q) Q ls st μ := ix_Ev.eq (a_X11_put launch0) rfl ls st μ
theorem e_X11_put_61 (Q : ix_R → Prop) (ls : ix_L) (st : List ix_V) (μ : ix_M) : ix_Ev o_X11_put Q (61, ls, st, μ) = ix_bin (fun x y => x * y) 62 (ix_Ev o_X11_put Q) Q ls st μ := ix_Ev.eq (a_X11_put launch0) rfl ls st μ
theorem e_X11_put_62 (Q : ix_R → Prop) (ls : ix_L) (st : List ix_V) (μ : ix_M) : ix_Ev o_X11_put Q (62, ls, st, μ) = ix_iload 2 63 (ix_Ev o_X11_put Q) Q ls st μ := ix_Ev.eq (a_X11_put launch0) rfl ls st μ
theorem e_X11_put_63 (Q : ix_R → Prop) (ls : ix_L) (st : List ix_V) (μ : ix_M) : ix_Ev o_X11_put Q (63, ls, st, μ) = ix_bin (fun x y => x + y) 64 (ix_Ev o_X11_put Q) Q ls st μ := ix_Ev.eq (a_X11_put launch0) rfl ls st μ
theorem e_X11_put_64 (Q : ix_R → Prop) (ls : ix_L) (st : List ix_V) (μ : ix_M) : ix_Ev o_X11_put Q (64, ls, st, μ) = ix_aload 0 65 (ix_Ev o_X11_put Q) Q ls st μ := ix_Ev.eq (a_X11_put launch0) rfl ls st μ
theorem e_X11_put_65 (Q : ix_R → Prop) (ls : ix_L) (st : List ix_V) (μ : ix_M) : ix_Ev o_X11_put Q (65, ls, st, μ) = ix_getr 10 20 (fun _ => 123) 68 (ix_Ev o_X11_put Q) Q ls st μ := ix_Ev.eq (a_X11_put launch0) rfl ls st μ
theorem e_X11_put_68 (Q : ix_R → Prop) (ls : ix_L) (st : List ix_V) (μ : ix_M) : ix_Ev o_X11_put Q (68, ls, st, μ) = ix_iload 1 69 (ix_Ev o_X11_put Q) Q ls st μ := ix_Ev.eq (a_X11_put launch0) rfl ls st μ
theorem e_X11_put_69 (Q : ix_R → Prop) (ls : ix_L) (st : List ix_V) (μ : ix_M) : ix_Ev o_X11_put Q (69, ls, st, μ) = ix_iald 70 (ix_Ev o_X11_put Q) Q ls st μ := ix_Ev.eq (a_X11_put launch0) rfl ls st μ
theorem e_X11_put_70 (Q : ix_R → Prop) (ls : ix_L) (st : List ix_V) (μ : ix_M) : ix_Ev o_X11_put Q (70, ls, st, μ) = ix_push (vi 8) 72 (ix_Ev o_X11_put Q) Q ls st μ := ix_Ev.eq (a_X11_put launch0) rfl ls st μ
theorem e_X11_put_72 (Q : ix_R → Prop) (ls : ix_L) (st : List ix_V) (μ : ix_M) : ix_Ev o_X11_put Q (72, ls, st, μ) = ix_cmp (fun x y => x = y) 75 80 (ix_Ev o_X11_put Q) Q ls st μ := ix_Ev.eq (a_X11_put launch0) rfl ls st μ
theorem e_X11_put_75 (Q : ix_R → Prop) (ls : ix_L) (st : List ix_V) (μ : ix_M) : ix_Ev o_X11_put Q (75, ls, st, μ) = ix_iload 3 76 (ix_Ev o_X11_put Q) Q ls st μ := ix_Ev.eq (a_X11_put launch0) rfl ls st μ
theorem e_X11_put_76 (Q : ix_R → Prop) (ls : ix_L) (st : List ix_V) (μ : ix_M) : ix_Ev o_X11_put Q (76, ls, st, μ) = ix_un (fun x => x.toInt8.toInt32) 77 (ix_Ev o_X11_put Q) Q ls st μ := ix_Ev.eq (a_X11_put launch0) rfl ls st μ
theorem e_X11_put_77 (Q : ix_R → Prop) (ls : ix_L) (st : List ix_V) (μ : ix_M) : ix_Ev o_X11_put Q (77, ls, st, μ) = ix_goto 97 (ix_Ev o_X11_put Q) Q ls st μ := ix_Ev.eq (a_X11_put launch0) rfl ls st μ
theorem e_X11_put_80 (Q : ix_R → Prop) (ls : ix_L) (st : List ix_V) (μ : ix_M) : ix_Ev o_X11_put Q (80, ls, st, μ) = ix_aload 0 81 (ix_Ev o_X11_put Q) Q ls st μ := ix_Ev.eq (a_X11_put launch0) rfl ls st μ
theorem e_X11_put_81 (Q : ix_R → Prop) (ls : ix_L) (st : List ix_V) (μ : ix_M) : ix_Ev o_X11_put Q (81, ls, st, μ) = ix_getr 10 20 (fun _ => 123) 84 (ix_Ev o_X11_put Q) Q ls st μ := ix_Ev.eq (a_X11_put launch0) rfl ls st μ
theorem e_X11_put_84 (Q : ix_R → Prop) (ls : ix_L) (st : List ix_V) (μ : ix_M) : ix_Ev o_X11_put Q (84, ls, st, μ) = ix_iload 1 85 (ix_Ev o_X11_put Q) Q ls st μ := ix_Ev.eq (a_X11_put launch0) rfl ls st μ
theorem e_X11_put_85 (Q : ix_R → Prop) (ls : ix_L) (st : List ix_V) (μ : ix_M) : ix_Ev o_X11_put Q (85, ls, st, μ) = ix_iald 86 (ix_Ev o_X11_put Q) Q ls st μ := ix_Ev.eq (a_X11_put launch0) rfl ls st μ
theorem e_X11_put_86 (Q : ix_R → Prop) (ls : ix_L) (st : List ix_V) (μ : ix_M) : ix_Ev o_X11_put Q (86, ls, st, μ) = ix_push (vi 16) 88 (ix_Ev o_X11_put Q) Q ls st μ := ix_Ev.eq (a_X11_put launch0) rfl ls st μ
theorem e_X11_put_88 (Q : ix_R → Prop) (ls : ix_L) (st : List ix_V) (μ : ix_M) : ix_Ev o_X11_put Q (88, ls, st, μ) = ix_cmp (fun x y => x = y) 91 96 (ix_Ev o_X11_put Q) Q ls st μ := ix_Ev.eq (a_X11_put launch0) rfl ls st μ
theorem e_X11_put_91 (Q : ix_R → Prop) (ls : ix_L) (st : List ix_V) (μ : ix_M) : ix_Ev o_X11_put Q (91, ls, st, μ) = ix_iload 3 92 (ix_Ev o_X11_put Q) Q ls st μ := ix_Ev.eq (a_X11_put launch0) rfl ls st μ
theorem e_X11_put_92 (Q : ix_R → Prop) (ls : ix_L) (st : List ix_V) (μ : ix_M) : ix_Ev o_X11_put Q (92, ls, st, μ) = ix_un (fun x => x.toInt16.toInt32) 93 (ix_Ev o_X11_put Q) Q ls st μ := ix_Ev.eq (a_X11_put launch0) rfl ls st μ
theorem e_X11_put_93 (Q : ix_R → Prop) (ls : ix_L) (st : List ix_V) (μ : ix_M) : ix_Ev o_X11_put Q (93, ls, st, μ) = ix_goto 97 (ix_Ev o_X11_put Q) Q ls st μ := ix_Ev.eq (a_X11_put launch0) rfl ls st μ
theorem e_X11_put_96 (Q : ix_R → Prop) (ls : ix_L) (st : List ix_V) (μ : ix_M) : ix_Ev o_X11_put Q (96, ls, st, μ) = ix_iload 3 97 (ix_Ev o_X11_put Q) Q ls st μ := ix_Ev.eq (a_X11_put launch0) rfl ls st μ
theorem e_X11_put_97 (Q : ix_R → Prop) (ls : ix_L) (st : List ix_V) (μ : ix_M) : ix_Ev o_X11_put Q (97, ls, st, μ) = ix_iast 98 (ix_Ev o_X11_put Q) Q ls st μ := ix_Ev.eq (a_X11_put launch0) rfl ls st μ
theorem e_X11_put_98 (Q : ix_R → Prop) (ls : ix_L) (st : List ix_V) (μ : ix_M) : ix_Ev o_X11_put Q (98, ls, st, μ) = ix_push (vi 1) 99 (ix_Ev o_X11_put Q) Q ls st μ := ix_Ev.eq (a_X11_put launch0) rfl ls st μ
theorem e_X11_put_99 (Q : ix_R → Prop) (ls : ix_L) (st : List ix_V) (μ : ix_M) : ix_Ev o_X11_put Q (99, ls, st, μ) = ix_iret (ix_Ev o_X11_put Q) Q ls st μ := ix_Ev.eq (a_X11_put launch0) rfl ls st μ
theorem pr_put (s : Int32) (i : Int32) (v : Int32) (μ : ix_M) (I : Inv μ) (Q : ix_R → Prop) (hQ : ∀ vv μ', ix_Ev o_X11_put (Pst vv) (0, [some (vr 10 112), some (vi s), some (vi i), some (vi v)], [], μ') → Q (some (vi vv), μ')) : ix_Ev o_X10_put Q (0, [some (vr 9 0), some (vi s), some (vi i), some (vi v)], [], μ) := by
  rcases inR s 3 (by decide) with ⟨S, hS, rfl⟩ | ⟨hx1, hx2⟩
  · obtain ⟨S1, S2, S3, S4⟩ : ¬ nI S < 0 ∧ ¬ (3 : Int32) < nI S ∧ 0 ≤ nI S ∧ nI S ≤ (3 : Int32) := rgN hS (by decide)
    have Sc : (nI S).toNatClampNeg = S := nI_clamp (by omega)
    have v4 : vp_in (nI S) 4 := vp_in_nI (by omega) (by decide)
    obtain ⟨h1, N1, hN1, h2, h3, h4⟩ := I.2.2.2.2.1 S (by omega)
    have h2' : μ (99 + (3 * S + 1)) 1 = nI N1 := by rw [show 99 + (3 * S + 1) = 100 + 3 * S by omega]; exact h2
    by_cases c : μ 123 S = 0
    · simp (decide := true) only [e_X10_put_0, e_X10_put_1, e_X10_put_2, e_X10_put_5, e_X10_put_8, e_X10_put_9, e_X10_put_10, e_X10_put_13, e_X10_put_14, e_X10_put_15, e_X10_put_18, e_X10_put_19, e_X10_put_20, e_X10_put_23, e_X10_put_26, e_X10_put_27, e_X10_put_28, e_X10_put_31, e_X10_put_32, e_X10_put_33, e_X10_put_36, e_X10_put_37, e_X10_put_38, e_X10_put_41, e_X10_put_42, e_X10_put_45, e_X10_put_48, e_X10_put_49, e_X10_put_50, e_X10_put_53, e_X10_put_54, e_X10_put_55, e_X10_put_58, e_X10_put_59, e_X10_put_60, e_X10_put_61, e_X10_put_62, e_X10_put_65, e_X10_put_66, vi, vl, vr, oc_X10_error, T_X10_error, oc_X10_outside, T_X10_outside, oc_X4_has, T_X4_has, oc_X5_isMissing, T_X5_isMissing, oc_X5_write, T_X5_write, ix_push, ix_iload, ix_lload, ix_aload, ix_istore, ix_astore, ix_iinc, ix_bin, ix_div, ix_un, ix_i2l, ix_l2i, ix_lbin, ix_lsh, ix_lcmp, ix_dup, ix_dup2, ix_pop, ix_if, ix_cmp, ix_goto, ix_switch, ix_sw, ix_iret, ix_zret, ix_vret, ix_aret, ix_geti, ix_getr, ix_puti, ix_putz, ix_puts, ix_gets, ix_iald, ix_iast, ix_alen, ix_aald, ix_gval, ix_gcod, ix_bald, ix_blen, ix_sald, ix_nret, ix_math2, ix_math1, ix_acopy, Nat.add_assoc, Int32.reduceLT, Int32.reduceLE, Int32.reduceToNatClampNeg, Int32.reduceSub, Int32.reduceAdd, Nat.reduceAdd, Nat.reduceLeDiff, true_or, or_true, or_false, false_or, not_false_eq_true, not_true_eq_false, false_implies, true_implies, implies_true, and_self, mB_0, mB_01, Classical.not_not, Nat.zero_le, List.getElem?_cons_zero, List.getElem?_cons_succ, List.set_cons_zero, List.set_cons_succ, ix_nl, ix_cs, true_and, and_true, Option.toList_some, Option.toList_none, List.cons_append, List.nil_append, S1, S2, S3, S4, Sc, v4, h1, c, ix_up_ne, ix_up_k, ve_1, ve_2, ve_3, ve_4, ve_5]
      refine hQ _ _ ?_
      simp (decide := true) only [e_X11_put_0, e_X11_put_1, e_X11_put_4, e_X11_put_7, e_X11_put_8, e_X11_put_10, e_X11_put_13, e_X11_put_14, e_X11_put_15, e_X11_put_18, e_X11_put_19, e_X11_put_20, e_X11_put_23, e_X11_put_24, e_X11_put_27, e_X11_put_30, e_X11_put_31, e_X11_put_32, e_X11_put_33, e_X11_put_34, e_X11_put_37, e_X11_put_38, e_X11_put_39, e_X11_put_40, e_X11_put_41, e_X11_put_44, e_X11_put_47, e_X11_put_48, e_X11_put_50, e_X11_put_53, e_X11_put_54, e_X11_put_55, e_X11_put_58, e_X11_put_60, e_X11_put_61, e_X11_put_62, e_X11_put_63, e_X11_put_64, e_X11_put_65, e_X11_put_68, e_X11_put_69, e_X11_put_70, e_X11_put_72, e_X11_put_75, e_X11_put_76, e_X11_put_77, e_X11_put_80, e_X11_put_81, e_X11_put_84, e_X11_put_85, e_X11_put_86, e_X11_put_88, e_X11_put_91, e_X11_put_92, e_X11_put_93, e_X11_put_96, e_X11_put_97, e_X11_put_98, e_X11_put_99, vi, vl, vr, oc_X11_finding, T_X11_finding, oc_X11_isSheet, T_X11_isSheet, oc_X11_within, T_X11_within, ix_push, ix_iload, ix_lload, ix_aload, ix_istore, ix_astore, ix_iinc, ix_bin, ix_div, ix_un, ix_i2l, ix_l2i, ix_lbin, ix_lsh, ix_lcmp, ix_dup, ix_dup2, ix_pop, ix_if, ix_cmp, ix_goto, ix_switch, ix_sw, ix_iret, ix_zret, ix_vret, ix_aret, ix_geti, ix_getr, ix_puti, ix_putz, ix_puts, ix_gets, ix_iald, ix_iast, ix_alen, ix_aald, ix_gval, ix_gcod, ix_bald, ix_blen, ix_sald, ix_nret, ix_math2, ix_math1, ix_acopy, ml_113, ml_114, ml_115, ml_116, ml_118, ml_119, ml_120, ml_121, ml_122, ml_123, ml_124, ml_125, ml_126, mv_0, mv_1, mv_2, mv_3, mv_4, mv_5, mB_or, Nat.add_assoc, Int32.reduceLT, Int32.reduceLE, Int32.reduceToNatClampNeg, Int32.reduceSub, Int32.reduceAdd, Nat.reduceAdd, Nat.reduceLeDiff, true_or, or_true, or_false, false_or, not_false_eq_true, not_true_eq_false, false_implies, true_implies, implies_true, and_self, mB_0, mB_01, Classical.not_not, Nat.zero_le, List.getElem?_cons_zero, List.getElem?_cons_succ, List.set_cons_zero, List.set_cons_succ, ix_nl, ix_cs, true_and, and_true, Option.toList_some, Option.toList_none, List.cons_append, List.nil_append, S1, S2, S3, S4, Sc, v4, h1, c, ix_up_ne, ix_up_k, ve_1, ve_2, ve_3, ve_4, ve_5]
      repeat' (first | exact I.er 2 (by decide) | refine ⟨fun _ => ?_, fun _ => ?_⟩)
    · rcases inS i (N := N1) (by omega) with ⟨J, hJ, rfl, J1, J2, J3, J4⟩ | ⟨g1, g2, g3⟩
      · have rk : RowOk μ (99 + (3 * S + 1)) := rowOk h2' hN1 (shLen S (by omega)) (by decide)
        have Jc : (nI J).toNatClampNeg = J := nI_clamp (by omega)
        have e40 : (40 : Int32) * nI S = nI (40 * S) := (Int32.ofNat_mul 40 S).symm
        have e41 : nI (40 * S) + nI J = nI (40 * S + J) := nI_add _ _
        have e42 : (nI (40 * S + J)).toNatClampNeg = 40 * S + J := nI_clamp (by omega)
        have e43 : vp_in (nI (40 * S + J)) 160 := vp_in_nI (by omega) (by decide)
        simp (decide := true) only [e_X10_put_0, e_X10_put_1, e_X10_put_2, e_X10_put_5, e_X10_put_8, e_X10_put_9, e_X10_put_10, e_X10_put_13, e_X10_put_14, e_X10_put_15, e_X10_put_18, e_X10_put_19, e_X10_put_20, e_X10_put_23, e_X10_put_26, e_X10_put_27, e_X10_put_28, e_X10_put_31, e_X10_put_32, e_X10_put_33, e_X10_put_36, e_X10_put_37, e_X10_put_38, e_X10_put_41, e_X10_put_42, e_X10_put_45, e_X10_put_48, e_X10_put_49, e_X10_put_50, e_X10_put_53, e_X10_put_54, e_X10_put_55, e_X10_put_58, e_X10_put_59, e_X10_put_60, e_X10_put_61, e_X10_put_62, e_X10_put_65, e_X10_put_66, vi, vl, vr, oc_X10_error, T_X10_error, oc_X10_outside, T_X10_outside, oc_X4_has, T_X4_has, oc_X5_isMissing, T_X5_isMissing, oc_X5_write, T_X5_write, ix_push, ix_iload, ix_lload, ix_aload, ix_istore, ix_astore, ix_iinc, ix_bin, ix_div, ix_un, ix_i2l, ix_l2i, ix_lbin, ix_lsh, ix_lcmp, ix_dup, ix_dup2, ix_pop, ix_if, ix_cmp, ix_goto, ix_switch, ix_sw, ix_iret, ix_zret, ix_vret, ix_aret, ix_geti, ix_getr, ix_puti, ix_putz, ix_puts, ix_gets, ix_iald, ix_iast, ix_alen, ix_aald, ix_gval, ix_gcod, ix_bald, ix_blen, ix_sald, ix_nret, ix_math2, ix_math1, ix_acopy, Nat.add_assoc, Int32.reduceLT, Int32.reduceLE, Int32.reduceToNatClampNeg, Int32.reduceSub, Int32.reduceAdd, Nat.reduceAdd, Nat.reduceLeDiff, true_or, or_true, or_false, false_or, not_false_eq_true, not_true_eq_false, false_implies, true_implies, implies_true, and_self, mB_0, mB_01, Classical.not_not, Nat.zero_le, List.getElem?_cons_zero, List.getElem?_cons_succ, List.set_cons_zero, List.set_cons_succ, ix_nl, ix_cs, true_and, and_true, Option.toList_some, Option.toList_none, List.cons_append, List.nil_append, S1, S2, S3, S4, Sc, v4, h1, c, h2', rk, J1, J2, J3, J4, Jc, ix_up_ne, ix_up_k, ve_1, ve_2, ve_3, ve_4, ve_5]
        refine hQ _ _ ?_
        rw [if_pos trivial]
        have h3' : ix_up μ (99 + (3 * S + 2)) J (mNar (μ 123 S) v) 124 S = nI N1 := by rw [ix_up_ne (by omega)]; exact h3
        have e123 : ix_up μ (99 + (3 * S + 2)) J (mNar (μ 123 S) v) 123 = μ 123 := ix_up_ne (by omega)
        have fin : ∀ y, y = mNar (μ 123 S) v → Pst 1 (some (Sum.inl 1), ix_up (ix_up μ (99 + (3 * S + 2)) J (mNar (μ 123 S) v)) 125 (40 * S + J) y) := by
          rintro y rfl
          refine pst rfl (I.shc (fun a k1 k2 => by rw [ix_up_ne (by omega), ix_up_ne (by omega)]) (fun i hi => ?_))
          obtain ⟨p1, n, p2, p3, p4, p5⟩ := I.2.2.2.2.1 i hi
          refine ⟨by rw [ix_up_ne (by omega), ix_up_ne (by omega), ix_up_ne (by omega), ix_up_ne (by omega)]; exact p1, n, p2, by rw [ix_up_ne (by omega), ix_up_ne (by omega)]; exact p3, by rw [ix_up_ne (by omega), ix_up_ne (by omega)]; exact p4, fun j hj => ?_⟩
          rw [ix_up_ne (show 101 + 3 * i ≠ 125 by omega), ix_up_ap, ix_up_ap]
          by_cases k : i = S ∧ j = J
          · rw [if_pos (by omega), if_pos (by omega)]
          · rw [if_neg (by omega), if_neg (by omega), ix_up_ne (by omega)]
            exact p5 j hj
        simp (decide := true) only [e_X11_put_0, e_X11_put_1, e_X11_put_4, e_X11_put_7, e_X11_put_8, e_X11_put_10, e_X11_put_13, e_X11_put_14, e_X11_put_15, e_X11_put_18, e_X11_put_19, e_X11_put_20, e_X11_put_23, e_X11_put_24, e_X11_put_27, e_X11_put_30, e_X11_put_31, e_X11_put_32, e_X11_put_33, e_X11_put_34, e_X11_put_37, e_X11_put_38, e_X11_put_39, e_X11_put_40, e_X11_put_41, e_X11_put_44, e_X11_put_47, e_X11_put_48, e_X11_put_50, e_X11_put_53, e_X11_put_54, e_X11_put_55, e_X11_put_58, e_X11_put_60, e_X11_put_61, e_X11_put_62, e_X11_put_63, e_X11_put_64, e_X11_put_65, e_X11_put_68, e_X11_put_69, e_X11_put_70, e_X11_put_72, e_X11_put_75, e_X11_put_76, e_X11_put_77, e_X11_put_80, e_X11_put_81, e_X11_put_84, e_X11_put_85, e_X11_put_86, e_X11_put_88, e_X11_put_91, e_X11_put_92, e_X11_put_93, e_X11_put_96, e_X11_put_97, e_X11_put_98, e_X11_put_99, vi, vl, vr, oc_X11_finding, T_X11_finding, oc_X11_isSheet, T_X11_isSheet, oc_X11_within, T_X11_within, ix_push, ix_iload, ix_lload, ix_aload, ix_istore, ix_astore, ix_iinc, ix_bin, ix_div, ix_un, ix_i2l, ix_l2i, ix_lbin, ix_lsh, ix_lcmp, ix_dup, ix_dup2, ix_pop, ix_if, ix_cmp, ix_goto, ix_switch, ix_sw, ix_iret, ix_zret, ix_vret, ix_aret, ix_geti, ix_getr, ix_puti, ix_putz, ix_puts, ix_gets, ix_iald, ix_iast, ix_alen, ix_aald, ix_gval, ix_gcod, ix_bald, ix_blen, ix_sald, ix_nret, ix_math2, ix_math1, ix_acopy, ml_113, ml_114, ml_115, ml_116, ml_118, ml_119, ml_120, ml_121, ml_122, ml_123, ml_124, ml_125, ml_126, mv_0, mv_1, mv_2, mv_3, mv_4, mv_5, mB_or, Nat.add_assoc, Int32.reduceLT, Int32.reduceLE, Int32.reduceToNatClampNeg, Int32.reduceSub, Int32.reduceAdd, Nat.reduceAdd, Nat.reduceLeDiff, true_or, or_true, or_false, false_or, not_false_eq_true, not_true_eq_false, false_implies, true_implies, implies_true, and_self, mB_0, mB_01, Classical.not_not, Nat.zero_le, List.getElem?_cons_zero, List.getElem?_cons_succ, List.set_cons_zero, List.set_cons_succ, ix_nl, ix_cs, true_and, and_true, Option.toList_some, Option.toList_none, List.cons_append, List.nil_append, S1, S2, S3, S4, Sc, v4, c, h3', e123, J1, J2, J3, J4, Jc, e40, e41, e42, e43, ix_up_ne, ix_up_k, ve_1, ve_2, ve_3, ve_4, ve_5]
        exact ⟨fun z => fin _ (by rw [mNar, if_pos z]), fun z => ⟨fun y => fin _ (by rw [mNar, if_neg z, if_pos y]), fun y => fin _ (by rw [mNar, if_neg z, if_neg y])⟩⟩
      · simp (decide := true) only [e_X10_put_0, e_X10_put_1, e_X10_put_2, e_X10_put_5, e_X10_put_8, e_X10_put_9, e_X10_put_10, e_X10_put_13, e_X10_put_14, e_X10_put_15, e_X10_put_18, e_X10_put_19, e_X10_put_20, e_X10_put_23, e_X10_put_26, e_X10_put_27, e_X10_put_28, e_X10_put_31, e_X10_put_32, e_X10_put_33, e_X10_put_36, e_X10_put_37, e_X10_put_38, e_X10_put_41, e_X10_put_42, e_X10_put_45, e_X10_put_48, e_X10_put_49, e_X10_put_50, e_X10_put_53, e_X10_put_54, e_X10_put_55, e_X10_put_58, e_X10_put_59, e_X10_put_60, e_X10_put_61, e_X10_put_62, e_X10_put_65, e_X10_put_66, vi, vl, vr, oc_X10_error, T_X10_error, oc_X10_outside, T_X10_outside, oc_X4_has, T_X4_has, oc_X5_isMissing, T_X5_isMissing, oc_X5_write, T_X5_write, ix_push, ix_iload, ix_lload, ix_aload, ix_istore, ix_astore, ix_iinc, ix_bin, ix_div, ix_un, ix_i2l, ix_l2i, ix_lbin, ix_lsh, ix_lcmp, ix_dup, ix_dup2, ix_pop, ix_if, ix_cmp, ix_goto, ix_switch, ix_sw, ix_iret, ix_zret, ix_vret, ix_aret, ix_geti, ix_getr, ix_puti, ix_putz, ix_puts, ix_gets, ix_iald, ix_iast, ix_alen, ix_aald, ix_gval, ix_gcod, ix_bald, ix_blen, ix_sald, ix_nret, ix_math2, ix_math1, ix_acopy, Nat.add_assoc, Int32.reduceLT, Int32.reduceLE, Int32.reduceToNatClampNeg, Int32.reduceSub, Int32.reduceAdd, Nat.reduceAdd, Nat.reduceLeDiff, true_or, or_true, or_false, false_or, not_false_eq_true, not_true_eq_false, false_implies, true_implies, implies_true, and_self, mB_0, mB_01, Classical.not_not, Nat.zero_le, List.getElem?_cons_zero, List.getElem?_cons_succ, List.set_cons_zero, List.set_cons_succ, ix_nl, ix_cs, true_and, and_true, Option.toList_some, Option.toList_none, List.cons_append, List.nil_append, S1, S2, S3, S4, Sc, v4, h1, c, h2', g3, ix_up_ne, ix_up_k, ve_1, ve_2, ve_3, ve_4, ve_5]
        refine hQ _ _ ?_
        simp (decide := true) only [e_X11_put_0, e_X11_put_1, e_X11_put_4, e_X11_put_7, e_X11_put_8, e_X11_put_10, e_X11_put_13, e_X11_put_14, e_X11_put_15, e_X11_put_18, e_X11_put_19, e_X11_put_20, e_X11_put_23, e_X11_put_24, e_X11_put_27, e_X11_put_30, e_X11_put_31, e_X11_put_32, e_X11_put_33, e_X11_put_34, e_X11_put_37, e_X11_put_38, e_X11_put_39, e_X11_put_40, e_X11_put_41, e_X11_put_44, e_X11_put_47, e_X11_put_48, e_X11_put_50, e_X11_put_53, e_X11_put_54, e_X11_put_55, e_X11_put_58, e_X11_put_60, e_X11_put_61, e_X11_put_62, e_X11_put_63, e_X11_put_64, e_X11_put_65, e_X11_put_68, e_X11_put_69, e_X11_put_70, e_X11_put_72, e_X11_put_75, e_X11_put_76, e_X11_put_77, e_X11_put_80, e_X11_put_81, e_X11_put_84, e_X11_put_85, e_X11_put_86, e_X11_put_88, e_X11_put_91, e_X11_put_92, e_X11_put_93, e_X11_put_96, e_X11_put_97, e_X11_put_98, e_X11_put_99, vi, vl, vr, oc_X11_finding, T_X11_finding, oc_X11_isSheet, T_X11_isSheet, oc_X11_within, T_X11_within, ix_push, ix_iload, ix_lload, ix_aload, ix_istore, ix_astore, ix_iinc, ix_bin, ix_div, ix_un, ix_i2l, ix_l2i, ix_lbin, ix_lsh, ix_lcmp, ix_dup, ix_dup2, ix_pop, ix_if, ix_cmp, ix_goto, ix_switch, ix_sw, ix_iret, ix_zret, ix_vret, ix_aret, ix_geti, ix_getr, ix_puti, ix_putz, ix_puts, ix_gets, ix_iald, ix_iast, ix_alen, ix_aald, ix_gval, ix_gcod, ix_bald, ix_blen, ix_sald, ix_nret, ix_math2, ix_math1, ix_acopy, ml_113, ml_114, ml_115, ml_116, ml_118, ml_119, ml_120, ml_121, ml_122, ml_123, ml_124, ml_125, ml_126, mv_0, mv_1, mv_2, mv_3, mv_4, mv_5, mB_or, Nat.add_assoc, Int32.reduceLT, Int32.reduceLE, Int32.reduceToNatClampNeg, Int32.reduceSub, Int32.reduceAdd, Nat.reduceAdd, Nat.reduceLeDiff, true_or, or_true, or_false, false_or, not_false_eq_true, not_true_eq_false, false_implies, true_implies, implies_true, and_self, mB_0, mB_01, Classical.not_not, Nat.zero_le, List.getElem?_cons_zero, List.getElem?_cons_succ, List.set_cons_zero, List.set_cons_succ, ix_nl, ix_cs, true_and, and_true, Option.toList_some, Option.toList_none, List.cons_append, List.nil_append, S1, S2, S3, S4, Sc, v4, c, h3, g2, ix_up_ne, ix_up_k, ve_1, ve_2, ve_3, ve_4, ve_5]
        exact I.er 1 (by decide)
  · have hx1 : s < 0 ∨ (3 : Int32) < s := hx1
    have hx2 : ¬ (0 ≤ s ∧ s ≤ (3 : Int32)) := hx2
    simp (decide := true) only [e_X10_put_0, e_X10_put_1, e_X10_put_2, e_X10_put_5, e_X10_put_8, e_X10_put_9, e_X10_put_10, e_X10_put_13, e_X10_put_14, e_X10_put_15, e_X10_put_18, e_X10_put_19, e_X10_put_20, e_X10_put_23, e_X10_put_26, e_X10_put_27, e_X10_put_28, e_X10_put_31, e_X10_put_32, e_X10_put_33, e_X10_put_36, e_X10_put_37, e_X10_put_38, e_X10_put_41, e_X10_put_42, e_X10_put_45, e_X10_put_48, e_X10_put_49, e_X10_put_50, e_X10_put_53, e_X10_put_54, e_X10_put_55, e_X10_put_58, e_X10_put_59, e_X10_put_60, e_X10_put_61, e_X10_put_62, e_X10_put_65, e_X10_put_66, vi, vl, vr, oc_X10_error, T_X10_error, oc_X10_outside, T_X10_outside, oc_X4_has, T_X4_has, oc_X5_isMissing, T_X5_isMissing, oc_X5_write, T_X5_write, ix_push, ix_iload, ix_lload, ix_aload, ix_istore, ix_astore, ix_iinc, ix_bin, ix_div, ix_un, ix_i2l, ix_l2i, ix_lbin, ix_lsh, ix_lcmp, ix_dup, ix_dup2, ix_pop, ix_if, ix_cmp, ix_goto, ix_switch, ix_sw, ix_iret, ix_zret, ix_vret, ix_aret, ix_geti, ix_getr, ix_puti, ix_putz, ix_puts, ix_gets, ix_iald, ix_iast, ix_alen, ix_aald, ix_gval, ix_gcod, ix_bald, ix_blen, ix_sald, ix_nret, ix_math2, ix_math1, ix_acopy, Nat.add_assoc, Int32.reduceLT, Int32.reduceLE, Int32.reduceToNatClampNeg, Int32.reduceSub, Int32.reduceAdd, Nat.reduceAdd, Nat.reduceLeDiff, true_or, or_true, or_false, false_or, not_false_eq_true, not_true_eq_false, false_implies, true_implies, implies_true, and_self, mB_0, mB_01, Classical.not_not, Nat.zero_le, List.getElem?_cons_zero, List.getElem?_cons_succ, List.set_cons_zero, List.set_cons_succ, ix_nl, ix_cs, true_and, and_true, Option.toList_some, Option.toList_none, List.cons_append, List.nil_append, hx1, hx2, ix_up_ne, ix_up_k, ve_1, ve_2, ve_3, ve_4, ve_5]
    refine hQ _ _ ?_
    simp (decide := true) only [e_X11_put_0, e_X11_put_1, e_X11_put_4, e_X11_put_7, e_X11_put_8, e_X11_put_10, e_X11_put_13, e_X11_put_14, e_X11_put_15, e_X11_put_18, e_X11_put_19, e_X11_put_20, e_X11_put_23, e_X11_put_24, e_X11_put_27, e_X11_put_30, e_X11_put_31, e_X11_put_32, e_X11_put_33, e_X11_put_34, e_X11_put_37, e_X11_put_38, e_X11_put_39, e_X11_put_40, e_X11_put_41, e_X11_put_44, e_X11_put_47, e_X11_put_48, e_X11_put_50, e_X11_put_53, e_X11_put_54, e_X11_put_55, e_X11_put_58, e_X11_put_60, e_X11_put_61, e_X11_put_62, e_X11_put_63, e_X11_put_64, e_X11_put_65, e_X11_put_68, e_X11_put_69, e_X11_put_70, e_X11_put_72, e_X11_put_75, e_X11_put_76, e_X11_put_77, e_X11_put_80, e_X11_put_81, e_X11_put_84, e_X11_put_85, e_X11_put_86, e_X11_put_88, e_X11_put_91, e_X11_put_92, e_X11_put_93, e_X11_put_96, e_X11_put_97, e_X11_put_98, e_X11_put_99, vi, vl, vr, oc_X11_finding, T_X11_finding, oc_X11_isSheet, T_X11_isSheet, oc_X11_within, T_X11_within, ix_push, ix_iload, ix_lload, ix_aload, ix_istore, ix_astore, ix_iinc, ix_bin, ix_div, ix_un, ix_i2l, ix_l2i, ix_lbin, ix_lsh, ix_lcmp, ix_dup, ix_dup2, ix_pop, ix_if, ix_cmp, ix_goto, ix_switch, ix_sw, ix_iret, ix_zret, ix_vret, ix_aret, ix_geti, ix_getr, ix_puti, ix_putz, ix_puts, ix_gets, ix_iald, ix_iast, ix_alen, ix_aald, ix_gval, ix_gcod, ix_bald, ix_blen, ix_sald, ix_nret, ix_math2, ix_math1, ix_acopy, ml_113, ml_114, ml_115, ml_116, ml_118, ml_119, ml_120, ml_121, ml_122, ml_123, ml_124, ml_125, ml_126, mv_0, mv_1, mv_2, mv_3, mv_4, mv_5, mB_or, Nat.add_assoc, Int32.reduceLT, Int32.reduceLE, Int32.reduceToNatClampNeg, Int32.reduceSub, Int32.reduceAdd, Nat.reduceAdd, Nat.reduceLeDiff, true_or, or_true, or_false, false_or, not_false_eq_true, not_true_eq_false, false_implies, true_implies, implies_true, and_self, mB_0, mB_01, Classical.not_not, Nat.zero_le, List.getElem?_cons_zero, List.getElem?_cons_succ, List.set_cons_zero, List.set_cons_succ, ix_nl, ix_cs, true_and, and_true, Option.toList_some, Option.toList_none, List.cons_append, List.nil_append, hx1, hx2, ix_up_ne, ix_up_k, ve_1, ve_2, ve_3, ve_4, ve_5]
    repeat' (first | exact I.er 1 (by decide) | refine ⟨fun _ => ?_, fun _ => ?_⟩)
