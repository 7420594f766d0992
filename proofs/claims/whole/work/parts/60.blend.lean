/-! ===== calls, class against model: blend ===== -/
def o_X10_blend : List (Nat × ix_Op) := [
  (0, ix_iload 1 1),
  (1, ix_push (vi 198) 4),
  (4, oc_X10_outside 7),
  (7, ix_if (fun x => x = 0) 16 10),
  (10, ix_aload 0 11),
  (11, ix_push (vi 1) 12),
  (12, oc_X10_error 15),
  (15, ix_iret),
  (16, ix_aload 0 17),
  (17, ix_getr 9 5 (fun _ => 1) 20),
  (20, ix_getr 5 8 (fun k => k + 1) 23),
  (23, ix_astore 2 24),
  (24, ix_aload 2 25),
  (25, ix_geti 8 7 28),
  (28, ix_push (vi 2) 29),
  (29, ix_cmp (fun x y => y ≤ x) 38 32),
  (32, ix_aload 0 33),
  (33, ix_push (vi 2) 34),
  (34, oc_X10_error 37),
  (37, ix_iret),
  (38, ix_push (vi 0) 39),
  (39, ix_istore 3 40),
  (40, ix_push (vi 199) 43),
  (43, ix_istore 4 45),
  (45, ix_push (vi 0) 46),
  (46, ix_istore 5 48),
  (48, ix_iload 5 50),
  (50, ix_aload 2 51),
  (51, ix_geti 8 7 54),
  (54, ix_cmp (fun x y => y ≤ x) 126 57),
  (57, ix_iload 5 59),
  (59, ix_push (vi 1) 60),
  (60, ix_bin (fun x y => x + y) 61),
  (61, ix_istore 6 63),
  (63, ix_iload 6 65),
  (65, ix_aload 2 66),
  (66, ix_geti 8 7 69),
  (69, ix_cmp (fun x y => y ≤ x) 120 72),
  (72, ix_aload 2 73),
  (73, ix_getr 8 20 (fun k => k + 7) 76),
  (76, ix_iload 5 78),
  (78, ix_iald 79),
  (79, ix_aload 2 80),
  (80, ix_getr 8 20 (fun k => k + 7) 83),
  (83, ix_iload 6 85),
  (85, ix_iald 86),
  (86, ix_bin (fun x y => x + y) 87),
  (87, ix_iload 1 88),
  (88, ix_bin (fun x y => x - y) 89),
  (89, ix_math1 (fun x => if 0 ≤ x then x else 0 - x) 92),
  (92, ix_istore 7 94),
  (94, ix_iload 7 96),
  (96, ix_iload 4 98),
  (98, ix_cmp (fun x y => y ≤ x) 114 101),
  (101, ix_iload 7 103),
  (103, ix_istore 4 105),
  (105, ix_push (vi 10) 107),
  (107, ix_iload 5 109),
  (109, ix_bin (fun x y => x * y) 110),
  (110, ix_iload 6 112),
  (112, ix_bin (fun x y => x + y) 113),
  (113, ix_istore 3 114),
  (114, ix_iinc 6 1 117),
  (117, ix_goto 63),
  (120, ix_iinc 5 1 123),
  (123, ix_goto 48),
  (126, ix_iload 3 127),
  (127, ix_iret)]
set_option maxRecDepth 20000 in
theorem a_X10_blend (l : Launch) : ix_AllS l cX10_blend 8 RX10 60 (some .int) o_X10_blend :=
  .cons (ix_s_iload_n dX10_blend_0 rfl) <|
  .cons (ix_s_sipush dX10_blend_1 (by decide +kernel)) <|
  .cons (oc_X10_outside_s (ix_s_calls (k_X10_outside l) (by decide) (by decide) tw_291 tw_1 tw_289 tw_290 ⟨by decide, by decide, by decide +kernel⟩ (fun _ => rfl) dX10_blend_4)) <|
  .cons (ix_s_if_eq dX10_blend_7 (by decide)) <|
  .cons (ix_s_aload_n dX10_blend_10 rfl) <|
  .cons (ix_s_iconst dX10_blend_11 (by decide +kernel)) <|
  .cons (oc_X10_error_s (ix_s_callv (t := 9) (k_X10_error l) (by decide) (by decide) tw_295 tw_1 tw_292 tw_294 tp_0 ⟨by decide, by decide, by decide +kernel⟩ (by decide) rfl rfl (fun _ => ⟨_, _, rfl, rfl⟩) dX10_blend_12)) <|
  .cons (ix_s_iret dX10_blend_15 rfl) <|
  .cons (ix_s_aload_n dX10_blend_16 rfl) <|
  .cons (ix_s_getr (j := 0) tu_X10 rfl (by decide) (by decide) tw_251 rfl ts_9_0_r dX10_blend_17) <|
  .cons (ix_s_getr (j := 0) tu_X6 rfl (by decide) (by decide) tw_138 rfl ts_5_0_r dX10_blend_20) <|
  .cons (ix_s_astore_n dX10_blend_23 rfl (by decide)) <|
  .cons (ix_s_aload_n dX10_blend_24 rfl) <|
  .cons (ix_s_geti (j := 7) tu_X9 rfl (by decide) (by decide) tw_57 rfl ts_8_7_i dX10_blend_25) <|
  .cons (ix_s_iconst dX10_blend_28 (by decide +kernel)) <|
  .cons (ix_s_cmp_ge dX10_blend_29 (by decide)) <|
  .cons (ix_s_aload_n dX10_blend_32 rfl) <|
  .cons (ix_s_iconst dX10_blend_33 (by decide +kernel)) <|
  .cons (oc_X10_error_s (ix_s_callv (t := 9) (k_X10_error l) (by decide) (by decide) tw_295 tw_1 tw_292 tw_294 tp_0 ⟨by decide, by decide, by decide +kernel⟩ (by decide) rfl rfl (fun _ => ⟨_, _, rfl, rfl⟩) dX10_blend_34)) <|
  .cons (ix_s_iret dX10_blend_37 rfl) <|
  .cons (ix_s_iconst dX10_blend_38 (by decide +kernel)) <|
  .cons (ix_s_istore_n dX10_blend_39 rfl (by decide)) <|
  .cons (ix_s_sipush dX10_blend_40 (by decide +kernel)) <|
  .cons (ix_s_istore dX10_blend_43 (by decide)) <|
  .cons (ix_s_iconst dX10_blend_45 (by decide +kernel)) <|
  .cons (ix_s_istore dX10_blend_46 (by decide)) <|
  .cons (ix_s_iload dX10_blend_48) <|
  .cons (ix_s_aload_n dX10_blend_50 rfl) <|
  .cons (ix_s_geti (j := 7) tu_X9 rfl (by decide) (by decide) tw_57 rfl ts_8_7_i dX10_blend_51) <|
  .cons (ix_s_cmp_ge dX10_blend_54 (by decide)) <|
  .cons (ix_s_iload dX10_blend_57) <|
  .cons (ix_s_iconst dX10_blend_59 (by decide +kernel)) <|
  .cons (ix_s_iadd dX10_blend_60) <|
  .cons (ix_s_istore dX10_blend_61 (by decide)) <|
  .cons (ix_s_iload dX10_blend_63) <|
  .cons (ix_s_aload_n dX10_blend_65 rfl) <|
  .cons (ix_s_geti (j := 7) tu_X9 rfl (by decide) (by decide) tw_57 rfl ts_8_7_i dX10_blend_66) <|
  .cons (ix_s_cmp_ge dX10_blend_69 (by decide)) <|
  .cons (ix_s_aload_n dX10_blend_72 rfl) <|
  .cons (ix_s_getr (j := 6) tu_X9 rfl (by decide) (by decide) tw_54 rfl ts_8_6_r dX10_blend_73) <|
  .cons (ix_s_iload dX10_blend_76) <|
  .cons (ix_s_iald dX10_blend_78) <|
  .cons (ix_s_aload_n dX10_blend_79 rfl) <|
  .cons (ix_s_getr (j := 6) tu_X9 rfl (by decide) (by decide) tw_54 rfl ts_8_6_r dX10_blend_80) <|
  .cons (ix_s_iload dX10_blend_83) <|
  .cons (ix_s_iald dX10_blend_85) <|
  .cons (ix_s_iadd dX10_blend_86) <|
  .cons (ix_s_iload_n dX10_blend_87 rfl) <|
  .cons (ix_s_isub dX10_blend_88) <|
  .cons (ix_s_mabs tw_729 tw_730 tw_7 tw_731 (by decide) dX10_blend_89) <|
  .cons (ix_s_istore dX10_blend_92 (by decide)) <|
  .cons (ix_s_iload dX10_blend_94) <|
  .cons (ix_s_iload dX10_blend_96) <|
  .cons (ix_s_cmp_ge dX10_blend_98 (by decide)) <|
  .cons (ix_s_iload dX10_blend_101) <|
  .cons (ix_s_istore dX10_blend_103 (by decide)) <|
  .cons (ix_s_bipush dX10_blend_105 (by decide +kernel)) <|
  .cons (ix_s_iload dX10_blend_107) <|
  .cons (ix_s_imul dX10_blend_109) <|
  .cons (ix_s_iload dX10_blend_110) <|
  .cons (ix_s_iadd dX10_blend_112) <|
  .cons (ix_s_istore_n dX10_blend_113 rfl (by decide)) <|
  .cons (ix_s_iinc dX10_blend_114 (by decide +kernel) (by decide)) <|
  .cons (ix_s_goto dX10_blend_117 (by decide)) <|
  .cons (ix_s_iinc dX10_blend_120 (by decide +kernel) (by decide)) <|
  .cons (ix_s_goto dX10_blend_123 (by decide)) <|
  .cons (ix_s_iload_n dX10_blend_126 rfl) <|
  .cons (ix_s_iret dX10_blend_127 rfl) <| .nil
theorem e_X10_blend_0 (Q : ix_R → Prop) (ls : ix_L) (st : List ix_V) (μ : ix_M) : ix_Ev o_X10_blend Q (0, ls, st, μ) = ix_iload 1 1 (ix_Ev o_X10_blend Q) Q ls st μ := ix_Ev.eq (a_X10_blend launch0) rfl ls st μ
theorem e_X10_blend_1 (Q : ix_R → Prop) (ls : ix_L) (st : List ix_V) (μ : ix_M) : ix_Ev o_X10_blend Q (1, ls, st, μ) = ix_push (vi 198) 4 (ix_Ev o_X10_blend Q) Q ls st μ := ix_Ev.eq (a_X10_blend launch0) rfl ls st μ
theorem e_X10_blend_4 (Q : ix_R → Prop) (ls : ix_L) (st : List ix_V) (μ : ix_M) : ix_Ev o_X10_blend Q (4, ls, st, μ) = oc_X10_outside 7 (ix_Ev o_X10_blend Q) Q ls st μ := ix_Ev.eq (a_X10_blend launch0) rfl ls st μ
theorem e_X10_blend_7 (Q : ix_R → Prop) (ls : ix_L) (st : List ix_V) (μ : ix_M) : ix_Ev o_X10_blend Q (7, ls, st, μ) = ix_if (fun x => x = 0) 16 10 (ix_Ev o_X10_blend Q) Q ls st μ := ix_Ev.eq (a_X10_blend launch0) rfl ls st μ
theorem e_X10_blend_10 (Q : ix_R → Prop) (ls : ix_L) (st : List ix_V) (μ : ix_M) : ix_Ev o_X10_blend Q (10, ls, st, μ) = ix_aload 0 11 (ix_Ev o_X10_blend Q) Q ls st μ := ix_Ev.eq (a_X10_blend launch0) rfl ls st μ
theorem e_X10_blend_11 (Q : ix_R → Prop) (ls : ix_L) (st : List ix_V) (μ : ix_M) : ix_Ev o_X10_blend Q (11, ls, st, μ) = ix_push (vi 1) 12 (ix_Ev o_X10_blend Q) Q ls st μ := ix_Ev.eq (a_X10_blend launch0) rfl ls st μ
theorem e_X10_blend_12 (Q : ix_R → Prop) (ls : ix_L) (st : List ix_V) (μ : ix_M) : ix_Ev o_X10_blend Q (12, ls, st, μ) = oc_X10_error 15 (ix_Ev o_X10_blend Q) Q ls st μ := ix_Ev.eq (a_X10_blend launch0) rfl ls st μ
theorem e_X10_blend_15 (Q : ix_R → Prop) (ls : ix_L) (st : List ix_V) (μ : ix_M) : ix_Ev o_X10_blend Q (15, ls, st, μ) = ix_iret (ix_Ev o_X10_blend Q) Q ls st μ := ix_Ev.eq (a_X10_blend launch0) rfl ls st μ
theorem e_X10_blend_16 (Q : ix_R → Prop) (ls : ix_L) (st : List ix_V) (μ : ix_M) : ix_Ev o_X10_blend Q (16, ls, st, μ) = ix_aload 0 17 (ix_Ev o_X10_blend Q) Q ls st μ := ix_Ev.eq (a_X10_blend launch0) rfl ls st μ
theorem e_X10_blend_17 (Q : ix_R → Prop) (ls : ix_L) (st : List ix_V) (μ : ix_M) : ix_Ev o_X10_blend Q (17, ls, st, μ) = ix_getr 9 5 (fun _ => 1) 20 (ix_Ev o_X10_blend Q) Q ls st μ := ix_Ev.eq (a_X10_blend launch0) rfl ls st μ
theorem e_X10_blend_20 (Q : ix_R → Prop) (ls : ix_L) (st : List ix_V) (μ : ix_M) : ix_Ev o_X10_blend Q (20, ls, st, μ) = ix_getr 5 8 (fun k => k + 1) 23 (ix_Ev o_X10_blend Q) Q ls st μ := ix_Ev.eq (a_X10_blend launch0) rfl ls st μ
theorem e_X10_blend_23 (Q : ix_R → Prop) (ls : ix_L) (st : List ix_V) (μ : ix_M) : ix_Ev o_X10_blend Q (23, ls, st, μ) = ix_astore 2 24 (ix_Ev o_X10_blend Q) Q ls st μ := ix_Ev.eq (a_X10_blend launch0) rfl ls st μ
theorem e_X10_blend_24 (Q : ix_R → Prop) (ls : ix_L) (st : List ix_V) (μ : ix_M) : ix_Ev o_X10_blend Q (24, ls, st, μ) = ix_aload 2 25 (ix_Ev o_X10_blend Q) Q ls st μ := ix_Ev.eq (a_X10_blend launch0) rfl ls st μ
theorem e_X10_blend_25 (Q : ix_R → Prop) (ls : ix_L) (st : List ix_V) (μ : ix_M) : ix_Ev o_X10_blend Q (25, ls, st, μ) = ix_geti 8 7 28 (ix_Ev o_X10_blend Q) Q ls st μ := ix_Ev.eq (a_X10_blend launch0) rfl ls st μ
theorem e_X10_blend_28 (Q : ix_R → Prop) (ls : ix_L) (st : List ix_V) (μ : ix_M) : ix_Ev o_X10_blend Q (28, ls, st, μ) = ix_push (vi 2) 29 (ix_Ev o_X10_blend Q) Q ls st μ := ix_Ev.eq (a_X10_blend launch0) rfl ls st μ
theorem e_X10_blend_29 (Q : ix_R → Prop) (ls : ix_L) (st : List ix_V) (μ : ix_M) : ix_Ev o_X10_blend Q (29, ls, st, μ) = ix_cmp (fun x y => y ≤ x) 38 32 (ix_Ev o_X10_blend Q) Q ls st μ := ix_Ev.eq (a_X10_blend launch0) rfl ls st μ
theorem e_X10_blend_32 (Q : ix_R → Prop) (ls : ix_L) (st : List ix_V) (μ : ix_M) : ix_Ev o_X10_blend Q (32, ls, st, μ) = ix_aload 0 33 (ix_Ev o_X10_blend Q) Q ls st μ := ix_Ev.eq (a_X10_blend launch0) rfl ls st μ
theorem e_X10_blend_33 (Q : ix_R → Prop) (ls : ix_L) (st : List ix_V) (μ : ix_M) : ix_Ev o_X10_blend Q (33, ls, st, μ) = ix_push (vi 2) 34 (ix_Ev o_X10_blend Q) Q ls st μ := ix_Ev.eq (a_X10_blend launch0) rfl ls st μ
theorem e_X10_blend_34 (Q : ix_R → Prop) (ls : ix_L) (st : List ix_V) (μ : ix_M) : ix_Ev o_X10_blend Q (34, ls, st, μ) = oc_X10_error 37 (ix_Ev o_X10_blend Q) Q ls st μ := ix_Ev.eq (a_X10_blend launch0) rfl ls st μ
theorem e_X10_blend_37 (Q : ix_R → Prop) (ls : ix_L) (st : List ix_V) (μ : ix_M) : ix_Ev o_X10_blend Q (37, ls, st, μ) = ix_iret (ix_Ev o_X10_blend Q) Q ls st μ := ix_Ev.eq (a_X10_blend launch0) rfl ls st μ
theorem e_X10_blend_38 (Q : ix_R → Prop) (ls : ix_L) (st : List ix_V) (μ : ix_M) : ix_Ev o_X10_blend Q (38, ls, st, μ) = ix_push (vi 0) 39 (ix_Ev o_X10_blend Q) Q ls st μ := ix_Ev.eq (a_X10_blend launch0) rfl ls st μ
theorem e_X10_blend_39 (Q : ix_R → Prop) (ls : ix_L) (st : List ix_V) (μ : ix_M) : ix_Ev o_X10_blend Q (39, ls, st, μ) = ix_istore 3 40 (ix_Ev o_X10_blend Q) Q ls st μ := ix_Ev.eq (a_X10_blend launch0) rfl ls st μ
theorem e_X10_blend_40 (Q : ix_R → Prop) (ls : ix_L) (st : List ix_V) (μ : ix_M) : ix_Ev o_X10_blend Q (40, ls, st, μ) = ix_push (vi 199) 43 (ix_Ev o_X10_blend Q) Q ls st μ := ix_Ev.eq (a_X10_blend launch0) rfl ls st μ
theorem e_X10_blend_43 (Q : ix_R → Prop) (ls : ix_L) (st : List ix_V) (μ : ix_M) : ix_Ev o_X10_blend Q (43, ls, st, μ) = ix_istore 4 45 (ix_Ev o_X10_blend Q) Q ls st μ := ix_Ev.eq (a_X10_blend launch0) rfl ls st μ
theorem e_X10_blend_45 (Q : ix_R → Prop) (ls : ix_L) (st : List ix_V) (μ : ix_M) : ix_Ev o_X10_blend Q (45, ls, st, μ) = ix_push (vi 0) 46 (ix_Ev o_X10_blend Q) Q ls st μ := ix_Ev.eq (a_X10_blend launch0) rfl ls st μ
theorem e_X10_blend_46 (Q : ix_R → Prop) (ls : ix_L) (st : List ix_V) (μ : ix_M) : ix_Ev o_X10_blend Q (46, ls, st, μ) = ix_istore 5 48 (ix_Ev o_X10_blend Q) Q ls st μ := ix_Ev.eq (a_X10_blend launch0) rfl ls st μ
theorem e_X10_blend_48 (Q : ix_R → Prop) (ls : ix_L) (st : List ix_V) (μ : ix_M) : ix_Ev o_X10_blend Q (48, ls, st, μ) = ix_iload 5 50 (ix_Ev o_X10_blend Q) Q ls st μ := ix_Ev.eq (a_X10_blend launch0) rfl ls st μ
theorem e_X10_blend_50 (Q : ix_R → Prop) (ls : ix_L) (st : List ix_V) (μ : ix_M) : ix_Ev o_X10_blend Q (50, ls, st, μ) = ix_aload 2 51 (ix_Ev o_X10_blend Q) Q ls st μ := ix_Ev.eq (a_X10_blend launch0) rfl ls st μ
theorem e_X10_blend_51 (Q : ix_R → Prop) (ls : ix_L) (st : List ix_V) (μ : ix_M) : ix_Ev o_X10_blend Q (51, ls, st, μ) = ix_geti 8 7 54 (ix_Ev o_X10_blend Q) Q ls st μ := ix_Ev.eq (a_X10_blend launch0) rfl ls st μ
theorem e_X10_blend_54 (Q : ix_R → Prop) (ls : ix_L) (st : List ix_V) (μ : ix_M) : ix_Ev o_X10_blend Q (54, ls, st, μ) = ix_cmp (fun x y => y ≤ x) 126 57 (ix_Ev o_X10_blend Q) Q ls st μ := ix_Ev.eq (a_X10_blend launch0) rfl ls st μ
theorem e_X10_blend_57 (Q : ix_R → Prop) (ls : ix_L) (st : List ix_V) (μ : ix_M) : ix_Ev o_X10_blend Q (57, ls, st, μ) = ix_iload 5 59 (ix_Ev o_X10_blend Q) Q ls st μ := ix_Ev.eq (a_X10_blend launch0) rfl ls st μ
theorem e_X10_blend_59 (Q : ix_R → Prop) (ls : ix_L) (st : List ix_V) (μ : ix_M) : ix_Ev o_X10_blend Q (59, ls, st, μ) = ix_push (vi 1) 60 (ix_Ev o_X10_blend Q) Q ls st μ := ix_Ev.eq (a_X10_blend launch0) rfl ls st μ
theorem e_X10_blend_60 (Q : ix_R → Prop) (ls : ix_L) (st : List ix_V) (μ : ix_M) : ix_Ev o_X10_blend Q (60, ls, st, μ) = ix_bin (fun x y => x + y) 61 (ix_Ev o_X10_blend Q) Q ls st μ := ix_Ev.eq (a_X10_blend launch0) rfl ls st μ
theorem e_X10_blend_61 (Q : ix_R → Prop) (ls : ix_L) (st : List ix_V) (μ : ix_M) : ix_Ev o_X10_blend Q (61, ls, st, μ) = ix_istore 6 63 (ix_Ev o_X10_blend Q) Q ls st μ := ix_Ev.eq (a_X10_blend launch0) rfl ls st μ
theorem e_X10_blend_63 (Q : ix_R → Prop) (ls : ix_L) (st : List ix_V) (μ : ix_M) : ix_Ev o_X10_blend Q (63, ls, st, μ) = ix_iload 6 65 (ix_Ev o_X10_blend Q) Q ls st μ := ix_Ev.eq (a_X10_blend launch0) rfl ls st μ
theorem e_X10_blend_65 (Q : ix_R → Prop) (ls : ix_L) (st : List ix_V) (μ : ix_M) : ix_Ev o_X10_blend Q (65, ls, st, μ) = ix_aload 2 66 (ix_Ev o_X10_blend Q) Q ls st μ := ix_Ev.eq (a_X10_blend launch0) rfl ls st μ
theorem e_X10_blend_66 (Q : ix_R → Prop) (ls : ix_L) (st : List ix_V) (μ : ix_M) : ix_Ev o_X10_blend Q (66, ls, st, μ) = ix_geti 8 7 69 (ix_Ev o_X10_blend Q) Q ls st μ := ix_Ev.eq (a_X10_blend launch0) rfl ls st μ
theorem e_X10_blend_69 (Q : ix_R → Prop) (ls : ix_L) (st : List ix_V) (μ : ix_M) : ix_Ev o_X10_blend Q (69, ls, st, μ) = ix_cmp (fun x y => y ≤ x) 120 72 (ix_Ev o_X10_blend Q) Q ls st μ := ix_Ev.eq (a_X10_blend launch0) rfl ls st μ
theorem e_X10_blend_72 (Q : ix_R → Prop) (ls : ix_L) (st : List ix_V) (μ : ix_M) : ix_Ev o_X10_blend Q (72, ls, st, μ) = ix_aload 2 73 (ix_Ev o_X10_blend Q) Q ls st μ := ix_Ev.eq (a_X10_blend launch0) rfl ls st μ
theorem e_X10_blend_73 (Q : ix_R → Prop) (ls : ix_L) (st : List ix_V) (μ : ix_M) : ix_Ev o_X10_blend Q (73, ls, st, μ) = ix_getr 8 20 (fun k => k + 7) 76 (ix_Ev o_X10_blend Q) Q ls st μ := ix_Ev.eq (a_X10_blend launch0) rfl ls st μ
theorem e_X10_blend_76 (Q : ix_R → Prop) (ls : ix_L) (st : List ix_V) (μ : ix_M) : ix_Ev o_X10_blend Q (76, ls, st, μ) = ix_iload 5 78 (ix_Ev o_X10_blend Q) Q ls st μ := ix_Ev.eq (a_X10_blend launch0) rfl ls st μ
theorem e_X10_blend_78 (Q : ix_R → Prop) (ls : ix_L) (st : List ix_V) (μ : ix_M) : ix_Ev o_X10_blend Q (78, ls, st, μ) = ix_iald 79 (ix_Ev o_X10_blend Q) Q ls st μ := ix_Ev.eq (a_X10_blend launch0) rfl ls st μ
theorem e_X10_blend_79 (Q : ix_R → Prop) (ls : ix_L) (st : List ix_V) (μ : ix_M) : ix_Ev o_X10_blend Q (79, ls, st, μ) = ix_aload 2 80 (ix_Ev o_X10_blend Q) Q ls st μ := ix_Ev.eq (a_X10_blend launch0) rfl ls st μ
theorem e_X10_blend_80 (Q : ix_R → Prop) (ls : ix_L) (st : List ix_V) (μ : ix_M) : ix_Ev o_X10_blend Q (80, ls, st, μ) = ix_getr 8 20 (fun k => k + 7) 83 (ix_Ev o_X10_blend Q) Q ls st μ := ix_Ev.eq (a_X10_blend launch0) rfl ls st μ
theorem e_X10_blend_83 (Q : ix_R → Prop) (ls : ix_L) (st : List ix_V) (μ : ix_M) : ix_Ev o_X10_blend Q (83, ls, st, μ) = ix_iload 6 85 (ix_Ev o_X10_blend Q) Q ls st μ := ix_Ev.eq (a_X10_blend launch0) rfl ls st μ
theorem e_X10_blend_85 (Q : ix_R → Prop) (ls : ix_L) (st : List ix_V) (μ : ix_M) : ix_Ev o_X10_blend Q (85, ls, st, μ) = ix_iald 86 (ix_Ev o_X10_blend Q) Q ls st μ := ix_Ev.eq (a_X10_blend launch0) rfl ls st μ
theorem e_X10_blend_86 (Q : ix_R → Prop) (ls : ix_L) (st : List ix_V) (μ : ix_M) : ix_Ev o_X10_blend Q (86, ls, st, μ) = ix_bin (fun x y => x + y) 87 (ix_Ev o_X10_blend Q) Q ls st μ := ix_Ev.eq (a_X10_blend launch0) rfl ls st μ
theorem e_X10_blend_87 (Q : ix_R → Prop) (ls : ix_L) (st : List ix_V) (μ : ix_M) : ix_Ev o_X10_blend Q (87, ls, st, μ) = ix_iload 1 88 (ix_Ev o_X10_blend Q) Q ls st μ := ix_Ev.eq (a_X10_blend launch0) rfl ls st μ
theorem e_X10_blend_88 (Q : ix_R → Prop) (ls : ix_L) (st : List ix_V) (μ : ix_M) : ix_Ev o_X10_blend Q (88, ls, st, μ) = ix_bin (fun x y => x - y) 89 (ix_Ev o_X10_blend Q) Q ls st μ := ix_Ev.eq (a_X10_blend launch0) rfl ls st μ
theorem e_X10_blend_89 (Q : ix_R → Prop) (ls : ix_L) (st : List ix_V) (μ : ix_M) : ix_Ev o_X10_blend Q (89, ls, st, μ) = ix_math1 (fun x => if 0 ≤ x then x else 0 - x) 92 (ix_Ev o_X10_blend Q) Q ls st μ := ix_Ev.eq (a_X10_blend launch0) rfl ls st μ
theorem e_X10_blend_92 (Q : ix_R → Prop) (ls : ix_L) (st : List ix_V) (μ : ix_M) : ix_Ev o_X10_blend Q (92, ls, st, μ) = ix_istore 7 94 (ix_Ev o_X10_blend Q) Q ls st μ := ix_Ev.eq (a_X10_blend launch0) rfl ls st μ
theorem e_X10_blend_94 (Q : ix_R → Prop) (ls : ix_L) (st : List ix_V) (μ : ix_M) : ix_Ev o_X10_blend Q (94, ls, st, μ) = ix_iload 7 96 (ix_Ev o_X10_blend Q) Q ls st μ := ix_Ev.eq (a_X10_blend launch0) rfl ls st μ
theorem e_X10_blend_96 (Q : ix_R → Prop) (ls : ix_L) (st : List ix_V) (μ : ix_M) : ix_Ev o_X10_blend Q (96, ls, st, μ) = ix_iload 4 98 (ix_Ev o_X10_blend Q) Q ls st μ := ix_Ev.eq (a_X10_blend launch0) rfl ls st μ
theorem e_X10_blend_98 (Q : ix_R → Prop) (ls : ix_L) (st : List ix_V) (μ : ix_M) : ix_Ev o_X10_blend Q (98, ls, st, μ) = ix_cmp (fun x y => y ≤ x) 114 101 (ix_Ev o_X10_blend Q) Q ls st μ := ix_Ev.eq (a_X10_blend launch0) rfl ls st μ
theorem e_X10_blend_101 (Q : ix_R → Prop) (ls : ix_L) (st : List ix_V) (μ : ix_M) : ix_Ev o_X10_blend Q (101, ls, st, μ) = ix_iload 7 103 (ix_Ev o_X10_blend Q) Q ls st μ := ix_Ev.eq (a_X10_blend launch0) rfl ls st μ
theorem e_X10_blend_103 (Q : ix_R → Prop) (ls : ix_L) (st : List ix_V) (μ : ix_M) : ix_Ev o_X10_blend Q (103, ls, st, μ) = ix_istore 4 105 (ix_Ev o_X10_blend Q) Q ls st μ := ix_Ev.eq (a_X10_blend launch0) rfl ls st μ
theorem e_X10_blend_105 (Q : ix_R → Prop) (ls : ix_L) (st : List ix_V) (μ : ix_M) : ix_Ev o_X10_blend Q (105, ls, st, μ) = ix_push (vi 10) 107 (ix_Ev o_X10_blend Q) Q ls st μ := ix_Ev.eq (a_X10_blend launch0) rfl ls st μ
theorem e_X10_blend_107 (Q : ix_R → Prop) (ls : ix_L) (st : List ix_V) (μ : ix_M) : ix_Ev o_X10_blend Q (107, ls, st, μ) = ix_iload 5 109 (ix_Ev o_X10_blend Q) Q ls st μ := ix_Ev.eq (a_X10_blend launch0) rfl ls st μ
theorem e_X10_blend_109 (Q : ix_R → Prop) (ls : ix_L) (st : List ix_V) (μ : ix_M) : ix_Ev o_X10_blend Q (109, ls, st, μ) = ix_bin (fun x y => x * y) 110 (ix_Ev o_X10_blend Q) Q ls st μ := ix_Ev.eq (a_X10_blend launch0) rfl ls st μ
theorem e_X10_blend_110 (Q : ix_R → Prop) (ls : ix_L) (st : List ix_V) (μ : ix_M) : ix_Ev o_X10_blend Q (110, ls, st, μ) = ix_iload 6 112 (ix_Ev o_X10_blend Q) Q ls st μ := ix_Ev.eq (a_X10_blend launch0) rfl ls st μ
theorem e_X10_blend_112 (Q : ix_R → Prop) (ls : ix_L) (st : List ix_V) (μ : ix_M) : ix_Ev o_X10_blend Q (112, ls, st, μ) = ix_bin (fun x y => x + y) 113 (ix_Ev o_X10_blend Q) Q ls st μ := ix_Ev.eq (a_X10_blend launch0) rfl ls st μ
theorem e_X10_blend_113 (Q : ix_R → Prop) (ls : ix_L) (st : List ix_V) (μ : ix_M) : ix_Ev o_X10_blend Q (113, ls, st, μ) = ix_istore 3 114 (ix_Ev o_X10_blend Q) Q ls st μ := ix_Ev.eq (a_X10_blend launch0) rfl ls st μ
theorem e_X10_blend_114 (Q : ix_R → Prop) (ls : ix_L) (st : List ix_V) (μ : ix_M) : ix_Ev o_X10_blend Q (114, ls, st, μ) = ix_iinc 6 1 117 (ix_Ev o_X10_blend Q) Q ls st μ := ix_Ev.eq (a_X10_blend launch0) rfl ls st μ
theorem e_X10_blend_117 (Q : ix_R → Prop) (ls : ix_L) (st : List ix_V) (μ : ix_M) : ix_Ev o_X10_blend Q (117, ls, st, μ) = ix_goto 63 (ix_Ev o_X10_blend Q) Q ls st μ := ix_Ev.eq (a_X10_blend launch0) rfl ls st μ
theorem e_X10_blend_120 (Q : ix_R → Prop) (ls : ix_L) (st : List ix_V) (μ : ix_M) : ix_Ev o_X10_blend Q (120, ls, st, μ) = ix_iinc 5 1 123 (ix_Ev o_X10_blend Q) Q ls st μ := ix_Ev.eq (a_X10_blend launch0) rfl ls st μ
theorem e_X10_blend_123 (Q : ix_R → Prop) (ls : ix_L) (st : List ix_V) (μ : ix_M) : ix_Ev o_X10_blend Q (123, ls, st, μ) = ix_goto 48 (ix_Ev o_X10_blend Q) Q ls st μ := ix_Ev.eq (a_X10_blend launch0) rfl ls st μ
theorem e_X10_blend_126 (Q : ix_R → Prop) (ls : ix_L) (st : List ix_V) (μ : ix_M) : ix_Ev o_X10_blend Q (126, ls, st, μ) = ix_iload 3 127 (ix_Ev o_X10_blend Q) Q ls st μ := ix_Ev.eq (a_X10_blend launch0) rfl ls st μ
theorem e_X10_blend_127 (Q : ix_R → Prop) (ls : ix_L) (st : List ix_V) (μ : ix_M) : ix_Ev o_X10_blend Q (127, ls, st, μ) = ix_iret (ix_Ev o_X10_blend Q) Q ls st μ := ix_Ev.eq (a_X10_blend launch0) rfl ls st μ
def o_X11_blend : List (Nat × ix_Op) := [
  (0, ix_iload 1 1),
  (1, ix_push (vi 0) 2),
  (2, ix_push (vi 198) 5),
  (5, oc_X11_within 8),
  (8, ix_if (fun x => x = 0) 11 18),
  (11, ix_aload 0 12),
  (12, ix_push (vi (-1000000001)) 14),
  (14, oc_X11_finding 17),
  (17, ix_iret),
  (18, ix_push (vi (-1)) 19),
  (19, ix_istore 2 20),
  (20, ix_push (vi 792) 23),
  (23, ix_istore 3 24),
  (24, ix_push (vi 0) 25),
  (25, ix_istore 4 27),
  (27, ix_iload 4 29),
  (29, ix_aload 0 30),
  (30, ix_getr 10 20 (fun _ => 113) 33),
  (33, ix_push (vi 1) 34),
  (34, ix_iald 35),
  (35, ix_cmp (fun x y => y ≤ x) 115 38),
  (38, ix_iload 4 40),
  (40, ix_push (vi 1) 41),
  (41, ix_bin (fun x y => x + y) 42),
  (42, ix_istore 5 44),
  (44, ix_iload 5 46),
  (46, ix_aload 0 47),
  (47, ix_getr 10 20 (fun _ => 113) 50),
  (50, ix_push (vi 1) 51),
  (51, ix_iald 52),
  (52, ix_cmp (fun x y => y ≤ x) 109 55),
  (55, ix_aload 0 56),
  (56, ix_iload 4 58),
  (58, ix_push (vi 3) 59),
  (59, oc_X11_boatIs 62),
  (62, ix_aload 0 63),
  (63, ix_iload 5 65),
  (65, ix_push (vi 3) 66),
  (66, oc_X11_boatIs 69),
  (69, ix_bin (fun x y => x + y) 70),
  (70, ix_iload 1 71),
  (71, ix_bin (fun x y => x - y) 72),
  (72, ix_math1 (fun x => if 0 ≤ x then x else 0 - x) 75),
  (75, ix_istore 6 77),
  (77, ix_iload 6 79),
  (79, ix_iload 3 80),
  (80, ix_cmp (fun x y => y ≤ x) 94 83),
  (83, ix_push (vi 10) 85),
  (85, ix_iload 4 87),
  (87, ix_bin (fun x y => x * y) 88),
  (88, ix_iload 5 90),
  (90, ix_bin (fun x y => x + y) 91),
  (91, ix_goto 95),
  (94, ix_iload 2 95),
  (95, ix_istore 2 96),
  (96, ix_iload 3 97),
  (97, ix_iload 6 99),
  (99, ix_math2 (fun x y => if y < x then y else x) 102),
  (102, ix_istore 3 103),
  (103, ix_iinc 5 1 106),
  (106, ix_goto 44),
  (109, ix_iinc 4 1 112),
  (112, ix_goto 27),
  (115, ix_iload 2 116),
  (116, ix_if (fun x => 0 ≤ x) 129 119),
  (119, ix_aload 0 120),
  (120, ix_push (vi (-1000000002)) 123),
  (123, oc_X11_finding 126),
  (126, ix_goto 130),
  (129, ix_iload 2 130),
  (130, ix_iret)]
set_option maxRecDepth 20000 in
theorem a_X11_blend (l : Launch) : ix_AllS l cX11_blend 7 RX11 60 (some .int) o_X11_blend :=
  .cons (ix_s_iload_n dX11_blend_0 rfl) <|
  .cons (ix_s_iconst dX11_blend_1 (by decide +kernel)) <|
  .cons (ix_s_sipush dX11_blend_2 (by decide +kernel)) <|
  .cons (oc_X11_within_s (ix_s_calls (k_X11_within l) (by decide) (by decide) tw_960 tw_12 tw_958 tw_959 ⟨by decide, by decide, by decide +kernel⟩ (fun _ => rfl) dX11_blend_5)) <|
  .cons (ix_s_if_ne dX11_blend_8 (by decide)) <|
  .cons (ix_s_aload_n dX11_blend_11 rfl) <|
  .cons (ix_s_ldc tw_961 dX11_blend_12) <|
  .cons (oc_X11_finding_s (ix_s_callv (t := 10) (k_X11_finding l) (by decide) (by decide) tw_965 tw_12 tw_962 tw_964 tp_18 ⟨by decide, by decide, by decide +kernel⟩ (by decide) rfl rfl (fun _ => ⟨_, _, rfl, rfl⟩) dX11_blend_14)) <|
  .cons (ix_s_iret dX11_blend_17 rfl) <|
  .cons (ix_s_iconst dX11_blend_18 (by decide +kernel)) <|
  .cons (ix_s_istore_n dX11_blend_19 rfl (by decide)) <|
  .cons (ix_s_sipush dX11_blend_20 (by decide +kernel)) <|
  .cons (ix_s_istore_n dX11_blend_23 rfl (by decide)) <|
  .cons (ix_s_iconst dX11_blend_24 (by decide +kernel)) <|
  .cons (ix_s_istore dX11_blend_25 (by decide)) <|
  .cons (ix_s_iload dX11_blend_27) <|
  .cons (ix_s_aload_n dX11_blend_29 rfl) <|
  .cons (ix_s_getr (j := 0) tu_X11 rfl (by decide) (by decide) tw_875 rfl ts_10_0_r dX11_blend_30) <|
  .cons (ix_s_iconst dX11_blend_33 (by decide +kernel)) <|
  .cons (ix_s_iald dX11_blend_34) <|
  .cons (ix_s_cmp_ge dX11_blend_35 (by decide)) <|
  .cons (ix_s_iload dX11_blend_38) <|
  .cons (ix_s_iconst dX11_blend_40 (by decide +kernel)) <|
  .cons (ix_s_iadd dX11_blend_41) <|
  .cons (ix_s_istore dX11_blend_42 (by decide)) <|
  .cons (ix_s_iload dX11_blend_44) <|
  .cons (ix_s_aload_n dX11_blend_46 rfl) <|
  .cons (ix_s_getr (j := 0) tu_X11 rfl (by decide) (by decide) tw_875 rfl ts_10_0_r dX11_blend_47) <|
  .cons (ix_s_iconst dX11_blend_50 (by decide +kernel)) <|
  .cons (ix_s_iald dX11_blend_51) <|
  .cons (ix_s_cmp_ge dX11_blend_52 (by decide)) <|
  .cons (ix_s_aload_n dX11_blend_55 rfl) <|
  .cons (ix_s_iload dX11_blend_56) <|
  .cons (ix_s_iconst dX11_blend_58 (by decide +kernel)) <|
  .cons (oc_X11_boatIs_s (ix_s_callv (t := 10) (k_X11_boatIs l) (by decide) (by decide) tw_1083 tw_12 tw_1080 tw_1082 tp_34 ⟨by decide, by decide, by decide +kernel⟩ (by decide) rfl rfl (fun _ => ⟨_, _, rfl, rfl⟩) dX11_blend_59)) <|
  .cons (ix_s_aload_n dX11_blend_62 rfl) <|
  .cons (ix_s_iload dX11_blend_63) <|
  .cons (ix_s_iconst dX11_blend_65 (by decide +kernel)) <|
  .cons (oc_X11_boatIs_s (ix_s_callv (t := 10) (k_X11_boatIs l) (by decide) (by decide) tw_1083 tw_12 tw_1080 tw_1082 tp_34 ⟨by decide, by decide, by decide +kernel⟩ (by decide) rfl rfl (fun _ => ⟨_, _, rfl, rfl⟩) dX11_blend_66)) <|
  .cons (ix_s_iadd dX11_blend_69) <|
  .cons (ix_s_iload_n dX11_blend_70 rfl) <|
  .cons (ix_s_isub dX11_blend_71) <|
  .cons (ix_s_mabs tw_1298 tw_730 tw_7 tw_731 (by decide) dX11_blend_72) <|
  .cons (ix_s_istore dX11_blend_75 (by decide)) <|
  .cons (ix_s_iload dX11_blend_77) <|
  .cons (ix_s_iload_n dX11_blend_79 rfl) <|
  .cons (ix_s_cmp_ge dX11_blend_80 (by decide)) <|
  .cons (ix_s_bipush dX11_blend_83 (by decide +kernel)) <|
  .cons (ix_s_iload dX11_blend_85) <|
  .cons (ix_s_imul dX11_blend_87) <|
  .cons (ix_s_iload dX11_blend_88) <|
  .cons (ix_s_iadd dX11_blend_90) <|
  .cons (ix_s_goto dX11_blend_91 (by decide)) <|
  .cons (ix_s_iload_n dX11_blend_94 rfl) <|
  .cons (ix_s_istore_n dX11_blend_95 rfl (by decide)) <|
  .cons (ix_s_iload_n dX11_blend_96 rfl) <|
  .cons (ix_s_iload dX11_blend_97) <|
  .cons (ix_s_mmin tw_1056 tw_328 tw_7 tw_329 (by decide) dX11_blend_99) <|
  .cons (ix_s_istore_n dX11_blend_102 rfl (by decide)) <|
  .cons (ix_s_iinc dX11_blend_103 (by decide +kernel) (by decide)) <|
  .cons (ix_s_goto dX11_blend_106 (by decide)) <|
  .cons (ix_s_iinc dX11_blend_109 (by decide +kernel) (by decide)) <|
  .cons (ix_s_goto dX11_blend_112 (by decide)) <|
  .cons (ix_s_iload_n dX11_blend_115 rfl) <|
  .cons (ix_s_if_ge dX11_blend_116 (by decide)) <|
  .cons (ix_s_aload_n dX11_blend_119 rfl) <|
  .cons (ix_s_ldcw tw_1238 dX11_blend_120) <|
  .cons (oc_X11_finding_s (ix_s_callv (t := 10) (k_X11_finding l) (by decide) (by decide) tw_965 tw_12 tw_962 tw_964 tp_18 ⟨by decide, by decide, by decide +kernel⟩ (by decide) rfl rfl (fun _ => ⟨_, _, rfl, rfl⟩) dX11_blend_123)) <|
  .cons (ix_s_goto dX11_blend_126 (by decide)) <|
  .cons (ix_s_iload_n dX11_blend_129 rfl) <|
  .cons (ix_s_iret dX11_blend_130 rfl) <| .nil
theorem e_X11_blend_0 (Q : ix_R → Prop) (ls : ix_L) (st : List ix_V) (μ : ix_M) : ix_Ev o_X11_blend Q (0, ls, st, μ) = ix_iload 1 1 (ix_Ev o_X11_blend Q) Q ls st μ := ix_Ev.eq (a_X11_blend launch0) rfl ls st μ
theorem e_X11_blend_1 (Q : ix_R → Prop) (ls : ix_L) (st : List ix_V) (μ : ix_M) : ix_Ev o_X11_blend Q (1, ls, st, μ) = ix_push (vi 0) 2 (ix_Ev o_X11_blend Q) Q ls st μ := ix_Ev.eq (a_X11_blend launch0) rfl ls st μ
theorem e_X11_blend_2 (Q : ix_R → Prop) (ls : ix_L) (st : List ix_V) (μ : ix_M) : ix_Ev o_X11_blend Q (2, ls, st, μ) = ix_push (vi 198) 5 (ix_Ev o_X11_blend Q) Q ls st μ := ix_Ev.eq (a_X11_blend launch0) rfl ls st μ
theorem e_X11_blend_5 (Q : ix_R → Prop) (ls : ix_L) (st : List ix_V) (μ : ix_M) : ix_Ev o_X11_blend Q (5, ls, st, μ) = oc_X11_within 8 (ix_Ev o_X11_blend Q) Q ls st μ := ix_Ev.eq (a_X11_blend launch0) rfl ls st μ
theorem e_X11_blend_8 (Q : ix_R → Prop) (ls : ix_L) (st : List ix_V) (μ : ix_M) : ix_Ev o_X11_blend Q (8, ls, st, μ) = ix_if (fun x => x = 0) 11 18 (ix_Ev o_X11_blend Q) Q ls st μ := ix_Ev.eq (a_X11_blend launch0) rfl ls st μ
theorem e_X11_blend_11 (Q : ix_R → Prop) (ls : ix_L) (st : List ix_V) (μ : ix_M) : ix_Ev o_X11_blend Q (11, ls, st, μ) = ix_aload 0 12 (ix_Ev o_X11_blend Q) Q ls st μ := ix_Ev.eq (a_X11_blend launch0) rfl ls st μ
theorem e_X11_blend_12 (Q : ix_R → Prop) (ls : ix_L) (st : List ix_V) (μ : ix_M) : ix_Ev o_X11_blend Q (12, ls, st, μ) = ix_push (vi (-1000000001)) 14 (ix_Ev o_X11_blend Q) Q ls st μ := ix_Ev.eq (a_X11_blend launch0) rfl ls st μ
theorem e_X11_blend_14 (Q : ix_R → Prop) (ls : ix_L) (st : List ix_V) (μ : ix_M) : ix_Ev o_X11_blend Q (14, ls, st, μ) = oc_X11_finding 17 (ix_Ev o_X11_blend Q) Q ls st μ := ix_Ev.eq (a_X11_blend launch0) rfl ls st μ
theorem e_X11_blend_17 (Q : ix_R → Prop) (ls : ix_L) (st : List ix_V) (μ : ix_M) : ix_Ev o_X11_blend Q (17, ls, st, μ) = ix_iret (ix_Ev o_X11_blend Q) Q ls st μ := ix_Ev.eq (a_X11_blend launch0) rfl ls st μ
theorem e_X11_blend_18 (Q : ix_R → Prop) (ls : ix_L) (st : List ix_V) (μ : ix_M) : ix_Ev o_X11_blend Q (18, ls, st, μ) = ix_push (vi (-1)) 19 (ix_Ev o_X11_blend Q) Q ls st μ := ix_Ev.eq (a_X11_blend launch0) rfl ls st μ
theorem e_X11_blend_19 (Q : ix_R → Prop) (ls : ix_L) (st : List ix_V) (μ : ix_M) : ix_Ev o_X11_blend Q (19, ls, st, μ) = ix_istore 2 20 (ix_Ev o_X11_blend Q) Q ls st μ := ix_Ev.eq (a_X11_blend launch0) rfl ls st μ
theorem e_X11_blend_20 (Q : ix_R → Prop) (ls : ix_L) (st : List ix_V) (μ : ix_M) : ix_Ev o_X11_blend Q (20, ls, st, μ) = ix_push (vi 792) 23 (ix_Ev o_X11_blend Q) Q ls st μ := ix_Ev.eq (a_X11_blend launch0) rfl ls st μ
theorem e_X11_blend_23 (Q : ix_R → Prop) (ls : ix_L) (st : List ix_V) (μ : ix_M) : ix_Ev o_X11_blend Q (23, ls, st, μ) = ix_istore 3 24 (ix_Ev o_X11_blend Q) Q ls st μ := ix_Ev.eq (a_X11_blend launch0) rfl ls st μ
theorem e_X11_blend_24 (Q : ix_R → Prop) (ls : ix_L) (st : List ix_V) (μ : ix_M) : ix_Ev o_X11_blend Q (24, ls, st, μ) = ix_push (vi 0) 25 (ix_Ev o_X11_blend Q) Q ls st μ := ix_Ev.eq (a_X11_blend launch0) rfl ls st μ
theorem e_X11_blend_25 (Q : ix_R → Prop) (ls : ix_L) (st : List ix_V) (μ : ix_M) : ix_Ev o_X11_blend Q (25, ls, st, μ) = ix_istore 4 27 (ix_Ev o_X11_blend Q) Q ls st μ := ix_Ev.eq (a_X11_blend launch0) rfl ls st μ
theorem e_X11_blend_27 (Q : ix_R → Prop) (ls : ix_L) (st : List ix_V) (μ : ix_M) : ix_Ev o_X11_blend Q (27, ls, st, μ) = ix_iload 4 29 (ix_Ev o_X11_blend Q) Q ls st μ := ix_Ev.eq (a_X11_blend launch0) rfl ls st μ
theorem e_X11_blend_29 (Q : ix_R → Prop) (ls : ix_L) (st : List ix_V) (μ : ix_M) : ix_Ev o_X11_blend Q (29, ls, st, μ) = ix_aload 0 30 (ix_Ev o_X11_blend Q) Q ls st μ := ix_Ev.eq (a_X11_blend launch0) rfl ls st μ
theorem e_X11_blend_30 (Q : ix_R → Prop) (ls : ix_L) (st : List ix_V) (μ : ix_M) : ix_Ev o_X11_blend Q (30, ls, st, μ) = ix_getr 10 20 (fun _ => 113) 33 (ix_Ev o_X11_blend Q) Q ls st μ := ix_Ev.eq (a_X11_blend launch0) rfl ls st μ
theorem e_X11_blend_33 (Q : ix_R → Prop) (ls : ix_L) (st : List ix_V) (μ : ix_M) : ix_Ev o_X11_blend Q (33, ls, st, μ) = ix_push (vi 1) 34 (ix_Ev o_X11_blend Q) Q ls st μ := ix_Ev.eq (a_X11_blend launch0) rfl ls st μ
theorem e_X11_blend_34 (Q : ix_R → Prop) (ls : ix_L) (st : List ix_V) (μ : ix_M) : ix_Ev o_X11_blend Q (34, ls, st, μ) = ix_iald 35 (ix_Ev o_X11_blend Q) Q ls st μ := ix_Ev.eq (a_X11_blend launch0) rfl ls st μ
theorem e_X11_blend_35 (Q : ix_R → Prop) (ls : ix_L) (st : List ix_V) (μ : ix_M) : ix_Ev o_X11_blend Q (35, ls, st, μ) = ix_cmp (fun x y => y ≤ x) 115 38 (ix_Ev o_X11_blend Q) Q ls st μ := ix_Ev.eq (a_X11_blend launch0) rfl ls st μ
theorem e_X11_blend_38 (Q : ix_R → Prop) (ls : ix_L) (st : List ix_V) (μ : ix_M) : ix_Ev o_X11_blend Q (38, ls, st, μ) = ix_iload 4 40 (ix_Ev o_X11_blend Q) Q ls st μ := ix_Ev.eq (a_X11_blend launch0) rfl ls st μ
theorem e_X11_blend_40 (Q : ix_R → Prop) (ls : ix_L) (st : List ix_V) (μ : ix_M) : ix_Ev o_X11_blend Q (40, ls, st, μ) = ix_push (vi 1) 41 (ix_Ev o_X11_blend Q) Q ls st μ := ix_Ev.eq (a_X11_blend launch0) rfl ls st μ
theorem e_X11_blend_41 (Q : ix_R → Prop) (ls : ix_L) (st : List ix_V) (μ : ix_M) : ix_Ev o_X11_blend Q (41, ls, st, μ) = ix_bin (fun x y => x + y) 42 (ix_Ev o_X11_blend Q) Q ls st μ := ix_Ev.eq (a_X11_blend launch0) rfl ls st μ
theorem e_X11_blend_42 (Q : ix_R → Prop) (ls : ix_L) (st : List ix_V) (μ : ix_M) : ix_Ev o_X11_blend Q (42, ls, st, μ) = ix_istore 5 44 (ix_Ev o_X11_blend Q) Q ls st μ := ix_Ev.eq (a_X11_blend launch0) rfl ls st μ
theorem e_X11_blend_44 (Q : ix_R → Prop) (ls : ix_L) (st : List ix_V) (μ : ix_M) : ix_Ev o_X11_blend Q (44, ls, st, μ) = ix_iload 5 46 (ix_Ev o_X11_blend Q) Q ls st μ := ix_Ev.eq (a_X11_blend launch0) rfl ls st μ
theorem e_X11_blend_46 (Q : ix_R → Prop) (ls : ix_L) (st : List ix_V) (μ : ix_M) : ix_Ev o_X11_blend Q (46, ls, st, μ) = ix_aload 0 47 (ix_Ev o_X11_blend Q) Q ls st μ := ix_Ev.eq (a_X11_blend launch0) rfl ls st μ
theorem e_X11_blend_47 (Q : ix_R → Prop) (ls : ix_L) (st : List ix_V) (μ : ix_M) : ix_Ev o_X11_blend Q (47, ls, st, μ) = ix_getr 10 20 (fun _ => 113) 50 (ix_Ev o_X11_blend Q) Q ls st μ := ix_Ev.eq (a_X11_blend launch0) rfl ls st μ
theorem e_X11_blend_50 (Q : ix_R → Prop) (ls : ix_L) (st : List ix_V) (μ : ix_M) : ix_Ev o_X11_blend Q (50, ls, st, μ) = ix_push (vi 1) 51 (ix_Ev o_X11_blend Q) Q ls st μ := ix_Ev.eq (a_X11_blend launch0) rfl ls st μ
theorem e_X11_blend_51 (Q : ix_R → Prop) (ls : ix_L) (st : List ix_V) (μ : ix_M) : ix_Ev o_X11_blend Q (51, ls, st, μ) = ix_iald 52 (ix_Ev o_X11_blend Q) Q ls st μ := ix_Ev.eq (a_X11_blend launch0) rfl ls st μ
theorem e_X11_blend_52 (Q : ix_R → Prop) (ls : ix_L) (st : List ix_V) (μ : ix_M) : ix_Ev o_X11_blend Q (52, ls, st, μ) = ix_cmp (fun x y => y ≤ x) 109 55 (ix_Ev o_X11_blend Q) Q ls st μ := ix_Ev.eq (a_X11_blend launch0) rfl ls st μ
theorem e_X11_blend_55 (Q : ix_R → Prop) (ls : ix_L) (st : List ix_V) (μ : ix_M) : ix_Ev o_X11_blend Q (55, ls, st, μ) = ix_aload 0 56 (ix_Ev o_X11_blend Q) Q ls st μ := ix_Ev.eq (a_X11_blend launch0) rfl ls st μ
theorem e_X11_blend_56 (Q : ix_R → Prop) (ls : ix_L) (st : List ix_V) (μ : ix_M) : ix_Ev o_X11_blend Q (56, ls, st, μ) = ix_iload 4 58 (ix_Ev o_X11_blend Q) Q ls st μ := ix_Ev.eq (a_X11_blend launch0) rfl ls st μ
theorem e_X11_blend_58 (Q : ix_R → Prop) (ls : ix_L) (st : List ix_V) (μ : ix_M) : ix_Ev o_X11_blend Q (58, ls, st, μ) = ix_push (vi 3) 59 (ix_Ev o_X11_blend Q) Q ls st μ := ix_Ev.eq (a_X11_blend launch0) rfl ls st μ
theorem e_X11_blend_59 (Q : ix_R → Prop) (ls : ix_L) (st : List ix_V) (μ : ix_M) : ix_Ev o_X11_blend Q (59, ls, st, μ) = oc_X11_boatIs 62 (ix_Ev o_X11_blend Q) Q ls st μ := ix_Ev.eq (a_X11_blend launch0) rfl ls st μ
theorem e_X11_blend_62 (Q : ix_R → Prop) (ls : ix_L) (st : List ix_V) (μ : ix_M) : ix_Ev o_X11_blend Q (62, ls, st, μ) = ix_aload 0 63 (ix_Ev o_X11_blend Q) Q ls st μ := ix_Ev.eq (a_X11_blend launch0) rfl ls st μ
theorem e_X11_blend_63 (Q : ix_R → Prop) (ls : ix_L) (st : List ix_V) (μ : ix_M) : ix_Ev o_X11_blend Q (63, ls, st, μ) = ix_iload 5 65 (ix_Ev o_X11_blend Q) Q ls st μ := ix_Ev.eq (a_X11_blend launch0) rfl ls st μ
theorem e_X11_blend_65 (Q : ix_R → Prop) (ls : ix_L) (st : List ix_V) (μ : ix_M) : ix_Ev o_X11_blend Q (65, ls, st, μ) = ix_push (vi 3) 66 (ix_Ev o_X11_blend Q) Q ls st μ := ix_Ev.eq (a_X11_blend launch0) rfl ls st μ
theorem e_X11_blend_66 (Q : ix_R → Prop) (ls : ix_L) (st : List ix_V) (μ : ix_M) : ix_Ev o_X11_blend Q (66, ls, st, μ) = oc_X11_boatIs 69 (ix_Ev o_X11_blend Q) Q ls st μ := ix_Ev.eq (a_X11_blend launch0) rfl ls st μ
theorem e_X11_blend_69 (Q : ix_R → Prop) (ls : ix_L) (st : List ix_V) (μ : ix_M) : ix_Ev o_X11_blend Q (69, ls, st, μ) = ix_bin (fun x y => x + y) 70 (ix_Ev o_X11_blend Q) Q ls st μ := ix_Ev.eq (a_X11_blend launch0) rfl ls st μ
theorem e_X11_blend_70 (Q : ix_R → Prop) (ls : ix_L) (st : List ix_V) (μ : ix_M) : ix_Ev o_X11_blend Q (70, ls, st, μ) = ix_iload 1 71 (ix_Ev o_X11_blend Q) Q ls st μ := ix_Ev.eq (a_X11_blend launch0) rfl ls st μ
theorem e_X11_blend_71 (Q : ix_R → Prop) (ls : ix_L) (st : List ix_V) (μ : ix_M) : ix_Ev o_X11_blend Q (71, ls, st, μ) = ix_bin (fun x y => x - y) 72 (ix_Ev o_X11_blend Q) Q ls st μ := ix_Ev.eq (a_X11_blend launch0) rfl ls st μ
theorem e_X11_blend_72 (Q : ix_R → Prop) (ls : ix_L) (st : List ix_V) (μ : ix_M) : ix_Ev o_X11_blend Q (72, ls, st, μ) = ix_math1 (fun x => if 0 ≤ x then x else 0 - x) 75 (ix_Ev o_X11_blend Q) Q ls st μ := ix_Ev.eq (a_X11_blend launch0) rfl ls st μ
theorem e_X11_blend_75 (Q : ix_R → Prop) (ls : ix_L) (st : List ix_V) (μ : ix_M) : ix_Ev o_X11_blend Q (75, ls, st, μ) = ix_istore 6 77 (ix_Ev o_X11_blend Q) Q ls st μ := ix_Ev.eq (a_X11_blend launch0) rfl ls st μ
theorem e_X11_blend_77 (Q : ix_R → Prop) (ls : ix_L) (st : List ix_V) (μ : ix_M) : ix_Ev o_X11_blend Q (77, ls, st, μ) = ix_iload 6 79 (ix_Ev o_X11_blend Q) Q ls st μ := ix_Ev.eq (a_X11_blend launch0) rfl ls st μ
theorem e_X11_blend_79 (Q : ix_R → Prop) (ls : ix_L) (st : List ix_V) (μ : ix_M) : ix_Ev o_X11_blend Q (79, ls, st, μ) = ix_iload 3 80 (ix_Ev o_X11_blend Q) Q ls st μ := ix_Ev.eq (a_X11_blend launch0) rfl ls st μ
theorem e_X11_blend_80 (Q : ix_R → Prop) (ls : ix_L) (st : List ix_V) (μ : ix_M) : ix_Ev o_X11_blend Q (80, ls, st, μ) = ix_cmp (fun x y => y ≤ x) 94 83 (ix_Ev o_X11_blend Q) Q ls st μ := ix_Ev.eq (a_X11_blend launch0) rfl ls st μ
theorem e_X11_blend_83 (Q : ix_R → Prop) (ls : ix_L) (st : List ix_V) (μ : ix_M) : ix_Ev o_X11_blend Q (83, ls, st, μ) = ix_push (vi 10) 85 (ix_Ev o_X11_blend Q) Q ls st μ := ix_Ev.eq (a_X11_blend launch0) rfl ls st μ
theorem e_X11_blend_85 (Q : ix_R → Prop) (ls : ix_L) (st : List ix_V) (μ : ix_M) : ix_Ev o_X11_blend Q (85, ls, st, μ) = ix_iload 4 87 (ix_Ev o_X11_blend Q) Q ls st μ := ix_Ev.eq (a_X11_blend launch0) rfl ls st μ
theorem e_X11_blend_87 (Q : ix_R → Prop) (ls : ix_L) (st : List ix_V) (μ : ix_M) : ix_Ev o_X11_blend Q (87, ls, st, μ) = ix_bin (fun x y => x * y) 88 (ix_Ev o_X11_blend Q) Q ls st μ := ix_Ev.eq (a_X11_blend launch0) rfl ls st μ
theorem e_X11_blend_88 (Q : ix_R → Prop) (ls : ix_L) (st : List ix_V) (μ : ix_M) : ix_Ev o_X11_blend Q (88, ls, st, μ) = ix_iload 5 90 (ix_Ev o_X11_blend Q) Q ls st μ := ix_Ev.eq (a_X11_blend launch0) rfl ls st μ
theorem e_X11_blend_90 (Q : ix_R → Prop) (ls : ix_L) (st : List ix_V) (μ : ix_M) : ix_Ev o_X11_blend Q (90, ls, st, μ) = ix_bin (fun x y => x + y) 91 (ix_Ev o_X11_blend Q) Q ls st μ := ix_Ev.eq (a_X11_blend launch0) rfl ls st μ
theorem e_X11_blend_91 (Q : ix_R → Prop) (ls : ix_L) (st : List ix_V) (μ : ix_M) : ix_Ev o_X11_blend Q (91, ls, st, μ) = ix_goto 95 (ix_Ev o_X11_blend Q) Q ls st μ := ix_Ev.eq (a_X11_blend launch0) rfl ls st μ
theorem e_X11_blend_94 (Q : ix_R → Prop) (ls : ix_L) (st : List ix_V) (μ : ix_M) : ix_Ev o_X11_blend Q (94, ls, st, μ) = ix_iload 2 95 (ix_Ev o_X11_blend Q) Q ls st μ := ix_Ev.eq (a_X11_blend launch0) rfl ls st μ
theorem e_X11_blend_95 (Q : ix_R → Prop) (ls : ix_L) (st : List ix_V) (μ : ix_M) : ix_Ev o_X11_blend Q (95, ls, st, μ) = ix_istore 2 96 (ix_Ev o_X11_blend Q) Q ls st μ := ix_Ev.eq (a_X11_blend launch0) rfl ls st μ
theorem e_X11_blend_96 (Q : ix_R → Prop) (ls : ix_L) (st : List ix_V) (μ : ix_M) : ix_Ev o_X11_blend Q (96, ls, st, μ) = ix_iload 3 97 (ix_Ev o_X11_blend Q) Q ls st μ := ix_Ev.eq (a_X11_blend launch0) rfl ls st μ
theorem e_X11_blend_97 (Q : ix_R → Prop) (ls : ix_L) (st : List ix_V) (μ : ix_M) : ix_Ev o_X11_blend Q (97, ls, st, μ) = ix_iload 6 99 (ix_Ev o_X11_blend Q) Q ls st μ := ix_Ev.eq (a_X11_blend launch0) rfl ls st μ
theorem e_X11_blend_99 (Q : ix_R → Prop) (ls : ix_L) (st : List ix_V) (μ : ix_M) : ix_Ev o_X11_blend Q (99, ls, st, μ) = ix_math2 (fun x y => if y < x then y else x) 102 (ix_Ev o_X11_blend Q) Q ls st μ := ix_Ev.eq (a_X11_blend launch0) rfl ls st μ
theorem e_X11_blend_102 (Q : ix_R → Prop) (ls : ix_L) (st : List ix_V) (μ : ix_M) : ix_Ev o_X11_blend Q (102, ls, st, μ) = ix_istore 3 103 (ix_Ev o_X11_blend Q) Q ls st μ := ix_Ev.eq (a_X11_blend launch0) rfl ls st μ
theorem e_X11_blend_103 (Q : ix_R → Prop) (ls : ix_L) (st : List ix_V) (μ : ix_M) : ix_Ev o_X11_blend Q (103, ls, st, μ) = ix_iinc 5 1 106 (ix_Ev o_X11_blend Q) Q ls st μ := ix_Ev.eq (a_X11_blend launch0) rfl ls st μ
theorem e_X11_blend_106 (Q : ix_R → Prop) (ls : ix_L) (st : List ix_V) (μ : ix_M) : ix_Ev o_X11_blend Q (106, ls, st, μ) = ix_goto 44 (ix_Ev o_X11_blend Q) Q ls st μ := ix_Ev.eq (a_X11_blend launch0) rfl ls st μ
theorem e_X11_blend_109 (Q : ix_R → Prop) (ls : ix_L) (st : List ix_V) (μ : ix_M) : ix_Ev o_X11_blend Q (109, ls, st, μ) = ix_iinc 4 1 112 (ix_Ev o_X11_blend Q) Q ls st μ := ix_Ev.eq (a_X11_blend launch0) rfl ls st μ
theorem e_X11_blend_112 (Q : ix_R → Prop) (ls : ix_L) (st : List ix_V) (μ : ix_M) : ix_Ev o_X11_blend Q (112, ls, st, μ) = ix_goto 27 (ix_Ev o_X11_blend Q) Q ls st μ := ix_Ev.eq (a_X11_blend launch0) rfl ls st μ
theorem e_X11_blend_115 (Q : ix_R → Prop) (ls : ix_L) (st : List ix_V) (μ : ix_M) : ix_Ev o_X11_blend Q (115, ls, st, μ) = ix_iload 2 116 (ix_Ev o_X11_blend Q) Q ls st μ := ix_Ev.eq (a_X11_blend launch0) rfl ls st μ
theorem e_X11_blend_116 (Q : ix_R → Prop) (ls : ix_L) (st : List ix_V) (μ : ix_M) : ix_Ev o_X11_blend Q (116, ls, st, μ) = ix_if (fun x => 0 ≤ x) 129 119 (ix_Ev o_X11_blend Q) Q ls st μ := ix_Ev.eq (a_X11_blend launch0) rfl ls st μ
theorem e_X11_blend_119 (Q : ix_R → Prop) (ls : ix_L) (st : List ix_V) (μ : ix_M) : ix_Ev o_X11_blend Q (119, ls, st, μ) = ix_aload 0 120 (ix_Ev o_X11_blend Q) Q ls st μ := ix_Ev.eq (a_X11_blend launch0) rfl ls st μ
theorem e_X11_blend_120 (Q : ix_R → Prop) (ls : ix_L) (st : List ix_V) (μ : ix_M) : ix_Ev o_X11_blend Q (120, ls, st, μ) = ix_push (vi (-1000000002)) 123 (ix_Ev o_X11_blend Q) Q ls st μ := ix_Ev.eq (a_X11_blend launch0) rfl ls st μ
theorem e_X11_blend_123 (Q : ix_R → Prop) (ls : ix_L) (st : List ix_V) (μ : ix_M) : ix_Ev o_X11_blend Q (123, ls, st, μ) = oc_X11_finding 126 (ix_Ev o_X11_blend Q) Q ls st μ := ix_Ev.eq (a_X11_blend launch0) rfl ls st μ
theorem e_X11_blend_126 (Q : ix_R → Prop) (ls : ix_L) (st : List ix_V) (μ : ix_M) : ix_Ev o_X11_blend Q (126, ls, st, μ) = ix_goto 130 (ix_Ev o_X11_blend Q) Q ls st μ := ix_Ev.eq (a_X11_blend launch0) rfl ls st μ
theorem e_X11_blend_129 (Q : ix_R → Prop) (ls : ix_L) (st : List ix_V) (μ : ix_M) : ix_Ev o_X11_blend Q (129, ls, st, μ) = ix_iload 2 130 (ix_Ev o_X11_blend Q) Q ls st μ := ix_Ev.eq (a_X11_blend launch0) rfl ls st μ
theorem e_X11_blend_130 (Q : ix_R → Prop) (ls : ix_L) (st : List ix_V) (μ : ix_M) : ix_Ev o_X11_blend Q (130, ls, st, μ) = ix_iret (ix_Ev o_X11_blend Q) Q ls st μ := ix_Ev.eq (a_X11_blend launch0) rfl ls st μ
/-- what two barrels come to is so far apart -/
def apt (v x y : Int32) : Int32 := if 0 ≤ x + y - v then x + y - v else 0 - (x + y - v)
def bSt (f : Nat → Nat → Int32) (i j : Nat) (s : Int32 × Int32) : Int32 × Int32 := if f i j < s.2 then (10 * nI i + nI j, f i j) else s
def biN (f : Nat → Nat → Int32) (i : Nat) (k j : Nat) (s : Int32 × Int32) : Int32 × Int32 := match k with
  | 0 => s
  | k + 1 => biN f i k (j + 1) (bSt f i j s)
def boN (f : Nat → Nat → Int32) (N : Nat) (k i : Nat) (s : Int32 × Int32) : Int32 × Int32 := match k with
  | 0 => s
  | k + 1 => boN f N k (i + 1) (biN f i (N - (i + 1)) (i + 1) s)
theorem l2_X10_blend {V : Int32} {N i : Nat} {μ : ix_M} {Q : ix_R → Prop} {f : Nat → Nat → Int32} (hf : ∀ i j, i < 8 → j < 8 → f i j = apt V (μ 9 i) (μ 9 j)) (hN : N ≤ 8) (hb : μ 2 7 = nI N) (hi : i < N) : ∀ (k j : Nat) (s : Int32 × Int32) (x7 : Option ix_V), j + k = N → (∀ x7, ix_Ev o_X10_blend Q (48, [some (vr 9 0), some (vi V), some (vr 8 2), some (vi (biN f i k j s).1), some (vi (biN f i k j s).2), some (vi (nI (i + 1))), some (vi (nI N)), x7], [], μ)) → ix_Ev o_X10_blend Q (63, [some (vr 9 0), some (vi V), some (vr 8 2), some (vi s.1), some (vi s.2), some (vi (nI i)), some (vi (nI j)), x7], [], μ) := by
  intro k
  have n1 : nI i + 1 = nI (i + 1) := nI_1 i
  have Ic : (nI i).toNatClampNeg = i := nI_clamp (by omega)
  have v1 : vp_in (nI i) (ix_len 9) := vp_in_nI (show i < 8 by omega) (by decide)
  induction k with
  | zero =>
    intro j s x7 hj hK
    have hj : j = N := hj
    subst hj
    have c1 : nI j ≤ nI j := Int32.le_refl _
    rw [e_X10_blend_63]
    simp (decide := true) only [e_X10_blend_0, e_X10_blend_1, e_X10_blend_4, e_X10_blend_7, e_X10_blend_10, e_X10_blend_11, e_X10_blend_12, e_X10_blend_15, e_X10_blend_16, e_X10_blend_17, e_X10_blend_20, e_X10_blend_23, e_X10_blend_24, e_X10_blend_25, e_X10_blend_28, e_X10_blend_29, e_X10_blend_32, e_X10_blend_33, e_X10_blend_34, e_X10_blend_37, e_X10_blend_38, e_X10_blend_39, e_X10_blend_40, e_X10_blend_43, e_X10_blend_45, e_X10_blend_46, e_X10_blend_50, e_X10_blend_51, e_X10_blend_54, e_X10_blend_57, e_X10_blend_59, e_X10_blend_60, e_X10_blend_61, e_X10_blend_65, e_X10_blend_66, e_X10_blend_69, e_X10_blend_72, e_X10_blend_73, e_X10_blend_76, e_X10_blend_78, e_X10_blend_79, e_X10_blend_80, e_X10_blend_83, e_X10_blend_85, e_X10_blend_86, e_X10_blend_87, e_X10_blend_88, e_X10_blend_89, e_X10_blend_92, e_X10_blend_94, e_X10_blend_96, e_X10_blend_98, e_X10_blend_101, e_X10_blend_103, e_X10_blend_105, e_X10_blend_107, e_X10_blend_109, e_X10_blend_110, e_X10_blend_112, e_X10_blend_113, e_X10_blend_114, e_X10_blend_117, e_X10_blend_120, e_X10_blend_123, e_X10_blend_126, e_X10_blend_127, vi, vl, vr, oc_X10_error, T_X10_error, oc_X10_outside, T_X10_outside, ix_push, ix_iload, ix_lload, ix_aload, ix_istore, ix_astore, ix_iinc, ix_bin, ix_div, ix_un, ix_i2l, ix_l2i, ix_lbin, ix_lsh, ix_lcmp, ix_dup, ix_dup2, ix_pop, ix_if, ix_cmp, ix_goto, ix_switch, ix_sw, ix_iret, ix_zret, ix_vret, ix_aret, ix_geti, ix_getr, ix_puti, ix_putz, ix_puts, ix_gets, ix_iald, ix_iast, ix_alen, ix_aald, ix_gval, ix_gcod, ix_bald, ix_blen, ix_sald, ix_nret, ix_math2, ix_math1, ix_acopy, Nat.add_assoc, Int32.reduceLT, Int32.reduceLE, Int32.reduceToNatClampNeg, Int32.reduceSub, Int32.reduceAdd, Nat.reduceAdd, Nat.reduceLeDiff, true_or, or_true, or_false, false_or, not_false_eq_true, not_true_eq_false, false_implies, true_implies, implies_true, and_self, mB_0, mB_01, Classical.not_not, Nat.zero_le, List.getElem?_cons_zero, List.getElem?_cons_succ, List.set_cons_zero, List.set_cons_succ, ix_nl, ix_cs, true_and, and_true, Option.toList_some, Option.toList_none, List.cons_append, List.nil_append, hb, c1, n1]
    exact hK x7
  | succ k ih =>
    intro j s x7 hj hK
    have c1 : ¬ nI N ≤ nI j := nI_ge (by omega) (by omega)
    have n2 : nI j + 1 = nI (j + 1) := nI_1 j
    have Jc : (nI j).toNatClampNeg = j := nI_clamp (by omega)
    have v2 : vp_in (nI j) (ix_len 9) := vp_in_nI (show j < 8 by omega) (by decide)
    have ea : (if 0 ≤ μ 9 i + μ 9 j - V then μ 9 i + μ 9 j - V else 0 - (μ 9 i + μ 9 j - V)) = f i j := by rw [hf i j (by omega) (by omega)]; rfl
    rw [e_X10_blend_63]
    simp (decide := true) only [e_X10_blend_0, e_X10_blend_1, e_X10_blend_4, e_X10_blend_7, e_X10_blend_10, e_X10_blend_11, e_X10_blend_12, e_X10_blend_15, e_X10_blend_16, e_X10_blend_17, e_X10_blend_20, e_X10_blend_23, e_X10_blend_24, e_X10_blend_25, e_X10_blend_28, e_X10_blend_29, e_X10_blend_32, e_X10_blend_33, e_X10_blend_34, e_X10_blend_37, e_X10_blend_38, e_X10_blend_39, e_X10_blend_40, e_X10_blend_43, e_X10_blend_45, e_X10_blend_46, e_X10_blend_50, e_X10_blend_51, e_X10_blend_54, e_X10_blend_57, e_X10_blend_59, e_X10_blend_60, e_X10_blend_61, e_X10_blend_65, e_X10_blend_66, e_X10_blend_69, e_X10_blend_72, e_X10_blend_73, e_X10_blend_76, e_X10_blend_78, e_X10_blend_79, e_X10_blend_80, e_X10_blend_83, e_X10_blend_85, e_X10_blend_86, e_X10_blend_87, e_X10_blend_88, e_X10_blend_89, e_X10_blend_92, e_X10_blend_94, e_X10_blend_96, e_X10_blend_98, e_X10_blend_101, e_X10_blend_103, e_X10_blend_105, e_X10_blend_107, e_X10_blend_109, e_X10_blend_110, e_X10_blend_112, e_X10_blend_113, e_X10_blend_114, e_X10_blend_117, e_X10_blend_120, e_X10_blend_123, e_X10_blend_126, e_X10_blend_127, vi, vl, vr, oc_X10_error, T_X10_error, oc_X10_outside, T_X10_outside, ix_push, ix_iload, ix_lload, ix_aload, ix_istore, ix_astore, ix_iinc, ix_bin, ix_div, ix_un, ix_i2l, ix_l2i, ix_lbin, ix_lsh, ix_lcmp, ix_dup, ix_dup2, ix_pop, ix_if, ix_cmp, ix_goto, ix_switch, ix_sw, ix_iret, ix_zret, ix_vret, ix_aret, ix_geti, ix_getr, ix_puti, ix_putz, ix_puts, ix_gets, ix_iald, ix_iast, ix_alen, ix_aald, ix_gval, ix_gcod, ix_bald, ix_blen, ix_sald, ix_nret, ix_math2, ix_math1, ix_acopy, Nat.add_assoc, Int32.reduceLT, Int32.reduceLE, Int32.reduceToNatClampNeg, Int32.reduceSub, Int32.reduceAdd, Nat.reduceAdd, Nat.reduceLeDiff, true_or, or_true, or_false, false_or, not_false_eq_true, not_true_eq_false, false_implies, true_implies, implies_true, and_self, mB_0, mB_01, Classical.not_not, Nat.zero_le, List.getElem?_cons_zero, List.getElem?_cons_succ, List.set_cons_zero, List.set_cons_succ, ix_nl, ix_cs, true_and, and_true, Option.toList_some, Option.toList_none, List.cons_append, List.nil_append, hb, c1, n2, Jc, v2, Ic, v1, ea]
    have := fun x7 => ih (j + 1) (bSt f i j s) x7 (by omega) hK
    unfold bSt at this
    refine ⟨fun z => ?_, fun z => ?_⟩
    · rw [if_neg (Int32.not_lt.mpr z)] at this
      exact this _
    · rw [if_pos (Int32.not_le.mp z)] at this
      exact this _
theorem l_X10_blend {V : Int32} {N : Nat} {μ : ix_M} {Q : ix_R → Prop} {f : Nat → Nat → Int32} (hf : ∀ i j, i < 8 → j < 8 → f i j = apt V (μ 9 i) (μ 9 j)) (hN : N ≤ 8) (hb : μ 2 7 = nI N) : ∀ (k i : Nat) (s : Int32 × Int32) (x6 x7 : Option ix_V), i + k = N → Q (some (vi (boN f N k i s).1), μ) → ix_Ev o_X10_blend Q (48, [some (vr 9 0), some (vi V), some (vr 8 2), some (vi s.1), some (vi s.2), some (vi (nI i)), x6, x7], [], μ) := by
  intro k
  induction k with
  | zero =>
    intro i s x6 x7 hi hQ
    have hi : i = N := hi
    subst hi
    have c1 : nI i ≤ nI i := Int32.le_refl _
    rw [e_X10_blend_48]
    simp (decide := true) only [e_X10_blend_0, e_X10_blend_1, e_X10_blend_4, e_X10_blend_7, e_X10_blend_10, e_X10_blend_11, e_X10_blend_12, e_X10_blend_15, e_X10_blend_16, e_X10_blend_17, e_X10_blend_20, e_X10_blend_23, e_X10_blend_24, e_X10_blend_25, e_X10_blend_28, e_X10_blend_29, e_X10_blend_32, e_X10_blend_33, e_X10_blend_34, e_X10_blend_37, e_X10_blend_38, e_X10_blend_39, e_X10_blend_40, e_X10_blend_43, e_X10_blend_45, e_X10_blend_46, e_X10_blend_50, e_X10_blend_51, e_X10_blend_54, e_X10_blend_57, e_X10_blend_59, e_X10_blend_60, e_X10_blend_61, e_X10_blend_65, e_X10_blend_66, e_X10_blend_69, e_X10_blend_72, e_X10_blend_73, e_X10_blend_76, e_X10_blend_78, e_X10_blend_79, e_X10_blend_80, e_X10_blend_83, e_X10_blend_85, e_X10_blend_86, e_X10_blend_87, e_X10_blend_88, e_X10_blend_89, e_X10_blend_92, e_X10_blend_94, e_X10_blend_96, e_X10_blend_98, e_X10_blend_101, e_X10_blend_103, e_X10_blend_105, e_X10_blend_107, e_X10_blend_109, e_X10_blend_110, e_X10_blend_112, e_X10_blend_113, e_X10_blend_114, e_X10_blend_117, e_X10_blend_120, e_X10_blend_123, e_X10_blend_126, e_X10_blend_127, vi, vl, vr, oc_X10_error, T_X10_error, oc_X10_outside, T_X10_outside, ix_push, ix_iload, ix_lload, ix_aload, ix_istore, ix_astore, ix_iinc, ix_bin, ix_div, ix_un, ix_i2l, ix_l2i, ix_lbin, ix_lsh, ix_lcmp, ix_dup, ix_dup2, ix_pop, ix_if, ix_cmp, ix_goto, ix_switch, ix_sw, ix_iret, ix_zret, ix_vret, ix_aret, ix_geti, ix_getr, ix_puti, ix_putz, ix_puts, ix_gets, ix_iald, ix_iast, ix_alen, ix_aald, ix_gval, ix_gcod, ix_bald, ix_blen, ix_sald, ix_nret, ix_math2, ix_math1, ix_acopy, Nat.add_assoc, Int32.reduceLT, Int32.reduceLE, Int32.reduceToNatClampNeg, Int32.reduceSub, Int32.reduceAdd, Nat.reduceAdd, Nat.reduceLeDiff, true_or, or_true, or_false, false_or, not_false_eq_true, not_true_eq_false, false_implies, true_implies, implies_true, and_self, mB_0, mB_01, Classical.not_not, Nat.zero_le, List.getElem?_cons_zero, List.getElem?_cons_succ, List.set_cons_zero, List.set_cons_succ, ix_nl, ix_cs, true_and, and_true, Option.toList_some, Option.toList_none, List.cons_append, List.nil_append, hb, c1]
    exact hQ
  | succ k ih =>
    intro i s x6 x7 hi hQ
    have c1 : ¬ nI N ≤ nI i := nI_ge (by omega) (by omega)
    have n1 : nI i + 1 = nI (i + 1) := nI_1 i
    rw [e_X10_blend_48]
    simp (decide := true) only [e_X10_blend_0, e_X10_blend_1, e_X10_blend_4, e_X10_blend_7, e_X10_blend_10, e_X10_blend_11, e_X10_blend_12, e_X10_blend_15, e_X10_blend_16, e_X10_blend_17, e_X10_blend_20, e_X10_blend_23, e_X10_blend_24, e_X10_blend_25, e_X10_blend_28, e_X10_blend_29, e_X10_blend_32, e_X10_blend_33, e_X10_blend_34, e_X10_blend_37, e_X10_blend_38, e_X10_blend_39, e_X10_blend_40, e_X10_blend_43, e_X10_blend_45, e_X10_blend_46, e_X10_blend_50, e_X10_blend_51, e_X10_blend_54, e_X10_blend_57, e_X10_blend_59, e_X10_blend_60, e_X10_blend_61, e_X10_blend_65, e_X10_blend_66, e_X10_blend_69, e_X10_blend_72, e_X10_blend_73, e_X10_blend_76, e_X10_blend_78, e_X10_blend_79, e_X10_blend_80, e_X10_blend_83, e_X10_blend_85, e_X10_blend_86, e_X10_blend_87, e_X10_blend_88, e_X10_blend_89, e_X10_blend_92, e_X10_blend_94, e_X10_blend_96, e_X10_blend_98, e_X10_blend_101, e_X10_blend_103, e_X10_blend_105, e_X10_blend_107, e_X10_blend_109, e_X10_blend_110, e_X10_blend_112, e_X10_blend_113, e_X10_blend_114, e_X10_blend_117, e_X10_blend_120, e_X10_blend_123, e_X10_blend_126, e_X10_blend_127, vi, vl, vr, oc_X10_error, T_X10_error, oc_X10_outside, T_X10_outside, ix_push, ix_iload, ix_lload, ix_aload, ix_istore, ix_astore, ix_iinc, ix_bin, ix_div, ix_un, ix_i2l, ix_l2i, ix_lbin, ix_lsh, ix_lcmp, ix_dup, ix_dup2, ix_pop, ix_if, ix_cmp, ix_goto, ix_switch, ix_sw, ix_iret, ix_zret, ix_vret, ix_aret, ix_geti, ix_getr, ix_puti, ix_putz, ix_puts, ix_gets, ix_iald, ix_iast, ix_alen, ix_aald, ix_gval, ix_gcod, ix_bald, ix_blen, ix_sald, ix_nret, ix_math2, ix_math1, ix_acopy, Nat.add_assoc, Int32.reduceLT, Int32.reduceLE, Int32.reduceToNatClampNeg, Int32.reduceSub, Int32.reduceAdd, Nat.reduceAdd, Nat.reduceLeDiff, true_or, or_true, or_false, false_or, not_false_eq_true, not_true_eq_false, false_implies, true_implies, implies_true, and_self, mB_0, mB_01, Classical.not_not, Nat.zero_le, List.getElem?_cons_zero, List.getElem?_cons_succ, List.set_cons_zero, List.set_cons_succ, ix_nl, ix_cs, true_and, and_true, Option.toList_some, Option.toList_none, List.cons_append, List.nil_append, hb, c1, n1]
    exact l2_X10_blend hf hN hb (by omega) (N - (i + 1)) (i + 1) s x7 (by omega) (fun x7 => ih (i + 1) _ _ x7 (by omega) hQ)
theorem l2_X11_blend {V : Int32} {N i : Nat} {μ : ix_M} {Q : ix_R → Prop} {f : Nat → Nat → Int32} (hf : f = fun i j => apt V (μ 113 (53 + 4 * i)) (μ 113 (53 + 4 * j))) (hN : N ≤ 8) (hb : μ 113 1 = nI N) (hi : i < N) : ∀ (k j : Nat) (s : Int32 × Int32) (x6 : Option ix_V), j + k = N → (∀ x6, ix_Ev o_X11_blend Q (27, [some (vr 10 112), some (vi V), some (vi (biN f i k j s).1), some (vi (biN f i k j s).2), some (vi (nI (i + 1))), some (vi (nI N)), x6], [], μ)) → ix_Ev o_X11_blend Q (44, [some (vr 10 112), some (vi V), some (vi s.1), some (vi s.2), some (vi (nI i)), some (vi (nI j)), x6], [], μ) := by
  intro k
  have n1 : nI i + 1 = nI (i + 1) := nI_1 i
  have hx := bx i (by omega)
  induction k with
  | zero =>
    intro j s x6 hj hK
    have hj : j = N := hj
    subst hj
    have c1 : nI j ≤ nI j := Int32.le_refl _
    rw [e_X11_blend_44]
    simp (decide := true) only [e_X11_blend_0, e_X11_blend_1, e_X11_blend_2, e_X11_blend_5, e_X11_blend_8, e_X11_blend_11, e_X11_blend_12, e_X11_blend_14, e_X11_blend_17, e_X11_blend_18, e_X11_blend_19, e_X11_blend_20, e_X11_blend_23, e_X11_blend_24, e_X11_blend_25, e_X11_blend_29, e_X11_blend_30, e_X11_blend_33, e_X11_blend_34, e_X11_blend_35, e_X11_blend_38, e_X11_blend_40, e_X11_blend_41, e_X11_blend_42, e_X11_blend_46, e_X11_blend_47, e_X11_blend_50, e_X11_blend_51, e_X11_blend_52, e_X11_blend_55, e_X11_blend_56, e_X11_blend_58, e_X11_blend_59, e_X11_blend_62, e_X11_blend_63, e_X11_blend_65, e_X11_blend_66, e_X11_blend_69, e_X11_blend_70, e_X11_blend_71, e_X11_blend_72, e_X11_blend_75, e_X11_blend_77, e_X11_blend_79, e_X11_blend_80, e_X11_blend_83, e_X11_blend_85, e_X11_blend_87, e_X11_blend_88, e_X11_blend_90, e_X11_blend_91, e_X11_blend_94, e_X11_blend_95, e_X11_blend_96, e_X11_blend_97, e_X11_blend_99, e_X11_blend_102, e_X11_blend_103, e_X11_blend_106, e_X11_blend_109, e_X11_blend_112, e_X11_blend_115, e_X11_blend_116, e_X11_blend_119, e_X11_blend_120, e_X11_blend_123, e_X11_blend_126, e_X11_blend_129, e_X11_blend_130, vi, vl, vr, oc_X11_boatIs, T_X11_boatIs, oc_X11_finding, T_X11_finding, oc_X11_within, T_X11_within, ix_push, ix_iload, ix_lload, ix_aload, ix_istore, ix_astore, ix_iinc, ix_bin, ix_div, ix_un, ix_i2l, ix_l2i, ix_lbin, ix_lsh, ix_lcmp, ix_dup, ix_dup2, ix_pop, ix_if, ix_cmp, ix_goto, ix_switch, ix_sw, ix_iret, ix_zret, ix_vret, ix_aret, ix_geti, ix_getr, ix_puti, ix_putz, ix_puts, ix_gets, ix_iald, ix_iast, ix_alen, ix_aald, ix_gval, ix_gcod, ix_bald, ix_blen, ix_sald, ix_nret, ix_math2, ix_math1, ix_acopy, ml_113, ml_114, ml_115, ml_116, ml_118, ml_119, ml_120, ml_121, ml_122, ml_123, ml_124, ml_125, ml_126, mv_0, mv_1, mv_2, mv_3, mv_4, mv_5, mB_or, Nat.add_assoc, Int32.reduceLT, Int32.reduceLE, Int32.reduceToNatClampNeg, Int32.reduceSub, Int32.reduceAdd, Nat.reduceAdd, Nat.reduceLeDiff, true_or, or_true, or_false, false_or, not_false_eq_true, not_true_eq_false, false_implies, true_implies, implies_true, and_self, mB_0, mB_01, Classical.not_not, Nat.zero_le, List.getElem?_cons_zero, List.getElem?_cons_succ, List.set_cons_zero, List.set_cons_succ, ix_nl, ix_cs, true_and, and_true, Option.toList_some, Option.toList_none, List.cons_append, List.nil_append, hb, c1, n1]
    exact hK x6
  | succ k ih =>
    intro j s x6 hj hK
    have c1 : ¬ nI N ≤ nI j := nI_ge (by omega) (by omega)
    have n2 : nI j + 1 = nI (j + 1) := nI_1 j
    have hy := bx j (by omega)
    have ea : (if 0 ≤ μ 113 (53 + 4 * i) + μ 113 (53 + 4 * j) - V then μ 113 (53 + 4 * i) + μ 113 (53 + 4 * j) - V else 0 - (μ 113 (53 + 4 * i) + μ 113 (53 + 4 * j) - V)) = f i j := by rw [hf]; rfl
    rw [e_X11_blend_44]
    simp (decide := true) only [e_X11_blend_0, e_X11_blend_1, e_X11_blend_2, e_X11_blend_5, e_X11_blend_8, e_X11_blend_11, e_X11_blend_12, e_X11_blend_14, e_X11_blend_17, e_X11_blend_18, e_X11_blend_19, e_X11_blend_20, e_X11_blend_23, e_X11_blend_24, e_X11_blend_25, e_X11_blend_29, e_X11_blend_30, e_X11_blend_33, e_X11_blend_34, e_X11_blend_35, e_X11_blend_38, e_X11_blend_40, e_X11_blend_41, e_X11_blend_42, e_X11_blend_46, e_X11_blend_47, e_X11_blend_50, e_X11_blend_51, e_X11_blend_52, e_X11_blend_55, e_X11_blend_56, e_X11_blend_58, e_X11_blend_59, e_X11_blend_62, e_X11_blend_63, e_X11_blend_65, e_X11_blend_66, e_X11_blend_69, e_X11_blend_70, e_X11_blend_71, e_X11_blend_72, e_X11_blend_75, e_X11_blend_77, e_X11_blend_79, e_X11_blend_80, e_X11_blend_83, e_X11_blend_85, e_X11_blend_87, e_X11_blend_88, e_X11_blend_90, e_X11_blend_91, e_X11_blend_94, e_X11_blend_95, e_X11_blend_96, e_X11_blend_97, e_X11_blend_99, e_X11_blend_102, e_X11_blend_103, e_X11_blend_106, e_X11_blend_109, e_X11_blend_112, e_X11_blend_115, e_X11_blend_116, e_X11_blend_119, e_X11_blend_120, e_X11_blend_123, e_X11_blend_126, e_X11_blend_129, e_X11_blend_130, vi, vl, vr, oc_X11_boatIs, T_X11_boatIs, oc_X11_finding, T_X11_finding, oc_X11_within, T_X11_within, ix_push, ix_iload, ix_lload, ix_aload, ix_istore, ix_astore, ix_iinc, ix_bin, ix_div, ix_un, ix_i2l, ix_l2i, ix_lbin, ix_lsh, ix_lcmp, ix_dup, ix_dup2, ix_pop, ix_if, ix_cmp, ix_goto, ix_switch, ix_sw, ix_iret, ix_zret, ix_vret, ix_aret, ix_geti, ix_getr, ix_puti, ix_putz, ix_puts, ix_gets, ix_iald, ix_iast, ix_alen, ix_aald, ix_gval, ix_gcod, ix_bald, ix_blen, ix_sald, ix_nret, ix_math2, ix_math1, ix_acopy, ml_113, ml_114, ml_115, ml_116, ml_118, ml_119, ml_120, ml_121, ml_122, ml_123, ml_124, ml_125, ml_126, mv_0, mv_1, mv_2, mv_3, mv_4, mv_5, mB_or, Nat.add_assoc, Int32.reduceLT, Int32.reduceLE, Int32.reduceToNatClampNeg, Int32.reduceSub, Int32.reduceAdd, Nat.reduceAdd, Nat.reduceLeDiff, true_or, or_true, or_false, false_or, not_false_eq_true, not_true_eq_false, false_implies, true_implies, implies_true, and_self, mB_0, mB_01, Classical.not_not, Nat.zero_le, List.getElem?_cons_zero, List.getElem?_cons_succ, List.set_cons_zero, List.set_cons_succ, ix_nl, ix_cs, true_and, and_true, Option.toList_some, Option.toList_none, List.cons_append, List.nil_append, hb, c1, n2, hx, hy, ea]
    have := fun x6 => ih (j + 1) (bSt f i j s) x6 (by omega) hK
    unfold bSt at this
    refine ⟨fun z => ?_, fun z => ?_⟩
    · rw [if_neg (Int32.not_lt.mpr z)] at this ⊢
      exact this _
    · rw [if_pos (Int32.not_le.mp z)] at this ⊢
      exact this _
theorem l_X11_blend {V : Int32} {N : Nat} {μ : ix_M} {Q : ix_R → Prop} {f : Nat → Nat → Int32} (hf : f = fun i j => apt V (μ 113 (53 + 4 * i)) (μ 113 (53 + 4 * j))) (hN : N ≤ 8) (hb : μ 113 1 = nI N) : ∀ (k i : Nat) (s : Int32 × Int32) (x5 x6 : Option ix_V), i + k = N → ((¬ 0 ≤ (boN f N k i s).1 → Q (some (vi (-1000000002)), ix_up μ 116 2 (μ 116 2 + 1))) ∧ (0 ≤ (boN f N k i s).1 → Q (some (vi (boN f N k i s).1), μ))) → ix_Ev o_X11_blend Q (27, [some (vr 10 112), some (vi V), some (vi s.1), some (vi s.2), some (vi (nI i)), x5, x6], [], μ) := by
  intro k
  induction k with
  | zero =>
    intro i s x5 x6 hi hQ
    have hi : i = N := hi
    subst hi
    have c1 : nI i ≤ nI i := Int32.le_refl _
    rw [e_X11_blend_27]
    simp (decide := true) only [e_X11_blend_0, e_X11_blend_1, e_X11_blend_2, e_X11_blend_5, e_X11_blend_8, e_X11_blend_11, e_X11_blend_12, e_X11_blend_14, e_X11_blend_17, e_X11_blend_18, e_X11_blend_19, e_X11_blend_20, e_X11_blend_23, e_X11_blend_24, e_X11_blend_25, e_X11_blend_29, e_X11_blend_30, e_X11_blend_33, e_X11_blend_34, e_X11_blend_35, e_X11_blend_38, e_X11_blend_40, e_X11_blend_41, e_X11_blend_42, e_X11_blend_46, e_X11_blend_47, e_X11_blend_50, e_X11_blend_51, e_X11_blend_52, e_X11_blend_55, e_X11_blend_56, e_X11_blend_58, e_X11_blend_59, e_X11_blend_62, e_X11_blend_63, e_X11_blend_65, e_X11_blend_66, e_X11_blend_69, e_X11_blend_70, e_X11_blend_71, e_X11_blend_72, e_X11_blend_75, e_X11_blend_77, e_X11_blend_79, e_X11_blend_80, e_X11_blend_83, e_X11_blend_85, e_X11_blend_87, e_X11_blend_88, e_X11_blend_90, e_X11_blend_91, e_X11_blend_94, e_X11_blend_95, e_X11_blend_96, e_X11_blend_97, e_X11_blend_99, e_X11_blend_102, e_X11_blend_103, e_X11_blend_106, e_X11_blend_109, e_X11_blend_112, e_X11_blend_115, e_X11_blend_116, e_X11_blend_119, e_X11_blend_120, e_X11_blend_123, e_X11_blend_126, e_X11_blend_129, e_X11_blend_130, vi, vl, vr, oc_X11_boatIs, T_X11_boatIs, oc_X11_finding, T_X11_finding, oc_X11_within, T_X11_within, ix_push, ix_iload, ix_lload, ix_aload, ix_istore, ix_astore, ix_iinc, ix_bin, ix_div, ix_un, ix_i2l, ix_l2i, ix_lbin, ix_lsh, ix_lcmp, ix_dup, ix_dup2, ix_pop, ix_if, ix_cmp, ix_goto, ix_switch, ix_sw, ix_iret, ix_zret, ix_vret, ix_aret, ix_geti, ix_getr, ix_puti, ix_putz, ix_puts, ix_gets, ix_iald, ix_iast, ix_alen, ix_aald, ix_gval, ix_gcod, ix_bald, ix_blen, ix_sald, ix_nret, ix_math2, ix_math1, ix_acopy, ml_113, ml_114, ml_115, ml_116, ml_118, ml_119, ml_120, ml_121, ml_122, ml_123, ml_124, ml_125, ml_126, mv_0, mv_1, mv_2, mv_3, mv_4, mv_5, mB_or, Nat.add_assoc, Int32.reduceLT, Int32.reduceLE, Int32.reduceToNatClampNeg, Int32.reduceSub, Int32.reduceAdd, Nat.reduceAdd, Nat.reduceLeDiff, true_or, or_true, or_false, false_or, not_false_eq_true, not_true_eq_false, false_implies, true_implies, implies_true, and_self, mB_0, mB_01, Classical.not_not, Nat.zero_le, List.getElem?_cons_zero, List.getElem?_cons_succ, List.set_cons_zero, List.set_cons_succ, ix_nl, ix_cs, true_and, and_true, Option.toList_some, Option.toList_none, List.cons_append, List.nil_append, hb, c1, ve_2]
    exact ⟨hQ.2, hQ.1⟩
  | succ k ih =>
    intro i s x5 x6 hi hQ
    have c1 : ¬ nI N ≤ nI i := nI_ge (by omega) (by omega)
    have n1 : nI i + 1 = nI (i + 1) := nI_1 i
    rw [e_X11_blend_27]
    simp (decide := true) only [e_X11_blend_0, e_X11_blend_1, e_X11_blend_2, e_X11_blend_5, e_X11_blend_8, e_X11_blend_11, e_X11_blend_12, e_X11_blend_14, e_X11_blend_17, e_X11_blend_18, e_X11_blend_19, e_X11_blend_20, e_X11_blend_23, e_X11_blend_24, e_X11_blend_25, e_X11_blend_29, e_X11_blend_30, e_X11_blend_33, e_X11_blend_34, e_X11_blend_35, e_X11_blend_38, e_X11_blend_40, e_X11_blend_41, e_X11_blend_42, e_X11_blend_46, e_X11_blend_47, e_X11_blend_50, e_X11_blend_51, e_X11_blend_52, e_X11_blend_55, e_X11_blend_56, e_X11_blend_58, e_X11_blend_59, e_X11_blend_62, e_X11_blend_63, e_X11_blend_65, e_X11_blend_66, e_X11_blend_69, e_X11_blend_70, e_X11_blend_71, e_X11_blend_72, e_X11_blend_75, e_X11_blend_77, e_X11_blend_79, e_X11_blend_80, e_X11_blend_83, e_X11_blend_85, e_X11_blend_87, e_X11_blend_88, e_X11_blend_90, e_X11_blend_91, e_X11_blend_94, e_X11_blend_95, e_X11_blend_96, e_X11_blend_97, e_X11_blend_99, e_X11_blend_102, e_X11_blend_103, e_X11_blend_106, e_X11_blend_109, e_X11_blend_112, e_X11_blend_115, e_X11_blend_116, e_X11_blend_119, e_X11_blend_120, e_X11_blend_123, e_X11_blend_126, e_X11_blend_129, e_X11_blend_130, vi, vl, vr, oc_X11_boatIs, T_X11_boatIs, oc_X11_finding, T_X11_finding, oc_X11_within, T_X11_within, ix_push, ix_iload, ix_lload, ix_aload, ix_istore, ix_astore, ix_iinc, ix_bin, ix_div, ix_un, ix_i2l, ix_l2i, ix_lbin, ix_lsh, ix_lcmp, ix_dup, ix_dup2, ix_pop, ix_if, ix_cmp, ix_goto, ix_switch, ix_sw, ix_iret, ix_zret, ix_vret, ix_aret, ix_geti, ix_getr, ix_puti, ix_putz, ix_puts, ix_gets, ix_iald, ix_iast, ix_alen, ix_aald, ix_gval, ix_gcod, ix_bald, ix_blen, ix_sald, ix_nret, ix_math2, ix_math1, ix_acopy, ml_113, ml_114, ml_115, ml_116, ml_118, ml_119, ml_120, ml_121, ml_122, ml_123, ml_124, ml_125, ml_126, mv_0, mv_1, mv_2, mv_3, mv_4, mv_5, mB_or, Nat.add_assoc, Int32.reduceLT, Int32.reduceLE, Int32.reduceToNatClampNeg, Int32.reduceSub, Int32.reduceAdd, Nat.reduceAdd, Nat.reduceLeDiff, true_or, or_true, or_false, false_or, not_false_eq_true, not_true_eq_false, false_implies, true_implies, implies_true, and_self, mB_0, mB_01, Classical.not_not, Nat.zero_le, List.getElem?_cons_zero, List.getElem?_cons_succ, List.set_cons_zero, List.set_cons_succ, ix_nl, ix_cs, true_and, and_true, Option.toList_some, Option.toList_none, List.cons_append, List.nil_append, hb, c1, n1]
    exact l2_X11_blend hf hN hb (by omega) (N - (i + 1)) (i + 1) s x6 (by omega) (fun x6 => ih (i + 1) _ _ x6 (by omega) hQ)
theorem bSt_pos {f : Nat → Nat → Int32} {i j : Nat} (hi : i < 100) (hj : j < 100) {s : Int32 × Int32} (h : 0 ≤ s.1) : 0 ≤ (bSt f i j s).1 := by
  unfold bSt
  split
  · show 0 ≤ 10 * nI i + nI j
    rw [show (10 : Int32) * nI i = nI (10 * i) from (Int32.ofNat_mul 10 i).symm, nI_add]
    exact nI_pos' (by omega)
  · exact h
theorem biN_pos {f : Nat → Nat → Int32} {i : Nat} (hi : i < 100) : ∀ (k j : Nat) (s : Int32 × Int32), j + k < 100 → 0 ≤ s.1 → 0 ≤ (biN f i k j s).1
  | 0, _, _, _, h => h
  | k + 1, j, s, hj, h => biN_pos hi k (j + 1) _ (by omega) (bSt_pos hi (by omega) h)
theorem boN_pos {f : Nat → Nat → Int32} {N : Nat} (hN : N ≤ 8) : ∀ (k i : Nat) (s : Int32 × Int32), i + k < 100 → 0 ≤ s.1 → 0 ≤ (boN f N k i s).1
  | 0, _, _, _, h => h
  | k + 1, i, s, hi, h => boN_pos hN k (i + 1) _ (by omega) (biN_pos (by omega) _ _ _ (by omega) h)
theorem apt_in {V x y : Nat} (hV : V ≤ 198) (hx : x ≤ 99) (hy : y ≤ 99) : apt (nI V) (nI x) (nI y) < 199 ∧ apt (nI V) (nI x) (nI y) < 792 := by
  have e : (nI x + nI y - nI V).toInt = (x : Int) + y - V := by
    rw [nI_add, fb_subI] <;> rw [nI_toInt (by omega), nI_toInt (by omega)] <;> omega
  have e1 : (199 : Int32).toInt = 199 := rfl
  have e2 : (792 : Int32).toInt = 792 := rfl
  have e0 : (0 : Int32).toInt = 0 := rfl
  unfold apt
  by_cases c : 0 ≤ nI x + nI y - nI V
  · rw [if_pos c, fa_lt, fa_lt, e, e1, e2]
    omega
  · have c' := c
    rw [fa_le, e, e0] at c'
    have e3 : (0 - (nI x + nI y - nI V)).toInt = 0 - ((x : Int) + y - V) := by rw [fb_subI] <;> rw [e0, e] <;> omega
    rw [if_neg c, fa_lt, fa_lt, e3, e1, e2]
    omega
theorem pr_blend (v : Int32) (μ : ix_M) (I : Inv μ) (Q : ix_R → Prop) (hQ : ∀ vv μ', ix_Ev o_X11_blend (Pst vv) (0, [some (vr 10 112), some (vi v), none, none, none, none, none], [], μ') → Q (some (vi vv), μ')) : ix_Ev o_X10_blend Q (0, [some (vr 9 0), some (vi v), none, none, none, none, none, none], [], μ) := by
  rcases inR v 198 (by decide) with ⟨V, hV, rfl⟩ | ⟨hx1, hx2⟩
  · obtain ⟨V1, V2, V3, V4⟩ : ¬ nI V < 0 ∧ ¬ (198 : Int32) < nI V ∧ 0 ≤ nI V ∧ nI V ≤ (198 : Int32) := rgN hV (by decide)
    have Vc : (nI V).toNatClampNeg = V := nI_clamp (by omega)
    obtain ⟨N, hN, n1, n2⟩ := I.n
    obtain ⟨M, hM, hR, -⟩ := I.mi
    have hfm : ∀ μq : ix_M, μq 113 = μ 113 → (fun i j => apt (nI V) (μ 113 (53 + 4 * i)) (μ 113 (53 + 4 * j))) = fun i j => apt (nI V) (μq 113 (53 + 4 * i)) (μq 113 (53 + 4 * j)) := fun μq e => by rw [e]
    by_cases c : N < 2
    · have c1 : ¬ 2 ≤ nI N := nI_ge (a := N) (b := 2) c (by decide)
      simp (decide := true) only [e_X10_blend_0, e_X10_blend_1, e_X10_blend_4, e_X10_blend_7, e_X10_blend_10, e_X10_blend_11, e_X10_blend_12, e_X10_blend_15, e_X10_blend_16, e_X10_blend_17, e_X10_blend_20, e_X10_blend_23, e_X10_blend_24, e_X10_blend_25, e_X10_blend_28, e_X10_blend_29, e_X10_blend_32, e_X10_blend_33, e_X10_blend_34, e_X10_blend_37, e_X10_blend_38, e_X10_blend_39, e_X10_blend_40, e_X10_blend_43, e_X10_blend_45, e_X10_blend_46, e_X10_blend_50, e_X10_blend_51, e_X10_blend_54, e_X10_blend_57, e_X10_blend_59, e_X10_blend_60, e_X10_blend_61, e_X10_blend_65, e_X10_blend_66, e_X10_blend_69, e_X10_blend_72, e_X10_blend_73, e_X10_blend_76, e_X10_blend_78, e_X10_blend_79, e_X10_blend_80, e_X10_blend_83, e_X10_blend_85, e_X10_blend_86, e_X10_blend_87, e_X10_blend_88, e_X10_blend_89, e_X10_blend_92, e_X10_blend_94, e_X10_blend_96, e_X10_blend_98, e_X10_blend_101, e_X10_blend_103, e_X10_blend_105, e_X10_blend_107, e_X10_blend_109, e_X10_blend_110, e_X10_blend_112, e_X10_blend_113, e_X10_blend_114, e_X10_blend_117, e_X10_blend_120, e_X10_blend_123, e_X10_blend_126, e_X10_blend_127, vi, vl, vr, oc_X10_error, T_X10_error, oc_X10_outside, T_X10_outside, ix_push, ix_iload, ix_lload, ix_aload, ix_istore, ix_astore, ix_iinc, ix_bin, ix_div, ix_un, ix_i2l, ix_l2i, ix_lbin, ix_lsh, ix_lcmp, ix_dup, ix_dup2, ix_pop, ix_if, ix_cmp, ix_goto, ix_switch, ix_sw, ix_iret, ix_zret, ix_vret, ix_aret, ix_geti, ix_getr, ix_puti, ix_putz, ix_puts, ix_gets, ix_iald, ix_iast, ix_alen, ix_aald, ix_gval, ix_gcod, ix_bald, ix_blen, ix_sald, ix_nret, ix_math2, ix_math1, ix_acopy, Nat.add_assoc, Int32.reduceLT, Int32.reduceLE, Int32.reduceToNatClampNeg, Int32.reduceSub, Int32.reduceAdd, Nat.reduceAdd, Nat.reduceLeDiff, true_or, or_true, or_false, false_or, not_false_eq_true, not_true_eq_false, false_implies, true_implies, implies_true, and_self, mB_0, mB_01, Classical.not_not, Nat.zero_le, List.getElem?_cons_zero, List.getElem?_cons_succ, List.set_cons_zero, List.set_cons_succ, ix_nl, ix_cs, true_and, and_true, Option.toList_some, Option.toList_none, List.cons_append, List.nil_append, V1, V2, V3, V4, Vc, n1, c1, ix_up_ne, ix_up_k, ve_1, ve_2, ve_3, ve_4, ve_5]
      refine hQ _ _ ?_
      simp (decide := true) only [e_X11_blend_0, e_X11_blend_1, e_X11_blend_2, e_X11_blend_5, e_X11_blend_8, e_X11_blend_11, e_X11_blend_12, e_X11_blend_14, e_X11_blend_17, e_X11_blend_18, e_X11_blend_19, e_X11_blend_20, e_X11_blend_23, e_X11_blend_24, e_X11_blend_25, e_X11_blend_29, e_X11_blend_30, e_X11_blend_33, e_X11_blend_34, e_X11_blend_35, e_X11_blend_38, e_X11_blend_40, e_X11_blend_41, e_X11_blend_42, e_X11_blend_46, e_X11_blend_47, e_X11_blend_50, e_X11_blend_51, e_X11_blend_52, e_X11_blend_55, e_X11_blend_56, e_X11_blend_58, e_X11_blend_59, e_X11_blend_62, e_X11_blend_63, e_X11_blend_65, e_X11_blend_66, e_X11_blend_69, e_X11_blend_70, e_X11_blend_71, e_X11_blend_72, e_X11_blend_75, e_X11_blend_77, e_X11_blend_79, e_X11_blend_80, e_X11_blend_83, e_X11_blend_85, e_X11_blend_87, e_X11_blend_88, e_X11_blend_90, e_X11_blend_91, e_X11_blend_94, e_X11_blend_95, e_X11_blend_96, e_X11_blend_97, e_X11_blend_99, e_X11_blend_102, e_X11_blend_103, e_X11_blend_106, e_X11_blend_109, e_X11_blend_112, e_X11_blend_115, e_X11_blend_116, e_X11_blend_119, e_X11_blend_120, e_X11_blend_123, e_X11_blend_126, e_X11_blend_129, e_X11_blend_130, vi, vl, vr, oc_X11_boatIs, T_X11_boatIs, oc_X11_finding, T_X11_finding, oc_X11_within, T_X11_within, ix_push, ix_iload, ix_lload, ix_aload, ix_istore, ix_astore, ix_iinc, ix_bin, ix_div, ix_un, ix_i2l, ix_l2i, ix_lbin, ix_lsh, ix_lcmp, ix_dup, ix_dup2, ix_pop, ix_if, ix_cmp, ix_goto, ix_switch, ix_sw, ix_iret, ix_zret, ix_vret, ix_aret, ix_geti, ix_getr, ix_puti, ix_putz, ix_puts, ix_gets, ix_iald, ix_iast, ix_alen, ix_aald, ix_gval, ix_gcod, ix_bald, ix_blen, ix_sald, ix_nret, ix_math2, ix_math1, ix_acopy, ml_113, ml_114, ml_115, ml_116, ml_118, ml_119, ml_120, ml_121, ml_122, ml_123, ml_124, ml_125, ml_126, mv_0, mv_1, mv_2, mv_3, mv_4, mv_5, mB_or, Nat.add_assoc, Int32.reduceLT, Int32.reduceLE, Int32.reduceToNatClampNeg, Int32.reduceSub, Int32.reduceAdd, Nat.reduceAdd, Nat.reduceLeDiff, true_or, or_true, or_false, false_or, not_false_eq_true, not_true_eq_false, false_implies, true_implies, implies_true, and_self, mB_0, mB_01, Classical.not_not, Nat.zero_le, List.getElem?_cons_zero, List.getElem?_cons_succ, List.set_cons_zero, List.set_cons_succ, ix_nl, ix_cs, true_and, and_true, Option.toList_some, Option.toList_none, List.cons_append, List.nil_append, V1, V2, V3, V4, Vc, n2, ix_up_ne, ix_up_k, ve_1, ve_2, ve_3, ve_4, ve_5]
      refine l_X11_blend (N := N) rfl hN (by rw [ix_up_ne (by decide)]; exact n2) N 0 (-1, 792) _ _ (by omega) ?_
      have hb : ∀ f, boN f N N 0 (-1, 792) = (-1, 792) := fun f => by
        obtain rfl | rfl : N = 0 ∨ N = 1 := by omega
        · rfl
        · rfl
      rw [hb]
      exact ⟨fun _ => by rw [ix_up_ne (by decide)]; exact I.er 2 (by decide), fun z => absurd z (by decide)⟩
    · have c1 : 2 ≤ nI N := nI_le (a := 2) (b := N) (by omega) (by omega)
      have br : ∀ b, b < 8 → ∃ x : Nat, x ≤ 99 ∧ μ 113 (53 + 4 * b) = nI x := fun b hb => by
        obtain ⟨x, hx, ex⟩ := hR.2.2.2.2 b hb
        rw [nv_7 (μ 113) hb] at ex
        exact ⟨x, hx, ex⟩
      generalize hf : (fun i j => apt (nI V) (μ 113 (53 + 4 * i)) (μ 113 (53 + 4 * j))) = f
      have f01 : f 0 1 < 199 ∧ f 0 1 < 792 := by
        obtain ⟨x, hx, ex⟩ := br 0 (by decide)
        obtain ⟨y, hy, ey⟩ := br 1 (by decide)
        rw [← hf]
        show apt (nI V) (μ 113 (53 + 4 * 0)) (μ 113 (53 + 4 * 1)) < 199 ∧ apt (nI V) (μ 113 (53 + 4 * 0)) (μ 113 (53 + 4 * 1)) < 792
        rw [ex, ey]
        exact apt_in hV hx hy
      obtain ⟨n, rfl⟩ : ∃ n, N = n + 2 := ⟨N - 2, by omega⟩
      have hb : ∀ s : Int32 × Int32, f 0 1 < s.2 → boN f (n + 2) (n + 2) 0 s = boN f (n + 2) (n + 1) 1 (biN f 0 n 2 (10 * nI 0 + nI 1, f 0 1)) := fun s hs => by
        show boN f (n + 2) (n + 1) 1 (biN f 0 n 2 (bSt f 0 1 s)) = _
        rw [bSt, if_pos hs]
      have hp : 0 ≤ (boN f (n + 2) (n + 1) 1 (biN f 0 n 2 (10 * nI 0 + nI 1, f 0 1))).1 := boN_pos hN _ _ _ (by omega) (biN_pos (by decide) _ _ _ (by omega) (by show (0 : Int32) ≤ 10 * nI 0 + nI 1; decide))
      simp (decide := true) only [e_X10_blend_0, e_X10_blend_1, e_X10_blend_4, e_X10_blend_7, e_X10_blend_10, e_X10_blend_11, e_X10_blend_12, e_X10_blend_15, e_X10_blend_16, e_X10_blend_17, e_X10_blend_20, e_X10_blend_23, e_X10_blend_24, e_X10_blend_25, e_X10_blend_28, e_X10_blend_29, e_X10_blend_32, e_X10_blend_33, e_X10_blend_34, e_X10_blend_37, e_X10_blend_38, e_X10_blend_39, e_X10_blend_40, e_X10_blend_43, e_X10_blend_45, e_X10_blend_46, e_X10_blend_50, e_X10_blend_51, e_X10_blend_54, e_X10_blend_57, e_X10_blend_59, e_X10_blend_60, e_X10_blend_61, e_X10_blend_65, e_X10_blend_66, e_X10_blend_69, e_X10_blend_72, e_X10_blend_73, e_X10_blend_76, e_X10_blend_78, e_X10_blend_79, e_X10_blend_80, e_X10_blend_83, e_X10_blend_85, e_X10_blend_86, e_X10_blend_87, e_X10_blend_88, e_X10_blend_89, e_X10_blend_92, e_X10_blend_94, e_X10_blend_96, e_X10_blend_98, e_X10_blend_101, e_X10_blend_103, e_X10_blend_105, e_X10_blend_107, e_X10_blend_109, e_X10_blend_110, e_X10_blend_112, e_X10_blend_113, e_X10_blend_114, e_X10_blend_117, e_X10_blend_120, e_X10_blend_123, e_X10_blend_126, e_X10_blend_127, vi, vl, vr, oc_X10_error, T_X10_error, oc_X10_outside, T_X10_outside, ix_push, ix_iload, ix_lload, ix_aload, ix_istore, ix_astore, ix_iinc, ix_bin, ix_div, ix_un, ix_i2l, ix_l2i, ix_lbin, ix_lsh, ix_lcmp, ix_dup, ix_dup2, ix_pop, ix_if, ix_cmp, ix_goto, ix_switch, ix_sw, ix_iret, ix_zret, ix_vret, ix_aret, ix_geti, ix_getr, ix_puti, ix_putz, ix_puts, ix_gets, ix_iald, ix_iast, ix_alen, ix_aald, ix_gval, ix_gcod, ix_bald, ix_blen, ix_sald, ix_nret, ix_math2, ix_math1, ix_acopy, Nat.add_assoc, Int32.reduceLT, Int32.reduceLE, Int32.reduceToNatClampNeg, Int32.reduceSub, Int32.reduceAdd, Nat.reduceAdd, Nat.reduceLeDiff, true_or, or_true, or_false, false_or, not_false_eq_true, not_true_eq_false, false_implies, true_implies, implies_true, and_self, mB_0, mB_01, Classical.not_not, Nat.zero_le, List.getElem?_cons_zero, List.getElem?_cons_succ, List.set_cons_zero, List.set_cons_succ, ix_nl, ix_cs, true_and, and_true, Option.toList_some, Option.toList_none, List.cons_append, List.nil_append, V1, V2, V3, V4, Vc, n1, c1, ix_up_ne, ix_up_k, ve_1, ve_2, ve_3, ve_4, ve_5]
      refine l_X10_blend (N := n + 2) (f := f) ?_ hN n1 (n + 2) 0 (0, 199) none none (by omega) (hQ _ _ ?_)
      · intro i j hi hj
        rw [← hf, I.w7 hi, I.w7 hj]
      · rw [hb _ f01.1]
        simp (decide := true) only [e_X11_blend_0, e_X11_blend_1, e_X11_blend_2, e_X11_blend_5, e_X11_blend_8, e_X11_blend_11, e_X11_blend_12, e_X11_blend_14, e_X11_blend_17, e_X11_blend_18, e_X11_blend_19, e_X11_blend_20, e_X11_blend_23, e_X11_blend_24, e_X11_blend_25, e_X11_blend_29, e_X11_blend_30, e_X11_blend_33, e_X11_blend_34, e_X11_blend_35, e_X11_blend_38, e_X11_blend_40, e_X11_blend_41, e_X11_blend_42, e_X11_blend_46, e_X11_blend_47, e_X11_blend_50, e_X11_blend_51, e_X11_blend_52, e_X11_blend_55, e_X11_blend_56, e_X11_blend_58, e_X11_blend_59, e_X11_blend_62, e_X11_blend_63, e_X11_blend_65, e_X11_blend_66, e_X11_blend_69, e_X11_blend_70, e_X11_blend_71, e_X11_blend_72, e_X11_blend_75, e_X11_blend_77, e_X11_blend_79, e_X11_blend_80, e_X11_blend_83, e_X11_blend_85, e_X11_blend_87, e_X11_blend_88, e_X11_blend_90, e_X11_blend_91, e_X11_blend_94, e_X11_blend_95, e_X11_blend_96, e_X11_blend_97, e_X11_blend_99, e_X11_blend_102, e_X11_blend_103, e_X11_blend_106, e_X11_blend_109, e_X11_blend_112, e_X11_blend_115, e_X11_blend_116, e_X11_blend_119, e_X11_blend_120, e_X11_blend_123, e_X11_blend_126, e_X11_blend_129, e_X11_blend_130, vi, vl, vr, oc_X11_boatIs, T_X11_boatIs, oc_X11_finding, T_X11_finding, oc_X11_within, T_X11_within, ix_push, ix_iload, ix_lload, ix_aload, ix_istore, ix_astore, ix_iinc, ix_bin, ix_div, ix_un, ix_i2l, ix_l2i, ix_lbin, ix_lsh, ix_lcmp, ix_dup, ix_dup2, ix_pop, ix_if, ix_cmp, ix_goto, ix_switch, ix_sw, ix_iret, ix_zret, ix_vret, ix_aret, ix_geti, ix_getr, ix_puti, ix_putz, ix_puts, ix_gets, ix_iald, ix_iast, ix_alen, ix_aald, ix_gval, ix_gcod, ix_bald, ix_blen, ix_sald, ix_nret, ix_math2, ix_math1, ix_acopy, ml_113, ml_114, ml_115, ml_116, ml_118, ml_119, ml_120, ml_121, ml_122, ml_123, ml_124, ml_125, ml_126, mv_0, mv_1, mv_2, mv_3, mv_4, mv_5, mB_or, Nat.add_assoc, Int32.reduceLT, Int32.reduceLE, Int32.reduceToNatClampNeg, Int32.reduceSub, Int32.reduceAdd, Nat.reduceAdd, Nat.reduceLeDiff, true_or, or_true, or_false, false_or, not_false_eq_true, not_true_eq_false, false_implies, true_implies, implies_true, and_self, mB_0, mB_01, Classical.not_not, Nat.zero_le, List.getElem?_cons_zero, List.getElem?_cons_succ, List.set_cons_zero, List.set_cons_succ, ix_nl, ix_cs, true_and, and_true, Option.toList_some, Option.toList_none, List.cons_append, List.nil_append, V1, V2, V3, V4, Vc, n2, ix_up_ne, ix_up_k, ve_1, ve_2, ve_3, ve_4, ve_5]
        refine l_X11_blend (N := n + 2) (f := f) hf.symm hN n2 (n + 2) 0 (-1, 792) none none (by omega) ?_
        rw [hb _ f01.2]
        exact ⟨fun z => absurd hp z, fun _ => pst rfl I⟩
  · have hx1 : v < 0 ∨ (198 : Int32) < v := hx1
    have hx2 : ¬ (0 ≤ v ∧ v ≤ (198 : Int32)) := hx2
    simp (decide := true) only [e_X10_blend_0, e_X10_blend_1, e_X10_blend_4, e_X10_blend_7, e_X10_blend_10, e_X10_blend_11, e_X10_blend_12, e_X10_blend_15, e_X10_blend_16, e_X10_blend_17, e_X10_blend_20, e_X10_blend_23, e_X10_blend_24, e_X10_blend_25, e_X10_blend_28, e_X10_blend_29, e_X10_blend_32, e_X10_blend_33, e_X10_blend_34, e_X10_blend_37, e_X10_blend_38, e_X10_blend_39, e_X10_blend_40, e_X10_blend_43, e_X10_blend_45, e_X10_blend_46, e_X10_blend_50, e_X10_blend_51, e_X10_blend_54, e_X10_blend_57, e_X10_blend_59, e_X10_blend_60, e_X10_blend_61, e_X10_blend_65, e_X10_blend_66, e_X10_blend_69, e_X10_blend_72, e_X10_blend_73, e_X10_blend_76, e_X10_blend_78, e_X10_blend_79, e_X10_blend_80, e_X10_blend_83, e_X10_blend_85, e_X10_blend_86, e_X10_blend_87, e_X10_blend_88, e_X10_blend_89, e_X10_blend_92, e_X10_blend_94, e_X10_blend_96, e_X10_blend_98, e_X10_blend_101, e_X10_blend_103, e_X10_blend_105, e_X10_blend_107, e_X10_blend_109, e_X10_blend_110, e_X10_blend_112, e_X10_blend_113, e_X10_blend_114, e_X10_blend_117, e_X10_blend_120, e_X10_blend_123, e_X10_blend_126, e_X10_blend_127, vi, vl, vr, oc_X10_error, T_X10_error, oc_X10_outside, T_X10_outside, ix_push, ix_iload, ix_lload, ix_aload, ix_istore, ix_astore, ix_iinc, ix_bin, ix_div, ix_un, ix_i2l, ix_l2i, ix_lbin, ix_lsh, ix_lcmp, ix_dup, ix_dup2, ix_pop, ix_if, ix_cmp, ix_goto, ix_switch, ix_sw, ix_iret, ix_zret, ix_vret, ix_aret, ix_geti, ix_getr, ix_puti, ix_putz, ix_puts, ix_gets, ix_iald, ix_iast, ix_alen, ix_aald, ix_gval, ix_gcod, ix_bald, ix_blen, ix_sald, ix_nret, ix_math2, ix_math1, ix_acopy, Nat.add_assoc, Int32.reduceLT, Int32.reduceLE, Int32.reduceToNatClampNeg, Int32.reduceSub, Int32.reduceAdd, Nat.reduceAdd, Nat.reduceLeDiff, true_or, or_true, or_false, false_or, not_false_eq_true, not_true_eq_false, false_implies, true_implies, implies_true, and_self, mB_0, mB_01, Classical.not_not, Nat.zero_le, List.getElem?_cons_zero, List.getElem?_cons_succ, List.set_cons_zero, List.set_cons_succ, ix_nl, ix_cs, true_and, and_true, Option.toList_some, Option.toList_none, List.cons_append, List.nil_append, hx1, hx2, ix_up_ne, ix_up_k, ve_1, ve_2, ve_3, ve_4, ve_5]
    refine hQ _ _ ?_
    simp (decide := true) only [e_X11_blend_0, e_X11_blend_1, e_X11_blend_2, e_X11_blend_5, e_X11_blend_8, e_X11_blend_11, e_X11_blend_12, e_X11_blend_14, e_X11_blend_17, e_X11_blend_18, e_X11_blend_19, e_X11_blend_20, e_X11_blend_23, e_X11_blend_24, e_X11_blend_25, e_X11_blend_29, e_X11_blend_30, e_X11_blend_33, e_X11_blend_34, e_X11_blend_35, e_X11_blend_38, e_X11_blend_40, e_X11_blend_41, e_X11_blend_42, e_X11_blend_46, e_X11_blend_47, e_X11_blend_50, e_X11_blend_51, e_X11_blend_52, e_X11_blend_55, e_X11_blend_56, e_X11_blend_58, e_X11_blend_59, e_X11_blend_62, e_X11_blend_63, e_X11_blend_65, e_X11_blend_66, e_X11_blend_69, e_X11_blend_70, e_X11_blend_71, e_X11_blend_72, e_X11_blend_75, e_X11_blend_77, e_X11_blend_79, e_X11_blend_80, e_X11_blend_83, e_X11_blend_85, e_X11_blend_87, e_X11_blend_88, e_X11_blend_90, e_X11_blend_91, e_X11_blend_94, e_X11_blend_95, e_X11_blend_96, e_X11_blend_97, e_X11_blend_99, e_X11_blend_102, e_X11_blend_103, e_X11_blend_106, e_X11_blend_109, e_X11_blend_112, e_X11_blend_115, e_X11_blend_116, e_X11_blend_119, e_X11_blend_120, e_X11_blend_123, e_X11_blend_126, e_X11_blend_129, e_X11_blend_130, vi, vl, vr, oc_X11_boatIs, T_X11_boatIs, oc_X11_finding, T_X11_finding, oc_X11_within, T_X11_within, ix_push, ix_iload, ix_lload, ix_aload, ix_istore, ix_astore, ix_iinc, ix_bin, ix_div, ix_un, ix_i2l, ix_l2i, ix_lbin, ix_lsh, ix_lcmp, ix_dup, ix_dup2, ix_pop, ix_if, ix_cmp, ix_goto, ix_switch, ix_sw, ix_iret, ix_zret, ix_vret, ix_aret, ix_geti, ix_getr, ix_puti, ix_putz, ix_puts, ix_gets, ix_iald, ix_iast, ix_alen, ix_aald, ix_gval, ix_gcod, ix_bald, ix_blen, ix_sald, ix_nret, ix_math2, ix_math1, ix_acopy, ml_113, ml_114, ml_115, ml_116, ml_118, ml_119, ml_120, ml_121, ml_122, ml_123, ml_124, ml_125, ml_126, mv_0, mv_1, mv_2, mv_3, mv_4, mv_5, mB_or, Nat.add_assoc, Int32.reduceLT, Int32.reduceLE, Int32.reduceToNatClampNeg, Int32.reduceSub, Int32.reduceAdd, Nat.reduceAdd, Nat.reduceLeDiff, true_or, or_true, or_false, false_or, not_false_eq_true, not_true_eq_false, false_implies, true_implies, implies_true, and_self, mB_0, mB_01, Classical.not_not, Nat.zero_le, List.getElem?_cons_zero, List.getElem?_cons_succ, List.set_cons_zero, List.set_cons_succ, ix_nl, ix_cs, true_and, and_true, Option.toList_some, Option.toList_none, List.cons_append, List.nil_append, hx1, hx2, ix_up_ne, ix_up_k, ve_1, ve_2, ve_3, ve_4, ve_5]
    repeat' (first | exact I.er 1 (by decide) | refine ⟨fun _ => ?_, fun _ => ?_⟩)
