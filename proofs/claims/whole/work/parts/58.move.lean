/-! ===== calls, class against model: move ===== -/
def o_X10_move : List (Nat × ix_Op) := [
  (0, ix_iload 1 1),
  (1, ix_push (vi 3) 2),
  (2, oc_X10_outside 5),
  (5, ix_if (fun x => x = 0) 8 16),
  (8, ix_iload 3 9),
  (9, ix_push (vi 3) 10),
  (10, oc_X10_outside 13),
  (13, ix_if (fun x => x = 0) 22 16),
  (16, ix_aload 0 17),
  (17, ix_push (vi 1) 18),
  (18, oc_X10_error 21),
  (21, ix_iret),
  (22, ix_aload 0 23),
  (23, ix_getr 9 22 (fun _ => 98) 26),
  (26, ix_iload 1 27),
  (27, ix_aald 22 98 4 4 (fun i => 99 + 3 * i) 28),
  (28, ix_astore 6 30),
  (30, ix_aload 0 31),
  (31, ix_getr 9 22 (fun _ => 98) 34),
  (34, ix_iload 3 35),
  (35, ix_aald 22 98 4 4 (fun i => 99 + 3 * i) 36),
  (36, ix_astore 7 38),
  (38, ix_aload 6 40),
  (40, oc_X5_isMissing 43),
  (43, ix_if (fun x => x = 0) 46 54),
  (46, ix_aload 7 48),
  (48, oc_X5_isMissing 51),
  (51, ix_if (fun x => x = 0) 60 54),
  (54, ix_aload 0 55),
  (55, ix_push (vi 2) 56),
  (56, oc_X10_error 59),
  (59, ix_iret),
  (60, ix_aload 6 62),
  (62, ix_geti 4 1 65),
  (65, ix_aload 7 67),
  (67, ix_geti 4 1 70),
  (70, ix_cmp (fun x y => x = y) 79 73),
  (73, ix_aload 0 74),
  (74, ix_push (vi 5) 75),
  (75, oc_X10_error 78),
  (78, ix_iret),
  (79, ix_aload 6 81),
  (81, ix_getr 4 3 (fun k => k + 1) 84),
  (84, ix_iload 2 85),
  (85, ix_iload 5 87),
  (87, oc_X4_holds 90),
  (90, ix_if (fun x => x = 0) 108 93),
  (93, ix_aload 7 95),
  (95, ix_getr 4 3 (fun k => k + 1) 98),
  (98, ix_iload 4 100),
  (100, ix_iload 5 102),
  (102, oc_X4_holds 105),
  (105, ix_if (fun x => x = 0) 108 114),
  (108, ix_aload 0 109),
  (109, ix_push (vi 1) 110),
  (110, oc_X10_error 113),
  (113, ix_iret),
  (114, ix_aload 6 116),
  (116, ix_getr 4 3 (fun k => k + 1) 119),
  (119, ix_getr 3 20 (fun k => k + 1) 122),
  (122, ix_iload 2 123),
  (123, ix_aload 7 125),
  (125, ix_getr 4 3 (fun k => k + 1) 128),
  (128, ix_getr 3 20 (fun k => k + 1) 131),
  (131, ix_iload 4 133),
  (133, ix_iload 5 135),
  (135, ix_acopy 138),
  (138, ix_iload 5 140),
  (140, ix_iret)]
set_option maxRecDepth 20000 in
theorem a_X10_move (l : Launch) : ix_AllS l cX10_move 8 RX10 60 (some .int) o_X10_move :=
  .cons (ix_s_iload_n dX10_move_0 rfl) <|
  .cons (ix_s_iconst dX10_move_1 (by decide +kernel)) <|
  .cons (oc_X10_outside_s (ix_s_calls (k_X10_outside l) (by decide) (by decide) tw_291 tw_1 tw_289 tw_290 ⟨by decide, by decide, by decide +kernel⟩ (fun _ => rfl) dX10_move_2)) <|
  .cons (ix_s_if_ne dX10_move_5 (by decide)) <|
  .cons (ix_s_iload_n dX10_move_8 rfl) <|
  .cons (ix_s_iconst dX10_move_9 (by decide +kernel)) <|
  .cons (oc_X10_outside_s (ix_s_calls (k_X10_outside l) (by decide) (by decide) tw_291 tw_1 tw_289 tw_290 ⟨by decide, by decide, by decide +kernel⟩ (fun _ => rfl) dX10_move_10)) <|
  .cons (ix_s_if_eq dX10_move_13 (by decide)) <|
  .cons (ix_s_aload_n dX10_move_16 rfl) <|
  .cons (ix_s_iconst dX10_move_17 (by decide +kernel)) <|
  .cons (oc_X10_error_s (ix_s_callv (t := 9) (k_X10_error l) (by decide) (by decide) tw_295 tw_1 tw_292 tw_294 tp_0 ⟨by decide, by decide, by decide +kernel⟩ (by decide) rfl rfl (fun _ => ⟨_, _, rfl, rfl⟩) dX10_move_18)) <|
  .cons (ix_s_iret dX10_move_21 rfl) <|
  .cons (ix_s_aload_n dX10_move_22 rfl) <|
  .cons (ix_s_getr (j := 7) tu_X10 rfl (by decide) (by decide) tw_258 rfl ts_9_7_r dX10_move_23) <|
  .cons (ix_s_iload_n dX10_move_26 rfl) <|
  .cons (ix_s_aald (E0 := ix_tys) (by decide) (by decide +kernel) (fun _ => rfl) (by decide +kernel) dX10_move_27) <|
  .cons (ix_s_astore dX10_move_28 (by decide)) <|
  .cons (ix_s_aload_n dX10_move_30 rfl) <|
  .cons (ix_s_getr (j := 7) tu_X10 rfl (by decide) (by decide) tw_258 rfl ts_9_7_r dX10_move_31) <|
  .cons (ix_s_iload_n dX10_move_34 rfl) <|
  .cons (ix_s_aald (E0 := ix_tys) (by decide) (by decide +kernel) (fun _ => rfl) (by decide +kernel) dX10_move_35) <|
  .cons (ix_s_astore dX10_move_36 (by decide)) <|
  .cons (ix_s_aload dX10_move_38) <|
  .cons (oc_X5_isMissing_s (ix_s_callv (t := 4) (k_X5_isMissing l) (by decide) (by decide) tw_739 tw_11 tw_736 tw_737 tw_738 ⟨by decide, by decide, by decide +kernel⟩ (by decide) rfl rfl (fun _ => ⟨_, _, rfl, rfl⟩) dX10_move_40)) <|
  .cons (ix_s_if_ne dX10_move_43 (by decide)) <|
  .cons (ix_s_aload dX10_move_46) <|
  .cons (oc_X5_isMissing_s (ix_s_callv (t := 4) (k_X5_isMissing l) (by decide) (by decide) tw_739 tw_11 tw_736 tw_737 tw_738 ⟨by decide, by decide, by decide +kernel⟩ (by decide) rfl rfl (fun _ => ⟨_, _, rfl, rfl⟩) dX10_move_48)) <|
  .cons (ix_s_if_eq dX10_move_51 (by decide)) <|
  .cons (ix_s_aload_n dX10_move_54 rfl) <|
  .cons (ix_s_iconst dX10_move_55 (by decide +kernel)) <|
  .cons (oc_X10_error_s (ix_s_callv (t := 9) (k_X10_error l) (by decide) (by decide) tw_295 tw_1 tw_292 tw_294 tp_0 ⟨by decide, by decide, by decide +kernel⟩ (by decide) rfl rfl (fun _ => ⟨_, _, rfl, rfl⟩) dX10_move_56)) <|
  .cons (ix_s_iret dX10_move_59 rfl) <|
  .cons (ix_s_aload dX10_move_60) <|
  .cons (ix_s_geti (j := 1) tu_X5 rfl (by decide) (by decide) tw_245 rfl ts_4_1_i dX10_move_62) <|
  .cons (ix_s_aload dX10_move_65) <|
  .cons (ix_s_geti (j := 1) tu_X5 rfl (by decide) (by decide) tw_245 rfl ts_4_1_i dX10_move_67) <|
  .cons (ix_s_cmp_eq dX10_move_70 (by decide)) <|
  .cons (ix_s_aload_n dX10_move_73 rfl) <|
  .cons (ix_s_iconst dX10_move_74 (by decide +kernel)) <|
  .cons (oc_X10_error_s (ix_s_callv (t := 9) (k_X10_error l) (by decide) (by decide) tw_295 tw_1 tw_292 tw_294 tp_0 ⟨by decide, by decide, by decide +kernel⟩ (by decide) rfl rfl (fun _ => ⟨_, _, rfl, rfl⟩) dX10_move_75)) <|
  .cons (ix_s_iret dX10_move_78 rfl) <|
  .cons (ix_s_aload dX10_move_79) <|
  .cons (ix_s_getr (j := 0) tu_X5 rfl (by decide) (by decide) tw_243 rfl ts_4_0_r dX10_move_81) <|
  .cons (ix_s_iload_n dX10_move_84 rfl) <|
  .cons (ix_s_iload dX10_move_85) <|
  .cons (oc_X4_holds_s (ix_s_callv (t := 3) (k_X4_holds l) (by decide) (by decide) tw_817 tw_6 tw_814 tw_815 tw_816 ⟨by decide, by decide, by decide +kernel⟩ (by decide) rfl rfl (fun _ => ⟨_, _, rfl, rfl⟩) dX10_move_87)) <|
  .cons (ix_s_if_eq dX10_move_90 (by decide)) <|
  .cons (ix_s_aload dX10_move_93) <|
  .cons (ix_s_getr (j := 0) tu_X5 rfl (by decide) (by decide) tw_243 rfl ts_4_0_r dX10_move_95) <|
  .cons (ix_s_iload dX10_move_98) <|
  .cons (ix_s_iload dX10_move_100) <|
  .cons (oc_X4_holds_s (ix_s_callv (t := 3) (k_X4_holds l) (by decide) (by decide) tw_817 tw_6 tw_814 tw_815 tw_816 ⟨by decide, by decide, by decide +kernel⟩ (by decide) rfl rfl (fun _ => ⟨_, _, rfl, rfl⟩) dX10_move_102)) <|
  .cons (ix_s_if_ne dX10_move_105 (by decide)) <|
  .cons (ix_s_aload_n dX10_move_108 rfl) <|
  .cons (ix_s_iconst dX10_move_109 (by decide +kernel)) <|
  .cons (oc_X10_error_s (ix_s_callv (t := 9) (k_X10_error l) (by decide) (by decide) tw_295 tw_1 tw_292 tw_294 tp_0 ⟨by decide, by decide, by decide +kernel⟩ (by decide) rfl rfl (fun _ => ⟨_, _, rfl, rfl⟩) dX10_move_110)) <|
  .cons (ix_s_iret dX10_move_113 rfl) <|
  .cons (ix_s_aload dX10_move_114) <|
  .cons (ix_s_getr (j := 0) tu_X5 rfl (by decide) (by decide) tw_243 rfl ts_4_0_r dX10_move_116) <|
  .cons (ix_s_getr (j := 0) tu_X4 rfl (by decide) (by decide) tw_109 rfl ts_3_0_r dX10_move_119) <|
  .cons (ix_s_iload_n dX10_move_122 rfl) <|
  .cons (ix_s_aload dX10_move_123) <|
  .cons (ix_s_getr (j := 0) tu_X5 rfl (by decide) (by decide) tw_243 rfl ts_4_0_r dX10_move_125) <|
  .cons (ix_s_getr (j := 0) tu_X4 rfl (by decide) (by decide) tw_109 rfl ts_3_0_r dX10_move_128) <|
  .cons (ix_s_iload dX10_move_131) <|
  .cons (ix_s_iload dX10_move_133) <|
  .cons (ix_s_acopy tw_818 tw_452 tw_451 tw_14 (by decide) dX10_move_135) <|
  .cons (ix_s_iload dX10_move_138) <|
  .cons (ix_s_iret dX10_move_140 rfl) <| .nil
theorem e_X10_move_0 (Q : ix_R → Prop) (ls : ix_L) (st : List ix_V) (μ : ix_M) : ix_Ev o_X10_move Q (0, ls, st, μ) = ix_iload 1 1 (ix_Ev o_X10_move Q) Q ls st μ := ix_Ev.eq (a_X10_move launch0) rfl ls st μ
theorem e_X10_move_1 (Q : ix_R → Prop) (ls : ix_L) (st : List ix_V) (μ : ix_M) : ix_Ev o_X10_move Q (1, ls, st, μ) = ix_push (vi 3) 2 (ix_Ev o_X10_move Q) Q ls st μ := ix_Ev.eq (a_X10_move launch0) rfl ls st μ
theorem e_X10_move_2 (Q : ix_R → Prop) (ls : ix_L) (st : List ix_V) (μ : ix_M) : ix_Ev o_X10_move Q (2, ls, st, μ) = oc_X10_outside 5 (ix_Ev o_X10_move Q) Q ls st μ := ix_Ev.eq (a_X10_move launch0) rfl ls st μ
theorem e_X10_move_5 (Q : ix_R → Prop) (ls : ix_L) (st : List ix_V) (μ : ix_M) : ix_Ev o_X10_move Q (5, ls, st, μ) = ix_if (fun x => x = 0) 8 16 (ix_Ev o_X10_move Q) Q ls st μ := ix_Ev.eq (a_X10_move launch0) rfl ls st μ
theorem e_X10_move_8 (Q : ix_R → Prop) (ls : ix_L) (st : List ix_V) (μ : ix_M) : ix_Ev o_X10_move Q (8, ls, st, μ) = ix_iload 3 9 (ix_Ev o_X10_move Q) Q ls st μ := ix_Ev.eq (a_X10_move launch0) rfl ls st μ
theorem e_X10_move_9 (Q : ix_R → Prop) (ls : ix_L) (st : List ix_V) (μ : ix_M) : ix_Ev o_X10_move Q (9, ls, st, μ) = ix_push (vi 3) 10 (ix_Ev o_X10_move Q) Q ls st μ := ix_Ev.eq (a_X10_move launch0) rfl ls st μ
theorem e_X10_move_10 (Q : ix_R → Prop) (ls : ix_L) (st : List ix_V) (μ : ix_M) : ix_Ev o_X10_move Q (10, ls, st, μ) = oc_X10_outside 13 (ix_Ev o_X10_move Q) Q ls st μ := ix_Ev.eq (a_X10_move launch0) rfl ls st μ
theorem e_X10_move_13 (Q : ix_R → Prop) (ls : ix_L) (st : List ix_V) (μ : ix_M) : ix_Ev o_X10_move Q (13, ls, st, μ) = ix_if (fun x => x = 0) 22 16 (ix_Ev o_X10_move Q) Q ls st μ := ix_Ev.eq (a_X10_move launch0) rfl ls st μ
theorem e_X10_move_16 (Q : ix_R → Prop) (ls : ix_L) (st : List ix_V) (μ : ix_M) : ix_Ev o_X10_move Q (16, ls, st, μ) = ix_aload 0 17 (ix_Ev o_X10_move Q) Q ls st μ := ix_Ev.eq (a_X10_move launch0) rfl ls st μ
theorem e_X10_move_17 (Q : ix_R → Prop) (ls : ix_L) (st : List ix_V) (μ : ix_M) : ix_Ev o_X10_move Q (17, ls, st, μ) = ix_push (vi 1) 18 (ix_Ev o_X10_move Q) Q ls st μ := ix_Ev.eq (a_X10_move launch0) rfl ls st μ
theorem e_X10_move_18 (Q : ix_R → Prop) (ls : ix_L) (st : List ix_V) (μ : ix_M) : ix_Ev o_X10_move Q (18, ls, st, μ) = oc_X10_error 21 (ix_Ev o_X10_move Q) Q ls st μ := ix_Ev.eq (a_X10_move launch0) rfl ls st μ
theorem e_X10_move_21 (Q : ix_R → Prop) (ls : ix_L) (st : List ix_V) (μ : ix_M) : ix_Ev o_X10_move Q (21, ls, st, μ) = ix_iret (ix_Ev o_X10_move Q) Q ls st μ := ix_Ev.eq (a_X10_move launch0) rfl ls st μ
theorem e_X10_move_22 (Q : ix_R → Prop) (ls : ix_L) (st : List ix_V) (μ : ix_M) : ix_Ev o_X10_move Q (22, ls, st, μ) = ix_aload 0 23 (ix_Ev o_X10_move Q) Q ls st μ := ix_Ev.eq (a_X10_move launch0) rfl ls st μ
theorem e_X10_move_23 (Q : ix_R → Prop) (ls : ix_L) (st : List ix_V) (μ : ix_M) : ix_Ev o_X10_move Q (23, ls, st, μ) = ix_getr 9 22 (fun _ => 98) 26 (ix_Ev o_X10_move Q) Q ls st μ := ix_Ev.eq (a_X10_move launch0) rfl ls st μ
theorem e_X10_move_26 (Q : ix_R → Prop) (ls : ix_L) (st : List ix_V) (μ : ix_M) : ix_Ev o_X10_move Q (26, ls, st, μ) = ix_iload 1 27 (ix_Ev o_X10_move Q) Q ls st μ := ix_Ev.eq (a_X10_move launch0) rfl ls st μ
theorem e_X10_move_27 (Q : ix_R → Prop) (ls : ix_L) (st : List ix_V) (μ : ix_M) : ix_Ev o_X10_move Q (27, ls, st, μ) = ix_aald 22 98 4 4 (fun i => 99 + 3 * i) 28 (ix_Ev o_X10_move Q) Q ls st μ := ix_Ev.eq (a_X10_move launch0) rfl ls st μ
theorem e_X10_move_28 (Q : ix_R → Prop) (ls : ix_L) (st : List ix_V) (μ : ix_M) : ix_Ev o_X10_move Q (28, ls, st, μ) = ix_astore 6 30 (ix_Ev o_X10_move Q) Q ls st μ := ix_Ev.eq (a_X10_move launch0) rfl ls st μ
theorem e_X10_move_30 (Q : ix_R → Prop) (ls : ix_L) (st : List ix_V) (μ : ix_M) : ix_Ev o_X10_move Q (30, ls, st, μ) = ix_aload 0 31 (ix_Ev o_X10_move Q) Q ls st μ := ix_Ev.eq (a_X10_move launch0) rfl ls st μ
theorem e_X10_move_31 (Q : ix_R → Prop) (ls : ix_L) (st : List ix_V) (μ : ix_M) : ix_Ev o_X10_move Q (31, ls, st, μ) = ix_getr 9 22 (fun _ => 98) 34 (ix_Ev o_X10_move Q) Q ls st μ := ix_Ev.eq (a_X10_move launch0) rfl ls st μ
theorem e_X10_move_34 (Q : ix_R → Prop) (ls : ix_L) (st : List ix_V) (μ : ix_M) : ix_Ev o_X10_move Q (34, ls, st, μ) = ix_iload 3 35 (ix_Ev o_X10_move Q) Q ls st μ := ix_Ev.eq (a_X10_move launch0) rfl ls st μ
theorem e_X10_move_35 (Q : ix_R → Prop) (ls : ix_L) (st : List ix_V) (μ : ix_M) : ix_Ev o_X10_move Q (35, ls, st, μ) = ix_aald 22 98 4 4 (fun i => 99 + 3 * i) 36 (ix_Ev o_X10_move Q) Q ls st μ := ix_Ev.eq (a_X10_move launch0) rfl ls st μ
theorem e_X10_move_36 (Q : ix_R → Prop) (ls : ix_L) (st : List ix_V) (μ : ix_M) : ix_Ev o_X10_move Q (36, ls, st, μ) = ix_astore 7 38 (ix_Ev o_X10_move Q) Q ls st μ := ix_Ev.eq (a_X10_move launch0) rfl ls st μ
theorem e_X10_move_38 (Q : ix_R → Prop) (ls : ix_L) (st : List ix_V) (μ : ix_M) : ix_Ev o_X10_move Q (38, ls, st, μ) = ix_aload 6 40 (ix_Ev o_X10_move Q) Q ls st μ := ix_Ev.eq (a_X10_move launch0) rfl ls st μ
theorem e_X10_move_40 (Q : ix_R → Prop) (ls : ix_L) (st : List ix_V) (μ : ix_M) : ix_Ev o_X10_move Q (40, ls, st, μ) = oc_X5_isMissing 43 (ix_Ev o_X10_move Q) Q ls st μ := ix_Ev.eq (a_X10_move launch0) rfl ls st μ
theorem e_X10_move_43 (Q : ix_R → Prop) (ls : ix_L) (st : List ix_V) (μ : ix_M) : ix_Ev o_X10_move Q (43, ls, st, μ) = ix_if (fun x => x = 0) 46 54 (ix_Ev o_X10_move Q) Q ls st μ := ix_Ev.eq (a_X10_move launch0) rfl ls st μ
theorem e_X10_move_46 (Q : ix_R → Prop) (ls : ix_L) (st : List ix_V) (μ : ix_M) : ix_Ev o_X10_move Q (46, ls, st, μ) = ix_aload 7 48 (ix_Ev o_X10_move Q) Q ls st μ := ix_Ev.eq (a_X10_move launch0) rfl ls st μ
theorem e_X10_move_48 (Q : ix_R → Prop) (ls : ix_L) (st : List ix_V) (μ : ix_M) : ix_Ev o_X10_move Q (48, ls, st, μ) = oc_X5_isMissing 51 (ix_Ev o_X10_move Q) Q ls st μ := ix_Ev.eq (a_X10_move launch0) rfl ls st μ
theorem e_X10_move_51 (Q : ix_R → Prop) (ls : ix_L) (st : List ix_V) (μ : ix_M) : ix_Ev o_X10_move Q (51, ls, st, μ) = ix_if (fun x => x = 0) 60 54 (ix_Ev o_X10_move Q) Q ls st μ := ix_Ev.eq (a_X10_move launch0) rfl ls st μ
theorem e_X10_move_54 (Q : ix_R → Prop) (ls : ix_L) (st : List ix_V) (μ : ix_M) : ix_Ev o_X10_move Q (54, ls, st, μ) = ix_aload 0 55 (ix_Ev o_X10_move Q) Q ls st μ := ix_Ev.eq (a_X10_move launch0) rfl ls st μ
theorem e_X10_move_55 (Q : ix_R → Prop) (ls : ix_L) (st : List ix_V) (μ : ix_M) : ix_Ev o_X10_move Q (55, ls, st, μ) = ix_push (vi 2) 56 (ix_Ev o_X10_move Q) Q ls st μ := ix_Ev.eq (a_X10_move launch0) rfl ls st μ
theorem e_X10_move_56 (Q : ix_R → Prop) (ls : ix_L) (st : List ix_V) (μ : ix_M) : ix_Ev o_X10_move Q (56, ls, st, μ) = oc_X10_error 59 (ix_Ev o_X10_move Q) Q ls st μ := ix_Ev.eq (a_X10_move launch0) rfl ls st μ
theorem e_X10_move_59 (Q : ix_R → Prop) (ls : ix_L) (st : List ix_V) (μ : ix_M) : ix_Ev o_X10_move Q (59, ls, st, μ) = ix_iret (ix_Ev o_X10_move Q) Q ls st μ := ix_Ev.eq (a_X10_move launch0) rfl ls st μ
theorem e_X10_move_60 (Q : ix_R → Prop) (ls : ix_L) (st : List ix_V) (μ : ix_M) : ix_Ev o_X10_move Q (60, ls, st, μ) = ix_aload 6 62 (ix_Ev o_X10_move Q) Q ls st μ := ix_Ev.eq (a_X10_move launch0) rfl ls st μ
theorem e_X10_move_62 (Q : ix_R → Prop) (ls : ix_L) (st : List ix_V) (μ : ix_M) : ix_Ev o_X10_move Q (62, ls, st, μ) = ix_geti 4 1 65 (ix_Ev o_X10_move Q) Q ls st μ := ix_Ev.eq (a_X10_move launch0) rfl ls st μ
theorem e_X10_move_65 (Q : ix_R → Prop) (ls : ix_L) (st : List ix_V) (μ : ix_M) : ix_Ev o_X10_move Q (65, ls, st, μ) = ix_aload 7 67 (ix_Ev o_X10_move Q) Q ls st μ := ix_Ev.eq (a_X10_move launch0) rfl ls st μ
theorem e_X10_move_67 (Q : ix_R → Prop) (ls : ix_L) (st : List ix_V) (μ : ix_M) : ix_Ev o_X10_move Q (67, ls, st, μ) = ix_geti 4 1 70 (ix_Ev o_X10_move Q) Q ls st μ := ix_Ev.eq (a_X10_move launch0) rfl ls st μ
theorem e_X10_move_70 (Q : ix_R → Prop) (ls : ix_L) (st : List ix_V) (μ : ix_M) : ix_Ev o_X10_move Q (70, ls, st, μ) = ix_cmp (fun x y => x = y) 79 73 (ix_Ev o_X10_move Q) Q ls st μ := ix_Ev.eq (a_X10_move launch0) rfl ls st μ
theorem e_X10_move_73 (Q : ix_R → Prop) (ls : ix_L) (st : List ix_V) (μ : ix_M) : ix_Ev o_X10_move Q (73, ls, st, μ) = ix_aload 0 74 (ix_Ev o_X10_move Q) Q ls st μ := ix_Ev.eq (a_X10_move launch0) rfl ls st μ
theorem e_X10_move_74 (Q : ix_R → Prop) (ls : ix_L) (st : List ix_V) (μ : ix_M) : ix_Ev o_X10_move Q (74, ls, st, μ) = ix_push (vi 5) 75 (ix_Ev o_X10_move Q) Q ls st μ := ix_Ev.eq (a_X10_move launch0) rfl ls st μ
theorem e_X10_move_75 (Q : ix_R → Prop) (ls : ix_L) (st : List ix_V) (μ : ix_M) : ix_Ev o_X10_move Q (75, ls, st, μ) = oc_X10_error 78 (ix_Ev o_X10_move Q) Q ls st μ := ix_Ev.eq (a_X10_move launch0) rfl ls st μ
theorem e_X10_move_78 (Q : ix_R → Prop) (ls : ix_L) (st : List ix_V) (μ : ix_M) : ix_Ev o_X10_move Q (78, ls, st, μ) = ix_iret (ix_Ev o_X10_move Q) Q ls st μ := ix_Ev.eq (a_X10_move launch0) rfl ls st μ
theorem e_X10_move_79 (Q : ix_R → Prop) (ls : ix_L) (st : List ix_V) (μ : ix_M) : ix_Ev o_X10_move Q (79, ls, st, μ) = ix_aload 6 81 (ix_Ev o_X10_move Q) Q ls st μ := ix_Ev.eq (a_X10_move launch0) rfl ls st μ
theorem e_X10_move_81 (Q : ix_R → Prop) (ls : ix_L) (st : List ix_V) (μ : ix_M) : ix_Ev o_X10_move Q (81, ls, st, μ) = ix_getr 4 3 (fun k => k + 1) 84 (ix_Ev o_X10_move Q) Q ls st μ := ix_Ev.eq (a_X10_move launch0) rfl ls st μ
theorem e_X10_move_84 (Q : ix_R → Prop) (ls : ix_L) (st : List ix_V) (μ : ix_M) : ix_Ev o_X10_move Q (84, ls, st, μ) = ix_iload 2 85 (ix_Ev o_X10_move Q) Q ls st μ := ix_Ev.eq (a_X10_move launch0) rfl ls st μ
theorem e_X10_move_85 (Q : ix_R → Prop) (ls : ix_L) (st : List ix_V) (μ : ix_M) : ix_Ev o_X10_move Q (85, ls, st, μ) = ix_iload 5 87 (ix_Ev o_X10_move Q) Q ls st μ := ix_Ev.eq (a_X10_move launch0) rfl ls st μ
theorem e_X10_move_87 (Q : ix_R → Prop) (ls : ix_L) (st : List ix_V) (μ : ix_M) : ix_Ev o_X10_move Q (87, ls, st, μ) = oc_X4_holds 90 (ix_Ev o_X10_move Q) Q ls st μ := ix_Ev.eq (a_X10_move launch0) rfl ls st μ
theorem e_X10_move_90 (Q : ix_R → Prop) (ls : ix_L) (st : List ix_V) (μ : ix_M) : ix_Ev o_X10_move Q (90, ls, st, μ) = ix_if (fun x => x = 0) 108 93 (ix_Ev o_X10_move Q) Q ls st μ := ix_Ev.eq (a_X10_move launch0) rfl ls st μ
theorem e_X10_move_93 (Q : ix_R → Prop) (ls : ix_L) (st : List ix_V) (μ : ix_M) : ix_Ev o_X10_move Q (93, ls, st, μ) = ix_aload 7 95 (ix_Ev o_X10_move Q) Q ls st μ := ix_Ev.eq (a_X10_move launch0) rfl ls st μ
theorem e_X10_move_95 (Q : ix_R → Prop) (ls : ix_L) (st : List ix_V) (μ : ix_M) : ix_Ev o_X10_move Q (95, ls, st, μ) = ix_getr 4 3 (fun k => k + 1) 98 (ix_Ev o_X10_move Q) Q ls st μ := ix_Ev.eq (a_X10_move launch0) rfl ls st μ
theorem e_X10_move_98 (Q : ix_R → Prop) (ls : ix_L) (st : List ix_V) (μ : ix_M) : ix_Ev o_X10_move Q (98, ls, st, μ) = ix_iload 4 100 (ix_Ev o_X10_move Q) Q ls st μ := ix_Ev.eq (a_X10_move launch0) rfl ls st μ
theorem e_X10_move_100 (Q : ix_R → Prop) (ls : ix_L) (st : List ix_V) (μ : ix_M) : ix_Ev o_X10_move Q (100, ls, st, μ) = ix_iload 5 102 (ix_Ev o_X10_move Q) Q ls st μ := ix_Ev.eq (a_X10_move launch0) rfl ls st μ
theorem e_X10_move_102 (Q : ix_R → Prop) (ls : ix_L) (st : List ix_V) (μ : ix_M) : ix_Ev o_X10_move Q (102, ls, st, μ) = oc_X4_holds 105 (ix_Ev o_X10_move Q) Q ls st μ := ix_Ev.eq (a_X10_move launch0) rfl ls st μ
theorem e_X10_move_105 (Q : ix_R → Prop) (ls : ix_L) (st : List ix_V) (μ : ix_M) : ix_Ev o_X10_move Q (105, ls, st, μ) = ix_if (fun x => x = 0) 108 114 (ix_Ev o_X10_move Q) Q ls st μ := ix_Ev.eq (a_X10_move launch0) rfl ls st μ
theorem e_X10_move_108 (Q : ix_R → Prop) (ls : ix_L) (st : List ix_V) (μ : ix_M) : ix_Ev o_X10_move Q (108, ls, st, μ) = ix_aload 0 109 (ix_Ev o_X10_move Q) Q ls st μ := ix_Ev.eq (a_X10_move launch0) rfl ls st μ
theorem e_X10_move_109 (Q : ix_R → Prop) (ls : ix_L) (st : List ix_V) (μ : ix_M) : ix_Ev o_X10_move Q (109, ls, st, μ) = ix_push (vi 1) 110 (ix_Ev o_X10_move Q) Q ls st μ := ix_Ev.eq (a_X10_move launch0) rfl ls st μ
theorem e_X10_move_110 (Q : ix_R → Prop) (ls : ix_L) (st : List ix_V) (μ : ix_M) : ix_Ev o_X10_move Q (110, ls, st, μ) = oc_X10_error 113 (ix_Ev o_X10_move Q) Q ls st μ := ix_Ev.eq (a_X10_move launch0) rfl ls st μ
theorem e_X10_move_113 (Q : ix_R → Prop) (ls : ix_L) (st : List ix_V) (μ : ix_M) : ix_Ev o_X10_move Q (113, ls, st, μ) = ix_iret (ix_Ev o_X10_move Q) Q ls st μ := ix_Ev.eq (a_X10_move launch0) rfl ls st μ
theorem e_X10_move_114 (Q : ix_R → Prop) (ls : ix_L) (st : List ix_V) (μ : ix_M) : ix_Ev o_X10_move Q (114, ls, st, μ) = ix_aload 6 116 (ix_Ev o_X10_move Q) Q ls st μ := ix_Ev.eq (a_X10_move launch0) rfl ls st μ
theorem e_X10_move_116 (Q : ix_R → Prop) (ls : ix_L) (st : List ix_V) (μ : ix_M) : ix_Ev o_X10_move Q (116, ls, st, μ) = ix_getr 4 3 (fun k => k + 1) 119 (ix_Ev o_X10_move Q) Q ls st μ := ix_Ev.eq (a_X10_move launch0) rfl ls st μ
theorem e_X10_move_119 (Q : ix_R → Prop) (ls : ix_L) (st : List ix_V) (μ : ix_M) : ix_Ev o_X10_move Q (119, ls, st, μ) = ix_getr 3 20 (fun k => k + 1) 122 (ix_Ev o_X10_move Q) Q ls st μ := ix_Ev.eq (a_X10_move launch0) rfl ls st μ
theorem e_X10_move_122 (Q : ix_R → Prop) (ls : ix_L) (st : List ix_V) (μ : ix_M) : ix_Ev o_X10_move Q (122, ls, st, μ) = ix_iload 2 123 (ix_Ev o_X10_move Q) Q ls st μ := ix_Ev.eq (a_X10_move launch0) rfl ls st μ
theorem e_X10_move_123 (Q : ix_R → Prop) (ls : ix_L) (st : List ix_V) (μ : ix_M) : ix_Ev o_X10_move Q (123, ls, st, μ) = ix_aload 7 125 (ix_Ev o_X10_move Q) Q ls st μ := ix_Ev.eq (a_X10_move launch0) rfl ls st μ
theorem e_X10_move_125 (Q : ix_R → Prop) (ls : ix_L) (st : List ix_V) (μ : ix_M) : ix_Ev o_X10_move Q (125, ls, st, μ) = ix_getr 4 3 (fun k => k + 1) 128 (ix_Ev o_X10_move Q) Q ls st μ := ix_Ev.eq (a_X10_move launch0) rfl ls st μ
theorem e_X10_move_128 (Q : ix_R → Prop) (ls : ix_L) (st : List ix_V) (μ : ix_M) : ix_Ev o_X10_move Q (128, ls, st, μ) = ix_getr 3 20 (fun k => k + 1) 131 (ix_Ev o_X10_move Q) Q ls st μ := ix_Ev.eq (a_X10_move launch0) rfl ls st μ
theorem e_X10_move_131 (Q : ix_R → Prop) (ls : ix_L) (st : List ix_V) (μ : ix_M) : ix_Ev o_X10_move Q (131, ls, st, μ) = ix_iload 4 133 (ix_Ev o_X10_move Q) Q ls st μ := ix_Ev.eq (a_X10_move launch0) rfl ls st μ
theorem e_X10_move_133 (Q : ix_R → Prop) (ls : ix_L) (st : List ix_V) (μ : ix_M) : ix_Ev o_X10_move Q (133, ls, st, μ) = ix_iload 5 135 (ix_Ev o_X10_move Q) Q ls st μ := ix_Ev.eq (a_X10_move launch0) rfl ls st μ
theorem e_X10_move_135 (Q : ix_R → Prop) (ls : ix_L) (st : List ix_V) (μ : ix_M) : ix_Ev o_X10_move Q (135, ls, st, μ) = ix_acopy 138 (ix_Ev o_X10_move Q) Q ls st μ := ix_Ev.eq (a_X10_move launch0) rfl ls st μ
theorem e_X10_move_138 (Q : ix_R → Prop) (ls : ix_L) (st : List ix_V) (μ : ix_M) : ix_Ev o_X10_move Q (138, ls, st, μ) = ix_iload 5 140 (ix_Ev o_X10_move Q) Q ls st μ := ix_Ev.eq (a_X10_move launch0) rfl ls st μ
theorem e_X10_move_140 (Q : ix_R → Prop) (ls : ix_L) (st : List ix_V) (μ : ix_M) : ix_Ev o_X10_move Q (140, ls, st, μ) = ix_iret (ix_Ev o_X10_move Q) Q ls st μ := ix_Ev.eq (a_X10_move launch0) rfl ls st μ
def o_X11_move : List (Nat × ix_Op) := [
  (0, ix_iload 1 1),
  (1, oc_X11_isSheet 4),
  (4, ix_if (fun x => x = 0) 14 7),
  (7, ix_iload 3 8),
  (8, oc_X11_isSheet 11),
  (11, ix_if (fun x => x = 0) 14 21),
  (14, ix_aload 0 15),
  (15, ix_push (vi (-1000000001)) 17),
  (17, oc_X11_finding 20),
  (20, ix_iret),
  (21, ix_aload 0 22),
  (22, ix_getr 10 20 (fun _ => 123) 25),
  (25, ix_iload 1 26),
  (26, ix_iald 27),
  (27, ix_if (fun x => x = 0) 39 30),
  (30, ix_aload 0 31),
  (31, ix_getr 10 20 (fun _ => 123) 34),
  (34, ix_iload 3 35),
  (35, ix_iald 36),
  (36, ix_if (fun x => x = 0) 39 47),
  (39, ix_aload 0 40),
  (40, ix_push (vi (-1000000002)) 43),
  (43, oc_X11_finding 46),
  (46, ix_iret),
  (47, ix_aload 0 48),
  (48, ix_getr 10 20 (fun _ => 123) 51),
  (51, ix_iload 1 52),
  (52, ix_iald 53),
  (53, ix_aload 0 54),
  (54, ix_getr 10 20 (fun _ => 123) 57),
  (57, ix_iload 3 58),
  (58, ix_iald 59),
  (59, ix_cmp (fun x y => x = y) 69 62),
  (62, ix_aload 0 63),
  (63, ix_push (vi (-1000000005)) 65),
  (65, oc_X11_finding 68),
  (68, ix_iret),
  (69, ix_iload 5 71),
  (71, ix_if (fun x => x < 0) 118 74),
  (74, ix_iload 2 75),
  (75, ix_if (fun x => x < 0) 118 78),
  (78, ix_iload 4 80),
  (80, ix_if (fun x => x < 0) 118 83),
  (83, ix_iload 2 84),
  (84, ix_i2l 85),
  (85, ix_iload 5 87),
  (87, ix_i2l 88),
  (88, ix_lbin (fun x y => x + y) 89),
  (89, ix_aload 0 90),
  (90, ix_getr 10 20 (fun _ => 124) 93),
  (93, ix_iload 1 94),
  (94, ix_iald 95),
  (95, ix_i2l 96),
  (96, ix_lcmp 97),
  (97, ix_if (fun x => 0 < x) 118 100),
  (100, ix_iload 4 102),
  (102, ix_i2l 103),
  (103, ix_iload 5 105),
  (105, ix_i2l 106),
  (106, ix_lbin (fun x y => x + y) 107),
  (107, ix_aload 0 108),
  (108, ix_getr 10 20 (fun _ => 124) 111),
  (111, ix_iload 3 112),
  (112, ix_iald 113),
  (113, ix_i2l 114),
  (114, ix_lcmp 115),
  (115, ix_if (fun x => x ≤ 0) 125 118),
  (118, ix_aload 0 119),
  (119, ix_push (vi (-1000000001)) 121),
  (121, oc_X11_finding 124),
  (124, ix_iret),
  (125, ix_push (vi 0) 126),
  (126, ix_istore 6 128),
  (128, ix_iload 6 130),
  (130, ix_iload 5 132),
  (132, ix_cmp (fun x y => y ≤ x) 162 135),
  (135, ix_aload 0 136),
  (136, ix_getr 10 20 (fun _ => 126) 139),
  (139, ix_iload 6 141),
  (141, ix_aload 0 142),
  (142, ix_getr 10 20 (fun _ => 125) 145),
  (145, ix_push (vi 40) 147),
  (147, ix_iload 1 148),
  (148, ix_bin (fun x y => x * y) 149),
  (149, ix_iload 2 150),
  (150, ix_bin (fun x y => x + y) 151),
  (151, ix_iload 6 153),
  (153, ix_bin (fun x y => x + y) 154),
  (154, ix_iald 155),
  (155, ix_iast 156),
  (156, ix_iinc 6 1 159),
  (159, ix_goto 128),
  (162, ix_push (vi 0) 163),
  (163, ix_istore 6 165),
  (165, ix_iload 6 167),
  (167, ix_iload 5 169),
  (169, ix_cmp (fun x y => y ≤ x) 200 172),
  (172, ix_aload 0 173),
  (173, ix_getr 10 20 (fun _ => 125) 176),
  (176, ix_push (vi 40) 178),
  (178, ix_iload 3 179),
  (179, ix_bin (fun x y => x * y) 180),
  (180, ix_iload 4 182),
  (182, ix_bin (fun x y => x + y) 183),
  (183, ix_iload 6 185),
  (185, ix_bin (fun x y => x + y) 186),
  (186, ix_aload 0 187),
  (187, ix_getr 10 20 (fun _ => 126) 190),
  (190, ix_iload 6 192),
  (192, ix_iald 193),
  (193, ix_iast 194),
  (194, ix_iinc 6 1 197),
  (197, ix_goto 165),
  (200, ix_iload 5 202),
  (202, ix_iret)]
set_option maxRecDepth 20000 in
theorem a_X11_move (l : Launch) : ix_AllS l cX11_move 7 RX11 60 (some .int) o_X11_move :=
  .cons (ix_s_iload_n dX11_move_0 rfl) <|
  .cons (oc_X11_isSheet_s (ix_s_calls (k_X11_isSheet l) (by decide) (by decide) tw_1305 tw_12 tw_1303 tw_1304 ⟨by decide, by decide, by decide +kernel⟩ (fun _ => rfl) dX11_move_1)) <|
  .cons (ix_s_if_eq dX11_move_4 (by decide)) <|
  .cons (ix_s_iload_n dX11_move_7 rfl) <|
  .cons (oc_X11_isSheet_s (ix_s_calls (k_X11_isSheet l) (by decide) (by decide) tw_1305 tw_12 tw_1303 tw_1304 ⟨by decide, by decide, by decide +kernel⟩ (fun _ => rfl) dX11_move_8)) <|
  .cons (ix_s_if_ne dX11_move_11 (by decide)) <|
  .cons (ix_s_aload_n dX11_move_14 rfl) <|
  .cons (ix_s_ldc tw_961 dX11_move_15) <|
  .cons (oc_X11_finding_s (ix_s_callv (t := 10) (k_X11_finding l) (by decide) (by decide) tw_965 tw_12 tw_962 tw_964 tp_18 ⟨by decide, by decide, by decide +kernel⟩ (by decide) rfl rfl (fun _ => ⟨_, _, rfl, rfl⟩) dX11_move_17)) <|
  .cons (ix_s_iret dX11_move_20 rfl) <|
  .cons (ix_s_aload_n dX11_move_21 rfl) <|
  .cons (ix_s_getr (j := 22) tu_X11 rfl (by decide) (by decide) tw_897 rfl ts_10_22_r dX11_move_22) <|
  .cons (ix_s_iload_n dX11_move_25 rfl) <|
  .cons (ix_s_iald dX11_move_26) <|
  .cons (ix_s_if_eq dX11_move_27 (by decide)) <|
  .cons (ix_s_aload_n dX11_move_30 rfl) <|
  .cons (ix_s_getr (j := 22) tu_X11 rfl (by decide) (by decide) tw_897 rfl ts_10_22_r dX11_move_31) <|
  .cons (ix_s_iload_n dX11_move_34 rfl) <|
  .cons (ix_s_iald dX11_move_35) <|
  .cons (ix_s_if_ne dX11_move_36 (by decide)) <|
  .cons (ix_s_aload_n dX11_move_39 rfl) <|
  .cons (ix_s_ldcw tw_1238 dX11_move_40) <|
  .cons (oc_X11_finding_s (ix_s_callv (t := 10) (k_X11_finding l) (by decide) (by decide) tw_965 tw_12 tw_962 tw_964 tp_18 ⟨by decide, by decide, by decide +kernel⟩ (by decide) rfl rfl (fun _ => ⟨_, _, rfl, rfl⟩) dX11_move_43)) <|
  .cons (ix_s_iret dX11_move_46 rfl) <|
  .cons (ix_s_aload_n dX11_move_47 rfl) <|
  .cons (ix_s_getr (j := 22) tu_X11 rfl (by decide) (by decide) tw_897 rfl ts_10_22_r dX11_move_48) <|
  .cons (ix_s_iload_n dX11_move_51 rfl) <|
  .cons (ix_s_iald dX11_move_52) <|
  .cons (ix_s_aload_n dX11_move_53 rfl) <|
  .cons (ix_s_getr (j := 22) tu_X11 rfl (by decide) (by decide) tw_897 rfl ts_10_22_r dX11_move_54) <|
  .cons (ix_s_iload_n dX11_move_57 rfl) <|
  .cons (ix_s_iald dX11_move_58) <|
  .cons (ix_s_cmp_eq dX11_move_59 (by decide)) <|
  .cons (ix_s_aload_n dX11_move_62 rfl) <|
  .cons (ix_s_ldc tw_1178 dX11_move_63) <|
  .cons (oc_X11_finding_s (ix_s_callv (t := 10) (k_X11_finding l) (by decide) (by decide) tw_965 tw_12 tw_962 tw_964 tp_18 ⟨by decide, by decide, by decide +kernel⟩ (by decide) rfl rfl (fun _ => ⟨_, _, rfl, rfl⟩) dX11_move_65)) <|
  .cons (ix_s_iret dX11_move_68 rfl) <|
  .cons (ix_s_iload dX11_move_69) <|
  .cons (ix_s_if_lt dX11_move_71 (by decide)) <|
  .cons (ix_s_iload_n dX11_move_74 rfl) <|
  .cons (ix_s_if_lt dX11_move_75 (by decide)) <|
  .cons (ix_s_iload dX11_move_78) <|
  .cons (ix_s_if_lt dX11_move_80 (by decide)) <|
  .cons (ix_s_iload_n dX11_move_83 rfl) <|
  .cons (ix_s_i2l dX11_move_84) <|
  .cons (ix_s_iload dX11_move_85) <|
  .cons (ix_s_i2l dX11_move_87) <|
  .cons (ix_s_ladd dX11_move_88) <|
  .cons (ix_s_aload_n dX11_move_89 rfl) <|
  .cons (ix_s_getr (j := 23) tu_X11 rfl (by decide) (by decide) tw_898 rfl ts_10_23_r dX11_move_90) <|
  .cons (ix_s_iload_n dX11_move_93 rfl) <|
  .cons (ix_s_iald dX11_move_94) <|
  .cons (ix_s_i2l dX11_move_95) <|
  .cons (ix_s_lcmp dX11_move_96) <|
  .cons (ix_s_if_gt dX11_move_97 (by decide)) <|
  .cons (ix_s_iload dX11_move_100) <|
  .cons (ix_s_i2l dX11_move_102) <|
  .cons (ix_s_iload dX11_move_103) <|
  .cons (ix_s_i2l dX11_move_105) <|
  .cons (ix_s_ladd dX11_move_106) <|
  .cons (ix_s_aload_n dX11_move_107 rfl) <|
  .cons (ix_s_getr (j := 23) tu_X11 rfl (by decide) (by decide) tw_898 rfl ts_10_23_r dX11_move_108) <|
  .cons (ix_s_iload_n dX11_move_111 rfl) <|
  .cons (ix_s_iald dX11_move_112) <|
  .cons (ix_s_i2l dX11_move_113) <|
  .cons (ix_s_lcmp dX11_move_114) <|
  .cons (ix_s_if_le dX11_move_115 (by decide)) <|
  .cons (ix_s_aload_n dX11_move_118 rfl) <|
  .cons (ix_s_ldc tw_961 dX11_move_119) <|
  .cons (oc_X11_finding_s (ix_s_callv (t := 10) (k_X11_finding l) (by decide) (by decide) tw_965 tw_12 tw_962 tw_964 tp_18 ⟨by decide, by decide, by decide +kernel⟩ (by decide) rfl rfl (fun _ => ⟨_, _, rfl, rfl⟩) dX11_move_121)) <|
  .cons (ix_s_iret dX11_move_124 rfl) <|
  .cons (ix_s_iconst dX11_move_125 (by decide +kernel)) <|
  .cons (ix_s_istore dX11_move_126 (by decide)) <|
  .cons (ix_s_iload dX11_move_128) <|
  .cons (ix_s_iload dX11_move_130) <|
  .cons (ix_s_cmp_ge dX11_move_132 (by decide)) <|
  .cons (ix_s_aload_n dX11_move_135 rfl) <|
  .cons (ix_s_getr (j := 25) tu_X11 rfl (by decide) (by decide) tw_900 rfl ts_10_25_r dX11_move_136) <|
  .cons (ix_s_iload dX11_move_139) <|
  .cons (ix_s_aload_n dX11_move_141 rfl) <|
  .cons (ix_s_getr (j := 24) tu_X11 rfl (by decide) (by decide) tw_899 rfl ts_10_24_r dX11_move_142) <|
  .cons (ix_s_bipush dX11_move_145 (by decide +kernel)) <|
  .cons (ix_s_iload_n dX11_move_147 rfl) <|
  .cons (ix_s_imul dX11_move_148) <|
  .cons (ix_s_iload_n dX11_move_149 rfl) <|
  .cons (ix_s_iadd dX11_move_150) <|
  .cons (ix_s_iload dX11_move_151) <|
  .cons (ix_s_iadd dX11_move_153) <|
  .cons (ix_s_iald dX11_move_154) <|
  .cons (ix_s_iast dX11_move_155) <|
  .cons (ix_s_iinc dX11_move_156 (by decide +kernel) (by decide)) <|
  .cons (ix_s_goto dX11_move_159 (by decide)) <|
  .cons (ix_s_iconst dX11_move_162 (by decide +kernel)) <|
  .cons (ix_s_istore dX11_move_163 (by decide)) <|
  .cons (ix_s_iload dX11_move_165) <|
  .cons (ix_s_iload dX11_move_167) <|
  .cons (ix_s_cmp_ge dX11_move_169 (by decide)) <|
  .cons (ix_s_aload_n dX11_move_172 rfl) <|
  .cons (ix_s_getr (j := 24) tu_X11 rfl (by decide) (by decide) tw_899 rfl ts_10_24_r dX11_move_173) <|
  .cons (ix_s_bipush dX11_move_176 (by decide +kernel)) <|
  .cons (ix_s_iload_n dX11_move_178 rfl) <|
  .cons (ix_s_imul dX11_move_179) <|
  .cons (ix_s_iload dX11_move_180) <|
  .cons (ix_s_iadd dX11_move_182) <|
  .cons (ix_s_iload dX11_move_183) <|
  .cons (ix_s_iadd dX11_move_185) <|
  .cons (ix_s_aload_n dX11_move_186 rfl) <|
  .cons (ix_s_getr (j := 25) tu_X11 rfl (by decide) (by decide) tw_900 rfl ts_10_25_r dX11_move_187) <|
  .cons (ix_s_iload dX11_move_190) <|
  .cons (ix_s_iald dX11_move_192) <|
  .cons (ix_s_iast dX11_move_193) <|
  .cons (ix_s_iinc dX11_move_194 (by decide +kernel) (by decide)) <|
  .cons (ix_s_goto dX11_move_197 (by decide)) <|
  .cons (ix_s_iload dX11_move_200) <|
  .cons (ix_s_iret dX11_move_202 rfl) <| .nil
set_option maxRecDepth 20000 in
theorem e_X11_move_0 (Q : ix_R → Prop) (ls : ix_L) (st : List ix_V) (μ : ix_M) : ix_Ev o_X11_move Q (0, ls, st, μ) = ix_iload 1 1 (ix_Ev o_X11_move Q) Q ls st μ := ix_Ev.eq (a_X11_move launch0) rfl ls st μ
set_option maxRecDepth 20000 in
theorem e_X11_move_1 (Q : ix_R → Prop) (ls : ix_L) (st : List ix_V) (μ : ix_M) : ix_Ev o_X11_move Q (1, ls, st, μ) = oc_X11_isSheet 4 (ix_Ev o_X11_move Q) Q ls st μ := ix_Ev.eq (a_X11_move launch0) rfl ls st μ
set_option maxRecDepth 20000 in
theorem e_X11_move_4 (Q : ix_R → Prop) (ls : ix_L) (st : List ix_V) (μ : ix_M) : ix_Ev o_X11_move Q (4, ls, st, μ) = ix_if (fun x => x = 0) 14 7 (ix_Ev o_X11_move Q) Q ls st μ := ix_Ev.eq (a_X11_move launch0) rfl ls st μ
set_option maxRecDepth 20000 in
theorem e_X11_move_7 (Q : ix_R → Prop) (ls : ix_L) (st : List ix_V) (μ : ix_M) : ix_Ev o_X11_move Q (7, ls, st, μ) = ix_iload 3 8 (ix_Ev o_X11_move Q) Q ls st μ := ix_Ev.eq (a_X11_move launch0) rfl ls st μ
set_option maxRecDepth 20000 in
theorem e_X11_move_8 (Q : ix_R → Prop) (ls : ix_L) (st : List ix_V) (μ : ix_M) : ix_Ev o_X11_move Q (8, ls, st, μ) = oc_X11_isSheet 11 (ix_Ev o_X11_move Q) Q ls st μ := ix_Ev.eq (a_X11_move launch0) rfl ls st μ
set_option maxRecDepth 20000 in
theorem e_X11_move_11 (Q : ix_R → Prop) (ls : ix_L) (st : List ix_V) (μ : ix_M) : ix_Ev o_X11_move Q (11, ls, st, μ) = ix_if (fun x => x = 0) 14 21 (ix_Ev o_X11_move Q) Q ls st μ := ix_Ev.eq (a_X11_move launch0) rfl ls st μ
set_option maxRecDepth 20000 in
theorem e_X11_move_14 (Q : ix_R → Prop) (ls : ix_L) (st : List ix_V) (μ : ix_M) : ix_Ev o_X11_move Q (14, ls, st, μ) = ix_aload 0 15 (ix_Ev o_X11_move Q) Q ls st μ := ix_Ev.eq (a_X11_move launch0) rfl ls st μ
set_option maxRecDepth 20000 in
theorem e_X11_move_15 (Q : ix_R → Prop) (ls : ix_L) (st : List ix_V) (μ : ix_M) : ix_Ev o_X11_move Q (15, ls, st, μ) = ix_push (vi (-1000000001)) 17 (ix_Ev o_X11_move Q) Q ls st μ := ix_Ev.eq (a_X11_move launch0) rfl ls st μ
set_option maxRecDepth 20000 in
theorem e_X11_move_17 (Q : ix_R → Prop) (ls : ix_L) (st : List ix_V) (μ : ix_M) : ix_Ev o_X11_move Q (17, ls, st, μ) = oc_X11_finding 20 (ix_Ev o_X11_move Q) Q ls st μ := ix_Ev.eq (a_X11_move launch0) rfl ls st μ
set_option maxRecDepth 20000 in
theorem e_X11_move_20 (Q : ix_R → Prop) (ls : ix_L) (st : List ix_V) (μ : ix_M) : ix_Ev o_X11_move Q (20, ls, st, μ) = ix_iret (ix_Ev o_X11_move Q) Q ls st μ := ix_Ev.eq (a_X11_move launch0) rfl ls st μ
set_option maxRecDepth 20000 in
theorem e_X11_move_21 (Q : ix_R → Prop) (ls : ix_L) (st : List ix_V) (μ : ix_M) : ix_Ev o_X11_move Q (21, ls, st, μ) = ix_aload 0 22 (ix_Ev o_X11_move Q) Q ls st μ := ix_Ev.eq (a_X11_move launch0) rfl ls st μ
set_option maxRecDepth 20000 in
theorem e_X11_move_22 (Q : ix_R → Prop) (ls : ix_L) (st : List ix_V) (μ : ix_M) : ix_Ev o_X11_move Q (22, ls, st, μ) = ix_getr 10 20 (fun _ => 123) 25 (ix_Ev o_X11_move Q) Q ls st μ := ix_Ev.eq (a_X11_move launch0) rfl ls st μ
set_option maxRecDepth 20000 in
theorem e_X11_move_25 (Q : ix_R → Prop) (ls : ix_L) (st : List ix_V) (μ : ix_M) : ix_Ev o_X11_move Q (25, ls, st, μ) = ix_iload 1 26 (ix_Ev o_X11_move Q) Q ls st μ := ix_Ev.eq (a_X11_move launch0) rfl ls st μ
set_option maxRecDepth 20000 in
theorem e_X11_move_26 (Q : ix_R → Prop) (ls : ix_L) (st : List ix_V) (μ : ix_M) : ix_Ev o_X11_move Q (26, ls, st, μ) = ix_iald 27 (ix_Ev o_X11_move Q) Q ls st μ := ix_Ev.eq (a_X11_move launch0) rfl ls st μ
set_option maxRecDepth 20000 in
theorem e_X11_move_27 (Q : ix_R → Prop) (ls : ix_L) (st : List ix_V) (μ : ix_M) : ix_Ev o_X11_move Q (27, ls, st, μ) = ix_if (fun x => x = 0) 39 30 (ix_Ev o_X11_move Q) Q ls st μ := ix_Ev.eq (a_X11_move launch0) rfl ls st μ
set_option maxRecDepth 20000 in
theorem e_X11_move_30 (Q : ix_R → Prop) (ls : ix_L) (st : List ix_V) (μ : ix_M) : ix_Ev o_X11_move Q (30, ls, st, μ) = ix_aload 0 31 (ix_Ev o_X11_move Q) Q ls st μ := ix_Ev.eq (a_X11_move launch0) rfl ls st μ
set_option maxRecDepth 20000 in
theorem e_X11_move_31 (Q : ix_R → Prop) (ls : ix_L) (st : List ix_V) (μ : ix_M) : ix_Ev o_X11_move Q (31, ls, st, μ) = ix_getr 10 20 (fun _ => 123) 34 (ix_Ev o_X11_move Q) Q ls st μ := ix_Ev.eq (a_X11_move launch0) rfl ls st μ
set_option maxRecDepth 20000 in
theorem e_X11_move_34 (Q : ix_R → Prop) (ls : ix_L) (st : List ix_V) (μ : ix_M) : ix_Ev o_X11_move Q (34, ls, st, μ) = ix_iload 3 35 (ix_Ev o_X11_move Q) Q ls st μ := ix_Ev.eq (a_X11_move launch0) rfl ls st μ
set_option maxRecDepth 20000 in
theorem e_X11_move_35 (Q : ix_R → Prop) (ls : ix_L) (st : List ix_V) (μ : ix_M) : ix_Ev o_X11_move Q (35, ls, st, μ) = ix_iald 36 (ix_Ev o_X11_move Q) Q ls st μ := ix_Ev.eq (a_X11_move launch0) rfl ls st μ
set_option maxRecDepth 20000 in
theorem e_X11_move_36 (Q : ix_R → Prop) (ls : ix_L) (st : List ix_V) (μ : ix_M) : ix_Ev o_X11_move Q (36, ls, st, μ) = ix_if (fun x => x = 0) 39 47 (ix_Ev o_X11_move Q) Q ls st μ := ix_Ev.eq (a_X11_move launch0) rfl ls st μ
set_option maxRecDepth 20000 in
theorem e_X11_move_39 (Q : ix_R → Prop) (ls : ix_L) (st : List ix_V) (μ : ix_M) : ix_Ev o_X11_move Q (39, ls, st, μ) = ix_aload 0 40 (ix_Ev o_X11_move Q) Q ls st μ := ix_Ev.eq (a_X11_move launch0) rfl ls st μ
set_option maxRecDepth 20000 in
theorem e_X11_move_40 (Q : ix_R → Prop) (ls : ix_L) (st : List ix_V) (μ : ix_M) : ix_Ev o_X11_move Q (40, ls, st, μ) = ix_push (vi (-1000000002)) 43 (ix_Ev o_X11_move Q) Q ls st μ := ix_Ev.eq (a_X11_move launch0) rfl ls st μ
set_option maxRecDepth 20000 in
theorem e_X11_move_43 (Q : ix_R → Prop) (ls : ix_L) (st : List ix_V) (μ : ix_M) : ix_Ev o_X11_move Q (43, ls, st, μ) = oc_X11_finding 46 (ix_Ev o_X11_move Q) Q ls st μ := ix_Ev.eq (a_X11_move launch0) rfl ls st μ
set_option maxRecDepth 20000 in
theorem e_X11_move_46 (Q : ix_R → Prop) (ls : ix_L) (st : List ix_V) (μ : ix_M) : ix_Ev o_X11_move Q (46, ls, st, μ) = ix_iret (ix_Ev o_X11_move Q) Q ls st μ := ix_Ev.eq (a_X11_move launch0) rfl ls st μ
set_option maxRecDepth 20000 in
theorem e_X11_move_47 (Q : ix_R → Prop) (ls : ix_L) (st : List ix_V) (μ : ix_M) : ix_Ev o_X11_move Q (47, ls, st, μ) = ix_aload 0 48 (ix_Ev o_X11_move Q) Q ls st μ := ix_Ev.eq (a_X11_move launch0) rfl ls st μ
set_option maxRecDepth 20000 in
theorem e_X11_move_48 (Q : ix_R → Prop) (ls : ix_L) (st : List ix_V) (μ : ix_M) : ix_Ev o_X11_move Q (48, ls, st, μ) = ix_getr 10 20 (fun _ => 123) 51 (ix_Ev o_X11_move Q) Q ls st μ := ix_Ev.eq (a_X11_move launch0) rfl ls st μ
set_option maxRecDepth 20000 in
theorem e_X11_move_51 (Q : ix_R → Prop) (ls : ix_L) (st : List ix_V) (μ : ix_M) : ix_Ev o_X11_move Q (51, ls, st, μ) = ix_iload 1 52 (ix_Ev o_X11_move Q) Q ls st μ := ix_Ev.eq (a_X11_move launch0) rfl ls st μ
set_option maxRecDepth 20000 in
theorem e_X11_move_52 (Q : ix_R → Prop) (ls : ix_L) (st : List ix_V) (μ : ix_M) : ix_Ev o_X11_move Q (52, ls, st, μ) = ix_iald 53 (ix_Ev o_X11_move Q) Q ls st μ := ix_Ev.eq (a_X11_move launch0) rfl ls st μ
set_option maxRecDepth 20000 in
theorem e_X11_move_53 (Q : ix_R → Prop) (ls : ix_L) (st : List ix_V) (μ : ix_M) : ix_Ev o_X11_move Q (53, ls, st, μ) = ix_aload 0 54 (ix_Ev o_X11_move Q) Q ls st μ := ix_Ev.eq (a_X11_move launch0) rfl ls st μ
set_option maxRecDepth 20000 in
theorem e_X11_move_54 (Q : ix_R → Prop) (ls : ix_L) (st : List ix_V) (μ : ix_M) : ix_Ev o_X11_move Q (54, ls, st, μ) = ix_getr 10 20 (fun _ => 123) 57 (ix_Ev o_X11_move Q) Q ls st μ := ix_Ev.eq (a_X11_move launch0) rfl ls st μ
set_option maxRecDepth 20000 in
theorem e_X11_move_57 (Q : ix_R → Prop) (ls : ix_L) (st : List ix_V) (μ : ix_M) : ix_Ev o_X11_move Q (57, ls, st, μ) = ix_iload 3 58 (ix_Ev o_X11_move Q) Q ls st μ := ix_Ev.eq (a_X11_move launch0) rfl ls st μ
set_option maxRecDepth 20000 in
theorem e_X11_move_58 (Q : ix_R → Prop) (ls : ix_L) (st : List ix_V) (μ : ix_M) : ix_Ev o_X11_move Q (58, ls, st, μ) = ix_iald 59 (ix_Ev o_X11_move Q) Q ls st μ := ix_Ev.eq (a_X11_move launch0) rfl ls st μ
set_option maxRecDepth 20000 in
theorem e_X11_move_59 (Q : ix_R → Prop) (ls : ix_L) (st : List ix_V) (μ : ix_M) : ix_Ev o_X11_move Q (59, ls, st, μ) = ix_cmp (fun x y => x = y) 69 62 (ix_Ev o_X11_move Q) Q ls st μ := ix_Ev.eq (a_X11_move launch0) rfl ls st μ
set_option maxRecDepth 20000 in
theorem e_X11_move_62 (Q : ix_R → Prop) (ls : ix_L) (st : List ix_V) (μ : ix_M) : ix_Ev o_X11_move Q (62, ls, st, μ) = ix_aload 0 63 (ix_Ev o_X11_move Q) Q ls st μ := ix_Ev.eq (a_X11_move launch0) rfl ls st μ
set_option maxRecDepth 20000 in
theorem e_X11_move_63 (Q : ix_R → Prop) (ls : ix_L) (st : List ix_V) (μ : ix_M) : ix_Ev o_X11_move Q (63, ls, st, μ) = ix_push (vi (-1000000005)) 65 (ix_Ev o_X11_move Q) Q ls st μ := ix_Ev.eq (a_X11_move launch0) rfl ls st μ
set_option maxRecDepth 20000 in
theorem e_X11_move_65 (Q : ix_R → Prop) (ls : ix_L) (st : List ix_V) (μ : ix_M) : ix_Ev o_X11_move Q (65, ls, st, μ) = oc_X11_finding 68 (ix_Ev o_X11_move Q) Q ls st μ := ix_Ev.eq (a_X11_move launch0) rfl ls st μ
set_option maxRecDepth 20000 in
theorem e_X11_move_68 (Q : ix_R → Prop) (ls : ix_L) (st : List ix_V) (μ : ix_M) : ix_Ev o_X11_move Q (68, ls, st, μ) = ix_iret (ix_Ev o_X11_move Q) Q ls st μ := ix_Ev.eq (a_X11_move launch0) rfl ls st μ
set_option maxRecDepth 20000 in
theorem e_X11_move_69 (Q : ix_R → Prop) (ls : ix_L) (st : List ix_V) (μ : ix_M) : ix_Ev o_X11_move Q (69, ls, st, μ) = ix_iload 5 71 (ix_Ev o_X11_move Q) Q ls st μ := ix_Ev.eq (a_X11_move launch0) rfl ls st μ
set_option maxRecDepth 20000 in
theorem e_X11_move_71 (Q : ix_R → Prop) (ls : ix_L) (st : List ix_V) (μ : ix_M) : ix_Ev o_X11_move Q (71, ls, st, μ) = ix_if (fun x => x < 0) 118 74 (ix_Ev o_X11_move Q) Q ls st μ := ix_Ev.eq (a_X11_move launch0) rfl ls st μ
set_option maxRecDepth 20000 in
theorem e_X11_move_74 (Q : ix_R → Prop) (ls : ix_L) (st : List ix_V) (μ : ix_M) : ix_Ev o_X11_move Q (74, ls, st, μ) = ix_iload 2 75 (ix_Ev o_X11_move Q) Q ls st μ := ix_Ev.eq (a_X11_move launch0) rfl ls st μ
set_option maxRecDepth 20000 in
theorem e_X11_move_75 (Q : ix_R → Prop) (ls : ix_L) (st : List ix_V) (μ : ix_M) : ix_Ev o_X11_move Q (75, ls, st, μ) = ix_if (fun x => x < 0) 118 78 (ix_Ev o_X11_move Q) Q ls st μ := ix_Ev.eq (a_X11_move launch0) rfl ls st μ
set_option maxRecDepth 20000 in
theorem e_X11_move_78 (Q : ix_R → Prop) (ls : ix_L) (st : List ix_V) (μ : ix_M) : ix_Ev o_X11_move Q (78, ls, st, μ) = ix_iload 4 80 (ix_Ev o_X11_move Q) Q ls st μ := ix_Ev.eq (a_X11_move launch0) rfl ls st μ
set_option maxRecDepth 20000 in
theorem e_X11_move_80 (Q : ix_R → Prop) (ls : ix_L) (st : List ix_V) (μ : ix_M) : ix_Ev o_X11_move Q (80, ls, st, μ) = ix_if (fun x => x < 0) 118 83 (ix_Ev o_X11_move Q) Q ls st μ := ix_Ev.eq (a_X11_move launch0) rfl ls st μ
set_option maxRecDepth 20000 in
theorem e_X11_move_83 (Q : ix_R → Prop) (ls : ix_L) (st : List ix_V) (μ : ix_M) : ix_Ev o_X11_move Q (83, ls, st, μ) = ix_iload 2 84 (ix_Ev o_X11_move Q) Q ls st μ := ix_Ev.eq (a_X11_move launch0) rfl ls st μ
set_option maxRecDepth 20000 in
theorem e_X11_move_84 (Q : ix_R → Prop) (ls : ix_L) (st : List ix_V) (μ : ix_M) : ix_Ev o_X11_move Q (84, ls, st, μ) = ix_i2l 85 (ix_Ev o_X11_move Q) Q ls st μ := ix_Ev.eq (a_X11_move launch0) rfl ls st μ
set_option maxRecDepth 20000 in
theorem e_X11_move_85 (Q : ix_R → Prop) (ls : ix_L) (st : List ix_V) (μ : ix_M) : ix_Ev o_X11_move Q (85, ls, st, μ) = ix_iload 5 87 (ix_Ev o_X11_move Q) Q ls st μ := ix_Ev.eq (a_X11_move launch0) rfl ls st μ
set_option maxRecDepth 20000 in
theorem e_X11_move_87 (Q : ix_R → Prop) (ls : ix_L) (st : List ix_V) (μ : ix_M) : ix_Ev o_X11_move Q (87, ls, st, μ) = ix_i2l 88 (ix_Ev o_X11_move Q) Q ls st μ := ix_Ev.eq (a_X11_move launch0) rfl ls st μ
set_option maxRecDepth 20000 in
theorem e_X11_move_88 (Q : ix_R → Prop) (ls : ix_L) (st : List ix_V) (μ : ix_M) : ix_Ev o_X11_move Q (88, ls, st, μ) = ix_lbin (fun x y => x + y) 89 (ix_Ev o_X11_move Q) Q ls st μ := ix_Ev.eq (a_X11_move launch0) rfl ls st μ
set_option maxRecDepth 20000 in
theorem e_X11_move_89 (Q : ix_R → Prop) (ls : ix_L) (st : List ix_V) (μ : ix_M) : ix_Ev o_X11_move Q (89, ls, st, μ) = ix_aload 0 90 (ix_Ev o_X11_move Q) Q ls st μ := ix_Ev.eq (a_X11_move launch0) rfl ls st μ
set_option maxRecDepth 20000 in
theorem e_X11_move_90 (Q : ix_R → Prop) (ls : ix_L) (st : List ix_V) (μ : ix_M) : ix_Ev o_X11_move Q (90, ls, st, μ) = ix_getr 10 20 (fun _ => 124) 93 (ix_Ev o_X11_move Q) Q ls st μ := ix_Ev.eq (a_X11_move launch0) rfl ls st μ
set_option maxRecDepth 20000 in
theorem e_X11_move_93 (Q : ix_R → Prop) (ls : ix_L) (st : List ix_V) (μ : ix_M) : ix_Ev o_X11_move Q (93, ls, st, μ) = ix_iload 1 94 (ix_Ev o_X11_move Q) Q ls st μ := ix_Ev.eq (a_X11_move launch0) rfl ls st μ
set_option maxRecDepth 20000 in
theorem e_X11_move_94 (Q : ix_R → Prop) (ls : ix_L) (st : List ix_V) (μ : ix_M) : ix_Ev o_X11_move Q (94, ls, st, μ) = ix_iald 95 (ix_Ev o_X11_move Q) Q ls st μ := ix_Ev.eq (a_X11_move launch0) rfl ls st μ
set_option maxRecDepth 20000 in
theorem e_X11_move_95 (Q : ix_R → Prop) (ls : ix_L) (st : List ix_V) (μ : ix_M) : ix_Ev o_X11_move Q (95, ls, st, μ) = ix_i2l 96 (ix_Ev o_X11_move Q) Q ls st μ := ix_Ev.eq (a_X11_move launch0) rfl ls st μ
set_option maxRecDepth 20000 in
theorem e_X11_move_96 (Q : ix_R → Prop) (ls : ix_L) (st : List ix_V) (μ : ix_M) : ix_Ev o_X11_move Q (96, ls, st, μ) = ix_lcmp 97 (ix_Ev o_X11_move Q) Q ls st μ := ix_Ev.eq (a_X11_move launch0) rfl ls st μ
set_option maxRecDepth 20000 in
theorem e_X11_move_97 (Q : ix_R → Prop) (ls : ix_L) (st : List ix_V) (μ : ix_M) : ix_Ev o_X11_move Q (97, ls, st, μ) = ix_if (fun x => 0 < x) 118 100 (ix_Ev o_X11_move Q) Q ls st μ := ix_Ev.eq (a_X11_move launch0) rfl ls st μ
set_option maxRecDepth 20000 in
theorem e_X11_move_100 (Q : ix_R → Prop) (ls : ix_L) (st : List ix_V) (μ : ix_M) : ix_Ev o_X11_move Q (100, ls, st, μ) = ix_iload 4 102 (ix_Ev o_X11_move Q) Q ls st μ := ix_Ev.eq (a_X11_move launch0) rfl ls st μ
set_option maxRecDepth 20000 in
theorem e_X11_move_102 (Q : ix_R → Prop) (ls : ix_L) (st : List ix_V) (μ : ix_M) : ix_Ev o_X11_move Q (102, ls, st, μ) = ix_i2l 103 (ix_Ev o_X11_move Q) Q ls st μ := ix_Ev.eq (a_X11_move launch0) rfl ls st μ
set_option maxRecDepth 20000 in
theorem e_X11_move_103 (Q : ix_R → Prop) (ls : ix_L) (st : List ix_V) (μ : ix_M) : ix_Ev o_X11_move Q (103, ls, st, μ) = ix_iload 5 105 (ix_Ev o_X11_move Q) Q ls st μ := ix_Ev.eq (a_X11_move launch0) rfl ls st μ
set_option maxRecDepth 20000 in
theorem e_X11_move_105 (Q : ix_R → Prop) (ls : ix_L) (st : List ix_V) (μ : ix_M) : ix_Ev o_X11_move Q (105, ls, st, μ) = ix_i2l 106 (ix_Ev o_X11_move Q) Q ls st μ := ix_Ev.eq (a_X11_move launch0) rfl ls st μ
set_option maxRecDepth 20000 in
theorem e_X11_move_106 (Q : ix_R → Prop) (ls : ix_L) (st : List ix_V) (μ : ix_M) : ix_Ev o_X11_move Q (106, ls, st, μ) = ix_lbin (fun x y => x + y) 107 (ix_Ev o_X11_move Q) Q ls st μ := ix_Ev.eq (a_X11_move launch0) rfl ls st μ
set_option maxRecDepth 20000 in
theorem e_X11_move_107 (Q : ix_R → Prop) (ls : ix_L) (st : List ix_V) (μ : ix_M) : ix_Ev o_X11_move Q (107, ls, st, μ) = ix_aload 0 108 (ix_Ev o_X11_move Q) Q ls st μ := ix_Ev.eq (a_X11_move launch0) rfl ls st μ
set_option maxRecDepth 20000 in
theorem e_X11_move_108 (Q : ix_R → Prop) (ls : ix_L) (st : List ix_V) (μ : ix_M) : ix_Ev o_X11_move Q (108, ls, st, μ) = ix_getr 10 20 (fun _ => 124) 111 (ix_Ev o_X11_move Q) Q ls st μ := ix_Ev.eq (a_X11_move launch0) rfl ls st μ
set_option maxRecDepth 20000 in
theorem e_X11_move_111 (Q : ix_R → Prop) (ls : ix_L) (st : List ix_V) (μ : ix_M) : ix_Ev o_X11_move Q (111, ls, st, μ) = ix_iload 3 112 (ix_Ev o_X11_move Q) Q ls st μ := ix_Ev.eq (a_X11_move launch0) rfl ls st μ
set_option maxRecDepth 20000 in
theorem e_X11_move_112 (Q : ix_R → Prop) (ls : ix_L) (st : List ix_V) (μ : ix_M) : ix_Ev o_X11_move Q (112, ls, st, μ) = ix_iald 113 (ix_Ev o_X11_move Q) Q ls st μ := ix_Ev.eq (a_X11_move launch0) rfl ls st μ
set_option maxRecDepth 20000 in
theorem e_X11_move_113 (Q : ix_R → Prop) (ls : ix_L) (st : List ix_V) (μ : ix_M) : ix_Ev o_X11_move Q (113, ls, st, μ) = ix_i2l 114 (ix_Ev o_X11_move Q) Q ls st μ := ix_Ev.eq (a_X11_move launch0) rfl ls st μ
set_option maxRecDepth 20000 in
theorem e_X11_move_114 (Q : ix_R → Prop) (ls : ix_L) (st : List ix_V) (μ : ix_M) : ix_Ev o_X11_move Q (114, ls, st, μ) = ix_lcmp 115 (ix_Ev o_X11_move Q) Q ls st μ := ix_Ev.eq (a_X11_move launch0) rfl ls st μ
set_option maxRecDepth 20000 in
theorem e_X11_move_115 (Q : ix_R → Prop) (ls : ix_L) (st : List ix_V) (μ : ix_M) : ix_Ev o_X11_move Q (115, ls, st, μ) = ix_if (fun x => x ≤ 0) 125 118 (ix_Ev o_X11_move Q) Q ls st μ := ix_Ev.eq (a_X11_move launch0) rfl ls st μ
set_option maxRecDepth 20000 in
theorem e_X11_move_118 (Q : ix_R → Prop) (ls : ix_L) (st : List ix_V) (μ : ix_M) : ix_Ev o_X11_move Q (118, ls, st, μ) = ix_aload 0 119 (ix_Ev o_X11_move Q) Q ls st μ := ix_Ev.eq (a_X11_move launch0) rfl ls st μ
set_option maxRecDepth 20000 in
theorem e_X11_move_119 (Q : ix_R → Prop) (ls : ix_L) (st : List ix_V) (μ : ix_M) : ix_Ev o_X11_move Q (119, ls, st, μ) = ix_push (vi (-1000000001)) 121 (ix_Ev o_X11_move Q) Q ls st μ := ix_Ev.eq (a_X11_move launch0) rfl ls st μ
set_option maxRecDepth 20000 in
theorem e_X11_move_121 (Q : ix_R → Prop) (ls : ix_L) (st : List ix_V) (μ : ix_M) : ix_Ev o_X11_move Q (121, ls, st, μ) = oc_X11_finding 124 (ix_Ev o_X11_move Q) Q ls st μ := ix_Ev.eq (a_X11_move launch0) rfl ls st μ
set_option maxRecDepth 20000 in
theorem e_X11_move_124 (Q : ix_R → Prop) (ls : ix_L) (st : List ix_V) (μ : ix_M) : ix_Ev o_X11_move Q (124, ls, st, μ) = ix_iret (ix_Ev o_X11_move Q) Q ls st μ := ix_Ev.eq (a_X11_move launch0) rfl ls st μ
set_option maxRecDepth 20000 in
theorem e_X11_move_125 (Q : ix_R → Prop) (ls : ix_L) (st : List ix_V) (μ : ix_M) : ix_Ev o_X11_move Q (125, ls, st, μ) = ix_push (vi 0) 126 (ix_Ev o_X11_move Q) Q ls st μ := ix_Ev.eq (a_X11_move launch0) rfl ls st μ
set_option maxRecDepth 20000 in
theorem e_X11_move_126 (Q : ix_R → Prop) (ls : ix_L) (st : List ix_V) (μ : ix_M) : ix_Ev o_X11_move Q (126, ls, st, μ) = ix_istore 6 128 (ix_Ev o_X11_move Q) Q ls st μ := ix_Ev.eq (a_X11_move launch0) rfl ls st μ
set_option maxRecDepth 20000 in
theorem e_X11_move_128 (Q : ix_R → Prop) (ls : ix_L) (st : List ix_V) (μ : ix_M) : ix_Ev o_X11_move Q (128, ls, st, μ) = ix_iload 6 130 (ix_Ev o_X11_move Q) Q ls st μ := ix_Ev.eq (a_X11_move launch0) rfl ls st μ
set_option maxRecDepth 20000 in
theorem e_X11_move_130 (Q : ix_R → Prop) (ls : ix_L) (st : List ix_V) (μ : ix_M) : ix_Ev o_X11_move Q (130, ls, st, μ) = ix_iload 5 132 (ix_Ev o_X11_move Q) Q ls st μ := ix_Ev.eq (a_X11_move launch0) rfl ls st μ
set_option maxRecDepth 20000 in
theorem e_X11_move_132 (Q : ix_R → Prop) (ls : ix_L) (st : List ix_V) (μ : ix_M) : ix_Ev o_X11_move Q (132, ls, st, μ) = ix_cmp (fun x y => y ≤ x) 162 135 (ix_Ev o_X11_move Q) Q ls st μ := ix_Ev.eq (a_X11_move launch0) rfl ls st μ
set_option maxRecDepth 20000 in
theorem e_X11_move_135 (Q : ix_R → Prop) (ls : ix_L) (st : List ix_V) (μ : ix_M) : ix_Ev o_X11_move Q (135, ls, st, μ) = ix_aload 0 136 (ix_Ev o_X11_move Q) Q ls st μ := ix_Ev.eq (a_X11_move launch0) rfl ls st μ
set_option maxRecDepth 20000 in
theorem e_X11_move_136 (Q : ix_R → Prop) (ls : ix_L) (st : List ix_V) (μ : ix_M) : ix_Ev o_X11_move Q (136, ls, st, μ) = ix_getr 10 20 (fun _ => 126) 139 (ix_Ev o_X11_move Q) Q ls st μ := ix_Ev.eq (a_X11_move launch0) rfl ls st μ
set_option maxRecDepth 20000 in
theorem e_X11_move_139 (Q : ix_R → Prop) (ls : ix_L) (st : List ix_V) (μ : ix_M) : ix_Ev o_X11_move Q (139, ls, st, μ) = ix_iload 6 141 (ix_Ev o_X11_move Q) Q ls st μ := ix_Ev.eq (a_X11_move launch0) rfl ls st μ
set_option maxRecDepth 20000 in
theorem e_X11_move_141 (Q : ix_R → Prop) (ls : ix_L) (st : List ix_V) (μ : ix_M) : ix_Ev o_X11_move Q (141, ls, st, μ) = ix_aload 0 142 (ix_Ev o_X11_move Q) Q ls st μ := ix_Ev.eq (a_X11_move launch0) rfl ls st μ
set_option maxRecDepth 20000 in
theorem e_X11_move_142 (Q : ix_R → Prop) (ls : ix_L) (st : List ix_V) (μ : ix_M) : ix_Ev o_X11_move Q (142, ls, st, μ) = ix_getr 10 20 (fun _ => 125) 145 (ix_Ev o_X11_move Q) Q ls st μ := ix_Ev.eq (a_X11_move launch0) rfl ls st μ
set_option maxRecDepth 20000 in
theorem e_X11_move_145 (Q : ix_R → Prop) (ls : ix_L) (st : List ix_V) (μ : ix_M) : ix_Ev o_X11_move Q (145, ls, st, μ) = ix_push (vi 40) 147 (ix_Ev o_X11_move Q) Q ls st μ := ix_Ev.eq (a_X11_move launch0) rfl ls st μ
set_option maxRecDepth 20000 in
theorem e_X11_move_147 (Q : ix_R → Prop) (ls : ix_L) (st : List ix_V) (μ : ix_M) : ix_Ev o_X11_move Q (147, ls, st, μ) = ix_iload 1 148 (ix_Ev o_X11_move Q) Q ls st μ := ix_Ev.eq (a_X11_move launch0) rfl ls st μ
set_option maxRecDepth 20000 in
theorem e_X11_move_148 (Q : ix_R → Prop) (ls : ix_L) (st : List ix_V) (μ : ix_M) : ix_Ev o_X11_move Q (148, ls, st, μ) = ix_bin (fun x y => x * y) 149 (ix_Ev o_X11_move Q) Q ls st μ := ix_Ev.eq (a_X11_move launch0) rfl ls st μ
set_option maxRecDepth 20000 in
theorem e_X11_move_149 (Q : ix_R → Prop) (ls : ix_L) (st : List ix_V) (μ : ix_M) : ix_Ev o_X11_move Q (149, ls, st, μ) = ix_iload 2 150 (ix_Ev o_X11_move Q) Q ls st μ := ix_Ev.eq (a_X11_move launch0) rfl ls st μ
set_option maxRecDepth 20000 in
theorem e_X11_move_150 (Q : ix_R → Prop) (ls : ix_L) (st : List ix_V) (μ : ix_M) : ix_Ev o_X11_move Q (150, ls, st, μ) = ix_bin (fun x y => x + y) 151 (ix_Ev o_X11_move Q) Q ls st μ := ix_Ev.eq (a_X11_move launch0) rfl ls st μ
set_option maxRecDepth 20000 in
theorem e_X11_move_151 (Q : ix_R → Prop) (ls : ix_L) (st : List ix_V) (μ : ix_M) : ix_Ev o_X11_move Q (151, ls, st, μ) = ix_iload 6 153 (ix_Ev o_X11_move Q) Q ls st μ := ix_Ev.eq (a_X11_move launch0) rfl ls st μ
set_option maxRecDepth 20000 in
theorem e_X11_move_153 (Q : ix_R → Prop) (ls : ix_L) (st : List ix_V) (μ : ix_M) : ix_Ev o_X11_move Q (153, ls, st, μ) = ix_bin (fun x y => x + y) 154 (ix_Ev o_X11_move Q) Q ls st μ := ix_Ev.eq (a_X11_move launch0) rfl ls st μ
set_option maxRecDepth 20000 in
theorem e_X11_move_154 (Q : ix_R → Prop) (ls : ix_L) (st : List ix_V) (μ : ix_M) : ix_Ev o_X11_move Q (154, ls, st, μ) = ix_iald 155 (ix_Ev o_X11_move Q) Q ls st μ := ix_Ev.eq (a_X11_move launch0) rfl ls st μ
set_option maxRecDepth 20000 in
theorem e_X11_move_155 (Q : ix_R → Prop) (ls : ix_L) (st : List ix_V) (μ : ix_M) : ix_Ev o_X11_move Q (155, ls, st, μ) = ix_iast 156 (ix_Ev o_X11_move Q) Q ls st μ := ix_Ev.eq (a_X11_move launch0) rfl ls st μ
set_option maxRecDepth 20000 in
theorem e_X11_move_156 (Q : ix_R → Prop) (ls : ix_L) (st : List ix_V) (μ : ix_M) : ix_Ev o_X11_move Q (156, ls, st, μ) = ix_iinc 6 1 159 (ix_Ev o_X11_move Q) Q ls st μ := ix_Ev.eq (a_X11_move launch0) rfl ls st μ
set_option maxRecDepth 20000 in
theorem e_X11_move_159 (Q : ix_R → Prop) (ls : ix_L) (st : List ix_V) (μ : ix_M) : ix_Ev o_X11_move Q (159, ls, st, μ) = ix_goto 128 (ix_Ev o_X11_move Q) Q ls st μ := ix_Ev.eq (a_X11_move launch0) rfl ls st μ
set_option maxRecDepth 20000 in
theorem e_X11_move_162 (Q : ix_R → Prop) (ls : ix_L) (st : List ix_V) (μ : ix_M) : ix_Ev o_X11_move Q (162, ls, st, μ) = ix_push (vi 0) 163 (ix_Ev o_X11_move Q) Q ls st μ := ix_Ev.eq (a_X11_move launch0) rfl ls st μ
set_option maxRecDepth 20000 in
theorem e_X11_move_163 (Q : ix_R → Prop) (ls : ix_L) (st : List ix_V) (μ : ix_M) : ix_Ev o_X11_move Q (163, ls, st, μ) = ix_istore 6 165 (ix_Ev o_X11_move Q) Q ls st μ := ix_Ev.eq (a_X11_move launch0) rfl ls st μ
set_option maxRecDepth 20000 in
theorem e_X11_move_165 (Q : ix_R → Prop) (ls : ix_L) (st : List ix_V) (μ : ix_M) : ix_Ev o_X11_move Q (165, ls, st, μ) = ix_iload 6 167 (ix_Ev o_X11_move Q) Q ls st μ := ix_Ev.eq (a_X11_move launch0) rfl ls st μ
set_option maxRecDepth 20000 in
theorem e_X11_move_167 (Q : ix_R → Prop) (ls : ix_L) (st : List ix_V) (μ : ix_M) : ix_Ev o_X11_move Q (167, ls, st, μ) = ix_iload 5 169 (ix_Ev o_X11_move Q) Q ls st μ := ix_Ev.eq (a_X11_move launch0) rfl ls st μ
set_option maxRecDepth 20000 in
theorem e_X11_move_169 (Q : ix_R → Prop) (ls : ix_L) (st : List ix_V) (μ : ix_M) : ix_Ev o_X11_move Q (169, ls, st, μ) = ix_cmp (fun x y => y ≤ x) 200 172 (ix_Ev o_X11_move Q) Q ls st μ := ix_Ev.eq (a_X11_move launch0) rfl ls st μ
set_option maxRecDepth 20000 in
theorem e_X11_move_172 (Q : ix_R → Prop) (ls : ix_L) (st : List ix_V) (μ : ix_M) : ix_Ev o_X11_move Q (172, ls, st, μ) = ix_aload 0 173 (ix_Ev o_X11_move Q) Q ls st μ := ix_Ev.eq (a_X11_move launch0) rfl ls st μ
set_option maxRecDepth 20000 in
theorem e_X11_move_173 (Q : ix_R → Prop) (ls : ix_L) (st : List ix_V) (μ : ix_M) : ix_Ev o_X11_move Q (173, ls, st, μ) = ix_getr 10 20 (fun _ => 125) 176 (ix_Ev o_X11_move Q) Q ls st μ := ix_Ev.eq (a_X11_move launch0) rfl ls st μ
set_option maxRecDepth 20000 in
theorem e_X11_move_176 (Q : ix_R → Prop) (ls : ix_L) (st : List ix_V) (μ : ix_M) : ix_Ev o_X11_move Q (176, ls, st, μ) = ix_push (vi 40) 178 (ix_Ev o_X11_move Q) Q ls st μ := ix_Ev.eq (a_X11_move launch0) rfl ls st μ
set_option maxRecDepth 20000 in
theorem e_X11_move_178 (Q : ix_R → Prop) (ls : ix_L) (st : List ix_V) (μ : ix_M) : ix_Ev o_X11_move Q (178, ls, st, μ) = ix_iload 3 179 (ix_Ev o_X11_move Q) Q ls st μ := ix_Ev.eq (a_X11_move launch0) rfl ls st μ
set_option maxRecDepth 20000 in
theorem e_X11_move_179 (Q : ix_R → Prop) (ls : ix_L) (st : List ix_V) (μ : ix_M) : ix_Ev o_X11_move Q (179, ls, st, μ) = ix_bin (fun x y => x * y) 180 (ix_Ev o_X11_move Q) Q ls st μ := ix_Ev.eq (a_X11_move launch0) rfl ls st μ
set_option maxRecDepth 20000 in
theorem e_X11_move_180 (Q : ix_R → Prop) (ls : ix_L) (st : List ix_V) (μ : ix_M) : ix_Ev o_X11_move Q (180, ls, st, μ) = ix_iload 4 182 (ix_Ev o_X11_move Q) Q ls st μ := ix_Ev.eq (a_X11_move launch0) rfl ls st μ
set_option maxRecDepth 20000 in
theorem e_X11_move_182 (Q : ix_R → Prop) (ls : ix_L) (st : List ix_V) (μ : ix_M) : ix_Ev o_X11_move Q (182, ls, st, μ) = ix_bin (fun x y => x + y) 183 (ix_Ev o_X11_move Q) Q ls st μ := ix_Ev.eq (a_X11_move launch0) rfl ls st μ
set_option maxRecDepth 20000 in
theorem e_X11_move_183 (Q : ix_R → Prop) (ls : ix_L) (st : List ix_V) (μ : ix_M) : ix_Ev o_X11_move Q (183, ls, st, μ) = ix_iload 6 185 (ix_Ev o_X11_move Q) Q ls st μ := ix_Ev.eq (a_X11_move launch0) rfl ls st μ
set_option maxRecDepth 20000 in
theorem e_X11_move_185 (Q : ix_R → Prop) (ls : ix_L) (st : List ix_V) (μ : ix_M) : ix_Ev o_X11_move Q (185, ls, st, μ) = ix_bin (fun x y => x + y) 186 (ix_Ev o_X11_move Q) Q ls st μ := ix_Ev.eq (a_X11_move launch0) rfl ls st μ
set_option maxRecDepth 20000 in
theorem e_X11_move_186 (Q : ix_R → Prop) (ls : ix_L) (st : List ix_V) (μ : ix_M) : ix_Ev o_X11_move Q (186, ls, st, μ) = ix_aload 0 187 (ix_Ev o_X11_move Q) Q ls st μ := ix_Ev.eq (a_X11_move launch0) rfl ls st μ
set_option maxRecDepth 20000 in
theorem e_X11_move_187 (Q : ix_R → Prop) (ls : ix_L) (st : List ix_V) (μ : ix_M) : ix_Ev o_X11_move Q (187, ls, st, μ) = ix_getr 10 20 (fun _ => 126) 190 (ix_Ev o_X11_move Q) Q ls st μ := ix_Ev.eq (a_X11_move launch0) rfl ls st μ
set_option maxRecDepth 20000 in
theorem e_X11_move_190 (Q : ix_R → Prop) (ls : ix_L) (st : List ix_V) (μ : ix_M) : ix_Ev o_X11_move Q (190, ls, st, μ) = ix_iload 6 192 (ix_Ev o_X11_move Q) Q ls st μ := ix_Ev.eq (a_X11_move launch0) rfl ls st μ
set_option maxRecDepth 20000 in
theorem e_X11_move_192 (Q : ix_R → Prop) (ls : ix_L) (st : List ix_V) (μ : ix_M) : ix_Ev o_X11_move Q (192, ls, st, μ) = ix_iald 193 (ix_Ev o_X11_move Q) Q ls st μ := ix_Ev.eq (a_X11_move launch0) rfl ls st μ
set_option maxRecDepth 20000 in
theorem e_X11_move_193 (Q : ix_R → Prop) (ls : ix_L) (st : List ix_V) (μ : ix_M) : ix_Ev o_X11_move Q (193, ls, st, μ) = ix_iast 194 (ix_Ev o_X11_move Q) Q ls st μ := ix_Ev.eq (a_X11_move launch0) rfl ls st μ
set_option maxRecDepth 20000 in
theorem e_X11_move_194 (Q : ix_R → Prop) (ls : ix_L) (st : List ix_V) (μ : ix_M) : ix_Ev o_X11_move Q (194, ls, st, μ) = ix_iinc 6 1 197 (ix_Ev o_X11_move Q) Q ls st μ := ix_Ev.eq (a_X11_move launch0) rfl ls st μ
set_option maxRecDepth 20000 in
theorem e_X11_move_197 (Q : ix_R → Prop) (ls : ix_L) (st : List ix_V) (μ : ix_M) : ix_Ev o_X11_move Q (197, ls, st, μ) = ix_goto 165 (ix_Ev o_X11_move Q) Q ls st μ := ix_Ev.eq (a_X11_move launch0) rfl ls st μ
set_option maxRecDepth 20000 in
theorem e_X11_move_200 (Q : ix_R → Prop) (ls : ix_L) (st : List ix_V) (μ : ix_M) : ix_Ev o_X11_move Q (200, ls, st, μ) = ix_iload 5 202 (ix_Ev o_X11_move Q) Q ls st μ := ix_Ev.eq (a_X11_move launch0) rfl ls st μ
set_option maxRecDepth 20000 in
theorem e_X11_move_202 (Q : ix_R → Prop) (ls : ix_L) (st : List ix_V) (μ : ix_M) : ix_Ev o_X11_move Q (202, ls, st, μ) = ix_iret (ix_Ev o_X11_move Q) Q ls st μ := ix_Ev.eq (a_X11_move launch0) rfl ls st μ
/-- so many numbers from one on -/
def okm (i n : Int32) (N : Nat) : Prop := 0 ≤ i.toInt ∧ 0 ≤ n.toInt ∧ i.toInt + n.toInt ≤ N
theorem okm_c {i n : Int32} {N : Nat} (hN : N ≤ 40) : (¬ i < 0 ∧ ¬ n < 0 ∧ ¬ nI N < i ∧ ¬ nI N - i < n) ↔ okm i n N := by
  have e0 : (0 : Int32).toInt = 0 := rfl
  have eN : (nI N).toInt = N := nI_toInt (by omega)
  unfold okm
  simp only [fa_lt, e0, eN]
  constructor
  · rintro ⟨h1, h2, h3, h4⟩
    rw [fb_subI (by omega) (by omega), eN] at h4
    omega
  · rintro ⟨h1, h2, h3⟩
    refine ⟨by omega, by omega, by omega, ?_⟩
    rw [fb_subI (by omega) (by omega), eN]
    omega
theorem lc_1 {i n : Int32} {N : Nat} (hN : N ≤ 40) : (0 < lg_cmp (i.toInt64 + n.toInt64) (nI N).toInt64) ↔ ¬ (i.toInt + n.toInt ≤ N) := by
  have r1 := fb_rng i
  have r2 := fb_rng n
  have e : (i.toInt64 + n.toInt64).toInt = i.toInt + n.toInt := by
    rw [fb_addL] <;> rw [Int32.toInt_toInt64, Int32.toInt_toInt64] <;> omega
  have eN : (nI N).toInt64.toInt = N := by rw [Int32.toInt_toInt64, nI_toInt (by omega)]
  unfold lg_cmp
  by_cases c : i.toInt64 + n.toInt64 > (nI N).toInt64
  · rw [if_pos c]
    have c : (nI N).toInt64 < i.toInt64 + n.toInt64 := c
    rw [fa_lt64, e, eN] at c
    exact ⟨fun _ => by omega, fun _ => by decide⟩
  · rw [if_neg c]
    have c : ¬ (nI N).toInt64 < i.toInt64 + n.toInt64 := c
    rw [fa_lt64, e, eN] at c
    refine ⟨fun z => ?_, fun z => absurd z (by omega)⟩
    split at z
    · exact absurd z (by decide)
    · exact absurd z (by decide)
theorem lc_2 {i n : Int32} {N : Nat} (hN : N ≤ 40) : (lg_cmp (i.toInt64 + n.toInt64) (nI N).toInt64 ≤ 0) ↔ (i.toInt + n.toInt ≤ N) := by
  have h := lc_1 (i := i) (n := n) hN
  constructor
  · intro z
    exact Classical.byContradiction (fun y => absurd (h.mpr y) (Int32.not_lt.mpr z))
  · intro z
    exact Int32.not_lt.mp (fun y => (h.mp y) z)
theorem okm_nat {i n : Int32} {N : Nat} (hN : N ≤ 40) (h : okm i n N) : ∃ P K : Nat, i = nI P ∧ n = nI K ∧ P + K ≤ N := by
  obtain ⟨h1, h2, h3⟩ := h
  obtain ⟨P, hP, rfl⟩ := nI_get (x := i) (n := N) h1 (by omega) (by omega)
  obtain ⟨K, hK, rfl⟩ := nI_get (x := n) (n := N) h2 (by omega) (by omega)
  rw [nI_toInt (by omega), nI_toInt (by omega)] at h3
  exact ⟨P, K, rfl, rfl, by omega⟩
theorem l2_X11_move {S T P R K : Nat} {μ0 : ix_M} {Q : ix_R → Prop} (hT : T < 4) (hR : R + K ≤ 40) (hQ : ∀ μ', Fx [125] μ0 μ' → (∀ j, μ' 125 j = if 40 * T + R ≤ j ∧ j < 40 * T + R + K then μ0 126 (j - (40 * T + R)) else μ0 125 j) → Q (some (vi (nI K)), μ')) : ∀ (k x : Nat) (μ : ix_M), x + k = K → Fx [125] μ0 μ → (∀ j, μ 125 j = if 40 * T + R ≤ j ∧ j < 40 * T + R + x then μ0 126 (j - (40 * T + R)) else μ0 125 j) → ix_Ev o_X11_move Q (165, [some (vr 10 112), some (vi (nI S)), some (vi (nI P)), some (vi (nI T)), some (vi (nI R)), some (vi (nI K)), some (vi (nI x))], [], μ) := by
  have e40 : (40 : Int32) * nI T = nI (40 * T) := (Int32.ofNat_mul 40 T).symm
  have e41 : nI (40 * T) + nI R = nI (40 * T + R) := nI_add _ _
  intro k
  induction k with
  | zero =>
    intro x μ hx hF hr
    have hx : x = K := hx
    subst hx
    have c1 : nI x ≤ nI x := Int32.le_refl _
    rw [e_X11_move_165]
    simp (decide := true) only [e_X11_move_0, e_X11_move_1, e_X11_move_4, e_X11_move_7, e_X11_move_8, e_X11_move_11, e_X11_move_14, e_X11_move_15, e_X11_move_17, e_X11_move_20, e_X11_move_21, e_X11_move_22, e_X11_move_25, e_X11_move_26, e_X11_move_27, e_X11_move_30, e_X11_move_31, e_X11_move_34, e_X11_move_35, e_X11_move_36, e_X11_move_39, e_X11_move_40, e_X11_move_43, e_X11_move_46, e_X11_move_47, e_X11_move_48, e_X11_move_51, e_X11_move_52, e_X11_move_53, e_X11_move_54, e_X11_move_57, e_X11_move_58, e_X11_move_59, e_X11_move_62, e_X11_move_63, e_X11_move_65, e_X11_move_68, e_X11_move_69, e_X11_move_71, e_X11_move_74, e_X11_move_75, e_X11_move_78, e_X11_move_80, e_X11_move_83, e_X11_move_84, e_X11_move_85, e_X11_move_87, e_X11_move_88, e_X11_move_89, e_X11_move_90, e_X11_move_93, e_X11_move_94, e_X11_move_95, e_X11_move_96, e_X11_move_97, e_X11_move_100, e_X11_move_102, e_X11_move_103, e_X11_move_105, e_X11_move_106, e_X11_move_107, e_X11_move_108, e_X11_move_111, e_X11_move_112, e_X11_move_113, e_X11_move_114, e_X11_move_115, e_X11_move_118, e_X11_move_119, e_X11_move_121, e_X11_move_124, e_X11_move_125, e_X11_move_126, e_X11_move_130, e_X11_move_132, e_X11_move_135, e_X11_move_136, e_X11_move_139, e_X11_move_141, e_X11_move_142, e_X11_move_145, e_X11_move_147, e_X11_move_148, e_X11_move_149, e_X11_move_150, e_X11_move_151, e_X11_move_153, e_X11_move_154, e_X11_move_155, e_X11_move_156, e_X11_move_159, e_X11_move_162, e_X11_move_163, e_X11_move_167, e_X11_move_169, e_X11_move_172, e_X11_move_173, e_X11_move_176, e_X11_move_178, e_X11_move_179, e_X11_move_180, e_X11_move_182, e_X11_move_183, e_X11_move_185, e_X11_move_186, e_X11_move_187, e_X11_move_190, e_X11_move_192, e_X11_move_193, e_X11_move_194, e_X11_move_197, e_X11_move_200, e_X11_move_202, vi, vl, vr, oc_X11_finding, T_X11_finding, oc_X11_isSheet, T_X11_isSheet, ix_push, ix_iload, ix_lload, ix_aload, ix_istore, ix_astore, ix_iinc, ix_bin, ix_div, ix_un, ix_i2l, ix_l2i, ix_lbin, ix_lsh, ix_lcmp, ix_dup, ix_dup2, ix_pop, ix_if, ix_cmp, ix_goto, ix_switch, ix_sw, ix_iret, ix_zret, ix_vret, ix_aret, ix_geti, ix_getr, ix_puti, ix_putz, ix_puts, ix_gets, ix_iald, ix_iast, ix_alen, ix_aald, ix_gval, ix_gcod, ix_bald, ix_blen, ix_sald, ix_nret, ix_math2, ix_math1, ix_acopy, ml_113, ml_114, ml_115, ml_116, ml_118, ml_119, ml_120, ml_121, ml_122, ml_123, ml_124, ml_125, ml_126, mv_0, mv_1, mv_2, mv_3, mv_4, mv_5, mB_or, Nat.add_assoc, Int32.reduceLT, Int32.reduceLE, Int32.reduceToNatClampNeg, Int32.reduceSub, Int32.reduceAdd, Nat.reduceAdd, Nat.reduceLeDiff, true_or, or_true, or_false, false_or, not_false_eq_true, not_true_eq_false, false_implies, true_implies, implies_true, and_self, mB_0, mB_01, Classical.not_not, Nat.zero_le, List.getElem?_cons_zero, List.getElem?_cons_succ, List.set_cons_zero, List.set_cons_succ, ix_nl, ix_cs, true_and, and_true, Option.toList_some, Option.toList_none, List.cons_append, List.nil_append, c1]
    exact hQ μ hF hr
  | succ k ih =>
    intro x μ hx hF hr
    have c1 : ¬ nI K ≤ nI x := nI_ge (by omega) (by omega)
    have n1 : nI x + 1 = nI (x + 1) := nI_1 x
    have q1 : nI (40 * T + R) + nI x = nI (40 * T + R + x) := nI_add _ _
    have q2 : (nI (40 * T + R + x)).toNatClampNeg = 40 * T + R + x := nI_clamp (by omega)
    have q3 : vp_in (nI (40 * T + R + x)) 160 := vp_in_nI (by omega) (by decide)
    have q4 : (nI x).toNatClampNeg = x := nI_clamp (by omega)
    have q5 : vp_in (nI x) 40 := vp_in_nI (by omega) (by decide)
    generalize hz : 40 * T + R + x = z at q1 q2 q3
    generalize hy : 40 * T + R = y at e41 q1
    rw [e_X11_move_165]
    simp (decide := true) only [e_X11_move_0, e_X11_move_1, e_X11_move_4, e_X11_move_7, e_X11_move_8, e_X11_move_11, e_X11_move_14, e_X11_move_15, e_X11_move_17, e_X11_move_20, e_X11_move_21, e_X11_move_22, e_X11_move_25, e_X11_move_26, e_X11_move_27, e_X11_move_30, e_X11_move_31, e_X11_move_34, e_X11_move_35, e_X11_move_36, e_X11_move_39, e_X11_move_40, e_X11_move_43, e_X11_move_46, e_X11_move_47, e_X11_move_48, e_X11_move_51, e_X11_move_52, e_X11_move_53, e_X11_move_54, e_X11_move_57, e_X11_move_58, e_X11_move_59, e_X11_move_62, e_X11_move_63, e_X11_move_65, e_X11_move_68, e_X11_move_69, e_X11_move_71, e_X11_move_74, e_X11_move_75, e_X11_move_78, e_X11_move_80, e_X11_move_83, e_X11_move_84, e_X11_move_85, e_X11_move_87, e_X11_move_88, e_X11_move_89, e_X11_move_90, e_X11_move_93, e_X11_move_94, e_X11_move_95, e_X11_move_96, e_X11_move_97, e_X11_move_100, e_X11_move_102, e_X11_move_103, e_X11_move_105, e_X11_move_106, e_X11_move_107, e_X11_move_108, e_X11_move_111, e_X11_move_112, e_X11_move_113, e_X11_move_114, e_X11_move_115, e_X11_move_118, e_X11_move_119, e_X11_move_121, e_X11_move_124, e_X11_move_125, e_X11_move_126, e_X11_move_130, e_X11_move_132, e_X11_move_135, e_X11_move_136, e_X11_move_139, e_X11_move_141, e_X11_move_142, e_X11_move_145, e_X11_move_147, e_X11_move_148, e_X11_move_149, e_X11_move_150, e_X11_move_151, e_X11_move_153, e_X11_move_154, e_X11_move_155, e_X11_move_156, e_X11_move_159, e_X11_move_162, e_X11_move_163, e_X11_move_167, e_X11_move_169, e_X11_move_172, e_X11_move_173, e_X11_move_176, e_X11_move_178, e_X11_move_179, e_X11_move_180, e_X11_move_182, e_X11_move_183, e_X11_move_185, e_X11_move_186, e_X11_move_187, e_X11_move_190, e_X11_move_192, e_X11_move_193, e_X11_move_194, e_X11_move_197, e_X11_move_200, e_X11_move_202, vi, vl, vr, oc_X11_finding, T_X11_finding, oc_X11_isSheet, T_X11_isSheet, ix_push, ix_iload, ix_lload, ix_aload, ix_istore, ix_astore, ix_iinc, ix_bin, ix_div, ix_un, ix_i2l, ix_l2i, ix_lbin, ix_lsh, ix_lcmp, ix_dup, ix_dup2, ix_pop, ix_if, ix_cmp, ix_goto, ix_switch, ix_sw, ix_iret, ix_zret, ix_vret, ix_aret, ix_geti, ix_getr, ix_puti, ix_putz, ix_puts, ix_gets, ix_iald, ix_iast, ix_alen, ix_aald, ix_gval, ix_gcod, ix_bald, ix_blen, ix_sald, ix_nret, ix_math2, ix_math1, ix_acopy, ml_113, ml_114, ml_115, ml_116, ml_118, ml_119, ml_120, ml_121, ml_122, ml_123, ml_124, ml_125, ml_126, mv_0, mv_1, mv_2, mv_3, mv_4, mv_5, mB_or, Nat.add_assoc, Int32.reduceLT, Int32.reduceLE, Int32.reduceToNatClampNeg, Int32.reduceSub, Int32.reduceAdd, Nat.reduceAdd, Nat.reduceLeDiff, true_or, or_true, or_false, false_or, not_false_eq_true, not_true_eq_false, false_implies, true_implies, implies_true, and_self, mB_0, mB_01, Classical.not_not, Nat.zero_le, List.getElem?_cons_zero, List.getElem?_cons_succ, List.set_cons_zero, List.set_cons_succ, ix_nl, ix_cs, true_and, and_true, Option.toList_some, Option.toList_none, List.cons_append, List.nil_append, c1, n1, e40, e41, q1, q2, q3, q4, q5]
    subst hz hy
    refine ih (x + 1) _ (by omega) (hF.up (by simp)) (fun j => ?_)
    rw [ix_up_ap]
    by_cases c : j = 40 * T + R + x
    · rw [if_pos ⟨rfl, c⟩, if_pos (by omega), hF 126 (by decide), c, show 40 * T + R + x - (40 * T + R) = x by omega]
    · rw [if_neg (fun z => c z.2), hr j]
      by_cases c2 : 40 * T + R ≤ j ∧ j < 40 * T + R + x
      · rw [if_pos c2, if_pos (by omega)]
      · rw [if_neg c2, if_neg (by omega)]
theorem l_X11_move {S T P R K : Nat} {μ0 : ix_M} {Q : ix_R → Prop} (hS : S < 4) (hT : T < 4) (hP : P + K ≤ 40) (hR : R + K ≤ 40) (hQ : ∀ μ', Fx [125, 126] μ0 μ' → (∀ j, μ' 125 j = if 40 * T + R ≤ j ∧ j < 40 * T + R + K then μ0 125 (40 * S + P + (j - (40 * T + R))) else μ0 125 j) → Q (some (vi (nI K)), μ')) : ∀ (k x : Nat) (μ : ix_M), x + k = K → Fx [126] μ0 μ → (∀ j, j < x → μ 126 j = μ0 125 (40 * S + P + j)) → ix_Ev o_X11_move Q (128, [some (vr 10 112), some (vi (nI S)), some (vi (nI P)), some (vi (nI T)), some (vi (nI R)), some (vi (nI K)), some (vi (nI x))], [], μ) := by
  have e40 : (40 : Int32) * nI S = nI (40 * S) := (Int32.ofNat_mul 40 S).symm
  have e41 : nI (40 * S) + nI P = nI (40 * S + P) := nI_add _ _
  intro k
  induction k with
  | zero =>
    intro x μ hx hF hr
    have hx : x = K := hx
    subst hx
    have c1 : nI x ≤ nI x := Int32.le_refl _
    rw [e_X11_move_128]
    simp (decide := true) only [e_X11_move_0, e_X11_move_1, e_X11_move_4, e_X11_move_7, e_X11_move_8, e_X11_move_11, e_X11_move_14, e_X11_move_15, e_X11_move_17, e_X11_move_20, e_X11_move_21, e_X11_move_22, e_X11_move_25, e_X11_move_26, e_X11_move_27, e_X11_move_30, e_X11_move_31, e_X11_move_34, e_X11_move_35, e_X11_move_36, e_X11_move_39, e_X11_move_40, e_X11_move_43, e_X11_move_46, e_X11_move_47, e_X11_move_48, e_X11_move_51, e_X11_move_52, e_X11_move_53, e_X11_move_54, e_X11_move_57, e_X11_move_58, e_X11_move_59, e_X11_move_62, e_X11_move_63, e_X11_move_65, e_X11_move_68, e_X11_move_69, e_X11_move_71, e_X11_move_74, e_X11_move_75, e_X11_move_78, e_X11_move_80, e_X11_move_83, e_X11_move_84, e_X11_move_85, e_X11_move_87, e_X11_move_88, e_X11_move_89, e_X11_move_90, e_X11_move_93, e_X11_move_94, e_X11_move_95, e_X11_move_96, e_X11_move_97, e_X11_move_100, e_X11_move_102, e_X11_move_103, e_X11_move_105, e_X11_move_106, e_X11_move_107, e_X11_move_108, e_X11_move_111, e_X11_move_112, e_X11_move_113, e_X11_move_114, e_X11_move_115, e_X11_move_118, e_X11_move_119, e_X11_move_121, e_X11_move_124, e_X11_move_125, e_X11_move_126, e_X11_move_130, e_X11_move_132, e_X11_move_135, e_X11_move_136, e_X11_move_139, e_X11_move_141, e_X11_move_142, e_X11_move_145, e_X11_move_147, e_X11_move_148, e_X11_move_149, e_X11_move_150, e_X11_move_151, e_X11_move_153, e_X11_move_154, e_X11_move_155, e_X11_move_156, e_X11_move_159, e_X11_move_162, e_X11_move_163, e_X11_move_167, e_X11_move_169, e_X11_move_172, e_X11_move_173, e_X11_move_176, e_X11_move_178, e_X11_move_179, e_X11_move_180, e_X11_move_182, e_X11_move_183, e_X11_move_185, e_X11_move_186, e_X11_move_187, e_X11_move_190, e_X11_move_192, e_X11_move_193, e_X11_move_194, e_X11_move_197, e_X11_move_200, e_X11_move_202, vi, vl, vr, oc_X11_finding, T_X11_finding, oc_X11_isSheet, T_X11_isSheet, ix_push, ix_iload, ix_lload, ix_aload, ix_istore, ix_astore, ix_iinc, ix_bin, ix_div, ix_un, ix_i2l, ix_l2i, ix_lbin, ix_lsh, ix_lcmp, ix_dup, ix_dup2, ix_pop, ix_if, ix_cmp, ix_goto, ix_switch, ix_sw, ix_iret, ix_zret, ix_vret, ix_aret, ix_geti, ix_getr, ix_puti, ix_putz, ix_puts, ix_gets, ix_iald, ix_iast, ix_alen, ix_aald, ix_gval, ix_gcod, ix_bald, ix_blen, ix_sald, ix_nret, ix_math2, ix_math1, ix_acopy, ml_113, ml_114, ml_115, ml_116, ml_118, ml_119, ml_120, ml_121, ml_122, ml_123, ml_124, ml_125, ml_126, mv_0, mv_1, mv_2, mv_3, mv_4, mv_5, mB_or, Nat.add_assoc, Int32.reduceLT, Int32.reduceLE, Int32.reduceToNatClampNeg, Int32.reduceSub, Int32.reduceAdd, Nat.reduceAdd, Nat.reduceLeDiff, true_or, or_true, or_false, false_or, not_false_eq_true, not_true_eq_false, false_implies, true_implies, implies_true, and_self, mB_0, mB_01, Classical.not_not, Nat.zero_le, List.getElem?_cons_zero, List.getElem?_cons_succ, List.set_cons_zero, List.set_cons_succ, ix_nl, ix_cs, true_and, and_true, Option.toList_some, Option.toList_none, List.cons_append, List.nil_append, c1]
    refine l2_X11_move (μ0 := μ) hT hR (fun μ' F' h' => hQ μ' (Fx.tr (hF.mono (by decide)) (F'.mono (by decide))) (fun j => ?_)) x 0 μ (by omega) Fx.rf (fun j => by rw [if_neg (by omega)])
    rw [h' j]
    by_cases c : 40 * T + R ≤ j ∧ j < 40 * T + R + x
    · rw [if_pos c, if_pos c, hr _ (by omega)]
    · rw [if_neg c, if_neg c, hF 125 (by decide)]
  | succ k ih =>
    intro x μ hx hF hr
    have c1 : ¬ nI K ≤ nI x := nI_ge (by omega) (by omega)
    have n1 : nI x + 1 = nI (x + 1) := nI_1 x
    have q1 : nI (40 * S + P) + nI x = nI (40 * S + P + x) := nI_add _ _
    have q2 : (nI (40 * S + P + x)).toNatClampNeg = 40 * S + P + x := nI_clamp (by omega)
    have q3 : vp_in (nI (40 * S + P + x)) 160 := vp_in_nI (by omega) (by decide)
    have q4 : (nI x).toNatClampNeg = x := nI_clamp (by omega)
    have q5 : vp_in (nI x) 40 := vp_in_nI (by omega) (by decide)
    generalize hz : 40 * S + P + x = z at q1 q2 q3
    generalize hy : 40 * S + P = y at e41 q1
    rw [e_X11_move_128]
    simp (decide := true) only [e_X11_move_0, e_X11_move_1, e_X11_move_4, e_X11_move_7, e_X11_move_8, e_X11_move_11, e_X11_move_14, e_X11_move_15, e_X11_move_17, e_X11_move_20, e_X11_move_21, e_X11_move_22, e_X11_move_25, e_X11_move_26, e_X11_move_27, e_X11_move_30, e_X11_move_31, e_X11_move_34, e_X11_move_35, e_X11_move_36, e_X11_move_39, e_X11_move_40, e_X11_move_43, e_X11_move_46, e_X11_move_47, e_X11_move_48, e_X11_move_51, e_X11_move_52, e_X11_move_53, e_X11_move_54, e_X11_move_57, e_X11_move_58, e_X11_move_59, e_X11_move_62, e_X11_move_63, e_X11_move_65, e_X11_move_68, e_X11_move_69, e_X11_move_71, e_X11_move_74, e_X11_move_75, e_X11_move_78, e_X11_move_80, e_X11_move_83, e_X11_move_84, e_X11_move_85, e_X11_move_87, e_X11_move_88, e_X11_move_89, e_X11_move_90, e_X11_move_93, e_X11_move_94, e_X11_move_95, e_X11_move_96, e_X11_move_97, e_X11_move_100, e_X11_move_102, e_X11_move_103, e_X11_move_105, e_X11_move_106, e_X11_move_107, e_X11_move_108, e_X11_move_111, e_X11_move_112, e_X11_move_113, e_X11_move_114, e_X11_move_115, e_X11_move_118, e_X11_move_119, e_X11_move_121, e_X11_move_124, e_X11_move_125, e_X11_move_126, e_X11_move_130, e_X11_move_132, e_X11_move_135, e_X11_move_136, e_X11_move_139, e_X11_move_141, e_X11_move_142, e_X11_move_145, e_X11_move_147, e_X11_move_148, e_X11_move_149, e_X11_move_150, e_X11_move_151, e_X11_move_153, e_X11_move_154, e_X11_move_155, e_X11_move_156, e_X11_move_159, e_X11_move_162, e_X11_move_163, e_X11_move_167, e_X11_move_169, e_X11_move_172, e_X11_move_173, e_X11_move_176, e_X11_move_178, e_X11_move_179, e_X11_move_180, e_X11_move_182, e_X11_move_183, e_X11_move_185, e_X11_move_186, e_X11_move_187, e_X11_move_190, e_X11_move_192, e_X11_move_193, e_X11_move_194, e_X11_move_197, e_X11_move_200, e_X11_move_202, vi, vl, vr, oc_X11_finding, T_X11_finding, oc_X11_isSheet, T_X11_isSheet, ix_push, ix_iload, ix_lload, ix_aload, ix_istore, ix_astore, ix_iinc, ix_bin, ix_div, ix_un, ix_i2l, ix_l2i, ix_lbin, ix_lsh, ix_lcmp, ix_dup, ix_dup2, ix_pop, ix_if, ix_cmp, ix_goto, ix_switch, ix_sw, ix_iret, ix_zret, ix_vret, ix_aret, ix_geti, ix_getr, ix_puti, ix_putz, ix_puts, ix_gets, ix_iald, ix_iast, ix_alen, ix_aald, ix_gval, ix_gcod, ix_bald, ix_blen, ix_sald, ix_nret, ix_math2, ix_math1, ix_acopy, ml_113, ml_114, ml_115, ml_116, ml_118, ml_119, ml_120, ml_121, ml_122, ml_123, ml_124, ml_125, ml_126, mv_0, mv_1, mv_2, mv_3, mv_4, mv_5, mB_or, Nat.add_assoc, Int32.reduceLT, Int32.reduceLE, Int32.reduceToNatClampNeg, Int32.reduceSub, Int32.reduceAdd, Nat.reduceAdd, Nat.reduceLeDiff, true_or, or_true, or_false, false_or, not_false_eq_true, not_true_eq_false, false_implies, true_implies, implies_true, and_self, mB_0, mB_01, Classical.not_not, Nat.zero_le, List.getElem?_cons_zero, List.getElem?_cons_succ, List.set_cons_zero, List.set_cons_succ, ix_nl, ix_cs, true_and, and_true, Option.toList_some, Option.toList_none, List.cons_append, List.nil_append, c1, n1, e40, e41, q1, q2, q3, q4, q5]
    subst hz hy
    refine ih (x + 1) _ (by omega) (hF.up (by simp)) (fun j hj => ?_)
    rw [ix_up_ap]
    by_cases c : j = x
    · rw [if_pos ⟨rfl, c⟩, c, hF 125 (by decide)]
    · rw [if_neg (fun z => c z.2)]
      exact hr j (by omega)
theorem pr_move (s : Int32) (i : Int32) (t : Int32) (j : Int32) (n : Int32) (μ : ix_M) (I : Inv μ) (Q : ix_R → Prop) (hQ : ∀ vv μ', ix_Ev o_X11_move (Pst vv) (0, [some (vr 10 112), some (vi s), some (vi i), some (vi t), some (vi j), some (vi n), none], [], μ') → Q (some (vi vv), μ')) : ix_Ev o_X10_move Q (0, [some (vr 9 0), some (vi s), some (vi i), some (vi t), some (vi j), some (vi n), none, none], [], μ) := by
  rcases inR s 3 (by decide) with ⟨S, hS, rfl⟩ | ⟨hx1, hx2⟩
  · obtain ⟨S1, S2, S3, S4⟩ : ¬ nI S < 0 ∧ ¬ (3 : Int32) < nI S ∧ 0 ≤ nI S ∧ nI S ≤ (3 : Int32) := rgN hS (by decide)
    have Sc : (nI S).toNatClampNeg = S := nI_clamp (by omega)
    rcases inR t 3 (by decide) with ⟨T, hT, rfl⟩ | ⟨hx1, hx2⟩
    · obtain ⟨T1, T2, T3, T4⟩ : ¬ nI T < 0 ∧ ¬ (3 : Int32) < nI T ∧ 0 ≤ nI T ∧ nI T ≤ (3 : Int32) := rgN hT (by decide)
      have Tc : (nI T).toNatClampNeg = T := nI_clamp (by omega)
      have v4 : vp_in (nI S) 4 := vp_in_nI (by omega) (by decide)
      have v5 : vp_in (nI T) 4 := vp_in_nI (by omega) (by decide)
      obtain ⟨h1, N1, hN1, h2, h3, h4⟩ := I.2.2.2.2.1 S (by omega)
      obtain ⟨g1, N2, hN2, g2, g3, g4⟩ := I.2.2.2.2.1 T (by omega)
      have h2' : μ (99 + (3 * S + 1)) 1 = nI N1 := by rw [show 99 + (3 * S + 1) = 100 + 3 * S by omega]; exact h2
      have g2' : μ (99 + (3 * T + 1)) 1 = nI N2 := by rw [show 99 + (3 * T + 1) = 100 + 3 * T by omega]; exact g2
      by_cases c : μ 123 S = 0
      · simp (decide := true) only [e_X10_move_0, e_X10_move_1, e_X10_move_2, e_X10_move_5, e_X10_move_8, e_X10_move_9, e_X10_move_10, e_X10_move_13, e_X10_move_16, e_X10_move_17, e_X10_move_18, e_X10_move_21, e_X10_move_22, e_X10_move_23, e_X10_move_26, e_X10_move_27, e_X10_move_28, e_X10_move_30, e_X10_move_31, e_X10_move_34, e_X10_move_35, e_X10_move_36, e_X10_move_38, e_X10_move_40, e_X10_move_43, e_X10_move_46, e_X10_move_48, e_X10_move_51, e_X10_move_54, e_X10_move_55, e_X10_move_56, e_X10_move_59, e_X10_move_60, e_X10_move_62, e_X10_move_65, e_X10_move_67, e_X10_move_70, e_X10_move_73, e_X10_move_74, e_X10_move_75, e_X10_move_78, e_X10_move_79, e_X10_move_81, e_X10_move_84, e_X10_move_85, e_X10_move_87, e_X10_move_90, e_X10_move_93, e_X10_move_95, e_X10_move_98, e_X10_move_100, e_X10_move_102, e_X10_move_105, e_X10_move_108, e_X10_move_109, e_X10_move_110, e_X10_move_113, e_X10_move_114, e_X10_move_116, e_X10_move_119, e_X10_move_122, e_X10_move_123, e_X10_move_125, e_X10_move_128, e_X10_move_131, e_X10_move_133, e_X10_move_135, e_X10_move_138, e_X10_move_140, vi, vl, vr, oc_X10_error, T_X10_error, oc_X10_outside, T_X10_outside, oc_X4_holds, T_X4_holds, oc_X5_isMissing, T_X5_isMissing, ix_push, ix_iload, ix_lload, ix_aload, ix_istore, ix_astore, ix_iinc, ix_bin, ix_div, ix_un, ix_i2l, ix_l2i, ix_lbin, ix_lsh, ix_lcmp, ix_dup, ix_dup2, ix_pop, ix_if, ix_cmp, ix_goto, ix_switch, ix_sw, ix_iret, ix_zret, ix_vret, ix_aret, ix_geti, ix_getr, ix_puti, ix_putz, ix_puts, ix_gets, ix_iald, ix_iast, ix_alen, ix_aald, ix_gval, ix_gcod, ix_bald, ix_blen, ix_sald, ix_nret, ix_math2, ix_math1, ix_acopy, Nat.add_assoc, Int32.reduceLT, Int32.reduceLE, Int32.reduceToNatClampNeg, Int32.reduceSub, Int32.reduceAdd, Nat.reduceAdd, Nat.reduceLeDiff, true_or, or_true, or_false, false_or, not_false_eq_true, not_true_eq_false, false_implies, true_implies, implies_true, and_self, mB_0, mB_01, Classical.not_not, Nat.zero_le, List.getElem?_cons_zero, List.getElem?_cons_succ, List.set_cons_zero, List.set_cons_succ, ix_nl, ix_cs, true_and, and_true, Option.toList_some, Option.toList_none, List.cons_append, List.nil_append, S1, S2, S3, S4, Sc, T1, T2, T3, T4, Tc, v4, v5, h1, c, ix_up_ne, ix_up_k, ve_1, ve_2, ve_3, ve_4, ve_5]
        refine hQ _ _ ?_
        simp (decide := true) only [e_X11_move_0, e_X11_move_1, e_X11_move_4, e_X11_move_7, e_X11_move_8, e_X11_move_11, e_X11_move_14, e_X11_move_15, e_X11_move_17, e_X11_move_20, e_X11_move_21, e_X11_move_22, e_X11_move_25, e_X11_move_26, e_X11_move_27, e_X11_move_30, e_X11_move_31, e_X11_move_34, e_X11_move_35, e_X11_move_36, e_X11_move_39, e_X11_move_40, e_X11_move_43, e_X11_move_46, e_X11_move_47, e_X11_move_48, e_X11_move_51, e_X11_move_52, e_X11_move_53, e_X11_move_54, e_X11_move_57, e_X11_move_58, e_X11_move_59, e_X11_move_62, e_X11_move_63, e_X11_move_65, e_X11_move_68, e_X11_move_69, e_X11_move_71, e_X11_move_74, e_X11_move_75, e_X11_move_78, e_X11_move_80, e_X11_move_83, e_X11_move_84, e_X11_move_85, e_X11_move_87, e_X11_move_88, e_X11_move_89, e_X11_move_90, e_X11_move_93, e_X11_move_94, e_X11_move_95, e_X11_move_96, e_X11_move_97, e_X11_move_100, e_X11_move_102, e_X11_move_103, e_X11_move_105, e_X11_move_106, e_X11_move_107, e_X11_move_108, e_X11_move_111, e_X11_move_112, e_X11_move_113, e_X11_move_114, e_X11_move_115, e_X11_move_118, e_X11_move_119, e_X11_move_121, e_X11_move_124, e_X11_move_125, e_X11_move_126, e_X11_move_130, e_X11_move_132, e_X11_move_135, e_X11_move_136, e_X11_move_139, e_X11_move_141, e_X11_move_142, e_X11_move_145, e_X11_move_147, e_X11_move_148, e_X11_move_149, e_X11_move_150, e_X11_move_151, e_X11_move_153, e_X11_move_154, e_X11_move_155, e_X11_move_156, e_X11_move_159, e_X11_move_162, e_X11_move_163, e_X11_move_167, e_X11_move_169, e_X11_move_172, e_X11_move_173, e_X11_move_176, e_X11_move_178, e_X11_move_179, e_X11_move_180, e_X11_move_182, e_X11_move_183, e_X11_move_185, e_X11_move_186, e_X11_move_187, e_X11_move_190, e_X11_move_192, e_X11_move_193, e_X11_move_194, e_X11_move_197, e_X11_move_200, e_X11_move_202, vi, vl, vr, oc_X11_finding, T_X11_finding, oc_X11_isSheet, T_X11_isSheet, ix_push, ix_iload, ix_lload, ix_aload, ix_istore, ix_astore, ix_iinc, ix_bin, ix_div, ix_un, ix_i2l, ix_l2i, ix_lbin, ix_lsh, ix_lcmp, ix_dup, ix_dup2, ix_pop, ix_if, ix_cmp, ix_goto, ix_switch, ix_sw, ix_iret, ix_zret, ix_vret, ix_aret, ix_geti, ix_getr, ix_puti, ix_putz, ix_puts, ix_gets, ix_iald, ix_iast, ix_alen, ix_aald, ix_gval, ix_gcod, ix_bald, ix_blen, ix_sald, ix_nret, ix_math2, ix_math1, ix_acopy, ml_113, ml_114, ml_115, ml_116, ml_118, ml_119, ml_120, ml_121, ml_122, ml_123, ml_124, ml_125, ml_126, mv_0, mv_1, mv_2, mv_3, mv_4, mv_5, mB_or, Nat.add_assoc, Int32.reduceLT, Int32.reduceLE, Int32.reduceToNatClampNeg, Int32.reduceSub, Int32.reduceAdd, Nat.reduceAdd, Nat.reduceLeDiff, true_or, or_true, or_false, false_or, not_false_eq_true, not_true_eq_false, false_implies, true_implies, implies_true, and_self, mB_0, mB_01, Classical.not_not, Nat.zero_le, List.getElem?_cons_zero, List.getElem?_cons_succ, List.set_cons_zero, List.set_cons_succ, ix_nl, ix_cs, true_and, and_true, Option.toList_some, Option.toList_none, List.cons_append, List.nil_append, S1, S2, S3, S4, Sc, T1, T2, T3, T4, Tc, v4, v5, h1, c, ix_up_ne, ix_up_k, ve_1, ve_2, ve_3, ve_4, ve_5]
        repeat' (first | exact I.er 2 (by decide) | refine ⟨fun _ => ?_, fun _ => ?_⟩)
      · by_cases d : μ 123 T = 0
        · simp (decide := true) only [e_X10_move_0, e_X10_move_1, e_X10_move_2, e_X10_move_5, e_X10_move_8, e_X10_move_9, e_X10_move_10, e_X10_move_13, e_X10_move_16, e_X10_move_17, e_X10_move_18, e_X10_move_21, e_X10_move_22, e_X10_move_23, e_X10_move_26, e_X10_move_27, e_X10_move_28, e_X10_move_30, e_X10_move_31, e_X10_move_34, e_X10_move_35, e_X10_move_36, e_X10_move_38, e_X10_move_40, e_X10_move_43, e_X10_move_46, e_X10_move_48, e_X10_move_51, e_X10_move_54, e_X10_move_55, e_X10_move_56, e_X10_move_59, e_X10_move_60, e_X10_move_62, e_X10_move_65, e_X10_move_67, e_X10_move_70, e_X10_move_73, e_X10_move_74, e_X10_move_75, e_X10_move_78, e_X10_move_79, e_X10_move_81, e_X10_move_84, e_X10_move_85, e_X10_move_87, e_X10_move_90, e_X10_move_93, e_X10_move_95, e_X10_move_98, e_X10_move_100, e_X10_move_102, e_X10_move_105, e_X10_move_108, e_X10_move_109, e_X10_move_110, e_X10_move_113, e_X10_move_114, e_X10_move_116, e_X10_move_119, e_X10_move_122, e_X10_move_123, e_X10_move_125, e_X10_move_128, e_X10_move_131, e_X10_move_133, e_X10_move_135, e_X10_move_138, e_X10_move_140, vi, vl, vr, oc_X10_error, T_X10_error, oc_X10_outside, T_X10_outside, oc_X4_holds, T_X4_holds, oc_X5_isMissing, T_X5_isMissing, ix_push, ix_iload, ix_lload, ix_aload, ix_istore, ix_astore, ix_iinc, ix_bin, ix_div, ix_un, ix_i2l, ix_l2i, ix_lbin, ix_lsh, ix_lcmp, ix_dup, ix_dup2, ix_pop, ix_if, ix_cmp, ix_goto, ix_switch, ix_sw, ix_iret, ix_zret, ix_vret, ix_aret, ix_geti, ix_getr, ix_puti, ix_putz, ix_puts, ix_gets, ix_iald, ix_iast, ix_alen, ix_aald, ix_gval, ix_gcod, ix_bald, ix_blen, ix_sald, ix_nret, ix_math2, ix_math1, ix_acopy, Nat.add_assoc, Int32.reduceLT, Int32.reduceLE, Int32.reduceToNatClampNeg, Int32.reduceSub, Int32.reduceAdd, Nat.reduceAdd, Nat.reduceLeDiff, true_or, or_true, or_false, false_or, not_false_eq_true, not_true_eq_false, false_implies, true_implies, implies_true, and_self, mB_0, mB_01, Classical.not_not, Nat.zero_le, List.getElem?_cons_zero, List.getElem?_cons_succ, List.set_cons_zero, List.set_cons_succ, ix_nl, ix_cs, true_and, and_true, Option.toList_some, Option.toList_none, List.cons_append, List.nil_append, S1, S2, S3, S4, Sc, T1, T2, T3, T4, Tc, v4, v5, h1, c, g1, d, ix_up_ne, ix_up_k, ve_1, ve_2, ve_3, ve_4, ve_5]
          refine hQ _ _ ?_
          simp (decide := true) only [e_X11_move_0, e_X11_move_1, e_X11_move_4, e_X11_move_7, e_X11_move_8, e_X11_move_11, e_X11_move_14, e_X11_move_15, e_X11_move_17, e_X11_move_20, e_X11_move_21, e_X11_move_22, e_X11_move_25, e_X11_move_26, e_X11_move_27, e_X11_move_30, e_X11_move_31, e_X11_move_34, e_X11_move_35, e_X11_move_36, e_X11_move_39, e_X11_move_40, e_X11_move_43, e_X11_move_46, e_X11_move_47, e_X11_move_48, e_X11_move_51, e_X11_move_52, e_X11_move_53, e_X11_move_54, e_X11_move_57, e_X11_move_58, e_X11_move_59, e_X11_move_62, e_X11_move_63, e_X11_move_65, e_X11_move_68, e_X11_move_69, e_X11_move_71, e_X11_move_74, e_X11_move_75, e_X11_move_78, e_X11_move_80, e_X11_move_83, e_X11_move_84, e_X11_move_85, e_X11_move_87, e_X11_move_88, e_X11_move_89, e_X11_move_90, e_X11_move_93, e_X11_move_94, e_X11_move_95, e_X11_move_96, e_X11_move_97, e_X11_move_100, e_X11_move_102, e_X11_move_103, e_X11_move_105, e_X11_move_106, e_X11_move_107, e_X11_move_108, e_X11_move_111, e_X11_move_112, e_X11_move_113, e_X11_move_114, e_X11_move_115, e_X11_move_118, e_X11_move_119, e_X11_move_121, e_X11_move_124, e_X11_move_125, e_X11_move_126, e_X11_move_130, e_X11_move_132, e_X11_move_135, e_X11_move_136, e_X11_move_139, e_X11_move_141, e_X11_move_142, e_X11_move_145, e_X11_move_147, e_X11_move_148, e_X11_move_149, e_X11_move_150, e_X11_move_151, e_X11_move_153, e_X11_move_154, e_X11_move_155, e_X11_move_156, e_X11_move_159, e_X11_move_162, e_X11_move_163, e_X11_move_167, e_X11_move_169, e_X11_move_172, e_X11_move_173, e_X11_move_176, e_X11_move_178, e_X11_move_179, e_X11_move_180, e_X11_move_182, e_X11_move_183, e_X11_move_185, e_X11_move_186, e_X11_move_187, e_X11_move_190, e_X11_move_192, e_X11_move_193, e_X11_move_194, e_X11_move_197, e_X11_move_200, e_X11_move_202, vi, vl, vr, oc_X11_finding, T_X11_finding, oc_X11_isSheet, T_X11_isSheet, ix_push, ix_iload, ix_lload, ix_aload, ix_istore, ix_astore, ix_iinc, ix_bin, ix_div, ix_un, ix_i2l, ix_l2i, ix_lbin, ix_lsh, ix_lcmp, ix_dup, ix_dup2, ix_pop, ix_if, ix_cmp, ix_goto, ix_switch, ix_sw, ix_iret, ix_zret, ix_vret, ix_aret, ix_geti, ix_getr, ix_puti, ix_putz, ix_puts, ix_gets, ix_iald, ix_iast, ix_alen, ix_aald, ix_gval, ix_gcod, ix_bald, ix_blen, ix_sald, ix_nret, ix_math2, ix_math1, ix_acopy, ml_113, ml_114, ml_115, ml_116, ml_118, ml_119, ml_120, ml_121, ml_122, ml_123, ml_124, ml_125, ml_126, mv_0, mv_1, mv_2, mv_3, mv_4, mv_5, mB_or, Nat.add_assoc, Int32.reduceLT, Int32.reduceLE, Int32.reduceToNatClampNeg, Int32.reduceSub, Int32.reduceAdd, Nat.reduceAdd, Nat.reduceLeDiff, true_or, or_true, or_false, false_or, not_false_eq_true, not_true_eq_false, false_implies, true_implies, implies_true, and_self, mB_0, mB_01, Classical.not_not, Nat.zero_le, List.getElem?_cons_zero, List.getElem?_cons_succ, List.set_cons_zero, List.set_cons_succ, ix_nl, ix_cs, true_and, and_true, Option.toList_some, Option.toList_none, List.cons_append, List.nil_append, S1, S2, S3, S4, Sc, T1, T2, T3, T4, Tc, v4, v5, h1, c, g1, d, ix_up_ne, ix_up_k, ve_1, ve_2, ve_3, ve_4, ve_5]
          repeat' (first | exact I.er 2 (by decide) | refine ⟨fun _ => ?_, fun _ => ?_⟩)
        · by_cases e : μ 123 S = μ 123 T
          · have d' : ¬ μ 123 S = 0 := c
            simp (decide := true) only [e_X10_move_0, e_X10_move_1, e_X10_move_2, e_X10_move_5, e_X10_move_8, e_X10_move_9, e_X10_move_10, e_X10_move_13, e_X10_move_16, e_X10_move_17, e_X10_move_18, e_X10_move_21, e_X10_move_22, e_X10_move_23, e_X10_move_26, e_X10_move_27, e_X10_move_28, e_X10_move_30, e_X10_move_31, e_X10_move_34, e_X10_move_35, e_X10_move_36, e_X10_move_38, e_X10_move_40, e_X10_move_43, e_X10_move_46, e_X10_move_48, e_X10_move_51, e_X10_move_54, e_X10_move_55, e_X10_move_56, e_X10_move_59, e_X10_move_60, e_X10_move_62, e_X10_move_65, e_X10_move_67, e_X10_move_70, e_X10_move_73, e_X10_move_74, e_X10_move_75, e_X10_move_78, e_X10_move_79, e_X10_move_81, e_X10_move_84, e_X10_move_85, e_X10_move_87, e_X10_move_90, e_X10_move_93, e_X10_move_95, e_X10_move_98, e_X10_move_100, e_X10_move_102, e_X10_move_105, e_X10_move_108, e_X10_move_109, e_X10_move_110, e_X10_move_113, e_X10_move_114, e_X10_move_116, e_X10_move_119, e_X10_move_122, e_X10_move_123, e_X10_move_125, e_X10_move_128, e_X10_move_131, e_X10_move_133, e_X10_move_135, e_X10_move_138, e_X10_move_140, vi, vl, vr, oc_X10_error, T_X10_error, oc_X10_outside, T_X10_outside, oc_X4_holds, T_X4_holds, oc_X5_isMissing, T_X5_isMissing, ix_push, ix_iload, ix_lload, ix_aload, ix_istore, ix_astore, ix_iinc, ix_bin, ix_div, ix_un, ix_i2l, ix_l2i, ix_lbin, ix_lsh, ix_lcmp, ix_dup, ix_dup2, ix_pop, ix_if, ix_cmp, ix_goto, ix_switch, ix_sw, ix_iret, ix_zret, ix_vret, ix_aret, ix_geti, ix_getr, ix_puti, ix_putz, ix_puts, ix_gets, ix_iald, ix_iast, ix_alen, ix_aald, ix_gval, ix_gcod, ix_bald, ix_blen, ix_sald, ix_nret, ix_math2, ix_math1, ix_acopy, Nat.add_assoc, Int32.reduceLT, Int32.reduceLE, Int32.reduceToNatClampNeg, Int32.reduceSub, Int32.reduceAdd, Nat.reduceAdd, Nat.reduceLeDiff, true_or, or_true, or_false, false_or, not_false_eq_true, not_true_eq_false, false_implies, true_implies, implies_true, and_self, mB_0, mB_01, Classical.not_not, Nat.zero_le, List.getElem?_cons_zero, List.getElem?_cons_succ, List.set_cons_zero, List.set_cons_succ, ix_nl, ix_cs, true_and, and_true, Option.toList_some, Option.toList_none, List.cons_append, List.nil_append, S1, S2, S3, S4, Sc, T1, T2, T3, T4, Tc, v4, v5, h1, c, g1, d, e, h2', g2', ix_up_ne, ix_up_k, ve_1, ve_2, ve_3, ve_4, ve_5]
            have mdl : ∀ v μq, μq 123 = μ 123 → μq 124 = μ 124 → (¬ (okm i n N1 ∧ okm j n N2) → Pst v (some (Sum.inl (-1000000001)), ix_up μq 116 1 (μq 116 1 + 1))) → (okm i n N1 ∧ okm j n N2 → ix_Ev o_X11_move (Pst v) (128, [some (vr 10 112), some (vi (nI S)), some (vi i), some (vi (nI T)), some (vi j), some (vi n), some (vi 0)], [], μq)) → ix_Ev o_X11_move (Pst v) (0, [some (vr 10 112), some (vi (nI S)), some (vi i), some (vi (nI T)), some (vi j), some (vi n), none], [], μq) := by
              intro v μq e123 e124 w1 w2
              have l1 := lc_1 (i := i) (n := n) hN1
              have l2 := lc_2 (i := j) (n := n) hN2
              have z0 : ∀ x : Int32, x < 0 ↔ ¬ 0 ≤ x.toInt := fun x => by
                rw [fa_lt, show (0 : Int32).toInt = 0 from rfl]
                omega
              simp (decide := true) only [e_X11_move_0, e_X11_move_1, e_X11_move_4, e_X11_move_7, e_X11_move_8, e_X11_move_11, e_X11_move_14, e_X11_move_15, e_X11_move_17, e_X11_move_20, e_X11_move_21, e_X11_move_22, e_X11_move_25, e_X11_move_26, e_X11_move_27, e_X11_move_30, e_X11_move_31, e_X11_move_34, e_X11_move_35, e_X11_move_36, e_X11_move_39, e_X11_move_40, e_X11_move_43, e_X11_move_46, e_X11_move_47, e_X11_move_48, e_X11_move_51, e_X11_move_52, e_X11_move_53, e_X11_move_54, e_X11_move_57, e_X11_move_58, e_X11_move_59, e_X11_move_62, e_X11_move_63, e_X11_move_65, e_X11_move_68, e_X11_move_69, e_X11_move_71, e_X11_move_74, e_X11_move_75, e_X11_move_78, e_X11_move_80, e_X11_move_83, e_X11_move_84, e_X11_move_85, e_X11_move_87, e_X11_move_88, e_X11_move_89, e_X11_move_90, e_X11_move_93, e_X11_move_94, e_X11_move_95, e_X11_move_96, e_X11_move_97, e_X11_move_100, e_X11_move_102, e_X11_move_103, e_X11_move_105, e_X11_move_106, e_X11_move_107, e_X11_move_108, e_X11_move_111, e_X11_move_112, e_X11_move_113, e_X11_move_114, e_X11_move_115, e_X11_move_118, e_X11_move_119, e_X11_move_121, e_X11_move_124, e_X11_move_125, e_X11_move_126, e_X11_move_130, e_X11_move_132, e_X11_move_135, e_X11_move_136, e_X11_move_139, e_X11_move_141, e_X11_move_142, e_X11_move_145, e_X11_move_147, e_X11_move_148, e_X11_move_149, e_X11_move_150, e_X11_move_151, e_X11_move_153, e_X11_move_154, e_X11_move_155, e_X11_move_156, e_X11_move_159, e_X11_move_162, e_X11_move_163, e_X11_move_167, e_X11_move_169, e_X11_move_172, e_X11_move_173, e_X11_move_176, e_X11_move_178, e_X11_move_179, e_X11_move_180, e_X11_move_182, e_X11_move_183, e_X11_move_185, e_X11_move_186, e_X11_move_187, e_X11_move_190, e_X11_move_192, e_X11_move_193, e_X11_move_194, e_X11_move_197, e_X11_move_200, e_X11_move_202, vi, vl, vr, oc_X11_finding, T_X11_finding, oc_X11_isSheet, T_X11_isSheet, ix_push, ix_iload, ix_lload, ix_aload, ix_istore, ix_astore, ix_iinc, ix_bin, ix_div, ix_un, ix_i2l, ix_l2i, ix_lbin, ix_lsh, ix_lcmp, ix_dup, ix_dup2, ix_pop, ix_if, ix_cmp, ix_goto, ix_switch, ix_sw, ix_iret, ix_zret, ix_vret, ix_aret, ix_geti, ix_getr, ix_puti, ix_putz, ix_puts, ix_gets, ix_iald, ix_iast, ix_alen, ix_aald, ix_gval, ix_gcod, ix_bald, ix_blen, ix_sald, ix_nret, ix_math2, ix_math1, ix_acopy, ml_113, ml_114, ml_115, ml_116, ml_118, ml_119, ml_120, ml_121, ml_122, ml_123, ml_124, ml_125, ml_126, mv_0, mv_1, mv_2, mv_3, mv_4, mv_5, mB_or, Nat.add_assoc, Int32.reduceLT, Int32.reduceLE, Int32.reduceToNatClampNeg, Int32.reduceSub, Int32.reduceAdd, Nat.reduceAdd, Nat.reduceLeDiff, true_or, or_true, or_false, false_or, not_false_eq_true, not_true_eq_false, false_implies, true_implies, implies_true, and_self, mB_0, mB_01, Classical.not_not, Nat.zero_le, List.getElem?_cons_zero, List.getElem?_cons_succ, List.set_cons_zero, List.set_cons_succ, ix_nl, ix_cs, true_and, and_true, Option.toList_some, Option.toList_none, List.cons_append, List.nil_append, S1, S2, S3, S4, Sc, T1, T2, T3, T4, Tc, v4, v5, e123, e124, c, d, e, h3, g3, ix_up_ne, ix_up_k, ve_1, ve_2, ve_3, ve_4, ve_5]
              rw [l1, l2, z0, z0, z0]
              unfold okm at w1 w2
              refine ⟨fun y => w1 (fun w => y w.1.2.1), fun y1 => ⟨fun y => w1 (fun w => y w.1.1), fun y2 => ⟨fun y => w1 (fun w => y w.2.1), fun y3 => ⟨fun y => w1 (fun w => y w.1.2.2), fun y4 => ⟨fun y5 => w2 ⟨⟨?_, ?_, ?_⟩, ?_, ?_, y5⟩, fun y => w1 (fun w => y w.2.2.2)⟩⟩⟩⟩⟩
              all_goals first | exact Classical.not_not.mp y1 | exact Classical.not_not.mp y2 | exact Classical.not_not.mp y3 | exact Classical.not_not.mp y4
            rw [okm_c hN1, okm_c hN2]
            have er : ¬ (okm i n N1 ∧ okm j n N2) → Q (some (Sum.inl (-1000000001)), ix_up μ 111 1 (μ 111 1 + 1)) := fun z => hQ _ _ (mdl _ _ (ix_up_ne (by decide)) (ix_up_ne (by decide)) (fun _ => by rw [ix_up_ne (by decide)]; exact I.er 1 (by decide)) (fun y => absurd y z))
            refine ⟨fun z => er (fun y => z y.1), fun z1 => ⟨fun z => er (fun y => z y.2), fun z2 => ?_⟩⟩
            have zz : okm i n N1 ∧ okm j n N2 := ⟨z1, z2⟩
            obtain ⟨P, K, rfl, rfl, hPK⟩ := okm_nat hN1 z1
            obtain ⟨R, K', rfl, eK, hRK⟩ := okm_nat hN2 z2
            have hKK : K' = K := by
              have e1 := nI_toInt (n := K) (by omega)
              have e2 := nI_toInt (n := K') (by omega)
              rw [eK] at e1
              omega
            subst hKK
            rw [nI_clamp (show P < 2 ^ 31 by omega), nI_clamp (show R < 2 ^ 31 by omega), nI_clamp (show K' < 2 ^ 31 by omega), shLen S (by omega), shLen T (by omega)]
            refine ⟨⟨nI_pos (by omega), nI_pos (by omega), nI_pos (by omega)⟩, by omega, by omega, hQ _ _ ?_⟩
            have F1 : ∀ a, a ≠ 99 + (3 * T + 2) → ix_cpy μ (99 + (3 * S + 2)) (99 + (3 * T + 2)) P R K' a = μ a := fun a ha => ix_cpy_ne ha
            refine mdl _ _ (F1 123 (by omega)) (F1 124 (by omega)) (fun y => absurd zz y) (fun _ => ?_)
            refine l_X11_move (S := S) (T := T) (P := P) (R := R) (K := K') (by omega) (by omega) (by omega) (by omega) (fun μ2 F2 r2 => pst rfl ?_) K' 0 _ (by omega) Fx.rf (fun x hx => absurd hx (Nat.not_lt_zero x))
            rw [F1 125 (by omega)] at r2
            refine I.shc (fun a k1 k2 => by rw [F2 a (by simp; omega), F1 a (by omega)]) (fun x hx => ?_)
            obtain ⟨p1, n, p2, p3, p4, p5⟩ := I.2.2.2.2.1 x hx
            refine ⟨by rw [F2 _ (by simp; omega), F1 _ (by omega), F2 123 (by decide), F1 123 (by omega)]; exact p1, n, p2, by rw [F2 _ (by simp; omega), F1 _ (by omega)]; exact p3, by rw [F2 124 (by decide), F1 124 (by omega)]; exact p4, fun y hy => ?_⟩
            rw [F2 _ (by simp; omega), r2 (40 * x + y)]
            by_cases cx : x = T
            · subst cx
              rw [show 101 + 3 * x = 99 + (3 * x + 2) by omega, ix_cpy_at]
              unfold va_cpy
              have hn2 : n = N2 := by
                rw [p3, nI_eq (by omega) (by omega)] at g2
                exact g2
              by_cases cy : R ≤ y ∧ y < R + K'
              · rw [if_pos cy, if_pos (by omega), show 99 + (3 * S + 2) = 101 + 3 * S by omega, h4 _ (by omega)]
                congr 1
                omega
              · rw [if_neg cy, if_neg (by omega), show 99 + (3 * x + 2) = 101 + 3 * x by omega]
                exact p5 y hy
            · rw [F1 _ (by omega), if_neg (by omega)]
              exact p5 y hy
          · simp (decide := true) only [e_X10_move_0, e_X10_move_1, e_X10_move_2, e_X10_move_5, e_X10_move_8, e_X10_move_9, e_X10_move_10, e_X10_move_13, e_X10_move_16, e_X10_move_17, e_X10_move_18, e_X10_move_21, e_X10_move_22, e_X10_move_23, e_X10_move_26, e_X10_move_27, e_X10_move_28, e_X10_move_30, e_X10_move_31, e_X10_move_34, e_X10_move_35, e_X10_move_36, e_X10_move_38, e_X10_move_40, e_X10_move_43, e_X10_move_46, e_X10_move_48, e_X10_move_51, e_X10_move_54, e_X10_move_55, e_X10_move_56, e_X10_move_59, e_X10_move_60, e_X10_move_62, e_X10_move_65, e_X10_move_67, e_X10_move_70, e_X10_move_73, e_X10_move_74, e_X10_move_75, e_X10_move_78, e_X10_move_79, e_X10_move_81, e_X10_move_84, e_X10_move_85, e_X10_move_87, e_X10_move_90, e_X10_move_93, e_X10_move_95, e_X10_move_98, e_X10_move_100, e_X10_move_102, e_X10_move_105, e_X10_move_108, e_X10_move_109, e_X10_move_110, e_X10_move_113, e_X10_move_114, e_X10_move_116, e_X10_move_119, e_X10_move_122, e_X10_move_123, e_X10_move_125, e_X10_move_128, e_X10_move_131, e_X10_move_133, e_X10_move_135, e_X10_move_138, e_X10_move_140, vi, vl, vr, oc_X10_error, T_X10_error, oc_X10_outside, T_X10_outside, oc_X4_holds, T_X4_holds, oc_X5_isMissing, T_X5_isMissing, ix_push, ix_iload, ix_lload, ix_aload, ix_istore, ix_astore, ix_iinc, ix_bin, ix_div, ix_un, ix_i2l, ix_l2i, ix_lbin, ix_lsh, ix_lcmp, ix_dup, ix_dup2, ix_pop, ix_if, ix_cmp, ix_goto, ix_switch, ix_sw, ix_iret, ix_zret, ix_vret, ix_aret, ix_geti, ix_getr, ix_puti, ix_putz, ix_puts, ix_gets, ix_iald, ix_iast, ix_alen, ix_aald, ix_gval, ix_gcod, ix_bald, ix_blen, ix_sald, ix_nret, ix_math2, ix_math1, ix_acopy, Nat.add_assoc, Int32.reduceLT, Int32.reduceLE, Int32.reduceToNatClampNeg, Int32.reduceSub, Int32.reduceAdd, Nat.reduceAdd, Nat.reduceLeDiff, true_or, or_true, or_false, false_or, not_false_eq_true, not_true_eq_false, false_implies, true_implies, implies_true, and_self, mB_0, mB_01, Classical.not_not, Nat.zero_le, List.getElem?_cons_zero, List.getElem?_cons_succ, List.set_cons_zero, List.set_cons_succ, ix_nl, ix_cs, true_and, and_true, Option.toList_some, Option.toList_none, List.cons_append, List.nil_append, S1, S2, S3, S4, Sc, T1, T2, T3, T4, Tc, v4, v5, h1, c, g1, d, e, ix_up_ne, ix_up_k, ve_1, ve_2, ve_3, ve_4, ve_5]
            refine hQ _ _ ?_
            simp (decide := true) only [e_X11_move_0, e_X11_move_1, e_X11_move_4, e_X11_move_7, e_X11_move_8, e_X11_move_11, e_X11_move_14, e_X11_move_15, e_X11_move_17, e_X11_move_20, e_X11_move_21, e_X11_move_22, e_X11_move_25, e_X11_move_26, e_X11_move_27, e_X11_move_30, e_X11_move_31, e_X11_move_34, e_X11_move_35, e_X11_move_36, e_X11_move_39, e_X11_move_40, e_X11_move_43, e_X11_move_46, e_X11_move_47, e_X11_move_48, e_X11_move_51, e_X11_move_52, e_X11_move_53, e_X11_move_54, e_X11_move_57, e_X11_move_58, e_X11_move_59, e_X11_move_62, e_X11_move_63, e_X11_move_65, e_X11_move_68, e_X11_move_69, e_X11_move_71, e_X11_move_74, e_X11_move_75, e_X11_move_78, e_X11_move_80, e_X11_move_83, e_X11_move_84, e_X11_move_85, e_X11_move_87, e_X11_move_88, e_X11_move_89, e_X11_move_90, e_X11_move_93, e_X11_move_94, e_X11_move_95, e_X11_move_96, e_X11_move_97, e_X11_move_100, e_X11_move_102, e_X11_move_103, e_X11_move_105, e_X11_move_106, e_X11_move_107, e_X11_move_108, e_X11_move_111, e_X11_move_112, e_X11_move_113, e_X11_move_114, e_X11_move_115, e_X11_move_118, e_X11_move_119, e_X11_move_121, e_X11_move_124, e_X11_move_125, e_X11_move_126, e_X11_move_130, e_X11_move_132, e_X11_move_135, e_X11_move_136, e_X11_move_139, e_X11_move_141, e_X11_move_142, e_X11_move_145, e_X11_move_147, e_X11_move_148, e_X11_move_149, e_X11_move_150, e_X11_move_151, e_X11_move_153, e_X11_move_154, e_X11_move_155, e_X11_move_156, e_X11_move_159, e_X11_move_162, e_X11_move_163, e_X11_move_167, e_X11_move_169, e_X11_move_172, e_X11_move_173, e_X11_move_176, e_X11_move_178, e_X11_move_179, e_X11_move_180, e_X11_move_182, e_X11_move_183, e_X11_move_185, e_X11_move_186, e_X11_move_187, e_X11_move_190, e_X11_move_192, e_X11_move_193, e_X11_move_194, e_X11_move_197, e_X11_move_200, e_X11_move_202, vi, vl, vr, oc_X11_finding, T_X11_finding, oc_X11_isSheet, T_X11_isSheet, ix_push, ix_iload, ix_lload, ix_aload, ix_istore, ix_astore, ix_iinc, ix_bin, ix_div, ix_un, ix_i2l, ix_l2i, ix_lbin, ix_lsh, ix_lcmp, ix_dup, ix_dup2, ix_pop, ix_if, ix_cmp, ix_goto, ix_switch, ix_sw, ix_iret, ix_zret, ix_vret, ix_aret, ix_geti, ix_getr, ix_puti, ix_putz, ix_puts, ix_gets, ix_iald, ix_iast, ix_alen, ix_aald, ix_gval, ix_gcod, ix_bald, ix_blen, ix_sald, ix_nret, ix_math2, ix_math1, ix_acopy, ml_113, ml_114, ml_115, ml_116, ml_118, ml_119, ml_120, ml_121, ml_122, ml_123, ml_124, ml_125, ml_126, mv_0, mv_1, mv_2, mv_3, mv_4, mv_5, mB_or, Nat.add_assoc, Int32.reduceLT, Int32.reduceLE, Int32.reduceToNatClampNeg, Int32.reduceSub, Int32.reduceAdd, Nat.reduceAdd, Nat.reduceLeDiff, true_or, or_true, or_false, false_or, not_false_eq_true, not_true_eq_false, false_implies, true_implies, implies_true, and_self, mB_0, mB_01, Classical.not_not, Nat.zero_le, List.getElem?_cons_zero, List.getElem?_cons_succ, List.set_cons_zero, List.set_cons_succ, ix_nl, ix_cs, true_and, and_true, Option.toList_some, Option.toList_none, List.cons_append, List.nil_append, S1, S2, S3, S4, Sc, T1, T2, T3, T4, Tc, v4, v5, h1, c, g1, d, e, ix_up_ne, ix_up_k, ve_1, ve_2, ve_3, ve_4, ve_5]
            repeat' (first | exact I.er 5 (by decide) | refine ⟨fun _ => ?_, fun _ => ?_⟩)
    · have hx1 : t < 0 ∨ (3 : Int32) < t := hx1
      have hx2 : ¬ (0 ≤ t ∧ t ≤ (3 : Int32)) := hx2
      simp (decide := true) only [e_X10_move_0, e_X10_move_1, e_X10_move_2, e_X10_move_5, e_X10_move_8, e_X10_move_9, e_X10_move_10, e_X10_move_13, e_X10_move_16, e_X10_move_17, e_X10_move_18, e_X10_move_21, e_X10_move_22, e_X10_move_23, e_X10_move_26, e_X10_move_27, e_X10_move_28, e_X10_move_30, e_X10_move_31, e_X10_move_34, e_X10_move_35, e_X10_move_36, e_X10_move_38, e_X10_move_40, e_X10_move_43, e_X10_move_46, e_X10_move_48, e_X10_move_51, e_X10_move_54, e_X10_move_55, e_X10_move_56, e_X10_move_59, e_X10_move_60, e_X10_move_62, e_X10_move_65, e_X10_move_67, e_X10_move_70, e_X10_move_73, e_X10_move_74, e_X10_move_75, e_X10_move_78, e_X10_move_79, e_X10_move_81, e_X10_move_84, e_X10_move_85, e_X10_move_87, e_X10_move_90, e_X10_move_93, e_X10_move_95, e_X10_move_98, e_X10_move_100, e_X10_move_102, e_X10_move_105, e_X10_move_108, e_X10_move_109, e_X10_move_110, e_X10_move_113, e_X10_move_114, e_X10_move_116, e_X10_move_119, e_X10_move_122, e_X10_move_123, e_X10_move_125, e_X10_move_128, e_X10_move_131, e_X10_move_133, e_X10_move_135, e_X10_move_138, e_X10_move_140, vi, vl, vr, oc_X10_error, T_X10_error, oc_X10_outside, T_X10_outside, oc_X4_holds, T_X4_holds, oc_X5_isMissing, T_X5_isMissing, ix_push, ix_iload, ix_lload, ix_aload, ix_istore, ix_astore, ix_iinc, ix_bin, ix_div, ix_un, ix_i2l, ix_l2i, ix_lbin, ix_lsh, ix_lcmp, ix_dup, ix_dup2, ix_pop, ix_if, ix_cmp, ix_goto, ix_switch, ix_sw, ix_iret, ix_zret, ix_vret, ix_aret, ix_geti, ix_getr, ix_puti, ix_putz, ix_puts, ix_gets, ix_iald, ix_iast, ix_alen, ix_aald, ix_gval, ix_gcod, ix_bald, ix_blen, ix_sald, ix_nret, ix_math2, ix_math1, ix_acopy, Nat.add_assoc, Int32.reduceLT, Int32.reduceLE, Int32.reduceToNatClampNeg, Int32.reduceSub, Int32.reduceAdd, Nat.reduceAdd, Nat.reduceLeDiff, true_or, or_true, or_false, false_or, not_false_eq_true, not_true_eq_false, false_implies, true_implies, implies_true, and_self, mB_0, mB_01, Classical.not_not, Nat.zero_le, List.getElem?_cons_zero, List.getElem?_cons_succ, List.set_cons_zero, List.set_cons_succ, ix_nl, ix_cs, true_and, and_true, Option.toList_some, Option.toList_none, List.cons_append, List.nil_append, S1, S2, S3, S4, Sc, hx1, hx2, ix_up_ne, ix_up_k, ve_1, ve_2, ve_3, ve_4, ve_5]
      refine hQ _ _ ?_
      simp (decide := true) only [e_X11_move_0, e_X11_move_1, e_X11_move_4, e_X11_move_7, e_X11_move_8, e_X11_move_11, e_X11_move_14, e_X11_move_15, e_X11_move_17, e_X11_move_20, e_X11_move_21, e_X11_move_22, e_X11_move_25, e_X11_move_26, e_X11_move_27, e_X11_move_30, e_X11_move_31, e_X11_move_34, e_X11_move_35, e_X11_move_36, e_X11_move_39, e_X11_move_40, e_X11_move_43, e_X11_move_46, e_X11_move_47, e_X11_move_48, e_X11_move_51, e_X11_move_52, e_X11_move_53, e_X11_move_54, e_X11_move_57, e_X11_move_58, e_X11_move_59, e_X11_move_62, e_X11_move_63, e_X11_move_65, e_X11_move_68, e_X11_move_69, e_X11_move_71, e_X11_move_74, e_X11_move_75, e_X11_move_78, e_X11_move_80, e_X11_move_83, e_X11_move_84, e_X11_move_85, e_X11_move_87, e_X11_move_88, e_X11_move_89, e_X11_move_90, e_X11_move_93, e_X11_move_94, e_X11_move_95, e_X11_move_96, e_X11_move_97, e_X11_move_100, e_X11_move_102, e_X11_move_103, e_X11_move_105, e_X11_move_106, e_X11_move_107, e_X11_move_108, e_X11_move_111, e_X11_move_112, e_X11_move_113, e_X11_move_114, e_X11_move_115, e_X11_move_118, e_X11_move_119, e_X11_move_121, e_X11_move_124, e_X11_move_125, e_X11_move_126, e_X11_move_130, e_X11_move_132, e_X11_move_135, e_X11_move_136, e_X11_move_139, e_X11_move_141, e_X11_move_142, e_X11_move_145, e_X11_move_147, e_X11_move_148, e_X11_move_149, e_X11_move_150, e_X11_move_151, e_X11_move_153, e_X11_move_154, e_X11_move_155, e_X11_move_156, e_X11_move_159, e_X11_move_162, e_X11_move_163, e_X11_move_167, e_X11_move_169, e_X11_move_172, e_X11_move_173, e_X11_move_176, e_X11_move_178, e_X11_move_179, e_X11_move_180, e_X11_move_182, e_X11_move_183, e_X11_move_185, e_X11_move_186, e_X11_move_187, e_X11_move_190, e_X11_move_192, e_X11_move_193, e_X11_move_194, e_X11_move_197, e_X11_move_200, e_X11_move_202, vi, vl, vr, oc_X11_finding, T_X11_finding, oc_X11_isSheet, T_X11_isSheet, ix_push, ix_iload, ix_lload, ix_aload, ix_istore, ix_astore, ix_iinc, ix_bin, ix_div, ix_un, ix_i2l, ix_l2i, ix_lbin, ix_lsh, ix_lcmp, ix_dup, ix_dup2, ix_pop, ix_if, ix_cmp, ix_goto, ix_switch, ix_sw, ix_iret, ix_zret, ix_vret, ix_aret, ix_geti, ix_getr, ix_puti, ix_putz, ix_puts, ix_gets, ix_iald, ix_iast, ix_alen, ix_aald, ix_gval, ix_gcod, ix_bald, ix_blen, ix_sald, ix_nret, ix_math2, ix_math1, ix_acopy, ml_113, ml_114, ml_115, ml_116, ml_118, ml_119, ml_120, ml_121, ml_122, ml_123, ml_124, ml_125, ml_126, mv_0, mv_1, mv_2, mv_3, mv_4, mv_5, mB_or, Nat.add_assoc, Int32.reduceLT, Int32.reduceLE, Int32.reduceToNatClampNeg, Int32.reduceSub, Int32.reduceAdd, Nat.reduceAdd, Nat.reduceLeDiff, true_or, or_true, or_false, false_or, not_false_eq_true, not_true_eq_false, false_implies, true_implies, implies_true, and_self, mB_0, mB_01, Classical.not_not, Nat.zero_le, List.getElem?_cons_zero, List.getElem?_cons_succ, List.set_cons_zero, List.set_cons_succ, ix_nl, ix_cs, true_and, and_true, Option.toList_some, Option.toList_none, List.cons_append, List.nil_append, S1, S2, S3, S4, Sc, hx1, hx2, ix_up_ne, ix_up_k, ve_1, ve_2, ve_3, ve_4, ve_5]
      repeat' (first | exact I.er 1 (by decide) | refine ⟨fun _ => ?_, fun _ => ?_⟩)
  · have hx1 : s < 0 ∨ (3 : Int32) < s := hx1
    have hx2 : ¬ (0 ≤ s ∧ s ≤ (3 : Int32)) := hx2
    simp (decide := true) only [e_X10_move_0, e_X10_move_1, e_X10_move_2, e_X10_move_5, e_X10_move_8, e_X10_move_9, e_X10_move_10, e_X10_move_13, e_X10_move_16, e_X10_move_17, e_X10_move_18, e_X10_move_21, e_X10_move_22, e_X10_move_23, e_X10_move_26, e_X10_move_27, e_X10_move_28, e_X10_move_30, e_X10_move_31, e_X10_move_34, e_X10_move_35, e_X10_move_36, e_X10_move_38, e_X10_move_40, e_X10_move_43, e_X10_move_46, e_X10_move_48, e_X10_move_51, e_X10_move_54, e_X10_move_55, e_X10_move_56, e_X10_move_59, e_X10_move_60, e_X10_move_62, e_X10_move_65, e_X10_move_67, e_X10_move_70, e_X10_move_73, e_X10_move_74, e_X10_move_75, e_X10_move_78, e_X10_move_79, e_X10_move_81, e_X10_move_84, e_X10_move_85, e_X10_move_87, e_X10_move_90, e_X10_move_93, e_X10_move_95, e_X10_move_98, e_X10_move_100, e_X10_move_102, e_X10_move_105, e_X10_move_108, e_X10_move_109, e_X10_move_110, e_X10_move_113, e_X10_move_114, e_X10_move_116, e_X10_move_119, e_X10_move_122, e_X10_move_123, e_X10_move_125, e_X10_move_128, e_X10_move_131, e_X10_move_133, e_X10_move_135, e_X10_move_138, e_X10_move_140, vi, vl, vr, oc_X10_error, T_X10_error, oc_X10_outside, T_X10_outside, oc_X4_holds, T_X4_holds, oc_X5_isMissing, T_X5_isMissing, ix_push, ix_iload, ix_lload, ix_aload, ix_istore, ix_astore, ix_iinc, ix_bin, ix_div, ix_un, ix_i2l, ix_l2i, ix_lbin, ix_lsh, ix_lcmp, ix_dup, ix_dup2, ix_pop, ix_if, ix_cmp, ix_goto, ix_switch, ix_sw, ix_iret, ix_zret, ix_vret, ix_aret, ix_geti, ix_getr, ix_puti, ix_putz, ix_puts, ix_gets, ix_iald, ix_iast, ix_alen, ix_aald, ix_gval, ix_gcod, ix_bald, ix_blen, ix_sald, ix_nret, ix_math2, ix_math1, ix_acopy, Nat.add_assoc, Int32.reduceLT, Int32.reduceLE, Int32.reduceToNatClampNeg, Int32.reduceSub, Int32.reduceAdd, Nat.reduceAdd, Nat.reduceLeDiff, true_or, or_true, or_false, false_or, not_false_eq_true, not_true_eq_false, false_implies, true_implies, implies_true, and_self, mB_0, mB_01, Classical.not_not, Nat.zero_le, List.getElem?_cons_zero, List.getElem?_cons_succ, List.set_cons_zero, List.set_cons_succ, ix_nl, ix_cs, true_and, and_true, Option.toList_some, Option.toList_none, List.cons_append, List.nil_append, hx1, hx2, ix_up_ne, ix_up_k, ve_1, ve_2, ve_3, ve_4, ve_5]
    refine hQ _ _ ?_
    simp (decide := true) only [e_X11_move_0, e_X11_move_1, e_X11_move_4, e_X11_move_7, e_X11_move_8, e_X11_move_11, e_X11_move_14, e_X11_move_15, e_X11_move_17, e_X11_move_20, e_X11_move_21, e_X11_move_22, e_X11_move_25, e_X11_move_26, e_X11_move_27, e_X11_move_30, e_X11_move_31, e_X11_move_34, e_X11_move_35, e_X11_move_36, e_X11_move_39, e_X11_move_40, e_X11_move_43, e_X11_move_46, e_X11_move_47, e_X11_move_48, e_X11_move_51, e_X11_move_52, e_X11_move_53, e_X11_move_54, e_X11_move_57, e_X11_move_58, e_X11_move_59, e_X11_move_62, e_X11_move_63, e_X11_move_65, e_X11_move_68, e_X11_move_69, e_X11_move_71, e_X11_move_74, e_X11_move_75, e_X11_move_78, e_X11_move_80, e_X11_move_83, e_X11_move_84, e_X11_move_85, e_X11_move_87, e_X11_move_88, e_X11_move_89, e_X11_move_90, e_X11_move_93, e_X11_move_94, e_X11_move_95, e_X11_move_96, e_X11_move_97, e_X11_move_100, e_X11_move_102, e_X11_move_103, e_X11_move_105, e_X11_move_106, e_X11_move_107, e_X11_move_108, e_X11_move_111, e_X11_move_112, e_X11_move_113, e_X11_move_114, e_X11_move_115, e_X11_move_118, e_X11_move_119, e_X11_move_121, e_X11_move_124, e_X11_move_125, e_X11_move_126, e_X11_move_130, e_X11_move_132, e_X11_move_135, e_X11_move_136, e_X11_move_139, e_X11_move_141, e_X11_move_142, e_X11_move_145, e_X11_move_147, e_X11_move_148, e_X11_move_149, e_X11_move_150, e_X11_move_151, e_X11_move_153, e_X11_move_154, e_X11_move_155, e_X11_move_156, e_X11_move_159, e_X11_move_162, e_X11_move_163, e_X11_move_167, e_X11_move_169, e_X11_move_172, e_X11_move_173, e_X11_move_176, e_X11_move_178, e_X11_move_179, e_X11_move_180, e_X11_move_182, e_X11_move_183, e_X11_move_185, e_X11_move_186, e_X11_move_187, e_X11_move_190, e_X11_move_192, e_X11_move_193, e_X11_move_194, e_X11_move_197, e_X11_move_200, e_X11_move_202, vi, vl, vr, oc_X11_finding, T_X11_finding, oc_X11_isSheet, T_X11_isSheet, ix_push, ix_iload, ix_lload, ix_aload, ix_istore, ix_astore, ix_iinc, ix_bin, ix_div, ix_un, ix_i2l, ix_l2i, ix_lbin, ix_lsh, ix_lcmp, ix_dup, ix_dup2, ix_pop, ix_if, ix_cmp, ix_goto, ix_switch, ix_sw, ix_iret, ix_zret, ix_vret, ix_aret, ix_geti, ix_getr, ix_puti, ix_putz, ix_puts, ix_gets, ix_iald, ix_iast, ix_alen, ix_aald, ix_gval, ix_gcod, ix_bald, ix_blen, ix_sald, ix_nret, ix_math2, ix_math1, ix_acopy, ml_113, ml_114, ml_115, ml_116, ml_118, ml_119, ml_120, ml_121, ml_122, ml_123, ml_124, ml_125, ml_126, mv_0, mv_1, mv_2, mv_3, mv_4, mv_5, mB_or, Nat.add_assoc, Int32.reduceLT, Int32.reduceLE, Int32.reduceToNatClampNeg, Int32.reduceSub, Int32.reduceAdd, Nat.reduceAdd, Nat.reduceLeDiff, true_or, or_true, or_false, false_or, not_false_eq_true, not_true_eq_false, false_implies, true_implies, implies_true, and_self, mB_0, mB_01, Classical.not_not, Nat.zero_le, List.getElem?_cons_zero, List.getElem?_cons_succ, List.set_cons_zero, List.set_cons_succ, ix_nl, ix_cs, true_and, and_true, Option.toList_some, Option.toList_none, List.cons_append, List.nil_append, hx1, hx2, ix_up_ne, ix_up_k, ve_1, ve_2, ve_3, ve_4, ve_5]
    repeat' (first | exact I.er 1 (by decide) | refine ⟨fun _ => ?_, fun _ => ?_⟩)
