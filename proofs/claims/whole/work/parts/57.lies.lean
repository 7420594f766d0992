/-! ===== calls, class against model: lies, sheet ===== -/
def o_X10_lies : List (Nat × ix_Op) := [
  (0, ix_iload 1 1),
  (1, ix_push (vi 3) 2),
  (2, oc_X10_outside 5),
  (5, ix_if (fun x => x = 0) 14 8),
  (8, ix_aload 0 9),
  (9, ix_push (vi 1) 10),
  (10, oc_X10_error 13),
  (13, ix_iret),
  (14, ix_aload 0 15),
  (15, ix_getr 9 22 (fun _ => 98) 18),
  (18, ix_iload 1 19),
  (19, ix_aald 22 98 4 4 (fun i => 99 + 3 * i) 20),
  (20, oc_X5_isMissing 23),
  (23, ix_if (fun x => x = 0) 32 26),
  (26, ix_aload 0 27),
  (27, ix_push (vi 2) 28),
  (28, oc_X10_error 31),
  (31, ix_iret),
  (32, ix_aload 0 33),
  (33, ix_getr 9 22 (fun _ => 98) 36),
  (36, ix_iload 1 37),
  (37, ix_aald 22 98 4 4 (fun i => 99 + 3 * i) 38),
  (38, ix_getr 4 3 (fun k => k + 1) 41),
  (41, ix_astore 2 42),
  (42, ix_push (vi 0) 43),
  (43, ix_istore 3 44),
  (44, ix_iload 3 45),
  (45, ix_push (vi 16) 47),
  (47, ix_cmp (fun x y => y ≤ x) 96 50),
  (50, ix_aload 2 51),
  (51, ix_iload 3 52),
  (52, oc_X4_has 55),
  (55, ix_if (fun x => x = 0) 71 58),
  (58, ix_aload 2 59),
  (59, ix_iload 3 60),
  (60, oc_X4_get 63),
  (63, ix_push (vi 99) 65),
  (65, oc_X10_outside 68),
  (68, ix_if (fun x => x = 0) 73 71),
  (71, ix_iload 3 72),
  (72, ix_iret),
  (73, ix_aload 0 74),
  (74, ix_getr 9 5 (fun _ => 1) 77),
  (77, ix_getr 5 8 (fun k => k + 1) 80),
  (80, ix_getr 8 20 (fun k => k + 2) 83),
  (83, ix_iload 3 84),
  (84, ix_aload 2 85),
  (85, ix_iload 3 86),
  (86, oc_X4_get 89),
  (89, ix_iast 90),
  (90, ix_iinc 3 1 93),
  (93, ix_goto 44),
  (96, ix_push (vi 16) 98),
  (98, ix_iret)]
set_option maxRecDepth 20000 in
theorem a_X10_lies (l : Launch) : ix_AllS l cX10_lies 4 RX10 60 (some .int) o_X10_lies :=
  .cons (ix_s_iload_n dX10_lies_0 rfl) <|
  .cons (ix_s_iconst dX10_lies_1 (by decide +kernel)) <|
  .cons (oc_X10_outside_s (ix_s_calls (k_X10_outside l) (by decide) (by decide) tw_288 tw_1 tw_286 tw_287 ⟨by decide, by decide, by decide +kernel⟩ (fun _ => rfl) dX10_lies_2)) <|
  .cons (ix_s_if_eq dX10_lies_5 (by decide)) <|
  .cons (ix_s_aload_n dX10_lies_8 rfl) <|
  .cons (ix_s_iconst dX10_lies_9 (by decide +kernel)) <|
  .cons (oc_X10_error_s (ix_s_callv (t := 9) (k_X10_error l) (by decide) (by decide) tw_292 tw_1 tw_289 tw_291 tp_0 ⟨by decide, by decide, by decide +kernel⟩ (by decide) rfl rfl (fun _ => ⟨_, _, rfl, rfl⟩) dX10_lies_10)) <|
  .cons (ix_s_iret dX10_lies_13 rfl) <|
  .cons (ix_s_aload_n dX10_lies_14 rfl) <|
  .cons (ix_s_getr (j := 7) tu_X10 rfl (by decide) (by decide) tw_255 rfl ts_9_7_r dX10_lies_15) <|
  .cons (ix_s_iload_n dX10_lies_18 rfl) <|
  .cons (ix_s_aald (E0 := ix_tys) (by decide) (by decide +kernel) (fun _ => rfl) (by decide +kernel) dX10_lies_19) <|
  .cons (oc_X5_isMissing_s (ix_s_callv (t := 4) (k_X5_isMissing l) (by decide) (by decide) tw_734 tw_11 tw_731 tw_732 tw_733 ⟨by decide, by decide, by decide +kernel⟩ (by decide) rfl rfl (fun _ => ⟨_, _, rfl, rfl⟩) dX10_lies_20)) <|
  .cons (ix_s_if_eq dX10_lies_23 (by decide)) <|
  .cons (ix_s_aload_n dX10_lies_26 rfl) <|
  .cons (ix_s_iconst dX10_lies_27 (by decide +kernel)) <|
  .cons (oc_X10_error_s (ix_s_callv (t := 9) (k_X10_error l) (by decide) (by decide) tw_292 tw_1 tw_289 tw_291 tp_0 ⟨by decide, by decide, by decide +kernel⟩ (by decide) rfl rfl (fun _ => ⟨_, _, rfl, rfl⟩) dX10_lies_28)) <|
  .cons (ix_s_iret dX10_lies_31 rfl) <|
  .cons (ix_s_aload_n dX10_lies_32 rfl) <|
  .cons (ix_s_getr (j := 7) tu_X10 rfl (by decide) (by decide) tw_255 rfl ts_9_7_r dX10_lies_33) <|
  .cons (ix_s_iload_n dX10_lies_36 rfl) <|
  .cons (ix_s_aald (E0 := ix_tys) (by decide) (by decide +kernel) (fun _ => rfl) (by decide +kernel) dX10_lies_37) <|
  .cons (ix_s_getr (j := 0) tu_X5 rfl (by decide) (by decide) tw_240 rfl ts_4_0_r dX10_lies_38) <|
  .cons (ix_s_astore_n dX10_lies_41 rfl (by decide)) <|
  .cons (ix_s_iconst dX10_lies_42 (by decide +kernel)) <|
  .cons (ix_s_istore_n dX10_lies_43 rfl (by decide)) <|
  .cons (ix_s_iload_n dX10_lies_44 rfl) <|
  .cons (ix_s_bipush dX10_lies_45 (by decide +kernel)) <|
  .cons (ix_s_cmp_ge dX10_lies_47 (by decide)) <|
  .cons (ix_s_aload_n dX10_lies_50 rfl) <|
  .cons (ix_s_iload_n dX10_lies_51 rfl) <|
  .cons (oc_X4_has_s (ix_s_callv (t := 3) (k_X4_has l) (by decide) (by decide) tw_463 tw_6 tw_785 tw_461 tw_462 ⟨by decide, by decide, by decide +kernel⟩ (by decide) rfl rfl (fun _ => ⟨_, _, rfl, rfl⟩) dX10_lies_52)) <|
  .cons (ix_s_if_eq dX10_lies_55 (by decide)) <|
  .cons (ix_s_aload_n dX10_lies_58 rfl) <|
  .cons (ix_s_iload_n dX10_lies_59 rfl) <|
  .cons (oc_X4_get_s (ix_s_callv (t := 3) (k_X4_get l) (by decide) (by decide) tw_742 tw_6 tw_739 tw_740 tw_741 ⟨by decide, by decide, by decide +kernel⟩ (by decide) rfl rfl (fun _ => ⟨_, _, rfl, rfl⟩) dX10_lies_60)) <|
  .cons (ix_s_bipush dX10_lies_63 (by decide +kernel)) <|
  .cons (oc_X10_outside_s (ix_s_calls (k_X10_outside l) (by decide) (by decide) tw_288 tw_1 tw_286 tw_287 ⟨by decide, by decide, by decide +kernel⟩ (fun _ => rfl) dX10_lies_65)) <|
  .cons (ix_s_if_eq dX10_lies_68 (by decide)) <|
  .cons (ix_s_iload_n dX10_lies_71 rfl) <|
  .cons (ix_s_iret dX10_lies_72 rfl) <|
  .cons (ix_s_aload_n dX10_lies_73 rfl) <|
  .cons (ix_s_getr (j := 0) tu_X10 rfl (by decide) (by decide) tw_248 rfl ts_9_0_r dX10_lies_74) <|
  .cons (ix_s_getr (j := 0) tu_X6 rfl (by decide) (by decide) tw_137 rfl ts_5_0_r dX10_lies_77) <|
  .cons (ix_s_getr (j := 1) tu_X9 rfl (by decide) (by decide) tw_43 rfl ts_8_1_r dX10_lies_80) <|
  .cons (ix_s_iload_n dX10_lies_83 rfl) <|
  .cons (ix_s_aload_n dX10_lies_84 rfl) <|
  .cons (ix_s_iload_n dX10_lies_85 rfl) <|
  .cons (oc_X4_get_s (ix_s_callv (t := 3) (k_X4_get l) (by decide) (by decide) tw_742 tw_6 tw_739 tw_740 tw_741 ⟨by decide, by decide, by decide +kernel⟩ (by decide) rfl rfl (fun _ => ⟨_, _, rfl, rfl⟩) dX10_lies_86)) <|
  .cons (ix_s_iast dX10_lies_89) <|
  .cons (ix_s_iinc dX10_lies_90 (by decide +kernel) (by decide)) <|
  .cons (ix_s_goto dX10_lies_93 (by decide)) <|
  .cons (ix_s_bipush dX10_lies_96 (by decide +kernel)) <|
  .cons (ix_s_iret dX10_lies_98 rfl) <| .nil
theorem e_X10_lies_0 (Q : ix_R → Prop) (ls : ix_L) (st : List ix_V) (μ : ix_M) : ix_Ev o_X10_lies Q (0, ls, st, μ) = ix_iload 1 1 (ix_Ev o_X10_lies Q) Q ls st μ := ix_Ev.eq (a_X10_lies launch0) rfl ls st μ
theorem e_X10_lies_1 (Q : ix_R → Prop) (ls : ix_L) (st : List ix_V) (μ : ix_M) : ix_Ev o_X10_lies Q (1, ls, st, μ) = ix_push (vi 3) 2 (ix_Ev o_X10_lies Q) Q ls st μ := ix_Ev.eq (a_X10_lies launch0) rfl ls st μ
theorem e_X10_lies_2 (Q : ix_R → Prop) (ls : ix_L) (st : List ix_V) (μ : ix_M) : ix_Ev o_X10_lies Q (2, ls, st, μ) = oc_X10_outside 5 (ix_Ev o_X10_lies Q) Q ls st μ := ix_Ev.eq (a_X10_lies launch0) rfl ls st μ
theorem e_X10_lies_5 (Q : ix_R → Prop) (ls : ix_L) (st : List ix_V) (μ : ix_M) : ix_Ev o_X10_lies Q (5, ls, st, μ) = ix_if (fun x => x = 0) 14 8 (ix_Ev o_X10_lies Q) Q ls st μ := ix_Ev.eq (a_X10_lies launch0) rfl ls st μ
theorem e_X10_lies_8 (Q : ix_R → Prop) (ls : ix_L) (st : List ix_V) (μ : ix_M) : ix_Ev o_X10_lies Q (8, ls, st, μ) = ix_aload 0 9 (ix_Ev o_X10_lies Q) Q ls st μ := ix_Ev.eq (a_X10_lies launch0) rfl ls st μ
theorem e_X10_lies_9 (Q : ix_R → Prop) (ls : ix_L) (st : List ix_V) (μ : ix_M) : ix_Ev o_X10_lies Q (9, ls, st, μ) = ix_push (vi 1) 10 (ix_Ev o_X10_lies Q) Q ls st μ := ix_Ev.eq (a_X10_lies launch0) rfl ls st μ
theorem e_X10_lies_10 (Q : ix_R → Prop) (ls : ix_L) (st : List ix_V) (μ : ix_M) : ix_Ev o_X10_lies Q (10, ls, st, μ) = oc_X10_error 13 (ix_Ev o_X10_lies Q) Q ls st μ := ix_Ev.eq (a_X10_lies launch0) rfl ls st μ
theorem e_X10_lies_13 (Q : ix_R → Prop) (ls : ix_L) (st : List ix_V) (μ : ix_M) : ix_Ev o_X10_lies Q (13, ls, st, μ) = ix_iret (ix_Ev o_X10_lies Q) Q ls st μ := ix_Ev.eq (a_X10_lies launch0) rfl ls st μ
theorem e_X10_lies_14 (Q : ix_R → Prop) (ls : ix_L) (st : List ix_V) (μ : ix_M) : ix_Ev o_X10_lies Q (14, ls, st, μ) = ix_aload 0 15 (ix_Ev o_X10_lies Q) Q ls st μ := ix_Ev.eq (a_X10_lies launch0) rfl ls st μ
theorem e_X10_lies_15 (Q : ix_R → Prop) (ls : ix_L) (st : List ix_V) (μ : ix_M) : ix_Ev o_X10_lies Q (15, ls, st, μ) = ix_getr 9 22 (fun _ => 98) 18 (ix_Ev o_X10_lies Q) Q ls st μ := ix_Ev.eq (a_X10_lies launch0) rfl ls st μ
theorem e_X10_lies_18 (Q : ix_R → Prop) (ls : ix_L) (st : List ix_V) (μ : ix_M) : ix_Ev o_X10_lies Q (18, ls, st, μ) = ix_iload 1 19 (ix_Ev o_X10_lies Q) Q ls st μ := ix_Ev.eq (a_X10_lies launch0) rfl ls st μ
theorem e_X10_lies_19 (Q : ix_R → Prop) (ls : ix_L) (st : List ix_V) (μ : ix_M) : ix_Ev o_X10_lies Q (19, ls, st, μ) = ix_aald 22 98 4 4 (fun i => 99 + 3 * i) 20 (ix_Ev o_X10_lies Q) Q ls st μ := ix_Ev.eq (a_X10_lies launch0) rfl ls st μ
theorem e_X10_lies_20 (Q : ix_R → Prop) (ls : ix_L) (st : List ix_V) (μ : ix_M) : ix_Ev o_X10_lies Q (20, ls, st, μ) = oc_X5_isMissing 23 (ix_Ev o_X10_lies Q) Q ls st μ := ix_Ev.eq (a_X10_lies launch0) rfl ls st μ
theorem e_X10_lies_23 (Q : ix_R → Prop) (ls : ix_L) (st : List ix_V) (μ : ix_M) : ix_Ev o_X10_lies Q (23, ls, st, μ) = ix_if (fun x => x = 0) 32 26 (ix_Ev o_X10_lies Q) Q ls st μ := ix_Ev.eq (a_X10_lies launch0) rfl ls st μ
theorem e_X10_lies_26 (Q : ix_R → Prop) (ls : ix_L) (st : List ix_V) (μ : ix_M) : ix_Ev o_X10_lies Q (26, ls, st, μ) = ix_aload 0 27 (ix_Ev o_X10_lies Q) Q ls st μ := ix_Ev.eq (a_X10_lies launch0) rfl ls st μ
theorem e_X10_lies_27 (Q : ix_R → Prop) (ls : ix_L) (st : List ix_V) (μ : ix_M) : ix_Ev o_X10_lies Q (27, ls, st, μ) = ix_push (vi 2) 28 (ix_Ev o_X10_lies Q) Q ls st μ := ix_Ev.eq (a_X10_lies launch0) rfl ls st μ
theorem e_X10_lies_28 (Q : ix_R → Prop) (ls : ix_L) (st : List ix_V) (μ : ix_M) : ix_Ev o_X10_lies Q (28, ls, st, μ) = oc_X10_error 31 (ix_Ev o_X10_lies Q) Q ls st μ := ix_Ev.eq (a_X10_lies launch0) rfl ls st μ
theorem e_X10_lies_31 (Q : ix_R → Prop) (ls : ix_L) (st : List ix_V) (μ : ix_M) : ix_Ev o_X10_lies Q (31, ls, st, μ) = ix_iret (ix_Ev o_X10_lies Q) Q ls st μ := ix_Ev.eq (a_X10_lies launch0) rfl ls st μ
theorem e_X10_lies_32 (Q : ix_R → Prop) (ls : ix_L) (st : List ix_V) (μ : ix_M) : ix_Ev o_X10_lies Q (32, ls, st, μ) = ix_aload 0 33 (ix_Ev o_X10_lies Q) Q ls st μ := ix_Ev.eq (a_X10_lies launch0) rfl ls st μ
theorem e_X10_lies_33 (Q : ix_R → Prop) (ls : ix_L) (st : List ix_V) (μ : ix_M) : ix_Ev o_X10_lies Q (33, ls, st, μ) = ix_getr 9 22 (fun _ => 98) 36 (ix_Ev o_X10_lies Q) Q ls st μ := ix_Ev.eq (a_X10_lies launch0) rfl ls st μ
theorem e_X10_lies_36 (Q : ix_R → Prop) (ls : ix_L) (st : List ix_V) (μ : ix_M) : ix_Ev o_X10_lies Q (36, ls, st, μ) = ix_iload 1 37 (ix_Ev o_X10_lies Q) Q ls st μ := ix_Ev.eq (a_X10_lies launch0) rfl ls st μ
theorem e_X10_lies_37 (Q : ix_R → Prop) (ls : ix_L) (st : List ix_V) (μ : ix_M) : ix_Ev o_X10_lies Q (37, ls, st, μ) = ix_aald 22 98 4 4 (fun i => 99 + 3 * i) 38 (ix_Ev o_X10_lies Q) Q ls st μ := ix_Ev.eq (a_X10_lies launch0) rfl ls st μ
theorem e_X10_lies_38 (Q : ix_R → Prop) (ls : ix_L) (st : List ix_V) (μ : ix_M) : ix_Ev o_X10_lies Q (38, ls, st, μ) = ix_getr 4 3 (fun k => k + 1) 41 (ix_Ev o_X10_lies Q) Q ls st μ := ix_Ev.eq (a_X10_lies launch0) rfl ls st μ
theorem e_X10_lies_41 (Q : ix_R → Prop) (ls : ix_L) (st : List ix_V) (μ : ix_M) : ix_Ev o_X10_lies Q (41, ls, st, μ) = ix_astore 2 42 (ix_Ev o_X10_lies Q) Q ls st μ := ix_Ev.eq (a_X10_lies launch0) rfl ls st μ
theorem e_X10_lies_42 (Q : ix_R → Prop) (ls : ix_L) (st : List ix_V) (μ : ix_M) : ix_Ev o_X10_lies Q (42, ls, st, μ) = ix_push (vi 0) 43 (ix_Ev o_X10_lies Q) Q ls st μ := ix_Ev.eq (a_X10_lies launch0) rfl ls st μ
theorem e_X10_lies_43 (Q : ix_R → Prop) (ls : ix_L) (st : List ix_V) (μ : ix_M) : ix_Ev o_X10_lies Q (43, ls, st, μ) = ix_istore 3 44 (ix_Ev o_X10_lies Q) Q ls st μ := ix_Ev.eq (a_X10_lies launch0) rfl ls st μ
theorem e_X10_lies_44 (Q : ix_R → Prop) (ls : ix_L) (st : List ix_V) (μ : ix_M) : ix_Ev o_X10_lies Q (44, ls, st, μ) = ix_iload 3 45 (ix_Ev o_X10_lies Q) Q ls st μ := ix_Ev.eq (a_X10_lies launch0) rfl ls st μ
theorem e_X10_lies_45 (Q : ix_R → Prop) (ls : ix_L) (st : List ix_V) (μ : ix_M) : ix_Ev o_X10_lies Q (45, ls, st, μ) = ix_push (vi 16) 47 (ix_Ev o_X10_lies Q) Q ls st μ := ix_Ev.eq (a_X10_lies launch0) rfl ls st μ
theorem e_X10_lies_47 (Q : ix_R → Prop) (ls : ix_L) (st : List ix_V) (μ : ix_M) : ix_Ev o_X10_lies Q (47, ls, st, μ) = ix_cmp (fun x y => y ≤ x) 96 50 (ix_Ev o_X10_lies Q) Q ls st μ := ix_Ev.eq (a_X10_lies launch0) rfl ls st μ
theorem e_X10_lies_50 (Q : ix_R → Prop) (ls : ix_L) (st : List ix_V) (μ : ix_M) : ix_Ev o_X10_lies Q (50, ls, st, μ) = ix_aload 2 51 (ix_Ev o_X10_lies Q) Q ls st μ := ix_Ev.eq (a_X10_lies launch0) rfl ls st μ
theorem e_X10_lies_51 (Q : ix_R → Prop) (ls : ix_L) (st : List ix_V) (μ : ix_M) : ix_Ev o_X10_lies Q (51, ls, st, μ) = ix_iload 3 52 (ix_Ev o_X10_lies Q) Q ls st μ := ix_Ev.eq (a_X10_lies launch0) rfl ls st μ
theorem e_X10_lies_52 (Q : ix_R → Prop) (ls : ix_L) (st : List ix_V) (μ : ix_M) : ix_Ev o_X10_lies Q (52, ls, st, μ) = oc_X4_has 55 (ix_Ev o_X10_lies Q) Q ls st μ := ix_Ev.eq (a_X10_lies launch0) rfl ls st μ
theorem e_X10_lies_55 (Q : ix_R → Prop) (ls : ix_L) (st : List ix_V) (μ : ix_M) : ix_Ev o_X10_lies Q (55, ls, st, μ) = ix_if (fun x => x = 0) 71 58 (ix_Ev o_X10_lies Q) Q ls st μ := ix_Ev.eq (a_X10_lies launch0) rfl ls st μ
theorem e_X10_lies_58 (Q : ix_R → Prop) (ls : ix_L) (st : List ix_V) (μ : ix_M) : ix_Ev o_X10_lies Q (58, ls, st, μ) = ix_aload 2 59 (ix_Ev o_X10_lies Q) Q ls st μ := ix_Ev.eq (a_X10_lies launch0) rfl ls st μ
theorem e_X10_lies_59 (Q : ix_R → Prop) (ls : ix_L) (st : List ix_V) (μ : ix_M) : ix_Ev o_X10_lies Q (59, ls, st, μ) = ix_iload 3 60 (ix_Ev o_X10_lies Q) Q ls st μ := ix_Ev.eq (a_X10_lies launch0) rfl ls st μ
theorem e_X10_lies_60 (Q : ix_R → Prop) (ls : ix_L) (st : List ix_V) (μ : ix_M) : ix_Ev o_X10_lies Q (60, ls, st, μ) = oc_X4_get 63 (ix_Ev o_X10_lies Q) Q ls st μ := ix_Ev.eq (a_X10_lies launch0) rfl ls st μ
theorem e_X10_lies_63 (Q : ix_R → Prop) (ls : ix_L) (st : List ix_V) (μ : ix_M) : ix_Ev o_X10_lies Q (63, ls, st, μ) = ix_push (vi 99) 65 (ix_Ev o_X10_lies Q) Q ls st μ := ix_Ev.eq (a_X10_lies launch0) rfl ls st μ
theorem e_X10_lies_65 (Q : ix_R → Prop) (ls : ix_L) (st : List ix_V) (μ : ix_M) : ix_Ev o_X10_lies Q (65, ls, st, μ) = oc_X10_outside 68 (ix_Ev o_X10_lies Q) Q ls st μ := ix_Ev.eq (a_X10_lies launch0) rfl ls st μ
theorem e_X10_lies_68 (Q : ix_R → Prop) (ls : ix_L) (st : List ix_V) (μ : ix_M) : ix_Ev o_X10_lies Q (68, ls, st, μ) = ix_if (fun x => x = 0) 73 71 (ix_Ev o_X10_lies Q) Q ls st μ := ix_Ev.eq (a_X10_lies launch0) rfl ls st μ
theorem e_X10_lies_71 (Q : ix_R → Prop) (ls : ix_L) (st : List ix_V) (μ : ix_M) : ix_Ev o_X10_lies Q (71, ls, st, μ) = ix_iload 3 72 (ix_Ev o_X10_lies Q) Q ls st μ := ix_Ev.eq (a_X10_lies launch0) rfl ls st μ
theorem e_X10_lies_72 (Q : ix_R → Prop) (ls : ix_L) (st : List ix_V) (μ : ix_M) : ix_Ev o_X10_lies Q (72, ls, st, μ) = ix_iret (ix_Ev o_X10_lies Q) Q ls st μ := ix_Ev.eq (a_X10_lies launch0) rfl ls st μ
theorem e_X10_lies_73 (Q : ix_R → Prop) (ls : ix_L) (st : List ix_V) (μ : ix_M) : ix_Ev o_X10_lies Q (73, ls, st, μ) = ix_aload 0 74 (ix_Ev o_X10_lies Q) Q ls st μ := ix_Ev.eq (a_X10_lies launch0) rfl ls st μ
theorem e_X10_lies_74 (Q : ix_R → Prop) (ls : ix_L) (st : List ix_V) (μ : ix_M) : ix_Ev o_X10_lies Q (74, ls, st, μ) = ix_getr 9 5 (fun _ => 1) 77 (ix_Ev o_X10_lies Q) Q ls st μ := ix_Ev.eq (a_X10_lies launch0) rfl ls st μ
theorem e_X10_lies_77 (Q : ix_R → Prop) (ls : ix_L) (st : List ix_V) (μ : ix_M) : ix_Ev o_X10_lies Q (77, ls, st, μ) = ix_getr 5 8 (fun k => k + 1) 80 (ix_Ev o_X10_lies Q) Q ls st μ := ix_Ev.eq (a_X10_lies launch0) rfl ls st μ
theorem e_X10_lies_80 (Q : ix_R → Prop) (ls : ix_L) (st : List ix_V) (μ : ix_M) : ix_Ev o_X10_lies Q (80, ls, st, μ) = ix_getr 8 20 (fun k => k + 2) 83 (ix_Ev o_X10_lies Q) Q ls st μ := ix_Ev.eq (a_X10_lies launch0) rfl ls st μ
theorem e_X10_lies_83 (Q : ix_R → Prop) (ls : ix_L) (st : List ix_V) (μ : ix_M) : ix_Ev o_X10_lies Q (83, ls, st, μ) = ix_iload 3 84 (ix_Ev o_X10_lies Q) Q ls st μ := ix_Ev.eq (a_X10_lies launch0) rfl ls st μ
theorem e_X10_lies_84 (Q : ix_R → Prop) (ls : ix_L) (st : List ix_V) (μ : ix_M) : ix_Ev o_X10_lies Q (84, ls, st, μ) = ix_aload 2 85 (ix_Ev o_X10_lies Q) Q ls st μ := ix_Ev.eq (a_X10_lies launch0) rfl ls st μ
theorem e_X10_lies_85 (Q : ix_R → Prop) (ls : ix_L) (st : List ix_V) (μ : ix_M) : ix_Ev o_X10_lies Q (85, ls, st, μ) = ix_iload 3 86 (ix_Ev o_X10_lies Q) Q ls st μ := ix_Ev.eq (a_X10_lies launch0) rfl ls st μ
theorem e_X10_lies_86 (Q : ix_R → Prop) (ls : ix_L) (st : List ix_V) (μ : ix_M) : ix_Ev o_X10_lies Q (86, ls, st, μ) = oc_X4_get 89 (ix_Ev o_X10_lies Q) Q ls st μ := ix_Ev.eq (a_X10_lies launch0) rfl ls st μ
theorem e_X10_lies_89 (Q : ix_R → Prop) (ls : ix_L) (st : List ix_V) (μ : ix_M) : ix_Ev o_X10_lies Q (89, ls, st, μ) = ix_iast 90 (ix_Ev o_X10_lies Q) Q ls st μ := ix_Ev.eq (a_X10_lies launch0) rfl ls st μ
theorem e_X10_lies_90 (Q : ix_R → Prop) (ls : ix_L) (st : List ix_V) (μ : ix_M) : ix_Ev o_X10_lies Q (90, ls, st, μ) = ix_iinc 3 1 93 (ix_Ev o_X10_lies Q) Q ls st μ := ix_Ev.eq (a_X10_lies launch0) rfl ls st μ
theorem e_X10_lies_93 (Q : ix_R → Prop) (ls : ix_L) (st : List ix_V) (μ : ix_M) : ix_Ev o_X10_lies Q (93, ls, st, μ) = ix_goto 44 (ix_Ev o_X10_lies Q) Q ls st μ := ix_Ev.eq (a_X10_lies launch0) rfl ls st μ
theorem e_X10_lies_96 (Q : ix_R → Prop) (ls : ix_L) (st : List ix_V) (μ : ix_M) : ix_Ev o_X10_lies Q (96, ls, st, μ) = ix_push (vi 16) 98 (ix_Ev o_X10_lies Q) Q ls st μ := ix_Ev.eq (a_X10_lies launch0) rfl ls st μ
theorem e_X10_lies_98 (Q : ix_R → Prop) (ls : ix_L) (st : List ix_V) (μ : ix_M) : ix_Ev o_X10_lies Q (98, ls, st, μ) = ix_iret (ix_Ev o_X10_lies Q) Q ls st μ := ix_Ev.eq (a_X10_lies launch0) rfl ls st μ
def o_X11_lies : List (Nat × ix_Op) := [
  (0, ix_iload 1 1),
  (1, oc_X11_isSheet 4),
  (4, ix_if (fun x => x = 0) 7 14),
  (7, ix_aload 0 8),
  (8, ix_push (vi (-1000000001)) 10),
  (10, oc_X11_finding 13),
  (13, ix_iret),
  (14, ix_aload 0 15),
  (15, ix_getr 10 20 (fun _ => 123) 18),
  (18, ix_iload 1 19),
  (19, ix_iald 20),
  (20, ix_if (fun x => x = 0) 23 31),
  (23, ix_aload 0 24),
  (24, ix_push (vi (-1000000002)) 27),
  (27, oc_X11_finding 30),
  (30, ix_iret),
  (31, ix_push (vi 0) 32),
  (32, ix_istore 2 33),
  (33, ix_iload 2 34),
  (34, ix_aload 0 35),
  (35, ix_getr 10 20 (fun _ => 124) 38),
  (38, ix_iload 1 39),
  (39, ix_iald 40),
  (40, ix_cmp (fun x y => y ≤ x) 93 43),
  (43, ix_iload 2 44),
  (44, oc_X11_isCell 47),
  (47, ix_if (fun x => x = 0) 93 50),
  (50, ix_aload 0 51),
  (51, ix_getr 10 20 (fun _ => 125) 54),
  (54, ix_push (vi 40) 56),
  (56, ix_iload 1 57),
  (57, ix_bin (fun x y => x * y) 58),
  (58, ix_iload 2 59),
  (59, ix_bin (fun x y => x + y) 60),
  (60, ix_iald 61),
  (61, oc_X11_isMost 64),
  (64, ix_if (fun x => x = 0) 93 67),
  (67, ix_aload 0 68),
  (68, ix_getr 10 20 (fun _ => 113) 71),
  (71, ix_push (vi 34) 73),
  (73, ix_iload 2 74),
  (74, ix_bin (fun x y => x + y) 75),
  (75, ix_aload 0 76),
  (76, ix_getr 10 20 (fun _ => 125) 79),
  (79, ix_push (vi 40) 81),
  (81, ix_iload 1 82),
  (82, ix_bin (fun x y => x * y) 83),
  (83, ix_iload 2 84),
  (84, ix_bin (fun x y => x + y) 85),
  (85, ix_iald 86),
  (86, ix_iast 87),
  (87, ix_iinc 2 1 90),
  (90, ix_goto 33),
  (93, ix_iload 2 94),
  (94, ix_iret)]
set_option maxRecDepth 20000 in
theorem a_X11_lies (l : Launch) : ix_AllS l cX11_lies 3 RX11 60 (some .int) o_X11_lies :=
  .cons (ix_s_iload_n dX11_lies_0 rfl) <|
  .cons (oc_X11_isSheet_s (ix_s_calls (k_X11_isSheet l) (by decide) (by decide) tw_1300 tw_12 tw_1298 tw_1299 ⟨by decide, by decide, by decide +kernel⟩ (fun _ => rfl) dX11_lies_1)) <|
  .cons (ix_s_if_ne dX11_lies_4 (by decide)) <|
  .cons (ix_s_aload_n dX11_lies_7 rfl) <|
  .cons (ix_s_ldc tw_956 dX11_lies_8) <|
  .cons (oc_X11_finding_s (ix_s_callv (t := 10) (k_X11_finding l) (by decide) (by decide) tw_960 tw_12 tw_957 tw_959 tp_18 ⟨by decide, by decide, by decide +kernel⟩ (by decide) rfl rfl (fun _ => ⟨_, _, rfl, rfl⟩) dX11_lies_10)) <|
  .cons (ix_s_iret dX11_lies_13 rfl) <|
  .cons (ix_s_aload_n dX11_lies_14 rfl) <|
  .cons (ix_s_getr (j := 22) tu_X11 rfl (by decide) (by decide) tw_892 rfl ts_10_22_r dX11_lies_15) <|
  .cons (ix_s_iload_n dX11_lies_18 rfl) <|
  .cons (ix_s_iald dX11_lies_19) <|
  .cons (ix_s_if_ne dX11_lies_20 (by decide)) <|
  .cons (ix_s_aload_n dX11_lies_23 rfl) <|
  .cons (ix_s_ldcw tw_1233 dX11_lies_24) <|
  .cons (oc_X11_finding_s (ix_s_callv (t := 10) (k_X11_finding l) (by decide) (by decide) tw_960 tw_12 tw_957 tw_959 tp_18 ⟨by decide, by decide, by decide +kernel⟩ (by decide) rfl rfl (fun _ => ⟨_, _, rfl, rfl⟩) dX11_lies_27)) <|
  .cons (ix_s_iret dX11_lies_30 rfl) <|
  .cons (ix_s_iconst dX11_lies_31 (by decide +kernel)) <|
  .cons (ix_s_istore_n dX11_lies_32 rfl (by decide)) <|
  .cons (ix_s_iload_n dX11_lies_33 rfl) <|
  .cons (ix_s_aload_n dX11_lies_34 rfl) <|
  .cons (ix_s_getr (j := 23) tu_X11 rfl (by decide) (by decide) tw_893 rfl ts_10_23_r dX11_lies_35) <|
  .cons (ix_s_iload_n dX11_lies_38 rfl) <|
  .cons (ix_s_iald dX11_lies_39) <|
  .cons (ix_s_cmp_ge dX11_lies_40 (by decide)) <|
  .cons (ix_s_iload_n dX11_lies_43 rfl) <|
  .cons (oc_X11_isCell_s (ix_s_calls (k_X11_isCell l) (by decide) (by decide) tw_1062 tw_12 tw_1060 tw_1061 ⟨by decide, by decide, by decide +kernel⟩ (fun _ => rfl) dX11_lies_44)) <|
  .cons (ix_s_if_eq dX11_lies_47 (by decide)) <|
  .cons (ix_s_aload_n dX11_lies_50 rfl) <|
  .cons (ix_s_getr (j := 24) tu_X11 rfl (by decide) (by decide) tw_894 rfl ts_10_24_r dX11_lies_51) <|
  .cons (ix_s_bipush dX11_lies_54 (by decide +kernel)) <|
  .cons (ix_s_iload_n dX11_lies_56 rfl) <|
  .cons (ix_s_imul dX11_lies_57) <|
  .cons (ix_s_iload_n dX11_lies_58 rfl) <|
  .cons (ix_s_iadd dX11_lies_59) <|
  .cons (ix_s_iald dX11_lies_60) <|
  .cons (oc_X11_isMost_s (ix_s_calls (k_X11_isMost l) (by decide) (by decide) tw_1059 tw_12 tw_1057 tw_1058 ⟨by decide, by decide, by decide +kernel⟩ (fun _ => rfl) dX11_lies_61)) <|
  .cons (ix_s_if_eq dX11_lies_64 (by decide)) <|
  .cons (ix_s_aload_n dX11_lies_67 rfl) <|
  .cons (ix_s_getr (j := 0) tu_X11 rfl (by decide) (by decide) tw_870 rfl ts_10_0_r dX11_lies_68) <|
  .cons (ix_s_bipush dX11_lies_71 (by decide +kernel)) <|
  .cons (ix_s_iload_n dX11_lies_73 rfl) <|
  .cons (ix_s_iadd dX11_lies_74) <|
  .cons (ix_s_aload_n dX11_lies_75 rfl) <|
  .cons (ix_s_getr (j := 24) tu_X11 rfl (by decide) (by decide) tw_894 rfl ts_10_24_r dX11_lies_76) <|
  .cons (ix_s_bipush dX11_lies_79 (by decide +kernel)) <|
  .cons (ix_s_iload_n dX11_lies_81 rfl) <|
  .cons (ix_s_imul dX11_lies_82) <|
  .cons (ix_s_iload_n dX11_lies_83 rfl) <|
  .cons (ix_s_iadd dX11_lies_84) <|
  .cons (ix_s_iald dX11_lies_85) <|
  .cons (ix_s_iast dX11_lies_86) <|
  .cons (ix_s_iinc dX11_lies_87 (by decide +kernel) (by decide)) <|
  .cons (ix_s_goto dX11_lies_90 (by decide)) <|
  .cons (ix_s_iload_n dX11_lies_93 rfl) <|
  .cons (ix_s_iret dX11_lies_94 rfl) <| .nil
theorem e_X11_lies_0 (Q : ix_R → Prop) (ls : ix_L) (st : List ix_V) (μ : ix_M) : ix_Ev o_X11_lies Q (0, ls, st, μ) = ix_iload 1 1 (ix_Ev o_X11_lies Q) Q ls st μ := ix_Ev.eq (a_X11_lies launch0) rfl ls st μ
theorem e_X11_lies_1 (Q : ix_R → Prop) (ls : ix_L) (st : List ix_V) (μ : ix_M) : ix_Ev o_X11_lies Q (1, ls, st, μ) = oc_X11_isSheet 4 (ix_Ev o_X11_lies Q) Q ls st μ := ix_Ev.eq (a_X11_lies launch0) rfl ls st μ
theorem e_X11_lies_4 (Q : ix_R → Prop) (ls : ix_L) (st : List ix_V) (μ : ix_M) : ix_Ev o_X11_lies Q (4, ls, st, μ) = ix_if (fun x => x = 0) 7 14 (ix_Ev o_X11_lies Q) Q ls st μ := ix_Ev.eq (a_X11_lies launch0) rfl ls st μ
theorem e_X11_lies_7 (Q : ix_R → Prop) (ls : ix_L) (st : List ix_V) (μ : ix_M) : ix_Ev o_X11_lies Q (7, ls, st, μ) = ix_aload 0 8 (ix_Ev o_X11_lies Q) Q ls st μ := ix_Ev.eq (a_X11_lies launch0) rfl ls st μ
theorem e_X11_lies_8 (Q : ix_R → Prop) (ls : ix_L) (st : List ix_V) (μ : ix_M) : ix_Ev o_X11_lies Q (8, ls, st, μ) = ix_push (vi (-1000000001)) 10 (ix_Ev o_X11_lies Q) Q ls st μ := ix_Ev.eq (a_X11_lies launch0) rfl ls st μ
theorem e_X11_lies_10 (Q : ix_R → Prop) (ls : ix_L) (st : List ix_V) (μ : ix_M) : ix_Ev o_X11_lies Q (10, ls, st, μ) = oc_X11_finding 13 (ix_Ev o_X11_lies Q) Q ls st μ := ix_Ev.eq (a_X11_lies launch0) rfl ls st μ
theorem e_X11_lies_13 (Q : ix_R → Prop) (ls : ix_L) (st : List ix_V) (μ : ix_M) : ix_Ev o_X11_lies Q (13, ls, st, μ) = ix_iret (ix_Ev o_X11_lies Q) Q ls st μ := ix_Ev.eq (a_X11_lies launch0) rfl ls st μ
theorem e_X11_lies_14 (Q : ix_R → Prop) (ls : ix_L) (st : List ix_V) (μ : ix_M) : ix_Ev o_X11_lies Q (14, ls, st, μ) = ix_aload 0 15 (ix_Ev o_X11_lies Q) Q ls st μ := ix_Ev.eq (a_X11_lies launch0) rfl ls st μ
theorem e_X11_lies_15 (Q : ix_R → Prop) (ls : ix_L) (st : List ix_V) (μ : ix_M) : ix_Ev o_X11_lies Q (15, ls, st, μ) = ix_getr 10 20 (fun _ => 123) 18 (ix_Ev o_X11_lies Q) Q ls st μ := ix_Ev.eq (a_X11_lies launch0) rfl ls st μ
theorem e_X11_lies_18 (Q : ix_R → Prop) (ls : ix_L) (st : List ix_V) (μ : ix_M) : ix_Ev o_X11_lies Q (18, ls, st, μ) = ix_iload 1 19 (ix_Ev o_X11_lies Q) Q ls st μ := ix_Ev.eq (a_X11_lies launch0) rfl ls st μ
theorem e_X11_lies_19 (Q : ix_R → Prop) (ls : ix_L) (st : List ix_V) (μ : ix_M) : ix_Ev o_X11_lies Q (19, ls, st, μ) = ix_iald 20 (ix_Ev o_X11_lies Q) Q ls st μ := ix_Ev.eq (a_X11_lies launch0) rfl ls st μ
theorem e_X11_lies_20 (Q : ix_R → Prop) (ls : ix_L) (st : List ix_V) (μ : ix_M) : ix_Ev o_X11_lies Q (20, ls, st, μ) = ix_if (fun x => x = 0) 23 31 (ix_Ev o_X11_lies Q) Q ls st μ := ix_Ev.eq (a_X11_lies launch0) rfl ls st μ
theorem e_X11_lies_23 (Q : ix_R → Prop) (ls : ix_L) (st : List ix_V) (μ : ix_M) : ix_Ev o_X11_lies Q (23, ls, st, μ) = ix_aload 0 24 (ix_Ev o_X11_lies Q) Q ls st μ := ix_Ev.eq (a_X11_lies launch0) rfl ls st μ
theorem e_X11_lies_24 (Q : ix_R → Prop) (ls : ix_L) (st : List ix_V) (μ : ix_M) : ix_Ev o_X11_lies Q (24, ls, st, μ) = ix_push (vi (-1000000002)) 27 (ix_Ev o_X11_lies Q) Q ls st μ := ix_Ev.eq (a_X11_lies launch0) rfl ls st μ
theorem e_X11_lies_27 (Q : ix_R → Prop) (ls : ix_L) (st : List ix_V) (μ : ix_M) : ix_Ev o_X11_lies Q (27, ls, st, μ) = oc_X11_finding 30 (ix_Ev o_X11_lies Q) Q ls st μ := ix_Ev.eq (a_X11_lies launch0) rfl ls st μ
theorem e_X11_lies_30 (Q : ix_R → Prop) (ls : ix_L) (st : List ix_V) (μ : ix_M) : ix_Ev o_X11_lies Q (30, ls, st, μ) = ix_iret (ix_Ev o_X11_lies Q) Q ls st μ := ix_Ev.eq (a_X11_lies launch0) rfl ls st μ
theorem e_X11_lies_31 (Q : ix_R → Prop) (ls : ix_L) (st : List ix_V) (μ : ix_M) : ix_Ev o_X11_lies Q (31, ls, st, μ) = ix_push (vi 0) 32 (ix_Ev o_X11_lies Q) Q ls st μ := ix_Ev.eq (a_X11_lies launch0) rfl ls st μ
theorem e_X11_lies_32 (Q : ix_R → Prop) (ls : ix_L) (st : List ix_V) (μ : ix_M) : ix_Ev o_X11_lies Q (32, ls, st, μ) = ix_istore 2 33 (ix_Ev o_X11_lies Q) Q ls st μ := ix_Ev.eq (a_X11_lies launch0) rfl ls st μ
theorem e_X11_lies_33 (Q : ix_R → Prop) (ls : ix_L) (st : List ix_V) (μ : ix_M) : ix_Ev o_X11_lies Q (33, ls, st, μ) = ix_iload 2 34 (ix_Ev o_X11_lies Q) Q ls st μ := ix_Ev.eq (a_X11_lies launch0) rfl ls st μ
theorem e_X11_lies_34 (Q : ix_R → Prop) (ls : ix_L) (st : List ix_V) (μ : ix_M) : ix_Ev o_X11_lies Q (34, ls, st, μ) = ix_aload 0 35 (ix_Ev o_X11_lies Q) Q ls st μ := ix_Ev.eq (a_X11_lies launch0) rfl ls st μ
theorem e_X11_lies_35 (Q : ix_R → Prop) (ls : ix_L) (st : List ix_V) (μ : ix_M) : ix_Ev o_X11_lies Q (35, ls, st, μ) = ix_getr 10 20 (fun _ => 124) 38 (ix_Ev o_X11_lies Q) Q ls st μ := ix_Ev.eq (a_X11_lies launch0) rfl ls st μ
theorem e_X11_lies_38 (Q : ix_R → Prop) (ls : ix_L) (st : List ix_V) (μ : ix_M) : ix_Ev o_X11_lies Q (38, ls, st, μ) = ix_iload 1 39 (ix_Ev o_X11_lies Q) Q ls st μ := ix_Ev.eq (a_X11_lies launch0) rfl ls st μ
theorem e_X11_lies_39 (Q : ix_R → Prop) (ls : ix_L) (st : List ix_V) (μ : ix_M) : ix_Ev o_X11_lies Q (39, ls, st, μ) = ix_iald 40 (ix_Ev o_X11_lies Q) Q ls st μ := ix_Ev.eq (a_X11_lies launch0) rfl ls st μ
theorem e_X11_lies_40 (Q : ix_R → Prop) (ls : ix_L) (st : List ix_V) (μ : ix_M) : ix_Ev o_X11_lies Q (40, ls, st, μ) = ix_cmp (fun x y => y ≤ x) 93 43 (ix_Ev o_X11_lies Q) Q ls st μ := ix_Ev.eq (a_X11_lies launch0) rfl ls st μ
theorem e_X11_lies_43 (Q : ix_R → Prop) (ls : ix_L) (st : List ix_V) (μ : ix_M) : ix_Ev o_X11_lies Q (43, ls, st, μ) = ix_iload 2 44 (ix_Ev o_X11_lies Q) Q ls st μ := ix_Ev.eq (a_X11_lies launch0) rfl ls st μ
theorem e_X11_lies_44 (Q : ix_R → Prop) (ls : ix_L) (st : List ix_V) (μ : ix_M) : ix_Ev o_X11_lies Q (44, ls, st, μ) = oc_X11_isCell 47 (ix_Ev o_X11_lies Q) Q ls st μ := ix_Ev.eq (a_X11_lies launch0) rfl ls st μ
theorem e_X11_lies_47 (Q : ix_R → Prop) (ls : ix_L) (st : List ix_V) (μ : ix_M) : ix_Ev o_X11_lies Q (47, ls, st, μ) = ix_if (fun x => x = 0) 93 50 (ix_Ev o_X11_lies Q) Q ls st μ := ix_Ev.eq (a_X11_lies launch0) rfl ls st μ
theorem e_X11_lies_50 (Q : ix_R → Prop) (ls : ix_L) (st : List ix_V) (μ : ix_M) : ix_Ev o_X11_lies Q (50, ls, st, μ) = ix_aload 0 51 (ix_Ev o_X11_lies Q) Q ls st μ := ix_Ev.eq (a_X11_lies launch0) rfl ls st μ
theorem e_X11_lies_51 (Q : ix_R → Prop) (ls : ix_L) (st : List ix_V) (μ : ix_M) : ix_Ev o_X11_lies Q (51, ls, st, μ) = ix_getr 10 20 (fun _ => 125) 54 (ix_Ev o_X11_lies Q) Q ls st μ := ix_Ev.eq (a_X11_lies launch0) rfl ls st μ
theorem e_X11_lies_54 (Q : ix_R → Prop) (ls : ix_L) (st : List ix_V) (μ : ix_M) : ix_Ev o_X11_lies Q (54, ls, st, μ) = ix_push (vi 40) 56 (ix_Ev o_X11_lies Q) Q ls st μ := ix_Ev.eq (a_X11_lies launch0) rfl ls st μ
theorem e_X11_lies_56 (Q : ix_R → Prop) (ls : ix_L) (st : List ix_V) (μ : ix_M) : ix_Ev o_X11_lies Q (56, ls, st, μ) = ix_iload 1 57 (ix_Ev o_X11_lies Q) Q ls st μ := ix_Ev.eq (a_X11_lies launch0) rfl ls st μ
theorem e_X11_lies_57 (Q : ix_R → Prop) (ls : ix_L) (st : List ix_V) (μ : ix_M) : ix_Ev o_X11_lies Q (57, ls, st, μ) = ix_bin (fun x y => x * y) 58 (ix_Ev o_X11_lies Q) Q ls st μ := ix_Ev.eq (a_X11_lies launch0) rfl ls st μ
theorem e_X11_lies_58 (Q : ix_R → Prop) (ls : ix_L) (st : List ix_V) (μ : ix_M) : ix_Ev o_X11_lies Q (58, ls, st, μ) = ix_iload 2 59 (ix_Ev o_X11_lies Q) Q ls st μ := ix_Ev.eq (a_X11_lies launch0) rfl ls st μ
theorem e_X11_lies_59 (Q : ix_R → Prop) (ls : ix_L) (st : List ix_V) (μ : ix_M) : ix_Ev o_X11_lies Q (59, ls, st, μ) = ix_bin (fun x y => x + y) 60 (ix_Ev o_X11_lies Q) Q ls st μ := ix_Ev.eq (a_X11_lies launch0) rfl ls st μ
theorem e_X11_lies_60 (Q : ix_R → Prop) (ls : ix_L) (st : List ix_V) (μ : ix_M) : ix_Ev o_X11_lies Q (60, ls, st, μ) = ix_iald 61 (ix_Ev o_X11_lies Q) Q ls st μ := ix_Ev.eq (a_X11_lies launch0) rfl ls st μ
theorem e_X11_lies_61 (Q : ix_R → Prop) (ls : ix_L) (st : List ix_V) (μ : ix_M) : ix_Ev o_X11_lies Q (61, ls, st, μ) = oc_X11_isMost 64 (ix_Ev o_X11_lies Q) Q ls st μ := ix_Ev.eq (a_X11_lies launch0) rfl ls st μ
theorem e_X11_lies_64 (Q : ix_R → Prop) (ls : ix_L) (st : List ix_V) (μ : ix_M) : ix_Ev o_X11_lies Q (64, ls, st, μ) = ix_if (fun x => x = 0) 93 67 (ix_Ev o_X11_lies Q) Q ls st μ := ix_Ev.eq (a_X11_lies launch0) rfl ls st μ
theorem e_X11_lies_67 (Q : ix_R → Prop) (ls : ix_L) (st : List ix_V) (μ : ix_M) : ix_Ev o_X11_lies Q (67, ls, st, μ) = ix_aload 0 68 (ix_Ev o_X11_lies Q) Q ls st μ := ix_Ev.eq (a_X11_lies launch0) rfl ls st μ
theorem e_X11_lies_68 (Q : ix_R → Prop) (ls : ix_L) (st : List ix_V) (μ : ix_M) : ix_Ev o_X11_lies Q (68, ls, st, μ) = ix_getr 10 20 (fun _ => 113) 71 (ix_Ev o_X11_lies Q) Q ls st μ := ix_Ev.eq (a_X11_lies launch0) rfl ls st μ
theorem e_X11_lies_71 (Q : ix_R → Prop) (ls : ix_L) (st : List ix_V) (μ : ix_M) : ix_Ev o_X11_lies Q (71, ls, st, μ) = ix_push (vi 34) 73 (ix_Ev o_X11_lies Q) Q ls st μ := ix_Ev.eq (a_X11_lies launch0) rfl ls st μ
theorem e_X11_lies_73 (Q : ix_R → Prop) (ls : ix_L) (st : List ix_V) (μ : ix_M) : ix_Ev o_X11_lies Q (73, ls, st, μ) = ix_iload 2 74 (ix_Ev o_X11_lies Q) Q ls st μ := ix_Ev.eq (a_X11_lies launch0) rfl ls st μ
theorem e_X11_lies_74 (Q : ix_R → Prop) (ls : ix_L) (st : List ix_V) (μ : ix_M) : ix_Ev o_X11_lies Q (74, ls, st, μ) = ix_bin (fun x y => x + y) 75 (ix_Ev o_X11_lies Q) Q ls st μ := ix_Ev.eq (a_X11_lies launch0) rfl ls st μ
theorem e_X11_lies_75 (Q : ix_R → Prop) (ls : ix_L) (st : List ix_V) (μ : ix_M) : ix_Ev o_X11_lies Q (75, ls, st, μ) = ix_aload 0 76 (ix_Ev o_X11_lies Q) Q ls st μ := ix_Ev.eq (a_X11_lies launch0) rfl ls st μ
theorem e_X11_lies_76 (Q : ix_R → Prop) (ls : ix_L) (st : List ix_V) (μ : ix_M) : ix_Ev o_X11_lies Q (76, ls, st, μ) = ix_getr 10 20 (fun _ => 125) 79 (ix_Ev o_X11_lies Q) Q ls st μ := ix_Ev.eq (a_X11_lies launch0) rfl ls st μ
theorem e_X11_lies_79 (Q : ix_R → Prop) (ls : ix_L) (st : List ix_V) (μ : ix_M) : ix_Ev o_X11_lies Q (79, ls, st, μ) = ix_push (vi 40) 81 (ix_Ev o_X11_lies Q) Q ls st μ := ix_Ev.eq (a_X11_lies launch0) rfl ls st μ
theorem e_X11_lies_81 (Q : ix_R → Prop) (ls : ix_L) (st : List ix_V) (μ : ix_M) : ix_Ev o_X11_lies Q (81, ls, st, μ) = ix_iload 1 82 (ix_Ev o_X11_lies Q) Q ls st μ := ix_Ev.eq (a_X11_lies launch0) rfl ls st μ
theorem e_X11_lies_82 (Q : ix_R → Prop) (ls : ix_L) (st : List ix_V) (μ : ix_M) : ix_Ev o_X11_lies Q (82, ls, st, μ) = ix_bin (fun x y => x * y) 83 (ix_Ev o_X11_lies Q) Q ls st μ := ix_Ev.eq (a_X11_lies launch0) rfl ls st μ
theorem e_X11_lies_83 (Q : ix_R → Prop) (ls : ix_L) (st : List ix_V) (μ : ix_M) : ix_Ev o_X11_lies Q (83, ls, st, μ) = ix_iload 2 84 (ix_Ev o_X11_lies Q) Q ls st μ := ix_Ev.eq (a_X11_lies launch0) rfl ls st μ
theorem e_X11_lies_84 (Q : ix_R → Prop) (ls : ix_L) (st : List ix_V) (μ : ix_M) : ix_Ev o_X11_lies Q (84, ls, st, μ) = ix_bin (fun x y => x + y) 85 (ix_Ev o_X11_lies Q) Q ls st μ := ix_Ev.eq (a_X11_lies launch0) rfl ls st μ
theorem e_X11_lies_85 (Q : ix_R → Prop) (ls : ix_L) (st : List ix_V) (μ : ix_M) : ix_Ev o_X11_lies Q (85, ls, st, μ) = ix_iald 86 (ix_Ev o_X11_lies Q) Q ls st μ := ix_Ev.eq (a_X11_lies launch0) rfl ls st μ
theorem e_X11_lies_86 (Q : ix_R → Prop) (ls : ix_L) (st : List ix_V) (μ : ix_M) : ix_Ev o_X11_lies Q (86, ls, st, μ) = ix_iast 87 (ix_Ev o_X11_lies Q) Q ls st μ := ix_Ev.eq (a_X11_lies launch0) rfl ls st μ
theorem e_X11_lies_87 (Q : ix_R → Prop) (ls : ix_L) (st : List ix_V) (μ : ix_M) : ix_Ev o_X11_lies Q (87, ls, st, μ) = ix_iinc 2 1 90 (ix_Ev o_X11_lies Q) Q ls st μ := ix_Ev.eq (a_X11_lies launch0) rfl ls st μ
theorem e_X11_lies_90 (Q : ix_R → Prop) (ls : ix_L) (st : List ix_V) (μ : ix_M) : ix_Ev o_X11_lies Q (90, ls, st, μ) = ix_goto 33 (ix_Ev o_X11_lies Q) Q ls st μ := ix_Ev.eq (a_X11_lies launch0) rfl ls st μ
theorem e_X11_lies_93 (Q : ix_R → Prop) (ls : ix_L) (st : List ix_V) (μ : ix_M) : ix_Ev o_X11_lies Q (93, ls, st, μ) = ix_iload 2 94 (ix_Ev o_X11_lies Q) Q ls st μ := ix_Ev.eq (a_X11_lies launch0) rfl ls st μ
theorem e_X11_lies_94 (Q : ix_R → Prop) (ls : ix_L) (st : List ix_V) (μ : ix_M) : ix_Ev o_X11_lies Q (94, ls, st, μ) = ix_iret (ix_Ev o_X11_lies Q) Q ls st μ := ix_Ev.eq (a_X11_lies launch0) rfl ls st μ
def inM (x : Int32) : Prop := ¬ (x < 0 ∨ 99 < x)
theorem inM_iff (x : Int32) : (0 ≤ x ∧ x ≤ 99) ↔ inM x := by
  unfold inM
  constructor
  · rintro ⟨h1, h2⟩ (h | h)
    · exact absurd h (Int32.not_lt.mpr h1)
    · exact absurd h (Int32.not_lt.mpr h2)
  · intro h
    exact ⟨Int32.not_lt.mp (fun z => h (Or.inl z)), Int32.not_lt.mp (fun z => h (Or.inr z))⟩
theorem l_X10_lies {S n : Nat} {μ0 : ix_M} {Q : ix_R → Prop} {g : Nat → Int32} (hS : S < 4) (hn : n ≤ 40) (hs : μ0 (99 + (3 * S + 1)) 1 = nI n) (hg : g = μ0 (99 + (3 * S + 2))) (hQ : ∀ m μ', m ≤ 16 → m ≤ n → (∀ j, j < m → inM (g j)) → (m = 16 ∨ m = n ∨ ¬ inM (g m)) → Fx [4] μ0 μ' → (∀ j, μ' 4 j = if j < m then g j else μ0 4 j) → Q (some (vi (nI m)), μ')) : ∀ (k i : Nat) (μ : ix_M), i + k = 16 → i ≤ n → (∀ j, j < i → inM (g j)) → Fx [4] μ0 μ → (∀ j, μ 4 j = if j < i then g j else μ0 4 j) → ix_Ev o_X10_lies Q (44, [some (vr 9 0), some (vi (nI S)), some (vr 3 (99 + (3 * S + 1))), some (vi (nI i))], [], μ) := by
  intro k
  induction k with
  | zero =>
    intro i μ hi hin hj hF h4
    have hi : i = 16 := hi
    subst hi
    have c1 : 16 ≤ nI 16 := by decide
    rw [e_X10_lies_44]
    simp (decide := true) only [e_X10_lies_0, e_X10_lies_1, e_X10_lies_2, e_X10_lies_5, e_X10_lies_8, e_X10_lies_9, e_X10_lies_10, e_X10_lies_13, e_X10_lies_14, e_X10_lies_15, e_X10_lies_18, e_X10_lies_19, e_X10_lies_20, e_X10_lies_23, e_X10_lies_26, e_X10_lies_27, e_X10_lies_28, e_X10_lies_31, e_X10_lies_32, e_X10_lies_33, e_X10_lies_36, e_X10_lies_37, e_X10_lies_38, e_X10_lies_41, e_X10_lies_42, e_X10_lies_43, e_X10_lies_45, e_X10_lies_47, e_X10_lies_50, e_X10_lies_51, e_X10_lies_52, e_X10_lies_55, e_X10_lies_58, e_X10_lies_59, e_X10_lies_60, e_X10_lies_63, e_X10_lies_65, e_X10_lies_68, e_X10_lies_71, e_X10_lies_72, e_X10_lies_73, e_X10_lies_74, e_X10_lies_77, e_X10_lies_80, e_X10_lies_83, e_X10_lies_84, e_X10_lies_85, e_X10_lies_86, e_X10_lies_89, e_X10_lies_90, e_X10_lies_93, e_X10_lies_96, e_X10_lies_98, vi, vl, vr, oc_X10_error, T_X10_error, oc_X10_outside, T_X10_outside, oc_X4_get, T_X4_get, oc_X4_has, T_X4_has, oc_X5_isMissing, T_X5_isMissing, ix_push, ix_iload, ix_lload, ix_aload, ix_istore, ix_astore, ix_iinc, ix_bin, ix_div, ix_un, ix_i2l, ix_l2i, ix_lbin, ix_lsh, ix_lcmp, ix_dup, ix_dup2, ix_pop, ix_if, ix_cmp, ix_goto, ix_switch, ix_sw, ix_iret, ix_zret, ix_vret, ix_aret, ix_geti, ix_getr, ix_puti, ix_putz, ix_puts, ix_gets, ix_iald, ix_iast, ix_alen, ix_aald, ix_gval, ix_gcod, ix_bald, ix_blen, ix_sald, ix_nret, ix_math2, ix_math1, ix_acopy, Nat.add_assoc, Int32.reduceLT, Int32.reduceLE, Int32.reduceToNatClampNeg, Int32.reduceSub, Int32.reduceAdd, Nat.reduceAdd, Nat.reduceLeDiff, true_or, or_true, or_false, false_or, not_false_eq_true, not_true_eq_false, false_implies, true_implies, implies_true, and_self, mB_0, mB_01, Classical.not_not, Nat.zero_le, List.getElem?_cons_zero, List.getElem?_cons_succ, List.set_cons_zero, List.set_cons_succ, ix_nl, ix_cs, true_and, and_true, Option.toList_some, Option.toList_none, List.cons_append, List.nil_append, c1]
    exact hQ 16 μ (by decide) hin hj (Or.inl rfl) hF h4
  | succ k ih =>
    intro i μ hi hin hj hF h4
    have c1 : ¬ 16 ≤ nI i := nI_ge (a := i) (b := 16) (by omega) (by decide)
    have n1 : nI i + 1 = nI (i + 1) := nI_1 i
    have v1 : vp_in (nI i) (ix_len 4) := vp_in_nI (show i < 16 by omega) (by decide)
    have Ic : (nI i).toNatClampNeg = i := nI_clamp (by omega)
    have I0 : ¬ nI i < 0 := nI_pos (by omega)
    have hs' : μ (99 + (3 * S + 1)) 1 = nI n := by rw [hF _ (by simp)]; exact hs
    have hg' : μ (99 + (3 * S + 2)) = g := by rw [hF _ (by simp)]; exact hg.symm
    have rk : RowOk μ (99 + (3 * S + 1)) := rowOk hs' hn (shLen S hS) (by decide)
    rw [e_X10_lies_44]
    simp (decide := true) only [e_X10_lies_0, e_X10_lies_1, e_X10_lies_2, e_X10_lies_5, e_X10_lies_8, e_X10_lies_9, e_X10_lies_10, e_X10_lies_13, e_X10_lies_14, e_X10_lies_15, e_X10_lies_18, e_X10_lies_19, e_X10_lies_20, e_X10_lies_23, e_X10_lies_26, e_X10_lies_27, e_X10_lies_28, e_X10_lies_31, e_X10_lies_32, e_X10_lies_33, e_X10_lies_36, e_X10_lies_37, e_X10_lies_38, e_X10_lies_41, e_X10_lies_42, e_X10_lies_43, e_X10_lies_45, e_X10_lies_47, e_X10_lies_50, e_X10_lies_51, e_X10_lies_52, e_X10_lies_55, e_X10_lies_58, e_X10_lies_59, e_X10_lies_60, e_X10_lies_63, e_X10_lies_65, e_X10_lies_68, e_X10_lies_71, e_X10_lies_72, e_X10_lies_73, e_X10_lies_74, e_X10_lies_77, e_X10_lies_80, e_X10_lies_83, e_X10_lies_84, e_X10_lies_85, e_X10_lies_86, e_X10_lies_89, e_X10_lies_90, e_X10_lies_93, e_X10_lies_96, e_X10_lies_98, vi, vl, vr, oc_X10_error, T_X10_error, oc_X10_outside, T_X10_outside, oc_X4_get, T_X4_get, oc_X4_has, T_X4_has, oc_X5_isMissing, T_X5_isMissing, ix_push, ix_iload, ix_lload, ix_aload, ix_istore, ix_astore, ix_iinc, ix_bin, ix_div, ix_un, ix_i2l, ix_l2i, ix_lbin, ix_lsh, ix_lcmp, ix_dup, ix_dup2, ix_pop, ix_if, ix_cmp, ix_goto, ix_switch, ix_sw, ix_iret, ix_zret, ix_vret, ix_aret, ix_geti, ix_getr, ix_puti, ix_putz, ix_puts, ix_gets, ix_iald, ix_iast, ix_alen, ix_aald, ix_gval, ix_gcod, ix_bald, ix_blen, ix_sald, ix_nret, ix_math2, ix_math1, ix_acopy, Nat.add_assoc, Int32.reduceLT, Int32.reduceLE, Int32.reduceToNatClampNeg, Int32.reduceSub, Int32.reduceAdd, Nat.reduceAdd, Nat.reduceLeDiff, true_or, or_true, or_false, false_or, not_false_eq_true, not_true_eq_false, false_implies, true_implies, implies_true, and_self, mB_0, mB_01, Classical.not_not, Nat.zero_le, List.getElem?_cons_zero, List.getElem?_cons_succ, List.set_cons_zero, List.set_cons_succ, ix_nl, ix_cs, true_and, and_true, Option.toList_some, Option.toList_none, List.cons_append, List.nil_append, c1, n1, v1, Ic, I0, hs', hg', rk]
    trace_state
    sorry
theorem l_X11_lies {S n m : Nat} {μ0 : ix_M} {Q : ix_R → Prop} (hS : S < 4) (hn : n ≤ 40) (hs : μ0 124 S = nI n) (hm : m ≤ 16) (hm2 : m ≤ n) (hj : ∀ j, j < m → inM (μ0 125 (40 * S + j))) (hx : m = 16 ∨ m = n ∨ ¬ inM (μ0 125 (40 * S + m))) (hQ : ∀ μ', Fx [113] μ0 μ' → (∀ j, μ' 113 j = if 34 ≤ j ∧ j < 34 + m then μ0 125 (40 * S + (j - 34)) else μ0 113 j) → Q (some (vi (nI m)), μ')) : ∀ (k i : Nat) (μ : ix_M), i + k = m → Fx [113] μ0 μ → (∀ j, μ 113 j = if 34 ≤ j ∧ j < 34 + i then μ0 125 (40 * S + (j - 34)) else μ0 113 j) → ix_Ev o_X11_lies Q (33, [some (vr 10 112), some (vi (nI S)), some (vi (nI i))], [], μ) := by
  have Sc : (nI S).toNatClampNeg = S := nI_clamp (by omega)
  have v4 : vp_in (nI S) 4 := vp_in_nI hS (by decide)
  have e40 : (40 : Int32) * nI S = nI (40 * S) := (Int32.ofNat_mul 40 S).symm
  have e41 : ∀ i, i < 40 → nI (40 * S) + nI i = nI (40 * S + i) ∧ (nI (40 * S + i)).toNatClampNeg = 40 * S + i ∧ vp_in (nI (40 * S + i)) 160 := fun i hi => ⟨nI_add _ _, nI_clamp (by omega), vp_in_nI (by omega) (by decide)⟩
  intro k
  induction k with
  | zero =>
    intro i μ hi hF hr
    have hi : i = m := hi
    subst hi
    have hs' : μ 124 S = nI n := by rw [hF _ (by simp)]; exact hs
    have q3 : nI n ≤ nI i ↔ n ≤ i := nI_leI (by omega) (by omega)
    have q4 : (0 ≤ nI i ∧ nI i ≤ 15) ↔ i ≤ 15 := ⟨fun z => (nI_leI (b := 15) (by omega) (by decide)).mp z.2, fun z => ⟨nI_pos' (by omega), nI_le (b := 15) z (by decide)⟩⟩
    rw [e_X11_lies_33]
    simp (decide := true) only [e_X11_lies_0, e_X11_lies_1, e_X11_lies_4, e_X11_lies_7, e_X11_lies_8, e_X11_lies_10, e_X11_lies_13, e_X11_lies_14, e_X11_lies_15, e_X11_lies_18, e_X11_lies_19, e_X11_lies_20, e_X11_lies_23, e_X11_lies_24, e_X11_lies_27, e_X11_lies_30, e_X11_lies_31, e_X11_lies_32, e_X11_lies_34, e_X11_lies_35, e_X11_lies_38, e_X11_lies_39, e_X11_lies_40, e_X11_lies_43, e_X11_lies_44, e_X11_lies_47, e_X11_lies_50, e_X11_lies_51, e_X11_lies_54, e_X11_lies_56, e_X11_lies_57, e_X11_lies_58, e_X11_lies_59, e_X11_lies_60, e_X11_lies_61, e_X11_lies_64, e_X11_lies_67, e_X11_lies_68, e_X11_lies_71, e_X11_lies_73, e_X11_lies_74, e_X11_lies_75, e_X11_lies_76, e_X11_lies_79, e_X11_lies_81, e_X11_lies_82, e_X11_lies_83, e_X11_lies_84, e_X11_lies_85, e_X11_lies_86, e_X11_lies_87, e_X11_lies_90, e_X11_lies_93, e_X11_lies_94, vi, vl, vr, oc_X11_finding, T_X11_finding, oc_X11_isCell, T_X11_isCell, oc_X11_isMost, T_X11_isMost, oc_X11_isSheet, T_X11_isSheet, ix_push, ix_iload, ix_lload, ix_aload, ix_istore, ix_astore, ix_iinc, ix_bin, ix_div, ix_un, ix_i2l, ix_l2i, ix_lbin, ix_lsh, ix_lcmp, ix_dup, ix_dup2, ix_pop, ix_if, ix_cmp, ix_goto, ix_switch, ix_sw, ix_iret, ix_zret, ix_vret, ix_aret, ix_geti, ix_getr, ix_puti, ix_putz, ix_puts, ix_gets, ix_iald, ix_iast, ix_alen, ix_aald, ix_gval, ix_gcod, ix_bald, ix_blen, ix_sald, ix_nret, ix_math2, ix_math1, ix_acopy, ml_113, ml_114, ml_115, ml_116, ml_118, ml_119, ml_120, ml_121, ml_122, ml_123, ml_124, ml_125, ml_126, mv_0, mv_1, mv_2, mv_3, mv_4, mv_5, mB_or, Nat.add_assoc, Int32.reduceLT, Int32.reduceLE, Int32.reduceToNatClampNeg, Int32.reduceSub, Int32.reduceAdd, Nat.reduceAdd, Nat.reduceLeDiff, true_or, or_true, or_false, false_or, not_false_eq_true, not_true_eq_false, false_implies, true_implies, implies_true, and_self, mB_0, mB_01, Classical.not_not, Nat.zero_le, List.getElem?_cons_zero, List.getElem?_cons_succ, List.set_cons_zero, List.set_cons_succ, ix_nl, ix_cs, true_and, and_true, Option.toList_some, Option.toList_none, List.cons_append, List.nil_append, hs', Sc, v4, e40, q3, q4, inM_iff]
    trace_state
    sorry
  | succ k ih =>
    intro i μ hi hF hr
    have n1 : nI i + 1 = nI (i + 1) := nI_1 i
    have hs' : μ 124 S = nI n := by rw [hF _ (by simp)]; exact hs
    have q3 : ¬ nI n ≤ nI i := nI_ge (by omega) (by omega)
    have q4 : 0 ≤ nI i ∧ nI i ≤ 15 := ⟨nI_pos' (by omega), nI_le (b := 15) (by omega) (by decide)⟩
    have q6 := e41 i (by omega)
    have e125 : μ 125 = μ0 125 := hF 125 (by decide)
    have q7 := (inM_iff _).mpr (hj i (by omega))
    obtain ⟨y1, y2, y3⟩ := mix 34 i (by omega)
    have y1 : (34 : Int32) + nI i = nI (34 + i) := y1
    rw [e_X11_lies_33]
    simp (decide := true) only [e_X11_lies_0, e_X11_lies_1, e_X11_lies_4, e_X11_lies_7, e_X11_lies_8, e_X11_lies_10, e_X11_lies_13, e_X11_lies_14, e_X11_lies_15, e_X11_lies_18, e_X11_lies_19, e_X11_lies_20, e_X11_lies_23, e_X11_lies_24, e_X11_lies_27, e_X11_lies_30, e_X11_lies_31, e_X11_lies_32, e_X11_lies_34, e_X11_lies_35, e_X11_lies_38, e_X11_lies_39, e_X11_lies_40, e_X11_lies_43, e_X11_lies_44, e_X11_lies_47, e_X11_lies_50, e_X11_lies_51, e_X11_lies_54, e_X11_lies_56, e_X11_lies_57, e_X11_lies_58, e_X11_lies_59, e_X11_lies_60, e_X11_lies_61, e_X11_lies_64, e_X11_lies_67, e_X11_lies_68, e_X11_lies_71, e_X11_lies_73, e_X11_lies_74, e_X11_lies_75, e_X11_lies_76, e_X11_lies_79, e_X11_lies_81, e_X11_lies_82, e_X11_lies_83, e_X11_lies_84, e_X11_lies_85, e_X11_lies_86, e_X11_lies_87, e_X11_lies_90, e_X11_lies_93, e_X11_lies_94, vi, vl, vr, oc_X11_finding, T_X11_finding, oc_X11_isCell, T_X11_isCell, oc_X11_isMost, T_X11_isMost, oc_X11_isSheet, T_X11_isSheet, ix_push, ix_iload, ix_lload, ix_aload, ix_istore, ix_astore, ix_iinc, ix_bin, ix_div, ix_un, ix_i2l, ix_l2i, ix_lbin, ix_lsh, ix_lcmp, ix_dup, ix_dup2, ix_pop, ix_if, ix_cmp, ix_goto, ix_switch, ix_sw, ix_iret, ix_zret, ix_vret, ix_aret, ix_geti, ix_getr, ix_puti, ix_putz, ix_puts, ix_gets, ix_iald, ix_iast, ix_alen, ix_aald, ix_gval, ix_gcod, ix_bald, ix_blen, ix_sald, ix_nret, ix_math2, ix_math1, ix_acopy, ml_113, ml_114, ml_115, ml_116, ml_118, ml_119, ml_120, ml_121, ml_122, ml_123, ml_124, ml_125, ml_126, mv_0, mv_1, mv_2, mv_3, mv_4, mv_5, mB_or, Nat.add_assoc, Int32.reduceLT, Int32.reduceLE, Int32.reduceToNatClampNeg, Int32.reduceSub, Int32.reduceAdd, Nat.reduceAdd, Nat.reduceLeDiff, true_or, or_true, or_false, false_or, not_false_eq_true, not_true_eq_false, false_implies, true_implies, implies_true, and_self, mB_0, mB_01, Classical.not_not, Nat.zero_le, List.getElem?_cons_zero, List.getElem?_cons_succ, List.set_cons_zero, List.set_cons_succ, ix_nl, ix_cs, true_and, and_true, Option.toList_some, Option.toList_none, List.cons_append, List.nil_append, hs', Sc, v4, e40, q3, q4, q6, q7, n1, e125, y1, y2, y3]
    refine ih (i + 1) _ (by omega) (hF.up (by simp)) (fun j => ?_)
    rw [ix_up_ap]
    by_cases c : j = 34 + i
    · rw [if_pos ⟨rfl, c⟩, if_pos (by omega), c, show 34 + i - 34 = i by omega]
    · rw [if_neg (fun z => c z.2), hr j]
      by_cases c2 : 34 ≤ j ∧ j < 34 + i
      · rw [if_pos c2, if_pos (by omega)]
      · rw [if_neg c2, if_neg (by omega)]
