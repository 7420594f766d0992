/-! ===== calls, class against model: loose ===== -/
def o_X10_loose : List (Nat × ix_Op) := [
  (0, ix_iload 1 1),
  (1, ix_push (vi 1) 2),
  (2, ix_cmp (fun x y => x < y) 11 5),
  (5, ix_iload 1 6),
  (6, ix_push (vi 40) 8),
  (8, ix_cmp (fun x y => x ≤ y) 17 11),
  (11, ix_aload 0 12),
  (12, ix_push (vi 1) 13),
  (13, oc_X10_error 16),
  (16, ix_iret),
  (17, ix_aload 0 18),
  (18, ix_getr 9 5 (fun _ => 1) 21),
  (21, ix_getr 5 8 (fun k => k + 1) 24),
  (24, ix_astore 2 25),
  (25, ix_aload 2 26),
  (26, ix_geti 8 8 29),
  (29, ix_iload 1 30),
  (30, ix_bin (fun x y => x + y) 31),
  (31, ix_push (vi 9999) 34),
  (34, ix_cmp (fun x y => x ≤ y) 43 37),
  (37, ix_aload 0 38),
  (38, ix_push (vi 3) 39),
  (39, oc_X10_error 42),
  (42, ix_iret),
  (43, ix_push (vi 0) 44),
  (44, ix_istore 3 45),
  (45, ix_iload 3 46),
  (46, ix_iload 1 47),
  (47, ix_cmp (fun x y => y ≤ x) 103 50),
  (50, ix_aload 2 51),
  (51, ix_getr 8 20 (fun k => k + 3) 54),
  (54, ix_aload 2 55),
  (55, oc_X9_place 58),
  (58, ix_aload 0 59),
  (59, ix_getr 9 5 (fun _ => 1) 62),
  (62, oc_X6_draw 65),
  (65, ix_push (vi 5) 66),
  (66, ix_div (fun x y => x - x / y * y) 67),
  (67, ix_iast 68),
  (68, ix_aload 2 69),
  (69, ix_getr 8 20 (fun k => k + 2) 72),
  (72, ix_aload 0 73),
  (73, ix_getr 9 5 (fun _ => 1) 76),
  (76, oc_X6_draw 79),
  (79, ix_push (vi 16) 81),
  (81, ix_div (fun x y => x - x / y * y) 82),
  (82, ix_push (vi 0) 83),
  (83, ix_iast 84),
  (84, ix_aload 2 85),
  (85, ix_aload 0 86),
  (86, ix_getr 9 5 (fun _ => 1) 89),
  (89, ix_getr 5 0 (fun k => k + 9) 92),
  (92, ix_push (vi (-1)) 93),
  (93, ix_push (vi 0) 94),
  (94, oc_X9_pass 97),
  (97, ix_iinc 3 1 100),
  (100, ix_goto 45),
  (103, ix_aload 2 104),
  (104, oc_X9_had 107),
  (107, ix_iret)]
set_option maxRecDepth 20000 in
theorem a_X10_loose (l : Launch) : ix_AllS l cX10_loose 4 RX10 60 (some .int) o_X10_loose :=
  .cons (ix_s_iload_n dX10_loose_0 rfl) <|
  .cons (ix_s_iconst dX10_loose_1 (by decide +kernel)) <|
  .cons (ix_s_cmp_lt dX10_loose_2 (by decide)) <|
  .cons (ix_s_iload_n dX10_loose_5 rfl) <|
  .cons (ix_s_bipush dX10_loose_6 (by decide +kernel)) <|
  .cons (ix_s_cmp_le dX10_loose_8 (by decide)) <|
  .cons (ix_s_aload_n dX10_loose_11 rfl) <|
  .cons (ix_s_iconst dX10_loose_12 (by decide +kernel)) <|
  .cons (oc_X10_error_s (ix_s_callv (t := 9) (k_X10_error l) (by decide) (by decide) tw_295 tw_1 tw_292 tw_294 tp_0 ⟨by decide, by decide, by decide +kernel⟩ (by decide) rfl rfl (fun _ => ⟨_, _, rfl, rfl⟩) dX10_loose_13)) <|
  .cons (ix_s_iret dX10_loose_16 rfl) <|
  .cons (ix_s_aload_n dX10_loose_17 rfl) <|
  .cons (ix_s_getr (j := 0) tu_X10 rfl (by decide) (by decide) tw_251 rfl ts_9_0_r dX10_loose_18) <|
  .cons (ix_s_getr (j := 0) tu_X6 rfl (by decide) (by decide) tw_138 rfl ts_5_0_r dX10_loose_21) <|
  .cons (ix_s_astore_n dX10_loose_24 rfl (by decide)) <|
  .cons (ix_s_aload_n dX10_loose_25 rfl) <|
  .cons (ix_s_geti (j := 8) tu_X9 rfl (by decide) (by decide) tw_59 rfl ts_8_8_i dX10_loose_26) <|
  .cons (ix_s_iload_n dX10_loose_29 rfl) <|
  .cons (ix_s_iadd dX10_loose_30) <|
  .cons (ix_s_sipush dX10_loose_31 (by decide +kernel)) <|
  .cons (ix_s_cmp_le dX10_loose_34 (by decide)) <|
  .cons (ix_s_aload_n dX10_loose_37 rfl) <|
  .cons (ix_s_iconst dX10_loose_38 (by decide +kernel)) <|
  .cons (oc_X10_error_s (ix_s_callv (t := 9) (k_X10_error l) (by decide) (by decide) tw_295 tw_1 tw_292 tw_294 tp_0 ⟨by decide, by decide, by decide +kernel⟩ (by decide) rfl rfl (fun _ => ⟨_, _, rfl, rfl⟩) dX10_loose_39)) <|
  .cons (ix_s_iret dX10_loose_42 rfl) <|
  .cons (ix_s_iconst dX10_loose_43 (by decide +kernel)) <|
  .cons (ix_s_istore_n dX10_loose_44 rfl (by decide)) <|
  .cons (ix_s_iload_n dX10_loose_45 rfl) <|
  .cons (ix_s_iload_n dX10_loose_46 rfl) <|
  .cons (ix_s_cmp_ge dX10_loose_47 (by decide)) <|
  .cons (ix_s_aload_n dX10_loose_50 rfl) <|
  .cons (ix_s_getr (j := 2) tu_X9 rfl (by decide) (by decide) tw_45 rfl ts_8_2_r dX10_loose_51) <|
  .cons (ix_s_aload_n dX10_loose_54 rfl) <|
  .cons (oc_X9_place_s (ix_s_callv (t := 8) (k_X9_place l) (by decide) (by decide) tw_384 tw_3 tw_625 tw_382 tw_383 ⟨by decide, by decide, by decide +kernel⟩ (by decide) rfl rfl (fun _ => ⟨_, _, rfl, rfl⟩) dX10_loose_55)) <|
  .cons (ix_s_aload_n dX10_loose_58 rfl) <|
  .cons (ix_s_getr (j := 0) tu_X10 rfl (by decide) (by decide) tw_251 rfl ts_9_0_r dX10_loose_59) <|
  .cons (oc_X6_draw_s (ix_s_callv (t := 5) (k_X6_draw l) (by decide) (by decide) tw_629 tw_2 tw_626 tw_627 tw_628 ⟨by decide, by decide, by decide +kernel⟩ (by decide) rfl rfl (fun _ => ⟨_, _, rfl, rfl⟩) dX10_loose_62)) <|
  .cons (ix_s_iconst dX10_loose_65 (by decide +kernel)) <|
  .cons (ix_s_irem dX10_loose_66) <|
  .cons (ix_s_iast dX10_loose_67) <|
  .cons (ix_s_aload_n dX10_loose_68 rfl) <|
  .cons (ix_s_getr (j := 1) tu_X9 rfl (by decide) (by decide) tw_43 rfl ts_8_1_r dX10_loose_69) <|
  .cons (ix_s_aload_n dX10_loose_72 rfl) <|
  .cons (ix_s_getr (j := 0) tu_X10 rfl (by decide) (by decide) tw_251 rfl ts_9_0_r dX10_loose_73) <|
  .cons (oc_X6_draw_s (ix_s_callv (t := 5) (k_X6_draw l) (by decide) (by decide) tw_629 tw_2 tw_626 tw_627 tw_628 ⟨by decide, by decide, by decide +kernel⟩ (by decide) rfl rfl (fun _ => ⟨_, _, rfl, rfl⟩) dX10_loose_76)) <|
  .cons (ix_s_bipush dX10_loose_79 (by decide +kernel)) <|
  .cons (ix_s_irem dX10_loose_81) <|
  .cons (ix_s_iconst dX10_loose_82 (by decide +kernel)) <|
  .cons (ix_s_iast dX10_loose_83) <|
  .cons (ix_s_aload_n dX10_loose_84 rfl) <|
  .cons (ix_s_aload_n dX10_loose_85 rfl) <|
  .cons (ix_s_getr (j := 0) tu_X10 rfl (by decide) (by decide) tw_251 rfl ts_9_0_r dX10_loose_86) <|
  .cons (ix_s_getr (j := 1) tu_X6 rfl (by decide) (by decide) tw_140 rfl ts_5_1_r dX10_loose_89) <|
  .cons (ix_s_iconst dX10_loose_92 (by decide +kernel)) <|
  .cons (ix_s_iconst dX10_loose_93 (by decide +kernel)) <|
  .cons (oc_X9_pass_s (ix_s_callv (t := 8) (k_X9_pass l) (by decide) (by decide) tw_599 tw_3 tw_596 tw_597 tw_598 ⟨by decide, by decide, by decide +kernel⟩ (by decide) rfl rfl (fun _ => ⟨_, _, rfl, rfl⟩) dX10_loose_94)) <|
  .cons (ix_s_iinc dX10_loose_97 (by decide +kernel) (by decide)) <|
  .cons (ix_s_goto dX10_loose_100 (by decide)) <|
  .cons (ix_s_aload_n dX10_loose_103 rfl) <|
  .cons (oc_X9_had_s (ix_s_callv (t := 8) (k_X9_had l) (by decide) (by decide) tw_617 tw_3 tw_614 tw_615 tw_616 ⟨by decide, by decide, by decide +kernel⟩ (by decide) rfl rfl (fun _ => ⟨_, _, rfl, rfl⟩) dX10_loose_104)) <|
  .cons (ix_s_iret dX10_loose_107 rfl) <| .nil
theorem e_X10_loose_0 (Q : ix_R → Prop) (ls : ix_L) (st : List ix_V) (μ : ix_M) : ix_Ev o_X10_loose Q (0, ls, st, μ) = ix_iload 1 1 (ix_Ev o_X10_loose Q) Q ls st μ := ix_Ev.eq (a_X10_loose launch0) rfl ls st μ
theorem e_X10_loose_1 (Q : ix_R → Prop) (ls : ix_L) (st : List ix_V) (μ : ix_M) : ix_Ev o_X10_loose Q (1, ls, st, μ) = ix_push (vi 1) 2 (ix_Ev o_X10_loose Q) Q ls st μ := ix_Ev.eq (a_X10_loose launch0) rfl ls st μ
theorem e_X10_loose_2 (Q : ix_R → Prop) (ls : ix_L) (st : List ix_V) (μ : ix_M) : ix_Ev o_X10_loose Q (2, ls, st, μ) = ix_cmp (fun x y => x < y) 11 5 (ix_Ev o_X10_loose Q) Q ls st μ := ix_Ev.eq (a_X10_loose launch0) rfl ls st μ
theorem e_X10_loose_5 (Q : ix_R → Prop) (ls : ix_L) (st : List ix_V) (μ : ix_M) : ix_Ev o_X10_loose Q (5, ls, st, μ) = ix_iload 1 6 (ix_Ev o_X10_loose Q) Q ls st μ := ix_Ev.eq (a_X10_loose launch0) rfl ls st μ
theorem e_X10_loose_6 (Q : ix_R → Prop) (ls : ix_L) (st : List ix_V) (μ : ix_M) : ix_Ev o_X10_loose Q (6, ls, st, μ) = ix_push (vi 40) 8 (ix_Ev o_X10_loose Q) Q ls st μ := ix_Ev.eq (a_X10_loose launch0) rfl ls st μ
theorem e_X10_loose_8 (Q : ix_R → Prop) (ls : ix_L) (st : List ix_V) (μ : ix_M) : ix_Ev o_X10_loose Q (8, ls, st, μ) = ix_cmp (fun x y => x ≤ y) 17 11 (ix_Ev o_X10_loose Q) Q ls st μ := ix_Ev.eq (a_X10_loose launch0) rfl ls st μ
theorem e_X10_loose_11 (Q : ix_R → Prop) (ls : ix_L) (st : List ix_V) (μ : ix_M) : ix_Ev o_X10_loose Q (11, ls, st, μ) = ix_aload 0 12 (ix_Ev o_X10_loose Q) Q ls st μ := ix_Ev.eq (a_X10_loose launch0) rfl ls st μ
theorem e_X10_loose_12 (Q : ix_R → Prop) (ls : ix_L) (st : List ix_V) (μ : ix_M) : ix_Ev o_X10_loose Q (12, ls, st, μ) = ix_push (vi 1) 13 (ix_Ev o_X10_loose Q) Q ls st μ := ix_Ev.eq (a_X10_loose launch0) rfl ls st μ
theorem e_X10_loose_13 (Q : ix_R → Prop) (ls : ix_L) (st : List ix_V) (μ : ix_M) : ix_Ev o_X10_loose Q (13, ls, st, μ) = oc_X10_error 16 (ix_Ev o_X10_loose Q) Q ls st μ := ix_Ev.eq (a_X10_loose launch0) rfl ls st μ
theorem e_X10_loose_16 (Q : ix_R → Prop) (ls : ix_L) (st : List ix_V) (μ : ix_M) : ix_Ev o_X10_loose Q (16, ls, st, μ) = ix_iret (ix_Ev o_X10_loose Q) Q ls st μ := ix_Ev.eq (a_X10_loose launch0) rfl ls st μ
theorem e_X10_loose_17 (Q : ix_R → Prop) (ls : ix_L) (st : List ix_V) (μ : ix_M) : ix_Ev o_X10_loose Q (17, ls, st, μ) = ix_aload 0 18 (ix_Ev o_X10_loose Q) Q ls st μ := ix_Ev.eq (a_X10_loose launch0) rfl ls st μ
theorem e_X10_loose_18 (Q : ix_R → Prop) (ls : ix_L) (st : List ix_V) (μ : ix_M) : ix_Ev o_X10_loose Q (18, ls, st, μ) = ix_getr 9 5 (fun _ => 1) 21 (ix_Ev o_X10_loose Q) Q ls st μ := ix_Ev.eq (a_X10_loose launch0) rfl ls st μ
theorem e_X10_loose_21 (Q : ix_R → Prop) (ls : ix_L) (st : List ix_V) (μ : ix_M) : ix_Ev o_X10_loose Q (21, ls, st, μ) = ix_getr 5 8 (fun k => k + 1) 24 (ix_Ev o_X10_loose Q) Q ls st μ := ix_Ev.eq (a_X10_loose launch0) rfl ls st μ
theorem e_X10_loose_24 (Q : ix_R → Prop) (ls : ix_L) (st : List ix_V) (μ : ix_M) : ix_Ev o_X10_loose Q (24, ls, st, μ) = ix_astore 2 25 (ix_Ev o_X10_loose Q) Q ls st μ := ix_Ev.eq (a_X10_loose launch0) rfl ls st μ
theorem e_X10_loose_25 (Q : ix_R → Prop) (ls : ix_L) (st : List ix_V) (μ : ix_M) : ix_Ev o_X10_loose Q (25, ls, st, μ) = ix_aload 2 26 (ix_Ev o_X10_loose Q) Q ls st μ := ix_Ev.eq (a_X10_loose launch0) rfl ls st μ
theorem e_X10_loose_26 (Q : ix_R → Prop) (ls : ix_L) (st : List ix_V) (μ : ix_M) : ix_Ev o_X10_loose Q (26, ls, st, μ) = ix_geti 8 8 29 (ix_Ev o_X10_loose Q) Q ls st μ := ix_Ev.eq (a_X10_loose launch0) rfl ls st μ
theorem e_X10_loose_29 (Q : ix_R → Prop) (ls : ix_L) (st : List ix_V) (μ : ix_M) : ix_Ev o_X10_loose Q (29, ls, st, μ) = ix_iload 1 30 (ix_Ev o_X10_loose Q) Q ls st μ := ix_Ev.eq (a_X10_loose launch0) rfl ls st μ
theorem e_X10_loose_30 (Q : ix_R → Prop) (ls : ix_L) (st : List ix_V) (μ : ix_M) : ix_Ev o_X10_loose Q (30, ls, st, μ) = ix_bin (fun x y => x + y) 31 (ix_Ev o_X10_loose Q) Q ls st μ := ix_Ev.eq (a_X10_loose launch0) rfl ls st μ
theorem e_X10_loose_31 (Q : ix_R → Prop) (ls : ix_L) (st : List ix_V) (μ : ix_M) : ix_Ev o_X10_loose Q (31, ls, st, μ) = ix_push (vi 9999) 34 (ix_Ev o_X10_loose Q) Q ls st μ := ix_Ev.eq (a_X10_loose launch0) rfl ls st μ
theorem e_X10_loose_34 (Q : ix_R → Prop) (ls : ix_L) (st : List ix_V) (μ : ix_M) : ix_Ev o_X10_loose Q (34, ls, st, μ) = ix_cmp (fun x y => x ≤ y) 43 37 (ix_Ev o_X10_loose Q) Q ls st μ := ix_Ev.eq (a_X10_loose launch0) rfl ls st μ
theorem e_X10_loose_37 (Q : ix_R → Prop) (ls : ix_L) (st : List ix_V) (μ : ix_M) : ix_Ev o_X10_loose Q (37, ls, st, μ) = ix_aload 0 38 (ix_Ev o_X10_loose Q) Q ls st μ := ix_Ev.eq (a_X10_loose launch0) rfl ls st μ
theorem e_X10_loose_38 (Q : ix_R → Prop) (ls : ix_L) (st : List ix_V) (μ : ix_M) : ix_Ev o_X10_loose Q (38, ls, st, μ) = ix_push (vi 3) 39 (ix_Ev o_X10_loose Q) Q ls st μ := ix_Ev.eq (a_X10_loose launch0) rfl ls st μ
theorem e_X10_loose_39 (Q : ix_R → Prop) (ls : ix_L) (st : List ix_V) (μ : ix_M) : ix_Ev o_X10_loose Q (39, ls, st, μ) = oc_X10_error 42 (ix_Ev o_X10_loose Q) Q ls st μ := ix_Ev.eq (a_X10_loose launch0) rfl ls st μ
theorem e_X10_loose_42 (Q : ix_R → Prop) (ls : ix_L) (st : List ix_V) (μ : ix_M) : ix_Ev o_X10_loose Q (42, ls, st, μ) = ix_iret (ix_Ev o_X10_loose Q) Q ls st μ := ix_Ev.eq (a_X10_loose launch0) rfl ls st μ
theorem e_X10_loose_43 (Q : ix_R → Prop) (ls : ix_L) (st : List ix_V) (μ : ix_M) : ix_Ev o_X10_loose Q (43, ls, st, μ) = ix_push (vi 0) 44 (ix_Ev o_X10_loose Q) Q ls st μ := ix_Ev.eq (a_X10_loose launch0) rfl ls st μ
theorem e_X10_loose_44 (Q : ix_R → Prop) (ls : ix_L) (st : List ix_V) (μ : ix_M) : ix_Ev o_X10_loose Q (44, ls, st, μ) = ix_istore 3 45 (ix_Ev o_X10_loose Q) Q ls st μ := ix_Ev.eq (a_X10_loose launch0) rfl ls st μ
theorem e_X10_loose_45 (Q : ix_R → Prop) (ls : ix_L) (st : List ix_V) (μ : ix_M) : ix_Ev o_X10_loose Q (45, ls, st, μ) = ix_iload 3 46 (ix_Ev o_X10_loose Q) Q ls st μ := ix_Ev.eq (a_X10_loose launch0) rfl ls st μ
theorem e_X10_loose_46 (Q : ix_R → Prop) (ls : ix_L) (st : List ix_V) (μ : ix_M) : ix_Ev o_X10_loose Q (46, ls, st, μ) = ix_iload 1 47 (ix_Ev o_X10_loose Q) Q ls st μ := ix_Ev.eq (a_X10_loose launch0) rfl ls st μ
theorem e_X10_loose_47 (Q : ix_R → Prop) (ls : ix_L) (st : List ix_V) (μ : ix_M) : ix_Ev o_X10_loose Q (47, ls, st, μ) = ix_cmp (fun x y => y ≤ x) 103 50 (ix_Ev o_X10_loose Q) Q ls st μ := ix_Ev.eq (a_X10_loose launch0) rfl ls st μ
theorem e_X10_loose_50 (Q : ix_R → Prop) (ls : ix_L) (st : List ix_V) (μ : ix_M) : ix_Ev o_X10_loose Q (50, ls, st, μ) = ix_aload 2 51 (ix_Ev o_X10_loose Q) Q ls st μ := ix_Ev.eq (a_X10_loose launch0) rfl ls st μ
theorem e_X10_loose_51 (Q : ix_R → Prop) (ls : ix_L) (st : List ix_V) (μ : ix_M) : ix_Ev o_X10_loose Q (51, ls, st, μ) = ix_getr 8 20 (fun k => k + 3) 54 (ix_Ev o_X10_loose Q) Q ls st μ := ix_Ev.eq (a_X10_loose launch0) rfl ls st μ
theorem e_X10_loose_54 (Q : ix_R → Prop) (ls : ix_L) (st : List ix_V) (μ : ix_M) : ix_Ev o_X10_loose Q (54, ls, st, μ) = ix_aload 2 55 (ix_Ev o_X10_loose Q) Q ls st μ := ix_Ev.eq (a_X10_loose launch0) rfl ls st μ
theorem e_X10_loose_55 (Q : ix_R → Prop) (ls : ix_L) (st : List ix_V) (μ : ix_M) : ix_Ev o_X10_loose Q (55, ls, st, μ) = oc_X9_place 58 (ix_Ev o_X10_loose Q) Q ls st μ := ix_Ev.eq (a_X10_loose launch0) rfl ls st μ
theorem e_X10_loose_58 (Q : ix_R → Prop) (ls : ix_L) (st : List ix_V) (μ : ix_M) : ix_Ev o_X10_loose Q (58, ls, st, μ) = ix_aload 0 59 (ix_Ev o_X10_loose Q) Q ls st μ := ix_Ev.eq (a_X10_loose launch0) rfl ls st μ
theorem e_X10_loose_59 (Q : ix_R → Prop) (ls : ix_L) (st : List ix_V) (μ : ix_M) : ix_Ev o_X10_loose Q (59, ls, st, μ) = ix_getr 9 5 (fun _ => 1) 62 (ix_Ev o_X10_loose Q) Q ls st μ := ix_Ev.eq (a_X10_loose launch0) rfl ls st μ
theorem e_X10_loose_62 (Q : ix_R → Prop) (ls : ix_L) (st : List ix_V) (μ : ix_M) : ix_Ev o_X10_loose Q (62, ls, st, μ) = oc_X6_draw 65 (ix_Ev o_X10_loose Q) Q ls st μ := ix_Ev.eq (a_X10_loose launch0) rfl ls st μ
theorem e_X10_loose_65 (Q : ix_R → Prop) (ls : ix_L) (st : List ix_V) (μ : ix_M) : ix_Ev o_X10_loose Q (65, ls, st, μ) = ix_push (vi 5) 66 (ix_Ev o_X10_loose Q) Q ls st μ := ix_Ev.eq (a_X10_loose launch0) rfl ls st μ
theorem e_X10_loose_66 (Q : ix_R → Prop) (ls : ix_L) (st : List ix_V) (μ : ix_M) : ix_Ev o_X10_loose Q (66, ls, st, μ) = ix_div (fun x y => x - x / y * y) 67 (ix_Ev o_X10_loose Q) Q ls st μ := ix_Ev.eq (a_X10_loose launch0) rfl ls st μ
theorem e_X10_loose_67 (Q : ix_R → Prop) (ls : ix_L) (st : List ix_V) (μ : ix_M) : ix_Ev o_X10_loose Q (67, ls, st, μ) = ix_iast 68 (ix_Ev o_X10_loose Q) Q ls st μ := ix_Ev.eq (a_X10_loose launch0) rfl ls st μ
theorem e_X10_loose_68 (Q : ix_R → Prop) (ls : ix_L) (st : List ix_V) (μ : ix_M) : ix_Ev o_X10_loose Q (68, ls, st, μ) = ix_aload 2 69 (ix_Ev o_X10_loose Q) Q ls st μ := ix_Ev.eq (a_X10_loose launch0) rfl ls st μ
theorem e_X10_loose_69 (Q : ix_R → Prop) (ls : ix_L) (st : List ix_V) (μ : ix_M) : ix_Ev o_X10_loose Q (69, ls, st, μ) = ix_getr 8 20 (fun k => k + 2) 72 (ix_Ev o_X10_loose Q) Q ls st μ := ix_Ev.eq (a_X10_loose launch0) rfl ls st μ
theorem e_X10_loose_72 (Q : ix_R → Prop) (ls : ix_L) (st : List ix_V) (μ : ix_M) : ix_Ev o_X10_loose Q (72, ls, st, μ) = ix_aload 0 73 (ix_Ev o_X10_loose Q) Q ls st μ := ix_Ev.eq (a_X10_loose launch0) rfl ls st μ
theorem e_X10_loose_73 (Q : ix_R → Prop) (ls : ix_L) (st : List ix_V) (μ : ix_M) : ix_Ev o_X10_loose Q (73, ls, st, μ) = ix_getr 9 5 (fun _ => 1) 76 (ix_Ev o_X10_loose Q) Q ls st μ := ix_Ev.eq (a_X10_loose launch0) rfl ls st μ
theorem e_X10_loose_76 (Q : ix_R → Prop) (ls : ix_L) (st : List ix_V) (μ : ix_M) : ix_Ev o_X10_loose Q (76, ls, st, μ) = oc_X6_draw 79 (ix_Ev o_X10_loose Q) Q ls st μ := ix_Ev.eq (a_X10_loose launch0) rfl ls st μ
theorem e_X10_loose_79 (Q : ix_R → Prop) (ls : ix_L) (st : List ix_V) (μ : ix_M) : ix_Ev o_X10_loose Q (79, ls, st, μ) = ix_push (vi 16) 81 (ix_Ev o_X10_loose Q) Q ls st μ := ix_Ev.eq (a_X10_loose launch0) rfl ls st μ
theorem e_X10_loose_81 (Q : ix_R → Prop) (ls : ix_L) (st : List ix_V) (μ : ix_M) : ix_Ev o_X10_loose Q (81, ls, st, μ) = ix_div (fun x y => x - x / y * y) 82 (ix_Ev o_X10_loose Q) Q ls st μ := ix_Ev.eq (a_X10_loose launch0) rfl ls st μ
theorem e_X10_loose_82 (Q : ix_R → Prop) (ls : ix_L) (st : List ix_V) (μ : ix_M) : ix_Ev o_X10_loose Q (82, ls, st, μ) = ix_push (vi 0) 83 (ix_Ev o_X10_loose Q) Q ls st μ := ix_Ev.eq (a_X10_loose launch0) rfl ls st μ
theorem e_X10_loose_83 (Q : ix_R → Prop) (ls : ix_L) (st : List ix_V) (μ : ix_M) : ix_Ev o_X10_loose Q (83, ls, st, μ) = ix_iast 84 (ix_Ev o_X10_loose Q) Q ls st μ := ix_Ev.eq (a_X10_loose launch0) rfl ls st μ
theorem e_X10_loose_84 (Q : ix_R → Prop) (ls : ix_L) (st : List ix_V) (μ : ix_M) : ix_Ev o_X10_loose Q (84, ls, st, μ) = ix_aload 2 85 (ix_Ev o_X10_loose Q) Q ls st μ := ix_Ev.eq (a_X10_loose launch0) rfl ls st μ
theorem e_X10_loose_85 (Q : ix_R → Prop) (ls : ix_L) (st : List ix_V) (μ : ix_M) : ix_Ev o_X10_loose Q (85, ls, st, μ) = ix_aload 0 86 (ix_Ev o_X10_loose Q) Q ls st μ := ix_Ev.eq (a_X10_loose launch0) rfl ls st μ
theorem e_X10_loose_86 (Q : ix_R → Prop) (ls : ix_L) (st : List ix_V) (μ : ix_M) : ix_Ev o_X10_loose Q (86, ls, st, μ) = ix_getr 9 5 (fun _ => 1) 89 (ix_Ev o_X10_loose Q) Q ls st μ := ix_Ev.eq (a_X10_loose launch0) rfl ls st μ
theorem e_X10_loose_89 (Q : ix_R → Prop) (ls : ix_L) (st : List ix_V) (μ : ix_M) : ix_Ev o_X10_loose Q (89, ls, st, μ) = ix_getr 5 0 (fun k => k + 9) 92 (ix_Ev o_X10_loose Q) Q ls st μ := ix_Ev.eq (a_X10_loose launch0) rfl ls st μ
theorem e_X10_loose_92 (Q : ix_R → Prop) (ls : ix_L) (st : List ix_V) (μ : ix_M) : ix_Ev o_X10_loose Q (92, ls, st, μ) = ix_push (vi (-1)) 93 (ix_Ev o_X10_loose Q) Q ls st μ := ix_Ev.eq (a_X10_loose launch0) rfl ls st μ
theorem e_X10_loose_93 (Q : ix_R → Prop) (ls : ix_L) (st : List ix_V) (μ : ix_M) : ix_Ev o_X10_loose Q (93, ls, st, μ) = ix_push (vi 0) 94 (ix_Ev o_X10_loose Q) Q ls st μ := ix_Ev.eq (a_X10_loose launch0) rfl ls st μ
theorem e_X10_loose_94 (Q : ix_R → Prop) (ls : ix_L) (st : List ix_V) (μ : ix_M) : ix_Ev o_X10_loose Q (94, ls, st, μ) = oc_X9_pass 97 (ix_Ev o_X10_loose Q) Q ls st μ := ix_Ev.eq (a_X10_loose launch0) rfl ls st μ
theorem e_X10_loose_97 (Q : ix_R → Prop) (ls : ix_L) (st : List ix_V) (μ : ix_M) : ix_Ev o_X10_loose Q (97, ls, st, μ) = ix_iinc 3 1 100 (ix_Ev o_X10_loose Q) Q ls st μ := ix_Ev.eq (a_X10_loose launch0) rfl ls st μ
theorem e_X10_loose_100 (Q : ix_R → Prop) (ls : ix_L) (st : List ix_V) (μ : ix_M) : ix_Ev o_X10_loose Q (100, ls, st, μ) = ix_goto 45 (ix_Ev o_X10_loose Q) Q ls st μ := ix_Ev.eq (a_X10_loose launch0) rfl ls st μ
theorem e_X10_loose_103 (Q : ix_R → Prop) (ls : ix_L) (st : List ix_V) (μ : ix_M) : ix_Ev o_X10_loose Q (103, ls, st, μ) = ix_aload 2 104 (ix_Ev o_X10_loose Q) Q ls st μ := ix_Ev.eq (a_X10_loose launch0) rfl ls st μ
theorem e_X10_loose_104 (Q : ix_R → Prop) (ls : ix_L) (st : List ix_V) (μ : ix_M) : ix_Ev o_X10_loose Q (104, ls, st, μ) = oc_X9_had 107 (ix_Ev o_X10_loose Q) Q ls st μ := ix_Ev.eq (a_X10_loose launch0) rfl ls st μ
theorem e_X10_loose_107 (Q : ix_R → Prop) (ls : ix_L) (st : List ix_V) (μ : ix_M) : ix_Ev o_X10_loose Q (107, ls, st, μ) = ix_iret (ix_Ev o_X10_loose Q) Q ls st μ := ix_Ev.eq (a_X10_loose launch0) rfl ls st μ
def o_X11_loose : List (Nat × ix_Op) := [
  (0, ix_iload 1 1),
  (1, ix_push (vi 1) 2),
  (2, ix_push (vi 40) 4),
  (4, oc_X11_within 7),
  (7, ix_if (fun x => x = 0) 10 17),
  (10, ix_aload 0 11),
  (11, ix_push (vi (-1000000001)) 13),
  (13, oc_X11_finding 16),
  (16, ix_iret),
  (17, ix_aload 0 18),
  (18, ix_getr 10 20 (fun _ => 113) 21),
  (21, ix_push (vi 0) 22),
  (22, ix_iald 23),
  (23, ix_iload 1 24),
  (24, ix_bin (fun x y => x + y) 25),
  (25, ix_push (vi 9999) 28),
  (28, ix_cmp (fun x y => x ≤ y) 38 31),
  (31, ix_aload 0 32),
  (32, ix_push (vi (-1000000003)) 34),
  (34, oc_X11_finding 37),
  (37, ix_iret),
  (38, ix_push (vi 0) 39),
  (39, ix_istore 2 40),
  (40, ix_iload 2 41),
  (41, ix_iload 1 42),
  (42, ix_cmp (fun x y => y ≤ x) 100 45),
  (45, ix_aload 0 46),
  (46, oc_X11_drawn 49),
  (49, ix_push (vi 5) 50),
  (50, ix_div (fun x y => x - x / y * y) 51),
  (51, ix_istore 3 52),
  (52, ix_aload 0 53),
  (53, ix_getr 10 20 (fun _ => 113) 56),
  (56, ix_push (vi 6) 58),
  (58, ix_aload 0 59),
  (59, ix_getr 10 20 (fun _ => 113) 62),
  (62, ix_push (vi 0) 63),
  (63, ix_iald 64),
  (64, ix_push (vi 6) 66),
  (66, ix_div (fun x y => x - x / y * y) 67),
  (67, ix_bin (fun x y => x + y) 68),
  (68, ix_iload 3 69),
  (69, ix_iast 70),
  (70, ix_aload 0 71),
  (71, oc_X11_drawn 74),
  (74, ix_push (vi 16) 76),
  (76, ix_div (fun x y => x - x / y * y) 77),
  (77, ix_istore 4 79),
  (79, ix_aload 0 80),
  (80, ix_getr 10 20 (fun _ => 113) 83),
  (83, ix_push (vi 34) 85),
  (85, ix_iload 4 87),
  (87, ix_bin (fun x y => x + y) 88),
  (88, ix_push (vi 0) 89),
  (89, ix_iast 90),
  (90, ix_aload 0 91),
  (91, oc_X11_minute 94),
  (94, ix_iinc 2 1 97),
  (97, ix_goto 40),
  (100, ix_aload 0 101),
  (101, oc_X11_had 104),
  (104, ix_iret)]
set_option maxRecDepth 20000 in
theorem a_X11_loose (l : Launch) : ix_AllS l cX11_loose 5 RX11 60 (some .int) o_X11_loose :=
  .cons (ix_s_iload_n dX11_loose_0 rfl) <|
  .cons (ix_s_iconst dX11_loose_1 (by decide +kernel)) <|
  .cons (ix_s_bipush dX11_loose_2 (by decide +kernel)) <|
  .cons (oc_X11_within_s (ix_s_calls (k_X11_within l) (by decide) (by decide) tw_960 tw_12 tw_958 tw_959 ⟨by decide, by decide, by decide +kernel⟩ (fun _ => rfl) dX11_loose_4)) <|
  .cons (ix_s_if_ne dX11_loose_7 (by decide)) <|
  .cons (ix_s_aload_n dX11_loose_10 rfl) <|
  .cons (ix_s_ldc tw_961 dX11_loose_11) <|
  .cons (oc_X11_finding_s (ix_s_callv (t := 10) (k_X11_finding l) (by decide) (by decide) tw_965 tw_12 tw_962 tw_964 tp_18 ⟨by decide, by decide, by decide +kernel⟩ (by decide) rfl rfl (fun _ => ⟨_, _, rfl, rfl⟩) dX11_loose_13)) <|
  .cons (ix_s_iret dX11_loose_16 rfl) <|
  .cons (ix_s_aload_n dX11_loose_17 rfl) <|
  .cons (ix_s_getr (j := 0) tu_X11 rfl (by decide) (by decide) tw_875 rfl ts_10_0_r dX11_loose_18) <|
  .cons (ix_s_iconst dX11_loose_21 (by decide +kernel)) <|
  .cons (ix_s_iald dX11_loose_22) <|
  .cons (ix_s_iload_n dX11_loose_23 rfl) <|
  .cons (ix_s_iadd dX11_loose_24) <|
  .cons (ix_s_sipush dX11_loose_25 (by decide +kernel)) <|
  .cons (ix_s_cmp_le dX11_loose_28 (by decide)) <|
  .cons (ix_s_aload_n dX11_loose_31 rfl) <|
  .cons (ix_s_ldc tw_1183 dX11_loose_32) <|
  .cons (oc_X11_finding_s (ix_s_callv (t := 10) (k_X11_finding l) (by decide) (by decide) tw_965 tw_12 tw_962 tw_964 tp_18 ⟨by decide, by decide, by decide +kernel⟩ (by decide) rfl rfl (fun _ => ⟨_, _, rfl, rfl⟩) dX11_loose_34)) <|
  .cons (ix_s_iret dX11_loose_37 rfl) <|
  .cons (ix_s_iconst dX11_loose_38 (by decide +kernel)) <|
  .cons (ix_s_istore_n dX11_loose_39 rfl (by decide)) <|
  .cons (ix_s_iload_n dX11_loose_40 rfl) <|
  .cons (ix_s_iload_n dX11_loose_41 rfl) <|
  .cons (ix_s_cmp_ge dX11_loose_42 (by decide)) <|
  .cons (ix_s_aload_n dX11_loose_45 rfl) <|
  .cons (oc_X11_drawn_s (ix_s_callv (t := 10) (k_X11_drawn l) (by decide) (by decide) tw_1210 tw_12 tw_1207 tw_1209 tp_48 ⟨by decide, by decide, by decide +kernel⟩ (by decide) rfl rfl (fun _ => ⟨_, _, rfl, rfl⟩) dX11_loose_46)) <|
  .cons (ix_s_iconst dX11_loose_49 (by decide +kernel)) <|
  .cons (ix_s_irem dX11_loose_50) <|
  .cons (ix_s_istore_n dX11_loose_51 rfl (by decide)) <|
  .cons (ix_s_aload_n dX11_loose_52 rfl) <|
  .cons (ix_s_getr (j := 0) tu_X11 rfl (by decide) (by decide) tw_875 rfl ts_10_0_r dX11_loose_53) <|
  .cons (ix_s_bipush dX11_loose_56 (by decide +kernel)) <|
  .cons (ix_s_aload_n dX11_loose_58 rfl) <|
  .cons (ix_s_getr (j := 0) tu_X11 rfl (by decide) (by decide) tw_875 rfl ts_10_0_r dX11_loose_59) <|
  .cons (ix_s_iconst dX11_loose_62 (by decide +kernel)) <|
  .cons (ix_s_iald dX11_loose_63) <|
  .cons (ix_s_bipush dX11_loose_64 (by decide +kernel)) <|
  .cons (ix_s_irem dX11_loose_66) <|
  .cons (ix_s_iadd dX11_loose_67) <|
  .cons (ix_s_iload_n dX11_loose_68 rfl) <|
  .cons (ix_s_iast dX11_loose_69) <|
  .cons (ix_s_aload_n dX11_loose_70 rfl) <|
  .cons (oc_X11_drawn_s (ix_s_callv (t := 10) (k_X11_drawn l) (by decide) (by decide) tw_1210 tw_12 tw_1207 tw_1209 tp_48 ⟨by decide, by decide, by decide +kernel⟩ (by decide) rfl rfl (fun _ => ⟨_, _, rfl, rfl⟩) dX11_loose_71)) <|
  .cons (ix_s_bipush dX11_loose_74 (by decide +kernel)) <|
  .cons (ix_s_irem dX11_loose_76) <|
  .cons (ix_s_istore dX11_loose_77 (by decide)) <|
  .cons (ix_s_aload_n dX11_loose_79 rfl) <|
  .cons (ix_s_getr (j := 0) tu_X11 rfl (by decide) (by decide) tw_875 rfl ts_10_0_r dX11_loose_80) <|
  .cons (ix_s_bipush dX11_loose_83 (by decide +kernel)) <|
  .cons (ix_s_iload dX11_loose_85) <|
  .cons (ix_s_iadd dX11_loose_87) <|
  .cons (ix_s_iconst dX11_loose_88 (by decide +kernel)) <|
  .cons (ix_s_iast dX11_loose_89) <|
  .cons (ix_s_aload_n dX11_loose_90 rfl) <|
  .cons (oc_X11_minute_s (ix_s_callv (t := 10) (k_X11_minute l) (by decide) (by decide) tw_1191 tw_12 tw_1188 tw_1190 tp_45 ⟨by decide, by decide, by decide +kernel⟩ (by decide) rfl rfl (fun _ => ⟨_, _, rfl, rfl⟩) dX11_loose_91)) <|
  .cons (ix_s_iinc dX11_loose_94 (by decide +kernel) (by decide)) <|
  .cons (ix_s_goto dX11_loose_97 (by decide)) <|
  .cons (ix_s_aload_n dX11_loose_100 rfl) <|
  .cons (oc_X11_had_s (ix_s_callv (t := 10) (k_X11_had l) (by decide) (by decide) tw_1202 tw_12 tw_1199 tw_1201 tp_47 ⟨by decide, by decide, by decide +kernel⟩ (by decide) rfl rfl (fun _ => ⟨_, _, rfl, rfl⟩) dX11_loose_101)) <|
  .cons (ix_s_iret dX11_loose_104 rfl) <| .nil
theorem e_X11_loose_0 (Q : ix_R → Prop) (ls : ix_L) (st : List ix_V) (μ : ix_M) : ix_Ev o_X11_loose Q (0, ls, st, μ) = ix_iload 1 1 (ix_Ev o_X11_loose Q) Q ls st μ := ix_Ev.eq (a_X11_loose launch0) rfl ls st μ
theorem e_X11_loose_1 (Q : ix_R → Prop) (ls : ix_L) (st : List ix_V) (μ : ix_M) : ix_Ev o_X11_loose Q (1, ls, st, μ) = ix_push (vi 1) 2 (ix_Ev o_X11_loose Q) Q ls st μ := ix_Ev.eq (a_X11_loose launch0) rfl ls st μ
theorem e_X11_loose_2 (Q : ix_R → Prop) (ls : ix_L) (st : List ix_V) (μ : ix_M) : ix_Ev o_X11_loose Q (2, ls, st, μ) = ix_push (vi 40) 4 (ix_Ev o_X11_loose Q) Q ls st μ := ix_Ev.eq (a_X11_loose launch0) rfl ls st μ
theorem e_X11_loose_4 (Q : ix_R → Prop) (ls : ix_L) (st : List ix_V) (μ : ix_M) : ix_Ev o_X11_loose Q (4, ls, st, μ) = oc_X11_within 7 (ix_Ev o_X11_loose Q) Q ls st μ := ix_Ev.eq (a_X11_loose launch0) rfl ls st μ
theorem e_X11_loose_7 (Q : ix_R → Prop) (ls : ix_L) (st : List ix_V) (μ : ix_M) : ix_Ev o_X11_loose Q (7, ls, st, μ) = ix_if (fun x => x = 0) 10 17 (ix_Ev o_X11_loose Q) Q ls st μ := ix_Ev.eq (a_X11_loose launch0) rfl ls st μ
theorem e_X11_loose_10 (Q : ix_R → Prop) (ls : ix_L) (st : List ix_V) (μ : ix_M) : ix_Ev o_X11_loose Q (10, ls, st, μ) = ix_aload 0 11 (ix_Ev o_X11_loose Q) Q ls st μ := ix_Ev.eq (a_X11_loose launch0) rfl ls st μ
theorem e_X11_loose_11 (Q : ix_R → Prop) (ls : ix_L) (st : List ix_V) (μ : ix_M) : ix_Ev o_X11_loose Q (11, ls, st, μ) = ix_push (vi (-1000000001)) 13 (ix_Ev o_X11_loose Q) Q ls st μ := ix_Ev.eq (a_X11_loose launch0) rfl ls st μ
theorem e_X11_loose_13 (Q : ix_R → Prop) (ls : ix_L) (st : List ix_V) (μ : ix_M) : ix_Ev o_X11_loose Q (13, ls, st, μ) = oc_X11_finding 16 (ix_Ev o_X11_loose Q) Q ls st μ := ix_Ev.eq (a_X11_loose launch0) rfl ls st μ
theorem e_X11_loose_16 (Q : ix_R → Prop) (ls : ix_L) (st : List ix_V) (μ : ix_M) : ix_Ev o_X11_loose Q (16, ls, st, μ) = ix_iret (ix_Ev o_X11_loose Q) Q ls st μ := ix_Ev.eq (a_X11_loose launch0) rfl ls st μ
theorem e_X11_loose_17 (Q : ix_R → Prop) (ls : ix_L) (st : List ix_V) (μ : ix_M) : ix_Ev o_X11_loose Q (17, ls, st, μ) = ix_aload 0 18 (ix_Ev o_X11_loose Q) Q ls st μ := ix_Ev.eq (a_X11_loose launch0) rfl ls st μ
theorem e_X11_loose_18 (Q : ix_R → Prop) (ls : ix_L) (st : List ix_V) (μ : ix_M) : ix_Ev o_X11_loose Q (18, ls, st, μ) = ix_getr 10 20 (fun _ => 113) 21 (ix_Ev o_X11_loose Q) Q ls st μ := ix_Ev.eq (a_X11_loose launch0) rfl ls st μ
theorem e_X11_loose_21 (Q : ix_R → Prop) (ls : ix_L) (st : List ix_V) (μ : ix_M) : ix_Ev o_X11_loose Q (21, ls, st, μ) = ix_push (vi 0) 22 (ix_Ev o_X11_loose Q) Q ls st μ := ix_Ev.eq (a_X11_loose launch0) rfl ls st μ
theorem e_X11_loose_22 (Q : ix_R → Prop) (ls : ix_L) (st : List ix_V) (μ : ix_M) : ix_Ev o_X11_loose Q (22, ls, st, μ) = ix_iald 23 (ix_Ev o_X11_loose Q) Q ls st μ := ix_Ev.eq (a_X11_loose launch0) rfl ls st μ
theorem e_X11_loose_23 (Q : ix_R → Prop) (ls : ix_L) (st : List ix_V) (μ : ix_M) : ix_Ev o_X11_loose Q (23, ls, st, μ) = ix_iload 1 24 (ix_Ev o_X11_loose Q) Q ls st μ := ix_Ev.eq (a_X11_loose launch0) rfl ls st μ
theorem e_X11_loose_24 (Q : ix_R → Prop) (ls : ix_L) (st : List ix_V) (μ : ix_M) : ix_Ev o_X11_loose Q (24, ls, st, μ) = ix_bin (fun x y => x + y) 25 (ix_Ev o_X11_loose Q) Q ls st μ := ix_Ev.eq (a_X11_loose launch0) rfl ls st μ
theorem e_X11_loose_25 (Q : ix_R → Prop) (ls : ix_L) (st : List ix_V) (μ : ix_M) : ix_Ev o_X11_loose Q (25, ls, st, μ) = ix_push (vi 9999) 28 (ix_Ev o_X11_loose Q) Q ls st μ := ix_Ev.eq (a_X11_loose launch0) rfl ls st μ
theorem e_X11_loose_28 (Q : ix_R → Prop) (ls : ix_L) (st : List ix_V) (μ : ix_M) : ix_Ev o_X11_loose Q (28, ls, st, μ) = ix_cmp (fun x y => x ≤ y) 38 31 (ix_Ev o_X11_loose Q) Q ls st μ := ix_Ev.eq (a_X11_loose launch0) rfl ls st μ
theorem e_X11_loose_31 (Q : ix_R → Prop) (ls : ix_L) (st : List ix_V) (μ : ix_M) : ix_Ev o_X11_loose Q (31, ls, st, μ) = ix_aload 0 32 (ix_Ev o_X11_loose Q) Q ls st μ := ix_Ev.eq (a_X11_loose launch0) rfl ls st μ
theorem e_X11_loose_32 (Q : ix_R → Prop) (ls : ix_L) (st : List ix_V) (μ : ix_M) : ix_Ev o_X11_loose Q (32, ls, st, μ) = ix_push (vi (-1000000003)) 34 (ix_Ev o_X11_loose Q) Q ls st μ := ix_Ev.eq (a_X11_loose launch0) rfl ls st μ
theorem e_X11_loose_34 (Q : ix_R → Prop) (ls : ix_L) (st : List ix_V) (μ : ix_M) : ix_Ev o_X11_loose Q (34, ls, st, μ) = oc_X11_finding 37 (ix_Ev o_X11_loose Q) Q ls st μ := ix_Ev.eq (a_X11_loose launch0) rfl ls st μ
theorem e_X11_loose_37 (Q : ix_R → Prop) (ls : ix_L) (st : List ix_V) (μ : ix_M) : ix_Ev o_X11_loose Q (37, ls, st, μ) = ix_iret (ix_Ev o_X11_loose Q) Q ls st μ := ix_Ev.eq (a_X11_loose launch0) rfl ls st μ
theorem e_X11_loose_38 (Q : ix_R → Prop) (ls : ix_L) (st : List ix_V) (μ : ix_M) : ix_Ev o_X11_loose Q (38, ls, st, μ) = ix_push (vi 0) 39 (ix_Ev o_X11_loose Q) Q ls st μ := ix_Ev.eq (a_X11_loose launch0) rfl ls st μ
theorem e_X11_loose_39 (Q : ix_R → Prop) (ls : ix_L) (st : List ix_V) (μ : ix_M) : ix_Ev o_X11_loose Q (39, ls, st, μ) = ix_istore 2 40 (ix_Ev o_X11_loose Q) Q ls st μ := ix_Ev.eq (a_X11_loose launch0) rfl ls st μ
theorem e_X11_loose_40 (Q : ix_R → Prop) (ls : ix_L) (st : List ix_V) (μ : ix_M) : ix_Ev o_X11_loose Q (40, ls, st, μ) = ix_iload 2 41 (ix_Ev o_X11_loose Q) Q ls st μ := ix_Ev.eq (a_X11_loose launch0) rfl ls st μ
theorem e_X11_loose_41 (Q : ix_R → Prop) (ls : ix_L) (st : List ix_V) (μ : ix_M) : ix_Ev o_X11_loose Q (41, ls, st, μ) = ix_iload 1 42 (ix_Ev o_X11_loose Q) Q ls st μ := ix_Ev.eq (a_X11_loose launch0) rfl ls st μ
theorem e_X11_loose_42 (Q : ix_R → Prop) (ls : ix_L) (st : List ix_V) (μ : ix_M) : ix_Ev o_X11_loose Q (42, ls, st, μ) = ix_cmp (fun x y => y ≤ x) 100 45 (ix_Ev o_X11_loose Q) Q ls st μ := ix_Ev.eq (a_X11_loose launch0) rfl ls st μ
theorem e_X11_loose_45 (Q : ix_R → Prop) (ls : ix_L) (st : List ix_V) (μ : ix_M) : ix_Ev o_X11_loose Q (45, ls, st, μ) = ix_aload 0 46 (ix_Ev o_X11_loose Q) Q ls st μ := ix_Ev.eq (a_X11_loose launch0) rfl ls st μ
theorem e_X11_loose_46 (Q : ix_R → Prop) (ls : ix_L) (st : List ix_V) (μ : ix_M) : ix_Ev o_X11_loose Q (46, ls, st, μ) = oc_X11_drawn 49 (ix_Ev o_X11_loose Q) Q ls st μ := ix_Ev.eq (a_X11_loose launch0) rfl ls st μ
theorem e_X11_loose_49 (Q : ix_R → Prop) (ls : ix_L) (st : List ix_V) (μ : ix_M) : ix_Ev o_X11_loose Q (49, ls, st, μ) = ix_push (vi 5) 50 (ix_Ev o_X11_loose Q) Q ls st μ := ix_Ev.eq (a_X11_loose launch0) rfl ls st μ
theorem e_X11_loose_50 (Q : ix_R → Prop) (ls : ix_L) (st : List ix_V) (μ : ix_M) : ix_Ev o_X11_loose Q (50, ls, st, μ) = ix_div (fun x y => x - x / y * y) 51 (ix_Ev o_X11_loose Q) Q ls st μ := ix_Ev.eq (a_X11_loose launch0) rfl ls st μ
theorem e_X11_loose_51 (Q : ix_R → Prop) (ls : ix_L) (st : List ix_V) (μ : ix_M) : ix_Ev o_X11_loose Q (51, ls, st, μ) = ix_istore 3 52 (ix_Ev o_X11_loose Q) Q ls st μ := ix_Ev.eq (a_X11_loose launch0) rfl ls st μ
theorem e_X11_loose_52 (Q : ix_R → Prop) (ls : ix_L) (st : List ix_V) (μ : ix_M) : ix_Ev o_X11_loose Q (52, ls, st, μ) = ix_aload 0 53 (ix_Ev o_X11_loose Q) Q ls st μ := ix_Ev.eq (a_X11_loose launch0) rfl ls st μ
theorem e_X11_loose_53 (Q : ix_R → Prop) (ls : ix_L) (st : List ix_V) (μ : ix_M) : ix_Ev o_X11_loose Q (53, ls, st, μ) = ix_getr 10 20 (fun _ => 113) 56 (ix_Ev o_X11_loose Q) Q ls st μ := ix_Ev.eq (a_X11_loose launch0) rfl ls st μ
theorem e_X11_loose_56 (Q : ix_R → Prop) (ls : ix_L) (st : List ix_V) (μ : ix_M) : ix_Ev o_X11_loose Q (56, ls, st, μ) = ix_push (vi 6) 58 (ix_Ev o_X11_loose Q) Q ls st μ := ix_Ev.eq (a_X11_loose launch0) rfl ls st μ
theorem e_X11_loose_58 (Q : ix_R → Prop) (ls : ix_L) (st : List ix_V) (μ : ix_M) : ix_Ev o_X11_loose Q (58, ls, st, μ) = ix_aload 0 59 (ix_Ev o_X11_loose Q) Q ls st μ := ix_Ev.eq (a_X11_loose launch0) rfl ls st μ
theorem e_X11_loose_59 (Q : ix_R → Prop) (ls : ix_L) (st : List ix_V) (μ : ix_M) : ix_Ev o_X11_loose Q (59, ls, st, μ) = ix_getr 10 20 (fun _ => 113) 62 (ix_Ev o_X11_loose Q) Q ls st μ := ix_Ev.eq (a_X11_loose launch0) rfl ls st μ
theorem e_X11_loose_62 (Q : ix_R → Prop) (ls : ix_L) (st : List ix_V) (μ : ix_M) : ix_Ev o_X11_loose Q (62, ls, st, μ) = ix_push (vi 0) 63 (ix_Ev o_X11_loose Q) Q ls st μ := ix_Ev.eq (a_X11_loose launch0) rfl ls st μ
theorem e_X11_loose_63 (Q : ix_R → Prop) (ls : ix_L) (st : List ix_V) (μ : ix_M) : ix_Ev o_X11_loose Q (63, ls, st, μ) = ix_iald 64 (ix_Ev o_X11_loose Q) Q ls st μ := ix_Ev.eq (a_X11_loose launch0) rfl ls st μ
theorem e_X11_loose_64 (Q : ix_R → Prop) (ls : ix_L) (st : List ix_V) (μ : ix_M) : ix_Ev o_X11_loose Q (64, ls, st, μ) = ix_push (vi 6) 66 (ix_Ev o_X11_loose Q) Q ls st μ := ix_Ev.eq (a_X11_loose launch0) rfl ls st μ
theorem e_X11_loose_66 (Q : ix_R → Prop) (ls : ix_L) (st : List ix_V) (μ : ix_M) : ix_Ev o_X11_loose Q (66, ls, st, μ) = ix_div (fun x y => x - x / y * y) 67 (ix_Ev o_X11_loose Q) Q ls st μ := ix_Ev.eq (a_X11_loose launch0) rfl ls st μ
theorem e_X11_loose_67 (Q : ix_R → Prop) (ls : ix_L) (st : List ix_V) (μ : ix_M) : ix_Ev o_X11_loose Q (67, ls, st, μ) = ix_bin (fun x y => x + y) 68 (ix_Ev o_X11_loose Q) Q ls st μ := ix_Ev.eq (a_X11_loose launch0) rfl ls st μ
theorem e_X11_loose_68 (Q : ix_R → Prop) (ls : ix_L) (st : List ix_V) (μ : ix_M) : ix_Ev o_X11_loose Q (68, ls, st, μ) = ix_iload 3 69 (ix_Ev o_X11_loose Q) Q ls st μ := ix_Ev.eq (a_X11_loose launch0) rfl ls st μ
theorem e_X11_loose_69 (Q : ix_R → Prop) (ls : ix_L) (st : List ix_V) (μ : ix_M) : ix_Ev o_X11_loose Q (69, ls, st, μ) = ix_iast 70 (ix_Ev o_X11_loose Q) Q ls st μ := ix_Ev.eq (a_X11_loose launch0) rfl ls st μ
theorem e_X11_loose_70 (Q : ix_R → Prop) (ls : ix_L) (st : List ix_V) (μ : ix_M) : ix_Ev o_X11_loose Q (70, ls, st, μ) = ix_aload 0 71 (ix_Ev o_X11_loose Q) Q ls st μ := ix_Ev.eq (a_X11_loose launch0) rfl ls st μ
theorem e_X11_loose_71 (Q : ix_R → Prop) (ls : ix_L) (st : List ix_V) (μ : ix_M) : ix_Ev o_X11_loose Q (71, ls, st, μ) = oc_X11_drawn 74 (ix_Ev o_X11_loose Q) Q ls st μ := ix_Ev.eq (a_X11_loose launch0) rfl ls st μ
theorem e_X11_loose_74 (Q : ix_R → Prop) (ls : ix_L) (st : List ix_V) (μ : ix_M) : ix_Ev o_X11_loose Q (74, ls, st, μ) = ix_push (vi 16) 76 (ix_Ev o_X11_loose Q) Q ls st μ := ix_Ev.eq (a_X11_loose launch0) rfl ls st μ
theorem e_X11_loose_76 (Q : ix_R → Prop) (ls : ix_L) (st : List ix_V) (μ : ix_M) : ix_Ev o_X11_loose Q (76, ls, st, μ) = ix_div (fun x y => x - x / y * y) 77 (ix_Ev o_X11_loose Q) Q ls st μ := ix_Ev.eq (a_X11_loose launch0) rfl ls st μ
theorem e_X11_loose_77 (Q : ix_R → Prop) (ls : ix_L) (st : List ix_V) (μ : ix_M) : ix_Ev o_X11_loose Q (77, ls, st, μ) = ix_istore 4 79 (ix_Ev o_X11_loose Q) Q ls st μ := ix_Ev.eq (a_X11_loose launch0) rfl ls st μ
theorem e_X11_loose_79 (Q : ix_R → Prop) (ls : ix_L) (st : List ix_V) (μ : ix_M) : ix_Ev o_X11_loose Q (79, ls, st, μ) = ix_aload 0 80 (ix_Ev o_X11_loose Q) Q ls st μ := ix_Ev.eq (a_X11_loose launch0) rfl ls st μ
theorem e_X11_loose_80 (Q : ix_R → Prop) (ls : ix_L) (st : List ix_V) (μ : ix_M) : ix_Ev o_X11_loose Q (80, ls, st, μ) = ix_getr 10 20 (fun _ => 113) 83 (ix_Ev o_X11_loose Q) Q ls st μ := ix_Ev.eq (a_X11_loose launch0) rfl ls st μ
theorem e_X11_loose_83 (Q : ix_R → Prop) (ls : ix_L) (st : List ix_V) (μ : ix_M) : ix_Ev o_X11_loose Q (83, ls, st, μ) = ix_push (vi 34) 85 (ix_Ev o_X11_loose Q) Q ls st μ := ix_Ev.eq (a_X11_loose launch0) rfl ls st μ
theorem e_X11_loose_85 (Q : ix_R → Prop) (ls : ix_L) (st : List ix_V) (μ : ix_M) : ix_Ev o_X11_loose Q (85, ls, st, μ) = ix_iload 4 87 (ix_Ev o_X11_loose Q) Q ls st μ := ix_Ev.eq (a_X11_loose launch0) rfl ls st μ
theorem e_X11_loose_87 (Q : ix_R → Prop) (ls : ix_L) (st : List ix_V) (μ : ix_M) : ix_Ev o_X11_loose Q (87, ls, st, μ) = ix_bin (fun x y => x + y) 88 (ix_Ev o_X11_loose Q) Q ls st μ := ix_Ev.eq (a_X11_loose launch0) rfl ls st μ
theorem e_X11_loose_88 (Q : ix_R → Prop) (ls : ix_L) (st : List ix_V) (μ : ix_M) : ix_Ev o_X11_loose Q (88, ls, st, μ) = ix_push (vi 0) 89 (ix_Ev o_X11_loose Q) Q ls st μ := ix_Ev.eq (a_X11_loose launch0) rfl ls st μ
theorem e_X11_loose_89 (Q : ix_R → Prop) (ls : ix_L) (st : List ix_V) (μ : ix_M) : ix_Ev o_X11_loose Q (89, ls, st, μ) = ix_iast 90 (ix_Ev o_X11_loose Q) Q ls st μ := ix_Ev.eq (a_X11_loose launch0) rfl ls st μ
theorem e_X11_loose_90 (Q : ix_R → Prop) (ls : ix_L) (st : List ix_V) (μ : ix_M) : ix_Ev o_X11_loose Q (90, ls, st, μ) = ix_aload 0 91 (ix_Ev o_X11_loose Q) Q ls st μ := ix_Ev.eq (a_X11_loose launch0) rfl ls st μ
theorem e_X11_loose_91 (Q : ix_R → Prop) (ls : ix_L) (st : List ix_V) (μ : ix_M) : ix_Ev o_X11_loose Q (91, ls, st, μ) = oc_X11_minute 94 (ix_Ev o_X11_loose Q) Q ls st μ := ix_Ev.eq (a_X11_loose launch0) rfl ls st μ
theorem e_X11_loose_94 (Q : ix_R → Prop) (ls : ix_L) (st : List ix_V) (μ : ix_M) : ix_Ev o_X11_loose Q (94, ls, st, μ) = ix_iinc 2 1 97 (ix_Ev o_X11_loose Q) Q ls st μ := ix_Ev.eq (a_X11_loose launch0) rfl ls st μ
theorem e_X11_loose_97 (Q : ix_R → Prop) (ls : ix_L) (st : List ix_V) (μ : ix_M) : ix_Ev o_X11_loose Q (97, ls, st, μ) = ix_goto 40 (ix_Ev o_X11_loose Q) Q ls st μ := ix_Ev.eq (a_X11_loose launch0) rfl ls st μ
theorem e_X11_loose_100 (Q : ix_R → Prop) (ls : ix_L) (st : List ix_V) (μ : ix_M) : ix_Ev o_X11_loose Q (100, ls, st, μ) = ix_aload 0 101 (ix_Ev o_X11_loose Q) Q ls st μ := ix_Ev.eq (a_X11_loose launch0) rfl ls st μ
theorem e_X11_loose_101 (Q : ix_R → Prop) (ls : ix_L) (st : List ix_V) (μ : ix_M) : ix_Ev o_X11_loose Q (101, ls, st, μ) = oc_X11_had 104 (ix_Ev o_X11_loose Q) Q ls st μ := ix_Ev.eq (a_X11_loose launch0) rfl ls st μ
theorem e_X11_loose_104 (Q : ix_R → Prop) (ls : ix_L) (st : List ix_V) (μ : ix_M) : ix_Ev o_X11_loose Q (104, ls, st, μ) = ix_iret (ix_Ev o_X11_loose Q) Q ls st μ := ix_Ev.eq (a_X11_loose launch0) rfl ls st μ
def ls1 (ds dl : List Int32) (s : WV × Int32) : WV × Int32 := (pV ds dl (-1) 0 (setV 2 (rem (mZ8 (mZ (mZ s.2))) 16).toNatClampNeg 0 (setV 3 (rem (s.1 0 8) 6).toNatClampNeg (rem (mZ8 (mZ s.2)) 5) s.1)), mZ (mZ s.2))
def lsN (ds dl : List Int32) (n : Nat) (s : WV × Int32) : WV × Int32 := match n with
  | 0 => s
  | n + 1 => ls1 ds dl (lsN ds dl n s)
theorem mZ8_in (y : Int32) : ∃ Y : Nat, Y < 2 ^ 24 ∧ mZ8 y = nI Y := by
  have e : (8 : Int32).toUInt32 &&& Int32.toUInt32 31 = 8 := by decide
  unfold mZ8
  rw [e]
  refine ⟨(y.toUInt32 >>> 8).toNat, ?_, ?_⟩
  · rw [UInt32.toNat_shiftRight]
    have := y.toUInt32.toNat_lt
    have e8 : (8 : UInt32).toNat % 32 = 8 := rfl
    rw [e8, Nat.shiftRight_eq_div_pow]
    omega
  · apply Int32.toBitVec_inj.mp
    show (y.toUInt32 >>> 8).toBitVec = BitVec.ofNat 32 _
    apply BitVec.eq_of_toNat_eq
    rw [BitVec.toNat_ofNat]
    have := (y.toUInt32 >>> 8).toBitVec.isLt
    exact (Nat.mod_eq_of_lt this).symm
theorem wv_up2 {μ : ix_M} {a r i : Nat} {x : Int32} (ha : a = 2 + r) (hw : wok r i = true) : wv (ix_up μ a i x) 2 = setV r i x (wv μ 2) := by
  subst ha
  funext r' i'
  unfold wv setV
  by_cases c : wok r' i' = true
  · rw [if_pos c, ix_up_ap]
    by_cases c2 : r' = r ∧ i' = i
    · rw [if_pos c2, if_pos (by omega)]
    · rw [if_neg c2, if_neg (by omega)]
      exact (if_pos c).symm
  · rw [if_neg c, if_neg (fun z => c (by rw [z.1, z.2]; exact hw))]
    exact (if_neg c).symm
theorem wv_up1 {μ : ix_M} {j : Nat} {x : Int32} : wv (ix_up μ 1 j x) 2 = wv μ 2 := wv_fx (fun r _ => ix_up_ne (by omega))
theorem e113n {μ : ix_M} {i j : Nat} {x : Int32} (hj : j ≠ i) : ix_up μ 113 i x 113 j = μ 113 j := by rw [ix_up_ap, if_neg (fun z => hj z.2)]
theorem ls1_WR {ds dl : List Int32} {v : WV} {z : Int32} {M : Nat} (h : WR v M) : WR (ls1 ds dl (v, z)).1 (M + 1) := by
  obtain ⟨Y1, hY1, z1⟩ := mZ8_in (mZ z)
  have q1 : rem (nI Y1) 5 = nI (Y1 % 5) := pk_rem (d := 5) (by omega) (by decide) (by decide)
  show WR (pV ds dl (-1) 0 (setV 2 (rem (mZ8 (mZ (mZ z))) 16).toNatClampNeg 0 (setV 3 (rem (v 0 8) 6).toNatClampNeg (rem (mZ8 (mZ z)) 5) v))) (M + 1)
  rw [z1, q1]
  exact wr_pV (wr_set (x := 0) (wr_set (x := Y1 % 5) h (by unfold wrB; omega)) (by unfold wrB; omega)) ds dl _ _
theorem l_X10_loose {M K : Nat} {ds dl : List Int32} {μ0 : ix_M} {Q : ix_R → Prop} (hM : M + K ≤ 9999) (hL : LW μ0 ds dl) {s0 : WV × Int32} (hQ : ∀ μ', Fx [1, 2, 4, 5, 8, 9, 14, 18] μ0 μ' → wv μ' 2 = (lsN ds dl K s0).1 → μ' 1 5 = (lsN ds dl K s0).2 → WR (lsN ds dl K s0).1 (M + K) → Q (some (vi (pH (lsN ds dl K s0).1)), μ')) : ∀ (k i : Nat) (μ : ix_M), i + k = K → Fx [1, 2, 4, 5, 8, 9, 14, 18] μ0 μ → wv μ 2 = (lsN ds dl i s0).1 → μ 1 5 = (lsN ds dl i s0).2 → WR (wv μ 2) (M + i) → ix_Ev o_X10_loose Q (45, [some (vr 9 0), some (vi (nI K)), some (vr 8 2), some (vi (nI i))], [], μ) := by
  intro k
  induction k with
  | zero =>
    intro i μ hi hF h1 h2 hW
    have hi : i = K := hi
    subst hi
    have c1 : nI i ≤ nI i := Int32.le_refl _
    rw [e_X10_loose_45]
    simp (decide := true) only [e_X10_loose_0, e_X10_loose_1, e_X10_loose_2, e_X10_loose_5, e_X10_loose_6, e_X10_loose_8, e_X10_loose_11, e_X10_loose_12, e_X10_loose_13, e_X10_loose_16, e_X10_loose_17, e_X10_loose_18, e_X10_loose_21, e_X10_loose_24, e_X10_loose_25, e_X10_loose_26, e_X10_loose_29, e_X10_loose_30, e_X10_loose_31, e_X10_loose_34, e_X10_loose_37, e_X10_loose_38, e_X10_loose_39, e_X10_loose_42, e_X10_loose_43, e_X10_loose_44, e_X10_loose_46, e_X10_loose_47, e_X10_loose_50, e_X10_loose_51, e_X10_loose_54, e_X10_loose_55, e_X10_loose_58, e_X10_loose_59, e_X10_loose_62, e_X10_loose_65, e_X10_loose_66, e_X10_loose_67, e_X10_loose_68, e_X10_loose_69, e_X10_loose_72, e_X10_loose_73, e_X10_loose_76, e_X10_loose_79, e_X10_loose_81, e_X10_loose_82, e_X10_loose_83, e_X10_loose_84, e_X10_loose_85, e_X10_loose_86, e_X10_loose_89, e_X10_loose_92, e_X10_loose_93, e_X10_loose_94, e_X10_loose_97, e_X10_loose_100, e_X10_loose_103, e_X10_loose_104, e_X10_loose_107, vi, vl, vr, oc_X10_error, T_X10_error, oc_X6_draw, T_X6_draw, oc_X9_had, T_X9_had, oc_X9_pass, T_X9_pass, oc_X9_place, T_X9_place, ix_push, ix_iload, ix_lload, ix_aload, ix_istore, ix_astore, ix_iinc, ix_bin, ix_div, ix_un, ix_i2l, ix_l2i, ix_lbin, ix_lsh, ix_lcmp, ix_dup, ix_dup2, ix_pop, ix_if, ix_cmp, ix_goto, ix_switch, ix_sw, ix_iret, ix_zret, ix_vret, ix_aret, ix_geti, ix_getr, ix_puti, ix_putz, ix_puts, ix_gets, ix_iald, ix_iast, ix_alen, ix_aald, ix_gval, ix_gcod, ix_bald, ix_blen, ix_sald, ix_nret, ix_math2, ix_math1, ix_acopy, Nat.add_assoc, Int32.reduceLT, Int32.reduceLE, Int32.reduceToNatClampNeg, Int32.reduceSub, Int32.reduceAdd, Nat.reduceAdd, Nat.reduceLeDiff, true_or, or_true, or_false, false_or, not_false_eq_true, not_true_eq_false, false_implies, true_implies, implies_true, and_self, mB_0, mB_01, Classical.not_not, Nat.zero_le, List.getElem?_cons_zero, List.getElem?_cons_succ, List.set_cons_zero, List.set_cons_succ, ix_nl, ix_cs, true_and, and_true, Option.toList_some, Option.toList_none, List.cons_append, List.nil_append, c1]
    obtain ⟨g1, g2⟩ := hW.1.had
    have q := hQ μ hF h1 h2 (by rw [← h1]; exact hW)
    refine ⟨g1, ?_⟩
    rw [show mSum (μ 9) (μ 2 7).toNatClampNeg = pH (wv μ 2) from g2, h1]
    exact q
  | succ k ih =>
    intro i μ hi hF h1 h2 hW
    have c1 : ¬ nI K ≤ nI i := nI_ge (by omega) (by omega)
    have n1 : nI i + 1 = nI (i + 1) := nI_1 i
    have m8 : μ 2 8 = nI (M + i) := by rw [← wv_08 μ 2]; exact hW.1.2.1
    have r1 : rem (nI (M + i)) 6 = nI ((M + i) % 6) := rem6 (by omega)
    have r2 : vp_in (nI ((M + i) % 6)) (ix_len 5) := vp_in_nI (show (M + i) % 6 < 6 by omega) (by decide)
    have r3 : (nI ((M + i) % 6)).toNatClampNeg = (M + i) % 6 := nI_clamp (by omega)
    generalize hz : (lsN ds dl i s0).2 = z at h2
    obtain ⟨Y1, hY1, z1⟩ := mZ8_in (mZ z)
    obtain ⟨Y2, hY2, z2⟩ := mZ8_in (mZ (mZ z))
    have q1 : nI Y1 - nI Y1 / 5 * 5 = nI (Y1 % 5) := pk_rem (d := 5) (by omega) (by decide) (by decide)
    have q2 : nI Y2 - nI Y2 / 16 * 16 = nI (Y2 % 16) := pk_rem (d := 16) (by omega) (by decide) (by decide)
    have q3 : vp_in (nI (Y2 % 16)) (ix_len 4) := vp_in_nI (show Y2 % 16 < 16 by omega) (by decide)
    have q4 : (nI (Y2 % 16)).toNatClampNeg = Y2 % 16 := nI_clamp (by omega)
    rw [e_X10_loose_45]
    simp (decide := true) only [e_X10_loose_0, e_X10_loose_1, e_X10_loose_2, e_X10_loose_5, e_X10_loose_6, e_X10_loose_8, e_X10_loose_11, e_X10_loose_12, e_X10_loose_13, e_X10_loose_16, e_X10_loose_17, e_X10_loose_18, e_X10_loose_21, e_X10_loose_24, e_X10_loose_25, e_X10_loose_26, e_X10_loose_29, e_X10_loose_30, e_X10_loose_31, e_X10_loose_34, e_X10_loose_37, e_X10_loose_38, e_X10_loose_39, e_X10_loose_42, e_X10_loose_43, e_X10_loose_44, e_X10_loose_46, e_X10_loose_47, e_X10_loose_50, e_X10_loose_51, e_X10_loose_54, e_X10_loose_55, e_X10_loose_58, e_X10_loose_59, e_X10_loose_62, e_X10_loose_65, e_X10_loose_66, e_X10_loose_67, e_X10_loose_68, e_X10_loose_69, e_X10_loose_72, e_X10_loose_73, e_X10_loose_76, e_X10_loose_79, e_X10_loose_81, e_X10_loose_82, e_X10_loose_83, e_X10_loose_84, e_X10_loose_85, e_X10_loose_86, e_X10_loose_89, e_X10_loose_92, e_X10_loose_93, e_X10_loose_94, e_X10_loose_97, e_X10_loose_100, e_X10_loose_103, e_X10_loose_104, e_X10_loose_107, vi, vl, vr, oc_X10_error, T_X10_error, oc_X6_draw, T_X6_draw, oc_X9_had, T_X9_had, oc_X9_pass, T_X9_pass, oc_X9_place, T_X9_place, ix_push, ix_iload, ix_lload, ix_aload, ix_istore, ix_astore, ix_iinc, ix_bin, ix_div, ix_un, ix_i2l, ix_l2i, ix_lbin, ix_lsh, ix_lcmp, ix_dup, ix_dup2, ix_pop, ix_if, ix_cmp, ix_goto, ix_switch, ix_sw, ix_iret, ix_zret, ix_vret, ix_aret, ix_geti, ix_getr, ix_puti, ix_putz, ix_puts, ix_gets, ix_iald, ix_iast, ix_alen, ix_aald, ix_gval, ix_gcod, ix_bald, ix_blen, ix_sald, ix_nret, ix_math2, ix_math1, ix_acopy, Nat.add_assoc, Int32.reduceLT, Int32.reduceLE, Int32.reduceToNatClampNeg, Int32.reduceSub, Int32.reduceAdd, Nat.reduceAdd, Nat.reduceLeDiff, true_or, or_true, or_false, false_or, not_false_eq_true, not_true_eq_false, false_implies, true_implies, implies_true, and_self, mB_0, mB_01, Classical.not_not, Nat.zero_le, List.getElem?_cons_zero, List.getElem?_cons_succ, List.set_cons_zero, List.set_cons_succ, ix_nl, ix_cs, true_and, and_true, Option.toList_some, Option.toList_none, List.cons_append, List.nil_append, c1, n1, m8, r1, r2, r3, h2, z1, z2, q1, q2, q3, q4, ix_up_ne, ix_up_k]
    generalize hμ4 : ix_up (ix_up (ix_up (ix_up μ 1 5 (mZ z)) 5 ((M + i) % 6) (nI (Y1 % 5))) 1 5 (mZ (mZ z))) 4 (Y2 % 16) 0 = μ4
    have F4 : Fx [1, 2, 4, 5, 8, 9, 14, 18] μ0 μ4 := by
      rw [← hμ4]
      exact (((hF.up (by simp)).up (by simp)).up (by simp)).up (by simp)
    have hv4 : wv μ4 2 = setV 2 (Y2 % 16) 0 (setV 3 ((M + i) % 6) (nI (Y1 % 5)) (wv μ 2)) := by
      rw [← hμ4, wv_up2 (r := 2) rfl (wok_2 (by omega)), wv_up1, wv_up2 (r := 3) rfl (wok_3 (by omega)), wv_up1]
    have z4 : μ4 1 5 = mZ (mZ z) := by rw [← hμ4, ix_up_ne (by decide), ix_up_k]
    have hw4 : WR (wv μ4 2) (M + i) := by
      rw [hv4]
      exact wr_set (x := 0) (wr_set (x := Y1 % 5) hW (by unfold wrB; omega)) (by unfold wrB; omega)
    have hL4 := hL.fx F4 (by decide)
    have hls : ls1 ds dl (lsN ds dl i s0) = (pV ds dl (-1) 0 (wv μ4 2), mZ (mZ z)) := by
      have e1 : lsN ds dl i s0 = (wv μ 2, z) := by rw [← hz, h1]
      have r5 : rem (nI Y1) 5 = nI (Y1 % 5) := q1
      have r6 : rem (nI Y2) 16 = nI (Y2 % 16) := q2
      rw [e1, ls1, hv4]
      simp only [z1, z2, r5, r6, q4, wv_08, m8, r1, r3]
    refine ⟨hw4.1.ok (by omega), ds, dl, hL4.1, hL4.2, fun μ5 F5 V5 => ?_⟩
    refine ih (i + 1) μ5 (by omega) (F4.tr (F5.mono (by decide))) ?_ ?_ ?_
    · rw [V5, lsN, hls]
    · rw [F5 1 (by decide), z4, lsN, hls]
    · rw [V5]
      exact wr_pV hw4 ds dl _ _
theorem l_X11_loose {M K : Nat} {ds dl : List Int32} {μ0 : ix_M} {Q : ix_R → Prop} (hM : M + K ≤ 9999) (hl : μ0 112 5 = -1) {s0 : WV × Int32} (hQ : ∀ μ', Fx [113, 119, 120] μ0 μ' → nv (μ' 113) = (lsN ds dl K s0).1 → μ' 113 3 = (lsN ds dl K s0).2 → (∀ j, rst j → j ≠ 3 → μ' 113 j = μ0 113 j) → Q (some (vi (pH (lsN ds dl K s0).1)), μ')) : ∀ (k i : Nat) (μ : ix_M) (x3 x4 : Option ix_V), i + k = K → Fx [113, 119, 120] μ0 μ → nv (μ 113) = (lsN ds dl i s0).1 → μ 113 3 = (lsN ds dl i s0).2 → (∀ j, rst j → j ≠ 3 → μ 113 j = μ0 113 j) → TxtM (μ 113) 152 ds → TxtM (μ 113) 204 dl → WR (nv (μ 113)) (M + i) → ix_Ev o_X11_loose Q (40, [some (vr 10 112), some (vi (nI K)), some (vi (nI i)), x3, x4], [], μ) := by
  intro k
  induction k with
  | zero =>
    intro i μ x3 x4 hi hF h1 h2 hr t1 t2 hW
    have hi : i = K := hi
    subst hi
    have c1 : nI i ≤ nI i := Int32.le_refl _
    rw [e_X11_loose_40]
    simp (decide := true) only [e_X11_loose_0, e_X11_loose_1, e_X11_loose_2, e_X11_loose_4, e_X11_loose_7, e_X11_loose_10, e_X11_loose_11, e_X11_loose_13, e_X11_loose_16, e_X11_loose_17, e_X11_loose_18, e_X11_loose_21, e_X11_loose_22, e_X11_loose_23, e_X11_loose_24, e_X11_loose_25, e_X11_loose_28, e_X11_loose_31, e_X11_loose_32, e_X11_loose_34, e_X11_loose_37, e_X11_loose_38, e_X11_loose_39, e_X11_loose_41, e_X11_loose_42, e_X11_loose_45, e_X11_loose_46, e_X11_loose_49, e_X11_loose_50, e_X11_loose_51, e_X11_loose_52, e_X11_loose_53, e_X11_loose_56, e_X11_loose_58, e_X11_loose_59, e_X11_loose_62, e_X11_loose_63, e_X11_loose_64, e_X11_loose_66, e_X11_loose_67, e_X11_loose_68, e_X11_loose_69, e_X11_loose_70, e_X11_loose_71, e_X11_loose_74, e_X11_loose_76, e_X11_loose_77, e_X11_loose_79, e_X11_loose_80, e_X11_loose_83, e_X11_loose_85, e_X11_loose_87, e_X11_loose_88, e_X11_loose_89, e_X11_loose_90, e_X11_loose_91, e_X11_loose_94, e_X11_loose_97, e_X11_loose_100, e_X11_loose_101, e_X11_loose_104, vi, vl, vr, oc_X11_drawn, T_X11_drawn, oc_X11_finding, T_X11_finding, oc_X11_had, T_X11_had, oc_X11_minute, T_X11_minute, oc_X11_within, T_X11_within, ix_push, ix_iload, ix_lload, ix_aload, ix_istore, ix_astore, ix_iinc, ix_bin, ix_div, ix_un, ix_i2l, ix_l2i, ix_lbin, ix_lsh, ix_lcmp, ix_dup, ix_dup2, ix_pop, ix_if, ix_cmp, ix_goto, ix_switch, ix_sw, ix_iret, ix_zret, ix_vret, ix_aret, ix_geti, ix_getr, ix_puti, ix_putz, ix_puts, ix_gets, ix_iald, ix_iast, ix_alen, ix_aald, ix_gval, ix_gcod, ix_bald, ix_blen, ix_sald, ix_nret, ix_math2, ix_math1, ix_acopy, ml_113, ml_114, ml_115, ml_116, ml_118, ml_119, ml_120, ml_121, ml_122, ml_123, ml_124, ml_125, ml_126, mv_0, mv_1, mv_2, mv_3, mv_4, mv_5, mB_or, Nat.add_assoc, Int32.reduceLT, Int32.reduceLE, Int32.reduceToNatClampNeg, Int32.reduceSub, Int32.reduceAdd, Nat.reduceAdd, Nat.reduceLeDiff, true_or, or_true, or_false, false_or, not_false_eq_true, not_true_eq_false, false_implies, true_implies, implies_true, and_self, mB_0, mB_01, Classical.not_not, Nat.zero_le, List.getElem?_cons_zero, List.getElem?_cons_succ, List.set_cons_zero, List.set_cons_succ, ix_nl, ix_cs, true_and, and_true, Option.toList_some, Option.toList_none, List.cons_append, List.nil_append, c1]
    obtain ⟨N, hN, g1, g2⟩ := MW.had (mwOf hW t1 t2)
    refine ⟨N, hN, g1, ?_⟩
    rw [g2, h1]
    exact hQ μ hF h1 h2 hr
  | succ k ih =>
    intro i μ x3 x4 hi hF h1 h2 hr t1 t2 hW
    have c1 : ¬ nI K ≤ nI i := nI_ge (by omega) (by omega)
    have n1 : nI i + 1 = nI (i + 1) := nI_1 i
    have m8 : μ 113 0 = nI (M + i) := hW.1.2.1
    have r1 : nI (M + i) - nI (M + i) / 6 * 6 = nI ((M + i) % 6) := rem6 (by omega)
    generalize hp : (M + i) % 6 = p at r1
    have hp6 : p < 6 := by omega
    obtain ⟨y1, y2, y3⟩ := mix 6 p (by omega)
    have y1 : (6 : Int32) + nI p = nI (6 + p) := y1
    generalize hz : (lsN ds dl i s0).2 = z at h2
    obtain ⟨Y1, hY1, z1⟩ := mZ8_in (mZ z)
    obtain ⟨Y2, hY2, z2⟩ := mZ8_in (mZ (mZ z))
    have q1 : nI Y1 - nI Y1 / 5 * 5 = nI (Y1 % 5) := pk_rem (d := 5) (by omega) (by decide) (by decide)
    have q2 : nI Y2 - nI Y2 / 16 * 16 = nI (Y2 % 16) := pk_rem (d := 16) (by omega) (by decide) (by decide)
    have q4 : (nI (Y2 % 16)).toNatClampNeg = Y2 % 16 := nI_clamp (by omega)
    obtain ⟨u1, u2, u3⟩ := mix 34 (Y2 % 16) (by omega)
    have u1 : (34 : Int32) + nI (Y2 % 16) = nI (34 + Y2 % 16) := u1
    have k1 : ∀ ν : ix_M, ∀ x, ix_up ν 113 (6 + p) x 113 3 = ν 113 3 := fun ν x => e113n (by omega)
    have k2 : ∀ ν : ix_M, ∀ x, ix_up ν 113 3 x 113 0 = ν 113 0 := fun ν x => e113n (by omega)
    rw [e_X11_loose_40]
    simp (decide := true) only [e_X11_loose_0, e_X11_loose_1, e_X11_loose_2, e_X11_loose_4, e_X11_loose_7, e_X11_loose_10, e_X11_loose_11, e_X11_loose_13, e_X11_loose_16, e_X11_loose_17, e_X11_loose_18, e_X11_loose_21, e_X11_loose_22, e_X11_loose_23, e_X11_loose_24, e_X11_loose_25, e_X11_loose_28, e_X11_loose_31, e_X11_loose_32, e_X11_loose_34, e_X11_loose_37, e_X11_loose_38, e_X11_loose_39, e_X11_loose_41, e_X11_loose_42, e_X11_loose_45, e_X11_loose_46, e_X11_loose_49, e_X11_loose_50, e_X11_loose_51, e_X11_loose_52, e_X11_loose_53, e_X11_loose_56, e_X11_loose_58, e_X11_loose_59, e_X11_loose_62, e_X11_loose_63, e_X11_loose_64, e_X11_loose_66, e_X11_loose_67, e_X11_loose_68, e_X11_loose_69, e_X11_loose_70, e_X11_loose_71, e_X11_loose_74, e_X11_loose_76, e_X11_loose_77, e_X11_loose_79, e_X11_loose_80, e_X11_loose_83, e_X11_loose_85, e_X11_loose_87, e_X11_loose_88, e_X11_loose_89, e_X11_loose_90, e_X11_loose_91, e_X11_loose_94, e_X11_loose_97, e_X11_loose_100, e_X11_loose_101, e_X11_loose_104, vi, vl, vr, oc_X11_drawn, T_X11_drawn, oc_X11_finding, T_X11_finding, oc_X11_had, T_X11_had, oc_X11_minute, T_X11_minute, oc_X11_within, T_X11_within, ix_push, ix_iload, ix_lload, ix_aload, ix_istore, ix_astore, ix_iinc, ix_bin, ix_div, ix_un, ix_i2l, ix_l2i, ix_lbin, ix_lsh, ix_lcmp, ix_dup, ix_dup2, ix_pop, ix_if, ix_cmp, ix_goto, ix_switch, ix_sw, ix_iret, ix_zret, ix_vret, ix_aret, ix_geti, ix_getr, ix_puti, ix_putz, ix_puts, ix_gets, ix_iald, ix_iast, ix_alen, ix_aald, ix_gval, ix_gcod, ix_bald, ix_blen, ix_sald, ix_nret, ix_math2, ix_math1, ix_acopy, ml_113, ml_114, ml_115, ml_116, ml_118, ml_119, ml_120, ml_121, ml_122, ml_123, ml_124, ml_125, ml_126, mv_0, mv_1, mv_2, mv_3, mv_4, mv_5, mB_or, Nat.add_assoc, Int32.reduceLT, Int32.reduceLE, Int32.reduceToNatClampNeg, Int32.reduceSub, Int32.reduceAdd, Nat.reduceAdd, Nat.reduceLeDiff, true_or, or_true, or_false, false_or, not_false_eq_true, not_true_eq_false, false_implies, true_implies, implies_true, and_self, mB_0, mB_01, Classical.not_not, Nat.zero_le, List.getElem?_cons_zero, List.getElem?_cons_succ, List.set_cons_zero, List.set_cons_succ, ix_nl, ix_cs, true_and, and_true, Option.toList_some, Option.toList_none, List.cons_append, List.nil_append, c1, n1, k1, k2, m8, r1, y1, y2, y3, h2, z1, z2, q1, q2, q4, u1, u2, u3, ix_up_k]
    generalize hμ4 : ix_up (ix_up (ix_up (ix_up μ 113 3 (mZ z)) 113 (6 + p) (nI (Y1 % 5))) 113 3 (mZ (mZ z))) 113 (34 + Y2 % 16) 0 = μ4
    have F4 : Fx [113, 119, 120] μ0 μ4 := by
      rw [← hμ4]
      exact (((hF.up (by simp)).up (by simp)).up (by simp)).up (by simp)
    have e4 : ∀ j, μ4 113 j = if j = 34 + Y2 % 16 then 0 else if j = 3 then mZ (mZ z) else if j = 6 + p then nI (Y1 % 5) else μ 113 j := fun j => by
      rw [← hμ4]
      simp only [ix_up_ap, true_and]
      by_cases a1 : j = 34 + Y2 % 16
      · rw [if_pos a1, if_pos a1]
      · rw [if_neg a1, if_neg a1]
        by_cases a2 : j = 3
        · rw [if_pos a2, if_pos a2]
        · rw [if_neg a2, if_neg a2, if_neg a2]
    have hv4 : nv (μ4 113) = setV 2 (Y2 % 16) 0 (setV 3 p (nI (Y1 % 5)) (nv (μ 113))) := by
      rw [← nv_upd (wok_3 hp6), ← nv_upd (wok_2 (by omega))]
      funext r j
      unfold nv
      by_cases c : wok r j = true
      · rw [if_pos c, if_pos c, e4]
        have ne3 : nvI r j ≠ 3 := fun z => nvI_rst c (by rw [z]; unfold rst; omega)
        show _ = upd (upd (μ 113) (6 + p) (nI (Y1 % 5))) (34 + Y2 % 16) 0 (nvI r j)
        unfold upd
        rw [if_neg ne3]
      · rw [if_neg c, if_neg c]
    have hw4 : WR (nv (μ4 113)) (M + i) := by
      rw [hv4]
      exact wr_set (x := 0) (wr_set (x := Y1 % 5) hW (by unfold wrB; omega)) (by unfold wrB; omega)
    have hr4 : ∀ j, rst j → j ≠ 3 → μ4 113 j = μ 113 j := fun j hj h3 => by
      rw [e4, if_neg (by unfold rst at hj; omega), if_neg h3, if_neg (by unfold rst at hj; omega)]
    have t14 : TxtM (μ4 113) 152 ds := t1.fx (by decide) (fun j hj => hr4 j (by unfold rst; omega) (by omega))
    have t24 : TxtM (μ4 113) 204 dl := t2.fx (by decide) (fun j hj => hr4 j (by unfold rst; omega) (by omega))
    have hls : ls1 ds dl (lsN ds dl i s0) = (pV ds dl (-1) 0 (nv (μ4 113)), mZ (mZ z)) := by
      have e1 : lsN ds dl i s0 = (nv (μ 113), z) := by rw [← hz, h1]
      have r5 : rem (nI Y1) 5 = nI (Y1 % 5) := q1
      have r6 : rem (nI Y2) 16 = nI (Y2 % 16) := q2
      have r7 : rem (nI (M + i)) 6 = nI p := r1
      have r8 : nv (μ 113) 0 8 = nI (M + i) := m8
      have r9 : (nI p).toNatClampNeg = p := nI_clamp (by omega)
      rw [e1, ls1, hv4]
      simp only [z1, z2, r5, r6, q4, r8, r7, r9]
    refine ⟨hw4.1.ok (by omega), hw4.2.1, ds, dl, t14, t24, fun μ5 F5 V5 R5 => ?_⟩
    have V5' : nv (μ5 113) = pV ds dl (-1) 0 (nv (μ4 113)) := by rw [V5, F4 112 (by decide), hl, pV_nob]
    refine ih (i + 1) μ5 _ _ (by omega) (F4.tr F5) ?_ ?_ (fun j hj h3 => by rw [R5 j hj, hr4 j hj h3]; exact hr j hj h3) (t14.fx (by decide) (fun j hj => R5 j (by unfold rst; omega))) (t24.fx (by decide) (fun j hj => R5 j (by unfold rst; omega))) ?_
    · rw [V5', lsN, hls]
    · rw [R5 3 (by unfold rst; omega), e4, if_neg (by omega), if_pos rfl, lsN, hls]
    · rw [V5']
      exact wr_pV hw4 ds dl _ _
theorem pr_loose (n : Int32) (μ : ix_M) (I : Inv μ) (Q : ix_R → Prop) (hQ : ∀ vv μ', ix_Ev o_X11_loose (Pst vv) (0, [some (vr 10 112), some (vi n), none, none, none], [], μ') → Q (some (vi vv), μ')) : ix_Ev o_X10_loose Q (0, [some (vr 9 0), some (vi n), none, none], [], μ) := by
  by_cases h : 1 ≤ n ∧ n ≤ 40
  · have h1 : ¬ n < 1 := Int32.not_lt.mpr h.1
    have h2 : ¬ 40 < n := Int32.not_lt.mpr h.2
    obtain ⟨K, hK, rfl⟩ := nI_of2 (n := 40) (M := 40) rfl (fun z => h1 (by rw [fa_lt] at z ⊢; exact Int.lt_trans z (by decide))) h.2
    obtain ⟨M, hM, hR, m1, m2⟩ := I.mi
    obtain ⟨ds, dl, hL, x1, x2⟩ := I.tx
    have e1 : nI M + nI K = nI (M + K) := nI_add M K
    by_cases c : 9999 < M + K
    · have c1 : ¬ nI (M + K) ≤ 9999 := nI_ge (a := 9999) (b := M + K) c (by omega)
      have c2 : 9999 < nI (M + K) := Int32.not_le.mp c1
      simp (decide := true) only [e_X10_loose_0, e_X10_loose_1, e_X10_loose_2, e_X10_loose_5, e_X10_loose_6, e_X10_loose_8, e_X10_loose_11, e_X10_loose_12, e_X10_loose_13, e_X10_loose_16, e_X10_loose_17, e_X10_loose_18, e_X10_loose_21, e_X10_loose_24, e_X10_loose_25, e_X10_loose_26, e_X10_loose_29, e_X10_loose_30, e_X10_loose_31, e_X10_loose_34, e_X10_loose_37, e_X10_loose_38, e_X10_loose_39, e_X10_loose_42, e_X10_loose_43, e_X10_loose_44, e_X10_loose_46, e_X10_loose_47, e_X10_loose_50, e_X10_loose_51, e_X10_loose_54, e_X10_loose_55, e_X10_loose_58, e_X10_loose_59, e_X10_loose_62, e_X10_loose_65, e_X10_loose_66, e_X10_loose_67, e_X10_loose_68, e_X10_loose_69, e_X10_loose_72, e_X10_loose_73, e_X10_loose_76, e_X10_loose_79, e_X10_loose_81, e_X10_loose_82, e_X10_loose_83, e_X10_loose_84, e_X10_loose_85, e_X10_loose_86, e_X10_loose_89, e_X10_loose_92, e_X10_loose_93, e_X10_loose_94, e_X10_loose_97, e_X10_loose_100, e_X10_loose_103, e_X10_loose_104, e_X10_loose_107, vi, vl, vr, oc_X10_error, T_X10_error, oc_X6_draw, T_X6_draw, oc_X9_had, T_X9_had, oc_X9_pass, T_X9_pass, oc_X9_place, T_X9_place, ix_push, ix_iload, ix_lload, ix_aload, ix_istore, ix_astore, ix_iinc, ix_bin, ix_div, ix_un, ix_i2l, ix_l2i, ix_lbin, ix_lsh, ix_lcmp, ix_dup, ix_dup2, ix_pop, ix_if, ix_cmp, ix_goto, ix_switch, ix_sw, ix_iret, ix_zret, ix_vret, ix_aret, ix_geti, ix_getr, ix_puti, ix_putz, ix_puts, ix_gets, ix_iald, ix_iast, ix_alen, ix_aald, ix_gval, ix_gcod, ix_bald, ix_blen, ix_sald, ix_nret, ix_math2, ix_math1, ix_acopy, Nat.add_assoc, Int32.reduceLT, Int32.reduceLE, Int32.reduceToNatClampNeg, Int32.reduceSub, Int32.reduceAdd, Nat.reduceAdd, Nat.reduceLeDiff, true_or, or_true, or_false, false_or, not_false_eq_true, not_true_eq_false, false_implies, true_implies, implies_true, and_self, mB_0, mB_01, Classical.not_not, Nat.zero_le, List.getElem?_cons_zero, List.getElem?_cons_succ, List.set_cons_zero, List.set_cons_succ, ix_nl, ix_cs, true_and, and_true, Option.toList_some, Option.toList_none, List.cons_append, List.nil_append, h1, h2, h, m1, m2, e1, c1, c2, ix_up_ne, ix_up_k, ve_1, ve_2, ve_3, ve_4, ve_5]
      refine hQ _ _ ?_
      simp (decide := true) only [e_X11_loose_0, e_X11_loose_1, e_X11_loose_2, e_X11_loose_4, e_X11_loose_7, e_X11_loose_10, e_X11_loose_11, e_X11_loose_13, e_X11_loose_16, e_X11_loose_17, e_X11_loose_18, e_X11_loose_21, e_X11_loose_22, e_X11_loose_23, e_X11_loose_24, e_X11_loose_25, e_X11_loose_28, e_X11_loose_31, e_X11_loose_32, e_X11_loose_34, e_X11_loose_37, e_X11_loose_38, e_X11_loose_39, e_X11_loose_41, e_X11_loose_42, e_X11_loose_45, e_X11_loose_46, e_X11_loose_49, e_X11_loose_50, e_X11_loose_51, e_X11_loose_52, e_X11_loose_53, e_X11_loose_56, e_X11_loose_58, e_X11_loose_59, e_X11_loose_62, e_X11_loose_63, e_X11_loose_64, e_X11_loose_66, e_X11_loose_67, e_X11_loose_68, e_X11_loose_69, e_X11_loose_70, e_X11_loose_71, e_X11_loose_74, e_X11_loose_76, e_X11_loose_77, e_X11_loose_79, e_X11_loose_80, e_X11_loose_83, e_X11_loose_85, e_X11_loose_87, e_X11_loose_88, e_X11_loose_89, e_X11_loose_90, e_X11_loose_91, e_X11_loose_94, e_X11_loose_97, e_X11_loose_100, e_X11_loose_101, e_X11_loose_104, vi, vl, vr, oc_X11_drawn, T_X11_drawn, oc_X11_finding, T_X11_finding, oc_X11_had, T_X11_had, oc_X11_minute, T_X11_minute, oc_X11_within, T_X11_within, ix_push, ix_iload, ix_lload, ix_aload, ix_istore, ix_astore, ix_iinc, ix_bin, ix_div, ix_un, ix_i2l, ix_l2i, ix_lbin, ix_lsh, ix_lcmp, ix_dup, ix_dup2, ix_pop, ix_if, ix_cmp, ix_goto, ix_switch, ix_sw, ix_iret, ix_zret, ix_vret, ix_aret, ix_geti, ix_getr, ix_puti, ix_putz, ix_puts, ix_gets, ix_iald, ix_iast, ix_alen, ix_aald, ix_gval, ix_gcod, ix_bald, ix_blen, ix_sald, ix_nret, ix_math2, ix_math1, ix_acopy, ml_113, ml_114, ml_115, ml_116, ml_118, ml_119, ml_120, ml_121, ml_122, ml_123, ml_124, ml_125, ml_126, mv_0, mv_1, mv_2, mv_3, mv_4, mv_5, mB_or, Nat.add_assoc, Int32.reduceLT, Int32.reduceLE, Int32.reduceToNatClampNeg, Int32.reduceSub, Int32.reduceAdd, Nat.reduceAdd, Nat.reduceLeDiff, true_or, or_true, or_false, false_or, not_false_eq_true, not_true_eq_false, false_implies, true_implies, implies_true, and_self, mB_0, mB_01, Classical.not_not, Nat.zero_le, List.getElem?_cons_zero, List.getElem?_cons_succ, List.set_cons_zero, List.set_cons_succ, ix_nl, ix_cs, true_and, and_true, Option.toList_some, Option.toList_none, List.cons_append, List.nil_append, h1, h2, h, m1, m2, e1, c1, c2, ix_up_ne, ix_up_k, ve_1, ve_2, ve_3, ve_4, ve_5]
      repeat' (first | exact I.er 3 (by decide) | refine ⟨fun _ => ?_, fun _ => ?_⟩)
    · have c1 : nI (M + K) ≤ 9999 := nI_le (a := M + K) (b := 9999) (by omega) (by decide)
      have c2 : ¬ 9999 < nI (M + K) := Int32.not_lt.mpr c1
      simp (decide := true) only [e_X10_loose_0, e_X10_loose_1, e_X10_loose_2, e_X10_loose_5, e_X10_loose_6, e_X10_loose_8, e_X10_loose_11, e_X10_loose_12, e_X10_loose_13, e_X10_loose_16, e_X10_loose_17, e_X10_loose_18, e_X10_loose_21, e_X10_loose_24, e_X10_loose_25, e_X10_loose_26, e_X10_loose_29, e_X10_loose_30, e_X10_loose_31, e_X10_loose_34, e_X10_loose_37, e_X10_loose_38, e_X10_loose_39, e_X10_loose_42, e_X10_loose_43, e_X10_loose_44, e_X10_loose_46, e_X10_loose_47, e_X10_loose_50, e_X10_loose_51, e_X10_loose_54, e_X10_loose_55, e_X10_loose_58, e_X10_loose_59, e_X10_loose_62, e_X10_loose_65, e_X10_loose_66, e_X10_loose_67, e_X10_loose_68, e_X10_loose_69, e_X10_loose_72, e_X10_loose_73, e_X10_loose_76, e_X10_loose_79, e_X10_loose_81, e_X10_loose_82, e_X10_loose_83, e_X10_loose_84, e_X10_loose_85, e_X10_loose_86, e_X10_loose_89, e_X10_loose_92, e_X10_loose_93, e_X10_loose_94, e_X10_loose_97, e_X10_loose_100, e_X10_loose_103, e_X10_loose_104, e_X10_loose_107, vi, vl, vr, oc_X10_error, T_X10_error, oc_X6_draw, T_X6_draw, oc_X9_had, T_X9_had, oc_X9_pass, T_X9_pass, oc_X9_place, T_X9_place, ix_push, ix_iload, ix_lload, ix_aload, ix_istore, ix_astore, ix_iinc, ix_bin, ix_div, ix_un, ix_i2l, ix_l2i, ix_lbin, ix_lsh, ix_lcmp, ix_dup, ix_dup2, ix_pop, ix_if, ix_cmp, ix_goto, ix_switch, ix_sw, ix_iret, ix_zret, ix_vret, ix_aret, ix_geti, ix_getr, ix_puti, ix_putz, ix_puts, ix_gets, ix_iald, ix_iast, ix_alen, ix_aald, ix_gval, ix_gcod, ix_bald, ix_blen, ix_sald, ix_nret, ix_math2, ix_math1, ix_acopy, Nat.add_assoc, Int32.reduceLT, Int32.reduceLE, Int32.reduceToNatClampNeg, Int32.reduceSub, Int32.reduceAdd, Nat.reduceAdd, Nat.reduceLeDiff, true_or, or_true, or_false, false_or, not_false_eq_true, not_true_eq_false, false_implies, true_implies, implies_true, and_self, mB_0, mB_01, Classical.not_not, Nat.zero_le, List.getElem?_cons_zero, List.getElem?_cons_succ, List.set_cons_zero, List.set_cons_succ, ix_nl, ix_cs, true_and, and_true, Option.toList_some, Option.toList_none, List.cons_append, List.nil_append, h1, h2, h, m1, m2, e1, c1, c2, ix_up_ne, ix_up_k, ve_1, ve_2, ve_3, ve_4, ve_5]
      obtain ⟨s1, s2, s3, s4, s5, s6, s7⟩ := I.1
      refine l_X10_loose (M := M) (K := K) (ds := ds) (dl := dl) (μ0 := μ) (s0 := (nv (μ 113), μ 113 3)) (by omega) hL (fun μ1 F1 V1 Z1 W1 => hQ _ _ ?_) K 0 μ (by omega) Fx.rf I.hw s2 (by rw [I.hw]; exact hR)
      have e : μ1 113 = μ 113 := F1 113 (by decide)
      have m3 : μ1 113 0 = nI M := by rw [e]; exact m2
      simp (decide := true) only [e_X11_loose_0, e_X11_loose_1, e_X11_loose_2, e_X11_loose_4, e_X11_loose_7, e_X11_loose_10, e_X11_loose_11, e_X11_loose_13, e_X11_loose_16, e_X11_loose_17, e_X11_loose_18, e_X11_loose_21, e_X11_loose_22, e_X11_loose_23, e_X11_loose_24, e_X11_loose_25, e_X11_loose_28, e_X11_loose_31, e_X11_loose_32, e_X11_loose_34, e_X11_loose_37, e_X11_loose_38, e_X11_loose_39, e_X11_loose_41, e_X11_loose_42, e_X11_loose_45, e_X11_loose_46, e_X11_loose_49, e_X11_loose_50, e_X11_loose_51, e_X11_loose_52, e_X11_loose_53, e_X11_loose_56, e_X11_loose_58, e_X11_loose_59, e_X11_loose_62, e_X11_loose_63, e_X11_loose_64, e_X11_loose_66, e_X11_loose_67, e_X11_loose_68, e_X11_loose_69, e_X11_loose_70, e_X11_loose_71, e_X11_loose_74, e_X11_loose_76, e_X11_loose_77, e_X11_loose_79, e_X11_loose_80, e_X11_loose_83, e_X11_loose_85, e_X11_loose_87, e_X11_loose_88, e_X11_loose_89, e_X11_loose_90, e_X11_loose_91, e_X11_loose_94, e_X11_loose_97, e_X11_loose_100, e_X11_loose_101, e_X11_loose_104, vi, vl, vr, oc_X11_drawn, T_X11_drawn, oc_X11_finding, T_X11_finding, oc_X11_had, T_X11_had, oc_X11_minute, T_X11_minute, oc_X11_within, T_X11_within, ix_push, ix_iload, ix_lload, ix_aload, ix_istore, ix_astore, ix_iinc, ix_bin, ix_div, ix_un, ix_i2l, ix_l2i, ix_lbin, ix_lsh, ix_lcmp, ix_dup, ix_dup2, ix_pop, ix_if, ix_cmp, ix_goto, ix_switch, ix_sw, ix_iret, ix_zret, ix_vret, ix_aret, ix_geti, ix_getr, ix_puti, ix_putz, ix_puts, ix_gets, ix_iald, ix_iast, ix_alen, ix_aald, ix_gval, ix_gcod, ix_bald, ix_blen, ix_sald, ix_nret, ix_math2, ix_math1, ix_acopy, ml_113, ml_114, ml_115, ml_116, ml_118, ml_119, ml_120, ml_121, ml_122, ml_123, ml_124, ml_125, ml_126, mv_0, mv_1, mv_2, mv_3, mv_4, mv_5, mB_or, Nat.add_assoc, Int32.reduceLT, Int32.reduceLE, Int32.reduceToNatClampNeg, Int32.reduceSub, Int32.reduceAdd, Nat.reduceAdd, Nat.reduceLeDiff, true_or, or_true, or_false, false_or, not_false_eq_true, not_true_eq_false, false_implies, true_implies, implies_true, and_self, mB_0, mB_01, Classical.not_not, Nat.zero_le, List.getElem?_cons_zero, List.getElem?_cons_succ, List.set_cons_zero, List.set_cons_succ, ix_nl, ix_cs, true_and, and_true, Option.toList_some, Option.toList_none, List.cons_append, List.nil_append, h, m3, e1, c1, c2, ix_up_ne, ix_up_k, ve_1, ve_2, ve_3, ve_4, ve_5]
      refine l_X11_loose (M := M) (K := K) (ds := ds) (dl := dl) (μ0 := μ1) (s0 := (nv (μ 113), μ 113 3)) (by omega) (by rw [F1 112 (by decide)]; exact I.2.2.2.2.2.2.1) (fun μ2 F2 V2 Z2 R2 => pst rfl ?_) K 0 μ1 _ _ (by omega) Fx.rf (by rw [e]; rfl) (by rw [e]; rfl) (fun _ _ _ => rfl) (by rw [e]; exact x1) (by rw [e]; exact x2) (by rw [e]; exact hR)
      have f2 : ∀ j, rst j → j ≠ 3 → μ2 113 j = μ 113 j := fun j hj h3 => by rw [R2 j hj h3, e]
      have g1 : ∀ a, a ≠ 1 → a ≠ 2 → a ≠ 4 → a ≠ 5 → a ≠ 8 → a ≠ 9 → a ≠ 14 → a ≠ 18 → a ≠ 113 → a ≠ 119 → a ≠ 120 → μ2 a = μ a := fun a b1 b2 b3 b4 b5 b6 b7 b8 b9 b10 b11 => by rw [F2 a (by simp [b9, b10, b11]), F1 a (by simp [b1, b2, b3, b4, b5, b6, b7, b8])]
      have g2 : ∀ a, 10 ≤ a → a ≤ 23 → a ≠ 14 → a ≠ 18 → μ2 a = μ a := fun a b1 b2 b3 b4 => g1 a (by omega) (by omega) (by omega) (by omega) (by omega) (by omega) b3 b4 (by omega) (by omega) (by omega)
      refine I.now (L := [1, 2, 4, 5, 8, 9, 14, 18, 113, 119, 120]) (Fx.tr (F1.mono (by decide)) (F2.mono (by decide))) (by decide) ⟨⟨?_, M + K, by omega, by rw [V2]; exact W1⟩, ?_, CT_fx s3 (g2 19 (by decide) (by decide) (by decide) (by decide)) (g2 20 (by decide) (by decide) (by decide) (by decide)) (fun j hj => f2 j (by unfold rst; omega) (by omega)), CA_fx s4 (g2 21 (by decide) (by decide) (by decide) (by decide)) (g2 22 (by decide) (by decide) (by decide) (by decide)) (fun j hj => f2 j (by unfold rst; omega) (by omega)), CN_fx s5 (g2 23 (by decide) (by decide) (by decide) (by decide)) (fun j hj => f2 j (by unfold rst; omega) (by omega)), CX_fx s6 (g2 12 (by decide) (by decide) (by decide) (by decide)) (g2 13 (by decide) (by decide) (by decide) (by decide)) (fun j hj => f2 j (by unfold rst; omega) (by omega)), CX_fx s7 (g2 16 (by decide) (by decide) (by decide) (by decide)) (g2 17 (by decide) (by decide) (by decide) (by decide)) (fun j hj => f2 j (by unfold rst; omega) (by omega))⟩ (by decide)
      · rw [V2, ← V1]
        exact wv_fx (fun r hr => F2 _ (by simp; omega))
      · rw [F2 1 (by decide), Z1, Z2]
  · by_cases c : n < 1
    · simp (decide := true) only [e_X10_loose_0, e_X10_loose_1, e_X10_loose_2, e_X10_loose_5, e_X10_loose_6, e_X10_loose_8, e_X10_loose_11, e_X10_loose_12, e_X10_loose_13, e_X10_loose_16, e_X10_loose_17, e_X10_loose_18, e_X10_loose_21, e_X10_loose_24, e_X10_loose_25, e_X10_loose_26, e_X10_loose_29, e_X10_loose_30, e_X10_loose_31, e_X10_loose_34, e_X10_loose_37, e_X10_loose_38, e_X10_loose_39, e_X10_loose_42, e_X10_loose_43, e_X10_loose_44, e_X10_loose_46, e_X10_loose_47, e_X10_loose_50, e_X10_loose_51, e_X10_loose_54, e_X10_loose_55, e_X10_loose_58, e_X10_loose_59, e_X10_loose_62, e_X10_loose_65, e_X10_loose_66, e_X10_loose_67, e_X10_loose_68, e_X10_loose_69, e_X10_loose_72, e_X10_loose_73, e_X10_loose_76, e_X10_loose_79, e_X10_loose_81, e_X10_loose_82, e_X10_loose_83, e_X10_loose_84, e_X10_loose_85, e_X10_loose_86, e_X10_loose_89, e_X10_loose_92, e_X10_loose_93, e_X10_loose_94, e_X10_loose_97, e_X10_loose_100, e_X10_loose_103, e_X10_loose_104, e_X10_loose_107, vi, vl, vr, oc_X10_error, T_X10_error, oc_X6_draw, T_X6_draw, oc_X9_had, T_X9_had, oc_X9_pass, T_X9_pass, oc_X9_place, T_X9_place, ix_push, ix_iload, ix_lload, ix_aload, ix_istore, ix_astore, ix_iinc, ix_bin, ix_div, ix_un, ix_i2l, ix_l2i, ix_lbin, ix_lsh, ix_lcmp, ix_dup, ix_dup2, ix_pop, ix_if, ix_cmp, ix_goto, ix_switch, ix_sw, ix_iret, ix_zret, ix_vret, ix_aret, ix_geti, ix_getr, ix_puti, ix_putz, ix_puts, ix_gets, ix_iald, ix_iast, ix_alen, ix_aald, ix_gval, ix_gcod, ix_bald, ix_blen, ix_sald, ix_nret, ix_math2, ix_math1, ix_acopy, Nat.add_assoc, Int32.reduceLT, Int32.reduceLE, Int32.reduceToNatClampNeg, Int32.reduceSub, Int32.reduceAdd, Nat.reduceAdd, Nat.reduceLeDiff, true_or, or_true, or_false, false_or, not_false_eq_true, not_true_eq_false, false_implies, true_implies, implies_true, and_self, mB_0, mB_01, Classical.not_not, Nat.zero_le, List.getElem?_cons_zero, List.getElem?_cons_succ, List.set_cons_zero, List.set_cons_succ, ix_nl, ix_cs, true_and, and_true, Option.toList_some, Option.toList_none, List.cons_append, List.nil_append, c, ix_up_ne, ix_up_k, ve_1, ve_2, ve_3, ve_4, ve_5]
      refine hQ _ _ ?_
      simp (decide := true) only [e_X11_loose_0, e_X11_loose_1, e_X11_loose_2, e_X11_loose_4, e_X11_loose_7, e_X11_loose_10, e_X11_loose_11, e_X11_loose_13, e_X11_loose_16, e_X11_loose_17, e_X11_loose_18, e_X11_loose_21, e_X11_loose_22, e_X11_loose_23, e_X11_loose_24, e_X11_loose_25, e_X11_loose_28, e_X11_loose_31, e_X11_loose_32, e_X11_loose_34, e_X11_loose_37, e_X11_loose_38, e_X11_loose_39, e_X11_loose_41, e_X11_loose_42, e_X11_loose_45, e_X11_loose_46, e_X11_loose_49, e_X11_loose_50, e_X11_loose_51, e_X11_loose_52, e_X11_loose_53, e_X11_loose_56, e_X11_loose_58, e_X11_loose_59, e_X11_loose_62, e_X11_loose_63, e_X11_loose_64, e_X11_loose_66, e_X11_loose_67, e_X11_loose_68, e_X11_loose_69, e_X11_loose_70, e_X11_loose_71, e_X11_loose_74, e_X11_loose_76, e_X11_loose_77, e_X11_loose_79, e_X11_loose_80, e_X11_loose_83, e_X11_loose_85, e_X11_loose_87, e_X11_loose_88, e_X11_loose_89, e_X11_loose_90, e_X11_loose_91, e_X11_loose_94, e_X11_loose_97, e_X11_loose_100, e_X11_loose_101, e_X11_loose_104, vi, vl, vr, oc_X11_drawn, T_X11_drawn, oc_X11_finding, T_X11_finding, oc_X11_had, T_X11_had, oc_X11_minute, T_X11_minute, oc_X11_within, T_X11_within, ix_push, ix_iload, ix_lload, ix_aload, ix_istore, ix_astore, ix_iinc, ix_bin, ix_div, ix_un, ix_i2l, ix_l2i, ix_lbin, ix_lsh, ix_lcmp, ix_dup, ix_dup2, ix_pop, ix_if, ix_cmp, ix_goto, ix_switch, ix_sw, ix_iret, ix_zret, ix_vret, ix_aret, ix_geti, ix_getr, ix_puti, ix_putz, ix_puts, ix_gets, ix_iald, ix_iast, ix_alen, ix_aald, ix_gval, ix_gcod, ix_bald, ix_blen, ix_sald, ix_nret, ix_math2, ix_math1, ix_acopy, ml_113, ml_114, ml_115, ml_116, ml_118, ml_119, ml_120, ml_121, ml_122, ml_123, ml_124, ml_125, ml_126, mv_0, mv_1, mv_2, mv_3, mv_4, mv_5, mB_or, Nat.add_assoc, Int32.reduceLT, Int32.reduceLE, Int32.reduceToNatClampNeg, Int32.reduceSub, Int32.reduceAdd, Nat.reduceAdd, Nat.reduceLeDiff, true_or, or_true, or_false, false_or, not_false_eq_true, not_true_eq_false, false_implies, true_implies, implies_true, and_self, mB_0, mB_01, Classical.not_not, Nat.zero_le, List.getElem?_cons_zero, List.getElem?_cons_succ, List.set_cons_zero, List.set_cons_succ, ix_nl, ix_cs, true_and, and_true, Option.toList_some, Option.toList_none, List.cons_append, List.nil_append, h, ix_up_ne, ix_up_k, ve_1, ve_2, ve_3, ve_4, ve_5]
      exact I.er 1 (by decide)
    · have c2 : ¬ n ≤ 40 := fun z => h ⟨Int32.not_lt.mp c, z⟩
      have c3 : 40 < n := Int32.not_le.mp c2
      simp (decide := true) only [e_X10_loose_0, e_X10_loose_1, e_X10_loose_2, e_X10_loose_5, e_X10_loose_6, e_X10_loose_8, e_X10_loose_11, e_X10_loose_12, e_X10_loose_13, e_X10_loose_16, e_X10_loose_17, e_X10_loose_18, e_X10_loose_21, e_X10_loose_24, e_X10_loose_25, e_X10_loose_26, e_X10_loose_29, e_X10_loose_30, e_X10_loose_31, e_X10_loose_34, e_X10_loose_37, e_X10_loose_38, e_X10_loose_39, e_X10_loose_42, e_X10_loose_43, e_X10_loose_44, e_X10_loose_46, e_X10_loose_47, e_X10_loose_50, e_X10_loose_51, e_X10_loose_54, e_X10_loose_55, e_X10_loose_58, e_X10_loose_59, e_X10_loose_62, e_X10_loose_65, e_X10_loose_66, e_X10_loose_67, e_X10_loose_68, e_X10_loose_69, e_X10_loose_72, e_X10_loose_73, e_X10_loose_76, e_X10_loose_79, e_X10_loose_81, e_X10_loose_82, e_X10_loose_83, e_X10_loose_84, e_X10_loose_85, e_X10_loose_86, e_X10_loose_89, e_X10_loose_92, e_X10_loose_93, e_X10_loose_94, e_X10_loose_97, e_X10_loose_100, e_X10_loose_103, e_X10_loose_104, e_X10_loose_107, vi, vl, vr, oc_X10_error, T_X10_error, oc_X6_draw, T_X6_draw, oc_X9_had, T_X9_had, oc_X9_pass, T_X9_pass, oc_X9_place, T_X9_place, ix_push, ix_iload, ix_lload, ix_aload, ix_istore, ix_astore, ix_iinc, ix_bin, ix_div, ix_un, ix_i2l, ix_l2i, ix_lbin, ix_lsh, ix_lcmp, ix_dup, ix_dup2, ix_pop, ix_if, ix_cmp, ix_goto, ix_switch, ix_sw, ix_iret, ix_zret, ix_vret, ix_aret, ix_geti, ix_getr, ix_puti, ix_putz, ix_puts, ix_gets, ix_iald, ix_iast, ix_alen, ix_aald, ix_gval, ix_gcod, ix_bald, ix_blen, ix_sald, ix_nret, ix_math2, ix_math1, ix_acopy, Nat.add_assoc, Int32.reduceLT, Int32.reduceLE, Int32.reduceToNatClampNeg, Int32.reduceSub, Int32.reduceAdd, Nat.reduceAdd, Nat.reduceLeDiff, true_or, or_true, or_false, false_or, not_false_eq_true, not_true_eq_false, false_implies, true_implies, implies_true, and_self, mB_0, mB_01, Classical.not_not, Nat.zero_le, List.getElem?_cons_zero, List.getElem?_cons_succ, List.set_cons_zero, List.set_cons_succ, ix_nl, ix_cs, true_and, and_true, Option.toList_some, Option.toList_none, List.cons_append, List.nil_append, c, c2, c3, ix_up_ne, ix_up_k, ve_1, ve_2, ve_3, ve_4, ve_5]
      refine hQ _ _ ?_
      simp (decide := true) only [e_X11_loose_0, e_X11_loose_1, e_X11_loose_2, e_X11_loose_4, e_X11_loose_7, e_X11_loose_10, e_X11_loose_11, e_X11_loose_13, e_X11_loose_16, e_X11_loose_17, e_X11_loose_18, e_X11_loose_21, e_X11_loose_22, e_X11_loose_23, e_X11_loose_24, e_X11_loose_25, e_X11_loose_28, e_X11_loose_31, e_X11_loose_32, e_X11_loose_34, e_X11_loose_37, e_X11_loose_38, e_X11_loose_39, e_X11_loose_41, e_X11_loose_42, e_X11_loose_45, e_X11_loose_46, e_X11_loose_49, e_X11_loose_50, e_X11_loose_51, e_X11_loose_52, e_X11_loose_53, e_X11_loose_56, e_X11_loose_58, e_X11_loose_59, e_X11_loose_62, e_X11_loose_63, e_X11_loose_64, e_X11_loose_66, e_X11_loose_67, e_X11_loose_68, e_X11_loose_69, e_X11_loose_70, e_X11_loose_71, e_X11_loose_74, e_X11_loose_76, e_X11_loose_77, e_X11_loose_79, e_X11_loose_80, e_X11_loose_83, e_X11_loose_85, e_X11_loose_87, e_X11_loose_88, e_X11_loose_89, e_X11_loose_90, e_X11_loose_91, e_X11_loose_94, e_X11_loose_97, e_X11_loose_100, e_X11_loose_101, e_X11_loose_104, vi, vl, vr, oc_X11_drawn, T_X11_drawn, oc_X11_finding, T_X11_finding, oc_X11_had, T_X11_had, oc_X11_minute, T_X11_minute, oc_X11_within, T_X11_within, ix_push, ix_iload, ix_lload, ix_aload, ix_istore, ix_astore, ix_iinc, ix_bin, ix_div, ix_un, ix_i2l, ix_l2i, ix_lbin, ix_lsh, ix_lcmp, ix_dup, ix_dup2, ix_pop, ix_if, ix_cmp, ix_goto, ix_switch, ix_sw, ix_iret, ix_zret, ix_vret, ix_aret, ix_geti, ix_getr, ix_puti, ix_putz, ix_puts, ix_gets, ix_iald, ix_iast, ix_alen, ix_aald, ix_gval, ix_gcod, ix_bald, ix_blen, ix_sald, ix_nret, ix_math2, ix_math1, ix_acopy, ml_113, ml_114, ml_115, ml_116, ml_118, ml_119, ml_120, ml_121, ml_122, ml_123, ml_124, ml_125, ml_126, mv_0, mv_1, mv_2, mv_3, mv_4, mv_5, mB_or, Nat.add_assoc, Int32.reduceLT, Int32.reduceLE, Int32.reduceToNatClampNeg, Int32.reduceSub, Int32.reduceAdd, Nat.reduceAdd, Nat.reduceLeDiff, true_or, or_true, or_false, false_or, not_false_eq_true, not_true_eq_false, false_implies, true_implies, implies_true, and_self, mB_0, mB_01, Classical.not_not, Nat.zero_le, List.getElem?_cons_zero, List.getElem?_cons_succ, List.set_cons_zero, List.set_cons_succ, ix_nl, ix_cs, true_and, and_true, Option.toList_some, Option.toList_none, List.cons_append, List.nil_append, h, ix_up_ne, ix_up_k, ve_1, ve_2, ve_3, ve_4, ve_5]
      exact I.er 1 (by decide)
