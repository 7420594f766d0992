/-! ===== calls, class against model: match ===== -/
def o_X10_match : List (Nat × ix_Op) := [
  (0, ix_iload 1 1),
  (1, ix_push (vi (-1)) 2),
  (2, ix_cmp (fun x y => x < y) 11 5),
  (5, ix_iload 1 6),
  (6, ix_push (vi 6) 8),
  (8, ix_cmp (fun x y => x < y) 17 11),
  (11, ix_aload 0 12),
  (12, ix_push (vi 1) 13),
  (13, oc_X10_error 16),
  (16, ix_iret),
  (17, ix_aload 0 18),
  (18, ix_getr 9 1 (fun _ => 96) 21),
  (21, ix_aload 0 22),
  (22, ix_getr 9 5 (fun _ => 1) 25),
  (25, oc_X2_fill 28),
  (28, ix_iload 1 29),
  (29, ix_push (vi (-1)) 30),
  (30, ix_cmp (fun x y => x = y) 33 43),
  (33, ix_aload 0 34),
  (34, ix_getr 9 1 (fun _ => 96) 37),
  (37, oc_X2_mostServed 40),
  (40, ix_goto 51),
  (43, ix_aload 0 44),
  (44, ix_getr 9 1 (fun _ => 96) 47),
  (47, ix_iload 1 48),
  (48, oc_X2_boatOf 51),
  (51, ix_iret)]
set_option maxRecDepth 20000 in
theorem a_X10_match (l : Launch) : ix_AllS l cX10_match 2 RX10 60 (some .int) o_X10_match :=
  .cons (ix_s_iload_n dX10_match_0 rfl) <|
  .cons (ix_s_iconst dX10_match_1 (by decide +kernel)) <|
  .cons (ix_s_cmp_lt dX10_match_2 (by decide)) <|
  .cons (ix_s_iload_n dX10_match_5 rfl) <|
  .cons (ix_s_bipush dX10_match_6 (by decide +kernel)) <|
  .cons (ix_s_cmp_lt dX10_match_8 (by decide)) <|
  .cons (ix_s_aload_n dX10_match_11 rfl) <|
  .cons (ix_s_iconst dX10_match_12 (by decide +kernel)) <|
  .cons (oc_X10_error_s (ix_s_callv (t := 9) (k_X10_error l) (by decide) (by decide) tw_295 tw_1 tw_292 tw_294 tp_0 ⟨by decide, by decide, by decide +kernel⟩ (by decide) rfl rfl (fun _ => ⟨_, _, rfl, rfl⟩) dX10_match_13)) <|
  .cons (ix_s_iret dX10_match_16 rfl) <|
  .cons (ix_s_aload_n dX10_match_17 rfl) <|
  .cons (ix_s_getr (j := 6) tu_X10 rfl (by decide) (by decide) tw_257 rfl ts_9_6_r dX10_match_18) <|
  .cons (ix_s_aload_n dX10_match_21 rfl) <|
  .cons (ix_s_getr (j := 0) tu_X10 rfl (by decide) (by decide) tw_251 rfl ts_9_0_r dX10_match_22) <|
  .cons (oc_X2_fill_s (ix_s_callv (t := 1) (k_X2_fill l) (by decide) (by decide) tw_695 tw_10 tw_692 tw_693 tw_694 ⟨by decide, by decide, by decide +kernel⟩ (by decide) rfl rfl (fun _ => ⟨_, _, rfl, rfl⟩) dX10_match_25)) <|
  .cons (ix_s_iload_n dX10_match_28 rfl) <|
  .cons (ix_s_iconst dX10_match_29 (by decide +kernel)) <|
  .cons (ix_s_cmp_ne dX10_match_30 (by decide)) <|
  .cons (ix_s_aload_n dX10_match_33 rfl) <|
  .cons (ix_s_getr (j := 6) tu_X10 rfl (by decide) (by decide) tw_257 rfl ts_9_6_r dX10_match_34) <|
  .cons (oc_X2_mostServed_s (ix_s_callv (t := 1) (k_X2_mostServed l) (by decide) (by decide) tw_716 tw_10 tw_713 tw_714 tw_715 ⟨by decide, by decide, by decide +kernel⟩ (by decide) rfl rfl (fun _ => ⟨_, _, rfl, rfl⟩) dX10_match_37)) <|
  .cons (ix_s_goto dX10_match_40 (by decide)) <|
  .cons (ix_s_aload_n dX10_match_43 rfl) <|
  .cons (ix_s_getr (j := 6) tu_X10 rfl (by decide) (by decide) tw_257 rfl ts_9_6_r dX10_match_44) <|
  .cons (ix_s_iload_n dX10_match_47 rfl) <|
  .cons (oc_X2_boatOf_s (ix_s_callv (t := 1) (k_X2_boatOf l) (by decide) (by decide) tw_720 tw_10 tw_717 tw_718 tw_719 ⟨by decide, by decide, by decide +kernel⟩ (by decide) rfl rfl (fun _ => ⟨_, _, rfl, rfl⟩) dX10_match_48)) <|
  .cons (ix_s_iret dX10_match_51 rfl) <| .nil
theorem e_X10_match_0 (Q : ix_R → Prop) (ls : ix_L) (st : List ix_V) (μ : ix_M) : ix_Ev o_X10_match Q (0, ls, st, μ) = ix_iload 1 1 (ix_Ev o_X10_match Q) Q ls st μ := ix_Ev.eq (a_X10_match launch0) rfl ls st μ
theorem e_X10_match_1 (Q : ix_R → Prop) (ls : ix_L) (st : List ix_V) (μ : ix_M) : ix_Ev o_X10_match Q (1, ls, st, μ) = ix_push (vi (-1)) 2 (ix_Ev o_X10_match Q) Q ls st μ := ix_Ev.eq (a_X10_match launch0) rfl ls st μ
theorem e_X10_match_2 (Q : ix_R → Prop) (ls : ix_L) (st : List ix_V) (μ : ix_M) : ix_Ev o_X10_match Q (2, ls, st, μ) = ix_cmp (fun x y => x < y) 11 5 (ix_Ev o_X10_match Q) Q ls st μ := ix_Ev.eq (a_X10_match launch0) rfl ls st μ
theorem e_X10_match_5 (Q : ix_R → Prop) (ls : ix_L) (st : List ix_V) (μ : ix_M) : ix_Ev o_X10_match Q (5, ls, st, μ) = ix_iload 1 6 (ix_Ev o_X10_match Q) Q ls st μ := ix_Ev.eq (a_X10_match launch0) rfl ls st μ
theorem e_X10_match_6 (Q : ix_R → Prop) (ls : ix_L) (st : List ix_V) (μ : ix_M) : ix_Ev o_X10_match Q (6, ls, st, μ) = ix_push (vi 6) 8 (ix_Ev o_X10_match Q) Q ls st μ := ix_Ev.eq (a_X10_match launch0) rfl ls st μ
theorem e_X10_match_8 (Q : ix_R → Prop) (ls : ix_L) (st : List ix_V) (μ : ix_M) : ix_Ev o_X10_match Q (8, ls, st, μ) = ix_cmp (fun x y => x < y) 17 11 (ix_Ev o_X10_match Q) Q ls st μ := ix_Ev.eq (a_X10_match launch0) rfl ls st μ
theorem e_X10_match_11 (Q : ix_R → Prop) (ls : ix_L) (st : List ix_V) (μ : ix_M) : ix_Ev o_X10_match Q (11, ls, st, μ) = ix_aload 0 12 (ix_Ev o_X10_match Q) Q ls st μ := ix_Ev.eq (a_X10_match launch0) rfl ls st μ
theorem e_X10_match_12 (Q : ix_R → Prop) (ls : ix_L) (st : List ix_V) (μ : ix_M) : ix_Ev o_X10_match Q (12, ls, st, μ) = ix_push (vi 1) 13 (ix_Ev o_X10_match Q) Q ls st μ := ix_Ev.eq (a_X10_match launch0) rfl ls st μ
theorem e_X10_match_13 (Q : ix_R → Prop) (ls : ix_L) (st : List ix_V) (μ : ix_M) : ix_Ev o_X10_match Q (13, ls, st, μ) = oc_X10_error 16 (ix_Ev o_X10_match Q) Q ls st μ := ix_Ev.eq (a_X10_match launch0) rfl ls st μ
theorem e_X10_match_16 (Q : ix_R → Prop) (ls : ix_L) (st : List ix_V) (μ : ix_M) : ix_Ev o_X10_match Q (16, ls, st, μ) = ix_iret (ix_Ev o_X10_match Q) Q ls st μ := ix_Ev.eq (a_X10_match launch0) rfl ls st μ
theorem e_X10_match_17 (Q : ix_R → Prop) (ls : ix_L) (st : List ix_V) (μ : ix_M) : ix_Ev o_X10_match Q (17, ls, st, μ) = ix_aload 0 18 (ix_Ev o_X10_match Q) Q ls st μ := ix_Ev.eq (a_X10_match launch0) rfl ls st μ
theorem e_X10_match_18 (Q : ix_R → Prop) (ls : ix_L) (st : List ix_V) (μ : ix_M) : ix_Ev o_X10_match Q (18, ls, st, μ) = ix_getr 9 1 (fun _ => 96) 21 (ix_Ev o_X10_match Q) Q ls st μ := ix_Ev.eq (a_X10_match launch0) rfl ls st μ
theorem e_X10_match_21 (Q : ix_R → Prop) (ls : ix_L) (st : List ix_V) (μ : ix_M) : ix_Ev o_X10_match Q (21, ls, st, μ) = ix_aload 0 22 (ix_Ev o_X10_match Q) Q ls st μ := ix_Ev.eq (a_X10_match launch0) rfl ls st μ
theorem e_X10_match_22 (Q : ix_R → Prop) (ls : ix_L) (st : List ix_V) (μ : ix_M) : ix_Ev o_X10_match Q (22, ls, st, μ) = ix_getr 9 5 (fun _ => 1) 25 (ix_Ev o_X10_match Q) Q ls st μ := ix_Ev.eq (a_X10_match launch0) rfl ls st μ
theorem e_X10_match_25 (Q : ix_R → Prop) (ls : ix_L) (st : List ix_V) (μ : ix_M) : ix_Ev o_X10_match Q (25, ls, st, μ) = oc_X2_fill 28 (ix_Ev o_X10_match Q) Q ls st μ := ix_Ev.eq (a_X10_match launch0) rfl ls st μ
theorem e_X10_match_28 (Q : ix_R → Prop) (ls : ix_L) (st : List ix_V) (μ : ix_M) : ix_Ev o_X10_match Q (28, ls, st, μ) = ix_iload 1 29 (ix_Ev o_X10_match Q) Q ls st μ := ix_Ev.eq (a_X10_match launch0) rfl ls st μ
theorem e_X10_match_29 (Q : ix_R → Prop) (ls : ix_L) (st : List ix_V) (μ : ix_M) : ix_Ev o_X10_match Q (29, ls, st, μ) = ix_push (vi (-1)) 30 (ix_Ev o_X10_match Q) Q ls st μ := ix_Ev.eq (a_X10_match launch0) rfl ls st μ
theorem e_X10_match_30 (Q : ix_R → Prop) (ls : ix_L) (st : List ix_V) (μ : ix_M) : ix_Ev o_X10_match Q (30, ls, st, μ) = ix_cmp (fun x y => x = y) 33 43 (ix_Ev o_X10_match Q) Q ls st μ := ix_Ev.eq (a_X10_match launch0) rfl ls st μ
theorem e_X10_match_33 (Q : ix_R → Prop) (ls : ix_L) (st : List ix_V) (μ : ix_M) : ix_Ev o_X10_match Q (33, ls, st, μ) = ix_aload 0 34 (ix_Ev o_X10_match Q) Q ls st μ := ix_Ev.eq (a_X10_match launch0) rfl ls st μ
theorem e_X10_match_34 (Q : ix_R → Prop) (ls : ix_L) (st : List ix_V) (μ : ix_M) : ix_Ev o_X10_match Q (34, ls, st, μ) = ix_getr 9 1 (fun _ => 96) 37 (ix_Ev o_X10_match Q) Q ls st μ := ix_Ev.eq (a_X10_match launch0) rfl ls st μ
theorem e_X10_match_37 (Q : ix_R → Prop) (ls : ix_L) (st : List ix_V) (μ : ix_M) : ix_Ev o_X10_match Q (37, ls, st, μ) = oc_X2_mostServed 40 (ix_Ev o_X10_match Q) Q ls st μ := ix_Ev.eq (a_X10_match launch0) rfl ls st μ
theorem e_X10_match_40 (Q : ix_R → Prop) (ls : ix_L) (st : List ix_V) (μ : ix_M) : ix_Ev o_X10_match Q (40, ls, st, μ) = ix_goto 51 (ix_Ev o_X10_match Q) Q ls st μ := ix_Ev.eq (a_X10_match launch0) rfl ls st μ
theorem e_X10_match_43 (Q : ix_R → Prop) (ls : ix_L) (st : List ix_V) (μ : ix_M) : ix_Ev o_X10_match Q (43, ls, st, μ) = ix_aload 0 44 (ix_Ev o_X10_match Q) Q ls st μ := ix_Ev.eq (a_X10_match launch0) rfl ls st μ
theorem e_X10_match_44 (Q : ix_R → Prop) (ls : ix_L) (st : List ix_V) (μ : ix_M) : ix_Ev o_X10_match Q (44, ls, st, μ) = ix_getr 9 1 (fun _ => 96) 47 (ix_Ev o_X10_match Q) Q ls st μ := ix_Ev.eq (a_X10_match launch0) rfl ls st μ
theorem e_X10_match_47 (Q : ix_R → Prop) (ls : ix_L) (st : List ix_V) (μ : ix_M) : ix_Ev o_X10_match Q (47, ls, st, μ) = ix_iload 1 48 (ix_Ev o_X10_match Q) Q ls st μ := ix_Ev.eq (a_X10_match launch0) rfl ls st μ
theorem e_X10_match_48 (Q : ix_R → Prop) (ls : ix_L) (st : List ix_V) (μ : ix_M) : ix_Ev o_X10_match Q (48, ls, st, μ) = oc_X2_boatOf 51 (ix_Ev o_X10_match Q) Q ls st μ := ix_Ev.eq (a_X10_match launch0) rfl ls st μ
theorem e_X10_match_51 (Q : ix_R → Prop) (ls : ix_L) (st : List ix_V) (μ : ix_M) : ix_Ev o_X10_match Q (51, ls, st, μ) = ix_iret (ix_Ev o_X10_match Q) Q ls st μ := ix_Ev.eq (a_X10_match launch0) rfl ls st μ
def o_X11_match : List (Nat × ix_Op) := [
  (0, ix_iload 1 1),
  (1, ix_push (vi (-1)) 2),
  (2, ix_push (vi 5) 3),
  (3, oc_X11_within 6),
  (6, ix_if (fun x => x = 0) 9 16),
  (9, ix_aload 0 10),
  (10, ix_push (vi (-1000000001)) 12),
  (12, oc_X11_finding 15),
  (15, ix_iret),
  (16, ix_aload 0 17),
  (17, oc_X11_areServed 20),
  (20, ix_iload 1 21),
  (21, ix_if (fun x => 0 ≤ x) 31 24),
  (24, ix_aload 0 25),
  (25, ix_getr 10 20 (fun _ => 121) 28),
  (28, ix_push (vi 0) 29),
  (29, ix_iald 30),
  (30, ix_iret),
  (31, ix_push (vi 0) 32),
  (32, ix_istore 2 33),
  (33, ix_push (vi 0) 34),
  (34, ix_istore 3 35),
  (35, ix_push (vi 0) 36),
  (36, ix_istore 4 38),
  (38, ix_iload 4 40),
  (40, ix_iload 1 41),
  (41, ix_cmp (fun x y => y < x) 107 44),
  (44, ix_push (vi 0) 45),
  (45, ix_istore 3 46),
  (46, ix_aload 0 47),
  (47, ix_iload 2 48),
  (48, ix_iload 3 49),
  (49, oc_X11_mayHave 52),
  (52, ix_if (fun x => x = 0) 79 55),
  (55, ix_aload 0 56),
  (56, ix_iload 4 58),
  (58, ix_iload 2 59),
  (59, ix_iload 3 60),
  (60, oc_X11_servedWith 63),
  (63, ix_aload 0 64),
  (64, ix_getr 10 20 (fun _ => 121) 67),
  (67, ix_push (vi 256) 70),
  (70, ix_iload 4 72),
  (72, ix_bin (fun x y => x * y) 73),
  (73, ix_iload 2 74),
  (74, ix_bin (fun x y => x + y) 75),
  (75, ix_iald 76),
  (76, ix_cmp (fun x y => y ≤ x) 85 79),
  (79, ix_iinc 3 1 82),
  (82, ix_goto 46),
  (85, ix_iload 2 86),
  (86, ix_iload 3 87),
  (87, ix_push (vi 8) 89),
  (89, ix_cmp (fun x y => x = y) 92 96),
  (92, ix_push (vi 0) 93),
  (93, ix_goto 99),
  (96, ix_push (vi 1) 97),
  (97, ix_iload 3 98),
  (98, ix_bin (fun x y => x <<< (y &&& 31)) 99),
  (99, ix_bin (fun x y => x ||| y) 100),
  (100, ix_istore 2 101),
  (101, ix_iinc 4 1 104),
  (104, ix_goto 38),
  (107, ix_iload 3 108),
  (108, ix_iret)]
set_option maxRecDepth 20000 in
theorem a_X11_match (l : Launch) : ix_AllS l cX11_match 5 RX11 60 (some .int) o_X11_match :=
  .cons (ix_s_iload_n dX11_match_0 rfl) <|
  .cons (ix_s_iconst dX11_match_1 (by decide +kernel)) <|
  .cons (ix_s_iconst dX11_match_2 (by decide +kernel)) <|
  .cons (oc_X11_within_s (ix_s_calls (k_X11_within l) (by decide) (by decide) tw_960 tw_12 tw_958 tw_959 ⟨by decide, by decide, by decide +kernel⟩ (fun _ => rfl) dX11_match_3)) <|
  .cons (ix_s_if_ne dX11_match_6 (by decide)) <|
  .cons (ix_s_aload_n dX11_match_9 rfl) <|
  .cons (ix_s_ldc tw_961 dX11_match_10) <|
  .cons (oc_X11_finding_s (ix_s_callv (t := 10) (k_X11_finding l) (by decide) (by decide) tw_965 tw_12 tw_962 tw_964 tp_18 ⟨by decide, by decide, by decide +kernel⟩ (by decide) rfl rfl (fun _ => ⟨_, _, rfl, rfl⟩) dX11_match_12)) <|
  .cons (ix_s_iret dX11_match_15 rfl) <|
  .cons (ix_s_aload_n dX11_match_16 rfl) <|
  .cons (oc_X11_areServed_s (ix_s_callv (t := 10) (k_X11_areServed l) (by decide) (by decide) tw_1281 tw_12 tw_1278 tw_1280 tp_54 ⟨by decide, by decide, by decide +kernel⟩ (by decide) rfl rfl (fun _ => ⟨_, _, rfl, rfl⟩) dX11_match_17)) <|
  .cons (ix_s_iload_n dX11_match_20 rfl) <|
  .cons (ix_s_if_ge dX11_match_21 (by decide)) <|
  .cons (ix_s_aload_n dX11_match_24 rfl) <|
  .cons (ix_s_getr (j := 16) tu_X11 rfl (by decide) (by decide) tw_891 rfl ts_10_16_r dX11_match_25) <|
  .cons (ix_s_iconst dX11_match_28 (by decide +kernel)) <|
  .cons (ix_s_iald dX11_match_29) <|
  .cons (ix_s_iret dX11_match_30 rfl) <|
  .cons (ix_s_iconst dX11_match_31 (by decide +kernel)) <|
  .cons (ix_s_istore_n dX11_match_32 rfl (by decide)) <|
  .cons (ix_s_iconst dX11_match_33 (by decide +kernel)) <|
  .cons (ix_s_istore_n dX11_match_34 rfl (by decide)) <|
  .cons (ix_s_iconst dX11_match_35 (by decide +kernel)) <|
  .cons (ix_s_istore dX11_match_36 (by decide)) <|
  .cons (ix_s_iload dX11_match_38) <|
  .cons (ix_s_iload_n dX11_match_40 rfl) <|
  .cons (ix_s_cmp_gt dX11_match_41 (by decide)) <|
  .cons (ix_s_iconst dX11_match_44 (by decide +kernel)) <|
  .cons (ix_s_istore_n dX11_match_45 rfl (by decide)) <|
  .cons (ix_s_aload_n dX11_match_46 rfl) <|
  .cons (ix_s_iload_n dX11_match_47 rfl) <|
  .cons (ix_s_iload_n dX11_match_48 rfl) <|
  .cons (oc_X11_mayHave_s (ix_s_callv (t := 10) (k_X11_mayHave l) (by decide) (by decide) tw_1285 tw_12 tw_1282 tw_1284 tp_55 ⟨by decide, by decide, by decide +kernel⟩ (by decide) rfl rfl (fun _ => ⟨_, _, rfl, rfl⟩) dX11_match_49)) <|
  .cons (ix_s_if_eq dX11_match_52 (by decide)) <|
  .cons (ix_s_aload_n dX11_match_55 rfl) <|
  .cons (ix_s_iload dX11_match_56) <|
  .cons (ix_s_iload_n dX11_match_58 rfl) <|
  .cons (ix_s_iload_n dX11_match_59 rfl) <|
  .cons (oc_X11_servedWith_s (ix_s_callv (t := 10) (k_X11_servedWith l) (by decide) (by decide) tw_1289 tw_12 tw_1286 tw_1288 tp_56 ⟨by decide, by decide, by decide +kernel⟩ (by decide) rfl rfl (fun _ => ⟨_, _, rfl, rfl⟩) dX11_match_60)) <|
  .cons (ix_s_aload_n dX11_match_63 rfl) <|
  .cons (ix_s_getr (j := 16) tu_X11 rfl (by decide) (by decide) tw_891 rfl ts_10_16_r dX11_match_64) <|
  .cons (ix_s_sipush dX11_match_67 (by decide +kernel)) <|
  .cons (ix_s_iload dX11_match_70) <|
  .cons (ix_s_imul dX11_match_72) <|
  .cons (ix_s_iload_n dX11_match_73 rfl) <|
  .cons (ix_s_iadd dX11_match_74) <|
  .cons (ix_s_iald dX11_match_75) <|
  .cons (ix_s_cmp_ge dX11_match_76 (by decide)) <|
  .cons (ix_s_iinc dX11_match_79 (by decide +kernel) (by decide)) <|
  .cons (ix_s_goto dX11_match_82 (by decide)) <|
  .cons (ix_s_iload_n dX11_match_85 rfl) <|
  .cons (ix_s_iload_n dX11_match_86 rfl) <|
  .cons (ix_s_bipush dX11_match_87 (by decide +kernel)) <|
  .cons (ix_s_cmp_ne dX11_match_89 (by decide)) <|
  .cons (ix_s_iconst dX11_match_92 (by decide +kernel)) <|
  .cons (ix_s_goto dX11_match_93 (by decide)) <|
  .cons (ix_s_iconst dX11_match_96 (by decide +kernel)) <|
  .cons (ix_s_iload_n dX11_match_97 rfl) <|
  .cons (ix_s_ishl dX11_match_98) <|
  .cons (ix_s_ior dX11_match_99) <|
  .cons (ix_s_istore_n dX11_match_100 rfl (by decide)) <|
  .cons (ix_s_iinc dX11_match_101 (by decide +kernel) (by decide)) <|
  .cons (ix_s_goto dX11_match_104 (by decide)) <|
  .cons (ix_s_iload_n dX11_match_107 rfl) <|
  .cons (ix_s_iret dX11_match_108 rfl) <| .nil
theorem e_X11_match_0 (Q : ix_R → Prop) (ls : ix_L) (st : List ix_V) (μ : ix_M) : ix_Ev o_X11_match Q (0, ls, st, μ) = ix_iload 1 1 (ix_Ev o_X11_match Q) Q ls st μ := ix_Ev.eq (a_X11_match launch0) rfl ls st μ
theorem e_X11_match_1 (Q : ix_R → Prop) (ls : ix_L) (st : List ix_V) (μ : ix_M) : ix_Ev o_X11_match Q (1, ls, st, μ) = ix_push (vi (-1)) 2 (ix_Ev o_X11_match Q) Q ls st μ := ix_Ev.eq (a_X11_match launch0) rfl ls st μ
theorem e_X11_match_2 (Q : ix_R → Prop) (ls : ix_L) (st : List ix_V) (μ : ix_M) : ix_Ev o_X11_match Q (2, ls, st, μ) = ix_push (vi 5) 3 (ix_Ev o_X11_match Q) Q ls st μ := ix_Ev.eq (a_X11_match launch0) rfl ls st μ
theorem e_X11_match_3 (Q : ix_R → Prop) (ls : ix_L) (st : List ix_V) (μ : ix_M) : ix_Ev o_X11_match Q (3, ls, st, μ) = oc_X11_within 6 (ix_Ev o_X11_match Q) Q ls st μ := ix_Ev.eq (a_X11_match launch0) rfl ls st μ
theorem e_X11_match_6 (Q : ix_R → Prop) (ls : ix_L) (st : List ix_V) (μ : ix_M) : ix_Ev o_X11_match Q (6, ls, st, μ) = ix_if (fun x => x = 0) 9 16 (ix_Ev o_X11_match Q) Q ls st μ := ix_Ev.eq (a_X11_match launch0) rfl ls st μ
theorem e_X11_match_9 (Q : ix_R → Prop) (ls : ix_L) (st : List ix_V) (μ : ix_M) : ix_Ev o_X11_match Q (9, ls, st, μ) = ix_aload 0 10 (ix_Ev o_X11_match Q) Q ls st μ := ix_Ev.eq (a_X11_match launch0) rfl ls st μ
theorem e_X11_match_10 (Q : ix_R → Prop) (ls : ix_L) (st : List ix_V) (μ : ix_M) : ix_Ev o_X11_match Q (10, ls, st, μ) = ix_push (vi (-1000000001)) 12 (ix_Ev o_X11_match Q) Q ls st μ := ix_Ev.eq (a_X11_match launch0) rfl ls st μ
theorem e_X11_match_12 (Q : ix_R → Prop) (ls : ix_L) (st : List ix_V) (μ : ix_M) : ix_Ev o_X11_match Q (12, ls, st, μ) = oc_X11_finding 15 (ix_Ev o_X11_match Q) Q ls st μ := ix_Ev.eq (a_X11_match launch0) rfl ls st μ
theorem e_X11_match_15 (Q : ix_R → Prop) (ls : ix_L) (st : List ix_V) (μ : ix_M) : ix_Ev o_X11_match Q (15, ls, st, μ) = ix_iret (ix_Ev o_X11_match Q) Q ls st μ := ix_Ev.eq (a_X11_match launch0) rfl ls st μ
theorem e_X11_match_16 (Q : ix_R → Prop) (ls : ix_L) (st : List ix_V) (μ : ix_M) : ix_Ev o_X11_match Q (16, ls, st, μ) = ix_aload 0 17 (ix_Ev o_X11_match Q) Q ls st μ := ix_Ev.eq (a_X11_match launch0) rfl ls st μ
theorem e_X11_match_17 (Q : ix_R → Prop) (ls : ix_L) (st : List ix_V) (μ : ix_M) : ix_Ev o_X11_match Q (17, ls, st, μ) = oc_X11_areServed 20 (ix_Ev o_X11_match Q) Q ls st μ := ix_Ev.eq (a_X11_match launch0) rfl ls st μ
theorem e_X11_match_20 (Q : ix_R → Prop) (ls : ix_L) (st : List ix_V) (μ : ix_M) : ix_Ev o_X11_match Q (20, ls, st, μ) = ix_iload 1 21 (ix_Ev o_X11_match Q) Q ls st μ := ix_Ev.eq (a_X11_match launch0) rfl ls st μ
theorem e_X11_match_21 (Q : ix_R → Prop) (ls : ix_L) (st : List ix_V) (μ : ix_M) : ix_Ev o_X11_match Q (21, ls, st, μ) = ix_if (fun x => 0 ≤ x) 31 24 (ix_Ev o_X11_match Q) Q ls st μ := ix_Ev.eq (a_X11_match launch0) rfl ls st μ
theorem e_X11_match_24 (Q : ix_R → Prop) (ls : ix_L) (st : List ix_V) (μ : ix_M) : ix_Ev o_X11_match Q (24, ls, st, μ) = ix_aload 0 25 (ix_Ev o_X11_match Q) Q ls st μ := ix_Ev.eq (a_X11_match launch0) rfl ls st μ
theorem e_X11_match_25 (Q : ix_R → Prop) (ls : ix_L) (st : List ix_V) (μ : ix_M) : ix_Ev o_X11_match Q (25, ls, st, μ) = ix_getr 10 20 (fun _ => 121) 28 (ix_Ev o_X11_match Q) Q ls st μ := ix_Ev.eq (a_X11_match launch0) rfl ls st μ
theorem e_X11_match_28 (Q : ix_R → Prop) (ls : ix_L) (st : List ix_V) (μ : ix_M) : ix_Ev o_X11_match Q (28, ls, st, μ) = ix_push (vi 0) 29 (ix_Ev o_X11_match Q) Q ls st μ := ix_Ev.eq (a_X11_match launch0) rfl ls st μ
theorem e_X11_match_29 (Q : ix_R → Prop) (ls : ix_L) (st : List ix_V) (μ : ix_M) : ix_Ev o_X11_match Q (29, ls, st, μ) = ix_iald 30 (ix_Ev o_X11_match Q) Q ls st μ := ix_Ev.eq (a_X11_match launch0) rfl ls st μ
theorem e_X11_match_30 (Q : ix_R → Prop) (ls : ix_L) (st : List ix_V) (μ : ix_M) : ix_Ev o_X11_match Q (30, ls, st, μ) = ix_iret (ix_Ev o_X11_match Q) Q ls st μ := ix_Ev.eq (a_X11_match launch0) rfl ls st μ
theorem e_X11_match_31 (Q : ix_R → Prop) (ls : ix_L) (st : List ix_V) (μ : ix_M) : ix_Ev o_X11_match Q (31, ls, st, μ) = ix_push (vi 0) 32 (ix_Ev o_X11_match Q) Q ls st μ := ix_Ev.eq (a_X11_match launch0) rfl ls st μ
theorem e_X11_match_32 (Q : ix_R → Prop) (ls : ix_L) (st : List ix_V) (μ : ix_M) : ix_Ev o_X11_match Q (32, ls, st, μ) = ix_istore 2 33 (ix_Ev o_X11_match Q) Q ls st μ := ix_Ev.eq (a_X11_match launch0) rfl ls st μ
theorem e_X11_match_33 (Q : ix_R → Prop) (ls : ix_L) (st : List ix_V) (μ : ix_M) : ix_Ev o_X11_match Q (33, ls, st, μ) = ix_push (vi 0) 34 (ix_Ev o_X11_match Q) Q ls st μ := ix_Ev.eq (a_X11_match launch0) rfl ls st μ
theorem e_X11_match_34 (Q : ix_R → Prop) (ls : ix_L) (st : List ix_V) (μ : ix_M) : ix_Ev o_X11_match Q (34, ls, st, μ) = ix_istore 3 35 (ix_Ev o_X11_match Q) Q ls st μ := ix_Ev.eq (a_X11_match launch0) rfl ls st μ
theorem e_X11_match_35 (Q : ix_R → Prop) (ls : ix_L) (st : List ix_V) (μ : ix_M) : ix_Ev o_X11_match Q (35, ls, st, μ) = ix_push (vi 0) 36 (ix_Ev o_X11_match Q) Q ls st μ := ix_Ev.eq (a_X11_match launch0) rfl ls st μ
theorem e_X11_match_36 (Q : ix_R → Prop) (ls : ix_L) (st : List ix_V) (μ : ix_M) : ix_Ev o_X11_match Q (36, ls, st, μ) = ix_istore 4 38 (ix_Ev o_X11_match Q) Q ls st μ := ix_Ev.eq (a_X11_match launch0) rfl ls st μ
theorem e_X11_match_38 (Q : ix_R → Prop) (ls : ix_L) (st : List ix_V) (μ : ix_M) : ix_Ev o_X11_match Q (38, ls, st, μ) = ix_iload 4 40 (ix_Ev o_X11_match Q) Q ls st μ := ix_Ev.eq (a_X11_match launch0) rfl ls st μ
theorem e_X11_match_40 (Q : ix_R → Prop) (ls : ix_L) (st : List ix_V) (μ : ix_M) : ix_Ev o_X11_match Q (40, ls, st, μ) = ix_iload 1 41 (ix_Ev o_X11_match Q) Q ls st μ := ix_Ev.eq (a_X11_match launch0) rfl ls st μ
theorem e_X11_match_41 (Q : ix_R → Prop) (ls : ix_L) (st : List ix_V) (μ : ix_M) : ix_Ev o_X11_match Q (41, ls, st, μ) = ix_cmp (fun x y => y < x) 107 44 (ix_Ev o_X11_match Q) Q ls st μ := ix_Ev.eq (a_X11_match launch0) rfl ls st μ
theorem e_X11_match_44 (Q : ix_R → Prop) (ls : ix_L) (st : List ix_V) (μ : ix_M) : ix_Ev o_X11_match Q (44, ls, st, μ) = ix_push (vi 0) 45 (ix_Ev o_X11_match Q) Q ls st μ := ix_Ev.eq (a_X11_match launch0) rfl ls st μ
theorem e_X11_match_45 (Q : ix_R → Prop) (ls : ix_L) (st : List ix_V) (μ : ix_M) : ix_Ev o_X11_match Q (45, ls, st, μ) = ix_istore 3 46 (ix_Ev o_X11_match Q) Q ls st μ := ix_Ev.eq (a_X11_match launch0) rfl ls st μ
theorem e_X11_match_46 (Q : ix_R → Prop) (ls : ix_L) (st : List ix_V) (μ : ix_M) : ix_Ev o_X11_match Q (46, ls, st, μ) = ix_aload 0 47 (ix_Ev o_X11_match Q) Q ls st μ := ix_Ev.eq (a_X11_match launch0) rfl ls st μ
theorem e_X11_match_47 (Q : ix_R → Prop) (ls : ix_L) (st : List ix_V) (μ : ix_M) : ix_Ev o_X11_match Q (47, ls, st, μ) = ix_iload 2 48 (ix_Ev o_X11_match Q) Q ls st μ := ix_Ev.eq (a_X11_match launch0) rfl ls st μ
theorem e_X11_match_48 (Q : ix_R → Prop) (ls : ix_L) (st : List ix_V) (μ : ix_M) : ix_Ev o_X11_match Q (48, ls, st, μ) = ix_iload 3 49 (ix_Ev o_X11_match Q) Q ls st μ := ix_Ev.eq (a_X11_match launch0) rfl ls st μ
theorem e_X11_match_49 (Q : ix_R → Prop) (ls : ix_L) (st : List ix_V) (μ : ix_M) : ix_Ev o_X11_match Q (49, ls, st, μ) = oc_X11_mayHave 52 (ix_Ev o_X11_match Q) Q ls st μ := ix_Ev.eq (a_X11_match launch0) rfl ls st μ
theorem e_X11_match_52 (Q : ix_R → Prop) (ls : ix_L) (st : List ix_V) (μ : ix_M) : ix_Ev o_X11_match Q (52, ls, st, μ) = ix_if (fun x => x = 0) 79 55 (ix_Ev o_X11_match Q) Q ls st μ := ix_Ev.eq (a_X11_match launch0) rfl ls st μ
theorem e_X11_match_55 (Q : ix_R → Prop) (ls : ix_L) (st : List ix_V) (μ : ix_M) : ix_Ev o_X11_match Q (55, ls, st, μ) = ix_aload 0 56 (ix_Ev o_X11_match Q) Q ls st μ := ix_Ev.eq (a_X11_match launch0) rfl ls st μ
theorem e_X11_match_56 (Q : ix_R → Prop) (ls : ix_L) (st : List ix_V) (μ : ix_M) : ix_Ev o_X11_match Q (56, ls, st, μ) = ix_iload 4 58 (ix_Ev o_X11_match Q) Q ls st μ := ix_Ev.eq (a_X11_match launch0) rfl ls st μ
theorem e_X11_match_58 (Q : ix_R → Prop) (ls : ix_L) (st : List ix_V) (μ : ix_M) : ix_Ev o_X11_match Q (58, ls, st, μ) = ix_iload 2 59 (ix_Ev o_X11_match Q) Q ls st μ := ix_Ev.eq (a_X11_match launch0) rfl ls st μ
theorem e_X11_match_59 (Q : ix_R → Prop) (ls : ix_L) (st : List ix_V) (μ : ix_M) : ix_Ev o_X11_match Q (59, ls, st, μ) = ix_iload 3 60 (ix_Ev o_X11_match Q) Q ls st μ := ix_Ev.eq (a_X11_match launch0) rfl ls st μ
theorem e_X11_match_60 (Q : ix_R → Prop) (ls : ix_L) (st : List ix_V) (μ : ix_M) : ix_Ev o_X11_match Q (60, ls, st, μ) = oc_X11_servedWith 63 (ix_Ev o_X11_match Q) Q ls st μ := ix_Ev.eq (a_X11_match launch0) rfl ls st μ
theorem e_X11_match_63 (Q : ix_R → Prop) (ls : ix_L) (st : List ix_V) (μ : ix_M) : ix_Ev o_X11_match Q (63, ls, st, μ) = ix_aload 0 64 (ix_Ev o_X11_match Q) Q ls st μ := ix_Ev.eq (a_X11_match launch0) rfl ls st μ
theorem e_X11_match_64 (Q : ix_R → Prop) (ls : ix_L) (st : List ix_V) (μ : ix_M) : ix_Ev o_X11_match Q (64, ls, st, μ) = ix_getr 10 20 (fun _ => 121) 67 (ix_Ev o_X11_match Q) Q ls st μ := ix_Ev.eq (a_X11_match launch0) rfl ls st μ
theorem e_X11_match_67 (Q : ix_R → Prop) (ls : ix_L) (st : List ix_V) (μ : ix_M) : ix_Ev o_X11_match Q (67, ls, st, μ) = ix_push (vi 256) 70 (ix_Ev o_X11_match Q) Q ls st μ := ix_Ev.eq (a_X11_match launch0) rfl ls st μ
theorem e_X11_match_70 (Q : ix_R → Prop) (ls : ix_L) (st : List ix_V) (μ : ix_M) : ix_Ev o_X11_match Q (70, ls, st, μ) = ix_iload 4 72 (ix_Ev o_X11_match Q) Q ls st μ := ix_Ev.eq (a_X11_match launch0) rfl ls st μ
theorem e_X11_match_72 (Q : ix_R → Prop) (ls : ix_L) (st : List ix_V) (μ : ix_M) : ix_Ev o_X11_match Q (72, ls, st, μ) = ix_bin (fun x y => x * y) 73 (ix_Ev o_X11_match Q) Q ls st μ := ix_Ev.eq (a_X11_match launch0) rfl ls st μ
theorem e_X11_match_73 (Q : ix_R → Prop) (ls : ix_L) (st : List ix_V) (μ : ix_M) : ix_Ev o_X11_match Q (73, ls, st, μ) = ix_iload 2 74 (ix_Ev o_X11_match Q) Q ls st μ := ix_Ev.eq (a_X11_match launch0) rfl ls st μ
theorem e_X11_match_74 (Q : ix_R → Prop) (ls : ix_L) (st : List ix_V) (μ : ix_M) : ix_Ev o_X11_match Q (74, ls, st, μ) = ix_bin (fun x y => x + y) 75 (ix_Ev o_X11_match Q) Q ls st μ := ix_Ev.eq (a_X11_match launch0) rfl ls st μ
theorem e_X11_match_75 (Q : ix_R → Prop) (ls : ix_L) (st : List ix_V) (μ : ix_M) : ix_Ev o_X11_match Q (75, ls, st, μ) = ix_iald 76 (ix_Ev o_X11_match Q) Q ls st μ := ix_Ev.eq (a_X11_match launch0) rfl ls st μ
theorem e_X11_match_76 (Q : ix_R → Prop) (ls : ix_L) (st : List ix_V) (μ : ix_M) : ix_Ev o_X11_match Q (76, ls, st, μ) = ix_cmp (fun x y => y ≤ x) 85 79 (ix_Ev o_X11_match Q) Q ls st μ := ix_Ev.eq (a_X11_match launch0) rfl ls st μ
theorem e_X11_match_79 (Q : ix_R → Prop) (ls : ix_L) (st : List ix_V) (μ : ix_M) : ix_Ev o_X11_match Q (79, ls, st, μ) = ix_iinc 3 1 82 (ix_Ev o_X11_match Q) Q ls st μ := ix_Ev.eq (a_X11_match launch0) rfl ls st μ
theorem e_X11_match_82 (Q : ix_R → Prop) (ls : ix_L) (st : List ix_V) (μ : ix_M) : ix_Ev o_X11_match Q (82, ls, st, μ) = ix_goto 46 (ix_Ev o_X11_match Q) Q ls st μ := ix_Ev.eq (a_X11_match launch0) rfl ls st μ
theorem e_X11_match_85 (Q : ix_R → Prop) (ls : ix_L) (st : List ix_V) (μ : ix_M) : ix_Ev o_X11_match Q (85, ls, st, μ) = ix_iload 2 86 (ix_Ev o_X11_match Q) Q ls st μ := ix_Ev.eq (a_X11_match launch0) rfl ls st μ
theorem e_X11_match_86 (Q : ix_R → Prop) (ls : ix_L) (st : List ix_V) (μ : ix_M) : ix_Ev o_X11_match Q (86, ls, st, μ) = ix_iload 3 87 (ix_Ev o_X11_match Q) Q ls st μ := ix_Ev.eq (a_X11_match launch0) rfl ls st μ
theorem e_X11_match_87 (Q : ix_R → Prop) (ls : ix_L) (st : List ix_V) (μ : ix_M) : ix_Ev o_X11_match Q (87, ls, st, μ) = ix_push (vi 8) 89 (ix_Ev o_X11_match Q) Q ls st μ := ix_Ev.eq (a_X11_match launch0) rfl ls st μ
theorem e_X11_match_89 (Q : ix_R → Prop) (ls : ix_L) (st : List ix_V) (μ : ix_M) : ix_Ev o_X11_match Q (89, ls, st, μ) = ix_cmp (fun x y => x = y) 92 96 (ix_Ev o_X11_match Q) Q ls st μ := ix_Ev.eq (a_X11_match launch0) rfl ls st μ
theorem e_X11_match_92 (Q : ix_R → Prop) (ls : ix_L) (st : List ix_V) (μ : ix_M) : ix_Ev o_X11_match Q (92, ls, st, μ) = ix_push (vi 0) 93 (ix_Ev o_X11_match Q) Q ls st μ := ix_Ev.eq (a_X11_match launch0) rfl ls st μ
theorem e_X11_match_93 (Q : ix_R → Prop) (ls : ix_L) (st : List ix_V) (μ : ix_M) : ix_Ev o_X11_match Q (93, ls, st, μ) = ix_goto 99 (ix_Ev o_X11_match Q) Q ls st μ := ix_Ev.eq (a_X11_match launch0) rfl ls st μ
theorem e_X11_match_96 (Q : ix_R → Prop) (ls : ix_L) (st : List ix_V) (μ : ix_M) : ix_Ev o_X11_match Q (96, ls, st, μ) = ix_push (vi 1) 97 (ix_Ev o_X11_match Q) Q ls st μ := ix_Ev.eq (a_X11_match launch0) rfl ls st μ
theorem e_X11_match_97 (Q : ix_R → Prop) (ls : ix_L) (st : List ix_V) (μ : ix_M) : ix_Ev o_X11_match Q (97, ls, st, μ) = ix_iload 3 98 (ix_Ev o_X11_match Q) Q ls st μ := ix_Ev.eq (a_X11_match launch0) rfl ls st μ
theorem e_X11_match_98 (Q : ix_R → Prop) (ls : ix_L) (st : List ix_V) (μ : ix_M) : ix_Ev o_X11_match Q (98, ls, st, μ) = ix_bin (fun x y => x <<< (y &&& 31)) 99 (ix_Ev o_X11_match Q) Q ls st μ := ix_Ev.eq (a_X11_match launch0) rfl ls st μ
theorem e_X11_match_99 (Q : ix_R → Prop) (ls : ix_L) (st : List ix_V) (μ : ix_M) : ix_Ev o_X11_match Q (99, ls, st, μ) = ix_bin (fun x y => x ||| y) 100 (ix_Ev o_X11_match Q) Q ls st μ := ix_Ev.eq (a_X11_match launch0) rfl ls st μ
theorem e_X11_match_100 (Q : ix_R → Prop) (ls : ix_L) (st : List ix_V) (μ : ix_M) : ix_Ev o_X11_match Q (100, ls, st, μ) = ix_istore 2 101 (ix_Ev o_X11_match Q) Q ls st μ := ix_Ev.eq (a_X11_match launch0) rfl ls st μ
theorem e_X11_match_101 (Q : ix_R → Prop) (ls : ix_L) (st : List ix_V) (μ : ix_M) : ix_Ev o_X11_match Q (101, ls, st, μ) = ix_iinc 4 1 104 (ix_Ev o_X11_match Q) Q ls st μ := ix_Ev.eq (a_X11_match launch0) rfl ls st μ
theorem e_X11_match_104 (Q : ix_R → Prop) (ls : ix_L) (st : List ix_V) (μ : ix_M) : ix_Ev o_X11_match Q (104, ls, st, μ) = ix_goto 38 (ix_Ev o_X11_match Q) Q ls st μ := ix_Ev.eq (a_X11_match launch0) rfl ls st μ
theorem e_X11_match_107 (Q : ix_R → Prop) (ls : ix_L) (st : List ix_V) (μ : ix_M) : ix_Ev o_X11_match Q (107, ls, st, μ) = ix_iload 3 108 (ix_Ev o_X11_match Q) Q ls st μ := ix_Ev.eq (a_X11_match launch0) rfl ls st μ
theorem e_X11_match_108 (Q : ix_R → Prop) (ls : ix_L) (st : List ix_V) (μ : ix_M) : ix_Ev o_X11_match Q (108, ls, st, μ) = ix_iret (ix_Ev o_X11_match Q) Q ls st μ := ix_Ev.eq (a_X11_match launch0) rfl ls st μ
theorem mFrom_up {sv : Nat → Int32} {wa : Int32} {ba : Nat → Int32} {t : Nat} : ∀ (n i : Nat), i < n → fr t i = true → (mMin wa (ba i) + sv (t + 2 ^ i)).toInt ≤ (mFrom sv wa ba t n).toInt
  | 0, i, h, _ => absurd h (Nat.not_lt_zero i)
  | n + 1, i, h, hf => by
    unfold mFrom
    by_cases c : i = n
    · subst c
      rw [if_pos hf, mMax_toInt]
      omega
    · have ih := mFrom_up (sv := sv) (wa := wa) (ba := ba) (t := t) n i (by omega) hf
      split
      · rw [mMax_toInt]
        omega
      · exact ih
theorem mFrom_at {sv : Nat → Int32} {wa : Int32} {ba : Nat → Int32} {t : Nat} : ∀ n, mFrom sv wa ba t n = sv t ∨ ∃ i, i < n ∧ fr t i = true ∧ mMin wa (ba i) + sv (t + 2 ^ i) = mFrom sv wa ba t n
  | 0 => Or.inl rfl
  | n + 1 => by
    have ih := mFrom_at (sv := sv) (wa := wa) (ba := ba) (t := t) n
    unfold mFrom
    by_cases c : fr t n = true
    · rw [if_pos c]
      unfold mMax
      by_cases k : mFrom sv wa ba t n < mMin wa (ba n) + sv (t + 2 ^ n)
      · rw [if_pos k]
        exact Or.inr ⟨n, by omega, c, rfl⟩
      · rw [if_neg k]
        rcases ih with h | ⟨i, h1, h2, h3⟩
        · exact Or.inl h
        · exact Or.inr ⟨i, by omega, h2, h3⟩
    · rw [if_neg c]
      rcases ih with h | ⟨i, h1, h2, h3⟩
      · exact Or.inl h
      · exact Or.inr ⟨i, by omega, h2, h3⟩
theorem mFrom_ba {sv sv' : Nat → Int32} {wa : Int32} {ba ba' : Nat → Int32} {t : Nat} (h : ∀ b, b < 8 → ba b = ba' b) (hs : sv = sv') : ∀ n, n ≤ 8 → mFrom sv wa ba t n = mFrom sv' wa ba' t n
  | 0, _ => by
    subst hs
    rfl
  | n + 1, hn => by
    unfold mFrom
    rw [mFrom_ba h hs n (by omega), h n (by omega), hs]
theorem svD_c {wa wa' ba ba' : Nat → Int32} {N : Nat} (hN : N ≤ 8) (h1 : ∀ w, w < 6 → wa w = wa' w) (h2 : ∀ b, b < 8 → ba b = ba' b) : ∀ k, k ≤ 6 → svD wa ba N k = svD wa' ba' N k
  | 0, _ => rfl
  | k + 1, hk => by
    funext t
    rw [svD, svD, h1 _ (by omega)]
    exact mFrom_ba h2 (svD_c hN h1 h2 k (by omega)) N hN
theorem mFb_c {p p' : Nat → Bool} : ∀ (k i : Nat), (∀ j, j < i + k → p j = p' j) → mFb p k i = mFb p' k i
  | 0, _, _ => rfl
  | k + 1, i, h => by
    rw [mFb, mFb, h i (by omega), mFb_c k (i + 1) (fun j hj => h j (by omega))]
theorem mFb_no {p : Nat → Bool} : ∀ (k i j : Nat), i ≤ j → j < i + k → j < mFb p k i → p j = false
  | 0, i, j, h1, h2, _ => absurd h2 (by omega)
  | k + 1, i, j, h1, h2, h3 => by
    rw [mFb] at h3
    by_cases c : p i = true
    · rw [if_pos c] at h3
      omega
    · rw [if_neg c] at h3
      by_cases e : j = i
      · subst e
        simpa using c
      · exact mFb_no k (i + 1) j (by omega) (by omega) h3
theorem bO_c {sv sv' wa wa' ba ba' : Nat → Int32} {N : Nat} (hN : N ≤ 8) (h0 : ∀ w, w ≤ 6 → ∀ t, t < 2 ^ N → sv (256 * w + t) = sv' (256 * w + t)) (h1 : ∀ w, w < 6 → wa w = wa' w) (h2 : ∀ b, b < 8 → ba b = ba' b) : ∀ w, w ≤ 6 → bO sv wa ba N w = bO sv' wa' ba' N w
  | 0, _ => rfl
  | w + 1, hw => by
    have ih := bO_c hN h0 h1 h2 w (by omega)
    have hlt := (bO_lt (sv := sv') (wa := wa') (ba := ba') hN w).2
    have e : mFb (bP sv wa ba w (bO sv' wa' ba' N w).2) N 0 = mFb (bP sv' wa' ba' w (bO sv' wa' ba' N w).2) N 0 := mFb_c N 0 (fun j hj => by
      unfold bP
      by_cases c : fr (bO sv' wa' ba' N w).2 j = true
      · have := fr_lt N hN _ hlt j (by omega) c
        rw [h0 (w + 1) (by omega) _ this, h0 w (by omega) _ hlt, h1 w (by omega), h2 j (by omega)]
      · simp [c])
    simp only [bO]
    rw [ih, e]
theorem l2_X11_match {N W T B : Nat} {w : Int32} {μ : ix_M} {Q : ix_R → Prop} {wa ba : Nat → Int32} (hN : N ≤ 8) (hn : μ 113 1 = nI N) (hW : W < 6) (hT : T < 2 ^ N) (hwa : wa = mWa (μ 113)) (hba : ba = mBa (μ 113)) (hB : B = mFb (bP (μ 121) wa ba W T) N 0) (hsv : μ 121 (256 * W + T) = mFrom (fun x => μ 121 (256 * (W + 1) + x)) (wa W) ba T N) (K : ix_Ev o_X11_match Q (38, [some (vr 10 112), some (vi w), some (vi (nI (if B < 8 then T + 2 ^ B else T))), some (vi (nI B)), some (vi (nI (W + 1)))], [], μ)) : ∀ (k b : Nat), b + k = B → ix_Ev o_X11_match Q (46, [some (vr 10 112), some (vi w), some (vi (nI T)), some (vi (nI b)), some (vi (nI W))], [], μ) := by
  have h256 := p2le N hN
  have hx : 256 * nI W + nI T = nI (256 * W + T) := by rw [fa_lit 256, show nI 256 * nI W = nI (256 * W) from (Int32.ofNat_mul 256 W).symm, nI_add]
  have c1 : (nI (256 * W + T)).toNatClampNeg = 256 * W + T := nI_clamp (by omega)
  have i1 : vp_in (nI (256 * W + T)) 1792 := vp_in_nI (by omega) (by decide)
  have hW1 : nI W + 1 = nI (W + 1) := nI_1 W
  have sp := mFb_spec (p := bP (μ 121) wa ba W T) N 0
  rw [← hB] at sp
  intro k
  induction k with
  | zero =>
    intro b hb
    have hb : b = B := hb
    subst hb
    have n1 : nI b + 1 = nI (b + 1) := nI_1 b
    by_cases c8 : b = 8
    · subst c8
      have z8 : nI 8 = 8 := rfl
      have n9 : (8 : Int32) + 1 = nI 9 := by decide
      rw [if_neg (by decide)] at K
      rw [e_X11_match_46]
      simp (decide := true) only [e_X11_match_0, e_X11_match_1, e_X11_match_2, e_X11_match_3, e_X11_match_6, e_X11_match_9, e_X11_match_10, e_X11_match_12, e_X11_match_15, e_X11_match_16, e_X11_match_17, e_X11_match_20, e_X11_match_21, e_X11_match_24, e_X11_match_25, e_X11_match_28, e_X11_match_29, e_X11_match_30, e_X11_match_31, e_X11_match_32, e_X11_match_33, e_X11_match_34, e_X11_match_35, e_X11_match_36, e_X11_match_40, e_X11_match_41, e_X11_match_44, e_X11_match_45, e_X11_match_47, e_X11_match_48, e_X11_match_49, e_X11_match_52, e_X11_match_55, e_X11_match_56, e_X11_match_58, e_X11_match_59, e_X11_match_60, e_X11_match_63, e_X11_match_64, e_X11_match_67, e_X11_match_70, e_X11_match_72, e_X11_match_73, e_X11_match_74, e_X11_match_75, e_X11_match_76, e_X11_match_79, e_X11_match_82, e_X11_match_85, e_X11_match_86, e_X11_match_87, e_X11_match_89, e_X11_match_92, e_X11_match_93, e_X11_match_96, e_X11_match_97, e_X11_match_98, e_X11_match_99, e_X11_match_100, e_X11_match_101, e_X11_match_104, e_X11_match_107, e_X11_match_108, vi, vl, vr, oc_X11_areServed, T_X11_areServed, oc_X11_finding, T_X11_finding, oc_X11_mayHave, T_X11_mayHave, oc_X11_servedWith, T_X11_servedWith, oc_X11_within, T_X11_within, ix_push, ix_iload, ix_lload, ix_aload, ix_istore, ix_astore, ix_iinc, ix_bin, ix_div, ix_un, ix_i2l, ix_l2i, ix_lbin, ix_lsh, ix_lcmp, ix_dup, ix_dup2, ix_pop, ix_if, ix_cmp, ix_goto, ix_switch, ix_sw, ix_iret, ix_zret, ix_vret, ix_aret, ix_geti, ix_getr, ix_puti, ix_putz, ix_puts, ix_gets, ix_iald, ix_iast, ix_alen, ix_aald, ix_gval, ix_gcod, ix_bald, ix_blen, ix_sald, ix_nret, ix_math2, ix_math1, ix_acopy, ml_113, ml_114, ml_115, ml_116, ml_118, ml_119, ml_120, ml_121, ml_122, ml_123, ml_124, ml_125, ml_126, mv_0, mv_1, mv_2, mv_3, mv_4, mv_5, mB_or, Nat.add_assoc, Int32.reduceLT, Int32.reduceLE, Int32.reduceToNatClampNeg, Int32.reduceSub, Int32.reduceAdd, Nat.reduceAdd, Nat.reduceLeDiff, true_or, or_true, or_false, false_or, not_false_eq_true, not_true_eq_false, false_implies, true_implies, implies_true, and_self, mB_0, mB_01, Classical.not_not, Nat.zero_le, List.getElem?_cons_zero, List.getElem?_cons_succ, List.set_cons_zero, List.set_cons_succ, ix_nl, ix_cs, true_and, and_true, Option.toList_some, Option.toList_none, List.cons_append, List.nil_append, hn, hx, c1, i1, hW1, z8]
      refine ⟨W, T, 8, rfl, hW, rfl, by omega, rfl, Nat.le_refl _, fun z => absurd z (by decide), ?_⟩
      rw [if_pos rfl]
      have le : μ 121 (256 * W + T) ≤ μ 121 (256 * (W + 1) + T) := by
        rcases mFrom_at (sv := fun x => μ 121 (256 * (W + 1) + x)) (wa := wa W) (ba := ba) (t := T) N with h | ⟨i, h1, h2, h3⟩
        · rw [hsv, h]
          exact Int32.le_refl _
        · have := mFb_no (p := bP (μ 121) wa ba W T) N 0 i (by omega) (by omega) (by rw [← hB]; omega)
          unfold bP at this
          rw [h2, hsv] at this
          simp only [Bool.true_and, decide_eq_false_iff_not] at this
          exact absurd h3 this
      refine ⟨fun _ => ?_, fun z => absurd le z⟩
      rw [show nI T ||| 0 = nI T from Int32.or_zero]
      exact K
    · rcases sp with h | ⟨-, g1, g2⟩
      · exact absurd h c8
      · unfold bP at g2
        simp only [Bool.and_eq_true, decide_eq_true_eq] at g2
        have h8 : ¬ nI b = 8 := fun z => c8 ((nI_eq (b := 8) (by omega) (by decide)).mp z)
        have hfr : (nI T >>> (nI b &&& 31)) &&& 1 = 0 := (mFree_nI (by omega) (by omega)).mpr g2.1
        have hlt : nI b < nI N := nI_lt (by omega) (by omega)
        have htk : nI T ||| ((1 : Int32) <<< (nI b &&& 31)) = nI (T + 2 ^ b) := mTk_nI T (by omega) b (by omega) g2.1
        rw [if_pos (by omega)] at K
        rw [e_X11_match_46]
        simp (decide := true) only [e_X11_match_0, e_X11_match_1, e_X11_match_2, e_X11_match_3, e_X11_match_6, e_X11_match_9, e_X11_match_10, e_X11_match_12, e_X11_match_15, e_X11_match_16, e_X11_match_17, e_X11_match_20, e_X11_match_21, e_X11_match_24, e_X11_match_25, e_X11_match_28, e_X11_match_29, e_X11_match_30, e_X11_match_31, e_X11_match_32, e_X11_match_33, e_X11_match_34, e_X11_match_35, e_X11_match_36, e_X11_match_40, e_X11_match_41, e_X11_match_44, e_X11_match_45, e_X11_match_47, e_X11_match_48, e_X11_match_49, e_X11_match_52, e_X11_match_55, e_X11_match_56, e_X11_match_58, e_X11_match_59, e_X11_match_60, e_X11_match_63, e_X11_match_64, e_X11_match_67, e_X11_match_70, e_X11_match_72, e_X11_match_73, e_X11_match_74, e_X11_match_75, e_X11_match_76, e_X11_match_79, e_X11_match_82, e_X11_match_85, e_X11_match_86, e_X11_match_87, e_X11_match_89, e_X11_match_92, e_X11_match_93, e_X11_match_96, e_X11_match_97, e_X11_match_98, e_X11_match_99, e_X11_match_100, e_X11_match_101, e_X11_match_104, e_X11_match_107, e_X11_match_108, vi, vl, vr, oc_X11_areServed, T_X11_areServed, oc_X11_finding, T_X11_finding, oc_X11_mayHave, T_X11_mayHave, oc_X11_servedWith, T_X11_servedWith, oc_X11_within, T_X11_within, ix_push, ix_iload, ix_lload, ix_aload, ix_istore, ix_astore, ix_iinc, ix_bin, ix_div, ix_un, ix_i2l, ix_l2i, ix_lbin, ix_lsh, ix_lcmp, ix_dup, ix_dup2, ix_pop, ix_if, ix_cmp, ix_goto, ix_switch, ix_sw, ix_iret, ix_zret, ix_vret, ix_aret, ix_geti, ix_getr, ix_puti, ix_putz, ix_puts, ix_gets, ix_iald, ix_iast, ix_alen, ix_aald, ix_gval, ix_gcod, ix_bald, ix_blen, ix_sald, ix_nret, ix_math2, ix_math1, ix_acopy, ml_113, ml_114, ml_115, ml_116, ml_118, ml_119, ml_120, ml_121, ml_122, ml_123, ml_124, ml_125, ml_126, mv_0, mv_1, mv_2, mv_3, mv_4, mv_5, mB_or, Nat.add_assoc, Int32.reduceLT, Int32.reduceLE, Int32.reduceToNatClampNeg, Int32.reduceSub, Int32.reduceAdd, Nat.reduceAdd, Nat.reduceLeDiff, true_or, or_true, or_false, false_or, not_false_eq_true, not_true_eq_false, false_implies, true_implies, implies_true, and_self, mB_0, mB_01, Classical.not_not, Nat.zero_le, List.getElem?_cons_zero, List.getElem?_cons_succ, List.set_cons_zero, List.set_cons_succ, ix_nl, ix_cs, true_and, and_true, Option.toList_some, Option.toList_none, List.cons_append, List.nil_append, hn, hx, c1, i1, hW1, h8, hfr, hlt, htk]
        refine ⟨W, T, b, rfl, hW, rfl, by omega, rfl, by omega, fun _ => g2.1, ?_⟩
        rw [if_neg c8]
        have e : mMin (μ 113 (12 + W)) (μ 113 (53 + 4 * b)) + μ 121 (256 * (W + 1) + (T + 2 ^ b)) = μ 121 (256 * W + T) := by
          rw [← g2.2, hwa, hba]
        rw [e]
        exact ⟨fun _ => K, fun z => absurd (Int32.le_refl _) z⟩
  | succ k ih =>
    intro b hb
    have n1 : nI b + 1 = nI (b + 1) := nI_1 b
    have h8 : ¬ nI b = 8 := fun z => absurd ((nI_eq (b := 8) (by omega) (by decide)).mp z) (by omega)
    have hfr : (nI T >>> (nI b &&& 31)) &&& 1 = 0 ↔ fr T b = true := mFree_nI (by omega) (by omega)
    have hlt : nI b < nI N ↔ b < N := nI_ltI (by omega) (by omega)
    rw [e_X11_match_46]
    simp (decide := true) only [e_X11_match_0, e_X11_match_1, e_X11_match_2, e_X11_match_3, e_X11_match_6, e_X11_match_9, e_X11_match_10, e_X11_match_12, e_X11_match_15, e_X11_match_16, e_X11_match_17, e_X11_match_20, e_X11_match_21, e_X11_match_24, e_X11_match_25, e_X11_match_28, e_X11_match_29, e_X11_match_30, e_X11_match_31, e_X11_match_32, e_X11_match_33, e_X11_match_34, e_X11_match_35, e_X11_match_36, e_X11_match_40, e_X11_match_41, e_X11_match_44, e_X11_match_45, e_X11_match_47, e_X11_match_48, e_X11_match_49, e_X11_match_52, e_X11_match_55, e_X11_match_56, e_X11_match_58, e_X11_match_59, e_X11_match_60, e_X11_match_63, e_X11_match_64, e_X11_match_67, e_X11_match_70, e_X11_match_72, e_X11_match_73, e_X11_match_74, e_X11_match_75, e_X11_match_76, e_X11_match_79, e_X11_match_82, e_X11_match_85, e_X11_match_86, e_X11_match_87, e_X11_match_89, e_X11_match_92, e_X11_match_93, e_X11_match_96, e_X11_match_97, e_X11_match_98, e_X11_match_99, e_X11_match_100, e_X11_match_101, e_X11_match_104, e_X11_match_107, e_X11_match_108, vi, vl, vr, oc_X11_areServed, T_X11_areServed, oc_X11_finding, T_X11_finding, oc_X11_mayHave, T_X11_mayHave, oc_X11_servedWith, T_X11_servedWith, oc_X11_within, T_X11_within, ix_push, ix_iload, ix_lload, ix_aload, ix_istore, ix_astore, ix_iinc, ix_bin, ix_div, ix_un, ix_i2l, ix_l2i, ix_lbin, ix_lsh, ix_lcmp, ix_dup, ix_dup2, ix_pop, ix_if, ix_cmp, ix_goto, ix_switch, ix_sw, ix_iret, ix_zret, ix_vret, ix_aret, ix_geti, ix_getr, ix_puti, ix_putz, ix_puts, ix_gets, ix_iald, ix_iast, ix_alen, ix_aald, ix_gval, ix_gcod, ix_bald, ix_blen, ix_sald, ix_nret, ix_math2, ix_math1, ix_acopy, ml_113, ml_114, ml_115, ml_116, ml_118, ml_119, ml_120, ml_121, ml_122, ml_123, ml_124, ml_125, ml_126, mv_0, mv_1, mv_2, mv_3, mv_4, mv_5, mB_or, Nat.add_assoc, Int32.reduceLT, Int32.reduceLE, Int32.reduceToNatClampNeg, Int32.reduceSub, Int32.reduceAdd, Nat.reduceAdd, Nat.reduceLeDiff, true_or, or_true, or_false, false_or, not_false_eq_true, not_true_eq_false, false_implies, true_implies, implies_true, and_self, mB_0, mB_01, Classical.not_not, Nat.zero_le, List.getElem?_cons_zero, List.getElem?_cons_succ, List.set_cons_zero, List.set_cons_succ, ix_nl, ix_cs, true_and, and_true, Option.toList_some, Option.toList_none, List.cons_append, List.nil_append, hn, hx, c1, i1, hW1, h8, hfr, hlt, n1]
    have nx := ih (b + 1) (by omega)
    refine ⟨fun _ => nx, fun z => ⟨W, T, b, rfl, hW, rfl, by omega, rfl, by omega, fun _ => z.2, ?_⟩⟩
    rw [if_neg (by omega)]
    have ne : ¬ μ 121 (256 * W + T) ≤ mMin (μ 113 (12 + W)) (μ 113 (53 + 4 * b)) + μ 121 (256 * (W + 1) + (T + 2 ^ b)) := by
      intro y
      have h1 := mFrom_up (sv := fun x => μ 121 (256 * (W + 1) + x)) (wa := wa W) (ba := ba) (t := T) N b z.1 z.2
      rw [← hsv] at h1
      have h2 := mFb_no (p := bP (μ 121) wa ba W T) N 0 b (by omega) (by omega) (by rw [← hB]; omega)
      unfold bP at h2
      rw [z.2] at h2
      simp only [Bool.true_and, decide_eq_false_iff_not] at h2
      refine h2 ((fa_eq _ _).mpr ?_)
      rw [fa_le] at y
      rw [hwa, hba] at h1 ⊢
      exact Int.le_antisymm h1 y
    exact ⟨fun y => absurd y ne, fun _ => nx⟩
theorem l_X11_match {N X : Nat} {μ : ix_M} {Q : ix_R → Prop} {wa ba : Nat → Int32} (hN : N ≤ 8) (hn : μ 113 1 = nI N) (hX : X < 6) (hwa : wa = mWa (μ 113)) (hba : ba = mBa (μ 113)) (hsv : ∀ k, k ≤ 6 → ∀ t, t < 2 ^ N → μ 121 (256 * (6 - k) + t) = svD wa ba N k t) (hQ : Q (some (vi (nI (bO (μ 121) wa ba N (X + 1)).1)), μ)) : ∀ (k W : Nat) (x3 : Int32), W + k = X + 1 → (k = 0 → x3 = nI (bO (μ 121) wa ba N W).1) → ix_Ev o_X11_match Q (38, [some (vr 10 112), some (vi (nI X)), some (vi (nI (bO (μ 121) wa ba N W).2)), some (vi x3), some (vi (nI W))], [], μ) := by
  intro k
  induction k with
  | zero =>
    intro W x3 hW hx
    have hW : W = X + 1 := hW
    subst hW
    have c1 : nI X < nI (X + 1) := nI_lt (by omega) (by omega)
    rw [hx rfl, e_X11_match_38]
    simp (decide := true) only [e_X11_match_0, e_X11_match_1, e_X11_match_2, e_X11_match_3, e_X11_match_6, e_X11_match_9, e_X11_match_10, e_X11_match_12, e_X11_match_15, e_X11_match_16, e_X11_match_17, e_X11_match_20, e_X11_match_21, e_X11_match_24, e_X11_match_25, e_X11_match_28, e_X11_match_29, e_X11_match_30, e_X11_match_31, e_X11_match_32, e_X11_match_33, e_X11_match_34, e_X11_match_35, e_X11_match_36, e_X11_match_40, e_X11_match_41, e_X11_match_44, e_X11_match_45, e_X11_match_47, e_X11_match_48, e_X11_match_49, e_X11_match_52, e_X11_match_55, e_X11_match_56, e_X11_match_58, e_X11_match_59, e_X11_match_60, e_X11_match_63, e_X11_match_64, e_X11_match_67, e_X11_match_70, e_X11_match_72, e_X11_match_73, e_X11_match_74, e_X11_match_75, e_X11_match_76, e_X11_match_79, e_X11_match_82, e_X11_match_85, e_X11_match_86, e_X11_match_87, e_X11_match_89, e_X11_match_92, e_X11_match_93, e_X11_match_96, e_X11_match_97, e_X11_match_98, e_X11_match_99, e_X11_match_100, e_X11_match_101, e_X11_match_104, e_X11_match_107, e_X11_match_108, vi, vl, vr, oc_X11_areServed, T_X11_areServed, oc_X11_finding, T_X11_finding, oc_X11_mayHave, T_X11_mayHave, oc_X11_servedWith, T_X11_servedWith, oc_X11_within, T_X11_within, ix_push, ix_iload, ix_lload, ix_aload, ix_istore, ix_astore, ix_iinc, ix_bin, ix_div, ix_un, ix_i2l, ix_l2i, ix_lbin, ix_lsh, ix_lcmp, ix_dup, ix_dup2, ix_pop, ix_if, ix_cmp, ix_goto, ix_switch, ix_sw, ix_iret, ix_zret, ix_vret, ix_aret, ix_geti, ix_getr, ix_puti, ix_putz, ix_puts, ix_gets, ix_iald, ix_iast, ix_alen, ix_aald, ix_gval, ix_gcod, ix_bald, ix_blen, ix_sald, ix_nret, ix_math2, ix_math1, ix_acopy, ml_113, ml_114, ml_115, ml_116, ml_118, ml_119, ml_120, ml_121, ml_122, ml_123, ml_124, ml_125, ml_126, mv_0, mv_1, mv_2, mv_3, mv_4, mv_5, mB_or, Nat.add_assoc, Int32.reduceLT, Int32.reduceLE, Int32.reduceToNatClampNeg, Int32.reduceSub, Int32.reduceAdd, Nat.reduceAdd, Nat.reduceLeDiff, true_or, or_true, or_false, false_or, not_false_eq_true, not_true_eq_false, false_implies, true_implies, implies_true, and_self, mB_0, mB_01, Classical.not_not, Nat.zero_le, List.getElem?_cons_zero, List.getElem?_cons_succ, List.set_cons_zero, List.set_cons_succ, ix_nl, ix_cs, true_and, and_true, Option.toList_some, Option.toList_none, List.cons_append, List.nil_append, c1]
    exact hQ
  | succ k ih =>
    intro W x3 hW hx
    have c1 : ¬ nI X < nI W := nI_nlt (by omega) (by omega)
    rw [e_X11_match_38]
    simp (decide := true) only [e_X11_match_0, e_X11_match_1, e_X11_match_2, e_X11_match_3, e_X11_match_6, e_X11_match_9, e_X11_match_10, e_X11_match_12, e_X11_match_15, e_X11_match_16, e_X11_match_17, e_X11_match_20, e_X11_match_21, e_X11_match_24, e_X11_match_25, e_X11_match_28, e_X11_match_29, e_X11_match_30, e_X11_match_31, e_X11_match_32, e_X11_match_33, e_X11_match_34, e_X11_match_35, e_X11_match_36, e_X11_match_40, e_X11_match_41, e_X11_match_44, e_X11_match_45, e_X11_match_47, e_X11_match_48, e_X11_match_49, e_X11_match_52, e_X11_match_55, e_X11_match_56, e_X11_match_58, e_X11_match_59, e_X11_match_60, e_X11_match_63, e_X11_match_64, e_X11_match_67, e_X11_match_70, e_X11_match_72, e_X11_match_73, e_X11_match_74, e_X11_match_75, e_X11_match_76, e_X11_match_79, e_X11_match_82, e_X11_match_85, e_X11_match_86, e_X11_match_87, e_X11_match_89, e_X11_match_92, e_X11_match_93, e_X11_match_96, e_X11_match_97, e_X11_match_98, e_X11_match_99, e_X11_match_100, e_X11_match_101, e_X11_match_104, e_X11_match_107, e_X11_match_108, vi, vl, vr, oc_X11_areServed, T_X11_areServed, oc_X11_finding, T_X11_finding, oc_X11_mayHave, T_X11_mayHave, oc_X11_servedWith, T_X11_servedWith, oc_X11_within, T_X11_within, ix_push, ix_iload, ix_lload, ix_aload, ix_istore, ix_astore, ix_iinc, ix_bin, ix_div, ix_un, ix_i2l, ix_l2i, ix_lbin, ix_lsh, ix_lcmp, ix_dup, ix_dup2, ix_pop, ix_if, ix_cmp, ix_goto, ix_switch, ix_sw, ix_iret, ix_zret, ix_vret, ix_aret, ix_geti, ix_getr, ix_puti, ix_putz, ix_puts, ix_gets, ix_iald, ix_iast, ix_alen, ix_aald, ix_gval, ix_gcod, ix_bald, ix_blen, ix_sald, ix_nret, ix_math2, ix_math1, ix_acopy, ml_113, ml_114, ml_115, ml_116, ml_118, ml_119, ml_120, ml_121, ml_122, ml_123, ml_124, ml_125, ml_126, mv_0, mv_1, mv_2, mv_3, mv_4, mv_5, mB_or, Nat.add_assoc, Int32.reduceLT, Int32.reduceLE, Int32.reduceToNatClampNeg, Int32.reduceSub, Int32.reduceAdd, Nat.reduceAdd, Nat.reduceLeDiff, true_or, or_true, or_false, false_or, not_false_eq_true, not_true_eq_false, false_implies, true_implies, implies_true, and_self, mB_0, mB_01, Classical.not_not, Nat.zero_le, List.getElem?_cons_zero, List.getElem?_cons_succ, List.set_cons_zero, List.set_cons_succ, ix_nl, ix_cs, true_and, and_true, Option.toList_some, Option.toList_none, List.cons_append, List.nil_append, c1]
    have hT := (bO_lt (sv := μ 121) (wa := wa) (ba := ba) hN W).2
    have h256 := p2le N hN
    have hs : μ 121 (256 * W + (bO (μ 121) wa ba N W).2) = mFrom (fun x => μ 121 (256 * (W + 1) + x)) (wa W) ba (bO (μ 121) wa ba N W).2 N := by
      have e := hsv (6 - W) (by omega) _ hT
      rw [show 6 - (6 - W) = W by omega] at e
      rw [e, show 6 - W = (5 - W) + 1 by omega, svD, show 5 - (5 - W) = W by omega]
      refine mFrom_cong hN hT (fun x hx => ?_) N (Nat.le_refl _)
      have e2 := hsv (5 - W) (by omega) x hx
      rw [show 6 - (5 - W) = W + 1 by omega] at e2
      exact e2.symm
    have sp := mFb_spec (p := bP (μ 121) wa ba W (bO (μ 121) wa ba N W).2) N 0
    refine l2_X11_match (N := N) (W := W) (B := mFb (bP (μ 121) wa ba W (bO (μ 121) wa ba N W).2) N 0) hN hn (by omega) hT hwa hba rfl hs ?_ _ 0 (Nat.zero_add _)
    exact ih (W + 1) _ (by omega) (fun _ => rfl)
theorem pr_match (w : Int32) (μ : ix_M) (I : Inv μ) (Q : ix_R → Prop) (hQ : ∀ vv μ', ix_Ev o_X11_match (Pst vv) (0, [some (vr 10 112), some (vi w), none, none, none], [], μ') → Q (some (vi vv), μ')) : ix_Ev o_X10_match Q (0, [some (vr 9 0), some (vi w)], [], μ) := by
  obtain ⟨N, hN, n1, n2⟩ := I.n
  have hZ1 := I.2.2.2.2.2.2.2.1
  have hZ2 := I.2.2.2.2.2.2.2.2
  have e1 : ∀ w, w < 6 → μ 23 w = mWa (μ 113) w := fun w hw => (I.1.2.2.2.2.1 w hw).1
  have e2 : ∀ b, b < 8 → μ 9 b = mBa (μ 113) b := fun b hb => I.w7 hb
  have h97 : ∀ μ1 : ix_M, Fx [96, 97, 129, 130] μ μ1 → (∀ t, t < 256 → μ1 97 (1536 + t) = 0) → ∀ μ2, Fx [121] μ1 μ2 → (∀ t, t < 256 → μ2 121 (1536 + t) = 0) → Inv μ2 := fun μ1 F1 z1 μ2 F2 z2 => by
    have g : ∀ a, a ≠ 96 → a ≠ 97 → a ≠ 121 → a < 129 → μ2 a = μ a := fun a b1 b2 b3 b4 => by rw [F2 a (by simp [b3]), F1 a (by simp [b1, b2]; omega)]
    refine I.gen (L := [96, 97, 121, 129, 130]) (Fx.tr (F1.mono (by decide)) (F2.mono (by decide))) (by decide) ?_ (by rw [g 0 (by decide) (by decide) (by decide) (by decide)]) (by rw [g 112 (by decide) (by decide) (by decide) (by decide)]) (by rw [g 112 (by decide) (by decide) (by decide) (by decide)]; exact I.2.2.2.2.2.2.1) (by rw [g 112 (by decide) (by decide) (by decide) (by decide)]) (by rw [F2 97 (by decide)]; exact z1) z2
    rw [g 113 (by decide) (by decide) (by decide) (by decide)]
    exact I.1.fx (fun a h1 h2 _ _ => g a (by omega) (by omega) (by omega) (by omega)) (fun j _ => rfl)
  by_cases hw : -1 ≤ w ∧ w ≤ 5
  · by_cases hm : w = -1
    · subst hm
      simp (decide := true) only [e_X10_match_0, e_X10_match_1, e_X10_match_2, e_X10_match_5, e_X10_match_6, e_X10_match_8, e_X10_match_11, e_X10_match_12, e_X10_match_13, e_X10_match_16, e_X10_match_17, e_X10_match_18, e_X10_match_21, e_X10_match_22, e_X10_match_25, e_X10_match_28, e_X10_match_29, e_X10_match_30, e_X10_match_33, e_X10_match_34, e_X10_match_37, e_X10_match_40, e_X10_match_43, e_X10_match_44, e_X10_match_47, e_X10_match_48, e_X10_match_51, vi, vl, vr, oc_X10_error, T_X10_error, oc_X2_boatOf, T_X2_boatOf, oc_X2_fill, T_X2_fill, oc_X2_mostServed, T_X2_mostServed, ix_push, ix_iload, ix_lload, ix_aload, ix_istore, ix_astore, ix_iinc, ix_bin, ix_div, ix_un, ix_i2l, ix_l2i, ix_lbin, ix_lsh, ix_lcmp, ix_dup, ix_dup2, ix_pop, ix_if, ix_cmp, ix_goto, ix_switch, ix_sw, ix_iret, ix_zret, ix_vret, ix_aret, ix_geti, ix_getr, ix_puti, ix_putz, ix_puts, ix_gets, ix_iald, ix_iast, ix_alen, ix_aald, ix_gval, ix_gcod, ix_bald, ix_blen, ix_sald, ix_nret, ix_math2, ix_math1, ix_acopy, Nat.add_assoc, Int32.reduceLT, Int32.reduceLE, Int32.reduceToNatClampNeg, Int32.reduceSub, Int32.reduceAdd, Nat.reduceAdd, Nat.reduceLeDiff, true_or, or_true, or_false, false_or, not_false_eq_true, not_true_eq_false, false_implies, true_implies, implies_true, and_self, mB_0, mB_01, Classical.not_not, Nat.zero_le, List.getElem?_cons_zero, List.getElem?_cons_succ, List.set_cons_zero, List.set_cons_succ, ix_nl, ix_cs, true_and, and_true, Option.toList_some, Option.toList_none, List.cons_append, List.nil_append, n1, ix_up_ne, ix_up_k, ve_1, ve_2, ve_3, ve_4, ve_5]
      refine ⟨N, rfl, hN, hZ1, fun μ1 F1 k1 k2 k3 k6 k7 => hQ _ _ ?_⟩
      have e113 : μ1 113 = μ 113 := F1 113 (by decide)
      have v0 : vp_in 0 1792 := vp_in_nI (n := 0) (by decide) (by decide)
      simp (decide := true) only [e_X11_match_0, e_X11_match_1, e_X11_match_2, e_X11_match_3, e_X11_match_6, e_X11_match_9, e_X11_match_10, e_X11_match_12, e_X11_match_15, e_X11_match_16, e_X11_match_17, e_X11_match_20, e_X11_match_21, e_X11_match_24, e_X11_match_25, e_X11_match_28, e_X11_match_29, e_X11_match_30, e_X11_match_31, e_X11_match_32, e_X11_match_33, e_X11_match_34, e_X11_match_35, e_X11_match_36, e_X11_match_40, e_X11_match_41, e_X11_match_44, e_X11_match_45, e_X11_match_47, e_X11_match_48, e_X11_match_49, e_X11_match_52, e_X11_match_55, e_X11_match_56, e_X11_match_58, e_X11_match_59, e_X11_match_60, e_X11_match_63, e_X11_match_64, e_X11_match_67, e_X11_match_70, e_X11_match_72, e_X11_match_73, e_X11_match_74, e_X11_match_75, e_X11_match_76, e_X11_match_79, e_X11_match_82, e_X11_match_85, e_X11_match_86, e_X11_match_87, e_X11_match_89, e_X11_match_92, e_X11_match_93, e_X11_match_96, e_X11_match_97, e_X11_match_98, e_X11_match_99, e_X11_match_100, e_X11_match_101, e_X11_match_104, e_X11_match_107, e_X11_match_108, vi, vl, vr, oc_X11_areServed, T_X11_areServed, oc_X11_finding, T_X11_finding, oc_X11_mayHave, T_X11_mayHave, oc_X11_servedWith, T_X11_servedWith, oc_X11_within, T_X11_within, ix_push, ix_iload, ix_lload, ix_aload, ix_istore, ix_astore, ix_iinc, ix_bin, ix_div, ix_un, ix_i2l, ix_l2i, ix_lbin, ix_lsh, ix_lcmp, ix_dup, ix_dup2, ix_pop, ix_if, ix_cmp, ix_goto, ix_switch, ix_sw, ix_iret, ix_zret, ix_vret, ix_aret, ix_geti, ix_getr, ix_puti, ix_putz, ix_puts, ix_gets, ix_iald, ix_iast, ix_alen, ix_aald, ix_gval, ix_gcod, ix_bald, ix_blen, ix_sald, ix_nret, ix_math2, ix_math1, ix_acopy, ml_113, ml_114, ml_115, ml_116, ml_118, ml_119, ml_120, ml_121, ml_122, ml_123, ml_124, ml_125, ml_126, mv_0, mv_1, mv_2, mv_3, mv_4, mv_5, mB_or, Nat.add_assoc, Int32.reduceLT, Int32.reduceLE, Int32.reduceToNatClampNeg, Int32.reduceSub, Int32.reduceAdd, Nat.reduceAdd, Nat.reduceLeDiff, true_or, or_true, or_false, false_or, not_false_eq_true, not_true_eq_false, false_implies, true_implies, implies_true, and_self, mB_0, mB_01, Classical.not_not, Nat.zero_le, List.getElem?_cons_zero, List.getElem?_cons_succ, List.set_cons_zero, List.set_cons_succ, ix_nl, ix_cs, true_and, and_true, Option.toList_some, Option.toList_none, List.cons_append, List.nil_append, v0, ix_up_ne, ix_up_k, ve_1, ve_2, ve_3, ve_4, ve_5]
      refine ⟨N, by rw [e113]; exact n2, hN, by rw [F1 121 (by decide)]; exact hZ2, fun μ2 F2 k4 k5 => pst ?_ (h97 μ1 F1 k3 μ2 F2 k5)⟩
      have hp : 0 < 2 ^ N := Nat.pos_of_ne_zero (by simp)
      have a1 := k2 6 (by decide) 0 hp
      have a2 := k4 6 (by decide) 0 hp
      rw [e113] at a2
      show μ2 121 0 = μ1 97 0
      rw [show μ2 121 0 = _ from a2, show μ1 97 0 = _ from a1, svD_c hN (fun w hw => (k6 w hw).trans (e1 w hw)) (fun b hb => (k7 b hb).trans (e2 b hb)) 6 (by decide)]
    · have h0 : ¬ w < 0 := fun z => by
        have h1 := (fa_le _ _).mp hw.1
        have h2 := (fa_lt _ _).mp z
        have h3 : (-1 : Int32).toInt = -1 := rfl
        have h4 : (0 : Int32).toInt = 0 := rfl
        exact hm ((fa_eq _ _).mpr (by omega))
      obtain ⟨X, hX, rfl⟩ := nI_of2 (n := 5) (M := 5) rfl h0 hw.2
      have c1 : ¬ nI X < -1 := Int32.not_lt.mpr hw.1
      have c2 : nI X < 6 := nI_lt (a := X) (b := 6) (by omega) (by decide)
      have c3 : 0 ≤ nI X := Int32.not_lt.mp h0
      simp (decide := true) only [e_X10_match_0, e_X10_match_1, e_X10_match_2, e_X10_match_5, e_X10_match_6, e_X10_match_8, e_X10_match_11, e_X10_match_12, e_X10_match_13, e_X10_match_16, e_X10_match_17, e_X10_match_18, e_X10_match_21, e_X10_match_22, e_X10_match_25, e_X10_match_28, e_X10_match_29, e_X10_match_30, e_X10_match_33, e_X10_match_34, e_X10_match_37, e_X10_match_40, e_X10_match_43, e_X10_match_44, e_X10_match_47, e_X10_match_48, e_X10_match_51, vi, vl, vr, oc_X10_error, T_X10_error, oc_X2_boatOf, T_X2_boatOf, oc_X2_fill, T_X2_fill, oc_X2_mostServed, T_X2_mostServed, ix_push, ix_iload, ix_lload, ix_aload, ix_istore, ix_astore, ix_iinc, ix_bin, ix_div, ix_un, ix_i2l, ix_l2i, ix_lbin, ix_lsh, ix_lcmp, ix_dup, ix_dup2, ix_pop, ix_if, ix_cmp, ix_goto, ix_switch, ix_sw, ix_iret, ix_zret, ix_vret, ix_aret, ix_geti, ix_getr, ix_puti, ix_putz, ix_puts, ix_gets, ix_iald, ix_iast, ix_alen, ix_aald, ix_gval, ix_gcod, ix_bald, ix_blen, ix_sald, ix_nret, ix_math2, ix_math1, ix_acopy, Nat.add_assoc, Int32.reduceLT, Int32.reduceLE, Int32.reduceToNatClampNeg, Int32.reduceSub, Int32.reduceAdd, Nat.reduceAdd, Nat.reduceLeDiff, true_or, or_true, or_false, false_or, not_false_eq_true, not_true_eq_false, false_implies, true_implies, implies_true, and_self, mB_0, mB_01, Classical.not_not, Nat.zero_le, List.getElem?_cons_zero, List.getElem?_cons_succ, List.set_cons_zero, List.set_cons_succ, ix_nl, ix_cs, true_and, and_true, Option.toList_some, Option.toList_none, List.cons_append, List.nil_append, n1, c1, c2, hm, ix_up_ne, ix_up_k, ve_1, ve_2, ve_3, ve_4, ve_5]
      refine ⟨N, rfl, hN, hZ1, fun μ1 F1 k1 k2 k3 k6 k7 => ⟨X, N, rfl, by omega, hN, k1, hQ _ _ ?_⟩⟩
      have e113 : μ1 113 = μ 113 := F1 113 (by decide)
      simp (decide := true) only [e_X11_match_0, e_X11_match_1, e_X11_match_2, e_X11_match_3, e_X11_match_6, e_X11_match_9, e_X11_match_10, e_X11_match_12, e_X11_match_15, e_X11_match_16, e_X11_match_17, e_X11_match_20, e_X11_match_21, e_X11_match_24, e_X11_match_25, e_X11_match_28, e_X11_match_29, e_X11_match_30, e_X11_match_31, e_X11_match_32, e_X11_match_33, e_X11_match_34, e_X11_match_35, e_X11_match_36, e_X11_match_40, e_X11_match_41, e_X11_match_44, e_X11_match_45, e_X11_match_47, e_X11_match_48, e_X11_match_49, e_X11_match_52, e_X11_match_55, e_X11_match_56, e_X11_match_58, e_X11_match_59, e_X11_match_60, e_X11_match_63, e_X11_match_64, e_X11_match_67, e_X11_match_70, e_X11_match_72, e_X11_match_73, e_X11_match_74, e_X11_match_75, e_X11_match_76, e_X11_match_79, e_X11_match_82, e_X11_match_85, e_X11_match_86, e_X11_match_87, e_X11_match_89, e_X11_match_92, e_X11_match_93, e_X11_match_96, e_X11_match_97, e_X11_match_98, e_X11_match_99, e_X11_match_100, e_X11_match_101, e_X11_match_104, e_X11_match_107, e_X11_match_108, vi, vl, vr, oc_X11_areServed, T_X11_areServed, oc_X11_finding, T_X11_finding, oc_X11_mayHave, T_X11_mayHave, oc_X11_servedWith, T_X11_servedWith, oc_X11_within, T_X11_within, ix_push, ix_iload, ix_lload, ix_aload, ix_istore, ix_astore, ix_iinc, ix_bin, ix_div, ix_un, ix_i2l, ix_l2i, ix_lbin, ix_lsh, ix_lcmp, ix_dup, ix_dup2, ix_pop, ix_if, ix_cmp, ix_goto, ix_switch, ix_sw, ix_iret, ix_zret, ix_vret, ix_aret, ix_geti, ix_getr, ix_puti, ix_putz, ix_puts, ix_gets, ix_iald, ix_iast, ix_alen, ix_aald, ix_gval, ix_gcod, ix_bald, ix_blen, ix_sald, ix_nret, ix_math2, ix_math1, ix_acopy, ml_113, ml_114, ml_115, ml_116, ml_118, ml_119, ml_120, ml_121, ml_122, ml_123, ml_124, ml_125, ml_126, mv_0, mv_1, mv_2, mv_3, mv_4, mv_5, mB_or, Nat.add_assoc, Int32.reduceLT, Int32.reduceLE, Int32.reduceToNatClampNeg, Int32.reduceSub, Int32.reduceAdd, Nat.reduceAdd, Nat.reduceLeDiff, true_or, or_true, or_false, false_or, not_false_eq_true, not_true_eq_false, false_implies, true_implies, implies_true, and_self, mB_0, mB_01, Classical.not_not, Nat.zero_le, List.getElem?_cons_zero, List.getElem?_cons_succ, List.set_cons_zero, List.set_cons_succ, ix_nl, ix_cs, true_and, and_true, Option.toList_some, Option.toList_none, List.cons_append, List.nil_append, hw, h0, c3, ix_up_ne, ix_up_k, ve_1, ve_2, ve_3, ve_4, ve_5]
      refine ⟨N, by rw [e113]; exact n2, hN, by rw [F1 121 (by decide)]; exact hZ2, fun μ2 F2 k4 k5 => ?_⟩
      have e113' : μ2 113 = μ 113 := by rw [F2 113 (by decide), e113]
      rw [e113] at k4
      refine l_X11_match (N := N) (X := X) (μ := μ2) (wa := mWa (μ 113)) (ba := mBa (μ 113)) hN (by rw [e113']; exact n2) (by omega) (by rw [e113']) (by rw [e113']) k4 (pst ?_ (h97 μ1 F1 k3 μ2 F2 k5)) (X + 1) 0 0 (by omega) (fun z => absurd z (by omega))
      have e1 : ∀ w, w < 6 → μ1 129 w = mWa (μ 113) w := fun w hw => (k6 w hw).trans (e1 w hw)
      have e2 : ∀ b, b < 8 → μ1 130 b = mBa (μ 113) b := fun b hb => (k7 b hb).trans (e2 b hb)
      congr 2
      refine (bO_c hN (fun w hw' t ht => ?_) e1 e2 (X + 1) (by omega)).symm
      have a1 := k2 (6 - w) (by omega) t ht
      have a2 := k4 (6 - w) (by omega) t ht
      rw [show 6 - (6 - w) = w by omega] at a1 a2
      rw [a1, a2, svD_c hN e1 e2 _ (by omega)]
  · by_cases c : w < -1
    · simp (decide := true) only [e_X10_match_0, e_X10_match_1, e_X10_match_2, e_X10_match_5, e_X10_match_6, e_X10_match_8, e_X10_match_11, e_X10_match_12, e_X10_match_13, e_X10_match_16, e_X10_match_17, e_X10_match_18, e_X10_match_21, e_X10_match_22, e_X10_match_25, e_X10_match_28, e_X10_match_29, e_X10_match_30, e_X10_match_33, e_X10_match_34, e_X10_match_37, e_X10_match_40, e_X10_match_43, e_X10_match_44, e_X10_match_47, e_X10_match_48, e_X10_match_51, vi, vl, vr, oc_X10_error, T_X10_error, oc_X2_boatOf, T_X2_boatOf, oc_X2_fill, T_X2_fill, oc_X2_mostServed, T_X2_mostServed, ix_push, ix_iload, ix_lload, ix_aload, ix_istore, ix_astore, ix_iinc, ix_bin, ix_div, ix_un, ix_i2l, ix_l2i, ix_lbin, ix_lsh, ix_lcmp, ix_dup, ix_dup2, ix_pop, ix_if, ix_cmp, ix_goto, ix_switch, ix_sw, ix_iret, ix_zret, ix_vret, ix_aret, ix_geti, ix_getr, ix_puti, ix_putz, ix_puts, ix_gets, ix_iald, ix_iast, ix_alen, ix_aald, ix_gval, ix_gcod, ix_bald, ix_blen, ix_sald, ix_nret, ix_math2, ix_math1, ix_acopy, Nat.add_assoc, Int32.reduceLT, Int32.reduceLE, Int32.reduceToNatClampNeg, Int32.reduceSub, Int32.reduceAdd, Nat.reduceAdd, Nat.reduceLeDiff, true_or, or_true, or_false, false_or, not_false_eq_true, not_true_eq_false, false_implies, true_implies, implies_true, and_self, mB_0, mB_01, Classical.not_not, Nat.zero_le, List.getElem?_cons_zero, List.getElem?_cons_succ, List.set_cons_zero, List.set_cons_succ, ix_nl, ix_cs, true_and, and_true, Option.toList_some, Option.toList_none, List.cons_append, List.nil_append, c, ix_up_ne, ix_up_k, ve_1, ve_2, ve_3, ve_4, ve_5]
      refine hQ _ _ ?_
      simp (decide := true) only [e_X11_match_0, e_X11_match_1, e_X11_match_2, e_X11_match_3, e_X11_match_6, e_X11_match_9, e_X11_match_10, e_X11_match_12, e_X11_match_15, e_X11_match_16, e_X11_match_17, e_X11_match_20, e_X11_match_21, e_X11_match_24, e_X11_match_25, e_X11_match_28, e_X11_match_29, e_X11_match_30, e_X11_match_31, e_X11_match_32, e_X11_match_33, e_X11_match_34, e_X11_match_35, e_X11_match_36, e_X11_match_40, e_X11_match_41, e_X11_match_44, e_X11_match_45, e_X11_match_47, e_X11_match_48, e_X11_match_49, e_X11_match_52, e_X11_match_55, e_X11_match_56, e_X11_match_58, e_X11_match_59, e_X11_match_60, e_X11_match_63, e_X11_match_64, e_X11_match_67, e_X11_match_70, e_X11_match_72, e_X11_match_73, e_X11_match_74, e_X11_match_75, e_X11_match_76, e_X11_match_79, e_X11_match_82, e_X11_match_85, e_X11_match_86, e_X11_match_87, e_X11_match_89, e_X11_match_92, e_X11_match_93, e_X11_match_96, e_X11_match_97, e_X11_match_98, e_X11_match_99, e_X11_match_100, e_X11_match_101, e_X11_match_104, e_X11_match_107, e_X11_match_108, vi, vl, vr, oc_X11_areServed, T_X11_areServed, oc_X11_finding, T_X11_finding, oc_X11_mayHave, T_X11_mayHave, oc_X11_servedWith, T_X11_servedWith, oc_X11_within, T_X11_within, ix_push, ix_iload, ix_lload, ix_aload, ix_istore, ix_astore, ix_iinc, ix_bin, ix_div, ix_un, ix_i2l, ix_l2i, ix_lbin, ix_lsh, ix_lcmp, ix_dup, ix_dup2, ix_pop, ix_if, ix_cmp, ix_goto, ix_switch, ix_sw, ix_iret, ix_zret, ix_vret, ix_aret, ix_geti, ix_getr, ix_puti, ix_putz, ix_puts, ix_gets, ix_iald, ix_iast, ix_alen, ix_aald, ix_gval, ix_gcod, ix_bald, ix_blen, ix_sald, ix_nret, ix_math2, ix_math1, ix_acopy, ml_113, ml_114, ml_115, ml_116, ml_118, ml_119, ml_120, ml_121, ml_122, ml_123, ml_124, ml_125, ml_126, mv_0, mv_1, mv_2, mv_3, mv_4, mv_5, mB_or, Nat.add_assoc, Int32.reduceLT, Int32.reduceLE, Int32.reduceToNatClampNeg, Int32.reduceSub, Int32.reduceAdd, Nat.reduceAdd, Nat.reduceLeDiff, true_or, or_true, or_false, false_or, not_false_eq_true, not_true_eq_false, false_implies, true_implies, implies_true, and_self, mB_0, mB_01, Classical.not_not, Nat.zero_le, List.getElem?_cons_zero, List.getElem?_cons_succ, List.set_cons_zero, List.set_cons_succ, ix_nl, ix_cs, true_and, and_true, Option.toList_some, Option.toList_none, List.cons_append, List.nil_append, hw, ix_up_ne, ix_up_k, ve_1, ve_2, ve_3, ve_4, ve_5]
      exact I.er 1 (by decide)
    · have c2 : ¬ w ≤ 5 := fun z => hw ⟨Int32.not_lt.mp c, z⟩
      have c3 : ¬ w < 6 := fun z => c2 (by
        have z1 := (fa_lt _ _).mp z
        have z2 : (6 : Int32).toInt = 6 := rfl
        have z3 : (5 : Int32).toInt = 5 := rfl
        rw [fa_le]
        omega)
      simp (decide := true) only [e_X10_match_0, e_X10_match_1, e_X10_match_2, e_X10_match_5, e_X10_match_6, e_X10_match_8, e_X10_match_11, e_X10_match_12, e_X10_match_13, e_X10_match_16, e_X10_match_17, e_X10_match_18, e_X10_match_21, e_X10_match_22, e_X10_match_25, e_X10_match_28, e_X10_match_29, e_X10_match_30, e_X10_match_33, e_X10_match_34, e_X10_match_37, e_X10_match_40, e_X10_match_43, e_X10_match_44, e_X10_match_47, e_X10_match_48, e_X10_match_51, vi, vl, vr, oc_X10_error, T_X10_error, oc_X2_boatOf, T_X2_boatOf, oc_X2_fill, T_X2_fill, oc_X2_mostServed, T_X2_mostServed, ix_push, ix_iload, ix_lload, ix_aload, ix_istore, ix_astore, ix_iinc, ix_bin, ix_div, ix_un, ix_i2l, ix_l2i, ix_lbin, ix_lsh, ix_lcmp, ix_dup, ix_dup2, ix_pop, ix_if, ix_cmp, ix_goto, ix_switch, ix_sw, ix_iret, ix_zret, ix_vret, ix_aret, ix_geti, ix_getr, ix_puti, ix_putz, ix_puts, ix_gets, ix_iald, ix_iast, ix_alen, ix_aald, ix_gval, ix_gcod, ix_bald, ix_blen, ix_sald, ix_nret, ix_math2, ix_math1, ix_acopy, Nat.add_assoc, Int32.reduceLT, Int32.reduceLE, Int32.reduceToNatClampNeg, Int32.reduceSub, Int32.reduceAdd, Nat.reduceAdd, Nat.reduceLeDiff, true_or, or_true, or_false, false_or, not_false_eq_true, not_true_eq_false, false_implies, true_implies, implies_true, and_self, mB_0, mB_01, Classical.not_not, Nat.zero_le, List.getElem?_cons_zero, List.getElem?_cons_succ, List.set_cons_zero, List.set_cons_succ, ix_nl, ix_cs, true_and, and_true, Option.toList_some, Option.toList_none, List.cons_append, List.nil_append, c, c2, c3, ix_up_ne, ix_up_k, ve_1, ve_2, ve_3, ve_4, ve_5]
      refine hQ _ _ ?_
      simp (decide := true) only [e_X11_match_0, e_X11_match_1, e_X11_match_2, e_X11_match_3, e_X11_match_6, e_X11_match_9, e_X11_match_10, e_X11_match_12, e_X11_match_15, e_X11_match_16, e_X11_match_17, e_X11_match_20, e_X11_match_21, e_X11_match_24, e_X11_match_25, e_X11_match_28, e_X11_match_29, e_X11_match_30, e_X11_match_31, e_X11_match_32, e_X11_match_33, e_X11_match_34, e_X11_match_35, e_X11_match_36, e_X11_match_40, e_X11_match_41, e_X11_match_44, e_X11_match_45, e_X11_match_47, e_X11_match_48, e_X11_match_49, e_X11_match_52, e_X11_match_55, e_X11_match_56, e_X11_match_58, e_X11_match_59, e_X11_match_60, e_X11_match_63, e_X11_match_64, e_X11_match_67, e_X11_match_70, e_X11_match_72, e_X11_match_73, e_X11_match_74, e_X11_match_75, e_X11_match_76, e_X11_match_79, e_X11_match_82, e_X11_match_85, e_X11_match_86, e_X11_match_87, e_X11_match_89, e_X11_match_92, e_X11_match_93, e_X11_match_96, e_X11_match_97, e_X11_match_98, e_X11_match_99, e_X11_match_100, e_X11_match_101, e_X11_match_104, e_X11_match_107, e_X11_match_108, vi, vl, vr, oc_X11_areServed, T_X11_areServed, oc_X11_finding, T_X11_finding, oc_X11_mayHave, T_X11_mayHave, oc_X11_servedWith, T_X11_servedWith, oc_X11_within, T_X11_within, ix_push, ix_iload, ix_lload, ix_aload, ix_istore, ix_astore, ix_iinc, ix_bin, ix_div, ix_un, ix_i2l, ix_l2i, ix_lbin, ix_lsh, ix_lcmp, ix_dup, ix_dup2, ix_pop, ix_if, ix_cmp, ix_goto, ix_switch, ix_sw, ix_iret, ix_zret, ix_vret, ix_aret, ix_geti, ix_getr, ix_puti, ix_putz, ix_puts, ix_gets, ix_iald, ix_iast, ix_alen, ix_aald, ix_gval, ix_gcod, ix_bald, ix_blen, ix_sald, ix_nret, ix_math2, ix_math1, ix_acopy, ml_113, ml_114, ml_115, ml_116, ml_118, ml_119, ml_120, ml_121, ml_122, ml_123, ml_124, ml_125, ml_126, mv_0, mv_1, mv_2, mv_3, mv_4, mv_5, mB_or, Nat.add_assoc, Int32.reduceLT, Int32.reduceLE, Int32.reduceToNatClampNeg, Int32.reduceSub, Int32.reduceAdd, Nat.reduceAdd, Nat.reduceLeDiff, true_or, or_true, or_false, false_or, not_false_eq_true, not_true_eq_false, false_implies, true_implies, implies_true, and_self, mB_0, mB_01, Classical.not_not, Nat.zero_le, List.getElem?_cons_zero, List.getElem?_cons_succ, List.set_cons_zero, List.set_cons_succ, ix_nl, ix_cs, true_and, and_true, Option.toList_some, Option.toList_none, List.cons_append, List.nil_append, hw, ix_up_ne, ix_up_k, ve_1, ve_2, ve_3, ve_4, ve_5]
      exact I.er 1 (by decide)
