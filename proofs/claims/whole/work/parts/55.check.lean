/-! ===== calls, class against model: check, voice ===== -/
def o_X10_check : List (Nat × ix_Op) := [
  (0, ix_aload 0 1),
  (1, ix_aload 0 2),
  (2, oc_X10_think 5),
  (5, ix_aload 0 6),
  (6, ix_getr 9 5 (fun _ => 1) 9),
  (9, ix_getr 5 3 (fun k => k + 20) 12),
  (12, oc_X10_firstUnlike 15),
  (15, ix_istore 1 16),
  (16, ix_aload 0 17),
  (17, ix_getr 9 5 (fun _ => 1) 20),
  (20, ix_getr 5 3 (fun k => k + 20) 23),
  (23, oc_X4_clear 26),
  (26, ix_iload 1 27),
  (27, ix_push (vi 1) 28),
  (28, ix_bin (fun x y => x + y) 29),
  (29, ix_iret)]
set_option maxRecDepth 20000 in
theorem a_X10_check (l : Launch) : ix_AllS l cX10_check 2 RX10 60 (some .int) o_X10_check :=
  .cons (ix_s_aload_n dX10_check_0 rfl) <|
  .cons (ix_s_aload_n dX10_check_1 rfl) <|
  .cons (oc_X10_think_s (ix_s_callv (t := 9) (k_X10_think l) (by decide) (by decide) tw_638 tw_1 tw_635 tw_637 tp_8 ⟨by decide, by decide, by decide +kernel⟩ (by decide) rfl rfl (fun _ => ⟨_, _, rfl, rfl⟩) dX10_check_2)) <|
  .cons (ix_s_aload_n dX10_check_5 rfl) <|
  .cons (ix_s_getr (j := 0) tu_X10 rfl (by decide) (by decide) tw_251 rfl ts_9_0_r dX10_check_6) <|
  .cons (ix_s_getr (j := 3) tu_X6 rfl (by decide) (by decide) tw_144 rfl ts_5_3_r dX10_check_9) <|
  .cons (oc_X10_firstUnlike_s (ix_s_callv (t := 9) (k_X10_firstUnlike l) (by decide) (by decide) tw_743 tw_1 tw_740 tw_742 tp_15 ⟨by decide, by decide, by decide +kernel⟩ (by decide) rfl rfl (fun _ => ⟨_, _, rfl, rfl⟩) dX10_check_12)) <|
  .cons (ix_s_istore_n dX10_check_15 rfl (by decide)) <|
  .cons (ix_s_aload_n dX10_check_16 rfl) <|
  .cons (ix_s_getr (j := 0) tu_X10 rfl (by decide) (by decide) tw_251 rfl ts_9_0_r dX10_check_17) <|
  .cons (ix_s_getr (j := 3) tu_X6 rfl (by decide) (by decide) tw_144 rfl ts_5_3_r dX10_check_20) <|
  .cons (oc_X4_clear_s (ix_s_callv (t := 3) (k_X4_clear l) (by decide) (by decide) tw_458 tw_6 tw_572 tw_456 tw_457 ⟨by decide, by decide, by decide +kernel⟩ (by decide) rfl rfl (fun _ => ⟨_, _, rfl, rfl⟩) dX10_check_23)) <|
  .cons (ix_s_iload_n dX10_check_26 rfl) <|
  .cons (ix_s_iconst dX10_check_27 (by decide +kernel)) <|
  .cons (ix_s_iadd dX10_check_28) <|
  .cons (ix_s_iret dX10_check_29 rfl) <| .nil
theorem e_X10_check_0 (Q : ix_R → Prop) (ls : ix_L) (st : List ix_V) (μ : ix_M) : ix_Ev o_X10_check Q (0, ls, st, μ) = ix_aload 0 1 (ix_Ev o_X10_check Q) Q ls st μ := ix_Ev.eq (a_X10_check launch0) rfl ls st μ
theorem e_X10_check_1 (Q : ix_R → Prop) (ls : ix_L) (st : List ix_V) (μ : ix_M) : ix_Ev o_X10_check Q (1, ls, st, μ) = ix_aload 0 2 (ix_Ev o_X10_check Q) Q ls st μ := ix_Ev.eq (a_X10_check launch0) rfl ls st μ
theorem e_X10_check_2 (Q : ix_R → Prop) (ls : ix_L) (st : List ix_V) (μ : ix_M) : ix_Ev o_X10_check Q (2, ls, st, μ) = oc_X10_think 5 (ix_Ev o_X10_check Q) Q ls st μ := ix_Ev.eq (a_X10_check launch0) rfl ls st μ
theorem e_X10_check_5 (Q : ix_R → Prop) (ls : ix_L) (st : List ix_V) (μ : ix_M) : ix_Ev o_X10_check Q (5, ls, st, μ) = ix_aload 0 6 (ix_Ev o_X10_check Q) Q ls st μ := ix_Ev.eq (a_X10_check launch0) rfl ls st μ
theorem e_X10_check_6 (Q : ix_R → Prop) (ls : ix_L) (st : List ix_V) (μ : ix_M) : ix_Ev o_X10_check Q (6, ls, st, μ) = ix_getr 9 5 (fun _ => 1) 9 (ix_Ev o_X10_check Q) Q ls st μ := ix_Ev.eq (a_X10_check launch0) rfl ls st μ
theorem e_X10_check_9 (Q : ix_R → Prop) (ls : ix_L) (st : List ix_V) (μ : ix_M) : ix_Ev o_X10_check Q (9, ls, st, μ) = ix_getr 5 3 (fun k => k + 20) 12 (ix_Ev o_X10_check Q) Q ls st μ := ix_Ev.eq (a_X10_check launch0) rfl ls st μ
theorem e_X10_check_12 (Q : ix_R → Prop) (ls : ix_L) (st : List ix_V) (μ : ix_M) : ix_Ev o_X10_check Q (12, ls, st, μ) = oc_X10_firstUnlike 15 (ix_Ev o_X10_check Q) Q ls st μ := ix_Ev.eq (a_X10_check launch0) rfl ls st μ
theorem e_X10_check_15 (Q : ix_R → Prop) (ls : ix_L) (st : List ix_V) (μ : ix_M) : ix_Ev o_X10_check Q (15, ls, st, μ) = ix_istore 1 16 (ix_Ev o_X10_check Q) Q ls st μ := ix_Ev.eq (a_X10_check launch0) rfl ls st μ
theorem e_X10_check_16 (Q : ix_R → Prop) (ls : ix_L) (st : List ix_V) (μ : ix_M) : ix_Ev o_X10_check Q (16, ls, st, μ) = ix_aload 0 17 (ix_Ev o_X10_check Q) Q ls st μ := ix_Ev.eq (a_X10_check launch0) rfl ls st μ
theorem e_X10_check_17 (Q : ix_R → Prop) (ls : ix_L) (st : List ix_V) (μ : ix_M) : ix_Ev o_X10_check Q (17, ls, st, μ) = ix_getr 9 5 (fun _ => 1) 20 (ix_Ev o_X10_check Q) Q ls st μ := ix_Ev.eq (a_X10_check launch0) rfl ls st μ
theorem e_X10_check_20 (Q : ix_R → Prop) (ls : ix_L) (st : List ix_V) (μ : ix_M) : ix_Ev o_X10_check Q (20, ls, st, μ) = ix_getr 5 3 (fun k => k + 20) 23 (ix_Ev o_X10_check Q) Q ls st μ := ix_Ev.eq (a_X10_check launch0) rfl ls st μ
theorem e_X10_check_23 (Q : ix_R → Prop) (ls : ix_L) (st : List ix_V) (μ : ix_M) : ix_Ev o_X10_check Q (23, ls, st, μ) = oc_X4_clear 26 (ix_Ev o_X10_check Q) Q ls st μ := ix_Ev.eq (a_X10_check launch0) rfl ls st μ
theorem e_X10_check_26 (Q : ix_R → Prop) (ls : ix_L) (st : List ix_V) (μ : ix_M) : ix_Ev o_X10_check Q (26, ls, st, μ) = ix_iload 1 27 (ix_Ev o_X10_check Q) Q ls st μ := ix_Ev.eq (a_X10_check launch0) rfl ls st μ
theorem e_X10_check_27 (Q : ix_R → Prop) (ls : ix_L) (st : List ix_V) (μ : ix_M) : ix_Ev o_X10_check Q (27, ls, st, μ) = ix_push (vi 1) 28 (ix_Ev o_X10_check Q) Q ls st μ := ix_Ev.eq (a_X10_check launch0) rfl ls st μ
theorem e_X10_check_28 (Q : ix_R → Prop) (ls : ix_L) (st : List ix_V) (μ : ix_M) : ix_Ev o_X10_check Q (28, ls, st, μ) = ix_bin (fun x y => x + y) 29 (ix_Ev o_X10_check Q) Q ls st μ := ix_Ev.eq (a_X10_check launch0) rfl ls st μ
theorem e_X10_check_29 (Q : ix_R → Prop) (ls : ix_L) (st : List ix_V) (μ : ix_M) : ix_Ev o_X10_check Q (29, ls, st, μ) = ix_iret (ix_Ev o_X10_check Q) Q ls st μ := ix_Ev.eq (a_X10_check launch0) rfl ls st μ
def o_X11_check : List (Nat × ix_Op) := [
  (0, ix_aload 0 1),
  (1, ix_getr 10 20 (fun _ => 113) 4),
  (4, ix_push (vi 5) 5),
  (5, ix_iald 6),
  (6, ix_istore 1 7),
  (7, ix_aload 0 8),
  (8, ix_getr 10 20 (fun _ => 113) 11),
  (11, ix_push (vi 5) 12),
  (12, ix_push (vi 0) 13),
  (13, ix_iast 14),
  (14, ix_aload 0 15),
  (15, ix_getr 10 20 (fun _ => 113) 18),
  (18, ix_aload 0 19),
  (19, ix_getr 10 20 (fun _ => 115) 22),
  (22, oc_X11_copy 25),
  (25, ix_push (vi 0) 26),
  (26, ix_istore 2 27),
  (27, ix_push (vi 0) 28),
  (28, ix_istore 3 29),
  (29, ix_iload 3 30),
  (30, ix_iload 1 31),
  (31, ix_cmp (fun x y => y ≤ x) 73 34),
  (34, ix_iload 2 35),
  (35, ix_if (fun x => x = 0) 38 73),
  (38, ix_aload 0 39),
  (39, oc_X11_minute 42),
  (42, ix_aload 0 43),
  (43, ix_getr 10 20 (fun _ => 113) 46),
  (46, ix_push (vi 132) 49),
  (49, ix_iload 3 50),
  (50, ix_bin (fun x y => x + y) 51),
  (51, ix_iald 52),
  (52, ix_aload 0 53),
  (53, oc_X11_had 56),
  (56, ix_cmp (fun x y => x = y) 59 63),
  (59, ix_push (vi 0) 60),
  (60, ix_goto 66),
  (63, ix_push (vi 1) 64),
  (64, ix_iload 3 65),
  (65, ix_bin (fun x y => x + y) 66),
  (66, ix_istore 2 67),
  (67, ix_iinc 3 1 70),
  (70, ix_goto 29),
  (73, ix_aload 0 74),
  (74, ix_iload 2 75),
  (75, oc_X11_putBack 78),
  (78, ix_iret)]
set_option maxRecDepth 20000 in
theorem a_X11_check (l : Launch) : ix_AllS l cX11_check 4 RX11 60 (some .int) o_X11_check :=
  .cons (ix_s_aload_n dX11_check_0 rfl) <|
  .cons (ix_s_getr (j := 0) tu_X11 rfl (by decide) (by decide) tw_875 rfl ts_10_0_r dX11_check_1) <|
  .cons (ix_s_iconst dX11_check_4 (by decide +kernel)) <|
  .cons (ix_s_iald dX11_check_5) <|
  .cons (ix_s_istore_n dX11_check_6 rfl (by decide)) <|
  .cons (ix_s_aload_n dX11_check_7 rfl) <|
  .cons (ix_s_getr (j := 0) tu_X11 rfl (by decide) (by decide) tw_875 rfl ts_10_0_r dX11_check_8) <|
  .cons (ix_s_iconst dX11_check_11 (by decide +kernel)) <|
  .cons (ix_s_iconst dX11_check_12 (by decide +kernel)) <|
  .cons (ix_s_iast dX11_check_13) <|
  .cons (ix_s_aload_n dX11_check_14 rfl) <|
  .cons (ix_s_getr (j := 0) tu_X11 rfl (by decide) (by decide) tw_875 rfl ts_10_0_r dX11_check_15) <|
  .cons (ix_s_aload_n dX11_check_18 rfl) <|
  .cons (ix_s_getr (j := 2) tu_X11 rfl (by decide) (by decide) tw_877 rfl ts_10_2_r dX11_check_19) <|
  .cons (oc_X11_copy_s (ix_s_calls (k_X11_copy l) (by decide) (by decide) tw_1221 tw_12 tw_1219 tw_1220 ⟨by decide, by decide, by decide +kernel⟩ (fun _ => rfl) dX11_check_22)) <|
  .cons (ix_s_iconst dX11_check_25 (by decide +kernel)) <|
  .cons (ix_s_istore_n dX11_check_26 rfl (by decide)) <|
  .cons (ix_s_iconst dX11_check_27 (by decide +kernel)) <|
  .cons (ix_s_istore_n dX11_check_28 rfl (by decide)) <|
  .cons (ix_s_iload_n dX11_check_29 rfl) <|
  .cons (ix_s_iload_n dX11_check_30 rfl) <|
  .cons (ix_s_cmp_ge dX11_check_31 (by decide)) <|
  .cons (ix_s_iload_n dX11_check_34 rfl) <|
  .cons (ix_s_if_ne dX11_check_35 (by decide)) <|
  .cons (ix_s_aload_n dX11_check_38 rfl) <|
  .cons (oc_X11_minute_s (ix_s_callv (t := 10) (k_X11_minute l) (by decide) (by decide) tw_1191 tw_12 tw_1188 tw_1190 tp_45 ⟨by decide, by decide, by decide +kernel⟩ (by decide) rfl rfl (fun _ => ⟨_, _, rfl, rfl⟩) dX11_check_39)) <|
  .cons (ix_s_aload_n dX11_check_42 rfl) <|
  .cons (ix_s_getr (j := 0) tu_X11 rfl (by decide) (by decide) tw_875 rfl ts_10_0_r dX11_check_43) <|
  .cons (ix_s_sipush dX11_check_46 (by decide +kernel)) <|
  .cons (ix_s_iload_n dX11_check_49 rfl) <|
  .cons (ix_s_iadd dX11_check_50) <|
  .cons (ix_s_iald dX11_check_51) <|
  .cons (ix_s_aload_n dX11_check_52 rfl) <|
  .cons (oc_X11_had_s (ix_s_callv (t := 10) (k_X11_had l) (by decide) (by decide) tw_1202 tw_12 tw_1199 tw_1201 tp_47 ⟨by decide, by decide, by decide +kernel⟩ (by decide) rfl rfl (fun _ => ⟨_, _, rfl, rfl⟩) dX11_check_53)) <|
  .cons (ix_s_cmp_ne dX11_check_56 (by decide)) <|
  .cons (ix_s_iconst dX11_check_59 (by decide +kernel)) <|
  .cons (ix_s_goto dX11_check_60 (by decide)) <|
  .cons (ix_s_iconst dX11_check_63 (by decide +kernel)) <|
  .cons (ix_s_iload_n dX11_check_64 rfl) <|
  .cons (ix_s_iadd dX11_check_65) <|
  .cons (ix_s_istore_n dX11_check_66 rfl (by decide)) <|
  .cons (ix_s_iinc dX11_check_67 (by decide +kernel) (by decide)) <|
  .cons (ix_s_goto dX11_check_70 (by decide)) <|
  .cons (ix_s_aload_n dX11_check_73 rfl) <|
  .cons (ix_s_iload_n dX11_check_74 rfl) <|
  .cons (oc_X11_putBack_s (ix_s_callv (t := 10) (k_X11_putBack l) (by decide) (by decide) tw_1229 tw_12 tw_1226 tw_1228 tp_50 ⟨by decide, by decide, by decide +kernel⟩ (by decide) rfl rfl (fun _ => ⟨_, _, rfl, rfl⟩) dX11_check_75)) <|
  .cons (ix_s_iret dX11_check_78 rfl) <| .nil
theorem e_X11_check_0 (Q : ix_R → Prop) (ls : ix_L) (st : List ix_V) (μ : ix_M) : ix_Ev o_X11_check Q (0, ls, st, μ) = ix_aload 0 1 (ix_Ev o_X11_check Q) Q ls st μ := ix_Ev.eq (a_X11_check launch0) rfl ls st μ
theorem e_X11_check_1 (Q : ix_R → Prop) (ls : ix_L) (st : List ix_V) (μ : ix_M) : ix_Ev o_X11_check Q (1, ls, st, μ) = ix_getr 10 20 (fun _ => 113) 4 (ix_Ev o_X11_check Q) Q ls st μ := ix_Ev.eq (a_X11_check launch0) rfl ls st μ
theorem e_X11_check_4 (Q : ix_R → Prop) (ls : ix_L) (st : List ix_V) (μ : ix_M) : ix_Ev o_X11_check Q (4, ls, st, μ) = ix_push (vi 5) 5 (ix_Ev o_X11_check Q) Q ls st μ := ix_Ev.eq (a_X11_check launch0) rfl ls st μ
theorem e_X11_check_5 (Q : ix_R → Prop) (ls : ix_L) (st : List ix_V) (μ : ix_M) : ix_Ev o_X11_check Q (5, ls, st, μ) = ix_iald 6 (ix_Ev o_X11_check Q) Q ls st μ := ix_Ev.eq (a_X11_check launch0) rfl ls st μ
theorem e_X11_check_6 (Q : ix_R → Prop) (ls : ix_L) (st : List ix_V) (μ : ix_M) : ix_Ev o_X11_check Q (6, ls, st, μ) = ix_istore 1 7 (ix_Ev o_X11_check Q) Q ls st μ := ix_Ev.eq (a_X11_check launch0) rfl ls st μ
theorem e_X11_check_7 (Q : ix_R → Prop) (ls : ix_L) (st : List ix_V) (μ : ix_M) : ix_Ev o_X11_check Q (7, ls, st, μ) = ix_aload 0 8 (ix_Ev o_X11_check Q) Q ls st μ := ix_Ev.eq (a_X11_check launch0) rfl ls st μ
theorem e_X11_check_8 (Q : ix_R → Prop) (ls : ix_L) (st : List ix_V) (μ : ix_M) : ix_Ev o_X11_check Q (8, ls, st, μ) = ix_getr 10 20 (fun _ => 113) 11 (ix_Ev o_X11_check Q) Q ls st μ := ix_Ev.eq (a_X11_check launch0) rfl ls st μ
theorem e_X11_check_11 (Q : ix_R → Prop) (ls : ix_L) (st : List ix_V) (μ : ix_M) : ix_Ev o_X11_check Q (11, ls, st, μ) = ix_push (vi 5) 12 (ix_Ev o_X11_check Q) Q ls st μ := ix_Ev.eq (a_X11_check launch0) rfl ls st μ
theorem e_X11_check_12 (Q : ix_R → Prop) (ls : ix_L) (st : List ix_V) (μ : ix_M) : ix_Ev o_X11_check Q (12, ls, st, μ) = ix_push (vi 0) 13 (ix_Ev o_X11_check Q) Q ls st μ := ix_Ev.eq (a_X11_check launch0) rfl ls st μ
theorem e_X11_check_13 (Q : ix_R → Prop) (ls : ix_L) (st : List ix_V) (μ : ix_M) : ix_Ev o_X11_check Q (13, ls, st, μ) = ix_iast 14 (ix_Ev o_X11_check Q) Q ls st μ := ix_Ev.eq (a_X11_check launch0) rfl ls st μ
theorem e_X11_check_14 (Q : ix_R → Prop) (ls : ix_L) (st : List ix_V) (μ : ix_M) : ix_Ev o_X11_check Q (14, ls, st, μ) = ix_aload 0 15 (ix_Ev o_X11_check Q) Q ls st μ := ix_Ev.eq (a_X11_check launch0) rfl ls st μ
theorem e_X11_check_15 (Q : ix_R → Prop) (ls : ix_L) (st : List ix_V) (μ : ix_M) : ix_Ev o_X11_check Q (15, ls, st, μ) = ix_getr 10 20 (fun _ => 113) 18 (ix_Ev o_X11_check Q) Q ls st μ := ix_Ev.eq (a_X11_check launch0) rfl ls st μ
theorem e_X11_check_18 (Q : ix_R → Prop) (ls : ix_L) (st : List ix_V) (μ : ix_M) : ix_Ev o_X11_check Q (18, ls, st, μ) = ix_aload 0 19 (ix_Ev o_X11_check Q) Q ls st μ := ix_Ev.eq (a_X11_check launch0) rfl ls st μ
theorem e_X11_check_19 (Q : ix_R → Prop) (ls : ix_L) (st : List ix_V) (μ : ix_M) : ix_Ev o_X11_check Q (19, ls, st, μ) = ix_getr 10 20 (fun _ => 115) 22 (ix_Ev o_X11_check Q) Q ls st μ := ix_Ev.eq (a_X11_check launch0) rfl ls st μ
theorem e_X11_check_22 (Q : ix_R → Prop) (ls : ix_L) (st : List ix_V) (μ : ix_M) : ix_Ev o_X11_check Q (22, ls, st, μ) = oc_X11_copy 25 (ix_Ev o_X11_check Q) Q ls st μ := ix_Ev.eq (a_X11_check launch0) rfl ls st μ
theorem e_X11_check_25 (Q : ix_R → Prop) (ls : ix_L) (st : List ix_V) (μ : ix_M) : ix_Ev o_X11_check Q (25, ls, st, μ) = ix_push (vi 0) 26 (ix_Ev o_X11_check Q) Q ls st μ := ix_Ev.eq (a_X11_check launch0) rfl ls st μ
theorem e_X11_check_26 (Q : ix_R → Prop) (ls : ix_L) (st : List ix_V) (μ : ix_M) : ix_Ev o_X11_check Q (26, ls, st, μ) = ix_istore 2 27 (ix_Ev o_X11_check Q) Q ls st μ := ix_Ev.eq (a_X11_check launch0) rfl ls st μ
theorem e_X11_check_27 (Q : ix_R → Prop) (ls : ix_L) (st : List ix_V) (μ : ix_M) : ix_Ev o_X11_check Q (27, ls, st, μ) = ix_push (vi 0) 28 (ix_Ev o_X11_check Q) Q ls st μ := ix_Ev.eq (a_X11_check launch0) rfl ls st μ
theorem e_X11_check_28 (Q : ix_R → Prop) (ls : ix_L) (st : List ix_V) (μ : ix_M) : ix_Ev o_X11_check Q (28, ls, st, μ) = ix_istore 3 29 (ix_Ev o_X11_check Q) Q ls st μ := ix_Ev.eq (a_X11_check launch0) rfl ls st μ
theorem e_X11_check_29 (Q : ix_R → Prop) (ls : ix_L) (st : List ix_V) (μ : ix_M) : ix_Ev o_X11_check Q (29, ls, st, μ) = ix_iload 3 30 (ix_Ev o_X11_check Q) Q ls st μ := ix_Ev.eq (a_X11_check launch0) rfl ls st μ
theorem e_X11_check_30 (Q : ix_R → Prop) (ls : ix_L) (st : List ix_V) (μ : ix_M) : ix_Ev o_X11_check Q (30, ls, st, μ) = ix_iload 1 31 (ix_Ev o_X11_check Q) Q ls st μ := ix_Ev.eq (a_X11_check launch0) rfl ls st μ
theorem e_X11_check_31 (Q : ix_R → Prop) (ls : ix_L) (st : List ix_V) (μ : ix_M) : ix_Ev o_X11_check Q (31, ls, st, μ) = ix_cmp (fun x y => y ≤ x) 73 34 (ix_Ev o_X11_check Q) Q ls st μ := ix_Ev.eq (a_X11_check launch0) rfl ls st μ
theorem e_X11_check_34 (Q : ix_R → Prop) (ls : ix_L) (st : List ix_V) (μ : ix_M) : ix_Ev o_X11_check Q (34, ls, st, μ) = ix_iload 2 35 (ix_Ev o_X11_check Q) Q ls st μ := ix_Ev.eq (a_X11_check launch0) rfl ls st μ
theorem e_X11_check_35 (Q : ix_R → Prop) (ls : ix_L) (st : List ix_V) (μ : ix_M) : ix_Ev o_X11_check Q (35, ls, st, μ) = ix_if (fun x => x = 0) 38 73 (ix_Ev o_X11_check Q) Q ls st μ := ix_Ev.eq (a_X11_check launch0) rfl ls st μ
theorem e_X11_check_38 (Q : ix_R → Prop) (ls : ix_L) (st : List ix_V) (μ : ix_M) : ix_Ev o_X11_check Q (38, ls, st, μ) = ix_aload 0 39 (ix_Ev o_X11_check Q) Q ls st μ := ix_Ev.eq (a_X11_check launch0) rfl ls st μ
theorem e_X11_check_39 (Q : ix_R → Prop) (ls : ix_L) (st : List ix_V) (μ : ix_M) : ix_Ev o_X11_check Q (39, ls, st, μ) = oc_X11_minute 42 (ix_Ev o_X11_check Q) Q ls st μ := ix_Ev.eq (a_X11_check launch0) rfl ls st μ
theorem e_X11_check_42 (Q : ix_R → Prop) (ls : ix_L) (st : List ix_V) (μ : ix_M) : ix_Ev o_X11_check Q (42, ls, st, μ) = ix_aload 0 43 (ix_Ev o_X11_check Q) Q ls st μ := ix_Ev.eq (a_X11_check launch0) rfl ls st μ
theorem e_X11_check_43 (Q : ix_R → Prop) (ls : ix_L) (st : List ix_V) (μ : ix_M) : ix_Ev o_X11_check Q (43, ls, st, μ) = ix_getr 10 20 (fun _ => 113) 46 (ix_Ev o_X11_check Q) Q ls st μ := ix_Ev.eq (a_X11_check launch0) rfl ls st μ
theorem e_X11_check_46 (Q : ix_R → Prop) (ls : ix_L) (st : List ix_V) (μ : ix_M) : ix_Ev o_X11_check Q (46, ls, st, μ) = ix_push (vi 132) 49 (ix_Ev o_X11_check Q) Q ls st μ := ix_Ev.eq (a_X11_check launch0) rfl ls st μ
theorem e_X11_check_49 (Q : ix_R → Prop) (ls : ix_L) (st : List ix_V) (μ : ix_M) : ix_Ev o_X11_check Q (49, ls, st, μ) = ix_iload 3 50 (ix_Ev o_X11_check Q) Q ls st μ := ix_Ev.eq (a_X11_check launch0) rfl ls st μ
theorem e_X11_check_50 (Q : ix_R → Prop) (ls : ix_L) (st : List ix_V) (μ : ix_M) : ix_Ev o_X11_check Q (50, ls, st, μ) = ix_bin (fun x y => x + y) 51 (ix_Ev o_X11_check Q) Q ls st μ := ix_Ev.eq (a_X11_check launch0) rfl ls st μ
theorem e_X11_check_51 (Q : ix_R → Prop) (ls : ix_L) (st : List ix_V) (μ : ix_M) : ix_Ev o_X11_check Q (51, ls, st, μ) = ix_iald 52 (ix_Ev o_X11_check Q) Q ls st μ := ix_Ev.eq (a_X11_check launch0) rfl ls st μ
theorem e_X11_check_52 (Q : ix_R → Prop) (ls : ix_L) (st : List ix_V) (μ : ix_M) : ix_Ev o_X11_check Q (52, ls, st, μ) = ix_aload 0 53 (ix_Ev o_X11_check Q) Q ls st μ := ix_Ev.eq (a_X11_check launch0) rfl ls st μ
theorem e_X11_check_53 (Q : ix_R → Prop) (ls : ix_L) (st : List ix_V) (μ : ix_M) : ix_Ev o_X11_check Q (53, ls, st, μ) = oc_X11_had 56 (ix_Ev o_X11_check Q) Q ls st μ := ix_Ev.eq (a_X11_check launch0) rfl ls st μ
theorem e_X11_check_56 (Q : ix_R → Prop) (ls : ix_L) (st : List ix_V) (μ : ix_M) : ix_Ev o_X11_check Q (56, ls, st, μ) = ix_cmp (fun x y => x = y) 59 63 (ix_Ev o_X11_check Q) Q ls st μ := ix_Ev.eq (a_X11_check launch0) rfl ls st μ
theorem e_X11_check_59 (Q : ix_R → Prop) (ls : ix_L) (st : List ix_V) (μ : ix_M) : ix_Ev o_X11_check Q (59, ls, st, μ) = ix_push (vi 0) 60 (ix_Ev o_X11_check Q) Q ls st μ := ix_Ev.eq (a_X11_check launch0) rfl ls st μ
theorem e_X11_check_60 (Q : ix_R → Prop) (ls : ix_L) (st : List ix_V) (μ : ix_M) : ix_Ev o_X11_check Q (60, ls, st, μ) = ix_goto 66 (ix_Ev o_X11_check Q) Q ls st μ := ix_Ev.eq (a_X11_check launch0) rfl ls st μ
theorem e_X11_check_63 (Q : ix_R → Prop) (ls : ix_L) (st : List ix_V) (μ : ix_M) : ix_Ev o_X11_check Q (63, ls, st, μ) = ix_push (vi 1) 64 (ix_Ev o_X11_check Q) Q ls st μ := ix_Ev.eq (a_X11_check launch0) rfl ls st μ
theorem e_X11_check_64 (Q : ix_R → Prop) (ls : ix_L) (st : List ix_V) (μ : ix_M) : ix_Ev o_X11_check Q (64, ls, st, μ) = ix_iload 3 65 (ix_Ev o_X11_check Q) Q ls st μ := ix_Ev.eq (a_X11_check launch0) rfl ls st μ
theorem e_X11_check_65 (Q : ix_R → Prop) (ls : ix_L) (st : List ix_V) (μ : ix_M) : ix_Ev o_X11_check Q (65, ls, st, μ) = ix_bin (fun x y => x + y) 66 (ix_Ev o_X11_check Q) Q ls st μ := ix_Ev.eq (a_X11_check launch0) rfl ls st μ
theorem e_X11_check_66 (Q : ix_R → Prop) (ls : ix_L) (st : List ix_V) (μ : ix_M) : ix_Ev o_X11_check Q (66, ls, st, μ) = ix_istore 2 67 (ix_Ev o_X11_check Q) Q ls st μ := ix_Ev.eq (a_X11_check launch0) rfl ls st μ
theorem e_X11_check_67 (Q : ix_R → Prop) (ls : ix_L) (st : List ix_V) (μ : ix_M) : ix_Ev o_X11_check Q (67, ls, st, μ) = ix_iinc 3 1 70 (ix_Ev o_X11_check Q) Q ls st μ := ix_Ev.eq (a_X11_check launch0) rfl ls st μ
theorem e_X11_check_70 (Q : ix_R → Prop) (ls : ix_L) (st : List ix_V) (μ : ix_M) : ix_Ev o_X11_check Q (70, ls, st, μ) = ix_goto 29 (ix_Ev o_X11_check Q) Q ls st μ := ix_Ev.eq (a_X11_check launch0) rfl ls st μ
theorem e_X11_check_73 (Q : ix_R → Prop) (ls : ix_L) (st : List ix_V) (μ : ix_M) : ix_Ev o_X11_check Q (73, ls, st, μ) = ix_aload 0 74 (ix_Ev o_X11_check Q) Q ls st μ := ix_Ev.eq (a_X11_check launch0) rfl ls st μ
theorem e_X11_check_74 (Q : ix_R → Prop) (ls : ix_L) (st : List ix_V) (μ : ix_M) : ix_Ev o_X11_check Q (74, ls, st, μ) = ix_iload 2 75 (ix_Ev o_X11_check Q) Q ls st μ := ix_Ev.eq (a_X11_check launch0) rfl ls st μ
theorem e_X11_check_75 (Q : ix_R → Prop) (ls : ix_L) (st : List ix_V) (μ : ix_M) : ix_Ev o_X11_check Q (75, ls, st, μ) = oc_X11_putBack 78 (ix_Ev o_X11_check Q) Q ls st μ := ix_Ev.eq (a_X11_check launch0) rfl ls st μ
theorem e_X11_check_78 (Q : ix_R → Prop) (ls : ix_L) (st : List ix_V) (μ : ix_M) : ix_Ev o_X11_check Q (78, ls, st, μ) = ix_iret (ix_Ev o_X11_check Q) Q ls st μ := ix_Ev.eq (a_X11_check launch0) rfl ls st μ
theorem l_X11_check {M n : Nat} {ds dl : List Int32} {g : Nat → Int32} {μ0 : ix_M} {Q : ix_R → Prop} (hM : M + n < 30000) (hn : n ≤ 20) (hl : μ0 112 5 = -1) (hg : ∀ j, j < n → μ0 113 (132 + j) = g j) {V : Int32} (hQ : ∀ μ', Fx [113, 119, 120] μ0 μ' → ∀ μ'', Fx [113] μ' μ'' → (∀ k, k < 256 → μ'' 113 k = μ' 115 k) → Q (some (vi V), μ'')) : ∀ (k i : Nat) (μ : ix_M), i + k = n → Fx [113, 119, 120] μ0 μ → (∀ j, rst j → μ 113 j = μ0 113 j) → MW μ (M + i) ds dl → V = fUn ds dl g k i (nv (μ 113)) + 1 → ix_Ev o_X11_check Q (29, [some (vr 10 112), some (vi (nI n)), some (vi 0), some (vi (nI i))], [], μ) := by
  intro k
  induction k with
  | zero =>
    intro i μ hi hF hr hW hV
    have hi : i = n := hi
    subst hi
    have c1 : nI i ≤ nI i := Int32.le_refl _
    rw [e_X11_check_29]
    simp (decide := true) only [e_X11_check_0, e_X11_check_1, e_X11_check_4, e_X11_check_5, e_X11_check_6, e_X11_check_7, e_X11_check_8, e_X11_check_11, e_X11_check_12, e_X11_check_13, e_X11_check_14, e_X11_check_15, e_X11_check_18, e_X11_check_19, e_X11_check_22, e_X11_check_25, e_X11_check_26, e_X11_check_27, e_X11_check_28, e_X11_check_30, e_X11_check_31, e_X11_check_34, e_X11_check_35, e_X11_check_38, e_X11_check_39, e_X11_check_42, e_X11_check_43, e_X11_check_46, e_X11_check_49, e_X11_check_50, e_X11_check_51, e_X11_check_52, e_X11_check_53, e_X11_check_56, e_X11_check_59, e_X11_check_60, e_X11_check_63, e_X11_check_64, e_X11_check_65, e_X11_check_66, e_X11_check_67, e_X11_check_70, e_X11_check_73, e_X11_check_74, e_X11_check_75, e_X11_check_78, vi, vl, vr, oc_X11_copy, T_X11_copy, oc_X11_had, T_X11_had, oc_X11_minute, T_X11_minute, oc_X11_putBack, T_X11_putBack, ix_push, ix_iload, ix_lload, ix_aload, ix_istore, ix_astore, ix_iinc, ix_bin, ix_div, ix_un, ix_i2l, ix_l2i, ix_lbin, ix_lsh, ix_lcmp, ix_dup, ix_dup2, ix_pop, ix_if, ix_cmp, ix_goto, ix_switch, ix_sw, ix_iret, ix_zret, ix_vret, ix_aret, ix_geti, ix_getr, ix_puti, ix_putz, ix_puts, ix_gets, ix_iald, ix_iast, ix_alen, ix_aald, ix_gval, ix_gcod, ix_bald, ix_blen, ix_sald, ix_nret, ix_math2, ix_math1, ix_acopy, ml_113, ml_114, ml_115, ml_116, ml_118, ml_119, ml_120, ml_121, ml_122, ml_123, ml_124, ml_125, ml_126, mv_0, mv_1, mv_2, mv_3, mv_4, mv_5, mB_or, Nat.add_assoc, Int32.reduceLT, Int32.reduceLE, Int32.reduceToNatClampNeg, Int32.reduceSub, Int32.reduceAdd, Nat.reduceAdd, Nat.reduceLeDiff, true_or, or_true, or_false, false_or, not_false_eq_true, not_true_eq_false, false_implies, true_implies, implies_true, and_self, mB_0, mB_01, Classical.not_not, Nat.zero_le, List.getElem?_cons_zero, List.getElem?_cons_succ, List.set_cons_zero, List.set_cons_succ, ix_nl, ix_cs, true_and, and_true, Option.toList_some, Option.toList_none, List.cons_append, List.nil_append, c1]
    have hV : V = 0 := by rw [hV, fUn]; decide
    subst hV
    exact fun μ' F R => hQ μ hF μ' F R
  | succ k ih =>
    intro i μ hi hF hr hW hV
    have c1 : ¬ nI n ≤ nI i := nI_ge (by omega) (by omega)
    have n1 : nI i + 1 = nI (i + 1) := nI_1 i
    obtain ⟨y1, y2, y3⟩ := mix 132 i (by omega)
    have y1 : (132 : Int32) + nI i = nI (132 + i) := y1
    rw [e_X11_check_29]
    simp (decide := true) only [e_X11_check_0, e_X11_check_1, e_X11_check_4, e_X11_check_5, e_X11_check_6, e_X11_check_7, e_X11_check_8, e_X11_check_11, e_X11_check_12, e_X11_check_13, e_X11_check_14, e_X11_check_15, e_X11_check_18, e_X11_check_19, e_X11_check_22, e_X11_check_25, e_X11_check_26, e_X11_check_27, e_X11_check_28, e_X11_check_30, e_X11_check_31, e_X11_check_34, e_X11_check_35, e_X11_check_38, e_X11_check_39, e_X11_check_42, e_X11_check_43, e_X11_check_46, e_X11_check_49, e_X11_check_50, e_X11_check_51, e_X11_check_52, e_X11_check_53, e_X11_check_56, e_X11_check_59, e_X11_check_60, e_X11_check_63, e_X11_check_64, e_X11_check_65, e_X11_check_66, e_X11_check_67, e_X11_check_70, e_X11_check_73, e_X11_check_74, e_X11_check_75, e_X11_check_78, vi, vl, vr, oc_X11_copy, T_X11_copy, oc_X11_had, T_X11_had, oc_X11_minute, T_X11_minute, oc_X11_putBack, T_X11_putBack, ix_push, ix_iload, ix_lload, ix_aload, ix_istore, ix_astore, ix_iinc, ix_bin, ix_div, ix_un, ix_i2l, ix_l2i, ix_lbin, ix_lsh, ix_lcmp, ix_dup, ix_dup2, ix_pop, ix_if, ix_cmp, ix_goto, ix_switch, ix_sw, ix_iret, ix_zret, ix_vret, ix_aret, ix_geti, ix_getr, ix_puti, ix_putz, ix_puts, ix_gets, ix_iald, ix_iast, ix_alen, ix_aald, ix_gval, ix_gcod, ix_bald, ix_blen, ix_sald, ix_nret, ix_math2, ix_math1, ix_acopy, ml_113, ml_114, ml_115, ml_116, ml_118, ml_119, ml_120, ml_121, ml_122, ml_123, ml_124, ml_125, ml_126, mv_0, mv_1, mv_2, mv_3, mv_4, mv_5, mB_or, Nat.add_assoc, Int32.reduceLT, Int32.reduceLE, Int32.reduceToNatClampNeg, Int32.reduceSub, Int32.reduceAdd, Nat.reduceAdd, Nat.reduceLeDiff, true_or, or_true, or_false, false_or, not_false_eq_true, not_true_eq_false, false_implies, true_implies, implies_true, and_self, mB_0, mB_01, Classical.not_not, Nat.zero_le, List.getElem?_cons_zero, List.getElem?_cons_succ, List.set_cons_zero, List.set_cons_succ, ix_nl, ix_cs, true_and, and_true, Option.toList_some, Option.toList_none, List.cons_append, List.nil_append, c1, n1, y1, y2, y3]
    refine ⟨hW.1.ok (by omega), hW.2.1, ds, dl, hW.2.2.1, hW.2.2.2, fun μ1 F1 V1 R1 => ?_⟩
    have hW1 : MW μ1 (M + i + 1) ds dl := hW.next V1 R1
    obtain ⟨N, hN, e1, e2⟩ := hW1.had
    refine ⟨N, hN, e1, ?_⟩
    rw [e2]
    have V1' : nv (μ1 113) = pV ds dl (-1) 0 (nv (μ 113)) := by rw [V1, hF 112 (by decide), hl, pV_nob]
    have eg : μ1 113 (132 + i) = g i := by rw [R1 _ (by unfold rst; omega), hr _ (by unfold rst; omega)]; exact hg i (by omega)
    rw [fUn, ← V1'] at hV
    rw [eg]
    refine ⟨fun z => ?_, fun z => ?_⟩
    · rw [if_pos z.symm] at hV
      exact ih (i + 1) μ1 (by omega) (hF.tr F1) (fun j hj => by rw [R1 j hj]; exact hr j hj) hW1 hV
    · rw [if_neg (fun y => z y.symm)] at hV
      have n2 : 1 + nI i = nI (i + 1) := by rw [Int32.add_comm]; exact nI_1 i
      have n3 : ¬ nI (i + 1) = 0 := nI_ne0 (by omega) (by omega)
      rw [n2, e_X11_check_29]
      simp (decide := true) only [e_X11_check_0, e_X11_check_1, e_X11_check_4, e_X11_check_5, e_X11_check_6, e_X11_check_7, e_X11_check_8, e_X11_check_11, e_X11_check_12, e_X11_check_13, e_X11_check_14, e_X11_check_15, e_X11_check_18, e_X11_check_19, e_X11_check_22, e_X11_check_25, e_X11_check_26, e_X11_check_27, e_X11_check_28, e_X11_check_30, e_X11_check_31, e_X11_check_34, e_X11_check_35, e_X11_check_38, e_X11_check_39, e_X11_check_42, e_X11_check_43, e_X11_check_46, e_X11_check_49, e_X11_check_50, e_X11_check_51, e_X11_check_52, e_X11_check_53, e_X11_check_56, e_X11_check_59, e_X11_check_60, e_X11_check_63, e_X11_check_64, e_X11_check_65, e_X11_check_66, e_X11_check_67, e_X11_check_70, e_X11_check_73, e_X11_check_74, e_X11_check_75, e_X11_check_78, vi, vl, vr, oc_X11_copy, T_X11_copy, oc_X11_had, T_X11_had, oc_X11_minute, T_X11_minute, oc_X11_putBack, T_X11_putBack, ix_push, ix_iload, ix_lload, ix_aload, ix_istore, ix_astore, ix_iinc, ix_bin, ix_div, ix_un, ix_i2l, ix_l2i, ix_lbin, ix_lsh, ix_lcmp, ix_dup, ix_dup2, ix_pop, ix_if, ix_cmp, ix_goto, ix_switch, ix_sw, ix_iret, ix_zret, ix_vret, ix_aret, ix_geti, ix_getr, ix_puti, ix_putz, ix_puts, ix_gets, ix_iald, ix_iast, ix_alen, ix_aald, ix_gval, ix_gcod, ix_bald, ix_blen, ix_sald, ix_nret, ix_math2, ix_math1, ix_acopy, ml_113, ml_114, ml_115, ml_116, ml_118, ml_119, ml_120, ml_121, ml_122, ml_123, ml_124, ml_125, ml_126, mv_0, mv_1, mv_2, mv_3, mv_4, mv_5, mB_or, Nat.add_assoc, Int32.reduceLT, Int32.reduceLE, Int32.reduceToNatClampNeg, Int32.reduceSub, Int32.reduceAdd, Nat.reduceAdd, Nat.reduceLeDiff, true_or, or_true, or_false, false_or, not_false_eq_true, not_true_eq_false, false_implies, true_implies, implies_true, and_self, mB_0, mB_01, Classical.not_not, Nat.zero_le, List.getElem?_cons_zero, List.getElem?_cons_succ, List.set_cons_zero, List.set_cons_succ, ix_nl, ix_cs, true_and, and_true, Option.toList_some, Option.toList_none, List.cons_append, List.nil_append, n3]
      have hV : V = nI (i + 1) := by rw [hV, nI_1]
      subst hV
      exact ⟨fun _ μ' F R => hQ μ1 (hF.tr F1) μ' F R, fun _ μ' F R => hQ μ1 (hF.tr F1) μ' F R⟩
theorem pr_check  (μ : ix_M) (I : Inv μ) (Q : ix_R → Prop) (hQ : ∀ vv μ', ix_Ev o_X11_check (Pst vv) (0, [some (vr 10 112), none, none, none], [], μ') → Q (some (vi vv), μ')) : ix_Ev o_X10_check Q (0, [some (vr 9 0), none], [], μ) := by
  obtain ⟨M, hM, hR, m1, m2⟩ := I.mi
  obtain ⟨ds, dl, hL, x1, x2⟩ := I.tx
  obtain ⟨s1, s2, s3, ⟨n, a1, a2, a3, a4⟩, s5, s6, s7⟩ := I.1
  simp (decide := true) only [e_X10_check_0, e_X10_check_1, e_X10_check_2, e_X10_check_5, e_X10_check_6, e_X10_check_9, e_X10_check_12, e_X10_check_15, e_X10_check_16, e_X10_check_17, e_X10_check_20, e_X10_check_23, e_X10_check_26, e_X10_check_27, e_X10_check_28, e_X10_check_29, vi, vl, vr, oc_X10_firstUnlike, T_X10_firstUnlike, oc_X10_think, T_X10_think, oc_X4_clear, T_X4_clear, ix_push, ix_iload, ix_lload, ix_aload, ix_istore, ix_astore, ix_iinc, ix_bin, ix_div, ix_un, ix_i2l, ix_l2i, ix_lbin, ix_lsh, ix_lcmp, ix_dup, ix_dup2, ix_pop, ix_if, ix_cmp, ix_goto, ix_switch, ix_sw, ix_iret, ix_zret, ix_vret, ix_aret, ix_geti, ix_getr, ix_puti, ix_putz, ix_puts, ix_gets, ix_iald, ix_iast, ix_alen, ix_aald, ix_gval, ix_gcod, ix_bald, ix_blen, ix_sald, ix_nret, ix_math2, ix_math1, ix_acopy, Nat.add_assoc, Int32.reduceLT, Int32.reduceLE, Int32.reduceToNatClampNeg, Int32.reduceSub, Int32.reduceAdd, Nat.reduceAdd, Nat.reduceLeDiff, true_or, or_true, or_false, false_or, not_false_eq_true, not_true_eq_false, false_implies, true_implies, implies_true, and_self, mB_0, mB_01, Classical.not_not, Nat.zero_le, List.getElem?_cons_zero, List.getElem?_cons_succ, List.set_cons_zero, List.set_cons_succ, ix_nl, ix_cs, true_and, and_true, Option.toList_some, Option.toList_none, List.cons_append, List.nil_append, ix_up_ne, ix_up_k, ve_1, ve_2, ve_3, ve_4, ve_5]
  intro μ1 F1 V1
  have e1 : ∀ a, ¬ (48 ≤ a ∧ a ≤ 55) → μ1 a = μ a := fun a ha => F1 a (by simp [wL]; omega)
  refine ⟨M, n, ds, dl, by rw [V1, I.hw]; exact hR.1, by rw [e1 21 (by decide)]; exact a2, by omega, a1, by omega, hL.fx F1 (by decide), fun μ2 F2 => hQ _ _ ?_⟩
  have F02 : ∀ a, ¬ (48 ≤ a ∧ a ≤ 55) → a ≠ 14 → a ≠ 18 → μ2 a = μ a := fun a h1 h2 h3 => by rw [F2 a (by simp [wP]; omega), e1 a h1]
  have e113 : μ2 113 = μ 113 := F02 113 (by decide) (by decide) (by decide)
  rw [V1, I.hw, e1 22 (by decide)]
  have a3' : μ2 113 5 = nI n := by rw [e113]; exact a3
  simp (decide := true) only [e_X11_check_0, e_X11_check_1, e_X11_check_4, e_X11_check_5, e_X11_check_6, e_X11_check_7, e_X11_check_8, e_X11_check_11, e_X11_check_12, e_X11_check_13, e_X11_check_14, e_X11_check_15, e_X11_check_18, e_X11_check_19, e_X11_check_22, e_X11_check_25, e_X11_check_26, e_X11_check_27, e_X11_check_28, e_X11_check_30, e_X11_check_31, e_X11_check_34, e_X11_check_35, e_X11_check_38, e_X11_check_39, e_X11_check_42, e_X11_check_43, e_X11_check_46, e_X11_check_49, e_X11_check_50, e_X11_check_51, e_X11_check_52, e_X11_check_53, e_X11_check_56, e_X11_check_59, e_X11_check_60, e_X11_check_63, e_X11_check_64, e_X11_check_65, e_X11_check_66, e_X11_check_67, e_X11_check_70, e_X11_check_73, e_X11_check_74, e_X11_check_75, e_X11_check_78, vi, vl, vr, oc_X11_copy, T_X11_copy, oc_X11_had, T_X11_had, oc_X11_minute, T_X11_minute, oc_X11_putBack, T_X11_putBack, ix_push, ix_iload, ix_lload, ix_aload, ix_istore, ix_astore, ix_iinc, ix_bin, ix_div, ix_un, ix_i2l, ix_l2i, ix_lbin, ix_lsh, ix_lcmp, ix_dup, ix_dup2, ix_pop, ix_if, ix_cmp, ix_goto, ix_switch, ix_sw, ix_iret, ix_zret, ix_vret, ix_aret, ix_geti, ix_getr, ix_puti, ix_putz, ix_puts, ix_gets, ix_iald, ix_iast, ix_alen, ix_aald, ix_gval, ix_gcod, ix_bald, ix_blen, ix_sald, ix_nret, ix_math2, ix_math1, ix_acopy, ml_113, ml_114, ml_115, ml_116, ml_118, ml_119, ml_120, ml_121, ml_122, ml_123, ml_124, ml_125, ml_126, mv_0, mv_1, mv_2, mv_3, mv_4, mv_5, mB_or, Nat.add_assoc, Int32.reduceLT, Int32.reduceLE, Int32.reduceToNatClampNeg, Int32.reduceSub, Int32.reduceAdd, Nat.reduceAdd, Nat.reduceLeDiff, true_or, or_true, or_false, false_or, not_false_eq_true, not_true_eq_false, false_implies, true_implies, implies_true, and_self, mB_0, mB_01, Classical.not_not, Nat.zero_le, List.getElem?_cons_zero, List.getElem?_cons_succ, List.set_cons_zero, List.set_cons_succ, ix_nl, ix_cs, true_and, and_true, Option.toList_some, Option.toList_none, List.cons_append, List.nil_append, a3', ix_up_ne, ix_up_k, ve_1, ve_2, ve_3, ve_4, ve_5]
  intro μ3 F3 R3
  have F3' : ∀ a, a ≠ 115 → μ3 a = ix_up (ix_up μ2 21 1 0) 113 5 0 a := fun a ha => F3 a (by simp [ha])
  have e3 : ∀ j, j ≠ 5 → μ3 113 j = μ 113 j := fun j hj => by rw [F3' 113 (by decide), ix_up_ap, if_neg (fun z => hj z.2), ix_up_ne (by decide), e113]
  have en : nv (μ3 113) = nv (μ 113) := by
    funext r i
    unfold nv
    by_cases c : wok r i = true
    · rw [if_pos c, if_pos c]
      refine e3 _ (fun z => nvI_rst c ?_)
      rw [z]
      unfold rst
      omega
    · rw [if_neg c, if_neg c]
  have tx : ∀ t ds, 152 ≤ t → TxtM (μ 113) t ds → TxtM (μ3 113) t ds := fun t ds ht h => ⟨⟨by rw [e3 _ (by omega)]; exact h.1.1, h.1.2.1, fun j hj => by rw [e3 _ (by omega)]; exact h.1.2.2 j hj⟩, h.2⟩
  have e112 : μ3 112 = μ 112 := by rw [F3' 112 (by decide), ix_up_ne (by decide), ix_up_ne (by decide), F02 112 (by decide) (by decide) (by decide)]
  refine l_X11_check (M := M) (n := n) (ds := ds) (dl := dl) (g := μ 22) (μ0 := μ3) (by omega) a1 (by rw [e112]; exact I.2.2.2.2.2.2.1) (fun j hj => by rw [e3 _ (by omega)]; exact (a4 j hj).symm) (fun μ4 F4 μ5 F5 R5 => pst rfl ?_) n 0 μ3 (by omega) Fx.rf (fun _ _ => rfl) ⟨by rw [en]; exact hR.1, by rw [en]; exact hR.2.1, tx _ _ (by decide) x1, tx _ _ (by decide) x2⟩ (by rw [en])
  have f5 : ∀ k, k < 256 → μ5 113 k = if k = 5 then 0 else μ 113 k := fun k hk => by
    rw [R5 k hk, F4 115 (by decide), R3 k hk]
    by_cases c : k = 5
    · rw [c, if_pos rfl]
      exact ix_up_k _ _ _ _
    · rw [if_neg c, ix_up_ap, if_neg (fun z => c z.2), ix_up_ne (by decide), e113]
  have f5' : ∀ k, k < 256 → k ≠ 5 → μ5 113 k = μ 113 k := fun k hk c => by rw [f5 k hk, if_neg c]
  have FF : ∀ a, a ≠ 113 → a ≠ 115 → a ≠ 119 → a ≠ 120 → μ5 a = ix_up μ2 21 1 0 a := fun a h1 h2 h3 h4 => by rw [F5 a (by simp [h1]), F4 a (by simp [h1, h3, h4]), F3' a h2, ix_up_ne h1]
  have GG : ∀ a, a ≠ 113 → a ≠ 115 → a ≠ 119 → a ≠ 120 → a ≠ 21 → ¬ (48 ≤ a ∧ a ≤ 55) → a ≠ 14 → a ≠ 18 → μ5 a = μ a := fun a h1 h2 h3 h4 h5 h6 h7 h8 => by rw [FF a h1 h2 h3 h4, ix_up_ne h5, F02 a h6 h7 h8]
  have G1 : ∀ a, a ≤ 23 → a ≠ 21 → a ≠ 14 → a ≠ 18 → μ5 a = μ a := fun a h1 h2 h3 h4 => GG a (by omega) (by omega) (by omega) (by omega) h2 (by omega) h3 h4
  refine I.now (L := 21 :: 113 :: 115 :: 119 :: 120 :: wT) (fun a ha => ?_) (by decide) ⟨CW_fx s1 (fun a h1 h2 => G1 a (by omega) (by omega) (by omega) (by omega)) (fun j h1 h2 => f5' j (by omega) (by unfold rst at h2; omega)), ?_, CT_fx s3 (G1 19 (by decide) (by decide) (by decide) (by decide)) (G1 20 (by decide) (by decide) (by decide) (by decide)) (fun j hj => f5' j (by omega) (by omega)), ⟨0, by decide, ?_, ?_, fun j hj => absurd hj (Nat.not_lt_zero j)⟩, CN_fx s5 (G1 23 (by decide) (by decide) (by decide) (by decide)) (fun j hj => f5' j (by omega) (by omega)), CX_fx s6 (G1 12 (by decide) (by decide) (by decide) (by decide)) (G1 13 (by decide) (by decide) (by decide) (by decide)) (fun j hj => f5' j (by omega) (by omega)), CX_fx s7 (G1 16 (by decide) (by decide) (by decide) (by decide)) (G1 17 (by decide) (by decide) (by decide) (by decide)) (fun j hj => f5' j (by omega) (by omega))⟩ (by decide)
  · simp [wT] at ha
    exact GG a (by omega) (by omega) (by omega) (by omega) (by omega) (by omega) (by omega) (by omega)
  · rw [G1 1 (by decide) (by decide) (by decide) (by decide), f5' 3 (by decide) (by decide)]
    exact s2
  · show μ5 21 1 = _
    rw [FF 21 (by decide) (by decide) (by decide) (by decide)]
    exact ix_up_k _ _ _ _
  · rw [f5 5 (by decide)]
    rfl
theorem Inv.trc {μ μ' : ix_M} (I : Inv μ) (hc : ∀ a, a ∉ [93, 94, 95, 112, 122] → μ' a = μ a) (h1 : ∀ j, j < 18 → μ' 112 j = μ 112 j) (h2 : TRr μ') : Inv μ' := by
  obtain ⟨i1, i2, i3, i4, i5, i6, i7, i8, i9⟩ := I
  have e0 := hc 0 (by decide)
  refine ⟨?_, fun z => ?_, by rw [e0, h1 3 (by decide)]; exact i3, fun k hk => by rw [hc 111 (by decide), hc 116 (by decide)]; exact i4 k hk, i5.fx (fun a h1 h2 => hc a (by simp; omega)) (hc 123 (by decide)) (hc 124 (by decide)) (hc 125 (by decide)), h2, by rw [h1 5 (by decide)]; exact i7, by rw [hc 97 (by decide)]; exact i8, by rw [hc 121 (by decide)]; exact i9⟩
  · rw [hc 113 (by decide)]
    exact i1.fx (fun a h1 h2 _ _ => hc a (by simp; omega)) (fun j _ => rfl)
  · rw [e0] at z
    rw [hc 114 (by decide)]
    exact (i2 z).fx (fun a h1 h2 _ _ => hc a (by simp; omega)) (fun j _ => rfl)
theorem mo_X8_begin : ∀ (x : Nat × Int32 × Int32 × Int32 × Int32 × Int32) (μ : ix_M) (Q Q' : ix_R → Prop), (∀ r, Q r → Q' r) → T_X8_begin x μ Q → T_X8_begin x μ Q' := by
  rintro ⟨o, nb, kd, mm, a, x⟩ μ Q Q' h ⟨r, h1, h2⟩
  exact ⟨r, h1, fun μ' y z => h _ (h2 μ' y z)⟩
def oc_X8_begin (n : Nat) : ix_Op := fun k _ ls st μ => match st with
  | .inl a5 :: .inl a4 :: .inl a3 :: .inl a2 :: .inl a1 :: .inr (.inr (t0, a0)) :: r => t0 = 7 ∧ ix_cs r ≤ 8 ∧ T_X8_begin (a0, a1, a2, a3, a4, a5) μ (fun q => k (n, ls, q.1.toList ++ r, q.2))
  | _ => False
theorem oc_X8_begin_s {l : Launch} {cc : ByteArray} {nL : Nat} {own : String} {d : Nat} {rt : Option FieldType} {pc n : Nat} (h : ix_S l cc nL own d rt pc (ix_call 6 sh_X8_begin T_X8_begin n)) : ix_S l cc nL own d rt pc (oc_X8_begin n) := by
  refine h.by (fun k Q ls st μ h => ?_) (fun k k' Q ls st μ hk h => ?_)
  · unfold oc_X8_begin at h
    split at h
    · rename_i a5 a4 a3 a2 a1 t0 a0 r
      obtain ⟨rfl, h1, h2⟩ := h
      exact ⟨h1, (a0, a1, a2, a3, a4, a5), rfl, _, h2, fun r h => h⟩
    · exact h.elim
  · unfold oc_X8_begin at h ⊢
    split at h
    · obtain ⟨rfl, h1, h2⟩ := h
      exact ⟨rfl, h1, mo_X8_begin _ _ _ _ (fun q hq => hk _ hq) h2⟩
    · exact h.elim
def o_X10_voice : List (Nat × ix_Op) := [
  (0, ix_aload 0 1),
  (1, ix_iload 1 2),
  (2, oc_X10_noBoat 5),
  (5, ix_if (fun x => x = 0) 8 16),
  (8, ix_iload 2 9),
  (9, ix_push (vi 3) 10),
  (10, oc_X10_outside 13),
  (13, ix_if (fun x => x = 0) 22 16),
  (16, ix_aload 0 17),
  (17, ix_push (vi 1) 18),
  (18, oc_X10_error 21),
  (21, ix_iret),
  (22, ix_aload 0 23),
  (23, ix_getr 9 7 (fun _ => 93) 26),
  (26, ix_iload 1 27),
  (27, ix_aload 0 28),
  (28, ix_getr 9 5 (fun _ => 1) 31),
  (31, ix_getr 5 8 (fun k => k + 1) 34),
  (34, ix_getr 8 20 (fun k => k + 4) 37),
  (37, ix_iload 1 38),
  (38, ix_iald 39),
  (39, ix_aload 0 40),
  (40, ix_getr 9 5 (fun _ => 1) 43),
  (43, ix_getr 5 8 (fun k => k + 1) 46),
  (46, ix_getr 8 20 (fun k => k + 5) 49),
  (49, ix_iload 1 50),
  (50, ix_iald 51),
  (51, ix_iload 2 52),
  (52, ix_iload 3 53),
  (53, oc_X8_begin 56),
  (56, ix_iret)]
set_option maxRecDepth 20000 in
theorem a_X10_voice (l : Launch) : ix_AllS l cX10_voice 4 RX10 60 (some .int) o_X10_voice :=
  .cons (ix_s_aload_n dX10_voice_0 rfl) <|
  .cons (ix_s_iload_n dX10_voice_1 rfl) <|
  .cons (oc_X10_noBoat_s (ix_s_callv (t := 9) (k_X10_noBoat l) (by decide) (by decide) tw_369 tw_1 tw_366 tw_368 tp_1 ⟨by decide, by decide, by decide +kernel⟩ (by decide) rfl rfl (fun _ => ⟨_, _, rfl, rfl⟩) dX10_voice_2)) <|
  .cons (ix_s_if_ne dX10_voice_5 (by decide)) <|
  .cons (ix_s_iload_n dX10_voice_8 rfl) <|
  .cons (ix_s_iconst dX10_voice_9 (by decide +kernel)) <|
  .cons (oc_X10_outside_s (ix_s_calls (k_X10_outside l) (by decide) (by decide) tw_291 tw_1 tw_289 tw_290 ⟨by decide, by decide, by decide +kernel⟩ (fun _ => rfl) dX10_voice_10)) <|
  .cons (ix_s_if_eq dX10_voice_13 (by decide)) <|
  .cons (ix_s_aload_n dX10_voice_16 rfl) <|
  .cons (ix_s_iconst dX10_voice_17 (by decide +kernel)) <|
  .cons (oc_X10_error_s (ix_s_callv (t := 9) (k_X10_error l) (by decide) (by decide) tw_295 tw_1 tw_292 tw_294 tp_0 ⟨by decide, by decide, by decide +kernel⟩ (by decide) rfl rfl (fun _ => ⟨_, _, rfl, rfl⟩) dX10_voice_18)) <|
  .cons (ix_s_iret dX10_voice_21 rfl) <|
  .cons (ix_s_aload_n dX10_voice_22 rfl) <|
  .cons (ix_s_getr (j := 5) tu_X10 rfl (by decide) (by decide) tw_256 rfl ts_9_5_r dX10_voice_23) <|
  .cons (ix_s_iload_n dX10_voice_26 rfl) <|
  .cons (ix_s_aload_n dX10_voice_27 rfl) <|
  .cons (ix_s_getr (j := 0) tu_X10 rfl (by decide) (by decide) tw_251 rfl ts_9_0_r dX10_voice_28) <|
  .cons (ix_s_getr (j := 0) tu_X6 rfl (by decide) (by decide) tw_138 rfl ts_5_0_r dX10_voice_31) <|
  .cons (ix_s_getr (j := 3) tu_X9 rfl (by decide) (by decide) tw_47 rfl ts_8_3_r dX10_voice_34) <|
  .cons (ix_s_iload_n dX10_voice_37 rfl) <|
  .cons (ix_s_iald dX10_voice_38) <|
  .cons (ix_s_aload_n dX10_voice_39 rfl) <|
  .cons (ix_s_getr (j := 0) tu_X10 rfl (by decide) (by decide) tw_251 rfl ts_9_0_r dX10_voice_40) <|
  .cons (ix_s_getr (j := 0) tu_X6 rfl (by decide) (by decide) tw_138 rfl ts_5_0_r dX10_voice_43) <|
  .cons (ix_s_getr (j := 4) tu_X9 rfl (by decide) (by decide) tw_49 rfl ts_8_4_r dX10_voice_46) <|
  .cons (ix_s_iload_n dX10_voice_49 rfl) <|
  .cons (ix_s_iald dX10_voice_50) <|
  .cons (ix_s_iload_n dX10_voice_51 rfl) <|
  .cons (ix_s_iload_n dX10_voice_52 rfl) <|
  .cons (oc_X8_begin_s (ix_s_callv (t := 7) (k_X8_begin l) (by decide) (by decide) tw_771 tw_9 tw_768 tw_769 tw_770 ⟨by decide, by decide, by decide +kernel⟩ (by decide) rfl rfl (fun _ => ⟨_, _, rfl, rfl⟩) dX10_voice_53)) <|
  .cons (ix_s_iret dX10_voice_56 rfl) <| .nil
theorem e_X10_voice_0 (Q : ix_R → Prop) (ls : ix_L) (st : List ix_V) (μ : ix_M) : ix_Ev o_X10_voice Q (0, ls, st, μ) = ix_aload 0 1 (ix_Ev o_X10_voice Q) Q ls st μ := ix_Ev.eq (a_X10_voice launch0) rfl ls st μ
theorem e_X10_voice_1 (Q : ix_R → Prop) (ls : ix_L) (st : List ix_V) (μ : ix_M) : ix_Ev o_X10_voice Q (1, ls, st, μ) = ix_iload 1 2 (ix_Ev o_X10_voice Q) Q ls st μ := ix_Ev.eq (a_X10_voice launch0) rfl ls st μ
theorem e_X10_voice_2 (Q : ix_R → Prop) (ls : ix_L) (st : List ix_V) (μ : ix_M) : ix_Ev o_X10_voice Q (2, ls, st, μ) = oc_X10_noBoat 5 (ix_Ev o_X10_voice Q) Q ls st μ := ix_Ev.eq (a_X10_voice launch0) rfl ls st μ
theorem e_X10_voice_5 (Q : ix_R → Prop) (ls : ix_L) (st : List ix_V) (μ : ix_M) : ix_Ev o_X10_voice Q (5, ls, st, μ) = ix_if (fun x => x = 0) 8 16 (ix_Ev o_X10_voice Q) Q ls st μ := ix_Ev.eq (a_X10_voice launch0) rfl ls st μ
theorem e_X10_voice_8 (Q : ix_R → Prop) (ls : ix_L) (st : List ix_V) (μ : ix_M) : ix_Ev o_X10_voice Q (8, ls, st, μ) = ix_iload 2 9 (ix_Ev o_X10_voice Q) Q ls st μ := ix_Ev.eq (a_X10_voice launch0) rfl ls st μ
theorem e_X10_voice_9 (Q : ix_R → Prop) (ls : ix_L) (st : List ix_V) (μ : ix_M) : ix_Ev o_X10_voice Q (9, ls, st, μ) = ix_push (vi 3) 10 (ix_Ev o_X10_voice Q) Q ls st μ := ix_Ev.eq (a_X10_voice launch0) rfl ls st μ
theorem e_X10_voice_10 (Q : ix_R → Prop) (ls : ix_L) (st : List ix_V) (μ : ix_M) : ix_Ev o_X10_voice Q (10, ls, st, μ) = oc_X10_outside 13 (ix_Ev o_X10_voice Q) Q ls st μ := ix_Ev.eq (a_X10_voice launch0) rfl ls st μ
theorem e_X10_voice_13 (Q : ix_R → Prop) (ls : ix_L) (st : List ix_V) (μ : ix_M) : ix_Ev o_X10_voice Q (13, ls, st, μ) = ix_if (fun x => x = 0) 22 16 (ix_Ev o_X10_voice Q) Q ls st μ := ix_Ev.eq (a_X10_voice launch0) rfl ls st μ
theorem e_X10_voice_16 (Q : ix_R → Prop) (ls : ix_L) (st : List ix_V) (μ : ix_M) : ix_Ev o_X10_voice Q (16, ls, st, μ) = ix_aload 0 17 (ix_Ev o_X10_voice Q) Q ls st μ := ix_Ev.eq (a_X10_voice launch0) rfl ls st μ
theorem e_X10_voice_17 (Q : ix_R → Prop) (ls : ix_L) (st : List ix_V) (μ : ix_M) : ix_Ev o_X10_voice Q (17, ls, st, μ) = ix_push (vi 1) 18 (ix_Ev o_X10_voice Q) Q ls st μ := ix_Ev.eq (a_X10_voice launch0) rfl ls st μ
theorem e_X10_voice_18 (Q : ix_R → Prop) (ls : ix_L) (st : List ix_V) (μ : ix_M) : ix_Ev o_X10_voice Q (18, ls, st, μ) = oc_X10_error 21 (ix_Ev o_X10_voice Q) Q ls st μ := ix_Ev.eq (a_X10_voice launch0) rfl ls st μ
theorem e_X10_voice_21 (Q : ix_R → Prop) (ls : ix_L) (st : List ix_V) (μ : ix_M) : ix_Ev o_X10_voice Q (21, ls, st, μ) = ix_iret (ix_Ev o_X10_voice Q) Q ls st μ := ix_Ev.eq (a_X10_voice launch0) rfl ls st μ
theorem e_X10_voice_22 (Q : ix_R → Prop) (ls : ix_L) (st : List ix_V) (μ : ix_M) : ix_Ev o_X10_voice Q (22, ls, st, μ) = ix_aload 0 23 (ix_Ev o_X10_voice Q) Q ls st μ := ix_Ev.eq (a_X10_voice launch0) rfl ls st μ
theorem e_X10_voice_23 (Q : ix_R → Prop) (ls : ix_L) (st : List ix_V) (μ : ix_M) : ix_Ev o_X10_voice Q (23, ls, st, μ) = ix_getr 9 7 (fun _ => 93) 26 (ix_Ev o_X10_voice Q) Q ls st μ := ix_Ev.eq (a_X10_voice launch0) rfl ls st μ
theorem e_X10_voice_26 (Q : ix_R → Prop) (ls : ix_L) (st : List ix_V) (μ : ix_M) : ix_Ev o_X10_voice Q (26, ls, st, μ) = ix_iload 1 27 (ix_Ev o_X10_voice Q) Q ls st μ := ix_Ev.eq (a_X10_voice launch0) rfl ls st μ
theorem e_X10_voice_27 (Q : ix_R → Prop) (ls : ix_L) (st : List ix_V) (μ : ix_M) : ix_Ev o_X10_voice Q (27, ls, st, μ) = ix_aload 0 28 (ix_Ev o_X10_voice Q) Q ls st μ := ix_Ev.eq (a_X10_voice launch0) rfl ls st μ
theorem e_X10_voice_28 (Q : ix_R → Prop) (ls : ix_L) (st : List ix_V) (μ : ix_M) : ix_Ev o_X10_voice Q (28, ls, st, μ) = ix_getr 9 5 (fun _ => 1) 31 (ix_Ev o_X10_voice Q) Q ls st μ := ix_Ev.eq (a_X10_voice launch0) rfl ls st μ
theorem e_X10_voice_31 (Q : ix_R → Prop) (ls : ix_L) (st : List ix_V) (μ : ix_M) : ix_Ev o_X10_voice Q (31, ls, st, μ) = ix_getr 5 8 (fun k => k + 1) 34 (ix_Ev o_X10_voice Q) Q ls st μ := ix_Ev.eq (a_X10_voice launch0) rfl ls st μ
theorem e_X10_voice_34 (Q : ix_R → Prop) (ls : ix_L) (st : List ix_V) (μ : ix_M) : ix_Ev o_X10_voice Q (34, ls, st, μ) = ix_getr 8 20 (fun k => k + 4) 37 (ix_Ev o_X10_voice Q) Q ls st μ := ix_Ev.eq (a_X10_voice launch0) rfl ls st μ
theorem e_X10_voice_37 (Q : ix_R → Prop) (ls : ix_L) (st : List ix_V) (μ : ix_M) : ix_Ev o_X10_voice Q (37, ls, st, μ) = ix_iload 1 38 (ix_Ev o_X10_voice Q) Q ls st μ := ix_Ev.eq (a_X10_voice launch0) rfl ls st μ
theorem e_X10_voice_38 (Q : ix_R → Prop) (ls : ix_L) (st : List ix_V) (μ : ix_M) : ix_Ev o_X10_voice Q (38, ls, st, μ) = ix_iald 39 (ix_Ev o_X10_voice Q) Q ls st μ := ix_Ev.eq (a_X10_voice launch0) rfl ls st μ
theorem e_X10_voice_39 (Q : ix_R → Prop) (ls : ix_L) (st : List ix_V) (μ : ix_M) : ix_Ev o_X10_voice Q (39, ls, st, μ) = ix_aload 0 40 (ix_Ev o_X10_voice Q) Q ls st μ := ix_Ev.eq (a_X10_voice launch0) rfl ls st μ
theorem e_X10_voice_40 (Q : ix_R → Prop) (ls : ix_L) (st : List ix_V) (μ : ix_M) : ix_Ev o_X10_voice Q (40, ls, st, μ) = ix_getr 9 5 (fun _ => 1) 43 (ix_Ev o_X10_voice Q) Q ls st μ := ix_Ev.eq (a_X10_voice launch0) rfl ls st μ
theorem e_X10_voice_43 (Q : ix_R → Prop) (ls : ix_L) (st : List ix_V) (μ : ix_M) : ix_Ev o_X10_voice Q (43, ls, st, μ) = ix_getr 5 8 (fun k => k + 1) 46 (ix_Ev o_X10_voice Q) Q ls st μ := ix_Ev.eq (a_X10_voice launch0) rfl ls st μ
theorem e_X10_voice_46 (Q : ix_R → Prop) (ls : ix_L) (st : List ix_V) (μ : ix_M) : ix_Ev o_X10_voice Q (46, ls, st, μ) = ix_getr 8 20 (fun k => k + 5) 49 (ix_Ev o_X10_voice Q) Q ls st μ := ix_Ev.eq (a_X10_voice launch0) rfl ls st μ
theorem e_X10_voice_49 (Q : ix_R → Prop) (ls : ix_L) (st : List ix_V) (μ : ix_M) : ix_Ev o_X10_voice Q (49, ls, st, μ) = ix_iload 1 50 (ix_Ev o_X10_voice Q) Q ls st μ := ix_Ev.eq (a_X10_voice launch0) rfl ls st μ
theorem e_X10_voice_50 (Q : ix_R → Prop) (ls : ix_L) (st : List ix_V) (μ : ix_M) : ix_Ev o_X10_voice Q (50, ls, st, μ) = ix_iald 51 (ix_Ev o_X10_voice Q) Q ls st μ := ix_Ev.eq (a_X10_voice launch0) rfl ls st μ
theorem e_X10_voice_51 (Q : ix_R → Prop) (ls : ix_L) (st : List ix_V) (μ : ix_M) : ix_Ev o_X10_voice Q (51, ls, st, μ) = ix_iload 2 52 (ix_Ev o_X10_voice Q) Q ls st μ := ix_Ev.eq (a_X10_voice launch0) rfl ls st μ
theorem e_X10_voice_52 (Q : ix_R → Prop) (ls : ix_L) (st : List ix_V) (μ : ix_M) : ix_Ev o_X10_voice Q (52, ls, st, μ) = ix_iload 3 53 (ix_Ev o_X10_voice Q) Q ls st μ := ix_Ev.eq (a_X10_voice launch0) rfl ls st μ
theorem e_X10_voice_53 (Q : ix_R → Prop) (ls : ix_L) (st : List ix_V) (μ : ix_M) : ix_Ev o_X10_voice Q (53, ls, st, μ) = oc_X8_begin 56 (ix_Ev o_X10_voice Q) Q ls st μ := ix_Ev.eq (a_X10_voice launch0) rfl ls st μ
theorem e_X10_voice_56 (Q : ix_R → Prop) (ls : ix_L) (st : List ix_V) (μ : ix_M) : ix_Ev o_X10_voice Q (56, ls, st, μ) = ix_iret (ix_Ev o_X10_voice Q) Q ls st μ := ix_Ev.eq (a_X10_voice launch0) rfl ls st μ
def o_X11_voice : List (Nat × ix_Op) := [
  (0, ix_aload 0 1),
  (1, ix_iload 1 2),
  (2, oc_X11_isBoat 5),
  (5, ix_if (fun x => x = 0) 17 8),
  (8, ix_iload 2 9),
  (9, ix_push (vi 0) 10),
  (10, ix_push (vi 3) 11),
  (11, oc_X11_within 14),
  (14, ix_if (fun x => x = 0) 17 24),
  (17, ix_aload 0 18),
  (18, ix_push (vi (-1000000001)) 20),
  (20, oc_X11_finding 23),
  (23, ix_iret),
  (24, ix_aload 0 25),
  (25, ix_push (vi 0) 26),
  (26, ix_puti 10 18 29),
  (29, ix_aload 0 30),
  (30, ix_aload 0 31),
  (31, ix_iload 1 32),
  (32, ix_push (vi 0) 33),
  (33, oc_X11_boatIs 36),
  (36, ix_puti 10 19 39),
  (39, ix_aload 0 40),
  (40, ix_iload 1 41),
  (41, ix_puti 10 20 44),
  (44, ix_aload 0 45),
  (45, ix_aload 0 46),
  (46, ix_iload 1 47),
  (47, ix_push (vi 1) 48),
  (48, oc_X11_boatIs 51),
  (51, ix_puti 10 21 54),
  (54, ix_iload 2 55),
  (55, ix_if (fun x => x = 0) 58 66),
  (58, ix_aload 0 59),
  (59, ix_iload 3 60),
  (60, oc_X11_dipsOf 63),
  (63, ix_goto 97),
  (66, ix_iload 2 67),
  (67, ix_push (vi 1) 68),
  (68, ix_cmp (fun x y => x = y) 71 79),
  (71, ix_aload 0 72),
  (72, ix_iload 3 73),
  (73, oc_X11_lidsOf 76),
  (76, ix_goto 97),
  (79, ix_iload 2 80),
  (80, ix_push (vi 2) 81),
  (81, ix_cmp (fun x y => x = y) 84 92),
  (84, ix_aload 0 85),
  (85, ix_iload 3 86),
  (86, oc_X11_turnsOf 89),
  (89, ix_goto 97),
  (92, ix_aload 0 93),
  (93, ix_iload 3 94),
  (94, oc_X11_tellsOf 97),
  (97, ix_iret)]
set_option maxRecDepth 20000 in
theorem a_X11_voice (l : Launch) : ix_AllS l cX11_voice 4 RX11 60 (some .int) o_X11_voice :=
  .cons (ix_s_aload_n dX11_voice_0 rfl) <|
  .cons (ix_s_iload_n dX11_voice_1 rfl) <|
  .cons (oc_X11_isBoat_s (ix_s_callv (t := 10) (k_X11_isBoat l) (by decide) (by decide) tw_1135 tw_12 tw_1132 tw_1134 tp_37 ⟨by decide, by decide, by decide +kernel⟩ (by decide) rfl rfl (fun _ => ⟨_, _, rfl, rfl⟩) dX11_voice_2)) <|
  .cons (ix_s_if_eq dX11_voice_5 (by decide)) <|
  .cons (ix_s_iload_n dX11_voice_8 rfl) <|
  .cons (ix_s_iconst dX11_voice_9 (by decide +kernel)) <|
  .cons (ix_s_iconst dX11_voice_10 (by decide +kernel)) <|
  .cons (oc_X11_within_s (ix_s_calls (k_X11_within l) (by decide) (by decide) tw_960 tw_12 tw_958 tw_959 ⟨by decide, by decide, by decide +kernel⟩ (fun _ => rfl) dX11_voice_11)) <|
  .cons (ix_s_if_ne dX11_voice_14 (by decide)) <|
  .cons (ix_s_aload_n dX11_voice_17 rfl) <|
  .cons (ix_s_ldc tw_961 dX11_voice_18) <|
  .cons (oc_X11_finding_s (ix_s_callv (t := 10) (k_X11_finding l) (by decide) (by decide) tw_965 tw_12 tw_962 tw_964 tp_18 ⟨by decide, by decide, by decide +kernel⟩ (by decide) rfl rfl (fun _ => ⟨_, _, rfl, rfl⟩) dX11_voice_20)) <|
  .cons (ix_s_iret dX11_voice_23 rfl) <|
  .cons (ix_s_aload_n dX11_voice_24 rfl) <|
  .cons (ix_s_iconst dX11_voice_25 (by decide +kernel)) <|
  .cons (ix_s_puti (j := 18) tu_X11 tyX11_ok nmX11 rfl (by decide) (by decide) tw_893 rfl rfl (by decide +kernel) ts_10_18_p dX11_voice_26) <|
  .cons (ix_s_aload_n dX11_voice_29 rfl) <|
  .cons (ix_s_aload_n dX11_voice_30 rfl) <|
  .cons (ix_s_iload_n dX11_voice_31 rfl) <|
  .cons (ix_s_iconst dX11_voice_32 (by decide +kernel)) <|
  .cons (oc_X11_boatIs_s (ix_s_callv (t := 10) (k_X11_boatIs l) (by decide) (by decide) tw_1083 tw_12 tw_1080 tw_1082 tp_34 ⟨by decide, by decide, by decide +kernel⟩ (by decide) rfl rfl (fun _ => ⟨_, _, rfl, rfl⟩) dX11_voice_33)) <|
  .cons (ix_s_puti (j := 19) tu_X11 tyX11_ok nmX11 rfl (by decide) (by decide) tw_894 rfl rfl (by decide +kernel) ts_10_19_p dX11_voice_36) <|
  .cons (ix_s_aload_n dX11_voice_39 rfl) <|
  .cons (ix_s_iload_n dX11_voice_40 rfl) <|
  .cons (ix_s_puti (j := 20) tu_X11 tyX11_ok nmX11 rfl (by decide) (by decide) tw_895 rfl rfl (by decide +kernel) ts_10_20_p dX11_voice_41) <|
  .cons (ix_s_aload_n dX11_voice_44 rfl) <|
  .cons (ix_s_aload_n dX11_voice_45 rfl) <|
  .cons (ix_s_iload_n dX11_voice_46 rfl) <|
  .cons (ix_s_iconst dX11_voice_47 (by decide +kernel)) <|
  .cons (oc_X11_boatIs_s (ix_s_callv (t := 10) (k_X11_boatIs l) (by decide) (by decide) tw_1083 tw_12 tw_1080 tw_1082 tp_34 ⟨by decide, by decide, by decide +kernel⟩ (by decide) rfl rfl (fun _ => ⟨_, _, rfl, rfl⟩) dX11_voice_48)) <|
  .cons (ix_s_puti (j := 21) tu_X11 tyX11_ok nmX11 rfl (by decide) (by decide) tw_896 rfl rfl (by decide +kernel) ts_10_21_p dX11_voice_51) <|
  .cons (ix_s_iload_n dX11_voice_54 rfl) <|
  .cons (ix_s_if_ne dX11_voice_55 (by decide)) <|
  .cons (ix_s_aload_n dX11_voice_58 rfl) <|
  .cons (ix_s_iload_n dX11_voice_59 rfl) <|
  .cons (oc_X11_dipsOf_s (ix_s_callv (t := 10) (k_X11_dipsOf l) (by decide) (by decide) tw_1329 tw_12 tw_1326 tw_1328 tp_59 ⟨by decide, by decide, by decide +kernel⟩ (by decide) rfl rfl (fun _ => ⟨_, _, rfl, rfl⟩) dX11_voice_60)) <|
  .cons (ix_s_goto dX11_voice_63 (by decide)) <|
  .cons (ix_s_iload_n dX11_voice_66 rfl) <|
  .cons (ix_s_iconst dX11_voice_67 (by decide +kernel)) <|
  .cons (ix_s_cmp_ne dX11_voice_68 (by decide)) <|
  .cons (ix_s_aload_n dX11_voice_71 rfl) <|
  .cons (ix_s_iload_n dX11_voice_72 rfl) <|
  .cons (oc_X11_lidsOf_s (ix_s_callv (t := 10) (k_X11_lidsOf l) (by decide) (by decide) tw_1337 tw_12 tw_1334 tw_1336 tp_61 ⟨by decide, by decide, by decide +kernel⟩ (by decide) rfl rfl (fun _ => ⟨_, _, rfl, rfl⟩) dX11_voice_73)) <|
  .cons (ix_s_goto dX11_voice_76 (by decide)) <|
  .cons (ix_s_iload_n dX11_voice_79 rfl) <|
  .cons (ix_s_iconst dX11_voice_80 (by decide +kernel)) <|
  .cons (ix_s_cmp_ne dX11_voice_81 (by decide)) <|
  .cons (ix_s_aload_n dX11_voice_84 rfl) <|
  .cons (ix_s_iload_n dX11_voice_85 rfl) <|
  .cons (oc_X11_turnsOf_s (ix_s_callv (t := 10) (k_X11_turnsOf l) (by decide) (by decide) tw_1341 tw_12 tw_1338 tw_1340 tp_62 ⟨by decide, by decide, by decide +kernel⟩ (by decide) rfl rfl (fun _ => ⟨_, _, rfl, rfl⟩) dX11_voice_86)) <|
  .cons (ix_s_goto dX11_voice_89 (by decide)) <|
  .cons (ix_s_aload_n dX11_voice_92 rfl) <|
  .cons (ix_s_iload_n dX11_voice_93 rfl) <|
  .cons (oc_X11_tellsOf_s (ix_s_callv (t := 10) (k_X11_tellsOf l) (by decide) (by decide) tw_1345 tw_12 tw_1342 tw_1344 tp_63 ⟨by decide, by decide, by decide +kernel⟩ (by decide) rfl rfl (fun _ => ⟨_, _, rfl, rfl⟩) dX11_voice_94)) <|
  .cons (ix_s_iret dX11_voice_97 rfl) <| .nil
theorem e_X11_voice_0 (Q : ix_R → Prop) (ls : ix_L) (st : List ix_V) (μ : ix_M) : ix_Ev o_X11_voice Q (0, ls, st, μ) = ix_aload 0 1 (ix_Ev o_X11_voice Q) Q ls st μ := ix_Ev.eq (a_X11_voice launch0) rfl ls st μ
theorem e_X11_voice_1 (Q : ix_R → Prop) (ls : ix_L) (st : List ix_V) (μ : ix_M) : ix_Ev o_X11_voice Q (1, ls, st, μ) = ix_iload 1 2 (ix_Ev o_X11_voice Q) Q ls st μ := ix_Ev.eq (a_X11_voice launch0) rfl ls st μ
theorem e_X11_voice_2 (Q : ix_R → Prop) (ls : ix_L) (st : List ix_V) (μ : ix_M) : ix_Ev o_X11_voice Q (2, ls, st, μ) = oc_X11_isBoat 5 (ix_Ev o_X11_voice Q) Q ls st μ := ix_Ev.eq (a_X11_voice launch0) rfl ls st μ
theorem e_X11_voice_5 (Q : ix_R → Prop) (ls : ix_L) (st : List ix_V) (μ : ix_M) : ix_Ev o_X11_voice Q (5, ls, st, μ) = ix_if (fun x => x = 0) 17 8 (ix_Ev o_X11_voice Q) Q ls st μ := ix_Ev.eq (a_X11_voice launch0) rfl ls st μ
theorem e_X11_voice_8 (Q : ix_R → Prop) (ls : ix_L) (st : List ix_V) (μ : ix_M) : ix_Ev o_X11_voice Q (8, ls, st, μ) = ix_iload 2 9 (ix_Ev o_X11_voice Q) Q ls st μ := ix_Ev.eq (a_X11_voice launch0) rfl ls st μ
theorem e_X11_voice_9 (Q : ix_R → Prop) (ls : ix_L) (st : List ix_V) (μ : ix_M) : ix_Ev o_X11_voice Q (9, ls, st, μ) = ix_push (vi 0) 10 (ix_Ev o_X11_voice Q) Q ls st μ := ix_Ev.eq (a_X11_voice launch0) rfl ls st μ
theorem e_X11_voice_10 (Q : ix_R → Prop) (ls : ix_L) (st : List ix_V) (μ : ix_M) : ix_Ev o_X11_voice Q (10, ls, st, μ) = ix_push (vi 3) 11 (ix_Ev o_X11_voice Q) Q ls st μ := ix_Ev.eq (a_X11_voice launch0) rfl ls st μ
theorem e_X11_voice_11 (Q : ix_R → Prop) (ls : ix_L) (st : List ix_V) (μ : ix_M) : ix_Ev o_X11_voice Q (11, ls, st, μ) = oc_X11_within 14 (ix_Ev o_X11_voice Q) Q ls st μ := ix_Ev.eq (a_X11_voice launch0) rfl ls st μ
theorem e_X11_voice_14 (Q : ix_R → Prop) (ls : ix_L) (st : List ix_V) (μ : ix_M) : ix_Ev o_X11_voice Q (14, ls, st, μ) = ix_if (fun x => x = 0) 17 24 (ix_Ev o_X11_voice Q) Q ls st μ := ix_Ev.eq (a_X11_voice launch0) rfl ls st μ
theorem e_X11_voice_17 (Q : ix_R → Prop) (ls : ix_L) (st : List ix_V) (μ : ix_M) : ix_Ev o_X11_voice Q (17, ls, st, μ) = ix_aload 0 18 (ix_Ev o_X11_voice Q) Q ls st μ := ix_Ev.eq (a_X11_voice launch0) rfl ls st μ
theorem e_X11_voice_18 (Q : ix_R → Prop) (ls : ix_L) (st : List ix_V) (μ : ix_M) : ix_Ev o_X11_voice Q (18, ls, st, μ) = ix_push (vi (-1000000001)) 20 (ix_Ev o_X11_voice Q) Q ls st μ := ix_Ev.eq (a_X11_voice launch0) rfl ls st μ
theorem e_X11_voice_20 (Q : ix_R → Prop) (ls : ix_L) (st : List ix_V) (μ : ix_M) : ix_Ev o_X11_voice Q (20, ls, st, μ) = oc_X11_finding 23 (ix_Ev o_X11_voice Q) Q ls st μ := ix_Ev.eq (a_X11_voice launch0) rfl ls st μ
theorem e_X11_voice_23 (Q : ix_R → Prop) (ls : ix_L) (st : List ix_V) (μ : ix_M) : ix_Ev o_X11_voice Q (23, ls, st, μ) = ix_iret (ix_Ev o_X11_voice Q) Q ls st μ := ix_Ev.eq (a_X11_voice launch0) rfl ls st μ
theorem e_X11_voice_24 (Q : ix_R → Prop) (ls : ix_L) (st : List ix_V) (μ : ix_M) : ix_Ev o_X11_voice Q (24, ls, st, μ) = ix_aload 0 25 (ix_Ev o_X11_voice Q) Q ls st μ := ix_Ev.eq (a_X11_voice launch0) rfl ls st μ
theorem e_X11_voice_25 (Q : ix_R → Prop) (ls : ix_L) (st : List ix_V) (μ : ix_M) : ix_Ev o_X11_voice Q (25, ls, st, μ) = ix_push (vi 0) 26 (ix_Ev o_X11_voice Q) Q ls st μ := ix_Ev.eq (a_X11_voice launch0) rfl ls st μ
theorem e_X11_voice_26 (Q : ix_R → Prop) (ls : ix_L) (st : List ix_V) (μ : ix_M) : ix_Ev o_X11_voice Q (26, ls, st, μ) = ix_puti 10 18 29 (ix_Ev o_X11_voice Q) Q ls st μ := ix_Ev.eq (a_X11_voice launch0) rfl ls st μ
theorem e_X11_voice_29 (Q : ix_R → Prop) (ls : ix_L) (st : List ix_V) (μ : ix_M) : ix_Ev o_X11_voice Q (29, ls, st, μ) = ix_aload 0 30 (ix_Ev o_X11_voice Q) Q ls st μ := ix_Ev.eq (a_X11_voice launch0) rfl ls st μ
theorem e_X11_voice_30 (Q : ix_R → Prop) (ls : ix_L) (st : List ix_V) (μ : ix_M) : ix_Ev o_X11_voice Q (30, ls, st, μ) = ix_aload 0 31 (ix_Ev o_X11_voice Q) Q ls st μ := ix_Ev.eq (a_X11_voice launch0) rfl ls st μ
theorem e_X11_voice_31 (Q : ix_R → Prop) (ls : ix_L) (st : List ix_V) (μ : ix_M) : ix_Ev o_X11_voice Q (31, ls, st, μ) = ix_iload 1 32 (ix_Ev o_X11_voice Q) Q ls st μ := ix_Ev.eq (a_X11_voice launch0) rfl ls st μ
theorem e_X11_voice_32 (Q : ix_R → Prop) (ls : ix_L) (st : List ix_V) (μ : ix_M) : ix_Ev o_X11_voice Q (32, ls, st, μ) = ix_push (vi 0) 33 (ix_Ev o_X11_voice Q) Q ls st μ := ix_Ev.eq (a_X11_voice launch0) rfl ls st μ
theorem e_X11_voice_33 (Q : ix_R → Prop) (ls : ix_L) (st : List ix_V) (μ : ix_M) : ix_Ev o_X11_voice Q (33, ls, st, μ) = oc_X11_boatIs 36 (ix_Ev o_X11_voice Q) Q ls st μ := ix_Ev.eq (a_X11_voice launch0) rfl ls st μ
theorem e_X11_voice_36 (Q : ix_R → Prop) (ls : ix_L) (st : List ix_V) (μ : ix_M) : ix_Ev o_X11_voice Q (36, ls, st, μ) = ix_puti 10 19 39 (ix_Ev o_X11_voice Q) Q ls st μ := ix_Ev.eq (a_X11_voice launch0) rfl ls st μ
theorem e_X11_voice_39 (Q : ix_R → Prop) (ls : ix_L) (st : List ix_V) (μ : ix_M) : ix_Ev o_X11_voice Q (39, ls, st, μ) = ix_aload 0 40 (ix_Ev o_X11_voice Q) Q ls st μ := ix_Ev.eq (a_X11_voice launch0) rfl ls st μ
theorem e_X11_voice_40 (Q : ix_R → Prop) (ls : ix_L) (st : List ix_V) (μ : ix_M) : ix_Ev o_X11_voice Q (40, ls, st, μ) = ix_iload 1 41 (ix_Ev o_X11_voice Q) Q ls st μ := ix_Ev.eq (a_X11_voice launch0) rfl ls st μ
theorem e_X11_voice_41 (Q : ix_R → Prop) (ls : ix_L) (st : List ix_V) (μ : ix_M) : ix_Ev o_X11_voice Q (41, ls, st, μ) = ix_puti 10 20 44 (ix_Ev o_X11_voice Q) Q ls st μ := ix_Ev.eq (a_X11_voice launch0) rfl ls st μ
theorem e_X11_voice_44 (Q : ix_R → Prop) (ls : ix_L) (st : List ix_V) (μ : ix_M) : ix_Ev o_X11_voice Q (44, ls, st, μ) = ix_aload 0 45 (ix_Ev o_X11_voice Q) Q ls st μ := ix_Ev.eq (a_X11_voice launch0) rfl ls st μ
theorem e_X11_voice_45 (Q : ix_R → Prop) (ls : ix_L) (st : List ix_V) (μ : ix_M) : ix_Ev o_X11_voice Q (45, ls, st, μ) = ix_aload 0 46 (ix_Ev o_X11_voice Q) Q ls st μ := ix_Ev.eq (a_X11_voice launch0) rfl ls st μ
theorem e_X11_voice_46 (Q : ix_R → Prop) (ls : ix_L) (st : List ix_V) (μ : ix_M) : ix_Ev o_X11_voice Q (46, ls, st, μ) = ix_iload 1 47 (ix_Ev o_X11_voice Q) Q ls st μ := ix_Ev.eq (a_X11_voice launch0) rfl ls st μ
theorem e_X11_voice_47 (Q : ix_R → Prop) (ls : ix_L) (st : List ix_V) (μ : ix_M) : ix_Ev o_X11_voice Q (47, ls, st, μ) = ix_push (vi 1) 48 (ix_Ev o_X11_voice Q) Q ls st μ := ix_Ev.eq (a_X11_voice launch0) rfl ls st μ
theorem e_X11_voice_48 (Q : ix_R → Prop) (ls : ix_L) (st : List ix_V) (μ : ix_M) : ix_Ev o_X11_voice Q (48, ls, st, μ) = oc_X11_boatIs 51 (ix_Ev o_X11_voice Q) Q ls st μ := ix_Ev.eq (a_X11_voice launch0) rfl ls st μ
theorem e_X11_voice_51 (Q : ix_R → Prop) (ls : ix_L) (st : List ix_V) (μ : ix_M) : ix_Ev o_X11_voice Q (51, ls, st, μ) = ix_puti 10 21 54 (ix_Ev o_X11_voice Q) Q ls st μ := ix_Ev.eq (a_X11_voice launch0) rfl ls st μ
theorem e_X11_voice_54 (Q : ix_R → Prop) (ls : ix_L) (st : List ix_V) (μ : ix_M) : ix_Ev o_X11_voice Q (54, ls, st, μ) = ix_iload 2 55 (ix_Ev o_X11_voice Q) Q ls st μ := ix_Ev.eq (a_X11_voice launch0) rfl ls st μ
theorem e_X11_voice_55 (Q : ix_R → Prop) (ls : ix_L) (st : List ix_V) (μ : ix_M) : ix_Ev o_X11_voice Q (55, ls, st, μ) = ix_if (fun x => x = 0) 58 66 (ix_Ev o_X11_voice Q) Q ls st μ := ix_Ev.eq (a_X11_voice launch0) rfl ls st μ
theorem e_X11_voice_58 (Q : ix_R → Prop) (ls : ix_L) (st : List ix_V) (μ : ix_M) : ix_Ev o_X11_voice Q (58, ls, st, μ) = ix_aload 0 59 (ix_Ev o_X11_voice Q) Q ls st μ := ix_Ev.eq (a_X11_voice launch0) rfl ls st μ
theorem e_X11_voice_59 (Q : ix_R → Prop) (ls : ix_L) (st : List ix_V) (μ : ix_M) : ix_Ev o_X11_voice Q (59, ls, st, μ) = ix_iload 3 60 (ix_Ev o_X11_voice Q) Q ls st μ := ix_Ev.eq (a_X11_voice launch0) rfl ls st μ
theorem e_X11_voice_60 (Q : ix_R → Prop) (ls : ix_L) (st : List ix_V) (μ : ix_M) : ix_Ev o_X11_voice Q (60, ls, st, μ) = oc_X11_dipsOf 63 (ix_Ev o_X11_voice Q) Q ls st μ := ix_Ev.eq (a_X11_voice launch0) rfl ls st μ
theorem e_X11_voice_63 (Q : ix_R → Prop) (ls : ix_L) (st : List ix_V) (μ : ix_M) : ix_Ev o_X11_voice Q (63, ls, st, μ) = ix_goto 97 (ix_Ev o_X11_voice Q) Q ls st μ := ix_Ev.eq (a_X11_voice launch0) rfl ls st μ
theorem e_X11_voice_66 (Q : ix_R → Prop) (ls : ix_L) (st : List ix_V) (μ : ix_M) : ix_Ev o_X11_voice Q (66, ls, st, μ) = ix_iload 2 67 (ix_Ev o_X11_voice Q) Q ls st μ := ix_Ev.eq (a_X11_voice launch0) rfl ls st μ
theorem e_X11_voice_67 (Q : ix_R → Prop) (ls : ix_L) (st : List ix_V) (μ : ix_M) : ix_Ev o_X11_voice Q (67, ls, st, μ) = ix_push (vi 1) 68 (ix_Ev o_X11_voice Q) Q ls st μ := ix_Ev.eq (a_X11_voice launch0) rfl ls st μ
theorem e_X11_voice_68 (Q : ix_R → Prop) (ls : ix_L) (st : List ix_V) (μ : ix_M) : ix_Ev o_X11_voice Q (68, ls, st, μ) = ix_cmp (fun x y => x = y) 71 79 (ix_Ev o_X11_voice Q) Q ls st μ := ix_Ev.eq (a_X11_voice launch0) rfl ls st μ
theorem e_X11_voice_71 (Q : ix_R → Prop) (ls : ix_L) (st : List ix_V) (μ : ix_M) : ix_Ev o_X11_voice Q (71, ls, st, μ) = ix_aload 0 72 (ix_Ev o_X11_voice Q) Q ls st μ := ix_Ev.eq (a_X11_voice launch0) rfl ls st μ
theorem e_X11_voice_72 (Q : ix_R → Prop) (ls : ix_L) (st : List ix_V) (μ : ix_M) : ix_Ev o_X11_voice Q (72, ls, st, μ) = ix_iload 3 73 (ix_Ev o_X11_voice Q) Q ls st μ := ix_Ev.eq (a_X11_voice launch0) rfl ls st μ
theorem e_X11_voice_73 (Q : ix_R → Prop) (ls : ix_L) (st : List ix_V) (μ : ix_M) : ix_Ev o_X11_voice Q (73, ls, st, μ) = oc_X11_lidsOf 76 (ix_Ev o_X11_voice Q) Q ls st μ := ix_Ev.eq (a_X11_voice launch0) rfl ls st μ
theorem e_X11_voice_76 (Q : ix_R → Prop) (ls : ix_L) (st : List ix_V) (μ : ix_M) : ix_Ev o_X11_voice Q (76, ls, st, μ) = ix_goto 97 (ix_Ev o_X11_voice Q) Q ls st μ := ix_Ev.eq (a_X11_voice launch0) rfl ls st μ
theorem e_X11_voice_79 (Q : ix_R → Prop) (ls : ix_L) (st : List ix_V) (μ : ix_M) : ix_Ev o_X11_voice Q (79, ls, st, μ) = ix_iload 2 80 (ix_Ev o_X11_voice Q) Q ls st μ := ix_Ev.eq (a_X11_voice launch0) rfl ls st μ
theorem e_X11_voice_80 (Q : ix_R → Prop) (ls : ix_L) (st : List ix_V) (μ : ix_M) : ix_Ev o_X11_voice Q (80, ls, st, μ) = ix_push (vi 2) 81 (ix_Ev o_X11_voice Q) Q ls st μ := ix_Ev.eq (a_X11_voice launch0) rfl ls st μ
theorem e_X11_voice_81 (Q : ix_R → Prop) (ls : ix_L) (st : List ix_V) (μ : ix_M) : ix_Ev o_X11_voice Q (81, ls, st, μ) = ix_cmp (fun x y => x = y) 84 92 (ix_Ev o_X11_voice Q) Q ls st μ := ix_Ev.eq (a_X11_voice launch0) rfl ls st μ
theorem e_X11_voice_84 (Q : ix_R → Prop) (ls : ix_L) (st : List ix_V) (μ : ix_M) : ix_Ev o_X11_voice Q (84, ls, st, μ) = ix_aload 0 85 (ix_Ev o_X11_voice Q) Q ls st μ := ix_Ev.eq (a_X11_voice launch0) rfl ls st μ
theorem e_X11_voice_85 (Q : ix_R → Prop) (ls : ix_L) (st : List ix_V) (μ : ix_M) : ix_Ev o_X11_voice Q (85, ls, st, μ) = ix_iload 3 86 (ix_Ev o_X11_voice Q) Q ls st μ := ix_Ev.eq (a_X11_voice launch0) rfl ls st μ
theorem e_X11_voice_86 (Q : ix_R → Prop) (ls : ix_L) (st : List ix_V) (μ : ix_M) : ix_Ev o_X11_voice Q (86, ls, st, μ) = oc_X11_turnsOf 89 (ix_Ev o_X11_voice Q) Q ls st μ := ix_Ev.eq (a_X11_voice launch0) rfl ls st μ
theorem e_X11_voice_89 (Q : ix_R → Prop) (ls : ix_L) (st : List ix_V) (μ : ix_M) : ix_Ev o_X11_voice Q (89, ls, st, μ) = ix_goto 97 (ix_Ev o_X11_voice Q) Q ls st μ := ix_Ev.eq (a_X11_voice launch0) rfl ls st μ
theorem e_X11_voice_92 (Q : ix_R → Prop) (ls : ix_L) (st : List ix_V) (μ : ix_M) : ix_Ev o_X11_voice Q (92, ls, st, μ) = ix_aload 0 93 (ix_Ev o_X11_voice Q) Q ls st μ := ix_Ev.eq (a_X11_voice launch0) rfl ls st μ
theorem e_X11_voice_93 (Q : ix_R → Prop) (ls : ix_L) (st : List ix_V) (μ : ix_M) : ix_Ev o_X11_voice Q (93, ls, st, μ) = ix_iload 3 94 (ix_Ev o_X11_voice Q) Q ls st μ := ix_Ev.eq (a_X11_voice launch0) rfl ls st μ
theorem e_X11_voice_94 (Q : ix_R → Prop) (ls : ix_L) (st : List ix_V) (μ : ix_M) : ix_Ev o_X11_voice Q (94, ls, st, μ) = oc_X11_tellsOf 97 (ix_Ev o_X11_voice Q) Q ls st μ := ix_Ev.eq (a_X11_voice launch0) rfl ls st μ
theorem e_X11_voice_97 (Q : ix_R → Prop) (ls : ix_L) (st : List ix_V) (μ : ix_M) : ix_Ev o_X11_voice Q (97, ls, st, μ) = ix_iret (ix_Ev o_X11_voice Q) Q ls st μ := ix_Ev.eq (a_X11_voice launch0) rfl ls st μ
theorem pr_voice (b : Int32) (a : Int32) (x : Int32) (μ : ix_M) (I : Inv μ) (Q : ix_R → Prop) (hQ : ∀ vv μ', ix_Ev o_X11_voice (Pst vv) (0, [some (vr 10 112), some (vi b), some (vi a), some (vi x)], [], μ') → Q (some (vi vv), μ')) : ix_Ev o_X10_voice Q (0, [some (vr 9 0), some (vi b), some (vi a), some (vi x)], [], μ) := by
  obtain ⟨N, hN, n1, n2⟩ := I.n
  rcases inB b hN with ⟨B, hB, rfl, B1, B2, B3, B4⟩ | ⟨hx1, hx2⟩
  · have Bc : (nI B).toNatClampNeg = B := nI_clamp (by omega)
    rcases inR a 3 (by decide) with ⟨A, hA, rfl⟩ | ⟨hx1, hx2⟩
    · obtain ⟨A1, A2, A3, A4⟩ : ¬ nI A < 0 ∧ ¬ (3 : Int32) < nI A ∧ 0 ≤ nI A ∧ nI A ≤ (3 : Int32) := rgN hA (by decide)
      have Ac : (nI A).toNatClampNeg = A := nI_clamp (by omega)
      have v1 : vp_in (nI B) (ix_len 6) := vp_in_nI (show B < 8 by omega) (by decide)
      have v2 : vp_in (nI B) (ix_len 7) := vp_in_nI (show B < 8 by omega) (by decide)
      have hx := bx B (by omega)
      obtain ⟨M, hM, hR, -⟩ := I.mi
      obtain ⟨K, hK, eK⟩ := hR.2.2.1 B (by omega)
      rw [nv_4 (μ 113) (i := B) (by omega)] at eK
      have w4 := (I.w4 (i := B) (by omega)).trans eK
      simp (decide := true) only [e_X10_voice_0, e_X10_voice_1, e_X10_voice_2, e_X10_voice_5, e_X10_voice_8, e_X10_voice_9, e_X10_voice_10, e_X10_voice_13, e_X10_voice_16, e_X10_voice_17, e_X10_voice_18, e_X10_voice_21, e_X10_voice_22, e_X10_voice_23, e_X10_voice_26, e_X10_voice_27, e_X10_voice_28, e_X10_voice_31, e_X10_voice_34, e_X10_voice_37, e_X10_voice_38, e_X10_voice_39, e_X10_voice_40, e_X10_voice_43, e_X10_voice_46, e_X10_voice_49, e_X10_voice_50, e_X10_voice_51, e_X10_voice_52, e_X10_voice_53, e_X10_voice_56, vi, vl, vr, oc_X10_error, T_X10_error, oc_X10_noBoat, T_X10_noBoat, oc_X10_outside, T_X10_outside, oc_X8_begin, T_X8_begin, ix_push, ix_iload, ix_lload, ix_aload, ix_istore, ix_astore, ix_iinc, ix_bin, ix_div, ix_un, ix_i2l, ix_l2i, ix_lbin, ix_lsh, ix_lcmp, ix_dup, ix_dup2, ix_pop, ix_if, ix_cmp, ix_goto, ix_switch, ix_sw, ix_iret, ix_zret, ix_vret, ix_aret, ix_geti, ix_getr, ix_puti, ix_putz, ix_puts, ix_gets, ix_iald, ix_iast, ix_alen, ix_aald, ix_gval, ix_gcod, ix_bald, ix_blen, ix_sald, ix_nret, ix_math2, ix_math1, ix_acopy, Nat.add_assoc, Int32.reduceLT, Int32.reduceLE, Int32.reduceToNatClampNeg, Int32.reduceSub, Int32.reduceAdd, Nat.reduceAdd, Nat.reduceLeDiff, true_or, or_true, or_false, false_or, not_false_eq_true, not_true_eq_false, false_implies, true_implies, implies_true, and_self, mB_0, mB_01, Classical.not_not, Nat.zero_le, List.getElem?_cons_zero, List.getElem?_cons_succ, List.set_cons_zero, List.set_cons_succ, ix_nl, ix_cs, true_and, and_true, Option.toList_some, Option.toList_none, List.cons_append, List.nil_append, n1, n2, B1, B2, B3, B4, Bc, A1, A2, A3, A4, Ac, v1, v2, w4, ix_up_ne, ix_up_k, ve_1, ve_2, ve_3, ve_4, ve_5]
      refine ⟨vAct A x K (nI B) (μ 7 B) [], vAct_eq (nI B) (μ 7 B) x K hK A (by omega), fun μ1 F1 T1 => hQ _ _ ?_⟩
      have e113 : μ1 113 = μ 113 := F1 113 (by decide)
      have n3 : μ1 113 1 = nI N := by rw [e113]; exact n2
      have fin : ∀ (f : Nat → Int32 → Int32 → List Int32 → Int32 × List Int32) (w : Int32) (μ' : ix_M), μ' = ix_up (ix_up (ix_up (ix_up μ1 112 18 0) 112 19 (μ1 113 (50 + 4 * B))) 112 20 (nI B)) 112 21 (μ1 113 (51 + 4 * B)) → f K (nI B) (μ 7 B) [] = vAct A x K (nI B) (μ 7 B) [] → VT f μ' (fun q => match q.1.toList ++ [] with
        | [Sum.inl v] => Pst (vAct A x K (nI B) (μ 7 B) []).1 (some (Sum.inl v), q.2)
        | _ => False) := by
        rintro f w μ' rfl hf
        refine ⟨K, nI B, μ 7 B, [], ⟨⟨?_, hK⟩, ?_, ?_, ?_, Nat.zero_le _, fun j hj => absurd hj (Nat.not_lt_zero j)⟩, fun μ2 F2 V2 => ?_⟩
        · simp only [ix_up_ap]
          rw [if_neg (by decide), if_neg (by decide), if_pos (by decide), e113]
          exact eK
        · simp only [ix_up_ap]
          rw [if_neg (by decide), if_pos (by decide)]
        · simp only [ix_up_ap]
          rw [if_pos (by decide), e113]
          exact (I.w5 (by omega)).symm
        · simp only [ix_up_ap]
          rw [if_neg (by decide), if_neg (by decide), if_neg (by decide), if_pos (by decide)]
          rfl
        · rw [hf] at V2 ⊢
          refine pst rfl (I.trc (μ' := μ2) (fun a ha => ?_) (fun j hj => ?_) ⟨_, ⟨?_, T1.2.1, fun j hj => ?_⟩, V2.2.2.2.1, V2.2.2.2.2.2⟩)
          · simp only [List.mem_cons, List.not_mem_nil, or_false] at ha
            rw [F2.1 a (by simp; omega), ix_up_ne (by omega), ix_up_ne (by omega), ix_up_ne (by omega), ix_up_ne (by omega), F1 a (by simp; omega)]
          · rw [F2.2 j (by omega)]
            simp only [ix_up_ap]
            rw [if_neg (by omega), if_neg (by omega), if_neg (by omega), if_neg (by omega), F1 112 (by decide)]
          · rw [F2.1 94 (by decide), ix_up_ne (by decide), ix_up_ne (by decide), ix_up_ne (by decide), ix_up_ne (by decide)]
            exact T1.1
          · rw [F2.1 95 (by decide), ix_up_ne (by decide), ix_up_ne (by decide), ix_up_ne (by decide), ix_up_ne (by decide)]
            exact T1.2.2 j hj
      obtain rfl | rfl | rfl | rfl : A = 0 ∨ A = 1 ∨ A = 2 ∨ A = 3 := by omega
      · simp (decide := true) only [e_X11_voice_0, e_X11_voice_1, e_X11_voice_2, e_X11_voice_5, e_X11_voice_8, e_X11_voice_9, e_X11_voice_10, e_X11_voice_11, e_X11_voice_14, e_X11_voice_17, e_X11_voice_18, e_X11_voice_20, e_X11_voice_23, e_X11_voice_24, e_X11_voice_25, e_X11_voice_26, e_X11_voice_29, e_X11_voice_30, e_X11_voice_31, e_X11_voice_32, e_X11_voice_33, e_X11_voice_36, e_X11_voice_39, e_X11_voice_40, e_X11_voice_41, e_X11_voice_44, e_X11_voice_45, e_X11_voice_46, e_X11_voice_47, e_X11_voice_48, e_X11_voice_51, e_X11_voice_54, e_X11_voice_55, e_X11_voice_58, e_X11_voice_59, e_X11_voice_60, e_X11_voice_63, e_X11_voice_66, e_X11_voice_67, e_X11_voice_68, e_X11_voice_71, e_X11_voice_72, e_X11_voice_73, e_X11_voice_76, e_X11_voice_79, e_X11_voice_80, e_X11_voice_81, e_X11_voice_84, e_X11_voice_85, e_X11_voice_86, e_X11_voice_89, e_X11_voice_92, e_X11_voice_93, e_X11_voice_94, e_X11_voice_97, vi, vl, vr, oc_X11_boatIs, T_X11_boatIs, oc_X11_dipsOf, T_X11_dipsOf, oc_X11_finding, T_X11_finding, oc_X11_isBoat, T_X11_isBoat, oc_X11_lidsOf, T_X11_lidsOf, oc_X11_tellsOf, T_X11_tellsOf, oc_X11_turnsOf, T_X11_turnsOf, oc_X11_within, T_X11_within, ix_push, ix_iload, ix_lload, ix_aload, ix_istore, ix_astore, ix_iinc, ix_bin, ix_div, ix_un, ix_i2l, ix_l2i, ix_lbin, ix_lsh, ix_lcmp, ix_dup, ix_dup2, ix_pop, ix_if, ix_cmp, ix_goto, ix_switch, ix_sw, ix_iret, ix_zret, ix_vret, ix_aret, ix_geti, ix_getr, ix_puti, ix_putz, ix_puts, ix_gets, ix_iald, ix_iast, ix_alen, ix_aald, ix_gval, ix_gcod, ix_bald, ix_blen, ix_sald, ix_nret, ix_math2, ix_math1, ix_acopy, ml_113, ml_114, ml_115, ml_116, ml_118, ml_119, ml_120, ml_121, ml_122, ml_123, ml_124, ml_125, ml_126, mv_0, mv_1, mv_2, mv_3, mv_4, mv_5, mB_or, Nat.add_assoc, Int32.reduceLT, Int32.reduceLE, Int32.reduceToNatClampNeg, Int32.reduceSub, Int32.reduceAdd, Nat.reduceAdd, Nat.reduceLeDiff, true_or, or_true, or_false, false_or, not_false_eq_true, not_true_eq_false, false_implies, true_implies, implies_true, and_self, mB_0, mB_01, Classical.not_not, Nat.zero_le, List.getElem?_cons_zero, List.getElem?_cons_succ, List.set_cons_zero, List.set_cons_succ, ix_nl, ix_cs, true_and, and_true, Option.toList_some, Option.toList_none, List.cons_append, List.nil_append, B3, B4, A3, A4, n3, hx, nz_0, ix_up_ne, ix_up_k, ve_1, ve_2, ve_3, ve_4, ve_5]
        exact fin (vD x) 0 _ rfl rfl
      · simp (decide := true) only [e_X11_voice_0, e_X11_voice_1, e_X11_voice_2, e_X11_voice_5, e_X11_voice_8, e_X11_voice_9, e_X11_voice_10, e_X11_voice_11, e_X11_voice_14, e_X11_voice_17, e_X11_voice_18, e_X11_voice_20, e_X11_voice_23, e_X11_voice_24, e_X11_voice_25, e_X11_voice_26, e_X11_voice_29, e_X11_voice_30, e_X11_voice_31, e_X11_voice_32, e_X11_voice_33, e_X11_voice_36, e_X11_voice_39, e_X11_voice_40, e_X11_voice_41, e_X11_voice_44, e_X11_voice_45, e_X11_voice_46, e_X11_voice_47, e_X11_voice_48, e_X11_voice_51, e_X11_voice_54, e_X11_voice_55, e_X11_voice_58, e_X11_voice_59, e_X11_voice_60, e_X11_voice_63, e_X11_voice_66, e_X11_voice_67, e_X11_voice_68, e_X11_voice_71, e_X11_voice_72, e_X11_voice_73, e_X11_voice_76, e_X11_voice_79, e_X11_voice_80, e_X11_voice_81, e_X11_voice_84, e_X11_voice_85, e_X11_voice_86, e_X11_voice_89, e_X11_voice_92, e_X11_voice_93, e_X11_voice_94, e_X11_voice_97, vi, vl, vr, oc_X11_boatIs, T_X11_boatIs, oc_X11_dipsOf, T_X11_dipsOf, oc_X11_finding, T_X11_finding, oc_X11_isBoat, T_X11_isBoat, oc_X11_lidsOf, T_X11_lidsOf, oc_X11_tellsOf, T_X11_tellsOf, oc_X11_turnsOf, T_X11_turnsOf, oc_X11_within, T_X11_within, ix_push, ix_iload, ix_lload, ix_aload, ix_istore, ix_astore, ix_iinc, ix_bin, ix_div, ix_un, ix_i2l, ix_l2i, ix_lbin, ix_lsh, ix_lcmp, ix_dup, ix_dup2, ix_pop, ix_if, ix_cmp, ix_goto, ix_switch, ix_sw, ix_iret, ix_zret, ix_vret, ix_aret, ix_geti, ix_getr, ix_puti, ix_putz, ix_puts, ix_gets, ix_iald, ix_iast, ix_alen, ix_aald, ix_gval, ix_gcod, ix_bald, ix_blen, ix_sald, ix_nret, ix_math2, ix_math1, ix_acopy, ml_113, ml_114, ml_115, ml_116, ml_118, ml_119, ml_120, ml_121, ml_122, ml_123, ml_124, ml_125, ml_126, mv_0, mv_1, mv_2, mv_3, mv_4, mv_5, mB_or, Nat.add_assoc, Int32.reduceLT, Int32.reduceLE, Int32.reduceToNatClampNeg, Int32.reduceSub, Int32.reduceAdd, Nat.reduceAdd, Nat.reduceLeDiff, true_or, or_true, or_false, false_or, not_false_eq_true, not_true_eq_false, false_implies, true_implies, implies_true, and_self, mB_0, mB_01, Classical.not_not, Nat.zero_le, List.getElem?_cons_zero, List.getElem?_cons_succ, List.set_cons_zero, List.set_cons_succ, ix_nl, ix_cs, true_and, and_true, Option.toList_some, Option.toList_none, List.cons_append, List.nil_append, B3, B4, A3, A4, n3, hx, nz_1, ix_up_ne, ix_up_k, ve_1, ve_2, ve_3, ve_4, ve_5]
        exact fin (vL x) 0 _ rfl rfl
      · simp (decide := true) only [e_X11_voice_0, e_X11_voice_1, e_X11_voice_2, e_X11_voice_5, e_X11_voice_8, e_X11_voice_9, e_X11_voice_10, e_X11_voice_11, e_X11_voice_14, e_X11_voice_17, e_X11_voice_18, e_X11_voice_20, e_X11_voice_23, e_X11_voice_24, e_X11_voice_25, e_X11_voice_26, e_X11_voice_29, e_X11_voice_30, e_X11_voice_31, e_X11_voice_32, e_X11_voice_33, e_X11_voice_36, e_X11_voice_39, e_X11_voice_40, e_X11_voice_41, e_X11_voice_44, e_X11_voice_45, e_X11_voice_46, e_X11_voice_47, e_X11_voice_48, e_X11_voice_51, e_X11_voice_54, e_X11_voice_55, e_X11_voice_58, e_X11_voice_59, e_X11_voice_60, e_X11_voice_63, e_X11_voice_66, e_X11_voice_67, e_X11_voice_68, e_X11_voice_71, e_X11_voice_72, e_X11_voice_73, e_X11_voice_76, e_X11_voice_79, e_X11_voice_80, e_X11_voice_81, e_X11_voice_84, e_X11_voice_85, e_X11_voice_86, e_X11_voice_89, e_X11_voice_92, e_X11_voice_93, e_X11_voice_94, e_X11_voice_97, vi, vl, vr, oc_X11_boatIs, T_X11_boatIs, oc_X11_dipsOf, T_X11_dipsOf, oc_X11_finding, T_X11_finding, oc_X11_isBoat, T_X11_isBoat, oc_X11_lidsOf, T_X11_lidsOf, oc_X11_tellsOf, T_X11_tellsOf, oc_X11_turnsOf, T_X11_turnsOf, oc_X11_within, T_X11_within, ix_push, ix_iload, ix_lload, ix_aload, ix_istore, ix_astore, ix_iinc, ix_bin, ix_div, ix_un, ix_i2l, ix_l2i, ix_lbin, ix_lsh, ix_lcmp, ix_dup, ix_dup2, ix_pop, ix_if, ix_cmp, ix_goto, ix_switch, ix_sw, ix_iret, ix_zret, ix_vret, ix_aret, ix_geti, ix_getr, ix_puti, ix_putz, ix_puts, ix_gets, ix_iald, ix_iast, ix_alen, ix_aald, ix_gval, ix_gcod, ix_bald, ix_blen, ix_sald, ix_nret, ix_math2, ix_math1, ix_acopy, ml_113, ml_114, ml_115, ml_116, ml_118, ml_119, ml_120, ml_121, ml_122, ml_123, ml_124, ml_125, ml_126, mv_0, mv_1, mv_2, mv_3, mv_4, mv_5, mB_or, Nat.add_assoc, Int32.reduceLT, Int32.reduceLE, Int32.reduceToNatClampNeg, Int32.reduceSub, Int32.reduceAdd, Nat.reduceAdd, Nat.reduceLeDiff, true_or, or_true, or_false, false_or, not_false_eq_true, not_true_eq_false, false_implies, true_implies, implies_true, and_self, mB_0, mB_01, Classical.not_not, Nat.zero_le, List.getElem?_cons_zero, List.getElem?_cons_succ, List.set_cons_zero, List.set_cons_succ, ix_nl, ix_cs, true_and, and_true, Option.toList_some, Option.toList_none, List.cons_append, List.nil_append, B3, B4, A3, A4, n3, hx, nz_2, ix_up_ne, ix_up_k, ve_1, ve_2, ve_3, ve_4, ve_5]
        exact fin (vTn x) 0 _ rfl rfl
      · simp (decide := true) only [e_X11_voice_0, e_X11_voice_1, e_X11_voice_2, e_X11_voice_5, e_X11_voice_8, e_X11_voice_9, e_X11_voice_10, e_X11_voice_11, e_X11_voice_14, e_X11_voice_17, e_X11_voice_18, e_X11_voice_20, e_X11_voice_23, e_X11_voice_24, e_X11_voice_25, e_X11_voice_26, e_X11_voice_29, e_X11_voice_30, e_X11_voice_31, e_X11_voice_32, e_X11_voice_33, e_X11_voice_36, e_X11_voice_39, e_X11_voice_40, e_X11_voice_41, e_X11_voice_44, e_X11_voice_45, e_X11_voice_46, e_X11_voice_47, e_X11_voice_48, e_X11_voice_51, e_X11_voice_54, e_X11_voice_55, e_X11_voice_58, e_X11_voice_59, e_X11_voice_60, e_X11_voice_63, e_X11_voice_66, e_X11_voice_67, e_X11_voice_68, e_X11_voice_71, e_X11_voice_72, e_X11_voice_73, e_X11_voice_76, e_X11_voice_79, e_X11_voice_80, e_X11_voice_81, e_X11_voice_84, e_X11_voice_85, e_X11_voice_86, e_X11_voice_89, e_X11_voice_92, e_X11_voice_93, e_X11_voice_94, e_X11_voice_97, vi, vl, vr, oc_X11_boatIs, T_X11_boatIs, oc_X11_dipsOf, T_X11_dipsOf, oc_X11_finding, T_X11_finding, oc_X11_isBoat, T_X11_isBoat, oc_X11_lidsOf, T_X11_lidsOf, oc_X11_tellsOf, T_X11_tellsOf, oc_X11_turnsOf, T_X11_turnsOf, oc_X11_within, T_X11_within, ix_push, ix_iload, ix_lload, ix_aload, ix_istore, ix_astore, ix_iinc, ix_bin, ix_div, ix_un, ix_i2l, ix_l2i, ix_lbin, ix_lsh, ix_lcmp, ix_dup, ix_dup2, ix_pop, ix_if, ix_cmp, ix_goto, ix_switch, ix_sw, ix_iret, ix_zret, ix_vret, ix_aret, ix_geti, ix_getr, ix_puti, ix_putz, ix_puts, ix_gets, ix_iald, ix_iast, ix_alen, ix_aald, ix_gval, ix_gcod, ix_bald, ix_blen, ix_sald, ix_nret, ix_math2, ix_math1, ix_acopy, ml_113, ml_114, ml_115, ml_116, ml_118, ml_119, ml_120, ml_121, ml_122, ml_123, ml_124, ml_125, ml_126, mv_0, mv_1, mv_2, mv_3, mv_4, mv_5, mB_or, Nat.add_assoc, Int32.reduceLT, Int32.reduceLE, Int32.reduceToNatClampNeg, Int32.reduceSub, Int32.reduceAdd, Nat.reduceAdd, Nat.reduceLeDiff, true_or, or_true, or_false, false_or, not_false_eq_true, not_true_eq_false, false_implies, true_implies, implies_true, and_self, mB_0, mB_01, Classical.not_not, Nat.zero_le, List.getElem?_cons_zero, List.getElem?_cons_succ, List.set_cons_zero, List.set_cons_succ, ix_nl, ix_cs, true_and, and_true, Option.toList_some, Option.toList_none, List.cons_append, List.nil_append, B3, B4, A3, A4, n3, hx, nz_3, ix_up_ne, ix_up_k, ve_1, ve_2, ve_3, ve_4, ve_5]
        exact fin (vTl x) 0 _ rfl rfl
    · have hx1 : a < 0 ∨ (3 : Int32) < a := hx1
      have hx2 : ¬ (0 ≤ a ∧ a ≤ (3 : Int32)) := hx2
      simp (decide := true) only [e_X10_voice_0, e_X10_voice_1, e_X10_voice_2, e_X10_voice_5, e_X10_voice_8, e_X10_voice_9, e_X10_voice_10, e_X10_voice_13, e_X10_voice_16, e_X10_voice_17, e_X10_voice_18, e_X10_voice_21, e_X10_voice_22, e_X10_voice_23, e_X10_voice_26, e_X10_voice_27, e_X10_voice_28, e_X10_voice_31, e_X10_voice_34, e_X10_voice_37, e_X10_voice_38, e_X10_voice_39, e_X10_voice_40, e_X10_voice_43, e_X10_voice_46, e_X10_voice_49, e_X10_voice_50, e_X10_voice_51, e_X10_voice_52, e_X10_voice_53, e_X10_voice_56, vi, vl, vr, oc_X10_error, T_X10_error, oc_X10_noBoat, T_X10_noBoat, oc_X10_outside, T_X10_outside, oc_X8_begin, T_X8_begin, ix_push, ix_iload, ix_lload, ix_aload, ix_istore, ix_astore, ix_iinc, ix_bin, ix_div, ix_un, ix_i2l, ix_l2i, ix_lbin, ix_lsh, ix_lcmp, ix_dup, ix_dup2, ix_pop, ix_if, ix_cmp, ix_goto, ix_switch, ix_sw, ix_iret, ix_zret, ix_vret, ix_aret, ix_geti, ix_getr, ix_puti, ix_putz, ix_puts, ix_gets, ix_iald, ix_iast, ix_alen, ix_aald, ix_gval, ix_gcod, ix_bald, ix_blen, ix_sald, ix_nret, ix_math2, ix_math1, ix_acopy, Nat.add_assoc, Int32.reduceLT, Int32.reduceLE, Int32.reduceToNatClampNeg, Int32.reduceSub, Int32.reduceAdd, Nat.reduceAdd, Nat.reduceLeDiff, true_or, or_true, or_false, false_or, not_false_eq_true, not_true_eq_false, false_implies, true_implies, implies_true, and_self, mB_0, mB_01, Classical.not_not, Nat.zero_le, List.getElem?_cons_zero, List.getElem?_cons_succ, List.set_cons_zero, List.set_cons_succ, ix_nl, ix_cs, true_and, and_true, Option.toList_some, Option.toList_none, List.cons_append, List.nil_append, n1, n2, B1, B2, B3, B4, Bc, hx1, hx2, ix_up_ne, ix_up_k, ve_1, ve_2, ve_3, ve_4, ve_5]
      refine hQ _ _ ?_
      simp (decide := true) only [e_X11_voice_0, e_X11_voice_1, e_X11_voice_2, e_X11_voice_5, e_X11_voice_8, e_X11_voice_9, e_X11_voice_10, e_X11_voice_11, e_X11_voice_14, e_X11_voice_17, e_X11_voice_18, e_X11_voice_20, e_X11_voice_23, e_X11_voice_24, e_X11_voice_25, e_X11_voice_26, e_X11_voice_29, e_X11_voice_30, e_X11_voice_31, e_X11_voice_32, e_X11_voice_33, e_X11_voice_36, e_X11_voice_39, e_X11_voice_40, e_X11_voice_41, e_X11_voice_44, e_X11_voice_45, e_X11_voice_46, e_X11_voice_47, e_X11_voice_48, e_X11_voice_51, e_X11_voice_54, e_X11_voice_55, e_X11_voice_58, e_X11_voice_59, e_X11_voice_60, e_X11_voice_63, e_X11_voice_66, e_X11_voice_67, e_X11_voice_68, e_X11_voice_71, e_X11_voice_72, e_X11_voice_73, e_X11_voice_76, e_X11_voice_79, e_X11_voice_80, e_X11_voice_81, e_X11_voice_84, e_X11_voice_85, e_X11_voice_86, e_X11_voice_89, e_X11_voice_92, e_X11_voice_93, e_X11_voice_94, e_X11_voice_97, vi, vl, vr, oc_X11_boatIs, T_X11_boatIs, oc_X11_dipsOf, T_X11_dipsOf, oc_X11_finding, T_X11_finding, oc_X11_isBoat, T_X11_isBoat, oc_X11_lidsOf, T_X11_lidsOf, oc_X11_tellsOf, T_X11_tellsOf, oc_X11_turnsOf, T_X11_turnsOf, oc_X11_within, T_X11_within, ix_push, ix_iload, ix_lload, ix_aload, ix_istore, ix_astore, ix_iinc, ix_bin, ix_div, ix_un, ix_i2l, ix_l2i, ix_lbin, ix_lsh, ix_lcmp, ix_dup, ix_dup2, ix_pop, ix_if, ix_cmp, ix_goto, ix_switch, ix_sw, ix_iret, ix_zret, ix_vret, ix_aret, ix_geti, ix_getr, ix_puti, ix_putz, ix_puts, ix_gets, ix_iald, ix_iast, ix_alen, ix_aald, ix_gval, ix_gcod, ix_bald, ix_blen, ix_sald, ix_nret, ix_math2, ix_math1, ix_acopy, ml_113, ml_114, ml_115, ml_116, ml_118, ml_119, ml_120, ml_121, ml_122, ml_123, ml_124, ml_125, ml_126, mv_0, mv_1, mv_2, mv_3, mv_4, mv_5, mB_or, Nat.add_assoc, Int32.reduceLT, Int32.reduceLE, Int32.reduceToNatClampNeg, Int32.reduceSub, Int32.reduceAdd, Nat.reduceAdd, Nat.reduceLeDiff, true_or, or_true, or_false, false_or, not_false_eq_true, not_true_eq_false, false_implies, true_implies, implies_true, and_self, mB_0, mB_01, Classical.not_not, Nat.zero_le, List.getElem?_cons_zero, List.getElem?_cons_succ, List.set_cons_zero, List.set_cons_succ, ix_nl, ix_cs, true_and, and_true, Option.toList_some, Option.toList_none, List.cons_append, List.nil_append, n1, n2, B1, B2, B3, B4, Bc, hx1, hx2, ix_up_ne, ix_up_k, ve_1, ve_2, ve_3, ve_4, ve_5]
      repeat' (first | exact I.er 1 (by decide) | refine ⟨fun _ => ?_, fun _ => ?_⟩)
  · simp (decide := true) only [e_X10_voice_0, e_X10_voice_1, e_X10_voice_2, e_X10_voice_5, e_X10_voice_8, e_X10_voice_9, e_X10_voice_10, e_X10_voice_13, e_X10_voice_16, e_X10_voice_17, e_X10_voice_18, e_X10_voice_21, e_X10_voice_22, e_X10_voice_23, e_X10_voice_26, e_X10_voice_27, e_X10_voice_28, e_X10_voice_31, e_X10_voice_34, e_X10_voice_37, e_X10_voice_38, e_X10_voice_39, e_X10_voice_40, e_X10_voice_43, e_X10_voice_46, e_X10_voice_49, e_X10_voice_50, e_X10_voice_51, e_X10_voice_52, e_X10_voice_53, e_X10_voice_56, vi, vl, vr, oc_X10_error, T_X10_error, oc_X10_noBoat, T_X10_noBoat, oc_X10_outside, T_X10_outside, oc_X8_begin, T_X8_begin, ix_push, ix_iload, ix_lload, ix_aload, ix_istore, ix_astore, ix_iinc, ix_bin, ix_div, ix_un, ix_i2l, ix_l2i, ix_lbin, ix_lsh, ix_lcmp, ix_dup, ix_dup2, ix_pop, ix_if, ix_cmp, ix_goto, ix_switch, ix_sw, ix_iret, ix_zret, ix_vret, ix_aret, ix_geti, ix_getr, ix_puti, ix_putz, ix_puts, ix_gets, ix_iald, ix_iast, ix_alen, ix_aald, ix_gval, ix_gcod, ix_bald, ix_blen, ix_sald, ix_nret, ix_math2, ix_math1, ix_acopy, Nat.add_assoc, Int32.reduceLT, Int32.reduceLE, Int32.reduceToNatClampNeg, Int32.reduceSub, Int32.reduceAdd, Nat.reduceAdd, Nat.reduceLeDiff, true_or, or_true, or_false, false_or, not_false_eq_true, not_true_eq_false, false_implies, true_implies, implies_true, and_self, mB_0, mB_01, Classical.not_not, Nat.zero_le, List.getElem?_cons_zero, List.getElem?_cons_succ, List.set_cons_zero, List.set_cons_succ, ix_nl, ix_cs, true_and, and_true, Option.toList_some, Option.toList_none, List.cons_append, List.nil_append, n1, n2, hx1, hx2, ix_up_ne, ix_up_k, ve_1, ve_2, ve_3, ve_4, ve_5]
    refine hQ _ _ ?_
    simp (decide := true) only [e_X11_voice_0, e_X11_voice_1, e_X11_voice_2, e_X11_voice_5, e_X11_voice_8, e_X11_voice_9, e_X11_voice_10, e_X11_voice_11, e_X11_voice_14, e_X11_voice_17, e_X11_voice_18, e_X11_voice_20, e_X11_voice_23, e_X11_voice_24, e_X11_voice_25, e_X11_voice_26, e_X11_voice_29, e_X11_voice_30, e_X11_voice_31, e_X11_voice_32, e_X11_voice_33, e_X11_voice_36, e_X11_voice_39, e_X11_voice_40, e_X11_voice_41, e_X11_voice_44, e_X11_voice_45, e_X11_voice_46, e_X11_voice_47, e_X11_voice_48, e_X11_voice_51, e_X11_voice_54, e_X11_voice_55, e_X11_voice_58, e_X11_voice_59, e_X11_voice_60, e_X11_voice_63, e_X11_voice_66, e_X11_voice_67, e_X11_voice_68, e_X11_voice_71, e_X11_voice_72, e_X11_voice_73, e_X11_voice_76, e_X11_voice_79, e_X11_voice_80, e_X11_voice_81, e_X11_voice_84, e_X11_voice_85, e_X11_voice_86, e_X11_voice_89, e_X11_voice_92, e_X11_voice_93, e_X11_voice_94, e_X11_voice_97, vi, vl, vr, oc_X11_boatIs, T_X11_boatIs, oc_X11_dipsOf, T_X11_dipsOf, oc_X11_finding, T_X11_finding, oc_X11_isBoat, T_X11_isBoat, oc_X11_lidsOf, T_X11_lidsOf, oc_X11_tellsOf, T_X11_tellsOf, oc_X11_turnsOf, T_X11_turnsOf, oc_X11_within, T_X11_within, ix_push, ix_iload, ix_lload, ix_aload, ix_istore, ix_astore, ix_iinc, ix_bin, ix_div, ix_un, ix_i2l, ix_l2i, ix_lbin, ix_lsh, ix_lcmp, ix_dup, ix_dup2, ix_pop, ix_if, ix_cmp, ix_goto, ix_switch, ix_sw, ix_iret, ix_zret, ix_vret, ix_aret, ix_geti, ix_getr, ix_puti, ix_putz, ix_puts, ix_gets, ix_iald, ix_iast, ix_alen, ix_aald, ix_gval, ix_gcod, ix_bald, ix_blen, ix_sald, ix_nret, ix_math2, ix_math1, ix_acopy, ml_113, ml_114, ml_115, ml_116, ml_118, ml_119, ml_120, ml_121, ml_122, ml_123, ml_124, ml_125, ml_126, mv_0, mv_1, mv_2, mv_3, mv_4, mv_5, mB_or, Nat.add_assoc, Int32.reduceLT, Int32.reduceLE, Int32.reduceToNatClampNeg, Int32.reduceSub, Int32.reduceAdd, Nat.reduceAdd, Nat.reduceLeDiff, true_or, or_true, or_false, false_or, not_false_eq_true, not_true_eq_false, false_implies, true_implies, implies_true, and_self, mB_0, mB_01, Classical.not_not, Nat.zero_le, List.getElem?_cons_zero, List.getElem?_cons_succ, List.set_cons_zero, List.set_cons_succ, ix_nl, ix_cs, true_and, and_true, Option.toList_some, Option.toList_none, List.cons_append, List.nil_append, n1, n2, hx1, hx2, ix_up_ne, ix_up_k, ve_1, ve_2, ve_3, ve_4, ve_5]
    repeat' (first | exact I.er 1 (by decide) | refine ⟨fun _ => ?_, fun _ => ?_⟩)
