/-! ===== calls, class against model: full ===== -/
def o_X10_full : List (Nat × ix_Op) := [
  (0, ix_aload 0 1),
  (1, ix_iload 1 2),
  (2, oc_X10_noBoat 5),
  (5, ix_if (fun x => x = 0) 8 17),
  (8, ix_iload 2 9),
  (9, ix_push (vi 99) 11),
  (11, oc_X10_outside 14),
  (14, ix_if (fun x => x = 0) 23 17),
  (17, ix_aload 0 18),
  (18, ix_push (vi 1) 19),
  (19, oc_X10_error 22),
  (22, ix_iret),
  (23, ix_aload 0 24),
  (24, oc_X10_think 27),
  (27, ix_astore 3 28),
  (28, ix_push (vi 0) 29),
  (29, ix_istore 4 31),
  (31, ix_iload 4 33),
  (33, ix_push (vi 60) 35),
  (35, ix_cmp (fun x y => y < x) 70 38),
  (38, ix_aload 3 39),
  (39, ix_getr 8 20 (fun k => k + 7) 42),
  (42, ix_iload 1 43),
  (43, ix_iald 44),
  (44, ix_iload 2 45),
  (45, ix_cmp (fun x y => x < y) 51 48),
  (48, ix_iload 4 50),
  (50, ix_iret),
  (51, ix_aload 3 52),
  (52, ix_aload 0 53),
  (53, ix_getr 9 5 (fun _ => 1) 56),
  (56, ix_getr 5 0 (fun k => k + 9) 59),
  (59, ix_push (vi (-1)) 60),
  (60, ix_push (vi 0) 61),
  (61, oc_X9_pass 64),
  (64, ix_iinc 4 1 67),
  (67, ix_goto 31),
  (70, ix_aload 0 71),
  (71, ix_push (vi 2) 72),
  (72, oc_X10_error 75),
  (75, ix_iret)]
set_option maxRecDepth 20000 in
theorem a_X10_full (l : Launch) : ix_AllS l cX10_full 5 RX10 60 (some .int) o_X10_full :=
  .cons (ix_s_aload_n dX10_full_0 rfl) <|
  .cons (ix_s_iload_n dX10_full_1 rfl) <|
  .cons (oc_X10_noBoat_s (ix_s_callv (t := 9) (k_X10_noBoat l) (by decide) (by decide) tw_369 tw_1 tw_366 tw_368 tp_1 ⟨by decide, by decide, by decide +kernel⟩ (by decide) rfl rfl (fun _ => ⟨_, _, rfl, rfl⟩) dX10_full_2)) <|
  .cons (ix_s_if_ne dX10_full_5 (by decide)) <|
  .cons (ix_s_iload_n dX10_full_8 rfl) <|
  .cons (ix_s_bipush dX10_full_9 (by decide +kernel)) <|
  .cons (oc_X10_outside_s (ix_s_calls (k_X10_outside l) (by decide) (by decide) tw_291 tw_1 tw_289 tw_290 ⟨by decide, by decide, by decide +kernel⟩ (fun _ => rfl) dX10_full_11)) <|
  .cons (ix_s_if_eq dX10_full_14 (by decide)) <|
  .cons (ix_s_aload_n dX10_full_17 rfl) <|
  .cons (ix_s_iconst dX10_full_18 (by decide +kernel)) <|
  .cons (oc_X10_error_s (ix_s_callv (t := 9) (k_X10_error l) (by decide) (by decide) tw_295 tw_1 tw_292 tw_294 tp_0 ⟨by decide, by decide, by decide +kernel⟩ (by decide) rfl rfl (fun _ => ⟨_, _, rfl, rfl⟩) dX10_full_19)) <|
  .cons (ix_s_iret dX10_full_22 rfl) <|
  .cons (ix_s_aload_n dX10_full_23 rfl) <|
  .cons (oc_X10_think_s (ix_s_callv (t := 9) (k_X10_think l) (by decide) (by decide) tw_638 tw_1 tw_635 tw_637 tp_8 ⟨by decide, by decide, by decide +kernel⟩ (by decide) rfl rfl (fun _ => ⟨_, _, rfl, rfl⟩) dX10_full_24)) <|
  .cons (ix_s_astore_n dX10_full_27 rfl (by decide)) <|
  .cons (ix_s_iconst dX10_full_28 (by decide +kernel)) <|
  .cons (ix_s_istore dX10_full_29 (by decide)) <|
  .cons (ix_s_iload dX10_full_31) <|
  .cons (ix_s_bipush dX10_full_33 (by decide +kernel)) <|
  .cons (ix_s_cmp_gt dX10_full_35 (by decide)) <|
  .cons (ix_s_aload_n dX10_full_38 rfl) <|
  .cons (ix_s_getr (j := 6) tu_X9 rfl (by decide) (by decide) tw_54 rfl ts_8_6_r dX10_full_39) <|
  .cons (ix_s_iload_n dX10_full_42 rfl) <|
  .cons (ix_s_iald dX10_full_43) <|
  .cons (ix_s_iload_n dX10_full_44 rfl) <|
  .cons (ix_s_cmp_lt dX10_full_45 (by decide)) <|
  .cons (ix_s_iload dX10_full_48) <|
  .cons (ix_s_iret dX10_full_50 rfl) <|
  .cons (ix_s_aload_n dX10_full_51 rfl) <|
  .cons (ix_s_aload_n dX10_full_52 rfl) <|
  .cons (ix_s_getr (j := 0) tu_X10 rfl (by decide) (by decide) tw_251 rfl ts_9_0_r dX10_full_53) <|
  .cons (ix_s_getr (j := 1) tu_X6 rfl (by decide) (by decide) tw_140 rfl ts_5_1_r dX10_full_56) <|
  .cons (ix_s_iconst dX10_full_59 (by decide +kernel)) <|
  .cons (ix_s_iconst dX10_full_60 (by decide +kernel)) <|
  .cons (oc_X9_pass_s (ix_s_callv (t := 8) (k_X9_pass l) (by decide) (by decide) tw_599 tw_3 tw_596 tw_597 tw_598 ⟨by decide, by decide, by decide +kernel⟩ (by decide) rfl rfl (fun _ => ⟨_, _, rfl, rfl⟩) dX10_full_61)) <|
  .cons (ix_s_iinc dX10_full_64 (by decide +kernel) (by decide)) <|
  .cons (ix_s_goto dX10_full_67 (by decide)) <|
  .cons (ix_s_aload_n dX10_full_70 rfl) <|
  .cons (ix_s_iconst dX10_full_71 (by decide +kernel)) <|
  .cons (oc_X10_error_s (ix_s_callv (t := 9) (k_X10_error l) (by decide) (by decide) tw_295 tw_1 tw_292 tw_294 tp_0 ⟨by decide, by decide, by decide +kernel⟩ (by decide) rfl rfl (fun _ => ⟨_, _, rfl, rfl⟩) dX10_full_72)) <|
  .cons (ix_s_iret dX10_full_75 rfl) <| .nil
theorem e_X10_full_0 (Q : ix_R → Prop) (ls : ix_L) (st : List ix_V) (μ : ix_M) : ix_Ev o_X10_full Q (0, ls, st, μ) = ix_aload 0 1 (ix_Ev o_X10_full Q) Q ls st μ := ix_Ev.eq (a_X10_full launch0) rfl ls st μ
theorem e_X10_full_1 (Q : ix_R → Prop) (ls : ix_L) (st : List ix_V) (μ : ix_M) : ix_Ev o_X10_full Q (1, ls, st, μ) = ix_iload 1 2 (ix_Ev o_X10_full Q) Q ls st μ := ix_Ev.eq (a_X10_full launch0) rfl ls st μ
theorem e_X10_full_2 (Q : ix_R → Prop) (ls : ix_L) (st : List ix_V) (μ : ix_M) : ix_Ev o_X10_full Q (2, ls, st, μ) = oc_X10_noBoat 5 (ix_Ev o_X10_full Q) Q ls st μ := ix_Ev.eq (a_X10_full launch0) rfl ls st μ
theorem e_X10_full_5 (Q : ix_R → Prop) (ls : ix_L) (st : List ix_V) (μ : ix_M) : ix_Ev o_X10_full Q (5, ls, st, μ) = ix_if (fun x => x = 0) 8 17 (ix_Ev o_X10_full Q) Q ls st μ := ix_Ev.eq (a_X10_full launch0) rfl ls st μ
theorem e_X10_full_8 (Q : ix_R → Prop) (ls : ix_L) (st : List ix_V) (μ : ix_M) : ix_Ev o_X10_full Q (8, ls, st, μ) = ix_iload 2 9 (ix_Ev o_X10_full Q) Q ls st μ := ix_Ev.eq (a_X10_full launch0) rfl ls st μ
theorem e_X10_full_9 (Q : ix_R → Prop) (ls : ix_L) (st : List ix_V) (μ : ix_M) : ix_Ev o_X10_full Q (9, ls, st, μ) = ix_push (vi 99) 11 (ix_Ev o_X10_full Q) Q ls st μ := ix_Ev.eq (a_X10_full launch0) rfl ls st μ
theorem e_X10_full_11 (Q : ix_R → Prop) (ls : ix_L) (st : List ix_V) (μ : ix_M) : ix_Ev o_X10_full Q (11, ls, st, μ) = oc_X10_outside 14 (ix_Ev o_X10_full Q) Q ls st μ := ix_Ev.eq (a_X10_full launch0) rfl ls st μ
theorem e_X10_full_14 (Q : ix_R → Prop) (ls : ix_L) (st : List ix_V) (μ : ix_M) : ix_Ev o_X10_full Q (14, ls, st, μ) = ix_if (fun x => x = 0) 23 17 (ix_Ev o_X10_full Q) Q ls st μ := ix_Ev.eq (a_X10_full launch0) rfl ls st μ
theorem e_X10_full_17 (Q : ix_R → Prop) (ls : ix_L) (st : List ix_V) (μ : ix_M) : ix_Ev o_X10_full Q (17, ls, st, μ) = ix_aload 0 18 (ix_Ev o_X10_full Q) Q ls st μ := ix_Ev.eq (a_X10_full launch0) rfl ls st μ
theorem e_X10_full_18 (Q : ix_R → Prop) (ls : ix_L) (st : List ix_V) (μ : ix_M) : ix_Ev o_X10_full Q (18, ls, st, μ) = ix_push (vi 1) 19 (ix_Ev o_X10_full Q) Q ls st μ := ix_Ev.eq (a_X10_full launch0) rfl ls st μ
theorem e_X10_full_19 (Q : ix_R → Prop) (ls : ix_L) (st : List ix_V) (μ : ix_M) : ix_Ev o_X10_full Q (19, ls, st, μ) = oc_X10_error 22 (ix_Ev o_X10_full Q) Q ls st μ := ix_Ev.eq (a_X10_full launch0) rfl ls st μ
theorem e_X10_full_22 (Q : ix_R → Prop) (ls : ix_L) (st : List ix_V) (μ : ix_M) : ix_Ev o_X10_full Q (22, ls, st, μ) = ix_iret (ix_Ev o_X10_full Q) Q ls st μ := ix_Ev.eq (a_X10_full launch0) rfl ls st μ
theorem e_X10_full_23 (Q : ix_R → Prop) (ls : ix_L) (st : List ix_V) (μ : ix_M) : ix_Ev o_X10_full Q (23, ls, st, μ) = ix_aload 0 24 (ix_Ev o_X10_full Q) Q ls st μ := ix_Ev.eq (a_X10_full launch0) rfl ls st μ
theorem e_X10_full_24 (Q : ix_R → Prop) (ls : ix_L) (st : List ix_V) (μ : ix_M) : ix_Ev o_X10_full Q (24, ls, st, μ) = oc_X10_think 27 (ix_Ev o_X10_full Q) Q ls st μ := ix_Ev.eq (a_X10_full launch0) rfl ls st μ
theorem e_X10_full_27 (Q : ix_R → Prop) (ls : ix_L) (st : List ix_V) (μ : ix_M) : ix_Ev o_X10_full Q (27, ls, st, μ) = ix_astore 3 28 (ix_Ev o_X10_full Q) Q ls st μ := ix_Ev.eq (a_X10_full launch0) rfl ls st μ
theorem e_X10_full_28 (Q : ix_R → Prop) (ls : ix_L) (st : List ix_V) (μ : ix_M) : ix_Ev o_X10_full Q (28, ls, st, μ) = ix_push (vi 0) 29 (ix_Ev o_X10_full Q) Q ls st μ := ix_Ev.eq (a_X10_full launch0) rfl ls st μ
theorem e_X10_full_29 (Q : ix_R → Prop) (ls : ix_L) (st : List ix_V) (μ : ix_M) : ix_Ev o_X10_full Q (29, ls, st, μ) = ix_istore 4 31 (ix_Ev o_X10_full Q) Q ls st μ := ix_Ev.eq (a_X10_full launch0) rfl ls st μ
theorem e_X10_full_31 (Q : ix_R → Prop) (ls : ix_L) (st : List ix_V) (μ : ix_M) : ix_Ev o_X10_full Q (31, ls, st, μ) = ix_iload 4 33 (ix_Ev o_X10_full Q) Q ls st μ := ix_Ev.eq (a_X10_full launch0) rfl ls st μ
theorem e_X10_full_33 (Q : ix_R → Prop) (ls : ix_L) (st : List ix_V) (μ : ix_M) : ix_Ev o_X10_full Q (33, ls, st, μ) = ix_push (vi 60) 35 (ix_Ev o_X10_full Q) Q ls st μ := ix_Ev.eq (a_X10_full launch0) rfl ls st μ
theorem e_X10_full_35 (Q : ix_R → Prop) (ls : ix_L) (st : List ix_V) (μ : ix_M) : ix_Ev o_X10_full Q (35, ls, st, μ) = ix_cmp (fun x y => y < x) 70 38 (ix_Ev o_X10_full Q) Q ls st μ := ix_Ev.eq (a_X10_full launch0) rfl ls st μ
theorem e_X10_full_38 (Q : ix_R → Prop) (ls : ix_L) (st : List ix_V) (μ : ix_M) : ix_Ev o_X10_full Q (38, ls, st, μ) = ix_aload 3 39 (ix_Ev o_X10_full Q) Q ls st μ := ix_Ev.eq (a_X10_full launch0) rfl ls st μ
theorem e_X10_full_39 (Q : ix_R → Prop) (ls : ix_L) (st : List ix_V) (μ : ix_M) : ix_Ev o_X10_full Q (39, ls, st, μ) = ix_getr 8 20 (fun k => k + 7) 42 (ix_Ev o_X10_full Q) Q ls st μ := ix_Ev.eq (a_X10_full launch0) rfl ls st μ
theorem e_X10_full_42 (Q : ix_R → Prop) (ls : ix_L) (st : List ix_V) (μ : ix_M) : ix_Ev o_X10_full Q (42, ls, st, μ) = ix_iload 1 43 (ix_Ev o_X10_full Q) Q ls st μ := ix_Ev.eq (a_X10_full launch0) rfl ls st μ
theorem e_X10_full_43 (Q : ix_R → Prop) (ls : ix_L) (st : List ix_V) (μ : ix_M) : ix_Ev o_X10_full Q (43, ls, st, μ) = ix_iald 44 (ix_Ev o_X10_full Q) Q ls st μ := ix_Ev.eq (a_X10_full launch0) rfl ls st μ
theorem e_X10_full_44 (Q : ix_R → Prop) (ls : ix_L) (st : List ix_V) (μ : ix_M) : ix_Ev o_X10_full Q (44, ls, st, μ) = ix_iload 2 45 (ix_Ev o_X10_full Q) Q ls st μ := ix_Ev.eq (a_X10_full launch0) rfl ls st μ
theorem e_X10_full_45 (Q : ix_R → Prop) (ls : ix_L) (st : List ix_V) (μ : ix_M) : ix_Ev o_X10_full Q (45, ls, st, μ) = ix_cmp (fun x y => x < y) 51 48 (ix_Ev o_X10_full Q) Q ls st μ := ix_Ev.eq (a_X10_full launch0) rfl ls st μ
theorem e_X10_full_48 (Q : ix_R → Prop) (ls : ix_L) (st : List ix_V) (μ : ix_M) : ix_Ev o_X10_full Q (48, ls, st, μ) = ix_iload 4 50 (ix_Ev o_X10_full Q) Q ls st μ := ix_Ev.eq (a_X10_full launch0) rfl ls st μ
theorem e_X10_full_50 (Q : ix_R → Prop) (ls : ix_L) (st : List ix_V) (μ : ix_M) : ix_Ev o_X10_full Q (50, ls, st, μ) = ix_iret (ix_Ev o_X10_full Q) Q ls st μ := ix_Ev.eq (a_X10_full launch0) rfl ls st μ
theorem e_X10_full_51 (Q : ix_R → Prop) (ls : ix_L) (st : List ix_V) (μ : ix_M) : ix_Ev o_X10_full Q (51, ls, st, μ) = ix_aload 3 52 (ix_Ev o_X10_full Q) Q ls st μ := ix_Ev.eq (a_X10_full launch0) rfl ls st μ
theorem e_X10_full_52 (Q : ix_R → Prop) (ls : ix_L) (st : List ix_V) (μ : ix_M) : ix_Ev o_X10_full Q (52, ls, st, μ) = ix_aload 0 53 (ix_Ev o_X10_full Q) Q ls st μ := ix_Ev.eq (a_X10_full launch0) rfl ls st μ
theorem e_X10_full_53 (Q : ix_R → Prop) (ls : ix_L) (st : List ix_V) (μ : ix_M) : ix_Ev o_X10_full Q (53, ls, st, μ) = ix_getr 9 5 (fun _ => 1) 56 (ix_Ev o_X10_full Q) Q ls st μ := ix_Ev.eq (a_X10_full launch0) rfl ls st μ
theorem e_X10_full_56 (Q : ix_R → Prop) (ls : ix_L) (st : List ix_V) (μ : ix_M) : ix_Ev o_X10_full Q (56, ls, st, μ) = ix_getr 5 0 (fun k => k + 9) 59 (ix_Ev o_X10_full Q) Q ls st μ := ix_Ev.eq (a_X10_full launch0) rfl ls st μ
theorem e_X10_full_59 (Q : ix_R → Prop) (ls : ix_L) (st : List ix_V) (μ : ix_M) : ix_Ev o_X10_full Q (59, ls, st, μ) = ix_push (vi (-1)) 60 (ix_Ev o_X10_full Q) Q ls st μ := ix_Ev.eq (a_X10_full launch0) rfl ls st μ
theorem e_X10_full_60 (Q : ix_R → Prop) (ls : ix_L) (st : List ix_V) (μ : ix_M) : ix_Ev o_X10_full Q (60, ls, st, μ) = ix_push (vi 0) 61 (ix_Ev o_X10_full Q) Q ls st μ := ix_Ev.eq (a_X10_full launch0) rfl ls st μ
theorem e_X10_full_61 (Q : ix_R → Prop) (ls : ix_L) (st : List ix_V) (μ : ix_M) : ix_Ev o_X10_full Q (61, ls, st, μ) = oc_X9_pass 64 (ix_Ev o_X10_full Q) Q ls st μ := ix_Ev.eq (a_X10_full launch0) rfl ls st μ
theorem e_X10_full_64 (Q : ix_R → Prop) (ls : ix_L) (st : List ix_V) (μ : ix_M) : ix_Ev o_X10_full Q (64, ls, st, μ) = ix_iinc 4 1 67 (ix_Ev o_X10_full Q) Q ls st μ := ix_Ev.eq (a_X10_full launch0) rfl ls st μ
theorem e_X10_full_67 (Q : ix_R → Prop) (ls : ix_L) (st : List ix_V) (μ : ix_M) : ix_Ev o_X10_full Q (67, ls, st, μ) = ix_goto 31 (ix_Ev o_X10_full Q) Q ls st μ := ix_Ev.eq (a_X10_full launch0) rfl ls st μ
theorem e_X10_full_70 (Q : ix_R → Prop) (ls : ix_L) (st : List ix_V) (μ : ix_M) : ix_Ev o_X10_full Q (70, ls, st, μ) = ix_aload 0 71 (ix_Ev o_X10_full Q) Q ls st μ := ix_Ev.eq (a_X10_full launch0) rfl ls st μ
theorem e_X10_full_71 (Q : ix_R → Prop) (ls : ix_L) (st : List ix_V) (μ : ix_M) : ix_Ev o_X10_full Q (71, ls, st, μ) = ix_push (vi 2) 72 (ix_Ev o_X10_full Q) Q ls st μ := ix_Ev.eq (a_X10_full launch0) rfl ls st μ
theorem e_X10_full_72 (Q : ix_R → Prop) (ls : ix_L) (st : List ix_V) (μ : ix_M) : ix_Ev o_X10_full Q (72, ls, st, μ) = oc_X10_error 75 (ix_Ev o_X10_full Q) Q ls st μ := ix_Ev.eq (a_X10_full launch0) rfl ls st μ
theorem e_X10_full_75 (Q : ix_R → Prop) (ls : ix_L) (st : List ix_V) (μ : ix_M) : ix_Ev o_X10_full Q (75, ls, st, μ) = ix_iret (ix_Ev o_X10_full Q) Q ls st μ := ix_Ev.eq (a_X10_full launch0) rfl ls st μ
def o_X11_full : List (Nat × ix_Op) := [
  (0, ix_aload 0 1),
  (1, ix_iload 1 2),
  (2, oc_X11_isBoat 5),
  (5, ix_if (fun x => x = 0) 15 8),
  (8, ix_iload 2 9),
  (9, oc_X11_isMost 12),
  (12, ix_if (fun x => x = 0) 15 22),
  (15, ix_aload 0 16),
  (16, ix_push (vi (-1000000001)) 18),
  (18, oc_X11_finding 21),
  (21, ix_iret),
  (22, ix_aload 0 23),
  (23, ix_getr 10 20 (fun _ => 113) 26),
  (26, ix_aload 0 27),
  (27, ix_getr 10 20 (fun _ => 115) 30),
  (30, oc_X11_copy 33),
  (33, ix_push (vi 0) 34),
  (34, ix_istore 3 35),
  (35, ix_iload 3 36),
  (36, ix_push (vi 60) 38),
  (38, ix_cmp (fun x y => y ≤ x) 61 41),
  (41, ix_aload 0 42),
  (42, ix_iload 1 43),
  (43, ix_push (vi 3) 44),
  (44, oc_X11_boatIs 47),
  (47, ix_iload 2 48),
  (48, ix_cmp (fun x y => y ≤ x) 61 51),
  (51, ix_aload 0 52),
  (52, oc_X11_minute 55),
  (55, ix_iinc 3 1 58),
  (58, ix_goto 35),
  (61, ix_aload 0 62),
  (62, ix_iload 1 63),
  (63, ix_push (vi 3) 64),
  (64, oc_X11_boatIs 67),
  (67, ix_iload 2 68),
  (68, ix_cmp (fun x y => x < y) 75 71),
  (71, ix_push (vi 1) 72),
  (72, ix_goto 76),
  (75, ix_push (vi 0) 76),
  (76, ix_istore 4 78),
  (78, ix_aload 0 79),
  (79, ix_getr 10 20 (fun _ => 115) 82),
  (82, ix_aload 0 83),
  (83, ix_getr 10 20 (fun _ => 113) 86),
  (86, oc_X11_copy 89),
  (89, ix_iload 4 91),
  (91, ix_if (fun x => x = 0) 98 94),
  (94, ix_iload 3 95),
  (95, ix_goto 105),
  (98, ix_aload 0 99),
  (99, ix_push (vi (-1000000002)) 102),
  (102, oc_X11_finding 105),
  (105, ix_iret)]
set_option maxRecDepth 20000 in
theorem a_X11_full (l : Launch) : ix_AllS l cX11_full 5 RX11 60 (some .int) o_X11_full :=
  .cons (ix_s_aload_n dX11_full_0 rfl) <|
  .cons (ix_s_iload_n dX11_full_1 rfl) <|
  .cons (oc_X11_isBoat_s (ix_s_callv (t := 10) (k_X11_isBoat l) (by decide) (by decide) tw_1135 tw_12 tw_1132 tw_1134 tp_37 ⟨by decide, by decide, by decide +kernel⟩ (by decide) rfl rfl (fun _ => ⟨_, _, rfl, rfl⟩) dX11_full_2)) <|
  .cons (ix_s_if_eq dX11_full_5 (by decide)) <|
  .cons (ix_s_iload_n dX11_full_8 rfl) <|
  .cons (oc_X11_isMost_s (ix_s_calls (k_X11_isMost l) (by decide) (by decide) tw_1064 tw_12 tw_1062 tw_1063 ⟨by decide, by decide, by decide +kernel⟩ (fun _ => rfl) dX11_full_9)) <|
  .cons (ix_s_if_ne dX11_full_12 (by decide)) <|
  .cons (ix_s_aload_n dX11_full_15 rfl) <|
  .cons (ix_s_ldc tw_961 dX11_full_16) <|
  .cons (oc_X11_finding_s (ix_s_callv (t := 10) (k_X11_finding l) (by decide) (by decide) tw_965 tw_12 tw_962 tw_964 tp_18 ⟨by decide, by decide, by decide +kernel⟩ (by decide) rfl rfl (fun _ => ⟨_, _, rfl, rfl⟩) dX11_full_18)) <|
  .cons (ix_s_iret dX11_full_21 rfl) <|
  .cons (ix_s_aload_n dX11_full_22 rfl) <|
  .cons (ix_s_getr (j := 0) tu_X11 rfl (by decide) (by decide) tw_875 rfl ts_10_0_r dX11_full_23) <|
  .cons (ix_s_aload_n dX11_full_26 rfl) <|
  .cons (ix_s_getr (j := 2) tu_X11 rfl (by decide) (by decide) tw_877 rfl ts_10_2_r dX11_full_27) <|
  .cons (oc_X11_copy_s (ix_s_calls (k_X11_copy l) (by decide) (by decide) tw_1221 tw_12 tw_1219 tw_1220 ⟨by decide, by decide, by decide +kernel⟩ (fun _ => rfl) dX11_full_30)) <|
  .cons (ix_s_iconst dX11_full_33 (by decide +kernel)) <|
  .cons (ix_s_istore_n dX11_full_34 rfl (by decide)) <|
  .cons (ix_s_iload_n dX11_full_35 rfl) <|
  .cons (ix_s_bipush dX11_full_36 (by decide +kernel)) <|
  .cons (ix_s_cmp_ge dX11_full_38 (by decide)) <|
  .cons (ix_s_aload_n dX11_full_41 rfl) <|
  .cons (ix_s_iload_n dX11_full_42 rfl) <|
  .cons (ix_s_iconst dX11_full_43 (by decide +kernel)) <|
  .cons (oc_X11_boatIs_s (ix_s_callv (t := 10) (k_X11_boatIs l) (by decide) (by decide) tw_1083 tw_12 tw_1080 tw_1082 tp_34 ⟨by decide, by decide, by decide +kernel⟩ (by decide) rfl rfl (fun _ => ⟨_, _, rfl, rfl⟩) dX11_full_44)) <|
  .cons (ix_s_iload_n dX11_full_47 rfl) <|
  .cons (ix_s_cmp_ge dX11_full_48 (by decide)) <|
  .cons (ix_s_aload_n dX11_full_51 rfl) <|
  .cons (oc_X11_minute_s (ix_s_callv (t := 10) (k_X11_minute l) (by decide) (by decide) tw_1191 tw_12 tw_1188 tw_1190 tp_45 ⟨by decide, by decide, by decide +kernel⟩ (by decide) rfl rfl (fun _ => ⟨_, _, rfl, rfl⟩) dX11_full_52)) <|
  .cons (ix_s_iinc dX11_full_55 (by decide +kernel) (by decide)) <|
  .cons (ix_s_goto dX11_full_58 (by decide)) <|
  .cons (ix_s_aload_n dX11_full_61 rfl) <|
  .cons (ix_s_iload_n dX11_full_62 rfl) <|
  .cons (ix_s_iconst dX11_full_63 (by decide +kernel)) <|
  .cons (oc_X11_boatIs_s (ix_s_callv (t := 10) (k_X11_boatIs l) (by decide) (by decide) tw_1083 tw_12 tw_1080 tw_1082 tp_34 ⟨by decide, by decide, by decide +kernel⟩ (by decide) rfl rfl (fun _ => ⟨_, _, rfl, rfl⟩) dX11_full_64)) <|
  .cons (ix_s_iload_n dX11_full_67 rfl) <|
  .cons (ix_s_cmp_lt dX11_full_68 (by decide)) <|
  .cons (ix_s_iconst dX11_full_71 (by decide +kernel)) <|
  .cons (ix_s_goto dX11_full_72 (by decide)) <|
  .cons (ix_s_iconst dX11_full_75 (by decide +kernel)) <|
  .cons (ix_s_istore dX11_full_76 (by decide)) <|
  .cons (ix_s_aload_n dX11_full_78 rfl) <|
  .cons (ix_s_getr (j := 2) tu_X11 rfl (by decide) (by decide) tw_877 rfl ts_10_2_r dX11_full_79) <|
  .cons (ix_s_aload_n dX11_full_82 rfl) <|
  .cons (ix_s_getr (j := 0) tu_X11 rfl (by decide) (by decide) tw_875 rfl ts_10_0_r dX11_full_83) <|
  .cons (oc_X11_copy_s (ix_s_calls (k_X11_copy l) (by decide) (by decide) tw_1221 tw_12 tw_1219 tw_1220 ⟨by decide, by decide, by decide +kernel⟩ (fun _ => rfl) dX11_full_86)) <|
  .cons (ix_s_iload dX11_full_89) <|
  .cons (ix_s_if_eq dX11_full_91 (by decide)) <|
  .cons (ix_s_iload_n dX11_full_94 rfl) <|
  .cons (ix_s_goto dX11_full_95 (by decide)) <|
  .cons (ix_s_aload_n dX11_full_98 rfl) <|
  .cons (ix_s_ldcw tw_1238 dX11_full_99) <|
  .cons (oc_X11_finding_s (ix_s_callv (t := 10) (k_X11_finding l) (by decide) (by decide) tw_965 tw_12 tw_962 tw_964 tp_18 ⟨by decide, by decide, by decide +kernel⟩ (by decide) rfl rfl (fun _ => ⟨_, _, rfl, rfl⟩) dX11_full_102)) <|
  .cons (ix_s_iret dX11_full_105 rfl) <| .nil
theorem e_X11_full_0 (Q : ix_R → Prop) (ls : ix_L) (st : List ix_V) (μ : ix_M) : ix_Ev o_X11_full Q (0, ls, st, μ) = ix_aload 0 1 (ix_Ev o_X11_full Q) Q ls st μ := ix_Ev.eq (a_X11_full launch0) rfl ls st μ
theorem e_X11_full_1 (Q : ix_R → Prop) (ls : ix_L) (st : List ix_V) (μ : ix_M) : ix_Ev o_X11_full Q (1, ls, st, μ) = ix_iload 1 2 (ix_Ev o_X11_full Q) Q ls st μ := ix_Ev.eq (a_X11_full launch0) rfl ls st μ
theorem e_X11_full_2 (Q : ix_R → Prop) (ls : ix_L) (st : List ix_V) (μ : ix_M) : ix_Ev o_X11_full Q (2, ls, st, μ) = oc_X11_isBoat 5 (ix_Ev o_X11_full Q) Q ls st μ := ix_Ev.eq (a_X11_full launch0) rfl ls st μ
theorem e_X11_full_5 (Q : ix_R → Prop) (ls : ix_L) (st : List ix_V) (μ : ix_M) : ix_Ev o_X11_full Q (5, ls, st, μ) = ix_if (fun x => x = 0) 15 8 (ix_Ev o_X11_full Q) Q ls st μ := ix_Ev.eq (a_X11_full launch0) rfl ls st μ
theorem e_X11_full_8 (Q : ix_R → Prop) (ls : ix_L) (st : List ix_V) (μ : ix_M) : ix_Ev o_X11_full Q (8, ls, st, μ) = ix_iload 2 9 (ix_Ev o_X11_full Q) Q ls st μ := ix_Ev.eq (a_X11_full launch0) rfl ls st μ
theorem e_X11_full_9 (Q : ix_R → Prop) (ls : ix_L) (st : List ix_V) (μ : ix_M) : ix_Ev o_X11_full Q (9, ls, st, μ) = oc_X11_isMost 12 (ix_Ev o_X11_full Q) Q ls st μ := ix_Ev.eq (a_X11_full launch0) rfl ls st μ
theorem e_X11_full_12 (Q : ix_R → Prop) (ls : ix_L) (st : List ix_V) (μ : ix_M) : ix_Ev o_X11_full Q (12, ls, st, μ) = ix_if (fun x => x = 0) 15 22 (ix_Ev o_X11_full Q) Q ls st μ := ix_Ev.eq (a_X11_full launch0) rfl ls st μ
theorem e_X11_full_15 (Q : ix_R → Prop) (ls : ix_L) (st : List ix_V) (μ : ix_M) : ix_Ev o_X11_full Q (15, ls, st, μ) = ix_aload 0 16 (ix_Ev o_X11_full Q) Q ls st μ := ix_Ev.eq (a_X11_full launch0) rfl ls st μ
theorem e_X11_full_16 (Q : ix_R → Prop) (ls : ix_L) (st : List ix_V) (μ : ix_M) : ix_Ev o_X11_full Q (16, ls, st, μ) = ix_push (vi (-1000000001)) 18 (ix_Ev o_X11_full Q) Q ls st μ := ix_Ev.eq (a_X11_full launch0) rfl ls st μ
theorem e_X11_full_18 (Q : ix_R → Prop) (ls : ix_L) (st : List ix_V) (μ : ix_M) : ix_Ev o_X11_full Q (18, ls, st, μ) = oc_X11_finding 21 (ix_Ev o_X11_full Q) Q ls st μ := ix_Ev.eq (a_X11_full launch0) rfl ls st μ
theorem e_X11_full_21 (Q : ix_R → Prop) (ls : ix_L) (st : List ix_V) (μ : ix_M) : ix_Ev o_X11_full Q (21, ls, st, μ) = ix_iret (ix_Ev o_X11_full Q) Q ls st μ := ix_Ev.eq (a_X11_full launch0) rfl ls st μ
theorem e_X11_full_22 (Q : ix_R → Prop) (ls : ix_L) (st : List ix_V) (μ : ix_M) : ix_Ev o_X11_full Q (22, ls, st, μ) = ix_aload 0 23 (ix_Ev o_X11_full Q) Q ls st μ := ix_Ev.eq (a_X11_full launch0) rfl ls st μ
theorem e_X11_full_23 (Q : ix_R → Prop) (ls : ix_L) (st : List ix_V) (μ : ix_M) : ix_Ev o_X11_full Q (23, ls, st, μ) = ix_getr 10 20 (fun _ => 113) 26 (ix_Ev o_X11_full Q) Q ls st μ := ix_Ev.eq (a_X11_full launch0) rfl ls st μ
theorem e_X11_full_26 (Q : ix_R → Prop) (ls : ix_L) (st : List ix_V) (μ : ix_M) : ix_Ev o_X11_full Q (26, ls, st, μ) = ix_aload 0 27 (ix_Ev o_X11_full Q) Q ls st μ := ix_Ev.eq (a_X11_full launch0) rfl ls st μ
theorem e_X11_full_27 (Q : ix_R → Prop) (ls : ix_L) (st : List ix_V) (μ : ix_M) : ix_Ev o_X11_full Q (27, ls, st, μ) = ix_getr 10 20 (fun _ => 115) 30 (ix_Ev o_X11_full Q) Q ls st μ := ix_Ev.eq (a_X11_full launch0) rfl ls st μ
theorem e_X11_full_30 (Q : ix_R → Prop) (ls : ix_L) (st : List ix_V) (μ : ix_M) : ix_Ev o_X11_full Q (30, ls, st, μ) = oc_X11_copy 33 (ix_Ev o_X11_full Q) Q ls st μ := ix_Ev.eq (a_X11_full launch0) rfl ls st μ
theorem e_X11_full_33 (Q : ix_R → Prop) (ls : ix_L) (st : List ix_V) (μ : ix_M) : ix_Ev o_X11_full Q (33, ls, st, μ) = ix_push (vi 0) 34 (ix_Ev o_X11_full Q) Q ls st μ := ix_Ev.eq (a_X11_full launch0) rfl ls st μ
theorem e_X11_full_34 (Q : ix_R → Prop) (ls : ix_L) (st : List ix_V) (μ : ix_M) : ix_Ev o_X11_full Q (34, ls, st, μ) = ix_istore 3 35 (ix_Ev o_X11_full Q) Q ls st μ := ix_Ev.eq (a_X11_full launch0) rfl ls st μ
theorem e_X11_full_35 (Q : ix_R → Prop) (ls : ix_L) (st : List ix_V) (μ : ix_M) : ix_Ev o_X11_full Q (35, ls, st, μ) = ix_iload 3 36 (ix_Ev o_X11_full Q) Q ls st μ := ix_Ev.eq (a_X11_full launch0) rfl ls st μ
theorem e_X11_full_36 (Q : ix_R → Prop) (ls : ix_L) (st : List ix_V) (μ : ix_M) : ix_Ev o_X11_full Q (36, ls, st, μ) = ix_push (vi 60) 38 (ix_Ev o_X11_full Q) Q ls st μ := ix_Ev.eq (a_X11_full launch0) rfl ls st μ
theorem e_X11_full_38 (Q : ix_R → Prop) (ls : ix_L) (st : List ix_V) (μ : ix_M) : ix_Ev o_X11_full Q (38, ls, st, μ) = ix_cmp (fun x y => y ≤ x) 61 41 (ix_Ev o_X11_full Q) Q ls st μ := ix_Ev.eq (a_X11_full launch0) rfl ls st μ
theorem e_X11_full_41 (Q : ix_R → Prop) (ls : ix_L) (st : List ix_V) (μ : ix_M) : ix_Ev o_X11_full Q (41, ls, st, μ) = ix_aload 0 42 (ix_Ev o_X11_full Q) Q ls st μ := ix_Ev.eq (a_X11_full launch0) rfl ls st μ
theorem e_X11_full_42 (Q : ix_R → Prop) (ls : ix_L) (st : List ix_V) (μ : ix_M) : ix_Ev o_X11_full Q (42, ls, st, μ) = ix_iload 1 43 (ix_Ev o_X11_full Q) Q ls st μ := ix_Ev.eq (a_X11_full launch0) rfl ls st μ
theorem e_X11_full_43 (Q : ix_R → Prop) (ls : ix_L) (st : List ix_V) (μ : ix_M) : ix_Ev o_X11_full Q (43, ls, st, μ) = ix_push (vi 3) 44 (ix_Ev o_X11_full Q) Q ls st μ := ix_Ev.eq (a_X11_full launch0) rfl ls st μ
theorem e_X11_full_44 (Q : ix_R → Prop) (ls : ix_L) (st : List ix_V) (μ : ix_M) : ix_Ev o_X11_full Q (44, ls, st, μ) = oc_X11_boatIs 47 (ix_Ev o_X11_full Q) Q ls st μ := ix_Ev.eq (a_X11_full launch0) rfl ls st μ
theorem e_X11_full_47 (Q : ix_R → Prop) (ls : ix_L) (st : List ix_V) (μ : ix_M) : ix_Ev o_X11_full Q (47, ls, st, μ) = ix_iload 2 48 (ix_Ev o_X11_full Q) Q ls st μ := ix_Ev.eq (a_X11_full launch0) rfl ls st μ
theorem e_X11_full_48 (Q : ix_R → Prop) (ls : ix_L) (st : List ix_V) (μ : ix_M) : ix_Ev o_X11_full Q (48, ls, st, μ) = ix_cmp (fun x y => y ≤ x) 61 51 (ix_Ev o_X11_full Q) Q ls st μ := ix_Ev.eq (a_X11_full launch0) rfl ls st μ
theorem e_X11_full_51 (Q : ix_R → Prop) (ls : ix_L) (st : List ix_V) (μ : ix_M) : ix_Ev o_X11_full Q (51, ls, st, μ) = ix_aload 0 52 (ix_Ev o_X11_full Q) Q ls st μ := ix_Ev.eq (a_X11_full launch0) rfl ls st μ
theorem e_X11_full_52 (Q : ix_R → Prop) (ls : ix_L) (st : List ix_V) (μ : ix_M) : ix_Ev o_X11_full Q (52, ls, st, μ) = oc_X11_minute 55 (ix_Ev o_X11_full Q) Q ls st μ := ix_Ev.eq (a_X11_full launch0) rfl ls st μ
theorem e_X11_full_55 (Q : ix_R → Prop) (ls : ix_L) (st : List ix_V) (μ : ix_M) : ix_Ev o_X11_full Q (55, ls, st, μ) = ix_iinc 3 1 58 (ix_Ev o_X11_full Q) Q ls st μ := ix_Ev.eq (a_X11_full launch0) rfl ls st μ
theorem e_X11_full_58 (Q : ix_R → Prop) (ls : ix_L) (st : List ix_V) (μ : ix_M) : ix_Ev o_X11_full Q (58, ls, st, μ) = ix_goto 35 (ix_Ev o_X11_full Q) Q ls st μ := ix_Ev.eq (a_X11_full launch0) rfl ls st μ
theorem e_X11_full_61 (Q : ix_R → Prop) (ls : ix_L) (st : List ix_V) (μ : ix_M) : ix_Ev o_X11_full Q (61, ls, st, μ) = ix_aload 0 62 (ix_Ev o_X11_full Q) Q ls st μ := ix_Ev.eq (a_X11_full launch0) rfl ls st μ
theorem e_X11_full_62 (Q : ix_R → Prop) (ls : ix_L) (st : List ix_V) (μ : ix_M) : ix_Ev o_X11_full Q (62, ls, st, μ) = ix_iload 1 63 (ix_Ev o_X11_full Q) Q ls st μ := ix_Ev.eq (a_X11_full launch0) rfl ls st μ
theorem e_X11_full_63 (Q : ix_R → Prop) (ls : ix_L) (st : List ix_V) (μ : ix_M) : ix_Ev o_X11_full Q (63, ls, st, μ) = ix_push (vi 3) 64 (ix_Ev o_X11_full Q) Q ls st μ := ix_Ev.eq (a_X11_full launch0) rfl ls st μ
theorem e_X11_full_64 (Q : ix_R → Prop) (ls : ix_L) (st : List ix_V) (μ : ix_M) : ix_Ev o_X11_full Q (64, ls, st, μ) = oc_X11_boatIs 67 (ix_Ev o_X11_full Q) Q ls st μ := ix_Ev.eq (a_X11_full launch0) rfl ls st μ
theorem e_X11_full_67 (Q : ix_R → Prop) (ls : ix_L) (st : List ix_V) (μ : ix_M) : ix_Ev o_X11_full Q (67, ls, st, μ) = ix_iload 2 68 (ix_Ev o_X11_full Q) Q ls st μ := ix_Ev.eq (a_X11_full launch0) rfl ls st μ
theorem e_X11_full_68 (Q : ix_R → Prop) (ls : ix_L) (st : List ix_V) (μ : ix_M) : ix_Ev o_X11_full Q (68, ls, st, μ) = ix_cmp (fun x y => x < y) 75 71 (ix_Ev o_X11_full Q) Q ls st μ := ix_Ev.eq (a_X11_full launch0) rfl ls st μ
theorem e_X11_full_71 (Q : ix_R → Prop) (ls : ix_L) (st : List ix_V) (μ : ix_M) : ix_Ev o_X11_full Q (71, ls, st, μ) = ix_push (vi 1) 72 (ix_Ev o_X11_full Q) Q ls st μ := ix_Ev.eq (a_X11_full launch0) rfl ls st μ
theorem e_X11_full_72 (Q : ix_R → Prop) (ls : ix_L) (st : List ix_V) (μ : ix_M) : ix_Ev o_X11_full Q (72, ls, st, μ) = ix_goto 76 (ix_Ev o_X11_full Q) Q ls st μ := ix_Ev.eq (a_X11_full launch0) rfl ls st μ
theorem e_X11_full_75 (Q : ix_R → Prop) (ls : ix_L) (st : List ix_V) (μ : ix_M) : ix_Ev o_X11_full Q (75, ls, st, μ) = ix_push (vi 0) 76 (ix_Ev o_X11_full Q) Q ls st μ := ix_Ev.eq (a_X11_full launch0) rfl ls st μ
theorem e_X11_full_76 (Q : ix_R → Prop) (ls : ix_L) (st : List ix_V) (μ : ix_M) : ix_Ev o_X11_full Q (76, ls, st, μ) = ix_istore 4 78 (ix_Ev o_X11_full Q) Q ls st μ := ix_Ev.eq (a_X11_full launch0) rfl ls st μ
theorem e_X11_full_78 (Q : ix_R → Prop) (ls : ix_L) (st : List ix_V) (μ : ix_M) : ix_Ev o_X11_full Q (78, ls, st, μ) = ix_aload 0 79 (ix_Ev o_X11_full Q) Q ls st μ := ix_Ev.eq (a_X11_full launch0) rfl ls st μ
theorem e_X11_full_79 (Q : ix_R → Prop) (ls : ix_L) (st : List ix_V) (μ : ix_M) : ix_Ev o_X11_full Q (79, ls, st, μ) = ix_getr 10 20 (fun _ => 115) 82 (ix_Ev o_X11_full Q) Q ls st μ := ix_Ev.eq (a_X11_full launch0) rfl ls st μ
theorem e_X11_full_82 (Q : ix_R → Prop) (ls : ix_L) (st : List ix_V) (μ : ix_M) : ix_Ev o_X11_full Q (82, ls, st, μ) = ix_aload 0 83 (ix_Ev o_X11_full Q) Q ls st μ := ix_Ev.eq (a_X11_full launch0) rfl ls st μ
theorem e_X11_full_83 (Q : ix_R → Prop) (ls : ix_L) (st : List ix_V) (μ : ix_M) : ix_Ev o_X11_full Q (83, ls, st, μ) = ix_getr 10 20 (fun _ => 113) 86 (ix_Ev o_X11_full Q) Q ls st μ := ix_Ev.eq (a_X11_full launch0) rfl ls st μ
theorem e_X11_full_86 (Q : ix_R → Prop) (ls : ix_L) (st : List ix_V) (μ : ix_M) : ix_Ev o_X11_full Q (86, ls, st, μ) = oc_X11_copy 89 (ix_Ev o_X11_full Q) Q ls st μ := ix_Ev.eq (a_X11_full launch0) rfl ls st μ
theorem e_X11_full_89 (Q : ix_R → Prop) (ls : ix_L) (st : List ix_V) (μ : ix_M) : ix_Ev o_X11_full Q (89, ls, st, μ) = ix_iload 4 91 (ix_Ev o_X11_full Q) Q ls st μ := ix_Ev.eq (a_X11_full launch0) rfl ls st μ
theorem e_X11_full_91 (Q : ix_R → Prop) (ls : ix_L) (st : List ix_V) (μ : ix_M) : ix_Ev o_X11_full Q (91, ls, st, μ) = ix_if (fun x => x = 0) 98 94 (ix_Ev o_X11_full Q) Q ls st μ := ix_Ev.eq (a_X11_full launch0) rfl ls st μ
theorem e_X11_full_94 (Q : ix_R → Prop) (ls : ix_L) (st : List ix_V) (μ : ix_M) : ix_Ev o_X11_full Q (94, ls, st, μ) = ix_iload 3 95 (ix_Ev o_X11_full Q) Q ls st μ := ix_Ev.eq (a_X11_full launch0) rfl ls st μ
theorem e_X11_full_95 (Q : ix_R → Prop) (ls : ix_L) (st : List ix_V) (μ : ix_M) : ix_Ev o_X11_full Q (95, ls, st, μ) = ix_goto 105 (ix_Ev o_X11_full Q) Q ls st μ := ix_Ev.eq (a_X11_full launch0) rfl ls st μ
theorem e_X11_full_98 (Q : ix_R → Prop) (ls : ix_L) (st : List ix_V) (μ : ix_M) : ix_Ev o_X11_full Q (98, ls, st, μ) = ix_aload 0 99 (ix_Ev o_X11_full Q) Q ls st μ := ix_Ev.eq (a_X11_full launch0) rfl ls st μ
theorem e_X11_full_99 (Q : ix_R → Prop) (ls : ix_L) (st : List ix_V) (μ : ix_M) : ix_Ev o_X11_full Q (99, ls, st, μ) = ix_push (vi (-1000000002)) 102 (ix_Ev o_X11_full Q) Q ls st μ := ix_Ev.eq (a_X11_full launch0) rfl ls st μ
theorem e_X11_full_102 (Q : ix_R → Prop) (ls : ix_L) (st : List ix_V) (μ : ix_M) : ix_Ev o_X11_full Q (102, ls, st, μ) = oc_X11_finding 105 (ix_Ev o_X11_full Q) Q ls st μ := ix_Ev.eq (a_X11_full launch0) rfl ls st μ
theorem e_X11_full_105 (Q : ix_R → Prop) (ls : ix_L) (st : List ix_V) (μ : ix_M) : ix_Ev o_X11_full Q (105, ls, st, μ) = ix_iret (ix_Ev o_X11_full Q) Q ls st μ := ix_Ev.eq (a_X11_full launch0) rfl ls st μ
theorem l_X10_full {B M : Nat} {v : Int32} {ds dl : List Int32} {v0 : WV} {μ0 : ix_M} {Q : ix_R → Prop} (hB : B < 8) (hR : WR v0 M) (hM : M ≤ 9999) (h1 : ∀ m, m ≤ 60 → ¬ pIt ds dl m v0 7 B < v → (∀ j, j < m → pIt ds dl j v0 7 B < v) → ∀ μ', Fx wT μ0 μ' → Q (some (vi (nI m)), μ')) (h2 : (∀ j, j ≤ 60 → pIt ds dl j v0 7 B < v) → ∀ μ', Fx wT μ0 μ' → Q (some (vi (-1000000002)), ix_up μ' 111 2 (μ' 111 2 + 1))) : ∀ (k n : Nat) (μ : ix_M), n + k = 61 → Fx wT μ0 μ → LW μ ds dl → wv μ 48 = pIt ds dl n v0 → (∀ j, j < n → pIt ds dl j v0 7 B < v) → ix_Ev o_X10_full Q (31, [some (vr 9 0), some (vi (nI B)), some (vi v), some (vr 8 48), some (vi (nI n))], [], μ) := by
  have Bc : (nI B).toNatClampNeg = B := nI_clamp (by omega)
  have v3 : vp_in (nI B) (ix_len 55) := vp_in_nI (show B < 8 by omega) (by decide)
  intro k
  induction k with
  | zero =>
    intro n μ hn hF hL hV hj
    have hn : n = 61 := hn
    subst hn
    have c1 : 60 < nI 61 := by decide
    rw [e_X10_full_31]
    simp (decide := true) only [e_X10_full_0, e_X10_full_1, e_X10_full_2, e_X10_full_5, e_X10_full_8, e_X10_full_9, e_X10_full_11, e_X10_full_14, e_X10_full_17, e_X10_full_18, e_X10_full_19, e_X10_full_22, e_X10_full_23, e_X10_full_24, e_X10_full_27, e_X10_full_28, e_X10_full_29, e_X10_full_33, e_X10_full_35, e_X10_full_38, e_X10_full_39, e_X10_full_42, e_X10_full_43, e_X10_full_44, e_X10_full_45, e_X10_full_48, e_X10_full_50, e_X10_full_51, e_X10_full_52, e_X10_full_53, e_X10_full_56, e_X10_full_59, e_X10_full_60, e_X10_full_61, e_X10_full_64, e_X10_full_67, e_X10_full_70, e_X10_full_71, e_X10_full_72, e_X10_full_75, vi, vl, vr, oc_X10_error, T_X10_error, oc_X10_noBoat, T_X10_noBoat, oc_X10_outside, T_X10_outside, oc_X10_think, T_X10_think, oc_X9_pass, T_X9_pass, ix_push, ix_iload, ix_lload, ix_aload, ix_istore, ix_astore, ix_iinc, ix_bin, ix_div, ix_un, ix_i2l, ix_l2i, ix_lbin, ix_lsh, ix_lcmp, ix_dup, ix_dup2, ix_pop, ix_if, ix_cmp, ix_goto, ix_switch, ix_sw, ix_iret, ix_zret, ix_vret, ix_aret, ix_geti, ix_getr, ix_puti, ix_putz, ix_puts, ix_gets, ix_iald, ix_iast, ix_alen, ix_aald, ix_gval, ix_gcod, ix_bald, ix_blen, ix_sald, ix_nret, ix_math2, ix_math1, ix_acopy, Nat.add_assoc, Int32.reduceLT, Int32.reduceLE, Int32.reduceToNatClampNeg, Int32.reduceSub, Int32.reduceAdd, Nat.reduceAdd, Nat.reduceLeDiff, true_or, or_true, or_false, false_or, not_false_eq_true, not_true_eq_false, false_implies, true_implies, implies_true, and_self, mB_0, mB_01, Classical.not_not, Nat.zero_le, List.getElem?_cons_zero, List.getElem?_cons_succ, List.set_cons_zero, List.set_cons_succ, ix_nl, ix_cs, true_and, and_true, Option.toList_some, Option.toList_none, List.cons_append, List.nil_append, c1]
    exact h2 (fun j hj' => hj j (by omega)) μ hF
  | succ k ih =>
    intro n μ hn hF hL hV hj
    have c1 : ¬ 60 < nI n := nI_nlt (a := 60) (b := n) (by omega) (by decide)
    have n1 : nI n + 1 = nI (n + 1) := nI_1 n
    have e55 : μ 55 B = pIt ds dl n v0 7 B := by rw [← hV, wv_at (wok_7 hB)]
    rw [e_X10_full_31]
    simp (decide := true) only [e_X10_full_0, e_X10_full_1, e_X10_full_2, e_X10_full_5, e_X10_full_8, e_X10_full_9, e_X10_full_11, e_X10_full_14, e_X10_full_17, e_X10_full_18, e_X10_full_19, e_X10_full_22, e_X10_full_23, e_X10_full_24, e_X10_full_27, e_X10_full_28, e_X10_full_29, e_X10_full_33, e_X10_full_35, e_X10_full_38, e_X10_full_39, e_X10_full_42, e_X10_full_43, e_X10_full_44, e_X10_full_45, e_X10_full_48, e_X10_full_50, e_X10_full_51, e_X10_full_52, e_X10_full_53, e_X10_full_56, e_X10_full_59, e_X10_full_60, e_X10_full_61, e_X10_full_64, e_X10_full_67, e_X10_full_70, e_X10_full_71, e_X10_full_72, e_X10_full_75, vi, vl, vr, oc_X10_error, T_X10_error, oc_X10_noBoat, T_X10_noBoat, oc_X10_outside, T_X10_outside, oc_X10_think, T_X10_think, oc_X9_pass, T_X9_pass, ix_push, ix_iload, ix_lload, ix_aload, ix_istore, ix_astore, ix_iinc, ix_bin, ix_div, ix_un, ix_i2l, ix_l2i, ix_lbin, ix_lsh, ix_lcmp, ix_dup, ix_dup2, ix_pop, ix_if, ix_cmp, ix_goto, ix_switch, ix_sw, ix_iret, ix_zret, ix_vret, ix_aret, ix_geti, ix_getr, ix_puti, ix_putz, ix_puts, ix_gets, ix_iald, ix_iast, ix_alen, ix_aald, ix_gval, ix_gcod, ix_bald, ix_blen, ix_sald, ix_nret, ix_math2, ix_math1, ix_acopy, Nat.add_assoc, Int32.reduceLT, Int32.reduceLE, Int32.reduceToNatClampNeg, Int32.reduceSub, Int32.reduceAdd, Nat.reduceAdd, Nat.reduceLeDiff, true_or, or_true, or_false, false_or, not_false_eq_true, not_true_eq_false, false_implies, true_implies, implies_true, and_self, mB_0, mB_01, Classical.not_not, Nat.zero_le, List.getElem?_cons_zero, List.getElem?_cons_succ, List.set_cons_zero, List.set_cons_succ, ix_nl, ix_cs, true_and, and_true, Option.toList_some, Option.toList_none, List.cons_append, List.nil_append, c1, n1, Bc, v3, e55]
    refine ⟨fun z => ⟨?_, ds, dl, hL.1, hL.2, fun μ1 F1 V1 => ?_⟩, fun z => h1 n (by omega) z hj μ hF⟩
    · rw [hV]
      exact (wr_it hR ds dl n).1.ok (by omega)
    · refine ih (n + 1) μ1 (by omega) (hF.tr (F1.mono (by decide))) (hL.fx F1 (by decide)) (by rw [V1, hV]; rfl) (fun j hj' => ?_)
      by_cases c : j = n
      · rw [c]
        exact z
      · exact hj j (by omega)
theorem l_X11_full {B M m : Nat} {v : Int32} {ds dl : List Int32} {v0 : WV} {μ0 : ix_M} {Q : ix_R → Prop} {x4 : Option ix_V} (hB : B < 8) (hR : WR v0 M) (hM : M ≤ 9999) (hl : μ0 112 5 = -1) (hm : m ≤ 60) (hs : m = 60 ∨ ¬ pIt ds dl m v0 7 B < v) (hj : ∀ j, j < m → pIt ds dl j v0 7 B < v) (hQ : ∀ μ', Fx [113, 119, 120] μ0 μ' → ∀ μ'', Fx [113] μ' μ'' → RE (μ'' 113) (μ0 115) → (pIt ds dl m v0 7 B < v → Q (some (vi (-1000000002)), ix_up μ'' 116 2 (μ'' 116 2 + 1))) ∧ (¬ pIt ds dl m v0 7 B < v → Q (some (vi (nI m)), μ''))) : ∀ (k n : Nat) (μ : ix_M), n + k = m → Fx [113, 119, 120] μ0 μ → TxtM (μ 113) 152 ds → TxtM (μ 113) 204 dl → nv (μ 113) = pIt ds dl n v0 → ix_Ev o_X11_full Q (35, [some (vr 10 112), some (vi (nI B)), some (vi v), some (vi (nI n)), x4], [], μ) := by
  have hx := bx B hB
  have s9 : vp_in 2 6 := ve_2
  intro k
  induction k with
  | zero =>
    intro n μ hn hF t1 t2 hV
    have hn : n = m := hn
    subst hn
    have e53 : μ 113 (53 + 4 * B) = pIt ds dl n v0 7 B := by rw [← hV, nv_7 (μ 113) hB]
    rw [e_X11_full_35]
    simp (decide := true) only [e_X11_full_0, e_X11_full_1, e_X11_full_2, e_X11_full_5, e_X11_full_8, e_X11_full_9, e_X11_full_12, e_X11_full_15, e_X11_full_16, e_X11_full_18, e_X11_full_21, e_X11_full_22, e_X11_full_23, e_X11_full_26, e_X11_full_27, e_X11_full_30, e_X11_full_33, e_X11_full_34, e_X11_full_36, e_X11_full_38, e_X11_full_41, e_X11_full_42, e_X11_full_43, e_X11_full_44, e_X11_full_47, e_X11_full_48, e_X11_full_51, e_X11_full_52, e_X11_full_55, e_X11_full_58, e_X11_full_61, e_X11_full_62, e_X11_full_63, e_X11_full_64, e_X11_full_67, e_X11_full_68, e_X11_full_71, e_X11_full_72, e_X11_full_75, e_X11_full_76, e_X11_full_78, e_X11_full_79, e_X11_full_82, e_X11_full_83, e_X11_full_86, e_X11_full_89, e_X11_full_91, e_X11_full_94, e_X11_full_95, e_X11_full_98, e_X11_full_99, e_X11_full_102, e_X11_full_105, vi, vl, vr, oc_X11_boatIs, T_X11_boatIs, oc_X11_copy, T_X11_copy, oc_X11_finding, T_X11_finding, oc_X11_isBoat, T_X11_isBoat, oc_X11_isMost, T_X11_isMost, oc_X11_minute, T_X11_minute, ix_push, ix_iload, ix_lload, ix_aload, ix_istore, ix_astore, ix_iinc, ix_bin, ix_div, ix_un, ix_i2l, ix_l2i, ix_lbin, ix_lsh, ix_lcmp, ix_dup, ix_dup2, ix_pop, ix_if, ix_cmp, ix_goto, ix_switch, ix_sw, ix_iret, ix_zret, ix_vret, ix_aret, ix_geti, ix_getr, ix_puti, ix_putz, ix_puts, ix_gets, ix_iald, ix_iast, ix_alen, ix_aald, ix_gval, ix_gcod, ix_bald, ix_blen, ix_sald, ix_nret, ix_math2, ix_math1, ix_acopy, ml_113, ml_114, ml_115, ml_116, ml_118, ml_119, ml_120, ml_121, ml_122, ml_123, ml_124, ml_125, ml_126, mv_0, mv_1, mv_2, mv_3, mv_4, mv_5, mB_or, Nat.add_assoc, Int32.reduceLT, Int32.reduceLE, Int32.reduceToNatClampNeg, Int32.reduceSub, Int32.reduceAdd, Nat.reduceAdd, Nat.reduceLeDiff, true_or, or_true, or_false, false_or, not_false_eq_true, not_true_eq_false, false_implies, true_implies, implies_true, and_self, mB_0, mB_01, Classical.not_not, Nat.zero_le, List.getElem?_cons_zero, List.getElem?_cons_succ, List.set_cons_zero, List.set_cons_succ, ix_nl, ix_cs, true_and, and_true, Option.toList_some, Option.toList_none, List.cons_append, List.nil_append, hx, e53, s9]
    have fin : (pIt ds dl n v0 7 B < v → ∀ μ' : ix_M, Fx [113] μ μ' → (∀ k, k < 256 → μ' 113 k = μ 115 k) → Q (some (Sum.inl (-1000000002)), ix_up μ' 116 2 (μ' 116 2 + 1))) ∧ (¬ pIt ds dl n v0 7 B < v → ∀ μ' : ix_M, Fx [113] μ μ' → (∀ k, k < 256 → μ' 113 k = μ 115 k) → Q (some (Sum.inl (nI n)), μ')) := by
      have key : ∀ μ' : ix_M, Fx [113] μ μ' → (∀ k, k < 256 → μ' 113 k = μ 115 k) → RE (μ' 113) (μ0 115) := fun μ' _ h k hk => by rw [h k hk, hF 115 (by decide)]
      exact ⟨fun z μ' F R => (hQ μ hF μ' F (key μ' F R)).1 z, fun z μ' F R => (hQ μ hF μ' F (key μ' F R)).2 z⟩
    refine ⟨fun _ => fin, fun z => ⟨fun _ => fin, fun z2 => ?_⟩⟩
    rcases hs with rfl | hs
    · exact absurd (by decide) z
    · exact absurd (Int32.not_lt.mp hs) z2
  | succ k ih =>
    intro n μ hn hF t1 t2 hV
    have c1 : ¬ 60 ≤ nI n := nI_ge (a := n) (b := 60) (by omega) (by decide)
    have n1 : nI n + 1 = nI (n + 1) := nI_1 n
    have e53 : μ 113 (53 + 4 * B) = pIt ds dl n v0 7 B := by rw [← hV, nv_7 (μ 113) hB]
    have c2 := hj n (by omega)
    have c3 : ¬ v ≤ pIt ds dl n v0 7 B := Int32.not_le.mpr c2
    rw [e_X11_full_35]
    simp (decide := true) only [e_X11_full_0, e_X11_full_1, e_X11_full_2, e_X11_full_5, e_X11_full_8, e_X11_full_9, e_X11_full_12, e_X11_full_15, e_X11_full_16, e_X11_full_18, e_X11_full_21, e_X11_full_22, e_X11_full_23, e_X11_full_26, e_X11_full_27, e_X11_full_30, e_X11_full_33, e_X11_full_34, e_X11_full_36, e_X11_full_38, e_X11_full_41, e_X11_full_42, e_X11_full_43, e_X11_full_44, e_X11_full_47, e_X11_full_48, e_X11_full_51, e_X11_full_52, e_X11_full_55, e_X11_full_58, e_X11_full_61, e_X11_full_62, e_X11_full_63, e_X11_full_64, e_X11_full_67, e_X11_full_68, e_X11_full_71, e_X11_full_72, e_X11_full_75, e_X11_full_76, e_X11_full_78, e_X11_full_79, e_X11_full_82, e_X11_full_83, e_X11_full_86, e_X11_full_89, e_X11_full_91, e_X11_full_94, e_X11_full_95, e_X11_full_98, e_X11_full_99, e_X11_full_102, e_X11_full_105, vi, vl, vr, oc_X11_boatIs, T_X11_boatIs, oc_X11_copy, T_X11_copy, oc_X11_finding, T_X11_finding, oc_X11_isBoat, T_X11_isBoat, oc_X11_isMost, T_X11_isMost, oc_X11_minute, T_X11_minute, ix_push, ix_iload, ix_lload, ix_aload, ix_istore, ix_astore, ix_iinc, ix_bin, ix_div, ix_un, ix_i2l, ix_l2i, ix_lbin, ix_lsh, ix_lcmp, ix_dup, ix_dup2, ix_pop, ix_if, ix_cmp, ix_goto, ix_switch, ix_sw, ix_iret, ix_zret, ix_vret, ix_aret, ix_geti, ix_getr, ix_puti, ix_putz, ix_puts, ix_gets, ix_iald, ix_iast, ix_alen, ix_aald, ix_gval, ix_gcod, ix_bald, ix_blen, ix_sald, ix_nret, ix_math2, ix_math1, ix_acopy, ml_113, ml_114, ml_115, ml_116, ml_118, ml_119, ml_120, ml_121, ml_122, ml_123, ml_124, ml_125, ml_126, mv_0, mv_1, mv_2, mv_3, mv_4, mv_5, mB_or, Nat.add_assoc, Int32.reduceLT, Int32.reduceLE, Int32.reduceToNatClampNeg, Int32.reduceSub, Int32.reduceAdd, Nat.reduceAdd, Nat.reduceLeDiff, true_or, or_true, or_false, false_or, not_false_eq_true, not_true_eq_false, false_implies, true_implies, implies_true, and_self, mB_0, mB_01, Classical.not_not, Nat.zero_le, List.getElem?_cons_zero, List.getElem?_cons_succ, List.set_cons_zero, List.set_cons_succ, ix_nl, ix_cs, true_and, and_true, Option.toList_some, Option.toList_none, List.cons_append, List.nil_append, hx, e53, c1, c2, c3, n1]
    have hI := wr_it hR ds dl n
    refine ⟨by rw [hV]; exact hI.1.ok (by omega), by rw [hV]; exact hI.2.1, ds, dl, t1, t2, fun μ1 F1 V1 R1 => ?_⟩
    refine ih (n + 1) μ1 (by omega) (hF.tr F1) (t1.fx (by decide) (fun j hj' => R1 j (by unfold rst; omega))) (t2.fx (by decide) (fun j hj' => R1 j (by unfold rst; omega))) ?_
    rw [V1, hF 112 (by decide), hl, pV_nob, hV]
    rfl
theorem pr_full (b : Int32) (v : Int32) (μ : ix_M) (I : Inv μ) (Q : ix_R → Prop) (hQ : ∀ vv μ', ix_Ev o_X11_full (Pst vv) (0, [some (vr 10 112), some (vi b), some (vi v), none, none], [], μ') → Q (some (vi vv), μ')) : ix_Ev o_X10_full Q (0, [some (vr 9 0), some (vi b), some (vi v), none, none], [], μ) := by
  obtain ⟨N, hN, n1, n2⟩ := I.n
  rcases inB b hN with ⟨B, hB, rfl, B1, B2, B3, B4⟩ | ⟨hx1, hx2⟩
  · have Bc : (nI B).toNatClampNeg = B := nI_clamp (by omega)
    rcases inR v 99 (by decide) with ⟨V, hV, rfl⟩ | ⟨hx1, hx2⟩
    · obtain ⟨V1, V2, V3, V4⟩ : ¬ nI V < 0 ∧ ¬ (99 : Int32) < nI V ∧ 0 ≤ nI V ∧ nI V ≤ (99 : Int32) := rgN hV (by decide)
      have Vc : (nI V).toNatClampNeg = V := nI_clamp (by omega)
      obtain ⟨M, hM, hR, m1, m2⟩ := I.mi
      obtain ⟨ds, dl, hL, x1, x2⟩ := I.tx
      simp (decide := true) only [e_X10_full_0, e_X10_full_1, e_X10_full_2, e_X10_full_5, e_X10_full_8, e_X10_full_9, e_X10_full_11, e_X10_full_14, e_X10_full_17, e_X10_full_18, e_X10_full_19, e_X10_full_22, e_X10_full_23, e_X10_full_24, e_X10_full_27, e_X10_full_28, e_X10_full_29, e_X10_full_33, e_X10_full_35, e_X10_full_38, e_X10_full_39, e_X10_full_42, e_X10_full_43, e_X10_full_44, e_X10_full_45, e_X10_full_48, e_X10_full_50, e_X10_full_51, e_X10_full_52, e_X10_full_53, e_X10_full_56, e_X10_full_59, e_X10_full_60, e_X10_full_61, e_X10_full_64, e_X10_full_67, e_X10_full_70, e_X10_full_71, e_X10_full_72, e_X10_full_75, vi, vl, vr, oc_X10_error, T_X10_error, oc_X10_noBoat, T_X10_noBoat, oc_X10_outside, T_X10_outside, oc_X10_think, T_X10_think, oc_X9_pass, T_X9_pass, ix_push, ix_iload, ix_lload, ix_aload, ix_istore, ix_astore, ix_iinc, ix_bin, ix_div, ix_un, ix_i2l, ix_l2i, ix_lbin, ix_lsh, ix_lcmp, ix_dup, ix_dup2, ix_pop, ix_if, ix_cmp, ix_goto, ix_switch, ix_sw, ix_iret, ix_zret, ix_vret, ix_aret, ix_geti, ix_getr, ix_puti, ix_putz, ix_puts, ix_gets, ix_iald, ix_iast, ix_alen, ix_aald, ix_gval, ix_gcod, ix_bald, ix_blen, ix_sald, ix_nret, ix_math2, ix_math1, ix_acopy, Nat.add_assoc, Int32.reduceLT, Int32.reduceLE, Int32.reduceToNatClampNeg, Int32.reduceSub, Int32.reduceAdd, Nat.reduceAdd, Nat.reduceLeDiff, true_or, or_true, or_false, false_or, not_false_eq_true, not_true_eq_false, false_implies, true_implies, implies_true, and_self, mB_0, mB_01, Classical.not_not, Nat.zero_le, List.getElem?_cons_zero, List.getElem?_cons_succ, List.set_cons_zero, List.set_cons_succ, ix_nl, ix_cs, true_and, and_true, Option.toList_some, Option.toList_none, List.cons_append, List.nil_append, n1, n2, B1, B2, B3, B4, Bc, V1, V2, V3, V4, Vc, ix_up_ne, ix_up_k, ve_1, ve_2, ve_3, ve_4, ve_5]
      intro μ1 F1 V1
      have I1 := I.scr F1 (by decide)
      have mdl : ∀ (μ2 : ix_M) (m : Nat) (w : Int32), Fx wT μ1 μ2 → m ≤ 60 → (m = 60 ∨ ¬ pIt ds dl m (nv (μ 113)) 7 B < nI V) → (∀ j, j < m → pIt ds dl j (nv (μ 113)) 7 B < nI V) → ∀ μq : ix_M, (μq = μ2 ∧ ¬ pIt ds dl m (nv (μ 113)) 7 B < nI V ∧ w = nI m) ∨ (μq = ix_up μ2 111 2 (μ2 111 2 + 1) ∧ pIt ds dl m (nv (μ 113)) 7 B < nI V ∧ w = -1000000002) → ix_Ev o_X11_full (Pst w) (0, [some (vr 10 112), some (vi (nI B)), some (vi (nI V)), none, none], [], μq) := by
        intro μ2 m w F2 hm hs hj μq hq
        have I2 := I1.scr F2 (by decide)
        have eq : ∀ a, a ≠ 111 → μq a = μ2 a := by
          rcases hq with ⟨rfl, -⟩ | ⟨rfl, -⟩
          · exact fun a _ => rfl
          · exact fun a ha => ix_up_ne ha
        have e : μ2 113 = μ 113 := by rw [F2 113 (by decide), F1 113 (by decide)]
        have n3 : μq 113 1 = nI N := by rw [eq 113 (by decide), e]; exact n2
        simp (decide := true) only [e_X11_full_0, e_X11_full_1, e_X11_full_2, e_X11_full_5, e_X11_full_8, e_X11_full_9, e_X11_full_12, e_X11_full_15, e_X11_full_16, e_X11_full_18, e_X11_full_21, e_X11_full_22, e_X11_full_23, e_X11_full_26, e_X11_full_27, e_X11_full_30, e_X11_full_33, e_X11_full_34, e_X11_full_36, e_X11_full_38, e_X11_full_41, e_X11_full_42, e_X11_full_43, e_X11_full_44, e_X11_full_47, e_X11_full_48, e_X11_full_51, e_X11_full_52, e_X11_full_55, e_X11_full_58, e_X11_full_61, e_X11_full_62, e_X11_full_63, e_X11_full_64, e_X11_full_67, e_X11_full_68, e_X11_full_71, e_X11_full_72, e_X11_full_75, e_X11_full_76, e_X11_full_78, e_X11_full_79, e_X11_full_82, e_X11_full_83, e_X11_full_86, e_X11_full_89, e_X11_full_91, e_X11_full_94, e_X11_full_95, e_X11_full_98, e_X11_full_99, e_X11_full_102, e_X11_full_105, vi, vl, vr, oc_X11_boatIs, T_X11_boatIs, oc_X11_copy, T_X11_copy, oc_X11_finding, T_X11_finding, oc_X11_isBoat, T_X11_isBoat, oc_X11_isMost, T_X11_isMost, oc_X11_minute, T_X11_minute, ix_push, ix_iload, ix_lload, ix_aload, ix_istore, ix_astore, ix_iinc, ix_bin, ix_div, ix_un, ix_i2l, ix_l2i, ix_lbin, ix_lsh, ix_lcmp, ix_dup, ix_dup2, ix_pop, ix_if, ix_cmp, ix_goto, ix_switch, ix_sw, ix_iret, ix_zret, ix_vret, ix_aret, ix_geti, ix_getr, ix_puti, ix_putz, ix_puts, ix_gets, ix_iald, ix_iast, ix_alen, ix_aald, ix_gval, ix_gcod, ix_bald, ix_blen, ix_sald, ix_nret, ix_math2, ix_math1, ix_acopy, ml_113, ml_114, ml_115, ml_116, ml_118, ml_119, ml_120, ml_121, ml_122, ml_123, ml_124, ml_125, ml_126, mv_0, mv_1, mv_2, mv_3, mv_4, mv_5, mB_or, Nat.add_assoc, Int32.reduceLT, Int32.reduceLE, Int32.reduceToNatClampNeg, Int32.reduceSub, Int32.reduceAdd, Nat.reduceAdd, Nat.reduceLeDiff, true_or, or_true, or_false, false_or, not_false_eq_true, not_true_eq_false, false_implies, true_implies, implies_true, and_self, mB_0, mB_01, Classical.not_not, Nat.zero_le, List.getElem?_cons_zero, List.getElem?_cons_succ, List.set_cons_zero, List.set_cons_succ, ix_nl, ix_cs, true_and, and_true, Option.toList_some, Option.toList_none, List.cons_append, List.nil_append, B3, B4, V3, V4, n3, ix_up_ne, ix_up_k, ve_1, ve_2, ve_3, ve_4, ve_5]
        intro μ3 F3 R3
        have e3 : μ3 113 = μ 113 := by rw [F3 113 (by decide), eq 113 (by decide), e]
        refine l_X11_full (μ0 := μ3) (M := M) (v0 := nv (μ 113)) (by omega) hR hM ?_ hm hs hj (fun μ4 F4 μ5 F5 R5 => ?_) m 0 μ3 (by omega) Fx.rf (by rw [e3]; exact x1) (by rw [e3]; exact x2) (by rw [e3]; rfl)
        · rw [F3 112 (by decide), eq 112 (by decide)]
          exact I2.2.2.2.2.2.2.1
        · have Fq : Fx [113, 115, 119, 120] μq μ5 := Fx.tr (F3.mono (by decide)) (Fx.tr (F4.mono (by decide)) (F5.mono (by decide)))
          have Rq : ∀ k, k < 256 → μ5 113 k = μ2 113 k := fun k hk => by rw [R5 k hk, R3 k hk, eq 113 (by decide)]
          rcases hq with ⟨rfl, h1, rfl⟩ | ⟨rfl, h1, rfl⟩
          · exact ⟨fun z => absurd z h1, fun _ => pst rfl (I2.back Fq Rq)⟩
          · refine ⟨fun _ => pst rfl ?_, fun z => absurd h1 z⟩
            have I5 : Inv (fun a => if a = 111 then μ2 111 else μ5 a) := by
              refine I2.back (fun a ha => ?_) (fun k hk => ?_)
              · by_cases c : a = 111
                · simp only [c, if_true]
                · simp only [if_neg c]
                  rw [Fq a ha, ix_up_ne c]
              · show (if 113 = 111 then μ2 111 else μ5 113) k = _
                rw [if_neg (by decide)]
                exact Rq k hk
            have I6 := I5.err (k := 2) (by decide)
            refine Eq.mp (congrArg Inv ?_) I6
            have e111 : μ5 111 = upd (μ2 111) 2 (μ2 111 2 + 1) := by rw [Fq 111 (by decide), ix_up_row]
            funext a j
            by_cases c1 : a = 116
            · subst c1
              simp [ix_up_ap]
            · rw [ix_up_ne c1, ix_up_ne c1]
              by_cases c2 : a = 111
              · subst c2
                rw [e111, ix_up_ap]
                unfold upd
                simp
              · rw [ix_up_ne c2]
                simp [c2]
      refine l_X10_full (M := M) (v0 := nv (μ 113)) (μ0 := μ1) (ds := ds) (dl := dl) (by omega) hR hM (fun m hm h1 h2 μ2 F2 => hQ _ _ ?_) (fun h1 μ2 F2 => hQ _ _ ?_) 61 0 μ1 rfl Fx.rf (hL.fx F1 (by decide)) (by rw [V1, I.hw]; rfl) (fun j hj => absurd hj (Nat.not_lt_zero j))
      · exact mdl μ2 m _ F2 hm (Or.inr h1) h2 μ2 (Or.inl ⟨rfl, h1, rfl⟩)
      · exact mdl μ2 60 _ F2 (by decide) (Or.inl rfl) (fun j hj => h1 j (by omega)) _ (Or.inr ⟨rfl, h1 60 (by decide), rfl⟩)
    · have hx1 : v < 0 ∨ (99 : Int32) < v := hx1
      have hx2 : ¬ (0 ≤ v ∧ v ≤ (99 : Int32)) := hx2
      simp (decide := true) only [e_X10_full_0, e_X10_full_1, e_X10_full_2, e_X10_full_5, e_X10_full_8, e_X10_full_9, e_X10_full_11, e_X10_full_14, e_X10_full_17, e_X10_full_18, e_X10_full_19, e_X10_full_22, e_X10_full_23, e_X10_full_24, e_X10_full_27, e_X10_full_28, e_X10_full_29, e_X10_full_33, e_X10_full_35, e_X10_full_38, e_X10_full_39, e_X10_full_42, e_X10_full_43, e_X10_full_44, e_X10_full_45, e_X10_full_48, e_X10_full_50, e_X10_full_51, e_X10_full_52, e_X10_full_53, e_X10_full_56, e_X10_full_59, e_X10_full_60, e_X10_full_61, e_X10_full_64, e_X10_full_67, e_X10_full_70, e_X10_full_71, e_X10_full_72, e_X10_full_75, vi, vl, vr, oc_X10_error, T_X10_error, oc_X10_noBoat, T_X10_noBoat, oc_X10_outside, T_X10_outside, oc_X10_think, T_X10_think, oc_X9_pass, T_X9_pass, ix_push, ix_iload, ix_lload, ix_aload, ix_istore, ix_astore, ix_iinc, ix_bin, ix_div, ix_un, ix_i2l, ix_l2i, ix_lbin, ix_lsh, ix_lcmp, ix_dup, ix_dup2, ix_pop, ix_if, ix_cmp, ix_goto, ix_switch, ix_sw, ix_iret, ix_zret, ix_vret, ix_aret, ix_geti, ix_getr, ix_puti, ix_putz, ix_puts, ix_gets, ix_iald, ix_iast, ix_alen, ix_aald, ix_gval, ix_gcod, ix_bald, ix_blen, ix_sald, ix_nret, ix_math2, ix_math1, ix_acopy, Nat.add_assoc, Int32.reduceLT, Int32.reduceLE, Int32.reduceToNatClampNeg, Int32.reduceSub, Int32.reduceAdd, Nat.reduceAdd, Nat.reduceLeDiff, true_or, or_true, or_false, false_or, not_false_eq_true, not_true_eq_false, false_implies, true_implies, implies_true, and_self, mB_0, mB_01, Classical.not_not, Nat.zero_le, List.getElem?_cons_zero, List.getElem?_cons_succ, List.set_cons_zero, List.set_cons_succ, ix_nl, ix_cs, true_and, and_true, Option.toList_some, Option.toList_none, List.cons_append, List.nil_append, n1, n2, B1, B2, B3, B4, Bc, hx1, hx2, ix_up_ne, ix_up_k, ve_1, ve_2, ve_3, ve_4, ve_5]
      refine hQ _ _ ?_
      simp (decide := true) only [e_X11_full_0, e_X11_full_1, e_X11_full_2, e_X11_full_5, e_X11_full_8, e_X11_full_9, e_X11_full_12, e_X11_full_15, e_X11_full_16, e_X11_full_18, e_X11_full_21, e_X11_full_22, e_X11_full_23, e_X11_full_26, e_X11_full_27, e_X11_full_30, e_X11_full_33, e_X11_full_34, e_X11_full_36, e_X11_full_38, e_X11_full_41, e_X11_full_42, e_X11_full_43, e_X11_full_44, e_X11_full_47, e_X11_full_48, e_X11_full_51, e_X11_full_52, e_X11_full_55, e_X11_full_58, e_X11_full_61, e_X11_full_62, e_X11_full_63, e_X11_full_64, e_X11_full_67, e_X11_full_68, e_X11_full_71, e_X11_full_72, e_X11_full_75, e_X11_full_76, e_X11_full_78, e_X11_full_79, e_X11_full_82, e_X11_full_83, e_X11_full_86, e_X11_full_89, e_X11_full_91, e_X11_full_94, e_X11_full_95, e_X11_full_98, e_X11_full_99, e_X11_full_102, e_X11_full_105, vi, vl, vr, oc_X11_boatIs, T_X11_boatIs, oc_X11_copy, T_X11_copy, oc_X11_finding, T_X11_finding, oc_X11_isBoat, T_X11_isBoat, oc_X11_isMost, T_X11_isMost, oc_X11_minute, T_X11_minute, ix_push, ix_iload, ix_lload, ix_aload, ix_istore, ix_astore, ix_iinc, ix_bin, ix_div, ix_un, ix_i2l, ix_l2i, ix_lbin, ix_lsh, ix_lcmp, ix_dup, ix_dup2, ix_pop, ix_if, ix_cmp, ix_goto, ix_switch, ix_sw, ix_iret, ix_zret, ix_vret, ix_aret, ix_geti, ix_getr, ix_puti, ix_putz, ix_puts, ix_gets, ix_iald, ix_iast, ix_alen, ix_aald, ix_gval, ix_gcod, ix_bald, ix_blen, ix_sald, ix_nret, ix_math2, ix_math1, ix_acopy, ml_113, ml_114, ml_115, ml_116, ml_118, ml_119, ml_120, ml_121, ml_122, ml_123, ml_124, ml_125, ml_126, mv_0, mv_1, mv_2, mv_3, mv_4, mv_5, mB_or, Nat.add_assoc, Int32.reduceLT, Int32.reduceLE, Int32.reduceToNatClampNeg, Int32.reduceSub, Int32.reduceAdd, Nat.reduceAdd, Nat.reduceLeDiff, true_or, or_true, or_false, false_or, not_false_eq_true, not_true_eq_false, false_implies, true_implies, implies_true, and_self, mB_0, mB_01, Classical.not_not, Nat.zero_le, List.getElem?_cons_zero, List.getElem?_cons_succ, List.set_cons_zero, List.set_cons_succ, ix_nl, ix_cs, true_and, and_true, Option.toList_some, Option.toList_none, List.cons_append, List.nil_append, n1, n2, B1, B2, B3, B4, Bc, hx1, hx2, ix_up_ne, ix_up_k, ve_1, ve_2, ve_3, ve_4, ve_5]
      repeat' (first | exact I.er 1 (by decide) | refine ⟨fun _ => ?_, fun _ => ?_⟩)
  · simp (decide := true) only [e_X10_full_0, e_X10_full_1, e_X10_full_2, e_X10_full_5, e_X10_full_8, e_X10_full_9, e_X10_full_11, e_X10_full_14, e_X10_full_17, e_X10_full_18, e_X10_full_19, e_X10_full_22, e_X10_full_23, e_X10_full_24, e_X10_full_27, e_X10_full_28, e_X10_full_29, e_X10_full_33, e_X10_full_35, e_X10_full_38, e_X10_full_39, e_X10_full_42, e_X10_full_43, e_X10_full_44, e_X10_full_45, e_X10_full_48, e_X10_full_50, e_X10_full_51, e_X10_full_52, e_X10_full_53, e_X10_full_56, e_X10_full_59, e_X10_full_60, e_X10_full_61, e_X10_full_64, e_X10_full_67, e_X10_full_70, e_X10_full_71, e_X10_full_72, e_X10_full_75, vi, vl, vr, oc_X10_error, T_X10_error, oc_X10_noBoat, T_X10_noBoat, oc_X10_outside, T_X10_outside, oc_X10_think, T_X10_think, oc_X9_pass, T_X9_pass, ix_push, ix_iload, ix_lload, ix_aload, ix_istore, ix_astore, ix_iinc, ix_bin, ix_div, ix_un, ix_i2l, ix_l2i, ix_lbin, ix_lsh, ix_lcmp, ix_dup, ix_dup2, ix_pop, ix_if, ix_cmp, ix_goto, ix_switch, ix_sw, ix_iret, ix_zret, ix_vret, ix_aret, ix_geti, ix_getr, ix_puti, ix_putz, ix_puts, ix_gets, ix_iald, ix_iast, ix_alen, ix_aald, ix_gval, ix_gcod, ix_bald, ix_blen, ix_sald, ix_nret, ix_math2, ix_math1, ix_acopy, Nat.add_assoc, Int32.reduceLT, Int32.reduceLE, Int32.reduceToNatClampNeg, Int32.reduceSub, Int32.reduceAdd, Nat.reduceAdd, Nat.reduceLeDiff, true_or, or_true, or_false, false_or, not_false_eq_true, not_true_eq_false, false_implies, true_implies, implies_true, and_self, mB_0, mB_01, Classical.not_not, Nat.zero_le, List.getElem?_cons_zero, List.getElem?_cons_succ, List.set_cons_zero, List.set_cons_succ, ix_nl, ix_cs, true_and, and_true, Option.toList_some, Option.toList_none, List.cons_append, List.nil_append, n1, n2, hx1, hx2, ix_up_ne, ix_up_k, ve_1, ve_2, ve_3, ve_4, ve_5]
    refine hQ _ _ ?_
    simp (decide := true) only [e_X11_full_0, e_X11_full_1, e_X11_full_2, e_X11_full_5, e_X11_full_8, e_X11_full_9, e_X11_full_12, e_X11_full_15, e_X11_full_16, e_X11_full_18, e_X11_full_21, e_X11_full_22, e_X11_full_23, e_X11_full_26, e_X11_full_27, e_X11_full_30, e_X11_full_33, e_X11_full_34, e_X11_full_36, e_X11_full_38, e_X11_full_41, e_X11_full_42, e_X11_full_43, e_X11_full_44, e_X11_full_47, e_X11_full_48, e_X11_full_51, e_X11_full_52, e_X11_full_55, e_X11_full_58, e_X11_full_61, e_X11_full_62, e_X11_full_63, e_X11_full_64, e_X11_full_67, e_X11_full_68, e_X11_full_71, e_X11_full_72, e_X11_full_75, e_X11_full_76, e_X11_full_78, e_X11_full_79, e_X11_full_82, e_X11_full_83, e_X11_full_86, e_X11_full_89, e_X11_full_91, e_X11_full_94, e_X11_full_95, e_X11_full_98, e_X11_full_99, e_X11_full_102, e_X11_full_105, vi, vl, vr, oc_X11_boatIs, T_X11_boatIs, oc_X11_copy, T_X11_copy, oc_X11_finding, T_X11_finding, oc_X11_isBoat, T_X11_isBoat, oc_X11_isMost, T_X11_isMost, oc_X11_minute, T_X11_minute, ix_push, ix_iload, ix_lload, ix_aload, ix_istore, ix_astore, ix_iinc, ix_bin, ix_div, ix_un, ix_i2l, ix_l2i, ix_lbin, ix_lsh, ix_lcmp, ix_dup, ix_dup2, ix_pop, ix_if, ix_cmp, ix_goto, ix_switch, ix_sw, ix_iret, ix_zret, ix_vret, ix_aret, ix_geti, ix_getr, ix_puti, ix_putz, ix_puts, ix_gets, ix_iald, ix_iast, ix_alen, ix_aald, ix_gval, ix_gcod, ix_bald, ix_blen, ix_sald, ix_nret, ix_math2, ix_math1, ix_acopy, ml_113, ml_114, ml_115, ml_116, ml_118, ml_119, ml_120, ml_121, ml_122, ml_123, ml_124, ml_125, ml_126, mv_0, mv_1, mv_2, mv_3, mv_4, mv_5, mB_or, Nat.add_assoc, Int32.reduceLT, Int32.reduceLE, Int32.reduceToNatClampNeg, Int32.reduceSub, Int32.reduceAdd, Nat.reduceAdd, Nat.reduceLeDiff, true_or, or_true, or_false, false_or, not_false_eq_true, not_true_eq_false, false_implies, true_implies, implies_true, and_self, mB_0, mB_01, Classical.not_not, Nat.zero_le, List.getElem?_cons_zero, List.getElem?_cons_succ, List.set_cons_zero, List.set_cons_succ, ix_nl, ix_cs, true_and, and_true, Option.toList_some, Option.toList_none, List.cons_append, List.nil_append, n1, n2, hx1, hx2, ix_up_ne, ix_up_k, ve_1, ve_2, ve_3, ve_4, ve_5]
    repeat' (first | exact I.er 1 (by decide) | refine ⟨fun _ => ?_, fun _ => ?_⟩)
