/-! ===== calls, class against model: lay ===== -/
def dn (d : Nat) : Int32 := match d with
  | 0 => -1
  | d + 1 => nI d
theorem dn_s (d : Nat) : nI d + -1 = dn d := match d with
  | 0 => by decide
  | d + 1 => nI_dn d
def lC (f : Nat → Int32) (n : Nat) : Nat := match n with
  | 0 => 0
  | n + 1 => lC f n + (if f n = -1 then 1 else 0)
theorem lC_mono (f : Nat → Int32) : ∀ {n m : Nat}, n ≤ m → lC f n ≤ lC f m
  | n, 0, h => by
    obtain rfl : n = 0 := by omega
    exact Nat.le_refl _
  | n, m + 1, h => by
    by_cases c : n = m + 1
    · rw [c]
      exact Nat.le_refl _
    · have := lC_mono f (n := n) (m := m) (by omega)
      rw [lC]
      omega
def o_X10_lay : List (Nat × ix_Op) := [
  (0, ix_iload 1 1),
  (1, ix_push (vi 3) 2),
  (2, oc_X10_outside 5),
  (5, ix_if (fun x => x = 0) 8 25),
  (8, ix_iload 2 9),
  (9, ix_push (vi 15) 11),
  (11, oc_X10_outside 14),
  (14, ix_if (fun x => x = 0) 17 25),
  (17, ix_iload 3 18),
  (18, ix_push (vi 1) 19),
  (19, oc_X10_outside 22),
  (22, ix_if (fun x => x = 0) 31 25),
  (25, ix_aload 0 26),
  (26, ix_push (vi 1) 27),
  (27, oc_X10_error 30),
  (30, ix_iret),
  (31, ix_aload 0 32),
  (32, ix_getr 9 22 (fun _ => 98) 35),
  (35, ix_iload 1 36),
  (36, ix_aald 22 98 4 4 (fun i => 99 + 3 * i) 37),
  (37, oc_X5_isMissing 40),
  (40, ix_if (fun x => x = 0) 49 43),
  (43, ix_aload 0 44),
  (44, ix_push (vi 2) 45),
  (45, oc_X10_error 48),
  (48, ix_iret),
  (49, ix_push (vi 0) 50),
  (50, ix_istore 4 52),
  (52, ix_push (vi 0) 53),
  (53, ix_istore 5 55),
  (55, ix_iload 5 57),
  (57, ix_push (vi 99) 59),
  (59, ix_cmp (fun x y => y < x) 104 62),
  (62, ix_aload 0 63),
  (63, ix_aload 0 64),
  (64, ix_push (vi 3) 65),
  (65, ix_iload 2 66),
  (66, ix_iload 5 68),
  (68, oc_X10_suppose 71),
  (71, ix_aload 0 72),
  (72, ix_getr 9 22 (fun _ => 98) 75),
  (75, ix_iload 1 76),
  (76, ix_aald 22 98 4 4 (fun i => 99 + 3 * i) 77),
  (77, ix_getr 4 3 (fun k => k + 1) 80),
  (80, oc_X10_firstUnlike 83),
  (83, ix_push (vi (-1)) 84),
  (84, ix_cmp (fun x y => x = y) 87 98),
  (87, ix_iload 3 88),
  (88, ix_push (vi 1) 89),
  (89, ix_cmp (fun x y => x = y) 92 95),
  (92, ix_iload 5 94),
  (94, ix_iret),
  (95, ix_iinc 4 1 98),
  (98, ix_iinc 5 1 101),
  (101, ix_goto 55),
  (104, ix_iload 3 105),
  (105, ix_push (vi 1) 106),
  (106, ix_cmp (fun x y => x = y) 109 117),
  (109, ix_aload 0 110),
  (110, ix_push (vi 2) 111),
  (111, oc_X10_error 114),
  (114, ix_goto 119),
  (117, ix_iload 4 119),
  (119, ix_iret)]
set_option maxRecDepth 20000 in
theorem a_X10_lay (l : Launch) : ix_AllS l cX10_lay 6 RX10 60 (some .int) o_X10_lay :=
  .cons (ix_s_iload_n dX10_lay_0 rfl) <|
  .cons (ix_s_iconst dX10_lay_1 (by decide +kernel)) <|
  .cons (oc_X10_outside_s (ix_s_calls (k_X10_outside l) (by decide) (by decide) tw_291 tw_1 tw_289 tw_290 ⟨by decide, by decide, by decide +kernel⟩ (fun _ => rfl) dX10_lay_2)) <|
  .cons (ix_s_if_ne dX10_lay_5 (by decide)) <|
  .cons (ix_s_iload_n dX10_lay_8 rfl) <|
  .cons (ix_s_bipush dX10_lay_9 (by decide +kernel)) <|
  .cons (oc_X10_outside_s (ix_s_calls (k_X10_outside l) (by decide) (by decide) tw_291 tw_1 tw_289 tw_290 ⟨by decide, by decide, by decide +kernel⟩ (fun _ => rfl) dX10_lay_11)) <|
  .cons (ix_s_if_ne dX10_lay_14 (by decide)) <|
  .cons (ix_s_iload_n dX10_lay_17 rfl) <|
  .cons (ix_s_iconst dX10_lay_18 (by decide +kernel)) <|
  .cons (oc_X10_outside_s (ix_s_calls (k_X10_outside l) (by decide) (by decide) tw_291 tw_1 tw_289 tw_290 ⟨by decide, by decide, by decide +kernel⟩ (fun _ => rfl) dX10_lay_19)) <|
  .cons (ix_s_if_eq dX10_lay_22 (by decide)) <|
  .cons (ix_s_aload_n dX10_lay_25 rfl) <|
  .cons (ix_s_iconst dX10_lay_26 (by decide +kernel)) <|
  .cons (oc_X10_error_s (ix_s_callv (t := 9) (k_X10_error l) (by decide) (by decide) tw_295 tw_1 tw_292 tw_294 tp_0 ⟨by decide, by decide, by decide +kernel⟩ (by decide) rfl rfl (fun _ => ⟨_, _, rfl, rfl⟩) dX10_lay_27)) <|
  .cons (ix_s_iret dX10_lay_30 rfl) <|
  .cons (ix_s_aload_n dX10_lay_31 rfl) <|
  .cons (ix_s_getr (j := 7) tu_X10 rfl (by decide) (by decide) tw_258 rfl ts_9_7_r dX10_lay_32) <|
  .cons (ix_s_iload_n dX10_lay_35 rfl) <|
  .cons (ix_s_aald (E0 := ix_tys) (by decide) (by decide +kernel) (fun _ => rfl) (by decide +kernel) dX10_lay_36) <|
  .cons (oc_X5_isMissing_s (ix_s_callv (t := 4) (k_X5_isMissing l) (by decide) (by decide) tw_739 tw_11 tw_736 tw_737 tw_738 ⟨by decide, by decide, by decide +kernel⟩ (by decide) rfl rfl (fun _ => ⟨_, _, rfl, rfl⟩) dX10_lay_37)) <|
  .cons (ix_s_if_eq dX10_lay_40 (by decide)) <|
  .cons (ix_s_aload_n dX10_lay_43 rfl) <|
  .cons (ix_s_iconst dX10_lay_44 (by decide +kernel)) <|
  .cons (oc_X10_error_s (ix_s_callv (t := 9) (k_X10_error l) (by decide) (by decide) tw_295 tw_1 tw_292 tw_294 tp_0 ⟨by decide, by decide, by decide +kernel⟩ (by decide) rfl rfl (fun _ => ⟨_, _, rfl, rfl⟩) dX10_lay_45)) <|
  .cons (ix_s_iret dX10_lay_48 rfl) <|
  .cons (ix_s_iconst dX10_lay_49 (by decide +kernel)) <|
  .cons (ix_s_istore dX10_lay_50 (by decide)) <|
  .cons (ix_s_iconst dX10_lay_52 (by decide +kernel)) <|
  .cons (ix_s_istore dX10_lay_53 (by decide)) <|
  .cons (ix_s_iload dX10_lay_55) <|
  .cons (ix_s_bipush dX10_lay_57 (by decide +kernel)) <|
  .cons (ix_s_cmp_gt dX10_lay_59 (by decide)) <|
  .cons (ix_s_aload_n dX10_lay_62 rfl) <|
  .cons (ix_s_aload_n dX10_lay_63 rfl) <|
  .cons (ix_s_iconst dX10_lay_64 (by decide +kernel)) <|
  .cons (ix_s_iload_n dX10_lay_65 rfl) <|
  .cons (ix_s_iload dX10_lay_66) <|
  .cons (oc_X10_suppose_s (ix_s_callv (t := 9) (k_X10_suppose l) (by decide) (by decide) tw_667 tw_1 tw_664 tw_666 tp_10 ⟨by decide, by decide, by decide +kernel⟩ (by decide) rfl rfl (fun _ => ⟨_, _, rfl, rfl⟩) dX10_lay_68)) <|
  .cons (ix_s_aload_n dX10_lay_71 rfl) <|
  .cons (ix_s_getr (j := 7) tu_X10 rfl (by decide) (by decide) tw_258 rfl ts_9_7_r dX10_lay_72) <|
  .cons (ix_s_iload_n dX10_lay_75 rfl) <|
  .cons (ix_s_aald (E0 := ix_tys) (by decide) (by decide +kernel) (fun _ => rfl) (by decide +kernel) dX10_lay_76) <|
  .cons (ix_s_getr (j := 0) tu_X5 rfl (by decide) (by decide) tw_243 rfl ts_4_0_r dX10_lay_77) <|
  .cons (oc_X10_firstUnlike_s (ix_s_callv (t := 9) (k_X10_firstUnlike l) (by decide) (by decide) tw_743 tw_1 tw_740 tw_742 tp_15 ⟨by decide, by decide, by decide +kernel⟩ (by decide) rfl rfl (fun _ => ⟨_, _, rfl, rfl⟩) dX10_lay_80)) <|
  .cons (ix_s_iconst dX10_lay_83 (by decide +kernel)) <|
  .cons (ix_s_cmp_ne dX10_lay_84 (by decide)) <|
  .cons (ix_s_iload_n dX10_lay_87 rfl) <|
  .cons (ix_s_iconst dX10_lay_88 (by decide +kernel)) <|
  .cons (ix_s_cmp_ne dX10_lay_89 (by decide)) <|
  .cons (ix_s_iload dX10_lay_92) <|
  .cons (ix_s_iret dX10_lay_94 rfl) <|
  .cons (ix_s_iinc dX10_lay_95 (by decide +kernel) (by decide)) <|
  .cons (ix_s_iinc dX10_lay_98 (by decide +kernel) (by decide)) <|
  .cons (ix_s_goto dX10_lay_101 (by decide)) <|
  .cons (ix_s_iload_n dX10_lay_104 rfl) <|
  .cons (ix_s_iconst dX10_lay_105 (by decide +kernel)) <|
  .cons (ix_s_cmp_ne dX10_lay_106 (by decide)) <|
  .cons (ix_s_aload_n dX10_lay_109 rfl) <|
  .cons (ix_s_iconst dX10_lay_110 (by decide +kernel)) <|
  .cons (oc_X10_error_s (ix_s_callv (t := 9) (k_X10_error l) (by decide) (by decide) tw_295 tw_1 tw_292 tw_294 tp_0 ⟨by decide, by decide, by decide +kernel⟩ (by decide) rfl rfl (fun _ => ⟨_, _, rfl, rfl⟩) dX10_lay_111)) <|
  .cons (ix_s_goto dX10_lay_114 (by decide)) <|
  .cons (ix_s_iload dX10_lay_117) <|
  .cons (ix_s_iret dX10_lay_119 rfl) <| .nil
theorem e_X10_lay_0 (Q : ix_R → Prop) (ls : ix_L) (st : List ix_V) (μ : ix_M) : ix_Ev o_X10_lay Q (0, ls, st, μ) = ix_iload 1 1 (ix_Ev o_X10_lay Q) Q ls st μ := ix_Ev.eq (a_X10_lay launch0) rfl ls st μ
theorem e_X10_lay_1 (Q : ix_R → Prop) (ls : ix_L) (st : List ix_V) (μ : ix_M) : ix_Ev o_X10_lay Q (1, ls, st, μ) = ix_push (vi 3) 2 (ix_Ev o_X10_lay Q) Q ls st μ := ix_Ev.eq (a_X10_lay launch0) rfl ls st μ
theorem e_X10_lay_2 (Q : ix_R → Prop) (ls : ix_L) (st : List ix_V) (μ : ix_M) : ix_Ev o_X10_lay Q (2, ls, st, μ) = oc_X10_outside 5 (ix_Ev o_X10_lay Q) Q ls st μ := ix_Ev.eq (a_X10_lay launch0) rfl ls st μ
theorem e_X10_lay_5 (Q : ix_R → Prop) (ls : ix_L) (st : List ix_V) (μ : ix_M) : ix_Ev o_X10_lay Q (5, ls, st, μ) = ix_if (fun x => x = 0) 8 25 (ix_Ev o_X10_lay Q) Q ls st μ := ix_Ev.eq (a_X10_lay launch0) rfl ls st μ
theorem e_X10_lay_8 (Q : ix_R → Prop) (ls : ix_L) (st : List ix_V) (μ : ix_M) : ix_Ev o_X10_lay Q (8, ls, st, μ) = ix_iload 2 9 (ix_Ev o_X10_lay Q) Q ls st μ := ix_Ev.eq (a_X10_lay launch0) rfl ls st μ
theorem e_X10_lay_9 (Q : ix_R → Prop) (ls : ix_L) (st : List ix_V) (μ : ix_M) : ix_Ev o_X10_lay Q (9, ls, st, μ) = ix_push (vi 15) 11 (ix_Ev o_X10_lay Q) Q ls st μ := ix_Ev.eq (a_X10_lay launch0) rfl ls st μ
theorem e_X10_lay_11 (Q : ix_R → Prop) (ls : ix_L) (st : List ix_V) (μ : ix_M) : ix_Ev o_X10_lay Q (11, ls, st, μ) = oc_X10_outside 14 (ix_Ev o_X10_lay Q) Q ls st μ := ix_Ev.eq (a_X10_lay launch0) rfl ls st μ
theorem e_X10_lay_14 (Q : ix_R → Prop) (ls : ix_L) (st : List ix_V) (μ : ix_M) : ix_Ev o_X10_lay Q (14, ls, st, μ) = ix_if (fun x => x = 0) 17 25 (ix_Ev o_X10_lay Q) Q ls st μ := ix_Ev.eq (a_X10_lay launch0) rfl ls st μ
theorem e_X10_lay_17 (Q : ix_R → Prop) (ls : ix_L) (st : List ix_V) (μ : ix_M) : ix_Ev o_X10_lay Q (17, ls, st, μ) = ix_iload 3 18 (ix_Ev o_X10_lay Q) Q ls st μ := ix_Ev.eq (a_X10_lay launch0) rfl ls st μ
theorem e_X10_lay_18 (Q : ix_R → Prop) (ls : ix_L) (st : List ix_V) (μ : ix_M) : ix_Ev o_X10_lay Q (18, ls, st, μ) = ix_push (vi 1) 19 (ix_Ev o_X10_lay Q) Q ls st μ := ix_Ev.eq (a_X10_lay launch0) rfl ls st μ
theorem e_X10_lay_19 (Q : ix_R → Prop) (ls : ix_L) (st : List ix_V) (μ : ix_M) : ix_Ev o_X10_lay Q (19, ls, st, μ) = oc_X10_outside 22 (ix_Ev o_X10_lay Q) Q ls st μ := ix_Ev.eq (a_X10_lay launch0) rfl ls st μ
theorem e_X10_lay_22 (Q : ix_R → Prop) (ls : ix_L) (st : List ix_V) (μ : ix_M) : ix_Ev o_X10_lay Q (22, ls, st, μ) = ix_if (fun x => x = 0) 31 25 (ix_Ev o_X10_lay Q) Q ls st μ := ix_Ev.eq (a_X10_lay launch0) rfl ls st μ
theorem e_X10_lay_25 (Q : ix_R → Prop) (ls : ix_L) (st : List ix_V) (μ : ix_M) : ix_Ev o_X10_lay Q (25, ls, st, μ) = ix_aload 0 26 (ix_Ev o_X10_lay Q) Q ls st μ := ix_Ev.eq (a_X10_lay launch0) rfl ls st μ
theorem e_X10_lay_26 (Q : ix_R → Prop) (ls : ix_L) (st : List ix_V) (μ : ix_M) : ix_Ev o_X10_lay Q (26, ls, st, μ) = ix_push (vi 1) 27 (ix_Ev o_X10_lay Q) Q ls st μ := ix_Ev.eq (a_X10_lay launch0) rfl ls st μ
theorem e_X10_lay_27 (Q : ix_R → Prop) (ls : ix_L) (st : List ix_V) (μ : ix_M) : ix_Ev o_X10_lay Q (27, ls, st, μ) = oc_X10_error 30 (ix_Ev o_X10_lay Q) Q ls st μ := ix_Ev.eq (a_X10_lay launch0) rfl ls st μ
theorem e_X10_lay_30 (Q : ix_R → Prop) (ls : ix_L) (st : List ix_V) (μ : ix_M) : ix_Ev o_X10_lay Q (30, ls, st, μ) = ix_iret (ix_Ev o_X10_lay Q) Q ls st μ := ix_Ev.eq (a_X10_lay launch0) rfl ls st μ
theorem e_X10_lay_31 (Q : ix_R → Prop) (ls : ix_L) (st : List ix_V) (μ : ix_M) : ix_Ev o_X10_lay Q (31, ls, st, μ) = ix_aload 0 32 (ix_Ev o_X10_lay Q) Q ls st μ := ix_Ev.eq (a_X10_lay launch0) rfl ls st μ
theorem e_X10_lay_32 (Q : ix_R → Prop) (ls : ix_L) (st : List ix_V) (μ : ix_M) : ix_Ev o_X10_lay Q (32, ls, st, μ) = ix_getr 9 22 (fun _ => 98) 35 (ix_Ev o_X10_lay Q) Q ls st μ := ix_Ev.eq (a_X10_lay launch0) rfl ls st μ
theorem e_X10_lay_35 (Q : ix_R → Prop) (ls : ix_L) (st : List ix_V) (μ : ix_M) : ix_Ev o_X10_lay Q (35, ls, st, μ) = ix_iload 1 36 (ix_Ev o_X10_lay Q) Q ls st μ := ix_Ev.eq (a_X10_lay launch0) rfl ls st μ
theorem e_X10_lay_36 (Q : ix_R → Prop) (ls : ix_L) (st : List ix_V) (μ : ix_M) : ix_Ev o_X10_lay Q (36, ls, st, μ) = ix_aald 22 98 4 4 (fun i => 99 + 3 * i) 37 (ix_Ev o_X10_lay Q) Q ls st μ := ix_Ev.eq (a_X10_lay launch0) rfl ls st μ
theorem e_X10_lay_37 (Q : ix_R → Prop) (ls : ix_L) (st : List ix_V) (μ : ix_M) : ix_Ev o_X10_lay Q (37, ls, st, μ) = oc_X5_isMissing 40 (ix_Ev o_X10_lay Q) Q ls st μ := ix_Ev.eq (a_X10_lay launch0) rfl ls st μ
theorem e_X10_lay_40 (Q : ix_R → Prop) (ls : ix_L) (st : List ix_V) (μ : ix_M) : ix_Ev o_X10_lay Q (40, ls, st, μ) = ix_if (fun x => x = 0) 49 43 (ix_Ev o_X10_lay Q) Q ls st μ := ix_Ev.eq (a_X10_lay launch0) rfl ls st μ
theorem e_X10_lay_43 (Q : ix_R → Prop) (ls : ix_L) (st : List ix_V) (μ : ix_M) : ix_Ev o_X10_lay Q (43, ls, st, μ) = ix_aload 0 44 (ix_Ev o_X10_lay Q) Q ls st μ := ix_Ev.eq (a_X10_lay launch0) rfl ls st μ
theorem e_X10_lay_44 (Q : ix_R → Prop) (ls : ix_L) (st : List ix_V) (μ : ix_M) : ix_Ev o_X10_lay Q (44, ls, st, μ) = ix_push (vi 2) 45 (ix_Ev o_X10_lay Q) Q ls st μ := ix_Ev.eq (a_X10_lay launch0) rfl ls st μ
theorem e_X10_lay_45 (Q : ix_R → Prop) (ls : ix_L) (st : List ix_V) (μ : ix_M) : ix_Ev o_X10_lay Q (45, ls, st, μ) = oc_X10_error 48 (ix_Ev o_X10_lay Q) Q ls st μ := ix_Ev.eq (a_X10_lay launch0) rfl ls st μ
theorem e_X10_lay_48 (Q : ix_R → Prop) (ls : ix_L) (st : List ix_V) (μ : ix_M) : ix_Ev o_X10_lay Q (48, ls, st, μ) = ix_iret (ix_Ev o_X10_lay Q) Q ls st μ := ix_Ev.eq (a_X10_lay launch0) rfl ls st μ
theorem e_X10_lay_49 (Q : ix_R → Prop) (ls : ix_L) (st : List ix_V) (μ : ix_M) : ix_Ev o_X10_lay Q (49, ls, st, μ) = ix_push (vi 0) 50 (ix_Ev o_X10_lay Q) Q ls st μ := ix_Ev.eq (a_X10_lay launch0) rfl ls st μ
theorem e_X10_lay_50 (Q : ix_R → Prop) (ls : ix_L) (st : List ix_V) (μ : ix_M) : ix_Ev o_X10_lay Q (50, ls, st, μ) = ix_istore 4 52 (ix_Ev o_X10_lay Q) Q ls st μ := ix_Ev.eq (a_X10_lay launch0) rfl ls st μ
theorem e_X10_lay_52 (Q : ix_R → Prop) (ls : ix_L) (st : List ix_V) (μ : ix_M) : ix_Ev o_X10_lay Q (52, ls, st, μ) = ix_push (vi 0) 53 (ix_Ev o_X10_lay Q) Q ls st μ := ix_Ev.eq (a_X10_lay launch0) rfl ls st μ
theorem e_X10_lay_53 (Q : ix_R → Prop) (ls : ix_L) (st : List ix_V) (μ : ix_M) : ix_Ev o_X10_lay Q (53, ls, st, μ) = ix_istore 5 55 (ix_Ev o_X10_lay Q) Q ls st μ := ix_Ev.eq (a_X10_lay launch0) rfl ls st μ
theorem e_X10_lay_55 (Q : ix_R → Prop) (ls : ix_L) (st : List ix_V) (μ : ix_M) : ix_Ev o_X10_lay Q (55, ls, st, μ) = ix_iload 5 57 (ix_Ev o_X10_lay Q) Q ls st μ := ix_Ev.eq (a_X10_lay launch0) rfl ls st μ
theorem e_X10_lay_57 (Q : ix_R → Prop) (ls : ix_L) (st : List ix_V) (μ : ix_M) : ix_Ev o_X10_lay Q (57, ls, st, μ) = ix_push (vi 99) 59 (ix_Ev o_X10_lay Q) Q ls st μ := ix_Ev.eq (a_X10_lay launch0) rfl ls st μ
theorem e_X10_lay_59 (Q : ix_R → Prop) (ls : ix_L) (st : List ix_V) (μ : ix_M) : ix_Ev o_X10_lay Q (59, ls, st, μ) = ix_cmp (fun x y => y < x) 104 62 (ix_Ev o_X10_lay Q) Q ls st μ := ix_Ev.eq (a_X10_lay launch0) rfl ls st μ
theorem e_X10_lay_62 (Q : ix_R → Prop) (ls : ix_L) (st : List ix_V) (μ : ix_M) : ix_Ev o_X10_lay Q (62, ls, st, μ) = ix_aload 0 63 (ix_Ev o_X10_lay Q) Q ls st μ := ix_Ev.eq (a_X10_lay launch0) rfl ls st μ
theorem e_X10_lay_63 (Q : ix_R → Prop) (ls : ix_L) (st : List ix_V) (μ : ix_M) : ix_Ev o_X10_lay Q (63, ls, st, μ) = ix_aload 0 64 (ix_Ev o_X10_lay Q) Q ls st μ := ix_Ev.eq (a_X10_lay launch0) rfl ls st μ
theorem e_X10_lay_64 (Q : ix_R → Prop) (ls : ix_L) (st : List ix_V) (μ : ix_M) : ix_Ev o_X10_lay Q (64, ls, st, μ) = ix_push (vi 3) 65 (ix_Ev o_X10_lay Q) Q ls st μ := ix_Ev.eq (a_X10_lay launch0) rfl ls st μ
theorem e_X10_lay_65 (Q : ix_R → Prop) (ls : ix_L) (st : List ix_V) (μ : ix_M) : ix_Ev o_X10_lay Q (65, ls, st, μ) = ix_iload 2 66 (ix_Ev o_X10_lay Q) Q ls st μ := ix_Ev.eq (a_X10_lay launch0) rfl ls st μ
theorem e_X10_lay_66 (Q : ix_R → Prop) (ls : ix_L) (st : List ix_V) (μ : ix_M) : ix_Ev o_X10_lay Q (66, ls, st, μ) = ix_iload 5 68 (ix_Ev o_X10_lay Q) Q ls st μ := ix_Ev.eq (a_X10_lay launch0) rfl ls st μ
theorem e_X10_lay_68 (Q : ix_R → Prop) (ls : ix_L) (st : List ix_V) (μ : ix_M) : ix_Ev o_X10_lay Q (68, ls, st, μ) = oc_X10_suppose 71 (ix_Ev o_X10_lay Q) Q ls st μ := ix_Ev.eq (a_X10_lay launch0) rfl ls st μ
theorem e_X10_lay_71 (Q : ix_R → Prop) (ls : ix_L) (st : List ix_V) (μ : ix_M) : ix_Ev o_X10_lay Q (71, ls, st, μ) = ix_aload 0 72 (ix_Ev o_X10_lay Q) Q ls st μ := ix_Ev.eq (a_X10_lay launch0) rfl ls st μ
theorem e_X10_lay_72 (Q : ix_R → Prop) (ls : ix_L) (st : List ix_V) (μ : ix_M) : ix_Ev o_X10_lay Q (72, ls, st, μ) = ix_getr 9 22 (fun _ => 98) 75 (ix_Ev o_X10_lay Q) Q ls st μ := ix_Ev.eq (a_X10_lay launch0) rfl ls st μ
theorem e_X10_lay_75 (Q : ix_R → Prop) (ls : ix_L) (st : List ix_V) (μ : ix_M) : ix_Ev o_X10_lay Q (75, ls, st, μ) = ix_iload 1 76 (ix_Ev o_X10_lay Q) Q ls st μ := ix_Ev.eq (a_X10_lay launch0) rfl ls st μ
theorem e_X10_lay_76 (Q : ix_R → Prop) (ls : ix_L) (st : List ix_V) (μ : ix_M) : ix_Ev o_X10_lay Q (76, ls, st, μ) = ix_aald 22 98 4 4 (fun i => 99 + 3 * i) 77 (ix_Ev o_X10_lay Q) Q ls st μ := ix_Ev.eq (a_X10_lay launch0) rfl ls st μ
theorem e_X10_lay_77 (Q : ix_R → Prop) (ls : ix_L) (st : List ix_V) (μ : ix_M) : ix_Ev o_X10_lay Q (77, ls, st, μ) = ix_getr 4 3 (fun k => k + 1) 80 (ix_Ev o_X10_lay Q) Q ls st μ := ix_Ev.eq (a_X10_lay launch0) rfl ls st μ
theorem e_X10_lay_80 (Q : ix_R → Prop) (ls : ix_L) (st : List ix_V) (μ : ix_M) : ix_Ev o_X10_lay Q (80, ls, st, μ) = oc_X10_firstUnlike 83 (ix_Ev o_X10_lay Q) Q ls st μ := ix_Ev.eq (a_X10_lay launch0) rfl ls st μ
theorem e_X10_lay_83 (Q : ix_R → Prop) (ls : ix_L) (st : List ix_V) (μ : ix_M) : ix_Ev o_X10_lay Q (83, ls, st, μ) = ix_push (vi (-1)) 84 (ix_Ev o_X10_lay Q) Q ls st μ := ix_Ev.eq (a_X10_lay launch0) rfl ls st μ
theorem e_X10_lay_84 (Q : ix_R → Prop) (ls : ix_L) (st : List ix_V) (μ : ix_M) : ix_Ev o_X10_lay Q (84, ls, st, μ) = ix_cmp (fun x y => x = y) 87 98 (ix_Ev o_X10_lay Q) Q ls st μ := ix_Ev.eq (a_X10_lay launch0) rfl ls st μ
theorem e_X10_lay_87 (Q : ix_R → Prop) (ls : ix_L) (st : List ix_V) (μ : ix_M) : ix_Ev o_X10_lay Q (87, ls, st, μ) = ix_iload 3 88 (ix_Ev o_X10_lay Q) Q ls st μ := ix_Ev.eq (a_X10_lay launch0) rfl ls st μ
theorem e_X10_lay_88 (Q : ix_R → Prop) (ls : ix_L) (st : List ix_V) (μ : ix_M) : ix_Ev o_X10_lay Q (88, ls, st, μ) = ix_push (vi 1) 89 (ix_Ev o_X10_lay Q) Q ls st μ := ix_Ev.eq (a_X10_lay launch0) rfl ls st μ
theorem e_X10_lay_89 (Q : ix_R → Prop) (ls : ix_L) (st : List ix_V) (μ : ix_M) : ix_Ev o_X10_lay Q (89, ls, st, μ) = ix_cmp (fun x y => x = y) 92 95 (ix_Ev o_X10_lay Q) Q ls st μ := ix_Ev.eq (a_X10_lay launch0) rfl ls st μ
theorem e_X10_lay_92 (Q : ix_R → Prop) (ls : ix_L) (st : List ix_V) (μ : ix_M) : ix_Ev o_X10_lay Q (92, ls, st, μ) = ix_iload 5 94 (ix_Ev o_X10_lay Q) Q ls st μ := ix_Ev.eq (a_X10_lay launch0) rfl ls st μ
theorem e_X10_lay_94 (Q : ix_R → Prop) (ls : ix_L) (st : List ix_V) (μ : ix_M) : ix_Ev o_X10_lay Q (94, ls, st, μ) = ix_iret (ix_Ev o_X10_lay Q) Q ls st μ := ix_Ev.eq (a_X10_lay launch0) rfl ls st μ
theorem e_X10_lay_95 (Q : ix_R → Prop) (ls : ix_L) (st : List ix_V) (μ : ix_M) : ix_Ev o_X10_lay Q (95, ls, st, μ) = ix_iinc 4 1 98 (ix_Ev o_X10_lay Q) Q ls st μ := ix_Ev.eq (a_X10_lay launch0) rfl ls st μ
theorem e_X10_lay_98 (Q : ix_R → Prop) (ls : ix_L) (st : List ix_V) (μ : ix_M) : ix_Ev o_X10_lay Q (98, ls, st, μ) = ix_iinc 5 1 101 (ix_Ev o_X10_lay Q) Q ls st μ := ix_Ev.eq (a_X10_lay launch0) rfl ls st μ
theorem e_X10_lay_101 (Q : ix_R → Prop) (ls : ix_L) (st : List ix_V) (μ : ix_M) : ix_Ev o_X10_lay Q (101, ls, st, μ) = ix_goto 55 (ix_Ev o_X10_lay Q) Q ls st μ := ix_Ev.eq (a_X10_lay launch0) rfl ls st μ
theorem e_X10_lay_104 (Q : ix_R → Prop) (ls : ix_L) (st : List ix_V) (μ : ix_M) : ix_Ev o_X10_lay Q (104, ls, st, μ) = ix_iload 3 105 (ix_Ev o_X10_lay Q) Q ls st μ := ix_Ev.eq (a_X10_lay launch0) rfl ls st μ
theorem e_X10_lay_105 (Q : ix_R → Prop) (ls : ix_L) (st : List ix_V) (μ : ix_M) : ix_Ev o_X10_lay Q (105, ls, st, μ) = ix_push (vi 1) 106 (ix_Ev o_X10_lay Q) Q ls st μ := ix_Ev.eq (a_X10_lay launch0) rfl ls st μ
theorem e_X10_lay_106 (Q : ix_R → Prop) (ls : ix_L) (st : List ix_V) (μ : ix_M) : ix_Ev o_X10_lay Q (106, ls, st, μ) = ix_cmp (fun x y => x = y) 109 117 (ix_Ev o_X10_lay Q) Q ls st μ := ix_Ev.eq (a_X10_lay launch0) rfl ls st μ
theorem e_X10_lay_109 (Q : ix_R → Prop) (ls : ix_L) (st : List ix_V) (μ : ix_M) : ix_Ev o_X10_lay Q (109, ls, st, μ) = ix_aload 0 110 (ix_Ev o_X10_lay Q) Q ls st μ := ix_Ev.eq (a_X10_lay launch0) rfl ls st μ
theorem e_X10_lay_110 (Q : ix_R → Prop) (ls : ix_L) (st : List ix_V) (μ : ix_M) : ix_Ev o_X10_lay Q (110, ls, st, μ) = ix_push (vi 2) 111 (ix_Ev o_X10_lay Q) Q ls st μ := ix_Ev.eq (a_X10_lay launch0) rfl ls st μ
theorem e_X10_lay_111 (Q : ix_R → Prop) (ls : ix_L) (st : List ix_V) (μ : ix_M) : ix_Ev o_X10_lay Q (111, ls, st, μ) = oc_X10_error 114 (ix_Ev o_X10_lay Q) Q ls st μ := ix_Ev.eq (a_X10_lay launch0) rfl ls st μ
theorem e_X10_lay_114 (Q : ix_R → Prop) (ls : ix_L) (st : List ix_V) (μ : ix_M) : ix_Ev o_X10_lay Q (114, ls, st, μ) = ix_goto 119 (ix_Ev o_X10_lay Q) Q ls st μ := ix_Ev.eq (a_X10_lay launch0) rfl ls st μ
theorem e_X10_lay_117 (Q : ix_R → Prop) (ls : ix_L) (st : List ix_V) (μ : ix_M) : ix_Ev o_X10_lay Q (117, ls, st, μ) = ix_iload 4 119 (ix_Ev o_X10_lay Q) Q ls st μ := ix_Ev.eq (a_X10_lay launch0) rfl ls st μ
theorem e_X10_lay_119 (Q : ix_R → Prop) (ls : ix_L) (st : List ix_V) (μ : ix_M) : ix_Ev o_X10_lay Q (119, ls, st, μ) = ix_iret (ix_Ev o_X10_lay Q) Q ls st μ := ix_Ev.eq (a_X10_lay launch0) rfl ls st μ
def o_X11_lay : List (Nat × ix_Op) := [
  (0, ix_iload 1 1),
  (1, oc_X11_isSheet 4),
  (4, ix_if (fun x => x = 0) 23 7),
  (7, ix_iload 2 8),
  (8, oc_X11_isCell 11),
  (11, ix_if (fun x => x = 0) 23 14),
  (14, ix_iload 3 15),
  (15, ix_push (vi 0) 16),
  (16, ix_push (vi 1) 17),
  (17, oc_X11_within 20),
  (20, ix_if (fun x => x = 0) 23 30),
  (23, ix_aload 0 24),
  (24, ix_push (vi (-1000000001)) 26),
  (26, oc_X11_finding 29),
  (29, ix_iret),
  (30, ix_aload 0 31),
  (31, ix_getr 10 20 (fun _ => 123) 34),
  (34, ix_iload 1 35),
  (35, ix_iald 36),
  (36, ix_if (fun x => x = 0) 39 47),
  (39, ix_aload 0 40),
  (40, ix_push (vi (-1000000002)) 43),
  (43, oc_X11_finding 46),
  (46, ix_iret),
  (47, ix_aload 0 48),
  (48, ix_getr 10 20 (fun _ => 113) 51),
  (51, ix_push (vi 34) 53),
  (53, ix_iload 2 54),
  (54, ix_bin (fun x y => x + y) 55),
  (55, ix_iald 56),
  (56, ix_istore 4 58),
  (58, ix_push (vi 0) 59),
  (59, ix_istore 5 61),
  (61, ix_push (vi (-1)) 62),
  (62, ix_istore 6 64),
  (64, ix_push (vi 99) 66),
  (66, ix_istore 7 68),
  (68, ix_iload 7 70),
  (70, ix_if (fun x => x < 0) 126 73),
  (73, ix_aload 0 74),
  (74, ix_getr 10 20 (fun _ => 113) 77),
  (77, ix_push (vi 34) 79),
  (79, ix_iload 2 80),
  (80, ix_bin (fun x y => x + y) 81),
  (81, ix_iload 7 83),
  (83, ix_iast 84),
  (84, ix_aload 0 85),
  (85, ix_iload 1 86),
  (86, oc_X11_isSoHad 89),
  (89, ix_istore 8 91),
  (91, ix_iload 5 93),
  (93, ix_iload 8 95),
  (95, ix_if (fun x => x = 0) 102 98),
  (98, ix_push (vi 1) 99),
  (99, ix_goto 103),
  (102, ix_push (vi 0) 103),
  (103, ix_bin (fun x y => x + y) 104),
  (104, ix_istore 5 106),
  (106, ix_iload 8 108),
  (108, ix_if (fun x => x = 0) 116 111),
  (111, ix_iload 7 113),
  (113, ix_goto 118),
  (116, ix_iload 6 118),
  (118, ix_istore 6 120),
  (120, ix_iinc 7 (-1) 123),
  (123, ix_goto 68),
  (126, ix_aload 0 127),
  (127, ix_getr 10 20 (fun _ => 113) 130),
  (130, ix_push (vi 34) 132),
  (132, ix_iload 2 133),
  (133, ix_bin (fun x y => x + y) 134),
  (134, ix_iload 4 136),
  (136, ix_iast 137),
  (137, ix_iload 3 138),
  (138, ix_if (fun x => x = 0) 141 146),
  (141, ix_iload 5 143),
  (143, ix_goto 163),
  (146, ix_iload 6 148),
  (148, ix_if (fun x => 0 ≤ x) 161 151),
  (151, ix_aload 0 152),
  (152, ix_push (vi (-1000000002)) 155),
  (155, oc_X11_finding 158),
  (158, ix_goto 163),
  (161, ix_iload 6 163),
  (163, ix_iret)]
set_option maxRecDepth 20000 in
theorem a_X11_lay (l : Launch) : ix_AllS l cX11_lay 9 RX11 60 (some .int) o_X11_lay :=
  .cons (ix_s_iload_n dX11_lay_0 rfl) <|
  .cons (oc_X11_isSheet_s (ix_s_calls (k_X11_isSheet l) (by decide) (by decide) tw_1305 tw_12 tw_1303 tw_1304 ⟨by decide, by decide, by decide +kernel⟩ (fun _ => rfl) dX11_lay_1)) <|
  .cons (ix_s_if_eq dX11_lay_4 (by decide)) <|
  .cons (ix_s_iload_n dX11_lay_7 rfl) <|
  .cons (oc_X11_isCell_s (ix_s_calls (k_X11_isCell l) (by decide) (by decide) tw_1067 tw_12 tw_1065 tw_1066 ⟨by decide, by decide, by decide +kernel⟩ (fun _ => rfl) dX11_lay_8)) <|
  .cons (ix_s_if_eq dX11_lay_11 (by decide)) <|
  .cons (ix_s_iload_n dX11_lay_14 rfl) <|
  .cons (ix_s_iconst dX11_lay_15 (by decide +kernel)) <|
  .cons (ix_s_iconst dX11_lay_16 (by decide +kernel)) <|
  .cons (oc_X11_within_s (ix_s_calls (k_X11_within l) (by decide) (by decide) tw_960 tw_12 tw_958 tw_959 ⟨by decide, by decide, by decide +kernel⟩ (fun _ => rfl) dX11_lay_17)) <|
  .cons (ix_s_if_ne dX11_lay_20 (by decide)) <|
  .cons (ix_s_aload_n dX11_lay_23 rfl) <|
  .cons (ix_s_ldc tw_961 dX11_lay_24) <|
  .cons (oc_X11_finding_s (ix_s_callv (t := 10) (k_X11_finding l) (by decide) (by decide) tw_965 tw_12 tw_962 tw_964 tp_18 ⟨by decide, by decide, by decide +kernel⟩ (by decide) rfl rfl (fun _ => ⟨_, _, rfl, rfl⟩) dX11_lay_26)) <|
  .cons (ix_s_iret dX11_lay_29 rfl) <|
  .cons (ix_s_aload_n dX11_lay_30 rfl) <|
  .cons (ix_s_getr (j := 22) tu_X11 rfl (by decide) (by decide) tw_897 rfl ts_10_22_r dX11_lay_31) <|
  .cons (ix_s_iload_n dX11_lay_34 rfl) <|
  .cons (ix_s_iald dX11_lay_35) <|
  .cons (ix_s_if_ne dX11_lay_36 (by decide)) <|
  .cons (ix_s_aload_n dX11_lay_39 rfl) <|
  .cons (ix_s_ldcw tw_1238 dX11_lay_40) <|
  .cons (oc_X11_finding_s (ix_s_callv (t := 10) (k_X11_finding l) (by decide) (by decide) tw_965 tw_12 tw_962 tw_964 tp_18 ⟨by decide, by decide, by decide +kernel⟩ (by decide) rfl rfl (fun _ => ⟨_, _, rfl, rfl⟩) dX11_lay_43)) <|
  .cons (ix_s_iret dX11_lay_46 rfl) <|
  .cons (ix_s_aload_n dX11_lay_47 rfl) <|
  .cons (ix_s_getr (j := 0) tu_X11 rfl (by decide) (by decide) tw_875 rfl ts_10_0_r dX11_lay_48) <|
  .cons (ix_s_bipush dX11_lay_51 (by decide +kernel)) <|
  .cons (ix_s_iload_n dX11_lay_53 rfl) <|
  .cons (ix_s_iadd dX11_lay_54) <|
  .cons (ix_s_iald dX11_lay_55) <|
  .cons (ix_s_istore dX11_lay_56 (by decide)) <|
  .cons (ix_s_iconst dX11_lay_58 (by decide +kernel)) <|
  .cons (ix_s_istore dX11_lay_59 (by decide)) <|
  .cons (ix_s_iconst dX11_lay_61 (by decide +kernel)) <|
  .cons (ix_s_istore dX11_lay_62 (by decide)) <|
  .cons (ix_s_bipush dX11_lay_64 (by decide +kernel)) <|
  .cons (ix_s_istore dX11_lay_66 (by decide)) <|
  .cons (ix_s_iload dX11_lay_68) <|
  .cons (ix_s_if_lt dX11_lay_70 (by decide)) <|
  .cons (ix_s_aload_n dX11_lay_73 rfl) <|
  .cons (ix_s_getr (j := 0) tu_X11 rfl (by decide) (by decide) tw_875 rfl ts_10_0_r dX11_lay_74) <|
  .cons (ix_s_bipush dX11_lay_77 (by decide +kernel)) <|
  .cons (ix_s_iload_n dX11_lay_79 rfl) <|
  .cons (ix_s_iadd dX11_lay_80) <|
  .cons (ix_s_iload dX11_lay_81) <|
  .cons (ix_s_iast dX11_lay_83) <|
  .cons (ix_s_aload_n dX11_lay_84 rfl) <|
  .cons (ix_s_iload_n dX11_lay_85 rfl) <|
  .cons (oc_X11_isSoHad_s (ix_s_callv (t := 10) (k_X11_isSoHad l) (by decide) (by decide) tw_1309 tw_12 tw_1306 tw_1308 tp_58 ⟨by decide, by decide, by decide +kernel⟩ (by decide) rfl rfl (fun _ => ⟨_, _, rfl, rfl⟩) dX11_lay_86)) <|
  .cons (ix_s_istore dX11_lay_89 (by decide)) <|
  .cons (ix_s_iload dX11_lay_91) <|
  .cons (ix_s_iload dX11_lay_93) <|
  .cons (ix_s_if_eq dX11_lay_95 (by decide)) <|
  .cons (ix_s_iconst dX11_lay_98 (by decide +kernel)) <|
  .cons (ix_s_goto dX11_lay_99 (by decide)) <|
  .cons (ix_s_iconst dX11_lay_102 (by decide +kernel)) <|
  .cons (ix_s_iadd dX11_lay_103) <|
  .cons (ix_s_istore dX11_lay_104 (by decide)) <|
  .cons (ix_s_iload dX11_lay_106) <|
  .cons (ix_s_if_eq dX11_lay_108 (by decide)) <|
  .cons (ix_s_iload dX11_lay_111) <|
  .cons (ix_s_goto dX11_lay_113 (by decide)) <|
  .cons (ix_s_iload dX11_lay_116) <|
  .cons (ix_s_istore dX11_lay_118 (by decide)) <|
  .cons (ix_s_iinc dX11_lay_120 (by decide +kernel) (by decide)) <|
  .cons (ix_s_goto dX11_lay_123 (by decide)) <|
  .cons (ix_s_aload_n dX11_lay_126 rfl) <|
  .cons (ix_s_getr (j := 0) tu_X11 rfl (by decide) (by decide) tw_875 rfl ts_10_0_r dX11_lay_127) <|
  .cons (ix_s_bipush dX11_lay_130 (by decide +kernel)) <|
  .cons (ix_s_iload_n dX11_lay_132 rfl) <|
  .cons (ix_s_iadd dX11_lay_133) <|
  .cons (ix_s_iload dX11_lay_134) <|
  .cons (ix_s_iast dX11_lay_136) <|
  .cons (ix_s_iload_n dX11_lay_137 rfl) <|
  .cons (ix_s_if_ne dX11_lay_138 (by decide)) <|
  .cons (ix_s_iload dX11_lay_141) <|
  .cons (ix_s_goto dX11_lay_143 (by decide)) <|
  .cons (ix_s_iload dX11_lay_146) <|
  .cons (ix_s_if_ge dX11_lay_148 (by decide)) <|
  .cons (ix_s_aload_n dX11_lay_151 rfl) <|
  .cons (ix_s_ldcw tw_1238 dX11_lay_152) <|
  .cons (oc_X11_finding_s (ix_s_callv (t := 10) (k_X11_finding l) (by decide) (by decide) tw_965 tw_12 tw_962 tw_964 tp_18 ⟨by decide, by decide, by decide +kernel⟩ (by decide) rfl rfl (fun _ => ⟨_, _, rfl, rfl⟩) dX11_lay_155)) <|
  .cons (ix_s_goto dX11_lay_158 (by decide)) <|
  .cons (ix_s_iload dX11_lay_161) <|
  .cons (ix_s_iret dX11_lay_163 rfl) <| .nil
theorem e_X11_lay_0 (Q : ix_R → Prop) (ls : ix_L) (st : List ix_V) (μ : ix_M) : ix_Ev o_X11_lay Q (0, ls, st, μ) = ix_iload 1 1 (ix_Ev o_X11_lay Q) Q ls st μ := ix_Ev.eq (a_X11_lay launch0) rfl ls st μ
theorem e_X11_lay_1 (Q : ix_R → Prop) (ls : ix_L) (st : List ix_V) (μ : ix_M) : ix_Ev o_X11_lay Q (1, ls, st, μ) = oc_X11_isSheet 4 (ix_Ev o_X11_lay Q) Q ls st μ := ix_Ev.eq (a_X11_lay launch0) rfl ls st μ
theorem e_X11_lay_4 (Q : ix_R → Prop) (ls : ix_L) (st : List ix_V) (μ : ix_M) : ix_Ev o_X11_lay Q (4, ls, st, μ) = ix_if (fun x => x = 0) 23 7 (ix_Ev o_X11_lay Q) Q ls st μ := ix_Ev.eq (a_X11_lay launch0) rfl ls st μ
theorem e_X11_lay_7 (Q : ix_R → Prop) (ls : ix_L) (st : List ix_V) (μ : ix_M) : ix_Ev o_X11_lay Q (7, ls, st, μ) = ix_iload 2 8 (ix_Ev o_X11_lay Q) Q ls st μ := ix_Ev.eq (a_X11_lay launch0) rfl ls st μ
theorem e_X11_lay_8 (Q : ix_R → Prop) (ls : ix_L) (st : List ix_V) (μ : ix_M) : ix_Ev o_X11_lay Q (8, ls, st, μ) = oc_X11_isCell 11 (ix_Ev o_X11_lay Q) Q ls st μ := ix_Ev.eq (a_X11_lay launch0) rfl ls st μ
theorem e_X11_lay_11 (Q : ix_R → Prop) (ls : ix_L) (st : List ix_V) (μ : ix_M) : ix_Ev o_X11_lay Q (11, ls, st, μ) = ix_if (fun x => x = 0) 23 14 (ix_Ev o_X11_lay Q) Q ls st μ := ix_Ev.eq (a_X11_lay launch0) rfl ls st μ
theorem e_X11_lay_14 (Q : ix_R → Prop) (ls : ix_L) (st : List ix_V) (μ : ix_M) : ix_Ev o_X11_lay Q (14, ls, st, μ) = ix_iload 3 15 (ix_Ev o_X11_lay Q) Q ls st μ := ix_Ev.eq (a_X11_lay launch0) rfl ls st μ
theorem e_X11_lay_15 (Q : ix_R → Prop) (ls : ix_L) (st : List ix_V) (μ : ix_M) : ix_Ev o_X11_lay Q (15, ls, st, μ) = ix_push (vi 0) 16 (ix_Ev o_X11_lay Q) Q ls st μ := ix_Ev.eq (a_X11_lay launch0) rfl ls st μ
theorem e_X11_lay_16 (Q : ix_R → Prop) (ls : ix_L) (st : List ix_V) (μ : ix_M) : ix_Ev o_X11_lay Q (16, ls, st, μ) = ix_push (vi 1) 17 (ix_Ev o_X11_lay Q) Q ls st μ := ix_Ev.eq (a_X11_lay launch0) rfl ls st μ
theorem e_X11_lay_17 (Q : ix_R → Prop) (ls : ix_L) (st : List ix_V) (μ : ix_M) : ix_Ev o_X11_lay Q (17, ls, st, μ) = oc_X11_within 20 (ix_Ev o_X11_lay Q) Q ls st μ := ix_Ev.eq (a_X11_lay launch0) rfl ls st μ
theorem e_X11_lay_20 (Q : ix_R → Prop) (ls : ix_L) (st : List ix_V) (μ : ix_M) : ix_Ev o_X11_lay Q (20, ls, st, μ) = ix_if (fun x => x = 0) 23 30 (ix_Ev o_X11_lay Q) Q ls st μ := ix_Ev.eq (a_X11_lay launch0) rfl ls st μ
theorem e_X11_lay_23 (Q : ix_R → Prop) (ls : ix_L) (st : List ix_V) (μ : ix_M) : ix_Ev o_X11_lay Q (23, ls, st, μ) = ix_aload 0 24 (ix_Ev o_X11_lay Q) Q ls st μ := ix_Ev.eq (a_X11_lay launch0) rfl ls st μ
theorem e_X11_lay_24 (Q : ix_R → Prop) (ls : ix_L) (st : List ix_V) (μ : ix_M) : ix_Ev o_X11_lay Q (24, ls, st, μ) = ix_push (vi (-1000000001)) 26 (ix_Ev o_X11_lay Q) Q ls st μ := ix_Ev.eq (a_X11_lay launch0) rfl ls st μ
theorem e_X11_lay_26 (Q : ix_R → Prop) (ls : ix_L) (st : List ix_V) (μ : ix_M) : ix_Ev o_X11_lay Q (26, ls, st, μ) = oc_X11_finding 29 (ix_Ev o_X11_lay Q) Q ls st μ := ix_Ev.eq (a_X11_lay launch0) rfl ls st μ
theorem e_X11_lay_29 (Q : ix_R → Prop) (ls : ix_L) (st : List ix_V) (μ : ix_M) : ix_Ev o_X11_lay Q (29, ls, st, μ) = ix_iret (ix_Ev o_X11_lay Q) Q ls st μ := ix_Ev.eq (a_X11_lay launch0) rfl ls st μ
theorem e_X11_lay_30 (Q : ix_R → Prop) (ls : ix_L) (st : List ix_V) (μ : ix_M) : ix_Ev o_X11_lay Q (30, ls, st, μ) = ix_aload 0 31 (ix_Ev o_X11_lay Q) Q ls st μ := ix_Ev.eq (a_X11_lay launch0) rfl ls st μ
theorem e_X11_lay_31 (Q : ix_R → Prop) (ls : ix_L) (st : List ix_V) (μ : ix_M) : ix_Ev o_X11_lay Q (31, ls, st, μ) = ix_getr 10 20 (fun _ => 123) 34 (ix_Ev o_X11_lay Q) Q ls st μ := ix_Ev.eq (a_X11_lay launch0) rfl ls st μ
theorem e_X11_lay_34 (Q : ix_R → Prop) (ls : ix_L) (st : List ix_V) (μ : ix_M) : ix_Ev o_X11_lay Q (34, ls, st, μ) = ix_iload 1 35 (ix_Ev o_X11_lay Q) Q ls st μ := ix_Ev.eq (a_X11_lay launch0) rfl ls st μ
theorem e_X11_lay_35 (Q : ix_R → Prop) (ls : ix_L) (st : List ix_V) (μ : ix_M) : ix_Ev o_X11_lay Q (35, ls, st, μ) = ix_iald 36 (ix_Ev o_X11_lay Q) Q ls st μ := ix_Ev.eq (a_X11_lay launch0) rfl ls st μ
theorem e_X11_lay_36 (Q : ix_R → Prop) (ls : ix_L) (st : List ix_V) (μ : ix_M) : ix_Ev o_X11_lay Q (36, ls, st, μ) = ix_if (fun x => x = 0) 39 47 (ix_Ev o_X11_lay Q) Q ls st μ := ix_Ev.eq (a_X11_lay launch0) rfl ls st μ
theorem e_X11_lay_39 (Q : ix_R → Prop) (ls : ix_L) (st : List ix_V) (μ : ix_M) : ix_Ev o_X11_lay Q (39, ls, st, μ) = ix_aload 0 40 (ix_Ev o_X11_lay Q) Q ls st μ := ix_Ev.eq (a_X11_lay launch0) rfl ls st μ
theorem e_X11_lay_40 (Q : ix_R → Prop) (ls : ix_L) (st : List ix_V) (μ : ix_M) : ix_Ev o_X11_lay Q (40, ls, st, μ) = ix_push (vi (-1000000002)) 43 (ix_Ev o_X11_lay Q) Q ls st μ := ix_Ev.eq (a_X11_lay launch0) rfl ls st μ
theorem e_X11_lay_43 (Q : ix_R → Prop) (ls : ix_L) (st : List ix_V) (μ : ix_M) : ix_Ev o_X11_lay Q (43, ls, st, μ) = oc_X11_finding 46 (ix_Ev o_X11_lay Q) Q ls st μ := ix_Ev.eq (a_X11_lay launch0) rfl ls st μ
theorem e_X11_lay_46 (Q : ix_R → Prop) (ls : ix_L) (st : List ix_V) (μ : ix_M) : ix_Ev o_X11_lay Q (46, ls, st, μ) = ix_iret (ix_Ev o_X11_lay Q) Q ls st μ := ix_Ev.eq (a_X11_lay launch0) rfl ls st μ
theorem e_X11_lay_47 (Q : ix_R → Prop) (ls : ix_L) (st : List ix_V) (μ : ix_M) : ix_Ev o_X11_lay Q (47, ls, st, μ) = ix_aload 0 48 (ix_Ev o_X11_lay Q) Q ls st μ := ix_Ev.eq (a_X11_lay launch0) rfl ls st μ
theorem e_X11_lay_48 (Q : ix_R → Prop) (ls : ix_L) (st : List ix_V) (μ : ix_M) : ix_Ev o_X11_lay Q (48, ls, st, μ) = ix_getr 10 20 (fun _ => 113) 51 (ix_Ev o_X11_lay Q) Q ls st μ := ix_Ev.eq (a_X11_lay launch0) rfl ls st μ
theorem e_X11_lay_51 (Q : ix_R → Prop) (ls : ix_L) (st : List ix_V) (μ : ix_M) : ix_Ev o_X11_lay Q (51, ls, st, μ) = ix_push (vi 34) 53 (ix_Ev o_X11_lay Q) Q ls st μ := ix_Ev.eq (a_X11_lay launch0) rfl ls st μ
theorem e_X11_lay_53 (Q : ix_R → Prop) (ls : ix_L) (st : List ix_V) (μ : ix_M) : ix_Ev o_X11_lay Q (53, ls, st, μ) = ix_iload 2 54 (ix_Ev o_X11_lay Q) Q ls st μ := ix_Ev.eq (a_X11_lay launch0) rfl ls st μ
theorem e_X11_lay_54 (Q : ix_R → Prop) (ls : ix_L) (st : List ix_V) (μ : ix_M) : ix_Ev o_X11_lay Q (54, ls, st, μ) = ix_bin (fun x y => x + y) 55 (ix_Ev o_X11_lay Q) Q ls st μ := ix_Ev.eq (a_X11_lay launch0) rfl ls st μ
theorem e_X11_lay_55 (Q : ix_R → Prop) (ls : ix_L) (st : List ix_V) (μ : ix_M) : ix_Ev o_X11_lay Q (55, ls, st, μ) = ix_iald 56 (ix_Ev o_X11_lay Q) Q ls st μ := ix_Ev.eq (a_X11_lay launch0) rfl ls st μ
theorem e_X11_lay_56 (Q : ix_R → Prop) (ls : ix_L) (st : List ix_V) (μ : ix_M) : ix_Ev o_X11_lay Q (56, ls, st, μ) = ix_istore 4 58 (ix_Ev o_X11_lay Q) Q ls st μ := ix_Ev.eq (a_X11_lay launch0) rfl ls st μ
theorem e_X11_lay_58 (Q : ix_R → Prop) (ls : ix_L) (st : List ix_V) (μ : ix_M) : ix_Ev o_X11_lay Q (58, ls, st, μ) = ix_push (vi 0) 59 (ix_Ev o_X11_lay Q) Q ls st μ := ix_Ev.eq (a_X11_lay launch0) rfl ls st μ
theorem e_X11_lay_59 (Q : ix_R → Prop) (ls : ix_L) (st : List ix_V) (μ : ix_M) : ix_Ev o_X11_lay Q (59, ls, st, μ) = ix_istore 5 61 (ix_Ev o_X11_lay Q) Q ls st μ := ix_Ev.eq (a_X11_lay launch0) rfl ls st μ
theorem e_X11_lay_61 (Q : ix_R → Prop) (ls : ix_L) (st : List ix_V) (μ : ix_M) : ix_Ev o_X11_lay Q (61, ls, st, μ) = ix_push (vi (-1)) 62 (ix_Ev o_X11_lay Q) Q ls st μ := ix_Ev.eq (a_X11_lay launch0) rfl ls st μ
theorem e_X11_lay_62 (Q : ix_R → Prop) (ls : ix_L) (st : List ix_V) (μ : ix_M) : ix_Ev o_X11_lay Q (62, ls, st, μ) = ix_istore 6 64 (ix_Ev o_X11_lay Q) Q ls st μ := ix_Ev.eq (a_X11_lay launch0) rfl ls st μ
theorem e_X11_lay_64 (Q : ix_R → Prop) (ls : ix_L) (st : List ix_V) (μ : ix_M) : ix_Ev o_X11_lay Q (64, ls, st, μ) = ix_push (vi 99) 66 (ix_Ev o_X11_lay Q) Q ls st μ := ix_Ev.eq (a_X11_lay launch0) rfl ls st μ
theorem e_X11_lay_66 (Q : ix_R → Prop) (ls : ix_L) (st : List ix_V) (μ : ix_M) : ix_Ev o_X11_lay Q (66, ls, st, μ) = ix_istore 7 68 (ix_Ev o_X11_lay Q) Q ls st μ := ix_Ev.eq (a_X11_lay launch0) rfl ls st μ
theorem e_X11_lay_68 (Q : ix_R → Prop) (ls : ix_L) (st : List ix_V) (μ : ix_M) : ix_Ev o_X11_lay Q (68, ls, st, μ) = ix_iload 7 70 (ix_Ev o_X11_lay Q) Q ls st μ := ix_Ev.eq (a_X11_lay launch0) rfl ls st μ
theorem e_X11_lay_70 (Q : ix_R → Prop) (ls : ix_L) (st : List ix_V) (μ : ix_M) : ix_Ev o_X11_lay Q (70, ls, st, μ) = ix_if (fun x => x < 0) 126 73 (ix_Ev o_X11_lay Q) Q ls st μ := ix_Ev.eq (a_X11_lay launch0) rfl ls st μ
theorem e_X11_lay_73 (Q : ix_R → Prop) (ls : ix_L) (st : List ix_V) (μ : ix_M) : ix_Ev o_X11_lay Q (73, ls, st, μ) = ix_aload 0 74 (ix_Ev o_X11_lay Q) Q ls st μ := ix_Ev.eq (a_X11_lay launch0) rfl ls st μ
theorem e_X11_lay_74 (Q : ix_R → Prop) (ls : ix_L) (st : List ix_V) (μ : ix_M) : ix_Ev o_X11_lay Q (74, ls, st, μ) = ix_getr 10 20 (fun _ => 113) 77 (ix_Ev o_X11_lay Q) Q ls st μ := ix_Ev.eq (a_X11_lay launch0) rfl ls st μ
theorem e_X11_lay_77 (Q : ix_R → Prop) (ls : ix_L) (st : List ix_V) (μ : ix_M) : ix_Ev o_X11_lay Q (77, ls, st, μ) = ix_push (vi 34) 79 (ix_Ev o_X11_lay Q) Q ls st μ := ix_Ev.eq (a_X11_lay launch0) rfl ls st μ
theorem e_X11_lay_79 (Q : ix_R → Prop) (ls : ix_L) (st : List ix_V) (μ : ix_M) : ix_Ev o_X11_lay Q (79, ls, st, μ) = ix_iload 2 80 (ix_Ev o_X11_lay Q) Q ls st μ := ix_Ev.eq (a_X11_lay launch0) rfl ls st μ
theorem e_X11_lay_80 (Q : ix_R → Prop) (ls : ix_L) (st : List ix_V) (μ : ix_M) : ix_Ev o_X11_lay Q (80, ls, st, μ) = ix_bin (fun x y => x + y) 81 (ix_Ev o_X11_lay Q) Q ls st μ := ix_Ev.eq (a_X11_lay launch0) rfl ls st μ
theorem e_X11_lay_81 (Q : ix_R → Prop) (ls : ix_L) (st : List ix_V) (μ : ix_M) : ix_Ev o_X11_lay Q (81, ls, st, μ) = ix_iload 7 83 (ix_Ev o_X11_lay Q) Q ls st μ := ix_Ev.eq (a_X11_lay launch0) rfl ls st μ
theorem e_X11_lay_83 (Q : ix_R → Prop) (ls : ix_L) (st : List ix_V) (μ : ix_M) : ix_Ev o_X11_lay Q (83, ls, st, μ) = ix_iast 84 (ix_Ev o_X11_lay Q) Q ls st μ := ix_Ev.eq (a_X11_lay launch0) rfl ls st μ
theorem e_X11_lay_84 (Q : ix_R → Prop) (ls : ix_L) (st : List ix_V) (μ : ix_M) : ix_Ev o_X11_lay Q (84, ls, st, μ) = ix_aload 0 85 (ix_Ev o_X11_lay Q) Q ls st μ := ix_Ev.eq (a_X11_lay launch0) rfl ls st μ
theorem e_X11_lay_85 (Q : ix_R → Prop) (ls : ix_L) (st : List ix_V) (μ : ix_M) : ix_Ev o_X11_lay Q (85, ls, st, μ) = ix_iload 1 86 (ix_Ev o_X11_lay Q) Q ls st μ := ix_Ev.eq (a_X11_lay launch0) rfl ls st μ
theorem e_X11_lay_86 (Q : ix_R → Prop) (ls : ix_L) (st : List ix_V) (μ : ix_M) : ix_Ev o_X11_lay Q (86, ls, st, μ) = oc_X11_isSoHad 89 (ix_Ev o_X11_lay Q) Q ls st μ := ix_Ev.eq (a_X11_lay launch0) rfl ls st μ
theorem e_X11_lay_89 (Q : ix_R → Prop) (ls : ix_L) (st : List ix_V) (μ : ix_M) : ix_Ev o_X11_lay Q (89, ls, st, μ) = ix_istore 8 91 (ix_Ev o_X11_lay Q) Q ls st μ := ix_Ev.eq (a_X11_lay launch0) rfl ls st μ
theorem e_X11_lay_91 (Q : ix_R → Prop) (ls : ix_L) (st : List ix_V) (μ : ix_M) : ix_Ev o_X11_lay Q (91, ls, st, μ) = ix_iload 5 93 (ix_Ev o_X11_lay Q) Q ls st μ := ix_Ev.eq (a_X11_lay launch0) rfl ls st μ
theorem e_X11_lay_93 (Q : ix_R → Prop) (ls : ix_L) (st : List ix_V) (μ : ix_M) : ix_Ev o_X11_lay Q (93, ls, st, μ) = ix_iload 8 95 (ix_Ev o_X11_lay Q) Q ls st μ := ix_Ev.eq (a_X11_lay launch0) rfl ls st μ
theorem e_X11_lay_95 (Q : ix_R → Prop) (ls : ix_L) (st : List ix_V) (μ : ix_M) : ix_Ev o_X11_lay Q (95, ls, st, μ) = ix_if (fun x => x = 0) 102 98 (ix_Ev o_X11_lay Q) Q ls st μ := ix_Ev.eq (a_X11_lay launch0) rfl ls st μ
theorem e_X11_lay_98 (Q : ix_R → Prop) (ls : ix_L) (st : List ix_V) (μ : ix_M) : ix_Ev o_X11_lay Q (98, ls, st, μ) = ix_push (vi 1) 99 (ix_Ev o_X11_lay Q) Q ls st μ := ix_Ev.eq (a_X11_lay launch0) rfl ls st μ
theorem e_X11_lay_99 (Q : ix_R → Prop) (ls : ix_L) (st : List ix_V) (μ : ix_M) : ix_Ev o_X11_lay Q (99, ls, st, μ) = ix_goto 103 (ix_Ev o_X11_lay Q) Q ls st μ := ix_Ev.eq (a_X11_lay launch0) rfl ls st μ
theorem e_X11_lay_102 (Q : ix_R → Prop) (ls : ix_L) (st : List ix_V) (μ : ix_M) : ix_Ev o_X11_lay Q (102, ls, st, μ) = ix_push (vi 0) 103 (ix_Ev o_X11_lay Q) Q ls st μ := ix_Ev.eq (a_X11_lay launch0) rfl ls st μ
theorem e_X11_lay_103 (Q : ix_R → Prop) (ls : ix_L) (st : List ix_V) (μ : ix_M) : ix_Ev o_X11_lay Q (103, ls, st, μ) = ix_bin (fun x y => x + y) 104 (ix_Ev o_X11_lay Q) Q ls st μ := ix_Ev.eq (a_X11_lay launch0) rfl ls st μ
theorem e_X11_lay_104 (Q : ix_R → Prop) (ls : ix_L) (st : List ix_V) (μ : ix_M) : ix_Ev o_X11_lay Q (104, ls, st, μ) = ix_istore 5 106 (ix_Ev o_X11_lay Q) Q ls st μ := ix_Ev.eq (a_X11_lay launch0) rfl ls st μ
theorem e_X11_lay_106 (Q : ix_R → Prop) (ls : ix_L) (st : List ix_V) (μ : ix_M) : ix_Ev o_X11_lay Q (106, ls, st, μ) = ix_iload 8 108 (ix_Ev o_X11_lay Q) Q ls st μ := ix_Ev.eq (a_X11_lay launch0) rfl ls st μ
theorem e_X11_lay_108 (Q : ix_R → Prop) (ls : ix_L) (st : List ix_V) (μ : ix_M) : ix_Ev o_X11_lay Q (108, ls, st, μ) = ix_if (fun x => x = 0) 116 111 (ix_Ev o_X11_lay Q) Q ls st μ := ix_Ev.eq (a_X11_lay launch0) rfl ls st μ
theorem e_X11_lay_111 (Q : ix_R → Prop) (ls : ix_L) (st : List ix_V) (μ : ix_M) : ix_Ev o_X11_lay Q (111, ls, st, μ) = ix_iload 7 113 (ix_Ev o_X11_lay Q) Q ls st μ := ix_Ev.eq (a_X11_lay launch0) rfl ls st μ
theorem e_X11_lay_113 (Q : ix_R → Prop) (ls : ix_L) (st : List ix_V) (μ : ix_M) : ix_Ev o_X11_lay Q (113, ls, st, μ) = ix_goto 118 (ix_Ev o_X11_lay Q) Q ls st μ := ix_Ev.eq (a_X11_lay launch0) rfl ls st μ
theorem e_X11_lay_116 (Q : ix_R → Prop) (ls : ix_L) (st : List ix_V) (μ : ix_M) : ix_Ev o_X11_lay Q (116, ls, st, μ) = ix_iload 6 118 (ix_Ev o_X11_lay Q) Q ls st μ := ix_Ev.eq (a_X11_lay launch0) rfl ls st μ
theorem e_X11_lay_118 (Q : ix_R → Prop) (ls : ix_L) (st : List ix_V) (μ : ix_M) : ix_Ev o_X11_lay Q (118, ls, st, μ) = ix_istore 6 120 (ix_Ev o_X11_lay Q) Q ls st μ := ix_Ev.eq (a_X11_lay launch0) rfl ls st μ
theorem e_X11_lay_120 (Q : ix_R → Prop) (ls : ix_L) (st : List ix_V) (μ : ix_M) : ix_Ev o_X11_lay Q (120, ls, st, μ) = ix_iinc 7 (-1) 123 (ix_Ev o_X11_lay Q) Q ls st μ := ix_Ev.eq (a_X11_lay launch0) rfl ls st μ
theorem e_X11_lay_123 (Q : ix_R → Prop) (ls : ix_L) (st : List ix_V) (μ : ix_M) : ix_Ev o_X11_lay Q (123, ls, st, μ) = ix_goto 68 (ix_Ev o_X11_lay Q) Q ls st μ := ix_Ev.eq (a_X11_lay launch0) rfl ls st μ
theorem e_X11_lay_126 (Q : ix_R → Prop) (ls : ix_L) (st : List ix_V) (μ : ix_M) : ix_Ev o_X11_lay Q (126, ls, st, μ) = ix_aload 0 127 (ix_Ev o_X11_lay Q) Q ls st μ := ix_Ev.eq (a_X11_lay launch0) rfl ls st μ
theorem e_X11_lay_127 (Q : ix_R → Prop) (ls : ix_L) (st : List ix_V) (μ : ix_M) : ix_Ev o_X11_lay Q (127, ls, st, μ) = ix_getr 10 20 (fun _ => 113) 130 (ix_Ev o_X11_lay Q) Q ls st μ := ix_Ev.eq (a_X11_lay launch0) rfl ls st μ
theorem e_X11_lay_130 (Q : ix_R → Prop) (ls : ix_L) (st : List ix_V) (μ : ix_M) : ix_Ev o_X11_lay Q (130, ls, st, μ) = ix_push (vi 34) 132 (ix_Ev o_X11_lay Q) Q ls st μ := ix_Ev.eq (a_X11_lay launch0) rfl ls st μ
theorem e_X11_lay_132 (Q : ix_R → Prop) (ls : ix_L) (st : List ix_V) (μ : ix_M) : ix_Ev o_X11_lay Q (132, ls, st, μ) = ix_iload 2 133 (ix_Ev o_X11_lay Q) Q ls st μ := ix_Ev.eq (a_X11_lay launch0) rfl ls st μ
theorem e_X11_lay_133 (Q : ix_R → Prop) (ls : ix_L) (st : List ix_V) (μ : ix_M) : ix_Ev o_X11_lay Q (133, ls, st, μ) = ix_bin (fun x y => x + y) 134 (ix_Ev o_X11_lay Q) Q ls st μ := ix_Ev.eq (a_X11_lay launch0) rfl ls st μ
theorem e_X11_lay_134 (Q : ix_R → Prop) (ls : ix_L) (st : List ix_V) (μ : ix_M) : ix_Ev o_X11_lay Q (134, ls, st, μ) = ix_iload 4 136 (ix_Ev o_X11_lay Q) Q ls st μ := ix_Ev.eq (a_X11_lay launch0) rfl ls st μ
theorem e_X11_lay_136 (Q : ix_R → Prop) (ls : ix_L) (st : List ix_V) (μ : ix_M) : ix_Ev o_X11_lay Q (136, ls, st, μ) = ix_iast 137 (ix_Ev o_X11_lay Q) Q ls st μ := ix_Ev.eq (a_X11_lay launch0) rfl ls st μ
theorem e_X11_lay_137 (Q : ix_R → Prop) (ls : ix_L) (st : List ix_V) (μ : ix_M) : ix_Ev o_X11_lay Q (137, ls, st, μ) = ix_iload 3 138 (ix_Ev o_X11_lay Q) Q ls st μ := ix_Ev.eq (a_X11_lay launch0) rfl ls st μ
theorem e_X11_lay_138 (Q : ix_R → Prop) (ls : ix_L) (st : List ix_V) (μ : ix_M) : ix_Ev o_X11_lay Q (138, ls, st, μ) = ix_if (fun x => x = 0) 141 146 (ix_Ev o_X11_lay Q) Q ls st μ := ix_Ev.eq (a_X11_lay launch0) rfl ls st μ
theorem e_X11_lay_141 (Q : ix_R → Prop) (ls : ix_L) (st : List ix_V) (μ : ix_M) : ix_Ev o_X11_lay Q (141, ls, st, μ) = ix_iload 5 143 (ix_Ev o_X11_lay Q) Q ls st μ := ix_Ev.eq (a_X11_lay launch0) rfl ls st μ
theorem e_X11_lay_143 (Q : ix_R → Prop) (ls : ix_L) (st : List ix_V) (μ : ix_M) : ix_Ev o_X11_lay Q (143, ls, st, μ) = ix_goto 163 (ix_Ev o_X11_lay Q) Q ls st μ := ix_Ev.eq (a_X11_lay launch0) rfl ls st μ
theorem e_X11_lay_146 (Q : ix_R → Prop) (ls : ix_L) (st : List ix_V) (μ : ix_M) : ix_Ev o_X11_lay Q (146, ls, st, μ) = ix_iload 6 148 (ix_Ev o_X11_lay Q) Q ls st μ := ix_Ev.eq (a_X11_lay launch0) rfl ls st μ
theorem e_X11_lay_148 (Q : ix_R → Prop) (ls : ix_L) (st : List ix_V) (μ : ix_M) : ix_Ev o_X11_lay Q (148, ls, st, μ) = ix_if (fun x => 0 ≤ x) 161 151 (ix_Ev o_X11_lay Q) Q ls st μ := ix_Ev.eq (a_X11_lay launch0) rfl ls st μ
theorem e_X11_lay_151 (Q : ix_R → Prop) (ls : ix_L) (st : List ix_V) (μ : ix_M) : ix_Ev o_X11_lay Q (151, ls, st, μ) = ix_aload 0 152 (ix_Ev o_X11_lay Q) Q ls st μ := ix_Ev.eq (a_X11_lay launch0) rfl ls st μ
theorem e_X11_lay_152 (Q : ix_R → Prop) (ls : ix_L) (st : List ix_V) (μ : ix_M) : ix_Ev o_X11_lay Q (152, ls, st, μ) = ix_push (vi (-1000000002)) 155 (ix_Ev o_X11_lay Q) Q ls st μ := ix_Ev.eq (a_X11_lay launch0) rfl ls st μ
theorem e_X11_lay_155 (Q : ix_R → Prop) (ls : ix_L) (st : List ix_V) (μ : ix_M) : ix_Ev o_X11_lay Q (155, ls, st, μ) = oc_X11_finding 158 (ix_Ev o_X11_lay Q) Q ls st μ := ix_Ev.eq (a_X11_lay launch0) rfl ls st μ
theorem e_X11_lay_158 (Q : ix_R → Prop) (ls : ix_L) (st : List ix_V) (μ : ix_M) : ix_Ev o_X11_lay Q (158, ls, st, μ) = ix_goto 163 (ix_Ev o_X11_lay Q) Q ls st μ := ix_Ev.eq (a_X11_lay launch0) rfl ls st μ
theorem e_X11_lay_161 (Q : ix_R → Prop) (ls : ix_L) (st : List ix_V) (μ : ix_M) : ix_Ev o_X11_lay Q (161, ls, st, μ) = ix_iload 6 163 (ix_Ev o_X11_lay Q) Q ls st μ := ix_Ev.eq (a_X11_lay launch0) rfl ls st μ
theorem e_X11_lay_163 (Q : ix_R → Prop) (ls : ix_L) (st : List ix_V) (μ : ix_M) : ix_Ev o_X11_lay Q (163, ls, st, μ) = ix_iret (ix_Ev o_X11_lay Q) Q ls st μ := ix_Ev.eq (a_X11_lay launch0) rfl ls st μ
theorem l_X10_lay {M S C N : Nat} {p : Int32} {ds dl : List Int32} {μ0 : ix_M} {Q : ix_R → Prop} {f : Nat → Int32} (hf : f = fun k => fUn ds dl (μ0 (101 + 3 * S)) N 0 (setV 2 C (nI k) (wv μ0 2))) (hS : S < 4) (hC : C < 16) (hR : WR (wv μ0 2) M) (hM : M ≤ 9999) (hN : N ≤ 40) (hs : μ0 (100 + 3 * S) 1 = nI N) (hL : LW μ0 ds dl) (h1 : p = 1 → ∀ m, m ≤ 99 → f m = -1 → (∀ j, j < m → ¬ f j = -1) → ∀ μ', Fx wT μ0 μ' → Q (some (vi (nI m)), μ')) (h2 : p = 1 → (∀ j, j ≤ 99 → ¬ f j = -1) → ∀ μ', Fx wT μ0 μ' → Q (some (vi (-1000000002)), ix_up μ' 111 2 (μ' 111 2 + 1))) (h3 : ¬ p = 1 → ∀ μ', Fx wT μ0 μ' → Q (some (vi (nI (lC f 100))), μ')) : ∀ (k n : Nat) (μ : ix_M), n + k = 100 → Fx wT μ0 μ → (p = 1 → ∀ j, j < n → ¬ f j = -1) → ix_Ev o_X10_lay Q (55, [some (vr 9 0), some (vi (nI S)), some (vi (nI C)), some (vi p), some (vi (nI (lC f n))), some (vi (nI n))], [], μ) := by
  have Sc : (nI S).toNatClampNeg = S := nI_clamp (by omega)
  have v4 : vp_in (nI S) 4 := vp_in_nI hS (by decide)
  intro k
  induction k with
  | zero =>
    intro n μ hn hF hj
    have hn : n = 100 := hn
    subst hn
    have c1 : 99 < nI 100 := by decide
    rw [e_X10_lay_55]
    simp (decide := true) only [e_X10_lay_0, e_X10_lay_1, e_X10_lay_2, e_X10_lay_5, e_X10_lay_8, e_X10_lay_9, e_X10_lay_11, e_X10_lay_14, e_X10_lay_17, e_X10_lay_18, e_X10_lay_19, e_X10_lay_22, e_X10_lay_25, e_X10_lay_26, e_X10_lay_27, e_X10_lay_30, e_X10_lay_31, e_X10_lay_32, e_X10_lay_35, e_X10_lay_36, e_X10_lay_37, e_X10_lay_40, e_X10_lay_43, e_X10_lay_44, e_X10_lay_45, e_X10_lay_48, e_X10_lay_49, e_X10_lay_50, e_X10_lay_52, e_X10_lay_53, e_X10_lay_57, e_X10_lay_59, e_X10_lay_62, e_X10_lay_63, e_X10_lay_64, e_X10_lay_65, e_X10_lay_66, e_X10_lay_68, e_X10_lay_71, e_X10_lay_72, e_X10_lay_75, e_X10_lay_76, e_X10_lay_77, e_X10_lay_80, e_X10_lay_83, e_X10_lay_84, e_X10_lay_87, e_X10_lay_88, e_X10_lay_89, e_X10_lay_92, e_X10_lay_94, e_X10_lay_95, e_X10_lay_98, e_X10_lay_101, e_X10_lay_104, e_X10_lay_105, e_X10_lay_106, e_X10_lay_109, e_X10_lay_110, e_X10_lay_111, e_X10_lay_114, e_X10_lay_117, e_X10_lay_119, vi, vl, vr, oc_X10_error, T_X10_error, oc_X10_firstUnlike, T_X10_firstUnlike, oc_X10_outside, T_X10_outside, oc_X10_suppose, T_X10_suppose, oc_X5_isMissing, T_X5_isMissing, ix_push, ix_iload, ix_lload, ix_aload, ix_istore, ix_astore, ix_iinc, ix_bin, ix_div, ix_un, ix_i2l, ix_l2i, ix_lbin, ix_lsh, ix_lcmp, ix_dup, ix_dup2, ix_pop, ix_if, ix_cmp, ix_goto, ix_switch, ix_sw, ix_iret, ix_zret, ix_vret, ix_aret, ix_geti, ix_getr, ix_puti, ix_putz, ix_puts, ix_gets, ix_iald, ix_iast, ix_alen, ix_aald, ix_gval, ix_gcod, ix_bald, ix_blen, ix_sald, ix_nret, ix_math2, ix_math1, ix_acopy, Nat.add_assoc, Int32.reduceLT, Int32.reduceLE, Int32.reduceToNatClampNeg, Int32.reduceSub, Int32.reduceAdd, Nat.reduceAdd, Nat.reduceLeDiff, true_or, or_true, or_false, false_or, not_false_eq_true, not_true_eq_false, false_implies, true_implies, implies_true, and_self, mB_0, mB_01, Classical.not_not, Nat.zero_le, List.getElem?_cons_zero, List.getElem?_cons_succ, List.set_cons_zero, List.set_cons_succ, ix_nl, ix_cs, true_and, and_true, Option.toList_some, Option.toList_none, List.cons_append, List.nil_append, c1]
    exact ⟨fun z => h2 z (fun j hj' => hj z j (by omega)) μ hF, fun z => h3 z μ hF⟩
  | succ k ih =>
    intro n μ hn hF hj
    have c1 : ¬ 99 < nI n := nI_nlt (a := 99) (b := n) (by omega) (by decide)
    have n1 : nI n + 1 = nI (n + 1) := nI_1 n
    have n2 : nI (lC f n) + 1 = nI (lC f n + 1) := nI_1 _
    rw [e_X10_lay_55]
    simp (decide := true) only [e_X10_lay_0, e_X10_lay_1, e_X10_lay_2, e_X10_lay_5, e_X10_lay_8, e_X10_lay_9, e_X10_lay_11, e_X10_lay_14, e_X10_lay_17, e_X10_lay_18, e_X10_lay_19, e_X10_lay_22, e_X10_lay_25, e_X10_lay_26, e_X10_lay_27, e_X10_lay_30, e_X10_lay_31, e_X10_lay_32, e_X10_lay_35, e_X10_lay_36, e_X10_lay_37, e_X10_lay_40, e_X10_lay_43, e_X10_lay_44, e_X10_lay_45, e_X10_lay_48, e_X10_lay_49, e_X10_lay_50, e_X10_lay_52, e_X10_lay_53, e_X10_lay_57, e_X10_lay_59, e_X10_lay_62, e_X10_lay_63, e_X10_lay_64, e_X10_lay_65, e_X10_lay_66, e_X10_lay_68, e_X10_lay_71, e_X10_lay_72, e_X10_lay_75, e_X10_lay_76, e_X10_lay_77, e_X10_lay_80, e_X10_lay_83, e_X10_lay_84, e_X10_lay_87, e_X10_lay_88, e_X10_lay_89, e_X10_lay_92, e_X10_lay_94, e_X10_lay_95, e_X10_lay_98, e_X10_lay_101, e_X10_lay_104, e_X10_lay_105, e_X10_lay_106, e_X10_lay_109, e_X10_lay_110, e_X10_lay_111, e_X10_lay_114, e_X10_lay_117, e_X10_lay_119, vi, vl, vr, oc_X10_error, T_X10_error, oc_X10_firstUnlike, T_X10_firstUnlike, oc_X10_outside, T_X10_outside, oc_X10_suppose, T_X10_suppose, oc_X5_isMissing, T_X5_isMissing, ix_push, ix_iload, ix_lload, ix_aload, ix_istore, ix_astore, ix_iinc, ix_bin, ix_div, ix_un, ix_i2l, ix_l2i, ix_lbin, ix_lsh, ix_lcmp, ix_dup, ix_dup2, ix_pop, ix_if, ix_cmp, ix_goto, ix_switch, ix_sw, ix_iret, ix_zret, ix_vret, ix_aret, ix_geti, ix_getr, ix_puti, ix_putz, ix_puts, ix_gets, ix_iald, ix_iast, ix_alen, ix_aald, ix_gval, ix_gcod, ix_bald, ix_blen, ix_sald, ix_nret, ix_math2, ix_math1, ix_acopy, Nat.add_assoc, Int32.reduceLT, Int32.reduceLE, Int32.reduceToNatClampNeg, Int32.reduceSub, Int32.reduceAdd, Nat.reduceAdd, Nat.reduceLeDiff, true_or, or_true, or_false, false_or, not_false_eq_true, not_true_eq_false, false_implies, true_implies, implies_true, and_self, mB_0, mB_01, Classical.not_not, Nat.zero_le, List.getElem?_cons_zero, List.getElem?_cons_succ, List.set_cons_zero, List.set_cons_succ, ix_nl, ix_cs, true_and, and_true, Option.toList_some, Option.toList_none, List.cons_append, List.nil_append, c1, n1, n2, Sc, v4]
    refine ⟨⟨fun z => absurd z (by decide), fun z => absurd z (by decide), fun z => absurd z (by decide), fun _ => vp_in_nI (by omega) (by decide)⟩, fun μ1 F1 V1 => ?_⟩
    have F01 : Fx wT μ0 μ1 := hF.tr (F1.mono (by decide))
    have e2 : wv μ 2 = wv μ0 2 := wv_fx (fun r hr => hF _ (by simp [wT]; omega))
    have hV : wv μ1 48 = setV 2 C (nI n) (wv μ0 2) := by
      rw [V1, e2]
      simp (decide := true) only [supR, supI, if_true, if_false, nI_clamp (show C < 2 ^ 31 by omega)]
    have ee : ∀ a, 88 ≤ a → μ1 a = μ0 a := fun a ha => F01 a (by simp [wT]; omega)
    have ef : fUn ds dl (μ1 (99 + (3 * S + 2))) N 0 (wv μ1 48) = f n := by
      rw [hV, hf, ee _ (by omega), show 99 + (3 * S + 2) = 101 + 3 * S by omega]
    have hlen : ix_len (99 + (3 * S + 2)) = 40 := shLen S hS
    refine ⟨M, N, ds, dl, by rw [hV]; exact (wr_set hR (by unfold wrB; omega)).1, by rw [ee _ (by omega), show 99 + (3 * S + 1) = 100 + 3 * S by omega]; exact hs, hN, by rw [hlen]; exact hN, by omega, hL.fx F01 (by decide), by simp [wP]; omega, by simp [wP]; omega, fun μ2 F2 => ?_⟩
    rw [ef]
    have F02 : Fx wT μ0 μ2 := F01.tr (F2.mono (by decide))
    have := ih (n + 1) μ2 (by omega) F02
    rw [lC] at this
    refine ⟨fun z => ⟨fun y => h1 y n (by omega) z (hj y) μ2 F02, fun y => ?_⟩, fun z => ?_⟩
    · rw [if_pos z] at this
      exact this (fun y' => absurd y' y)
    · rw [if_neg z] at this
      refine this (fun y j hj' => ?_)
      by_cases c : j = n
      · rw [c]
        exact z
      · exact hj y j (by omega)
theorem l_X11_lay {M S C N : Nat} {w p : Int32} {ds dl : List Int32} {μ0 : ix_M} {Q : ix_R → Prop} {f : Nat → Int32} (hf : f = fun k => fUn ds dl (fun j => μ0 125 (40 * S + j)) N 0 (setV 2 C (nI k) (nv (μ0 113)))) (hS : S < 4) (hC : C < 16) (hW : MW μ0 M ds dl) (hM : M ≤ 9999) (hN : N ≤ 40) (hs : μ0 124 S = nI N) (hl : μ0 112 5 = -1) (hw : μ0 113 (34 + C) = w) (P : Nat → Int32 → Int32 → Prop) (hP : ∀ d x y, d < 100 → P (d + 1) x y → P d (if f d = -1 then x + 1 else x) (if f d = -1 then nI d else y)) (h1 : ∀ x y μ', P 0 x y → Fx [113, 115, 119, 120] μ0 μ' → RE (μ' 113) (μ0 113) → (p = 0 → Q (some (vi x), μ')) ∧ (¬ p = 0 → (¬ 0 ≤ y → Q (some (vi (-1000000002)), ix_up μ' 116 2 (μ' 116 2 + 1))) ∧ (0 ≤ y → Q (some (vi y), μ')))) : ∀ (d : Nat) (x y : Int32) (μ : ix_M) (x8 : Option ix_V), d ≤ 100 → P d x y → Fx [113, 115, 119, 120] μ0 μ → (∀ j, j < 256 → j ≠ 34 + C → μ 113 j = μ0 113 j) → ix_Ev o_X11_lay Q (68, [some (vr 10 112), some (vi (nI S)), some (vi (nI C)), some (vi p), some (vi w), some (vi x), some (vi y), some (vi (dn d)), x8], [], μ) := by
  obtain ⟨y1, y2, y3⟩ := mix 34 C (by omega)
  have y1 : (34 : Int32) + nI C = nI (34 + C) := y1
  intro d
  induction d with
  | zero =>
    intro x y μ x8 _ hPx hF hr
    have c1 : dn 0 < 0 := by decide
    rw [e_X11_lay_68]
    simp (decide := true) only [e_X11_lay_0, e_X11_lay_1, e_X11_lay_4, e_X11_lay_7, e_X11_lay_8, e_X11_lay_11, e_X11_lay_14, e_X11_lay_15, e_X11_lay_16, e_X11_lay_17, e_X11_lay_20, e_X11_lay_23, e_X11_lay_24, e_X11_lay_26, e_X11_lay_29, e_X11_lay_30, e_X11_lay_31, e_X11_lay_34, e_X11_lay_35, e_X11_lay_36, e_X11_lay_39, e_X11_lay_40, e_X11_lay_43, e_X11_lay_46, e_X11_lay_47, e_X11_lay_48, e_X11_lay_51, e_X11_lay_53, e_X11_lay_54, e_X11_lay_55, e_X11_lay_56, e_X11_lay_58, e_X11_lay_59, e_X11_lay_61, e_X11_lay_62, e_X11_lay_64, e_X11_lay_66, e_X11_lay_70, e_X11_lay_73, e_X11_lay_74, e_X11_lay_77, e_X11_lay_79, e_X11_lay_80, e_X11_lay_81, e_X11_lay_83, e_X11_lay_84, e_X11_lay_85, e_X11_lay_86, e_X11_lay_89, e_X11_lay_91, e_X11_lay_93, e_X11_lay_95, e_X11_lay_98, e_X11_lay_99, e_X11_lay_102, e_X11_lay_103, e_X11_lay_104, e_X11_lay_106, e_X11_lay_108, e_X11_lay_111, e_X11_lay_113, e_X11_lay_116, e_X11_lay_118, e_X11_lay_120, e_X11_lay_123, e_X11_lay_126, e_X11_lay_127, e_X11_lay_130, e_X11_lay_132, e_X11_lay_133, e_X11_lay_134, e_X11_lay_136, e_X11_lay_137, e_X11_lay_138, e_X11_lay_141, e_X11_lay_143, e_X11_lay_146, e_X11_lay_148, e_X11_lay_151, e_X11_lay_152, e_X11_lay_155, e_X11_lay_158, e_X11_lay_161, e_X11_lay_163, vi, vl, vr, oc_X11_finding, T_X11_finding, oc_X11_isCell, T_X11_isCell, oc_X11_isSheet, T_X11_isSheet, oc_X11_isSoHad, T_X11_isSoHad, oc_X11_within, T_X11_within, ix_push, ix_iload, ix_lload, ix_aload, ix_istore, ix_astore, ix_iinc, ix_bin, ix_div, ix_un, ix_i2l, ix_l2i, ix_lbin, ix_lsh, ix_lcmp, ix_dup, ix_dup2, ix_pop, ix_if, ix_cmp, ix_goto, ix_switch, ix_sw, ix_iret, ix_zret, ix_vret, ix_aret, ix_geti, ix_getr, ix_puti, ix_putz, ix_puts, ix_gets, ix_iald, ix_iast, ix_alen, ix_aald, ix_gval, ix_gcod, ix_bald, ix_blen, ix_sald, ix_nret, ix_math2, ix_math1, ix_acopy, ml_113, ml_114, ml_115, ml_116, ml_118, ml_119, ml_120, ml_121, ml_122, ml_123, ml_124, ml_125, ml_126, mv_0, mv_1, mv_2, mv_3, mv_4, mv_5, mB_or, Nat.add_assoc, Int32.reduceLT, Int32.reduceLE, Int32.reduceToNatClampNeg, Int32.reduceSub, Int32.reduceAdd, Nat.reduceAdd, Nat.reduceLeDiff, true_or, or_true, or_false, false_or, not_false_eq_true, not_true_eq_false, false_implies, true_implies, implies_true, and_self, mB_0, mB_01, Classical.not_not, Nat.zero_le, List.getElem?_cons_zero, List.getElem?_cons_succ, List.set_cons_zero, List.set_cons_succ, ix_nl, ix_cs, true_and, and_true, Option.toList_some, Option.toList_none, List.cons_append, List.nil_append, c1, y1, y2, y3, ve_2]
    have q := h1 x y (ix_up μ 113 (34 + C) w) hPx (hF.up (by simp)) (fun j hj => by
      rw [ix_up_ap]
      by_cases c : j = 34 + C
      · rw [if_pos ⟨rfl, c⟩, c, hw]
      · rw [if_neg (fun z => c z.2)]
        exact hr j hj c)
    exact ⟨q.1, fun z => ⟨(q.2 z).2, (q.2 z).1⟩⟩
  | succ d ih =>
    intro x y μ x8 hd hPx hF hr
    have c1 : ¬ dn (d + 1) < 0 := nI_pos (by omega)
    have c2 : dn (d + 1) = nI d := rfl
    have n1 : nI d + -1 = dn d := dn_s d
    have n2 : x + 0 = x := Int32.add_zero _
    have c3 : ¬ nI d < 0 := nI_pos (by omega)
    rw [e_X11_lay_68]
    simp (decide := true) only [e_X11_lay_0, e_X11_lay_1, e_X11_lay_4, e_X11_lay_7, e_X11_lay_8, e_X11_lay_11, e_X11_lay_14, e_X11_lay_15, e_X11_lay_16, e_X11_lay_17, e_X11_lay_20, e_X11_lay_23, e_X11_lay_24, e_X11_lay_26, e_X11_lay_29, e_X11_lay_30, e_X11_lay_31, e_X11_lay_34, e_X11_lay_35, e_X11_lay_36, e_X11_lay_39, e_X11_lay_40, e_X11_lay_43, e_X11_lay_46, e_X11_lay_47, e_X11_lay_48, e_X11_lay_51, e_X11_lay_53, e_X11_lay_54, e_X11_lay_55, e_X11_lay_56, e_X11_lay_58, e_X11_lay_59, e_X11_lay_61, e_X11_lay_62, e_X11_lay_64, e_X11_lay_66, e_X11_lay_70, e_X11_lay_73, e_X11_lay_74, e_X11_lay_77, e_X11_lay_79, e_X11_lay_80, e_X11_lay_81, e_X11_lay_83, e_X11_lay_84, e_X11_lay_85, e_X11_lay_86, e_X11_lay_89, e_X11_lay_91, e_X11_lay_93, e_X11_lay_95, e_X11_lay_98, e_X11_lay_99, e_X11_lay_102, e_X11_lay_103, e_X11_lay_104, e_X11_lay_106, e_X11_lay_108, e_X11_lay_111, e_X11_lay_113, e_X11_lay_116, e_X11_lay_118, e_X11_lay_120, e_X11_lay_123, e_X11_lay_126, e_X11_lay_127, e_X11_lay_130, e_X11_lay_132, e_X11_lay_133, e_X11_lay_134, e_X11_lay_136, e_X11_lay_137, e_X11_lay_138, e_X11_lay_141, e_X11_lay_143, e_X11_lay_146, e_X11_lay_148, e_X11_lay_151, e_X11_lay_152, e_X11_lay_155, e_X11_lay_158, e_X11_lay_161, e_X11_lay_163, vi, vl, vr, oc_X11_finding, T_X11_finding, oc_X11_isCell, T_X11_isCell, oc_X11_isSheet, T_X11_isSheet, oc_X11_isSoHad, T_X11_isSoHad, oc_X11_within, T_X11_within, ix_push, ix_iload, ix_lload, ix_aload, ix_istore, ix_astore, ix_iinc, ix_bin, ix_div, ix_un, ix_i2l, ix_l2i, ix_lbin, ix_lsh, ix_lcmp, ix_dup, ix_dup2, ix_pop, ix_if, ix_cmp, ix_goto, ix_switch, ix_sw, ix_iret, ix_zret, ix_vret, ix_aret, ix_geti, ix_getr, ix_puti, ix_putz, ix_puts, ix_gets, ix_iald, ix_iast, ix_alen, ix_aald, ix_gval, ix_gcod, ix_bald, ix_blen, ix_sald, ix_nret, ix_math2, ix_math1, ix_acopy, ml_113, ml_114, ml_115, ml_116, ml_118, ml_119, ml_120, ml_121, ml_122, ml_123, ml_124, ml_125, ml_126, mv_0, mv_1, mv_2, mv_3, mv_4, mv_5, mB_or, Nat.add_assoc, Int32.reduceLT, Int32.reduceLE, Int32.reduceToNatClampNeg, Int32.reduceSub, Int32.reduceAdd, Nat.reduceAdd, Nat.reduceLeDiff, true_or, or_true, or_false, false_or, not_false_eq_true, not_true_eq_false, false_implies, true_implies, implies_true, and_self, mB_0, mB_01, Classical.not_not, Nat.zero_le, List.getElem?_cons_zero, List.getElem?_cons_succ, List.set_cons_zero, List.set_cons_succ, ix_nl, ix_cs, true_and, and_true, Option.toList_some, Option.toList_none, List.cons_append, List.nil_append, c1, c2, c3, n1, n2, y1, y2, y3]
    have R1 : RE (ix_up μ 113 (34 + C) (nI d) 113) (upd (μ0 113) (nvI 2 C) (nI d)) := fun j hj => by
      rw [ix_up_ap]
      by_cases c : j = 34 + C
      · rw [if_pos ⟨rfl, c⟩, c]
        exact upd_eq.symm
      · rw [if_neg (fun z => c z.2), upd_ne (show j ≠ nvI 2 C from c)]
        exact hr j hj c
    obtain ⟨w1, w2⟩ := setOk.mw (C := 100) hW ⟨wok_2 hC, Or.inr (Or.inr (Or.inr (Or.inl rfl)))⟩ (show d < 100 by omega) R1
    have F1 : Fx [113, 115, 119, 120] μ0 (ix_up μ 113 (34 + C) (nI d)) := hF.up (by simp)
    refine ⟨M, N, S, ds, dl, w1, rfl, hS, by rw [F1 124 (by decide)]; exact hs, hN, by omega, by rw [F1 112 (by decide)]; exact hl, fun μ2 F2 R2 => ?_⟩
    have hr2 : ∀ j, j < 256 → j ≠ 34 + C → μ2 113 j = μ0 113 j := fun j hj c => by
      rw [R2 j hj, ix_up_ap, if_neg (fun z => c z.2)]
      exact hr j hj c
    have ef : fUn ds dl (fun j => ix_up μ 113 (34 + C) (nI d) 125 (40 * S + j)) N 0 (nv (ix_up μ 113 (34 + C) (nI d) 113)) = f d := by rw [w2, hf, F1 125 (by decide)]
    rw [ef]
    have hPd := hP d x y (by omega) hPx
    refine ⟨fun z => ⟨fun _ => ?_, fun y => absurd y z⟩, fun z => ⟨fun y => absurd z y, fun _ => ?_⟩⟩
    · rw [if_neg z, if_neg z] at hPd
      exact ih _ _ μ2 _ (by omega) hPd (F1.tr F2) hr2
    · rw [if_pos z, if_pos z] at hPd
      exact ih _ _ μ2 _ (by omega) hPd (F1.tr F2) hr2
theorem pr_lay (s : Int32) (c : Int32) (p : Int32) (μ : ix_M) (I : Inv μ) (Q : ix_R → Prop) (hQ : ∀ vv μ', ix_Ev o_X11_lay (Pst vv) (0, [some (vr 10 112), some (vi s), some (vi c), some (vi p), none, none, none, none, none], [], μ') → Q (some (vi vv), μ')) : ix_Ev o_X10_lay Q (0, [some (vr 9 0), some (vi s), some (vi c), some (vi p), none, none], [], μ) := by
  rcases inR s 3 (by decide) with ⟨S, hS, rfl⟩ | ⟨hx1, hx2⟩
  · obtain ⟨S1, S2, S3, S4⟩ : ¬ nI S < 0 ∧ ¬ (3 : Int32) < nI S ∧ 0 ≤ nI S ∧ nI S ≤ (3 : Int32) := rgN hS (by decide)
    have Sc : (nI S).toNatClampNeg = S := nI_clamp (by omega)
    rcases inR c 15 (by decide) with ⟨C, hC, rfl⟩ | ⟨hx1, hx2⟩
    · obtain ⟨C1, C2, C3, C4⟩ : ¬ nI C < 0 ∧ ¬ (15 : Int32) < nI C ∧ 0 ≤ nI C ∧ nI C ≤ (15 : Int32) := rgN hC (by decide)
      have Cc : (nI C).toNatClampNeg = C := nI_clamp (by omega)
      rcases inR p 1 (by decide) with ⟨P, hP, rfl⟩ | ⟨hx1, hx2⟩
      · obtain ⟨P1, P2, P3, P4⟩ : ¬ nI P < 0 ∧ ¬ (1 : Int32) < nI P ∧ 0 ≤ nI P ∧ nI P ≤ (1 : Int32) := rgN hP (by decide)
        have Pc : (nI P).toNatClampNeg = P := nI_clamp (by omega)
        obtain ⟨M, hM, hR, m1, m2⟩ := I.mi
        obtain ⟨ds, dl, hL, x1, x2⟩ := I.tx
        have v4 : vp_in (nI S) 4 := vp_in_nI (by omega) (by decide)
        obtain ⟨y1, y2, y3⟩ := mix 34 C (by omega)
        have y1 : (34 : Int32) + nI C = nI (34 + C) := y1
        obtain ⟨h1, N1, hN1, h2, h3, h4⟩ := I.2.2.2.2.1 S (by omega)
        by_cases c : μ 123 S = 0
        · simp (decide := true) only [e_X10_lay_0, e_X10_lay_1, e_X10_lay_2, e_X10_lay_5, e_X10_lay_8, e_X10_lay_9, e_X10_lay_11, e_X10_lay_14, e_X10_lay_17, e_X10_lay_18, e_X10_lay_19, e_X10_lay_22, e_X10_lay_25, e_X10_lay_26, e_X10_lay_27, e_X10_lay_30, e_X10_lay_31, e_X10_lay_32, e_X10_lay_35, e_X10_lay_36, e_X10_lay_37, e_X10_lay_40, e_X10_lay_43, e_X10_lay_44, e_X10_lay_45, e_X10_lay_48, e_X10_lay_49, e_X10_lay_50, e_X10_lay_52, e_X10_lay_53, e_X10_lay_57, e_X10_lay_59, e_X10_lay_62, e_X10_lay_63, e_X10_lay_64, e_X10_lay_65, e_X10_lay_66, e_X10_lay_68, e_X10_lay_71, e_X10_lay_72, e_X10_lay_75, e_X10_lay_76, e_X10_lay_77, e_X10_lay_80, e_X10_lay_83, e_X10_lay_84, e_X10_lay_87, e_X10_lay_88, e_X10_lay_89, e_X10_lay_92, e_X10_lay_94, e_X10_lay_95, e_X10_lay_98, e_X10_lay_101, e_X10_lay_104, e_X10_lay_105, e_X10_lay_106, e_X10_lay_109, e_X10_lay_110, e_X10_lay_111, e_X10_lay_114, e_X10_lay_117, e_X10_lay_119, vi, vl, vr, oc_X10_error, T_X10_error, oc_X10_firstUnlike, T_X10_firstUnlike, oc_X10_outside, T_X10_outside, oc_X10_suppose, T_X10_suppose, oc_X5_isMissing, T_X5_isMissing, ix_push, ix_iload, ix_lload, ix_aload, ix_istore, ix_astore, ix_iinc, ix_bin, ix_div, ix_un, ix_i2l, ix_l2i, ix_lbin, ix_lsh, ix_lcmp, ix_dup, ix_dup2, ix_pop, ix_if, ix_cmp, ix_goto, ix_switch, ix_sw, ix_iret, ix_zret, ix_vret, ix_aret, ix_geti, ix_getr, ix_puti, ix_putz, ix_puts, ix_gets, ix_iald, ix_iast, ix_alen, ix_aald, ix_gval, ix_gcod, ix_bald, ix_blen, ix_sald, ix_nret, ix_math2, ix_math1, ix_acopy, Nat.add_assoc, Int32.reduceLT, Int32.reduceLE, Int32.reduceToNatClampNeg, Int32.reduceSub, Int32.reduceAdd, Nat.reduceAdd, Nat.reduceLeDiff, true_or, or_true, or_false, false_or, not_false_eq_true, not_true_eq_false, false_implies, true_implies, implies_true, and_self, mB_0, mB_01, Classical.not_not, Nat.zero_le, List.getElem?_cons_zero, List.getElem?_cons_succ, List.set_cons_zero, List.set_cons_succ, ix_nl, ix_cs, true_and, and_true, Option.toList_some, Option.toList_none, List.cons_append, List.nil_append, S1, S2, S3, S4, Sc, C1, C2, C3, C4, Cc, P1, P2, P3, P4, Pc, v4, h1, c, ix_up_ne, ix_up_k, ve_1, ve_2, ve_3, ve_4, ve_5]
          refine hQ _ _ ?_
          simp (decide := true) only [e_X11_lay_0, e_X11_lay_1, e_X11_lay_4, e_X11_lay_7, e_X11_lay_8, e_X11_lay_11, e_X11_lay_14, e_X11_lay_15, e_X11_lay_16, e_X11_lay_17, e_X11_lay_20, e_X11_lay_23, e_X11_lay_24, e_X11_lay_26, e_X11_lay_29, e_X11_lay_30, e_X11_lay_31, e_X11_lay_34, e_X11_lay_35, e_X11_lay_36, e_X11_lay_39, e_X11_lay_40, e_X11_lay_43, e_X11_lay_46, e_X11_lay_47, e_X11_lay_48, e_X11_lay_51, e_X11_lay_53, e_X11_lay_54, e_X11_lay_55, e_X11_lay_56, e_X11_lay_58, e_X11_lay_59, e_X11_lay_61, e_X11_lay_62, e_X11_lay_64, e_X11_lay_66, e_X11_lay_70, e_X11_lay_73, e_X11_lay_74, e_X11_lay_77, e_X11_lay_79, e_X11_lay_80, e_X11_lay_81, e_X11_lay_83, e_X11_lay_84, e_X11_lay_85, e_X11_lay_86, e_X11_lay_89, e_X11_lay_91, e_X11_lay_93, e_X11_lay_95, e_X11_lay_98, e_X11_lay_99, e_X11_lay_102, e_X11_lay_103, e_X11_lay_104, e_X11_lay_106, e_X11_lay_108, e_X11_lay_111, e_X11_lay_113, e_X11_lay_116, e_X11_lay_118, e_X11_lay_120, e_X11_lay_123, e_X11_lay_126, e_X11_lay_127, e_X11_lay_130, e_X11_lay_132, e_X11_lay_133, e_X11_lay_134, e_X11_lay_136, e_X11_lay_137, e_X11_lay_138, e_X11_lay_141, e_X11_lay_143, e_X11_lay_146, e_X11_lay_148, e_X11_lay_151, e_X11_lay_152, e_X11_lay_155, e_X11_lay_158, e_X11_lay_161, e_X11_lay_163, vi, vl, vr, oc_X11_finding, T_X11_finding, oc_X11_isCell, T_X11_isCell, oc_X11_isSheet, T_X11_isSheet, oc_X11_isSoHad, T_X11_isSoHad, oc_X11_within, T_X11_within, ix_push, ix_iload, ix_lload, ix_aload, ix_istore, ix_astore, ix_iinc, ix_bin, ix_div, ix_un, ix_i2l, ix_l2i, ix_lbin, ix_lsh, ix_lcmp, ix_dup, ix_dup2, ix_pop, ix_if, ix_cmp, ix_goto, ix_switch, ix_sw, ix_iret, ix_zret, ix_vret, ix_aret, ix_geti, ix_getr, ix_puti, ix_putz, ix_puts, ix_gets, ix_iald, ix_iast, ix_alen, ix_aald, ix_gval, ix_gcod, ix_bald, ix_blen, ix_sald, ix_nret, ix_math2, ix_math1, ix_acopy, ml_113, ml_114, ml_115, ml_116, ml_118, ml_119, ml_120, ml_121, ml_122, ml_123, ml_124, ml_125, ml_126, mv_0, mv_1, mv_2, mv_3, mv_4, mv_5, mB_or, Nat.add_assoc, Int32.reduceLT, Int32.reduceLE, Int32.reduceToNatClampNeg, Int32.reduceSub, Int32.reduceAdd, Nat.reduceAdd, Nat.reduceLeDiff, true_or, or_true, or_false, false_or, not_false_eq_true, not_true_eq_false, false_implies, true_implies, implies_true, and_self, mB_0, mB_01, Classical.not_not, Nat.zero_le, List.getElem?_cons_zero, List.getElem?_cons_succ, List.set_cons_zero, List.set_cons_succ, ix_nl, ix_cs, true_and, and_true, Option.toList_some, Option.toList_none, List.cons_append, List.nil_append, S1, S2, S3, S4, Sc, C1, C2, C3, C4, Cc, P1, P2, P3, P4, Pc, v4, h1, c, ix_up_ne, ix_up_k, ve_1, ve_2, ve_3, ve_4, ve_5]
          repeat' (first | exact I.er 2 (by decide) | refine ⟨fun _ => ?_, fun _ => ?_⟩)
        · generalize hf : (fun k => fUn ds dl (μ (101 + 3 * S)) N1 0 (setV 2 C (nI k) (nv (μ 113)))) = f
          have hm : ∀ (PP : Nat → Int32 → Int32 → Prop) (_ : ∀ d x y, d < 100 → PP (d + 1) x y → PP d (if f d = -1 then x + 1 else x) (if f d = -1 then nI d else y)) (_ : PP 100 0 (-1)) (μq : ix_M) (Q' : ix_R → Prop), (∀ a, 112 ≤ a → a ≠ 118 → a ≠ 119 → a ≠ 120 → a ≠ 115 → μq a = μ a) → (∀ x y μ', PP 0 x y → Fx [113, 115, 119, 120] μq μ' → RE (μ' 113) (μq 113) → (nI P = 0 → Q' (some (vi x), μ')) ∧ (¬ nI P = 0 → (¬ 0 ≤ y → Q' (some (vi (-1000000002)), ix_up μ' 116 2 (μ' 116 2 + 1))) ∧ (0 ≤ y → Q' (some (vi y), μ')))) → ix_Ev o_X11_lay Q' (0, [some (vr 10 112), some (vi (nI S)), some (vi (nI C)), some (vi (nI P)), none, none, none, none, none], [], μq) := by
            intro PP hP h100 μq Q' e hq
            have e113 := e 113 (by decide) (by decide) (by decide) (by decide) (by decide)
            have c2 : ¬ μq 123 S = 0 := by rw [e 123 (by decide) (by decide) (by decide) (by decide) (by decide)]; exact c
            simp (decide := true) only [e_X11_lay_0, e_X11_lay_1, e_X11_lay_4, e_X11_lay_7, e_X11_lay_8, e_X11_lay_11, e_X11_lay_14, e_X11_lay_15, e_X11_lay_16, e_X11_lay_17, e_X11_lay_20, e_X11_lay_23, e_X11_lay_24, e_X11_lay_26, e_X11_lay_29, e_X11_lay_30, e_X11_lay_31, e_X11_lay_34, e_X11_lay_35, e_X11_lay_36, e_X11_lay_39, e_X11_lay_40, e_X11_lay_43, e_X11_lay_46, e_X11_lay_47, e_X11_lay_48, e_X11_lay_51, e_X11_lay_53, e_X11_lay_54, e_X11_lay_55, e_X11_lay_56, e_X11_lay_58, e_X11_lay_59, e_X11_lay_61, e_X11_lay_62, e_X11_lay_64, e_X11_lay_66, e_X11_lay_70, e_X11_lay_73, e_X11_lay_74, e_X11_lay_77, e_X11_lay_79, e_X11_lay_80, e_X11_lay_81, e_X11_lay_83, e_X11_lay_84, e_X11_lay_85, e_X11_lay_86, e_X11_lay_89, e_X11_lay_91, e_X11_lay_93, e_X11_lay_95, e_X11_lay_98, e_X11_lay_99, e_X11_lay_102, e_X11_lay_103, e_X11_lay_104, e_X11_lay_106, e_X11_lay_108, e_X11_lay_111, e_X11_lay_113, e_X11_lay_116, e_X11_lay_118, e_X11_lay_120, e_X11_lay_123, e_X11_lay_126, e_X11_lay_127, e_X11_lay_130, e_X11_lay_132, e_X11_lay_133, e_X11_lay_134, e_X11_lay_136, e_X11_lay_137, e_X11_lay_138, e_X11_lay_141, e_X11_lay_143, e_X11_lay_146, e_X11_lay_148, e_X11_lay_151, e_X11_lay_152, e_X11_lay_155, e_X11_lay_158, e_X11_lay_161, e_X11_lay_163, vi, vl, vr, oc_X11_finding, T_X11_finding, oc_X11_isCell, T_X11_isCell, oc_X11_isSheet, T_X11_isSheet, oc_X11_isSoHad, T_X11_isSoHad, oc_X11_within, T_X11_within, ix_push, ix_iload, ix_lload, ix_aload, ix_istore, ix_astore, ix_iinc, ix_bin, ix_div, ix_un, ix_i2l, ix_l2i, ix_lbin, ix_lsh, ix_lcmp, ix_dup, ix_dup2, ix_pop, ix_if, ix_cmp, ix_goto, ix_switch, ix_sw, ix_iret, ix_zret, ix_vret, ix_aret, ix_geti, ix_getr, ix_puti, ix_putz, ix_puts, ix_gets, ix_iald, ix_iast, ix_alen, ix_aald, ix_gval, ix_gcod, ix_bald, ix_blen, ix_sald, ix_nret, ix_math2, ix_math1, ix_acopy, ml_113, ml_114, ml_115, ml_116, ml_118, ml_119, ml_120, ml_121, ml_122, ml_123, ml_124, ml_125, ml_126, mv_0, mv_1, mv_2, mv_3, mv_4, mv_5, mB_or, Nat.add_assoc, Int32.reduceLT, Int32.reduceLE, Int32.reduceToNatClampNeg, Int32.reduceSub, Int32.reduceAdd, Nat.reduceAdd, Nat.reduceLeDiff, true_or, or_true, or_false, false_or, not_false_eq_true, not_true_eq_false, false_implies, true_implies, implies_true, and_self, mB_0, mB_01, Classical.not_not, Nat.zero_le, List.getElem?_cons_zero, List.getElem?_cons_succ, List.set_cons_zero, List.set_cons_succ, ix_nl, ix_cs, true_and, and_true, Option.toList_some, Option.toList_none, List.cons_append, List.nil_append, S1, S2, S3, S4, Sc, C1, C2, C3, C4, Cc, P1, P2, P3, P4, Pc, v4, c2, y1, y2, y3, ix_up_ne, ix_up_k, ve_1, ve_2, ve_3, ve_4, ve_5]
            refine l_X11_lay (M := M) (S := S) (C := C) (N := N1) (f := f) (ds := ds) (dl := dl) ?_ (by omega) (by omega) (mwOf (by rw [e113]; exact hR) (by rw [e113]; exact x1) (by rw [e113]; exact x2)) hM hN1 (by rw [e 124 (by decide) (by decide) (by decide) (by decide) (by decide)]; exact h3) (by rw [e 112 (by decide) (by decide) (by decide) (by decide) (by decide)]; exact I.2.2.2.2.2.2.1) rfl PP hP hq 100 0 (-1) μq none (by decide) h100 Fx.rf (fun _ _ _ => rfl)
            rw [← hf]
            funext k
            rw [e113, e 125 (by decide) (by decide) (by decide) (by decide) (by decide)]
            exact fUn_cong N1 0 _ (fun j hj => h4 j (by omega))
          have wk : ∀ μ2 : ix_M, Fx wT μ μ2 → ∀ a, 112 ≤ a → a ≠ 118 → a ≠ 119 → a ≠ 120 → a ≠ 115 → μ2 a = μ a := fun μ2 F2 a ha _ _ _ _ => F2 a (by simp [wT]; omega)
          have hp1 : nI P = 1 ↔ P = 1 := nI_eq (b := 1) (by omega) (by decide)
          have hp0 : nI P = 0 ↔ P = 0 := nI_eq (b := 0) (by omega) (by decide)
          simp (decide := true) only [e_X10_lay_0, e_X10_lay_1, e_X10_lay_2, e_X10_lay_5, e_X10_lay_8, e_X10_lay_9, e_X10_lay_11, e_X10_lay_14, e_X10_lay_17, e_X10_lay_18, e_X10_lay_19, e_X10_lay_22, e_X10_lay_25, e_X10_lay_26, e_X10_lay_27, e_X10_lay_30, e_X10_lay_31, e_X10_lay_32, e_X10_lay_35, e_X10_lay_36, e_X10_lay_37, e_X10_lay_40, e_X10_lay_43, e_X10_lay_44, e_X10_lay_45, e_X10_lay_48, e_X10_lay_49, e_X10_lay_50, e_X10_lay_52, e_X10_lay_53, e_X10_lay_57, e_X10_lay_59, e_X10_lay_62, e_X10_lay_63, e_X10_lay_64, e_X10_lay_65, e_X10_lay_66, e_X10_lay_68, e_X10_lay_71, e_X10_lay_72, e_X10_lay_75, e_X10_lay_76, e_X10_lay_77, e_X10_lay_80, e_X10_lay_83, e_X10_lay_84, e_X10_lay_87, e_X10_lay_88, e_X10_lay_89, e_X10_lay_92, e_X10_lay_94, e_X10_lay_95, e_X10_lay_98, e_X10_lay_101, e_X10_lay_104, e_X10_lay_105, e_X10_lay_106, e_X10_lay_109, e_X10_lay_110, e_X10_lay_111, e_X10_lay_114, e_X10_lay_117, e_X10_lay_119, vi, vl, vr, oc_X10_error, T_X10_error, oc_X10_firstUnlike, T_X10_firstUnlike, oc_X10_outside, T_X10_outside, oc_X10_suppose, T_X10_suppose, oc_X5_isMissing, T_X5_isMissing, ix_push, ix_iload, ix_lload, ix_aload, ix_istore, ix_astore, ix_iinc, ix_bin, ix_div, ix_un, ix_i2l, ix_l2i, ix_lbin, ix_lsh, ix_lcmp, ix_dup, ix_dup2, ix_pop, ix_if, ix_cmp, ix_goto, ix_switch, ix_sw, ix_iret, ix_zret, ix_vret, ix_aret, ix_geti, ix_getr, ix_puti, ix_putz, ix_puts, ix_gets, ix_iald, ix_iast, ix_alen, ix_aald, ix_gval, ix_gcod, ix_bald, ix_blen, ix_sald, ix_nret, ix_math2, ix_math1, ix_acopy, Nat.add_assoc, Int32.reduceLT, Int32.reduceLE, Int32.reduceToNatClampNeg, Int32.reduceSub, Int32.reduceAdd, Nat.reduceAdd, Nat.reduceLeDiff, true_or, or_true, or_false, false_or, not_false_eq_true, not_true_eq_false, false_implies, true_implies, implies_true, and_self, mB_0, mB_01, Classical.not_not, Nat.zero_le, List.getElem?_cons_zero, List.getElem?_cons_succ, List.set_cons_zero, List.set_cons_succ, ix_nl, ix_cs, true_and, and_true, Option.toList_some, Option.toList_none, List.cons_append, List.nil_append, S1, S2, S3, S4, Sc, C1, C2, C3, C4, Cc, P1, P2, P3, P4, Pc, v4, h1, c, ix_up_ne, ix_up_k, ve_1, ve_2, ve_3, ve_4, ve_5]
          refine l_X10_lay (M := M) (S := S) (C := C) (N := N1) (f := f) (μ0 := μ) (ds := ds) (dl := dl) (by rw [I.hw]; exact hf.symm) (by omega) (by omega) (by rw [I.hw]; exact hR) hM hN1 h2 hL (fun z m g1 g2 g3 μ2 F2 => hQ _ _ ?_) (fun z g1 μ2 F2 => hQ _ _ ?_) (fun z μ2 F2 => hQ _ _ ?_) 100 0 μ rfl Fx.rf (fun _ j hj => absurd hj (Nat.not_lt_zero j))
          · have I2 := I.scr F2 (by decide)
            refine hm (fun d x y => d ≤ m → y = nI m) (fun d x y hd hx hle => ?_) (fun z => absurd z (by omega)) μ2 _ (wk μ2 F2) (fun x y μ3 hx F3 R3 => ?_)
            · by_cases k : f d = -1
              · rw [if_pos k]
                have : ¬ d < m := fun z => g3 d z k
                congr 1
                omega
              · rw [if_neg k]
                refine hx ?_
                have : d ≠ m := fun z => k (by rw [z]; exact g2)
                omega
            · obtain rfl := hx (Nat.zero_le _)
              refine ⟨fun y => ?_, fun _ => ⟨fun y => absurd (nI_pos' (by omega)) y, fun _ => pst rfl (I2.back F3 R3)⟩⟩
              have := hp0.mp y
              have := hp1.mp z
              omega
          · have I2 := I.scr F2 (by decide)
            refine hm (fun d x y => y = -1) (fun d x y hd hx => ?_) rfl _ _ (fun a h1 h2 h3 h4 h5 => by rw [ix_up_ne (by omega)]; exact wk μ2 F2 a h1 h2 h3 h4 h5) (fun x y μ3 hx F3 R3 => ?_)
            · rw [if_neg (g1 d (by omega))]
              exact hx
            · subst hx
              refine ⟨fun y => ?_, fun _ => ⟨fun _ => pst rfl (I2.eb (by decide) F3 (fun k hk => ?_)), fun y => absurd y (by decide)⟩⟩
              · have := hp0.mp y
                have := hp1.mp z
                omega
              · rw [R3 k hk, ix_up_ne (by decide)]
          · have I2 := I.scr F2 (by decide)
            refine hm (fun d x y => d ≤ 100 ∧ x = nI (lC f 100 - lC f d)) (fun d x y hd hx => ?_) ⟨by decide, by simp; rfl⟩ μ2 _ (wk μ2 F2) (fun x y μ3 hx F3 R3 => ?_)
            · refine ⟨by omega, ?_⟩
              have hl := lC_mono f (n := d + 1) (m := 100) (by omega)
              have hx2 := hx.2
              have hs : lC f (d + 1) = lC f d + (if f d = -1 then 1 else 0) := rfl
              rw [hs] at hl hx2
              by_cases k : f d = -1
              · rw [if_pos k] at hl hx2 ⊢
                rw [hx2, nI_1]
                congr 1
                omega
              · rw [if_neg k] at hl hx2 ⊢
                exact hx2
            · obtain ⟨-, rfl⟩ := hx
              have z0 : nI P = 0 := hp0.mpr (by
                have : ¬ P = 1 := fun y => z (hp1.mpr y)
                omega)
              exact ⟨fun _ => pst rfl (I2.back F3 R3), fun y => absurd z0 y⟩
      · have hx1 : p < 0 ∨ (1 : Int32) < p := hx1
        have hx2 : ¬ (0 ≤ p ∧ p ≤ (1 : Int32)) := hx2
        have hx3 : ¬ p = 0 := by rintro rfl; exact hx2 (by decide)
        have hx4 : ¬ p = 1 := by rintro rfl; exact hx2 (by decide)
        simp (decide := true) only [e_X10_lay_0, e_X10_lay_1, e_X10_lay_2, e_X10_lay_5, e_X10_lay_8, e_X10_lay_9, e_X10_lay_11, e_X10_lay_14, e_X10_lay_17, e_X10_lay_18, e_X10_lay_19, e_X10_lay_22, e_X10_lay_25, e_X10_lay_26, e_X10_lay_27, e_X10_lay_30, e_X10_lay_31, e_X10_lay_32, e_X10_lay_35, e_X10_lay_36, e_X10_lay_37, e_X10_lay_40, e_X10_lay_43, e_X10_lay_44, e_X10_lay_45, e_X10_lay_48, e_X10_lay_49, e_X10_lay_50, e_X10_lay_52, e_X10_lay_53, e_X10_lay_57, e_X10_lay_59, e_X10_lay_62, e_X10_lay_63, e_X10_lay_64, e_X10_lay_65, e_X10_lay_66, e_X10_lay_68, e_X10_lay_71, e_X10_lay_72, e_X10_lay_75, e_X10_lay_76, e_X10_lay_77, e_X10_lay_80, e_X10_lay_83, e_X10_lay_84, e_X10_lay_87, e_X10_lay_88, e_X10_lay_89, e_X10_lay_92, e_X10_lay_94, e_X10_lay_95, e_X10_lay_98, e_X10_lay_101, e_X10_lay_104, e_X10_lay_105, e_X10_lay_106, e_X10_lay_109, e_X10_lay_110, e_X10_lay_111, e_X10_lay_114, e_X10_lay_117, e_X10_lay_119, vi, vl, vr, oc_X10_error, T_X10_error, oc_X10_firstUnlike, T_X10_firstUnlike, oc_X10_outside, T_X10_outside, oc_X10_suppose, T_X10_suppose, oc_X5_isMissing, T_X5_isMissing, ix_push, ix_iload, ix_lload, ix_aload, ix_istore, ix_astore, ix_iinc, ix_bin, ix_div, ix_un, ix_i2l, ix_l2i, ix_lbin, ix_lsh, ix_lcmp, ix_dup, ix_dup2, ix_pop, ix_if, ix_cmp, ix_goto, ix_switch, ix_sw, ix_iret, ix_zret, ix_vret, ix_aret, ix_geti, ix_getr, ix_puti, ix_putz, ix_puts, ix_gets, ix_iald, ix_iast, ix_alen, ix_aald, ix_gval, ix_gcod, ix_bald, ix_blen, ix_sald, ix_nret, ix_math2, ix_math1, ix_acopy, Nat.add_assoc, Int32.reduceLT, Int32.reduceLE, Int32.reduceToNatClampNeg, Int32.reduceSub, Int32.reduceAdd, Nat.reduceAdd, Nat.reduceLeDiff, true_or, or_true, or_false, false_or, not_false_eq_true, not_true_eq_false, false_implies, true_implies, implies_true, and_self, mB_0, mB_01, Classical.not_not, Nat.zero_le, List.getElem?_cons_zero, List.getElem?_cons_succ, List.set_cons_zero, List.set_cons_succ, ix_nl, ix_cs, true_and, and_true, Option.toList_some, Option.toList_none, List.cons_append, List.nil_append, S1, S2, S3, S4, Sc, C1, C2, C3, C4, Cc, hx1, hx2, hx3, hx4, ix_up_ne, ix_up_k, ve_1, ve_2, ve_3, ve_4, ve_5]
        refine hQ _ _ ?_
        simp (decide := true) only [e_X11_lay_0, e_X11_lay_1, e_X11_lay_4, e_X11_lay_7, e_X11_lay_8, e_X11_lay_11, e_X11_lay_14, e_X11_lay_15, e_X11_lay_16, e_X11_lay_17, e_X11_lay_20, e_X11_lay_23, e_X11_lay_24, e_X11_lay_26, e_X11_lay_29, e_X11_lay_30, e_X11_lay_31, e_X11_lay_34, e_X11_lay_35, e_X11_lay_36, e_X11_lay_39, e_X11_lay_40, e_X11_lay_43, e_X11_lay_46, e_X11_lay_47, e_X11_lay_48, e_X11_lay_51, e_X11_lay_53, e_X11_lay_54, e_X11_lay_55, e_X11_lay_56, e_X11_lay_58, e_X11_lay_59, e_X11_lay_61, e_X11_lay_62, e_X11_lay_64, e_X11_lay_66, e_X11_lay_70, e_X11_lay_73, e_X11_lay_74, e_X11_lay_77, e_X11_lay_79, e_X11_lay_80, e_X11_lay_81, e_X11_lay_83, e_X11_lay_84, e_X11_lay_85, e_X11_lay_86, e_X11_lay_89, e_X11_lay_91, e_X11_lay_93, e_X11_lay_95, e_X11_lay_98, e_X11_lay_99, e_X11_lay_102, e_X11_lay_103, e_X11_lay_104, e_X11_lay_106, e_X11_lay_108, e_X11_lay_111, e_X11_lay_113, e_X11_lay_116, e_X11_lay_118, e_X11_lay_120, e_X11_lay_123, e_X11_lay_126, e_X11_lay_127, e_X11_lay_130, e_X11_lay_132, e_X11_lay_133, e_X11_lay_134, e_X11_lay_136, e_X11_lay_137, e_X11_lay_138, e_X11_lay_141, e_X11_lay_143, e_X11_lay_146, e_X11_lay_148, e_X11_lay_151, e_X11_lay_152, e_X11_lay_155, e_X11_lay_158, e_X11_lay_161, e_X11_lay_163, vi, vl, vr, oc_X11_finding, T_X11_finding, oc_X11_isCell, T_X11_isCell, oc_X11_isSheet, T_X11_isSheet, oc_X11_isSoHad, T_X11_isSoHad, oc_X11_within, T_X11_within, ix_push, ix_iload, ix_lload, ix_aload, ix_istore, ix_astore, ix_iinc, ix_bin, ix_div, ix_un, ix_i2l, ix_l2i, ix_lbin, ix_lsh, ix_lcmp, ix_dup, ix_dup2, ix_pop, ix_if, ix_cmp, ix_goto, ix_switch, ix_sw, ix_iret, ix_zret, ix_vret, ix_aret, ix_geti, ix_getr, ix_puti, ix_putz, ix_puts, ix_gets, ix_iald, ix_iast, ix_alen, ix_aald, ix_gval, ix_gcod, ix_bald, ix_blen, ix_sald, ix_nret, ix_math2, ix_math1, ix_acopy, ml_113, ml_114, ml_115, ml_116, ml_118, ml_119, ml_120, ml_121, ml_122, ml_123, ml_124, ml_125, ml_126, mv_0, mv_1, mv_2, mv_3, mv_4, mv_5, mB_or, Nat.add_assoc, Int32.reduceLT, Int32.reduceLE, Int32.reduceToNatClampNeg, Int32.reduceSub, Int32.reduceAdd, Nat.reduceAdd, Nat.reduceLeDiff, true_or, or_true, or_false, false_or, not_false_eq_true, not_true_eq_false, false_implies, true_implies, implies_true, and_self, mB_0, mB_01, Classical.not_not, Nat.zero_le, List.getElem?_cons_zero, List.getElem?_cons_succ, List.set_cons_zero, List.set_cons_succ, ix_nl, ix_cs, true_and, and_true, Option.toList_some, Option.toList_none, List.cons_append, List.nil_append, S1, S2, S3, S4, Sc, C1, C2, C3, C4, Cc, hx1, hx2, hx3, hx4, ix_up_ne, ix_up_k, ve_1, ve_2, ve_3, ve_4, ve_5]
        repeat' (first | exact I.er 1 (by decide) | refine ⟨fun _ => ?_, fun _ => ?_⟩)
    · have hx1 : c < 0 ∨ (15 : Int32) < c := hx1
      have hx2 : ¬ (0 ≤ c ∧ c ≤ (15 : Int32)) := hx2
      simp (decide := true) only [e_X10_lay_0, e_X10_lay_1, e_X10_lay_2, e_X10_lay_5, e_X10_lay_8, e_X10_lay_9, e_X10_lay_11, e_X10_lay_14, e_X10_lay_17, e_X10_lay_18, e_X10_lay_19, e_X10_lay_22, e_X10_lay_25, e_X10_lay_26, e_X10_lay_27, e_X10_lay_30, e_X10_lay_31, e_X10_lay_32, e_X10_lay_35, e_X10_lay_36, e_X10_lay_37, e_X10_lay_40, e_X10_lay_43, e_X10_lay_44, e_X10_lay_45, e_X10_lay_48, e_X10_lay_49, e_X10_lay_50, e_X10_lay_52, e_X10_lay_53, e_X10_lay_57, e_X10_lay_59, e_X10_lay_62, e_X10_lay_63, e_X10_lay_64, e_X10_lay_65, e_X10_lay_66, e_X10_lay_68, e_X10_lay_71, e_X10_lay_72, e_X10_lay_75, e_X10_lay_76, e_X10_lay_77, e_X10_lay_80, e_X10_lay_83, e_X10_lay_84, e_X10_lay_87, e_X10_lay_88, e_X10_lay_89, e_X10_lay_92, e_X10_lay_94, e_X10_lay_95, e_X10_lay_98, e_X10_lay_101, e_X10_lay_104, e_X10_lay_105, e_X10_lay_106, e_X10_lay_109, e_X10_lay_110, e_X10_lay_111, e_X10_lay_114, e_X10_lay_117, e_X10_lay_119, vi, vl, vr, oc_X10_error, T_X10_error, oc_X10_firstUnlike, T_X10_firstUnlike, oc_X10_outside, T_X10_outside, oc_X10_suppose, T_X10_suppose, oc_X5_isMissing, T_X5_isMissing, ix_push, ix_iload, ix_lload, ix_aload, ix_istore, ix_astore, ix_iinc, ix_bin, ix_div, ix_un, ix_i2l, ix_l2i, ix_lbin, ix_lsh, ix_lcmp, ix_dup, ix_dup2, ix_pop, ix_if, ix_cmp, ix_goto, ix_switch, ix_sw, ix_iret, ix_zret, ix_vret, ix_aret, ix_geti, ix_getr, ix_puti, ix_putz, ix_puts, ix_gets, ix_iald, ix_iast, ix_alen, ix_aald, ix_gval, ix_gcod, ix_bald, ix_blen, ix_sald, ix_nret, ix_math2, ix_math1, ix_acopy, Nat.add_assoc, Int32.reduceLT, Int32.reduceLE, Int32.reduceToNatClampNeg, Int32.reduceSub, Int32.reduceAdd, Nat.reduceAdd, Nat.reduceLeDiff, true_or, or_true, or_false, false_or, not_false_eq_true, not_true_eq_false, false_implies, true_implies, implies_true, and_self, mB_0, mB_01, Classical.not_not, Nat.zero_le, List.getElem?_cons_zero, List.getElem?_cons_succ, List.set_cons_zero, List.set_cons_succ, ix_nl, ix_cs, true_and, and_true, Option.toList_some, Option.toList_none, List.cons_append, List.nil_append, S1, S2, S3, S4, Sc, hx1, hx2, ix_up_ne, ix_up_k, ve_1, ve_2, ve_3, ve_4, ve_5]
      refine hQ _ _ ?_
      simp (decide := true) only [e_X11_lay_0, e_X11_lay_1, e_X11_lay_4, e_X11_lay_7, e_X11_lay_8, e_X11_lay_11, e_X11_lay_14, e_X11_lay_15, e_X11_lay_16, e_X11_lay_17, e_X11_lay_20, e_X11_lay_23, e_X11_lay_24, e_X11_lay_26, e_X11_lay_29, e_X11_lay_30, e_X11_lay_31, e_X11_lay_34, e_X11_lay_35, e_X11_lay_36, e_X11_lay_39, e_X11_lay_40, e_X11_lay_43, e_X11_lay_46, e_X11_lay_47, e_X11_lay_48, e_X11_lay_51, e_X11_lay_53, e_X11_lay_54, e_X11_lay_55, e_X11_lay_56, e_X11_lay_58, e_X11_lay_59, e_X11_lay_61, e_X11_lay_62, e_X11_lay_64, e_X11_lay_66, e_X11_lay_70, e_X11_lay_73, e_X11_lay_74, e_X11_lay_77, e_X11_lay_79, e_X11_lay_80, e_X11_lay_81, e_X11_lay_83, e_X11_lay_84, e_X11_lay_85, e_X11_lay_86, e_X11_lay_89, e_X11_lay_91, e_X11_lay_93, e_X11_lay_95, e_X11_lay_98, e_X11_lay_99, e_X11_lay_102, e_X11_lay_103, e_X11_lay_104, e_X11_lay_106, e_X11_lay_108, e_X11_lay_111, e_X11_lay_113, e_X11_lay_116, e_X11_lay_118, e_X11_lay_120, e_X11_lay_123, e_X11_lay_126, e_X11_lay_127, e_X11_lay_130, e_X11_lay_132, e_X11_lay_133, e_X11_lay_134, e_X11_lay_136, e_X11_lay_137, e_X11_lay_138, e_X11_lay_141, e_X11_lay_143, e_X11_lay_146, e_X11_lay_148, e_X11_lay_151, e_X11_lay_152, e_X11_lay_155, e_X11_lay_158, e_X11_lay_161, e_X11_lay_163, vi, vl, vr, oc_X11_finding, T_X11_finding, oc_X11_isCell, T_X11_isCell, oc_X11_isSheet, T_X11_isSheet, oc_X11_isSoHad, T_X11_isSoHad, oc_X11_within, T_X11_within, ix_push, ix_iload, ix_lload, ix_aload, ix_istore, ix_astore, ix_iinc, ix_bin, ix_div, ix_un, ix_i2l, ix_l2i, ix_lbin, ix_lsh, ix_lcmp, ix_dup, ix_dup2, ix_pop, ix_if, ix_cmp, ix_goto, ix_switch, ix_sw, ix_iret, ix_zret, ix_vret, ix_aret, ix_geti, ix_getr, ix_puti, ix_putz, ix_puts, ix_gets, ix_iald, ix_iast, ix_alen, ix_aald, ix_gval, ix_gcod, ix_bald, ix_blen, ix_sald, ix_nret, ix_math2, ix_math1, ix_acopy, ml_113, ml_114, ml_115, ml_116, ml_118, ml_119, ml_120, ml_121, ml_122, ml_123, ml_124, ml_125, ml_126, mv_0, mv_1, mv_2, mv_3, mv_4, mv_5, mB_or, Nat.add_assoc, Int32.reduceLT, Int32.reduceLE, Int32.reduceToNatClampNeg, Int32.reduceSub, Int32.reduceAdd, Nat.reduceAdd, Nat.reduceLeDiff, true_or, or_true, or_false, false_or, not_false_eq_true, not_true_eq_false, false_implies, true_implies, implies_true, and_self, mB_0, mB_01, Classical.not_not, Nat.zero_le, List.getElem?_cons_zero, List.getElem?_cons_succ, List.set_cons_zero, List.set_cons_succ, ix_nl, ix_cs, true_and, and_true, Option.toList_some, Option.toList_none, List.cons_append, List.nil_append, S1, S2, S3, S4, Sc, hx1, hx2, ix_up_ne, ix_up_k, ve_1, ve_2, ve_3, ve_4, ve_5]
      repeat' (first | exact I.er 1 (by decide) | refine ⟨fun _ => ?_, fun _ => ?_⟩)
  · have hx1 : s < 0 ∨ (3 : Int32) < s := hx1
    have hx2 : ¬ (0 ≤ s ∧ s ≤ (3 : Int32)) := hx2
    simp (decide := true) only [e_X10_lay_0, e_X10_lay_1, e_X10_lay_2, e_X10_lay_5, e_X10_lay_8, e_X10_lay_9, e_X10_lay_11, e_X10_lay_14, e_X10_lay_17, e_X10_lay_18, e_X10_lay_19, e_X10_lay_22, e_X10_lay_25, e_X10_lay_26, e_X10_lay_27, e_X10_lay_30, e_X10_lay_31, e_X10_lay_32, e_X10_lay_35, e_X10_lay_36, e_X10_lay_37, e_X10_lay_40, e_X10_lay_43, e_X10_lay_44, e_X10_lay_45, e_X10_lay_48, e_X10_lay_49, e_X10_lay_50, e_X10_lay_52, e_X10_lay_53, e_X10_lay_57, e_X10_lay_59, e_X10_lay_62, e_X10_lay_63, e_X10_lay_64, e_X10_lay_65, e_X10_lay_66, e_X10_lay_68, e_X10_lay_71, e_X10_lay_72, e_X10_lay_75, e_X10_lay_76, e_X10_lay_77, e_X10_lay_80, e_X10_lay_83, e_X10_lay_84, e_X10_lay_87, e_X10_lay_88, e_X10_lay_89, e_X10_lay_92, e_X10_lay_94, e_X10_lay_95, e_X10_lay_98, e_X10_lay_101, e_X10_lay_104, e_X10_lay_105, e_X10_lay_106, e_X10_lay_109, e_X10_lay_110, e_X10_lay_111, e_X10_lay_114, e_X10_lay_117, e_X10_lay_119, vi, vl, vr, oc_X10_error, T_X10_error, oc_X10_firstUnlike, T_X10_firstUnlike, oc_X10_outside, T_X10_outside, oc_X10_suppose, T_X10_suppose, oc_X5_isMissing, T_X5_isMissing, ix_push, ix_iload, ix_lload, ix_aload, ix_istore, ix_astore, ix_iinc, ix_bin, ix_div, ix_un, ix_i2l, ix_l2i, ix_lbin, ix_lsh, ix_lcmp, ix_dup, ix_dup2, ix_pop, ix_if, ix_cmp, ix_goto, ix_switch, ix_sw, ix_iret, ix_zret, ix_vret, ix_aret, ix_geti, ix_getr, ix_puti, ix_putz, ix_puts, ix_gets, ix_iald, ix_iast, ix_alen, ix_aald, ix_gval, ix_gcod, ix_bald, ix_blen, ix_sald, ix_nret, ix_math2, ix_math1, ix_acopy, Nat.add_assoc, Int32.reduceLT, Int32.reduceLE, Int32.reduceToNatClampNeg, Int32.reduceSub, Int32.reduceAdd, Nat.reduceAdd, Nat.reduceLeDiff, true_or, or_true, or_false, false_or, not_false_eq_true, not_true_eq_false, false_implies, true_implies, implies_true, and_self, mB_0, mB_01, Classical.not_not, Nat.zero_le, List.getElem?_cons_zero, List.getElem?_cons_succ, List.set_cons_zero, List.set_cons_succ, ix_nl, ix_cs, true_and, and_true, Option.toList_some, Option.toList_none, List.cons_append, List.nil_append, hx1, hx2, ix_up_ne, ix_up_k, ve_1, ve_2, ve_3, ve_4, ve_5]
    refine hQ _ _ ?_
    simp (decide := true) only [e_X11_lay_0, e_X11_lay_1, e_X11_lay_4, e_X11_lay_7, e_X11_lay_8, e_X11_lay_11, e_X11_lay_14, e_X11_lay_15, e_X11_lay_16, e_X11_lay_17, e_X11_lay_20, e_X11_lay_23, e_X11_lay_24, e_X11_lay_26, e_X11_lay_29, e_X11_lay_30, e_X11_lay_31, e_X11_lay_34, e_X11_lay_35, e_X11_lay_36, e_X11_lay_39, e_X11_lay_40, e_X11_lay_43, e_X11_lay_46, e_X11_lay_47, e_X11_lay_48, e_X11_lay_51, e_X11_lay_53, e_X11_lay_54, e_X11_lay_55, e_X11_lay_56, e_X11_lay_58, e_X11_lay_59, e_X11_lay_61, e_X11_lay_62, e_X11_lay_64, e_X11_lay_66, e_X11_lay_70, e_X11_lay_73, e_X11_lay_74, e_X11_lay_77, e_X11_lay_79, e_X11_lay_80, e_X11_lay_81, e_X11_lay_83, e_X11_lay_84, e_X11_lay_85, e_X11_lay_86, e_X11_lay_89, e_X11_lay_91, e_X11_lay_93, e_X11_lay_95, e_X11_lay_98, e_X11_lay_99, e_X11_lay_102, e_X11_lay_103, e_X11_lay_104, e_X11_lay_106, e_X11_lay_108, e_X11_lay_111, e_X11_lay_113, e_X11_lay_116, e_X11_lay_118, e_X11_lay_120, e_X11_lay_123, e_X11_lay_126, e_X11_lay_127, e_X11_lay_130, e_X11_lay_132, e_X11_lay_133, e_X11_lay_134, e_X11_lay_136, e_X11_lay_137, e_X11_lay_138, e_X11_lay_141, e_X11_lay_143, e_X11_lay_146, e_X11_lay_148, e_X11_lay_151, e_X11_lay_152, e_X11_lay_155, e_X11_lay_158, e_X11_lay_161, e_X11_lay_163, vi, vl, vr, oc_X11_finding, T_X11_finding, oc_X11_isCell, T_X11_isCell, oc_X11_isSheet, T_X11_isSheet, oc_X11_isSoHad, T_X11_isSoHad, oc_X11_within, T_X11_within, ix_push, ix_iload, ix_lload, ix_aload, ix_istore, ix_astore, ix_iinc, ix_bin, ix_div, ix_un, ix_i2l, ix_l2i, ix_lbin, ix_lsh, ix_lcmp, ix_dup, ix_dup2, ix_pop, ix_if, ix_cmp, ix_goto, ix_switch, ix_sw, ix_iret, ix_zret, ix_vret, ix_aret, ix_geti, ix_getr, ix_puti, ix_putz, ix_puts, ix_gets, ix_iald, ix_iast, ix_alen, ix_aald, ix_gval, ix_gcod, ix_bald, ix_blen, ix_sald, ix_nret, ix_math2, ix_math1, ix_acopy, ml_113, ml_114, ml_115, ml_116, ml_118, ml_119, ml_120, ml_121, ml_122, ml_123, ml_124, ml_125, ml_126, mv_0, mv_1, mv_2, mv_3, mv_4, mv_5, mB_or, Nat.add_assoc, Int32.reduceLT, Int32.reduceLE, Int32.reduceToNatClampNeg, Int32.reduceSub, Int32.reduceAdd, Nat.reduceAdd, Nat.reduceLeDiff, true_or, or_true, or_false, false_or, not_false_eq_true, not_true_eq_false, false_implies, true_implies, implies_true, and_self, mB_0, mB_01, Classical.not_not, Nat.zero_le, List.getElem?_cons_zero, List.getElem?_cons_succ, List.set_cons_zero, List.set_cons_succ, ix_nl, ix_cs, true_and, and_true, Option.toList_some, Option.toList_none, List.cons_append, List.nil_append, hx1, hx2, ix_up_ne, ix_up_k, ve_1, ve_2, ve_3, ve_4, ve_5]
    repeat' (first | exact I.er 1 (by decide) | refine ⟨fun _ => ?_, fun _ => ?_⟩)
