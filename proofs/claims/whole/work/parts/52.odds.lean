/-! ===== calls, class against model: odds ===== -/
def oCn (f : Nat → Int32) (v : Int32) (n : Nat) : Nat := match n with
  | 0 => 0
  | n + 1 => oCn f v n + (if f (n + 1) < v then 0 else 1)
theorem oCn_le (f : Nat → Int32) (v : Int32) : ∀ n, oCn f v n ≤ n
  | 0 => Nat.le_refl 0
  | n + 1 => by
    have := oCn_le f v n
    rw [oCn]
    split <;> omega
theorem gcd_cd : ∀ A, A < 21 → mCd A 20 20 = Nat.gcd 20 A ∧ 0 < Nat.gcd 20 A ∧ Nat.gcd 20 A ≤ 20 := by decide +kernel
def o_X10_odds : List (Nat × ix_Op) := [
  (0, ix_iload 1 1),
  (1, ix_push (vi 30) 3),
  (3, oc_X10_outside 6),
  (6, ix_if (fun x => x = 0) 9 27),
  (9, ix_iload 2 10),
  (10, ix_push (vi 792) 13),
  (13, oc_X10_outside 16),
  (16, ix_if (fun x => x = 0) 19 27),
  (19, ix_iload 3 20),
  (20, ix_push (vi 1) 21),
  (21, oc_X10_outside 24),
  (24, ix_if (fun x => x = 0) 33 27),
  (27, ix_aload 0 28),
  (28, ix_push (vi 1) 29),
  (29, oc_X10_error 32),
  (32, ix_iret),
  (33, ix_push (vi 0) 34),
  (34, ix_istore 4 36),
  (36, ix_push (vi 1) 37),
  (37, ix_istore 5 39),
  (39, ix_iload 5 41),
  (41, ix_push (vi 20) 43),
  (43, ix_cmp (fun x y => y < x) 72 46),
  (46, ix_aload 0 47),
  (47, ix_aload 0 48),
  (48, ix_push (vi 4) 49),
  (49, ix_push (vi 0) 50),
  (50, ix_iload 5 52),
  (52, oc_X10_suppose 55),
  (55, ix_iload 1 56),
  (56, oc_X10_hadBehind 59),
  (59, ix_iload 2 60),
  (60, ix_cmp (fun x y => x < y) 66 63),
  (63, ix_iinc 4 1 66),
  (66, ix_iinc 5 1 69),
  (69, ix_goto 39),
  (72, ix_iload 4 74),
  (74, ix_push (vi 20) 76),
  (76, oc_X10_commonDivisor 79),
  (79, ix_istore 5 81),
  (81, ix_iload 3 82),
  (82, ix_if (fun x => x = 0) 85 93),
  (85, ix_iload 4 87),
  (87, ix_iload 5 89),
  (89, ix_div (fun x y => x / y) 90),
  (90, ix_goto 98),
  (93, ix_push (vi 20) 95),
  (95, ix_iload 5 97),
  (97, ix_div (fun x y => x / y) 98),
  (98, ix_iret)]
set_option maxRecDepth 20000 in
theorem a_X10_odds (l : Launch) : ix_AllS l cX10_odds 6 RX10 60 (some .int) o_X10_odds :=
  .cons (ix_s_iload_n dX10_odds_0 rfl) <|
  .cons (ix_s_bipush dX10_odds_1 (by decide +kernel)) <|
  .cons (oc_X10_outside_s (ix_s_calls (k_X10_outside l) (by decide) (by decide) tw_291 tw_1 tw_289 tw_290 ⟨by decide, by decide, by decide +kernel⟩ (fun _ => rfl) dX10_odds_3)) <|
  .cons (ix_s_if_ne dX10_odds_6 (by decide)) <|
  .cons (ix_s_iload_n dX10_odds_9 rfl) <|
  .cons (ix_s_sipush dX10_odds_10 (by decide +kernel)) <|
  .cons (oc_X10_outside_s (ix_s_calls (k_X10_outside l) (by decide) (by decide) tw_291 tw_1 tw_289 tw_290 ⟨by decide, by decide, by decide +kernel⟩ (fun _ => rfl) dX10_odds_13)) <|
  .cons (ix_s_if_ne dX10_odds_16 (by decide)) <|
  .cons (ix_s_iload_n dX10_odds_19 rfl) <|
  .cons (ix_s_iconst dX10_odds_20 (by decide +kernel)) <|
  .cons (oc_X10_outside_s (ix_s_calls (k_X10_outside l) (by decide) (by decide) tw_291 tw_1 tw_289 tw_290 ⟨by decide, by decide, by decide +kernel⟩ (fun _ => rfl) dX10_odds_21)) <|
  .cons (ix_s_if_eq dX10_odds_24 (by decide)) <|
  .cons (ix_s_aload_n dX10_odds_27 rfl) <|
  .cons (ix_s_iconst dX10_odds_28 (by decide +kernel)) <|
  .cons (oc_X10_error_s (ix_s_callv (t := 9) (k_X10_error l) (by decide) (by decide) tw_295 tw_1 tw_292 tw_294 tp_0 ⟨by decide, by decide, by decide +kernel⟩ (by decide) rfl rfl (fun _ => ⟨_, _, rfl, rfl⟩) dX10_odds_29)) <|
  .cons (ix_s_iret dX10_odds_32 rfl) <|
  .cons (ix_s_iconst dX10_odds_33 (by decide +kernel)) <|
  .cons (ix_s_istore dX10_odds_34 (by decide)) <|
  .cons (ix_s_iconst dX10_odds_36 (by decide +kernel)) <|
  .cons (ix_s_istore dX10_odds_37 (by decide)) <|
  .cons (ix_s_iload dX10_odds_39) <|
  .cons (ix_s_bipush dX10_odds_41 (by decide +kernel)) <|
  .cons (ix_s_cmp_gt dX10_odds_43 (by decide)) <|
  .cons (ix_s_aload_n dX10_odds_46 rfl) <|
  .cons (ix_s_aload_n dX10_odds_47 rfl) <|
  .cons (ix_s_iconst dX10_odds_48 (by decide +kernel)) <|
  .cons (ix_s_iconst dX10_odds_49 (by decide +kernel)) <|
  .cons (ix_s_iload dX10_odds_50) <|
  .cons (oc_X10_suppose_s (ix_s_callv (t := 9) (k_X10_suppose l) (by decide) (by decide) tw_667 tw_1 tw_664 tw_666 tp_10 ⟨by decide, by decide, by decide +kernel⟩ (by decide) rfl rfl (fun _ => ⟨_, _, rfl, rfl⟩) dX10_odds_52)) <|
  .cons (ix_s_iload_n dX10_odds_55 rfl) <|
  .cons (oc_X10_hadBehind_s (ix_s_callv (t := 9) (k_X10_hadBehind l) (by decide) (by decide) tw_595 tw_1 tw_592 tw_594 tp_7 ⟨by decide, by decide, by decide +kernel⟩ (by decide) rfl rfl (fun _ => ⟨_, _, rfl, rfl⟩) dX10_odds_56)) <|
  .cons (ix_s_iload_n dX10_odds_59 rfl) <|
  .cons (ix_s_cmp_lt dX10_odds_60 (by decide)) <|
  .cons (ix_s_iinc dX10_odds_63 (by decide +kernel) (by decide)) <|
  .cons (ix_s_iinc dX10_odds_66 (by decide +kernel) (by decide)) <|
  .cons (ix_s_goto dX10_odds_69 (by decide)) <|
  .cons (ix_s_iload dX10_odds_72) <|
  .cons (ix_s_bipush dX10_odds_74 (by decide +kernel)) <|
  .cons (oc_X10_commonDivisor_s (ix_s_calls (k_X10_commonDivisor l) (by decide) (by decide) tw_759 tw_1 tw_757 tw_758 ⟨by decide, by decide, by decide +kernel⟩ (fun _ => rfl) dX10_odds_76)) <|
  .cons (ix_s_istore dX10_odds_79 (by decide)) <|
  .cons (ix_s_iload_n dX10_odds_81 rfl) <|
  .cons (ix_s_if_ne dX10_odds_82 (by decide)) <|
  .cons (ix_s_iload dX10_odds_85) <|
  .cons (ix_s_iload dX10_odds_87) <|
  .cons (ix_s_idiv dX10_odds_89) <|
  .cons (ix_s_goto dX10_odds_90 (by decide)) <|
  .cons (ix_s_bipush dX10_odds_93 (by decide +kernel)) <|
  .cons (ix_s_iload dX10_odds_95) <|
  .cons (ix_s_idiv dX10_odds_97) <|
  .cons (ix_s_iret dX10_odds_98 rfl) <| .nil
theorem e_X10_odds_0 (Q : ix_R → Prop) (ls : ix_L) (st : List ix_V) (μ : ix_M) : ix_Ev o_X10_odds Q (0, ls, st, μ) = ix_iload 1 1 (ix_Ev o_X10_odds Q) Q ls st μ := ix_Ev.eq (a_X10_odds launch0) rfl ls st μ
theorem e_X10_odds_1 (Q : ix_R → Prop) (ls : ix_L) (st : List ix_V) (μ : ix_M) : ix_Ev o_X10_odds Q (1, ls, st, μ) = ix_push (vi 30) 3 (ix_Ev o_X10_odds Q) Q ls st μ := ix_Ev.eq (a_X10_odds launch0) rfl ls st μ
theorem e_X10_odds_3 (Q : ix_R → Prop) (ls : ix_L) (st : List ix_V) (μ : ix_M) : ix_Ev o_X10_odds Q (3, ls, st, μ) = oc_X10_outside 6 (ix_Ev o_X10_odds Q) Q ls st μ := ix_Ev.eq (a_X10_odds launch0) rfl ls st μ
theorem e_X10_odds_6 (Q : ix_R → Prop) (ls : ix_L) (st : List ix_V) (μ : ix_M) : ix_Ev o_X10_odds Q (6, ls, st, μ) = ix_if (fun x => x = 0) 9 27 (ix_Ev o_X10_odds Q) Q ls st μ := ix_Ev.eq (a_X10_odds launch0) rfl ls st μ
theorem e_X10_odds_9 (Q : ix_R → Prop) (ls : ix_L) (st : List ix_V) (μ : ix_M) : ix_Ev o_X10_odds Q (9, ls, st, μ) = ix_iload 2 10 (ix_Ev o_X10_odds Q) Q ls st μ := ix_Ev.eq (a_X10_odds launch0) rfl ls st μ
theorem e_X10_odds_10 (Q : ix_R → Prop) (ls : ix_L) (st : List ix_V) (μ : ix_M) : ix_Ev o_X10_odds Q (10, ls, st, μ) = ix_push (vi 792) 13 (ix_Ev o_X10_odds Q) Q ls st μ := ix_Ev.eq (a_X10_odds launch0) rfl ls st μ
theorem e_X10_odds_13 (Q : ix_R → Prop) (ls : ix_L) (st : List ix_V) (μ : ix_M) : ix_Ev o_X10_odds Q (13, ls, st, μ) = oc_X10_outside 16 (ix_Ev o_X10_odds Q) Q ls st μ := ix_Ev.eq (a_X10_odds launch0) rfl ls st μ
theorem e_X10_odds_16 (Q : ix_R → Prop) (ls : ix_L) (st : List ix_V) (μ : ix_M) : ix_Ev o_X10_odds Q (16, ls, st, μ) = ix_if (fun x => x = 0) 19 27 (ix_Ev o_X10_odds Q) Q ls st μ := ix_Ev.eq (a_X10_odds launch0) rfl ls st μ
theorem e_X10_odds_19 (Q : ix_R → Prop) (ls : ix_L) (st : List ix_V) (μ : ix_M) : ix_Ev o_X10_odds Q (19, ls, st, μ) = ix_iload 3 20 (ix_Ev o_X10_odds Q) Q ls st μ := ix_Ev.eq (a_X10_odds launch0) rfl ls st μ
theorem e_X10_odds_20 (Q : ix_R → Prop) (ls : ix_L) (st : List ix_V) (μ : ix_M) : ix_Ev o_X10_odds Q (20, ls, st, μ) = ix_push (vi 1) 21 (ix_Ev o_X10_odds Q) Q ls st μ := ix_Ev.eq (a_X10_odds launch0) rfl ls st μ
theorem e_X10_odds_21 (Q : ix_R → Prop) (ls : ix_L) (st : List ix_V) (μ : ix_M) : ix_Ev o_X10_odds Q (21, ls, st, μ) = oc_X10_outside 24 (ix_Ev o_X10_odds Q) Q ls st μ := ix_Ev.eq (a_X10_odds launch0) rfl ls st μ
theorem e_X10_odds_24 (Q : ix_R → Prop) (ls : ix_L) (st : List ix_V) (μ : ix_M) : ix_Ev o_X10_odds Q (24, ls, st, μ) = ix_if (fun x => x = 0) 33 27 (ix_Ev o_X10_odds Q) Q ls st μ := ix_Ev.eq (a_X10_odds launch0) rfl ls st μ
theorem e_X10_odds_27 (Q : ix_R → Prop) (ls : ix_L) (st : List ix_V) (μ : ix_M) : ix_Ev o_X10_odds Q (27, ls, st, μ) = ix_aload 0 28 (ix_Ev o_X10_odds Q) Q ls st μ := ix_Ev.eq (a_X10_odds launch0) rfl ls st μ
theorem e_X10_odds_28 (Q : ix_R → Prop) (ls : ix_L) (st : List ix_V) (μ : ix_M) : ix_Ev o_X10_odds Q (28, ls, st, μ) = ix_push (vi 1) 29 (ix_Ev o_X10_odds Q) Q ls st μ := ix_Ev.eq (a_X10_odds launch0) rfl ls st μ
theorem e_X10_odds_29 (Q : ix_R → Prop) (ls : ix_L) (st : List ix_V) (μ : ix_M) : ix_Ev o_X10_odds Q (29, ls, st, μ) = oc_X10_error 32 (ix_Ev o_X10_odds Q) Q ls st μ := ix_Ev.eq (a_X10_odds launch0) rfl ls st μ
theorem e_X10_odds_32 (Q : ix_R → Prop) (ls : ix_L) (st : List ix_V) (μ : ix_M) : ix_Ev o_X10_odds Q (32, ls, st, μ) = ix_iret (ix_Ev o_X10_odds Q) Q ls st μ := ix_Ev.eq (a_X10_odds launch0) rfl ls st μ
theorem e_X10_odds_33 (Q : ix_R → Prop) (ls : ix_L) (st : List ix_V) (μ : ix_M) : ix_Ev o_X10_odds Q (33, ls, st, μ) = ix_push (vi 0) 34 (ix_Ev o_X10_odds Q) Q ls st μ := ix_Ev.eq (a_X10_odds launch0) rfl ls st μ
theorem e_X10_odds_34 (Q : ix_R → Prop) (ls : ix_L) (st : List ix_V) (μ : ix_M) : ix_Ev o_X10_odds Q (34, ls, st, μ) = ix_istore 4 36 (ix_Ev o_X10_odds Q) Q ls st μ := ix_Ev.eq (a_X10_odds launch0) rfl ls st μ
theorem e_X10_odds_36 (Q : ix_R → Prop) (ls : ix_L) (st : List ix_V) (μ : ix_M) : ix_Ev o_X10_odds Q (36, ls, st, μ) = ix_push (vi 1) 37 (ix_Ev o_X10_odds Q) Q ls st μ := ix_Ev.eq (a_X10_odds launch0) rfl ls st μ
theorem e_X10_odds_37 (Q : ix_R → Prop) (ls : ix_L) (st : List ix_V) (μ : ix_M) : ix_Ev o_X10_odds Q (37, ls, st, μ) = ix_istore 5 39 (ix_Ev o_X10_odds Q) Q ls st μ := ix_Ev.eq (a_X10_odds launch0) rfl ls st μ
theorem e_X10_odds_39 (Q : ix_R → Prop) (ls : ix_L) (st : List ix_V) (μ : ix_M) : ix_Ev o_X10_odds Q (39, ls, st, μ) = ix_iload 5 41 (ix_Ev o_X10_odds Q) Q ls st μ := ix_Ev.eq (a_X10_odds launch0) rfl ls st μ
theorem e_X10_odds_41 (Q : ix_R → Prop) (ls : ix_L) (st : List ix_V) (μ : ix_M) : ix_Ev o_X10_odds Q (41, ls, st, μ) = ix_push (vi 20) 43 (ix_Ev o_X10_odds Q) Q ls st μ := ix_Ev.eq (a_X10_odds launch0) rfl ls st μ
theorem e_X10_odds_43 (Q : ix_R → Prop) (ls : ix_L) (st : List ix_V) (μ : ix_M) : ix_Ev o_X10_odds Q (43, ls, st, μ) = ix_cmp (fun x y => y < x) 72 46 (ix_Ev o_X10_odds Q) Q ls st μ := ix_Ev.eq (a_X10_odds launch0) rfl ls st μ
theorem e_X10_odds_46 (Q : ix_R → Prop) (ls : ix_L) (st : List ix_V) (μ : ix_M) : ix_Ev o_X10_odds Q (46, ls, st, μ) = ix_aload 0 47 (ix_Ev o_X10_odds Q) Q ls st μ := ix_Ev.eq (a_X10_odds launch0) rfl ls st μ
theorem e_X10_odds_47 (Q : ix_R → Prop) (ls : ix_L) (st : List ix_V) (μ : ix_M) : ix_Ev o_X10_odds Q (47, ls, st, μ) = ix_aload 0 48 (ix_Ev o_X10_odds Q) Q ls st μ := ix_Ev.eq (a_X10_odds launch0) rfl ls st μ
theorem e_X10_odds_48 (Q : ix_R → Prop) (ls : ix_L) (st : List ix_V) (μ : ix_M) : ix_Ev o_X10_odds Q (48, ls, st, μ) = ix_push (vi 4) 49 (ix_Ev o_X10_odds Q) Q ls st μ := ix_Ev.eq (a_X10_odds launch0) rfl ls st μ
theorem e_X10_odds_49 (Q : ix_R → Prop) (ls : ix_L) (st : List ix_V) (μ : ix_M) : ix_Ev o_X10_odds Q (49, ls, st, μ) = ix_push (vi 0) 50 (ix_Ev o_X10_odds Q) Q ls st μ := ix_Ev.eq (a_X10_odds launch0) rfl ls st μ
theorem e_X10_odds_50 (Q : ix_R → Prop) (ls : ix_L) (st : List ix_V) (μ : ix_M) : ix_Ev o_X10_odds Q (50, ls, st, μ) = ix_iload 5 52 (ix_Ev o_X10_odds Q) Q ls st μ := ix_Ev.eq (a_X10_odds launch0) rfl ls st μ
theorem e_X10_odds_52 (Q : ix_R → Prop) (ls : ix_L) (st : List ix_V) (μ : ix_M) : ix_Ev o_X10_odds Q (52, ls, st, μ) = oc_X10_suppose 55 (ix_Ev o_X10_odds Q) Q ls st μ := ix_Ev.eq (a_X10_odds launch0) rfl ls st μ
theorem e_X10_odds_55 (Q : ix_R → Prop) (ls : ix_L) (st : List ix_V) (μ : ix_M) : ix_Ev o_X10_odds Q (55, ls, st, μ) = ix_iload 1 56 (ix_Ev o_X10_odds Q) Q ls st μ := ix_Ev.eq (a_X10_odds launch0) rfl ls st μ
theorem e_X10_odds_56 (Q : ix_R → Prop) (ls : ix_L) (st : List ix_V) (μ : ix_M) : ix_Ev o_X10_odds Q (56, ls, st, μ) = oc_X10_hadBehind 59 (ix_Ev o_X10_odds Q) Q ls st μ := ix_Ev.eq (a_X10_odds launch0) rfl ls st μ
theorem e_X10_odds_59 (Q : ix_R → Prop) (ls : ix_L) (st : List ix_V) (μ : ix_M) : ix_Ev o_X10_odds Q (59, ls, st, μ) = ix_iload 2 60 (ix_Ev o_X10_odds Q) Q ls st μ := ix_Ev.eq (a_X10_odds launch0) rfl ls st μ
theorem e_X10_odds_60 (Q : ix_R → Prop) (ls : ix_L) (st : List ix_V) (μ : ix_M) : ix_Ev o_X10_odds Q (60, ls, st, μ) = ix_cmp (fun x y => x < y) 66 63 (ix_Ev o_X10_odds Q) Q ls st μ := ix_Ev.eq (a_X10_odds launch0) rfl ls st μ
theorem e_X10_odds_63 (Q : ix_R → Prop) (ls : ix_L) (st : List ix_V) (μ : ix_M) : ix_Ev o_X10_odds Q (63, ls, st, μ) = ix_iinc 4 1 66 (ix_Ev o_X10_odds Q) Q ls st μ := ix_Ev.eq (a_X10_odds launch0) rfl ls st μ
theorem e_X10_odds_66 (Q : ix_R → Prop) (ls : ix_L) (st : List ix_V) (μ : ix_M) : ix_Ev o_X10_odds Q (66, ls, st, μ) = ix_iinc 5 1 69 (ix_Ev o_X10_odds Q) Q ls st μ := ix_Ev.eq (a_X10_odds launch0) rfl ls st μ
theorem e_X10_odds_69 (Q : ix_R → Prop) (ls : ix_L) (st : List ix_V) (μ : ix_M) : ix_Ev o_X10_odds Q (69, ls, st, μ) = ix_goto 39 (ix_Ev o_X10_odds Q) Q ls st μ := ix_Ev.eq (a_X10_odds launch0) rfl ls st μ
theorem e_X10_odds_72 (Q : ix_R → Prop) (ls : ix_L) (st : List ix_V) (μ : ix_M) : ix_Ev o_X10_odds Q (72, ls, st, μ) = ix_iload 4 74 (ix_Ev o_X10_odds Q) Q ls st μ := ix_Ev.eq (a_X10_odds launch0) rfl ls st μ
theorem e_X10_odds_74 (Q : ix_R → Prop) (ls : ix_L) (st : List ix_V) (μ : ix_M) : ix_Ev o_X10_odds Q (74, ls, st, μ) = ix_push (vi 20) 76 (ix_Ev o_X10_odds Q) Q ls st μ := ix_Ev.eq (a_X10_odds launch0) rfl ls st μ
theorem e_X10_odds_76 (Q : ix_R → Prop) (ls : ix_L) (st : List ix_V) (μ : ix_M) : ix_Ev o_X10_odds Q (76, ls, st, μ) = oc_X10_commonDivisor 79 (ix_Ev o_X10_odds Q) Q ls st μ := ix_Ev.eq (a_X10_odds launch0) rfl ls st μ
theorem e_X10_odds_79 (Q : ix_R → Prop) (ls : ix_L) (st : List ix_V) (μ : ix_M) : ix_Ev o_X10_odds Q (79, ls, st, μ) = ix_istore 5 81 (ix_Ev o_X10_odds Q) Q ls st μ := ix_Ev.eq (a_X10_odds launch0) rfl ls st μ
theorem e_X10_odds_81 (Q : ix_R → Prop) (ls : ix_L) (st : List ix_V) (μ : ix_M) : ix_Ev o_X10_odds Q (81, ls, st, μ) = ix_iload 3 82 (ix_Ev o_X10_odds Q) Q ls st μ := ix_Ev.eq (a_X10_odds launch0) rfl ls st μ
theorem e_X10_odds_82 (Q : ix_R → Prop) (ls : ix_L) (st : List ix_V) (μ : ix_M) : ix_Ev o_X10_odds Q (82, ls, st, μ) = ix_if (fun x => x = 0) 85 93 (ix_Ev o_X10_odds Q) Q ls st μ := ix_Ev.eq (a_X10_odds launch0) rfl ls st μ
theorem e_X10_odds_85 (Q : ix_R → Prop) (ls : ix_L) (st : List ix_V) (μ : ix_M) : ix_Ev o_X10_odds Q (85, ls, st, μ) = ix_iload 4 87 (ix_Ev o_X10_odds Q) Q ls st μ := ix_Ev.eq (a_X10_odds launch0) rfl ls st μ
theorem e_X10_odds_87 (Q : ix_R → Prop) (ls : ix_L) (st : List ix_V) (μ : ix_M) : ix_Ev o_X10_odds Q (87, ls, st, μ) = ix_iload 5 89 (ix_Ev o_X10_odds Q) Q ls st μ := ix_Ev.eq (a_X10_odds launch0) rfl ls st μ
theorem e_X10_odds_89 (Q : ix_R → Prop) (ls : ix_L) (st : List ix_V) (μ : ix_M) : ix_Ev o_X10_odds Q (89, ls, st, μ) = ix_div (fun x y => x / y) 90 (ix_Ev o_X10_odds Q) Q ls st μ := ix_Ev.eq (a_X10_odds launch0) rfl ls st μ
theorem e_X10_odds_90 (Q : ix_R → Prop) (ls : ix_L) (st : List ix_V) (μ : ix_M) : ix_Ev o_X10_odds Q (90, ls, st, μ) = ix_goto 98 (ix_Ev o_X10_odds Q) Q ls st μ := ix_Ev.eq (a_X10_odds launch0) rfl ls st μ
theorem e_X10_odds_93 (Q : ix_R → Prop) (ls : ix_L) (st : List ix_V) (μ : ix_M) : ix_Ev o_X10_odds Q (93, ls, st, μ) = ix_push (vi 20) 95 (ix_Ev o_X10_odds Q) Q ls st μ := ix_Ev.eq (a_X10_odds launch0) rfl ls st μ
theorem e_X10_odds_95 (Q : ix_R → Prop) (ls : ix_L) (st : List ix_V) (μ : ix_M) : ix_Ev o_X10_odds Q (95, ls, st, μ) = ix_iload 5 97 (ix_Ev o_X10_odds Q) Q ls st μ := ix_Ev.eq (a_X10_odds launch0) rfl ls st μ
theorem e_X10_odds_97 (Q : ix_R → Prop) (ls : ix_L) (st : List ix_V) (μ : ix_M) : ix_Ev o_X10_odds Q (97, ls, st, μ) = ix_div (fun x y => x / y) 98 (ix_Ev o_X10_odds Q) Q ls st μ := ix_Ev.eq (a_X10_odds launch0) rfl ls st μ
theorem e_X10_odds_98 (Q : ix_R → Prop) (ls : ix_L) (st : List ix_V) (μ : ix_M) : ix_Ev o_X10_odds Q (98, ls, st, μ) = ix_iret (ix_Ev o_X10_odds Q) Q ls st μ := ix_Ev.eq (a_X10_odds launch0) rfl ls st μ
def o_X11_odds : List (Nat × ix_Op) := [
  (0, ix_iload 1 1),
  (1, ix_push (vi 0) 2),
  (2, ix_push (vi 30) 4),
  (4, oc_X11_within 7),
  (7, ix_if (fun x => x = 0) 26 10),
  (10, ix_iload 2 11),
  (11, oc_X11_isHad 14),
  (14, ix_if (fun x => x = 0) 26 17),
  (17, ix_iload 3 18),
  (18, ix_push (vi 0) 19),
  (19, ix_push (vi 1) 20),
  (20, oc_X11_within 23),
  (23, ix_if (fun x => x = 0) 26 33),
  (26, ix_aload 0 27),
  (27, ix_push (vi (-1000000001)) 29),
  (29, oc_X11_finding 32),
  (32, ix_iret),
  (33, ix_aload 0 34),
  (34, ix_getr 10 20 (fun _ => 113) 37),
  (37, ix_push (vi 2) 38),
  (38, ix_iald 39),
  (39, ix_istore 4 41),
  (41, ix_push (vi 0) 42),
  (42, ix_istore 5 44),
  (44, ix_push (vi 1) 45),
  (45, ix_istore 6 47),
  (47, ix_iload 6 49),
  (49, ix_push (vi 20) 51),
  (51, ix_cmp (fun x y => y < x) 87 54),
  (54, ix_aload 0 55),
  (55, ix_getr 10 20 (fun _ => 113) 58),
  (58, ix_push (vi 2) 59),
  (59, ix_iload 6 61),
  (61, ix_iast 62),
  (62, ix_iload 5 64),
  (64, ix_aload 0 65),
  (65, ix_iload 1 66),
  (66, oc_X11_hadBehind 69),
  (69, ix_iload 2 70),
  (70, ix_cmp (fun x y => x < y) 77 73),
  (73, ix_push (vi 1) 74),
  (74, ix_goto 78),
  (77, ix_push (vi 0) 78),
  (78, ix_bin (fun x y => x + y) 79),
  (79, ix_istore 5 81),
  (81, ix_iinc 6 1 84),
  (84, ix_goto 47),
  (87, ix_aload 0 88),
  (88, ix_getr 10 20 (fun _ => 113) 91),
  (91, ix_push (vi 2) 92),
  (92, ix_iload 4 94),
  (94, ix_iast 95),
  (95, ix_push (vi 20) 97),
  (97, ix_istore 6 99),
  (99, ix_iload 5 101),
  (101, ix_istore 7 103),
  (103, ix_iload 7 105),
  (105, ix_if (fun x => x = 0) 126 108),
  (108, ix_iload 6 110),
  (110, ix_iload 7 112),
  (112, ix_div (fun x y => x - x / y * y) 113),
  (113, ix_istore 8 115),
  (115, ix_iload 7 117),
  (117, ix_istore 6 119),
  (119, ix_iload 8 121),
  (121, ix_istore 7 123),
  (123, ix_goto 103),
  (126, ix_iload 3 127),
  (127, ix_if (fun x => x = 0) 130 135),
  (130, ix_iload 5 132),
  (132, ix_goto 137),
  (135, ix_push (vi 20) 137),
  (137, ix_iload 6 139),
  (139, ix_div (fun x y => x / y) 140),
  (140, ix_iret)]
set_option maxRecDepth 20000 in
theorem a_X11_odds (l : Launch) : ix_AllS l cX11_odds 9 RX11 60 (some .int) o_X11_odds :=
  .cons (ix_s_iload_n dX11_odds_0 rfl) <|
  .cons (ix_s_iconst dX11_odds_1 (by decide +kernel)) <|
  .cons (ix_s_bipush dX11_odds_2 (by decide +kernel)) <|
  .cons (oc_X11_within_s (ix_s_calls (k_X11_within l) (by decide) (by decide) tw_960 tw_12 tw_958 tw_959 ⟨by decide, by decide, by decide +kernel⟩ (fun _ => rfl) dX11_odds_4)) <|
  .cons (ix_s_if_eq dX11_odds_7 (by decide)) <|
  .cons (ix_s_iload_n dX11_odds_10 rfl) <|
  .cons (oc_X11_isHad_s (ix_s_calls (k_X11_isHad l) (by decide) (by decide) tw_1273 tw_12 tw_1271 tw_1272 ⟨by decide, by decide, by decide +kernel⟩ (fun _ => rfl) dX11_odds_11)) <|
  .cons (ix_s_if_eq dX11_odds_14 (by decide)) <|
  .cons (ix_s_iload_n dX11_odds_17 rfl) <|
  .cons (ix_s_iconst dX11_odds_18 (by decide +kernel)) <|
  .cons (ix_s_iconst dX11_odds_19 (by decide +kernel)) <|
  .cons (oc_X11_within_s (ix_s_calls (k_X11_within l) (by decide) (by decide) tw_960 tw_12 tw_958 tw_959 ⟨by decide, by decide, by decide +kernel⟩ (fun _ => rfl) dX11_odds_20)) <|
  .cons (ix_s_if_ne dX11_odds_23 (by decide)) <|
  .cons (ix_s_aload_n dX11_odds_26 rfl) <|
  .cons (ix_s_ldc tw_961 dX11_odds_27) <|
  .cons (oc_X11_finding_s (ix_s_callv (t := 10) (k_X11_finding l) (by decide) (by decide) tw_965 tw_12 tw_962 tw_964 tp_18 ⟨by decide, by decide, by decide +kernel⟩ (by decide) rfl rfl (fun _ => ⟨_, _, rfl, rfl⟩) dX11_odds_29)) <|
  .cons (ix_s_iret dX11_odds_32 rfl) <|
  .cons (ix_s_aload_n dX11_odds_33 rfl) <|
  .cons (ix_s_getr (j := 0) tu_X11 rfl (by decide) (by decide) tw_875 rfl ts_10_0_r dX11_odds_34) <|
  .cons (ix_s_iconst dX11_odds_37 (by decide +kernel)) <|
  .cons (ix_s_iald dX11_odds_38) <|
  .cons (ix_s_istore dX11_odds_39 (by decide)) <|
  .cons (ix_s_iconst dX11_odds_41 (by decide +kernel)) <|
  .cons (ix_s_istore dX11_odds_42 (by decide)) <|
  .cons (ix_s_iconst dX11_odds_44 (by decide +kernel)) <|
  .cons (ix_s_istore dX11_odds_45 (by decide)) <|
  .cons (ix_s_iload dX11_odds_47) <|
  .cons (ix_s_bipush dX11_odds_49 (by decide +kernel)) <|
  .cons (ix_s_cmp_gt dX11_odds_51 (by decide)) <|
  .cons (ix_s_aload_n dX11_odds_54 rfl) <|
  .cons (ix_s_getr (j := 0) tu_X11 rfl (by decide) (by decide) tw_875 rfl ts_10_0_r dX11_odds_55) <|
  .cons (ix_s_iconst dX11_odds_58 (by decide +kernel)) <|
  .cons (ix_s_iload dX11_odds_59) <|
  .cons (ix_s_iast dX11_odds_61) <|
  .cons (ix_s_iload dX11_odds_62) <|
  .cons (ix_s_aload_n dX11_odds_64 rfl) <|
  .cons (ix_s_iload_n dX11_odds_65 rfl) <|
  .cons (oc_X11_hadBehind_s (ix_s_callv (t := 10) (k_X11_hadBehind l) (by decide) (by decide) tw_1250 tw_12 tw_1247 tw_1249 tp_52 ⟨by decide, by decide, by decide +kernel⟩ (by decide) rfl rfl (fun _ => ⟨_, _, rfl, rfl⟩) dX11_odds_66)) <|
  .cons (ix_s_iload_n dX11_odds_69 rfl) <|
  .cons (ix_s_cmp_lt dX11_odds_70 (by decide)) <|
  .cons (ix_s_iconst dX11_odds_73 (by decide +kernel)) <|
  .cons (ix_s_goto dX11_odds_74 (by decide)) <|
  .cons (ix_s_iconst dX11_odds_77 (by decide +kernel)) <|
  .cons (ix_s_iadd dX11_odds_78) <|
  .cons (ix_s_istore dX11_odds_79 (by decide)) <|
  .cons (ix_s_iinc dX11_odds_81 (by decide +kernel) (by decide)) <|
  .cons (ix_s_goto dX11_odds_84 (by decide)) <|
  .cons (ix_s_aload_n dX11_odds_87 rfl) <|
  .cons (ix_s_getr (j := 0) tu_X11 rfl (by decide) (by decide) tw_875 rfl ts_10_0_r dX11_odds_88) <|
  .cons (ix_s_iconst dX11_odds_91 (by decide +kernel)) <|
  .cons (ix_s_iload dX11_odds_92) <|
  .cons (ix_s_iast dX11_odds_94) <|
  .cons (ix_s_bipush dX11_odds_95 (by decide +kernel)) <|
  .cons (ix_s_istore dX11_odds_97 (by decide)) <|
  .cons (ix_s_iload dX11_odds_99) <|
  .cons (ix_s_istore dX11_odds_101 (by decide)) <|
  .cons (ix_s_iload dX11_odds_103) <|
  .cons (ix_s_if_eq dX11_odds_105 (by decide)) <|
  .cons (ix_s_iload dX11_odds_108) <|
  .cons (ix_s_iload dX11_odds_110) <|
  .cons (ix_s_irem dX11_odds_112) <|
  .cons (ix_s_istore dX11_odds_113 (by decide)) <|
  .cons (ix_s_iload dX11_odds_115) <|
  .cons (ix_s_istore dX11_odds_117 (by decide)) <|
  .cons (ix_s_iload dX11_odds_119) <|
  .cons (ix_s_istore dX11_odds_121 (by decide)) <|
  .cons (ix_s_goto dX11_odds_123 (by decide)) <|
  .cons (ix_s_iload_n dX11_odds_126 rfl) <|
  .cons (ix_s_if_ne dX11_odds_127 (by decide)) <|
  .cons (ix_s_iload dX11_odds_130) <|
  .cons (ix_s_goto dX11_odds_132 (by decide)) <|
  .cons (ix_s_bipush dX11_odds_135 (by decide +kernel)) <|
  .cons (ix_s_iload dX11_odds_137) <|
  .cons (ix_s_idiv dX11_odds_139) <|
  .cons (ix_s_iret dX11_odds_140 rfl) <| .nil
theorem e_X11_odds_0 (Q : ix_R → Prop) (ls : ix_L) (st : List ix_V) (μ : ix_M) : ix_Ev o_X11_odds Q (0, ls, st, μ) = ix_iload 1 1 (ix_Ev o_X11_odds Q) Q ls st μ := ix_Ev.eq (a_X11_odds launch0) rfl ls st μ
theorem e_X11_odds_1 (Q : ix_R → Prop) (ls : ix_L) (st : List ix_V) (μ : ix_M) : ix_Ev o_X11_odds Q (1, ls, st, μ) = ix_push (vi 0) 2 (ix_Ev o_X11_odds Q) Q ls st μ := ix_Ev.eq (a_X11_odds launch0) rfl ls st μ
theorem e_X11_odds_2 (Q : ix_R → Prop) (ls : ix_L) (st : List ix_V) (μ : ix_M) : ix_Ev o_X11_odds Q (2, ls, st, μ) = ix_push (vi 30) 4 (ix_Ev o_X11_odds Q) Q ls st μ := ix_Ev.eq (a_X11_odds launch0) rfl ls st μ
theorem e_X11_odds_4 (Q : ix_R → Prop) (ls : ix_L) (st : List ix_V) (μ : ix_M) : ix_Ev o_X11_odds Q (4, ls, st, μ) = oc_X11_within 7 (ix_Ev o_X11_odds Q) Q ls st μ := ix_Ev.eq (a_X11_odds launch0) rfl ls st μ
theorem e_X11_odds_7 (Q : ix_R → Prop) (ls : ix_L) (st : List ix_V) (μ : ix_M) : ix_Ev o_X11_odds Q (7, ls, st, μ) = ix_if (fun x => x = 0) 26 10 (ix_Ev o_X11_odds Q) Q ls st μ := ix_Ev.eq (a_X11_odds launch0) rfl ls st μ
theorem e_X11_odds_10 (Q : ix_R → Prop) (ls : ix_L) (st : List ix_V) (μ : ix_M) : ix_Ev o_X11_odds Q (10, ls, st, μ) = ix_iload 2 11 (ix_Ev o_X11_odds Q) Q ls st μ := ix_Ev.eq (a_X11_odds launch0) rfl ls st μ
theorem e_X11_odds_11 (Q : ix_R → Prop) (ls : ix_L) (st : List ix_V) (μ : ix_M) : ix_Ev o_X11_odds Q (11, ls, st, μ) = oc_X11_isHad 14 (ix_Ev o_X11_odds Q) Q ls st μ := ix_Ev.eq (a_X11_odds launch0) rfl ls st μ
theorem e_X11_odds_14 (Q : ix_R → Prop) (ls : ix_L) (st : List ix_V) (μ : ix_M) : ix_Ev o_X11_odds Q (14, ls, st, μ) = ix_if (fun x => x = 0) 26 17 (ix_Ev o_X11_odds Q) Q ls st μ := ix_Ev.eq (a_X11_odds launch0) rfl ls st μ
theorem e_X11_odds_17 (Q : ix_R → Prop) (ls : ix_L) (st : List ix_V) (μ : ix_M) : ix_Ev o_X11_odds Q (17, ls, st, μ) = ix_iload 3 18 (ix_Ev o_X11_odds Q) Q ls st μ := ix_Ev.eq (a_X11_odds launch0) rfl ls st μ
theorem e_X11_odds_18 (Q : ix_R → Prop) (ls : ix_L) (st : List ix_V) (μ : ix_M) : ix_Ev o_X11_odds Q (18, ls, st, μ) = ix_push (vi 0) 19 (ix_Ev o_X11_odds Q) Q ls st μ := ix_Ev.eq (a_X11_odds launch0) rfl ls st μ
theorem e_X11_odds_19 (Q : ix_R → Prop) (ls : ix_L) (st : List ix_V) (μ : ix_M) : ix_Ev o_X11_odds Q (19, ls, st, μ) = ix_push (vi 1) 20 (ix_Ev o_X11_odds Q) Q ls st μ := ix_Ev.eq (a_X11_odds launch0) rfl ls st μ
theorem e_X11_odds_20 (Q : ix_R → Prop) (ls : ix_L) (st : List ix_V) (μ : ix_M) : ix_Ev o_X11_odds Q (20, ls, st, μ) = oc_X11_within 23 (ix_Ev o_X11_odds Q) Q ls st μ := ix_Ev.eq (a_X11_odds launch0) rfl ls st μ
theorem e_X11_odds_23 (Q : ix_R → Prop) (ls : ix_L) (st : List ix_V) (μ : ix_M) : ix_Ev o_X11_odds Q (23, ls, st, μ) = ix_if (fun x => x = 0) 26 33 (ix_Ev o_X11_odds Q) Q ls st μ := ix_Ev.eq (a_X11_odds launch0) rfl ls st μ
theorem e_X11_odds_26 (Q : ix_R → Prop) (ls : ix_L) (st : List ix_V) (μ : ix_M) : ix_Ev o_X11_odds Q (26, ls, st, μ) = ix_aload 0 27 (ix_Ev o_X11_odds Q) Q ls st μ := ix_Ev.eq (a_X11_odds launch0) rfl ls st μ
theorem e_X11_odds_27 (Q : ix_R → Prop) (ls : ix_L) (st : List ix_V) (μ : ix_M) : ix_Ev o_X11_odds Q (27, ls, st, μ) = ix_push (vi (-1000000001)) 29 (ix_Ev o_X11_odds Q) Q ls st μ := ix_Ev.eq (a_X11_odds launch0) rfl ls st μ
theorem e_X11_odds_29 (Q : ix_R → Prop) (ls : ix_L) (st : List ix_V) (μ : ix_M) : ix_Ev o_X11_odds Q (29, ls, st, μ) = oc_X11_finding 32 (ix_Ev o_X11_odds Q) Q ls st μ := ix_Ev.eq (a_X11_odds launch0) rfl ls st μ
theorem e_X11_odds_32 (Q : ix_R → Prop) (ls : ix_L) (st : List ix_V) (μ : ix_M) : ix_Ev o_X11_odds Q (32, ls, st, μ) = ix_iret (ix_Ev o_X11_odds Q) Q ls st μ := ix_Ev.eq (a_X11_odds launch0) rfl ls st μ
theorem e_X11_odds_33 (Q : ix_R → Prop) (ls : ix_L) (st : List ix_V) (μ : ix_M) : ix_Ev o_X11_odds Q (33, ls, st, μ) = ix_aload 0 34 (ix_Ev o_X11_odds Q) Q ls st μ := ix_Ev.eq (a_X11_odds launch0) rfl ls st μ
theorem e_X11_odds_34 (Q : ix_R → Prop) (ls : ix_L) (st : List ix_V) (μ : ix_M) : ix_Ev o_X11_odds Q (34, ls, st, μ) = ix_getr 10 20 (fun _ => 113) 37 (ix_Ev o_X11_odds Q) Q ls st μ := ix_Ev.eq (a_X11_odds launch0) rfl ls st μ
theorem e_X11_odds_37 (Q : ix_R → Prop) (ls : ix_L) (st : List ix_V) (μ : ix_M) : ix_Ev o_X11_odds Q (37, ls, st, μ) = ix_push (vi 2) 38 (ix_Ev o_X11_odds Q) Q ls st μ := ix_Ev.eq (a_X11_odds launch0) rfl ls st μ
theorem e_X11_odds_38 (Q : ix_R → Prop) (ls : ix_L) (st : List ix_V) (μ : ix_M) : ix_Ev o_X11_odds Q (38, ls, st, μ) = ix_iald 39 (ix_Ev o_X11_odds Q) Q ls st μ := ix_Ev.eq (a_X11_odds launch0) rfl ls st μ
theorem e_X11_odds_39 (Q : ix_R → Prop) (ls : ix_L) (st : List ix_V) (μ : ix_M) : ix_Ev o_X11_odds Q (39, ls, st, μ) = ix_istore 4 41 (ix_Ev o_X11_odds Q) Q ls st μ := ix_Ev.eq (a_X11_odds launch0) rfl ls st μ
theorem e_X11_odds_41 (Q : ix_R → Prop) (ls : ix_L) (st : List ix_V) (μ : ix_M) : ix_Ev o_X11_odds Q (41, ls, st, μ) = ix_push (vi 0) 42 (ix_Ev o_X11_odds Q) Q ls st μ := ix_Ev.eq (a_X11_odds launch0) rfl ls st μ
theorem e_X11_odds_42 (Q : ix_R → Prop) (ls : ix_L) (st : List ix_V) (μ : ix_M) : ix_Ev o_X11_odds Q (42, ls, st, μ) = ix_istore 5 44 (ix_Ev o_X11_odds Q) Q ls st μ := ix_Ev.eq (a_X11_odds launch0) rfl ls st μ
theorem e_X11_odds_44 (Q : ix_R → Prop) (ls : ix_L) (st : List ix_V) (μ : ix_M) : ix_Ev o_X11_odds Q (44, ls, st, μ) = ix_push (vi 1) 45 (ix_Ev o_X11_odds Q) Q ls st μ := ix_Ev.eq (a_X11_odds launch0) rfl ls st μ
theorem e_X11_odds_45 (Q : ix_R → Prop) (ls : ix_L) (st : List ix_V) (μ : ix_M) : ix_Ev o_X11_odds Q (45, ls, st, μ) = ix_istore 6 47 (ix_Ev o_X11_odds Q) Q ls st μ := ix_Ev.eq (a_X11_odds launch0) rfl ls st μ
theorem e_X11_odds_47 (Q : ix_R → Prop) (ls : ix_L) (st : List ix_V) (μ : ix_M) : ix_Ev o_X11_odds Q (47, ls, st, μ) = ix_iload 6 49 (ix_Ev o_X11_odds Q) Q ls st μ := ix_Ev.eq (a_X11_odds launch0) rfl ls st μ
theorem e_X11_odds_49 (Q : ix_R → Prop) (ls : ix_L) (st : List ix_V) (μ : ix_M) : ix_Ev o_X11_odds Q (49, ls, st, μ) = ix_push (vi 20) 51 (ix_Ev o_X11_odds Q) Q ls st μ := ix_Ev.eq (a_X11_odds launch0) rfl ls st μ
theorem e_X11_odds_51 (Q : ix_R → Prop) (ls : ix_L) (st : List ix_V) (μ : ix_M) : ix_Ev o_X11_odds Q (51, ls, st, μ) = ix_cmp (fun x y => y < x) 87 54 (ix_Ev o_X11_odds Q) Q ls st μ := ix_Ev.eq (a_X11_odds launch0) rfl ls st μ
theorem e_X11_odds_54 (Q : ix_R → Prop) (ls : ix_L) (st : List ix_V) (μ : ix_M) : ix_Ev o_X11_odds Q (54, ls, st, μ) = ix_aload 0 55 (ix_Ev o_X11_odds Q) Q ls st μ := ix_Ev.eq (a_X11_odds launch0) rfl ls st μ
theorem e_X11_odds_55 (Q : ix_R → Prop) (ls : ix_L) (st : List ix_V) (μ : ix_M) : ix_Ev o_X11_odds Q (55, ls, st, μ) = ix_getr 10 20 (fun _ => 113) 58 (ix_Ev o_X11_odds Q) Q ls st μ := ix_Ev.eq (a_X11_odds launch0) rfl ls st μ
theorem e_X11_odds_58 (Q : ix_R → Prop) (ls : ix_L) (st : List ix_V) (μ : ix_M) : ix_Ev o_X11_odds Q (58, ls, st, μ) = ix_push (vi 2) 59 (ix_Ev o_X11_odds Q) Q ls st μ := ix_Ev.eq (a_X11_odds launch0) rfl ls st μ
theorem e_X11_odds_59 (Q : ix_R → Prop) (ls : ix_L) (st : List ix_V) (μ : ix_M) : ix_Ev o_X11_odds Q (59, ls, st, μ) = ix_iload 6 61 (ix_Ev o_X11_odds Q) Q ls st μ := ix_Ev.eq (a_X11_odds launch0) rfl ls st μ
theorem e_X11_odds_61 (Q : ix_R → Prop) (ls : ix_L) (st : List ix_V) (μ : ix_M) : ix_Ev o_X11_odds Q (61, ls, st, μ) = ix_iast 62 (ix_Ev o_X11_odds Q) Q ls st μ := ix_Ev.eq (a_X11_odds launch0) rfl ls st μ
theorem e_X11_odds_62 (Q : ix_R → Prop) (ls : ix_L) (st : List ix_V) (μ : ix_M) : ix_Ev o_X11_odds Q (62, ls, st, μ) = ix_iload 5 64 (ix_Ev o_X11_odds Q) Q ls st μ := ix_Ev.eq (a_X11_odds launch0) rfl ls st μ
theorem e_X11_odds_64 (Q : ix_R → Prop) (ls : ix_L) (st : List ix_V) (μ : ix_M) : ix_Ev o_X11_odds Q (64, ls, st, μ) = ix_aload 0 65 (ix_Ev o_X11_odds Q) Q ls st μ := ix_Ev.eq (a_X11_odds launch0) rfl ls st μ
theorem e_X11_odds_65 (Q : ix_R → Prop) (ls : ix_L) (st : List ix_V) (μ : ix_M) : ix_Ev o_X11_odds Q (65, ls, st, μ) = ix_iload 1 66 (ix_Ev o_X11_odds Q) Q ls st μ := ix_Ev.eq (a_X11_odds launch0) rfl ls st μ
theorem e_X11_odds_66 (Q : ix_R → Prop) (ls : ix_L) (st : List ix_V) (μ : ix_M) : ix_Ev o_X11_odds Q (66, ls, st, μ) = oc_X11_hadBehind 69 (ix_Ev o_X11_odds Q) Q ls st μ := ix_Ev.eq (a_X11_odds launch0) rfl ls st μ
theorem e_X11_odds_69 (Q : ix_R → Prop) (ls : ix_L) (st : List ix_V) (μ : ix_M) : ix_Ev o_X11_odds Q (69, ls, st, μ) = ix_iload 2 70 (ix_Ev o_X11_odds Q) Q ls st μ := ix_Ev.eq (a_X11_odds launch0) rfl ls st μ
theorem e_X11_odds_70 (Q : ix_R → Prop) (ls : ix_L) (st : List ix_V) (μ : ix_M) : ix_Ev o_X11_odds Q (70, ls, st, μ) = ix_cmp (fun x y => x < y) 77 73 (ix_Ev o_X11_odds Q) Q ls st μ := ix_Ev.eq (a_X11_odds launch0) rfl ls st μ
theorem e_X11_odds_73 (Q : ix_R → Prop) (ls : ix_L) (st : List ix_V) (μ : ix_M) : ix_Ev o_X11_odds Q (73, ls, st, μ) = ix_push (vi 1) 74 (ix_Ev o_X11_odds Q) Q ls st μ := ix_Ev.eq (a_X11_odds launch0) rfl ls st μ
theorem e_X11_odds_74 (Q : ix_R → Prop) (ls : ix_L) (st : List ix_V) (μ : ix_M) : ix_Ev o_X11_odds Q (74, ls, st, μ) = ix_goto 78 (ix_Ev o_X11_odds Q) Q ls st μ := ix_Ev.eq (a_X11_odds launch0) rfl ls st μ
theorem e_X11_odds_77 (Q : ix_R → Prop) (ls : ix_L) (st : List ix_V) (μ : ix_M) : ix_Ev o_X11_odds Q (77, ls, st, μ) = ix_push (vi 0) 78 (ix_Ev o_X11_odds Q) Q ls st μ := ix_Ev.eq (a_X11_odds launch0) rfl ls st μ
theorem e_X11_odds_78 (Q : ix_R → Prop) (ls : ix_L) (st : List ix_V) (μ : ix_M) : ix_Ev o_X11_odds Q (78, ls, st, μ) = ix_bin (fun x y => x + y) 79 (ix_Ev o_X11_odds Q) Q ls st μ := ix_Ev.eq (a_X11_odds launch0) rfl ls st μ
theorem e_X11_odds_79 (Q : ix_R → Prop) (ls : ix_L) (st : List ix_V) (μ : ix_M) : ix_Ev o_X11_odds Q (79, ls, st, μ) = ix_istore 5 81 (ix_Ev o_X11_odds Q) Q ls st μ := ix_Ev.eq (a_X11_odds launch0) rfl ls st μ
theorem e_X11_odds_81 (Q : ix_R → Prop) (ls : ix_L) (st : List ix_V) (μ : ix_M) : ix_Ev o_X11_odds Q (81, ls, st, μ) = ix_iinc 6 1 84 (ix_Ev o_X11_odds Q) Q ls st μ := ix_Ev.eq (a_X11_odds launch0) rfl ls st μ
theorem e_X11_odds_84 (Q : ix_R → Prop) (ls : ix_L) (st : List ix_V) (μ : ix_M) : ix_Ev o_X11_odds Q (84, ls, st, μ) = ix_goto 47 (ix_Ev o_X11_odds Q) Q ls st μ := ix_Ev.eq (a_X11_odds launch0) rfl ls st μ
theorem e_X11_odds_87 (Q : ix_R → Prop) (ls : ix_L) (st : List ix_V) (μ : ix_M) : ix_Ev o_X11_odds Q (87, ls, st, μ) = ix_aload 0 88 (ix_Ev o_X11_odds Q) Q ls st μ := ix_Ev.eq (a_X11_odds launch0) rfl ls st μ
theorem e_X11_odds_88 (Q : ix_R → Prop) (ls : ix_L) (st : List ix_V) (μ : ix_M) : ix_Ev o_X11_odds Q (88, ls, st, μ) = ix_getr 10 20 (fun _ => 113) 91 (ix_Ev o_X11_odds Q) Q ls st μ := ix_Ev.eq (a_X11_odds launch0) rfl ls st μ
theorem e_X11_odds_91 (Q : ix_R → Prop) (ls : ix_L) (st : List ix_V) (μ : ix_M) : ix_Ev o_X11_odds Q (91, ls, st, μ) = ix_push (vi 2) 92 (ix_Ev o_X11_odds Q) Q ls st μ := ix_Ev.eq (a_X11_odds launch0) rfl ls st μ
theorem e_X11_odds_92 (Q : ix_R → Prop) (ls : ix_L) (st : List ix_V) (μ : ix_M) : ix_Ev o_X11_odds Q (92, ls, st, μ) = ix_iload 4 94 (ix_Ev o_X11_odds Q) Q ls st μ := ix_Ev.eq (a_X11_odds launch0) rfl ls st μ
theorem e_X11_odds_94 (Q : ix_R → Prop) (ls : ix_L) (st : List ix_V) (μ : ix_M) : ix_Ev o_X11_odds Q (94, ls, st, μ) = ix_iast 95 (ix_Ev o_X11_odds Q) Q ls st μ := ix_Ev.eq (a_X11_odds launch0) rfl ls st μ
theorem e_X11_odds_95 (Q : ix_R → Prop) (ls : ix_L) (st : List ix_V) (μ : ix_M) : ix_Ev o_X11_odds Q (95, ls, st, μ) = ix_push (vi 20) 97 (ix_Ev o_X11_odds Q) Q ls st μ := ix_Ev.eq (a_X11_odds launch0) rfl ls st μ
theorem e_X11_odds_97 (Q : ix_R → Prop) (ls : ix_L) (st : List ix_V) (μ : ix_M) : ix_Ev o_X11_odds Q (97, ls, st, μ) = ix_istore 6 99 (ix_Ev o_X11_odds Q) Q ls st μ := ix_Ev.eq (a_X11_odds launch0) rfl ls st μ
theorem e_X11_odds_99 (Q : ix_R → Prop) (ls : ix_L) (st : List ix_V) (μ : ix_M) : ix_Ev o_X11_odds Q (99, ls, st, μ) = ix_iload 5 101 (ix_Ev o_X11_odds Q) Q ls st μ := ix_Ev.eq (a_X11_odds launch0) rfl ls st μ
theorem e_X11_odds_101 (Q : ix_R → Prop) (ls : ix_L) (st : List ix_V) (μ : ix_M) : ix_Ev o_X11_odds Q (101, ls, st, μ) = ix_istore 7 103 (ix_Ev o_X11_odds Q) Q ls st μ := ix_Ev.eq (a_X11_odds launch0) rfl ls st μ
theorem e_X11_odds_103 (Q : ix_R → Prop) (ls : ix_L) (st : List ix_V) (μ : ix_M) : ix_Ev o_X11_odds Q (103, ls, st, μ) = ix_iload 7 105 (ix_Ev o_X11_odds Q) Q ls st μ := ix_Ev.eq (a_X11_odds launch0) rfl ls st μ
theorem e_X11_odds_105 (Q : ix_R → Prop) (ls : ix_L) (st : List ix_V) (μ : ix_M) : ix_Ev o_X11_odds Q (105, ls, st, μ) = ix_if (fun x => x = 0) 126 108 (ix_Ev o_X11_odds Q) Q ls st μ := ix_Ev.eq (a_X11_odds launch0) rfl ls st μ
theorem e_X11_odds_108 (Q : ix_R → Prop) (ls : ix_L) (st : List ix_V) (μ : ix_M) : ix_Ev o_X11_odds Q (108, ls, st, μ) = ix_iload 6 110 (ix_Ev o_X11_odds Q) Q ls st μ := ix_Ev.eq (a_X11_odds launch0) rfl ls st μ
theorem e_X11_odds_110 (Q : ix_R → Prop) (ls : ix_L) (st : List ix_V) (μ : ix_M) : ix_Ev o_X11_odds Q (110, ls, st, μ) = ix_iload 7 112 (ix_Ev o_X11_odds Q) Q ls st μ := ix_Ev.eq (a_X11_odds launch0) rfl ls st μ
theorem e_X11_odds_112 (Q : ix_R → Prop) (ls : ix_L) (st : List ix_V) (μ : ix_M) : ix_Ev o_X11_odds Q (112, ls, st, μ) = ix_div (fun x y => x - x / y * y) 113 (ix_Ev o_X11_odds Q) Q ls st μ := ix_Ev.eq (a_X11_odds launch0) rfl ls st μ
theorem e_X11_odds_113 (Q : ix_R → Prop) (ls : ix_L) (st : List ix_V) (μ : ix_M) : ix_Ev o_X11_odds Q (113, ls, st, μ) = ix_istore 8 115 (ix_Ev o_X11_odds Q) Q ls st μ := ix_Ev.eq (a_X11_odds launch0) rfl ls st μ
theorem e_X11_odds_115 (Q : ix_R → Prop) (ls : ix_L) (st : List ix_V) (μ : ix_M) : ix_Ev o_X11_odds Q (115, ls, st, μ) = ix_iload 7 117 (ix_Ev o_X11_odds Q) Q ls st μ := ix_Ev.eq (a_X11_odds launch0) rfl ls st μ
theorem e_X11_odds_117 (Q : ix_R → Prop) (ls : ix_L) (st : List ix_V) (μ : ix_M) : ix_Ev o_X11_odds Q (117, ls, st, μ) = ix_istore 6 119 (ix_Ev o_X11_odds Q) Q ls st μ := ix_Ev.eq (a_X11_odds launch0) rfl ls st μ
theorem e_X11_odds_119 (Q : ix_R → Prop) (ls : ix_L) (st : List ix_V) (μ : ix_M) : ix_Ev o_X11_odds Q (119, ls, st, μ) = ix_iload 8 121 (ix_Ev o_X11_odds Q) Q ls st μ := ix_Ev.eq (a_X11_odds launch0) rfl ls st μ
theorem e_X11_odds_121 (Q : ix_R → Prop) (ls : ix_L) (st : List ix_V) (μ : ix_M) : ix_Ev o_X11_odds Q (121, ls, st, μ) = ix_istore 7 123 (ix_Ev o_X11_odds Q) Q ls st μ := ix_Ev.eq (a_X11_odds launch0) rfl ls st μ
theorem e_X11_odds_123 (Q : ix_R → Prop) (ls : ix_L) (st : List ix_V) (μ : ix_M) : ix_Ev o_X11_odds Q (123, ls, st, μ) = ix_goto 103 (ix_Ev o_X11_odds Q) Q ls st μ := ix_Ev.eq (a_X11_odds launch0) rfl ls st μ
theorem e_X11_odds_126 (Q : ix_R → Prop) (ls : ix_L) (st : List ix_V) (μ : ix_M) : ix_Ev o_X11_odds Q (126, ls, st, μ) = ix_iload 3 127 (ix_Ev o_X11_odds Q) Q ls st μ := ix_Ev.eq (a_X11_odds launch0) rfl ls st μ
theorem e_X11_odds_127 (Q : ix_R → Prop) (ls : ix_L) (st : List ix_V) (μ : ix_M) : ix_Ev o_X11_odds Q (127, ls, st, μ) = ix_if (fun x => x = 0) 130 135 (ix_Ev o_X11_odds Q) Q ls st μ := ix_Ev.eq (a_X11_odds launch0) rfl ls st μ
theorem e_X11_odds_130 (Q : ix_R → Prop) (ls : ix_L) (st : List ix_V) (μ : ix_M) : ix_Ev o_X11_odds Q (130, ls, st, μ) = ix_iload 5 132 (ix_Ev o_X11_odds Q) Q ls st μ := ix_Ev.eq (a_X11_odds launch0) rfl ls st μ
theorem e_X11_odds_132 (Q : ix_R → Prop) (ls : ix_L) (st : List ix_V) (μ : ix_M) : ix_Ev o_X11_odds Q (132, ls, st, μ) = ix_goto 137 (ix_Ev o_X11_odds Q) Q ls st μ := ix_Ev.eq (a_X11_odds launch0) rfl ls st μ
theorem e_X11_odds_135 (Q : ix_R → Prop) (ls : ix_L) (st : List ix_V) (μ : ix_M) : ix_Ev o_X11_odds Q (135, ls, st, μ) = ix_push (vi 20) 137 (ix_Ev o_X11_odds Q) Q ls st μ := ix_Ev.eq (a_X11_odds launch0) rfl ls st μ
theorem e_X11_odds_137 (Q : ix_R → Prop) (ls : ix_L) (st : List ix_V) (μ : ix_M) : ix_Ev o_X11_odds Q (137, ls, st, μ) = ix_iload 6 139 (ix_Ev o_X11_odds Q) Q ls st μ := ix_Ev.eq (a_X11_odds launch0) rfl ls st μ
theorem e_X11_odds_139 (Q : ix_R → Prop) (ls : ix_L) (st : List ix_V) (μ : ix_M) : ix_Ev o_X11_odds Q (139, ls, st, μ) = ix_div (fun x y => x / y) 140 (ix_Ev o_X11_odds Q) Q ls st μ := ix_Ev.eq (a_X11_odds launch0) rfl ls st μ
theorem e_X11_odds_140 (Q : ix_R → Prop) (ls : ix_L) (st : List ix_V) (μ : ix_M) : ix_Ev o_X11_odds Q (140, ls, st, μ) = ix_iret (ix_Ev o_X11_odds Q) Q ls st μ := ix_Ev.eq (a_X11_odds launch0) rfl ls st μ
theorem l_X10_odds {M N : Nat} {v p : Int32} {ds dl : List Int32} {μ0 : ix_M} {Q : ix_R → Prop} {f : Nat → Int32} (hf : f = fun d => pH (pIt ds dl N (setV 0 9 (nI d) (wv μ0 2)))) (hR : WR (wv μ0 2) M) (hM : M ≤ 9999) (hN : N ≤ 60) (hL : LW μ0 ds dl) (h1 : ∀ μ', Fx wT μ0 μ' → (p = 0 → Q (some (vi (nI (oCn f v 20) / nI (Nat.gcd 20 (oCn f v 20)))), μ')) ∧ (¬ p = 0 → Q (some (vi (20 / nI (Nat.gcd 20 (oCn f v 20)))), μ'))) : ∀ (k n : Nat) (μ : ix_M), n + k = 20 → Fx wT μ0 μ → ix_Ev o_X10_odds Q (39, [some (vr 9 0), some (vi (nI N)), some (vi v), some (vi p), some (vi (nI (oCn f v n))), some (vi (nI (n + 1)))], [], μ) := by
  intro k
  induction k with
  | zero =>
    intro n μ hn hF
    have hn : n = 20 := hn
    subst hn
    have c1 : 20 < nI 21 := by decide
    have hA := oCn_le f v 20
    obtain ⟨g1, g2, g3⟩ := gcd_cd (oCn f v 20) (by omega)
    have g4 : ¬ nI (Nat.gcd 20 (oCn f v 20)) = 0 := nI_ne0 g2 (by omega)
    rw [e_X10_odds_39]
    simp (decide := true) only [e_X10_odds_0, e_X10_odds_1, e_X10_odds_3, e_X10_odds_6, e_X10_odds_9, e_X10_odds_10, e_X10_odds_13, e_X10_odds_16, e_X10_odds_19, e_X10_odds_20, e_X10_odds_21, e_X10_odds_24, e_X10_odds_27, e_X10_odds_28, e_X10_odds_29, e_X10_odds_32, e_X10_odds_33, e_X10_odds_34, e_X10_odds_36, e_X10_odds_37, e_X10_odds_41, e_X10_odds_43, e_X10_odds_46, e_X10_odds_47, e_X10_odds_48, e_X10_odds_49, e_X10_odds_50, e_X10_odds_52, e_X10_odds_55, e_X10_odds_56, e_X10_odds_59, e_X10_odds_60, e_X10_odds_63, e_X10_odds_66, e_X10_odds_69, e_X10_odds_72, e_X10_odds_74, e_X10_odds_76, e_X10_odds_79, e_X10_odds_81, e_X10_odds_82, e_X10_odds_85, e_X10_odds_87, e_X10_odds_89, e_X10_odds_90, e_X10_odds_93, e_X10_odds_95, e_X10_odds_97, e_X10_odds_98, vi, vl, vr, oc_X10_commonDivisor, T_X10_commonDivisor, oc_X10_error, T_X10_error, oc_X10_hadBehind, T_X10_hadBehind, oc_X10_outside, T_X10_outside, oc_X10_suppose, T_X10_suppose, ix_push, ix_iload, ix_lload, ix_aload, ix_istore, ix_astore, ix_iinc, ix_bin, ix_div, ix_un, ix_i2l, ix_l2i, ix_lbin, ix_lsh, ix_lcmp, ix_dup, ix_dup2, ix_pop, ix_if, ix_cmp, ix_goto, ix_switch, ix_sw, ix_iret, ix_zret, ix_vret, ix_aret, ix_geti, ix_getr, ix_puti, ix_putz, ix_puts, ix_gets, ix_iald, ix_iast, ix_alen, ix_aald, ix_gval, ix_gcod, ix_bald, ix_blen, ix_sald, ix_nret, ix_math2, ix_math1, ix_acopy, Nat.add_assoc, Int32.reduceLT, Int32.reduceLE, Int32.reduceToNatClampNeg, Int32.reduceSub, Int32.reduceAdd, Nat.reduceAdd, Nat.reduceLeDiff, true_or, or_true, or_false, false_or, not_false_eq_true, not_true_eq_false, false_implies, true_implies, implies_true, and_self, mB_0, mB_01, Classical.not_not, Nat.zero_le, List.getElem?_cons_zero, List.getElem?_cons_succ, List.set_cons_zero, List.set_cons_succ, ix_nl, ix_cs, true_and, and_true, Option.toList_some, Option.toList_none, List.cons_append, List.nil_append, c1]
    refine ⟨oCn f v 20, 20, rfl, by omega, rfl, by decide, ?_⟩
    rw [g1]
    have := h1 μ hF
    exact ⟨fun z => ⟨g4, this.1 z⟩, fun z => ⟨g4, this.2 z⟩⟩
  | succ k ih =>
    intro n μ hn hF
    have c1 : ¬ 20 < nI (n + 1) := nI_nlt (a := 20) (b := n + 1) (by omega) (by decide)
    have n1 : nI (n + 1) + 1 = nI (n + 1 + 1) := nI_1 (n + 1)
    have n2 : nI (oCn f v n) + 1 = nI (oCn f v n + 1) := nI_1 _
    rw [e_X10_odds_39]
    simp (decide := true) only [e_X10_odds_0, e_X10_odds_1, e_X10_odds_3, e_X10_odds_6, e_X10_odds_9, e_X10_odds_10, e_X10_odds_13, e_X10_odds_16, e_X10_odds_19, e_X10_odds_20, e_X10_odds_21, e_X10_odds_24, e_X10_odds_27, e_X10_odds_28, e_X10_odds_29, e_X10_odds_32, e_X10_odds_33, e_X10_odds_34, e_X10_odds_36, e_X10_odds_37, e_X10_odds_41, e_X10_odds_43, e_X10_odds_46, e_X10_odds_47, e_X10_odds_48, e_X10_odds_49, e_X10_odds_50, e_X10_odds_52, e_X10_odds_55, e_X10_odds_56, e_X10_odds_59, e_X10_odds_60, e_X10_odds_63, e_X10_odds_66, e_X10_odds_69, e_X10_odds_72, e_X10_odds_74, e_X10_odds_76, e_X10_odds_79, e_X10_odds_81, e_X10_odds_82, e_X10_odds_85, e_X10_odds_87, e_X10_odds_89, e_X10_odds_90, e_X10_odds_93, e_X10_odds_95, e_X10_odds_97, e_X10_odds_98, vi, vl, vr, oc_X10_commonDivisor, T_X10_commonDivisor, oc_X10_error, T_X10_error, oc_X10_hadBehind, T_X10_hadBehind, oc_X10_outside, T_X10_outside, oc_X10_suppose, T_X10_suppose, ix_push, ix_iload, ix_lload, ix_aload, ix_istore, ix_astore, ix_iinc, ix_bin, ix_div, ix_un, ix_i2l, ix_l2i, ix_lbin, ix_lsh, ix_lcmp, ix_dup, ix_dup2, ix_pop, ix_if, ix_cmp, ix_goto, ix_switch, ix_sw, ix_iret, ix_zret, ix_vret, ix_aret, ix_geti, ix_getr, ix_puti, ix_putz, ix_puts, ix_gets, ix_iald, ix_iast, ix_alen, ix_aald, ix_gval, ix_gcod, ix_bald, ix_blen, ix_sald, ix_nret, ix_math2, ix_math1, ix_acopy, Nat.add_assoc, Int32.reduceLT, Int32.reduceLE, Int32.reduceToNatClampNeg, Int32.reduceSub, Int32.reduceAdd, Nat.reduceAdd, Nat.reduceLeDiff, true_or, or_true, or_false, false_or, not_false_eq_true, not_true_eq_false, false_implies, true_implies, implies_true, and_self, mB_0, mB_01, Classical.not_not, Nat.zero_le, List.getElem?_cons_zero, List.getElem?_cons_succ, List.set_cons_zero, List.set_cons_succ, ix_nl, ix_cs, true_and, and_true, Option.toList_some, Option.toList_none, List.cons_append, List.nil_append, c1, n1, n2]
    refine ⟨⟨fun z => absurd z (by decide), fun z => absurd z (by decide), fun z => absurd z (by decide), fun z => absurd z (by decide)⟩, fun μ1 F1 V1 => ?_⟩
    have F01 : Fx wT μ0 μ1 := hF.tr (F1.mono (by decide))
    have e2 : wv μ 2 = wv μ0 2 := wv_fx (fun r hr => hF _ (by simp [wT]; omega))
    have hV : wv μ1 48 = setV 0 9 (nI (n + 1)) (wv μ0 2) := by rw [V1, e2]; rfl
    have ef : pH (pIt ds dl N (wv μ1 48)) = f (n + 1) := by rw [hV, hf]
    refine ⟨M, N, ds, dl, by rw [hV]; exact (wr_dk hR (n + 1)).1, rfl, by omega, hL.fx F01 (by decide), fun μ2 F2 V2 => ?_⟩
    rw [ef]
    have F02 : Fx wT μ0 μ2 := F01.tr (F2.mono (by decide))
    have := ih (n + 1) μ2 (by omega) F02
    rw [oCn] at this
    refine ⟨fun z => ?_, fun z => ?_⟩
    · rw [if_pos z] at this
      exact this
    · rw [if_neg z] at this
      exact this
theorem l2_X11_odds {n v p w a : Int32} {μ : ix_M} {Q : ix_R → Prop} {g : Nat} (hg : 0 < g) (hg2 : g ≤ 20) (hQ : (p = 0 → Q (some (vi (a / nI g)), μ)) ∧ (¬ p = 0 → Q (some (vi (20 / nI g)), μ))) : ∀ (k y x : Nat) (x8 : Option ix_V), y ≤ k → x ≤ 20 → y ≤ 20 → Nat.gcd x y = g → ix_Ev o_X11_odds Q (103, [some (vr 10 112), some (vi n), some (vi v), some (vi p), some (vi w), some (vi a), some (vi (nI x)), some (vi (nI y)), x8], [], μ) := by
  have g4 : ¬ nI g = 0 := nI_ne0 hg (by omega)
  have hz : ∀ (x : Nat) (x8 : Option ix_V), Nat.gcd x 0 = g → ix_Ev o_X11_odds Q (103, [some (vr 10 112), some (vi n), some (vi v), some (vi p), some (vi w), some (vi a), some (vi (nI x)), some (vi (nI 0)), x8], [], μ) := by
    intro x x8 h
    rw [Nat.gcd_zero_right] at h
    subst h
    have z0 : nI 0 = 0 := rfl
    rw [e_X11_odds_103]
    simp (decide := true) only [e_X11_odds_0, e_X11_odds_1, e_X11_odds_2, e_X11_odds_4, e_X11_odds_7, e_X11_odds_10, e_X11_odds_11, e_X11_odds_14, e_X11_odds_17, e_X11_odds_18, e_X11_odds_19, e_X11_odds_20, e_X11_odds_23, e_X11_odds_26, e_X11_odds_27, e_X11_odds_29, e_X11_odds_32, e_X11_odds_33, e_X11_odds_34, e_X11_odds_37, e_X11_odds_38, e_X11_odds_39, e_X11_odds_41, e_X11_odds_42, e_X11_odds_44, e_X11_odds_45, e_X11_odds_49, e_X11_odds_51, e_X11_odds_54, e_X11_odds_55, e_X11_odds_58, e_X11_odds_59, e_X11_odds_61, e_X11_odds_62, e_X11_odds_64, e_X11_odds_65, e_X11_odds_66, e_X11_odds_69, e_X11_odds_70, e_X11_odds_73, e_X11_odds_74, e_X11_odds_77, e_X11_odds_78, e_X11_odds_79, e_X11_odds_81, e_X11_odds_84, e_X11_odds_87, e_X11_odds_88, e_X11_odds_91, e_X11_odds_92, e_X11_odds_94, e_X11_odds_95, e_X11_odds_97, e_X11_odds_99, e_X11_odds_101, e_X11_odds_105, e_X11_odds_108, e_X11_odds_110, e_X11_odds_112, e_X11_odds_113, e_X11_odds_115, e_X11_odds_117, e_X11_odds_119, e_X11_odds_121, e_X11_odds_123, e_X11_odds_126, e_X11_odds_127, e_X11_odds_130, e_X11_odds_132, e_X11_odds_135, e_X11_odds_137, e_X11_odds_139, e_X11_odds_140, vi, vl, vr, oc_X11_finding, T_X11_finding, oc_X11_hadBehind, T_X11_hadBehind, oc_X11_isHad, T_X11_isHad, oc_X11_within, T_X11_within, ix_push, ix_iload, ix_lload, ix_aload, ix_istore, ix_astore, ix_iinc, ix_bin, ix_div, ix_un, ix_i2l, ix_l2i, ix_lbin, ix_lsh, ix_lcmp, ix_dup, ix_dup2, ix_pop, ix_if, ix_cmp, ix_goto, ix_switch, ix_sw, ix_iret, ix_zret, ix_vret, ix_aret, ix_geti, ix_getr, ix_puti, ix_putz, ix_puts, ix_gets, ix_iald, ix_iast, ix_alen, ix_aald, ix_gval, ix_gcod, ix_bald, ix_blen, ix_sald, ix_nret, ix_math2, ix_math1, ix_acopy, ml_113, ml_114, ml_115, ml_116, ml_118, ml_119, ml_120, ml_121, ml_122, ml_123, ml_124, ml_125, ml_126, mv_0, mv_1, mv_2, mv_3, mv_4, mv_5, mB_or, Nat.add_assoc, Int32.reduceLT, Int32.reduceLE, Int32.reduceToNatClampNeg, Int32.reduceSub, Int32.reduceAdd, Nat.reduceAdd, Nat.reduceLeDiff, true_or, or_true, or_false, false_or, not_false_eq_true, not_true_eq_false, false_implies, true_implies, implies_true, and_self, mB_0, mB_01, Classical.not_not, Nat.zero_le, List.getElem?_cons_zero, List.getElem?_cons_succ, List.set_cons_zero, List.set_cons_succ, ix_nl, ix_cs, true_and, and_true, Option.toList_some, Option.toList_none, List.cons_append, List.nil_append, z0, g4]
    exact hQ
  intro k
  induction k with
  | zero =>
    intro y x x8 hy _ _ h
    obtain rfl : y = 0 := by omega
    exact hz x x8 h
  | succ k ih =>
    intro y x x8 hy hx hy2 h
    by_cases c : y = 0
    · subst c
      exact hz x x8 h
    · have y0 : ¬ nI y = 0 := nI_ne0 (by omega) (by omega)
      have e : nI x - nI x / nI y * nI y = nI (x % y) := pk_rem (by omega) (by omega) (by omega)
      rw [e_X11_odds_103]
      simp (decide := true) only [e_X11_odds_0, e_X11_odds_1, e_X11_odds_2, e_X11_odds_4, e_X11_odds_7, e_X11_odds_10, e_X11_odds_11, e_X11_odds_14, e_X11_odds_17, e_X11_odds_18, e_X11_odds_19, e_X11_odds_20, e_X11_odds_23, e_X11_odds_26, e_X11_odds_27, e_X11_odds_29, e_X11_odds_32, e_X11_odds_33, e_X11_odds_34, e_X11_odds_37, e_X11_odds_38, e_X11_odds_39, e_X11_odds_41, e_X11_odds_42, e_X11_odds_44, e_X11_odds_45, e_X11_odds_49, e_X11_odds_51, e_X11_odds_54, e_X11_odds_55, e_X11_odds_58, e_X11_odds_59, e_X11_odds_61, e_X11_odds_62, e_X11_odds_64, e_X11_odds_65, e_X11_odds_66, e_X11_odds_69, e_X11_odds_70, e_X11_odds_73, e_X11_odds_74, e_X11_odds_77, e_X11_odds_78, e_X11_odds_79, e_X11_odds_81, e_X11_odds_84, e_X11_odds_87, e_X11_odds_88, e_X11_odds_91, e_X11_odds_92, e_X11_odds_94, e_X11_odds_95, e_X11_odds_97, e_X11_odds_99, e_X11_odds_101, e_X11_odds_105, e_X11_odds_108, e_X11_odds_110, e_X11_odds_112, e_X11_odds_113, e_X11_odds_115, e_X11_odds_117, e_X11_odds_119, e_X11_odds_121, e_X11_odds_123, e_X11_odds_126, e_X11_odds_127, e_X11_odds_130, e_X11_odds_132, e_X11_odds_135, e_X11_odds_137, e_X11_odds_139, e_X11_odds_140, vi, vl, vr, oc_X11_finding, T_X11_finding, oc_X11_hadBehind, T_X11_hadBehind, oc_X11_isHad, T_X11_isHad, oc_X11_within, T_X11_within, ix_push, ix_iload, ix_lload, ix_aload, ix_istore, ix_astore, ix_iinc, ix_bin, ix_div, ix_un, ix_i2l, ix_l2i, ix_lbin, ix_lsh, ix_lcmp, ix_dup, ix_dup2, ix_pop, ix_if, ix_cmp, ix_goto, ix_switch, ix_sw, ix_iret, ix_zret, ix_vret, ix_aret, ix_geti, ix_getr, ix_puti, ix_putz, ix_puts, ix_gets, ix_iald, ix_iast, ix_alen, ix_aald, ix_gval, ix_gcod, ix_bald, ix_blen, ix_sald, ix_nret, ix_math2, ix_math1, ix_acopy, ml_113, ml_114, ml_115, ml_116, ml_118, ml_119, ml_120, ml_121, ml_122, ml_123, ml_124, ml_125, ml_126, mv_0, mv_1, mv_2, mv_3, mv_4, mv_5, mB_or, Nat.add_assoc, Int32.reduceLT, Int32.reduceLE, Int32.reduceToNatClampNeg, Int32.reduceSub, Int32.reduceAdd, Nat.reduceAdd, Nat.reduceLeDiff, true_or, or_true, or_false, false_or, not_false_eq_true, not_true_eq_false, false_implies, true_implies, implies_true, and_self, mB_0, mB_01, Classical.not_not, Nat.zero_le, List.getElem?_cons_zero, List.getElem?_cons_succ, List.set_cons_zero, List.set_cons_succ, ix_nl, ix_cs, true_and, and_true, Option.toList_some, Option.toList_none, List.cons_append, List.nil_append, y0, e]
      have hlt := Nat.mod_lt x (show 0 < y by omega)
      refine ih (x % y) y _ (by omega) hy2 (by omega) ?_
      rw [← h, Nat.gcd_comm y, ← Nat.gcd_rec, Nat.gcd_comm]
theorem l_X11_odds {M N : Nat} {v w p : Int32} {ds dl : List Int32} {μ0 : ix_M} {Q : ix_R → Prop} {f : Nat → Int32} {x7 x8 : Option ix_V} (hf : f = fun d => pH (pIt ds dl N (setV 0 9 (nI d) (nv (μ0 113))))) (hW : MW μ0 M ds dl) (hM : M ≤ 9999) (hN : N ≤ 60) (hl : μ0 112 5 = -1) (hw : μ0 113 2 = w) (hQ : ∀ μ', Fx [113, 115, 119, 120] μ0 μ' → RE (μ' 113) (μ0 113) → (p = 0 → Q (some (vi (nI (oCn f v 20) / nI (Nat.gcd 20 (oCn f v 20)))), μ')) ∧ (¬ p = 0 → Q (some (vi (20 / nI (Nat.gcd 20 (oCn f v 20)))), μ'))) : ∀ (k n : Nat) (μ : ix_M), n + k = 20 → Fx [113, 115, 119, 120] μ0 μ → (∀ j, j < 256 → j ≠ 2 → μ 113 j = μ0 113 j) → ix_Ev o_X11_odds Q (47, [some (vr 10 112), some (vi (nI N)), some (vi v), some (vi p), some (vi w), some (vi (nI (oCn f v n))), some (vi (nI (n + 1))), x7, x8], [], μ) := by
  intro k
  induction k with
  | zero =>
    intro n μ hn hF hr
    have hn : n = 20 := hn
    subst hn
    have c1 : 20 < nI 21 := by decide
    rw [e_X11_odds_47]
    simp (decide := true) only [e_X11_odds_0, e_X11_odds_1, e_X11_odds_2, e_X11_odds_4, e_X11_odds_7, e_X11_odds_10, e_X11_odds_11, e_X11_odds_14, e_X11_odds_17, e_X11_odds_18, e_X11_odds_19, e_X11_odds_20, e_X11_odds_23, e_X11_odds_26, e_X11_odds_27, e_X11_odds_29, e_X11_odds_32, e_X11_odds_33, e_X11_odds_34, e_X11_odds_37, e_X11_odds_38, e_X11_odds_39, e_X11_odds_41, e_X11_odds_42, e_X11_odds_44, e_X11_odds_45, e_X11_odds_49, e_X11_odds_51, e_X11_odds_54, e_X11_odds_55, e_X11_odds_58, e_X11_odds_59, e_X11_odds_61, e_X11_odds_62, e_X11_odds_64, e_X11_odds_65, e_X11_odds_66, e_X11_odds_69, e_X11_odds_70, e_X11_odds_73, e_X11_odds_74, e_X11_odds_77, e_X11_odds_78, e_X11_odds_79, e_X11_odds_81, e_X11_odds_84, e_X11_odds_87, e_X11_odds_88, e_X11_odds_91, e_X11_odds_92, e_X11_odds_94, e_X11_odds_95, e_X11_odds_97, e_X11_odds_99, e_X11_odds_101, e_X11_odds_105, e_X11_odds_108, e_X11_odds_110, e_X11_odds_112, e_X11_odds_113, e_X11_odds_115, e_X11_odds_117, e_X11_odds_119, e_X11_odds_121, e_X11_odds_123, e_X11_odds_126, e_X11_odds_127, e_X11_odds_130, e_X11_odds_132, e_X11_odds_135, e_X11_odds_137, e_X11_odds_139, e_X11_odds_140, vi, vl, vr, oc_X11_finding, T_X11_finding, oc_X11_hadBehind, T_X11_hadBehind, oc_X11_isHad, T_X11_isHad, oc_X11_within, T_X11_within, ix_push, ix_iload, ix_lload, ix_aload, ix_istore, ix_astore, ix_iinc, ix_bin, ix_div, ix_un, ix_i2l, ix_l2i, ix_lbin, ix_lsh, ix_lcmp, ix_dup, ix_dup2, ix_pop, ix_if, ix_cmp, ix_goto, ix_switch, ix_sw, ix_iret, ix_zret, ix_vret, ix_aret, ix_geti, ix_getr, ix_puti, ix_putz, ix_puts, ix_gets, ix_iald, ix_iast, ix_alen, ix_aald, ix_gval, ix_gcod, ix_bald, ix_blen, ix_sald, ix_nret, ix_math2, ix_math1, ix_acopy, ml_113, ml_114, ml_115, ml_116, ml_118, ml_119, ml_120, ml_121, ml_122, ml_123, ml_124, ml_125, ml_126, mv_0, mv_1, mv_2, mv_3, mv_4, mv_5, mB_or, Nat.add_assoc, Int32.reduceLT, Int32.reduceLE, Int32.reduceToNatClampNeg, Int32.reduceSub, Int32.reduceAdd, Nat.reduceAdd, Nat.reduceLeDiff, true_or, or_true, or_false, false_or, not_false_eq_true, not_true_eq_false, false_implies, true_implies, implies_true, and_self, mB_0, mB_01, Classical.not_not, Nat.zero_le, List.getElem?_cons_zero, List.getElem?_cons_succ, List.set_cons_zero, List.set_cons_succ, ix_nl, ix_cs, true_and, and_true, Option.toList_some, Option.toList_none, List.cons_append, List.nil_append, c1]
    have F2 : Fx [113, 115, 119, 120] μ0 (ix_up μ 113 2 w) := hF.up (by simp)
    have R2 : RE (ix_up μ 113 2 w 113) (μ0 113) := fun j hj => by
      rw [ix_up_ap]
      by_cases c : j = 2
      · rw [if_pos ⟨rfl, c⟩, c, hw]
      · rw [if_neg (fun z => c z.2)]
        exact hr j hj c
    have hA := oCn_le f v 20
    obtain ⟨g1, g2, g3⟩ := gcd_cd (oCn f v 20) (by omega)
    exact l2_X11_odds g2 g3 (hQ _ F2 R2) 20 (oCn f v 20) 20 _ (by omega) (by omega) (by omega) rfl
  | succ k ih =>
    intro n μ hn hF hr
    have c1 : ¬ 20 < nI (n + 1) := nI_nlt (a := 20) (b := n + 1) (by omega) (by decide)
    have n1 : nI (n + 1) + 1 = nI (n + 1 + 1) := nI_1 (n + 1)
    have n2 : nI (oCn f v n) + 1 = nI (oCn f v n + 1) := nI_1 _
    have n3 : nI (oCn f v n) + 0 = nI (oCn f v n) := Int32.add_zero _
    rw [e_X11_odds_47]
    simp (decide := true) only [e_X11_odds_0, e_X11_odds_1, e_X11_odds_2, e_X11_odds_4, e_X11_odds_7, e_X11_odds_10, e_X11_odds_11, e_X11_odds_14, e_X11_odds_17, e_X11_odds_18, e_X11_odds_19, e_X11_odds_20, e_X11_odds_23, e_X11_odds_26, e_X11_odds_27, e_X11_odds_29, e_X11_odds_32, e_X11_odds_33, e_X11_odds_34, e_X11_odds_37, e_X11_odds_38, e_X11_odds_39, e_X11_odds_41, e_X11_odds_42, e_X11_odds_44, e_X11_odds_45, e_X11_odds_49, e_X11_odds_51, e_X11_odds_54, e_X11_odds_55, e_X11_odds_58, e_X11_odds_59, e_X11_odds_61, e_X11_odds_62, e_X11_odds_64, e_X11_odds_65, e_X11_odds_66, e_X11_odds_69, e_X11_odds_70, e_X11_odds_73, e_X11_odds_74, e_X11_odds_77, e_X11_odds_78, e_X11_odds_79, e_X11_odds_81, e_X11_odds_84, e_X11_odds_87, e_X11_odds_88, e_X11_odds_91, e_X11_odds_92, e_X11_odds_94, e_X11_odds_95, e_X11_odds_97, e_X11_odds_99, e_X11_odds_101, e_X11_odds_105, e_X11_odds_108, e_X11_odds_110, e_X11_odds_112, e_X11_odds_113, e_X11_odds_115, e_X11_odds_117, e_X11_odds_119, e_X11_odds_121, e_X11_odds_123, e_X11_odds_126, e_X11_odds_127, e_X11_odds_130, e_X11_odds_132, e_X11_odds_135, e_X11_odds_137, e_X11_odds_139, e_X11_odds_140, vi, vl, vr, oc_X11_finding, T_X11_finding, oc_X11_hadBehind, T_X11_hadBehind, oc_X11_isHad, T_X11_isHad, oc_X11_within, T_X11_within, ix_push, ix_iload, ix_lload, ix_aload, ix_istore, ix_astore, ix_iinc, ix_bin, ix_div, ix_un, ix_i2l, ix_l2i, ix_lbin, ix_lsh, ix_lcmp, ix_dup, ix_dup2, ix_pop, ix_if, ix_cmp, ix_goto, ix_switch, ix_sw, ix_iret, ix_zret, ix_vret, ix_aret, ix_geti, ix_getr, ix_puti, ix_putz, ix_puts, ix_gets, ix_iald, ix_iast, ix_alen, ix_aald, ix_gval, ix_gcod, ix_bald, ix_blen, ix_sald, ix_nret, ix_math2, ix_math1, ix_acopy, ml_113, ml_114, ml_115, ml_116, ml_118, ml_119, ml_120, ml_121, ml_122, ml_123, ml_124, ml_125, ml_126, mv_0, mv_1, mv_2, mv_3, mv_4, mv_5, mB_or, Nat.add_assoc, Int32.reduceLT, Int32.reduceLE, Int32.reduceToNatClampNeg, Int32.reduceSub, Int32.reduceAdd, Nat.reduceAdd, Nat.reduceLeDiff, true_or, or_true, or_false, false_or, not_false_eq_true, not_true_eq_false, false_implies, true_implies, implies_true, and_self, mB_0, mB_01, Classical.not_not, Nat.zero_le, List.getElem?_cons_zero, List.getElem?_cons_succ, List.set_cons_zero, List.set_cons_succ, ix_nl, ix_cs, true_and, and_true, Option.toList_some, Option.toList_none, List.cons_append, List.nil_append, c1, n1, n2, n3]
    have R1 : RE (ix_up μ 113 2 (nI (n + 1)) 113) (upd (μ0 113) (nvI 0 9) (nI (n + 1))) := fun j hj => by
      rw [ix_up_ap]
      by_cases c : j = 2
      · rw [if_pos ⟨rfl, c⟩, c]
        exact upd_eq.symm
      · rw [if_neg (fun z => c z.2), upd_ne (show j ≠ nvI 0 9 from c)]
        exact hr j hj c
    obtain ⟨w1, w2⟩ := setOk.mw (C := 21) hW ⟨rfl, Or.inr (Or.inr (Or.inr (Or.inr ⟨rfl, rfl⟩)))⟩ (show n + 1 < 21 by omega) R1
    have ef : pH (pIt ds dl N (nv (ix_up μ 113 2 (nI (n + 1)) 113))) = f (n + 1) := by rw [w2, hf]
    have F1 : Fx [113, 115, 119, 120] μ0 (ix_up μ 113 2 (nI (n + 1))) := hF.up (by simp)
    refine ⟨M, N, ds, dl, w1, rfl, by omega, by rw [F1 112 (by decide)]; exact hl, fun μ2 F2 R2 => ?_⟩
    have hr2 : ∀ j, j < 256 → j ≠ 2 → μ2 113 j = μ0 113 j := fun j hj c => by
      rw [R2 j hj, ix_up_ap, if_neg (fun z => c z.2)]
      exact hr j hj c
    rw [ef]
    have := ih (n + 1) μ2 (by omega) (F1.tr F2) hr2
    rw [oCn] at this
    refine ⟨fun z => ?_, fun z => ?_⟩
    · rw [if_pos z] at this
      exact this
    · rw [if_neg z] at this
      exact this
theorem pr_odds (n : Int32) (v : Int32) (p : Int32) (μ : ix_M) (I : Inv μ) (Q : ix_R → Prop) (hQ : ∀ vv μ', ix_Ev o_X11_odds (Pst vv) (0, [some (vr 10 112), some (vi n), some (vi v), some (vi p), none, none, none, none, none], [], μ') → Q (some (vi vv), μ')) : ix_Ev o_X10_odds Q (0, [some (vr 9 0), some (vi n), some (vi v), some (vi p), none, none], [], μ) := by
  rcases inR n 30 (by decide) with ⟨K, hK, rfl⟩ | ⟨hx1, hx2⟩
  · obtain ⟨K1, K2, K3, K4⟩ : ¬ nI K < 0 ∧ ¬ (30 : Int32) < nI K ∧ 0 ≤ nI K ∧ nI K ≤ (30 : Int32) := rgN hK (by decide)
    have Kc : (nI K).toNatClampNeg = K := nI_clamp (by omega)
    rcases inR v 792 (by decide) with ⟨V, hV, rfl⟩ | ⟨hx1, hx2⟩
    · obtain ⟨V1, V2, V3, V4⟩ : ¬ nI V < 0 ∧ ¬ (792 : Int32) < nI V ∧ 0 ≤ nI V ∧ nI V ≤ (792 : Int32) := rgN hV (by decide)
      have Vc : (nI V).toNatClampNeg = V := nI_clamp (by omega)
      rcases inR p 1 (by decide) with ⟨P, hP, rfl⟩ | ⟨hx1, hx2⟩
      · obtain ⟨P1, P2, P3, P4⟩ : ¬ nI P < 0 ∧ ¬ (1 : Int32) < nI P ∧ 0 ≤ nI P ∧ nI P ≤ (1 : Int32) := rgN hP (by decide)
        have Pc : (nI P).toNatClampNeg = P := nI_clamp (by omega)
        obtain ⟨M, hM, hR, m1, m2⟩ := I.mi
        obtain ⟨ds, dl, hL, x1, x2⟩ := I.tx
        generalize hf : (fun d => pH (pIt ds dl K (setV 0 9 (nI d) (nv (μ 113))))) = f
        simp (decide := true) only [e_X10_odds_0, e_X10_odds_1, e_X10_odds_3, e_X10_odds_6, e_X10_odds_9, e_X10_odds_10, e_X10_odds_13, e_X10_odds_16, e_X10_odds_19, e_X10_odds_20, e_X10_odds_21, e_X10_odds_24, e_X10_odds_27, e_X10_odds_28, e_X10_odds_29, e_X10_odds_32, e_X10_odds_33, e_X10_odds_34, e_X10_odds_36, e_X10_odds_37, e_X10_odds_41, e_X10_odds_43, e_X10_odds_46, e_X10_odds_47, e_X10_odds_48, e_X10_odds_49, e_X10_odds_50, e_X10_odds_52, e_X10_odds_55, e_X10_odds_56, e_X10_odds_59, e_X10_odds_60, e_X10_odds_63, e_X10_odds_66, e_X10_odds_69, e_X10_odds_72, e_X10_odds_74, e_X10_odds_76, e_X10_odds_79, e_X10_odds_81, e_X10_odds_82, e_X10_odds_85, e_X10_odds_87, e_X10_odds_89, e_X10_odds_90, e_X10_odds_93, e_X10_odds_95, e_X10_odds_97, e_X10_odds_98, vi, vl, vr, oc_X10_commonDivisor, T_X10_commonDivisor, oc_X10_error, T_X10_error, oc_X10_hadBehind, T_X10_hadBehind, oc_X10_outside, T_X10_outside, oc_X10_suppose, T_X10_suppose, ix_push, ix_iload, ix_lload, ix_aload, ix_istore, ix_astore, ix_iinc, ix_bin, ix_div, ix_un, ix_i2l, ix_l2i, ix_lbin, ix_lsh, ix_lcmp, ix_dup, ix_dup2, ix_pop, ix_if, ix_cmp, ix_goto, ix_switch, ix_sw, ix_iret, ix_zret, ix_vret, ix_aret, ix_geti, ix_getr, ix_puti, ix_putz, ix_puts, ix_gets, ix_iald, ix_iast, ix_alen, ix_aald, ix_gval, ix_gcod, ix_bald, ix_blen, ix_sald, ix_nret, ix_math2, ix_math1, ix_acopy, Nat.add_assoc, Int32.reduceLT, Int32.reduceLE, Int32.reduceToNatClampNeg, Int32.reduceSub, Int32.reduceAdd, Nat.reduceAdd, Nat.reduceLeDiff, true_or, or_true, or_false, false_or, not_false_eq_true, not_true_eq_false, false_implies, true_implies, implies_true, and_self, mB_0, mB_01, Classical.not_not, Nat.zero_le, List.getElem?_cons_zero, List.getElem?_cons_succ, List.set_cons_zero, List.set_cons_succ, ix_nl, ix_cs, true_and, and_true, Option.toList_some, Option.toList_none, List.cons_append, List.nil_append, K1, K2, K3, K4, Kc, V1, V2, V3, V4, Vc, P1, P2, P3, P4, Pc, ix_up_ne, ix_up_k, ve_1, ve_2, ve_3, ve_4, ve_5]
        have hm : ∀ (μq : ix_M) (Q' : ix_R → Prop), μq 113 = μ 113 → μq 112 5 = -1 → (∀ μ', Fx [113, 115, 119, 120] μq μ' → RE (μ' 113) (μq 113) → (nI P = 0 → Q' (some (vi (nI (oCn f (nI V) 20) / nI (Nat.gcd 20 (oCn f (nI V) 20)))), μ')) ∧ (¬ nI P = 0 → Q' (some (vi (20 / nI (Nat.gcd 20 (oCn f (nI V) 20)))), μ'))) → ix_Ev o_X11_odds Q' (0, [some (vr 10 112), some (vi (nI K)), some (vi (nI V)), some (vi (nI P)), none, none, none, none, none], [], μq) := by
          intro μq Q' e e5 hq
          simp (decide := true) only [e_X11_odds_0, e_X11_odds_1, e_X11_odds_2, e_X11_odds_4, e_X11_odds_7, e_X11_odds_10, e_X11_odds_11, e_X11_odds_14, e_X11_odds_17, e_X11_odds_18, e_X11_odds_19, e_X11_odds_20, e_X11_odds_23, e_X11_odds_26, e_X11_odds_27, e_X11_odds_29, e_X11_odds_32, e_X11_odds_33, e_X11_odds_34, e_X11_odds_37, e_X11_odds_38, e_X11_odds_39, e_X11_odds_41, e_X11_odds_42, e_X11_odds_44, e_X11_odds_45, e_X11_odds_49, e_X11_odds_51, e_X11_odds_54, e_X11_odds_55, e_X11_odds_58, e_X11_odds_59, e_X11_odds_61, e_X11_odds_62, e_X11_odds_64, e_X11_odds_65, e_X11_odds_66, e_X11_odds_69, e_X11_odds_70, e_X11_odds_73, e_X11_odds_74, e_X11_odds_77, e_X11_odds_78, e_X11_odds_79, e_X11_odds_81, e_X11_odds_84, e_X11_odds_87, e_X11_odds_88, e_X11_odds_91, e_X11_odds_92, e_X11_odds_94, e_X11_odds_95, e_X11_odds_97, e_X11_odds_99, e_X11_odds_101, e_X11_odds_105, e_X11_odds_108, e_X11_odds_110, e_X11_odds_112, e_X11_odds_113, e_X11_odds_115, e_X11_odds_117, e_X11_odds_119, e_X11_odds_121, e_X11_odds_123, e_X11_odds_126, e_X11_odds_127, e_X11_odds_130, e_X11_odds_132, e_X11_odds_135, e_X11_odds_137, e_X11_odds_139, e_X11_odds_140, vi, vl, vr, oc_X11_finding, T_X11_finding, oc_X11_hadBehind, T_X11_hadBehind, oc_X11_isHad, T_X11_isHad, oc_X11_within, T_X11_within, ix_push, ix_iload, ix_lload, ix_aload, ix_istore, ix_astore, ix_iinc, ix_bin, ix_div, ix_un, ix_i2l, ix_l2i, ix_lbin, ix_lsh, ix_lcmp, ix_dup, ix_dup2, ix_pop, ix_if, ix_cmp, ix_goto, ix_switch, ix_sw, ix_iret, ix_zret, ix_vret, ix_aret, ix_geti, ix_getr, ix_puti, ix_putz, ix_puts, ix_gets, ix_iald, ix_iast, ix_alen, ix_aald, ix_gval, ix_gcod, ix_bald, ix_blen, ix_sald, ix_nret, ix_math2, ix_math1, ix_acopy, ml_113, ml_114, ml_115, ml_116, ml_118, ml_119, ml_120, ml_121, ml_122, ml_123, ml_124, ml_125, ml_126, mv_0, mv_1, mv_2, mv_3, mv_4, mv_5, mB_or, Nat.add_assoc, Int32.reduceLT, Int32.reduceLE, Int32.reduceToNatClampNeg, Int32.reduceSub, Int32.reduceAdd, Nat.reduceAdd, Nat.reduceLeDiff, true_or, or_true, or_false, false_or, not_false_eq_true, not_true_eq_false, false_implies, true_implies, implies_true, and_self, mB_0, mB_01, Classical.not_not, Nat.zero_le, List.getElem?_cons_zero, List.getElem?_cons_succ, List.set_cons_zero, List.set_cons_succ, ix_nl, ix_cs, true_and, and_true, Option.toList_some, Option.toList_none, List.cons_append, List.nil_append, K1, K2, K3, K4, Kc, V1, V2, V3, V4, Vc, P1, P2, P3, P4, Pc, ix_up_ne, ix_up_k, ve_1, ve_2, ve_3, ve_4, ve_5]
          exact l_X11_odds (M := M) (f := f) (by rw [e]; exact hf.symm) (mwOf (by rw [e]; exact hR) (by rw [e]; exact x1) (by rw [e]; exact x2)) hM (by omega) e5 rfl hq 20 0 μq rfl Fx.rf (fun _ _ _ => rfl)
        refine l_X10_odds (M := M) (N := K) (f := f) (ds := ds) (dl := dl) (μ0 := μ) (by rw [I.hw]; exact hf.symm) (by rw [I.hw]; exact hR) hM (by omega) hL (fun μ2 F2 => ?_) 20 0 μ rfl Fx.rf
        have I2 := I.scr F2 (by decide)
        refine ⟨fun z => hQ _ _ (hm μ2 _ (F2 113 (by decide)) I2.2.2.2.2.2.2.1 (fun μ3 F3 R3 => ⟨fun _ => pst rfl (I2.back F3 R3), fun y => absurd z y⟩)), fun z => hQ _ _ (hm μ2 _ (F2 113 (by decide)) I2.2.2.2.2.2.2.1 (fun μ3 F3 R3 => ⟨fun y => absurd y z, fun _ => pst rfl (I2.back F3 R3)⟩))⟩
      · have hx1 : p < 0 ∨ (1 : Int32) < p := hx1
        have hx2 : ¬ (0 ≤ p ∧ p ≤ (1 : Int32)) := hx2
        have hx3 : ¬ p = 0 := by rintro rfl; exact hx2 (by decide)
        have hx4 : ¬ p = 1 := by rintro rfl; exact hx2 (by decide)
        simp (decide := true) only [e_X10_odds_0, e_X10_odds_1, e_X10_odds_3, e_X10_odds_6, e_X10_odds_9, e_X10_odds_10, e_X10_odds_13, e_X10_odds_16, e_X10_odds_19, e_X10_odds_20, e_X10_odds_21, e_X10_odds_24, e_X10_odds_27, e_X10_odds_28, e_X10_odds_29, e_X10_odds_32, e_X10_odds_33, e_X10_odds_34, e_X10_odds_36, e_X10_odds_37, e_X10_odds_41, e_X10_odds_43, e_X10_odds_46, e_X10_odds_47, e_X10_odds_48, e_X10_odds_49, e_X10_odds_50, e_X10_odds_52, e_X10_odds_55, e_X10_odds_56, e_X10_odds_59, e_X10_odds_60, e_X10_odds_63, e_X10_odds_66, e_X10_odds_69, e_X10_odds_72, e_X10_odds_74, e_X10_odds_76, e_X10_odds_79, e_X10_odds_81, e_X10_odds_82, e_X10_odds_85, e_X10_odds_87, e_X10_odds_89, e_X10_odds_90, e_X10_odds_93, e_X10_odds_95, e_X10_odds_97, e_X10_odds_98, vi, vl, vr, oc_X10_commonDivisor, T_X10_commonDivisor, oc_X10_error, T_X10_error, oc_X10_hadBehind, T_X10_hadBehind, oc_X10_outside, T_X10_outside, oc_X10_suppose, T_X10_suppose, ix_push, ix_iload, ix_lload, ix_aload, ix_istore, ix_astore, ix_iinc, ix_bin, ix_div, ix_un, ix_i2l, ix_l2i, ix_lbin, ix_lsh, ix_lcmp, ix_dup, ix_dup2, ix_pop, ix_if, ix_cmp, ix_goto, ix_switch, ix_sw, ix_iret, ix_zret, ix_vret, ix_aret, ix_geti, ix_getr, ix_puti, ix_putz, ix_puts, ix_gets, ix_iald, ix_iast, ix_alen, ix_aald, ix_gval, ix_gcod, ix_bald, ix_blen, ix_sald, ix_nret, ix_math2, ix_math1, ix_acopy, Nat.add_assoc, Int32.reduceLT, Int32.reduceLE, Int32.reduceToNatClampNeg, Int32.reduceSub, Int32.reduceAdd, Nat.reduceAdd, Nat.reduceLeDiff, true_or, or_true, or_false, false_or, not_false_eq_true, not_true_eq_false, false_implies, true_implies, implies_true, and_self, mB_0, mB_01, Classical.not_not, Nat.zero_le, List.getElem?_cons_zero, List.getElem?_cons_succ, List.set_cons_zero, List.set_cons_succ, ix_nl, ix_cs, true_and, and_true, Option.toList_some, Option.toList_none, List.cons_append, List.nil_append, K1, K2, K3, K4, Kc, V1, V2, V3, V4, Vc, hx1, hx2, hx3, hx4, ix_up_ne, ix_up_k, ve_1, ve_2, ve_3, ve_4, ve_5]
        refine hQ _ _ ?_
        simp (decide := true) only [e_X11_odds_0, e_X11_odds_1, e_X11_odds_2, e_X11_odds_4, e_X11_odds_7, e_X11_odds_10, e_X11_odds_11, e_X11_odds_14, e_X11_odds_17, e_X11_odds_18, e_X11_odds_19, e_X11_odds_20, e_X11_odds_23, e_X11_odds_26, e_X11_odds_27, e_X11_odds_29, e_X11_odds_32, e_X11_odds_33, e_X11_odds_34, e_X11_odds_37, e_X11_odds_38, e_X11_odds_39, e_X11_odds_41, e_X11_odds_42, e_X11_odds_44, e_X11_odds_45, e_X11_odds_49, e_X11_odds_51, e_X11_odds_54, e_X11_odds_55, e_X11_odds_58, e_X11_odds_59, e_X11_odds_61, e_X11_odds_62, e_X11_odds_64, e_X11_odds_65, e_X11_odds_66, e_X11_odds_69, e_X11_odds_70, e_X11_odds_73, e_X11_odds_74, e_X11_odds_77, e_X11_odds_78, e_X11_odds_79, e_X11_odds_81, e_X11_odds_84, e_X11_odds_87, e_X11_odds_88, e_X11_odds_91, e_X11_odds_92, e_X11_odds_94, e_X11_odds_95, e_X11_odds_97, e_X11_odds_99, e_X11_odds_101, e_X11_odds_105, e_X11_odds_108, e_X11_odds_110, e_X11_odds_112, e_X11_odds_113, e_X11_odds_115, e_X11_odds_117, e_X11_odds_119, e_X11_odds_121, e_X11_odds_123, e_X11_odds_126, e_X11_odds_127, e_X11_odds_130, e_X11_odds_132, e_X11_odds_135, e_X11_odds_137, e_X11_odds_139, e_X11_odds_140, vi, vl, vr, oc_X11_finding, T_X11_finding, oc_X11_hadBehind, T_X11_hadBehind, oc_X11_isHad, T_X11_isHad, oc_X11_within, T_X11_within, ix_push, ix_iload, ix_lload, ix_aload, ix_istore, ix_astore, ix_iinc, ix_bin, ix_div, ix_un, ix_i2l, ix_l2i, ix_lbin, ix_lsh, ix_lcmp, ix_dup, ix_dup2, ix_pop, ix_if, ix_cmp, ix_goto, ix_switch, ix_sw, ix_iret, ix_zret, ix_vret, ix_aret, ix_geti, ix_getr, ix_puti, ix_putz, ix_puts, ix_gets, ix_iald, ix_iast, ix_alen, ix_aald, ix_gval, ix_gcod, ix_bald, ix_blen, ix_sald, ix_nret, ix_math2, ix_math1, ix_acopy, ml_113, ml_114, ml_115, ml_116, ml_118, ml_119, ml_120, ml_121, ml_122, ml_123, ml_124, ml_125, ml_126, mv_0, mv_1, mv_2, mv_3, mv_4, mv_5, mB_or, Nat.add_assoc, Int32.reduceLT, Int32.reduceLE, Int32.reduceToNatClampNeg, Int32.reduceSub, Int32.reduceAdd, Nat.reduceAdd, Nat.reduceLeDiff, true_or, or_true, or_false, false_or, not_false_eq_true, not_true_eq_false, false_implies, true_implies, implies_true, and_self, mB_0, mB_01, Classical.not_not, Nat.zero_le, List.getElem?_cons_zero, List.getElem?_cons_succ, List.set_cons_zero, List.set_cons_succ, ix_nl, ix_cs, true_and, and_true, Option.toList_some, Option.toList_none, List.cons_append, List.nil_append, K1, K2, K3, K4, Kc, V1, V2, V3, V4, Vc, hx1, hx2, hx3, hx4, ix_up_ne, ix_up_k, ve_1, ve_2, ve_3, ve_4, ve_5]
        repeat' (first | exact I.er 1 (by decide) | refine ⟨fun _ => ?_, fun _ => ?_⟩)
    · have hx1 : v < 0 ∨ (792 : Int32) < v := hx1
      have hx2 : ¬ (0 ≤ v ∧ v ≤ (792 : Int32)) := hx2
      simp (decide := true) only [e_X10_odds_0, e_X10_odds_1, e_X10_odds_3, e_X10_odds_6, e_X10_odds_9, e_X10_odds_10, e_X10_odds_13, e_X10_odds_16, e_X10_odds_19, e_X10_odds_20, e_X10_odds_21, e_X10_odds_24, e_X10_odds_27, e_X10_odds_28, e_X10_odds_29, e_X10_odds_32, e_X10_odds_33, e_X10_odds_34, e_X10_odds_36, e_X10_odds_37, e_X10_odds_41, e_X10_odds_43, e_X10_odds_46, e_X10_odds_47, e_X10_odds_48, e_X10_odds_49, e_X10_odds_50, e_X10_odds_52, e_X10_odds_55, e_X10_odds_56, e_X10_odds_59, e_X10_odds_60, e_X10_odds_63, e_X10_odds_66, e_X10_odds_69, e_X10_odds_72, e_X10_odds_74, e_X10_odds_76, e_X10_odds_79, e_X10_odds_81, e_X10_odds_82, e_X10_odds_85, e_X10_odds_87, e_X10_odds_89, e_X10_odds_90, e_X10_odds_93, e_X10_odds_95, e_X10_odds_97, e_X10_odds_98, vi, vl, vr, oc_X10_commonDivisor, T_X10_commonDivisor, oc_X10_error, T_X10_error, oc_X10_hadBehind, T_X10_hadBehind, oc_X10_outside, T_X10_outside, oc_X10_suppose, T_X10_suppose, ix_push, ix_iload, ix_lload, ix_aload, ix_istore, ix_astore, ix_iinc, ix_bin, ix_div, ix_un, ix_i2l, ix_l2i, ix_lbin, ix_lsh, ix_lcmp, ix_dup, ix_dup2, ix_pop, ix_if, ix_cmp, ix_goto, ix_switch, ix_sw, ix_iret, ix_zret, ix_vret, ix_aret, ix_geti, ix_getr, ix_puti, ix_putz, ix_puts, ix_gets, ix_iald, ix_iast, ix_alen, ix_aald, ix_gval, ix_gcod, ix_bald, ix_blen, ix_sald, ix_nret, ix_math2, ix_math1, ix_acopy, Nat.add_assoc, Int32.reduceLT, Int32.reduceLE, Int32.reduceToNatClampNeg, Int32.reduceSub, Int32.reduceAdd, Nat.reduceAdd, Nat.reduceLeDiff, true_or, or_true, or_false, false_or, not_false_eq_true, not_true_eq_false, false_implies, true_implies, implies_true, and_self, mB_0, mB_01, Classical.not_not, Nat.zero_le, List.getElem?_cons_zero, List.getElem?_cons_succ, List.set_cons_zero, List.set_cons_succ, ix_nl, ix_cs, true_and, and_true, Option.toList_some, Option.toList_none, List.cons_append, List.nil_append, K1, K2, K3, K4, Kc, hx1, hx2, ix_up_ne, ix_up_k, ve_1, ve_2, ve_3, ve_4, ve_5]
      refine hQ _ _ ?_
      simp (decide := true) only [e_X11_odds_0, e_X11_odds_1, e_X11_odds_2, e_X11_odds_4, e_X11_odds_7, e_X11_odds_10, e_X11_odds_11, e_X11_odds_14, e_X11_odds_17, e_X11_odds_18, e_X11_odds_19, e_X11_odds_20, e_X11_odds_23, e_X11_odds_26, e_X11_odds_27, e_X11_odds_29, e_X11_odds_32, e_X11_odds_33, e_X11_odds_34, e_X11_odds_37, e_X11_odds_38, e_X11_odds_39, e_X11_odds_41, e_X11_odds_42, e_X11_odds_44, e_X11_odds_45, e_X11_odds_49, e_X11_odds_51, e_X11_odds_54, e_X11_odds_55, e_X11_odds_58, e_X11_odds_59, e_X11_odds_61, e_X11_odds_62, e_X11_odds_64, e_X11_odds_65, e_X11_odds_66, e_X11_odds_69, e_X11_odds_70, e_X11_odds_73, e_X11_odds_74, e_X11_odds_77, e_X11_odds_78, e_X11_odds_79, e_X11_odds_81, e_X11_odds_84, e_X11_odds_87, e_X11_odds_88, e_X11_odds_91, e_X11_odds_92, e_X11_odds_94, e_X11_odds_95, e_X11_odds_97, e_X11_odds_99, e_X11_odds_101, e_X11_odds_105, e_X11_odds_108, e_X11_odds_110, e_X11_odds_112, e_X11_odds_113, e_X11_odds_115, e_X11_odds_117, e_X11_odds_119, e_X11_odds_121, e_X11_odds_123, e_X11_odds_126, e_X11_odds_127, e_X11_odds_130, e_X11_odds_132, e_X11_odds_135, e_X11_odds_137, e_X11_odds_139, e_X11_odds_140, vi, vl, vr, oc_X11_finding, T_X11_finding, oc_X11_hadBehind, T_X11_hadBehind, oc_X11_isHad, T_X11_isHad, oc_X11_within, T_X11_within, ix_push, ix_iload, ix_lload, ix_aload, ix_istore, ix_astore, ix_iinc, ix_bin, ix_div, ix_un, ix_i2l, ix_l2i, ix_lbin, ix_lsh, ix_lcmp, ix_dup, ix_dup2, ix_pop, ix_if, ix_cmp, ix_goto, ix_switch, ix_sw, ix_iret, ix_zret, ix_vret, ix_aret, ix_geti, ix_getr, ix_puti, ix_putz, ix_puts, ix_gets, ix_iald, ix_iast, ix_alen, ix_aald, ix_gval, ix_gcod, ix_bald, ix_blen, ix_sald, ix_nret, ix_math2, ix_math1, ix_acopy, ml_113, ml_114, ml_115, ml_116, ml_118, ml_119, ml_120, ml_121, ml_122, ml_123, ml_124, ml_125, ml_126, mv_0, mv_1, mv_2, mv_3, mv_4, mv_5, mB_or, Nat.add_assoc, Int32.reduceLT, Int32.reduceLE, Int32.reduceToNatClampNeg, Int32.reduceSub, Int32.reduceAdd, Nat.reduceAdd, Nat.reduceLeDiff, true_or, or_true, or_false, false_or, not_false_eq_true, not_true_eq_false, false_implies, true_implies, implies_true, and_self, mB_0, mB_01, Classical.not_not, Nat.zero_le, List.getElem?_cons_zero, List.getElem?_cons_succ, List.set_cons_zero, List.set_cons_succ, ix_nl, ix_cs, true_and, and_true, Option.toList_some, Option.toList_none, List.cons_append, List.nil_append, K1, K2, K3, K4, Kc, hx1, hx2, ix_up_ne, ix_up_k, ve_1, ve_2, ve_3, ve_4, ve_5]
      repeat' (first | exact I.er 1 (by decide) | refine ⟨fun _ => ?_, fun _ => ?_⟩)
  · have hx1 : n < 0 ∨ (30 : Int32) < n := hx1
    have hx2 : ¬ (0 ≤ n ∧ n ≤ (30 : Int32)) := hx2
    simp (decide := true) only [e_X10_odds_0, e_X10_odds_1, e_X10_odds_3, e_X10_odds_6, e_X10_odds_9, e_X10_odds_10, e_X10_odds_13, e_X10_odds_16, e_X10_odds_19, e_X10_odds_20, e_X10_odds_21, e_X10_odds_24, e_X10_odds_27, e_X10_odds_28, e_X10_odds_29, e_X10_odds_32, e_X10_odds_33, e_X10_odds_34, e_X10_odds_36, e_X10_odds_37, e_X10_odds_41, e_X10_odds_43, e_X10_odds_46, e_X10_odds_47, e_X10_odds_48, e_X10_odds_49, e_X10_odds_50, e_X10_odds_52, e_X10_odds_55, e_X10_odds_56, e_X10_odds_59, e_X10_odds_60, e_X10_odds_63, e_X10_odds_66, e_X10_odds_69, e_X10_odds_72, e_X10_odds_74, e_X10_odds_76, e_X10_odds_79, e_X10_odds_81, e_X10_odds_82, e_X10_odds_85, e_X10_odds_87, e_X10_odds_89, e_X10_odds_90, e_X10_odds_93, e_X10_odds_95, e_X10_odds_97, e_X10_odds_98, vi, vl, vr, oc_X10_commonDivisor, T_X10_commonDivisor, oc_X10_error, T_X10_error, oc_X10_hadBehind, T_X10_hadBehind, oc_X10_outside, T_X10_outside, oc_X10_suppose, T_X10_suppose, ix_push, ix_iload, ix_lload, ix_aload, ix_istore, ix_astore, ix_iinc, ix_bin, ix_div, ix_un, ix_i2l, ix_l2i, ix_lbin, ix_lsh, ix_lcmp, ix_dup, ix_dup2, ix_pop, ix_if, ix_cmp, ix_goto, ix_switch, ix_sw, ix_iret, ix_zret, ix_vret, ix_aret, ix_geti, ix_getr, ix_puti, ix_putz, ix_puts, ix_gets, ix_iald, ix_iast, ix_alen, ix_aald, ix_gval, ix_gcod, ix_bald, ix_blen, ix_sald, ix_nret, ix_math2, ix_math1, ix_acopy, Nat.add_assoc, Int32.reduceLT, Int32.reduceLE, Int32.reduceToNatClampNeg, Int32.reduceSub, Int32.reduceAdd, Nat.reduceAdd, Nat.reduceLeDiff, true_or, or_true, or_false, false_or, not_false_eq_true, not_true_eq_false, false_implies, true_implies, implies_true, and_self, mB_0, mB_01, Classical.not_not, Nat.zero_le, List.getElem?_cons_zero, List.getElem?_cons_succ, List.set_cons_zero, List.set_cons_succ, ix_nl, ix_cs, true_and, and_true, Option.toList_some, Option.toList_none, List.cons_append, List.nil_append, hx1, hx2, ix_up_ne, ix_up_k, ve_1, ve_2, ve_3, ve_4, ve_5]
    refine hQ _ _ ?_
    simp (decide := true) only [e_X11_odds_0, e_X11_odds_1, e_X11_odds_2, e_X11_odds_4, e_X11_odds_7, e_X11_odds_10, e_X11_odds_11, e_X11_odds_14, e_X11_odds_17, e_X11_odds_18, e_X11_odds_19, e_X11_odds_20, e_X11_odds_23, e_X11_odds_26, e_X11_odds_27, e_X11_odds_29, e_X11_odds_32, e_X11_odds_33, e_X11_odds_34, e_X11_odds_37, e_X11_odds_38, e_X11_odds_39, e_X11_odds_41, e_X11_odds_42, e_X11_odds_44, e_X11_odds_45, e_X11_odds_49, e_X11_odds_51, e_X11_odds_54, e_X11_odds_55, e_X11_odds_58, e_X11_odds_59, e_X11_odds_61, e_X11_odds_62, e_X11_odds_64, e_X11_odds_65, e_X11_odds_66, e_X11_odds_69, e_X11_odds_70, e_X11_odds_73, e_X11_odds_74, e_X11_odds_77, e_X11_odds_78, e_X11_odds_79, e_X11_odds_81, e_X11_odds_84, e_X11_odds_87, e_X11_odds_88, e_X11_odds_91, e_X11_odds_92, e_X11_odds_94, e_X11_odds_95, e_X11_odds_97, e_X11_odds_99, e_X11_odds_101, e_X11_odds_105, e_X11_odds_108, e_X11_odds_110, e_X11_odds_112, e_X11_odds_113, e_X11_odds_115, e_X11_odds_117, e_X11_odds_119, e_X11_odds_121, e_X11_odds_123, e_X11_odds_126, e_X11_odds_127, e_X11_odds_130, e_X11_odds_132, e_X11_odds_135, e_X11_odds_137, e_X11_odds_139, e_X11_odds_140, vi, vl, vr, oc_X11_finding, T_X11_finding, oc_X11_hadBehind, T_X11_hadBehind, oc_X11_isHad, T_X11_isHad, oc_X11_within, T_X11_within, ix_push, ix_iload, ix_lload, ix_aload, ix_istore, ix_astore, ix_iinc, ix_bin, ix_div, ix_un, ix_i2l, ix_l2i, ix_lbin, ix_lsh, ix_lcmp, ix_dup, ix_dup2, ix_pop, ix_if, ix_cmp, ix_goto, ix_switch, ix_sw, ix_iret, ix_zret, ix_vret, ix_aret, ix_geti, ix_getr, ix_puti, ix_putz, ix_puts, ix_gets, ix_iald, ix_iast, ix_alen, ix_aald, ix_gval, ix_gcod, ix_bald, ix_blen, ix_sald, ix_nret, ix_math2, ix_math1, ix_acopy, ml_113, ml_114, ml_115, ml_116, ml_118, ml_119, ml_120, ml_121, ml_122, ml_123, ml_124, ml_125, ml_126, mv_0, mv_1, mv_2, mv_3, mv_4, mv_5, mB_or, Nat.add_assoc, Int32.reduceLT, Int32.reduceLE, Int32.reduceToNatClampNeg, Int32.reduceSub, Int32.reduceAdd, Nat.reduceAdd, Nat.reduceLeDiff, true_or, or_true, or_false, false_or, not_false_eq_true, not_true_eq_false, false_implies, true_implies, implies_true, and_self, mB_0, mB_01, Classical.not_not, Nat.zero_le, List.getElem?_cons_zero, List.getElem?_cons_succ, List.set_cons_zero, List.set_cons_succ, ix_nl, ix_cs, true_and, and_true, Option.toList_some, Option.toList_none, List.cons_append, List.nil_append, hx1, hx2, ix_up_ne, ix_up_k, ve_1, ve_2, ve_3, ve_4, ve_5]
    repeat' (first | exact I.er 1 (by decide) | refine ⟨fun _ => ?_, fun _ => ?_⟩)
