/-! ===== calls, class against model: darkFor ===== -/
theorem Inv.eb {μ2 μ5 : ix_M} (I2 : Inv μ2) {k : Nat} (hk : k ≤ 5) (Fq : Fx [113, 115, 119, 120] (ix_up μ2 111 k (μ2 111 k + 1)) μ5) (Rq : RE (μ5 113) (μ2 113)) : Inv (ix_up μ5 116 k (μ5 116 k + 1)) := by
  have I5 : Inv (fun a => if a = 111 then μ2 111 else μ5 a) := by
    refine I2.back (fun a ha => ?_) (fun k hk => ?_)
    · by_cases c : a = 111
      · simp only [c, if_true]
      · simp only [if_neg c]
        rw [Fq a ha, ix_up_ne c]
    · show (if 113 = 111 then μ2 111 else μ5 113) k = _
      rw [if_neg (by decide)]
      exact Rq k hk
  have I6 := I5.err (k := k) hk
  refine Eq.mp (congrArg Inv ?_) I6
  have e111 : μ5 111 = upd (μ2 111) k (μ2 111 k + 1) := by rw [Fq 111 (by decide), ix_up_row]
  funext a j
  by_cases c1 : a = 116
  · subst c1
    simp [ix_up_ap]
  · rw [ix_up_ne c1, ix_up_ne c1]
    by_cases c2 : a = 111
    · subst c2
      rw [e111, ix_up_ap]
      unfold upd
      simp
    · rw [ix_up_ne c2]
      simp [c2]
theorem nI_dn (d : Nat) : nI (d + 1) + -1 = nI d := by
  rw [← nI_pred d, Int32.sub_eq_add_neg]
def o_X10_darkFor : List (Nat × ix_Op) := [
  (0, ix_iload 1 1),
  (1, ix_push (vi 60) 3),
  (3, oc_X10_outside 6),
  (6, ix_if (fun x => x = 0) 9 19),
  (9, ix_iload 2 10),
  (10, ix_push (vi 792) 13),
  (13, oc_X10_outside 16),
  (16, ix_if (fun x => x = 0) 25 19),
  (19, ix_aload 0 20),
  (20, ix_push (vi 1) 21),
  (21, oc_X10_error 24),
  (24, ix_iret),
  (25, ix_push (vi 1) 26),
  (26, ix_istore 3 27),
  (27, ix_iload 3 28),
  (28, ix_push (vi 20) 30),
  (30, ix_cmp (fun x y => y < x) 57 33),
  (33, ix_aload 0 34),
  (34, ix_aload 0 35),
  (35, ix_push (vi 4) 36),
  (36, ix_push (vi 0) 37),
  (37, ix_iload 3 38),
  (38, oc_X10_suppose 41),
  (41, ix_iload 1 42),
  (42, oc_X10_hadBehind 45),
  (45, ix_iload 2 46),
  (46, ix_cmp (fun x y => x < y) 51 49),
  (49, ix_iload 3 50),
  (50, ix_iret),
  (51, ix_iinc 3 1 54),
  (54, ix_goto 27),
  (57, ix_aload 0 58),
  (58, ix_push (vi 2) 59),
  (59, oc_X10_error 62),
  (62, ix_iret)]
set_option maxRecDepth 20000 in
theorem a_X10_darkFor (l : Launch) : ix_AllS l cX10_darkFor 4 RX10 60 (some .int) o_X10_darkFor :=
  .cons (ix_s_iload_n dX10_darkFor_0 rfl) <|
  .cons (ix_s_bipush dX10_darkFor_1 (by decide +kernel)) <|
  .cons (oc_X10_outside_s (ix_s_calls (k_X10_outside l) (by decide) (by decide) tw_291 tw_1 tw_289 tw_290 ⟨by decide, by decide, by decide +kernel⟩ (fun _ => rfl) dX10_darkFor_3)) <|
  .cons (ix_s_if_ne dX10_darkFor_6 (by decide)) <|
  .cons (ix_s_iload_n dX10_darkFor_9 rfl) <|
  .cons (ix_s_sipush dX10_darkFor_10 (by decide +kernel)) <|
  .cons (oc_X10_outside_s (ix_s_calls (k_X10_outside l) (by decide) (by decide) tw_291 tw_1 tw_289 tw_290 ⟨by decide, by decide, by decide +kernel⟩ (fun _ => rfl) dX10_darkFor_13)) <|
  .cons (ix_s_if_eq dX10_darkFor_16 (by decide)) <|
  .cons (ix_s_aload_n dX10_darkFor_19 rfl) <|
  .cons (ix_s_iconst dX10_darkFor_20 (by decide +kernel)) <|
  .cons (oc_X10_error_s (ix_s_callv (t := 9) (k_X10_error l) (by decide) (by decide) tw_295 tw_1 tw_292 tw_294 tp_0 ⟨by decide, by decide, by decide +kernel⟩ (by decide) rfl rfl (fun _ => ⟨_, _, rfl, rfl⟩) dX10_darkFor_21)) <|
  .cons (ix_s_iret dX10_darkFor_24 rfl) <|
  .cons (ix_s_iconst dX10_darkFor_25 (by decide +kernel)) <|
  .cons (ix_s_istore_n dX10_darkFor_26 rfl (by decide)) <|
  .cons (ix_s_iload_n dX10_darkFor_27 rfl) <|
  .cons (ix_s_bipush dX10_darkFor_28 (by decide +kernel)) <|
  .cons (ix_s_cmp_gt dX10_darkFor_30 (by decide)) <|
  .cons (ix_s_aload_n dX10_darkFor_33 rfl) <|
  .cons (ix_s_aload_n dX10_darkFor_34 rfl) <|
  .cons (ix_s_iconst dX10_darkFor_35 (by decide +kernel)) <|
  .cons (ix_s_iconst dX10_darkFor_36 (by decide +kernel)) <|
  .cons (ix_s_iload_n dX10_darkFor_37 rfl) <|
  .cons (oc_X10_suppose_s (ix_s_callv (t := 9) (k_X10_suppose l) (by decide) (by decide) tw_667 tw_1 tw_664 tw_666 tp_10 ⟨by decide, by decide, by decide +kernel⟩ (by decide) rfl rfl (fun _ => ⟨_, _, rfl, rfl⟩) dX10_darkFor_38)) <|
  .cons (ix_s_iload_n dX10_darkFor_41 rfl) <|
  .cons (oc_X10_hadBehind_s (ix_s_callv (t := 9) (k_X10_hadBehind l) (by decide) (by decide) tw_595 tw_1 tw_592 tw_594 tp_7 ⟨by decide, by decide, by decide +kernel⟩ (by decide) rfl rfl (fun _ => ⟨_, _, rfl, rfl⟩) dX10_darkFor_42)) <|
  .cons (ix_s_iload_n dX10_darkFor_45 rfl) <|
  .cons (ix_s_cmp_lt dX10_darkFor_46 (by decide)) <|
  .cons (ix_s_iload_n dX10_darkFor_49 rfl) <|
  .cons (ix_s_iret dX10_darkFor_50 rfl) <|
  .cons (ix_s_iinc dX10_darkFor_51 (by decide +kernel) (by decide)) <|
  .cons (ix_s_goto dX10_darkFor_54 (by decide)) <|
  .cons (ix_s_aload_n dX10_darkFor_57 rfl) <|
  .cons (ix_s_iconst dX10_darkFor_58 (by decide +kernel)) <|
  .cons (oc_X10_error_s (ix_s_callv (t := 9) (k_X10_error l) (by decide) (by decide) tw_295 tw_1 tw_292 tw_294 tp_0 ⟨by decide, by decide, by decide +kernel⟩ (by decide) rfl rfl (fun _ => ⟨_, _, rfl, rfl⟩) dX10_darkFor_59)) <|
  .cons (ix_s_iret dX10_darkFor_62 rfl) <| .nil
theorem e_X10_darkFor_0 (Q : ix_R → Prop) (ls : ix_L) (st : List ix_V) (μ : ix_M) : ix_Ev o_X10_darkFor Q (0, ls, st, μ) = ix_iload 1 1 (ix_Ev o_X10_darkFor Q) Q ls st μ := ix_Ev.eq (a_X10_darkFor launch0) rfl ls st μ
theorem e_X10_darkFor_1 (Q : ix_R → Prop) (ls : ix_L) (st : List ix_V) (μ : ix_M) : ix_Ev o_X10_darkFor Q (1, ls, st, μ) = ix_push (vi 60) 3 (ix_Ev o_X10_darkFor Q) Q ls st μ := ix_Ev.eq (a_X10_darkFor launch0) rfl ls st μ
theorem e_X10_darkFor_3 (Q : ix_R → Prop) (ls : ix_L) (st : List ix_V) (μ : ix_M) : ix_Ev o_X10_darkFor Q (3, ls, st, μ) = oc_X10_outside 6 (ix_Ev o_X10_darkFor Q) Q ls st μ := ix_Ev.eq (a_X10_darkFor launch0) rfl ls st μ
theorem e_X10_darkFor_6 (Q : ix_R → Prop) (ls : ix_L) (st : List ix_V) (μ : ix_M) : ix_Ev o_X10_darkFor Q (6, ls, st, μ) = ix_if (fun x => x = 0) 9 19 (ix_Ev o_X10_darkFor Q) Q ls st μ := ix_Ev.eq (a_X10_darkFor launch0) rfl ls st μ
theorem e_X10_darkFor_9 (Q : ix_R → Prop) (ls : ix_L) (st : List ix_V) (μ : ix_M) : ix_Ev o_X10_darkFor Q (9, ls, st, μ) = ix_iload 2 10 (ix_Ev o_X10_darkFor Q) Q ls st μ := ix_Ev.eq (a_X10_darkFor launch0) rfl ls st μ
theorem e_X10_darkFor_10 (Q : ix_R → Prop) (ls : ix_L) (st : List ix_V) (μ : ix_M) : ix_Ev o_X10_darkFor Q (10, ls, st, μ) = ix_push (vi 792) 13 (ix_Ev o_X10_darkFor Q) Q ls st μ := ix_Ev.eq (a_X10_darkFor launch0) rfl ls st μ
theorem e_X10_darkFor_13 (Q : ix_R → Prop) (ls : ix_L) (st : List ix_V) (μ : ix_M) : ix_Ev o_X10_darkFor Q (13, ls, st, μ) = oc_X10_outside 16 (ix_Ev o_X10_darkFor Q) Q ls st μ := ix_Ev.eq (a_X10_darkFor launch0) rfl ls st μ
theorem e_X10_darkFor_16 (Q : ix_R → Prop) (ls : ix_L) (st : List ix_V) (μ : ix_M) : ix_Ev o_X10_darkFor Q (16, ls, st, μ) = ix_if (fun x => x = 0) 25 19 (ix_Ev o_X10_darkFor Q) Q ls st μ := ix_Ev.eq (a_X10_darkFor launch0) rfl ls st μ
theorem e_X10_darkFor_19 (Q : ix_R → Prop) (ls : ix_L) (st : List ix_V) (μ : ix_M) : ix_Ev o_X10_darkFor Q (19, ls, st, μ) = ix_aload 0 20 (ix_Ev o_X10_darkFor Q) Q ls st μ := ix_Ev.eq (a_X10_darkFor launch0) rfl ls st μ
theorem e_X10_darkFor_20 (Q : ix_R → Prop) (ls : ix_L) (st : List ix_V) (μ : ix_M) : ix_Ev o_X10_darkFor Q (20, ls, st, μ) = ix_push (vi 1) 21 (ix_Ev o_X10_darkFor Q) Q ls st μ := ix_Ev.eq (a_X10_darkFor launch0) rfl ls st μ
theorem e_X10_darkFor_21 (Q : ix_R → Prop) (ls : ix_L) (st : List ix_V) (μ : ix_M) : ix_Ev o_X10_darkFor Q (21, ls, st, μ) = oc_X10_error 24 (ix_Ev o_X10_darkFor Q) Q ls st μ := ix_Ev.eq (a_X10_darkFor launch0) rfl ls st μ
theorem e_X10_darkFor_24 (Q : ix_R → Prop) (ls : ix_L) (st : List ix_V) (μ : ix_M) : ix_Ev o_X10_darkFor Q (24, ls, st, μ) = ix_iret (ix_Ev o_X10_darkFor Q) Q ls st μ := ix_Ev.eq (a_X10_darkFor launch0) rfl ls st μ
theorem e_X10_darkFor_25 (Q : ix_R → Prop) (ls : ix_L) (st : List ix_V) (μ : ix_M) : ix_Ev o_X10_darkFor Q (25, ls, st, μ) = ix_push (vi 1) 26 (ix_Ev o_X10_darkFor Q) Q ls st μ := ix_Ev.eq (a_X10_darkFor launch0) rfl ls st μ
theorem e_X10_darkFor_26 (Q : ix_R → Prop) (ls : ix_L) (st : List ix_V) (μ : ix_M) : ix_Ev o_X10_darkFor Q (26, ls, st, μ) = ix_istore 3 27 (ix_Ev o_X10_darkFor Q) Q ls st μ := ix_Ev.eq (a_X10_darkFor launch0) rfl ls st μ
theorem e_X10_darkFor_27 (Q : ix_R → Prop) (ls : ix_L) (st : List ix_V) (μ : ix_M) : ix_Ev o_X10_darkFor Q (27, ls, st, μ) = ix_iload 3 28 (ix_Ev o_X10_darkFor Q) Q ls st μ := ix_Ev.eq (a_X10_darkFor launch0) rfl ls st μ
theorem e_X10_darkFor_28 (Q : ix_R → Prop) (ls : ix_L) (st : List ix_V) (μ : ix_M) : ix_Ev o_X10_darkFor Q (28, ls, st, μ) = ix_push (vi 20) 30 (ix_Ev o_X10_darkFor Q) Q ls st μ := ix_Ev.eq (a_X10_darkFor launch0) rfl ls st μ
theorem e_X10_darkFor_30 (Q : ix_R → Prop) (ls : ix_L) (st : List ix_V) (μ : ix_M) : ix_Ev o_X10_darkFor Q (30, ls, st, μ) = ix_cmp (fun x y => y < x) 57 33 (ix_Ev o_X10_darkFor Q) Q ls st μ := ix_Ev.eq (a_X10_darkFor launch0) rfl ls st μ
theorem e_X10_darkFor_33 (Q : ix_R → Prop) (ls : ix_L) (st : List ix_V) (μ : ix_M) : ix_Ev o_X10_darkFor Q (33, ls, st, μ) = ix_aload 0 34 (ix_Ev o_X10_darkFor Q) Q ls st μ := ix_Ev.eq (a_X10_darkFor launch0) rfl ls st μ
theorem e_X10_darkFor_34 (Q : ix_R → Prop) (ls : ix_L) (st : List ix_V) (μ : ix_M) : ix_Ev o_X10_darkFor Q (34, ls, st, μ) = ix_aload 0 35 (ix_Ev o_X10_darkFor Q) Q ls st μ := ix_Ev.eq (a_X10_darkFor launch0) rfl ls st μ
theorem e_X10_darkFor_35 (Q : ix_R → Prop) (ls : ix_L) (st : List ix_V) (μ : ix_M) : ix_Ev o_X10_darkFor Q (35, ls, st, μ) = ix_push (vi 4) 36 (ix_Ev o_X10_darkFor Q) Q ls st μ := ix_Ev.eq (a_X10_darkFor launch0) rfl ls st μ
theorem e_X10_darkFor_36 (Q : ix_R → Prop) (ls : ix_L) (st : List ix_V) (μ : ix_M) : ix_Ev o_X10_darkFor Q (36, ls, st, μ) = ix_push (vi 0) 37 (ix_Ev o_X10_darkFor Q) Q ls st μ := ix_Ev.eq (a_X10_darkFor launch0) rfl ls st μ
theorem e_X10_darkFor_37 (Q : ix_R → Prop) (ls : ix_L) (st : List ix_V) (μ : ix_M) : ix_Ev o_X10_darkFor Q (37, ls, st, μ) = ix_iload 3 38 (ix_Ev o_X10_darkFor Q) Q ls st μ := ix_Ev.eq (a_X10_darkFor launch0) rfl ls st μ
theorem e_X10_darkFor_38 (Q : ix_R → Prop) (ls : ix_L) (st : List ix_V) (μ : ix_M) : ix_Ev o_X10_darkFor Q (38, ls, st, μ) = oc_X10_suppose 41 (ix_Ev o_X10_darkFor Q) Q ls st μ := ix_Ev.eq (a_X10_darkFor launch0) rfl ls st μ
theorem e_X10_darkFor_41 (Q : ix_R → Prop) (ls : ix_L) (st : List ix_V) (μ : ix_M) : ix_Ev o_X10_darkFor Q (41, ls, st, μ) = ix_iload 1 42 (ix_Ev o_X10_darkFor Q) Q ls st μ := ix_Ev.eq (a_X10_darkFor launch0) rfl ls st μ
theorem e_X10_darkFor_42 (Q : ix_R → Prop) (ls : ix_L) (st : List ix_V) (μ : ix_M) : ix_Ev o_X10_darkFor Q (42, ls, st, μ) = oc_X10_hadBehind 45 (ix_Ev o_X10_darkFor Q) Q ls st μ := ix_Ev.eq (a_X10_darkFor launch0) rfl ls st μ
theorem e_X10_darkFor_45 (Q : ix_R → Prop) (ls : ix_L) (st : List ix_V) (μ : ix_M) : ix_Ev o_X10_darkFor Q (45, ls, st, μ) = ix_iload 2 46 (ix_Ev o_X10_darkFor Q) Q ls st μ := ix_Ev.eq (a_X10_darkFor launch0) rfl ls st μ
theorem e_X10_darkFor_46 (Q : ix_R → Prop) (ls : ix_L) (st : List ix_V) (μ : ix_M) : ix_Ev o_X10_darkFor Q (46, ls, st, μ) = ix_cmp (fun x y => x < y) 51 49 (ix_Ev o_X10_darkFor Q) Q ls st μ := ix_Ev.eq (a_X10_darkFor launch0) rfl ls st μ
theorem e_X10_darkFor_49 (Q : ix_R → Prop) (ls : ix_L) (st : List ix_V) (μ : ix_M) : ix_Ev o_X10_darkFor Q (49, ls, st, μ) = ix_iload 3 50 (ix_Ev o_X10_darkFor Q) Q ls st μ := ix_Ev.eq (a_X10_darkFor launch0) rfl ls st μ
theorem e_X10_darkFor_50 (Q : ix_R → Prop) (ls : ix_L) (st : List ix_V) (μ : ix_M) : ix_Ev o_X10_darkFor Q (50, ls, st, μ) = ix_iret (ix_Ev o_X10_darkFor Q) Q ls st μ := ix_Ev.eq (a_X10_darkFor launch0) rfl ls st μ
theorem e_X10_darkFor_51 (Q : ix_R → Prop) (ls : ix_L) (st : List ix_V) (μ : ix_M) : ix_Ev o_X10_darkFor Q (51, ls, st, μ) = ix_iinc 3 1 54 (ix_Ev o_X10_darkFor Q) Q ls st μ := ix_Ev.eq (a_X10_darkFor launch0) rfl ls st μ
theorem e_X10_darkFor_54 (Q : ix_R → Prop) (ls : ix_L) (st : List ix_V) (μ : ix_M) : ix_Ev o_X10_darkFor Q (54, ls, st, μ) = ix_goto 27 (ix_Ev o_X10_darkFor Q) Q ls st μ := ix_Ev.eq (a_X10_darkFor launch0) rfl ls st μ
theorem e_X10_darkFor_57 (Q : ix_R → Prop) (ls : ix_L) (st : List ix_V) (μ : ix_M) : ix_Ev o_X10_darkFor Q (57, ls, st, μ) = ix_aload 0 58 (ix_Ev o_X10_darkFor Q) Q ls st μ := ix_Ev.eq (a_X10_darkFor launch0) rfl ls st μ
theorem e_X10_darkFor_58 (Q : ix_R → Prop) (ls : ix_L) (st : List ix_V) (μ : ix_M) : ix_Ev o_X10_darkFor Q (58, ls, st, μ) = ix_push (vi 2) 59 (ix_Ev o_X10_darkFor Q) Q ls st μ := ix_Ev.eq (a_X10_darkFor launch0) rfl ls st μ
theorem e_X10_darkFor_59 (Q : ix_R → Prop) (ls : ix_L) (st : List ix_V) (μ : ix_M) : ix_Ev o_X10_darkFor Q (59, ls, st, μ) = oc_X10_error 62 (ix_Ev o_X10_darkFor Q) Q ls st μ := ix_Ev.eq (a_X10_darkFor launch0) rfl ls st μ
theorem e_X10_darkFor_62 (Q : ix_R → Prop) (ls : ix_L) (st : List ix_V) (μ : ix_M) : ix_Ev o_X10_darkFor Q (62, ls, st, μ) = ix_iret (ix_Ev o_X10_darkFor Q) Q ls st μ := ix_Ev.eq (a_X10_darkFor launch0) rfl ls st μ
def o_X11_darkFor : List (Nat × ix_Op) := [
  (0, ix_iload 1 1),
  (1, oc_X11_isBehind 4),
  (4, ix_if (fun x => x = 0) 14 7),
  (7, ix_iload 2 8),
  (8, oc_X11_isHad 11),
  (11, ix_if (fun x => x = 0) 14 21),
  (14, ix_aload 0 15),
  (15, ix_push (vi (-1000000001)) 17),
  (17, oc_X11_finding 20),
  (20, ix_iret),
  (21, ix_aload 0 22),
  (22, ix_getr 10 20 (fun _ => 113) 25),
  (25, ix_push (vi 2) 26),
  (26, ix_iald 27),
  (27, ix_istore 3 28),
  (28, ix_push (vi (-1)) 29),
  (29, ix_istore 4 31),
  (31, ix_push (vi 20) 33),
  (33, ix_istore 5 35),
  (35, ix_iload 5 37),
  (37, ix_if (fun x => x ≤ 0) 72 40),
  (40, ix_aload 0 41),
  (41, ix_getr 10 20 (fun _ => 113) 44),
  (44, ix_push (vi 2) 45),
  (45, ix_iload 5 47),
  (47, ix_iast 48),
  (48, ix_aload 0 49),
  (49, ix_iload 1 50),
  (50, oc_X11_hadBehind 53),
  (53, ix_iload 2 54),
  (54, ix_cmp (fun x y => x < y) 62 57),
  (57, ix_iload 5 59),
  (59, ix_goto 64),
  (62, ix_iload 4 64),
  (64, ix_istore 4 66),
  (66, ix_iinc 5 (-1) 69),
  (69, ix_goto 35),
  (72, ix_aload 0 73),
  (73, ix_getr 10 20 (fun _ => 113) 76),
  (76, ix_push (vi 2) 77),
  (77, ix_iload 3 78),
  (78, ix_iast 79),
  (79, ix_iload 4 81),
  (81, ix_if (fun x => 0 ≤ x) 94 84),
  (84, ix_aload 0 85),
  (85, ix_push (vi (-1000000002)) 88),
  (88, oc_X11_finding 91),
  (91, ix_goto 96),
  (94, ix_iload 4 96),
  (96, ix_iret)]
set_option maxRecDepth 20000 in
theorem a_X11_darkFor (l : Launch) : ix_AllS l cX11_darkFor 6 RX11 60 (some .int) o_X11_darkFor :=
  .cons (ix_s_iload_n dX11_darkFor_0 rfl) <|
  .cons (oc_X11_isBehind_s (ix_s_calls (k_X11_isBehind l) (by decide) (by decide) tw_1218 tw_12 tw_1216 tw_1217 ⟨by decide, by decide, by decide +kernel⟩ (fun _ => rfl) dX11_darkFor_1)) <|
  .cons (ix_s_if_eq dX11_darkFor_4 (by decide)) <|
  .cons (ix_s_iload_n dX11_darkFor_7 rfl) <|
  .cons (oc_X11_isHad_s (ix_s_calls (k_X11_isHad l) (by decide) (by decide) tw_1273 tw_12 tw_1271 tw_1272 ⟨by decide, by decide, by decide +kernel⟩ (fun _ => rfl) dX11_darkFor_8)) <|
  .cons (ix_s_if_ne dX11_darkFor_11 (by decide)) <|
  .cons (ix_s_aload_n dX11_darkFor_14 rfl) <|
  .cons (ix_s_ldc tw_961 dX11_darkFor_15) <|
  .cons (oc_X11_finding_s (ix_s_callv (t := 10) (k_X11_finding l) (by decide) (by decide) tw_965 tw_12 tw_962 tw_964 tp_18 ⟨by decide, by decide, by decide +kernel⟩ (by decide) rfl rfl (fun _ => ⟨_, _, rfl, rfl⟩) dX11_darkFor_17)) <|
  .cons (ix_s_iret dX11_darkFor_20 rfl) <|
  .cons (ix_s_aload_n dX11_darkFor_21 rfl) <|
  .cons (ix_s_getr (j := 0) tu_X11 rfl (by decide) (by decide) tw_875 rfl ts_10_0_r dX11_darkFor_22) <|
  .cons (ix_s_iconst dX11_darkFor_25 (by decide +kernel)) <|
  .cons (ix_s_iald dX11_darkFor_26) <|
  .cons (ix_s_istore_n dX11_darkFor_27 rfl (by decide)) <|
  .cons (ix_s_iconst dX11_darkFor_28 (by decide +kernel)) <|
  .cons (ix_s_istore dX11_darkFor_29 (by decide)) <|
  .cons (ix_s_bipush dX11_darkFor_31 (by decide +kernel)) <|
  .cons (ix_s_istore dX11_darkFor_33 (by decide)) <|
  .cons (ix_s_iload dX11_darkFor_35) <|
  .cons (ix_s_if_le dX11_darkFor_37 (by decide)) <|
  .cons (ix_s_aload_n dX11_darkFor_40 rfl) <|
  .cons (ix_s_getr (j := 0) tu_X11 rfl (by decide) (by decide) tw_875 rfl ts_10_0_r dX11_darkFor_41) <|
  .cons (ix_s_iconst dX11_darkFor_44 (by decide +kernel)) <|
  .cons (ix_s_iload dX11_darkFor_45) <|
  .cons (ix_s_iast dX11_darkFor_47) <|
  .cons (ix_s_aload_n dX11_darkFor_48 rfl) <|
  .cons (ix_s_iload_n dX11_darkFor_49 rfl) <|
  .cons (oc_X11_hadBehind_s (ix_s_callv (t := 10) (k_X11_hadBehind l) (by decide) (by decide) tw_1250 tw_12 tw_1247 tw_1249 tp_52 ⟨by decide, by decide, by decide +kernel⟩ (by decide) rfl rfl (fun _ => ⟨_, _, rfl, rfl⟩) dX11_darkFor_50)) <|
  .cons (ix_s_iload_n dX11_darkFor_53 rfl) <|
  .cons (ix_s_cmp_lt dX11_darkFor_54 (by decide)) <|
  .cons (ix_s_iload dX11_darkFor_57) <|
  .cons (ix_s_goto dX11_darkFor_59 (by decide)) <|
  .cons (ix_s_iload dX11_darkFor_62) <|
  .cons (ix_s_istore dX11_darkFor_64 (by decide)) <|
  .cons (ix_s_iinc dX11_darkFor_66 (by decide +kernel) (by decide)) <|
  .cons (ix_s_goto dX11_darkFor_69 (by decide)) <|
  .cons (ix_s_aload_n dX11_darkFor_72 rfl) <|
  .cons (ix_s_getr (j := 0) tu_X11 rfl (by decide) (by decide) tw_875 rfl ts_10_0_r dX11_darkFor_73) <|
  .cons (ix_s_iconst dX11_darkFor_76 (by decide +kernel)) <|
  .cons (ix_s_iload_n dX11_darkFor_77 rfl) <|
  .cons (ix_s_iast dX11_darkFor_78) <|
  .cons (ix_s_iload dX11_darkFor_79) <|
  .cons (ix_s_if_ge dX11_darkFor_81 (by decide)) <|
  .cons (ix_s_aload_n dX11_darkFor_84 rfl) <|
  .cons (ix_s_ldcw tw_1238 dX11_darkFor_85) <|
  .cons (oc_X11_finding_s (ix_s_callv (t := 10) (k_X11_finding l) (by decide) (by decide) tw_965 tw_12 tw_962 tw_964 tp_18 ⟨by decide, by decide, by decide +kernel⟩ (by decide) rfl rfl (fun _ => ⟨_, _, rfl, rfl⟩) dX11_darkFor_88)) <|
  .cons (ix_s_goto dX11_darkFor_91 (by decide)) <|
  .cons (ix_s_iload dX11_darkFor_94) <|
  .cons (ix_s_iret dX11_darkFor_96 rfl) <| .nil
theorem e_X11_darkFor_0 (Q : ix_R → Prop) (ls : ix_L) (st : List ix_V) (μ : ix_M) : ix_Ev o_X11_darkFor Q (0, ls, st, μ) = ix_iload 1 1 (ix_Ev o_X11_darkFor Q) Q ls st μ := ix_Ev.eq (a_X11_darkFor launch0) rfl ls st μ
theorem e_X11_darkFor_1 (Q : ix_R → Prop) (ls : ix_L) (st : List ix_V) (μ : ix_M) : ix_Ev o_X11_darkFor Q (1, ls, st, μ) = oc_X11_isBehind 4 (ix_Ev o_X11_darkFor Q) Q ls st μ := ix_Ev.eq (a_X11_darkFor launch0) rfl ls st μ
theorem e_X11_darkFor_4 (Q : ix_R → Prop) (ls : ix_L) (st : List ix_V) (μ : ix_M) : ix_Ev o_X11_darkFor Q (4, ls, st, μ) = ix_if (fun x => x = 0) 14 7 (ix_Ev o_X11_darkFor Q) Q ls st μ := ix_Ev.eq (a_X11_darkFor launch0) rfl ls st μ
theorem e_X11_darkFor_7 (Q : ix_R → Prop) (ls : ix_L) (st : List ix_V) (μ : ix_M) : ix_Ev o_X11_darkFor Q (7, ls, st, μ) = ix_iload 2 8 (ix_Ev o_X11_darkFor Q) Q ls st μ := ix_Ev.eq (a_X11_darkFor launch0) rfl ls st μ
theorem e_X11_darkFor_8 (Q : ix_R → Prop) (ls : ix_L) (st : List ix_V) (μ : ix_M) : ix_Ev o_X11_darkFor Q (8, ls, st, μ) = oc_X11_isHad 11 (ix_Ev o_X11_darkFor Q) Q ls st μ := ix_Ev.eq (a_X11_darkFor launch0) rfl ls st μ
theorem e_X11_darkFor_11 (Q : ix_R → Prop) (ls : ix_L) (st : List ix_V) (μ : ix_M) : ix_Ev o_X11_darkFor Q (11, ls, st, μ) = ix_if (fun x => x = 0) 14 21 (ix_Ev o_X11_darkFor Q) Q ls st μ := ix_Ev.eq (a_X11_darkFor launch0) rfl ls st μ
theorem e_X11_darkFor_14 (Q : ix_R → Prop) (ls : ix_L) (st : List ix_V) (μ : ix_M) : ix_Ev o_X11_darkFor Q (14, ls, st, μ) = ix_aload 0 15 (ix_Ev o_X11_darkFor Q) Q ls st μ := ix_Ev.eq (a_X11_darkFor launch0) rfl ls st μ
theorem e_X11_darkFor_15 (Q : ix_R → Prop) (ls : ix_L) (st : List ix_V) (μ : ix_M) : ix_Ev o_X11_darkFor Q (15, ls, st, μ) = ix_push (vi (-1000000001)) 17 (ix_Ev o_X11_darkFor Q) Q ls st μ := ix_Ev.eq (a_X11_darkFor launch0) rfl ls st μ
theorem e_X11_darkFor_17 (Q : ix_R → Prop) (ls : ix_L) (st : List ix_V) (μ : ix_M) : ix_Ev o_X11_darkFor Q (17, ls, st, μ) = oc_X11_finding 20 (ix_Ev o_X11_darkFor Q) Q ls st μ := ix_Ev.eq (a_X11_darkFor launch0) rfl ls st μ
theorem e_X11_darkFor_20 (Q : ix_R → Prop) (ls : ix_L) (st : List ix_V) (μ : ix_M) : ix_Ev o_X11_darkFor Q (20, ls, st, μ) = ix_iret (ix_Ev o_X11_darkFor Q) Q ls st μ := ix_Ev.eq (a_X11_darkFor launch0) rfl ls st μ
theorem e_X11_darkFor_21 (Q : ix_R → Prop) (ls : ix_L) (st : List ix_V) (μ : ix_M) : ix_Ev o_X11_darkFor Q (21, ls, st, μ) = ix_aload 0 22 (ix_Ev o_X11_darkFor Q) Q ls st μ := ix_Ev.eq (a_X11_darkFor launch0) rfl ls st μ
theorem e_X11_darkFor_22 (Q : ix_R → Prop) (ls : ix_L) (st : List ix_V) (μ : ix_M) : ix_Ev o_X11_darkFor Q (22, ls, st, μ) = ix_getr 10 20 (fun _ => 113) 25 (ix_Ev o_X11_darkFor Q) Q ls st μ := ix_Ev.eq (a_X11_darkFor launch0) rfl ls st μ
theorem e_X11_darkFor_25 (Q : ix_R → Prop) (ls : ix_L) (st : List ix_V) (μ : ix_M) : ix_Ev o_X11_darkFor Q (25, ls, st, μ) = ix_push (vi 2) 26 (ix_Ev o_X11_darkFor Q) Q ls st μ := ix_Ev.eq (a_X11_darkFor launch0) rfl ls st μ
theorem e_X11_darkFor_26 (Q : ix_R → Prop) (ls : ix_L) (st : List ix_V) (μ : ix_M) : ix_Ev o_X11_darkFor Q (26, ls, st, μ) = ix_iald 27 (ix_Ev o_X11_darkFor Q) Q ls st μ := ix_Ev.eq (a_X11_darkFor launch0) rfl ls st μ
theorem e_X11_darkFor_27 (Q : ix_R → Prop) (ls : ix_L) (st : List ix_V) (μ : ix_M) : ix_Ev o_X11_darkFor Q (27, ls, st, μ) = ix_istore 3 28 (ix_Ev o_X11_darkFor Q) Q ls st μ := ix_Ev.eq (a_X11_darkFor launch0) rfl ls st μ
theorem e_X11_darkFor_28 (Q : ix_R → Prop) (ls : ix_L) (st : List ix_V) (μ : ix_M) : ix_Ev o_X11_darkFor Q (28, ls, st, μ) = ix_push (vi (-1)) 29 (ix_Ev o_X11_darkFor Q) Q ls st μ := ix_Ev.eq (a_X11_darkFor launch0) rfl ls st μ
theorem e_X11_darkFor_29 (Q : ix_R → Prop) (ls : ix_L) (st : List ix_V) (μ : ix_M) : ix_Ev o_X11_darkFor Q (29, ls, st, μ) = ix_istore 4 31 (ix_Ev o_X11_darkFor Q) Q ls st μ := ix_Ev.eq (a_X11_darkFor launch0) rfl ls st μ
theorem e_X11_darkFor_31 (Q : ix_R → Prop) (ls : ix_L) (st : List ix_V) (μ : ix_M) : ix_Ev o_X11_darkFor Q (31, ls, st, μ) = ix_push (vi 20) 33 (ix_Ev o_X11_darkFor Q) Q ls st μ := ix_Ev.eq (a_X11_darkFor launch0) rfl ls st μ
theorem e_X11_darkFor_33 (Q : ix_R → Prop) (ls : ix_L) (st : List ix_V) (μ : ix_M) : ix_Ev o_X11_darkFor Q (33, ls, st, μ) = ix_istore 5 35 (ix_Ev o_X11_darkFor Q) Q ls st μ := ix_Ev.eq (a_X11_darkFor launch0) rfl ls st μ
theorem e_X11_darkFor_35 (Q : ix_R → Prop) (ls : ix_L) (st : List ix_V) (μ : ix_M) : ix_Ev o_X11_darkFor Q (35, ls, st, μ) = ix_iload 5 37 (ix_Ev o_X11_darkFor Q) Q ls st μ := ix_Ev.eq (a_X11_darkFor launch0) rfl ls st μ
theorem e_X11_darkFor_37 (Q : ix_R → Prop) (ls : ix_L) (st : List ix_V) (μ : ix_M) : ix_Ev o_X11_darkFor Q (37, ls, st, μ) = ix_if (fun x => x ≤ 0) 72 40 (ix_Ev o_X11_darkFor Q) Q ls st μ := ix_Ev.eq (a_X11_darkFor launch0) rfl ls st μ
theorem e_X11_darkFor_40 (Q : ix_R → Prop) (ls : ix_L) (st : List ix_V) (μ : ix_M) : ix_Ev o_X11_darkFor Q (40, ls, st, μ) = ix_aload 0 41 (ix_Ev o_X11_darkFor Q) Q ls st μ := ix_Ev.eq (a_X11_darkFor launch0) rfl ls st μ
theorem e_X11_darkFor_41 (Q : ix_R → Prop) (ls : ix_L) (st : List ix_V) (μ : ix_M) : ix_Ev o_X11_darkFor Q (41, ls, st, μ) = ix_getr 10 20 (fun _ => 113) 44 (ix_Ev o_X11_darkFor Q) Q ls st μ := ix_Ev.eq (a_X11_darkFor launch0) rfl ls st μ
theorem e_X11_darkFor_44 (Q : ix_R → Prop) (ls : ix_L) (st : List ix_V) (μ : ix_M) : ix_Ev o_X11_darkFor Q (44, ls, st, μ) = ix_push (vi 2) 45 (ix_Ev o_X11_darkFor Q) Q ls st μ := ix_Ev.eq (a_X11_darkFor launch0) rfl ls st μ
theorem e_X11_darkFor_45 (Q : ix_R → Prop) (ls : ix_L) (st : List ix_V) (μ : ix_M) : ix_Ev o_X11_darkFor Q (45, ls, st, μ) = ix_iload 5 47 (ix_Ev o_X11_darkFor Q) Q ls st μ := ix_Ev.eq (a_X11_darkFor launch0) rfl ls st μ
theorem e_X11_darkFor_47 (Q : ix_R → Prop) (ls : ix_L) (st : List ix_V) (μ : ix_M) : ix_Ev o_X11_darkFor Q (47, ls, st, μ) = ix_iast 48 (ix_Ev o_X11_darkFor Q) Q ls st μ := ix_Ev.eq (a_X11_darkFor launch0) rfl ls st μ
theorem e_X11_darkFor_48 (Q : ix_R → Prop) (ls : ix_L) (st : List ix_V) (μ : ix_M) : ix_Ev o_X11_darkFor Q (48, ls, st, μ) = ix_aload 0 49 (ix_Ev o_X11_darkFor Q) Q ls st μ := ix_Ev.eq (a_X11_darkFor launch0) rfl ls st μ
theorem e_X11_darkFor_49 (Q : ix_R → Prop) (ls : ix_L) (st : List ix_V) (μ : ix_M) : ix_Ev o_X11_darkFor Q (49, ls, st, μ) = ix_iload 1 50 (ix_Ev o_X11_darkFor Q) Q ls st μ := ix_Ev.eq (a_X11_darkFor launch0) rfl ls st μ
theorem e_X11_darkFor_50 (Q : ix_R → Prop) (ls : ix_L) (st : List ix_V) (μ : ix_M) : ix_Ev o_X11_darkFor Q (50, ls, st, μ) = oc_X11_hadBehind 53 (ix_Ev o_X11_darkFor Q) Q ls st μ := ix_Ev.eq (a_X11_darkFor launch0) rfl ls st μ
theorem e_X11_darkFor_53 (Q : ix_R → Prop) (ls : ix_L) (st : List ix_V) (μ : ix_M) : ix_Ev o_X11_darkFor Q (53, ls, st, μ) = ix_iload 2 54 (ix_Ev o_X11_darkFor Q) Q ls st μ := ix_Ev.eq (a_X11_darkFor launch0) rfl ls st μ
theorem e_X11_darkFor_54 (Q : ix_R → Prop) (ls : ix_L) (st : List ix_V) (μ : ix_M) : ix_Ev o_X11_darkFor Q (54, ls, st, μ) = ix_cmp (fun x y => x < y) 62 57 (ix_Ev o_X11_darkFor Q) Q ls st μ := ix_Ev.eq (a_X11_darkFor launch0) rfl ls st μ
theorem e_X11_darkFor_57 (Q : ix_R → Prop) (ls : ix_L) (st : List ix_V) (μ : ix_M) : ix_Ev o_X11_darkFor Q (57, ls, st, μ) = ix_iload 5 59 (ix_Ev o_X11_darkFor Q) Q ls st μ := ix_Ev.eq (a_X11_darkFor launch0) rfl ls st μ
theorem e_X11_darkFor_59 (Q : ix_R → Prop) (ls : ix_L) (st : List ix_V) (μ : ix_M) : ix_Ev o_X11_darkFor Q (59, ls, st, μ) = ix_goto 64 (ix_Ev o_X11_darkFor Q) Q ls st μ := ix_Ev.eq (a_X11_darkFor launch0) rfl ls st μ
theorem e_X11_darkFor_62 (Q : ix_R → Prop) (ls : ix_L) (st : List ix_V) (μ : ix_M) : ix_Ev o_X11_darkFor Q (62, ls, st, μ) = ix_iload 4 64 (ix_Ev o_X11_darkFor Q) Q ls st μ := ix_Ev.eq (a_X11_darkFor launch0) rfl ls st μ
theorem e_X11_darkFor_64 (Q : ix_R → Prop) (ls : ix_L) (st : List ix_V) (μ : ix_M) : ix_Ev o_X11_darkFor Q (64, ls, st, μ) = ix_istore 4 66 (ix_Ev o_X11_darkFor Q) Q ls st μ := ix_Ev.eq (a_X11_darkFor launch0) rfl ls st μ
theorem e_X11_darkFor_66 (Q : ix_R → Prop) (ls : ix_L) (st : List ix_V) (μ : ix_M) : ix_Ev o_X11_darkFor Q (66, ls, st, μ) = ix_iinc 5 (-1) 69 (ix_Ev o_X11_darkFor Q) Q ls st μ := ix_Ev.eq (a_X11_darkFor launch0) rfl ls st μ
theorem e_X11_darkFor_69 (Q : ix_R → Prop) (ls : ix_L) (st : List ix_V) (μ : ix_M) : ix_Ev o_X11_darkFor Q (69, ls, st, μ) = ix_goto 35 (ix_Ev o_X11_darkFor Q) Q ls st μ := ix_Ev.eq (a_X11_darkFor launch0) rfl ls st μ
theorem e_X11_darkFor_72 (Q : ix_R → Prop) (ls : ix_L) (st : List ix_V) (μ : ix_M) : ix_Ev o_X11_darkFor Q (72, ls, st, μ) = ix_aload 0 73 (ix_Ev o_X11_darkFor Q) Q ls st μ := ix_Ev.eq (a_X11_darkFor launch0) rfl ls st μ
theorem e_X11_darkFor_73 (Q : ix_R → Prop) (ls : ix_L) (st : List ix_V) (μ : ix_M) : ix_Ev o_X11_darkFor Q (73, ls, st, μ) = ix_getr 10 20 (fun _ => 113) 76 (ix_Ev o_X11_darkFor Q) Q ls st μ := ix_Ev.eq (a_X11_darkFor launch0) rfl ls st μ
theorem e_X11_darkFor_76 (Q : ix_R → Prop) (ls : ix_L) (st : List ix_V) (μ : ix_M) : ix_Ev o_X11_darkFor Q (76, ls, st, μ) = ix_push (vi 2) 77 (ix_Ev o_X11_darkFor Q) Q ls st μ := ix_Ev.eq (a_X11_darkFor launch0) rfl ls st μ
theorem e_X11_darkFor_77 (Q : ix_R → Prop) (ls : ix_L) (st : List ix_V) (μ : ix_M) : ix_Ev o_X11_darkFor Q (77, ls, st, μ) = ix_iload 3 78 (ix_Ev o_X11_darkFor Q) Q ls st μ := ix_Ev.eq (a_X11_darkFor launch0) rfl ls st μ
theorem e_X11_darkFor_78 (Q : ix_R → Prop) (ls : ix_L) (st : List ix_V) (μ : ix_M) : ix_Ev o_X11_darkFor Q (78, ls, st, μ) = ix_iast 79 (ix_Ev o_X11_darkFor Q) Q ls st μ := ix_Ev.eq (a_X11_darkFor launch0) rfl ls st μ
theorem e_X11_darkFor_79 (Q : ix_R → Prop) (ls : ix_L) (st : List ix_V) (μ : ix_M) : ix_Ev o_X11_darkFor Q (79, ls, st, μ) = ix_iload 4 81 (ix_Ev o_X11_darkFor Q) Q ls st μ := ix_Ev.eq (a_X11_darkFor launch0) rfl ls st μ
theorem e_X11_darkFor_81 (Q : ix_R → Prop) (ls : ix_L) (st : List ix_V) (μ : ix_M) : ix_Ev o_X11_darkFor Q (81, ls, st, μ) = ix_if (fun x => 0 ≤ x) 94 84 (ix_Ev o_X11_darkFor Q) Q ls st μ := ix_Ev.eq (a_X11_darkFor launch0) rfl ls st μ
theorem e_X11_darkFor_84 (Q : ix_R → Prop) (ls : ix_L) (st : List ix_V) (μ : ix_M) : ix_Ev o_X11_darkFor Q (84, ls, st, μ) = ix_aload 0 85 (ix_Ev o_X11_darkFor Q) Q ls st μ := ix_Ev.eq (a_X11_darkFor launch0) rfl ls st μ
theorem e_X11_darkFor_85 (Q : ix_R → Prop) (ls : ix_L) (st : List ix_V) (μ : ix_M) : ix_Ev o_X11_darkFor Q (85, ls, st, μ) = ix_push (vi (-1000000002)) 88 (ix_Ev o_X11_darkFor Q) Q ls st μ := ix_Ev.eq (a_X11_darkFor launch0) rfl ls st μ
theorem e_X11_darkFor_88 (Q : ix_R → Prop) (ls : ix_L) (st : List ix_V) (μ : ix_M) : ix_Ev o_X11_darkFor Q (88, ls, st, μ) = oc_X11_finding 91 (ix_Ev o_X11_darkFor Q) Q ls st μ := ix_Ev.eq (a_X11_darkFor launch0) rfl ls st μ
theorem e_X11_darkFor_91 (Q : ix_R → Prop) (ls : ix_L) (st : List ix_V) (μ : ix_M) : ix_Ev o_X11_darkFor Q (91, ls, st, μ) = ix_goto 96 (ix_Ev o_X11_darkFor Q) Q ls st μ := ix_Ev.eq (a_X11_darkFor launch0) rfl ls st μ
theorem e_X11_darkFor_94 (Q : ix_R → Prop) (ls : ix_L) (st : List ix_V) (μ : ix_M) : ix_Ev o_X11_darkFor Q (94, ls, st, μ) = ix_iload 4 96 (ix_Ev o_X11_darkFor Q) Q ls st μ := ix_Ev.eq (a_X11_darkFor launch0) rfl ls st μ
theorem e_X11_darkFor_96 (Q : ix_R → Prop) (ls : ix_L) (st : List ix_V) (μ : ix_M) : ix_Ev o_X11_darkFor Q (96, ls, st, μ) = ix_iret (ix_Ev o_X11_darkFor Q) Q ls st μ := ix_Ev.eq (a_X11_darkFor launch0) rfl ls st μ
theorem wr_dk {v : WV} {M : Nat} (h : WR v M) (d : Nat) : WR (setV 0 9 (nI d) v) M := wr_set h (by unfold wrB; omega)
theorem l_X10_darkFor {M N : Nat} {v : Int32} {ds dl : List Int32} {μ0 : ix_M} {Q : ix_R → Prop} {f : Nat → Int32} (hf : f = fun d => pH (pIt ds dl N (setV 0 9 (nI d) (wv μ0 2)))) (hR : WR (wv μ0 2) M) (hM : M ≤ 9999) (hN : N ≤ 60) (hL : LW μ0 ds dl) (h1 : ∀ m, 1 ≤ m → m ≤ 20 → ¬ f m < v → (∀ j, 1 ≤ j → j < m → f j < v) → ∀ μ', Fx wT μ0 μ' → Q (some (vi (nI m)), μ')) (h2 : (∀ j, 1 ≤ j → j ≤ 20 → f j < v) → ∀ μ', Fx wT μ0 μ' → Q (some (vi (-1000000002)), ix_up μ' 111 2 (μ' 111 2 + 1))) : ∀ (k n : Nat) (μ : ix_M), n + k = 21 → 1 ≤ n → Fx wT μ0 μ → (∀ j, 1 ≤ j → j < n → f j < v) → ix_Ev o_X10_darkFor Q (27, [some (vr 9 0), some (vi (nI N)), some (vi v), some (vi (nI n))], [], μ) := by
  intro k
  induction k with
  | zero =>
    intro n μ hn _ hF hj
    have hn : n = 21 := hn
    subst hn
    have c1 : 20 < nI 21 := by decide
    rw [e_X10_darkFor_27]
    simp (decide := true) only [e_X10_darkFor_0, e_X10_darkFor_1, e_X10_darkFor_3, e_X10_darkFor_6, e_X10_darkFor_9, e_X10_darkFor_10, e_X10_darkFor_13, e_X10_darkFor_16, e_X10_darkFor_19, e_X10_darkFor_20, e_X10_darkFor_21, e_X10_darkFor_24, e_X10_darkFor_25, e_X10_darkFor_26, e_X10_darkFor_28, e_X10_darkFor_30, e_X10_darkFor_33, e_X10_darkFor_34, e_X10_darkFor_35, e_X10_darkFor_36, e_X10_darkFor_37, e_X10_darkFor_38, e_X10_darkFor_41, e_X10_darkFor_42, e_X10_darkFor_45, e_X10_darkFor_46, e_X10_darkFor_49, e_X10_darkFor_50, e_X10_darkFor_51, e_X10_darkFor_54, e_X10_darkFor_57, e_X10_darkFor_58, e_X10_darkFor_59, e_X10_darkFor_62, vi, vl, vr, oc_X10_error, T_X10_error, oc_X10_hadBehind, T_X10_hadBehind, oc_X10_outside, T_X10_outside, oc_X10_suppose, T_X10_suppose, ix_push, ix_iload, ix_lload, ix_aload, ix_istore, ix_astore, ix_iinc, ix_bin, ix_div, ix_un, ix_i2l, ix_l2i, ix_lbin, ix_lsh, ix_lcmp, ix_dup, ix_dup2, ix_pop, ix_if, ix_cmp, ix_goto, ix_switch, ix_sw, ix_iret, ix_zret, ix_vret, ix_aret, ix_geti, ix_getr, ix_puti, ix_putz, ix_puts, ix_gets, ix_iald, ix_iast, ix_alen, ix_aald, ix_gval, ix_gcod, ix_bald, ix_blen, ix_sald, ix_nret, ix_math2, ix_math1, ix_acopy, Nat.add_assoc, Int32.reduceLT, Int32.reduceLE, Int32.reduceToNatClampNeg, Int32.reduceSub, Int32.reduceAdd, Nat.reduceAdd, Nat.reduceLeDiff, true_or, or_true, or_false, false_or, not_false_eq_true, not_true_eq_false, false_implies, true_implies, implies_true, and_self, mB_0, mB_01, Classical.not_not, Nat.zero_le, List.getElem?_cons_zero, List.getElem?_cons_succ, List.set_cons_zero, List.set_cons_succ, ix_nl, ix_cs, true_and, and_true, Option.toList_some, Option.toList_none, List.cons_append, List.nil_append, c1]
    exact h2 (fun j h1 hj' => hj j h1 (by omega)) μ hF
  | succ k ih =>
    intro n μ hn h0 hF hj
    have c1 : ¬ 20 < nI n := nI_nlt (a := 20) (b := n) (by omega) (by decide)
    have n1 : nI n + 1 = nI (n + 1) := nI_1 n
    rw [e_X10_darkFor_27]
    simp (decide := true) only [e_X10_darkFor_0, e_X10_darkFor_1, e_X10_darkFor_3, e_X10_darkFor_6, e_X10_darkFor_9, e_X10_darkFor_10, e_X10_darkFor_13, e_X10_darkFor_16, e_X10_darkFor_19, e_X10_darkFor_20, e_X10_darkFor_21, e_X10_darkFor_24, e_X10_darkFor_25, e_X10_darkFor_26, e_X10_darkFor_28, e_X10_darkFor_30, e_X10_darkFor_33, e_X10_darkFor_34, e_X10_darkFor_35, e_X10_darkFor_36, e_X10_darkFor_37, e_X10_darkFor_38, e_X10_darkFor_41, e_X10_darkFor_42, e_X10_darkFor_45, e_X10_darkFor_46, e_X10_darkFor_49, e_X10_darkFor_50, e_X10_darkFor_51, e_X10_darkFor_54, e_X10_darkFor_57, e_X10_darkFor_58, e_X10_darkFor_59, e_X10_darkFor_62, vi, vl, vr, oc_X10_error, T_X10_error, oc_X10_hadBehind, T_X10_hadBehind, oc_X10_outside, T_X10_outside, oc_X10_suppose, T_X10_suppose, ix_push, ix_iload, ix_lload, ix_aload, ix_istore, ix_astore, ix_iinc, ix_bin, ix_div, ix_un, ix_i2l, ix_l2i, ix_lbin, ix_lsh, ix_lcmp, ix_dup, ix_dup2, ix_pop, ix_if, ix_cmp, ix_goto, ix_switch, ix_sw, ix_iret, ix_zret, ix_vret, ix_aret, ix_geti, ix_getr, ix_puti, ix_putz, ix_puts, ix_gets, ix_iald, ix_iast, ix_alen, ix_aald, ix_gval, ix_gcod, ix_bald, ix_blen, ix_sald, ix_nret, ix_math2, ix_math1, ix_acopy, Nat.add_assoc, Int32.reduceLT, Int32.reduceLE, Int32.reduceToNatClampNeg, Int32.reduceSub, Int32.reduceAdd, Nat.reduceAdd, Nat.reduceLeDiff, true_or, or_true, or_false, false_or, not_false_eq_true, not_true_eq_false, false_implies, true_implies, implies_true, and_self, mB_0, mB_01, Classical.not_not, Nat.zero_le, List.getElem?_cons_zero, List.getElem?_cons_succ, List.set_cons_zero, List.set_cons_succ, ix_nl, ix_cs, true_and, and_true, Option.toList_some, Option.toList_none, List.cons_append, List.nil_append, c1, n1]
    refine ⟨⟨fun z => absurd z (by decide), fun z => absurd z (by decide), fun z => absurd z (by decide), fun z => absurd z (by decide)⟩, fun μ1 F1 V1 => ?_⟩
    have F01 : Fx wT μ0 μ1 := hF.tr (F1.mono (by decide))
    have e2 : wv μ 2 = wv μ0 2 := wv_fx (fun r hr => hF _ (by simp [wT]; omega))
    have hV : wv μ1 48 = setV 0 9 (nI n) (wv μ0 2) := by rw [V1, e2]; rfl
    have ef : pH (pIt ds dl N (wv μ1 48)) = f n := by rw [hV, hf]
    refine ⟨M, N, ds, dl, by rw [hV]; exact (wr_dk hR n).1, rfl, by omega, hL.fx F01 (by decide), fun μ2 F2 V2 => ?_⟩
    rw [ef]
    have F02 : Fx wT μ0 μ2 := F01.tr (F2.mono (by decide))
    refine ⟨fun z => ih (n + 1) μ2 (by omega) (by omega) F02 (fun j h1 hj' => ?_), fun z => h1 n h0 (by omega) z hj μ2 F02⟩
    by_cases c : j = n
    · rw [c]
      exact z
    · exact hj j h1 (by omega)
theorem l_X11_darkFor {M N : Nat} {v w : Int32} {ds dl : List Int32} {μ0 : ix_M} {Q : ix_R → Prop} {f : Nat → Int32} (hf : f = fun d => pH (pIt ds dl N (setV 0 9 (nI d) (nv (μ0 113))))) (hW : MW μ0 M ds dl) (hM : M ≤ 9999) (hN : N ≤ 60) (hl : μ0 112 5 = -1) (hw : μ0 113 2 = w) (P : Nat → Int32 → Prop) (hP : ∀ d x, 1 ≤ d → P d x → P (d - 1) (if f d < v then x else nI d)) (hQ : ∀ x μ', P 0 x → Fx [113, 115, 119, 120] μ0 μ' → RE (μ' 113) (μ0 113) → (x < 0 → Q (some (vi (-1000000002)), ix_up μ' 116 2 (μ' 116 2 + 1))) ∧ (¬ x < 0 → Q (some (vi x), μ'))) : ∀ (d : Nat) (x : Int32) (μ : ix_M), d ≤ 20 → P d x → Fx [113, 115, 119, 120] μ0 μ → (∀ j, j < 256 → j ≠ 2 → μ 113 j = μ0 113 j) → ix_Ev o_X11_darkFor Q (35, [some (vr 10 112), some (vi (nI N)), some (vi v), some (vi w), some (vi x), some (vi (nI d))], [], μ) := by
  intro d
  induction d with
  | zero =>
    intro x μ _ hPx hF hr
    have c1 : nI 0 ≤ 0 := by decide
    rw [e_X11_darkFor_35]
    simp (decide := true) only [e_X11_darkFor_0, e_X11_darkFor_1, e_X11_darkFor_4, e_X11_darkFor_7, e_X11_darkFor_8, e_X11_darkFor_11, e_X11_darkFor_14, e_X11_darkFor_15, e_X11_darkFor_17, e_X11_darkFor_20, e_X11_darkFor_21, e_X11_darkFor_22, e_X11_darkFor_25, e_X11_darkFor_26, e_X11_darkFor_27, e_X11_darkFor_28, e_X11_darkFor_29, e_X11_darkFor_31, e_X11_darkFor_33, e_X11_darkFor_37, e_X11_darkFor_40, e_X11_darkFor_41, e_X11_darkFor_44, e_X11_darkFor_45, e_X11_darkFor_47, e_X11_darkFor_48, e_X11_darkFor_49, e_X11_darkFor_50, e_X11_darkFor_53, e_X11_darkFor_54, e_X11_darkFor_57, e_X11_darkFor_59, e_X11_darkFor_62, e_X11_darkFor_64, e_X11_darkFor_66, e_X11_darkFor_69, e_X11_darkFor_72, e_X11_darkFor_73, e_X11_darkFor_76, e_X11_darkFor_77, e_X11_darkFor_78, e_X11_darkFor_79, e_X11_darkFor_81, e_X11_darkFor_84, e_X11_darkFor_85, e_X11_darkFor_88, e_X11_darkFor_91, e_X11_darkFor_94, e_X11_darkFor_96, vi, vl, vr, oc_X11_finding, T_X11_finding, oc_X11_hadBehind, T_X11_hadBehind, oc_X11_isBehind, T_X11_isBehind, oc_X11_isHad, T_X11_isHad, ix_push, ix_iload, ix_lload, ix_aload, ix_istore, ix_astore, ix_iinc, ix_bin, ix_div, ix_un, ix_i2l, ix_l2i, ix_lbin, ix_lsh, ix_lcmp, ix_dup, ix_dup2, ix_pop, ix_if, ix_cmp, ix_goto, ix_switch, ix_sw, ix_iret, ix_zret, ix_vret, ix_aret, ix_geti, ix_getr, ix_puti, ix_putz, ix_puts, ix_gets, ix_iald, ix_iast, ix_alen, ix_aald, ix_gval, ix_gcod, ix_bald, ix_blen, ix_sald, ix_nret, ix_math2, ix_math1, ix_acopy, ml_113, ml_114, ml_115, ml_116, ml_118, ml_119, ml_120, ml_121, ml_122, ml_123, ml_124, ml_125, ml_126, mv_0, mv_1, mv_2, mv_3, mv_4, mv_5, mB_or, Nat.add_assoc, Int32.reduceLT, Int32.reduceLE, Int32.reduceToNatClampNeg, Int32.reduceSub, Int32.reduceAdd, Nat.reduceAdd, Nat.reduceLeDiff, true_or, or_true, or_false, false_or, not_false_eq_true, not_true_eq_false, false_implies, true_implies, implies_true, and_self, mB_0, mB_01, Classical.not_not, Nat.zero_le, List.getElem?_cons_zero, List.getElem?_cons_succ, List.set_cons_zero, List.set_cons_succ, ix_nl, ix_cs, true_and, and_true, Option.toList_some, Option.toList_none, List.cons_append, List.nil_append, c1, ve_2]
    have F2 : Fx [113, 115, 119, 120] μ0 (ix_up μ 113 2 w) := hF.up (by simp)
    have R2 : RE (ix_up μ 113 2 w 113) (μ0 113) := fun j hj => by
      rw [ix_up_ap]
      by_cases c : j = 2
      · rw [if_pos ⟨rfl, c⟩, c, hw]
      · rw [if_neg (fun z => c z.2)]
        exact hr j hj c
    have q := hQ x _ hPx F2 R2
    exact ⟨fun z => q.2 (Int32.not_lt.mpr z), fun z => q.1 (Int32.not_le.mp z)⟩
  | succ d ih =>
    intro x μ hd hPx hF hr
    have c1 : ¬ nI (d + 1) ≤ 0 := nI_nle (by omega) (by omega)
    have n1 : nI (d + 1) + -1 = nI d := nI_dn d
    rw [e_X11_darkFor_35]
    simp (decide := true) only [e_X11_darkFor_0, e_X11_darkFor_1, e_X11_darkFor_4, e_X11_darkFor_7, e_X11_darkFor_8, e_X11_darkFor_11, e_X11_darkFor_14, e_X11_darkFor_15, e_X11_darkFor_17, e_X11_darkFor_20, e_X11_darkFor_21, e_X11_darkFor_22, e_X11_darkFor_25, e_X11_darkFor_26, e_X11_darkFor_27, e_X11_darkFor_28, e_X11_darkFor_29, e_X11_darkFor_31, e_X11_darkFor_33, e_X11_darkFor_37, e_X11_darkFor_40, e_X11_darkFor_41, e_X11_darkFor_44, e_X11_darkFor_45, e_X11_darkFor_47, e_X11_darkFor_48, e_X11_darkFor_49, e_X11_darkFor_50, e_X11_darkFor_53, e_X11_darkFor_54, e_X11_darkFor_57, e_X11_darkFor_59, e_X11_darkFor_62, e_X11_darkFor_64, e_X11_darkFor_66, e_X11_darkFor_69, e_X11_darkFor_72, e_X11_darkFor_73, e_X11_darkFor_76, e_X11_darkFor_77, e_X11_darkFor_78, e_X11_darkFor_79, e_X11_darkFor_81, e_X11_darkFor_84, e_X11_darkFor_85, e_X11_darkFor_88, e_X11_darkFor_91, e_X11_darkFor_94, e_X11_darkFor_96, vi, vl, vr, oc_X11_finding, T_X11_finding, oc_X11_hadBehind, T_X11_hadBehind, oc_X11_isBehind, T_X11_isBehind, oc_X11_isHad, T_X11_isHad, ix_push, ix_iload, ix_lload, ix_aload, ix_istore, ix_astore, ix_iinc, ix_bin, ix_div, ix_un, ix_i2l, ix_l2i, ix_lbin, ix_lsh, ix_lcmp, ix_dup, ix_dup2, ix_pop, ix_if, ix_cmp, ix_goto, ix_switch, ix_sw, ix_iret, ix_zret, ix_vret, ix_aret, ix_geti, ix_getr, ix_puti, ix_putz, ix_puts, ix_gets, ix_iald, ix_iast, ix_alen, ix_aald, ix_gval, ix_gcod, ix_bald, ix_blen, ix_sald, ix_nret, ix_math2, ix_math1, ix_acopy, ml_113, ml_114, ml_115, ml_116, ml_118, ml_119, ml_120, ml_121, ml_122, ml_123, ml_124, ml_125, ml_126, mv_0, mv_1, mv_2, mv_3, mv_4, mv_5, mB_or, Nat.add_assoc, Int32.reduceLT, Int32.reduceLE, Int32.reduceToNatClampNeg, Int32.reduceSub, Int32.reduceAdd, Nat.reduceAdd, Nat.reduceLeDiff, true_or, or_true, or_false, false_or, not_false_eq_true, not_true_eq_false, false_implies, true_implies, implies_true, and_self, mB_0, mB_01, Classical.not_not, Nat.zero_le, List.getElem?_cons_zero, List.getElem?_cons_succ, List.set_cons_zero, List.set_cons_succ, ix_nl, ix_cs, true_and, and_true, Option.toList_some, Option.toList_none, List.cons_append, List.nil_append, c1, n1]
    have R1 : RE (ix_up μ 113 2 (nI (d + 1)) 113) (upd (μ0 113) (nvI 0 9) (nI (d + 1))) := fun j hj => by
      rw [ix_up_ap]
      by_cases c : j = 2
      · rw [if_pos ⟨rfl, c⟩, c]
        exact upd_eq.symm
      · rw [if_neg (fun z => c z.2), upd_ne (show j ≠ nvI 0 9 from c)]
        exact hr j hj c
    obtain ⟨w1, w2⟩ := setOk.mw (C := 21) hW ⟨rfl, Or.inr (Or.inr (Or.inr (Or.inr ⟨rfl, rfl⟩)))⟩ (show d + 1 < 21 by omega) R1
    have ef : pH (pIt ds dl N (nv (ix_up μ 113 2 (nI (d + 1)) 113))) = f (d + 1) := by rw [w2, hf]
    have F1 : Fx [113, 115, 119, 120] μ0 (ix_up μ 113 2 (nI (d + 1))) := hF.up (by simp)
    have hPd := hP (d + 1) x (by omega) hPx
    rw [show d + 1 - 1 = d by omega] at hPd
    refine ⟨M, N, ds, dl, w1, rfl, by omega, by rw [F1 112 (by decide)]; exact hl, fun μ2 F2 R2 => ?_⟩
    have hr2 : ∀ j, j < 256 → j ≠ 2 → μ2 113 j = μ0 113 j := fun j hj c => by
      rw [R2 j hj, ix_up_ap, if_neg (fun z => c z.2)]
      exact hr j hj c
    rw [ef]
    refine ⟨fun z => ?_, fun z => ?_⟩
    · rw [if_pos z] at hPd
      exact ih x μ2 (by omega) hPd (F1.tr F2) hr2
    · rw [if_neg z] at hPd
      exact ih _ μ2 (by omega) hPd (F1.tr F2) hr2
theorem pr_darkFor (n : Int32) (v : Int32) (μ : ix_M) (I : Inv μ) (Q : ix_R → Prop) (hQ : ∀ vv μ', ix_Ev o_X11_darkFor (Pst vv) (0, [some (vr 10 112), some (vi n), some (vi v), none, none, none], [], μ') → Q (some (vi vv), μ')) : ix_Ev o_X10_darkFor Q (0, [some (vr 9 0), some (vi n), some (vi v), none], [], μ) := by
  rcases inR n 60 (by decide) with ⟨K, hK, rfl⟩ | ⟨hx1, hx2⟩
  · obtain ⟨K1, K2, K3, K4⟩ : ¬ nI K < 0 ∧ ¬ (60 : Int32) < nI K ∧ 0 ≤ nI K ∧ nI K ≤ (60 : Int32) := rgN hK (by decide)
    have Kc : (nI K).toNatClampNeg = K := nI_clamp (by omega)
    rcases inR v 792 (by decide) with ⟨V, hV, rfl⟩ | ⟨hx1, hx2⟩
    · obtain ⟨V1, V2, V3, V4⟩ : ¬ nI V < 0 ∧ ¬ (792 : Int32) < nI V ∧ 0 ≤ nI V ∧ nI V ≤ (792 : Int32) := rgN hV (by decide)
      have Vc : (nI V).toNatClampNeg = V := nI_clamp (by omega)
      obtain ⟨M, hM, hR, m1, m2⟩ := I.mi
      obtain ⟨ds, dl, hL, x1, x2⟩ := I.tx
      generalize hf : (fun d => pH (pIt ds dl K (setV 0 9 (nI d) (nv (μ 113))))) = f
      have hm : ∀ (P : Nat → Int32 → Prop) (_ : ∀ d x, 1 ≤ d → P d x → P (d - 1) (if f d < nI V then x else nI d)) (_ : P 20 (-1)) (μq : ix_M) (Q' : ix_R → Prop), μq 113 = μ 113 → μq 112 5 = -1 → (∀ x μ', P 0 x → Fx [113, 115, 119, 120] μq μ' → RE (μ' 113) (μq 113) → (x < 0 → Q' (some (vi (-1000000002)), ix_up μ' 116 2 (μ' 116 2 + 1))) ∧ (¬ x < 0 → Q' (some (vi x), μ'))) → ix_Ev o_X11_darkFor Q' (0, [some (vr 10 112), some (vi (nI K)), some (vi (nI V)), none, none, none], [], μq) := by
        intro P hP h20 μq Q' e e5 hq
        simp (decide := true) only [e_X11_darkFor_0, e_X11_darkFor_1, e_X11_darkFor_4, e_X11_darkFor_7, e_X11_darkFor_8, e_X11_darkFor_11, e_X11_darkFor_14, e_X11_darkFor_15, e_X11_darkFor_17, e_X11_darkFor_20, e_X11_darkFor_21, e_X11_darkFor_22, e_X11_darkFor_25, e_X11_darkFor_26, e_X11_darkFor_27, e_X11_darkFor_28, e_X11_darkFor_29, e_X11_darkFor_31, e_X11_darkFor_33, e_X11_darkFor_37, e_X11_darkFor_40, e_X11_darkFor_41, e_X11_darkFor_44, e_X11_darkFor_45, e_X11_darkFor_47, e_X11_darkFor_48, e_X11_darkFor_49, e_X11_darkFor_50, e_X11_darkFor_53, e_X11_darkFor_54, e_X11_darkFor_57, e_X11_darkFor_59, e_X11_darkFor_62, e_X11_darkFor_64, e_X11_darkFor_66, e_X11_darkFor_69, e_X11_darkFor_72, e_X11_darkFor_73, e_X11_darkFor_76, e_X11_darkFor_77, e_X11_darkFor_78, e_X11_darkFor_79, e_X11_darkFor_81, e_X11_darkFor_84, e_X11_darkFor_85, e_X11_darkFor_88, e_X11_darkFor_91, e_X11_darkFor_94, e_X11_darkFor_96, vi, vl, vr, oc_X11_finding, T_X11_finding, oc_X11_hadBehind, T_X11_hadBehind, oc_X11_isBehind, T_X11_isBehind, oc_X11_isHad, T_X11_isHad, ix_push, ix_iload, ix_lload, ix_aload, ix_istore, ix_astore, ix_iinc, ix_bin, ix_div, ix_un, ix_i2l, ix_l2i, ix_lbin, ix_lsh, ix_lcmp, ix_dup, ix_dup2, ix_pop, ix_if, ix_cmp, ix_goto, ix_switch, ix_sw, ix_iret, ix_zret, ix_vret, ix_aret, ix_geti, ix_getr, ix_puti, ix_putz, ix_puts, ix_gets, ix_iald, ix_iast, ix_alen, ix_aald, ix_gval, ix_gcod, ix_bald, ix_blen, ix_sald, ix_nret, ix_math2, ix_math1, ix_acopy, ml_113, ml_114, ml_115, ml_116, ml_118, ml_119, ml_120, ml_121, ml_122, ml_123, ml_124, ml_125, ml_126, mv_0, mv_1, mv_2, mv_3, mv_4, mv_5, mB_or, Nat.add_assoc, Int32.reduceLT, Int32.reduceLE, Int32.reduceToNatClampNeg, Int32.reduceSub, Int32.reduceAdd, Nat.reduceAdd, Nat.reduceLeDiff, true_or, or_true, or_false, false_or, not_false_eq_true, not_true_eq_false, false_implies, true_implies, implies_true, and_self, mB_0, mB_01, Classical.not_not, Nat.zero_le, List.getElem?_cons_zero, List.getElem?_cons_succ, List.set_cons_zero, List.set_cons_succ, ix_nl, ix_cs, true_and, and_true, Option.toList_some, Option.toList_none, List.cons_append, List.nil_append, K1, K2, K3, K4, Kc, V1, V2, V3, V4, Vc, ix_up_ne, ix_up_k, ve_1, ve_2, ve_3, ve_4, ve_5]
        exact l_X11_darkFor (M := M) (f := f) (by rw [e]; exact hf.symm) (mwOf (by rw [e]; exact hR) (by rw [e]; exact x1) (by rw [e]; exact x2)) hM hK e5 rfl P hP hq 20 (-1) μq (by decide) h20 Fx.rf (fun _ _ _ => rfl)
      simp (decide := true) only [e_X10_darkFor_0, e_X10_darkFor_1, e_X10_darkFor_3, e_X10_darkFor_6, e_X10_darkFor_9, e_X10_darkFor_10, e_X10_darkFor_13, e_X10_darkFor_16, e_X10_darkFor_19, e_X10_darkFor_20, e_X10_darkFor_21, e_X10_darkFor_24, e_X10_darkFor_25, e_X10_darkFor_26, e_X10_darkFor_28, e_X10_darkFor_30, e_X10_darkFor_33, e_X10_darkFor_34, e_X10_darkFor_35, e_X10_darkFor_36, e_X10_darkFor_37, e_X10_darkFor_38, e_X10_darkFor_41, e_X10_darkFor_42, e_X10_darkFor_45, e_X10_darkFor_46, e_X10_darkFor_49, e_X10_darkFor_50, e_X10_darkFor_51, e_X10_darkFor_54, e_X10_darkFor_57, e_X10_darkFor_58, e_X10_darkFor_59, e_X10_darkFor_62, vi, vl, vr, oc_X10_error, T_X10_error, oc_X10_hadBehind, T_X10_hadBehind, oc_X10_outside, T_X10_outside, oc_X10_suppose, T_X10_suppose, ix_push, ix_iload, ix_lload, ix_aload, ix_istore, ix_astore, ix_iinc, ix_bin, ix_div, ix_un, ix_i2l, ix_l2i, ix_lbin, ix_lsh, ix_lcmp, ix_dup, ix_dup2, ix_pop, ix_if, ix_cmp, ix_goto, ix_switch, ix_sw, ix_iret, ix_zret, ix_vret, ix_aret, ix_geti, ix_getr, ix_puti, ix_putz, ix_puts, ix_gets, ix_iald, ix_iast, ix_alen, ix_aald, ix_gval, ix_gcod, ix_bald, ix_blen, ix_sald, ix_nret, ix_math2, ix_math1, ix_acopy, Nat.add_assoc, Int32.reduceLT, Int32.reduceLE, Int32.reduceToNatClampNeg, Int32.reduceSub, Int32.reduceAdd, Nat.reduceAdd, Nat.reduceLeDiff, true_or, or_true, or_false, false_or, not_false_eq_true, not_true_eq_false, false_implies, true_implies, implies_true, and_self, mB_0, mB_01, Classical.not_not, Nat.zero_le, List.getElem?_cons_zero, List.getElem?_cons_succ, List.set_cons_zero, List.set_cons_succ, ix_nl, ix_cs, true_and, and_true, Option.toList_some, Option.toList_none, List.cons_append, List.nil_append, K1, K2, K3, K4, Kc, V1, V2, V3, V4, Vc, ix_up_ne, ix_up_k, ve_1, ve_2, ve_3, ve_4, ve_5]
      refine l_X10_darkFor (M := M) (N := K) (f := f) (ds := ds) (dl := dl) (μ0 := μ) (by rw [I.hw]; exact hf.symm) (by rw [I.hw]; exact hR) hM hK hL (fun m h1 h2 h3 h4 μ2 F2 => hQ _ _ ?_) (fun h4 μ2 F2 => hQ _ _ ?_) 20 1 μ rfl (by decide) Fx.rf (fun j h1 h2 => absurd h1 (by omega))
      · have I2 := I.scr F2 (by decide)
        refine hm (fun d x => d < m → x = nI m) (fun d x hd hx hlt => ?_) (fun z => absurd z (by omega)) μ2 _ (F2 113 (by decide)) I2.2.2.2.2.2.2.1 (fun x μ3 hx F3 R3 => ?_)
        · by_cases c : f d < nI V
          · rw [if_pos c]
            refine hx ?_
            have : d ≠ m := fun z => h3 (by rw [← z]; exact c)
            omega
          · rw [if_neg c]
            have : ¬ d < m := fun z => c (h4 d hd z)
            congr 1
            omega
        · obtain rfl := hx (by omega)
          exact ⟨fun z => absurd z (nI_pos (by omega)), fun _ => pst rfl (I2.back F3 R3)⟩
      · have I2 := I.scr F2 (by decide)
        refine hm (fun d x => d ≤ 20 ∧ x = -1) (fun d x hd hx => ?_) ⟨by decide, rfl⟩ _ _ (by rw [ix_up_ne (by decide)]; exact F2 113 (by decide)) (by rw [ix_up_ne (by decide)]; exact I2.2.2.2.2.2.2.1) (fun x μ3 hx F3 R3 => ?_)
        · rw [if_pos (h4 d hd hx.1)]
          exact ⟨by omega, hx.2⟩
        · rw [hx.2]
          refine ⟨fun _ => pst rfl (I2.eb (by decide) F3 (fun k hk => ?_)), fun z => absurd (by decide) z⟩
          rw [R3 k hk, ix_up_ne (by decide)]
    · have hx1 : v < 0 ∨ (792 : Int32) < v := hx1
      have hx2 : ¬ (0 ≤ v ∧ v ≤ (792 : Int32)) := hx2
      simp (decide := true) only [e_X10_darkFor_0, e_X10_darkFor_1, e_X10_darkFor_3, e_X10_darkFor_6, e_X10_darkFor_9, e_X10_darkFor_10, e_X10_darkFor_13, e_X10_darkFor_16, e_X10_darkFor_19, e_X10_darkFor_20, e_X10_darkFor_21, e_X10_darkFor_24, e_X10_darkFor_25, e_X10_darkFor_26, e_X10_darkFor_28, e_X10_darkFor_30, e_X10_darkFor_33, e_X10_darkFor_34, e_X10_darkFor_35, e_X10_darkFor_36, e_X10_darkFor_37, e_X10_darkFor_38, e_X10_darkFor_41, e_X10_darkFor_42, e_X10_darkFor_45, e_X10_darkFor_46, e_X10_darkFor_49, e_X10_darkFor_50, e_X10_darkFor_51, e_X10_darkFor_54, e_X10_darkFor_57, e_X10_darkFor_58, e_X10_darkFor_59, e_X10_darkFor_62, vi, vl, vr, oc_X10_error, T_X10_error, oc_X10_hadBehind, T_X10_hadBehind, oc_X10_outside, T_X10_outside, oc_X10_suppose, T_X10_suppose, ix_push, ix_iload, ix_lload, ix_aload, ix_istore, ix_astore, ix_iinc, ix_bin, ix_div, ix_un, ix_i2l, ix_l2i, ix_lbin, ix_lsh, ix_lcmp, ix_dup, ix_dup2, ix_pop, ix_if, ix_cmp, ix_goto, ix_switch, ix_sw, ix_iret, ix_zret, ix_vret, ix_aret, ix_geti, ix_getr, ix_puti, ix_putz, ix_puts, ix_gets, ix_iald, ix_iast, ix_alen, ix_aald, ix_gval, ix_gcod, ix_bald, ix_blen, ix_sald, ix_nret, ix_math2, ix_math1, ix_acopy, Nat.add_assoc, Int32.reduceLT, Int32.reduceLE, Int32.reduceToNatClampNeg, Int32.reduceSub, Int32.reduceAdd, Nat.reduceAdd, Nat.reduceLeDiff, true_or, or_true, or_false, false_or, not_false_eq_true, not_true_eq_false, false_implies, true_implies, implies_true, and_self, mB_0, mB_01, Classical.not_not, Nat.zero_le, List.getElem?_cons_zero, List.getElem?_cons_succ, List.set_cons_zero, List.set_cons_succ, ix_nl, ix_cs, true_and, and_true, Option.toList_some, Option.toList_none, List.cons_append, List.nil_append, K1, K2, K3, K4, Kc, hx1, hx2, ix_up_ne, ix_up_k, ve_1, ve_2, ve_3, ve_4, ve_5]
      refine hQ _ _ ?_
      simp (decide := true) only [e_X11_darkFor_0, e_X11_darkFor_1, e_X11_darkFor_4, e_X11_darkFor_7, e_X11_darkFor_8, e_X11_darkFor_11, e_X11_darkFor_14, e_X11_darkFor_15, e_X11_darkFor_17, e_X11_darkFor_20, e_X11_darkFor_21, e_X11_darkFor_22, e_X11_darkFor_25, e_X11_darkFor_26, e_X11_darkFor_27, e_X11_darkFor_28, e_X11_darkFor_29, e_X11_darkFor_31, e_X11_darkFor_33, e_X11_darkFor_37, e_X11_darkFor_40, e_X11_darkFor_41, e_X11_darkFor_44, e_X11_darkFor_45, e_X11_darkFor_47, e_X11_darkFor_48, e_X11_darkFor_49, e_X11_darkFor_50, e_X11_darkFor_53, e_X11_darkFor_54, e_X11_darkFor_57, e_X11_darkFor_59, e_X11_darkFor_62, e_X11_darkFor_64, e_X11_darkFor_66, e_X11_darkFor_69, e_X11_darkFor_72, e_X11_darkFor_73, e_X11_darkFor_76, e_X11_darkFor_77, e_X11_darkFor_78, e_X11_darkFor_79, e_X11_darkFor_81, e_X11_darkFor_84, e_X11_darkFor_85, e_X11_darkFor_88, e_X11_darkFor_91, e_X11_darkFor_94, e_X11_darkFor_96, vi, vl, vr, oc_X11_finding, T_X11_finding, oc_X11_hadBehind, T_X11_hadBehind, oc_X11_isBehind, T_X11_isBehind, oc_X11_isHad, T_X11_isHad, ix_push, ix_iload, ix_lload, ix_aload, ix_istore, ix_astore, ix_iinc, ix_bin, ix_div, ix_un, ix_i2l, ix_l2i, ix_lbin, ix_lsh, ix_lcmp, ix_dup, ix_dup2, ix_pop, ix_if, ix_cmp, ix_goto, ix_switch, ix_sw, ix_iret, ix_zret, ix_vret, ix_aret, ix_geti, ix_getr, ix_puti, ix_putz, ix_puts, ix_gets, ix_iald, ix_iast, ix_alen, ix_aald, ix_gval, ix_gcod, ix_bald, ix_blen, ix_sald, ix_nret, ix_math2, ix_math1, ix_acopy, ml_113, ml_114, ml_115, ml_116, ml_118, ml_119, ml_120, ml_121, ml_122, ml_123, ml_124, ml_125, ml_126, mv_0, mv_1, mv_2, mv_3, mv_4, mv_5, mB_or, Nat.add_assoc, Int32.reduceLT, Int32.reduceLE, Int32.reduceToNatClampNeg, Int32.reduceSub, Int32.reduceAdd, Nat.reduceAdd, Nat.reduceLeDiff, true_or, or_true, or_false, false_or, not_false_eq_true, not_true_eq_false, false_implies, true_implies, implies_true, and_self, mB_0, mB_01, Classical.not_not, Nat.zero_le, List.getElem?_cons_zero, List.getElem?_cons_succ, List.set_cons_zero, List.set_cons_succ, ix_nl, ix_cs, true_and, and_true, Option.toList_some, Option.toList_none, List.cons_append, List.nil_append, K1, K2, K3, K4, Kc, hx1, hx2, ix_up_ne, ix_up_k, ve_1, ve_2, ve_3, ve_4, ve_5]
      repeat' (first | exact I.er 1 (by decide) | refine ⟨fun _ => ?_, fun _ => ?_⟩)
  · have hx1 : n < 0 ∨ (60 : Int32) < n := hx1
    have hx2 : ¬ (0 ≤ n ∧ n ≤ (60 : Int32)) := hx2
    simp (decide := true) only [e_X10_darkFor_0, e_X10_darkFor_1, e_X10_darkFor_3, e_X10_darkFor_6, e_X10_darkFor_9, e_X10_darkFor_10, e_X10_darkFor_13, e_X10_darkFor_16, e_X10_darkFor_19, e_X10_darkFor_20, e_X10_darkFor_21, e_X10_darkFor_24, e_X10_darkFor_25, e_X10_darkFor_26, e_X10_darkFor_28, e_X10_darkFor_30, e_X10_darkFor_33, e_X10_darkFor_34, e_X10_darkFor_35, e_X10_darkFor_36, e_X10_darkFor_37, e_X10_darkFor_38, e_X10_darkFor_41, e_X10_darkFor_42, e_X10_darkFor_45, e_X10_darkFor_46, e_X10_darkFor_49, e_X10_darkFor_50, e_X10_darkFor_51, e_X10_darkFor_54, e_X10_darkFor_57, e_X10_darkFor_58, e_X10_darkFor_59, e_X10_darkFor_62, vi, vl, vr, oc_X10_error, T_X10_error, oc_X10_hadBehind, T_X10_hadBehind, oc_X10_outside, T_X10_outside, oc_X10_suppose, T_X10_suppose, ix_push, ix_iload, ix_lload, ix_aload, ix_istore, ix_astore, ix_iinc, ix_bin, ix_div, ix_un, ix_i2l, ix_l2i, ix_lbin, ix_lsh, ix_lcmp, ix_dup, ix_dup2, ix_pop, ix_if, ix_cmp, ix_goto, ix_switch, ix_sw, ix_iret, ix_zret, ix_vret, ix_aret, ix_geti, ix_getr, ix_puti, ix_putz, ix_puts, ix_gets, ix_iald, ix_iast, ix_alen, ix_aald, ix_gval, ix_gcod, ix_bald, ix_blen, ix_sald, ix_nret, ix_math2, ix_math1, ix_acopy, Nat.add_assoc, Int32.reduceLT, Int32.reduceLE, Int32.reduceToNatClampNeg, Int32.reduceSub, Int32.reduceAdd, Nat.reduceAdd, Nat.reduceLeDiff, true_or, or_true, or_false, false_or, not_false_eq_true, not_true_eq_false, false_implies, true_implies, implies_true, and_self, mB_0, mB_01, Classical.not_not, Nat.zero_le, List.getElem?_cons_zero, List.getElem?_cons_succ, List.set_cons_zero, List.set_cons_succ, ix_nl, ix_cs, true_and, and_true, Option.toList_some, Option.toList_none, List.cons_append, List.nil_append, hx1, hx2, ix_up_ne, ix_up_k, ve_1, ve_2, ve_3, ve_4, ve_5]
    refine hQ _ _ ?_
    simp (decide := true) only [e_X11_darkFor_0, e_X11_darkFor_1, e_X11_darkFor_4, e_X11_darkFor_7, e_X11_darkFor_8, e_X11_darkFor_11, e_X11_darkFor_14, e_X11_darkFor_15, e_X11_darkFor_17, e_X11_darkFor_20, e_X11_darkFor_21, e_X11_darkFor_22, e_X11_darkFor_25, e_X11_darkFor_26, e_X11_darkFor_27, e_X11_darkFor_28, e_X11_darkFor_29, e_X11_darkFor_31, e_X11_darkFor_33, e_X11_darkFor_37, e_X11_darkFor_40, e_X11_darkFor_41, e_X11_darkFor_44, e_X11_darkFor_45, e_X11_darkFor_47, e_X11_darkFor_48, e_X11_darkFor_49, e_X11_darkFor_50, e_X11_darkFor_53, e_X11_darkFor_54, e_X11_darkFor_57, e_X11_darkFor_59, e_X11_darkFor_62, e_X11_darkFor_64, e_X11_darkFor_66, e_X11_darkFor_69, e_X11_darkFor_72, e_X11_darkFor_73, e_X11_darkFor_76, e_X11_darkFor_77, e_X11_darkFor_78, e_X11_darkFor_79, e_X11_darkFor_81, e_X11_darkFor_84, e_X11_darkFor_85, e_X11_darkFor_88, e_X11_darkFor_91, e_X11_darkFor_94, e_X11_darkFor_96, vi, vl, vr, oc_X11_finding, T_X11_finding, oc_X11_hadBehind, T_X11_hadBehind, oc_X11_isBehind, T_X11_isBehind, oc_X11_isHad, T_X11_isHad, ix_push, ix_iload, ix_lload, ix_aload, ix_istore, ix_astore, ix_iinc, ix_bin, ix_div, ix_un, ix_i2l, ix_l2i, ix_lbin, ix_lsh, ix_lcmp, ix_dup, ix_dup2, ix_pop, ix_if, ix_cmp, ix_goto, ix_switch, ix_sw, ix_iret, ix_zret, ix_vret, ix_aret, ix_geti, ix_getr, ix_puti, ix_putz, ix_puts, ix_gets, ix_iald, ix_iast, ix_alen, ix_aald, ix_gval, ix_gcod, ix_bald, ix_blen, ix_sald, ix_nret, ix_math2, ix_math1, ix_acopy, ml_113, ml_114, ml_115, ml_116, ml_118, ml_119, ml_120, ml_121, ml_122, ml_123, ml_124, ml_125, ml_126, mv_0, mv_1, mv_2, mv_3, mv_4, mv_5, mB_or, Nat.add_assoc, Int32.reduceLT, Int32.reduceLE, Int32.reduceToNatClampNeg, Int32.reduceSub, Int32.reduceAdd, Nat.reduceAdd, Nat.reduceLeDiff, true_or, or_true, or_false, false_or, not_false_eq_true, not_true_eq_false, false_implies, true_implies, implies_true, and_self, mB_0, mB_01, Classical.not_not, Nat.zero_le, List.getElem?_cons_zero, List.getElem?_cons_succ, List.set_cons_zero, List.set_cons_succ, ix_nl, ix_cs, true_and, and_true, Option.toList_some, Option.toList_none, List.cons_append, List.nil_append, hx1, hx2, ix_up_ne, ix_up_k, ve_1, ve_2, ve_3, ve_4, ve_5]
    repeat' (first | exact I.er 1 (by decide) | refine ⟨fun _ => ?_, fun _ => ?_⟩)
