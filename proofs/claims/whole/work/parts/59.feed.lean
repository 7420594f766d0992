/-! ===== calls, class against model: feed ===== -/
theorem byt_eq (w : Int64) (s : Nat) (hs : s ≤ 56) (a : UInt64) (b : Int64) (ha : a.toNat % 64 = s) (hb : (b.toBitVec.smod 64#64).toNat = s) : (w.toUInt64 >>> a).toInt64.toInt32 &&& 255 = (w >>> b &&& 255).toInt32 := by
  apply Int32.toBitVec_inj.mp
  ext i hi
  simp [BitVec.getElem_eq_testBit_toNat, ha, hb]
  by_cases c : i < 8
  · have e : (BitVec.signExtend 32 (w.toBitVec >>> s)).toNat.testBit i = (BitVec.signExtend 32 (w.toBitVec.sshiftRight s)).toNat.testBit i := by
      rw [← BitVec.getLsbD, ← BitVec.getLsbD]
      rw [BitVec.signExtend_eq_setWidth_of_le _ (by decide), BitVec.signExtend_eq_setWidth_of_le _ (by decide)]
      simp [BitVec.getLsbD_setWidth, BitVec.getLsbD_ushiftRight, BitVec.getLsbD_sshiftRight]
      rw [if_pos (show s + i < 64 by omega), decide_eq_false (show ¬ 64 ≤ i by omega)]
      simp
    rw [e]
  · have e : Nat.testBit 255 i = false := by
      apply Nat.testBit_lt_two_pow
      have : 2 ^ 8 ≤ 2 ^ i := Nat.pow_le_pow_right (by decide) (by omega)
      omega
    rw [e]
    simp
def bM (w : Int64) (x : Nat) : Int32 := (w >>> ((8 * nI x).toInt64 &&& 63) &&& 255).toInt32
theorem bM_c (w : Int64) : ∀ x, x < 8 → (w.toUInt64 >>> ((8 * nI x).toInt64.toUInt64 &&& Int64.toUInt64 63)).toInt64.toInt32 &&& 255 = bM w x := by
  intro x hx
  have h : ∀ y, y < 8 → ((8 * nI y).toInt64.toUInt64 &&& Int64.toUInt64 63).toNat % 64 = 8 * y ∧ (((8 * nI y).toInt64 &&& 63).toBitVec.smod 64#64).toNat = 8 * y := by decide +kernel
  exact byt_eq w (8 * x) (by omega) _ _ (h x hx).1 (h x hx).2
theorem bM_in (w : Int64) (x : Nat) (hx : x < 8) : ∃ b : Nat, b < 256 ∧ bM w x = nI b := by
  rw [← bM_c w x hx]
  exact pk_andE _ 8 rfl
def o_X10_feed : List (Nat × ix_Op) := [
  (0, ix_iload 3 1),
  (1, ix_push (vi 1) 2),
  (2, ix_cmp (fun x y => x < y) 11 5),
  (5, ix_iload 3 6),
  (6, ix_push (vi 8) 8),
  (8, ix_cmp (fun x y => x ≤ y) 17 11),
  (11, ix_aload 0 12),
  (12, ix_push (vi 1) 13),
  (13, oc_X10_error 16),
  (16, ix_iret),
  (17, ix_aload 0 18),
  (18, ix_getr 9 5 (fun _ => 1) 21),
  (21, ix_getr 5 3 (fun k => k + 18) 24),
  (24, ix_geti 3 1 27),
  (27, ix_iload 3 28),
  (28, ix_bin (fun x y => x + y) 29),
  (29, ix_push (vi 50) 31),
  (31, ix_cmp (fun x y => x ≤ y) 40 34),
  (34, ix_aload 0 35),
  (35, ix_push (vi 4) 36),
  (36, oc_X10_error 39),
  (39, ix_iret),
  (40, ix_push (vi 0) 41),
  (41, ix_istore 4 43),
  (43, ix_iload 4 45),
  (45, ix_iload 3 46),
  (46, ix_cmp (fun x y => y ≤ x) 77 49),
  (49, ix_aload 0 50),
  (50, ix_getr 9 5 (fun _ => 1) 53),
  (53, ix_getr 5 3 (fun k => k + 18) 56),
  (56, ix_lload 1 57),
  (57, ix_push (vi 8) 59),
  (59, ix_iload 4 61),
  (61, ix_bin (fun x y => x * y) 62),
  (62, ix_lsh (fun x y => (x.toUInt64 >>> (y.toInt64.toUInt64 &&& Int64.toUInt64 63)).toInt64) 63),
  (63, ix_l2i 64),
  (64, ix_push (vi 255) 67),
  (67, ix_bin (fun x y => x &&& y) 68),
  (68, oc_X4_add 71),
  (71, ix_iinc 4 1 74),
  (74, ix_goto 43),
  (77, ix_aload 0 78),
  (78, ix_getr 9 5 (fun _ => 1) 81),
  (81, ix_getr 5 3 (fun k => k + 18) 84),
  (84, ix_geti 3 1 87),
  (87, ix_iret)]
set_option maxRecDepth 20000 in
theorem a_X10_feed (l : Launch) : ix_AllS l cX10_feed 5 RX10 60 (some .int) o_X10_feed :=
  .cons (ix_s_iload_n dX10_feed_0 rfl) <|
  .cons (ix_s_iconst dX10_feed_1 (by decide +kernel)) <|
  .cons (ix_s_cmp_lt dX10_feed_2 (by decide)) <|
  .cons (ix_s_iload_n dX10_feed_5 rfl) <|
  .cons (ix_s_bipush dX10_feed_6 (by decide +kernel)) <|
  .cons (ix_s_cmp_le dX10_feed_8 (by decide)) <|
  .cons (ix_s_aload_n dX10_feed_11 rfl) <|
  .cons (ix_s_iconst dX10_feed_12 (by decide +kernel)) <|
  .cons (oc_X10_error_s (ix_s_callv (t := 9) (k_X10_error l) (by decide) (by decide) tw_295 tw_1 tw_292 tw_294 tp_0 ⟨by decide, by decide, by decide +kernel⟩ (by decide) rfl rfl (fun _ => ⟨_, _, rfl, rfl⟩) dX10_feed_13)) <|
  .cons (ix_s_iret dX10_feed_16 rfl) <|
  .cons (ix_s_aload_n dX10_feed_17 rfl) <|
  .cons (ix_s_getr (j := 0) tu_X10 rfl (by decide) (by decide) tw_251 rfl ts_9_0_r dX10_feed_18) <|
  .cons (ix_s_getr (j := 2) tu_X6 rfl (by decide) (by decide) tw_142 rfl ts_5_2_r dX10_feed_21) <|
  .cons (ix_s_geti (j := 1) tu_X4 rfl (by decide) (by decide) tw_113 rfl ts_3_1_i dX10_feed_24) <|
  .cons (ix_s_iload_n dX10_feed_27 rfl) <|
  .cons (ix_s_iadd dX10_feed_28) <|
  .cons (ix_s_bipush dX10_feed_29 (by decide +kernel)) <|
  .cons (ix_s_cmp_le dX10_feed_31 (by decide)) <|
  .cons (ix_s_aload_n dX10_feed_34 rfl) <|
  .cons (ix_s_iconst dX10_feed_35 (by decide +kernel)) <|
  .cons (oc_X10_error_s (ix_s_callv (t := 9) (k_X10_error l) (by decide) (by decide) tw_295 tw_1 tw_292 tw_294 tp_0 ⟨by decide, by decide, by decide +kernel⟩ (by decide) rfl rfl (fun _ => ⟨_, _, rfl, rfl⟩) dX10_feed_36)) <|
  .cons (ix_s_iret dX10_feed_39 rfl) <|
  .cons (ix_s_iconst dX10_feed_40 (by decide +kernel)) <|
  .cons (ix_s_istore dX10_feed_41 (by decide)) <|
  .cons (ix_s_iload dX10_feed_43) <|
  .cons (ix_s_iload_n dX10_feed_45 rfl) <|
  .cons (ix_s_cmp_ge dX10_feed_46 (by decide)) <|
  .cons (ix_s_aload_n dX10_feed_49 rfl) <|
  .cons (ix_s_getr (j := 0) tu_X10 rfl (by decide) (by decide) tw_251 rfl ts_9_0_r dX10_feed_50) <|
  .cons (ix_s_getr (j := 2) tu_X6 rfl (by decide) (by decide) tw_142 rfl ts_5_2_r dX10_feed_53) <|
  .cons (ix_s_lload_n dX10_feed_56 rfl) <|
  .cons (ix_s_bipush dX10_feed_57 (by decide +kernel)) <|
  .cons (ix_s_iload dX10_feed_59) <|
  .cons (ix_s_imul dX10_feed_61) <|
  .cons (ix_s_lushr dX10_feed_62) <|
  .cons (ix_s_l2i dX10_feed_63) <|
  .cons (ix_s_sipush dX10_feed_64 (by decide +kernel)) <|
  .cons (ix_s_iand dX10_feed_67) <|
  .cons (oc_X4_add_s (ix_s_callv (t := 3) (k_X4_add l) (by decide) (by decide) tw_436 tw_6 tw_433 tw_434 tw_435 ⟨by decide, by decide, by decide +kernel⟩ (by decide) rfl rfl (fun _ => ⟨_, _, rfl, rfl⟩) dX10_feed_68)) <|
  .cons (ix_s_iinc dX10_feed_71 (by decide +kernel) (by decide)) <|
  .cons (ix_s_goto dX10_feed_74 (by decide)) <|
  .cons (ix_s_aload_n dX10_feed_77 rfl) <|
  .cons (ix_s_getr (j := 0) tu_X10 rfl (by decide) (by decide) tw_251 rfl ts_9_0_r dX10_feed_78) <|
  .cons (ix_s_getr (j := 2) tu_X6 rfl (by decide) (by decide) tw_142 rfl ts_5_2_r dX10_feed_81) <|
  .cons (ix_s_geti (j := 1) tu_X4 rfl (by decide) (by decide) tw_113 rfl ts_3_1_i dX10_feed_84) <|
  .cons (ix_s_iret dX10_feed_87 rfl) <| .nil
theorem e_X10_feed_0 (Q : ix_R → Prop) (ls : ix_L) (st : List ix_V) (μ : ix_M) : ix_Ev o_X10_feed Q (0, ls, st, μ) = ix_iload 3 1 (ix_Ev o_X10_feed Q) Q ls st μ := ix_Ev.eq (a_X10_feed launch0) rfl ls st μ
theorem e_X10_feed_1 (Q : ix_R → Prop) (ls : ix_L) (st : List ix_V) (μ : ix_M) : ix_Ev o_X10_feed Q (1, ls, st, μ) = ix_push (vi 1) 2 (ix_Ev o_X10_feed Q) Q ls st μ := ix_Ev.eq (a_X10_feed launch0) rfl ls st μ
theorem e_X10_feed_2 (Q : ix_R → Prop) (ls : ix_L) (st : List ix_V) (μ : ix_M) : ix_Ev o_X10_feed Q (2, ls, st, μ) = ix_cmp (fun x y => x < y) 11 5 (ix_Ev o_X10_feed Q) Q ls st μ := ix_Ev.eq (a_X10_feed launch0) rfl ls st μ
theorem e_X10_feed_5 (Q : ix_R → Prop) (ls : ix_L) (st : List ix_V) (μ : ix_M) : ix_Ev o_X10_feed Q (5, ls, st, μ) = ix_iload 3 6 (ix_Ev o_X10_feed Q) Q ls st μ := ix_Ev.eq (a_X10_feed launch0) rfl ls st μ
theorem e_X10_feed_6 (Q : ix_R → Prop) (ls : ix_L) (st : List ix_V) (μ : ix_M) : ix_Ev o_X10_feed Q (6, ls, st, μ) = ix_push (vi 8) 8 (ix_Ev o_X10_feed Q) Q ls st μ := ix_Ev.eq (a_X10_feed launch0) rfl ls st μ
theorem e_X10_feed_8 (Q : ix_R → Prop) (ls : ix_L) (st : List ix_V) (μ : ix_M) : ix_Ev o_X10_feed Q (8, ls, st, μ) = ix_cmp (fun x y => x ≤ y) 17 11 (ix_Ev o_X10_feed Q) Q ls st μ := ix_Ev.eq (a_X10_feed launch0) rfl ls st μ
theorem e_X10_feed_11 (Q : ix_R → Prop) (ls : ix_L) (st : List ix_V) (μ : ix_M) : ix_Ev o_X10_feed Q (11, ls, st, μ) = ix_aload 0 12 (ix_Ev o_X10_feed Q) Q ls st μ := ix_Ev.eq (a_X10_feed launch0) rfl ls st μ
theorem e_X10_feed_12 (Q : ix_R → Prop) (ls : ix_L) (st : List ix_V) (μ : ix_M) : ix_Ev o_X10_feed Q (12, ls, st, μ) = ix_push (vi 1) 13 (ix_Ev o_X10_feed Q) Q ls st μ := ix_Ev.eq (a_X10_feed launch0) rfl ls st μ
theorem e_X10_feed_13 (Q : ix_R → Prop) (ls : ix_L) (st : List ix_V) (μ : ix_M) : ix_Ev o_X10_feed Q (13, ls, st, μ) = oc_X10_error 16 (ix_Ev o_X10_feed Q) Q ls st μ := ix_Ev.eq (a_X10_feed launch0) rfl ls st μ
theorem e_X10_feed_16 (Q : ix_R → Prop) (ls : ix_L) (st : List ix_V) (μ : ix_M) : ix_Ev o_X10_feed Q (16, ls, st, μ) = ix_iret (ix_Ev o_X10_feed Q) Q ls st μ := ix_Ev.eq (a_X10_feed launch0) rfl ls st μ
theorem e_X10_feed_17 (Q : ix_R → Prop) (ls : ix_L) (st : List ix_V) (μ : ix_M) : ix_Ev o_X10_feed Q (17, ls, st, μ) = ix_aload 0 18 (ix_Ev o_X10_feed Q) Q ls st μ := ix_Ev.eq (a_X10_feed launch0) rfl ls st μ
theorem e_X10_feed_18 (Q : ix_R → Prop) (ls : ix_L) (st : List ix_V) (μ : ix_M) : ix_Ev o_X10_feed Q (18, ls, st, μ) = ix_getr 9 5 (fun _ => 1) 21 (ix_Ev o_X10_feed Q) Q ls st μ := ix_Ev.eq (a_X10_feed launch0) rfl ls st μ
theorem e_X10_feed_21 (Q : ix_R → Prop) (ls : ix_L) (st : List ix_V) (μ : ix_M) : ix_Ev o_X10_feed Q (21, ls, st, μ) = ix_getr 5 3 (fun k => k + 18) 24 (ix_Ev o_X10_feed Q) Q ls st μ := ix_Ev.eq (a_X10_feed launch0) rfl ls st μ
theorem e_X10_feed_24 (Q : ix_R → Prop) (ls : ix_L) (st : List ix_V) (μ : ix_M) : ix_Ev o_X10_feed Q (24, ls, st, μ) = ix_geti 3 1 27 (ix_Ev o_X10_feed Q) Q ls st μ := ix_Ev.eq (a_X10_feed launch0) rfl ls st μ
theorem e_X10_feed_27 (Q : ix_R → Prop) (ls : ix_L) (st : List ix_V) (μ : ix_M) : ix_Ev o_X10_feed Q (27, ls, st, μ) = ix_iload 3 28 (ix_Ev o_X10_feed Q) Q ls st μ := ix_Ev.eq (a_X10_feed launch0) rfl ls st μ
theorem e_X10_feed_28 (Q : ix_R → Prop) (ls : ix_L) (st : List ix_V) (μ : ix_M) : ix_Ev o_X10_feed Q (28, ls, st, μ) = ix_bin (fun x y => x + y) 29 (ix_Ev o_X10_feed Q) Q ls st μ := ix_Ev.eq (a_X10_feed launch0) rfl ls st μ
theorem e_X10_feed_29 (Q : ix_R → Prop) (ls : ix_L) (st : List ix_V) (μ : ix_M) : ix_Ev o_X10_feed Q (29, ls, st, μ) = ix_push (vi 50) 31 (ix_Ev o_X10_feed Q) Q ls st μ := ix_Ev.eq (a_X10_feed launch0) rfl ls st μ
theorem e_X10_feed_31 (Q : ix_R → Prop) (ls : ix_L) (st : List ix_V) (μ : ix_M) : ix_Ev o_X10_feed Q (31, ls, st, μ) = ix_cmp (fun x y => x ≤ y) 40 34 (ix_Ev o_X10_feed Q) Q ls st μ := ix_Ev.eq (a_X10_feed launch0) rfl ls st μ
theorem e_X10_feed_34 (Q : ix_R → Prop) (ls : ix_L) (st : List ix_V) (μ : ix_M) : ix_Ev o_X10_feed Q (34, ls, st, μ) = ix_aload 0 35 (ix_Ev o_X10_feed Q) Q ls st μ := ix_Ev.eq (a_X10_feed launch0) rfl ls st μ
theorem e_X10_feed_35 (Q : ix_R → Prop) (ls : ix_L) (st : List ix_V) (μ : ix_M) : ix_Ev o_X10_feed Q (35, ls, st, μ) = ix_push (vi 4) 36 (ix_Ev o_X10_feed Q) Q ls st μ := ix_Ev.eq (a_X10_feed launch0) rfl ls st μ
theorem e_X10_feed_36 (Q : ix_R → Prop) (ls : ix_L) (st : List ix_V) (μ : ix_M) : ix_Ev o_X10_feed Q (36, ls, st, μ) = oc_X10_error 39 (ix_Ev o_X10_feed Q) Q ls st μ := ix_Ev.eq (a_X10_feed launch0) rfl ls st μ
theorem e_X10_feed_39 (Q : ix_R → Prop) (ls : ix_L) (st : List ix_V) (μ : ix_M) : ix_Ev o_X10_feed Q (39, ls, st, μ) = ix_iret (ix_Ev o_X10_feed Q) Q ls st μ := ix_Ev.eq (a_X10_feed launch0) rfl ls st μ
theorem e_X10_feed_40 (Q : ix_R → Prop) (ls : ix_L) (st : List ix_V) (μ : ix_M) : ix_Ev o_X10_feed Q (40, ls, st, μ) = ix_push (vi 0) 41 (ix_Ev o_X10_feed Q) Q ls st μ := ix_Ev.eq (a_X10_feed launch0) rfl ls st μ
theorem e_X10_feed_41 (Q : ix_R → Prop) (ls : ix_L) (st : List ix_V) (μ : ix_M) : ix_Ev o_X10_feed Q (41, ls, st, μ) = ix_istore 4 43 (ix_Ev o_X10_feed Q) Q ls st μ := ix_Ev.eq (a_X10_feed launch0) rfl ls st μ
theorem e_X10_feed_43 (Q : ix_R → Prop) (ls : ix_L) (st : List ix_V) (μ : ix_M) : ix_Ev o_X10_feed Q (43, ls, st, μ) = ix_iload 4 45 (ix_Ev o_X10_feed Q) Q ls st μ := ix_Ev.eq (a_X10_feed launch0) rfl ls st μ
theorem e_X10_feed_45 (Q : ix_R → Prop) (ls : ix_L) (st : List ix_V) (μ : ix_M) : ix_Ev o_X10_feed Q (45, ls, st, μ) = ix_iload 3 46 (ix_Ev o_X10_feed Q) Q ls st μ := ix_Ev.eq (a_X10_feed launch0) rfl ls st μ
theorem e_X10_feed_46 (Q : ix_R → Prop) (ls : ix_L) (st : List ix_V) (μ : ix_M) : ix_Ev o_X10_feed Q (46, ls, st, μ) = ix_cmp (fun x y => y ≤ x) 77 49 (ix_Ev o_X10_feed Q) Q ls st μ := ix_Ev.eq (a_X10_feed launch0) rfl ls st μ
theorem e_X10_feed_49 (Q : ix_R → Prop) (ls : ix_L) (st : List ix_V) (μ : ix_M) : ix_Ev o_X10_feed Q (49, ls, st, μ) = ix_aload 0 50 (ix_Ev o_X10_feed Q) Q ls st μ := ix_Ev.eq (a_X10_feed launch0) rfl ls st μ
theorem e_X10_feed_50 (Q : ix_R → Prop) (ls : ix_L) (st : List ix_V) (μ : ix_M) : ix_Ev o_X10_feed Q (50, ls, st, μ) = ix_getr 9 5 (fun _ => 1) 53 (ix_Ev o_X10_feed Q) Q ls st μ := ix_Ev.eq (a_X10_feed launch0) rfl ls st μ
theorem e_X10_feed_53 (Q : ix_R → Prop) (ls : ix_L) (st : List ix_V) (μ : ix_M) : ix_Ev o_X10_feed Q (53, ls, st, μ) = ix_getr 5 3 (fun k => k + 18) 56 (ix_Ev o_X10_feed Q) Q ls st μ := ix_Ev.eq (a_X10_feed launch0) rfl ls st μ
theorem e_X10_feed_56 (Q : ix_R → Prop) (ls : ix_L) (st : List ix_V) (μ : ix_M) : ix_Ev o_X10_feed Q (56, ls, st, μ) = ix_lload 1 57 (ix_Ev o_X10_feed Q) Q ls st μ := ix_Ev.eq (a_X10_feed launch0) rfl ls st μ
theorem e_X10_feed_57 (Q : ix_R → Prop) (ls : ix_L) (st : List ix_V) (μ : ix_M) : ix_Ev o_X10_feed Q (57, ls, st, μ) = ix_push (vi 8) 59 (ix_Ev o_X10_feed Q) Q ls st μ := ix_Ev.eq (a_X10_feed launch0) rfl ls st μ
theorem e_X10_feed_59 (Q : ix_R → Prop) (ls : ix_L) (st : List ix_V) (μ : ix_M) : ix_Ev o_X10_feed Q (59, ls, st, μ) = ix_iload 4 61 (ix_Ev o_X10_feed Q) Q ls st μ := ix_Ev.eq (a_X10_feed launch0) rfl ls st μ
theorem e_X10_feed_61 (Q : ix_R → Prop) (ls : ix_L) (st : List ix_V) (μ : ix_M) : ix_Ev o_X10_feed Q (61, ls, st, μ) = ix_bin (fun x y => x * y) 62 (ix_Ev o_X10_feed Q) Q ls st μ := ix_Ev.eq (a_X10_feed launch0) rfl ls st μ
theorem e_X10_feed_62 (Q : ix_R → Prop) (ls : ix_L) (st : List ix_V) (μ : ix_M) : ix_Ev o_X10_feed Q (62, ls, st, μ) = ix_lsh (fun x y => (x.toUInt64 >>> (y.toInt64.toUInt64 &&& Int64.toUInt64 63)).toInt64) 63 (ix_Ev o_X10_feed Q) Q ls st μ := ix_Ev.eq (a_X10_feed launch0) rfl ls st μ
theorem e_X10_feed_63 (Q : ix_R → Prop) (ls : ix_L) (st : List ix_V) (μ : ix_M) : ix_Ev o_X10_feed Q (63, ls, st, μ) = ix_l2i 64 (ix_Ev o_X10_feed Q) Q ls st μ := ix_Ev.eq (a_X10_feed launch0) rfl ls st μ
theorem e_X10_feed_64 (Q : ix_R → Prop) (ls : ix_L) (st : List ix_V) (μ : ix_M) : ix_Ev o_X10_feed Q (64, ls, st, μ) = ix_push (vi 255) 67 (ix_Ev o_X10_feed Q) Q ls st μ := ix_Ev.eq (a_X10_feed launch0) rfl ls st μ
theorem e_X10_feed_67 (Q : ix_R → Prop) (ls : ix_L) (st : List ix_V) (μ : ix_M) : ix_Ev o_X10_feed Q (67, ls, st, μ) = ix_bin (fun x y => x &&& y) 68 (ix_Ev o_X10_feed Q) Q ls st μ := ix_Ev.eq (a_X10_feed launch0) rfl ls st μ
theorem e_X10_feed_68 (Q : ix_R → Prop) (ls : ix_L) (st : List ix_V) (μ : ix_M) : ix_Ev o_X10_feed Q (68, ls, st, μ) = oc_X4_add 71 (ix_Ev o_X10_feed Q) Q ls st μ := ix_Ev.eq (a_X10_feed launch0) rfl ls st μ
theorem e_X10_feed_71 (Q : ix_R → Prop) (ls : ix_L) (st : List ix_V) (μ : ix_M) : ix_Ev o_X10_feed Q (71, ls, st, μ) = ix_iinc 4 1 74 (ix_Ev o_X10_feed Q) Q ls st μ := ix_Ev.eq (a_X10_feed launch0) rfl ls st μ
theorem e_X10_feed_74 (Q : ix_R → Prop) (ls : ix_L) (st : List ix_V) (μ : ix_M) : ix_Ev o_X10_feed Q (74, ls, st, μ) = ix_goto 43 (ix_Ev o_X10_feed Q) Q ls st μ := ix_Ev.eq (a_X10_feed launch0) rfl ls st μ
theorem e_X10_feed_77 (Q : ix_R → Prop) (ls : ix_L) (st : List ix_V) (μ : ix_M) : ix_Ev o_X10_feed Q (77, ls, st, μ) = ix_aload 0 78 (ix_Ev o_X10_feed Q) Q ls st μ := ix_Ev.eq (a_X10_feed launch0) rfl ls st μ
theorem e_X10_feed_78 (Q : ix_R → Prop) (ls : ix_L) (st : List ix_V) (μ : ix_M) : ix_Ev o_X10_feed Q (78, ls, st, μ) = ix_getr 9 5 (fun _ => 1) 81 (ix_Ev o_X10_feed Q) Q ls st μ := ix_Ev.eq (a_X10_feed launch0) rfl ls st μ
theorem e_X10_feed_81 (Q : ix_R → Prop) (ls : ix_L) (st : List ix_V) (μ : ix_M) : ix_Ev o_X10_feed Q (81, ls, st, μ) = ix_getr 5 3 (fun k => k + 18) 84 (ix_Ev o_X10_feed Q) Q ls st μ := ix_Ev.eq (a_X10_feed launch0) rfl ls st μ
theorem e_X10_feed_84 (Q : ix_R → Prop) (ls : ix_L) (st : List ix_V) (μ : ix_M) : ix_Ev o_X10_feed Q (84, ls, st, μ) = ix_geti 3 1 87 (ix_Ev o_X10_feed Q) Q ls st μ := ix_Ev.eq (a_X10_feed launch0) rfl ls st μ
theorem e_X10_feed_87 (Q : ix_R → Prop) (ls : ix_L) (st : List ix_V) (μ : ix_M) : ix_Ev o_X10_feed Q (87, ls, st, μ) = ix_iret (ix_Ev o_X10_feed Q) Q ls st μ := ix_Ev.eq (a_X10_feed launch0) rfl ls st μ
def o_X11_feed : List (Nat × ix_Op) := [
  (0, ix_iload 3 1),
  (1, ix_push (vi 1) 2),
  (2, ix_push (vi 8) 4),
  (4, oc_X11_within 7),
  (7, ix_if (fun x => x = 0) 10 17),
  (10, ix_aload 0 11),
  (11, ix_push (vi (-1000000001)) 13),
  (13, oc_X11_finding 16),
  (16, ix_iret),
  (17, ix_aload 0 18),
  (18, ix_getr 10 20 (fun _ => 113) 21),
  (21, ix_push (vi 4) 22),
  (22, ix_iald 23),
  (23, ix_iload 3 24),
  (24, ix_bin (fun x y => x + y) 25),
  (25, ix_push (vi 50) 27),
  (27, ix_cmp (fun x y => x ≤ y) 37 30),
  (30, ix_aload 0 31),
  (31, ix_push (vi (-1000000004)) 33),
  (33, oc_X11_finding 36),
  (36, ix_iret),
  (37, ix_push (vi 0) 38),
  (38, ix_istore 4 40),
  (40, ix_iload 4 42),
  (42, ix_iload 3 43),
  (43, ix_cmp (fun x y => y ≤ x) 88 46),
  (46, ix_aload 0 47),
  (47, ix_getr 10 20 (fun _ => 113) 50),
  (50, ix_push (vi 82) 52),
  (52, ix_aload 0 53),
  (53, ix_getr 10 20 (fun _ => 113) 56),
  (56, ix_push (vi 4) 57),
  (57, ix_iald 58),
  (58, ix_bin (fun x y => x + y) 59),
  (59, ix_lload 1 60),
  (60, ix_push (vi 8) 62),
  (62, ix_iload 4 64),
  (64, ix_bin (fun x y => x * y) 65),
  (65, ix_lsh (fun x y => x >>> (y.toInt64 &&& 63)) 66),
  (66, ix_push (vl 255) 69),
  (69, ix_lbin (fun x y => x &&& y) 70),
  (70, ix_l2i 71),
  (71, ix_iast 72),
  (72, ix_aload 0 73),
  (73, ix_getr 10 20 (fun _ => 113) 76),
  (76, ix_push (vi 4) 77),
  (77, ix_dup2 78),
  (78, ix_iald 79),
  (79, ix_push (vi 1) 80),
  (80, ix_bin (fun x y => x + y) 81),
  (81, ix_iast 82),
  (82, ix_iinc 4 1 85),
  (85, ix_goto 40),
  (88, ix_aload 0 89),
  (89, ix_getr 10 20 (fun _ => 113) 92),
  (92, ix_push (vi 4) 93),
  (93, ix_iald 94),
  (94, ix_iret)]
set_option maxRecDepth 20000 in
theorem a_X11_feed (l : Launch) : ix_AllS l cX11_feed 5 RX11 60 (some .int) o_X11_feed :=
  .cons (ix_s_iload_n dX11_feed_0 rfl) <|
  .cons (ix_s_iconst dX11_feed_1 (by decide +kernel)) <|
  .cons (ix_s_bipush dX11_feed_2 (by decide +kernel)) <|
  .cons (oc_X11_within_s (ix_s_calls (k_X11_within l) (by decide) (by decide) tw_960 tw_12 tw_958 tw_959 ⟨by decide, by decide, by decide +kernel⟩ (fun _ => rfl) dX11_feed_4)) <|
  .cons (ix_s_if_ne dX11_feed_7 (by decide)) <|
  .cons (ix_s_aload_n dX11_feed_10 rfl) <|
  .cons (ix_s_ldc tw_961 dX11_feed_11) <|
  .cons (oc_X11_finding_s (ix_s_callv (t := 10) (k_X11_finding l) (by decide) (by decide) tw_965 tw_12 tw_962 tw_964 tp_18 ⟨by decide, by decide, by decide +kernel⟩ (by decide) rfl rfl (fun _ => ⟨_, _, rfl, rfl⟩) dX11_feed_13)) <|
  .cons (ix_s_iret dX11_feed_16 rfl) <|
  .cons (ix_s_aload_n dX11_feed_17 rfl) <|
  .cons (ix_s_getr (j := 0) tu_X11 rfl (by decide) (by decide) tw_875 rfl ts_10_0_r dX11_feed_18) <|
  .cons (ix_s_iconst dX11_feed_21 (by decide +kernel)) <|
  .cons (ix_s_iald dX11_feed_22) <|
  .cons (ix_s_iload_n dX11_feed_23 rfl) <|
  .cons (ix_s_iadd dX11_feed_24) <|
  .cons (ix_s_bipush dX11_feed_25 (by decide +kernel)) <|
  .cons (ix_s_cmp_le dX11_feed_27 (by decide)) <|
  .cons (ix_s_aload_n dX11_feed_30 rfl) <|
  .cons (ix_s_ldc tw_967 dX11_feed_31) <|
  .cons (oc_X11_finding_s (ix_s_callv (t := 10) (k_X11_finding l) (by decide) (by decide) tw_965 tw_12 tw_962 tw_964 tp_18 ⟨by decide, by decide, by decide +kernel⟩ (by decide) rfl rfl (fun _ => ⟨_, _, rfl, rfl⟩) dX11_feed_33)) <|
  .cons (ix_s_iret dX11_feed_36 rfl) <|
  .cons (ix_s_iconst dX11_feed_37 (by decide +kernel)) <|
  .cons (ix_s_istore dX11_feed_38 (by decide)) <|
  .cons (ix_s_iload dX11_feed_40) <|
  .cons (ix_s_iload_n dX11_feed_42 rfl) <|
  .cons (ix_s_cmp_ge dX11_feed_43 (by decide)) <|
  .cons (ix_s_aload_n dX11_feed_46 rfl) <|
  .cons (ix_s_getr (j := 0) tu_X11 rfl (by decide) (by decide) tw_875 rfl ts_10_0_r dX11_feed_47) <|
  .cons (ix_s_bipush dX11_feed_50 (by decide +kernel)) <|
  .cons (ix_s_aload_n dX11_feed_52 rfl) <|
  .cons (ix_s_getr (j := 0) tu_X11 rfl (by decide) (by decide) tw_875 rfl ts_10_0_r dX11_feed_53) <|
  .cons (ix_s_iconst dX11_feed_56 (by decide +kernel)) <|
  .cons (ix_s_iald dX11_feed_57) <|
  .cons (ix_s_iadd dX11_feed_58) <|
  .cons (ix_s_lload_n dX11_feed_59 rfl) <|
  .cons (ix_s_bipush dX11_feed_60 (by decide +kernel)) <|
  .cons (ix_s_iload dX11_feed_62) <|
  .cons (ix_s_imul dX11_feed_64) <|
  .cons (ix_s_lshr dX11_feed_65) <|
  .cons (ix_s_ldc2 tw_968 dX11_feed_66) <|
  .cons (ix_s_land dX11_feed_69) <|
  .cons (ix_s_l2i dX11_feed_70) <|
  .cons (ix_s_iast dX11_feed_71) <|
  .cons (ix_s_aload_n dX11_feed_72 rfl) <|
  .cons (ix_s_getr (j := 0) tu_X11 rfl (by decide) (by decide) tw_875 rfl ts_10_0_r dX11_feed_73) <|
  .cons (ix_s_iconst dX11_feed_76 (by decide +kernel)) <|
  .cons (ix_s_dup2 dX11_feed_77) <|
  .cons (ix_s_iald dX11_feed_78) <|
  .cons (ix_s_iconst dX11_feed_79 (by decide +kernel)) <|
  .cons (ix_s_iadd dX11_feed_80) <|
  .cons (ix_s_iast dX11_feed_81) <|
  .cons (ix_s_iinc dX11_feed_82 (by decide +kernel) (by decide)) <|
  .cons (ix_s_goto dX11_feed_85 (by decide)) <|
  .cons (ix_s_aload_n dX11_feed_88 rfl) <|
  .cons (ix_s_getr (j := 0) tu_X11 rfl (by decide) (by decide) tw_875 rfl ts_10_0_r dX11_feed_89) <|
  .cons (ix_s_iconst dX11_feed_92 (by decide +kernel)) <|
  .cons (ix_s_iald dX11_feed_93) <|
  .cons (ix_s_iret dX11_feed_94 rfl) <| .nil
theorem e_X11_feed_0 (Q : ix_R → Prop) (ls : ix_L) (st : List ix_V) (μ : ix_M) : ix_Ev o_X11_feed Q (0, ls, st, μ) = ix_iload 3 1 (ix_Ev o_X11_feed Q) Q ls st μ := ix_Ev.eq (a_X11_feed launch0) rfl ls st μ
theorem e_X11_feed_1 (Q : ix_R → Prop) (ls : ix_L) (st : List ix_V) (μ : ix_M) : ix_Ev o_X11_feed Q (1, ls, st, μ) = ix_push (vi 1) 2 (ix_Ev o_X11_feed Q) Q ls st μ := ix_Ev.eq (a_X11_feed launch0) rfl ls st μ
theorem e_X11_feed_2 (Q : ix_R → Prop) (ls : ix_L) (st : List ix_V) (μ : ix_M) : ix_Ev o_X11_feed Q (2, ls, st, μ) = ix_push (vi 8) 4 (ix_Ev o_X11_feed Q) Q ls st μ := ix_Ev.eq (a_X11_feed launch0) rfl ls st μ
theorem e_X11_feed_4 (Q : ix_R → Prop) (ls : ix_L) (st : List ix_V) (μ : ix_M) : ix_Ev o_X11_feed Q (4, ls, st, μ) = oc_X11_within 7 (ix_Ev o_X11_feed Q) Q ls st μ := ix_Ev.eq (a_X11_feed launch0) rfl ls st μ
theorem e_X11_feed_7 (Q : ix_R → Prop) (ls : ix_L) (st : List ix_V) (μ : ix_M) : ix_Ev o_X11_feed Q (7, ls, st, μ) = ix_if (fun x => x = 0) 10 17 (ix_Ev o_X11_feed Q) Q ls st μ := ix_Ev.eq (a_X11_feed launch0) rfl ls st μ
theorem e_X11_feed_10 (Q : ix_R → Prop) (ls : ix_L) (st : List ix_V) (μ : ix_M) : ix_Ev o_X11_feed Q (10, ls, st, μ) = ix_aload 0 11 (ix_Ev o_X11_feed Q) Q ls st μ := ix_Ev.eq (a_X11_feed launch0) rfl ls st μ
theorem e_X11_feed_11 (Q : ix_R → Prop) (ls : ix_L) (st : List ix_V) (μ : ix_M) : ix_Ev o_X11_feed Q (11, ls, st, μ) = ix_push (vi (-1000000001)) 13 (ix_Ev o_X11_feed Q) Q ls st μ := ix_Ev.eq (a_X11_feed launch0) rfl ls st μ
theorem e_X11_feed_13 (Q : ix_R → Prop) (ls : ix_L) (st : List ix_V) (μ : ix_M) : ix_Ev o_X11_feed Q (13, ls, st, μ) = oc_X11_finding 16 (ix_Ev o_X11_feed Q) Q ls st μ := ix_Ev.eq (a_X11_feed launch0) rfl ls st μ
theorem e_X11_feed_16 (Q : ix_R → Prop) (ls : ix_L) (st : List ix_V) (μ : ix_M) : ix_Ev o_X11_feed Q (16, ls, st, μ) = ix_iret (ix_Ev o_X11_feed Q) Q ls st μ := ix_Ev.eq (a_X11_feed launch0) rfl ls st μ
theorem e_X11_feed_17 (Q : ix_R → Prop) (ls : ix_L) (st : List ix_V) (μ : ix_M) : ix_Ev o_X11_feed Q (17, ls, st, μ) = ix_aload 0 18 (ix_Ev o_X11_feed Q) Q ls st μ := ix_Ev.eq (a_X11_feed launch0) rfl ls st μ
theorem e_X11_feed_18 (Q : ix_R → Prop) (ls : ix_L) (st : List ix_V) (μ : ix_M) : ix_Ev o_X11_feed Q (18, ls, st, μ) = ix_getr 10 20 (fun _ => 113) 21 (ix_Ev o_X11_feed Q) Q ls st μ := ix_Ev.eq (a_X11_feed launch0) rfl ls st μ
theorem e_X11_feed_21 (Q : ix_R → Prop) (ls : ix_L) (st : List ix_V) (μ : ix_M) : ix_Ev o_X11_feed Q (21, ls, st, μ) = ix_push (vi 4) 22 (ix_Ev o_X11_feed Q) Q ls st μ := ix_Ev.eq (a_X11_feed launch0) rfl ls st μ
theorem e_X11_feed_22 (Q : ix_R → Prop) (ls : ix_L) (st : List ix_V) (μ : ix_M) : ix_Ev o_X11_feed Q (22, ls, st, μ) = ix_iald 23 (ix_Ev o_X11_feed Q) Q ls st μ := ix_Ev.eq (a_X11_feed launch0) rfl ls st μ
theorem e_X11_feed_23 (Q : ix_R → Prop) (ls : ix_L) (st : List ix_V) (μ : ix_M) : ix_Ev o_X11_feed Q (23, ls, st, μ) = ix_iload 3 24 (ix_Ev o_X11_feed Q) Q ls st μ := ix_Ev.eq (a_X11_feed launch0) rfl ls st μ
theorem e_X11_feed_24 (Q : ix_R → Prop) (ls : ix_L) (st : List ix_V) (μ : ix_M) : ix_Ev o_X11_feed Q (24, ls, st, μ) = ix_bin (fun x y => x + y) 25 (ix_Ev o_X11_feed Q) Q ls st μ := ix_Ev.eq (a_X11_feed launch0) rfl ls st μ
theorem e_X11_feed_25 (Q : ix_R → Prop) (ls : ix_L) (st : List ix_V) (μ : ix_M) : ix_Ev o_X11_feed Q (25, ls, st, μ) = ix_push (vi 50) 27 (ix_Ev o_X11_feed Q) Q ls st μ := ix_Ev.eq (a_X11_feed launch0) rfl ls st μ
theorem e_X11_feed_27 (Q : ix_R → Prop) (ls : ix_L) (st : List ix_V) (μ : ix_M) : ix_Ev o_X11_feed Q (27, ls, st, μ) = ix_cmp (fun x y => x ≤ y) 37 30 (ix_Ev o_X11_feed Q) Q ls st μ := ix_Ev.eq (a_X11_feed launch0) rfl ls st μ
theorem e_X11_feed_30 (Q : ix_R → Prop) (ls : ix_L) (st : List ix_V) (μ : ix_M) : ix_Ev o_X11_feed Q (30, ls, st, μ) = ix_aload 0 31 (ix_Ev o_X11_feed Q) Q ls st μ := ix_Ev.eq (a_X11_feed launch0) rfl ls st μ
theorem e_X11_feed_31 (Q : ix_R → Prop) (ls : ix_L) (st : List ix_V) (μ : ix_M) : ix_Ev o_X11_feed Q (31, ls, st, μ) = ix_push (vi (-1000000004)) 33 (ix_Ev o_X11_feed Q) Q ls st μ := ix_Ev.eq (a_X11_feed launch0) rfl ls st μ
theorem e_X11_feed_33 (Q : ix_R → Prop) (ls : ix_L) (st : List ix_V) (μ : ix_M) : ix_Ev o_X11_feed Q (33, ls, st, μ) = oc_X11_finding 36 (ix_Ev o_X11_feed Q) Q ls st μ := ix_Ev.eq (a_X11_feed launch0) rfl ls st μ
theorem e_X11_feed_36 (Q : ix_R → Prop) (ls : ix_L) (st : List ix_V) (μ : ix_M) : ix_Ev o_X11_feed Q (36, ls, st, μ) = ix_iret (ix_Ev o_X11_feed Q) Q ls st μ := ix_Ev.eq (a_X11_feed launch0) rfl ls st μ
theorem e_X11_feed_37 (Q : ix_R → Prop) (ls : ix_L) (st : List ix_V) (μ : ix_M) : ix_Ev o_X11_feed Q (37, ls, st, μ) = ix_push (vi 0) 38 (ix_Ev o_X11_feed Q) Q ls st μ := ix_Ev.eq (a_X11_feed launch0) rfl ls st μ
theorem e_X11_feed_38 (Q : ix_R → Prop) (ls : ix_L) (st : List ix_V) (μ : ix_M) : ix_Ev o_X11_feed Q (38, ls, st, μ) = ix_istore 4 40 (ix_Ev o_X11_feed Q) Q ls st μ := ix_Ev.eq (a_X11_feed launch0) rfl ls st μ
theorem e_X11_feed_40 (Q : ix_R → Prop) (ls : ix_L) (st : List ix_V) (μ : ix_M) : ix_Ev o_X11_feed Q (40, ls, st, μ) = ix_iload 4 42 (ix_Ev o_X11_feed Q) Q ls st μ := ix_Ev.eq (a_X11_feed launch0) rfl ls st μ
theorem e_X11_feed_42 (Q : ix_R → Prop) (ls : ix_L) (st : List ix_V) (μ : ix_M) : ix_Ev o_X11_feed Q (42, ls, st, μ) = ix_iload 3 43 (ix_Ev o_X11_feed Q) Q ls st μ := ix_Ev.eq (a_X11_feed launch0) rfl ls st μ
theorem e_X11_feed_43 (Q : ix_R → Prop) (ls : ix_L) (st : List ix_V) (μ : ix_M) : ix_Ev o_X11_feed Q (43, ls, st, μ) = ix_cmp (fun x y => y ≤ x) 88 46 (ix_Ev o_X11_feed Q) Q ls st μ := ix_Ev.eq (a_X11_feed launch0) rfl ls st μ
theorem e_X11_feed_46 (Q : ix_R → Prop) (ls : ix_L) (st : List ix_V) (μ : ix_M) : ix_Ev o_X11_feed Q (46, ls, st, μ) = ix_aload 0 47 (ix_Ev o_X11_feed Q) Q ls st μ := ix_Ev.eq (a_X11_feed launch0) rfl ls st μ
theorem e_X11_feed_47 (Q : ix_R → Prop) (ls : ix_L) (st : List ix_V) (μ : ix_M) : ix_Ev o_X11_feed Q (47, ls, st, μ) = ix_getr 10 20 (fun _ => 113) 50 (ix_Ev o_X11_feed Q) Q ls st μ := ix_Ev.eq (a_X11_feed launch0) rfl ls st μ
theorem e_X11_feed_50 (Q : ix_R → Prop) (ls : ix_L) (st : List ix_V) (μ : ix_M) : ix_Ev o_X11_feed Q (50, ls, st, μ) = ix_push (vi 82) 52 (ix_Ev o_X11_feed Q) Q ls st μ := ix_Ev.eq (a_X11_feed launch0) rfl ls st μ
theorem e_X11_feed_52 (Q : ix_R → Prop) (ls : ix_L) (st : List ix_V) (μ : ix_M) : ix_Ev o_X11_feed Q (52, ls, st, μ) = ix_aload 0 53 (ix_Ev o_X11_feed Q) Q ls st μ := ix_Ev.eq (a_X11_feed launch0) rfl ls st μ
theorem e_X11_feed_53 (Q : ix_R → Prop) (ls : ix_L) (st : List ix_V) (μ : ix_M) : ix_Ev o_X11_feed Q (53, ls, st, μ) = ix_getr 10 20 (fun _ => 113) 56 (ix_Ev o_X11_feed Q) Q ls st μ := ix_Ev.eq (a_X11_feed launch0) rfl ls st μ
theorem e_X11_feed_56 (Q : ix_R → Prop) (ls : ix_L) (st : List ix_V) (μ : ix_M) : ix_Ev o_X11_feed Q (56, ls, st, μ) = ix_push (vi 4) 57 (ix_Ev o_X11_feed Q) Q ls st μ := ix_Ev.eq (a_X11_feed launch0) rfl ls st μ
theorem e_X11_feed_57 (Q : ix_R → Prop) (ls : ix_L) (st : List ix_V) (μ : ix_M) : ix_Ev o_X11_feed Q (57, ls, st, μ) = ix_iald 58 (ix_Ev o_X11_feed Q) Q ls st μ := ix_Ev.eq (a_X11_feed launch0) rfl ls st μ
theorem e_X11_feed_58 (Q : ix_R → Prop) (ls : ix_L) (st : List ix_V) (μ : ix_M) : ix_Ev o_X11_feed Q (58, ls, st, μ) = ix_bin (fun x y => x + y) 59 (ix_Ev o_X11_feed Q) Q ls st μ := ix_Ev.eq (a_X11_feed launch0) rfl ls st μ
theorem e_X11_feed_59 (Q : ix_R → Prop) (ls : ix_L) (st : List ix_V) (μ : ix_M) : ix_Ev o_X11_feed Q (59, ls, st, μ) = ix_lload 1 60 (ix_Ev o_X11_feed Q) Q ls st μ := ix_Ev.eq (a_X11_feed launch0) rfl ls st μ
theorem e_X11_feed_60 (Q : ix_R → Prop) (ls : ix_L) (st : List ix_V) (μ : ix_M) : ix_Ev o_X11_feed Q (60, ls, st, μ) = ix_push (vi 8) 62 (ix_Ev o_X11_feed Q) Q ls st μ := ix_Ev.eq (a_X11_feed launch0) rfl ls st μ
theorem e_X11_feed_62 (Q : ix_R → Prop) (ls : ix_L) (st : List ix_V) (μ : ix_M) : ix_Ev o_X11_feed Q (62, ls, st, μ) = ix_iload 4 64 (ix_Ev o_X11_feed Q) Q ls st μ := ix_Ev.eq (a_X11_feed launch0) rfl ls st μ
theorem e_X11_feed_64 (Q : ix_R → Prop) (ls : ix_L) (st : List ix_V) (μ : ix_M) : ix_Ev o_X11_feed Q (64, ls, st, μ) = ix_bin (fun x y => x * y) 65 (ix_Ev o_X11_feed Q) Q ls st μ := ix_Ev.eq (a_X11_feed launch0) rfl ls st μ
theorem e_X11_feed_65 (Q : ix_R → Prop) (ls : ix_L) (st : List ix_V) (μ : ix_M) : ix_Ev o_X11_feed Q (65, ls, st, μ) = ix_lsh (fun x y => x >>> (y.toInt64 &&& 63)) 66 (ix_Ev o_X11_feed Q) Q ls st μ := ix_Ev.eq (a_X11_feed launch0) rfl ls st μ
theorem e_X11_feed_66 (Q : ix_R → Prop) (ls : ix_L) (st : List ix_V) (μ : ix_M) : ix_Ev o_X11_feed Q (66, ls, st, μ) = ix_push (vl 255) 69 (ix_Ev o_X11_feed Q) Q ls st μ := ix_Ev.eq (a_X11_feed launch0) rfl ls st μ
theorem e_X11_feed_69 (Q : ix_R → Prop) (ls : ix_L) (st : List ix_V) (μ : ix_M) : ix_Ev o_X11_feed Q (69, ls, st, μ) = ix_lbin (fun x y => x &&& y) 70 (ix_Ev o_X11_feed Q) Q ls st μ := ix_Ev.eq (a_X11_feed launch0) rfl ls st μ
theorem e_X11_feed_70 (Q : ix_R → Prop) (ls : ix_L) (st : List ix_V) (μ : ix_M) : ix_Ev o_X11_feed Q (70, ls, st, μ) = ix_l2i 71 (ix_Ev o_X11_feed Q) Q ls st μ := ix_Ev.eq (a_X11_feed launch0) rfl ls st μ
theorem e_X11_feed_71 (Q : ix_R → Prop) (ls : ix_L) (st : List ix_V) (μ : ix_M) : ix_Ev o_X11_feed Q (71, ls, st, μ) = ix_iast 72 (ix_Ev o_X11_feed Q) Q ls st μ := ix_Ev.eq (a_X11_feed launch0) rfl ls st μ
theorem e_X11_feed_72 (Q : ix_R → Prop) (ls : ix_L) (st : List ix_V) (μ : ix_M) : ix_Ev o_X11_feed Q (72, ls, st, μ) = ix_aload 0 73 (ix_Ev o_X11_feed Q) Q ls st μ := ix_Ev.eq (a_X11_feed launch0) rfl ls st μ
theorem e_X11_feed_73 (Q : ix_R → Prop) (ls : ix_L) (st : List ix_V) (μ : ix_M) : ix_Ev o_X11_feed Q (73, ls, st, μ) = ix_getr 10 20 (fun _ => 113) 76 (ix_Ev o_X11_feed Q) Q ls st μ := ix_Ev.eq (a_X11_feed launch0) rfl ls st μ
theorem e_X11_feed_76 (Q : ix_R → Prop) (ls : ix_L) (st : List ix_V) (μ : ix_M) : ix_Ev o_X11_feed Q (76, ls, st, μ) = ix_push (vi 4) 77 (ix_Ev o_X11_feed Q) Q ls st μ := ix_Ev.eq (a_X11_feed launch0) rfl ls st μ
theorem e_X11_feed_77 (Q : ix_R → Prop) (ls : ix_L) (st : List ix_V) (μ : ix_M) : ix_Ev o_X11_feed Q (77, ls, st, μ) = ix_dup2 78 (ix_Ev o_X11_feed Q) Q ls st μ := ix_Ev.eq (a_X11_feed launch0) rfl ls st μ
theorem e_X11_feed_78 (Q : ix_R → Prop) (ls : ix_L) (st : List ix_V) (μ : ix_M) : ix_Ev o_X11_feed Q (78, ls, st, μ) = ix_iald 79 (ix_Ev o_X11_feed Q) Q ls st μ := ix_Ev.eq (a_X11_feed launch0) rfl ls st μ
theorem e_X11_feed_79 (Q : ix_R → Prop) (ls : ix_L) (st : List ix_V) (μ : ix_M) : ix_Ev o_X11_feed Q (79, ls, st, μ) = ix_push (vi 1) 80 (ix_Ev o_X11_feed Q) Q ls st μ := ix_Ev.eq (a_X11_feed launch0) rfl ls st μ
theorem e_X11_feed_80 (Q : ix_R → Prop) (ls : ix_L) (st : List ix_V) (μ : ix_M) : ix_Ev o_X11_feed Q (80, ls, st, μ) = ix_bin (fun x y => x + y) 81 (ix_Ev o_X11_feed Q) Q ls st μ := ix_Ev.eq (a_X11_feed launch0) rfl ls st μ
theorem e_X11_feed_81 (Q : ix_R → Prop) (ls : ix_L) (st : List ix_V) (μ : ix_M) : ix_Ev o_X11_feed Q (81, ls, st, μ) = ix_iast 82 (ix_Ev o_X11_feed Q) Q ls st μ := ix_Ev.eq (a_X11_feed launch0) rfl ls st μ
theorem e_X11_feed_82 (Q : ix_R → Prop) (ls : ix_L) (st : List ix_V) (μ : ix_M) : ix_Ev o_X11_feed Q (82, ls, st, μ) = ix_iinc 4 1 85 (ix_Ev o_X11_feed Q) Q ls st μ := ix_Ev.eq (a_X11_feed launch0) rfl ls st μ
theorem e_X11_feed_85 (Q : ix_R → Prop) (ls : ix_L) (st : List ix_V) (μ : ix_M) : ix_Ev o_X11_feed Q (85, ls, st, μ) = ix_goto 40 (ix_Ev o_X11_feed Q) Q ls st μ := ix_Ev.eq (a_X11_feed launch0) rfl ls st μ
theorem e_X11_feed_88 (Q : ix_R → Prop) (ls : ix_L) (st : List ix_V) (μ : ix_M) : ix_Ev o_X11_feed Q (88, ls, st, μ) = ix_aload 0 89 (ix_Ev o_X11_feed Q) Q ls st μ := ix_Ev.eq (a_X11_feed launch0) rfl ls st μ
theorem e_X11_feed_89 (Q : ix_R → Prop) (ls : ix_L) (st : List ix_V) (μ : ix_M) : ix_Ev o_X11_feed Q (89, ls, st, μ) = ix_getr 10 20 (fun _ => 113) 92 (ix_Ev o_X11_feed Q) Q ls st μ := ix_Ev.eq (a_X11_feed launch0) rfl ls st μ
theorem e_X11_feed_92 (Q : ix_R → Prop) (ls : ix_L) (st : List ix_V) (μ : ix_M) : ix_Ev o_X11_feed Q (92, ls, st, μ) = ix_push (vi 4) 93 (ix_Ev o_X11_feed Q) Q ls st μ := ix_Ev.eq (a_X11_feed launch0) rfl ls st μ
theorem e_X11_feed_93 (Q : ix_R → Prop) (ls : ix_L) (st : List ix_V) (μ : ix_M) : ix_Ev o_X11_feed Q (93, ls, st, μ) = ix_iald 94 (ix_Ev o_X11_feed Q) Q ls st μ := ix_Ev.eq (a_X11_feed launch0) rfl ls st μ
theorem e_X11_feed_94 (Q : ix_R → Prop) (ls : ix_L) (st : List ix_V) (μ : ix_M) : ix_Ev o_X11_feed Q (94, ls, st, μ) = ix_iret (ix_Ev o_X11_feed Q) Q ls st μ := ix_Ev.eq (a_X11_feed launch0) rfl ls st μ
theorem l_X10_feed {w : Int64} {K t : Nat} {μ0 : ix_M} {Q : ix_R → Prop} (hK : K ≤ 8) (ht : t + K ≤ 50) (hQ : ∀ μ', Fx [19, 20] μ0 μ' → μ' 19 1 = nI (t + K) → (∀ j, μ' 20 j = if t ≤ j ∧ j < t + K then bM w (j - t) else μ0 20 j) → Q (some (vi (nI (t + K))), μ')) : ∀ (k i : Nat) (μ : ix_M), i + k = K → Fx [19, 20] μ0 μ → μ 19 1 = nI (t + i) → (∀ j, μ 20 j = if t ≤ j ∧ j < t + i then bM w (j - t) else μ0 20 j) → ix_Ev o_X10_feed Q (43, [some (vr 9 0), some (vl w), none, some (vi (nI K)), some (vi (nI i))], [], μ) := by
  intro k
  induction k with
  | zero =>
    intro i μ hi hF h1 h2
    have hi : i = K := hi
    subst hi
    have c1 : nI i ≤ nI i := Int32.le_refl _
    rw [e_X10_feed_43]
    simp (decide := true) only [e_X10_feed_0, e_X10_feed_1, e_X10_feed_2, e_X10_feed_5, e_X10_feed_6, e_X10_feed_8, e_X10_feed_11, e_X10_feed_12, e_X10_feed_13, e_X10_feed_16, e_X10_feed_17, e_X10_feed_18, e_X10_feed_21, e_X10_feed_24, e_X10_feed_27, e_X10_feed_28, e_X10_feed_29, e_X10_feed_31, e_X10_feed_34, e_X10_feed_35, e_X10_feed_36, e_X10_feed_39, e_X10_feed_40, e_X10_feed_41, e_X10_feed_45, e_X10_feed_46, e_X10_feed_49, e_X10_feed_50, e_X10_feed_53, e_X10_feed_56, e_X10_feed_57, e_X10_feed_59, e_X10_feed_61, e_X10_feed_62, e_X10_feed_63, e_X10_feed_64, e_X10_feed_67, e_X10_feed_68, e_X10_feed_71, e_X10_feed_74, e_X10_feed_77, e_X10_feed_78, e_X10_feed_81, e_X10_feed_84, e_X10_feed_87, vi, vl, vr, oc_X10_error, T_X10_error, oc_X4_add, T_X4_add, ix_push, ix_iload, ix_lload, ix_aload, ix_istore, ix_astore, ix_iinc, ix_bin, ix_div, ix_un, ix_i2l, ix_l2i, ix_lbin, ix_lsh, ix_lcmp, ix_dup, ix_dup2, ix_pop, ix_if, ix_cmp, ix_goto, ix_switch, ix_sw, ix_iret, ix_zret, ix_vret, ix_aret, ix_geti, ix_getr, ix_puti, ix_putz, ix_puts, ix_gets, ix_iald, ix_iast, ix_alen, ix_aald, ix_gval, ix_gcod, ix_bald, ix_blen, ix_sald, ix_nret, ix_math2, ix_math1, ix_acopy, Nat.add_assoc, Int32.reduceLT, Int32.reduceLE, Int32.reduceToNatClampNeg, Int32.reduceSub, Int32.reduceAdd, Nat.reduceAdd, Nat.reduceLeDiff, true_or, or_true, or_false, false_or, not_false_eq_true, not_true_eq_false, false_implies, true_implies, implies_true, and_self, mB_0, mB_01, Classical.not_not, Nat.zero_le, List.getElem?_cons_zero, List.getElem?_cons_succ, List.set_cons_zero, List.set_cons_succ, ix_nl, ix_cs, true_and, and_true, Option.toList_some, Option.toList_none, List.cons_append, List.nil_append, c1, h1]
    exact hQ μ hF h1 h2
  | succ k ih =>
    intro i μ hi hF h1 h2
    have c1 : ¬ nI K ≤ nI i := nI_ge (by omega) (by omega)
    have n1 : nI i + 1 = nI (i + 1) := nI_1 i
    have rk : RowOk μ 19 := rowOk (m := 50) h1 (by omega) rfl (by decide)
    have er : ∀ v, rAdd μ 19 v = ix_up (ix_up μ 20 (t + i) v) 19 1 (nI (t + i + 1)) := fun v => rAdd_eq h1 (m := 50) rfl (by omega) (by decide)
    have eb := bM_c w i (by omega)
    rw [e_X10_feed_43]
    simp (decide := true) only [e_X10_feed_0, e_X10_feed_1, e_X10_feed_2, e_X10_feed_5, e_X10_feed_6, e_X10_feed_8, e_X10_feed_11, e_X10_feed_12, e_X10_feed_13, e_X10_feed_16, e_X10_feed_17, e_X10_feed_18, e_X10_feed_21, e_X10_feed_24, e_X10_feed_27, e_X10_feed_28, e_X10_feed_29, e_X10_feed_31, e_X10_feed_34, e_X10_feed_35, e_X10_feed_36, e_X10_feed_39, e_X10_feed_40, e_X10_feed_41, e_X10_feed_45, e_X10_feed_46, e_X10_feed_49, e_X10_feed_50, e_X10_feed_53, e_X10_feed_56, e_X10_feed_57, e_X10_feed_59, e_X10_feed_61, e_X10_feed_62, e_X10_feed_63, e_X10_feed_64, e_X10_feed_67, e_X10_feed_68, e_X10_feed_71, e_X10_feed_74, e_X10_feed_77, e_X10_feed_78, e_X10_feed_81, e_X10_feed_84, e_X10_feed_87, vi, vl, vr, oc_X10_error, T_X10_error, oc_X4_add, T_X4_add, ix_push, ix_iload, ix_lload, ix_aload, ix_istore, ix_astore, ix_iinc, ix_bin, ix_div, ix_un, ix_i2l, ix_l2i, ix_lbin, ix_lsh, ix_lcmp, ix_dup, ix_dup2, ix_pop, ix_if, ix_cmp, ix_goto, ix_switch, ix_sw, ix_iret, ix_zret, ix_vret, ix_aret, ix_geti, ix_getr, ix_puti, ix_putz, ix_puts, ix_gets, ix_iald, ix_iast, ix_alen, ix_aald, ix_gval, ix_gcod, ix_bald, ix_blen, ix_sald, ix_nret, ix_math2, ix_math1, ix_acopy, Nat.add_assoc, Int32.reduceLT, Int32.reduceLE, Int32.reduceToNatClampNeg, Int32.reduceSub, Int32.reduceAdd, Nat.reduceAdd, Nat.reduceLeDiff, true_or, or_true, or_false, false_or, not_false_eq_true, not_true_eq_false, false_implies, true_implies, implies_true, and_self, mB_0, mB_01, Classical.not_not, Nat.zero_le, List.getElem?_cons_zero, List.getElem?_cons_succ, List.set_cons_zero, List.set_cons_succ, ix_nl, ix_cs, true_and, and_true, Option.toList_some, Option.toList_none, List.cons_append, List.nil_append, c1, n1, rk, eb]
    rw [er]
    refine ih (i + 1) _ (by omega) ((hF.up (by simp)).up (by simp)) (ix_up_k _ _ _ _) (fun j => ?_)
    rw [ix_up_ne (by decide), ix_up_ap]
    by_cases c : j = t + i
    · rw [if_pos ⟨rfl, c⟩, if_pos (by omega), c, show t + i - t = i by omega]
    · rw [if_neg (fun z => c z.2), h2 j]
      by_cases c2 : t ≤ j ∧ j < t + i
      · rw [if_pos c2, if_pos (by omega)]
      · rw [if_neg c2, if_neg (by omega)]
theorem l_X11_feed {w : Int64} {K t : Nat} {μ0 : ix_M} {Q : ix_R → Prop} (hK : K ≤ 8) (ht : t + K ≤ 50) (hQ : ∀ μ', Fx [113] μ0 μ' → (∀ j, μ' 113 j = if j = 4 then nI (t + K) else if 82 + t ≤ j ∧ j < 82 + t + K then bM w (j - (82 + t)) else μ0 113 j) → Q (some (vi (nI (t + K))), μ')) : ∀ (k i : Nat) (μ : ix_M), i + k = K → Fx [113] μ0 μ → (∀ j, μ 113 j = if j = 4 then nI (t + i) else if 82 + t ≤ j ∧ j < 82 + t + i then bM w (j - (82 + t)) else μ0 113 j) → ix_Ev o_X11_feed Q (40, [some (vr 10 112), some (vl w), none, some (vi (nI K)), some (vi (nI i))], [], μ) := by
  intro k
  induction k with
  | zero =>
    intro i μ hi hF h2
    have hi : i = K := hi
    subst hi
    have c1 : nI i ≤ nI i := Int32.le_refl _
    have h4 : μ 113 4 = nI (t + i) := by rw [h2 4, if_pos rfl]
    rw [e_X11_feed_40]
    simp (decide := true) only [e_X11_feed_0, e_X11_feed_1, e_X11_feed_2, e_X11_feed_4, e_X11_feed_7, e_X11_feed_10, e_X11_feed_11, e_X11_feed_13, e_X11_feed_16, e_X11_feed_17, e_X11_feed_18, e_X11_feed_21, e_X11_feed_22, e_X11_feed_23, e_X11_feed_24, e_X11_feed_25, e_X11_feed_27, e_X11_feed_30, e_X11_feed_31, e_X11_feed_33, e_X11_feed_36, e_X11_feed_37, e_X11_feed_38, e_X11_feed_42, e_X11_feed_43, e_X11_feed_46, e_X11_feed_47, e_X11_feed_50, e_X11_feed_52, e_X11_feed_53, e_X11_feed_56, e_X11_feed_57, e_X11_feed_58, e_X11_feed_59, e_X11_feed_60, e_X11_feed_62, e_X11_feed_64, e_X11_feed_65, e_X11_feed_66, e_X11_feed_69, e_X11_feed_70, e_X11_feed_71, e_X11_feed_72, e_X11_feed_73, e_X11_feed_76, e_X11_feed_77, e_X11_feed_78, e_X11_feed_79, e_X11_feed_80, e_X11_feed_81, e_X11_feed_82, e_X11_feed_85, e_X11_feed_88, e_X11_feed_89, e_X11_feed_92, e_X11_feed_93, e_X11_feed_94, vi, vl, vr, oc_X11_finding, T_X11_finding, oc_X11_within, T_X11_within, ix_push, ix_iload, ix_lload, ix_aload, ix_istore, ix_astore, ix_iinc, ix_bin, ix_div, ix_un, ix_i2l, ix_l2i, ix_lbin, ix_lsh, ix_lcmp, ix_dup, ix_dup2, ix_pop, ix_if, ix_cmp, ix_goto, ix_switch, ix_sw, ix_iret, ix_zret, ix_vret, ix_aret, ix_geti, ix_getr, ix_puti, ix_putz, ix_puts, ix_gets, ix_iald, ix_iast, ix_alen, ix_aald, ix_gval, ix_gcod, ix_bald, ix_blen, ix_sald, ix_nret, ix_math2, ix_math1, ix_acopy, ml_113, ml_114, ml_115, ml_116, ml_118, ml_119, ml_120, ml_121, ml_122, ml_123, ml_124, ml_125, ml_126, mv_0, mv_1, mv_2, mv_3, mv_4, mv_5, mB_or, Nat.add_assoc, Int32.reduceLT, Int32.reduceLE, Int32.reduceToNatClampNeg, Int32.reduceSub, Int32.reduceAdd, Nat.reduceAdd, Nat.reduceLeDiff, true_or, or_true, or_false, false_or, not_false_eq_true, not_true_eq_false, false_implies, true_implies, implies_true, and_self, mB_0, mB_01, Classical.not_not, Nat.zero_le, List.getElem?_cons_zero, List.getElem?_cons_succ, List.set_cons_zero, List.set_cons_succ, ix_nl, ix_cs, true_and, and_true, Option.toList_some, Option.toList_none, List.cons_append, List.nil_append, c1, h4]
    exact hQ μ hF h2
  | succ k ih =>
    intro i μ hi hF h2
    have c1 : ¬ nI K ≤ nI i := nI_ge (by omega) (by omega)
    have n1 : nI i + 1 = nI (i + 1) := nI_1 i
    have h4 : μ 113 4 = nI (t + i) := by rw [h2 4, if_pos rfl]
    obtain ⟨y1, y2, y3⟩ := mix 82 (t + i) (by omega)
    have y1 : (82 : Int32) + nI (t + i) = nI (82 + (t + i)) := y1
    rw [e_X11_feed_40]
    simp (decide := true) only [e_X11_feed_0, e_X11_feed_1, e_X11_feed_2, e_X11_feed_4, e_X11_feed_7, e_X11_feed_10, e_X11_feed_11, e_X11_feed_13, e_X11_feed_16, e_X11_feed_17, e_X11_feed_18, e_X11_feed_21, e_X11_feed_22, e_X11_feed_23, e_X11_feed_24, e_X11_feed_25, e_X11_feed_27, e_X11_feed_30, e_X11_feed_31, e_X11_feed_33, e_X11_feed_36, e_X11_feed_37, e_X11_feed_38, e_X11_feed_42, e_X11_feed_43, e_X11_feed_46, e_X11_feed_47, e_X11_feed_50, e_X11_feed_52, e_X11_feed_53, e_X11_feed_56, e_X11_feed_57, e_X11_feed_58, e_X11_feed_59, e_X11_feed_60, e_X11_feed_62, e_X11_feed_64, e_X11_feed_65, e_X11_feed_66, e_X11_feed_69, e_X11_feed_70, e_X11_feed_71, e_X11_feed_72, e_X11_feed_73, e_X11_feed_76, e_X11_feed_77, e_X11_feed_78, e_X11_feed_79, e_X11_feed_80, e_X11_feed_81, e_X11_feed_82, e_X11_feed_85, e_X11_feed_88, e_X11_feed_89, e_X11_feed_92, e_X11_feed_93, e_X11_feed_94, vi, vl, vr, oc_X11_finding, T_X11_finding, oc_X11_within, T_X11_within, ix_push, ix_iload, ix_lload, ix_aload, ix_istore, ix_astore, ix_iinc, ix_bin, ix_div, ix_un, ix_i2l, ix_l2i, ix_lbin, ix_lsh, ix_lcmp, ix_dup, ix_dup2, ix_pop, ix_if, ix_cmp, ix_goto, ix_switch, ix_sw, ix_iret, ix_zret, ix_vret, ix_aret, ix_geti, ix_getr, ix_puti, ix_putz, ix_puts, ix_gets, ix_iald, ix_iast, ix_alen, ix_aald, ix_gval, ix_gcod, ix_bald, ix_blen, ix_sald, ix_nret, ix_math2, ix_math1, ix_acopy, ml_113, ml_114, ml_115, ml_116, ml_118, ml_119, ml_120, ml_121, ml_122, ml_123, ml_124, ml_125, ml_126, mv_0, mv_1, mv_2, mv_3, mv_4, mv_5, mB_or, Nat.add_assoc, Int32.reduceLT, Int32.reduceLE, Int32.reduceToNatClampNeg, Int32.reduceSub, Int32.reduceAdd, Nat.reduceAdd, Nat.reduceLeDiff, true_or, or_true, or_false, false_or, not_false_eq_true, not_true_eq_false, false_implies, true_implies, implies_true, and_self, mB_0, mB_01, Classical.not_not, Nat.zero_le, List.getElem?_cons_zero, List.getElem?_cons_succ, List.set_cons_zero, List.set_cons_succ, ix_nl, ix_cs, true_and, and_true, Option.toList_some, Option.toList_none, List.cons_append, List.nil_append, c1, n1, h4, y1, y2, y3]
    have e4 : ∀ v, ix_up μ 113 (82 + (t + i)) v 113 4 = nI (t + i) := fun v => by rw [ix_up_ap, if_neg (by omega)]; exact h4
    rw [e4, nI_1]
    refine ih (i + 1) _ (by omega) ((hF.up (by simp)).up (by simp)) (fun j => ?_)
    rw [ix_up_ap]
    by_cases c : j = 4
    · rw [if_pos ⟨rfl, c⟩, if_pos c]
      rfl
    · rw [if_neg (fun z => c z.2), if_neg c, ix_up_ap]
      by_cases c3 : j = 82 + (t + i)
      · rw [if_pos ⟨rfl, c3⟩, if_pos (by omega), show j - (82 + t) = i by omega]
        rfl
      · rw [if_neg (fun z => c3 z.2), h2 j, if_neg c]
        by_cases c2 : 82 + t ≤ j ∧ j < 82 + t + i
        · rw [if_pos c2, if_pos (by omega)]
        · rw [if_neg c2, if_neg (by omega)]
theorem pr_feed (w : Int64) (n : Int32) (μ : ix_M) (I : Inv μ) (Q : ix_R → Prop) (hQ : ∀ vv μ', ix_Ev o_X11_feed (Pst vv) (0, [some (vr 10 112), some (vl w), none, some (vi n), none], [], μ') → Q (some (vi vv), μ')) : ix_Ev o_X10_feed Q (0, [some (vr 9 0), some (vl w), none, some (vi n), none], [], μ) := by
  obtain ⟨s1, s2, ⟨t, t1, t2, t3, t4⟩, s4, s5, s6, s7⟩ := I.1
  have t2 : μ 19 1 = nI t := t2
  by_cases h : 1 ≤ n ∧ n ≤ 8
  · have h1 : ¬ n < 1 := Int32.not_lt.mpr h.1
    have h2 : ¬ 8 < n := Int32.not_lt.mpr h.2
    obtain ⟨K, hK, rfl⟩ := nI_of2 (n := 8) (M := 8) rfl (fun z => h1 (by rw [fa_lt] at z ⊢; exact Int.lt_trans z (by decide))) h.2
    have e1 : nI t + nI K = nI (t + K) := nI_add t K
    by_cases c : 50 < t + K
    · have c1 : ¬ nI (t + K) ≤ 50 := nI_ge (a := 50) (b := t + K) c (by omega)
      have c2 : 50 < nI (t + K) := Int32.not_le.mp c1
      simp (decide := true) only [e_X10_feed_0, e_X10_feed_1, e_X10_feed_2, e_X10_feed_5, e_X10_feed_6, e_X10_feed_8, e_X10_feed_11, e_X10_feed_12, e_X10_feed_13, e_X10_feed_16, e_X10_feed_17, e_X10_feed_18, e_X10_feed_21, e_X10_feed_24, e_X10_feed_27, e_X10_feed_28, e_X10_feed_29, e_X10_feed_31, e_X10_feed_34, e_X10_feed_35, e_X10_feed_36, e_X10_feed_39, e_X10_feed_40, e_X10_feed_41, e_X10_feed_45, e_X10_feed_46, e_X10_feed_49, e_X10_feed_50, e_X10_feed_53, e_X10_feed_56, e_X10_feed_57, e_X10_feed_59, e_X10_feed_61, e_X10_feed_62, e_X10_feed_63, e_X10_feed_64, e_X10_feed_67, e_X10_feed_68, e_X10_feed_71, e_X10_feed_74, e_X10_feed_77, e_X10_feed_78, e_X10_feed_81, e_X10_feed_84, e_X10_feed_87, vi, vl, vr, oc_X10_error, T_X10_error, oc_X4_add, T_X4_add, ix_push, ix_iload, ix_lload, ix_aload, ix_istore, ix_astore, ix_iinc, ix_bin, ix_div, ix_un, ix_i2l, ix_l2i, ix_lbin, ix_lsh, ix_lcmp, ix_dup, ix_dup2, ix_pop, ix_if, ix_cmp, ix_goto, ix_switch, ix_sw, ix_iret, ix_zret, ix_vret, ix_aret, ix_geti, ix_getr, ix_puti, ix_putz, ix_puts, ix_gets, ix_iald, ix_iast, ix_alen, ix_aald, ix_gval, ix_gcod, ix_bald, ix_blen, ix_sald, ix_nret, ix_math2, ix_math1, ix_acopy, Nat.add_assoc, Int32.reduceLT, Int32.reduceLE, Int32.reduceToNatClampNeg, Int32.reduceSub, Int32.reduceAdd, Nat.reduceAdd, Nat.reduceLeDiff, true_or, or_true, or_false, false_or, not_false_eq_true, not_true_eq_false, false_implies, true_implies, implies_true, and_self, mB_0, mB_01, Classical.not_not, Nat.zero_le, List.getElem?_cons_zero, List.getElem?_cons_succ, List.set_cons_zero, List.set_cons_succ, ix_nl, ix_cs, true_and, and_true, Option.toList_some, Option.toList_none, List.cons_append, List.nil_append, h1, h2, h, t2, t3, e1, c1, c2, ix_up_ne, ix_up_k, ve_1, ve_2, ve_3, ve_4, ve_5]
      refine hQ _ _ ?_
      simp (decide := true) only [e_X11_feed_0, e_X11_feed_1, e_X11_feed_2, e_X11_feed_4, e_X11_feed_7, e_X11_feed_10, e_X11_feed_11, e_X11_feed_13, e_X11_feed_16, e_X11_feed_17, e_X11_feed_18, e_X11_feed_21, e_X11_feed_22, e_X11_feed_23, e_X11_feed_24, e_X11_feed_25, e_X11_feed_27, e_X11_feed_30, e_X11_feed_31, e_X11_feed_33, e_X11_feed_36, e_X11_feed_37, e_X11_feed_38, e_X11_feed_42, e_X11_feed_43, e_X11_feed_46, e_X11_feed_47, e_X11_feed_50, e_X11_feed_52, e_X11_feed_53, e_X11_feed_56, e_X11_feed_57, e_X11_feed_58, e_X11_feed_59, e_X11_feed_60, e_X11_feed_62, e_X11_feed_64, e_X11_feed_65, e_X11_feed_66, e_X11_feed_69, e_X11_feed_70, e_X11_feed_71, e_X11_feed_72, e_X11_feed_73, e_X11_feed_76, e_X11_feed_77, e_X11_feed_78, e_X11_feed_79, e_X11_feed_80, e_X11_feed_81, e_X11_feed_82, e_X11_feed_85, e_X11_feed_88, e_X11_feed_89, e_X11_feed_92, e_X11_feed_93, e_X11_feed_94, vi, vl, vr, oc_X11_finding, T_X11_finding, oc_X11_within, T_X11_within, ix_push, ix_iload, ix_lload, ix_aload, ix_istore, ix_astore, ix_iinc, ix_bin, ix_div, ix_un, ix_i2l, ix_l2i, ix_lbin, ix_lsh, ix_lcmp, ix_dup, ix_dup2, ix_pop, ix_if, ix_cmp, ix_goto, ix_switch, ix_sw, ix_iret, ix_zret, ix_vret, ix_aret, ix_geti, ix_getr, ix_puti, ix_putz, ix_puts, ix_gets, ix_iald, ix_iast, ix_alen, ix_aald, ix_gval, ix_gcod, ix_bald, ix_blen, ix_sald, ix_nret, ix_math2, ix_math1, ix_acopy, ml_113, ml_114, ml_115, ml_116, ml_118, ml_119, ml_120, ml_121, ml_122, ml_123, ml_124, ml_125, ml_126, mv_0, mv_1, mv_2, mv_3, mv_4, mv_5, mB_or, Nat.add_assoc, Int32.reduceLT, Int32.reduceLE, Int32.reduceToNatClampNeg, Int32.reduceSub, Int32.reduceAdd, Nat.reduceAdd, Nat.reduceLeDiff, true_or, or_true, or_false, false_or, not_false_eq_true, not_true_eq_false, false_implies, true_implies, implies_true, and_self, mB_0, mB_01, Classical.not_not, Nat.zero_le, List.getElem?_cons_zero, List.getElem?_cons_succ, List.set_cons_zero, List.set_cons_succ, ix_nl, ix_cs, true_and, and_true, Option.toList_some, Option.toList_none, List.cons_append, List.nil_append, h1, h2, h, t2, t3, e1, c1, c2, ix_up_ne, ix_up_k, ve_1, ve_2, ve_3, ve_4, ve_5]
      repeat' (first | exact I.er 4 (by decide) | refine ⟨fun _ => ?_, fun _ => ?_⟩)
    · have c1 : nI (t + K) ≤ 50 := nI_le (a := t + K) (b := 50) (by omega) (by decide)
      have c2 : ¬ 50 < nI (t + K) := Int32.not_lt.mpr c1
      simp (decide := true) only [e_X10_feed_0, e_X10_feed_1, e_X10_feed_2, e_X10_feed_5, e_X10_feed_6, e_X10_feed_8, e_X10_feed_11, e_X10_feed_12, e_X10_feed_13, e_X10_feed_16, e_X10_feed_17, e_X10_feed_18, e_X10_feed_21, e_X10_feed_24, e_X10_feed_27, e_X10_feed_28, e_X10_feed_29, e_X10_feed_31, e_X10_feed_34, e_X10_feed_35, e_X10_feed_36, e_X10_feed_39, e_X10_feed_40, e_X10_feed_41, e_X10_feed_45, e_X10_feed_46, e_X10_feed_49, e_X10_feed_50, e_X10_feed_53, e_X10_feed_56, e_X10_feed_57, e_X10_feed_59, e_X10_feed_61, e_X10_feed_62, e_X10_feed_63, e_X10_feed_64, e_X10_feed_67, e_X10_feed_68, e_X10_feed_71, e_X10_feed_74, e_X10_feed_77, e_X10_feed_78, e_X10_feed_81, e_X10_feed_84, e_X10_feed_87, vi, vl, vr, oc_X10_error, T_X10_error, oc_X4_add, T_X4_add, ix_push, ix_iload, ix_lload, ix_aload, ix_istore, ix_astore, ix_iinc, ix_bin, ix_div, ix_un, ix_i2l, ix_l2i, ix_lbin, ix_lsh, ix_lcmp, ix_dup, ix_dup2, ix_pop, ix_if, ix_cmp, ix_goto, ix_switch, ix_sw, ix_iret, ix_zret, ix_vret, ix_aret, ix_geti, ix_getr, ix_puti, ix_putz, ix_puts, ix_gets, ix_iald, ix_iast, ix_alen, ix_aald, ix_gval, ix_gcod, ix_bald, ix_blen, ix_sald, ix_nret, ix_math2, ix_math1, ix_acopy, Nat.add_assoc, Int32.reduceLT, Int32.reduceLE, Int32.reduceToNatClampNeg, Int32.reduceSub, Int32.reduceAdd, Nat.reduceAdd, Nat.reduceLeDiff, true_or, or_true, or_false, false_or, not_false_eq_true, not_true_eq_false, false_implies, true_implies, implies_true, and_self, mB_0, mB_01, Classical.not_not, Nat.zero_le, List.getElem?_cons_zero, List.getElem?_cons_succ, List.set_cons_zero, List.set_cons_succ, ix_nl, ix_cs, true_and, and_true, Option.toList_some, Option.toList_none, List.cons_append, List.nil_append, h1, h2, h, t2, e1, c1, c2, ix_up_ne, ix_up_k, ve_1, ve_2, ve_3, ve_4, ve_5]
      refine l_X10_feed (K := K) (t := t) (μ0 := μ) hK (by omega) (fun μ1 F1 k1 k2 => hQ _ _ ?_) K 0 μ (by omega) Fx.rf t2 (fun j => by rw [if_neg (by omega)])
      have e113 : μ1 113 = μ 113 := F1 113 (by decide)
      have t3' : μ1 113 4 = nI t := by rw [e113]; exact t3
      simp (decide := true) only [e_X11_feed_0, e_X11_feed_1, e_X11_feed_2, e_X11_feed_4, e_X11_feed_7, e_X11_feed_10, e_X11_feed_11, e_X11_feed_13, e_X11_feed_16, e_X11_feed_17, e_X11_feed_18, e_X11_feed_21, e_X11_feed_22, e_X11_feed_23, e_X11_feed_24, e_X11_feed_25, e_X11_feed_27, e_X11_feed_30, e_X11_feed_31, e_X11_feed_33, e_X11_feed_36, e_X11_feed_37, e_X11_feed_38, e_X11_feed_42, e_X11_feed_43, e_X11_feed_46, e_X11_feed_47, e_X11_feed_50, e_X11_feed_52, e_X11_feed_53, e_X11_feed_56, e_X11_feed_57, e_X11_feed_58, e_X11_feed_59, e_X11_feed_60, e_X11_feed_62, e_X11_feed_64, e_X11_feed_65, e_X11_feed_66, e_X11_feed_69, e_X11_feed_70, e_X11_feed_71, e_X11_feed_72, e_X11_feed_73, e_X11_feed_76, e_X11_feed_77, e_X11_feed_78, e_X11_feed_79, e_X11_feed_80, e_X11_feed_81, e_X11_feed_82, e_X11_feed_85, e_X11_feed_88, e_X11_feed_89, e_X11_feed_92, e_X11_feed_93, e_X11_feed_94, vi, vl, vr, oc_X11_finding, T_X11_finding, oc_X11_within, T_X11_within, ix_push, ix_iload, ix_lload, ix_aload, ix_istore, ix_astore, ix_iinc, ix_bin, ix_div, ix_un, ix_i2l, ix_l2i, ix_lbin, ix_lsh, ix_lcmp, ix_dup, ix_dup2, ix_pop, ix_if, ix_cmp, ix_goto, ix_switch, ix_sw, ix_iret, ix_zret, ix_vret, ix_aret, ix_geti, ix_getr, ix_puti, ix_putz, ix_puts, ix_gets, ix_iald, ix_iast, ix_alen, ix_aald, ix_gval, ix_gcod, ix_bald, ix_blen, ix_sald, ix_nret, ix_math2, ix_math1, ix_acopy, ml_113, ml_114, ml_115, ml_116, ml_118, ml_119, ml_120, ml_121, ml_122, ml_123, ml_124, ml_125, ml_126, mv_0, mv_1, mv_2, mv_3, mv_4, mv_5, mB_or, Nat.add_assoc, Int32.reduceLT, Int32.reduceLE, Int32.reduceToNatClampNeg, Int32.reduceSub, Int32.reduceAdd, Nat.reduceAdd, Nat.reduceLeDiff, true_or, or_true, or_false, false_or, not_false_eq_true, not_true_eq_false, false_implies, true_implies, implies_true, and_self, mB_0, mB_01, Classical.not_not, Nat.zero_le, List.getElem?_cons_zero, List.getElem?_cons_succ, List.set_cons_zero, List.set_cons_succ, ix_nl, ix_cs, true_and, and_true, Option.toList_some, Option.toList_none, List.cons_append, List.nil_append, h, t3', e1, c1, c2, ix_up_ne, ix_up_k, ve_1, ve_2, ve_3, ve_4, ve_5]
      refine l_X11_feed (K := K) (t := t) (μ0 := μ1) hK (by omega) (fun μ2 F2 k3 => pst rfl ?_) K 0 μ1 (by omega) Fx.rf (fun j => ?_)
      · rw [e113] at k3
        have g1 : ∀ a, a ≠ 19 → a ≠ 20 → a ≠ 113 → μ2 a = μ a := fun a h1 h2 h3 => by rw [F2 a (by simp [h3]), F1 a (by simp [h1, h2])]
        have g2 : ∀ j, j ≠ 4 → ¬ (82 ≤ j ∧ j < 132) → μ2 113 j = μ 113 j := fun j h1 h2 => by rw [k3 j, if_neg h1, if_neg (by omega)]
        refine I.now (L := [19, 20, 113]) (Fx.tr (F1.mono (by decide)) (F2.mono (by decide))) (by decide) ⟨CW_fx s1 (fun a h1 h2 => g1 a (by omega) (by omega) (by omega)) (fun j h1 h2 => g2 j (by unfold rst at h2; omega) (by omega)), ?_, ⟨t + K, by omega, ?_, ?_, fun j hj => ?_⟩, CA_fx s4 (g1 21 (by decide) (by decide) (by decide)) (g1 22 (by decide) (by decide) (by decide)) (fun j hj => g2 j (by omega) (by omega)), CN_fx s5 (g1 23 (by decide) (by decide) (by decide)) (fun j hj => g2 j (by omega) (by omega)), CX_fx s6 (g1 12 (by decide) (by decide) (by decide)) (g1 13 (by decide) (by decide) (by decide)) (fun j hj => g2 j (by omega) (by omega)), CX_fx s7 (g1 16 (by decide) (by decide) (by decide)) (g1 17 (by decide) (by decide) (by decide)) (fun j hj => g2 j (by omega) (by omega))⟩ (by decide)
        · rw [g1 1 (by decide) (by decide) (by decide), g2 3 (by decide) (by decide)]
          exact s2
        · show μ2 19 1 = _
          rw [F2 19 (by decide)]
          exact k1
        · rw [k3 4, if_pos rfl]
        · show μ2 20 j = _ ∧ _
          rw [F2 20 (by decide), k2 j, k3 (82 + j), if_neg (show ¬ 82 + j = 4 by omega)]
          by_cases cj : j < t
          · rw [if_neg (by omega), if_neg (by omega)]
            exact t4 j cj
          · rw [if_pos (by omega), if_pos (by omega), show 82 + j - (82 + t) = j - t by omega]
            exact ⟨rfl, bM_in w (j - t) (by omega)⟩
      · by_cases c4 : j = 4
        · rw [if_pos c4, c4]
          exact t3'
        · rw [if_neg c4, if_neg (by omega)]
  · by_cases c : n < 1
    · simp (decide := true) only [e_X10_feed_0, e_X10_feed_1, e_X10_feed_2, e_X10_feed_5, e_X10_feed_6, e_X10_feed_8, e_X10_feed_11, e_X10_feed_12, e_X10_feed_13, e_X10_feed_16, e_X10_feed_17, e_X10_feed_18, e_X10_feed_21, e_X10_feed_24, e_X10_feed_27, e_X10_feed_28, e_X10_feed_29, e_X10_feed_31, e_X10_feed_34, e_X10_feed_35, e_X10_feed_36, e_X10_feed_39, e_X10_feed_40, e_X10_feed_41, e_X10_feed_45, e_X10_feed_46, e_X10_feed_49, e_X10_feed_50, e_X10_feed_53, e_X10_feed_56, e_X10_feed_57, e_X10_feed_59, e_X10_feed_61, e_X10_feed_62, e_X10_feed_63, e_X10_feed_64, e_X10_feed_67, e_X10_feed_68, e_X10_feed_71, e_X10_feed_74, e_X10_feed_77, e_X10_feed_78, e_X10_feed_81, e_X10_feed_84, e_X10_feed_87, vi, vl, vr, oc_X10_error, T_X10_error, oc_X4_add, T_X4_add, ix_push, ix_iload, ix_lload, ix_aload, ix_istore, ix_astore, ix_iinc, ix_bin, ix_div, ix_un, ix_i2l, ix_l2i, ix_lbin, ix_lsh, ix_lcmp, ix_dup, ix_dup2, ix_pop, ix_if, ix_cmp, ix_goto, ix_switch, ix_sw, ix_iret, ix_zret, ix_vret, ix_aret, ix_geti, ix_getr, ix_puti, ix_putz, ix_puts, ix_gets, ix_iald, ix_iast, ix_alen, ix_aald, ix_gval, ix_gcod, ix_bald, ix_blen, ix_sald, ix_nret, ix_math2, ix_math1, ix_acopy, Nat.add_assoc, Int32.reduceLT, Int32.reduceLE, Int32.reduceToNatClampNeg, Int32.reduceSub, Int32.reduceAdd, Nat.reduceAdd, Nat.reduceLeDiff, true_or, or_true, or_false, false_or, not_false_eq_true, not_true_eq_false, false_implies, true_implies, implies_true, and_self, mB_0, mB_01, Classical.not_not, Nat.zero_le, List.getElem?_cons_zero, List.getElem?_cons_succ, List.set_cons_zero, List.set_cons_succ, ix_nl, ix_cs, true_and, and_true, Option.toList_some, Option.toList_none, List.cons_append, List.nil_append, c, ix_up_ne, ix_up_k, ve_1, ve_2, ve_3, ve_4, ve_5]
      refine hQ _ _ ?_
      simp (decide := true) only [e_X11_feed_0, e_X11_feed_1, e_X11_feed_2, e_X11_feed_4, e_X11_feed_7, e_X11_feed_10, e_X11_feed_11, e_X11_feed_13, e_X11_feed_16, e_X11_feed_17, e_X11_feed_18, e_X11_feed_21, e_X11_feed_22, e_X11_feed_23, e_X11_feed_24, e_X11_feed_25, e_X11_feed_27, e_X11_feed_30, e_X11_feed_31, e_X11_feed_33, e_X11_feed_36, e_X11_feed_37, e_X11_feed_38, e_X11_feed_42, e_X11_feed_43, e_X11_feed_46, e_X11_feed_47, e_X11_feed_50, e_X11_feed_52, e_X11_feed_53, e_X11_feed_56, e_X11_feed_57, e_X11_feed_58, e_X11_feed_59, e_X11_feed_60, e_X11_feed_62, e_X11_feed_64, e_X11_feed_65, e_X11_feed_66, e_X11_feed_69, e_X11_feed_70, e_X11_feed_71, e_X11_feed_72, e_X11_feed_73, e_X11_feed_76, e_X11_feed_77, e_X11_feed_78, e_X11_feed_79, e_X11_feed_80, e_X11_feed_81, e_X11_feed_82, e_X11_feed_85, e_X11_feed_88, e_X11_feed_89, e_X11_feed_92, e_X11_feed_93, e_X11_feed_94, vi, vl, vr, oc_X11_finding, T_X11_finding, oc_X11_within, T_X11_within, ix_push, ix_iload, ix_lload, ix_aload, ix_istore, ix_astore, ix_iinc, ix_bin, ix_div, ix_un, ix_i2l, ix_l2i, ix_lbin, ix_lsh, ix_lcmp, ix_dup, ix_dup2, ix_pop, ix_if, ix_cmp, ix_goto, ix_switch, ix_sw, ix_iret, ix_zret, ix_vret, ix_aret, ix_geti, ix_getr, ix_puti, ix_putz, ix_puts, ix_gets, ix_iald, ix_iast, ix_alen, ix_aald, ix_gval, ix_gcod, ix_bald, ix_blen, ix_sald, ix_nret, ix_math2, ix_math1, ix_acopy, ml_113, ml_114, ml_115, ml_116, ml_118, ml_119, ml_120, ml_121, ml_122, ml_123, ml_124, ml_125, ml_126, mv_0, mv_1, mv_2, mv_3, mv_4, mv_5, mB_or, Nat.add_assoc, Int32.reduceLT, Int32.reduceLE, Int32.reduceToNatClampNeg, Int32.reduceSub, Int32.reduceAdd, Nat.reduceAdd, Nat.reduceLeDiff, true_or, or_true, or_false, false_or, not_false_eq_true, not_true_eq_false, false_implies, true_implies, implies_true, and_self, mB_0, mB_01, Classical.not_not, Nat.zero_le, List.getElem?_cons_zero, List.getElem?_cons_succ, List.set_cons_zero, List.set_cons_succ, ix_nl, ix_cs, true_and, and_true, Option.toList_some, Option.toList_none, List.cons_append, List.nil_append, h, ix_up_ne, ix_up_k, ve_1, ve_2, ve_3, ve_4, ve_5]
      exact I.er 1 (by decide)
    · have c2 : ¬ n ≤ 8 := fun z => h ⟨Int32.not_lt.mp c, z⟩
      have c3 : 8 < n := Int32.not_le.mp c2
      simp (decide := true) only [e_X10_feed_0, e_X10_feed_1, e_X10_feed_2, e_X10_feed_5, e_X10_feed_6, e_X10_feed_8, e_X10_feed_11, e_X10_feed_12, e_X10_feed_13, e_X10_feed_16, e_X10_feed_17, e_X10_feed_18, e_X10_feed_21, e_X10_feed_24, e_X10_feed_27, e_X10_feed_28, e_X10_feed_29, e_X10_feed_31, e_X10_feed_34, e_X10_feed_35, e_X10_feed_36, e_X10_feed_39, e_X10_feed_40, e_X10_feed_41, e_X10_feed_45, e_X10_feed_46, e_X10_feed_49, e_X10_feed_50, e_X10_feed_53, e_X10_feed_56, e_X10_feed_57, e_X10_feed_59, e_X10_feed_61, e_X10_feed_62, e_X10_feed_63, e_X10_feed_64, e_X10_feed_67, e_X10_feed_68, e_X10_feed_71, e_X10_feed_74, e_X10_feed_77, e_X10_feed_78, e_X10_feed_81, e_X10_feed_84, e_X10_feed_87, vi, vl, vr, oc_X10_error, T_X10_error, oc_X4_add, T_X4_add, ix_push, ix_iload, ix_lload, ix_aload, ix_istore, ix_astore, ix_iinc, ix_bin, ix_div, ix_un, ix_i2l, ix_l2i, ix_lbin, ix_lsh, ix_lcmp, ix_dup, ix_dup2, ix_pop, ix_if, ix_cmp, ix_goto, ix_switch, ix_sw, ix_iret, ix_zret, ix_vret, ix_aret, ix_geti, ix_getr, ix_puti, ix_putz, ix_puts, ix_gets, ix_iald, ix_iast, ix_alen, ix_aald, ix_gval, ix_gcod, ix_bald, ix_blen, ix_sald, ix_nret, ix_math2, ix_math1, ix_acopy, Nat.add_assoc, Int32.reduceLT, Int32.reduceLE, Int32.reduceToNatClampNeg, Int32.reduceSub, Int32.reduceAdd, Nat.reduceAdd, Nat.reduceLeDiff, true_or, or_true, or_false, false_or, not_false_eq_true, not_true_eq_false, false_implies, true_implies, implies_true, and_self, mB_0, mB_01, Classical.not_not, Nat.zero_le, List.getElem?_cons_zero, List.getElem?_cons_succ, List.set_cons_zero, List.set_cons_succ, ix_nl, ix_cs, true_and, and_true, Option.toList_some, Option.toList_none, List.cons_append, List.nil_append, c, c2, c3, ix_up_ne, ix_up_k, ve_1, ve_2, ve_3, ve_4, ve_5]
      refine hQ _ _ ?_
      simp (decide := true) only [e_X11_feed_0, e_X11_feed_1, e_X11_feed_2, e_X11_feed_4, e_X11_feed_7, e_X11_feed_10, e_X11_feed_11, e_X11_feed_13, e_X11_feed_16, e_X11_feed_17, e_X11_feed_18, e_X11_feed_21, e_X11_feed_22, e_X11_feed_23, e_X11_feed_24, e_X11_feed_25, e_X11_feed_27, e_X11_feed_30, e_X11_feed_31, e_X11_feed_33, e_X11_feed_36, e_X11_feed_37, e_X11_feed_38, e_X11_feed_42, e_X11_feed_43, e_X11_feed_46, e_X11_feed_47, e_X11_feed_50, e_X11_feed_52, e_X11_feed_53, e_X11_feed_56, e_X11_feed_57, e_X11_feed_58, e_X11_feed_59, e_X11_feed_60, e_X11_feed_62, e_X11_feed_64, e_X11_feed_65, e_X11_feed_66, e_X11_feed_69, e_X11_feed_70, e_X11_feed_71, e_X11_feed_72, e_X11_feed_73, e_X11_feed_76, e_X11_feed_77, e_X11_feed_78, e_X11_feed_79, e_X11_feed_80, e_X11_feed_81, e_X11_feed_82, e_X11_feed_85, e_X11_feed_88, e_X11_feed_89, e_X11_feed_92, e_X11_feed_93, e_X11_feed_94, vi, vl, vr, oc_X11_finding, T_X11_finding, oc_X11_within, T_X11_within, ix_push, ix_iload, ix_lload, ix_aload, ix_istore, ix_astore, ix_iinc, ix_bin, ix_div, ix_un, ix_i2l, ix_l2i, ix_lbin, ix_lsh, ix_lcmp, ix_dup, ix_dup2, ix_pop, ix_if, ix_cmp, ix_goto, ix_switch, ix_sw, ix_iret, ix_zret, ix_vret, ix_aret, ix_geti, ix_getr, ix_puti, ix_putz, ix_puts, ix_gets, ix_iald, ix_iast, ix_alen, ix_aald, ix_gval, ix_gcod, ix_bald, ix_blen, ix_sald, ix_nret, ix_math2, ix_math1, ix_acopy, ml_113, ml_114, ml_115, ml_116, ml_118, ml_119, ml_120, ml_121, ml_122, ml_123, ml_124, ml_125, ml_126, mv_0, mv_1, mv_2, mv_3, mv_4, mv_5, mB_or, Nat.add_assoc, Int32.reduceLT, Int32.reduceLE, Int32.reduceToNatClampNeg, Int32.reduceSub, Int32.reduceAdd, Nat.reduceAdd, Nat.reduceLeDiff, true_or, or_true, or_false, false_or, not_false_eq_true, not_true_eq_false, false_implies, true_implies, implies_true, and_self, mB_0, mB_01, Classical.not_not, Nat.zero_le, List.getElem?_cons_zero, List.getElem?_cons_succ, List.set_cons_zero, List.set_cons_succ, ix_nl, ix_cs, true_and, and_true, Option.toList_some, Option.toList_none, List.cons_append, List.nil_append, h, ix_up_ne, ix_up_k, ve_1, ve_2, ve_3, ve_4, ve_5]
      exact I.er 1 (by decide)
