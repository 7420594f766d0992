/-! ===== calls, class against model: water, wearers, boats ===== -/
theorem nz_0 : nI 0 = 0 := rfl
theorem nz_1 : nI 1 = 1 := rfl
theorem nz_2 : nI 2 = 2 := rfl
theorem nz_3 : nI 3 = 3 := rfl
theorem nz_4 : nI 4 = 4 := rfl
theorem nz_5 : nI 5 = 5 := rfl
theorem nz_6 : nI 6 = 6 := rfl
theorem nz_7 : nI 7 = 7 := rfl
theorem mix (k : Nat) (C : Nat) (h : C + k < 256) : nI k + nI C = nI (k + C) ∧ (nI (k + C)).toNatClampNeg = k + C ∧ vp_in (nI (k + C)) 256 := ⟨nI_add k C, nI_clamp (by omega), vp_in_nI (by omega) (by decide)⟩
theorem Inv.w1 {μ : ix_M} (I : Inv μ) {i : Nat} (h : i < 16) : μ 3 i = μ 113 (18 + i) := I.w (wok_1 h)
theorem Inv.w2 {μ : ix_M} (I : Inv μ) {i : Nat} (h : i < 16) : μ 4 i = μ 113 (34 + i) := I.w (wok_2 h)
theorem Inv.w4 {μ : ix_M} (I : Inv μ) {i : Nat} (h : i < 8) : μ 6 i = μ 113 (50 + 4 * i) := I.w (wok_4 h)
theorem Inv.w5 {μ : ix_M} (I : Inv μ) {i : Nat} (h : i < 8) : μ 7 i = μ 113 (51 + 4 * i) := (I.w (wok_5 h)).trans (by rw [show nvI 5 i = 51 + 4 * i by simp [nvI]; omega])
theorem Inv.w6 {μ : ix_M} (I : Inv μ) {i : Nat} (h : i < 8) : μ 8 i = μ 113 (52 + 4 * i) := (I.w (wok_6 h)).trans (by rw [show nvI 6 i = 52 + 4 * i by simp [nvI]; omega])
theorem Inv.w7 {μ : ix_M} (I : Inv μ) {i : Nat} (h : i < 8) : μ 9 i = μ 113 (53 + 4 * i) := (I.w (wok_7 h)).trans (by rw [show nvI 7 i = 53 + 4 * i by simp [nvI]; omega])
theorem Inv.mi {μ : ix_M} (I : Inv μ) : ∃ M, M ≤ 9999 ∧ WR (nv (μ 113)) M ∧ μ 2 8 = nI M ∧ μ 113 0 = nI M := by
  obtain ⟨M, hM, h⟩ := I.1.1.2
  exact ⟨M, hM, h, (I.w (r := 0) (i := 8) rfl).trans h.1.2.1, h.1.2.1⟩
def o_X10_cell : List (Nat × ix_Op) := [
  (0, ix_iload 1 1),
  (1, ix_push (vi 15) 3),
  (3, oc_X10_outside 6),
  (6, ix_if (fun x => x = 0) 9 35),
  (9, ix_iload 2 10),
  (10, ix_push (vi 1) 11),
  (11, oc_X10_outside 14),
  (14, ix_if (fun x => x = 0) 17 35),
  (17, ix_iload 3 18),
  (18, ix_iload 2 19),
  (19, ix_if (fun x => x = 0) 22 27),
  (22, ix_push (vi 9) 24),
  (24, ix_goto 29),
  (27, ix_push (vi 99) 29),
  (29, oc_X10_outside 32),
  (32, ix_if (fun x => x = 0) 41 35),
  (35, ix_aload 0 36),
  (36, ix_push (vi 1) 37),
  (37, oc_X10_error 40),
  (40, ix_iret),
  (41, ix_iload 2 42),
  (42, ix_if (fun x => x = 0) 45 58),
  (45, ix_aload 0 46),
  (46, ix_getr 9 5 (fun _ => 1) 49),
  (49, ix_getr 5 8 (fun k => k + 1) 52),
  (52, ix_getr 8 20 (fun k => k + 1) 55),
  (55, ix_goto 68),
  (58, ix_aload 0 59),
  (59, ix_getr 9 5 (fun _ => 1) 62),
  (62, ix_getr 5 8 (fun k => k + 1) 65),
  (65, ix_getr 8 20 (fun k => k + 2) 68),
  (68, ix_iload 1 69),
  (69, ix_iload 3 70),
  (70, oc_X10_exchange 73),
  (73, ix_iret)]
set_option maxRecDepth 20000 in
theorem a_X10_cell (l : Launch) : ix_AllS l cX10_cell 4 RX10 60 (some .int) o_X10_cell :=
  .cons (ix_s_iload_n dX10_cell_0 rfl) <|
  .cons (ix_s_bipush dX10_cell_1 (by decide +kernel)) <|
  .cons (oc_X10_outside_s (ix_s_calls (k_X10_outside l) (by decide) (by decide) tw_291 tw_1 tw_289 tw_290 ⟨by decide, by decide, by decide +kernel⟩ (fun _ => rfl) dX10_cell_3)) <|
  .cons (ix_s_if_ne dX10_cell_6 (by decide)) <|
  .cons (ix_s_iload_n dX10_cell_9 rfl) <|
  .cons (ix_s_iconst dX10_cell_10 (by decide +kernel)) <|
  .cons (oc_X10_outside_s (ix_s_calls (k_X10_outside l) (by decide) (by decide) tw_291 tw_1 tw_289 tw_290 ⟨by decide, by decide, by decide +kernel⟩ (fun _ => rfl) dX10_cell_11)) <|
  .cons (ix_s_if_ne dX10_cell_14 (by decide)) <|
  .cons (ix_s_iload_n dX10_cell_17 rfl) <|
  .cons (ix_s_iload_n dX10_cell_18 rfl) <|
  .cons (ix_s_if_ne dX10_cell_19 (by decide)) <|
  .cons (ix_s_bipush dX10_cell_22 (by decide +kernel)) <|
  .cons (ix_s_goto dX10_cell_24 (by decide)) <|
  .cons (ix_s_bipush dX10_cell_27 (by decide +kernel)) <|
  .cons (oc_X10_outside_s (ix_s_calls (k_X10_outside l) (by decide) (by decide) tw_291 tw_1 tw_289 tw_290 ⟨by decide, by decide, by decide +kernel⟩ (fun _ => rfl) dX10_cell_29)) <|
  .cons (ix_s_if_eq dX10_cell_32 (by decide)) <|
  .cons (ix_s_aload_n dX10_cell_35 rfl) <|
  .cons (ix_s_iconst dX10_cell_36 (by decide +kernel)) <|
  .cons (oc_X10_error_s (ix_s_callv (t := 9) (k_X10_error l) (by decide) (by decide) tw_295 tw_1 tw_292 tw_294 tp_0 ⟨by decide, by decide, by decide +kernel⟩ (by decide) rfl rfl (fun _ => ⟨_, _, rfl, rfl⟩) dX10_cell_37)) <|
  .cons (ix_s_iret dX10_cell_40 rfl) <|
  .cons (ix_s_iload_n dX10_cell_41 rfl) <|
  .cons (ix_s_if_ne dX10_cell_42 (by decide)) <|
  .cons (ix_s_aload_n dX10_cell_45 rfl) <|
  .cons (ix_s_getr (j := 0) tu_X10 rfl (by decide) (by decide) tw_251 rfl ts_9_0_r dX10_cell_46) <|
  .cons (ix_s_getr (j := 0) tu_X6 rfl (by decide) (by decide) tw_138 rfl ts_5_0_r dX10_cell_49) <|
  .cons (ix_s_getr (j := 0) tu_X9 rfl (by decide) (by decide) tw_41 rfl ts_8_0_r dX10_cell_52) <|
  .cons (ix_s_goto dX10_cell_55 (by decide)) <|
  .cons (ix_s_aload_n dX10_cell_58 rfl) <|
  .cons (ix_s_getr (j := 0) tu_X10 rfl (by decide) (by decide) tw_251 rfl ts_9_0_r dX10_cell_59) <|
  .cons (ix_s_getr (j := 0) tu_X6 rfl (by decide) (by decide) tw_138 rfl ts_5_0_r dX10_cell_62) <|
  .cons (ix_s_getr (j := 1) tu_X9 rfl (by decide) (by decide) tw_43 rfl ts_8_1_r dX10_cell_65) <|
  .cons (ix_s_iload_n dX10_cell_68 rfl) <|
  .cons (ix_s_iload_n dX10_cell_69 rfl) <|
  .cons (oc_X10_exchange_s (ix_s_calls (k_X10_exchange l) (by decide) (by decide) tw_299 tw_1 tw_297 tw_298 ⟨by decide, by decide, by decide +kernel⟩ (fun _ => rfl) dX10_cell_70)) <|
  .cons (ix_s_iret dX10_cell_73 rfl) <| .nil
theorem e_X10_cell_0 (Q : ix_R → Prop) (ls : ix_L) (st : List ix_V) (μ : ix_M) : ix_Ev o_X10_cell Q (0, ls, st, μ) = ix_iload 1 1 (ix_Ev o_X10_cell Q) Q ls st μ := ix_Ev.eq (a_X10_cell launch0) rfl ls st μ
theorem e_X10_cell_1 (Q : ix_R → Prop) (ls : ix_L) (st : List ix_V) (μ : ix_M) : ix_Ev o_X10_cell Q (1, ls, st, μ) = ix_push (vi 15) 3 (ix_Ev o_X10_cell Q) Q ls st μ := ix_Ev.eq (a_X10_cell launch0) rfl ls st μ
theorem e_X10_cell_3 (Q : ix_R → Prop) (ls : ix_L) (st : List ix_V) (μ : ix_M) : ix_Ev o_X10_cell Q (3, ls, st, μ) = oc_X10_outside 6 (ix_Ev o_X10_cell Q) Q ls st μ := ix_Ev.eq (a_X10_cell launch0) rfl ls st μ
theorem e_X10_cell_6 (Q : ix_R → Prop) (ls : ix_L) (st : List ix_V) (μ : ix_M) : ix_Ev o_X10_cell Q (6, ls, st, μ) = ix_if (fun x => x = 0) 9 35 (ix_Ev o_X10_cell Q) Q ls st μ := ix_Ev.eq (a_X10_cell launch0) rfl ls st μ
theorem e_X10_cell_9 (Q : ix_R → Prop) (ls : ix_L) (st : List ix_V) (μ : ix_M) : ix_Ev o_X10_cell Q (9, ls, st, μ) = ix_iload 2 10 (ix_Ev o_X10_cell Q) Q ls st μ := ix_Ev.eq (a_X10_cell launch0) rfl ls st μ
theorem e_X10_cell_10 (Q : ix_R → Prop) (ls : ix_L) (st : List ix_V) (μ : ix_M) : ix_Ev o_X10_cell Q (10, ls, st, μ) = ix_push (vi 1) 11 (ix_Ev o_X10_cell Q) Q ls st μ := ix_Ev.eq (a_X10_cell launch0) rfl ls st μ
theorem e_X10_cell_11 (Q : ix_R → Prop) (ls : ix_L) (st : List ix_V) (μ : ix_M) : ix_Ev o_X10_cell Q (11, ls, st, μ) = oc_X10_outside 14 (ix_Ev o_X10_cell Q) Q ls st μ := ix_Ev.eq (a_X10_cell launch0) rfl ls st μ
theorem e_X10_cell_14 (Q : ix_R → Prop) (ls : ix_L) (st : List ix_V) (μ : ix_M) : ix_Ev o_X10_cell Q (14, ls, st, μ) = ix_if (fun x => x = 0) 17 35 (ix_Ev o_X10_cell Q) Q ls st μ := ix_Ev.eq (a_X10_cell launch0) rfl ls st μ
theorem e_X10_cell_17 (Q : ix_R → Prop) (ls : ix_L) (st : List ix_V) (μ : ix_M) : ix_Ev o_X10_cell Q (17, ls, st, μ) = ix_iload 3 18 (ix_Ev o_X10_cell Q) Q ls st μ := ix_Ev.eq (a_X10_cell launch0) rfl ls st μ
theorem e_X10_cell_18 (Q : ix_R → Prop) (ls : ix_L) (st : List ix_V) (μ : ix_M) : ix_Ev o_X10_cell Q (18, ls, st, μ) = ix_iload 2 19 (ix_Ev o_X10_cell Q) Q ls st μ := ix_Ev.eq (a_X10_cell launch0) rfl ls st μ
theorem e_X10_cell_19 (Q : ix_R → Prop) (ls : ix_L) (st : List ix_V) (μ : ix_M) : ix_Ev o_X10_cell Q (19, ls, st, μ) = ix_if (fun x => x = 0) 22 27 (ix_Ev o_X10_cell Q) Q ls st μ := ix_Ev.eq (a_X10_cell launch0) rfl ls st μ
theorem e_X10_cell_22 (Q : ix_R → Prop) (ls : ix_L) (st : List ix_V) (μ : ix_M) : ix_Ev o_X10_cell Q (22, ls, st, μ) = ix_push (vi 9) 24 (ix_Ev o_X10_cell Q) Q ls st μ := ix_Ev.eq (a_X10_cell launch0) rfl ls st μ
theorem e_X10_cell_24 (Q : ix_R → Prop) (ls : ix_L) (st : List ix_V) (μ : ix_M) : ix_Ev o_X10_cell Q (24, ls, st, μ) = ix_goto 29 (ix_Ev o_X10_cell Q) Q ls st μ := ix_Ev.eq (a_X10_cell launch0) rfl ls st μ
theorem e_X10_cell_27 (Q : ix_R → Prop) (ls : ix_L) (st : List ix_V) (μ : ix_M) : ix_Ev o_X10_cell Q (27, ls, st, μ) = ix_push (vi 99) 29 (ix_Ev o_X10_cell Q) Q ls st μ := ix_Ev.eq (a_X10_cell launch0) rfl ls st μ
theorem e_X10_cell_29 (Q : ix_R → Prop) (ls : ix_L) (st : List ix_V) (μ : ix_M) : ix_Ev o_X10_cell Q (29, ls, st, μ) = oc_X10_outside 32 (ix_Ev o_X10_cell Q) Q ls st μ := ix_Ev.eq (a_X10_cell launch0) rfl ls st μ
theorem e_X10_cell_32 (Q : ix_R → Prop) (ls : ix_L) (st : List ix_V) (μ : ix_M) : ix_Ev o_X10_cell Q (32, ls, st, μ) = ix_if (fun x => x = 0) 41 35 (ix_Ev o_X10_cell Q) Q ls st μ := ix_Ev.eq (a_X10_cell launch0) rfl ls st μ
theorem e_X10_cell_35 (Q : ix_R → Prop) (ls : ix_L) (st : List ix_V) (μ : ix_M) : ix_Ev o_X10_cell Q (35, ls, st, μ) = ix_aload 0 36 (ix_Ev o_X10_cell Q) Q ls st μ := ix_Ev.eq (a_X10_cell launch0) rfl ls st μ
theorem e_X10_cell_36 (Q : ix_R → Prop) (ls : ix_L) (st : List ix_V) (μ : ix_M) : ix_Ev o_X10_cell Q (36, ls, st, μ) = ix_push (vi 1) 37 (ix_Ev o_X10_cell Q) Q ls st μ := ix_Ev.eq (a_X10_cell launch0) rfl ls st μ
theorem e_X10_cell_37 (Q : ix_R → Prop) (ls : ix_L) (st : List ix_V) (μ : ix_M) : ix_Ev o_X10_cell Q (37, ls, st, μ) = oc_X10_error 40 (ix_Ev o_X10_cell Q) Q ls st μ := ix_Ev.eq (a_X10_cell launch0) rfl ls st μ
theorem e_X10_cell_40 (Q : ix_R → Prop) (ls : ix_L) (st : List ix_V) (μ : ix_M) : ix_Ev o_X10_cell Q (40, ls, st, μ) = ix_iret (ix_Ev o_X10_cell Q) Q ls st μ := ix_Ev.eq (a_X10_cell launch0) rfl ls st μ
theorem e_X10_cell_41 (Q : ix_R → Prop) (ls : ix_L) (st : List ix_V) (μ : ix_M) : ix_Ev o_X10_cell Q (41, ls, st, μ) = ix_iload 2 42 (ix_Ev o_X10_cell Q) Q ls st μ := ix_Ev.eq (a_X10_cell launch0) rfl ls st μ
theorem e_X10_cell_42 (Q : ix_R → Prop) (ls : ix_L) (st : List ix_V) (μ : ix_M) : ix_Ev o_X10_cell Q (42, ls, st, μ) = ix_if (fun x => x = 0) 45 58 (ix_Ev o_X10_cell Q) Q ls st μ := ix_Ev.eq (a_X10_cell launch0) rfl ls st μ
theorem e_X10_cell_45 (Q : ix_R → Prop) (ls : ix_L) (st : List ix_V) (μ : ix_M) : ix_Ev o_X10_cell Q (45, ls, st, μ) = ix_aload 0 46 (ix_Ev o_X10_cell Q) Q ls st μ := ix_Ev.eq (a_X10_cell launch0) rfl ls st μ
theorem e_X10_cell_46 (Q : ix_R → Prop) (ls : ix_L) (st : List ix_V) (μ : ix_M) : ix_Ev o_X10_cell Q (46, ls, st, μ) = ix_getr 9 5 (fun _ => 1) 49 (ix_Ev o_X10_cell Q) Q ls st μ := ix_Ev.eq (a_X10_cell launch0) rfl ls st μ
theorem e_X10_cell_49 (Q : ix_R → Prop) (ls : ix_L) (st : List ix_V) (μ : ix_M) : ix_Ev o_X10_cell Q (49, ls, st, μ) = ix_getr 5 8 (fun k => k + 1) 52 (ix_Ev o_X10_cell Q) Q ls st μ := ix_Ev.eq (a_X10_cell launch0) rfl ls st μ
theorem e_X10_cell_52 (Q : ix_R → Prop) (ls : ix_L) (st : List ix_V) (μ : ix_M) : ix_Ev o_X10_cell Q (52, ls, st, μ) = ix_getr 8 20 (fun k => k + 1) 55 (ix_Ev o_X10_cell Q) Q ls st μ := ix_Ev.eq (a_X10_cell launch0) rfl ls st μ
theorem e_X10_cell_55 (Q : ix_R → Prop) (ls : ix_L) (st : List ix_V) (μ : ix_M) : ix_Ev o_X10_cell Q (55, ls, st, μ) = ix_goto 68 (ix_Ev o_X10_cell Q) Q ls st μ := ix_Ev.eq (a_X10_cell launch0) rfl ls st μ
theorem e_X10_cell_58 (Q : ix_R → Prop) (ls : ix_L) (st : List ix_V) (μ : ix_M) : ix_Ev o_X10_cell Q (58, ls, st, μ) = ix_aload 0 59 (ix_Ev o_X10_cell Q) Q ls st μ := ix_Ev.eq (a_X10_cell launch0) rfl ls st μ
theorem e_X10_cell_59 (Q : ix_R → Prop) (ls : ix_L) (st : List ix_V) (μ : ix_M) : ix_Ev o_X10_cell Q (59, ls, st, μ) = ix_getr 9 5 (fun _ => 1) 62 (ix_Ev o_X10_cell Q) Q ls st μ := ix_Ev.eq (a_X10_cell launch0) rfl ls st μ
theorem e_X10_cell_62 (Q : ix_R → Prop) (ls : ix_L) (st : List ix_V) (μ : ix_M) : ix_Ev o_X10_cell Q (62, ls, st, μ) = ix_getr 5 8 (fun k => k + 1) 65 (ix_Ev o_X10_cell Q) Q ls st μ := ix_Ev.eq (a_X10_cell launch0) rfl ls st μ
theorem e_X10_cell_65 (Q : ix_R → Prop) (ls : ix_L) (st : List ix_V) (μ : ix_M) : ix_Ev o_X10_cell Q (65, ls, st, μ) = ix_getr 8 20 (fun k => k + 2) 68 (ix_Ev o_X10_cell Q) Q ls st μ := ix_Ev.eq (a_X10_cell launch0) rfl ls st μ
theorem e_X10_cell_68 (Q : ix_R → Prop) (ls : ix_L) (st : List ix_V) (μ : ix_M) : ix_Ev o_X10_cell Q (68, ls, st, μ) = ix_iload 1 69 (ix_Ev o_X10_cell Q) Q ls st μ := ix_Ev.eq (a_X10_cell launch0) rfl ls st μ
theorem e_X10_cell_69 (Q : ix_R → Prop) (ls : ix_L) (st : List ix_V) (μ : ix_M) : ix_Ev o_X10_cell Q (69, ls, st, μ) = ix_iload 3 70 (ix_Ev o_X10_cell Q) Q ls st μ := ix_Ev.eq (a_X10_cell launch0) rfl ls st μ
theorem e_X10_cell_70 (Q : ix_R → Prop) (ls : ix_L) (st : List ix_V) (μ : ix_M) : ix_Ev o_X10_cell Q (70, ls, st, μ) = oc_X10_exchange 73 (ix_Ev o_X10_cell Q) Q ls st μ := ix_Ev.eq (a_X10_cell launch0) rfl ls st μ
theorem e_X10_cell_73 (Q : ix_R → Prop) (ls : ix_L) (st : List ix_V) (μ : ix_M) : ix_Ev o_X10_cell Q (73, ls, st, μ) = ix_iret (ix_Ev o_X10_cell Q) Q ls st μ := ix_Ev.eq (a_X10_cell launch0) rfl ls st μ
def o_X11_cell : List (Nat × ix_Op) := [
  (0, ix_iload 2 1),
  (1, ix_if (fun x => x = 0) 4 14),
  (4, ix_iload 3 5),
  (5, ix_push (vi 0) 6),
  (6, ix_push (vi 9) 8),
  (8, oc_X11_within 11),
  (11, ix_goto 31),
  (14, ix_iload 2 15),
  (15, ix_push (vi 1) 16),
  (16, ix_cmp (fun x y => x = y) 19 30),
  (19, ix_iload 3 20),
  (20, oc_X11_isMost 23),
  (23, ix_if (fun x => x = 0) 30 26),
  (26, ix_push (vi 1) 27),
  (27, ix_goto 31),
  (30, ix_push (vi 0) 31),
  (31, ix_istore 4 33),
  (33, ix_iload 1 34),
  (34, oc_X11_isCell 37),
  (37, ix_if (fun x => x = 0) 66 40),
  (40, ix_iload 4 42),
  (42, ix_if (fun x => x = 0) 66 45),
  (45, ix_aload 0 46),
  (46, ix_iload 2 47),
  (47, ix_if (fun x => x = 0) 50 55),
  (50, ix_push (vi 18) 52),
  (52, ix_goto 57),
  (55, ix_push (vi 34) 57),
  (57, ix_iload 1 58),
  (58, ix_bin (fun x y => x + y) 59),
  (59, ix_iload 3 60),
  (60, oc_X11_turn 63),
  (63, ix_goto 72),
  (66, ix_aload 0 67),
  (67, ix_push (vi (-1000000001)) 69),
  (69, oc_X11_finding 72),
  (72, ix_iret)]
set_option maxRecDepth 20000 in
theorem a_X11_cell (l : Launch) : ix_AllS l cX11_cell 5 RX11 60 (some .int) o_X11_cell :=
  .cons (ix_s_iload_n dX11_cell_0 rfl) <|
  .cons (ix_s_if_ne dX11_cell_1 (by decide)) <|
  .cons (ix_s_iload_n dX11_cell_4 rfl) <|
  .cons (ix_s_iconst dX11_cell_5 (by decide +kernel)) <|
  .cons (ix_s_bipush dX11_cell_6 (by decide +kernel)) <|
  .cons (oc_X11_within_s (ix_s_calls (k_X11_within l) (by decide) (by decide) tw_960 tw_12 tw_958 tw_959 ⟨by decide, by decide, by decide +kernel⟩ (fun _ => rfl) dX11_cell_8)) <|
  .cons (ix_s_goto dX11_cell_11 (by decide)) <|
  .cons (ix_s_iload_n dX11_cell_14 rfl) <|
  .cons (ix_s_iconst dX11_cell_15 (by decide +kernel)) <|
  .cons (ix_s_cmp_ne dX11_cell_16 (by decide)) <|
  .cons (ix_s_iload_n dX11_cell_19 rfl) <|
  .cons (oc_X11_isMost_s (ix_s_calls (k_X11_isMost l) (by decide) (by decide) tw_1064 tw_12 tw_1062 tw_1063 ⟨by decide, by decide, by decide +kernel⟩ (fun _ => rfl) dX11_cell_20)) <|
  .cons (ix_s_if_eq dX11_cell_23 (by decide)) <|
  .cons (ix_s_iconst dX11_cell_26 (by decide +kernel)) <|
  .cons (ix_s_goto dX11_cell_27 (by decide)) <|
  .cons (ix_s_iconst dX11_cell_30 (by decide +kernel)) <|
  .cons (ix_s_istore dX11_cell_31 (by decide)) <|
  .cons (ix_s_iload_n dX11_cell_33 rfl) <|
  .cons (oc_X11_isCell_s (ix_s_calls (k_X11_isCell l) (by decide) (by decide) tw_1067 tw_12 tw_1065 tw_1066 ⟨by decide, by decide, by decide +kernel⟩ (fun _ => rfl) dX11_cell_34)) <|
  .cons (ix_s_if_eq dX11_cell_37 (by decide)) <|
  .cons (ix_s_iload dX11_cell_40) <|
  .cons (ix_s_if_eq dX11_cell_42 (by decide)) <|
  .cons (ix_s_aload_n dX11_cell_45 rfl) <|
  .cons (ix_s_iload_n dX11_cell_46 rfl) <|
  .cons (ix_s_if_ne dX11_cell_47 (by decide)) <|
  .cons (ix_s_bipush dX11_cell_50 (by decide +kernel)) <|
  .cons (ix_s_goto dX11_cell_52 (by decide)) <|
  .cons (ix_s_bipush dX11_cell_55 (by decide +kernel)) <|
  .cons (ix_s_iload_n dX11_cell_57 rfl) <|
  .cons (ix_s_iadd dX11_cell_58) <|
  .cons (ix_s_iload_n dX11_cell_59 rfl) <|
  .cons (oc_X11_turn_s (ix_s_callv (t := 10) (k_X11_turn l) (by decide) (by decide) tw_1071 tw_12 tw_1068 tw_1070 tp_32 ⟨by decide, by decide, by decide +kernel⟩ (by decide) rfl rfl (fun _ => ⟨_, _, rfl, rfl⟩) dX11_cell_60)) <|
  .cons (ix_s_goto dX11_cell_63 (by decide)) <|
  .cons (ix_s_aload_n dX11_cell_66 rfl) <|
  .cons (ix_s_ldc tw_961 dX11_cell_67) <|
  .cons (oc_X11_finding_s (ix_s_callv (t := 10) (k_X11_finding l) (by decide) (by decide) tw_965 tw_12 tw_962 tw_964 tp_18 ⟨by decide, by decide, by decide +kernel⟩ (by decide) rfl rfl (fun _ => ⟨_, _, rfl, rfl⟩) dX11_cell_69)) <|
  .cons (ix_s_iret dX11_cell_72 rfl) <| .nil
theorem e_X11_cell_0 (Q : ix_R → Prop) (ls : ix_L) (st : List ix_V) (μ : ix_M) : ix_Ev o_X11_cell Q (0, ls, st, μ) = ix_iload 2 1 (ix_Ev o_X11_cell Q) Q ls st μ := ix_Ev.eq (a_X11_cell launch0) rfl ls st μ
theorem e_X11_cell_1 (Q : ix_R → Prop) (ls : ix_L) (st : List ix_V) (μ : ix_M) : ix_Ev o_X11_cell Q (1, ls, st, μ) = ix_if (fun x => x = 0) 4 14 (ix_Ev o_X11_cell Q) Q ls st μ := ix_Ev.eq (a_X11_cell launch0) rfl ls st μ
theorem e_X11_cell_4 (Q : ix_R → Prop) (ls : ix_L) (st : List ix_V) (μ : ix_M) : ix_Ev o_X11_cell Q (4, ls, st, μ) = ix_iload 3 5 (ix_Ev o_X11_cell Q) Q ls st μ := ix_Ev.eq (a_X11_cell launch0) rfl ls st μ
theorem e_X11_cell_5 (Q : ix_R → Prop) (ls : ix_L) (st : List ix_V) (μ : ix_M) : ix_Ev o_X11_cell Q (5, ls, st, μ) = ix_push (vi 0) 6 (ix_Ev o_X11_cell Q) Q ls st μ := ix_Ev.eq (a_X11_cell launch0) rfl ls st μ
theorem e_X11_cell_6 (Q : ix_R → Prop) (ls : ix_L) (st : List ix_V) (μ : ix_M) : ix_Ev o_X11_cell Q (6, ls, st, μ) = ix_push (vi 9) 8 (ix_Ev o_X11_cell Q) Q ls st μ := ix_Ev.eq (a_X11_cell launch0) rfl ls st μ
theorem e_X11_cell_8 (Q : ix_R → Prop) (ls : ix_L) (st : List ix_V) (μ : ix_M) : ix_Ev o_X11_cell Q (8, ls, st, μ) = oc_X11_within 11 (ix_Ev o_X11_cell Q) Q ls st μ := ix_Ev.eq (a_X11_cell launch0) rfl ls st μ
theorem e_X11_cell_11 (Q : ix_R → Prop) (ls : ix_L) (st : List ix_V) (μ : ix_M) : ix_Ev o_X11_cell Q (11, ls, st, μ) = ix_goto 31 (ix_Ev o_X11_cell Q) Q ls st μ := ix_Ev.eq (a_X11_cell launch0) rfl ls st μ
theorem e_X11_cell_14 (Q : ix_R → Prop) (ls : ix_L) (st : List ix_V) (μ : ix_M) : ix_Ev o_X11_cell Q (14, ls, st, μ) = ix_iload 2 15 (ix_Ev o_X11_cell Q) Q ls st μ := ix_Ev.eq (a_X11_cell launch0) rfl ls st μ
theorem e_X11_cell_15 (Q : ix_R → Prop) (ls : ix_L) (st : List ix_V) (μ : ix_M) : ix_Ev o_X11_cell Q (15, ls, st, μ) = ix_push (vi 1) 16 (ix_Ev o_X11_cell Q) Q ls st μ := ix_Ev.eq (a_X11_cell launch0) rfl ls st μ
theorem e_X11_cell_16 (Q : ix_R → Prop) (ls : ix_L) (st : List ix_V) (μ : ix_M) : ix_Ev o_X11_cell Q (16, ls, st, μ) = ix_cmp (fun x y => x = y) 19 30 (ix_Ev o_X11_cell Q) Q ls st μ := ix_Ev.eq (a_X11_cell launch0) rfl ls st μ
theorem e_X11_cell_19 (Q : ix_R → Prop) (ls : ix_L) (st : List ix_V) (μ : ix_M) : ix_Ev o_X11_cell Q (19, ls, st, μ) = ix_iload 3 20 (ix_Ev o_X11_cell Q) Q ls st μ := ix_Ev.eq (a_X11_cell launch0) rfl ls st μ
theorem e_X11_cell_20 (Q : ix_R → Prop) (ls : ix_L) (st : List ix_V) (μ : ix_M) : ix_Ev o_X11_cell Q (20, ls, st, μ) = oc_X11_isMost 23 (ix_Ev o_X11_cell Q) Q ls st μ := ix_Ev.eq (a_X11_cell launch0) rfl ls st μ
theorem e_X11_cell_23 (Q : ix_R → Prop) (ls : ix_L) (st : List ix_V) (μ : ix_M) : ix_Ev o_X11_cell Q (23, ls, st, μ) = ix_if (fun x => x = 0) 30 26 (ix_Ev o_X11_cell Q) Q ls st μ := ix_Ev.eq (a_X11_cell launch0) rfl ls st μ
theorem e_X11_cell_26 (Q : ix_R → Prop) (ls : ix_L) (st : List ix_V) (μ : ix_M) : ix_Ev o_X11_cell Q (26, ls, st, μ) = ix_push (vi 1) 27 (ix_Ev o_X11_cell Q) Q ls st μ := ix_Ev.eq (a_X11_cell launch0) rfl ls st μ
theorem e_X11_cell_27 (Q : ix_R → Prop) (ls : ix_L) (st : List ix_V) (μ : ix_M) : ix_Ev o_X11_cell Q (27, ls, st, μ) = ix_goto 31 (ix_Ev o_X11_cell Q) Q ls st μ := ix_Ev.eq (a_X11_cell launch0) rfl ls st μ
theorem e_X11_cell_30 (Q : ix_R → Prop) (ls : ix_L) (st : List ix_V) (μ : ix_M) : ix_Ev o_X11_cell Q (30, ls, st, μ) = ix_push (vi 0) 31 (ix_Ev o_X11_cell Q) Q ls st μ := ix_Ev.eq (a_X11_cell launch0) rfl ls st μ
theorem e_X11_cell_31 (Q : ix_R → Prop) (ls : ix_L) (st : List ix_V) (μ : ix_M) : ix_Ev o_X11_cell Q (31, ls, st, μ) = ix_istore 4 33 (ix_Ev o_X11_cell Q) Q ls st μ := ix_Ev.eq (a_X11_cell launch0) rfl ls st μ
theorem e_X11_cell_33 (Q : ix_R → Prop) (ls : ix_L) (st : List ix_V) (μ : ix_M) : ix_Ev o_X11_cell Q (33, ls, st, μ) = ix_iload 1 34 (ix_Ev o_X11_cell Q) Q ls st μ := ix_Ev.eq (a_X11_cell launch0) rfl ls st μ
theorem e_X11_cell_34 (Q : ix_R → Prop) (ls : ix_L) (st : List ix_V) (μ : ix_M) : ix_Ev o_X11_cell Q (34, ls, st, μ) = oc_X11_isCell 37 (ix_Ev o_X11_cell Q) Q ls st μ := ix_Ev.eq (a_X11_cell launch0) rfl ls st μ
theorem e_X11_cell_37 (Q : ix_R → Prop) (ls : ix_L) (st : List ix_V) (μ : ix_M) : ix_Ev o_X11_cell Q (37, ls, st, μ) = ix_if (fun x => x = 0) 66 40 (ix_Ev o_X11_cell Q) Q ls st μ := ix_Ev.eq (a_X11_cell launch0) rfl ls st μ
theorem e_X11_cell_40 (Q : ix_R → Prop) (ls : ix_L) (st : List ix_V) (μ : ix_M) : ix_Ev o_X11_cell Q (40, ls, st, μ) = ix_iload 4 42 (ix_Ev o_X11_cell Q) Q ls st μ := ix_Ev.eq (a_X11_cell launch0) rfl ls st μ
theorem e_X11_cell_42 (Q : ix_R → Prop) (ls : ix_L) (st : List ix_V) (μ : ix_M) : ix_Ev o_X11_cell Q (42, ls, st, μ) = ix_if (fun x => x = 0) 66 45 (ix_Ev o_X11_cell Q) Q ls st μ := ix_Ev.eq (a_X11_cell launch0) rfl ls st μ
theorem e_X11_cell_45 (Q : ix_R → Prop) (ls : ix_L) (st : List ix_V) (μ : ix_M) : ix_Ev o_X11_cell Q (45, ls, st, μ) = ix_aload 0 46 (ix_Ev o_X11_cell Q) Q ls st μ := ix_Ev.eq (a_X11_cell launch0) rfl ls st μ
theorem e_X11_cell_46 (Q : ix_R → Prop) (ls : ix_L) (st : List ix_V) (μ : ix_M) : ix_Ev o_X11_cell Q (46, ls, st, μ) = ix_iload 2 47 (ix_Ev o_X11_cell Q) Q ls st μ := ix_Ev.eq (a_X11_cell launch0) rfl ls st μ
theorem e_X11_cell_47 (Q : ix_R → Prop) (ls : ix_L) (st : List ix_V) (μ : ix_M) : ix_Ev o_X11_cell Q (47, ls, st, μ) = ix_if (fun x => x = 0) 50 55 (ix_Ev o_X11_cell Q) Q ls st μ := ix_Ev.eq (a_X11_cell launch0) rfl ls st μ
theorem e_X11_cell_50 (Q : ix_R → Prop) (ls : ix_L) (st : List ix_V) (μ : ix_M) : ix_Ev o_X11_cell Q (50, ls, st, μ) = ix_push (vi 18) 52 (ix_Ev o_X11_cell Q) Q ls st μ := ix_Ev.eq (a_X11_cell launch0) rfl ls st μ
theorem e_X11_cell_52 (Q : ix_R → Prop) (ls : ix_L) (st : List ix_V) (μ : ix_M) : ix_Ev o_X11_cell Q (52, ls, st, μ) = ix_goto 57 (ix_Ev o_X11_cell Q) Q ls st μ := ix_Ev.eq (a_X11_cell launch0) rfl ls st μ
theorem e_X11_cell_55 (Q : ix_R → Prop) (ls : ix_L) (st : List ix_V) (μ : ix_M) : ix_Ev o_X11_cell Q (55, ls, st, μ) = ix_push (vi 34) 57 (ix_Ev o_X11_cell Q) Q ls st μ := ix_Ev.eq (a_X11_cell launch0) rfl ls st μ
theorem e_X11_cell_57 (Q : ix_R → Prop) (ls : ix_L) (st : List ix_V) (μ : ix_M) : ix_Ev o_X11_cell Q (57, ls, st, μ) = ix_iload 1 58 (ix_Ev o_X11_cell Q) Q ls st μ := ix_Ev.eq (a_X11_cell launch0) rfl ls st μ
theorem e_X11_cell_58 (Q : ix_R → Prop) (ls : ix_L) (st : List ix_V) (μ : ix_M) : ix_Ev o_X11_cell Q (58, ls, st, μ) = ix_bin (fun x y => x + y) 59 (ix_Ev o_X11_cell Q) Q ls st μ := ix_Ev.eq (a_X11_cell launch0) rfl ls st μ
theorem e_X11_cell_59 (Q : ix_R → Prop) (ls : ix_L) (st : List ix_V) (μ : ix_M) : ix_Ev o_X11_cell Q (59, ls, st, μ) = ix_iload 3 60 (ix_Ev o_X11_cell Q) Q ls st μ := ix_Ev.eq (a_X11_cell launch0) rfl ls st μ
theorem e_X11_cell_60 (Q : ix_R → Prop) (ls : ix_L) (st : List ix_V) (μ : ix_M) : ix_Ev o_X11_cell Q (60, ls, st, μ) = oc_X11_turn 63 (ix_Ev o_X11_cell Q) Q ls st μ := ix_Ev.eq (a_X11_cell launch0) rfl ls st μ
theorem e_X11_cell_63 (Q : ix_R → Prop) (ls : ix_L) (st : List ix_V) (μ : ix_M) : ix_Ev o_X11_cell Q (63, ls, st, μ) = ix_goto 72 (ix_Ev o_X11_cell Q) Q ls st μ := ix_Ev.eq (a_X11_cell launch0) rfl ls st μ
theorem e_X11_cell_66 (Q : ix_R → Prop) (ls : ix_L) (st : List ix_V) (μ : ix_M) : ix_Ev o_X11_cell Q (66, ls, st, μ) = ix_aload 0 67 (ix_Ev o_X11_cell Q) Q ls st μ := ix_Ev.eq (a_X11_cell launch0) rfl ls st μ
theorem e_X11_cell_67 (Q : ix_R → Prop) (ls : ix_L) (st : List ix_V) (μ : ix_M) : ix_Ev o_X11_cell Q (67, ls, st, μ) = ix_push (vi (-1000000001)) 69 (ix_Ev o_X11_cell Q) Q ls st μ := ix_Ev.eq (a_X11_cell launch0) rfl ls st μ
theorem e_X11_cell_69 (Q : ix_R → Prop) (ls : ix_L) (st : List ix_V) (μ : ix_M) : ix_Ev o_X11_cell Q (69, ls, st, μ) = oc_X11_finding 72 (ix_Ev o_X11_cell Q) Q ls st μ := ix_Ev.eq (a_X11_cell launch0) rfl ls st μ
theorem e_X11_cell_72 (Q : ix_R → Prop) (ls : ix_L) (st : List ix_V) (μ : ix_M) : ix_Ev o_X11_cell Q (72, ls, st, μ) = ix_iret (ix_Ev o_X11_cell Q) Q ls st μ := ix_Ev.eq (a_X11_cell launch0) rfl ls st μ
theorem pr_cell (c : Int32) (w : Int32) (v : Int32) (μ : ix_M) (I : Inv μ) (Q : ix_R → Prop) (hQ : ∀ vv μ', ix_Ev o_X11_cell (Pst vv) (0, [some (vr 10 112), some (vi c), some (vi w), some (vi v), none], [], μ') → Q (some (vi vv), μ')) : ix_Ev o_X10_cell Q (0, [some (vr 9 0), some (vi c), some (vi w), some (vi v)], [], μ) := by
  rcases inR c 15 (by decide) with ⟨C, hC, rfl⟩ | ⟨hx1, hx2⟩
  · obtain ⟨C1, C2, C3, C4⟩ : ¬ nI C < 0 ∧ ¬ (15 : Int32) < nI C ∧ 0 ≤ nI C ∧ nI C ≤ (15 : Int32) := rgN hC (by decide)
    have Cc : (nI C).toNatClampNeg = C := nI_clamp (by omega)
    rcases inR w 1 (by decide) with ⟨W, hW, rfl⟩ | ⟨hx1, hx2⟩
    · obtain ⟨W1, W2, W3, W4⟩ : ¬ nI W < 0 ∧ ¬ (1 : Int32) < nI W ∧ 0 ≤ nI W ∧ nI W ≤ (1 : Int32) := rgN hW (by decide)
      have Wc : (nI W).toNatClampNeg = W := nI_clamp (by omega)
      obtain ⟨x1, x2, x3⟩ := mix 18 C (by omega)
      obtain ⟨y1, y2, y3⟩ := mix 34 C (by omega)
      have x1 : (18 : Int32) + nI C = nI (18 + C) := x1
      have y1 : (34 : Int32) + nI C = nI (34 + C) := y1
      have v1 : vp_in (nI C) (ix_len 3) := vp_in_nI (show C < 16 by omega) (by decide)
      have v2 : vp_in (nI C) (ix_len 4) := vp_in_nI (show C < 16 by omega) (by decide)
      obtain rfl | rfl : W = 0 ∨ W = 1 := by omega
      · rcases inR v 9 (by decide) with ⟨V, hV, rfl⟩ | ⟨hx1, hx2⟩
        · obtain ⟨V1, V2, V3, V4⟩ : ¬ nI V < 0 ∧ ¬ (9 : Int32) < nI V ∧ 0 ≤ nI V ∧ nI V ≤ (9 : Int32) := rgN hV (by decide)
          simp (decide := true) only [e_X10_cell_0, e_X10_cell_1, e_X10_cell_3, e_X10_cell_6, e_X10_cell_9, e_X10_cell_10, e_X10_cell_11, e_X10_cell_14, e_X10_cell_17, e_X10_cell_18, e_X10_cell_19, e_X10_cell_22, e_X10_cell_24, e_X10_cell_27, e_X10_cell_29, e_X10_cell_32, e_X10_cell_35, e_X10_cell_36, e_X10_cell_37, e_X10_cell_40, e_X10_cell_41, e_X10_cell_42, e_X10_cell_45, e_X10_cell_46, e_X10_cell_49, e_X10_cell_52, e_X10_cell_55, e_X10_cell_58, e_X10_cell_59, e_X10_cell_62, e_X10_cell_65, e_X10_cell_68, e_X10_cell_69, e_X10_cell_70, e_X10_cell_73, vi, vl, vr, oc_X10_error, T_X10_error, oc_X10_exchange, T_X10_exchange, oc_X10_outside, T_X10_outside, ix_push, ix_iload, ix_lload, ix_aload, ix_istore, ix_astore, ix_iinc, ix_bin, ix_div, ix_un, ix_i2l, ix_l2i, ix_lbin, ix_lsh, ix_lcmp, ix_dup, ix_dup2, ix_pop, ix_if, ix_cmp, ix_goto, ix_switch, ix_sw, ix_iret, ix_zret, ix_vret, ix_aret, ix_geti, ix_getr, ix_puti, ix_putz, ix_puts, ix_gets, ix_iald, ix_iast, ix_alen, ix_aald, ix_gval, ix_gcod, ix_bald, ix_blen, ix_sald, ix_nret, ix_math2, ix_math1, ix_acopy, Nat.add_assoc, Int32.reduceLT, Int32.reduceLE, Int32.reduceToNatClampNeg, Int32.reduceSub, Int32.reduceAdd, Nat.reduceAdd, Nat.reduceLeDiff, true_or, or_true, or_false, false_or, not_false_eq_true, not_true_eq_false, false_implies, true_implies, implies_true, and_self, mB_0, mB_01, Classical.not_not, Nat.zero_le, List.getElem?_cons_zero, List.getElem?_cons_succ, List.set_cons_zero, List.set_cons_succ, ix_nl, ix_cs, true_and, and_true, Option.toList_some, Option.toList_none, List.cons_append, List.nil_append, C1, C2, C3, C4, Cc, W1, W2, W3, W4, Wc, V1, V2, V3, V4, nz_0, v1, v2, x1, x2, x3, y1, y2, y3, ix_up_ne, ix_up_k, ve_1, ve_2, ve_3, ve_4, ve_5]
          refine hQ _ _ ?_
          simp (decide := true) only [e_X11_cell_0, e_X11_cell_1, e_X11_cell_4, e_X11_cell_5, e_X11_cell_6, e_X11_cell_8, e_X11_cell_11, e_X11_cell_14, e_X11_cell_15, e_X11_cell_16, e_X11_cell_19, e_X11_cell_20, e_X11_cell_23, e_X11_cell_26, e_X11_cell_27, e_X11_cell_30, e_X11_cell_31, e_X11_cell_33, e_X11_cell_34, e_X11_cell_37, e_X11_cell_40, e_X11_cell_42, e_X11_cell_45, e_X11_cell_46, e_X11_cell_47, e_X11_cell_50, e_X11_cell_52, e_X11_cell_55, e_X11_cell_57, e_X11_cell_58, e_X11_cell_59, e_X11_cell_60, e_X11_cell_63, e_X11_cell_66, e_X11_cell_67, e_X11_cell_69, e_X11_cell_72, vi, vl, vr, oc_X11_finding, T_X11_finding, oc_X11_isCell, T_X11_isCell, oc_X11_isMost, T_X11_isMost, oc_X11_turn, T_X11_turn, oc_X11_within, T_X11_within, ix_push, ix_iload, ix_lload, ix_aload, ix_istore, ix_astore, ix_iinc, ix_bin, ix_div, ix_un, ix_i2l, ix_l2i, ix_lbin, ix_lsh, ix_lcmp, ix_dup, ix_dup2, ix_pop, ix_if, ix_cmp, ix_goto, ix_switch, ix_sw, ix_iret, ix_zret, ix_vret, ix_aret, ix_geti, ix_getr, ix_puti, ix_putz, ix_puts, ix_gets, ix_iald, ix_iast, ix_alen, ix_aald, ix_gval, ix_gcod, ix_bald, ix_blen, ix_sald, ix_nret, ix_math2, ix_math1, ix_acopy, ml_113, ml_114, ml_115, ml_116, ml_118, ml_119, ml_120, ml_121, ml_122, ml_123, ml_124, ml_125, ml_126, mv_0, mv_1, mv_2, mv_3, mv_4, mv_5, mB_or, Nat.add_assoc, Int32.reduceLT, Int32.reduceLE, Int32.reduceToNatClampNeg, Int32.reduceSub, Int32.reduceAdd, Nat.reduceAdd, Nat.reduceLeDiff, true_or, or_true, or_false, false_or, not_false_eq_true, not_true_eq_false, false_implies, true_implies, implies_true, and_self, mB_0, mB_01, Classical.not_not, Nat.zero_le, List.getElem?_cons_zero, List.getElem?_cons_succ, List.set_cons_zero, List.set_cons_succ, ix_nl, ix_cs, true_and, and_true, Option.toList_some, Option.toList_none, List.cons_append, List.nil_append, C1, C2, C3, C4, Cc, W1, W2, W3, W4, Wc, V1, V2, V3, V4, nz_0, v1, v2, x1, x2, x3, y1, y2, y3, ix_up_ne, ix_up_k, ve_1, ve_2, ve_3, ve_4, ve_5]
          exact ⟨by rw [I.w1 (by omega)], I.set (r := 1) (wok_1 (by omega)) (by unfold wrB; omega) rfl rfl rfl⟩
        · have hx1 : v < 0 ∨ (9 : Int32) < v := hx1
          have hx2 : ¬ (0 ≤ v ∧ v ≤ (9 : Int32)) := hx2
          simp (decide := true) only [e_X10_cell_0, e_X10_cell_1, e_X10_cell_3, e_X10_cell_6, e_X10_cell_9, e_X10_cell_10, e_X10_cell_11, e_X10_cell_14, e_X10_cell_17, e_X10_cell_18, e_X10_cell_19, e_X10_cell_22, e_X10_cell_24, e_X10_cell_27, e_X10_cell_29, e_X10_cell_32, e_X10_cell_35, e_X10_cell_36, e_X10_cell_37, e_X10_cell_40, e_X10_cell_41, e_X10_cell_42, e_X10_cell_45, e_X10_cell_46, e_X10_cell_49, e_X10_cell_52, e_X10_cell_55, e_X10_cell_58, e_X10_cell_59, e_X10_cell_62, e_X10_cell_65, e_X10_cell_68, e_X10_cell_69, e_X10_cell_70, e_X10_cell_73, vi, vl, vr, oc_X10_error, T_X10_error, oc_X10_exchange, T_X10_exchange, oc_X10_outside, T_X10_outside, ix_push, ix_iload, ix_lload, ix_aload, ix_istore, ix_astore, ix_iinc, ix_bin, ix_div, ix_un, ix_i2l, ix_l2i, ix_lbin, ix_lsh, ix_lcmp, ix_dup, ix_dup2, ix_pop, ix_if, ix_cmp, ix_goto, ix_switch, ix_sw, ix_iret, ix_zret, ix_vret, ix_aret, ix_geti, ix_getr, ix_puti, ix_putz, ix_puts, ix_gets, ix_iald, ix_iast, ix_alen, ix_aald, ix_gval, ix_gcod, ix_bald, ix_blen, ix_sald, ix_nret, ix_math2, ix_math1, ix_acopy, Nat.add_assoc, Int32.reduceLT, Int32.reduceLE, Int32.reduceToNatClampNeg, Int32.reduceSub, Int32.reduceAdd, Nat.reduceAdd, Nat.reduceLeDiff, true_or, or_true, or_false, false_or, not_false_eq_true, not_true_eq_false, false_implies, true_implies, implies_true, and_self, mB_0, mB_01, Classical.not_not, Nat.zero_le, List.getElem?_cons_zero, List.getElem?_cons_succ, List.set_cons_zero, List.set_cons_succ, ix_nl, ix_cs, true_and, and_true, Option.toList_some, Option.toList_none, List.cons_append, List.nil_append, C1, C2, C3, C4, Cc, W1, W2, W3, W4, Wc, nz_0, hx1, hx2, ix_up_ne, ix_up_k, ve_1, ve_2, ve_3, ve_4, ve_5]
          refine hQ _ _ ?_
          simp (decide := true) only [e_X11_cell_0, e_X11_cell_1, e_X11_cell_4, e_X11_cell_5, e_X11_cell_6, e_X11_cell_8, e_X11_cell_11, e_X11_cell_14, e_X11_cell_15, e_X11_cell_16, e_X11_cell_19, e_X11_cell_20, e_X11_cell_23, e_X11_cell_26, e_X11_cell_27, e_X11_cell_30, e_X11_cell_31, e_X11_cell_33, e_X11_cell_34, e_X11_cell_37, e_X11_cell_40, e_X11_cell_42, e_X11_cell_45, e_X11_cell_46, e_X11_cell_47, e_X11_cell_50, e_X11_cell_52, e_X11_cell_55, e_X11_cell_57, e_X11_cell_58, e_X11_cell_59, e_X11_cell_60, e_X11_cell_63, e_X11_cell_66, e_X11_cell_67, e_X11_cell_69, e_X11_cell_72, vi, vl, vr, oc_X11_finding, T_X11_finding, oc_X11_isCell, T_X11_isCell, oc_X11_isMost, T_X11_isMost, oc_X11_turn, T_X11_turn, oc_X11_within, T_X11_within, ix_push, ix_iload, ix_lload, ix_aload, ix_istore, ix_astore, ix_iinc, ix_bin, ix_div, ix_un, ix_i2l, ix_l2i, ix_lbin, ix_lsh, ix_lcmp, ix_dup, ix_dup2, ix_pop, ix_if, ix_cmp, ix_goto, ix_switch, ix_sw, ix_iret, ix_zret, ix_vret, ix_aret, ix_geti, ix_getr, ix_puti, ix_putz, ix_puts, ix_gets, ix_iald, ix_iast, ix_alen, ix_aald, ix_gval, ix_gcod, ix_bald, ix_blen, ix_sald, ix_nret, ix_math2, ix_math1, ix_acopy, ml_113, ml_114, ml_115, ml_116, ml_118, ml_119, ml_120, ml_121, ml_122, ml_123, ml_124, ml_125, ml_126, mv_0, mv_1, mv_2, mv_3, mv_4, mv_5, mB_or, Nat.add_assoc, Int32.reduceLT, Int32.reduceLE, Int32.reduceToNatClampNeg, Int32.reduceSub, Int32.reduceAdd, Nat.reduceAdd, Nat.reduceLeDiff, true_or, or_true, or_false, false_or, not_false_eq_true, not_true_eq_false, false_implies, true_implies, implies_true, and_self, mB_0, mB_01, Classical.not_not, Nat.zero_le, List.getElem?_cons_zero, List.getElem?_cons_succ, List.set_cons_zero, List.set_cons_succ, ix_nl, ix_cs, true_and, and_true, Option.toList_some, Option.toList_none, List.cons_append, List.nil_append, C1, C2, C3, C4, Cc, W1, W2, W3, W4, Wc, nz_0, hx1, hx2, ix_up_ne, ix_up_k, ve_1, ve_2, ve_3, ve_4, ve_5]
          repeat' (first | exact I.er 1 (by decide) | refine ⟨fun _ => ?_, fun _ => ?_⟩)
      · rcases inR v 99 (by decide) with ⟨V, hV, rfl⟩ | ⟨hx1, hx2⟩
        · obtain ⟨V1, V2, V3, V4⟩ : ¬ nI V < 0 ∧ ¬ (99 : Int32) < nI V ∧ 0 ≤ nI V ∧ nI V ≤ (99 : Int32) := rgN hV (by decide)
          simp (decide := true) only [e_X10_cell_0, e_X10_cell_1, e_X10_cell_3, e_X10_cell_6, e_X10_cell_9, e_X10_cell_10, e_X10_cell_11, e_X10_cell_14, e_X10_cell_17, e_X10_cell_18, e_X10_cell_19, e_X10_cell_22, e_X10_cell_24, e_X10_cell_27, e_X10_cell_29, e_X10_cell_32, e_X10_cell_35, e_X10_cell_36, e_X10_cell_37, e_X10_cell_40, e_X10_cell_41, e_X10_cell_42, e_X10_cell_45, e_X10_cell_46, e_X10_cell_49, e_X10_cell_52, e_X10_cell_55, e_X10_cell_58, e_X10_cell_59, e_X10_cell_62, e_X10_cell_65, e_X10_cell_68, e_X10_cell_69, e_X10_cell_70, e_X10_cell_73, vi, vl, vr, oc_X10_error, T_X10_error, oc_X10_exchange, T_X10_exchange, oc_X10_outside, T_X10_outside, ix_push, ix_iload, ix_lload, ix_aload, ix_istore, ix_astore, ix_iinc, ix_bin, ix_div, ix_un, ix_i2l, ix_l2i, ix_lbin, ix_lsh, ix_lcmp, ix_dup, ix_dup2, ix_pop, ix_if, ix_cmp, ix_goto, ix_switch, ix_sw, ix_iret, ix_zret, ix_vret, ix_aret, ix_geti, ix_getr, ix_puti, ix_putz, ix_puts, ix_gets, ix_iald, ix_iast, ix_alen, ix_aald, ix_gval, ix_gcod, ix_bald, ix_blen, ix_sald, ix_nret, ix_math2, ix_math1, ix_acopy, Nat.add_assoc, Int32.reduceLT, Int32.reduceLE, Int32.reduceToNatClampNeg, Int32.reduceSub, Int32.reduceAdd, Nat.reduceAdd, Nat.reduceLeDiff, true_or, or_true, or_false, false_or, not_false_eq_true, not_true_eq_false, false_implies, true_implies, implies_true, and_self, mB_0, mB_01, Classical.not_not, Nat.zero_le, List.getElem?_cons_zero, List.getElem?_cons_succ, List.set_cons_zero, List.set_cons_succ, ix_nl, ix_cs, true_and, and_true, Option.toList_some, Option.toList_none, List.cons_append, List.nil_append, C1, C2, C3, C4, Cc, W1, W2, W3, W4, Wc, V1, V2, V3, V4, nz_1, v1, v2, x1, x2, x3, y1, y2, y3, ix_up_ne, ix_up_k, ve_1, ve_2, ve_3, ve_4, ve_5]
          refine hQ _ _ ?_
          simp (decide := true) only [e_X11_cell_0, e_X11_cell_1, e_X11_cell_4, e_X11_cell_5, e_X11_cell_6, e_X11_cell_8, e_X11_cell_11, e_X11_cell_14, e_X11_cell_15, e_X11_cell_16, e_X11_cell_19, e_X11_cell_20, e_X11_cell_23, e_X11_cell_26, e_X11_cell_27, e_X11_cell_30, e_X11_cell_31, e_X11_cell_33, e_X11_cell_34, e_X11_cell_37, e_X11_cell_40, e_X11_cell_42, e_X11_cell_45, e_X11_cell_46, e_X11_cell_47, e_X11_cell_50, e_X11_cell_52, e_X11_cell_55, e_X11_cell_57, e_X11_cell_58, e_X11_cell_59, e_X11_cell_60, e_X11_cell_63, e_X11_cell_66, e_X11_cell_67, e_X11_cell_69, e_X11_cell_72, vi, vl, vr, oc_X11_finding, T_X11_finding, oc_X11_isCell, T_X11_isCell, oc_X11_isMost, T_X11_isMost, oc_X11_turn, T_X11_turn, oc_X11_within, T_X11_within, ix_push, ix_iload, ix_lload, ix_aload, ix_istore, ix_astore, ix_iinc, ix_bin, ix_div, ix_un, ix_i2l, ix_l2i, ix_lbin, ix_lsh, ix_lcmp, ix_dup, ix_dup2, ix_pop, ix_if, ix_cmp, ix_goto, ix_switch, ix_sw, ix_iret, ix_zret, ix_vret, ix_aret, ix_geti, ix_getr, ix_puti, ix_putz, ix_puts, ix_gets, ix_iald, ix_iast, ix_alen, ix_aald, ix_gval, ix_gcod, ix_bald, ix_blen, ix_sald, ix_nret, ix_math2, ix_math1, ix_acopy, ml_113, ml_114, ml_115, ml_116, ml_118, ml_119, ml_120, ml_121, ml_122, ml_123, ml_124, ml_125, ml_126, mv_0, mv_1, mv_2, mv_3, mv_4, mv_5, mB_or, Nat.add_assoc, Int32.reduceLT, Int32.reduceLE, Int32.reduceToNatClampNeg, Int32.reduceSub, Int32.reduceAdd, Nat.reduceAdd, Nat.reduceLeDiff, true_or, or_true, or_false, false_or, not_false_eq_true, not_true_eq_false, false_implies, true_implies, implies_true, and_self, mB_0, mB_01, Classical.not_not, Nat.zero_le, List.getElem?_cons_zero, List.getElem?_cons_succ, List.set_cons_zero, List.set_cons_succ, ix_nl, ix_cs, true_and, and_true, Option.toList_some, Option.toList_none, List.cons_append, List.nil_append, C1, C2, C3, C4, Cc, W1, W2, W3, W4, Wc, V1, V2, V3, V4, nz_1, v1, v2, x1, x2, x3, y1, y2, y3, ix_up_ne, ix_up_k, ve_1, ve_2, ve_3, ve_4, ve_5]
          exact ⟨by rw [I.w2 (by omega)], I.set (r := 2) (wok_2 (by omega)) (by unfold wrB; omega) rfl rfl rfl⟩
        · have hx1 : v < 0 ∨ (99 : Int32) < v := hx1
          have hx2 : ¬ (0 ≤ v ∧ v ≤ (99 : Int32)) := hx2
          simp (decide := true) only [e_X10_cell_0, e_X10_cell_1, e_X10_cell_3, e_X10_cell_6, e_X10_cell_9, e_X10_cell_10, e_X10_cell_11, e_X10_cell_14, e_X10_cell_17, e_X10_cell_18, e_X10_cell_19, e_X10_cell_22, e_X10_cell_24, e_X10_cell_27, e_X10_cell_29, e_X10_cell_32, e_X10_cell_35, e_X10_cell_36, e_X10_cell_37, e_X10_cell_40, e_X10_cell_41, e_X10_cell_42, e_X10_cell_45, e_X10_cell_46, e_X10_cell_49, e_X10_cell_52, e_X10_cell_55, e_X10_cell_58, e_X10_cell_59, e_X10_cell_62, e_X10_cell_65, e_X10_cell_68, e_X10_cell_69, e_X10_cell_70, e_X10_cell_73, vi, vl, vr, oc_X10_error, T_X10_error, oc_X10_exchange, T_X10_exchange, oc_X10_outside, T_X10_outside, ix_push, ix_iload, ix_lload, ix_aload, ix_istore, ix_astore, ix_iinc, ix_bin, ix_div, ix_un, ix_i2l, ix_l2i, ix_lbin, ix_lsh, ix_lcmp, ix_dup, ix_dup2, ix_pop, ix_if, ix_cmp, ix_goto, ix_switch, ix_sw, ix_iret, ix_zret, ix_vret, ix_aret, ix_geti, ix_getr, ix_puti, ix_putz, ix_puts, ix_gets, ix_iald, ix_iast, ix_alen, ix_aald, ix_gval, ix_gcod, ix_bald, ix_blen, ix_sald, ix_nret, ix_math2, ix_math1, ix_acopy, Nat.add_assoc, Int32.reduceLT, Int32.reduceLE, Int32.reduceToNatClampNeg, Int32.reduceSub, Int32.reduceAdd, Nat.reduceAdd, Nat.reduceLeDiff, true_or, or_true, or_false, false_or, not_false_eq_true, not_true_eq_false, false_implies, true_implies, implies_true, and_self, mB_0, mB_01, Classical.not_not, Nat.zero_le, List.getElem?_cons_zero, List.getElem?_cons_succ, List.set_cons_zero, List.set_cons_succ, ix_nl, ix_cs, true_and, and_true, Option.toList_some, Option.toList_none, List.cons_append, List.nil_append, C1, C2, C3, C4, Cc, W1, W2, W3, W4, Wc, nz_1, hx1, hx2, ix_up_ne, ix_up_k, ve_1, ve_2, ve_3, ve_4, ve_5]
          refine hQ _ _ ?_
          simp (decide := true) only [e_X11_cell_0, e_X11_cell_1, e_X11_cell_4, e_X11_cell_5, e_X11_cell_6, e_X11_cell_8, e_X11_cell_11, e_X11_cell_14, e_X11_cell_15, e_X11_cell_16, e_X11_cell_19, e_X11_cell_20, e_X11_cell_23, e_X11_cell_26, e_X11_cell_27, e_X11_cell_30, e_X11_cell_31, e_X11_cell_33, e_X11_cell_34, e_X11_cell_37, e_X11_cell_40, e_X11_cell_42, e_X11_cell_45, e_X11_cell_46, e_X11_cell_47, e_X11_cell_50, e_X11_cell_52, e_X11_cell_55, e_X11_cell_57, e_X11_cell_58, e_X11_cell_59, e_X11_cell_60, e_X11_cell_63, e_X11_cell_66, e_X11_cell_67, e_X11_cell_69, e_X11_cell_72, vi, vl, vr, oc_X11_finding, T_X11_finding, oc_X11_isCell, T_X11_isCell, oc_X11_isMost, T_X11_isMost, oc_X11_turn, T_X11_turn, oc_X11_within, T_X11_within, ix_push, ix_iload, ix_lload, ix_aload, ix_istore, ix_astore, ix_iinc, ix_bin, ix_div, ix_un, ix_i2l, ix_l2i, ix_lbin, ix_lsh, ix_lcmp, ix_dup, ix_dup2, ix_pop, ix_if, ix_cmp, ix_goto, ix_switch, ix_sw, ix_iret, ix_zret, ix_vret, ix_aret, ix_geti, ix_getr, ix_puti, ix_putz, ix_puts, ix_gets, ix_iald, ix_iast, ix_alen, ix_aald, ix_gval, ix_gcod, ix_bald, ix_blen, ix_sald, ix_nret, ix_math2, ix_math1, ix_acopy, ml_113, ml_114, ml_115, ml_116, ml_118, ml_119, ml_120, ml_121, ml_122, ml_123, ml_124, ml_125, ml_126, mv_0, mv_1, mv_2, mv_3, mv_4, mv_5, mB_or, Nat.add_assoc, Int32.reduceLT, Int32.reduceLE, Int32.reduceToNatClampNeg, Int32.reduceSub, Int32.reduceAdd, Nat.reduceAdd, Nat.reduceLeDiff, true_or, or_true, or_false, false_or, not_false_eq_true, not_true_eq_false, false_implies, true_implies, implies_true, and_self, mB_0, mB_01, Classical.not_not, Nat.zero_le, List.getElem?_cons_zero, List.getElem?_cons_succ, List.set_cons_zero, List.set_cons_succ, ix_nl, ix_cs, true_and, and_true, Option.toList_some, Option.toList_none, List.cons_append, List.nil_append, C1, C2, C3, C4, Cc, W1, W2, W3, W4, Wc, nz_1, hx1, hx2, ix_up_ne, ix_up_k, ve_1, ve_2, ve_3, ve_4, ve_5]
          repeat' (first | exact I.er 1 (by decide) | refine ⟨fun _ => ?_, fun _ => ?_⟩)
    · have hx1 : w < 0 ∨ (1 : Int32) < w := hx1
      have hx2 : ¬ (0 ≤ w ∧ w ≤ (1 : Int32)) := hx2
      have hx3 : ¬ w = 0 := by rintro rfl; exact hx2 (by decide)
      have hx4 : ¬ w = 1 := by rintro rfl; exact hx2 (by decide)
      simp (decide := true) only [e_X10_cell_0, e_X10_cell_1, e_X10_cell_3, e_X10_cell_6, e_X10_cell_9, e_X10_cell_10, e_X10_cell_11, e_X10_cell_14, e_X10_cell_17, e_X10_cell_18, e_X10_cell_19, e_X10_cell_22, e_X10_cell_24, e_X10_cell_27, e_X10_cell_29, e_X10_cell_32, e_X10_cell_35, e_X10_cell_36, e_X10_cell_37, e_X10_cell_40, e_X10_cell_41, e_X10_cell_42, e_X10_cell_45, e_X10_cell_46, e_X10_cell_49, e_X10_cell_52, e_X10_cell_55, e_X10_cell_58, e_X10_cell_59, e_X10_cell_62, e_X10_cell_65, e_X10_cell_68, e_X10_cell_69, e_X10_cell_70, e_X10_cell_73, vi, vl, vr, oc_X10_error, T_X10_error, oc_X10_exchange, T_X10_exchange, oc_X10_outside, T_X10_outside, ix_push, ix_iload, ix_lload, ix_aload, ix_istore, ix_astore, ix_iinc, ix_bin, ix_div, ix_un, ix_i2l, ix_l2i, ix_lbin, ix_lsh, ix_lcmp, ix_dup, ix_dup2, ix_pop, ix_if, ix_cmp, ix_goto, ix_switch, ix_sw, ix_iret, ix_zret, ix_vret, ix_aret, ix_geti, ix_getr, ix_puti, ix_putz, ix_puts, ix_gets, ix_iald, ix_iast, ix_alen, ix_aald, ix_gval, ix_gcod, ix_bald, ix_blen, ix_sald, ix_nret, ix_math2, ix_math1, ix_acopy, Nat.add_assoc, Int32.reduceLT, Int32.reduceLE, Int32.reduceToNatClampNeg, Int32.reduceSub, Int32.reduceAdd, Nat.reduceAdd, Nat.reduceLeDiff, true_or, or_true, or_false, false_or, not_false_eq_true, not_true_eq_false, false_implies, true_implies, implies_true, and_self, mB_0, mB_01, Classical.not_not, Nat.zero_le, List.getElem?_cons_zero, List.getElem?_cons_succ, List.set_cons_zero, List.set_cons_succ, ix_nl, ix_cs, true_and, and_true, Option.toList_some, Option.toList_none, List.cons_append, List.nil_append, C1, C2, C3, C4, Cc, hx1, hx2, hx3, hx4, ix_up_ne, ix_up_k, ve_1, ve_2, ve_3, ve_4, ve_5]
      refine hQ _ _ ?_
      simp (decide := true) only [e_X11_cell_0, e_X11_cell_1, e_X11_cell_4, e_X11_cell_5, e_X11_cell_6, e_X11_cell_8, e_X11_cell_11, e_X11_cell_14, e_X11_cell_15, e_X11_cell_16, e_X11_cell_19, e_X11_cell_20, e_X11_cell_23, e_X11_cell_26, e_X11_cell_27, e_X11_cell_30, e_X11_cell_31, e_X11_cell_33, e_X11_cell_34, e_X11_cell_37, e_X11_cell_40, e_X11_cell_42, e_X11_cell_45, e_X11_cell_46, e_X11_cell_47, e_X11_cell_50, e_X11_cell_52, e_X11_cell_55, e_X11_cell_57, e_X11_cell_58, e_X11_cell_59, e_X11_cell_60, e_X11_cell_63, e_X11_cell_66, e_X11_cell_67, e_X11_cell_69, e_X11_cell_72, vi, vl, vr, oc_X11_finding, T_X11_finding, oc_X11_isCell, T_X11_isCell, oc_X11_isMost, T_X11_isMost, oc_X11_turn, T_X11_turn, oc_X11_within, T_X11_within, ix_push, ix_iload, ix_lload, ix_aload, ix_istore, ix_astore, ix_iinc, ix_bin, ix_div, ix_un, ix_i2l, ix_l2i, ix_lbin, ix_lsh, ix_lcmp, ix_dup, ix_dup2, ix_pop, ix_if, ix_cmp, ix_goto, ix_switch, ix_sw, ix_iret, ix_zret, ix_vret, ix_aret, ix_geti, ix_getr, ix_puti, ix_putz, ix_puts, ix_gets, ix_iald, ix_iast, ix_alen, ix_aald, ix_gval, ix_gcod, ix_bald, ix_blen, ix_sald, ix_nret, ix_math2, ix_math1, ix_acopy, ml_113, ml_114, ml_115, ml_116, ml_118, ml_119, ml_120, ml_121, ml_122, ml_123, ml_124, ml_125, ml_126, mv_0, mv_1, mv_2, mv_3, mv_4, mv_5, mB_or, Nat.add_assoc, Int32.reduceLT, Int32.reduceLE, Int32.reduceToNatClampNeg, Int32.reduceSub, Int32.reduceAdd, Nat.reduceAdd, Nat.reduceLeDiff, true_or, or_true, or_false, false_or, not_false_eq_true, not_true_eq_false, false_implies, true_implies, implies_true, and_self, mB_0, mB_01, Classical.not_not, Nat.zero_le, List.getElem?_cons_zero, List.getElem?_cons_succ, List.set_cons_zero, List.set_cons_succ, ix_nl, ix_cs, true_and, and_true, Option.toList_some, Option.toList_none, List.cons_append, List.nil_append, C1, C2, C3, C4, Cc, hx1, hx2, hx3, hx4, ix_up_ne, ix_up_k, ve_1, ve_2, ve_3, ve_4, ve_5]
      repeat' (first | exact I.er 1 (by decide) | refine ⟨fun _ => ?_, fun _ => ?_⟩)
  · have hx1 : c < 0 ∨ (15 : Int32) < c := hx1
    have hx2 : ¬ (0 ≤ c ∧ c ≤ (15 : Int32)) := hx2
    simp (decide := true) only [e_X10_cell_0, e_X10_cell_1, e_X10_cell_3, e_X10_cell_6, e_X10_cell_9, e_X10_cell_10, e_X10_cell_11, e_X10_cell_14, e_X10_cell_17, e_X10_cell_18, e_X10_cell_19, e_X10_cell_22, e_X10_cell_24, e_X10_cell_27, e_X10_cell_29, e_X10_cell_32, e_X10_cell_35, e_X10_cell_36, e_X10_cell_37, e_X10_cell_40, e_X10_cell_41, e_X10_cell_42, e_X10_cell_45, e_X10_cell_46, e_X10_cell_49, e_X10_cell_52, e_X10_cell_55, e_X10_cell_58, e_X10_cell_59, e_X10_cell_62, e_X10_cell_65, e_X10_cell_68, e_X10_cell_69, e_X10_cell_70, e_X10_cell_73, vi, vl, vr, oc_X10_error, T_X10_error, oc_X10_exchange, T_X10_exchange, oc_X10_outside, T_X10_outside, ix_push, ix_iload, ix_lload, ix_aload, ix_istore, ix_astore, ix_iinc, ix_bin, ix_div, ix_un, ix_i2l, ix_l2i, ix_lbin, ix_lsh, ix_lcmp, ix_dup, ix_dup2, ix_pop, ix_if, ix_cmp, ix_goto, ix_switch, ix_sw, ix_iret, ix_zret, ix_vret, ix_aret, ix_geti, ix_getr, ix_puti, ix_putz, ix_puts, ix_gets, ix_iald, ix_iast, ix_alen, ix_aald, ix_gval, ix_gcod, ix_bald, ix_blen, ix_sald, ix_nret, ix_math2, ix_math1, ix_acopy, Nat.add_assoc, Int32.reduceLT, Int32.reduceLE, Int32.reduceToNatClampNeg, Int32.reduceSub, Int32.reduceAdd, Nat.reduceAdd, Nat.reduceLeDiff, true_or, or_true, or_false, false_or, not_false_eq_true, not_true_eq_false, false_implies, true_implies, implies_true, and_self, mB_0, mB_01, Classical.not_not, Nat.zero_le, List.getElem?_cons_zero, List.getElem?_cons_succ, List.set_cons_zero, List.set_cons_succ, ix_nl, ix_cs, true_and, and_true, Option.toList_some, Option.toList_none, List.cons_append, List.nil_append, hx1, hx2, ix_up_ne, ix_up_k, ve_1, ve_2, ve_3, ve_4, ve_5]
    refine hQ _ _ ?_
    simp (decide := true) only [e_X11_cell_0, e_X11_cell_1, e_X11_cell_4, e_X11_cell_5, e_X11_cell_6, e_X11_cell_8, e_X11_cell_11, e_X11_cell_14, e_X11_cell_15, e_X11_cell_16, e_X11_cell_19, e_X11_cell_20, e_X11_cell_23, e_X11_cell_26, e_X11_cell_27, e_X11_cell_30, e_X11_cell_31, e_X11_cell_33, e_X11_cell_34, e_X11_cell_37, e_X11_cell_40, e_X11_cell_42, e_X11_cell_45, e_X11_cell_46, e_X11_cell_47, e_X11_cell_50, e_X11_cell_52, e_X11_cell_55, e_X11_cell_57, e_X11_cell_58, e_X11_cell_59, e_X11_cell_60, e_X11_cell_63, e_X11_cell_66, e_X11_cell_67, e_X11_cell_69, e_X11_cell_72, vi, vl, vr, oc_X11_finding, T_X11_finding, oc_X11_isCell, T_X11_isCell, oc_X11_isMost, T_X11_isMost, oc_X11_turn, T_X11_turn, oc_X11_within, T_X11_within, ix_push, ix_iload, ix_lload, ix_aload, ix_istore, ix_astore, ix_iinc, ix_bin, ix_div, ix_un, ix_i2l, ix_l2i, ix_lbin, ix_lsh, ix_lcmp, ix_dup, ix_dup2, ix_pop, ix_if, ix_cmp, ix_goto, ix_switch, ix_sw, ix_iret, ix_zret, ix_vret, ix_aret, ix_geti, ix_getr, ix_puti, ix_putz, ix_puts, ix_gets, ix_iald, ix_iast, ix_alen, ix_aald, ix_gval, ix_gcod, ix_bald, ix_blen, ix_sald, ix_nret, ix_math2, ix_math1, ix_acopy, ml_113, ml_114, ml_115, ml_116, ml_118, ml_119, ml_120, ml_121, ml_122, ml_123, ml_124, ml_125, ml_126, mv_0, mv_1, mv_2, mv_3, mv_4, mv_5, mB_or, Nat.add_assoc, Int32.reduceLT, Int32.reduceLE, Int32.reduceToNatClampNeg, Int32.reduceSub, Int32.reduceAdd, Nat.reduceAdd, Nat.reduceLeDiff, true_or, or_true, or_false, false_or, not_false_eq_true, not_true_eq_false, false_implies, true_implies, implies_true, and_self, mB_0, mB_01, Classical.not_not, Nat.zero_le, List.getElem?_cons_zero, List.getElem?_cons_succ, List.set_cons_zero, List.set_cons_succ, ix_nl, ix_cs, true_and, and_true, Option.toList_some, Option.toList_none, List.cons_append, List.nil_append, hx1, hx2, ix_up_ne, ix_up_k, ve_1, ve_2, ve_3, ve_4, ve_5]
    repeat' (first | exact I.er 1 (by decide) | refine ⟨fun _ => ?_, fun _ => ?_⟩)
theorem mOn_cong {f g : Nat → Int32} {c : Int32} : ∀ {n : Nat}, (∀ i, i < n → f i = g i) → mOn f c n = mOn g c n
  | 0, _ => rfl
  | n + 1, h => by rw [mOn, mOn, mOn_cong (fun i hi => h i (by omega)), h n (by omega)]
def o_X10_dark : List (Nat × ix_Op) := [
  (0, ix_iload 1 1),
  (1, ix_push (vi 1) 2),
  (2, ix_cmp (fun x y => x < y) 11 5),
  (5, ix_iload 1 6),
  (6, ix_push (vi 20) 8),
  (8, ix_cmp (fun x y => x ≤ y) 17 11),
  (11, ix_aload 0 12),
  (12, ix_push (vi 1) 13),
  (13, oc_X10_error 16),
  (16, ix_iret),
  (17, ix_aload 0 18),
  (18, ix_getr 9 5 (fun _ => 1) 21),
  (21, ix_getr 5 8 (fun k => k + 1) 24),
  (24, ix_geti 8 9 27),
  (27, ix_istore 2 28),
  (28, ix_aload 0 29),
  (29, ix_getr 9 5 (fun _ => 1) 32),
  (32, ix_getr 5 8 (fun k => k + 1) 35),
  (35, ix_iload 1 36),
  (36, ix_puti 8 9 39),
  (39, ix_iload 2 40),
  (40, ix_iret)]
set_option maxRecDepth 20000 in
theorem a_X10_dark (l : Launch) : ix_AllS l cX10_dark 3 RX10 60 (some .int) o_X10_dark :=
  .cons (ix_s_iload_n dX10_dark_0 rfl) <|
  .cons (ix_s_iconst dX10_dark_1 (by decide +kernel)) <|
  .cons (ix_s_cmp_lt dX10_dark_2 (by decide)) <|
  .cons (ix_s_iload_n dX10_dark_5 rfl) <|
  .cons (ix_s_bipush dX10_dark_6 (by decide +kernel)) <|
  .cons (ix_s_cmp_le dX10_dark_8 (by decide)) <|
  .cons (ix_s_aload_n dX10_dark_11 rfl) <|
  .cons (ix_s_iconst dX10_dark_12 (by decide +kernel)) <|
  .cons (oc_X10_error_s (ix_s_callv (t := 9) (k_X10_error l) (by decide) (by decide) tw_295 tw_1 tw_292 tw_294 tp_0 ⟨by decide, by decide, by decide +kernel⟩ (by decide) rfl rfl (fun _ => ⟨_, _, rfl, rfl⟩) dX10_dark_13)) <|
  .cons (ix_s_iret dX10_dark_16 rfl) <|
  .cons (ix_s_aload_n dX10_dark_17 rfl) <|
  .cons (ix_s_getr (j := 0) tu_X10 rfl (by decide) (by decide) tw_251 rfl ts_9_0_r dX10_dark_18) <|
  .cons (ix_s_getr (j := 0) tu_X6 rfl (by decide) (by decide) tw_138 rfl ts_5_0_r dX10_dark_21) <|
  .cons (ix_s_geti (j := 9) tu_X9 rfl (by decide) (by decide) tw_61 rfl ts_8_9_i dX10_dark_24) <|
  .cons (ix_s_istore_n dX10_dark_27 rfl (by decide)) <|
  .cons (ix_s_aload_n dX10_dark_28 rfl) <|
  .cons (ix_s_getr (j := 0) tu_X10 rfl (by decide) (by decide) tw_251 rfl ts_9_0_r dX10_dark_29) <|
  .cons (ix_s_getr (j := 0) tu_X6 rfl (by decide) (by decide) tw_138 rfl ts_5_0_r dX10_dark_32) <|
  .cons (ix_s_iload_n dX10_dark_35 rfl) <|
  .cons (ix_s_puti (j := 9) tu_X9 tyX9_ok nmX9 rfl (by decide) (by decide) tw_61 rfl rfl (by decide +kernel) ts_8_9_p dX10_dark_36) <|
  .cons (ix_s_iload_n dX10_dark_39 rfl) <|
  .cons (ix_s_iret dX10_dark_40 rfl) <| .nil
theorem e_X10_dark_0 (Q : ix_R → Prop) (ls : ix_L) (st : List ix_V) (μ : ix_M) : ix_Ev o_X10_dark Q (0, ls, st, μ) = ix_iload 1 1 (ix_Ev o_X10_dark Q) Q ls st μ := ix_Ev.eq (a_X10_dark launch0) rfl ls st μ
theorem e_X10_dark_1 (Q : ix_R → Prop) (ls : ix_L) (st : List ix_V) (μ : ix_M) : ix_Ev o_X10_dark Q (1, ls, st, μ) = ix_push (vi 1) 2 (ix_Ev o_X10_dark Q) Q ls st μ := ix_Ev.eq (a_X10_dark launch0) rfl ls st μ
theorem e_X10_dark_2 (Q : ix_R → Prop) (ls : ix_L) (st : List ix_V) (μ : ix_M) : ix_Ev o_X10_dark Q (2, ls, st, μ) = ix_cmp (fun x y => x < y) 11 5 (ix_Ev o_X10_dark Q) Q ls st μ := ix_Ev.eq (a_X10_dark launch0) rfl ls st μ
theorem e_X10_dark_5 (Q : ix_R → Prop) (ls : ix_L) (st : List ix_V) (μ : ix_M) : ix_Ev o_X10_dark Q (5, ls, st, μ) = ix_iload 1 6 (ix_Ev o_X10_dark Q) Q ls st μ := ix_Ev.eq (a_X10_dark launch0) rfl ls st μ
theorem e_X10_dark_6 (Q : ix_R → Prop) (ls : ix_L) (st : List ix_V) (μ : ix_M) : ix_Ev o_X10_dark Q (6, ls, st, μ) = ix_push (vi 20) 8 (ix_Ev o_X10_dark Q) Q ls st μ := ix_Ev.eq (a_X10_dark launch0) rfl ls st μ
theorem e_X10_dark_8 (Q : ix_R → Prop) (ls : ix_L) (st : List ix_V) (μ : ix_M) : ix_Ev o_X10_dark Q (8, ls, st, μ) = ix_cmp (fun x y => x ≤ y) 17 11 (ix_Ev o_X10_dark Q) Q ls st μ := ix_Ev.eq (a_X10_dark launch0) rfl ls st μ
theorem e_X10_dark_11 (Q : ix_R → Prop) (ls : ix_L) (st : List ix_V) (μ : ix_M) : ix_Ev o_X10_dark Q (11, ls, st, μ) = ix_aload 0 12 (ix_Ev o_X10_dark Q) Q ls st μ := ix_Ev.eq (a_X10_dark launch0) rfl ls st μ
theorem e_X10_dark_12 (Q : ix_R → Prop) (ls : ix_L) (st : List ix_V) (μ : ix_M) : ix_Ev o_X10_dark Q (12, ls, st, μ) = ix_push (vi 1) 13 (ix_Ev o_X10_dark Q) Q ls st μ := ix_Ev.eq (a_X10_dark launch0) rfl ls st μ
theorem e_X10_dark_13 (Q : ix_R → Prop) (ls : ix_L) (st : List ix_V) (μ : ix_M) : ix_Ev o_X10_dark Q (13, ls, st, μ) = oc_X10_error 16 (ix_Ev o_X10_dark Q) Q ls st μ := ix_Ev.eq (a_X10_dark launch0) rfl ls st μ
theorem e_X10_dark_16 (Q : ix_R → Prop) (ls : ix_L) (st : List ix_V) (μ : ix_M) : ix_Ev o_X10_dark Q (16, ls, st, μ) = ix_iret (ix_Ev o_X10_dark Q) Q ls st μ := ix_Ev.eq (a_X10_dark launch0) rfl ls st μ
theorem e_X10_dark_17 (Q : ix_R → Prop) (ls : ix_L) (st : List ix_V) (μ : ix_M) : ix_Ev o_X10_dark Q (17, ls, st, μ) = ix_aload 0 18 (ix_Ev o_X10_dark Q) Q ls st μ := ix_Ev.eq (a_X10_dark launch0) rfl ls st μ
theorem e_X10_dark_18 (Q : ix_R → Prop) (ls : ix_L) (st : List ix_V) (μ : ix_M) : ix_Ev o_X10_dark Q (18, ls, st, μ) = ix_getr 9 5 (fun _ => 1) 21 (ix_Ev o_X10_dark Q) Q ls st μ := ix_Ev.eq (a_X10_dark launch0) rfl ls st μ
theorem e_X10_dark_21 (Q : ix_R → Prop) (ls : ix_L) (st : List ix_V) (μ : ix_M) : ix_Ev o_X10_dark Q (21, ls, st, μ) = ix_getr 5 8 (fun k => k + 1) 24 (ix_Ev o_X10_dark Q) Q ls st μ := ix_Ev.eq (a_X10_dark launch0) rfl ls st μ
theorem e_X10_dark_24 (Q : ix_R → Prop) (ls : ix_L) (st : List ix_V) (μ : ix_M) : ix_Ev o_X10_dark Q (24, ls, st, μ) = ix_geti 8 9 27 (ix_Ev o_X10_dark Q) Q ls st μ := ix_Ev.eq (a_X10_dark launch0) rfl ls st μ
theorem e_X10_dark_27 (Q : ix_R → Prop) (ls : ix_L) (st : List ix_V) (μ : ix_M) : ix_Ev o_X10_dark Q (27, ls, st, μ) = ix_istore 2 28 (ix_Ev o_X10_dark Q) Q ls st μ := ix_Ev.eq (a_X10_dark launch0) rfl ls st μ
theorem e_X10_dark_28 (Q : ix_R → Prop) (ls : ix_L) (st : List ix_V) (μ : ix_M) : ix_Ev o_X10_dark Q (28, ls, st, μ) = ix_aload 0 29 (ix_Ev o_X10_dark Q) Q ls st μ := ix_Ev.eq (a_X10_dark launch0) rfl ls st μ
theorem e_X10_dark_29 (Q : ix_R → Prop) (ls : ix_L) (st : List ix_V) (μ : ix_M) : ix_Ev o_X10_dark Q (29, ls, st, μ) = ix_getr 9 5 (fun _ => 1) 32 (ix_Ev o_X10_dark Q) Q ls st μ := ix_Ev.eq (a_X10_dark launch0) rfl ls st μ
theorem e_X10_dark_32 (Q : ix_R → Prop) (ls : ix_L) (st : List ix_V) (μ : ix_M) : ix_Ev o_X10_dark Q (32, ls, st, μ) = ix_getr 5 8 (fun k => k + 1) 35 (ix_Ev o_X10_dark Q) Q ls st μ := ix_Ev.eq (a_X10_dark launch0) rfl ls st μ
theorem e_X10_dark_35 (Q : ix_R → Prop) (ls : ix_L) (st : List ix_V) (μ : ix_M) : ix_Ev o_X10_dark Q (35, ls, st, μ) = ix_iload 1 36 (ix_Ev o_X10_dark Q) Q ls st μ := ix_Ev.eq (a_X10_dark launch0) rfl ls st μ
theorem e_X10_dark_36 (Q : ix_R → Prop) (ls : ix_L) (st : List ix_V) (μ : ix_M) : ix_Ev o_X10_dark Q (36, ls, st, μ) = ix_puti 8 9 39 (ix_Ev o_X10_dark Q) Q ls st μ := ix_Ev.eq (a_X10_dark launch0) rfl ls st μ
theorem e_X10_dark_39 (Q : ix_R → Prop) (ls : ix_L) (st : List ix_V) (μ : ix_M) : ix_Ev o_X10_dark Q (39, ls, st, μ) = ix_iload 2 40 (ix_Ev o_X10_dark Q) Q ls st μ := ix_Ev.eq (a_X10_dark launch0) rfl ls st μ
theorem e_X10_dark_40 (Q : ix_R → Prop) (ls : ix_L) (st : List ix_V) (μ : ix_M) : ix_Ev o_X10_dark Q (40, ls, st, μ) = ix_iret (ix_Ev o_X10_dark Q) Q ls st μ := ix_Ev.eq (a_X10_dark launch0) rfl ls st μ
def o_X11_dark : List (Nat × ix_Op) := [
  (0, ix_iload 1 1),
  (1, ix_push (vi 1) 2),
  (2, ix_push (vi 20) 4),
  (4, oc_X11_within 7),
  (7, ix_if (fun x => x = 0) 19 10),
  (10, ix_aload 0 11),
  (11, ix_push (vi 2) 12),
  (12, ix_iload 1 13),
  (13, oc_X11_turn 16),
  (16, ix_goto 25),
  (19, ix_aload 0 20),
  (20, ix_push (vi (-1000000001)) 22),
  (22, oc_X11_finding 25),
  (25, ix_iret)]
set_option maxRecDepth 20000 in
theorem a_X11_dark (l : Launch) : ix_AllS l cX11_dark 2 RX11 60 (some .int) o_X11_dark :=
  .cons (ix_s_iload_n dX11_dark_0 rfl) <|
  .cons (ix_s_iconst dX11_dark_1 (by decide +kernel)) <|
  .cons (ix_s_bipush dX11_dark_2 (by decide +kernel)) <|
  .cons (oc_X11_within_s (ix_s_calls (k_X11_within l) (by decide) (by decide) tw_960 tw_12 tw_958 tw_959 ⟨by decide, by decide, by decide +kernel⟩ (fun _ => rfl) dX11_dark_4)) <|
  .cons (ix_s_if_eq dX11_dark_7 (by decide)) <|
  .cons (ix_s_aload_n dX11_dark_10 rfl) <|
  .cons (ix_s_iconst dX11_dark_11 (by decide +kernel)) <|
  .cons (ix_s_iload_n dX11_dark_12 rfl) <|
  .cons (oc_X11_turn_s (ix_s_callv (t := 10) (k_X11_turn l) (by decide) (by decide) tw_1071 tw_12 tw_1068 tw_1070 tp_32 ⟨by decide, by decide, by decide +kernel⟩ (by decide) rfl rfl (fun _ => ⟨_, _, rfl, rfl⟩) dX11_dark_13)) <|
  .cons (ix_s_goto dX11_dark_16 (by decide)) <|
  .cons (ix_s_aload_n dX11_dark_19 rfl) <|
  .cons (ix_s_ldc tw_961 dX11_dark_20) <|
  .cons (oc_X11_finding_s (ix_s_callv (t := 10) (k_X11_finding l) (by decide) (by decide) tw_965 tw_12 tw_962 tw_964 tp_18 ⟨by decide, by decide, by decide +kernel⟩ (by decide) rfl rfl (fun _ => ⟨_, _, rfl, rfl⟩) dX11_dark_22)) <|
  .cons (ix_s_iret dX11_dark_25 rfl) <| .nil
theorem e_X11_dark_0 (Q : ix_R → Prop) (ls : ix_L) (st : List ix_V) (μ : ix_M) : ix_Ev o_X11_dark Q (0, ls, st, μ) = ix_iload 1 1 (ix_Ev o_X11_dark Q) Q ls st μ := ix_Ev.eq (a_X11_dark launch0) rfl ls st μ
theorem e_X11_dark_1 (Q : ix_R → Prop) (ls : ix_L) (st : List ix_V) (μ : ix_M) : ix_Ev o_X11_dark Q (1, ls, st, μ) = ix_push (vi 1) 2 (ix_Ev o_X11_dark Q) Q ls st μ := ix_Ev.eq (a_X11_dark launch0) rfl ls st μ
theorem e_X11_dark_2 (Q : ix_R → Prop) (ls : ix_L) (st : List ix_V) (μ : ix_M) : ix_Ev o_X11_dark Q (2, ls, st, μ) = ix_push (vi 20) 4 (ix_Ev o_X11_dark Q) Q ls st μ := ix_Ev.eq (a_X11_dark launch0) rfl ls st μ
theorem e_X11_dark_4 (Q : ix_R → Prop) (ls : ix_L) (st : List ix_V) (μ : ix_M) : ix_Ev o_X11_dark Q (4, ls, st, μ) = oc_X11_within 7 (ix_Ev o_X11_dark Q) Q ls st μ := ix_Ev.eq (a_X11_dark launch0) rfl ls st μ
theorem e_X11_dark_7 (Q : ix_R → Prop) (ls : ix_L) (st : List ix_V) (μ : ix_M) : ix_Ev o_X11_dark Q (7, ls, st, μ) = ix_if (fun x => x = 0) 19 10 (ix_Ev o_X11_dark Q) Q ls st μ := ix_Ev.eq (a_X11_dark launch0) rfl ls st μ
theorem e_X11_dark_10 (Q : ix_R → Prop) (ls : ix_L) (st : List ix_V) (μ : ix_M) : ix_Ev o_X11_dark Q (10, ls, st, μ) = ix_aload 0 11 (ix_Ev o_X11_dark Q) Q ls st μ := ix_Ev.eq (a_X11_dark launch0) rfl ls st μ
theorem e_X11_dark_11 (Q : ix_R → Prop) (ls : ix_L) (st : List ix_V) (μ : ix_M) : ix_Ev o_X11_dark Q (11, ls, st, μ) = ix_push (vi 2) 12 (ix_Ev o_X11_dark Q) Q ls st μ := ix_Ev.eq (a_X11_dark launch0) rfl ls st μ
theorem e_X11_dark_12 (Q : ix_R → Prop) (ls : ix_L) (st : List ix_V) (μ : ix_M) : ix_Ev o_X11_dark Q (12, ls, st, μ) = ix_iload 1 13 (ix_Ev o_X11_dark Q) Q ls st μ := ix_Ev.eq (a_X11_dark launch0) rfl ls st μ
theorem e_X11_dark_13 (Q : ix_R → Prop) (ls : ix_L) (st : List ix_V) (μ : ix_M) : ix_Ev o_X11_dark Q (13, ls, st, μ) = oc_X11_turn 16 (ix_Ev o_X11_dark Q) Q ls st μ := ix_Ev.eq (a_X11_dark launch0) rfl ls st μ
theorem e_X11_dark_16 (Q : ix_R → Prop) (ls : ix_L) (st : List ix_V) (μ : ix_M) : ix_Ev o_X11_dark Q (16, ls, st, μ) = ix_goto 25 (ix_Ev o_X11_dark Q) Q ls st μ := ix_Ev.eq (a_X11_dark launch0) rfl ls st μ
theorem e_X11_dark_19 (Q : ix_R → Prop) (ls : ix_L) (st : List ix_V) (μ : ix_M) : ix_Ev o_X11_dark Q (19, ls, st, μ) = ix_aload 0 20 (ix_Ev o_X11_dark Q) Q ls st μ := ix_Ev.eq (a_X11_dark launch0) rfl ls st μ
theorem e_X11_dark_20 (Q : ix_R → Prop) (ls : ix_L) (st : List ix_V) (μ : ix_M) : ix_Ev o_X11_dark Q (20, ls, st, μ) = ix_push (vi (-1000000001)) 22 (ix_Ev o_X11_dark Q) Q ls st μ := ix_Ev.eq (a_X11_dark launch0) rfl ls st μ
theorem e_X11_dark_22 (Q : ix_R → Prop) (ls : ix_L) (st : List ix_V) (μ : ix_M) : ix_Ev o_X11_dark Q (22, ls, st, μ) = oc_X11_finding 25 (ix_Ev o_X11_dark Q) Q ls st μ := ix_Ev.eq (a_X11_dark launch0) rfl ls st μ
theorem e_X11_dark_25 (Q : ix_R → Prop) (ls : ix_L) (st : List ix_V) (μ : ix_M) : ix_Ev o_X11_dark Q (25, ls, st, μ) = ix_iret (ix_Ev o_X11_dark Q) Q ls st μ := ix_Ev.eq (a_X11_dark launch0) rfl ls st μ
theorem pr_dark (v : Int32) (μ : ix_M) (I : Inv μ) (Q : ix_R → Prop) (hQ : ∀ vv μ', ix_Ev o_X11_dark (Pst vv) (0, [some (vr 10 112), some (vi v)], [], μ') → Q (some (vi vv), μ')) : ix_Ev o_X10_dark Q (0, [some (vr 9 0), some (vi v), none], [], μ) := by
  by_cases h : 1 ≤ v ∧ v ≤ 20
  · have h1 : ¬ v < 1 := Int32.not_lt.mpr h.1
    have h2 : ¬ 20 < v := Int32.not_lt.mpr h.2
    simp (decide := true) only [e_X10_dark_0, e_X10_dark_1, e_X10_dark_2, e_X10_dark_5, e_X10_dark_6, e_X10_dark_8, e_X10_dark_11, e_X10_dark_12, e_X10_dark_13, e_X10_dark_16, e_X10_dark_17, e_X10_dark_18, e_X10_dark_21, e_X10_dark_24, e_X10_dark_27, e_X10_dark_28, e_X10_dark_29, e_X10_dark_32, e_X10_dark_35, e_X10_dark_36, e_X10_dark_39, e_X10_dark_40, vi, vl, vr, oc_X10_error, T_X10_error, ix_push, ix_iload, ix_lload, ix_aload, ix_istore, ix_astore, ix_iinc, ix_bin, ix_div, ix_un, ix_i2l, ix_l2i, ix_lbin, ix_lsh, ix_lcmp, ix_dup, ix_dup2, ix_pop, ix_if, ix_cmp, ix_goto, ix_switch, ix_sw, ix_iret, ix_zret, ix_vret, ix_aret, ix_geti, ix_getr, ix_puti, ix_putz, ix_puts, ix_gets, ix_iald, ix_iast, ix_alen, ix_aald, ix_gval, ix_gcod, ix_bald, ix_blen, ix_sald, ix_nret, ix_math2, ix_math1, ix_acopy, Nat.add_assoc, Int32.reduceLT, Int32.reduceLE, Int32.reduceToNatClampNeg, Int32.reduceSub, Int32.reduceAdd, Nat.reduceAdd, Nat.reduceLeDiff, true_or, or_true, or_false, false_or, not_false_eq_true, not_true_eq_false, false_implies, true_implies, implies_true, and_self, mB_0, mB_01, Classical.not_not, Nat.zero_le, List.getElem?_cons_zero, List.getElem?_cons_succ, List.set_cons_zero, List.set_cons_succ, ix_nl, ix_cs, true_and, and_true, Option.toList_some, Option.toList_none, List.cons_append, List.nil_append, h1, h2, h, ix_up_ne, ix_up_k, ve_1, ve_2, ve_3, ve_4, ve_5]
    refine hQ _ _ ?_
    simp (decide := true) only [e_X11_dark_0, e_X11_dark_1, e_X11_dark_2, e_X11_dark_4, e_X11_dark_7, e_X11_dark_10, e_X11_dark_11, e_X11_dark_12, e_X11_dark_13, e_X11_dark_16, e_X11_dark_19, e_X11_dark_20, e_X11_dark_22, e_X11_dark_25, vi, vl, vr, oc_X11_finding, T_X11_finding, oc_X11_turn, T_X11_turn, oc_X11_within, T_X11_within, ix_push, ix_iload, ix_lload, ix_aload, ix_istore, ix_astore, ix_iinc, ix_bin, ix_div, ix_un, ix_i2l, ix_l2i, ix_lbin, ix_lsh, ix_lcmp, ix_dup, ix_dup2, ix_pop, ix_if, ix_cmp, ix_goto, ix_switch, ix_sw, ix_iret, ix_zret, ix_vret, ix_aret, ix_geti, ix_getr, ix_puti, ix_putz, ix_puts, ix_gets, ix_iald, ix_iast, ix_alen, ix_aald, ix_gval, ix_gcod, ix_bald, ix_blen, ix_sald, ix_nret, ix_math2, ix_math1, ix_acopy, ml_113, ml_114, ml_115, ml_116, ml_118, ml_119, ml_120, ml_121, ml_122, ml_123, ml_124, ml_125, ml_126, mv_0, mv_1, mv_2, mv_3, mv_4, mv_5, mB_or, Nat.add_assoc, Int32.reduceLT, Int32.reduceLE, Int32.reduceToNatClampNeg, Int32.reduceSub, Int32.reduceAdd, Nat.reduceAdd, Nat.reduceLeDiff, true_or, or_true, or_false, false_or, not_false_eq_true, not_true_eq_false, false_implies, true_implies, implies_true, and_self, mB_0, mB_01, Classical.not_not, Nat.zero_le, List.getElem?_cons_zero, List.getElem?_cons_succ, List.set_cons_zero, List.set_cons_succ, ix_nl, ix_cs, true_and, and_true, Option.toList_some, Option.toList_none, List.cons_append, List.nil_append, h1, h2, h, ix_up_ne, ix_up_k, ve_1, ve_2, ve_3, ve_4, ve_5]
    obtain ⟨V, hV, rfl⟩ := nI_of2 (n := 20) (M := 20) rfl (fun z => h1 (by rw [fa_lt] at z ⊢; exact Int.lt_trans z (by decide))) h.2
    exact ⟨by rw [show μ 2 9 = μ 113 2 from I.w (r := 0) (i := 9) rfl], I.set (r := 0) (i := 9) rfl (by unfold wrB; omega) rfl rfl rfl⟩
  · by_cases c : v < 1
    · simp (decide := true) only [e_X10_dark_0, e_X10_dark_1, e_X10_dark_2, e_X10_dark_5, e_X10_dark_6, e_X10_dark_8, e_X10_dark_11, e_X10_dark_12, e_X10_dark_13, e_X10_dark_16, e_X10_dark_17, e_X10_dark_18, e_X10_dark_21, e_X10_dark_24, e_X10_dark_27, e_X10_dark_28, e_X10_dark_29, e_X10_dark_32, e_X10_dark_35, e_X10_dark_36, e_X10_dark_39, e_X10_dark_40, vi, vl, vr, oc_X10_error, T_X10_error, ix_push, ix_iload, ix_lload, ix_aload, ix_istore, ix_astore, ix_iinc, ix_bin, ix_div, ix_un, ix_i2l, ix_l2i, ix_lbin, ix_lsh, ix_lcmp, ix_dup, ix_dup2, ix_pop, ix_if, ix_cmp, ix_goto, ix_switch, ix_sw, ix_iret, ix_zret, ix_vret, ix_aret, ix_geti, ix_getr, ix_puti, ix_putz, ix_puts, ix_gets, ix_iald, ix_iast, ix_alen, ix_aald, ix_gval, ix_gcod, ix_bald, ix_blen, ix_sald, ix_nret, ix_math2, ix_math1, ix_acopy, Nat.add_assoc, Int32.reduceLT, Int32.reduceLE, Int32.reduceToNatClampNeg, Int32.reduceSub, Int32.reduceAdd, Nat.reduceAdd, Nat.reduceLeDiff, true_or, or_true, or_false, false_or, not_false_eq_true, not_true_eq_false, false_implies, true_implies, implies_true, and_self, mB_0, mB_01, Classical.not_not, Nat.zero_le, List.getElem?_cons_zero, List.getElem?_cons_succ, List.set_cons_zero, List.set_cons_succ, ix_nl, ix_cs, true_and, and_true, Option.toList_some, Option.toList_none, List.cons_append, List.nil_append, c, ix_up_ne, ix_up_k, ve_1, ve_2, ve_3, ve_4, ve_5]
      refine hQ _ _ ?_
      simp (decide := true) only [e_X11_dark_0, e_X11_dark_1, e_X11_dark_2, e_X11_dark_4, e_X11_dark_7, e_X11_dark_10, e_X11_dark_11, e_X11_dark_12, e_X11_dark_13, e_X11_dark_16, e_X11_dark_19, e_X11_dark_20, e_X11_dark_22, e_X11_dark_25, vi, vl, vr, oc_X11_finding, T_X11_finding, oc_X11_turn, T_X11_turn, oc_X11_within, T_X11_within, ix_push, ix_iload, ix_lload, ix_aload, ix_istore, ix_astore, ix_iinc, ix_bin, ix_div, ix_un, ix_i2l, ix_l2i, ix_lbin, ix_lsh, ix_lcmp, ix_dup, ix_dup2, ix_pop, ix_if, ix_cmp, ix_goto, ix_switch, ix_sw, ix_iret, ix_zret, ix_vret, ix_aret, ix_geti, ix_getr, ix_puti, ix_putz, ix_puts, ix_gets, ix_iald, ix_iast, ix_alen, ix_aald, ix_gval, ix_gcod, ix_bald, ix_blen, ix_sald, ix_nret, ix_math2, ix_math1, ix_acopy, ml_113, ml_114, ml_115, ml_116, ml_118, ml_119, ml_120, ml_121, ml_122, ml_123, ml_124, ml_125, ml_126, mv_0, mv_1, mv_2, mv_3, mv_4, mv_5, mB_or, Nat.add_assoc, Int32.reduceLT, Int32.reduceLE, Int32.reduceToNatClampNeg, Int32.reduceSub, Int32.reduceAdd, Nat.reduceAdd, Nat.reduceLeDiff, true_or, or_true, or_false, false_or, not_false_eq_true, not_true_eq_false, false_implies, true_implies, implies_true, and_self, mB_0, mB_01, Classical.not_not, Nat.zero_le, List.getElem?_cons_zero, List.getElem?_cons_succ, List.set_cons_zero, List.set_cons_succ, ix_nl, ix_cs, true_and, and_true, Option.toList_some, Option.toList_none, List.cons_append, List.nil_append, h, ix_up_ne, ix_up_k, ve_1, ve_2, ve_3, ve_4, ve_5]
      exact I.er 1 (by decide)
    · have c2 : ¬ v ≤ 20 := fun z => h ⟨Int32.not_lt.mp c, z⟩
      simp (decide := true) only [e_X10_dark_0, e_X10_dark_1, e_X10_dark_2, e_X10_dark_5, e_X10_dark_6, e_X10_dark_8, e_X10_dark_11, e_X10_dark_12, e_X10_dark_13, e_X10_dark_16, e_X10_dark_17, e_X10_dark_18, e_X10_dark_21, e_X10_dark_24, e_X10_dark_27, e_X10_dark_28, e_X10_dark_29, e_X10_dark_32, e_X10_dark_35, e_X10_dark_36, e_X10_dark_39, e_X10_dark_40, vi, vl, vr, oc_X10_error, T_X10_error, ix_push, ix_iload, ix_lload, ix_aload, ix_istore, ix_astore, ix_iinc, ix_bin, ix_div, ix_un, ix_i2l, ix_l2i, ix_lbin, ix_lsh, ix_lcmp, ix_dup, ix_dup2, ix_pop, ix_if, ix_cmp, ix_goto, ix_switch, ix_sw, ix_iret, ix_zret, ix_vret, ix_aret, ix_geti, ix_getr, ix_puti, ix_putz, ix_puts, ix_gets, ix_iald, ix_iast, ix_alen, ix_aald, ix_gval, ix_gcod, ix_bald, ix_blen, ix_sald, ix_nret, ix_math2, ix_math1, ix_acopy, Nat.add_assoc, Int32.reduceLT, Int32.reduceLE, Int32.reduceToNatClampNeg, Int32.reduceSub, Int32.reduceAdd, Nat.reduceAdd, Nat.reduceLeDiff, true_or, or_true, or_false, false_or, not_false_eq_true, not_true_eq_false, false_implies, true_implies, implies_true, and_self, mB_0, mB_01, Classical.not_not, Nat.zero_le, List.getElem?_cons_zero, List.getElem?_cons_succ, List.set_cons_zero, List.set_cons_succ, ix_nl, ix_cs, true_and, and_true, Option.toList_some, Option.toList_none, List.cons_append, List.nil_append, c, c2, ix_up_ne, ix_up_k, ve_1, ve_2, ve_3, ve_4, ve_5]
      refine hQ _ _ ?_
      simp (decide := true) only [e_X11_dark_0, e_X11_dark_1, e_X11_dark_2, e_X11_dark_4, e_X11_dark_7, e_X11_dark_10, e_X11_dark_11, e_X11_dark_12, e_X11_dark_13, e_X11_dark_16, e_X11_dark_19, e_X11_dark_20, e_X11_dark_22, e_X11_dark_25, vi, vl, vr, oc_X11_finding, T_X11_finding, oc_X11_turn, T_X11_turn, oc_X11_within, T_X11_within, ix_push, ix_iload, ix_lload, ix_aload, ix_istore, ix_astore, ix_iinc, ix_bin, ix_div, ix_un, ix_i2l, ix_l2i, ix_lbin, ix_lsh, ix_lcmp, ix_dup, ix_dup2, ix_pop, ix_if, ix_cmp, ix_goto, ix_switch, ix_sw, ix_iret, ix_zret, ix_vret, ix_aret, ix_geti, ix_getr, ix_puti, ix_putz, ix_puts, ix_gets, ix_iald, ix_iast, ix_alen, ix_aald, ix_gval, ix_gcod, ix_bald, ix_blen, ix_sald, ix_nret, ix_math2, ix_math1, ix_acopy, ml_113, ml_114, ml_115, ml_116, ml_118, ml_119, ml_120, ml_121, ml_122, ml_123, ml_124, ml_125, ml_126, mv_0, mv_1, mv_2, mv_3, mv_4, mv_5, mB_or, Nat.add_assoc, Int32.reduceLT, Int32.reduceLE, Int32.reduceToNatClampNeg, Int32.reduceSub, Int32.reduceAdd, Nat.reduceAdd, Nat.reduceLeDiff, true_or, or_true, or_false, false_or, not_false_eq_true, not_true_eq_false, false_implies, true_implies, implies_true, and_self, mB_0, mB_01, Classical.not_not, Nat.zero_le, List.getElem?_cons_zero, List.getElem?_cons_succ, List.set_cons_zero, List.set_cons_succ, ix_nl, ix_cs, true_and, and_true, Option.toList_some, Option.toList_none, List.cons_append, List.nil_append, h, ix_up_ne, ix_up_k, ve_1, ve_2, ve_3, ve_4, ve_5]
      exact I.er 1 (by decide)
def o_X10_wants : List (Nat × ix_Op) := [
  (0, ix_iload 1 1),
  (1, ix_push (vi 5) 2),
  (2, oc_X10_outside 5),
  (5, ix_if (fun x => x = 0) 8 17),
  (8, ix_iload 2 9),
  (9, ix_push (vi 99) 11),
  (11, oc_X10_outside 14),
  (14, ix_if (fun x => x = 0) 23 17),
  (17, ix_aload 0 18),
  (18, ix_push (vi 1) 19),
  (19, oc_X10_error 22),
  (22, ix_iret),
  (23, ix_aload 0 24),
  (24, ix_getr 9 5 (fun _ => 1) 27),
  (27, ix_getr 5 20 (fun k => k + 22) 30),
  (30, ix_iload 1 31),
  (31, ix_iload 2 32),
  (32, oc_X10_exchange 35),
  (35, ix_iret)]
set_option maxRecDepth 20000 in
theorem a_X10_wants (l : Launch) : ix_AllS l cX10_wants 3 RX10 60 (some .int) o_X10_wants :=
  .cons (ix_s_iload_n dX10_wants_0 rfl) <|
  .cons (ix_s_iconst dX10_wants_1 (by decide +kernel)) <|
  .cons (oc_X10_outside_s (ix_s_calls (k_X10_outside l) (by decide) (by decide) tw_291 tw_1 tw_289 tw_290 ⟨by decide, by decide, by decide +kernel⟩ (fun _ => rfl) dX10_wants_2)) <|
  .cons (ix_s_if_ne dX10_wants_5 (by decide)) <|
  .cons (ix_s_iload_n dX10_wants_8 rfl) <|
  .cons (ix_s_bipush dX10_wants_9 (by decide +kernel)) <|
  .cons (oc_X10_outside_s (ix_s_calls (k_X10_outside l) (by decide) (by decide) tw_291 tw_1 tw_289 tw_290 ⟨by decide, by decide, by decide +kernel⟩ (fun _ => rfl) dX10_wants_11)) <|
  .cons (ix_s_if_eq dX10_wants_14 (by decide)) <|
  .cons (ix_s_aload_n dX10_wants_17 rfl) <|
  .cons (ix_s_iconst dX10_wants_18 (by decide +kernel)) <|
  .cons (oc_X10_error_s (ix_s_callv (t := 9) (k_X10_error l) (by decide) (by decide) tw_295 tw_1 tw_292 tw_294 tp_0 ⟨by decide, by decide, by decide +kernel⟩ (by decide) rfl rfl (fun _ => ⟨_, _, rfl, rfl⟩) dX10_wants_19)) <|
  .cons (ix_s_iret dX10_wants_22 rfl) <|
  .cons (ix_s_aload_n dX10_wants_23 rfl) <|
  .cons (ix_s_getr (j := 0) tu_X10 rfl (by decide) (by decide) tw_251 rfl ts_9_0_r dX10_wants_24) <|
  .cons (ix_s_getr (j := 4) tu_X6 rfl (by decide) (by decide) tw_147 rfl ts_5_4_r dX10_wants_27) <|
  .cons (ix_s_iload_n dX10_wants_30 rfl) <|
  .cons (ix_s_iload_n dX10_wants_31 rfl) <|
  .cons (oc_X10_exchange_s (ix_s_calls (k_X10_exchange l) (by decide) (by decide) tw_299 tw_1 tw_297 tw_298 ⟨by decide, by decide, by decide +kernel⟩ (fun _ => rfl) dX10_wants_32)) <|
  .cons (ix_s_iret dX10_wants_35 rfl) <| .nil
theorem e_X10_wants_0 (Q : ix_R → Prop) (ls : ix_L) (st : List ix_V) (μ : ix_M) : ix_Ev o_X10_wants Q (0, ls, st, μ) = ix_iload 1 1 (ix_Ev o_X10_wants Q) Q ls st μ := ix_Ev.eq (a_X10_wants launch0) rfl ls st μ
theorem e_X10_wants_1 (Q : ix_R → Prop) (ls : ix_L) (st : List ix_V) (μ : ix_M) : ix_Ev o_X10_wants Q (1, ls, st, μ) = ix_push (vi 5) 2 (ix_Ev o_X10_wants Q) Q ls st μ := ix_Ev.eq (a_X10_wants launch0) rfl ls st μ
theorem e_X10_wants_2 (Q : ix_R → Prop) (ls : ix_L) (st : List ix_V) (μ : ix_M) : ix_Ev o_X10_wants Q (2, ls, st, μ) = oc_X10_outside 5 (ix_Ev o_X10_wants Q) Q ls st μ := ix_Ev.eq (a_X10_wants launch0) rfl ls st μ
theorem e_X10_wants_5 (Q : ix_R → Prop) (ls : ix_L) (st : List ix_V) (μ : ix_M) : ix_Ev o_X10_wants Q (5, ls, st, μ) = ix_if (fun x => x = 0) 8 17 (ix_Ev o_X10_wants Q) Q ls st μ := ix_Ev.eq (a_X10_wants launch0) rfl ls st μ
theorem e_X10_wants_8 (Q : ix_R → Prop) (ls : ix_L) (st : List ix_V) (μ : ix_M) : ix_Ev o_X10_wants Q (8, ls, st, μ) = ix_iload 2 9 (ix_Ev o_X10_wants Q) Q ls st μ := ix_Ev.eq (a_X10_wants launch0) rfl ls st μ
theorem e_X10_wants_9 (Q : ix_R → Prop) (ls : ix_L) (st : List ix_V) (μ : ix_M) : ix_Ev o_X10_wants Q (9, ls, st, μ) = ix_push (vi 99) 11 (ix_Ev o_X10_wants Q) Q ls st μ := ix_Ev.eq (a_X10_wants launch0) rfl ls st μ
theorem e_X10_wants_11 (Q : ix_R → Prop) (ls : ix_L) (st : List ix_V) (μ : ix_M) : ix_Ev o_X10_wants Q (11, ls, st, μ) = oc_X10_outside 14 (ix_Ev o_X10_wants Q) Q ls st μ := ix_Ev.eq (a_X10_wants launch0) rfl ls st μ
theorem e_X10_wants_14 (Q : ix_R → Prop) (ls : ix_L) (st : List ix_V) (μ : ix_M) : ix_Ev o_X10_wants Q (14, ls, st, μ) = ix_if (fun x => x = 0) 23 17 (ix_Ev o_X10_wants Q) Q ls st μ := ix_Ev.eq (a_X10_wants launch0) rfl ls st μ
theorem e_X10_wants_17 (Q : ix_R → Prop) (ls : ix_L) (st : List ix_V) (μ : ix_M) : ix_Ev o_X10_wants Q (17, ls, st, μ) = ix_aload 0 18 (ix_Ev o_X10_wants Q) Q ls st μ := ix_Ev.eq (a_X10_wants launch0) rfl ls st μ
theorem e_X10_wants_18 (Q : ix_R → Prop) (ls : ix_L) (st : List ix_V) (μ : ix_M) : ix_Ev o_X10_wants Q (18, ls, st, μ) = ix_push (vi 1) 19 (ix_Ev o_X10_wants Q) Q ls st μ := ix_Ev.eq (a_X10_wants launch0) rfl ls st μ
theorem e_X10_wants_19 (Q : ix_R → Prop) (ls : ix_L) (st : List ix_V) (μ : ix_M) : ix_Ev o_X10_wants Q (19, ls, st, μ) = oc_X10_error 22 (ix_Ev o_X10_wants Q) Q ls st μ := ix_Ev.eq (a_X10_wants launch0) rfl ls st μ
theorem e_X10_wants_22 (Q : ix_R → Prop) (ls : ix_L) (st : List ix_V) (μ : ix_M) : ix_Ev o_X10_wants Q (22, ls, st, μ) = ix_iret (ix_Ev o_X10_wants Q) Q ls st μ := ix_Ev.eq (a_X10_wants launch0) rfl ls st μ
theorem e_X10_wants_23 (Q : ix_R → Prop) (ls : ix_L) (st : List ix_V) (μ : ix_M) : ix_Ev o_X10_wants Q (23, ls, st, μ) = ix_aload 0 24 (ix_Ev o_X10_wants Q) Q ls st μ := ix_Ev.eq (a_X10_wants launch0) rfl ls st μ
theorem e_X10_wants_24 (Q : ix_R → Prop) (ls : ix_L) (st : List ix_V) (μ : ix_M) : ix_Ev o_X10_wants Q (24, ls, st, μ) = ix_getr 9 5 (fun _ => 1) 27 (ix_Ev o_X10_wants Q) Q ls st μ := ix_Ev.eq (a_X10_wants launch0) rfl ls st μ
theorem e_X10_wants_27 (Q : ix_R → Prop) (ls : ix_L) (st : List ix_V) (μ : ix_M) : ix_Ev o_X10_wants Q (27, ls, st, μ) = ix_getr 5 20 (fun k => k + 22) 30 (ix_Ev o_X10_wants Q) Q ls st μ := ix_Ev.eq (a_X10_wants launch0) rfl ls st μ
theorem e_X10_wants_30 (Q : ix_R → Prop) (ls : ix_L) (st : List ix_V) (μ : ix_M) : ix_Ev o_X10_wants Q (30, ls, st, μ) = ix_iload 1 31 (ix_Ev o_X10_wants Q) Q ls st μ := ix_Ev.eq (a_X10_wants launch0) rfl ls st μ
theorem e_X10_wants_31 (Q : ix_R → Prop) (ls : ix_L) (st : List ix_V) (μ : ix_M) : ix_Ev o_X10_wants Q (31, ls, st, μ) = ix_iload 2 32 (ix_Ev o_X10_wants Q) Q ls st μ := ix_Ev.eq (a_X10_wants launch0) rfl ls st μ
theorem e_X10_wants_32 (Q : ix_R → Prop) (ls : ix_L) (st : List ix_V) (μ : ix_M) : ix_Ev o_X10_wants Q (32, ls, st, μ) = oc_X10_exchange 35 (ix_Ev o_X10_wants Q) Q ls st μ := ix_Ev.eq (a_X10_wants launch0) rfl ls st μ
theorem e_X10_wants_35 (Q : ix_R → Prop) (ls : ix_L) (st : List ix_V) (μ : ix_M) : ix_Ev o_X10_wants Q (35, ls, st, μ) = ix_iret (ix_Ev o_X10_wants Q) Q ls st μ := ix_Ev.eq (a_X10_wants launch0) rfl ls st μ
def o_X11_wants : List (Nat × ix_Op) := [
  (0, ix_iload 1 1),
  (1, oc_X11_isWearer 4),
  (4, ix_if (fun x => x = 0) 26 7),
  (7, ix_iload 2 8),
  (8, oc_X11_isMost 11),
  (11, ix_if (fun x => x = 0) 26 14),
  (14, ix_aload 0 15),
  (15, ix_push (vi 12) 17),
  (17, ix_iload 1 18),
  (18, ix_bin (fun x y => x + y) 19),
  (19, ix_iload 2 20),
  (20, oc_X11_turn 23),
  (23, ix_goto 32),
  (26, ix_aload 0 27),
  (27, ix_push (vi (-1000000001)) 29),
  (29, oc_X11_finding 32),
  (32, ix_iret)]
set_option maxRecDepth 20000 in
theorem a_X11_wants (l : Launch) : ix_AllS l cX11_wants 3 RX11 60 (some .int) o_X11_wants :=
  .cons (ix_s_iload_n dX11_wants_0 rfl) <|
  .cons (oc_X11_isWearer_s (ix_s_calls (k_X11_isWearer l) (by decide) (by decide) tw_1112 tw_12 tw_1110 tw_1111 ⟨by decide, by decide, by decide +kernel⟩ (fun _ => rfl) dX11_wants_1)) <|
  .cons (ix_s_if_eq dX11_wants_4 (by decide)) <|
  .cons (ix_s_iload_n dX11_wants_7 rfl) <|
  .cons (oc_X11_isMost_s (ix_s_calls (k_X11_isMost l) (by decide) (by decide) tw_1064 tw_12 tw_1062 tw_1063 ⟨by decide, by decide, by decide +kernel⟩ (fun _ => rfl) dX11_wants_8)) <|
  .cons (ix_s_if_eq dX11_wants_11 (by decide)) <|
  .cons (ix_s_aload_n dX11_wants_14 rfl) <|
  .cons (ix_s_bipush dX11_wants_15 (by decide +kernel)) <|
  .cons (ix_s_iload_n dX11_wants_17 rfl) <|
  .cons (ix_s_iadd dX11_wants_18) <|
  .cons (ix_s_iload_n dX11_wants_19 rfl) <|
  .cons (oc_X11_turn_s (ix_s_callv (t := 10) (k_X11_turn l) (by decide) (by decide) tw_1071 tw_12 tw_1068 tw_1070 tp_32 ⟨by decide, by decide, by decide +kernel⟩ (by decide) rfl rfl (fun _ => ⟨_, _, rfl, rfl⟩) dX11_wants_20)) <|
  .cons (ix_s_goto dX11_wants_23 (by decide)) <|
  .cons (ix_s_aload_n dX11_wants_26 rfl) <|
  .cons (ix_s_ldc tw_961 dX11_wants_27) <|
  .cons (oc_X11_finding_s (ix_s_callv (t := 10) (k_X11_finding l) (by decide) (by decide) tw_965 tw_12 tw_962 tw_964 tp_18 ⟨by decide, by decide, by decide +kernel⟩ (by decide) rfl rfl (fun _ => ⟨_, _, rfl, rfl⟩) dX11_wants_29)) <|
  .cons (ix_s_iret dX11_wants_32 rfl) <| .nil
theorem e_X11_wants_0 (Q : ix_R → Prop) (ls : ix_L) (st : List ix_V) (μ : ix_M) : ix_Ev o_X11_wants Q (0, ls, st, μ) = ix_iload 1 1 (ix_Ev o_X11_wants Q) Q ls st μ := ix_Ev.eq (a_X11_wants launch0) rfl ls st μ
theorem e_X11_wants_1 (Q : ix_R → Prop) (ls : ix_L) (st : List ix_V) (μ : ix_M) : ix_Ev o_X11_wants Q (1, ls, st, μ) = oc_X11_isWearer 4 (ix_Ev o_X11_wants Q) Q ls st μ := ix_Ev.eq (a_X11_wants launch0) rfl ls st μ
theorem e_X11_wants_4 (Q : ix_R → Prop) (ls : ix_L) (st : List ix_V) (μ : ix_M) : ix_Ev o_X11_wants Q (4, ls, st, μ) = ix_if (fun x => x = 0) 26 7 (ix_Ev o_X11_wants Q) Q ls st μ := ix_Ev.eq (a_X11_wants launch0) rfl ls st μ
theorem e_X11_wants_7 (Q : ix_R → Prop) (ls : ix_L) (st : List ix_V) (μ : ix_M) : ix_Ev o_X11_wants Q (7, ls, st, μ) = ix_iload 2 8 (ix_Ev o_X11_wants Q) Q ls st μ := ix_Ev.eq (a_X11_wants launch0) rfl ls st μ
theorem e_X11_wants_8 (Q : ix_R → Prop) (ls : ix_L) (st : List ix_V) (μ : ix_M) : ix_Ev o_X11_wants Q (8, ls, st, μ) = oc_X11_isMost 11 (ix_Ev o_X11_wants Q) Q ls st μ := ix_Ev.eq (a_X11_wants launch0) rfl ls st μ
theorem e_X11_wants_11 (Q : ix_R → Prop) (ls : ix_L) (st : List ix_V) (μ : ix_M) : ix_Ev o_X11_wants Q (11, ls, st, μ) = ix_if (fun x => x = 0) 26 14 (ix_Ev o_X11_wants Q) Q ls st μ := ix_Ev.eq (a_X11_wants launch0) rfl ls st μ
theorem e_X11_wants_14 (Q : ix_R → Prop) (ls : ix_L) (st : List ix_V) (μ : ix_M) : ix_Ev o_X11_wants Q (14, ls, st, μ) = ix_aload 0 15 (ix_Ev o_X11_wants Q) Q ls st μ := ix_Ev.eq (a_X11_wants launch0) rfl ls st μ
theorem e_X11_wants_15 (Q : ix_R → Prop) (ls : ix_L) (st : List ix_V) (μ : ix_M) : ix_Ev o_X11_wants Q (15, ls, st, μ) = ix_push (vi 12) 17 (ix_Ev o_X11_wants Q) Q ls st μ := ix_Ev.eq (a_X11_wants launch0) rfl ls st μ
theorem e_X11_wants_17 (Q : ix_R → Prop) (ls : ix_L) (st : List ix_V) (μ : ix_M) : ix_Ev o_X11_wants Q (17, ls, st, μ) = ix_iload 1 18 (ix_Ev o_X11_wants Q) Q ls st μ := ix_Ev.eq (a_X11_wants launch0) rfl ls st μ
theorem e_X11_wants_18 (Q : ix_R → Prop) (ls : ix_L) (st : List ix_V) (μ : ix_M) : ix_Ev o_X11_wants Q (18, ls, st, μ) = ix_bin (fun x y => x + y) 19 (ix_Ev o_X11_wants Q) Q ls st μ := ix_Ev.eq (a_X11_wants launch0) rfl ls st μ
theorem e_X11_wants_19 (Q : ix_R → Prop) (ls : ix_L) (st : List ix_V) (μ : ix_M) : ix_Ev o_X11_wants Q (19, ls, st, μ) = ix_iload 2 20 (ix_Ev o_X11_wants Q) Q ls st μ := ix_Ev.eq (a_X11_wants launch0) rfl ls st μ
theorem e_X11_wants_20 (Q : ix_R → Prop) (ls : ix_L) (st : List ix_V) (μ : ix_M) : ix_Ev o_X11_wants Q (20, ls, st, μ) = oc_X11_turn 23 (ix_Ev o_X11_wants Q) Q ls st μ := ix_Ev.eq (a_X11_wants launch0) rfl ls st μ
theorem e_X11_wants_23 (Q : ix_R → Prop) (ls : ix_L) (st : List ix_V) (μ : ix_M) : ix_Ev o_X11_wants Q (23, ls, st, μ) = ix_goto 32 (ix_Ev o_X11_wants Q) Q ls st μ := ix_Ev.eq (a_X11_wants launch0) rfl ls st μ
theorem e_X11_wants_26 (Q : ix_R → Prop) (ls : ix_L) (st : List ix_V) (μ : ix_M) : ix_Ev o_X11_wants Q (26, ls, st, μ) = ix_aload 0 27 (ix_Ev o_X11_wants Q) Q ls st μ := ix_Ev.eq (a_X11_wants launch0) rfl ls st μ
theorem e_X11_wants_27 (Q : ix_R → Prop) (ls : ix_L) (st : List ix_V) (μ : ix_M) : ix_Ev o_X11_wants Q (27, ls, st, μ) = ix_push (vi (-1000000001)) 29 (ix_Ev o_X11_wants Q) Q ls st μ := ix_Ev.eq (a_X11_wants launch0) rfl ls st μ
theorem e_X11_wants_29 (Q : ix_R → Prop) (ls : ix_L) (st : List ix_V) (μ : ix_M) : ix_Ev o_X11_wants Q (29, ls, st, μ) = oc_X11_finding 32 (ix_Ev o_X11_wants Q) Q ls st μ := ix_Ev.eq (a_X11_wants launch0) rfl ls st μ
theorem e_X11_wants_32 (Q : ix_R → Prop) (ls : ix_L) (st : List ix_V) (μ : ix_M) : ix_Ev o_X11_wants Q (32, ls, st, μ) = ix_iret (ix_Ev o_X11_wants Q) Q ls st μ := ix_Ev.eq (a_X11_wants launch0) rfl ls st μ
theorem pr_wants (w : Int32) (v : Int32) (μ : ix_M) (I : Inv μ) (Q : ix_R → Prop) (hQ : ∀ vv μ', ix_Ev o_X11_wants (Pst vv) (0, [some (vr 10 112), some (vi w), some (vi v)], [], μ') → Q (some (vi vv), μ')) : ix_Ev o_X10_wants Q (0, [some (vr 9 0), some (vi w), some (vi v)], [], μ) := by
  rcases inR w 5 (by decide) with ⟨W, hW, rfl⟩ | ⟨hx1, hx2⟩
  · obtain ⟨W1, W2, W3, W4⟩ : ¬ nI W < 0 ∧ ¬ (5 : Int32) < nI W ∧ 0 ≤ nI W ∧ nI W ≤ (5 : Int32) := rgN hW (by decide)
    have Wc : (nI W).toNatClampNeg = W := nI_clamp (by omega)
    rcases inR v 99 (by decide) with ⟨V, hV, rfl⟩ | ⟨hx1, hx2⟩
    · obtain ⟨V1, V2, V3, V4⟩ : ¬ nI V < 0 ∧ ¬ (99 : Int32) < nI V ∧ 0 ≤ nI V ∧ nI V ≤ (99 : Int32) := rgN hV (by decide)
      have Vc : (nI V).toNatClampNeg = V := nI_clamp (by omega)
      obtain ⟨x1, x2, x3⟩ := mix 12 W (by omega)
      have x1 : (12 : Int32) + nI W = nI (12 + W) := x1
      have v1 : vp_in (nI W) (ix_len 23) := vp_in_nI (show W < 6 by omega) (by decide)
      simp (decide := true) only [e_X10_wants_0, e_X10_wants_1, e_X10_wants_2, e_X10_wants_5, e_X10_wants_8, e_X10_wants_9, e_X10_wants_11, e_X10_wants_14, e_X10_wants_17, e_X10_wants_18, e_X10_wants_19, e_X10_wants_22, e_X10_wants_23, e_X10_wants_24, e_X10_wants_27, e_X10_wants_30, e_X10_wants_31, e_X10_wants_32, e_X10_wants_35, vi, vl, vr, oc_X10_error, T_X10_error, oc_X10_exchange, T_X10_exchange, oc_X10_outside, T_X10_outside, ix_push, ix_iload, ix_lload, ix_aload, ix_istore, ix_astore, ix_iinc, ix_bin, ix_div, ix_un, ix_i2l, ix_l2i, ix_lbin, ix_lsh, ix_lcmp, ix_dup, ix_dup2, ix_pop, ix_if, ix_cmp, ix_goto, ix_switch, ix_sw, ix_iret, ix_zret, ix_vret, ix_aret, ix_geti, ix_getr, ix_puti, ix_putz, ix_puts, ix_gets, ix_iald, ix_iast, ix_alen, ix_aald, ix_gval, ix_gcod, ix_bald, ix_blen, ix_sald, ix_nret, ix_math2, ix_math1, ix_acopy, Nat.add_assoc, Int32.reduceLT, Int32.reduceLE, Int32.reduceToNatClampNeg, Int32.reduceSub, Int32.reduceAdd, Nat.reduceAdd, Nat.reduceLeDiff, true_or, or_true, or_false, false_or, not_false_eq_true, not_true_eq_false, false_implies, true_implies, implies_true, and_self, mB_0, mB_01, Classical.not_not, Nat.zero_le, List.getElem?_cons_zero, List.getElem?_cons_succ, List.set_cons_zero, List.set_cons_succ, ix_nl, ix_cs, true_and, and_true, Option.toList_some, Option.toList_none, List.cons_append, List.nil_append, W1, W2, W3, W4, Wc, V1, V2, V3, V4, Vc, v1, x1, x2, x3, ix_up_ne, ix_up_k, ve_1, ve_2, ve_3, ve_4, ve_5]
      refine hQ _ _ ?_
      simp (decide := true) only [e_X11_wants_0, e_X11_wants_1, e_X11_wants_4, e_X11_wants_7, e_X11_wants_8, e_X11_wants_11, e_X11_wants_14, e_X11_wants_15, e_X11_wants_17, e_X11_wants_18, e_X11_wants_19, e_X11_wants_20, e_X11_wants_23, e_X11_wants_26, e_X11_wants_27, e_X11_wants_29, e_X11_wants_32, vi, vl, vr, oc_X11_finding, T_X11_finding, oc_X11_isMost, T_X11_isMost, oc_X11_isWearer, T_X11_isWearer, oc_X11_turn, T_X11_turn, ix_push, ix_iload, ix_lload, ix_aload, ix_istore, ix_astore, ix_iinc, ix_bin, ix_div, ix_un, ix_i2l, ix_l2i, ix_lbin, ix_lsh, ix_lcmp, ix_dup, ix_dup2, ix_pop, ix_if, ix_cmp, ix_goto, ix_switch, ix_sw, ix_iret, ix_zret, ix_vret, ix_aret, ix_geti, ix_getr, ix_puti, ix_putz, ix_puts, ix_gets, ix_iald, ix_iast, ix_alen, ix_aald, ix_gval, ix_gcod, ix_bald, ix_blen, ix_sald, ix_nret, ix_math2, ix_math1, ix_acopy, ml_113, ml_114, ml_115, ml_116, ml_118, ml_119, ml_120, ml_121, ml_122, ml_123, ml_124, ml_125, ml_126, mv_0, mv_1, mv_2, mv_3, mv_4, mv_5, mB_or, Nat.add_assoc, Int32.reduceLT, Int32.reduceLE, Int32.reduceToNatClampNeg, Int32.reduceSub, Int32.reduceAdd, Nat.reduceAdd, Nat.reduceLeDiff, true_or, or_true, or_false, false_or, not_false_eq_true, not_true_eq_false, false_implies, true_implies, implies_true, and_self, mB_0, mB_01, Classical.not_not, Nat.zero_le, List.getElem?_cons_zero, List.getElem?_cons_succ, List.set_cons_zero, List.set_cons_succ, ix_nl, ix_cs, true_and, and_true, Option.toList_some, Option.toList_none, List.cons_append, List.nil_append, W1, W2, W3, W4, Wc, V1, V2, V3, V4, Vc, v1, x1, x2, x3, ix_up_ne, ix_up_k, ve_1, ve_2, ve_3, ve_4, ve_5]
      refine pst (I.1.2.2.2.2.1 W (by omega)).1.symm ?_
      obtain ⟨s1, s2, s3, s4, s5, s6, s7⟩ := I.1
      have e1 : ∀ a, a ≠ 23 → a ≠ 113 → ix_up (ix_up μ 23 W (nI V)) 113 (12 + W) (nI V) a = μ a := fun a h1 h2 => by rw [ix_up_ne h2, ix_up_ne h1]
      have e2 : ∀ j, j ≠ 12 + W → ix_up (ix_up μ 23 W (nI V)) 113 (12 + W) (nI V) 113 j = μ 113 j := fun j h => by rw [ix_up_ap, if_neg (fun z => h z.2), ix_up_ne (by decide)]
      refine I.now (L := [23, 113]) ((Fx.rf.up (by simp)).up (by simp)) (by decide) ⟨CW_fx s1 (fun a h1 h2 => e1 a (by omega) (by omega)) (fun j h1 h2 => e2 j (by unfold rst at h2; omega)), ?_, CT_fx s3 (e1 19 (by decide) (by decide)) (e1 20 (by decide) (by decide)) (fun j hj => e2 j (by omega)), CA_fx s4 (e1 21 (by decide) (by decide)) (e1 22 (by decide) (by decide)) (fun j hj => e2 j (by omega)), fun j hj => ?_, CX_fx s6 (e1 12 (by decide) (by decide)) (e1 13 (by decide) (by decide)) (fun j hj => e2 j (by omega)), CX_fx s7 (e1 16 (by decide) (by decide)) (e1 17 (by decide) (by decide)) (fun j hj => e2 j (by omega))⟩ (by decide)
      · rw [e1 1 (by decide) (by decide), e2 _ (by omega)]
        exact s2
      · by_cases c : j = W
        · subst c
          rw [ix_up_ne (by decide), ix_up_k, ix_up_k]
          exact ⟨rfl, V, hV, rfl⟩
        · rw [e2 _ (by omega), ix_up_ne (by decide), ix_up_ap, if_neg (fun z => c z.2)]
          exact s5 j hj
    · have hx1 : v < 0 ∨ (99 : Int32) < v := hx1
      have hx2 : ¬ (0 ≤ v ∧ v ≤ (99 : Int32)) := hx2
      simp (decide := true) only [e_X10_wants_0, e_X10_wants_1, e_X10_wants_2, e_X10_wants_5, e_X10_wants_8, e_X10_wants_9, e_X10_wants_11, e_X10_wants_14, e_X10_wants_17, e_X10_wants_18, e_X10_wants_19, e_X10_wants_22, e_X10_wants_23, e_X10_wants_24, e_X10_wants_27, e_X10_wants_30, e_X10_wants_31, e_X10_wants_32, e_X10_wants_35, vi, vl, vr, oc_X10_error, T_X10_error, oc_X10_exchange, T_X10_exchange, oc_X10_outside, T_X10_outside, ix_push, ix_iload, ix_lload, ix_aload, ix_istore, ix_astore, ix_iinc, ix_bin, ix_div, ix_un, ix_i2l, ix_l2i, ix_lbin, ix_lsh, ix_lcmp, ix_dup, ix_dup2, ix_pop, ix_if, ix_cmp, ix_goto, ix_switch, ix_sw, ix_iret, ix_zret, ix_vret, ix_aret, ix_geti, ix_getr, ix_puti, ix_putz, ix_puts, ix_gets, ix_iald, ix_iast, ix_alen, ix_aald, ix_gval, ix_gcod, ix_bald, ix_blen, ix_sald, ix_nret, ix_math2, ix_math1, ix_acopy, Nat.add_assoc, Int32.reduceLT, Int32.reduceLE, Int32.reduceToNatClampNeg, Int32.reduceSub, Int32.reduceAdd, Nat.reduceAdd, Nat.reduceLeDiff, true_or, or_true, or_false, false_or, not_false_eq_true, not_true_eq_false, false_implies, true_implies, implies_true, and_self, mB_0, mB_01, Classical.not_not, Nat.zero_le, List.getElem?_cons_zero, List.getElem?_cons_succ, List.set_cons_zero, List.set_cons_succ, ix_nl, ix_cs, true_and, and_true, Option.toList_some, Option.toList_none, List.cons_append, List.nil_append, W1, W2, W3, W4, Wc, hx1, hx2, ix_up_ne, ix_up_k, ve_1, ve_2, ve_3, ve_4, ve_5]
      refine hQ _ _ ?_
      simp (decide := true) only [e_X11_wants_0, e_X11_wants_1, e_X11_wants_4, e_X11_wants_7, e_X11_wants_8, e_X11_wants_11, e_X11_wants_14, e_X11_wants_15, e_X11_wants_17, e_X11_wants_18, e_X11_wants_19, e_X11_wants_20, e_X11_wants_23, e_X11_wants_26, e_X11_wants_27, e_X11_wants_29, e_X11_wants_32, vi, vl, vr, oc_X11_finding, T_X11_finding, oc_X11_isMost, T_X11_isMost, oc_X11_isWearer, T_X11_isWearer, oc_X11_turn, T_X11_turn, ix_push, ix_iload, ix_lload, ix_aload, ix_istore, ix_astore, ix_iinc, ix_bin, ix_div, ix_un, ix_i2l, ix_l2i, ix_lbin, ix_lsh, ix_lcmp, ix_dup, ix_dup2, ix_pop, ix_if, ix_cmp, ix_goto, ix_switch, ix_sw, ix_iret, ix_zret, ix_vret, ix_aret, ix_geti, ix_getr, ix_puti, ix_putz, ix_puts, ix_gets, ix_iald, ix_iast, ix_alen, ix_aald, ix_gval, ix_gcod, ix_bald, ix_blen, ix_sald, ix_nret, ix_math2, ix_math1, ix_acopy, ml_113, ml_114, ml_115, ml_116, ml_118, ml_119, ml_120, ml_121, ml_122, ml_123, ml_124, ml_125, ml_126, mv_0, mv_1, mv_2, mv_3, mv_4, mv_5, mB_or, Nat.add_assoc, Int32.reduceLT, Int32.reduceLE, Int32.reduceToNatClampNeg, Int32.reduceSub, Int32.reduceAdd, Nat.reduceAdd, Nat.reduceLeDiff, true_or, or_true, or_false, false_or, not_false_eq_true, not_true_eq_false, false_implies, true_implies, implies_true, and_self, mB_0, mB_01, Classical.not_not, Nat.zero_le, List.getElem?_cons_zero, List.getElem?_cons_succ, List.set_cons_zero, List.set_cons_succ, ix_nl, ix_cs, true_and, and_true, Option.toList_some, Option.toList_none, List.cons_append, List.nil_append, W1, W2, W3, W4, Wc, hx1, hx2, ix_up_ne, ix_up_k, ve_1, ve_2, ve_3, ve_4, ve_5]
      repeat' (first | exact I.er 1 (by decide) | refine ⟨fun _ => ?_, fun _ => ?_⟩)
  · have hx1 : w < 0 ∨ (5 : Int32) < w := hx1
    have hx2 : ¬ (0 ≤ w ∧ w ≤ (5 : Int32)) := hx2
    simp (decide := true) only [e_X10_wants_0, e_X10_wants_1, e_X10_wants_2, e_X10_wants_5, e_X10_wants_8, e_X10_wants_9, e_X10_wants_11, e_X10_wants_14, e_X10_wants_17, e_X10_wants_18, e_X10_wants_19, e_X10_wants_22, e_X10_wants_23, e_X10_wants_24, e_X10_wants_27, e_X10_wants_30, e_X10_wants_31, e_X10_wants_32, e_X10_wants_35, vi, vl, vr, oc_X10_error, T_X10_error, oc_X10_exchange, T_X10_exchange, oc_X10_outside, T_X10_outside, ix_push, ix_iload, ix_lload, ix_aload, ix_istore, ix_astore, ix_iinc, ix_bin, ix_div, ix_un, ix_i2l, ix_l2i, ix_lbin, ix_lsh, ix_lcmp, ix_dup, ix_dup2, ix_pop, ix_if, ix_cmp, ix_goto, ix_switch, ix_sw, ix_iret, ix_zret, ix_vret, ix_aret, ix_geti, ix_getr, ix_puti, ix_putz, ix_puts, ix_gets, ix_iald, ix_iast, ix_alen, ix_aald, ix_gval, ix_gcod, ix_bald, ix_blen, ix_sald, ix_nret, ix_math2, ix_math1, ix_acopy, Nat.add_assoc, Int32.reduceLT, Int32.reduceLE, Int32.reduceToNatClampNeg, Int32.reduceSub, Int32.reduceAdd, Nat.reduceAdd, Nat.reduceLeDiff, true_or, or_true, or_false, false_or, not_false_eq_true, not_true_eq_false, false_implies, true_implies, implies_true, and_self, mB_0, mB_01, Classical.not_not, Nat.zero_le, List.getElem?_cons_zero, List.getElem?_cons_succ, List.set_cons_zero, List.set_cons_succ, ix_nl, ix_cs, true_and, and_true, Option.toList_some, Option.toList_none, List.cons_append, List.nil_append, hx1, hx2, ix_up_ne, ix_up_k, ve_1, ve_2, ve_3, ve_4, ve_5]
    refine hQ _ _ ?_
    simp (decide := true) only [e_X11_wants_0, e_X11_wants_1, e_X11_wants_4, e_X11_wants_7, e_X11_wants_8, e_X11_wants_11, e_X11_wants_14, e_X11_wants_15, e_X11_wants_17, e_X11_wants_18, e_X11_wants_19, e_X11_wants_20, e_X11_wants_23, e_X11_wants_26, e_X11_wants_27, e_X11_wants_29, e_X11_wants_32, vi, vl, vr, oc_X11_finding, T_X11_finding, oc_X11_isMost, T_X11_isMost, oc_X11_isWearer, T_X11_isWearer, oc_X11_turn, T_X11_turn, ix_push, ix_iload, ix_lload, ix_aload, ix_istore, ix_astore, ix_iinc, ix_bin, ix_div, ix_un, ix_i2l, ix_l2i, ix_lbin, ix_lsh, ix_lcmp, ix_dup, ix_dup2, ix_pop, ix_if, ix_cmp, ix_goto, ix_switch, ix_sw, ix_iret, ix_zret, ix_vret, ix_aret, ix_geti, ix_getr, ix_puti, ix_putz, ix_puts, ix_gets, ix_iald, ix_iast, ix_alen, ix_aald, ix_gval, ix_gcod, ix_bald, ix_blen, ix_sald, ix_nret, ix_math2, ix_math1, ix_acopy, ml_113, ml_114, ml_115, ml_116, ml_118, ml_119, ml_120, ml_121, ml_122, ml_123, ml_124, ml_125, ml_126, mv_0, mv_1, mv_2, mv_3, mv_4, mv_5, mB_or, Nat.add_assoc, Int32.reduceLT, Int32.reduceLE, Int32.reduceToNatClampNeg, Int32.reduceSub, Int32.reduceAdd, Nat.reduceAdd, Nat.reduceLeDiff, true_or, or_true, or_false, false_or, not_false_eq_true, not_true_eq_false, false_implies, true_implies, implies_true, and_self, mB_0, mB_01, Classical.not_not, Nat.zero_le, List.getElem?_cons_zero, List.getElem?_cons_succ, List.set_cons_zero, List.set_cons_succ, ix_nl, ix_cs, true_and, and_true, Option.toList_some, Option.toList_none, List.cons_append, List.nil_append, hx1, hx2, ix_up_ne, ix_up_k, ve_1, ve_2, ve_3, ve_4, ve_5]
    repeat' (first | exact I.er 1 (by decide) | refine ⟨fun _ => ?_, fun _ => ?_⟩)
def o_X10_ofWearer : List (Nat × ix_Op) := [
  (0, ix_iload 1 1),
  (1, ix_push (vi 5) 2),
  (2, oc_X10_outside 5),
  (5, ix_if (fun x => x = 0) 14 8),
  (8, ix_aload 0 9),
  (9, ix_push (vi 1) 10),
  (10, oc_X10_error 13),
  (13, ix_iret),
  (14, ix_aload 0 15),
  (15, ix_getr 9 5 (fun _ => 1) 18),
  (18, ix_getr 5 20 (fun k => k + 22) 21),
  (21, ix_iload 1 22),
  (22, ix_iald 23),
  (23, ix_iret)]
set_option maxRecDepth 20000 in
theorem a_X10_ofWearer (l : Launch) : ix_AllS l cX10_ofWearer 2 RX10 60 (some .int) o_X10_ofWearer :=
  .cons (ix_s_iload_n dX10_ofWearer_0 rfl) <|
  .cons (ix_s_iconst dX10_ofWearer_1 (by decide +kernel)) <|
  .cons (oc_X10_outside_s (ix_s_calls (k_X10_outside l) (by decide) (by decide) tw_291 tw_1 tw_289 tw_290 ⟨by decide, by decide, by decide +kernel⟩ (fun _ => rfl) dX10_ofWearer_2)) <|
  .cons (ix_s_if_eq dX10_ofWearer_5 (by decide)) <|
  .cons (ix_s_aload_n dX10_ofWearer_8 rfl) <|
  .cons (ix_s_iconst dX10_ofWearer_9 (by decide +kernel)) <|
  .cons (oc_X10_error_s (ix_s_callv (t := 9) (k_X10_error l) (by decide) (by decide) tw_295 tw_1 tw_292 tw_294 tp_0 ⟨by decide, by decide, by decide +kernel⟩ (by decide) rfl rfl (fun _ => ⟨_, _, rfl, rfl⟩) dX10_ofWearer_10)) <|
  .cons (ix_s_iret dX10_ofWearer_13 rfl) <|
  .cons (ix_s_aload_n dX10_ofWearer_14 rfl) <|
  .cons (ix_s_getr (j := 0) tu_X10 rfl (by decide) (by decide) tw_251 rfl ts_9_0_r dX10_ofWearer_15) <|
  .cons (ix_s_getr (j := 4) tu_X6 rfl (by decide) (by decide) tw_147 rfl ts_5_4_r dX10_ofWearer_18) <|
  .cons (ix_s_iload_n dX10_ofWearer_21 rfl) <|
  .cons (ix_s_iald dX10_ofWearer_22) <|
  .cons (ix_s_iret dX10_ofWearer_23 rfl) <| .nil
theorem e_X10_ofWearer_0 (Q : ix_R → Prop) (ls : ix_L) (st : List ix_V) (μ : ix_M) : ix_Ev o_X10_ofWearer Q (0, ls, st, μ) = ix_iload 1 1 (ix_Ev o_X10_ofWearer Q) Q ls st μ := ix_Ev.eq (a_X10_ofWearer launch0) rfl ls st μ
theorem e_X10_ofWearer_1 (Q : ix_R → Prop) (ls : ix_L) (st : List ix_V) (μ : ix_M) : ix_Ev o_X10_ofWearer Q (1, ls, st, μ) = ix_push (vi 5) 2 (ix_Ev o_X10_ofWearer Q) Q ls st μ := ix_Ev.eq (a_X10_ofWearer launch0) rfl ls st μ
theorem e_X10_ofWearer_2 (Q : ix_R → Prop) (ls : ix_L) (st : List ix_V) (μ : ix_M) : ix_Ev o_X10_ofWearer Q (2, ls, st, μ) = oc_X10_outside 5 (ix_Ev o_X10_ofWearer Q) Q ls st μ := ix_Ev.eq (a_X10_ofWearer launch0) rfl ls st μ
theorem e_X10_ofWearer_5 (Q : ix_R → Prop) (ls : ix_L) (st : List ix_V) (μ : ix_M) : ix_Ev o_X10_ofWearer Q (5, ls, st, μ) = ix_if (fun x => x = 0) 14 8 (ix_Ev o_X10_ofWearer Q) Q ls st μ := ix_Ev.eq (a_X10_ofWearer launch0) rfl ls st μ
theorem e_X10_ofWearer_8 (Q : ix_R → Prop) (ls : ix_L) (st : List ix_V) (μ : ix_M) : ix_Ev o_X10_ofWearer Q (8, ls, st, μ) = ix_aload 0 9 (ix_Ev o_X10_ofWearer Q) Q ls st μ := ix_Ev.eq (a_X10_ofWearer launch0) rfl ls st μ
theorem e_X10_ofWearer_9 (Q : ix_R → Prop) (ls : ix_L) (st : List ix_V) (μ : ix_M) : ix_Ev o_X10_ofWearer Q (9, ls, st, μ) = ix_push (vi 1) 10 (ix_Ev o_X10_ofWearer Q) Q ls st μ := ix_Ev.eq (a_X10_ofWearer launch0) rfl ls st μ
theorem e_X10_ofWearer_10 (Q : ix_R → Prop) (ls : ix_L) (st : List ix_V) (μ : ix_M) : ix_Ev o_X10_ofWearer Q (10, ls, st, μ) = oc_X10_error 13 (ix_Ev o_X10_ofWearer Q) Q ls st μ := ix_Ev.eq (a_X10_ofWearer launch0) rfl ls st μ
theorem e_X10_ofWearer_13 (Q : ix_R → Prop) (ls : ix_L) (st : List ix_V) (μ : ix_M) : ix_Ev o_X10_ofWearer Q (13, ls, st, μ) = ix_iret (ix_Ev o_X10_ofWearer Q) Q ls st μ := ix_Ev.eq (a_X10_ofWearer launch0) rfl ls st μ
theorem e_X10_ofWearer_14 (Q : ix_R → Prop) (ls : ix_L) (st : List ix_V) (μ : ix_M) : ix_Ev o_X10_ofWearer Q (14, ls, st, μ) = ix_aload 0 15 (ix_Ev o_X10_ofWearer Q) Q ls st μ := ix_Ev.eq (a_X10_ofWearer launch0) rfl ls st μ
theorem e_X10_ofWearer_15 (Q : ix_R → Prop) (ls : ix_L) (st : List ix_V) (μ : ix_M) : ix_Ev o_X10_ofWearer Q (15, ls, st, μ) = ix_getr 9 5 (fun _ => 1) 18 (ix_Ev o_X10_ofWearer Q) Q ls st μ := ix_Ev.eq (a_X10_ofWearer launch0) rfl ls st μ
theorem e_X10_ofWearer_18 (Q : ix_R → Prop) (ls : ix_L) (st : List ix_V) (μ : ix_M) : ix_Ev o_X10_ofWearer Q (18, ls, st, μ) = ix_getr 5 20 (fun k => k + 22) 21 (ix_Ev o_X10_ofWearer Q) Q ls st μ := ix_Ev.eq (a_X10_ofWearer launch0) rfl ls st μ
theorem e_X10_ofWearer_21 (Q : ix_R → Prop) (ls : ix_L) (st : List ix_V) (μ : ix_M) : ix_Ev o_X10_ofWearer Q (21, ls, st, μ) = ix_iload 1 22 (ix_Ev o_X10_ofWearer Q) Q ls st μ := ix_Ev.eq (a_X10_ofWearer launch0) rfl ls st μ
theorem e_X10_ofWearer_22 (Q : ix_R → Prop) (ls : ix_L) (st : List ix_V) (μ : ix_M) : ix_Ev o_X10_ofWearer Q (22, ls, st, μ) = ix_iald 23 (ix_Ev o_X10_ofWearer Q) Q ls st μ := ix_Ev.eq (a_X10_ofWearer launch0) rfl ls st μ
theorem e_X10_ofWearer_23 (Q : ix_R → Prop) (ls : ix_L) (st : List ix_V) (μ : ix_M) : ix_Ev o_X10_ofWearer Q (23, ls, st, μ) = ix_iret (ix_Ev o_X10_ofWearer Q) Q ls st μ := ix_Ev.eq (a_X10_ofWearer launch0) rfl ls st μ
def o_X11_ofWearer : List (Nat × ix_Op) := [
  (0, ix_iload 1 1),
  (1, oc_X11_isWearer 4),
  (4, ix_if (fun x => x = 0) 19 7),
  (7, ix_aload 0 8),
  (8, ix_getr 10 20 (fun _ => 113) 11),
  (11, ix_push (vi 12) 13),
  (13, ix_iload 1 14),
  (14, ix_bin (fun x y => x + y) 15),
  (15, ix_iald 16),
  (16, ix_goto 25),
  (19, ix_aload 0 20),
  (20, ix_push (vi (-1000000001)) 22),
  (22, oc_X11_finding 25),
  (25, ix_iret)]
set_option maxRecDepth 20000 in
theorem a_X11_ofWearer (l : Launch) : ix_AllS l cX11_ofWearer 2 RX11 60 (some .int) o_X11_ofWearer :=
  .cons (ix_s_iload_n dX11_ofWearer_0 rfl) <|
  .cons (oc_X11_isWearer_s (ix_s_calls (k_X11_isWearer l) (by decide) (by decide) tw_1112 tw_12 tw_1110 tw_1111 ⟨by decide, by decide, by decide +kernel⟩ (fun _ => rfl) dX11_ofWearer_1)) <|
  .cons (ix_s_if_eq dX11_ofWearer_4 (by decide)) <|
  .cons (ix_s_aload_n dX11_ofWearer_7 rfl) <|
  .cons (ix_s_getr (j := 0) tu_X11 rfl (by decide) (by decide) tw_875 rfl ts_10_0_r dX11_ofWearer_8) <|
  .cons (ix_s_bipush dX11_ofWearer_11 (by decide +kernel)) <|
  .cons (ix_s_iload_n dX11_ofWearer_13 rfl) <|
  .cons (ix_s_iadd dX11_ofWearer_14) <|
  .cons (ix_s_iald dX11_ofWearer_15) <|
  .cons (ix_s_goto dX11_ofWearer_16 (by decide)) <|
  .cons (ix_s_aload_n dX11_ofWearer_19 rfl) <|
  .cons (ix_s_ldc tw_961 dX11_ofWearer_20) <|
  .cons (oc_X11_finding_s (ix_s_callv (t := 10) (k_X11_finding l) (by decide) (by decide) tw_965 tw_12 tw_962 tw_964 tp_18 ⟨by decide, by decide, by decide +kernel⟩ (by decide) rfl rfl (fun _ => ⟨_, _, rfl, rfl⟩) dX11_ofWearer_22)) <|
  .cons (ix_s_iret dX11_ofWearer_25 rfl) <| .nil
theorem e_X11_ofWearer_0 (Q : ix_R → Prop) (ls : ix_L) (st : List ix_V) (μ : ix_M) : ix_Ev o_X11_ofWearer Q (0, ls, st, μ) = ix_iload 1 1 (ix_Ev o_X11_ofWearer Q) Q ls st μ := ix_Ev.eq (a_X11_ofWearer launch0) rfl ls st μ
theorem e_X11_ofWearer_1 (Q : ix_R → Prop) (ls : ix_L) (st : List ix_V) (μ : ix_M) : ix_Ev o_X11_ofWearer Q (1, ls, st, μ) = oc_X11_isWearer 4 (ix_Ev o_X11_ofWearer Q) Q ls st μ := ix_Ev.eq (a_X11_ofWearer launch0) rfl ls st μ
theorem e_X11_ofWearer_4 (Q : ix_R → Prop) (ls : ix_L) (st : List ix_V) (μ : ix_M) : ix_Ev o_X11_ofWearer Q (4, ls, st, μ) = ix_if (fun x => x = 0) 19 7 (ix_Ev o_X11_ofWearer Q) Q ls st μ := ix_Ev.eq (a_X11_ofWearer launch0) rfl ls st μ
theorem e_X11_ofWearer_7 (Q : ix_R → Prop) (ls : ix_L) (st : List ix_V) (μ : ix_M) : ix_Ev o_X11_ofWearer Q (7, ls, st, μ) = ix_aload 0 8 (ix_Ev o_X11_ofWearer Q) Q ls st μ := ix_Ev.eq (a_X11_ofWearer launch0) rfl ls st μ
theorem e_X11_ofWearer_8 (Q : ix_R → Prop) (ls : ix_L) (st : List ix_V) (μ : ix_M) : ix_Ev o_X11_ofWearer Q (8, ls, st, μ) = ix_getr 10 20 (fun _ => 113) 11 (ix_Ev o_X11_ofWearer Q) Q ls st μ := ix_Ev.eq (a_X11_ofWearer launch0) rfl ls st μ
theorem e_X11_ofWearer_11 (Q : ix_R → Prop) (ls : ix_L) (st : List ix_V) (μ : ix_M) : ix_Ev o_X11_ofWearer Q (11, ls, st, μ) = ix_push (vi 12) 13 (ix_Ev o_X11_ofWearer Q) Q ls st μ := ix_Ev.eq (a_X11_ofWearer launch0) rfl ls st μ
theorem e_X11_ofWearer_13 (Q : ix_R → Prop) (ls : ix_L) (st : List ix_V) (μ : ix_M) : ix_Ev o_X11_ofWearer Q (13, ls, st, μ) = ix_iload 1 14 (ix_Ev o_X11_ofWearer Q) Q ls st μ := ix_Ev.eq (a_X11_ofWearer launch0) rfl ls st μ
theorem e_X11_ofWearer_14 (Q : ix_R → Prop) (ls : ix_L) (st : List ix_V) (μ : ix_M) : ix_Ev o_X11_ofWearer Q (14, ls, st, μ) = ix_bin (fun x y => x + y) 15 (ix_Ev o_X11_ofWearer Q) Q ls st μ := ix_Ev.eq (a_X11_ofWearer launch0) rfl ls st μ
theorem e_X11_ofWearer_15 (Q : ix_R → Prop) (ls : ix_L) (st : List ix_V) (μ : ix_M) : ix_Ev o_X11_ofWearer Q (15, ls, st, μ) = ix_iald 16 (ix_Ev o_X11_ofWearer Q) Q ls st μ := ix_Ev.eq (a_X11_ofWearer launch0) rfl ls st μ
theorem e_X11_ofWearer_16 (Q : ix_R → Prop) (ls : ix_L) (st : List ix_V) (μ : ix_M) : ix_Ev o_X11_ofWearer Q (16, ls, st, μ) = ix_goto 25 (ix_Ev o_X11_ofWearer Q) Q ls st μ := ix_Ev.eq (a_X11_ofWearer launch0) rfl ls st μ
theorem e_X11_ofWearer_19 (Q : ix_R → Prop) (ls : ix_L) (st : List ix_V) (μ : ix_M) : ix_Ev o_X11_ofWearer Q (19, ls, st, μ) = ix_aload 0 20 (ix_Ev o_X11_ofWearer Q) Q ls st μ := ix_Ev.eq (a_X11_ofWearer launch0) rfl ls st μ
theorem e_X11_ofWearer_20 (Q : ix_R → Prop) (ls : ix_L) (st : List ix_V) (μ : ix_M) : ix_Ev o_X11_ofWearer Q (20, ls, st, μ) = ix_push (vi (-1000000001)) 22 (ix_Ev o_X11_ofWearer Q) Q ls st μ := ix_Ev.eq (a_X11_ofWearer launch0) rfl ls st μ
theorem e_X11_ofWearer_22 (Q : ix_R → Prop) (ls : ix_L) (st : List ix_V) (μ : ix_M) : ix_Ev o_X11_ofWearer Q (22, ls, st, μ) = oc_X11_finding 25 (ix_Ev o_X11_ofWearer Q) Q ls st μ := ix_Ev.eq (a_X11_ofWearer launch0) rfl ls st μ
theorem e_X11_ofWearer_25 (Q : ix_R → Prop) (ls : ix_L) (st : List ix_V) (μ : ix_M) : ix_Ev o_X11_ofWearer Q (25, ls, st, μ) = ix_iret (ix_Ev o_X11_ofWearer Q) Q ls st μ := ix_Ev.eq (a_X11_ofWearer launch0) rfl ls st μ
theorem pr_ofWearer (w : Int32) (μ : ix_M) (I : Inv μ) (Q : ix_R → Prop) (hQ : ∀ vv μ', ix_Ev o_X11_ofWearer (Pst vv) (0, [some (vr 10 112), some (vi w)], [], μ') → Q (some (vi vv), μ')) : ix_Ev o_X10_ofWearer Q (0, [some (vr 9 0), some (vi w)], [], μ) := by
  rcases inR w 5 (by decide) with ⟨W, hW, rfl⟩ | ⟨hx1, hx2⟩
  · obtain ⟨W1, W2, W3, W4⟩ : ¬ nI W < 0 ∧ ¬ (5 : Int32) < nI W ∧ 0 ≤ nI W ∧ nI W ≤ (5 : Int32) := rgN hW (by decide)
    have Wc : (nI W).toNatClampNeg = W := nI_clamp (by omega)
    obtain ⟨x1, x2, x3⟩ := mix 12 W (by omega)
    have x1 : (12 : Int32) + nI W = nI (12 + W) := x1
    have v1 : vp_in (nI W) (ix_len 23) := vp_in_nI (show W < 6 by omega) (by decide)
    simp (decide := true) only [e_X10_ofWearer_0, e_X10_ofWearer_1, e_X10_ofWearer_2, e_X10_ofWearer_5, e_X10_ofWearer_8, e_X10_ofWearer_9, e_X10_ofWearer_10, e_X10_ofWearer_13, e_X10_ofWearer_14, e_X10_ofWearer_15, e_X10_ofWearer_18, e_X10_ofWearer_21, e_X10_ofWearer_22, e_X10_ofWearer_23, vi, vl, vr, oc_X10_error, T_X10_error, oc_X10_outside, T_X10_outside, ix_push, ix_iload, ix_lload, ix_aload, ix_istore, ix_astore, ix_iinc, ix_bin, ix_div, ix_un, ix_i2l, ix_l2i, ix_lbin, ix_lsh, ix_lcmp, ix_dup, ix_dup2, ix_pop, ix_if, ix_cmp, ix_goto, ix_switch, ix_sw, ix_iret, ix_zret, ix_vret, ix_aret, ix_geti, ix_getr, ix_puti, ix_putz, ix_puts, ix_gets, ix_iald, ix_iast, ix_alen, ix_aald, ix_gval, ix_gcod, ix_bald, ix_blen, ix_sald, ix_nret, ix_math2, ix_math1, ix_acopy, Nat.add_assoc, Int32.reduceLT, Int32.reduceLE, Int32.reduceToNatClampNeg, Int32.reduceSub, Int32.reduceAdd, Nat.reduceAdd, Nat.reduceLeDiff, true_or, or_true, or_false, false_or, not_false_eq_true, not_true_eq_false, false_implies, true_implies, implies_true, and_self, mB_0, mB_01, Classical.not_not, Nat.zero_le, List.getElem?_cons_zero, List.getElem?_cons_succ, List.set_cons_zero, List.set_cons_succ, ix_nl, ix_cs, true_and, and_true, Option.toList_some, Option.toList_none, List.cons_append, List.nil_append, W1, W2, W3, W4, Wc, v1, x1, x2, x3, ix_up_ne, ix_up_k, ve_1, ve_2, ve_3, ve_4, ve_5]
    refine hQ _ _ ?_
    simp (decide := true) only [e_X11_ofWearer_0, e_X11_ofWearer_1, e_X11_ofWearer_4, e_X11_ofWearer_7, e_X11_ofWearer_8, e_X11_ofWearer_11, e_X11_ofWearer_13, e_X11_ofWearer_14, e_X11_ofWearer_15, e_X11_ofWearer_16, e_X11_ofWearer_19, e_X11_ofWearer_20, e_X11_ofWearer_22, e_X11_ofWearer_25, vi, vl, vr, oc_X11_finding, T_X11_finding, oc_X11_isWearer, T_X11_isWearer, ix_push, ix_iload, ix_lload, ix_aload, ix_istore, ix_astore, ix_iinc, ix_bin, ix_div, ix_un, ix_i2l, ix_l2i, ix_lbin, ix_lsh, ix_lcmp, ix_dup, ix_dup2, ix_pop, ix_if, ix_cmp, ix_goto, ix_switch, ix_sw, ix_iret, ix_zret, ix_vret, ix_aret, ix_geti, ix_getr, ix_puti, ix_putz, ix_puts, ix_gets, ix_iald, ix_iast, ix_alen, ix_aald, ix_gval, ix_gcod, ix_bald, ix_blen, ix_sald, ix_nret, ix_math2, ix_math1, ix_acopy, ml_113, ml_114, ml_115, ml_116, ml_118, ml_119, ml_120, ml_121, ml_122, ml_123, ml_124, ml_125, ml_126, mv_0, mv_1, mv_2, mv_3, mv_4, mv_5, mB_or, Nat.add_assoc, Int32.reduceLT, Int32.reduceLE, Int32.reduceToNatClampNeg, Int32.reduceSub, Int32.reduceAdd, Nat.reduceAdd, Nat.reduceLeDiff, true_or, or_true, or_false, false_or, not_false_eq_true, not_true_eq_false, false_implies, true_implies, implies_true, and_self, mB_0, mB_01, Classical.not_not, Nat.zero_le, List.getElem?_cons_zero, List.getElem?_cons_succ, List.set_cons_zero, List.set_cons_succ, ix_nl, ix_cs, true_and, and_true, Option.toList_some, Option.toList_none, List.cons_append, List.nil_append, W1, W2, W3, W4, Wc, v1, x1, x2, x3, ix_up_ne, ix_up_k, ve_1, ve_2, ve_3, ve_4, ve_5]
    exact ⟨by rw [(I.1.2.2.2.2.1 W (by omega)).1], I⟩
  · have hx1 : w < 0 ∨ (5 : Int32) < w := hx1
    have hx2 : ¬ (0 ≤ w ∧ w ≤ (5 : Int32)) := hx2
    simp (decide := true) only [e_X10_ofWearer_0, e_X10_ofWearer_1, e_X10_ofWearer_2, e_X10_ofWearer_5, e_X10_ofWearer_8, e_X10_ofWearer_9, e_X10_ofWearer_10, e_X10_ofWearer_13, e_X10_ofWearer_14, e_X10_ofWearer_15, e_X10_ofWearer_18, e_X10_ofWearer_21, e_X10_ofWearer_22, e_X10_ofWearer_23, vi, vl, vr, oc_X10_error, T_X10_error, oc_X10_outside, T_X10_outside, ix_push, ix_iload, ix_lload, ix_aload, ix_istore, ix_astore, ix_iinc, ix_bin, ix_div, ix_un, ix_i2l, ix_l2i, ix_lbin, ix_lsh, ix_lcmp, ix_dup, ix_dup2, ix_pop, ix_if, ix_cmp, ix_goto, ix_switch, ix_sw, ix_iret, ix_zret, ix_vret, ix_aret, ix_geti, ix_getr, ix_puti, ix_putz, ix_puts, ix_gets, ix_iald, ix_iast, ix_alen, ix_aald, ix_gval, ix_gcod, ix_bald, ix_blen, ix_sald, ix_nret, ix_math2, ix_math1, ix_acopy, Nat.add_assoc, Int32.reduceLT, Int32.reduceLE, Int32.reduceToNatClampNeg, Int32.reduceSub, Int32.reduceAdd, Nat.reduceAdd, Nat.reduceLeDiff, true_or, or_true, or_false, false_or, not_false_eq_true, not_true_eq_false, false_implies, true_implies, implies_true, and_self, mB_0, mB_01, Classical.not_not, Nat.zero_le, List.getElem?_cons_zero, List.getElem?_cons_succ, List.set_cons_zero, List.set_cons_succ, ix_nl, ix_cs, true_and, and_true, Option.toList_some, Option.toList_none, List.cons_append, List.nil_append, hx1, hx2, ix_up_ne, ix_up_k, ve_1, ve_2, ve_3, ve_4, ve_5]
    refine hQ _ _ ?_
    simp (decide := true) only [e_X11_ofWearer_0, e_X11_ofWearer_1, e_X11_ofWearer_4, e_X11_ofWearer_7, e_X11_ofWearer_8, e_X11_ofWearer_11, e_X11_ofWearer_13, e_X11_ofWearer_14, e_X11_ofWearer_15, e_X11_ofWearer_16, e_X11_ofWearer_19, e_X11_ofWearer_20, e_X11_ofWearer_22, e_X11_ofWearer_25, vi, vl, vr, oc_X11_finding, T_X11_finding, oc_X11_isWearer, T_X11_isWearer, ix_push, ix_iload, ix_lload, ix_aload, ix_istore, ix_astore, ix_iinc, ix_bin, ix_div, ix_un, ix_i2l, ix_l2i, ix_lbin, ix_lsh, ix_lcmp, ix_dup, ix_dup2, ix_pop, ix_if, ix_cmp, ix_goto, ix_switch, ix_sw, ix_iret, ix_zret, ix_vret, ix_aret, ix_geti, ix_getr, ix_puti, ix_putz, ix_puts, ix_gets, ix_iald, ix_iast, ix_alen, ix_aald, ix_gval, ix_gcod, ix_bald, ix_blen, ix_sald, ix_nret, ix_math2, ix_math1, ix_acopy, ml_113, ml_114, ml_115, ml_116, ml_118, ml_119, ml_120, ml_121, ml_122, ml_123, ml_124, ml_125, ml_126, mv_0, mv_1, mv_2, mv_3, mv_4, mv_5, mB_or, Nat.add_assoc, Int32.reduceLT, Int32.reduceLE, Int32.reduceToNatClampNeg, Int32.reduceSub, Int32.reduceAdd, Nat.reduceAdd, Nat.reduceLeDiff, true_or, or_true, or_false, false_or, not_false_eq_true, not_true_eq_false, false_implies, true_implies, implies_true, and_self, mB_0, mB_01, Classical.not_not, Nat.zero_le, List.getElem?_cons_zero, List.getElem?_cons_succ, List.set_cons_zero, List.set_cons_succ, ix_nl, ix_cs, true_and, and_true, Option.toList_some, Option.toList_none, List.cons_append, List.nil_append, hx1, hx2, ix_up_ne, ix_up_k, ve_1, ve_2, ve_3, ve_4, ve_5]
    repeat' (first | exact I.er 1 (by decide) | refine ⟨fun _ => ?_, fun _ => ?_⟩)
def o_X10_ofCell : List (Nat × ix_Op) := [
  (0, ix_iload 1 1),
  (1, ix_push (vi 15) 3),
  (3, oc_X10_outside 6),
  (6, ix_if (fun x => x = 0) 9 17),
  (9, ix_iload 2 10),
  (10, ix_push (vi 3) 11),
  (11, oc_X10_outside 14),
  (14, ix_if (fun x => x = 0) 23 17),
  (17, ix_aload 0 18),
  (18, ix_push (vi 1) 19),
  (19, oc_X10_error 22),
  (22, ix_iret),
  (23, ix_iload 2 24),
  (24, ix_switch [(0, 52), (1, 65), (2, 78)] 90),
  (52, ix_aload 0 53),
  (53, ix_getr 9 5 (fun _ => 1) 56),
  (56, ix_getr 5 8 (fun k => k + 1) 59),
  (59, ix_getr 8 20 (fun k => k + 1) 62),
  (62, ix_iload 1 63),
  (63, ix_iald 64),
  (64, ix_iret),
  (65, ix_aload 0 66),
  (66, ix_getr 9 5 (fun _ => 1) 69),
  (69, ix_getr 5 8 (fun k => k + 1) 72),
  (72, ix_getr 8 20 (fun k => k + 2) 75),
  (75, ix_iload 1 76),
  (76, ix_iald 77),
  (77, ix_iret),
  (78, ix_aload 0 79),
  (79, ix_getr 9 5 (fun _ => 1) 82),
  (82, ix_getr 5 8 (fun k => k + 1) 85),
  (85, ix_iload 1 86),
  (86, oc_X9_boatsOn 89),
  (89, ix_iret),
  (90, ix_aload 0 91),
  (91, ix_getr 9 5 (fun _ => 1) 94),
  (94, ix_getr 5 8 (fun k => k + 1) 97),
  (97, ix_iload 1 98),
  (98, ix_aload 0 99),
  (99, ix_getr 9 5 (fun _ => 1) 102),
  (102, ix_getr 5 0 (fun k => k + 9) 105),
  (105, oc_X9_settlesOn 108),
  (108, ix_iret)]
set_option maxRecDepth 20000 in
theorem a_X10_ofCell (l : Launch) : ix_AllS l cX10_ofCell 3 RX10 60 (some .int) o_X10_ofCell :=
  .cons (ix_s_iload_n dX10_ofCell_0 rfl) <|
  .cons (ix_s_bipush dX10_ofCell_1 (by decide +kernel)) <|
  .cons (oc_X10_outside_s (ix_s_calls (k_X10_outside l) (by decide) (by decide) tw_291 tw_1 tw_289 tw_290 ⟨by decide, by decide, by decide +kernel⟩ (fun _ => rfl) dX10_ofCell_3)) <|
  .cons (ix_s_if_ne dX10_ofCell_6 (by decide)) <|
  .cons (ix_s_iload_n dX10_ofCell_9 rfl) <|
  .cons (ix_s_iconst dX10_ofCell_10 (by decide +kernel)) <|
  .cons (oc_X10_outside_s (ix_s_calls (k_X10_outside l) (by decide) (by decide) tw_291 tw_1 tw_289 tw_290 ⟨by decide, by decide, by decide +kernel⟩ (fun _ => rfl) dX10_ofCell_11)) <|
  .cons (ix_s_if_eq dX10_ofCell_14 (by decide)) <|
  .cons (ix_s_aload_n dX10_ofCell_17 rfl) <|
  .cons (ix_s_iconst dX10_ofCell_18 (by decide +kernel)) <|
  .cons (oc_X10_error_s (ix_s_callv (t := 9) (k_X10_error l) (by decide) (by decide) tw_295 tw_1 tw_292 tw_294 tp_0 ⟨by decide, by decide, by decide +kernel⟩ (by decide) rfl rfl (fun _ => ⟨_, _, rfl, rfl⟩) dX10_ofCell_19)) <|
  .cons (ix_s_iret dX10_ofCell_22 rfl) <|
  .cons (ix_s_iload_n dX10_ofCell_23 rfl) <|
  .cons (ix_s_tab dX10_ofCell_24 (by decide) (by decide +kernel) (by decide +kernel)) <|
  .cons (ix_s_aload_n dX10_ofCell_52 rfl) <|
  .cons (ix_s_getr (j := 0) tu_X10 rfl (by decide) (by decide) tw_251 rfl ts_9_0_r dX10_ofCell_53) <|
  .cons (ix_s_getr (j := 0) tu_X6 rfl (by decide) (by decide) tw_138 rfl ts_5_0_r dX10_ofCell_56) <|
  .cons (ix_s_getr (j := 0) tu_X9 rfl (by decide) (by decide) tw_41 rfl ts_8_0_r dX10_ofCell_59) <|
  .cons (ix_s_iload_n dX10_ofCell_62 rfl) <|
  .cons (ix_s_iald dX10_ofCell_63) <|
  .cons (ix_s_iret dX10_ofCell_64 rfl) <|
  .cons (ix_s_aload_n dX10_ofCell_65 rfl) <|
  .cons (ix_s_getr (j := 0) tu_X10 rfl (by decide) (by decide) tw_251 rfl ts_9_0_r dX10_ofCell_66) <|
  .cons (ix_s_getr (j := 0) tu_X6 rfl (by decide) (by decide) tw_138 rfl ts_5_0_r dX10_ofCell_69) <|
  .cons (ix_s_getr (j := 1) tu_X9 rfl (by decide) (by decide) tw_43 rfl ts_8_1_r dX10_ofCell_72) <|
  .cons (ix_s_iload_n dX10_ofCell_75 rfl) <|
  .cons (ix_s_iald dX10_ofCell_76) <|
  .cons (ix_s_iret dX10_ofCell_77 rfl) <|
  .cons (ix_s_aload_n dX10_ofCell_78 rfl) <|
  .cons (ix_s_getr (j := 0) tu_X10 rfl (by decide) (by decide) tw_251 rfl ts_9_0_r dX10_ofCell_79) <|
  .cons (ix_s_getr (j := 0) tu_X6 rfl (by decide) (by decide) tw_138 rfl ts_5_0_r dX10_ofCell_82) <|
  .cons (ix_s_iload_n dX10_ofCell_85 rfl) <|
  .cons (oc_X9_boatsOn_s (ix_s_callv (t := 8) (k_X9_boatsOn l) (by decide) (by decide) tw_307 tw_3 tw_304 tw_305 tw_306 ⟨by decide, by decide, by decide +kernel⟩ (by decide) rfl rfl (fun _ => ⟨_, _, rfl, rfl⟩) dX10_ofCell_86)) <|
  .cons (ix_s_iret dX10_ofCell_89 rfl) <|
  .cons (ix_s_aload_n dX10_ofCell_90 rfl) <|
  .cons (ix_s_getr (j := 0) tu_X10 rfl (by decide) (by decide) tw_251 rfl ts_9_0_r dX10_ofCell_91) <|
  .cons (ix_s_getr (j := 0) tu_X6 rfl (by decide) (by decide) tw_138 rfl ts_5_0_r dX10_ofCell_94) <|
  .cons (ix_s_iload_n dX10_ofCell_97 rfl) <|
  .cons (ix_s_aload_n dX10_ofCell_98 rfl) <|
  .cons (ix_s_getr (j := 0) tu_X10 rfl (by decide) (by decide) tw_251 rfl ts_9_0_r dX10_ofCell_99) <|
  .cons (ix_s_getr (j := 1) tu_X6 rfl (by decide) (by decide) tw_140 rfl ts_5_1_r dX10_ofCell_102) <|
  .cons (oc_X9_settlesOn_s (ix_s_callv (t := 8) (k_X9_settlesOn l) (by decide) (by decide) tw_311 tw_3 tw_308 tw_309 tw_310 ⟨by decide, by decide, by decide +kernel⟩ (by decide) rfl rfl (fun _ => ⟨_, _, rfl, rfl⟩) dX10_ofCell_105)) <|
  .cons (ix_s_iret dX10_ofCell_108 rfl) <| .nil
theorem e_X10_ofCell_0 (Q : ix_R → Prop) (ls : ix_L) (st : List ix_V) (μ : ix_M) : ix_Ev o_X10_ofCell Q (0, ls, st, μ) = ix_iload 1 1 (ix_Ev o_X10_ofCell Q) Q ls st μ := ix_Ev.eq (a_X10_ofCell launch0) rfl ls st μ
theorem e_X10_ofCell_1 (Q : ix_R → Prop) (ls : ix_L) (st : List ix_V) (μ : ix_M) : ix_Ev o_X10_ofCell Q (1, ls, st, μ) = ix_push (vi 15) 3 (ix_Ev o_X10_ofCell Q) Q ls st μ := ix_Ev.eq (a_X10_ofCell launch0) rfl ls st μ
theorem e_X10_ofCell_3 (Q : ix_R → Prop) (ls : ix_L) (st : List ix_V) (μ : ix_M) : ix_Ev o_X10_ofCell Q (3, ls, st, μ) = oc_X10_outside 6 (ix_Ev o_X10_ofCell Q) Q ls st μ := ix_Ev.eq (a_X10_ofCell launch0) rfl ls st μ
theorem e_X10_ofCell_6 (Q : ix_R → Prop) (ls : ix_L) (st : List ix_V) (μ : ix_M) : ix_Ev o_X10_ofCell Q (6, ls, st, μ) = ix_if (fun x => x = 0) 9 17 (ix_Ev o_X10_ofCell Q) Q ls st μ := ix_Ev.eq (a_X10_ofCell launch0) rfl ls st μ
theorem e_X10_ofCell_9 (Q : ix_R → Prop) (ls : ix_L) (st : List ix_V) (μ : ix_M) : ix_Ev o_X10_ofCell Q (9, ls, st, μ) = ix_iload 2 10 (ix_Ev o_X10_ofCell Q) Q ls st μ := ix_Ev.eq (a_X10_ofCell launch0) rfl ls st μ
theorem e_X10_ofCell_10 (Q : ix_R → Prop) (ls : ix_L) (st : List ix_V) (μ : ix_M) : ix_Ev o_X10_ofCell Q (10, ls, st, μ) = ix_push (vi 3) 11 (ix_Ev o_X10_ofCell Q) Q ls st μ := ix_Ev.eq (a_X10_ofCell launch0) rfl ls st μ
theorem e_X10_ofCell_11 (Q : ix_R → Prop) (ls : ix_L) (st : List ix_V) (μ : ix_M) : ix_Ev o_X10_ofCell Q (11, ls, st, μ) = oc_X10_outside 14 (ix_Ev o_X10_ofCell Q) Q ls st μ := ix_Ev.eq (a_X10_ofCell launch0) rfl ls st μ
theorem e_X10_ofCell_14 (Q : ix_R → Prop) (ls : ix_L) (st : List ix_V) (μ : ix_M) : ix_Ev o_X10_ofCell Q (14, ls, st, μ) = ix_if (fun x => x = 0) 23 17 (ix_Ev o_X10_ofCell Q) Q ls st μ := ix_Ev.eq (a_X10_ofCell launch0) rfl ls st μ
theorem e_X10_ofCell_17 (Q : ix_R → Prop) (ls : ix_L) (st : List ix_V) (μ : ix_M) : ix_Ev o_X10_ofCell Q (17, ls, st, μ) = ix_aload 0 18 (ix_Ev o_X10_ofCell Q) Q ls st μ := ix_Ev.eq (a_X10_ofCell launch0) rfl ls st μ
theorem e_X10_ofCell_18 (Q : ix_R → Prop) (ls : ix_L) (st : List ix_V) (μ : ix_M) : ix_Ev o_X10_ofCell Q (18, ls, st, μ) = ix_push (vi 1) 19 (ix_Ev o_X10_ofCell Q) Q ls st μ := ix_Ev.eq (a_X10_ofCell launch0) rfl ls st μ
theorem e_X10_ofCell_19 (Q : ix_R → Prop) (ls : ix_L) (st : List ix_V) (μ : ix_M) : ix_Ev o_X10_ofCell Q (19, ls, st, μ) = oc_X10_error 22 (ix_Ev o_X10_ofCell Q) Q ls st μ := ix_Ev.eq (a_X10_ofCell launch0) rfl ls st μ
theorem e_X10_ofCell_22 (Q : ix_R → Prop) (ls : ix_L) (st : List ix_V) (μ : ix_M) : ix_Ev o_X10_ofCell Q (22, ls, st, μ) = ix_iret (ix_Ev o_X10_ofCell Q) Q ls st μ := ix_Ev.eq (a_X10_ofCell launch0) rfl ls st μ
theorem e_X10_ofCell_23 (Q : ix_R → Prop) (ls : ix_L) (st : List ix_V) (μ : ix_M) : ix_Ev o_X10_ofCell Q (23, ls, st, μ) = ix_iload 2 24 (ix_Ev o_X10_ofCell Q) Q ls st μ := ix_Ev.eq (a_X10_ofCell launch0) rfl ls st μ
theorem e_X10_ofCell_24 (Q : ix_R → Prop) (ls : ix_L) (st : List ix_V) (μ : ix_M) : ix_Ev o_X10_ofCell Q (24, ls, st, μ) = ix_switch [(0, 52), (1, 65), (2, 78)] 90 (ix_Ev o_X10_ofCell Q) Q ls st μ := ix_Ev.eq (a_X10_ofCell launch0) rfl ls st μ
theorem e_X10_ofCell_52 (Q : ix_R → Prop) (ls : ix_L) (st : List ix_V) (μ : ix_M) : ix_Ev o_X10_ofCell Q (52, ls, st, μ) = ix_aload 0 53 (ix_Ev o_X10_ofCell Q) Q ls st μ := ix_Ev.eq (a_X10_ofCell launch0) rfl ls st μ
theorem e_X10_ofCell_53 (Q : ix_R → Prop) (ls : ix_L) (st : List ix_V) (μ : ix_M) : ix_Ev o_X10_ofCell Q (53, ls, st, μ) = ix_getr 9 5 (fun _ => 1) 56 (ix_Ev o_X10_ofCell Q) Q ls st μ := ix_Ev.eq (a_X10_ofCell launch0) rfl ls st μ
theorem e_X10_ofCell_56 (Q : ix_R → Prop) (ls : ix_L) (st : List ix_V) (μ : ix_M) : ix_Ev o_X10_ofCell Q (56, ls, st, μ) = ix_getr 5 8 (fun k => k + 1) 59 (ix_Ev o_X10_ofCell Q) Q ls st μ := ix_Ev.eq (a_X10_ofCell launch0) rfl ls st μ
theorem e_X10_ofCell_59 (Q : ix_R → Prop) (ls : ix_L) (st : List ix_V) (μ : ix_M) : ix_Ev o_X10_ofCell Q (59, ls, st, μ) = ix_getr 8 20 (fun k => k + 1) 62 (ix_Ev o_X10_ofCell Q) Q ls st μ := ix_Ev.eq (a_X10_ofCell launch0) rfl ls st μ
theorem e_X10_ofCell_62 (Q : ix_R → Prop) (ls : ix_L) (st : List ix_V) (μ : ix_M) : ix_Ev o_X10_ofCell Q (62, ls, st, μ) = ix_iload 1 63 (ix_Ev o_X10_ofCell Q) Q ls st μ := ix_Ev.eq (a_X10_ofCell launch0) rfl ls st μ
theorem e_X10_ofCell_63 (Q : ix_R → Prop) (ls : ix_L) (st : List ix_V) (μ : ix_M) : ix_Ev o_X10_ofCell Q (63, ls, st, μ) = ix_iald 64 (ix_Ev o_X10_ofCell Q) Q ls st μ := ix_Ev.eq (a_X10_ofCell launch0) rfl ls st μ
theorem e_X10_ofCell_64 (Q : ix_R → Prop) (ls : ix_L) (st : List ix_V) (μ : ix_M) : ix_Ev o_X10_ofCell Q (64, ls, st, μ) = ix_iret (ix_Ev o_X10_ofCell Q) Q ls st μ := ix_Ev.eq (a_X10_ofCell launch0) rfl ls st μ
theorem e_X10_ofCell_65 (Q : ix_R → Prop) (ls : ix_L) (st : List ix_V) (μ : ix_M) : ix_Ev o_X10_ofCell Q (65, ls, st, μ) = ix_aload 0 66 (ix_Ev o_X10_ofCell Q) Q ls st μ := ix_Ev.eq (a_X10_ofCell launch0) rfl ls st μ
theorem e_X10_ofCell_66 (Q : ix_R → Prop) (ls : ix_L) (st : List ix_V) (μ : ix_M) : ix_Ev o_X10_ofCell Q (66, ls, st, μ) = ix_getr 9 5 (fun _ => 1) 69 (ix_Ev o_X10_ofCell Q) Q ls st μ := ix_Ev.eq (a_X10_ofCell launch0) rfl ls st μ
theorem e_X10_ofCell_69 (Q : ix_R → Prop) (ls : ix_L) (st : List ix_V) (μ : ix_M) : ix_Ev o_X10_ofCell Q (69, ls, st, μ) = ix_getr 5 8 (fun k => k + 1) 72 (ix_Ev o_X10_ofCell Q) Q ls st μ := ix_Ev.eq (a_X10_ofCell launch0) rfl ls st μ
theorem e_X10_ofCell_72 (Q : ix_R → Prop) (ls : ix_L) (st : List ix_V) (μ : ix_M) : ix_Ev o_X10_ofCell Q (72, ls, st, μ) = ix_getr 8 20 (fun k => k + 2) 75 (ix_Ev o_X10_ofCell Q) Q ls st μ := ix_Ev.eq (a_X10_ofCell launch0) rfl ls st μ
theorem e_X10_ofCell_75 (Q : ix_R → Prop) (ls : ix_L) (st : List ix_V) (μ : ix_M) : ix_Ev o_X10_ofCell Q (75, ls, st, μ) = ix_iload 1 76 (ix_Ev o_X10_ofCell Q) Q ls st μ := ix_Ev.eq (a_X10_ofCell launch0) rfl ls st μ
theorem e_X10_ofCell_76 (Q : ix_R → Prop) (ls : ix_L) (st : List ix_V) (μ : ix_M) : ix_Ev o_X10_ofCell Q (76, ls, st, μ) = ix_iald 77 (ix_Ev o_X10_ofCell Q) Q ls st μ := ix_Ev.eq (a_X10_ofCell launch0) rfl ls st μ
theorem e_X10_ofCell_77 (Q : ix_R → Prop) (ls : ix_L) (st : List ix_V) (μ : ix_M) : ix_Ev o_X10_ofCell Q (77, ls, st, μ) = ix_iret (ix_Ev o_X10_ofCell Q) Q ls st μ := ix_Ev.eq (a_X10_ofCell launch0) rfl ls st μ
theorem e_X10_ofCell_78 (Q : ix_R → Prop) (ls : ix_L) (st : List ix_V) (μ : ix_M) : ix_Ev o_X10_ofCell Q (78, ls, st, μ) = ix_aload 0 79 (ix_Ev o_X10_ofCell Q) Q ls st μ := ix_Ev.eq (a_X10_ofCell launch0) rfl ls st μ
theorem e_X10_ofCell_79 (Q : ix_R → Prop) (ls : ix_L) (st : List ix_V) (μ : ix_M) : ix_Ev o_X10_ofCell Q (79, ls, st, μ) = ix_getr 9 5 (fun _ => 1) 82 (ix_Ev o_X10_ofCell Q) Q ls st μ := ix_Ev.eq (a_X10_ofCell launch0) rfl ls st μ
theorem e_X10_ofCell_82 (Q : ix_R → Prop) (ls : ix_L) (st : List ix_V) (μ : ix_M) : ix_Ev o_X10_ofCell Q (82, ls, st, μ) = ix_getr 5 8 (fun k => k + 1) 85 (ix_Ev o_X10_ofCell Q) Q ls st μ := ix_Ev.eq (a_X10_ofCell launch0) rfl ls st μ
theorem e_X10_ofCell_85 (Q : ix_R → Prop) (ls : ix_L) (st : List ix_V) (μ : ix_M) : ix_Ev o_X10_ofCell Q (85, ls, st, μ) = ix_iload 1 86 (ix_Ev o_X10_ofCell Q) Q ls st μ := ix_Ev.eq (a_X10_ofCell launch0) rfl ls st μ
theorem e_X10_ofCell_86 (Q : ix_R → Prop) (ls : ix_L) (st : List ix_V) (μ : ix_M) : ix_Ev o_X10_ofCell Q (86, ls, st, μ) = oc_X9_boatsOn 89 (ix_Ev o_X10_ofCell Q) Q ls st μ := ix_Ev.eq (a_X10_ofCell launch0) rfl ls st μ
theorem e_X10_ofCell_89 (Q : ix_R → Prop) (ls : ix_L) (st : List ix_V) (μ : ix_M) : ix_Ev o_X10_ofCell Q (89, ls, st, μ) = ix_iret (ix_Ev o_X10_ofCell Q) Q ls st μ := ix_Ev.eq (a_X10_ofCell launch0) rfl ls st μ
theorem e_X10_ofCell_90 (Q : ix_R → Prop) (ls : ix_L) (st : List ix_V) (μ : ix_M) : ix_Ev o_X10_ofCell Q (90, ls, st, μ) = ix_aload 0 91 (ix_Ev o_X10_ofCell Q) Q ls st μ := ix_Ev.eq (a_X10_ofCell launch0) rfl ls st μ
theorem e_X10_ofCell_91 (Q : ix_R → Prop) (ls : ix_L) (st : List ix_V) (μ : ix_M) : ix_Ev o_X10_ofCell Q (91, ls, st, μ) = ix_getr 9 5 (fun _ => 1) 94 (ix_Ev o_X10_ofCell Q) Q ls st μ := ix_Ev.eq (a_X10_ofCell launch0) rfl ls st μ
theorem e_X10_ofCell_94 (Q : ix_R → Prop) (ls : ix_L) (st : List ix_V) (μ : ix_M) : ix_Ev o_X10_ofCell Q (94, ls, st, μ) = ix_getr 5 8 (fun k => k + 1) 97 (ix_Ev o_X10_ofCell Q) Q ls st μ := ix_Ev.eq (a_X10_ofCell launch0) rfl ls st μ
theorem e_X10_ofCell_97 (Q : ix_R → Prop) (ls : ix_L) (st : List ix_V) (μ : ix_M) : ix_Ev o_X10_ofCell Q (97, ls, st, μ) = ix_iload 1 98 (ix_Ev o_X10_ofCell Q) Q ls st μ := ix_Ev.eq (a_X10_ofCell launch0) rfl ls st μ
theorem e_X10_ofCell_98 (Q : ix_R → Prop) (ls : ix_L) (st : List ix_V) (μ : ix_M) : ix_Ev o_X10_ofCell Q (98, ls, st, μ) = ix_aload 0 99 (ix_Ev o_X10_ofCell Q) Q ls st μ := ix_Ev.eq (a_X10_ofCell launch0) rfl ls st μ
theorem e_X10_ofCell_99 (Q : ix_R → Prop) (ls : ix_L) (st : List ix_V) (μ : ix_M) : ix_Ev o_X10_ofCell Q (99, ls, st, μ) = ix_getr 9 5 (fun _ => 1) 102 (ix_Ev o_X10_ofCell Q) Q ls st μ := ix_Ev.eq (a_X10_ofCell launch0) rfl ls st μ
theorem e_X10_ofCell_102 (Q : ix_R → Prop) (ls : ix_L) (st : List ix_V) (μ : ix_M) : ix_Ev o_X10_ofCell Q (102, ls, st, μ) = ix_getr 5 0 (fun k => k + 9) 105 (ix_Ev o_X10_ofCell Q) Q ls st μ := ix_Ev.eq (a_X10_ofCell launch0) rfl ls st μ
theorem e_X10_ofCell_105 (Q : ix_R → Prop) (ls : ix_L) (st : List ix_V) (μ : ix_M) : ix_Ev o_X10_ofCell Q (105, ls, st, μ) = oc_X9_settlesOn 108 (ix_Ev o_X10_ofCell Q) Q ls st μ := ix_Ev.eq (a_X10_ofCell launch0) rfl ls st μ
theorem e_X10_ofCell_108 (Q : ix_R → Prop) (ls : ix_L) (st : List ix_V) (μ : ix_M) : ix_Ev o_X10_ofCell Q (108, ls, st, μ) = ix_iret (ix_Ev o_X10_ofCell Q) Q ls st μ := ix_Ev.eq (a_X10_ofCell launch0) rfl ls st μ
def o_X11_ofCell : List (Nat × ix_Op) := [
  (0, ix_iload 1 1),
  (1, oc_X11_isCell 4),
  (4, ix_if (fun x => x = 0) 16 7),
  (7, ix_iload 2 8),
  (8, ix_push (vi 0) 9),
  (9, ix_push (vi 3) 10),
  (10, oc_X11_within 13),
  (13, ix_if (fun x => x = 0) 16 23),
  (16, ix_aload 0 17),
  (17, ix_push (vi (-1000000001)) 19),
  (19, oc_X11_finding 22),
  (22, ix_iret),
  (23, ix_iload 2 24),
  (24, ix_if (fun x => x = 0) 27 39),
  (27, ix_aload 0 28),
  (28, ix_getr 10 20 (fun _ => 113) 31),
  (31, ix_push (vi 18) 33),
  (33, ix_iload 1 34),
  (34, ix_bin (fun x y => x + y) 35),
  (35, ix_iald 36),
  (36, ix_goto 74),
  (39, ix_iload 2 40),
  (40, ix_push (vi 1) 41),
  (41, ix_cmp (fun x y => x = y) 44 56),
  (44, ix_aload 0 45),
  (45, ix_getr 10 20 (fun _ => 113) 48),
  (48, ix_push (vi 34) 50),
  (50, ix_iload 1 51),
  (51, ix_bin (fun x y => x + y) 52),
  (52, ix_iald 53),
  (53, ix_goto 74),
  (56, ix_iload 2 57),
  (57, ix_push (vi 2) 58),
  (58, ix_cmp (fun x y => x = y) 61 69),
  (61, ix_aload 0 62),
  (62, ix_iload 1 63),
  (63, oc_X11_whoIsOn 66),
  (66, ix_goto 74),
  (69, ix_aload 0 70),
  (70, ix_iload 1 71),
  (71, oc_X11_settles 74),
  (74, ix_iret)]
set_option maxRecDepth 20000 in
theorem a_X11_ofCell (l : Launch) : ix_AllS l cX11_ofCell 3 RX11 60 (some .int) o_X11_ofCell :=
  .cons (ix_s_iload_n dX11_ofCell_0 rfl) <|
  .cons (oc_X11_isCell_s (ix_s_calls (k_X11_isCell l) (by decide) (by decide) tw_1067 tw_12 tw_1065 tw_1066 ⟨by decide, by decide, by decide +kernel⟩ (fun _ => rfl) dX11_ofCell_1)) <|
  .cons (ix_s_if_eq dX11_ofCell_4 (by decide)) <|
  .cons (ix_s_iload_n dX11_ofCell_7 rfl) <|
  .cons (ix_s_iconst dX11_ofCell_8 (by decide +kernel)) <|
  .cons (ix_s_iconst dX11_ofCell_9 (by decide +kernel)) <|
  .cons (oc_X11_within_s (ix_s_calls (k_X11_within l) (by decide) (by decide) tw_960 tw_12 tw_958 tw_959 ⟨by decide, by decide, by decide +kernel⟩ (fun _ => rfl) dX11_ofCell_10)) <|
  .cons (ix_s_if_ne dX11_ofCell_13 (by decide)) <|
  .cons (ix_s_aload_n dX11_ofCell_16 rfl) <|
  .cons (ix_s_ldc tw_961 dX11_ofCell_17) <|
  .cons (oc_X11_finding_s (ix_s_callv (t := 10) (k_X11_finding l) (by decide) (by decide) tw_965 tw_12 tw_962 tw_964 tp_18 ⟨by decide, by decide, by decide +kernel⟩ (by decide) rfl rfl (fun _ => ⟨_, _, rfl, rfl⟩) dX11_ofCell_19)) <|
  .cons (ix_s_iret dX11_ofCell_22 rfl) <|
  .cons (ix_s_iload_n dX11_ofCell_23 rfl) <|
  .cons (ix_s_if_ne dX11_ofCell_24 (by decide)) <|
  .cons (ix_s_aload_n dX11_ofCell_27 rfl) <|
  .cons (ix_s_getr (j := 0) tu_X11 rfl (by decide) (by decide) tw_875 rfl ts_10_0_r dX11_ofCell_28) <|
  .cons (ix_s_bipush dX11_ofCell_31 (by decide +kernel)) <|
  .cons (ix_s_iload_n dX11_ofCell_33 rfl) <|
  .cons (ix_s_iadd dX11_ofCell_34) <|
  .cons (ix_s_iald dX11_ofCell_35) <|
  .cons (ix_s_goto dX11_ofCell_36 (by decide)) <|
  .cons (ix_s_iload_n dX11_ofCell_39 rfl) <|
  .cons (ix_s_iconst dX11_ofCell_40 (by decide +kernel)) <|
  .cons (ix_s_cmp_ne dX11_ofCell_41 (by decide)) <|
  .cons (ix_s_aload_n dX11_ofCell_44 rfl) <|
  .cons (ix_s_getr (j := 0) tu_X11 rfl (by decide) (by decide) tw_875 rfl ts_10_0_r dX11_ofCell_45) <|
  .cons (ix_s_bipush dX11_ofCell_48 (by decide +kernel)) <|
  .cons (ix_s_iload_n dX11_ofCell_50 rfl) <|
  .cons (ix_s_iadd dX11_ofCell_51) <|
  .cons (ix_s_iald dX11_ofCell_52) <|
  .cons (ix_s_goto dX11_ofCell_53 (by decide)) <|
  .cons (ix_s_iload_n dX11_ofCell_56 rfl) <|
  .cons (ix_s_iconst dX11_ofCell_57 (by decide +kernel)) <|
  .cons (ix_s_cmp_ne dX11_ofCell_58 (by decide)) <|
  .cons (ix_s_aload_n dX11_ofCell_61 rfl) <|
  .cons (ix_s_iload_n dX11_ofCell_62 rfl) <|
  .cons (oc_X11_whoIsOn_s (ix_s_callv (t := 10) (k_X11_whoIsOn l) (by decide) (by decide) tw_1079 tw_12 tw_1076 tw_1078 tp_33 ⟨by decide, by decide, by decide +kernel⟩ (by decide) rfl rfl (fun _ => ⟨_, _, rfl, rfl⟩) dX11_ofCell_63)) <|
  .cons (ix_s_goto dX11_ofCell_66 (by decide)) <|
  .cons (ix_s_aload_n dX11_ofCell_69 rfl) <|
  .cons (ix_s_iload_n dX11_ofCell_70 rfl) <|
  .cons (oc_X11_settles_s (ix_s_callv (t := 10) (k_X11_settles l) (by decide) (by decide) tw_1090 tw_12 tw_1087 tw_1089 tp_35 ⟨by decide, by decide, by decide +kernel⟩ (by decide) rfl rfl (fun _ => ⟨_, _, rfl, rfl⟩) dX11_ofCell_71)) <|
  .cons (ix_s_iret dX11_ofCell_74 rfl) <| .nil
theorem e_X11_ofCell_0 (Q : ix_R → Prop) (ls : ix_L) (st : List ix_V) (μ : ix_M) : ix_Ev o_X11_ofCell Q (0, ls, st, μ) = ix_iload 1 1 (ix_Ev o_X11_ofCell Q) Q ls st μ := ix_Ev.eq (a_X11_ofCell launch0) rfl ls st μ
theorem e_X11_ofCell_1 (Q : ix_R → Prop) (ls : ix_L) (st : List ix_V) (μ : ix_M) : ix_Ev o_X11_ofCell Q (1, ls, st, μ) = oc_X11_isCell 4 (ix_Ev o_X11_ofCell Q) Q ls st μ := ix_Ev.eq (a_X11_ofCell launch0) rfl ls st μ
theorem e_X11_ofCell_4 (Q : ix_R → Prop) (ls : ix_L) (st : List ix_V) (μ : ix_M) : ix_Ev o_X11_ofCell Q (4, ls, st, μ) = ix_if (fun x => x = 0) 16 7 (ix_Ev o_X11_ofCell Q) Q ls st μ := ix_Ev.eq (a_X11_ofCell launch0) rfl ls st μ
theorem e_X11_ofCell_7 (Q : ix_R → Prop) (ls : ix_L) (st : List ix_V) (μ : ix_M) : ix_Ev o_X11_ofCell Q (7, ls, st, μ) = ix_iload 2 8 (ix_Ev o_X11_ofCell Q) Q ls st μ := ix_Ev.eq (a_X11_ofCell launch0) rfl ls st μ
theorem e_X11_ofCell_8 (Q : ix_R → Prop) (ls : ix_L) (st : List ix_V) (μ : ix_M) : ix_Ev o_X11_ofCell Q (8, ls, st, μ) = ix_push (vi 0) 9 (ix_Ev o_X11_ofCell Q) Q ls st μ := ix_Ev.eq (a_X11_ofCell launch0) rfl ls st μ
theorem e_X11_ofCell_9 (Q : ix_R → Prop) (ls : ix_L) (st : List ix_V) (μ : ix_M) : ix_Ev o_X11_ofCell Q (9, ls, st, μ) = ix_push (vi 3) 10 (ix_Ev o_X11_ofCell Q) Q ls st μ := ix_Ev.eq (a_X11_ofCell launch0) rfl ls st μ
theorem e_X11_ofCell_10 (Q : ix_R → Prop) (ls : ix_L) (st : List ix_V) (μ : ix_M) : ix_Ev o_X11_ofCell Q (10, ls, st, μ) = oc_X11_within 13 (ix_Ev o_X11_ofCell Q) Q ls st μ := ix_Ev.eq (a_X11_ofCell launch0) rfl ls st μ
theorem e_X11_ofCell_13 (Q : ix_R → Prop) (ls : ix_L) (st : List ix_V) (μ : ix_M) : ix_Ev o_X11_ofCell Q (13, ls, st, μ) = ix_if (fun x => x = 0) 16 23 (ix_Ev o_X11_ofCell Q) Q ls st μ := ix_Ev.eq (a_X11_ofCell launch0) rfl ls st μ
theorem e_X11_ofCell_16 (Q : ix_R → Prop) (ls : ix_L) (st : List ix_V) (μ : ix_M) : ix_Ev o_X11_ofCell Q (16, ls, st, μ) = ix_aload 0 17 (ix_Ev o_X11_ofCell Q) Q ls st μ := ix_Ev.eq (a_X11_ofCell launch0) rfl ls st μ
theorem e_X11_ofCell_17 (Q : ix_R → Prop) (ls : ix_L) (st : List ix_V) (μ : ix_M) : ix_Ev o_X11_ofCell Q (17, ls, st, μ) = ix_push (vi (-1000000001)) 19 (ix_Ev o_X11_ofCell Q) Q ls st μ := ix_Ev.eq (a_X11_ofCell launch0) rfl ls st μ
theorem e_X11_ofCell_19 (Q : ix_R → Prop) (ls : ix_L) (st : List ix_V) (μ : ix_M) : ix_Ev o_X11_ofCell Q (19, ls, st, μ) = oc_X11_finding 22 (ix_Ev o_X11_ofCell Q) Q ls st μ := ix_Ev.eq (a_X11_ofCell launch0) rfl ls st μ
theorem e_X11_ofCell_22 (Q : ix_R → Prop) (ls : ix_L) (st : List ix_V) (μ : ix_M) : ix_Ev o_X11_ofCell Q (22, ls, st, μ) = ix_iret (ix_Ev o_X11_ofCell Q) Q ls st μ := ix_Ev.eq (a_X11_ofCell launch0) rfl ls st μ
theorem e_X11_ofCell_23 (Q : ix_R → Prop) (ls : ix_L) (st : List ix_V) (μ : ix_M) : ix_Ev o_X11_ofCell Q (23, ls, st, μ) = ix_iload 2 24 (ix_Ev o_X11_ofCell Q) Q ls st μ := ix_Ev.eq (a_X11_ofCell launch0) rfl ls st μ
theorem e_X11_ofCell_24 (Q : ix_R → Prop) (ls : ix_L) (st : List ix_V) (μ : ix_M) : ix_Ev o_X11_ofCell Q (24, ls, st, μ) = ix_if (fun x => x = 0) 27 39 (ix_Ev o_X11_ofCell Q) Q ls st μ := ix_Ev.eq (a_X11_ofCell launch0) rfl ls st μ
theorem e_X11_ofCell_27 (Q : ix_R → Prop) (ls : ix_L) (st : List ix_V) (μ : ix_M) : ix_Ev o_X11_ofCell Q (27, ls, st, μ) = ix_aload 0 28 (ix_Ev o_X11_ofCell Q) Q ls st μ := ix_Ev.eq (a_X11_ofCell launch0) rfl ls st μ
theorem e_X11_ofCell_28 (Q : ix_R → Prop) (ls : ix_L) (st : List ix_V) (μ : ix_M) : ix_Ev o_X11_ofCell Q (28, ls, st, μ) = ix_getr 10 20 (fun _ => 113) 31 (ix_Ev o_X11_ofCell Q) Q ls st μ := ix_Ev.eq (a_X11_ofCell launch0) rfl ls st μ
theorem e_X11_ofCell_31 (Q : ix_R → Prop) (ls : ix_L) (st : List ix_V) (μ : ix_M) : ix_Ev o_X11_ofCell Q (31, ls, st, μ) = ix_push (vi 18) 33 (ix_Ev o_X11_ofCell Q) Q ls st μ := ix_Ev.eq (a_X11_ofCell launch0) rfl ls st μ
theorem e_X11_ofCell_33 (Q : ix_R → Prop) (ls : ix_L) (st : List ix_V) (μ : ix_M) : ix_Ev o_X11_ofCell Q (33, ls, st, μ) = ix_iload 1 34 (ix_Ev o_X11_ofCell Q) Q ls st μ := ix_Ev.eq (a_X11_ofCell launch0) rfl ls st μ
theorem e_X11_ofCell_34 (Q : ix_R → Prop) (ls : ix_L) (st : List ix_V) (μ : ix_M) : ix_Ev o_X11_ofCell Q (34, ls, st, μ) = ix_bin (fun x y => x + y) 35 (ix_Ev o_X11_ofCell Q) Q ls st μ := ix_Ev.eq (a_X11_ofCell launch0) rfl ls st μ
theorem e_X11_ofCell_35 (Q : ix_R → Prop) (ls : ix_L) (st : List ix_V) (μ : ix_M) : ix_Ev o_X11_ofCell Q (35, ls, st, μ) = ix_iald 36 (ix_Ev o_X11_ofCell Q) Q ls st μ := ix_Ev.eq (a_X11_ofCell launch0) rfl ls st μ
theorem e_X11_ofCell_36 (Q : ix_R → Prop) (ls : ix_L) (st : List ix_V) (μ : ix_M) : ix_Ev o_X11_ofCell Q (36, ls, st, μ) = ix_goto 74 (ix_Ev o_X11_ofCell Q) Q ls st μ := ix_Ev.eq (a_X11_ofCell launch0) rfl ls st μ
theorem e_X11_ofCell_39 (Q : ix_R → Prop) (ls : ix_L) (st : List ix_V) (μ : ix_M) : ix_Ev o_X11_ofCell Q (39, ls, st, μ) = ix_iload 2 40 (ix_Ev o_X11_ofCell Q) Q ls st μ := ix_Ev.eq (a_X11_ofCell launch0) rfl ls st μ
theorem e_X11_ofCell_40 (Q : ix_R → Prop) (ls : ix_L) (st : List ix_V) (μ : ix_M) : ix_Ev o_X11_ofCell Q (40, ls, st, μ) = ix_push (vi 1) 41 (ix_Ev o_X11_ofCell Q) Q ls st μ := ix_Ev.eq (a_X11_ofCell launch0) rfl ls st μ
theorem e_X11_ofCell_41 (Q : ix_R → Prop) (ls : ix_L) (st : List ix_V) (μ : ix_M) : ix_Ev o_X11_ofCell Q (41, ls, st, μ) = ix_cmp (fun x y => x = y) 44 56 (ix_Ev o_X11_ofCell Q) Q ls st μ := ix_Ev.eq (a_X11_ofCell launch0) rfl ls st μ
theorem e_X11_ofCell_44 (Q : ix_R → Prop) (ls : ix_L) (st : List ix_V) (μ : ix_M) : ix_Ev o_X11_ofCell Q (44, ls, st, μ) = ix_aload 0 45 (ix_Ev o_X11_ofCell Q) Q ls st μ := ix_Ev.eq (a_X11_ofCell launch0) rfl ls st μ
theorem e_X11_ofCell_45 (Q : ix_R → Prop) (ls : ix_L) (st : List ix_V) (μ : ix_M) : ix_Ev o_X11_ofCell Q (45, ls, st, μ) = ix_getr 10 20 (fun _ => 113) 48 (ix_Ev o_X11_ofCell Q) Q ls st μ := ix_Ev.eq (a_X11_ofCell launch0) rfl ls st μ
theorem e_X11_ofCell_48 (Q : ix_R → Prop) (ls : ix_L) (st : List ix_V) (μ : ix_M) : ix_Ev o_X11_ofCell Q (48, ls, st, μ) = ix_push (vi 34) 50 (ix_Ev o_X11_ofCell Q) Q ls st μ := ix_Ev.eq (a_X11_ofCell launch0) rfl ls st μ
theorem e_X11_ofCell_50 (Q : ix_R → Prop) (ls : ix_L) (st : List ix_V) (μ : ix_M) : ix_Ev o_X11_ofCell Q (50, ls, st, μ) = ix_iload 1 51 (ix_Ev o_X11_ofCell Q) Q ls st μ := ix_Ev.eq (a_X11_ofCell launch0) rfl ls st μ
theorem e_X11_ofCell_51 (Q : ix_R → Prop) (ls : ix_L) (st : List ix_V) (μ : ix_M) : ix_Ev o_X11_ofCell Q (51, ls, st, μ) = ix_bin (fun x y => x + y) 52 (ix_Ev o_X11_ofCell Q) Q ls st μ := ix_Ev.eq (a_X11_ofCell launch0) rfl ls st μ
theorem e_X11_ofCell_52 (Q : ix_R → Prop) (ls : ix_L) (st : List ix_V) (μ : ix_M) : ix_Ev o_X11_ofCell Q (52, ls, st, μ) = ix_iald 53 (ix_Ev o_X11_ofCell Q) Q ls st μ := ix_Ev.eq (a_X11_ofCell launch0) rfl ls st μ
theorem e_X11_ofCell_53 (Q : ix_R → Prop) (ls : ix_L) (st : List ix_V) (μ : ix_M) : ix_Ev o_X11_ofCell Q (53, ls, st, μ) = ix_goto 74 (ix_Ev o_X11_ofCell Q) Q ls st μ := ix_Ev.eq (a_X11_ofCell launch0) rfl ls st μ
theorem e_X11_ofCell_56 (Q : ix_R → Prop) (ls : ix_L) (st : List ix_V) (μ : ix_M) : ix_Ev o_X11_ofCell Q (56, ls, st, μ) = ix_iload 2 57 (ix_Ev o_X11_ofCell Q) Q ls st μ := ix_Ev.eq (a_X11_ofCell launch0) rfl ls st μ
theorem e_X11_ofCell_57 (Q : ix_R → Prop) (ls : ix_L) (st : List ix_V) (μ : ix_M) : ix_Ev o_X11_ofCell Q (57, ls, st, μ) = ix_push (vi 2) 58 (ix_Ev o_X11_ofCell Q) Q ls st μ := ix_Ev.eq (a_X11_ofCell launch0) rfl ls st μ
theorem e_X11_ofCell_58 (Q : ix_R → Prop) (ls : ix_L) (st : List ix_V) (μ : ix_M) : ix_Ev o_X11_ofCell Q (58, ls, st, μ) = ix_cmp (fun x y => x = y) 61 69 (ix_Ev o_X11_ofCell Q) Q ls st μ := ix_Ev.eq (a_X11_ofCell launch0) rfl ls st μ
theorem e_X11_ofCell_61 (Q : ix_R → Prop) (ls : ix_L) (st : List ix_V) (μ : ix_M) : ix_Ev o_X11_ofCell Q (61, ls, st, μ) = ix_aload 0 62 (ix_Ev o_X11_ofCell Q) Q ls st μ := ix_Ev.eq (a_X11_ofCell launch0) rfl ls st μ
theorem e_X11_ofCell_62 (Q : ix_R → Prop) (ls : ix_L) (st : List ix_V) (μ : ix_M) : ix_Ev o_X11_ofCell Q (62, ls, st, μ) = ix_iload 1 63 (ix_Ev o_X11_ofCell Q) Q ls st μ := ix_Ev.eq (a_X11_ofCell launch0) rfl ls st μ
theorem e_X11_ofCell_63 (Q : ix_R → Prop) (ls : ix_L) (st : List ix_V) (μ : ix_M) : ix_Ev o_X11_ofCell Q (63, ls, st, μ) = oc_X11_whoIsOn 66 (ix_Ev o_X11_ofCell Q) Q ls st μ := ix_Ev.eq (a_X11_ofCell launch0) rfl ls st μ
theorem e_X11_ofCell_66 (Q : ix_R → Prop) (ls : ix_L) (st : List ix_V) (μ : ix_M) : ix_Ev o_X11_ofCell Q (66, ls, st, μ) = ix_goto 74 (ix_Ev o_X11_ofCell Q) Q ls st μ := ix_Ev.eq (a_X11_ofCell launch0) rfl ls st μ
theorem e_X11_ofCell_69 (Q : ix_R → Prop) (ls : ix_L) (st : List ix_V) (μ : ix_M) : ix_Ev o_X11_ofCell Q (69, ls, st, μ) = ix_aload 0 70 (ix_Ev o_X11_ofCell Q) Q ls st μ := ix_Ev.eq (a_X11_ofCell launch0) rfl ls st μ
theorem e_X11_ofCell_70 (Q : ix_R → Prop) (ls : ix_L) (st : List ix_V) (μ : ix_M) : ix_Ev o_X11_ofCell Q (70, ls, st, μ) = ix_iload 1 71 (ix_Ev o_X11_ofCell Q) Q ls st μ := ix_Ev.eq (a_X11_ofCell launch0) rfl ls st μ
theorem e_X11_ofCell_71 (Q : ix_R → Prop) (ls : ix_L) (st : List ix_V) (μ : ix_M) : ix_Ev o_X11_ofCell Q (71, ls, st, μ) = oc_X11_settles 74 (ix_Ev o_X11_ofCell Q) Q ls st μ := ix_Ev.eq (a_X11_ofCell launch0) rfl ls st μ
theorem e_X11_ofCell_74 (Q : ix_R → Prop) (ls : ix_L) (st : List ix_V) (μ : ix_M) : ix_Ev o_X11_ofCell Q (74, ls, st, μ) = ix_iret (ix_Ev o_X11_ofCell Q) Q ls st μ := ix_Ev.eq (a_X11_ofCell launch0) rfl ls st μ
theorem pr_ofCell (c : Int32) (w : Int32) (μ : ix_M) (I : Inv μ) (Q : ix_R → Prop) (hQ : ∀ vv μ', ix_Ev o_X11_ofCell (Pst vv) (0, [some (vr 10 112), some (vi c), some (vi w)], [], μ') → Q (some (vi vv), μ')) : ix_Ev o_X10_ofCell Q (0, [some (vr 9 0), some (vi c), some (vi w)], [], μ) := by
  rcases inR c 15 (by decide) with ⟨C, hC, rfl⟩ | ⟨hx1, hx2⟩
  · obtain ⟨C1, C2, C3, C4⟩ : ¬ nI C < 0 ∧ ¬ (15 : Int32) < nI C ∧ 0 ≤ nI C ∧ nI C ≤ (15 : Int32) := rgN hC (by decide)
    have Cc : (nI C).toNatClampNeg = C := nI_clamp (by omega)
    rcases inR w 3 (by decide) with ⟨W, hW, rfl⟩ | ⟨hx1, hx2⟩
    · obtain ⟨W1, W2, W3, W4⟩ : ¬ nI W < 0 ∧ ¬ (3 : Int32) < nI W ∧ 0 ≤ nI W ∧ nI W ≤ (3 : Int32) := rgN hW (by decide)
      have Wc : (nI W).toNatClampNeg = W := nI_clamp (by omega)
      obtain ⟨x1, x2, x3⟩ := mix 18 C (by omega)
      obtain ⟨y1, y2, y3⟩ := mix 34 C (by omega)
      have x1 : (18 : Int32) + nI C = nI (18 + C) := x1
      have y1 : (34 : Int32) + nI C = nI (34 + C) := y1
      have v1 : vp_in (nI C) (ix_len 3) := vp_in_nI (show C < 16 by omega) (by decide)
      have v2 : vp_in (nI C) (ix_len 4) := vp_in_nI (show C < 16 by omega) (by decide)
      have v3 : vp_in (nI C) 16 := v1
      obtain ⟨N, hN, n1, n2⟩ := I.n
      have n3 : (nI N).toInt = N := nI_toInt (by omega)
      have n4 : (nI N).toNatClampNeg = N := nI_clamp (by omega)
      obtain rfl | rfl | rfl | rfl : W = 0 ∨ W = 1 ∨ W = 2 ∨ W = 3 := by omega
      · simp (decide := true) only [e_X10_ofCell_0, e_X10_ofCell_1, e_X10_ofCell_3, e_X10_ofCell_6, e_X10_ofCell_9, e_X10_ofCell_10, e_X10_ofCell_11, e_X10_ofCell_14, e_X10_ofCell_17, e_X10_ofCell_18, e_X10_ofCell_19, e_X10_ofCell_22, e_X10_ofCell_23, e_X10_ofCell_24, e_X10_ofCell_52, e_X10_ofCell_53, e_X10_ofCell_56, e_X10_ofCell_59, e_X10_ofCell_62, e_X10_ofCell_63, e_X10_ofCell_64, e_X10_ofCell_65, e_X10_ofCell_66, e_X10_ofCell_69, e_X10_ofCell_72, e_X10_ofCell_75, e_X10_ofCell_76, e_X10_ofCell_77, e_X10_ofCell_78, e_X10_ofCell_79, e_X10_ofCell_82, e_X10_ofCell_85, e_X10_ofCell_86, e_X10_ofCell_89, e_X10_ofCell_90, e_X10_ofCell_91, e_X10_ofCell_94, e_X10_ofCell_97, e_X10_ofCell_98, e_X10_ofCell_99, e_X10_ofCell_102, e_X10_ofCell_105, e_X10_ofCell_108, vi, vl, vr, oc_X10_error, T_X10_error, oc_X10_outside, T_X10_outside, oc_X9_boatsOn, T_X9_boatsOn, oc_X9_settlesOn, T_X9_settlesOn, ix_push, ix_iload, ix_lload, ix_aload, ix_istore, ix_astore, ix_iinc, ix_bin, ix_div, ix_un, ix_i2l, ix_l2i, ix_lbin, ix_lsh, ix_lcmp, ix_dup, ix_dup2, ix_pop, ix_if, ix_cmp, ix_goto, ix_switch, ix_sw, ix_iret, ix_zret, ix_vret, ix_aret, ix_geti, ix_getr, ix_puti, ix_putz, ix_puts, ix_gets, ix_iald, ix_iast, ix_alen, ix_aald, ix_gval, ix_gcod, ix_bald, ix_blen, ix_sald, ix_nret, ix_math2, ix_math1, ix_acopy, Nat.add_assoc, Int32.reduceLT, Int32.reduceLE, Int32.reduceToNatClampNeg, Int32.reduceSub, Int32.reduceAdd, Nat.reduceAdd, Nat.reduceLeDiff, true_or, or_true, or_false, false_or, not_false_eq_true, not_true_eq_false, false_implies, true_implies, implies_true, and_self, mB_0, mB_01, Classical.not_not, Nat.zero_le, List.getElem?_cons_zero, List.getElem?_cons_succ, List.set_cons_zero, List.set_cons_succ, ix_nl, ix_cs, true_and, and_true, Option.toList_some, Option.toList_none, List.cons_append, List.nil_append, C1, C2, C3, C4, Cc, W1, W2, W3, W4, Wc, nz_0, v1, v2, x1, x2, x3, y1, y2, y3, ix_up_ne, ix_up_k, ve_1, ve_2, ve_3, ve_4, ve_5]
        refine hQ _ _ ?_
        simp (decide := true) only [e_X11_ofCell_0, e_X11_ofCell_1, e_X11_ofCell_4, e_X11_ofCell_7, e_X11_ofCell_8, e_X11_ofCell_9, e_X11_ofCell_10, e_X11_ofCell_13, e_X11_ofCell_16, e_X11_ofCell_17, e_X11_ofCell_19, e_X11_ofCell_22, e_X11_ofCell_23, e_X11_ofCell_24, e_X11_ofCell_27, e_X11_ofCell_28, e_X11_ofCell_31, e_X11_ofCell_33, e_X11_ofCell_34, e_X11_ofCell_35, e_X11_ofCell_36, e_X11_ofCell_39, e_X11_ofCell_40, e_X11_ofCell_41, e_X11_ofCell_44, e_X11_ofCell_45, e_X11_ofCell_48, e_X11_ofCell_50, e_X11_ofCell_51, e_X11_ofCell_52, e_X11_ofCell_53, e_X11_ofCell_56, e_X11_ofCell_57, e_X11_ofCell_58, e_X11_ofCell_61, e_X11_ofCell_62, e_X11_ofCell_63, e_X11_ofCell_66, e_X11_ofCell_69, e_X11_ofCell_70, e_X11_ofCell_71, e_X11_ofCell_74, vi, vl, vr, oc_X11_finding, T_X11_finding, oc_X11_isCell, T_X11_isCell, oc_X11_settles, T_X11_settles, oc_X11_whoIsOn, T_X11_whoIsOn, oc_X11_within, T_X11_within, ix_push, ix_iload, ix_lload, ix_aload, ix_istore, ix_astore, ix_iinc, ix_bin, ix_div, ix_un, ix_i2l, ix_l2i, ix_lbin, ix_lsh, ix_lcmp, ix_dup, ix_dup2, ix_pop, ix_if, ix_cmp, ix_goto, ix_switch, ix_sw, ix_iret, ix_zret, ix_vret, ix_aret, ix_geti, ix_getr, ix_puti, ix_putz, ix_puts, ix_gets, ix_iald, ix_iast, ix_alen, ix_aald, ix_gval, ix_gcod, ix_bald, ix_blen, ix_sald, ix_nret, ix_math2, ix_math1, ix_acopy, ml_113, ml_114, ml_115, ml_116, ml_118, ml_119, ml_120, ml_121, ml_122, ml_123, ml_124, ml_125, ml_126, mv_0, mv_1, mv_2, mv_3, mv_4, mv_5, mB_or, Nat.add_assoc, Int32.reduceLT, Int32.reduceLE, Int32.reduceToNatClampNeg, Int32.reduceSub, Int32.reduceAdd, Nat.reduceAdd, Nat.reduceLeDiff, true_or, or_true, or_false, false_or, not_false_eq_true, not_true_eq_false, false_implies, true_implies, implies_true, and_self, mB_0, mB_01, Classical.not_not, Nat.zero_le, List.getElem?_cons_zero, List.getElem?_cons_succ, List.set_cons_zero, List.set_cons_succ, ix_nl, ix_cs, true_and, and_true, Option.toList_some, Option.toList_none, List.cons_append, List.nil_append, C1, C2, C3, C4, Cc, W1, W2, W3, W4, Wc, nz_0, v1, v2, x1, x2, x3, y1, y2, y3, ix_up_ne, ix_up_k, ve_1, ve_2, ve_3, ve_4, ve_5]
        exact ⟨by rw [I.w1 (by omega)], I⟩
      · simp (decide := true) only [e_X10_ofCell_0, e_X10_ofCell_1, e_X10_ofCell_3, e_X10_ofCell_6, e_X10_ofCell_9, e_X10_ofCell_10, e_X10_ofCell_11, e_X10_ofCell_14, e_X10_ofCell_17, e_X10_ofCell_18, e_X10_ofCell_19, e_X10_ofCell_22, e_X10_ofCell_23, e_X10_ofCell_24, e_X10_ofCell_52, e_X10_ofCell_53, e_X10_ofCell_56, e_X10_ofCell_59, e_X10_ofCell_62, e_X10_ofCell_63, e_X10_ofCell_64, e_X10_ofCell_65, e_X10_ofCell_66, e_X10_ofCell_69, e_X10_ofCell_72, e_X10_ofCell_75, e_X10_ofCell_76, e_X10_ofCell_77, e_X10_ofCell_78, e_X10_ofCell_79, e_X10_ofCell_82, e_X10_ofCell_85, e_X10_ofCell_86, e_X10_ofCell_89, e_X10_ofCell_90, e_X10_ofCell_91, e_X10_ofCell_94, e_X10_ofCell_97, e_X10_ofCell_98, e_X10_ofCell_99, e_X10_ofCell_102, e_X10_ofCell_105, e_X10_ofCell_108, vi, vl, vr, oc_X10_error, T_X10_error, oc_X10_outside, T_X10_outside, oc_X9_boatsOn, T_X9_boatsOn, oc_X9_settlesOn, T_X9_settlesOn, ix_push, ix_iload, ix_lload, ix_aload, ix_istore, ix_astore, ix_iinc, ix_bin, ix_div, ix_un, ix_i2l, ix_l2i, ix_lbin, ix_lsh, ix_lcmp, ix_dup, ix_dup2, ix_pop, ix_if, ix_cmp, ix_goto, ix_switch, ix_sw, ix_iret, ix_zret, ix_vret, ix_aret, ix_geti, ix_getr, ix_puti, ix_putz, ix_puts, ix_gets, ix_iald, ix_iast, ix_alen, ix_aald, ix_gval, ix_gcod, ix_bald, ix_blen, ix_sald, ix_nret, ix_math2, ix_math1, ix_acopy, Nat.add_assoc, Int32.reduceLT, Int32.reduceLE, Int32.reduceToNatClampNeg, Int32.reduceSub, Int32.reduceAdd, Nat.reduceAdd, Nat.reduceLeDiff, true_or, or_true, or_false, false_or, not_false_eq_true, not_true_eq_false, false_implies, true_implies, implies_true, and_self, mB_0, mB_01, Classical.not_not, Nat.zero_le, List.getElem?_cons_zero, List.getElem?_cons_succ, List.set_cons_zero, List.set_cons_succ, ix_nl, ix_cs, true_and, and_true, Option.toList_some, Option.toList_none, List.cons_append, List.nil_append, C1, C2, C3, C4, Cc, W1, W2, W3, W4, Wc, nz_1, v1, v2, x1, x2, x3, y1, y2, y3, ix_up_ne, ix_up_k, ve_1, ve_2, ve_3, ve_4, ve_5]
        refine hQ _ _ ?_
        simp (decide := true) only [e_X11_ofCell_0, e_X11_ofCell_1, e_X11_ofCell_4, e_X11_ofCell_7, e_X11_ofCell_8, e_X11_ofCell_9, e_X11_ofCell_10, e_X11_ofCell_13, e_X11_ofCell_16, e_X11_ofCell_17, e_X11_ofCell_19, e_X11_ofCell_22, e_X11_ofCell_23, e_X11_ofCell_24, e_X11_ofCell_27, e_X11_ofCell_28, e_X11_ofCell_31, e_X11_ofCell_33, e_X11_ofCell_34, e_X11_ofCell_35, e_X11_ofCell_36, e_X11_ofCell_39, e_X11_ofCell_40, e_X11_ofCell_41, e_X11_ofCell_44, e_X11_ofCell_45, e_X11_ofCell_48, e_X11_ofCell_50, e_X11_ofCell_51, e_X11_ofCell_52, e_X11_ofCell_53, e_X11_ofCell_56, e_X11_ofCell_57, e_X11_ofCell_58, e_X11_ofCell_61, e_X11_ofCell_62, e_X11_ofCell_63, e_X11_ofCell_66, e_X11_ofCell_69, e_X11_ofCell_70, e_X11_ofCell_71, e_X11_ofCell_74, vi, vl, vr, oc_X11_finding, T_X11_finding, oc_X11_isCell, T_X11_isCell, oc_X11_settles, T_X11_settles, oc_X11_whoIsOn, T_X11_whoIsOn, oc_X11_within, T_X11_within, ix_push, ix_iload, ix_lload, ix_aload, ix_istore, ix_astore, ix_iinc, ix_bin, ix_div, ix_un, ix_i2l, ix_l2i, ix_lbin, ix_lsh, ix_lcmp, ix_dup, ix_dup2, ix_pop, ix_if, ix_cmp, ix_goto, ix_switch, ix_sw, ix_iret, ix_zret, ix_vret, ix_aret, ix_geti, ix_getr, ix_puti, ix_putz, ix_puts, ix_gets, ix_iald, ix_iast, ix_alen, ix_aald, ix_gval, ix_gcod, ix_bald, ix_blen, ix_sald, ix_nret, ix_math2, ix_math1, ix_acopy, ml_113, ml_114, ml_115, ml_116, ml_118, ml_119, ml_120, ml_121, ml_122, ml_123, ml_124, ml_125, ml_126, mv_0, mv_1, mv_2, mv_3, mv_4, mv_5, mB_or, Nat.add_assoc, Int32.reduceLT, Int32.reduceLE, Int32.reduceToNatClampNeg, Int32.reduceSub, Int32.reduceAdd, Nat.reduceAdd, Nat.reduceLeDiff, true_or, or_true, or_false, false_or, not_false_eq_true, not_true_eq_false, false_implies, true_implies, implies_true, and_self, mB_0, mB_01, Classical.not_not, Nat.zero_le, List.getElem?_cons_zero, List.getElem?_cons_succ, List.set_cons_zero, List.set_cons_succ, ix_nl, ix_cs, true_and, and_true, Option.toList_some, Option.toList_none, List.cons_append, List.nil_append, C1, C2, C3, C4, Cc, W1, W2, W3, W4, Wc, nz_1, v1, v2, x1, x2, x3, y1, y2, y3, ix_up_ne, ix_up_k, ve_1, ve_2, ve_3, ve_4, ve_5]
        exact ⟨by rw [I.w2 (by omega)], I⟩
      · simp (decide := true) only [e_X10_ofCell_0, e_X10_ofCell_1, e_X10_ofCell_3, e_X10_ofCell_6, e_X10_ofCell_9, e_X10_ofCell_10, e_X10_ofCell_11, e_X10_ofCell_14, e_X10_ofCell_17, e_X10_ofCell_18, e_X10_ofCell_19, e_X10_ofCell_22, e_X10_ofCell_23, e_X10_ofCell_24, e_X10_ofCell_52, e_X10_ofCell_53, e_X10_ofCell_56, e_X10_ofCell_59, e_X10_ofCell_62, e_X10_ofCell_63, e_X10_ofCell_64, e_X10_ofCell_65, e_X10_ofCell_66, e_X10_ofCell_69, e_X10_ofCell_72, e_X10_ofCell_75, e_X10_ofCell_76, e_X10_ofCell_77, e_X10_ofCell_78, e_X10_ofCell_79, e_X10_ofCell_82, e_X10_ofCell_85, e_X10_ofCell_86, e_X10_ofCell_89, e_X10_ofCell_90, e_X10_ofCell_91, e_X10_ofCell_94, e_X10_ofCell_97, e_X10_ofCell_98, e_X10_ofCell_99, e_X10_ofCell_102, e_X10_ofCell_105, e_X10_ofCell_108, vi, vl, vr, oc_X10_error, T_X10_error, oc_X10_outside, T_X10_outside, oc_X9_boatsOn, T_X9_boatsOn, oc_X9_settlesOn, T_X9_settlesOn, ix_push, ix_iload, ix_lload, ix_aload, ix_istore, ix_astore, ix_iinc, ix_bin, ix_div, ix_un, ix_i2l, ix_l2i, ix_lbin, ix_lsh, ix_lcmp, ix_dup, ix_dup2, ix_pop, ix_if, ix_cmp, ix_goto, ix_switch, ix_sw, ix_iret, ix_zret, ix_vret, ix_aret, ix_geti, ix_getr, ix_puti, ix_putz, ix_puts, ix_gets, ix_iald, ix_iast, ix_alen, ix_aald, ix_gval, ix_gcod, ix_bald, ix_blen, ix_sald, ix_nret, ix_math2, ix_math1, ix_acopy, Nat.add_assoc, Int32.reduceLT, Int32.reduceLE, Int32.reduceToNatClampNeg, Int32.reduceSub, Int32.reduceAdd, Nat.reduceAdd, Nat.reduceLeDiff, true_or, or_true, or_false, false_or, not_false_eq_true, not_true_eq_false, false_implies, true_implies, implies_true, and_self, mB_0, mB_01, Classical.not_not, Nat.zero_le, List.getElem?_cons_zero, List.getElem?_cons_succ, List.set_cons_zero, List.set_cons_succ, ix_nl, ix_cs, true_and, and_true, Option.toList_some, Option.toList_none, List.cons_append, List.nil_append, C1, C2, C3, C4, Cc, W1, W2, W3, W4, Wc, nz_2, n1, n3, n4, ix_up_ne, ix_up_k, ve_1, ve_2, ve_3, ve_4, ve_5]
        refine ⟨⟨by omega, by omega⟩, hQ _ _ ?_⟩
        simp (decide := true) only [e_X11_ofCell_0, e_X11_ofCell_1, e_X11_ofCell_4, e_X11_ofCell_7, e_X11_ofCell_8, e_X11_ofCell_9, e_X11_ofCell_10, e_X11_ofCell_13, e_X11_ofCell_16, e_X11_ofCell_17, e_X11_ofCell_19, e_X11_ofCell_22, e_X11_ofCell_23, e_X11_ofCell_24, e_X11_ofCell_27, e_X11_ofCell_28, e_X11_ofCell_31, e_X11_ofCell_33, e_X11_ofCell_34, e_X11_ofCell_35, e_X11_ofCell_36, e_X11_ofCell_39, e_X11_ofCell_40, e_X11_ofCell_41, e_X11_ofCell_44, e_X11_ofCell_45, e_X11_ofCell_48, e_X11_ofCell_50, e_X11_ofCell_51, e_X11_ofCell_52, e_X11_ofCell_53, e_X11_ofCell_56, e_X11_ofCell_57, e_X11_ofCell_58, e_X11_ofCell_61, e_X11_ofCell_62, e_X11_ofCell_63, e_X11_ofCell_66, e_X11_ofCell_69, e_X11_ofCell_70, e_X11_ofCell_71, e_X11_ofCell_74, vi, vl, vr, oc_X11_finding, T_X11_finding, oc_X11_isCell, T_X11_isCell, oc_X11_settles, T_X11_settles, oc_X11_whoIsOn, T_X11_whoIsOn, oc_X11_within, T_X11_within, ix_push, ix_iload, ix_lload, ix_aload, ix_istore, ix_astore, ix_iinc, ix_bin, ix_div, ix_un, ix_i2l, ix_l2i, ix_lbin, ix_lsh, ix_lcmp, ix_dup, ix_dup2, ix_pop, ix_if, ix_cmp, ix_goto, ix_switch, ix_sw, ix_iret, ix_zret, ix_vret, ix_aret, ix_geti, ix_getr, ix_puti, ix_putz, ix_puts, ix_gets, ix_iald, ix_iast, ix_alen, ix_aald, ix_gval, ix_gcod, ix_bald, ix_blen, ix_sald, ix_nret, ix_math2, ix_math1, ix_acopy, ml_113, ml_114, ml_115, ml_116, ml_118, ml_119, ml_120, ml_121, ml_122, ml_123, ml_124, ml_125, ml_126, mv_0, mv_1, mv_2, mv_3, mv_4, mv_5, mB_or, Nat.add_assoc, Int32.reduceLT, Int32.reduceLE, Int32.reduceToNatClampNeg, Int32.reduceSub, Int32.reduceAdd, Nat.reduceAdd, Nat.reduceLeDiff, true_or, or_true, or_false, false_or, not_false_eq_true, not_true_eq_false, false_implies, true_implies, implies_true, and_self, mB_0, mB_01, Classical.not_not, Nat.zero_le, List.getElem?_cons_zero, List.getElem?_cons_succ, List.set_cons_zero, List.set_cons_succ, ix_nl, ix_cs, true_and, and_true, Option.toList_some, Option.toList_none, List.cons_append, List.nil_append, C1, C2, C3, C4, Cc, W1, W2, W3, W4, Wc, nz_2, ix_up_ne, ix_up_k, ve_1, ve_2, ve_3, ve_4, ve_5]
        refine ⟨N, hN, n2, ?_, I⟩
        rw [mOn_cong (fun b hb => I.w6 (i := b) (by omega))]
      · simp (decide := true) only [e_X10_ofCell_0, e_X10_ofCell_1, e_X10_ofCell_3, e_X10_ofCell_6, e_X10_ofCell_9, e_X10_ofCell_10, e_X10_ofCell_11, e_X10_ofCell_14, e_X10_ofCell_17, e_X10_ofCell_18, e_X10_ofCell_19, e_X10_ofCell_22, e_X10_ofCell_23, e_X10_ofCell_24, e_X10_ofCell_52, e_X10_ofCell_53, e_X10_ofCell_56, e_X10_ofCell_59, e_X10_ofCell_62, e_X10_ofCell_63, e_X10_ofCell_64, e_X10_ofCell_65, e_X10_ofCell_66, e_X10_ofCell_69, e_X10_ofCell_72, e_X10_ofCell_75, e_X10_ofCell_76, e_X10_ofCell_77, e_X10_ofCell_78, e_X10_ofCell_79, e_X10_ofCell_82, e_X10_ofCell_85, e_X10_ofCell_86, e_X10_ofCell_89, e_X10_ofCell_90, e_X10_ofCell_91, e_X10_ofCell_94, e_X10_ofCell_97, e_X10_ofCell_98, e_X10_ofCell_99, e_X10_ofCell_102, e_X10_ofCell_105, e_X10_ofCell_108, vi, vl, vr, oc_X10_error, T_X10_error, oc_X10_outside, T_X10_outside, oc_X9_boatsOn, T_X9_boatsOn, oc_X9_settlesOn, T_X9_settlesOn, ix_push, ix_iload, ix_lload, ix_aload, ix_istore, ix_astore, ix_iinc, ix_bin, ix_div, ix_un, ix_i2l, ix_l2i, ix_lbin, ix_lsh, ix_lcmp, ix_dup, ix_dup2, ix_pop, ix_if, ix_cmp, ix_goto, ix_switch, ix_sw, ix_iret, ix_zret, ix_vret, ix_aret, ix_geti, ix_getr, ix_puti, ix_putz, ix_puts, ix_gets, ix_iald, ix_iast, ix_alen, ix_aald, ix_gval, ix_gcod, ix_bald, ix_blen, ix_sald, ix_nret, ix_math2, ix_math1, ix_acopy, Nat.add_assoc, Int32.reduceLT, Int32.reduceLE, Int32.reduceToNatClampNeg, Int32.reduceSub, Int32.reduceAdd, Nat.reduceAdd, Nat.reduceLeDiff, true_or, or_true, or_false, false_or, not_false_eq_true, not_true_eq_false, false_implies, true_implies, implies_true, and_self, mB_0, mB_01, Classical.not_not, Nat.zero_le, List.getElem?_cons_zero, List.getElem?_cons_succ, List.set_cons_zero, List.set_cons_succ, ix_nl, ix_cs, true_and, and_true, Option.toList_some, Option.toList_none, List.cons_append, List.nil_append, C1, C2, C3, C4, Cc, W1, W2, W3, W4, Wc, nz_3, v3, ix_up_ne, ix_up_k, ve_1, ve_2, ve_3, ve_4, ve_5]
        obtain ⟨ds, d1, d2⟩ := I.1.2.2.2.2.2.1
        refine ⟨ds, d1, fun μ1 F1 => hQ _ _ ?_⟩
        have I1 := I.scr F1 (by decide)
        have e : μ1 113 = μ 113 := F1 113 (by decide)
        simp (decide := true) only [e_X11_ofCell_0, e_X11_ofCell_1, e_X11_ofCell_4, e_X11_ofCell_7, e_X11_ofCell_8, e_X11_ofCell_9, e_X11_ofCell_10, e_X11_ofCell_13, e_X11_ofCell_16, e_X11_ofCell_17, e_X11_ofCell_19, e_X11_ofCell_22, e_X11_ofCell_23, e_X11_ofCell_24, e_X11_ofCell_27, e_X11_ofCell_28, e_X11_ofCell_31, e_X11_ofCell_33, e_X11_ofCell_34, e_X11_ofCell_35, e_X11_ofCell_36, e_X11_ofCell_39, e_X11_ofCell_40, e_X11_ofCell_41, e_X11_ofCell_44, e_X11_ofCell_45, e_X11_ofCell_48, e_X11_ofCell_50, e_X11_ofCell_51, e_X11_ofCell_52, e_X11_ofCell_53, e_X11_ofCell_56, e_X11_ofCell_57, e_X11_ofCell_58, e_X11_ofCell_61, e_X11_ofCell_62, e_X11_ofCell_63, e_X11_ofCell_66, e_X11_ofCell_69, e_X11_ofCell_70, e_X11_ofCell_71, e_X11_ofCell_74, vi, vl, vr, oc_X11_finding, T_X11_finding, oc_X11_isCell, T_X11_isCell, oc_X11_settles, T_X11_settles, oc_X11_whoIsOn, T_X11_whoIsOn, oc_X11_within, T_X11_within, ix_push, ix_iload, ix_lload, ix_aload, ix_istore, ix_astore, ix_iinc, ix_bin, ix_div, ix_un, ix_i2l, ix_l2i, ix_lbin, ix_lsh, ix_lcmp, ix_dup, ix_dup2, ix_pop, ix_if, ix_cmp, ix_goto, ix_switch, ix_sw, ix_iret, ix_zret, ix_vret, ix_aret, ix_geti, ix_getr, ix_puti, ix_putz, ix_puts, ix_gets, ix_iald, ix_iast, ix_alen, ix_aald, ix_gval, ix_gcod, ix_bald, ix_blen, ix_sald, ix_nret, ix_math2, ix_math1, ix_acopy, ml_113, ml_114, ml_115, ml_116, ml_118, ml_119, ml_120, ml_121, ml_122, ml_123, ml_124, ml_125, ml_126, mv_0, mv_1, mv_2, mv_3, mv_4, mv_5, mB_or, Nat.add_assoc, Int32.reduceLT, Int32.reduceLE, Int32.reduceToNatClampNeg, Int32.reduceSub, Int32.reduceAdd, Nat.reduceAdd, Nat.reduceLeDiff, true_or, or_true, or_false, false_or, not_false_eq_true, not_true_eq_false, false_implies, true_implies, implies_true, and_self, mB_0, mB_01, Classical.not_not, Nat.zero_le, List.getElem?_cons_zero, List.getElem?_cons_succ, List.set_cons_zero, List.set_cons_succ, ix_nl, ix_cs, true_and, and_true, Option.toList_some, Option.toList_none, List.cons_append, List.nil_append, C1, C2, C3, C4, Cc, W1, W2, W3, W4, Wc, nz_3, ix_up_ne, ix_up_k, ve_1, ve_2, ve_3, ve_4, ve_5]
        refine ⟨C, ds, rfl, by omega, by rw [e]; exact d2, fun μ2 F2 => ⟨?_, I1.scr F2 (by decide)⟩⟩
        rw [e, I.w1 (by omega), I.w2 (by omega), show μ 2 8 = μ 113 0 from I.w (r := 0) (i := 8) rfl]
    · have hx1 : w < 0 ∨ (3 : Int32) < w := hx1
      have hx2 : ¬ (0 ≤ w ∧ w ≤ (3 : Int32)) := hx2
      simp (decide := true) only [e_X10_ofCell_0, e_X10_ofCell_1, e_X10_ofCell_3, e_X10_ofCell_6, e_X10_ofCell_9, e_X10_ofCell_10, e_X10_ofCell_11, e_X10_ofCell_14, e_X10_ofCell_17, e_X10_ofCell_18, e_X10_ofCell_19, e_X10_ofCell_22, e_X10_ofCell_23, e_X10_ofCell_24, e_X10_ofCell_52, e_X10_ofCell_53, e_X10_ofCell_56, e_X10_ofCell_59, e_X10_ofCell_62, e_X10_ofCell_63, e_X10_ofCell_64, e_X10_ofCell_65, e_X10_ofCell_66, e_X10_ofCell_69, e_X10_ofCell_72, e_X10_ofCell_75, e_X10_ofCell_76, e_X10_ofCell_77, e_X10_ofCell_78, e_X10_ofCell_79, e_X10_ofCell_82, e_X10_ofCell_85, e_X10_ofCell_86, e_X10_ofCell_89, e_X10_ofCell_90, e_X10_ofCell_91, e_X10_ofCell_94, e_X10_ofCell_97, e_X10_ofCell_98, e_X10_ofCell_99, e_X10_ofCell_102, e_X10_ofCell_105, e_X10_ofCell_108, vi, vl, vr, oc_X10_error, T_X10_error, oc_X10_outside, T_X10_outside, oc_X9_boatsOn, T_X9_boatsOn, oc_X9_settlesOn, T_X9_settlesOn, ix_push, ix_iload, ix_lload, ix_aload, ix_istore, ix_astore, ix_iinc, ix_bin, ix_div, ix_un, ix_i2l, ix_l2i, ix_lbin, ix_lsh, ix_lcmp, ix_dup, ix_dup2, ix_pop, ix_if, ix_cmp, ix_goto, ix_switch, ix_sw, ix_iret, ix_zret, ix_vret, ix_aret, ix_geti, ix_getr, ix_puti, ix_putz, ix_puts, ix_gets, ix_iald, ix_iast, ix_alen, ix_aald, ix_gval, ix_gcod, ix_bald, ix_blen, ix_sald, ix_nret, ix_math2, ix_math1, ix_acopy, Nat.add_assoc, Int32.reduceLT, Int32.reduceLE, Int32.reduceToNatClampNeg, Int32.reduceSub, Int32.reduceAdd, Nat.reduceAdd, Nat.reduceLeDiff, true_or, or_true, or_false, false_or, not_false_eq_true, not_true_eq_false, false_implies, true_implies, implies_true, and_self, mB_0, mB_01, Classical.not_not, Nat.zero_le, List.getElem?_cons_zero, List.getElem?_cons_succ, List.set_cons_zero, List.set_cons_succ, ix_nl, ix_cs, true_and, and_true, Option.toList_some, Option.toList_none, List.cons_append, List.nil_append, C1, C2, C3, C4, Cc, hx1, hx2, ix_up_ne, ix_up_k, ve_1, ve_2, ve_3, ve_4, ve_5]
      refine hQ _ _ ?_
      simp (decide := true) only [e_X11_ofCell_0, e_X11_ofCell_1, e_X11_ofCell_4, e_X11_ofCell_7, e_X11_ofCell_8, e_X11_ofCell_9, e_X11_ofCell_10, e_X11_ofCell_13, e_X11_ofCell_16, e_X11_ofCell_17, e_X11_ofCell_19, e_X11_ofCell_22, e_X11_ofCell_23, e_X11_ofCell_24, e_X11_ofCell_27, e_X11_ofCell_28, e_X11_ofCell_31, e_X11_ofCell_33, e_X11_ofCell_34, e_X11_ofCell_35, e_X11_ofCell_36, e_X11_ofCell_39, e_X11_ofCell_40, e_X11_ofCell_41, e_X11_ofCell_44, e_X11_ofCell_45, e_X11_ofCell_48, e_X11_ofCell_50, e_X11_ofCell_51, e_X11_ofCell_52, e_X11_ofCell_53, e_X11_ofCell_56, e_X11_ofCell_57, e_X11_ofCell_58, e_X11_ofCell_61, e_X11_ofCell_62, e_X11_ofCell_63, e_X11_ofCell_66, e_X11_ofCell_69, e_X11_ofCell_70, e_X11_ofCell_71, e_X11_ofCell_74, vi, vl, vr, oc_X11_finding, T_X11_finding, oc_X11_isCell, T_X11_isCell, oc_X11_settles, T_X11_settles, oc_X11_whoIsOn, T_X11_whoIsOn, oc_X11_within, T_X11_within, ix_push, ix_iload, ix_lload, ix_aload, ix_istore, ix_astore, ix_iinc, ix_bin, ix_div, ix_un, ix_i2l, ix_l2i, ix_lbin, ix_lsh, ix_lcmp, ix_dup, ix_dup2, ix_pop, ix_if, ix_cmp, ix_goto, ix_switch, ix_sw, ix_iret, ix_zret, ix_vret, ix_aret, ix_geti, ix_getr, ix_puti, ix_putz, ix_puts, ix_gets, ix_iald, ix_iast, ix_alen, ix_aald, ix_gval, ix_gcod, ix_bald, ix_blen, ix_sald, ix_nret, ix_math2, ix_math1, ix_acopy, ml_113, ml_114, ml_115, ml_116, ml_118, ml_119, ml_120, ml_121, ml_122, ml_123, ml_124, ml_125, ml_126, mv_0, mv_1, mv_2, mv_3, mv_4, mv_5, mB_or, Nat.add_assoc, Int32.reduceLT, Int32.reduceLE, Int32.reduceToNatClampNeg, Int32.reduceSub, Int32.reduceAdd, Nat.reduceAdd, Nat.reduceLeDiff, true_or, or_true, or_false, false_or, not_false_eq_true, not_true_eq_false, false_implies, true_implies, implies_true, and_self, mB_0, mB_01, Classical.not_not, Nat.zero_le, List.getElem?_cons_zero, List.getElem?_cons_succ, List.set_cons_zero, List.set_cons_succ, ix_nl, ix_cs, true_and, and_true, Option.toList_some, Option.toList_none, List.cons_append, List.nil_append, C1, C2, C3, C4, Cc, hx1, hx2, ix_up_ne, ix_up_k, ve_1, ve_2, ve_3, ve_4, ve_5]
      repeat' (first | exact I.er 1 (by decide) | refine ⟨fun _ => ?_, fun _ => ?_⟩)
  · have hx1 : c < 0 ∨ (15 : Int32) < c := hx1
    have hx2 : ¬ (0 ≤ c ∧ c ≤ (15 : Int32)) := hx2
    simp (decide := true) only [e_X10_ofCell_0, e_X10_ofCell_1, e_X10_ofCell_3, e_X10_ofCell_6, e_X10_ofCell_9, e_X10_ofCell_10, e_X10_ofCell_11, e_X10_ofCell_14, e_X10_ofCell_17, e_X10_ofCell_18, e_X10_ofCell_19, e_X10_ofCell_22, e_X10_ofCell_23, e_X10_ofCell_24, e_X10_ofCell_52, e_X10_ofCell_53, e_X10_ofCell_56, e_X10_ofCell_59, e_X10_ofCell_62, e_X10_ofCell_63, e_X10_ofCell_64, e_X10_ofCell_65, e_X10_ofCell_66, e_X10_ofCell_69, e_X10_ofCell_72, e_X10_ofCell_75, e_X10_ofCell_76, e_X10_ofCell_77, e_X10_ofCell_78, e_X10_ofCell_79, e_X10_ofCell_82, e_X10_ofCell_85, e_X10_ofCell_86, e_X10_ofCell_89, e_X10_ofCell_90, e_X10_ofCell_91, e_X10_ofCell_94, e_X10_ofCell_97, e_X10_ofCell_98, e_X10_ofCell_99, e_X10_ofCell_102, e_X10_ofCell_105, e_X10_ofCell_108, vi, vl, vr, oc_X10_error, T_X10_error, oc_X10_outside, T_X10_outside, oc_X9_boatsOn, T_X9_boatsOn, oc_X9_settlesOn, T_X9_settlesOn, ix_push, ix_iload, ix_lload, ix_aload, ix_istore, ix_astore, ix_iinc, ix_bin, ix_div, ix_un, ix_i2l, ix_l2i, ix_lbin, ix_lsh, ix_lcmp, ix_dup, ix_dup2, ix_pop, ix_if, ix_cmp, ix_goto, ix_switch, ix_sw, ix_iret, ix_zret, ix_vret, ix_aret, ix_geti, ix_getr, ix_puti, ix_putz, ix_puts, ix_gets, ix_iald, ix_iast, ix_alen, ix_aald, ix_gval, ix_gcod, ix_bald, ix_blen, ix_sald, ix_nret, ix_math2, ix_math1, ix_acopy, Nat.add_assoc, Int32.reduceLT, Int32.reduceLE, Int32.reduceToNatClampNeg, Int32.reduceSub, Int32.reduceAdd, Nat.reduceAdd, Nat.reduceLeDiff, true_or, or_true, or_false, false_or, not_false_eq_true, not_true_eq_false, false_implies, true_implies, implies_true, and_self, mB_0, mB_01, Classical.not_not, Nat.zero_le, List.getElem?_cons_zero, List.getElem?_cons_succ, List.set_cons_zero, List.set_cons_succ, ix_nl, ix_cs, true_and, and_true, Option.toList_some, Option.toList_none, List.cons_append, List.nil_append, hx1, hx2, ix_up_ne, ix_up_k, ve_1, ve_2, ve_3, ve_4, ve_5]
    refine hQ _ _ ?_
    simp (decide := true) only [e_X11_ofCell_0, e_X11_ofCell_1, e_X11_ofCell_4, e_X11_ofCell_7, e_X11_ofCell_8, e_X11_ofCell_9, e_X11_ofCell_10, e_X11_ofCell_13, e_X11_ofCell_16, e_X11_ofCell_17, e_X11_ofCell_19, e_X11_ofCell_22, e_X11_ofCell_23, e_X11_ofCell_24, e_X11_ofCell_27, e_X11_ofCell_28, e_X11_ofCell_31, e_X11_ofCell_33, e_X11_ofCell_34, e_X11_ofCell_35, e_X11_ofCell_36, e_X11_ofCell_39, e_X11_ofCell_40, e_X11_ofCell_41, e_X11_ofCell_44, e_X11_ofCell_45, e_X11_ofCell_48, e_X11_ofCell_50, e_X11_ofCell_51, e_X11_ofCell_52, e_X11_ofCell_53, e_X11_ofCell_56, e_X11_ofCell_57, e_X11_ofCell_58, e_X11_ofCell_61, e_X11_ofCell_62, e_X11_ofCell_63, e_X11_ofCell_66, e_X11_ofCell_69, e_X11_ofCell_70, e_X11_ofCell_71, e_X11_ofCell_74, vi, vl, vr, oc_X11_finding, T_X11_finding, oc_X11_isCell, T_X11_isCell, oc_X11_settles, T_X11_settles, oc_X11_whoIsOn, T_X11_whoIsOn, oc_X11_within, T_X11_within, ix_push, ix_iload, ix_lload, ix_aload, ix_istore, ix_astore, ix_iinc, ix_bin, ix_div, ix_un, ix_i2l, ix_l2i, ix_lbin, ix_lsh, ix_lcmp, ix_dup, ix_dup2, ix_pop, ix_if, ix_cmp, ix_goto, ix_switch, ix_sw, ix_iret, ix_zret, ix_vret, ix_aret, ix_geti, ix_getr, ix_puti, ix_putz, ix_puts, ix_gets, ix_iald, ix_iast, ix_alen, ix_aald, ix_gval, ix_gcod, ix_bald, ix_blen, ix_sald, ix_nret, ix_math2, ix_math1, ix_acopy, ml_113, ml_114, ml_115, ml_116, ml_118, ml_119, ml_120, ml_121, ml_122, ml_123, ml_124, ml_125, ml_126, mv_0, mv_1, mv_2, mv_3, mv_4, mv_5, mB_or, Nat.add_assoc, Int32.reduceLT, Int32.reduceLE, Int32.reduceToNatClampNeg, Int32.reduceSub, Int32.reduceAdd, Nat.reduceAdd, Nat.reduceLeDiff, true_or, or_true, or_false, false_or, not_false_eq_true, not_true_eq_false, false_implies, true_implies, implies_true, and_self, mB_0, mB_01, Classical.not_not, Nat.zero_le, List.getElem?_cons_zero, List.getElem?_cons_succ, List.set_cons_zero, List.set_cons_succ, ix_nl, ix_cs, true_and, and_true, Option.toList_some, Option.toList_none, List.cons_append, List.nil_append, hx1, hx2, ix_up_ne, ix_up_k, ve_1, ve_2, ve_3, ve_4, ve_5]
    repeat' (first | exact I.er 1 (by decide) | refine ⟨fun _ => ?_, fun _ => ?_⟩)
