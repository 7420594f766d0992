/-! ===== calls, class against model: minutes ===== -/
theorem Inv.tx {μ : ix_M} (I : Inv μ) : ∃ ds dl, LW μ ds dl ∧ TxtM (μ 113) 152 ds ∧ TxtM (μ 113) 204 dl := by
  obtain ⟨-, -, -, -, -, ⟨ds, d1, d2⟩, dl, d3, d4⟩ := I.1
  exact ⟨ds, dl, ⟨d1, d3⟩, d2, d4⟩
theorem mwOf {μ : ix_M} {M : Nat} {ds dl : List Int32} (h : WR (nv (μ 113)) M) (h1 : TxtM (μ 113) 152 ds) (h2 : TxtM (μ 113) 204 dl) : MW μ M ds dl := ⟨h.1, h.2.1, h1, h2⟩
def o_X10_minutes : List (Nat × ix_Op) := [
  (0, ix_iload 1 1),
  (1, ix_push (vi 1) 2),
  (2, ix_cmp (fun x y => x < y) 11 5),
  (5, ix_iload 1 6),
  (6, ix_push (vi 60) 8),
  (8, ix_cmp (fun x y => x ≤ y) 17 11),
  (11, ix_aload 0 12),
  (12, ix_push (vi 1) 13),
  (13, oc_X10_error 16),
  (16, ix_iret),
  (17, ix_aload 0 18),
  (18, ix_getr 9 5 (fun _ => 1) 21),
  (21, ix_getr 5 8 (fun k => k + 1) 24),
  (24, ix_geti 8 8 27),
  (27, ix_iload 1 28),
  (28, ix_bin (fun x y => x + y) 29),
  (29, ix_push (vi 9999) 32),
  (32, ix_cmp (fun x y => x ≤ y) 41 35),
  (35, ix_aload 0 36),
  (36, ix_push (vi 3) 37),
  (37, oc_X10_error 40),
  (40, ix_iret),
  (41, ix_aload 0 42),
  (42, ix_aload 0 43),
  (43, ix_getr 9 5 (fun _ => 1) 46),
  (46, ix_getr 5 8 (fun k => k + 1) 49),
  (49, ix_iload 1 50),
  (50, oc_X10_hadBehind 53),
  (53, ix_iret)]
set_option maxRecDepth 20000 in
theorem a_X10_minutes (l : Launch) : ix_AllS l cX10_minutes 2 RX10 60 (some .int) o_X10_minutes :=
  .cons (ix_s_iload_n dX10_minutes_0 rfl) <|
  .cons (ix_s_iconst dX10_minutes_1 (by decide +kernel)) <|
  .cons (ix_s_cmp_lt dX10_minutes_2 (by decide)) <|
  .cons (ix_s_iload_n dX10_minutes_5 rfl) <|
  .cons (ix_s_bipush dX10_minutes_6 (by decide +kernel)) <|
  .cons (ix_s_cmp_le dX10_minutes_8 (by decide)) <|
  .cons (ix_s_aload_n dX10_minutes_11 rfl) <|
  .cons (ix_s_iconst dX10_minutes_12 (by decide +kernel)) <|
  .cons (oc_X10_error_s (ix_s_callv (t := 9) (k_X10_error l) (by decide) (by decide) tw_295 tw_1 tw_292 tw_294 tp_0 ⟨by decide, by decide, by decide +kernel⟩ (by decide) rfl rfl (fun _ => ⟨_, _, rfl, rfl⟩) dX10_minutes_13)) <|
  .cons (ix_s_iret dX10_minutes_16 rfl) <|
  .cons (ix_s_aload_n dX10_minutes_17 rfl) <|
  .cons (ix_s_getr (j := 0) tu_X10 rfl (by decide) (by decide) tw_251 rfl ts_9_0_r dX10_minutes_18) <|
  .cons (ix_s_getr (j := 0) tu_X6 rfl (by decide) (by decide) tw_138 rfl ts_5_0_r dX10_minutes_21) <|
  .cons (ix_s_geti (j := 8) tu_X9 rfl (by decide) (by decide) tw_59 rfl ts_8_8_i dX10_minutes_24) <|
  .cons (ix_s_iload_n dX10_minutes_27 rfl) <|
  .cons (ix_s_iadd dX10_minutes_28) <|
  .cons (ix_s_sipush dX10_minutes_29 (by decide +kernel)) <|
  .cons (ix_s_cmp_le dX10_minutes_32 (by decide)) <|
  .cons (ix_s_aload_n dX10_minutes_35 rfl) <|
  .cons (ix_s_iconst dX10_minutes_36 (by decide +kernel)) <|
  .cons (oc_X10_error_s (ix_s_callv (t := 9) (k_X10_error l) (by decide) (by decide) tw_295 tw_1 tw_292 tw_294 tp_0 ⟨by decide, by decide, by decide +kernel⟩ (by decide) rfl rfl (fun _ => ⟨_, _, rfl, rfl⟩) dX10_minutes_37)) <|
  .cons (ix_s_iret dX10_minutes_40 rfl) <|
  .cons (ix_s_aload_n dX10_minutes_41 rfl) <|
  .cons (ix_s_aload_n dX10_minutes_42 rfl) <|
  .cons (ix_s_getr (j := 0) tu_X10 rfl (by decide) (by decide) tw_251 rfl ts_9_0_r dX10_minutes_43) <|
  .cons (ix_s_getr (j := 0) tu_X6 rfl (by decide) (by decide) tw_138 rfl ts_5_0_r dX10_minutes_46) <|
  .cons (ix_s_iload_n dX10_minutes_49 rfl) <|
  .cons (oc_X10_hadBehind_s (ix_s_callv (t := 9) (k_X10_hadBehind l) (by decide) (by decide) tw_595 tw_1 tw_592 tw_594 tp_7 ⟨by decide, by decide, by decide +kernel⟩ (by decide) rfl rfl (fun _ => ⟨_, _, rfl, rfl⟩) dX10_minutes_50)) <|
  .cons (ix_s_iret dX10_minutes_53 rfl) <| .nil
theorem e_X10_minutes_0 (Q : ix_R → Prop) (ls : ix_L) (st : List ix_V) (μ : ix_M) : ix_Ev o_X10_minutes Q (0, ls, st, μ) = ix_iload 1 1 (ix_Ev o_X10_minutes Q) Q ls st μ := ix_Ev.eq (a_X10_minutes launch0) rfl ls st μ
theorem e_X10_minutes_1 (Q : ix_R → Prop) (ls : ix_L) (st : List ix_V) (μ : ix_M) : ix_Ev o_X10_minutes Q (1, ls, st, μ) = ix_push (vi 1) 2 (ix_Ev o_X10_minutes Q) Q ls st μ := ix_Ev.eq (a_X10_minutes launch0) rfl ls st μ
theorem e_X10_minutes_2 (Q : ix_R → Prop) (ls : ix_L) (st : List ix_V) (μ : ix_M) : ix_Ev o_X10_minutes Q (2, ls, st, μ) = ix_cmp (fun x y => x < y) 11 5 (ix_Ev o_X10_minutes Q) Q ls st μ := ix_Ev.eq (a_X10_minutes launch0) rfl ls st μ
theorem e_X10_minutes_5 (Q : ix_R → Prop) (ls : ix_L) (st : List ix_V) (μ : ix_M) : ix_Ev o_X10_minutes Q (5, ls, st, μ) = ix_iload 1 6 (ix_Ev o_X10_minutes Q) Q ls st μ := ix_Ev.eq (a_X10_minutes launch0) rfl ls st μ
theorem e_X10_minutes_6 (Q : ix_R → Prop) (ls : ix_L) (st : List ix_V) (μ : ix_M) : ix_Ev o_X10_minutes Q (6, ls, st, μ) = ix_push (vi 60) 8 (ix_Ev o_X10_minutes Q) Q ls st μ := ix_Ev.eq (a_X10_minutes launch0) rfl ls st μ
theorem e_X10_minutes_8 (Q : ix_R → Prop) (ls : ix_L) (st : List ix_V) (μ : ix_M) : ix_Ev o_X10_minutes Q (8, ls, st, μ) = ix_cmp (fun x y => x ≤ y) 17 11 (ix_Ev o_X10_minutes Q) Q ls st μ := ix_Ev.eq (a_X10_minutes launch0) rfl ls st μ
theorem e_X10_minutes_11 (Q : ix_R → Prop) (ls : ix_L) (st : List ix_V) (μ : ix_M) : ix_Ev o_X10_minutes Q (11, ls, st, μ) = ix_aload 0 12 (ix_Ev o_X10_minutes Q) Q ls st μ := ix_Ev.eq (a_X10_minutes launch0) rfl ls st μ
theorem e_X10_minutes_12 (Q : ix_R → Prop) (ls : ix_L) (st : List ix_V) (μ : ix_M) : ix_Ev o_X10_minutes Q (12, ls, st, μ) = ix_push (vi 1) 13 (ix_Ev o_X10_minutes Q) Q ls st μ := ix_Ev.eq (a_X10_minutes launch0) rfl ls st μ
theorem e_X10_minutes_13 (Q : ix_R → Prop) (ls : ix_L) (st : List ix_V) (μ : ix_M) : ix_Ev o_X10_minutes Q (13, ls, st, μ) = oc_X10_error 16 (ix_Ev o_X10_minutes Q) Q ls st μ := ix_Ev.eq (a_X10_minutes launch0) rfl ls st μ
theorem e_X10_minutes_16 (Q : ix_R → Prop) (ls : ix_L) (st : List ix_V) (μ : ix_M) : ix_Ev o_X10_minutes Q (16, ls, st, μ) = ix_iret (ix_Ev o_X10_minutes Q) Q ls st μ := ix_Ev.eq (a_X10_minutes launch0) rfl ls st μ
theorem e_X10_minutes_17 (Q : ix_R → Prop) (ls : ix_L) (st : List ix_V) (μ : ix_M) : ix_Ev o_X10_minutes Q (17, ls, st, μ) = ix_aload 0 18 (ix_Ev o_X10_minutes Q) Q ls st μ := ix_Ev.eq (a_X10_minutes launch0) rfl ls st μ
theorem e_X10_minutes_18 (Q : ix_R → Prop) (ls : ix_L) (st : List ix_V) (μ : ix_M) : ix_Ev o_X10_minutes Q (18, ls, st, μ) = ix_getr 9 5 (fun _ => 1) 21 (ix_Ev o_X10_minutes Q) Q ls st μ := ix_Ev.eq (a_X10_minutes launch0) rfl ls st μ
theorem e_X10_minutes_21 (Q : ix_R → Prop) (ls : ix_L) (st : List ix_V) (μ : ix_M) : ix_Ev o_X10_minutes Q (21, ls, st, μ) = ix_getr 5 8 (fun k => k + 1) 24 (ix_Ev o_X10_minutes Q) Q ls st μ := ix_Ev.eq (a_X10_minutes launch0) rfl ls st μ
theorem e_X10_minutes_24 (Q : ix_R → Prop) (ls : ix_L) (st : List ix_V) (μ : ix_M) : ix_Ev o_X10_minutes Q (24, ls, st, μ) = ix_geti 8 8 27 (ix_Ev o_X10_minutes Q) Q ls st μ := ix_Ev.eq (a_X10_minutes launch0) rfl ls st μ
theorem e_X10_minutes_27 (Q : ix_R → Prop) (ls : ix_L) (st : List ix_V) (μ : ix_M) : ix_Ev o_X10_minutes Q (27, ls, st, μ) = ix_iload 1 28 (ix_Ev o_X10_minutes Q) Q ls st μ := ix_Ev.eq (a_X10_minutes launch0) rfl ls st μ
theorem e_X10_minutes_28 (Q : ix_R → Prop) (ls : ix_L) (st : List ix_V) (μ : ix_M) : ix_Ev o_X10_minutes Q (28, ls, st, μ) = ix_bin (fun x y => x + y) 29 (ix_Ev o_X10_minutes Q) Q ls st μ := ix_Ev.eq (a_X10_minutes launch0) rfl ls st μ
theorem e_X10_minutes_29 (Q : ix_R → Prop) (ls : ix_L) (st : List ix_V) (μ : ix_M) : ix_Ev o_X10_minutes Q (29, ls, st, μ) = ix_push (vi 9999) 32 (ix_Ev o_X10_minutes Q) Q ls st μ := ix_Ev.eq (a_X10_minutes launch0) rfl ls st μ
theorem e_X10_minutes_32 (Q : ix_R → Prop) (ls : ix_L) (st : List ix_V) (μ : ix_M) : ix_Ev o_X10_minutes Q (32, ls, st, μ) = ix_cmp (fun x y => x ≤ y) 41 35 (ix_Ev o_X10_minutes Q) Q ls st μ := ix_Ev.eq (a_X10_minutes launch0) rfl ls st μ
theorem e_X10_minutes_35 (Q : ix_R → Prop) (ls : ix_L) (st : List ix_V) (μ : ix_M) : ix_Ev o_X10_minutes Q (35, ls, st, μ) = ix_aload 0 36 (ix_Ev o_X10_minutes Q) Q ls st μ := ix_Ev.eq (a_X10_minutes launch0) rfl ls st μ
theorem e_X10_minutes_36 (Q : ix_R → Prop) (ls : ix_L) (st : List ix_V) (μ : ix_M) : ix_Ev o_X10_minutes Q (36, ls, st, μ) = ix_push (vi 3) 37 (ix_Ev o_X10_minutes Q) Q ls st μ := ix_Ev.eq (a_X10_minutes launch0) rfl ls st μ
theorem e_X10_minutes_37 (Q : ix_R → Prop) (ls : ix_L) (st : List ix_V) (μ : ix_M) : ix_Ev o_X10_minutes Q (37, ls, st, μ) = oc_X10_error 40 (ix_Ev o_X10_minutes Q) Q ls st μ := ix_Ev.eq (a_X10_minutes launch0) rfl ls st μ
theorem e_X10_minutes_40 (Q : ix_R → Prop) (ls : ix_L) (st : List ix_V) (μ : ix_M) : ix_Ev o_X10_minutes Q (40, ls, st, μ) = ix_iret (ix_Ev o_X10_minutes Q) Q ls st μ := ix_Ev.eq (a_X10_minutes launch0) rfl ls st μ
theorem e_X10_minutes_41 (Q : ix_R → Prop) (ls : ix_L) (st : List ix_V) (μ : ix_M) : ix_Ev o_X10_minutes Q (41, ls, st, μ) = ix_aload 0 42 (ix_Ev o_X10_minutes Q) Q ls st μ := ix_Ev.eq (a_X10_minutes launch0) rfl ls st μ
theorem e_X10_minutes_42 (Q : ix_R → Prop) (ls : ix_L) (st : List ix_V) (μ : ix_M) : ix_Ev o_X10_minutes Q (42, ls, st, μ) = ix_aload 0 43 (ix_Ev o_X10_minutes Q) Q ls st μ := ix_Ev.eq (a_X10_minutes launch0) rfl ls st μ
theorem e_X10_minutes_43 (Q : ix_R → Prop) (ls : ix_L) (st : List ix_V) (μ : ix_M) : ix_Ev o_X10_minutes Q (43, ls, st, μ) = ix_getr 9 5 (fun _ => 1) 46 (ix_Ev o_X10_minutes Q) Q ls st μ := ix_Ev.eq (a_X10_minutes launch0) rfl ls st μ
theorem e_X10_minutes_46 (Q : ix_R → Prop) (ls : ix_L) (st : List ix_V) (μ : ix_M) : ix_Ev o_X10_minutes Q (46, ls, st, μ) = ix_getr 5 8 (fun k => k + 1) 49 (ix_Ev o_X10_minutes Q) Q ls st μ := ix_Ev.eq (a_X10_minutes launch0) rfl ls st μ
theorem e_X10_minutes_49 (Q : ix_R → Prop) (ls : ix_L) (st : List ix_V) (μ : ix_M) : ix_Ev o_X10_minutes Q (49, ls, st, μ) = ix_iload 1 50 (ix_Ev o_X10_minutes Q) Q ls st μ := ix_Ev.eq (a_X10_minutes launch0) rfl ls st μ
theorem e_X10_minutes_50 (Q : ix_R → Prop) (ls : ix_L) (st : List ix_V) (μ : ix_M) : ix_Ev o_X10_minutes Q (50, ls, st, μ) = oc_X10_hadBehind 53 (ix_Ev o_X10_minutes Q) Q ls st μ := ix_Ev.eq (a_X10_minutes launch0) rfl ls st μ
theorem e_X10_minutes_53 (Q : ix_R → Prop) (ls : ix_L) (st : List ix_V) (μ : ix_M) : ix_Ev o_X10_minutes Q (53, ls, st, μ) = ix_iret (ix_Ev o_X10_minutes Q) Q ls st μ := ix_Ev.eq (a_X10_minutes launch0) rfl ls st μ
def o_X11_minutes : List (Nat × ix_Op) := [
  (0, ix_iload 1 1),
  (1, ix_push (vi 1) 2),
  (2, ix_push (vi 60) 4),
  (4, oc_X11_within 7),
  (7, ix_if (fun x => x = 0) 10 17),
  (10, ix_aload 0 11),
  (11, ix_push (vi (-1000000001)) 13),
  (13, oc_X11_finding 16),
  (16, ix_iret),
  (17, ix_aload 0 18),
  (18, ix_getr 10 20 (fun _ => 113) 21),
  (21, ix_push (vi 0) 22),
  (22, ix_iald 23),
  (23, ix_iload 1 24),
  (24, ix_bin (fun x y => x + y) 25),
  (25, ix_push (vi 9999) 28),
  (28, ix_cmp (fun x y => x ≤ y) 40 31),
  (31, ix_aload 0 32),
  (32, ix_push (vi (-1000000003)) 34),
  (34, oc_X11_finding 37),
  (37, ix_goto 45),
  (40, ix_aload 0 41),
  (41, ix_iload 1 42),
  (42, oc_X11_minutesGo 45),
  (45, ix_iret)]
set_option maxRecDepth 20000 in
theorem a_X11_minutes (l : Launch) : ix_AllS l cX11_minutes 2 RX11 60 (some .int) o_X11_minutes :=
  .cons (ix_s_iload_n dX11_minutes_0 rfl) <|
  .cons (ix_s_iconst dX11_minutes_1 (by decide +kernel)) <|
  .cons (ix_s_bipush dX11_minutes_2 (by decide +kernel)) <|
  .cons (oc_X11_within_s (ix_s_calls (k_X11_within l) (by decide) (by decide) tw_960 tw_12 tw_958 tw_959 ⟨by decide, by decide, by decide +kernel⟩ (fun _ => rfl) dX11_minutes_4)) <|
  .cons (ix_s_if_ne dX11_minutes_7 (by decide)) <|
  .cons (ix_s_aload_n dX11_minutes_10 rfl) <|
  .cons (ix_s_ldc tw_961 dX11_minutes_11) <|
  .cons (oc_X11_finding_s (ix_s_callv (t := 10) (k_X11_finding l) (by decide) (by decide) tw_965 tw_12 tw_962 tw_964 tp_18 ⟨by decide, by decide, by decide +kernel⟩ (by decide) rfl rfl (fun _ => ⟨_, _, rfl, rfl⟩) dX11_minutes_13)) <|
  .cons (ix_s_iret dX11_minutes_16 rfl) <|
  .cons (ix_s_aload_n dX11_minutes_17 rfl) <|
  .cons (ix_s_getr (j := 0) tu_X11 rfl (by decide) (by decide) tw_875 rfl ts_10_0_r dX11_minutes_18) <|
  .cons (ix_s_iconst dX11_minutes_21 (by decide +kernel)) <|
  .cons (ix_s_iald dX11_minutes_22) <|
  .cons (ix_s_iload_n dX11_minutes_23 rfl) <|
  .cons (ix_s_iadd dX11_minutes_24) <|
  .cons (ix_s_sipush dX11_minutes_25 (by decide +kernel)) <|
  .cons (ix_s_cmp_le dX11_minutes_28 (by decide)) <|
  .cons (ix_s_aload_n dX11_minutes_31 rfl) <|
  .cons (ix_s_ldc tw_1183 dX11_minutes_32) <|
  .cons (oc_X11_finding_s (ix_s_callv (t := 10) (k_X11_finding l) (by decide) (by decide) tw_965 tw_12 tw_962 tw_964 tp_18 ⟨by decide, by decide, by decide +kernel⟩ (by decide) rfl rfl (fun _ => ⟨_, _, rfl, rfl⟩) dX11_minutes_34)) <|
  .cons (ix_s_goto dX11_minutes_37 (by decide)) <|
  .cons (ix_s_aload_n dX11_minutes_40 rfl) <|
  .cons (ix_s_iload_n dX11_minutes_41 rfl) <|
  .cons (oc_X11_minutesGo_s (ix_s_callv (t := 10) (k_X11_minutesGo l) (by decide) (by decide) tw_1187 tw_12 tw_1184 tw_1186 tp_44 ⟨by decide, by decide, by decide +kernel⟩ (by decide) rfl rfl (fun _ => ⟨_, _, rfl, rfl⟩) dX11_minutes_42)) <|
  .cons (ix_s_iret dX11_minutes_45 rfl) <| .nil
theorem e_X11_minutes_0 (Q : ix_R → Prop) (ls : ix_L) (st : List ix_V) (μ : ix_M) : ix_Ev o_X11_minutes Q (0, ls, st, μ) = ix_iload 1 1 (ix_Ev o_X11_minutes Q) Q ls st μ := ix_Ev.eq (a_X11_minutes launch0) rfl ls st μ
theorem e_X11_minutes_1 (Q : ix_R → Prop) (ls : ix_L) (st : List ix_V) (μ : ix_M) : ix_Ev o_X11_minutes Q (1, ls, st, μ) = ix_push (vi 1) 2 (ix_Ev o_X11_minutes Q) Q ls st μ := ix_Ev.eq (a_X11_minutes launch0) rfl ls st μ
theorem e_X11_minutes_2 (Q : ix_R → Prop) (ls : ix_L) (st : List ix_V) (μ : ix_M) : ix_Ev o_X11_minutes Q (2, ls, st, μ) = ix_push (vi 60) 4 (ix_Ev o_X11_minutes Q) Q ls st μ := ix_Ev.eq (a_X11_minutes launch0) rfl ls st μ
theorem e_X11_minutes_4 (Q : ix_R → Prop) (ls : ix_L) (st : List ix_V) (μ : ix_M) : ix_Ev o_X11_minutes Q (4, ls, st, μ) = oc_X11_within 7 (ix_Ev o_X11_minutes Q) Q ls st μ := ix_Ev.eq (a_X11_minutes launch0) rfl ls st μ
theorem e_X11_minutes_7 (Q : ix_R → Prop) (ls : ix_L) (st : List ix_V) (μ : ix_M) : ix_Ev o_X11_minutes Q (7, ls, st, μ) = ix_if (fun x => x = 0) 10 17 (ix_Ev o_X11_minutes Q) Q ls st μ := ix_Ev.eq (a_X11_minutes launch0) rfl ls st μ
theorem e_X11_minutes_10 (Q : ix_R → Prop) (ls : ix_L) (st : List ix_V) (μ : ix_M) : ix_Ev o_X11_minutes Q (10, ls, st, μ) = ix_aload 0 11 (ix_Ev o_X11_minutes Q) Q ls st μ := ix_Ev.eq (a_X11_minutes launch0) rfl ls st μ
theorem e_X11_minutes_11 (Q : ix_R → Prop) (ls : ix_L) (st : List ix_V) (μ : ix_M) : ix_Ev o_X11_minutes Q (11, ls, st, μ) = ix_push (vi (-1000000001)) 13 (ix_Ev o_X11_minutes Q) Q ls st μ := ix_Ev.eq (a_X11_minutes launch0) rfl ls st μ
theorem e_X11_minutes_13 (Q : ix_R → Prop) (ls : ix_L) (st : List ix_V) (μ : ix_M) : ix_Ev o_X11_minutes Q (13, ls, st, μ) = oc_X11_finding 16 (ix_Ev o_X11_minutes Q) Q ls st μ := ix_Ev.eq (a_X11_minutes launch0) rfl ls st μ
theorem e_X11_minutes_16 (Q : ix_R → Prop) (ls : ix_L) (st : List ix_V) (μ : ix_M) : ix_Ev o_X11_minutes Q (16, ls, st, μ) = ix_iret (ix_Ev o_X11_minutes Q) Q ls st μ := ix_Ev.eq (a_X11_minutes launch0) rfl ls st μ
theorem e_X11_minutes_17 (Q : ix_R → Prop) (ls : ix_L) (st : List ix_V) (μ : ix_M) : ix_Ev o_X11_minutes Q (17, ls, st, μ) = ix_aload 0 18 (ix_Ev o_X11_minutes Q) Q ls st μ := ix_Ev.eq (a_X11_minutes launch0) rfl ls st μ
theorem e_X11_minutes_18 (Q : ix_R → Prop) (ls : ix_L) (st : List ix_V) (μ : ix_M) : ix_Ev o_X11_minutes Q (18, ls, st, μ) = ix_getr 10 20 (fun _ => 113) 21 (ix_Ev o_X11_minutes Q) Q ls st μ := ix_Ev.eq (a_X11_minutes launch0) rfl ls st μ
theorem e_X11_minutes_21 (Q : ix_R → Prop) (ls : ix_L) (st : List ix_V) (μ : ix_M) : ix_Ev o_X11_minutes Q (21, ls, st, μ) = ix_push (vi 0) 22 (ix_Ev o_X11_minutes Q) Q ls st μ := ix_Ev.eq (a_X11_minutes launch0) rfl ls st μ
theorem e_X11_minutes_22 (Q : ix_R → Prop) (ls : ix_L) (st : List ix_V) (μ : ix_M) : ix_Ev o_X11_minutes Q (22, ls, st, μ) = ix_iald 23 (ix_Ev o_X11_minutes Q) Q ls st μ := ix_Ev.eq (a_X11_minutes launch0) rfl ls st μ
theorem e_X11_minutes_23 (Q : ix_R → Prop) (ls : ix_L) (st : List ix_V) (μ : ix_M) : ix_Ev o_X11_minutes Q (23, ls, st, μ) = ix_iload 1 24 (ix_Ev o_X11_minutes Q) Q ls st μ := ix_Ev.eq (a_X11_minutes launch0) rfl ls st μ
theorem e_X11_minutes_24 (Q : ix_R → Prop) (ls : ix_L) (st : List ix_V) (μ : ix_M) : ix_Ev o_X11_minutes Q (24, ls, st, μ) = ix_bin (fun x y => x + y) 25 (ix_Ev o_X11_minutes Q) Q ls st μ := ix_Ev.eq (a_X11_minutes launch0) rfl ls st μ
theorem e_X11_minutes_25 (Q : ix_R → Prop) (ls : ix_L) (st : List ix_V) (μ : ix_M) : ix_Ev o_X11_minutes Q (25, ls, st, μ) = ix_push (vi 9999) 28 (ix_Ev o_X11_minutes Q) Q ls st μ := ix_Ev.eq (a_X11_minutes launch0) rfl ls st μ
theorem e_X11_minutes_28 (Q : ix_R → Prop) (ls : ix_L) (st : List ix_V) (μ : ix_M) : ix_Ev o_X11_minutes Q (28, ls, st, μ) = ix_cmp (fun x y => x ≤ y) 40 31 (ix_Ev o_X11_minutes Q) Q ls st μ := ix_Ev.eq (a_X11_minutes launch0) rfl ls st μ
theorem e_X11_minutes_31 (Q : ix_R → Prop) (ls : ix_L) (st : List ix_V) (μ : ix_M) : ix_Ev o_X11_minutes Q (31, ls, st, μ) = ix_aload 0 32 (ix_Ev o_X11_minutes Q) Q ls st μ := ix_Ev.eq (a_X11_minutes launch0) rfl ls st μ
theorem e_X11_minutes_32 (Q : ix_R → Prop) (ls : ix_L) (st : List ix_V) (μ : ix_M) : ix_Ev o_X11_minutes Q (32, ls, st, μ) = ix_push (vi (-1000000003)) 34 (ix_Ev o_X11_minutes Q) Q ls st μ := ix_Ev.eq (a_X11_minutes launch0) rfl ls st μ
theorem e_X11_minutes_34 (Q : ix_R → Prop) (ls : ix_L) (st : List ix_V) (μ : ix_M) : ix_Ev o_X11_minutes Q (34, ls, st, μ) = oc_X11_finding 37 (ix_Ev o_X11_minutes Q) Q ls st μ := ix_Ev.eq (a_X11_minutes launch0) rfl ls st μ
theorem e_X11_minutes_37 (Q : ix_R → Prop) (ls : ix_L) (st : List ix_V) (μ : ix_M) : ix_Ev o_X11_minutes Q (37, ls, st, μ) = ix_goto 45 (ix_Ev o_X11_minutes Q) Q ls st μ := ix_Ev.eq (a_X11_minutes launch0) rfl ls st μ
theorem e_X11_minutes_40 (Q : ix_R → Prop) (ls : ix_L) (st : List ix_V) (μ : ix_M) : ix_Ev o_X11_minutes Q (40, ls, st, μ) = ix_aload 0 41 (ix_Ev o_X11_minutes Q) Q ls st μ := ix_Ev.eq (a_X11_minutes launch0) rfl ls st μ
theorem e_X11_minutes_41 (Q : ix_R → Prop) (ls : ix_L) (st : List ix_V) (μ : ix_M) : ix_Ev o_X11_minutes Q (41, ls, st, μ) = ix_iload 1 42 (ix_Ev o_X11_minutes Q) Q ls st μ := ix_Ev.eq (a_X11_minutes launch0) rfl ls st μ
theorem e_X11_minutes_42 (Q : ix_R → Prop) (ls : ix_L) (st : List ix_V) (μ : ix_M) : ix_Ev o_X11_minutes Q (42, ls, st, μ) = oc_X11_minutesGo 45 (ix_Ev o_X11_minutes Q) Q ls st μ := ix_Ev.eq (a_X11_minutes launch0) rfl ls st μ
theorem e_X11_minutes_45 (Q : ix_R → Prop) (ls : ix_L) (st : List ix_V) (μ : ix_M) : ix_Ev o_X11_minutes Q (45, ls, st, μ) = ix_iret (ix_Ev o_X11_minutes Q) Q ls st μ := ix_Ev.eq (a_X11_minutes launch0) rfl ls st μ
theorem pr_minutes (n : Int32) (μ : ix_M) (I : Inv μ) (Q : ix_R → Prop) (hQ : ∀ vv μ', ix_Ev o_X11_minutes (Pst vv) (0, [some (vr 10 112), some (vi n)], [], μ') → Q (some (vi vv), μ')) : ix_Ev o_X10_minutes Q (0, [some (vr 9 0), some (vi n)], [], μ) := by
  by_cases h : 1 ≤ n ∧ n ≤ 60
  · have h1 : ¬ n < 1 := Int32.not_lt.mpr h.1
    have h2 : ¬ 60 < n := Int32.not_lt.mpr h.2
    obtain ⟨K, hK, rfl⟩ := nI_of2 (n := 60) (M := 60) rfl (fun z => h1 (by rw [fa_lt] at z ⊢; exact Int.lt_trans z (by decide))) h.2
    obtain ⟨M, hM, hR, m1, m2⟩ := I.mi
    obtain ⟨ds, dl, hL, x1, x2⟩ := I.tx
    have e1 : nI M + nI K = nI (M + K) := nI_add M K
    by_cases c : 9999 < M + K
    · have c1 : ¬ nI (M + K) ≤ 9999 := nI_ge (a := 9999) (b := M + K) c (by omega)
      simp (decide := true) only [e_X10_minutes_0, e_X10_minutes_1, e_X10_minutes_2, e_X10_minutes_5, e_X10_minutes_6, e_X10_minutes_8, e_X10_minutes_11, e_X10_minutes_12, e_X10_minutes_13, e_X10_minutes_16, e_X10_minutes_17, e_X10_minutes_18, e_X10_minutes_21, e_X10_minutes_24, e_X10_minutes_27, e_X10_minutes_28, e_X10_minutes_29, e_X10_minutes_32, e_X10_minutes_35, e_X10_minutes_36, e_X10_minutes_37, e_X10_minutes_40, e_X10_minutes_41, e_X10_minutes_42, e_X10_minutes_43, e_X10_minutes_46, e_X10_minutes_49, e_X10_minutes_50, e_X10_minutes_53, vi, vl, vr, oc_X10_error, T_X10_error, oc_X10_hadBehind, T_X10_hadBehind, ix_push, ix_iload, ix_lload, ix_aload, ix_istore, ix_astore, ix_iinc, ix_bin, ix_div, ix_un, ix_i2l, ix_l2i, ix_lbin, ix_lsh, ix_lcmp, ix_dup, ix_dup2, ix_pop, ix_if, ix_cmp, ix_goto, ix_switch, ix_sw, ix_iret, ix_zret, ix_vret, ix_aret, ix_geti, ix_getr, ix_puti, ix_putz, ix_puts, ix_gets, ix_iald, ix_iast, ix_alen, ix_aald, ix_gval, ix_gcod, ix_bald, ix_blen, ix_sald, ix_nret, ix_math2, ix_math1, ix_acopy, Nat.add_assoc, Int32.reduceLT, Int32.reduceLE, Int32.reduceToNatClampNeg, Int32.reduceSub, Int32.reduceAdd, Nat.reduceAdd, Nat.reduceLeDiff, true_or, or_true, or_false, false_or, not_false_eq_true, not_true_eq_false, false_implies, true_implies, implies_true, and_self, mB_0, mB_01, Classical.not_not, Nat.zero_le, List.getElem?_cons_zero, List.getElem?_cons_succ, List.set_cons_zero, List.set_cons_succ, ix_nl, ix_cs, true_and, and_true, Option.toList_some, Option.toList_none, List.cons_append, List.nil_append, h1, h2, h, m1, m2, e1, c1, ix_up_ne, ix_up_k, ve_1, ve_2, ve_3, ve_4, ve_5]
      refine hQ _ _ ?_
      simp (decide := true) only [e_X11_minutes_0, e_X11_minutes_1, e_X11_minutes_2, e_X11_minutes_4, e_X11_minutes_7, e_X11_minutes_10, e_X11_minutes_11, e_X11_minutes_13, e_X11_minutes_16, e_X11_minutes_17, e_X11_minutes_18, e_X11_minutes_21, e_X11_minutes_22, e_X11_minutes_23, e_X11_minutes_24, e_X11_minutes_25, e_X11_minutes_28, e_X11_minutes_31, e_X11_minutes_32, e_X11_minutes_34, e_X11_minutes_37, e_X11_minutes_40, e_X11_minutes_41, e_X11_minutes_42, e_X11_minutes_45, vi, vl, vr, oc_X11_finding, T_X11_finding, oc_X11_minutesGo, T_X11_minutesGo, oc_X11_within, T_X11_within, ix_push, ix_iload, ix_lload, ix_aload, ix_istore, ix_astore, ix_iinc, ix_bin, ix_div, ix_un, ix_i2l, ix_l2i, ix_lbin, ix_lsh, ix_lcmp, ix_dup, ix_dup2, ix_pop, ix_if, ix_cmp, ix_goto, ix_switch, ix_sw, ix_iret, ix_zret, ix_vret, ix_aret, ix_geti, ix_getr, ix_puti, ix_putz, ix_puts, ix_gets, ix_iald, ix_iast, ix_alen, ix_aald, ix_gval, ix_gcod, ix_bald, ix_blen, ix_sald, ix_nret, ix_math2, ix_math1, ix_acopy, ml_113, ml_114, ml_115, ml_116, ml_118, ml_119, ml_120, ml_121, ml_122, ml_123, ml_124, ml_125, ml_126, mv_0, mv_1, mv_2, mv_3, mv_4, mv_5, mB_or, Nat.add_assoc, Int32.reduceLT, Int32.reduceLE, Int32.reduceToNatClampNeg, Int32.reduceSub, Int32.reduceAdd, Nat.reduceAdd, Nat.reduceLeDiff, true_or, or_true, or_false, false_or, not_false_eq_true, not_true_eq_false, false_implies, true_implies, implies_true, and_self, mB_0, mB_01, Classical.not_not, Nat.zero_le, List.getElem?_cons_zero, List.getElem?_cons_succ, List.set_cons_zero, List.set_cons_succ, ix_nl, ix_cs, true_and, and_true, Option.toList_some, Option.toList_none, List.cons_append, List.nil_append, h1, h2, h, m1, m2, e1, c1, ix_up_ne, ix_up_k, ve_1, ve_2, ve_3, ve_4, ve_5]
      repeat' (first | exact I.er 3 (by decide) | refine ⟨fun _ => ?_, fun _ => ?_⟩)
    · have c1 : nI (M + K) ≤ 9999 := nI_le (a := M + K) (b := 9999) (by omega) (by decide)
      simp (decide := true) only [e_X10_minutes_0, e_X10_minutes_1, e_X10_minutes_2, e_X10_minutes_5, e_X10_minutes_6, e_X10_minutes_8, e_X10_minutes_11, e_X10_minutes_12, e_X10_minutes_13, e_X10_minutes_16, e_X10_minutes_17, e_X10_minutes_18, e_X10_minutes_21, e_X10_minutes_24, e_X10_minutes_27, e_X10_minutes_28, e_X10_minutes_29, e_X10_minutes_32, e_X10_minutes_35, e_X10_minutes_36, e_X10_minutes_37, e_X10_minutes_40, e_X10_minutes_41, e_X10_minutes_42, e_X10_minutes_43, e_X10_minutes_46, e_X10_minutes_49, e_X10_minutes_50, e_X10_minutes_53, vi, vl, vr, oc_X10_error, T_X10_error, oc_X10_hadBehind, T_X10_hadBehind, ix_push, ix_iload, ix_lload, ix_aload, ix_istore, ix_astore, ix_iinc, ix_bin, ix_div, ix_un, ix_i2l, ix_l2i, ix_lbin, ix_lsh, ix_lcmp, ix_dup, ix_dup2, ix_pop, ix_if, ix_cmp, ix_goto, ix_switch, ix_sw, ix_iret, ix_zret, ix_vret, ix_aret, ix_geti, ix_getr, ix_puti, ix_putz, ix_puts, ix_gets, ix_iald, ix_iast, ix_alen, ix_aald, ix_gval, ix_gcod, ix_bald, ix_blen, ix_sald, ix_nret, ix_math2, ix_math1, ix_acopy, Nat.add_assoc, Int32.reduceLT, Int32.reduceLE, Int32.reduceToNatClampNeg, Int32.reduceSub, Int32.reduceAdd, Nat.reduceAdd, Nat.reduceLeDiff, true_or, or_true, or_false, false_or, not_false_eq_true, not_true_eq_false, false_implies, true_implies, implies_true, and_self, mB_0, mB_01, Classical.not_not, Nat.zero_le, List.getElem?_cons_zero, List.getElem?_cons_succ, List.set_cons_zero, List.set_cons_succ, ix_nl, ix_cs, true_and, and_true, Option.toList_some, Option.toList_none, List.cons_append, List.nil_append, h1, h2, h, m1, m2, e1, c1, ix_up_ne, ix_up_k, ve_1, ve_2, ve_3, ve_4, ve_5]
      refine ⟨M, K, ds, dl, ?_, rfl, by omega, hL, fun μ1 F1 V1 => hQ _ _ ?_⟩
      · rw [show wv μ 2 = nv (μ 113) from I.1.1.1]
        exact hR.1
      · have e : μ1 113 = μ 113 := F1 113 (by decide)
        have m3 : μ1 113 0 = nI M := by rw [e]; exact m2
        simp (decide := true) only [e_X11_minutes_0, e_X11_minutes_1, e_X11_minutes_2, e_X11_minutes_4, e_X11_minutes_7, e_X11_minutes_10, e_X11_minutes_11, e_X11_minutes_13, e_X11_minutes_16, e_X11_minutes_17, e_X11_minutes_18, e_X11_minutes_21, e_X11_minutes_22, e_X11_minutes_23, e_X11_minutes_24, e_X11_minutes_25, e_X11_minutes_28, e_X11_minutes_31, e_X11_minutes_32, e_X11_minutes_34, e_X11_minutes_37, e_X11_minutes_40, e_X11_minutes_41, e_X11_minutes_42, e_X11_minutes_45, vi, vl, vr, oc_X11_finding, T_X11_finding, oc_X11_minutesGo, T_X11_minutesGo, oc_X11_within, T_X11_within, ix_push, ix_iload, ix_lload, ix_aload, ix_istore, ix_astore, ix_iinc, ix_bin, ix_div, ix_un, ix_i2l, ix_l2i, ix_lbin, ix_lsh, ix_lcmp, ix_dup, ix_dup2, ix_pop, ix_if, ix_cmp, ix_goto, ix_switch, ix_sw, ix_iret, ix_zret, ix_vret, ix_aret, ix_geti, ix_getr, ix_puti, ix_putz, ix_puts, ix_gets, ix_iald, ix_iast, ix_alen, ix_aald, ix_gval, ix_gcod, ix_bald, ix_blen, ix_sald, ix_nret, ix_math2, ix_math1, ix_acopy, ml_113, ml_114, ml_115, ml_116, ml_118, ml_119, ml_120, ml_121, ml_122, ml_123, ml_124, ml_125, ml_126, mv_0, mv_1, mv_2, mv_3, mv_4, mv_5, mB_or, Nat.add_assoc, Int32.reduceLT, Int32.reduceLE, Int32.reduceToNatClampNeg, Int32.reduceSub, Int32.reduceAdd, Nat.reduceAdd, Nat.reduceLeDiff, true_or, or_true, or_false, false_or, not_false_eq_true, not_true_eq_false, false_implies, true_implies, implies_true, and_self, mB_0, mB_01, Classical.not_not, Nat.zero_le, List.getElem?_cons_zero, List.getElem?_cons_succ, List.set_cons_zero, List.set_cons_succ, ix_nl, ix_cs, true_and, and_true, Option.toList_some, Option.toList_none, List.cons_append, List.nil_append, h, m3, e1, c1, ix_up_ne, ix_up_k, ve_1, ve_2, ve_3, ve_4, ve_5]
        refine ⟨M, K, ds, dl, mwOf (by rw [e]; exact hR) (by rw [e]; exact x1) (by rw [e]; exact x2), rfl, by omega, by rw [F1 112 (by decide)]; exact I.2.2.2.2.2.2.1, fun μ2 F2 V2 R2 => pst ?_ ?_⟩
        · rw [e, show wv μ 2 = nv (μ 113) from I.1.1.1]
        · refine I.wat (L := [2, 4, 8, 9, 14, 18, 113, 119, 120]) ?_ (fun a ha => ?_) ?_ (M := M + K) (by omega) ?_ (fun j hj _ => by rw [R2 j hj, e])
          · exact Fx.tr (F1.mono (by decide)) (F2.mono (by decide))
          · simp only [List.mem_cons, List.not_mem_nil, or_false] at ha
            rcases ha with rfl | rfl | rfl | rfl | rfl | rfl | rfl | rfl | rfl <;> first | exact Or.inl rfl | exact Or.inr (Or.inl ⟨by decide, by decide⟩) | exact Or.inr (Or.inr rfl)
          · rw [V2, e, ← show wv μ 2 = nv (μ 113) from I.1.1.1, ← V1]
            exact wv_fx (fun r hr => F2 _ (by simp; omega))
          · rw [V2, e]
            exact wr_it hR ds dl K
  · by_cases c : n < 1
    · simp (decide := true) only [e_X10_minutes_0, e_X10_minutes_1, e_X10_minutes_2, e_X10_minutes_5, e_X10_minutes_6, e_X10_minutes_8, e_X10_minutes_11, e_X10_minutes_12, e_X10_minutes_13, e_X10_minutes_16, e_X10_minutes_17, e_X10_minutes_18, e_X10_minutes_21, e_X10_minutes_24, e_X10_minutes_27, e_X10_minutes_28, e_X10_minutes_29, e_X10_minutes_32, e_X10_minutes_35, e_X10_minutes_36, e_X10_minutes_37, e_X10_minutes_40, e_X10_minutes_41, e_X10_minutes_42, e_X10_minutes_43, e_X10_minutes_46, e_X10_minutes_49, e_X10_minutes_50, e_X10_minutes_53, vi, vl, vr, oc_X10_error, T_X10_error, oc_X10_hadBehind, T_X10_hadBehind, ix_push, ix_iload, ix_lload, ix_aload, ix_istore, ix_astore, ix_iinc, ix_bin, ix_div, ix_un, ix_i2l, ix_l2i, ix_lbin, ix_lsh, ix_lcmp, ix_dup, ix_dup2, ix_pop, ix_if, ix_cmp, ix_goto, ix_switch, ix_sw, ix_iret, ix_zret, ix_vret, ix_aret, ix_geti, ix_getr, ix_puti, ix_putz, ix_puts, ix_gets, ix_iald, ix_iast, ix_alen, ix_aald, ix_gval, ix_gcod, ix_bald, ix_blen, ix_sald, ix_nret, ix_math2, ix_math1, ix_acopy, Nat.add_assoc, Int32.reduceLT, Int32.reduceLE, Int32.reduceToNatClampNeg, Int32.reduceSub, Int32.reduceAdd, Nat.reduceAdd, Nat.reduceLeDiff, true_or, or_true, or_false, false_or, not_false_eq_true, not_true_eq_false, false_implies, true_implies, implies_true, and_self, mB_0, mB_01, Classical.not_not, Nat.zero_le, List.getElem?_cons_zero, List.getElem?_cons_succ, List.set_cons_zero, List.set_cons_succ, ix_nl, ix_cs, true_and, and_true, Option.toList_some, Option.toList_none, List.cons_append, List.nil_append, c, ix_up_ne, ix_up_k, ve_1, ve_2, ve_3, ve_4, ve_5]
      refine hQ _ _ ?_
      simp (decide := true) only [e_X11_minutes_0, e_X11_minutes_1, e_X11_minutes_2, e_X11_minutes_4, e_X11_minutes_7, e_X11_minutes_10, e_X11_minutes_11, e_X11_minutes_13, e_X11_minutes_16, e_X11_minutes_17, e_X11_minutes_18, e_X11_minutes_21, e_X11_minutes_22, e_X11_minutes_23, e_X11_minutes_24, e_X11_minutes_25, e_X11_minutes_28, e_X11_minutes_31, e_X11_minutes_32, e_X11_minutes_34, e_X11_minutes_37, e_X11_minutes_40, e_X11_minutes_41, e_X11_minutes_42, e_X11_minutes_45, vi, vl, vr, oc_X11_finding, T_X11_finding, oc_X11_minutesGo, T_X11_minutesGo, oc_X11_within, T_X11_within, ix_push, ix_iload, ix_lload, ix_aload, ix_istore, ix_astore, ix_iinc, ix_bin, ix_div, ix_un, ix_i2l, ix_l2i, ix_lbin, ix_lsh, ix_lcmp, ix_dup, ix_dup2, ix_pop, ix_if, ix_cmp, ix_goto, ix_switch, ix_sw, ix_iret, ix_zret, ix_vret, ix_aret, ix_geti, ix_getr, ix_puti, ix_putz, ix_puts, ix_gets, ix_iald, ix_iast, ix_alen, ix_aald, ix_gval, ix_gcod, ix_bald, ix_blen, ix_sald, ix_nret, ix_math2, ix_math1, ix_acopy, ml_113, ml_114, ml_115, ml_116, ml_118, ml_119, ml_120, ml_121, ml_122, ml_123, ml_124, ml_125, ml_126, mv_0, mv_1, mv_2, mv_3, mv_4, mv_5, mB_or, Nat.add_assoc, Int32.reduceLT, Int32.reduceLE, Int32.reduceToNatClampNeg, Int32.reduceSub, Int32.reduceAdd, Nat.reduceAdd, Nat.reduceLeDiff, true_or, or_true, or_false, false_or, not_false_eq_true, not_true_eq_false, false_implies, true_implies, implies_true, and_self, mB_0, mB_01, Classical.not_not, Nat.zero_le, List.getElem?_cons_zero, List.getElem?_cons_succ, List.set_cons_zero, List.set_cons_succ, ix_nl, ix_cs, true_and, and_true, Option.toList_some, Option.toList_none, List.cons_append, List.nil_append, h, ix_up_ne, ix_up_k, ve_1, ve_2, ve_3, ve_4, ve_5]
      exact I.er 1 (by decide)
    · have c2 : ¬ n ≤ 60 := fun z => h ⟨Int32.not_lt.mp c, z⟩
      simp (decide := true) only [e_X10_minutes_0, e_X10_minutes_1, e_X10_minutes_2, e_X10_minutes_5, e_X10_minutes_6, e_X10_minutes_8, e_X10_minutes_11, e_X10_minutes_12, e_X10_minutes_13, e_X10_minutes_16, e_X10_minutes_17, e_X10_minutes_18, e_X10_minutes_21, e_X10_minutes_24, e_X10_minutes_27, e_X10_minutes_28, e_X10_minutes_29, e_X10_minutes_32, e_X10_minutes_35, e_X10_minutes_36, e_X10_minutes_37, e_X10_minutes_40, e_X10_minutes_41, e_X10_minutes_42, e_X10_minutes_43, e_X10_minutes_46, e_X10_minutes_49, e_X10_minutes_50, e_X10_minutes_53, vi, vl, vr, oc_X10_error, T_X10_error, oc_X10_hadBehind, T_X10_hadBehind, ix_push, ix_iload, ix_lload, ix_aload, ix_istore, ix_astore, ix_iinc, ix_bin, ix_div, ix_un, ix_i2l, ix_l2i, ix_lbin, ix_lsh, ix_lcmp, ix_dup, ix_dup2, ix_pop, ix_if, ix_cmp, ix_goto, ix_switch, ix_sw, ix_iret, ix_zret, ix_vret, ix_aret, ix_geti, ix_getr, ix_puti, ix_putz, ix_puts, ix_gets, ix_iald, ix_iast, ix_alen, ix_aald, ix_gval, ix_gcod, ix_bald, ix_blen, ix_sald, ix_nret, ix_math2, ix_math1, ix_acopy, Nat.add_assoc, Int32.reduceLT, Int32.reduceLE, Int32.reduceToNatClampNeg, Int32.reduceSub, Int32.reduceAdd, Nat.reduceAdd, Nat.reduceLeDiff, true_or, or_true, or_false, false_or, not_false_eq_true, not_true_eq_false, false_implies, true_implies, implies_true, and_self, mB_0, mB_01, Classical.not_not, Nat.zero_le, List.getElem?_cons_zero, List.getElem?_cons_succ, List.set_cons_zero, List.set_cons_succ, ix_nl, ix_cs, true_and, and_true, Option.toList_some, Option.toList_none, List.cons_append, List.nil_append, c, c2, ix_up_ne, ix_up_k, ve_1, ve_2, ve_3, ve_4, ve_5]
      refine hQ _ _ ?_
      simp (decide := true) only [e_X11_minutes_0, e_X11_minutes_1, e_X11_minutes_2, e_X11_minutes_4, e_X11_minutes_7, e_X11_minutes_10, e_X11_minutes_11, e_X11_minutes_13, e_X11_minutes_16, e_X11_minutes_17, e_X11_minutes_18, e_X11_minutes_21, e_X11_minutes_22, e_X11_minutes_23, e_X11_minutes_24, e_X11_minutes_25, e_X11_minutes_28, e_X11_minutes_31, e_X11_minutes_32, e_X11_minutes_34, e_X11_minutes_37, e_X11_minutes_40, e_X11_minutes_41, e_X11_minutes_42, e_X11_minutes_45, vi, vl, vr, oc_X11_finding, T_X11_finding, oc_X11_minutesGo, T_X11_minutesGo, oc_X11_within, T_X11_within, ix_push, ix_iload, ix_lload, ix_aload, ix_istore, ix_astore, ix_iinc, ix_bin, ix_div, ix_un, ix_i2l, ix_l2i, ix_lbin, ix_lsh, ix_lcmp, ix_dup, ix_dup2, ix_pop, ix_if, ix_cmp, ix_goto, ix_switch, ix_sw, ix_iret, ix_zret, ix_vret, ix_aret, ix_geti, ix_getr, ix_puti, ix_putz, ix_puts, ix_gets, ix_iald, ix_iast, ix_alen, ix_aald, ix_gval, ix_gcod, ix_bald, ix_blen, ix_sald, ix_nret, ix_math2, ix_math1, ix_acopy, ml_113, ml_114, ml_115, ml_116, ml_118, ml_119, ml_120, ml_121, ml_122, ml_123, ml_124, ml_125, ml_126, mv_0, mv_1, mv_2, mv_3, mv_4, mv_5, mB_or, Nat.add_assoc, Int32.reduceLT, Int32.reduceLE, Int32.reduceToNatClampNeg, Int32.reduceSub, Int32.reduceAdd, Nat.reduceAdd, Nat.reduceLeDiff, true_or, or_true, or_false, false_or, not_false_eq_true, not_true_eq_false, false_implies, true_implies, implies_true, and_self, mB_0, mB_01, Classical.not_not, Nat.zero_le, List.getElem?_cons_zero, List.getElem?_cons_succ, List.set_cons_zero, List.set_cons_succ, ix_nl, ix_cs, true_and, and_true, Option.toList_some, Option.toList_none, List.cons_append, List.nil_append, h, ix_up_ne, ix_up_k, ve_1, ve_2, ve_3, ve_4, ve_5]
      exact I.er 1 (by decide)
theorem Inv.hw {μ : ix_M} (I : Inv μ) : wv μ 2 = nv (μ 113) := I.1.1.1
theorem Inv.asd {μ2 μ3 μ4 μ5 : ix_M} (I : Inv μ2) (F3 : Fx [115] μ2 μ3) (h3 : ∀ k, k < 256 → μ3 115 k = μ2 113 k) (F4 : Fx [113, 119, 120] μ3 μ4) (F5 : Fx [113] μ4 μ5) (h5 : ∀ k, k < 256 → μ5 113 k = μ4 115 k) : Inv μ5 := by
  refine I.back (Fx.tr (F3.mono (by decide)) (Fx.tr (F4.mono (by decide)) (F5.mono (by decide)))) (fun k hk => ?_)
  rw [h5 k hk, F4 115 (by decide), h3 k hk]
def o_X10_wayFor : List (Nat × ix_Op) := [
  (0, ix_iload 1 1),
  (1, ix_push (vi 5) 2),
  (2, oc_X10_outside 5),
  (5, ix_if (fun x => x = 0) 8 17),
  (8, ix_iload 2 9),
  (9, ix_push (vi 60) 11),
  (11, oc_X10_outside 14),
  (14, ix_if (fun x => x = 0) 23 17),
  (17, ix_aload 0 18),
  (18, ix_push (vi 1) 19),
  (19, oc_X10_error 22),
  (22, ix_iret),
  (23, ix_aload 0 24),
  (24, ix_push (vi 0) 25),
  (25, ix_iload 1 26),
  (26, ix_push (vi 5) 27),
  (27, ix_iload 2 28),
  (28, oc_X10_bestOf 31),
  (31, ix_iret)]
set_option maxRecDepth 20000 in
theorem a_X10_wayFor (l : Launch) : ix_AllS l cX10_wayFor 3 RX10 60 (some .int) o_X10_wayFor :=
  .cons (ix_s_iload_n dX10_wayFor_0 rfl) <|
  .cons (ix_s_iconst dX10_wayFor_1 (by decide +kernel)) <|
  .cons (oc_X10_outside_s (ix_s_calls (k_X10_outside l) (by decide) (by decide) tw_291 tw_1 tw_289 tw_290 ⟨by decide, by decide, by decide +kernel⟩ (fun _ => rfl) dX10_wayFor_2)) <|
  .cons (ix_s_if_ne dX10_wayFor_5 (by decide)) <|
  .cons (ix_s_iload_n dX10_wayFor_8 rfl) <|
  .cons (ix_s_bipush dX10_wayFor_9 (by decide +kernel)) <|
  .cons (oc_X10_outside_s (ix_s_calls (k_X10_outside l) (by decide) (by decide) tw_291 tw_1 tw_289 tw_290 ⟨by decide, by decide, by decide +kernel⟩ (fun _ => rfl) dX10_wayFor_11)) <|
  .cons (ix_s_if_eq dX10_wayFor_14 (by decide)) <|
  .cons (ix_s_aload_n dX10_wayFor_17 rfl) <|
  .cons (ix_s_iconst dX10_wayFor_18 (by decide +kernel)) <|
  .cons (oc_X10_error_s (ix_s_callv (t := 9) (k_X10_error l) (by decide) (by decide) tw_295 tw_1 tw_292 tw_294 tp_0 ⟨by decide, by decide, by decide +kernel⟩ (by decide) rfl rfl (fun _ => ⟨_, _, rfl, rfl⟩) dX10_wayFor_19)) <|
  .cons (ix_s_iret dX10_wayFor_22 rfl) <|
  .cons (ix_s_aload_n dX10_wayFor_23 rfl) <|
  .cons (ix_s_iconst dX10_wayFor_24 (by decide +kernel)) <|
  .cons (ix_s_iload_n dX10_wayFor_25 rfl) <|
  .cons (ix_s_iconst dX10_wayFor_26 (by decide +kernel)) <|
  .cons (ix_s_iload_n dX10_wayFor_27 rfl) <|
  .cons (oc_X10_bestOf_s (ix_s_callv (t := 9) (k_X10_bestOf l) (by decide) (by decide) tw_663 tw_1 tw_660 tw_662 tp_9 ⟨by decide, by decide, by decide +kernel⟩ (by decide) rfl rfl (fun _ => ⟨_, _, rfl, rfl⟩) dX10_wayFor_28)) <|
  .cons (ix_s_iret dX10_wayFor_31 rfl) <| .nil
theorem e_X10_wayFor_0 (Q : ix_R → Prop) (ls : ix_L) (st : List ix_V) (μ : ix_M) : ix_Ev o_X10_wayFor Q (0, ls, st, μ) = ix_iload 1 1 (ix_Ev o_X10_wayFor Q) Q ls st μ := ix_Ev.eq (a_X10_wayFor launch0) rfl ls st μ
theorem e_X10_wayFor_1 (Q : ix_R → Prop) (ls : ix_L) (st : List ix_V) (μ : ix_M) : ix_Ev o_X10_wayFor Q (1, ls, st, μ) = ix_push (vi 5) 2 (ix_Ev o_X10_wayFor Q) Q ls st μ := ix_Ev.eq (a_X10_wayFor launch0) rfl ls st μ
theorem e_X10_wayFor_2 (Q : ix_R → Prop) (ls : ix_L) (st : List ix_V) (μ : ix_M) : ix_Ev o_X10_wayFor Q (2, ls, st, μ) = oc_X10_outside 5 (ix_Ev o_X10_wayFor Q) Q ls st μ := ix_Ev.eq (a_X10_wayFor launch0) rfl ls st μ
theorem e_X10_wayFor_5 (Q : ix_R → Prop) (ls : ix_L) (st : List ix_V) (μ : ix_M) : ix_Ev o_X10_wayFor Q (5, ls, st, μ) = ix_if (fun x => x = 0) 8 17 (ix_Ev o_X10_wayFor Q) Q ls st μ := ix_Ev.eq (a_X10_wayFor launch0) rfl ls st μ
theorem e_X10_wayFor_8 (Q : ix_R → Prop) (ls : ix_L) (st : List ix_V) (μ : ix_M) : ix_Ev o_X10_wayFor Q (8, ls, st, μ) = ix_iload 2 9 (ix_Ev o_X10_wayFor Q) Q ls st μ := ix_Ev.eq (a_X10_wayFor launch0) rfl ls st μ
theorem e_X10_wayFor_9 (Q : ix_R → Prop) (ls : ix_L) (st : List ix_V) (μ : ix_M) : ix_Ev o_X10_wayFor Q (9, ls, st, μ) = ix_push (vi 60) 11 (ix_Ev o_X10_wayFor Q) Q ls st μ := ix_Ev.eq (a_X10_wayFor launch0) rfl ls st μ
theorem e_X10_wayFor_11 (Q : ix_R → Prop) (ls : ix_L) (st : List ix_V) (μ : ix_M) : ix_Ev o_X10_wayFor Q (11, ls, st, μ) = oc_X10_outside 14 (ix_Ev o_X10_wayFor Q) Q ls st μ := ix_Ev.eq (a_X10_wayFor launch0) rfl ls st μ
theorem e_X10_wayFor_14 (Q : ix_R → Prop) (ls : ix_L) (st : List ix_V) (μ : ix_M) : ix_Ev o_X10_wayFor Q (14, ls, st, μ) = ix_if (fun x => x = 0) 23 17 (ix_Ev o_X10_wayFor Q) Q ls st μ := ix_Ev.eq (a_X10_wayFor launch0) rfl ls st μ
theorem e_X10_wayFor_17 (Q : ix_R → Prop) (ls : ix_L) (st : List ix_V) (μ : ix_M) : ix_Ev o_X10_wayFor Q (17, ls, st, μ) = ix_aload 0 18 (ix_Ev o_X10_wayFor Q) Q ls st μ := ix_Ev.eq (a_X10_wayFor launch0) rfl ls st μ
theorem e_X10_wayFor_18 (Q : ix_R → Prop) (ls : ix_L) (st : List ix_V) (μ : ix_M) : ix_Ev o_X10_wayFor Q (18, ls, st, μ) = ix_push (vi 1) 19 (ix_Ev o_X10_wayFor Q) Q ls st μ := ix_Ev.eq (a_X10_wayFor launch0) rfl ls st μ
theorem e_X10_wayFor_19 (Q : ix_R → Prop) (ls : ix_L) (st : List ix_V) (μ : ix_M) : ix_Ev o_X10_wayFor Q (19, ls, st, μ) = oc_X10_error 22 (ix_Ev o_X10_wayFor Q) Q ls st μ := ix_Ev.eq (a_X10_wayFor launch0) rfl ls st μ
theorem e_X10_wayFor_22 (Q : ix_R → Prop) (ls : ix_L) (st : List ix_V) (μ : ix_M) : ix_Ev o_X10_wayFor Q (22, ls, st, μ) = ix_iret (ix_Ev o_X10_wayFor Q) Q ls st μ := ix_Ev.eq (a_X10_wayFor launch0) rfl ls st μ
theorem e_X10_wayFor_23 (Q : ix_R → Prop) (ls : ix_L) (st : List ix_V) (μ : ix_M) : ix_Ev o_X10_wayFor Q (23, ls, st, μ) = ix_aload 0 24 (ix_Ev o_X10_wayFor Q) Q ls st μ := ix_Ev.eq (a_X10_wayFor launch0) rfl ls st μ
theorem e_X10_wayFor_24 (Q : ix_R → Prop) (ls : ix_L) (st : List ix_V) (μ : ix_M) : ix_Ev o_X10_wayFor Q (24, ls, st, μ) = ix_push (vi 0) 25 (ix_Ev o_X10_wayFor Q) Q ls st μ := ix_Ev.eq (a_X10_wayFor launch0) rfl ls st μ
theorem e_X10_wayFor_25 (Q : ix_R → Prop) (ls : ix_L) (st : List ix_V) (μ : ix_M) : ix_Ev o_X10_wayFor Q (25, ls, st, μ) = ix_iload 1 26 (ix_Ev o_X10_wayFor Q) Q ls st μ := ix_Ev.eq (a_X10_wayFor launch0) rfl ls st μ
theorem e_X10_wayFor_26 (Q : ix_R → Prop) (ls : ix_L) (st : List ix_V) (μ : ix_M) : ix_Ev o_X10_wayFor Q (26, ls, st, μ) = ix_push (vi 5) 27 (ix_Ev o_X10_wayFor Q) Q ls st μ := ix_Ev.eq (a_X10_wayFor launch0) rfl ls st μ
theorem e_X10_wayFor_27 (Q : ix_R → Prop) (ls : ix_L) (st : List ix_V) (μ : ix_M) : ix_Ev o_X10_wayFor Q (27, ls, st, μ) = ix_iload 2 28 (ix_Ev o_X10_wayFor Q) Q ls st μ := ix_Ev.eq (a_X10_wayFor launch0) rfl ls st μ
theorem e_X10_wayFor_28 (Q : ix_R → Prop) (ls : ix_L) (st : List ix_V) (μ : ix_M) : ix_Ev o_X10_wayFor Q (28, ls, st, μ) = oc_X10_bestOf 31 (ix_Ev o_X10_wayFor Q) Q ls st μ := ix_Ev.eq (a_X10_wayFor launch0) rfl ls st μ
theorem e_X10_wayFor_31 (Q : ix_R → Prop) (ls : ix_L) (st : List ix_V) (μ : ix_M) : ix_Ev o_X10_wayFor Q (31, ls, st, μ) = ix_iret (ix_Ev o_X10_wayFor Q) Q ls st μ := ix_Ev.eq (a_X10_wayFor launch0) rfl ls st μ
def o_X11_wayFor : List (Nat × ix_Op) := [
  (0, ix_iload 1 1),
  (1, oc_X11_isPlace 4),
  (4, ix_if (fun x => x = 0) 27 7),
  (7, ix_iload 2 8),
  (8, oc_X11_isBehind 11),
  (11, ix_if (fun x => x = 0) 27 14),
  (14, ix_aload 0 15),
  (15, ix_push (vi 6) 17),
  (17, ix_iload 1 18),
  (18, ix_bin (fun x y => x + y) 19),
  (19, ix_push (vi 5) 20),
  (20, ix_iload 2 21),
  (21, oc_X11_mostBy 24),
  (24, ix_goto 33),
  (27, ix_aload 0 28),
  (28, ix_push (vi (-1000000001)) 30),
  (30, oc_X11_finding 33),
  (33, ix_iret)]
set_option maxRecDepth 20000 in
theorem a_X11_wayFor (l : Launch) : ix_AllS l cX11_wayFor 3 RX11 60 (some .int) o_X11_wayFor :=
  .cons (ix_s_iload_n dX11_wayFor_0 rfl) <|
  .cons (oc_X11_isPlace_s (ix_s_calls (k_X11_isPlace l) (by decide) (by decide) tw_1097 tw_12 tw_1095 tw_1096 ⟨by decide, by decide, by decide +kernel⟩ (fun _ => rfl) dX11_wayFor_1)) <|
  .cons (ix_s_if_eq dX11_wayFor_4 (by decide)) <|
  .cons (ix_s_iload_n dX11_wayFor_7 rfl) <|
  .cons (oc_X11_isBehind_s (ix_s_calls (k_X11_isBehind l) (by decide) (by decide) tw_1218 tw_12 tw_1216 tw_1217 ⟨by decide, by decide, by decide +kernel⟩ (fun _ => rfl) dX11_wayFor_8)) <|
  .cons (ix_s_if_eq dX11_wayFor_11 (by decide)) <|
  .cons (ix_s_aload_n dX11_wayFor_14 rfl) <|
  .cons (ix_s_bipush dX11_wayFor_15 (by decide +kernel)) <|
  .cons (ix_s_iload_n dX11_wayFor_17 rfl) <|
  .cons (ix_s_iadd dX11_wayFor_18) <|
  .cons (ix_s_iconst dX11_wayFor_19 (by decide +kernel)) <|
  .cons (ix_s_iload_n dX11_wayFor_20 rfl) <|
  .cons (oc_X11_mostBy_s (ix_s_callv (t := 10) (k_X11_mostBy l) (by decide) (by decide) tw_1246 tw_12 tw_1243 tw_1245 tp_51 ⟨by decide, by decide, by decide +kernel⟩ (by decide) rfl rfl (fun _ => ⟨_, _, rfl, rfl⟩) dX11_wayFor_21)) <|
  .cons (ix_s_goto dX11_wayFor_24 (by decide)) <|
  .cons (ix_s_aload_n dX11_wayFor_27 rfl) <|
  .cons (ix_s_ldc tw_961 dX11_wayFor_28) <|
  .cons (oc_X11_finding_s (ix_s_callv (t := 10) (k_X11_finding l) (by decide) (by decide) tw_965 tw_12 tw_962 tw_964 tp_18 ⟨by decide, by decide, by decide +kernel⟩ (by decide) rfl rfl (fun _ => ⟨_, _, rfl, rfl⟩) dX11_wayFor_30)) <|
  .cons (ix_s_iret dX11_wayFor_33 rfl) <| .nil
theorem e_X11_wayFor_0 (Q : ix_R → Prop) (ls : ix_L) (st : List ix_V) (μ : ix_M) : ix_Ev o_X11_wayFor Q (0, ls, st, μ) = ix_iload 1 1 (ix_Ev o_X11_wayFor Q) Q ls st μ := ix_Ev.eq (a_X11_wayFor launch0) rfl ls st μ
theorem e_X11_wayFor_1 (Q : ix_R → Prop) (ls : ix_L) (st : List ix_V) (μ : ix_M) : ix_Ev o_X11_wayFor Q (1, ls, st, μ) = oc_X11_isPlace 4 (ix_Ev o_X11_wayFor Q) Q ls st μ := ix_Ev.eq (a_X11_wayFor launch0) rfl ls st μ
theorem e_X11_wayFor_4 (Q : ix_R → Prop) (ls : ix_L) (st : List ix_V) (μ : ix_M) : ix_Ev o_X11_wayFor Q (4, ls, st, μ) = ix_if (fun x => x = 0) 27 7 (ix_Ev o_X11_wayFor Q) Q ls st μ := ix_Ev.eq (a_X11_wayFor launch0) rfl ls st μ
theorem e_X11_wayFor_7 (Q : ix_R → Prop) (ls : ix_L) (st : List ix_V) (μ : ix_M) : ix_Ev o_X11_wayFor Q (7, ls, st, μ) = ix_iload 2 8 (ix_Ev o_X11_wayFor Q) Q ls st μ := ix_Ev.eq (a_X11_wayFor launch0) rfl ls st μ
theorem e_X11_wayFor_8 (Q : ix_R → Prop) (ls : ix_L) (st : List ix_V) (μ : ix_M) : ix_Ev o_X11_wayFor Q (8, ls, st, μ) = oc_X11_isBehind 11 (ix_Ev o_X11_wayFor Q) Q ls st μ := ix_Ev.eq (a_X11_wayFor launch0) rfl ls st μ
theorem e_X11_wayFor_11 (Q : ix_R → Prop) (ls : ix_L) (st : List ix_V) (μ : ix_M) : ix_Ev o_X11_wayFor Q (11, ls, st, μ) = ix_if (fun x => x = 0) 27 14 (ix_Ev o_X11_wayFor Q) Q ls st μ := ix_Ev.eq (a_X11_wayFor launch0) rfl ls st μ
theorem e_X11_wayFor_14 (Q : ix_R → Prop) (ls : ix_L) (st : List ix_V) (μ : ix_M) : ix_Ev o_X11_wayFor Q (14, ls, st, μ) = ix_aload 0 15 (ix_Ev o_X11_wayFor Q) Q ls st μ := ix_Ev.eq (a_X11_wayFor launch0) rfl ls st μ
theorem e_X11_wayFor_15 (Q : ix_R → Prop) (ls : ix_L) (st : List ix_V) (μ : ix_M) : ix_Ev o_X11_wayFor Q (15, ls, st, μ) = ix_push (vi 6) 17 (ix_Ev o_X11_wayFor Q) Q ls st μ := ix_Ev.eq (a_X11_wayFor launch0) rfl ls st μ
theorem e_X11_wayFor_17 (Q : ix_R → Prop) (ls : ix_L) (st : List ix_V) (μ : ix_M) : ix_Ev o_X11_wayFor Q (17, ls, st, μ) = ix_iload 1 18 (ix_Ev o_X11_wayFor Q) Q ls st μ := ix_Ev.eq (a_X11_wayFor launch0) rfl ls st μ
theorem e_X11_wayFor_18 (Q : ix_R → Prop) (ls : ix_L) (st : List ix_V) (μ : ix_M) : ix_Ev o_X11_wayFor Q (18, ls, st, μ) = ix_bin (fun x y => x + y) 19 (ix_Ev o_X11_wayFor Q) Q ls st μ := ix_Ev.eq (a_X11_wayFor launch0) rfl ls st μ
theorem e_X11_wayFor_19 (Q : ix_R → Prop) (ls : ix_L) (st : List ix_V) (μ : ix_M) : ix_Ev o_X11_wayFor Q (19, ls, st, μ) = ix_push (vi 5) 20 (ix_Ev o_X11_wayFor Q) Q ls st μ := ix_Ev.eq (a_X11_wayFor launch0) rfl ls st μ
theorem e_X11_wayFor_20 (Q : ix_R → Prop) (ls : ix_L) (st : List ix_V) (μ : ix_M) : ix_Ev o_X11_wayFor Q (20, ls, st, μ) = ix_iload 2 21 (ix_Ev o_X11_wayFor Q) Q ls st μ := ix_Ev.eq (a_X11_wayFor launch0) rfl ls st μ
theorem e_X11_wayFor_21 (Q : ix_R → Prop) (ls : ix_L) (st : List ix_V) (μ : ix_M) : ix_Ev o_X11_wayFor Q (21, ls, st, μ) = oc_X11_mostBy 24 (ix_Ev o_X11_wayFor Q) Q ls st μ := ix_Ev.eq (a_X11_wayFor launch0) rfl ls st μ
theorem e_X11_wayFor_24 (Q : ix_R → Prop) (ls : ix_L) (st : List ix_V) (μ : ix_M) : ix_Ev o_X11_wayFor Q (24, ls, st, μ) = ix_goto 33 (ix_Ev o_X11_wayFor Q) Q ls st μ := ix_Ev.eq (a_X11_wayFor launch0) rfl ls st μ
theorem e_X11_wayFor_27 (Q : ix_R → Prop) (ls : ix_L) (st : List ix_V) (μ : ix_M) : ix_Ev o_X11_wayFor Q (27, ls, st, μ) = ix_aload 0 28 (ix_Ev o_X11_wayFor Q) Q ls st μ := ix_Ev.eq (a_X11_wayFor launch0) rfl ls st μ
theorem e_X11_wayFor_28 (Q : ix_R → Prop) (ls : ix_L) (st : List ix_V) (μ : ix_M) : ix_Ev o_X11_wayFor Q (28, ls, st, μ) = ix_push (vi (-1000000001)) 30 (ix_Ev o_X11_wayFor Q) Q ls st μ := ix_Ev.eq (a_X11_wayFor launch0) rfl ls st μ
theorem e_X11_wayFor_30 (Q : ix_R → Prop) (ls : ix_L) (st : List ix_V) (μ : ix_M) : ix_Ev o_X11_wayFor Q (30, ls, st, μ) = oc_X11_finding 33 (ix_Ev o_X11_wayFor Q) Q ls st μ := ix_Ev.eq (a_X11_wayFor launch0) rfl ls st μ
theorem e_X11_wayFor_33 (Q : ix_R → Prop) (ls : ix_L) (st : List ix_V) (μ : ix_M) : ix_Ev o_X11_wayFor Q (33, ls, st, μ) = ix_iret (ix_Ev o_X11_wayFor Q) Q ls st μ := ix_Ev.eq (a_X11_wayFor launch0) rfl ls st μ
theorem pr_wayFor (p : Int32) (n : Int32) (μ : ix_M) (I : Inv μ) (Q : ix_R → Prop) (hQ : ∀ vv μ', ix_Ev o_X11_wayFor (Pst vv) (0, [some (vr 10 112), some (vi p), some (vi n)], [], μ') → Q (some (vi vv), μ')) : ix_Ev o_X10_wayFor Q (0, [some (vr 9 0), some (vi p), some (vi n)], [], μ) := by
  rcases inR p 5 (by decide) with ⟨P, hP, rfl⟩ | ⟨hx1, hx2⟩
  · obtain ⟨P1, P2, P3, P4⟩ : ¬ nI P < 0 ∧ ¬ (5 : Int32) < nI P ∧ 0 ≤ nI P ∧ nI P ≤ (5 : Int32) := rgN hP (by decide)
    have Pc : (nI P).toNatClampNeg = P := nI_clamp (by omega)
    rcases inR n 60 (by decide) with ⟨K, hK, rfl⟩ | ⟨hx1, hx2⟩
    · obtain ⟨K1, K2, K3, K4⟩ : ¬ nI K < 0 ∧ ¬ (60 : Int32) < nI K ∧ 0 ≤ nI K ∧ nI K ≤ (60 : Int32) := rgN hK (by decide)
      have Kc : (nI K).toNatClampNeg = K := nI_clamp (by omega)
      obtain ⟨M, hM, hR, m1, m2⟩ := I.mi
      obtain ⟨ds, dl, hL, x1, x2⟩ := I.tx
      simp (decide := true) only [e_X10_wayFor_0, e_X10_wayFor_1, e_X10_wayFor_2, e_X10_wayFor_5, e_X10_wayFor_8, e_X10_wayFor_9, e_X10_wayFor_11, e_X10_wayFor_14, e_X10_wayFor_17, e_X10_wayFor_18, e_X10_wayFor_19, e_X10_wayFor_22, e_X10_wayFor_23, e_X10_wayFor_24, e_X10_wayFor_25, e_X10_wayFor_26, e_X10_wayFor_27, e_X10_wayFor_28, e_X10_wayFor_31, vi, vl, vr, oc_X10_bestOf, T_X10_bestOf, oc_X10_error, T_X10_error, oc_X10_outside, T_X10_outside, ix_push, ix_iload, ix_lload, ix_aload, ix_istore, ix_astore, ix_iinc, ix_bin, ix_div, ix_un, ix_i2l, ix_l2i, ix_lbin, ix_lsh, ix_lcmp, ix_dup, ix_dup2, ix_pop, ix_if, ix_cmp, ix_goto, ix_switch, ix_sw, ix_iret, ix_zret, ix_vret, ix_aret, ix_geti, ix_getr, ix_puti, ix_putz, ix_puts, ix_gets, ix_iald, ix_iast, ix_alen, ix_aald, ix_gval, ix_gcod, ix_bald, ix_blen, ix_sald, ix_nret, ix_math2, ix_math1, ix_acopy, Nat.add_assoc, Int32.reduceLT, Int32.reduceLE, Int32.reduceToNatClampNeg, Int32.reduceSub, Int32.reduceAdd, Nat.reduceAdd, Nat.reduceLeDiff, true_or, or_true, or_false, false_or, not_false_eq_true, not_true_eq_false, false_implies, true_implies, implies_true, and_self, mB_0, mB_01, Classical.not_not, Nat.zero_le, List.getElem?_cons_zero, List.getElem?_cons_succ, List.set_cons_zero, List.set_cons_succ, ix_nl, ix_cs, true_and, and_true, Option.toList_some, Option.toList_none, List.cons_append, List.nil_append, P1, P2, P3, P4, Pc, K1, K2, K3, K4, Kc, ix_up_ne, ix_up_k, ve_1, ve_2, ve_3, ve_4, ve_5]
      refine ⟨M, K, 5, ds, dl, by rw [I.hw]; exact hR.1, rfl, by omega, rfl, by decide, hL, ⟨fun _ => vp_in_nI (by omega) (by decide), fun z => absurd z (by decide), fun z => absurd z (by decide), fun z => absurd z (by decide)⟩, fun μ1 F1 => hQ _ _ ?_⟩
      have I1 := I.scr F1 (by decide)
      have e : μ1 113 = μ 113 := F1 113 (by decide)
      have q1 : (6 : Int32) + nI P = nI (6 + P) := nI_add 6 P
      simp (decide := true) only [e_X11_wayFor_0, e_X11_wayFor_1, e_X11_wayFor_4, e_X11_wayFor_7, e_X11_wayFor_8, e_X11_wayFor_11, e_X11_wayFor_14, e_X11_wayFor_15, e_X11_wayFor_17, e_X11_wayFor_18, e_X11_wayFor_19, e_X11_wayFor_20, e_X11_wayFor_21, e_X11_wayFor_24, e_X11_wayFor_27, e_X11_wayFor_28, e_X11_wayFor_30, e_X11_wayFor_33, vi, vl, vr, oc_X11_finding, T_X11_finding, oc_X11_isBehind, T_X11_isBehind, oc_X11_isPlace, T_X11_isPlace, oc_X11_mostBy, T_X11_mostBy, ix_push, ix_iload, ix_lload, ix_aload, ix_istore, ix_astore, ix_iinc, ix_bin, ix_div, ix_un, ix_i2l, ix_l2i, ix_lbin, ix_lsh, ix_lcmp, ix_dup, ix_dup2, ix_pop, ix_if, ix_cmp, ix_goto, ix_switch, ix_sw, ix_iret, ix_zret, ix_vret, ix_aret, ix_geti, ix_getr, ix_puti, ix_putz, ix_puts, ix_gets, ix_iald, ix_iast, ix_alen, ix_aald, ix_gval, ix_gcod, ix_bald, ix_blen, ix_sald, ix_nret, ix_math2, ix_math1, ix_acopy, ml_113, ml_114, ml_115, ml_116, ml_118, ml_119, ml_120, ml_121, ml_122, ml_123, ml_124, ml_125, ml_126, mv_0, mv_1, mv_2, mv_3, mv_4, mv_5, mB_or, Nat.add_assoc, Int32.reduceLT, Int32.reduceLE, Int32.reduceToNatClampNeg, Int32.reduceSub, Int32.reduceAdd, Nat.reduceAdd, Nat.reduceLeDiff, true_or, or_true, or_false, false_or, not_false_eq_true, not_true_eq_false, false_implies, true_implies, implies_true, and_self, mB_0, mB_01, Classical.not_not, Nat.zero_le, List.getElem?_cons_zero, List.getElem?_cons_succ, List.set_cons_zero, List.set_cons_succ, ix_nl, ix_cs, true_and, and_true, Option.toList_some, Option.toList_none, List.cons_append, List.nil_append, P1, P2, P3, P4, Pc, K1, K2, K3, K4, Kc, q1, ix_up_ne, ix_up_k, ve_1, ve_2, ve_3, ve_4, ve_5]
      refine ⟨M, K, 5, 3, P, ds, dl, mwOf (by rw [e]; exact hR) (by rw [e]; exact x1) (by rw [e]; exact x2), ⟨wok_3 (by omega), Or.inl ⟨rfl, by decide⟩⟩, rfl, rfl, by omega, rfl, by decide, I1.2.2.2.2.2.2.1, fun μ2 F2 R2 => pst ?_ (I1.back F2 R2)⟩
      rw [e, I.hw]
      simp only [supR, supI, if_true, Pc]
    · have hx1 : n < 0 ∨ (60 : Int32) < n := hx1
      have hx2 : ¬ (0 ≤ n ∧ n ≤ (60 : Int32)) := hx2
      simp (decide := true) only [e_X10_wayFor_0, e_X10_wayFor_1, e_X10_wayFor_2, e_X10_wayFor_5, e_X10_wayFor_8, e_X10_wayFor_9, e_X10_wayFor_11, e_X10_wayFor_14, e_X10_wayFor_17, e_X10_wayFor_18, e_X10_wayFor_19, e_X10_wayFor_22, e_X10_wayFor_23, e_X10_wayFor_24, e_X10_wayFor_25, e_X10_wayFor_26, e_X10_wayFor_27, e_X10_wayFor_28, e_X10_wayFor_31, vi, vl, vr, oc_X10_bestOf, T_X10_bestOf, oc_X10_error, T_X10_error, oc_X10_outside, T_X10_outside, ix_push, ix_iload, ix_lload, ix_aload, ix_istore, ix_astore, ix_iinc, ix_bin, ix_div, ix_un, ix_i2l, ix_l2i, ix_lbin, ix_lsh, ix_lcmp, ix_dup, ix_dup2, ix_pop, ix_if, ix_cmp, ix_goto, ix_switch, ix_sw, ix_iret, ix_zret, ix_vret, ix_aret, ix_geti, ix_getr, ix_puti, ix_putz, ix_puts, ix_gets, ix_iald, ix_iast, ix_alen, ix_aald, ix_gval, ix_gcod, ix_bald, ix_blen, ix_sald, ix_nret, ix_math2, ix_math1, ix_acopy, Nat.add_assoc, Int32.reduceLT, Int32.reduceLE, Int32.reduceToNatClampNeg, Int32.reduceSub, Int32.reduceAdd, Nat.reduceAdd, Nat.reduceLeDiff, true_or, or_true, or_false, false_or, not_false_eq_true, not_true_eq_false, false_implies, true_implies, implies_true, and_self, mB_0, mB_01, Classical.not_not, Nat.zero_le, List.getElem?_cons_zero, List.getElem?_cons_succ, List.set_cons_zero, List.set_cons_succ, ix_nl, ix_cs, true_and, and_true, Option.toList_some, Option.toList_none, List.cons_append, List.nil_append, P1, P2, P3, P4, Pc, hx1, hx2, ix_up_ne, ix_up_k, ve_1, ve_2, ve_3, ve_4, ve_5]
      refine hQ _ _ ?_
      simp (decide := true) only [e_X11_wayFor_0, e_X11_wayFor_1, e_X11_wayFor_4, e_X11_wayFor_7, e_X11_wayFor_8, e_X11_wayFor_11, e_X11_wayFor_14, e_X11_wayFor_15, e_X11_wayFor_17, e_X11_wayFor_18, e_X11_wayFor_19, e_X11_wayFor_20, e_X11_wayFor_21, e_X11_wayFor_24, e_X11_wayFor_27, e_X11_wayFor_28, e_X11_wayFor_30, e_X11_wayFor_33, vi, vl, vr, oc_X11_finding, T_X11_finding, oc_X11_isBehind, T_X11_isBehind, oc_X11_isPlace, T_X11_isPlace, oc_X11_mostBy, T_X11_mostBy, ix_push, ix_iload, ix_lload, ix_aload, ix_istore, ix_astore, ix_iinc, ix_bin, ix_div, ix_un, ix_i2l, ix_l2i, ix_lbin, ix_lsh, ix_lcmp, ix_dup, ix_dup2, ix_pop, ix_if, ix_cmp, ix_goto, ix_switch, ix_sw, ix_iret, ix_zret, ix_vret, ix_aret, ix_geti, ix_getr, ix_puti, ix_putz, ix_puts, ix_gets, ix_iald, ix_iast, ix_alen, ix_aald, ix_gval, ix_gcod, ix_bald, ix_blen, ix_sald, ix_nret, ix_math2, ix_math1, ix_acopy, ml_113, ml_114, ml_115, ml_116, ml_118, ml_119, ml_120, ml_121, ml_122, ml_123, ml_124, ml_125, ml_126, mv_0, mv_1, mv_2, mv_3, mv_4, mv_5, mB_or, Nat.add_assoc, Int32.reduceLT, Int32.reduceLE, Int32.reduceToNatClampNeg, Int32.reduceSub, Int32.reduceAdd, Nat.reduceAdd, Nat.reduceLeDiff, true_or, or_true, or_false, false_or, not_false_eq_true, not_true_eq_false, false_implies, true_implies, implies_true, and_self, mB_0, mB_01, Classical.not_not, Nat.zero_le, List.getElem?_cons_zero, List.getElem?_cons_succ, List.set_cons_zero, List.set_cons_succ, ix_nl, ix_cs, true_and, and_true, Option.toList_some, Option.toList_none, List.cons_append, List.nil_append, P1, P2, P3, P4, Pc, hx1, hx2, ix_up_ne, ix_up_k, ve_1, ve_2, ve_3, ve_4, ve_5]
      repeat' (first | exact I.er 1 (by decide) | refine ⟨fun _ => ?_, fun _ => ?_⟩)
  · have hx1 : p < 0 ∨ (5 : Int32) < p := hx1
    have hx2 : ¬ (0 ≤ p ∧ p ≤ (5 : Int32)) := hx2
    simp (decide := true) only [e_X10_wayFor_0, e_X10_wayFor_1, e_X10_wayFor_2, e_X10_wayFor_5, e_X10_wayFor_8, e_X10_wayFor_9, e_X10_wayFor_11, e_X10_wayFor_14, e_X10_wayFor_17, e_X10_wayFor_18, e_X10_wayFor_19, e_X10_wayFor_22, e_X10_wayFor_23, e_X10_wayFor_24, e_X10_wayFor_25, e_X10_wayFor_26, e_X10_wayFor_27, e_X10_wayFor_28, e_X10_wayFor_31, vi, vl, vr, oc_X10_bestOf, T_X10_bestOf, oc_X10_error, T_X10_error, oc_X10_outside, T_X10_outside, ix_push, ix_iload, ix_lload, ix_aload, ix_istore, ix_astore, ix_iinc, ix_bin, ix_div, ix_un, ix_i2l, ix_l2i, ix_lbin, ix_lsh, ix_lcmp, ix_dup, ix_dup2, ix_pop, ix_if, ix_cmp, ix_goto, ix_switch, ix_sw, ix_iret, ix_zret, ix_vret, ix_aret, ix_geti, ix_getr, ix_puti, ix_putz, ix_puts, ix_gets, ix_iald, ix_iast, ix_alen, ix_aald, ix_gval, ix_gcod, ix_bald, ix_blen, ix_sald, ix_nret, ix_math2, ix_math1, ix_acopy, Nat.add_assoc, Int32.reduceLT, Int32.reduceLE, Int32.reduceToNatClampNeg, Int32.reduceSub, Int32.reduceAdd, Nat.reduceAdd, Nat.reduceLeDiff, true_or, or_true, or_false, false_or, not_false_eq_true, not_true_eq_false, false_implies, true_implies, implies_true, and_self, mB_0, mB_01, Classical.not_not, Nat.zero_le, List.getElem?_cons_zero, List.getElem?_cons_succ, List.set_cons_zero, List.set_cons_succ, ix_nl, ix_cs, true_and, and_true, Option.toList_some, Option.toList_none, List.cons_append, List.nil_append, hx1, hx2, ix_up_ne, ix_up_k, ve_1, ve_2, ve_3, ve_4, ve_5]
    refine hQ _ _ ?_
    simp (decide := true) only [e_X11_wayFor_0, e_X11_wayFor_1, e_X11_wayFor_4, e_X11_wayFor_7, e_X11_wayFor_8, e_X11_wayFor_11, e_X11_wayFor_14, e_X11_wayFor_15, e_X11_wayFor_17, e_X11_wayFor_18, e_X11_wayFor_19, e_X11_wayFor_20, e_X11_wayFor_21, e_X11_wayFor_24, e_X11_wayFor_27, e_X11_wayFor_28, e_X11_wayFor_30, e_X11_wayFor_33, vi, vl, vr, oc_X11_finding, T_X11_finding, oc_X11_isBehind, T_X11_isBehind, oc_X11_isPlace, T_X11_isPlace, oc_X11_mostBy, T_X11_mostBy, ix_push, ix_iload, ix_lload, ix_aload, ix_istore, ix_astore, ix_iinc, ix_bin, ix_div, ix_un, ix_i2l, ix_l2i, ix_lbin, ix_lsh, ix_lcmp, ix_dup, ix_dup2, ix_pop, ix_if, ix_cmp, ix_goto, ix_switch, ix_sw, ix_iret, ix_zret, ix_vret, ix_aret, ix_geti, ix_getr, ix_puti, ix_putz, ix_puts, ix_gets, ix_iald, ix_iast, ix_alen, ix_aald, ix_gval, ix_gcod, ix_bald, ix_blen, ix_sald, ix_nret, ix_math2, ix_math1, ix_acopy, ml_113, ml_114, ml_115, ml_116, ml_118, ml_119, ml_120, ml_121, ml_122, ml_123, ml_124, ml_125, ml_126, mv_0, mv_1, mv_2, mv_3, mv_4, mv_5, mB_or, Nat.add_assoc, Int32.reduceLT, Int32.reduceLE, Int32.reduceToNatClampNeg, Int32.reduceSub, Int32.reduceAdd, Nat.reduceAdd, Nat.reduceLeDiff, true_or, or_true, or_false, false_or, not_false_eq_true, not_true_eq_false, false_implies, true_implies, implies_true, and_self, mB_0, mB_01, Classical.not_not, Nat.zero_le, List.getElem?_cons_zero, List.getElem?_cons_succ, List.set_cons_zero, List.set_cons_succ, ix_nl, ix_cs, true_and, and_true, Option.toList_some, Option.toList_none, List.cons_append, List.nil_append, hx1, hx2, ix_up_ne, ix_up_k, ve_1, ve_2, ve_3, ve_4, ve_5]
    repeat' (first | exact I.er 1 (by decide) | refine ⟨fun _ => ?_, fun _ => ?_⟩)
def o_X10_cellFor : List (Nat × ix_Op) := [
  (0, ix_aload 0 1),
  (1, ix_iload 1 2),
  (2, oc_X10_noBoat 5),
  (5, ix_if (fun x => x = 0) 8 17),
  (8, ix_iload 2 9),
  (9, ix_push (vi 60) 11),
  (11, oc_X10_outside 14),
  (14, ix_if (fun x => x = 0) 23 17),
  (17, ix_aload 0 18),
  (18, ix_push (vi 1) 19),
  (19, oc_X10_error 22),
  (22, ix_iret),
  (23, ix_aload 0 24),
  (24, ix_push (vi 1) 25),
  (25, ix_iload 1 26),
  (26, ix_push (vi 16) 28),
  (28, ix_iload 2 29),
  (29, oc_X10_bestOf 32),
  (32, ix_iret)]
set_option maxRecDepth 20000 in
theorem a_X10_cellFor (l : Launch) : ix_AllS l cX10_cellFor 3 RX10 60 (some .int) o_X10_cellFor :=
  .cons (ix_s_aload_n dX10_cellFor_0 rfl) <|
  .cons (ix_s_iload_n dX10_cellFor_1 rfl) <|
  .cons (oc_X10_noBoat_s (ix_s_callv (t := 9) (k_X10_noBoat l) (by decide) (by decide) tw_369 tw_1 tw_366 tw_368 tp_1 ⟨by decide, by decide, by decide +kernel⟩ (by decide) rfl rfl (fun _ => ⟨_, _, rfl, rfl⟩) dX10_cellFor_2)) <|
  .cons (ix_s_if_ne dX10_cellFor_5 (by decide)) <|
  .cons (ix_s_iload_n dX10_cellFor_8 rfl) <|
  .cons (ix_s_bipush dX10_cellFor_9 (by decide +kernel)) <|
  .cons (oc_X10_outside_s (ix_s_calls (k_X10_outside l) (by decide) (by decide) tw_291 tw_1 tw_289 tw_290 ⟨by decide, by decide, by decide +kernel⟩ (fun _ => rfl) dX10_cellFor_11)) <|
  .cons (ix_s_if_eq dX10_cellFor_14 (by decide)) <|
  .cons (ix_s_aload_n dX10_cellFor_17 rfl) <|
  .cons (ix_s_iconst dX10_cellFor_18 (by decide +kernel)) <|
  .cons (oc_X10_error_s (ix_s_callv (t := 9) (k_X10_error l) (by decide) (by decide) tw_295 tw_1 tw_292 tw_294 tp_0 ⟨by decide, by decide, by decide +kernel⟩ (by decide) rfl rfl (fun _ => ⟨_, _, rfl, rfl⟩) dX10_cellFor_19)) <|
  .cons (ix_s_iret dX10_cellFor_22 rfl) <|
  .cons (ix_s_aload_n dX10_cellFor_23 rfl) <|
  .cons (ix_s_iconst dX10_cellFor_24 (by decide +kernel)) <|
  .cons (ix_s_iload_n dX10_cellFor_25 rfl) <|
  .cons (ix_s_bipush dX10_cellFor_26 (by decide +kernel)) <|
  .cons (ix_s_iload_n dX10_cellFor_28 rfl) <|
  .cons (oc_X10_bestOf_s (ix_s_callv (t := 9) (k_X10_bestOf l) (by decide) (by decide) tw_663 tw_1 tw_660 tw_662 tp_9 ⟨by decide, by decide, by decide +kernel⟩ (by decide) rfl rfl (fun _ => ⟨_, _, rfl, rfl⟩) dX10_cellFor_29)) <|
  .cons (ix_s_iret dX10_cellFor_32 rfl) <| .nil
theorem e_X10_cellFor_0 (Q : ix_R → Prop) (ls : ix_L) (st : List ix_V) (μ : ix_M) : ix_Ev o_X10_cellFor Q (0, ls, st, μ) = ix_aload 0 1 (ix_Ev o_X10_cellFor Q) Q ls st μ := ix_Ev.eq (a_X10_cellFor launch0) rfl ls st μ
theorem e_X10_cellFor_1 (Q : ix_R → Prop) (ls : ix_L) (st : List ix_V) (μ : ix_M) : ix_Ev o_X10_cellFor Q (1, ls, st, μ) = ix_iload 1 2 (ix_Ev o_X10_cellFor Q) Q ls st μ := ix_Ev.eq (a_X10_cellFor launch0) rfl ls st μ
theorem e_X10_cellFor_2 (Q : ix_R → Prop) (ls : ix_L) (st : List ix_V) (μ : ix_M) : ix_Ev o_X10_cellFor Q (2, ls, st, μ) = oc_X10_noBoat 5 (ix_Ev o_X10_cellFor Q) Q ls st μ := ix_Ev.eq (a_X10_cellFor launch0) rfl ls st μ
theorem e_X10_cellFor_5 (Q : ix_R → Prop) (ls : ix_L) (st : List ix_V) (μ : ix_M) : ix_Ev o_X10_cellFor Q (5, ls, st, μ) = ix_if (fun x => x = 0) 8 17 (ix_Ev o_X10_cellFor Q) Q ls st μ := ix_Ev.eq (a_X10_cellFor launch0) rfl ls st μ
theorem e_X10_cellFor_8 (Q : ix_R → Prop) (ls : ix_L) (st : List ix_V) (μ : ix_M) : ix_Ev o_X10_cellFor Q (8, ls, st, μ) = ix_iload 2 9 (ix_Ev o_X10_cellFor Q) Q ls st μ := ix_Ev.eq (a_X10_cellFor launch0) rfl ls st μ
theorem e_X10_cellFor_9 (Q : ix_R → Prop) (ls : ix_L) (st : List ix_V) (μ : ix_M) : ix_Ev o_X10_cellFor Q (9, ls, st, μ) = ix_push (vi 60) 11 (ix_Ev o_X10_cellFor Q) Q ls st μ := ix_Ev.eq (a_X10_cellFor launch0) rfl ls st μ
theorem e_X10_cellFor_11 (Q : ix_R → Prop) (ls : ix_L) (st : List ix_V) (μ : ix_M) : ix_Ev o_X10_cellFor Q (11, ls, st, μ) = oc_X10_outside 14 (ix_Ev o_X10_cellFor Q) Q ls st μ := ix_Ev.eq (a_X10_cellFor launch0) rfl ls st μ
theorem e_X10_cellFor_14 (Q : ix_R → Prop) (ls : ix_L) (st : List ix_V) (μ : ix_M) : ix_Ev o_X10_cellFor Q (14, ls, st, μ) = ix_if (fun x => x = 0) 23 17 (ix_Ev o_X10_cellFor Q) Q ls st μ := ix_Ev.eq (a_X10_cellFor launch0) rfl ls st μ
theorem e_X10_cellFor_17 (Q : ix_R → Prop) (ls : ix_L) (st : List ix_V) (μ : ix_M) : ix_Ev o_X10_cellFor Q (17, ls, st, μ) = ix_aload 0 18 (ix_Ev o_X10_cellFor Q) Q ls st μ := ix_Ev.eq (a_X10_cellFor launch0) rfl ls st μ
theorem e_X10_cellFor_18 (Q : ix_R → Prop) (ls : ix_L) (st : List ix_V) (μ : ix_M) : ix_Ev o_X10_cellFor Q (18, ls, st, μ) = ix_push (vi 1) 19 (ix_Ev o_X10_cellFor Q) Q ls st μ := ix_Ev.eq (a_X10_cellFor launch0) rfl ls st μ
theorem e_X10_cellFor_19 (Q : ix_R → Prop) (ls : ix_L) (st : List ix_V) (μ : ix_M) : ix_Ev o_X10_cellFor Q (19, ls, st, μ) = oc_X10_error 22 (ix_Ev o_X10_cellFor Q) Q ls st μ := ix_Ev.eq (a_X10_cellFor launch0) rfl ls st μ
theorem e_X10_cellFor_22 (Q : ix_R → Prop) (ls : ix_L) (st : List ix_V) (μ : ix_M) : ix_Ev o_X10_cellFor Q (22, ls, st, μ) = ix_iret (ix_Ev o_X10_cellFor Q) Q ls st μ := ix_Ev.eq (a_X10_cellFor launch0) rfl ls st μ
theorem e_X10_cellFor_23 (Q : ix_R → Prop) (ls : ix_L) (st : List ix_V) (μ : ix_M) : ix_Ev o_X10_cellFor Q (23, ls, st, μ) = ix_aload 0 24 (ix_Ev o_X10_cellFor Q) Q ls st μ := ix_Ev.eq (a_X10_cellFor launch0) rfl ls st μ
theorem e_X10_cellFor_24 (Q : ix_R → Prop) (ls : ix_L) (st : List ix_V) (μ : ix_M) : ix_Ev o_X10_cellFor Q (24, ls, st, μ) = ix_push (vi 1) 25 (ix_Ev o_X10_cellFor Q) Q ls st μ := ix_Ev.eq (a_X10_cellFor launch0) rfl ls st μ
theorem e_X10_cellFor_25 (Q : ix_R → Prop) (ls : ix_L) (st : List ix_V) (μ : ix_M) : ix_Ev o_X10_cellFor Q (25, ls, st, μ) = ix_iload 1 26 (ix_Ev o_X10_cellFor Q) Q ls st μ := ix_Ev.eq (a_X10_cellFor launch0) rfl ls st μ
theorem e_X10_cellFor_26 (Q : ix_R → Prop) (ls : ix_L) (st : List ix_V) (μ : ix_M) : ix_Ev o_X10_cellFor Q (26, ls, st, μ) = ix_push (vi 16) 28 (ix_Ev o_X10_cellFor Q) Q ls st μ := ix_Ev.eq (a_X10_cellFor launch0) rfl ls st μ
theorem e_X10_cellFor_28 (Q : ix_R → Prop) (ls : ix_L) (st : List ix_V) (μ : ix_M) : ix_Ev o_X10_cellFor Q (28, ls, st, μ) = ix_iload 2 29 (ix_Ev o_X10_cellFor Q) Q ls st μ := ix_Ev.eq (a_X10_cellFor launch0) rfl ls st μ
theorem e_X10_cellFor_29 (Q : ix_R → Prop) (ls : ix_L) (st : List ix_V) (μ : ix_M) : ix_Ev o_X10_cellFor Q (29, ls, st, μ) = oc_X10_bestOf 32 (ix_Ev o_X10_cellFor Q) Q ls st μ := ix_Ev.eq (a_X10_cellFor launch0) rfl ls st μ
theorem e_X10_cellFor_32 (Q : ix_R → Prop) (ls : ix_L) (st : List ix_V) (μ : ix_M) : ix_Ev o_X10_cellFor Q (32, ls, st, μ) = ix_iret (ix_Ev o_X10_cellFor Q) Q ls st μ := ix_Ev.eq (a_X10_cellFor launch0) rfl ls st μ
def o_X11_cellFor : List (Nat × ix_Op) := [
  (0, ix_aload 0 1),
  (1, ix_iload 1 2),
  (2, oc_X11_isBoat 5),
  (5, ix_if (fun x => x = 0) 30 8),
  (8, ix_iload 2 9),
  (9, oc_X11_isBehind 12),
  (12, ix_if (fun x => x = 0) 30 15),
  (15, ix_aload 0 16),
  (16, ix_iload 1 17),
  (17, ix_push (vi 2) 18),
  (18, oc_X11_boatAt 21),
  (21, ix_push (vi 16) 23),
  (23, ix_iload 2 24),
  (24, oc_X11_mostBy 27),
  (27, ix_goto 36),
  (30, ix_aload 0 31),
  (31, ix_push (vi (-1000000001)) 33),
  (33, oc_X11_finding 36),
  (36, ix_iret)]
set_option maxRecDepth 20000 in
theorem a_X11_cellFor (l : Launch) : ix_AllS l cX11_cellFor 3 RX11 60 (some .int) o_X11_cellFor :=
  .cons (ix_s_aload_n dX11_cellFor_0 rfl) <|
  .cons (ix_s_iload_n dX11_cellFor_1 rfl) <|
  .cons (oc_X11_isBoat_s (ix_s_callv (t := 10) (k_X11_isBoat l) (by decide) (by decide) tw_1135 tw_12 tw_1132 tw_1134 tp_37 ⟨by decide, by decide, by decide +kernel⟩ (by decide) rfl rfl (fun _ => ⟨_, _, rfl, rfl⟩) dX11_cellFor_2)) <|
  .cons (ix_s_if_eq dX11_cellFor_5 (by decide)) <|
  .cons (ix_s_iload_n dX11_cellFor_8 rfl) <|
  .cons (oc_X11_isBehind_s (ix_s_calls (k_X11_isBehind l) (by decide) (by decide) tw_1218 tw_12 tw_1216 tw_1217 ⟨by decide, by decide, by decide +kernel⟩ (fun _ => rfl) dX11_cellFor_9)) <|
  .cons (ix_s_if_eq dX11_cellFor_12 (by decide)) <|
  .cons (ix_s_aload_n dX11_cellFor_15 rfl) <|
  .cons (ix_s_iload_n dX11_cellFor_16 rfl) <|
  .cons (ix_s_iconst dX11_cellFor_17 (by decide +kernel)) <|
  .cons (oc_X11_boatAt_s (ix_s_calls (k_X11_boatAt l) (by decide) (by decide) tw_1086 tw_12 tw_1084 tw_1085 ⟨by decide, by decide, by decide +kernel⟩ (fun _ => rfl) dX11_cellFor_18)) <|
  .cons (ix_s_bipush dX11_cellFor_21 (by decide +kernel)) <|
  .cons (ix_s_iload_n dX11_cellFor_23 rfl) <|
  .cons (oc_X11_mostBy_s (ix_s_callv (t := 10) (k_X11_mostBy l) (by decide) (by decide) tw_1246 tw_12 tw_1243 tw_1245 tp_51 ⟨by decide, by decide, by decide +kernel⟩ (by decide) rfl rfl (fun _ => ⟨_, _, rfl, rfl⟩) dX11_cellFor_24)) <|
  .cons (ix_s_goto dX11_cellFor_27 (by decide)) <|
  .cons (ix_s_aload_n dX11_cellFor_30 rfl) <|
  .cons (ix_s_ldc tw_961 dX11_cellFor_31) <|
  .cons (oc_X11_finding_s (ix_s_callv (t := 10) (k_X11_finding l) (by decide) (by decide) tw_965 tw_12 tw_962 tw_964 tp_18 ⟨by decide, by decide, by decide +kernel⟩ (by decide) rfl rfl (fun _ => ⟨_, _, rfl, rfl⟩) dX11_cellFor_33)) <|
  .cons (ix_s_iret dX11_cellFor_36 rfl) <| .nil
theorem e_X11_cellFor_0 (Q : ix_R → Prop) (ls : ix_L) (st : List ix_V) (μ : ix_M) : ix_Ev o_X11_cellFor Q (0, ls, st, μ) = ix_aload 0 1 (ix_Ev o_X11_cellFor Q) Q ls st μ := ix_Ev.eq (a_X11_cellFor launch0) rfl ls st μ
theorem e_X11_cellFor_1 (Q : ix_R → Prop) (ls : ix_L) (st : List ix_V) (μ : ix_M) : ix_Ev o_X11_cellFor Q (1, ls, st, μ) = ix_iload 1 2 (ix_Ev o_X11_cellFor Q) Q ls st μ := ix_Ev.eq (a_X11_cellFor launch0) rfl ls st μ
theorem e_X11_cellFor_2 (Q : ix_R → Prop) (ls : ix_L) (st : List ix_V) (μ : ix_M) : ix_Ev o_X11_cellFor Q (2, ls, st, μ) = oc_X11_isBoat 5 (ix_Ev o_X11_cellFor Q) Q ls st μ := ix_Ev.eq (a_X11_cellFor launch0) rfl ls st μ
theorem e_X11_cellFor_5 (Q : ix_R → Prop) (ls : ix_L) (st : List ix_V) (μ : ix_M) : ix_Ev o_X11_cellFor Q (5, ls, st, μ) = ix_if (fun x => x = 0) 30 8 (ix_Ev o_X11_cellFor Q) Q ls st μ := ix_Ev.eq (a_X11_cellFor launch0) rfl ls st μ
theorem e_X11_cellFor_8 (Q : ix_R → Prop) (ls : ix_L) (st : List ix_V) (μ : ix_M) : ix_Ev o_X11_cellFor Q (8, ls, st, μ) = ix_iload 2 9 (ix_Ev o_X11_cellFor Q) Q ls st μ := ix_Ev.eq (a_X11_cellFor launch0) rfl ls st μ
theorem e_X11_cellFor_9 (Q : ix_R → Prop) (ls : ix_L) (st : List ix_V) (μ : ix_M) : ix_Ev o_X11_cellFor Q (9, ls, st, μ) = oc_X11_isBehind 12 (ix_Ev o_X11_cellFor Q) Q ls st μ := ix_Ev.eq (a_X11_cellFor launch0) rfl ls st μ
theorem e_X11_cellFor_12 (Q : ix_R → Prop) (ls : ix_L) (st : List ix_V) (μ : ix_M) : ix_Ev o_X11_cellFor Q (12, ls, st, μ) = ix_if (fun x => x = 0) 30 15 (ix_Ev o_X11_cellFor Q) Q ls st μ := ix_Ev.eq (a_X11_cellFor launch0) rfl ls st μ
theorem e_X11_cellFor_15 (Q : ix_R → Prop) (ls : ix_L) (st : List ix_V) (μ : ix_M) : ix_Ev o_X11_cellFor Q (15, ls, st, μ) = ix_aload 0 16 (ix_Ev o_X11_cellFor Q) Q ls st μ := ix_Ev.eq (a_X11_cellFor launch0) rfl ls st μ
theorem e_X11_cellFor_16 (Q : ix_R → Prop) (ls : ix_L) (st : List ix_V) (μ : ix_M) : ix_Ev o_X11_cellFor Q (16, ls, st, μ) = ix_iload 1 17 (ix_Ev o_X11_cellFor Q) Q ls st μ := ix_Ev.eq (a_X11_cellFor launch0) rfl ls st μ
theorem e_X11_cellFor_17 (Q : ix_R → Prop) (ls : ix_L) (st : List ix_V) (μ : ix_M) : ix_Ev o_X11_cellFor Q (17, ls, st, μ) = ix_push (vi 2) 18 (ix_Ev o_X11_cellFor Q) Q ls st μ := ix_Ev.eq (a_X11_cellFor launch0) rfl ls st μ
theorem e_X11_cellFor_18 (Q : ix_R → Prop) (ls : ix_L) (st : List ix_V) (μ : ix_M) : ix_Ev o_X11_cellFor Q (18, ls, st, μ) = oc_X11_boatAt 21 (ix_Ev o_X11_cellFor Q) Q ls st μ := ix_Ev.eq (a_X11_cellFor launch0) rfl ls st μ
theorem e_X11_cellFor_21 (Q : ix_R → Prop) (ls : ix_L) (st : List ix_V) (μ : ix_M) : ix_Ev o_X11_cellFor Q (21, ls, st, μ) = ix_push (vi 16) 23 (ix_Ev o_X11_cellFor Q) Q ls st μ := ix_Ev.eq (a_X11_cellFor launch0) rfl ls st μ
theorem e_X11_cellFor_23 (Q : ix_R → Prop) (ls : ix_L) (st : List ix_V) (μ : ix_M) : ix_Ev o_X11_cellFor Q (23, ls, st, μ) = ix_iload 2 24 (ix_Ev o_X11_cellFor Q) Q ls st μ := ix_Ev.eq (a_X11_cellFor launch0) rfl ls st μ
theorem e_X11_cellFor_24 (Q : ix_R → Prop) (ls : ix_L) (st : List ix_V) (μ : ix_M) : ix_Ev o_X11_cellFor Q (24, ls, st, μ) = oc_X11_mostBy 27 (ix_Ev o_X11_cellFor Q) Q ls st μ := ix_Ev.eq (a_X11_cellFor launch0) rfl ls st μ
theorem e_X11_cellFor_27 (Q : ix_R → Prop) (ls : ix_L) (st : List ix_V) (μ : ix_M) : ix_Ev o_X11_cellFor Q (27, ls, st, μ) = ix_goto 36 (ix_Ev o_X11_cellFor Q) Q ls st μ := ix_Ev.eq (a_X11_cellFor launch0) rfl ls st μ
theorem e_X11_cellFor_30 (Q : ix_R → Prop) (ls : ix_L) (st : List ix_V) (μ : ix_M) : ix_Ev o_X11_cellFor Q (30, ls, st, μ) = ix_aload 0 31 (ix_Ev o_X11_cellFor Q) Q ls st μ := ix_Ev.eq (a_X11_cellFor launch0) rfl ls st μ
theorem e_X11_cellFor_31 (Q : ix_R → Prop) (ls : ix_L) (st : List ix_V) (μ : ix_M) : ix_Ev o_X11_cellFor Q (31, ls, st, μ) = ix_push (vi (-1000000001)) 33 (ix_Ev o_X11_cellFor Q) Q ls st μ := ix_Ev.eq (a_X11_cellFor launch0) rfl ls st μ
theorem e_X11_cellFor_33 (Q : ix_R → Prop) (ls : ix_L) (st : List ix_V) (μ : ix_M) : ix_Ev o_X11_cellFor Q (33, ls, st, μ) = oc_X11_finding 36 (ix_Ev o_X11_cellFor Q) Q ls st μ := ix_Ev.eq (a_X11_cellFor launch0) rfl ls st μ
theorem e_X11_cellFor_36 (Q : ix_R → Prop) (ls : ix_L) (st : List ix_V) (μ : ix_M) : ix_Ev o_X11_cellFor Q (36, ls, st, μ) = ix_iret (ix_Ev o_X11_cellFor Q) Q ls st μ := ix_Ev.eq (a_X11_cellFor launch0) rfl ls st μ
theorem pr_cellFor (b : Int32) (n : Int32) (μ : ix_M) (I : Inv μ) (Q : ix_R → Prop) (hQ : ∀ vv μ', ix_Ev o_X11_cellFor (Pst vv) (0, [some (vr 10 112), some (vi b), some (vi n)], [], μ') → Q (some (vi vv), μ')) : ix_Ev o_X10_cellFor Q (0, [some (vr 9 0), some (vi b), some (vi n)], [], μ) := by
  obtain ⟨N, hN, n1, n2⟩ := I.n
  rcases inB b hN with ⟨B, hB, rfl, B1, B2, B3, B4⟩ | ⟨hx1, hx2⟩
  · have Bc : (nI B).toNatClampNeg = B := nI_clamp (by omega)
    rcases inR n 60 (by decide) with ⟨K, hK, rfl⟩ | ⟨hx1, hx2⟩
    · obtain ⟨K1, K2, K3, K4⟩ : ¬ nI K < 0 ∧ ¬ (60 : Int32) < nI K ∧ 0 ≤ nI K ∧ nI K ≤ (60 : Int32) := rgN hK (by decide)
      have Kc : (nI K).toNatClampNeg = K := nI_clamp (by omega)
      obtain ⟨M, hM, hR, m1, m2⟩ := I.mi
      obtain ⟨ds, dl, hL, x1, x2⟩ := I.tx
      simp (decide := true) only [e_X10_cellFor_0, e_X10_cellFor_1, e_X10_cellFor_2, e_X10_cellFor_5, e_X10_cellFor_8, e_X10_cellFor_9, e_X10_cellFor_11, e_X10_cellFor_14, e_X10_cellFor_17, e_X10_cellFor_18, e_X10_cellFor_19, e_X10_cellFor_22, e_X10_cellFor_23, e_X10_cellFor_24, e_X10_cellFor_25, e_X10_cellFor_26, e_X10_cellFor_28, e_X10_cellFor_29, e_X10_cellFor_32, vi, vl, vr, oc_X10_bestOf, T_X10_bestOf, oc_X10_error, T_X10_error, oc_X10_noBoat, T_X10_noBoat, oc_X10_outside, T_X10_outside, ix_push, ix_iload, ix_lload, ix_aload, ix_istore, ix_astore, ix_iinc, ix_bin, ix_div, ix_un, ix_i2l, ix_l2i, ix_lbin, ix_lsh, ix_lcmp, ix_dup, ix_dup2, ix_pop, ix_if, ix_cmp, ix_goto, ix_switch, ix_sw, ix_iret, ix_zret, ix_vret, ix_aret, ix_geti, ix_getr, ix_puti, ix_putz, ix_puts, ix_gets, ix_iald, ix_iast, ix_alen, ix_aald, ix_gval, ix_gcod, ix_bald, ix_blen, ix_sald, ix_nret, ix_math2, ix_math1, ix_acopy, Nat.add_assoc, Int32.reduceLT, Int32.reduceLE, Int32.reduceToNatClampNeg, Int32.reduceSub, Int32.reduceAdd, Nat.reduceAdd, Nat.reduceLeDiff, true_or, or_true, or_false, false_or, not_false_eq_true, not_true_eq_false, false_implies, true_implies, implies_true, and_self, mB_0, mB_01, Classical.not_not, Nat.zero_le, List.getElem?_cons_zero, List.getElem?_cons_succ, List.set_cons_zero, List.set_cons_succ, ix_nl, ix_cs, true_and, and_true, Option.toList_some, Option.toList_none, List.cons_append, List.nil_append, n1, n2, B1, B2, B3, B4, Bc, K1, K2, K3, K4, Kc, ix_up_ne, ix_up_k, ve_1, ve_2, ve_3, ve_4, ve_5]
      refine ⟨M, K, 16, ds, dl, by rw [I.hw]; exact hR.1, rfl, by omega, rfl, by decide, hL, ⟨fun z => absurd z (by decide), fun _ => vp_in_nI (by omega) (by decide), fun z => absurd z (by decide), fun z => absurd z (by decide)⟩, fun μ1 F1 => hQ _ _ ?_⟩
      have I1 := I.scr F1 (by decide)
      have e : μ1 113 = μ 113 := F1 113 (by decide)
      have n3 : μ1 113 1 = nI N := by rw [e]; exact n2
      have q1 : bix (nI B) 2 = nI (nvI 6 B) := (bix_at (b := B) (by omega) 2 (by decide)).trans (by rw [← nvI_6]; congr 1; omega)
      simp (decide := true) only [e_X11_cellFor_0, e_X11_cellFor_1, e_X11_cellFor_2, e_X11_cellFor_5, e_X11_cellFor_8, e_X11_cellFor_9, e_X11_cellFor_12, e_X11_cellFor_15, e_X11_cellFor_16, e_X11_cellFor_17, e_X11_cellFor_18, e_X11_cellFor_21, e_X11_cellFor_23, e_X11_cellFor_24, e_X11_cellFor_27, e_X11_cellFor_30, e_X11_cellFor_31, e_X11_cellFor_33, e_X11_cellFor_36, vi, vl, vr, oc_X11_boatAt, T_X11_boatAt, oc_X11_finding, T_X11_finding, oc_X11_isBehind, T_X11_isBehind, oc_X11_isBoat, T_X11_isBoat, oc_X11_mostBy, T_X11_mostBy, ix_push, ix_iload, ix_lload, ix_aload, ix_istore, ix_astore, ix_iinc, ix_bin, ix_div, ix_un, ix_i2l, ix_l2i, ix_lbin, ix_lsh, ix_lcmp, ix_dup, ix_dup2, ix_pop, ix_if, ix_cmp, ix_goto, ix_switch, ix_sw, ix_iret, ix_zret, ix_vret, ix_aret, ix_geti, ix_getr, ix_puti, ix_putz, ix_puts, ix_gets, ix_iald, ix_iast, ix_alen, ix_aald, ix_gval, ix_gcod, ix_bald, ix_blen, ix_sald, ix_nret, ix_math2, ix_math1, ix_acopy, ml_113, ml_114, ml_115, ml_116, ml_118, ml_119, ml_120, ml_121, ml_122, ml_123, ml_124, ml_125, ml_126, mv_0, mv_1, mv_2, mv_3, mv_4, mv_5, mB_or, Nat.add_assoc, Int32.reduceLT, Int32.reduceLE, Int32.reduceToNatClampNeg, Int32.reduceSub, Int32.reduceAdd, Nat.reduceAdd, Nat.reduceLeDiff, true_or, or_true, or_false, false_or, not_false_eq_true, not_true_eq_false, false_implies, true_implies, implies_true, and_self, mB_0, mB_01, Classical.not_not, Nat.zero_le, List.getElem?_cons_zero, List.getElem?_cons_succ, List.set_cons_zero, List.set_cons_succ, ix_nl, ix_cs, true_and, and_true, Option.toList_some, Option.toList_none, List.cons_append, List.nil_append, B3, B4, K3, K4, q1, n3, ix_up_ne, ix_up_k, ve_1, ve_2, ve_3, ve_4, ve_5]
      refine ⟨M, K, 16, 6, B, ds, dl, mwOf (by rw [e]; exact hR) (by rw [e]; exact x1) (by rw [e]; exact x2), ⟨wok_6 (by omega), Or.inr (Or.inl ⟨rfl, by decide⟩)⟩, rfl, rfl, by omega, rfl, by decide, I1.2.2.2.2.2.2.1, fun μ2 F2 R2 => pst ?_ (I1.back F2 R2)⟩
      rw [e, I.hw]
      simp (decide := true) only [supR, supI, if_true, if_false, Bc]
    · have hx1 : n < 0 ∨ (60 : Int32) < n := hx1
      have hx2 : ¬ (0 ≤ n ∧ n ≤ (60 : Int32)) := hx2
      simp (decide := true) only [e_X10_cellFor_0, e_X10_cellFor_1, e_X10_cellFor_2, e_X10_cellFor_5, e_X10_cellFor_8, e_X10_cellFor_9, e_X10_cellFor_11, e_X10_cellFor_14, e_X10_cellFor_17, e_X10_cellFor_18, e_X10_cellFor_19, e_X10_cellFor_22, e_X10_cellFor_23, e_X10_cellFor_24, e_X10_cellFor_25, e_X10_cellFor_26, e_X10_cellFor_28, e_X10_cellFor_29, e_X10_cellFor_32, vi, vl, vr, oc_X10_bestOf, T_X10_bestOf, oc_X10_error, T_X10_error, oc_X10_noBoat, T_X10_noBoat, oc_X10_outside, T_X10_outside, ix_push, ix_iload, ix_lload, ix_aload, ix_istore, ix_astore, ix_iinc, ix_bin, ix_div, ix_un, ix_i2l, ix_l2i, ix_lbin, ix_lsh, ix_lcmp, ix_dup, ix_dup2, ix_pop, ix_if, ix_cmp, ix_goto, ix_switch, ix_sw, ix_iret, ix_zret, ix_vret, ix_aret, ix_geti, ix_getr, ix_puti, ix_putz, ix_puts, ix_gets, ix_iald, ix_iast, ix_alen, ix_aald, ix_gval, ix_gcod, ix_bald, ix_blen, ix_sald, ix_nret, ix_math2, ix_math1, ix_acopy, Nat.add_assoc, Int32.reduceLT, Int32.reduceLE, Int32.reduceToNatClampNeg, Int32.reduceSub, Int32.reduceAdd, Nat.reduceAdd, Nat.reduceLeDiff, true_or, or_true, or_false, false_or, not_false_eq_true, not_true_eq_false, false_implies, true_implies, implies_true, and_self, mB_0, mB_01, Classical.not_not, Nat.zero_le, List.getElem?_cons_zero, List.getElem?_cons_succ, List.set_cons_zero, List.set_cons_succ, ix_nl, ix_cs, true_and, and_true, Option.toList_some, Option.toList_none, List.cons_append, List.nil_append, n1, n2, B1, B2, B3, B4, Bc, hx1, hx2, ix_up_ne, ix_up_k, ve_1, ve_2, ve_3, ve_4, ve_5]
      refine hQ _ _ ?_
      simp (decide := true) only [e_X11_cellFor_0, e_X11_cellFor_1, e_X11_cellFor_2, e_X11_cellFor_5, e_X11_cellFor_8, e_X11_cellFor_9, e_X11_cellFor_12, e_X11_cellFor_15, e_X11_cellFor_16, e_X11_cellFor_17, e_X11_cellFor_18, e_X11_cellFor_21, e_X11_cellFor_23, e_X11_cellFor_24, e_X11_cellFor_27, e_X11_cellFor_30, e_X11_cellFor_31, e_X11_cellFor_33, e_X11_cellFor_36, vi, vl, vr, oc_X11_boatAt, T_X11_boatAt, oc_X11_finding, T_X11_finding, oc_X11_isBehind, T_X11_isBehind, oc_X11_isBoat, T_X11_isBoat, oc_X11_mostBy, T_X11_mostBy, ix_push, ix_iload, ix_lload, ix_aload, ix_istore, ix_astore, ix_iinc, ix_bin, ix_div, ix_un, ix_i2l, ix_l2i, ix_lbin, ix_lsh, ix_lcmp, ix_dup, ix_dup2, ix_pop, ix_if, ix_cmp, ix_goto, ix_switch, ix_sw, ix_iret, ix_zret, ix_vret, ix_aret, ix_geti, ix_getr, ix_puti, ix_putz, ix_puts, ix_gets, ix_iald, ix_iast, ix_alen, ix_aald, ix_gval, ix_gcod, ix_bald, ix_blen, ix_sald, ix_nret, ix_math2, ix_math1, ix_acopy, ml_113, ml_114, ml_115, ml_116, ml_118, ml_119, ml_120, ml_121, ml_122, ml_123, ml_124, ml_125, ml_126, mv_0, mv_1, mv_2, mv_3, mv_4, mv_5, mB_or, Nat.add_assoc, Int32.reduceLT, Int32.reduceLE, Int32.reduceToNatClampNeg, Int32.reduceSub, Int32.reduceAdd, Nat.reduceAdd, Nat.reduceLeDiff, true_or, or_true, or_false, false_or, not_false_eq_true, not_true_eq_false, false_implies, true_implies, implies_true, and_self, mB_0, mB_01, Classical.not_not, Nat.zero_le, List.getElem?_cons_zero, List.getElem?_cons_succ, List.set_cons_zero, List.set_cons_succ, ix_nl, ix_cs, true_and, and_true, Option.toList_some, Option.toList_none, List.cons_append, List.nil_append, n1, n2, B1, B2, B3, B4, Bc, hx1, hx2, ix_up_ne, ix_up_k, ve_1, ve_2, ve_3, ve_4, ve_5]
      repeat' (first | exact I.er 1 (by decide) | refine ⟨fun _ => ?_, fun _ => ?_⟩)
  · simp (decide := true) only [e_X10_cellFor_0, e_X10_cellFor_1, e_X10_cellFor_2, e_X10_cellFor_5, e_X10_cellFor_8, e_X10_cellFor_9, e_X10_cellFor_11, e_X10_cellFor_14, e_X10_cellFor_17, e_X10_cellFor_18, e_X10_cellFor_19, e_X10_cellFor_22, e_X10_cellFor_23, e_X10_cellFor_24, e_X10_cellFor_25, e_X10_cellFor_26, e_X10_cellFor_28, e_X10_cellFor_29, e_X10_cellFor_32, vi, vl, vr, oc_X10_bestOf, T_X10_bestOf, oc_X10_error, T_X10_error, oc_X10_noBoat, T_X10_noBoat, oc_X10_outside, T_X10_outside, ix_push, ix_iload, ix_lload, ix_aload, ix_istore, ix_astore, ix_iinc, ix_bin, ix_div, ix_un, ix_i2l, ix_l2i, ix_lbin, ix_lsh, ix_lcmp, ix_dup, ix_dup2, ix_pop, ix_if, ix_cmp, ix_goto, ix_switch, ix_sw, ix_iret, ix_zret, ix_vret, ix_aret, ix_geti, ix_getr, ix_puti, ix_putz, ix_puts, ix_gets, ix_iald, ix_iast, ix_alen, ix_aald, ix_gval, ix_gcod, ix_bald, ix_blen, ix_sald, ix_nret, ix_math2, ix_math1, ix_acopy, Nat.add_assoc, Int32.reduceLT, Int32.reduceLE, Int32.reduceToNatClampNeg, Int32.reduceSub, Int32.reduceAdd, Nat.reduceAdd, Nat.reduceLeDiff, true_or, or_true, or_false, false_or, not_false_eq_true, not_true_eq_false, false_implies, true_implies, implies_true, and_self, mB_0, mB_01, Classical.not_not, Nat.zero_le, List.getElem?_cons_zero, List.getElem?_cons_succ, List.set_cons_zero, List.set_cons_succ, ix_nl, ix_cs, true_and, and_true, Option.toList_some, Option.toList_none, List.cons_append, List.nil_append, n1, n2, hx1, hx2, ix_up_ne, ix_up_k, ve_1, ve_2, ve_3, ve_4, ve_5]
    refine hQ _ _ ?_
    simp (decide := true) only [e_X11_cellFor_0, e_X11_cellFor_1, e_X11_cellFor_2, e_X11_cellFor_5, e_X11_cellFor_8, e_X11_cellFor_9, e_X11_cellFor_12, e_X11_cellFor_15, e_X11_cellFor_16, e_X11_cellFor_17, e_X11_cellFor_18, e_X11_cellFor_21, e_X11_cellFor_23, e_X11_cellFor_24, e_X11_cellFor_27, e_X11_cellFor_30, e_X11_cellFor_31, e_X11_cellFor_33, e_X11_cellFor_36, vi, vl, vr, oc_X11_boatAt, T_X11_boatAt, oc_X11_finding, T_X11_finding, oc_X11_isBehind, T_X11_isBehind, oc_X11_isBoat, T_X11_isBoat, oc_X11_mostBy, T_X11_mostBy, ix_push, ix_iload, ix_lload, ix_aload, ix_istore, ix_astore, ix_iinc, ix_bin, ix_div, ix_un, ix_i2l, ix_l2i, ix_lbin, ix_lsh, ix_lcmp, ix_dup, ix_dup2, ix_pop, ix_if, ix_cmp, ix_goto, ix_switch, ix_sw, ix_iret, ix_zret, ix_vret, ix_aret, ix_geti, ix_getr, ix_puti, ix_putz, ix_puts, ix_gets, ix_iald, ix_iast, ix_alen, ix_aald, ix_gval, ix_gcod, ix_bald, ix_blen, ix_sald, ix_nret, ix_math2, ix_math1, ix_acopy, ml_113, ml_114, ml_115, ml_116, ml_118, ml_119, ml_120, ml_121, ml_122, ml_123, ml_124, ml_125, ml_126, mv_0, mv_1, mv_2, mv_3, mv_4, mv_5, mB_or, Nat.add_assoc, Int32.reduceLT, Int32.reduceLE, Int32.reduceToNatClampNeg, Int32.reduceSub, Int32.reduceAdd, Nat.reduceAdd, Nat.reduceLeDiff, true_or, or_true, or_false, false_or, not_false_eq_true, not_true_eq_false, false_implies, true_implies, implies_true, and_self, mB_0, mB_01, Classical.not_not, Nat.zero_le, List.getElem?_cons_zero, List.getElem?_cons_succ, List.set_cons_zero, List.set_cons_succ, ix_nl, ix_cs, true_and, and_true, Option.toList_some, Option.toList_none, List.cons_append, List.nil_append, n1, n2, hx1, hx2, ix_up_ne, ix_up_k, ve_1, ve_2, ve_3, ve_4, ve_5]
    repeat' (first | exact I.er 1 (by decide) | refine ⟨fun _ => ?_, fun _ => ?_⟩)
def o_X10_kindFor : List (Nat × ix_Op) := [
  (0, ix_aload 0 1),
  (1, ix_iload 1 2),
  (2, oc_X10_noBoat 5),
  (5, ix_if (fun x => x = 0) 8 17),
  (8, ix_iload 2 9),
  (9, ix_push (vi 60) 11),
  (11, oc_X10_outside 14),
  (14, ix_if (fun x => x = 0) 23 17),
  (17, ix_aload 0 18),
  (18, ix_push (vi 1) 19),
  (19, oc_X10_error 22),
  (22, ix_iret),
  (23, ix_aload 0 24),
  (24, ix_push (vi 2) 25),
  (25, ix_iload 1 26),
  (26, ix_push (vi 7) 28),
  (28, ix_iload 2 29),
  (29, oc_X10_bestOf 32),
  (32, ix_iret)]
set_option maxRecDepth 20000 in
theorem a_X10_kindFor (l : Launch) : ix_AllS l cX10_kindFor 3 RX10 60 (some .int) o_X10_kindFor :=
  .cons (ix_s_aload_n dX10_kindFor_0 rfl) <|
  .cons (ix_s_iload_n dX10_kindFor_1 rfl) <|
  .cons (oc_X10_noBoat_s (ix_s_callv (t := 9) (k_X10_noBoat l) (by decide) (by decide) tw_369 tw_1 tw_366 tw_368 tp_1 ⟨by decide, by decide, by decide +kernel⟩ (by decide) rfl rfl (fun _ => ⟨_, _, rfl, rfl⟩) dX10_kindFor_2)) <|
  .cons (ix_s_if_ne dX10_kindFor_5 (by decide)) <|
  .cons (ix_s_iload_n dX10_kindFor_8 rfl) <|
  .cons (ix_s_bipush dX10_kindFor_9 (by decide +kernel)) <|
  .cons (oc_X10_outside_s (ix_s_calls (k_X10_outside l) (by decide) (by decide) tw_291 tw_1 tw_289 tw_290 ⟨by decide, by decide, by decide +kernel⟩ (fun _ => rfl) dX10_kindFor_11)) <|
  .cons (ix_s_if_eq dX10_kindFor_14 (by decide)) <|
  .cons (ix_s_aload_n dX10_kindFor_17 rfl) <|
  .cons (ix_s_iconst dX10_kindFor_18 (by decide +kernel)) <|
  .cons (oc_X10_error_s (ix_s_callv (t := 9) (k_X10_error l) (by decide) (by decide) tw_295 tw_1 tw_292 tw_294 tp_0 ⟨by decide, by decide, by decide +kernel⟩ (by decide) rfl rfl (fun _ => ⟨_, _, rfl, rfl⟩) dX10_kindFor_19)) <|
  .cons (ix_s_iret dX10_kindFor_22 rfl) <|
  .cons (ix_s_aload_n dX10_kindFor_23 rfl) <|
  .cons (ix_s_iconst dX10_kindFor_24 (by decide +kernel)) <|
  .cons (ix_s_iload_n dX10_kindFor_25 rfl) <|
  .cons (ix_s_bipush dX10_kindFor_26 (by decide +kernel)) <|
  .cons (ix_s_iload_n dX10_kindFor_28 rfl) <|
  .cons (oc_X10_bestOf_s (ix_s_callv (t := 9) (k_X10_bestOf l) (by decide) (by decide) tw_663 tw_1 tw_660 tw_662 tp_9 ⟨by decide, by decide, by decide +kernel⟩ (by decide) rfl rfl (fun _ => ⟨_, _, rfl, rfl⟩) dX10_kindFor_29)) <|
  .cons (ix_s_iret dX10_kindFor_32 rfl) <| .nil
theorem e_X10_kindFor_0 (Q : ix_R → Prop) (ls : ix_L) (st : List ix_V) (μ : ix_M) : ix_Ev o_X10_kindFor Q (0, ls, st, μ) = ix_aload 0 1 (ix_Ev o_X10_kindFor Q) Q ls st μ := ix_Ev.eq (a_X10_kindFor launch0) rfl ls st μ
theorem e_X10_kindFor_1 (Q : ix_R → Prop) (ls : ix_L) (st : List ix_V) (μ : ix_M) : ix_Ev o_X10_kindFor Q (1, ls, st, μ) = ix_iload 1 2 (ix_Ev o_X10_kindFor Q) Q ls st μ := ix_Ev.eq (a_X10_kindFor launch0) rfl ls st μ
theorem e_X10_kindFor_2 (Q : ix_R → Prop) (ls : ix_L) (st : List ix_V) (μ : ix_M) : ix_Ev o_X10_kindFor Q (2, ls, st, μ) = oc_X10_noBoat 5 (ix_Ev o_X10_kindFor Q) Q ls st μ := ix_Ev.eq (a_X10_kindFor launch0) rfl ls st μ
theorem e_X10_kindFor_5 (Q : ix_R → Prop) (ls : ix_L) (st : List ix_V) (μ : ix_M) : ix_Ev o_X10_kindFor Q (5, ls, st, μ) = ix_if (fun x => x = 0) 8 17 (ix_Ev o_X10_kindFor Q) Q ls st μ := ix_Ev.eq (a_X10_kindFor launch0) rfl ls st μ
theorem e_X10_kindFor_8 (Q : ix_R → Prop) (ls : ix_L) (st : List ix_V) (μ : ix_M) : ix_Ev o_X10_kindFor Q (8, ls, st, μ) = ix_iload 2 9 (ix_Ev o_X10_kindFor Q) Q ls st μ := ix_Ev.eq (a_X10_kindFor launch0) rfl ls st μ
theorem e_X10_kindFor_9 (Q : ix_R → Prop) (ls : ix_L) (st : List ix_V) (μ : ix_M) : ix_Ev o_X10_kindFor Q (9, ls, st, μ) = ix_push (vi 60) 11 (ix_Ev o_X10_kindFor Q) Q ls st μ := ix_Ev.eq (a_X10_kindFor launch0) rfl ls st μ
theorem e_X10_kindFor_11 (Q : ix_R → Prop) (ls : ix_L) (st : List ix_V) (μ : ix_M) : ix_Ev o_X10_kindFor Q (11, ls, st, μ) = oc_X10_outside 14 (ix_Ev o_X10_kindFor Q) Q ls st μ := ix_Ev.eq (a_X10_kindFor launch0) rfl ls st μ
theorem e_X10_kindFor_14 (Q : ix_R → Prop) (ls : ix_L) (st : List ix_V) (μ : ix_M) : ix_Ev o_X10_kindFor Q (14, ls, st, μ) = ix_if (fun x => x = 0) 23 17 (ix_Ev o_X10_kindFor Q) Q ls st μ := ix_Ev.eq (a_X10_kindFor launch0) rfl ls st μ
theorem e_X10_kindFor_17 (Q : ix_R → Prop) (ls : ix_L) (st : List ix_V) (μ : ix_M) : ix_Ev o_X10_kindFor Q (17, ls, st, μ) = ix_aload 0 18 (ix_Ev o_X10_kindFor Q) Q ls st μ := ix_Ev.eq (a_X10_kindFor launch0) rfl ls st μ
theorem e_X10_kindFor_18 (Q : ix_R → Prop) (ls : ix_L) (st : List ix_V) (μ : ix_M) : ix_Ev o_X10_kindFor Q (18, ls, st, μ) = ix_push (vi 1) 19 (ix_Ev o_X10_kindFor Q) Q ls st μ := ix_Ev.eq (a_X10_kindFor launch0) rfl ls st μ
theorem e_X10_kindFor_19 (Q : ix_R → Prop) (ls : ix_L) (st : List ix_V) (μ : ix_M) : ix_Ev o_X10_kindFor Q (19, ls, st, μ) = oc_X10_error 22 (ix_Ev o_X10_kindFor Q) Q ls st μ := ix_Ev.eq (a_X10_kindFor launch0) rfl ls st μ
theorem e_X10_kindFor_22 (Q : ix_R → Prop) (ls : ix_L) (st : List ix_V) (μ : ix_M) : ix_Ev o_X10_kindFor Q (22, ls, st, μ) = ix_iret (ix_Ev o_X10_kindFor Q) Q ls st μ := ix_Ev.eq (a_X10_kindFor launch0) rfl ls st μ
theorem e_X10_kindFor_23 (Q : ix_R → Prop) (ls : ix_L) (st : List ix_V) (μ : ix_M) : ix_Ev o_X10_kindFor Q (23, ls, st, μ) = ix_aload 0 24 (ix_Ev o_X10_kindFor Q) Q ls st μ := ix_Ev.eq (a_X10_kindFor launch0) rfl ls st μ
theorem e_X10_kindFor_24 (Q : ix_R → Prop) (ls : ix_L) (st : List ix_V) (μ : ix_M) : ix_Ev o_X10_kindFor Q (24, ls, st, μ) = ix_push (vi 2) 25 (ix_Ev o_X10_kindFor Q) Q ls st μ := ix_Ev.eq (a_X10_kindFor launch0) rfl ls st μ
theorem e_X10_kindFor_25 (Q : ix_R → Prop) (ls : ix_L) (st : List ix_V) (μ : ix_M) : ix_Ev o_X10_kindFor Q (25, ls, st, μ) = ix_iload 1 26 (ix_Ev o_X10_kindFor Q) Q ls st μ := ix_Ev.eq (a_X10_kindFor launch0) rfl ls st μ
theorem e_X10_kindFor_26 (Q : ix_R → Prop) (ls : ix_L) (st : List ix_V) (μ : ix_M) : ix_Ev o_X10_kindFor Q (26, ls, st, μ) = ix_push (vi 7) 28 (ix_Ev o_X10_kindFor Q) Q ls st μ := ix_Ev.eq (a_X10_kindFor launch0) rfl ls st μ
theorem e_X10_kindFor_28 (Q : ix_R → Prop) (ls : ix_L) (st : List ix_V) (μ : ix_M) : ix_Ev o_X10_kindFor Q (28, ls, st, μ) = ix_iload 2 29 (ix_Ev o_X10_kindFor Q) Q ls st μ := ix_Ev.eq (a_X10_kindFor launch0) rfl ls st μ
theorem e_X10_kindFor_29 (Q : ix_R → Prop) (ls : ix_L) (st : List ix_V) (μ : ix_M) : ix_Ev o_X10_kindFor Q (29, ls, st, μ) = oc_X10_bestOf 32 (ix_Ev o_X10_kindFor Q) Q ls st μ := ix_Ev.eq (a_X10_kindFor launch0) rfl ls st μ
theorem e_X10_kindFor_32 (Q : ix_R → Prop) (ls : ix_L) (st : List ix_V) (μ : ix_M) : ix_Ev o_X10_kindFor Q (32, ls, st, μ) = ix_iret (ix_Ev o_X10_kindFor Q) Q ls st μ := ix_Ev.eq (a_X10_kindFor launch0) rfl ls st μ
def o_X11_kindFor : List (Nat × ix_Op) := [
  (0, ix_aload 0 1),
  (1, ix_iload 1 2),
  (2, oc_X11_isBoat 5),
  (5, ix_if (fun x => x = 0) 30 8),
  (8, ix_iload 2 9),
  (9, oc_X11_isBehind 12),
  (12, ix_if (fun x => x = 0) 30 15),
  (15, ix_aload 0 16),
  (16, ix_iload 1 17),
  (17, ix_push (vi 0) 18),
  (18, oc_X11_boatAt 21),
  (21, ix_push (vi 7) 23),
  (23, ix_iload 2 24),
  (24, oc_X11_mostBy 27),
  (27, ix_goto 36),
  (30, ix_aload 0 31),
  (31, ix_push (vi (-1000000001)) 33),
  (33, oc_X11_finding 36),
  (36, ix_iret)]
set_option maxRecDepth 20000 in
theorem a_X11_kindFor (l : Launch) : ix_AllS l cX11_kindFor 3 RX11 60 (some .int) o_X11_kindFor :=
  .cons (ix_s_aload_n dX11_kindFor_0 rfl) <|
  .cons (ix_s_iload_n dX11_kindFor_1 rfl) <|
  .cons (oc_X11_isBoat_s (ix_s_callv (t := 10) (k_X11_isBoat l) (by decide) (by decide) tw_1135 tw_12 tw_1132 tw_1134 tp_37 ⟨by decide, by decide, by decide +kernel⟩ (by decide) rfl rfl (fun _ => ⟨_, _, rfl, rfl⟩) dX11_kindFor_2)) <|
  .cons (ix_s_if_eq dX11_kindFor_5 (by decide)) <|
  .cons (ix_s_iload_n dX11_kindFor_8 rfl) <|
  .cons (oc_X11_isBehind_s (ix_s_calls (k_X11_isBehind l) (by decide) (by decide) tw_1218 tw_12 tw_1216 tw_1217 ⟨by decide, by decide, by decide +kernel⟩ (fun _ => rfl) dX11_kindFor_9)) <|
  .cons (ix_s_if_eq dX11_kindFor_12 (by decide)) <|
  .cons (ix_s_aload_n dX11_kindFor_15 rfl) <|
  .cons (ix_s_iload_n dX11_kindFor_16 rfl) <|
  .cons (ix_s_iconst dX11_kindFor_17 (by decide +kernel)) <|
  .cons (oc_X11_boatAt_s (ix_s_calls (k_X11_boatAt l) (by decide) (by decide) tw_1086 tw_12 tw_1084 tw_1085 ⟨by decide, by decide, by decide +kernel⟩ (fun _ => rfl) dX11_kindFor_18)) <|
  .cons (ix_s_bipush dX11_kindFor_21 (by decide +kernel)) <|
  .cons (ix_s_iload_n dX11_kindFor_23 rfl) <|
  .cons (oc_X11_mostBy_s (ix_s_callv (t := 10) (k_X11_mostBy l) (by decide) (by decide) tw_1246 tw_12 tw_1243 tw_1245 tp_51 ⟨by decide, by decide, by decide +kernel⟩ (by decide) rfl rfl (fun _ => ⟨_, _, rfl, rfl⟩) dX11_kindFor_24)) <|
  .cons (ix_s_goto dX11_kindFor_27 (by decide)) <|
  .cons (ix_s_aload_n dX11_kindFor_30 rfl) <|
  .cons (ix_s_ldc tw_961 dX11_kindFor_31) <|
  .cons (oc_X11_finding_s (ix_s_callv (t := 10) (k_X11_finding l) (by decide) (by decide) tw_965 tw_12 tw_962 tw_964 tp_18 ⟨by decide, by decide, by decide +kernel⟩ (by decide) rfl rfl (fun _ => ⟨_, _, rfl, rfl⟩) dX11_kindFor_33)) <|
  .cons (ix_s_iret dX11_kindFor_36 rfl) <| .nil
theorem e_X11_kindFor_0 (Q : ix_R → Prop) (ls : ix_L) (st : List ix_V) (μ : ix_M) : ix_Ev o_X11_kindFor Q (0, ls, st, μ) = ix_aload 0 1 (ix_Ev o_X11_kindFor Q) Q ls st μ := ix_Ev.eq (a_X11_kindFor launch0) rfl ls st μ
theorem e_X11_kindFor_1 (Q : ix_R → Prop) (ls : ix_L) (st : List ix_V) (μ : ix_M) : ix_Ev o_X11_kindFor Q (1, ls, st, μ) = ix_iload 1 2 (ix_Ev o_X11_kindFor Q) Q ls st μ := ix_Ev.eq (a_X11_kindFor launch0) rfl ls st μ
theorem e_X11_kindFor_2 (Q : ix_R → Prop) (ls : ix_L) (st : List ix_V) (μ : ix_M) : ix_Ev o_X11_kindFor Q (2, ls, st, μ) = oc_X11_isBoat 5 (ix_Ev o_X11_kindFor Q) Q ls st μ := ix_Ev.eq (a_X11_kindFor launch0) rfl ls st μ
theorem e_X11_kindFor_5 (Q : ix_R → Prop) (ls : ix_L) (st : List ix_V) (μ : ix_M) : ix_Ev o_X11_kindFor Q (5, ls, st, μ) = ix_if (fun x => x = 0) 30 8 (ix_Ev o_X11_kindFor Q) Q ls st μ := ix_Ev.eq (a_X11_kindFor launch0) rfl ls st μ
theorem e_X11_kindFor_8 (Q : ix_R → Prop) (ls : ix_L) (st : List ix_V) (μ : ix_M) : ix_Ev o_X11_kindFor Q (8, ls, st, μ) = ix_iload 2 9 (ix_Ev o_X11_kindFor Q) Q ls st μ := ix_Ev.eq (a_X11_kindFor launch0) rfl ls st μ
theorem e_X11_kindFor_9 (Q : ix_R → Prop) (ls : ix_L) (st : List ix_V) (μ : ix_M) : ix_Ev o_X11_kindFor Q (9, ls, st, μ) = oc_X11_isBehind 12 (ix_Ev o_X11_kindFor Q) Q ls st μ := ix_Ev.eq (a_X11_kindFor launch0) rfl ls st μ
theorem e_X11_kindFor_12 (Q : ix_R → Prop) (ls : ix_L) (st : List ix_V) (μ : ix_M) : ix_Ev o_X11_kindFor Q (12, ls, st, μ) = ix_if (fun x => x = 0) 30 15 (ix_Ev o_X11_kindFor Q) Q ls st μ := ix_Ev.eq (a_X11_kindFor launch0) rfl ls st μ
theorem e_X11_kindFor_15 (Q : ix_R → Prop) (ls : ix_L) (st : List ix_V) (μ : ix_M) : ix_Ev o_X11_kindFor Q (15, ls, st, μ) = ix_aload 0 16 (ix_Ev o_X11_kindFor Q) Q ls st μ := ix_Ev.eq (a_X11_kindFor launch0) rfl ls st μ
theorem e_X11_kindFor_16 (Q : ix_R → Prop) (ls : ix_L) (st : List ix_V) (μ : ix_M) : ix_Ev o_X11_kindFor Q (16, ls, st, μ) = ix_iload 1 17 (ix_Ev o_X11_kindFor Q) Q ls st μ := ix_Ev.eq (a_X11_kindFor launch0) rfl ls st μ
theorem e_X11_kindFor_17 (Q : ix_R → Prop) (ls : ix_L) (st : List ix_V) (μ : ix_M) : ix_Ev o_X11_kindFor Q (17, ls, st, μ) = ix_push (vi 0) 18 (ix_Ev o_X11_kindFor Q) Q ls st μ := ix_Ev.eq (a_X11_kindFor launch0) rfl ls st μ
theorem e_X11_kindFor_18 (Q : ix_R → Prop) (ls : ix_L) (st : List ix_V) (μ : ix_M) : ix_Ev o_X11_kindFor Q (18, ls, st, μ) = oc_X11_boatAt 21 (ix_Ev o_X11_kindFor Q) Q ls st μ := ix_Ev.eq (a_X11_kindFor launch0) rfl ls st μ
theorem e_X11_kindFor_21 (Q : ix_R → Prop) (ls : ix_L) (st : List ix_V) (μ : ix_M) : ix_Ev o_X11_kindFor Q (21, ls, st, μ) = ix_push (vi 7) 23 (ix_Ev o_X11_kindFor Q) Q ls st μ := ix_Ev.eq (a_X11_kindFor launch0) rfl ls st μ
theorem e_X11_kindFor_23 (Q : ix_R → Prop) (ls : ix_L) (st : List ix_V) (μ : ix_M) : ix_Ev o_X11_kindFor Q (23, ls, st, μ) = ix_iload 2 24 (ix_Ev o_X11_kindFor Q) Q ls st μ := ix_Ev.eq (a_X11_kindFor launch0) rfl ls st μ
theorem e_X11_kindFor_24 (Q : ix_R → Prop) (ls : ix_L) (st : List ix_V) (μ : ix_M) : ix_Ev o_X11_kindFor Q (24, ls, st, μ) = oc_X11_mostBy 27 (ix_Ev o_X11_kindFor Q) Q ls st μ := ix_Ev.eq (a_X11_kindFor launch0) rfl ls st μ
theorem e_X11_kindFor_27 (Q : ix_R → Prop) (ls : ix_L) (st : List ix_V) (μ : ix_M) : ix_Ev o_X11_kindFor Q (27, ls, st, μ) = ix_goto 36 (ix_Ev o_X11_kindFor Q) Q ls st μ := ix_Ev.eq (a_X11_kindFor launch0) rfl ls st μ
theorem e_X11_kindFor_30 (Q : ix_R → Prop) (ls : ix_L) (st : List ix_V) (μ : ix_M) : ix_Ev o_X11_kindFor Q (30, ls, st, μ) = ix_aload 0 31 (ix_Ev o_X11_kindFor Q) Q ls st μ := ix_Ev.eq (a_X11_kindFor launch0) rfl ls st μ
theorem e_X11_kindFor_31 (Q : ix_R → Prop) (ls : ix_L) (st : List ix_V) (μ : ix_M) : ix_Ev o_X11_kindFor Q (31, ls, st, μ) = ix_push (vi (-1000000001)) 33 (ix_Ev o_X11_kindFor Q) Q ls st μ := ix_Ev.eq (a_X11_kindFor launch0) rfl ls st μ
theorem e_X11_kindFor_33 (Q : ix_R → Prop) (ls : ix_L) (st : List ix_V) (μ : ix_M) : ix_Ev o_X11_kindFor Q (33, ls, st, μ) = oc_X11_finding 36 (ix_Ev o_X11_kindFor Q) Q ls st μ := ix_Ev.eq (a_X11_kindFor launch0) rfl ls st μ
theorem e_X11_kindFor_36 (Q : ix_R → Prop) (ls : ix_L) (st : List ix_V) (μ : ix_M) : ix_Ev o_X11_kindFor Q (36, ls, st, μ) = ix_iret (ix_Ev o_X11_kindFor Q) Q ls st μ := ix_Ev.eq (a_X11_kindFor launch0) rfl ls st μ
theorem pr_kindFor (b : Int32) (n : Int32) (μ : ix_M) (I : Inv μ) (Q : ix_R → Prop) (hQ : ∀ vv μ', ix_Ev o_X11_kindFor (Pst vv) (0, [some (vr 10 112), some (vi b), some (vi n)], [], μ') → Q (some (vi vv), μ')) : ix_Ev o_X10_kindFor Q (0, [some (vr 9 0), some (vi b), some (vi n)], [], μ) := by
  obtain ⟨N, hN, n1, n2⟩ := I.n
  rcases inB b hN with ⟨B, hB, rfl, B1, B2, B3, B4⟩ | ⟨hx1, hx2⟩
  · have Bc : (nI B).toNatClampNeg = B := nI_clamp (by omega)
    rcases inR n 60 (by decide) with ⟨K, hK, rfl⟩ | ⟨hx1, hx2⟩
    · obtain ⟨K1, K2, K3, K4⟩ : ¬ nI K < 0 ∧ ¬ (60 : Int32) < nI K ∧ 0 ≤ nI K ∧ nI K ≤ (60 : Int32) := rgN hK (by decide)
      have Kc : (nI K).toNatClampNeg = K := nI_clamp (by omega)
      obtain ⟨M, hM, hR, m1, m2⟩ := I.mi
      obtain ⟨ds, dl, hL, x1, x2⟩ := I.tx
      simp (decide := true) only [e_X10_kindFor_0, e_X10_kindFor_1, e_X10_kindFor_2, e_X10_kindFor_5, e_X10_kindFor_8, e_X10_kindFor_9, e_X10_kindFor_11, e_X10_kindFor_14, e_X10_kindFor_17, e_X10_kindFor_18, e_X10_kindFor_19, e_X10_kindFor_22, e_X10_kindFor_23, e_X10_kindFor_24, e_X10_kindFor_25, e_X10_kindFor_26, e_X10_kindFor_28, e_X10_kindFor_29, e_X10_kindFor_32, vi, vl, vr, oc_X10_bestOf, T_X10_bestOf, oc_X10_error, T_X10_error, oc_X10_noBoat, T_X10_noBoat, oc_X10_outside, T_X10_outside, ix_push, ix_iload, ix_lload, ix_aload, ix_istore, ix_astore, ix_iinc, ix_bin, ix_div, ix_un, ix_i2l, ix_l2i, ix_lbin, ix_lsh, ix_lcmp, ix_dup, ix_dup2, ix_pop, ix_if, ix_cmp, ix_goto, ix_switch, ix_sw, ix_iret, ix_zret, ix_vret, ix_aret, ix_geti, ix_getr, ix_puti, ix_putz, ix_puts, ix_gets, ix_iald, ix_iast, ix_alen, ix_aald, ix_gval, ix_gcod, ix_bald, ix_blen, ix_sald, ix_nret, ix_math2, ix_math1, ix_acopy, Nat.add_assoc, Int32.reduceLT, Int32.reduceLE, Int32.reduceToNatClampNeg, Int32.reduceSub, Int32.reduceAdd, Nat.reduceAdd, Nat.reduceLeDiff, true_or, or_true, or_false, false_or, not_false_eq_true, not_true_eq_false, false_implies, true_implies, implies_true, and_self, mB_0, mB_01, Classical.not_not, Nat.zero_le, List.getElem?_cons_zero, List.getElem?_cons_succ, List.set_cons_zero, List.set_cons_succ, ix_nl, ix_cs, true_and, and_true, Option.toList_some, Option.toList_none, List.cons_append, List.nil_append, n1, n2, B1, B2, B3, B4, Bc, K1, K2, K3, K4, Kc, ix_up_ne, ix_up_k, ve_1, ve_2, ve_3, ve_4, ve_5]
      refine ⟨M, K, 7, ds, dl, by rw [I.hw]; exact hR.1, rfl, by omega, rfl, by decide, hL, ⟨fun z => absurd z (by decide), fun z => absurd z (by decide), fun _ => vp_in_nI (by omega) (by decide), fun z => absurd z (by decide)⟩, fun μ1 F1 => hQ _ _ ?_⟩
      have I1 := I.scr F1 (by decide)
      have e : μ1 113 = μ 113 := F1 113 (by decide)
      have n3 : μ1 113 1 = nI N := by rw [e]; exact n2
      have q1 : bix (nI B) 0 = nI (nvI 4 B) := bix_at (b := B) (by omega) 0 (by decide)
      simp (decide := true) only [e_X11_kindFor_0, e_X11_kindFor_1, e_X11_kindFor_2, e_X11_kindFor_5, e_X11_kindFor_8, e_X11_kindFor_9, e_X11_kindFor_12, e_X11_kindFor_15, e_X11_kindFor_16, e_X11_kindFor_17, e_X11_kindFor_18, e_X11_kindFor_21, e_X11_kindFor_23, e_X11_kindFor_24, e_X11_kindFor_27, e_X11_kindFor_30, e_X11_kindFor_31, e_X11_kindFor_33, e_X11_kindFor_36, vi, vl, vr, oc_X11_boatAt, T_X11_boatAt, oc_X11_finding, T_X11_finding, oc_X11_isBehind, T_X11_isBehind, oc_X11_isBoat, T_X11_isBoat, oc_X11_mostBy, T_X11_mostBy, ix_push, ix_iload, ix_lload, ix_aload, ix_istore, ix_astore, ix_iinc, ix_bin, ix_div, ix_un, ix_i2l, ix_l2i, ix_lbin, ix_lsh, ix_lcmp, ix_dup, ix_dup2, ix_pop, ix_if, ix_cmp, ix_goto, ix_switch, ix_sw, ix_iret, ix_zret, ix_vret, ix_aret, ix_geti, ix_getr, ix_puti, ix_putz, ix_puts, ix_gets, ix_iald, ix_iast, ix_alen, ix_aald, ix_gval, ix_gcod, ix_bald, ix_blen, ix_sald, ix_nret, ix_math2, ix_math1, ix_acopy, ml_113, ml_114, ml_115, ml_116, ml_118, ml_119, ml_120, ml_121, ml_122, ml_123, ml_124, ml_125, ml_126, mv_0, mv_1, mv_2, mv_3, mv_4, mv_5, mB_or, Nat.add_assoc, Int32.reduceLT, Int32.reduceLE, Int32.reduceToNatClampNeg, Int32.reduceSub, Int32.reduceAdd, Nat.reduceAdd, Nat.reduceLeDiff, true_or, or_true, or_false, false_or, not_false_eq_true, not_true_eq_false, false_implies, true_implies, implies_true, and_self, mB_0, mB_01, Classical.not_not, Nat.zero_le, List.getElem?_cons_zero, List.getElem?_cons_succ, List.set_cons_zero, List.set_cons_succ, ix_nl, ix_cs, true_and, and_true, Option.toList_some, Option.toList_none, List.cons_append, List.nil_append, B3, B4, K3, K4, q1, n3, ix_up_ne, ix_up_k, ve_1, ve_2, ve_3, ve_4, ve_5]
      refine ⟨M, K, 7, 4, B, ds, dl, mwOf (by rw [e]; exact hR) (by rw [e]; exact x1) (by rw [e]; exact x2), ⟨wok_4 (by omega), Or.inr (Or.inr (Or.inl rfl))⟩, rfl, rfl, by omega, rfl, by decide, I1.2.2.2.2.2.2.1, fun μ2 F2 R2 => pst ?_ (I1.back F2 R2)⟩
      rw [e, I.hw]
      simp (decide := true) only [supR, supI, if_true, if_false, Bc]
    · have hx1 : n < 0 ∨ (60 : Int32) < n := hx1
      have hx2 : ¬ (0 ≤ n ∧ n ≤ (60 : Int32)) := hx2
      simp (decide := true) only [e_X10_kindFor_0, e_X10_kindFor_1, e_X10_kindFor_2, e_X10_kindFor_5, e_X10_kindFor_8, e_X10_kindFor_9, e_X10_kindFor_11, e_X10_kindFor_14, e_X10_kindFor_17, e_X10_kindFor_18, e_X10_kindFor_19, e_X10_kindFor_22, e_X10_kindFor_23, e_X10_kindFor_24, e_X10_kindFor_25, e_X10_kindFor_26, e_X10_kindFor_28, e_X10_kindFor_29, e_X10_kindFor_32, vi, vl, vr, oc_X10_bestOf, T_X10_bestOf, oc_X10_error, T_X10_error, oc_X10_noBoat, T_X10_noBoat, oc_X10_outside, T_X10_outside, ix_push, ix_iload, ix_lload, ix_aload, ix_istore, ix_astore, ix_iinc, ix_bin, ix_div, ix_un, ix_i2l, ix_l2i, ix_lbin, ix_lsh, ix_lcmp, ix_dup, ix_dup2, ix_pop, ix_if, ix_cmp, ix_goto, ix_switch, ix_sw, ix_iret, ix_zret, ix_vret, ix_aret, ix_geti, ix_getr, ix_puti, ix_putz, ix_puts, ix_gets, ix_iald, ix_iast, ix_alen, ix_aald, ix_gval, ix_gcod, ix_bald, ix_blen, ix_sald, ix_nret, ix_math2, ix_math1, ix_acopy, Nat.add_assoc, Int32.reduceLT, Int32.reduceLE, Int32.reduceToNatClampNeg, Int32.reduceSub, Int32.reduceAdd, Nat.reduceAdd, Nat.reduceLeDiff, true_or, or_true, or_false, false_or, not_false_eq_true, not_true_eq_false, false_implies, true_implies, implies_true, and_self, mB_0, mB_01, Classical.not_not, Nat.zero_le, List.getElem?_cons_zero, List.getElem?_cons_succ, List.set_cons_zero, List.set_cons_succ, ix_nl, ix_cs, true_and, and_true, Option.toList_some, Option.toList_none, List.cons_append, List.nil_append, n1, n2, B1, B2, B3, B4, Bc, hx1, hx2, ix_up_ne, ix_up_k, ve_1, ve_2, ve_3, ve_4, ve_5]
      refine hQ _ _ ?_
      simp (decide := true) only [e_X11_kindFor_0, e_X11_kindFor_1, e_X11_kindFor_2, e_X11_kindFor_5, e_X11_kindFor_8, e_X11_kindFor_9, e_X11_kindFor_12, e_X11_kindFor_15, e_X11_kindFor_16, e_X11_kindFor_17, e_X11_kindFor_18, e_X11_kindFor_21, e_X11_kindFor_23, e_X11_kindFor_24, e_X11_kindFor_27, e_X11_kindFor_30, e_X11_kindFor_31, e_X11_kindFor_33, e_X11_kindFor_36, vi, vl, vr, oc_X11_boatAt, T_X11_boatAt, oc_X11_finding, T_X11_finding, oc_X11_isBehind, T_X11_isBehind, oc_X11_isBoat, T_X11_isBoat, oc_X11_mostBy, T_X11_mostBy, ix_push, ix_iload, ix_lload, ix_aload, ix_istore, ix_astore, ix_iinc, ix_bin, ix_div, ix_un, ix_i2l, ix_l2i, ix_lbin, ix_lsh, ix_lcmp, ix_dup, ix_dup2, ix_pop, ix_if, ix_cmp, ix_goto, ix_switch, ix_sw, ix_iret, ix_zret, ix_vret, ix_aret, ix_geti, ix_getr, ix_puti, ix_putz, ix_puts, ix_gets, ix_iald, ix_iast, ix_alen, ix_aald, ix_gval, ix_gcod, ix_bald, ix_blen, ix_sald, ix_nret, ix_math2, ix_math1, ix_acopy, ml_113, ml_114, ml_115, ml_116, ml_118, ml_119, ml_120, ml_121, ml_122, ml_123, ml_124, ml_125, ml_126, mv_0, mv_1, mv_2, mv_3, mv_4, mv_5, mB_or, Nat.add_assoc, Int32.reduceLT, Int32.reduceLE, Int32.reduceToNatClampNeg, Int32.reduceSub, Int32.reduceAdd, Nat.reduceAdd, Nat.reduceLeDiff, true_or, or_true, or_false, false_or, not_false_eq_true, not_true_eq_false, false_implies, true_implies, implies_true, and_self, mB_0, mB_01, Classical.not_not, Nat.zero_le, List.getElem?_cons_zero, List.getElem?_cons_succ, List.set_cons_zero, List.set_cons_succ, ix_nl, ix_cs, true_and, and_true, Option.toList_some, Option.toList_none, List.cons_append, List.nil_append, n1, n2, B1, B2, B3, B4, Bc, hx1, hx2, ix_up_ne, ix_up_k, ve_1, ve_2, ve_3, ve_4, ve_5]
      repeat' (first | exact I.er 1 (by decide) | refine ⟨fun _ => ?_, fun _ => ?_⟩)
  · simp (decide := true) only [e_X10_kindFor_0, e_X10_kindFor_1, e_X10_kindFor_2, e_X10_kindFor_5, e_X10_kindFor_8, e_X10_kindFor_9, e_X10_kindFor_11, e_X10_kindFor_14, e_X10_kindFor_17, e_X10_kindFor_18, e_X10_kindFor_19, e_X10_kindFor_22, e_X10_kindFor_23, e_X10_kindFor_24, e_X10_kindFor_25, e_X10_kindFor_26, e_X10_kindFor_28, e_X10_kindFor_29, e_X10_kindFor_32, vi, vl, vr, oc_X10_bestOf, T_X10_bestOf, oc_X10_error, T_X10_error, oc_X10_noBoat, T_X10_noBoat, oc_X10_outside, T_X10_outside, ix_push, ix_iload, ix_lload, ix_aload, ix_istore, ix_astore, ix_iinc, ix_bin, ix_div, ix_un, ix_i2l, ix_l2i, ix_lbin, ix_lsh, ix_lcmp, ix_dup, ix_dup2, ix_pop, ix_if, ix_cmp, ix_goto, ix_switch, ix_sw, ix_iret, ix_zret, ix_vret, ix_aret, ix_geti, ix_getr, ix_puti, ix_putz, ix_puts, ix_gets, ix_iald, ix_iast, ix_alen, ix_aald, ix_gval, ix_gcod, ix_bald, ix_blen, ix_sald, ix_nret, ix_math2, ix_math1, ix_acopy, Nat.add_assoc, Int32.reduceLT, Int32.reduceLE, Int32.reduceToNatClampNeg, Int32.reduceSub, Int32.reduceAdd, Nat.reduceAdd, Nat.reduceLeDiff, true_or, or_true, or_false, false_or, not_false_eq_true, not_true_eq_false, false_implies, true_implies, implies_true, and_self, mB_0, mB_01, Classical.not_not, Nat.zero_le, List.getElem?_cons_zero, List.getElem?_cons_succ, List.set_cons_zero, List.set_cons_succ, ix_nl, ix_cs, true_and, and_true, Option.toList_some, Option.toList_none, List.cons_append, List.nil_append, n1, n2, hx1, hx2, ix_up_ne, ix_up_k, ve_1, ve_2, ve_3, ve_4, ve_5]
    refine hQ _ _ ?_
    simp (decide := true) only [e_X11_kindFor_0, e_X11_kindFor_1, e_X11_kindFor_2, e_X11_kindFor_5, e_X11_kindFor_8, e_X11_kindFor_9, e_X11_kindFor_12, e_X11_kindFor_15, e_X11_kindFor_16, e_X11_kindFor_17, e_X11_kindFor_18, e_X11_kindFor_21, e_X11_kindFor_23, e_X11_kindFor_24, e_X11_kindFor_27, e_X11_kindFor_30, e_X11_kindFor_31, e_X11_kindFor_33, e_X11_kindFor_36, vi, vl, vr, oc_X11_boatAt, T_X11_boatAt, oc_X11_finding, T_X11_finding, oc_X11_isBehind, T_X11_isBehind, oc_X11_isBoat, T_X11_isBoat, oc_X11_mostBy, T_X11_mostBy, ix_push, ix_iload, ix_lload, ix_aload, ix_istore, ix_astore, ix_iinc, ix_bin, ix_div, ix_un, ix_i2l, ix_l2i, ix_lbin, ix_lsh, ix_lcmp, ix_dup, ix_dup2, ix_pop, ix_if, ix_cmp, ix_goto, ix_switch, ix_sw, ix_iret, ix_zret, ix_vret, ix_aret, ix_geti, ix_getr, ix_puti, ix_putz, ix_puts, ix_gets, ix_iald, ix_iast, ix_alen, ix_aald, ix_gval, ix_gcod, ix_bald, ix_blen, ix_sald, ix_nret, ix_math2, ix_math1, ix_acopy, ml_113, ml_114, ml_115, ml_116, ml_118, ml_119, ml_120, ml_121, ml_122, ml_123, ml_124, ml_125, ml_126, mv_0, mv_1, mv_2, mv_3, mv_4, mv_5, mB_or, Nat.add_assoc, Int32.reduceLT, Int32.reduceLE, Int32.reduceToNatClampNeg, Int32.reduceSub, Int32.reduceAdd, Nat.reduceAdd, Nat.reduceLeDiff, true_or, or_true, or_false, false_or, not_false_eq_true, not_true_eq_false, false_implies, true_implies, implies_true, and_self, mB_0, mB_01, Classical.not_not, Nat.zero_le, List.getElem?_cons_zero, List.getElem?_cons_succ, List.set_cons_zero, List.set_cons_succ, ix_nl, ix_cs, true_and, and_true, Option.toList_some, Option.toList_none, List.cons_append, List.nil_append, n1, n2, hx1, hx2, ix_up_ne, ix_up_k, ve_1, ve_2, ve_3, ve_4, ve_5]
    repeat' (first | exact I.er 1 (by decide) | refine ⟨fun _ => ?_, fun _ => ?_⟩)
theorem pIt_2 {μ : ix_M} {w : Nat} {v : WV} (h : wv μ w = v) {i : Nat} (hi : i < 16) : μ (w + 2) i = v 2 i := by
  rw [← h, wv_at (wok_2 hi)]
def o_X10_then : List (Nat × ix_Op) := [
  (0, ix_iload 1 1),
  (1, ix_push (vi 60) 3),
  (3, oc_X10_outside 6),
  (6, ix_if (fun x => x = 0) 9 17),
  (9, ix_iload 2 10),
  (10, ix_push (vi 1) 11),
  (11, oc_X10_outside 14),
  (14, ix_if (fun x => x = 0) 23 17),
  (17, ix_aload 0 18),
  (18, ix_push (vi 1) 19),
  (19, oc_X10_error 22),
  (22, ix_iret),
  (23, ix_aload 0 24),
  (24, oc_X10_think 27),
  (27, ix_astore 3 28),
  (28, ix_aload 0 29),
  (29, ix_aload 3 30),
  (30, ix_iload 1 31),
  (31, oc_X10_hadBehind 34),
  (34, ix_istore 4 36),
  (36, ix_iload 2 37),
  (37, ix_if (fun x => x = 0) 40 45),
  (40, ix_iload 4 42),
  (42, ix_goto 49),
  (45, ix_aload 3 46),
  (46, oc_X9_lying 49),
  (49, ix_iret)]
set_option maxRecDepth 20000 in
theorem a_X10_then (l : Launch) : ix_AllS l cX10_then 5 RX10 60 (some .int) o_X10_then :=
  .cons (ix_s_iload_n dX10_then_0 rfl) <|
  .cons (ix_s_bipush dX10_then_1 (by decide +kernel)) <|
  .cons (oc_X10_outside_s (ix_s_calls (k_X10_outside l) (by decide) (by decide) tw_291 tw_1 tw_289 tw_290 ⟨by decide, by decide, by decide +kernel⟩ (fun _ => rfl) dX10_then_3)) <|
  .cons (ix_s_if_ne dX10_then_6 (by decide)) <|
  .cons (ix_s_iload_n dX10_then_9 rfl) <|
  .cons (ix_s_iconst dX10_then_10 (by decide +kernel)) <|
  .cons (oc_X10_outside_s (ix_s_calls (k_X10_outside l) (by decide) (by decide) tw_291 tw_1 tw_289 tw_290 ⟨by decide, by decide, by decide +kernel⟩ (fun _ => rfl) dX10_then_11)) <|
  .cons (ix_s_if_eq dX10_then_14 (by decide)) <|
  .cons (ix_s_aload_n dX10_then_17 rfl) <|
  .cons (ix_s_iconst dX10_then_18 (by decide +kernel)) <|
  .cons (oc_X10_error_s (ix_s_callv (t := 9) (k_X10_error l) (by decide) (by decide) tw_295 tw_1 tw_292 tw_294 tp_0 ⟨by decide, by decide, by decide +kernel⟩ (by decide) rfl rfl (fun _ => ⟨_, _, rfl, rfl⟩) dX10_then_19)) <|
  .cons (ix_s_iret dX10_then_22 rfl) <|
  .cons (ix_s_aload_n dX10_then_23 rfl) <|
  .cons (oc_X10_think_s (ix_s_callv (t := 9) (k_X10_think l) (by decide) (by decide) tw_638 tw_1 tw_635 tw_637 tp_8 ⟨by decide, by decide, by decide +kernel⟩ (by decide) rfl rfl (fun _ => ⟨_, _, rfl, rfl⟩) dX10_then_24)) <|
  .cons (ix_s_astore_n dX10_then_27 rfl (by decide)) <|
  .cons (ix_s_aload_n dX10_then_28 rfl) <|
  .cons (ix_s_aload_n dX10_then_29 rfl) <|
  .cons (ix_s_iload_n dX10_then_30 rfl) <|
  .cons (oc_X10_hadBehind_s (ix_s_callv (t := 9) (k_X10_hadBehind l) (by decide) (by decide) tw_595 tw_1 tw_592 tw_594 tp_7 ⟨by decide, by decide, by decide +kernel⟩ (by decide) rfl rfl (fun _ => ⟨_, _, rfl, rfl⟩) dX10_then_31)) <|
  .cons (ix_s_istore dX10_then_34 (by decide)) <|
  .cons (ix_s_iload_n dX10_then_36 rfl) <|
  .cons (ix_s_if_ne dX10_then_37 (by decide)) <|
  .cons (ix_s_iload dX10_then_40) <|
  .cons (ix_s_goto dX10_then_42 (by decide)) <|
  .cons (ix_s_aload_n dX10_then_45 rfl) <|
  .cons (oc_X9_lying_s (ix_s_callv (t := 8) (k_X9_lying l) (by decide) (by decide) tw_647 tw_3 tw_644 tw_645 tw_646 ⟨by decide, by decide, by decide +kernel⟩ (by decide) rfl rfl (fun _ => ⟨_, _, rfl, rfl⟩) dX10_then_46)) <|
  .cons (ix_s_iret dX10_then_49 rfl) <| .nil
theorem e_X10_then_0 (Q : ix_R → Prop) (ls : ix_L) (st : List ix_V) (μ : ix_M) : ix_Ev o_X10_then Q (0, ls, st, μ) = ix_iload 1 1 (ix_Ev o_X10_then Q) Q ls st μ := ix_Ev.eq (a_X10_then launch0) rfl ls st μ
theorem e_X10_then_1 (Q : ix_R → Prop) (ls : ix_L) (st : List ix_V) (μ : ix_M) : ix_Ev o_X10_then Q (1, ls, st, μ) = ix_push (vi 60) 3 (ix_Ev o_X10_then Q) Q ls st μ := ix_Ev.eq (a_X10_then launch0) rfl ls st μ
theorem e_X10_then_3 (Q : ix_R → Prop) (ls : ix_L) (st : List ix_V) (μ : ix_M) : ix_Ev o_X10_then Q (3, ls, st, μ) = oc_X10_outside 6 (ix_Ev o_X10_then Q) Q ls st μ := ix_Ev.eq (a_X10_then launch0) rfl ls st μ
theorem e_X10_then_6 (Q : ix_R → Prop) (ls : ix_L) (st : List ix_V) (μ : ix_M) : ix_Ev o_X10_then Q (6, ls, st, μ) = ix_if (fun x => x = 0) 9 17 (ix_Ev o_X10_then Q) Q ls st μ := ix_Ev.eq (a_X10_then launch0) rfl ls st μ
theorem e_X10_then_9 (Q : ix_R → Prop) (ls : ix_L) (st : List ix_V) (μ : ix_M) : ix_Ev o_X10_then Q (9, ls, st, μ) = ix_iload 2 10 (ix_Ev o_X10_then Q) Q ls st μ := ix_Ev.eq (a_X10_then launch0) rfl ls st μ
theorem e_X10_then_10 (Q : ix_R → Prop) (ls : ix_L) (st : List ix_V) (μ : ix_M) : ix_Ev o_X10_then Q (10, ls, st, μ) = ix_push (vi 1) 11 (ix_Ev o_X10_then Q) Q ls st μ := ix_Ev.eq (a_X10_then launch0) rfl ls st μ
theorem e_X10_then_11 (Q : ix_R → Prop) (ls : ix_L) (st : List ix_V) (μ : ix_M) : ix_Ev o_X10_then Q (11, ls, st, μ) = oc_X10_outside 14 (ix_Ev o_X10_then Q) Q ls st μ := ix_Ev.eq (a_X10_then launch0) rfl ls st μ
theorem e_X10_then_14 (Q : ix_R → Prop) (ls : ix_L) (st : List ix_V) (μ : ix_M) : ix_Ev o_X10_then Q (14, ls, st, μ) = ix_if (fun x => x = 0) 23 17 (ix_Ev o_X10_then Q) Q ls st μ := ix_Ev.eq (a_X10_then launch0) rfl ls st μ
theorem e_X10_then_17 (Q : ix_R → Prop) (ls : ix_L) (st : List ix_V) (μ : ix_M) : ix_Ev o_X10_then Q (17, ls, st, μ) = ix_aload 0 18 (ix_Ev o_X10_then Q) Q ls st μ := ix_Ev.eq (a_X10_then launch0) rfl ls st μ
theorem e_X10_then_18 (Q : ix_R → Prop) (ls : ix_L) (st : List ix_V) (μ : ix_M) : ix_Ev o_X10_then Q (18, ls, st, μ) = ix_push (vi 1) 19 (ix_Ev o_X10_then Q) Q ls st μ := ix_Ev.eq (a_X10_then launch0) rfl ls st μ
theorem e_X10_then_19 (Q : ix_R → Prop) (ls : ix_L) (st : List ix_V) (μ : ix_M) : ix_Ev o_X10_then Q (19, ls, st, μ) = oc_X10_error 22 (ix_Ev o_X10_then Q) Q ls st μ := ix_Ev.eq (a_X10_then launch0) rfl ls st μ
theorem e_X10_then_22 (Q : ix_R → Prop) (ls : ix_L) (st : List ix_V) (μ : ix_M) : ix_Ev o_X10_then Q (22, ls, st, μ) = ix_iret (ix_Ev o_X10_then Q) Q ls st μ := ix_Ev.eq (a_X10_then launch0) rfl ls st μ
theorem e_X10_then_23 (Q : ix_R → Prop) (ls : ix_L) (st : List ix_V) (μ : ix_M) : ix_Ev o_X10_then Q (23, ls, st, μ) = ix_aload 0 24 (ix_Ev o_X10_then Q) Q ls st μ := ix_Ev.eq (a_X10_then launch0) rfl ls st μ
theorem e_X10_then_24 (Q : ix_R → Prop) (ls : ix_L) (st : List ix_V) (μ : ix_M) : ix_Ev o_X10_then Q (24, ls, st, μ) = oc_X10_think 27 (ix_Ev o_X10_then Q) Q ls st μ := ix_Ev.eq (a_X10_then launch0) rfl ls st μ
theorem e_X10_then_27 (Q : ix_R → Prop) (ls : ix_L) (st : List ix_V) (μ : ix_M) : ix_Ev o_X10_then Q (27, ls, st, μ) = ix_astore 3 28 (ix_Ev o_X10_then Q) Q ls st μ := ix_Ev.eq (a_X10_then launch0) rfl ls st μ
theorem e_X10_then_28 (Q : ix_R → Prop) (ls : ix_L) (st : List ix_V) (μ : ix_M) : ix_Ev o_X10_then Q (28, ls, st, μ) = ix_aload 0 29 (ix_Ev o_X10_then Q) Q ls st μ := ix_Ev.eq (a_X10_then launch0) rfl ls st μ
theorem e_X10_then_29 (Q : ix_R → Prop) (ls : ix_L) (st : List ix_V) (μ : ix_M) : ix_Ev o_X10_then Q (29, ls, st, μ) = ix_aload 3 30 (ix_Ev o_X10_then Q) Q ls st μ := ix_Ev.eq (a_X10_then launch0) rfl ls st μ
theorem e_X10_then_30 (Q : ix_R → Prop) (ls : ix_L) (st : List ix_V) (μ : ix_M) : ix_Ev o_X10_then Q (30, ls, st, μ) = ix_iload 1 31 (ix_Ev o_X10_then Q) Q ls st μ := ix_Ev.eq (a_X10_then launch0) rfl ls st μ
theorem e_X10_then_31 (Q : ix_R → Prop) (ls : ix_L) (st : List ix_V) (μ : ix_M) : ix_Ev o_X10_then Q (31, ls, st, μ) = oc_X10_hadBehind 34 (ix_Ev o_X10_then Q) Q ls st μ := ix_Ev.eq (a_X10_then launch0) rfl ls st μ
theorem e_X10_then_34 (Q : ix_R → Prop) (ls : ix_L) (st : List ix_V) (μ : ix_M) : ix_Ev o_X10_then Q (34, ls, st, μ) = ix_istore 4 36 (ix_Ev o_X10_then Q) Q ls st μ := ix_Ev.eq (a_X10_then launch0) rfl ls st μ
theorem e_X10_then_36 (Q : ix_R → Prop) (ls : ix_L) (st : List ix_V) (μ : ix_M) : ix_Ev o_X10_then Q (36, ls, st, μ) = ix_iload 2 37 (ix_Ev o_X10_then Q) Q ls st μ := ix_Ev.eq (a_X10_then launch0) rfl ls st μ
theorem e_X10_then_37 (Q : ix_R → Prop) (ls : ix_L) (st : List ix_V) (μ : ix_M) : ix_Ev o_X10_then Q (37, ls, st, μ) = ix_if (fun x => x = 0) 40 45 (ix_Ev o_X10_then Q) Q ls st μ := ix_Ev.eq (a_X10_then launch0) rfl ls st μ
theorem e_X10_then_40 (Q : ix_R → Prop) (ls : ix_L) (st : List ix_V) (μ : ix_M) : ix_Ev o_X10_then Q (40, ls, st, μ) = ix_iload 4 42 (ix_Ev o_X10_then Q) Q ls st μ := ix_Ev.eq (a_X10_then launch0) rfl ls st μ
theorem e_X10_then_42 (Q : ix_R → Prop) (ls : ix_L) (st : List ix_V) (μ : ix_M) : ix_Ev o_X10_then Q (42, ls, st, μ) = ix_goto 49 (ix_Ev o_X10_then Q) Q ls st μ := ix_Ev.eq (a_X10_then launch0) rfl ls st μ
theorem e_X10_then_45 (Q : ix_R → Prop) (ls : ix_L) (st : List ix_V) (μ : ix_M) : ix_Ev o_X10_then Q (45, ls, st, μ) = ix_aload 3 46 (ix_Ev o_X10_then Q) Q ls st μ := ix_Ev.eq (a_X10_then launch0) rfl ls st μ
theorem e_X10_then_46 (Q : ix_R → Prop) (ls : ix_L) (st : List ix_V) (μ : ix_M) : ix_Ev o_X10_then Q (46, ls, st, μ) = oc_X9_lying 49 (ix_Ev o_X10_then Q) Q ls st μ := ix_Ev.eq (a_X10_then launch0) rfl ls st μ
theorem e_X10_then_49 (Q : ix_R → Prop) (ls : ix_L) (st : List ix_V) (μ : ix_M) : ix_Ev o_X10_then Q (49, ls, st, μ) = ix_iret (ix_Ev o_X10_then Q) Q ls st μ := ix_Ev.eq (a_X10_then launch0) rfl ls st μ
def o_X11_then : List (Nat × ix_Op) := [
  (0, ix_iload 1 1),
  (1, oc_X11_isBehind 4),
  (4, ix_if (fun x => x = 0) 16 7),
  (7, ix_iload 2 8),
  (8, ix_push (vi 0) 9),
  (9, ix_push (vi 1) 10),
  (10, oc_X11_within 13),
  (13, ix_if (fun x => x = 0) 16 23),
  (16, ix_aload 0 17),
  (17, ix_push (vi (-1000000001)) 19),
  (19, oc_X11_finding 22),
  (22, ix_iret),
  (23, ix_aload 0 24),
  (24, ix_getr 10 20 (fun _ => 113) 27),
  (27, ix_aload 0 28),
  (28, ix_getr 10 20 (fun _ => 115) 31),
  (31, oc_X11_copy 34),
  (34, ix_aload 0 35),
  (35, ix_iload 1 36),
  (36, oc_X11_minutesGo 39),
  (39, ix_istore 3 40),
  (40, ix_aload 0 41),
  (41, ix_iload 2 42),
  (42, ix_if (fun x => x = 0) 45 49),
  (45, ix_iload 3 46),
  (46, ix_goto 53),
  (49, ix_aload 0 50),
  (50, oc_X11_stuff 53),
  (53, oc_X11_putBack 56),
  (56, ix_iret)]
set_option maxRecDepth 20000 in
theorem a_X11_then (l : Launch) : ix_AllS l cX11_then 4 RX11 60 (some .int) o_X11_then :=
  .cons (ix_s_iload_n dX11_then_0 rfl) <|
  .cons (oc_X11_isBehind_s (ix_s_calls (k_X11_isBehind l) (by decide) (by decide) tw_1218 tw_12 tw_1216 tw_1217 ⟨by decide, by decide, by decide +kernel⟩ (fun _ => rfl) dX11_then_1)) <|
  .cons (ix_s_if_eq dX11_then_4 (by decide)) <|
  .cons (ix_s_iload_n dX11_then_7 rfl) <|
  .cons (ix_s_iconst dX11_then_8 (by decide +kernel)) <|
  .cons (ix_s_iconst dX11_then_9 (by decide +kernel)) <|
  .cons (oc_X11_within_s (ix_s_calls (k_X11_within l) (by decide) (by decide) tw_960 tw_12 tw_958 tw_959 ⟨by decide, by decide, by decide +kernel⟩ (fun _ => rfl) dX11_then_10)) <|
  .cons (ix_s_if_ne dX11_then_13 (by decide)) <|
  .cons (ix_s_aload_n dX11_then_16 rfl) <|
  .cons (ix_s_ldc tw_961 dX11_then_17) <|
  .cons (oc_X11_finding_s (ix_s_callv (t := 10) (k_X11_finding l) (by decide) (by decide) tw_965 tw_12 tw_962 tw_964 tp_18 ⟨by decide, by decide, by decide +kernel⟩ (by decide) rfl rfl (fun _ => ⟨_, _, rfl, rfl⟩) dX11_then_19)) <|
  .cons (ix_s_iret dX11_then_22 rfl) <|
  .cons (ix_s_aload_n dX11_then_23 rfl) <|
  .cons (ix_s_getr (j := 0) tu_X11 rfl (by decide) (by decide) tw_875 rfl ts_10_0_r dX11_then_24) <|
  .cons (ix_s_aload_n dX11_then_27 rfl) <|
  .cons (ix_s_getr (j := 2) tu_X11 rfl (by decide) (by decide) tw_877 rfl ts_10_2_r dX11_then_28) <|
  .cons (oc_X11_copy_s (ix_s_calls (k_X11_copy l) (by decide) (by decide) tw_1221 tw_12 tw_1219 tw_1220 ⟨by decide, by decide, by decide +kernel⟩ (fun _ => rfl) dX11_then_31)) <|
  .cons (ix_s_aload_n dX11_then_34 rfl) <|
  .cons (ix_s_iload_n dX11_then_35 rfl) <|
  .cons (oc_X11_minutesGo_s (ix_s_callv (t := 10) (k_X11_minutesGo l) (by decide) (by decide) tw_1187 tw_12 tw_1184 tw_1186 tp_44 ⟨by decide, by decide, by decide +kernel⟩ (by decide) rfl rfl (fun _ => ⟨_, _, rfl, rfl⟩) dX11_then_36)) <|
  .cons (ix_s_istore_n dX11_then_39 rfl (by decide)) <|
  .cons (ix_s_aload_n dX11_then_40 rfl) <|
  .cons (ix_s_iload_n dX11_then_41 rfl) <|
  .cons (ix_s_if_ne dX11_then_42 (by decide)) <|
  .cons (ix_s_iload_n dX11_then_45 rfl) <|
  .cons (ix_s_goto dX11_then_46 (by decide)) <|
  .cons (ix_s_aload_n dX11_then_49 rfl) <|
  .cons (oc_X11_stuff_s (ix_s_callv (t := 10) (k_X11_stuff l) (by decide) (by decide) tw_1225 tw_12 tw_1222 tw_1224 tp_49 ⟨by decide, by decide, by decide +kernel⟩ (by decide) rfl rfl (fun _ => ⟨_, _, rfl, rfl⟩) dX11_then_50)) <|
  .cons (oc_X11_putBack_s (ix_s_callv (t := 10) (k_X11_putBack l) (by decide) (by decide) tw_1229 tw_12 tw_1226 tw_1228 tp_50 ⟨by decide, by decide, by decide +kernel⟩ (by decide) rfl rfl (fun _ => ⟨_, _, rfl, rfl⟩) dX11_then_53)) <|
  .cons (ix_s_iret dX11_then_56 rfl) <| .nil
theorem e_X11_then_0 (Q : ix_R → Prop) (ls : ix_L) (st : List ix_V) (μ : ix_M) : ix_Ev o_X11_then Q (0, ls, st, μ) = ix_iload 1 1 (ix_Ev o_X11_then Q) Q ls st μ := ix_Ev.eq (a_X11_then launch0) rfl ls st μ
theorem e_X11_then_1 (Q : ix_R → Prop) (ls : ix_L) (st : List ix_V) (μ : ix_M) : ix_Ev o_X11_then Q (1, ls, st, μ) = oc_X11_isBehind 4 (ix_Ev o_X11_then Q) Q ls st μ := ix_Ev.eq (a_X11_then launch0) rfl ls st μ
theorem e_X11_then_4 (Q : ix_R → Prop) (ls : ix_L) (st : List ix_V) (μ : ix_M) : ix_Ev o_X11_then Q (4, ls, st, μ) = ix_if (fun x => x = 0) 16 7 (ix_Ev o_X11_then Q) Q ls st μ := ix_Ev.eq (a_X11_then launch0) rfl ls st μ
theorem e_X11_then_7 (Q : ix_R → Prop) (ls : ix_L) (st : List ix_V) (μ : ix_M) : ix_Ev o_X11_then Q (7, ls, st, μ) = ix_iload 2 8 (ix_Ev o_X11_then Q) Q ls st μ := ix_Ev.eq (a_X11_then launch0) rfl ls st μ
theorem e_X11_then_8 (Q : ix_R → Prop) (ls : ix_L) (st : List ix_V) (μ : ix_M) : ix_Ev o_X11_then Q (8, ls, st, μ) = ix_push (vi 0) 9 (ix_Ev o_X11_then Q) Q ls st μ := ix_Ev.eq (a_X11_then launch0) rfl ls st μ
theorem e_X11_then_9 (Q : ix_R → Prop) (ls : ix_L) (st : List ix_V) (μ : ix_M) : ix_Ev o_X11_then Q (9, ls, st, μ) = ix_push (vi 1) 10 (ix_Ev o_X11_then Q) Q ls st μ := ix_Ev.eq (a_X11_then launch0) rfl ls st μ
theorem e_X11_then_10 (Q : ix_R → Prop) (ls : ix_L) (st : List ix_V) (μ : ix_M) : ix_Ev o_X11_then Q (10, ls, st, μ) = oc_X11_within 13 (ix_Ev o_X11_then Q) Q ls st μ := ix_Ev.eq (a_X11_then launch0) rfl ls st μ
theorem e_X11_then_13 (Q : ix_R → Prop) (ls : ix_L) (st : List ix_V) (μ : ix_M) : ix_Ev o_X11_then Q (13, ls, st, μ) = ix_if (fun x => x = 0) 16 23 (ix_Ev o_X11_then Q) Q ls st μ := ix_Ev.eq (a_X11_then launch0) rfl ls st μ
theorem e_X11_then_16 (Q : ix_R → Prop) (ls : ix_L) (st : List ix_V) (μ : ix_M) : ix_Ev o_X11_then Q (16, ls, st, μ) = ix_aload 0 17 (ix_Ev o_X11_then Q) Q ls st μ := ix_Ev.eq (a_X11_then launch0) rfl ls st μ
theorem e_X11_then_17 (Q : ix_R → Prop) (ls : ix_L) (st : List ix_V) (μ : ix_M) : ix_Ev o_X11_then Q (17, ls, st, μ) = ix_push (vi (-1000000001)) 19 (ix_Ev o_X11_then Q) Q ls st μ := ix_Ev.eq (a_X11_then launch0) rfl ls st μ
theorem e_X11_then_19 (Q : ix_R → Prop) (ls : ix_L) (st : List ix_V) (μ : ix_M) : ix_Ev o_X11_then Q (19, ls, st, μ) = oc_X11_finding 22 (ix_Ev o_X11_then Q) Q ls st μ := ix_Ev.eq (a_X11_then launch0) rfl ls st μ
theorem e_X11_then_22 (Q : ix_R → Prop) (ls : ix_L) (st : List ix_V) (μ : ix_M) : ix_Ev o_X11_then Q (22, ls, st, μ) = ix_iret (ix_Ev o_X11_then Q) Q ls st μ := ix_Ev.eq (a_X11_then launch0) rfl ls st μ
theorem e_X11_then_23 (Q : ix_R → Prop) (ls : ix_L) (st : List ix_V) (μ : ix_M) : ix_Ev o_X11_then Q (23, ls, st, μ) = ix_aload 0 24 (ix_Ev o_X11_then Q) Q ls st μ := ix_Ev.eq (a_X11_then launch0) rfl ls st μ
theorem e_X11_then_24 (Q : ix_R → Prop) (ls : ix_L) (st : List ix_V) (μ : ix_M) : ix_Ev o_X11_then Q (24, ls, st, μ) = ix_getr 10 20 (fun _ => 113) 27 (ix_Ev o_X11_then Q) Q ls st μ := ix_Ev.eq (a_X11_then launch0) rfl ls st μ
theorem e_X11_then_27 (Q : ix_R → Prop) (ls : ix_L) (st : List ix_V) (μ : ix_M) : ix_Ev o_X11_then Q (27, ls, st, μ) = ix_aload 0 28 (ix_Ev o_X11_then Q) Q ls st μ := ix_Ev.eq (a_X11_then launch0) rfl ls st μ
theorem e_X11_then_28 (Q : ix_R → Prop) (ls : ix_L) (st : List ix_V) (μ : ix_M) : ix_Ev o_X11_then Q (28, ls, st, μ) = ix_getr 10 20 (fun _ => 115) 31 (ix_Ev o_X11_then Q) Q ls st μ := ix_Ev.eq (a_X11_then launch0) rfl ls st μ
theorem e_X11_then_31 (Q : ix_R → Prop) (ls : ix_L) (st : List ix_V) (μ : ix_M) : ix_Ev o_X11_then Q (31, ls, st, μ) = oc_X11_copy 34 (ix_Ev o_X11_then Q) Q ls st μ := ix_Ev.eq (a_X11_then launch0) rfl ls st μ
theorem e_X11_then_34 (Q : ix_R → Prop) (ls : ix_L) (st : List ix_V) (μ : ix_M) : ix_Ev o_X11_then Q (34, ls, st, μ) = ix_aload 0 35 (ix_Ev o_X11_then Q) Q ls st μ := ix_Ev.eq (a_X11_then launch0) rfl ls st μ
theorem e_X11_then_35 (Q : ix_R → Prop) (ls : ix_L) (st : List ix_V) (μ : ix_M) : ix_Ev o_X11_then Q (35, ls, st, μ) = ix_iload 1 36 (ix_Ev o_X11_then Q) Q ls st μ := ix_Ev.eq (a_X11_then launch0) rfl ls st μ
theorem e_X11_then_36 (Q : ix_R → Prop) (ls : ix_L) (st : List ix_V) (μ : ix_M) : ix_Ev o_X11_then Q (36, ls, st, μ) = oc_X11_minutesGo 39 (ix_Ev o_X11_then Q) Q ls st μ := ix_Ev.eq (a_X11_then launch0) rfl ls st μ
theorem e_X11_then_39 (Q : ix_R → Prop) (ls : ix_L) (st : List ix_V) (μ : ix_M) : ix_Ev o_X11_then Q (39, ls, st, μ) = ix_istore 3 40 (ix_Ev o_X11_then Q) Q ls st μ := ix_Ev.eq (a_X11_then launch0) rfl ls st μ
theorem e_X11_then_40 (Q : ix_R → Prop) (ls : ix_L) (st : List ix_V) (μ : ix_M) : ix_Ev o_X11_then Q (40, ls, st, μ) = ix_aload 0 41 (ix_Ev o_X11_then Q) Q ls st μ := ix_Ev.eq (a_X11_then launch0) rfl ls st μ
theorem e_X11_then_41 (Q : ix_R → Prop) (ls : ix_L) (st : List ix_V) (μ : ix_M) : ix_Ev o_X11_then Q (41, ls, st, μ) = ix_iload 2 42 (ix_Ev o_X11_then Q) Q ls st μ := ix_Ev.eq (a_X11_then launch0) rfl ls st μ
theorem e_X11_then_42 (Q : ix_R → Prop) (ls : ix_L) (st : List ix_V) (μ : ix_M) : ix_Ev o_X11_then Q (42, ls, st, μ) = ix_if (fun x => x = 0) 45 49 (ix_Ev o_X11_then Q) Q ls st μ := ix_Ev.eq (a_X11_then launch0) rfl ls st μ
theorem e_X11_then_45 (Q : ix_R → Prop) (ls : ix_L) (st : List ix_V) (μ : ix_M) : ix_Ev o_X11_then Q (45, ls, st, μ) = ix_iload 3 46 (ix_Ev o_X11_then Q) Q ls st μ := ix_Ev.eq (a_X11_then launch0) rfl ls st μ
theorem e_X11_then_46 (Q : ix_R → Prop) (ls : ix_L) (st : List ix_V) (μ : ix_M) : ix_Ev o_X11_then Q (46, ls, st, μ) = ix_goto 53 (ix_Ev o_X11_then Q) Q ls st μ := ix_Ev.eq (a_X11_then launch0) rfl ls st μ
theorem e_X11_then_49 (Q : ix_R → Prop) (ls : ix_L) (st : List ix_V) (μ : ix_M) : ix_Ev o_X11_then Q (49, ls, st, μ) = ix_aload 0 50 (ix_Ev o_X11_then Q) Q ls st μ := ix_Ev.eq (a_X11_then launch0) rfl ls st μ
theorem e_X11_then_50 (Q : ix_R → Prop) (ls : ix_L) (st : List ix_V) (μ : ix_M) : ix_Ev o_X11_then Q (50, ls, st, μ) = oc_X11_stuff 53 (ix_Ev o_X11_then Q) Q ls st μ := ix_Ev.eq (a_X11_then launch0) rfl ls st μ
theorem e_X11_then_53 (Q : ix_R → Prop) (ls : ix_L) (st : List ix_V) (μ : ix_M) : ix_Ev o_X11_then Q (53, ls, st, μ) = oc_X11_putBack 56 (ix_Ev o_X11_then Q) Q ls st μ := ix_Ev.eq (a_X11_then launch0) rfl ls st μ
theorem e_X11_then_56 (Q : ix_R → Prop) (ls : ix_L) (st : List ix_V) (μ : ix_M) : ix_Ev o_X11_then Q (56, ls, st, μ) = ix_iret (ix_Ev o_X11_then Q) Q ls st μ := ix_Ev.eq (a_X11_then launch0) rfl ls st μ
theorem pr_then (n : Int32) (w : Int32) (μ : ix_M) (I : Inv μ) (Q : ix_R → Prop) (hQ : ∀ vv μ', ix_Ev o_X11_then (Pst vv) (0, [some (vr 10 112), some (vi n), some (vi w), none], [], μ') → Q (some (vi vv), μ')) : ix_Ev o_X10_then Q (0, [some (vr 9 0), some (vi n), some (vi w), none, none], [], μ) := by
  rcases inR n 60 (by decide) with ⟨K, hK, rfl⟩ | ⟨hx1, hx2⟩
  · obtain ⟨K1, K2, K3, K4⟩ : ¬ nI K < 0 ∧ ¬ (60 : Int32) < nI K ∧ 0 ≤ nI K ∧ nI K ≤ (60 : Int32) := rgN hK (by decide)
    have Kc : (nI K).toNatClampNeg = K := nI_clamp (by omega)
    rcases inR w 1 (by decide) with ⟨W, hW, rfl⟩ | ⟨hx1, hx2⟩
    · obtain ⟨W1, W2, W3, W4⟩ : ¬ nI W < 0 ∧ ¬ (1 : Int32) < nI W ∧ 0 ≤ nI W ∧ nI W ≤ (1 : Int32) := rgN hW (by decide)
      have Wc : (nI W).toNatClampNeg = W := nI_clamp (by omega)
      obtain ⟨M, hM, hR, m1, m2⟩ := I.mi
      obtain ⟨ds, dl, hL, x1, x2⟩ := I.tx
      simp (decide := true) only [e_X10_then_0, e_X10_then_1, e_X10_then_3, e_X10_then_6, e_X10_then_9, e_X10_then_10, e_X10_then_11, e_X10_then_14, e_X10_then_17, e_X10_then_18, e_X10_then_19, e_X10_then_22, e_X10_then_23, e_X10_then_24, e_X10_then_27, e_X10_then_28, e_X10_then_29, e_X10_then_30, e_X10_then_31, e_X10_then_34, e_X10_then_36, e_X10_then_37, e_X10_then_40, e_X10_then_42, e_X10_then_45, e_X10_then_46, e_X10_then_49, vi, vl, vr, oc_X10_error, T_X10_error, oc_X10_hadBehind, T_X10_hadBehind, oc_X10_outside, T_X10_outside, oc_X10_think, T_X10_think, oc_X9_lying, T_X9_lying, ix_push, ix_iload, ix_lload, ix_aload, ix_istore, ix_astore, ix_iinc, ix_bin, ix_div, ix_un, ix_i2l, ix_l2i, ix_lbin, ix_lsh, ix_lcmp, ix_dup, ix_dup2, ix_pop, ix_if, ix_cmp, ix_goto, ix_switch, ix_sw, ix_iret, ix_zret, ix_vret, ix_aret, ix_geti, ix_getr, ix_puti, ix_putz, ix_puts, ix_gets, ix_iald, ix_iast, ix_alen, ix_aald, ix_gval, ix_gcod, ix_bald, ix_blen, ix_sald, ix_nret, ix_math2, ix_math1, ix_acopy, Nat.add_assoc, Int32.reduceLT, Int32.reduceLE, Int32.reduceToNatClampNeg, Int32.reduceSub, Int32.reduceAdd, Nat.reduceAdd, Nat.reduceLeDiff, true_or, or_true, or_false, false_or, not_false_eq_true, not_true_eq_false, false_implies, true_implies, implies_true, and_self, mB_0, mB_01, Classical.not_not, Nat.zero_le, List.getElem?_cons_zero, List.getElem?_cons_succ, List.set_cons_zero, List.set_cons_succ, ix_nl, ix_cs, true_and, and_true, Option.toList_some, Option.toList_none, List.cons_append, List.nil_append, K1, K2, K3, K4, Kc, W1, W2, W3, W4, Wc, ix_up_ne, ix_up_k, ve_1, ve_2, ve_3, ve_4, ve_5]
      intro μ1 F1 V1
      have I1 := I.scr F1 (by decide)
      refine ⟨M, K, ds, dl, by rw [V1, I.hw]; exact hR.1, rfl, by omega, hL.fx F1 (by decide), fun μ2 F2 V2 => ?_⟩
      have I2 := I1.scr F2 (by decide)
      have e : μ2 113 = μ 113 := by rw [F2 113 (by decide), F1 113 (by decide)]
      have hV2 : wv μ2 48 = pIt ds dl K (nv (μ 113)) := by rw [V2, V1, I.hw]
      have go : ∀ μ3 : ix_M, Fx [115] μ2 μ3 → MW μ3 M ds dl ∧ μ3 112 5 = -1 ∧ μ3 113 = μ 113 := fun μ3 F3 => by
        have e3 : μ3 113 = μ 113 := by rw [F3 113 (by decide), e]
        exact ⟨mwOf (by rw [e3]; exact hR) (by rw [e3]; exact x1) (by rw [e3]; exact x2), by rw [F3 112 (by decide)]; exact I2.2.2.2.2.2.2.1, e3⟩
      obtain rfl | rfl : W = 0 ∨ W = 1 := by omega
      · refine ⟨fun _ => hQ _ _ ?_, fun z => absurd rfl z⟩
        simp (decide := true) only [e_X11_then_0, e_X11_then_1, e_X11_then_4, e_X11_then_7, e_X11_then_8, e_X11_then_9, e_X11_then_10, e_X11_then_13, e_X11_then_16, e_X11_then_17, e_X11_then_19, e_X11_then_22, e_X11_then_23, e_X11_then_24, e_X11_then_27, e_X11_then_28, e_X11_then_31, e_X11_then_34, e_X11_then_35, e_X11_then_36, e_X11_then_39, e_X11_then_40, e_X11_then_41, e_X11_then_42, e_X11_then_45, e_X11_then_46, e_X11_then_49, e_X11_then_50, e_X11_then_53, e_X11_then_56, vi, vl, vr, oc_X11_copy, T_X11_copy, oc_X11_finding, T_X11_finding, oc_X11_isBehind, T_X11_isBehind, oc_X11_minutesGo, T_X11_minutesGo, oc_X11_putBack, T_X11_putBack, oc_X11_stuff, T_X11_stuff, oc_X11_within, T_X11_within, ix_push, ix_iload, ix_lload, ix_aload, ix_istore, ix_astore, ix_iinc, ix_bin, ix_div, ix_un, ix_i2l, ix_l2i, ix_lbin, ix_lsh, ix_lcmp, ix_dup, ix_dup2, ix_pop, ix_if, ix_cmp, ix_goto, ix_switch, ix_sw, ix_iret, ix_zret, ix_vret, ix_aret, ix_geti, ix_getr, ix_puti, ix_putz, ix_puts, ix_gets, ix_iald, ix_iast, ix_alen, ix_aald, ix_gval, ix_gcod, ix_bald, ix_blen, ix_sald, ix_nret, ix_math2, ix_math1, ix_acopy, ml_113, ml_114, ml_115, ml_116, ml_118, ml_119, ml_120, ml_121, ml_122, ml_123, ml_124, ml_125, ml_126, mv_0, mv_1, mv_2, mv_3, mv_4, mv_5, mB_or, Nat.add_assoc, Int32.reduceLT, Int32.reduceLE, Int32.reduceToNatClampNeg, Int32.reduceSub, Int32.reduceAdd, Nat.reduceAdd, Nat.reduceLeDiff, true_or, or_true, or_false, false_or, not_false_eq_true, not_true_eq_false, false_implies, true_implies, implies_true, and_self, mB_0, mB_01, Classical.not_not, Nat.zero_le, List.getElem?_cons_zero, List.getElem?_cons_succ, List.set_cons_zero, List.set_cons_succ, ix_nl, ix_cs, true_and, and_true, Option.toList_some, Option.toList_none, List.cons_append, List.nil_append, K1, K2, K3, K4, Kc, W1, W2, W3, W4, Wc, nz_0, ix_up_ne, ix_up_k, ve_1, ve_2, ve_3, ve_4, ve_5]
        intro μ3 F3 R3
        obtain ⟨g1, g2, g3⟩ := go μ3 F3
        refine ⟨M, K, ds, dl, g1, rfl, by omega, g2, fun μ4 F4 V4 R4 => ?_⟩
        intro μ5 F5 R5
        exact pst (by rw [g3, V1, I.hw]) (I2.asd F3 R3 F4 F5 R5)
      · refine ⟨fun z => absurd z (by decide), fun _ => hQ _ _ ?_⟩
        simp (decide := true) only [e_X11_then_0, e_X11_then_1, e_X11_then_4, e_X11_then_7, e_X11_then_8, e_X11_then_9, e_X11_then_10, e_X11_then_13, e_X11_then_16, e_X11_then_17, e_X11_then_19, e_X11_then_22, e_X11_then_23, e_X11_then_24, e_X11_then_27, e_X11_then_28, e_X11_then_31, e_X11_then_34, e_X11_then_35, e_X11_then_36, e_X11_then_39, e_X11_then_40, e_X11_then_41, e_X11_then_42, e_X11_then_45, e_X11_then_46, e_X11_then_49, e_X11_then_50, e_X11_then_53, e_X11_then_56, vi, vl, vr, oc_X11_copy, T_X11_copy, oc_X11_finding, T_X11_finding, oc_X11_isBehind, T_X11_isBehind, oc_X11_minutesGo, T_X11_minutesGo, oc_X11_putBack, T_X11_putBack, oc_X11_stuff, T_X11_stuff, oc_X11_within, T_X11_within, ix_push, ix_iload, ix_lload, ix_aload, ix_istore, ix_astore, ix_iinc, ix_bin, ix_div, ix_un, ix_i2l, ix_l2i, ix_lbin, ix_lsh, ix_lcmp, ix_dup, ix_dup2, ix_pop, ix_if, ix_cmp, ix_goto, ix_switch, ix_sw, ix_iret, ix_zret, ix_vret, ix_aret, ix_geti, ix_getr, ix_puti, ix_putz, ix_puts, ix_gets, ix_iald, ix_iast, ix_alen, ix_aald, ix_gval, ix_gcod, ix_bald, ix_blen, ix_sald, ix_nret, ix_math2, ix_math1, ix_acopy, ml_113, ml_114, ml_115, ml_116, ml_118, ml_119, ml_120, ml_121, ml_122, ml_123, ml_124, ml_125, ml_126, mv_0, mv_1, mv_2, mv_3, mv_4, mv_5, mB_or, Nat.add_assoc, Int32.reduceLT, Int32.reduceLE, Int32.reduceToNatClampNeg, Int32.reduceSub, Int32.reduceAdd, Nat.reduceAdd, Nat.reduceLeDiff, true_or, or_true, or_false, false_or, not_false_eq_true, not_true_eq_false, false_implies, true_implies, implies_true, and_self, mB_0, mB_01, Classical.not_not, Nat.zero_le, List.getElem?_cons_zero, List.getElem?_cons_succ, List.set_cons_zero, List.set_cons_succ, ix_nl, ix_cs, true_and, and_true, Option.toList_some, Option.toList_none, List.cons_append, List.nil_append, K1, K2, K3, K4, Kc, W1, W2, W3, W4, Wc, nz_1, ix_up_ne, ix_up_k, ve_1, ve_2, ve_3, ve_4, ve_5]
        intro μ3 F3 R3
        obtain ⟨g1, g2, g3⟩ := go μ3 F3
        refine ⟨M, K, ds, dl, g1, rfl, by omega, g2, fun μ4 F4 V4 R4 => ?_⟩
        intro μ5 F5 R5
        refine pst (mSum_cong (fun i hi => ?_)) (I2.asd F3 R3 F4 F5 R5)
        rw [pIt_2 hV2 hi, ← nv_2 (μ4 113) hi, V4, g3]
    · have hx1 : w < 0 ∨ (1 : Int32) < w := hx1
      have hx2 : ¬ (0 ≤ w ∧ w ≤ (1 : Int32)) := hx2
      have hx3 : ¬ w = 0 := by rintro rfl; exact hx2 (by decide)
      have hx4 : ¬ w = 1 := by rintro rfl; exact hx2 (by decide)
      simp (decide := true) only [e_X10_then_0, e_X10_then_1, e_X10_then_3, e_X10_then_6, e_X10_then_9, e_X10_then_10, e_X10_then_11, e_X10_then_14, e_X10_then_17, e_X10_then_18, e_X10_then_19, e_X10_then_22, e_X10_then_23, e_X10_then_24, e_X10_then_27, e_X10_then_28, e_X10_then_29, e_X10_then_30, e_X10_then_31, e_X10_then_34, e_X10_then_36, e_X10_then_37, e_X10_then_40, e_X10_then_42, e_X10_then_45, e_X10_then_46, e_X10_then_49, vi, vl, vr, oc_X10_error, T_X10_error, oc_X10_hadBehind, T_X10_hadBehind, oc_X10_outside, T_X10_outside, oc_X10_think, T_X10_think, oc_X9_lying, T_X9_lying, ix_push, ix_iload, ix_lload, ix_aload, ix_istore, ix_astore, ix_iinc, ix_bin, ix_div, ix_un, ix_i2l, ix_l2i, ix_lbin, ix_lsh, ix_lcmp, ix_dup, ix_dup2, ix_pop, ix_if, ix_cmp, ix_goto, ix_switch, ix_sw, ix_iret, ix_zret, ix_vret, ix_aret, ix_geti, ix_getr, ix_puti, ix_putz, ix_puts, ix_gets, ix_iald, ix_iast, ix_alen, ix_aald, ix_gval, ix_gcod, ix_bald, ix_blen, ix_sald, ix_nret, ix_math2, ix_math1, ix_acopy, Nat.add_assoc, Int32.reduceLT, Int32.reduceLE, Int32.reduceToNatClampNeg, Int32.reduceSub, Int32.reduceAdd, Nat.reduceAdd, Nat.reduceLeDiff, true_or, or_true, or_false, false_or, not_false_eq_true, not_true_eq_false, false_implies, true_implies, implies_true, and_self, mB_0, mB_01, Classical.not_not, Nat.zero_le, List.getElem?_cons_zero, List.getElem?_cons_succ, List.set_cons_zero, List.set_cons_succ, ix_nl, ix_cs, true_and, and_true, Option.toList_some, Option.toList_none, List.cons_append, List.nil_append, K1, K2, K3, K4, Kc, hx1, hx2, hx3, hx4, ix_up_ne, ix_up_k, ve_1, ve_2, ve_3, ve_4, ve_5]
      refine hQ _ _ ?_
      simp (decide := true) only [e_X11_then_0, e_X11_then_1, e_X11_then_4, e_X11_then_7, e_X11_then_8, e_X11_then_9, e_X11_then_10, e_X11_then_13, e_X11_then_16, e_X11_then_17, e_X11_then_19, e_X11_then_22, e_X11_then_23, e_X11_then_24, e_X11_then_27, e_X11_then_28, e_X11_then_31, e_X11_then_34, e_X11_then_35, e_X11_then_36, e_X11_then_39, e_X11_then_40, e_X11_then_41, e_X11_then_42, e_X11_then_45, e_X11_then_46, e_X11_then_49, e_X11_then_50, e_X11_then_53, e_X11_then_56, vi, vl, vr, oc_X11_copy, T_X11_copy, oc_X11_finding, T_X11_finding, oc_X11_isBehind, T_X11_isBehind, oc_X11_minutesGo, T_X11_minutesGo, oc_X11_putBack, T_X11_putBack, oc_X11_stuff, T_X11_stuff, oc_X11_within, T_X11_within, ix_push, ix_iload, ix_lload, ix_aload, ix_istore, ix_astore, ix_iinc, ix_bin, ix_div, ix_un, ix_i2l, ix_l2i, ix_lbin, ix_lsh, ix_lcmp, ix_dup, ix_dup2, ix_pop, ix_if, ix_cmp, ix_goto, ix_switch, ix_sw, ix_iret, ix_zret, ix_vret, ix_aret, ix_geti, ix_getr, ix_puti, ix_putz, ix_puts, ix_gets, ix_iald, ix_iast, ix_alen, ix_aald, ix_gval, ix_gcod, ix_bald, ix_blen, ix_sald, ix_nret, ix_math2, ix_math1, ix_acopy, ml_113, ml_114, ml_115, ml_116, ml_118, ml_119, ml_120, ml_121, ml_122, ml_123, ml_124, ml_125, ml_126, mv_0, mv_1, mv_2, mv_3, mv_4, mv_5, mB_or, Nat.add_assoc, Int32.reduceLT, Int32.reduceLE, Int32.reduceToNatClampNeg, Int32.reduceSub, Int32.reduceAdd, Nat.reduceAdd, Nat.reduceLeDiff, true_or, or_true, or_false, false_or, not_false_eq_true, not_true_eq_false, false_implies, true_implies, implies_true, and_self, mB_0, mB_01, Classical.not_not, Nat.zero_le, List.getElem?_cons_zero, List.getElem?_cons_succ, List.set_cons_zero, List.set_cons_succ, ix_nl, ix_cs, true_and, and_true, Option.toList_some, Option.toList_none, List.cons_append, List.nil_append, K1, K2, K3, K4, Kc, hx1, hx2, hx3, hx4, ix_up_ne, ix_up_k, ve_1, ve_2, ve_3, ve_4, ve_5]
      repeat' (first | exact I.er 1 (by decide) | refine ⟨fun _ => ?_, fun _ => ?_⟩)
  · have hx1 : n < 0 ∨ (60 : Int32) < n := hx1
    have hx2 : ¬ (0 ≤ n ∧ n ≤ (60 : Int32)) := hx2
    simp (decide := true) only [e_X10_then_0, e_X10_then_1, e_X10_then_3, e_X10_then_6, e_X10_then_9, e_X10_then_10, e_X10_then_11, e_X10_then_14, e_X10_then_17, e_X10_then_18, e_X10_then_19, e_X10_then_22, e_X10_then_23, e_X10_then_24, e_X10_then_27, e_X10_then_28, e_X10_then_29, e_X10_then_30, e_X10_then_31, e_X10_then_34, e_X10_then_36, e_X10_then_37, e_X10_then_40, e_X10_then_42, e_X10_then_45, e_X10_then_46, e_X10_then_49, vi, vl, vr, oc_X10_error, T_X10_error, oc_X10_hadBehind, T_X10_hadBehind, oc_X10_outside, T_X10_outside, oc_X10_think, T_X10_think, oc_X9_lying, T_X9_lying, ix_push, ix_iload, ix_lload, ix_aload, ix_istore, ix_astore, ix_iinc, ix_bin, ix_div, ix_un, ix_i2l, ix_l2i, ix_lbin, ix_lsh, ix_lcmp, ix_dup, ix_dup2, ix_pop, ix_if, ix_cmp, ix_goto, ix_switch, ix_sw, ix_iret, ix_zret, ix_vret, ix_aret, ix_geti, ix_getr, ix_puti, ix_putz, ix_puts, ix_gets, ix_iald, ix_iast, ix_alen, ix_aald, ix_gval, ix_gcod, ix_bald, ix_blen, ix_sald, ix_nret, ix_math2, ix_math1, ix_acopy, Nat.add_assoc, Int32.reduceLT, Int32.reduceLE, Int32.reduceToNatClampNeg, Int32.reduceSub, Int32.reduceAdd, Nat.reduceAdd, Nat.reduceLeDiff, true_or, or_true, or_false, false_or, not_false_eq_true, not_true_eq_false, false_implies, true_implies, implies_true, and_self, mB_0, mB_01, Classical.not_not, Nat.zero_le, List.getElem?_cons_zero, List.getElem?_cons_succ, List.set_cons_zero, List.set_cons_succ, ix_nl, ix_cs, true_and, and_true, Option.toList_some, Option.toList_none, List.cons_append, List.nil_append, hx1, hx2, ix_up_ne, ix_up_k, ve_1, ve_2, ve_3, ve_4, ve_5]
    refine hQ _ _ ?_
    simp (decide := true) only [e_X11_then_0, e_X11_then_1, e_X11_then_4, e_X11_then_7, e_X11_then_8, e_X11_then_9, e_X11_then_10, e_X11_then_13, e_X11_then_16, e_X11_then_17, e_X11_then_19, e_X11_then_22, e_X11_then_23, e_X11_then_24, e_X11_then_27, e_X11_then_28, e_X11_then_31, e_X11_then_34, e_X11_then_35, e_X11_then_36, e_X11_then_39, e_X11_then_40, e_X11_then_41, e_X11_then_42, e_X11_then_45, e_X11_then_46, e_X11_then_49, e_X11_then_50, e_X11_then_53, e_X11_then_56, vi, vl, vr, oc_X11_copy, T_X11_copy, oc_X11_finding, T_X11_finding, oc_X11_isBehind, T_X11_isBehind, oc_X11_minutesGo, T_X11_minutesGo, oc_X11_putBack, T_X11_putBack, oc_X11_stuff, T_X11_stuff, oc_X11_within, T_X11_within, ix_push, ix_iload, ix_lload, ix_aload, ix_istore, ix_astore, ix_iinc, ix_bin, ix_div, ix_un, ix_i2l, ix_l2i, ix_lbin, ix_lsh, ix_lcmp, ix_dup, ix_dup2, ix_pop, ix_if, ix_cmp, ix_goto, ix_switch, ix_sw, ix_iret, ix_zret, ix_vret, ix_aret, ix_geti, ix_getr, ix_puti, ix_putz, ix_puts, ix_gets, ix_iald, ix_iast, ix_alen, ix_aald, ix_gval, ix_gcod, ix_bald, ix_blen, ix_sald, ix_nret, ix_math2, ix_math1, ix_acopy, ml_113, ml_114, ml_115, ml_116, ml_118, ml_119, ml_120, ml_121, ml_122, ml_123, ml_124, ml_125, ml_126, mv_0, mv_1, mv_2, mv_3, mv_4, mv_5, mB_or, Nat.add_assoc, Int32.reduceLT, Int32.reduceLE, Int32.reduceToNatClampNeg, Int32.reduceSub, Int32.reduceAdd, Nat.reduceAdd, Nat.reduceLeDiff, true_or, or_true, or_false, false_or, not_false_eq_true, not_true_eq_false, false_implies, true_implies, implies_true, and_self, mB_0, mB_01, Classical.not_not, Nat.zero_le, List.getElem?_cons_zero, List.getElem?_cons_succ, List.set_cons_zero, List.set_cons_succ, ix_nl, ix_cs, true_and, and_true, Option.toList_some, Option.toList_none, List.cons_append, List.nil_append, hx1, hx2, ix_up_ne, ix_up_k, ve_1, ve_2, ve_3, ve_4, ve_5]
    repeat' (first | exact I.er 1 (by decide) | refine ⟨fun _ => ?_, fun _ => ?_⟩)
def o_X10_on : List (Nat × ix_Op) := [
  (0, ix_aload 0 1),
  (1, ix_iload 1 2),
  (2, oc_X10_noBoat 5),
  (5, ix_if (fun x => x = 0) 8 25),
  (8, ix_iload 2 9),
  (9, ix_push (vi 60) 11),
  (11, oc_X10_outside 14),
  (14, ix_if (fun x => x = 0) 17 25),
  (17, ix_iload 3 18),
  (18, ix_push (vi 1) 19),
  (19, oc_X10_outside 22),
  (22, ix_if (fun x => x = 0) 31 25),
  (25, ix_aload 0 26),
  (26, ix_push (vi 1) 27),
  (27, oc_X10_error 30),
  (30, ix_iret),
  (31, ix_aload 0 32),
  (32, oc_X10_think 35),
  (35, ix_astore 4 37),
  (37, ix_aload 0 38),
  (38, ix_aload 4 40),
  (40, ix_iload 2 41),
  (41, oc_X10_hadBehind 44),
  (44, ix_pop 45),
  (45, ix_iload 3 46),
  (46, ix_if (fun x => x = 0) 49 59),
  (49, ix_aload 4 51),
  (51, ix_getr 8 20 (fun k => k + 6) 54),
  (54, ix_iload 1 55),
  (55, ix_iald 56),
  (56, ix_goto 66),
  (59, ix_aload 4 61),
  (61, ix_getr 8 20 (fun k => k + 7) 64),
  (64, ix_iload 1 65),
  (65, ix_iald 66),
  (66, ix_iret)]
set_option maxRecDepth 20000 in
theorem a_X10_on (l : Launch) : ix_AllS l cX10_on 5 RX10 60 (some .int) o_X10_on :=
  .cons (ix_s_aload_n dX10_on_0 rfl) <|
  .cons (ix_s_iload_n dX10_on_1 rfl) <|
  .cons (oc_X10_noBoat_s (ix_s_callv (t := 9) (k_X10_noBoat l) (by decide) (by decide) tw_369 tw_1 tw_366 tw_368 tp_1 ⟨by decide, by decide, by decide +kernel⟩ (by decide) rfl rfl (fun _ => ⟨_, _, rfl, rfl⟩) dX10_on_2)) <|
  .cons (ix_s_if_ne dX10_on_5 (by decide)) <|
  .cons (ix_s_iload_n dX10_on_8 rfl) <|
  .cons (ix_s_bipush dX10_on_9 (by decide +kernel)) <|
  .cons (oc_X10_outside_s (ix_s_calls (k_X10_outside l) (by decide) (by decide) tw_291 tw_1 tw_289 tw_290 ⟨by decide, by decide, by decide +kernel⟩ (fun _ => rfl) dX10_on_11)) <|
  .cons (ix_s_if_ne dX10_on_14 (by decide)) <|
  .cons (ix_s_iload_n dX10_on_17 rfl) <|
  .cons (ix_s_iconst dX10_on_18 (by decide +kernel)) <|
  .cons (oc_X10_outside_s (ix_s_calls (k_X10_outside l) (by decide) (by decide) tw_291 tw_1 tw_289 tw_290 ⟨by decide, by decide, by decide +kernel⟩ (fun _ => rfl) dX10_on_19)) <|
  .cons (ix_s_if_eq dX10_on_22 (by decide)) <|
  .cons (ix_s_aload_n dX10_on_25 rfl) <|
  .cons (ix_s_iconst dX10_on_26 (by decide +kernel)) <|
  .cons (oc_X10_error_s (ix_s_callv (t := 9) (k_X10_error l) (by decide) (by decide) tw_295 tw_1 tw_292 tw_294 tp_0 ⟨by decide, by decide, by decide +kernel⟩ (by decide) rfl rfl (fun _ => ⟨_, _, rfl, rfl⟩) dX10_on_27)) <|
  .cons (ix_s_iret dX10_on_30 rfl) <|
  .cons (ix_s_aload_n dX10_on_31 rfl) <|
  .cons (oc_X10_think_s (ix_s_callv (t := 9) (k_X10_think l) (by decide) (by decide) tw_638 tw_1 tw_635 tw_637 tp_8 ⟨by decide, by decide, by decide +kernel⟩ (by decide) rfl rfl (fun _ => ⟨_, _, rfl, rfl⟩) dX10_on_32)) <|
  .cons (ix_s_astore dX10_on_35 (by decide)) <|
  .cons (ix_s_aload_n dX10_on_37 rfl) <|
  .cons (ix_s_aload dX10_on_38) <|
  .cons (ix_s_iload_n dX10_on_40 rfl) <|
  .cons (oc_X10_hadBehind_s (ix_s_callv (t := 9) (k_X10_hadBehind l) (by decide) (by decide) tw_595 tw_1 tw_592 tw_594 tp_7 ⟨by decide, by decide, by decide +kernel⟩ (by decide) rfl rfl (fun _ => ⟨_, _, rfl, rfl⟩) dX10_on_41)) <|
  .cons (ix_s_pop dX10_on_44) <|
  .cons (ix_s_iload_n dX10_on_45 rfl) <|
  .cons (ix_s_if_ne dX10_on_46 (by decide)) <|
  .cons (ix_s_aload dX10_on_49) <|
  .cons (ix_s_getr (j := 5) tu_X9 rfl (by decide) (by decide) tw_51 rfl ts_8_5_r dX10_on_51) <|
  .cons (ix_s_iload_n dX10_on_54 rfl) <|
  .cons (ix_s_iald dX10_on_55) <|
  .cons (ix_s_goto dX10_on_56 (by decide)) <|
  .cons (ix_s_aload dX10_on_59) <|
  .cons (ix_s_getr (j := 6) tu_X9 rfl (by decide) (by decide) tw_54 rfl ts_8_6_r dX10_on_61) <|
  .cons (ix_s_iload_n dX10_on_64 rfl) <|
  .cons (ix_s_iald dX10_on_65) <|
  .cons (ix_s_iret dX10_on_66 rfl) <| .nil
theorem e_X10_on_0 (Q : ix_R → Prop) (ls : ix_L) (st : List ix_V) (μ : ix_M) : ix_Ev o_X10_on Q (0, ls, st, μ) = ix_aload 0 1 (ix_Ev o_X10_on Q) Q ls st μ := ix_Ev.eq (a_X10_on launch0) rfl ls st μ
theorem e_X10_on_1 (Q : ix_R → Prop) (ls : ix_L) (st : List ix_V) (μ : ix_M) : ix_Ev o_X10_on Q (1, ls, st, μ) = ix_iload 1 2 (ix_Ev o_X10_on Q) Q ls st μ := ix_Ev.eq (a_X10_on launch0) rfl ls st μ
theorem e_X10_on_2 (Q : ix_R → Prop) (ls : ix_L) (st : List ix_V) (μ : ix_M) : ix_Ev o_X10_on Q (2, ls, st, μ) = oc_X10_noBoat 5 (ix_Ev o_X10_on Q) Q ls st μ := ix_Ev.eq (a_X10_on launch0) rfl ls st μ
theorem e_X10_on_5 (Q : ix_R → Prop) (ls : ix_L) (st : List ix_V) (μ : ix_M) : ix_Ev o_X10_on Q (5, ls, st, μ) = ix_if (fun x => x = 0) 8 25 (ix_Ev o_X10_on Q) Q ls st μ := ix_Ev.eq (a_X10_on launch0) rfl ls st μ
theorem e_X10_on_8 (Q : ix_R → Prop) (ls : ix_L) (st : List ix_V) (μ : ix_M) : ix_Ev o_X10_on Q (8, ls, st, μ) = ix_iload 2 9 (ix_Ev o_X10_on Q) Q ls st μ := ix_Ev.eq (a_X10_on launch0) rfl ls st μ
theorem e_X10_on_9 (Q : ix_R → Prop) (ls : ix_L) (st : List ix_V) (μ : ix_M) : ix_Ev o_X10_on Q (9, ls, st, μ) = ix_push (vi 60) 11 (ix_Ev o_X10_on Q) Q ls st μ := ix_Ev.eq (a_X10_on launch0) rfl ls st μ
theorem e_X10_on_11 (Q : ix_R → Prop) (ls : ix_L) (st : List ix_V) (μ : ix_M) : ix_Ev o_X10_on Q (11, ls, st, μ) = oc_X10_outside 14 (ix_Ev o_X10_on Q) Q ls st μ := ix_Ev.eq (a_X10_on launch0) rfl ls st μ
theorem e_X10_on_14 (Q : ix_R → Prop) (ls : ix_L) (st : List ix_V) (μ : ix_M) : ix_Ev o_X10_on Q (14, ls, st, μ) = ix_if (fun x => x = 0) 17 25 (ix_Ev o_X10_on Q) Q ls st μ := ix_Ev.eq (a_X10_on launch0) rfl ls st μ
theorem e_X10_on_17 (Q : ix_R → Prop) (ls : ix_L) (st : List ix_V) (μ : ix_M) : ix_Ev o_X10_on Q (17, ls, st, μ) = ix_iload 3 18 (ix_Ev o_X10_on Q) Q ls st μ := ix_Ev.eq (a_X10_on launch0) rfl ls st μ
theorem e_X10_on_18 (Q : ix_R → Prop) (ls : ix_L) (st : List ix_V) (μ : ix_M) : ix_Ev o_X10_on Q (18, ls, st, μ) = ix_push (vi 1) 19 (ix_Ev o_X10_on Q) Q ls st μ := ix_Ev.eq (a_X10_on launch0) rfl ls st μ
theorem e_X10_on_19 (Q : ix_R → Prop) (ls : ix_L) (st : List ix_V) (μ : ix_M) : ix_Ev o_X10_on Q (19, ls, st, μ) = oc_X10_outside 22 (ix_Ev o_X10_on Q) Q ls st μ := ix_Ev.eq (a_X10_on launch0) rfl ls st μ
theorem e_X10_on_22 (Q : ix_R → Prop) (ls : ix_L) (st : List ix_V) (μ : ix_M) : ix_Ev o_X10_on Q (22, ls, st, μ) = ix_if (fun x => x = 0) 31 25 (ix_Ev o_X10_on Q) Q ls st μ := ix_Ev.eq (a_X10_on launch0) rfl ls st μ
theorem e_X10_on_25 (Q : ix_R → Prop) (ls : ix_L) (st : List ix_V) (μ : ix_M) : ix_Ev o_X10_on Q (25, ls, st, μ) = ix_aload 0 26 (ix_Ev o_X10_on Q) Q ls st μ := ix_Ev.eq (a_X10_on launch0) rfl ls st μ
theorem e_X10_on_26 (Q : ix_R → Prop) (ls : ix_L) (st : List ix_V) (μ : ix_M) : ix_Ev o_X10_on Q (26, ls, st, μ) = ix_push (vi 1) 27 (ix_Ev o_X10_on Q) Q ls st μ := ix_Ev.eq (a_X10_on launch0) rfl ls st μ
theorem e_X10_on_27 (Q : ix_R → Prop) (ls : ix_L) (st : List ix_V) (μ : ix_M) : ix_Ev o_X10_on Q (27, ls, st, μ) = oc_X10_error 30 (ix_Ev o_X10_on Q) Q ls st μ := ix_Ev.eq (a_X10_on launch0) rfl ls st μ
theorem e_X10_on_30 (Q : ix_R → Prop) (ls : ix_L) (st : List ix_V) (μ : ix_M) : ix_Ev o_X10_on Q (30, ls, st, μ) = ix_iret (ix_Ev o_X10_on Q) Q ls st μ := ix_Ev.eq (a_X10_on launch0) rfl ls st μ
theorem e_X10_on_31 (Q : ix_R → Prop) (ls : ix_L) (st : List ix_V) (μ : ix_M) : ix_Ev o_X10_on Q (31, ls, st, μ) = ix_aload 0 32 (ix_Ev o_X10_on Q) Q ls st μ := ix_Ev.eq (a_X10_on launch0) rfl ls st μ
theorem e_X10_on_32 (Q : ix_R → Prop) (ls : ix_L) (st : List ix_V) (μ : ix_M) : ix_Ev o_X10_on Q (32, ls, st, μ) = oc_X10_think 35 (ix_Ev o_X10_on Q) Q ls st μ := ix_Ev.eq (a_X10_on launch0) rfl ls st μ
theorem e_X10_on_35 (Q : ix_R → Prop) (ls : ix_L) (st : List ix_V) (μ : ix_M) : ix_Ev o_X10_on Q (35, ls, st, μ) = ix_astore 4 37 (ix_Ev o_X10_on Q) Q ls st μ := ix_Ev.eq (a_X10_on launch0) rfl ls st μ
theorem e_X10_on_37 (Q : ix_R → Prop) (ls : ix_L) (st : List ix_V) (μ : ix_M) : ix_Ev o_X10_on Q (37, ls, st, μ) = ix_aload 0 38 (ix_Ev o_X10_on Q) Q ls st μ := ix_Ev.eq (a_X10_on launch0) rfl ls st μ
theorem e_X10_on_38 (Q : ix_R → Prop) (ls : ix_L) (st : List ix_V) (μ : ix_M) : ix_Ev o_X10_on Q (38, ls, st, μ) = ix_aload 4 40 (ix_Ev o_X10_on Q) Q ls st μ := ix_Ev.eq (a_X10_on launch0) rfl ls st μ
theorem e_X10_on_40 (Q : ix_R → Prop) (ls : ix_L) (st : List ix_V) (μ : ix_M) : ix_Ev o_X10_on Q (40, ls, st, μ) = ix_iload 2 41 (ix_Ev o_X10_on Q) Q ls st μ := ix_Ev.eq (a_X10_on launch0) rfl ls st μ
theorem e_X10_on_41 (Q : ix_R → Prop) (ls : ix_L) (st : List ix_V) (μ : ix_M) : ix_Ev o_X10_on Q (41, ls, st, μ) = oc_X10_hadBehind 44 (ix_Ev o_X10_on Q) Q ls st μ := ix_Ev.eq (a_X10_on launch0) rfl ls st μ
theorem e_X10_on_44 (Q : ix_R → Prop) (ls : ix_L) (st : List ix_V) (μ : ix_M) : ix_Ev o_X10_on Q (44, ls, st, μ) = ix_pop 45 (ix_Ev o_X10_on Q) Q ls st μ := ix_Ev.eq (a_X10_on launch0) rfl ls st μ
theorem e_X10_on_45 (Q : ix_R → Prop) (ls : ix_L) (st : List ix_V) (μ : ix_M) : ix_Ev o_X10_on Q (45, ls, st, μ) = ix_iload 3 46 (ix_Ev o_X10_on Q) Q ls st μ := ix_Ev.eq (a_X10_on launch0) rfl ls st μ
theorem e_X10_on_46 (Q : ix_R → Prop) (ls : ix_L) (st : List ix_V) (μ : ix_M) : ix_Ev o_X10_on Q (46, ls, st, μ) = ix_if (fun x => x = 0) 49 59 (ix_Ev o_X10_on Q) Q ls st μ := ix_Ev.eq (a_X10_on launch0) rfl ls st μ
theorem e_X10_on_49 (Q : ix_R → Prop) (ls : ix_L) (st : List ix_V) (μ : ix_M) : ix_Ev o_X10_on Q (49, ls, st, μ) = ix_aload 4 51 (ix_Ev o_X10_on Q) Q ls st μ := ix_Ev.eq (a_X10_on launch0) rfl ls st μ
theorem e_X10_on_51 (Q : ix_R → Prop) (ls : ix_L) (st : List ix_V) (μ : ix_M) : ix_Ev o_X10_on Q (51, ls, st, μ) = ix_getr 8 20 (fun k => k + 6) 54 (ix_Ev o_X10_on Q) Q ls st μ := ix_Ev.eq (a_X10_on launch0) rfl ls st μ
theorem e_X10_on_54 (Q : ix_R → Prop) (ls : ix_L) (st : List ix_V) (μ : ix_M) : ix_Ev o_X10_on Q (54, ls, st, μ) = ix_iload 1 55 (ix_Ev o_X10_on Q) Q ls st μ := ix_Ev.eq (a_X10_on launch0) rfl ls st μ
theorem e_X10_on_55 (Q : ix_R → Prop) (ls : ix_L) (st : List ix_V) (μ : ix_M) : ix_Ev o_X10_on Q (55, ls, st, μ) = ix_iald 56 (ix_Ev o_X10_on Q) Q ls st μ := ix_Ev.eq (a_X10_on launch0) rfl ls st μ
theorem e_X10_on_56 (Q : ix_R → Prop) (ls : ix_L) (st : List ix_V) (μ : ix_M) : ix_Ev o_X10_on Q (56, ls, st, μ) = ix_goto 66 (ix_Ev o_X10_on Q) Q ls st μ := ix_Ev.eq (a_X10_on launch0) rfl ls st μ
theorem e_X10_on_59 (Q : ix_R → Prop) (ls : ix_L) (st : List ix_V) (μ : ix_M) : ix_Ev o_X10_on Q (59, ls, st, μ) = ix_aload 4 61 (ix_Ev o_X10_on Q) Q ls st μ := ix_Ev.eq (a_X10_on launch0) rfl ls st μ
theorem e_X10_on_61 (Q : ix_R → Prop) (ls : ix_L) (st : List ix_V) (μ : ix_M) : ix_Ev o_X10_on Q (61, ls, st, μ) = ix_getr 8 20 (fun k => k + 7) 64 (ix_Ev o_X10_on Q) Q ls st μ := ix_Ev.eq (a_X10_on launch0) rfl ls st μ
theorem e_X10_on_64 (Q : ix_R → Prop) (ls : ix_L) (st : List ix_V) (μ : ix_M) : ix_Ev o_X10_on Q (64, ls, st, μ) = ix_iload 1 65 (ix_Ev o_X10_on Q) Q ls st μ := ix_Ev.eq (a_X10_on launch0) rfl ls st μ
theorem e_X10_on_65 (Q : ix_R → Prop) (ls : ix_L) (st : List ix_V) (μ : ix_M) : ix_Ev o_X10_on Q (65, ls, st, μ) = ix_iald 66 (ix_Ev o_X10_on Q) Q ls st μ := ix_Ev.eq (a_X10_on launch0) rfl ls st μ
theorem e_X10_on_66 (Q : ix_R → Prop) (ls : ix_L) (st : List ix_V) (μ : ix_M) : ix_Ev o_X10_on Q (66, ls, st, μ) = ix_iret (ix_Ev o_X10_on Q) Q ls st μ := ix_Ev.eq (a_X10_on launch0) rfl ls st μ
def o_X11_on : List (Nat × ix_Op) := [
  (0, ix_aload 0 1),
  (1, ix_iload 1 2),
  (2, oc_X11_isBoat 5),
  (5, ix_if (fun x => x = 0) 24 8),
  (8, ix_iload 2 9),
  (9, oc_X11_isBehind 12),
  (12, ix_if (fun x => x = 0) 24 15),
  (15, ix_iload 3 16),
  (16, ix_push (vi 0) 17),
  (17, ix_push (vi 1) 18),
  (18, oc_X11_within 21),
  (21, ix_if (fun x => x = 0) 24 31),
  (24, ix_aload 0 25),
  (25, ix_push (vi (-1000000001)) 27),
  (27, oc_X11_finding 30),
  (30, ix_iret),
  (31, ix_aload 0 32),
  (32, ix_getr 10 20 (fun _ => 113) 35),
  (35, ix_aload 0 36),
  (36, ix_getr 10 20 (fun _ => 115) 39),
  (39, oc_X11_copy 42),
  (42, ix_aload 0 43),
  (43, ix_iload 2 44),
  (44, oc_X11_minutesGo 47),
  (47, ix_istore 4 49),
  (49, ix_aload 0 50),
  (50, ix_iload 4 52),
  (52, ix_if (fun x => 0 ≤ x) 60 55),
  (55, ix_iload 4 57),
  (57, ix_goto 68),
  (60, ix_aload 0 61),
  (61, ix_iload 1 62),
  (62, ix_push (vi 2) 63),
  (63, ix_iload 3 64),
  (64, ix_bin (fun x y => x + y) 65),
  (65, oc_X11_boatIs 68),
  (68, oc_X11_putBack 71),
  (71, ix_iret)]
set_option maxRecDepth 20000 in
theorem a_X11_on (l : Launch) : ix_AllS l cX11_on 5 RX11 60 (some .int) o_X11_on :=
  .cons (ix_s_aload_n dX11_on_0 rfl) <|
  .cons (ix_s_iload_n dX11_on_1 rfl) <|
  .cons (oc_X11_isBoat_s (ix_s_callv (t := 10) (k_X11_isBoat l) (by decide) (by decide) tw_1135 tw_12 tw_1132 tw_1134 tp_37 ⟨by decide, by decide, by decide +kernel⟩ (by decide) rfl rfl (fun _ => ⟨_, _, rfl, rfl⟩) dX11_on_2)) <|
  .cons (ix_s_if_eq dX11_on_5 (by decide)) <|
  .cons (ix_s_iload_n dX11_on_8 rfl) <|
  .cons (oc_X11_isBehind_s (ix_s_calls (k_X11_isBehind l) (by decide) (by decide) tw_1218 tw_12 tw_1216 tw_1217 ⟨by decide, by decide, by decide +kernel⟩ (fun _ => rfl) dX11_on_9)) <|
  .cons (ix_s_if_eq dX11_on_12 (by decide)) <|
  .cons (ix_s_iload_n dX11_on_15 rfl) <|
  .cons (ix_s_iconst dX11_on_16 (by decide +kernel)) <|
  .cons (ix_s_iconst dX11_on_17 (by decide +kernel)) <|
  .cons (oc_X11_within_s (ix_s_calls (k_X11_within l) (by decide) (by decide) tw_960 tw_12 tw_958 tw_959 ⟨by decide, by decide, by decide +kernel⟩ (fun _ => rfl) dX11_on_18)) <|
  .cons (ix_s_if_ne dX11_on_21 (by decide)) <|
  .cons (ix_s_aload_n dX11_on_24 rfl) <|
  .cons (ix_s_ldc tw_961 dX11_on_25) <|
  .cons (oc_X11_finding_s (ix_s_callv (t := 10) (k_X11_finding l) (by decide) (by decide) tw_965 tw_12 tw_962 tw_964 tp_18 ⟨by decide, by decide, by decide +kernel⟩ (by decide) rfl rfl (fun _ => ⟨_, _, rfl, rfl⟩) dX11_on_27)) <|
  .cons (ix_s_iret dX11_on_30 rfl) <|
  .cons (ix_s_aload_n dX11_on_31 rfl) <|
  .cons (ix_s_getr (j := 0) tu_X11 rfl (by decide) (by decide) tw_875 rfl ts_10_0_r dX11_on_32) <|
  .cons (ix_s_aload_n dX11_on_35 rfl) <|
  .cons (ix_s_getr (j := 2) tu_X11 rfl (by decide) (by decide) tw_877 rfl ts_10_2_r dX11_on_36) <|
  .cons (oc_X11_copy_s (ix_s_calls (k_X11_copy l) (by decide) (by decide) tw_1221 tw_12 tw_1219 tw_1220 ⟨by decide, by decide, by decide +kernel⟩ (fun _ => rfl) dX11_on_39)) <|
  .cons (ix_s_aload_n dX11_on_42 rfl) <|
  .cons (ix_s_iload_n dX11_on_43 rfl) <|
  .cons (oc_X11_minutesGo_s (ix_s_callv (t := 10) (k_X11_minutesGo l) (by decide) (by decide) tw_1187 tw_12 tw_1184 tw_1186 tp_44 ⟨by decide, by decide, by decide +kernel⟩ (by decide) rfl rfl (fun _ => ⟨_, _, rfl, rfl⟩) dX11_on_44)) <|
  .cons (ix_s_istore dX11_on_47 (by decide)) <|
  .cons (ix_s_aload_n dX11_on_49 rfl) <|
  .cons (ix_s_iload dX11_on_50) <|
  .cons (ix_s_if_ge dX11_on_52 (by decide)) <|
  .cons (ix_s_iload dX11_on_55) <|
  .cons (ix_s_goto dX11_on_57 (by decide)) <|
  .cons (ix_s_aload_n dX11_on_60 rfl) <|
  .cons (ix_s_iload_n dX11_on_61 rfl) <|
  .cons (ix_s_iconst dX11_on_62 (by decide +kernel)) <|
  .cons (ix_s_iload_n dX11_on_63 rfl) <|
  .cons (ix_s_iadd dX11_on_64) <|
  .cons (oc_X11_boatIs_s (ix_s_callv (t := 10) (k_X11_boatIs l) (by decide) (by decide) tw_1083 tw_12 tw_1080 tw_1082 tp_34 ⟨by decide, by decide, by decide +kernel⟩ (by decide) rfl rfl (fun _ => ⟨_, _, rfl, rfl⟩) dX11_on_65)) <|
  .cons (oc_X11_putBack_s (ix_s_callv (t := 10) (k_X11_putBack l) (by decide) (by decide) tw_1229 tw_12 tw_1226 tw_1228 tp_50 ⟨by decide, by decide, by decide +kernel⟩ (by decide) rfl rfl (fun _ => ⟨_, _, rfl, rfl⟩) dX11_on_68)) <|
  .cons (ix_s_iret dX11_on_71 rfl) <| .nil
theorem e_X11_on_0 (Q : ix_R → Prop) (ls : ix_L) (st : List ix_V) (μ : ix_M) : ix_Ev o_X11_on Q (0, ls, st, μ) = ix_aload 0 1 (ix_Ev o_X11_on Q) Q ls st μ := ix_Ev.eq (a_X11_on launch0) rfl ls st μ
theorem e_X11_on_1 (Q : ix_R → Prop) (ls : ix_L) (st : List ix_V) (μ : ix_M) : ix_Ev o_X11_on Q (1, ls, st, μ) = ix_iload 1 2 (ix_Ev o_X11_on Q) Q ls st μ := ix_Ev.eq (a_X11_on launch0) rfl ls st μ
theorem e_X11_on_2 (Q : ix_R → Prop) (ls : ix_L) (st : List ix_V) (μ : ix_M) : ix_Ev o_X11_on Q (2, ls, st, μ) = oc_X11_isBoat 5 (ix_Ev o_X11_on Q) Q ls st μ := ix_Ev.eq (a_X11_on launch0) rfl ls st μ
theorem e_X11_on_5 (Q : ix_R → Prop) (ls : ix_L) (st : List ix_V) (μ : ix_M) : ix_Ev o_X11_on Q (5, ls, st, μ) = ix_if (fun x => x = 0) 24 8 (ix_Ev o_X11_on Q) Q ls st μ := ix_Ev.eq (a_X11_on launch0) rfl ls st μ
theorem e_X11_on_8 (Q : ix_R → Prop) (ls : ix_L) (st : List ix_V) (μ : ix_M) : ix_Ev o_X11_on Q (8, ls, st, μ) = ix_iload 2 9 (ix_Ev o_X11_on Q) Q ls st μ := ix_Ev.eq (a_X11_on launch0) rfl ls st μ
theorem e_X11_on_9 (Q : ix_R → Prop) (ls : ix_L) (st : List ix_V) (μ : ix_M) : ix_Ev o_X11_on Q (9, ls, st, μ) = oc_X11_isBehind 12 (ix_Ev o_X11_on Q) Q ls st μ := ix_Ev.eq (a_X11_on launch0) rfl ls st μ
theorem e_X11_on_12 (Q : ix_R → Prop) (ls : ix_L) (st : List ix_V) (μ : ix_M) : ix_Ev o_X11_on Q (12, ls, st, μ) = ix_if (fun x => x = 0) 24 15 (ix_Ev o_X11_on Q) Q ls st μ := ix_Ev.eq (a_X11_on launch0) rfl ls st μ
theorem e_X11_on_15 (Q : ix_R → Prop) (ls : ix_L) (st : List ix_V) (μ : ix_M) : ix_Ev o_X11_on Q (15, ls, st, μ) = ix_iload 3 16 (ix_Ev o_X11_on Q) Q ls st μ := ix_Ev.eq (a_X11_on launch0) rfl ls st μ
theorem e_X11_on_16 (Q : ix_R → Prop) (ls : ix_L) (st : List ix_V) (μ : ix_M) : ix_Ev o_X11_on Q (16, ls, st, μ) = ix_push (vi 0) 17 (ix_Ev o_X11_on Q) Q ls st μ := ix_Ev.eq (a_X11_on launch0) rfl ls st μ
theorem e_X11_on_17 (Q : ix_R → Prop) (ls : ix_L) (st : List ix_V) (μ : ix_M) : ix_Ev o_X11_on Q (17, ls, st, μ) = ix_push (vi 1) 18 (ix_Ev o_X11_on Q) Q ls st μ := ix_Ev.eq (a_X11_on launch0) rfl ls st μ
theorem e_X11_on_18 (Q : ix_R → Prop) (ls : ix_L) (st : List ix_V) (μ : ix_M) : ix_Ev o_X11_on Q (18, ls, st, μ) = oc_X11_within 21 (ix_Ev o_X11_on Q) Q ls st μ := ix_Ev.eq (a_X11_on launch0) rfl ls st μ
theorem e_X11_on_21 (Q : ix_R → Prop) (ls : ix_L) (st : List ix_V) (μ : ix_M) : ix_Ev o_X11_on Q (21, ls, st, μ) = ix_if (fun x => x = 0) 24 31 (ix_Ev o_X11_on Q) Q ls st μ := ix_Ev.eq (a_X11_on launch0) rfl ls st μ
theorem e_X11_on_24 (Q : ix_R → Prop) (ls : ix_L) (st : List ix_V) (μ : ix_M) : ix_Ev o_X11_on Q (24, ls, st, μ) = ix_aload 0 25 (ix_Ev o_X11_on Q) Q ls st μ := ix_Ev.eq (a_X11_on launch0) rfl ls st μ
theorem e_X11_on_25 (Q : ix_R → Prop) (ls : ix_L) (st : List ix_V) (μ : ix_M) : ix_Ev o_X11_on Q (25, ls, st, μ) = ix_push (vi (-1000000001)) 27 (ix_Ev o_X11_on Q) Q ls st μ := ix_Ev.eq (a_X11_on launch0) rfl ls st μ
theorem e_X11_on_27 (Q : ix_R → Prop) (ls : ix_L) (st : List ix_V) (μ : ix_M) : ix_Ev o_X11_on Q (27, ls, st, μ) = oc_X11_finding 30 (ix_Ev o_X11_on Q) Q ls st μ := ix_Ev.eq (a_X11_on launch0) rfl ls st μ
theorem e_X11_on_30 (Q : ix_R → Prop) (ls : ix_L) (st : List ix_V) (μ : ix_M) : ix_Ev o_X11_on Q (30, ls, st, μ) = ix_iret (ix_Ev o_X11_on Q) Q ls st μ := ix_Ev.eq (a_X11_on launch0) rfl ls st μ
theorem e_X11_on_31 (Q : ix_R → Prop) (ls : ix_L) (st : List ix_V) (μ : ix_M) : ix_Ev o_X11_on Q (31, ls, st, μ) = ix_aload 0 32 (ix_Ev o_X11_on Q) Q ls st μ := ix_Ev.eq (a_X11_on launch0) rfl ls st μ
theorem e_X11_on_32 (Q : ix_R → Prop) (ls : ix_L) (st : List ix_V) (μ : ix_M) : ix_Ev o_X11_on Q (32, ls, st, μ) = ix_getr 10 20 (fun _ => 113) 35 (ix_Ev o_X11_on Q) Q ls st μ := ix_Ev.eq (a_X11_on launch0) rfl ls st μ
theorem e_X11_on_35 (Q : ix_R → Prop) (ls : ix_L) (st : List ix_V) (μ : ix_M) : ix_Ev o_X11_on Q (35, ls, st, μ) = ix_aload 0 36 (ix_Ev o_X11_on Q) Q ls st μ := ix_Ev.eq (a_X11_on launch0) rfl ls st μ
theorem e_X11_on_36 (Q : ix_R → Prop) (ls : ix_L) (st : List ix_V) (μ : ix_M) : ix_Ev o_X11_on Q (36, ls, st, μ) = ix_getr 10 20 (fun _ => 115) 39 (ix_Ev o_X11_on Q) Q ls st μ := ix_Ev.eq (a_X11_on launch0) rfl ls st μ
theorem e_X11_on_39 (Q : ix_R → Prop) (ls : ix_L) (st : List ix_V) (μ : ix_M) : ix_Ev o_X11_on Q (39, ls, st, μ) = oc_X11_copy 42 (ix_Ev o_X11_on Q) Q ls st μ := ix_Ev.eq (a_X11_on launch0) rfl ls st μ
theorem e_X11_on_42 (Q : ix_R → Prop) (ls : ix_L) (st : List ix_V) (μ : ix_M) : ix_Ev o_X11_on Q (42, ls, st, μ) = ix_aload 0 43 (ix_Ev o_X11_on Q) Q ls st μ := ix_Ev.eq (a_X11_on launch0) rfl ls st μ
theorem e_X11_on_43 (Q : ix_R → Prop) (ls : ix_L) (st : List ix_V) (μ : ix_M) : ix_Ev o_X11_on Q (43, ls, st, μ) = ix_iload 2 44 (ix_Ev o_X11_on Q) Q ls st μ := ix_Ev.eq (a_X11_on launch0) rfl ls st μ
theorem e_X11_on_44 (Q : ix_R → Prop) (ls : ix_L) (st : List ix_V) (μ : ix_M) : ix_Ev o_X11_on Q (44, ls, st, μ) = oc_X11_minutesGo 47 (ix_Ev o_X11_on Q) Q ls st μ := ix_Ev.eq (a_X11_on launch0) rfl ls st μ
theorem e_X11_on_47 (Q : ix_R → Prop) (ls : ix_L) (st : List ix_V) (μ : ix_M) : ix_Ev o_X11_on Q (47, ls, st, μ) = ix_istore 4 49 (ix_Ev o_X11_on Q) Q ls st μ := ix_Ev.eq (a_X11_on launch0) rfl ls st μ
theorem e_X11_on_49 (Q : ix_R → Prop) (ls : ix_L) (st : List ix_V) (μ : ix_M) : ix_Ev o_X11_on Q (49, ls, st, μ) = ix_aload 0 50 (ix_Ev o_X11_on Q) Q ls st μ := ix_Ev.eq (a_X11_on launch0) rfl ls st μ
theorem e_X11_on_50 (Q : ix_R → Prop) (ls : ix_L) (st : List ix_V) (μ : ix_M) : ix_Ev o_X11_on Q (50, ls, st, μ) = ix_iload 4 52 (ix_Ev o_X11_on Q) Q ls st μ := ix_Ev.eq (a_X11_on launch0) rfl ls st μ
theorem e_X11_on_52 (Q : ix_R → Prop) (ls : ix_L) (st : List ix_V) (μ : ix_M) : ix_Ev o_X11_on Q (52, ls, st, μ) = ix_if (fun x => 0 ≤ x) 60 55 (ix_Ev o_X11_on Q) Q ls st μ := ix_Ev.eq (a_X11_on launch0) rfl ls st μ
theorem e_X11_on_55 (Q : ix_R → Prop) (ls : ix_L) (st : List ix_V) (μ : ix_M) : ix_Ev o_X11_on Q (55, ls, st, μ) = ix_iload 4 57 (ix_Ev o_X11_on Q) Q ls st μ := ix_Ev.eq (a_X11_on launch0) rfl ls st μ
theorem e_X11_on_57 (Q : ix_R → Prop) (ls : ix_L) (st : List ix_V) (μ : ix_M) : ix_Ev o_X11_on Q (57, ls, st, μ) = ix_goto 68 (ix_Ev o_X11_on Q) Q ls st μ := ix_Ev.eq (a_X11_on launch0) rfl ls st μ
theorem e_X11_on_60 (Q : ix_R → Prop) (ls : ix_L) (st : List ix_V) (μ : ix_M) : ix_Ev o_X11_on Q (60, ls, st, μ) = ix_aload 0 61 (ix_Ev o_X11_on Q) Q ls st μ := ix_Ev.eq (a_X11_on launch0) rfl ls st μ
theorem e_X11_on_61 (Q : ix_R → Prop) (ls : ix_L) (st : List ix_V) (μ : ix_M) : ix_Ev o_X11_on Q (61, ls, st, μ) = ix_iload 1 62 (ix_Ev o_X11_on Q) Q ls st μ := ix_Ev.eq (a_X11_on launch0) rfl ls st μ
theorem e_X11_on_62 (Q : ix_R → Prop) (ls : ix_L) (st : List ix_V) (μ : ix_M) : ix_Ev o_X11_on Q (62, ls, st, μ) = ix_push (vi 2) 63 (ix_Ev o_X11_on Q) Q ls st μ := ix_Ev.eq (a_X11_on launch0) rfl ls st μ
theorem e_X11_on_63 (Q : ix_R → Prop) (ls : ix_L) (st : List ix_V) (μ : ix_M) : ix_Ev o_X11_on Q (63, ls, st, μ) = ix_iload 3 64 (ix_Ev o_X11_on Q) Q ls st μ := ix_Ev.eq (a_X11_on launch0) rfl ls st μ
theorem e_X11_on_64 (Q : ix_R → Prop) (ls : ix_L) (st : List ix_V) (μ : ix_M) : ix_Ev o_X11_on Q (64, ls, st, μ) = ix_bin (fun x y => x + y) 65 (ix_Ev o_X11_on Q) Q ls st μ := ix_Ev.eq (a_X11_on launch0) rfl ls st μ
theorem e_X11_on_65 (Q : ix_R → Prop) (ls : ix_L) (st : List ix_V) (μ : ix_M) : ix_Ev o_X11_on Q (65, ls, st, μ) = oc_X11_boatIs 68 (ix_Ev o_X11_on Q) Q ls st μ := ix_Ev.eq (a_X11_on launch0) rfl ls st μ
theorem e_X11_on_68 (Q : ix_R → Prop) (ls : ix_L) (st : List ix_V) (μ : ix_M) : ix_Ev o_X11_on Q (68, ls, st, μ) = oc_X11_putBack 71 (ix_Ev o_X11_on Q) Q ls st μ := ix_Ev.eq (a_X11_on launch0) rfl ls st μ
theorem e_X11_on_71 (Q : ix_R → Prop) (ls : ix_L) (st : List ix_V) (μ : ix_M) : ix_Ev o_X11_on Q (71, ls, st, μ) = ix_iret (ix_Ev o_X11_on Q) Q ls st μ := ix_Ev.eq (a_X11_on launch0) rfl ls st μ
theorem pr_on (b : Int32) (n : Int32) (w : Int32) (μ : ix_M) (I : Inv μ) (Q : ix_R → Prop) (hQ : ∀ vv μ', ix_Ev o_X11_on (Pst vv) (0, [some (vr 10 112), some (vi b), some (vi n), some (vi w), none], [], μ') → Q (some (vi vv), μ')) : ix_Ev o_X10_on Q (0, [some (vr 9 0), some (vi b), some (vi n), some (vi w), none], [], μ) := by
  obtain ⟨N, hN, n1, n2⟩ := I.n
  rcases inB b hN with ⟨B, hB, rfl, B1, B2, B3, B4⟩ | ⟨hx1, hx2⟩
  · have Bc : (nI B).toNatClampNeg = B := nI_clamp (by omega)
    rcases inR n 60 (by decide) with ⟨K, hK, rfl⟩ | ⟨hx1, hx2⟩
    · obtain ⟨K1, K2, K3, K4⟩ : ¬ nI K < 0 ∧ ¬ (60 : Int32) < nI K ∧ 0 ≤ nI K ∧ nI K ≤ (60 : Int32) := rgN hK (by decide)
      have Kc : (nI K).toNatClampNeg = K := nI_clamp (by omega)
      rcases inR w 1 (by decide) with ⟨W, hW, rfl⟩ | ⟨hx1, hx2⟩
      · obtain ⟨W1, W2, W3, W4⟩ : ¬ nI W < 0 ∧ ¬ (1 : Int32) < nI W ∧ 0 ≤ nI W ∧ nI W ≤ (1 : Int32) := rgN hW (by decide)
        have Wc : (nI W).toNatClampNeg = W := nI_clamp (by omega)
        obtain ⟨M, hM, hR, m1, m2⟩ := I.mi
        obtain ⟨ds, dl, hL, x1, x2⟩ := I.tx
        have v3 : vp_in (nI B) (ix_len 54) := vp_in_nI (show B < 8 by omega) (by decide)
        have v4 : vp_in (nI B) (ix_len 55) := vp_in_nI (show B < 8 by omega) (by decide)
        have hx := bx B (by omega)
        simp (decide := true) only [e_X10_on_0, e_X10_on_1, e_X10_on_2, e_X10_on_5, e_X10_on_8, e_X10_on_9, e_X10_on_11, e_X10_on_14, e_X10_on_17, e_X10_on_18, e_X10_on_19, e_X10_on_22, e_X10_on_25, e_X10_on_26, e_X10_on_27, e_X10_on_30, e_X10_on_31, e_X10_on_32, e_X10_on_35, e_X10_on_37, e_X10_on_38, e_X10_on_40, e_X10_on_41, e_X10_on_44, e_X10_on_45, e_X10_on_46, e_X10_on_49, e_X10_on_51, e_X10_on_54, e_X10_on_55, e_X10_on_56, e_X10_on_59, e_X10_on_61, e_X10_on_64, e_X10_on_65, e_X10_on_66, vi, vl, vr, oc_X10_error, T_X10_error, oc_X10_hadBehind, T_X10_hadBehind, oc_X10_noBoat, T_X10_noBoat, oc_X10_outside, T_X10_outside, oc_X10_think, T_X10_think, ix_push, ix_iload, ix_lload, ix_aload, ix_istore, ix_astore, ix_iinc, ix_bin, ix_div, ix_un, ix_i2l, ix_l2i, ix_lbin, ix_lsh, ix_lcmp, ix_dup, ix_dup2, ix_pop, ix_if, ix_cmp, ix_goto, ix_switch, ix_sw, ix_iret, ix_zret, ix_vret, ix_aret, ix_geti, ix_getr, ix_puti, ix_putz, ix_puts, ix_gets, ix_iald, ix_iast, ix_alen, ix_aald, ix_gval, ix_gcod, ix_bald, ix_blen, ix_sald, ix_nret, ix_math2, ix_math1, ix_acopy, Nat.add_assoc, Int32.reduceLT, Int32.reduceLE, Int32.reduceToNatClampNeg, Int32.reduceSub, Int32.reduceAdd, Nat.reduceAdd, Nat.reduceLeDiff, true_or, or_true, or_false, false_or, not_false_eq_true, not_true_eq_false, false_implies, true_implies, implies_true, and_self, mB_0, mB_01, Classical.not_not, Nat.zero_le, List.getElem?_cons_zero, List.getElem?_cons_succ, List.set_cons_zero, List.set_cons_succ, ix_nl, ix_cs, true_and, and_true, Option.toList_some, Option.toList_none, List.cons_append, List.nil_append, n1, n2, B1, B2, B3, B4, Bc, K1, K2, K3, K4, Kc, W1, W2, W3, W4, Wc, v3, v4, ix_up_ne, ix_up_k, ve_1, ve_2, ve_3, ve_4, ve_5]
        intro μ1 F1 V1
        have I1 := I.scr F1 (by decide)
        refine ⟨M, K, ds, dl, by rw [V1, I.hw]; exact hR.1, rfl, by omega, hL.fx F1 (by decide), fun μ2 F2 V2 => ?_⟩
        have I2 := I1.scr F2 (by decide)
        have e : μ2 113 = μ 113 := by rw [F2 113 (by decide), F1 113 (by decide)]
        have n3 : μ2 113 1 = nI N := by rw [e]; exact n2
        have hV2 : wv μ2 48 = pIt ds dl K (nv (μ 113)) := by rw [V2, V1, I.hw]
        have go : ∀ μ3 : ix_M, Fx [115] μ2 μ3 → MW μ3 M ds dl ∧ μ3 112 5 = -1 ∧ μ3 113 = μ 113 := fun μ3 F3 => by
          have e3 : μ3 113 = μ 113 := by rw [F3 113 (by decide), e]
          exact ⟨mwOf (by rw [e3]; exact hR) (by rw [e3]; exact x1) (by rw [e3]; exact x2), by rw [F3 112 (by decide)]; exact I2.2.2.2.2.2.2.1, e3⟩
        obtain ⟨y, hy, ey⟩ := (wr_it hR ds dl K).had
        have hn0 : ¬ pH (pIt ds dl K (nv (μ 113))) < 0 := by rw [ey]; exact nI_pos (by omega)
        obtain rfl | rfl : W = 0 ∨ W = 1 := by omega
        · refine ⟨fun _ => hQ _ _ ?_, fun z => absurd rfl z⟩
          simp (decide := true) only [e_X11_on_0, e_X11_on_1, e_X11_on_2, e_X11_on_5, e_X11_on_8, e_X11_on_9, e_X11_on_12, e_X11_on_15, e_X11_on_16, e_X11_on_17, e_X11_on_18, e_X11_on_21, e_X11_on_24, e_X11_on_25, e_X11_on_27, e_X11_on_30, e_X11_on_31, e_X11_on_32, e_X11_on_35, e_X11_on_36, e_X11_on_39, e_X11_on_42, e_X11_on_43, e_X11_on_44, e_X11_on_47, e_X11_on_49, e_X11_on_50, e_X11_on_52, e_X11_on_55, e_X11_on_57, e_X11_on_60, e_X11_on_61, e_X11_on_62, e_X11_on_63, e_X11_on_64, e_X11_on_65, e_X11_on_68, e_X11_on_71, vi, vl, vr, oc_X11_boatIs, T_X11_boatIs, oc_X11_copy, T_X11_copy, oc_X11_finding, T_X11_finding, oc_X11_isBehind, T_X11_isBehind, oc_X11_isBoat, T_X11_isBoat, oc_X11_minutesGo, T_X11_minutesGo, oc_X11_putBack, T_X11_putBack, oc_X11_within, T_X11_within, ix_push, ix_iload, ix_lload, ix_aload, ix_istore, ix_astore, ix_iinc, ix_bin, ix_div, ix_un, ix_i2l, ix_l2i, ix_lbin, ix_lsh, ix_lcmp, ix_dup, ix_dup2, ix_pop, ix_if, ix_cmp, ix_goto, ix_switch, ix_sw, ix_iret, ix_zret, ix_vret, ix_aret, ix_geti, ix_getr, ix_puti, ix_putz, ix_puts, ix_gets, ix_iald, ix_iast, ix_alen, ix_aald, ix_gval, ix_gcod, ix_bald, ix_blen, ix_sald, ix_nret, ix_math2, ix_math1, ix_acopy, ml_113, ml_114, ml_115, ml_116, ml_118, ml_119, ml_120, ml_121, ml_122, ml_123, ml_124, ml_125, ml_126, mv_0, mv_1, mv_2, mv_3, mv_4, mv_5, mB_or, Nat.add_assoc, Int32.reduceLT, Int32.reduceLE, Int32.reduceToNatClampNeg, Int32.reduceSub, Int32.reduceAdd, Nat.reduceAdd, Nat.reduceLeDiff, true_or, or_true, or_false, false_or, not_false_eq_true, not_true_eq_false, false_implies, true_implies, implies_true, and_self, mB_0, mB_01, Classical.not_not, Nat.zero_le, List.getElem?_cons_zero, List.getElem?_cons_succ, List.set_cons_zero, List.set_cons_succ, ix_nl, ix_cs, true_and, and_true, Option.toList_some, Option.toList_none, List.cons_append, List.nil_append, B3, B4, K3, K4, W3, W4, n3, nz_0, hx, ix_up_ne, ix_up_k, ve_1, ve_2, ve_3, ve_4, ve_5]
          intro μ3 F3 R3
          obtain ⟨g1, g2, g3⟩ := go μ3 F3
          refine ⟨M, K, ds, dl, g1, rfl, by omega, g2, fun μ4 F4 V4 R4 => ?_⟩
          rw [g3]
          refine ⟨fun _ μ5 F5 R5 => pst ?_ (I2.asd F3 R3 F4 F5 R5), fun z => absurd (Int32.not_lt.mp hn0) z⟩
          rw [← nv_6 (μ4 113) (i := B) (by omega), V4, g3, ← hV2, wv_at (wok_6 (by omega))]
        · refine ⟨fun z => absurd z (by decide), fun _ => hQ _ _ ?_⟩
          simp (decide := true) only [e_X11_on_0, e_X11_on_1, e_X11_on_2, e_X11_on_5, e_X11_on_8, e_X11_on_9, e_X11_on_12, e_X11_on_15, e_X11_on_16, e_X11_on_17, e_X11_on_18, e_X11_on_21, e_X11_on_24, e_X11_on_25, e_X11_on_27, e_X11_on_30, e_X11_on_31, e_X11_on_32, e_X11_on_35, e_X11_on_36, e_X11_on_39, e_X11_on_42, e_X11_on_43, e_X11_on_44, e_X11_on_47, e_X11_on_49, e_X11_on_50, e_X11_on_52, e_X11_on_55, e_X11_on_57, e_X11_on_60, e_X11_on_61, e_X11_on_62, e_X11_on_63, e_X11_on_64, e_X11_on_65, e_X11_on_68, e_X11_on_71, vi, vl, vr, oc_X11_boatIs, T_X11_boatIs, oc_X11_copy, T_X11_copy, oc_X11_finding, T_X11_finding, oc_X11_isBehind, T_X11_isBehind, oc_X11_isBoat, T_X11_isBoat, oc_X11_minutesGo, T_X11_minutesGo, oc_X11_putBack, T_X11_putBack, oc_X11_within, T_X11_within, ix_push, ix_iload, ix_lload, ix_aload, ix_istore, ix_astore, ix_iinc, ix_bin, ix_div, ix_un, ix_i2l, ix_l2i, ix_lbin, ix_lsh, ix_lcmp, ix_dup, ix_dup2, ix_pop, ix_if, ix_cmp, ix_goto, ix_switch, ix_sw, ix_iret, ix_zret, ix_vret, ix_aret, ix_geti, ix_getr, ix_puti, ix_putz, ix_puts, ix_gets, ix_iald, ix_iast, ix_alen, ix_aald, ix_gval, ix_gcod, ix_bald, ix_blen, ix_sald, ix_nret, ix_math2, ix_math1, ix_acopy, ml_113, ml_114, ml_115, ml_116, ml_118, ml_119, ml_120, ml_121, ml_122, ml_123, ml_124, ml_125, ml_126, mv_0, mv_1, mv_2, mv_3, mv_4, mv_5, mB_or, Nat.add_assoc, Int32.reduceLT, Int32.reduceLE, Int32.reduceToNatClampNeg, Int32.reduceSub, Int32.reduceAdd, Nat.reduceAdd, Nat.reduceLeDiff, true_or, or_true, or_false, false_or, not_false_eq_true, not_true_eq_false, false_implies, true_implies, implies_true, and_self, mB_0, mB_01, Classical.not_not, Nat.zero_le, List.getElem?_cons_zero, List.getElem?_cons_succ, List.set_cons_zero, List.set_cons_succ, ix_nl, ix_cs, true_and, and_true, Option.toList_some, Option.toList_none, List.cons_append, List.nil_append, B3, B4, K3, K4, W3, W4, n3, nz_1, hx, ix_up_ne, ix_up_k, ve_1, ve_2, ve_3, ve_4, ve_5]
          intro μ3 F3 R3
          obtain ⟨g1, g2, g3⟩ := go μ3 F3
          refine ⟨M, K, ds, dl, g1, rfl, by omega, g2, fun μ4 F4 V4 R4 => ?_⟩
          rw [g3]
          refine ⟨fun _ μ5 F5 R5 => pst ?_ (I2.asd F3 R3 F4 F5 R5), fun z => absurd (Int32.not_lt.mp hn0) z⟩
          rw [← nv_7 (μ4 113) (i := B) (by omega), V4, g3, ← hV2, wv_at (wok_7 (by omega))]
      · have hx1 : w < 0 ∨ (1 : Int32) < w := hx1
        have hx2 : ¬ (0 ≤ w ∧ w ≤ (1 : Int32)) := hx2
        have hx3 : ¬ w = 0 := by rintro rfl; exact hx2 (by decide)
        have hx4 : ¬ w = 1 := by rintro rfl; exact hx2 (by decide)
        simp (decide := true) only [e_X10_on_0, e_X10_on_1, e_X10_on_2, e_X10_on_5, e_X10_on_8, e_X10_on_9, e_X10_on_11, e_X10_on_14, e_X10_on_17, e_X10_on_18, e_X10_on_19, e_X10_on_22, e_X10_on_25, e_X10_on_26, e_X10_on_27, e_X10_on_30, e_X10_on_31, e_X10_on_32, e_X10_on_35, e_X10_on_37, e_X10_on_38, e_X10_on_40, e_X10_on_41, e_X10_on_44, e_X10_on_45, e_X10_on_46, e_X10_on_49, e_X10_on_51, e_X10_on_54, e_X10_on_55, e_X10_on_56, e_X10_on_59, e_X10_on_61, e_X10_on_64, e_X10_on_65, e_X10_on_66, vi, vl, vr, oc_X10_error, T_X10_error, oc_X10_hadBehind, T_X10_hadBehind, oc_X10_noBoat, T_X10_noBoat, oc_X10_outside, T_X10_outside, oc_X10_think, T_X10_think, ix_push, ix_iload, ix_lload, ix_aload, ix_istore, ix_astore, ix_iinc, ix_bin, ix_div, ix_un, ix_i2l, ix_l2i, ix_lbin, ix_lsh, ix_lcmp, ix_dup, ix_dup2, ix_pop, ix_if, ix_cmp, ix_goto, ix_switch, ix_sw, ix_iret, ix_zret, ix_vret, ix_aret, ix_geti, ix_getr, ix_puti, ix_putz, ix_puts, ix_gets, ix_iald, ix_iast, ix_alen, ix_aald, ix_gval, ix_gcod, ix_bald, ix_blen, ix_sald, ix_nret, ix_math2, ix_math1, ix_acopy, Nat.add_assoc, Int32.reduceLT, Int32.reduceLE, Int32.reduceToNatClampNeg, Int32.reduceSub, Int32.reduceAdd, Nat.reduceAdd, Nat.reduceLeDiff, true_or, or_true, or_false, false_or, not_false_eq_true, not_true_eq_false, false_implies, true_implies, implies_true, and_self, mB_0, mB_01, Classical.not_not, Nat.zero_le, List.getElem?_cons_zero, List.getElem?_cons_succ, List.set_cons_zero, List.set_cons_succ, ix_nl, ix_cs, true_and, and_true, Option.toList_some, Option.toList_none, List.cons_append, List.nil_append, n1, n2, B1, B2, B3, B4, Bc, K1, K2, K3, K4, Kc, hx1, hx2, hx3, hx4, ix_up_ne, ix_up_k, ve_1, ve_2, ve_3, ve_4, ve_5]
        refine hQ _ _ ?_
        simp (decide := true) only [e_X11_on_0, e_X11_on_1, e_X11_on_2, e_X11_on_5, e_X11_on_8, e_X11_on_9, e_X11_on_12, e_X11_on_15, e_X11_on_16, e_X11_on_17, e_X11_on_18, e_X11_on_21, e_X11_on_24, e_X11_on_25, e_X11_on_27, e_X11_on_30, e_X11_on_31, e_X11_on_32, e_X11_on_35, e_X11_on_36, e_X11_on_39, e_X11_on_42, e_X11_on_43, e_X11_on_44, e_X11_on_47, e_X11_on_49, e_X11_on_50, e_X11_on_52, e_X11_on_55, e_X11_on_57, e_X11_on_60, e_X11_on_61, e_X11_on_62, e_X11_on_63, e_X11_on_64, e_X11_on_65, e_X11_on_68, e_X11_on_71, vi, vl, vr, oc_X11_boatIs, T_X11_boatIs, oc_X11_copy, T_X11_copy, oc_X11_finding, T_X11_finding, oc_X11_isBehind, T_X11_isBehind, oc_X11_isBoat, T_X11_isBoat, oc_X11_minutesGo, T_X11_minutesGo, oc_X11_putBack, T_X11_putBack, oc_X11_within, T_X11_within, ix_push, ix_iload, ix_lload, ix_aload, ix_istore, ix_astore, ix_iinc, ix_bin, ix_div, ix_un, ix_i2l, ix_l2i, ix_lbin, ix_lsh, ix_lcmp, ix_dup, ix_dup2, ix_pop, ix_if, ix_cmp, ix_goto, ix_switch, ix_sw, ix_iret, ix_zret, ix_vret, ix_aret, ix_geti, ix_getr, ix_puti, ix_putz, ix_puts, ix_gets, ix_iald, ix_iast, ix_alen, ix_aald, ix_gval, ix_gcod, ix_bald, ix_blen, ix_sald, ix_nret, ix_math2, ix_math1, ix_acopy, ml_113, ml_114, ml_115, ml_116, ml_118, ml_119, ml_120, ml_121, ml_122, ml_123, ml_124, ml_125, ml_126, mv_0, mv_1, mv_2, mv_3, mv_4, mv_5, mB_or, Nat.add_assoc, Int32.reduceLT, Int32.reduceLE, Int32.reduceToNatClampNeg, Int32.reduceSub, Int32.reduceAdd, Nat.reduceAdd, Nat.reduceLeDiff, true_or, or_true, or_false, false_or, not_false_eq_true, not_true_eq_false, false_implies, true_implies, implies_true, and_self, mB_0, mB_01, Classical.not_not, Nat.zero_le, List.getElem?_cons_zero, List.getElem?_cons_succ, List.set_cons_zero, List.set_cons_succ, ix_nl, ix_cs, true_and, and_true, Option.toList_some, Option.toList_none, List.cons_append, List.nil_append, n1, n2, B1, B2, B3, B4, Bc, K1, K2, K3, K4, Kc, hx1, hx2, hx3, hx4, ix_up_ne, ix_up_k, ve_1, ve_2, ve_3, ve_4, ve_5]
        repeat' (first | exact I.er 1 (by decide) | refine ⟨fun _ => ?_, fun _ => ?_⟩)
    · have hx1 : n < 0 ∨ (60 : Int32) < n := hx1
      have hx2 : ¬ (0 ≤ n ∧ n ≤ (60 : Int32)) := hx2
      simp (decide := true) only [e_X10_on_0, e_X10_on_1, e_X10_on_2, e_X10_on_5, e_X10_on_8, e_X10_on_9, e_X10_on_11, e_X10_on_14, e_X10_on_17, e_X10_on_18, e_X10_on_19, e_X10_on_22, e_X10_on_25, e_X10_on_26, e_X10_on_27, e_X10_on_30, e_X10_on_31, e_X10_on_32, e_X10_on_35, e_X10_on_37, e_X10_on_38, e_X10_on_40, e_X10_on_41, e_X10_on_44, e_X10_on_45, e_X10_on_46, e_X10_on_49, e_X10_on_51, e_X10_on_54, e_X10_on_55, e_X10_on_56, e_X10_on_59, e_X10_on_61, e_X10_on_64, e_X10_on_65, e_X10_on_66, vi, vl, vr, oc_X10_error, T_X10_error, oc_X10_hadBehind, T_X10_hadBehind, oc_X10_noBoat, T_X10_noBoat, oc_X10_outside, T_X10_outside, oc_X10_think, T_X10_think, ix_push, ix_iload, ix_lload, ix_aload, ix_istore, ix_astore, ix_iinc, ix_bin, ix_div, ix_un, ix_i2l, ix_l2i, ix_lbin, ix_lsh, ix_lcmp, ix_dup, ix_dup2, ix_pop, ix_if, ix_cmp, ix_goto, ix_switch, ix_sw, ix_iret, ix_zret, ix_vret, ix_aret, ix_geti, ix_getr, ix_puti, ix_putz, ix_puts, ix_gets, ix_iald, ix_iast, ix_alen, ix_aald, ix_gval, ix_gcod, ix_bald, ix_blen, ix_sald, ix_nret, ix_math2, ix_math1, ix_acopy, Nat.add_assoc, Int32.reduceLT, Int32.reduceLE, Int32.reduceToNatClampNeg, Int32.reduceSub, Int32.reduceAdd, Nat.reduceAdd, Nat.reduceLeDiff, true_or, or_true, or_false, false_or, not_false_eq_true, not_true_eq_false, false_implies, true_implies, implies_true, and_self, mB_0, mB_01, Classical.not_not, Nat.zero_le, List.getElem?_cons_zero, List.getElem?_cons_succ, List.set_cons_zero, List.set_cons_succ, ix_nl, ix_cs, true_and, and_true, Option.toList_some, Option.toList_none, List.cons_append, List.nil_append, n1, n2, B1, B2, B3, B4, Bc, hx1, hx2, ix_up_ne, ix_up_k, ve_1, ve_2, ve_3, ve_4, ve_5]
      refine hQ _ _ ?_
      simp (decide := true) only [e_X11_on_0, e_X11_on_1, e_X11_on_2, e_X11_on_5, e_X11_on_8, e_X11_on_9, e_X11_on_12, e_X11_on_15, e_X11_on_16, e_X11_on_17, e_X11_on_18, e_X11_on_21, e_X11_on_24, e_X11_on_25, e_X11_on_27, e_X11_on_30, e_X11_on_31, e_X11_on_32, e_X11_on_35, e_X11_on_36, e_X11_on_39, e_X11_on_42, e_X11_on_43, e_X11_on_44, e_X11_on_47, e_X11_on_49, e_X11_on_50, e_X11_on_52, e_X11_on_55, e_X11_on_57, e_X11_on_60, e_X11_on_61, e_X11_on_62, e_X11_on_63, e_X11_on_64, e_X11_on_65, e_X11_on_68, e_X11_on_71, vi, vl, vr, oc_X11_boatIs, T_X11_boatIs, oc_X11_copy, T_X11_copy, oc_X11_finding, T_X11_finding, oc_X11_isBehind, T_X11_isBehind, oc_X11_isBoat, T_X11_isBoat, oc_X11_minutesGo, T_X11_minutesGo, oc_X11_putBack, T_X11_putBack, oc_X11_within, T_X11_within, ix_push, ix_iload, ix_lload, ix_aload, ix_istore, ix_astore, ix_iinc, ix_bin, ix_div, ix_un, ix_i2l, ix_l2i, ix_lbin, ix_lsh, ix_lcmp, ix_dup, ix_dup2, ix_pop, ix_if, ix_cmp, ix_goto, ix_switch, ix_sw, ix_iret, ix_zret, ix_vret, ix_aret, ix_geti, ix_getr, ix_puti, ix_putz, ix_puts, ix_gets, ix_iald, ix_iast, ix_alen, ix_aald, ix_gval, ix_gcod, ix_bald, ix_blen, ix_sald, ix_nret, ix_math2, ix_math1, ix_acopy, ml_113, ml_114, ml_115, ml_116, ml_118, ml_119, ml_120, ml_121, ml_122, ml_123, ml_124, ml_125, ml_126, mv_0, mv_1, mv_2, mv_3, mv_4, mv_5, mB_or, Nat.add_assoc, Int32.reduceLT, Int32.reduceLE, Int32.reduceToNatClampNeg, Int32.reduceSub, Int32.reduceAdd, Nat.reduceAdd, Nat.reduceLeDiff, true_or, or_true, or_false, false_or, not_false_eq_true, not_true_eq_false, false_implies, true_implies, implies_true, and_self, mB_0, mB_01, Classical.not_not, Nat.zero_le, List.getElem?_cons_zero, List.getElem?_cons_succ, List.set_cons_zero, List.set_cons_succ, ix_nl, ix_cs, true_and, and_true, Option.toList_some, Option.toList_none, List.cons_append, List.nil_append, n1, n2, B1, B2, B3, B4, Bc, hx1, hx2, ix_up_ne, ix_up_k, ve_1, ve_2, ve_3, ve_4, ve_5]
      repeat' (first | exact I.er 1 (by decide) | refine ⟨fun _ => ?_, fun _ => ?_⟩)
  · simp (decide := true) only [e_X10_on_0, e_X10_on_1, e_X10_on_2, e_X10_on_5, e_X10_on_8, e_X10_on_9, e_X10_on_11, e_X10_on_14, e_X10_on_17, e_X10_on_18, e_X10_on_19, e_X10_on_22, e_X10_on_25, e_X10_on_26, e_X10_on_27, e_X10_on_30, e_X10_on_31, e_X10_on_32, e_X10_on_35, e_X10_on_37, e_X10_on_38, e_X10_on_40, e_X10_on_41, e_X10_on_44, e_X10_on_45, e_X10_on_46, e_X10_on_49, e_X10_on_51, e_X10_on_54, e_X10_on_55, e_X10_on_56, e_X10_on_59, e_X10_on_61, e_X10_on_64, e_X10_on_65, e_X10_on_66, vi, vl, vr, oc_X10_error, T_X10_error, oc_X10_hadBehind, T_X10_hadBehind, oc_X10_noBoat, T_X10_noBoat, oc_X10_outside, T_X10_outside, oc_X10_think, T_X10_think, ix_push, ix_iload, ix_lload, ix_aload, ix_istore, ix_astore, ix_iinc, ix_bin, ix_div, ix_un, ix_i2l, ix_l2i, ix_lbin, ix_lsh, ix_lcmp, ix_dup, ix_dup2, ix_pop, ix_if, ix_cmp, ix_goto, ix_switch, ix_sw, ix_iret, ix_zret, ix_vret, ix_aret, ix_geti, ix_getr, ix_puti, ix_putz, ix_puts, ix_gets, ix_iald, ix_iast, ix_alen, ix_aald, ix_gval, ix_gcod, ix_bald, ix_blen, ix_sald, ix_nret, ix_math2, ix_math1, ix_acopy, Nat.add_assoc, Int32.reduceLT, Int32.reduceLE, Int32.reduceToNatClampNeg, Int32.reduceSub, Int32.reduceAdd, Nat.reduceAdd, Nat.reduceLeDiff, true_or, or_true, or_false, false_or, not_false_eq_true, not_true_eq_false, false_implies, true_implies, implies_true, and_self, mB_0, mB_01, Classical.not_not, Nat.zero_le, List.getElem?_cons_zero, List.getElem?_cons_succ, List.set_cons_zero, List.set_cons_succ, ix_nl, ix_cs, true_and, and_true, Option.toList_some, Option.toList_none, List.cons_append, List.nil_append, n1, n2, hx1, hx2, ix_up_ne, ix_up_k, ve_1, ve_2, ve_3, ve_4, ve_5]
    refine hQ _ _ ?_
    simp (decide := true) only [e_X11_on_0, e_X11_on_1, e_X11_on_2, e_X11_on_5, e_X11_on_8, e_X11_on_9, e_X11_on_12, e_X11_on_15, e_X11_on_16, e_X11_on_17, e_X11_on_18, e_X11_on_21, e_X11_on_24, e_X11_on_25, e_X11_on_27, e_X11_on_30, e_X11_on_31, e_X11_on_32, e_X11_on_35, e_X11_on_36, e_X11_on_39, e_X11_on_42, e_X11_on_43, e_X11_on_44, e_X11_on_47, e_X11_on_49, e_X11_on_50, e_X11_on_52, e_X11_on_55, e_X11_on_57, e_X11_on_60, e_X11_on_61, e_X11_on_62, e_X11_on_63, e_X11_on_64, e_X11_on_65, e_X11_on_68, e_X11_on_71, vi, vl, vr, oc_X11_boatIs, T_X11_boatIs, oc_X11_copy, T_X11_copy, oc_X11_finding, T_X11_finding, oc_X11_isBehind, T_X11_isBehind, oc_X11_isBoat, T_X11_isBoat, oc_X11_minutesGo, T_X11_minutesGo, oc_X11_putBack, T_X11_putBack, oc_X11_within, T_X11_within, ix_push, ix_iload, ix_lload, ix_aload, ix_istore, ix_astore, ix_iinc, ix_bin, ix_div, ix_un, ix_i2l, ix_l2i, ix_lbin, ix_lsh, ix_lcmp, ix_dup, ix_dup2, ix_pop, ix_if, ix_cmp, ix_goto, ix_switch, ix_sw, ix_iret, ix_zret, ix_vret, ix_aret, ix_geti, ix_getr, ix_puti, ix_putz, ix_puts, ix_gets, ix_iald, ix_iast, ix_alen, ix_aald, ix_gval, ix_gcod, ix_bald, ix_blen, ix_sald, ix_nret, ix_math2, ix_math1, ix_acopy, ml_113, ml_114, ml_115, ml_116, ml_118, ml_119, ml_120, ml_121, ml_122, ml_123, ml_124, ml_125, ml_126, mv_0, mv_1, mv_2, mv_3, mv_4, mv_5, mB_or, Nat.add_assoc, Int32.reduceLT, Int32.reduceLE, Int32.reduceToNatClampNeg, Int32.reduceSub, Int32.reduceAdd, Nat.reduceAdd, Nat.reduceLeDiff, true_or, or_true, or_false, false_or, not_false_eq_true, not_true_eq_false, false_implies, true_implies, implies_true, and_self, mB_0, mB_01, Classical.not_not, Nat.zero_le, List.getElem?_cons_zero, List.getElem?_cons_succ, List.set_cons_zero, List.set_cons_succ, ix_nl, ix_cs, true_and, and_true, Option.toList_some, Option.toList_none, List.cons_append, List.nil_append, n1, n2, hx1, hx2, ix_up_ne, ix_up_k, ve_1, ve_2, ve_3, ve_4, ve_5]
    repeat' (first | exact I.er 1 (by decide) | refine ⟨fun _ => ?_, fun _ => ?_⟩)
