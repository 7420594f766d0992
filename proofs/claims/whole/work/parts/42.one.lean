/-! ===== the model: one ===== -/
def o_X11_one (TX11_one : Nat → ix_M → (ix_R → Prop) → Prop) (TX11_either : Nat → ix_M → (ix_R → Prop) → Prop) : List (Nat × ix_Op) := [
  (0, ix_aload 0 1),
  (1, oc_X11_here 4),
  (4, ix_istore 1 5),
  (5, ix_iload 1 6),
  (6, ix_push (vi 33) 8),
  (8, ix_cmp (fun x y => x = y) 17 11),
  (11, ix_iload 1 12),
  (12, ix_push (vi 40) 14),
  (14, ix_cmp (fun x y => x = y) 17 116),
  (17, ix_aload 0 18),
  (18, ix_aload 0 19),
  (19, ix_geti 10 9 22),
  (22, ix_push (vi 5) 23),
  (23, ix_cmp (fun x y => x = y) 26 30),
  (26, ix_push (vi 1) 27),
  (27, ix_goto 31),
  (30, ix_push (vi 0) 31),
  (31, ix_putz 10 11 34),
  (34, ix_aload 0 35),
  (35, ix_geti 10 11 38),
  (38, ix_if (fun x => x = 0) 41 247),
  (41, ix_aload 0 42),
  (42, ix_dup 43),
  (43, ix_geti 10 9 46),
  (46, ix_push (vi 1) 47),
  (47, ix_bin (fun x y => x + y) 48),
  (48, ix_puti 10 9 51),
  (51, ix_aload 0 52),
  (52, ix_dup 53),
  (53, ix_geti 10 8 56),
  (56, ix_push (vi 1) 57),
  (57, ix_bin (fun x y => x + y) 58),
  (58, ix_puti 10 8 61),
  (61, ix_iload 1 62),
  (62, ix_push (vi 33) 64),
  (64, ix_cmp (fun x y => x = y) 67 81),
  (67, ix_aload 0 68),
  (68, ocr_X11_one TX11_one 71),
  (71, ix_aload 0 72),
  (72, ix_push (vi 20010) 75),
  (75, oc_X11_codes 78),
  (78, ix_goto 103),
  (81, ix_aload 0 82),
  (82, ocr_X11_either TX11_either 85),
  (85, ix_aload 0 86),
  (86, ix_aload 0 87),
  (87, ix_push (vi 41) 89),
  (89, oc_X11_takes 92),
  (92, ix_if (fun x => x = 0) 95 99),
  (95, ix_push (vi 1) 96),
  (96, ix_goto 100),
  (99, ix_push (vi 0) 100),
  (100, ix_putz 10 11 103),
  (103, ix_aload 0 104),
  (104, ix_dup 105),
  (105, ix_geti 10 9 108),
  (108, ix_push (vi 1) 109),
  (109, ix_bin (fun x y => x - y) 110),
  (110, ix_puti 10 9 113),
  (113, ix_goto 247),
  (116, ix_iload 1 117),
  (117, ix_push (vi 48) 119),
  (119, ix_push (vi 57) 121),
  (121, oc_X11_within 124),
  (124, ix_if (fun x => x = 0) 187 127),
  (127, ix_push (vi 0) 128),
  (128, ix_istore 2 129),
  (129, ix_push (vi 0) 130),
  (130, ix_istore 3 131),
  (131, ix_iload 3 132),
  (132, ix_push (vi 4) 133),
  (133, ix_cmp (fun x y => y ≤ x) 179 136),
  (136, ix_aload 0 137),
  (137, oc_X11_here 140),
  (140, ix_push (vi 48) 142),
  (142, ix_push (vi 57) 144),
  (144, oc_X11_within 147),
  (147, ix_if (fun x => x = 0) 179 150),
  (150, ix_push (vi 10) 152),
  (152, ix_iload 2 153),
  (153, ix_bin (fun x y => x * y) 154),
  (154, ix_aload 0 155),
  (155, oc_X11_here 158),
  (158, ix_bin (fun x y => x + y) 159),
  (159, ix_push (vi 48) 161),
  (161, ix_bin (fun x y => x - y) 162),
  (162, ix_istore 2 163),
  (163, ix_aload 0 164),
  (164, ix_dup 165),
  (165, ix_geti 10 8 168),
  (168, ix_push (vi 1) 169),
  (169, ix_bin (fun x y => x + y) 170),
  (170, ix_puti 10 8 173),
  (173, ix_iinc 3 1 176),
  (176, ix_goto 131),
  (179, ix_aload 0 180),
  (180, ix_iload 2 181),
  (181, oc_X11_codes 184),
  (184, ix_goto 247),
  (187, ix_iload 1 188),
  (188, ix_if (fun x => 0 ≤ x) 195 191),
  (191, ix_push (vi (-1)) 192),
  (192, ix_goto 200),
  (195, ix_aload 0 196),
  (196, ix_iload 1 197),
  (197, oc_X11_nameOf 200),
  (200, ix_istore 2 201),
  (201, ix_aload 0 202),
  (202, ix_aload 0 203),
  (203, ix_geti 10 11 206),
  (206, ix_if (fun x => x = 0) 209 213),
  (209, ix_iload 2 210),
  (210, ix_if (fun x => 0 ≤ x) 217 213),
  (213, ix_push (vi 1) 214),
  (214, ix_goto 218),
  (217, ix_push (vi 0) 218),
  (218, ix_putz 10 11 221),
  (221, ix_aload 0 222),
  (222, ix_geti 10 11 225),
  (225, ix_if (fun x => x = 0) 228 247),
  (228, ix_aload 0 229),
  (229, ix_push (vi 10000) 232),
  (232, ix_iload 2 233),
  (233, ix_bin (fun x y => x + y) 234),
  (234, oc_X11_codes 237),
  (237, ix_aload 0 238),
  (238, ix_dup 239),
  (239, ix_geti 10 8 242),
  (242, ix_push (vi 1) 243),
  (243, ix_bin (fun x y => x + y) 244),
  (244, ix_puti 10 8 247),
  (247, ix_vret)]
set_option maxRecDepth 20000 in
theorem a_X11_one (l : Launch) (d : Nat) (hlev : 6 ≤ d) {TX11_one : Nat → ix_M → (ix_R → Prop) → Prop} {d_X11_one : Nat} (h_X11_one : ix_Ct l yX11_one cX11_one 4 none d_X11_one sh_X11_one TX11_one) (hl_X11_one : d_X11_one < d) (hm_X11_one : ∀ x μ Q Q', (∀ r, Q r → Q' r) → TX11_one x μ Q → TX11_one x μ Q') {TX11_either : Nat → ix_M → (ix_R → Prop) → Prop} {d_X11_either : Nat} (h_X11_either : ix_Ct l yX11_either cX11_either 1 none d_X11_either sh_X11_either TX11_either) (hl_X11_either : d_X11_either < d) (hm_X11_either : ∀ x μ Q Q', (∀ r, Q r → Q' r) → TX11_either x μ Q → TX11_either x μ Q') : ix_AllS l cX11_one 4 RX11 d none (o_X11_one TX11_one TX11_either) :=
  .cons (ix_s_aload_n dX11_one_0 rfl) <|
  .cons (oc_X11_here_s (ix_s_callv (t := 10) (k_X11_here l) (by omega) (by decide) tw_1000 tw_12 tw_997 tw_999 tp_25 ⟨by decide, by decide, by decide +kernel⟩ (by decide) rfl rfl (fun _ => ⟨_, _, rfl, rfl⟩) dX11_one_1)) <|
  .cons (ix_s_istore_n dX11_one_4 rfl (by decide)) <|
  .cons (ix_s_iload_n dX11_one_5 rfl) <|
  .cons (ix_s_bipush dX11_one_6 (by decide +kernel)) <|
  .cons (ix_s_cmp_eq dX11_one_8 (by decide)) <|
  .cons (ix_s_iload_n dX11_one_11 rfl) <|
  .cons (ix_s_bipush dX11_one_12 (by decide +kernel)) <|
  .cons (ix_s_cmp_ne dX11_one_14 (by decide)) <|
  .cons (ix_s_aload_n dX11_one_17 rfl) <|
  .cons (ix_s_aload_n dX11_one_18 rfl) <|
  .cons (ix_s_geti (j := 9) tu_X11 rfl (by decide) (by decide) tw_884 rfl ts_10_9_i dX11_one_19) <|
  .cons (ix_s_iconst dX11_one_22 (by decide +kernel)) <|
  .cons (ix_s_cmp_ne dX11_one_23 (by decide)) <|
  .cons (ix_s_iconst dX11_one_26 (by decide +kernel)) <|
  .cons (ix_s_goto dX11_one_27 (by decide)) <|
  .cons (ix_s_iconst dX11_one_30 (by decide +kernel)) <|
  .cons (ix_s_putz (j := 11) tu_X11 tyX11_ok nmX11 rfl (by decide) (by decide) tw_886 rfl rfl (by decide +kernel) ts_10_11_p dX11_one_31) <|
  .cons (ix_s_aload_n dX11_one_34 rfl) <|
  .cons (ix_s_geti (j := 11) tu_X11 rfl (by decide) (by decide) tw_886 rfl ts_10_11_i dX11_one_35) <|
  .cons (ix_s_if_ne dX11_one_38 (by decide)) <|
  .cons (ix_s_aload_n dX11_one_41 rfl) <|
  .cons (ix_s_dup dX11_one_42) <|
  .cons (ix_s_geti (j := 9) tu_X11 rfl (by decide) (by decide) tw_884 rfl ts_10_9_i dX11_one_43) <|
  .cons (ix_s_iconst dX11_one_46 (by decide +kernel)) <|
  .cons (ix_s_iadd dX11_one_47) <|
  .cons (ix_s_puti (j := 9) tu_X11 tyX11_ok nmX11 rfl (by decide) (by decide) tw_884 rfl rfl (by decide +kernel) ts_10_9_p dX11_one_48) <|
  .cons (ix_s_aload_n dX11_one_51 rfl) <|
  .cons (ix_s_dup dX11_one_52) <|
  .cons (ix_s_geti (j := 8) tu_X11 rfl (by decide) (by decide) tw_883 rfl ts_10_8_i dX11_one_53) <|
  .cons (ix_s_iconst dX11_one_56 (by decide +kernel)) <|
  .cons (ix_s_iadd dX11_one_57) <|
  .cons (ix_s_puti (j := 8) tu_X11 tyX11_ok nmX11 rfl (by decide) (by decide) tw_883 rfl rfl (by decide +kernel) ts_10_8_p dX11_one_58) <|
  .cons (ix_s_iload_n dX11_one_61 rfl) <|
  .cons (ix_s_bipush dX11_one_62 (by decide +kernel)) <|
  .cons (ix_s_cmp_ne dX11_one_64 (by decide)) <|
  .cons (ix_s_aload_n dX11_one_67 rfl) <|
  .cons (ocr_X11_one_s hm_X11_one (ix_s_callv (t := 10) h_X11_one hl_X11_one (by decide) tw_996 tw_12 tw_993 tw_995 tp_24 ⟨by decide, by decide, by decide +kernel⟩ (by decide) rfl rfl (fun _ => ⟨_, _, rfl, rfl⟩) dX11_one_68)) <|
  .cons (ix_s_aload_n dX11_one_71 rfl) <|
  .cons (ix_s_sipush dX11_one_72 (by decide +kernel)) <|
  .cons (oc_X11_codes_s (ix_s_callv (t := 10) (k_X11_codes l) (by omega) (by decide) tw_1004 tw_12 tw_1001 tw_1003 tp_26 ⟨by decide, by decide, by decide +kernel⟩ (by decide) rfl rfl (fun _ => ⟨_, _, rfl, rfl⟩) dX11_one_75)) <|
  .cons (ix_s_goto dX11_one_78 (by decide)) <|
  .cons (ix_s_aload_n dX11_one_81 rfl) <|
  .cons (ocr_X11_either_s hm_X11_either (ix_s_callv (t := 10) h_X11_either hl_X11_either (by decide) tw_976 tw_12 tw_973 tw_975 tp_19 ⟨by decide, by decide, by decide +kernel⟩ (by decide) rfl rfl (fun _ => ⟨_, _, rfl, rfl⟩) dX11_one_82)) <|
  .cons (ix_s_aload_n dX11_one_85 rfl) <|
  .cons (ix_s_aload_n dX11_one_86 rfl) <|
  .cons (ix_s_bipush dX11_one_87 (by decide +kernel)) <|
  .cons (oc_X11_takes_s (ix_s_callv (t := 10) (k_X11_takes l) (by omega) (by decide) tw_1008 tw_12 tw_1005 tw_1007 tp_27 ⟨by decide, by decide, by decide +kernel⟩ (by decide) rfl rfl (fun _ => ⟨_, _, rfl, rfl⟩) dX11_one_89)) <|
  .cons (ix_s_if_ne dX11_one_92 (by decide)) <|
  .cons (ix_s_iconst dX11_one_95 (by decide +kernel)) <|
  .cons (ix_s_goto dX11_one_96 (by decide)) <|
  .cons (ix_s_iconst dX11_one_99 (by decide +kernel)) <|
  .cons (ix_s_putz (j := 11) tu_X11 tyX11_ok nmX11 rfl (by decide) (by decide) tw_886 rfl rfl (by decide +kernel) ts_10_11_p dX11_one_100) <|
  .cons (ix_s_aload_n dX11_one_103 rfl) <|
  .cons (ix_s_dup dX11_one_104) <|
  .cons (ix_s_geti (j := 9) tu_X11 rfl (by decide) (by decide) tw_884 rfl ts_10_9_i dX11_one_105) <|
  .cons (ix_s_iconst dX11_one_108 (by decide +kernel)) <|
  .cons (ix_s_isub dX11_one_109) <|
  .cons (ix_s_puti (j := 9) tu_X11 tyX11_ok nmX11 rfl (by decide) (by decide) tw_884 rfl rfl (by decide +kernel) ts_10_9_p dX11_one_110) <|
  .cons (ix_s_goto dX11_one_113 (by decide)) <|
  .cons (ix_s_iload_n dX11_one_116 rfl) <|
  .cons (ix_s_bipush dX11_one_117 (by decide +kernel)) <|
  .cons (ix_s_bipush dX11_one_119 (by decide +kernel)) <|
  .cons (oc_X11_within_s (ix_s_calls (k_X11_within l) (by omega) (by decide) tw_960 tw_12 tw_958 tw_959 ⟨by decide, by decide, by decide +kernel⟩ (fun _ => rfl) dX11_one_121)) <|
  .cons (ix_s_if_eq dX11_one_124 (by decide)) <|
  .cons (ix_s_iconst dX11_one_127 (by decide +kernel)) <|
  .cons (ix_s_istore_n dX11_one_128 rfl (by decide)) <|
  .cons (ix_s_iconst dX11_one_129 (by decide +kernel)) <|
  .cons (ix_s_istore_n dX11_one_130 rfl (by decide)) <|
  .cons (ix_s_iload_n dX11_one_131 rfl) <|
  .cons (ix_s_iconst dX11_one_132 (by decide +kernel)) <|
  .cons (ix_s_cmp_ge dX11_one_133 (by decide)) <|
  .cons (ix_s_aload_n dX11_one_136 rfl) <|
  .cons (oc_X11_here_s (ix_s_callv (t := 10) (k_X11_here l) (by omega) (by decide) tw_1000 tw_12 tw_997 tw_999 tp_25 ⟨by decide, by decide, by decide +kernel⟩ (by decide) rfl rfl (fun _ => ⟨_, _, rfl, rfl⟩) dX11_one_137)) <|
  .cons (ix_s_bipush dX11_one_140 (by decide +kernel)) <|
  .cons (ix_s_bipush dX11_one_142 (by decide +kernel)) <|
  .cons (oc_X11_within_s (ix_s_calls (k_X11_within l) (by omega) (by decide) tw_960 tw_12 tw_958 tw_959 ⟨by decide, by decide, by decide +kernel⟩ (fun _ => rfl) dX11_one_144)) <|
  .cons (ix_s_if_eq dX11_one_147 (by decide)) <|
  .cons (ix_s_bipush dX11_one_150 (by decide +kernel)) <|
  .cons (ix_s_iload_n dX11_one_152 rfl) <|
  .cons (ix_s_imul dX11_one_153) <|
  .cons (ix_s_aload_n dX11_one_154 rfl) <|
  .cons (oc_X11_here_s (ix_s_callv (t := 10) (k_X11_here l) (by omega) (by decide) tw_1000 tw_12 tw_997 tw_999 tp_25 ⟨by decide, by decide, by decide +kernel⟩ (by decide) rfl rfl (fun _ => ⟨_, _, rfl, rfl⟩) dX11_one_155)) <|
  .cons (ix_s_iadd dX11_one_158) <|
  .cons (ix_s_bipush dX11_one_159 (by decide +kernel)) <|
  .cons (ix_s_isub dX11_one_161) <|
  .cons (ix_s_istore_n dX11_one_162 rfl (by decide)) <|
  .cons (ix_s_aload_n dX11_one_163 rfl) <|
  .cons (ix_s_dup dX11_one_164) <|
  .cons (ix_s_geti (j := 8) tu_X11 rfl (by decide) (by decide) tw_883 rfl ts_10_8_i dX11_one_165) <|
  .cons (ix_s_iconst dX11_one_168 (by decide +kernel)) <|
  .cons (ix_s_iadd dX11_one_169) <|
  .cons (ix_s_puti (j := 8) tu_X11 tyX11_ok nmX11 rfl (by decide) (by decide) tw_883 rfl rfl (by decide +kernel) ts_10_8_p dX11_one_170) <|
  .cons (ix_s_iinc dX11_one_173 (by decide +kernel) (by decide)) <|
  .cons (ix_s_goto dX11_one_176 (by decide)) <|
  .cons (ix_s_aload_n dX11_one_179 rfl) <|
  .cons (ix_s_iload_n dX11_one_180 rfl) <|
  .cons (oc_X11_codes_s (ix_s_callv (t := 10) (k_X11_codes l) (by omega) (by decide) tw_1004 tw_12 tw_1001 tw_1003 tp_26 ⟨by decide, by decide, by decide +kernel⟩ (by decide) rfl rfl (fun _ => ⟨_, _, rfl, rfl⟩) dX11_one_181)) <|
  .cons (ix_s_goto dX11_one_184 (by decide)) <|
  .cons (ix_s_iload_n dX11_one_187 rfl) <|
  .cons (ix_s_if_ge dX11_one_188 (by decide)) <|
  .cons (ix_s_iconst dX11_one_191 (by decide +kernel)) <|
  .cons (ix_s_goto dX11_one_192 (by decide)) <|
  .cons (ix_s_aload_n dX11_one_195 rfl) <|
  .cons (ix_s_iload_n dX11_one_196 rfl) <|
  .cons (oc_X11_nameOf_s (ix_s_callv (t := 10) (k_X11_nameOf l) (by omega) (by decide) tw_1012 tw_12 tw_1009 tw_1011 tp_28 ⟨by decide, by decide, by decide +kernel⟩ (by decide) rfl rfl (fun _ => ⟨_, _, rfl, rfl⟩) dX11_one_197)) <|
  .cons (ix_s_istore_n dX11_one_200 rfl (by decide)) <|
  .cons (ix_s_aload_n dX11_one_201 rfl) <|
  .cons (ix_s_aload_n dX11_one_202 rfl) <|
  .cons (ix_s_geti (j := 11) tu_X11 rfl (by decide) (by decide) tw_886 rfl ts_10_11_i dX11_one_203) <|
  .cons (ix_s_if_ne dX11_one_206 (by decide)) <|
  .cons (ix_s_iload_n dX11_one_209 rfl) <|
  .cons (ix_s_if_ge dX11_one_210 (by decide)) <|
  .cons (ix_s_iconst dX11_one_213 (by decide +kernel)) <|
  .cons (ix_s_goto dX11_one_214 (by decide)) <|
  .cons (ix_s_iconst dX11_one_217 (by decide +kernel)) <|
  .cons (ix_s_putz (j := 11) tu_X11 tyX11_ok nmX11 rfl (by decide) (by decide) tw_886 rfl rfl (by decide +kernel) ts_10_11_p dX11_one_218) <|
  .cons (ix_s_aload_n dX11_one_221 rfl) <|
  .cons (ix_s_geti (j := 11) tu_X11 rfl (by decide) (by decide) tw_886 rfl ts_10_11_i dX11_one_222) <|
  .cons (ix_s_if_ne dX11_one_225 (by decide)) <|
  .cons (ix_s_aload_n dX11_one_228 rfl) <|
  .cons (ix_s_sipush dX11_one_229 (by decide +kernel)) <|
  .cons (ix_s_iload_n dX11_one_232 rfl) <|
  .cons (ix_s_iadd dX11_one_233) <|
  .cons (oc_X11_codes_s (ix_s_callv (t := 10) (k_X11_codes l) (by omega) (by decide) tw_1004 tw_12 tw_1001 tw_1003 tp_26 ⟨by decide, by decide, by decide +kernel⟩ (by decide) rfl rfl (fun _ => ⟨_, _, rfl, rfl⟩) dX11_one_234)) <|
  .cons (ix_s_aload_n dX11_one_237 rfl) <|
  .cons (ix_s_dup dX11_one_238) <|
  .cons (ix_s_geti (j := 8) tu_X11 rfl (by decide) (by decide) tw_883 rfl ts_10_8_i dX11_one_239) <|
  .cons (ix_s_iconst dX11_one_242 (by decide +kernel)) <|
  .cons (ix_s_iadd dX11_one_243) <|
  .cons (ix_s_puti (j := 8) tu_X11 tyX11_ok nmX11 rfl (by decide) (by decide) tw_883 rfl rfl (by decide +kernel) ts_10_8_p dX11_one_244) <|
  .cons (ix_s_vret dX11_one_247 rfl) <| .nil
set_option maxRecDepth 20000 in
theorem e_X11_one_0 {TX11_one : Nat → ix_M → (ix_R → Prop) → Prop} {TX11_either : Nat → ix_M → (ix_R → Prop) → Prop} {l : Launch} {d : Nat} (H : ix_AllS l cX11_one 4 RX11 d none (o_X11_one TX11_one TX11_either)) (Q : ix_R → Prop) (ls : ix_L) (st : List ix_V) (μ : ix_M) : ix_Ev (o_X11_one TX11_one TX11_either) Q (0, ls, st, μ) = ix_aload 0 1 (ix_Ev (o_X11_one TX11_one TX11_either) Q) Q ls st μ := ix_Ev.eq H rfl ls st μ
set_option maxRecDepth 20000 in
theorem e_X11_one_1 {TX11_one : Nat → ix_M → (ix_R → Prop) → Prop} {TX11_either : Nat → ix_M → (ix_R → Prop) → Prop} {l : Launch} {d : Nat} (H : ix_AllS l cX11_one 4 RX11 d none (o_X11_one TX11_one TX11_either)) (Q : ix_R → Prop) (ls : ix_L) (st : List ix_V) (μ : ix_M) : ix_Ev (o_X11_one TX11_one TX11_either) Q (1, ls, st, μ) = oc_X11_here 4 (ix_Ev (o_X11_one TX11_one TX11_either) Q) Q ls st μ := ix_Ev.eq H rfl ls st μ
set_option maxRecDepth 20000 in
theorem e_X11_one_4 {TX11_one : Nat → ix_M → (ix_R → Prop) → Prop} {TX11_either : Nat → ix_M → (ix_R → Prop) → Prop} {l : Launch} {d : Nat} (H : ix_AllS l cX11_one 4 RX11 d none (o_X11_one TX11_one TX11_either)) (Q : ix_R → Prop) (ls : ix_L) (st : List ix_V) (μ : ix_M) : ix_Ev (o_X11_one TX11_one TX11_either) Q (4, ls, st, μ) = ix_istore 1 5 (ix_Ev (o_X11_one TX11_one TX11_either) Q) Q ls st μ := ix_Ev.eq H rfl ls st μ
set_option maxRecDepth 20000 in
theorem e_X11_one_5 {TX11_one : Nat → ix_M → (ix_R → Prop) → Prop} {TX11_either : Nat → ix_M → (ix_R → Prop) → Prop} {l : Launch} {d : Nat} (H : ix_AllS l cX11_one 4 RX11 d none (o_X11_one TX11_one TX11_either)) (Q : ix_R → Prop) (ls : ix_L) (st : List ix_V) (μ : ix_M) : ix_Ev (o_X11_one TX11_one TX11_either) Q (5, ls, st, μ) = ix_iload 1 6 (ix_Ev (o_X11_one TX11_one TX11_either) Q) Q ls st μ := ix_Ev.eq H rfl ls st μ
set_option maxRecDepth 20000 in
theorem e_X11_one_6 {TX11_one : Nat → ix_M → (ix_R → Prop) → Prop} {TX11_either : Nat → ix_M → (ix_R → Prop) → Prop} {l : Launch} {d : Nat} (H : ix_AllS l cX11_one 4 RX11 d none (o_X11_one TX11_one TX11_either)) (Q : ix_R → Prop) (ls : ix_L) (st : List ix_V) (μ : ix_M) : ix_Ev (o_X11_one TX11_one TX11_either) Q (6, ls, st, μ) = ix_push (vi 33) 8 (ix_Ev (o_X11_one TX11_one TX11_either) Q) Q ls st μ := ix_Ev.eq H rfl ls st μ
set_option maxRecDepth 20000 in
theorem e_X11_one_8 {TX11_one : Nat → ix_M → (ix_R → Prop) → Prop} {TX11_either : Nat → ix_M → (ix_R → Prop) → Prop} {l : Launch} {d : Nat} (H : ix_AllS l cX11_one 4 RX11 d none (o_X11_one TX11_one TX11_either)) (Q : ix_R → Prop) (ls : ix_L) (st : List ix_V) (μ : ix_M) : ix_Ev (o_X11_one TX11_one TX11_either) Q (8, ls, st, μ) = ix_cmp (fun x y => x = y) 17 11 (ix_Ev (o_X11_one TX11_one TX11_either) Q) Q ls st μ := ix_Ev.eq H rfl ls st μ
set_option maxRecDepth 20000 in
theorem e_X11_one_11 {TX11_one : Nat → ix_M → (ix_R → Prop) → Prop} {TX11_either : Nat → ix_M → (ix_R → Prop) → Prop} {l : Launch} {d : Nat} (H : ix_AllS l cX11_one 4 RX11 d none (o_X11_one TX11_one TX11_either)) (Q : ix_R → Prop) (ls : ix_L) (st : List ix_V) (μ : ix_M) : ix_Ev (o_X11_one TX11_one TX11_either) Q (11, ls, st, μ) = ix_iload 1 12 (ix_Ev (o_X11_one TX11_one TX11_either) Q) Q ls st μ := ix_Ev.eq H rfl ls st μ
set_option maxRecDepth 20000 in
theorem e_X11_one_12 {TX11_one : Nat → ix_M → (ix_R → Prop) → Prop} {TX11_either : Nat → ix_M → (ix_R → Prop) → Prop} {l : Launch} {d : Nat} (H : ix_AllS l cX11_one 4 RX11 d none (o_X11_one TX11_one TX11_either)) (Q : ix_R → Prop) (ls : ix_L) (st : List ix_V) (μ : ix_M) : ix_Ev (o_X11_one TX11_one TX11_either) Q (12, ls, st, μ) = ix_push (vi 40) 14 (ix_Ev (o_X11_one TX11_one TX11_either) Q) Q ls st μ := ix_Ev.eq H rfl ls st μ
set_option maxRecDepth 20000 in
theorem e_X11_one_14 {TX11_one : Nat → ix_M → (ix_R → Prop) → Prop} {TX11_either : Nat → ix_M → (ix_R → Prop) → Prop} {l : Launch} {d : Nat} (H : ix_AllS l cX11_one 4 RX11 d none (o_X11_one TX11_one TX11_either)) (Q : ix_R → Prop) (ls : ix_L) (st : List ix_V) (μ : ix_M) : ix_Ev (o_X11_one TX11_one TX11_either) Q (14, ls, st, μ) = ix_cmp (fun x y => x = y) 17 116 (ix_Ev (o_X11_one TX11_one TX11_either) Q) Q ls st μ := ix_Ev.eq H rfl ls st μ
set_option maxRecDepth 20000 in
theorem e_X11_one_17 {TX11_one : Nat → ix_M → (ix_R → Prop) → Prop} {TX11_either : Nat → ix_M → (ix_R → Prop) → Prop} {l : Launch} {d : Nat} (H : ix_AllS l cX11_one 4 RX11 d none (o_X11_one TX11_one TX11_either)) (Q : ix_R → Prop) (ls : ix_L) (st : List ix_V) (μ : ix_M) : ix_Ev (o_X11_one TX11_one TX11_either) Q (17, ls, st, μ) = ix_aload 0 18 (ix_Ev (o_X11_one TX11_one TX11_either) Q) Q ls st μ := ix_Ev.eq H rfl ls st μ
set_option maxRecDepth 20000 in
theorem e_X11_one_18 {TX11_one : Nat → ix_M → (ix_R → Prop) → Prop} {TX11_either : Nat → ix_M → (ix_R → Prop) → Prop} {l : Launch} {d : Nat} (H : ix_AllS l cX11_one 4 RX11 d none (o_X11_one TX11_one TX11_either)) (Q : ix_R → Prop) (ls : ix_L) (st : List ix_V) (μ : ix_M) : ix_Ev (o_X11_one TX11_one TX11_either) Q (18, ls, st, μ) = ix_aload 0 19 (ix_Ev (o_X11_one TX11_one TX11_either) Q) Q ls st μ := ix_Ev.eq H rfl ls st μ
set_option maxRecDepth 20000 in
theorem e_X11_one_19 {TX11_one : Nat → ix_M → (ix_R → Prop) → Prop} {TX11_either : Nat → ix_M → (ix_R → Prop) → Prop} {l : Launch} {d : Nat} (H : ix_AllS l cX11_one 4 RX11 d none (o_X11_one TX11_one TX11_either)) (Q : ix_R → Prop) (ls : ix_L) (st : List ix_V) (μ : ix_M) : ix_Ev (o_X11_one TX11_one TX11_either) Q (19, ls, st, μ) = ix_geti 10 9 22 (ix_Ev (o_X11_one TX11_one TX11_either) Q) Q ls st μ := ix_Ev.eq H rfl ls st μ
set_option maxRecDepth 20000 in
theorem e_X11_one_22 {TX11_one : Nat → ix_M → (ix_R → Prop) → Prop} {TX11_either : Nat → ix_M → (ix_R → Prop) → Prop} {l : Launch} {d : Nat} (H : ix_AllS l cX11_one 4 RX11 d none (o_X11_one TX11_one TX11_either)) (Q : ix_R → Prop) (ls : ix_L) (st : List ix_V) (μ : ix_M) : ix_Ev (o_X11_one TX11_one TX11_either) Q (22, ls, st, μ) = ix_push (vi 5) 23 (ix_Ev (o_X11_one TX11_one TX11_either) Q) Q ls st μ := ix_Ev.eq H rfl ls st μ
set_option maxRecDepth 20000 in
theorem e_X11_one_23 {TX11_one : Nat → ix_M → (ix_R → Prop) → Prop} {TX11_either : Nat → ix_M → (ix_R → Prop) → Prop} {l : Launch} {d : Nat} (H : ix_AllS l cX11_one 4 RX11 d none (o_X11_one TX11_one TX11_either)) (Q : ix_R → Prop) (ls : ix_L) (st : List ix_V) (μ : ix_M) : ix_Ev (o_X11_one TX11_one TX11_either) Q (23, ls, st, μ) = ix_cmp (fun x y => x = y) 26 30 (ix_Ev (o_X11_one TX11_one TX11_either) Q) Q ls st μ := ix_Ev.eq H rfl ls st μ
set_option maxRecDepth 20000 in
theorem e_X11_one_26 {TX11_one : Nat → ix_M → (ix_R → Prop) → Prop} {TX11_either : Nat → ix_M → (ix_R → Prop) → Prop} {l : Launch} {d : Nat} (H : ix_AllS l cX11_one 4 RX11 d none (o_X11_one TX11_one TX11_either)) (Q : ix_R → Prop) (ls : ix_L) (st : List ix_V) (μ : ix_M) : ix_Ev (o_X11_one TX11_one TX11_either) Q (26, ls, st, μ) = ix_push (vi 1) 27 (ix_Ev (o_X11_one TX11_one TX11_either) Q) Q ls st μ := ix_Ev.eq H rfl ls st μ
set_option maxRecDepth 20000 in
theorem e_X11_one_27 {TX11_one : Nat → ix_M → (ix_R → Prop) → Prop} {TX11_either : Nat → ix_M → (ix_R → Prop) → Prop} {l : Launch} {d : Nat} (H : ix_AllS l cX11_one 4 RX11 d none (o_X11_one TX11_one TX11_either)) (Q : ix_R → Prop) (ls : ix_L) (st : List ix_V) (μ : ix_M) : ix_Ev (o_X11_one TX11_one TX11_either) Q (27, ls, st, μ) = ix_goto 31 (ix_Ev (o_X11_one TX11_one TX11_either) Q) Q ls st μ := ix_Ev.eq H rfl ls st μ
set_option maxRecDepth 20000 in
theorem e_X11_one_30 {TX11_one : Nat → ix_M → (ix_R → Prop) → Prop} {TX11_either : Nat → ix_M → (ix_R → Prop) → Prop} {l : Launch} {d : Nat} (H : ix_AllS l cX11_one 4 RX11 d none (o_X11_one TX11_one TX11_either)) (Q : ix_R → Prop) (ls : ix_L) (st : List ix_V) (μ : ix_M) : ix_Ev (o_X11_one TX11_one TX11_either) Q (30, ls, st, μ) = ix_push (vi 0) 31 (ix_Ev (o_X11_one TX11_one TX11_either) Q) Q ls st μ := ix_Ev.eq H rfl ls st μ
set_option maxRecDepth 20000 in
theorem e_X11_one_31 {TX11_one : Nat → ix_M → (ix_R → Prop) → Prop} {TX11_either : Nat → ix_M → (ix_R → Prop) → Prop} {l : Launch} {d : Nat} (H : ix_AllS l cX11_one 4 RX11 d none (o_X11_one TX11_one TX11_either)) (Q : ix_R → Prop) (ls : ix_L) (st : List ix_V) (μ : ix_M) : ix_Ev (o_X11_one TX11_one TX11_either) Q (31, ls, st, μ) = ix_putz 10 11 34 (ix_Ev (o_X11_one TX11_one TX11_either) Q) Q ls st μ := ix_Ev.eq H rfl ls st μ
set_option maxRecDepth 20000 in
theorem e_X11_one_34 {TX11_one : Nat → ix_M → (ix_R → Prop) → Prop} {TX11_either : Nat → ix_M → (ix_R → Prop) → Prop} {l : Launch} {d : Nat} (H : ix_AllS l cX11_one 4 RX11 d none (o_X11_one TX11_one TX11_either)) (Q : ix_R → Prop) (ls : ix_L) (st : List ix_V) (μ : ix_M) : ix_Ev (o_X11_one TX11_one TX11_either) Q (34, ls, st, μ) = ix_aload 0 35 (ix_Ev (o_X11_one TX11_one TX11_either) Q) Q ls st μ := ix_Ev.eq H rfl ls st μ
set_option maxRecDepth 20000 in
theorem e_X11_one_35 {TX11_one : Nat → ix_M → (ix_R → Prop) → Prop} {TX11_either : Nat → ix_M → (ix_R → Prop) → Prop} {l : Launch} {d : Nat} (H : ix_AllS l cX11_one 4 RX11 d none (o_X11_one TX11_one TX11_either)) (Q : ix_R → Prop) (ls : ix_L) (st : List ix_V) (μ : ix_M) : ix_Ev (o_X11_one TX11_one TX11_either) Q (35, ls, st, μ) = ix_geti 10 11 38 (ix_Ev (o_X11_one TX11_one TX11_either) Q) Q ls st μ := ix_Ev.eq H rfl ls st μ
set_option maxRecDepth 20000 in
theorem e_X11_one_38 {TX11_one : Nat → ix_M → (ix_R → Prop) → Prop} {TX11_either : Nat → ix_M → (ix_R → Prop) → Prop} {l : Launch} {d : Nat} (H : ix_AllS l cX11_one 4 RX11 d none (o_X11_one TX11_one TX11_either)) (Q : ix_R → Prop) (ls : ix_L) (st : List ix_V) (μ : ix_M) : ix_Ev (o_X11_one TX11_one TX11_either) Q (38, ls, st, μ) = ix_if (fun x => x = 0) 41 247 (ix_Ev (o_X11_one TX11_one TX11_either) Q) Q ls st μ := ix_Ev.eq H rfl ls st μ
set_option maxRecDepth 20000 in
theorem e_X11_one_41 {TX11_one : Nat → ix_M → (ix_R → Prop) → Prop} {TX11_either : Nat → ix_M → (ix_R → Prop) → Prop} {l : Launch} {d : Nat} (H : ix_AllS l cX11_one 4 RX11 d none (o_X11_one TX11_one TX11_either)) (Q : ix_R → Prop) (ls : ix_L) (st : List ix_V) (μ : ix_M) : ix_Ev (o_X11_one TX11_one TX11_either) Q (41, ls, st, μ) = ix_aload 0 42 (ix_Ev (o_X11_one TX11_one TX11_either) Q) Q ls st μ := ix_Ev.eq H rfl ls st μ
set_option maxRecDepth 20000 in
theorem e_X11_one_42 {TX11_one : Nat → ix_M → (ix_R → Prop) → Prop} {TX11_either : Nat → ix_M → (ix_R → Prop) → Prop} {l : Launch} {d : Nat} (H : ix_AllS l cX11_one 4 RX11 d none (o_X11_one TX11_one TX11_either)) (Q : ix_R → Prop) (ls : ix_L) (st : List ix_V) (μ : ix_M) : ix_Ev (o_X11_one TX11_one TX11_either) Q (42, ls, st, μ) = ix_dup 43 (ix_Ev (o_X11_one TX11_one TX11_either) Q) Q ls st μ := ix_Ev.eq H rfl ls st μ
set_option maxRecDepth 20000 in
theorem e_X11_one_43 {TX11_one : Nat → ix_M → (ix_R → Prop) → Prop} {TX11_either : Nat → ix_M → (ix_R → Prop) → Prop} {l : Launch} {d : Nat} (H : ix_AllS l cX11_one 4 RX11 d none (o_X11_one TX11_one TX11_either)) (Q : ix_R → Prop) (ls : ix_L) (st : List ix_V) (μ : ix_M) : ix_Ev (o_X11_one TX11_one TX11_either) Q (43, ls, st, μ) = ix_geti 10 9 46 (ix_Ev (o_X11_one TX11_one TX11_either) Q) Q ls st μ := ix_Ev.eq H rfl ls st μ
set_option maxRecDepth 20000 in
theorem e_X11_one_46 {TX11_one : Nat → ix_M → (ix_R → Prop) → Prop} {TX11_either : Nat → ix_M → (ix_R → Prop) → Prop} {l : Launch} {d : Nat} (H : ix_AllS l cX11_one 4 RX11 d none (o_X11_one TX11_one TX11_either)) (Q : ix_R → Prop) (ls : ix_L) (st : List ix_V) (μ : ix_M) : ix_Ev (o_X11_one TX11_one TX11_either) Q (46, ls, st, μ) = ix_push (vi 1) 47 (ix_Ev (o_X11_one TX11_one TX11_either) Q) Q ls st μ := ix_Ev.eq H rfl ls st μ
set_option maxRecDepth 20000 in
theorem e_X11_one_47 {TX11_one : Nat → ix_M → (ix_R → Prop) → Prop} {TX11_either : Nat → ix_M → (ix_R → Prop) → Prop} {l : Launch} {d : Nat} (H : ix_AllS l cX11_one 4 RX11 d none (o_X11_one TX11_one TX11_either)) (Q : ix_R → Prop) (ls : ix_L) (st : List ix_V) (μ : ix_M) : ix_Ev (o_X11_one TX11_one TX11_either) Q (47, ls, st, μ) = ix_bin (fun x y => x + y) 48 (ix_Ev (o_X11_one TX11_one TX11_either) Q) Q ls st μ := ix_Ev.eq H rfl ls st μ
set_option maxRecDepth 20000 in
theorem e_X11_one_48 {TX11_one : Nat → ix_M → (ix_R → Prop) → Prop} {TX11_either : Nat → ix_M → (ix_R → Prop) → Prop} {l : Launch} {d : Nat} (H : ix_AllS l cX11_one 4 RX11 d none (o_X11_one TX11_one TX11_either)) (Q : ix_R → Prop) (ls : ix_L) (st : List ix_V) (μ : ix_M) : ix_Ev (o_X11_one TX11_one TX11_either) Q (48, ls, st, μ) = ix_puti 10 9 51 (ix_Ev (o_X11_one TX11_one TX11_either) Q) Q ls st μ := ix_Ev.eq H rfl ls st μ
set_option maxRecDepth 20000 in
theorem e_X11_one_51 {TX11_one : Nat → ix_M → (ix_R → Prop) → Prop} {TX11_either : Nat → ix_M → (ix_R → Prop) → Prop} {l : Launch} {d : Nat} (H : ix_AllS l cX11_one 4 RX11 d none (o_X11_one TX11_one TX11_either)) (Q : ix_R → Prop) (ls : ix_L) (st : List ix_V) (μ : ix_M) : ix_Ev (o_X11_one TX11_one TX11_either) Q (51, ls, st, μ) = ix_aload 0 52 (ix_Ev (o_X11_one TX11_one TX11_either) Q) Q ls st μ := ix_Ev.eq H rfl ls st μ
set_option maxRecDepth 20000 in
theorem e_X11_one_52 {TX11_one : Nat → ix_M → (ix_R → Prop) → Prop} {TX11_either : Nat → ix_M → (ix_R → Prop) → Prop} {l : Launch} {d : Nat} (H : ix_AllS l cX11_one 4 RX11 d none (o_X11_one TX11_one TX11_either)) (Q : ix_R → Prop) (ls : ix_L) (st : List ix_V) (μ : ix_M) : ix_Ev (o_X11_one TX11_one TX11_either) Q (52, ls, st, μ) = ix_dup 53 (ix_Ev (o_X11_one TX11_one TX11_either) Q) Q ls st μ := ix_Ev.eq H rfl ls st μ
set_option maxRecDepth 20000 in
theorem e_X11_one_53 {TX11_one : Nat → ix_M → (ix_R → Prop) → Prop} {TX11_either : Nat → ix_M → (ix_R → Prop) → Prop} {l : Launch} {d : Nat} (H : ix_AllS l cX11_one 4 RX11 d none (o_X11_one TX11_one TX11_either)) (Q : ix_R → Prop) (ls : ix_L) (st : List ix_V) (μ : ix_M) : ix_Ev (o_X11_one TX11_one TX11_either) Q (53, ls, st, μ) = ix_geti 10 8 56 (ix_Ev (o_X11_one TX11_one TX11_either) Q) Q ls st μ := ix_Ev.eq H rfl ls st μ
set_option maxRecDepth 20000 in
theorem e_X11_one_56 {TX11_one : Nat → ix_M → (ix_R → Prop) → Prop} {TX11_either : Nat → ix_M → (ix_R → Prop) → Prop} {l : Launch} {d : Nat} (H : ix_AllS l cX11_one 4 RX11 d none (o_X11_one TX11_one TX11_either)) (Q : ix_R → Prop) (ls : ix_L) (st : List ix_V) (μ : ix_M) : ix_Ev (o_X11_one TX11_one TX11_either) Q (56, ls, st, μ) = ix_push (vi 1) 57 (ix_Ev (o_X11_one TX11_one TX11_either) Q) Q ls st μ := ix_Ev.eq H rfl ls st μ
set_option maxRecDepth 20000 in
theorem e_X11_one_57 {TX11_one : Nat → ix_M → (ix_R → Prop) → Prop} {TX11_either : Nat → ix_M → (ix_R → Prop) → Prop} {l : Launch} {d : Nat} (H : ix_AllS l cX11_one 4 RX11 d none (o_X11_one TX11_one TX11_either)) (Q : ix_R → Prop) (ls : ix_L) (st : List ix_V) (μ : ix_M) : ix_Ev (o_X11_one TX11_one TX11_either) Q (57, ls, st, μ) = ix_bin (fun x y => x + y) 58 (ix_Ev (o_X11_one TX11_one TX11_either) Q) Q ls st μ := ix_Ev.eq H rfl ls st μ
set_option maxRecDepth 20000 in
theorem e_X11_one_58 {TX11_one : Nat → ix_M → (ix_R → Prop) → Prop} {TX11_either : Nat → ix_M → (ix_R → Prop) → Prop} {l : Launch} {d : Nat} (H : ix_AllS l cX11_one 4 RX11 d none (o_X11_one TX11_one TX11_either)) (Q : ix_R → Prop) (ls : ix_L) (st : List ix_V) (μ : ix_M) : ix_Ev (o_X11_one TX11_one TX11_either) Q (58, ls, st, μ) = ix_puti 10 8 61 (ix_Ev (o_X11_one TX11_one TX11_either) Q) Q ls st μ := ix_Ev.eq H rfl ls st μ
set_option maxRecDepth 20000 in
theorem e_X11_one_61 {TX11_one : Nat → ix_M → (ix_R → Prop) → Prop} {TX11_either : Nat → ix_M → (ix_R → Prop) → Prop} {l : Launch} {d : Nat} (H : ix_AllS l cX11_one 4 RX11 d none (o_X11_one TX11_one TX11_either)) (Q : ix_R → Prop) (ls : ix_L) (st : List ix_V) (μ : ix_M) : ix_Ev (o_X11_one TX11_one TX11_either) Q (61, ls, st, μ) = ix_iload 1 62 (ix_Ev (o_X11_one TX11_one TX11_either) Q) Q ls st μ := ix_Ev.eq H rfl ls st μ
set_option maxRecDepth 20000 in
theorem e_X11_one_62 {TX11_one : Nat → ix_M → (ix_R → Prop) → Prop} {TX11_either : Nat → ix_M → (ix_R → Prop) → Prop} {l : Launch} {d : Nat} (H : ix_AllS l cX11_one 4 RX11 d none (o_X11_one TX11_one TX11_either)) (Q : ix_R → Prop) (ls : ix_L) (st : List ix_V) (μ : ix_M) : ix_Ev (o_X11_one TX11_one TX11_either) Q (62, ls, st, μ) = ix_push (vi 33) 64 (ix_Ev (o_X11_one TX11_one TX11_either) Q) Q ls st μ := ix_Ev.eq H rfl ls st μ
set_option maxRecDepth 20000 in
theorem e_X11_one_64 {TX11_one : Nat → ix_M → (ix_R → Prop) → Prop} {TX11_either : Nat → ix_M → (ix_R → Prop) → Prop} {l : Launch} {d : Nat} (H : ix_AllS l cX11_one 4 RX11 d none (o_X11_one TX11_one TX11_either)) (Q : ix_R → Prop) (ls : ix_L) (st : List ix_V) (μ : ix_M) : ix_Ev (o_X11_one TX11_one TX11_either) Q (64, ls, st, μ) = ix_cmp (fun x y => x = y) 67 81 (ix_Ev (o_X11_one TX11_one TX11_either) Q) Q ls st μ := ix_Ev.eq H rfl ls st μ
set_option maxRecDepth 20000 in
theorem e_X11_one_67 {TX11_one : Nat → ix_M → (ix_R → Prop) → Prop} {TX11_either : Nat → ix_M → (ix_R → Prop) → Prop} {l : Launch} {d : Nat} (H : ix_AllS l cX11_one 4 RX11 d none (o_X11_one TX11_one TX11_either)) (Q : ix_R → Prop) (ls : ix_L) (st : List ix_V) (μ : ix_M) : ix_Ev (o_X11_one TX11_one TX11_either) Q (67, ls, st, μ) = ix_aload 0 68 (ix_Ev (o_X11_one TX11_one TX11_either) Q) Q ls st μ := ix_Ev.eq H rfl ls st μ
set_option maxRecDepth 20000 in
theorem e_X11_one_68 {TX11_one : Nat → ix_M → (ix_R → Prop) → Prop} {TX11_either : Nat → ix_M → (ix_R → Prop) → Prop} {l : Launch} {d : Nat} (H : ix_AllS l cX11_one 4 RX11 d none (o_X11_one TX11_one TX11_either)) (Q : ix_R → Prop) (ls : ix_L) (st : List ix_V) (μ : ix_M) : ix_Ev (o_X11_one TX11_one TX11_either) Q (68, ls, st, μ) = ocr_X11_one TX11_one 71 (ix_Ev (o_X11_one TX11_one TX11_either) Q) Q ls st μ := ix_Ev.eq H rfl ls st μ
set_option maxRecDepth 20000 in
theorem e_X11_one_71 {TX11_one : Nat → ix_M → (ix_R → Prop) → Prop} {TX11_either : Nat → ix_M → (ix_R → Prop) → Prop} {l : Launch} {d : Nat} (H : ix_AllS l cX11_one 4 RX11 d none (o_X11_one TX11_one TX11_either)) (Q : ix_R → Prop) (ls : ix_L) (st : List ix_V) (μ : ix_M) : ix_Ev (o_X11_one TX11_one TX11_either) Q (71, ls, st, μ) = ix_aload 0 72 (ix_Ev (o_X11_one TX11_one TX11_either) Q) Q ls st μ := ix_Ev.eq H rfl ls st μ
set_option maxRecDepth 20000 in
theorem e_X11_one_72 {TX11_one : Nat → ix_M → (ix_R → Prop) → Prop} {TX11_either : Nat → ix_M → (ix_R → Prop) → Prop} {l : Launch} {d : Nat} (H : ix_AllS l cX11_one 4 RX11 d none (o_X11_one TX11_one TX11_either)) (Q : ix_R → Prop) (ls : ix_L) (st : List ix_V) (μ : ix_M) : ix_Ev (o_X11_one TX11_one TX11_either) Q (72, ls, st, μ) = ix_push (vi 20010) 75 (ix_Ev (o_X11_one TX11_one TX11_either) Q) Q ls st μ := ix_Ev.eq H rfl ls st μ
set_option maxRecDepth 20000 in
theorem e_X11_one_75 {TX11_one : Nat → ix_M → (ix_R → Prop) → Prop} {TX11_either : Nat → ix_M → (ix_R → Prop) → Prop} {l : Launch} {d : Nat} (H : ix_AllS l cX11_one 4 RX11 d none (o_X11_one TX11_one TX11_either)) (Q : ix_R → Prop) (ls : ix_L) (st : List ix_V) (μ : ix_M) : ix_Ev (o_X11_one TX11_one TX11_either) Q (75, ls, st, μ) = oc_X11_codes 78 (ix_Ev (o_X11_one TX11_one TX11_either) Q) Q ls st μ := ix_Ev.eq H rfl ls st μ
set_option maxRecDepth 20000 in
theorem e_X11_one_78 {TX11_one : Nat → ix_M → (ix_R → Prop) → Prop} {TX11_either : Nat → ix_M → (ix_R → Prop) → Prop} {l : Launch} {d : Nat} (H : ix_AllS l cX11_one 4 RX11 d none (o_X11_one TX11_one TX11_either)) (Q : ix_R → Prop) (ls : ix_L) (st : List ix_V) (μ : ix_M) : ix_Ev (o_X11_one TX11_one TX11_either) Q (78, ls, st, μ) = ix_goto 103 (ix_Ev (o_X11_one TX11_one TX11_either) Q) Q ls st μ := ix_Ev.eq H rfl ls st μ
set_option maxRecDepth 20000 in
theorem e_X11_one_81 {TX11_one : Nat → ix_M → (ix_R → Prop) → Prop} {TX11_either : Nat → ix_M → (ix_R → Prop) → Prop} {l : Launch} {d : Nat} (H : ix_AllS l cX11_one 4 RX11 d none (o_X11_one TX11_one TX11_either)) (Q : ix_R → Prop) (ls : ix_L) (st : List ix_V) (μ : ix_M) : ix_Ev (o_X11_one TX11_one TX11_either) Q (81, ls, st, μ) = ix_aload 0 82 (ix_Ev (o_X11_one TX11_one TX11_either) Q) Q ls st μ := ix_Ev.eq H rfl ls st μ
set_option maxRecDepth 20000 in
theorem e_X11_one_82 {TX11_one : Nat → ix_M → (ix_R → Prop) → Prop} {TX11_either : Nat → ix_M → (ix_R → Prop) → Prop} {l : Launch} {d : Nat} (H : ix_AllS l cX11_one 4 RX11 d none (o_X11_one TX11_one TX11_either)) (Q : ix_R → Prop) (ls : ix_L) (st : List ix_V) (μ : ix_M) : ix_Ev (o_X11_one TX11_one TX11_either) Q (82, ls, st, μ) = ocr_X11_either TX11_either 85 (ix_Ev (o_X11_one TX11_one TX11_either) Q) Q ls st μ := ix_Ev.eq H rfl ls st μ
set_option maxRecDepth 20000 in
theorem e_X11_one_85 {TX11_one : Nat → ix_M → (ix_R → Prop) → Prop} {TX11_either : Nat → ix_M → (ix_R → Prop) → Prop} {l : Launch} {d : Nat} (H : ix_AllS l cX11_one 4 RX11 d none (o_X11_one TX11_one TX11_either)) (Q : ix_R → Prop) (ls : ix_L) (st : List ix_V) (μ : ix_M) : ix_Ev (o_X11_one TX11_one TX11_either) Q (85, ls, st, μ) = ix_aload 0 86 (ix_Ev (o_X11_one TX11_one TX11_either) Q) Q ls st μ := ix_Ev.eq H rfl ls st μ
set_option maxRecDepth 20000 in
theorem e_X11_one_86 {TX11_one : Nat → ix_M → (ix_R → Prop) → Prop} {TX11_either : Nat → ix_M → (ix_R → Prop) → Prop} {l : Launch} {d : Nat} (H : ix_AllS l cX11_one 4 RX11 d none (o_X11_one TX11_one TX11_either)) (Q : ix_R → Prop) (ls : ix_L) (st : List ix_V) (μ : ix_M) : ix_Ev (o_X11_one TX11_one TX11_either) Q (86, ls, st, μ) = ix_aload 0 87 (ix_Ev (o_X11_one TX11_one TX11_either) Q) Q ls st μ := ix_Ev.eq H rfl ls st μ
set_option maxRecDepth 20000 in
theorem e_X11_one_87 {TX11_one : Nat → ix_M → (ix_R → Prop) → Prop} {TX11_either : Nat → ix_M → (ix_R → Prop) → Prop} {l : Launch} {d : Nat} (H : ix_AllS l cX11_one 4 RX11 d none (o_X11_one TX11_one TX11_either)) (Q : ix_R → Prop) (ls : ix_L) (st : List ix_V) (μ : ix_M) : ix_Ev (o_X11_one TX11_one TX11_either) Q (87, ls, st, μ) = ix_push (vi 41) 89 (ix_Ev (o_X11_one TX11_one TX11_either) Q) Q ls st μ := ix_Ev.eq H rfl ls st μ
set_option maxRecDepth 20000 in
theorem e_X11_one_89 {TX11_one : Nat → ix_M → (ix_R → Prop) → Prop} {TX11_either : Nat → ix_M → (ix_R → Prop) → Prop} {l : Launch} {d : Nat} (H : ix_AllS l cX11_one 4 RX11 d none (o_X11_one TX11_one TX11_either)) (Q : ix_R → Prop) (ls : ix_L) (st : List ix_V) (μ : ix_M) : ix_Ev (o_X11_one TX11_one TX11_either) Q (89, ls, st, μ) = oc_X11_takes 92 (ix_Ev (o_X11_one TX11_one TX11_either) Q) Q ls st μ := ix_Ev.eq H rfl ls st μ
set_option maxRecDepth 20000 in
theorem e_X11_one_92 {TX11_one : Nat → ix_M → (ix_R → Prop) → Prop} {TX11_either : Nat → ix_M → (ix_R → Prop) → Prop} {l : Launch} {d : Nat} (H : ix_AllS l cX11_one 4 RX11 d none (o_X11_one TX11_one TX11_either)) (Q : ix_R → Prop) (ls : ix_L) (st : List ix_V) (μ : ix_M) : ix_Ev (o_X11_one TX11_one TX11_either) Q (92, ls, st, μ) = ix_if (fun x => x = 0) 95 99 (ix_Ev (o_X11_one TX11_one TX11_either) Q) Q ls st μ := ix_Ev.eq H rfl ls st μ
set_option maxRecDepth 20000 in
theorem e_X11_one_95 {TX11_one : Nat → ix_M → (ix_R → Prop) → Prop} {TX11_either : Nat → ix_M → (ix_R → Prop) → Prop} {l : Launch} {d : Nat} (H : ix_AllS l cX11_one 4 RX11 d none (o_X11_one TX11_one TX11_either)) (Q : ix_R → Prop) (ls : ix_L) (st : List ix_V) (μ : ix_M) : ix_Ev (o_X11_one TX11_one TX11_either) Q (95, ls, st, μ) = ix_push (vi 1) 96 (ix_Ev (o_X11_one TX11_one TX11_either) Q) Q ls st μ := ix_Ev.eq H rfl ls st μ
set_option maxRecDepth 20000 in
theorem e_X11_one_96 {TX11_one : Nat → ix_M → (ix_R → Prop) → Prop} {TX11_either : Nat → ix_M → (ix_R → Prop) → Prop} {l : Launch} {d : Nat} (H : ix_AllS l cX11_one 4 RX11 d none (o_X11_one TX11_one TX11_either)) (Q : ix_R → Prop) (ls : ix_L) (st : List ix_V) (μ : ix_M) : ix_Ev (o_X11_one TX11_one TX11_either) Q (96, ls, st, μ) = ix_goto 100 (ix_Ev (o_X11_one TX11_one TX11_either) Q) Q ls st μ := ix_Ev.eq H rfl ls st μ
set_option maxRecDepth 20000 in
theorem e_X11_one_99 {TX11_one : Nat → ix_M → (ix_R → Prop) → Prop} {TX11_either : Nat → ix_M → (ix_R → Prop) → Prop} {l : Launch} {d : Nat} (H : ix_AllS l cX11_one 4 RX11 d none (o_X11_one TX11_one TX11_either)) (Q : ix_R → Prop) (ls : ix_L) (st : List ix_V) (μ : ix_M) : ix_Ev (o_X11_one TX11_one TX11_either) Q (99, ls, st, μ) = ix_push (vi 0) 100 (ix_Ev (o_X11_one TX11_one TX11_either) Q) Q ls st μ := ix_Ev.eq H rfl ls st μ
set_option maxRecDepth 20000 in
theorem e_X11_one_100 {TX11_one : Nat → ix_M → (ix_R → Prop) → Prop} {TX11_either : Nat → ix_M → (ix_R → Prop) → Prop} {l : Launch} {d : Nat} (H : ix_AllS l cX11_one 4 RX11 d none (o_X11_one TX11_one TX11_either)) (Q : ix_R → Prop) (ls : ix_L) (st : List ix_V) (μ : ix_M) : ix_Ev (o_X11_one TX11_one TX11_either) Q (100, ls, st, μ) = ix_putz 10 11 103 (ix_Ev (o_X11_one TX11_one TX11_either) Q) Q ls st μ := ix_Ev.eq H rfl ls st μ
set_option maxRecDepth 20000 in
theorem e_X11_one_103 {TX11_one : Nat → ix_M → (ix_R → Prop) → Prop} {TX11_either : Nat → ix_M → (ix_R → Prop) → Prop} {l : Launch} {d : Nat} (H : ix_AllS l cX11_one 4 RX11 d none (o_X11_one TX11_one TX11_either)) (Q : ix_R → Prop) (ls : ix_L) (st : List ix_V) (μ : ix_M) : ix_Ev (o_X11_one TX11_one TX11_either) Q (103, ls, st, μ) = ix_aload 0 104 (ix_Ev (o_X11_one TX11_one TX11_either) Q) Q ls st μ := ix_Ev.eq H rfl ls st μ
set_option maxRecDepth 20000 in
theorem e_X11_one_104 {TX11_one : Nat → ix_M → (ix_R → Prop) → Prop} {TX11_either : Nat → ix_M → (ix_R → Prop) → Prop} {l : Launch} {d : Nat} (H : ix_AllS l cX11_one 4 RX11 d none (o_X11_one TX11_one TX11_either)) (Q : ix_R → Prop) (ls : ix_L) (st : List ix_V) (μ : ix_M) : ix_Ev (o_X11_one TX11_one TX11_either) Q (104, ls, st, μ) = ix_dup 105 (ix_Ev (o_X11_one TX11_one TX11_either) Q) Q ls st μ := ix_Ev.eq H rfl ls st μ
set_option maxRecDepth 20000 in
theorem e_X11_one_105 {TX11_one : Nat → ix_M → (ix_R → Prop) → Prop} {TX11_either : Nat → ix_M → (ix_R → Prop) → Prop} {l : Launch} {d : Nat} (H : ix_AllS l cX11_one 4 RX11 d none (o_X11_one TX11_one TX11_either)) (Q : ix_R → Prop) (ls : ix_L) (st : List ix_V) (μ : ix_M) : ix_Ev (o_X11_one TX11_one TX11_either) Q (105, ls, st, μ) = ix_geti 10 9 108 (ix_Ev (o_X11_one TX11_one TX11_either) Q) Q ls st μ := ix_Ev.eq H rfl ls st μ
set_option maxRecDepth 20000 in
theorem e_X11_one_108 {TX11_one : Nat → ix_M → (ix_R → Prop) → Prop} {TX11_either : Nat → ix_M → (ix_R → Prop) → Prop} {l : Launch} {d : Nat} (H : ix_AllS l cX11_one 4 RX11 d none (o_X11_one TX11_one TX11_either)) (Q : ix_R → Prop) (ls : ix_L) (st : List ix_V) (μ : ix_M) : ix_Ev (o_X11_one TX11_one TX11_either) Q (108, ls, st, μ) = ix_push (vi 1) 109 (ix_Ev (o_X11_one TX11_one TX11_either) Q) Q ls st μ := ix_Ev.eq H rfl ls st μ
set_option maxRecDepth 20000 in
theorem e_X11_one_109 {TX11_one : Nat → ix_M → (ix_R → Prop) → Prop} {TX11_either : Nat → ix_M → (ix_R → Prop) → Prop} {l : Launch} {d : Nat} (H : ix_AllS l cX11_one 4 RX11 d none (o_X11_one TX11_one TX11_either)) (Q : ix_R → Prop) (ls : ix_L) (st : List ix_V) (μ : ix_M) : ix_Ev (o_X11_one TX11_one TX11_either) Q (109, ls, st, μ) = ix_bin (fun x y => x - y) 110 (ix_Ev (o_X11_one TX11_one TX11_either) Q) Q ls st μ := ix_Ev.eq H rfl ls st μ
set_option maxRecDepth 20000 in
theorem e_X11_one_110 {TX11_one : Nat → ix_M → (ix_R → Prop) → Prop} {TX11_either : Nat → ix_M → (ix_R → Prop) → Prop} {l : Launch} {d : Nat} (H : ix_AllS l cX11_one 4 RX11 d none (o_X11_one TX11_one TX11_either)) (Q : ix_R → Prop) (ls : ix_L) (st : List ix_V) (μ : ix_M) : ix_Ev (o_X11_one TX11_one TX11_either) Q (110, ls, st, μ) = ix_puti 10 9 113 (ix_Ev (o_X11_one TX11_one TX11_either) Q) Q ls st μ := ix_Ev.eq H rfl ls st μ
set_option maxRecDepth 20000 in
theorem e_X11_one_113 {TX11_one : Nat → ix_M → (ix_R → Prop) → Prop} {TX11_either : Nat → ix_M → (ix_R → Prop) → Prop} {l : Launch} {d : Nat} (H : ix_AllS l cX11_one 4 RX11 d none (o_X11_one TX11_one TX11_either)) (Q : ix_R → Prop) (ls : ix_L) (st : List ix_V) (μ : ix_M) : ix_Ev (o_X11_one TX11_one TX11_either) Q (113, ls, st, μ) = ix_goto 247 (ix_Ev (o_X11_one TX11_one TX11_either) Q) Q ls st μ := ix_Ev.eq H rfl ls st μ
set_option maxRecDepth 20000 in
theorem e_X11_one_116 {TX11_one : Nat → ix_M → (ix_R → Prop) → Prop} {TX11_either : Nat → ix_M → (ix_R → Prop) → Prop} {l : Launch} {d : Nat} (H : ix_AllS l cX11_one 4 RX11 d none (o_X11_one TX11_one TX11_either)) (Q : ix_R → Prop) (ls : ix_L) (st : List ix_V) (μ : ix_M) : ix_Ev (o_X11_one TX11_one TX11_either) Q (116, ls, st, μ) = ix_iload 1 117 (ix_Ev (o_X11_one TX11_one TX11_either) Q) Q ls st μ := ix_Ev.eq H rfl ls st μ
set_option maxRecDepth 20000 in
theorem e_X11_one_117 {TX11_one : Nat → ix_M → (ix_R → Prop) → Prop} {TX11_either : Nat → ix_M → (ix_R → Prop) → Prop} {l : Launch} {d : Nat} (H : ix_AllS l cX11_one 4 RX11 d none (o_X11_one TX11_one TX11_either)) (Q : ix_R → Prop) (ls : ix_L) (st : List ix_V) (μ : ix_M) : ix_Ev (o_X11_one TX11_one TX11_either) Q (117, ls, st, μ) = ix_push (vi 48) 119 (ix_Ev (o_X11_one TX11_one TX11_either) Q) Q ls st μ := ix_Ev.eq H rfl ls st μ
set_option maxRecDepth 20000 in
theorem e_X11_one_119 {TX11_one : Nat → ix_M → (ix_R → Prop) → Prop} {TX11_either : Nat → ix_M → (ix_R → Prop) → Prop} {l : Launch} {d : Nat} (H : ix_AllS l cX11_one 4 RX11 d none (o_X11_one TX11_one TX11_either)) (Q : ix_R → Prop) (ls : ix_L) (st : List ix_V) (μ : ix_M) : ix_Ev (o_X11_one TX11_one TX11_either) Q (119, ls, st, μ) = ix_push (vi 57) 121 (ix_Ev (o_X11_one TX11_one TX11_either) Q) Q ls st μ := ix_Ev.eq H rfl ls st μ
set_option maxRecDepth 20000 in
theorem e_X11_one_121 {TX11_one : Nat → ix_M → (ix_R → Prop) → Prop} {TX11_either : Nat → ix_M → (ix_R → Prop) → Prop} {l : Launch} {d : Nat} (H : ix_AllS l cX11_one 4 RX11 d none (o_X11_one TX11_one TX11_either)) (Q : ix_R → Prop) (ls : ix_L) (st : List ix_V) (μ : ix_M) : ix_Ev (o_X11_one TX11_one TX11_either) Q (121, ls, st, μ) = oc_X11_within 124 (ix_Ev (o_X11_one TX11_one TX11_either) Q) Q ls st μ := ix_Ev.eq H rfl ls st μ
set_option maxRecDepth 20000 in
theorem e_X11_one_124 {TX11_one : Nat → ix_M → (ix_R → Prop) → Prop} {TX11_either : Nat → ix_M → (ix_R → Prop) → Prop} {l : Launch} {d : Nat} (H : ix_AllS l cX11_one 4 RX11 d none (o_X11_one TX11_one TX11_either)) (Q : ix_R → Prop) (ls : ix_L) (st : List ix_V) (μ : ix_M) : ix_Ev (o_X11_one TX11_one TX11_either) Q (124, ls, st, μ) = ix_if (fun x => x = 0) 187 127 (ix_Ev (o_X11_one TX11_one TX11_either) Q) Q ls st μ := ix_Ev.eq H rfl ls st μ
set_option maxRecDepth 20000 in
theorem e_X11_one_127 {TX11_one : Nat → ix_M → (ix_R → Prop) → Prop} {TX11_either : Nat → ix_M → (ix_R → Prop) → Prop} {l : Launch} {d : Nat} (H : ix_AllS l cX11_one 4 RX11 d none (o_X11_one TX11_one TX11_either)) (Q : ix_R → Prop) (ls : ix_L) (st : List ix_V) (μ : ix_M) : ix_Ev (o_X11_one TX11_one TX11_either) Q (127, ls, st, μ) = ix_push (vi 0) 128 (ix_Ev (o_X11_one TX11_one TX11_either) Q) Q ls st μ := ix_Ev.eq H rfl ls st μ
set_option maxRecDepth 20000 in
theorem e_X11_one_128 {TX11_one : Nat → ix_M → (ix_R → Prop) → Prop} {TX11_either : Nat → ix_M → (ix_R → Prop) → Prop} {l : Launch} {d : Nat} (H : ix_AllS l cX11_one 4 RX11 d none (o_X11_one TX11_one TX11_either)) (Q : ix_R → Prop) (ls : ix_L) (st : List ix_V) (μ : ix_M) : ix_Ev (o_X11_one TX11_one TX11_either) Q (128, ls, st, μ) = ix_istore 2 129 (ix_Ev (o_X11_one TX11_one TX11_either) Q) Q ls st μ := ix_Ev.eq H rfl ls st μ
set_option maxRecDepth 20000 in
theorem e_X11_one_129 {TX11_one : Nat → ix_M → (ix_R → Prop) → Prop} {TX11_either : Nat → ix_M → (ix_R → Prop) → Prop} {l : Launch} {d : Nat} (H : ix_AllS l cX11_one 4 RX11 d none (o_X11_one TX11_one TX11_either)) (Q : ix_R → Prop) (ls : ix_L) (st : List ix_V) (μ : ix_M) : ix_Ev (o_X11_one TX11_one TX11_either) Q (129, ls, st, μ) = ix_push (vi 0) 130 (ix_Ev (o_X11_one TX11_one TX11_either) Q) Q ls st μ := ix_Ev.eq H rfl ls st μ
set_option maxRecDepth 20000 in
theorem e_X11_one_130 {TX11_one : Nat → ix_M → (ix_R → Prop) → Prop} {TX11_either : Nat → ix_M → (ix_R → Prop) → Prop} {l : Launch} {d : Nat} (H : ix_AllS l cX11_one 4 RX11 d none (o_X11_one TX11_one TX11_either)) (Q : ix_R → Prop) (ls : ix_L) (st : List ix_V) (μ : ix_M) : ix_Ev (o_X11_one TX11_one TX11_either) Q (130, ls, st, μ) = ix_istore 3 131 (ix_Ev (o_X11_one TX11_one TX11_either) Q) Q ls st μ := ix_Ev.eq H rfl ls st μ
set_option maxRecDepth 20000 in
theorem e_X11_one_131 {TX11_one : Nat → ix_M → (ix_R → Prop) → Prop} {TX11_either : Nat → ix_M → (ix_R → Prop) → Prop} {l : Launch} {d : Nat} (H : ix_AllS l cX11_one 4 RX11 d none (o_X11_one TX11_one TX11_either)) (Q : ix_R → Prop) (ls : ix_L) (st : List ix_V) (μ : ix_M) : ix_Ev (o_X11_one TX11_one TX11_either) Q (131, ls, st, μ) = ix_iload 3 132 (ix_Ev (o_X11_one TX11_one TX11_either) Q) Q ls st μ := ix_Ev.eq H rfl ls st μ
set_option maxRecDepth 20000 in
theorem e_X11_one_132 {TX11_one : Nat → ix_M → (ix_R → Prop) → Prop} {TX11_either : Nat → ix_M → (ix_R → Prop) → Prop} {l : Launch} {d : Nat} (H : ix_AllS l cX11_one 4 RX11 d none (o_X11_one TX11_one TX11_either)) (Q : ix_R → Prop) (ls : ix_L) (st : List ix_V) (μ : ix_M) : ix_Ev (o_X11_one TX11_one TX11_either) Q (132, ls, st, μ) = ix_push (vi 4) 133 (ix_Ev (o_X11_one TX11_one TX11_either) Q) Q ls st μ := ix_Ev.eq H rfl ls st μ
set_option maxRecDepth 20000 in
theorem e_X11_one_133 {TX11_one : Nat → ix_M → (ix_R → Prop) → Prop} {TX11_either : Nat → ix_M → (ix_R → Prop) → Prop} {l : Launch} {d : Nat} (H : ix_AllS l cX11_one 4 RX11 d none (o_X11_one TX11_one TX11_either)) (Q : ix_R → Prop) (ls : ix_L) (st : List ix_V) (μ : ix_M) : ix_Ev (o_X11_one TX11_one TX11_either) Q (133, ls, st, μ) = ix_cmp (fun x y => y ≤ x) 179 136 (ix_Ev (o_X11_one TX11_one TX11_either) Q) Q ls st μ := ix_Ev.eq H rfl ls st μ
set_option maxRecDepth 20000 in
theorem e_X11_one_136 {TX11_one : Nat → ix_M → (ix_R → Prop) → Prop} {TX11_either : Nat → ix_M → (ix_R → Prop) → Prop} {l : Launch} {d : Nat} (H : ix_AllS l cX11_one 4 RX11 d none (o_X11_one TX11_one TX11_either)) (Q : ix_R → Prop) (ls : ix_L) (st : List ix_V) (μ : ix_M) : ix_Ev (o_X11_one TX11_one TX11_either) Q (136, ls, st, μ) = ix_aload 0 137 (ix_Ev (o_X11_one TX11_one TX11_either) Q) Q ls st μ := ix_Ev.eq H rfl ls st μ
set_option maxRecDepth 20000 in
theorem e_X11_one_137 {TX11_one : Nat → ix_M → (ix_R → Prop) → Prop} {TX11_either : Nat → ix_M → (ix_R → Prop) → Prop} {l : Launch} {d : Nat} (H : ix_AllS l cX11_one 4 RX11 d none (o_X11_one TX11_one TX11_either)) (Q : ix_R → Prop) (ls : ix_L) (st : List ix_V) (μ : ix_M) : ix_Ev (o_X11_one TX11_one TX11_either) Q (137, ls, st, μ) = oc_X11_here 140 (ix_Ev (o_X11_one TX11_one TX11_either) Q) Q ls st μ := ix_Ev.eq H rfl ls st μ
set_option maxRecDepth 20000 in
theorem e_X11_one_140 {TX11_one : Nat → ix_M → (ix_R → Prop) → Prop} {TX11_either : Nat → ix_M → (ix_R → Prop) → Prop} {l : Launch} {d : Nat} (H : ix_AllS l cX11_one 4 RX11 d none (o_X11_one TX11_one TX11_either)) (Q : ix_R → Prop) (ls : ix_L) (st : List ix_V) (μ : ix_M) : ix_Ev (o_X11_one TX11_one TX11_either) Q (140, ls, st, μ) = ix_push (vi 48) 142 (ix_Ev (o_X11_one TX11_one TX11_either) Q) Q ls st μ := ix_Ev.eq H rfl ls st μ
set_option maxRecDepth 20000 in
theorem e_X11_one_142 {TX11_one : Nat → ix_M → (ix_R → Prop) → Prop} {TX11_either : Nat → ix_M → (ix_R → Prop) → Prop} {l : Launch} {d : Nat} (H : ix_AllS l cX11_one 4 RX11 d none (o_X11_one TX11_one TX11_either)) (Q : ix_R → Prop) (ls : ix_L) (st : List ix_V) (μ : ix_M) : ix_Ev (o_X11_one TX11_one TX11_either) Q (142, ls, st, μ) = ix_push (vi 57) 144 (ix_Ev (o_X11_one TX11_one TX11_either) Q) Q ls st μ := ix_Ev.eq H rfl ls st μ
set_option maxRecDepth 20000 in
theorem e_X11_one_144 {TX11_one : Nat → ix_M → (ix_R → Prop) → Prop} {TX11_either : Nat → ix_M → (ix_R → Prop) → Prop} {l : Launch} {d : Nat} (H : ix_AllS l cX11_one 4 RX11 d none (o_X11_one TX11_one TX11_either)) (Q : ix_R → Prop) (ls : ix_L) (st : List ix_V) (μ : ix_M) : ix_Ev (o_X11_one TX11_one TX11_either) Q (144, ls, st, μ) = oc_X11_within 147 (ix_Ev (o_X11_one TX11_one TX11_either) Q) Q ls st μ := ix_Ev.eq H rfl ls st μ
set_option maxRecDepth 20000 in
theorem e_X11_one_147 {TX11_one : Nat → ix_M → (ix_R → Prop) → Prop} {TX11_either : Nat → ix_M → (ix_R → Prop) → Prop} {l : Launch} {d : Nat} (H : ix_AllS l cX11_one 4 RX11 d none (o_X11_one TX11_one TX11_either)) (Q : ix_R → Prop) (ls : ix_L) (st : List ix_V) (μ : ix_M) : ix_Ev (o_X11_one TX11_one TX11_either) Q (147, ls, st, μ) = ix_if (fun x => x = 0) 179 150 (ix_Ev (o_X11_one TX11_one TX11_either) Q) Q ls st μ := ix_Ev.eq H rfl ls st μ
set_option maxRecDepth 20000 in
theorem e_X11_one_150 {TX11_one : Nat → ix_M → (ix_R → Prop) → Prop} {TX11_either : Nat → ix_M → (ix_R → Prop) → Prop} {l : Launch} {d : Nat} (H : ix_AllS l cX11_one 4 RX11 d none (o_X11_one TX11_one TX11_either)) (Q : ix_R → Prop) (ls : ix_L) (st : List ix_V) (μ : ix_M) : ix_Ev (o_X11_one TX11_one TX11_either) Q (150, ls, st, μ) = ix_push (vi 10) 152 (ix_Ev (o_X11_one TX11_one TX11_either) Q) Q ls st μ := ix_Ev.eq H rfl ls st μ
set_option maxRecDepth 20000 in
theorem e_X11_one_152 {TX11_one : Nat → ix_M → (ix_R → Prop) → Prop} {TX11_either : Nat → ix_M → (ix_R → Prop) → Prop} {l : Launch} {d : Nat} (H : ix_AllS l cX11_one 4 RX11 d none (o_X11_one TX11_one TX11_either)) (Q : ix_R → Prop) (ls : ix_L) (st : List ix_V) (μ : ix_M) : ix_Ev (o_X11_one TX11_one TX11_either) Q (152, ls, st, μ) = ix_iload 2 153 (ix_Ev (o_X11_one TX11_one TX11_either) Q) Q ls st μ := ix_Ev.eq H rfl ls st μ
set_option maxRecDepth 20000 in
theorem e_X11_one_153 {TX11_one : Nat → ix_M → (ix_R → Prop) → Prop} {TX11_either : Nat → ix_M → (ix_R → Prop) → Prop} {l : Launch} {d : Nat} (H : ix_AllS l cX11_one 4 RX11 d none (o_X11_one TX11_one TX11_either)) (Q : ix_R → Prop) (ls : ix_L) (st : List ix_V) (μ : ix_M) : ix_Ev (o_X11_one TX11_one TX11_either) Q (153, ls, st, μ) = ix_bin (fun x y => x * y) 154 (ix_Ev (o_X11_one TX11_one TX11_either) Q) Q ls st μ := ix_Ev.eq H rfl ls st μ
set_option maxRecDepth 20000 in
theorem e_X11_one_154 {TX11_one : Nat → ix_M → (ix_R → Prop) → Prop} {TX11_either : Nat → ix_M → (ix_R → Prop) → Prop} {l : Launch} {d : Nat} (H : ix_AllS l cX11_one 4 RX11 d none (o_X11_one TX11_one TX11_either)) (Q : ix_R → Prop) (ls : ix_L) (st : List ix_V) (μ : ix_M) : ix_Ev (o_X11_one TX11_one TX11_either) Q (154, ls, st, μ) = ix_aload 0 155 (ix_Ev (o_X11_one TX11_one TX11_either) Q) Q ls st μ := ix_Ev.eq H rfl ls st μ
set_option maxRecDepth 20000 in
theorem e_X11_one_155 {TX11_one : Nat → ix_M → (ix_R → Prop) → Prop} {TX11_either : Nat → ix_M → (ix_R → Prop) → Prop} {l : Launch} {d : Nat} (H : ix_AllS l cX11_one 4 RX11 d none (o_X11_one TX11_one TX11_either)) (Q : ix_R → Prop) (ls : ix_L) (st : List ix_V) (μ : ix_M) : ix_Ev (o_X11_one TX11_one TX11_either) Q (155, ls, st, μ) = oc_X11_here 158 (ix_Ev (o_X11_one TX11_one TX11_either) Q) Q ls st μ := ix_Ev.eq H rfl ls st μ
set_option maxRecDepth 20000 in
theorem e_X11_one_158 {TX11_one : Nat → ix_M → (ix_R → Prop) → Prop} {TX11_either : Nat → ix_M → (ix_R → Prop) → Prop} {l : Launch} {d : Nat} (H : ix_AllS l cX11_one 4 RX11 d none (o_X11_one TX11_one TX11_either)) (Q : ix_R → Prop) (ls : ix_L) (st : List ix_V) (μ : ix_M) : ix_Ev (o_X11_one TX11_one TX11_either) Q (158, ls, st, μ) = ix_bin (fun x y => x + y) 159 (ix_Ev (o_X11_one TX11_one TX11_either) Q) Q ls st μ := ix_Ev.eq H rfl ls st μ
set_option maxRecDepth 20000 in
theorem e_X11_one_159 {TX11_one : Nat → ix_M → (ix_R → Prop) → Prop} {TX11_either : Nat → ix_M → (ix_R → Prop) → Prop} {l : Launch} {d : Nat} (H : ix_AllS l cX11_one 4 RX11 d none (o_X11_one TX11_one TX11_either)) (Q : ix_R → Prop) (ls : ix_L) (st : List ix_V) (μ : ix_M) : ix_Ev (o_X11_one TX11_one TX11_either) Q (159, ls, st, μ) = ix_push (vi 48) 161 (ix_Ev (o_X11_one TX11_one TX11_either) Q) Q ls st μ := ix_Ev.eq H rfl ls st μ
set_option maxRecDepth 20000 in
theorem e_X11_one_161 {TX11_one : Nat → ix_M → (ix_R → Prop) → Prop} {TX11_either : Nat → ix_M → (ix_R → Prop) → Prop} {l : Launch} {d : Nat} (H : ix_AllS l cX11_one 4 RX11 d none (o_X11_one TX11_one TX11_either)) (Q : ix_R → Prop) (ls : ix_L) (st : List ix_V) (μ : ix_M) : ix_Ev (o_X11_one TX11_one TX11_either) Q (161, ls, st, μ) = ix_bin (fun x y => x - y) 162 (ix_Ev (o_X11_one TX11_one TX11_either) Q) Q ls st μ := ix_Ev.eq H rfl ls st μ
set_option maxRecDepth 20000 in
theorem e_X11_one_162 {TX11_one : Nat → ix_M → (ix_R → Prop) → Prop} {TX11_either : Nat → ix_M → (ix_R → Prop) → Prop} {l : Launch} {d : Nat} (H : ix_AllS l cX11_one 4 RX11 d none (o_X11_one TX11_one TX11_either)) (Q : ix_R → Prop) (ls : ix_L) (st : List ix_V) (μ : ix_M) : ix_Ev (o_X11_one TX11_one TX11_either) Q (162, ls, st, μ) = ix_istore 2 163 (ix_Ev (o_X11_one TX11_one TX11_either) Q) Q ls st μ := ix_Ev.eq H rfl ls st μ
set_option maxRecDepth 20000 in
theorem e_X11_one_163 {TX11_one : Nat → ix_M → (ix_R → Prop) → Prop} {TX11_either : Nat → ix_M → (ix_R → Prop) → Prop} {l : Launch} {d : Nat} (H : ix_AllS l cX11_one 4 RX11 d none (o_X11_one TX11_one TX11_either)) (Q : ix_R → Prop) (ls : ix_L) (st : List ix_V) (μ : ix_M) : ix_Ev (o_X11_one TX11_one TX11_either) Q (163, ls, st, μ) = ix_aload 0 164 (ix_Ev (o_X11_one TX11_one TX11_either) Q) Q ls st μ := ix_Ev.eq H rfl ls st μ
set_option maxRecDepth 20000 in
theorem e_X11_one_164 {TX11_one : Nat → ix_M → (ix_R → Prop) → Prop} {TX11_either : Nat → ix_M → (ix_R → Prop) → Prop} {l : Launch} {d : Nat} (H : ix_AllS l cX11_one 4 RX11 d none (o_X11_one TX11_one TX11_either)) (Q : ix_R → Prop) (ls : ix_L) (st : List ix_V) (μ : ix_M) : ix_Ev (o_X11_one TX11_one TX11_either) Q (164, ls, st, μ) = ix_dup 165 (ix_Ev (o_X11_one TX11_one TX11_either) Q) Q ls st μ := ix_Ev.eq H rfl ls st μ
set_option maxRecDepth 20000 in
theorem e_X11_one_165 {TX11_one : Nat → ix_M → (ix_R → Prop) → Prop} {TX11_either : Nat → ix_M → (ix_R → Prop) → Prop} {l : Launch} {d : Nat} (H : ix_AllS l cX11_one 4 RX11 d none (o_X11_one TX11_one TX11_either)) (Q : ix_R → Prop) (ls : ix_L) (st : List ix_V) (μ : ix_M) : ix_Ev (o_X11_one TX11_one TX11_either) Q (165, ls, st, μ) = ix_geti 10 8 168 (ix_Ev (o_X11_one TX11_one TX11_either) Q) Q ls st μ := ix_Ev.eq H rfl ls st μ
set_option maxRecDepth 20000 in
theorem e_X11_one_168 {TX11_one : Nat → ix_M → (ix_R → Prop) → Prop} {TX11_either : Nat → ix_M → (ix_R → Prop) → Prop} {l : Launch} {d : Nat} (H : ix_AllS l cX11_one 4 RX11 d none (o_X11_one TX11_one TX11_either)) (Q : ix_R → Prop) (ls : ix_L) (st : List ix_V) (μ : ix_M) : ix_Ev (o_X11_one TX11_one TX11_either) Q (168, ls, st, μ) = ix_push (vi 1) 169 (ix_Ev (o_X11_one TX11_one TX11_either) Q) Q ls st μ := ix_Ev.eq H rfl ls st μ
set_option maxRecDepth 20000 in
theorem e_X11_one_169 {TX11_one : Nat → ix_M → (ix_R → Prop) → Prop} {TX11_either : Nat → ix_M → (ix_R → Prop) → Prop} {l : Launch} {d : Nat} (H : ix_AllS l cX11_one 4 RX11 d none (o_X11_one TX11_one TX11_either)) (Q : ix_R → Prop) (ls : ix_L) (st : List ix_V) (μ : ix_M) : ix_Ev (o_X11_one TX11_one TX11_either) Q (169, ls, st, μ) = ix_bin (fun x y => x + y) 170 (ix_Ev (o_X11_one TX11_one TX11_either) Q) Q ls st μ := ix_Ev.eq H rfl ls st μ
set_option maxRecDepth 20000 in
theorem e_X11_one_170 {TX11_one : Nat → ix_M → (ix_R → Prop) → Prop} {TX11_either : Nat → ix_M → (ix_R → Prop) → Prop} {l : Launch} {d : Nat} (H : ix_AllS l cX11_one 4 RX11 d none (o_X11_one TX11_one TX11_either)) (Q : ix_R → Prop) (ls : ix_L) (st : List ix_V) (μ : ix_M) : ix_Ev (o_X11_one TX11_one TX11_either) Q (170, ls, st, μ) = ix_puti 10 8 173 (ix_Ev (o_X11_one TX11_one TX11_either) Q) Q ls st μ := ix_Ev.eq H rfl ls st μ
set_option maxRecDepth 20000 in
theorem e_X11_one_173 {TX11_one : Nat → ix_M → (ix_R → Prop) → Prop} {TX11_either : Nat → ix_M → (ix_R → Prop) → Prop} {l : Launch} {d : Nat} (H : ix_AllS l cX11_one 4 RX11 d none (o_X11_one TX11_one TX11_either)) (Q : ix_R → Prop) (ls : ix_L) (st : List ix_V) (μ : ix_M) : ix_Ev (o_X11_one TX11_one TX11_either) Q (173, ls, st, μ) = ix_iinc 3 1 176 (ix_Ev (o_X11_one TX11_one TX11_either) Q) Q ls st μ := ix_Ev.eq H rfl ls st μ
set_option maxRecDepth 20000 in
theorem e_X11_one_176 {TX11_one : Nat → ix_M → (ix_R → Prop) → Prop} {TX11_either : Nat → ix_M → (ix_R → Prop) → Prop} {l : Launch} {d : Nat} (H : ix_AllS l cX11_one 4 RX11 d none (o_X11_one TX11_one TX11_either)) (Q : ix_R → Prop) (ls : ix_L) (st : List ix_V) (μ : ix_M) : ix_Ev (o_X11_one TX11_one TX11_either) Q (176, ls, st, μ) = ix_goto 131 (ix_Ev (o_X11_one TX11_one TX11_either) Q) Q ls st μ := ix_Ev.eq H rfl ls st μ
set_option maxRecDepth 20000 in
theorem e_X11_one_179 {TX11_one : Nat → ix_M → (ix_R → Prop) → Prop} {TX11_either : Nat → ix_M → (ix_R → Prop) → Prop} {l : Launch} {d : Nat} (H : ix_AllS l cX11_one 4 RX11 d none (o_X11_one TX11_one TX11_either)) (Q : ix_R → Prop) (ls : ix_L) (st : List ix_V) (μ : ix_M) : ix_Ev (o_X11_one TX11_one TX11_either) Q (179, ls, st, μ) = ix_aload 0 180 (ix_Ev (o_X11_one TX11_one TX11_either) Q) Q ls st μ := ix_Ev.eq H rfl ls st μ
set_option maxRecDepth 20000 in
theorem e_X11_one_180 {TX11_one : Nat → ix_M → (ix_R → Prop) → Prop} {TX11_either : Nat → ix_M → (ix_R → Prop) → Prop} {l : Launch} {d : Nat} (H : ix_AllS l cX11_one 4 RX11 d none (o_X11_one TX11_one TX11_either)) (Q : ix_R → Prop) (ls : ix_L) (st : List ix_V) (μ : ix_M) : ix_Ev (o_X11_one TX11_one TX11_either) Q (180, ls, st, μ) = ix_iload 2 181 (ix_Ev (o_X11_one TX11_one TX11_either) Q) Q ls st μ := ix_Ev.eq H rfl ls st μ
set_option maxRecDepth 20000 in
theorem e_X11_one_181 {TX11_one : Nat → ix_M → (ix_R → Prop) → Prop} {TX11_either : Nat → ix_M → (ix_R → Prop) → Prop} {l : Launch} {d : Nat} (H : ix_AllS l cX11_one 4 RX11 d none (o_X11_one TX11_one TX11_either)) (Q : ix_R → Prop) (ls : ix_L) (st : List ix_V) (μ : ix_M) : ix_Ev (o_X11_one TX11_one TX11_either) Q (181, ls, st, μ) = oc_X11_codes 184 (ix_Ev (o_X11_one TX11_one TX11_either) Q) Q ls st μ := ix_Ev.eq H rfl ls st μ
set_option maxRecDepth 20000 in
theorem e_X11_one_184 {TX11_one : Nat → ix_M → (ix_R → Prop) → Prop} {TX11_either : Nat → ix_M → (ix_R → Prop) → Prop} {l : Launch} {d : Nat} (H : ix_AllS l cX11_one 4 RX11 d none (o_X11_one TX11_one TX11_either)) (Q : ix_R → Prop) (ls : ix_L) (st : List ix_V) (μ : ix_M) : ix_Ev (o_X11_one TX11_one TX11_either) Q (184, ls, st, μ) = ix_goto 247 (ix_Ev (o_X11_one TX11_one TX11_either) Q) Q ls st μ := ix_Ev.eq H rfl ls st μ
set_option maxRecDepth 20000 in
theorem e_X11_one_187 {TX11_one : Nat → ix_M → (ix_R → Prop) → Prop} {TX11_either : Nat → ix_M → (ix_R → Prop) → Prop} {l : Launch} {d : Nat} (H : ix_AllS l cX11_one 4 RX11 d none (o_X11_one TX11_one TX11_either)) (Q : ix_R → Prop) (ls : ix_L) (st : List ix_V) (μ : ix_M) : ix_Ev (o_X11_one TX11_one TX11_either) Q (187, ls, st, μ) = ix_iload 1 188 (ix_Ev (o_X11_one TX11_one TX11_either) Q) Q ls st μ := ix_Ev.eq H rfl ls st μ
set_option maxRecDepth 20000 in
theorem e_X11_one_188 {TX11_one : Nat → ix_M → (ix_R → Prop) → Prop} {TX11_either : Nat → ix_M → (ix_R → Prop) → Prop} {l : Launch} {d : Nat} (H : ix_AllS l cX11_one 4 RX11 d none (o_X11_one TX11_one TX11_either)) (Q : ix_R → Prop) (ls : ix_L) (st : List ix_V) (μ : ix_M) : ix_Ev (o_X11_one TX11_one TX11_either) Q (188, ls, st, μ) = ix_if (fun x => 0 ≤ x) 195 191 (ix_Ev (o_X11_one TX11_one TX11_either) Q) Q ls st μ := ix_Ev.eq H rfl ls st μ
set_option maxRecDepth 20000 in
theorem e_X11_one_191 {TX11_one : Nat → ix_M → (ix_R → Prop) → Prop} {TX11_either : Nat → ix_M → (ix_R → Prop) → Prop} {l : Launch} {d : Nat} (H : ix_AllS l cX11_one 4 RX11 d none (o_X11_one TX11_one TX11_either)) (Q : ix_R → Prop) (ls : ix_L) (st : List ix_V) (μ : ix_M) : ix_Ev (o_X11_one TX11_one TX11_either) Q (191, ls, st, μ) = ix_push (vi (-1)) 192 (ix_Ev (o_X11_one TX11_one TX11_either) Q) Q ls st μ := ix_Ev.eq H rfl ls st μ
set_option maxRecDepth 20000 in
theorem e_X11_one_192 {TX11_one : Nat → ix_M → (ix_R → Prop) → Prop} {TX11_either : Nat → ix_M → (ix_R → Prop) → Prop} {l : Launch} {d : Nat} (H : ix_AllS l cX11_one 4 RX11 d none (o_X11_one TX11_one TX11_either)) (Q : ix_R → Prop) (ls : ix_L) (st : List ix_V) (μ : ix_M) : ix_Ev (o_X11_one TX11_one TX11_either) Q (192, ls, st, μ) = ix_goto 200 (ix_Ev (o_X11_one TX11_one TX11_either) Q) Q ls st μ := ix_Ev.eq H rfl ls st μ
set_option maxRecDepth 20000 in
theorem e_X11_one_195 {TX11_one : Nat → ix_M → (ix_R → Prop) → Prop} {TX11_either : Nat → ix_M → (ix_R → Prop) → Prop} {l : Launch} {d : Nat} (H : ix_AllS l cX11_one 4 RX11 d none (o_X11_one TX11_one TX11_either)) (Q : ix_R → Prop) (ls : ix_L) (st : List ix_V) (μ : ix_M) : ix_Ev (o_X11_one TX11_one TX11_either) Q (195, ls, st, μ) = ix_aload 0 196 (ix_Ev (o_X11_one TX11_one TX11_either) Q) Q ls st μ := ix_Ev.eq H rfl ls st μ
set_option maxRecDepth 20000 in
theorem e_X11_one_196 {TX11_one : Nat → ix_M → (ix_R → Prop) → Prop} {TX11_either : Nat → ix_M → (ix_R → Prop) → Prop} {l : Launch} {d : Nat} (H : ix_AllS l cX11_one 4 RX11 d none (o_X11_one TX11_one TX11_either)) (Q : ix_R → Prop) (ls : ix_L) (st : List ix_V) (μ : ix_M) : ix_Ev (o_X11_one TX11_one TX11_either) Q (196, ls, st, μ) = ix_iload 1 197 (ix_Ev (o_X11_one TX11_one TX11_either) Q) Q ls st μ := ix_Ev.eq H rfl ls st μ
set_option maxRecDepth 20000 in
theorem e_X11_one_197 {TX11_one : Nat → ix_M → (ix_R → Prop) → Prop} {TX11_either : Nat → ix_M → (ix_R → Prop) → Prop} {l : Launch} {d : Nat} (H : ix_AllS l cX11_one 4 RX11 d none (o_X11_one TX11_one TX11_either)) (Q : ix_R → Prop) (ls : ix_L) (st : List ix_V) (μ : ix_M) : ix_Ev (o_X11_one TX11_one TX11_either) Q (197, ls, st, μ) = oc_X11_nameOf 200 (ix_Ev (o_X11_one TX11_one TX11_either) Q) Q ls st μ := ix_Ev.eq H rfl ls st μ
set_option maxRecDepth 20000 in
theorem e_X11_one_200 {TX11_one : Nat → ix_M → (ix_R → Prop) → Prop} {TX11_either : Nat → ix_M → (ix_R → Prop) → Prop} {l : Launch} {d : Nat} (H : ix_AllS l cX11_one 4 RX11 d none (o_X11_one TX11_one TX11_either)) (Q : ix_R → Prop) (ls : ix_L) (st : List ix_V) (μ : ix_M) : ix_Ev (o_X11_one TX11_one TX11_either) Q (200, ls, st, μ) = ix_istore 2 201 (ix_Ev (o_X11_one TX11_one TX11_either) Q) Q ls st μ := ix_Ev.eq H rfl ls st μ
set_option maxRecDepth 20000 in
theorem e_X11_one_201 {TX11_one : Nat → ix_M → (ix_R → Prop) → Prop} {TX11_either : Nat → ix_M → (ix_R → Prop) → Prop} {l : Launch} {d : Nat} (H : ix_AllS l cX11_one 4 RX11 d none (o_X11_one TX11_one TX11_either)) (Q : ix_R → Prop) (ls : ix_L) (st : List ix_V) (μ : ix_M) : ix_Ev (o_X11_one TX11_one TX11_either) Q (201, ls, st, μ) = ix_aload 0 202 (ix_Ev (o_X11_one TX11_one TX11_either) Q) Q ls st μ := ix_Ev.eq H rfl ls st μ
set_option maxRecDepth 20000 in
theorem e_X11_one_202 {TX11_one : Nat → ix_M → (ix_R → Prop) → Prop} {TX11_either : Nat → ix_M → (ix_R → Prop) → Prop} {l : Launch} {d : Nat} (H : ix_AllS l cX11_one 4 RX11 d none (o_X11_one TX11_one TX11_either)) (Q : ix_R → Prop) (ls : ix_L) (st : List ix_V) (μ : ix_M) : ix_Ev (o_X11_one TX11_one TX11_either) Q (202, ls, st, μ) = ix_aload 0 203 (ix_Ev (o_X11_one TX11_one TX11_either) Q) Q ls st μ := ix_Ev.eq H rfl ls st μ
set_option maxRecDepth 20000 in
theorem e_X11_one_203 {TX11_one : Nat → ix_M → (ix_R → Prop) → Prop} {TX11_either : Nat → ix_M → (ix_R → Prop) → Prop} {l : Launch} {d : Nat} (H : ix_AllS l cX11_one 4 RX11 d none (o_X11_one TX11_one TX11_either)) (Q : ix_R → Prop) (ls : ix_L) (st : List ix_V) (μ : ix_M) : ix_Ev (o_X11_one TX11_one TX11_either) Q (203, ls, st, μ) = ix_geti 10 11 206 (ix_Ev (o_X11_one TX11_one TX11_either) Q) Q ls st μ := ix_Ev.eq H rfl ls st μ
set_option maxRecDepth 20000 in
theorem e_X11_one_206 {TX11_one : Nat → ix_M → (ix_R → Prop) → Prop} {TX11_either : Nat → ix_M → (ix_R → Prop) → Prop} {l : Launch} {d : Nat} (H : ix_AllS l cX11_one 4 RX11 d none (o_X11_one TX11_one TX11_either)) (Q : ix_R → Prop) (ls : ix_L) (st : List ix_V) (μ : ix_M) : ix_Ev (o_X11_one TX11_one TX11_either) Q (206, ls, st, μ) = ix_if (fun x => x = 0) 209 213 (ix_Ev (o_X11_one TX11_one TX11_either) Q) Q ls st μ := ix_Ev.eq H rfl ls st μ
set_option maxRecDepth 20000 in
theorem e_X11_one_209 {TX11_one : Nat → ix_M → (ix_R → Prop) → Prop} {TX11_either : Nat → ix_M → (ix_R → Prop) → Prop} {l : Launch} {d : Nat} (H : ix_AllS l cX11_one 4 RX11 d none (o_X11_one TX11_one TX11_either)) (Q : ix_R → Prop) (ls : ix_L) (st : List ix_V) (μ : ix_M) : ix_Ev (o_X11_one TX11_one TX11_either) Q (209, ls, st, μ) = ix_iload 2 210 (ix_Ev (o_X11_one TX11_one TX11_either) Q) Q ls st μ := ix_Ev.eq H rfl ls st μ
set_option maxRecDepth 20000 in
theorem e_X11_one_210 {TX11_one : Nat → ix_M → (ix_R → Prop) → Prop} {TX11_either : Nat → ix_M → (ix_R → Prop) → Prop} {l : Launch} {d : Nat} (H : ix_AllS l cX11_one 4 RX11 d none (o_X11_one TX11_one TX11_either)) (Q : ix_R → Prop) (ls : ix_L) (st : List ix_V) (μ : ix_M) : ix_Ev (o_X11_one TX11_one TX11_either) Q (210, ls, st, μ) = ix_if (fun x => 0 ≤ x) 217 213 (ix_Ev (o_X11_one TX11_one TX11_either) Q) Q ls st μ := ix_Ev.eq H rfl ls st μ
set_option maxRecDepth 20000 in
theorem e_X11_one_213 {TX11_one : Nat → ix_M → (ix_R → Prop) → Prop} {TX11_either : Nat → ix_M → (ix_R → Prop) → Prop} {l : Launch} {d : Nat} (H : ix_AllS l cX11_one 4 RX11 d none (o_X11_one TX11_one TX11_either)) (Q : ix_R → Prop) (ls : ix_L) (st : List ix_V) (μ : ix_M) : ix_Ev (o_X11_one TX11_one TX11_either) Q (213, ls, st, μ) = ix_push (vi 1) 214 (ix_Ev (o_X11_one TX11_one TX11_either) Q) Q ls st μ := ix_Ev.eq H rfl ls st μ
set_option maxRecDepth 20000 in
theorem e_X11_one_214 {TX11_one : Nat → ix_M → (ix_R → Prop) → Prop} {TX11_either : Nat → ix_M → (ix_R → Prop) → Prop} {l : Launch} {d : Nat} (H : ix_AllS l cX11_one 4 RX11 d none (o_X11_one TX11_one TX11_either)) (Q : ix_R → Prop) (ls : ix_L) (st : List ix_V) (μ : ix_M) : ix_Ev (o_X11_one TX11_one TX11_either) Q (214, ls, st, μ) = ix_goto 218 (ix_Ev (o_X11_one TX11_one TX11_either) Q) Q ls st μ := ix_Ev.eq H rfl ls st μ
set_option maxRecDepth 20000 in
theorem e_X11_one_217 {TX11_one : Nat → ix_M → (ix_R → Prop) → Prop} {TX11_either : Nat → ix_M → (ix_R → Prop) → Prop} {l : Launch} {d : Nat} (H : ix_AllS l cX11_one 4 RX11 d none (o_X11_one TX11_one TX11_either)) (Q : ix_R → Prop) (ls : ix_L) (st : List ix_V) (μ : ix_M) : ix_Ev (o_X11_one TX11_one TX11_either) Q (217, ls, st, μ) = ix_push (vi 0) 218 (ix_Ev (o_X11_one TX11_one TX11_either) Q) Q ls st μ := ix_Ev.eq H rfl ls st μ
set_option maxRecDepth 20000 in
theorem e_X11_one_218 {TX11_one : Nat → ix_M → (ix_R → Prop) → Prop} {TX11_either : Nat → ix_M → (ix_R → Prop) → Prop} {l : Launch} {d : Nat} (H : ix_AllS l cX11_one 4 RX11 d none (o_X11_one TX11_one TX11_either)) (Q : ix_R → Prop) (ls : ix_L) (st : List ix_V) (μ : ix_M) : ix_Ev (o_X11_one TX11_one TX11_either) Q (218, ls, st, μ) = ix_putz 10 11 221 (ix_Ev (o_X11_one TX11_one TX11_either) Q) Q ls st μ := ix_Ev.eq H rfl ls st μ
set_option maxRecDepth 20000 in
theorem e_X11_one_221 {TX11_one : Nat → ix_M → (ix_R → Prop) → Prop} {TX11_either : Nat → ix_M → (ix_R → Prop) → Prop} {l : Launch} {d : Nat} (H : ix_AllS l cX11_one 4 RX11 d none (o_X11_one TX11_one TX11_either)) (Q : ix_R → Prop) (ls : ix_L) (st : List ix_V) (μ : ix_M) : ix_Ev (o_X11_one TX11_one TX11_either) Q (221, ls, st, μ) = ix_aload 0 222 (ix_Ev (o_X11_one TX11_one TX11_either) Q) Q ls st μ := ix_Ev.eq H rfl ls st μ
set_option maxRecDepth 20000 in
theorem e_X11_one_222 {TX11_one : Nat → ix_M → (ix_R → Prop) → Prop} {TX11_either : Nat → ix_M → (ix_R → Prop) → Prop} {l : Launch} {d : Nat} (H : ix_AllS l cX11_one 4 RX11 d none (o_X11_one TX11_one TX11_either)) (Q : ix_R → Prop) (ls : ix_L) (st : List ix_V) (μ : ix_M) : ix_Ev (o_X11_one TX11_one TX11_either) Q (222, ls, st, μ) = ix_geti 10 11 225 (ix_Ev (o_X11_one TX11_one TX11_either) Q) Q ls st μ := ix_Ev.eq H rfl ls st μ
set_option maxRecDepth 20000 in
theorem e_X11_one_225 {TX11_one : Nat → ix_M → (ix_R → Prop) → Prop} {TX11_either : Nat → ix_M → (ix_R → Prop) → Prop} {l : Launch} {d : Nat} (H : ix_AllS l cX11_one 4 RX11 d none (o_X11_one TX11_one TX11_either)) (Q : ix_R → Prop) (ls : ix_L) (st : List ix_V) (μ : ix_M) : ix_Ev (o_X11_one TX11_one TX11_either) Q (225, ls, st, μ) = ix_if (fun x => x = 0) 228 247 (ix_Ev (o_X11_one TX11_one TX11_either) Q) Q ls st μ := ix_Ev.eq H rfl ls st μ
set_option maxRecDepth 20000 in
theorem e_X11_one_228 {TX11_one : Nat → ix_M → (ix_R → Prop) → Prop} {TX11_either : Nat → ix_M → (ix_R → Prop) → Prop} {l : Launch} {d : Nat} (H : ix_AllS l cX11_one 4 RX11 d none (o_X11_one TX11_one TX11_either)) (Q : ix_R → Prop) (ls : ix_L) (st : List ix_V) (μ : ix_M) : ix_Ev (o_X11_one TX11_one TX11_either) Q (228, ls, st, μ) = ix_aload 0 229 (ix_Ev (o_X11_one TX11_one TX11_either) Q) Q ls st μ := ix_Ev.eq H rfl ls st μ
set_option maxRecDepth 20000 in
theorem e_X11_one_229 {TX11_one : Nat → ix_M → (ix_R → Prop) → Prop} {TX11_either : Nat → ix_M → (ix_R → Prop) → Prop} {l : Launch} {d : Nat} (H : ix_AllS l cX11_one 4 RX11 d none (o_X11_one TX11_one TX11_either)) (Q : ix_R → Prop) (ls : ix_L) (st : List ix_V) (μ : ix_M) : ix_Ev (o_X11_one TX11_one TX11_either) Q (229, ls, st, μ) = ix_push (vi 10000) 232 (ix_Ev (o_X11_one TX11_one TX11_either) Q) Q ls st μ := ix_Ev.eq H rfl ls st μ
set_option maxRecDepth 20000 in
theorem e_X11_one_232 {TX11_one : Nat → ix_M → (ix_R → Prop) → Prop} {TX11_either : Nat → ix_M → (ix_R → Prop) → Prop} {l : Launch} {d : Nat} (H : ix_AllS l cX11_one 4 RX11 d none (o_X11_one TX11_one TX11_either)) (Q : ix_R → Prop) (ls : ix_L) (st : List ix_V) (μ : ix_M) : ix_Ev (o_X11_one TX11_one TX11_either) Q (232, ls, st, μ) = ix_iload 2 233 (ix_Ev (o_X11_one TX11_one TX11_either) Q) Q ls st μ := ix_Ev.eq H rfl ls st μ
set_option maxRecDepth 20000 in
theorem e_X11_one_233 {TX11_one : Nat → ix_M → (ix_R → Prop) → Prop} {TX11_either : Nat → ix_M → (ix_R → Prop) → Prop} {l : Launch} {d : Nat} (H : ix_AllS l cX11_one 4 RX11 d none (o_X11_one TX11_one TX11_either)) (Q : ix_R → Prop) (ls : ix_L) (st : List ix_V) (μ : ix_M) : ix_Ev (o_X11_one TX11_one TX11_either) Q (233, ls, st, μ) = ix_bin (fun x y => x + y) 234 (ix_Ev (o_X11_one TX11_one TX11_either) Q) Q ls st μ := ix_Ev.eq H rfl ls st μ
set_option maxRecDepth 20000 in
theorem e_X11_one_234 {TX11_one : Nat → ix_M → (ix_R → Prop) → Prop} {TX11_either : Nat → ix_M → (ix_R → Prop) → Prop} {l : Launch} {d : Nat} (H : ix_AllS l cX11_one 4 RX11 d none (o_X11_one TX11_one TX11_either)) (Q : ix_R → Prop) (ls : ix_L) (st : List ix_V) (μ : ix_M) : ix_Ev (o_X11_one TX11_one TX11_either) Q (234, ls, st, μ) = oc_X11_codes 237 (ix_Ev (o_X11_one TX11_one TX11_either) Q) Q ls st μ := ix_Ev.eq H rfl ls st μ
set_option maxRecDepth 20000 in
theorem e_X11_one_237 {TX11_one : Nat → ix_M → (ix_R → Prop) → Prop} {TX11_either : Nat → ix_M → (ix_R → Prop) → Prop} {l : Launch} {d : Nat} (H : ix_AllS l cX11_one 4 RX11 d none (o_X11_one TX11_one TX11_either)) (Q : ix_R → Prop) (ls : ix_L) (st : List ix_V) (μ : ix_M) : ix_Ev (o_X11_one TX11_one TX11_either) Q (237, ls, st, μ) = ix_aload 0 238 (ix_Ev (o_X11_one TX11_one TX11_either) Q) Q ls st μ := ix_Ev.eq H rfl ls st μ
set_option maxRecDepth 20000 in
theorem e_X11_one_238 {TX11_one : Nat → ix_M → (ix_R → Prop) → Prop} {TX11_either : Nat → ix_M → (ix_R → Prop) → Prop} {l : Launch} {d : Nat} (H : ix_AllS l cX11_one 4 RX11 d none (o_X11_one TX11_one TX11_either)) (Q : ix_R → Prop) (ls : ix_L) (st : List ix_V) (μ : ix_M) : ix_Ev (o_X11_one TX11_one TX11_either) Q (238, ls, st, μ) = ix_dup 239 (ix_Ev (o_X11_one TX11_one TX11_either) Q) Q ls st μ := ix_Ev.eq H rfl ls st μ
set_option maxRecDepth 20000 in
theorem e_X11_one_239 {TX11_one : Nat → ix_M → (ix_R → Prop) → Prop} {TX11_either : Nat → ix_M → (ix_R → Prop) → Prop} {l : Launch} {d : Nat} (H : ix_AllS l cX11_one 4 RX11 d none (o_X11_one TX11_one TX11_either)) (Q : ix_R → Prop) (ls : ix_L) (st : List ix_V) (μ : ix_M) : ix_Ev (o_X11_one TX11_one TX11_either) Q (239, ls, st, μ) = ix_geti 10 8 242 (ix_Ev (o_X11_one TX11_one TX11_either) Q) Q ls st μ := ix_Ev.eq H rfl ls st μ
set_option maxRecDepth 20000 in
theorem e_X11_one_242 {TX11_one : Nat → ix_M → (ix_R → Prop) → Prop} {TX11_either : Nat → ix_M → (ix_R → Prop) → Prop} {l : Launch} {d : Nat} (H : ix_AllS l cX11_one 4 RX11 d none (o_X11_one TX11_one TX11_either)) (Q : ix_R → Prop) (ls : ix_L) (st : List ix_V) (μ : ix_M) : ix_Ev (o_X11_one TX11_one TX11_either) Q (242, ls, st, μ) = ix_push (vi 1) 243 (ix_Ev (o_X11_one TX11_one TX11_either) Q) Q ls st μ := ix_Ev.eq H rfl ls st μ
set_option maxRecDepth 20000 in
theorem e_X11_one_243 {TX11_one : Nat → ix_M → (ix_R → Prop) → Prop} {TX11_either : Nat → ix_M → (ix_R → Prop) → Prop} {l : Launch} {d : Nat} (H : ix_AllS l cX11_one 4 RX11 d none (o_X11_one TX11_one TX11_either)) (Q : ix_R → Prop) (ls : ix_L) (st : List ix_V) (μ : ix_M) : ix_Ev (o_X11_one TX11_one TX11_either) Q (243, ls, st, μ) = ix_bin (fun x y => x + y) 244 (ix_Ev (o_X11_one TX11_one TX11_either) Q) Q ls st μ := ix_Ev.eq H rfl ls st μ
set_option maxRecDepth 20000 in
theorem e_X11_one_244 {TX11_one : Nat → ix_M → (ix_R → Prop) → Prop} {TX11_either : Nat → ix_M → (ix_R → Prop) → Prop} {l : Launch} {d : Nat} (H : ix_AllS l cX11_one 4 RX11 d none (o_X11_one TX11_one TX11_either)) (Q : ix_R → Prop) (ls : ix_L) (st : List ix_V) (μ : ix_M) : ix_Ev (o_X11_one TX11_one TX11_either) Q (244, ls, st, μ) = ix_puti 10 8 247 (ix_Ev (o_X11_one TX11_one TX11_either) Q) Q ls st μ := ix_Ev.eq H rfl ls st μ
set_option maxRecDepth 20000 in
theorem e_X11_one_247 {TX11_one : Nat → ix_M → (ix_R → Prop) → Prop} {TX11_either : Nat → ix_M → (ix_R → Prop) → Prop} {l : Launch} {d : Nat} (H : ix_AllS l cX11_one 4 RX11 d none (o_X11_one TX11_one TX11_either)) (Q : ix_R → Prop) (ls : ix_L) (st : List ix_V) (μ : ix_M) : ix_Ev (o_X11_one TX11_one TX11_either) Q (247, ls, st, μ) = ix_vret (ix_Ev (o_X11_one TX11_one TX11_either) Q) Q ls st μ := ix_Ev.eq H rfl ls st μ
theorem PsC.e112 {μ : ix_M} {i : Nat} {x : Int32} {j : Nat} (hj : j ≠ i) : ix_up μ 112 i x 112 j = μ 112 j := by rw [ix_up_ap, if_neg (fun z => hj z.2)]
theorem PsC.set11 {μ : ix_M} {tp : Nat → Int32} {n u k : Nat} {b : Bool} {s : RS} (h : PsC μ tp n u k (b, s)) (b' : Bool) {x : Int32} (hx : x = mB (¬ b' = true)) : PsC (ix_up μ 112 11 x) tp n u k (b', s) := by
  obtain ⟨⟨t1, t2, t3, t4⟩, h2, h3, h4, h5, h6, h7⟩ := h
  exact ⟨⟨by rw [ix_up_ne (by decide)]; exact t1, t2, fun j hj => by rw [ix_up_ne (by decide)]; exact t3 j hj, t4.1, fun j hj => by rw [PsC.e112 (by omega)]; exact t4.2 j hj⟩, ⟨by rw [PsC.e112 (by decide)]; exact h2.1, h2.2⟩, by rw [PsC.e112 (by decide)]; exact h3, by rw [ix_up_k]; exact hx, ⟨by rw [PsC.e112 (by decide)]; exact h5.1, h5.2⟩, by rw [PsC.e112 (by decide)]; exact h6, fun j hj => by rw [ix_up_ne (by decide)]; exact h7 j hj⟩
theorem PsC.set9 {μ : ix_M} {tp : Nat → Int32} {n u k : Nat} {q : Bool × RS} (h : PsC μ tp n u k q) {k' : Nat} {x : Int32} (hx : x = nI (5 - k')) : PsC (ix_up μ 112 9 x) tp n u k' q := by
  obtain ⟨⟨t1, t2, t3, t4⟩, h2, h3, h4, h5, h6, h7⟩ := h
  exact ⟨⟨by rw [ix_up_ne (by decide)]; exact t1, t2, fun j hj => by rw [ix_up_ne (by decide)]; exact t3 j hj, t4.1, fun j hj => by rw [PsC.e112 (by omega)]; exact t4.2 j hj⟩, ⟨by rw [PsC.e112 (by decide)]; exact h2.1, h2.2⟩, by rw [ix_up_k]; exact hx, by rw [PsC.e112 (by decide)]; exact h4, ⟨by rw [PsC.e112 (by decide)]; exact h5.1, h5.2⟩, by rw [PsC.e112 (by decide)]; exact h6, fun j hj => by rw [ix_up_ne (by decide)]; exact h7 j hj⟩
theorem l_X11_one {l : Launch} {tp : Nat → Int32} {n u k dd : Nat} {TO TE : Nat → ix_M → (ix_R → Prop) → Prop} (H : ix_AllS l cX11_one 4 RX11 dd none (o_X11_one TO TE)) {μ0 : ix_M} {Q : ix_R → Prop} {c : Int32} {cs : List Int32} (hcs : cs.length < 60) : ∀ (f i a : Nat) (v : Int32) (μ : ix_M), i + f = 4 → Fx [112, 118] μ0 μ → PsC μ tp n u k (true, a, cs) → (∀ μ', Fx [112, 118] μ0 μ' → PsC μ' tp n u k (true, (rdN tp n f v a).2, cs ++ [(rdN tp n f v a).1]) → Q (none, μ')) → ix_Ev (o_X11_one TO TE) Q (131, [some (vr 10 112), some (vi c), some (vi v), some (vi (nI i))], [], μ)
  | 0, i, a, v, μ, hi, hF, hP, hQ => by
    have hi : i = 4 := hi
    subst hi
    have h4 : (4 : Int32) ≤ nI 4 := by decide
    rw [e_X11_one_131 H]
    simp (decide := true) only [e_X11_one_0 H, e_X11_one_1 H, e_X11_one_4 H, e_X11_one_5 H, e_X11_one_6 H, e_X11_one_8 H, e_X11_one_11 H, e_X11_one_12 H, e_X11_one_14 H, e_X11_one_17 H, e_X11_one_18 H, e_X11_one_19 H, e_X11_one_22 H, e_X11_one_23 H, e_X11_one_26 H, e_X11_one_27 H, e_X11_one_30 H, e_X11_one_31 H, e_X11_one_34 H, e_X11_one_35 H, e_X11_one_38 H, e_X11_one_41 H, e_X11_one_42 H, e_X11_one_43 H, e_X11_one_46 H, e_X11_one_47 H, e_X11_one_48 H, e_X11_one_51 H, e_X11_one_52 H, e_X11_one_53 H, e_X11_one_56 H, e_X11_one_57 H, e_X11_one_58 H, e_X11_one_61 H, e_X11_one_62 H, e_X11_one_64 H, e_X11_one_67 H, e_X11_one_68 H, e_X11_one_71 H, e_X11_one_72 H, e_X11_one_75 H, e_X11_one_78 H, e_X11_one_81 H, e_X11_one_82 H, e_X11_one_85 H, e_X11_one_86 H, e_X11_one_87 H, e_X11_one_89 H, e_X11_one_92 H, e_X11_one_95 H, e_X11_one_96 H, e_X11_one_99 H, e_X11_one_100 H, e_X11_one_103 H, e_X11_one_104 H, e_X11_one_105 H, e_X11_one_108 H, e_X11_one_109 H, e_X11_one_110 H, e_X11_one_113 H, e_X11_one_116 H, e_X11_one_117 H, e_X11_one_119 H, e_X11_one_121 H, e_X11_one_124 H, e_X11_one_127 H, e_X11_one_128 H, e_X11_one_129 H, e_X11_one_130 H, e_X11_one_132 H, e_X11_one_133 H, e_X11_one_136 H, e_X11_one_137 H, e_X11_one_140 H, e_X11_one_142 H, e_X11_one_144 H, e_X11_one_147 H, e_X11_one_150 H, e_X11_one_152 H, e_X11_one_153 H, e_X11_one_154 H, e_X11_one_155 H, e_X11_one_158 H, e_X11_one_159 H, e_X11_one_161 H, e_X11_one_162 H, e_X11_one_163 H, e_X11_one_164 H, e_X11_one_165 H, e_X11_one_168 H, e_X11_one_169 H, e_X11_one_170 H, e_X11_one_173 H, e_X11_one_176 H, e_X11_one_179 H, e_X11_one_180 H, e_X11_one_181 H, e_X11_one_184 H, e_X11_one_187 H, e_X11_one_188 H, e_X11_one_191 H, e_X11_one_192 H, e_X11_one_195 H, e_X11_one_196 H, e_X11_one_197 H, e_X11_one_200 H, e_X11_one_201 H, e_X11_one_202 H, e_X11_one_203 H, e_X11_one_206 H, e_X11_one_209 H, e_X11_one_210 H, e_X11_one_213 H, e_X11_one_214 H, e_X11_one_217 H, e_X11_one_218 H, e_X11_one_221 H, e_X11_one_222 H, e_X11_one_225 H, e_X11_one_228 H, e_X11_one_229 H, e_X11_one_232 H, e_X11_one_233 H, e_X11_one_234 H, e_X11_one_237 H, e_X11_one_238 H, e_X11_one_239 H, e_X11_one_242 H, e_X11_one_243 H, e_X11_one_244 H, e_X11_one_247 H, vi, vl, vr, ocr_X11_one, ocr_X11_either, oc_X11_codes, T_X11_codes, oc_X11_here, T_X11_here, oc_X11_nameOf, T_X11_nameOf, oc_X11_takes, T_X11_takes, oc_X11_within, T_X11_within, ix_push, ix_iload, ix_lload, ix_aload, ix_istore, ix_astore, ix_iinc, ix_bin, ix_div, ix_un, ix_i2l, ix_l2i, ix_lbin, ix_lsh, ix_lcmp, ix_dup, ix_dup2, ix_pop, ix_if, ix_cmp, ix_goto, ix_switch, ix_sw, ix_iret, ix_zret, ix_vret, ix_aret, ix_geti, ix_getr, ix_puti, ix_putz, ix_puts, ix_gets, ix_iald, ix_iast, ix_alen, ix_aald, ix_gval, ix_gcod, ix_bald, ix_blen, ix_sald, ix_nret, ix_math2, ix_math1, ix_acopy, ml_113, ml_114, ml_115, ml_116, ml_118, ml_119, ml_120, ml_121, ml_122, ml_123, ml_124, ml_125, ml_126, mv_0, mv_1, mv_2, mv_3, mv_4, mv_5, mB_or, Nat.add_assoc, Int32.reduceLT, Int32.reduceLE, Int32.reduceToNatClampNeg, Int32.reduceSub, Int32.reduceAdd, Nat.reduceAdd, Nat.reduceLeDiff, true_or, or_true, or_false, false_or, not_false_eq_true, not_true_eq_false, false_implies, true_implies, implies_true, and_self, mB_0, mB_01, Classical.not_not, Nat.zero_le, List.getElem?_cons_zero, List.getElem?_cons_succ, List.set_cons_zero, List.set_cons_succ, ix_nl, ix_cs, true_and, and_true, Option.toList_some, Option.toList_none, List.cons_append, List.nil_append, h4]
    refine ⟨tp, n, u, k, _, hP, hcs, fun μ' F g => hQ μ' (hF.tr F) g⟩
  | f + 1, i, a, v, μ, hi, hF, hP, hQ => by
    have h4 : ¬ (4 : Int32) ≤ nI i := nI_ge (a := i) (b := 4) (by omega) (by omega)
    have hi1 : nI i + 1 = nI (i + 1) := nI_1 i
    have h8 := hP.2.2.2.2.1.1
    simp only at h8
    rw [e_X11_one_131 H]
    simp (decide := true) only [e_X11_one_0 H, e_X11_one_1 H, e_X11_one_4 H, e_X11_one_5 H, e_X11_one_6 H, e_X11_one_8 H, e_X11_one_11 H, e_X11_one_12 H, e_X11_one_14 H, e_X11_one_17 H, e_X11_one_18 H, e_X11_one_19 H, e_X11_one_22 H, e_X11_one_23 H, e_X11_one_26 H, e_X11_one_27 H, e_X11_one_30 H, e_X11_one_31 H, e_X11_one_34 H, e_X11_one_35 H, e_X11_one_38 H, e_X11_one_41 H, e_X11_one_42 H, e_X11_one_43 H, e_X11_one_46 H, e_X11_one_47 H, e_X11_one_48 H, e_X11_one_51 H, e_X11_one_52 H, e_X11_one_53 H, e_X11_one_56 H, e_X11_one_57 H, e_X11_one_58 H, e_X11_one_61 H, e_X11_one_62 H, e_X11_one_64 H, e_X11_one_67 H, e_X11_one_68 H, e_X11_one_71 H, e_X11_one_72 H, e_X11_one_75 H, e_X11_one_78 H, e_X11_one_81 H, e_X11_one_82 H, e_X11_one_85 H, e_X11_one_86 H, e_X11_one_87 H, e_X11_one_89 H, e_X11_one_92 H, e_X11_one_95 H, e_X11_one_96 H, e_X11_one_99 H, e_X11_one_100 H, e_X11_one_103 H, e_X11_one_104 H, e_X11_one_105 H, e_X11_one_108 H, e_X11_one_109 H, e_X11_one_110 H, e_X11_one_113 H, e_X11_one_116 H, e_X11_one_117 H, e_X11_one_119 H, e_X11_one_121 H, e_X11_one_124 H, e_X11_one_127 H, e_X11_one_128 H, e_X11_one_129 H, e_X11_one_130 H, e_X11_one_132 H, e_X11_one_133 H, e_X11_one_136 H, e_X11_one_137 H, e_X11_one_140 H, e_X11_one_142 H, e_X11_one_144 H, e_X11_one_147 H, e_X11_one_150 H, e_X11_one_152 H, e_X11_one_153 H, e_X11_one_154 H, e_X11_one_155 H, e_X11_one_158 H, e_X11_one_159 H, e_X11_one_161 H, e_X11_one_162 H, e_X11_one_163 H, e_X11_one_164 H, e_X11_one_165 H, e_X11_one_168 H, e_X11_one_169 H, e_X11_one_170 H, e_X11_one_173 H, e_X11_one_176 H, e_X11_one_179 H, e_X11_one_180 H, e_X11_one_181 H, e_X11_one_184 H, e_X11_one_187 H, e_X11_one_188 H, e_X11_one_191 H, e_X11_one_192 H, e_X11_one_195 H, e_X11_one_196 H, e_X11_one_197 H, e_X11_one_200 H, e_X11_one_201 H, e_X11_one_202 H, e_X11_one_203 H, e_X11_one_206 H, e_X11_one_209 H, e_X11_one_210 H, e_X11_one_213 H, e_X11_one_214 H, e_X11_one_217 H, e_X11_one_218 H, e_X11_one_221 H, e_X11_one_222 H, e_X11_one_225 H, e_X11_one_228 H, e_X11_one_229 H, e_X11_one_232 H, e_X11_one_233 H, e_X11_one_234 H, e_X11_one_237 H, e_X11_one_238 H, e_X11_one_239 H, e_X11_one_242 H, e_X11_one_243 H, e_X11_one_244 H, e_X11_one_247 H, vi, vl, vr, ocr_X11_one, ocr_X11_either, oc_X11_codes, T_X11_codes, oc_X11_here, T_X11_here, oc_X11_nameOf, T_X11_nameOf, oc_X11_takes, T_X11_takes, oc_X11_within, T_X11_within, ix_push, ix_iload, ix_lload, ix_aload, ix_istore, ix_astore, ix_iinc, ix_bin, ix_div, ix_un, ix_i2l, ix_l2i, ix_lbin, ix_lsh, ix_lcmp, ix_dup, ix_dup2, ix_pop, ix_if, ix_cmp, ix_goto, ix_switch, ix_sw, ix_iret, ix_zret, ix_vret, ix_aret, ix_geti, ix_getr, ix_puti, ix_putz, ix_puts, ix_gets, ix_iald, ix_iast, ix_alen, ix_aald, ix_gval, ix_gcod, ix_bald, ix_blen, ix_sald, ix_nret, ix_math2, ix_math1, ix_acopy, ml_113, ml_114, ml_115, ml_116, ml_118, ml_119, ml_120, ml_121, ml_122, ml_123, ml_124, ml_125, ml_126, mv_0, mv_1, mv_2, mv_3, mv_4, mv_5, mB_or, Nat.add_assoc, Int32.reduceLT, Int32.reduceLE, Int32.reduceToNatClampNeg, Int32.reduceSub, Int32.reduceAdd, Nat.reduceAdd, Nat.reduceLeDiff, true_or, or_true, or_false, false_or, not_false_eq_true, not_true_eq_false, false_implies, true_implies, implies_true, and_self, mB_0, mB_01, Classical.not_not, Nat.zero_le, List.getElem?_cons_zero, List.getElem?_cons_succ, List.set_cons_zero, List.set_cons_succ, ix_nl, ix_cs, true_and, and_true, Option.toList_some, Option.toList_none, List.cons_append, List.nil_append, h4, hi1]
    rw [rdN] at hQ
    refine ⟨tp, n, u, k, _, hP, fun z => ⟨tp, n, u, k, _, hP, hcs, fun μ' F g => ?_⟩, fun z => ⟨tp, n, u, k, _, hP, ?_⟩⟩
    · have z : ¬ isDg (nx tp n a) := z
      rw [if_neg z] at hQ
      exact hQ μ' (hF.tr F) g
    · have z : isDg (nx tp n a) := z
      rw [if_pos z] at hQ
      have hlt := nx_in (isDg_ne z)
      rw [h8, nI_1]
      exact l_X11_one H hcs f (i + 1) (a + 1) _ _ (by omega) (hF.up (by simp)) (hP.set8 (by omega)) hQ
theorem rdU_0 {tp : Nat → Int32} {n u a : Nat} {cs : List Int32} (h : nx tp n a = 33 ∨ nx tp n a = 40) : rdU tp n u 0 (a, cs) = (false, a, cs) := by
  have hd : ¬ isDg (nx tp n a) := by rcases h with e | e <;> rw [e] <;> decide
  simp only [rdU, rdUg, if_neg hd, if_pos h]
theorem rdU_s {tp : Nat → Int32} {n u k a : Nat} {cs : List Int32} (h : nx tp n a = 33 ∨ nx tp n a = 40) : rdU tp n u (k + 1) (a, cs) = rdOp tp n (rdU tp n u k) (rdLv tp n (rdU tp n u k) 5) (nx tp n a) (a, cs) := by
  have hd : ¬ isDg (nx tp n a) := by rcases h with e | e <;> rw [e] <;> decide
  simp only [rdU, rdUg, if_neg hd, if_pos h]
theorem rdU_d {tp : Nat → Int32} {n u a : Nat} {cs : List Int32} (k : Nat) (h : isDg (nx tp n a)) : rdU tp n u k (a, cs) = (true, (rdN tp n 4 0 a).2, cs ++ [(rdN tp n 4 0 a).1]) := by
  cases k <;> simp only [rdU, rdUg, if_pos h]
theorem rdU_n {tp : Nat → Int32} {n u a : Nat} {cs : List Int32} (k : Nat) (h : ¬ isDg (nx tp n a)) (h1 : ¬ nx tp n a = 33) (h2 : ¬ nx tp n a = 40) : rdU tp n u k (a, cs) = rdNm tp n u (a, cs) := by
  cases k <;> simp only [rdU, rdUg, if_neg h, if_neg (show ¬ (nx tp n a = 33 ∨ nx tp n a = 40) from fun z => z.elim h1 h2)]
theorem nI_5m {k : Nat} (h : k + 1 ≤ 5) : nI (5 - k) - 1 = nI (5 - (k + 1)) := by
  have : k = 0 ∨ k = 1 ∨ k = 2 ∨ k = 3 ∨ k = 4 := by omega
  rcases this with rfl | rfl | rfl | rfl | rfl <;> decide
theorem rr_X11_one (l : Launch) (tp : Nat → Int32) (n u k dd : Nat) (TO TE : Nat → ix_M → (ix_R → Prop) → Prop) (H : ix_AllS l cX11_one 4 RX11 dd none (o_X11_one TO TE)) (hk : k ≤ 5) (hO : ∀ k', k = k' + 1 → TO = T_rd tp n u k' (rdU tp n u k') ∧ TE = T_rd tp n u k' (rdLv tp n (rdU tp n u k') 5)) (μ : ix_M) (Q : ix_R → Prop) (hT : T_rd tp n u k (rdU tp n u k) 112 μ Q) : ix_Ev (o_X11_one TO TE) Q (0, [some (vr 10 112), none, none, none], [], μ) := by
  obtain ⟨⟨b, a, cs⟩, hP, hl, hQ⟩ := hT
  have h9 := hP.2.2.1
  have h8 := hP.2.2.2.2.1.1
  have han := hP.2.2.2.2.1.2
  have h11 := hP.2.2.2.1
  have hn50 := hP.1.2.1
  simp only at h8 h11 hl han
  have h5 : nI (5 - k) = 5 ↔ k = 0 := by
    rw [fa_lit 5, nI_eq (by omega) (by decide)]
    omega
  have h1p : nI (5 - k) + 1 = nI (6 - k) := by rw [nI_1]; congr 1; omega
  have le8 : ix_cs ((none : Option ix_V).toList ++ []) ≤ 8 := Nat.le_of_ble_eq_true rfl
  have le8' : 1 + ix_cs ((none : Option ix_V).toList ++ []) ≤ 8 := Nat.le_of_ble_eq_true rfl
  simp (decide := true) only [e_X11_one_0 H, e_X11_one_1 H, e_X11_one_4 H, e_X11_one_5 H, e_X11_one_6 H, e_X11_one_8 H, e_X11_one_11 H, e_X11_one_12 H, e_X11_one_14 H, e_X11_one_17 H, e_X11_one_18 H, e_X11_one_19 H, e_X11_one_22 H, e_X11_one_23 H, e_X11_one_26 H, e_X11_one_27 H, e_X11_one_30 H, e_X11_one_31 H, e_X11_one_34 H, e_X11_one_35 H, e_X11_one_38 H, e_X11_one_41 H, e_X11_one_42 H, e_X11_one_43 H, e_X11_one_46 H, e_X11_one_47 H, e_X11_one_48 H, e_X11_one_51 H, e_X11_one_52 H, e_X11_one_53 H, e_X11_one_56 H, e_X11_one_57 H, e_X11_one_58 H, e_X11_one_61 H, e_X11_one_62 H, e_X11_one_64 H, e_X11_one_67 H, e_X11_one_68 H, e_X11_one_71 H, e_X11_one_72 H, e_X11_one_75 H, e_X11_one_78 H, e_X11_one_81 H, e_X11_one_82 H, e_X11_one_85 H, e_X11_one_86 H, e_X11_one_87 H, e_X11_one_89 H, e_X11_one_92 H, e_X11_one_95 H, e_X11_one_96 H, e_X11_one_99 H, e_X11_one_100 H, e_X11_one_103 H, e_X11_one_104 H, e_X11_one_105 H, e_X11_one_108 H, e_X11_one_109 H, e_X11_one_110 H, e_X11_one_113 H, e_X11_one_116 H, e_X11_one_117 H, e_X11_one_119 H, e_X11_one_121 H, e_X11_one_124 H, e_X11_one_127 H, e_X11_one_128 H, e_X11_one_129 H, e_X11_one_130 H, e_X11_one_132 H, e_X11_one_133 H, e_X11_one_136 H, e_X11_one_137 H, e_X11_one_140 H, e_X11_one_142 H, e_X11_one_144 H, e_X11_one_147 H, e_X11_one_150 H, e_X11_one_152 H, e_X11_one_153 H, e_X11_one_154 H, e_X11_one_155 H, e_X11_one_158 H, e_X11_one_159 H, e_X11_one_161 H, e_X11_one_162 H, e_X11_one_163 H, e_X11_one_164 H, e_X11_one_165 H, e_X11_one_168 H, e_X11_one_169 H, e_X11_one_170 H, e_X11_one_173 H, e_X11_one_176 H, e_X11_one_179 H, e_X11_one_180 H, e_X11_one_181 H, e_X11_one_184 H, e_X11_one_187 H, e_X11_one_188 H, e_X11_one_191 H, e_X11_one_192 H, e_X11_one_195 H, e_X11_one_196 H, e_X11_one_197 H, e_X11_one_200 H, e_X11_one_201 H, e_X11_one_202 H, e_X11_one_203 H, e_X11_one_206 H, e_X11_one_209 H, e_X11_one_210 H, e_X11_one_213 H, e_X11_one_214 H, e_X11_one_217 H, e_X11_one_218 H, e_X11_one_221 H, e_X11_one_222 H, e_X11_one_225 H, e_X11_one_228 H, e_X11_one_229 H, e_X11_one_232 H, e_X11_one_233 H, e_X11_one_234 H, e_X11_one_237 H, e_X11_one_238 H, e_X11_one_239 H, e_X11_one_242 H, e_X11_one_243 H, e_X11_one_244 H, e_X11_one_247 H, vi, vl, vr, ocr_X11_one, ocr_X11_either, oc_X11_codes, T_X11_codes, oc_X11_here, T_X11_here, oc_X11_nameOf, T_X11_nameOf, oc_X11_takes, T_X11_takes, oc_X11_within, T_X11_within, ix_push, ix_iload, ix_lload, ix_aload, ix_istore, ix_astore, ix_iinc, ix_bin, ix_div, ix_un, ix_i2l, ix_l2i, ix_lbin, ix_lsh, ix_lcmp, ix_dup, ix_dup2, ix_pop, ix_if, ix_cmp, ix_goto, ix_switch, ix_sw, ix_iret, ix_zret, ix_vret, ix_aret, ix_geti, ix_getr, ix_puti, ix_putz, ix_puts, ix_gets, ix_iald, ix_iast, ix_alen, ix_aald, ix_gval, ix_gcod, ix_bald, ix_blen, ix_sald, ix_nret, ix_math2, ix_math1, ix_acopy, ml_113, ml_114, ml_115, ml_116, ml_118, ml_119, ml_120, ml_121, ml_122, ml_123, ml_124, ml_125, ml_126, mv_0, mv_1, mv_2, mv_3, mv_4, mv_5, mB_or, Nat.add_assoc, Int32.reduceLT, Int32.reduceLE, Int32.reduceToNatClampNeg, Int32.reduceSub, Int32.reduceAdd, Nat.reduceAdd, Nat.reduceLeDiff, true_or, or_true, or_false, false_or, not_false_eq_true, not_true_eq_false, false_implies, true_implies, implies_true, and_self, mB_0, mB_01, Classical.not_not, Nat.zero_le, List.getElem?_cons_zero, List.getElem?_cons_succ, List.set_cons_zero, List.set_cons_succ, ix_nl, ix_cs, true_and, and_true, Option.toList_some, Option.toList_none, List.cons_append, List.nil_append, h9, h8, h5, h1p, ix_up_k, PsC.e112, nI_1]
  have hne : ∀ c : Int32, c ≠ -1 → hr tp n (b, a, cs) = c → b = true := by
    intro c hc h
    cases b
    · exact absurd h.symm hc
    · rfl
  have open1 : (nx tp n a = 33 ∨ nx tp n a = 40) → b = true → (k = 0 → Q (none, ix_up μ 112 11 1)) := by
    rintro c rfl rfl
    have e : lf (rdU tp n u 0) (true, a, cs) = (false, a, cs) := rdU_0 c
    rw [e] at hQ
    exact hQ _ (Fx.rf.up (by simp)) (hP.set11 false rfl)
  refine ⟨tp, n, u, k, (b, a, cs), hP, fun c1 => ?_, fun c1 => ⟨fun c2 => ?_, fun c2 => ?_⟩⟩
  · have hb := hne 33 (by decide) c1
    have c3 : nx tp n a = 33 := by rw [hr, if_pos hb] at c1; exact c1
    refine ⟨open1 (Or.inl c3) hb, fun hk0 => ⟨fun _ => ?_, fun z => absurd c1 z⟩⟩
    obtain ⟨k', rfl⟩ := Nat.exists_eq_succ_of_ne_zero hk0
    subst hb
    obtain ⟨rfl, rfl⟩ := hO k' rfl
    have hlt := nx_in (tp := tp) (n := n) (a := a) (by rw [c3]; decide)
    have e : lf (rdU tp n u (k' + 1)) (true, a, cs) = rdOp tp n (rdU tp n u k') (rdLv tp n (rdU tp n u k') 5) (nx tp n a) (a, cs) := rdU_s (Or.inl c3)
    rw [e, c3, rdOp, if_pos rfl] at hQ
    obtain ⟨u1, u2, u3, u4⟩ := rdU_ok (tp := tp) (n := n) (u := u) k' (a + 1, cs) (by simp only; omega)
    simp only at u1 u2 u3 u4 hQ
    refine ⟨(true, a + 1, cs), ?_, by simp only; omega, fun μ1 F1 g1 => ⟨le8, tp, n, u, k', rdU tp n u k' (a + 1, cs), g1, by omega, fun μ2 F2 g2 => ?_⟩⟩
    · exact (((hP.set11 true rfl).set9 (k' := k') (by congr 1; omega)).set8 (a := a + 1) (by omega))
    · show Q (none, ix_up μ2 112 9 (μ2 112 9 - 1))
      rw [g2.2.2.1, nI_5m hk]
      refine hQ _ ((((((Fx.rf.up (by simp)).up (by simp)).up (by simp)).tr F1).tr F2).up (by simp)) ?_
      have g3 := g2.set9 (k' := k' + 1) rfl
      unfold cd at g3
      cases hq : (rdU tp n u k' (a + 1, cs)).1
      · simp only [hq, Bool.false_eq_true, if_false] at g3 ⊢
        rw [← hq]
        exact g3
      · simp only [hq, if_true] at g3 ⊢
        exact g3
  · have hb := hne 40 (by decide) c2
    have c3 : nx tp n a = 40 := by rw [hr, if_pos hb] at c2; exact c2
    refine ⟨open1 (Or.inr c3) hb, fun hk0 => ⟨fun z => absurd z c1, fun _ => ?_⟩⟩
    obtain ⟨k', rfl⟩ := Nat.exists_eq_succ_of_ne_zero hk0
    subst hb
    obtain ⟨rfl, rfl⟩ := hO k' rfl
    have hlt := nx_in (tp := tp) (n := n) (a := a) (by rw [c3]; decide)
    have e : lf (rdU tp n u (k' + 1)) (true, a, cs) = rdOp tp n (rdU tp n u k') (rdLv tp n (rdU tp n u k') 5) (nx tp n a) (a, cs) := rdU_s (Or.inr c3)
    rw [e, c3, rdOp, if_neg (by decide)] at hQ
    obtain ⟨u1, u2, u3, u4⟩ := rdLv_ok (tp := tp) (rdU_ok (tp := tp) (n := n) (u := u) k') 5 (a + 1, cs) (by simp only; omega)
    simp only at u1 u2 u3 u4 hQ
    refine ⟨(true, a + 1, cs), ?_, by simp only; omega, fun μ1 F1 g1 => ⟨le8', tp, n, u, k', rdLv tp n (rdU tp n u k') 5 (a + 1, cs), g1, fun μ2 F2 g2 => ?_⟩⟩
    · exact (((hP.set11 true rfl).set9 (k' := k') (by congr 1; omega)).set8 (a := a + 1) (by omega))
    · have F3 := ((((Fx.rf (L := [112, 118]) (μ := μ)).up (k := 112) (j := 11) (v := 0) (by simp)).up (k := 112) (j := 9) (v := nI (6 - (k' + 1))) (by simp)).up (k := 112) (j := 8) (v := nI (a + 1)) (by simp))
      generalize hr1 : rdLv tp n (rdU tp n u k') 5 (a + 1, cs) = r at g1 g2 hQ u1 u2 u3 u4
      obtain ⟨ok, a1, cs1⟩ := r
      simp only at hQ u1 u2 u3 u4
      have g9 := g2.2.2.1
      refine ⟨fun z => ?_, fun z => ?_⟩
      · show Q (none, ix_up (ix_up μ2 112 11 1) 112 9 (μ2 112 9 - 1))
        rw [g9, nI_5m hk]
        refine hQ _ ((((F3.tr F1).tr F2).up (by simp)).up (by simp)) ?_
        rw [tk, if_neg z] at g2
        have g3 := (g2.set11 false rfl).set9 (k' := k' + 1) rfl
        cases ok
        · exact g3
        · have z : ¬ nx tp n a1 = 41 := z
          simp only [if_neg z, if_true]
          exact g3
      · show Q (none, ix_up (ix_up μ2 112 11 0) 112 9 (μ2 112 9 - 1))
        rw [g9, nI_5m hk]
        refine hQ _ ((((F3.tr F1).tr F2).up (by simp)).up (by simp)) ?_
        rw [tk, if_pos z] at g2
        have g3 := (g2.set11 true rfl).set9 (k' := k' + 1) rfl
        cases ok
        · exact absurd z (show ¬ (-1 : Int32) = 41 by decide)
        · have z : nx tp n a1 = 41 := z
          simp only [if_pos z, if_true]
          exact g3
  · cases b
    · have e : hr tp n (false, a, cs) = -1 := rfl
      have hq := hQ _ (Fx.rf.up (by simp)) (hP.set11 false (x := 1) rfl)
      rw [e]
      exact ⟨fun _ => ⟨fun z => absurd z (by decide), fun _ => ⟨fun _ => hq, fun _ => hq⟩⟩, fun z => absurd z (by decide)⟩
    · have e : hr tp n (true, a, cs) = nx tp n a := rfl
      have h110 : μ 112 11 = 0 := h11
      rw [e] at c1 c2 ⊢
      refine ⟨fun z => ⟨fun z2 => ⟨u, hP.2.1.1, hP.2.1.2, fun _ => ⟨fun z3 => ?_, fun z3 => ?_⟩, fun y => absurd h110 y⟩, fun z2 => ?_⟩, fun z => ?_⟩
      · have e2 : lf (rdU tp n u k) (true, a, cs) = (true, a + 1, cs ++ [10000 + mName u (nx tp n a)]) := by
          show rdU tp n u k (a, cs) = _
          rw [rdU_n k z c1 c2, rdNm, if_neg (Int32.not_lt.mpr z3)]
        rw [e2] at hQ
        have hlt := nx_in (tp := tp) (n := n) (a := a) (by intro y; rw [y] at z2; exact absurd z2 (by decide))
        refine ⟨tp, n, u, k, (true, a, cs), hP.set11 true rfl, by simp only; omega, fun μ2 F2 g2 => ?_⟩
        have g8 := g2.2.2.2.2.1.1
        have g8 : μ2 112 8 = nI a := g8
        rw [g8, nI_1]
        exact hQ _ (((Fx.rf.up (by simp)).tr F2).up (by simp)) (g2.set8 (a := a + 1) (by omega))
      · have e2 : lf (rdU tp n u k) (true, a, cs) = (false, a, cs) := by
          show rdU tp n u k (a, cs) = _
          rw [rdU_n k z c1 c2, rdNm, if_pos (Int32.not_le.mp z3)]
        rw [e2] at hQ
        exact hQ _ (Fx.rf.up (by simp)) (hP.set11 false rfl)
      · have e2 : lf (rdU tp n u k) (true, a, cs) = (false, a, cs) := by
          show rdU tp n u k (a, cs) = _
          rw [rdU_n k z c1 c2, rdNm, if_pos]
          rcases mName_of u (nx tp n a) with y | ⟨-, y⟩
          · simp only [y]
            decide
          · have hlt := nx_in y
            obtain ⟨c, hc, hc2⟩ := hP.1.2.2.2.1 a hlt
            rw [nx, if_pos hlt, hc2] at z2
            exact absurd (nI_pos' (by omega)) z2
        rw [e2] at hQ
        have hq := hQ _ (Fx.rf.up (by simp)) (hP.set11 false (x := 1) rfl)
        exact ⟨fun _ => hq, fun _ => hq⟩
      · have e2 : lf (rdU tp n u k) (true, a, cs) = (true, (rdN tp n 4 0 a).2, cs ++ [(rdN tp n 4 0 a).1]) := rdU_d k z
        rw [e2] at hQ
        exact l_X11_one H (by omega) 4 0 a 0 μ rfl Fx.rf hP hQ
theorem k0_X11_one (l : Launch) (tp : Nat → Int32) (n u d : Nat) (hd : 6 ≤ d) : ix_Ct l yX11_one cX11_one 4 none d sh_X11_one (T_rd tp n u 0 (rdU tp n u 0)) := by
  have H := a_X11_one l d hd (d_X11_one := 0) ct_no (by omega) mo_no (d_X11_either := 0) ct_no (by omega) mo_no
  refine ix_ct H rfl (by decide) (fun _ => Nat.le_of_ble_eq_true rfl) (fun o μ Q hok hT => ?_)
  have ok_o := ix_ok_at (hok (vr 10 o) (by simp [sh_X11_one])) (by decide) (by decide)
  obtain rfl := ok_10 o ok_o.1 ok_o.2
  exact rr_X11_one l tp n u 0 d _ _ H (by decide) (fun k' z => absurd z (by omega)) μ Q hT
theorem k1_X11_one (l : Launch) (tp : Nat → Int32) (n u k d : Nat) (hk : k + 1 ≤ 5) (hd : 6 ≤ d) (hO : ix_Ct l yX11_one cX11_one 4 none d sh_X11_one (T_rd tp n u k (rdU tp n u k))) (hE : ix_Ct l yX11_either cX11_either 1 none (d + 5) sh_X11_either (T_rd tp n u k (rdLv tp n (rdU tp n u k) 5))) : ix_Ct l yX11_one cX11_one 4 none (d + 6) sh_X11_one (T_rd tp n u (k + 1) (rdU tp n u (k + 1))) := by
  have H := a_X11_one l (d + 6) (by omega) hO (by omega) (mo_rd tp n u k _) hE (by omega) (mo_rd tp n u k _)
  refine ix_ct H rfl (by decide) (fun _ => Nat.le_of_ble_eq_true rfl) (fun o μ Q hok hT => ?_)
  have ok_o := ix_ok_at (hok (vr 10 o) (by simp [sh_X11_one])) (by decide) (by decide)
  obtain rfl := ok_10 o ok_o.1 ok_o.2
  refine rr_X11_one l tp n u (k + 1) (d + 6) _ _ H hk (fun k' z => ?_) μ Q hT
  have z : k = k' := by omega
  rw [z]
  exact ⟨rfl, rfl⟩
theorem kE_X11_either (l : Launch) (tp : Nat → Int32) (n u k d : Nat) (hd : 6 ≤ d) (hO : ix_Ct l yX11_one cX11_one 4 none d sh_X11_one (T_rd tp n u k (rdU tp n u k))) : ix_Ct l yX11_either cX11_either 1 none (d + 5) sh_X11_either (T_rd tp n u k (rdLv tp n (rdU tp n u k) 5)) := by
  have hU := rdU_ok (tp := tp) (n := n) (u := u) k
  generalize rdU tp n u k = U at hU hO ⊢
  have h0 : ix_Ct l yX11_one cX11_one 4 none d sh_X11_one (T_rd tp n u k (rdLv tp n U 0)) := by
    rw [rdLv]
    exact hO
  have h1 := c_X11_product l tp n u k d U hU (by omega) h0
  have h2 := c_X11_sum l tp n u k (d + 1) U hU (by omega) h1
  have h3 := c_X11_compared l tp n u k (d + 2) U hU (by omega) h2
  have h4 := c_X11_both l tp n u k (d + 3) U hU (by omega) h3
  exact c_X11_either l tp n u k (d + 4) U hU (by omega) h4
theorem k_X11_one (l : Launch) (tp : Nat → Int32) (n u : Nat) : ∀ k, k ≤ 5 → ix_Ct l yX11_one cX11_one 4 none (6 + 6 * k) sh_X11_one (T_rd tp n u k (rdU tp n u k))
  | 0, _ => k0_X11_one l tp n u 6 (by decide)
  | k + 1, h => k1_X11_one l tp n u k (6 + 6 * k) h (by omega) (k_X11_one l tp n u k (by omega)) (kE_X11_either l tp n u k (6 + 6 * k) (by omega) (k_X11_one l tp n u k (by omega)))
/-- either, from the beginning of a text -/
def T_X11_either : Nat → ix_M → (ix_R → Prop) → Prop := fun o μ Q => ∃ tp n u, T_rd tp n u 5 (rdLv tp n (rdU tp n u 5) 5) o μ Q
theorem mo_X11_either : ∀ (x : Nat) (μ : ix_M) (Q Q' : ix_R → Prop), (∀ r, Q r → Q' r) → T_X11_either x μ Q → T_X11_either x μ Q' := fun x μ Q Q' h ⟨tp, n, u, z⟩ => ⟨tp, n, u, mo_rd tp n u 5 _ x μ Q Q' h z⟩
theorem k_X11_either (l : Launch) : ix_Ct l yX11_either cX11_either 1 none 41 sh_X11_either T_X11_either := by
  intro E x μ Q h1 h2 ⟨tp, n, u, h3⟩
  exact kE_X11_either l tp n u 5 36 (by decide) (k_X11_one l tp n u 5 (by decide)) E x μ Q h1 h2 h3
