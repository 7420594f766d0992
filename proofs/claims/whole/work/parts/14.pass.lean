/-! ===== a MINUTE, as a function of a water; Water.pass ===== -/
def wok (r i : Nat) : Bool := (r == 0 && (7 ≤ i && i < 10)) || ((r == 1 || r == 2) && i < 16) || (r == 3 && i < 6) || ((4 ≤ r && r ≤ 7) && i < 8)
def wv (μ : ix_M) (w : Nat) : Nat → Nat → Int32 := fun r i => if wok r i = true then μ (w + r) i else 0
theorem wv_at {μ : ix_M} {w r i : Nat} (h : wok r i = true) : wv μ w r i = μ (w + r) i := if_pos h
theorem wok_2 {i : Nat} (h : i < 16) : wok 2 i = true := by simp [wok, h]
theorem wok_1 {i : Nat} (h : i < 16) : wok 1 i = true := by simp [wok, h]
theorem wok_3 {i : Nat} (h : i < 6) : wok 3 i = true := by simp [wok, h]
theorem wok_4 {i : Nat} (h : i < 8) : wok 4 i = true := by simp [wok, h]
theorem wok_5 {i : Nat} (h : i < 8) : wok 5 i = true := by simp [wok, h]
theorem wok_6 {i : Nat} (h : i < 8) : wok 6 i = true := by simp [wok, h]
theorem wok_7 {i : Nat} (h : i < 8) : wok 7 i = true := by simp [wok, h]
theorem wok_07 : wok 0 7 = true := rfl
theorem wok_08 : wok 0 8 = true := rfl
theorem wok_09 : wok 0 9 = true := rfl
theorem wv_07 (μ : ix_M) (w : Nat) : wv μ w 0 7 = μ w 7 := wv_at (r := 0) (i := 7) rfl
theorem wv_08 (μ : ix_M) (w : Nat) : wv μ w 0 8 = μ w 8 := wv_at (r := 0) (i := 8) rfl
theorem wv_09 (μ : ix_M) (w : Nat) : wv μ w 0 9 = μ w 9 := wv_at (r := 0) (i := 9) rfl
def mMax0 (x : Int32) : Int32 := if 0 < x then x else 0
abbrev WV : Type := Nat → Nat → Int32
def pN (v : WV) : Nat := (v 0 7).toNatClampNeg
def pL (v : WV) : Int32 := mLight (v 0 8) (v 0 9)
def pSt (ds : List Int32) (v : WV) : Nat → Int32 := fun i => mHeld (if pL v = 0 then v 2 i + lawS ds (v 2 i) (v 1 i) (rem (v 0 8) 20) else v 2 i - 7)
def pDp (v : WV) (s : (Nat → Int32) × (Nat → Int32)) (n : Nat) : (Nat → Int32) × (Nat → Int32) := match n with
  | 0 => s
  | n + 1 => (upd (pDp v s n).1 (v 6 n).toNatClampNeg ((pDp v s n).1 (v 6 n).toNatClampNeg - mTake (mDips (v 4 n) (v 5 n) ((pDp v s n).1 (v 6 n).toNatClampNeg)) ((pDp v s n).1 (v 6 n).toNatClampNeg) ((pDp v s n).2 n)),
      upd (pDp v s n).2 n ((pDp v s n).2 n + mTake (mDips (v 4 n) (v 5 n) ((pDp v s n).1 (v 6 n).toNatClampNeg)) ((pDp v s n).1 (v 6 n).toNatClampNeg) ((pDp v s n).2 n)))
def pWay (v : WV) : Int32 := v 3 (rem (v 0 8) 6).toNatClampNeg
def pAt1 (led way : Int32) (v : WV) (b : Nat) : Int32 := mBes (v 6 b) (if nI b = led then way else mGoes (v 4 b) (v 5 b) (pWay v) (v 0 8))
def pAt (led way : Int32) (v : WV) (b : Nat) : Int32 := if b < pN v then pAt1 led way v b else v 6 b
def pBa1 (dl : List Int32) (v : WV) (ba : Nat → Int32) (b : Nat) : Int32 := mMax0 (ba b - lawL dl (mLeaks (v 4 b) (v 5 b)) (ba b) (pL v))
def pBa (dl : List Int32) (v : WV) (ba : Nat → Int32) (b : Nat) : Int32 := if b < pN v then pBa1 dl v ba b else ba b
def pDD (ds : List Int32) (v : WV) : (Nat → Int32) × (Nat → Int32) := pDp v (pSt ds v, v 7) (pN v)
def pV (ds dl : List Int32) (led way : Int32) (v : WV) : WV := fun r i => if wok r i = true then (if r = 0 then (if i = 8 then v 0 8 + 1 else v 0 i) else if r = 2 then (pDD ds v).1 i else if r = 6 then pAt led way v i else if r = 7 then pBa dl v (pDD ds v).2 i else v r i) else 0
/-- what a MINUTE wants of a water -/
def WOk (v : WV) : Prop := (∃ n : Nat, n ≤ 8 ∧ v 0 7 = nI n) ∧ (∃ n : Nat, n < 30000 ∧ v 0 8 = nI n) ∧ ∀ b, b < 8 → ∃ c : Nat, c < 16 ∧ v 6 b = nI c
theorem TxtOk.fx {μ μ1 : ix_M} {t : Nat} {ds : List Int32} (h : TxtOk μ t ds) (h1 : μ1 (t + 1) = μ (t + 1)) (h2 : μ1 (t + 2) = μ (t + 2)) : TxtOk μ1 t ds := by
  obtain ⟨⟨a, b, c⟩, d⟩ := h
  exact ⟨⟨by rw [h1]; exact a, b, fun j hj => by rw [h2]; exact c j hj⟩, d⟩
theorem rem6 {n : Nat} (h : n < 2 ^ 31) : rem (nI n) 6 = nI (n % 6) := pk_rem (d := 6) h (by decide) (by decide)
theorem rem20 {n : Nat} (h : n < 2 ^ 31) : rem (nI n) 20 = nI (n % 20) := pk_rem (d := 20) h (by decide) (by decide)
def T_X9_pass : Nat × Nat × Int32 × Int32 → ix_M → (ix_R → Prop) → Prop := fun (w, q, led, way) μ Q => WOk (wv μ w) ∧ ∃ ds dl, TxtOk μ (q + 1) ds ∧ TxtOk μ (q + 5) dl ∧ ∀ μ', Fx [w, w + 2, w + 6, w + 7, q + 4, q + 8] μ μ' → wv μ' w = pV ds dl led way (wv μ w) → Q (none, μ')
def sh_X9_pass (x : Nat × Nat × Int32 × Int32) : List ix_V := [vr 8 x.1, vr 0 x.2.1, vi x.2.2.1, vi x.2.2.2]
theorem mo_X9_pass (x : Nat × Nat × Int32 × Int32) (μ : ix_M) (Q Q' : ix_R → Prop) (h : ∀ r, Q r → Q' r) (hT : T_X9_pass x μ Q) : T_X9_pass x μ Q' := by
  obtain ⟨a0, a1, a2, a3⟩ := x
  (obtain ⟨h0, ds, dl, h1, h2, h3⟩ := hT; exact ⟨h0, ds, dl, h1, h2, fun μ' z z2 => h _ (h3 μ' z z2)⟩)
def oc_X9_pass (n : Nat) : ix_Op := fun k _ ls st μ => match st with
  | .inl a3 :: .inl a2 :: .inr (.inr (t1, a1)) :: .inr (.inr (t0, a0)) :: r => t0 = 8 ∧ t1 = 0 ∧ ix_cs r ≤ 8 ∧ T_X9_pass (a0, a1, a2, a3) μ (fun q => k (n, ls, q.1.toList ++ r, q.2))
  | _ => False
theorem oc_X9_pass_s {l : Launch} {cc : ByteArray} {nL : Nat} {own : String} {d : Nat} {rt : Option FieldType} {pc n : Nat} (h : ix_S l cc nL own d rt pc (ix_call 4 sh_X9_pass T_X9_pass n)) : ix_S l cc nL own d rt pc (oc_X9_pass n) := by
  refine h.by (fun k Q ls st μ h => ?_) (fun k k' Q ls st μ hk h => ?_)
  · unfold oc_X9_pass at h
    split at h
    · rename_i a3 a2 t1 a1 t0 a0 r
      obtain ⟨rfl, rfl, h1, h2⟩ := h
      exact ⟨h1, (a0, a1, a2, a3), rfl, _, h2, fun r h => h⟩
    · exact h.elim
  · unfold oc_X9_pass at h ⊢
    split at h
    · obtain ⟨rfl, rfl, h1, h2⟩ := h
      exact ⟨rfl, rfl, h1, mo_X9_pass _ _ _ _ (fun q hq => hk _ hq) h2⟩
    · exact h.elim
def o_X9_pass : List (Nat × ix_Op) := [
  (0, ix_aload 0 1),
  (1, oc_X9_light 4),
  (4, ix_push (vi 1) 5),
  (5, ix_cmp (fun x y => x = y) 8 12),
  (8, ix_push (vi 1) 9),
  (9, ix_goto 13),
  (12, ix_push (vi 0) 13),
  (13, ix_istore 4 15),
  (15, ix_push (vi 0) 16),
  (16, ix_istore 5 18),
  (18, ix_iload 5 20),
  (20, ix_push (vi 16) 22),
  (22, ix_cmp (fun x y => y ≤ x) 74 25),
  (25, ix_aload 0 26),
  (26, ix_getr 8 20 (fun k => k + 2) 29),
  (29, ix_iload 5 31),
  (31, ix_iload 4 33),
  (33, ix_if (fun x => x = 0) 49 36),
  (36, ix_aload 0 37),
  (37, ix_getr 8 20 (fun k => k + 2) 40),
  (40, ix_iload 5 42),
  (42, ix_iald 43),
  (43, ix_push (vi 7) 45),
  (45, ix_bin (fun x y => x - y) 46),
  (46, ix_goto 64),
  (49, ix_aload 0 50),
  (50, ix_getr 8 20 (fun k => k + 2) 53),
  (53, ix_iload 5 55),
  (55, ix_iald 56),
  (56, ix_aload 0 57),
  (57, ix_iload 5 59),
  (59, ix_aload 1 60),
  (60, oc_X9_settlesOn 63),
  (63, ix_bin (fun x y => x + y) 64),
  (64, oc_X10_held 67),
  (67, ix_iast 68),
  (68, ix_iinc 5 1 71),
  (71, ix_goto 18),
  (74, ix_push (vi 0) 75),
  (75, ix_istore 5 77),
  (77, ix_iload 5 79),
  (79, ix_aload 0 80),
  (80, ix_geti 8 7 83),
  (83, ix_cmp (fun x y => y ≤ x) 98 86),
  (86, ix_aload 0 87),
  (87, ix_iload 5 89),
  (89, oc_X9_dip 92),
  (92, ix_iinc 5 1 95),
  (95, ix_goto 77),
  (98, ix_push (vi 0) 99),
  (99, ix_istore 5 101),
  (101, ix_iload 5 103),
  (103, ix_aload 0 104),
  (104, ix_geti 8 7 107),
  (107, ix_cmp (fun x y => y ≤ x) 149 110),
  (110, ix_aload 0 111),
  (111, ix_getr 8 20 (fun k => k + 6) 114),
  (114, ix_iload 5 116),
  (116, ix_aload 0 117),
  (117, ix_getr 8 20 (fun k => k + 6) 120),
  (120, ix_iload 5 122),
  (122, ix_iald 123),
  (123, ix_iload 5 125),
  (125, ix_iload 2 126),
  (126, ix_cmp (fun x y => x = y) 129 133),
  (129, ix_iload 3 130),
  (130, ix_goto 139),
  (133, ix_aload 0 134),
  (134, ix_iload 5 136),
  (136, oc_X9_goesOf 139),
  (139, oc_X9_beside 142),
  (142, ix_iast 143),
  (143, ix_iinc 5 1 146),
  (146, ix_goto 101),
  (149, ix_push (vi 0) 150),
  (150, ix_istore 5 152),
  (152, ix_iload 5 154),
  (154, ix_aload 0 155),
  (155, ix_geti 8 7 158),
  (158, ix_cmp (fun x y => y ≤ x) 193 161),
  (161, ix_aload 0 162),
  (162, ix_getr 8 20 (fun k => k + 7) 165),
  (165, ix_iload 5 167),
  (167, ix_push (vi 0) 168),
  (168, ix_aload 0 169),
  (169, ix_getr 8 20 (fun k => k + 7) 172),
  (172, ix_iload 5 174),
  (174, ix_iald 175),
  (175, ix_aload 0 176),
  (176, ix_iload 5 178),
  (178, ix_aload 1 179),
  (179, oc_X9_lostOf 182),
  (182, ix_bin (fun x y => x - y) 183),
  (183, ix_math2 (fun x y => if x < y then y else x) 186),
  (186, ix_iast 187),
  (187, ix_iinc 5 1 190),
  (190, ix_goto 152),
  (193, ix_aload 0 194),
  (194, ix_dup 195),
  (195, ix_geti 8 8 198),
  (198, ix_push (vi 1) 199),
  (199, ix_bin (fun x y => x + y) 200),
  (200, ix_puti 8 8 203),
  (203, ix_vret)]
set_option maxRecDepth 20000 in
theorem a_X9_pass (l : Launch) : ix_AllS l cX9_pass 6 RX9 5 none o_X9_pass :=
  .cons (ix_s_aload_n dX9_pass_0 rfl) <|
  .cons (oc_X9_light_s (ix_s_callv (t := 8) (k_X9_light l) (by decide) (by decide) tw_406 tw_3 tw_403 tw_404 tw_405 ⟨by decide, by decide, by decide +kernel⟩ (by decide) rfl rfl (fun _ => ⟨_, _, rfl, rfl⟩) dX9_pass_1)) <|
  .cons (ix_s_iconst dX9_pass_4 (by decide +kernel)) <|
  .cons (ix_s_cmp_ne dX9_pass_5 (by decide)) <|
  .cons (ix_s_iconst dX9_pass_8 (by decide +kernel)) <|
  .cons (ix_s_goto dX9_pass_9 (by decide)) <|
  .cons (ix_s_iconst dX9_pass_12 (by decide +kernel)) <|
  .cons (ix_s_istore dX9_pass_13 (by decide)) <|
  .cons (ix_s_iconst dX9_pass_15 (by decide +kernel)) <|
  .cons (ix_s_istore dX9_pass_16 (by decide)) <|
  .cons (ix_s_iload dX9_pass_18) <|
  .cons (ix_s_bipush dX9_pass_20 (by decide +kernel)) <|
  .cons (ix_s_cmp_ge dX9_pass_22 (by decide)) <|
  .cons (ix_s_aload_n dX9_pass_25 rfl) <|
  .cons (ix_s_getr (j := 1) tu_X9 rfl (by decide) (by decide) tw_42 rfl ts_8_1_r dX9_pass_26) <|
  .cons (ix_s_iload dX9_pass_29) <|
  .cons (ix_s_iload dX9_pass_31) <|
  .cons (ix_s_if_eq dX9_pass_33 (by decide)) <|
  .cons (ix_s_aload_n dX9_pass_36 rfl) <|
  .cons (ix_s_getr (j := 1) tu_X9 rfl (by decide) (by decide) tw_42 rfl ts_8_1_r dX9_pass_37) <|
  .cons (ix_s_iload dX9_pass_40) <|
  .cons (ix_s_iald dX9_pass_42) <|
  .cons (ix_s_bipush dX9_pass_43 (by decide +kernel)) <|
  .cons (ix_s_isub dX9_pass_45) <|
  .cons (ix_s_goto dX9_pass_46 (by decide)) <|
  .cons (ix_s_aload_n dX9_pass_49 rfl) <|
  .cons (ix_s_getr (j := 1) tu_X9 rfl (by decide) (by decide) tw_42 rfl ts_8_1_r dX9_pass_50) <|
  .cons (ix_s_iload dX9_pass_53) <|
  .cons (ix_s_iald dX9_pass_55) <|
  .cons (ix_s_aload_n dX9_pass_56 rfl) <|
  .cons (ix_s_iload dX9_pass_57) <|
  .cons (ix_s_aload_n dX9_pass_59 rfl) <|
  .cons (oc_X9_settlesOn_s (ix_s_callv (t := 8) (k_X9_settlesOn l) (by decide) (by decide) tw_311 tw_3 tw_600 tw_309 tw_310 ⟨by decide, by decide, by decide +kernel⟩ (by decide) rfl rfl (fun _ => ⟨_, _, rfl, rfl⟩) dX9_pass_60)) <|
  .cons (ix_s_iadd dX9_pass_63) <|
  .cons (oc_X10_held_s (ix_s_callsN (host := "IndigoBoats") (k_X10_held l) (by decide) (by decide) tw_326 tw_1 (by decide +kernel) tw_325 ⟨by decide, by decide, by decide +kernel⟩ (fun _ => rfl) dX9_pass_64)) <|
  .cons (ix_s_iast dX9_pass_67) <|
  .cons (ix_s_iinc dX9_pass_68 (by decide +kernel) (by decide)) <|
  .cons (ix_s_goto dX9_pass_71 (by decide)) <|
  .cons (ix_s_iconst dX9_pass_74 (by decide +kernel)) <|
  .cons (ix_s_istore dX9_pass_75 (by decide)) <|
  .cons (ix_s_iload dX9_pass_77) <|
  .cons (ix_s_aload_n dX9_pass_79 rfl) <|
  .cons (ix_s_geti (j := 7) tu_X9 rfl (by decide) (by decide) tw_56 rfl ts_8_7_i dX9_pass_80) <|
  .cons (ix_s_cmp_ge dX9_pass_83 (by decide)) <|
  .cons (ix_s_aload_n dX9_pass_86 rfl) <|
  .cons (ix_s_iload dX9_pass_87) <|
  .cons (oc_X9_dip_s (ix_s_callv (t := 8) (k_X9_dip l) (by decide) (by decide) tw_605 tw_3 tw_602 tw_603 tw_604 ⟨by decide, by decide, by decide +kernel⟩ (by decide) rfl rfl (fun _ => ⟨_, _, rfl, rfl⟩) dX9_pass_89)) <|
  .cons (ix_s_iinc dX9_pass_92 (by decide +kernel) (by decide)) <|
  .cons (ix_s_goto dX9_pass_95 (by decide)) <|
  .cons (ix_s_iconst dX9_pass_98 (by decide +kernel)) <|
  .cons (ix_s_istore dX9_pass_99 (by decide)) <|
  .cons (ix_s_iload dX9_pass_101) <|
  .cons (ix_s_aload_n dX9_pass_103 rfl) <|
  .cons (ix_s_geti (j := 7) tu_X9 rfl (by decide) (by decide) tw_56 rfl ts_8_7_i dX9_pass_104) <|
  .cons (ix_s_cmp_ge dX9_pass_107 (by decide)) <|
  .cons (ix_s_aload_n dX9_pass_110 rfl) <|
  .cons (ix_s_getr (j := 5) tu_X9 rfl (by decide) (by decide) tw_50 rfl ts_8_5_r dX9_pass_111) <|
  .cons (ix_s_iload dX9_pass_114) <|
  .cons (ix_s_aload_n dX9_pass_116 rfl) <|
  .cons (ix_s_getr (j := 5) tu_X9 rfl (by decide) (by decide) tw_50 rfl ts_8_5_r dX9_pass_117) <|
  .cons (ix_s_iload dX9_pass_120) <|
  .cons (ix_s_iald dX9_pass_122) <|
  .cons (ix_s_iload dX9_pass_123) <|
  .cons (ix_s_iload_n dX9_pass_125 rfl) <|
  .cons (ix_s_cmp_ne dX9_pass_126 (by decide)) <|
  .cons (ix_s_iload_n dX9_pass_129 rfl) <|
  .cons (ix_s_goto dX9_pass_130 (by decide)) <|
  .cons (ix_s_aload_n dX9_pass_133 rfl) <|
  .cons (ix_s_iload dX9_pass_134) <|
  .cons (oc_X9_goesOf_s (ix_s_callv (t := 8) (k_X9_goesOf l) (by decide) (by decide) tw_380 tw_3 tw_608 tw_378 tw_379 ⟨by decide, by decide, by decide +kernel⟩ (by decide) rfl rfl (fun _ => ⟨_, _, rfl, rfl⟩) dX9_pass_136)) <|
  .cons (oc_X9_beside_s (ix_s_calls (k_X9_beside l) (by decide) (by decide) tw_611 tw_3 tw_609 tw_610 ⟨by decide, by decide, by decide +kernel⟩ (fun _ => rfl) dX9_pass_139)) <|
  .cons (ix_s_iast dX9_pass_142) <|
  .cons (ix_s_iinc dX9_pass_143 (by decide +kernel) (by decide)) <|
  .cons (ix_s_goto dX9_pass_146 (by decide)) <|
  .cons (ix_s_iconst dX9_pass_149 (by decide +kernel)) <|
  .cons (ix_s_istore dX9_pass_150 (by decide)) <|
  .cons (ix_s_iload dX9_pass_152) <|
  .cons (ix_s_aload_n dX9_pass_154 rfl) <|
  .cons (ix_s_geti (j := 7) tu_X9 rfl (by decide) (by decide) tw_56 rfl ts_8_7_i dX9_pass_155) <|
  .cons (ix_s_cmp_ge dX9_pass_158 (by decide)) <|
  .cons (ix_s_aload_n dX9_pass_161 rfl) <|
  .cons (ix_s_getr (j := 6) tu_X9 rfl (by decide) (by decide) tw_52 rfl ts_8_6_r dX9_pass_162) <|
  .cons (ix_s_iload dX9_pass_165) <|
  .cons (ix_s_iconst dX9_pass_167 (by decide +kernel)) <|
  .cons (ix_s_aload_n dX9_pass_168 rfl) <|
  .cons (ix_s_getr (j := 6) tu_X9 rfl (by decide) (by decide) tw_52 rfl ts_8_6_r dX9_pass_169) <|
  .cons (ix_s_iload dX9_pass_172) <|
  .cons (ix_s_iald dX9_pass_174) <|
  .cons (ix_s_aload_n dX9_pass_175 rfl) <|
  .cons (ix_s_iload dX9_pass_176) <|
  .cons (ix_s_aload_n dX9_pass_178 rfl) <|
  .cons (oc_X9_lostOf_s (ix_s_callv (t := 8) (k_X9_lostOf l) (by decide) (by decide) tw_401 tw_3 tw_612 tw_399 tw_400 ⟨by decide, by decide, by decide +kernel⟩ (by decide) rfl rfl (fun _ => ⟨_, _, rfl, rfl⟩) dX9_pass_179)) <|
  .cons (ix_s_isub dX9_pass_182) <|
  .cons (ix_s_mmax tw_613 tw_103 tw_7 tw_104 (by decide) dX9_pass_183) <|
  .cons (ix_s_iast dX9_pass_186) <|
  .cons (ix_s_iinc dX9_pass_187 (by decide +kernel) (by decide)) <|
  .cons (ix_s_goto dX9_pass_190 (by decide)) <|
  .cons (ix_s_aload_n dX9_pass_193 rfl) <|
  .cons (ix_s_dup dX9_pass_194) <|
  .cons (ix_s_geti (j := 8) tu_X9 rfl (by decide) (by decide) tw_58 rfl ts_8_8_i dX9_pass_195) <|
  .cons (ix_s_iconst dX9_pass_198 (by decide +kernel)) <|
  .cons (ix_s_iadd dX9_pass_199) <|
  .cons (ix_s_puti (j := 8) tu_X9 tyX9_ok nmX9 rfl (by decide) (by decide) tw_58 rfl rfl (by decide +kernel) ts_8_8_p dX9_pass_200) <|
  .cons (ix_s_vret dX9_pass_203 rfl) <| .nil
set_option maxRecDepth 20000 in
theorem e_X9_pass_0 (Q : ix_R → Prop) (ls : ix_L) (st : List ix_V) (μ : ix_M) : ix_Ev o_X9_pass Q (0, ls, st, μ) = ix_aload 0 1 (ix_Ev o_X9_pass Q) Q ls st μ := ix_Ev.eq (a_X9_pass launch0) rfl ls st μ
set_option maxRecDepth 20000 in
theorem e_X9_pass_1 (Q : ix_R → Prop) (ls : ix_L) (st : List ix_V) (μ : ix_M) : ix_Ev o_X9_pass Q (1, ls, st, μ) = oc_X9_light 4 (ix_Ev o_X9_pass Q) Q ls st μ := ix_Ev.eq (a_X9_pass launch0) rfl ls st μ
set_option maxRecDepth 20000 in
theorem e_X9_pass_4 (Q : ix_R → Prop) (ls : ix_L) (st : List ix_V) (μ : ix_M) : ix_Ev o_X9_pass Q (4, ls, st, μ) = ix_push (vi 1) 5 (ix_Ev o_X9_pass Q) Q ls st μ := ix_Ev.eq (a_X9_pass launch0) rfl ls st μ
set_option maxRecDepth 20000 in
theorem e_X9_pass_5 (Q : ix_R → Prop) (ls : ix_L) (st : List ix_V) (μ : ix_M) : ix_Ev o_X9_pass Q (5, ls, st, μ) = ix_cmp (fun x y => x = y) 8 12 (ix_Ev o_X9_pass Q) Q ls st μ := ix_Ev.eq (a_X9_pass launch0) rfl ls st μ
set_option maxRecDepth 20000 in
theorem e_X9_pass_8 (Q : ix_R → Prop) (ls : ix_L) (st : List ix_V) (μ : ix_M) : ix_Ev o_X9_pass Q (8, ls, st, μ) = ix_push (vi 1) 9 (ix_Ev o_X9_pass Q) Q ls st μ := ix_Ev.eq (a_X9_pass launch0) rfl ls st μ
set_option maxRecDepth 20000 in
theorem e_X9_pass_9 (Q : ix_R → Prop) (ls : ix_L) (st : List ix_V) (μ : ix_M) : ix_Ev o_X9_pass Q (9, ls, st, μ) = ix_goto 13 (ix_Ev o_X9_pass Q) Q ls st μ := ix_Ev.eq (a_X9_pass launch0) rfl ls st μ
set_option maxRecDepth 20000 in
theorem e_X9_pass_12 (Q : ix_R → Prop) (ls : ix_L) (st : List ix_V) (μ : ix_M) : ix_Ev o_X9_pass Q (12, ls, st, μ) = ix_push (vi 0) 13 (ix_Ev o_X9_pass Q) Q ls st μ := ix_Ev.eq (a_X9_pass launch0) rfl ls st μ
set_option maxRecDepth 20000 in
theorem e_X9_pass_13 (Q : ix_R → Prop) (ls : ix_L) (st : List ix_V) (μ : ix_M) : ix_Ev o_X9_pass Q (13, ls, st, μ) = ix_istore 4 15 (ix_Ev o_X9_pass Q) Q ls st μ := ix_Ev.eq (a_X9_pass launch0) rfl ls st μ
set_option maxRecDepth 20000 in
theorem e_X9_pass_15 (Q : ix_R → Prop) (ls : ix_L) (st : List ix_V) (μ : ix_M) : ix_Ev o_X9_pass Q (15, ls, st, μ) = ix_push (vi 0) 16 (ix_Ev o_X9_pass Q) Q ls st μ := ix_Ev.eq (a_X9_pass launch0) rfl ls st μ
set_option maxRecDepth 20000 in
theorem e_X9_pass_16 (Q : ix_R → Prop) (ls : ix_L) (st : List ix_V) (μ : ix_M) : ix_Ev o_X9_pass Q (16, ls, st, μ) = ix_istore 5 18 (ix_Ev o_X9_pass Q) Q ls st μ := ix_Ev.eq (a_X9_pass launch0) rfl ls st μ
set_option maxRecDepth 20000 in
theorem e_X9_pass_18 (Q : ix_R → Prop) (ls : ix_L) (st : List ix_V) (μ : ix_M) : ix_Ev o_X9_pass Q (18, ls, st, μ) = ix_iload 5 20 (ix_Ev o_X9_pass Q) Q ls st μ := ix_Ev.eq (a_X9_pass launch0) rfl ls st μ
set_option maxRecDepth 20000 in
theorem e_X9_pass_20 (Q : ix_R → Prop) (ls : ix_L) (st : List ix_V) (μ : ix_M) : ix_Ev o_X9_pass Q (20, ls, st, μ) = ix_push (vi 16) 22 (ix_Ev o_X9_pass Q) Q ls st μ := ix_Ev.eq (a_X9_pass launch0) rfl ls st μ
set_option maxRecDepth 20000 in
theorem e_X9_pass_22 (Q : ix_R → Prop) (ls : ix_L) (st : List ix_V) (μ : ix_M) : ix_Ev o_X9_pass Q (22, ls, st, μ) = ix_cmp (fun x y => y ≤ x) 74 25 (ix_Ev o_X9_pass Q) Q ls st μ := ix_Ev.eq (a_X9_pass launch0) rfl ls st μ
set_option maxRecDepth 20000 in
theorem e_X9_pass_25 (Q : ix_R → Prop) (ls : ix_L) (st : List ix_V) (μ : ix_M) : ix_Ev o_X9_pass Q (25, ls, st, μ) = ix_aload 0 26 (ix_Ev o_X9_pass Q) Q ls st μ := ix_Ev.eq (a_X9_pass launch0) rfl ls st μ
set_option maxRecDepth 20000 in
theorem e_X9_pass_26 (Q : ix_R → Prop) (ls : ix_L) (st : List ix_V) (μ : ix_M) : ix_Ev o_X9_pass Q (26, ls, st, μ) = ix_getr 8 20 (fun k => k + 2) 29 (ix_Ev o_X9_pass Q) Q ls st μ := ix_Ev.eq (a_X9_pass launch0) rfl ls st μ
set_option maxRecDepth 20000 in
theorem e_X9_pass_29 (Q : ix_R → Prop) (ls : ix_L) (st : List ix_V) (μ : ix_M) : ix_Ev o_X9_pass Q (29, ls, st, μ) = ix_iload 5 31 (ix_Ev o_X9_pass Q) Q ls st μ := ix_Ev.eq (a_X9_pass launch0) rfl ls st μ
set_option maxRecDepth 20000 in
theorem e_X9_pass_31 (Q : ix_R → Prop) (ls : ix_L) (st : List ix_V) (μ : ix_M) : ix_Ev o_X9_pass Q (31, ls, st, μ) = ix_iload 4 33 (ix_Ev o_X9_pass Q) Q ls st μ := ix_Ev.eq (a_X9_pass launch0) rfl ls st μ
set_option maxRecDepth 20000 in
theorem e_X9_pass_33 (Q : ix_R → Prop) (ls : ix_L) (st : List ix_V) (μ : ix_M) : ix_Ev o_X9_pass Q (33, ls, st, μ) = ix_if (fun x => x = 0) 49 36 (ix_Ev o_X9_pass Q) Q ls st μ := ix_Ev.eq (a_X9_pass launch0) rfl ls st μ
set_option maxRecDepth 20000 in
theorem e_X9_pass_36 (Q : ix_R → Prop) (ls : ix_L) (st : List ix_V) (μ : ix_M) : ix_Ev o_X9_pass Q (36, ls, st, μ) = ix_aload 0 37 (ix_Ev o_X9_pass Q) Q ls st μ := ix_Ev.eq (a_X9_pass launch0) rfl ls st μ
set_option maxRecDepth 20000 in
theorem e_X9_pass_37 (Q : ix_R → Prop) (ls : ix_L) (st : List ix_V) (μ : ix_M) : ix_Ev o_X9_pass Q (37, ls, st, μ) = ix_getr 8 20 (fun k => k + 2) 40 (ix_Ev o_X9_pass Q) Q ls st μ := ix_Ev.eq (a_X9_pass launch0) rfl ls st μ
set_option maxRecDepth 20000 in
theorem e_X9_pass_40 (Q : ix_R → Prop) (ls : ix_L) (st : List ix_V) (μ : ix_M) : ix_Ev o_X9_pass Q (40, ls, st, μ) = ix_iload 5 42 (ix_Ev o_X9_pass Q) Q ls st μ := ix_Ev.eq (a_X9_pass launch0) rfl ls st μ
set_option maxRecDepth 20000 in
theorem e_X9_pass_42 (Q : ix_R → Prop) (ls : ix_L) (st : List ix_V) (μ : ix_M) : ix_Ev o_X9_pass Q (42, ls, st, μ) = ix_iald 43 (ix_Ev o_X9_pass Q) Q ls st μ := ix_Ev.eq (a_X9_pass launch0) rfl ls st μ
set_option maxRecDepth 20000 in
theorem e_X9_pass_43 (Q : ix_R → Prop) (ls : ix_L) (st : List ix_V) (μ : ix_M) : ix_Ev o_X9_pass Q (43, ls, st, μ) = ix_push (vi 7) 45 (ix_Ev o_X9_pass Q) Q ls st μ := ix_Ev.eq (a_X9_pass launch0) rfl ls st μ
set_option maxRecDepth 20000 in
theorem e_X9_pass_45 (Q : ix_R → Prop) (ls : ix_L) (st : List ix_V) (μ : ix_M) : ix_Ev o_X9_pass Q (45, ls, st, μ) = ix_bin (fun x y => x - y) 46 (ix_Ev o_X9_pass Q) Q ls st μ := ix_Ev.eq (a_X9_pass launch0) rfl ls st μ
set_option maxRecDepth 20000 in
theorem e_X9_pass_46 (Q : ix_R → Prop) (ls : ix_L) (st : List ix_V) (μ : ix_M) : ix_Ev o_X9_pass Q (46, ls, st, μ) = ix_goto 64 (ix_Ev o_X9_pass Q) Q ls st μ := ix_Ev.eq (a_X9_pass launch0) rfl ls st μ
set_option maxRecDepth 20000 in
theorem e_X9_pass_49 (Q : ix_R → Prop) (ls : ix_L) (st : List ix_V) (μ : ix_M) : ix_Ev o_X9_pass Q (49, ls, st, μ) = ix_aload 0 50 (ix_Ev o_X9_pass Q) Q ls st μ := ix_Ev.eq (a_X9_pass launch0) rfl ls st μ
set_option maxRecDepth 20000 in
theorem e_X9_pass_50 (Q : ix_R → Prop) (ls : ix_L) (st : List ix_V) (μ : ix_M) : ix_Ev o_X9_pass Q (50, ls, st, μ) = ix_getr 8 20 (fun k => k + 2) 53 (ix_Ev o_X9_pass Q) Q ls st μ := ix_Ev.eq (a_X9_pass launch0) rfl ls st μ
set_option maxRecDepth 20000 in
theorem e_X9_pass_53 (Q : ix_R → Prop) (ls : ix_L) (st : List ix_V) (μ : ix_M) : ix_Ev o_X9_pass Q (53, ls, st, μ) = ix_iload 5 55 (ix_Ev o_X9_pass Q) Q ls st μ := ix_Ev.eq (a_X9_pass launch0) rfl ls st μ
set_option maxRecDepth 20000 in
theorem e_X9_pass_55 (Q : ix_R → Prop) (ls : ix_L) (st : List ix_V) (μ : ix_M) : ix_Ev o_X9_pass Q (55, ls, st, μ) = ix_iald 56 (ix_Ev o_X9_pass Q) Q ls st μ := ix_Ev.eq (a_X9_pass launch0) rfl ls st μ
set_option maxRecDepth 20000 in
theorem e_X9_pass_56 (Q : ix_R → Prop) (ls : ix_L) (st : List ix_V) (μ : ix_M) : ix_Ev o_X9_pass Q (56, ls, st, μ) = ix_aload 0 57 (ix_Ev o_X9_pass Q) Q ls st μ := ix_Ev.eq (a_X9_pass launch0) rfl ls st μ
set_option maxRecDepth 20000 in
theorem e_X9_pass_57 (Q : ix_R → Prop) (ls : ix_L) (st : List ix_V) (μ : ix_M) : ix_Ev o_X9_pass Q (57, ls, st, μ) = ix_iload 5 59 (ix_Ev o_X9_pass Q) Q ls st μ := ix_Ev.eq (a_X9_pass launch0) rfl ls st μ
set_option maxRecDepth 20000 in
theorem e_X9_pass_59 (Q : ix_R → Prop) (ls : ix_L) (st : List ix_V) (μ : ix_M) : ix_Ev o_X9_pass Q (59, ls, st, μ) = ix_aload 1 60 (ix_Ev o_X9_pass Q) Q ls st μ := ix_Ev.eq (a_X9_pass launch0) rfl ls st μ
set_option maxRecDepth 20000 in
theorem e_X9_pass_60 (Q : ix_R → Prop) (ls : ix_L) (st : List ix_V) (μ : ix_M) : ix_Ev o_X9_pass Q (60, ls, st, μ) = oc_X9_settlesOn 63 (ix_Ev o_X9_pass Q) Q ls st μ := ix_Ev.eq (a_X9_pass launch0) rfl ls st μ
set_option maxRecDepth 20000 in
theorem e_X9_pass_63 (Q : ix_R → Prop) (ls : ix_L) (st : List ix_V) (μ : ix_M) : ix_Ev o_X9_pass Q (63, ls, st, μ) = ix_bin (fun x y => x + y) 64 (ix_Ev o_X9_pass Q) Q ls st μ := ix_Ev.eq (a_X9_pass launch0) rfl ls st μ
set_option maxRecDepth 20000 in
theorem e_X9_pass_64 (Q : ix_R → Prop) (ls : ix_L) (st : List ix_V) (μ : ix_M) : ix_Ev o_X9_pass Q (64, ls, st, μ) = oc_X10_held 67 (ix_Ev o_X9_pass Q) Q ls st μ := ix_Ev.eq (a_X9_pass launch0) rfl ls st μ
set_option maxRecDepth 20000 in
theorem e_X9_pass_67 (Q : ix_R → Prop) (ls : ix_L) (st : List ix_V) (μ : ix_M) : ix_Ev o_X9_pass Q (67, ls, st, μ) = ix_iast 68 (ix_Ev o_X9_pass Q) Q ls st μ := ix_Ev.eq (a_X9_pass launch0) rfl ls st μ
set_option maxRecDepth 20000 in
theorem e_X9_pass_68 (Q : ix_R → Prop) (ls : ix_L) (st : List ix_V) (μ : ix_M) : ix_Ev o_X9_pass Q (68, ls, st, μ) = ix_iinc 5 1 71 (ix_Ev o_X9_pass Q) Q ls st μ := ix_Ev.eq (a_X9_pass launch0) rfl ls st μ
set_option maxRecDepth 20000 in
theorem e_X9_pass_71 (Q : ix_R → Prop) (ls : ix_L) (st : List ix_V) (μ : ix_M) : ix_Ev o_X9_pass Q (71, ls, st, μ) = ix_goto 18 (ix_Ev o_X9_pass Q) Q ls st μ := ix_Ev.eq (a_X9_pass launch0) rfl ls st μ
set_option maxRecDepth 20000 in
theorem e_X9_pass_74 (Q : ix_R → Prop) (ls : ix_L) (st : List ix_V) (μ : ix_M) : ix_Ev o_X9_pass Q (74, ls, st, μ) = ix_push (vi 0) 75 (ix_Ev o_X9_pass Q) Q ls st μ := ix_Ev.eq (a_X9_pass launch0) rfl ls st μ
set_option maxRecDepth 20000 in
theorem e_X9_pass_75 (Q : ix_R → Prop) (ls : ix_L) (st : List ix_V) (μ : ix_M) : ix_Ev o_X9_pass Q (75, ls, st, μ) = ix_istore 5 77 (ix_Ev o_X9_pass Q) Q ls st μ := ix_Ev.eq (a_X9_pass launch0) rfl ls st μ
set_option maxRecDepth 20000 in
theorem e_X9_pass_77 (Q : ix_R → Prop) (ls : ix_L) (st : List ix_V) (μ : ix_M) : ix_Ev o_X9_pass Q (77, ls, st, μ) = ix_iload 5 79 (ix_Ev o_X9_pass Q) Q ls st μ := ix_Ev.eq (a_X9_pass launch0) rfl ls st μ
set_option maxRecDepth 20000 in
theorem e_X9_pass_79 (Q : ix_R → Prop) (ls : ix_L) (st : List ix_V) (μ : ix_M) : ix_Ev o_X9_pass Q (79, ls, st, μ) = ix_aload 0 80 (ix_Ev o_X9_pass Q) Q ls st μ := ix_Ev.eq (a_X9_pass launch0) rfl ls st μ
set_option maxRecDepth 20000 in
theorem e_X9_pass_80 (Q : ix_R → Prop) (ls : ix_L) (st : List ix_V) (μ : ix_M) : ix_Ev o_X9_pass Q (80, ls, st, μ) = ix_geti 8 7 83 (ix_Ev o_X9_pass Q) Q ls st μ := ix_Ev.eq (a_X9_pass launch0) rfl ls st μ
set_option maxRecDepth 20000 in
theorem e_X9_pass_83 (Q : ix_R → Prop) (ls : ix_L) (st : List ix_V) (μ : ix_M) : ix_Ev o_X9_pass Q (83, ls, st, μ) = ix_cmp (fun x y => y ≤ x) 98 86 (ix_Ev o_X9_pass Q) Q ls st μ := ix_Ev.eq (a_X9_pass launch0) rfl ls st μ
set_option maxRecDepth 20000 in
theorem e_X9_pass_86 (Q : ix_R → Prop) (ls : ix_L) (st : List ix_V) (μ : ix_M) : ix_Ev o_X9_pass Q (86, ls, st, μ) = ix_aload 0 87 (ix_Ev o_X9_pass Q) Q ls st μ := ix_Ev.eq (a_X9_pass launch0) rfl ls st μ
set_option maxRecDepth 20000 in
theorem e_X9_pass_87 (Q : ix_R → Prop) (ls : ix_L) (st : List ix_V) (μ : ix_M) : ix_Ev o_X9_pass Q (87, ls, st, μ) = ix_iload 5 89 (ix_Ev o_X9_pass Q) Q ls st μ := ix_Ev.eq (a_X9_pass launch0) rfl ls st μ
set_option maxRecDepth 20000 in
theorem e_X9_pass_89 (Q : ix_R → Prop) (ls : ix_L) (st : List ix_V) (μ : ix_M) : ix_Ev o_X9_pass Q (89, ls, st, μ) = oc_X9_dip 92 (ix_Ev o_X9_pass Q) Q ls st μ := ix_Ev.eq (a_X9_pass launch0) rfl ls st μ
set_option maxRecDepth 20000 in
theorem e_X9_pass_92 (Q : ix_R → Prop) (ls : ix_L) (st : List ix_V) (μ : ix_M) : ix_Ev o_X9_pass Q (92, ls, st, μ) = ix_iinc 5 1 95 (ix_Ev o_X9_pass Q) Q ls st μ := ix_Ev.eq (a_X9_pass launch0) rfl ls st μ
set_option maxRecDepth 20000 in
theorem e_X9_pass_95 (Q : ix_R → Prop) (ls : ix_L) (st : List ix_V) (μ : ix_M) : ix_Ev o_X9_pass Q (95, ls, st, μ) = ix_goto 77 (ix_Ev o_X9_pass Q) Q ls st μ := ix_Ev.eq (a_X9_pass launch0) rfl ls st μ
set_option maxRecDepth 20000 in
theorem e_X9_pass_98 (Q : ix_R → Prop) (ls : ix_L) (st : List ix_V) (μ : ix_M) : ix_Ev o_X9_pass Q (98, ls, st, μ) = ix_push (vi 0) 99 (ix_Ev o_X9_pass Q) Q ls st μ := ix_Ev.eq (a_X9_pass launch0) rfl ls st μ
set_option maxRecDepth 20000 in
theorem e_X9_pass_99 (Q : ix_R → Prop) (ls : ix_L) (st : List ix_V) (μ : ix_M) : ix_Ev o_X9_pass Q (99, ls, st, μ) = ix_istore 5 101 (ix_Ev o_X9_pass Q) Q ls st μ := ix_Ev.eq (a_X9_pass launch0) rfl ls st μ
set_option maxRecDepth 20000 in
theorem e_X9_pass_101 (Q : ix_R → Prop) (ls : ix_L) (st : List ix_V) (μ : ix_M) : ix_Ev o_X9_pass Q (101, ls, st, μ) = ix_iload 5 103 (ix_Ev o_X9_pass Q) Q ls st μ := ix_Ev.eq (a_X9_pass launch0) rfl ls st μ
set_option maxRecDepth 20000 in
theorem e_X9_pass_103 (Q : ix_R → Prop) (ls : ix_L) (st : List ix_V) (μ : ix_M) : ix_Ev o_X9_pass Q (103, ls, st, μ) = ix_aload 0 104 (ix_Ev o_X9_pass Q) Q ls st μ := ix_Ev.eq (a_X9_pass launch0) rfl ls st μ
set_option maxRecDepth 20000 in
theorem e_X9_pass_104 (Q : ix_R → Prop) (ls : ix_L) (st : List ix_V) (μ : ix_M) : ix_Ev o_X9_pass Q (104, ls, st, μ) = ix_geti 8 7 107 (ix_Ev o_X9_pass Q) Q ls st μ := ix_Ev.eq (a_X9_pass launch0) rfl ls st μ
set_option maxRecDepth 20000 in
theorem e_X9_pass_107 (Q : ix_R → Prop) (ls : ix_L) (st : List ix_V) (μ : ix_M) : ix_Ev o_X9_pass Q (107, ls, st, μ) = ix_cmp (fun x y => y ≤ x) 149 110 (ix_Ev o_X9_pass Q) Q ls st μ := ix_Ev.eq (a_X9_pass launch0) rfl ls st μ
set_option maxRecDepth 20000 in
theorem e_X9_pass_110 (Q : ix_R → Prop) (ls : ix_L) (st : List ix_V) (μ : ix_M) : ix_Ev o_X9_pass Q (110, ls, st, μ) = ix_aload 0 111 (ix_Ev o_X9_pass Q) Q ls st μ := ix_Ev.eq (a_X9_pass launch0) rfl ls st μ
set_option maxRecDepth 20000 in
theorem e_X9_pass_111 (Q : ix_R → Prop) (ls : ix_L) (st : List ix_V) (μ : ix_M) : ix_Ev o_X9_pass Q (111, ls, st, μ) = ix_getr 8 20 (fun k => k + 6) 114 (ix_Ev o_X9_pass Q) Q ls st μ := ix_Ev.eq (a_X9_pass launch0) rfl ls st μ
set_option maxRecDepth 20000 in
theorem e_X9_pass_114 (Q : ix_R → Prop) (ls : ix_L) (st : List ix_V) (μ : ix_M) : ix_Ev o_X9_pass Q (114, ls, st, μ) = ix_iload 5 116 (ix_Ev o_X9_pass Q) Q ls st μ := ix_Ev.eq (a_X9_pass launch0) rfl ls st μ
set_option maxRecDepth 20000 in
theorem e_X9_pass_116 (Q : ix_R → Prop) (ls : ix_L) (st : List ix_V) (μ : ix_M) : ix_Ev o_X9_pass Q (116, ls, st, μ) = ix_aload 0 117 (ix_Ev o_X9_pass Q) Q ls st μ := ix_Ev.eq (a_X9_pass launch0) rfl ls st μ
set_option maxRecDepth 20000 in
theorem e_X9_pass_117 (Q : ix_R → Prop) (ls : ix_L) (st : List ix_V) (μ : ix_M) : ix_Ev o_X9_pass Q (117, ls, st, μ) = ix_getr 8 20 (fun k => k + 6) 120 (ix_Ev o_X9_pass Q) Q ls st μ := ix_Ev.eq (a_X9_pass launch0) rfl ls st μ
set_option maxRecDepth 20000 in
theorem e_X9_pass_120 (Q : ix_R → Prop) (ls : ix_L) (st : List ix_V) (μ : ix_M) : ix_Ev o_X9_pass Q (120, ls, st, μ) = ix_iload 5 122 (ix_Ev o_X9_pass Q) Q ls st μ := ix_Ev.eq (a_X9_pass launch0) rfl ls st μ
set_option maxRecDepth 20000 in
theorem e_X9_pass_122 (Q : ix_R → Prop) (ls : ix_L) (st : List ix_V) (μ : ix_M) : ix_Ev o_X9_pass Q (122, ls, st, μ) = ix_iald 123 (ix_Ev o_X9_pass Q) Q ls st μ := ix_Ev.eq (a_X9_pass launch0) rfl ls st μ
set_option maxRecDepth 20000 in
theorem e_X9_pass_123 (Q : ix_R → Prop) (ls : ix_L) (st : List ix_V) (μ : ix_M) : ix_Ev o_X9_pass Q (123, ls, st, μ) = ix_iload 5 125 (ix_Ev o_X9_pass Q) Q ls st μ := ix_Ev.eq (a_X9_pass launch0) rfl ls st μ
set_option maxRecDepth 20000 in
theorem e_X9_pass_125 (Q : ix_R → Prop) (ls : ix_L) (st : List ix_V) (μ : ix_M) : ix_Ev o_X9_pass Q (125, ls, st, μ) = ix_iload 2 126 (ix_Ev o_X9_pass Q) Q ls st μ := ix_Ev.eq (a_X9_pass launch0) rfl ls st μ
set_option maxRecDepth 20000 in
theorem e_X9_pass_126 (Q : ix_R → Prop) (ls : ix_L) (st : List ix_V) (μ : ix_M) : ix_Ev o_X9_pass Q (126, ls, st, μ) = ix_cmp (fun x y => x = y) 129 133 (ix_Ev o_X9_pass Q) Q ls st μ := ix_Ev.eq (a_X9_pass launch0) rfl ls st μ
set_option maxRecDepth 20000 in
theorem e_X9_pass_129 (Q : ix_R → Prop) (ls : ix_L) (st : List ix_V) (μ : ix_M) : ix_Ev o_X9_pass Q (129, ls, st, μ) = ix_iload 3 130 (ix_Ev o_X9_pass Q) Q ls st μ := ix_Ev.eq (a_X9_pass launch0) rfl ls st μ
set_option maxRecDepth 20000 in
theorem e_X9_pass_130 (Q : ix_R → Prop) (ls : ix_L) (st : List ix_V) (μ : ix_M) : ix_Ev o_X9_pass Q (130, ls, st, μ) = ix_goto 139 (ix_Ev o_X9_pass Q) Q ls st μ := ix_Ev.eq (a_X9_pass launch0) rfl ls st μ
set_option maxRecDepth 20000 in
theorem e_X9_pass_133 (Q : ix_R → Prop) (ls : ix_L) (st : List ix_V) (μ : ix_M) : ix_Ev o_X9_pass Q (133, ls, st, μ) = ix_aload 0 134 (ix_Ev o_X9_pass Q) Q ls st μ := ix_Ev.eq (a_X9_pass launch0) rfl ls st μ
set_option maxRecDepth 20000 in
theorem e_X9_pass_134 (Q : ix_R → Prop) (ls : ix_L) (st : List ix_V) (μ : ix_M) : ix_Ev o_X9_pass Q (134, ls, st, μ) = ix_iload 5 136 (ix_Ev o_X9_pass Q) Q ls st μ := ix_Ev.eq (a_X9_pass launch0) rfl ls st μ
set_option maxRecDepth 20000 in
theorem e_X9_pass_136 (Q : ix_R → Prop) (ls : ix_L) (st : List ix_V) (μ : ix_M) : ix_Ev o_X9_pass Q (136, ls, st, μ) = oc_X9_goesOf 139 (ix_Ev o_X9_pass Q) Q ls st μ := ix_Ev.eq (a_X9_pass launch0) rfl ls st μ
set_option maxRecDepth 20000 in
theorem e_X9_pass_139 (Q : ix_R → Prop) (ls : ix_L) (st : List ix_V) (μ : ix_M) : ix_Ev o_X9_pass Q (139, ls, st, μ) = oc_X9_beside 142 (ix_Ev o_X9_pass Q) Q ls st μ := ix_Ev.eq (a_X9_pass launch0) rfl ls st μ
set_option maxRecDepth 20000 in
theorem e_X9_pass_142 (Q : ix_R → Prop) (ls : ix_L) (st : List ix_V) (μ : ix_M) : ix_Ev o_X9_pass Q (142, ls, st, μ) = ix_iast 143 (ix_Ev o_X9_pass Q) Q ls st μ := ix_Ev.eq (a_X9_pass launch0) rfl ls st μ
set_option maxRecDepth 20000 in
theorem e_X9_pass_143 (Q : ix_R → Prop) (ls : ix_L) (st : List ix_V) (μ : ix_M) : ix_Ev o_X9_pass Q (143, ls, st, μ) = ix_iinc 5 1 146 (ix_Ev o_X9_pass Q) Q ls st μ := ix_Ev.eq (a_X9_pass launch0) rfl ls st μ
set_option maxRecDepth 20000 in
theorem e_X9_pass_146 (Q : ix_R → Prop) (ls : ix_L) (st : List ix_V) (μ : ix_M) : ix_Ev o_X9_pass Q (146, ls, st, μ) = ix_goto 101 (ix_Ev o_X9_pass Q) Q ls st μ := ix_Ev.eq (a_X9_pass launch0) rfl ls st μ
set_option maxRecDepth 20000 in
theorem e_X9_pass_149 (Q : ix_R → Prop) (ls : ix_L) (st : List ix_V) (μ : ix_M) : ix_Ev o_X9_pass Q (149, ls, st, μ) = ix_push (vi 0) 150 (ix_Ev o_X9_pass Q) Q ls st μ := ix_Ev.eq (a_X9_pass launch0) rfl ls st μ
set_option maxRecDepth 20000 in
theorem e_X9_pass_150 (Q : ix_R → Prop) (ls : ix_L) (st : List ix_V) (μ : ix_M) : ix_Ev o_X9_pass Q (150, ls, st, μ) = ix_istore 5 152 (ix_Ev o_X9_pass Q) Q ls st μ := ix_Ev.eq (a_X9_pass launch0) rfl ls st μ
set_option maxRecDepth 20000 in
theorem e_X9_pass_152 (Q : ix_R → Prop) (ls : ix_L) (st : List ix_V) (μ : ix_M) : ix_Ev o_X9_pass Q (152, ls, st, μ) = ix_iload 5 154 (ix_Ev o_X9_pass Q) Q ls st μ := ix_Ev.eq (a_X9_pass launch0) rfl ls st μ
set_option maxRecDepth 20000 in
theorem e_X9_pass_154 (Q : ix_R → Prop) (ls : ix_L) (st : List ix_V) (μ : ix_M) : ix_Ev o_X9_pass Q (154, ls, st, μ) = ix_aload 0 155 (ix_Ev o_X9_pass Q) Q ls st μ := ix_Ev.eq (a_X9_pass launch0) rfl ls st μ
set_option maxRecDepth 20000 in
theorem e_X9_pass_155 (Q : ix_R → Prop) (ls : ix_L) (st : List ix_V) (μ : ix_M) : ix_Ev o_X9_pass Q (155, ls, st, μ) = ix_geti 8 7 158 (ix_Ev o_X9_pass Q) Q ls st μ := ix_Ev.eq (a_X9_pass launch0) rfl ls st μ
set_option maxRecDepth 20000 in
theorem e_X9_pass_158 (Q : ix_R → Prop) (ls : ix_L) (st : List ix_V) (μ : ix_M) : ix_Ev o_X9_pass Q (158, ls, st, μ) = ix_cmp (fun x y => y ≤ x) 193 161 (ix_Ev o_X9_pass Q) Q ls st μ := ix_Ev.eq (a_X9_pass launch0) rfl ls st μ
set_option maxRecDepth 20000 in
theorem e_X9_pass_161 (Q : ix_R → Prop) (ls : ix_L) (st : List ix_V) (μ : ix_M) : ix_Ev o_X9_pass Q (161, ls, st, μ) = ix_aload 0 162 (ix_Ev o_X9_pass Q) Q ls st μ := ix_Ev.eq (a_X9_pass launch0) rfl ls st μ
set_option maxRecDepth 20000 in
theorem e_X9_pass_162 (Q : ix_R → Prop) (ls : ix_L) (st : List ix_V) (μ : ix_M) : ix_Ev o_X9_pass Q (162, ls, st, μ) = ix_getr 8 20 (fun k => k + 7) 165 (ix_Ev o_X9_pass Q) Q ls st μ := ix_Ev.eq (a_X9_pass launch0) rfl ls st μ
set_option maxRecDepth 20000 in
theorem e_X9_pass_165 (Q : ix_R → Prop) (ls : ix_L) (st : List ix_V) (μ : ix_M) : ix_Ev o_X9_pass Q (165, ls, st, μ) = ix_iload 5 167 (ix_Ev o_X9_pass Q) Q ls st μ := ix_Ev.eq (a_X9_pass launch0) rfl ls st μ
set_option maxRecDepth 20000 in
theorem e_X9_pass_167 (Q : ix_R → Prop) (ls : ix_L) (st : List ix_V) (μ : ix_M) : ix_Ev o_X9_pass Q (167, ls, st, μ) = ix_push (vi 0) 168 (ix_Ev o_X9_pass Q) Q ls st μ := ix_Ev.eq (a_X9_pass launch0) rfl ls st μ
set_option maxRecDepth 20000 in
theorem e_X9_pass_168 (Q : ix_R → Prop) (ls : ix_L) (st : List ix_V) (μ : ix_M) : ix_Ev o_X9_pass Q (168, ls, st, μ) = ix_aload 0 169 (ix_Ev o_X9_pass Q) Q ls st μ := ix_Ev.eq (a_X9_pass launch0) rfl ls st μ
set_option maxRecDepth 20000 in
theorem e_X9_pass_169 (Q : ix_R → Prop) (ls : ix_L) (st : List ix_V) (μ : ix_M) : ix_Ev o_X9_pass Q (169, ls, st, μ) = ix_getr 8 20 (fun k => k + 7) 172 (ix_Ev o_X9_pass Q) Q ls st μ := ix_Ev.eq (a_X9_pass launch0) rfl ls st μ
set_option maxRecDepth 20000 in
theorem e_X9_pass_172 (Q : ix_R → Prop) (ls : ix_L) (st : List ix_V) (μ : ix_M) : ix_Ev o_X9_pass Q (172, ls, st, μ) = ix_iload 5 174 (ix_Ev o_X9_pass Q) Q ls st μ := ix_Ev.eq (a_X9_pass launch0) rfl ls st μ
set_option maxRecDepth 20000 in
theorem e_X9_pass_174 (Q : ix_R → Prop) (ls : ix_L) (st : List ix_V) (μ : ix_M) : ix_Ev o_X9_pass Q (174, ls, st, μ) = ix_iald 175 (ix_Ev o_X9_pass Q) Q ls st μ := ix_Ev.eq (a_X9_pass launch0) rfl ls st μ
set_option maxRecDepth 20000 in
theorem e_X9_pass_175 (Q : ix_R → Prop) (ls : ix_L) (st : List ix_V) (μ : ix_M) : ix_Ev o_X9_pass Q (175, ls, st, μ) = ix_aload 0 176 (ix_Ev o_X9_pass Q) Q ls st μ := ix_Ev.eq (a_X9_pass launch0) rfl ls st μ
set_option maxRecDepth 20000 in
theorem e_X9_pass_176 (Q : ix_R → Prop) (ls : ix_L) (st : List ix_V) (μ : ix_M) : ix_Ev o_X9_pass Q (176, ls, st, μ) = ix_iload 5 178 (ix_Ev o_X9_pass Q) Q ls st μ := ix_Ev.eq (a_X9_pass launch0) rfl ls st μ
set_option maxRecDepth 20000 in
theorem e_X9_pass_178 (Q : ix_R → Prop) (ls : ix_L) (st : List ix_V) (μ : ix_M) : ix_Ev o_X9_pass Q (178, ls, st, μ) = ix_aload 1 179 (ix_Ev o_X9_pass Q) Q ls st μ := ix_Ev.eq (a_X9_pass launch0) rfl ls st μ
set_option maxRecDepth 20000 in
theorem e_X9_pass_179 (Q : ix_R → Prop) (ls : ix_L) (st : List ix_V) (μ : ix_M) : ix_Ev o_X9_pass Q (179, ls, st, μ) = oc_X9_lostOf 182 (ix_Ev o_X9_pass Q) Q ls st μ := ix_Ev.eq (a_X9_pass launch0) rfl ls st μ
set_option maxRecDepth 20000 in
theorem e_X9_pass_182 (Q : ix_R → Prop) (ls : ix_L) (st : List ix_V) (μ : ix_M) : ix_Ev o_X9_pass Q (182, ls, st, μ) = ix_bin (fun x y => x - y) 183 (ix_Ev o_X9_pass Q) Q ls st μ := ix_Ev.eq (a_X9_pass launch0) rfl ls st μ
set_option maxRecDepth 20000 in
theorem e_X9_pass_183 (Q : ix_R → Prop) (ls : ix_L) (st : List ix_V) (μ : ix_M) : ix_Ev o_X9_pass Q (183, ls, st, μ) = ix_math2 (fun x y => if x < y then y else x) 186 (ix_Ev o_X9_pass Q) Q ls st μ := ix_Ev.eq (a_X9_pass launch0) rfl ls st μ
set_option maxRecDepth 20000 in
theorem e_X9_pass_186 (Q : ix_R → Prop) (ls : ix_L) (st : List ix_V) (μ : ix_M) : ix_Ev o_X9_pass Q (186, ls, st, μ) = ix_iast 187 (ix_Ev o_X9_pass Q) Q ls st μ := ix_Ev.eq (a_X9_pass launch0) rfl ls st μ
set_option maxRecDepth 20000 in
theorem e_X9_pass_187 (Q : ix_R → Prop) (ls : ix_L) (st : List ix_V) (μ : ix_M) : ix_Ev o_X9_pass Q (187, ls, st, μ) = ix_iinc 5 1 190 (ix_Ev o_X9_pass Q) Q ls st μ := ix_Ev.eq (a_X9_pass launch0) rfl ls st μ
set_option maxRecDepth 20000 in
theorem e_X9_pass_190 (Q : ix_R → Prop) (ls : ix_L) (st : List ix_V) (μ : ix_M) : ix_Ev o_X9_pass Q (190, ls, st, μ) = ix_goto 152 (ix_Ev o_X9_pass Q) Q ls st μ := ix_Ev.eq (a_X9_pass launch0) rfl ls st μ
set_option maxRecDepth 20000 in
theorem e_X9_pass_193 (Q : ix_R → Prop) (ls : ix_L) (st : List ix_V) (μ : ix_M) : ix_Ev o_X9_pass Q (193, ls, st, μ) = ix_aload 0 194 (ix_Ev o_X9_pass Q) Q ls st μ := ix_Ev.eq (a_X9_pass launch0) rfl ls st μ
set_option maxRecDepth 20000 in
theorem e_X9_pass_194 (Q : ix_R → Prop) (ls : ix_L) (st : List ix_V) (μ : ix_M) : ix_Ev o_X9_pass Q (194, ls, st, μ) = ix_dup 195 (ix_Ev o_X9_pass Q) Q ls st μ := ix_Ev.eq (a_X9_pass launch0) rfl ls st μ
set_option maxRecDepth 20000 in
theorem e_X9_pass_195 (Q : ix_R → Prop) (ls : ix_L) (st : List ix_V) (μ : ix_M) : ix_Ev o_X9_pass Q (195, ls, st, μ) = ix_geti 8 8 198 (ix_Ev o_X9_pass Q) Q ls st μ := ix_Ev.eq (a_X9_pass launch0) rfl ls st μ
set_option maxRecDepth 20000 in
theorem e_X9_pass_198 (Q : ix_R → Prop) (ls : ix_L) (st : List ix_V) (μ : ix_M) : ix_Ev o_X9_pass Q (198, ls, st, μ) = ix_push (vi 1) 199 (ix_Ev o_X9_pass Q) Q ls st μ := ix_Ev.eq (a_X9_pass launch0) rfl ls st μ
set_option maxRecDepth 20000 in
theorem e_X9_pass_199 (Q : ix_R → Prop) (ls : ix_L) (st : List ix_V) (μ : ix_M) : ix_Ev o_X9_pass Q (199, ls, st, μ) = ix_bin (fun x y => x + y) 200 (ix_Ev o_X9_pass Q) Q ls st μ := ix_Ev.eq (a_X9_pass launch0) rfl ls st μ
set_option maxRecDepth 20000 in
theorem e_X9_pass_200 (Q : ix_R → Prop) (ls : ix_L) (st : List ix_V) (μ : ix_M) : ix_Ev o_X9_pass Q (200, ls, st, μ) = ix_puti 8 8 203 (ix_Ev o_X9_pass Q) Q ls st μ := ix_Ev.eq (a_X9_pass launch0) rfl ls st μ
set_option maxRecDepth 20000 in
theorem e_X9_pass_203 (Q : ix_R → Prop) (ls : ix_L) (st : List ix_V) (μ : ix_M) : ix_Ev o_X9_pass Q (203, ls, st, μ) = ix_vret (ix_Ev o_X9_pass Q) Q ls st μ := ix_Ev.eq (a_X9_pass launch0) rfl ls st μ
def PI (μ μ1 : ix_M) (w q : Nat) (st at1 ba : Nat → Int32) : Prop := Fx [w + 2, w + 6, w + 7, q + 4, q + 8] μ μ1 ∧ (∀ i, i < 16 → μ1 (w + 2) i = st i) ∧ (∀ b, b < 8 → μ1 (w + 6) b = at1 b) ∧ ∀ b, b < 8 → μ1 (w + 7) b = ba b
theorem PI.fx {μ μ1 : ix_M} {w q : Nat} {st at1 ba : Nat → Int32} (h : PI μ μ1 w q st at1 ba) {a : Nat} (ha : a ∉ [w + 2, w + 6, w + 7, q + 4, q + 8]) : μ1 a = μ a := h.1 a ha
theorem PI.scr {μ μ1 μ2 : ix_M} {w q : Nat} {st at1 ba : Nat → Int32} (h : PI μ μ1 w q st at1 ba) {a : Nat} (hF : Fx [a] μ1 μ2) (ha : a = q + 4 ∨ a = q + 8) (hd : w + 2 ≠ a ∧ w + 6 ≠ a ∧ w + 7 ≠ a) : PI μ μ2 w q st at1 ba := by
  refine ⟨h.1.tr (hF.mono (by intro x hx; simp at hx ⊢; omega)), fun i hi => ?_, fun i hi => ?_, fun i hi => ?_⟩
  · rw [hF (w + 2) (by simp; exact hd.1)]; exact h.2.1 i hi
  · rw [hF (w + 6) (by simp; exact hd.2.1)]; exact h.2.2.1 i hi
  · rw [hF (w + 7) (by simp; exact hd.2.2)]; exact h.2.2.2 i hi
theorem PI.st {μ μ1 : ix_M} {w q : Nat} {st at1 ba : Nat → Int32} (h : PI μ μ1 w q st at1 ba) (j : Nat) (x : Int32) : PI μ (ix_up μ1 (w + 2) j x) w q (upd st j x) at1 ba := by
  refine ⟨h.1.up (by simp), fun i hi => ?_, fun i hi => ?_, fun i hi => ?_⟩
  · rw [ix_up_row]
    unfold upd
    split
    · rfl
    · exact h.2.1 i hi
  · rw [ix_up_ne (by omega)]; exact h.2.2.1 i hi
  · rw [ix_up_ne (by omega)]; exact h.2.2.2 i hi
theorem PI.at {μ μ1 : ix_M} {w q : Nat} {st at1 ba : Nat → Int32} (h : PI μ μ1 w q st at1 ba) (j : Nat) (x : Int32) : PI μ (ix_up μ1 (w + 6) j x) w q st (upd at1 j x) ba := by
  refine ⟨h.1.up (by simp), fun i hi => ?_, fun i hi => ?_, fun i hi => ?_⟩
  · rw [ix_up_ne (by omega)]; exact h.2.1 i hi
  · rw [ix_up_row]
    unfold upd
    split
    · rfl
    · exact h.2.2.1 i hi
  · rw [ix_up_ne (by omega)]; exact h.2.2.2 i hi
theorem PI.ba {μ μ1 : ix_M} {w q : Nat} {st at1 ba : Nat → Int32} (h : PI μ μ1 w q st at1 ba) (j : Nat) (x : Int32) : PI μ (ix_up μ1 (w + 7) j x) w q st at1 (upd ba j x) := by
  refine ⟨h.1.up (by simp), fun i hi => ?_, fun i hi => ?_, fun i hi => ?_⟩
  · rw [ix_up_ne (by omega)]; exact h.2.1 i hi
  · rw [ix_up_ne (by omega)]; exact h.2.2.1 i hi
  · rw [ix_up_row]
    unfold upd
    split
    · rfl
    · exact h.2.2.2 i hi
abbrev hWl (w : Nat) : Prop := ix_len (w + 1) = 16 ∧ ix_len (w + 2) = 16 ∧ ix_len (w + 3) = 6 ∧ ix_len (w + 4) = 8 ∧ ix_len (w + 5) = 8 ∧ ix_len (w + 6) = 8 ∧ ix_len (w + 7) = 8
abbrev hWq (w q : Nat) : Prop := (w = 2 ∨ w = 25 ∨ w = 48 ∨ w = 56 ∨ w = 64 ∨ w = 72 ∨ w = 80) ∧ (q = 10 ∨ q = 33)
abbrev pEv (Q : ix_R → Prop) (w q : Nat) (led way L : Int32) (pc : Nat) (i : Int32) (μ : ix_M) : Prop := ix_Ev o_X9_pass Q (pc, [some (vr 8 w), some (vr 0 q), some (vi led), some (vi way), some (vi L), some (vi i)], [], μ)
theorem l1_X9_pass {w q : Nat} {led way L : Int32} {μ : ix_M} {Q : ix_R → Prop} {ds : List Int32} (hw : hWl w) (hq : hWq w q) (hds : TxtOk μ (q + 1) ds) (hL : L = pL (wv μ w)) {at1 ba : Nat → Int32}
    (K : ∀ μ2 st2, PI μ μ2 w q st2 at1 ba → (∀ j, j < 16 → st2 j = pSt ds (wv μ w) j) → pEv Q w q led way L 77 0 μ2) :
    ∀ (k i : Nat) (μ1 : ix_M) (st : Nat → Int32), i + k = 16 → PI μ μ1 w q st at1 ba → (∀ j, j < 16 → st j = if j < i then pSt ds (wv μ w) j else μ (w + 2) j) → pEv Q w q led way L 18 (nI i) μ1 := by
  intro k
  induction k with
  | zero =>
    intro i μ1 st hi hP hst
    have hi : i = 16 := hi
    subst hi
    unfold pEv
    rw [e_X9_pass_18]
    simp (decide := true) only [e_X9_pass_0, e_X9_pass_1, e_X9_pass_4, e_X9_pass_5, e_X9_pass_8, e_X9_pass_9, e_X9_pass_12, e_X9_pass_13, e_X9_pass_15, e_X9_pass_16, e_X9_pass_20, e_X9_pass_22, e_X9_pass_25, e_X9_pass_26, e_X9_pass_29, e_X9_pass_31, e_X9_pass_33, e_X9_pass_36, e_X9_pass_37, e_X9_pass_40, e_X9_pass_42, e_X9_pass_43, e_X9_pass_45, e_X9_pass_46, e_X9_pass_49, e_X9_pass_50, e_X9_pass_53, e_X9_pass_55, e_X9_pass_56, e_X9_pass_57, e_X9_pass_59, e_X9_pass_60, e_X9_pass_63, e_X9_pass_64, e_X9_pass_67, e_X9_pass_68, e_X9_pass_71, e_X9_pass_74, e_X9_pass_75, e_X9_pass_79, e_X9_pass_80, e_X9_pass_83, e_X9_pass_86, e_X9_pass_87, e_X9_pass_89, e_X9_pass_92, e_X9_pass_95, e_X9_pass_98, e_X9_pass_99, e_X9_pass_103, e_X9_pass_104, e_X9_pass_107, e_X9_pass_110, e_X9_pass_111, e_X9_pass_114, e_X9_pass_116, e_X9_pass_117, e_X9_pass_120, e_X9_pass_122, e_X9_pass_123, e_X9_pass_125, e_X9_pass_126, e_X9_pass_129, e_X9_pass_130, e_X9_pass_133, e_X9_pass_134, e_X9_pass_136, e_X9_pass_139, e_X9_pass_142, e_X9_pass_143, e_X9_pass_146, e_X9_pass_149, e_X9_pass_150, e_X9_pass_154, e_X9_pass_155, e_X9_pass_158, e_X9_pass_161, e_X9_pass_162, e_X9_pass_165, e_X9_pass_167, e_X9_pass_168, e_X9_pass_169, e_X9_pass_172, e_X9_pass_174, e_X9_pass_175, e_X9_pass_176, e_X9_pass_178, e_X9_pass_179, e_X9_pass_182, e_X9_pass_183, e_X9_pass_186, e_X9_pass_187, e_X9_pass_190, e_X9_pass_193, e_X9_pass_194, e_X9_pass_195, e_X9_pass_198, e_X9_pass_199, e_X9_pass_200, e_X9_pass_203, vi, vl, vr, oc_X10_held, T_X10_held, oc_X9_beside, T_X9_beside, oc_X9_dip, T_X9_dip, oc_X9_goesOf, T_X9_goesOf, oc_X9_light, T_X9_light, oc_X9_lostOf, T_X9_lostOf, oc_X9_settlesOn, T_X9_settlesOn, ix_push, ix_iload, ix_lload, ix_aload, ix_istore, ix_astore, ix_iinc, ix_bin, ix_div, ix_un, ix_i2l, ix_l2i, ix_lbin, ix_lsh, ix_lcmp, ix_dup, ix_dup2, ix_pop, ix_if, ix_cmp, ix_goto, ix_switch, ix_sw, ix_iret, ix_zret, ix_vret, ix_aret, ix_geti, ix_getr, ix_puti, ix_putz, ix_puts, ix_gets, ix_iald, ix_iast, ix_alen, ix_aald, ix_gval, ix_gcod, ix_bald, ix_blen, ix_sald, ix_nret, ix_math2, ix_math1, ix_acopy, Nat.add_assoc, Int32.reduceLT, Int32.reduceLE, Int32.reduceToNatClampNeg, Int32.reduceSub, Int32.reduceAdd, Nat.reduceAdd, Nat.reduceLeDiff, true_or, or_true, or_false, false_or, not_false_eq_true, not_true_eq_false, false_implies, true_implies, implies_true, and_self, mB_0, mB_01, Classical.not_not, Nat.zero_le, List.getElem?_cons_zero, List.getElem?_cons_succ, List.set_cons_zero, List.set_cons_succ, ix_nl, ix_cs, true_and, and_true, Option.toList_some, Option.toList_none, List.cons_append, List.nil_append, hw]
    exact K μ1 st hP (fun j hj => by rw [hst j hj, if_pos hj])
  | succ k ih =>
    intro i μ1 st hi hP hst
    have hc : (nI i).toNatClampNeg = i := nI_clamp (by omega)
    have hin : vp_in (nI i) 16 := vp_in_nI (by omega) (by decide)
    have hng : ¬ (16 : Int32) ≤ nI i := by
      rw [fa_lit 16]
      exact nI_ge (by omega) (by decide)
    have h16 : i < 16 := by omega
    have e2 : μ1 (w + 2) i = μ (w + 2) i := by rw [hP.2.1 i h16, hst i h16, if_neg (by omega)]
    have e1 : μ1 (w + 1) i = μ (w + 1) i := by rw [hP.fx (by simp; omega)]
    have e0 : μ1 w = μ w := hP.fx (by simp; omega)
    have v2 : wv μ w 2 i = μ (w + 2) i := wv_at (wok_2 h16)
    have v1 : wv μ w 1 i = μ (w + 1) i := wv_at (wok_1 h16)
    have v8 : wv μ w 0 8 = μ w 8 := wv_08 μ w
    have key : ∀ μ2 x, PI μ μ2 w q st at1 ba → x = pSt ds (wv μ w) i → pEv Q w q led way L 18 (nI i + 1) (ix_up μ2 (w + 2) i x) := by
      intro μ2 x h2 hx
      rw [nI_1]
      refine ih (i + 1) _ (upd st i x) (by omega) (h2.st i x) (fun j hj => ?_)
      unfold upd
      by_cases e : j = i
      · rw [if_pos e, e, if_pos (by omega), hx]
      · rw [if_neg e, hst j hj]
        by_cases e3 : j < i
        · rw [if_pos e3, if_pos (by omega)]
        · rw [if_neg e3, if_neg (by omega)]
    unfold pEv
    rw [e_X9_pass_18]
    simp (decide := true) only [e_X9_pass_0, e_X9_pass_1, e_X9_pass_4, e_X9_pass_5, e_X9_pass_8, e_X9_pass_9, e_X9_pass_12, e_X9_pass_13, e_X9_pass_15, e_X9_pass_16, e_X9_pass_20, e_X9_pass_22, e_X9_pass_25, e_X9_pass_26, e_X9_pass_29, e_X9_pass_31, e_X9_pass_33, e_X9_pass_36, e_X9_pass_37, e_X9_pass_40, e_X9_pass_42, e_X9_pass_43, e_X9_pass_45, e_X9_pass_46, e_X9_pass_49, e_X9_pass_50, e_X9_pass_53, e_X9_pass_55, e_X9_pass_56, e_X9_pass_57, e_X9_pass_59, e_X9_pass_60, e_X9_pass_63, e_X9_pass_64, e_X9_pass_67, e_X9_pass_68, e_X9_pass_71, e_X9_pass_74, e_X9_pass_75, e_X9_pass_79, e_X9_pass_80, e_X9_pass_83, e_X9_pass_86, e_X9_pass_87, e_X9_pass_89, e_X9_pass_92, e_X9_pass_95, e_X9_pass_98, e_X9_pass_99, e_X9_pass_103, e_X9_pass_104, e_X9_pass_107, e_X9_pass_110, e_X9_pass_111, e_X9_pass_114, e_X9_pass_116, e_X9_pass_117, e_X9_pass_120, e_X9_pass_122, e_X9_pass_123, e_X9_pass_125, e_X9_pass_126, e_X9_pass_129, e_X9_pass_130, e_X9_pass_133, e_X9_pass_134, e_X9_pass_136, e_X9_pass_139, e_X9_pass_142, e_X9_pass_143, e_X9_pass_146, e_X9_pass_149, e_X9_pass_150, e_X9_pass_154, e_X9_pass_155, e_X9_pass_158, e_X9_pass_161, e_X9_pass_162, e_X9_pass_165, e_X9_pass_167, e_X9_pass_168, e_X9_pass_169, e_X9_pass_172, e_X9_pass_174, e_X9_pass_175, e_X9_pass_176, e_X9_pass_178, e_X9_pass_179, e_X9_pass_182, e_X9_pass_183, e_X9_pass_186, e_X9_pass_187, e_X9_pass_190, e_X9_pass_193, e_X9_pass_194, e_X9_pass_195, e_X9_pass_198, e_X9_pass_199, e_X9_pass_200, e_X9_pass_203, vi, vl, vr, oc_X10_held, T_X10_held, oc_X9_beside, T_X9_beside, oc_X9_dip, T_X9_dip, oc_X9_goesOf, T_X9_goesOf, oc_X9_light, T_X9_light, oc_X9_lostOf, T_X9_lostOf, oc_X9_settlesOn, T_X9_settlesOn, ix_push, ix_iload, ix_lload, ix_aload, ix_istore, ix_astore, ix_iinc, ix_bin, ix_div, ix_un, ix_i2l, ix_l2i, ix_lbin, ix_lsh, ix_lcmp, ix_dup, ix_dup2, ix_pop, ix_if, ix_cmp, ix_goto, ix_switch, ix_sw, ix_iret, ix_zret, ix_vret, ix_aret, ix_geti, ix_getr, ix_puti, ix_putz, ix_puts, ix_gets, ix_iald, ix_iast, ix_alen, ix_aald, ix_gval, ix_gcod, ix_bald, ix_blen, ix_sald, ix_nret, ix_math2, ix_math1, ix_acopy, Nat.add_assoc, Int32.reduceLT, Int32.reduceLE, Int32.reduceToNatClampNeg, Int32.reduceSub, Int32.reduceAdd, Nat.reduceAdd, Nat.reduceLeDiff, true_or, or_true, or_false, false_or, not_false_eq_true, not_true_eq_false, false_implies, true_implies, implies_true, and_self, mB_0, mB_01, Classical.not_not, Nat.zero_le, List.getElem?_cons_zero, List.getElem?_cons_succ, List.set_cons_zero, List.set_cons_succ, ix_nl, ix_cs, true_and, and_true, Option.toList_some, Option.toList_none, List.cons_append, List.nil_append, hw, hng, hin, hc]
    refine ⟨fun c => ⟨ds, hds.fx (by rw [hP.fx (by simp; omega)]) (by rw [hP.fx (by simp; omega)]), fun μ' hF => key μ' _ (hP.scr hF (Or.inl rfl) (by omega)) ?_⟩, fun c => key μ1 _ hP ?_⟩
    · unfold pSt
      rw [if_pos (by rw [← hL]; exact c), v2, v1, v8, e2, e1, e0]
    · unfold pSt
      rw [if_neg (by rw [← hL]; exact c), v2, e2]
theorem l2_X9_pass {w q : Nat} {led way L : Int32} {μ : ix_M} {Q : ix_R → Prop} (hw : hWl w) (hq : hWq w q) {N : Nat} (hN : N ≤ 8) (hb : μ w 7 = nI N) (hat : ∀ b, b < 8 → ∃ c : Nat, c < 16 ∧ μ (w + 6) b = nI c) {s : (Nat → Int32) × (Nat → Int32)}
    (K : ∀ μ2 st2 ba2, PI μ μ2 w q st2 (μ (w + 6)) ba2 → (∀ j, j < 16 → st2 j = (pDp (wv μ w) s N).1 j) → (∀ j, j < 8 → ba2 j = (pDp (wv μ w) s N).2 j) → pEv Q w q led way L 101 0 μ2) :
    ∀ (k i : Nat) (μ1 : ix_M) (st ba : Nat → Int32), i + k = N → PI μ μ1 w q st (μ (w + 6)) ba → (∀ j, j < 16 → st j = (pDp (wv μ w) s i).1 j) → (∀ j, j < 8 → ba j = (pDp (wv μ w) s i).2 j) → pEv Q w q led way L 77 (nI i) μ1 := by
  intro k
  induction k with
  | zero =>
    intro i μ1 st ba hi hP h1 h2
    have hi : i = N := hi
    subst hi
    have e0 : μ1 w = μ w := hP.fx (by simp; omega)
    have hle : nI i ≤ nI i := Int32.le_refl _
    unfold pEv
    rw [e_X9_pass_77]
    simp (decide := true) only [e_X9_pass_0, e_X9_pass_1, e_X9_pass_4, e_X9_pass_5, e_X9_pass_8, e_X9_pass_9, e_X9_pass_12, e_X9_pass_13, e_X9_pass_15, e_X9_pass_16, e_X9_pass_20, e_X9_pass_22, e_X9_pass_25, e_X9_pass_26, e_X9_pass_29, e_X9_pass_31, e_X9_pass_33, e_X9_pass_36, e_X9_pass_37, e_X9_pass_40, e_X9_pass_42, e_X9_pass_43, e_X9_pass_45, e_X9_pass_46, e_X9_pass_49, e_X9_pass_50, e_X9_pass_53, e_X9_pass_55, e_X9_pass_56, e_X9_pass_57, e_X9_pass_59, e_X9_pass_60, e_X9_pass_63, e_X9_pass_64, e_X9_pass_67, e_X9_pass_68, e_X9_pass_71, e_X9_pass_74, e_X9_pass_75, e_X9_pass_79, e_X9_pass_80, e_X9_pass_83, e_X9_pass_86, e_X9_pass_87, e_X9_pass_89, e_X9_pass_92, e_X9_pass_95, e_X9_pass_98, e_X9_pass_99, e_X9_pass_103, e_X9_pass_104, e_X9_pass_107, e_X9_pass_110, e_X9_pass_111, e_X9_pass_114, e_X9_pass_116, e_X9_pass_117, e_X9_pass_120, e_X9_pass_122, e_X9_pass_123, e_X9_pass_125, e_X9_pass_126, e_X9_pass_129, e_X9_pass_130, e_X9_pass_133, e_X9_pass_134, e_X9_pass_136, e_X9_pass_139, e_X9_pass_142, e_X9_pass_143, e_X9_pass_146, e_X9_pass_149, e_X9_pass_150, e_X9_pass_154, e_X9_pass_155, e_X9_pass_158, e_X9_pass_161, e_X9_pass_162, e_X9_pass_165, e_X9_pass_167, e_X9_pass_168, e_X9_pass_169, e_X9_pass_172, e_X9_pass_174, e_X9_pass_175, e_X9_pass_176, e_X9_pass_178, e_X9_pass_179, e_X9_pass_182, e_X9_pass_183, e_X9_pass_186, e_X9_pass_187, e_X9_pass_190, e_X9_pass_193, e_X9_pass_194, e_X9_pass_195, e_X9_pass_198, e_X9_pass_199, e_X9_pass_200, e_X9_pass_203, vi, vl, vr, oc_X10_held, T_X10_held, oc_X9_beside, T_X9_beside, oc_X9_dip, T_X9_dip, oc_X9_goesOf, T_X9_goesOf, oc_X9_light, T_X9_light, oc_X9_lostOf, T_X9_lostOf, oc_X9_settlesOn, T_X9_settlesOn, ix_push, ix_iload, ix_lload, ix_aload, ix_istore, ix_astore, ix_iinc, ix_bin, ix_div, ix_un, ix_i2l, ix_l2i, ix_lbin, ix_lsh, ix_lcmp, ix_dup, ix_dup2, ix_pop, ix_if, ix_cmp, ix_goto, ix_switch, ix_sw, ix_iret, ix_zret, ix_vret, ix_aret, ix_geti, ix_getr, ix_puti, ix_putz, ix_puts, ix_gets, ix_iald, ix_iast, ix_alen, ix_aald, ix_gval, ix_gcod, ix_bald, ix_blen, ix_sald, ix_nret, ix_math2, ix_math1, ix_acopy, Nat.add_assoc, Int32.reduceLT, Int32.reduceLE, Int32.reduceToNatClampNeg, Int32.reduceSub, Int32.reduceAdd, Nat.reduceAdd, Nat.reduceLeDiff, true_or, or_true, or_false, false_or, not_false_eq_true, not_true_eq_false, false_implies, true_implies, implies_true, and_self, mB_0, mB_01, Classical.not_not, Nat.zero_le, List.getElem?_cons_zero, List.getElem?_cons_succ, List.set_cons_zero, List.set_cons_succ, ix_nl, ix_cs, true_and, and_true, Option.toList_some, Option.toList_none, List.cons_append, List.nil_append, hw, e0, hb, hle]
    exact K μ1 st ba hP h1 h2
  | succ k ih =>
    intro i μ1 st ba hi hP h1 h2
    have hc : (nI i).toNatClampNeg = i := nI_clamp (by omega)
    have h8 : i < 8 := by omega
    have hin : vp_in (nI i) 8 := vp_in_nI h8 (by decide)
    have hng : ¬ nI N ≤ nI i := nI_ge (by omega) (by omega)
    have e0 : μ1 w = μ w := hP.fx (by simp; omega)
    have e4 : μ1 (w + 4) = μ (w + 4) := hP.fx (by simp; omega)
    have e5 : μ1 (w + 5) = μ (w + 5) := hP.fx (by simp; omega)
    obtain ⟨c, hc16, hcat⟩ := hat i h8
    have e6 : μ1 (w + 6) i = nI c := by rw [hP.2.2.1 i h8, hcat]
    have hcc : (nI c).toNatClampNeg = c := nI_clamp (by omega)
    have hinc : vp_in (nI c) 16 := vp_in_nI hc16 (by decide)
    have e2 : μ1 (w + 2) c = (pDp (wv μ w) s i).1 c := by rw [hP.2.1 c hc16, h1 c hc16]
    have e7 : μ1 (w + 7) i = (pDp (wv μ w) s i).2 i := by rw [hP.2.2.2 i h8, h2 i h8]
    have v4 : wv μ w 4 i = μ (w + 4) i := wv_at (wok_4 h8)
    have v5 : wv μ w 5 i = μ (w + 5) i := wv_at (wok_5 h8)
    have v6 : (wv μ w 6 i).toNatClampNeg = c := by rw [wv_at (wok_6 h8), hcat, hcc]
    unfold pEv
    rw [e_X9_pass_77]
    simp (decide := true) only [e_X9_pass_0, e_X9_pass_1, e_X9_pass_4, e_X9_pass_5, e_X9_pass_8, e_X9_pass_9, e_X9_pass_12, e_X9_pass_13, e_X9_pass_15, e_X9_pass_16, e_X9_pass_20, e_X9_pass_22, e_X9_pass_25, e_X9_pass_26, e_X9_pass_29, e_X9_pass_31, e_X9_pass_33, e_X9_pass_36, e_X9_pass_37, e_X9_pass_40, e_X9_pass_42, e_X9_pass_43, e_X9_pass_45, e_X9_pass_46, e_X9_pass_49, e_X9_pass_50, e_X9_pass_53, e_X9_pass_55, e_X9_pass_56, e_X9_pass_57, e_X9_pass_59, e_X9_pass_60, e_X9_pass_63, e_X9_pass_64, e_X9_pass_67, e_X9_pass_68, e_X9_pass_71, e_X9_pass_74, e_X9_pass_75, e_X9_pass_79, e_X9_pass_80, e_X9_pass_83, e_X9_pass_86, e_X9_pass_87, e_X9_pass_89, e_X9_pass_92, e_X9_pass_95, e_X9_pass_98, e_X9_pass_99, e_X9_pass_103, e_X9_pass_104, e_X9_pass_107, e_X9_pass_110, e_X9_pass_111, e_X9_pass_114, e_X9_pass_116, e_X9_pass_117, e_X9_pass_120, e_X9_pass_122, e_X9_pass_123, e_X9_pass_125, e_X9_pass_126, e_X9_pass_129, e_X9_pass_130, e_X9_pass_133, e_X9_pass_134, e_X9_pass_136, e_X9_pass_139, e_X9_pass_142, e_X9_pass_143, e_X9_pass_146, e_X9_pass_149, e_X9_pass_150, e_X9_pass_154, e_X9_pass_155, e_X9_pass_158, e_X9_pass_161, e_X9_pass_162, e_X9_pass_165, e_X9_pass_167, e_X9_pass_168, e_X9_pass_169, e_X9_pass_172, e_X9_pass_174, e_X9_pass_175, e_X9_pass_176, e_X9_pass_178, e_X9_pass_179, e_X9_pass_182, e_X9_pass_183, e_X9_pass_186, e_X9_pass_187, e_X9_pass_190, e_X9_pass_193, e_X9_pass_194, e_X9_pass_195, e_X9_pass_198, e_X9_pass_199, e_X9_pass_200, e_X9_pass_203, vi, vl, vr, oc_X10_held, T_X10_held, oc_X9_beside, T_X9_beside, oc_X9_dip, T_X9_dip, oc_X9_goesOf, T_X9_goesOf, oc_X9_light, T_X9_light, oc_X9_lostOf, T_X9_lostOf, oc_X9_settlesOn, T_X9_settlesOn, ix_push, ix_iload, ix_lload, ix_aload, ix_istore, ix_astore, ix_iinc, ix_bin, ix_div, ix_un, ix_i2l, ix_l2i, ix_lbin, ix_lsh, ix_lcmp, ix_dup, ix_dup2, ix_pop, ix_if, ix_cmp, ix_goto, ix_switch, ix_sw, ix_iret, ix_zret, ix_vret, ix_aret, ix_geti, ix_getr, ix_puti, ix_putz, ix_puts, ix_gets, ix_iald, ix_iast, ix_alen, ix_aald, ix_gval, ix_gcod, ix_bald, ix_blen, ix_sald, ix_nret, ix_math2, ix_math1, ix_acopy, Nat.add_assoc, Int32.reduceLT, Int32.reduceLE, Int32.reduceToNatClampNeg, Int32.reduceSub, Int32.reduceAdd, Nat.reduceAdd, Nat.reduceLeDiff, true_or, or_true, or_false, false_or, not_false_eq_true, not_true_eq_false, false_implies, true_implies, implies_true, and_self, mB_0, mB_01, Classical.not_not, Nat.zero_le, List.getElem?_cons_zero, List.getElem?_cons_succ, List.set_cons_zero, List.set_cons_succ, ix_nl, ix_cs, true_and, and_true, Option.toList_some, Option.toList_none, List.cons_append, List.nil_append, hw, e0, hb, hng, hin, hc, e6, hcc, hinc, e2, e4, e5, e7]
    rw [nI_1]
    refine ih (i + 1) _ _ _ (by omega) ((hP.st c _).ba i _) (fun j hj => ?_) (fun j hj => ?_)
    · simp only [pDp, v4, v5, v6, upd]
      split
      · rfl
      · exact h1 j hj
    · simp only [pDp, v4, v5, v6, upd]
      split
      · rfl
      · exact h2 j hj
theorem l3_X9_pass {w q : Nat} {led way L : Int32} {μ : ix_M} {Q : ix_R → Prop} (hw : hWl w) (hq : hWq w q) {N M : Nat} (hN : N ≤ 8) (hb : μ w 7 = nI N) (hM : M < 30000) (hmi : μ w 8 = nI M) {st ba : Nat → Int32}
    (K : ∀ μ2 at2, PI μ μ2 w q st at2 ba → (∀ j, j < 8 → at2 j = pAt led way (wv μ w) j) → pEv Q w q led way L 152 0 μ2) :
    ∀ (k i : Nat) (μ1 : ix_M) (at1 : Nat → Int32), i + k = N → PI μ μ1 w q st at1 ba → (∀ j, j < 8 → at1 j = if j < i then pAt1 led way (wv μ w) j else μ (w + 6) j) → pEv Q w q led way L 101 (nI i) μ1 := by
  have vn : pN (wv μ w) = N := by unfold pN; rw [wv_07, hb]; exact nI_clamp (by omega)
  intro k
  induction k with
  | zero =>
    intro i μ1 at1 hi hP h1
    have hi : i = N := hi
    subst hi
    have e0 : μ1 w = μ w := hP.fx (by simp; omega)
    have hle : nI i ≤ nI i := Int32.le_refl _
    unfold pEv
    rw [e_X9_pass_101]
    simp (decide := true) only [e_X9_pass_0, e_X9_pass_1, e_X9_pass_4, e_X9_pass_5, e_X9_pass_8, e_X9_pass_9, e_X9_pass_12, e_X9_pass_13, e_X9_pass_15, e_X9_pass_16, e_X9_pass_20, e_X9_pass_22, e_X9_pass_25, e_X9_pass_26, e_X9_pass_29, e_X9_pass_31, e_X9_pass_33, e_X9_pass_36, e_X9_pass_37, e_X9_pass_40, e_X9_pass_42, e_X9_pass_43, e_X9_pass_45, e_X9_pass_46, e_X9_pass_49, e_X9_pass_50, e_X9_pass_53, e_X9_pass_55, e_X9_pass_56, e_X9_pass_57, e_X9_pass_59, e_X9_pass_60, e_X9_pass_63, e_X9_pass_64, e_X9_pass_67, e_X9_pass_68, e_X9_pass_71, e_X9_pass_74, e_X9_pass_75, e_X9_pass_79, e_X9_pass_80, e_X9_pass_83, e_X9_pass_86, e_X9_pass_87, e_X9_pass_89, e_X9_pass_92, e_X9_pass_95, e_X9_pass_98, e_X9_pass_99, e_X9_pass_103, e_X9_pass_104, e_X9_pass_107, e_X9_pass_110, e_X9_pass_111, e_X9_pass_114, e_X9_pass_116, e_X9_pass_117, e_X9_pass_120, e_X9_pass_122, e_X9_pass_123, e_X9_pass_125, e_X9_pass_126, e_X9_pass_129, e_X9_pass_130, e_X9_pass_133, e_X9_pass_134, e_X9_pass_136, e_X9_pass_139, e_X9_pass_142, e_X9_pass_143, e_X9_pass_146, e_X9_pass_149, e_X9_pass_150, e_X9_pass_154, e_X9_pass_155, e_X9_pass_158, e_X9_pass_161, e_X9_pass_162, e_X9_pass_165, e_X9_pass_167, e_X9_pass_168, e_X9_pass_169, e_X9_pass_172, e_X9_pass_174, e_X9_pass_175, e_X9_pass_176, e_X9_pass_178, e_X9_pass_179, e_X9_pass_182, e_X9_pass_183, e_X9_pass_186, e_X9_pass_187, e_X9_pass_190, e_X9_pass_193, e_X9_pass_194, e_X9_pass_195, e_X9_pass_198, e_X9_pass_199, e_X9_pass_200, e_X9_pass_203, vi, vl, vr, oc_X10_held, T_X10_held, oc_X9_beside, T_X9_beside, oc_X9_dip, T_X9_dip, oc_X9_goesOf, T_X9_goesOf, oc_X9_light, T_X9_light, oc_X9_lostOf, T_X9_lostOf, oc_X9_settlesOn, T_X9_settlesOn, ix_push, ix_iload, ix_lload, ix_aload, ix_istore, ix_astore, ix_iinc, ix_bin, ix_div, ix_un, ix_i2l, ix_l2i, ix_lbin, ix_lsh, ix_lcmp, ix_dup, ix_dup2, ix_pop, ix_if, ix_cmp, ix_goto, ix_switch, ix_sw, ix_iret, ix_zret, ix_vret, ix_aret, ix_geti, ix_getr, ix_puti, ix_putz, ix_puts, ix_gets, ix_iald, ix_iast, ix_alen, ix_aald, ix_gval, ix_gcod, ix_bald, ix_blen, ix_sald, ix_nret, ix_math2, ix_math1, ix_acopy, Nat.add_assoc, Int32.reduceLT, Int32.reduceLE, Int32.reduceToNatClampNeg, Int32.reduceSub, Int32.reduceAdd, Nat.reduceAdd, Nat.reduceLeDiff, true_or, or_true, or_false, false_or, not_false_eq_true, not_true_eq_false, false_implies, true_implies, implies_true, and_self, mB_0, mB_01, Classical.not_not, Nat.zero_le, List.getElem?_cons_zero, List.getElem?_cons_succ, List.set_cons_zero, List.set_cons_succ, ix_nl, ix_cs, true_and, and_true, Option.toList_some, Option.toList_none, List.cons_append, List.nil_append, hw, e0, hb, hle]
    exact K μ1 at1 hP (fun j hj => by unfold pAt; rw [h1 j hj, vn, wv_at (wok_6 hj)])
  | succ k ih =>
    intro i μ1 at1 hi hP h1
    have hc : (nI i).toNatClampNeg = i := nI_clamp (by omega)
    have h8 : i < 8 := by omega
    have hin : vp_in (nI i) 8 := vp_in_nI h8 (by decide)
    have hng : ¬ nI N ≤ nI i := nI_ge (by omega) (by omega)
    have e0 : μ1 w = μ w := hP.fx (by simp; omega)
    have e3 : μ1 (w + 3) = μ (w + 3) := hP.fx (by simp; omega)
    have e4 : μ1 (w + 4) = μ (w + 4) := hP.fx (by simp; omega)
    have e5 : μ1 (w + 5) = μ (w + 5) := hP.fx (by simp; omega)
    have e6 : μ1 (w + 6) i = μ (w + 6) i := by rw [hP.2.2.1 i h8, h1 i h8, if_neg (by omega)]
    have hr : rem (nI M) 6 = nI (M % 6) := rem6 (by omega)
    have hin6 : vp_in (nI (M % 6)) 6 := vp_in_nI (Nat.mod_lt _ (by decide)) (by decide)
    have v4 : wv μ w 4 i = μ (w + 4) i := wv_at (wok_4 h8)
    have v5 : wv μ w 5 i = μ (w + 5) i := wv_at (wok_5 h8)
    have v6 : wv μ w 6 i = μ (w + 6) i := wv_at (wok_6 h8)
    have v8 : wv μ w 0 8 = nI M := by rw [wv_08]; exact hmi
    have hm6 : M % 6 < 6 := Nat.mod_lt _ (by decide)
    have hcm : (nI (M % 6)).toNatClampNeg = M % 6 := nI_clamp (by omega)
    have v3 : pWay (wv μ w) = μ (w + 3) (M % 6) := by
      unfold pWay
      rw [v8, hr, hcm, wv_at (wok_3 hm6)]
    have key : ∀ x, x = pAt1 led way (wv μ w) i → pEv Q w q led way L 101 (nI i + 1) (ix_up μ1 (w + 6) i x) := by
      intro x hx
      rw [nI_1]
      refine ih (i + 1) _ (upd at1 i x) (by omega) (hP.at i x) (fun j hj => ?_)
      unfold upd
      by_cases e : j = i
      · rw [if_pos e, e, if_pos (by omega), hx]
      · rw [if_neg e, h1 j hj]
        by_cases e3 : j < i
        · rw [if_pos e3, if_pos (by omega)]
        · rw [if_neg e3, if_neg (by omega)]
    unfold pEv
    rw [e_X9_pass_101]
    simp (decide := true) only [e_X9_pass_0, e_X9_pass_1, e_X9_pass_4, e_X9_pass_5, e_X9_pass_8, e_X9_pass_9, e_X9_pass_12, e_X9_pass_13, e_X9_pass_15, e_X9_pass_16, e_X9_pass_20, e_X9_pass_22, e_X9_pass_25, e_X9_pass_26, e_X9_pass_29, e_X9_pass_31, e_X9_pass_33, e_X9_pass_36, e_X9_pass_37, e_X9_pass_40, e_X9_pass_42, e_X9_pass_43, e_X9_pass_45, e_X9_pass_46, e_X9_pass_49, e_X9_pass_50, e_X9_pass_53, e_X9_pass_55, e_X9_pass_56, e_X9_pass_57, e_X9_pass_59, e_X9_pass_60, e_X9_pass_63, e_X9_pass_64, e_X9_pass_67, e_X9_pass_68, e_X9_pass_71, e_X9_pass_74, e_X9_pass_75, e_X9_pass_79, e_X9_pass_80, e_X9_pass_83, e_X9_pass_86, e_X9_pass_87, e_X9_pass_89, e_X9_pass_92, e_X9_pass_95, e_X9_pass_98, e_X9_pass_99, e_X9_pass_103, e_X9_pass_104, e_X9_pass_107, e_X9_pass_110, e_X9_pass_111, e_X9_pass_114, e_X9_pass_116, e_X9_pass_117, e_X9_pass_120, e_X9_pass_122, e_X9_pass_123, e_X9_pass_125, e_X9_pass_126, e_X9_pass_129, e_X9_pass_130, e_X9_pass_133, e_X9_pass_134, e_X9_pass_136, e_X9_pass_139, e_X9_pass_142, e_X9_pass_143, e_X9_pass_146, e_X9_pass_149, e_X9_pass_150, e_X9_pass_154, e_X9_pass_155, e_X9_pass_158, e_X9_pass_161, e_X9_pass_162, e_X9_pass_165, e_X9_pass_167, e_X9_pass_168, e_X9_pass_169, e_X9_pass_172, e_X9_pass_174, e_X9_pass_175, e_X9_pass_176, e_X9_pass_178, e_X9_pass_179, e_X9_pass_182, e_X9_pass_183, e_X9_pass_186, e_X9_pass_187, e_X9_pass_190, e_X9_pass_193, e_X9_pass_194, e_X9_pass_195, e_X9_pass_198, e_X9_pass_199, e_X9_pass_200, e_X9_pass_203, vi, vl, vr, oc_X10_held, T_X10_held, oc_X9_beside, T_X9_beside, oc_X9_dip, T_X9_dip, oc_X9_goesOf, T_X9_goesOf, oc_X9_light, T_X9_light, oc_X9_lostOf, T_X9_lostOf, oc_X9_settlesOn, T_X9_settlesOn, ix_push, ix_iload, ix_lload, ix_aload, ix_istore, ix_astore, ix_iinc, ix_bin, ix_div, ix_un, ix_i2l, ix_l2i, ix_lbin, ix_lsh, ix_lcmp, ix_dup, ix_dup2, ix_pop, ix_if, ix_cmp, ix_goto, ix_switch, ix_sw, ix_iret, ix_zret, ix_vret, ix_aret, ix_geti, ix_getr, ix_puti, ix_putz, ix_puts, ix_gets, ix_iald, ix_iast, ix_alen, ix_aald, ix_gval, ix_gcod, ix_bald, ix_blen, ix_sald, ix_nret, ix_math2, ix_math1, ix_acopy, Nat.add_assoc, Int32.reduceLT, Int32.reduceLE, Int32.reduceToNatClampNeg, Int32.reduceSub, Int32.reduceAdd, Nat.reduceAdd, Nat.reduceLeDiff, true_or, or_true, or_false, false_or, not_false_eq_true, not_true_eq_false, false_implies, true_implies, implies_true, and_self, mB_0, mB_01, Classical.not_not, Nat.zero_le, List.getElem?_cons_zero, List.getElem?_cons_succ, List.set_cons_zero, List.set_cons_succ, ix_nl, ix_cs, true_and, and_true, Option.toList_some, Option.toList_none, List.cons_append, List.nil_append, hw, e0, hb, hmi, hng, hin, hc, hr, hin6, hcm, e3, e4, e5, e6]
    refine ⟨fun c => key _ ?_, fun c => key _ ?_⟩
    · unfold pAt1
      rw [if_pos c, v6]
    · unfold pAt1
      rw [if_neg c, v6, v4, v5, v3, v8]
theorem l4_X9_pass {w q : Nat} {led way L : Int32} {μ : ix_M} {Q : ix_R → Prop} {dl : List Int32} (hw : hWl w) (hq : hWq w q) (hdl : TxtOk μ (q + 5) dl) {N : Nat} (hN : N ≤ 8) (hb : μ w 7 = nI N) {st at1 ba0 : Nat → Int32}
    (K : ∀ μ2 ba2, PI μ μ2 w q st at1 ba2 → (∀ j, j < 8 → ba2 j = pBa dl (wv μ w) ba0 j) → Q (none, ix_up μ2 w 8 (μ w 8 + 1))) :
    ∀ (k i : Nat) (μ1 : ix_M) (ba : Nat → Int32), i + k = N → PI μ μ1 w q st at1 ba → (∀ j, j < 8 → ba j = if j < i then pBa1 dl (wv μ w) ba0 j else ba0 j) → pEv Q w q led way L 152 (nI i) μ1 := by
  have vn : pN (wv μ w) = N := by unfold pN; rw [wv_07, hb]; exact nI_clamp (by omega)
  intro k
  induction k with
  | zero =>
    intro i μ1 ba hi hP h1
    have hi : i = N := hi
    subst hi
    have e0 : μ1 w = μ w := hP.fx (by simp; omega)
    have hle : nI i ≤ nI i := Int32.le_refl _
    unfold pEv
    rw [e_X9_pass_152]
    simp (decide := true) only [e_X9_pass_0, e_X9_pass_1, e_X9_pass_4, e_X9_pass_5, e_X9_pass_8, e_X9_pass_9, e_X9_pass_12, e_X9_pass_13, e_X9_pass_15, e_X9_pass_16, e_X9_pass_20, e_X9_pass_22, e_X9_pass_25, e_X9_pass_26, e_X9_pass_29, e_X9_pass_31, e_X9_pass_33, e_X9_pass_36, e_X9_pass_37, e_X9_pass_40, e_X9_pass_42, e_X9_pass_43, e_X9_pass_45, e_X9_pass_46, e_X9_pass_49, e_X9_pass_50, e_X9_pass_53, e_X9_pass_55, e_X9_pass_56, e_X9_pass_57, e_X9_pass_59, e_X9_pass_60, e_X9_pass_63, e_X9_pass_64, e_X9_pass_67, e_X9_pass_68, e_X9_pass_71, e_X9_pass_74, e_X9_pass_75, e_X9_pass_79, e_X9_pass_80, e_X9_pass_83, e_X9_pass_86, e_X9_pass_87, e_X9_pass_89, e_X9_pass_92, e_X9_pass_95, e_X9_pass_98, e_X9_pass_99, e_X9_pass_103, e_X9_pass_104, e_X9_pass_107, e_X9_pass_110, e_X9_pass_111, e_X9_pass_114, e_X9_pass_116, e_X9_pass_117, e_X9_pass_120, e_X9_pass_122, e_X9_pass_123, e_X9_pass_125, e_X9_pass_126, e_X9_pass_129, e_X9_pass_130, e_X9_pass_133, e_X9_pass_134, e_X9_pass_136, e_X9_pass_139, e_X9_pass_142, e_X9_pass_143, e_X9_pass_146, e_X9_pass_149, e_X9_pass_150, e_X9_pass_154, e_X9_pass_155, e_X9_pass_158, e_X9_pass_161, e_X9_pass_162, e_X9_pass_165, e_X9_pass_167, e_X9_pass_168, e_X9_pass_169, e_X9_pass_172, e_X9_pass_174, e_X9_pass_175, e_X9_pass_176, e_X9_pass_178, e_X9_pass_179, e_X9_pass_182, e_X9_pass_183, e_X9_pass_186, e_X9_pass_187, e_X9_pass_190, e_X9_pass_193, e_X9_pass_194, e_X9_pass_195, e_X9_pass_198, e_X9_pass_199, e_X9_pass_200, e_X9_pass_203, vi, vl, vr, oc_X10_held, T_X10_held, oc_X9_beside, T_X9_beside, oc_X9_dip, T_X9_dip, oc_X9_goesOf, T_X9_goesOf, oc_X9_light, T_X9_light, oc_X9_lostOf, T_X9_lostOf, oc_X9_settlesOn, T_X9_settlesOn, ix_push, ix_iload, ix_lload, ix_aload, ix_istore, ix_astore, ix_iinc, ix_bin, ix_div, ix_un, ix_i2l, ix_l2i, ix_lbin, ix_lsh, ix_lcmp, ix_dup, ix_dup2, ix_pop, ix_if, ix_cmp, ix_goto, ix_switch, ix_sw, ix_iret, ix_zret, ix_vret, ix_aret, ix_geti, ix_getr, ix_puti, ix_putz, ix_puts, ix_gets, ix_iald, ix_iast, ix_alen, ix_aald, ix_gval, ix_gcod, ix_bald, ix_blen, ix_sald, ix_nret, ix_math2, ix_math1, ix_acopy, Nat.add_assoc, Int32.reduceLT, Int32.reduceLE, Int32.reduceToNatClampNeg, Int32.reduceSub, Int32.reduceAdd, Nat.reduceAdd, Nat.reduceLeDiff, true_or, or_true, or_false, false_or, not_false_eq_true, not_true_eq_false, false_implies, true_implies, implies_true, and_self, mB_0, mB_01, Classical.not_not, Nat.zero_le, List.getElem?_cons_zero, List.getElem?_cons_succ, List.set_cons_zero, List.set_cons_succ, ix_nl, ix_cs, true_and, and_true, Option.toList_some, Option.toList_none, List.cons_append, List.nil_append, hw, e0, hb, hle]
    exact K μ1 ba hP (fun j hj => by unfold pBa; rw [h1 j hj, vn])
  | succ k ih =>
    intro i μ1 ba hi hP h1
    have hc : (nI i).toNatClampNeg = i := nI_clamp (by omega)
    have h8 : i < 8 := by omega
    have hin : vp_in (nI i) 8 := vp_in_nI h8 (by decide)
    have hng : ¬ nI N ≤ nI i := nI_ge (by omega) (by omega)
    have e0 : μ1 w = μ w := hP.fx (by simp; omega)
    have e4 : μ1 (w + 4) = μ (w + 4) := hP.fx (by simp; omega)
    have e5 : μ1 (w + 5) = μ (w + 5) := hP.fx (by simp; omega)
    have e7 : μ1 (w + 7) i = ba0 i := by rw [hP.2.2.2 i h8, h1 i h8, if_neg (by omega)]
    have v4 : wv μ w 4 i = μ (w + 4) i := wv_at (wok_4 h8)
    have v5 : wv μ w 5 i = μ (w + 5) i := wv_at (wok_5 h8)
    have vL : pL (wv μ w) = mLight (μ w 8) (μ w 9) := by unfold pL; rw [wv_08, wv_09]
    unfold pEv
    rw [e_X9_pass_152]
    simp (decide := true) only [e_X9_pass_0, e_X9_pass_1, e_X9_pass_4, e_X9_pass_5, e_X9_pass_8, e_X9_pass_9, e_X9_pass_12, e_X9_pass_13, e_X9_pass_15, e_X9_pass_16, e_X9_pass_20, e_X9_pass_22, e_X9_pass_25, e_X9_pass_26, e_X9_pass_29, e_X9_pass_31, e_X9_pass_33, e_X9_pass_36, e_X9_pass_37, e_X9_pass_40, e_X9_pass_42, e_X9_pass_43, e_X9_pass_45, e_X9_pass_46, e_X9_pass_49, e_X9_pass_50, e_X9_pass_53, e_X9_pass_55, e_X9_pass_56, e_X9_pass_57, e_X9_pass_59, e_X9_pass_60, e_X9_pass_63, e_X9_pass_64, e_X9_pass_67, e_X9_pass_68, e_X9_pass_71, e_X9_pass_74, e_X9_pass_75, e_X9_pass_79, e_X9_pass_80, e_X9_pass_83, e_X9_pass_86, e_X9_pass_87, e_X9_pass_89, e_X9_pass_92, e_X9_pass_95, e_X9_pass_98, e_X9_pass_99, e_X9_pass_103, e_X9_pass_104, e_X9_pass_107, e_X9_pass_110, e_X9_pass_111, e_X9_pass_114, e_X9_pass_116, e_X9_pass_117, e_X9_pass_120, e_X9_pass_122, e_X9_pass_123, e_X9_pass_125, e_X9_pass_126, e_X9_pass_129, e_X9_pass_130, e_X9_pass_133, e_X9_pass_134, e_X9_pass_136, e_X9_pass_139, e_X9_pass_142, e_X9_pass_143, e_X9_pass_146, e_X9_pass_149, e_X9_pass_150, e_X9_pass_154, e_X9_pass_155, e_X9_pass_158, e_X9_pass_161, e_X9_pass_162, e_X9_pass_165, e_X9_pass_167, e_X9_pass_168, e_X9_pass_169, e_X9_pass_172, e_X9_pass_174, e_X9_pass_175, e_X9_pass_176, e_X9_pass_178, e_X9_pass_179, e_X9_pass_182, e_X9_pass_183, e_X9_pass_186, e_X9_pass_187, e_X9_pass_190, e_X9_pass_193, e_X9_pass_194, e_X9_pass_195, e_X9_pass_198, e_X9_pass_199, e_X9_pass_200, e_X9_pass_203, vi, vl, vr, oc_X10_held, T_X10_held, oc_X9_beside, T_X9_beside, oc_X9_dip, T_X9_dip, oc_X9_goesOf, T_X9_goesOf, oc_X9_light, T_X9_light, oc_X9_lostOf, T_X9_lostOf, oc_X9_settlesOn, T_X9_settlesOn, ix_push, ix_iload, ix_lload, ix_aload, ix_istore, ix_astore, ix_iinc, ix_bin, ix_div, ix_un, ix_i2l, ix_l2i, ix_lbin, ix_lsh, ix_lcmp, ix_dup, ix_dup2, ix_pop, ix_if, ix_cmp, ix_goto, ix_switch, ix_sw, ix_iret, ix_zret, ix_vret, ix_aret, ix_geti, ix_getr, ix_puti, ix_putz, ix_puts, ix_gets, ix_iald, ix_iast, ix_alen, ix_aald, ix_gval, ix_gcod, ix_bald, ix_blen, ix_sald, ix_nret, ix_math2, ix_math1, ix_acopy, Nat.add_assoc, Int32.reduceLT, Int32.reduceLE, Int32.reduceToNatClampNeg, Int32.reduceSub, Int32.reduceAdd, Nat.reduceAdd, Nat.reduceLeDiff, true_or, or_true, or_false, false_or, not_false_eq_true, not_true_eq_false, false_implies, true_implies, implies_true, and_self, mB_0, mB_01, Classical.not_not, Nat.zero_le, List.getElem?_cons_zero, List.getElem?_cons_succ, List.set_cons_zero, List.set_cons_succ, ix_nl, ix_cs, true_and, and_true, Option.toList_some, Option.toList_none, List.cons_append, List.nil_append, hw, e0, hb, hng, hin, hc, e4, e5, e7]
    have key : ∀ μ2 x, PI μ μ2 w q st at1 ba → x = pBa1 dl (wv μ w) ba0 i → pEv Q w q led way L 152 (nI i + 1) (ix_up μ2 (w + 7) i x) := by
      intro μ2 x h2 hx
      rw [nI_1]
      refine ih (i + 1) _ (upd ba i x) (by omega) (h2.ba i x) (fun j hj => ?_)
      unfold upd
      by_cases e : j = i
      · rw [if_pos e, e, if_pos (by omega), hx]
      · rw [if_neg e, h1 j hj]
        by_cases e3 : j < i
        · rw [if_pos e3, if_pos (by omega)]
        · rw [if_neg e3, if_neg (by omega)]
    refine ⟨dl, hdl.fx (by rw [hP.fx (by simp; omega)]) (by rw [hP.fx (by simp; omega)]), fun μ' hF => key μ' _ (hP.scr hF (Or.inr rfl) (by omega)) ?_⟩
    unfold pBa1 mMax0
    rw [v4, v5, vL]
theorem pDp_cong {v : WV} {s s' : (Nat → Int32) × (Nat → Int32)} (hat : ∀ b, b < 8 → (v 6 b).toNatClampNeg < 16) (h1 : ∀ j, j < 16 → s.1 j = s'.1 j) (h2 : ∀ j, j < 8 → s.2 j = s'.2 j) : ∀ n, n ≤ 8 → (∀ j, j < 16 → (pDp v s n).1 j = (pDp v s' n).1 j) ∧ ∀ j, j < 8 → (pDp v s n).2 j = (pDp v s' n).2 j := by
  intro n
  induction n with
  | zero => exact fun _ => ⟨h1, h2⟩
  | succ n ih =>
    intro hn
    obtain ⟨g1, g2⟩ := ih (by omega)
    have hc := hat n (by omega)
    refine ⟨fun j hj => ?_, fun j hj => ?_⟩
    · simp only [pDp, upd]
      rw [g1 _ hc, g2 n (by omega)]
      split
      · rfl
      · exact g1 j hj
    · simp only [pDp, upd]
      rw [g1 _ hc, g2 n (by omega)]
      split
      · rfl
      · exact g2 j hj
theorem r_X9_pass (w : Nat) (q : Nat) (led : Int32) (way : Int32) (μ : ix_M) (Q : ix_R → Prop) (ok_w : w < ix_N ∧ ix_tag w = 8) (ok_q : q < ix_N ∧ ix_tag q = 0) (hT : T_X9_pass (w, q, led, way) μ Q) : ix_Ev o_X9_pass Q (0, [some (vr 8 w), some (vr 0 q), some (vi led), some (vi way), none, none], [], μ) := by
  obtain ⟨hwo, hw⟩ := ok_water w ok_w.1 ok_w.2
  have hqo := ok_laws q ok_q.1 ok_q.2
  obtain ⟨⟨⟨N, hN, hb⟩, ⟨M, hM, hmi⟩, hat⟩, ds, dl, hds, hdl, hQ⟩ := hT
  have hb : μ w 7 = nI N := by rw [← hb]; exact (wv_07 μ w).symm
  have hmi : μ w 8 = nI M := by rw [← hmi]; exact (wv_08 μ w).symm
  have hat : ∀ b, b < 8 → ∃ c : Nat, c < 16 ∧ μ (w + 6) b = nI c := fun b h8 => by
    obtain ⟨c, h1, h2⟩ := hat b h8
    exact ⟨c, h1, by rw [← h2]; exact (wv_at (wok_6 h8)).symm⟩
  have vn : pN (wv μ w) = N := by unfold pN; rw [wv_07, hb]; exact nI_clamp (by omega)
  have vL : pL (wv μ w) = mLight (μ w 8) (μ w 9) := by unfold pL; rw [wv_08, wv_09]
  have fin : ∀ L : Int32, L = pL (wv μ w) → pEv Q w q led way L 18 (nI 0) μ := by
    intro L hL
    have P0 : PI μ μ w q (μ (w + 2)) (μ (w + 6)) (μ (w + 7)) := ⟨Fx.rf, fun _ _ => rfl, fun _ _ => rfl, fun _ _ => rfl⟩
    refine l1_X9_pass (ds := ds) hw ⟨hwo, hqo⟩ hds hL ?_ 16 0 μ (μ (w + 2)) rfl P0 (fun j _ => by rw [if_neg (by omega)])
    intro μ2 st2 P2 hst2
    refine l2_X9_pass (s := (pSt ds (wv μ w), wv μ w 7)) hw ⟨hwo, hqo⟩ hN hb hat ?_ N 0 μ2 st2 (μ (w + 7)) (by omega) P2 hst2 (fun j hj => (wv_at (wok_7 hj)).symm)
    intro μ3 st3 ba3 P3 hst3 hba3
    refine l3_X9_pass hw ⟨hwo, hqo⟩ hN hb hM hmi ?_ N 0 μ3 (μ (w + 6)) (by omega) P3 (fun j _ => by rw [if_neg (by omega)])
    intro μ4 at4 P4 hat4
    refine l4_X9_pass (ba0 := ba3) hw ⟨hwo, hqo⟩ hdl hN hb ?_ N 0 μ4 ba3 (by omega) P4 (fun j _ => by rw [if_neg (by omega)])
    intro μ5 ba5 P5 hba5
    refine hQ _ (Fx.up (P5.1.mono (by intro x hx; simp at hx ⊢; omega)) (by simp)) ?_
    funext r i
    unfold pV
    by_cases ho : wok r i = true
    · rw [if_pos ho, wv_at ho]
      have hdd : pDD ds (wv μ w) = pDp (wv μ w) (pSt ds (wv μ w), wv μ w 7) N := by unfold pDD; rw [vn]
      by_cases r0 : r = 0
      · subst r0
        rw [if_pos rfl]
        by_cases i8 : i = 8
        · subst i8
          rw [if_pos rfl, wv_08]
          simp [ix_up_ap]
        · rw [if_neg i8, wv_at ho]
          rw [ix_up_ap, if_neg (by simp [i8])]
          exact congrFun (P5.fx (by simp; omega)) i
      · rw [if_neg r0, ix_up_ne (by omega)]
        by_cases r2 : r = 2
        · subst r2
          have h16 : i < 16 := by simpa [wok] using ho
          rw [if_pos rfl, P5.2.1 i h16, hst3 i h16, hdd]
        · rw [if_neg r2]
          by_cases r6 : r = 6
          · subst r6
            have h8 : i < 8 := by simpa [wok] using ho
            rw [if_pos rfl, P5.2.2.1 i h8, hat4 i h8]
          · rw [if_neg r6]
            by_cases r7 : r = 7
            · subst r7
              have h8 : i < 8 := by simpa [wok] using ho
              rw [if_pos rfl, P5.2.2.2 i h8, hba5 i h8, hdd]
              unfold pBa pBa1
              rw [hba3 i h8]
            · rw [if_neg r7, wv_at ho]
              have hr : r ≤ 7 := by
                simp [wok] at ho
                omega
              exact congrFun (P5.fx (by simp; omega)) i
    · rw [if_neg ho]
      exact if_neg ho
  simp (decide := true) only [e_X9_pass_0, e_X9_pass_1, e_X9_pass_4, e_X9_pass_5, e_X9_pass_8, e_X9_pass_9, e_X9_pass_12, e_X9_pass_13, e_X9_pass_15, e_X9_pass_16, e_X9_pass_20, e_X9_pass_22, e_X9_pass_25, e_X9_pass_26, e_X9_pass_29, e_X9_pass_31, e_X9_pass_33, e_X9_pass_36, e_X9_pass_37, e_X9_pass_40, e_X9_pass_42, e_X9_pass_43, e_X9_pass_45, e_X9_pass_46, e_X9_pass_49, e_X9_pass_50, e_X9_pass_53, e_X9_pass_55, e_X9_pass_56, e_X9_pass_57, e_X9_pass_59, e_X9_pass_60, e_X9_pass_63, e_X9_pass_64, e_X9_pass_67, e_X9_pass_68, e_X9_pass_71, e_X9_pass_74, e_X9_pass_75, e_X9_pass_79, e_X9_pass_80, e_X9_pass_83, e_X9_pass_86, e_X9_pass_87, e_X9_pass_89, e_X9_pass_92, e_X9_pass_95, e_X9_pass_98, e_X9_pass_99, e_X9_pass_103, e_X9_pass_104, e_X9_pass_107, e_X9_pass_110, e_X9_pass_111, e_X9_pass_114, e_X9_pass_116, e_X9_pass_117, e_X9_pass_120, e_X9_pass_122, e_X9_pass_123, e_X9_pass_125, e_X9_pass_126, e_X9_pass_129, e_X9_pass_130, e_X9_pass_133, e_X9_pass_134, e_X9_pass_136, e_X9_pass_139, e_X9_pass_142, e_X9_pass_143, e_X9_pass_146, e_X9_pass_149, e_X9_pass_150, e_X9_pass_154, e_X9_pass_155, e_X9_pass_158, e_X9_pass_161, e_X9_pass_162, e_X9_pass_165, e_X9_pass_167, e_X9_pass_168, e_X9_pass_169, e_X9_pass_172, e_X9_pass_174, e_X9_pass_175, e_X9_pass_176, e_X9_pass_178, e_X9_pass_179, e_X9_pass_182, e_X9_pass_183, e_X9_pass_186, e_X9_pass_187, e_X9_pass_190, e_X9_pass_193, e_X9_pass_194, e_X9_pass_195, e_X9_pass_198, e_X9_pass_199, e_X9_pass_200, e_X9_pass_203, vi, vl, vr, oc_X10_held, T_X10_held, oc_X9_beside, T_X9_beside, oc_X9_dip, T_X9_dip, oc_X9_goesOf, T_X9_goesOf, oc_X9_light, T_X9_light, oc_X9_lostOf, T_X9_lostOf, oc_X9_settlesOn, T_X9_settlesOn, ix_push, ix_iload, ix_lload, ix_aload, ix_istore, ix_astore, ix_iinc, ix_bin, ix_div, ix_un, ix_i2l, ix_l2i, ix_lbin, ix_lsh, ix_lcmp, ix_dup, ix_dup2, ix_pop, ix_if, ix_cmp, ix_goto, ix_switch, ix_sw, ix_iret, ix_zret, ix_vret, ix_aret, ix_geti, ix_getr, ix_puti, ix_putz, ix_puts, ix_gets, ix_iald, ix_iast, ix_alen, ix_aald, ix_gval, ix_gcod, ix_bald, ix_blen, ix_sald, ix_nret, ix_math2, ix_math1, ix_acopy, Nat.add_assoc, Int32.reduceLT, Int32.reduceLE, Int32.reduceToNatClampNeg, Int32.reduceSub, Int32.reduceAdd, Nat.reduceAdd, Nat.reduceLeDiff, true_or, or_true, or_false, false_or, not_false_eq_true, not_true_eq_false, false_implies, true_implies, implies_true, and_self, mB_0, mB_01, Classical.not_not, Nat.zero_le, List.getElem?_cons_zero, List.getElem?_cons_succ, List.set_cons_zero, List.set_cons_succ, ix_nl, ix_cs, true_and, and_true, Option.toList_some, Option.toList_none, List.cons_append, List.nil_append, hw]
  refine ⟨fun c => fin 1 ?_, fun c => fin 0 ?_⟩
  · rw [vL, c]
  · rw [vL]
    unfold mLight at c ⊢
    split
    · rename_i h
      rw [if_pos h] at c
      exact absurd rfl c
    · rfl
theorem k_X9_pass (l : Launch) : ix_Ct l yX9_pass cX9_pass 6 none 5 sh_X9_pass T_X9_pass := ix_ct (a_X9_pass l) rfl (by decide) (fun _ => Nat.le_of_ble_eq_true rfl) (fun x μ Q hok hT => r_X9_pass x.1 x.2.1 x.2.2.1 x.2.2.2 μ Q (ix_ok_at (hok (vr 8 x.1) (by simp [sh_X9_pass])) (by decide) (by decide)) (ix_ok_at (hok (vr 0 x.2.1) (by simp [sh_X9_pass])) (by decide) (by decide)) hT)
