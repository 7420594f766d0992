/-! ===== Reader: the recursive methods ===== -/
abbrev RdP (tp : Nat → Int32) (n u : Nat) (f : RF) (μ : ix_M) (Q : ix_R → Prop) : Prop := ∃ a cs, RdC μ tp n u a cs ∧ ∀ μ', Fx [88, 90, 91] μ μ' → RdC μ' tp n u (f (a, cs)).2.1 (f (a, cs)).2.2 → Q (some (vi (mB ((f (a, cs)).1 = true))), μ')
def T_X3_readUnit (tp : Nat → Int32) (n u k : Nat) : Nat × Int32 → ix_M → (ix_R → Prop) → Prop := fun (o, op) μ Q => o = 88 ∧ op = nI (5 - k) ∧ RdP tp n u (rdU tp n u k) μ Q
def T_X3_readLevel (tp : Nat → Int32) (n u k j : Nat) : Nat × Int32 × Int32 → ix_M → (ix_R → Prop) → Prop := fun (o, lv, op) μ Q => o = 88 ∧ lv = nI (5 - j) ∧ op = nI (5 - k) ∧ RdP tp n u (rdLv tp n (rdU tp n u k) j) μ Q
def T_X3_readOpened (tp : Nat → Int32) (n u k : Nat) : Nat × Int32 × Int32 → ix_M → (ix_R → Prop) → Prop := fun (o, c, op) μ Q => o = 88 ∧ op = nI (5 - k) ∧ ∃ a cs, RdC μ tp n u a cs ∧ nx tp n a = c ∧ (c = 33 ∨ c = 40) ∧ ∀ μ', Fx [88, 90, 91] μ μ' → RdC μ' tp n u (rdOp tp n (rdU tp n u k) (rdLv tp n (rdU tp n u k) 5) c (a, cs)).2.1 (rdOp tp n (rdU tp n u k) (rdLv tp n (rdU tp n u k) 5) c (a, cs)).2.2 → Q (some (vi (mB ((rdOp tp n (rdU tp n u k) (rdLv tp n (rdU tp n u k) 5) c (a, cs)).1 = true))), μ')
theorem mo_RdP {tp : Nat → Int32} {n u : Nat} {f : RF} {μ : ix_M} {Q Q' : ix_R → Prop} (h : ∀ r, Q r → Q' r) (hT : RdP tp n u f μ Q) : RdP tp n u f μ Q' := by
  obtain ⟨a, cs, h1, h2⟩ := hT
  exact ⟨a, cs, h1, fun μ' x y => h _ (h2 μ' x y)⟩
theorem mo_X3_readUnit (tp : Nat → Int32) (n u k : Nat) : ∀ (x : Nat × Int32) (μ : ix_M) (Q Q' : ix_R → Prop), (∀ r, Q r → Q' r) → T_X3_readUnit tp n u k x μ Q → T_X3_readUnit tp n u k x μ Q' := by
  rintro ⟨o, op⟩ μ Q Q' h ⟨h0, h1, h2⟩
  exact ⟨h0, h1, mo_RdP h h2⟩
theorem mo_X3_readLevel (tp : Nat → Int32) (n u k j : Nat) : ∀ (x : Nat × Int32 × Int32) (μ : ix_M) (Q Q' : ix_R → Prop), (∀ r, Q r → Q' r) → T_X3_readLevel tp n u k j x μ Q → T_X3_readLevel tp n u k j x μ Q' := by
  rintro ⟨o, lv, op⟩ μ Q Q' h ⟨h0, h1, h2, h3⟩
  exact ⟨h0, h1, h2, mo_RdP h h3⟩
theorem mo_X3_readOpened (tp : Nat → Int32) (n u k : Nat) : ∀ (x : Nat × Int32 × Int32) (μ : ix_M) (Q Q' : ix_R → Prop), (∀ r, Q r → Q' r) → T_X3_readOpened tp n u k x μ Q → T_X3_readOpened tp n u k x μ Q' := by
  rintro ⟨o, lv, op⟩ μ Q Q' h ⟨h0, h1, a, cs, h2, h3, h4, h5⟩
  exact ⟨h0, h1, a, cs, h2, h3, h4, fun μ' x y => h _ (h5 μ' x y)⟩
def sh_X3_readUnit (x : Nat × Int32) : List ix_V := [vr 2 x.1, vi x.2]
def ocr_X3_readUnit (T : Nat × Int32 → ix_M → (ix_R → Prop) → Prop) (n : Nat) : ix_Op := fun k _ ls st μ => match st with
  | .inl a1 :: .inr (.inr (t0, a0)) :: r => t0 = 2 ∧ ix_cs r ≤ 8 ∧ T (a0, a1) μ (fun q => k (n, ls, q.1.toList ++ r, q.2))
  | _ => False
theorem ocr_X3_readUnit_s {T : Nat × Int32 → ix_M → (ix_R → Prop) → Prop} (hm : ∀ x μ Q Q', (∀ r, Q r → Q' r) → T x μ Q → T x μ Q') {l : Launch} {cc : ByteArray} {nL : Nat} {own : String} {d : Nat} {rt : Option FieldType} {pc n : Nat} (h : ix_S l cc nL own d rt pc (ix_call 2 sh_X3_readUnit T n)) : ix_S l cc nL own d rt pc (ocr_X3_readUnit T n) := by
  refine h.by (fun k Q ls st μ h => ?_) (fun k k' Q ls st μ hk h => ?_)
  · unfold ocr_X3_readUnit at h
    split at h
    · rename_i a1 t0 a0 r
      obtain ⟨rfl, h1, h2⟩ := h
      exact ⟨h1, (a0, a1), rfl, _, h2, fun r h => h⟩
    · exact h.elim
  · unfold ocr_X3_readUnit at h ⊢
    split at h
    · obtain ⟨rfl, h1, h2⟩ := h
      exact ⟨rfl, h1, hm _ _ _ _ (fun q hq => hk _ hq) h2⟩
    · exact h.elim
def sh_X3_readLevel (x : Nat × Int32 × Int32) : List ix_V := [vr 2 x.1, vi x.2.1, vi x.2.2]
def ocr_X3_readLevel (T : Nat × Int32 × Int32 → ix_M → (ix_R → Prop) → Prop) (n : Nat) : ix_Op := fun k _ ls st μ => match st with
  | .inl a2 :: .inl a1 :: .inr (.inr (t0, a0)) :: r => t0 = 2 ∧ ix_cs r ≤ 8 ∧ T (a0, a1, a2) μ (fun q => k (n, ls, q.1.toList ++ r, q.2))
  | _ => False
theorem ocr_X3_readLevel_s {T : Nat × Int32 × Int32 → ix_M → (ix_R → Prop) → Prop} (hm : ∀ x μ Q Q', (∀ r, Q r → Q' r) → T x μ Q → T x μ Q') {l : Launch} {cc : ByteArray} {nL : Nat} {own : String} {d : Nat} {rt : Option FieldType} {pc n : Nat} (h : ix_S l cc nL own d rt pc (ix_call 3 sh_X3_readLevel T n)) : ix_S l cc nL own d rt pc (ocr_X3_readLevel T n) := by
  refine h.by (fun k Q ls st μ h => ?_) (fun k k' Q ls st μ hk h => ?_)
  · unfold ocr_X3_readLevel at h
    split at h
    · rename_i a2 a1 t0 a0 r
      obtain ⟨rfl, h1, h2⟩ := h
      exact ⟨h1, (a0, a1, a2), rfl, _, h2, fun r h => h⟩
    · exact h.elim
  · unfold ocr_X3_readLevel at h ⊢
    split at h
    · obtain ⟨rfl, h1, h2⟩ := h
      exact ⟨rfl, h1, hm _ _ _ _ (fun q hq => hk _ hq) h2⟩
    · exact h.elim
def sh_X3_readOpened (x : Nat × Int32 × Int32) : List ix_V := [vr 2 x.1, vi x.2.1, vi x.2.2]
def ocr_X3_readOpened (T : Nat × Int32 × Int32 → ix_M → (ix_R → Prop) → Prop) (n : Nat) : ix_Op := fun k _ ls st μ => match st with
  | .inl a2 :: .inl a1 :: .inr (.inr (t0, a0)) :: r => t0 = 2 ∧ ix_cs r ≤ 8 ∧ T (a0, a1, a2) μ (fun q => k (n, ls, q.1.toList ++ r, q.2))
  | _ => False
theorem ocr_X3_readOpened_s {T : Nat × Int32 × Int32 → ix_M → (ix_R → Prop) → Prop} (hm : ∀ x μ Q Q', (∀ r, Q r → Q' r) → T x μ Q → T x μ Q') {l : Launch} {cc : ByteArray} {nL : Nat} {own : String} {d : Nat} {rt : Option FieldType} {pc n : Nat} (h : ix_S l cc nL own d rt pc (ix_call 3 sh_X3_readOpened T n)) : ix_S l cc nL own d rt pc (ocr_X3_readOpened T n) := by
  refine h.by (fun k Q ls st μ h => ?_) (fun k k' Q ls st μ hk h => ?_)
  · unfold ocr_X3_readOpened at h
    split at h
    · rename_i a2 a1 t0 a0 r
      obtain ⟨rfl, h1, h2⟩ := h
      exact ⟨h1, (a0, a1, a2), rfl, _, h2, fun r h => h⟩
    · exact h.elim
  · unfold ocr_X3_readOpened at h ⊢
    split at h
    · obtain ⟨rfl, h1, h2⟩ := h
      exact ⟨rfl, h1, hm _ _ _ _ (fun q hq => hk _ hq) h2⟩
    · exact h.elim
def o_X3_readUnit (TX3_readOpened : Nat × Int32 × Int32 → ix_M → (ix_R → Prop) → Prop) : List (Nat × ix_Op) := [
  (0, ix_aload 0 1),
  (1, oc_X3_next 4),
  (4, ix_istore 2 5),
  (5, ix_iload 2 6),
  (6, oc_X3_isDigit 9),
  (9, ix_if (fun x => x = 0) 18 12),
  (12, ix_aload 0 13),
  (13, oc_X3_readNumber 16),
  (16, ix_push (vi 1) 17),
  (17, ix_zret),
  (18, ix_iload 2 19),
  (19, ix_push (vi 33) 21),
  (21, ix_cmp (fun x y => x = y) 30 24),
  (24, ix_iload 2 25),
  (25, ix_push (vi 40) 27),
  (27, ix_cmp (fun x y => x = y) 30 52),
  (30, ix_iload 1 31),
  (31, ix_push (vi 5) 32),
  (32, ix_cmp (fun x y => y ≤ x) 50 35),
  (35, ix_aload 0 36),
  (36, ix_iload 2 37),
  (37, ix_iload 1 38),
  (38, ix_push (vi 1) 39),
  (39, ix_bin (fun x y => x + y) 40),
  (40, ocr_X3_readOpened TX3_readOpened 43),
  (43, ix_if (fun x => x = 0) 50 46),
  (46, ix_push (vi 1) 47),
  (47, ix_goto 51),
  (50, ix_push (vi 0) 51),
  (51, ix_zret),
  (52, ix_iload 2 53),
  (53, ix_if (fun x => 0 ≤ x) 60 56),
  (56, ix_push (vi (-1)) 57),
  (57, ix_goto 69),
  (60, ix_aload 0 61),
  (61, ix_gets 2 2 64),
  (64, ix_iload 2 65),
  (65, ix_un (fun x => (x.toUInt32 % 65536).toInt32) 66),
  (66, oc_J0_indexOf_0f7a4 69),
  (69, ix_istore 3 70),
  (70, ix_iload 3 71),
  (71, ix_if (fun x => 0 ≤ x) 76 74),
  (74, ix_push (vi 0) 75),
  (75, ix_zret),
  (76, ix_aload 0 77),
  (77, ix_getr 2 6 (fun _ => 89) 80),
  (80, ix_getr 6 3 (fun k => k + 1) 83),
  (83, ix_push (vi (-1)) 84),
  (84, ix_iload 3 85),
  (85, ix_bin (fun x y => x - y) 86),
  (86, oc_X4_add 89),
  (89, ix_aload 0 90),
  (90, ix_dup 91),
  (91, ix_geti 2 3 94),
  (94, ix_push (vi 1) 95),
  (95, ix_bin (fun x y => x + y) 96),
  (96, ix_puti 2 3 99),
  (99, ix_push (vi 1) 100),
  (100, ix_zret)]
set_option maxRecDepth 20000 in
theorem a_X3_readUnit (l : Launch) (d : Nat) (hlev : 6 ≤ d) {TX3_readOpened : Nat × Int32 × Int32 → ix_M → (ix_R → Prop) → Prop} {d_X3_readOpened : Nat} (h_X3_readOpened : ix_Ct l yX3_readOpened cX3_readOpened 3 (some .boolean) d_X3_readOpened sh_X3_readOpened TX3_readOpened) (hl_X3_readOpened : d_X3_readOpened < d) (hm_X3_readOpened : ∀ x μ Q Q', (∀ r, Q r → Q' r) → TX3_readOpened x μ Q → TX3_readOpened x μ Q') : ix_AllS l cX3_readUnit 4 RX3 d (some .boolean) (o_X3_readUnit TX3_readOpened) :=
  .cons (ix_s_aload_n dX3_readUnit_0 rfl) <|
  .cons (oc_X3_next_s (ix_s_callv (t := 2) (k_X3_next l) (by omega) (by decide) tw_470 tw_8 tw_467 tw_469 tp_4 ⟨by decide, by decide, by decide +kernel⟩ (by decide) rfl rfl (fun _ => ⟨_, _, rfl, rfl⟩) dX3_readUnit_1)) <|
  .cons (ix_s_istore_n dX3_readUnit_4 rfl (by decide)) <|
  .cons (ix_s_iload_n dX3_readUnit_5 rfl) <|
  .cons (oc_X3_isDigit_s (ix_s_calls (k_X3_isDigit l) (by omega) (by decide) tw_477 tw_8 tw_475 tw_476 ⟨by decide, by decide, by decide +kernel⟩ (fun _ => rfl) dX3_readUnit_6)) <|
  .cons (ix_s_if_eq dX3_readUnit_9 (by decide)) <|
  .cons (ix_s_aload_n dX3_readUnit_12 rfl) <|
  .cons (oc_X3_readNumber_s (ix_s_callv (t := 2) (k_X3_readNumber l) (by omega) (by decide) tw_481 tw_8 tw_478 tw_480 tp_5 ⟨by decide, by decide, by decide +kernel⟩ (by decide) rfl rfl (fun _ => ⟨_, _, rfl, rfl⟩) dX3_readUnit_13)) <|
  .cons (ix_s_iconst dX3_readUnit_16 (by decide +kernel)) <|
  .cons (ix_s_zret dX3_readUnit_17 rfl) <|
  .cons (ix_s_iload_n dX3_readUnit_18 rfl) <|
  .cons (ix_s_bipush dX3_readUnit_19 (by decide +kernel)) <|
  .cons (ix_s_cmp_eq dX3_readUnit_21 (by decide)) <|
  .cons (ix_s_iload_n dX3_readUnit_24 rfl) <|
  .cons (ix_s_bipush dX3_readUnit_25 (by decide +kernel)) <|
  .cons (ix_s_cmp_ne dX3_readUnit_27 (by decide)) <|
  .cons (ix_s_iload_n dX3_readUnit_30 rfl) <|
  .cons (ix_s_iconst dX3_readUnit_31 (by decide +kernel)) <|
  .cons (ix_s_cmp_ge dX3_readUnit_32 (by decide)) <|
  .cons (ix_s_aload_n dX3_readUnit_35 rfl) <|
  .cons (ix_s_iload_n dX3_readUnit_36 rfl) <|
  .cons (ix_s_iload_n dX3_readUnit_37 rfl) <|
  .cons (ix_s_iconst dX3_readUnit_38 (by decide +kernel)) <|
  .cons (ix_s_iadd dX3_readUnit_39) <|
  .cons (ocr_X3_readOpened_s hm_X3_readOpened (ix_s_callv (t := 2) h_X3_readOpened hl_X3_readOpened (by decide) tw_486 tw_8 tw_483 tw_485 tp_6 ⟨by decide, by decide, by decide +kernel⟩ (by decide) rfl rfl (fun _ => ⟨_, _, rfl, rfl⟩) dX3_readUnit_40)) <|
  .cons (ix_s_if_eq dX3_readUnit_43 (by decide)) <|
  .cons (ix_s_iconst dX3_readUnit_46 (by decide +kernel)) <|
  .cons (ix_s_goto dX3_readUnit_47 (by decide)) <|
  .cons (ix_s_iconst dX3_readUnit_50 (by decide +kernel)) <|
  .cons (ix_s_zret dX3_readUnit_51 rfl) <|
  .cons (ix_s_iload_n dX3_readUnit_52 rfl) <|
  .cons (ix_s_if_ge dX3_readUnit_53 (by decide)) <|
  .cons (ix_s_iconst dX3_readUnit_56 (by decide +kernel)) <|
  .cons (ix_s_goto dX3_readUnit_57 (by decide)) <|
  .cons (ix_s_aload_n dX3_readUnit_60 rfl) <|
  .cons (ix_s_gets (j := 2) tu_X3 rfl (by decide) (by decide) tw_179 rfl ts_2_2_s dX3_readUnit_61) <|
  .cons (ix_s_iload_n dX3_readUnit_64 rfl) <|
  .cons (ix_s_i2c dX3_readUnit_65) <|
  .cons (oc_J0_indexOf_0f7a4_s (ix_s_callS (k_J0_indexOf_0f7a4 l) (by omega) (by decide) tw_490 tw_15 tw_487 tw_488 tw_489 ⟨by decide, by decide, by decide +kernel⟩ rfl (fun _ => ⟨_, _, rfl, rfl⟩) dX3_readUnit_66)) <|
  .cons (ix_s_istore_n dX3_readUnit_69 rfl (by decide)) <|
  .cons (ix_s_iload_n dX3_readUnit_70 rfl) <|
  .cons (ix_s_if_ge dX3_readUnit_71 (by decide)) <|
  .cons (ix_s_iconst dX3_readUnit_74 (by decide +kernel)) <|
  .cons (ix_s_zret dX3_readUnit_75 rfl) <|
  .cons (ix_s_aload_n dX3_readUnit_76 rfl) <|
  .cons (ix_s_getr (j := 0) tu_X3 rfl (by decide) (by decide) tw_176 rfl ts_2_0_r dX3_readUnit_77) <|
  .cons (ix_s_getr (j := 0) tu_X7 rfl (by decide) (by decide) tw_120 rfl ts_6_0_r dX3_readUnit_80) <|
  .cons (ix_s_iconst dX3_readUnit_83 (by decide +kernel)) <|
  .cons (ix_s_iload_n dX3_readUnit_84 rfl) <|
  .cons (ix_s_isub dX3_readUnit_85) <|
  .cons (oc_X4_add_s (ix_s_callv (t := 3) (k_X4_add l) (by omega) (by decide) tw_436 tw_6 tw_482 tw_434 tw_435 ⟨by decide, by decide, by decide +kernel⟩ (by decide) rfl rfl (fun _ => ⟨_, _, rfl, rfl⟩) dX3_readUnit_86)) <|
  .cons (ix_s_aload_n dX3_readUnit_89 rfl) <|
  .cons (ix_s_dup dX3_readUnit_90) <|
  .cons (ix_s_geti (j := 3) tu_X3 rfl (by decide) (by decide) tw_180 rfl ts_2_3_i dX3_readUnit_91) <|
  .cons (ix_s_iconst dX3_readUnit_94 (by decide +kernel)) <|
  .cons (ix_s_iadd dX3_readUnit_95) <|
  .cons (ix_s_puti (j := 3) tu_X3 tyX3_ok nmX3 rfl (by decide) (by decide) tw_180 rfl rfl (by decide +kernel) ts_2_3_p dX3_readUnit_96) <|
  .cons (ix_s_iconst dX3_readUnit_99 (by decide +kernel)) <|
  .cons (ix_s_zret dX3_readUnit_100 rfl) <| .nil
theorem e_X3_readUnit_0 {TX3_readOpened : Nat × Int32 × Int32 → ix_M → (ix_R → Prop) → Prop} {l : Launch} {d : Nat} (H : ix_AllS l cX3_readUnit 4 RX3 d (some .boolean) (o_X3_readUnit TX3_readOpened)) (Q : ix_R → Prop) (ls : ix_L) (st : List ix_V) (μ : ix_M) : ix_Ev (o_X3_readUnit TX3_readOpened) Q (0, ls, st, μ) = ix_aload 0 1 (ix_Ev (o_X3_readUnit TX3_readOpened) Q) Q ls st μ := ix_Ev.eq H rfl ls st μ
theorem e_X3_readUnit_1 {TX3_readOpened : Nat × Int32 × Int32 → ix_M → (ix_R → Prop) → Prop} {l : Launch} {d : Nat} (H : ix_AllS l cX3_readUnit 4 RX3 d (some .boolean) (o_X3_readUnit TX3_readOpened)) (Q : ix_R → Prop) (ls : ix_L) (st : List ix_V) (μ : ix_M) : ix_Ev (o_X3_readUnit TX3_readOpened) Q (1, ls, st, μ) = oc_X3_next 4 (ix_Ev (o_X3_readUnit TX3_readOpened) Q) Q ls st μ := ix_Ev.eq H rfl ls st μ
theorem e_X3_readUnit_4 {TX3_readOpened : Nat × Int32 × Int32 → ix_M → (ix_R → Prop) → Prop} {l : Launch} {d : Nat} (H : ix_AllS l cX3_readUnit 4 RX3 d (some .boolean) (o_X3_readUnit TX3_readOpened)) (Q : ix_R → Prop) (ls : ix_L) (st : List ix_V) (μ : ix_M) : ix_Ev (o_X3_readUnit TX3_readOpened) Q (4, ls, st, μ) = ix_istore 2 5 (ix_Ev (o_X3_readUnit TX3_readOpened) Q) Q ls st μ := ix_Ev.eq H rfl ls st μ
theorem e_X3_readUnit_5 {TX3_readOpened : Nat × Int32 × Int32 → ix_M → (ix_R → Prop) → Prop} {l : Launch} {d : Nat} (H : ix_AllS l cX3_readUnit 4 RX3 d (some .boolean) (o_X3_readUnit TX3_readOpened)) (Q : ix_R → Prop) (ls : ix_L) (st : List ix_V) (μ : ix_M) : ix_Ev (o_X3_readUnit TX3_readOpened) Q (5, ls, st, μ) = ix_iload 2 6 (ix_Ev (o_X3_readUnit TX3_readOpened) Q) Q ls st μ := ix_Ev.eq H rfl ls st μ
theorem e_X3_readUnit_6 {TX3_readOpened : Nat × Int32 × Int32 → ix_M → (ix_R → Prop) → Prop} {l : Launch} {d : Nat} (H : ix_AllS l cX3_readUnit 4 RX3 d (some .boolean) (o_X3_readUnit TX3_readOpened)) (Q : ix_R → Prop) (ls : ix_L) (st : List ix_V) (μ : ix_M) : ix_Ev (o_X3_readUnit TX3_readOpened) Q (6, ls, st, μ) = oc_X3_isDigit 9 (ix_Ev (o_X3_readUnit TX3_readOpened) Q) Q ls st μ := ix_Ev.eq H rfl ls st μ
theorem e_X3_readUnit_9 {TX3_readOpened : Nat × Int32 × Int32 → ix_M → (ix_R → Prop) → Prop} {l : Launch} {d : Nat} (H : ix_AllS l cX3_readUnit 4 RX3 d (some .boolean) (o_X3_readUnit TX3_readOpened)) (Q : ix_R → Prop) (ls : ix_L) (st : List ix_V) (μ : ix_M) : ix_Ev (o_X3_readUnit TX3_readOpened) Q (9, ls, st, μ) = ix_if (fun x => x = 0) 18 12 (ix_Ev (o_X3_readUnit TX3_readOpened) Q) Q ls st μ := ix_Ev.eq H rfl ls st μ
theorem e_X3_readUnit_12 {TX3_readOpened : Nat × Int32 × Int32 → ix_M → (ix_R → Prop) → Prop} {l : Launch} {d : Nat} (H : ix_AllS l cX3_readUnit 4 RX3 d (some .boolean) (o_X3_readUnit TX3_readOpened)) (Q : ix_R → Prop) (ls : ix_L) (st : List ix_V) (μ : ix_M) : ix_Ev (o_X3_readUnit TX3_readOpened) Q (12, ls, st, μ) = ix_aload 0 13 (ix_Ev (o_X3_readUnit TX3_readOpened) Q) Q ls st μ := ix_Ev.eq H rfl ls st μ
theorem e_X3_readUnit_13 {TX3_readOpened : Nat × Int32 × Int32 → ix_M → (ix_R → Prop) → Prop} {l : Launch} {d : Nat} (H : ix_AllS l cX3_readUnit 4 RX3 d (some .boolean) (o_X3_readUnit TX3_readOpened)) (Q : ix_R → Prop) (ls : ix_L) (st : List ix_V) (μ : ix_M) : ix_Ev (o_X3_readUnit TX3_readOpened) Q (13, ls, st, μ) = oc_X3_readNumber 16 (ix_Ev (o_X3_readUnit TX3_readOpened) Q) Q ls st μ := ix_Ev.eq H rfl ls st μ
theorem e_X3_readUnit_16 {TX3_readOpened : Nat × Int32 × Int32 → ix_M → (ix_R → Prop) → Prop} {l : Launch} {d : Nat} (H : ix_AllS l cX3_readUnit 4 RX3 d (some .boolean) (o_X3_readUnit TX3_readOpened)) (Q : ix_R → Prop) (ls : ix_L) (st : List ix_V) (μ : ix_M) : ix_Ev (o_X3_readUnit TX3_readOpened) Q (16, ls, st, μ) = ix_push (vi 1) 17 (ix_Ev (o_X3_readUnit TX3_readOpened) Q) Q ls st μ := ix_Ev.eq H rfl ls st μ
theorem e_X3_readUnit_17 {TX3_readOpened : Nat × Int32 × Int32 → ix_M → (ix_R → Prop) → Prop} {l : Launch} {d : Nat} (H : ix_AllS l cX3_readUnit 4 RX3 d (some .boolean) (o_X3_readUnit TX3_readOpened)) (Q : ix_R → Prop) (ls : ix_L) (st : List ix_V) (μ : ix_M) : ix_Ev (o_X3_readUnit TX3_readOpened) Q (17, ls, st, μ) = ix_zret (ix_Ev (o_X3_readUnit TX3_readOpened) Q) Q ls st μ := ix_Ev.eq H rfl ls st μ
theorem e_X3_readUnit_18 {TX3_readOpened : Nat × Int32 × Int32 → ix_M → (ix_R → Prop) → Prop} {l : Launch} {d : Nat} (H : ix_AllS l cX3_readUnit 4 RX3 d (some .boolean) (o_X3_readUnit TX3_readOpened)) (Q : ix_R → Prop) (ls : ix_L) (st : List ix_V) (μ : ix_M) : ix_Ev (o_X3_readUnit TX3_readOpened) Q (18, ls, st, μ) = ix_iload 2 19 (ix_Ev (o_X3_readUnit TX3_readOpened) Q) Q ls st μ := ix_Ev.eq H rfl ls st μ
theorem e_X3_readUnit_19 {TX3_readOpened : Nat × Int32 × Int32 → ix_M → (ix_R → Prop) → Prop} {l : Launch} {d : Nat} (H : ix_AllS l cX3_readUnit 4 RX3 d (some .boolean) (o_X3_readUnit TX3_readOpened)) (Q : ix_R → Prop) (ls : ix_L) (st : List ix_V) (μ : ix_M) : ix_Ev (o_X3_readUnit TX3_readOpened) Q (19, ls, st, μ) = ix_push (vi 33) 21 (ix_Ev (o_X3_readUnit TX3_readOpened) Q) Q ls st μ := ix_Ev.eq H rfl ls st μ
theorem e_X3_readUnit_21 {TX3_readOpened : Nat × Int32 × Int32 → ix_M → (ix_R → Prop) → Prop} {l : Launch} {d : Nat} (H : ix_AllS l cX3_readUnit 4 RX3 d (some .boolean) (o_X3_readUnit TX3_readOpened)) (Q : ix_R → Prop) (ls : ix_L) (st : List ix_V) (μ : ix_M) : ix_Ev (o_X3_readUnit TX3_readOpened) Q (21, ls, st, μ) = ix_cmp (fun x y => x = y) 30 24 (ix_Ev (o_X3_readUnit TX3_readOpened) Q) Q ls st μ := ix_Ev.eq H rfl ls st μ
theorem e_X3_readUnit_24 {TX3_readOpened : Nat × Int32 × Int32 → ix_M → (ix_R → Prop) → Prop} {l : Launch} {d : Nat} (H : ix_AllS l cX3_readUnit 4 RX3 d (some .boolean) (o_X3_readUnit TX3_readOpened)) (Q : ix_R → Prop) (ls : ix_L) (st : List ix_V) (μ : ix_M) : ix_Ev (o_X3_readUnit TX3_readOpened) Q (24, ls, st, μ) = ix_iload 2 25 (ix_Ev (o_X3_readUnit TX3_readOpened) Q) Q ls st μ := ix_Ev.eq H rfl ls st μ
theorem e_X3_readUnit_25 {TX3_readOpened : Nat × Int32 × Int32 → ix_M → (ix_R → Prop) → Prop} {l : Launch} {d : Nat} (H : ix_AllS l cX3_readUnit 4 RX3 d (some .boolean) (o_X3_readUnit TX3_readOpened)) (Q : ix_R → Prop) (ls : ix_L) (st : List ix_V) (μ : ix_M) : ix_Ev (o_X3_readUnit TX3_readOpened) Q (25, ls, st, μ) = ix_push (vi 40) 27 (ix_Ev (o_X3_readUnit TX3_readOpened) Q) Q ls st μ := ix_Ev.eq H rfl ls st μ
theorem e_X3_readUnit_27 {TX3_readOpened : Nat × Int32 × Int32 → ix_M → (ix_R → Prop) → Prop} {l : Launch} {d : Nat} (H : ix_AllS l cX3_readUnit 4 RX3 d (some .boolean) (o_X3_readUnit TX3_readOpened)) (Q : ix_R → Prop) (ls : ix_L) (st : List ix_V) (μ : ix_M) : ix_Ev (o_X3_readUnit TX3_readOpened) Q (27, ls, st, μ) = ix_cmp (fun x y => x = y) 30 52 (ix_Ev (o_X3_readUnit TX3_readOpened) Q) Q ls st μ := ix_Ev.eq H rfl ls st μ
theorem e_X3_readUnit_30 {TX3_readOpened : Nat × Int32 × Int32 → ix_M → (ix_R → Prop) → Prop} {l : Launch} {d : Nat} (H : ix_AllS l cX3_readUnit 4 RX3 d (some .boolean) (o_X3_readUnit TX3_readOpened)) (Q : ix_R → Prop) (ls : ix_L) (st : List ix_V) (μ : ix_M) : ix_Ev (o_X3_readUnit TX3_readOpened) Q (30, ls, st, μ) = ix_iload 1 31 (ix_Ev (o_X3_readUnit TX3_readOpened) Q) Q ls st μ := ix_Ev.eq H rfl ls st μ
theorem e_X3_readUnit_31 {TX3_readOpened : Nat × Int32 × Int32 → ix_M → (ix_R → Prop) → Prop} {l : Launch} {d : Nat} (H : ix_AllS l cX3_readUnit 4 RX3 d (some .boolean) (o_X3_readUnit TX3_readOpened)) (Q : ix_R → Prop) (ls : ix_L) (st : List ix_V) (μ : ix_M) : ix_Ev (o_X3_readUnit TX3_readOpened) Q (31, ls, st, μ) = ix_push (vi 5) 32 (ix_Ev (o_X3_readUnit TX3_readOpened) Q) Q ls st μ := ix_Ev.eq H rfl ls st μ
theorem e_X3_readUnit_32 {TX3_readOpened : Nat × Int32 × Int32 → ix_M → (ix_R → Prop) → Prop} {l : Launch} {d : Nat} (H : ix_AllS l cX3_readUnit 4 RX3 d (some .boolean) (o_X3_readUnit TX3_readOpened)) (Q : ix_R → Prop) (ls : ix_L) (st : List ix_V) (μ : ix_M) : ix_Ev (o_X3_readUnit TX3_readOpened) Q (32, ls, st, μ) = ix_cmp (fun x y => y ≤ x) 50 35 (ix_Ev (o_X3_readUnit TX3_readOpened) Q) Q ls st μ := ix_Ev.eq H rfl ls st μ
theorem e_X3_readUnit_35 {TX3_readOpened : Nat × Int32 × Int32 → ix_M → (ix_R → Prop) → Prop} {l : Launch} {d : Nat} (H : ix_AllS l cX3_readUnit 4 RX3 d (some .boolean) (o_X3_readUnit TX3_readOpened)) (Q : ix_R → Prop) (ls : ix_L) (st : List ix_V) (μ : ix_M) : ix_Ev (o_X3_readUnit TX3_readOpened) Q (35, ls, st, μ) = ix_aload 0 36 (ix_Ev (o_X3_readUnit TX3_readOpened) Q) Q ls st μ := ix_Ev.eq H rfl ls st μ
theorem e_X3_readUnit_36 {TX3_readOpened : Nat × Int32 × Int32 → ix_M → (ix_R → Prop) → Prop} {l : Launch} {d : Nat} (H : ix_AllS l cX3_readUnit 4 RX3 d (some .boolean) (o_X3_readUnit TX3_readOpened)) (Q : ix_R → Prop) (ls : ix_L) (st : List ix_V) (μ : ix_M) : ix_Ev (o_X3_readUnit TX3_readOpened) Q (36, ls, st, μ) = ix_iload 2 37 (ix_Ev (o_X3_readUnit TX3_readOpened) Q) Q ls st μ := ix_Ev.eq H rfl ls st μ
theorem e_X3_readUnit_37 {TX3_readOpened : Nat × Int32 × Int32 → ix_M → (ix_R → Prop) → Prop} {l : Launch} {d : Nat} (H : ix_AllS l cX3_readUnit 4 RX3 d (some .boolean) (o_X3_readUnit TX3_readOpened)) (Q : ix_R → Prop) (ls : ix_L) (st : List ix_V) (μ : ix_M) : ix_Ev (o_X3_readUnit TX3_readOpened) Q (37, ls, st, μ) = ix_iload 1 38 (ix_Ev (o_X3_readUnit TX3_readOpened) Q) Q ls st μ := ix_Ev.eq H rfl ls st μ
theorem e_X3_readUnit_38 {TX3_readOpened : Nat × Int32 × Int32 → ix_M → (ix_R → Prop) → Prop} {l : Launch} {d : Nat} (H : ix_AllS l cX3_readUnit 4 RX3 d (some .boolean) (o_X3_readUnit TX3_readOpened)) (Q : ix_R → Prop) (ls : ix_L) (st : List ix_V) (μ : ix_M) : ix_Ev (o_X3_readUnit TX3_readOpened) Q (38, ls, st, μ) = ix_push (vi 1) 39 (ix_Ev (o_X3_readUnit TX3_readOpened) Q) Q ls st μ := ix_Ev.eq H rfl ls st μ
theorem e_X3_readUnit_39 {TX3_readOpened : Nat × Int32 × Int32 → ix_M → (ix_R → Prop) → Prop} {l : Launch} {d : Nat} (H : ix_AllS l cX3_readUnit 4 RX3 d (some .boolean) (o_X3_readUnit TX3_readOpened)) (Q : ix_R → Prop) (ls : ix_L) (st : List ix_V) (μ : ix_M) : ix_Ev (o_X3_readUnit TX3_readOpened) Q (39, ls, st, μ) = ix_bin (fun x y => x + y) 40 (ix_Ev (o_X3_readUnit TX3_readOpened) Q) Q ls st μ := ix_Ev.eq H rfl ls st μ
theorem e_X3_readUnit_40 {TX3_readOpened : Nat × Int32 × Int32 → ix_M → (ix_R → Prop) → Prop} {l : Launch} {d : Nat} (H : ix_AllS l cX3_readUnit 4 RX3 d (some .boolean) (o_X3_readUnit TX3_readOpened)) (Q : ix_R → Prop) (ls : ix_L) (st : List ix_V) (μ : ix_M) : ix_Ev (o_X3_readUnit TX3_readOpened) Q (40, ls, st, μ) = ocr_X3_readOpened TX3_readOpened 43 (ix_Ev (o_X3_readUnit TX3_readOpened) Q) Q ls st μ := ix_Ev.eq H rfl ls st μ
theorem e_X3_readUnit_43 {TX3_readOpened : Nat × Int32 × Int32 → ix_M → (ix_R → Prop) → Prop} {l : Launch} {d : Nat} (H : ix_AllS l cX3_readUnit 4 RX3 d (some .boolean) (o_X3_readUnit TX3_readOpened)) (Q : ix_R → Prop) (ls : ix_L) (st : List ix_V) (μ : ix_M) : ix_Ev (o_X3_readUnit TX3_readOpened) Q (43, ls, st, μ) = ix_if (fun x => x = 0) 50 46 (ix_Ev (o_X3_readUnit TX3_readOpened) Q) Q ls st μ := ix_Ev.eq H rfl ls st μ
theorem e_X3_readUnit_46 {TX3_readOpened : Nat × Int32 × Int32 → ix_M → (ix_R → Prop) → Prop} {l : Launch} {d : Nat} (H : ix_AllS l cX3_readUnit 4 RX3 d (some .boolean) (o_X3_readUnit TX3_readOpened)) (Q : ix_R → Prop) (ls : ix_L) (st : List ix_V) (μ : ix_M) : ix_Ev (o_X3_readUnit TX3_readOpened) Q (46, ls, st, μ) = ix_push (vi 1) 47 (ix_Ev (o_X3_readUnit TX3_readOpened) Q) Q ls st μ := ix_Ev.eq H rfl ls st μ
theorem e_X3_readUnit_47 {TX3_readOpened : Nat × Int32 × Int32 → ix_M → (ix_R → Prop) → Prop} {l : Launch} {d : Nat} (H : ix_AllS l cX3_readUnit 4 RX3 d (some .boolean) (o_X3_readUnit TX3_readOpened)) (Q : ix_R → Prop) (ls : ix_L) (st : List ix_V) (μ : ix_M) : ix_Ev (o_X3_readUnit TX3_readOpened) Q (47, ls, st, μ) = ix_goto 51 (ix_Ev (o_X3_readUnit TX3_readOpened) Q) Q ls st μ := ix_Ev.eq H rfl ls st μ
theorem e_X3_readUnit_50 {TX3_readOpened : Nat × Int32 × Int32 → ix_M → (ix_R → Prop) → Prop} {l : Launch} {d : Nat} (H : ix_AllS l cX3_readUnit 4 RX3 d (some .boolean) (o_X3_readUnit TX3_readOpened)) (Q : ix_R → Prop) (ls : ix_L) (st : List ix_V) (μ : ix_M) : ix_Ev (o_X3_readUnit TX3_readOpened) Q (50, ls, st, μ) = ix_push (vi 0) 51 (ix_Ev (o_X3_readUnit TX3_readOpened) Q) Q ls st μ := ix_Ev.eq H rfl ls st μ
theorem e_X3_readUnit_51 {TX3_readOpened : Nat × Int32 × Int32 → ix_M → (ix_R → Prop) → Prop} {l : Launch} {d : Nat} (H : ix_AllS l cX3_readUnit 4 RX3 d (some .boolean) (o_X3_readUnit TX3_readOpened)) (Q : ix_R → Prop) (ls : ix_L) (st : List ix_V) (μ : ix_M) : ix_Ev (o_X3_readUnit TX3_readOpened) Q (51, ls, st, μ) = ix_zret (ix_Ev (o_X3_readUnit TX3_readOpened) Q) Q ls st μ := ix_Ev.eq H rfl ls st μ
theorem e_X3_readUnit_52 {TX3_readOpened : Nat × Int32 × Int32 → ix_M → (ix_R → Prop) → Prop} {l : Launch} {d : Nat} (H : ix_AllS l cX3_readUnit 4 RX3 d (some .boolean) (o_X3_readUnit TX3_readOpened)) (Q : ix_R → Prop) (ls : ix_L) (st : List ix_V) (μ : ix_M) : ix_Ev (o_X3_readUnit TX3_readOpened) Q (52, ls, st, μ) = ix_iload 2 53 (ix_Ev (o_X3_readUnit TX3_readOpened) Q) Q ls st μ := ix_Ev.eq H rfl ls st μ
theorem e_X3_readUnit_53 {TX3_readOpened : Nat × Int32 × Int32 → ix_M → (ix_R → Prop) → Prop} {l : Launch} {d : Nat} (H : ix_AllS l cX3_readUnit 4 RX3 d (some .boolean) (o_X3_readUnit TX3_readOpened)) (Q : ix_R → Prop) (ls : ix_L) (st : List ix_V) (μ : ix_M) : ix_Ev (o_X3_readUnit TX3_readOpened) Q (53, ls, st, μ) = ix_if (fun x => 0 ≤ x) 60 56 (ix_Ev (o_X3_readUnit TX3_readOpened) Q) Q ls st μ := ix_Ev.eq H rfl ls st μ
theorem e_X3_readUnit_56 {TX3_readOpened : Nat × Int32 × Int32 → ix_M → (ix_R → Prop) → Prop} {l : Launch} {d : Nat} (H : ix_AllS l cX3_readUnit 4 RX3 d (some .boolean) (o_X3_readUnit TX3_readOpened)) (Q : ix_R → Prop) (ls : ix_L) (st : List ix_V) (μ : ix_M) : ix_Ev (o_X3_readUnit TX3_readOpened) Q (56, ls, st, μ) = ix_push (vi (-1)) 57 (ix_Ev (o_X3_readUnit TX3_readOpened) Q) Q ls st μ := ix_Ev.eq H rfl ls st μ
theorem e_X3_readUnit_57 {TX3_readOpened : Nat × Int32 × Int32 → ix_M → (ix_R → Prop) → Prop} {l : Launch} {d : Nat} (H : ix_AllS l cX3_readUnit 4 RX3 d (some .boolean) (o_X3_readUnit TX3_readOpened)) (Q : ix_R → Prop) (ls : ix_L) (st : List ix_V) (μ : ix_M) : ix_Ev (o_X3_readUnit TX3_readOpened) Q (57, ls, st, μ) = ix_goto 69 (ix_Ev (o_X3_readUnit TX3_readOpened) Q) Q ls st μ := ix_Ev.eq H rfl ls st μ
theorem e_X3_readUnit_60 {TX3_readOpened : Nat × Int32 × Int32 → ix_M → (ix_R → Prop) → Prop} {l : Launch} {d : Nat} (H : ix_AllS l cX3_readUnit 4 RX3 d (some .boolean) (o_X3_readUnit TX3_readOpened)) (Q : ix_R → Prop) (ls : ix_L) (st : List ix_V) (μ : ix_M) : ix_Ev (o_X3_readUnit TX3_readOpened) Q (60, ls, st, μ) = ix_aload 0 61 (ix_Ev (o_X3_readUnit TX3_readOpened) Q) Q ls st μ := ix_Ev.eq H rfl ls st μ
theorem e_X3_readUnit_61 {TX3_readOpened : Nat × Int32 × Int32 → ix_M → (ix_R → Prop) → Prop} {l : Launch} {d : Nat} (H : ix_AllS l cX3_readUnit 4 RX3 d (some .boolean) (o_X3_readUnit TX3_readOpened)) (Q : ix_R → Prop) (ls : ix_L) (st : List ix_V) (μ : ix_M) : ix_Ev (o_X3_readUnit TX3_readOpened) Q (61, ls, st, μ) = ix_gets 2 2 64 (ix_Ev (o_X3_readUnit TX3_readOpened) Q) Q ls st μ := ix_Ev.eq H rfl ls st μ
theorem e_X3_readUnit_64 {TX3_readOpened : Nat × Int32 × Int32 → ix_M → (ix_R → Prop) → Prop} {l : Launch} {d : Nat} (H : ix_AllS l cX3_readUnit 4 RX3 d (some .boolean) (o_X3_readUnit TX3_readOpened)) (Q : ix_R → Prop) (ls : ix_L) (st : List ix_V) (μ : ix_M) : ix_Ev (o_X3_readUnit TX3_readOpened) Q (64, ls, st, μ) = ix_iload 2 65 (ix_Ev (o_X3_readUnit TX3_readOpened) Q) Q ls st μ := ix_Ev.eq H rfl ls st μ
theorem e_X3_readUnit_65 {TX3_readOpened : Nat × Int32 × Int32 → ix_M → (ix_R → Prop) → Prop} {l : Launch} {d : Nat} (H : ix_AllS l cX3_readUnit 4 RX3 d (some .boolean) (o_X3_readUnit TX3_readOpened)) (Q : ix_R → Prop) (ls : ix_L) (st : List ix_V) (μ : ix_M) : ix_Ev (o_X3_readUnit TX3_readOpened) Q (65, ls, st, μ) = ix_un (fun x => (x.toUInt32 % 65536).toInt32) 66 (ix_Ev (o_X3_readUnit TX3_readOpened) Q) Q ls st μ := ix_Ev.eq H rfl ls st μ
theorem e_X3_readUnit_66 {TX3_readOpened : Nat × Int32 × Int32 → ix_M → (ix_R → Prop) → Prop} {l : Launch} {d : Nat} (H : ix_AllS l cX3_readUnit 4 RX3 d (some .boolean) (o_X3_readUnit TX3_readOpened)) (Q : ix_R → Prop) (ls : ix_L) (st : List ix_V) (μ : ix_M) : ix_Ev (o_X3_readUnit TX3_readOpened) Q (66, ls, st, μ) = oc_J0_indexOf_0f7a4 69 (ix_Ev (o_X3_readUnit TX3_readOpened) Q) Q ls st μ := ix_Ev.eq H rfl ls st μ
theorem e_X3_readUnit_69 {TX3_readOpened : Nat × Int32 × Int32 → ix_M → (ix_R → Prop) → Prop} {l : Launch} {d : Nat} (H : ix_AllS l cX3_readUnit 4 RX3 d (some .boolean) (o_X3_readUnit TX3_readOpened)) (Q : ix_R → Prop) (ls : ix_L) (st : List ix_V) (μ : ix_M) : ix_Ev (o_X3_readUnit TX3_readOpened) Q (69, ls, st, μ) = ix_istore 3 70 (ix_Ev (o_X3_readUnit TX3_readOpened) Q) Q ls st μ := ix_Ev.eq H rfl ls st μ
theorem e_X3_readUnit_70 {TX3_readOpened : Nat × Int32 × Int32 → ix_M → (ix_R → Prop) → Prop} {l : Launch} {d : Nat} (H : ix_AllS l cX3_readUnit 4 RX3 d (some .boolean) (o_X3_readUnit TX3_readOpened)) (Q : ix_R → Prop) (ls : ix_L) (st : List ix_V) (μ : ix_M) : ix_Ev (o_X3_readUnit TX3_readOpened) Q (70, ls, st, μ) = ix_iload 3 71 (ix_Ev (o_X3_readUnit TX3_readOpened) Q) Q ls st μ := ix_Ev.eq H rfl ls st μ
theorem e_X3_readUnit_71 {TX3_readOpened : Nat × Int32 × Int32 → ix_M → (ix_R → Prop) → Prop} {l : Launch} {d : Nat} (H : ix_AllS l cX3_readUnit 4 RX3 d (some .boolean) (o_X3_readUnit TX3_readOpened)) (Q : ix_R → Prop) (ls : ix_L) (st : List ix_V) (μ : ix_M) : ix_Ev (o_X3_readUnit TX3_readOpened) Q (71, ls, st, μ) = ix_if (fun x => 0 ≤ x) 76 74 (ix_Ev (o_X3_readUnit TX3_readOpened) Q) Q ls st μ := ix_Ev.eq H rfl ls st μ
theorem e_X3_readUnit_74 {TX3_readOpened : Nat × Int32 × Int32 → ix_M → (ix_R → Prop) → Prop} {l : Launch} {d : Nat} (H : ix_AllS l cX3_readUnit 4 RX3 d (some .boolean) (o_X3_readUnit TX3_readOpened)) (Q : ix_R → Prop) (ls : ix_L) (st : List ix_V) (μ : ix_M) : ix_Ev (o_X3_readUnit TX3_readOpened) Q (74, ls, st, μ) = ix_push (vi 0) 75 (ix_Ev (o_X3_readUnit TX3_readOpened) Q) Q ls st μ := ix_Ev.eq H rfl ls st μ
theorem e_X3_readUnit_75 {TX3_readOpened : Nat × Int32 × Int32 → ix_M → (ix_R → Prop) → Prop} {l : Launch} {d : Nat} (H : ix_AllS l cX3_readUnit 4 RX3 d (some .boolean) (o_X3_readUnit TX3_readOpened)) (Q : ix_R → Prop) (ls : ix_L) (st : List ix_V) (μ : ix_M) : ix_Ev (o_X3_readUnit TX3_readOpened) Q (75, ls, st, μ) = ix_zret (ix_Ev (o_X3_readUnit TX3_readOpened) Q) Q ls st μ := ix_Ev.eq H rfl ls st μ
theorem e_X3_readUnit_76 {TX3_readOpened : Nat × Int32 × Int32 → ix_M → (ix_R → Prop) → Prop} {l : Launch} {d : Nat} (H : ix_AllS l cX3_readUnit 4 RX3 d (some .boolean) (o_X3_readUnit TX3_readOpened)) (Q : ix_R → Prop) (ls : ix_L) (st : List ix_V) (μ : ix_M) : ix_Ev (o_X3_readUnit TX3_readOpened) Q (76, ls, st, μ) = ix_aload 0 77 (ix_Ev (o_X3_readUnit TX3_readOpened) Q) Q ls st μ := ix_Ev.eq H rfl ls st μ
theorem e_X3_readUnit_77 {TX3_readOpened : Nat × Int32 × Int32 → ix_M → (ix_R → Prop) → Prop} {l : Launch} {d : Nat} (H : ix_AllS l cX3_readUnit 4 RX3 d (some .boolean) (o_X3_readUnit TX3_readOpened)) (Q : ix_R → Prop) (ls : ix_L) (st : List ix_V) (μ : ix_M) : ix_Ev (o_X3_readUnit TX3_readOpened) Q (77, ls, st, μ) = ix_getr 2 6 (fun _ => 89) 80 (ix_Ev (o_X3_readUnit TX3_readOpened) Q) Q ls st μ := ix_Ev.eq H rfl ls st μ
theorem e_X3_readUnit_80 {TX3_readOpened : Nat × Int32 × Int32 → ix_M → (ix_R → Prop) → Prop} {l : Launch} {d : Nat} (H : ix_AllS l cX3_readUnit 4 RX3 d (some .boolean) (o_X3_readUnit TX3_readOpened)) (Q : ix_R → Prop) (ls : ix_L) (st : List ix_V) (μ : ix_M) : ix_Ev (o_X3_readUnit TX3_readOpened) Q (80, ls, st, μ) = ix_getr 6 3 (fun k => k + 1) 83 (ix_Ev (o_X3_readUnit TX3_readOpened) Q) Q ls st μ := ix_Ev.eq H rfl ls st μ
theorem e_X3_readUnit_83 {TX3_readOpened : Nat × Int32 × Int32 → ix_M → (ix_R → Prop) → Prop} {l : Launch} {d : Nat} (H : ix_AllS l cX3_readUnit 4 RX3 d (some .boolean) (o_X3_readUnit TX3_readOpened)) (Q : ix_R → Prop) (ls : ix_L) (st : List ix_V) (μ : ix_M) : ix_Ev (o_X3_readUnit TX3_readOpened) Q (83, ls, st, μ) = ix_push (vi (-1)) 84 (ix_Ev (o_X3_readUnit TX3_readOpened) Q) Q ls st μ := ix_Ev.eq H rfl ls st μ
theorem e_X3_readUnit_84 {TX3_readOpened : Nat × Int32 × Int32 → ix_M → (ix_R → Prop) → Prop} {l : Launch} {d : Nat} (H : ix_AllS l cX3_readUnit 4 RX3 d (some .boolean) (o_X3_readUnit TX3_readOpened)) (Q : ix_R → Prop) (ls : ix_L) (st : List ix_V) (μ : ix_M) : ix_Ev (o_X3_readUnit TX3_readOpened) Q (84, ls, st, μ) = ix_iload 3 85 (ix_Ev (o_X3_readUnit TX3_readOpened) Q) Q ls st μ := ix_Ev.eq H rfl ls st μ
theorem e_X3_readUnit_85 {TX3_readOpened : Nat × Int32 × Int32 → ix_M → (ix_R → Prop) → Prop} {l : Launch} {d : Nat} (H : ix_AllS l cX3_readUnit 4 RX3 d (some .boolean) (o_X3_readUnit TX3_readOpened)) (Q : ix_R → Prop) (ls : ix_L) (st : List ix_V) (μ : ix_M) : ix_Ev (o_X3_readUnit TX3_readOpened) Q (85, ls, st, μ) = ix_bin (fun x y => x - y) 86 (ix_Ev (o_X3_readUnit TX3_readOpened) Q) Q ls st μ := ix_Ev.eq H rfl ls st μ
theorem e_X3_readUnit_86 {TX3_readOpened : Nat × Int32 × Int32 → ix_M → (ix_R → Prop) → Prop} {l : Launch} {d : Nat} (H : ix_AllS l cX3_readUnit 4 RX3 d (some .boolean) (o_X3_readUnit TX3_readOpened)) (Q : ix_R → Prop) (ls : ix_L) (st : List ix_V) (μ : ix_M) : ix_Ev (o_X3_readUnit TX3_readOpened) Q (86, ls, st, μ) = oc_X4_add 89 (ix_Ev (o_X3_readUnit TX3_readOpened) Q) Q ls st μ := ix_Ev.eq H rfl ls st μ
theorem e_X3_readUnit_89 {TX3_readOpened : Nat × Int32 × Int32 → ix_M → (ix_R → Prop) → Prop} {l : Launch} {d : Nat} (H : ix_AllS l cX3_readUnit 4 RX3 d (some .boolean) (o_X3_readUnit TX3_readOpened)) (Q : ix_R → Prop) (ls : ix_L) (st : List ix_V) (μ : ix_M) : ix_Ev (o_X3_readUnit TX3_readOpened) Q (89, ls, st, μ) = ix_aload 0 90 (ix_Ev (o_X3_readUnit TX3_readOpened) Q) Q ls st μ := ix_Ev.eq H rfl ls st μ
theorem e_X3_readUnit_90 {TX3_readOpened : Nat × Int32 × Int32 → ix_M → (ix_R → Prop) → Prop} {l : Launch} {d : Nat} (H : ix_AllS l cX3_readUnit 4 RX3 d (some .boolean) (o_X3_readUnit TX3_readOpened)) (Q : ix_R → Prop) (ls : ix_L) (st : List ix_V) (μ : ix_M) : ix_Ev (o_X3_readUnit TX3_readOpened) Q (90, ls, st, μ) = ix_dup 91 (ix_Ev (o_X3_readUnit TX3_readOpened) Q) Q ls st μ := ix_Ev.eq H rfl ls st μ
theorem e_X3_readUnit_91 {TX3_readOpened : Nat × Int32 × Int32 → ix_M → (ix_R → Prop) → Prop} {l : Launch} {d : Nat} (H : ix_AllS l cX3_readUnit 4 RX3 d (some .boolean) (o_X3_readUnit TX3_readOpened)) (Q : ix_R → Prop) (ls : ix_L) (st : List ix_V) (μ : ix_M) : ix_Ev (o_X3_readUnit TX3_readOpened) Q (91, ls, st, μ) = ix_geti 2 3 94 (ix_Ev (o_X3_readUnit TX3_readOpened) Q) Q ls st μ := ix_Ev.eq H rfl ls st μ
theorem e_X3_readUnit_94 {TX3_readOpened : Nat × Int32 × Int32 → ix_M → (ix_R → Prop) → Prop} {l : Launch} {d : Nat} (H : ix_AllS l cX3_readUnit 4 RX3 d (some .boolean) (o_X3_readUnit TX3_readOpened)) (Q : ix_R → Prop) (ls : ix_L) (st : List ix_V) (μ : ix_M) : ix_Ev (o_X3_readUnit TX3_readOpened) Q (94, ls, st, μ) = ix_push (vi 1) 95 (ix_Ev (o_X3_readUnit TX3_readOpened) Q) Q ls st μ := ix_Ev.eq H rfl ls st μ
theorem e_X3_readUnit_95 {TX3_readOpened : Nat × Int32 × Int32 → ix_M → (ix_R → Prop) → Prop} {l : Launch} {d : Nat} (H : ix_AllS l cX3_readUnit 4 RX3 d (some .boolean) (o_X3_readUnit TX3_readOpened)) (Q : ix_R → Prop) (ls : ix_L) (st : List ix_V) (μ : ix_M) : ix_Ev (o_X3_readUnit TX3_readOpened) Q (95, ls, st, μ) = ix_bin (fun x y => x + y) 96 (ix_Ev (o_X3_readUnit TX3_readOpened) Q) Q ls st μ := ix_Ev.eq H rfl ls st μ
theorem e_X3_readUnit_96 {TX3_readOpened : Nat × Int32 × Int32 → ix_M → (ix_R → Prop) → Prop} {l : Launch} {d : Nat} (H : ix_AllS l cX3_readUnit 4 RX3 d (some .boolean) (o_X3_readUnit TX3_readOpened)) (Q : ix_R → Prop) (ls : ix_L) (st : List ix_V) (μ : ix_M) : ix_Ev (o_X3_readUnit TX3_readOpened) Q (96, ls, st, μ) = ix_puti 2 3 99 (ix_Ev (o_X3_readUnit TX3_readOpened) Q) Q ls st μ := ix_Ev.eq H rfl ls st μ
theorem e_X3_readUnit_99 {TX3_readOpened : Nat × Int32 × Int32 → ix_M → (ix_R → Prop) → Prop} {l : Launch} {d : Nat} (H : ix_AllS l cX3_readUnit 4 RX3 d (some .boolean) (o_X3_readUnit TX3_readOpened)) (Q : ix_R → Prop) (ls : ix_L) (st : List ix_V) (μ : ix_M) : ix_Ev (o_X3_readUnit TX3_readOpened) Q (99, ls, st, μ) = ix_push (vi 1) 100 (ix_Ev (o_X3_readUnit TX3_readOpened) Q) Q ls st μ := ix_Ev.eq H rfl ls st μ
theorem e_X3_readUnit_100 {TX3_readOpened : Nat × Int32 × Int32 → ix_M → (ix_R → Prop) → Prop} {l : Launch} {d : Nat} (H : ix_AllS l cX3_readUnit 4 RX3 d (some .boolean) (o_X3_readUnit TX3_readOpened)) (Q : ix_R → Prop) (ls : ix_L) (st : List ix_V) (μ : ix_M) : ix_Ev (o_X3_readUnit TX3_readOpened) Q (100, ls, st, μ) = ix_zret (ix_Ev (o_X3_readUnit TX3_readOpened) Q) Q ls st μ := ix_Ev.eq H rfl ls st μ
def o_X3_readOpened (TX3_readUnit : Nat × Int32 → ix_M → (ix_R → Prop) → Prop) (TX3_readLevel : Nat × Int32 × Int32 → ix_M → (ix_R → Prop) → Prop) : List (Nat × ix_Op) := [
  (0, ix_aload 0 1),
  (1, ix_dup 2),
  (2, ix_geti 2 3 5),
  (5, ix_push (vi 1) 6),
  (6, ix_bin (fun x y => x + y) 7),
  (7, ix_puti 2 3 10),
  (10, ix_iload 1 11),
  (11, ix_push (vi 33) 13),
  (13, ix_cmp (fun x y => x = y) 16 40),
  (16, ix_aload 0 17),
  (17, ix_iload 2 18),
  (18, ocr_X3_readUnit TX3_readUnit 21),
  (21, ix_if (fun x => x = 0) 24 26),
  (24, ix_push (vi 0) 25),
  (25, ix_zret),
  (26, ix_aload 0 27),
  (27, ix_getr 2 6 (fun _ => 89) 30),
  (30, ix_getr 6 3 (fun k => k + 1) 33),
  (33, ix_iload 1 34),
  (34, ix_un (fun x => -x) 35),
  (35, oc_X4_add 38),
  (38, ix_push (vi 1) 39),
  (39, ix_zret),
  (40, ix_aload 0 41),
  (41, ix_push (vi 0) 42),
  (42, ix_iload 2 43),
  (43, ocr_X3_readLevel TX3_readLevel 46),
  (46, ix_if (fun x => x = 0) 58 49),
  (49, ix_aload 0 50),
  (50, oc_X3_next 53),
  (53, ix_push (vi 41) 55),
  (55, ix_cmp (fun x y => x = y) 60 58),
  (58, ix_push (vi 0) 59),
  (59, ix_zret),
  (60, ix_aload 0 61),
  (61, ix_dup 62),
  (62, ix_geti 2 3 65),
  (65, ix_push (vi 1) 66),
  (66, ix_bin (fun x y => x + y) 67),
  (67, ix_puti 2 3 70),
  (70, ix_push (vi 1) 71),
  (71, ix_zret)]
set_option maxRecDepth 20000 in
theorem a_X3_readOpened (l : Launch) (d : Nat) (hlev : 6 ≤ d) {TX3_readUnit : Nat × Int32 → ix_M → (ix_R → Prop) → Prop} {d_X3_readUnit : Nat} (h_X3_readUnit : ix_Ct l yX3_readUnit cX3_readUnit 4 (some .boolean) d_X3_readUnit sh_X3_readUnit TX3_readUnit) (hl_X3_readUnit : d_X3_readUnit < d) (hm_X3_readUnit : ∀ x μ Q Q', (∀ r, Q r → Q' r) → TX3_readUnit x μ Q → TX3_readUnit x μ Q') {TX3_readLevel : Nat × Int32 × Int32 → ix_M → (ix_R → Prop) → Prop} {d_X3_readLevel : Nat} (h_X3_readLevel : ix_Ct l yX3_readLevel cX3_readLevel 6 (some .boolean) d_X3_readLevel sh_X3_readLevel TX3_readLevel) (hl_X3_readLevel : d_X3_readLevel < d) (hm_X3_readLevel : ∀ x μ Q Q', (∀ r, Q r → Q' r) → TX3_readLevel x μ Q → TX3_readLevel x μ Q') : ix_AllS l cX3_readOpened 3 RX3 d (some .boolean) (o_X3_readOpened TX3_readUnit TX3_readLevel) :=
  .cons (ix_s_aload_n dX3_readOpened_0 rfl) <|
  .cons (ix_s_dup dX3_readOpened_1) <|
  .cons (ix_s_geti (j := 3) tu_X3 rfl (by decide) (by decide) tw_180 rfl ts_2_3_i dX3_readOpened_2) <|
  .cons (ix_s_iconst dX3_readOpened_5 (by decide +kernel)) <|
  .cons (ix_s_iadd dX3_readOpened_6) <|
  .cons (ix_s_puti (j := 3) tu_X3 tyX3_ok nmX3 rfl (by decide) (by decide) tw_180 rfl rfl (by decide +kernel) ts_2_3_p dX3_readOpened_7) <|
  .cons (ix_s_iload_n dX3_readOpened_10 rfl) <|
  .cons (ix_s_bipush dX3_readOpened_11 (by decide +kernel)) <|
  .cons (ix_s_cmp_ne dX3_readOpened_13 (by decide)) <|
  .cons (ix_s_aload_n dX3_readOpened_16 rfl) <|
  .cons (ix_s_iload_n dX3_readOpened_17 rfl) <|
  .cons (ocr_X3_readUnit_s hm_X3_readUnit (ix_s_callv (t := 2) h_X3_readUnit hl_X3_readUnit (by decide) tw_466 tw_8 tw_463 tw_465 tp_3 ⟨by decide, by decide, by decide +kernel⟩ (by decide) rfl rfl (fun _ => ⟨_, _, rfl, rfl⟩) dX3_readOpened_18)) <|
  .cons (ix_s_if_ne dX3_readOpened_21 (by decide)) <|
  .cons (ix_s_iconst dX3_readOpened_24 (by decide +kernel)) <|
  .cons (ix_s_zret dX3_readOpened_25 rfl) <|
  .cons (ix_s_aload_n dX3_readOpened_26 rfl) <|
  .cons (ix_s_getr (j := 0) tu_X3 rfl (by decide) (by decide) tw_176 rfl ts_2_0_r dX3_readOpened_27) <|
  .cons (ix_s_getr (j := 0) tu_X7 rfl (by decide) (by decide) tw_120 rfl ts_6_0_r dX3_readOpened_30) <|
  .cons (ix_s_iload_n dX3_readOpened_33 rfl) <|
  .cons (ix_s_ineg dX3_readOpened_34) <|
  .cons (oc_X4_add_s (ix_s_callv (t := 3) (k_X4_add l) (by omega) (by decide) tw_436 tw_6 tw_482 tw_434 tw_435 ⟨by decide, by decide, by decide +kernel⟩ (by decide) rfl rfl (fun _ => ⟨_, _, rfl, rfl⟩) dX3_readOpened_35)) <|
  .cons (ix_s_iconst dX3_readOpened_38 (by decide +kernel)) <|
  .cons (ix_s_zret dX3_readOpened_39 rfl) <|
  .cons (ix_s_aload_n dX3_readOpened_40 rfl) <|
  .cons (ix_s_iconst dX3_readOpened_41 (by decide +kernel)) <|
  .cons (ix_s_iload_n dX3_readOpened_42 rfl) <|
  .cons (ocr_X3_readLevel_s hm_X3_readLevel (ix_s_callv (t := 2) h_X3_readLevel hl_X3_readLevel (by decide) tw_462 tw_8 tw_459 tw_461 tp_2 ⟨by decide, by decide, by decide +kernel⟩ (by decide) rfl rfl (fun _ => ⟨_, _, rfl, rfl⟩) dX3_readOpened_43)) <|
  .cons (ix_s_if_eq dX3_readOpened_46 (by decide)) <|
  .cons (ix_s_aload_n dX3_readOpened_49 rfl) <|
  .cons (oc_X3_next_s (ix_s_callv (t := 2) (k_X3_next l) (by omega) (by decide) tw_470 tw_8 tw_467 tw_469 tp_4 ⟨by decide, by decide, by decide +kernel⟩ (by decide) rfl rfl (fun _ => ⟨_, _, rfl, rfl⟩) dX3_readOpened_50)) <|
  .cons (ix_s_bipush dX3_readOpened_53 (by decide +kernel)) <|
  .cons (ix_s_cmp_eq dX3_readOpened_55 (by decide)) <|
  .cons (ix_s_iconst dX3_readOpened_58 (by decide +kernel)) <|
  .cons (ix_s_zret dX3_readOpened_59 rfl) <|
  .cons (ix_s_aload_n dX3_readOpened_60 rfl) <|
  .cons (ix_s_dup dX3_readOpened_61) <|
  .cons (ix_s_geti (j := 3) tu_X3 rfl (by decide) (by decide) tw_180 rfl ts_2_3_i dX3_readOpened_62) <|
  .cons (ix_s_iconst dX3_readOpened_65 (by decide +kernel)) <|
  .cons (ix_s_iadd dX3_readOpened_66) <|
  .cons (ix_s_puti (j := 3) tu_X3 tyX3_ok nmX3 rfl (by decide) (by decide) tw_180 rfl rfl (by decide +kernel) ts_2_3_p dX3_readOpened_67) <|
  .cons (ix_s_iconst dX3_readOpened_70 (by decide +kernel)) <|
  .cons (ix_s_zret dX3_readOpened_71 rfl) <| .nil
theorem e_X3_readOpened_0 {TX3_readUnit : Nat × Int32 → ix_M → (ix_R → Prop) → Prop} {TX3_readLevel : Nat × Int32 × Int32 → ix_M → (ix_R → Prop) → Prop} {l : Launch} {d : Nat} (H : ix_AllS l cX3_readOpened 3 RX3 d (some .boolean) (o_X3_readOpened TX3_readUnit TX3_readLevel)) (Q : ix_R → Prop) (ls : ix_L) (st : List ix_V) (μ : ix_M) : ix_Ev (o_X3_readOpened TX3_readUnit TX3_readLevel) Q (0, ls, st, μ) = ix_aload 0 1 (ix_Ev (o_X3_readOpened TX3_readUnit TX3_readLevel) Q) Q ls st μ := ix_Ev.eq H rfl ls st μ
theorem e_X3_readOpened_1 {TX3_readUnit : Nat × Int32 → ix_M → (ix_R → Prop) → Prop} {TX3_readLevel : Nat × Int32 × Int32 → ix_M → (ix_R → Prop) → Prop} {l : Launch} {d : Nat} (H : ix_AllS l cX3_readOpened 3 RX3 d (some .boolean) (o_X3_readOpened TX3_readUnit TX3_readLevel)) (Q : ix_R → Prop) (ls : ix_L) (st : List ix_V) (μ : ix_M) : ix_Ev (o_X3_readOpened TX3_readUnit TX3_readLevel) Q (1, ls, st, μ) = ix_dup 2 (ix_Ev (o_X3_readOpened TX3_readUnit TX3_readLevel) Q) Q ls st μ := ix_Ev.eq H rfl ls st μ
theorem e_X3_readOpened_2 {TX3_readUnit : Nat × Int32 → ix_M → (ix_R → Prop) → Prop} {TX3_readLevel : Nat × Int32 × Int32 → ix_M → (ix_R → Prop) → Prop} {l : Launch} {d : Nat} (H : ix_AllS l cX3_readOpened 3 RX3 d (some .boolean) (o_X3_readOpened TX3_readUnit TX3_readLevel)) (Q : ix_R → Prop) (ls : ix_L) (st : List ix_V) (μ : ix_M) : ix_Ev (o_X3_readOpened TX3_readUnit TX3_readLevel) Q (2, ls, st, μ) = ix_geti 2 3 5 (ix_Ev (o_X3_readOpened TX3_readUnit TX3_readLevel) Q) Q ls st μ := ix_Ev.eq H rfl ls st μ
theorem e_X3_readOpened_5 {TX3_readUnit : Nat × Int32 → ix_M → (ix_R → Prop) → Prop} {TX3_readLevel : Nat × Int32 × Int32 → ix_M → (ix_R → Prop) → Prop} {l : Launch} {d : Nat} (H : ix_AllS l cX3_readOpened 3 RX3 d (some .boolean) (o_X3_readOpened TX3_readUnit TX3_readLevel)) (Q : ix_R → Prop) (ls : ix_L) (st : List ix_V) (μ : ix_M) : ix_Ev (o_X3_readOpened TX3_readUnit TX3_readLevel) Q (5, ls, st, μ) = ix_push (vi 1) 6 (ix_Ev (o_X3_readOpened TX3_readUnit TX3_readLevel) Q) Q ls st μ := ix_Ev.eq H rfl ls st μ
theorem e_X3_readOpened_6 {TX3_readUnit : Nat × Int32 → ix_M → (ix_R → Prop) → Prop} {TX3_readLevel : Nat × Int32 × Int32 → ix_M → (ix_R → Prop) → Prop} {l : Launch} {d : Nat} (H : ix_AllS l cX3_readOpened 3 RX3 d (some .boolean) (o_X3_readOpened TX3_readUnit TX3_readLevel)) (Q : ix_R → Prop) (ls : ix_L) (st : List ix_V) (μ : ix_M) : ix_Ev (o_X3_readOpened TX3_readUnit TX3_readLevel) Q (6, ls, st, μ) = ix_bin (fun x y => x + y) 7 (ix_Ev (o_X3_readOpened TX3_readUnit TX3_readLevel) Q) Q ls st μ := ix_Ev.eq H rfl ls st μ
theorem e_X3_readOpened_7 {TX3_readUnit : Nat × Int32 → ix_M → (ix_R → Prop) → Prop} {TX3_readLevel : Nat × Int32 × Int32 → ix_M → (ix_R → Prop) → Prop} {l : Launch} {d : Nat} (H : ix_AllS l cX3_readOpened 3 RX3 d (some .boolean) (o_X3_readOpened TX3_readUnit TX3_readLevel)) (Q : ix_R → Prop) (ls : ix_L) (st : List ix_V) (μ : ix_M) : ix_Ev (o_X3_readOpened TX3_readUnit TX3_readLevel) Q (7, ls, st, μ) = ix_puti 2 3 10 (ix_Ev (o_X3_readOpened TX3_readUnit TX3_readLevel) Q) Q ls st μ := ix_Ev.eq H rfl ls st μ
theorem e_X3_readOpened_10 {TX3_readUnit : Nat × Int32 → ix_M → (ix_R → Prop) → Prop} {TX3_readLevel : Nat × Int32 × Int32 → ix_M → (ix_R → Prop) → Prop} {l : Launch} {d : Nat} (H : ix_AllS l cX3_readOpened 3 RX3 d (some .boolean) (o_X3_readOpened TX3_readUnit TX3_readLevel)) (Q : ix_R → Prop) (ls : ix_L) (st : List ix_V) (μ : ix_M) : ix_Ev (o_X3_readOpened TX3_readUnit TX3_readLevel) Q (10, ls, st, μ) = ix_iload 1 11 (ix_Ev (o_X3_readOpened TX3_readUnit TX3_readLevel) Q) Q ls st μ := ix_Ev.eq H rfl ls st μ
theorem e_X3_readOpened_11 {TX3_readUnit : Nat × Int32 → ix_M → (ix_R → Prop) → Prop} {TX3_readLevel : Nat × Int32 × Int32 → ix_M → (ix_R → Prop) → Prop} {l : Launch} {d : Nat} (H : ix_AllS l cX3_readOpened 3 RX3 d (some .boolean) (o_X3_readOpened TX3_readUnit TX3_readLevel)) (Q : ix_R → Prop) (ls : ix_L) (st : List ix_V) (μ : ix_M) : ix_Ev (o_X3_readOpened TX3_readUnit TX3_readLevel) Q (11, ls, st, μ) = ix_push (vi 33) 13 (ix_Ev (o_X3_readOpened TX3_readUnit TX3_readLevel) Q) Q ls st μ := ix_Ev.eq H rfl ls st μ
theorem e_X3_readOpened_13 {TX3_readUnit : Nat × Int32 → ix_M → (ix_R → Prop) → Prop} {TX3_readLevel : Nat × Int32 × Int32 → ix_M → (ix_R → Prop) → Prop} {l : Launch} {d : Nat} (H : ix_AllS l cX3_readOpened 3 RX3 d (some .boolean) (o_X3_readOpened TX3_readUnit TX3_readLevel)) (Q : ix_R → Prop) (ls : ix_L) (st : List ix_V) (μ : ix_M) : ix_Ev (o_X3_readOpened TX3_readUnit TX3_readLevel) Q (13, ls, st, μ) = ix_cmp (fun x y => x = y) 16 40 (ix_Ev (o_X3_readOpened TX3_readUnit TX3_readLevel) Q) Q ls st μ := ix_Ev.eq H rfl ls st μ
theorem e_X3_readOpened_16 {TX3_readUnit : Nat × Int32 → ix_M → (ix_R → Prop) → Prop} {TX3_readLevel : Nat × Int32 × Int32 → ix_M → (ix_R → Prop) → Prop} {l : Launch} {d : Nat} (H : ix_AllS l cX3_readOpened 3 RX3 d (some .boolean) (o_X3_readOpened TX3_readUnit TX3_readLevel)) (Q : ix_R → Prop) (ls : ix_L) (st : List ix_V) (μ : ix_M) : ix_Ev (o_X3_readOpened TX3_readUnit TX3_readLevel) Q (16, ls, st, μ) = ix_aload 0 17 (ix_Ev (o_X3_readOpened TX3_readUnit TX3_readLevel) Q) Q ls st μ := ix_Ev.eq H rfl ls st μ
theorem e_X3_readOpened_17 {TX3_readUnit : Nat × Int32 → ix_M → (ix_R → Prop) → Prop} {TX3_readLevel : Nat × Int32 × Int32 → ix_M → (ix_R → Prop) → Prop} {l : Launch} {d : Nat} (H : ix_AllS l cX3_readOpened 3 RX3 d (some .boolean) (o_X3_readOpened TX3_readUnit TX3_readLevel)) (Q : ix_R → Prop) (ls : ix_L) (st : List ix_V) (μ : ix_M) : ix_Ev (o_X3_readOpened TX3_readUnit TX3_readLevel) Q (17, ls, st, μ) = ix_iload 2 18 (ix_Ev (o_X3_readOpened TX3_readUnit TX3_readLevel) Q) Q ls st μ := ix_Ev.eq H rfl ls st μ
theorem e_X3_readOpened_18 {TX3_readUnit : Nat × Int32 → ix_M → (ix_R → Prop) → Prop} {TX3_readLevel : Nat × Int32 × Int32 → ix_M → (ix_R → Prop) → Prop} {l : Launch} {d : Nat} (H : ix_AllS l cX3_readOpened 3 RX3 d (some .boolean) (o_X3_readOpened TX3_readUnit TX3_readLevel)) (Q : ix_R → Prop) (ls : ix_L) (st : List ix_V) (μ : ix_M) : ix_Ev (o_X3_readOpened TX3_readUnit TX3_readLevel) Q (18, ls, st, μ) = ocr_X3_readUnit TX3_readUnit 21 (ix_Ev (o_X3_readOpened TX3_readUnit TX3_readLevel) Q) Q ls st μ := ix_Ev.eq H rfl ls st μ
theorem e_X3_readOpened_21 {TX3_readUnit : Nat × Int32 → ix_M → (ix_R → Prop) → Prop} {TX3_readLevel : Nat × Int32 × Int32 → ix_M → (ix_R → Prop) → Prop} {l : Launch} {d : Nat} (H : ix_AllS l cX3_readOpened 3 RX3 d (some .boolean) (o_X3_readOpened TX3_readUnit TX3_readLevel)) (Q : ix_R → Prop) (ls : ix_L) (st : List ix_V) (μ : ix_M) : ix_Ev (o_X3_readOpened TX3_readUnit TX3_readLevel) Q (21, ls, st, μ) = ix_if (fun x => x = 0) 24 26 (ix_Ev (o_X3_readOpened TX3_readUnit TX3_readLevel) Q) Q ls st μ := ix_Ev.eq H rfl ls st μ
theorem e_X3_readOpened_24 {TX3_readUnit : Nat × Int32 → ix_M → (ix_R → Prop) → Prop} {TX3_readLevel : Nat × Int32 × Int32 → ix_M → (ix_R → Prop) → Prop} {l : Launch} {d : Nat} (H : ix_AllS l cX3_readOpened 3 RX3 d (some .boolean) (o_X3_readOpened TX3_readUnit TX3_readLevel)) (Q : ix_R → Prop) (ls : ix_L) (st : List ix_V) (μ : ix_M) : ix_Ev (o_X3_readOpened TX3_readUnit TX3_readLevel) Q (24, ls, st, μ) = ix_push (vi 0) 25 (ix_Ev (o_X3_readOpened TX3_readUnit TX3_readLevel) Q) Q ls st μ := ix_Ev.eq H rfl ls st μ
theorem e_X3_readOpened_25 {TX3_readUnit : Nat × Int32 → ix_M → (ix_R → Prop) → Prop} {TX3_readLevel : Nat × Int32 × Int32 → ix_M → (ix_R → Prop) → Prop} {l : Launch} {d : Nat} (H : ix_AllS l cX3_readOpened 3 RX3 d (some .boolean) (o_X3_readOpened TX3_readUnit TX3_readLevel)) (Q : ix_R → Prop) (ls : ix_L) (st : List ix_V) (μ : ix_M) : ix_Ev (o_X3_readOpened TX3_readUnit TX3_readLevel) Q (25, ls, st, μ) = ix_zret (ix_Ev (o_X3_readOpened TX3_readUnit TX3_readLevel) Q) Q ls st μ := ix_Ev.eq H rfl ls st μ
theorem e_X3_readOpened_26 {TX3_readUnit : Nat × Int32 → ix_M → (ix_R → Prop) → Prop} {TX3_readLevel : Nat × Int32 × Int32 → ix_M → (ix_R → Prop) → Prop} {l : Launch} {d : Nat} (H : ix_AllS l cX3_readOpened 3 RX3 d (some .boolean) (o_X3_readOpened TX3_readUnit TX3_readLevel)) (Q : ix_R → Prop) (ls : ix_L) (st : List ix_V) (μ : ix_M) : ix_Ev (o_X3_readOpened TX3_readUnit TX3_readLevel) Q (26, ls, st, μ) = ix_aload 0 27 (ix_Ev (o_X3_readOpened TX3_readUnit TX3_readLevel) Q) Q ls st μ := ix_Ev.eq H rfl ls st μ
theorem e_X3_readOpened_27 {TX3_readUnit : Nat × Int32 → ix_M → (ix_R → Prop) → Prop} {TX3_readLevel : Nat × Int32 × Int32 → ix_M → (ix_R → Prop) → Prop} {l : Launch} {d : Nat} (H : ix_AllS l cX3_readOpened 3 RX3 d (some .boolean) (o_X3_readOpened TX3_readUnit TX3_readLevel)) (Q : ix_R → Prop) (ls : ix_L) (st : List ix_V) (μ : ix_M) : ix_Ev (o_X3_readOpened TX3_readUnit TX3_readLevel) Q (27, ls, st, μ) = ix_getr 2 6 (fun _ => 89) 30 (ix_Ev (o_X3_readOpened TX3_readUnit TX3_readLevel) Q) Q ls st μ := ix_Ev.eq H rfl ls st μ
theorem e_X3_readOpened_30 {TX3_readUnit : Nat × Int32 → ix_M → (ix_R → Prop) → Prop} {TX3_readLevel : Nat × Int32 × Int32 → ix_M → (ix_R → Prop) → Prop} {l : Launch} {d : Nat} (H : ix_AllS l cX3_readOpened 3 RX3 d (some .boolean) (o_X3_readOpened TX3_readUnit TX3_readLevel)) (Q : ix_R → Prop) (ls : ix_L) (st : List ix_V) (μ : ix_M) : ix_Ev (o_X3_readOpened TX3_readUnit TX3_readLevel) Q (30, ls, st, μ) = ix_getr 6 3 (fun k => k + 1) 33 (ix_Ev (o_X3_readOpened TX3_readUnit TX3_readLevel) Q) Q ls st μ := ix_Ev.eq H rfl ls st μ
theorem e_X3_readOpened_33 {TX3_readUnit : Nat × Int32 → ix_M → (ix_R → Prop) → Prop} {TX3_readLevel : Nat × Int32 × Int32 → ix_M → (ix_R → Prop) → Prop} {l : Launch} {d : Nat} (H : ix_AllS l cX3_readOpened 3 RX3 d (some .boolean) (o_X3_readOpened TX3_readUnit TX3_readLevel)) (Q : ix_R → Prop) (ls : ix_L) (st : List ix_V) (μ : ix_M) : ix_Ev (o_X3_readOpened TX3_readUnit TX3_readLevel) Q (33, ls, st, μ) = ix_iload 1 34 (ix_Ev (o_X3_readOpened TX3_readUnit TX3_readLevel) Q) Q ls st μ := ix_Ev.eq H rfl ls st μ
theorem e_X3_readOpened_34 {TX3_readUnit : Nat × Int32 → ix_M → (ix_R → Prop) → Prop} {TX3_readLevel : Nat × Int32 × Int32 → ix_M → (ix_R → Prop) → Prop} {l : Launch} {d : Nat} (H : ix_AllS l cX3_readOpened 3 RX3 d (some .boolean) (o_X3_readOpened TX3_readUnit TX3_readLevel)) (Q : ix_R → Prop) (ls : ix_L) (st : List ix_V) (μ : ix_M) : ix_Ev (o_X3_readOpened TX3_readUnit TX3_readLevel) Q (34, ls, st, μ) = ix_un (fun x => -x) 35 (ix_Ev (o_X3_readOpened TX3_readUnit TX3_readLevel) Q) Q ls st μ := ix_Ev.eq H rfl ls st μ
theorem e_X3_readOpened_35 {TX3_readUnit : Nat × Int32 → ix_M → (ix_R → Prop) → Prop} {TX3_readLevel : Nat × Int32 × Int32 → ix_M → (ix_R → Prop) → Prop} {l : Launch} {d : Nat} (H : ix_AllS l cX3_readOpened 3 RX3 d (some .boolean) (o_X3_readOpened TX3_readUnit TX3_readLevel)) (Q : ix_R → Prop) (ls : ix_L) (st : List ix_V) (μ : ix_M) : ix_Ev (o_X3_readOpened TX3_readUnit TX3_readLevel) Q (35, ls, st, μ) = oc_X4_add 38 (ix_Ev (o_X3_readOpened TX3_readUnit TX3_readLevel) Q) Q ls st μ := ix_Ev.eq H rfl ls st μ
theorem e_X3_readOpened_38 {TX3_readUnit : Nat × Int32 → ix_M → (ix_R → Prop) → Prop} {TX3_readLevel : Nat × Int32 × Int32 → ix_M → (ix_R → Prop) → Prop} {l : Launch} {d : Nat} (H : ix_AllS l cX3_readOpened 3 RX3 d (some .boolean) (o_X3_readOpened TX3_readUnit TX3_readLevel)) (Q : ix_R → Prop) (ls : ix_L) (st : List ix_V) (μ : ix_M) : ix_Ev (o_X3_readOpened TX3_readUnit TX3_readLevel) Q (38, ls, st, μ) = ix_push (vi 1) 39 (ix_Ev (o_X3_readOpened TX3_readUnit TX3_readLevel) Q) Q ls st μ := ix_Ev.eq H rfl ls st μ
theorem e_X3_readOpened_39 {TX3_readUnit : Nat × Int32 → ix_M → (ix_R → Prop) → Prop} {TX3_readLevel : Nat × Int32 × Int32 → ix_M → (ix_R → Prop) → Prop} {l : Launch} {d : Nat} (H : ix_AllS l cX3_readOpened 3 RX3 d (some .boolean) (o_X3_readOpened TX3_readUnit TX3_readLevel)) (Q : ix_R → Prop) (ls : ix_L) (st : List ix_V) (μ : ix_M) : ix_Ev (o_X3_readOpened TX3_readUnit TX3_readLevel) Q (39, ls, st, μ) = ix_zret (ix_Ev (o_X3_readOpened TX3_readUnit TX3_readLevel) Q) Q ls st μ := ix_Ev.eq H rfl ls st μ
theorem e_X3_readOpened_40 {TX3_readUnit : Nat × Int32 → ix_M → (ix_R → Prop) → Prop} {TX3_readLevel : Nat × Int32 × Int32 → ix_M → (ix_R → Prop) → Prop} {l : Launch} {d : Nat} (H : ix_AllS l cX3_readOpened 3 RX3 d (some .boolean) (o_X3_readOpened TX3_readUnit TX3_readLevel)) (Q : ix_R → Prop) (ls : ix_L) (st : List ix_V) (μ : ix_M) : ix_Ev (o_X3_readOpened TX3_readUnit TX3_readLevel) Q (40, ls, st, μ) = ix_aload 0 41 (ix_Ev (o_X3_readOpened TX3_readUnit TX3_readLevel) Q) Q ls st μ := ix_Ev.eq H rfl ls st μ
theorem e_X3_readOpened_41 {TX3_readUnit : Nat × Int32 → ix_M → (ix_R → Prop) → Prop} {TX3_readLevel : Nat × Int32 × Int32 → ix_M → (ix_R → Prop) → Prop} {l : Launch} {d : Nat} (H : ix_AllS l cX3_readOpened 3 RX3 d (some .boolean) (o_X3_readOpened TX3_readUnit TX3_readLevel)) (Q : ix_R → Prop) (ls : ix_L) (st : List ix_V) (μ : ix_M) : ix_Ev (o_X3_readOpened TX3_readUnit TX3_readLevel) Q (41, ls, st, μ) = ix_push (vi 0) 42 (ix_Ev (o_X3_readOpened TX3_readUnit TX3_readLevel) Q) Q ls st μ := ix_Ev.eq H rfl ls st μ
theorem e_X3_readOpened_42 {TX3_readUnit : Nat × Int32 → ix_M → (ix_R → Prop) → Prop} {TX3_readLevel : Nat × Int32 × Int32 → ix_M → (ix_R → Prop) → Prop} {l : Launch} {d : Nat} (H : ix_AllS l cX3_readOpened 3 RX3 d (some .boolean) (o_X3_readOpened TX3_readUnit TX3_readLevel)) (Q : ix_R → Prop) (ls : ix_L) (st : List ix_V) (μ : ix_M) : ix_Ev (o_X3_readOpened TX3_readUnit TX3_readLevel) Q (42, ls, st, μ) = ix_iload 2 43 (ix_Ev (o_X3_readOpened TX3_readUnit TX3_readLevel) Q) Q ls st μ := ix_Ev.eq H rfl ls st μ
theorem e_X3_readOpened_43 {TX3_readUnit : Nat × Int32 → ix_M → (ix_R → Prop) → Prop} {TX3_readLevel : Nat × Int32 × Int32 → ix_M → (ix_R → Prop) → Prop} {l : Launch} {d : Nat} (H : ix_AllS l cX3_readOpened 3 RX3 d (some .boolean) (o_X3_readOpened TX3_readUnit TX3_readLevel)) (Q : ix_R → Prop) (ls : ix_L) (st : List ix_V) (μ : ix_M) : ix_Ev (o_X3_readOpened TX3_readUnit TX3_readLevel) Q (43, ls, st, μ) = ocr_X3_readLevel TX3_readLevel 46 (ix_Ev (o_X3_readOpened TX3_readUnit TX3_readLevel) Q) Q ls st μ := ix_Ev.eq H rfl ls st μ
theorem e_X3_readOpened_46 {TX3_readUnit : Nat × Int32 → ix_M → (ix_R → Prop) → Prop} {TX3_readLevel : Nat × Int32 × Int32 → ix_M → (ix_R → Prop) → Prop} {l : Launch} {d : Nat} (H : ix_AllS l cX3_readOpened 3 RX3 d (some .boolean) (o_X3_readOpened TX3_readUnit TX3_readLevel)) (Q : ix_R → Prop) (ls : ix_L) (st : List ix_V) (μ : ix_M) : ix_Ev (o_X3_readOpened TX3_readUnit TX3_readLevel) Q (46, ls, st, μ) = ix_if (fun x => x = 0) 58 49 (ix_Ev (o_X3_readOpened TX3_readUnit TX3_readLevel) Q) Q ls st μ := ix_Ev.eq H rfl ls st μ
theorem e_X3_readOpened_49 {TX3_readUnit : Nat × Int32 → ix_M → (ix_R → Prop) → Prop} {TX3_readLevel : Nat × Int32 × Int32 → ix_M → (ix_R → Prop) → Prop} {l : Launch} {d : Nat} (H : ix_AllS l cX3_readOpened 3 RX3 d (some .boolean) (o_X3_readOpened TX3_readUnit TX3_readLevel)) (Q : ix_R → Prop) (ls : ix_L) (st : List ix_V) (μ : ix_M) : ix_Ev (o_X3_readOpened TX3_readUnit TX3_readLevel) Q (49, ls, st, μ) = ix_aload 0 50 (ix_Ev (o_X3_readOpened TX3_readUnit TX3_readLevel) Q) Q ls st μ := ix_Ev.eq H rfl ls st μ
theorem e_X3_readOpened_50 {TX3_readUnit : Nat × Int32 → ix_M → (ix_R → Prop) → Prop} {TX3_readLevel : Nat × Int32 × Int32 → ix_M → (ix_R → Prop) → Prop} {l : Launch} {d : Nat} (H : ix_AllS l cX3_readOpened 3 RX3 d (some .boolean) (o_X3_readOpened TX3_readUnit TX3_readLevel)) (Q : ix_R → Prop) (ls : ix_L) (st : List ix_V) (μ : ix_M) : ix_Ev (o_X3_readOpened TX3_readUnit TX3_readLevel) Q (50, ls, st, μ) = oc_X3_next 53 (ix_Ev (o_X3_readOpened TX3_readUnit TX3_readLevel) Q) Q ls st μ := ix_Ev.eq H rfl ls st μ
theorem e_X3_readOpened_53 {TX3_readUnit : Nat × Int32 → ix_M → (ix_R → Prop) → Prop} {TX3_readLevel : Nat × Int32 × Int32 → ix_M → (ix_R → Prop) → Prop} {l : Launch} {d : Nat} (H : ix_AllS l cX3_readOpened 3 RX3 d (some .boolean) (o_X3_readOpened TX3_readUnit TX3_readLevel)) (Q : ix_R → Prop) (ls : ix_L) (st : List ix_V) (μ : ix_M) : ix_Ev (o_X3_readOpened TX3_readUnit TX3_readLevel) Q (53, ls, st, μ) = ix_push (vi 41) 55 (ix_Ev (o_X3_readOpened TX3_readUnit TX3_readLevel) Q) Q ls st μ := ix_Ev.eq H rfl ls st μ
theorem e_X3_readOpened_55 {TX3_readUnit : Nat × Int32 → ix_M → (ix_R → Prop) → Prop} {TX3_readLevel : Nat × Int32 × Int32 → ix_M → (ix_R → Prop) → Prop} {l : Launch} {d : Nat} (H : ix_AllS l cX3_readOpened 3 RX3 d (some .boolean) (o_X3_readOpened TX3_readUnit TX3_readLevel)) (Q : ix_R → Prop) (ls : ix_L) (st : List ix_V) (μ : ix_M) : ix_Ev (o_X3_readOpened TX3_readUnit TX3_readLevel) Q (55, ls, st, μ) = ix_cmp (fun x y => x = y) 60 58 (ix_Ev (o_X3_readOpened TX3_readUnit TX3_readLevel) Q) Q ls st μ := ix_Ev.eq H rfl ls st μ
theorem e_X3_readOpened_58 {TX3_readUnit : Nat × Int32 → ix_M → (ix_R → Prop) → Prop} {TX3_readLevel : Nat × Int32 × Int32 → ix_M → (ix_R → Prop) → Prop} {l : Launch} {d : Nat} (H : ix_AllS l cX3_readOpened 3 RX3 d (some .boolean) (o_X3_readOpened TX3_readUnit TX3_readLevel)) (Q : ix_R → Prop) (ls : ix_L) (st : List ix_V) (μ : ix_M) : ix_Ev (o_X3_readOpened TX3_readUnit TX3_readLevel) Q (58, ls, st, μ) = ix_push (vi 0) 59 (ix_Ev (o_X3_readOpened TX3_readUnit TX3_readLevel) Q) Q ls st μ := ix_Ev.eq H rfl ls st μ
theorem e_X3_readOpened_59 {TX3_readUnit : Nat × Int32 → ix_M → (ix_R → Prop) → Prop} {TX3_readLevel : Nat × Int32 × Int32 → ix_M → (ix_R → Prop) → Prop} {l : Launch} {d : Nat} (H : ix_AllS l cX3_readOpened 3 RX3 d (some .boolean) (o_X3_readOpened TX3_readUnit TX3_readLevel)) (Q : ix_R → Prop) (ls : ix_L) (st : List ix_V) (μ : ix_M) : ix_Ev (o_X3_readOpened TX3_readUnit TX3_readLevel) Q (59, ls, st, μ) = ix_zret (ix_Ev (o_X3_readOpened TX3_readUnit TX3_readLevel) Q) Q ls st μ := ix_Ev.eq H rfl ls st μ
theorem e_X3_readOpened_60 {TX3_readUnit : Nat × Int32 → ix_M → (ix_R → Prop) → Prop} {TX3_readLevel : Nat × Int32 × Int32 → ix_M → (ix_R → Prop) → Prop} {l : Launch} {d : Nat} (H : ix_AllS l cX3_readOpened 3 RX3 d (some .boolean) (o_X3_readOpened TX3_readUnit TX3_readLevel)) (Q : ix_R → Prop) (ls : ix_L) (st : List ix_V) (μ : ix_M) : ix_Ev (o_X3_readOpened TX3_readUnit TX3_readLevel) Q (60, ls, st, μ) = ix_aload 0 61 (ix_Ev (o_X3_readOpened TX3_readUnit TX3_readLevel) Q) Q ls st μ := ix_Ev.eq H rfl ls st μ
theorem e_X3_readOpened_61 {TX3_readUnit : Nat × Int32 → ix_M → (ix_R → Prop) → Prop} {TX3_readLevel : Nat × Int32 × Int32 → ix_M → (ix_R → Prop) → Prop} {l : Launch} {d : Nat} (H : ix_AllS l cX3_readOpened 3 RX3 d (some .boolean) (o_X3_readOpened TX3_readUnit TX3_readLevel)) (Q : ix_R → Prop) (ls : ix_L) (st : List ix_V) (μ : ix_M) : ix_Ev (o_X3_readOpened TX3_readUnit TX3_readLevel) Q (61, ls, st, μ) = ix_dup 62 (ix_Ev (o_X3_readOpened TX3_readUnit TX3_readLevel) Q) Q ls st μ := ix_Ev.eq H rfl ls st μ
theorem e_X3_readOpened_62 {TX3_readUnit : Nat × Int32 → ix_M → (ix_R → Prop) → Prop} {TX3_readLevel : Nat × Int32 × Int32 → ix_M → (ix_R → Prop) → Prop} {l : Launch} {d : Nat} (H : ix_AllS l cX3_readOpened 3 RX3 d (some .boolean) (o_X3_readOpened TX3_readUnit TX3_readLevel)) (Q : ix_R → Prop) (ls : ix_L) (st : List ix_V) (μ : ix_M) : ix_Ev (o_X3_readOpened TX3_readUnit TX3_readLevel) Q (62, ls, st, μ) = ix_geti 2 3 65 (ix_Ev (o_X3_readOpened TX3_readUnit TX3_readLevel) Q) Q ls st μ := ix_Ev.eq H rfl ls st μ
theorem e_X3_readOpened_65 {TX3_readUnit : Nat × Int32 → ix_M → (ix_R → Prop) → Prop} {TX3_readLevel : Nat × Int32 × Int32 → ix_M → (ix_R → Prop) → Prop} {l : Launch} {d : Nat} (H : ix_AllS l cX3_readOpened 3 RX3 d (some .boolean) (o_X3_readOpened TX3_readUnit TX3_readLevel)) (Q : ix_R → Prop) (ls : ix_L) (st : List ix_V) (μ : ix_M) : ix_Ev (o_X3_readOpened TX3_readUnit TX3_readLevel) Q (65, ls, st, μ) = ix_push (vi 1) 66 (ix_Ev (o_X3_readOpened TX3_readUnit TX3_readLevel) Q) Q ls st μ := ix_Ev.eq H rfl ls st μ
theorem e_X3_readOpened_66 {TX3_readUnit : Nat × Int32 → ix_M → (ix_R → Prop) → Prop} {TX3_readLevel : Nat × Int32 × Int32 → ix_M → (ix_R → Prop) → Prop} {l : Launch} {d : Nat} (H : ix_AllS l cX3_readOpened 3 RX3 d (some .boolean) (o_X3_readOpened TX3_readUnit TX3_readLevel)) (Q : ix_R → Prop) (ls : ix_L) (st : List ix_V) (μ : ix_M) : ix_Ev (o_X3_readOpened TX3_readUnit TX3_readLevel) Q (66, ls, st, μ) = ix_bin (fun x y => x + y) 67 (ix_Ev (o_X3_readOpened TX3_readUnit TX3_readLevel) Q) Q ls st μ := ix_Ev.eq H rfl ls st μ
theorem e_X3_readOpened_67 {TX3_readUnit : Nat × Int32 → ix_M → (ix_R → Prop) → Prop} {TX3_readLevel : Nat × Int32 × Int32 → ix_M → (ix_R → Prop) → Prop} {l : Launch} {d : Nat} (H : ix_AllS l cX3_readOpened 3 RX3 d (some .boolean) (o_X3_readOpened TX3_readUnit TX3_readLevel)) (Q : ix_R → Prop) (ls : ix_L) (st : List ix_V) (μ : ix_M) : ix_Ev (o_X3_readOpened TX3_readUnit TX3_readLevel) Q (67, ls, st, μ) = ix_puti 2 3 70 (ix_Ev (o_X3_readOpened TX3_readUnit TX3_readLevel) Q) Q ls st μ := ix_Ev.eq H rfl ls st μ
theorem e_X3_readOpened_70 {TX3_readUnit : Nat × Int32 → ix_M → (ix_R → Prop) → Prop} {TX3_readLevel : Nat × Int32 × Int32 → ix_M → (ix_R → Prop) → Prop} {l : Launch} {d : Nat} (H : ix_AllS l cX3_readOpened 3 RX3 d (some .boolean) (o_X3_readOpened TX3_readUnit TX3_readLevel)) (Q : ix_R → Prop) (ls : ix_L) (st : List ix_V) (μ : ix_M) : ix_Ev (o_X3_readOpened TX3_readUnit TX3_readLevel) Q (70, ls, st, μ) = ix_push (vi 1) 71 (ix_Ev (o_X3_readOpened TX3_readUnit TX3_readLevel) Q) Q ls st μ := ix_Ev.eq H rfl ls st μ
theorem e_X3_readOpened_71 {TX3_readUnit : Nat × Int32 → ix_M → (ix_R → Prop) → Prop} {TX3_readLevel : Nat × Int32 × Int32 → ix_M → (ix_R → Prop) → Prop} {l : Launch} {d : Nat} (H : ix_AllS l cX3_readOpened 3 RX3 d (some .boolean) (o_X3_readOpened TX3_readUnit TX3_readLevel)) (Q : ix_R → Prop) (ls : ix_L) (st : List ix_V) (μ : ix_M) : ix_Ev (o_X3_readOpened TX3_readUnit TX3_readLevel) Q (71, ls, st, μ) = ix_zret (ix_Ev (o_X3_readOpened TX3_readUnit TX3_readLevel) Q) Q ls st μ := ix_Ev.eq H rfl ls st μ
def o_X3_readLevel (TX3_readUnit : Nat × Int32 → ix_M → (ix_R → Prop) → Prop) (TX3_readLevel : Nat × Int32 × Int32 → ix_M → (ix_R → Prop) → Prop) : List (Nat × ix_Op) := [
  (0, ix_iload 1 1),
  (1, ix_push (vi 5) 2),
  (2, ix_cmp (fun x y => x < y) 11 5),
  (5, ix_aload 0 6),
  (6, ix_iload 2 7),
  (7, ocr_X3_readUnit TX3_readUnit 10),
  (10, ix_zret),
  (11, ix_aload 0 12),
  (12, ix_iload 1 13),
  (13, ix_push (vi 1) 14),
  (14, ix_bin (fun x y => x + y) 15),
  (15, ix_iload 2 16),
  (16, ocr_X3_readLevel TX3_readLevel 19),
  (19, ix_if (fun x => x = 0) 22 24),
  (22, ix_push (vi 0) 23),
  (23, ix_zret),
  (24, ix_iload 1 25),
  (25, ix_push (vi 2) 26),
  (26, ix_cmp (fun x y => x = y) 29 33),
  (29, ix_push (vi 1) 30),
  (30, ix_goto 35),
  (33, ix_push (vi 50) 35),
  (35, ix_istore 3 36),
  (36, ix_push (vi 0) 37),
  (37, ix_istore 4 39),
  (39, ix_iload 4 41),
  (41, ix_iload 3 42),
  (42, ix_cmp (fun x y => y ≤ x) 104 45),
  (45, ix_aload 0 46),
  (46, oc_X3_next 49),
  (49, oc_X3_levelOf 52),
  (52, ix_iload 1 53),
  (53, ix_cmp (fun x y => x = y) 56 104),
  (56, ix_aload 0 57),
  (57, oc_X3_next 60),
  (60, ix_istore 5 62),
  (62, ix_aload 0 63),
  (63, ix_dup 64),
  (64, ix_geti 2 3 67),
  (67, ix_push (vi 1) 68),
  (68, ix_bin (fun x y => x + y) 69),
  (69, ix_puti 2 3 72),
  (72, ix_aload 0 73),
  (73, ix_iload 1 74),
  (74, ix_push (vi 1) 75),
  (75, ix_bin (fun x y => x + y) 76),
  (76, ix_iload 2 77),
  (77, ocr_X3_readLevel TX3_readLevel 80),
  (80, ix_if (fun x => x = 0) 83 85),
  (83, ix_push (vi 0) 84),
  (84, ix_zret),
  (85, ix_aload 0 86),
  (86, ix_getr 2 6 (fun _ => 89) 89),
  (89, ix_getr 6 3 (fun k => k + 1) 92),
  (92, ix_iload 5 94),
  (94, ix_un (fun x => -x) 95),
  (95, oc_X4_add 98),
  (98, ix_iinc 4 1 101),
  (101, ix_goto 39),
  (104, ix_push (vi 1) 105),
  (105, ix_zret)]
set_option maxRecDepth 20000 in
theorem a_X3_readLevel (l : Launch) (d : Nat) (hlev : 6 ≤ d) {TX3_readUnit : Nat × Int32 → ix_M → (ix_R → Prop) → Prop} {d_X3_readUnit : Nat} (h_X3_readUnit : ix_Ct l yX3_readUnit cX3_readUnit 4 (some .boolean) d_X3_readUnit sh_X3_readUnit TX3_readUnit) (hl_X3_readUnit : d_X3_readUnit < d) (hm_X3_readUnit : ∀ x μ Q Q', (∀ r, Q r → Q' r) → TX3_readUnit x μ Q → TX3_readUnit x μ Q') {TX3_readLevel : Nat × Int32 × Int32 → ix_M → (ix_R → Prop) → Prop} {d_X3_readLevel : Nat} (h_X3_readLevel : ix_Ct l yX3_readLevel cX3_readLevel 6 (some .boolean) d_X3_readLevel sh_X3_readLevel TX3_readLevel) (hl_X3_readLevel : d_X3_readLevel < d) (hm_X3_readLevel : ∀ x μ Q Q', (∀ r, Q r → Q' r) → TX3_readLevel x μ Q → TX3_readLevel x μ Q') : ix_AllS l cX3_readLevel 6 RX3 d (some .boolean) (o_X3_readLevel TX3_readUnit TX3_readLevel) :=
  .cons (ix_s_iload_n dX3_readLevel_0 rfl) <|
  .cons (ix_s_iconst dX3_readLevel_1 (by decide +kernel)) <|
  .cons (ix_s_cmp_lt dX3_readLevel_2 (by decide)) <|
  .cons (ix_s_aload_n dX3_readLevel_5 rfl) <|
  .cons (ix_s_iload_n dX3_readLevel_6 rfl) <|
  .cons (ocr_X3_readUnit_s hm_X3_readUnit (ix_s_callv (t := 2) h_X3_readUnit hl_X3_readUnit (by decide) tw_466 tw_8 tw_463 tw_465 tp_3 ⟨by decide, by decide, by decide +kernel⟩ (by decide) rfl rfl (fun _ => ⟨_, _, rfl, rfl⟩) dX3_readLevel_7)) <|
  .cons (ix_s_zret dX3_readLevel_10 rfl) <|
  .cons (ix_s_aload_n dX3_readLevel_11 rfl) <|
  .cons (ix_s_iload_n dX3_readLevel_12 rfl) <|
  .cons (ix_s_iconst dX3_readLevel_13 (by decide +kernel)) <|
  .cons (ix_s_iadd dX3_readLevel_14) <|
  .cons (ix_s_iload_n dX3_readLevel_15 rfl) <|
  .cons (ocr_X3_readLevel_s hm_X3_readLevel (ix_s_callv (t := 2) h_X3_readLevel hl_X3_readLevel (by decide) tw_462 tw_8 tw_459 tw_461 tp_2 ⟨by decide, by decide, by decide +kernel⟩ (by decide) rfl rfl (fun _ => ⟨_, _, rfl, rfl⟩) dX3_readLevel_16)) <|
  .cons (ix_s_if_ne dX3_readLevel_19 (by decide)) <|
  .cons (ix_s_iconst dX3_readLevel_22 (by decide +kernel)) <|
  .cons (ix_s_zret dX3_readLevel_23 rfl) <|
  .cons (ix_s_iload_n dX3_readLevel_24 rfl) <|
  .cons (ix_s_iconst dX3_readLevel_25 (by decide +kernel)) <|
  .cons (ix_s_cmp_ne dX3_readLevel_26 (by decide)) <|
  .cons (ix_s_iconst dX3_readLevel_29 (by decide +kernel)) <|
  .cons (ix_s_goto dX3_readLevel_30 (by decide)) <|
  .cons (ix_s_bipush dX3_readLevel_33 (by decide +kernel)) <|
  .cons (ix_s_istore_n dX3_readLevel_35 rfl (by decide)) <|
  .cons (ix_s_iconst dX3_readLevel_36 (by decide +kernel)) <|
  .cons (ix_s_istore dX3_readLevel_37 (by decide)) <|
  .cons (ix_s_iload dX3_readLevel_39) <|
  .cons (ix_s_iload_n dX3_readLevel_41 rfl) <|
  .cons (ix_s_cmp_ge dX3_readLevel_42 (by decide)) <|
  .cons (ix_s_aload_n dX3_readLevel_45 rfl) <|
  .cons (oc_X3_next_s (ix_s_callv (t := 2) (k_X3_next l) (by omega) (by decide) tw_470 tw_8 tw_467 tw_469 tp_4 ⟨by decide, by decide, by decide +kernel⟩ (by decide) rfl rfl (fun _ => ⟨_, _, rfl, rfl⟩) dX3_readLevel_46)) <|
  .cons (oc_X3_levelOf_s (ix_s_calls (k_X3_levelOf l) (by omega) (by decide) tw_571 tw_8 tw_569 tw_570 ⟨by decide, by decide, by decide +kernel⟩ (fun _ => rfl) dX3_readLevel_49)) <|
  .cons (ix_s_iload_n dX3_readLevel_52 rfl) <|
  .cons (ix_s_cmp_ne dX3_readLevel_53 (by decide)) <|
  .cons (ix_s_aload_n dX3_readLevel_56 rfl) <|
  .cons (oc_X3_next_s (ix_s_callv (t := 2) (k_X3_next l) (by omega) (by decide) tw_470 tw_8 tw_467 tw_469 tp_4 ⟨by decide, by decide, by decide +kernel⟩ (by decide) rfl rfl (fun _ => ⟨_, _, rfl, rfl⟩) dX3_readLevel_57)) <|
  .cons (ix_s_istore dX3_readLevel_60 (by decide)) <|
  .cons (ix_s_aload_n dX3_readLevel_62 rfl) <|
  .cons (ix_s_dup dX3_readLevel_63) <|
  .cons (ix_s_geti (j := 3) tu_X3 rfl (by decide) (by decide) tw_180 rfl ts_2_3_i dX3_readLevel_64) <|
  .cons (ix_s_iconst dX3_readLevel_67 (by decide +kernel)) <|
  .cons (ix_s_iadd dX3_readLevel_68) <|
  .cons (ix_s_puti (j := 3) tu_X3 tyX3_ok nmX3 rfl (by decide) (by decide) tw_180 rfl rfl (by decide +kernel) ts_2_3_p dX3_readLevel_69) <|
  .cons (ix_s_aload_n dX3_readLevel_72 rfl) <|
  .cons (ix_s_iload_n dX3_readLevel_73 rfl) <|
  .cons (ix_s_iconst dX3_readLevel_74 (by decide +kernel)) <|
  .cons (ix_s_iadd dX3_readLevel_75) <|
  .cons (ix_s_iload_n dX3_readLevel_76 rfl) <|
  .cons (ocr_X3_readLevel_s hm_X3_readLevel (ix_s_callv (t := 2) h_X3_readLevel hl_X3_readLevel (by decide) tw_462 tw_8 tw_459 tw_461 tp_2 ⟨by decide, by decide, by decide +kernel⟩ (by decide) rfl rfl (fun _ => ⟨_, _, rfl, rfl⟩) dX3_readLevel_77)) <|
  .cons (ix_s_if_ne dX3_readLevel_80 (by decide)) <|
  .cons (ix_s_iconst dX3_readLevel_83 (by decide +kernel)) <|
  .cons (ix_s_zret dX3_readLevel_84 rfl) <|
  .cons (ix_s_aload_n dX3_readLevel_85 rfl) <|
  .cons (ix_s_getr (j := 0) tu_X3 rfl (by decide) (by decide) tw_176 rfl ts_2_0_r dX3_readLevel_86) <|
  .cons (ix_s_getr (j := 0) tu_X7 rfl (by decide) (by decide) tw_120 rfl ts_6_0_r dX3_readLevel_89) <|
  .cons (ix_s_iload dX3_readLevel_92) <|
  .cons (ix_s_ineg dX3_readLevel_94) <|
  .cons (oc_X4_add_s (ix_s_callv (t := 3) (k_X4_add l) (by omega) (by decide) tw_436 tw_6 tw_482 tw_434 tw_435 ⟨by decide, by decide, by decide +kernel⟩ (by decide) rfl rfl (fun _ => ⟨_, _, rfl, rfl⟩) dX3_readLevel_95)) <|
  .cons (ix_s_iinc dX3_readLevel_98 (by decide +kernel) (by decide)) <|
  .cons (ix_s_goto dX3_readLevel_101 (by decide)) <|
  .cons (ix_s_iconst dX3_readLevel_104 (by decide +kernel)) <|
  .cons (ix_s_zret dX3_readLevel_105 rfl) <| .nil
theorem e_X3_readLevel_0 {TX3_readUnit : Nat × Int32 → ix_M → (ix_R → Prop) → Prop} {TX3_readLevel : Nat × Int32 × Int32 → ix_M → (ix_R → Prop) → Prop} {l : Launch} {d : Nat} (H : ix_AllS l cX3_readLevel 6 RX3 d (some .boolean) (o_X3_readLevel TX3_readUnit TX3_readLevel)) (Q : ix_R → Prop) (ls : ix_L) (st : List ix_V) (μ : ix_M) : ix_Ev (o_X3_readLevel TX3_readUnit TX3_readLevel) Q (0, ls, st, μ) = ix_iload 1 1 (ix_Ev (o_X3_readLevel TX3_readUnit TX3_readLevel) Q) Q ls st μ := ix_Ev.eq H rfl ls st μ
theorem e_X3_readLevel_1 {TX3_readUnit : Nat × Int32 → ix_M → (ix_R → Prop) → Prop} {TX3_readLevel : Nat × Int32 × Int32 → ix_M → (ix_R → Prop) → Prop} {l : Launch} {d : Nat} (H : ix_AllS l cX3_readLevel 6 RX3 d (some .boolean) (o_X3_readLevel TX3_readUnit TX3_readLevel)) (Q : ix_R → Prop) (ls : ix_L) (st : List ix_V) (μ : ix_M) : ix_Ev (o_X3_readLevel TX3_readUnit TX3_readLevel) Q (1, ls, st, μ) = ix_push (vi 5) 2 (ix_Ev (o_X3_readLevel TX3_readUnit TX3_readLevel) Q) Q ls st μ := ix_Ev.eq H rfl ls st μ
theorem e_X3_readLevel_2 {TX3_readUnit : Nat × Int32 → ix_M → (ix_R → Prop) → Prop} {TX3_readLevel : Nat × Int32 × Int32 → ix_M → (ix_R → Prop) → Prop} {l : Launch} {d : Nat} (H : ix_AllS l cX3_readLevel 6 RX3 d (some .boolean) (o_X3_readLevel TX3_readUnit TX3_readLevel)) (Q : ix_R → Prop) (ls : ix_L) (st : List ix_V) (μ : ix_M) : ix_Ev (o_X3_readLevel TX3_readUnit TX3_readLevel) Q (2, ls, st, μ) = ix_cmp (fun x y => x < y) 11 5 (ix_Ev (o_X3_readLevel TX3_readUnit TX3_readLevel) Q) Q ls st μ := ix_Ev.eq H rfl ls st μ
theorem e_X3_readLevel_5 {TX3_readUnit : Nat × Int32 → ix_M → (ix_R → Prop) → Prop} {TX3_readLevel : Nat × Int32 × Int32 → ix_M → (ix_R → Prop) → Prop} {l : Launch} {d : Nat} (H : ix_AllS l cX3_readLevel 6 RX3 d (some .boolean) (o_X3_readLevel TX3_readUnit TX3_readLevel)) (Q : ix_R → Prop) (ls : ix_L) (st : List ix_V) (μ : ix_M) : ix_Ev (o_X3_readLevel TX3_readUnit TX3_readLevel) Q (5, ls, st, μ) = ix_aload 0 6 (ix_Ev (o_X3_readLevel TX3_readUnit TX3_readLevel) Q) Q ls st μ := ix_Ev.eq H rfl ls st μ
theorem e_X3_readLevel_6 {TX3_readUnit : Nat × Int32 → ix_M → (ix_R → Prop) → Prop} {TX3_readLevel : Nat × Int32 × Int32 → ix_M → (ix_R → Prop) → Prop} {l : Launch} {d : Nat} (H : ix_AllS l cX3_readLevel 6 RX3 d (some .boolean) (o_X3_readLevel TX3_readUnit TX3_readLevel)) (Q : ix_R → Prop) (ls : ix_L) (st : List ix_V) (μ : ix_M) : ix_Ev (o_X3_readLevel TX3_readUnit TX3_readLevel) Q (6, ls, st, μ) = ix_iload 2 7 (ix_Ev (o_X3_readLevel TX3_readUnit TX3_readLevel) Q) Q ls st μ := ix_Ev.eq H rfl ls st μ
theorem e_X3_readLevel_7 {TX3_readUnit : Nat × Int32 → ix_M → (ix_R → Prop) → Prop} {TX3_readLevel : Nat × Int32 × Int32 → ix_M → (ix_R → Prop) → Prop} {l : Launch} {d : Nat} (H : ix_AllS l cX3_readLevel 6 RX3 d (some .boolean) (o_X3_readLevel TX3_readUnit TX3_readLevel)) (Q : ix_R → Prop) (ls : ix_L) (st : List ix_V) (μ : ix_M) : ix_Ev (o_X3_readLevel TX3_readUnit TX3_readLevel) Q (7, ls, st, μ) = ocr_X3_readUnit TX3_readUnit 10 (ix_Ev (o_X3_readLevel TX3_readUnit TX3_readLevel) Q) Q ls st μ := ix_Ev.eq H rfl ls st μ
theorem e_X3_readLevel_10 {TX3_readUnit : Nat × Int32 → ix_M → (ix_R → Prop) → Prop} {TX3_readLevel : Nat × Int32 × Int32 → ix_M → (ix_R → Prop) → Prop} {l : Launch} {d : Nat} (H : ix_AllS l cX3_readLevel 6 RX3 d (some .boolean) (o_X3_readLevel TX3_readUnit TX3_readLevel)) (Q : ix_R → Prop) (ls : ix_L) (st : List ix_V) (μ : ix_M) : ix_Ev (o_X3_readLevel TX3_readUnit TX3_readLevel) Q (10, ls, st, μ) = ix_zret (ix_Ev (o_X3_readLevel TX3_readUnit TX3_readLevel) Q) Q ls st μ := ix_Ev.eq H rfl ls st μ
theorem e_X3_readLevel_11 {TX3_readUnit : Nat × Int32 → ix_M → (ix_R → Prop) → Prop} {TX3_readLevel : Nat × Int32 × Int32 → ix_M → (ix_R → Prop) → Prop} {l : Launch} {d : Nat} (H : ix_AllS l cX3_readLevel 6 RX3 d (some .boolean) (o_X3_readLevel TX3_readUnit TX3_readLevel)) (Q : ix_R → Prop) (ls : ix_L) (st : List ix_V) (μ : ix_M) : ix_Ev (o_X3_readLevel TX3_readUnit TX3_readLevel) Q (11, ls, st, μ) = ix_aload 0 12 (ix_Ev (o_X3_readLevel TX3_readUnit TX3_readLevel) Q) Q ls st μ := ix_Ev.eq H rfl ls st μ
theorem e_X3_readLevel_12 {TX3_readUnit : Nat × Int32 → ix_M → (ix_R → Prop) → Prop} {TX3_readLevel : Nat × Int32 × Int32 → ix_M → (ix_R → Prop) → Prop} {l : Launch} {d : Nat} (H : ix_AllS l cX3_readLevel 6 RX3 d (some .boolean) (o_X3_readLevel TX3_readUnit TX3_readLevel)) (Q : ix_R → Prop) (ls : ix_L) (st : List ix_V) (μ : ix_M) : ix_Ev (o_X3_readLevel TX3_readUnit TX3_readLevel) Q (12, ls, st, μ) = ix_iload 1 13 (ix_Ev (o_X3_readLevel TX3_readUnit TX3_readLevel) Q) Q ls st μ := ix_Ev.eq H rfl ls st μ
theorem e_X3_readLevel_13 {TX3_readUnit : Nat × Int32 → ix_M → (ix_R → Prop) → Prop} {TX3_readLevel : Nat × Int32 × Int32 → ix_M → (ix_R → Prop) → Prop} {l : Launch} {d : Nat} (H : ix_AllS l cX3_readLevel 6 RX3 d (some .boolean) (o_X3_readLevel TX3_readUnit TX3_readLevel)) (Q : ix_R → Prop) (ls : ix_L) (st : List ix_V) (μ : ix_M) : ix_Ev (o_X3_readLevel TX3_readUnit TX3_readLevel) Q (13, ls, st, μ) = ix_push (vi 1) 14 (ix_Ev (o_X3_readLevel TX3_readUnit TX3_readLevel) Q) Q ls st μ := ix_Ev.eq H rfl ls st μ
theorem e_X3_readLevel_14 {TX3_readUnit : Nat × Int32 → ix_M → (ix_R → Prop) → Prop} {TX3_readLevel : Nat × Int32 × Int32 → ix_M → (ix_R → Prop) → Prop} {l : Launch} {d : Nat} (H : ix_AllS l cX3_readLevel 6 RX3 d (some .boolean) (o_X3_readLevel TX3_readUnit TX3_readLevel)) (Q : ix_R → Prop) (ls : ix_L) (st : List ix_V) (μ : ix_M) : ix_Ev (o_X3_readLevel TX3_readUnit TX3_readLevel) Q (14, ls, st, μ) = ix_bin (fun x y => x + y) 15 (ix_Ev (o_X3_readLevel TX3_readUnit TX3_readLevel) Q) Q ls st μ := ix_Ev.eq H rfl ls st μ
theorem e_X3_readLevel_15 {TX3_readUnit : Nat × Int32 → ix_M → (ix_R → Prop) → Prop} {TX3_readLevel : Nat × Int32 × Int32 → ix_M → (ix_R → Prop) → Prop} {l : Launch} {d : Nat} (H : ix_AllS l cX3_readLevel 6 RX3 d (some .boolean) (o_X3_readLevel TX3_readUnit TX3_readLevel)) (Q : ix_R → Prop) (ls : ix_L) (st : List ix_V) (μ : ix_M) : ix_Ev (o_X3_readLevel TX3_readUnit TX3_readLevel) Q (15, ls, st, μ) = ix_iload 2 16 (ix_Ev (o_X3_readLevel TX3_readUnit TX3_readLevel) Q) Q ls st μ := ix_Ev.eq H rfl ls st μ
theorem e_X3_readLevel_16 {TX3_readUnit : Nat × Int32 → ix_M → (ix_R → Prop) → Prop} {TX3_readLevel : Nat × Int32 × Int32 → ix_M → (ix_R → Prop) → Prop} {l : Launch} {d : Nat} (H : ix_AllS l cX3_readLevel 6 RX3 d (some .boolean) (o_X3_readLevel TX3_readUnit TX3_readLevel)) (Q : ix_R → Prop) (ls : ix_L) (st : List ix_V) (μ : ix_M) : ix_Ev (o_X3_readLevel TX3_readUnit TX3_readLevel) Q (16, ls, st, μ) = ocr_X3_readLevel TX3_readLevel 19 (ix_Ev (o_X3_readLevel TX3_readUnit TX3_readLevel) Q) Q ls st μ := ix_Ev.eq H rfl ls st μ
theorem e_X3_readLevel_19 {TX3_readUnit : Nat × Int32 → ix_M → (ix_R → Prop) → Prop} {TX3_readLevel : Nat × Int32 × Int32 → ix_M → (ix_R → Prop) → Prop} {l : Launch} {d : Nat} (H : ix_AllS l cX3_readLevel 6 RX3 d (some .boolean) (o_X3_readLevel TX3_readUnit TX3_readLevel)) (Q : ix_R → Prop) (ls : ix_L) (st : List ix_V) (μ : ix_M) : ix_Ev (o_X3_readLevel TX3_readUnit TX3_readLevel) Q (19, ls, st, μ) = ix_if (fun x => x = 0) 22 24 (ix_Ev (o_X3_readLevel TX3_readUnit TX3_readLevel) Q) Q ls st μ := ix_Ev.eq H rfl ls st μ
theorem e_X3_readLevel_22 {TX3_readUnit : Nat × Int32 → ix_M → (ix_R → Prop) → Prop} {TX3_readLevel : Nat × Int32 × Int32 → ix_M → (ix_R → Prop) → Prop} {l : Launch} {d : Nat} (H : ix_AllS l cX3_readLevel 6 RX3 d (some .boolean) (o_X3_readLevel TX3_readUnit TX3_readLevel)) (Q : ix_R → Prop) (ls : ix_L) (st : List ix_V) (μ : ix_M) : ix_Ev (o_X3_readLevel TX3_readUnit TX3_readLevel) Q (22, ls, st, μ) = ix_push (vi 0) 23 (ix_Ev (o_X3_readLevel TX3_readUnit TX3_readLevel) Q) Q ls st μ := ix_Ev.eq H rfl ls st μ
theorem e_X3_readLevel_23 {TX3_readUnit : Nat × Int32 → ix_M → (ix_R → Prop) → Prop} {TX3_readLevel : Nat × Int32 × Int32 → ix_M → (ix_R → Prop) → Prop} {l : Launch} {d : Nat} (H : ix_AllS l cX3_readLevel 6 RX3 d (some .boolean) (o_X3_readLevel TX3_readUnit TX3_readLevel)) (Q : ix_R → Prop) (ls : ix_L) (st : List ix_V) (μ : ix_M) : ix_Ev (o_X3_readLevel TX3_readUnit TX3_readLevel) Q (23, ls, st, μ) = ix_zret (ix_Ev (o_X3_readLevel TX3_readUnit TX3_readLevel) Q) Q ls st μ := ix_Ev.eq H rfl ls st μ
theorem e_X3_readLevel_24 {TX3_readUnit : Nat × Int32 → ix_M → (ix_R → Prop) → Prop} {TX3_readLevel : Nat × Int32 × Int32 → ix_M → (ix_R → Prop) → Prop} {l : Launch} {d : Nat} (H : ix_AllS l cX3_readLevel 6 RX3 d (some .boolean) (o_X3_readLevel TX3_readUnit TX3_readLevel)) (Q : ix_R → Prop) (ls : ix_L) (st : List ix_V) (μ : ix_M) : ix_Ev (o_X3_readLevel TX3_readUnit TX3_readLevel) Q (24, ls, st, μ) = ix_iload 1 25 (ix_Ev (o_X3_readLevel TX3_readUnit TX3_readLevel) Q) Q ls st μ := ix_Ev.eq H rfl ls st μ
theorem e_X3_readLevel_25 {TX3_readUnit : Nat × Int32 → ix_M → (ix_R → Prop) → Prop} {TX3_readLevel : Nat × Int32 × Int32 → ix_M → (ix_R → Prop) → Prop} {l : Launch} {d : Nat} (H : ix_AllS l cX3_readLevel 6 RX3 d (some .boolean) (o_X3_readLevel TX3_readUnit TX3_readLevel)) (Q : ix_R → Prop) (ls : ix_L) (st : List ix_V) (μ : ix_M) : ix_Ev (o_X3_readLevel TX3_readUnit TX3_readLevel) Q (25, ls, st, μ) = ix_push (vi 2) 26 (ix_Ev (o_X3_readLevel TX3_readUnit TX3_readLevel) Q) Q ls st μ := ix_Ev.eq H rfl ls st μ
theorem e_X3_readLevel_26 {TX3_readUnit : Nat × Int32 → ix_M → (ix_R → Prop) → Prop} {TX3_readLevel : Nat × Int32 × Int32 → ix_M → (ix_R → Prop) → Prop} {l : Launch} {d : Nat} (H : ix_AllS l cX3_readLevel 6 RX3 d (some .boolean) (o_X3_readLevel TX3_readUnit TX3_readLevel)) (Q : ix_R → Prop) (ls : ix_L) (st : List ix_V) (μ : ix_M) : ix_Ev (o_X3_readLevel TX3_readUnit TX3_readLevel) Q (26, ls, st, μ) = ix_cmp (fun x y => x = y) 29 33 (ix_Ev (o_X3_readLevel TX3_readUnit TX3_readLevel) Q) Q ls st μ := ix_Ev.eq H rfl ls st μ
theorem e_X3_readLevel_29 {TX3_readUnit : Nat × Int32 → ix_M → (ix_R → Prop) → Prop} {TX3_readLevel : Nat × Int32 × Int32 → ix_M → (ix_R → Prop) → Prop} {l : Launch} {d : Nat} (H : ix_AllS l cX3_readLevel 6 RX3 d (some .boolean) (o_X3_readLevel TX3_readUnit TX3_readLevel)) (Q : ix_R → Prop) (ls : ix_L) (st : List ix_V) (μ : ix_M) : ix_Ev (o_X3_readLevel TX3_readUnit TX3_readLevel) Q (29, ls, st, μ) = ix_push (vi 1) 30 (ix_Ev (o_X3_readLevel TX3_readUnit TX3_readLevel) Q) Q ls st μ := ix_Ev.eq H rfl ls st μ
theorem e_X3_readLevel_30 {TX3_readUnit : Nat × Int32 → ix_M → (ix_R → Prop) → Prop} {TX3_readLevel : Nat × Int32 × Int32 → ix_M → (ix_R → Prop) → Prop} {l : Launch} {d : Nat} (H : ix_AllS l cX3_readLevel 6 RX3 d (some .boolean) (o_X3_readLevel TX3_readUnit TX3_readLevel)) (Q : ix_R → Prop) (ls : ix_L) (st : List ix_V) (μ : ix_M) : ix_Ev (o_X3_readLevel TX3_readUnit TX3_readLevel) Q (30, ls, st, μ) = ix_goto 35 (ix_Ev (o_X3_readLevel TX3_readUnit TX3_readLevel) Q) Q ls st μ := ix_Ev.eq H rfl ls st μ
theorem e_X3_readLevel_33 {TX3_readUnit : Nat × Int32 → ix_M → (ix_R → Prop) → Prop} {TX3_readLevel : Nat × Int32 × Int32 → ix_M → (ix_R → Prop) → Prop} {l : Launch} {d : Nat} (H : ix_AllS l cX3_readLevel 6 RX3 d (some .boolean) (o_X3_readLevel TX3_readUnit TX3_readLevel)) (Q : ix_R → Prop) (ls : ix_L) (st : List ix_V) (μ : ix_M) : ix_Ev (o_X3_readLevel TX3_readUnit TX3_readLevel) Q (33, ls, st, μ) = ix_push (vi 50) 35 (ix_Ev (o_X3_readLevel TX3_readUnit TX3_readLevel) Q) Q ls st μ := ix_Ev.eq H rfl ls st μ
theorem e_X3_readLevel_35 {TX3_readUnit : Nat × Int32 → ix_M → (ix_R → Prop) → Prop} {TX3_readLevel : Nat × Int32 × Int32 → ix_M → (ix_R → Prop) → Prop} {l : Launch} {d : Nat} (H : ix_AllS l cX3_readLevel 6 RX3 d (some .boolean) (o_X3_readLevel TX3_readUnit TX3_readLevel)) (Q : ix_R → Prop) (ls : ix_L) (st : List ix_V) (μ : ix_M) : ix_Ev (o_X3_readLevel TX3_readUnit TX3_readLevel) Q (35, ls, st, μ) = ix_istore 3 36 (ix_Ev (o_X3_readLevel TX3_readUnit TX3_readLevel) Q) Q ls st μ := ix_Ev.eq H rfl ls st μ
theorem e_X3_readLevel_36 {TX3_readUnit : Nat × Int32 → ix_M → (ix_R → Prop) → Prop} {TX3_readLevel : Nat × Int32 × Int32 → ix_M → (ix_R → Prop) → Prop} {l : Launch} {d : Nat} (H : ix_AllS l cX3_readLevel 6 RX3 d (some .boolean) (o_X3_readLevel TX3_readUnit TX3_readLevel)) (Q : ix_R → Prop) (ls : ix_L) (st : List ix_V) (μ : ix_M) : ix_Ev (o_X3_readLevel TX3_readUnit TX3_readLevel) Q (36, ls, st, μ) = ix_push (vi 0) 37 (ix_Ev (o_X3_readLevel TX3_readUnit TX3_readLevel) Q) Q ls st μ := ix_Ev.eq H rfl ls st μ
theorem e_X3_readLevel_37 {TX3_readUnit : Nat × Int32 → ix_M → (ix_R → Prop) → Prop} {TX3_readLevel : Nat × Int32 × Int32 → ix_M → (ix_R → Prop) → Prop} {l : Launch} {d : Nat} (H : ix_AllS l cX3_readLevel 6 RX3 d (some .boolean) (o_X3_readLevel TX3_readUnit TX3_readLevel)) (Q : ix_R → Prop) (ls : ix_L) (st : List ix_V) (μ : ix_M) : ix_Ev (o_X3_readLevel TX3_readUnit TX3_readLevel) Q (37, ls, st, μ) = ix_istore 4 39 (ix_Ev (o_X3_readLevel TX3_readUnit TX3_readLevel) Q) Q ls st μ := ix_Ev.eq H rfl ls st μ
theorem e_X3_readLevel_39 {TX3_readUnit : Nat × Int32 → ix_M → (ix_R → Prop) → Prop} {TX3_readLevel : Nat × Int32 × Int32 → ix_M → (ix_R → Prop) → Prop} {l : Launch} {d : Nat} (H : ix_AllS l cX3_readLevel 6 RX3 d (some .boolean) (o_X3_readLevel TX3_readUnit TX3_readLevel)) (Q : ix_R → Prop) (ls : ix_L) (st : List ix_V) (μ : ix_M) : ix_Ev (o_X3_readLevel TX3_readUnit TX3_readLevel) Q (39, ls, st, μ) = ix_iload 4 41 (ix_Ev (o_X3_readLevel TX3_readUnit TX3_readLevel) Q) Q ls st μ := ix_Ev.eq H rfl ls st μ
theorem e_X3_readLevel_41 {TX3_readUnit : Nat × Int32 → ix_M → (ix_R → Prop) → Prop} {TX3_readLevel : Nat × Int32 × Int32 → ix_M → (ix_R → Prop) → Prop} {l : Launch} {d : Nat} (H : ix_AllS l cX3_readLevel 6 RX3 d (some .boolean) (o_X3_readLevel TX3_readUnit TX3_readLevel)) (Q : ix_R → Prop) (ls : ix_L) (st : List ix_V) (μ : ix_M) : ix_Ev (o_X3_readLevel TX3_readUnit TX3_readLevel) Q (41, ls, st, μ) = ix_iload 3 42 (ix_Ev (o_X3_readLevel TX3_readUnit TX3_readLevel) Q) Q ls st μ := ix_Ev.eq H rfl ls st μ
theorem e_X3_readLevel_42 {TX3_readUnit : Nat × Int32 → ix_M → (ix_R → Prop) → Prop} {TX3_readLevel : Nat × Int32 × Int32 → ix_M → (ix_R → Prop) → Prop} {l : Launch} {d : Nat} (H : ix_AllS l cX3_readLevel 6 RX3 d (some .boolean) (o_X3_readLevel TX3_readUnit TX3_readLevel)) (Q : ix_R → Prop) (ls : ix_L) (st : List ix_V) (μ : ix_M) : ix_Ev (o_X3_readLevel TX3_readUnit TX3_readLevel) Q (42, ls, st, μ) = ix_cmp (fun x y => y ≤ x) 104 45 (ix_Ev (o_X3_readLevel TX3_readUnit TX3_readLevel) Q) Q ls st μ := ix_Ev.eq H rfl ls st μ
theorem e_X3_readLevel_45 {TX3_readUnit : Nat × Int32 → ix_M → (ix_R → Prop) → Prop} {TX3_readLevel : Nat × Int32 × Int32 → ix_M → (ix_R → Prop) → Prop} {l : Launch} {d : Nat} (H : ix_AllS l cX3_readLevel 6 RX3 d (some .boolean) (o_X3_readLevel TX3_readUnit TX3_readLevel)) (Q : ix_R → Prop) (ls : ix_L) (st : List ix_V) (μ : ix_M) : ix_Ev (o_X3_readLevel TX3_readUnit TX3_readLevel) Q (45, ls, st, μ) = ix_aload 0 46 (ix_Ev (o_X3_readLevel TX3_readUnit TX3_readLevel) Q) Q ls st μ := ix_Ev.eq H rfl ls st μ
theorem e_X3_readLevel_46 {TX3_readUnit : Nat × Int32 → ix_M → (ix_R → Prop) → Prop} {TX3_readLevel : Nat × Int32 × Int32 → ix_M → (ix_R → Prop) → Prop} {l : Launch} {d : Nat} (H : ix_AllS l cX3_readLevel 6 RX3 d (some .boolean) (o_X3_readLevel TX3_readUnit TX3_readLevel)) (Q : ix_R → Prop) (ls : ix_L) (st : List ix_V) (μ : ix_M) : ix_Ev (o_X3_readLevel TX3_readUnit TX3_readLevel) Q (46, ls, st, μ) = oc_X3_next 49 (ix_Ev (o_X3_readLevel TX3_readUnit TX3_readLevel) Q) Q ls st μ := ix_Ev.eq H rfl ls st μ
theorem e_X3_readLevel_49 {TX3_readUnit : Nat × Int32 → ix_M → (ix_R → Prop) → Prop} {TX3_readLevel : Nat × Int32 × Int32 → ix_M → (ix_R → Prop) → Prop} {l : Launch} {d : Nat} (H : ix_AllS l cX3_readLevel 6 RX3 d (some .boolean) (o_X3_readLevel TX3_readUnit TX3_readLevel)) (Q : ix_R → Prop) (ls : ix_L) (st : List ix_V) (μ : ix_M) : ix_Ev (o_X3_readLevel TX3_readUnit TX3_readLevel) Q (49, ls, st, μ) = oc_X3_levelOf 52 (ix_Ev (o_X3_readLevel TX3_readUnit TX3_readLevel) Q) Q ls st μ := ix_Ev.eq H rfl ls st μ
theorem e_X3_readLevel_52 {TX3_readUnit : Nat × Int32 → ix_M → (ix_R → Prop) → Prop} {TX3_readLevel : Nat × Int32 × Int32 → ix_M → (ix_R → Prop) → Prop} {l : Launch} {d : Nat} (H : ix_AllS l cX3_readLevel 6 RX3 d (some .boolean) (o_X3_readLevel TX3_readUnit TX3_readLevel)) (Q : ix_R → Prop) (ls : ix_L) (st : List ix_V) (μ : ix_M) : ix_Ev (o_X3_readLevel TX3_readUnit TX3_readLevel) Q (52, ls, st, μ) = ix_iload 1 53 (ix_Ev (o_X3_readLevel TX3_readUnit TX3_readLevel) Q) Q ls st μ := ix_Ev.eq H rfl ls st μ
theorem e_X3_readLevel_53 {TX3_readUnit : Nat × Int32 → ix_M → (ix_R → Prop) → Prop} {TX3_readLevel : Nat × Int32 × Int32 → ix_M → (ix_R → Prop) → Prop} {l : Launch} {d : Nat} (H : ix_AllS l cX3_readLevel 6 RX3 d (some .boolean) (o_X3_readLevel TX3_readUnit TX3_readLevel)) (Q : ix_R → Prop) (ls : ix_L) (st : List ix_V) (μ : ix_M) : ix_Ev (o_X3_readLevel TX3_readUnit TX3_readLevel) Q (53, ls, st, μ) = ix_cmp (fun x y => x = y) 56 104 (ix_Ev (o_X3_readLevel TX3_readUnit TX3_readLevel) Q) Q ls st μ := ix_Ev.eq H rfl ls st μ
theorem e_X3_readLevel_56 {TX3_readUnit : Nat × Int32 → ix_M → (ix_R → Prop) → Prop} {TX3_readLevel : Nat × Int32 × Int32 → ix_M → (ix_R → Prop) → Prop} {l : Launch} {d : Nat} (H : ix_AllS l cX3_readLevel 6 RX3 d (some .boolean) (o_X3_readLevel TX3_readUnit TX3_readLevel)) (Q : ix_R → Prop) (ls : ix_L) (st : List ix_V) (μ : ix_M) : ix_Ev (o_X3_readLevel TX3_readUnit TX3_readLevel) Q (56, ls, st, μ) = ix_aload 0 57 (ix_Ev (o_X3_readLevel TX3_readUnit TX3_readLevel) Q) Q ls st μ := ix_Ev.eq H rfl ls st μ
theorem e_X3_readLevel_57 {TX3_readUnit : Nat × Int32 → ix_M → (ix_R → Prop) → Prop} {TX3_readLevel : Nat × Int32 × Int32 → ix_M → (ix_R → Prop) → Prop} {l : Launch} {d : Nat} (H : ix_AllS l cX3_readLevel 6 RX3 d (some .boolean) (o_X3_readLevel TX3_readUnit TX3_readLevel)) (Q : ix_R → Prop) (ls : ix_L) (st : List ix_V) (μ : ix_M) : ix_Ev (o_X3_readLevel TX3_readUnit TX3_readLevel) Q (57, ls, st, μ) = oc_X3_next 60 (ix_Ev (o_X3_readLevel TX3_readUnit TX3_readLevel) Q) Q ls st μ := ix_Ev.eq H rfl ls st μ
theorem e_X3_readLevel_60 {TX3_readUnit : Nat × Int32 → ix_M → (ix_R → Prop) → Prop} {TX3_readLevel : Nat × Int32 × Int32 → ix_M → (ix_R → Prop) → Prop} {l : Launch} {d : Nat} (H : ix_AllS l cX3_readLevel 6 RX3 d (some .boolean) (o_X3_readLevel TX3_readUnit TX3_readLevel)) (Q : ix_R → Prop) (ls : ix_L) (st : List ix_V) (μ : ix_M) : ix_Ev (o_X3_readLevel TX3_readUnit TX3_readLevel) Q (60, ls, st, μ) = ix_istore 5 62 (ix_Ev (o_X3_readLevel TX3_readUnit TX3_readLevel) Q) Q ls st μ := ix_Ev.eq H rfl ls st μ
theorem e_X3_readLevel_62 {TX3_readUnit : Nat × Int32 → ix_M → (ix_R → Prop) → Prop} {TX3_readLevel : Nat × Int32 × Int32 → ix_M → (ix_R → Prop) → Prop} {l : Launch} {d : Nat} (H : ix_AllS l cX3_readLevel 6 RX3 d (some .boolean) (o_X3_readLevel TX3_readUnit TX3_readLevel)) (Q : ix_R → Prop) (ls : ix_L) (st : List ix_V) (μ : ix_M) : ix_Ev (o_X3_readLevel TX3_readUnit TX3_readLevel) Q (62, ls, st, μ) = ix_aload 0 63 (ix_Ev (o_X3_readLevel TX3_readUnit TX3_readLevel) Q) Q ls st μ := ix_Ev.eq H rfl ls st μ
theorem e_X3_readLevel_63 {TX3_readUnit : Nat × Int32 → ix_M → (ix_R → Prop) → Prop} {TX3_readLevel : Nat × Int32 × Int32 → ix_M → (ix_R → Prop) → Prop} {l : Launch} {d : Nat} (H : ix_AllS l cX3_readLevel 6 RX3 d (some .boolean) (o_X3_readLevel TX3_readUnit TX3_readLevel)) (Q : ix_R → Prop) (ls : ix_L) (st : List ix_V) (μ : ix_M) : ix_Ev (o_X3_readLevel TX3_readUnit TX3_readLevel) Q (63, ls, st, μ) = ix_dup 64 (ix_Ev (o_X3_readLevel TX3_readUnit TX3_readLevel) Q) Q ls st μ := ix_Ev.eq H rfl ls st μ
theorem e_X3_readLevel_64 {TX3_readUnit : Nat × Int32 → ix_M → (ix_R → Prop) → Prop} {TX3_readLevel : Nat × Int32 × Int32 → ix_M → (ix_R → Prop) → Prop} {l : Launch} {d : Nat} (H : ix_AllS l cX3_readLevel 6 RX3 d (some .boolean) (o_X3_readLevel TX3_readUnit TX3_readLevel)) (Q : ix_R → Prop) (ls : ix_L) (st : List ix_V) (μ : ix_M) : ix_Ev (o_X3_readLevel TX3_readUnit TX3_readLevel) Q (64, ls, st, μ) = ix_geti 2 3 67 (ix_Ev (o_X3_readLevel TX3_readUnit TX3_readLevel) Q) Q ls st μ := ix_Ev.eq H rfl ls st μ
theorem e_X3_readLevel_67 {TX3_readUnit : Nat × Int32 → ix_M → (ix_R → Prop) → Prop} {TX3_readLevel : Nat × Int32 × Int32 → ix_M → (ix_R → Prop) → Prop} {l : Launch} {d : Nat} (H : ix_AllS l cX3_readLevel 6 RX3 d (some .boolean) (o_X3_readLevel TX3_readUnit TX3_readLevel)) (Q : ix_R → Prop) (ls : ix_L) (st : List ix_V) (μ : ix_M) : ix_Ev (o_X3_readLevel TX3_readUnit TX3_readLevel) Q (67, ls, st, μ) = ix_push (vi 1) 68 (ix_Ev (o_X3_readLevel TX3_readUnit TX3_readLevel) Q) Q ls st μ := ix_Ev.eq H rfl ls st μ
theorem e_X3_readLevel_68 {TX3_readUnit : Nat × Int32 → ix_M → (ix_R → Prop) → Prop} {TX3_readLevel : Nat × Int32 × Int32 → ix_M → (ix_R → Prop) → Prop} {l : Launch} {d : Nat} (H : ix_AllS l cX3_readLevel 6 RX3 d (some .boolean) (o_X3_readLevel TX3_readUnit TX3_readLevel)) (Q : ix_R → Prop) (ls : ix_L) (st : List ix_V) (μ : ix_M) : ix_Ev (o_X3_readLevel TX3_readUnit TX3_readLevel) Q (68, ls, st, μ) = ix_bin (fun x y => x + y) 69 (ix_Ev (o_X3_readLevel TX3_readUnit TX3_readLevel) Q) Q ls st μ := ix_Ev.eq H rfl ls st μ
theorem e_X3_readLevel_69 {TX3_readUnit : Nat × Int32 → ix_M → (ix_R → Prop) → Prop} {TX3_readLevel : Nat × Int32 × Int32 → ix_M → (ix_R → Prop) → Prop} {l : Launch} {d : Nat} (H : ix_AllS l cX3_readLevel 6 RX3 d (some .boolean) (o_X3_readLevel TX3_readUnit TX3_readLevel)) (Q : ix_R → Prop) (ls : ix_L) (st : List ix_V) (μ : ix_M) : ix_Ev (o_X3_readLevel TX3_readUnit TX3_readLevel) Q (69, ls, st, μ) = ix_puti 2 3 72 (ix_Ev (o_X3_readLevel TX3_readUnit TX3_readLevel) Q) Q ls st μ := ix_Ev.eq H rfl ls st μ
theorem e_X3_readLevel_72 {TX3_readUnit : Nat × Int32 → ix_M → (ix_R → Prop) → Prop} {TX3_readLevel : Nat × Int32 × Int32 → ix_M → (ix_R → Prop) → Prop} {l : Launch} {d : Nat} (H : ix_AllS l cX3_readLevel 6 RX3 d (some .boolean) (o_X3_readLevel TX3_readUnit TX3_readLevel)) (Q : ix_R → Prop) (ls : ix_L) (st : List ix_V) (μ : ix_M) : ix_Ev (o_X3_readLevel TX3_readUnit TX3_readLevel) Q (72, ls, st, μ) = ix_aload 0 73 (ix_Ev (o_X3_readLevel TX3_readUnit TX3_readLevel) Q) Q ls st μ := ix_Ev.eq H rfl ls st μ
theorem e_X3_readLevel_73 {TX3_readUnit : Nat × Int32 → ix_M → (ix_R → Prop) → Prop} {TX3_readLevel : Nat × Int32 × Int32 → ix_M → (ix_R → Prop) → Prop} {l : Launch} {d : Nat} (H : ix_AllS l cX3_readLevel 6 RX3 d (some .boolean) (o_X3_readLevel TX3_readUnit TX3_readLevel)) (Q : ix_R → Prop) (ls : ix_L) (st : List ix_V) (μ : ix_M) : ix_Ev (o_X3_readLevel TX3_readUnit TX3_readLevel) Q (73, ls, st, μ) = ix_iload 1 74 (ix_Ev (o_X3_readLevel TX3_readUnit TX3_readLevel) Q) Q ls st μ := ix_Ev.eq H rfl ls st μ
theorem e_X3_readLevel_74 {TX3_readUnit : Nat × Int32 → ix_M → (ix_R → Prop) → Prop} {TX3_readLevel : Nat × Int32 × Int32 → ix_M → (ix_R → Prop) → Prop} {l : Launch} {d : Nat} (H : ix_AllS l cX3_readLevel 6 RX3 d (some .boolean) (o_X3_readLevel TX3_readUnit TX3_readLevel)) (Q : ix_R → Prop) (ls : ix_L) (st : List ix_V) (μ : ix_M) : ix_Ev (o_X3_readLevel TX3_readUnit TX3_readLevel) Q (74, ls, st, μ) = ix_push (vi 1) 75 (ix_Ev (o_X3_readLevel TX3_readUnit TX3_readLevel) Q) Q ls st μ := ix_Ev.eq H rfl ls st μ
theorem e_X3_readLevel_75 {TX3_readUnit : Nat × Int32 → ix_M → (ix_R → Prop) → Prop} {TX3_readLevel : Nat × Int32 × Int32 → ix_M → (ix_R → Prop) → Prop} {l : Launch} {d : Nat} (H : ix_AllS l cX3_readLevel 6 RX3 d (some .boolean) (o_X3_readLevel TX3_readUnit TX3_readLevel)) (Q : ix_R → Prop) (ls : ix_L) (st : List ix_V) (μ : ix_M) : ix_Ev (o_X3_readLevel TX3_readUnit TX3_readLevel) Q (75, ls, st, μ) = ix_bin (fun x y => x + y) 76 (ix_Ev (o_X3_readLevel TX3_readUnit TX3_readLevel) Q) Q ls st μ := ix_Ev.eq H rfl ls st μ
theorem e_X3_readLevel_76 {TX3_readUnit : Nat × Int32 → ix_M → (ix_R → Prop) → Prop} {TX3_readLevel : Nat × Int32 × Int32 → ix_M → (ix_R → Prop) → Prop} {l : Launch} {d : Nat} (H : ix_AllS l cX3_readLevel 6 RX3 d (some .boolean) (o_X3_readLevel TX3_readUnit TX3_readLevel)) (Q : ix_R → Prop) (ls : ix_L) (st : List ix_V) (μ : ix_M) : ix_Ev (o_X3_readLevel TX3_readUnit TX3_readLevel) Q (76, ls, st, μ) = ix_iload 2 77 (ix_Ev (o_X3_readLevel TX3_readUnit TX3_readLevel) Q) Q ls st μ := ix_Ev.eq H rfl ls st μ
theorem e_X3_readLevel_77 {TX3_readUnit : Nat × Int32 → ix_M → (ix_R → Prop) → Prop} {TX3_readLevel : Nat × Int32 × Int32 → ix_M → (ix_R → Prop) → Prop} {l : Launch} {d : Nat} (H : ix_AllS l cX3_readLevel 6 RX3 d (some .boolean) (o_X3_readLevel TX3_readUnit TX3_readLevel)) (Q : ix_R → Prop) (ls : ix_L) (st : List ix_V) (μ : ix_M) : ix_Ev (o_X3_readLevel TX3_readUnit TX3_readLevel) Q (77, ls, st, μ) = ocr_X3_readLevel TX3_readLevel 80 (ix_Ev (o_X3_readLevel TX3_readUnit TX3_readLevel) Q) Q ls st μ := ix_Ev.eq H rfl ls st μ
theorem e_X3_readLevel_80 {TX3_readUnit : Nat × Int32 → ix_M → (ix_R → Prop) → Prop} {TX3_readLevel : Nat × Int32 × Int32 → ix_M → (ix_R → Prop) → Prop} {l : Launch} {d : Nat} (H : ix_AllS l cX3_readLevel 6 RX3 d (some .boolean) (o_X3_readLevel TX3_readUnit TX3_readLevel)) (Q : ix_R → Prop) (ls : ix_L) (st : List ix_V) (μ : ix_M) : ix_Ev (o_X3_readLevel TX3_readUnit TX3_readLevel) Q (80, ls, st, μ) = ix_if (fun x => x = 0) 83 85 (ix_Ev (o_X3_readLevel TX3_readUnit TX3_readLevel) Q) Q ls st μ := ix_Ev.eq H rfl ls st μ
theorem e_X3_readLevel_83 {TX3_readUnit : Nat × Int32 → ix_M → (ix_R → Prop) → Prop} {TX3_readLevel : Nat × Int32 × Int32 → ix_M → (ix_R → Prop) → Prop} {l : Launch} {d : Nat} (H : ix_AllS l cX3_readLevel 6 RX3 d (some .boolean) (o_X3_readLevel TX3_readUnit TX3_readLevel)) (Q : ix_R → Prop) (ls : ix_L) (st : List ix_V) (μ : ix_M) : ix_Ev (o_X3_readLevel TX3_readUnit TX3_readLevel) Q (83, ls, st, μ) = ix_push (vi 0) 84 (ix_Ev (o_X3_readLevel TX3_readUnit TX3_readLevel) Q) Q ls st μ := ix_Ev.eq H rfl ls st μ
theorem e_X3_readLevel_84 {TX3_readUnit : Nat × Int32 → ix_M → (ix_R → Prop) → Prop} {TX3_readLevel : Nat × Int32 × Int32 → ix_M → (ix_R → Prop) → Prop} {l : Launch} {d : Nat} (H : ix_AllS l cX3_readLevel 6 RX3 d (some .boolean) (o_X3_readLevel TX3_readUnit TX3_readLevel)) (Q : ix_R → Prop) (ls : ix_L) (st : List ix_V) (μ : ix_M) : ix_Ev (o_X3_readLevel TX3_readUnit TX3_readLevel) Q (84, ls, st, μ) = ix_zret (ix_Ev (o_X3_readLevel TX3_readUnit TX3_readLevel) Q) Q ls st μ := ix_Ev.eq H rfl ls st μ
theorem e_X3_readLevel_85 {TX3_readUnit : Nat × Int32 → ix_M → (ix_R → Prop) → Prop} {TX3_readLevel : Nat × Int32 × Int32 → ix_M → (ix_R → Prop) → Prop} {l : Launch} {d : Nat} (H : ix_AllS l cX3_readLevel 6 RX3 d (some .boolean) (o_X3_readLevel TX3_readUnit TX3_readLevel)) (Q : ix_R → Prop) (ls : ix_L) (st : List ix_V) (μ : ix_M) : ix_Ev (o_X3_readLevel TX3_readUnit TX3_readLevel) Q (85, ls, st, μ) = ix_aload 0 86 (ix_Ev (o_X3_readLevel TX3_readUnit TX3_readLevel) Q) Q ls st μ := ix_Ev.eq H rfl ls st μ
theorem e_X3_readLevel_86 {TX3_readUnit : Nat × Int32 → ix_M → (ix_R → Prop) → Prop} {TX3_readLevel : Nat × Int32 × Int32 → ix_M → (ix_R → Prop) → Prop} {l : Launch} {d : Nat} (H : ix_AllS l cX3_readLevel 6 RX3 d (some .boolean) (o_X3_readLevel TX3_readUnit TX3_readLevel)) (Q : ix_R → Prop) (ls : ix_L) (st : List ix_V) (μ : ix_M) : ix_Ev (o_X3_readLevel TX3_readUnit TX3_readLevel) Q (86, ls, st, μ) = ix_getr 2 6 (fun _ => 89) 89 (ix_Ev (o_X3_readLevel TX3_readUnit TX3_readLevel) Q) Q ls st μ := ix_Ev.eq H rfl ls st μ
theorem e_X3_readLevel_89 {TX3_readUnit : Nat × Int32 → ix_M → (ix_R → Prop) → Prop} {TX3_readLevel : Nat × Int32 × Int32 → ix_M → (ix_R → Prop) → Prop} {l : Launch} {d : Nat} (H : ix_AllS l cX3_readLevel 6 RX3 d (some .boolean) (o_X3_readLevel TX3_readUnit TX3_readLevel)) (Q : ix_R → Prop) (ls : ix_L) (st : List ix_V) (μ : ix_M) : ix_Ev (o_X3_readLevel TX3_readUnit TX3_readLevel) Q (89, ls, st, μ) = ix_getr 6 3 (fun k => k + 1) 92 (ix_Ev (o_X3_readLevel TX3_readUnit TX3_readLevel) Q) Q ls st μ := ix_Ev.eq H rfl ls st μ
theorem e_X3_readLevel_92 {TX3_readUnit : Nat × Int32 → ix_M → (ix_R → Prop) → Prop} {TX3_readLevel : Nat × Int32 × Int32 → ix_M → (ix_R → Prop) → Prop} {l : Launch} {d : Nat} (H : ix_AllS l cX3_readLevel 6 RX3 d (some .boolean) (o_X3_readLevel TX3_readUnit TX3_readLevel)) (Q : ix_R → Prop) (ls : ix_L) (st : List ix_V) (μ : ix_M) : ix_Ev (o_X3_readLevel TX3_readUnit TX3_readLevel) Q (92, ls, st, μ) = ix_iload 5 94 (ix_Ev (o_X3_readLevel TX3_readUnit TX3_readLevel) Q) Q ls st μ := ix_Ev.eq H rfl ls st μ
theorem e_X3_readLevel_94 {TX3_readUnit : Nat × Int32 → ix_M → (ix_R → Prop) → Prop} {TX3_readLevel : Nat × Int32 × Int32 → ix_M → (ix_R → Prop) → Prop} {l : Launch} {d : Nat} (H : ix_AllS l cX3_readLevel 6 RX3 d (some .boolean) (o_X3_readLevel TX3_readUnit TX3_readLevel)) (Q : ix_R → Prop) (ls : ix_L) (st : List ix_V) (μ : ix_M) : ix_Ev (o_X3_readLevel TX3_readUnit TX3_readLevel) Q (94, ls, st, μ) = ix_un (fun x => -x) 95 (ix_Ev (o_X3_readLevel TX3_readUnit TX3_readLevel) Q) Q ls st μ := ix_Ev.eq H rfl ls st μ
theorem e_X3_readLevel_95 {TX3_readUnit : Nat × Int32 → ix_M → (ix_R → Prop) → Prop} {TX3_readLevel : Nat × Int32 × Int32 → ix_M → (ix_R → Prop) → Prop} {l : Launch} {d : Nat} (H : ix_AllS l cX3_readLevel 6 RX3 d (some .boolean) (o_X3_readLevel TX3_readUnit TX3_readLevel)) (Q : ix_R → Prop) (ls : ix_L) (st : List ix_V) (μ : ix_M) : ix_Ev (o_X3_readLevel TX3_readUnit TX3_readLevel) Q (95, ls, st, μ) = oc_X4_add 98 (ix_Ev (o_X3_readLevel TX3_readUnit TX3_readLevel) Q) Q ls st μ := ix_Ev.eq H rfl ls st μ
theorem e_X3_readLevel_98 {TX3_readUnit : Nat × Int32 → ix_M → (ix_R → Prop) → Prop} {TX3_readLevel : Nat × Int32 × Int32 → ix_M → (ix_R → Prop) → Prop} {l : Launch} {d : Nat} (H : ix_AllS l cX3_readLevel 6 RX3 d (some .boolean) (o_X3_readLevel TX3_readUnit TX3_readLevel)) (Q : ix_R → Prop) (ls : ix_L) (st : List ix_V) (μ : ix_M) : ix_Ev (o_X3_readLevel TX3_readUnit TX3_readLevel) Q (98, ls, st, μ) = ix_iinc 4 1 101 (ix_Ev (o_X3_readLevel TX3_readUnit TX3_readLevel) Q) Q ls st μ := ix_Ev.eq H rfl ls st μ
theorem e_X3_readLevel_101 {TX3_readUnit : Nat × Int32 → ix_M → (ix_R → Prop) → Prop} {TX3_readLevel : Nat × Int32 × Int32 → ix_M → (ix_R → Prop) → Prop} {l : Launch} {d : Nat} (H : ix_AllS l cX3_readLevel 6 RX3 d (some .boolean) (o_X3_readLevel TX3_readUnit TX3_readLevel)) (Q : ix_R → Prop) (ls : ix_L) (st : List ix_V) (μ : ix_M) : ix_Ev (o_X3_readLevel TX3_readUnit TX3_readLevel) Q (101, ls, st, μ) = ix_goto 39 (ix_Ev (o_X3_readLevel TX3_readUnit TX3_readLevel) Q) Q ls st μ := ix_Ev.eq H rfl ls st μ
theorem e_X3_readLevel_104 {TX3_readUnit : Nat × Int32 → ix_M → (ix_R → Prop) → Prop} {TX3_readLevel : Nat × Int32 × Int32 → ix_M → (ix_R → Prop) → Prop} {l : Launch} {d : Nat} (H : ix_AllS l cX3_readLevel 6 RX3 d (some .boolean) (o_X3_readLevel TX3_readUnit TX3_readLevel)) (Q : ix_R → Prop) (ls : ix_L) (st : List ix_V) (μ : ix_M) : ix_Ev (o_X3_readLevel TX3_readUnit TX3_readLevel) Q (104, ls, st, μ) = ix_push (vi 1) 105 (ix_Ev (o_X3_readLevel TX3_readUnit TX3_readLevel) Q) Q ls st μ := ix_Ev.eq H rfl ls st μ
theorem e_X3_readLevel_105 {TX3_readUnit : Nat × Int32 → ix_M → (ix_R → Prop) → Prop} {TX3_readLevel : Nat × Int32 × Int32 → ix_M → (ix_R → Prop) → Prop} {l : Launch} {d : Nat} (H : ix_AllS l cX3_readLevel 6 RX3 d (some .boolean) (o_X3_readLevel TX3_readUnit TX3_readLevel)) (Q : ix_R → Prop) (ls : ix_L) (st : List ix_V) (μ : ix_M) : ix_Ev (o_X3_readLevel TX3_readUnit TX3_readLevel) Q (105, ls, st, μ) = ix_zret (ix_Ev (o_X3_readLevel TX3_readUnit TX3_readLevel) Q) Q ls st μ := ix_Ev.eq H rfl ls st μ
/-- the names of the use in the class's String -/
theorem sFind_nm : ∀ u, u < 2 → ∀ b, b < 256 → ¬ nI b < 0 ∧ ¬ (((nI b).toUInt32 % 65536).toInt32) < 0 ∧ ¬ 255 < (((nI b).toUInt32 % 65536).toInt32) ∧ sFind (u + 1) (((nI b).toUInt32 % 65536).toInt32).toInt8.toInt32 (sLen (u + 1)) 0 = mName u (nI b) := by decide +kernel
theorem rAdd_88 (μ : ix_M) (v x : Int32) : ix_up (rAdd μ 90 v) 88 3 x = rAdd (ix_up μ 88 3 x) 90 v ∧ rAdd μ 90 v 88 3 = μ 88 3 := by
  have e1 : ix_up μ 88 3 x 90 = μ 90 := ix_up_ne (by decide)
  unfold rAdd
  rw [e1]
  split
  · refine ⟨?_, by rw [ix_up_ne (by decide), ix_up_ne (by decide)]⟩
    funext b i
    simp only [ix_up_ap]
    by_cases h1 : b = 88 ∧ i = 3
    · rw [if_pos h1, if_neg (by omega), if_neg (by omega)]
      rw [if_pos h1]
    · rw [if_neg h1]
      by_cases h2 : b = 90 ∧ i = 1
      · rw [if_pos h2, if_pos h2]
      · rw [if_neg h2, if_neg h2]
        by_cases h3 : b = 90 + 1 ∧ i = (μ 90 1).toNatClampNeg
        · rw [if_pos h3, if_pos h3]
        · rw [if_neg h3, if_neg h3, if_neg h1]
  · exact ⟨rfl, rfl⟩
theorem RdC.pa {μ : ix_M} {tp : Nat → Int32} {n u a : Nat} {cs : List Int32} (h : RdC μ tp n u a cs) (c : Int32) (hn : nx tp n a ≠ -1) : RdC (ix_up (rAdd μ 90 (tCls c)) 88 3 (rAdd μ 90 (tCls c) 88 3 + 1)) tp n u (a + 1) (cs ++ [c]) ∧ Fx [88, 90, 91] μ (ix_up (rAdd μ 90 (tCls c)) 88 3 (rAdd μ 90 (tCls c) 88 3 + 1)) := by
  rw [(rAdd_88 μ (tCls c) 0).2, (rAdd_88 μ (tCls c) _).1]
  obtain ⟨g1, g2⟩ := (h.at1 hn).push c (by have := h.2.2.2.1.2; omega)
  exact ⟨g1, (Fx.rf.up (by simp)).tr g2⟩
theorem rr_X3_readUnit (l : Launch) (tp : Nat → Int32) (n u k dd : Nat) (TO : Nat × Int32 × Int32 → ix_M → (ix_R → Prop) → Prop) (O : Int32 → RF) (H : ix_AllS l cX3_readUnit 4 RX3 dd (some .boolean) (o_X3_readUnit TO)) (hk : k ≤ 5) (hf : rdU tp n u k = rdUg tp n u O) (h0 : k = 0 → O = fun _ s => (false, s)) (h1 : 0 < k → ∀ (a : Nat) (cs : List Int32) (μ : ix_M) (Q : ix_R → Prop), RdC μ tp n u a cs → (nx tp n a = 33 ∨ nx tp n a = 40) → (∀ μ', Fx [88, 90, 91] μ μ' → RdC μ' tp n u (O (nx tp n a) (a, cs)).2.1 (O (nx tp n a) (a, cs)).2.2 → Q (some (vi (mB ((O (nx tp n a) (a, cs)).1 = true))), μ')) → TO (88, nx tp n a, nI (5 - k) + 1) μ Q)
    (μ : ix_M) (Q : ix_R → Prop) (hT : T_X3_readUnit tp n u k (88, nI (5 - k)) μ Q) : ix_Ev (o_X3_readUnit TO) Q (0, [some (vr 2 88), some (vi (nI (5 - k))), none, none], [], μ) := by
  obtain ⟨-, -, a, cs, hR, hQ⟩ := hT
  rw [hf] at hQ
  have e88 : (μ 88 2).toNatClampNeg = u + 1 := by
    have := hR.2.1.2
    rw [hR.2.1.1, nI_clamp (by omega)]
  simp (decide := true) only [e_X3_readUnit_0 H, e_X3_readUnit_1 H, e_X3_readUnit_4 H, e_X3_readUnit_5 H, e_X3_readUnit_6 H, e_X3_readUnit_9 H, e_X3_readUnit_12 H, e_X3_readUnit_13 H, e_X3_readUnit_16 H, e_X3_readUnit_17 H, e_X3_readUnit_18 H, e_X3_readUnit_19 H, e_X3_readUnit_21 H, e_X3_readUnit_24 H, e_X3_readUnit_25 H, e_X3_readUnit_27 H, e_X3_readUnit_30 H, e_X3_readUnit_31 H, e_X3_readUnit_32 H, e_X3_readUnit_35 H, e_X3_readUnit_36 H, e_X3_readUnit_37 H, e_X3_readUnit_38 H, e_X3_readUnit_39 H, e_X3_readUnit_40 H, e_X3_readUnit_43 H, e_X3_readUnit_46 H, e_X3_readUnit_47 H, e_X3_readUnit_50 H, e_X3_readUnit_51 H, e_X3_readUnit_52 H, e_X3_readUnit_53 H, e_X3_readUnit_56 H, e_X3_readUnit_57 H, e_X3_readUnit_60 H, e_X3_readUnit_61 H, e_X3_readUnit_64 H, e_X3_readUnit_65 H, e_X3_readUnit_66 H, e_X3_readUnit_69 H, e_X3_readUnit_70 H, e_X3_readUnit_71 H, e_X3_readUnit_74 H, e_X3_readUnit_75 H, e_X3_readUnit_76 H, e_X3_readUnit_77 H, e_X3_readUnit_80 H, e_X3_readUnit_83 H, e_X3_readUnit_84 H, e_X3_readUnit_85 H, e_X3_readUnit_86 H, e_X3_readUnit_89 H, e_X3_readUnit_90 H, e_X3_readUnit_91 H, e_X3_readUnit_94 H, e_X3_readUnit_95 H, e_X3_readUnit_96 H, e_X3_readUnit_99 H, e_X3_readUnit_100 H, vi, vl, vr, ocr_X3_readOpened, oc_J0_indexOf_0f7a4, T_J0_indexOf_0f7a4, oc_X3_isDigit, T_X3_isDigit, oc_X3_next, T_X3_next, oc_X3_readNumber, T_X3_readNumber, oc_X4_add, T_X4_add, ix_push, ix_iload, ix_lload, ix_aload, ix_istore, ix_astore, ix_iinc, ix_bin, ix_div, ix_un, ix_i2l, ix_l2i, ix_lbin, ix_lsh, ix_lcmp, ix_dup, ix_dup2, ix_pop, ix_if, ix_cmp, ix_goto, ix_switch, ix_sw, ix_iret, ix_zret, ix_vret, ix_aret, ix_geti, ix_getr, ix_puti, ix_putz, ix_puts, ix_gets, ix_iald, ix_iast, ix_alen, ix_aald, ix_gval, ix_gcod, ix_bald, ix_blen, ix_sald, ix_nret, ix_math2, ix_math1, ix_acopy, Nat.add_assoc, Int32.reduceLT, Int32.reduceLE, Int32.reduceToNatClampNeg, Int32.reduceSub, Int32.reduceAdd, Nat.reduceAdd, Nat.reduceLeDiff, true_or, or_true, or_false, false_or, not_false_eq_true, not_true_eq_false, false_implies, true_implies, implies_true, and_self, mB_0, mB_01, Classical.not_not, Nat.zero_le, List.getElem?_cons_zero, List.getElem?_cons_succ, List.set_cons_zero, List.set_cons_succ, ix_nl, ix_cs, true_and, and_true, Option.toList_some, Option.toList_none, List.cons_append, List.nil_append, hR.nxe, e88]
  have h5 : (5 ≤ nI (5 - k)) ↔ k = 0 := by
    rw [fa_lit 5, nI_leI (by decide) (by omega)]
    omega
  have hq0 : ¬ isDg (nx tp n a) → (nx tp n a = 33 ∨ nx tp n a = 40) → rdUg tp n u O (a, cs) = O (nx tp n a) (a, cs) := by
    intro c c1
    unfold rdUg
    rw [if_neg c, if_pos c1]
  have q0 : ¬ isDg (nx tp n a) → (nx tp n a = 33 ∨ nx tp n a = 40) → k = 0 → Q (some (vi 0), μ) := by
    intro c c1 hk0
    rw [hq0 c c1, h0 hk0] at hQ
    exact hQ μ Fx.rf hR
  refine ⟨hR.ro, fun c => ⟨fun c1 => ?_, fun c1 => ⟨fun c2 => ?_, fun c2 => ?_⟩⟩, fun c => ?_⟩
  · refine ⟨fun c5 => q0 c (Or.inl c1) (h5.mp c5), fun c5 => h1 (Nat.pos_of_ne_zero fun z => c5 (h5.mpr z)) a cs μ _ hR (Or.inl c1) (fun μ' hF hR' => ?_)⟩
    rw [hq0 c (Or.inl c1)] at hQ
    have e := hQ μ' hF hR'
    cases hq : (O (nx tp n a) (a, cs)).1 <;> rw [hq] at e <;> simp [hq, mB, vi] at e ⊢ <;> exact e
  · refine ⟨fun c5 => q0 c (Or.inr c2) (h5.mp c5), fun c5 => h1 (Nat.pos_of_ne_zero fun z => c5 (h5.mpr z)) a cs μ _ hR (Or.inr c2) (fun μ' hF hR' => ?_)⟩
    rw [hq0 c (Or.inr c2)] at hQ
    have e := hQ μ' hF hR'
    cases hq : (O (nx tp n a) (a, cs)).1 <;> rw [hq] at e <;> simp [hq, mB, vi] at e ⊢ <;> exact e
  · unfold rdUg rdNm at hQ
    simp only [if_neg c, if_neg (show ¬ (nx tp n a = 33 ∨ nx tp n a = 40) from fun z => z.elim c1 c2)] at hQ
    refine ⟨fun d => ⟨by have := hR.2.1.2; omega, ?_⟩, fun d => ?_⟩
    · rcases hR.byt with e | ⟨b, hb, e⟩
      · rw [e] at d
        exact absurd d (by decide)
      · obtain ⟨g1, g2, g3, g4⟩ := sFind_nm u (by have := hR.2.1.2; omega) b hb
        rw [e] at hQ ⊢
        rw [if_pos ⟨g2, g3⟩, g4]
        refine ⟨fun d2 => ⟨hR.ro2, ?_⟩, fun d2 => ?_⟩
        · rw [if_neg (Int32.not_lt.mpr d2)] at hQ
          have en : nx tp n a ≠ -1 := by
            intro z
            rw [z] at d
            exact absurd d (by decide)
          obtain ⟨q1, q2⟩ := hR.pa (10000 + mName u (nI b)) en
          have et : tCls (10000 + mName u (nI b)) = -1 - mName u (nI b) := by
            rcases mName_of u (nI b) with z | ⟨z | z | z, -⟩
            · rw [z] at d2
              exact absurd d2 (by decide)
            · rw [z]; decide +kernel
            · rw [z]; decide +kernel
            · rw [z]; decide +kernel
          rw [et] at q1 q2
          exact hQ _ q2 q1
        · rw [if_pos (Int32.not_le.mp d2)] at hQ
          exact hQ μ Fx.rf hR
    · rcases hR.byt with e | ⟨b, hb, e⟩
      · rw [e] at hQ
        have : mName u (-1) = -1 := by
          unfold mName
          split <;> rfl
        rw [this, if_pos (by decide)] at hQ
        exact hQ μ Fx.rf hR
      · rw [e] at d
        exact absurd (nI_pos' (by omega)) d
  · refine ⟨tp, n, u, a, cs, hR, c, fun μ' hF hR' => ?_⟩
    unfold rdUg at hQ
    simp only [if_pos c] at hQ
    exact hQ μ' hF hR'
theorem rr_X3_readOpened (l : Launch) (tp : Nat → Int32) (n u k dd : Nat) (H : ix_AllS l cX3_readOpened 3 RX3 dd (some .boolean) (o_X3_readOpened (T_X3_readUnit tp n u k) (T_X3_readLevel tp n u k 5))) (c : Int32) (μ : ix_M) (Q : ix_R → Prop) (hT : T_X3_readOpened tp n u k (88, c, nI (5 - k)) μ Q) : ix_Ev (o_X3_readOpened (T_X3_readUnit tp n u k) (T_X3_readLevel tp n u k 5)) Q (0, [some (vr 2 88), some (vi c), some (vi (nI (5 - k)))], [], μ) := by
  obtain ⟨-, -, a, cs, hR, hc, hc2, hQ⟩ := hT
  have hne : nx tp n a ≠ -1 := by
    rw [hc]
    rcases hc2 with rfl | rfl <;> decide
  have hR1 := hR.at1 hne
  obtain ⟨u1, u2, u3, u4⟩ := rdU_ok (tp := tp) (n := n) (u := u) k (a + 1, cs) (hR1.2.2.2.1.1)
  simp (decide := true) only [e_X3_readOpened_0 H, e_X3_readOpened_1 H, e_X3_readOpened_2 H, e_X3_readOpened_5 H, e_X3_readOpened_6 H, e_X3_readOpened_7 H, e_X3_readOpened_10 H, e_X3_readOpened_11 H, e_X3_readOpened_13 H, e_X3_readOpened_16 H, e_X3_readOpened_17 H, e_X3_readOpened_18 H, e_X3_readOpened_21 H, e_X3_readOpened_24 H, e_X3_readOpened_25 H, e_X3_readOpened_26 H, e_X3_readOpened_27 H, e_X3_readOpened_30 H, e_X3_readOpened_33 H, e_X3_readOpened_34 H, e_X3_readOpened_35 H, e_X3_readOpened_38 H, e_X3_readOpened_39 H, e_X3_readOpened_40 H, e_X3_readOpened_41 H, e_X3_readOpened_42 H, e_X3_readOpened_43 H, e_X3_readOpened_46 H, e_X3_readOpened_49 H, e_X3_readOpened_50 H, e_X3_readOpened_53 H, e_X3_readOpened_55 H, e_X3_readOpened_58 H, e_X3_readOpened_59 H, e_X3_readOpened_60 H, e_X3_readOpened_61 H, e_X3_readOpened_62 H, e_X3_readOpened_65 H, e_X3_readOpened_66 H, e_X3_readOpened_67 H, e_X3_readOpened_70 H, e_X3_readOpened_71 H, vi, vl, vr, ocr_X3_readUnit, ocr_X3_readLevel, oc_X3_next, T_X3_next, oc_X4_add, T_X4_add, ix_push, ix_iload, ix_lload, ix_aload, ix_istore, ix_astore, ix_iinc, ix_bin, ix_div, ix_un, ix_i2l, ix_l2i, ix_lbin, ix_lsh, ix_lcmp, ix_dup, ix_dup2, ix_pop, ix_if, ix_cmp, ix_goto, ix_switch, ix_sw, ix_iret, ix_zret, ix_vret, ix_aret, ix_geti, ix_getr, ix_puti, ix_putz, ix_puts, ix_gets, ix_iald, ix_iast, ix_alen, ix_aald, ix_gval, ix_gcod, ix_bald, ix_blen, ix_sald, ix_nret, ix_math2, ix_math1, ix_acopy, Nat.add_assoc, Int32.reduceLT, Int32.reduceLE, Int32.reduceToNatClampNeg, Int32.reduceSub, Int32.reduceAdd, Nat.reduceAdd, Nat.reduceLeDiff, true_or, or_true, or_false, false_or, not_false_eq_true, not_true_eq_false, false_implies, true_implies, implies_true, and_self, mB_0, mB_01, Classical.not_not, Nat.zero_le, List.getElem?_cons_zero, List.getElem?_cons_succ, List.set_cons_zero, List.set_cons_succ, ix_nl, ix_cs, true_and, and_true, Option.toList_some, Option.toList_none, List.cons_append, List.nil_append]
  refine ⟨fun e => ?_, fun e => ?_⟩
  · refine ⟨rfl, rfl, a + 1, cs, hR1, fun μ' hF hR' => ?_⟩
    unfold rdOp at hQ
    simp only [if_pos e] at hQ
    cases hq : (rdU tp n u k (a + 1, cs)).1
    · simp only [hq] at hQ
      have e2 := hQ μ' ((Fx.rf.up (by simp)).tr hF) hR'
      simp [hq, mB, vi] at e2 ⊢
      exact e2
    · simp only [hq] at hQ
      have hl : (rdU tp n u k (a + 1, cs)).2.2.length < (rdU tp n u k (a + 1, cs)).2.1 := by
        have := (u4 hq).1
        have := hR.2.2.2.1.2
        simp only at u3
        omega
      obtain ⟨g1, g2⟩ := hR'.push 20010 hl
      rw [show tCls 20010 = -c by rw [e]; decide +kernel] at g1 g2
      have e2 := hQ _ (((Fx.rf.up (by simp)).tr hF).tr g2) g1
      simp (decide := true) [hq, mB, vi, ix_cs] at e2 ⊢
      exact ⟨hR'.ro2, e2⟩
  · refine ⟨rfl, rfl, rfl, a + 1, cs, hR1, fun μ' hF hR' => ?_⟩
    unfold rdOp at hQ
    simp only [if_neg e] at hQ
    cases hq : (rdLv tp n (rdU tp n u k) 5 (a + 1, cs)).1
    · simp only [hq] at hQ
      have e2 := hQ μ' ((Fx.rf.up (by simp)).tr hF) hR'
      simp [hq, mB, vi] at e2 ⊢
      exact e2
    · simp only [hq, if_true] at hQ
      by_cases c3 : nx tp n (rdLv tp n (rdU tp n u k) 5 (a + 1, cs)).2.1 = 41
      · rw [if_pos c3] at hQ
        have e2 := hQ _ ((((Fx.rf.up (by simp)).tr hF)).up (by simp)) (hR'.at1 (by rw [c3]; decide))
        simp (decide := true) [hq, mB, vi, ix_cs, hR'.nxe, c3] at e2 ⊢
        exact ⟨hR'.ro, e2⟩
      · rw [if_neg c3] at hQ
        have e2 := hQ μ' ((Fx.rf.up (by simp)).tr hF) hR'
        simp (decide := true) [hq, mB, vi, ix_cs, hR'.nxe, c3] at e2 ⊢
        exact ⟨hR'.ro, e2⟩
theorem rr_X3_readLevel0 (l : Launch) (tp : Nat → Int32) (n u k dd : Nat) (TL : Nat × Int32 × Int32 → ix_M → (ix_R → Prop) → Prop) (H : ix_AllS l cX3_readLevel 6 RX3 dd (some .boolean) (o_X3_readLevel (T_X3_readUnit tp n u k) TL)) (μ : ix_M) (Q : ix_R → Prop) (hT : T_X3_readLevel tp n u k 0 (88, 5, nI (5 - k)) μ Q) : ix_Ev (o_X3_readLevel (T_X3_readUnit tp n u k) TL) Q (0, [some (vr 2 88), some (vi 5), some (vi (nI (5 - k))), none, none, none], [], μ) := by
  obtain ⟨-, -, -, a, cs, hR, hQ⟩ := hT
  simp (decide := true) only [e_X3_readLevel_0 H, e_X3_readLevel_1 H, e_X3_readLevel_2 H, e_X3_readLevel_5 H, e_X3_readLevel_6 H, e_X3_readLevel_7 H, e_X3_readLevel_10 H, e_X3_readLevel_11 H, e_X3_readLevel_12 H, e_X3_readLevel_13 H, e_X3_readLevel_14 H, e_X3_readLevel_15 H, e_X3_readLevel_16 H, e_X3_readLevel_19 H, e_X3_readLevel_22 H, e_X3_readLevel_23 H, e_X3_readLevel_24 H, e_X3_readLevel_25 H, e_X3_readLevel_26 H, e_X3_readLevel_29 H, e_X3_readLevel_30 H, e_X3_readLevel_33 H, e_X3_readLevel_35 H, e_X3_readLevel_36 H, e_X3_readLevel_37 H, e_X3_readLevel_41 H, e_X3_readLevel_42 H, e_X3_readLevel_45 H, e_X3_readLevel_46 H, e_X3_readLevel_49 H, e_X3_readLevel_52 H, e_X3_readLevel_53 H, e_X3_readLevel_56 H, e_X3_readLevel_57 H, e_X3_readLevel_60 H, e_X3_readLevel_62 H, e_X3_readLevel_63 H, e_X3_readLevel_64 H, e_X3_readLevel_67 H, e_X3_readLevel_68 H, e_X3_readLevel_69 H, e_X3_readLevel_72 H, e_X3_readLevel_73 H, e_X3_readLevel_74 H, e_X3_readLevel_75 H, e_X3_readLevel_76 H, e_X3_readLevel_77 H, e_X3_readLevel_80 H, e_X3_readLevel_83 H, e_X3_readLevel_84 H, e_X3_readLevel_85 H, e_X3_readLevel_86 H, e_X3_readLevel_89 H, e_X3_readLevel_92 H, e_X3_readLevel_94 H, e_X3_readLevel_95 H, e_X3_readLevel_98 H, e_X3_readLevel_101 H, e_X3_readLevel_104 H, e_X3_readLevel_105 H, vi, vl, vr, ocr_X3_readUnit, ocr_X3_readLevel, oc_X3_levelOf, T_X3_levelOf, oc_X3_next, T_X3_next, oc_X4_add, T_X4_add, ix_push, ix_iload, ix_lload, ix_aload, ix_istore, ix_astore, ix_iinc, ix_bin, ix_div, ix_un, ix_i2l, ix_l2i, ix_lbin, ix_lsh, ix_lcmp, ix_dup, ix_dup2, ix_pop, ix_if, ix_cmp, ix_goto, ix_switch, ix_sw, ix_iret, ix_zret, ix_vret, ix_aret, ix_geti, ix_getr, ix_puti, ix_putz, ix_puts, ix_gets, ix_iald, ix_iast, ix_alen, ix_aald, ix_gval, ix_gcod, ix_bald, ix_blen, ix_sald, ix_nret, ix_math2, ix_math1, ix_acopy, Nat.add_assoc, Int32.reduceLT, Int32.reduceLE, Int32.reduceToNatClampNeg, Int32.reduceSub, Int32.reduceAdd, Nat.reduceAdd, Nat.reduceLeDiff, true_or, or_true, or_false, false_or, not_false_eq_true, not_true_eq_false, false_implies, true_implies, implies_true, and_self, mB_0, mB_01, Classical.not_not, Nat.zero_le, List.getElem?_cons_zero, List.getElem?_cons_succ, List.set_cons_zero, List.set_cons_succ, ix_nl, ix_cs, true_and, and_true, Option.toList_some, Option.toList_none, List.cons_append, List.nil_append]
  refine ⟨rfl, rfl, a, cs, hR, fun μ' hF hR' => ?_⟩
  have e2 := hQ μ' hF hR'
  cases hq : (rdU tp n u k (a, cs)).1 <;> simp [hq, mB, vi, rdLv] at e2 ⊢ <;> exact e2
theorem l_X3_readLevel {l : Launch} {tp : Nat → Int32} {n u k j dd : Nat} {TU : Nat × Int32 → ix_M → (ix_R → Prop) → Prop} (H : ix_AllS l cX3_readLevel 6 RX3 dd (some .boolean) (o_X3_readLevel TU (T_X3_readLevel tp n u k j))) (hj : j ≤ 4) {μ0 : ix_M} {Q : ix_R → Prop} {N : Nat} (hN : N ≤ 50) : ∀ (f i : Nat) (a : Nat) (cs : List Int32) (μ : ix_M) (x5 : Option ix_V), i + f = N → Fx [88, 90, 91] μ0 μ → RdC μ tp n u a cs → (∀ μ', Fx [88, 90, 91] μ0 μ' → RdC μ' tp n u (rdLp tp n (rdLv tp n (rdU tp n u k) j) (nI (4 - j)) f (a, cs)).2.1 (rdLp tp n (rdLv tp n (rdU tp n u k) j) (nI (4 - j)) f (a, cs)).2.2 → Q (some (vi (mB ((rdLp tp n (rdLv tp n (rdU tp n u k) j) (nI (4 - j)) f (a, cs)).1 = true))), μ')) →
    ix_Ev (o_X3_readLevel TU (T_X3_readLevel tp n u k j)) Q (39, [some (vr 2 88), some (vi (nI (4 - j))), some (vi (nI (5 - k))), some (vi (nI N)), some (vi (nI i)), x5], [], μ) := by
  intro f
  induction f with
  | zero =>
    intro i a cs μ x5 hi hF hR hQ
    have hi : i = N := hi
    subst hi
    have hle : nI i ≤ nI i := Int32.le_refl _
    rw [e_X3_readLevel_39 H]
    simp (decide := true) only [e_X3_readLevel_0 H, e_X3_readLevel_1 H, e_X3_readLevel_2 H, e_X3_readLevel_5 H, e_X3_readLevel_6 H, e_X3_readLevel_7 H, e_X3_readLevel_10 H, e_X3_readLevel_11 H, e_X3_readLevel_12 H, e_X3_readLevel_13 H, e_X3_readLevel_14 H, e_X3_readLevel_15 H, e_X3_readLevel_16 H, e_X3_readLevel_19 H, e_X3_readLevel_22 H, e_X3_readLevel_23 H, e_X3_readLevel_24 H, e_X3_readLevel_25 H, e_X3_readLevel_26 H, e_X3_readLevel_29 H, e_X3_readLevel_30 H, e_X3_readLevel_33 H, e_X3_readLevel_35 H, e_X3_readLevel_36 H, e_X3_readLevel_37 H, e_X3_readLevel_41 H, e_X3_readLevel_42 H, e_X3_readLevel_45 H, e_X3_readLevel_46 H, e_X3_readLevel_49 H, e_X3_readLevel_52 H, e_X3_readLevel_53 H, e_X3_readLevel_56 H, e_X3_readLevel_57 H, e_X3_readLevel_60 H, e_X3_readLevel_62 H, e_X3_readLevel_63 H, e_X3_readLevel_64 H, e_X3_readLevel_67 H, e_X3_readLevel_68 H, e_X3_readLevel_69 H, e_X3_readLevel_72 H, e_X3_readLevel_73 H, e_X3_readLevel_74 H, e_X3_readLevel_75 H, e_X3_readLevel_76 H, e_X3_readLevel_77 H, e_X3_readLevel_80 H, e_X3_readLevel_83 H, e_X3_readLevel_84 H, e_X3_readLevel_85 H, e_X3_readLevel_86 H, e_X3_readLevel_89 H, e_X3_readLevel_92 H, e_X3_readLevel_94 H, e_X3_readLevel_95 H, e_X3_readLevel_98 H, e_X3_readLevel_101 H, e_X3_readLevel_104 H, e_X3_readLevel_105 H, vi, vl, vr, ocr_X3_readUnit, ocr_X3_readLevel, oc_X3_levelOf, T_X3_levelOf, oc_X3_next, T_X3_next, oc_X4_add, T_X4_add, ix_push, ix_iload, ix_lload, ix_aload, ix_istore, ix_astore, ix_iinc, ix_bin, ix_div, ix_un, ix_i2l, ix_l2i, ix_lbin, ix_lsh, ix_lcmp, ix_dup, ix_dup2, ix_pop, ix_if, ix_cmp, ix_goto, ix_switch, ix_sw, ix_iret, ix_zret, ix_vret, ix_aret, ix_geti, ix_getr, ix_puti, ix_putz, ix_puts, ix_gets, ix_iald, ix_iast, ix_alen, ix_aald, ix_gval, ix_gcod, ix_bald, ix_blen, ix_sald, ix_nret, ix_math2, ix_math1, ix_acopy, Nat.add_assoc, Int32.reduceLT, Int32.reduceLE, Int32.reduceToNatClampNeg, Int32.reduceSub, Int32.reduceAdd, Nat.reduceAdd, Nat.reduceLeDiff, true_or, or_true, or_false, false_or, not_false_eq_true, not_true_eq_false, false_implies, true_implies, implies_true, and_self, mB_0, mB_01, Classical.not_not, Nat.zero_le, List.getElem?_cons_zero, List.getElem?_cons_succ, List.set_cons_zero, List.set_cons_succ, ix_nl, ix_cs, true_and, and_true, Option.toList_some, Option.toList_none, List.cons_append, List.nil_append, hle]
    exact hQ μ hF hR
  | succ f ih =>
    intro i a cs μ x5 hi hF hR hQ
    have hng : ¬ nI N ≤ nI i := nI_ge (by omega) (by omega)
    have hi1 : nI i + 1 = nI (i + 1) := nI_1 i
    have h4 : nI (4 - j) + 1 = nI (5 - j) := by rw [nI_1]; congr 1; omega
    rw [e_X3_readLevel_39 H]
    simp (decide := true) only [e_X3_readLevel_0 H, e_X3_readLevel_1 H, e_X3_readLevel_2 H, e_X3_readLevel_5 H, e_X3_readLevel_6 H, e_X3_readLevel_7 H, e_X3_readLevel_10 H, e_X3_readLevel_11 H, e_X3_readLevel_12 H, e_X3_readLevel_13 H, e_X3_readLevel_14 H, e_X3_readLevel_15 H, e_X3_readLevel_16 H, e_X3_readLevel_19 H, e_X3_readLevel_22 H, e_X3_readLevel_23 H, e_X3_readLevel_24 H, e_X3_readLevel_25 H, e_X3_readLevel_26 H, e_X3_readLevel_29 H, e_X3_readLevel_30 H, e_X3_readLevel_33 H, e_X3_readLevel_35 H, e_X3_readLevel_36 H, e_X3_readLevel_37 H, e_X3_readLevel_41 H, e_X3_readLevel_42 H, e_X3_readLevel_45 H, e_X3_readLevel_46 H, e_X3_readLevel_49 H, e_X3_readLevel_52 H, e_X3_readLevel_53 H, e_X3_readLevel_56 H, e_X3_readLevel_57 H, e_X3_readLevel_60 H, e_X3_readLevel_62 H, e_X3_readLevel_63 H, e_X3_readLevel_64 H, e_X3_readLevel_67 H, e_X3_readLevel_68 H, e_X3_readLevel_69 H, e_X3_readLevel_72 H, e_X3_readLevel_73 H, e_X3_readLevel_74 H, e_X3_readLevel_75 H, e_X3_readLevel_76 H, e_X3_readLevel_77 H, e_X3_readLevel_80 H, e_X3_readLevel_83 H, e_X3_readLevel_84 H, e_X3_readLevel_85 H, e_X3_readLevel_86 H, e_X3_readLevel_89 H, e_X3_readLevel_92 H, e_X3_readLevel_94 H, e_X3_readLevel_95 H, e_X3_readLevel_98 H, e_X3_readLevel_101 H, e_X3_readLevel_104 H, e_X3_readLevel_105 H, vi, vl, vr, ocr_X3_readUnit, ocr_X3_readLevel, oc_X3_levelOf, T_X3_levelOf, oc_X3_next, T_X3_next, oc_X4_add, T_X4_add, ix_push, ix_iload, ix_lload, ix_aload, ix_istore, ix_astore, ix_iinc, ix_bin, ix_div, ix_un, ix_i2l, ix_l2i, ix_lbin, ix_lsh, ix_lcmp, ix_dup, ix_dup2, ix_pop, ix_if, ix_cmp, ix_goto, ix_switch, ix_sw, ix_iret, ix_zret, ix_vret, ix_aret, ix_geti, ix_getr, ix_puti, ix_putz, ix_puts, ix_gets, ix_iald, ix_iast, ix_alen, ix_aald, ix_gval, ix_gcod, ix_bald, ix_blen, ix_sald, ix_nret, ix_math2, ix_math1, ix_acopy, Nat.add_assoc, Int32.reduceLT, Int32.reduceLE, Int32.reduceToNatClampNeg, Int32.reduceSub, Int32.reduceAdd, Nat.reduceAdd, Nat.reduceLeDiff, true_or, or_true, or_false, false_or, not_false_eq_true, not_true_eq_false, false_implies, true_implies, implies_true, and_self, mB_0, mB_01, Classical.not_not, Nat.zero_le, List.getElem?_cons_zero, List.getElem?_cons_succ, List.set_cons_zero, List.set_cons_succ, ix_nl, ix_cs, true_and, and_true, Option.toList_some, Option.toList_none, List.cons_append, List.nil_append, hng, hi1, hR.nxe, h4]
    simp only [rdLp] at hQ
    refine ⟨hR.ro, fun c => ?_, fun c => ?_⟩
    · rw [if_pos c] at hQ
      obtain ⟨g1, g2, g3⟩ := cOp_bin (c := nx tp n a) (by rw [c]; exact nI4_ne j)
      have hR1 := hR.at1 g3
      obtain ⟨u1, u2, u3, u4⟩ := rdLv_ok (tp := tp) (rdU_ok (tp := tp) (n := n) (u := u) k) j (a + 1, cs) hR1.2.2.2.1.1
      refine ⟨hR.ro, rfl, rfl, rfl, a + 1, cs, hR1, fun μ' hF' hR' => ?_⟩
      cases hq : (rdLv tp n (rdU tp n u k) j (a + 1, cs)).1
      · simp only [hq] at hQ
        have e2 := hQ μ' ((hF.up (by simp)).tr hF') hR'
        simp [hq, mB, vi] at e2 ⊢
        exact e2
      · simp only [hq, if_true] at hQ
        have hl : (rdLv tp n (rdU tp n u k) j (a + 1, cs)).2.2.length < (rdLv tp n (rdU tp n u k) j (a + 1, cs)).2.1 := by
          have := (u4 hq).1
          have := hR.2.2.2.1.2
          simp only at u3
          omega
        obtain ⟨p1, p2⟩ := hR'.push (cOp (nx tp n a)) hl
        rw [g2] at p1 p2
        have e2 := ih (i + 1) _ _ _ (some (vi (nx tp n a))) (by omega) (((hF.up (by simp)).tr hF').tr p2) p1 hQ
        simp (decide := true) [hq, mB, vi, ix_cs] at e2 ⊢
        exact ⟨hR'.ro2, e2⟩
    · rw [if_neg c] at hQ
      exact hQ μ hF hR
theorem rr_X3_readLevel (l : Launch) (tp : Nat → Int32) (n u k j dd : Nat) (TU : Nat × Int32 → ix_M → (ix_R → Prop) → Prop) (H : ix_AllS l cX3_readLevel 6 RX3 dd (some .boolean) (o_X3_readLevel TU (T_X3_readLevel tp n u k j))) (hj : j ≤ 4) (μ : ix_M) (Q : ix_R → Prop) (hT : T_X3_readLevel tp n u k (j + 1) (88, nI (5 - (j + 1)), nI (5 - k)) μ Q) : ix_Ev (o_X3_readLevel TU (T_X3_readLevel tp n u k j)) Q (0, [some (vr 2 88), some (vi (nI (5 - (j + 1)))), some (vi (nI (5 - k))), none, none, none], [], μ) := by
  obtain ⟨-, -, -, a, cs, hR, hQ⟩ := hT
  rw [show 5 - (j + 1) = 4 - j by omega]
  have h5 : nI (4 - j) < 5 := by
    rw [fa_lit 5]
    exact nI_lt (by omega) (by decide)
  have h4 : nI (4 - j) + 1 = nI (5 - j) := by rw [nI_1]; congr 1; omega
  have h2 : nI (4 - j) = 2 ↔ j = 2 := by
    rw [fa_lit 2, nI_eq (by omega) (by decide)]
    omega
  simp (decide := true) only [e_X3_readLevel_0 H, e_X3_readLevel_1 H, e_X3_readLevel_2 H, e_X3_readLevel_5 H, e_X3_readLevel_6 H, e_X3_readLevel_7 H, e_X3_readLevel_10 H, e_X3_readLevel_11 H, e_X3_readLevel_12 H, e_X3_readLevel_13 H, e_X3_readLevel_14 H, e_X3_readLevel_15 H, e_X3_readLevel_16 H, e_X3_readLevel_19 H, e_X3_readLevel_22 H, e_X3_readLevel_23 H, e_X3_readLevel_24 H, e_X3_readLevel_25 H, e_X3_readLevel_26 H, e_X3_readLevel_29 H, e_X3_readLevel_30 H, e_X3_readLevel_33 H, e_X3_readLevel_35 H, e_X3_readLevel_36 H, e_X3_readLevel_37 H, e_X3_readLevel_41 H, e_X3_readLevel_42 H, e_X3_readLevel_45 H, e_X3_readLevel_46 H, e_X3_readLevel_49 H, e_X3_readLevel_52 H, e_X3_readLevel_53 H, e_X3_readLevel_56 H, e_X3_readLevel_57 H, e_X3_readLevel_60 H, e_X3_readLevel_62 H, e_X3_readLevel_63 H, e_X3_readLevel_64 H, e_X3_readLevel_67 H, e_X3_readLevel_68 H, e_X3_readLevel_69 H, e_X3_readLevel_72 H, e_X3_readLevel_73 H, e_X3_readLevel_74 H, e_X3_readLevel_75 H, e_X3_readLevel_76 H, e_X3_readLevel_77 H, e_X3_readLevel_80 H, e_X3_readLevel_83 H, e_X3_readLevel_84 H, e_X3_readLevel_85 H, e_X3_readLevel_86 H, e_X3_readLevel_89 H, e_X3_readLevel_92 H, e_X3_readLevel_94 H, e_X3_readLevel_95 H, e_X3_readLevel_98 H, e_X3_readLevel_101 H, e_X3_readLevel_104 H, e_X3_readLevel_105 H, vi, vl, vr, ocr_X3_readUnit, ocr_X3_readLevel, oc_X3_levelOf, T_X3_levelOf, oc_X3_next, T_X3_next, oc_X4_add, T_X4_add, ix_push, ix_iload, ix_lload, ix_aload, ix_istore, ix_astore, ix_iinc, ix_bin, ix_div, ix_un, ix_i2l, ix_l2i, ix_lbin, ix_lsh, ix_lcmp, ix_dup, ix_dup2, ix_pop, ix_if, ix_cmp, ix_goto, ix_switch, ix_sw, ix_iret, ix_zret, ix_vret, ix_aret, ix_geti, ix_getr, ix_puti, ix_putz, ix_puts, ix_gets, ix_iald, ix_iast, ix_alen, ix_aald, ix_gval, ix_gcod, ix_bald, ix_blen, ix_sald, ix_nret, ix_math2, ix_math1, ix_acopy, Nat.add_assoc, Int32.reduceLT, Int32.reduceLE, Int32.reduceToNatClampNeg, Int32.reduceSub, Int32.reduceAdd, Nat.reduceAdd, Nat.reduceLeDiff, true_or, or_true, or_false, false_or, not_false_eq_true, not_true_eq_false, false_implies, true_implies, implies_true, and_self, mB_0, mB_01, Classical.not_not, Nat.zero_le, List.getElem?_cons_zero, List.getElem?_cons_succ, List.set_cons_zero, List.set_cons_succ, ix_nl, ix_cs, true_and, and_true, Option.toList_some, Option.toList_none, List.cons_append, List.nil_append, h5, h4]
  refine ⟨rfl, rfl, rfl, a, cs, hR, fun μ' hF hR' => ?_⟩
  simp only [rdLv] at hQ
  cases hq : (rdLv tp n (rdU tp n u k) j (a, cs)).1
  · simp only [hq] at hQ
    have e2 := hQ μ' hF hR'
    simp [hq, mB, vi] at e2 ⊢
    exact e2
  · simp only [hq, if_true] at hQ
    by_cases c : j = 2
    · rw [if_pos c] at hQ
      have e2 := l_X3_readLevel H hj (N := 1) (by decide) 1 0 _ _ μ' none rfl hF hR' hQ
      simp (decide := true) [hq, mB, vi, h2, c] at e2 ⊢
      exact e2
    · rw [if_neg c] at hQ
      have e2 := l_X3_readLevel H hj (N := 50) (by decide) 50 0 _ _ μ' none rfl hF hR' hQ
      simp (decide := true) [hq, mB, vi, h2, c] at e2 ⊢
      exact e2
theorem ct_no {P : Type} {l : Launch} {y : MethodName} {cc : ByteArray} {nL : Nat} {rt : Option FieldType} {d : Nat} {sh : P → List ix_V} : ix_Ct l y cc nL rt d sh (fun _ _ _ => False) := fun _ _ _ _ _ _ h => h.elim
theorem mo_no {P : Type} : ∀ (x : P) (μ : ix_M) (Q Q' : ix_R → Prop), (∀ r, Q r → Q' r) → (fun (_ : P) (_ : ix_M) (_ : ix_R → Prop) => False) x μ Q → (fun (_ : P) (_ : ix_M) (_ : ix_R → Prop) => False) x μ Q' := fun _ _ _ _ _ h => h
theorem k0_X3_readUnit (l : Launch) (tp : Nat → Int32) (n u d : Nat) (hd : 6 ≤ d) : ix_Ct l yX3_readUnit cX3_readUnit 4 (some .boolean) d sh_X3_readUnit (T_X3_readUnit tp n u 0) := by
  have H := a_X3_readUnit l d hd (d_X3_readOpened := 0) ct_no (by omega) mo_no
  refine ix_ct H rfl (by decide) (fun _ => Nat.le_of_ble_eq_true rfl) (fun x μ Q hok hT => ?_)
  obtain ⟨o, op⟩ := x
  have hT' := hT
  obtain ⟨rfl, rfl, -⟩ := hT
  exact rr_X3_readUnit l tp n u 0 d _ (fun _ s => (false, s)) H (by decide) rfl (fun _ => rfl) (fun z => absurd z (by decide)) μ Q hT'
theorem k1_X3_readUnit (l : Launch) (tp : Nat → Int32) (n u k d : Nat) (hk : k + 1 ≤ 5) (hd : 6 ≤ d) (hO : ix_Ct l yX3_readOpened cX3_readOpened 3 (some .boolean) d sh_X3_readOpened (T_X3_readOpened tp n u k)) : ix_Ct l yX3_readUnit cX3_readUnit 4 (some .boolean) (d + 1) sh_X3_readUnit (T_X3_readUnit tp n u (k + 1)) := by
  have H := a_X3_readUnit l (d + 1) (by omega) hO (by omega) (mo_X3_readOpened tp n u k)
  refine ix_ct H rfl (by decide) (fun _ => Nat.le_of_ble_eq_true rfl) (fun x μ Q hok hT => ?_)
  obtain ⟨o, op⟩ := x
  have hT' := hT
  obtain ⟨rfl, rfl, -⟩ := hT
  refine rr_X3_readUnit l tp n u (k + 1) (d + 1) _ (rdOp tp n (rdU tp n u k) (rdLv tp n (rdU tp n u k) 5)) H hk rfl (fun z => absurd z (by omega)) (fun _ a cs μ Q h1 h2 h3 => ?_) μ Q hT'
  exact ⟨rfl, by rw [nI_1]; congr 1; omega, a, cs, h1, rfl, h2, h3⟩
theorem k0_X3_readLevel (l : Launch) (tp : Nat → Int32) (n u k d : Nat) (hd : 6 ≤ d) (hU : ix_Ct l yX3_readUnit cX3_readUnit 4 (some .boolean) d sh_X3_readUnit (T_X3_readUnit tp n u k)) : ix_Ct l yX3_readLevel cX3_readLevel 6 (some .boolean) (d + 1) sh_X3_readLevel (T_X3_readLevel tp n u k 0) := by
  have H := a_X3_readLevel l (d + 1) (by omega) hU (by omega) (mo_X3_readUnit tp n u k) (d_X3_readLevel := 0) ct_no (by omega) mo_no
  refine ix_ct H rfl (by decide) (fun _ => Nat.le_of_ble_eq_true rfl) (fun x μ Q hok hT => ?_)
  obtain ⟨o, lv, op⟩ := x
  have hT' := hT
  obtain ⟨rfl, rfl, rfl, -⟩ := hT
  exact rr_X3_readLevel0 l tp n u k (d + 1) _ H μ Q hT'
theorem k1_X3_readLevel (l : Launch) (tp : Nat → Int32) (n u k j d : Nat) (hd : 6 ≤ d) (hj : j ≤ 4) (hL : ix_Ct l yX3_readLevel cX3_readLevel 6 (some .boolean) d sh_X3_readLevel (T_X3_readLevel tp n u k j)) : ix_Ct l yX3_readLevel cX3_readLevel 6 (some .boolean) (d + 1) sh_X3_readLevel (T_X3_readLevel tp n u k (j + 1)) := by
  have H := a_X3_readLevel l (d + 1) (by omega) (d_X3_readUnit := 0) ct_no (by omega) mo_no hL (by omega) (mo_X3_readLevel tp n u k j)
  refine ix_ct H rfl (by decide) (fun _ => Nat.le_of_ble_eq_true rfl) (fun x μ Q hok hT => ?_)
  obtain ⟨o, lv, op⟩ := x
  have hT' := hT
  obtain ⟨rfl, rfl, rfl, -⟩ := hT
  exact rr_X3_readLevel l tp n u k j (d + 1) _ H hj μ Q hT'
theorem kj_X3_readLevel (l : Launch) (tp : Nat → Int32) (n u k d : Nat) (hd : 6 ≤ d) (hU : ix_Ct l yX3_readUnit cX3_readUnit 4 (some .boolean) d sh_X3_readUnit (T_X3_readUnit tp n u k)) : ∀ j, j ≤ 5 → ix_Ct l yX3_readLevel cX3_readLevel 6 (some .boolean) (d + 1 + j) sh_X3_readLevel (T_X3_readLevel tp n u k j)
  | 0, _ => k0_X3_readLevel l tp n u k d hd hU
  | j + 1, h => k1_X3_readLevel l tp n u k j (d + 1 + j) (by omega) (by omega) (kj_X3_readLevel l tp n u k d hd hU j (by omega))
theorem k_X3_readOpened (l : Launch) (tp : Nat → Int32) (n u k d : Nat) (hd : 6 ≤ d) (hU : ix_Ct l yX3_readUnit cX3_readUnit 4 (some .boolean) d sh_X3_readUnit (T_X3_readUnit tp n u k)) : ix_Ct l yX3_readOpened cX3_readOpened 3 (some .boolean) (d + 7) sh_X3_readOpened (T_X3_readOpened tp n u k) := by
  have H := a_X3_readOpened l (d + 7) (by omega) hU (by omega) (mo_X3_readUnit tp n u k) (kj_X3_readLevel l tp n u k d hd hU 5 (by decide)) (by omega) (mo_X3_readLevel tp n u k 5)
  refine ix_ct H rfl (by decide) (fun _ => Nat.le_of_ble_eq_true rfl) (fun x μ Q hok hT => ?_)
  obtain ⟨o, c, op⟩ := x
  have hT' := hT
  obtain ⟨rfl, rfl, -⟩ := hT
  exact rr_X3_readOpened l tp n u k (d + 7) H c μ Q hT'
theorem k_X3_readUnit (l : Launch) (tp : Nat → Int32) (n u : Nat) : ∀ k, k ≤ 5 → ix_Ct l yX3_readUnit cX3_readUnit 4 (some .boolean) (6 + 8 * k) sh_X3_readUnit (T_X3_readUnit tp n u k)
  | 0, _ => k0_X3_readUnit l tp n u 6 (by decide)
  | k + 1, h => k1_X3_readUnit l tp n u k (6 + 8 * k + 7) h (by omega) (k_X3_readOpened l tp n u k (6 + 8 * k) (by omega) (k_X3_readUnit l tp n u k (by omega)))
def T_rdTop : Nat × Int32 × Int32 → ix_M → (ix_R → Prop) → Prop := fun x μ Q => ∃ tp n u, T_X3_readLevel tp n u 5 5 x μ Q
theorem mo_rdTop : ∀ (x : Nat × Int32 × Int32) (μ : ix_M) (Q Q' : ix_R → Prop), (∀ r, Q r → Q' r) → T_rdTop x μ Q → T_rdTop x μ Q' := fun x μ Q Q' h ⟨tp, n, u, z⟩ => ⟨tp, n, u, mo_X3_readLevel tp n u 5 5 x μ Q Q' h z⟩
theorem k_rdTop (l : Launch) : ix_Ct l yX3_readLevel cX3_readLevel 6 (some .boolean) 52 sh_X3_readLevel T_rdTop := by
  intro E x μ Q h1 h2 ⟨tp, n, u, h3⟩
  exact kj_X3_readLevel l tp n u 5 46 (by decide) (k_X3_readUnit l tp n u 5 (by decide)) 5 (by decide) E x μ Q h1 h2 h3
def sh_X3_faultFor (x : Nat × Nat × Int32) : List ix_V := [vr 2 x.1, vr 3 x.2.1, vi x.2.2]
/-- what THE TAPE comes to as a TEXT of a use -/
def rdT (tp : Nat → Int32) (n u : Nat) : Bool × RS := rdLv tp n (rdU tp n u 5) 5 (0, [])
theorem rdT_ok (tp : Nat → Int32) (n u : Nat) : (rdT tp n u).2.1 ≤ n ∧ (rdT tp n u).2.2.length ≤ (rdT tp n u).2.1 ∧ ((rdT tp n u).1 = true → tWf (rdT tp n u).2.2 0 1) := by
  obtain ⟨a1, a2, a3, a4⟩ := rdLv_ok (tp := tp) (rdU_ok (tp := tp) (n := n) (u := u) 5) 5 (0, []) (Nat.zero_le _)
  unfold rdT
  refine ⟨a2, by simpa using a3, fun z => ?_⟩
  obtain ⟨-, w, e, h⟩ := a4 z
  rw [e]
  exact h 0
def TapeC (μ : ix_M) (tp : Nat → Int32) (n : Nat) : Prop := μ 19 1 = nI n ∧ n ≤ 50 ∧ (∀ j, j < n → μ 20 j = tp j) ∧ ∀ j, j < n → ∃ b, b < 256 ∧ tp j = nI b
def T_X3_faultFor : Nat × Nat × Int32 → ix_M → (ix_R → Prop) → Prop := fun (_, r, use) μ Q => ∃ tp n u, r = 19 ∧ use = nI u ∧ u ≤ 1 ∧ TapeC μ tp n ∧ ∀ μ', Fx [88, 90, 91, 127, 128] μ μ' → TxtC μ' 89 (rdT tp n u).2.2 → Q (some (vi (if (rdT tp n u).1 = true ∧ (rdT tp n u).2.1 = n then -1 else nI (rdT tp n u).2.1)), μ')
def o_X3_faultFor (TX3_readLevel : Nat × Int32 × Int32 → ix_M → (ix_R → Prop) → Prop) : List (Nat × ix_Op) := [
  (0, ix_aload 0 1),
  (1, ix_getr 2 3 (fun _ => 127) 4),
  (4, ix_aload 1 5),
  (5, oc_X4_copyFrom 8),
  (8, ix_aload 0 9),
  (9, ix_iload 2 10),
  (10, ix_if (fun x => x = 0) 13 18),
  (13, ix_push (vr 24 1) 15),
  (15, ix_goto 20),
  (18, ix_push (vr 24 2) 20),
  (20, ix_puts 2 2 23),
  (23, ix_aload 0 24),
  (24, ix_push (vi 0) 25),
  (25, ix_puti 2 3 28),
  (28, ix_aload 0 29),
  (29, ix_getr 2 6 (fun _ => 89) 32),
  (32, ix_getr 6 3 (fun k => k + 1) 35),
  (35, oc_X4_clear 38),
  (38, ix_aload 0 39),
  (39, ix_push (vi 0) 40),
  (40, ix_push (vi 0) 41),
  (41, ocr_X3_readLevel TX3_readLevel 44),
  (44, ix_if (fun x => x = 0) 65 47),
  (47, ix_aload 0 48),
  (48, ix_geti 2 3 51),
  (51, ix_aload 0 52),
  (52, ix_getr 2 3 (fun _ => 127) 55),
  (55, ix_geti 3 1 58),
  (58, ix_cmp (fun x y => x = y) 61 65),
  (61, ix_push (vi (-1)) 62),
  (62, ix_goto 69),
  (65, ix_aload 0 66),
  (66, ix_geti 2 3 69),
  (69, ix_iret)]
set_option maxRecDepth 20000 in
theorem a_X3_faultFor (l : Launch) (d : Nat) (hlev : 53 ≤ d) {TX3_readLevel : Nat × Int32 × Int32 → ix_M → (ix_R → Prop) → Prop} {d_X3_readLevel : Nat} (h_X3_readLevel : ix_Ct l yX3_readLevel cX3_readLevel 6 (some .boolean) d_X3_readLevel sh_X3_readLevel TX3_readLevel) (hl_X3_readLevel : d_X3_readLevel < d) (hm_X3_readLevel : ∀ x μ Q Q', (∀ r, Q r → Q' r) → TX3_readLevel x μ Q → TX3_readLevel x μ Q') : ix_AllS l cX3_faultFor 3 RX3 d (some .int) (o_X3_faultFor TX3_readLevel) :=
  .cons (ix_s_aload_n dX3_faultFor_0 rfl) <|
  .cons (ix_s_getr (j := 1) tu_X3 rfl (by decide) (by decide) tw_178 rfl ts_2_1_r dX3_faultFor_1) <|
  .cons (ix_s_aload_n dX3_faultFor_4 rfl) <|
  .cons (oc_X4_copyFrom_s (ix_s_callv (t := 3) (k_X4_copyFrom l) (by omega) (by decide) tw_448 tw_6 tw_445 tw_446 tw_447 ⟨by decide, by decide, by decide +kernel⟩ (by decide) rfl rfl (fun _ => ⟨_, _, rfl, rfl⟩) dX3_faultFor_5)) <|
  .cons (ix_s_aload_n dX3_faultFor_8 rfl) <|
  .cons (ix_s_iload_n dX3_faultFor_9 rfl) <|
  .cons (ix_s_if_ne dX3_faultFor_10 (by decide)) <|
  .cons (ix_s_ldcS1 rfl dX3_faultFor_13) <|
  .cons (ix_s_goto dX3_faultFor_15 (by decide)) <|
  .cons (ix_s_ldcS2 rfl dX3_faultFor_18) <|
  .cons (ix_s_puts (j := 2) tu_X3 tyX3_ok nmX3 rfl (by decide) (by decide) tw_179 rfl rfl (by decide +kernel) ts_2_2_s dX3_faultFor_20) <|
  .cons (ix_s_aload_n dX3_faultFor_23 rfl) <|
  .cons (ix_s_iconst dX3_faultFor_24 (by decide +kernel)) <|
  .cons (ix_s_puti (j := 3) tu_X3 tyX3_ok nmX3 rfl (by decide) (by decide) tw_180 rfl rfl (by decide +kernel) ts_2_3_p dX3_faultFor_25) <|
  .cons (ix_s_aload_n dX3_faultFor_28 rfl) <|
  .cons (ix_s_getr (j := 0) tu_X3 rfl (by decide) (by decide) tw_176 rfl ts_2_0_r dX3_faultFor_29) <|
  .cons (ix_s_getr (j := 0) tu_X7 rfl (by decide) (by decide) tw_120 rfl ts_6_0_r dX3_faultFor_32) <|
  .cons (oc_X4_clear_s (ix_s_callv (t := 3) (k_X4_clear l) (by omega) (by decide) tw_458 tw_6 tw_455 tw_456 tw_457 ⟨by decide, by decide, by decide +kernel⟩ (by decide) rfl rfl (fun _ => ⟨_, _, rfl, rfl⟩) dX3_faultFor_35)) <|
  .cons (ix_s_aload_n dX3_faultFor_38 rfl) <|
  .cons (ix_s_iconst dX3_faultFor_39 (by decide +kernel)) <|
  .cons (ix_s_iconst dX3_faultFor_40 (by decide +kernel)) <|
  .cons (ocr_X3_readLevel_s hm_X3_readLevel (ix_s_callv (t := 2) h_X3_readLevel hl_X3_readLevel (by decide) tw_462 tw_8 tw_459 tw_461 tp_2 ⟨by decide, by decide, by decide +kernel⟩ (by decide) rfl rfl (fun _ => ⟨_, _, rfl, rfl⟩) dX3_faultFor_41)) <|
  .cons (ix_s_if_eq dX3_faultFor_44 (by decide)) <|
  .cons (ix_s_aload_n dX3_faultFor_47 rfl) <|
  .cons (ix_s_geti (j := 3) tu_X3 rfl (by decide) (by decide) tw_180 rfl ts_2_3_i dX3_faultFor_48) <|
  .cons (ix_s_aload_n dX3_faultFor_51 rfl) <|
  .cons (ix_s_getr (j := 1) tu_X3 rfl (by decide) (by decide) tw_178 rfl ts_2_1_r dX3_faultFor_52) <|
  .cons (ix_s_geti (j := 1) tu_X4 rfl (by decide) (by decide) tw_112 rfl ts_3_1_i dX3_faultFor_55) <|
  .cons (ix_s_cmp_ne dX3_faultFor_58 (by decide)) <|
  .cons (ix_s_iconst dX3_faultFor_61 (by decide +kernel)) <|
  .cons (ix_s_goto dX3_faultFor_62 (by decide)) <|
  .cons (ix_s_aload_n dX3_faultFor_65 rfl) <|
  .cons (ix_s_geti (j := 3) tu_X3 rfl (by decide) (by decide) tw_180 rfl ts_2_3_i dX3_faultFor_66) <|
  .cons (ix_s_iret dX3_faultFor_69 rfl) <| .nil
theorem e_X3_faultFor_0 {TX3_readLevel : Nat × Int32 × Int32 → ix_M → (ix_R → Prop) → Prop} {l : Launch} {d : Nat} (H : ix_AllS l cX3_faultFor 3 RX3 d (some .int) (o_X3_faultFor TX3_readLevel)) (Q : ix_R → Prop) (ls : ix_L) (st : List ix_V) (μ : ix_M) : ix_Ev (o_X3_faultFor TX3_readLevel) Q (0, ls, st, μ) = ix_aload 0 1 (ix_Ev (o_X3_faultFor TX3_readLevel) Q) Q ls st μ := ix_Ev.eq H rfl ls st μ
theorem e_X3_faultFor_1 {TX3_readLevel : Nat × Int32 × Int32 → ix_M → (ix_R → Prop) → Prop} {l : Launch} {d : Nat} (H : ix_AllS l cX3_faultFor 3 RX3 d (some .int) (o_X3_faultFor TX3_readLevel)) (Q : ix_R → Prop) (ls : ix_L) (st : List ix_V) (μ : ix_M) : ix_Ev (o_X3_faultFor TX3_readLevel) Q (1, ls, st, μ) = ix_getr 2 3 (fun _ => 127) 4 (ix_Ev (o_X3_faultFor TX3_readLevel) Q) Q ls st μ := ix_Ev.eq H rfl ls st μ
theorem e_X3_faultFor_4 {TX3_readLevel : Nat × Int32 × Int32 → ix_M → (ix_R → Prop) → Prop} {l : Launch} {d : Nat} (H : ix_AllS l cX3_faultFor 3 RX3 d (some .int) (o_X3_faultFor TX3_readLevel)) (Q : ix_R → Prop) (ls : ix_L) (st : List ix_V) (μ : ix_M) : ix_Ev (o_X3_faultFor TX3_readLevel) Q (4, ls, st, μ) = ix_aload 1 5 (ix_Ev (o_X3_faultFor TX3_readLevel) Q) Q ls st μ := ix_Ev.eq H rfl ls st μ
theorem e_X3_faultFor_5 {TX3_readLevel : Nat × Int32 × Int32 → ix_M → (ix_R → Prop) → Prop} {l : Launch} {d : Nat} (H : ix_AllS l cX3_faultFor 3 RX3 d (some .int) (o_X3_faultFor TX3_readLevel)) (Q : ix_R → Prop) (ls : ix_L) (st : List ix_V) (μ : ix_M) : ix_Ev (o_X3_faultFor TX3_readLevel) Q (5, ls, st, μ) = oc_X4_copyFrom 8 (ix_Ev (o_X3_faultFor TX3_readLevel) Q) Q ls st μ := ix_Ev.eq H rfl ls st μ
theorem e_X3_faultFor_8 {TX3_readLevel : Nat × Int32 × Int32 → ix_M → (ix_R → Prop) → Prop} {l : Launch} {d : Nat} (H : ix_AllS l cX3_faultFor 3 RX3 d (some .int) (o_X3_faultFor TX3_readLevel)) (Q : ix_R → Prop) (ls : ix_L) (st : List ix_V) (μ : ix_M) : ix_Ev (o_X3_faultFor TX3_readLevel) Q (8, ls, st, μ) = ix_aload 0 9 (ix_Ev (o_X3_faultFor TX3_readLevel) Q) Q ls st μ := ix_Ev.eq H rfl ls st μ
theorem e_X3_faultFor_9 {TX3_readLevel : Nat × Int32 × Int32 → ix_M → (ix_R → Prop) → Prop} {l : Launch} {d : Nat} (H : ix_AllS l cX3_faultFor 3 RX3 d (some .int) (o_X3_faultFor TX3_readLevel)) (Q : ix_R → Prop) (ls : ix_L) (st : List ix_V) (μ : ix_M) : ix_Ev (o_X3_faultFor TX3_readLevel) Q (9, ls, st, μ) = ix_iload 2 10 (ix_Ev (o_X3_faultFor TX3_readLevel) Q) Q ls st μ := ix_Ev.eq H rfl ls st μ
theorem e_X3_faultFor_10 {TX3_readLevel : Nat × Int32 × Int32 → ix_M → (ix_R → Prop) → Prop} {l : Launch} {d : Nat} (H : ix_AllS l cX3_faultFor 3 RX3 d (some .int) (o_X3_faultFor TX3_readLevel)) (Q : ix_R → Prop) (ls : ix_L) (st : List ix_V) (μ : ix_M) : ix_Ev (o_X3_faultFor TX3_readLevel) Q (10, ls, st, μ) = ix_if (fun x => x = 0) 13 18 (ix_Ev (o_X3_faultFor TX3_readLevel) Q) Q ls st μ := ix_Ev.eq H rfl ls st μ
theorem e_X3_faultFor_13 {TX3_readLevel : Nat × Int32 × Int32 → ix_M → (ix_R → Prop) → Prop} {l : Launch} {d : Nat} (H : ix_AllS l cX3_faultFor 3 RX3 d (some .int) (o_X3_faultFor TX3_readLevel)) (Q : ix_R → Prop) (ls : ix_L) (st : List ix_V) (μ : ix_M) : ix_Ev (o_X3_faultFor TX3_readLevel) Q (13, ls, st, μ) = ix_push (vr 24 1) 15 (ix_Ev (o_X3_faultFor TX3_readLevel) Q) Q ls st μ := ix_Ev.eq H rfl ls st μ
theorem e_X3_faultFor_15 {TX3_readLevel : Nat × Int32 × Int32 → ix_M → (ix_R → Prop) → Prop} {l : Launch} {d : Nat} (H : ix_AllS l cX3_faultFor 3 RX3 d (some .int) (o_X3_faultFor TX3_readLevel)) (Q : ix_R → Prop) (ls : ix_L) (st : List ix_V) (μ : ix_M) : ix_Ev (o_X3_faultFor TX3_readLevel) Q (15, ls, st, μ) = ix_goto 20 (ix_Ev (o_X3_faultFor TX3_readLevel) Q) Q ls st μ := ix_Ev.eq H rfl ls st μ
theorem e_X3_faultFor_18 {TX3_readLevel : Nat × Int32 × Int32 → ix_M → (ix_R → Prop) → Prop} {l : Launch} {d : Nat} (H : ix_AllS l cX3_faultFor 3 RX3 d (some .int) (o_X3_faultFor TX3_readLevel)) (Q : ix_R → Prop) (ls : ix_L) (st : List ix_V) (μ : ix_M) : ix_Ev (o_X3_faultFor TX3_readLevel) Q (18, ls, st, μ) = ix_push (vr 24 2) 20 (ix_Ev (o_X3_faultFor TX3_readLevel) Q) Q ls st μ := ix_Ev.eq H rfl ls st μ
theorem e_X3_faultFor_20 {TX3_readLevel : Nat × Int32 × Int32 → ix_M → (ix_R → Prop) → Prop} {l : Launch} {d : Nat} (H : ix_AllS l cX3_faultFor 3 RX3 d (some .int) (o_X3_faultFor TX3_readLevel)) (Q : ix_R → Prop) (ls : ix_L) (st : List ix_V) (μ : ix_M) : ix_Ev (o_X3_faultFor TX3_readLevel) Q (20, ls, st, μ) = ix_puts 2 2 23 (ix_Ev (o_X3_faultFor TX3_readLevel) Q) Q ls st μ := ix_Ev.eq H rfl ls st μ
theorem e_X3_faultFor_23 {TX3_readLevel : Nat × Int32 × Int32 → ix_M → (ix_R → Prop) → Prop} {l : Launch} {d : Nat} (H : ix_AllS l cX3_faultFor 3 RX3 d (some .int) (o_X3_faultFor TX3_readLevel)) (Q : ix_R → Prop) (ls : ix_L) (st : List ix_V) (μ : ix_M) : ix_Ev (o_X3_faultFor TX3_readLevel) Q (23, ls, st, μ) = ix_aload 0 24 (ix_Ev (o_X3_faultFor TX3_readLevel) Q) Q ls st μ := ix_Ev.eq H rfl ls st μ
theorem e_X3_faultFor_24 {TX3_readLevel : Nat × Int32 × Int32 → ix_M → (ix_R → Prop) → Prop} {l : Launch} {d : Nat} (H : ix_AllS l cX3_faultFor 3 RX3 d (some .int) (o_X3_faultFor TX3_readLevel)) (Q : ix_R → Prop) (ls : ix_L) (st : List ix_V) (μ : ix_M) : ix_Ev (o_X3_faultFor TX3_readLevel) Q (24, ls, st, μ) = ix_push (vi 0) 25 (ix_Ev (o_X3_faultFor TX3_readLevel) Q) Q ls st μ := ix_Ev.eq H rfl ls st μ
theorem e_X3_faultFor_25 {TX3_readLevel : Nat × Int32 × Int32 → ix_M → (ix_R → Prop) → Prop} {l : Launch} {d : Nat} (H : ix_AllS l cX3_faultFor 3 RX3 d (some .int) (o_X3_faultFor TX3_readLevel)) (Q : ix_R → Prop) (ls : ix_L) (st : List ix_V) (μ : ix_M) : ix_Ev (o_X3_faultFor TX3_readLevel) Q (25, ls, st, μ) = ix_puti 2 3 28 (ix_Ev (o_X3_faultFor TX3_readLevel) Q) Q ls st μ := ix_Ev.eq H rfl ls st μ
theorem e_X3_faultFor_28 {TX3_readLevel : Nat × Int32 × Int32 → ix_M → (ix_R → Prop) → Prop} {l : Launch} {d : Nat} (H : ix_AllS l cX3_faultFor 3 RX3 d (some .int) (o_X3_faultFor TX3_readLevel)) (Q : ix_R → Prop) (ls : ix_L) (st : List ix_V) (μ : ix_M) : ix_Ev (o_X3_faultFor TX3_readLevel) Q (28, ls, st, μ) = ix_aload 0 29 (ix_Ev (o_X3_faultFor TX3_readLevel) Q) Q ls st μ := ix_Ev.eq H rfl ls st μ
theorem e_X3_faultFor_29 {TX3_readLevel : Nat × Int32 × Int32 → ix_M → (ix_R → Prop) → Prop} {l : Launch} {d : Nat} (H : ix_AllS l cX3_faultFor 3 RX3 d (some .int) (o_X3_faultFor TX3_readLevel)) (Q : ix_R → Prop) (ls : ix_L) (st : List ix_V) (μ : ix_M) : ix_Ev (o_X3_faultFor TX3_readLevel) Q (29, ls, st, μ) = ix_getr 2 6 (fun _ => 89) 32 (ix_Ev (o_X3_faultFor TX3_readLevel) Q) Q ls st μ := ix_Ev.eq H rfl ls st μ
theorem e_X3_faultFor_32 {TX3_readLevel : Nat × Int32 × Int32 → ix_M → (ix_R → Prop) → Prop} {l : Launch} {d : Nat} (H : ix_AllS l cX3_faultFor 3 RX3 d (some .int) (o_X3_faultFor TX3_readLevel)) (Q : ix_R → Prop) (ls : ix_L) (st : List ix_V) (μ : ix_M) : ix_Ev (o_X3_faultFor TX3_readLevel) Q (32, ls, st, μ) = ix_getr 6 3 (fun k => k + 1) 35 (ix_Ev (o_X3_faultFor TX3_readLevel) Q) Q ls st μ := ix_Ev.eq H rfl ls st μ
theorem e_X3_faultFor_35 {TX3_readLevel : Nat × Int32 × Int32 → ix_M → (ix_R → Prop) → Prop} {l : Launch} {d : Nat} (H : ix_AllS l cX3_faultFor 3 RX3 d (some .int) (o_X3_faultFor TX3_readLevel)) (Q : ix_R → Prop) (ls : ix_L) (st : List ix_V) (μ : ix_M) : ix_Ev (o_X3_faultFor TX3_readLevel) Q (35, ls, st, μ) = oc_X4_clear 38 (ix_Ev (o_X3_faultFor TX3_readLevel) Q) Q ls st μ := ix_Ev.eq H rfl ls st μ
theorem e_X3_faultFor_38 {TX3_readLevel : Nat × Int32 × Int32 → ix_M → (ix_R → Prop) → Prop} {l : Launch} {d : Nat} (H : ix_AllS l cX3_faultFor 3 RX3 d (some .int) (o_X3_faultFor TX3_readLevel)) (Q : ix_R → Prop) (ls : ix_L) (st : List ix_V) (μ : ix_M) : ix_Ev (o_X3_faultFor TX3_readLevel) Q (38, ls, st, μ) = ix_aload 0 39 (ix_Ev (o_X3_faultFor TX3_readLevel) Q) Q ls st μ := ix_Ev.eq H rfl ls st μ
theorem e_X3_faultFor_39 {TX3_readLevel : Nat × Int32 × Int32 → ix_M → (ix_R → Prop) → Prop} {l : Launch} {d : Nat} (H : ix_AllS l cX3_faultFor 3 RX3 d (some .int) (o_X3_faultFor TX3_readLevel)) (Q : ix_R → Prop) (ls : ix_L) (st : List ix_V) (μ : ix_M) : ix_Ev (o_X3_faultFor TX3_readLevel) Q (39, ls, st, μ) = ix_push (vi 0) 40 (ix_Ev (o_X3_faultFor TX3_readLevel) Q) Q ls st μ := ix_Ev.eq H rfl ls st μ
theorem e_X3_faultFor_40 {TX3_readLevel : Nat × Int32 × Int32 → ix_M → (ix_R → Prop) → Prop} {l : Launch} {d : Nat} (H : ix_AllS l cX3_faultFor 3 RX3 d (some .int) (o_X3_faultFor TX3_readLevel)) (Q : ix_R → Prop) (ls : ix_L) (st : List ix_V) (μ : ix_M) : ix_Ev (o_X3_faultFor TX3_readLevel) Q (40, ls, st, μ) = ix_push (vi 0) 41 (ix_Ev (o_X3_faultFor TX3_readLevel) Q) Q ls st μ := ix_Ev.eq H rfl ls st μ
theorem e_X3_faultFor_41 {TX3_readLevel : Nat × Int32 × Int32 → ix_M → (ix_R → Prop) → Prop} {l : Launch} {d : Nat} (H : ix_AllS l cX3_faultFor 3 RX3 d (some .int) (o_X3_faultFor TX3_readLevel)) (Q : ix_R → Prop) (ls : ix_L) (st : List ix_V) (μ : ix_M) : ix_Ev (o_X3_faultFor TX3_readLevel) Q (41, ls, st, μ) = ocr_X3_readLevel TX3_readLevel 44 (ix_Ev (o_X3_faultFor TX3_readLevel) Q) Q ls st μ := ix_Ev.eq H rfl ls st μ
theorem e_X3_faultFor_44 {TX3_readLevel : Nat × Int32 × Int32 → ix_M → (ix_R → Prop) → Prop} {l : Launch} {d : Nat} (H : ix_AllS l cX3_faultFor 3 RX3 d (some .int) (o_X3_faultFor TX3_readLevel)) (Q : ix_R → Prop) (ls : ix_L) (st : List ix_V) (μ : ix_M) : ix_Ev (o_X3_faultFor TX3_readLevel) Q (44, ls, st, μ) = ix_if (fun x => x = 0) 65 47 (ix_Ev (o_X3_faultFor TX3_readLevel) Q) Q ls st μ := ix_Ev.eq H rfl ls st μ
theorem e_X3_faultFor_47 {TX3_readLevel : Nat × Int32 × Int32 → ix_M → (ix_R → Prop) → Prop} {l : Launch} {d : Nat} (H : ix_AllS l cX3_faultFor 3 RX3 d (some .int) (o_X3_faultFor TX3_readLevel)) (Q : ix_R → Prop) (ls : ix_L) (st : List ix_V) (μ : ix_M) : ix_Ev (o_X3_faultFor TX3_readLevel) Q (47, ls, st, μ) = ix_aload 0 48 (ix_Ev (o_X3_faultFor TX3_readLevel) Q) Q ls st μ := ix_Ev.eq H rfl ls st μ
theorem e_X3_faultFor_48 {TX3_readLevel : Nat × Int32 × Int32 → ix_M → (ix_R → Prop) → Prop} {l : Launch} {d : Nat} (H : ix_AllS l cX3_faultFor 3 RX3 d (some .int) (o_X3_faultFor TX3_readLevel)) (Q : ix_R → Prop) (ls : ix_L) (st : List ix_V) (μ : ix_M) : ix_Ev (o_X3_faultFor TX3_readLevel) Q (48, ls, st, μ) = ix_geti 2 3 51 (ix_Ev (o_X3_faultFor TX3_readLevel) Q) Q ls st μ := ix_Ev.eq H rfl ls st μ
theorem e_X3_faultFor_51 {TX3_readLevel : Nat × Int32 × Int32 → ix_M → (ix_R → Prop) → Prop} {l : Launch} {d : Nat} (H : ix_AllS l cX3_faultFor 3 RX3 d (some .int) (o_X3_faultFor TX3_readLevel)) (Q : ix_R → Prop) (ls : ix_L) (st : List ix_V) (μ : ix_M) : ix_Ev (o_X3_faultFor TX3_readLevel) Q (51, ls, st, μ) = ix_aload 0 52 (ix_Ev (o_X3_faultFor TX3_readLevel) Q) Q ls st μ := ix_Ev.eq H rfl ls st μ
theorem e_X3_faultFor_52 {TX3_readLevel : Nat × Int32 × Int32 → ix_M → (ix_R → Prop) → Prop} {l : Launch} {d : Nat} (H : ix_AllS l cX3_faultFor 3 RX3 d (some .int) (o_X3_faultFor TX3_readLevel)) (Q : ix_R → Prop) (ls : ix_L) (st : List ix_V) (μ : ix_M) : ix_Ev (o_X3_faultFor TX3_readLevel) Q (52, ls, st, μ) = ix_getr 2 3 (fun _ => 127) 55 (ix_Ev (o_X3_faultFor TX3_readLevel) Q) Q ls st μ := ix_Ev.eq H rfl ls st μ
theorem e_X3_faultFor_55 {TX3_readLevel : Nat × Int32 × Int32 → ix_M → (ix_R → Prop) → Prop} {l : Launch} {d : Nat} (H : ix_AllS l cX3_faultFor 3 RX3 d (some .int) (o_X3_faultFor TX3_readLevel)) (Q : ix_R → Prop) (ls : ix_L) (st : List ix_V) (μ : ix_M) : ix_Ev (o_X3_faultFor TX3_readLevel) Q (55, ls, st, μ) = ix_geti 3 1 58 (ix_Ev (o_X3_faultFor TX3_readLevel) Q) Q ls st μ := ix_Ev.eq H rfl ls st μ
theorem e_X3_faultFor_58 {TX3_readLevel : Nat × Int32 × Int32 → ix_M → (ix_R → Prop) → Prop} {l : Launch} {d : Nat} (H : ix_AllS l cX3_faultFor 3 RX3 d (some .int) (o_X3_faultFor TX3_readLevel)) (Q : ix_R → Prop) (ls : ix_L) (st : List ix_V) (μ : ix_M) : ix_Ev (o_X3_faultFor TX3_readLevel) Q (58, ls, st, μ) = ix_cmp (fun x y => x = y) 61 65 (ix_Ev (o_X3_faultFor TX3_readLevel) Q) Q ls st μ := ix_Ev.eq H rfl ls st μ
theorem e_X3_faultFor_61 {TX3_readLevel : Nat × Int32 × Int32 → ix_M → (ix_R → Prop) → Prop} {l : Launch} {d : Nat} (H : ix_AllS l cX3_faultFor 3 RX3 d (some .int) (o_X3_faultFor TX3_readLevel)) (Q : ix_R → Prop) (ls : ix_L) (st : List ix_V) (μ : ix_M) : ix_Ev (o_X3_faultFor TX3_readLevel) Q (61, ls, st, μ) = ix_push (vi (-1)) 62 (ix_Ev (o_X3_faultFor TX3_readLevel) Q) Q ls st μ := ix_Ev.eq H rfl ls st μ
theorem e_X3_faultFor_62 {TX3_readLevel : Nat × Int32 × Int32 → ix_M → (ix_R → Prop) → Prop} {l : Launch} {d : Nat} (H : ix_AllS l cX3_faultFor 3 RX3 d (some .int) (o_X3_faultFor TX3_readLevel)) (Q : ix_R → Prop) (ls : ix_L) (st : List ix_V) (μ : ix_M) : ix_Ev (o_X3_faultFor TX3_readLevel) Q (62, ls, st, μ) = ix_goto 69 (ix_Ev (o_X3_faultFor TX3_readLevel) Q) Q ls st μ := ix_Ev.eq H rfl ls st μ
theorem e_X3_faultFor_65 {TX3_readLevel : Nat × Int32 × Int32 → ix_M → (ix_R → Prop) → Prop} {l : Launch} {d : Nat} (H : ix_AllS l cX3_faultFor 3 RX3 d (some .int) (o_X3_faultFor TX3_readLevel)) (Q : ix_R → Prop) (ls : ix_L) (st : List ix_V) (μ : ix_M) : ix_Ev (o_X3_faultFor TX3_readLevel) Q (65, ls, st, μ) = ix_aload 0 66 (ix_Ev (o_X3_faultFor TX3_readLevel) Q) Q ls st μ := ix_Ev.eq H rfl ls st μ
theorem e_X3_faultFor_66 {TX3_readLevel : Nat × Int32 × Int32 → ix_M → (ix_R → Prop) → Prop} {l : Launch} {d : Nat} (H : ix_AllS l cX3_faultFor 3 RX3 d (some .int) (o_X3_faultFor TX3_readLevel)) (Q : ix_R → Prop) (ls : ix_L) (st : List ix_V) (μ : ix_M) : ix_Ev (o_X3_faultFor TX3_readLevel) Q (66, ls, st, μ) = ix_geti 2 3 69 (ix_Ev (o_X3_faultFor TX3_readLevel) Q) Q ls st μ := ix_Ev.eq H rfl ls st μ
theorem e_X3_faultFor_69 {TX3_readLevel : Nat × Int32 × Int32 → ix_M → (ix_R → Prop) → Prop} {l : Launch} {d : Nat} (H : ix_AllS l cX3_faultFor 3 RX3 d (some .int) (o_X3_faultFor TX3_readLevel)) (Q : ix_R → Prop) (ls : ix_L) (st : List ix_V) (μ : ix_M) : ix_Ev (o_X3_faultFor TX3_readLevel) Q (69, ls, st, μ) = ix_iret (ix_Ev (o_X3_faultFor TX3_readLevel) Q) Q ls st μ := ix_Ev.eq H rfl ls st μ
theorem l_tp : ix_len 20 = 50 ∧ ix_len 128 = 50 := by decide +kernel
theorem k_X3_faultFor (l : Launch) : ix_Ct l yX3_faultFor cX3_faultFor 3 (some .int) 53 sh_X3_faultFor T_X3_faultFor := by
  have H := a_X3_faultFor l 53 (Nat.le_refl _) (k_rdTop l) (by decide) mo_rdTop
  refine ix_ct H rfl (by decide) (fun _ => Nat.le_of_ble_eq_true rfl) (fun x μ Q hok hT => ?_)
  obtain ⟨o, r, use⟩ := x
  have ok_o := ix_ok_at (hok (vr 2 o) (by simp [sh_X3_faultFor])) (by decide) (by decide)
  obtain rfl := ok_2 o ok_o.1 ok_o.2
  obtain ⟨tp, n, u, rfl, rfl, hu, ⟨t1, t2, t3, t4⟩, hQ⟩ := hT
  show ix_Ev (o_X3_faultFor _) Q (0, [some (vr 2 88), some (vr 3 19), some (vi (nI u))], [], μ)
  have hcl : (nI n).toNatClampNeg = n := nI_clamp (by omega)
  have hro : RowOk μ 19 := by
    unfold RowOk
    rw [t1, nI_toInt (by omega), l_tp.1]
    omega
  obtain ⟨μ0, hμ0⟩ : ∃ z, z = ix_cpy (ix_up μ 127 1 (nI n)) 20 128 0 0 n := ⟨_, rfl⟩
  have m0 : Fx [127, 128] μ μ0 := fun a ha => by
    simp only [List.mem_cons, List.not_mem_nil, or_false, not_or] at ha
    rw [hμ0, ix_cpy_ne ha.2, ix_up_ne ha.1]
  have m1 : μ0 127 1 = nI n := by rw [hμ0, ix_cpy_ne (by decide), ix_up_k]
  have m2 : ∀ j, j < n → μ0 128 j = tp j := fun j hj => by
    rw [hμ0, cpy_at0 hj, ix_up_ne (by decide)]
    exact t3 j hj
  replace hQ : ∀ μ', Fx [88, 90, 91] μ0 μ' → TxtC μ' 89 (rdT tp n u).2.2 → Q (some (vi (if (rdT tp n u).1 = true ∧ (rdT tp n u).2.1 = n then -1 else nI (rdT tp n u).2.1)), μ') := fun μ' hF ht => hQ μ' (Fx.tr (m0.mono (by decide)) (hF.mono (by decide))) ht
  have key : ∀ μ1 : ix_M, Fx [88, 90, 91] μ0 μ1 → RdC μ1 tp n u 0 [] → ∀ (Q' : ix_R → Prop), (∀ μ', Q (some (vi (if (rdT tp n u).1 = true ∧ (rdT tp n u).2.1 = n then -1 else nI (rdT tp n u).2.1)), μ') → RdC μ' tp n u (rdT tp n u).2.1 (rdT tp n u).2.2 → Q' (some (vi (mB ((rdT tp n u).1 = true))), μ')) → T_rdTop (88, 0, 0) μ1 Q' := by
    intro μ1 hF hR Q' h
    exact ⟨tp, n, u, rfl, rfl, rfl, 0, [], hR, fun μ' hF' hR' => h μ' (hQ μ' (hF.tr hF') hR'.2.2.2.2) hR'⟩
  have hin : ∀ x : Nat, x = u + 1 → RdC (ix_up (ix_up (ix_up μ0 88 2 (nI x)) 88 3 0) 90 1 0) tp n u 0 [] ∧ Fx [88, 90, 91] μ0 (ix_up (ix_up (ix_up μ0 88 2 (nI x)) 88 3 0) 90 1 0) := by
    rintro x rfl
    refine ⟨⟨⟨?_, t2, fun j hj => ?_, t4⟩, ⟨?_, hu⟩, ?_, ⟨Nat.zero_le _, Nat.le_refl _⟩, ?_, Nat.zero_le _, fun j hj => absurd hj (Nat.not_lt_zero j)⟩, ((Fx.rf.up (by simp)).up (by simp)).up (by simp)⟩
    · rw [ix_up_ne (by decide), ix_up_ne (by decide), ix_up_ne (by decide)]
      exact m1
    · rw [ix_up_ne (by decide), ix_up_ne (by decide), ix_up_ne (by decide)]
      exact m2 j hj
    · simp [ix_up_ap]
    · simp [ix_up_ap]
      rfl
    · simp [ix_up_ap]
      rfl
  have fin : ∀ μ' : ix_M, Q (some (vi (if (rdT tp n u).1 = true ∧ (rdT tp n u).2.1 = n then -1 else nI (rdT tp n u).2.1)), μ') → RdC μ' tp n u (rdT tp n u).2.1 (rdT tp n u).2.2 → (mB ((rdT tp n u).1 = true) = 0 → Q (some (vi (μ' 88 3)), μ')) ∧ (¬ mB ((rdT tp n u).1 = true) = 0 → (μ' 88 3 = μ' 127 1 → Q (some (vi (-1)), μ')) ∧ (¬ μ' 88 3 = μ' 127 1 → Q (some (vi (μ' 88 3)), μ'))) := by
    intro μ' h1 h2
    have e1 := h2.2.2.1
    have e2 := h2.1.1
    have e3 := (rdT_ok tp n u).1
    have e4 := h2.1.2.1
    have ei : μ' 88 3 = μ' 127 1 ↔ (rdT tp n u).2.1 = n := by
      rw [e1, e2, nI_eq (by omega) (by omega)]
    rw [e1] at ei ⊢
    refine ⟨fun z => ?_, fun z => ⟨fun z2 => ?_, fun z2 => ?_⟩⟩
    · rw [if_neg (fun y => by rw [mB, if_pos y.1] at z; exact absurd z (by decide))] at h1
      exact h1
    · rw [if_pos ⟨by
        by_cases y : (rdT tp n u).1 = true
        · exact y
        · rw [mB, if_neg y] at z
          exact absurd rfl z, ei.mp z2⟩] at h1
      exact h1
    · rw [if_neg (fun y => z2 (ei.mpr y.2))] at h1
      exact h1
  simp (decide := true) only [e_X3_faultFor_0 H, e_X3_faultFor_1 H, e_X3_faultFor_4 H, e_X3_faultFor_5 H, e_X3_faultFor_8 H, e_X3_faultFor_9 H, e_X3_faultFor_10 H, e_X3_faultFor_13 H, e_X3_faultFor_15 H, e_X3_faultFor_18 H, e_X3_faultFor_20 H, e_X3_faultFor_23 H, e_X3_faultFor_24 H, e_X3_faultFor_25 H, e_X3_faultFor_28 H, e_X3_faultFor_29 H, e_X3_faultFor_32 H, e_X3_faultFor_35 H, e_X3_faultFor_38 H, e_X3_faultFor_39 H, e_X3_faultFor_40 H, e_X3_faultFor_41 H, e_X3_faultFor_44 H, e_X3_faultFor_47 H, e_X3_faultFor_48 H, e_X3_faultFor_51 H, e_X3_faultFor_52 H, e_X3_faultFor_55 H, e_X3_faultFor_58 H, e_X3_faultFor_61 H, e_X3_faultFor_62 H, e_X3_faultFor_65 H, e_X3_faultFor_66 H, e_X3_faultFor_69 H, vi, vl, vr, ocr_X3_readLevel, oc_X4_clear, T_X4_clear, oc_X4_copyFrom, T_X4_copyFrom, ix_push, ix_iload, ix_lload, ix_aload, ix_istore, ix_astore, ix_iinc, ix_bin, ix_div, ix_un, ix_i2l, ix_l2i, ix_lbin, ix_lsh, ix_lcmp, ix_dup, ix_dup2, ix_pop, ix_if, ix_cmp, ix_goto, ix_switch, ix_sw, ix_iret, ix_zret, ix_vret, ix_aret, ix_geti, ix_getr, ix_puti, ix_putz, ix_puts, ix_gets, ix_iald, ix_iast, ix_alen, ix_aald, ix_gval, ix_gcod, ix_bald, ix_blen, ix_sald, ix_nret, ix_math2, ix_math1, ix_acopy, Nat.add_assoc, Int32.reduceLT, Int32.reduceLE, Int32.reduceToNatClampNeg, Int32.reduceSub, Int32.reduceAdd, Nat.reduceAdd, Nat.reduceLeDiff, true_or, or_true, or_false, false_or, not_false_eq_true, not_true_eq_false, false_implies, true_implies, implies_true, and_self, mB_0, mB_01, Classical.not_not, Nat.zero_le, List.getElem?_cons_zero, List.getElem?_cons_succ, List.set_cons_zero, List.set_cons_succ, ix_nl, ix_cs, true_and, and_true, Option.toList_some, Option.toList_none, List.cons_append, List.nil_append, t1, hcl, hro]
  rw [← hμ0]
  refine ⟨fun c => key _ (hin 1 ?_).2 (hin 1 ?_).1 _ (fun μ' h1 h2 => fin μ' h1 h2), fun c => key _ (hin 2 ?_).2 (hin 2 ?_).1 _ (fun μ' h1 h2 => fin μ' h1 h2)⟩
  · have := (nI_eq (a := u) (b := 0) (by omega) (by decide)).mp c
    omega
  · have := (nI_eq (a := u) (b := 0) (by omega) (by decide)).mp c
    omega
  · have : ¬ u = 0 := fun z => c ((nI_eq (a := u) (b := 0) (by omega) (by decide)).mpr z)
    omega
  · have : ¬ u = 0 := fun z => c ((nI_eq (a := u) (b := 0) (by omega) (by decide)).mpr z)
    omega
