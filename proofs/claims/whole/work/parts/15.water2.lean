/-! ===== copies; State; shared methods ===== -/
theorem wv_cong {μ μ' : ix_M} {w w' : Nat} (h : ∀ r i, wok r i = true → μ' (w' + r) i = μ (w + r) i) : wv μ' w' = wv μ w := by
  funext r i
  unfold wv
  by_cases ho : wok r i = true
  · rw [if_pos ho, if_pos ho, h r i ho]
  · rw [if_neg ho, if_neg ho]
theorem wv_fx {μ μ' : ix_M} {w : Nat} (h : ∀ r, r < 8 → μ' (w + r) = μ (w + r)) : wv μ' w = wv μ w := wv_cong (fun r i ho => by
  have hr : r < 8 := by simp [wok] at ho; omega
  rw [h r hr])
theorem ix_cpy_ne {μ : ix_M} {b a sp dp n x : Nat} (h : x ≠ a) : ix_cpy μ b a sp dp n x = μ x := by
  funext j
  simp [ix_cpy, h]
theorem ix_cpy_at (μ : ix_M) (b a sp dp n : Nat) : ix_cpy μ b a sp dp n a = va_cpy (μ b) (μ a) sp dp n := by
  funext j
  simp [ix_cpy]
theorem va_cpy00 {f g : Nat → Int32} {n j : Nat} (h : j < n) : va_cpy f g 0 0 n j = f j := by
  unfold va_cpy
  rw [if_pos (by omega)]
  congr 1
  omega
def wL (w : Nat) : List Nat := [w, w + 1, w + 2, w + 3, w + 4, w + 5, w + 6, w + 7]
def T_X9_copyFrom : Nat × Nat → ix_M → (ix_R → Prop) → Prop := fun (w, o) μ Q => w ≠ o ∧ ∀ μ', Fx (wL w) μ μ' → wv μ' w = wv μ o → Q (none, μ')
def sh_X9_copyFrom (x : Nat × Nat) : List ix_V := [vr 8 x.1, vr 8 x.2]
theorem mo_X9_copyFrom (x : Nat × Nat) (μ : ix_M) (Q Q' : ix_R → Prop) (h : ∀ r, Q r → Q' r) (hT : T_X9_copyFrom x μ Q) : T_X9_copyFrom x μ Q' := by
  obtain ⟨a0, a1⟩ := x
  (exact ⟨hT.1, fun μ' z z2 => h _ (hT.2 μ' z z2)⟩)
def oc_X9_copyFrom (n : Nat) : ix_Op := fun k _ ls st μ => match st with
  | .inr (.inr (t1, a1)) :: .inr (.inr (t0, a0)) :: r => t0 = 8 ∧ t1 = 8 ∧ ix_cs r ≤ 8 ∧ T_X9_copyFrom (a0, a1) μ (fun q => k (n, ls, q.1.toList ++ r, q.2))
  | _ => False
theorem oc_X9_copyFrom_s {l : Launch} {cc : ByteArray} {nL : Nat} {own : String} {d : Nat} {rt : Option FieldType} {pc n : Nat} (h : ix_S l cc nL own d rt pc (ix_call 2 sh_X9_copyFrom T_X9_copyFrom n)) : ix_S l cc nL own d rt pc (oc_X9_copyFrom n) := by
  refine h.by (fun k Q ls st μ h => ?_) (fun k k' Q ls st μ hk h => ?_)
  · unfold oc_X9_copyFrom at h
    split at h
    · rename_i t1 a1 t0 a0 r
      obtain ⟨rfl, rfl, h1, h2⟩ := h
      exact ⟨h1, (a0, a1), rfl, _, h2, fun r h => h⟩
    · exact h.elim
  · unfold oc_X9_copyFrom at h ⊢
    split at h
    · obtain ⟨rfl, rfl, h1, h2⟩ := h
      exact ⟨rfl, rfl, h1, mo_X9_copyFrom _ _ _ _ (fun q hq => hk _ hq) h2⟩
    · exact h.elim
def o_X9_copyFrom : List (Nat × ix_Op) := [
  (0, ix_aload 1 1),
  (1, ix_getr 8 20 (fun k => k + 1) 4),
  (4, ix_push (vi 0) 5),
  (5, ix_aload 0 6),
  (6, ix_getr 8 20 (fun k => k + 1) 9),
  (9, ix_push (vi 0) 10),
  (10, ix_push (vi 16) 12),
  (12, ix_acopy 15),
  (15, ix_aload 1 16),
  (16, ix_getr 8 20 (fun k => k + 2) 19),
  (19, ix_push (vi 0) 20),
  (20, ix_aload 0 21),
  (21, ix_getr 8 20 (fun k => k + 2) 24),
  (24, ix_push (vi 0) 25),
  (25, ix_push (vi 16) 27),
  (27, ix_acopy 30),
  (30, ix_aload 1 31),
  (31, ix_getr 8 20 (fun k => k + 3) 34),
  (34, ix_push (vi 0) 35),
  (35, ix_aload 0 36),
  (36, ix_getr 8 20 (fun k => k + 3) 39),
  (39, ix_push (vi 0) 40),
  (40, ix_push (vi 6) 42),
  (42, ix_acopy 45),
  (45, ix_aload 1 46),
  (46, ix_getr 8 20 (fun k => k + 4) 49),
  (49, ix_push (vi 0) 50),
  (50, ix_aload 0 51),
  (51, ix_getr 8 20 (fun k => k + 4) 54),
  (54, ix_push (vi 0) 55),
  (55, ix_push (vi 8) 57),
  (57, ix_acopy 60),
  (60, ix_aload 1 61),
  (61, ix_getr 8 20 (fun k => k + 5) 64),
  (64, ix_push (vi 0) 65),
  (65, ix_aload 0 66),
  (66, ix_getr 8 20 (fun k => k + 5) 69),
  (69, ix_push (vi 0) 70),
  (70, ix_push (vi 8) 72),
  (72, ix_acopy 75),
  (75, ix_aload 1 76),
  (76, ix_getr 8 20 (fun k => k + 6) 79),
  (79, ix_push (vi 0) 80),
  (80, ix_aload 0 81),
  (81, ix_getr 8 20 (fun k => k + 6) 84),
  (84, ix_push (vi 0) 85),
  (85, ix_push (vi 8) 87),
  (87, ix_acopy 90),
  (90, ix_aload 1 91),
  (91, ix_getr 8 20 (fun k => k + 7) 94),
  (94, ix_push (vi 0) 95),
  (95, ix_aload 0 96),
  (96, ix_getr 8 20 (fun k => k + 7) 99),
  (99, ix_push (vi 0) 100),
  (100, ix_push (vi 8) 102),
  (102, ix_acopy 105),
  (105, ix_aload 0 106),
  (106, ix_aload 1 107),
  (107, ix_geti 8 7 110),
  (110, ix_puti 8 7 113),
  (113, ix_aload 0 114),
  (114, ix_aload 1 115),
  (115, ix_geti 8 8 118),
  (118, ix_puti 8 8 121),
  (121, ix_aload 0 122),
  (122, ix_aload 1 123),
  (123, ix_geti 8 9 126),
  (126, ix_puti 8 9 129),
  (129, ix_vret)]
set_option maxRecDepth 20000 in
theorem a_X9_copyFrom (l : Launch) : ix_AllS l cX9_copyFrom 2 RX9 1 none o_X9_copyFrom :=
  .cons (ix_s_aload_n dX9_copyFrom_0 rfl) <|
  .cons (ix_s_getr (j := 0) tu_X9 rfl (by decide) (by decide) tw_40 rfl ts_8_0_r dX9_copyFrom_1) <|
  .cons (ix_s_iconst dX9_copyFrom_4 (by decide +kernel)) <|
  .cons (ix_s_aload_n dX9_copyFrom_5 rfl) <|
  .cons (ix_s_getr (j := 0) tu_X9 rfl (by decide) (by decide) tw_40 rfl ts_8_0_r dX9_copyFrom_6) <|
  .cons (ix_s_iconst dX9_copyFrom_9 (by decide +kernel)) <|
  .cons (ix_s_bipush dX9_copyFrom_10 (by decide +kernel)) <|
  .cons (ix_s_acopy tw_643 tw_452 tw_451 tw_14 (by decide) dX9_copyFrom_12) <|
  .cons (ix_s_aload_n dX9_copyFrom_15 rfl) <|
  .cons (ix_s_getr (j := 1) tu_X9 rfl (by decide) (by decide) tw_42 rfl ts_8_1_r dX9_copyFrom_16) <|
  .cons (ix_s_iconst dX9_copyFrom_19 (by decide +kernel)) <|
  .cons (ix_s_aload_n dX9_copyFrom_20 rfl) <|
  .cons (ix_s_getr (j := 1) tu_X9 rfl (by decide) (by decide) tw_42 rfl ts_8_1_r dX9_copyFrom_21) <|
  .cons (ix_s_iconst dX9_copyFrom_24 (by decide +kernel)) <|
  .cons (ix_s_bipush dX9_copyFrom_25 (by decide +kernel)) <|
  .cons (ix_s_acopy tw_643 tw_452 tw_451 tw_14 (by decide) dX9_copyFrom_27) <|
  .cons (ix_s_aload_n dX9_copyFrom_30 rfl) <|
  .cons (ix_s_getr (j := 2) tu_X9 rfl (by decide) (by decide) tw_44 rfl ts_8_2_r dX9_copyFrom_31) <|
  .cons (ix_s_iconst dX9_copyFrom_34 (by decide +kernel)) <|
  .cons (ix_s_aload_n dX9_copyFrom_35 rfl) <|
  .cons (ix_s_getr (j := 2) tu_X9 rfl (by decide) (by decide) tw_44 rfl ts_8_2_r dX9_copyFrom_36) <|
  .cons (ix_s_iconst dX9_copyFrom_39 (by decide +kernel)) <|
  .cons (ix_s_bipush dX9_copyFrom_40 (by decide +kernel)) <|
  .cons (ix_s_acopy tw_643 tw_452 tw_451 tw_14 (by decide) dX9_copyFrom_42) <|
  .cons (ix_s_aload_n dX9_copyFrom_45 rfl) <|
  .cons (ix_s_getr (j := 3) tu_X9 rfl (by decide) (by decide) tw_46 rfl ts_8_3_r dX9_copyFrom_46) <|
  .cons (ix_s_iconst dX9_copyFrom_49 (by decide +kernel)) <|
  .cons (ix_s_aload_n dX9_copyFrom_50 rfl) <|
  .cons (ix_s_getr (j := 3) tu_X9 rfl (by decide) (by decide) tw_46 rfl ts_8_3_r dX9_copyFrom_51) <|
  .cons (ix_s_iconst dX9_copyFrom_54 (by decide +kernel)) <|
  .cons (ix_s_bipush dX9_copyFrom_55 (by decide +kernel)) <|
  .cons (ix_s_acopy tw_643 tw_452 tw_451 tw_14 (by decide) dX9_copyFrom_57) <|
  .cons (ix_s_aload_n dX9_copyFrom_60 rfl) <|
  .cons (ix_s_getr (j := 4) tu_X9 rfl (by decide) (by decide) tw_48 rfl ts_8_4_r dX9_copyFrom_61) <|
  .cons (ix_s_iconst dX9_copyFrom_64 (by decide +kernel)) <|
  .cons (ix_s_aload_n dX9_copyFrom_65 rfl) <|
  .cons (ix_s_getr (j := 4) tu_X9 rfl (by decide) (by decide) tw_48 rfl ts_8_4_r dX9_copyFrom_66) <|
  .cons (ix_s_iconst dX9_copyFrom_69 (by decide +kernel)) <|
  .cons (ix_s_bipush dX9_copyFrom_70 (by decide +kernel)) <|
  .cons (ix_s_acopy tw_643 tw_452 tw_451 tw_14 (by decide) dX9_copyFrom_72) <|
  .cons (ix_s_aload_n dX9_copyFrom_75 rfl) <|
  .cons (ix_s_getr (j := 5) tu_X9 rfl (by decide) (by decide) tw_50 rfl ts_8_5_r dX9_copyFrom_76) <|
  .cons (ix_s_iconst dX9_copyFrom_79 (by decide +kernel)) <|
  .cons (ix_s_aload_n dX9_copyFrom_80 rfl) <|
  .cons (ix_s_getr (j := 5) tu_X9 rfl (by decide) (by decide) tw_50 rfl ts_8_5_r dX9_copyFrom_81) <|
  .cons (ix_s_iconst dX9_copyFrom_84 (by decide +kernel)) <|
  .cons (ix_s_bipush dX9_copyFrom_85 (by decide +kernel)) <|
  .cons (ix_s_acopy tw_643 tw_452 tw_451 tw_14 (by decide) dX9_copyFrom_87) <|
  .cons (ix_s_aload_n dX9_copyFrom_90 rfl) <|
  .cons (ix_s_getr (j := 6) tu_X9 rfl (by decide) (by decide) tw_52 rfl ts_8_6_r dX9_copyFrom_91) <|
  .cons (ix_s_iconst dX9_copyFrom_94 (by decide +kernel)) <|
  .cons (ix_s_aload_n dX9_copyFrom_95 rfl) <|
  .cons (ix_s_getr (j := 6) tu_X9 rfl (by decide) (by decide) tw_52 rfl ts_8_6_r dX9_copyFrom_96) <|
  .cons (ix_s_iconst dX9_copyFrom_99 (by decide +kernel)) <|
  .cons (ix_s_bipush dX9_copyFrom_100 (by decide +kernel)) <|
  .cons (ix_s_acopy tw_643 tw_452 tw_451 tw_14 (by decide) dX9_copyFrom_102) <|
  .cons (ix_s_aload_n dX9_copyFrom_105 rfl) <|
  .cons (ix_s_aload_n dX9_copyFrom_106 rfl) <|
  .cons (ix_s_geti (j := 7) tu_X9 rfl (by decide) (by decide) tw_56 rfl ts_8_7_i dX9_copyFrom_107) <|
  .cons (ix_s_puti (j := 7) tu_X9 tyX9_ok nmX9 rfl (by decide) (by decide) tw_56 rfl rfl (by decide +kernel) ts_8_7_p dX9_copyFrom_110) <|
  .cons (ix_s_aload_n dX9_copyFrom_113 rfl) <|
  .cons (ix_s_aload_n dX9_copyFrom_114 rfl) <|
  .cons (ix_s_geti (j := 8) tu_X9 rfl (by decide) (by decide) tw_58 rfl ts_8_8_i dX9_copyFrom_115) <|
  .cons (ix_s_puti (j := 8) tu_X9 tyX9_ok nmX9 rfl (by decide) (by decide) tw_58 rfl rfl (by decide +kernel) ts_8_8_p dX9_copyFrom_118) <|
  .cons (ix_s_aload_n dX9_copyFrom_121 rfl) <|
  .cons (ix_s_aload_n dX9_copyFrom_122 rfl) <|
  .cons (ix_s_geti (j := 9) tu_X9 rfl (by decide) (by decide) tw_60 rfl ts_8_9_i dX9_copyFrom_123) <|
  .cons (ix_s_puti (j := 9) tu_X9 tyX9_ok nmX9 rfl (by decide) (by decide) tw_60 rfl rfl (by decide +kernel) ts_8_9_p dX9_copyFrom_126) <|
  .cons (ix_s_vret dX9_copyFrom_129 rfl) <| .nil
theorem e_X9_copyFrom_0 (Q : ix_R → Prop) (ls : ix_L) (st : List ix_V) (μ : ix_M) : ix_Ev o_X9_copyFrom Q (0, ls, st, μ) = ix_aload 1 1 (ix_Ev o_X9_copyFrom Q) Q ls st μ := ix_Ev.eq (a_X9_copyFrom launch0) rfl ls st μ
theorem e_X9_copyFrom_1 (Q : ix_R → Prop) (ls : ix_L) (st : List ix_V) (μ : ix_M) : ix_Ev o_X9_copyFrom Q (1, ls, st, μ) = ix_getr 8 20 (fun k => k + 1) 4 (ix_Ev o_X9_copyFrom Q) Q ls st μ := ix_Ev.eq (a_X9_copyFrom launch0) rfl ls st μ
theorem e_X9_copyFrom_4 (Q : ix_R → Prop) (ls : ix_L) (st : List ix_V) (μ : ix_M) : ix_Ev o_X9_copyFrom Q (4, ls, st, μ) = ix_push (vi 0) 5 (ix_Ev o_X9_copyFrom Q) Q ls st μ := ix_Ev.eq (a_X9_copyFrom launch0) rfl ls st μ
theorem e_X9_copyFrom_5 (Q : ix_R → Prop) (ls : ix_L) (st : List ix_V) (μ : ix_M) : ix_Ev o_X9_copyFrom Q (5, ls, st, μ) = ix_aload 0 6 (ix_Ev o_X9_copyFrom Q) Q ls st μ := ix_Ev.eq (a_X9_copyFrom launch0) rfl ls st μ
theorem e_X9_copyFrom_6 (Q : ix_R → Prop) (ls : ix_L) (st : List ix_V) (μ : ix_M) : ix_Ev o_X9_copyFrom Q (6, ls, st, μ) = ix_getr 8 20 (fun k => k + 1) 9 (ix_Ev o_X9_copyFrom Q) Q ls st μ := ix_Ev.eq (a_X9_copyFrom launch0) rfl ls st μ
theorem e_X9_copyFrom_9 (Q : ix_R → Prop) (ls : ix_L) (st : List ix_V) (μ : ix_M) : ix_Ev o_X9_copyFrom Q (9, ls, st, μ) = ix_push (vi 0) 10 (ix_Ev o_X9_copyFrom Q) Q ls st μ := ix_Ev.eq (a_X9_copyFrom launch0) rfl ls st μ
theorem e_X9_copyFrom_10 (Q : ix_R → Prop) (ls : ix_L) (st : List ix_V) (μ : ix_M) : ix_Ev o_X9_copyFrom Q (10, ls, st, μ) = ix_push (vi 16) 12 (ix_Ev o_X9_copyFrom Q) Q ls st μ := ix_Ev.eq (a_X9_copyFrom launch0) rfl ls st μ
theorem e_X9_copyFrom_12 (Q : ix_R → Prop) (ls : ix_L) (st : List ix_V) (μ : ix_M) : ix_Ev o_X9_copyFrom Q (12, ls, st, μ) = ix_acopy 15 (ix_Ev o_X9_copyFrom Q) Q ls st μ := ix_Ev.eq (a_X9_copyFrom launch0) rfl ls st μ
theorem e_X9_copyFrom_15 (Q : ix_R → Prop) (ls : ix_L) (st : List ix_V) (μ : ix_M) : ix_Ev o_X9_copyFrom Q (15, ls, st, μ) = ix_aload 1 16 (ix_Ev o_X9_copyFrom Q) Q ls st μ := ix_Ev.eq (a_X9_copyFrom launch0) rfl ls st μ
theorem e_X9_copyFrom_16 (Q : ix_R → Prop) (ls : ix_L) (st : List ix_V) (μ : ix_M) : ix_Ev o_X9_copyFrom Q (16, ls, st, μ) = ix_getr 8 20 (fun k => k + 2) 19 (ix_Ev o_X9_copyFrom Q) Q ls st μ := ix_Ev.eq (a_X9_copyFrom launch0) rfl ls st μ
theorem e_X9_copyFrom_19 (Q : ix_R → Prop) (ls : ix_L) (st : List ix_V) (μ : ix_M) : ix_Ev o_X9_copyFrom Q (19, ls, st, μ) = ix_push (vi 0) 20 (ix_Ev o_X9_copyFrom Q) Q ls st μ := ix_Ev.eq (a_X9_copyFrom launch0) rfl ls st μ
theorem e_X9_copyFrom_20 (Q : ix_R → Prop) (ls : ix_L) (st : List ix_V) (μ : ix_M) : ix_Ev o_X9_copyFrom Q (20, ls, st, μ) = ix_aload 0 21 (ix_Ev o_X9_copyFrom Q) Q ls st μ := ix_Ev.eq (a_X9_copyFrom launch0) rfl ls st μ
theorem e_X9_copyFrom_21 (Q : ix_R → Prop) (ls : ix_L) (st : List ix_V) (μ : ix_M) : ix_Ev o_X9_copyFrom Q (21, ls, st, μ) = ix_getr 8 20 (fun k => k + 2) 24 (ix_Ev o_X9_copyFrom Q) Q ls st μ := ix_Ev.eq (a_X9_copyFrom launch0) rfl ls st μ
theorem e_X9_copyFrom_24 (Q : ix_R → Prop) (ls : ix_L) (st : List ix_V) (μ : ix_M) : ix_Ev o_X9_copyFrom Q (24, ls, st, μ) = ix_push (vi 0) 25 (ix_Ev o_X9_copyFrom Q) Q ls st μ := ix_Ev.eq (a_X9_copyFrom launch0) rfl ls st μ
theorem e_X9_copyFrom_25 (Q : ix_R → Prop) (ls : ix_L) (st : List ix_V) (μ : ix_M) : ix_Ev o_X9_copyFrom Q (25, ls, st, μ) = ix_push (vi 16) 27 (ix_Ev o_X9_copyFrom Q) Q ls st μ := ix_Ev.eq (a_X9_copyFrom launch0) rfl ls st μ
theorem e_X9_copyFrom_27 (Q : ix_R → Prop) (ls : ix_L) (st : List ix_V) (μ : ix_M) : ix_Ev o_X9_copyFrom Q (27, ls, st, μ) = ix_acopy 30 (ix_Ev o_X9_copyFrom Q) Q ls st μ := ix_Ev.eq (a_X9_copyFrom launch0) rfl ls st μ
theorem e_X9_copyFrom_30 (Q : ix_R → Prop) (ls : ix_L) (st : List ix_V) (μ : ix_M) : ix_Ev o_X9_copyFrom Q (30, ls, st, μ) = ix_aload 1 31 (ix_Ev o_X9_copyFrom Q) Q ls st μ := ix_Ev.eq (a_X9_copyFrom launch0) rfl ls st μ
theorem e_X9_copyFrom_31 (Q : ix_R → Prop) (ls : ix_L) (st : List ix_V) (μ : ix_M) : ix_Ev o_X9_copyFrom Q (31, ls, st, μ) = ix_getr 8 20 (fun k => k + 3) 34 (ix_Ev o_X9_copyFrom Q) Q ls st μ := ix_Ev.eq (a_X9_copyFrom launch0) rfl ls st μ
theorem e_X9_copyFrom_34 (Q : ix_R → Prop) (ls : ix_L) (st : List ix_V) (μ : ix_M) : ix_Ev o_X9_copyFrom Q (34, ls, st, μ) = ix_push (vi 0) 35 (ix_Ev o_X9_copyFrom Q) Q ls st μ := ix_Ev.eq (a_X9_copyFrom launch0) rfl ls st μ
theorem e_X9_copyFrom_35 (Q : ix_R → Prop) (ls : ix_L) (st : List ix_V) (μ : ix_M) : ix_Ev o_X9_copyFrom Q (35, ls, st, μ) = ix_aload 0 36 (ix_Ev o_X9_copyFrom Q) Q ls st μ := ix_Ev.eq (a_X9_copyFrom launch0) rfl ls st μ
theorem e_X9_copyFrom_36 (Q : ix_R → Prop) (ls : ix_L) (st : List ix_V) (μ : ix_M) : ix_Ev o_X9_copyFrom Q (36, ls, st, μ) = ix_getr 8 20 (fun k => k + 3) 39 (ix_Ev o_X9_copyFrom Q) Q ls st μ := ix_Ev.eq (a_X9_copyFrom launch0) rfl ls st μ
theorem e_X9_copyFrom_39 (Q : ix_R → Prop) (ls : ix_L) (st : List ix_V) (μ : ix_M) : ix_Ev o_X9_copyFrom Q (39, ls, st, μ) = ix_push (vi 0) 40 (ix_Ev o_X9_copyFrom Q) Q ls st μ := ix_Ev.eq (a_X9_copyFrom launch0) rfl ls st μ
theorem e_X9_copyFrom_40 (Q : ix_R → Prop) (ls : ix_L) (st : List ix_V) (μ : ix_M) : ix_Ev o_X9_copyFrom Q (40, ls, st, μ) = ix_push (vi 6) 42 (ix_Ev o_X9_copyFrom Q) Q ls st μ := ix_Ev.eq (a_X9_copyFrom launch0) rfl ls st μ
theorem e_X9_copyFrom_42 (Q : ix_R → Prop) (ls : ix_L) (st : List ix_V) (μ : ix_M) : ix_Ev o_X9_copyFrom Q (42, ls, st, μ) = ix_acopy 45 (ix_Ev o_X9_copyFrom Q) Q ls st μ := ix_Ev.eq (a_X9_copyFrom launch0) rfl ls st μ
theorem e_X9_copyFrom_45 (Q : ix_R → Prop) (ls : ix_L) (st : List ix_V) (μ : ix_M) : ix_Ev o_X9_copyFrom Q (45, ls, st, μ) = ix_aload 1 46 (ix_Ev o_X9_copyFrom Q) Q ls st μ := ix_Ev.eq (a_X9_copyFrom launch0) rfl ls st μ
theorem e_X9_copyFrom_46 (Q : ix_R → Prop) (ls : ix_L) (st : List ix_V) (μ : ix_M) : ix_Ev o_X9_copyFrom Q (46, ls, st, μ) = ix_getr 8 20 (fun k => k + 4) 49 (ix_Ev o_X9_copyFrom Q) Q ls st μ := ix_Ev.eq (a_X9_copyFrom launch0) rfl ls st μ
theorem e_X9_copyFrom_49 (Q : ix_R → Prop) (ls : ix_L) (st : List ix_V) (μ : ix_M) : ix_Ev o_X9_copyFrom Q (49, ls, st, μ) = ix_push (vi 0) 50 (ix_Ev o_X9_copyFrom Q) Q ls st μ := ix_Ev.eq (a_X9_copyFrom launch0) rfl ls st μ
theorem e_X9_copyFrom_50 (Q : ix_R → Prop) (ls : ix_L) (st : List ix_V) (μ : ix_M) : ix_Ev o_X9_copyFrom Q (50, ls, st, μ) = ix_aload 0 51 (ix_Ev o_X9_copyFrom Q) Q ls st μ := ix_Ev.eq (a_X9_copyFrom launch0) rfl ls st μ
theorem e_X9_copyFrom_51 (Q : ix_R → Prop) (ls : ix_L) (st : List ix_V) (μ : ix_M) : ix_Ev o_X9_copyFrom Q (51, ls, st, μ) = ix_getr 8 20 (fun k => k + 4) 54 (ix_Ev o_X9_copyFrom Q) Q ls st μ := ix_Ev.eq (a_X9_copyFrom launch0) rfl ls st μ
theorem e_X9_copyFrom_54 (Q : ix_R → Prop) (ls : ix_L) (st : List ix_V) (μ : ix_M) : ix_Ev o_X9_copyFrom Q (54, ls, st, μ) = ix_push (vi 0) 55 (ix_Ev o_X9_copyFrom Q) Q ls st μ := ix_Ev.eq (a_X9_copyFrom launch0) rfl ls st μ
theorem e_X9_copyFrom_55 (Q : ix_R → Prop) (ls : ix_L) (st : List ix_V) (μ : ix_M) : ix_Ev o_X9_copyFrom Q (55, ls, st, μ) = ix_push (vi 8) 57 (ix_Ev o_X9_copyFrom Q) Q ls st μ := ix_Ev.eq (a_X9_copyFrom launch0) rfl ls st μ
theorem e_X9_copyFrom_57 (Q : ix_R → Prop) (ls : ix_L) (st : List ix_V) (μ : ix_M) : ix_Ev o_X9_copyFrom Q (57, ls, st, μ) = ix_acopy 60 (ix_Ev o_X9_copyFrom Q) Q ls st μ := ix_Ev.eq (a_X9_copyFrom launch0) rfl ls st μ
theorem e_X9_copyFrom_60 (Q : ix_R → Prop) (ls : ix_L) (st : List ix_V) (μ : ix_M) : ix_Ev o_X9_copyFrom Q (60, ls, st, μ) = ix_aload 1 61 (ix_Ev o_X9_copyFrom Q) Q ls st μ := ix_Ev.eq (a_X9_copyFrom launch0) rfl ls st μ
theorem e_X9_copyFrom_61 (Q : ix_R → Prop) (ls : ix_L) (st : List ix_V) (μ : ix_M) : ix_Ev o_X9_copyFrom Q (61, ls, st, μ) = ix_getr 8 20 (fun k => k + 5) 64 (ix_Ev o_X9_copyFrom Q) Q ls st μ := ix_Ev.eq (a_X9_copyFrom launch0) rfl ls st μ
theorem e_X9_copyFrom_64 (Q : ix_R → Prop) (ls : ix_L) (st : List ix_V) (μ : ix_M) : ix_Ev o_X9_copyFrom Q (64, ls, st, μ) = ix_push (vi 0) 65 (ix_Ev o_X9_copyFrom Q) Q ls st μ := ix_Ev.eq (a_X9_copyFrom launch0) rfl ls st μ
theorem e_X9_copyFrom_65 (Q : ix_R → Prop) (ls : ix_L) (st : List ix_V) (μ : ix_M) : ix_Ev o_X9_copyFrom Q (65, ls, st, μ) = ix_aload 0 66 (ix_Ev o_X9_copyFrom Q) Q ls st μ := ix_Ev.eq (a_X9_copyFrom launch0) rfl ls st μ
theorem e_X9_copyFrom_66 (Q : ix_R → Prop) (ls : ix_L) (st : List ix_V) (μ : ix_M) : ix_Ev o_X9_copyFrom Q (66, ls, st, μ) = ix_getr 8 20 (fun k => k + 5) 69 (ix_Ev o_X9_copyFrom Q) Q ls st μ := ix_Ev.eq (a_X9_copyFrom launch0) rfl ls st μ
theorem e_X9_copyFrom_69 (Q : ix_R → Prop) (ls : ix_L) (st : List ix_V) (μ : ix_M) : ix_Ev o_X9_copyFrom Q (69, ls, st, μ) = ix_push (vi 0) 70 (ix_Ev o_X9_copyFrom Q) Q ls st μ := ix_Ev.eq (a_X9_copyFrom launch0) rfl ls st μ
theorem e_X9_copyFrom_70 (Q : ix_R → Prop) (ls : ix_L) (st : List ix_V) (μ : ix_M) : ix_Ev o_X9_copyFrom Q (70, ls, st, μ) = ix_push (vi 8) 72 (ix_Ev o_X9_copyFrom Q) Q ls st μ := ix_Ev.eq (a_X9_copyFrom launch0) rfl ls st μ
theorem e_X9_copyFrom_72 (Q : ix_R → Prop) (ls : ix_L) (st : List ix_V) (μ : ix_M) : ix_Ev o_X9_copyFrom Q (72, ls, st, μ) = ix_acopy 75 (ix_Ev o_X9_copyFrom Q) Q ls st μ := ix_Ev.eq (a_X9_copyFrom launch0) rfl ls st μ
theorem e_X9_copyFrom_75 (Q : ix_R → Prop) (ls : ix_L) (st : List ix_V) (μ : ix_M) : ix_Ev o_X9_copyFrom Q (75, ls, st, μ) = ix_aload 1 76 (ix_Ev o_X9_copyFrom Q) Q ls st μ := ix_Ev.eq (a_X9_copyFrom launch0) rfl ls st μ
theorem e_X9_copyFrom_76 (Q : ix_R → Prop) (ls : ix_L) (st : List ix_V) (μ : ix_M) : ix_Ev o_X9_copyFrom Q (76, ls, st, μ) = ix_getr 8 20 (fun k => k + 6) 79 (ix_Ev o_X9_copyFrom Q) Q ls st μ := ix_Ev.eq (a_X9_copyFrom launch0) rfl ls st μ
theorem e_X9_copyFrom_79 (Q : ix_R → Prop) (ls : ix_L) (st : List ix_V) (μ : ix_M) : ix_Ev o_X9_copyFrom Q (79, ls, st, μ) = ix_push (vi 0) 80 (ix_Ev o_X9_copyFrom Q) Q ls st μ := ix_Ev.eq (a_X9_copyFrom launch0) rfl ls st μ
theorem e_X9_copyFrom_80 (Q : ix_R → Prop) (ls : ix_L) (st : List ix_V) (μ : ix_M) : ix_Ev o_X9_copyFrom Q (80, ls, st, μ) = ix_aload 0 81 (ix_Ev o_X9_copyFrom Q) Q ls st μ := ix_Ev.eq (a_X9_copyFrom launch0) rfl ls st μ
theorem e_X9_copyFrom_81 (Q : ix_R → Prop) (ls : ix_L) (st : List ix_V) (μ : ix_M) : ix_Ev o_X9_copyFrom Q (81, ls, st, μ) = ix_getr 8 20 (fun k => k + 6) 84 (ix_Ev o_X9_copyFrom Q) Q ls st μ := ix_Ev.eq (a_X9_copyFrom launch0) rfl ls st μ
theorem e_X9_copyFrom_84 (Q : ix_R → Prop) (ls : ix_L) (st : List ix_V) (μ : ix_M) : ix_Ev o_X9_copyFrom Q (84, ls, st, μ) = ix_push (vi 0) 85 (ix_Ev o_X9_copyFrom Q) Q ls st μ := ix_Ev.eq (a_X9_copyFrom launch0) rfl ls st μ
theorem e_X9_copyFrom_85 (Q : ix_R → Prop) (ls : ix_L) (st : List ix_V) (μ : ix_M) : ix_Ev o_X9_copyFrom Q (85, ls, st, μ) = ix_push (vi 8) 87 (ix_Ev o_X9_copyFrom Q) Q ls st μ := ix_Ev.eq (a_X9_copyFrom launch0) rfl ls st μ
theorem e_X9_copyFrom_87 (Q : ix_R → Prop) (ls : ix_L) (st : List ix_V) (μ : ix_M) : ix_Ev o_X9_copyFrom Q (87, ls, st, μ) = ix_acopy 90 (ix_Ev o_X9_copyFrom Q) Q ls st μ := ix_Ev.eq (a_X9_copyFrom launch0) rfl ls st μ
theorem e_X9_copyFrom_90 (Q : ix_R → Prop) (ls : ix_L) (st : List ix_V) (μ : ix_M) : ix_Ev o_X9_copyFrom Q (90, ls, st, μ) = ix_aload 1 91 (ix_Ev o_X9_copyFrom Q) Q ls st μ := ix_Ev.eq (a_X9_copyFrom launch0) rfl ls st μ
theorem e_X9_copyFrom_91 (Q : ix_R → Prop) (ls : ix_L) (st : List ix_V) (μ : ix_M) : ix_Ev o_X9_copyFrom Q (91, ls, st, μ) = ix_getr 8 20 (fun k => k + 7) 94 (ix_Ev o_X9_copyFrom Q) Q ls st μ := ix_Ev.eq (a_X9_copyFrom launch0) rfl ls st μ
theorem e_X9_copyFrom_94 (Q : ix_R → Prop) (ls : ix_L) (st : List ix_V) (μ : ix_M) : ix_Ev o_X9_copyFrom Q (94, ls, st, μ) = ix_push (vi 0) 95 (ix_Ev o_X9_copyFrom Q) Q ls st μ := ix_Ev.eq (a_X9_copyFrom launch0) rfl ls st μ
theorem e_X9_copyFrom_95 (Q : ix_R → Prop) (ls : ix_L) (st : List ix_V) (μ : ix_M) : ix_Ev o_X9_copyFrom Q (95, ls, st, μ) = ix_aload 0 96 (ix_Ev o_X9_copyFrom Q) Q ls st μ := ix_Ev.eq (a_X9_copyFrom launch0) rfl ls st μ
theorem e_X9_copyFrom_96 (Q : ix_R → Prop) (ls : ix_L) (st : List ix_V) (μ : ix_M) : ix_Ev o_X9_copyFrom Q (96, ls, st, μ) = ix_getr 8 20 (fun k => k + 7) 99 (ix_Ev o_X9_copyFrom Q) Q ls st μ := ix_Ev.eq (a_X9_copyFrom launch0) rfl ls st μ
theorem e_X9_copyFrom_99 (Q : ix_R → Prop) (ls : ix_L) (st : List ix_V) (μ : ix_M) : ix_Ev o_X9_copyFrom Q (99, ls, st, μ) = ix_push (vi 0) 100 (ix_Ev o_X9_copyFrom Q) Q ls st μ := ix_Ev.eq (a_X9_copyFrom launch0) rfl ls st μ
theorem e_X9_copyFrom_100 (Q : ix_R → Prop) (ls : ix_L) (st : List ix_V) (μ : ix_M) : ix_Ev o_X9_copyFrom Q (100, ls, st, μ) = ix_push (vi 8) 102 (ix_Ev o_X9_copyFrom Q) Q ls st μ := ix_Ev.eq (a_X9_copyFrom launch0) rfl ls st μ
theorem e_X9_copyFrom_102 (Q : ix_R → Prop) (ls : ix_L) (st : List ix_V) (μ : ix_M) : ix_Ev o_X9_copyFrom Q (102, ls, st, μ) = ix_acopy 105 (ix_Ev o_X9_copyFrom Q) Q ls st μ := ix_Ev.eq (a_X9_copyFrom launch0) rfl ls st μ
theorem e_X9_copyFrom_105 (Q : ix_R → Prop) (ls : ix_L) (st : List ix_V) (μ : ix_M) : ix_Ev o_X9_copyFrom Q (105, ls, st, μ) = ix_aload 0 106 (ix_Ev o_X9_copyFrom Q) Q ls st μ := ix_Ev.eq (a_X9_copyFrom launch0) rfl ls st μ
theorem e_X9_copyFrom_106 (Q : ix_R → Prop) (ls : ix_L) (st : List ix_V) (μ : ix_M) : ix_Ev o_X9_copyFrom Q (106, ls, st, μ) = ix_aload 1 107 (ix_Ev o_X9_copyFrom Q) Q ls st μ := ix_Ev.eq (a_X9_copyFrom launch0) rfl ls st μ
theorem e_X9_copyFrom_107 (Q : ix_R → Prop) (ls : ix_L) (st : List ix_V) (μ : ix_M) : ix_Ev o_X9_copyFrom Q (107, ls, st, μ) = ix_geti 8 7 110 (ix_Ev o_X9_copyFrom Q) Q ls st μ := ix_Ev.eq (a_X9_copyFrom launch0) rfl ls st μ
theorem e_X9_copyFrom_110 (Q : ix_R → Prop) (ls : ix_L) (st : List ix_V) (μ : ix_M) : ix_Ev o_X9_copyFrom Q (110, ls, st, μ) = ix_puti 8 7 113 (ix_Ev o_X9_copyFrom Q) Q ls st μ := ix_Ev.eq (a_X9_copyFrom launch0) rfl ls st μ
theorem e_X9_copyFrom_113 (Q : ix_R → Prop) (ls : ix_L) (st : List ix_V) (μ : ix_M) : ix_Ev o_X9_copyFrom Q (113, ls, st, μ) = ix_aload 0 114 (ix_Ev o_X9_copyFrom Q) Q ls st μ := ix_Ev.eq (a_X9_copyFrom launch0) rfl ls st μ
theorem e_X9_copyFrom_114 (Q : ix_R → Prop) (ls : ix_L) (st : List ix_V) (μ : ix_M) : ix_Ev o_X9_copyFrom Q (114, ls, st, μ) = ix_aload 1 115 (ix_Ev o_X9_copyFrom Q) Q ls st μ := ix_Ev.eq (a_X9_copyFrom launch0) rfl ls st μ
theorem e_X9_copyFrom_115 (Q : ix_R → Prop) (ls : ix_L) (st : List ix_V) (μ : ix_M) : ix_Ev o_X9_copyFrom Q (115, ls, st, μ) = ix_geti 8 8 118 (ix_Ev o_X9_copyFrom Q) Q ls st μ := ix_Ev.eq (a_X9_copyFrom launch0) rfl ls st μ
theorem e_X9_copyFrom_118 (Q : ix_R → Prop) (ls : ix_L) (st : List ix_V) (μ : ix_M) : ix_Ev o_X9_copyFrom Q (118, ls, st, μ) = ix_puti 8 8 121 (ix_Ev o_X9_copyFrom Q) Q ls st μ := ix_Ev.eq (a_X9_copyFrom launch0) rfl ls st μ
theorem e_X9_copyFrom_121 (Q : ix_R → Prop) (ls : ix_L) (st : List ix_V) (μ : ix_M) : ix_Ev o_X9_copyFrom Q (121, ls, st, μ) = ix_aload 0 122 (ix_Ev o_X9_copyFrom Q) Q ls st μ := ix_Ev.eq (a_X9_copyFrom launch0) rfl ls st μ
theorem e_X9_copyFrom_122 (Q : ix_R → Prop) (ls : ix_L) (st : List ix_V) (μ : ix_M) : ix_Ev o_X9_copyFrom Q (122, ls, st, μ) = ix_aload 1 123 (ix_Ev o_X9_copyFrom Q) Q ls st μ := ix_Ev.eq (a_X9_copyFrom launch0) rfl ls st μ
theorem e_X9_copyFrom_123 (Q : ix_R → Prop) (ls : ix_L) (st : List ix_V) (μ : ix_M) : ix_Ev o_X9_copyFrom Q (123, ls, st, μ) = ix_geti 8 9 126 (ix_Ev o_X9_copyFrom Q) Q ls st μ := ix_Ev.eq (a_X9_copyFrom launch0) rfl ls st μ
theorem e_X9_copyFrom_126 (Q : ix_R → Prop) (ls : ix_L) (st : List ix_V) (μ : ix_M) : ix_Ev o_X9_copyFrom Q (126, ls, st, μ) = ix_puti 8 9 129 (ix_Ev o_X9_copyFrom Q) Q ls st μ := ix_Ev.eq (a_X9_copyFrom launch0) rfl ls st μ
theorem e_X9_copyFrom_129 (Q : ix_R → Prop) (ls : ix_L) (st : List ix_V) (μ : ix_M) : ix_Ev o_X9_copyFrom Q (129, ls, st, μ) = ix_vret (ix_Ev o_X9_copyFrom Q) Q ls st μ := ix_Ev.eq (a_X9_copyFrom launch0) rfl ls st μ
theorem r_X9_copyFrom (w : Nat) (o : Nat) (μ : ix_M) (Q : ix_R → Prop) (ok_w : w < ix_N ∧ ix_tag w = 8) (ok_o : o < ix_N ∧ ix_tag o = 8) (hT : T_X9_copyFrom (w, o) μ Q) : ix_Ev o_X9_copyFrom Q (0, [some (vr 8 w), some (vr 8 o)], [], μ) := by
  obtain ⟨hwo, hw⟩ := ok_water w ok_w.1 ok_w.2
  obtain ⟨hoo, ho⟩ := ok_water o ok_o.1 ok_o.2
  simp (decide := true) only [e_X9_copyFrom_0, e_X9_copyFrom_1, e_X9_copyFrom_4, e_X9_copyFrom_5, e_X9_copyFrom_6, e_X9_copyFrom_9, e_X9_copyFrom_10, e_X9_copyFrom_12, e_X9_copyFrom_15, e_X9_copyFrom_16, e_X9_copyFrom_19, e_X9_copyFrom_20, e_X9_copyFrom_21, e_X9_copyFrom_24, e_X9_copyFrom_25, e_X9_copyFrom_27, e_X9_copyFrom_30, e_X9_copyFrom_31, e_X9_copyFrom_34, e_X9_copyFrom_35, e_X9_copyFrom_36, e_X9_copyFrom_39, e_X9_copyFrom_40, e_X9_copyFrom_42, e_X9_copyFrom_45, e_X9_copyFrom_46, e_X9_copyFrom_49, e_X9_copyFrom_50, e_X9_copyFrom_51, e_X9_copyFrom_54, e_X9_copyFrom_55, e_X9_copyFrom_57, e_X9_copyFrom_60, e_X9_copyFrom_61, e_X9_copyFrom_64, e_X9_copyFrom_65, e_X9_copyFrom_66, e_X9_copyFrom_69, e_X9_copyFrom_70, e_X9_copyFrom_72, e_X9_copyFrom_75, e_X9_copyFrom_76, e_X9_copyFrom_79, e_X9_copyFrom_80, e_X9_copyFrom_81, e_X9_copyFrom_84, e_X9_copyFrom_85, e_X9_copyFrom_87, e_X9_copyFrom_90, e_X9_copyFrom_91, e_X9_copyFrom_94, e_X9_copyFrom_95, e_X9_copyFrom_96, e_X9_copyFrom_99, e_X9_copyFrom_100, e_X9_copyFrom_102, e_X9_copyFrom_105, e_X9_copyFrom_106, e_X9_copyFrom_107, e_X9_copyFrom_110, e_X9_copyFrom_113, e_X9_copyFrom_114, e_X9_copyFrom_115, e_X9_copyFrom_118, e_X9_copyFrom_121, e_X9_copyFrom_122, e_X9_copyFrom_123, e_X9_copyFrom_126, e_X9_copyFrom_129, vi, vl, vr, ix_push, ix_iload, ix_lload, ix_aload, ix_istore, ix_astore, ix_iinc, ix_bin, ix_div, ix_un, ix_i2l, ix_l2i, ix_lbin, ix_lsh, ix_lcmp, ix_dup, ix_dup2, ix_pop, ix_if, ix_cmp, ix_goto, ix_switch, ix_sw, ix_iret, ix_zret, ix_vret, ix_aret, ix_geti, ix_getr, ix_puti, ix_putz, ix_puts, ix_gets, ix_iald, ix_iast, ix_alen, ix_aald, ix_gval, ix_gcod, ix_bald, ix_blen, ix_sald, ix_nret, ix_math2, ix_math1, ix_acopy, Nat.add_assoc, Int32.reduceLT, Int32.reduceLE, Int32.reduceToNatClampNeg, Int32.reduceSub, Int32.reduceAdd, Nat.reduceAdd, Nat.reduceLeDiff, true_or, or_true, or_false, false_or, not_false_eq_true, not_true_eq_false, false_implies, true_implies, implies_true, and_self, mB_0, mB_01, Classical.not_not, Nat.zero_le, List.getElem?_cons_zero, List.getElem?_cons_succ, List.set_cons_zero, List.set_cons_succ, ix_nl, ix_cs, true_and, and_true, Option.toList_some, Option.toList_none, List.cons_append, List.nil_append, hw, ho]
  obtain ⟨hne, hQ⟩ := hT
  have hap : ∀ i j, i < 8 → j < 8 → o + i ≠ w + j := by intro i j hi hj; omega
  have o0 : ∀ j, j < 8 → o ≠ w + j := fun j hj => hap 0 j (by omega) hj
  have o0' : o ≠ w := fun e => hne e.symm
  refine hQ _ (fun a ha => ?_) (wv_cong (fun r i hok => ?_))
  · simp only [wL, List.mem_cons, List.not_mem_nil, or_false, not_or] at ha
    obtain ⟨a0, a1, a2, a3, a4, a5, a6, a7⟩ := ha
    simp only [ix_up_ne a0, ix_cpy_ne a1, ix_cpy_ne a2, ix_cpy_ne a3, ix_cpy_ne a4, ix_cpy_ne a5, ix_cpy_ne a6, ix_cpy_ne a7]
  · have hr : r < 8 := by simp [wok] at hok; omega
    have n1 := o0 1 (by omega)
    have n2 := o0 2 (by omega)
    have n3 := o0 3 (by omega)
    have n4 := o0 4 (by omega)
    have n5 := o0 5 (by omega)
    have n6 := o0 6 (by omega)
    have n7 := o0 7 (by omega)
    match r, hr, hok with
    | 0, _, hok =>
      have hi : i = 7 ∨ i = 8 ∨ i = 9 := by simp [wok] at hok; omega
      show _ = μ o i
      rcases hi with rfl | rfl | rfl
      · simp [ix_up_ap, ix_cpy_ne n1, ix_cpy_ne n2, ix_cpy_ne n3, ix_cpy_ne n4, ix_cpy_ne n5, ix_cpy_ne n6, ix_cpy_ne n7]
      · simp [ix_up_ap, o0', ix_cpy_ne n1, ix_cpy_ne n2, ix_cpy_ne n3, ix_cpy_ne n4, ix_cpy_ne n5, ix_cpy_ne n6, ix_cpy_ne n7]
      · simp [ix_up_ap, o0', ix_cpy_ne n1, ix_cpy_ne n2, ix_cpy_ne n3, ix_cpy_ne n4, ix_cpy_ne n5, ix_cpy_ne n6, ix_cpy_ne n7]
    | 1, _, hok =>
      have hi : i < 16 := by simpa [wok] using hok
      rw [ix_up_ne (by omega), ix_up_ne (by omega), ix_up_ne (by omega), ix_cpy_ne (by omega), ix_cpy_ne (by omega), ix_cpy_ne (by omega), ix_cpy_ne (by omega), ix_cpy_ne (by omega), ix_cpy_ne (by omega), ix_cpy_at, va_cpy00 hi]
    | 2, _, hok =>
      have hi : i < 16 := by simpa [wok] using hok
      rw [ix_up_ne (by omega), ix_up_ne (by omega), ix_up_ne (by omega), ix_cpy_ne (by omega), ix_cpy_ne (by omega), ix_cpy_ne (by omega), ix_cpy_ne (by omega), ix_cpy_ne (by omega), ix_cpy_at, va_cpy00 hi, ix_cpy_ne (by omega)]
    | 3, _, hok =>
      have hi : i < 6 := by simpa [wok] using hok
      rw [ix_up_ne (by omega), ix_up_ne (by omega), ix_up_ne (by omega), ix_cpy_ne (by omega), ix_cpy_ne (by omega), ix_cpy_ne (by omega), ix_cpy_ne (by omega), ix_cpy_at, va_cpy00 hi, ix_cpy_ne (by omega), ix_cpy_ne (by omega)]
    | 4, _, hok =>
      have hi : i < 8 := by simpa [wok] using hok
      rw [ix_up_ne (by omega), ix_up_ne (by omega), ix_up_ne (by omega), ix_cpy_ne (by omega), ix_cpy_ne (by omega), ix_cpy_ne (by omega), ix_cpy_at, va_cpy00 hi, ix_cpy_ne (by omega), ix_cpy_ne (by omega), ix_cpy_ne (by omega)]
    | 5, _, hok =>
      have hi : i < 8 := by simpa [wok] using hok
      rw [ix_up_ne (by omega), ix_up_ne (by omega), ix_up_ne (by omega), ix_cpy_ne (by omega), ix_cpy_ne (by omega), ix_cpy_at, va_cpy00 hi, ix_cpy_ne (by omega), ix_cpy_ne (by omega), ix_cpy_ne (by omega), ix_cpy_ne (by omega)]
    | 6, _, hok =>
      have hi : i < 8 := by simpa [wok] using hok
      rw [ix_up_ne (by omega), ix_up_ne (by omega), ix_up_ne (by omega), ix_cpy_ne (by omega), ix_cpy_at, va_cpy00 hi, ix_cpy_ne (by omega), ix_cpy_ne (by omega), ix_cpy_ne (by omega), ix_cpy_ne (by omega), ix_cpy_ne (by omega)]
    | 7, _, hok =>
      have hi : i < 8 := by simpa [wok] using hok
      rw [ix_up_ne (by omega), ix_up_ne (by omega), ix_up_ne (by omega), ix_cpy_at, va_cpy00 hi, ix_cpy_ne (by omega), ix_cpy_ne (by omega), ix_cpy_ne (by omega), ix_cpy_ne (by omega), ix_cpy_ne (by omega), ix_cpy_ne (by omega)]
theorem k_X9_copyFrom (l : Launch) : ix_Ct l yX9_copyFrom cX9_copyFrom 2 none 1 sh_X9_copyFrom T_X9_copyFrom := ix_ct (a_X9_copyFrom l) rfl (by decide) (fun _ => Nat.le_of_ble_eq_true rfl) (fun x μ Q hok hT => r_X9_copyFrom x.1 x.2 μ Q (ix_ok_at (hok (vr 8 x.1) (by simp [sh_X9_copyFrom])) (by decide) (by decide)) (ix_ok_at (hok (vr 8 x.2) (by simp [sh_X9_copyFrom])) (by decide) (by decide)) hT)
def mZ (z : Int32) : Int32 := z * 1103515245 + 12345
def mZ8 (z : Int32) : Int32 := (z.toUInt32 >>> ((8 : Int32).toUInt32 &&& Int32.toUInt32 31)).toInt32
def T_X6_draw : Nat → ix_M → (ix_R → Prop) → Prop := fun s μ Q => Q (some (vi (mZ8 (mZ (μ s 5)))), ix_up μ s 5 (mZ (μ s 5)))
def sh_X6_draw (x : Nat) : List ix_V := [vr 5 x]
theorem mo_X6_draw (x : Nat) (μ : ix_M) (Q Q' : ix_R → Prop) (h : ∀ r, Q r → Q' r) (hT : T_X6_draw x μ Q) : T_X6_draw x μ Q' := by
  first | exact h _ hT | exact ⟨hT.1, h _ hT.2⟩ | exact fun r hr => h _ (hT r hr) | exact ⟨hT.1, fun r hr => h _ (hT.2 r hr)⟩ | exact ⟨hT.1, hT.2.1, fun r hr => h _ (hT.2.2 r hr)⟩
def oc_X6_draw (n : Nat) : ix_Op := fun k _ ls st μ => match st with
  | .inr (.inr (t0, a0)) :: r => t0 = 5 ∧ ix_cs r ≤ 8 ∧ T_X6_draw a0 μ (fun q => k (n, ls, q.1.toList ++ r, q.2))
  | _ => False
theorem oc_X6_draw_s {l : Launch} {cc : ByteArray} {nL : Nat} {own : String} {d : Nat} {rt : Option FieldType} {pc n : Nat} (h : ix_S l cc nL own d rt pc (ix_call 1 sh_X6_draw T_X6_draw n)) : ix_S l cc nL own d rt pc (oc_X6_draw n) := by
  refine h.by (fun k Q ls st μ h => ?_) (fun k k' Q ls st μ hk h => ?_)
  · unfold oc_X6_draw at h
    split at h
    · rename_i t0 a0 r
      obtain ⟨rfl, h1, h2⟩ := h
      exact ⟨h1, a0, rfl, _, h2, fun r h => h⟩
    · exact h.elim
  · unfold oc_X6_draw at h ⊢
    split at h
    · obtain ⟨rfl, h1, h2⟩ := h
      exact ⟨rfl, h1, mo_X6_draw _ _ _ _ (fun q hq => hk _ hq) h2⟩
    · exact h.elim
def o_X6_draw : List (Nat × ix_Op) := [
  (0, ix_aload 0 1),
  (1, ix_aload 0 2),
  (2, ix_geti 5 5 5),
  (5, ix_push (vi 1103515245) 7),
  (7, ix_bin (fun x y => x * y) 8),
  (8, ix_push (vi 12345) 11),
  (11, ix_bin (fun x y => x + y) 12),
  (12, ix_puti 5 5 15),
  (15, ix_aload 0 16),
  (16, ix_geti 5 5 19),
  (19, ix_push (vi 8) 21),
  (21, ix_bin (fun x y => (x.toUInt32 >>> (y.toUInt32 &&& Int32.toUInt32 31)).toInt32) 22),
  (22, ix_iret)]
set_option maxRecDepth 20000 in
theorem a_X6_draw (l : Launch) : ix_AllS l cX6_draw 1 RX6 1 (some .int) o_X6_draw :=
  .cons (ix_s_aload_n dX6_draw_0 rfl) <|
  .cons (ix_s_aload_n dX6_draw_1 rfl) <|
  .cons (ix_s_geti (j := 5) tu_X6 rfl (by decide) (by decide) tw_148 rfl ts_5_5_i dX6_draw_2) <|
  .cons (ix_s_ldc tw_630 dX6_draw_5) <|
  .cons (ix_s_imul dX6_draw_7) <|
  .cons (ix_s_sipush dX6_draw_8 (by decide +kernel)) <|
  .cons (ix_s_iadd dX6_draw_11) <|
  .cons (ix_s_puti (j := 5) tu_X6 tyX6_ok nmX6 rfl (by decide) (by decide) tw_148 rfl rfl (by decide +kernel) ts_5_5_p dX6_draw_12) <|
  .cons (ix_s_aload_n dX6_draw_15 rfl) <|
  .cons (ix_s_geti (j := 5) tu_X6 rfl (by decide) (by decide) tw_148 rfl ts_5_5_i dX6_draw_16) <|
  .cons (ix_s_bipush dX6_draw_19 (by decide +kernel)) <|
  .cons (ix_s_iushr dX6_draw_21) <|
  .cons (ix_s_iret dX6_draw_22 rfl) <| .nil
theorem e_X6_draw_0 (Q : ix_R → Prop) (ls : ix_L) (st : List ix_V) (μ : ix_M) : ix_Ev o_X6_draw Q (0, ls, st, μ) = ix_aload 0 1 (ix_Ev o_X6_draw Q) Q ls st μ := ix_Ev.eq (a_X6_draw launch0) rfl ls st μ
theorem e_X6_draw_1 (Q : ix_R → Prop) (ls : ix_L) (st : List ix_V) (μ : ix_M) : ix_Ev o_X6_draw Q (1, ls, st, μ) = ix_aload 0 2 (ix_Ev o_X6_draw Q) Q ls st μ := ix_Ev.eq (a_X6_draw launch0) rfl ls st μ
theorem e_X6_draw_2 (Q : ix_R → Prop) (ls : ix_L) (st : List ix_V) (μ : ix_M) : ix_Ev o_X6_draw Q (2, ls, st, μ) = ix_geti 5 5 5 (ix_Ev o_X6_draw Q) Q ls st μ := ix_Ev.eq (a_X6_draw launch0) rfl ls st μ
theorem e_X6_draw_5 (Q : ix_R → Prop) (ls : ix_L) (st : List ix_V) (μ : ix_M) : ix_Ev o_X6_draw Q (5, ls, st, μ) = ix_push (vi 1103515245) 7 (ix_Ev o_X6_draw Q) Q ls st μ := ix_Ev.eq (a_X6_draw launch0) rfl ls st μ
theorem e_X6_draw_7 (Q : ix_R → Prop) (ls : ix_L) (st : List ix_V) (μ : ix_M) : ix_Ev o_X6_draw Q (7, ls, st, μ) = ix_bin (fun x y => x * y) 8 (ix_Ev o_X6_draw Q) Q ls st μ := ix_Ev.eq (a_X6_draw launch0) rfl ls st μ
theorem e_X6_draw_8 (Q : ix_R → Prop) (ls : ix_L) (st : List ix_V) (μ : ix_M) : ix_Ev o_X6_draw Q (8, ls, st, μ) = ix_push (vi 12345) 11 (ix_Ev o_X6_draw Q) Q ls st μ := ix_Ev.eq (a_X6_draw launch0) rfl ls st μ
theorem e_X6_draw_11 (Q : ix_R → Prop) (ls : ix_L) (st : List ix_V) (μ : ix_M) : ix_Ev o_X6_draw Q (11, ls, st, μ) = ix_bin (fun x y => x + y) 12 (ix_Ev o_X6_draw Q) Q ls st μ := ix_Ev.eq (a_X6_draw launch0) rfl ls st μ
theorem e_X6_draw_12 (Q : ix_R → Prop) (ls : ix_L) (st : List ix_V) (μ : ix_M) : ix_Ev o_X6_draw Q (12, ls, st, μ) = ix_puti 5 5 15 (ix_Ev o_X6_draw Q) Q ls st μ := ix_Ev.eq (a_X6_draw launch0) rfl ls st μ
theorem e_X6_draw_15 (Q : ix_R → Prop) (ls : ix_L) (st : List ix_V) (μ : ix_M) : ix_Ev o_X6_draw Q (15, ls, st, μ) = ix_aload 0 16 (ix_Ev o_X6_draw Q) Q ls st μ := ix_Ev.eq (a_X6_draw launch0) rfl ls st μ
theorem e_X6_draw_16 (Q : ix_R → Prop) (ls : ix_L) (st : List ix_V) (μ : ix_M) : ix_Ev o_X6_draw Q (16, ls, st, μ) = ix_geti 5 5 19 (ix_Ev o_X6_draw Q) Q ls st μ := ix_Ev.eq (a_X6_draw launch0) rfl ls st μ
theorem e_X6_draw_19 (Q : ix_R → Prop) (ls : ix_L) (st : List ix_V) (μ : ix_M) : ix_Ev o_X6_draw Q (19, ls, st, μ) = ix_push (vi 8) 21 (ix_Ev o_X6_draw Q) Q ls st μ := ix_Ev.eq (a_X6_draw launch0) rfl ls st μ
theorem e_X6_draw_21 (Q : ix_R → Prop) (ls : ix_L) (st : List ix_V) (μ : ix_M) : ix_Ev o_X6_draw Q (21, ls, st, μ) = ix_bin (fun x y => (x.toUInt32 >>> (y.toUInt32 &&& Int32.toUInt32 31)).toInt32) 22 (ix_Ev o_X6_draw Q) Q ls st μ := ix_Ev.eq (a_X6_draw launch0) rfl ls st μ
theorem e_X6_draw_22 (Q : ix_R → Prop) (ls : ix_L) (st : List ix_V) (μ : ix_M) : ix_Ev o_X6_draw Q (22, ls, st, μ) = ix_iret (ix_Ev o_X6_draw Q) Q ls st μ := ix_Ev.eq (a_X6_draw launch0) rfl ls st μ
theorem r_X6_draw (s : Nat) (μ : ix_M) (Q : ix_R → Prop) (ok_s : s < ix_N ∧ ix_tag s = 5) (hT : T_X6_draw s μ Q) : ix_Ev o_X6_draw Q (0, [some (vr 5 s)], [], μ) := by
  simp (decide := true) only [e_X6_draw_0, e_X6_draw_1, e_X6_draw_2, e_X6_draw_5, e_X6_draw_7, e_X6_draw_8, e_X6_draw_11, e_X6_draw_12, e_X6_draw_15, e_X6_draw_16, e_X6_draw_19, e_X6_draw_21, e_X6_draw_22, vi, vl, vr, ix_push, ix_iload, ix_lload, ix_aload, ix_istore, ix_astore, ix_iinc, ix_bin, ix_div, ix_un, ix_i2l, ix_l2i, ix_lbin, ix_lsh, ix_lcmp, ix_dup, ix_dup2, ix_pop, ix_if, ix_cmp, ix_goto, ix_switch, ix_sw, ix_iret, ix_zret, ix_vret, ix_aret, ix_geti, ix_getr, ix_puti, ix_putz, ix_puts, ix_gets, ix_iald, ix_iast, ix_alen, ix_aald, ix_gval, ix_gcod, ix_bald, ix_blen, ix_sald, ix_nret, ix_math2, ix_math1, ix_acopy, Nat.add_assoc, Int32.reduceLT, Int32.reduceLE, Int32.reduceToNatClampNeg, Int32.reduceSub, Int32.reduceAdd, Nat.reduceAdd, Nat.reduceLeDiff, true_or, or_true, or_false, false_or, not_false_eq_true, not_true_eq_false, false_implies, true_implies, implies_true, and_self, mB_0, mB_01, Classical.not_not, Nat.zero_le, List.getElem?_cons_zero, List.getElem?_cons_succ, List.set_cons_zero, List.set_cons_succ, ix_nl, ix_cs, true_and, and_true, Option.toList_some, Option.toList_none, List.cons_append, List.nil_append]
  simp only [ix_up_k]
  exact hT
theorem k_X6_draw (l : Launch) : ix_Ct l yX6_draw cX6_draw 1 (some .int) 1 sh_X6_draw T_X6_draw := ix_ct (a_X6_draw l) rfl (by decide) (fun _ => Nat.le_of_ble_eq_true rfl) (fun x μ Q hok hT => r_X6_draw x μ Q (ix_ok_at (hok (vr 5 x) (by simp [sh_X6_draw])) (by decide) (by decide)) hT)
/-- an ERROR is counted -/
def T_X10_error : Nat × Int32 → ix_M → (ix_R → Prop) → Prop := fun (o, k) μ Q => (1 ≤ k.toInt ∧ k.toInt ≤ 5) ∧ Q (some (vi (-1000000000 - k)), ix_up μ 111 k.toNatClampNeg (μ 111 k.toNatClampNeg + 1))
def sh_X10_error (x : Nat × Int32) : List ix_V := [vr 9 x.1, vi x.2]
theorem mo_X10_error (x : Nat × Int32) (μ : ix_M) (Q Q' : ix_R → Prop) (h : ∀ r, Q r → Q' r) (hT : T_X10_error x μ Q) : T_X10_error x μ Q' := by
  obtain ⟨a0, a1⟩ := x
  first | exact h _ hT | exact ⟨hT.1, h _ hT.2⟩ | exact fun r hr => h _ (hT r hr) | exact ⟨hT.1, fun r hr => h _ (hT.2 r hr)⟩ | exact ⟨hT.1, hT.2.1, fun r hr => h _ (hT.2.2 r hr)⟩
def oc_X10_error (n : Nat) : ix_Op := fun k _ ls st μ => match st with
  | .inl a1 :: .inr (.inr (t0, a0)) :: r => t0 = 9 ∧ ix_cs r ≤ 8 ∧ T_X10_error (a0, a1) μ (fun q => k (n, ls, q.1.toList ++ r, q.2))
  | _ => False
theorem oc_X10_error_s {l : Launch} {cc : ByteArray} {nL : Nat} {own : String} {d : Nat} {rt : Option FieldType} {pc n : Nat} (h : ix_S l cc nL own d rt pc (ix_call 2 sh_X10_error T_X10_error n)) : ix_S l cc nL own d rt pc (oc_X10_error n) := by
  refine h.by (fun k Q ls st μ h => ?_) (fun k k' Q ls st μ hk h => ?_)
  · unfold oc_X10_error at h
    split at h
    · rename_i a1 t0 a0 r
      obtain ⟨rfl, h1, h2⟩ := h
      exact ⟨h1, (a0, a1), rfl, _, h2, fun r h => h⟩
    · exact h.elim
  · unfold oc_X10_error at h ⊢
    split at h
    · obtain ⟨rfl, h1, h2⟩ := h
      exact ⟨rfl, h1, mo_X10_error _ _ _ _ (fun q hq => hk _ hq) h2⟩
    · exact h.elim
def o_X10_error : List (Nat × ix_Op) := [
  (0, ix_aload 0 1),
  (1, ix_getr 9 20 (fun _ => 111) 4),
  (4, ix_iload 1 5),
  (5, ix_dup2 6),
  (6, ix_iald 7),
  (7, ix_push (vi 1) 8),
  (8, ix_bin (fun x y => x + y) 9),
  (9, ix_iast 10),
  (10, ix_push (vi (-1000000000)) 13),
  (13, ix_iload 1 14),
  (14, ix_bin (fun x y => x - y) 15),
  (15, ix_iret)]
set_option maxRecDepth 20000 in
theorem a_X10_error (l : Launch) : ix_AllS l cX10_error 2 RX10 1 (some .int) o_X10_error :=
  .cons (ix_s_aload_n dX10_error_0 rfl) <|
  .cons (ix_s_getr (j := 8) tu_X10 rfl (by decide) (by decide) tw_259 rfl ts_9_8_r dX10_error_1) <|
  .cons (ix_s_iload_n dX10_error_4 rfl) <|
  .cons (ix_s_dup2 dX10_error_5) <|
  .cons (ix_s_iald dX10_error_6) <|
  .cons (ix_s_iconst dX10_error_7 (by decide +kernel)) <|
  .cons (ix_s_iadd dX10_error_8) <|
  .cons (ix_s_iast dX10_error_9) <|
  .cons (ix_s_ldcw tw_296 dX10_error_10) <|
  .cons (ix_s_iload_n dX10_error_13 rfl) <|
  .cons (ix_s_isub dX10_error_14) <|
  .cons (ix_s_iret dX10_error_15 rfl) <| .nil
theorem e_X10_error_0 (Q : ix_R → Prop) (ls : ix_L) (st : List ix_V) (μ : ix_M) : ix_Ev o_X10_error Q (0, ls, st, μ) = ix_aload 0 1 (ix_Ev o_X10_error Q) Q ls st μ := ix_Ev.eq (a_X10_error launch0) rfl ls st μ
theorem e_X10_error_1 (Q : ix_R → Prop) (ls : ix_L) (st : List ix_V) (μ : ix_M) : ix_Ev o_X10_error Q (1, ls, st, μ) = ix_getr 9 20 (fun _ => 111) 4 (ix_Ev o_X10_error Q) Q ls st μ := ix_Ev.eq (a_X10_error launch0) rfl ls st μ
theorem e_X10_error_4 (Q : ix_R → Prop) (ls : ix_L) (st : List ix_V) (μ : ix_M) : ix_Ev o_X10_error Q (4, ls, st, μ) = ix_iload 1 5 (ix_Ev o_X10_error Q) Q ls st μ := ix_Ev.eq (a_X10_error launch0) rfl ls st μ
theorem e_X10_error_5 (Q : ix_R → Prop) (ls : ix_L) (st : List ix_V) (μ : ix_M) : ix_Ev o_X10_error Q (5, ls, st, μ) = ix_dup2 6 (ix_Ev o_X10_error Q) Q ls st μ := ix_Ev.eq (a_X10_error launch0) rfl ls st μ
theorem e_X10_error_6 (Q : ix_R → Prop) (ls : ix_L) (st : List ix_V) (μ : ix_M) : ix_Ev o_X10_error Q (6, ls, st, μ) = ix_iald 7 (ix_Ev o_X10_error Q) Q ls st μ := ix_Ev.eq (a_X10_error launch0) rfl ls st μ
theorem e_X10_error_7 (Q : ix_R → Prop) (ls : ix_L) (st : List ix_V) (μ : ix_M) : ix_Ev o_X10_error Q (7, ls, st, μ) = ix_push (vi 1) 8 (ix_Ev o_X10_error Q) Q ls st μ := ix_Ev.eq (a_X10_error launch0) rfl ls st μ
theorem e_X10_error_8 (Q : ix_R → Prop) (ls : ix_L) (st : List ix_V) (μ : ix_M) : ix_Ev o_X10_error Q (8, ls, st, μ) = ix_bin (fun x y => x + y) 9 (ix_Ev o_X10_error Q) Q ls st μ := ix_Ev.eq (a_X10_error launch0) rfl ls st μ
theorem e_X10_error_9 (Q : ix_R → Prop) (ls : ix_L) (st : List ix_V) (μ : ix_M) : ix_Ev o_X10_error Q (9, ls, st, μ) = ix_iast 10 (ix_Ev o_X10_error Q) Q ls st μ := ix_Ev.eq (a_X10_error launch0) rfl ls st μ
theorem e_X10_error_10 (Q : ix_R → Prop) (ls : ix_L) (st : List ix_V) (μ : ix_M) : ix_Ev o_X10_error Q (10, ls, st, μ) = ix_push (vi (-1000000000)) 13 (ix_Ev o_X10_error Q) Q ls st μ := ix_Ev.eq (a_X10_error launch0) rfl ls st μ
theorem e_X10_error_13 (Q : ix_R → Prop) (ls : ix_L) (st : List ix_V) (μ : ix_M) : ix_Ev o_X10_error Q (13, ls, st, μ) = ix_iload 1 14 (ix_Ev o_X10_error Q) Q ls st μ := ix_Ev.eq (a_X10_error launch0) rfl ls st μ
theorem e_X10_error_14 (Q : ix_R → Prop) (ls : ix_L) (st : List ix_V) (μ : ix_M) : ix_Ev o_X10_error Q (14, ls, st, μ) = ix_bin (fun x y => x - y) 15 (ix_Ev o_X10_error Q) Q ls st μ := ix_Ev.eq (a_X10_error launch0) rfl ls st μ
theorem e_X10_error_15 (Q : ix_R → Prop) (ls : ix_L) (st : List ix_V) (μ : ix_M) : ix_Ev o_X10_error Q (15, ls, st, μ) = ix_iret (ix_Ev o_X10_error Q) Q ls st μ := ix_Ev.eq (a_X10_error launch0) rfl ls st μ
theorem r_X10_error (o : Nat) (k : Int32) (μ : ix_M) (Q : ix_R → Prop) (ok_o : o < ix_N ∧ ix_tag o = 9) (hT : T_X10_error (o, k) μ Q) : ix_Ev o_X10_error Q (0, [some (vr 9 o), some (vi k)], [], μ) := by
  have h6 : ix_len 111 = 6 := by decide +kernel
  obtain ⟨⟨h1, h2⟩, hT⟩ := hT
  have hin : vp_in k 6 := vp_inI (by omega) (by omega)
  simp (decide := true) only [e_X10_error_0, e_X10_error_1, e_X10_error_4, e_X10_error_5, e_X10_error_6, e_X10_error_7, e_X10_error_8, e_X10_error_9, e_X10_error_10, e_X10_error_13, e_X10_error_14, e_X10_error_15, vi, vl, vr, ix_push, ix_iload, ix_lload, ix_aload, ix_istore, ix_astore, ix_iinc, ix_bin, ix_div, ix_un, ix_i2l, ix_l2i, ix_lbin, ix_lsh, ix_lcmp, ix_dup, ix_dup2, ix_pop, ix_if, ix_cmp, ix_goto, ix_switch, ix_sw, ix_iret, ix_zret, ix_vret, ix_aret, ix_geti, ix_getr, ix_puti, ix_putz, ix_puts, ix_gets, ix_iald, ix_iast, ix_alen, ix_aald, ix_gval, ix_gcod, ix_bald, ix_blen, ix_sald, ix_nret, ix_math2, ix_math1, ix_acopy, Nat.add_assoc, Int32.reduceLT, Int32.reduceLE, Int32.reduceToNatClampNeg, Int32.reduceSub, Int32.reduceAdd, Nat.reduceAdd, Nat.reduceLeDiff, true_or, or_true, or_false, false_or, not_false_eq_true, not_true_eq_false, false_implies, true_implies, implies_true, and_self, mB_0, mB_01, Classical.not_not, Nat.zero_le, List.getElem?_cons_zero, List.getElem?_cons_succ, List.set_cons_zero, List.set_cons_succ, ix_nl, ix_cs, true_and, and_true, Option.toList_some, Option.toList_none, List.cons_append, List.nil_append, h6, hin]
  exact hT
theorem k_X10_error (l : Launch) : ix_Ct l yX10_error cX10_error 2 (some .int) 1 sh_X10_error T_X10_error := ix_ct (a_X10_error l) rfl (by decide) (fun _ => Nat.le_of_ble_eq_true rfl) (fun x μ Q hok hT => r_X10_error x.1 x.2 μ Q (ix_ok_at (hok (vr 9 x.1) (by simp [sh_X10_error])) (by decide) (by decide)) hT)
def T_X10_noBoat : Nat × Int32 → ix_M → (ix_R → Prop) → Prop := fun (o, b) μ Q => Q (some (vi (mB (b < 0 ∨ μ 2 7 ≤ b))), μ)
def sh_X10_noBoat (x : Nat × Int32) : List ix_V := [vr 9 x.1, vi x.2]
theorem mo_X10_noBoat (x : Nat × Int32) (μ : ix_M) (Q Q' : ix_R → Prop) (h : ∀ r, Q r → Q' r) (hT : T_X10_noBoat x μ Q) : T_X10_noBoat x μ Q' := by
  obtain ⟨a0, a1⟩ := x
  first | exact h _ hT | exact ⟨hT.1, h _ hT.2⟩ | exact fun r hr => h _ (hT r hr) | exact ⟨hT.1, fun r hr => h _ (hT.2 r hr)⟩ | exact ⟨hT.1, hT.2.1, fun r hr => h _ (hT.2.2 r hr)⟩
def oc_X10_noBoat (n : Nat) : ix_Op := fun k _ ls st μ => match st with
  | .inl a1 :: .inr (.inr (t0, a0)) :: r => t0 = 9 ∧ ix_cs r ≤ 8 ∧ T_X10_noBoat (a0, a1) μ (fun q => k (n, ls, q.1.toList ++ r, q.2))
  | _ => False
theorem oc_X10_noBoat_s {l : Launch} {cc : ByteArray} {nL : Nat} {own : String} {d : Nat} {rt : Option FieldType} {pc n : Nat} (h : ix_S l cc nL own d rt pc (ix_call 2 sh_X10_noBoat T_X10_noBoat n)) : ix_S l cc nL own d rt pc (oc_X10_noBoat n) := by
  refine h.by (fun k Q ls st μ h => ?_) (fun k k' Q ls st μ hk h => ?_)
  · unfold oc_X10_noBoat at h
    split at h
    · rename_i a1 t0 a0 r
      obtain ⟨rfl, h1, h2⟩ := h
      exact ⟨h1, (a0, a1), rfl, _, h2, fun r h => h⟩
    · exact h.elim
  · unfold oc_X10_noBoat at h ⊢
    split at h
    · obtain ⟨rfl, h1, h2⟩ := h
      exact ⟨rfl, h1, mo_X10_noBoat _ _ _ _ (fun q hq => hk _ hq) h2⟩
    · exact h.elim
def o_X10_noBoat : List (Nat × ix_Op) := [
  (0, ix_iload 1 1),
  (1, ix_if (fun x => x < 0) 18 4),
  (4, ix_iload 1 5),
  (5, ix_aload 0 6),
  (6, ix_getr 9 5 (fun _ => 1) 9),
  (9, ix_getr 5 8 (fun k => k + 1) 12),
  (12, ix_geti 8 7 15),
  (15, ix_cmp (fun x y => x < y) 22 18),
  (18, ix_push (vi 1) 19),
  (19, ix_goto 23),
  (22, ix_push (vi 0) 23),
  (23, ix_zret)]
set_option maxRecDepth 20000 in
theorem a_X10_noBoat (l : Launch) : ix_AllS l cX10_noBoat 2 RX10 1 (some .boolean) o_X10_noBoat :=
  .cons (ix_s_iload_n dX10_noBoat_0 rfl) <|
  .cons (ix_s_if_lt dX10_noBoat_1 (by decide)) <|
  .cons (ix_s_iload_n dX10_noBoat_4 rfl) <|
  .cons (ix_s_aload_n dX10_noBoat_5 rfl) <|
  .cons (ix_s_getr (j := 0) tu_X10 rfl (by decide) (by decide) tw_251 rfl ts_9_0_r dX10_noBoat_6) <|
  .cons (ix_s_getr (j := 0) tu_X6 rfl (by decide) (by decide) tw_138 rfl ts_5_0_r dX10_noBoat_9) <|
  .cons (ix_s_geti (j := 7) tu_X9 rfl (by decide) (by decide) tw_57 rfl ts_8_7_i dX10_noBoat_12) <|
  .cons (ix_s_cmp_lt dX10_noBoat_15 (by decide)) <|
  .cons (ix_s_iconst dX10_noBoat_18 (by decide +kernel)) <|
  .cons (ix_s_goto dX10_noBoat_19 (by decide)) <|
  .cons (ix_s_iconst dX10_noBoat_22 (by decide +kernel)) <|
  .cons (ix_s_zret dX10_noBoat_23 rfl) <| .nil
theorem e_X10_noBoat_0 (Q : ix_R → Prop) (ls : ix_L) (st : List ix_V) (μ : ix_M) : ix_Ev o_X10_noBoat Q (0, ls, st, μ) = ix_iload 1 1 (ix_Ev o_X10_noBoat Q) Q ls st μ := ix_Ev.eq (a_X10_noBoat launch0) rfl ls st μ
theorem e_X10_noBoat_1 (Q : ix_R → Prop) (ls : ix_L) (st : List ix_V) (μ : ix_M) : ix_Ev o_X10_noBoat Q (1, ls, st, μ) = ix_if (fun x => x < 0) 18 4 (ix_Ev o_X10_noBoat Q) Q ls st μ := ix_Ev.eq (a_X10_noBoat launch0) rfl ls st μ
theorem e_X10_noBoat_4 (Q : ix_R → Prop) (ls : ix_L) (st : List ix_V) (μ : ix_M) : ix_Ev o_X10_noBoat Q (4, ls, st, μ) = ix_iload 1 5 (ix_Ev o_X10_noBoat Q) Q ls st μ := ix_Ev.eq (a_X10_noBoat launch0) rfl ls st μ
theorem e_X10_noBoat_5 (Q : ix_R → Prop) (ls : ix_L) (st : List ix_V) (μ : ix_M) : ix_Ev o_X10_noBoat Q (5, ls, st, μ) = ix_aload 0 6 (ix_Ev o_X10_noBoat Q) Q ls st μ := ix_Ev.eq (a_X10_noBoat launch0) rfl ls st μ
theorem e_X10_noBoat_6 (Q : ix_R → Prop) (ls : ix_L) (st : List ix_V) (μ : ix_M) : ix_Ev o_X10_noBoat Q (6, ls, st, μ) = ix_getr 9 5 (fun _ => 1) 9 (ix_Ev o_X10_noBoat Q) Q ls st μ := ix_Ev.eq (a_X10_noBoat launch0) rfl ls st μ
theorem e_X10_noBoat_9 (Q : ix_R → Prop) (ls : ix_L) (st : List ix_V) (μ : ix_M) : ix_Ev o_X10_noBoat Q (9, ls, st, μ) = ix_getr 5 8 (fun k => k + 1) 12 (ix_Ev o_X10_noBoat Q) Q ls st μ := ix_Ev.eq (a_X10_noBoat launch0) rfl ls st μ
theorem e_X10_noBoat_12 (Q : ix_R → Prop) (ls : ix_L) (st : List ix_V) (μ : ix_M) : ix_Ev o_X10_noBoat Q (12, ls, st, μ) = ix_geti 8 7 15 (ix_Ev o_X10_noBoat Q) Q ls st μ := ix_Ev.eq (a_X10_noBoat launch0) rfl ls st μ
theorem e_X10_noBoat_15 (Q : ix_R → Prop) (ls : ix_L) (st : List ix_V) (μ : ix_M) : ix_Ev o_X10_noBoat Q (15, ls, st, μ) = ix_cmp (fun x y => x < y) 22 18 (ix_Ev o_X10_noBoat Q) Q ls st μ := ix_Ev.eq (a_X10_noBoat launch0) rfl ls st μ
theorem e_X10_noBoat_18 (Q : ix_R → Prop) (ls : ix_L) (st : List ix_V) (μ : ix_M) : ix_Ev o_X10_noBoat Q (18, ls, st, μ) = ix_push (vi 1) 19 (ix_Ev o_X10_noBoat Q) Q ls st μ := ix_Ev.eq (a_X10_noBoat launch0) rfl ls st μ
theorem e_X10_noBoat_19 (Q : ix_R → Prop) (ls : ix_L) (st : List ix_V) (μ : ix_M) : ix_Ev o_X10_noBoat Q (19, ls, st, μ) = ix_goto 23 (ix_Ev o_X10_noBoat Q) Q ls st μ := ix_Ev.eq (a_X10_noBoat launch0) rfl ls st μ
theorem e_X10_noBoat_22 (Q : ix_R → Prop) (ls : ix_L) (st : List ix_V) (μ : ix_M) : ix_Ev o_X10_noBoat Q (22, ls, st, μ) = ix_push (vi 0) 23 (ix_Ev o_X10_noBoat Q) Q ls st μ := ix_Ev.eq (a_X10_noBoat launch0) rfl ls st μ
theorem e_X10_noBoat_23 (Q : ix_R → Prop) (ls : ix_L) (st : List ix_V) (μ : ix_M) : ix_Ev o_X10_noBoat Q (23, ls, st, μ) = ix_zret (ix_Ev o_X10_noBoat Q) Q ls st μ := ix_Ev.eq (a_X10_noBoat launch0) rfl ls st μ
theorem r_X10_noBoat (o : Nat) (b : Int32) (μ : ix_M) (Q : ix_R → Prop) (ok_o : o < ix_N ∧ ix_tag o = 9) (hT : T_X10_noBoat (o, b) μ Q) : ix_Ev o_X10_noBoat Q (0, [some (vr 9 o), some (vi b)], [], μ) := by
  simp (decide := true) only [e_X10_noBoat_0, e_X10_noBoat_1, e_X10_noBoat_4, e_X10_noBoat_5, e_X10_noBoat_6, e_X10_noBoat_9, e_X10_noBoat_12, e_X10_noBoat_15, e_X10_noBoat_18, e_X10_noBoat_19, e_X10_noBoat_22, e_X10_noBoat_23, vi, vl, vr, ix_push, ix_iload, ix_lload, ix_aload, ix_istore, ix_astore, ix_iinc, ix_bin, ix_div, ix_un, ix_i2l, ix_l2i, ix_lbin, ix_lsh, ix_lcmp, ix_dup, ix_dup2, ix_pop, ix_if, ix_cmp, ix_goto, ix_switch, ix_sw, ix_iret, ix_zret, ix_vret, ix_aret, ix_geti, ix_getr, ix_puti, ix_putz, ix_puts, ix_gets, ix_iald, ix_iast, ix_alen, ix_aald, ix_gval, ix_gcod, ix_bald, ix_blen, ix_sald, ix_nret, ix_math2, ix_math1, ix_acopy, Nat.add_assoc, Int32.reduceLT, Int32.reduceLE, Int32.reduceToNatClampNeg, Int32.reduceSub, Int32.reduceAdd, Nat.reduceAdd, Nat.reduceLeDiff, true_or, or_true, or_false, false_or, not_false_eq_true, not_true_eq_false, false_implies, true_implies, implies_true, and_self, mB_0, mB_01, Classical.not_not, Nat.zero_le, List.getElem?_cons_zero, List.getElem?_cons_succ, List.set_cons_zero, List.set_cons_succ, ix_nl, ix_cs, true_and, and_true, Option.toList_some, Option.toList_none, List.cons_append, List.nil_append]
  simp only [T_X10_noBoat, mB, vi, vl, vr] at hT
  repeat' (first | refine And.intro ?_ ?_ | intro _)
  all_goals (first | exact hT | (simp only [*, if_true, if_false, not_true_eq_false, not_false_eq_true, and_true, true_and, and_false, false_and, or_true, true_or, or_false, false_or, and_self, or_self] at hT; exact hT) | (simp only [← Int32.not_lt, Classical.not_not] at *; simp only [*, if_true, if_false, not_true_eq_false, not_false_eq_true, and_true, true_and, and_false, false_and, or_true, true_or, or_false, false_or, and_self, or_self] at hT; exact hT) | (simp_all; done))
theorem k_X10_noBoat (l : Launch) : ix_Ct l yX10_noBoat cX10_noBoat 2 (some .boolean) 1 sh_X10_noBoat T_X10_noBoat := ix_ct (a_X10_noBoat l) rfl (by decide) (fun _ => Nat.le_of_ble_eq_true rfl) (fun x μ Q hok hT => r_X10_noBoat x.1 x.2 μ Q (ix_ok_at (hok (vr 9 x.1) (by simp [sh_X10_noBoat])) (by decide) (by decide)) hT)
def T_X10_think : Nat → ix_M → (ix_R → Prop) → Prop := fun o μ Q => ∀ μ', Fx (wL 48) μ μ' → wv μ' 48 = wv μ 2 → Q (some (vr 8 48), μ')
def sh_X10_think (x : Nat) : List ix_V := [vr 9 x]
theorem mo_X10_think (x : Nat) (μ : ix_M) (Q Q' : ix_R → Prop) (h : ∀ r, Q r → Q' r) (hT : T_X10_think x μ Q) : T_X10_think x μ Q' := by
  (exact fun μ' z z2 => h _ (hT μ' z z2))
def oc_X10_think (n : Nat) : ix_Op := fun k _ ls st μ => match st with
  | .inr (.inr (t0, a0)) :: r => t0 = 9 ∧ ix_cs r ≤ 8 ∧ T_X10_think a0 μ (fun q => k (n, ls, q.1.toList ++ r, q.2))
  | _ => False
theorem oc_X10_think_s {l : Launch} {cc : ByteArray} {nL : Nat} {own : String} {d : Nat} {rt : Option FieldType} {pc n : Nat} (h : ix_S l cc nL own d rt pc (ix_call 1 sh_X10_think T_X10_think n)) : ix_S l cc nL own d rt pc (oc_X10_think n) := by
  refine h.by (fun k Q ls st μ h => ?_) (fun k k' Q ls st μ hk h => ?_)
  · unfold oc_X10_think at h
    split at h
    · rename_i t0 a0 r
      obtain ⟨rfl, h1, h2⟩ := h
      exact ⟨h1, a0, rfl, _, h2, fun r h => h⟩
    · exact h.elim
  · unfold oc_X10_think at h ⊢
    split at h
    · obtain ⟨rfl, h1, h2⟩ := h
      exact ⟨rfl, h1, mo_X10_think _ _ _ _ (fun q hq => hk _ hq) h2⟩
    · exact h.elim
def o_X10_think : List (Nat × ix_Op) := [
  (0, ix_aload 0 1),
  (1, ix_getr 9 21 (fun _ => 47) 4),
  (4, ix_push (vi 0) 5),
  (5, ix_aald 21 47 5 8 (fun i => 48 + 8 * i) 6),
  (6, ix_aload 0 7),
  (7, ix_getr 9 5 (fun _ => 1) 10),
  (10, ix_getr 5 8 (fun k => k + 1) 13),
  (13, oc_X9_copyFrom 16),
  (16, ix_aload 0 17),
  (17, ix_getr 9 21 (fun _ => 47) 20),
  (20, ix_push (vi 0) 21),
  (21, ix_aald 21 47 5 8 (fun i => 48 + 8 * i) 22),
  (22, ix_aret)]
set_option maxRecDepth 20000 in
theorem a_X10_think (l : Launch) : ix_AllS l cX10_think 1 RX10 2 (some (.object "IndigoBoats$Water")) o_X10_think :=
  .cons (ix_s_aload_n dX10_think_0 rfl) <|
  .cons (ix_s_getr (j := 3) tu_X10 rfl (by decide) (by decide) tw_254 rfl ts_9_3_r dX10_think_1) <|
  .cons (ix_s_iconst dX10_think_4 (by decide +kernel)) <|
  .cons (ix_s_aald (E0 := ix_tys) (by decide) (by decide +kernel) (fun _ => rfl) (by decide +kernel) dX10_think_5) <|
  .cons (ix_s_aload_n dX10_think_6 rfl) <|
  .cons (ix_s_getr (j := 0) tu_X10 rfl (by decide) (by decide) tw_251 rfl ts_9_0_r dX10_think_7) <|
  .cons (ix_s_getr (j := 0) tu_X6 rfl (by decide) (by decide) tw_138 rfl ts_5_0_r dX10_think_10) <|
  .cons (oc_X9_copyFrom_s (ix_s_callv (t := 8) (k_X9_copyFrom l) (by decide) (by decide) tw_642 tw_3 tw_639 tw_640 tw_641 ⟨by decide, by decide, by decide +kernel⟩ (by decide) rfl rfl (fun _ => ⟨_, _, rfl, rfl⟩) dX10_think_13)) <|
  .cons (ix_s_aload_n dX10_think_16 rfl) <|
  .cons (ix_s_getr (j := 3) tu_X10 rfl (by decide) (by decide) tw_254 rfl ts_9_3_r dX10_think_17) <|
  .cons (ix_s_iconst dX10_think_20 (by decide +kernel)) <|
  .cons (ix_s_aald (E0 := ix_tys) (by decide) (by decide +kernel) (fun _ => rfl) (by decide +kernel) dX10_think_21) <|
  .cons (ix_s_aret dX10_think_22 rfl) <| .nil
theorem e_X10_think_0 (Q : ix_R → Prop) (ls : ix_L) (st : List ix_V) (μ : ix_M) : ix_Ev o_X10_think Q (0, ls, st, μ) = ix_aload 0 1 (ix_Ev o_X10_think Q) Q ls st μ := ix_Ev.eq (a_X10_think launch0) rfl ls st μ
theorem e_X10_think_1 (Q : ix_R → Prop) (ls : ix_L) (st : List ix_V) (μ : ix_M) : ix_Ev o_X10_think Q (1, ls, st, μ) = ix_getr 9 21 (fun _ => 47) 4 (ix_Ev o_X10_think Q) Q ls st μ := ix_Ev.eq (a_X10_think launch0) rfl ls st μ
theorem e_X10_think_4 (Q : ix_R → Prop) (ls : ix_L) (st : List ix_V) (μ : ix_M) : ix_Ev o_X10_think Q (4, ls, st, μ) = ix_push (vi 0) 5 (ix_Ev o_X10_think Q) Q ls st μ := ix_Ev.eq (a_X10_think launch0) rfl ls st μ
theorem e_X10_think_5 (Q : ix_R → Prop) (ls : ix_L) (st : List ix_V) (μ : ix_M) : ix_Ev o_X10_think Q (5, ls, st, μ) = ix_aald 21 47 5 8 (fun i => 48 + 8 * i) 6 (ix_Ev o_X10_think Q) Q ls st μ := ix_Ev.eq (a_X10_think launch0) rfl ls st μ
theorem e_X10_think_6 (Q : ix_R → Prop) (ls : ix_L) (st : List ix_V) (μ : ix_M) : ix_Ev o_X10_think Q (6, ls, st, μ) = ix_aload 0 7 (ix_Ev o_X10_think Q) Q ls st μ := ix_Ev.eq (a_X10_think launch0) rfl ls st μ
theorem e_X10_think_7 (Q : ix_R → Prop) (ls : ix_L) (st : List ix_V) (μ : ix_M) : ix_Ev o_X10_think Q (7, ls, st, μ) = ix_getr 9 5 (fun _ => 1) 10 (ix_Ev o_X10_think Q) Q ls st μ := ix_Ev.eq (a_X10_think launch0) rfl ls st μ
theorem e_X10_think_10 (Q : ix_R → Prop) (ls : ix_L) (st : List ix_V) (μ : ix_M) : ix_Ev o_X10_think Q (10, ls, st, μ) = ix_getr 5 8 (fun k => k + 1) 13 (ix_Ev o_X10_think Q) Q ls st μ := ix_Ev.eq (a_X10_think launch0) rfl ls st μ
theorem e_X10_think_13 (Q : ix_R → Prop) (ls : ix_L) (st : List ix_V) (μ : ix_M) : ix_Ev o_X10_think Q (13, ls, st, μ) = oc_X9_copyFrom 16 (ix_Ev o_X10_think Q) Q ls st μ := ix_Ev.eq (a_X10_think launch0) rfl ls st μ
theorem e_X10_think_16 (Q : ix_R → Prop) (ls : ix_L) (st : List ix_V) (μ : ix_M) : ix_Ev o_X10_think Q (16, ls, st, μ) = ix_aload 0 17 (ix_Ev o_X10_think Q) Q ls st μ := ix_Ev.eq (a_X10_think launch0) rfl ls st μ
theorem e_X10_think_17 (Q : ix_R → Prop) (ls : ix_L) (st : List ix_V) (μ : ix_M) : ix_Ev o_X10_think Q (17, ls, st, μ) = ix_getr 9 21 (fun _ => 47) 20 (ix_Ev o_X10_think Q) Q ls st μ := ix_Ev.eq (a_X10_think launch0) rfl ls st μ
theorem e_X10_think_20 (Q : ix_R → Prop) (ls : ix_L) (st : List ix_V) (μ : ix_M) : ix_Ev o_X10_think Q (20, ls, st, μ) = ix_push (vi 0) 21 (ix_Ev o_X10_think Q) Q ls st μ := ix_Ev.eq (a_X10_think launch0) rfl ls st μ
theorem e_X10_think_21 (Q : ix_R → Prop) (ls : ix_L) (st : List ix_V) (μ : ix_M) : ix_Ev o_X10_think Q (21, ls, st, μ) = ix_aald 21 47 5 8 (fun i => 48 + 8 * i) 22 (ix_Ev o_X10_think Q) Q ls st μ := ix_Ev.eq (a_X10_think launch0) rfl ls st μ
theorem e_X10_think_22 (Q : ix_R → Prop) (ls : ix_L) (st : List ix_V) (μ : ix_M) : ix_Ev o_X10_think Q (22, ls, st, μ) = ix_aret (ix_Ev o_X10_think Q) Q ls st μ := ix_Ev.eq (a_X10_think launch0) rfl ls st μ
theorem r_X10_think (o : Nat) (μ : ix_M) (Q : ix_R → Prop) (ok_o : o < ix_N ∧ ix_tag o = 9) (hT : T_X10_think o μ Q) : ix_Ev o_X10_think Q (0, [some (vr 9 o)], [], μ) := by
  have h0 : vp_in 0 5 := vp_in_nI (n := 0) (by decide) (by decide)
  simp (decide := true) only [e_X10_think_0, e_X10_think_1, e_X10_think_4, e_X10_think_5, e_X10_think_6, e_X10_think_7, e_X10_think_10, e_X10_think_13, e_X10_think_16, e_X10_think_17, e_X10_think_20, e_X10_think_21, e_X10_think_22, vi, vl, vr, oc_X9_copyFrom, T_X9_copyFrom, ix_push, ix_iload, ix_lload, ix_aload, ix_istore, ix_astore, ix_iinc, ix_bin, ix_div, ix_un, ix_i2l, ix_l2i, ix_lbin, ix_lsh, ix_lcmp, ix_dup, ix_dup2, ix_pop, ix_if, ix_cmp, ix_goto, ix_switch, ix_sw, ix_iret, ix_zret, ix_vret, ix_aret, ix_geti, ix_getr, ix_puti, ix_putz, ix_puts, ix_gets, ix_iald, ix_iast, ix_alen, ix_aald, ix_gval, ix_gcod, ix_bald, ix_blen, ix_sald, ix_nret, ix_math2, ix_math1, ix_acopy, Nat.add_assoc, Int32.reduceLT, Int32.reduceLE, Int32.reduceToNatClampNeg, Int32.reduceSub, Int32.reduceAdd, Nat.reduceAdd, Nat.reduceLeDiff, true_or, or_true, or_false, false_or, not_false_eq_true, not_true_eq_false, false_implies, true_implies, implies_true, and_self, mB_0, mB_01, Classical.not_not, Nat.zero_le, List.getElem?_cons_zero, List.getElem?_cons_succ, List.set_cons_zero, List.set_cons_succ, ix_nl, ix_cs, true_and, and_true, Option.toList_some, Option.toList_none, List.cons_append, List.nil_append, h0]
  exact hT
theorem k_X10_think (l : Launch) : ix_Ct l yX10_think cX10_think 1 (some (.object "IndigoBoats$Water")) 2 sh_X10_think T_X10_think := ix_ct (a_X10_think l) rfl (by decide) (fun _ => Nat.le_of_ble_eq_true rfl) (fun x μ Q hok hT => r_X10_think x μ Q (ix_ok_at (hok (vr 9 x) (by simp [sh_X10_think])) (by decide) (by decide)) hT)
