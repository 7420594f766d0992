/-! ===== the model: a minute ===== -/
def nvI (r i : Nat) : Nat := if r = 0 then (if i = 7 then 1 else if i = 8 then 0 else 2) else if r = 1 then 18 + i else if r = 2 then 34 + i else if r = 3 then 6 + i else 50 + 4 * i + (r - 4)
/-- a water in the model's row -/
def nv (f : Nat → Int32) : WV := fun r i => if wok r i = true then f (nvI r i) else 0
theorem nv_at {f : Nat → Int32} {r i : Nat} (h : wok r i = true) : nv f r i = f (nvI r i) := if_pos h
section NV
variable (f : Nat → Int32)
theorem nv_07 : nv f 0 7 = f 1 := rfl
theorem nv_08 : nv f 0 8 = f 0 := rfl
theorem nv_09 : nv f 0 9 = f 2 := rfl
theorem nv_1 {i : Nat} (h : i < 16) : nv f 1 i = f (18 + i) := (nv_at (wok_1 h)).trans rfl
theorem nv_2 {i : Nat} (h : i < 16) : nv f 2 i = f (34 + i) := (nv_at (wok_2 h)).trans rfl
theorem nv_3 {i : Nat} (h : i < 6) : nv f 3 i = f (6 + i) := (nv_at (wok_3 h)).trans rfl
theorem nv_4 {i : Nat} (h : i < 8) : nv f 4 i = f (50 + 4 * i) := (nv_at (wok_4 h)).trans rfl
theorem nv_5 {i : Nat} (h : i < 8) : nv f 5 i = f (51 + 4 * i) := (nv_at (wok_5 h)).trans (by show f (50 + 4 * i + 1) = _; congr 1; omega)
theorem nv_6 {i : Nat} (h : i < 8) : nv f 6 i = f (52 + 4 * i) := (nv_at (wok_6 h)).trans (by show f (50 + 4 * i + 2) = _; congr 1; omega)
theorem nv_7 {i : Nat} (h : i < 8) : nv f 7 i = f (53 + 4 * i) := (nv_at (wok_7 h)).trans (by show f (50 + 4 * i + 3) = _; congr 1; omega)
end NV
def T_X11_isDipped : Nat × Int32 → ix_M → (ix_R → Prop) → Prop := fun (_, i) μ Q => ∃ b C, i = nI b ∧ b < 8 ∧ μ 113 (52 + 4 * b) = nI C ∧ C < 16 ∧
  Q (none, ix_up (ix_up μ 113 (34 + C) (μ 113 (34 + C) - mTake (mDips (μ 113 (50 + 4 * b)) (μ 113 (51 + 4 * b)) (μ 113 (34 + C))) (μ 113 (34 + C)) (μ 113 (53 + 4 * b)))) 113 (53 + 4 * b) (μ 113 (53 + 4 * b) + mTake (mDips (μ 113 (50 + 4 * b)) (μ 113 (51 + 4 * b)) (μ 113 (34 + C))) (μ 113 (34 + C)) (μ 113 (53 + 4 * b))))
def sh_X11_isDipped (x : Nat × Int32) : List ix_V := [vr 10 x.1, vi x.2]
theorem mo_X11_isDipped (x : Nat × Int32) (μ : ix_M) (Q Q' : ix_R → Prop) (h : ∀ r, Q r → Q' r) (hT : T_X11_isDipped x μ Q) : T_X11_isDipped x μ Q' := by
  obtain ⟨a0, a1⟩ := x
  (obtain ⟨b, C, h1, h2, h3, h4, h5⟩ := hT; exact ⟨b, C, h1, h2, h3, h4, h _ h5⟩)
def oc_X11_isDipped (n : Nat) : ix_Op := fun k _ ls st μ => match st with
  | .inl a1 :: .inr (.inr (t0, a0)) :: r => t0 = 10 ∧ ix_cs r ≤ 8 ∧ T_X11_isDipped (a0, a1) μ (fun q => k (n, ls, q.1.toList ++ r, q.2))
  | _ => False
theorem oc_X11_isDipped_s {l : Launch} {cc : ByteArray} {nL : Nat} {own : String} {d : Nat} {rt : Option FieldType} {pc n : Nat} (h : ix_S l cc nL own d rt pc (ix_call 2 sh_X11_isDipped T_X11_isDipped n)) : ix_S l cc nL own d rt pc (oc_X11_isDipped n) := by
  refine h.by (fun k Q ls st μ h => ?_) (fun k k' Q ls st μ hk h => ?_)
  · unfold oc_X11_isDipped at h
    split at h
    · rename_i a1 t0 a0 r
      obtain ⟨rfl, h1, h2⟩ := h
      exact ⟨h1, (a0, a1), rfl, _, h2, fun r h => h⟩
    · exact h.elim
  · unfold oc_X11_isDipped at h ⊢
    split at h
    · obtain ⟨rfl, h1, h2⟩ := h
      exact ⟨rfl, h1, mo_X11_isDipped _ _ _ _ (fun q hq => hk _ hq) h2⟩
    · exact h.elim
def o_X11_isDipped : List (Nat × ix_Op) := [
  (0, ix_push (vi 34) 2),
  (2, ix_aload 0 3),
  (3, ix_iload 1 4),
  (4, ix_push (vi 2) 5),
  (5, oc_X11_boatIs 8),
  (8, ix_bin (fun x y => x + y) 9),
  (9, ix_istore 2 10),
  (10, ix_aload 0 11),
  (11, ix_iload 1 12),
  (12, ix_aload 0 13),
  (13, ix_getr 10 20 (fun _ => 113) 16),
  (16, ix_iload 2 17),
  (17, ix_iald 18),
  (18, oc_X11_dips 21),
  (21, ix_aload 0 22),
  (22, ix_getr 10 20 (fun _ => 113) 25),
  (25, ix_iload 2 26),
  (26, ix_iald 27),
  (27, ix_push (vi 99) 29),
  (29, ix_aload 0 30),
  (30, ix_iload 1 31),
  (31, ix_push (vi 3) 32),
  (32, oc_X11_boatIs 35),
  (35, ix_bin (fun x y => x - y) 36),
  (36, ix_math2 (fun x y => if y < x then y else x) 39),
  (39, ix_math2 (fun x y => if y < x then y else x) 42),
  (42, ix_istore 3 43),
  (43, ix_aload 0 44),
  (44, ix_getr 10 20 (fun _ => 113) 47),
  (47, ix_iload 2 48),
  (48, ix_dup2 49),
  (49, ix_iald 50),
  (50, ix_iload 3 51),
  (51, ix_bin (fun x y => x - y) 52),
  (52, ix_iast 53),
  (53, ix_aload 0 54),
  (54, ix_getr 10 20 (fun _ => 113) 57),
  (57, ix_iload 1 58),
  (58, ix_push (vi 3) 59),
  (59, oc_X11_boatAt 62),
  (62, ix_dup2 63),
  (63, ix_iald 64),
  (64, ix_iload 3 65),
  (65, ix_bin (fun x y => x + y) 66),
  (66, ix_iast 67),
  (67, ix_vret)]
set_option maxRecDepth 20000 in
theorem a_X11_isDipped (l : Launch) : ix_AllS l cX11_isDipped 4 RX11 4 none o_X11_isDipped :=
  .cons (ix_s_bipush dX11_isDipped_0 (by decide +kernel)) <|
  .cons (ix_s_aload_n dX11_isDipped_2 rfl) <|
  .cons (ix_s_iload_n dX11_isDipped_3 rfl) <|
  .cons (ix_s_iconst dX11_isDipped_4 (by decide +kernel)) <|
  .cons (oc_X11_boatIs_s (ix_s_callv (t := 10) (k_X11_boatIs l) (by decide) (by decide) tw_1083 tw_12 tw_1080 tw_1082 tp_34 ⟨by decide, by decide, by decide +kernel⟩ (by decide) rfl rfl (fun _ => ⟨_, _, rfl, rfl⟩) dX11_isDipped_5)) <|
  .cons (ix_s_iadd dX11_isDipped_8) <|
  .cons (ix_s_istore_n dX11_isDipped_9 rfl (by decide)) <|
  .cons (ix_s_aload_n dX11_isDipped_10 rfl) <|
  .cons (ix_s_iload_n dX11_isDipped_11 rfl) <|
  .cons (ix_s_aload_n dX11_isDipped_12 rfl) <|
  .cons (ix_s_getr (j := 0) tu_X11 rfl (by decide) (by decide) tw_875 rfl ts_10_0_r dX11_isDipped_13) <|
  .cons (ix_s_iload_n dX11_isDipped_16 rfl) <|
  .cons (ix_s_iald dX11_isDipped_17) <|
  .cons (oc_X11_dips_s (ix_s_callv (t := 10) (k_X11_dips l) (by decide) (by decide) tw_1139 tw_12 tw_1136 tw_1138 tp_38 ⟨by decide, by decide, by decide +kernel⟩ (by decide) rfl rfl (fun _ => ⟨_, _, rfl, rfl⟩) dX11_isDipped_18)) <|
  .cons (ix_s_aload_n dX11_isDipped_21 rfl) <|
  .cons (ix_s_getr (j := 0) tu_X11 rfl (by decide) (by decide) tw_875 rfl ts_10_0_r dX11_isDipped_22) <|
  .cons (ix_s_iload_n dX11_isDipped_25 rfl) <|
  .cons (ix_s_iald dX11_isDipped_26) <|
  .cons (ix_s_bipush dX11_isDipped_27 (by decide +kernel)) <|
  .cons (ix_s_aload_n dX11_isDipped_29 rfl) <|
  .cons (ix_s_iload_n dX11_isDipped_30 rfl) <|
  .cons (ix_s_iconst dX11_isDipped_31 (by decide +kernel)) <|
  .cons (oc_X11_boatIs_s (ix_s_callv (t := 10) (k_X11_boatIs l) (by decide) (by decide) tw_1083 tw_12 tw_1080 tw_1082 tp_34 ⟨by decide, by decide, by decide +kernel⟩ (by decide) rfl rfl (fun _ => ⟨_, _, rfl, rfl⟩) dX11_isDipped_32)) <|
  .cons (ix_s_isub dX11_isDipped_35) <|
  .cons (ix_s_mmin tw_1056 tw_328 tw_7 tw_329 (by decide) dX11_isDipped_36) <|
  .cons (ix_s_mmin tw_1056 tw_328 tw_7 tw_329 (by decide) dX11_isDipped_39) <|
  .cons (ix_s_istore_n dX11_isDipped_42 rfl (by decide)) <|
  .cons (ix_s_aload_n dX11_isDipped_43 rfl) <|
  .cons (ix_s_getr (j := 0) tu_X11 rfl (by decide) (by decide) tw_875 rfl ts_10_0_r dX11_isDipped_44) <|
  .cons (ix_s_iload_n dX11_isDipped_47 rfl) <|
  .cons (ix_s_dup2 dX11_isDipped_48) <|
  .cons (ix_s_iald dX11_isDipped_49) <|
  .cons (ix_s_iload_n dX11_isDipped_50 rfl) <|
  .cons (ix_s_isub dX11_isDipped_51) <|
  .cons (ix_s_iast dX11_isDipped_52) <|
  .cons (ix_s_aload_n dX11_isDipped_53 rfl) <|
  .cons (ix_s_getr (j := 0) tu_X11 rfl (by decide) (by decide) tw_875 rfl ts_10_0_r dX11_isDipped_54) <|
  .cons (ix_s_iload_n dX11_isDipped_57 rfl) <|
  .cons (ix_s_iconst dX11_isDipped_58 (by decide +kernel)) <|
  .cons (oc_X11_boatAt_s (ix_s_calls (k_X11_boatAt l) (by decide) (by decide) tw_1086 tw_12 tw_1084 tw_1085 ⟨by decide, by decide, by decide +kernel⟩ (fun _ => rfl) dX11_isDipped_59)) <|
  .cons (ix_s_dup2 dX11_isDipped_62) <|
  .cons (ix_s_iald dX11_isDipped_63) <|
  .cons (ix_s_iload_n dX11_isDipped_64 rfl) <|
  .cons (ix_s_iadd dX11_isDipped_65) <|
  .cons (ix_s_iast dX11_isDipped_66) <|
  .cons (ix_s_vret dX11_isDipped_67 rfl) <| .nil
theorem e_X11_isDipped_0 (Q : ix_R → Prop) (ls : ix_L) (st : List ix_V) (μ : ix_M) : ix_Ev o_X11_isDipped Q (0, ls, st, μ) = ix_push (vi 34) 2 (ix_Ev o_X11_isDipped Q) Q ls st μ := ix_Ev.eq (a_X11_isDipped launch0) rfl ls st μ
theorem e_X11_isDipped_2 (Q : ix_R → Prop) (ls : ix_L) (st : List ix_V) (μ : ix_M) : ix_Ev o_X11_isDipped Q (2, ls, st, μ) = ix_aload 0 3 (ix_Ev o_X11_isDipped Q) Q ls st μ := ix_Ev.eq (a_X11_isDipped launch0) rfl ls st μ
theorem e_X11_isDipped_3 (Q : ix_R → Prop) (ls : ix_L) (st : List ix_V) (μ : ix_M) : ix_Ev o_X11_isDipped Q (3, ls, st, μ) = ix_iload 1 4 (ix_Ev o_X11_isDipped Q) Q ls st μ := ix_Ev.eq (a_X11_isDipped launch0) rfl ls st μ
theorem e_X11_isDipped_4 (Q : ix_R → Prop) (ls : ix_L) (st : List ix_V) (μ : ix_M) : ix_Ev o_X11_isDipped Q (4, ls, st, μ) = ix_push (vi 2) 5 (ix_Ev o_X11_isDipped Q) Q ls st μ := ix_Ev.eq (a_X11_isDipped launch0) rfl ls st μ
theorem e_X11_isDipped_5 (Q : ix_R → Prop) (ls : ix_L) (st : List ix_V) (μ : ix_M) : ix_Ev o_X11_isDipped Q (5, ls, st, μ) = oc_X11_boatIs 8 (ix_Ev o_X11_isDipped Q) Q ls st μ := ix_Ev.eq (a_X11_isDipped launch0) rfl ls st μ
theorem e_X11_isDipped_8 (Q : ix_R → Prop) (ls : ix_L) (st : List ix_V) (μ : ix_M) : ix_Ev o_X11_isDipped Q (8, ls, st, μ) = ix_bin (fun x y => x + y) 9 (ix_Ev o_X11_isDipped Q) Q ls st μ := ix_Ev.eq (a_X11_isDipped launch0) rfl ls st μ
theorem e_X11_isDipped_9 (Q : ix_R → Prop) (ls : ix_L) (st : List ix_V) (μ : ix_M) : ix_Ev o_X11_isDipped Q (9, ls, st, μ) = ix_istore 2 10 (ix_Ev o_X11_isDipped Q) Q ls st μ := ix_Ev.eq (a_X11_isDipped launch0) rfl ls st μ
theorem e_X11_isDipped_10 (Q : ix_R → Prop) (ls : ix_L) (st : List ix_V) (μ : ix_M) : ix_Ev o_X11_isDipped Q (10, ls, st, μ) = ix_aload 0 11 (ix_Ev o_X11_isDipped Q) Q ls st μ := ix_Ev.eq (a_X11_isDipped launch0) rfl ls st μ
theorem e_X11_isDipped_11 (Q : ix_R → Prop) (ls : ix_L) (st : List ix_V) (μ : ix_M) : ix_Ev o_X11_isDipped Q (11, ls, st, μ) = ix_iload 1 12 (ix_Ev o_X11_isDipped Q) Q ls st μ := ix_Ev.eq (a_X11_isDipped launch0) rfl ls st μ
theorem e_X11_isDipped_12 (Q : ix_R → Prop) (ls : ix_L) (st : List ix_V) (μ : ix_M) : ix_Ev o_X11_isDipped Q (12, ls, st, μ) = ix_aload 0 13 (ix_Ev o_X11_isDipped Q) Q ls st μ := ix_Ev.eq (a_X11_isDipped launch0) rfl ls st μ
theorem e_X11_isDipped_13 (Q : ix_R → Prop) (ls : ix_L) (st : List ix_V) (μ : ix_M) : ix_Ev o_X11_isDipped Q (13, ls, st, μ) = ix_getr 10 20 (fun _ => 113) 16 (ix_Ev o_X11_isDipped Q) Q ls st μ := ix_Ev.eq (a_X11_isDipped launch0) rfl ls st μ
theorem e_X11_isDipped_16 (Q : ix_R → Prop) (ls : ix_L) (st : List ix_V) (μ : ix_M) : ix_Ev o_X11_isDipped Q (16, ls, st, μ) = ix_iload 2 17 (ix_Ev o_X11_isDipped Q) Q ls st μ := ix_Ev.eq (a_X11_isDipped launch0) rfl ls st μ
theorem e_X11_isDipped_17 (Q : ix_R → Prop) (ls : ix_L) (st : List ix_V) (μ : ix_M) : ix_Ev o_X11_isDipped Q (17, ls, st, μ) = ix_iald 18 (ix_Ev o_X11_isDipped Q) Q ls st μ := ix_Ev.eq (a_X11_isDipped launch0) rfl ls st μ
theorem e_X11_isDipped_18 (Q : ix_R → Prop) (ls : ix_L) (st : List ix_V) (μ : ix_M) : ix_Ev o_X11_isDipped Q (18, ls, st, μ) = oc_X11_dips 21 (ix_Ev o_X11_isDipped Q) Q ls st μ := ix_Ev.eq (a_X11_isDipped launch0) rfl ls st μ
theorem e_X11_isDipped_21 (Q : ix_R → Prop) (ls : ix_L) (st : List ix_V) (μ : ix_M) : ix_Ev o_X11_isDipped Q (21, ls, st, μ) = ix_aload 0 22 (ix_Ev o_X11_isDipped Q) Q ls st μ := ix_Ev.eq (a_X11_isDipped launch0) rfl ls st μ
theorem e_X11_isDipped_22 (Q : ix_R → Prop) (ls : ix_L) (st : List ix_V) (μ : ix_M) : ix_Ev o_X11_isDipped Q (22, ls, st, μ) = ix_getr 10 20 (fun _ => 113) 25 (ix_Ev o_X11_isDipped Q) Q ls st μ := ix_Ev.eq (a_X11_isDipped launch0) rfl ls st μ
theorem e_X11_isDipped_25 (Q : ix_R → Prop) (ls : ix_L) (st : List ix_V) (μ : ix_M) : ix_Ev o_X11_isDipped Q (25, ls, st, μ) = ix_iload 2 26 (ix_Ev o_X11_isDipped Q) Q ls st μ := ix_Ev.eq (a_X11_isDipped launch0) rfl ls st μ
theorem e_X11_isDipped_26 (Q : ix_R → Prop) (ls : ix_L) (st : List ix_V) (μ : ix_M) : ix_Ev o_X11_isDipped Q (26, ls, st, μ) = ix_iald 27 (ix_Ev o_X11_isDipped Q) Q ls st μ := ix_Ev.eq (a_X11_isDipped launch0) rfl ls st μ
theorem e_X11_isDipped_27 (Q : ix_R → Prop) (ls : ix_L) (st : List ix_V) (μ : ix_M) : ix_Ev o_X11_isDipped Q (27, ls, st, μ) = ix_push (vi 99) 29 (ix_Ev o_X11_isDipped Q) Q ls st μ := ix_Ev.eq (a_X11_isDipped launch0) rfl ls st μ
theorem e_X11_isDipped_29 (Q : ix_R → Prop) (ls : ix_L) (st : List ix_V) (μ : ix_M) : ix_Ev o_X11_isDipped Q (29, ls, st, μ) = ix_aload 0 30 (ix_Ev o_X11_isDipped Q) Q ls st μ := ix_Ev.eq (a_X11_isDipped launch0) rfl ls st μ
theorem e_X11_isDipped_30 (Q : ix_R → Prop) (ls : ix_L) (st : List ix_V) (μ : ix_M) : ix_Ev o_X11_isDipped Q (30, ls, st, μ) = ix_iload 1 31 (ix_Ev o_X11_isDipped Q) Q ls st μ := ix_Ev.eq (a_X11_isDipped launch0) rfl ls st μ
theorem e_X11_isDipped_31 (Q : ix_R → Prop) (ls : ix_L) (st : List ix_V) (μ : ix_M) : ix_Ev o_X11_isDipped Q (31, ls, st, μ) = ix_push (vi 3) 32 (ix_Ev o_X11_isDipped Q) Q ls st μ := ix_Ev.eq (a_X11_isDipped launch0) rfl ls st μ
theorem e_X11_isDipped_32 (Q : ix_R → Prop) (ls : ix_L) (st : List ix_V) (μ : ix_M) : ix_Ev o_X11_isDipped Q (32, ls, st, μ) = oc_X11_boatIs 35 (ix_Ev o_X11_isDipped Q) Q ls st μ := ix_Ev.eq (a_X11_isDipped launch0) rfl ls st μ
theorem e_X11_isDipped_35 (Q : ix_R → Prop) (ls : ix_L) (st : List ix_V) (μ : ix_M) : ix_Ev o_X11_isDipped Q (35, ls, st, μ) = ix_bin (fun x y => x - y) 36 (ix_Ev o_X11_isDipped Q) Q ls st μ := ix_Ev.eq (a_X11_isDipped launch0) rfl ls st μ
theorem e_X11_isDipped_36 (Q : ix_R → Prop) (ls : ix_L) (st : List ix_V) (μ : ix_M) : ix_Ev o_X11_isDipped Q (36, ls, st, μ) = ix_math2 (fun x y => if y < x then y else x) 39 (ix_Ev o_X11_isDipped Q) Q ls st μ := ix_Ev.eq (a_X11_isDipped launch0) rfl ls st μ
theorem e_X11_isDipped_39 (Q : ix_R → Prop) (ls : ix_L) (st : List ix_V) (μ : ix_M) : ix_Ev o_X11_isDipped Q (39, ls, st, μ) = ix_math2 (fun x y => if y < x then y else x) 42 (ix_Ev o_X11_isDipped Q) Q ls st μ := ix_Ev.eq (a_X11_isDipped launch0) rfl ls st μ
theorem e_X11_isDipped_42 (Q : ix_R → Prop) (ls : ix_L) (st : List ix_V) (μ : ix_M) : ix_Ev o_X11_isDipped Q (42, ls, st, μ) = ix_istore 3 43 (ix_Ev o_X11_isDipped Q) Q ls st μ := ix_Ev.eq (a_X11_isDipped launch0) rfl ls st μ
theorem e_X11_isDipped_43 (Q : ix_R → Prop) (ls : ix_L) (st : List ix_V) (μ : ix_M) : ix_Ev o_X11_isDipped Q (43, ls, st, μ) = ix_aload 0 44 (ix_Ev o_X11_isDipped Q) Q ls st μ := ix_Ev.eq (a_X11_isDipped launch0) rfl ls st μ
theorem e_X11_isDipped_44 (Q : ix_R → Prop) (ls : ix_L) (st : List ix_V) (μ : ix_M) : ix_Ev o_X11_isDipped Q (44, ls, st, μ) = ix_getr 10 20 (fun _ => 113) 47 (ix_Ev o_X11_isDipped Q) Q ls st μ := ix_Ev.eq (a_X11_isDipped launch0) rfl ls st μ
theorem e_X11_isDipped_47 (Q : ix_R → Prop) (ls : ix_L) (st : List ix_V) (μ : ix_M) : ix_Ev o_X11_isDipped Q (47, ls, st, μ) = ix_iload 2 48 (ix_Ev o_X11_isDipped Q) Q ls st μ := ix_Ev.eq (a_X11_isDipped launch0) rfl ls st μ
theorem e_X11_isDipped_48 (Q : ix_R → Prop) (ls : ix_L) (st : List ix_V) (μ : ix_M) : ix_Ev o_X11_isDipped Q (48, ls, st, μ) = ix_dup2 49 (ix_Ev o_X11_isDipped Q) Q ls st μ := ix_Ev.eq (a_X11_isDipped launch0) rfl ls st μ
theorem e_X11_isDipped_49 (Q : ix_R → Prop) (ls : ix_L) (st : List ix_V) (μ : ix_M) : ix_Ev o_X11_isDipped Q (49, ls, st, μ) = ix_iald 50 (ix_Ev o_X11_isDipped Q) Q ls st μ := ix_Ev.eq (a_X11_isDipped launch0) rfl ls st μ
theorem e_X11_isDipped_50 (Q : ix_R → Prop) (ls : ix_L) (st : List ix_V) (μ : ix_M) : ix_Ev o_X11_isDipped Q (50, ls, st, μ) = ix_iload 3 51 (ix_Ev o_X11_isDipped Q) Q ls st μ := ix_Ev.eq (a_X11_isDipped launch0) rfl ls st μ
theorem e_X11_isDipped_51 (Q : ix_R → Prop) (ls : ix_L) (st : List ix_V) (μ : ix_M) : ix_Ev o_X11_isDipped Q (51, ls, st, μ) = ix_bin (fun x y => x - y) 52 (ix_Ev o_X11_isDipped Q) Q ls st μ := ix_Ev.eq (a_X11_isDipped launch0) rfl ls st μ
theorem e_X11_isDipped_52 (Q : ix_R → Prop) (ls : ix_L) (st : List ix_V) (μ : ix_M) : ix_Ev o_X11_isDipped Q (52, ls, st, μ) = ix_iast 53 (ix_Ev o_X11_isDipped Q) Q ls st μ := ix_Ev.eq (a_X11_isDipped launch0) rfl ls st μ
theorem e_X11_isDipped_53 (Q : ix_R → Prop) (ls : ix_L) (st : List ix_V) (μ : ix_M) : ix_Ev o_X11_isDipped Q (53, ls, st, μ) = ix_aload 0 54 (ix_Ev o_X11_isDipped Q) Q ls st μ := ix_Ev.eq (a_X11_isDipped launch0) rfl ls st μ
theorem e_X11_isDipped_54 (Q : ix_R → Prop) (ls : ix_L) (st : List ix_V) (μ : ix_M) : ix_Ev o_X11_isDipped Q (54, ls, st, μ) = ix_getr 10 20 (fun _ => 113) 57 (ix_Ev o_X11_isDipped Q) Q ls st μ := ix_Ev.eq (a_X11_isDipped launch0) rfl ls st μ
theorem e_X11_isDipped_57 (Q : ix_R → Prop) (ls : ix_L) (st : List ix_V) (μ : ix_M) : ix_Ev o_X11_isDipped Q (57, ls, st, μ) = ix_iload 1 58 (ix_Ev o_X11_isDipped Q) Q ls st μ := ix_Ev.eq (a_X11_isDipped launch0) rfl ls st μ
theorem e_X11_isDipped_58 (Q : ix_R → Prop) (ls : ix_L) (st : List ix_V) (μ : ix_M) : ix_Ev o_X11_isDipped Q (58, ls, st, μ) = ix_push (vi 3) 59 (ix_Ev o_X11_isDipped Q) Q ls st μ := ix_Ev.eq (a_X11_isDipped launch0) rfl ls st μ
theorem e_X11_isDipped_59 (Q : ix_R → Prop) (ls : ix_L) (st : List ix_V) (μ : ix_M) : ix_Ev o_X11_isDipped Q (59, ls, st, μ) = oc_X11_boatAt 62 (ix_Ev o_X11_isDipped Q) Q ls st μ := ix_Ev.eq (a_X11_isDipped launch0) rfl ls st μ
theorem e_X11_isDipped_62 (Q : ix_R → Prop) (ls : ix_L) (st : List ix_V) (μ : ix_M) : ix_Ev o_X11_isDipped Q (62, ls, st, μ) = ix_dup2 63 (ix_Ev o_X11_isDipped Q) Q ls st μ := ix_Ev.eq (a_X11_isDipped launch0) rfl ls st μ
theorem e_X11_isDipped_63 (Q : ix_R → Prop) (ls : ix_L) (st : List ix_V) (μ : ix_M) : ix_Ev o_X11_isDipped Q (63, ls, st, μ) = ix_iald 64 (ix_Ev o_X11_isDipped Q) Q ls st μ := ix_Ev.eq (a_X11_isDipped launch0) rfl ls st μ
theorem e_X11_isDipped_64 (Q : ix_R → Prop) (ls : ix_L) (st : List ix_V) (μ : ix_M) : ix_Ev o_X11_isDipped Q (64, ls, st, μ) = ix_iload 3 65 (ix_Ev o_X11_isDipped Q) Q ls st μ := ix_Ev.eq (a_X11_isDipped launch0) rfl ls st μ
theorem e_X11_isDipped_65 (Q : ix_R → Prop) (ls : ix_L) (st : List ix_V) (μ : ix_M) : ix_Ev o_X11_isDipped Q (65, ls, st, μ) = ix_bin (fun x y => x + y) 66 (ix_Ev o_X11_isDipped Q) Q ls st μ := ix_Ev.eq (a_X11_isDipped launch0) rfl ls st μ
theorem e_X11_isDipped_66 (Q : ix_R → Prop) (ls : ix_L) (st : List ix_V) (μ : ix_M) : ix_Ev o_X11_isDipped Q (66, ls, st, μ) = ix_iast 67 (ix_Ev o_X11_isDipped Q) Q ls st μ := ix_Ev.eq (a_X11_isDipped launch0) rfl ls st μ
theorem e_X11_isDipped_67 (Q : ix_R → Prop) (ls : ix_L) (st : List ix_V) (μ : ix_M) : ix_Ev o_X11_isDipped Q (67, ls, st, μ) = ix_vret (ix_Ev o_X11_isDipped Q) Q ls st μ := ix_Ev.eq (a_X11_isDipped launch0) rfl ls st μ
theorem mTake_eq (d s r : Int32) : (if d < (if s < 99 - r then s else 99 - r) then d else (if s < 99 - r then s else 99 - r)) = mTake d s r := by
  unfold mTake
  have e : (if s < 99 - r then s else 99 - r) = (if 99 - r < s then 99 - r else s) := by
    by_cases h : s < 99 - r
    · rw [if_pos h, if_neg (by rw [fa_lt] at h ⊢; omega)]
    · rw [if_neg h]
      by_cases h2 : 99 - r < s
      · rw [if_pos h2]
      · rw [if_neg h2, fa_eq]
        rw [fa_lt] at h h2
        omega
  rw [e]
  by_cases h : d < (if 99 - r < s then 99 - r else s)
  · rw [if_pos h, if_neg (by rw [fa_lt] at h ⊢; omega)]
  · rw [if_neg h]
    by_cases h2 : (if 99 - r < s then 99 - r else s) < d
    · rw [if_pos h2]
    · rw [if_neg h2, fa_eq]
      rw [fa_lt] at h h2
      omega
theorem r_X11_isDipped (o : Nat) (i : Int32) (μ : ix_M) (Q : ix_R → Prop) (ok_o : o < ix_N ∧ ix_tag o = 10) (hT : T_X11_isDipped (o, i) μ Q) : ix_Ev o_X11_isDipped Q (0, [some (vr 10 o), some (vi i), none, none], [], μ) := by
  obtain rfl := ok_10 o ok_o.1 ok_o.2
  obtain ⟨b, C, rfl, hb, hC, hC16, hQ⟩ := hT
  have hx := bx b hb
  have h34 : 34 + nI C = nI (34 + C) := nI_add 34 C
  have i34 : vp_in (nI (34 + C)) 256 := vp_in_nI (by omega) (by decide)
  have c34 : (nI (34 + C)).toNatClampNeg = 34 + C := nI_clamp (by omega)
  simp (decide := true) only [e_X11_isDipped_0, e_X11_isDipped_2, e_X11_isDipped_3, e_X11_isDipped_4, e_X11_isDipped_5, e_X11_isDipped_8, e_X11_isDipped_9, e_X11_isDipped_10, e_X11_isDipped_11, e_X11_isDipped_12, e_X11_isDipped_13, e_X11_isDipped_16, e_X11_isDipped_17, e_X11_isDipped_18, e_X11_isDipped_21, e_X11_isDipped_22, e_X11_isDipped_25, e_X11_isDipped_26, e_X11_isDipped_27, e_X11_isDipped_29, e_X11_isDipped_30, e_X11_isDipped_31, e_X11_isDipped_32, e_X11_isDipped_35, e_X11_isDipped_36, e_X11_isDipped_39, e_X11_isDipped_42, e_X11_isDipped_43, e_X11_isDipped_44, e_X11_isDipped_47, e_X11_isDipped_48, e_X11_isDipped_49, e_X11_isDipped_50, e_X11_isDipped_51, e_X11_isDipped_52, e_X11_isDipped_53, e_X11_isDipped_54, e_X11_isDipped_57, e_X11_isDipped_58, e_X11_isDipped_59, e_X11_isDipped_62, e_X11_isDipped_63, e_X11_isDipped_64, e_X11_isDipped_65, e_X11_isDipped_66, e_X11_isDipped_67, vi, vl, vr, oc_X11_boatAt, T_X11_boatAt, oc_X11_boatIs, T_X11_boatIs, oc_X11_dips, T_X11_dips, ix_push, ix_iload, ix_lload, ix_aload, ix_istore, ix_astore, ix_iinc, ix_bin, ix_div, ix_un, ix_i2l, ix_l2i, ix_lbin, ix_lsh, ix_lcmp, ix_dup, ix_dup2, ix_pop, ix_if, ix_cmp, ix_goto, ix_switch, ix_sw, ix_iret, ix_zret, ix_vret, ix_aret, ix_geti, ix_getr, ix_puti, ix_putz, ix_puts, ix_gets, ix_iald, ix_iast, ix_alen, ix_aald, ix_gval, ix_gcod, ix_bald, ix_blen, ix_sald, ix_nret, ix_math2, ix_math1, ix_acopy, ml_113, ml_114, ml_115, ml_116, ml_118, ml_119, ml_120, ml_121, ml_122, ml_123, ml_124, ml_125, ml_126, mv_0, mv_1, mv_2, mv_3, mv_4, mv_5, mB_or, Nat.add_assoc, Int32.reduceLT, Int32.reduceLE, Int32.reduceToNatClampNeg, Int32.reduceSub, Int32.reduceAdd, Nat.reduceAdd, Nat.reduceLeDiff, true_or, or_true, or_false, false_or, not_false_eq_true, not_true_eq_false, false_implies, true_implies, implies_true, and_self, mB_0, mB_01, Classical.not_not, Nat.zero_le, List.getElem?_cons_zero, List.getElem?_cons_succ, List.set_cons_zero, List.set_cons_succ, ix_nl, ix_cs, true_and, and_true, Option.toList_some, Option.toList_none, List.cons_append, List.nil_append, hx, hC, h34, i34, c34]
  refine ⟨b, rfl, hb, ?_⟩
  have e : ∀ x, ix_up μ 113 (34 + C) x 113 (53 + 4 * b) = μ 113 (53 + 4 * b) := fun x => by rw [ix_up_ap, if_neg (by omega)]
  simp only [mTake_eq, e]
  exact hQ
theorem k_X11_isDipped (l : Launch) : ix_Ct l yX11_isDipped cX11_isDipped 4 none 4 sh_X11_isDipped T_X11_isDipped := ix_ct (a_X11_isDipped l) rfl (by decide) (fun _ => Nat.le_of_ble_eq_true rfl) (fun x μ Q hok hT => r_X11_isDipped x.1 x.2 μ Q (ix_ok_at (hok (vr 10 x.1) (by simp [sh_X11_isDipped])) (by decide) (by decide)) hT)
def MI (f f1 : Nat → Int32) (st at1 ba : Nat → Int32) : Prop := (∀ c, c < 16 → f1 (34 + c) = st c) ∧ (∀ b, b < 8 → f1 (52 + 4 * b) = at1 b) ∧ (∀ b, b < 8 → f1 (53 + 4 * b) = ba b) ∧ ∀ j, (j < 34 ∨ 82 ≤ j ∨ (50 ≤ j ∧ j < 82 ∧ (j - 50) % 4 < 2)) → f1 j = f j
theorem upd_ne {g : Nat → Int32} {i j : Nat} {x : Int32} (h : j ≠ i) : upd g i x j = g j := by unfold upd; rw [if_neg h]
theorem upd_eq {g : Nat → Int32} {i : Nat} {x : Int32} : upd g i x i = x := by unfold upd; rw [if_pos rfl]
theorem MI.st {f f1 st at1 ba : Nat → Int32} (h : MI f f1 st at1 ba) {c : Nat} (hc : c < 16) (x : Int32) : MI f (upd f1 (34 + c) x) (upd st c x) at1 ba := by
  refine ⟨fun i hi => ?_, fun i hi => ?_, fun i hi => ?_, fun j hj => ?_⟩
  · by_cases e : i = c
    · rw [e, upd_eq, upd_eq]
    · rw [upd_ne (by omega), upd_ne e]
      exact h.1 i hi
  · rw [upd_ne (by omega)]; exact h.2.1 i hi
  · rw [upd_ne (by omega)]; exact h.2.2.1 i hi
  · rw [upd_ne (by omega)]; exact h.2.2.2 j hj
theorem MI.at {f f1 st at1 ba : Nat → Int32} (h : MI f f1 st at1 ba) {c : Nat} (hc : c < 8) (x : Int32) : MI f (upd f1 (52 + 4 * c) x) st (upd at1 c x) ba := by
  refine ⟨fun i hi => ?_, fun i hi => ?_, fun i hi => ?_, fun j hj => ?_⟩
  · rw [upd_ne (by omega)]; exact h.1 i hi
  · by_cases e : i = c
    · rw [e, upd_eq, upd_eq]
    · rw [upd_ne (by omega), upd_ne e]
      exact h.2.1 i hi
  · rw [upd_ne (by omega)]; exact h.2.2.1 i hi
  · rw [upd_ne (by omega)]; exact h.2.2.2 j hj
theorem MI.ba {f f1 st at1 ba : Nat → Int32} (h : MI f f1 st at1 ba) {c : Nat} (hc : c < 8) (x : Int32) : MI f (upd f1 (53 + 4 * c) x) st at1 (upd ba c x) := by
  refine ⟨fun i hi => ?_, fun i hi => ?_, fun i hi => ?_, fun j hj => ?_⟩
  · rw [upd_ne (by omega)]; exact h.1 i hi
  · rw [upd_ne (by omega)]; exact h.2.1 i hi
  · by_cases e : i = c
    · rw [e, upd_eq, upd_eq]
    · rw [upd_ne (by omega), upd_ne e]
      exact h.2.2.1 i hi
  · rw [upd_ne (by omega)]; exact h.2.2.2 j hj
theorem TxtM.fx {f f1 : Nat → Int32} {t : Nat} {ds : List Int32} (h : TxtM f t ds) (ht : 82 ≤ t) (he : ∀ j, 82 ≤ j → f1 j = f j) : TxtM f1 t ds := ⟨⟨by rw [he t ht]; exact h.1.1, h.1.2.1, fun j hj => by rw [he _ (by omega)]; exact h.1.2.2 j hj⟩, h.2⟩
/-- ways are ways -/
def WyOk (v : WV) : Prop := ∀ i, i < 6 → ∃ x : Nat, x < 5 ∧ v 3 i = nI x
def rst (j : Nat) : Prop := (3 ≤ j ∧ j ≤ 5) ∨ (12 ≤ j ∧ j ≤ 17) ∨ 82 ≤ j
def T_X11_minute : Nat → ix_M → (ix_R → Prop) → Prop := fun _ μ Q => WOk (nv (μ 113)) ∧ WyOk (nv (μ 113)) ∧ ∃ ds dl, TxtM (μ 113) 152 ds ∧ TxtM (μ 113) 204 dl ∧ ∀ μ', Fx [113, 119, 120] μ μ' → nv (μ' 113) = pV ds dl (μ 112 5) (μ 112 6) (nv (μ 113)) → (∀ j, rst j → μ' 113 j = μ 113 j) → Q (none, μ')
def sh_X11_minute (x : Nat) : List ix_V := [vr 10 x]
theorem mo_X11_minute (x : Nat) (μ : ix_M) (Q Q' : ix_R → Prop) (h : ∀ r, Q r → Q' r) (hT : T_X11_minute x μ Q) : T_X11_minute x μ Q' := by
  (obtain ⟨h0, h0', ds, dl, h1, h2, h3⟩ := hT; exact ⟨h0, h0', ds, dl, h1, h2, fun μ' a b c => h _ (h3 μ' a b c)⟩)
def oc_X11_minute (n : Nat) : ix_Op := fun k _ ls st μ => match st with
  | .inr (.inr (t0, a0)) :: r => t0 = 10 ∧ ix_cs r ≤ 8 ∧ T_X11_minute a0 μ (fun q => k (n, ls, q.1.toList ++ r, q.2))
  | _ => False
theorem oc_X11_minute_s {l : Launch} {cc : ByteArray} {nL : Nat} {own : String} {d : Nat} {rt : Option FieldType} {pc n : Nat} (h : ix_S l cc nL own d rt pc (ix_call 1 sh_X11_minute T_X11_minute n)) : ix_S l cc nL own d rt pc (oc_X11_minute n) := by
  refine h.by (fun k Q ls st μ h => ?_) (fun k k' Q ls st μ hk h => ?_)
  · unfold oc_X11_minute at h
    split at h
    · rename_i t0 a0 r
      obtain ⟨rfl, h1, h2⟩ := h
      exact ⟨h1, a0, rfl, _, h2, fun r h => h⟩
    · exact h.elim
  · unfold oc_X11_minute at h ⊢
    split at h
    · obtain ⟨rfl, h1, h2⟩ := h
      exact ⟨rfl, h1, mo_X11_minute _ _ _ _ (fun q hq => hk _ hq) h2⟩
    · exact h.elim
def o_X11_minute : List (Nat × ix_Op) := [
  (0, ix_aload 0 1),
  (1, oc_X11_isDark 4),
  (4, ix_istore 1 5),
  (5, ix_push (vi 0) 6),
  (6, ix_istore 2 7),
  (7, ix_iload 2 8),
  (8, ix_push (vi 16) 10),
  (10, ix_cmp (fun x y => y ≤ x) 58 13),
  (13, ix_aload 0 14),
  (14, ix_getr 10 20 (fun _ => 113) 17),
  (17, ix_push (vi 34) 19),
  (19, ix_iload 2 20),
  (20, ix_bin (fun x y => x + y) 21),
  (21, ix_aload 0 22),
  (22, ix_getr 10 20 (fun _ => 113) 25),
  (25, ix_push (vi 34) 27),
  (27, ix_iload 2 28),
  (28, ix_bin (fun x y => x + y) 29),
  (29, ix_iald 30),
  (30, ix_iload 1 31),
  (31, ix_if (fun x => x = 0) 42 34),
  (34, ix_aload 0 35),
  (35, ix_iload 2 36),
  (36, oc_X11_settles 39),
  (39, ix_goto 44),
  (42, ix_push (vi (-7)) 44),
  (44, ix_bin (fun x y => x + y) 45),
  (45, ix_push (vi 0) 46),
  (46, ix_push (vi 99) 48),
  (48, oc_X11_held 51),
  (51, ix_iast 52),
  (52, ix_iinc 2 1 55),
  (55, ix_goto 7),
  (58, ix_push (vi 0) 59),
  (59, ix_istore 2 60),
  (60, ix_iload 2 61),
  (61, ix_aload 0 62),
  (62, ix_getr 10 20 (fun _ => 113) 65),
  (65, ix_push (vi 1) 66),
  (66, ix_iald 67),
  (67, ix_cmp (fun x y => y ≤ x) 81 70),
  (70, ix_aload 0 71),
  (71, ix_iload 2 72),
  (72, oc_X11_isDipped 75),
  (75, ix_iinc 2 1 78),
  (78, ix_goto 60),
  (81, ix_push (vi 0) 82),
  (82, ix_istore 2 83),
  (83, ix_iload 2 84),
  (84, ix_aload 0 85),
  (85, ix_getr 10 20 (fun _ => 113) 88),
  (88, ix_push (vi 1) 89),
  (89, ix_iald 90),
  (90, ix_cmp (fun x y => y ≤ x) 170 93),
  (93, ix_iload 2 94),
  (94, ix_aload 0 95),
  (95, ix_geti 10 5 98),
  (98, ix_cmp (fun x y => x = y) 101 108),
  (101, ix_aload 0 102),
  (102, ix_geti 10 6 105),
  (105, ix_goto 117),
  (108, ix_aload 0 109),
  (109, ix_iload 2 110),
  (110, ix_aload 0 111),
  (111, oc_X11_wayNow 114),
  (114, oc_X11_goes 117),
  (117, ix_istore 3 118),
  (118, ix_aload 0 119),
  (119, ix_getr 10 20 (fun _ => 113) 122),
  (122, ix_iload 2 123),
  (123, ix_push (vi 2) 124),
  (124, oc_X11_boatAt 127),
  (127, ix_aload 0 128),
  (128, ix_iload 2 129),
  (129, ix_push (vi 2) 130),
  (130, oc_X11_boatIs 133),
  (133, ix_iload 3 134),
  (134, oc_X11_next 137),
  (137, ix_iast 138),
  (138, ix_aload 0 139),
  (139, ix_getr 10 20 (fun _ => 113) 142),
  (142, ix_iload 2 143),
  (143, ix_push (vi 3) 144),
  (144, oc_X11_boatAt 147),
  (147, ix_push (vi 0) 148),
  (148, ix_aload 0 149),
  (149, ix_iload 2 150),
  (150, ix_push (vi 3) 151),
  (151, oc_X11_boatIs 154),
  (154, ix_aload 0 155),
  (155, ix_iload 2 156),
  (156, oc_X11_lost 159),
  (159, ix_bin (fun x y => x - y) 160),
  (160, ix_math2 (fun x y => if x < y then y else x) 163),
  (163, ix_iast 164),
  (164, ix_iinc 2 1 167),
  (167, ix_goto 83),
  (170, ix_aload 0 171),
  (171, ix_getr 10 20 (fun _ => 113) 174),
  (174, ix_push (vi 0) 175),
  (175, ix_dup2 176),
  (176, ix_iald 177),
  (177, ix_push (vi 1) 178),
  (178, ix_bin (fun x y => x + y) 179),
  (179, ix_iast 180),
  (180, ix_vret)]
set_option maxRecDepth 20000 in
theorem a_X11_minute (l : Launch) : ix_AllS l cX11_minute 4 RX11 5 none o_X11_minute :=
  .cons (ix_s_aload_n dX11_minute_0 rfl) <|
  .cons (oc_X11_isDark_s (ix_s_callv (t := 10) (k_X11_isDark l) (by decide) (by decide) tw_1159 tw_12 tw_1156 tw_1158 tp_43 ⟨by decide, by decide, by decide +kernel⟩ (by decide) rfl rfl (fun _ => ⟨_, _, rfl, rfl⟩) dX11_minute_1)) <|
  .cons (ix_s_istore_n dX11_minute_4 rfl (by decide)) <|
  .cons (ix_s_iconst dX11_minute_5 (by decide +kernel)) <|
  .cons (ix_s_istore_n dX11_minute_6 rfl (by decide)) <|
  .cons (ix_s_iload_n dX11_minute_7 rfl) <|
  .cons (ix_s_bipush dX11_minute_8 (by decide +kernel)) <|
  .cons (ix_s_cmp_ge dX11_minute_10 (by decide)) <|
  .cons (ix_s_aload_n dX11_minute_13 rfl) <|
  .cons (ix_s_getr (j := 0) tu_X11 rfl (by decide) (by decide) tw_875 rfl ts_10_0_r dX11_minute_14) <|
  .cons (ix_s_bipush dX11_minute_17 (by decide +kernel)) <|
  .cons (ix_s_iload_n dX11_minute_19 rfl) <|
  .cons (ix_s_iadd dX11_minute_20) <|
  .cons (ix_s_aload_n dX11_minute_21 rfl) <|
  .cons (ix_s_getr (j := 0) tu_X11 rfl (by decide) (by decide) tw_875 rfl ts_10_0_r dX11_minute_22) <|
  .cons (ix_s_bipush dX11_minute_25 (by decide +kernel)) <|
  .cons (ix_s_iload_n dX11_minute_27 rfl) <|
  .cons (ix_s_iadd dX11_minute_28) <|
  .cons (ix_s_iald dX11_minute_29) <|
  .cons (ix_s_iload_n dX11_minute_30 rfl) <|
  .cons (ix_s_if_eq dX11_minute_31 (by decide)) <|
  .cons (ix_s_aload_n dX11_minute_34 rfl) <|
  .cons (ix_s_iload_n dX11_minute_35 rfl) <|
  .cons (oc_X11_settles_s (ix_s_callv (t := 10) (k_X11_settles l) (by decide) (by decide) tw_1090 tw_12 tw_1087 tw_1089 tp_35 ⟨by decide, by decide, by decide +kernel⟩ (by decide) rfl rfl (fun _ => ⟨_, _, rfl, rfl⟩) dX11_minute_36)) <|
  .cons (ix_s_goto dX11_minute_39 (by decide)) <|
  .cons (ix_s_bipush dX11_minute_42 (by decide +kernel)) <|
  .cons (ix_s_iadd dX11_minute_44) <|
  .cons (ix_s_iconst dX11_minute_45 (by decide +kernel)) <|
  .cons (ix_s_bipush dX11_minute_46 (by decide +kernel)) <|
  .cons (oc_X11_held_s (ix_s_calls (k_X11_held l) (by decide) (by decide) tw_1055 tw_12 tw_1053 tw_1054 ⟨by decide, by decide, by decide +kernel⟩ (fun _ => rfl) dX11_minute_48)) <|
  .cons (ix_s_iast dX11_minute_51) <|
  .cons (ix_s_iinc dX11_minute_52 (by decide +kernel) (by decide)) <|
  .cons (ix_s_goto dX11_minute_55 (by decide)) <|
  .cons (ix_s_iconst dX11_minute_58 (by decide +kernel)) <|
  .cons (ix_s_istore_n dX11_minute_59 rfl (by decide)) <|
  .cons (ix_s_iload_n dX11_minute_60 rfl) <|
  .cons (ix_s_aload_n dX11_minute_61 rfl) <|
  .cons (ix_s_getr (j := 0) tu_X11 rfl (by decide) (by decide) tw_875 rfl ts_10_0_r dX11_minute_62) <|
  .cons (ix_s_iconst dX11_minute_65 (by decide +kernel)) <|
  .cons (ix_s_iald dX11_minute_66) <|
  .cons (ix_s_cmp_ge dX11_minute_67 (by decide)) <|
  .cons (ix_s_aload_n dX11_minute_70 rfl) <|
  .cons (ix_s_iload_n dX11_minute_71 rfl) <|
  .cons (oc_X11_isDipped_s (ix_s_callv (t := 10) (k_X11_isDipped l) (by decide) (by decide) tw_1195 tw_12 tw_1192 tw_1194 tp_46 ⟨by decide, by decide, by decide +kernel⟩ (by decide) rfl rfl (fun _ => ⟨_, _, rfl, rfl⟩) dX11_minute_72)) <|
  .cons (ix_s_iinc dX11_minute_75 (by decide +kernel) (by decide)) <|
  .cons (ix_s_goto dX11_minute_78 (by decide)) <|
  .cons (ix_s_iconst dX11_minute_81 (by decide +kernel)) <|
  .cons (ix_s_istore_n dX11_minute_82 rfl (by decide)) <|
  .cons (ix_s_iload_n dX11_minute_83 rfl) <|
  .cons (ix_s_aload_n dX11_minute_84 rfl) <|
  .cons (ix_s_getr (j := 0) tu_X11 rfl (by decide) (by decide) tw_875 rfl ts_10_0_r dX11_minute_85) <|
  .cons (ix_s_iconst dX11_minute_88 (by decide +kernel)) <|
  .cons (ix_s_iald dX11_minute_89) <|
  .cons (ix_s_cmp_ge dX11_minute_90 (by decide)) <|
  .cons (ix_s_iload_n dX11_minute_93 rfl) <|
  .cons (ix_s_aload_n dX11_minute_94 rfl) <|
  .cons (ix_s_geti (j := 5) tu_X11 rfl (by decide) (by decide) tw_880 rfl ts_10_5_i dX11_minute_95) <|
  .cons (ix_s_cmp_ne dX11_minute_98 (by decide)) <|
  .cons (ix_s_aload_n dX11_minute_101 rfl) <|
  .cons (ix_s_geti (j := 6) tu_X11 rfl (by decide) (by decide) tw_881 rfl ts_10_6_i dX11_minute_102) <|
  .cons (ix_s_goto dX11_minute_105 (by decide)) <|
  .cons (ix_s_aload_n dX11_minute_108 rfl) <|
  .cons (ix_s_iload_n dX11_minute_109 rfl) <|
  .cons (ix_s_aload_n dX11_minute_110 rfl) <|
  .cons (oc_X11_wayNow_s (ix_s_callv (t := 10) (k_X11_wayNow l) (by decide) (by decide) tw_1143 tw_12 tw_1140 tw_1142 tp_39 ⟨by decide, by decide, by decide +kernel⟩ (by decide) rfl rfl (fun _ => ⟨_, _, rfl, rfl⟩) dX11_minute_111)) <|
  .cons (oc_X11_goes_s (ix_s_callv (t := 10) (k_X11_goes l) (by decide) (by decide) tw_1147 tw_12 tw_1144 tw_1146 tp_40 ⟨by decide, by decide, by decide +kernel⟩ (by decide) rfl rfl (fun _ => ⟨_, _, rfl, rfl⟩) dX11_minute_114)) <|
  .cons (ix_s_istore_n dX11_minute_117 rfl (by decide)) <|
  .cons (ix_s_aload_n dX11_minute_118 rfl) <|
  .cons (ix_s_getr (j := 0) tu_X11 rfl (by decide) (by decide) tw_875 rfl ts_10_0_r dX11_minute_119) <|
  .cons (ix_s_iload_n dX11_minute_122 rfl) <|
  .cons (ix_s_iconst dX11_minute_123 (by decide +kernel)) <|
  .cons (oc_X11_boatAt_s (ix_s_calls (k_X11_boatAt l) (by decide) (by decide) tw_1086 tw_12 tw_1084 tw_1085 ⟨by decide, by decide, by decide +kernel⟩ (fun _ => rfl) dX11_minute_124)) <|
  .cons (ix_s_aload_n dX11_minute_127 rfl) <|
  .cons (ix_s_iload_n dX11_minute_128 rfl) <|
  .cons (ix_s_iconst dX11_minute_129 (by decide +kernel)) <|
  .cons (oc_X11_boatIs_s (ix_s_callv (t := 10) (k_X11_boatIs l) (by decide) (by decide) tw_1083 tw_12 tw_1080 tw_1082 tp_34 ⟨by decide, by decide, by decide +kernel⟩ (by decide) rfl rfl (fun _ => ⟨_, _, rfl, rfl⟩) dX11_minute_130)) <|
  .cons (ix_s_iload_n dX11_minute_133 rfl) <|
  .cons (oc_X11_next_s (ix_s_calls (k_X11_next l) (by decide) (by decide) tw_1198 tw_12 tw_1196 tw_1197 ⟨by decide, by decide, by decide +kernel⟩ (fun _ => rfl) dX11_minute_134)) <|
  .cons (ix_s_iast dX11_minute_137) <|
  .cons (ix_s_aload_n dX11_minute_138 rfl) <|
  .cons (ix_s_getr (j := 0) tu_X11 rfl (by decide) (by decide) tw_875 rfl ts_10_0_r dX11_minute_139) <|
  .cons (ix_s_iload_n dX11_minute_142 rfl) <|
  .cons (ix_s_iconst dX11_minute_143 (by decide +kernel)) <|
  .cons (oc_X11_boatAt_s (ix_s_calls (k_X11_boatAt l) (by decide) (by decide) tw_1086 tw_12 tw_1084 tw_1085 ⟨by decide, by decide, by decide +kernel⟩ (fun _ => rfl) dX11_minute_144)) <|
  .cons (ix_s_iconst dX11_minute_147 (by decide +kernel)) <|
  .cons (ix_s_aload_n dX11_minute_148 rfl) <|
  .cons (ix_s_iload_n dX11_minute_149 rfl) <|
  .cons (ix_s_iconst dX11_minute_150 (by decide +kernel)) <|
  .cons (oc_X11_boatIs_s (ix_s_callv (t := 10) (k_X11_boatIs l) (by decide) (by decide) tw_1083 tw_12 tw_1080 tw_1082 tp_34 ⟨by decide, by decide, by decide +kernel⟩ (by decide) rfl rfl (fun _ => ⟨_, _, rfl, rfl⟩) dX11_minute_151)) <|
  .cons (ix_s_aload_n dX11_minute_154 rfl) <|
  .cons (ix_s_iload_n dX11_minute_155 rfl) <|
  .cons (oc_X11_lost_s (ix_s_callv (t := 10) (k_X11_lost l) (by decide) (by decide) tw_1155 tw_12 tw_1152 tw_1154 tp_42 ⟨by decide, by decide, by decide +kernel⟩ (by decide) rfl rfl (fun _ => ⟨_, _, rfl, rfl⟩) dX11_minute_156)) <|
  .cons (ix_s_isub dX11_minute_159) <|
  .cons (ix_s_mmax tw_1057 tw_103 tw_7 tw_104 (by decide) dX11_minute_160) <|
  .cons (ix_s_iast dX11_minute_163) <|
  .cons (ix_s_iinc dX11_minute_164 (by decide +kernel) (by decide)) <|
  .cons (ix_s_goto dX11_minute_167 (by decide)) <|
  .cons (ix_s_aload_n dX11_minute_170 rfl) <|
  .cons (ix_s_getr (j := 0) tu_X11 rfl (by decide) (by decide) tw_875 rfl ts_10_0_r dX11_minute_171) <|
  .cons (ix_s_iconst dX11_minute_174 (by decide +kernel)) <|
  .cons (ix_s_dup2 dX11_minute_175) <|
  .cons (ix_s_iald dX11_minute_176) <|
  .cons (ix_s_iconst dX11_minute_177 (by decide +kernel)) <|
  .cons (ix_s_iadd dX11_minute_178) <|
  .cons (ix_s_iast dX11_minute_179) <|
  .cons (ix_s_vret dX11_minute_180 rfl) <| .nil
set_option maxRecDepth 20000 in
theorem e_X11_minute_0 (Q : ix_R → Prop) (ls : ix_L) (st : List ix_V) (μ : ix_M) : ix_Ev o_X11_minute Q (0, ls, st, μ) = ix_aload 0 1 (ix_Ev o_X11_minute Q) Q ls st μ := ix_Ev.eq (a_X11_minute launch0) rfl ls st μ
set_option maxRecDepth 20000 in
theorem e_X11_minute_1 (Q : ix_R → Prop) (ls : ix_L) (st : List ix_V) (μ : ix_M) : ix_Ev o_X11_minute Q (1, ls, st, μ) = oc_X11_isDark 4 (ix_Ev o_X11_minute Q) Q ls st μ := ix_Ev.eq (a_X11_minute launch0) rfl ls st μ
set_option maxRecDepth 20000 in
theorem e_X11_minute_4 (Q : ix_R → Prop) (ls : ix_L) (st : List ix_V) (μ : ix_M) : ix_Ev o_X11_minute Q (4, ls, st, μ) = ix_istore 1 5 (ix_Ev o_X11_minute Q) Q ls st μ := ix_Ev.eq (a_X11_minute launch0) rfl ls st μ
set_option maxRecDepth 20000 in
theorem e_X11_minute_5 (Q : ix_R → Prop) (ls : ix_L) (st : List ix_V) (μ : ix_M) : ix_Ev o_X11_minute Q (5, ls, st, μ) = ix_push (vi 0) 6 (ix_Ev o_X11_minute Q) Q ls st μ := ix_Ev.eq (a_X11_minute launch0) rfl ls st μ
set_option maxRecDepth 20000 in
theorem e_X11_minute_6 (Q : ix_R → Prop) (ls : ix_L) (st : List ix_V) (μ : ix_M) : ix_Ev o_X11_minute Q (6, ls, st, μ) = ix_istore 2 7 (ix_Ev o_X11_minute Q) Q ls st μ := ix_Ev.eq (a_X11_minute launch0) rfl ls st μ
set_option maxRecDepth 20000 in
theorem e_X11_minute_7 (Q : ix_R → Prop) (ls : ix_L) (st : List ix_V) (μ : ix_M) : ix_Ev o_X11_minute Q (7, ls, st, μ) = ix_iload 2 8 (ix_Ev o_X11_minute Q) Q ls st μ := ix_Ev.eq (a_X11_minute launch0) rfl ls st μ
set_option maxRecDepth 20000 in
theorem e_X11_minute_8 (Q : ix_R → Prop) (ls : ix_L) (st : List ix_V) (μ : ix_M) : ix_Ev o_X11_minute Q (8, ls, st, μ) = ix_push (vi 16) 10 (ix_Ev o_X11_minute Q) Q ls st μ := ix_Ev.eq (a_X11_minute launch0) rfl ls st μ
set_option maxRecDepth 20000 in
theorem e_X11_minute_10 (Q : ix_R → Prop) (ls : ix_L) (st : List ix_V) (μ : ix_M) : ix_Ev o_X11_minute Q (10, ls, st, μ) = ix_cmp (fun x y => y ≤ x) 58 13 (ix_Ev o_X11_minute Q) Q ls st μ := ix_Ev.eq (a_X11_minute launch0) rfl ls st μ
set_option maxRecDepth 20000 in
theorem e_X11_minute_13 (Q : ix_R → Prop) (ls : ix_L) (st : List ix_V) (μ : ix_M) : ix_Ev o_X11_minute Q (13, ls, st, μ) = ix_aload 0 14 (ix_Ev o_X11_minute Q) Q ls st μ := ix_Ev.eq (a_X11_minute launch0) rfl ls st μ
set_option maxRecDepth 20000 in
theorem e_X11_minute_14 (Q : ix_R → Prop) (ls : ix_L) (st : List ix_V) (μ : ix_M) : ix_Ev o_X11_minute Q (14, ls, st, μ) = ix_getr 10 20 (fun _ => 113) 17 (ix_Ev o_X11_minute Q) Q ls st μ := ix_Ev.eq (a_X11_minute launch0) rfl ls st μ
set_option maxRecDepth 20000 in
theorem e_X11_minute_17 (Q : ix_R → Prop) (ls : ix_L) (st : List ix_V) (μ : ix_M) : ix_Ev o_X11_minute Q (17, ls, st, μ) = ix_push (vi 34) 19 (ix_Ev o_X11_minute Q) Q ls st μ := ix_Ev.eq (a_X11_minute launch0) rfl ls st μ
set_option maxRecDepth 20000 in
theorem e_X11_minute_19 (Q : ix_R → Prop) (ls : ix_L) (st : List ix_V) (μ : ix_M) : ix_Ev o_X11_minute Q (19, ls, st, μ) = ix_iload 2 20 (ix_Ev o_X11_minute Q) Q ls st μ := ix_Ev.eq (a_X11_minute launch0) rfl ls st μ
set_option maxRecDepth 20000 in
theorem e_X11_minute_20 (Q : ix_R → Prop) (ls : ix_L) (st : List ix_V) (μ : ix_M) : ix_Ev o_X11_minute Q (20, ls, st, μ) = ix_bin (fun x y => x + y) 21 (ix_Ev o_X11_minute Q) Q ls st μ := ix_Ev.eq (a_X11_minute launch0) rfl ls st μ
set_option maxRecDepth 20000 in
theorem e_X11_minute_21 (Q : ix_R → Prop) (ls : ix_L) (st : List ix_V) (μ : ix_M) : ix_Ev o_X11_minute Q (21, ls, st, μ) = ix_aload 0 22 (ix_Ev o_X11_minute Q) Q ls st μ := ix_Ev.eq (a_X11_minute launch0) rfl ls st μ
set_option maxRecDepth 20000 in
theorem e_X11_minute_22 (Q : ix_R → Prop) (ls : ix_L) (st : List ix_V) (μ : ix_M) : ix_Ev o_X11_minute Q (22, ls, st, μ) = ix_getr 10 20 (fun _ => 113) 25 (ix_Ev o_X11_minute Q) Q ls st μ := ix_Ev.eq (a_X11_minute launch0) rfl ls st μ
set_option maxRecDepth 20000 in
theorem e_X11_minute_25 (Q : ix_R → Prop) (ls : ix_L) (st : List ix_V) (μ : ix_M) : ix_Ev o_X11_minute Q (25, ls, st, μ) = ix_push (vi 34) 27 (ix_Ev o_X11_minute Q) Q ls st μ := ix_Ev.eq (a_X11_minute launch0) rfl ls st μ
set_option maxRecDepth 20000 in
theorem e_X11_minute_27 (Q : ix_R → Prop) (ls : ix_L) (st : List ix_V) (μ : ix_M) : ix_Ev o_X11_minute Q (27, ls, st, μ) = ix_iload 2 28 (ix_Ev o_X11_minute Q) Q ls st μ := ix_Ev.eq (a_X11_minute launch0) rfl ls st μ
set_option maxRecDepth 20000 in
theorem e_X11_minute_28 (Q : ix_R → Prop) (ls : ix_L) (st : List ix_V) (μ : ix_M) : ix_Ev o_X11_minute Q (28, ls, st, μ) = ix_bin (fun x y => x + y) 29 (ix_Ev o_X11_minute Q) Q ls st μ := ix_Ev.eq (a_X11_minute launch0) rfl ls st μ
set_option maxRecDepth 20000 in
theorem e_X11_minute_29 (Q : ix_R → Prop) (ls : ix_L) (st : List ix_V) (μ : ix_M) : ix_Ev o_X11_minute Q (29, ls, st, μ) = ix_iald 30 (ix_Ev o_X11_minute Q) Q ls st μ := ix_Ev.eq (a_X11_minute launch0) rfl ls st μ
set_option maxRecDepth 20000 in
theorem e_X11_minute_30 (Q : ix_R → Prop) (ls : ix_L) (st : List ix_V) (μ : ix_M) : ix_Ev o_X11_minute Q (30, ls, st, μ) = ix_iload 1 31 (ix_Ev o_X11_minute Q) Q ls st μ := ix_Ev.eq (a_X11_minute launch0) rfl ls st μ
set_option maxRecDepth 20000 in
theorem e_X11_minute_31 (Q : ix_R → Prop) (ls : ix_L) (st : List ix_V) (μ : ix_M) : ix_Ev o_X11_minute Q (31, ls, st, μ) = ix_if (fun x => x = 0) 42 34 (ix_Ev o_X11_minute Q) Q ls st μ := ix_Ev.eq (a_X11_minute launch0) rfl ls st μ
set_option maxRecDepth 20000 in
theorem e_X11_minute_34 (Q : ix_R → Prop) (ls : ix_L) (st : List ix_V) (μ : ix_M) : ix_Ev o_X11_minute Q (34, ls, st, μ) = ix_aload 0 35 (ix_Ev o_X11_minute Q) Q ls st μ := ix_Ev.eq (a_X11_minute launch0) rfl ls st μ
set_option maxRecDepth 20000 in
theorem e_X11_minute_35 (Q : ix_R → Prop) (ls : ix_L) (st : List ix_V) (μ : ix_M) : ix_Ev o_X11_minute Q (35, ls, st, μ) = ix_iload 2 36 (ix_Ev o_X11_minute Q) Q ls st μ := ix_Ev.eq (a_X11_minute launch0) rfl ls st μ
set_option maxRecDepth 20000 in
theorem e_X11_minute_36 (Q : ix_R → Prop) (ls : ix_L) (st : List ix_V) (μ : ix_M) : ix_Ev o_X11_minute Q (36, ls, st, μ) = oc_X11_settles 39 (ix_Ev o_X11_minute Q) Q ls st μ := ix_Ev.eq (a_X11_minute launch0) rfl ls st μ
set_option maxRecDepth 20000 in
theorem e_X11_minute_39 (Q : ix_R → Prop) (ls : ix_L) (st : List ix_V) (μ : ix_M) : ix_Ev o_X11_minute Q (39, ls, st, μ) = ix_goto 44 (ix_Ev o_X11_minute Q) Q ls st μ := ix_Ev.eq (a_X11_minute launch0) rfl ls st μ
set_option maxRecDepth 20000 in
theorem e_X11_minute_42 (Q : ix_R → Prop) (ls : ix_L) (st : List ix_V) (μ : ix_M) : ix_Ev o_X11_minute Q (42, ls, st, μ) = ix_push (vi (-7)) 44 (ix_Ev o_X11_minute Q) Q ls st μ := ix_Ev.eq (a_X11_minute launch0) rfl ls st μ
set_option maxRecDepth 20000 in
theorem e_X11_minute_44 (Q : ix_R → Prop) (ls : ix_L) (st : List ix_V) (μ : ix_M) : ix_Ev o_X11_minute Q (44, ls, st, μ) = ix_bin (fun x y => x + y) 45 (ix_Ev o_X11_minute Q) Q ls st μ := ix_Ev.eq (a_X11_minute launch0) rfl ls st μ
set_option maxRecDepth 20000 in
theorem e_X11_minute_45 (Q : ix_R → Prop) (ls : ix_L) (st : List ix_V) (μ : ix_M) : ix_Ev o_X11_minute Q (45, ls, st, μ) = ix_push (vi 0) 46 (ix_Ev o_X11_minute Q) Q ls st μ := ix_Ev.eq (a_X11_minute launch0) rfl ls st μ
set_option maxRecDepth 20000 in
theorem e_X11_minute_46 (Q : ix_R → Prop) (ls : ix_L) (st : List ix_V) (μ : ix_M) : ix_Ev o_X11_minute Q (46, ls, st, μ) = ix_push (vi 99) 48 (ix_Ev o_X11_minute Q) Q ls st μ := ix_Ev.eq (a_X11_minute launch0) rfl ls st μ
set_option maxRecDepth 20000 in
theorem e_X11_minute_48 (Q : ix_R → Prop) (ls : ix_L) (st : List ix_V) (μ : ix_M) : ix_Ev o_X11_minute Q (48, ls, st, μ) = oc_X11_held 51 (ix_Ev o_X11_minute Q) Q ls st μ := ix_Ev.eq (a_X11_minute launch0) rfl ls st μ
set_option maxRecDepth 20000 in
theorem e_X11_minute_51 (Q : ix_R → Prop) (ls : ix_L) (st : List ix_V) (μ : ix_M) : ix_Ev o_X11_minute Q (51, ls, st, μ) = ix_iast 52 (ix_Ev o_X11_minute Q) Q ls st μ := ix_Ev.eq (a_X11_minute launch0) rfl ls st μ
set_option maxRecDepth 20000 in
theorem e_X11_minute_52 (Q : ix_R → Prop) (ls : ix_L) (st : List ix_V) (μ : ix_M) : ix_Ev o_X11_minute Q (52, ls, st, μ) = ix_iinc 2 1 55 (ix_Ev o_X11_minute Q) Q ls st μ := ix_Ev.eq (a_X11_minute launch0) rfl ls st μ
set_option maxRecDepth 20000 in
theorem e_X11_minute_55 (Q : ix_R → Prop) (ls : ix_L) (st : List ix_V) (μ : ix_M) : ix_Ev o_X11_minute Q (55, ls, st, μ) = ix_goto 7 (ix_Ev o_X11_minute Q) Q ls st μ := ix_Ev.eq (a_X11_minute launch0) rfl ls st μ
set_option maxRecDepth 20000 in
theorem e_X11_minute_58 (Q : ix_R → Prop) (ls : ix_L) (st : List ix_V) (μ : ix_M) : ix_Ev o_X11_minute Q (58, ls, st, μ) = ix_push (vi 0) 59 (ix_Ev o_X11_minute Q) Q ls st μ := ix_Ev.eq (a_X11_minute launch0) rfl ls st μ
set_option maxRecDepth 20000 in
theorem e_X11_minute_59 (Q : ix_R → Prop) (ls : ix_L) (st : List ix_V) (μ : ix_M) : ix_Ev o_X11_minute Q (59, ls, st, μ) = ix_istore 2 60 (ix_Ev o_X11_minute Q) Q ls st μ := ix_Ev.eq (a_X11_minute launch0) rfl ls st μ
set_option maxRecDepth 20000 in
theorem e_X11_minute_60 (Q : ix_R → Prop) (ls : ix_L) (st : List ix_V) (μ : ix_M) : ix_Ev o_X11_minute Q (60, ls, st, μ) = ix_iload 2 61 (ix_Ev o_X11_minute Q) Q ls st μ := ix_Ev.eq (a_X11_minute launch0) rfl ls st μ
set_option maxRecDepth 20000 in
theorem e_X11_minute_61 (Q : ix_R → Prop) (ls : ix_L) (st : List ix_V) (μ : ix_M) : ix_Ev o_X11_minute Q (61, ls, st, μ) = ix_aload 0 62 (ix_Ev o_X11_minute Q) Q ls st μ := ix_Ev.eq (a_X11_minute launch0) rfl ls st μ
set_option maxRecDepth 20000 in
theorem e_X11_minute_62 (Q : ix_R → Prop) (ls : ix_L) (st : List ix_V) (μ : ix_M) : ix_Ev o_X11_minute Q (62, ls, st, μ) = ix_getr 10 20 (fun _ => 113) 65 (ix_Ev o_X11_minute Q) Q ls st μ := ix_Ev.eq (a_X11_minute launch0) rfl ls st μ
set_option maxRecDepth 20000 in
theorem e_X11_minute_65 (Q : ix_R → Prop) (ls : ix_L) (st : List ix_V) (μ : ix_M) : ix_Ev o_X11_minute Q (65, ls, st, μ) = ix_push (vi 1) 66 (ix_Ev o_X11_minute Q) Q ls st μ := ix_Ev.eq (a_X11_minute launch0) rfl ls st μ
set_option maxRecDepth 20000 in
theorem e_X11_minute_66 (Q : ix_R → Prop) (ls : ix_L) (st : List ix_V) (μ : ix_M) : ix_Ev o_X11_minute Q (66, ls, st, μ) = ix_iald 67 (ix_Ev o_X11_minute Q) Q ls st μ := ix_Ev.eq (a_X11_minute launch0) rfl ls st μ
set_option maxRecDepth 20000 in
theorem e_X11_minute_67 (Q : ix_R → Prop) (ls : ix_L) (st : List ix_V) (μ : ix_M) : ix_Ev o_X11_minute Q (67, ls, st, μ) = ix_cmp (fun x y => y ≤ x) 81 70 (ix_Ev o_X11_minute Q) Q ls st μ := ix_Ev.eq (a_X11_minute launch0) rfl ls st μ
set_option maxRecDepth 20000 in
theorem e_X11_minute_70 (Q : ix_R → Prop) (ls : ix_L) (st : List ix_V) (μ : ix_M) : ix_Ev o_X11_minute Q (70, ls, st, μ) = ix_aload 0 71 (ix_Ev o_X11_minute Q) Q ls st μ := ix_Ev.eq (a_X11_minute launch0) rfl ls st μ
set_option maxRecDepth 20000 in
theorem e_X11_minute_71 (Q : ix_R → Prop) (ls : ix_L) (st : List ix_V) (μ : ix_M) : ix_Ev o_X11_minute Q (71, ls, st, μ) = ix_iload 2 72 (ix_Ev o_X11_minute Q) Q ls st μ := ix_Ev.eq (a_X11_minute launch0) rfl ls st μ
set_option maxRecDepth 20000 in
theorem e_X11_minute_72 (Q : ix_R → Prop) (ls : ix_L) (st : List ix_V) (μ : ix_M) : ix_Ev o_X11_minute Q (72, ls, st, μ) = oc_X11_isDipped 75 (ix_Ev o_X11_minute Q) Q ls st μ := ix_Ev.eq (a_X11_minute launch0) rfl ls st μ
set_option maxRecDepth 20000 in
theorem e_X11_minute_75 (Q : ix_R → Prop) (ls : ix_L) (st : List ix_V) (μ : ix_M) : ix_Ev o_X11_minute Q (75, ls, st, μ) = ix_iinc 2 1 78 (ix_Ev o_X11_minute Q) Q ls st μ := ix_Ev.eq (a_X11_minute launch0) rfl ls st μ
set_option maxRecDepth 20000 in
theorem e_X11_minute_78 (Q : ix_R → Prop) (ls : ix_L) (st : List ix_V) (μ : ix_M) : ix_Ev o_X11_minute Q (78, ls, st, μ) = ix_goto 60 (ix_Ev o_X11_minute Q) Q ls st μ := ix_Ev.eq (a_X11_minute launch0) rfl ls st μ
set_option maxRecDepth 20000 in
theorem e_X11_minute_81 (Q : ix_R → Prop) (ls : ix_L) (st : List ix_V) (μ : ix_M) : ix_Ev o_X11_minute Q (81, ls, st, μ) = ix_push (vi 0) 82 (ix_Ev o_X11_minute Q) Q ls st μ := ix_Ev.eq (a_X11_minute launch0) rfl ls st μ
set_option maxRecDepth 20000 in
theorem e_X11_minute_82 (Q : ix_R → Prop) (ls : ix_L) (st : List ix_V) (μ : ix_M) : ix_Ev o_X11_minute Q (82, ls, st, μ) = ix_istore 2 83 (ix_Ev o_X11_minute Q) Q ls st μ := ix_Ev.eq (a_X11_minute launch0) rfl ls st μ
set_option maxRecDepth 20000 in
theorem e_X11_minute_83 (Q : ix_R → Prop) (ls : ix_L) (st : List ix_V) (μ : ix_M) : ix_Ev o_X11_minute Q (83, ls, st, μ) = ix_iload 2 84 (ix_Ev o_X11_minute Q) Q ls st μ := ix_Ev.eq (a_X11_minute launch0) rfl ls st μ
set_option maxRecDepth 20000 in
theorem e_X11_minute_84 (Q : ix_R → Prop) (ls : ix_L) (st : List ix_V) (μ : ix_M) : ix_Ev o_X11_minute Q (84, ls, st, μ) = ix_aload 0 85 (ix_Ev o_X11_minute Q) Q ls st μ := ix_Ev.eq (a_X11_minute launch0) rfl ls st μ
set_option maxRecDepth 20000 in
theorem e_X11_minute_85 (Q : ix_R → Prop) (ls : ix_L) (st : List ix_V) (μ : ix_M) : ix_Ev o_X11_minute Q (85, ls, st, μ) = ix_getr 10 20 (fun _ => 113) 88 (ix_Ev o_X11_minute Q) Q ls st μ := ix_Ev.eq (a_X11_minute launch0) rfl ls st μ
set_option maxRecDepth 20000 in
theorem e_X11_minute_88 (Q : ix_R → Prop) (ls : ix_L) (st : List ix_V) (μ : ix_M) : ix_Ev o_X11_minute Q (88, ls, st, μ) = ix_push (vi 1) 89 (ix_Ev o_X11_minute Q) Q ls st μ := ix_Ev.eq (a_X11_minute launch0) rfl ls st μ
set_option maxRecDepth 20000 in
theorem e_X11_minute_89 (Q : ix_R → Prop) (ls : ix_L) (st : List ix_V) (μ : ix_M) : ix_Ev o_X11_minute Q (89, ls, st, μ) = ix_iald 90 (ix_Ev o_X11_minute Q) Q ls st μ := ix_Ev.eq (a_X11_minute launch0) rfl ls st μ
set_option maxRecDepth 20000 in
theorem e_X11_minute_90 (Q : ix_R → Prop) (ls : ix_L) (st : List ix_V) (μ : ix_M) : ix_Ev o_X11_minute Q (90, ls, st, μ) = ix_cmp (fun x y => y ≤ x) 170 93 (ix_Ev o_X11_minute Q) Q ls st μ := ix_Ev.eq (a_X11_minute launch0) rfl ls st μ
set_option maxRecDepth 20000 in
theorem e_X11_minute_93 (Q : ix_R → Prop) (ls : ix_L) (st : List ix_V) (μ : ix_M) : ix_Ev o_X11_minute Q (93, ls, st, μ) = ix_iload 2 94 (ix_Ev o_X11_minute Q) Q ls st μ := ix_Ev.eq (a_X11_minute launch0) rfl ls st μ
set_option maxRecDepth 20000 in
theorem e_X11_minute_94 (Q : ix_R → Prop) (ls : ix_L) (st : List ix_V) (μ : ix_M) : ix_Ev o_X11_minute Q (94, ls, st, μ) = ix_aload 0 95 (ix_Ev o_X11_minute Q) Q ls st μ := ix_Ev.eq (a_X11_minute launch0) rfl ls st μ
set_option maxRecDepth 20000 in
theorem e_X11_minute_95 (Q : ix_R → Prop) (ls : ix_L) (st : List ix_V) (μ : ix_M) : ix_Ev o_X11_minute Q (95, ls, st, μ) = ix_geti 10 5 98 (ix_Ev o_X11_minute Q) Q ls st μ := ix_Ev.eq (a_X11_minute launch0) rfl ls st μ
set_option maxRecDepth 20000 in
theorem e_X11_minute_98 (Q : ix_R → Prop) (ls : ix_L) (st : List ix_V) (μ : ix_M) : ix_Ev o_X11_minute Q (98, ls, st, μ) = ix_cmp (fun x y => x = y) 101 108 (ix_Ev o_X11_minute Q) Q ls st μ := ix_Ev.eq (a_X11_minute launch0) rfl ls st μ
set_option maxRecDepth 20000 in
theorem e_X11_minute_101 (Q : ix_R → Prop) (ls : ix_L) (st : List ix_V) (μ : ix_M) : ix_Ev o_X11_minute Q (101, ls, st, μ) = ix_aload 0 102 (ix_Ev o_X11_minute Q) Q ls st μ := ix_Ev.eq (a_X11_minute launch0) rfl ls st μ
set_option maxRecDepth 20000 in
theorem e_X11_minute_102 (Q : ix_R → Prop) (ls : ix_L) (st : List ix_V) (μ : ix_M) : ix_Ev o_X11_minute Q (102, ls, st, μ) = ix_geti 10 6 105 (ix_Ev o_X11_minute Q) Q ls st μ := ix_Ev.eq (a_X11_minute launch0) rfl ls st μ
set_option maxRecDepth 20000 in
theorem e_X11_minute_105 (Q : ix_R → Prop) (ls : ix_L) (st : List ix_V) (μ : ix_M) : ix_Ev o_X11_minute Q (105, ls, st, μ) = ix_goto 117 (ix_Ev o_X11_minute Q) Q ls st μ := ix_Ev.eq (a_X11_minute launch0) rfl ls st μ
set_option maxRecDepth 20000 in
theorem e_X11_minute_108 (Q : ix_R → Prop) (ls : ix_L) (st : List ix_V) (μ : ix_M) : ix_Ev o_X11_minute Q (108, ls, st, μ) = ix_aload 0 109 (ix_Ev o_X11_minute Q) Q ls st μ := ix_Ev.eq (a_X11_minute launch0) rfl ls st μ
set_option maxRecDepth 20000 in
theorem e_X11_minute_109 (Q : ix_R → Prop) (ls : ix_L) (st : List ix_V) (μ : ix_M) : ix_Ev o_X11_minute Q (109, ls, st, μ) = ix_iload 2 110 (ix_Ev o_X11_minute Q) Q ls st μ := ix_Ev.eq (a_X11_minute launch0) rfl ls st μ
set_option maxRecDepth 20000 in
theorem e_X11_minute_110 (Q : ix_R → Prop) (ls : ix_L) (st : List ix_V) (μ : ix_M) : ix_Ev o_X11_minute Q (110, ls, st, μ) = ix_aload 0 111 (ix_Ev o_X11_minute Q) Q ls st μ := ix_Ev.eq (a_X11_minute launch0) rfl ls st μ
set_option maxRecDepth 20000 in
theorem e_X11_minute_111 (Q : ix_R → Prop) (ls : ix_L) (st : List ix_V) (μ : ix_M) : ix_Ev o_X11_minute Q (111, ls, st, μ) = oc_X11_wayNow 114 (ix_Ev o_X11_minute Q) Q ls st μ := ix_Ev.eq (a_X11_minute launch0) rfl ls st μ
set_option maxRecDepth 20000 in
theorem e_X11_minute_114 (Q : ix_R → Prop) (ls : ix_L) (st : List ix_V) (μ : ix_M) : ix_Ev o_X11_minute Q (114, ls, st, μ) = oc_X11_goes 117 (ix_Ev o_X11_minute Q) Q ls st μ := ix_Ev.eq (a_X11_minute launch0) rfl ls st μ
set_option maxRecDepth 20000 in
theorem e_X11_minute_117 (Q : ix_R → Prop) (ls : ix_L) (st : List ix_V) (μ : ix_M) : ix_Ev o_X11_minute Q (117, ls, st, μ) = ix_istore 3 118 (ix_Ev o_X11_minute Q) Q ls st μ := ix_Ev.eq (a_X11_minute launch0) rfl ls st μ
set_option maxRecDepth 20000 in
theorem e_X11_minute_118 (Q : ix_R → Prop) (ls : ix_L) (st : List ix_V) (μ : ix_M) : ix_Ev o_X11_minute Q (118, ls, st, μ) = ix_aload 0 119 (ix_Ev o_X11_minute Q) Q ls st μ := ix_Ev.eq (a_X11_minute launch0) rfl ls st μ
set_option maxRecDepth 20000 in
theorem e_X11_minute_119 (Q : ix_R → Prop) (ls : ix_L) (st : List ix_V) (μ : ix_M) : ix_Ev o_X11_minute Q (119, ls, st, μ) = ix_getr 10 20 (fun _ => 113) 122 (ix_Ev o_X11_minute Q) Q ls st μ := ix_Ev.eq (a_X11_minute launch0) rfl ls st μ
set_option maxRecDepth 20000 in
theorem e_X11_minute_122 (Q : ix_R → Prop) (ls : ix_L) (st : List ix_V) (μ : ix_M) : ix_Ev o_X11_minute Q (122, ls, st, μ) = ix_iload 2 123 (ix_Ev o_X11_minute Q) Q ls st μ := ix_Ev.eq (a_X11_minute launch0) rfl ls st μ
set_option maxRecDepth 20000 in
theorem e_X11_minute_123 (Q : ix_R → Prop) (ls : ix_L) (st : List ix_V) (μ : ix_M) : ix_Ev o_X11_minute Q (123, ls, st, μ) = ix_push (vi 2) 124 (ix_Ev o_X11_minute Q) Q ls st μ := ix_Ev.eq (a_X11_minute launch0) rfl ls st μ
set_option maxRecDepth 20000 in
theorem e_X11_minute_124 (Q : ix_R → Prop) (ls : ix_L) (st : List ix_V) (μ : ix_M) : ix_Ev o_X11_minute Q (124, ls, st, μ) = oc_X11_boatAt 127 (ix_Ev o_X11_minute Q) Q ls st μ := ix_Ev.eq (a_X11_minute launch0) rfl ls st μ
set_option maxRecDepth 20000 in
theorem e_X11_minute_127 (Q : ix_R → Prop) (ls : ix_L) (st : List ix_V) (μ : ix_M) : ix_Ev o_X11_minute Q (127, ls, st, μ) = ix_aload 0 128 (ix_Ev o_X11_minute Q) Q ls st μ := ix_Ev.eq (a_X11_minute launch0) rfl ls st μ
set_option maxRecDepth 20000 in
theorem e_X11_minute_128 (Q : ix_R → Prop) (ls : ix_L) (st : List ix_V) (μ : ix_M) : ix_Ev o_X11_minute Q (128, ls, st, μ) = ix_iload 2 129 (ix_Ev o_X11_minute Q) Q ls st μ := ix_Ev.eq (a_X11_minute launch0) rfl ls st μ
set_option maxRecDepth 20000 in
theorem e_X11_minute_129 (Q : ix_R → Prop) (ls : ix_L) (st : List ix_V) (μ : ix_M) : ix_Ev o_X11_minute Q (129, ls, st, μ) = ix_push (vi 2) 130 (ix_Ev o_X11_minute Q) Q ls st μ := ix_Ev.eq (a_X11_minute launch0) rfl ls st μ
set_option maxRecDepth 20000 in
theorem e_X11_minute_130 (Q : ix_R → Prop) (ls : ix_L) (st : List ix_V) (μ : ix_M) : ix_Ev o_X11_minute Q (130, ls, st, μ) = oc_X11_boatIs 133 (ix_Ev o_X11_minute Q) Q ls st μ := ix_Ev.eq (a_X11_minute launch0) rfl ls st μ
set_option maxRecDepth 20000 in
theorem e_X11_minute_133 (Q : ix_R → Prop) (ls : ix_L) (st : List ix_V) (μ : ix_M) : ix_Ev o_X11_minute Q (133, ls, st, μ) = ix_iload 3 134 (ix_Ev o_X11_minute Q) Q ls st μ := ix_Ev.eq (a_X11_minute launch0) rfl ls st μ
set_option maxRecDepth 20000 in
theorem e_X11_minute_134 (Q : ix_R → Prop) (ls : ix_L) (st : List ix_V) (μ : ix_M) : ix_Ev o_X11_minute Q (134, ls, st, μ) = oc_X11_next 137 (ix_Ev o_X11_minute Q) Q ls st μ := ix_Ev.eq (a_X11_minute launch0) rfl ls st μ
set_option maxRecDepth 20000 in
theorem e_X11_minute_137 (Q : ix_R → Prop) (ls : ix_L) (st : List ix_V) (μ : ix_M) : ix_Ev o_X11_minute Q (137, ls, st, μ) = ix_iast 138 (ix_Ev o_X11_minute Q) Q ls st μ := ix_Ev.eq (a_X11_minute launch0) rfl ls st μ
set_option maxRecDepth 20000 in
theorem e_X11_minute_138 (Q : ix_R → Prop) (ls : ix_L) (st : List ix_V) (μ : ix_M) : ix_Ev o_X11_minute Q (138, ls, st, μ) = ix_aload 0 139 (ix_Ev o_X11_minute Q) Q ls st μ := ix_Ev.eq (a_X11_minute launch0) rfl ls st μ
set_option maxRecDepth 20000 in
theorem e_X11_minute_139 (Q : ix_R → Prop) (ls : ix_L) (st : List ix_V) (μ : ix_M) : ix_Ev o_X11_minute Q (139, ls, st, μ) = ix_getr 10 20 (fun _ => 113) 142 (ix_Ev o_X11_minute Q) Q ls st μ := ix_Ev.eq (a_X11_minute launch0) rfl ls st μ
set_option maxRecDepth 20000 in
theorem e_X11_minute_142 (Q : ix_R → Prop) (ls : ix_L) (st : List ix_V) (μ : ix_M) : ix_Ev o_X11_minute Q (142, ls, st, μ) = ix_iload 2 143 (ix_Ev o_X11_minute Q) Q ls st μ := ix_Ev.eq (a_X11_minute launch0) rfl ls st μ
set_option maxRecDepth 20000 in
theorem e_X11_minute_143 (Q : ix_R → Prop) (ls : ix_L) (st : List ix_V) (μ : ix_M) : ix_Ev o_X11_minute Q (143, ls, st, μ) = ix_push (vi 3) 144 (ix_Ev o_X11_minute Q) Q ls st μ := ix_Ev.eq (a_X11_minute launch0) rfl ls st μ
set_option maxRecDepth 20000 in
theorem e_X11_minute_144 (Q : ix_R → Prop) (ls : ix_L) (st : List ix_V) (μ : ix_M) : ix_Ev o_X11_minute Q (144, ls, st, μ) = oc_X11_boatAt 147 (ix_Ev o_X11_minute Q) Q ls st μ := ix_Ev.eq (a_X11_minute launch0) rfl ls st μ
set_option maxRecDepth 20000 in
theorem e_X11_minute_147 (Q : ix_R → Prop) (ls : ix_L) (st : List ix_V) (μ : ix_M) : ix_Ev o_X11_minute Q (147, ls, st, μ) = ix_push (vi 0) 148 (ix_Ev o_X11_minute Q) Q ls st μ := ix_Ev.eq (a_X11_minute launch0) rfl ls st μ
set_option maxRecDepth 20000 in
theorem e_X11_minute_148 (Q : ix_R → Prop) (ls : ix_L) (st : List ix_V) (μ : ix_M) : ix_Ev o_X11_minute Q (148, ls, st, μ) = ix_aload 0 149 (ix_Ev o_X11_minute Q) Q ls st μ := ix_Ev.eq (a_X11_minute launch0) rfl ls st μ
set_option maxRecDepth 20000 in
theorem e_X11_minute_149 (Q : ix_R → Prop) (ls : ix_L) (st : List ix_V) (μ : ix_M) : ix_Ev o_X11_minute Q (149, ls, st, μ) = ix_iload 2 150 (ix_Ev o_X11_minute Q) Q ls st μ := ix_Ev.eq (a_X11_minute launch0) rfl ls st μ
set_option maxRecDepth 20000 in
theorem e_X11_minute_150 (Q : ix_R → Prop) (ls : ix_L) (st : List ix_V) (μ : ix_M) : ix_Ev o_X11_minute Q (150, ls, st, μ) = ix_push (vi 3) 151 (ix_Ev o_X11_minute Q) Q ls st μ := ix_Ev.eq (a_X11_minute launch0) rfl ls st μ
set_option maxRecDepth 20000 in
theorem e_X11_minute_151 (Q : ix_R → Prop) (ls : ix_L) (st : List ix_V) (μ : ix_M) : ix_Ev o_X11_minute Q (151, ls, st, μ) = oc_X11_boatIs 154 (ix_Ev o_X11_minute Q) Q ls st μ := ix_Ev.eq (a_X11_minute launch0) rfl ls st μ
set_option maxRecDepth 20000 in
theorem e_X11_minute_154 (Q : ix_R → Prop) (ls : ix_L) (st : List ix_V) (μ : ix_M) : ix_Ev o_X11_minute Q (154, ls, st, μ) = ix_aload 0 155 (ix_Ev o_X11_minute Q) Q ls st μ := ix_Ev.eq (a_X11_minute launch0) rfl ls st μ
set_option maxRecDepth 20000 in
theorem e_X11_minute_155 (Q : ix_R → Prop) (ls : ix_L) (st : List ix_V) (μ : ix_M) : ix_Ev o_X11_minute Q (155, ls, st, μ) = ix_iload 2 156 (ix_Ev o_X11_minute Q) Q ls st μ := ix_Ev.eq (a_X11_minute launch0) rfl ls st μ
set_option maxRecDepth 20000 in
theorem e_X11_minute_156 (Q : ix_R → Prop) (ls : ix_L) (st : List ix_V) (μ : ix_M) : ix_Ev o_X11_minute Q (156, ls, st, μ) = oc_X11_lost 159 (ix_Ev o_X11_minute Q) Q ls st μ := ix_Ev.eq (a_X11_minute launch0) rfl ls st μ
set_option maxRecDepth 20000 in
theorem e_X11_minute_159 (Q : ix_R → Prop) (ls : ix_L) (st : List ix_V) (μ : ix_M) : ix_Ev o_X11_minute Q (159, ls, st, μ) = ix_bin (fun x y => x - y) 160 (ix_Ev o_X11_minute Q) Q ls st μ := ix_Ev.eq (a_X11_minute launch0) rfl ls st μ
set_option maxRecDepth 20000 in
theorem e_X11_minute_160 (Q : ix_R → Prop) (ls : ix_L) (st : List ix_V) (μ : ix_M) : ix_Ev o_X11_minute Q (160, ls, st, μ) = ix_math2 (fun x y => if x < y then y else x) 163 (ix_Ev o_X11_minute Q) Q ls st μ := ix_Ev.eq (a_X11_minute launch0) rfl ls st μ
set_option maxRecDepth 20000 in
theorem e_X11_minute_163 (Q : ix_R → Prop) (ls : ix_L) (st : List ix_V) (μ : ix_M) : ix_Ev o_X11_minute Q (163, ls, st, μ) = ix_iast 164 (ix_Ev o_X11_minute Q) Q ls st μ := ix_Ev.eq (a_X11_minute launch0) rfl ls st μ
set_option maxRecDepth 20000 in
theorem e_X11_minute_164 (Q : ix_R → Prop) (ls : ix_L) (st : List ix_V) (μ : ix_M) : ix_Ev o_X11_minute Q (164, ls, st, μ) = ix_iinc 2 1 167 (ix_Ev o_X11_minute Q) Q ls st μ := ix_Ev.eq (a_X11_minute launch0) rfl ls st μ
set_option maxRecDepth 20000 in
theorem e_X11_minute_167 (Q : ix_R → Prop) (ls : ix_L) (st : List ix_V) (μ : ix_M) : ix_Ev o_X11_minute Q (167, ls, st, μ) = ix_goto 83 (ix_Ev o_X11_minute Q) Q ls st μ := ix_Ev.eq (a_X11_minute launch0) rfl ls st μ
set_option maxRecDepth 20000 in
theorem e_X11_minute_170 (Q : ix_R → Prop) (ls : ix_L) (st : List ix_V) (μ : ix_M) : ix_Ev o_X11_minute Q (170, ls, st, μ) = ix_aload 0 171 (ix_Ev o_X11_minute Q) Q ls st μ := ix_Ev.eq (a_X11_minute launch0) rfl ls st μ
set_option maxRecDepth 20000 in
theorem e_X11_minute_171 (Q : ix_R → Prop) (ls : ix_L) (st : List ix_V) (μ : ix_M) : ix_Ev o_X11_minute Q (171, ls, st, μ) = ix_getr 10 20 (fun _ => 113) 174 (ix_Ev o_X11_minute Q) Q ls st μ := ix_Ev.eq (a_X11_minute launch0) rfl ls st μ
set_option maxRecDepth 20000 in
theorem e_X11_minute_174 (Q : ix_R → Prop) (ls : ix_L) (st : List ix_V) (μ : ix_M) : ix_Ev o_X11_minute Q (174, ls, st, μ) = ix_push (vi 0) 175 (ix_Ev o_X11_minute Q) Q ls st μ := ix_Ev.eq (a_X11_minute launch0) rfl ls st μ
set_option maxRecDepth 20000 in
theorem e_X11_minute_175 (Q : ix_R → Prop) (ls : ix_L) (st : List ix_V) (μ : ix_M) : ix_Ev o_X11_minute Q (175, ls, st, μ) = ix_dup2 176 (ix_Ev o_X11_minute Q) Q ls st μ := ix_Ev.eq (a_X11_minute launch0) rfl ls st μ
set_option maxRecDepth 20000 in
theorem e_X11_minute_176 (Q : ix_R → Prop) (ls : ix_L) (st : List ix_V) (μ : ix_M) : ix_Ev o_X11_minute Q (176, ls, st, μ) = ix_iald 177 (ix_Ev o_X11_minute Q) Q ls st μ := ix_Ev.eq (a_X11_minute launch0) rfl ls st μ
set_option maxRecDepth 20000 in
theorem e_X11_minute_177 (Q : ix_R → Prop) (ls : ix_L) (st : List ix_V) (μ : ix_M) : ix_Ev o_X11_minute Q (177, ls, st, μ) = ix_push (vi 1) 178 (ix_Ev o_X11_minute Q) Q ls st μ := ix_Ev.eq (a_X11_minute launch0) rfl ls st μ
set_option maxRecDepth 20000 in
theorem e_X11_minute_178 (Q : ix_R → Prop) (ls : ix_L) (st : List ix_V) (μ : ix_M) : ix_Ev o_X11_minute Q (178, ls, st, μ) = ix_bin (fun x y => x + y) 179 (ix_Ev o_X11_minute Q) Q ls st μ := ix_Ev.eq (a_X11_minute launch0) rfl ls st μ
set_option maxRecDepth 20000 in
theorem e_X11_minute_179 (Q : ix_R → Prop) (ls : ix_L) (st : List ix_V) (μ : ix_M) : ix_Ev o_X11_minute Q (179, ls, st, μ) = ix_iast 180 (ix_Ev o_X11_minute Q) Q ls st μ := ix_Ev.eq (a_X11_minute launch0) rfl ls st μ
set_option maxRecDepth 20000 in
theorem e_X11_minute_180 (Q : ix_R → Prop) (ls : ix_L) (st : List ix_V) (μ : ix_M) : ix_Ev o_X11_minute Q (180, ls, st, μ) = ix_vret (ix_Ev o_X11_minute Q) Q ls st μ := ix_Ev.eq (a_X11_minute launch0) rfl ls st μ
def MJ (μ μ1 : ix_M) (st at1 ba : Nat → Int32) : Prop := Fx [113, 119, 120] μ μ1 ∧ MI (μ 113) (μ1 113) st at1 ba
theorem MJ.scr {μ μ1 μ2 : ix_M} {st at1 ba : Nat → Int32} (h : MJ μ μ1 st at1 ba) (hF : Fx [119, 120] μ1 μ2) : MJ μ μ2 st at1 ba := ⟨h.1.tr (hF.mono (by simp)), by rw [hF 113 (by decide)]; exact h.2⟩
theorem MJ.st {μ μ1 : ix_M} {st at1 ba : Nat → Int32} (h : MJ μ μ1 st at1 ba) {c : Nat} (hc : c < 16) (x : Int32) : MJ μ (ix_up μ1 113 (34 + c) x) (upd st c x) at1 ba := ⟨h.1.up (by simp), by rw [ix_up_row]; exact h.2.st hc x⟩
theorem MJ.at {μ μ1 : ix_M} {st at1 ba : Nat → Int32} (h : MJ μ μ1 st at1 ba) {c : Nat} (hc : c < 8) (x : Int32) : MJ μ (ix_up μ1 113 (52 + 4 * c) x) st (upd at1 c x) ba := ⟨h.1.up (by simp), by rw [ix_up_row]; exact h.2.at hc x⟩
theorem MJ.ba {μ μ1 : ix_M} {st at1 ba : Nat → Int32} (h : MJ μ μ1 st at1 ba) {c : Nat} (hc : c < 8) (x : Int32) : MJ μ (ix_up μ1 113 (53 + 4 * c) x) st at1 (upd ba c x) := ⟨h.1.up (by simp), by rw [ix_up_row]; exact h.2.ba hc x⟩
theorem MJ.rest {μ μ1 : ix_M} {st at1 ba : Nat → Int32} (h : MJ μ μ1 st at1 ba) {j : Nat} (hj : j < 34 ∨ 82 ≤ j ∨ (50 ≤ j ∧ j < 82 ∧ (j - 50) % 4 < 2)) : μ1 113 j = μ 113 j := h.2.2.2.2 j hj
abbrev mEv (Q : ix_R → Prop) (D : Int32) (pc : Nat) (i : Int32) (x3 : Option ix_V) (μ : ix_M) : Prop := ix_Ev o_X11_minute Q (pc, [some (vr 10 112), some (vi D), some (vi i), x3], [], μ)
theorem l1_X11_minute {D : Int32} {μ : ix_M} {Q : ix_R → Prop} {ds : List Int32} (hds : TxtM (μ 113) 152 ds) (hD : D = 0 ↔ ¬ pL (nv (μ 113)) = 0) {at1 ba : Nat → Int32}
    (K : ∀ μ2 st2, MJ μ μ2 st2 at1 ba → (∀ j, j < 16 → st2 j = pSt ds (nv (μ 113)) j) → mEv Q D 60 0 none μ2) :
    ∀ (k i : Nat) (μ1 : ix_M) (st : Nat → Int32), i + k = 16 → MJ μ μ1 st at1 ba → (∀ j, j < 16 → st j = if j < i then pSt ds (nv (μ 113)) j else μ 113 (34 + j)) → mEv Q D 7 (nI i) none μ1 := by
  intro k
  induction k with
  | zero =>
    intro i μ1 st hi hP hst
    have hi : i = 16 := hi
    subst hi
    unfold mEv
    rw [e_X11_minute_7]
    simp (decide := true) only [e_X11_minute_0, e_X11_minute_1, e_X11_minute_4, e_X11_minute_5, e_X11_minute_6, e_X11_minute_8, e_X11_minute_10, e_X11_minute_13, e_X11_minute_14, e_X11_minute_17, e_X11_minute_19, e_X11_minute_20, e_X11_minute_21, e_X11_minute_22, e_X11_minute_25, e_X11_minute_27, e_X11_minute_28, e_X11_minute_29, e_X11_minute_30, e_X11_minute_31, e_X11_minute_34, e_X11_minute_35, e_X11_minute_36, e_X11_minute_39, e_X11_minute_42, e_X11_minute_44, e_X11_minute_45, e_X11_minute_46, e_X11_minute_48, e_X11_minute_51, e_X11_minute_52, e_X11_minute_55, e_X11_minute_58, e_X11_minute_59, e_X11_minute_61, e_X11_minute_62, e_X11_minute_65, e_X11_minute_66, e_X11_minute_67, e_X11_minute_70, e_X11_minute_71, e_X11_minute_72, e_X11_minute_75, e_X11_minute_78, e_X11_minute_81, e_X11_minute_82, e_X11_minute_84, e_X11_minute_85, e_X11_minute_88, e_X11_minute_89, e_X11_minute_90, e_X11_minute_93, e_X11_minute_94, e_X11_minute_95, e_X11_minute_98, e_X11_minute_101, e_X11_minute_102, e_X11_minute_105, e_X11_minute_108, e_X11_minute_109, e_X11_minute_110, e_X11_minute_111, e_X11_minute_114, e_X11_minute_117, e_X11_minute_118, e_X11_minute_119, e_X11_minute_122, e_X11_minute_123, e_X11_minute_124, e_X11_minute_127, e_X11_minute_128, e_X11_minute_129, e_X11_minute_130, e_X11_minute_133, e_X11_minute_134, e_X11_minute_137, e_X11_minute_138, e_X11_minute_139, e_X11_minute_142, e_X11_minute_143, e_X11_minute_144, e_X11_minute_147, e_X11_minute_148, e_X11_minute_149, e_X11_minute_150, e_X11_minute_151, e_X11_minute_154, e_X11_minute_155, e_X11_minute_156, e_X11_minute_159, e_X11_minute_160, e_X11_minute_163, e_X11_minute_164, e_X11_minute_167, e_X11_minute_170, e_X11_minute_171, e_X11_minute_174, e_X11_minute_175, e_X11_minute_176, e_X11_minute_177, e_X11_minute_178, e_X11_minute_179, e_X11_minute_180, vi, vl, vr, oc_X11_boatAt, T_X11_boatAt, oc_X11_boatIs, T_X11_boatIs, oc_X11_goes, T_X11_goes, oc_X11_held, T_X11_held, oc_X11_isDark, T_X11_isDark, oc_X11_isDipped, T_X11_isDipped, oc_X11_lost, T_X11_lost, oc_X11_next, T_X11_next, oc_X11_settles, T_X11_settles, oc_X11_wayNow, T_X11_wayNow, ix_push, ix_iload, ix_lload, ix_aload, ix_istore, ix_astore, ix_iinc, ix_bin, ix_div, ix_un, ix_i2l, ix_l2i, ix_lbin, ix_lsh, ix_lcmp, ix_dup, ix_dup2, ix_pop, ix_if, ix_cmp, ix_goto, ix_switch, ix_sw, ix_iret, ix_zret, ix_vret, ix_aret, ix_geti, ix_getr, ix_puti, ix_putz, ix_puts, ix_gets, ix_iald, ix_iast, ix_alen, ix_aald, ix_gval, ix_gcod, ix_bald, ix_blen, ix_sald, ix_nret, ix_math2, ix_math1, ix_acopy, ml_113, ml_114, ml_115, ml_116, ml_118, ml_119, ml_120, ml_121, ml_122, ml_123, ml_124, ml_125, ml_126, mv_0, mv_1, mv_2, mv_3, mv_4, mv_5, mB_or, Nat.add_assoc, Int32.reduceLT, Int32.reduceLE, Int32.reduceToNatClampNeg, Int32.reduceSub, Int32.reduceAdd, Nat.reduceAdd, Nat.reduceLeDiff, true_or, or_true, or_false, false_or, not_false_eq_true, not_true_eq_false, false_implies, true_implies, implies_true, and_self, mB_0, mB_01, Classical.not_not, Nat.zero_le, List.getElem?_cons_zero, List.getElem?_cons_succ, List.set_cons_zero, List.set_cons_succ, ix_nl, ix_cs, true_and, and_true, Option.toList_some, Option.toList_none, List.cons_append, List.nil_append]
    exact K μ1 st hP (fun j hj => by rw [hst j hj, if_pos hj])
  | succ k ih =>
    intro i μ1 st hi hP hst
    have hng : ¬ (16 : Int32) ≤ nI i := by
      rw [fa_lit 16]
      exact nI_ge (by omega) (by decide)
    have h16 : i < 16 := by omega
    have h34 : 34 + nI i = nI (34 + i) := nI_add 34 i
    have i34 : vp_in (nI (34 + i)) 256 := vp_in_nI (by omega) (by decide)
    have c34 : (nI (34 + i)).toNatClampNeg = 34 + i := nI_clamp (by omega)
    have e2 : μ1 113 (34 + i) = μ 113 (34 + i) := by rw [hP.2.1 i h16, hst i h16, if_neg (by omega)]
    have e1 : μ1 113 (18 + i) = μ 113 (18 + i) := hP.rest (by omega)
    have e0 : μ1 113 0 = μ 113 0 := hP.rest (by omega)
    have v2 := nv_2 (μ 113) h16
    have v1 := nv_1 (μ 113) h16
    have v8 := nv_08 (μ 113)
    have key : ∀ μ2 x, MJ μ μ2 st at1 ba → x = pSt ds (nv (μ 113)) i → mEv Q D 7 (nI i + 1) none (ix_up μ2 113 (34 + i) x) := by
      intro μ2 x h2 hx
      rw [nI_1]
      refine ih (i + 1) _ (upd st i x) (by omega) (h2.st h16 x) (fun j hj => ?_)
      unfold upd
      by_cases e : j = i
      · rw [if_pos e, e, if_pos (by omega), hx]
      · rw [if_neg e, hst j hj]
        by_cases e3 : j < i
        · rw [if_pos e3, if_pos (by omega)]
        · rw [if_neg e3, if_neg (by omega)]
    unfold mEv
    rw [e_X11_minute_7]
    simp (decide := true) only [e_X11_minute_0, e_X11_minute_1, e_X11_minute_4, e_X11_minute_5, e_X11_minute_6, e_X11_minute_8, e_X11_minute_10, e_X11_minute_13, e_X11_minute_14, e_X11_minute_17, e_X11_minute_19, e_X11_minute_20, e_X11_minute_21, e_X11_minute_22, e_X11_minute_25, e_X11_minute_27, e_X11_minute_28, e_X11_minute_29, e_X11_minute_30, e_X11_minute_31, e_X11_minute_34, e_X11_minute_35, e_X11_minute_36, e_X11_minute_39, e_X11_minute_42, e_X11_minute_44, e_X11_minute_45, e_X11_minute_46, e_X11_minute_48, e_X11_minute_51, e_X11_minute_52, e_X11_minute_55, e_X11_minute_58, e_X11_minute_59, e_X11_minute_61, e_X11_minute_62, e_X11_minute_65, e_X11_minute_66, e_X11_minute_67, e_X11_minute_70, e_X11_minute_71, e_X11_minute_72, e_X11_minute_75, e_X11_minute_78, e_X11_minute_81, e_X11_minute_82, e_X11_minute_84, e_X11_minute_85, e_X11_minute_88, e_X11_minute_89, e_X11_minute_90, e_X11_minute_93, e_X11_minute_94, e_X11_minute_95, e_X11_minute_98, e_X11_minute_101, e_X11_minute_102, e_X11_minute_105, e_X11_minute_108, e_X11_minute_109, e_X11_minute_110, e_X11_minute_111, e_X11_minute_114, e_X11_minute_117, e_X11_minute_118, e_X11_minute_119, e_X11_minute_122, e_X11_minute_123, e_X11_minute_124, e_X11_minute_127, e_X11_minute_128, e_X11_minute_129, e_X11_minute_130, e_X11_minute_133, e_X11_minute_134, e_X11_minute_137, e_X11_minute_138, e_X11_minute_139, e_X11_minute_142, e_X11_minute_143, e_X11_minute_144, e_X11_minute_147, e_X11_minute_148, e_X11_minute_149, e_X11_minute_150, e_X11_minute_151, e_X11_minute_154, e_X11_minute_155, e_X11_minute_156, e_X11_minute_159, e_X11_minute_160, e_X11_minute_163, e_X11_minute_164, e_X11_minute_167, e_X11_minute_170, e_X11_minute_171, e_X11_minute_174, e_X11_minute_175, e_X11_minute_176, e_X11_minute_177, e_X11_minute_178, e_X11_minute_179, e_X11_minute_180, vi, vl, vr, oc_X11_boatAt, T_X11_boatAt, oc_X11_boatIs, T_X11_boatIs, oc_X11_goes, T_X11_goes, oc_X11_held, T_X11_held, oc_X11_isDark, T_X11_isDark, oc_X11_isDipped, T_X11_isDipped, oc_X11_lost, T_X11_lost, oc_X11_next, T_X11_next, oc_X11_settles, T_X11_settles, oc_X11_wayNow, T_X11_wayNow, ix_push, ix_iload, ix_lload, ix_aload, ix_istore, ix_astore, ix_iinc, ix_bin, ix_div, ix_un, ix_i2l, ix_l2i, ix_lbin, ix_lsh, ix_lcmp, ix_dup, ix_dup2, ix_pop, ix_if, ix_cmp, ix_goto, ix_switch, ix_sw, ix_iret, ix_zret, ix_vret, ix_aret, ix_geti, ix_getr, ix_puti, ix_putz, ix_puts, ix_gets, ix_iald, ix_iast, ix_alen, ix_aald, ix_gval, ix_gcod, ix_bald, ix_blen, ix_sald, ix_nret, ix_math2, ix_math1, ix_acopy, ml_113, ml_114, ml_115, ml_116, ml_118, ml_119, ml_120, ml_121, ml_122, ml_123, ml_124, ml_125, ml_126, mv_0, mv_1, mv_2, mv_3, mv_4, mv_5, mB_or, Nat.add_assoc, Int32.reduceLT, Int32.reduceLE, Int32.reduceToNatClampNeg, Int32.reduceSub, Int32.reduceAdd, Nat.reduceAdd, Nat.reduceLeDiff, true_or, or_true, or_false, false_or, not_false_eq_true, not_true_eq_false, false_implies, true_implies, implies_true, and_self, mB_0, mB_01, Classical.not_not, Nat.zero_le, List.getElem?_cons_zero, List.getElem?_cons_succ, List.set_cons_zero, List.set_cons_succ, ix_nl, ix_cs, true_and, and_true, Option.toList_some, Option.toList_none, List.cons_append, List.nil_append, hng, h34, i34, c34]
    refine ⟨fun c => key μ1 _ hP ?_, fun c => ⟨i, ds, rfl, h16, hds.fx (by decide) (fun j hj => hP.rest (by omega)), fun μ' hF => key μ' _ (hP.scr hF) ?_⟩⟩
    · unfold pSt
      rw [if_neg (hD.mp c), v2, e2, Int32.sub_eq_add_neg]
      rfl
    · unfold pSt
      rw [if_pos (by
        by_cases z : pL (nv (μ 113)) = 0
        · exact z
        · exact absurd (hD.mpr z) c), v2, v1, v8, e2, e1, e0]
      rfl
theorem l2_X11_minute {D : Int32} {μ : ix_M} {Q : ix_R → Prop} {N : Nat} (hN : N ≤ 8) (hb : μ 113 1 = nI N) (hat : ∀ b, b < 8 → ∃ c : Nat, c < 16 ∧ μ 113 (52 + 4 * b) = nI c) {s : (Nat → Int32) × (Nat → Int32)}
    (K : ∀ μ2 st2 ba2, MJ μ μ2 st2 (fun b => μ 113 (52 + 4 * b)) ba2 → (∀ j, j < 16 → st2 j = (pDp (nv (μ 113)) s N).1 j) → (∀ j, j < 8 → ba2 j = (pDp (nv (μ 113)) s N).2 j) → mEv Q D 83 0 none μ2) :
    ∀ (k i : Nat) (μ1 : ix_M) (st ba : Nat → Int32), i + k = N → MJ μ μ1 st (fun b => μ 113 (52 + 4 * b)) ba → (∀ j, j < 16 → st j = (pDp (nv (μ 113)) s i).1 j) → (∀ j, j < 8 → ba j = (pDp (nv (μ 113)) s i).2 j) → mEv Q D 60 (nI i) none μ1 := by
  intro k
  induction k with
  | zero =>
    intro i μ1 st ba hi hP h1 h2
    have hi : i = N := hi
    subst hi
    have e1 : μ1 113 1 = nI i := by rw [hP.rest (by omega)]; exact hb
    have hle : nI i ≤ nI i := Int32.le_refl _
    unfold mEv
    rw [e_X11_minute_60]
    simp (decide := true) only [e_X11_minute_0, e_X11_minute_1, e_X11_minute_4, e_X11_minute_5, e_X11_minute_6, e_X11_minute_8, e_X11_minute_10, e_X11_minute_13, e_X11_minute_14, e_X11_minute_17, e_X11_minute_19, e_X11_minute_20, e_X11_minute_21, e_X11_minute_22, e_X11_minute_25, e_X11_minute_27, e_X11_minute_28, e_X11_minute_29, e_X11_minute_30, e_X11_minute_31, e_X11_minute_34, e_X11_minute_35, e_X11_minute_36, e_X11_minute_39, e_X11_minute_42, e_X11_minute_44, e_X11_minute_45, e_X11_minute_46, e_X11_minute_48, e_X11_minute_51, e_X11_minute_52, e_X11_minute_55, e_X11_minute_58, e_X11_minute_59, e_X11_minute_61, e_X11_minute_62, e_X11_minute_65, e_X11_minute_66, e_X11_minute_67, e_X11_minute_70, e_X11_minute_71, e_X11_minute_72, e_X11_minute_75, e_X11_minute_78, e_X11_minute_81, e_X11_minute_82, e_X11_minute_84, e_X11_minute_85, e_X11_minute_88, e_X11_minute_89, e_X11_minute_90, e_X11_minute_93, e_X11_minute_94, e_X11_minute_95, e_X11_minute_98, e_X11_minute_101, e_X11_minute_102, e_X11_minute_105, e_X11_minute_108, e_X11_minute_109, e_X11_minute_110, e_X11_minute_111, e_X11_minute_114, e_X11_minute_117, e_X11_minute_118, e_X11_minute_119, e_X11_minute_122, e_X11_minute_123, e_X11_minute_124, e_X11_minute_127, e_X11_minute_128, e_X11_minute_129, e_X11_minute_130, e_X11_minute_133, e_X11_minute_134, e_X11_minute_137, e_X11_minute_138, e_X11_minute_139, e_X11_minute_142, e_X11_minute_143, e_X11_minute_144, e_X11_minute_147, e_X11_minute_148, e_X11_minute_149, e_X11_minute_150, e_X11_minute_151, e_X11_minute_154, e_X11_minute_155, e_X11_minute_156, e_X11_minute_159, e_X11_minute_160, e_X11_minute_163, e_X11_minute_164, e_X11_minute_167, e_X11_minute_170, e_X11_minute_171, e_X11_minute_174, e_X11_minute_175, e_X11_minute_176, e_X11_minute_177, e_X11_minute_178, e_X11_minute_179, e_X11_minute_180, vi, vl, vr, oc_X11_boatAt, T_X11_boatAt, oc_X11_boatIs, T_X11_boatIs, oc_X11_goes, T_X11_goes, oc_X11_held, T_X11_held, oc_X11_isDark, T_X11_isDark, oc_X11_isDipped, T_X11_isDipped, oc_X11_lost, T_X11_lost, oc_X11_next, T_X11_next, oc_X11_settles, T_X11_settles, oc_X11_wayNow, T_X11_wayNow, ix_push, ix_iload, ix_lload, ix_aload, ix_istore, ix_astore, ix_iinc, ix_bin, ix_div, ix_un, ix_i2l, ix_l2i, ix_lbin, ix_lsh, ix_lcmp, ix_dup, ix_dup2, ix_pop, ix_if, ix_cmp, ix_goto, ix_switch, ix_sw, ix_iret, ix_zret, ix_vret, ix_aret, ix_geti, ix_getr, ix_puti, ix_putz, ix_puts, ix_gets, ix_iald, ix_iast, ix_alen, ix_aald, ix_gval, ix_gcod, ix_bald, ix_blen, ix_sald, ix_nret, ix_math2, ix_math1, ix_acopy, ml_113, ml_114, ml_115, ml_116, ml_118, ml_119, ml_120, ml_121, ml_122, ml_123, ml_124, ml_125, ml_126, mv_0, mv_1, mv_2, mv_3, mv_4, mv_5, mB_or, Nat.add_assoc, Int32.reduceLT, Int32.reduceLE, Int32.reduceToNatClampNeg, Int32.reduceSub, Int32.reduceAdd, Nat.reduceAdd, Nat.reduceLeDiff, true_or, or_true, or_false, false_or, not_false_eq_true, not_true_eq_false, false_implies, true_implies, implies_true, and_self, mB_0, mB_01, Classical.not_not, Nat.zero_le, List.getElem?_cons_zero, List.getElem?_cons_succ, List.set_cons_zero, List.set_cons_succ, ix_nl, ix_cs, true_and, and_true, Option.toList_some, Option.toList_none, List.cons_append, List.nil_append, e1, hle]
    exact K μ1 st ba hP h1 h2
  | succ k ih =>
    intro i μ1 st ba hi hP h1 h2
    have h8 : i < 8 := by omega
    have e1 : μ1 113 1 = nI N := by rw [hP.rest (by omega)]; exact hb
    have hng : ¬ nI N ≤ nI i := nI_ge (by omega) (by omega)
    obtain ⟨c, hc16, hcat⟩ := hat i h8
    have hcc : (nI c).toNatClampNeg = c := nI_clamp (by omega)
    have e2 : μ1 113 (34 + c) = (pDp (nv (μ 113)) s i).1 c := by rw [hP.2.1 c hc16, h1 c hc16]
    have e7 : μ1 113 (53 + 4 * i) = (pDp (nv (μ 113)) s i).2 i := by rw [hP.2.2.2.1 i h8, h2 i h8]
    have e4 : μ1 113 (50 + 4 * i) = μ 113 (50 + 4 * i) := hP.rest (by omega)
    have e5 : μ1 113 (51 + 4 * i) = μ 113 (51 + 4 * i) := hP.rest (by omega)
    have v4 := nv_4 (μ 113) h8
    have v5 := nv_5 (μ 113) h8
    have v6 : (nv (μ 113) 6 i).toNatClampNeg = c := by rw [nv_6 (μ 113) h8, hcat, hcc]
    unfold mEv
    rw [e_X11_minute_60]
    simp (decide := true) only [e_X11_minute_0, e_X11_minute_1, e_X11_minute_4, e_X11_minute_5, e_X11_minute_6, e_X11_minute_8, e_X11_minute_10, e_X11_minute_13, e_X11_minute_14, e_X11_minute_17, e_X11_minute_19, e_X11_minute_20, e_X11_minute_21, e_X11_minute_22, e_X11_minute_25, e_X11_minute_27, e_X11_minute_28, e_X11_minute_29, e_X11_minute_30, e_X11_minute_31, e_X11_minute_34, e_X11_minute_35, e_X11_minute_36, e_X11_minute_39, e_X11_minute_42, e_X11_minute_44, e_X11_minute_45, e_X11_minute_46, e_X11_minute_48, e_X11_minute_51, e_X11_minute_52, e_X11_minute_55, e_X11_minute_58, e_X11_minute_59, e_X11_minute_61, e_X11_minute_62, e_X11_minute_65, e_X11_minute_66, e_X11_minute_67, e_X11_minute_70, e_X11_minute_71, e_X11_minute_72, e_X11_minute_75, e_X11_minute_78, e_X11_minute_81, e_X11_minute_82, e_X11_minute_84, e_X11_minute_85, e_X11_minute_88, e_X11_minute_89, e_X11_minute_90, e_X11_minute_93, e_X11_minute_94, e_X11_minute_95, e_X11_minute_98, e_X11_minute_101, e_X11_minute_102, e_X11_minute_105, e_X11_minute_108, e_X11_minute_109, e_X11_minute_110, e_X11_minute_111, e_X11_minute_114, e_X11_minute_117, e_X11_minute_118, e_X11_minute_119, e_X11_minute_122, e_X11_minute_123, e_X11_minute_124, e_X11_minute_127, e_X11_minute_128, e_X11_minute_129, e_X11_minute_130, e_X11_minute_133, e_X11_minute_134, e_X11_minute_137, e_X11_minute_138, e_X11_minute_139, e_X11_minute_142, e_X11_minute_143, e_X11_minute_144, e_X11_minute_147, e_X11_minute_148, e_X11_minute_149, e_X11_minute_150, e_X11_minute_151, e_X11_minute_154, e_X11_minute_155, e_X11_minute_156, e_X11_minute_159, e_X11_minute_160, e_X11_minute_163, e_X11_minute_164, e_X11_minute_167, e_X11_minute_170, e_X11_minute_171, e_X11_minute_174, e_X11_minute_175, e_X11_minute_176, e_X11_minute_177, e_X11_minute_178, e_X11_minute_179, e_X11_minute_180, vi, vl, vr, oc_X11_boatAt, T_X11_boatAt, oc_X11_boatIs, T_X11_boatIs, oc_X11_goes, T_X11_goes, oc_X11_held, T_X11_held, oc_X11_isDark, T_X11_isDark, oc_X11_isDipped, T_X11_isDipped, oc_X11_lost, T_X11_lost, oc_X11_next, T_X11_next, oc_X11_settles, T_X11_settles, oc_X11_wayNow, T_X11_wayNow, ix_push, ix_iload, ix_lload, ix_aload, ix_istore, ix_astore, ix_iinc, ix_bin, ix_div, ix_un, ix_i2l, ix_l2i, ix_lbin, ix_lsh, ix_lcmp, ix_dup, ix_dup2, ix_pop, ix_if, ix_cmp, ix_goto, ix_switch, ix_sw, ix_iret, ix_zret, ix_vret, ix_aret, ix_geti, ix_getr, ix_puti, ix_putz, ix_puts, ix_gets, ix_iald, ix_iast, ix_alen, ix_aald, ix_gval, ix_gcod, ix_bald, ix_blen, ix_sald, ix_nret, ix_math2, ix_math1, ix_acopy, ml_113, ml_114, ml_115, ml_116, ml_118, ml_119, ml_120, ml_121, ml_122, ml_123, ml_124, ml_125, ml_126, mv_0, mv_1, mv_2, mv_3, mv_4, mv_5, mB_or, Nat.add_assoc, Int32.reduceLT, Int32.reduceLE, Int32.reduceToNatClampNeg, Int32.reduceSub, Int32.reduceAdd, Nat.reduceAdd, Nat.reduceLeDiff, true_or, or_true, or_false, false_or, not_false_eq_true, not_true_eq_false, false_implies, true_implies, implies_true, and_self, mB_0, mB_01, Classical.not_not, Nat.zero_le, List.getElem?_cons_zero, List.getElem?_cons_succ, List.set_cons_zero, List.set_cons_succ, ix_nl, ix_cs, true_and, and_true, Option.toList_some, Option.toList_none, List.cons_append, List.nil_append, e1, hng]
    refine ⟨i, c, rfl, h8, (hP.2.2.1 i h8).trans hcat, hc16, ?_⟩
    rw [nI_1]
    refine ih (i + 1) _ _ _ (by omega) ((hP.st hc16 _).ba h8 _) (fun j hj => ?_) (fun j hj => ?_)
    · simp only [pDp, v4, v5, v6, e2, e7, e4, e5, upd]
      split
      · rfl
      · exact h1 j hj
    · simp only [pDp, v4, v5, v6, e2, e7, e4, e5, upd]
      split
      · rfl
      · exact h2 j hj
theorem nNext_eq : ∀ C, C < 16 → ∀ w : Int32, nNext (nI C) w = mBes (nI C) w := by
  have h : ∀ C, C < 16 → (nNext (nI C) 1 = mBes (nI C) 1 ∧ nNext (nI C) 2 = mBes (nI C) 2 ∧ nNext (nI C) 3 = mBes (nI C) 3 ∧ nNext (nI C) 4 = mBes (nI C) 4) := by decide +kernel
  intro C hC w
  obtain ⟨h1, h2, h3, h4⟩ := h C hC
  by_cases e1 : w = 1
  · rw [e1]; exact h1
  by_cases e2 : w = 2
  · rw [e2]; exact h2
  by_cases e3 : w = 3
  · rw [e3]; exact h3
  by_cases e4 : w = 4
  · rw [e4]; exact h4
  simp only [nNext, mBes, e1, e2, e3, e4, if_false]
theorem nGoes_eq {M W : Nat} (hM : M < 30000) (hW : W < 5) (k m : Int32) : nGoes k m (nI W) (nI M) = mGoes k m (nI W) (nI M) := by
  have h2 : nI M - nI M / 2 * 2 = nI (M % 2) := pk_rem (d := 2) (by omega) (by decide) (by decide)
  have hp : (if nI M - nI M / 2 * 2 = 1 then (0 : Int32) else nI W) = (if nI M - nI M / 2 * 2 = 0 then nI W else 0) := by
    rw [h2]
    rcases Nat.mod_two_eq_zero_or_one M with e | e <;> rw [e]
    · rw [if_neg (by decide), if_pos (by decide)]
    · rw [if_pos (by decide), if_neg (by decide)]
  have h : ∀ W, W < 5 → (if nI W - nI W / 2 * 2 = 1 then 4 - nI W else nI W) = (if nI W = 1 then 3 else if nI W = 3 then 1 else nI W) ∧ (if nI W = 0 then 0 else nI W - nI W / 4 * 4 + 1) = mTurn (nI W) := by decide +kernel
  obtain ⟨a1, a2⟩ := h W hW
  simp only [nGoes, mGoes, hp, a1, a2]
theorem l3_X11_minute {D : Int32} {μ : ix_M} {Q : ix_R → Prop} {N M : Nat} (hN : N ≤ 8) (hb : μ 113 1 = nI N) (hM : M < 30000) (hmi : μ 113 0 = nI M) (hat : ∀ b, b < 8 → ∃ c : Nat, c < 16 ∧ μ 113 (52 + 4 * b) = nI c) (hwy : ∀ i, i < 6 → ∃ x : Nat, x < 5 ∧ μ 113 (6 + i) = nI x) {dl : List Int32} (hdl : TxtM (μ 113) 204 dl) {st ba0 : Nat → Int32}
    (K : ∀ μ2 at2 ba2, MJ μ μ2 st at2 ba2 → (∀ j, j < 8 → at2 j = pAt (μ 112 5) (μ 112 6) (nv (μ 113)) j) → (∀ j, j < 8 → ba2 j = pBa dl (nv (μ 113)) ba0 j) → Q (none, ix_up μ2 113 0 (μ2 113 0 + 1))) :
    ∀ (k i : Nat) (μ1 : ix_M) (at1 ba : Nat → Int32) (x3 : Option ix_V), i + k = N → MJ μ μ1 st at1 ba → (∀ j, j < 8 → at1 j = if j < i then pAt1 (μ 112 5) (μ 112 6) (nv (μ 113)) j else μ 113 (52 + 4 * j)) → (∀ j, j < 8 → ba j = if j < i then pBa1 dl (nv (μ 113)) ba0 j else ba0 j) → mEv Q D 83 (nI i) x3 μ1 := by
  have vn : pN (nv (μ 113)) = N := by unfold pN; rw [nv_07, hb]; exact nI_clamp (by omega)
  intro k
  induction k with
  | zero =>
    intro i μ1 at1 ba x3 hi hP h1 h2
    have hi : i = N := hi
    subst hi
    have e1 : μ1 113 1 = nI i := by rw [hP.rest (by omega)]; exact hb
    have hle : nI i ≤ nI i := Int32.le_refl _
    unfold mEv
    rw [e_X11_minute_83]
    simp (decide := true) only [e_X11_minute_0, e_X11_minute_1, e_X11_minute_4, e_X11_minute_5, e_X11_minute_6, e_X11_minute_8, e_X11_minute_10, e_X11_minute_13, e_X11_minute_14, e_X11_minute_17, e_X11_minute_19, e_X11_minute_20, e_X11_minute_21, e_X11_minute_22, e_X11_minute_25, e_X11_minute_27, e_X11_minute_28, e_X11_minute_29, e_X11_minute_30, e_X11_minute_31, e_X11_minute_34, e_X11_minute_35, e_X11_minute_36, e_X11_minute_39, e_X11_minute_42, e_X11_minute_44, e_X11_minute_45, e_X11_minute_46, e_X11_minute_48, e_X11_minute_51, e_X11_minute_52, e_X11_minute_55, e_X11_minute_58, e_X11_minute_59, e_X11_minute_61, e_X11_minute_62, e_X11_minute_65, e_X11_minute_66, e_X11_minute_67, e_X11_minute_70, e_X11_minute_71, e_X11_minute_72, e_X11_minute_75, e_X11_minute_78, e_X11_minute_81, e_X11_minute_82, e_X11_minute_84, e_X11_minute_85, e_X11_minute_88, e_X11_minute_89, e_X11_minute_90, e_X11_minute_93, e_X11_minute_94, e_X11_minute_95, e_X11_minute_98, e_X11_minute_101, e_X11_minute_102, e_X11_minute_105, e_X11_minute_108, e_X11_minute_109, e_X11_minute_110, e_X11_minute_111, e_X11_minute_114, e_X11_minute_117, e_X11_minute_118, e_X11_minute_119, e_X11_minute_122, e_X11_minute_123, e_X11_minute_124, e_X11_minute_127, e_X11_minute_128, e_X11_minute_129, e_X11_minute_130, e_X11_minute_133, e_X11_minute_134, e_X11_minute_137, e_X11_minute_138, e_X11_minute_139, e_X11_minute_142, e_X11_minute_143, e_X11_minute_144, e_X11_minute_147, e_X11_minute_148, e_X11_minute_149, e_X11_minute_150, e_X11_minute_151, e_X11_minute_154, e_X11_minute_155, e_X11_minute_156, e_X11_minute_159, e_X11_minute_160, e_X11_minute_163, e_X11_minute_164, e_X11_minute_167, e_X11_minute_170, e_X11_minute_171, e_X11_minute_174, e_X11_minute_175, e_X11_minute_176, e_X11_minute_177, e_X11_minute_178, e_X11_minute_179, e_X11_minute_180, vi, vl, vr, oc_X11_boatAt, T_X11_boatAt, oc_X11_boatIs, T_X11_boatIs, oc_X11_goes, T_X11_goes, oc_X11_held, T_X11_held, oc_X11_isDark, T_X11_isDark, oc_X11_isDipped, T_X11_isDipped, oc_X11_lost, T_X11_lost, oc_X11_next, T_X11_next, oc_X11_settles, T_X11_settles, oc_X11_wayNow, T_X11_wayNow, ix_push, ix_iload, ix_lload, ix_aload, ix_istore, ix_astore, ix_iinc, ix_bin, ix_div, ix_un, ix_i2l, ix_l2i, ix_lbin, ix_lsh, ix_lcmp, ix_dup, ix_dup2, ix_pop, ix_if, ix_cmp, ix_goto, ix_switch, ix_sw, ix_iret, ix_zret, ix_vret, ix_aret, ix_geti, ix_getr, ix_puti, ix_putz, ix_puts, ix_gets, ix_iald, ix_iast, ix_alen, ix_aald, ix_gval, ix_gcod, ix_bald, ix_blen, ix_sald, ix_nret, ix_math2, ix_math1, ix_acopy, ml_113, ml_114, ml_115, ml_116, ml_118, ml_119, ml_120, ml_121, ml_122, ml_123, ml_124, ml_125, ml_126, mv_0, mv_1, mv_2, mv_3, mv_4, mv_5, mB_or, Nat.add_assoc, Int32.reduceLT, Int32.reduceLE, Int32.reduceToNatClampNeg, Int32.reduceSub, Int32.reduceAdd, Nat.reduceAdd, Nat.reduceLeDiff, true_or, or_true, or_false, false_or, not_false_eq_true, not_true_eq_false, false_implies, true_implies, implies_true, and_self, mB_0, mB_01, Classical.not_not, Nat.zero_le, List.getElem?_cons_zero, List.getElem?_cons_succ, List.set_cons_zero, List.set_cons_succ, ix_nl, ix_cs, true_and, and_true, Option.toList_some, Option.toList_none, List.cons_append, List.nil_append, e1, hle]
    exact K μ1 at1 ba hP (fun j hj => by unfold pAt; rw [h1 j hj, vn, nv_6 (μ 113) hj]) (fun j hj => by unfold pBa; rw [h2 j hj, vn])
  | succ k ih =>
    intro i μ1 at1 ba x3 hi hP h1 h2
    have h8 : i < 8 := by omega
    have e1 : μ1 113 1 = nI N := by rw [hP.rest (by omega)]; exact hb
    have hng : ¬ nI N ≤ nI i := nI_ge (by omega) (by omega)
    have hx := bx i h8
    have e0 : μ1 113 0 = nI M := by rw [hP.rest (by omega)]; exact hmi
    have e4 : μ1 113 (50 + 4 * i) = μ 113 (50 + 4 * i) := hP.rest (by omega)
    have e5 : μ1 113 (51 + 4 * i) = μ 113 (51 + 4 * i) := hP.rest (by omega)
    obtain ⟨c, hc16, hcat⟩ := hat i h8
    have e6 : μ1 113 (52 + 4 * i) = nI c := by rw [hP.2.2.1 i h8, h1 i h8, if_neg (by omega)]; exact hcat
    have e7 : μ1 113 (53 + 4 * i) = ba0 i := by rw [hP.2.2.2.1 i h8, h2 i h8, if_neg (by omega)]
    have hr : rem (nI M) 6 = nI (M % 6) := rem6 (by omega)
    have hm6 : M % 6 < 6 := Nat.mod_lt _ (by decide)
    have h66 : 6 + nI (M % 6) = nI (6 + M % 6) := nI_add 6 _
    have i66 : vp_in (nI (6 + M % 6)) 256 := vp_in_nI (by omega) (by decide)
    have c66 : (nI (6 + M % 6)).toNatClampNeg = 6 + M % 6 := nI_clamp (by omega)
    have e66 : μ1 113 (6 + M % 6) = μ 113 (6 + M % 6) := hP.rest (by omega)
    obtain ⟨W, hW, hWy⟩ := hwy (M % 6) hm6
    have e112 : μ1 112 = μ 112 := hP.1 112 (by decide)
    have v4 := nv_4 (μ 113) h8
    have v5 := nv_5 (μ 113) h8
    have v6 : nv (μ 113) 6 i = nI c := by rw [nv_6 (μ 113) h8]; exact hcat
    have v8 : nv (μ 113) 0 8 = nI M := by rw [nv_08]; exact hmi
    have v9 := nv_09 (μ 113)
    have v3 : pWay (nv (μ 113)) = nI W := by
      unfold pWay
      rw [v8, hr, nI_clamp (by omega), nv_3 (μ 113) hm6, hWy]
    have key : ∀ x x3, x = pAt1 (μ 112 5) (μ 112 6) (nv (μ 113)) i → ∃ b dl', nI i = nI b ∧ b < 8 ∧ TxtM (ix_up μ1 113 (52 + 4 * i) x 113) 204 dl' ∧ ∀ μ' : ix_M, Fx [119, 120] (ix_up μ1 113 (52 + 4 * i) x) μ' → mEv Q D 83 (nI i + 1) x3 (ix_up μ' 113 (53 + 4 * i) (mMax0 (ix_up μ1 113 (52 + 4 * i) x 113 (53 + 4 * i) - lawL dl' (mLeaks (ix_up μ1 113 (52 + 4 * i) x 113 (50 + 4 * b)) (ix_up μ1 113 (52 + 4 * i) x 113 (51 + 4 * b))) (ix_up μ1 113 (52 + 4 * i) x 113 (53 + 4 * b)) (mLight (ix_up μ1 113 (52 + 4 * i) x 113 0) (ix_up μ1 113 (52 + 4 * i) x 113 2))))) := by
      intro x x3 hxx
      have hP2 := hP.at h8 x
      have g0 : ix_up μ1 113 (52 + 4 * i) x 113 0 = nI M := by rw [hP2.rest (by omega)]; exact hmi
      have g2 : ix_up μ1 113 (52 + 4 * i) x 113 2 = μ 113 2 := hP2.rest (by omega)
      have g4 : ix_up μ1 113 (52 + 4 * i) x 113 (50 + 4 * i) = μ 113 (50 + 4 * i) := hP2.rest (by omega)
      have g5 : ix_up μ1 113 (52 + 4 * i) x 113 (51 + 4 * i) = μ 113 (51 + 4 * i) := hP2.rest (by omega)
      have g7 : ix_up μ1 113 (52 + 4 * i) x 113 (53 + 4 * i) = ba0 i := by rw [ix_up_ap, if_neg (by omega)]; exact e7
      refine ⟨i, dl, rfl, h8, hdl.fx (by decide) (fun j hj => hP2.rest (by omega)), fun μ' hF => ?_⟩
      rw [g0, g2, g4, g5, g7, nI_1]
      refine ih (i + 1) _ _ _ x3 (by omega) ((hP2.scr hF).ba h8 _) (fun j hj => ?_) (fun j hj => ?_)
      · unfold upd
        by_cases e : j = i
        · rw [if_pos e, e, if_pos (by omega), hxx]
        · rw [if_neg e, h1 j hj]
          by_cases e3 : j < i
          · rw [if_pos e3, if_pos (by omega)]
          · rw [if_neg e3, if_neg (by omega)]
      · unfold upd
        by_cases e : j = i
        · rw [if_pos e, e, if_pos (by omega), pBa1, v4, v5, pL, v8, v9]
        · rw [if_neg e, h2 j hj]
          by_cases e3 : j < i
          · rw [if_pos e3, if_pos (by omega)]
          · rw [if_neg e3, if_neg (by omega)]
    unfold mEv
    rw [e_X11_minute_83]
    simp (decide := true) only [e_X11_minute_0, e_X11_minute_1, e_X11_minute_4, e_X11_minute_5, e_X11_minute_6, e_X11_minute_8, e_X11_minute_10, e_X11_minute_13, e_X11_minute_14, e_X11_minute_17, e_X11_minute_19, e_X11_minute_20, e_X11_minute_21, e_X11_minute_22, e_X11_minute_25, e_X11_minute_27, e_X11_minute_28, e_X11_minute_29, e_X11_minute_30, e_X11_minute_31, e_X11_minute_34, e_X11_minute_35, e_X11_minute_36, e_X11_minute_39, e_X11_minute_42, e_X11_minute_44, e_X11_minute_45, e_X11_minute_46, e_X11_minute_48, e_X11_minute_51, e_X11_minute_52, e_X11_minute_55, e_X11_minute_58, e_X11_minute_59, e_X11_minute_61, e_X11_minute_62, e_X11_minute_65, e_X11_minute_66, e_X11_minute_67, e_X11_minute_70, e_X11_minute_71, e_X11_minute_72, e_X11_minute_75, e_X11_minute_78, e_X11_minute_81, e_X11_minute_82, e_X11_minute_84, e_X11_minute_85, e_X11_minute_88, e_X11_minute_89, e_X11_minute_90, e_X11_minute_93, e_X11_minute_94, e_X11_minute_95, e_X11_minute_98, e_X11_minute_101, e_X11_minute_102, e_X11_minute_105, e_X11_minute_108, e_X11_minute_109, e_X11_minute_110, e_X11_minute_111, e_X11_minute_114, e_X11_minute_117, e_X11_minute_118, e_X11_minute_119, e_X11_minute_122, e_X11_minute_123, e_X11_minute_124, e_X11_minute_127, e_X11_minute_128, e_X11_minute_129, e_X11_minute_130, e_X11_minute_133, e_X11_minute_134, e_X11_minute_137, e_X11_minute_138, e_X11_minute_139, e_X11_minute_142, e_X11_minute_143, e_X11_minute_144, e_X11_minute_147, e_X11_minute_148, e_X11_minute_149, e_X11_minute_150, e_X11_minute_151, e_X11_minute_154, e_X11_minute_155, e_X11_minute_156, e_X11_minute_159, e_X11_minute_160, e_X11_minute_163, e_X11_minute_164, e_X11_minute_167, e_X11_minute_170, e_X11_minute_171, e_X11_minute_174, e_X11_minute_175, e_X11_minute_176, e_X11_minute_177, e_X11_minute_178, e_X11_minute_179, e_X11_minute_180, vi, vl, vr, oc_X11_boatAt, T_X11_boatAt, oc_X11_boatIs, T_X11_boatIs, oc_X11_goes, T_X11_goes, oc_X11_held, T_X11_held, oc_X11_isDark, T_X11_isDark, oc_X11_isDipped, T_X11_isDipped, oc_X11_lost, T_X11_lost, oc_X11_next, T_X11_next, oc_X11_settles, T_X11_settles, oc_X11_wayNow, T_X11_wayNow, ix_push, ix_iload, ix_lload, ix_aload, ix_istore, ix_astore, ix_iinc, ix_bin, ix_div, ix_un, ix_i2l, ix_l2i, ix_lbin, ix_lsh, ix_lcmp, ix_dup, ix_dup2, ix_pop, ix_if, ix_cmp, ix_goto, ix_switch, ix_sw, ix_iret, ix_zret, ix_vret, ix_aret, ix_geti, ix_getr, ix_puti, ix_putz, ix_puts, ix_gets, ix_iald, ix_iast, ix_alen, ix_aald, ix_gval, ix_gcod, ix_bald, ix_blen, ix_sald, ix_nret, ix_math2, ix_math1, ix_acopy, ml_113, ml_114, ml_115, ml_116, ml_118, ml_119, ml_120, ml_121, ml_122, ml_123, ml_124, ml_125, ml_126, mv_0, mv_1, mv_2, mv_3, mv_4, mv_5, mB_or, Nat.add_assoc, Int32.reduceLT, Int32.reduceLE, Int32.reduceToNatClampNeg, Int32.reduceSub, Int32.reduceAdd, Nat.reduceAdd, Nat.reduceLeDiff, true_or, or_true, or_false, false_or, not_false_eq_true, not_true_eq_false, false_implies, true_implies, implies_true, and_self, mB_0, mB_01, Classical.not_not, Nat.zero_le, List.getElem?_cons_zero, List.getElem?_cons_succ, List.set_cons_zero, List.set_cons_succ, ix_nl, ix_cs, true_and, and_true, Option.toList_some, Option.toList_none, List.cons_append, List.nil_append, e1, hng, hx, e0, hr, h66, i66, c66, e66, e112, e6, hWy]
    refine ⟨fun c0 => key _ _ ?_, fun c0 => ⟨i, rfl, h8, key _ _ ?_⟩⟩
    · rw [pAt1, if_pos c0, v6, nNext_eq c hc16]
    · rw [pAt1, if_neg c0, v6, v4, v5, v3, v8, nNext_eq c hc16, e4, e5, nGoes_eq hM hW]
theorem pDp_cng {v : WV} : ∀ (n : Nat) (s s' : (Nat → Int32) × (Nat → Int32)), n ≤ 8 → (∀ b, b < 8 → ∃ c : Nat, c < 16 ∧ v 6 b = nI c) → (∀ j, j < 16 → s.1 j = s'.1 j) → (∀ j, j < 8 → s.2 j = s'.2 j) → (∀ j, j < 16 → (pDp v s n).1 j = (pDp v s' n).1 j) ∧ ∀ j, j < 8 → (pDp v s n).2 j = (pDp v s' n).2 j
  | 0, s, s', _, _, h1, h2 => ⟨h1, h2⟩
  | n + 1, s, s', hn, hat, h1, h2 => by
    obtain ⟨g1, g2⟩ := pDp_cng n s s' (by omega) hat h1 h2
    obtain ⟨c, hc, hv⟩ := hat n (by omega)
    have hcc : (nI c).toNatClampNeg = c := nI_clamp (by omega)
    have a1 := g1 c hc
    have a2 := g2 n (by omega)
    refine ⟨fun j hj => ?_, fun j hj => ?_⟩
    · simp only [pDp, hv, hcc, a1, a2, upd]
      split
      · rfl
      · exact g1 j hj
    · simp only [pDp, hv, hcc, a1, a2, upd]
      split
      · rfl
      · exact g2 j hj
theorem pL_01 (v : WV) : pL v = 0 ↔ rem (v 0 8) 20 < v 0 9 := by
  unfold pL mLight
  by_cases h : v 0 9 ≤ rem (v 0 8) 20
  · rw [if_pos h]
    exact ⟨fun z => absurd z (by decide), fun z => absurd h (Int32.not_le.mpr z)⟩
  · rw [if_neg h]
    exact ⟨fun _ => Int32.not_le.mp h, fun _ => rfl⟩
theorem r_X11_minute (o : Nat) (μ : ix_M) (Q : ix_R → Prop) (ok_o : o < ix_N ∧ ix_tag o = 10) (hT : T_X11_minute o μ Q) : ix_Ev o_X11_minute Q (0, [some (vr 10 o), none, none, none], [], μ) := by
  obtain rfl := ok_10 o ok_o.1 ok_o.2
  obtain ⟨⟨⟨N, hN, hb⟩, ⟨M, hM, hmi⟩, hat⟩, hwy, ds, dl, hds, hdl, hQ⟩ := hT
  have hb' : μ 113 1 = nI N := hb
  have hmi' : μ 113 0 = nI M := hmi
  have hat' : ∀ b, b < 8 → ∃ c : Nat, c < 16 ∧ μ 113 (52 + 4 * b) = nI c := fun b hb => by
    obtain ⟨c, h1, h2⟩ := hat b hb
    exact ⟨c, h1, by rw [← nv_6 (μ 113) hb]; exact h2⟩
  have hwy' : ∀ i, i < 6 → ∃ x : Nat, x < 5 ∧ μ 113 (6 + i) = nI x := fun i hi => by
    obtain ⟨c, h1, h2⟩ := hwy i hi
    exact ⟨c, h1, by rw [← nv_3 (μ 113) hi]; exact h2⟩
  have vn : pN (nv (μ 113)) = N := by unfold pN; rw [nv_07, hb']; exact nI_clamp (by omega)
  simp (decide := true) only [e_X11_minute_0, e_X11_minute_1, e_X11_minute_4, e_X11_minute_5, e_X11_minute_6, e_X11_minute_8, e_X11_minute_10, e_X11_minute_13, e_X11_minute_14, e_X11_minute_17, e_X11_minute_19, e_X11_minute_20, e_X11_minute_21, e_X11_minute_22, e_X11_minute_25, e_X11_minute_27, e_X11_minute_28, e_X11_minute_29, e_X11_minute_30, e_X11_minute_31, e_X11_minute_34, e_X11_minute_35, e_X11_minute_36, e_X11_minute_39, e_X11_minute_42, e_X11_minute_44, e_X11_minute_45, e_X11_minute_46, e_X11_minute_48, e_X11_minute_51, e_X11_minute_52, e_X11_minute_55, e_X11_minute_58, e_X11_minute_59, e_X11_minute_61, e_X11_minute_62, e_X11_minute_65, e_X11_minute_66, e_X11_minute_67, e_X11_minute_70, e_X11_minute_71, e_X11_minute_72, e_X11_minute_75, e_X11_minute_78, e_X11_minute_81, e_X11_minute_82, e_X11_minute_84, e_X11_minute_85, e_X11_minute_88, e_X11_minute_89, e_X11_minute_90, e_X11_minute_93, e_X11_minute_94, e_X11_minute_95, e_X11_minute_98, e_X11_minute_101, e_X11_minute_102, e_X11_minute_105, e_X11_minute_108, e_X11_minute_109, e_X11_minute_110, e_X11_minute_111, e_X11_minute_114, e_X11_minute_117, e_X11_minute_118, e_X11_minute_119, e_X11_minute_122, e_X11_minute_123, e_X11_minute_124, e_X11_minute_127, e_X11_minute_128, e_X11_minute_129, e_X11_minute_130, e_X11_minute_133, e_X11_minute_134, e_X11_minute_137, e_X11_minute_138, e_X11_minute_139, e_X11_minute_142, e_X11_minute_143, e_X11_minute_144, e_X11_minute_147, e_X11_minute_148, e_X11_minute_149, e_X11_minute_150, e_X11_minute_151, e_X11_minute_154, e_X11_minute_155, e_X11_minute_156, e_X11_minute_159, e_X11_minute_160, e_X11_minute_163, e_X11_minute_164, e_X11_minute_167, e_X11_minute_170, e_X11_minute_171, e_X11_minute_174, e_X11_minute_175, e_X11_minute_176, e_X11_minute_177, e_X11_minute_178, e_X11_minute_179, e_X11_minute_180, vi, vl, vr, oc_X11_boatAt, T_X11_boatAt, oc_X11_boatIs, T_X11_boatIs, oc_X11_goes, T_X11_goes, oc_X11_held, T_X11_held, oc_X11_isDark, T_X11_isDark, oc_X11_isDipped, T_X11_isDipped, oc_X11_lost, T_X11_lost, oc_X11_next, T_X11_next, oc_X11_settles, T_X11_settles, oc_X11_wayNow, T_X11_wayNow, ix_push, ix_iload, ix_lload, ix_aload, ix_istore, ix_astore, ix_iinc, ix_bin, ix_div, ix_un, ix_i2l, ix_l2i, ix_lbin, ix_lsh, ix_lcmp, ix_dup, ix_dup2, ix_pop, ix_if, ix_cmp, ix_goto, ix_switch, ix_sw, ix_iret, ix_zret, ix_vret, ix_aret, ix_geti, ix_getr, ix_puti, ix_putz, ix_puts, ix_gets, ix_iald, ix_iast, ix_alen, ix_aald, ix_gval, ix_gcod, ix_bald, ix_blen, ix_sald, ix_nret, ix_math2, ix_math1, ix_acopy, ml_113, ml_114, ml_115, ml_116, ml_118, ml_119, ml_120, ml_121, ml_122, ml_123, ml_124, ml_125, ml_126, mv_0, mv_1, mv_2, mv_3, mv_4, mv_5, mB_or, Nat.add_assoc, Int32.reduceLT, Int32.reduceLE, Int32.reduceToNatClampNeg, Int32.reduceSub, Int32.reduceAdd, Nat.reduceAdd, Nat.reduceLeDiff, true_or, or_true, or_false, false_or, not_false_eq_true, not_true_eq_false, false_implies, true_implies, implies_true, and_self, mB_0, mB_01, Classical.not_not, Nat.zero_le, List.getElem?_cons_zero, List.getElem?_cons_succ, List.set_cons_zero, List.set_cons_succ, ix_nl, ix_cs, true_and, and_true, Option.toList_some, Option.toList_none, List.cons_append, List.nil_append]
  refine l1_X11_minute hds ?_ (at1 := fun b => μ 113 (52 + 4 * b)) (ba := fun b => μ 113 (53 + 4 * b)) (fun μ2 st2 hP2 hst2 => ?_) 16 0 μ (fun c => μ 113 (34 + c)) rfl ⟨Fx.rf, fun _ _ => rfl, fun _ _ => rfl, fun _ _ => rfl, fun _ _ => rfl⟩ (fun j hj => by rw [if_neg (Nat.not_lt_zero j)])
  · rw [pL_01, nv_08, nv_09]
    by_cases z : rem (μ 113 0) 20 < μ 113 2
    · rw [mB, if_pos z]
      exact ⟨fun y => absurd y (by decide), fun y => absurd z y⟩
    · rw [mB, if_neg z]
      exact ⟨fun _ => z, fun _ => rfl⟩
  have c0 := pDp_cng (v := nv (μ 113)) N (st2, fun b => μ 113 (53 + 4 * b)) (pSt ds (nv (μ 113)), nv (μ 113) 7) hN hat hst2 (fun j hj => (nv_7 (μ 113) hj).symm)
  refine l2_X11_minute hN hb' hat' (s := (st2, fun b => μ 113 (53 + 4 * b))) (fun μ3 st3 ba3 hP3 h31 h32 => ?_) N 0 μ2 st2 _ (by omega) hP2 (fun _ _ => rfl) (fun _ _ => rfl)
  refine l3_X11_minute hN hb' hM hmi' hat' hwy' hdl (ba0 := ba3) (fun μ4 at4 ba4 hP4 h41 h42 => ?_) N 0 μ3 _ ba3 none (by omega) hP3 (fun j hj => by rw [if_neg (Nat.not_lt_zero j)]) (fun j hj => by rw [if_neg (Nat.not_lt_zero j)])
  have e0 : μ4 113 0 = nI M := by rw [hP4.rest (by omega)]; exact hmi'
  refine hQ _ (hP4.1.up (by simp)) ?_ (fun j hj => ?_)
  · have hst : ∀ j, j < 16 → st3 j = (pDD ds (nv (μ 113))).1 j := fun j hj => by rw [h31 j hj, c0.1 j hj, pDD, vn]
    have hba : ∀ j, j < 8 → ba3 j = (pDD ds (nv (μ 113))).2 j := fun j hj => by rw [h32 j hj, c0.2 j hj, pDD, vn]
    have r1 : ∀ j, j ≠ 0 → ix_up μ4 113 0 (μ4 113 0 + 1) 113 j = μ4 113 j := fun j hj => by rw [ix_up_ap, if_neg (by omega)]
    funext r i
    by_cases hw : wok r i = true
    · rw [nv_at hw, pV, if_pos hw]
      have hr : r ≤ 7 := by
        unfold wok at hw
        simp at hw
        omega
      have h8 : 4 ≤ r → i < 8 := by
        intro z
        unfold wok at hw
        simp at hw
        omega
      have h16 : r = 1 ∨ r = 2 → i < 16 := by
        intro z
        unfold wok at hw
        simp at hw
        omega
      have h6 : r = 3 → i < 6 := by
        intro z
        unfold wok at hw
        simp at hw
        omega
      have h3 : r = 0 → i = 7 ∨ i = 8 ∨ i = 9 := by
        intro z
        unfold wok at hw
        simp at hw
        omega
      rcases (show r = 0 ∨ r = 1 ∨ r = 2 ∨ r = 3 ∨ r = 4 ∨ r = 5 ∨ r = 6 ∨ r = 7 by omega) with rfl | rfl | rfl | rfl | rfl | rfl | rfl | rfl
      · rcases h3 rfl with rfl | rfl | rfl
        · show ix_up μ4 113 0 (μ4 113 0 + 1) 113 1 = μ 113 1
          rw [r1 1 (by decide), hP4.rest (by omega)]
        · show ix_up μ4 113 0 (μ4 113 0 + 1) 113 0 = μ 113 0 + 1
          rw [ix_up_k, e0, hmi']
        · show ix_up μ4 113 0 (μ4 113 0 + 1) 113 2 = μ 113 2
          rw [r1 2 (by decide), hP4.rest (by omega)]
      · have hi := h16 (Or.inl rfl)
        show ix_up μ4 113 0 (μ4 113 0 + 1) 113 (18 + i) = nv (μ 113) 1 i
        rw [r1 _ (by omega), hP4.rest (by omega), nv_1 _ hi]
      · have hi := h16 (Or.inr rfl)
        show ix_up μ4 113 0 (μ4 113 0 + 1) 113 (34 + i) = (pDD ds (nv (μ 113))).1 i
        rw [r1 _ (by omega), hP4.2.1 i hi, hst i hi]
      · have hi := h6 rfl
        show ix_up μ4 113 0 (μ4 113 0 + 1) 113 (6 + i) = nv (μ 113) 3 i
        rw [r1 _ (by omega), hP4.rest (by omega), nv_3 _ hi]
      · have hi := h8 (by decide)
        show ix_up μ4 113 0 (μ4 113 0 + 1) 113 (50 + 4 * i) = nv (μ 113) 4 i
        rw [r1 _ (by omega), hP4.rest (by omega), nv_4 _ hi]
      · have hi := h8 (by decide)
        show ix_up μ4 113 0 (μ4 113 0 + 1) 113 (50 + 4 * i + 1) = nv (μ 113) 5 i
        rw [r1 _ (by omega), hP4.rest (by omega), nv_5 _ hi]
        congr 1
        omega
      · have hi := h8 (by decide)
        show ix_up μ4 113 0 (μ4 113 0 + 1) 113 (50 + 4 * i + 2) = pAt (μ 112 5) (μ 112 6) (nv (μ 113)) i
        rw [r1 _ (by omega), show 50 + 4 * i + 2 = 52 + 4 * i by omega, hP4.2.2.1 i hi, h41 i hi]
      · have hi := h8 (by decide)
        show ix_up μ4 113 0 (μ4 113 0 + 1) 113 (50 + 4 * i + 3) = pBa dl (nv (μ 113)) (pDD ds (nv (μ 113))).2 i
        rw [r1 _ (by omega), show 50 + 4 * i + 3 = 53 + 4 * i by omega, hP4.2.2.2.1 i hi, h42 i hi]
        unfold pBa pBa1
        rw [hba i hi]
    · unfold nv pV
      rw [if_neg hw, if_neg hw]
  · rw [ix_up_ap, if_neg (by unfold rst at hj; omega)]
    exact hP4.rest (by unfold rst at hj; omega)
theorem k_X11_minute (l : Launch) : ix_Ct l yX11_minute cX11_minute 4 none 5 sh_X11_minute T_X11_minute := ix_ct (a_X11_minute l) rfl (by decide) (fun _ => Nat.le_of_ble_eq_true rfl) (fun x μ Q hok hT => r_X11_minute x μ Q (ix_ok_at (hok (vr 10 x) (by simp [sh_X11_minute])) (by decide) (by decide)) hT)
