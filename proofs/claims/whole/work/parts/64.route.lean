/-! ===== calls, class against model: route ===== -/
def rH (ds dl : List Int32) (b : Int32) (r : Nat) (d : Nat) (v : WV) : Int32 := match d with
  | 0 => pH v
  | d + 1 => rH ds dl b r d (pV ds dl b (nI (r / 5 ^ d % 5)) v)
def T_X11_hadBy : Nat × Int32 × Int32 × Int32 → ix_M → (ix_R → Prop) → Prop := fun (_, b, r, all) μ Q => ∃ (M N R : Nat) (ds dl : List Int32), MW μ M ds dl ∧ all = nI (5 ^ N) ∧ N ≤ 4 ∧ r = nI R ∧ R < 5 ^ N ∧ M + N < 30000 ∧ ∀ μ', Fx [112, 113, 115, 119, 120] μ μ' → (∀ j, j ≠ 5 → j ≠ 6 → μ' 112 j = μ 112 j) → μ' 112 5 = -1 → RE (μ' 113) (μ 113) → Q (some (vi (rH ds dl b R N (nv (μ 113)))), μ')
def sh_X11_hadBy (x : Nat × Int32 × Int32 × Int32) : List ix_V := [vr 10 x.1, vi x.2.1, vi x.2.2.1, vi x.2.2.2]
theorem mo_X11_hadBy (x : Nat × Int32 × Int32 × Int32) (μ : ix_M) (Q Q' : ix_R → Prop) (h : ∀ r, Q r → Q' r) (hT : T_X11_hadBy x μ Q) : T_X11_hadBy x μ Q' := by
  obtain ⟨a0, a1, a2, a3⟩ := x
  (obtain ⟨M, N, R, ds, dl, h1, h2, h3, h4, h5, h6, h7⟩ := hT; exact ⟨M, N, R, ds, dl, h1, h2, h3, h4, h5, h6, fun μ' a b c d => h _ (h7 μ' a b c d)⟩)
def oc_X11_hadBy (n : Nat) : ix_Op := fun k _ ls st μ => match st with
  | .inl a3 :: .inl a2 :: .inl a1 :: .inr (.inr (t0, a0)) :: r => t0 = 10 ∧ ix_cs r ≤ 8 ∧ T_X11_hadBy (a0, a1, a2, a3) μ (fun q => k (n, ls, q.1.toList ++ r, q.2))
  | _ => False
theorem oc_X11_hadBy_s {l : Launch} {cc : ByteArray} {nL : Nat} {own : String} {d : Nat} {rt : Option FieldType} {pc n : Nat} (h : ix_S l cc nL own d rt pc (ix_call 4 sh_X11_hadBy T_X11_hadBy n)) : ix_S l cc nL own d rt pc (oc_X11_hadBy n) := by
  refine h.by (fun k Q ls st μ h => ?_) (fun k k' Q ls st μ hk h => ?_)
  · unfold oc_X11_hadBy at h
    split at h
    · rename_i a3 a2 a1 t0 a0 r
      obtain ⟨rfl, h1, h2⟩ := h
      exact ⟨h1, (a0, a1, a2, a3), rfl, _, h2, fun r h => h⟩
    · exact h.elim
  · unfold oc_X11_hadBy at h ⊢
    split at h
    · obtain ⟨rfl, h1, h2⟩ := h
      exact ⟨rfl, h1, mo_X11_hadBy _ _ _ _ (fun q hq => hk _ hq) h2⟩
    · exact h.elim
def o_X11_hadBy : List (Nat × ix_Op) := [
  (0, ix_aload 0 1),
  (1, ix_getr 10 20 (fun _ => 113) 4),
  (4, ix_aload 0 5),
  (5, ix_getr 10 20 (fun _ => 115) 8),
  (8, oc_X11_copy 11),
  (11, ix_aload 0 12),
  (12, ix_iload 1 13),
  (13, ix_puti 10 5 16),
  (16, ix_iload 3 17),
  (17, ix_push (vi 5) 18),
  (18, ix_div (fun x y => x / y) 19),
  (19, ix_istore 4 21),
  (21, ix_iload 4 23),
  (23, ix_if (fun x => x ≤ 0) 49 26),
  (26, ix_aload 0 27),
  (27, ix_iload 2 28),
  (28, ix_iload 4 30),
  (30, ix_div (fun x y => x / y) 31),
  (31, ix_push (vi 5) 32),
  (32, ix_div (fun x y => x - x / y * y) 33),
  (33, ix_puti 10 6 36),
  (36, ix_aload 0 37),
  (37, oc_X11_minute 40),
  (40, ix_iload 4 42),
  (42, ix_push (vi 5) 43),
  (43, ix_div (fun x y => x / y) 44),
  (44, ix_istore 4 46),
  (46, ix_goto 21),
  (49, ix_aload 0 50),
  (50, ix_push (vi (-1)) 51),
  (51, ix_puti 10 5 54),
  (54, ix_aload 0 55),
  (55, ix_aload 0 56),
  (56, oc_X11_had 59),
  (59, oc_X11_putBack 62),
  (62, ix_iret)]
set_option maxRecDepth 20000 in
theorem a_X11_hadBy (l : Launch) : ix_AllS l cX11_hadBy 5 RX11 30 (some .int) o_X11_hadBy :=
  .cons (ix_s_aload_n dX11_hadBy_0 rfl) <|
  .cons (ix_s_getr (j := 0) tu_X11 rfl (by decide) (by decide) tw_875 rfl ts_10_0_r dX11_hadBy_1) <|
  .cons (ix_s_aload_n dX11_hadBy_4 rfl) <|
  .cons (ix_s_getr (j := 2) tu_X11 rfl (by decide) (by decide) tw_877 rfl ts_10_2_r dX11_hadBy_5) <|
  .cons (oc_X11_copy_s (ix_s_calls (k_X11_copy l) (by decide) (by decide) tw_1221 tw_12 tw_1219 tw_1220 ⟨by decide, by decide, by decide +kernel⟩ (fun _ => rfl) dX11_hadBy_8)) <|
  .cons (ix_s_aload_n dX11_hadBy_11 rfl) <|
  .cons (ix_s_iload_n dX11_hadBy_12 rfl) <|
  .cons (ix_s_puti (j := 5) tu_X11 tyX11_ok nmX11 rfl (by decide) (by decide) tw_880 rfl rfl (by decide +kernel) ts_10_5_p dX11_hadBy_13) <|
  .cons (ix_s_iload_n dX11_hadBy_16 rfl) <|
  .cons (ix_s_iconst dX11_hadBy_17 (by decide +kernel)) <|
  .cons (ix_s_idiv dX11_hadBy_18) <|
  .cons (ix_s_istore dX11_hadBy_19 (by decide)) <|
  .cons (ix_s_iload dX11_hadBy_21) <|
  .cons (ix_s_if_le dX11_hadBy_23 (by decide)) <|
  .cons (ix_s_aload_n dX11_hadBy_26 rfl) <|
  .cons (ix_s_iload_n dX11_hadBy_27 rfl) <|
  .cons (ix_s_iload dX11_hadBy_28) <|
  .cons (ix_s_idiv dX11_hadBy_30) <|
  .cons (ix_s_iconst dX11_hadBy_31 (by decide +kernel)) <|
  .cons (ix_s_irem dX11_hadBy_32) <|
  .cons (ix_s_puti (j := 6) tu_X11 tyX11_ok nmX11 rfl (by decide) (by decide) tw_881 rfl rfl (by decide +kernel) ts_10_6_p dX11_hadBy_33) <|
  .cons (ix_s_aload_n dX11_hadBy_36 rfl) <|
  .cons (oc_X11_minute_s (ix_s_callv (t := 10) (k_X11_minute l) (by decide) (by decide) tw_1191 tw_12 tw_1188 tw_1190 tp_45 ⟨by decide, by decide, by decide +kernel⟩ (by decide) rfl rfl (fun _ => ⟨_, _, rfl, rfl⟩) dX11_hadBy_37)) <|
  .cons (ix_s_iload dX11_hadBy_40) <|
  .cons (ix_s_iconst dX11_hadBy_42 (by decide +kernel)) <|
  .cons (ix_s_idiv dX11_hadBy_43) <|
  .cons (ix_s_istore dX11_hadBy_44 (by decide)) <|
  .cons (ix_s_goto dX11_hadBy_46 (by decide)) <|
  .cons (ix_s_aload_n dX11_hadBy_49 rfl) <|
  .cons (ix_s_iconst dX11_hadBy_50 (by decide +kernel)) <|
  .cons (ix_s_puti (j := 5) tu_X11 tyX11_ok nmX11 rfl (by decide) (by decide) tw_880 rfl rfl (by decide +kernel) ts_10_5_p dX11_hadBy_51) <|
  .cons (ix_s_aload_n dX11_hadBy_54 rfl) <|
  .cons (ix_s_aload_n dX11_hadBy_55 rfl) <|
  .cons (oc_X11_had_s (ix_s_callv (t := 10) (k_X11_had l) (by decide) (by decide) tw_1202 tw_12 tw_1199 tw_1201 tp_47 ⟨by decide, by decide, by decide +kernel⟩ (by decide) rfl rfl (fun _ => ⟨_, _, rfl, rfl⟩) dX11_hadBy_56)) <|
  .cons (oc_X11_putBack_s (ix_s_callv (t := 10) (k_X11_putBack l) (by decide) (by decide) tw_1229 tw_12 tw_1226 tw_1228 tp_50 ⟨by decide, by decide, by decide +kernel⟩ (by decide) rfl rfl (fun _ => ⟨_, _, rfl, rfl⟩) dX11_hadBy_59)) <|
  .cons (ix_s_iret dX11_hadBy_62 rfl) <| .nil
theorem e_X11_hadBy_0 (Q : ix_R → Prop) (ls : ix_L) (st : List ix_V) (μ : ix_M) : ix_Ev o_X11_hadBy Q (0, ls, st, μ) = ix_aload 0 1 (ix_Ev o_X11_hadBy Q) Q ls st μ := ix_Ev.eq (a_X11_hadBy launch0) rfl ls st μ
theorem e_X11_hadBy_1 (Q : ix_R → Prop) (ls : ix_L) (st : List ix_V) (μ : ix_M) : ix_Ev o_X11_hadBy Q (1, ls, st, μ) = ix_getr 10 20 (fun _ => 113) 4 (ix_Ev o_X11_hadBy Q) Q ls st μ := ix_Ev.eq (a_X11_hadBy launch0) rfl ls st μ
theorem e_X11_hadBy_4 (Q : ix_R → Prop) (ls : ix_L) (st : List ix_V) (μ : ix_M) : ix_Ev o_X11_hadBy Q (4, ls, st, μ) = ix_aload 0 5 (ix_Ev o_X11_hadBy Q) Q ls st μ := ix_Ev.eq (a_X11_hadBy launch0) rfl ls st μ
theorem e_X11_hadBy_5 (Q : ix_R → Prop) (ls : ix_L) (st : List ix_V) (μ : ix_M) : ix_Ev o_X11_hadBy Q (5, ls, st, μ) = ix_getr 10 20 (fun _ => 115) 8 (ix_Ev o_X11_hadBy Q) Q ls st μ := ix_Ev.eq (a_X11_hadBy launch0) rfl ls st μ
theorem e_X11_hadBy_8 (Q : ix_R → Prop) (ls : ix_L) (st : List ix_V) (μ : ix_M) : ix_Ev o_X11_hadBy Q (8, ls, st, μ) = oc_X11_copy 11 (ix_Ev o_X11_hadBy Q) Q ls st μ := ix_Ev.eq (a_X11_hadBy launch0) rfl ls st μ
theorem e_X11_hadBy_11 (Q : ix_R → Prop) (ls : ix_L) (st : List ix_V) (μ : ix_M) : ix_Ev o_X11_hadBy Q (11, ls, st, μ) = ix_aload 0 12 (ix_Ev o_X11_hadBy Q) Q ls st μ := ix_Ev.eq (a_X11_hadBy launch0) rfl ls st μ
theorem e_X11_hadBy_12 (Q : ix_R → Prop) (ls : ix_L) (st : List ix_V) (μ : ix_M) : ix_Ev o_X11_hadBy Q (12, ls, st, μ) = ix_iload 1 13 (ix_Ev o_X11_hadBy Q) Q ls st μ := ix_Ev.eq (a_X11_hadBy launch0) rfl ls st μ
theorem e_X11_hadBy_13 (Q : ix_R → Prop) (ls : ix_L) (st : List ix_V) (μ : ix_M) : ix_Ev o_X11_hadBy Q (13, ls, st, μ) = ix_puti 10 5 16 (ix_Ev o_X11_hadBy Q) Q ls st μ := ix_Ev.eq (a_X11_hadBy launch0) rfl ls st μ
theorem e_X11_hadBy_16 (Q : ix_R → Prop) (ls : ix_L) (st : List ix_V) (μ : ix_M) : ix_Ev o_X11_hadBy Q (16, ls, st, μ) = ix_iload 3 17 (ix_Ev o_X11_hadBy Q) Q ls st μ := ix_Ev.eq (a_X11_hadBy launch0) rfl ls st μ
theorem e_X11_hadBy_17 (Q : ix_R → Prop) (ls : ix_L) (st : List ix_V) (μ : ix_M) : ix_Ev o_X11_hadBy Q (17, ls, st, μ) = ix_push (vi 5) 18 (ix_Ev o_X11_hadBy Q) Q ls st μ := ix_Ev.eq (a_X11_hadBy launch0) rfl ls st μ
theorem e_X11_hadBy_18 (Q : ix_R → Prop) (ls : ix_L) (st : List ix_V) (μ : ix_M) : ix_Ev o_X11_hadBy Q (18, ls, st, μ) = ix_div (fun x y => x / y) 19 (ix_Ev o_X11_hadBy Q) Q ls st μ := ix_Ev.eq (a_X11_hadBy launch0) rfl ls st μ
theorem e_X11_hadBy_19 (Q : ix_R → Prop) (ls : ix_L) (st : List ix_V) (μ : ix_M) : ix_Ev o_X11_hadBy Q (19, ls, st, μ) = ix_istore 4 21 (ix_Ev o_X11_hadBy Q) Q ls st μ := ix_Ev.eq (a_X11_hadBy launch0) rfl ls st μ
theorem e_X11_hadBy_21 (Q : ix_R → Prop) (ls : ix_L) (st : List ix_V) (μ : ix_M) : ix_Ev o_X11_hadBy Q (21, ls, st, μ) = ix_iload 4 23 (ix_Ev o_X11_hadBy Q) Q ls st μ := ix_Ev.eq (a_X11_hadBy launch0) rfl ls st μ
theorem e_X11_hadBy_23 (Q : ix_R → Prop) (ls : ix_L) (st : List ix_V) (μ : ix_M) : ix_Ev o_X11_hadBy Q (23, ls, st, μ) = ix_if (fun x => x ≤ 0) 49 26 (ix_Ev o_X11_hadBy Q) Q ls st μ := ix_Ev.eq (a_X11_hadBy launch0) rfl ls st μ
theorem e_X11_hadBy_26 (Q : ix_R → Prop) (ls : ix_L) (st : List ix_V) (μ : ix_M) : ix_Ev o_X11_hadBy Q (26, ls, st, μ) = ix_aload 0 27 (ix_Ev o_X11_hadBy Q) Q ls st μ := ix_Ev.eq (a_X11_hadBy launch0) rfl ls st μ
theorem e_X11_hadBy_27 (Q : ix_R → Prop) (ls : ix_L) (st : List ix_V) (μ : ix_M) : ix_Ev o_X11_hadBy Q (27, ls, st, μ) = ix_iload 2 28 (ix_Ev o_X11_hadBy Q) Q ls st μ := ix_Ev.eq (a_X11_hadBy launch0) rfl ls st μ
theorem e_X11_hadBy_28 (Q : ix_R → Prop) (ls : ix_L) (st : List ix_V) (μ : ix_M) : ix_Ev o_X11_hadBy Q (28, ls, st, μ) = ix_iload 4 30 (ix_Ev o_X11_hadBy Q) Q ls st μ := ix_Ev.eq (a_X11_hadBy launch0) rfl ls st μ
theorem e_X11_hadBy_30 (Q : ix_R → Prop) (ls : ix_L) (st : List ix_V) (μ : ix_M) : ix_Ev o_X11_hadBy Q (30, ls, st, μ) = ix_div (fun x y => x / y) 31 (ix_Ev o_X11_hadBy Q) Q ls st μ := ix_Ev.eq (a_X11_hadBy launch0) rfl ls st μ
theorem e_X11_hadBy_31 (Q : ix_R → Prop) (ls : ix_L) (st : List ix_V) (μ : ix_M) : ix_Ev o_X11_hadBy Q (31, ls, st, μ) = ix_push (vi 5) 32 (ix_Ev o_X11_hadBy Q) Q ls st μ := ix_Ev.eq (a_X11_hadBy launch0) rfl ls st μ
theorem e_X11_hadBy_32 (Q : ix_R → Prop) (ls : ix_L) (st : List ix_V) (μ : ix_M) : ix_Ev o_X11_hadBy Q (32, ls, st, μ) = ix_div (fun x y => x - x / y * y) 33 (ix_Ev o_X11_hadBy Q) Q ls st μ := ix_Ev.eq (a_X11_hadBy launch0) rfl ls st μ
theorem e_X11_hadBy_33 (Q : ix_R → Prop) (ls : ix_L) (st : List ix_V) (μ : ix_M) : ix_Ev o_X11_hadBy Q (33, ls, st, μ) = ix_puti 10 6 36 (ix_Ev o_X11_hadBy Q) Q ls st μ := ix_Ev.eq (a_X11_hadBy launch0) rfl ls st μ
theorem e_X11_hadBy_36 (Q : ix_R → Prop) (ls : ix_L) (st : List ix_V) (μ : ix_M) : ix_Ev o_X11_hadBy Q (36, ls, st, μ) = ix_aload 0 37 (ix_Ev o_X11_hadBy Q) Q ls st μ := ix_Ev.eq (a_X11_hadBy launch0) rfl ls st μ
theorem e_X11_hadBy_37 (Q : ix_R → Prop) (ls : ix_L) (st : List ix_V) (μ : ix_M) : ix_Ev o_X11_hadBy Q (37, ls, st, μ) = oc_X11_minute 40 (ix_Ev o_X11_hadBy Q) Q ls st μ := ix_Ev.eq (a_X11_hadBy launch0) rfl ls st μ
theorem e_X11_hadBy_40 (Q : ix_R → Prop) (ls : ix_L) (st : List ix_V) (μ : ix_M) : ix_Ev o_X11_hadBy Q (40, ls, st, μ) = ix_iload 4 42 (ix_Ev o_X11_hadBy Q) Q ls st μ := ix_Ev.eq (a_X11_hadBy launch0) rfl ls st μ
theorem e_X11_hadBy_42 (Q : ix_R → Prop) (ls : ix_L) (st : List ix_V) (μ : ix_M) : ix_Ev o_X11_hadBy Q (42, ls, st, μ) = ix_push (vi 5) 43 (ix_Ev o_X11_hadBy Q) Q ls st μ := ix_Ev.eq (a_X11_hadBy launch0) rfl ls st μ
theorem e_X11_hadBy_43 (Q : ix_R → Prop) (ls : ix_L) (st : List ix_V) (μ : ix_M) : ix_Ev o_X11_hadBy Q (43, ls, st, μ) = ix_div (fun x y => x / y) 44 (ix_Ev o_X11_hadBy Q) Q ls st μ := ix_Ev.eq (a_X11_hadBy launch0) rfl ls st μ
theorem e_X11_hadBy_44 (Q : ix_R → Prop) (ls : ix_L) (st : List ix_V) (μ : ix_M) : ix_Ev o_X11_hadBy Q (44, ls, st, μ) = ix_istore 4 46 (ix_Ev o_X11_hadBy Q) Q ls st μ := ix_Ev.eq (a_X11_hadBy launch0) rfl ls st μ
theorem e_X11_hadBy_46 (Q : ix_R → Prop) (ls : ix_L) (st : List ix_V) (μ : ix_M) : ix_Ev o_X11_hadBy Q (46, ls, st, μ) = ix_goto 21 (ix_Ev o_X11_hadBy Q) Q ls st μ := ix_Ev.eq (a_X11_hadBy launch0) rfl ls st μ
theorem e_X11_hadBy_49 (Q : ix_R → Prop) (ls : ix_L) (st : List ix_V) (μ : ix_M) : ix_Ev o_X11_hadBy Q (49, ls, st, μ) = ix_aload 0 50 (ix_Ev o_X11_hadBy Q) Q ls st μ := ix_Ev.eq (a_X11_hadBy launch0) rfl ls st μ
theorem e_X11_hadBy_50 (Q : ix_R → Prop) (ls : ix_L) (st : List ix_V) (μ : ix_M) : ix_Ev o_X11_hadBy Q (50, ls, st, μ) = ix_push (vi (-1)) 51 (ix_Ev o_X11_hadBy Q) Q ls st μ := ix_Ev.eq (a_X11_hadBy launch0) rfl ls st μ
theorem e_X11_hadBy_51 (Q : ix_R → Prop) (ls : ix_L) (st : List ix_V) (μ : ix_M) : ix_Ev o_X11_hadBy Q (51, ls, st, μ) = ix_puti 10 5 54 (ix_Ev o_X11_hadBy Q) Q ls st μ := ix_Ev.eq (a_X11_hadBy launch0) rfl ls st μ
theorem e_X11_hadBy_54 (Q : ix_R → Prop) (ls : ix_L) (st : List ix_V) (μ : ix_M) : ix_Ev o_X11_hadBy Q (54, ls, st, μ) = ix_aload 0 55 (ix_Ev o_X11_hadBy Q) Q ls st μ := ix_Ev.eq (a_X11_hadBy launch0) rfl ls st μ
theorem e_X11_hadBy_55 (Q : ix_R → Prop) (ls : ix_L) (st : List ix_V) (μ : ix_M) : ix_Ev o_X11_hadBy Q (55, ls, st, μ) = ix_aload 0 56 (ix_Ev o_X11_hadBy Q) Q ls st μ := ix_Ev.eq (a_X11_hadBy launch0) rfl ls st μ
theorem e_X11_hadBy_56 (Q : ix_R → Prop) (ls : ix_L) (st : List ix_V) (μ : ix_M) : ix_Ev o_X11_hadBy Q (56, ls, st, μ) = oc_X11_had 59 (ix_Ev o_X11_hadBy Q) Q ls st μ := ix_Ev.eq (a_X11_hadBy launch0) rfl ls st μ
theorem e_X11_hadBy_59 (Q : ix_R → Prop) (ls : ix_L) (st : List ix_V) (μ : ix_M) : ix_Ev o_X11_hadBy Q (59, ls, st, μ) = oc_X11_putBack 62 (ix_Ev o_X11_hadBy Q) Q ls st μ := ix_Ev.eq (a_X11_hadBy launch0) rfl ls st μ
theorem e_X11_hadBy_62 (Q : ix_R → Prop) (ls : ix_L) (st : List ix_V) (μ : ix_M) : ix_Ev o_X11_hadBy Q (62, ls, st, μ) = ix_iret (ix_Ev o_X11_hadBy Q) Q ls st μ := ix_Ev.eq (a_X11_hadBy launch0) rfl ls st μ
theorem p5_le {d : Nat} (h : d ≤ 4) : 1 ≤ 5 ^ d ∧ 5 ^ d ≤ 625 := by
  have : d = 0 ∨ d = 1 ∨ d = 2 ∨ d = 3 ∨ d = 4 := by omega
  rcases this with rfl | rfl | rfl | rfl | rfl <;> decide
theorem p5_s (d : Nat) : 5 ^ (d + 1) / 5 = 5 ^ d := by rw [Nat.pow_succ, Nat.mul_div_cancel _ (by decide)]
theorem l_X11_hadBy {R : Nat} {b all V : Int32} {ds dl : List Int32} {μ0 : ix_M} {Q : ix_R → Prop} (hR : R < 625) (hQ : ∀ μ', Fx [112, 113, 119, 120] μ0 μ' → (∀ j, j ≠ 5 → j ≠ 6 → μ' 112 j = μ0 112 j) → μ' 112 5 = -1 → ∀ μ'', Fx [113] μ' μ'' → (∀ k, k < 256 → μ'' 113 k = μ0 115 k) → Q (some (vi V), μ'')) : ∀ (d M : Nat) (μ : ix_M), d ≤ 4 → M + d < 30000 → Fx [112, 113, 119, 120] μ0 μ → (∀ j, j ≠ 5 → j ≠ 6 → μ 112 j = μ0 112 j) → μ 112 5 = b → MW μ M ds dl → V = rH ds dl b R d (nv (μ 113)) → ix_Ev o_X11_hadBy Q (21, [some (vr 10 112), some (vi b), some (vi (nI R)), some (vi all), some (vi (nI (5 ^ d / 5)))], [], μ) := by
  intro d
  induction d with
  | zero =>
    intro M μ hd hM hF h112 h5 hW hV
    have c1 : nI (5 ^ 0 / 5) ≤ 0 := by decide
    rw [e_X11_hadBy_21]
    simp (decide := true) only [e_X11_hadBy_0, e_X11_hadBy_1, e_X11_hadBy_4, e_X11_hadBy_5, e_X11_hadBy_8, e_X11_hadBy_11, e_X11_hadBy_12, e_X11_hadBy_13, e_X11_hadBy_16, e_X11_hadBy_17, e_X11_hadBy_18, e_X11_hadBy_19, e_X11_hadBy_23, e_X11_hadBy_26, e_X11_hadBy_27, e_X11_hadBy_28, e_X11_hadBy_30, e_X11_hadBy_31, e_X11_hadBy_32, e_X11_hadBy_33, e_X11_hadBy_36, e_X11_hadBy_37, e_X11_hadBy_40, e_X11_hadBy_42, e_X11_hadBy_43, e_X11_hadBy_44, e_X11_hadBy_46, e_X11_hadBy_49, e_X11_hadBy_50, e_X11_hadBy_51, e_X11_hadBy_54, e_X11_hadBy_55, e_X11_hadBy_56, e_X11_hadBy_59, e_X11_hadBy_62, vi, vl, vr, oc_X11_copy, T_X11_copy, oc_X11_had, T_X11_had, oc_X11_minute, T_X11_minute, oc_X11_putBack, T_X11_putBack, ix_push, ix_iload, ix_lload, ix_aload, ix_istore, ix_astore, ix_iinc, ix_bin, ix_div, ix_un, ix_i2l, ix_l2i, ix_lbin, ix_lsh, ix_lcmp, ix_dup, ix_dup2, ix_pop, ix_if, ix_cmp, ix_goto, ix_switch, ix_sw, ix_iret, ix_zret, ix_vret, ix_aret, ix_geti, ix_getr, ix_puti, ix_putz, ix_puts, ix_gets, ix_iald, ix_iast, ix_alen, ix_aald, ix_gval, ix_gcod, ix_bald, ix_blen, ix_sald, ix_nret, ix_math2, ix_math1, ix_acopy, ml_113, ml_114, ml_115, ml_116, ml_118, ml_119, ml_120, ml_121, ml_122, ml_123, ml_124, ml_125, ml_126, mv_0, mv_1, mv_2, mv_3, mv_4, mv_5, mB_or, Nat.add_assoc, Int32.reduceLT, Int32.reduceLE, Int32.reduceToNatClampNeg, Int32.reduceSub, Int32.reduceAdd, Nat.reduceAdd, Nat.reduceLeDiff, true_or, or_true, or_false, false_or, not_false_eq_true, not_true_eq_false, false_implies, true_implies, implies_true, and_self, mB_0, mB_01, Classical.not_not, Nat.zero_le, List.getElem?_cons_zero, List.getElem?_cons_succ, List.set_cons_zero, List.set_cons_succ, ix_nl, ix_cs, true_and, and_true, Option.toList_some, Option.toList_none, List.cons_append, List.nil_append, c1]
    obtain ⟨N, hN, e1, e2⟩ := hW.had
    refine ⟨N, hN, by rw [ix_up_ne (by decide)]; exact e1, fun μ2 F2 R2 => ?_⟩
    have e3 : mSum (fun b => ix_up μ 112 5 (-1) 113 (53 + 4 * b)) N = V := by
      rw [hV, rH, ← e2]
      exact mSum_cong (fun b _ => by rw [ix_up_ne (by decide)])
    rw [e3]
    refine hQ _ (hF.up (by simp)) (fun j h1 h2 => by rw [PsC.e112 h1]; exact h112 j h1 h2) (ix_up_k _ _ _ _) μ2 F2 (fun k hk => ?_)
    rw [R2 k hk, ix_up_ne (by decide), hF 115 (by decide)]
  | succ d ih =>
    intro M μ hd hM hF h112 h5 hW hV
    have hp := p5_le (d := d) (by omega)
    rw [p5_s]
    generalize hz : 5 ^ d = z at hp
    have c1 : ¬ nI z ≤ 0 := nI_nle (by omega) (by omega)
    have c2 : ¬ nI z = 0 := nI_ne0 (by omega) (by omega)
    have q1 : nI R / nI z = nI (R / z) := pk_div (by omega) (by omega) (by omega)
    have hrz : R / z ≤ R := Nat.div_le_self _ _
    have q2 : nI (R / z) - nI (R / z) / 5 * 5 = nI (R / z % 5) := pk_rem (d := 5) (by omega) (by decide) (by decide)
    have q3 : nI z / 5 = nI (z / 5) := pk_div (d := 5) (by omega) (by decide) (by decide)
    rw [e_X11_hadBy_21]
    simp (decide := true) only [e_X11_hadBy_0, e_X11_hadBy_1, e_X11_hadBy_4, e_X11_hadBy_5, e_X11_hadBy_8, e_X11_hadBy_11, e_X11_hadBy_12, e_X11_hadBy_13, e_X11_hadBy_16, e_X11_hadBy_17, e_X11_hadBy_18, e_X11_hadBy_19, e_X11_hadBy_23, e_X11_hadBy_26, e_X11_hadBy_27, e_X11_hadBy_28, e_X11_hadBy_30, e_X11_hadBy_31, e_X11_hadBy_32, e_X11_hadBy_33, e_X11_hadBy_36, e_X11_hadBy_37, e_X11_hadBy_40, e_X11_hadBy_42, e_X11_hadBy_43, e_X11_hadBy_44, e_X11_hadBy_46, e_X11_hadBy_49, e_X11_hadBy_50, e_X11_hadBy_51, e_X11_hadBy_54, e_X11_hadBy_55, e_X11_hadBy_56, e_X11_hadBy_59, e_X11_hadBy_62, vi, vl, vr, oc_X11_copy, T_X11_copy, oc_X11_had, T_X11_had, oc_X11_minute, T_X11_minute, oc_X11_putBack, T_X11_putBack, ix_push, ix_iload, ix_lload, ix_aload, ix_istore, ix_astore, ix_iinc, ix_bin, ix_div, ix_un, ix_i2l, ix_l2i, ix_lbin, ix_lsh, ix_lcmp, ix_dup, ix_dup2, ix_pop, ix_if, ix_cmp, ix_goto, ix_switch, ix_sw, ix_iret, ix_zret, ix_vret, ix_aret, ix_geti, ix_getr, ix_puti, ix_putz, ix_puts, ix_gets, ix_iald, ix_iast, ix_alen, ix_aald, ix_gval, ix_gcod, ix_bald, ix_blen, ix_sald, ix_nret, ix_math2, ix_math1, ix_acopy, ml_113, ml_114, ml_115, ml_116, ml_118, ml_119, ml_120, ml_121, ml_122, ml_123, ml_124, ml_125, ml_126, mv_0, mv_1, mv_2, mv_3, mv_4, mv_5, mB_or, Nat.add_assoc, Int32.reduceLT, Int32.reduceLE, Int32.reduceToNatClampNeg, Int32.reduceSub, Int32.reduceAdd, Nat.reduceAdd, Nat.reduceLeDiff, true_or, or_true, or_false, false_or, not_false_eq_true, not_true_eq_false, false_implies, true_implies, implies_true, and_self, mB_0, mB_01, Classical.not_not, Nat.zero_le, List.getElem?_cons_zero, List.getElem?_cons_succ, List.set_cons_zero, List.set_cons_succ, ix_nl, ix_cs, true_and, and_true, Option.toList_some, Option.toList_none, List.cons_append, List.nil_append, c1, c2, q1, q2, q3]
    have e113 : ix_up μ 112 6 (nI (R / z % 5)) 113 = μ 113 := ix_up_ne (by decide)
    rw [e113]
    refine ⟨hW.1.ok (by omega), hW.2.1, ds, dl, hW.2.2.1, hW.2.2.2, fun μ1 F1 V1 R1 => ?_⟩
    rw [PsC.e112 (by decide), ix_up_k, h5] at V1
    have hW1 : MW μ1 (M + 1) ds dl := hW.next V1 R1
    have F01 : Fx [112, 113, 119, 120] μ0 (ix_up μ 112 6 (nI (R / z % 5))) := hF.up (by simp)
    rw [← hz]
    refine ih (M + 1) μ1 (by omega) (by omega) (F01.tr (F1.mono (by decide))) (fun j h1 h2 => by rw [F1 112 (by decide), PsC.e112 h2]; exact h112 j h1 h2) (by rw [F1 112 (by decide), PsC.e112 (by decide)]; exact h5) hW1 ?_
    rw [hV, V1, rH, hz]
theorem r_X11_hadBy (o : Nat) (b : Int32) (r : Int32) (all : Int32) (μ : ix_M) (Q : ix_R → Prop) (ok_o : o < ix_N ∧ ix_tag o = 10) (hT : T_X11_hadBy (o, b, r, all) μ Q) : ix_Ev o_X11_hadBy Q (0, [some (vr 10 o), some (vi b), some (vi r), some (vi all), none], [], μ) := by
  obtain rfl := ok_10 o ok_o.1 ok_o.2
  obtain ⟨M, N, R, ds, dl, hW, rfl, hN, rfl, hR, hM, hQ⟩ := hT
  have hp := p5_le hN
  have q1 : nI (5 ^ N) / 5 = nI (5 ^ N / 5) := pk_div (d := 5) (by omega) (by decide) (by decide)
  simp (decide := true) only [e_X11_hadBy_0, e_X11_hadBy_1, e_X11_hadBy_4, e_X11_hadBy_5, e_X11_hadBy_8, e_X11_hadBy_11, e_X11_hadBy_12, e_X11_hadBy_13, e_X11_hadBy_16, e_X11_hadBy_17, e_X11_hadBy_18, e_X11_hadBy_19, e_X11_hadBy_23, e_X11_hadBy_26, e_X11_hadBy_27, e_X11_hadBy_28, e_X11_hadBy_30, e_X11_hadBy_31, e_X11_hadBy_32, e_X11_hadBy_33, e_X11_hadBy_36, e_X11_hadBy_37, e_X11_hadBy_40, e_X11_hadBy_42, e_X11_hadBy_43, e_X11_hadBy_44, e_X11_hadBy_46, e_X11_hadBy_49, e_X11_hadBy_50, e_X11_hadBy_51, e_X11_hadBy_54, e_X11_hadBy_55, e_X11_hadBy_56, e_X11_hadBy_59, e_X11_hadBy_62, vi, vl, vr, oc_X11_copy, T_X11_copy, oc_X11_had, T_X11_had, oc_X11_minute, T_X11_minute, oc_X11_putBack, T_X11_putBack, ix_push, ix_iload, ix_lload, ix_aload, ix_istore, ix_astore, ix_iinc, ix_bin, ix_div, ix_un, ix_i2l, ix_l2i, ix_lbin, ix_lsh, ix_lcmp, ix_dup, ix_dup2, ix_pop, ix_if, ix_cmp, ix_goto, ix_switch, ix_sw, ix_iret, ix_zret, ix_vret, ix_aret, ix_geti, ix_getr, ix_puti, ix_putz, ix_puts, ix_gets, ix_iald, ix_iast, ix_alen, ix_aald, ix_gval, ix_gcod, ix_bald, ix_blen, ix_sald, ix_nret, ix_math2, ix_math1, ix_acopy, ml_113, ml_114, ml_115, ml_116, ml_118, ml_119, ml_120, ml_121, ml_122, ml_123, ml_124, ml_125, ml_126, mv_0, mv_1, mv_2, mv_3, mv_4, mv_5, mB_or, Nat.add_assoc, Int32.reduceLT, Int32.reduceLE, Int32.reduceToNatClampNeg, Int32.reduceSub, Int32.reduceAdd, Nat.reduceAdd, Nat.reduceLeDiff, true_or, or_true, or_false, false_or, not_false_eq_true, not_true_eq_false, false_implies, true_implies, implies_true, and_self, mB_0, mB_01, Classical.not_not, Nat.zero_le, List.getElem?_cons_zero, List.getElem?_cons_succ, List.set_cons_zero, List.set_cons_succ, ix_nl, ix_cs, true_and, and_true, Option.toList_some, Option.toList_none, List.cons_append, List.nil_append, q1]
  intro μ1 F1 R1
  have e1 : μ1 113 = μ 113 := F1 113 (by decide)
  refine l_X11_hadBy (R := R) (ds := ds) (dl := dl) (μ0 := ix_up μ1 112 5 b) (by omega) (fun μ2 F2 h2 h5 μ3 F3 R3 => ?_) N M _ hN hM Fx.rf (fun _ _ _ => rfl) (ix_up_k _ _ _ _) (hW.cong (fun k hk => by rw [ix_up_ne (by decide), e1])) rfl
  rw [ix_up_ne (by decide), e1]
  refine hQ μ3 ?_ (fun j k1 k2 => ?_) ?_ (fun k hk => ?_)
  · exact Fx.tr (F1.mono (by decide)) (Fx.tr (Fx.rf.up (by simp)) (Fx.tr (F2.mono (by decide)) (F3.mono (by decide))))
  · rw [F3 112 (by decide), h2 j k1 k2, PsC.e112 k1, F1 112 (by decide)]
  · rw [F3 112 (by decide)]
    exact h5
  · rw [R3 k hk, ix_up_ne (by decide), R1 k hk]
theorem k_X11_hadBy (l : Launch) : ix_Ct l yX11_hadBy cX11_hadBy 5 (some .int) 30 sh_X11_hadBy T_X11_hadBy := ix_ct (a_X11_hadBy l) rfl (by decide) (fun _ => Nat.le_of_ble_eq_true rfl) (fun x μ Q hok hT => r_X11_hadBy x.1 x.2.1 x.2.2.1 x.2.2.2 μ Q (ix_ok_at (hok (vr 10 x.1) (by simp [sh_X11_hadBy])) (by decide) (by decide)) hT)
/-! rows of ways, in their order -/
def tN (r : Nat) (d : Nat) (acc : Int32) : Int32 := match d with
  | 0 => acc
  | d + 1 => tN r d (10 * acc + nI (r / 5 ^ d % 5))
def rSc (F : Nat → Int32 × Int32) (m : Nat) (be : Int32 × Int32) : Int32 × Int32 := match m with
  | 0 => be
  | m + 1 => if (rSc F m be).1 < (F m).1 then F m else rSc F m be
theorem rSc_add (F : Nat → Int32 × Int32) (a : Nat) (be : Int32 × Int32) : ∀ b, rSc F (a + b) be = rSc (fun r => F (a + r)) b (rSc F a be)
  | 0 => rfl
  | b + 1 => by
    show rSc F (a + b + 1) be = _
    rw [rSc, rSc, rSc_add F a be b]
theorem rSc_c {F G : Nat → Int32 × Int32} {be : Int32 × Int32} : ∀ m, (∀ r, r < m → F r = G r) → rSc F m be = rSc G m be
  | 0, _ => rfl
  | m + 1, h => by rw [rSc, rSc, rSc_c m (fun r hr => h r (by omega)), h m (by omega)]
theorem rH_m {ds dl : List Int32} {b : Int32} {R r : Nat} : ∀ d (v : WV), (∀ j, j < d → R / 5 ^ j % 5 = r / 5 ^ j % 5) → rH ds dl b R d v = rH ds dl b r d v
  | 0, _, _ => rfl
  | d + 1, v, h => by rw [rH, rH, h d (by omega), rH_m d _ (fun j hj => h j (by omega))]
theorem tN_m {R r : Nat} : ∀ d (x : Int32), (∀ j, j < d → R / 5 ^ j % 5 = r / 5 ^ j % 5) → tN R d x = tN r d x
  | 0, _, _ => rfl
  | d + 1, x, h => by rw [tN, tN, h d (by omega), tN_m d _ (fun j hj => h j (by omega))]
theorem dig5 {k r d j : Nat} (hj : j < d) : (k * 5 ^ d + r) / 5 ^ j % 5 = r / 5 ^ j % 5 := by
  obtain ⟨e, rfl⟩ : ∃ e, d = j + 1 + e := ⟨d - (j + 1), by omega⟩
  have h : k * 5 ^ (j + 1 + e) + r = 5 ^ j * (5 * (k * 5 ^ e)) + r := by
    congr 1
    rw [Nat.pow_add, Nat.pow_add]
    simp [Nat.mul_comm, Nat.mul_left_comm, Nat.mul_assoc]
  rw [h, Nat.mul_add_div (Nat.pow_pos (by decide)), Nat.mul_add_mod]
theorem rt_sc (ds dl : List Int32) (b : Int32) : ∀ (d : Nat) (row : Int32) (v : WV) (be : Int32 × Int32), rtF ds dl b d row v be = rSc (fun r => (rH ds dl b r d v, tN r d row)) (5 ^ d) be
  | 0, row, v, be => rfl
  | d + 1, row, v, be => by
    have key : ∀ k, k ≤ 5 → rtL (fun k be => rtF ds dl b d (10 * row + nI k) (pV ds dl b (nI k) v) be) k be = rSc (fun r => (rH ds dl b r (d + 1) v, tN r (d + 1) row)) (k * 5 ^ d) be := by
      intro k
      induction k with
      | zero =>
        intro _
        rw [Nat.zero_mul]
        rfl
      | succ k ih =>
        intro hk
        rw [rtL, ih (by omega), rt_sc ds dl b d, Nat.succ_mul, rSc_add]
        refine rSc_c _ (fun r hr => ?_)
        have e1 : (k * 5 ^ d + r) / 5 ^ d % 5 = k := by
          rw [Nat.mul_comm k, Nat.mul_add_div (Nat.pow_pos (by decide)), Nat.div_eq_of_lt hr, Nat.add_zero, Nat.mod_eq_of_lt (by omega)]
        show _ = (rH ds dl b (k * 5 ^ d + r) d (pV ds dl b (nI ((k * 5 ^ d + r) / 5 ^ d % 5)) v), tN (k * 5 ^ d + r) d (10 * row + nI ((k * 5 ^ d + r) / 5 ^ d % 5)))
        rw [e1, rH_m d _ (fun j hj => dig5 hj), tN_m d _ (fun j hj => dig5 hj)]
    have := key 5 (Nat.le_refl _)
    rw [rtF, this, Nat.pow_succ, Nat.mul_comm]
def scm (h : Nat → Int32) (m : Nat) : Nat × Int32 := match m with
  | 0 => (0, -1)
  | m + 1 => if (scm h m).2 < h m then (m, h m) else scm h m
theorem scm_sc {h t : Nat → Int32} (h0 : -1 < h 0) : ∀ m, rSc (fun r => (h r, t r)) (m + 1) (-1, 1) = ((scm h (m + 1)).2, t (scm h (m + 1)).1)
  | 0 => by
    show (if (-1 : Int32) < h 0 then (h 0, t 0) else (-1, 1)) = ((if (-1 : Int32) < h 0 then (0, h 0) else (0, -1)).2, t (if (-1 : Int32) < h 0 then (0, h 0) else (0, -1)).1)
    rw [if_pos h0, if_pos h0]
  | m + 1 => by
    have e : scm h (m + 1 + 1) = if (scm h (m + 1)).2 < h (m + 1) then (m + 1, h (m + 1)) else scm h (m + 1) := rfl
    rw [rSc, scm_sc h0 m, e]
    by_cases c : (scm h (m + 1)).2 < h (m + 1)
    · rw [if_pos c, if_pos c]
    · rw [if_neg c, if_neg c]
theorem scm_lt {h : Nat → Int32} : ∀ m, (scm h m).1 ≤ m
  | 0 => Nat.le_refl _
  | m + 1 => by
    have := scm_lt (h := h) m
    rw [scm]
    split
    · exact Nat.le_succ m
    · omega
theorem rH_pos {ds dl : List Int32} {b : Int32} {r : Nat} : ∀ (d : Nat) (v : WV) (M : Nat), WR v M → ∃ y : Nat, y ≤ 792 ∧ rH ds dl b r d v = nI y
  | 0, v, M, h => h.had
  | d + 1, v, M, h => rH_pos d _ (M + 1) (wr_pV h ds dl _ _)
theorem r0q_X10_tryRoutes (l : Launch) (e : Nat) : ix_Ct l yX10_tryRoutes cX10_tryRoutes 6 none (6 + e) sh_X10_tryRoutes (T_X10_tryRoutes 0) := by
  have H := a_X10_tryRoutes l (6 + e) (by omega) (no_X10_tryRoutes l) (by omega) (fun x μ Q Q' _ h => h)
  refine ix_ct H rfl (by decide) (fun _ => Nat.le_of_ble_eq_true rfl) (fun x μ Q hok hT => ?_)
  obtain ⟨o, b, n, g, row⟩ := x
  obtain ⟨rfl, M, N, G, ds, dl, rfl, rfl, hN, hN4, hW, hM, hL, hQ⟩ := hT
  show ix_Ev (o_X10_tryRoutes _) Q (0, [some (vr 9 0), some (vi b), some (vi (nI N)), some (vi (nI G)), some (vi row), none], [], μ)
  have hN : N = G := hN
  subst hN
  have hle : nI N ≤ nI N := Int32.le_refl _
  have hc : (nI N).toNatClampNeg = N := nI_clamp (by omega)
  have hin : vp_in (nI N) 5 := vp_in_nI (by omega) (by decide)
  obtain ⟨g1, g2⟩ := hW.had
  simp (decide := true) only [e_X10_tryRoutes_0 H, e_X10_tryRoutes_1 H, e_X10_tryRoutes_2 H, e_X10_tryRoutes_5 H, e_X10_tryRoutes_6 H, e_X10_tryRoutes_7 H, e_X10_tryRoutes_10 H, e_X10_tryRoutes_11 H, e_X10_tryRoutes_14 H, e_X10_tryRoutes_15 H, e_X10_tryRoutes_16 H, e_X10_tryRoutes_19 H, e_X10_tryRoutes_21 H, e_X10_tryRoutes_23 H, e_X10_tryRoutes_24 H, e_X10_tryRoutes_27 H, e_X10_tryRoutes_30 H, e_X10_tryRoutes_31 H, e_X10_tryRoutes_33 H, e_X10_tryRoutes_36 H, e_X10_tryRoutes_37 H, e_X10_tryRoutes_39 H, e_X10_tryRoutes_42 H, e_X10_tryRoutes_43 H, e_X10_tryRoutes_44 H, e_X10_tryRoutes_48 H, e_X10_tryRoutes_49 H, e_X10_tryRoutes_52 H, e_X10_tryRoutes_53 H, e_X10_tryRoutes_56 H, e_X10_tryRoutes_57 H, e_X10_tryRoutes_58 H, e_X10_tryRoutes_59 H, e_X10_tryRoutes_60 H, e_X10_tryRoutes_61 H, e_X10_tryRoutes_64 H, e_X10_tryRoutes_65 H, e_X10_tryRoutes_66 H, e_X10_tryRoutes_69 H, e_X10_tryRoutes_70 H, e_X10_tryRoutes_73 H, e_X10_tryRoutes_74 H, e_X10_tryRoutes_75 H, e_X10_tryRoutes_76 H, e_X10_tryRoutes_77 H, e_X10_tryRoutes_78 H, e_X10_tryRoutes_81 H, e_X10_tryRoutes_84 H, e_X10_tryRoutes_85 H, e_X10_tryRoutes_87 H, e_X10_tryRoutes_90 H, e_X10_tryRoutes_91 H, e_X10_tryRoutes_92 H, e_X10_tryRoutes_93 H, e_X10_tryRoutes_94 H, e_X10_tryRoutes_95 H, e_X10_tryRoutes_96 H, e_X10_tryRoutes_98 H, e_X10_tryRoutes_100 H, e_X10_tryRoutes_101 H, e_X10_tryRoutes_103 H, e_X10_tryRoutes_104 H, e_X10_tryRoutes_107 H, e_X10_tryRoutes_110 H, e_X10_tryRoutes_113 H, vi, vl, vr, ocr_X10_tryRoutes, oc_X9_copyFrom, T_X9_copyFrom, oc_X9_had, T_X9_had, oc_X9_pass, T_X9_pass, ix_push, ix_iload, ix_lload, ix_aload, ix_istore, ix_astore, ix_iinc, ix_bin, ix_div, ix_un, ix_i2l, ix_l2i, ix_lbin, ix_lsh, ix_lcmp, ix_dup, ix_dup2, ix_pop, ix_if, ix_cmp, ix_goto, ix_switch, ix_sw, ix_iret, ix_zret, ix_vret, ix_aret, ix_geti, ix_getr, ix_puti, ix_putz, ix_puts, ix_gets, ix_iald, ix_iast, ix_alen, ix_aald, ix_gval, ix_gcod, ix_bald, ix_blen, ix_sald, ix_nret, ix_math2, ix_math1, ix_acopy, Nat.add_assoc, Int32.reduceLT, Int32.reduceLE, Int32.reduceToNatClampNeg, Int32.reduceSub, Int32.reduceAdd, Nat.reduceAdd, Nat.reduceLeDiff, true_or, or_true, or_false, false_or, not_false_eq_true, not_true_eq_false, false_implies, true_implies, implies_true, and_self, mB_0, mB_01, Classical.not_not, Nat.zero_le, List.getElem?_cons_zero, List.getElem?_cons_succ, List.set_cons_zero, List.set_cons_succ, ix_nl, ix_cs, true_and, and_true, Option.toList_some, Option.toList_none, List.cons_append, List.nil_append, hle, hin, hc]
  refine ⟨g1, ?_⟩
  rw [show 48 + (8 * N + 7) = 48 + 8 * N + 7 by omega, g2]
  refine ⟨fun c => ?_, fun c => ?_⟩
  · refine hQ μ Fx.rf ?_ (fun _ _ _ => rfl)
    simp only [rtF, if_neg (Int32.not_lt.mpr c)]
  · refine hQ _ (Fx.up (Fx.up Fx.rf (wQ_in.mpr (Or.inl rfl))) (wQ_in.mpr (Or.inl rfl))) ?_ (fun j h1 h2 => ?_)
    · simp only [rtF, if_pos (Int32.not_le.mp c)]
      simp [ix_up_ap]
    · simp [ix_up_ap, h1, h2]
theorem kq_X10_tryRoutes (l : Launch) (e : Nat) : ∀ d, ix_Ct l yX10_tryRoutes cX10_tryRoutes 6 none (6 + e + d) sh_X10_tryRoutes (T_X10_tryRoutes d)
  | 0 => r0q_X10_tryRoutes l e
  | d + 1 => by
    have H := a_X10_tryRoutes l (6 + e + (d + 1)) (by omega) (kq_X10_tryRoutes l e d) (by omega) (mo_X10_tryRoutes d)
    refine ix_ct H rfl (by decide) (fun _ => Nat.le_of_ble_eq_true rfl) (fun x μ Q hok hT => ?_)
    obtain ⟨o, b, n, g, row⟩ := x
    obtain ⟨rfl, M, N, G, ds, dl, rfl, rfl, hN, hN4, hW, hM, hL, hQ⟩ := hT
    show ix_Ev (o_X10_tryRoutes _) Q (0, [some (vr 9 0), some (vi b), some (vi (nI N)), some (vi (nI G)), some (vi row), none], [], μ)
    have hlt : nI G < nI N := nI_lt (by omega) (by omega)
    have hng : ¬ nI N ≤ nI G := nI_ge (by omega) (by omega)
    have h4 : nI G < 4 := by
      rw [fa_lit 4]
      exact nI_lt (by omega) (by decide)
    have h4' : ¬ (4 : Int32) ≤ nI G := by
      rw [fa_lit 4]
      exact nI_ge (by omega) (by decide)
    simp (decide := true) only [e_X10_tryRoutes_0 H, e_X10_tryRoutes_1 H, e_X10_tryRoutes_2 H, e_X10_tryRoutes_5 H, e_X10_tryRoutes_6 H, e_X10_tryRoutes_7 H, e_X10_tryRoutes_10 H, e_X10_tryRoutes_11 H, e_X10_tryRoutes_14 H, e_X10_tryRoutes_15 H, e_X10_tryRoutes_16 H, e_X10_tryRoutes_19 H, e_X10_tryRoutes_21 H, e_X10_tryRoutes_23 H, e_X10_tryRoutes_24 H, e_X10_tryRoutes_27 H, e_X10_tryRoutes_30 H, e_X10_tryRoutes_31 H, e_X10_tryRoutes_33 H, e_X10_tryRoutes_36 H, e_X10_tryRoutes_37 H, e_X10_tryRoutes_39 H, e_X10_tryRoutes_42 H, e_X10_tryRoutes_43 H, e_X10_tryRoutes_44 H, e_X10_tryRoutes_48 H, e_X10_tryRoutes_49 H, e_X10_tryRoutes_52 H, e_X10_tryRoutes_53 H, e_X10_tryRoutes_56 H, e_X10_tryRoutes_57 H, e_X10_tryRoutes_58 H, e_X10_tryRoutes_59 H, e_X10_tryRoutes_60 H, e_X10_tryRoutes_61 H, e_X10_tryRoutes_64 H, e_X10_tryRoutes_65 H, e_X10_tryRoutes_66 H, e_X10_tryRoutes_69 H, e_X10_tryRoutes_70 H, e_X10_tryRoutes_73 H, e_X10_tryRoutes_74 H, e_X10_tryRoutes_75 H, e_X10_tryRoutes_76 H, e_X10_tryRoutes_77 H, e_X10_tryRoutes_78 H, e_X10_tryRoutes_81 H, e_X10_tryRoutes_84 H, e_X10_tryRoutes_85 H, e_X10_tryRoutes_87 H, e_X10_tryRoutes_90 H, e_X10_tryRoutes_91 H, e_X10_tryRoutes_92 H, e_X10_tryRoutes_93 H, e_X10_tryRoutes_94 H, e_X10_tryRoutes_95 H, e_X10_tryRoutes_96 H, e_X10_tryRoutes_98 H, e_X10_tryRoutes_100 H, e_X10_tryRoutes_101 H, e_X10_tryRoutes_103 H, e_X10_tryRoutes_104 H, e_X10_tryRoutes_107 H, e_X10_tryRoutes_110 H, e_X10_tryRoutes_113 H, vi, vl, vr, ocr_X10_tryRoutes, oc_X9_copyFrom, T_X9_copyFrom, oc_X9_had, T_X9_had, oc_X9_pass, T_X9_pass, ix_push, ix_iload, ix_lload, ix_aload, ix_istore, ix_astore, ix_iinc, ix_bin, ix_div, ix_un, ix_i2l, ix_l2i, ix_lbin, ix_lsh, ix_lcmp, ix_dup, ix_dup2, ix_pop, ix_if, ix_cmp, ix_goto, ix_switch, ix_sw, ix_iret, ix_zret, ix_vret, ix_aret, ix_geti, ix_getr, ix_puti, ix_putz, ix_puts, ix_gets, ix_iald, ix_iast, ix_alen, ix_aald, ix_gval, ix_gcod, ix_bald, ix_blen, ix_sald, ix_nret, ix_math2, ix_math1, ix_acopy, Nat.add_assoc, Int32.reduceLT, Int32.reduceLE, Int32.reduceToNatClampNeg, Int32.reduceSub, Int32.reduceAdd, Nat.reduceAdd, Nat.reduceLeDiff, true_or, or_true, or_false, false_or, not_false_eq_true, not_true_eq_false, false_implies, true_implies, implies_true, and_self, mB_0, mB_01, Classical.not_not, Nat.zero_le, List.getElem?_cons_zero, List.getElem?_cons_succ, List.set_cons_zero, List.set_cons_succ, ix_nl, ix_cs, true_and, and_true, Option.toList_some, Option.toList_none, List.cons_append, List.nil_append, hlt, hng, h4, h4']
    exact l_X10_tryRoutes l d H hN hN4 hW hM hL hQ 5 0 μ rfl Fx.rf rfl (fun _ _ _ => rfl)

def T_tryR : Nat × Int32 × Int32 × Int32 × Int32 → ix_M → (ix_R → Prop) → Prop := fun x μ Q => ∃ d, d ≤ 4 ∧ T_X10_tryRoutes d x μ Q
theorem mo_tryR : ∀ (x : Nat × Int32 × Int32 × Int32 × Int32) (μ : ix_M) (Q Q' : ix_R → Prop), (∀ r, Q r → Q' r) → T_tryR x μ Q → T_tryR x μ Q' := fun x μ Q Q' h ⟨d, hd, z⟩ => ⟨d, hd, mo_X10_tryRoutes d x μ Q Q' h z⟩
theorem k_tryR (l : Launch) : ix_Ct l yX10_tryRoutes cX10_tryRoutes 6 none 10 sh_X10_tryRoutes T_tryR := by
  intro E x μ Q h1 h2 ⟨d, hd, h3⟩
  have h := kq_X10_tryRoutes l (4 - d) d
  rw [show 6 + (4 - d) + d = 10 by omega] at h
  exact h E x μ Q h1 h2 h3
def ix_popr (n : Nat) : ix_Op := fun k _ ls st μ => match st with
  | .inr (.inr _) :: st' => k (n, ls, st', μ)
  | _ => False
theorem ix_s_popr {l : Launch} {cc : ByteArray} {nL : Nat} {own : String} {d : Nat} {rt : Option FieldType} {pc : Nat} (hd : decode cc pc = .ok (.pop, 1)) : ix_S l cc nL own d rt pc (ix_popr (pc + 1)) := by
  refine ⟨fun k k' Q ls st μ hk h => ?_, fun p e R s m args below meth c cells slots Qw E A Q hC ls st μ h H locs lsa hP hS hl hok => ?_⟩
  · unfold ix_popr at h ⊢; split at h <;> first | exact hk _ h | exact h
  · unfold ix_popr at h; split at h
    · exact lv_pop hC.1 hC.2.1 hd rfl (h H locs lsa hP hS hl (ix_ok_tl hok))
    · exact h.elim
def o_X10_route (TX10_tryRoutes : Nat × Int32 × Int32 × Int32 × Int32 → ix_M → (ix_R → Prop) → Prop) : List (Nat × ix_Op) := [
  (0, ix_aload 0 1),
  (1, ix_iload 1 2),
  (2, oc_X10_noBoat 5),
  (5, ix_if (fun x => x = 0) 8 24),
  (8, ix_iload 2 9),
  (9, ix_push (vi 4) 10),
  (10, oc_X10_outside 13),
  (13, ix_if (fun x => x = 0) 16 24),
  (16, ix_iload 3 17),
  (17, ix_push (vi 1) 18),
  (18, oc_X10_outside 21),
  (21, ix_if (fun x => x = 0) 30 24),
  (24, ix_aload 0 25),
  (25, ix_push (vi 1) 26),
  (26, oc_X10_error 29),
  (29, ix_iret),
  (30, ix_aload 0 31),
  (31, ix_push (vi (-1)) 32),
  (32, ix_puti 9 9 35),
  (35, ix_aload 0 36),
  (36, ix_push (vi 1) 37),
  (37, ix_puti 9 10 40),
  (40, ix_aload 0 41),
  (41, oc_X10_think 44),
  (44, ix_popr 45),
  (45, ix_aload 0 46),
  (46, ix_iload 1 47),
  (47, ix_iload 2 48),
  (48, ix_push (vi 0) 49),
  (49, ix_push (vi 1) 50),
  (50, ocr_X10_tryRoutes TX10_tryRoutes 53),
  (53, ix_iload 3 54),
  (54, ix_if (fun x => x = 0) 57 64),
  (57, ix_aload 0 58),
  (58, ix_geti 9 10 61),
  (61, ix_goto 68),
  (64, ix_aload 0 65),
  (65, ix_geti 9 9 68),
  (68, ix_iret)]
set_option maxRecDepth 20000 in
theorem a_X10_route (l : Launch) (d : Nat) (hlev : 11 ≤ d) {TX10_tryRoutes : Nat × Int32 × Int32 × Int32 × Int32 → ix_M → (ix_R → Prop) → Prop} {d_X10_tryRoutes : Nat} (h_X10_tryRoutes : ix_Ct l yX10_tryRoutes cX10_tryRoutes 6 none d_X10_tryRoutes sh_X10_tryRoutes TX10_tryRoutes) (hl_X10_tryRoutes : d_X10_tryRoutes < d) (hm_X10_tryRoutes : ∀ x μ Q Q', (∀ r, Q r → Q' r) → TX10_tryRoutes x μ Q → TX10_tryRoutes x μ Q') : ix_AllS l cX10_route 4 RX10 d (some .int) (o_X10_route TX10_tryRoutes) :=
  .cons (ix_s_aload_n dX10_route_0 rfl) <|
  .cons (ix_s_iload_n dX10_route_1 rfl) <|
  .cons (oc_X10_noBoat_s (ix_s_callv (t := 9) (k_X10_noBoat l) (by omega) (by decide) tw_369 tw_1 tw_366 tw_368 tp_1 ⟨by decide, by decide, by decide +kernel⟩ (by decide) rfl rfl (fun _ => ⟨_, _, rfl, rfl⟩) dX10_route_2)) <|
  .cons (ix_s_if_ne dX10_route_5 (by decide)) <|
  .cons (ix_s_iload_n dX10_route_8 rfl) <|
  .cons (ix_s_iconst dX10_route_9 (by decide +kernel)) <|
  .cons (oc_X10_outside_s (ix_s_calls (k_X10_outside l) (by omega) (by decide) tw_291 tw_1 tw_289 tw_290 ⟨by decide, by decide, by decide +kernel⟩ (fun _ => rfl) dX10_route_10)) <|
  .cons (ix_s_if_ne dX10_route_13 (by decide)) <|
  .cons (ix_s_iload_n dX10_route_16 rfl) <|
  .cons (ix_s_iconst dX10_route_17 (by decide +kernel)) <|
  .cons (oc_X10_outside_s (ix_s_calls (k_X10_outside l) (by omega) (by decide) tw_291 tw_1 tw_289 tw_290 ⟨by decide, by decide, by decide +kernel⟩ (fun _ => rfl) dX10_route_18)) <|
  .cons (ix_s_if_eq dX10_route_21 (by decide)) <|
  .cons (ix_s_aload_n dX10_route_24 rfl) <|
  .cons (ix_s_iconst dX10_route_25 (by decide +kernel)) <|
  .cons (oc_X10_error_s (ix_s_callv (t := 9) (k_X10_error l) (by omega) (by decide) tw_295 tw_1 tw_292 tw_294 tp_0 ⟨by decide, by decide, by decide +kernel⟩ (by decide) rfl rfl (fun _ => ⟨_, _, rfl, rfl⟩) dX10_route_26)) <|
  .cons (ix_s_iret dX10_route_29 rfl) <|
  .cons (ix_s_aload_n dX10_route_30 rfl) <|
  .cons (ix_s_iconst dX10_route_31 (by decide +kernel)) <|
  .cons (ix_s_puti (j := 9) tu_X10 tyX10_ok nmX10 rfl (by decide) (by decide) tw_260 rfl rfl (by decide +kernel) ts_9_9_p dX10_route_32) <|
  .cons (ix_s_aload_n dX10_route_35 rfl) <|
  .cons (ix_s_iconst dX10_route_36 (by decide +kernel)) <|
  .cons (ix_s_puti (j := 10) tu_X10 tyX10_ok nmX10 rfl (by decide) (by decide) tw_261 rfl rfl (by decide +kernel) ts_9_10_p dX10_route_37) <|
  .cons (ix_s_aload_n dX10_route_40 rfl) <|
  .cons (oc_X10_think_s (ix_s_callv (t := 9) (k_X10_think l) (by omega) (by decide) tw_638 tw_1 tw_635 tw_637 tp_8 ⟨by decide, by decide, by decide +kernel⟩ (by decide) rfl rfl (fun _ => ⟨_, _, rfl, rfl⟩) dX10_route_41)) <|
  .cons (ix_s_popr dX10_route_44) <|
  .cons (ix_s_aload_n dX10_route_45 rfl) <|
  .cons (ix_s_iload_n dX10_route_46 rfl) <|
  .cons (ix_s_iload_n dX10_route_47 rfl) <|
  .cons (ix_s_iconst dX10_route_48 (by decide +kernel)) <|
  .cons (ix_s_iconst dX10_route_49 (by decide +kernel)) <|
  .cons (ocr_X10_tryRoutes_s hm_X10_tryRoutes (ix_s_callv (t := 9) h_X10_tryRoutes hl_X10_tryRoutes (by decide) tw_683 tw_1 tw_680 tw_682 tp_11 ⟨by decide, by decide, by decide +kernel⟩ (by decide) rfl rfl (fun _ => ⟨_, _, rfl, rfl⟩) dX10_route_50)) <|
  .cons (ix_s_iload_n dX10_route_53 rfl) <|
  .cons (ix_s_if_ne dX10_route_54 (by decide)) <|
  .cons (ix_s_aload_n dX10_route_57 rfl) <|
  .cons (ix_s_geti (j := 10) tu_X10 rfl (by decide) (by decide) tw_261 rfl ts_9_10_i dX10_route_58) <|
  .cons (ix_s_goto dX10_route_61 (by decide)) <|
  .cons (ix_s_aload_n dX10_route_64 rfl) <|
  .cons (ix_s_geti (j := 9) tu_X10 rfl (by decide) (by decide) tw_260 rfl ts_9_9_i dX10_route_65) <|
  .cons (ix_s_iret dX10_route_68 rfl) <| .nil
theorem e_X10_route_0 {TX10_tryRoutes : Nat × Int32 × Int32 × Int32 × Int32 → ix_M → (ix_R → Prop) → Prop} {l : Launch} {d : Nat} (H : ix_AllS l cX10_route 4 RX10 d (some .int) (o_X10_route TX10_tryRoutes)) (Q : ix_R → Prop) (ls : ix_L) (st : List ix_V) (μ : ix_M) : ix_Ev (o_X10_route TX10_tryRoutes) Q (0, ls, st, μ) = ix_aload 0 1 (ix_Ev (o_X10_route TX10_tryRoutes) Q) Q ls st μ := ix_Ev.eq H rfl ls st μ
theorem e_X10_route_1 {TX10_tryRoutes : Nat × Int32 × Int32 × Int32 × Int32 → ix_M → (ix_R → Prop) → Prop} {l : Launch} {d : Nat} (H : ix_AllS l cX10_route 4 RX10 d (some .int) (o_X10_route TX10_tryRoutes)) (Q : ix_R → Prop) (ls : ix_L) (st : List ix_V) (μ : ix_M) : ix_Ev (o_X10_route TX10_tryRoutes) Q (1, ls, st, μ) = ix_iload 1 2 (ix_Ev (o_X10_route TX10_tryRoutes) Q) Q ls st μ := ix_Ev.eq H rfl ls st μ
theorem e_X10_route_2 {TX10_tryRoutes : Nat × Int32 × Int32 × Int32 × Int32 → ix_M → (ix_R → Prop) → Prop} {l : Launch} {d : Nat} (H : ix_AllS l cX10_route 4 RX10 d (some .int) (o_X10_route TX10_tryRoutes)) (Q : ix_R → Prop) (ls : ix_L) (st : List ix_V) (μ : ix_M) : ix_Ev (o_X10_route TX10_tryRoutes) Q (2, ls, st, μ) = oc_X10_noBoat 5 (ix_Ev (o_X10_route TX10_tryRoutes) Q) Q ls st μ := ix_Ev.eq H rfl ls st μ
theorem e_X10_route_5 {TX10_tryRoutes : Nat × Int32 × Int32 × Int32 × Int32 → ix_M → (ix_R → Prop) → Prop} {l : Launch} {d : Nat} (H : ix_AllS l cX10_route 4 RX10 d (some .int) (o_X10_route TX10_tryRoutes)) (Q : ix_R → Prop) (ls : ix_L) (st : List ix_V) (μ : ix_M) : ix_Ev (o_X10_route TX10_tryRoutes) Q (5, ls, st, μ) = ix_if (fun x => x = 0) 8 24 (ix_Ev (o_X10_route TX10_tryRoutes) Q) Q ls st μ := ix_Ev.eq H rfl ls st μ
theorem e_X10_route_8 {TX10_tryRoutes : Nat × Int32 × Int32 × Int32 × Int32 → ix_M → (ix_R → Prop) → Prop} {l : Launch} {d : Nat} (H : ix_AllS l cX10_route 4 RX10 d (some .int) (o_X10_route TX10_tryRoutes)) (Q : ix_R → Prop) (ls : ix_L) (st : List ix_V) (μ : ix_M) : ix_Ev (o_X10_route TX10_tryRoutes) Q (8, ls, st, μ) = ix_iload 2 9 (ix_Ev (o_X10_route TX10_tryRoutes) Q) Q ls st μ := ix_Ev.eq H rfl ls st μ
theorem e_X10_route_9 {TX10_tryRoutes : Nat × Int32 × Int32 × Int32 × Int32 → ix_M → (ix_R → Prop) → Prop} {l : Launch} {d : Nat} (H : ix_AllS l cX10_route 4 RX10 d (some .int) (o_X10_route TX10_tryRoutes)) (Q : ix_R → Prop) (ls : ix_L) (st : List ix_V) (μ : ix_M) : ix_Ev (o_X10_route TX10_tryRoutes) Q (9, ls, st, μ) = ix_push (vi 4) 10 (ix_Ev (o_X10_route TX10_tryRoutes) Q) Q ls st μ := ix_Ev.eq H rfl ls st μ
theorem e_X10_route_10 {TX10_tryRoutes : Nat × Int32 × Int32 × Int32 × Int32 → ix_M → (ix_R → Prop) → Prop} {l : Launch} {d : Nat} (H : ix_AllS l cX10_route 4 RX10 d (some .int) (o_X10_route TX10_tryRoutes)) (Q : ix_R → Prop) (ls : ix_L) (st : List ix_V) (μ : ix_M) : ix_Ev (o_X10_route TX10_tryRoutes) Q (10, ls, st, μ) = oc_X10_outside 13 (ix_Ev (o_X10_route TX10_tryRoutes) Q) Q ls st μ := ix_Ev.eq H rfl ls st μ
theorem e_X10_route_13 {TX10_tryRoutes : Nat × Int32 × Int32 × Int32 × Int32 → ix_M → (ix_R → Prop) → Prop} {l : Launch} {d : Nat} (H : ix_AllS l cX10_route 4 RX10 d (some .int) (o_X10_route TX10_tryRoutes)) (Q : ix_R → Prop) (ls : ix_L) (st : List ix_V) (μ : ix_M) : ix_Ev (o_X10_route TX10_tryRoutes) Q (13, ls, st, μ) = ix_if (fun x => x = 0) 16 24 (ix_Ev (o_X10_route TX10_tryRoutes) Q) Q ls st μ := ix_Ev.eq H rfl ls st μ
theorem e_X10_route_16 {TX10_tryRoutes : Nat × Int32 × Int32 × Int32 × Int32 → ix_M → (ix_R → Prop) → Prop} {l : Launch} {d : Nat} (H : ix_AllS l cX10_route 4 RX10 d (some .int) (o_X10_route TX10_tryRoutes)) (Q : ix_R → Prop) (ls : ix_L) (st : List ix_V) (μ : ix_M) : ix_Ev (o_X10_route TX10_tryRoutes) Q (16, ls, st, μ) = ix_iload 3 17 (ix_Ev (o_X10_route TX10_tryRoutes) Q) Q ls st μ := ix_Ev.eq H rfl ls st μ
theorem e_X10_route_17 {TX10_tryRoutes : Nat × Int32 × Int32 × Int32 × Int32 → ix_M → (ix_R → Prop) → Prop} {l : Launch} {d : Nat} (H : ix_AllS l cX10_route 4 RX10 d (some .int) (o_X10_route TX10_tryRoutes)) (Q : ix_R → Prop) (ls : ix_L) (st : List ix_V) (μ : ix_M) : ix_Ev (o_X10_route TX10_tryRoutes) Q (17, ls, st, μ) = ix_push (vi 1) 18 (ix_Ev (o_X10_route TX10_tryRoutes) Q) Q ls st μ := ix_Ev.eq H rfl ls st μ
theorem e_X10_route_18 {TX10_tryRoutes : Nat × Int32 × Int32 × Int32 × Int32 → ix_M → (ix_R → Prop) → Prop} {l : Launch} {d : Nat} (H : ix_AllS l cX10_route 4 RX10 d (some .int) (o_X10_route TX10_tryRoutes)) (Q : ix_R → Prop) (ls : ix_L) (st : List ix_V) (μ : ix_M) : ix_Ev (o_X10_route TX10_tryRoutes) Q (18, ls, st, μ) = oc_X10_outside 21 (ix_Ev (o_X10_route TX10_tryRoutes) Q) Q ls st μ := ix_Ev.eq H rfl ls st μ
theorem e_X10_route_21 {TX10_tryRoutes : Nat × Int32 × Int32 × Int32 × Int32 → ix_M → (ix_R → Prop) → Prop} {l : Launch} {d : Nat} (H : ix_AllS l cX10_route 4 RX10 d (some .int) (o_X10_route TX10_tryRoutes)) (Q : ix_R → Prop) (ls : ix_L) (st : List ix_V) (μ : ix_M) : ix_Ev (o_X10_route TX10_tryRoutes) Q (21, ls, st, μ) = ix_if (fun x => x = 0) 30 24 (ix_Ev (o_X10_route TX10_tryRoutes) Q) Q ls st μ := ix_Ev.eq H rfl ls st μ
theorem e_X10_route_24 {TX10_tryRoutes : Nat × Int32 × Int32 × Int32 × Int32 → ix_M → (ix_R → Prop) → Prop} {l : Launch} {d : Nat} (H : ix_AllS l cX10_route 4 RX10 d (some .int) (o_X10_route TX10_tryRoutes)) (Q : ix_R → Prop) (ls : ix_L) (st : List ix_V) (μ : ix_M) : ix_Ev (o_X10_route TX10_tryRoutes) Q (24, ls, st, μ) = ix_aload 0 25 (ix_Ev (o_X10_route TX10_tryRoutes) Q) Q ls st μ := ix_Ev.eq H rfl ls st μ
theorem e_X10_route_25 {TX10_tryRoutes : Nat × Int32 × Int32 × Int32 × Int32 → ix_M → (ix_R → Prop) → Prop} {l : Launch} {d : Nat} (H : ix_AllS l cX10_route 4 RX10 d (some .int) (o_X10_route TX10_tryRoutes)) (Q : ix_R → Prop) (ls : ix_L) (st : List ix_V) (μ : ix_M) : ix_Ev (o_X10_route TX10_tryRoutes) Q (25, ls, st, μ) = ix_push (vi 1) 26 (ix_Ev (o_X10_route TX10_tryRoutes) Q) Q ls st μ := ix_Ev.eq H rfl ls st μ
theorem e_X10_route_26 {TX10_tryRoutes : Nat × Int32 × Int32 × Int32 × Int32 → ix_M → (ix_R → Prop) → Prop} {l : Launch} {d : Nat} (H : ix_AllS l cX10_route 4 RX10 d (some .int) (o_X10_route TX10_tryRoutes)) (Q : ix_R → Prop) (ls : ix_L) (st : List ix_V) (μ : ix_M) : ix_Ev (o_X10_route TX10_tryRoutes) Q (26, ls, st, μ) = oc_X10_error 29 (ix_Ev (o_X10_route TX10_tryRoutes) Q) Q ls st μ := ix_Ev.eq H rfl ls st μ
theorem e_X10_route_29 {TX10_tryRoutes : Nat × Int32 × Int32 × Int32 × Int32 → ix_M → (ix_R → Prop) → Prop} {l : Launch} {d : Nat} (H : ix_AllS l cX10_route 4 RX10 d (some .int) (o_X10_route TX10_tryRoutes)) (Q : ix_R → Prop) (ls : ix_L) (st : List ix_V) (μ : ix_M) : ix_Ev (o_X10_route TX10_tryRoutes) Q (29, ls, st, μ) = ix_iret (ix_Ev (o_X10_route TX10_tryRoutes) Q) Q ls st μ := ix_Ev.eq H rfl ls st μ
theorem e_X10_route_30 {TX10_tryRoutes : Nat × Int32 × Int32 × Int32 × Int32 → ix_M → (ix_R → Prop) → Prop} {l : Launch} {d : Nat} (H : ix_AllS l cX10_route 4 RX10 d (some .int) (o_X10_route TX10_tryRoutes)) (Q : ix_R → Prop) (ls : ix_L) (st : List ix_V) (μ : ix_M) : ix_Ev (o_X10_route TX10_tryRoutes) Q (30, ls, st, μ) = ix_aload 0 31 (ix_Ev (o_X10_route TX10_tryRoutes) Q) Q ls st μ := ix_Ev.eq H rfl ls st μ
theorem e_X10_route_31 {TX10_tryRoutes : Nat × Int32 × Int32 × Int32 × Int32 → ix_M → (ix_R → Prop) → Prop} {l : Launch} {d : Nat} (H : ix_AllS l cX10_route 4 RX10 d (some .int) (o_X10_route TX10_tryRoutes)) (Q : ix_R → Prop) (ls : ix_L) (st : List ix_V) (μ : ix_M) : ix_Ev (o_X10_route TX10_tryRoutes) Q (31, ls, st, μ) = ix_push (vi (-1)) 32 (ix_Ev (o_X10_route TX10_tryRoutes) Q) Q ls st μ := ix_Ev.eq H rfl ls st μ
theorem e_X10_route_32 {TX10_tryRoutes : Nat × Int32 × Int32 × Int32 × Int32 → ix_M → (ix_R → Prop) → Prop} {l : Launch} {d : Nat} (H : ix_AllS l cX10_route 4 RX10 d (some .int) (o_X10_route TX10_tryRoutes)) (Q : ix_R → Prop) (ls : ix_L) (st : List ix_V) (μ : ix_M) : ix_Ev (o_X10_route TX10_tryRoutes) Q (32, ls, st, μ) = ix_puti 9 9 35 (ix_Ev (o_X10_route TX10_tryRoutes) Q) Q ls st μ := ix_Ev.eq H rfl ls st μ
theorem e_X10_route_35 {TX10_tryRoutes : Nat × Int32 × Int32 × Int32 × Int32 → ix_M → (ix_R → Prop) → Prop} {l : Launch} {d : Nat} (H : ix_AllS l cX10_route 4 RX10 d (some .int) (o_X10_route TX10_tryRoutes)) (Q : ix_R → Prop) (ls : ix_L) (st : List ix_V) (μ : ix_M) : ix_Ev (o_X10_route TX10_tryRoutes) Q (35, ls, st, μ) = ix_aload 0 36 (ix_Ev (o_X10_route TX10_tryRoutes) Q) Q ls st μ := ix_Ev.eq H rfl ls st μ
theorem e_X10_route_36 {TX10_tryRoutes : Nat × Int32 × Int32 × Int32 × Int32 → ix_M → (ix_R → Prop) → Prop} {l : Launch} {d : Nat} (H : ix_AllS l cX10_route 4 RX10 d (some .int) (o_X10_route TX10_tryRoutes)) (Q : ix_R → Prop) (ls : ix_L) (st : List ix_V) (μ : ix_M) : ix_Ev (o_X10_route TX10_tryRoutes) Q (36, ls, st, μ) = ix_push (vi 1) 37 (ix_Ev (o_X10_route TX10_tryRoutes) Q) Q ls st μ := ix_Ev.eq H rfl ls st μ
theorem e_X10_route_37 {TX10_tryRoutes : Nat × Int32 × Int32 × Int32 × Int32 → ix_M → (ix_R → Prop) → Prop} {l : Launch} {d : Nat} (H : ix_AllS l cX10_route 4 RX10 d (some .int) (o_X10_route TX10_tryRoutes)) (Q : ix_R → Prop) (ls : ix_L) (st : List ix_V) (μ : ix_M) : ix_Ev (o_X10_route TX10_tryRoutes) Q (37, ls, st, μ) = ix_puti 9 10 40 (ix_Ev (o_X10_route TX10_tryRoutes) Q) Q ls st μ := ix_Ev.eq H rfl ls st μ
theorem e_X10_route_40 {TX10_tryRoutes : Nat × Int32 × Int32 × Int32 × Int32 → ix_M → (ix_R → Prop) → Prop} {l : Launch} {d : Nat} (H : ix_AllS l cX10_route 4 RX10 d (some .int) (o_X10_route TX10_tryRoutes)) (Q : ix_R → Prop) (ls : ix_L) (st : List ix_V) (μ : ix_M) : ix_Ev (o_X10_route TX10_tryRoutes) Q (40, ls, st, μ) = ix_aload 0 41 (ix_Ev (o_X10_route TX10_tryRoutes) Q) Q ls st μ := ix_Ev.eq H rfl ls st μ
theorem e_X10_route_41 {TX10_tryRoutes : Nat × Int32 × Int32 × Int32 × Int32 → ix_M → (ix_R → Prop) → Prop} {l : Launch} {d : Nat} (H : ix_AllS l cX10_route 4 RX10 d (some .int) (o_X10_route TX10_tryRoutes)) (Q : ix_R → Prop) (ls : ix_L) (st : List ix_V) (μ : ix_M) : ix_Ev (o_X10_route TX10_tryRoutes) Q (41, ls, st, μ) = oc_X10_think 44 (ix_Ev (o_X10_route TX10_tryRoutes) Q) Q ls st μ := ix_Ev.eq H rfl ls st μ
theorem e_X10_route_44 {TX10_tryRoutes : Nat × Int32 × Int32 × Int32 × Int32 → ix_M → (ix_R → Prop) → Prop} {l : Launch} {d : Nat} (H : ix_AllS l cX10_route 4 RX10 d (some .int) (o_X10_route TX10_tryRoutes)) (Q : ix_R → Prop) (ls : ix_L) (st : List ix_V) (μ : ix_M) : ix_Ev (o_X10_route TX10_tryRoutes) Q (44, ls, st, μ) = ix_popr 45 (ix_Ev (o_X10_route TX10_tryRoutes) Q) Q ls st μ := ix_Ev.eq H rfl ls st μ
theorem e_X10_route_45 {TX10_tryRoutes : Nat × Int32 × Int32 × Int32 × Int32 → ix_M → (ix_R → Prop) → Prop} {l : Launch} {d : Nat} (H : ix_AllS l cX10_route 4 RX10 d (some .int) (o_X10_route TX10_tryRoutes)) (Q : ix_R → Prop) (ls : ix_L) (st : List ix_V) (μ : ix_M) : ix_Ev (o_X10_route TX10_tryRoutes) Q (45, ls, st, μ) = ix_aload 0 46 (ix_Ev (o_X10_route TX10_tryRoutes) Q) Q ls st μ := ix_Ev.eq H rfl ls st μ
theorem e_X10_route_46 {TX10_tryRoutes : Nat × Int32 × Int32 × Int32 × Int32 → ix_M → (ix_R → Prop) → Prop} {l : Launch} {d : Nat} (H : ix_AllS l cX10_route 4 RX10 d (some .int) (o_X10_route TX10_tryRoutes)) (Q : ix_R → Prop) (ls : ix_L) (st : List ix_V) (μ : ix_M) : ix_Ev (o_X10_route TX10_tryRoutes) Q (46, ls, st, μ) = ix_iload 1 47 (ix_Ev (o_X10_route TX10_tryRoutes) Q) Q ls st μ := ix_Ev.eq H rfl ls st μ
theorem e_X10_route_47 {TX10_tryRoutes : Nat × Int32 × Int32 × Int32 × Int32 → ix_M → (ix_R → Prop) → Prop} {l : Launch} {d : Nat} (H : ix_AllS l cX10_route 4 RX10 d (some .int) (o_X10_route TX10_tryRoutes)) (Q : ix_R → Prop) (ls : ix_L) (st : List ix_V) (μ : ix_M) : ix_Ev (o_X10_route TX10_tryRoutes) Q (47, ls, st, μ) = ix_iload 2 48 (ix_Ev (o_X10_route TX10_tryRoutes) Q) Q ls st μ := ix_Ev.eq H rfl ls st μ
theorem e_X10_route_48 {TX10_tryRoutes : Nat × Int32 × Int32 × Int32 × Int32 → ix_M → (ix_R → Prop) → Prop} {l : Launch} {d : Nat} (H : ix_AllS l cX10_route 4 RX10 d (some .int) (o_X10_route TX10_tryRoutes)) (Q : ix_R → Prop) (ls : ix_L) (st : List ix_V) (μ : ix_M) : ix_Ev (o_X10_route TX10_tryRoutes) Q (48, ls, st, μ) = ix_push (vi 0) 49 (ix_Ev (o_X10_route TX10_tryRoutes) Q) Q ls st μ := ix_Ev.eq H rfl ls st μ
theorem e_X10_route_49 {TX10_tryRoutes : Nat × Int32 × Int32 × Int32 × Int32 → ix_M → (ix_R → Prop) → Prop} {l : Launch} {d : Nat} (H : ix_AllS l cX10_route 4 RX10 d (some .int) (o_X10_route TX10_tryRoutes)) (Q : ix_R → Prop) (ls : ix_L) (st : List ix_V) (μ : ix_M) : ix_Ev (o_X10_route TX10_tryRoutes) Q (49, ls, st, μ) = ix_push (vi 1) 50 (ix_Ev (o_X10_route TX10_tryRoutes) Q) Q ls st μ := ix_Ev.eq H rfl ls st μ
theorem e_X10_route_50 {TX10_tryRoutes : Nat × Int32 × Int32 × Int32 × Int32 → ix_M → (ix_R → Prop) → Prop} {l : Launch} {d : Nat} (H : ix_AllS l cX10_route 4 RX10 d (some .int) (o_X10_route TX10_tryRoutes)) (Q : ix_R → Prop) (ls : ix_L) (st : List ix_V) (μ : ix_M) : ix_Ev (o_X10_route TX10_tryRoutes) Q (50, ls, st, μ) = ocr_X10_tryRoutes TX10_tryRoutes 53 (ix_Ev (o_X10_route TX10_tryRoutes) Q) Q ls st μ := ix_Ev.eq H rfl ls st μ
theorem e_X10_route_53 {TX10_tryRoutes : Nat × Int32 × Int32 × Int32 × Int32 → ix_M → (ix_R → Prop) → Prop} {l : Launch} {d : Nat} (H : ix_AllS l cX10_route 4 RX10 d (some .int) (o_X10_route TX10_tryRoutes)) (Q : ix_R → Prop) (ls : ix_L) (st : List ix_V) (μ : ix_M) : ix_Ev (o_X10_route TX10_tryRoutes) Q (53, ls, st, μ) = ix_iload 3 54 (ix_Ev (o_X10_route TX10_tryRoutes) Q) Q ls st μ := ix_Ev.eq H rfl ls st μ
theorem e_X10_route_54 {TX10_tryRoutes : Nat × Int32 × Int32 × Int32 × Int32 → ix_M → (ix_R → Prop) → Prop} {l : Launch} {d : Nat} (H : ix_AllS l cX10_route 4 RX10 d (some .int) (o_X10_route TX10_tryRoutes)) (Q : ix_R → Prop) (ls : ix_L) (st : List ix_V) (μ : ix_M) : ix_Ev (o_X10_route TX10_tryRoutes) Q (54, ls, st, μ) = ix_if (fun x => x = 0) 57 64 (ix_Ev (o_X10_route TX10_tryRoutes) Q) Q ls st μ := ix_Ev.eq H rfl ls st μ
theorem e_X10_route_57 {TX10_tryRoutes : Nat × Int32 × Int32 × Int32 × Int32 → ix_M → (ix_R → Prop) → Prop} {l : Launch} {d : Nat} (H : ix_AllS l cX10_route 4 RX10 d (some .int) (o_X10_route TX10_tryRoutes)) (Q : ix_R → Prop) (ls : ix_L) (st : List ix_V) (μ : ix_M) : ix_Ev (o_X10_route TX10_tryRoutes) Q (57, ls, st, μ) = ix_aload 0 58 (ix_Ev (o_X10_route TX10_tryRoutes) Q) Q ls st μ := ix_Ev.eq H rfl ls st μ
theorem e_X10_route_58 {TX10_tryRoutes : Nat × Int32 × Int32 × Int32 × Int32 → ix_M → (ix_R → Prop) → Prop} {l : Launch} {d : Nat} (H : ix_AllS l cX10_route 4 RX10 d (some .int) (o_X10_route TX10_tryRoutes)) (Q : ix_R → Prop) (ls : ix_L) (st : List ix_V) (μ : ix_M) : ix_Ev (o_X10_route TX10_tryRoutes) Q (58, ls, st, μ) = ix_geti 9 10 61 (ix_Ev (o_X10_route TX10_tryRoutes) Q) Q ls st μ := ix_Ev.eq H rfl ls st μ
theorem e_X10_route_61 {TX10_tryRoutes : Nat × Int32 × Int32 × Int32 × Int32 → ix_M → (ix_R → Prop) → Prop} {l : Launch} {d : Nat} (H : ix_AllS l cX10_route 4 RX10 d (some .int) (o_X10_route TX10_tryRoutes)) (Q : ix_R → Prop) (ls : ix_L) (st : List ix_V) (μ : ix_M) : ix_Ev (o_X10_route TX10_tryRoutes) Q (61, ls, st, μ) = ix_goto 68 (ix_Ev (o_X10_route TX10_tryRoutes) Q) Q ls st μ := ix_Ev.eq H rfl ls st μ
theorem e_X10_route_64 {TX10_tryRoutes : Nat × Int32 × Int32 × Int32 × Int32 → ix_M → (ix_R → Prop) → Prop} {l : Launch} {d : Nat} (H : ix_AllS l cX10_route 4 RX10 d (some .int) (o_X10_route TX10_tryRoutes)) (Q : ix_R → Prop) (ls : ix_L) (st : List ix_V) (μ : ix_M) : ix_Ev (o_X10_route TX10_tryRoutes) Q (64, ls, st, μ) = ix_aload 0 65 (ix_Ev (o_X10_route TX10_tryRoutes) Q) Q ls st μ := ix_Ev.eq H rfl ls st μ
theorem e_X10_route_65 {TX10_tryRoutes : Nat × Int32 × Int32 × Int32 × Int32 → ix_M → (ix_R → Prop) → Prop} {l : Launch} {d : Nat} (H : ix_AllS l cX10_route 4 RX10 d (some .int) (o_X10_route TX10_tryRoutes)) (Q : ix_R → Prop) (ls : ix_L) (st : List ix_V) (μ : ix_M) : ix_Ev (o_X10_route TX10_tryRoutes) Q (65, ls, st, μ) = ix_geti 9 9 68 (ix_Ev (o_X10_route TX10_tryRoutes) Q) Q ls st μ := ix_Ev.eq H rfl ls st μ
theorem e_X10_route_68 {TX10_tryRoutes : Nat × Int32 × Int32 × Int32 × Int32 → ix_M → (ix_R → Prop) → Prop} {l : Launch} {d : Nat} (H : ix_AllS l cX10_route 4 RX10 d (some .int) (o_X10_route TX10_tryRoutes)) (Q : ix_R → Prop) (ls : ix_L) (st : List ix_V) (μ : ix_M) : ix_Ev (o_X10_route TX10_tryRoutes) Q (68, ls, st, μ) = ix_iret (ix_Ev (o_X10_route TX10_tryRoutes) Q) Q ls st μ := ix_Ev.eq H rfl ls st μ
def o_X11_route : List (Nat × ix_Op) := [
  (0, ix_aload 0 1),
  (1, ix_iload 1 2),
  (2, oc_X11_isBoat 5),
  (5, ix_if (fun x => x = 0) 26 8),
  (8, ix_iload 2 9),
  (9, ix_push (vi 0) 10),
  (10, ix_push (vi 4) 11),
  (11, oc_X11_within 14),
  (14, ix_if (fun x => x = 0) 26 17),
  (17, ix_iload 3 18),
  (18, ix_push (vi 0) 19),
  (19, ix_push (vi 1) 20),
  (20, oc_X11_within 23),
  (23, ix_if (fun x => x = 0) 26 33),
  (26, ix_aload 0 27),
  (27, ix_push (vi (-1000000001)) 29),
  (29, oc_X11_finding 32),
  (32, ix_iret),
  (33, ix_push (vi 1) 34),
  (34, ix_istore 4 36),
  (36, ix_push (vi 0) 37),
  (37, ix_istore 5 39),
  (39, ix_iload 5 41),
  (41, ix_iload 2 42),
  (42, ix_cmp (fun x y => y ≤ x) 57 45),
  (45, ix_iload 4 47),
  (47, ix_push (vi 5) 48),
  (48, ix_bin (fun x y => x * y) 49),
  (49, ix_istore 4 51),
  (51, ix_iinc 5 1 54),
  (54, ix_goto 39),
  (57, ix_push (vi 0) 58),
  (58, ix_istore 5 60),
  (60, ix_push (vi (-1)) 61),
  (61, ix_istore 6 63),
  (63, ix_push (vi 0) 64),
  (64, ix_istore 7 66),
  (66, ix_iload 7 68),
  (68, ix_iload 4 70),
  (70, ix_cmp (fun x y => y ≤ x) 115 73),
  (73, ix_aload 0 74),
  (74, ix_iload 1 75),
  (75, ix_iload 7 77),
  (77, ix_iload 4 79),
  (79, oc_X11_hadBy 82),
  (82, ix_istore 8 84),
  (84, ix_iload 8 86),
  (86, ix_iload 6 88),
  (88, ix_cmp (fun x y => x ≤ y) 96 91),
  (91, ix_iload 7 93),
  (93, ix_goto 98),
  (96, ix_iload 5 98),
  (98, ix_istore 5 100),
  (100, ix_iload 6 102),
  (102, ix_iload 8 104),
  (104, ix_math2 (fun x y => if x < y then y else x) 107),
  (107, ix_istore 6 109),
  (109, ix_iinc 7 1 112),
  (112, ix_goto 66),
  (115, ix_push (vi 1) 116),
  (116, ix_istore 7 118),
  (118, ix_iload 4 120),
  (120, ix_push (vi 5) 121),
  (121, ix_div (fun x y => x / y) 122),
  (122, ix_istore 8 124),
  (124, ix_iload 8 126),
  (126, ix_if (fun x => x ≤ 0) 153 129),
  (129, ix_push (vi 10) 131),
  (131, ix_iload 7 133),
  (133, ix_bin (fun x y => x * y) 134),
  (134, ix_iload 5 136),
  (136, ix_iload 8 138),
  (138, ix_div (fun x y => x / y) 139),
  (139, ix_push (vi 5) 140),
  (140, ix_div (fun x y => x - x / y * y) 141),
  (141, ix_bin (fun x y => x + y) 142),
  (142, ix_istore 7 144),
  (144, ix_iload 8 146),
  (146, ix_push (vi 5) 147),
  (147, ix_div (fun x y => x / y) 148),
  (148, ix_istore 8 150),
  (150, ix_goto 124),
  (153, ix_iload 3 154),
  (154, ix_if (fun x => x = 0) 157 162),
  (157, ix_iload 7 159),
  (159, ix_goto 164),
  (162, ix_iload 6 164),
  (164, ix_iret)]
set_option maxRecDepth 20000 in
theorem a_X11_route (l : Launch) : ix_AllS l cX11_route 9 RX11 60 (some .int) o_X11_route :=
  .cons (ix_s_aload_n dX11_route_0 rfl) <|
  .cons (ix_s_iload_n dX11_route_1 rfl) <|
  .cons (oc_X11_isBoat_s (ix_s_callv (t := 10) (k_X11_isBoat l) (by decide) (by decide) tw_1135 tw_12 tw_1132 tw_1134 tp_37 ⟨by decide, by decide, by decide +kernel⟩ (by decide) rfl rfl (fun _ => ⟨_, _, rfl, rfl⟩) dX11_route_2)) <|
  .cons (ix_s_if_eq dX11_route_5 (by decide)) <|
  .cons (ix_s_iload_n dX11_route_8 rfl) <|
  .cons (ix_s_iconst dX11_route_9 (by decide +kernel)) <|
  .cons (ix_s_iconst dX11_route_10 (by decide +kernel)) <|
  .cons (oc_X11_within_s (ix_s_calls (k_X11_within l) (by decide) (by decide) tw_960 tw_12 tw_958 tw_959 ⟨by decide, by decide, by decide +kernel⟩ (fun _ => rfl) dX11_route_11)) <|
  .cons (ix_s_if_eq dX11_route_14 (by decide)) <|
  .cons (ix_s_iload_n dX11_route_17 rfl) <|
  .cons (ix_s_iconst dX11_route_18 (by decide +kernel)) <|
  .cons (ix_s_iconst dX11_route_19 (by decide +kernel)) <|
  .cons (oc_X11_within_s (ix_s_calls (k_X11_within l) (by decide) (by decide) tw_960 tw_12 tw_958 tw_959 ⟨by decide, by decide, by decide +kernel⟩ (fun _ => rfl) dX11_route_20)) <|
  .cons (ix_s_if_ne dX11_route_23 (by decide)) <|
  .cons (ix_s_aload_n dX11_route_26 rfl) <|
  .cons (ix_s_ldc tw_961 dX11_route_27) <|
  .cons (oc_X11_finding_s (ix_s_callv (t := 10) (k_X11_finding l) (by decide) (by decide) tw_965 tw_12 tw_962 tw_964 tp_18 ⟨by decide, by decide, by decide +kernel⟩ (by decide) rfl rfl (fun _ => ⟨_, _, rfl, rfl⟩) dX11_route_29)) <|
  .cons (ix_s_iret dX11_route_32 rfl) <|
  .cons (ix_s_iconst dX11_route_33 (by decide +kernel)) <|
  .cons (ix_s_istore dX11_route_34 (by decide)) <|
  .cons (ix_s_iconst dX11_route_36 (by decide +kernel)) <|
  .cons (ix_s_istore dX11_route_37 (by decide)) <|
  .cons (ix_s_iload dX11_route_39) <|
  .cons (ix_s_iload_n dX11_route_41 rfl) <|
  .cons (ix_s_cmp_ge dX11_route_42 (by decide)) <|
  .cons (ix_s_iload dX11_route_45) <|
  .cons (ix_s_iconst dX11_route_47 (by decide +kernel)) <|
  .cons (ix_s_imul dX11_route_48) <|
  .cons (ix_s_istore dX11_route_49 (by decide)) <|
  .cons (ix_s_iinc dX11_route_51 (by decide +kernel) (by decide)) <|
  .cons (ix_s_goto dX11_route_54 (by decide)) <|
  .cons (ix_s_iconst dX11_route_57 (by decide +kernel)) <|
  .cons (ix_s_istore dX11_route_58 (by decide)) <|
  .cons (ix_s_iconst dX11_route_60 (by decide +kernel)) <|
  .cons (ix_s_istore dX11_route_61 (by decide)) <|
  .cons (ix_s_iconst dX11_route_63 (by decide +kernel)) <|
  .cons (ix_s_istore dX11_route_64 (by decide)) <|
  .cons (ix_s_iload dX11_route_66) <|
  .cons (ix_s_iload dX11_route_68) <|
  .cons (ix_s_cmp_ge dX11_route_70 (by decide)) <|
  .cons (ix_s_aload_n dX11_route_73 rfl) <|
  .cons (ix_s_iload_n dX11_route_74 rfl) <|
  .cons (ix_s_iload dX11_route_75) <|
  .cons (ix_s_iload dX11_route_77) <|
  .cons (oc_X11_hadBy_s (ix_s_callv (t := 10) (k_X11_hadBy l) (by decide) (by decide) tw_1266 tw_12 tw_1263 tw_1265 tp_53 ⟨by decide, by decide, by decide +kernel⟩ (by decide) rfl rfl (fun _ => ⟨_, _, rfl, rfl⟩) dX11_route_79)) <|
  .cons (ix_s_istore dX11_route_82 (by decide)) <|
  .cons (ix_s_iload dX11_route_84) <|
  .cons (ix_s_iload dX11_route_86) <|
  .cons (ix_s_cmp_le dX11_route_88 (by decide)) <|
  .cons (ix_s_iload dX11_route_91) <|
  .cons (ix_s_goto dX11_route_93 (by decide)) <|
  .cons (ix_s_iload dX11_route_96) <|
  .cons (ix_s_istore dX11_route_98 (by decide)) <|
  .cons (ix_s_iload dX11_route_100) <|
  .cons (ix_s_iload dX11_route_102) <|
  .cons (ix_s_mmax tw_1057 tw_103 tw_7 tw_104 (by decide) dX11_route_104) <|
  .cons (ix_s_istore dX11_route_107 (by decide)) <|
  .cons (ix_s_iinc dX11_route_109 (by decide +kernel) (by decide)) <|
  .cons (ix_s_goto dX11_route_112 (by decide)) <|
  .cons (ix_s_iconst dX11_route_115 (by decide +kernel)) <|
  .cons (ix_s_istore dX11_route_116 (by decide)) <|
  .cons (ix_s_iload dX11_route_118) <|
  .cons (ix_s_iconst dX11_route_120 (by decide +kernel)) <|
  .cons (ix_s_idiv dX11_route_121) <|
  .cons (ix_s_istore dX11_route_122 (by decide)) <|
  .cons (ix_s_iload dX11_route_124) <|
  .cons (ix_s_if_le dX11_route_126 (by decide)) <|
  .cons (ix_s_bipush dX11_route_129 (by decide +kernel)) <|
  .cons (ix_s_iload dX11_route_131) <|
  .cons (ix_s_imul dX11_route_133) <|
  .cons (ix_s_iload dX11_route_134) <|
  .cons (ix_s_iload dX11_route_136) <|
  .cons (ix_s_idiv dX11_route_138) <|
  .cons (ix_s_iconst dX11_route_139 (by decide +kernel)) <|
  .cons (ix_s_irem dX11_route_140) <|
  .cons (ix_s_iadd dX11_route_141) <|
  .cons (ix_s_istore dX11_route_142 (by decide)) <|
  .cons (ix_s_iload dX11_route_144) <|
  .cons (ix_s_iconst dX11_route_146 (by decide +kernel)) <|
  .cons (ix_s_idiv dX11_route_147) <|
  .cons (ix_s_istore dX11_route_148 (by decide)) <|
  .cons (ix_s_goto dX11_route_150 (by decide)) <|
  .cons (ix_s_iload_n dX11_route_153 rfl) <|
  .cons (ix_s_if_ne dX11_route_154 (by decide)) <|
  .cons (ix_s_iload dX11_route_157) <|
  .cons (ix_s_goto dX11_route_159 (by decide)) <|
  .cons (ix_s_iload dX11_route_162) <|
  .cons (ix_s_iret dX11_route_164 rfl) <| .nil
theorem e_X11_route_0 (Q : ix_R → Prop) (ls : ix_L) (st : List ix_V) (μ : ix_M) : ix_Ev o_X11_route Q (0, ls, st, μ) = ix_aload 0 1 (ix_Ev o_X11_route Q) Q ls st μ := ix_Ev.eq (a_X11_route launch0) rfl ls st μ
theorem e_X11_route_1 (Q : ix_R → Prop) (ls : ix_L) (st : List ix_V) (μ : ix_M) : ix_Ev o_X11_route Q (1, ls, st, μ) = ix_iload 1 2 (ix_Ev o_X11_route Q) Q ls st μ := ix_Ev.eq (a_X11_route launch0) rfl ls st μ
theorem e_X11_route_2 (Q : ix_R → Prop) (ls : ix_L) (st : List ix_V) (μ : ix_M) : ix_Ev o_X11_route Q (2, ls, st, μ) = oc_X11_isBoat 5 (ix_Ev o_X11_route Q) Q ls st μ := ix_Ev.eq (a_X11_route launch0) rfl ls st μ
theorem e_X11_route_5 (Q : ix_R → Prop) (ls : ix_L) (st : List ix_V) (μ : ix_M) : ix_Ev o_X11_route Q (5, ls, st, μ) = ix_if (fun x => x = 0) 26 8 (ix_Ev o_X11_route Q) Q ls st μ := ix_Ev.eq (a_X11_route launch0) rfl ls st μ
theorem e_X11_route_8 (Q : ix_R → Prop) (ls : ix_L) (st : List ix_V) (μ : ix_M) : ix_Ev o_X11_route Q (8, ls, st, μ) = ix_iload 2 9 (ix_Ev o_X11_route Q) Q ls st μ := ix_Ev.eq (a_X11_route launch0) rfl ls st μ
theorem e_X11_route_9 (Q : ix_R → Prop) (ls : ix_L) (st : List ix_V) (μ : ix_M) : ix_Ev o_X11_route Q (9, ls, st, μ) = ix_push (vi 0) 10 (ix_Ev o_X11_route Q) Q ls st μ := ix_Ev.eq (a_X11_route launch0) rfl ls st μ
theorem e_X11_route_10 (Q : ix_R → Prop) (ls : ix_L) (st : List ix_V) (μ : ix_M) : ix_Ev o_X11_route Q (10, ls, st, μ) = ix_push (vi 4) 11 (ix_Ev o_X11_route Q) Q ls st μ := ix_Ev.eq (a_X11_route launch0) rfl ls st μ
theorem e_X11_route_11 (Q : ix_R → Prop) (ls : ix_L) (st : List ix_V) (μ : ix_M) : ix_Ev o_X11_route Q (11, ls, st, μ) = oc_X11_within 14 (ix_Ev o_X11_route Q) Q ls st μ := ix_Ev.eq (a_X11_route launch0) rfl ls st μ
theorem e_X11_route_14 (Q : ix_R → Prop) (ls : ix_L) (st : List ix_V) (μ : ix_M) : ix_Ev o_X11_route Q (14, ls, st, μ) = ix_if (fun x => x = 0) 26 17 (ix_Ev o_X11_route Q) Q ls st μ := ix_Ev.eq (a_X11_route launch0) rfl ls st μ
theorem e_X11_route_17 (Q : ix_R → Prop) (ls : ix_L) (st : List ix_V) (μ : ix_M) : ix_Ev o_X11_route Q (17, ls, st, μ) = ix_iload 3 18 (ix_Ev o_X11_route Q) Q ls st μ := ix_Ev.eq (a_X11_route launch0) rfl ls st μ
theorem e_X11_route_18 (Q : ix_R → Prop) (ls : ix_L) (st : List ix_V) (μ : ix_M) : ix_Ev o_X11_route Q (18, ls, st, μ) = ix_push (vi 0) 19 (ix_Ev o_X11_route Q) Q ls st μ := ix_Ev.eq (a_X11_route launch0) rfl ls st μ
theorem e_X11_route_19 (Q : ix_R → Prop) (ls : ix_L) (st : List ix_V) (μ : ix_M) : ix_Ev o_X11_route Q (19, ls, st, μ) = ix_push (vi 1) 20 (ix_Ev o_X11_route Q) Q ls st μ := ix_Ev.eq (a_X11_route launch0) rfl ls st μ
theorem e_X11_route_20 (Q : ix_R → Prop) (ls : ix_L) (st : List ix_V) (μ : ix_M) : ix_Ev o_X11_route Q (20, ls, st, μ) = oc_X11_within 23 (ix_Ev o_X11_route Q) Q ls st μ := ix_Ev.eq (a_X11_route launch0) rfl ls st μ
theorem e_X11_route_23 (Q : ix_R → Prop) (ls : ix_L) (st : List ix_V) (μ : ix_M) : ix_Ev o_X11_route Q (23, ls, st, μ) = ix_if (fun x => x = 0) 26 33 (ix_Ev o_X11_route Q) Q ls st μ := ix_Ev.eq (a_X11_route launch0) rfl ls st μ
theorem e_X11_route_26 (Q : ix_R → Prop) (ls : ix_L) (st : List ix_V) (μ : ix_M) : ix_Ev o_X11_route Q (26, ls, st, μ) = ix_aload 0 27 (ix_Ev o_X11_route Q) Q ls st μ := ix_Ev.eq (a_X11_route launch0) rfl ls st μ
theorem e_X11_route_27 (Q : ix_R → Prop) (ls : ix_L) (st : List ix_V) (μ : ix_M) : ix_Ev o_X11_route Q (27, ls, st, μ) = ix_push (vi (-1000000001)) 29 (ix_Ev o_X11_route Q) Q ls st μ := ix_Ev.eq (a_X11_route launch0) rfl ls st μ
theorem e_X11_route_29 (Q : ix_R → Prop) (ls : ix_L) (st : List ix_V) (μ : ix_M) : ix_Ev o_X11_route Q (29, ls, st, μ) = oc_X11_finding 32 (ix_Ev o_X11_route Q) Q ls st μ := ix_Ev.eq (a_X11_route launch0) rfl ls st μ
theorem e_X11_route_32 (Q : ix_R → Prop) (ls : ix_L) (st : List ix_V) (μ : ix_M) : ix_Ev o_X11_route Q (32, ls, st, μ) = ix_iret (ix_Ev o_X11_route Q) Q ls st μ := ix_Ev.eq (a_X11_route launch0) rfl ls st μ
theorem e_X11_route_33 (Q : ix_R → Prop) (ls : ix_L) (st : List ix_V) (μ : ix_M) : ix_Ev o_X11_route Q (33, ls, st, μ) = ix_push (vi 1) 34 (ix_Ev o_X11_route Q) Q ls st μ := ix_Ev.eq (a_X11_route launch0) rfl ls st μ
theorem e_X11_route_34 (Q : ix_R → Prop) (ls : ix_L) (st : List ix_V) (μ : ix_M) : ix_Ev o_X11_route Q (34, ls, st, μ) = ix_istore 4 36 (ix_Ev o_X11_route Q) Q ls st μ := ix_Ev.eq (a_X11_route launch0) rfl ls st μ
theorem e_X11_route_36 (Q : ix_R → Prop) (ls : ix_L) (st : List ix_V) (μ : ix_M) : ix_Ev o_X11_route Q (36, ls, st, μ) = ix_push (vi 0) 37 (ix_Ev o_X11_route Q) Q ls st μ := ix_Ev.eq (a_X11_route launch0) rfl ls st μ
theorem e_X11_route_37 (Q : ix_R → Prop) (ls : ix_L) (st : List ix_V) (μ : ix_M) : ix_Ev o_X11_route Q (37, ls, st, μ) = ix_istore 5 39 (ix_Ev o_X11_route Q) Q ls st μ := ix_Ev.eq (a_X11_route launch0) rfl ls st μ
theorem e_X11_route_39 (Q : ix_R → Prop) (ls : ix_L) (st : List ix_V) (μ : ix_M) : ix_Ev o_X11_route Q (39, ls, st, μ) = ix_iload 5 41 (ix_Ev o_X11_route Q) Q ls st μ := ix_Ev.eq (a_X11_route launch0) rfl ls st μ
theorem e_X11_route_41 (Q : ix_R → Prop) (ls : ix_L) (st : List ix_V) (μ : ix_M) : ix_Ev o_X11_route Q (41, ls, st, μ) = ix_iload 2 42 (ix_Ev o_X11_route Q) Q ls st μ := ix_Ev.eq (a_X11_route launch0) rfl ls st μ
theorem e_X11_route_42 (Q : ix_R → Prop) (ls : ix_L) (st : List ix_V) (μ : ix_M) : ix_Ev o_X11_route Q (42, ls, st, μ) = ix_cmp (fun x y => y ≤ x) 57 45 (ix_Ev o_X11_route Q) Q ls st μ := ix_Ev.eq (a_X11_route launch0) rfl ls st μ
theorem e_X11_route_45 (Q : ix_R → Prop) (ls : ix_L) (st : List ix_V) (μ : ix_M) : ix_Ev o_X11_route Q (45, ls, st, μ) = ix_iload 4 47 (ix_Ev o_X11_route Q) Q ls st μ := ix_Ev.eq (a_X11_route launch0) rfl ls st μ
theorem e_X11_route_47 (Q : ix_R → Prop) (ls : ix_L) (st : List ix_V) (μ : ix_M) : ix_Ev o_X11_route Q (47, ls, st, μ) = ix_push (vi 5) 48 (ix_Ev o_X11_route Q) Q ls st μ := ix_Ev.eq (a_X11_route launch0) rfl ls st μ
theorem e_X11_route_48 (Q : ix_R → Prop) (ls : ix_L) (st : List ix_V) (μ : ix_M) : ix_Ev o_X11_route Q (48, ls, st, μ) = ix_bin (fun x y => x * y) 49 (ix_Ev o_X11_route Q) Q ls st μ := ix_Ev.eq (a_X11_route launch0) rfl ls st μ
theorem e_X11_route_49 (Q : ix_R → Prop) (ls : ix_L) (st : List ix_V) (μ : ix_M) : ix_Ev o_X11_route Q (49, ls, st, μ) = ix_istore 4 51 (ix_Ev o_X11_route Q) Q ls st μ := ix_Ev.eq (a_X11_route launch0) rfl ls st μ
theorem e_X11_route_51 (Q : ix_R → Prop) (ls : ix_L) (st : List ix_V) (μ : ix_M) : ix_Ev o_X11_route Q (51, ls, st, μ) = ix_iinc 5 1 54 (ix_Ev o_X11_route Q) Q ls st μ := ix_Ev.eq (a_X11_route launch0) rfl ls st μ
theorem e_X11_route_54 (Q : ix_R → Prop) (ls : ix_L) (st : List ix_V) (μ : ix_M) : ix_Ev o_X11_route Q (54, ls, st, μ) = ix_goto 39 (ix_Ev o_X11_route Q) Q ls st μ := ix_Ev.eq (a_X11_route launch0) rfl ls st μ
theorem e_X11_route_57 (Q : ix_R → Prop) (ls : ix_L) (st : List ix_V) (μ : ix_M) : ix_Ev o_X11_route Q (57, ls, st, μ) = ix_push (vi 0) 58 (ix_Ev o_X11_route Q) Q ls st μ := ix_Ev.eq (a_X11_route launch0) rfl ls st μ
theorem e_X11_route_58 (Q : ix_R → Prop) (ls : ix_L) (st : List ix_V) (μ : ix_M) : ix_Ev o_X11_route Q (58, ls, st, μ) = ix_istore 5 60 (ix_Ev o_X11_route Q) Q ls st μ := ix_Ev.eq (a_X11_route launch0) rfl ls st μ
theorem e_X11_route_60 (Q : ix_R → Prop) (ls : ix_L) (st : List ix_V) (μ : ix_M) : ix_Ev o_X11_route Q (60, ls, st, μ) = ix_push (vi (-1)) 61 (ix_Ev o_X11_route Q) Q ls st μ := ix_Ev.eq (a_X11_route launch0) rfl ls st μ
theorem e_X11_route_61 (Q : ix_R → Prop) (ls : ix_L) (st : List ix_V) (μ : ix_M) : ix_Ev o_X11_route Q (61, ls, st, μ) = ix_istore 6 63 (ix_Ev o_X11_route Q) Q ls st μ := ix_Ev.eq (a_X11_route launch0) rfl ls st μ
theorem e_X11_route_63 (Q : ix_R → Prop) (ls : ix_L) (st : List ix_V) (μ : ix_M) : ix_Ev o_X11_route Q (63, ls, st, μ) = ix_push (vi 0) 64 (ix_Ev o_X11_route Q) Q ls st μ := ix_Ev.eq (a_X11_route launch0) rfl ls st μ
theorem e_X11_route_64 (Q : ix_R → Prop) (ls : ix_L) (st : List ix_V) (μ : ix_M) : ix_Ev o_X11_route Q (64, ls, st, μ) = ix_istore 7 66 (ix_Ev o_X11_route Q) Q ls st μ := ix_Ev.eq (a_X11_route launch0) rfl ls st μ
theorem e_X11_route_66 (Q : ix_R → Prop) (ls : ix_L) (st : List ix_V) (μ : ix_M) : ix_Ev o_X11_route Q (66, ls, st, μ) = ix_iload 7 68 (ix_Ev o_X11_route Q) Q ls st μ := ix_Ev.eq (a_X11_route launch0) rfl ls st μ
theorem e_X11_route_68 (Q : ix_R → Prop) (ls : ix_L) (st : List ix_V) (μ : ix_M) : ix_Ev o_X11_route Q (68, ls, st, μ) = ix_iload 4 70 (ix_Ev o_X11_route Q) Q ls st μ := ix_Ev.eq (a_X11_route launch0) rfl ls st μ
theorem e_X11_route_70 (Q : ix_R → Prop) (ls : ix_L) (st : List ix_V) (μ : ix_M) : ix_Ev o_X11_route Q (70, ls, st, μ) = ix_cmp (fun x y => y ≤ x) 115 73 (ix_Ev o_X11_route Q) Q ls st μ := ix_Ev.eq (a_X11_route launch0) rfl ls st μ
theorem e_X11_route_73 (Q : ix_R → Prop) (ls : ix_L) (st : List ix_V) (μ : ix_M) : ix_Ev o_X11_route Q (73, ls, st, μ) = ix_aload 0 74 (ix_Ev o_X11_route Q) Q ls st μ := ix_Ev.eq (a_X11_route launch0) rfl ls st μ
theorem e_X11_route_74 (Q : ix_R → Prop) (ls : ix_L) (st : List ix_V) (μ : ix_M) : ix_Ev o_X11_route Q (74, ls, st, μ) = ix_iload 1 75 (ix_Ev o_X11_route Q) Q ls st μ := ix_Ev.eq (a_X11_route launch0) rfl ls st μ
theorem e_X11_route_75 (Q : ix_R → Prop) (ls : ix_L) (st : List ix_V) (μ : ix_M) : ix_Ev o_X11_route Q (75, ls, st, μ) = ix_iload 7 77 (ix_Ev o_X11_route Q) Q ls st μ := ix_Ev.eq (a_X11_route launch0) rfl ls st μ
theorem e_X11_route_77 (Q : ix_R → Prop) (ls : ix_L) (st : List ix_V) (μ : ix_M) : ix_Ev o_X11_route Q (77, ls, st, μ) = ix_iload 4 79 (ix_Ev o_X11_route Q) Q ls st μ := ix_Ev.eq (a_X11_route launch0) rfl ls st μ
theorem e_X11_route_79 (Q : ix_R → Prop) (ls : ix_L) (st : List ix_V) (μ : ix_M) : ix_Ev o_X11_route Q (79, ls, st, μ) = oc_X11_hadBy 82 (ix_Ev o_X11_route Q) Q ls st μ := ix_Ev.eq (a_X11_route launch0) rfl ls st μ
theorem e_X11_route_82 (Q : ix_R → Prop) (ls : ix_L) (st : List ix_V) (μ : ix_M) : ix_Ev o_X11_route Q (82, ls, st, μ) = ix_istore 8 84 (ix_Ev o_X11_route Q) Q ls st μ := ix_Ev.eq (a_X11_route launch0) rfl ls st μ
theorem e_X11_route_84 (Q : ix_R → Prop) (ls : ix_L) (st : List ix_V) (μ : ix_M) : ix_Ev o_X11_route Q (84, ls, st, μ) = ix_iload 8 86 (ix_Ev o_X11_route Q) Q ls st μ := ix_Ev.eq (a_X11_route launch0) rfl ls st μ
theorem e_X11_route_86 (Q : ix_R → Prop) (ls : ix_L) (st : List ix_V) (μ : ix_M) : ix_Ev o_X11_route Q (86, ls, st, μ) = ix_iload 6 88 (ix_Ev o_X11_route Q) Q ls st μ := ix_Ev.eq (a_X11_route launch0) rfl ls st μ
theorem e_X11_route_88 (Q : ix_R → Prop) (ls : ix_L) (st : List ix_V) (μ : ix_M) : ix_Ev o_X11_route Q (88, ls, st, μ) = ix_cmp (fun x y => x ≤ y) 96 91 (ix_Ev o_X11_route Q) Q ls st μ := ix_Ev.eq (a_X11_route launch0) rfl ls st μ
theorem e_X11_route_91 (Q : ix_R → Prop) (ls : ix_L) (st : List ix_V) (μ : ix_M) : ix_Ev o_X11_route Q (91, ls, st, μ) = ix_iload 7 93 (ix_Ev o_X11_route Q) Q ls st μ := ix_Ev.eq (a_X11_route launch0) rfl ls st μ
theorem e_X11_route_93 (Q : ix_R → Prop) (ls : ix_L) (st : List ix_V) (μ : ix_M) : ix_Ev o_X11_route Q (93, ls, st, μ) = ix_goto 98 (ix_Ev o_X11_route Q) Q ls st μ := ix_Ev.eq (a_X11_route launch0) rfl ls st μ
theorem e_X11_route_96 (Q : ix_R → Prop) (ls : ix_L) (st : List ix_V) (μ : ix_M) : ix_Ev o_X11_route Q (96, ls, st, μ) = ix_iload 5 98 (ix_Ev o_X11_route Q) Q ls st μ := ix_Ev.eq (a_X11_route launch0) rfl ls st μ
theorem e_X11_route_98 (Q : ix_R → Prop) (ls : ix_L) (st : List ix_V) (μ : ix_M) : ix_Ev o_X11_route Q (98, ls, st, μ) = ix_istore 5 100 (ix_Ev o_X11_route Q) Q ls st μ := ix_Ev.eq (a_X11_route launch0) rfl ls st μ
theorem e_X11_route_100 (Q : ix_R → Prop) (ls : ix_L) (st : List ix_V) (μ : ix_M) : ix_Ev o_X11_route Q (100, ls, st, μ) = ix_iload 6 102 (ix_Ev o_X11_route Q) Q ls st μ := ix_Ev.eq (a_X11_route launch0) rfl ls st μ
theorem e_X11_route_102 (Q : ix_R → Prop) (ls : ix_L) (st : List ix_V) (μ : ix_M) : ix_Ev o_X11_route Q (102, ls, st, μ) = ix_iload 8 104 (ix_Ev o_X11_route Q) Q ls st μ := ix_Ev.eq (a_X11_route launch0) rfl ls st μ
theorem e_X11_route_104 (Q : ix_R → Prop) (ls : ix_L) (st : List ix_V) (μ : ix_M) : ix_Ev o_X11_route Q (104, ls, st, μ) = ix_math2 (fun x y => if x < y then y else x) 107 (ix_Ev o_X11_route Q) Q ls st μ := ix_Ev.eq (a_X11_route launch0) rfl ls st μ
theorem e_X11_route_107 (Q : ix_R → Prop) (ls : ix_L) (st : List ix_V) (μ : ix_M) : ix_Ev o_X11_route Q (107, ls, st, μ) = ix_istore 6 109 (ix_Ev o_X11_route Q) Q ls st μ := ix_Ev.eq (a_X11_route launch0) rfl ls st μ
theorem e_X11_route_109 (Q : ix_R → Prop) (ls : ix_L) (st : List ix_V) (μ : ix_M) : ix_Ev o_X11_route Q (109, ls, st, μ) = ix_iinc 7 1 112 (ix_Ev o_X11_route Q) Q ls st μ := ix_Ev.eq (a_X11_route launch0) rfl ls st μ
theorem e_X11_route_112 (Q : ix_R → Prop) (ls : ix_L) (st : List ix_V) (μ : ix_M) : ix_Ev o_X11_route Q (112, ls, st, μ) = ix_goto 66 (ix_Ev o_X11_route Q) Q ls st μ := ix_Ev.eq (a_X11_route launch0) rfl ls st μ
theorem e_X11_route_115 (Q : ix_R → Prop) (ls : ix_L) (st : List ix_V) (μ : ix_M) : ix_Ev o_X11_route Q (115, ls, st, μ) = ix_push (vi 1) 116 (ix_Ev o_X11_route Q) Q ls st μ := ix_Ev.eq (a_X11_route launch0) rfl ls st μ
theorem e_X11_route_116 (Q : ix_R → Prop) (ls : ix_L) (st : List ix_V) (μ : ix_M) : ix_Ev o_X11_route Q (116, ls, st, μ) = ix_istore 7 118 (ix_Ev o_X11_route Q) Q ls st μ := ix_Ev.eq (a_X11_route launch0) rfl ls st μ
theorem e_X11_route_118 (Q : ix_R → Prop) (ls : ix_L) (st : List ix_V) (μ : ix_M) : ix_Ev o_X11_route Q (118, ls, st, μ) = ix_iload 4 120 (ix_Ev o_X11_route Q) Q ls st μ := ix_Ev.eq (a_X11_route launch0) rfl ls st μ
theorem e_X11_route_120 (Q : ix_R → Prop) (ls : ix_L) (st : List ix_V) (μ : ix_M) : ix_Ev o_X11_route Q (120, ls, st, μ) = ix_push (vi 5) 121 (ix_Ev o_X11_route Q) Q ls st μ := ix_Ev.eq (a_X11_route launch0) rfl ls st μ
theorem e_X11_route_121 (Q : ix_R → Prop) (ls : ix_L) (st : List ix_V) (μ : ix_M) : ix_Ev o_X11_route Q (121, ls, st, μ) = ix_div (fun x y => x / y) 122 (ix_Ev o_X11_route Q) Q ls st μ := ix_Ev.eq (a_X11_route launch0) rfl ls st μ
theorem e_X11_route_122 (Q : ix_R → Prop) (ls : ix_L) (st : List ix_V) (μ : ix_M) : ix_Ev o_X11_route Q (122, ls, st, μ) = ix_istore 8 124 (ix_Ev o_X11_route Q) Q ls st μ := ix_Ev.eq (a_X11_route launch0) rfl ls st μ
theorem e_X11_route_124 (Q : ix_R → Prop) (ls : ix_L) (st : List ix_V) (μ : ix_M) : ix_Ev o_X11_route Q (124, ls, st, μ) = ix_iload 8 126 (ix_Ev o_X11_route Q) Q ls st μ := ix_Ev.eq (a_X11_route launch0) rfl ls st μ
theorem e_X11_route_126 (Q : ix_R → Prop) (ls : ix_L) (st : List ix_V) (μ : ix_M) : ix_Ev o_X11_route Q (126, ls, st, μ) = ix_if (fun x => x ≤ 0) 153 129 (ix_Ev o_X11_route Q) Q ls st μ := ix_Ev.eq (a_X11_route launch0) rfl ls st μ
theorem e_X11_route_129 (Q : ix_R → Prop) (ls : ix_L) (st : List ix_V) (μ : ix_M) : ix_Ev o_X11_route Q (129, ls, st, μ) = ix_push (vi 10) 131 (ix_Ev o_X11_route Q) Q ls st μ := ix_Ev.eq (a_X11_route launch0) rfl ls st μ
theorem e_X11_route_131 (Q : ix_R → Prop) (ls : ix_L) (st : List ix_V) (μ : ix_M) : ix_Ev o_X11_route Q (131, ls, st, μ) = ix_iload 7 133 (ix_Ev o_X11_route Q) Q ls st μ := ix_Ev.eq (a_X11_route launch0) rfl ls st μ
theorem e_X11_route_133 (Q : ix_R → Prop) (ls : ix_L) (st : List ix_V) (μ : ix_M) : ix_Ev o_X11_route Q (133, ls, st, μ) = ix_bin (fun x y => x * y) 134 (ix_Ev o_X11_route Q) Q ls st μ := ix_Ev.eq (a_X11_route launch0) rfl ls st μ
theorem e_X11_route_134 (Q : ix_R → Prop) (ls : ix_L) (st : List ix_V) (μ : ix_M) : ix_Ev o_X11_route Q (134, ls, st, μ) = ix_iload 5 136 (ix_Ev o_X11_route Q) Q ls st μ := ix_Ev.eq (a_X11_route launch0) rfl ls st μ
theorem e_X11_route_136 (Q : ix_R → Prop) (ls : ix_L) (st : List ix_V) (μ : ix_M) : ix_Ev o_X11_route Q (136, ls, st, μ) = ix_iload 8 138 (ix_Ev o_X11_route Q) Q ls st μ := ix_Ev.eq (a_X11_route launch0) rfl ls st μ
theorem e_X11_route_138 (Q : ix_R → Prop) (ls : ix_L) (st : List ix_V) (μ : ix_M) : ix_Ev o_X11_route Q (138, ls, st, μ) = ix_div (fun x y => x / y) 139 (ix_Ev o_X11_route Q) Q ls st μ := ix_Ev.eq (a_X11_route launch0) rfl ls st μ
theorem e_X11_route_139 (Q : ix_R → Prop) (ls : ix_L) (st : List ix_V) (μ : ix_M) : ix_Ev o_X11_route Q (139, ls, st, μ) = ix_push (vi 5) 140 (ix_Ev o_X11_route Q) Q ls st μ := ix_Ev.eq (a_X11_route launch0) rfl ls st μ
theorem e_X11_route_140 (Q : ix_R → Prop) (ls : ix_L) (st : List ix_V) (μ : ix_M) : ix_Ev o_X11_route Q (140, ls, st, μ) = ix_div (fun x y => x - x / y * y) 141 (ix_Ev o_X11_route Q) Q ls st μ := ix_Ev.eq (a_X11_route launch0) rfl ls st μ
theorem e_X11_route_141 (Q : ix_R → Prop) (ls : ix_L) (st : List ix_V) (μ : ix_M) : ix_Ev o_X11_route Q (141, ls, st, μ) = ix_bin (fun x y => x + y) 142 (ix_Ev o_X11_route Q) Q ls st μ := ix_Ev.eq (a_X11_route launch0) rfl ls st μ
theorem e_X11_route_142 (Q : ix_R → Prop) (ls : ix_L) (st : List ix_V) (μ : ix_M) : ix_Ev o_X11_route Q (142, ls, st, μ) = ix_istore 7 144 (ix_Ev o_X11_route Q) Q ls st μ := ix_Ev.eq (a_X11_route launch0) rfl ls st μ
theorem e_X11_route_144 (Q : ix_R → Prop) (ls : ix_L) (st : List ix_V) (μ : ix_M) : ix_Ev o_X11_route Q (144, ls, st, μ) = ix_iload 8 146 (ix_Ev o_X11_route Q) Q ls st μ := ix_Ev.eq (a_X11_route launch0) rfl ls st μ
theorem e_X11_route_146 (Q : ix_R → Prop) (ls : ix_L) (st : List ix_V) (μ : ix_M) : ix_Ev o_X11_route Q (146, ls, st, μ) = ix_push (vi 5) 147 (ix_Ev o_X11_route Q) Q ls st μ := ix_Ev.eq (a_X11_route launch0) rfl ls st μ
theorem e_X11_route_147 (Q : ix_R → Prop) (ls : ix_L) (st : List ix_V) (μ : ix_M) : ix_Ev o_X11_route Q (147, ls, st, μ) = ix_div (fun x y => x / y) 148 (ix_Ev o_X11_route Q) Q ls st μ := ix_Ev.eq (a_X11_route launch0) rfl ls st μ
theorem e_X11_route_148 (Q : ix_R → Prop) (ls : ix_L) (st : List ix_V) (μ : ix_M) : ix_Ev o_X11_route Q (148, ls, st, μ) = ix_istore 8 150 (ix_Ev o_X11_route Q) Q ls st μ := ix_Ev.eq (a_X11_route launch0) rfl ls st μ
theorem e_X11_route_150 (Q : ix_R → Prop) (ls : ix_L) (st : List ix_V) (μ : ix_M) : ix_Ev o_X11_route Q (150, ls, st, μ) = ix_goto 124 (ix_Ev o_X11_route Q) Q ls st μ := ix_Ev.eq (a_X11_route launch0) rfl ls st μ
theorem e_X11_route_153 (Q : ix_R → Prop) (ls : ix_L) (st : List ix_V) (μ : ix_M) : ix_Ev o_X11_route Q (153, ls, st, μ) = ix_iload 3 154 (ix_Ev o_X11_route Q) Q ls st μ := ix_Ev.eq (a_X11_route launch0) rfl ls st μ
theorem e_X11_route_154 (Q : ix_R → Prop) (ls : ix_L) (st : List ix_V) (μ : ix_M) : ix_Ev o_X11_route Q (154, ls, st, μ) = ix_if (fun x => x = 0) 157 162 (ix_Ev o_X11_route Q) Q ls st μ := ix_Ev.eq (a_X11_route launch0) rfl ls st μ
theorem e_X11_route_157 (Q : ix_R → Prop) (ls : ix_L) (st : List ix_V) (μ : ix_M) : ix_Ev o_X11_route Q (157, ls, st, μ) = ix_iload 7 159 (ix_Ev o_X11_route Q) Q ls st μ := ix_Ev.eq (a_X11_route launch0) rfl ls st μ
theorem e_X11_route_159 (Q : ix_R → Prop) (ls : ix_L) (st : List ix_V) (μ : ix_M) : ix_Ev o_X11_route Q (159, ls, st, μ) = ix_goto 164 (ix_Ev o_X11_route Q) Q ls st μ := ix_Ev.eq (a_X11_route launch0) rfl ls st μ
theorem e_X11_route_162 (Q : ix_R → Prop) (ls : ix_L) (st : List ix_V) (μ : ix_M) : ix_Ev o_X11_route Q (162, ls, st, μ) = ix_iload 6 164 (ix_Ev o_X11_route Q) Q ls st μ := ix_Ev.eq (a_X11_route launch0) rfl ls st μ
theorem e_X11_route_164 (Q : ix_R → Prop) (ls : ix_L) (st : List ix_V) (μ : ix_M) : ix_Ev o_X11_route Q (164, ls, st, μ) = ix_iret (ix_Ev o_X11_route Q) Q ls st μ := ix_Ev.eq (a_X11_route launch0) rfl ls st μ
theorem l1_X11_route {N : Nat} {b p : Int32} {μ : ix_M} {Q : ix_R → Prop} {x6 x7 x8 : Option ix_V} (hN : N ≤ 4) (K : ix_Ev o_X11_route Q (66, [some (vr 10 112), some (vi b), some (vi (nI N)), some (vi p), some (vi (nI (5 ^ N))), some (vi 0), some (vi (-1)), some (vi 0), x8], [], μ)) : ∀ (k i : Nat), i + k = N → ix_Ev o_X11_route Q (39, [some (vr 10 112), some (vi b), some (vi (nI N)), some (vi p), some (vi (nI (5 ^ i))), some (vi (nI i)), x6, x7, x8], [], μ) := by
  intro k
  induction k with
  | zero =>
    intro i hi
    have hi : i = N := hi
    subst hi
    have c1 : nI i ≤ nI i := Int32.le_refl _
    rw [e_X11_route_39]
    simp (decide := true) only [e_X11_route_0, e_X11_route_1, e_X11_route_2, e_X11_route_5, e_X11_route_8, e_X11_route_9, e_X11_route_10, e_X11_route_11, e_X11_route_14, e_X11_route_17, e_X11_route_18, e_X11_route_19, e_X11_route_20, e_X11_route_23, e_X11_route_26, e_X11_route_27, e_X11_route_29, e_X11_route_32, e_X11_route_33, e_X11_route_34, e_X11_route_36, e_X11_route_37, e_X11_route_41, e_X11_route_42, e_X11_route_45, e_X11_route_47, e_X11_route_48, e_X11_route_49, e_X11_route_51, e_X11_route_54, e_X11_route_57, e_X11_route_58, e_X11_route_60, e_X11_route_61, e_X11_route_63, e_X11_route_64, e_X11_route_68, e_X11_route_70, e_X11_route_73, e_X11_route_74, e_X11_route_75, e_X11_route_77, e_X11_route_79, e_X11_route_82, e_X11_route_84, e_X11_route_86, e_X11_route_88, e_X11_route_91, e_X11_route_93, e_X11_route_96, e_X11_route_98, e_X11_route_100, e_X11_route_102, e_X11_route_104, e_X11_route_107, e_X11_route_109, e_X11_route_112, e_X11_route_115, e_X11_route_116, e_X11_route_118, e_X11_route_120, e_X11_route_121, e_X11_route_122, e_X11_route_126, e_X11_route_129, e_X11_route_131, e_X11_route_133, e_X11_route_134, e_X11_route_136, e_X11_route_138, e_X11_route_139, e_X11_route_140, e_X11_route_141, e_X11_route_142, e_X11_route_144, e_X11_route_146, e_X11_route_147, e_X11_route_148, e_X11_route_150, e_X11_route_153, e_X11_route_154, e_X11_route_157, e_X11_route_159, e_X11_route_162, e_X11_route_164, vi, vl, vr, oc_X11_finding, T_X11_finding, oc_X11_hadBy, T_X11_hadBy, oc_X11_isBoat, T_X11_isBoat, oc_X11_within, T_X11_within, ix_push, ix_iload, ix_lload, ix_aload, ix_istore, ix_astore, ix_iinc, ix_bin, ix_div, ix_un, ix_i2l, ix_l2i, ix_lbin, ix_lsh, ix_lcmp, ix_dup, ix_dup2, ix_pop, ix_if, ix_cmp, ix_goto, ix_switch, ix_sw, ix_iret, ix_zret, ix_vret, ix_aret, ix_geti, ix_getr, ix_puti, ix_putz, ix_puts, ix_gets, ix_iald, ix_iast, ix_alen, ix_aald, ix_gval, ix_gcod, ix_bald, ix_blen, ix_sald, ix_nret, ix_math2, ix_math1, ix_acopy, ml_113, ml_114, ml_115, ml_116, ml_118, ml_119, ml_120, ml_121, ml_122, ml_123, ml_124, ml_125, ml_126, mv_0, mv_1, mv_2, mv_3, mv_4, mv_5, mB_or, Nat.add_assoc, Int32.reduceLT, Int32.reduceLE, Int32.reduceToNatClampNeg, Int32.reduceSub, Int32.reduceAdd, Nat.reduceAdd, Nat.reduceLeDiff, true_or, or_true, or_false, false_or, not_false_eq_true, not_true_eq_false, false_implies, true_implies, implies_true, and_self, mB_0, mB_01, Classical.not_not, Nat.zero_le, List.getElem?_cons_zero, List.getElem?_cons_succ, List.set_cons_zero, List.set_cons_succ, ix_nl, ix_cs, true_and, and_true, Option.toList_some, Option.toList_none, List.cons_append, List.nil_append, c1]
    exact K
  | succ k ih =>
    intro i hi
    have c1 : ¬ nI N ≤ nI i := nI_ge (by omega) (by omega)
    have n1 : nI i + 1 = nI (i + 1) := nI_1 i
    have q1 : nI (5 ^ i) * 5 = nI (5 ^ (i + 1)) := by rw [Nat.pow_succ]; exact (Int32.ofNat_mul _ 5).symm
    rw [e_X11_route_39]
    simp (decide := true) only [e_X11_route_0, e_X11_route_1, e_X11_route_2, e_X11_route_5, e_X11_route_8, e_X11_route_9, e_X11_route_10, e_X11_route_11, e_X11_route_14, e_X11_route_17, e_X11_route_18, e_X11_route_19, e_X11_route_20, e_X11_route_23, e_X11_route_26, e_X11_route_27, e_X11_route_29, e_X11_route_32, e_X11_route_33, e_X11_route_34, e_X11_route_36, e_X11_route_37, e_X11_route_41, e_X11_route_42, e_X11_route_45, e_X11_route_47, e_X11_route_48, e_X11_route_49, e_X11_route_51, e_X11_route_54, e_X11_route_57, e_X11_route_58, e_X11_route_60, e_X11_route_61, e_X11_route_63, e_X11_route_64, e_X11_route_68, e_X11_route_70, e_X11_route_73, e_X11_route_74, e_X11_route_75, e_X11_route_77, e_X11_route_79, e_X11_route_82, e_X11_route_84, e_X11_route_86, e_X11_route_88, e_X11_route_91, e_X11_route_93, e_X11_route_96, e_X11_route_98, e_X11_route_100, e_X11_route_102, e_X11_route_104, e_X11_route_107, e_X11_route_109, e_X11_route_112, e_X11_route_115, e_X11_route_116, e_X11_route_118, e_X11_route_120, e_X11_route_121, e_X11_route_122, e_X11_route_126, e_X11_route_129, e_X11_route_131, e_X11_route_133, e_X11_route_134, e_X11_route_136, e_X11_route_138, e_X11_route_139, e_X11_route_140, e_X11_route_141, e_X11_route_142, e_X11_route_144, e_X11_route_146, e_X11_route_147, e_X11_route_148, e_X11_route_150, e_X11_route_153, e_X11_route_154, e_X11_route_157, e_X11_route_159, e_X11_route_162, e_X11_route_164, vi, vl, vr, oc_X11_finding, T_X11_finding, oc_X11_hadBy, T_X11_hadBy, oc_X11_isBoat, T_X11_isBoat, oc_X11_within, T_X11_within, ix_push, ix_iload, ix_lload, ix_aload, ix_istore, ix_astore, ix_iinc, ix_bin, ix_div, ix_un, ix_i2l, ix_l2i, ix_lbin, ix_lsh, ix_lcmp, ix_dup, ix_dup2, ix_pop, ix_if, ix_cmp, ix_goto, ix_switch, ix_sw, ix_iret, ix_zret, ix_vret, ix_aret, ix_geti, ix_getr, ix_puti, ix_putz, ix_puts, ix_gets, ix_iald, ix_iast, ix_alen, ix_aald, ix_gval, ix_gcod, ix_bald, ix_blen, ix_sald, ix_nret, ix_math2, ix_math1, ix_acopy, ml_113, ml_114, ml_115, ml_116, ml_118, ml_119, ml_120, ml_121, ml_122, ml_123, ml_124, ml_125, ml_126, mv_0, mv_1, mv_2, mv_3, mv_4, mv_5, mB_or, Nat.add_assoc, Int32.reduceLT, Int32.reduceLE, Int32.reduceToNatClampNeg, Int32.reduceSub, Int32.reduceAdd, Nat.reduceAdd, Nat.reduceLeDiff, true_or, or_true, or_false, false_or, not_false_eq_true, not_true_eq_false, false_implies, true_implies, implies_true, and_self, mB_0, mB_01, Classical.not_not, Nat.zero_le, List.getElem?_cons_zero, List.getElem?_cons_succ, List.set_cons_zero, List.set_cons_succ, ix_nl, ix_cs, true_and, and_true, Option.toList_some, Option.toList_none, List.cons_append, List.nil_append, c1, n1, q1]
    exact ih (i + 1) (by omega)
theorem l3_X11_route {N R : Nat} {b p m : Int32} {μ : ix_M} {Q : ix_R → Prop} {all V : Int32} (hR : R < 2 ^ 31) (hQ : (p = 0 → Q (some (vi V), μ)) ∧ (¬ p = 0 → Q (some (vi m), μ))) : ∀ (d : Nat) (t : Int32), d ≤ 4 → V = tN R d t → ix_Ev o_X11_route Q (124, [some (vr 10 112), some (vi b), some (vi (nI N)), some (vi p), some (vi all), some (vi (nI R)), some (vi m), some (vi t), some (vi (nI (5 ^ d / 5)))], [], μ) := by
  intro d
  induction d with
  | zero =>
    intro t hd hV
    have c1 : nI (5 ^ 0 / 5) ≤ 0 := by decide
    rw [e_X11_route_124]
    simp (decide := true) only [e_X11_route_0, e_X11_route_1, e_X11_route_2, e_X11_route_5, e_X11_route_8, e_X11_route_9, e_X11_route_10, e_X11_route_11, e_X11_route_14, e_X11_route_17, e_X11_route_18, e_X11_route_19, e_X11_route_20, e_X11_route_23, e_X11_route_26, e_X11_route_27, e_X11_route_29, e_X11_route_32, e_X11_route_33, e_X11_route_34, e_X11_route_36, e_X11_route_37, e_X11_route_41, e_X11_route_42, e_X11_route_45, e_X11_route_47, e_X11_route_48, e_X11_route_49, e_X11_route_51, e_X11_route_54, e_X11_route_57, e_X11_route_58, e_X11_route_60, e_X11_route_61, e_X11_route_63, e_X11_route_64, e_X11_route_68, e_X11_route_70, e_X11_route_73, e_X11_route_74, e_X11_route_75, e_X11_route_77, e_X11_route_79, e_X11_route_82, e_X11_route_84, e_X11_route_86, e_X11_route_88, e_X11_route_91, e_X11_route_93, e_X11_route_96, e_X11_route_98, e_X11_route_100, e_X11_route_102, e_X11_route_104, e_X11_route_107, e_X11_route_109, e_X11_route_112, e_X11_route_115, e_X11_route_116, e_X11_route_118, e_X11_route_120, e_X11_route_121, e_X11_route_122, e_X11_route_126, e_X11_route_129, e_X11_route_131, e_X11_route_133, e_X11_route_134, e_X11_route_136, e_X11_route_138, e_X11_route_139, e_X11_route_140, e_X11_route_141, e_X11_route_142, e_X11_route_144, e_X11_route_146, e_X11_route_147, e_X11_route_148, e_X11_route_150, e_X11_route_153, e_X11_route_154, e_X11_route_157, e_X11_route_159, e_X11_route_162, e_X11_route_164, vi, vl, vr, oc_X11_finding, T_X11_finding, oc_X11_hadBy, T_X11_hadBy, oc_X11_isBoat, T_X11_isBoat, oc_X11_within, T_X11_within, ix_push, ix_iload, ix_lload, ix_aload, ix_istore, ix_astore, ix_iinc, ix_bin, ix_div, ix_un, ix_i2l, ix_l2i, ix_lbin, ix_lsh, ix_lcmp, ix_dup, ix_dup2, ix_pop, ix_if, ix_cmp, ix_goto, ix_switch, ix_sw, ix_iret, ix_zret, ix_vret, ix_aret, ix_geti, ix_getr, ix_puti, ix_putz, ix_puts, ix_gets, ix_iald, ix_iast, ix_alen, ix_aald, ix_gval, ix_gcod, ix_bald, ix_blen, ix_sald, ix_nret, ix_math2, ix_math1, ix_acopy, ml_113, ml_114, ml_115, ml_116, ml_118, ml_119, ml_120, ml_121, ml_122, ml_123, ml_124, ml_125, ml_126, mv_0, mv_1, mv_2, mv_3, mv_4, mv_5, mB_or, Nat.add_assoc, Int32.reduceLT, Int32.reduceLE, Int32.reduceToNatClampNeg, Int32.reduceSub, Int32.reduceAdd, Nat.reduceAdd, Nat.reduceLeDiff, true_or, or_true, or_false, false_or, not_false_eq_true, not_true_eq_false, false_implies, true_implies, implies_true, and_self, mB_0, mB_01, Classical.not_not, Nat.zero_le, List.getElem?_cons_zero, List.getElem?_cons_succ, List.set_cons_zero, List.set_cons_succ, ix_nl, ix_cs, true_and, and_true, Option.toList_some, Option.toList_none, List.cons_append, List.nil_append, c1]
    have hV : V = t := hV
    subst hV
    exact hQ
  | succ d ih =>
    intro t hd hV
    have hp := p5_le (d := d) (by omega)
    have hVt : V = tN R d (10 * t + nI (R / 5 ^ d % 5)) := hV
    rw [p5_s]
    generalize hz : 5 ^ d = z at hp
    have c1 : ¬ nI z ≤ 0 := nI_nle (by omega) (by omega)
    have c2 : ¬ nI z = 0 := nI_ne0 (by omega) (by omega)
    have q1 : nI R / nI z = nI (R / z) := pk_div (by omega) (by omega) (by omega)
    have hrz : R / z ≤ R := Nat.div_le_self _ _
    have q2 : nI (R / z) - nI (R / z) / 5 * 5 = nI (R / z % 5) := pk_rem (d := 5) (by omega) (by decide) (by decide)
    have q3 : nI z / 5 = nI (z / 5) := pk_div (d := 5) (by omega) (by decide) (by decide)
    rw [e_X11_route_124]
    simp (decide := true) only [e_X11_route_0, e_X11_route_1, e_X11_route_2, e_X11_route_5, e_X11_route_8, e_X11_route_9, e_X11_route_10, e_X11_route_11, e_X11_route_14, e_X11_route_17, e_X11_route_18, e_X11_route_19, e_X11_route_20, e_X11_route_23, e_X11_route_26, e_X11_route_27, e_X11_route_29, e_X11_route_32, e_X11_route_33, e_X11_route_34, e_X11_route_36, e_X11_route_37, e_X11_route_41, e_X11_route_42, e_X11_route_45, e_X11_route_47, e_X11_route_48, e_X11_route_49, e_X11_route_51, e_X11_route_54, e_X11_route_57, e_X11_route_58, e_X11_route_60, e_X11_route_61, e_X11_route_63, e_X11_route_64, e_X11_route_68, e_X11_route_70, e_X11_route_73, e_X11_route_74, e_X11_route_75, e_X11_route_77, e_X11_route_79, e_X11_route_82, e_X11_route_84, e_X11_route_86, e_X11_route_88, e_X11_route_91, e_X11_route_93, e_X11_route_96, e_X11_route_98, e_X11_route_100, e_X11_route_102, e_X11_route_104, e_X11_route_107, e_X11_route_109, e_X11_route_112, e_X11_route_115, e_X11_route_116, e_X11_route_118, e_X11_route_120, e_X11_route_121, e_X11_route_122, e_X11_route_126, e_X11_route_129, e_X11_route_131, e_X11_route_133, e_X11_route_134, e_X11_route_136, e_X11_route_138, e_X11_route_139, e_X11_route_140, e_X11_route_141, e_X11_route_142, e_X11_route_144, e_X11_route_146, e_X11_route_147, e_X11_route_148, e_X11_route_150, e_X11_route_153, e_X11_route_154, e_X11_route_157, e_X11_route_159, e_X11_route_162, e_X11_route_164, vi, vl, vr, oc_X11_finding, T_X11_finding, oc_X11_hadBy, T_X11_hadBy, oc_X11_isBoat, T_X11_isBoat, oc_X11_within, T_X11_within, ix_push, ix_iload, ix_lload, ix_aload, ix_istore, ix_astore, ix_iinc, ix_bin, ix_div, ix_un, ix_i2l, ix_l2i, ix_lbin, ix_lsh, ix_lcmp, ix_dup, ix_dup2, ix_pop, ix_if, ix_cmp, ix_goto, ix_switch, ix_sw, ix_iret, ix_zret, ix_vret, ix_aret, ix_geti, ix_getr, ix_puti, ix_putz, ix_puts, ix_gets, ix_iald, ix_iast, ix_alen, ix_aald, ix_gval, ix_gcod, ix_bald, ix_blen, ix_sald, ix_nret, ix_math2, ix_math1, ix_acopy, ml_113, ml_114, ml_115, ml_116, ml_118, ml_119, ml_120, ml_121, ml_122, ml_123, ml_124, ml_125, ml_126, mv_0, mv_1, mv_2, mv_3, mv_4, mv_5, mB_or, Nat.add_assoc, Int32.reduceLT, Int32.reduceLE, Int32.reduceToNatClampNeg, Int32.reduceSub, Int32.reduceAdd, Nat.reduceAdd, Nat.reduceLeDiff, true_or, or_true, or_false, false_or, not_false_eq_true, not_true_eq_false, false_implies, true_implies, implies_true, and_self, mB_0, mB_01, Classical.not_not, Nat.zero_le, List.getElem?_cons_zero, List.getElem?_cons_succ, List.set_cons_zero, List.set_cons_succ, ix_nl, ix_cs, true_and, and_true, Option.toList_some, Option.toList_none, List.cons_append, List.nil_append, c1, c2, q1, q2, q3]
    rw [hz] at ih hVt
    exact ih _ (by omega) hVt
theorem l2_X11_route {M N : Nat} {b p : Int32} {ds dl : List Int32} {μ0 : ix_M} {Q : ix_R → Prop} {h : Nat → Int32} (hN : N ≤ 4) (hM : M ≤ 9999) (hW : MW μ0 M ds dl) (hh : h = fun r => rH ds dl b r N (nv (μ0 113))) (hQ : ∀ μ', Fx [112, 113, 115, 119, 120] μ0 μ' → (∀ j, j ≠ 5 → j ≠ 6 → μ' 112 j = μ0 112 j) → μ' 112 5 = -1 → RE (μ' 113) (μ0 113) → (p = 0 → Q (some (vi (tN (scm h (5 ^ N)).1 N 1)), μ')) ∧ (¬ p = 0 → Q (some (vi (scm h (5 ^ N)).2), μ'))) : ∀ (k r : Nat) (μ : ix_M) (x8 : Option ix_V), r + k = 5 ^ N → Fx [112, 113, 115, 119, 120] μ0 μ → (∀ j, j ≠ 5 → j ≠ 6 → μ 112 j = μ0 112 j) → μ 112 5 = -1 → RE (μ 113) (μ0 113) → ix_Ev o_X11_route Q (66, [some (vr 10 112), some (vi b), some (vi (nI N)), some (vi p), some (vi (nI (5 ^ N))), some (vi (nI (scm h r).1)), some (vi (scm h r).2), some (vi (nI r)), x8], [], μ) := by
  have hp := p5_le hN
  intro k
  induction k with
  | zero =>
    intro r μ x8 hr hF h112 h5 hE
    have hr : r = 5 ^ N := hr
    have c1 : nI (5 ^ N) ≤ nI r := nI_le (by omega) (by omega)
    have q1 : nI (5 ^ N) / 5 = nI (5 ^ N / 5) := pk_div (d := 5) (by omega) (by decide) (by decide)
    have hlt := scm_lt (h := h) r
    rw [e_X11_route_66]
    simp (decide := true) only [e_X11_route_0, e_X11_route_1, e_X11_route_2, e_X11_route_5, e_X11_route_8, e_X11_route_9, e_X11_route_10, e_X11_route_11, e_X11_route_14, e_X11_route_17, e_X11_route_18, e_X11_route_19, e_X11_route_20, e_X11_route_23, e_X11_route_26, e_X11_route_27, e_X11_route_29, e_X11_route_32, e_X11_route_33, e_X11_route_34, e_X11_route_36, e_X11_route_37, e_X11_route_41, e_X11_route_42, e_X11_route_45, e_X11_route_47, e_X11_route_48, e_X11_route_49, e_X11_route_51, e_X11_route_54, e_X11_route_57, e_X11_route_58, e_X11_route_60, e_X11_route_61, e_X11_route_63, e_X11_route_64, e_X11_route_68, e_X11_route_70, e_X11_route_73, e_X11_route_74, e_X11_route_75, e_X11_route_77, e_X11_route_79, e_X11_route_82, e_X11_route_84, e_X11_route_86, e_X11_route_88, e_X11_route_91, e_X11_route_93, e_X11_route_96, e_X11_route_98, e_X11_route_100, e_X11_route_102, e_X11_route_104, e_X11_route_107, e_X11_route_109, e_X11_route_112, e_X11_route_115, e_X11_route_116, e_X11_route_118, e_X11_route_120, e_X11_route_121, e_X11_route_122, e_X11_route_126, e_X11_route_129, e_X11_route_131, e_X11_route_133, e_X11_route_134, e_X11_route_136, e_X11_route_138, e_X11_route_139, e_X11_route_140, e_X11_route_141, e_X11_route_142, e_X11_route_144, e_X11_route_146, e_X11_route_147, e_X11_route_148, e_X11_route_150, e_X11_route_153, e_X11_route_154, e_X11_route_157, e_X11_route_159, e_X11_route_162, e_X11_route_164, vi, vl, vr, oc_X11_finding, T_X11_finding, oc_X11_hadBy, T_X11_hadBy, oc_X11_isBoat, T_X11_isBoat, oc_X11_within, T_X11_within, ix_push, ix_iload, ix_lload, ix_aload, ix_istore, ix_astore, ix_iinc, ix_bin, ix_div, ix_un, ix_i2l, ix_l2i, ix_lbin, ix_lsh, ix_lcmp, ix_dup, ix_dup2, ix_pop, ix_if, ix_cmp, ix_goto, ix_switch, ix_sw, ix_iret, ix_zret, ix_vret, ix_aret, ix_geti, ix_getr, ix_puti, ix_putz, ix_puts, ix_gets, ix_iald, ix_iast, ix_alen, ix_aald, ix_gval, ix_gcod, ix_bald, ix_blen, ix_sald, ix_nret, ix_math2, ix_math1, ix_acopy, ml_113, ml_114, ml_115, ml_116, ml_118, ml_119, ml_120, ml_121, ml_122, ml_123, ml_124, ml_125, ml_126, mv_0, mv_1, mv_2, mv_3, mv_4, mv_5, mB_or, Nat.add_assoc, Int32.reduceLT, Int32.reduceLE, Int32.reduceToNatClampNeg, Int32.reduceSub, Int32.reduceAdd, Nat.reduceAdd, Nat.reduceLeDiff, true_or, or_true, or_false, false_or, not_false_eq_true, not_true_eq_false, false_implies, true_implies, implies_true, and_self, mB_0, mB_01, Classical.not_not, Nat.zero_le, List.getElem?_cons_zero, List.getElem?_cons_succ, List.set_cons_zero, List.set_cons_succ, ix_nl, ix_cs, true_and, and_true, Option.toList_some, Option.toList_none, List.cons_append, List.nil_append, c1, q1]
    have q := hQ μ hF h112 h5 hE
    rw [← hr] at q
    exact l3_X11_route (by omega) q N 1 hN rfl
  | succ k ih =>
    intro r μ x8 hr hF h112 h5 hE
    have c1 : ¬ nI (5 ^ N) ≤ nI r := nI_ge (by omega) (by omega)
    have n1 : nI r + 1 = nI (r + 1) := nI_1 r
    rw [e_X11_route_66]
    simp (decide := true) only [e_X11_route_0, e_X11_route_1, e_X11_route_2, e_X11_route_5, e_X11_route_8, e_X11_route_9, e_X11_route_10, e_X11_route_11, e_X11_route_14, e_X11_route_17, e_X11_route_18, e_X11_route_19, e_X11_route_20, e_X11_route_23, e_X11_route_26, e_X11_route_27, e_X11_route_29, e_X11_route_32, e_X11_route_33, e_X11_route_34, e_X11_route_36, e_X11_route_37, e_X11_route_41, e_X11_route_42, e_X11_route_45, e_X11_route_47, e_X11_route_48, e_X11_route_49, e_X11_route_51, e_X11_route_54, e_X11_route_57, e_X11_route_58, e_X11_route_60, e_X11_route_61, e_X11_route_63, e_X11_route_64, e_X11_route_68, e_X11_route_70, e_X11_route_73, e_X11_route_74, e_X11_route_75, e_X11_route_77, e_X11_route_79, e_X11_route_82, e_X11_route_84, e_X11_route_86, e_X11_route_88, e_X11_route_91, e_X11_route_93, e_X11_route_96, e_X11_route_98, e_X11_route_100, e_X11_route_102, e_X11_route_104, e_X11_route_107, e_X11_route_109, e_X11_route_112, e_X11_route_115, e_X11_route_116, e_X11_route_118, e_X11_route_120, e_X11_route_121, e_X11_route_122, e_X11_route_126, e_X11_route_129, e_X11_route_131, e_X11_route_133, e_X11_route_134, e_X11_route_136, e_X11_route_138, e_X11_route_139, e_X11_route_140, e_X11_route_141, e_X11_route_142, e_X11_route_144, e_X11_route_146, e_X11_route_147, e_X11_route_148, e_X11_route_150, e_X11_route_153, e_X11_route_154, e_X11_route_157, e_X11_route_159, e_X11_route_162, e_X11_route_164, vi, vl, vr, oc_X11_finding, T_X11_finding, oc_X11_hadBy, T_X11_hadBy, oc_X11_isBoat, T_X11_isBoat, oc_X11_within, T_X11_within, ix_push, ix_iload, ix_lload, ix_aload, ix_istore, ix_astore, ix_iinc, ix_bin, ix_div, ix_un, ix_i2l, ix_l2i, ix_lbin, ix_lsh, ix_lcmp, ix_dup, ix_dup2, ix_pop, ix_if, ix_cmp, ix_goto, ix_switch, ix_sw, ix_iret, ix_zret, ix_vret, ix_aret, ix_geti, ix_getr, ix_puti, ix_putz, ix_puts, ix_gets, ix_iald, ix_iast, ix_alen, ix_aald, ix_gval, ix_gcod, ix_bald, ix_blen, ix_sald, ix_nret, ix_math2, ix_math1, ix_acopy, ml_113, ml_114, ml_115, ml_116, ml_118, ml_119, ml_120, ml_121, ml_122, ml_123, ml_124, ml_125, ml_126, mv_0, mv_1, mv_2, mv_3, mv_4, mv_5, mB_or, Nat.add_assoc, Int32.reduceLT, Int32.reduceLE, Int32.reduceToNatClampNeg, Int32.reduceSub, Int32.reduceAdd, Nat.reduceAdd, Nat.reduceLeDiff, true_or, or_true, or_false, false_or, not_false_eq_true, not_true_eq_false, false_implies, true_implies, implies_true, and_self, mB_0, mB_01, Classical.not_not, Nat.zero_le, List.getElem?_cons_zero, List.getElem?_cons_succ, List.set_cons_zero, List.set_cons_succ, ix_nl, ix_cs, true_and, and_true, Option.toList_some, Option.toList_none, List.cons_append, List.nil_append, c1, n1]
    refine ⟨M, N, r, ds, dl, hW.cong hE, rfl, hN, rfl, by omega, by omega, fun μ1 F1 k1 k2 k3 => ?_⟩
    have eh : rH ds dl b r N (nv (μ 113)) = h r := by rw [hh, nv_cong hE]
    rw [eh]
    have := fun x8 => ih (r + 1) μ1 x8 (by omega) (hF.tr F1) (fun j a1 a2 => by rw [k1 j a1 a2]; exact h112 j a1 a2) k2 (fun j hj => by rw [k3 j hj]; exact hE j hj)
    rw [scm] at this
    refine ⟨fun z => ?_, fun z => ?_⟩
    · rw [if_neg (Int32.not_lt.mpr z)] at this ⊢
      exact this _
    · rw [if_pos (Int32.not_le.mp z)] at this ⊢
      exact this _
theorem pr_route {l : Launch} {dd : Nat} (H : ix_AllS l cX10_route 4 RX10 dd (some .int) (o_X10_route T_tryR)) (b : Int32) (n : Int32) (p : Int32) (μ : ix_M) (I : Inv μ) (Q : ix_R → Prop) (hQ : ∀ vv μ', ix_Ev o_X11_route (Pst vv) (0, [some (vr 10 112), some (vi b), some (vi n), some (vi p), none, none, none, none, none], [], μ') → Q (some (vi vv), μ')) : ix_Ev (o_X10_route T_tryR) Q (0, [some (vr 9 0), some (vi b), some (vi n), some (vi p)], [], μ) := by
  obtain ⟨N, hN, n1, n2⟩ := I.n
  rcases inB b hN with ⟨B, hB, rfl, B1, B2, B3, B4⟩ | ⟨hx1, hx2⟩
  · have Bc : (nI B).toNatClampNeg = B := nI_clamp (by omega)
    rcases inR n 4 (by decide) with ⟨K, hK, rfl⟩ | ⟨hx1, hx2⟩
    · obtain ⟨K1, K2, K3, K4⟩ : ¬ nI K < 0 ∧ ¬ (4 : Int32) < nI K ∧ 0 ≤ nI K ∧ nI K ≤ (4 : Int32) := rgN hK (by decide)
      have Kc : (nI K).toNatClampNeg = K := nI_clamp (by omega)
      rcases inR p 1 (by decide) with ⟨P, hP, rfl⟩ | ⟨hx1, hx2⟩
      · obtain ⟨P1, P2, P3, P4⟩ : ¬ nI P < 0 ∧ ¬ (1 : Int32) < nI P ∧ 0 ≤ nI P ∧ nI P ≤ (1 : Int32) := rgN hP (by decide)
        have Pc : (nI P).toNatClampNeg = P := nI_clamp (by omega)
        obtain ⟨M, hM, hR, m1, m2⟩ := I.mi
        obtain ⟨ds, dl, hL, x1, x2⟩ := I.tx
        simp (decide := true) only [e_X10_route_0 H, e_X10_route_1 H, e_X10_route_2 H, e_X10_route_5 H, e_X10_route_8 H, e_X10_route_9 H, e_X10_route_10 H, e_X10_route_13 H, e_X10_route_16 H, e_X10_route_17 H, e_X10_route_18 H, e_X10_route_21 H, e_X10_route_24 H, e_X10_route_25 H, e_X10_route_26 H, e_X10_route_29 H, e_X10_route_30 H, e_X10_route_31 H, e_X10_route_32 H, e_X10_route_35 H, e_X10_route_36 H, e_X10_route_37 H, e_X10_route_40 H, e_X10_route_41 H, e_X10_route_44 H, e_X10_route_45 H, e_X10_route_46 H, e_X10_route_47 H, e_X10_route_48 H, e_X10_route_49 H, e_X10_route_50 H, e_X10_route_53 H, e_X10_route_54 H, e_X10_route_57 H, e_X10_route_58 H, e_X10_route_61 H, e_X10_route_64 H, e_X10_route_65 H, e_X10_route_68 H, vi, vl, vr, ocr_X10_tryRoutes, oc_X10_error, T_X10_error, oc_X10_noBoat, T_X10_noBoat, oc_X10_outside, T_X10_outside, oc_X10_think, T_X10_think, ix_push, ix_iload, ix_lload, ix_aload, ix_istore, ix_astore, ix_iinc, ix_bin, ix_div, ix_un, ix_i2l, ix_l2i, ix_lbin, ix_lsh, ix_lcmp, ix_dup, ix_dup2, ix_pop, ix_if, ix_cmp, ix_goto, ix_switch, ix_sw, ix_iret, ix_zret, ix_vret, ix_aret, ix_geti, ix_getr, ix_puti, ix_putz, ix_puts, ix_gets, ix_iald, ix_iast, ix_alen, ix_aald, ix_gval, ix_gcod, ix_bald, ix_blen, ix_sald, ix_nret, ix_math2, ix_math1, ix_acopy, Nat.add_assoc, Int32.reduceLT, Int32.reduceLE, Int32.reduceToNatClampNeg, Int32.reduceSub, Int32.reduceAdd, Nat.reduceAdd, Nat.reduceLeDiff, true_or, or_true, or_false, false_or, not_false_eq_true, not_true_eq_false, false_implies, true_implies, implies_true, and_self, mB_0, mB_01, Classical.not_not, Nat.zero_le, List.getElem?_cons_zero, List.getElem?_cons_succ, List.set_cons_zero, List.set_cons_succ, ix_nl, ix_cs, true_and, and_true, Option.toList_some, Option.toList_none, List.cons_append, List.nil_append, n1, n2, B1, B2, B3, B4, Bc, K1, K2, K3, K4, Kc, P1, P2, P3, P4, Pc, ix_popr, ix_up_ne, ix_up_k, ve_1, ve_2, ve_3, ve_4, ve_5]
        intro μ1 F1 V1
        have ea : ∀ a, a ≠ 0 → ¬ (48 ≤ a ∧ a ≤ 55) → μ1 a = μ a := fun a k1 k2 => by rw [F1 a (by simp [wL]; omega), ix_up_ne k1, ix_up_ne k1]
        have e0 : μ1 0 = ix_up (ix_up μ 0 9 (-1)) 0 10 1 0 := F1 0 (by decide)
        have hv1 : wv μ1 48 = nv (μ 113) := by
          rw [V1, ← I.hw]
          exact wv_fx (fun r hr => by rw [ix_up_ne (by omega), ix_up_ne (by omega)])
        have z9 : μ1 0 9 = -1 := by rw [e0, ix_up_ap, if_neg (by decide), ix_up_k]
        have z10 : μ1 0 10 = 1 := by rw [e0, ix_up_k]
        refine ⟨K, hK, rfl, M, K, 0, ds, dl, rfl, rfl, (Nat.zero_add K).symm, hK, ?_, by omega, ?_, fun μ2 F2 E2 Z2 => ?_⟩
        · show WAt (wv μ1 48) M
          rw [hv1]
          exact hR.1
        · exact ⟨hL.1.fx (ea 12 (by decide) (by decide)) (ea 13 (by decide) (by decide)), hL.2.fx (ea 16 (by decide) (by decide)) (ea 17 (by decide) (by decide))⟩
        · have E2 : (μ2 0 9, μ2 0 10) = rtF ds dl (nI B) K 1 (wv μ1 48) (μ1 0 9, μ1 0 10) := E2
          have F2' : ∀ a, a ≠ 0 → a ≠ 14 → a ≠ 18 → ¬ (48 ≤ a ∧ a < 88) → μ2 a = μ a := fun a k1 k2 k3 k4 => by rw [F2 a (by rw [wQ_in]; omega), ea a k1 (by omega)]
          obtain ⟨m, hm⟩ : ∃ m, 5 ^ K = m + 1 := ⟨5 ^ K - 1, by have := p5_le hK; omega⟩
          generalize hh : (fun r => rH ds dl (nI B) r K (nv (μ 113))) = h at *
          have h0 : -1 < h 0 := by
            obtain ⟨y, hy, ey⟩ := rH_pos (ds := ds) (dl := dl) (b := nI B) (r := 0) K (nv (μ 113)) M hR
            rw [← hh]
            show -1 < rH ds dl (nI B) 0 K (nv (μ 113))
            rw [ey, fa_lt, nI_toInt (by omega)]
            have : (-1 : Int32).toInt = -1 := rfl
            omega
          have E3 : (μ2 0 9, μ2 0 10) = ((scm h (5 ^ K)).2, tN (scm h (5 ^ K)).1 K 1) := by
            rw [E2, z9, z10, hv1, rt_sc, hm]
            have := scm_sc (h := h) (t := fun r => tN r K 1) h0 m
            rw [← hh] at this ⊢
            exact this
          have E9 : μ2 0 9 = (scm h (5 ^ K)).2 := congrArg Prod.fst E3
          have E10 : μ2 0 10 = tN (scm h (5 ^ K)).1 K 1 := congrArg Prod.snd E3
          have I2 : Inv μ2 := by
            refine I.gen (L := 0 :: 14 :: 18 :: (List.range 40).map (fun i => 48 + i)) (fun a ha => ?_) (by decide) ?_ ?_ ?_ ?_ ?_ ?_ ?_
            · simp only [List.mem_cons, List.mem_map, List.mem_range] at ha
              refine F2' a (by omega) (by omega) (by omega) (fun z => ha (Or.inr (Or.inr (Or.inr ⟨a - 48, by omega, by omega⟩))))
            · rw [F2' 113 (by decide) (by decide) (by decide) (by decide)]
              exact I.1.fx (fun a h1 h2 h3 h4 => F2' a (by omega) (by omega) (by omega) (by omega)) (fun j _ => rfl)
            · rw [Z2 2 (by decide) (by decide), e0, ix_up_ap, if_neg (by decide), ix_up_ap, if_neg (by decide)]
            · rw [F2' 112 (by decide) (by decide) (by decide) (by decide)]
            · rw [F2' 112 (by decide) (by decide) (by decide) (by decide)]
              exact I.2.2.2.2.2.2.1
            · rw [F2' 112 (by decide) (by decide) (by decide) (by decide)]
            · rw [F2' 97 (by decide) (by decide) (by decide) (by decide)]
              exact I.2.2.2.2.2.2.2.1
            · rw [F2' 121 (by decide) (by decide) (by decide) (by decide)]
              exact I.2.2.2.2.2.2.2.2
          have e : μ2 113 = μ 113 := F2' 113 (by decide) (by decide) (by decide) (by decide)
          have n3 : μ2 113 1 = nI N := by rw [e]; exact n2
          have mdl : ∀ v : Int32, (nI P = 0 → v = tN (scm h (5 ^ K)).1 K 1) → (¬ nI P = 0 → v = (scm h (5 ^ K)).2) → ix_Ev o_X11_route (Pst v) (0, [some (vr 10 112), some (vi (nI B)), some (vi (nI K)), some (vi (nI P)), none, none, none, none, none], [], μ2) := by
            intro v w1 w2
            simp (decide := true) only [e_X11_route_0, e_X11_route_1, e_X11_route_2, e_X11_route_5, e_X11_route_8, e_X11_route_9, e_X11_route_10, e_X11_route_11, e_X11_route_14, e_X11_route_17, e_X11_route_18, e_X11_route_19, e_X11_route_20, e_X11_route_23, e_X11_route_26, e_X11_route_27, e_X11_route_29, e_X11_route_32, e_X11_route_33, e_X11_route_34, e_X11_route_36, e_X11_route_37, e_X11_route_41, e_X11_route_42, e_X11_route_45, e_X11_route_47, e_X11_route_48, e_X11_route_49, e_X11_route_51, e_X11_route_54, e_X11_route_57, e_X11_route_58, e_X11_route_60, e_X11_route_61, e_X11_route_63, e_X11_route_64, e_X11_route_68, e_X11_route_70, e_X11_route_73, e_X11_route_74, e_X11_route_75, e_X11_route_77, e_X11_route_79, e_X11_route_82, e_X11_route_84, e_X11_route_86, e_X11_route_88, e_X11_route_91, e_X11_route_93, e_X11_route_96, e_X11_route_98, e_X11_route_100, e_X11_route_102, e_X11_route_104, e_X11_route_107, e_X11_route_109, e_X11_route_112, e_X11_route_115, e_X11_route_116, e_X11_route_118, e_X11_route_120, e_X11_route_121, e_X11_route_122, e_X11_route_126, e_X11_route_129, e_X11_route_131, e_X11_route_133, e_X11_route_134, e_X11_route_136, e_X11_route_138, e_X11_route_139, e_X11_route_140, e_X11_route_141, e_X11_route_142, e_X11_route_144, e_X11_route_146, e_X11_route_147, e_X11_route_148, e_X11_route_150, e_X11_route_153, e_X11_route_154, e_X11_route_157, e_X11_route_159, e_X11_route_162, e_X11_route_164, vi, vl, vr, oc_X11_finding, T_X11_finding, oc_X11_hadBy, T_X11_hadBy, oc_X11_isBoat, T_X11_isBoat, oc_X11_within, T_X11_within, ix_push, ix_iload, ix_lload, ix_aload, ix_istore, ix_astore, ix_iinc, ix_bin, ix_div, ix_un, ix_i2l, ix_l2i, ix_lbin, ix_lsh, ix_lcmp, ix_dup, ix_dup2, ix_pop, ix_if, ix_cmp, ix_goto, ix_switch, ix_sw, ix_iret, ix_zret, ix_vret, ix_aret, ix_geti, ix_getr, ix_puti, ix_putz, ix_puts, ix_gets, ix_iald, ix_iast, ix_alen, ix_aald, ix_gval, ix_gcod, ix_bald, ix_blen, ix_sald, ix_nret, ix_math2, ix_math1, ix_acopy, ml_113, ml_114, ml_115, ml_116, ml_118, ml_119, ml_120, ml_121, ml_122, ml_123, ml_124, ml_125, ml_126, mv_0, mv_1, mv_2, mv_3, mv_4, mv_5, mB_or, Nat.add_assoc, Int32.reduceLT, Int32.reduceLE, Int32.reduceToNatClampNeg, Int32.reduceSub, Int32.reduceAdd, Nat.reduceAdd, Nat.reduceLeDiff, true_or, or_true, or_false, false_or, not_false_eq_true, not_true_eq_false, false_implies, true_implies, implies_true, and_self, mB_0, mB_01, Classical.not_not, Nat.zero_le, List.getElem?_cons_zero, List.getElem?_cons_succ, List.set_cons_zero, List.set_cons_succ, ix_nl, ix_cs, true_and, and_true, Option.toList_some, Option.toList_none, List.cons_append, List.nil_append, B3, B4, K3, K4, P3, P4, n3, ix_up_ne, ix_up_k, ve_1, ve_2, ve_3, ve_4, ve_5]
            refine l1_X11_route (N := K) hK ?_ K 0 (by omega)
            refine l2_X11_route (M := M) (N := K) (ds := ds) (dl := dl) (μ0 := μ2) (h := h) hK hM (mwOf (by rw [e]; exact hR) (by rw [e]; exact x1) (by rw [e]; exact x2)) (by rw [e]; exact hh.symm) (fun μ3 F3 k1 k2 k3 => ?_) (5 ^ K) 0 μ2 none (by omega) Fx.rf (fun _ _ _ => rfl) I2.2.2.2.2.2.2.1 (fun _ _ => rfl)
            have I3 : Inv μ3 := by
              refine I2.gen (L := [112, 113, 115, 119, 120]) F3 (by decide) ?_ (by rw [F3 0 (by decide)]) (k1 3 (by decide) (by decide)) k2 (k1 18 (by decide) (by decide)) (by rw [F3 97 (by decide)]; exact I2.2.2.2.2.2.2.2.1) (by rw [F3 121 (by decide)]; exact I2.2.2.2.2.2.2.2.2)
              exact I2.1.fx (fun a h1 h2 h3 h4 => F3 a (by simp; omega)) k3
            exact ⟨fun z => pst (w1 z).symm I3, fun z => pst (w2 z).symm I3⟩
          exact ⟨fun z => hQ _ _ (mdl _ (fun _ => E10) (fun y => absurd z y)), fun z => hQ _ _ (mdl _ (fun y => absurd y z) (fun _ => E9))⟩
      · have hx1 : p < 0 ∨ (1 : Int32) < p := hx1
        have hx2 : ¬ (0 ≤ p ∧ p ≤ (1 : Int32)) := hx2
        have hx3 : ¬ p = 0 := by rintro rfl; exact hx2 (by decide)
        have hx4 : ¬ p = 1 := by rintro rfl; exact hx2 (by decide)
        simp (decide := true) only [e_X10_route_0 H, e_X10_route_1 H, e_X10_route_2 H, e_X10_route_5 H, e_X10_route_8 H, e_X10_route_9 H, e_X10_route_10 H, e_X10_route_13 H, e_X10_route_16 H, e_X10_route_17 H, e_X10_route_18 H, e_X10_route_21 H, e_X10_route_24 H, e_X10_route_25 H, e_X10_route_26 H, e_X10_route_29 H, e_X10_route_30 H, e_X10_route_31 H, e_X10_route_32 H, e_X10_route_35 H, e_X10_route_36 H, e_X10_route_37 H, e_X10_route_40 H, e_X10_route_41 H, e_X10_route_44 H, e_X10_route_45 H, e_X10_route_46 H, e_X10_route_47 H, e_X10_route_48 H, e_X10_route_49 H, e_X10_route_50 H, e_X10_route_53 H, e_X10_route_54 H, e_X10_route_57 H, e_X10_route_58 H, e_X10_route_61 H, e_X10_route_64 H, e_X10_route_65 H, e_X10_route_68 H, vi, vl, vr, ocr_X10_tryRoutes, oc_X10_error, T_X10_error, oc_X10_noBoat, T_X10_noBoat, oc_X10_outside, T_X10_outside, oc_X10_think, T_X10_think, ix_push, ix_iload, ix_lload, ix_aload, ix_istore, ix_astore, ix_iinc, ix_bin, ix_div, ix_un, ix_i2l, ix_l2i, ix_lbin, ix_lsh, ix_lcmp, ix_dup, ix_dup2, ix_pop, ix_if, ix_cmp, ix_goto, ix_switch, ix_sw, ix_iret, ix_zret, ix_vret, ix_aret, ix_geti, ix_getr, ix_puti, ix_putz, ix_puts, ix_gets, ix_iald, ix_iast, ix_alen, ix_aald, ix_gval, ix_gcod, ix_bald, ix_blen, ix_sald, ix_nret, ix_math2, ix_math1, ix_acopy, Nat.add_assoc, Int32.reduceLT, Int32.reduceLE, Int32.reduceToNatClampNeg, Int32.reduceSub, Int32.reduceAdd, Nat.reduceAdd, Nat.reduceLeDiff, true_or, or_true, or_false, false_or, not_false_eq_true, not_true_eq_false, false_implies, true_implies, implies_true, and_self, mB_0, mB_01, Classical.not_not, Nat.zero_le, List.getElem?_cons_zero, List.getElem?_cons_succ, List.set_cons_zero, List.set_cons_succ, ix_nl, ix_cs, true_and, and_true, Option.toList_some, Option.toList_none, List.cons_append, List.nil_append, n1, n2, B1, B2, B3, B4, Bc, K1, K2, K3, K4, Kc, hx1, hx2, hx3, hx4, ix_up_ne, ix_up_k, ve_1, ve_2, ve_3, ve_4, ve_5]
        refine hQ _ _ ?_
        simp (decide := true) only [e_X11_route_0, e_X11_route_1, e_X11_route_2, e_X11_route_5, e_X11_route_8, e_X11_route_9, e_X11_route_10, e_X11_route_11, e_X11_route_14, e_X11_route_17, e_X11_route_18, e_X11_route_19, e_X11_route_20, e_X11_route_23, e_X11_route_26, e_X11_route_27, e_X11_route_29, e_X11_route_32, e_X11_route_33, e_X11_route_34, e_X11_route_36, e_X11_route_37, e_X11_route_41, e_X11_route_42, e_X11_route_45, e_X11_route_47, e_X11_route_48, e_X11_route_49, e_X11_route_51, e_X11_route_54, e_X11_route_57, e_X11_route_58, e_X11_route_60, e_X11_route_61, e_X11_route_63, e_X11_route_64, e_X11_route_68, e_X11_route_70, e_X11_route_73, e_X11_route_74, e_X11_route_75, e_X11_route_77, e_X11_route_79, e_X11_route_82, e_X11_route_84, e_X11_route_86, e_X11_route_88, e_X11_route_91, e_X11_route_93, e_X11_route_96, e_X11_route_98, e_X11_route_100, e_X11_route_102, e_X11_route_104, e_X11_route_107, e_X11_route_109, e_X11_route_112, e_X11_route_115, e_X11_route_116, e_X11_route_118, e_X11_route_120, e_X11_route_121, e_X11_route_122, e_X11_route_126, e_X11_route_129, e_X11_route_131, e_X11_route_133, e_X11_route_134, e_X11_route_136, e_X11_route_138, e_X11_route_139, e_X11_route_140, e_X11_route_141, e_X11_route_142, e_X11_route_144, e_X11_route_146, e_X11_route_147, e_X11_route_148, e_X11_route_150, e_X11_route_153, e_X11_route_154, e_X11_route_157, e_X11_route_159, e_X11_route_162, e_X11_route_164, vi, vl, vr, oc_X11_finding, T_X11_finding, oc_X11_hadBy, T_X11_hadBy, oc_X11_isBoat, T_X11_isBoat, oc_X11_within, T_X11_within, ix_push, ix_iload, ix_lload, ix_aload, ix_istore, ix_astore, ix_iinc, ix_bin, ix_div, ix_un, ix_i2l, ix_l2i, ix_lbin, ix_lsh, ix_lcmp, ix_dup, ix_dup2, ix_pop, ix_if, ix_cmp, ix_goto, ix_switch, ix_sw, ix_iret, ix_zret, ix_vret, ix_aret, ix_geti, ix_getr, ix_puti, ix_putz, ix_puts, ix_gets, ix_iald, ix_iast, ix_alen, ix_aald, ix_gval, ix_gcod, ix_bald, ix_blen, ix_sald, ix_nret, ix_math2, ix_math1, ix_acopy, ml_113, ml_114, ml_115, ml_116, ml_118, ml_119, ml_120, ml_121, ml_122, ml_123, ml_124, ml_125, ml_126, mv_0, mv_1, mv_2, mv_3, mv_4, mv_5, mB_or, Nat.add_assoc, Int32.reduceLT, Int32.reduceLE, Int32.reduceToNatClampNeg, Int32.reduceSub, Int32.reduceAdd, Nat.reduceAdd, Nat.reduceLeDiff, true_or, or_true, or_false, false_or, not_false_eq_true, not_true_eq_false, false_implies, true_implies, implies_true, and_self, mB_0, mB_01, Classical.not_not, Nat.zero_le, List.getElem?_cons_zero, List.getElem?_cons_succ, List.set_cons_zero, List.set_cons_succ, ix_nl, ix_cs, true_and, and_true, Option.toList_some, Option.toList_none, List.cons_append, List.nil_append, n1, n2, B1, B2, B3, B4, Bc, K1, K2, K3, K4, Kc, hx1, hx2, hx3, hx4, ix_up_ne, ix_up_k, ve_1, ve_2, ve_3, ve_4, ve_5]
        repeat' (first | exact I.er 1 (by decide) | refine ⟨fun _ => ?_, fun _ => ?_⟩)
    · have hx1 : n < 0 ∨ (4 : Int32) < n := hx1
      have hx2 : ¬ (0 ≤ n ∧ n ≤ (4 : Int32)) := hx2
      simp (decide := true) only [e_X10_route_0 H, e_X10_route_1 H, e_X10_route_2 H, e_X10_route_5 H, e_X10_route_8 H, e_X10_route_9 H, e_X10_route_10 H, e_X10_route_13 H, e_X10_route_16 H, e_X10_route_17 H, e_X10_route_18 H, e_X10_route_21 H, e_X10_route_24 H, e_X10_route_25 H, e_X10_route_26 H, e_X10_route_29 H, e_X10_route_30 H, e_X10_route_31 H, e_X10_route_32 H, e_X10_route_35 H, e_X10_route_36 H, e_X10_route_37 H, e_X10_route_40 H, e_X10_route_41 H, e_X10_route_44 H, e_X10_route_45 H, e_X10_route_46 H, e_X10_route_47 H, e_X10_route_48 H, e_X10_route_49 H, e_X10_route_50 H, e_X10_route_53 H, e_X10_route_54 H, e_X10_route_57 H, e_X10_route_58 H, e_X10_route_61 H, e_X10_route_64 H, e_X10_route_65 H, e_X10_route_68 H, vi, vl, vr, ocr_X10_tryRoutes, oc_X10_error, T_X10_error, oc_X10_noBoat, T_X10_noBoat, oc_X10_outside, T_X10_outside, oc_X10_think, T_X10_think, ix_push, ix_iload, ix_lload, ix_aload, ix_istore, ix_astore, ix_iinc, ix_bin, ix_div, ix_un, ix_i2l, ix_l2i, ix_lbin, ix_lsh, ix_lcmp, ix_dup, ix_dup2, ix_pop, ix_if, ix_cmp, ix_goto, ix_switch, ix_sw, ix_iret, ix_zret, ix_vret, ix_aret, ix_geti, ix_getr, ix_puti, ix_putz, ix_puts, ix_gets, ix_iald, ix_iast, ix_alen, ix_aald, ix_gval, ix_gcod, ix_bald, ix_blen, ix_sald, ix_nret, ix_math2, ix_math1, ix_acopy, Nat.add_assoc, Int32.reduceLT, Int32.reduceLE, Int32.reduceToNatClampNeg, Int32.reduceSub, Int32.reduceAdd, Nat.reduceAdd, Nat.reduceLeDiff, true_or, or_true, or_false, false_or, not_false_eq_true, not_true_eq_false, false_implies, true_implies, implies_true, and_self, mB_0, mB_01, Classical.not_not, Nat.zero_le, List.getElem?_cons_zero, List.getElem?_cons_succ, List.set_cons_zero, List.set_cons_succ, ix_nl, ix_cs, true_and, and_true, Option.toList_some, Option.toList_none, List.cons_append, List.nil_append, n1, n2, B1, B2, B3, B4, Bc, hx1, hx2, ix_up_ne, ix_up_k, ve_1, ve_2, ve_3, ve_4, ve_5]
      refine hQ _ _ ?_
      simp (decide := true) only [e_X11_route_0, e_X11_route_1, e_X11_route_2, e_X11_route_5, e_X11_route_8, e_X11_route_9, e_X11_route_10, e_X11_route_11, e_X11_route_14, e_X11_route_17, e_X11_route_18, e_X11_route_19, e_X11_route_20, e_X11_route_23, e_X11_route_26, e_X11_route_27, e_X11_route_29, e_X11_route_32, e_X11_route_33, e_X11_route_34, e_X11_route_36, e_X11_route_37, e_X11_route_41, e_X11_route_42, e_X11_route_45, e_X11_route_47, e_X11_route_48, e_X11_route_49, e_X11_route_51, e_X11_route_54, e_X11_route_57, e_X11_route_58, e_X11_route_60, e_X11_route_61, e_X11_route_63, e_X11_route_64, e_X11_route_68, e_X11_route_70, e_X11_route_73, e_X11_route_74, e_X11_route_75, e_X11_route_77, e_X11_route_79, e_X11_route_82, e_X11_route_84, e_X11_route_86, e_X11_route_88, e_X11_route_91, e_X11_route_93, e_X11_route_96, e_X11_route_98, e_X11_route_100, e_X11_route_102, e_X11_route_104, e_X11_route_107, e_X11_route_109, e_X11_route_112, e_X11_route_115, e_X11_route_116, e_X11_route_118, e_X11_route_120, e_X11_route_121, e_X11_route_122, e_X11_route_126, e_X11_route_129, e_X11_route_131, e_X11_route_133, e_X11_route_134, e_X11_route_136, e_X11_route_138, e_X11_route_139, e_X11_route_140, e_X11_route_141, e_X11_route_142, e_X11_route_144, e_X11_route_146, e_X11_route_147, e_X11_route_148, e_X11_route_150, e_X11_route_153, e_X11_route_154, e_X11_route_157, e_X11_route_159, e_X11_route_162, e_X11_route_164, vi, vl, vr, oc_X11_finding, T_X11_finding, oc_X11_hadBy, T_X11_hadBy, oc_X11_isBoat, T_X11_isBoat, oc_X11_within, T_X11_within, ix_push, ix_iload, ix_lload, ix_aload, ix_istore, ix_astore, ix_iinc, ix_bin, ix_div, ix_un, ix_i2l, ix_l2i, ix_lbin, ix_lsh, ix_lcmp, ix_dup, ix_dup2, ix_pop, ix_if, ix_cmp, ix_goto, ix_switch, ix_sw, ix_iret, ix_zret, ix_vret, ix_aret, ix_geti, ix_getr, ix_puti, ix_putz, ix_puts, ix_gets, ix_iald, ix_iast, ix_alen, ix_aald, ix_gval, ix_gcod, ix_bald, ix_blen, ix_sald, ix_nret, ix_math2, ix_math1, ix_acopy, ml_113, ml_114, ml_115, ml_116, ml_118, ml_119, ml_120, ml_121, ml_122, ml_123, ml_124, ml_125, ml_126, mv_0, mv_1, mv_2, mv_3, mv_4, mv_5, mB_or, Nat.add_assoc, Int32.reduceLT, Int32.reduceLE, Int32.reduceToNatClampNeg, Int32.reduceSub, Int32.reduceAdd, Nat.reduceAdd, Nat.reduceLeDiff, true_or, or_true, or_false, false_or, not_false_eq_true, not_true_eq_false, false_implies, true_implies, implies_true, and_self, mB_0, mB_01, Classical.not_not, Nat.zero_le, List.getElem?_cons_zero, List.getElem?_cons_succ, List.set_cons_zero, List.set_cons_succ, ix_nl, ix_cs, true_and, and_true, Option.toList_some, Option.toList_none, List.cons_append, List.nil_append, n1, n2, B1, B2, B3, B4, Bc, hx1, hx2, ix_up_ne, ix_up_k, ve_1, ve_2, ve_3, ve_4, ve_5]
      repeat' (first | exact I.er 1 (by decide) | refine ⟨fun _ => ?_, fun _ => ?_⟩)
  · simp (decide := true) only [e_X10_route_0 H, e_X10_route_1 H, e_X10_route_2 H, e_X10_route_5 H, e_X10_route_8 H, e_X10_route_9 H, e_X10_route_10 H, e_X10_route_13 H, e_X10_route_16 H, e_X10_route_17 H, e_X10_route_18 H, e_X10_route_21 H, e_X10_route_24 H, e_X10_route_25 H, e_X10_route_26 H, e_X10_route_29 H, e_X10_route_30 H, e_X10_route_31 H, e_X10_route_32 H, e_X10_route_35 H, e_X10_route_36 H, e_X10_route_37 H, e_X10_route_40 H, e_X10_route_41 H, e_X10_route_44 H, e_X10_route_45 H, e_X10_route_46 H, e_X10_route_47 H, e_X10_route_48 H, e_X10_route_49 H, e_X10_route_50 H, e_X10_route_53 H, e_X10_route_54 H, e_X10_route_57 H, e_X10_route_58 H, e_X10_route_61 H, e_X10_route_64 H, e_X10_route_65 H, e_X10_route_68 H, vi, vl, vr, ocr_X10_tryRoutes, oc_X10_error, T_X10_error, oc_X10_noBoat, T_X10_noBoat, oc_X10_outside, T_X10_outside, oc_X10_think, T_X10_think, ix_push, ix_iload, ix_lload, ix_aload, ix_istore, ix_astore, ix_iinc, ix_bin, ix_div, ix_un, ix_i2l, ix_l2i, ix_lbin, ix_lsh, ix_lcmp, ix_dup, ix_dup2, ix_pop, ix_if, ix_cmp, ix_goto, ix_switch, ix_sw, ix_iret, ix_zret, ix_vret, ix_aret, ix_geti, ix_getr, ix_puti, ix_putz, ix_puts, ix_gets, ix_iald, ix_iast, ix_alen, ix_aald, ix_gval, ix_gcod, ix_bald, ix_blen, ix_sald, ix_nret, ix_math2, ix_math1, ix_acopy, Nat.add_assoc, Int32.reduceLT, Int32.reduceLE, Int32.reduceToNatClampNeg, Int32.reduceSub, Int32.reduceAdd, Nat.reduceAdd, Nat.reduceLeDiff, true_or, or_true, or_false, false_or, not_false_eq_true, not_true_eq_false, false_implies, true_implies, implies_true, and_self, mB_0, mB_01, Classical.not_not, Nat.zero_le, List.getElem?_cons_zero, List.getElem?_cons_succ, List.set_cons_zero, List.set_cons_succ, ix_nl, ix_cs, true_and, and_true, Option.toList_some, Option.toList_none, List.cons_append, List.nil_append, n1, n2, hx1, hx2, ix_up_ne, ix_up_k, ve_1, ve_2, ve_3, ve_4, ve_5]
    refine hQ _ _ ?_
    simp (decide := true) only [e_X11_route_0, e_X11_route_1, e_X11_route_2, e_X11_route_5, e_X11_route_8, e_X11_route_9, e_X11_route_10, e_X11_route_11, e_X11_route_14, e_X11_route_17, e_X11_route_18, e_X11_route_19, e_X11_route_20, e_X11_route_23, e_X11_route_26, e_X11_route_27, e_X11_route_29, e_X11_route_32, e_X11_route_33, e_X11_route_34, e_X11_route_36, e_X11_route_37, e_X11_route_41, e_X11_route_42, e_X11_route_45, e_X11_route_47, e_X11_route_48, e_X11_route_49, e_X11_route_51, e_X11_route_54, e_X11_route_57, e_X11_route_58, e_X11_route_60, e_X11_route_61, e_X11_route_63, e_X11_route_64, e_X11_route_68, e_X11_route_70, e_X11_route_73, e_X11_route_74, e_X11_route_75, e_X11_route_77, e_X11_route_79, e_X11_route_82, e_X11_route_84, e_X11_route_86, e_X11_route_88, e_X11_route_91, e_X11_route_93, e_X11_route_96, e_X11_route_98, e_X11_route_100, e_X11_route_102, e_X11_route_104, e_X11_route_107, e_X11_route_109, e_X11_route_112, e_X11_route_115, e_X11_route_116, e_X11_route_118, e_X11_route_120, e_X11_route_121, e_X11_route_122, e_X11_route_126, e_X11_route_129, e_X11_route_131, e_X11_route_133, e_X11_route_134, e_X11_route_136, e_X11_route_138, e_X11_route_139, e_X11_route_140, e_X11_route_141, e_X11_route_142, e_X11_route_144, e_X11_route_146, e_X11_route_147, e_X11_route_148, e_X11_route_150, e_X11_route_153, e_X11_route_154, e_X11_route_157, e_X11_route_159, e_X11_route_162, e_X11_route_164, vi, vl, vr, oc_X11_finding, T_X11_finding, oc_X11_hadBy, T_X11_hadBy, oc_X11_isBoat, T_X11_isBoat, oc_X11_within, T_X11_within, ix_push, ix_iload, ix_lload, ix_aload, ix_istore, ix_astore, ix_iinc, ix_bin, ix_div, ix_un, ix_i2l, ix_l2i, ix_lbin, ix_lsh, ix_lcmp, ix_dup, ix_dup2, ix_pop, ix_if, ix_cmp, ix_goto, ix_switch, ix_sw, ix_iret, ix_zret, ix_vret, ix_aret, ix_geti, ix_getr, ix_puti, ix_putz, ix_puts, ix_gets, ix_iald, ix_iast, ix_alen, ix_aald, ix_gval, ix_gcod, ix_bald, ix_blen, ix_sald, ix_nret, ix_math2, ix_math1, ix_acopy, ml_113, ml_114, ml_115, ml_116, ml_118, ml_119, ml_120, ml_121, ml_122, ml_123, ml_124, ml_125, ml_126, mv_0, mv_1, mv_2, mv_3, mv_4, mv_5, mB_or, Nat.add_assoc, Int32.reduceLT, Int32.reduceLE, Int32.reduceToNatClampNeg, Int32.reduceSub, Int32.reduceAdd, Nat.reduceAdd, Nat.reduceLeDiff, true_or, or_true, or_false, false_or, not_false_eq_true, not_true_eq_false, false_implies, true_implies, implies_true, and_self, mB_0, mB_01, Classical.not_not, Nat.zero_le, List.getElem?_cons_zero, List.getElem?_cons_succ, List.set_cons_zero, List.set_cons_succ, ix_nl, ix_cs, true_and, and_true, Option.toList_some, Option.toList_none, List.cons_append, List.nil_append, n1, n2, hx1, hx2, ix_up_ne, ix_up_k, ve_1, ve_2, ve_3, ve_4, ve_5]
    repeat' (first | exact I.er 1 (by decide) | refine ⟨fun _ => ?_, fun _ => ?_⟩)
