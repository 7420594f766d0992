/-! ===== Laws, Water: the small methods ===== -/
def TxtOk (μ : ix_M) (t : Nat) (ds : List Int32) : Prop := TxtC μ t ds ∧ (ds = [] ∨ tWf ds 0 1)
def lawS (ds : List Int32) (a b c : Int32) : Int32 := mHeld (if ds = [] then b else (tEval a b c ds []).headD 0)
def lawL (ds : List Int32) (a b c : Int32) : Int32 := mHeld (if ds = [] then (if c = 0 then 0 else a) else (tEval a b c ds []).headD 0)
theorem TxtC.size {μ : ix_M} {t : Nat} {ds : List Int32} (h : TxtC μ t ds) : μ (t + 1) 1 = 0 ↔ ds = [] := by
  rw [h.1]
  have h2 := h.2.1
  cases ds with
  | nil => simp; rfl
  | cons d ds => simp only [List.length_cons, reduceCtorEq, iff_false]; exact nI_ne0 (by omega) (by simp at h2; omega)
def T_X1_settles : Nat × Int32 × Int32 × Int32 → ix_M → (ix_R → Prop) → Prop := fun (q, a, b, c) μ Q => ∃ ds, TxtOk μ (q + 1) ds ∧ ∀ μ', Fx [q + 4] μ μ' → Q (some (vi (lawS ds a b c)), μ')
def sh_X1_settles (x : Nat × Int32 × Int32 × Int32) : List ix_V := [vr 0 x.1, vi x.2.1, vi x.2.2.1, vi x.2.2.2]
theorem mo_X1_settles (x : Nat × Int32 × Int32 × Int32) (μ : ix_M) (Q Q' : ix_R → Prop) (h : ∀ r, Q r → Q' r) (hT : T_X1_settles x μ Q) : T_X1_settles x μ Q' := by
  obtain ⟨a0, a1, a2, a3⟩ := x
  (obtain ⟨ds, h1, h3⟩ := hT; exact ⟨ds, h1, fun μ' z => h _ (h3 μ' z)⟩)
def oc_X1_settles (n : Nat) : ix_Op := fun k _ ls st μ => match st with
  | .inl a3 :: .inl a2 :: .inl a1 :: .inr (.inr (t0, a0)) :: r => t0 = 0 ∧ ix_cs r ≤ 8 ∧ T_X1_settles (a0, a1, a2, a3) μ (fun q => k (n, ls, q.1.toList ++ r, q.2))
  | _ => False
theorem oc_X1_settles_s {l : Launch} {cc : ByteArray} {nL : Nat} {own : String} {d : Nat} {rt : Option FieldType} {pc n : Nat} (h : ix_S l cc nL own d rt pc (ix_call 4 sh_X1_settles T_X1_settles n)) : ix_S l cc nL own d rt pc (oc_X1_settles n) := by
  refine h.by (fun k Q ls st μ h => ?_) (fun k k' Q ls st μ hk h => ?_)
  · unfold oc_X1_settles at h
    split at h
    · rename_i a3 a2 a1 t0 a0 r
      obtain ⟨rfl, h1, h2⟩ := h
      exact ⟨h1, (a0, a1, a2, a3), rfl, _, h2, fun r h => h⟩
    · exact h.elim
  · unfold oc_X1_settles at h ⊢
    split at h
    · obtain ⟨rfl, h1, h2⟩ := h
      exact ⟨rfl, h1, mo_X1_settles _ _ _ _ (fun q hq => hk _ hq) h2⟩
    · exact h.elim
def o_X1_settles : List (Nat × ix_Op) := [
  (0, ix_aload 0 1),
  (1, ix_getr 0 6 (fun k => k + 1) 4),
  (4, oc_X7_isMissing 7),
  (7, ix_if (fun x => x = 0) 14 10),
  (10, ix_iload 2 11),
  (11, ix_goto 24),
  (14, ix_aload 0 15),
  (15, ix_getr 0 6 (fun k => k + 1) 18),
  (18, ix_iload 1 19),
  (19, ix_iload 2 20),
  (20, ix_iload 3 21),
  (21, oc_X7_value 24),
  (24, oc_X10_held 27),
  (27, ix_iret)]
set_option maxRecDepth 20000 in
theorem a_X1_settles (l : Launch) : ix_AllS l cX1_settles 4 RX1 3 (some .int) o_X1_settles :=
  .cons (ix_s_aload_n dX1_settles_0 rfl) <|
  .cons (ix_s_getr (j := 0) tu_X1 rfl (by decide) (by decide) tw_127 rfl ts_0_0_r dX1_settles_1) <|
  .cons (oc_X7_isMissing_s (ix_s_callv (t := 6) (k_X7_isMissing l) (by decide) (by decide) tw_319 tw_5 tw_316 tw_317 tw_318 ⟨by decide, by decide, by decide +kernel⟩ (by decide) rfl rfl (fun _ => ⟨_, _, rfl, rfl⟩) dX1_settles_4)) <|
  .cons (ix_s_if_eq dX1_settles_7 (by decide)) <|
  .cons (ix_s_iload_n dX1_settles_10 rfl) <|
  .cons (ix_s_goto dX1_settles_11 (by decide)) <|
  .cons (ix_s_aload_n dX1_settles_14 rfl) <|
  .cons (ix_s_getr (j := 0) tu_X1 rfl (by decide) (by decide) tw_127 rfl ts_0_0_r dX1_settles_15) <|
  .cons (ix_s_iload_n dX1_settles_18 rfl) <|
  .cons (ix_s_iload_n dX1_settles_19 rfl) <|
  .cons (ix_s_iload_n dX1_settles_20 rfl) <|
  .cons (oc_X7_value_s (ix_s_callv (t := 6) (k_X7_value l) (by decide) (by decide) tw_323 tw_5 tw_320 tw_321 tw_322 ⟨by decide, by decide, by decide +kernel⟩ (by decide) rfl rfl (fun _ => ⟨_, _, rfl, rfl⟩) dX1_settles_21)) <|
  .cons (oc_X10_held_s (ix_s_callsN (host := "IndigoBoats") (k_X10_held l) (by decide) (by decide) tw_326 tw_1 (by decide +kernel) tw_325 ⟨by decide, by decide, by decide +kernel⟩ (fun _ => rfl) dX1_settles_24)) <|
  .cons (ix_s_iret dX1_settles_27 rfl) <| .nil
theorem e_X1_settles_0 (Q : ix_R → Prop) (ls : ix_L) (st : List ix_V) (μ : ix_M) : ix_Ev o_X1_settles Q (0, ls, st, μ) = ix_aload 0 1 (ix_Ev o_X1_settles Q) Q ls st μ := ix_Ev.eq (a_X1_settles launch0) rfl ls st μ
theorem e_X1_settles_1 (Q : ix_R → Prop) (ls : ix_L) (st : List ix_V) (μ : ix_M) : ix_Ev o_X1_settles Q (1, ls, st, μ) = ix_getr 0 6 (fun k => k + 1) 4 (ix_Ev o_X1_settles Q) Q ls st μ := ix_Ev.eq (a_X1_settles launch0) rfl ls st μ
theorem e_X1_settles_4 (Q : ix_R → Prop) (ls : ix_L) (st : List ix_V) (μ : ix_M) : ix_Ev o_X1_settles Q (4, ls, st, μ) = oc_X7_isMissing 7 (ix_Ev o_X1_settles Q) Q ls st μ := ix_Ev.eq (a_X1_settles launch0) rfl ls st μ
theorem e_X1_settles_7 (Q : ix_R → Prop) (ls : ix_L) (st : List ix_V) (μ : ix_M) : ix_Ev o_X1_settles Q (7, ls, st, μ) = ix_if (fun x => x = 0) 14 10 (ix_Ev o_X1_settles Q) Q ls st μ := ix_Ev.eq (a_X1_settles launch0) rfl ls st μ
theorem e_X1_settles_10 (Q : ix_R → Prop) (ls : ix_L) (st : List ix_V) (μ : ix_M) : ix_Ev o_X1_settles Q (10, ls, st, μ) = ix_iload 2 11 (ix_Ev o_X1_settles Q) Q ls st μ := ix_Ev.eq (a_X1_settles launch0) rfl ls st μ
theorem e_X1_settles_11 (Q : ix_R → Prop) (ls : ix_L) (st : List ix_V) (μ : ix_M) : ix_Ev o_X1_settles Q (11, ls, st, μ) = ix_goto 24 (ix_Ev o_X1_settles Q) Q ls st μ := ix_Ev.eq (a_X1_settles launch0) rfl ls st μ
theorem e_X1_settles_14 (Q : ix_R → Prop) (ls : ix_L) (st : List ix_V) (μ : ix_M) : ix_Ev o_X1_settles Q (14, ls, st, μ) = ix_aload 0 15 (ix_Ev o_X1_settles Q) Q ls st μ := ix_Ev.eq (a_X1_settles launch0) rfl ls st μ
theorem e_X1_settles_15 (Q : ix_R → Prop) (ls : ix_L) (st : List ix_V) (μ : ix_M) : ix_Ev o_X1_settles Q (15, ls, st, μ) = ix_getr 0 6 (fun k => k + 1) 18 (ix_Ev o_X1_settles Q) Q ls st μ := ix_Ev.eq (a_X1_settles launch0) rfl ls st μ
theorem e_X1_settles_18 (Q : ix_R → Prop) (ls : ix_L) (st : List ix_V) (μ : ix_M) : ix_Ev o_X1_settles Q (18, ls, st, μ) = ix_iload 1 19 (ix_Ev o_X1_settles Q) Q ls st μ := ix_Ev.eq (a_X1_settles launch0) rfl ls st μ
theorem e_X1_settles_19 (Q : ix_R → Prop) (ls : ix_L) (st : List ix_V) (μ : ix_M) : ix_Ev o_X1_settles Q (19, ls, st, μ) = ix_iload 2 20 (ix_Ev o_X1_settles Q) Q ls st μ := ix_Ev.eq (a_X1_settles launch0) rfl ls st μ
theorem e_X1_settles_20 (Q : ix_R → Prop) (ls : ix_L) (st : List ix_V) (μ : ix_M) : ix_Ev o_X1_settles Q (20, ls, st, μ) = ix_iload 3 21 (ix_Ev o_X1_settles Q) Q ls st μ := ix_Ev.eq (a_X1_settles launch0) rfl ls st μ
theorem e_X1_settles_21 (Q : ix_R → Prop) (ls : ix_L) (st : List ix_V) (μ : ix_M) : ix_Ev o_X1_settles Q (21, ls, st, μ) = oc_X7_value 24 (ix_Ev o_X1_settles Q) Q ls st μ := ix_Ev.eq (a_X1_settles launch0) rfl ls st μ
theorem e_X1_settles_24 (Q : ix_R → Prop) (ls : ix_L) (st : List ix_V) (μ : ix_M) : ix_Ev o_X1_settles Q (24, ls, st, μ) = oc_X10_held 27 (ix_Ev o_X1_settles Q) Q ls st μ := ix_Ev.eq (a_X1_settles launch0) rfl ls st μ
theorem e_X1_settles_27 (Q : ix_R → Prop) (ls : ix_L) (st : List ix_V) (μ : ix_M) : ix_Ev o_X1_settles Q (27, ls, st, μ) = ix_iret (ix_Ev o_X1_settles Q) Q ls st μ := ix_Ev.eq (a_X1_settles launch0) rfl ls st μ
theorem r_X1_settles (q : Nat) (a : Int32) (b : Int32) (c : Int32) (μ : ix_M) (Q : ix_R → Prop) (ok_q : q < ix_N ∧ ix_tag q = 0) (hT : T_X1_settles (q, a, b, c) μ Q) : ix_Ev o_X1_settles Q (0, [some (vr 0 q), some (vi a), some (vi b), some (vi c)], [], μ) := by
  simp (decide := true) only [e_X1_settles_0, e_X1_settles_1, e_X1_settles_4, e_X1_settles_7, e_X1_settles_10, e_X1_settles_11, e_X1_settles_14, e_X1_settles_15, e_X1_settles_18, e_X1_settles_19, e_X1_settles_20, e_X1_settles_21, e_X1_settles_24, e_X1_settles_27, vi, vl, vr, oc_X10_held, T_X10_held, oc_X7_isMissing, T_X7_isMissing, oc_X7_value, T_X7_value, ix_push, ix_iload, ix_lload, ix_aload, ix_istore, ix_astore, ix_iinc, ix_bin, ix_div, ix_un, ix_i2l, ix_l2i, ix_lbin, ix_lsh, ix_lcmp, ix_dup, ix_dup2, ix_pop, ix_if, ix_cmp, ix_goto, ix_switch, ix_sw, ix_iret, ix_zret, ix_vret, ix_aret, ix_geti, ix_getr, ix_puti, ix_putz, ix_puts, ix_gets, ix_iald, ix_iast, ix_alen, ix_aald, ix_gval, ix_gcod, ix_bald, ix_blen, ix_sald, ix_nret, ix_math2, ix_math1, ix_acopy, Nat.add_assoc, Int32.reduceLT, Int32.reduceLE, Int32.reduceToNatClampNeg, Int32.reduceSub, Int32.reduceAdd, Nat.reduceAdd, Nat.reduceLeDiff, true_or, or_true, or_false, false_or, not_false_eq_true, not_true_eq_false, false_implies, true_implies, implies_true, and_self, mB_0, mB_01, Classical.not_not, Nat.zero_le, List.getElem?_cons_zero, List.getElem?_cons_succ, List.set_cons_zero, List.set_cons_succ, ix_nl, ix_cs, true_and, and_true, Option.toList_some, Option.toList_none, List.cons_append, List.nil_append]
  obtain ⟨ds, ⟨h1, h2⟩, hQ⟩ := hT
  have hz := h1.size
  refine ⟨fun c1 => ⟨ds, h1, ?_, fun μ' hF => ?_⟩, fun c1 => ?_⟩
  · rcases h2 with h2 | h2
    · exact absurd (hz.mpr h2) c1
    · exact h2
  · have hne : ¬ ds = [] := fun e => c1 (hz.mpr e)
    have := hQ μ' hF
    simp only [lawS, if_neg hne] at this
    exact this
  · have := hQ μ Fx.rf
    simp only [lawS, if_pos (hz.mp c1)] at this
    exact this
theorem k_X1_settles (l : Launch) : ix_Ct l yX1_settles cX1_settles 4 (some .int) 3 sh_X1_settles T_X1_settles := ix_ct (a_X1_settles l) rfl (by decide) (fun _ => Nat.le_of_ble_eq_true rfl) (fun x μ Q hok hT => r_X1_settles x.1 x.2.1 x.2.2.1 x.2.2.2 μ Q (ix_ok_at (hok (vr 0 x.1) (by simp [sh_X1_settles])) (by decide) (by decide)) hT)
theorem mHeld_0 : mHeld 0 = 0 := by decide
def T_X1_loses : Nat × Int32 × Int32 × Int32 → ix_M → (ix_R → Prop) → Prop := fun (q, a, b, c) μ Q => ∃ ds, TxtOk μ (q + 5) ds ∧ ∀ μ', Fx [q + 8] μ μ' → Q (some (vi (lawL ds a b c)), μ')
def sh_X1_loses (x : Nat × Int32 × Int32 × Int32) : List ix_V := [vr 0 x.1, vi x.2.1, vi x.2.2.1, vi x.2.2.2]
theorem mo_X1_loses (x : Nat × Int32 × Int32 × Int32) (μ : ix_M) (Q Q' : ix_R → Prop) (h : ∀ r, Q r → Q' r) (hT : T_X1_loses x μ Q) : T_X1_loses x μ Q' := by
  obtain ⟨a0, a1, a2, a3⟩ := x
  (obtain ⟨ds, h1, h3⟩ := hT; exact ⟨ds, h1, fun μ' z => h _ (h3 μ' z)⟩)
def oc_X1_loses (n : Nat) : ix_Op := fun k _ ls st μ => match st with
  | .inl a3 :: .inl a2 :: .inl a1 :: .inr (.inr (t0, a0)) :: r => t0 = 0 ∧ ix_cs r ≤ 8 ∧ T_X1_loses (a0, a1, a2, a3) μ (fun q => k (n, ls, q.1.toList ++ r, q.2))
  | _ => False
theorem oc_X1_loses_s {l : Launch} {cc : ByteArray} {nL : Nat} {own : String} {d : Nat} {rt : Option FieldType} {pc n : Nat} (h : ix_S l cc nL own d rt pc (ix_call 4 sh_X1_loses T_X1_loses n)) : ix_S l cc nL own d rt pc (oc_X1_loses n) := by
  refine h.by (fun k Q ls st μ h => ?_) (fun k k' Q ls st μ hk h => ?_)
  · unfold oc_X1_loses at h
    split at h
    · rename_i a3 a2 a1 t0 a0 r
      obtain ⟨rfl, h1, h2⟩ := h
      exact ⟨h1, (a0, a1, a2, a3), rfl, _, h2, fun r h => h⟩
    · exact h.elim
  · unfold oc_X1_loses at h ⊢
    split at h
    · obtain ⟨rfl, h1, h2⟩ := h
      exact ⟨rfl, h1, mo_X1_loses _ _ _ _ (fun q hq => hk _ hq) h2⟩
    · exact h.elim
def o_X1_loses : List (Nat × ix_Op) := [
  (0, ix_aload 0 1),
  (1, ix_getr 0 6 (fun k => k + 5) 4),
  (4, oc_X7_isMissing 7),
  (7, ix_if (fun x => x = 0) 23 10),
  (10, ix_iload 3 11),
  (11, ix_if (fun x => x = 0) 21 14),
  (14, ix_iload 1 15),
  (15, oc_X10_held 18),
  (18, ix_goto 22),
  (21, ix_push (vi 0) 22),
  (22, ix_iret),
  (23, ix_aload 0 24),
  (24, ix_getr 0 6 (fun k => k + 5) 27),
  (27, ix_iload 1 28),
  (28, ix_iload 2 29),
  (29, ix_iload 3 30),
  (30, oc_X7_value 33),
  (33, oc_X10_held 36),
  (36, ix_iret)]
set_option maxRecDepth 20000 in
theorem a_X1_loses (l : Launch) : ix_AllS l cX1_loses 4 RX1 3 (some .int) o_X1_loses :=
  .cons (ix_s_aload_n dX1_loses_0 rfl) <|
  .cons (ix_s_getr (j := 1) tu_X1 rfl (by decide) (by decide) tw_128 rfl ts_0_1_r dX1_loses_1) <|
  .cons (oc_X7_isMissing_s (ix_s_callv (t := 6) (k_X7_isMissing l) (by decide) (by decide) tw_319 tw_5 tw_316 tw_317 tw_318 ⟨by decide, by decide, by decide +kernel⟩ (by decide) rfl rfl (fun _ => ⟨_, _, rfl, rfl⟩) dX1_loses_4)) <|
  .cons (ix_s_if_eq dX1_loses_7 (by decide)) <|
  .cons (ix_s_iload_n dX1_loses_10 rfl) <|
  .cons (ix_s_if_eq dX1_loses_11 (by decide)) <|
  .cons (ix_s_iload_n dX1_loses_14 rfl) <|
  .cons (oc_X10_held_s (ix_s_callsN (host := "IndigoBoats") (k_X10_held l) (by decide) (by decide) tw_326 tw_1 (by decide +kernel) tw_325 ⟨by decide, by decide, by decide +kernel⟩ (fun _ => rfl) dX1_loses_15)) <|
  .cons (ix_s_goto dX1_loses_18 (by decide)) <|
  .cons (ix_s_iconst dX1_loses_21 (by decide +kernel)) <|
  .cons (ix_s_iret dX1_loses_22 rfl) <|
  .cons (ix_s_aload_n dX1_loses_23 rfl) <|
  .cons (ix_s_getr (j := 1) tu_X1 rfl (by decide) (by decide) tw_128 rfl ts_0_1_r dX1_loses_24) <|
  .cons (ix_s_iload_n dX1_loses_27 rfl) <|
  .cons (ix_s_iload_n dX1_loses_28 rfl) <|
  .cons (ix_s_iload_n dX1_loses_29 rfl) <|
  .cons (oc_X7_value_s (ix_s_callv (t := 6) (k_X7_value l) (by decide) (by decide) tw_323 tw_5 tw_320 tw_321 tw_322 ⟨by decide, by decide, by decide +kernel⟩ (by decide) rfl rfl (fun _ => ⟨_, _, rfl, rfl⟩) dX1_loses_30)) <|
  .cons (oc_X10_held_s (ix_s_callsN (host := "IndigoBoats") (k_X10_held l) (by decide) (by decide) tw_326 tw_1 (by decide +kernel) tw_325 ⟨by decide, by decide, by decide +kernel⟩ (fun _ => rfl) dX1_loses_33)) <|
  .cons (ix_s_iret dX1_loses_36 rfl) <| .nil
theorem e_X1_loses_0 (Q : ix_R → Prop) (ls : ix_L) (st : List ix_V) (μ : ix_M) : ix_Ev o_X1_loses Q (0, ls, st, μ) = ix_aload 0 1 (ix_Ev o_X1_loses Q) Q ls st μ := ix_Ev.eq (a_X1_loses launch0) rfl ls st μ
theorem e_X1_loses_1 (Q : ix_R → Prop) (ls : ix_L) (st : List ix_V) (μ : ix_M) : ix_Ev o_X1_loses Q (1, ls, st, μ) = ix_getr 0 6 (fun k => k + 5) 4 (ix_Ev o_X1_loses Q) Q ls st μ := ix_Ev.eq (a_X1_loses launch0) rfl ls st μ
theorem e_X1_loses_4 (Q : ix_R → Prop) (ls : ix_L) (st : List ix_V) (μ : ix_M) : ix_Ev o_X1_loses Q (4, ls, st, μ) = oc_X7_isMissing 7 (ix_Ev o_X1_loses Q) Q ls st μ := ix_Ev.eq (a_X1_loses launch0) rfl ls st μ
theorem e_X1_loses_7 (Q : ix_R → Prop) (ls : ix_L) (st : List ix_V) (μ : ix_M) : ix_Ev o_X1_loses Q (7, ls, st, μ) = ix_if (fun x => x = 0) 23 10 (ix_Ev o_X1_loses Q) Q ls st μ := ix_Ev.eq (a_X1_loses launch0) rfl ls st μ
theorem e_X1_loses_10 (Q : ix_R → Prop) (ls : ix_L) (st : List ix_V) (μ : ix_M) : ix_Ev o_X1_loses Q (10, ls, st, μ) = ix_iload 3 11 (ix_Ev o_X1_loses Q) Q ls st μ := ix_Ev.eq (a_X1_loses launch0) rfl ls st μ
theorem e_X1_loses_11 (Q : ix_R → Prop) (ls : ix_L) (st : List ix_V) (μ : ix_M) : ix_Ev o_X1_loses Q (11, ls, st, μ) = ix_if (fun x => x = 0) 21 14 (ix_Ev o_X1_loses Q) Q ls st μ := ix_Ev.eq (a_X1_loses launch0) rfl ls st μ
theorem e_X1_loses_14 (Q : ix_R → Prop) (ls : ix_L) (st : List ix_V) (μ : ix_M) : ix_Ev o_X1_loses Q (14, ls, st, μ) = ix_iload 1 15 (ix_Ev o_X1_loses Q) Q ls st μ := ix_Ev.eq (a_X1_loses launch0) rfl ls st μ
theorem e_X1_loses_15 (Q : ix_R → Prop) (ls : ix_L) (st : List ix_V) (μ : ix_M) : ix_Ev o_X1_loses Q (15, ls, st, μ) = oc_X10_held 18 (ix_Ev o_X1_loses Q) Q ls st μ := ix_Ev.eq (a_X1_loses launch0) rfl ls st μ
theorem e_X1_loses_18 (Q : ix_R → Prop) (ls : ix_L) (st : List ix_V) (μ : ix_M) : ix_Ev o_X1_loses Q (18, ls, st, μ) = ix_goto 22 (ix_Ev o_X1_loses Q) Q ls st μ := ix_Ev.eq (a_X1_loses launch0) rfl ls st μ
theorem e_X1_loses_21 (Q : ix_R → Prop) (ls : ix_L) (st : List ix_V) (μ : ix_M) : ix_Ev o_X1_loses Q (21, ls, st, μ) = ix_push (vi 0) 22 (ix_Ev o_X1_loses Q) Q ls st μ := ix_Ev.eq (a_X1_loses launch0) rfl ls st μ
theorem e_X1_loses_22 (Q : ix_R → Prop) (ls : ix_L) (st : List ix_V) (μ : ix_M) : ix_Ev o_X1_loses Q (22, ls, st, μ) = ix_iret (ix_Ev o_X1_loses Q) Q ls st μ := ix_Ev.eq (a_X1_loses launch0) rfl ls st μ
theorem e_X1_loses_23 (Q : ix_R → Prop) (ls : ix_L) (st : List ix_V) (μ : ix_M) : ix_Ev o_X1_loses Q (23, ls, st, μ) = ix_aload 0 24 (ix_Ev o_X1_loses Q) Q ls st μ := ix_Ev.eq (a_X1_loses launch0) rfl ls st μ
theorem e_X1_loses_24 (Q : ix_R → Prop) (ls : ix_L) (st : List ix_V) (μ : ix_M) : ix_Ev o_X1_loses Q (24, ls, st, μ) = ix_getr 0 6 (fun k => k + 5) 27 (ix_Ev o_X1_loses Q) Q ls st μ := ix_Ev.eq (a_X1_loses launch0) rfl ls st μ
theorem e_X1_loses_27 (Q : ix_R → Prop) (ls : ix_L) (st : List ix_V) (μ : ix_M) : ix_Ev o_X1_loses Q (27, ls, st, μ) = ix_iload 1 28 (ix_Ev o_X1_loses Q) Q ls st μ := ix_Ev.eq (a_X1_loses launch0) rfl ls st μ
theorem e_X1_loses_28 (Q : ix_R → Prop) (ls : ix_L) (st : List ix_V) (μ : ix_M) : ix_Ev o_X1_loses Q (28, ls, st, μ) = ix_iload 2 29 (ix_Ev o_X1_loses Q) Q ls st μ := ix_Ev.eq (a_X1_loses launch0) rfl ls st μ
theorem e_X1_loses_29 (Q : ix_R → Prop) (ls : ix_L) (st : List ix_V) (μ : ix_M) : ix_Ev o_X1_loses Q (29, ls, st, μ) = ix_iload 3 30 (ix_Ev o_X1_loses Q) Q ls st μ := ix_Ev.eq (a_X1_loses launch0) rfl ls st μ
theorem e_X1_loses_30 (Q : ix_R → Prop) (ls : ix_L) (st : List ix_V) (μ : ix_M) : ix_Ev o_X1_loses Q (30, ls, st, μ) = oc_X7_value 33 (ix_Ev o_X1_loses Q) Q ls st μ := ix_Ev.eq (a_X1_loses launch0) rfl ls st μ
theorem e_X1_loses_33 (Q : ix_R → Prop) (ls : ix_L) (st : List ix_V) (μ : ix_M) : ix_Ev o_X1_loses Q (33, ls, st, μ) = oc_X10_held 36 (ix_Ev o_X1_loses Q) Q ls st μ := ix_Ev.eq (a_X1_loses launch0) rfl ls st μ
theorem e_X1_loses_36 (Q : ix_R → Prop) (ls : ix_L) (st : List ix_V) (μ : ix_M) : ix_Ev o_X1_loses Q (36, ls, st, μ) = ix_iret (ix_Ev o_X1_loses Q) Q ls st μ := ix_Ev.eq (a_X1_loses launch0) rfl ls st μ
theorem r_X1_loses (q : Nat) (a : Int32) (b : Int32) (c : Int32) (μ : ix_M) (Q : ix_R → Prop) (ok_q : q < ix_N ∧ ix_tag q = 0) (hT : T_X1_loses (q, a, b, c) μ Q) : ix_Ev o_X1_loses Q (0, [some (vr 0 q), some (vi a), some (vi b), some (vi c)], [], μ) := by
  simp (decide := true) only [e_X1_loses_0, e_X1_loses_1, e_X1_loses_4, e_X1_loses_7, e_X1_loses_10, e_X1_loses_11, e_X1_loses_14, e_X1_loses_15, e_X1_loses_18, e_X1_loses_21, e_X1_loses_22, e_X1_loses_23, e_X1_loses_24, e_X1_loses_27, e_X1_loses_28, e_X1_loses_29, e_X1_loses_30, e_X1_loses_33, e_X1_loses_36, vi, vl, vr, oc_X10_held, T_X10_held, oc_X7_isMissing, T_X7_isMissing, oc_X7_value, T_X7_value, ix_push, ix_iload, ix_lload, ix_aload, ix_istore, ix_astore, ix_iinc, ix_bin, ix_div, ix_un, ix_i2l, ix_l2i, ix_lbin, ix_lsh, ix_lcmp, ix_dup, ix_dup2, ix_pop, ix_if, ix_cmp, ix_goto, ix_switch, ix_sw, ix_iret, ix_zret, ix_vret, ix_aret, ix_geti, ix_getr, ix_puti, ix_putz, ix_puts, ix_gets, ix_iald, ix_iast, ix_alen, ix_aald, ix_gval, ix_gcod, ix_bald, ix_blen, ix_sald, ix_nret, ix_math2, ix_math1, ix_acopy, Nat.add_assoc, Int32.reduceLT, Int32.reduceLE, Int32.reduceToNatClampNeg, Int32.reduceSub, Int32.reduceAdd, Nat.reduceAdd, Nat.reduceLeDiff, true_or, or_true, or_false, false_or, not_false_eq_true, not_true_eq_false, false_implies, true_implies, implies_true, and_self, mB_0, mB_01, Classical.not_not, Nat.zero_le, List.getElem?_cons_zero, List.getElem?_cons_succ, List.set_cons_zero, List.set_cons_succ, ix_nl, ix_cs, true_and, and_true, Option.toList_some, Option.toList_none, List.cons_append, List.nil_append]
  obtain ⟨ds, ⟨h1, h2⟩, hQ⟩ := hT
  have hz := h1.size
  refine ⟨fun c1 => ⟨ds, h1, ?_, fun μ' hF => ?_⟩, fun c1 => ⟨fun c2 => ?_, fun c2 => ?_⟩⟩
  · rcases h2 with h2 | h2
    · exact absurd (hz.mpr h2) c1
    · exact h2
  · have hne : ¬ ds = [] := fun e => c1 (hz.mpr e)
    have := hQ μ' hF
    simp only [lawL, if_neg hne] at this
    exact this
  · have := hQ μ Fx.rf
    simp only [lawL, if_pos (hz.mp c1), if_pos c2, mHeld_0] at this
    exact this
  · have := hQ μ Fx.rf
    simp only [lawL, if_pos (hz.mp c1), if_neg c2] at this
    exact this
theorem k_X1_loses (l : Launch) : ix_Ct l yX1_loses cX1_loses 4 (some .int) 3 sh_X1_loses T_X1_loses := ix_ct (a_X1_loses l) rfl (by decide) (fun _ => Nat.le_of_ble_eq_true rfl) (fun x μ Q hok hT => r_X1_loses x.1 x.2.1 x.2.2.1 x.2.2.2 μ Q (ix_ok_at (hok (vr 0 x.1) (by simp [sh_X1_loses])) (by decide) (by decide)) hT)
theorem ok_water : ∀ w, w < ix_N → ix_tag w = 8 → (w = 2 ∨ w = 25 ∨ w = 48 ∨ w = 56 ∨ w = 64 ∨ w = 72 ∨ w = 80) ∧ ix_len (w + 1) = 16 ∧ ix_len (w + 2) = 16 ∧ ix_len (w + 3) = 6 ∧ ix_len (w + 4) = 8 ∧ ix_len (w + 5) = 8 ∧ ix_len (w + 6) = 8 ∧ ix_len (w + 7) = 8 := by decide +kernel
theorem ok_laws : ∀ q, q < ix_N → ix_tag q = 0 → q = 10 ∨ q = 33 := by decide +kernel
def rem (x y : Int32) : Int32 := x - x / y * y
def mLight (mi dk : Int32) : Int32 := if dk ≤ rem mi 20 then 1 else 0
def T_X9_light : Nat → ix_M → (ix_R → Prop) → Prop := fun w μ Q => Q (some (vi (mLight (μ w 8) (μ w 9))), μ)
def sh_X9_light (x : Nat) : List ix_V := [vr 8 x]
theorem mo_X9_light (x : Nat) (μ : ix_M) (Q Q' : ix_R → Prop) (h : ∀ r, Q r → Q' r) (hT : T_X9_light x μ Q) : T_X9_light x μ Q' := by
  first | exact h _ hT | exact ⟨hT.1, h _ hT.2⟩ | exact fun r hr => h _ (hT r hr) | exact ⟨hT.1, fun r hr => h _ (hT.2 r hr)⟩ | exact ⟨hT.1, hT.2.1, fun r hr => h _ (hT.2.2 r hr)⟩
def oc_X9_light (n : Nat) : ix_Op := fun k _ ls st μ => match st with
  | .inr (.inr (t0, a0)) :: r => t0 = 8 ∧ ix_cs r ≤ 8 ∧ T_X9_light a0 μ (fun q => k (n, ls, q.1.toList ++ r, q.2))
  | _ => False
theorem oc_X9_light_s {l : Launch} {cc : ByteArray} {nL : Nat} {own : String} {d : Nat} {rt : Option FieldType} {pc n : Nat} (h : ix_S l cc nL own d rt pc (ix_call 1 sh_X9_light T_X9_light n)) : ix_S l cc nL own d rt pc (oc_X9_light n) := by
  refine h.by (fun k Q ls st μ h => ?_) (fun k k' Q ls st μ hk h => ?_)
  · unfold oc_X9_light at h
    split at h
    · rename_i t0 a0 r
      obtain ⟨rfl, h1, h2⟩ := h
      exact ⟨h1, a0, rfl, _, h2, fun r h => h⟩
    · exact h.elim
  · unfold oc_X9_light at h ⊢
    split at h
    · obtain ⟨rfl, h1, h2⟩ := h
      exact ⟨rfl, h1, mo_X9_light _ _ _ _ (fun q hq => hk _ hq) h2⟩
    · exact h.elim
def o_X9_light : List (Nat × ix_Op) := [
  (0, ix_aload 0 1),
  (1, ix_geti 8 8 4),
  (4, ix_push (vi 20) 6),
  (6, ix_div (fun x y => x - x / y * y) 7),
  (7, ix_aload 0 8),
  (8, ix_geti 8 9 11),
  (11, ix_cmp (fun x y => y ≤ x) 18 14),
  (14, ix_push (vi 0) 15),
  (15, ix_goto 19),
  (18, ix_push (vi 1) 19),
  (19, ix_iret)]
set_option maxRecDepth 20000 in
theorem a_X9_light (l : Launch) : ix_AllS l cX9_light 1 RX9 1 (some .int) o_X9_light :=
  .cons (ix_s_aload_n dX9_light_0 rfl) <|
  .cons (ix_s_geti (j := 8) tu_X9 rfl (by decide) (by decide) tw_58 rfl ts_8_8_i dX9_light_1) <|
  .cons (ix_s_bipush dX9_light_4 (by decide +kernel)) <|
  .cons (ix_s_irem dX9_light_6) <|
  .cons (ix_s_aload_n dX9_light_7 rfl) <|
  .cons (ix_s_geti (j := 9) tu_X9 rfl (by decide) (by decide) tw_60 rfl ts_8_9_i dX9_light_8) <|
  .cons (ix_s_cmp_ge dX9_light_11 (by decide)) <|
  .cons (ix_s_iconst dX9_light_14 (by decide +kernel)) <|
  .cons (ix_s_goto dX9_light_15 (by decide)) <|
  .cons (ix_s_iconst dX9_light_18 (by decide +kernel)) <|
  .cons (ix_s_iret dX9_light_19 rfl) <| .nil
theorem e_X9_light_0 (Q : ix_R → Prop) (ls : ix_L) (st : List ix_V) (μ : ix_M) : ix_Ev o_X9_light Q (0, ls, st, μ) = ix_aload 0 1 (ix_Ev o_X9_light Q) Q ls st μ := ix_Ev.eq (a_X9_light launch0) rfl ls st μ
theorem e_X9_light_1 (Q : ix_R → Prop) (ls : ix_L) (st : List ix_V) (μ : ix_M) : ix_Ev o_X9_light Q (1, ls, st, μ) = ix_geti 8 8 4 (ix_Ev o_X9_light Q) Q ls st μ := ix_Ev.eq (a_X9_light launch0) rfl ls st μ
theorem e_X9_light_4 (Q : ix_R → Prop) (ls : ix_L) (st : List ix_V) (μ : ix_M) : ix_Ev o_X9_light Q (4, ls, st, μ) = ix_push (vi 20) 6 (ix_Ev o_X9_light Q) Q ls st μ := ix_Ev.eq (a_X9_light launch0) rfl ls st μ
theorem e_X9_light_6 (Q : ix_R → Prop) (ls : ix_L) (st : List ix_V) (μ : ix_M) : ix_Ev o_X9_light Q (6, ls, st, μ) = ix_div (fun x y => x - x / y * y) 7 (ix_Ev o_X9_light Q) Q ls st μ := ix_Ev.eq (a_X9_light launch0) rfl ls st μ
theorem e_X9_light_7 (Q : ix_R → Prop) (ls : ix_L) (st : List ix_V) (μ : ix_M) : ix_Ev o_X9_light Q (7, ls, st, μ) = ix_aload 0 8 (ix_Ev o_X9_light Q) Q ls st μ := ix_Ev.eq (a_X9_light launch0) rfl ls st μ
theorem e_X9_light_8 (Q : ix_R → Prop) (ls : ix_L) (st : List ix_V) (μ : ix_M) : ix_Ev o_X9_light Q (8, ls, st, μ) = ix_geti 8 9 11 (ix_Ev o_X9_light Q) Q ls st μ := ix_Ev.eq (a_X9_light launch0) rfl ls st μ
theorem e_X9_light_11 (Q : ix_R → Prop) (ls : ix_L) (st : List ix_V) (μ : ix_M) : ix_Ev o_X9_light Q (11, ls, st, μ) = ix_cmp (fun x y => y ≤ x) 18 14 (ix_Ev o_X9_light Q) Q ls st μ := ix_Ev.eq (a_X9_light launch0) rfl ls st μ
theorem e_X9_light_14 (Q : ix_R → Prop) (ls : ix_L) (st : List ix_V) (μ : ix_M) : ix_Ev o_X9_light Q (14, ls, st, μ) = ix_push (vi 0) 15 (ix_Ev o_X9_light Q) Q ls st μ := ix_Ev.eq (a_X9_light launch0) rfl ls st μ
theorem e_X9_light_15 (Q : ix_R → Prop) (ls : ix_L) (st : List ix_V) (μ : ix_M) : ix_Ev o_X9_light Q (15, ls, st, μ) = ix_goto 19 (ix_Ev o_X9_light Q) Q ls st μ := ix_Ev.eq (a_X9_light launch0) rfl ls st μ
theorem e_X9_light_18 (Q : ix_R → Prop) (ls : ix_L) (st : List ix_V) (μ : ix_M) : ix_Ev o_X9_light Q (18, ls, st, μ) = ix_push (vi 1) 19 (ix_Ev o_X9_light Q) Q ls st μ := ix_Ev.eq (a_X9_light launch0) rfl ls st μ
theorem e_X9_light_19 (Q : ix_R → Prop) (ls : ix_L) (st : List ix_V) (μ : ix_M) : ix_Ev o_X9_light Q (19, ls, st, μ) = ix_iret (ix_Ev o_X9_light Q) Q ls st μ := ix_Ev.eq (a_X9_light launch0) rfl ls st μ
theorem r_X9_light (w : Nat) (μ : ix_M) (Q : ix_R → Prop) (ok_w : w < ix_N ∧ ix_tag w = 8) (hT : T_X9_light w μ Q) : ix_Ev o_X9_light Q (0, [some (vr 8 w)], [], μ) := by
  simp (decide := true) only [e_X9_light_0, e_X9_light_1, e_X9_light_4, e_X9_light_6, e_X9_light_7, e_X9_light_8, e_X9_light_11, e_X9_light_14, e_X9_light_15, e_X9_light_18, e_X9_light_19, vi, vl, vr, ix_push, ix_iload, ix_lload, ix_aload, ix_istore, ix_astore, ix_iinc, ix_bin, ix_div, ix_un, ix_i2l, ix_l2i, ix_lbin, ix_lsh, ix_lcmp, ix_dup, ix_dup2, ix_pop, ix_if, ix_cmp, ix_goto, ix_switch, ix_sw, ix_iret, ix_zret, ix_vret, ix_aret, ix_geti, ix_getr, ix_puti, ix_putz, ix_puts, ix_gets, ix_iald, ix_iast, ix_alen, ix_aald, ix_gval, ix_gcod, ix_bald, ix_blen, ix_sald, ix_nret, ix_math2, ix_math1, ix_acopy, Nat.add_assoc, Int32.reduceLT, Int32.reduceLE, Int32.reduceToNatClampNeg, Int32.reduceSub, Int32.reduceAdd, Nat.reduceAdd, Nat.reduceLeDiff, true_or, or_true, or_false, false_or, not_false_eq_true, not_true_eq_false, false_implies, true_implies, implies_true, and_self, mB_0, mB_01, Classical.not_not, Nat.zero_le, List.getElem?_cons_zero, List.getElem?_cons_succ, List.set_cons_zero, List.set_cons_succ, ix_nl, ix_cs, true_and, and_true, Option.toList_some, Option.toList_none, List.cons_append, List.nil_append]
  simp only [T_X9_light, mLight, rem, vi, vl, vr] at hT
  repeat' (first | refine And.intro ?_ ?_ | intro _)
  all_goals (first | exact hT | (simp only [*, if_true, if_false, not_true_eq_false, not_false_eq_true, and_true, true_and, and_false, false_and, or_true, true_or, or_false, false_or, and_self, or_self] at hT; exact hT) | (simp only [← Int32.not_lt, Classical.not_not] at *; simp only [*, if_true, if_false, not_true_eq_false, not_false_eq_true, and_true, true_and, and_false, false_and, or_true, true_or, or_false, false_or, and_self, or_self] at hT; exact hT) | (simp_all; done))
theorem k_X9_light (l : Launch) : ix_Ct l yX9_light cX9_light 1 (some .int) 1 sh_X9_light T_X9_light := ix_ct (a_X9_light l) rfl (by decide) (fun _ => Nat.le_of_ble_eq_true rfl) (fun x μ Q hok hT => r_X9_light x μ Q (ix_ok_at (hok (vr 8 x) (by simp [sh_X9_light])) (by decide) (by decide)) hT)
def T_X9_place : Nat → ix_M → (ix_R → Prop) → Prop := fun w μ Q => Q (some (vi (rem (μ w 8) 6)), μ)
def sh_X9_place (x : Nat) : List ix_V := [vr 8 x]
theorem mo_X9_place (x : Nat) (μ : ix_M) (Q Q' : ix_R → Prop) (h : ∀ r, Q r → Q' r) (hT : T_X9_place x μ Q) : T_X9_place x μ Q' := by
  first | exact h _ hT | exact ⟨hT.1, h _ hT.2⟩ | exact fun r hr => h _ (hT r hr) | exact ⟨hT.1, fun r hr => h _ (hT.2 r hr)⟩ | exact ⟨hT.1, hT.2.1, fun r hr => h _ (hT.2.2 r hr)⟩
def oc_X9_place (n : Nat) : ix_Op := fun k _ ls st μ => match st with
  | .inr (.inr (t0, a0)) :: r => t0 = 8 ∧ ix_cs r ≤ 8 ∧ T_X9_place a0 μ (fun q => k (n, ls, q.1.toList ++ r, q.2))
  | _ => False
theorem oc_X9_place_s {l : Launch} {cc : ByteArray} {nL : Nat} {own : String} {d : Nat} {rt : Option FieldType} {pc n : Nat} (h : ix_S l cc nL own d rt pc (ix_call 1 sh_X9_place T_X9_place n)) : ix_S l cc nL own d rt pc (oc_X9_place n) := by
  refine h.by (fun k Q ls st μ h => ?_) (fun k k' Q ls st μ hk h => ?_)
  · unfold oc_X9_place at h
    split at h
    · rename_i t0 a0 r
      obtain ⟨rfl, h1, h2⟩ := h
      exact ⟨h1, a0, rfl, _, h2, fun r h => h⟩
    · exact h.elim
  · unfold oc_X9_place at h ⊢
    split at h
    · obtain ⟨rfl, h1, h2⟩ := h
      exact ⟨rfl, h1, mo_X9_place _ _ _ _ (fun q hq => hk _ hq) h2⟩
    · exact h.elim
def o_X9_place : List (Nat × ix_Op) := [
  (0, ix_aload 0 1),
  (1, ix_geti 8 8 4),
  (4, ix_push (vi 6) 6),
  (6, ix_div (fun x y => x - x / y * y) 7),
  (7, ix_iret)]
set_option maxRecDepth 20000 in
theorem a_X9_place (l : Launch) : ix_AllS l cX9_place 1 RX9 1 (some .int) o_X9_place :=
  .cons (ix_s_aload_n dX9_place_0 rfl) <|
  .cons (ix_s_geti (j := 8) tu_X9 rfl (by decide) (by decide) tw_58 rfl ts_8_8_i dX9_place_1) <|
  .cons (ix_s_bipush dX9_place_4 (by decide +kernel)) <|
  .cons (ix_s_irem dX9_place_6) <|
  .cons (ix_s_iret dX9_place_7 rfl) <| .nil
theorem e_X9_place_0 (Q : ix_R → Prop) (ls : ix_L) (st : List ix_V) (μ : ix_M) : ix_Ev o_X9_place Q (0, ls, st, μ) = ix_aload 0 1 (ix_Ev o_X9_place Q) Q ls st μ := ix_Ev.eq (a_X9_place launch0) rfl ls st μ
theorem e_X9_place_1 (Q : ix_R → Prop) (ls : ix_L) (st : List ix_V) (μ : ix_M) : ix_Ev o_X9_place Q (1, ls, st, μ) = ix_geti 8 8 4 (ix_Ev o_X9_place Q) Q ls st μ := ix_Ev.eq (a_X9_place launch0) rfl ls st μ
theorem e_X9_place_4 (Q : ix_R → Prop) (ls : ix_L) (st : List ix_V) (μ : ix_M) : ix_Ev o_X9_place Q (4, ls, st, μ) = ix_push (vi 6) 6 (ix_Ev o_X9_place Q) Q ls st μ := ix_Ev.eq (a_X9_place launch0) rfl ls st μ
theorem e_X9_place_6 (Q : ix_R → Prop) (ls : ix_L) (st : List ix_V) (μ : ix_M) : ix_Ev o_X9_place Q (6, ls, st, μ) = ix_div (fun x y => x - x / y * y) 7 (ix_Ev o_X9_place Q) Q ls st μ := ix_Ev.eq (a_X9_place launch0) rfl ls st μ
theorem e_X9_place_7 (Q : ix_R → Prop) (ls : ix_L) (st : List ix_V) (μ : ix_M) : ix_Ev o_X9_place Q (7, ls, st, μ) = ix_iret (ix_Ev o_X9_place Q) Q ls st μ := ix_Ev.eq (a_X9_place launch0) rfl ls st μ
theorem r_X9_place (w : Nat) (μ : ix_M) (Q : ix_R → Prop) (ok_w : w < ix_N ∧ ix_tag w = 8) (hT : T_X9_place w μ Q) : ix_Ev o_X9_place Q (0, [some (vr 8 w)], [], μ) := by
  simp (decide := true) only [e_X9_place_0, e_X9_place_1, e_X9_place_4, e_X9_place_6, e_X9_place_7, vi, vl, vr, ix_push, ix_iload, ix_lload, ix_aload, ix_istore, ix_astore, ix_iinc, ix_bin, ix_div, ix_un, ix_i2l, ix_l2i, ix_lbin, ix_lsh, ix_lcmp, ix_dup, ix_dup2, ix_pop, ix_if, ix_cmp, ix_goto, ix_switch, ix_sw, ix_iret, ix_zret, ix_vret, ix_aret, ix_geti, ix_getr, ix_puti, ix_putz, ix_puts, ix_gets, ix_iald, ix_iast, ix_alen, ix_aald, ix_gval, ix_gcod, ix_bald, ix_blen, ix_sald, ix_nret, ix_math2, ix_math1, ix_acopy, Nat.add_assoc, Int32.reduceLT, Int32.reduceLE, Int32.reduceToNatClampNeg, Int32.reduceSub, Int32.reduceAdd, Nat.reduceAdd, Nat.reduceLeDiff, true_or, or_true, or_false, false_or, not_false_eq_true, not_true_eq_false, false_implies, true_implies, implies_true, and_self, mB_0, mB_01, Classical.not_not, Nat.zero_le, List.getElem?_cons_zero, List.getElem?_cons_succ, List.set_cons_zero, List.set_cons_succ, ix_nl, ix_cs, true_and, and_true, Option.toList_some, Option.toList_none, List.cons_append, List.nil_append]
  exact hT
theorem k_X9_place (l : Launch) : ix_Ct l yX9_place cX9_place 1 (some .int) 1 sh_X9_place T_X9_place := ix_ct (a_X9_place l) rfl (by decide) (fun _ => Nat.le_of_ble_eq_true rfl) (fun x μ Q hok hT => r_X9_place x μ Q (ix_ok_at (hok (vr 8 x) (by simp [sh_X9_place])) (by decide) (by decide)) hT)
def T_X9_settlesOn : Nat × Int32 × Nat → ix_M → (ix_R → Prop) → Prop := fun (w, c, q) μ Q => vp_in c 16 ∧ ∃ ds, TxtOk μ (q + 1) ds ∧ ∀ μ', Fx [q + 4] μ μ' → Q (some (vi (lawS ds (μ (w + 2) c.toNatClampNeg) (μ (w + 1) c.toNatClampNeg) (rem (μ w 8) 20))), μ')
def sh_X9_settlesOn (x : Nat × Int32 × Nat) : List ix_V := [vr 8 x.1, vi x.2.1, vr 0 x.2.2]
theorem mo_X9_settlesOn (x : Nat × Int32 × Nat) (μ : ix_M) (Q Q' : ix_R → Prop) (h : ∀ r, Q r → Q' r) (hT : T_X9_settlesOn x μ Q) : T_X9_settlesOn x μ Q' := by
  obtain ⟨a0, a1, a2⟩ := x
  (obtain ⟨h0, ds, h1, h3⟩ := hT; exact ⟨h0, ds, h1, fun μ' z => h _ (h3 μ' z)⟩)
def oc_X9_settlesOn (n : Nat) : ix_Op := fun k _ ls st μ => match st with
  | .inr (.inr (t2, a2)) :: .inl a1 :: .inr (.inr (t0, a0)) :: r => t0 = 8 ∧ t2 = 0 ∧ ix_cs r ≤ 8 ∧ T_X9_settlesOn (a0, a1, a2) μ (fun q => k (n, ls, q.1.toList ++ r, q.2))
  | _ => False
theorem oc_X9_settlesOn_s {l : Launch} {cc : ByteArray} {nL : Nat} {own : String} {d : Nat} {rt : Option FieldType} {pc n : Nat} (h : ix_S l cc nL own d rt pc (ix_call 3 sh_X9_settlesOn T_X9_settlesOn n)) : ix_S l cc nL own d rt pc (oc_X9_settlesOn n) := by
  refine h.by (fun k Q ls st μ h => ?_) (fun k k' Q ls st μ hk h => ?_)
  · unfold oc_X9_settlesOn at h
    split at h
    · rename_i t2 a2 a1 t0 a0 r
      obtain ⟨rfl, rfl, h1, h2⟩ := h
      exact ⟨h1, (a0, a1, a2), rfl, _, h2, fun r h => h⟩
    · exact h.elim
  · unfold oc_X9_settlesOn at h ⊢
    split at h
    · obtain ⟨rfl, rfl, h1, h2⟩ := h
      exact ⟨rfl, rfl, h1, mo_X9_settlesOn _ _ _ _ (fun q hq => hk _ hq) h2⟩
    · exact h.elim
def o_X9_settlesOn : List (Nat × ix_Op) := [
  (0, ix_aload 2 1),
  (1, ix_aload 0 2),
  (2, ix_getr 8 20 (fun k => k + 2) 5),
  (5, ix_iload 1 6),
  (6, ix_iald 7),
  (7, ix_aload 0 8),
  (8, ix_getr 8 20 (fun k => k + 1) 11),
  (11, ix_iload 1 12),
  (12, ix_iald 13),
  (13, ix_aload 0 14),
  (14, ix_geti 8 8 17),
  (17, ix_push (vi 20) 19),
  (19, ix_div (fun x y => x - x / y * y) 20),
  (20, oc_X1_settles 23),
  (23, ix_iret)]
set_option maxRecDepth 20000 in
theorem a_X9_settlesOn (l : Launch) : ix_AllS l cX9_settlesOn 3 RX9 4 (some .int) o_X9_settlesOn :=
  .cons (ix_s_aload_n dX9_settlesOn_0 rfl) <|
  .cons (ix_s_aload_n dX9_settlesOn_1 rfl) <|
  .cons (ix_s_getr (j := 1) tu_X9 rfl (by decide) (by decide) tw_42 rfl ts_8_1_r dX9_settlesOn_2) <|
  .cons (ix_s_iload_n dX9_settlesOn_5 rfl) <|
  .cons (ix_s_iald dX9_settlesOn_6) <|
  .cons (ix_s_aload_n dX9_settlesOn_7 rfl) <|
  .cons (ix_s_getr (j := 0) tu_X9 rfl (by decide) (by decide) tw_40 rfl ts_8_0_r dX9_settlesOn_8) <|
  .cons (ix_s_iload_n dX9_settlesOn_11 rfl) <|
  .cons (ix_s_iald dX9_settlesOn_12) <|
  .cons (ix_s_aload_n dX9_settlesOn_13 rfl) <|
  .cons (ix_s_geti (j := 8) tu_X9 rfl (by decide) (by decide) tw_58 rfl ts_8_8_i dX9_settlesOn_14) <|
  .cons (ix_s_bipush dX9_settlesOn_17 (by decide +kernel)) <|
  .cons (ix_s_irem dX9_settlesOn_19) <|
  .cons (oc_X1_settles_s (ix_s_callv (t := 0) (k_X1_settles l) (by decide) (by decide) tw_315 tw_4 tw_312 tw_313 tw_314 ⟨by decide, by decide, by decide +kernel⟩ (by decide) rfl rfl (fun _ => ⟨_, _, rfl, rfl⟩) dX9_settlesOn_20)) <|
  .cons (ix_s_iret dX9_settlesOn_23 rfl) <| .nil
theorem e_X9_settlesOn_0 (Q : ix_R → Prop) (ls : ix_L) (st : List ix_V) (μ : ix_M) : ix_Ev o_X9_settlesOn Q (0, ls, st, μ) = ix_aload 2 1 (ix_Ev o_X9_settlesOn Q) Q ls st μ := ix_Ev.eq (a_X9_settlesOn launch0) rfl ls st μ
theorem e_X9_settlesOn_1 (Q : ix_R → Prop) (ls : ix_L) (st : List ix_V) (μ : ix_M) : ix_Ev o_X9_settlesOn Q (1, ls, st, μ) = ix_aload 0 2 (ix_Ev o_X9_settlesOn Q) Q ls st μ := ix_Ev.eq (a_X9_settlesOn launch0) rfl ls st μ
theorem e_X9_settlesOn_2 (Q : ix_R → Prop) (ls : ix_L) (st : List ix_V) (μ : ix_M) : ix_Ev o_X9_settlesOn Q (2, ls, st, μ) = ix_getr 8 20 (fun k => k + 2) 5 (ix_Ev o_X9_settlesOn Q) Q ls st μ := ix_Ev.eq (a_X9_settlesOn launch0) rfl ls st μ
theorem e_X9_settlesOn_5 (Q : ix_R → Prop) (ls : ix_L) (st : List ix_V) (μ : ix_M) : ix_Ev o_X9_settlesOn Q (5, ls, st, μ) = ix_iload 1 6 (ix_Ev o_X9_settlesOn Q) Q ls st μ := ix_Ev.eq (a_X9_settlesOn launch0) rfl ls st μ
theorem e_X9_settlesOn_6 (Q : ix_R → Prop) (ls : ix_L) (st : List ix_V) (μ : ix_M) : ix_Ev o_X9_settlesOn Q (6, ls, st, μ) = ix_iald 7 (ix_Ev o_X9_settlesOn Q) Q ls st μ := ix_Ev.eq (a_X9_settlesOn launch0) rfl ls st μ
theorem e_X9_settlesOn_7 (Q : ix_R → Prop) (ls : ix_L) (st : List ix_V) (μ : ix_M) : ix_Ev o_X9_settlesOn Q (7, ls, st, μ) = ix_aload 0 8 (ix_Ev o_X9_settlesOn Q) Q ls st μ := ix_Ev.eq (a_X9_settlesOn launch0) rfl ls st μ
theorem e_X9_settlesOn_8 (Q : ix_R → Prop) (ls : ix_L) (st : List ix_V) (μ : ix_M) : ix_Ev o_X9_settlesOn Q (8, ls, st, μ) = ix_getr 8 20 (fun k => k + 1) 11 (ix_Ev o_X9_settlesOn Q) Q ls st μ := ix_Ev.eq (a_X9_settlesOn launch0) rfl ls st μ
theorem e_X9_settlesOn_11 (Q : ix_R → Prop) (ls : ix_L) (st : List ix_V) (μ : ix_M) : ix_Ev o_X9_settlesOn Q (11, ls, st, μ) = ix_iload 1 12 (ix_Ev o_X9_settlesOn Q) Q ls st μ := ix_Ev.eq (a_X9_settlesOn launch0) rfl ls st μ
theorem e_X9_settlesOn_12 (Q : ix_R → Prop) (ls : ix_L) (st : List ix_V) (μ : ix_M) : ix_Ev o_X9_settlesOn Q (12, ls, st, μ) = ix_iald 13 (ix_Ev o_X9_settlesOn Q) Q ls st μ := ix_Ev.eq (a_X9_settlesOn launch0) rfl ls st μ
theorem e_X9_settlesOn_13 (Q : ix_R → Prop) (ls : ix_L) (st : List ix_V) (μ : ix_M) : ix_Ev o_X9_settlesOn Q (13, ls, st, μ) = ix_aload 0 14 (ix_Ev o_X9_settlesOn Q) Q ls st μ := ix_Ev.eq (a_X9_settlesOn launch0) rfl ls st μ
theorem e_X9_settlesOn_14 (Q : ix_R → Prop) (ls : ix_L) (st : List ix_V) (μ : ix_M) : ix_Ev o_X9_settlesOn Q (14, ls, st, μ) = ix_geti 8 8 17 (ix_Ev o_X9_settlesOn Q) Q ls st μ := ix_Ev.eq (a_X9_settlesOn launch0) rfl ls st μ
theorem e_X9_settlesOn_17 (Q : ix_R → Prop) (ls : ix_L) (st : List ix_V) (μ : ix_M) : ix_Ev o_X9_settlesOn Q (17, ls, st, μ) = ix_push (vi 20) 19 (ix_Ev o_X9_settlesOn Q) Q ls st μ := ix_Ev.eq (a_X9_settlesOn launch0) rfl ls st μ
theorem e_X9_settlesOn_19 (Q : ix_R → Prop) (ls : ix_L) (st : List ix_V) (μ : ix_M) : ix_Ev o_X9_settlesOn Q (19, ls, st, μ) = ix_div (fun x y => x - x / y * y) 20 (ix_Ev o_X9_settlesOn Q) Q ls st μ := ix_Ev.eq (a_X9_settlesOn launch0) rfl ls st μ
theorem e_X9_settlesOn_20 (Q : ix_R → Prop) (ls : ix_L) (st : List ix_V) (μ : ix_M) : ix_Ev o_X9_settlesOn Q (20, ls, st, μ) = oc_X1_settles 23 (ix_Ev o_X9_settlesOn Q) Q ls st μ := ix_Ev.eq (a_X9_settlesOn launch0) rfl ls st μ
theorem e_X9_settlesOn_23 (Q : ix_R → Prop) (ls : ix_L) (st : List ix_V) (μ : ix_M) : ix_Ev o_X9_settlesOn Q (23, ls, st, μ) = ix_iret (ix_Ev o_X9_settlesOn Q) Q ls st μ := ix_Ev.eq (a_X9_settlesOn launch0) rfl ls st μ
theorem r_X9_settlesOn (w : Nat) (c : Int32) (q : Nat) (μ : ix_M) (Q : ix_R → Prop) (ok_w : w < ix_N ∧ ix_tag w = 8) (ok_q : q < ix_N ∧ ix_tag q = 0) (hT : T_X9_settlesOn (w, c, q) μ Q) : ix_Ev o_X9_settlesOn Q (0, [some (vr 8 w), some (vi c), some (vr 0 q)], [], μ) := by
  have hw := (ok_water w ok_w.1 ok_w.2).2
  simp (decide := true) only [e_X9_settlesOn_0, e_X9_settlesOn_1, e_X9_settlesOn_2, e_X9_settlesOn_5, e_X9_settlesOn_6, e_X9_settlesOn_7, e_X9_settlesOn_8, e_X9_settlesOn_11, e_X9_settlesOn_12, e_X9_settlesOn_13, e_X9_settlesOn_14, e_X9_settlesOn_17, e_X9_settlesOn_19, e_X9_settlesOn_20, e_X9_settlesOn_23, vi, vl, vr, oc_X1_settles, T_X1_settles, ix_push, ix_iload, ix_lload, ix_aload, ix_istore, ix_astore, ix_iinc, ix_bin, ix_div, ix_un, ix_i2l, ix_l2i, ix_lbin, ix_lsh, ix_lcmp, ix_dup, ix_dup2, ix_pop, ix_if, ix_cmp, ix_goto, ix_switch, ix_sw, ix_iret, ix_zret, ix_vret, ix_aret, ix_geti, ix_getr, ix_puti, ix_putz, ix_puts, ix_gets, ix_iald, ix_iast, ix_alen, ix_aald, ix_gval, ix_gcod, ix_bald, ix_blen, ix_sald, ix_nret, ix_math2, ix_math1, ix_acopy, Nat.add_assoc, Int32.reduceLT, Int32.reduceLE, Int32.reduceToNatClampNeg, Int32.reduceSub, Int32.reduceAdd, Nat.reduceAdd, Nat.reduceLeDiff, true_or, or_true, or_false, false_or, not_false_eq_true, not_true_eq_false, false_implies, true_implies, implies_true, and_self, mB_0, mB_01, Classical.not_not, Nat.zero_le, List.getElem?_cons_zero, List.getElem?_cons_succ, List.set_cons_zero, List.set_cons_succ, ix_nl, ix_cs, true_and, and_true, Option.toList_some, Option.toList_none, List.cons_append, List.nil_append, hw]
  exact ⟨hT.1, hT.1, hT.2⟩
theorem k_X9_settlesOn (l : Launch) : ix_Ct l yX9_settlesOn cX9_settlesOn 3 (some .int) 4 sh_X9_settlesOn T_X9_settlesOn := ix_ct (a_X9_settlesOn l) rfl (by decide) (fun _ => Nat.le_of_ble_eq_true rfl) (fun x μ Q hok hT => r_X9_settlesOn x.1 x.2.1 x.2.2 μ Q (ix_ok_at (hok (vr 8 x.1) (by simp [sh_X9_settlesOn])) (by decide) (by decide)) (ix_ok_at (hok (vr 0 x.2.2) (by simp [sh_X9_settlesOn])) (by decide) (by decide)) hT)
def T_X9_dipsOf : Nat × Int32 → ix_M → (ix_R → Prop) → Prop := fun (w, b) μ Q => (vp_in b 8 ∧ vp_in (μ (w + 6) b.toNatClampNeg) 16) ∧ Q (some (vi (mDips (μ (w + 4) b.toNatClampNeg) (μ (w + 5) b.toNatClampNeg) (μ (w + 2) (μ (w + 6) b.toNatClampNeg).toNatClampNeg))), μ)
def sh_X9_dipsOf (x : Nat × Int32) : List ix_V := [vr 8 x.1, vi x.2]
theorem mo_X9_dipsOf (x : Nat × Int32) (μ : ix_M) (Q Q' : ix_R → Prop) (h : ∀ r, Q r → Q' r) (hT : T_X9_dipsOf x μ Q) : T_X9_dipsOf x μ Q' := by
  obtain ⟨a0, a1⟩ := x
  first | exact h _ hT | exact ⟨hT.1, h _ hT.2⟩ | exact fun r hr => h _ (hT r hr) | exact ⟨hT.1, fun r hr => h _ (hT.2 r hr)⟩ | exact ⟨hT.1, hT.2.1, fun r hr => h _ (hT.2.2 r hr)⟩
def oc_X9_dipsOf (n : Nat) : ix_Op := fun k _ ls st μ => match st with
  | .inl a1 :: .inr (.inr (t0, a0)) :: r => t0 = 8 ∧ ix_cs r ≤ 8 ∧ T_X9_dipsOf (a0, a1) μ (fun q => k (n, ls, q.1.toList ++ r, q.2))
  | _ => False
theorem oc_X9_dipsOf_s {l : Launch} {cc : ByteArray} {nL : Nat} {own : String} {d : Nat} {rt : Option FieldType} {pc n : Nat} (h : ix_S l cc nL own d rt pc (ix_call 2 sh_X9_dipsOf T_X9_dipsOf n)) : ix_S l cc nL own d rt pc (oc_X9_dipsOf n) := by
  refine h.by (fun k Q ls st μ h => ?_) (fun k k' Q ls st μ hk h => ?_)
  · unfold oc_X9_dipsOf at h
    split at h
    · rename_i a1 t0 a0 r
      obtain ⟨rfl, h1, h2⟩ := h
      exact ⟨h1, (a0, a1), rfl, _, h2, fun r h => h⟩
    · exact h.elim
  · unfold oc_X9_dipsOf at h ⊢
    split at h
    · obtain ⟨rfl, h1, h2⟩ := h
      exact ⟨rfl, h1, mo_X9_dipsOf _ _ _ _ (fun q hq => hk _ hq) h2⟩
    · exact h.elim
def o_X9_dipsOf : List (Nat × ix_Op) := [
  (0, ix_aload 0 1),
  (1, ix_getr 8 20 (fun k => k + 4) 4),
  (4, ix_iload 1 5),
  (5, ix_iald 6),
  (6, ix_aload 0 7),
  (7, ix_getr 8 20 (fun k => k + 5) 10),
  (10, ix_iload 1 11),
  (11, ix_iald 12),
  (12, ix_aload 0 13),
  (13, ix_getr 8 20 (fun k => k + 2) 16),
  (16, ix_aload 0 17),
  (17, ix_getr 8 20 (fun k => k + 6) 20),
  (20, ix_iload 1 21),
  (21, ix_iald 22),
  (22, ix_iald 23),
  (23, oc_X0_dips 26),
  (26, ix_iret)]
set_option maxRecDepth 20000 in
theorem a_X9_dipsOf (l : Launch) : ix_AllS l cX9_dipsOf 2 RX9 2 (some .int) o_X9_dipsOf :=
  .cons (ix_s_aload_n dX9_dipsOf_0 rfl) <|
  .cons (ix_s_getr (j := 3) tu_X9 rfl (by decide) (by decide) tw_46 rfl ts_8_3_r dX9_dipsOf_1) <|
  .cons (ix_s_iload_n dX9_dipsOf_4 rfl) <|
  .cons (ix_s_iald dX9_dipsOf_5) <|
  .cons (ix_s_aload_n dX9_dipsOf_6 rfl) <|
  .cons (ix_s_getr (j := 4) tu_X9 rfl (by decide) (by decide) tw_48 rfl ts_8_4_r dX9_dipsOf_7) <|
  .cons (ix_s_iload_n dX9_dipsOf_10 rfl) <|
  .cons (ix_s_iald dX9_dipsOf_11) <|
  .cons (ix_s_aload_n dX9_dipsOf_12 rfl) <|
  .cons (ix_s_getr (j := 1) tu_X9 rfl (by decide) (by decide) tw_42 rfl ts_8_1_r dX9_dipsOf_13) <|
  .cons (ix_s_aload_n dX9_dipsOf_16 rfl) <|
  .cons (ix_s_getr (j := 5) tu_X9 rfl (by decide) (by decide) tw_50 rfl ts_8_5_r dX9_dipsOf_17) <|
  .cons (ix_s_iload_n dX9_dipsOf_20 rfl) <|
  .cons (ix_s_iald dX9_dipsOf_21) <|
  .cons (ix_s_iald dX9_dipsOf_22) <|
  .cons (oc_X0_dips_s (ix_s_calls (k_X0_dips l) (by decide) (by decide) tw_376 tw_13 tw_374 tw_375 ⟨by decide, by decide, by decide +kernel⟩ (fun _ => rfl) dX9_dipsOf_23)) <|
  .cons (ix_s_iret dX9_dipsOf_26 rfl) <| .nil
theorem e_X9_dipsOf_0 (Q : ix_R → Prop) (ls : ix_L) (st : List ix_V) (μ : ix_M) : ix_Ev o_X9_dipsOf Q (0, ls, st, μ) = ix_aload 0 1 (ix_Ev o_X9_dipsOf Q) Q ls st μ := ix_Ev.eq (a_X9_dipsOf launch0) rfl ls st μ
theorem e_X9_dipsOf_1 (Q : ix_R → Prop) (ls : ix_L) (st : List ix_V) (μ : ix_M) : ix_Ev o_X9_dipsOf Q (1, ls, st, μ) = ix_getr 8 20 (fun k => k + 4) 4 (ix_Ev o_X9_dipsOf Q) Q ls st μ := ix_Ev.eq (a_X9_dipsOf launch0) rfl ls st μ
theorem e_X9_dipsOf_4 (Q : ix_R → Prop) (ls : ix_L) (st : List ix_V) (μ : ix_M) : ix_Ev o_X9_dipsOf Q (4, ls, st, μ) = ix_iload 1 5 (ix_Ev o_X9_dipsOf Q) Q ls st μ := ix_Ev.eq (a_X9_dipsOf launch0) rfl ls st μ
theorem e_X9_dipsOf_5 (Q : ix_R → Prop) (ls : ix_L) (st : List ix_V) (μ : ix_M) : ix_Ev o_X9_dipsOf Q (5, ls, st, μ) = ix_iald 6 (ix_Ev o_X9_dipsOf Q) Q ls st μ := ix_Ev.eq (a_X9_dipsOf launch0) rfl ls st μ
theorem e_X9_dipsOf_6 (Q : ix_R → Prop) (ls : ix_L) (st : List ix_V) (μ : ix_M) : ix_Ev o_X9_dipsOf Q (6, ls, st, μ) = ix_aload 0 7 (ix_Ev o_X9_dipsOf Q) Q ls st μ := ix_Ev.eq (a_X9_dipsOf launch0) rfl ls st μ
theorem e_X9_dipsOf_7 (Q : ix_R → Prop) (ls : ix_L) (st : List ix_V) (μ : ix_M) : ix_Ev o_X9_dipsOf Q (7, ls, st, μ) = ix_getr 8 20 (fun k => k + 5) 10 (ix_Ev o_X9_dipsOf Q) Q ls st μ := ix_Ev.eq (a_X9_dipsOf launch0) rfl ls st μ
theorem e_X9_dipsOf_10 (Q : ix_R → Prop) (ls : ix_L) (st : List ix_V) (μ : ix_M) : ix_Ev o_X9_dipsOf Q (10, ls, st, μ) = ix_iload 1 11 (ix_Ev o_X9_dipsOf Q) Q ls st μ := ix_Ev.eq (a_X9_dipsOf launch0) rfl ls st μ
theorem e_X9_dipsOf_11 (Q : ix_R → Prop) (ls : ix_L) (st : List ix_V) (μ : ix_M) : ix_Ev o_X9_dipsOf Q (11, ls, st, μ) = ix_iald 12 (ix_Ev o_X9_dipsOf Q) Q ls st μ := ix_Ev.eq (a_X9_dipsOf launch0) rfl ls st μ
theorem e_X9_dipsOf_12 (Q : ix_R → Prop) (ls : ix_L) (st : List ix_V) (μ : ix_M) : ix_Ev o_X9_dipsOf Q (12, ls, st, μ) = ix_aload 0 13 (ix_Ev o_X9_dipsOf Q) Q ls st μ := ix_Ev.eq (a_X9_dipsOf launch0) rfl ls st μ
theorem e_X9_dipsOf_13 (Q : ix_R → Prop) (ls : ix_L) (st : List ix_V) (μ : ix_M) : ix_Ev o_X9_dipsOf Q (13, ls, st, μ) = ix_getr 8 20 (fun k => k + 2) 16 (ix_Ev o_X9_dipsOf Q) Q ls st μ := ix_Ev.eq (a_X9_dipsOf launch0) rfl ls st μ
theorem e_X9_dipsOf_16 (Q : ix_R → Prop) (ls : ix_L) (st : List ix_V) (μ : ix_M) : ix_Ev o_X9_dipsOf Q (16, ls, st, μ) = ix_aload 0 17 (ix_Ev o_X9_dipsOf Q) Q ls st μ := ix_Ev.eq (a_X9_dipsOf launch0) rfl ls st μ
theorem e_X9_dipsOf_17 (Q : ix_R → Prop) (ls : ix_L) (st : List ix_V) (μ : ix_M) : ix_Ev o_X9_dipsOf Q (17, ls, st, μ) = ix_getr 8 20 (fun k => k + 6) 20 (ix_Ev o_X9_dipsOf Q) Q ls st μ := ix_Ev.eq (a_X9_dipsOf launch0) rfl ls st μ
theorem e_X9_dipsOf_20 (Q : ix_R → Prop) (ls : ix_L) (st : List ix_V) (μ : ix_M) : ix_Ev o_X9_dipsOf Q (20, ls, st, μ) = ix_iload 1 21 (ix_Ev o_X9_dipsOf Q) Q ls st μ := ix_Ev.eq (a_X9_dipsOf launch0) rfl ls st μ
theorem e_X9_dipsOf_21 (Q : ix_R → Prop) (ls : ix_L) (st : List ix_V) (μ : ix_M) : ix_Ev o_X9_dipsOf Q (21, ls, st, μ) = ix_iald 22 (ix_Ev o_X9_dipsOf Q) Q ls st μ := ix_Ev.eq (a_X9_dipsOf launch0) rfl ls st μ
theorem e_X9_dipsOf_22 (Q : ix_R → Prop) (ls : ix_L) (st : List ix_V) (μ : ix_M) : ix_Ev o_X9_dipsOf Q (22, ls, st, μ) = ix_iald 23 (ix_Ev o_X9_dipsOf Q) Q ls st μ := ix_Ev.eq (a_X9_dipsOf launch0) rfl ls st μ
theorem e_X9_dipsOf_23 (Q : ix_R → Prop) (ls : ix_L) (st : List ix_V) (μ : ix_M) : ix_Ev o_X9_dipsOf Q (23, ls, st, μ) = oc_X0_dips 26 (ix_Ev o_X9_dipsOf Q) Q ls st μ := ix_Ev.eq (a_X9_dipsOf launch0) rfl ls st μ
theorem e_X9_dipsOf_26 (Q : ix_R → Prop) (ls : ix_L) (st : List ix_V) (μ : ix_M) : ix_Ev o_X9_dipsOf Q (26, ls, st, μ) = ix_iret (ix_Ev o_X9_dipsOf Q) Q ls st μ := ix_Ev.eq (a_X9_dipsOf launch0) rfl ls st μ
theorem r_X9_dipsOf (w : Nat) (b : Int32) (μ : ix_M) (Q : ix_R → Prop) (ok_w : w < ix_N ∧ ix_tag w = 8) (hT : T_X9_dipsOf (w, b) μ Q) : ix_Ev o_X9_dipsOf Q (0, [some (vr 8 w), some (vi b)], [], μ) := by
  have hw := (ok_water w ok_w.1 ok_w.2).2
  simp (decide := true) only [e_X9_dipsOf_0, e_X9_dipsOf_1, e_X9_dipsOf_4, e_X9_dipsOf_5, e_X9_dipsOf_6, e_X9_dipsOf_7, e_X9_dipsOf_10, e_X9_dipsOf_11, e_X9_dipsOf_12, e_X9_dipsOf_13, e_X9_dipsOf_16, e_X9_dipsOf_17, e_X9_dipsOf_20, e_X9_dipsOf_21, e_X9_dipsOf_22, e_X9_dipsOf_23, e_X9_dipsOf_26, vi, vl, vr, oc_X0_dips, T_X0_dips, ix_push, ix_iload, ix_lload, ix_aload, ix_istore, ix_astore, ix_iinc, ix_bin, ix_div, ix_un, ix_i2l, ix_l2i, ix_lbin, ix_lsh, ix_lcmp, ix_dup, ix_dup2, ix_pop, ix_if, ix_cmp, ix_goto, ix_switch, ix_sw, ix_iret, ix_zret, ix_vret, ix_aret, ix_geti, ix_getr, ix_puti, ix_putz, ix_puts, ix_gets, ix_iald, ix_iast, ix_alen, ix_aald, ix_gval, ix_gcod, ix_bald, ix_blen, ix_sald, ix_nret, ix_math2, ix_math1, ix_acopy, Nat.add_assoc, Int32.reduceLT, Int32.reduceLE, Int32.reduceToNatClampNeg, Int32.reduceSub, Int32.reduceAdd, Nat.reduceAdd, Nat.reduceLeDiff, true_or, or_true, or_false, false_or, not_false_eq_true, not_true_eq_false, false_implies, true_implies, implies_true, and_self, mB_0, mB_01, Classical.not_not, Nat.zero_le, List.getElem?_cons_zero, List.getElem?_cons_succ, List.set_cons_zero, List.set_cons_succ, ix_nl, ix_cs, true_and, and_true, Option.toList_some, Option.toList_none, List.cons_append, List.nil_append, hw]
  exact ⟨hT.1.1, hT.1.1, hT.1.1, hT.1.2, hT.2⟩
theorem k_X9_dipsOf (l : Launch) : ix_Ct l yX9_dipsOf cX9_dipsOf 2 (some .int) 2 sh_X9_dipsOf T_X9_dipsOf := ix_ct (a_X9_dipsOf l) rfl (by decide) (fun _ => Nat.le_of_ble_eq_true rfl) (fun x μ Q hok hT => r_X9_dipsOf x.1 x.2 μ Q (ix_ok_at (hok (vr 8 x.1) (by simp [sh_X9_dipsOf])) (by decide) (by decide)) hT)
def T_X9_goesOf : Nat × Int32 → ix_M → (ix_R → Prop) → Prop := fun (w, b) μ Q => (vp_in b 8 ∧ vp_in (rem (μ w 8) 6) 6) ∧ Q (some (vi (mGoes (μ (w + 4) b.toNatClampNeg) (μ (w + 5) b.toNatClampNeg) (μ (w + 3) (rem (μ w 8) 6).toNatClampNeg) (μ w 8))), μ)
def sh_X9_goesOf (x : Nat × Int32) : List ix_V := [vr 8 x.1, vi x.2]
theorem mo_X9_goesOf (x : Nat × Int32) (μ : ix_M) (Q Q' : ix_R → Prop) (h : ∀ r, Q r → Q' r) (hT : T_X9_goesOf x μ Q) : T_X9_goesOf x μ Q' := by
  obtain ⟨a0, a1⟩ := x
  first | exact h _ hT | exact ⟨hT.1, h _ hT.2⟩ | exact fun r hr => h _ (hT r hr) | exact ⟨hT.1, fun r hr => h _ (hT.2 r hr)⟩ | exact ⟨hT.1, hT.2.1, fun r hr => h _ (hT.2.2 r hr)⟩
def oc_X9_goesOf (n : Nat) : ix_Op := fun k _ ls st μ => match st with
  | .inl a1 :: .inr (.inr (t0, a0)) :: r => t0 = 8 ∧ ix_cs r ≤ 8 ∧ T_X9_goesOf (a0, a1) μ (fun q => k (n, ls, q.1.toList ++ r, q.2))
  | _ => False
theorem oc_X9_goesOf_s {l : Launch} {cc : ByteArray} {nL : Nat} {own : String} {d : Nat} {rt : Option FieldType} {pc n : Nat} (h : ix_S l cc nL own d rt pc (ix_call 2 sh_X9_goesOf T_X9_goesOf n)) : ix_S l cc nL own d rt pc (oc_X9_goesOf n) := by
  refine h.by (fun k Q ls st μ h => ?_) (fun k k' Q ls st μ hk h => ?_)
  · unfold oc_X9_goesOf at h
    split at h
    · rename_i a1 t0 a0 r
      obtain ⟨rfl, h1, h2⟩ := h
      exact ⟨h1, (a0, a1), rfl, _, h2, fun r h => h⟩
    · exact h.elim
  · unfold oc_X9_goesOf at h ⊢
    split at h
    · obtain ⟨rfl, h1, h2⟩ := h
      exact ⟨rfl, h1, mo_X9_goesOf _ _ _ _ (fun q hq => hk _ hq) h2⟩
    · exact h.elim
def o_X9_goesOf : List (Nat × ix_Op) := [
  (0, ix_aload 0 1),
  (1, ix_getr 8 20 (fun k => k + 4) 4),
  (4, ix_iload 1 5),
  (5, ix_iald 6),
  (6, ix_aload 0 7),
  (7, ix_getr 8 20 (fun k => k + 5) 10),
  (10, ix_iload 1 11),
  (11, ix_iald 12),
  (12, ix_aload 0 13),
  (13, ix_getr 8 20 (fun k => k + 3) 16),
  (16, ix_aload 0 17),
  (17, oc_X9_place 20),
  (20, ix_iald 21),
  (21, ix_aload 0 22),
  (22, ix_geti 8 8 25),
  (25, oc_X0_goes 28),
  (28, ix_iret)]
set_option maxRecDepth 20000 in
theorem a_X9_goesOf (l : Launch) : ix_AllS l cX9_goesOf 2 RX9 3 (some .int) o_X9_goesOf :=
  .cons (ix_s_aload_n dX9_goesOf_0 rfl) <|
  .cons (ix_s_getr (j := 3) tu_X9 rfl (by decide) (by decide) tw_46 rfl ts_8_3_r dX9_goesOf_1) <|
  .cons (ix_s_iload_n dX9_goesOf_4 rfl) <|
  .cons (ix_s_iald dX9_goesOf_5) <|
  .cons (ix_s_aload_n dX9_goesOf_6 rfl) <|
  .cons (ix_s_getr (j := 4) tu_X9 rfl (by decide) (by decide) tw_48 rfl ts_8_4_r dX9_goesOf_7) <|
  .cons (ix_s_iload_n dX9_goesOf_10 rfl) <|
  .cons (ix_s_iald dX9_goesOf_11) <|
  .cons (ix_s_aload_n dX9_goesOf_12 rfl) <|
  .cons (ix_s_getr (j := 2) tu_X9 rfl (by decide) (by decide) tw_44 rfl ts_8_2_r dX9_goesOf_13) <|
  .cons (ix_s_aload_n dX9_goesOf_16 rfl) <|
  .cons (oc_X9_place_s (ix_s_callv (t := 8) (k_X9_place l) (by decide) (by decide) tw_384 tw_3 tw_381 tw_382 tw_383 ⟨by decide, by decide, by decide +kernel⟩ (by decide) rfl rfl (fun _ => ⟨_, _, rfl, rfl⟩) dX9_goesOf_17)) <|
  .cons (ix_s_iald dX9_goesOf_20) <|
  .cons (ix_s_aload_n dX9_goesOf_21 rfl) <|
  .cons (ix_s_geti (j := 8) tu_X9 rfl (by decide) (by decide) tw_58 rfl ts_8_8_i dX9_goesOf_22) <|
  .cons (oc_X0_goes_s (ix_s_calls (k_X0_goes l) (by decide) (by decide) tw_387 tw_13 tw_385 tw_386 ⟨by decide, by decide, by decide +kernel⟩ (fun _ => rfl) dX9_goesOf_25)) <|
  .cons (ix_s_iret dX9_goesOf_28 rfl) <| .nil
theorem e_X9_goesOf_0 (Q : ix_R → Prop) (ls : ix_L) (st : List ix_V) (μ : ix_M) : ix_Ev o_X9_goesOf Q (0, ls, st, μ) = ix_aload 0 1 (ix_Ev o_X9_goesOf Q) Q ls st μ := ix_Ev.eq (a_X9_goesOf launch0) rfl ls st μ
theorem e_X9_goesOf_1 (Q : ix_R → Prop) (ls : ix_L) (st : List ix_V) (μ : ix_M) : ix_Ev o_X9_goesOf Q (1, ls, st, μ) = ix_getr 8 20 (fun k => k + 4) 4 (ix_Ev o_X9_goesOf Q) Q ls st μ := ix_Ev.eq (a_X9_goesOf launch0) rfl ls st μ
theorem e_X9_goesOf_4 (Q : ix_R → Prop) (ls : ix_L) (st : List ix_V) (μ : ix_M) : ix_Ev o_X9_goesOf Q (4, ls, st, μ) = ix_iload 1 5 (ix_Ev o_X9_goesOf Q) Q ls st μ := ix_Ev.eq (a_X9_goesOf launch0) rfl ls st μ
theorem e_X9_goesOf_5 (Q : ix_R → Prop) (ls : ix_L) (st : List ix_V) (μ : ix_M) : ix_Ev o_X9_goesOf Q (5, ls, st, μ) = ix_iald 6 (ix_Ev o_X9_goesOf Q) Q ls st μ := ix_Ev.eq (a_X9_goesOf launch0) rfl ls st μ
theorem e_X9_goesOf_6 (Q : ix_R → Prop) (ls : ix_L) (st : List ix_V) (μ : ix_M) : ix_Ev o_X9_goesOf Q (6, ls, st, μ) = ix_aload 0 7 (ix_Ev o_X9_goesOf Q) Q ls st μ := ix_Ev.eq (a_X9_goesOf launch0) rfl ls st μ
theorem e_X9_goesOf_7 (Q : ix_R → Prop) (ls : ix_L) (st : List ix_V) (μ : ix_M) : ix_Ev o_X9_goesOf Q (7, ls, st, μ) = ix_getr 8 20 (fun k => k + 5) 10 (ix_Ev o_X9_goesOf Q) Q ls st μ := ix_Ev.eq (a_X9_goesOf launch0) rfl ls st μ
theorem e_X9_goesOf_10 (Q : ix_R → Prop) (ls : ix_L) (st : List ix_V) (μ : ix_M) : ix_Ev o_X9_goesOf Q (10, ls, st, μ) = ix_iload 1 11 (ix_Ev o_X9_goesOf Q) Q ls st μ := ix_Ev.eq (a_X9_goesOf launch0) rfl ls st μ
theorem e_X9_goesOf_11 (Q : ix_R → Prop) (ls : ix_L) (st : List ix_V) (μ : ix_M) : ix_Ev o_X9_goesOf Q (11, ls, st, μ) = ix_iald 12 (ix_Ev o_X9_goesOf Q) Q ls st μ := ix_Ev.eq (a_X9_goesOf launch0) rfl ls st μ
theorem e_X9_goesOf_12 (Q : ix_R → Prop) (ls : ix_L) (st : List ix_V) (μ : ix_M) : ix_Ev o_X9_goesOf Q (12, ls, st, μ) = ix_aload 0 13 (ix_Ev o_X9_goesOf Q) Q ls st μ := ix_Ev.eq (a_X9_goesOf launch0) rfl ls st μ
theorem e_X9_goesOf_13 (Q : ix_R → Prop) (ls : ix_L) (st : List ix_V) (μ : ix_M) : ix_Ev o_X9_goesOf Q (13, ls, st, μ) = ix_getr 8 20 (fun k => k + 3) 16 (ix_Ev o_X9_goesOf Q) Q ls st μ := ix_Ev.eq (a_X9_goesOf launch0) rfl ls st μ
theorem e_X9_goesOf_16 (Q : ix_R → Prop) (ls : ix_L) (st : List ix_V) (μ : ix_M) : ix_Ev o_X9_goesOf Q (16, ls, st, μ) = ix_aload 0 17 (ix_Ev o_X9_goesOf Q) Q ls st μ := ix_Ev.eq (a_X9_goesOf launch0) rfl ls st μ
theorem e_X9_goesOf_17 (Q : ix_R → Prop) (ls : ix_L) (st : List ix_V) (μ : ix_M) : ix_Ev o_X9_goesOf Q (17, ls, st, μ) = oc_X9_place 20 (ix_Ev o_X9_goesOf Q) Q ls st μ := ix_Ev.eq (a_X9_goesOf launch0) rfl ls st μ
theorem e_X9_goesOf_20 (Q : ix_R → Prop) (ls : ix_L) (st : List ix_V) (μ : ix_M) : ix_Ev o_X9_goesOf Q (20, ls, st, μ) = ix_iald 21 (ix_Ev o_X9_goesOf Q) Q ls st μ := ix_Ev.eq (a_X9_goesOf launch0) rfl ls st μ
theorem e_X9_goesOf_21 (Q : ix_R → Prop) (ls : ix_L) (st : List ix_V) (μ : ix_M) : ix_Ev o_X9_goesOf Q (21, ls, st, μ) = ix_aload 0 22 (ix_Ev o_X9_goesOf Q) Q ls st μ := ix_Ev.eq (a_X9_goesOf launch0) rfl ls st μ
theorem e_X9_goesOf_22 (Q : ix_R → Prop) (ls : ix_L) (st : List ix_V) (μ : ix_M) : ix_Ev o_X9_goesOf Q (22, ls, st, μ) = ix_geti 8 8 25 (ix_Ev o_X9_goesOf Q) Q ls st μ := ix_Ev.eq (a_X9_goesOf launch0) rfl ls st μ
theorem e_X9_goesOf_25 (Q : ix_R → Prop) (ls : ix_L) (st : List ix_V) (μ : ix_M) : ix_Ev o_X9_goesOf Q (25, ls, st, μ) = oc_X0_goes 28 (ix_Ev o_X9_goesOf Q) Q ls st μ := ix_Ev.eq (a_X9_goesOf launch0) rfl ls st μ
theorem e_X9_goesOf_28 (Q : ix_R → Prop) (ls : ix_L) (st : List ix_V) (μ : ix_M) : ix_Ev o_X9_goesOf Q (28, ls, st, μ) = ix_iret (ix_Ev o_X9_goesOf Q) Q ls st μ := ix_Ev.eq (a_X9_goesOf launch0) rfl ls st μ
theorem r_X9_goesOf (w : Nat) (b : Int32) (μ : ix_M) (Q : ix_R → Prop) (ok_w : w < ix_N ∧ ix_tag w = 8) (hT : T_X9_goesOf (w, b) μ Q) : ix_Ev o_X9_goesOf Q (0, [some (vr 8 w), some (vi b)], [], μ) := by
  have hw := (ok_water w ok_w.1 ok_w.2).2
  simp (decide := true) only [e_X9_goesOf_0, e_X9_goesOf_1, e_X9_goesOf_4, e_X9_goesOf_5, e_X9_goesOf_6, e_X9_goesOf_7, e_X9_goesOf_10, e_X9_goesOf_11, e_X9_goesOf_12, e_X9_goesOf_13, e_X9_goesOf_16, e_X9_goesOf_17, e_X9_goesOf_20, e_X9_goesOf_21, e_X9_goesOf_22, e_X9_goesOf_25, e_X9_goesOf_28, vi, vl, vr, oc_X0_goes, T_X0_goes, oc_X9_place, T_X9_place, ix_push, ix_iload, ix_lload, ix_aload, ix_istore, ix_astore, ix_iinc, ix_bin, ix_div, ix_un, ix_i2l, ix_l2i, ix_lbin, ix_lsh, ix_lcmp, ix_dup, ix_dup2, ix_pop, ix_if, ix_cmp, ix_goto, ix_switch, ix_sw, ix_iret, ix_zret, ix_vret, ix_aret, ix_geti, ix_getr, ix_puti, ix_putz, ix_puts, ix_gets, ix_iald, ix_iast, ix_alen, ix_aald, ix_gval, ix_gcod, ix_bald, ix_blen, ix_sald, ix_nret, ix_math2, ix_math1, ix_acopy, Nat.add_assoc, Int32.reduceLT, Int32.reduceLE, Int32.reduceToNatClampNeg, Int32.reduceSub, Int32.reduceAdd, Nat.reduceAdd, Nat.reduceLeDiff, true_or, or_true, or_false, false_or, not_false_eq_true, not_true_eq_false, false_implies, true_implies, implies_true, and_self, mB_0, mB_01, Classical.not_not, Nat.zero_le, List.getElem?_cons_zero, List.getElem?_cons_succ, List.set_cons_zero, List.set_cons_succ, ix_nl, ix_cs, true_and, and_true, Option.toList_some, Option.toList_none, List.cons_append, List.nil_append, hw]
  exact ⟨hT.1.1, hT.1.1, hT.1.2, hT.2⟩
theorem k_X9_goesOf (l : Launch) : ix_Ct l yX9_goesOf cX9_goesOf 2 (some .int) 3 sh_X9_goesOf T_X9_goesOf := ix_ct (a_X9_goesOf l) rfl (by decide) (fun _ => Nat.le_of_ble_eq_true rfl) (fun x μ Q hok hT => r_X9_goesOf x.1 x.2 μ Q (ix_ok_at (hok (vr 8 x.1) (by simp [sh_X9_goesOf])) (by decide) (by decide)) hT)
def T_X9_leaksOf : Nat × Int32 → ix_M → (ix_R → Prop) → Prop := fun (w, b) μ Q => vp_in b 8 ∧ Q (some (vi (mLeaks (μ (w + 4) b.toNatClampNeg) (μ (w + 5) b.toNatClampNeg))), μ)
def sh_X9_leaksOf (x : Nat × Int32) : List ix_V := [vr 8 x.1, vi x.2]
theorem mo_X9_leaksOf (x : Nat × Int32) (μ : ix_M) (Q Q' : ix_R → Prop) (h : ∀ r, Q r → Q' r) (hT : T_X9_leaksOf x μ Q) : T_X9_leaksOf x μ Q' := by
  obtain ⟨a0, a1⟩ := x
  first | exact h _ hT | exact ⟨hT.1, h _ hT.2⟩ | exact fun r hr => h _ (hT r hr) | exact ⟨hT.1, fun r hr => h _ (hT.2 r hr)⟩ | exact ⟨hT.1, hT.2.1, fun r hr => h _ (hT.2.2 r hr)⟩
def oc_X9_leaksOf (n : Nat) : ix_Op := fun k _ ls st μ => match st with
  | .inl a1 :: .inr (.inr (t0, a0)) :: r => t0 = 8 ∧ ix_cs r ≤ 8 ∧ T_X9_leaksOf (a0, a1) μ (fun q => k (n, ls, q.1.toList ++ r, q.2))
  | _ => False
theorem oc_X9_leaksOf_s {l : Launch} {cc : ByteArray} {nL : Nat} {own : String} {d : Nat} {rt : Option FieldType} {pc n : Nat} (h : ix_S l cc nL own d rt pc (ix_call 2 sh_X9_leaksOf T_X9_leaksOf n)) : ix_S l cc nL own d rt pc (oc_X9_leaksOf n) := by
  refine h.by (fun k Q ls st μ h => ?_) (fun k k' Q ls st μ hk h => ?_)
  · unfold oc_X9_leaksOf at h
    split at h
    · rename_i a1 t0 a0 r
      obtain ⟨rfl, h1, h2⟩ := h
      exact ⟨h1, (a0, a1), rfl, _, h2, fun r h => h⟩
    · exact h.elim
  · unfold oc_X9_leaksOf at h ⊢
    split at h
    · obtain ⟨rfl, h1, h2⟩ := h
      exact ⟨rfl, h1, mo_X9_leaksOf _ _ _ _ (fun q hq => hk _ hq) h2⟩
    · exact h.elim
def o_X9_leaksOf : List (Nat × ix_Op) := [
  (0, ix_aload 0 1),
  (1, ix_getr 8 20 (fun k => k + 4) 4),
  (4, ix_iload 1 5),
  (5, ix_iald 6),
  (6, ix_aload 0 7),
  (7, ix_getr 8 20 (fun k => k + 5) 10),
  (10, ix_iload 1 11),
  (11, ix_iald 12),
  (12, oc_X0_leaks 15),
  (15, ix_iret)]
set_option maxRecDepth 20000 in
theorem a_X9_leaksOf (l : Launch) : ix_AllS l cX9_leaksOf 2 RX9 2 (some .int) o_X9_leaksOf :=
  .cons (ix_s_aload_n dX9_leaksOf_0 rfl) <|
  .cons (ix_s_getr (j := 3) tu_X9 rfl (by decide) (by decide) tw_46 rfl ts_8_3_r dX9_leaksOf_1) <|
  .cons (ix_s_iload_n dX9_leaksOf_4 rfl) <|
  .cons (ix_s_iald dX9_leaksOf_5) <|
  .cons (ix_s_aload_n dX9_leaksOf_6 rfl) <|
  .cons (ix_s_getr (j := 4) tu_X9 rfl (by decide) (by decide) tw_48 rfl ts_8_4_r dX9_leaksOf_7) <|
  .cons (ix_s_iload_n dX9_leaksOf_10 rfl) <|
  .cons (ix_s_iald dX9_leaksOf_11) <|
  .cons (oc_X0_leaks_s (ix_s_calls (k_X0_leaks l) (by decide) (by decide) tw_397 tw_13 tw_395 tw_396 ⟨by decide, by decide, by decide +kernel⟩ (fun _ => rfl) dX9_leaksOf_12)) <|
  .cons (ix_s_iret dX9_leaksOf_15 rfl) <| .nil
theorem e_X9_leaksOf_0 (Q : ix_R → Prop) (ls : ix_L) (st : List ix_V) (μ : ix_M) : ix_Ev o_X9_leaksOf Q (0, ls, st, μ) = ix_aload 0 1 (ix_Ev o_X9_leaksOf Q) Q ls st μ := ix_Ev.eq (a_X9_leaksOf launch0) rfl ls st μ
theorem e_X9_leaksOf_1 (Q : ix_R → Prop) (ls : ix_L) (st : List ix_V) (μ : ix_M) : ix_Ev o_X9_leaksOf Q (1, ls, st, μ) = ix_getr 8 20 (fun k => k + 4) 4 (ix_Ev o_X9_leaksOf Q) Q ls st μ := ix_Ev.eq (a_X9_leaksOf launch0) rfl ls st μ
theorem e_X9_leaksOf_4 (Q : ix_R → Prop) (ls : ix_L) (st : List ix_V) (μ : ix_M) : ix_Ev o_X9_leaksOf Q (4, ls, st, μ) = ix_iload 1 5 (ix_Ev o_X9_leaksOf Q) Q ls st μ := ix_Ev.eq (a_X9_leaksOf launch0) rfl ls st μ
theorem e_X9_leaksOf_5 (Q : ix_R → Prop) (ls : ix_L) (st : List ix_V) (μ : ix_M) : ix_Ev o_X9_leaksOf Q (5, ls, st, μ) = ix_iald 6 (ix_Ev o_X9_leaksOf Q) Q ls st μ := ix_Ev.eq (a_X9_leaksOf launch0) rfl ls st μ
theorem e_X9_leaksOf_6 (Q : ix_R → Prop) (ls : ix_L) (st : List ix_V) (μ : ix_M) : ix_Ev o_X9_leaksOf Q (6, ls, st, μ) = ix_aload 0 7 (ix_Ev o_X9_leaksOf Q) Q ls st μ := ix_Ev.eq (a_X9_leaksOf launch0) rfl ls st μ
theorem e_X9_leaksOf_7 (Q : ix_R → Prop) (ls : ix_L) (st : List ix_V) (μ : ix_M) : ix_Ev o_X9_leaksOf Q (7, ls, st, μ) = ix_getr 8 20 (fun k => k + 5) 10 (ix_Ev o_X9_leaksOf Q) Q ls st μ := ix_Ev.eq (a_X9_leaksOf launch0) rfl ls st μ
theorem e_X9_leaksOf_10 (Q : ix_R → Prop) (ls : ix_L) (st : List ix_V) (μ : ix_M) : ix_Ev o_X9_leaksOf Q (10, ls, st, μ) = ix_iload 1 11 (ix_Ev o_X9_leaksOf Q) Q ls st μ := ix_Ev.eq (a_X9_leaksOf launch0) rfl ls st μ
theorem e_X9_leaksOf_11 (Q : ix_R → Prop) (ls : ix_L) (st : List ix_V) (μ : ix_M) : ix_Ev o_X9_leaksOf Q (11, ls, st, μ) = ix_iald 12 (ix_Ev o_X9_leaksOf Q) Q ls st μ := ix_Ev.eq (a_X9_leaksOf launch0) rfl ls st μ
theorem e_X9_leaksOf_12 (Q : ix_R → Prop) (ls : ix_L) (st : List ix_V) (μ : ix_M) : ix_Ev o_X9_leaksOf Q (12, ls, st, μ) = oc_X0_leaks 15 (ix_Ev o_X9_leaksOf Q) Q ls st μ := ix_Ev.eq (a_X9_leaksOf launch0) rfl ls st μ
theorem e_X9_leaksOf_15 (Q : ix_R → Prop) (ls : ix_L) (st : List ix_V) (μ : ix_M) : ix_Ev o_X9_leaksOf Q (15, ls, st, μ) = ix_iret (ix_Ev o_X9_leaksOf Q) Q ls st μ := ix_Ev.eq (a_X9_leaksOf launch0) rfl ls st μ
theorem r_X9_leaksOf (w : Nat) (b : Int32) (μ : ix_M) (Q : ix_R → Prop) (ok_w : w < ix_N ∧ ix_tag w = 8) (hT : T_X9_leaksOf (w, b) μ Q) : ix_Ev o_X9_leaksOf Q (0, [some (vr 8 w), some (vi b)], [], μ) := by
  have hw := (ok_water w ok_w.1 ok_w.2).2
  simp (decide := true) only [e_X9_leaksOf_0, e_X9_leaksOf_1, e_X9_leaksOf_4, e_X9_leaksOf_5, e_X9_leaksOf_6, e_X9_leaksOf_7, e_X9_leaksOf_10, e_X9_leaksOf_11, e_X9_leaksOf_12, e_X9_leaksOf_15, vi, vl, vr, oc_X0_leaks, T_X0_leaks, ix_push, ix_iload, ix_lload, ix_aload, ix_istore, ix_astore, ix_iinc, ix_bin, ix_div, ix_un, ix_i2l, ix_l2i, ix_lbin, ix_lsh, ix_lcmp, ix_dup, ix_dup2, ix_pop, ix_if, ix_cmp, ix_goto, ix_switch, ix_sw, ix_iret, ix_zret, ix_vret, ix_aret, ix_geti, ix_getr, ix_puti, ix_putz, ix_puts, ix_gets, ix_iald, ix_iast, ix_alen, ix_aald, ix_gval, ix_gcod, ix_bald, ix_blen, ix_sald, ix_nret, ix_math2, ix_math1, ix_acopy, Nat.add_assoc, Int32.reduceLT, Int32.reduceLE, Int32.reduceToNatClampNeg, Int32.reduceSub, Int32.reduceAdd, Nat.reduceAdd, Nat.reduceLeDiff, true_or, or_true, or_false, false_or, not_false_eq_true, not_true_eq_false, false_implies, true_implies, implies_true, and_self, mB_0, mB_01, Classical.not_not, Nat.zero_le, List.getElem?_cons_zero, List.getElem?_cons_succ, List.set_cons_zero, List.set_cons_succ, ix_nl, ix_cs, true_and, and_true, Option.toList_some, Option.toList_none, List.cons_append, List.nil_append, hw]
  exact ⟨hT.1, hT.1, hT.2⟩
theorem k_X9_leaksOf (l : Launch) : ix_Ct l yX9_leaksOf cX9_leaksOf 2 (some .int) 2 sh_X9_leaksOf T_X9_leaksOf := ix_ct (a_X9_leaksOf l) rfl (by decide) (fun _ => Nat.le_of_ble_eq_true rfl) (fun x μ Q hok hT => r_X9_leaksOf x.1 x.2 μ Q (ix_ok_at (hok (vr 8 x.1) (by simp [sh_X9_leaksOf])) (by decide) (by decide)) hT)
def T_X9_lostOf : Nat × Int32 × Nat → ix_M → (ix_R → Prop) → Prop := fun (w, b, q) μ Q => vp_in b 8 ∧ ∃ ds, TxtOk μ (q + 5) ds ∧ ∀ μ', Fx [q + 8] μ μ' → Q (some (vi (lawL ds (mLeaks (μ (w + 4) b.toNatClampNeg) (μ (w + 5) b.toNatClampNeg)) (μ (w + 7) b.toNatClampNeg) (mLight (μ w 8) (μ w 9)))), μ')
def sh_X9_lostOf (x : Nat × Int32 × Nat) : List ix_V := [vr 8 x.1, vi x.2.1, vr 0 x.2.2]
theorem mo_X9_lostOf (x : Nat × Int32 × Nat) (μ : ix_M) (Q Q' : ix_R → Prop) (h : ∀ r, Q r → Q' r) (hT : T_X9_lostOf x μ Q) : T_X9_lostOf x μ Q' := by
  obtain ⟨a0, a1, a2⟩ := x
  (obtain ⟨h0, ds, h1, h3⟩ := hT; exact ⟨h0, ds, h1, fun μ' z => h _ (h3 μ' z)⟩)
def oc_X9_lostOf (n : Nat) : ix_Op := fun k _ ls st μ => match st with
  | .inr (.inr (t2, a2)) :: .inl a1 :: .inr (.inr (t0, a0)) :: r => t0 = 8 ∧ t2 = 0 ∧ ix_cs r ≤ 8 ∧ T_X9_lostOf (a0, a1, a2) μ (fun q => k (n, ls, q.1.toList ++ r, q.2))
  | _ => False
theorem oc_X9_lostOf_s {l : Launch} {cc : ByteArray} {nL : Nat} {own : String} {d : Nat} {rt : Option FieldType} {pc n : Nat} (h : ix_S l cc nL own d rt pc (ix_call 3 sh_X9_lostOf T_X9_lostOf n)) : ix_S l cc nL own d rt pc (oc_X9_lostOf n) := by
  refine h.by (fun k Q ls st μ h => ?_) (fun k k' Q ls st μ hk h => ?_)
  · unfold oc_X9_lostOf at h
    split at h
    · rename_i t2 a2 a1 t0 a0 r
      obtain ⟨rfl, rfl, h1, h2⟩ := h
      exact ⟨h1, (a0, a1, a2), rfl, _, h2, fun r h => h⟩
    · exact h.elim
  · unfold oc_X9_lostOf at h ⊢
    split at h
    · obtain ⟨rfl, rfl, h1, h2⟩ := h
      exact ⟨rfl, rfl, h1, mo_X9_lostOf _ _ _ _ (fun q hq => hk _ hq) h2⟩
    · exact h.elim
def o_X9_lostOf : List (Nat × ix_Op) := [
  (0, ix_aload 2 1),
  (1, ix_aload 0 2),
  (2, ix_iload 1 3),
  (3, oc_X9_leaksOf 6),
  (6, ix_aload 0 7),
  (7, ix_getr 8 20 (fun k => k + 7) 10),
  (10, ix_iload 1 11),
  (11, ix_iald 12),
  (12, ix_aload 0 13),
  (13, oc_X9_light 16),
  (16, oc_X1_loses 19),
  (19, ix_iret)]
set_option maxRecDepth 20000 in
theorem a_X9_lostOf (l : Launch) : ix_AllS l cX9_lostOf 3 RX9 4 (some .int) o_X9_lostOf :=
  .cons (ix_s_aload_n dX9_lostOf_0 rfl) <|
  .cons (ix_s_aload_n dX9_lostOf_1 rfl) <|
  .cons (ix_s_iload_n dX9_lostOf_2 rfl) <|
  .cons (oc_X9_leaksOf_s (ix_s_callv (t := 8) (k_X9_leaksOf l) (by decide) (by decide) tw_394 tw_3 tw_402 tw_392 tw_393 ⟨by decide, by decide, by decide +kernel⟩ (by decide) rfl rfl (fun _ => ⟨_, _, rfl, rfl⟩) dX9_lostOf_3)) <|
  .cons (ix_s_aload_n dX9_lostOf_6 rfl) <|
  .cons (ix_s_getr (j := 6) tu_X9 rfl (by decide) (by decide) tw_52 rfl ts_8_6_r dX9_lostOf_7) <|
  .cons (ix_s_iload_n dX9_lostOf_10 rfl) <|
  .cons (ix_s_iald dX9_lostOf_11) <|
  .cons (ix_s_aload_n dX9_lostOf_12 rfl) <|
  .cons (oc_X9_light_s (ix_s_callv (t := 8) (k_X9_light l) (by decide) (by decide) tw_406 tw_3 tw_403 tw_404 tw_405 ⟨by decide, by decide, by decide +kernel⟩ (by decide) rfl rfl (fun _ => ⟨_, _, rfl, rfl⟩) dX9_lostOf_13)) <|
  .cons (oc_X1_loses_s (ix_s_callv (t := 0) (k_X1_loses l) (by decide) (by decide) tw_410 tw_4 tw_407 tw_408 tw_409 ⟨by decide, by decide, by decide +kernel⟩ (by decide) rfl rfl (fun _ => ⟨_, _, rfl, rfl⟩) dX9_lostOf_16)) <|
  .cons (ix_s_iret dX9_lostOf_19 rfl) <| .nil
theorem e_X9_lostOf_0 (Q : ix_R → Prop) (ls : ix_L) (st : List ix_V) (μ : ix_M) : ix_Ev o_X9_lostOf Q (0, ls, st, μ) = ix_aload 2 1 (ix_Ev o_X9_lostOf Q) Q ls st μ := ix_Ev.eq (a_X9_lostOf launch0) rfl ls st μ
theorem e_X9_lostOf_1 (Q : ix_R → Prop) (ls : ix_L) (st : List ix_V) (μ : ix_M) : ix_Ev o_X9_lostOf Q (1, ls, st, μ) = ix_aload 0 2 (ix_Ev o_X9_lostOf Q) Q ls st μ := ix_Ev.eq (a_X9_lostOf launch0) rfl ls st μ
theorem e_X9_lostOf_2 (Q : ix_R → Prop) (ls : ix_L) (st : List ix_V) (μ : ix_M) : ix_Ev o_X9_lostOf Q (2, ls, st, μ) = ix_iload 1 3 (ix_Ev o_X9_lostOf Q) Q ls st μ := ix_Ev.eq (a_X9_lostOf launch0) rfl ls st μ
theorem e_X9_lostOf_3 (Q : ix_R → Prop) (ls : ix_L) (st : List ix_V) (μ : ix_M) : ix_Ev o_X9_lostOf Q (3, ls, st, μ) = oc_X9_leaksOf 6 (ix_Ev o_X9_lostOf Q) Q ls st μ := ix_Ev.eq (a_X9_lostOf launch0) rfl ls st μ
theorem e_X9_lostOf_6 (Q : ix_R → Prop) (ls : ix_L) (st : List ix_V) (μ : ix_M) : ix_Ev o_X9_lostOf Q (6, ls, st, μ) = ix_aload 0 7 (ix_Ev o_X9_lostOf Q) Q ls st μ := ix_Ev.eq (a_X9_lostOf launch0) rfl ls st μ
theorem e_X9_lostOf_7 (Q : ix_R → Prop) (ls : ix_L) (st : List ix_V) (μ : ix_M) : ix_Ev o_X9_lostOf Q (7, ls, st, μ) = ix_getr 8 20 (fun k => k + 7) 10 (ix_Ev o_X9_lostOf Q) Q ls st μ := ix_Ev.eq (a_X9_lostOf launch0) rfl ls st μ
theorem e_X9_lostOf_10 (Q : ix_R → Prop) (ls : ix_L) (st : List ix_V) (μ : ix_M) : ix_Ev o_X9_lostOf Q (10, ls, st, μ) = ix_iload 1 11 (ix_Ev o_X9_lostOf Q) Q ls st μ := ix_Ev.eq (a_X9_lostOf launch0) rfl ls st μ
theorem e_X9_lostOf_11 (Q : ix_R → Prop) (ls : ix_L) (st : List ix_V) (μ : ix_M) : ix_Ev o_X9_lostOf Q (11, ls, st, μ) = ix_iald 12 (ix_Ev o_X9_lostOf Q) Q ls st μ := ix_Ev.eq (a_X9_lostOf launch0) rfl ls st μ
theorem e_X9_lostOf_12 (Q : ix_R → Prop) (ls : ix_L) (st : List ix_V) (μ : ix_M) : ix_Ev o_X9_lostOf Q (12, ls, st, μ) = ix_aload 0 13 (ix_Ev o_X9_lostOf Q) Q ls st μ := ix_Ev.eq (a_X9_lostOf launch0) rfl ls st μ
theorem e_X9_lostOf_13 (Q : ix_R → Prop) (ls : ix_L) (st : List ix_V) (μ : ix_M) : ix_Ev o_X9_lostOf Q (13, ls, st, μ) = oc_X9_light 16 (ix_Ev o_X9_lostOf Q) Q ls st μ := ix_Ev.eq (a_X9_lostOf launch0) rfl ls st μ
theorem e_X9_lostOf_16 (Q : ix_R → Prop) (ls : ix_L) (st : List ix_V) (μ : ix_M) : ix_Ev o_X9_lostOf Q (16, ls, st, μ) = oc_X1_loses 19 (ix_Ev o_X9_lostOf Q) Q ls st μ := ix_Ev.eq (a_X9_lostOf launch0) rfl ls st μ
theorem e_X9_lostOf_19 (Q : ix_R → Prop) (ls : ix_L) (st : List ix_V) (μ : ix_M) : ix_Ev o_X9_lostOf Q (19, ls, st, μ) = ix_iret (ix_Ev o_X9_lostOf Q) Q ls st μ := ix_Ev.eq (a_X9_lostOf launch0) rfl ls st μ
theorem r_X9_lostOf (w : Nat) (b : Int32) (q : Nat) (μ : ix_M) (Q : ix_R → Prop) (ok_w : w < ix_N ∧ ix_tag w = 8) (ok_q : q < ix_N ∧ ix_tag q = 0) (hT : T_X9_lostOf (w, b, q) μ Q) : ix_Ev o_X9_lostOf Q (0, [some (vr 8 w), some (vi b), some (vr 0 q)], [], μ) := by
  have hw := (ok_water w ok_w.1 ok_w.2).2
  simp (decide := true) only [e_X9_lostOf_0, e_X9_lostOf_1, e_X9_lostOf_2, e_X9_lostOf_3, e_X9_lostOf_6, e_X9_lostOf_7, e_X9_lostOf_10, e_X9_lostOf_11, e_X9_lostOf_12, e_X9_lostOf_13, e_X9_lostOf_16, e_X9_lostOf_19, vi, vl, vr, oc_X1_loses, T_X1_loses, oc_X9_leaksOf, T_X9_leaksOf, oc_X9_light, T_X9_light, ix_push, ix_iload, ix_lload, ix_aload, ix_istore, ix_astore, ix_iinc, ix_bin, ix_div, ix_un, ix_i2l, ix_l2i, ix_lbin, ix_lsh, ix_lcmp, ix_dup, ix_dup2, ix_pop, ix_if, ix_cmp, ix_goto, ix_switch, ix_sw, ix_iret, ix_zret, ix_vret, ix_aret, ix_geti, ix_getr, ix_puti, ix_putz, ix_puts, ix_gets, ix_iald, ix_iast, ix_alen, ix_aald, ix_gval, ix_gcod, ix_bald, ix_blen, ix_sald, ix_nret, ix_math2, ix_math1, ix_acopy, Nat.add_assoc, Int32.reduceLT, Int32.reduceLE, Int32.reduceToNatClampNeg, Int32.reduceSub, Int32.reduceAdd, Nat.reduceAdd, Nat.reduceLeDiff, true_or, or_true, or_false, false_or, not_false_eq_true, not_true_eq_false, false_implies, true_implies, implies_true, and_self, mB_0, mB_01, Classical.not_not, Nat.zero_le, List.getElem?_cons_zero, List.getElem?_cons_succ, List.set_cons_zero, List.set_cons_succ, ix_nl, ix_cs, true_and, and_true, Option.toList_some, Option.toList_none, List.cons_append, List.nil_append, hw]
  exact ⟨hT.1, hT.1, hT.2⟩
theorem k_X9_lostOf (l : Launch) : ix_Ct l yX9_lostOf cX9_lostOf 3 (some .int) 4 sh_X9_lostOf T_X9_lostOf := ix_ct (a_X9_lostOf l) rfl (by decide) (fun _ => Nat.le_of_ble_eq_true rfl) (fun x μ Q hok hT => r_X9_lostOf x.1 x.2.1 x.2.2 μ Q (ix_ok_at (hok (vr 8 x.1) (by simp [sh_X9_lostOf])) (by decide) (by decide)) (ix_ok_at (hok (vr 0 x.2.2) (by simp [sh_X9_lostOf])) (by decide) (by decide)) hT)
def mTake (d s r : Int32) : Int32 := if (if 99 - r < s then 99 - r else s) < d then (if 99 - r < s then 99 - r else s) else d
def T_X9_dip : Nat × Int32 → ix_M → (ix_R → Prop) → Prop := fun (w, b) μ Q => (vp_in b 8 ∧ vp_in (μ (w + 6) b.toNatClampNeg) 16) ∧
  Q (none, ix_up (ix_up μ (w + 2) (μ (w + 6) b.toNatClampNeg).toNatClampNeg (μ (w + 2) (μ (w + 6) b.toNatClampNeg).toNatClampNeg - mTake (mDips (μ (w + 4) b.toNatClampNeg) (μ (w + 5) b.toNatClampNeg) (μ (w + 2) (μ (w + 6) b.toNatClampNeg).toNatClampNeg)) (μ (w + 2) (μ (w + 6) b.toNatClampNeg).toNatClampNeg) (μ (w + 7) b.toNatClampNeg))) (w + 7) b.toNatClampNeg (μ (w + 7) b.toNatClampNeg + mTake (mDips (μ (w + 4) b.toNatClampNeg) (μ (w + 5) b.toNatClampNeg) (μ (w + 2) (μ (w + 6) b.toNatClampNeg).toNatClampNeg)) (μ (w + 2) (μ (w + 6) b.toNatClampNeg).toNatClampNeg) (μ (w + 7) b.toNatClampNeg)))
def sh_X9_dip (x : Nat × Int32) : List ix_V := [vr 8 x.1, vi x.2]
theorem mo_X9_dip (x : Nat × Int32) (μ : ix_M) (Q Q' : ix_R → Prop) (h : ∀ r, Q r → Q' r) (hT : T_X9_dip x μ Q) : T_X9_dip x μ Q' := by
  obtain ⟨a0, a1⟩ := x
  first | exact h _ hT | exact ⟨hT.1, h _ hT.2⟩ | exact fun r hr => h _ (hT r hr) | exact ⟨hT.1, fun r hr => h _ (hT.2 r hr)⟩ | exact ⟨hT.1, hT.2.1, fun r hr => h _ (hT.2.2 r hr)⟩
def oc_X9_dip (n : Nat) : ix_Op := fun k _ ls st μ => match st with
  | .inl a1 :: .inr (.inr (t0, a0)) :: r => t0 = 8 ∧ ix_cs r ≤ 8 ∧ T_X9_dip (a0, a1) μ (fun q => k (n, ls, q.1.toList ++ r, q.2))
  | _ => False
theorem oc_X9_dip_s {l : Launch} {cc : ByteArray} {nL : Nat} {own : String} {d : Nat} {rt : Option FieldType} {pc n : Nat} (h : ix_S l cc nL own d rt pc (ix_call 2 sh_X9_dip T_X9_dip n)) : ix_S l cc nL own d rt pc (oc_X9_dip n) := by
  refine h.by (fun k Q ls st μ h => ?_) (fun k k' Q ls st μ hk h => ?_)
  · unfold oc_X9_dip at h
    split at h
    · rename_i a1 t0 a0 r
      obtain ⟨rfl, h1, h2⟩ := h
      exact ⟨h1, (a0, a1), rfl, _, h2, fun r h => h⟩
    · exact h.elim
  · unfold oc_X9_dip at h ⊢
    split at h
    · obtain ⟨rfl, h1, h2⟩ := h
      exact ⟨rfl, h1, mo_X9_dip _ _ _ _ (fun q hq => hk _ hq) h2⟩
    · exact h.elim
def o_X9_dip : List (Nat × ix_Op) := [
  (0, ix_aload 0 1),
  (1, ix_getr 8 20 (fun k => k + 6) 4),
  (4, ix_iload 1 5),
  (5, ix_iald 6),
  (6, ix_istore 2 7),
  (7, ix_aload 0 8),
  (8, ix_iload 1 9),
  (9, oc_X9_dipsOf 12),
  (12, ix_aload 0 13),
  (13, ix_getr 8 20 (fun k => k + 2) 16),
  (16, ix_iload 2 17),
  (17, ix_iald 18),
  (18, ix_push (vi 99) 20),
  (20, ix_aload 0 21),
  (21, ix_getr 8 20 (fun k => k + 7) 24),
  (24, ix_iload 1 25),
  (25, ix_iald 26),
  (26, ix_bin (fun x y => x - y) 27),
  (27, ix_math2 (fun x y => if y < x then y else x) 30),
  (30, ix_math2 (fun x y => if y < x then y else x) 33),
  (33, ix_istore 3 34),
  (34, ix_aload 0 35),
  (35, ix_getr 8 20 (fun k => k + 2) 38),
  (38, ix_iload 2 39),
  (39, ix_dup2 40),
  (40, ix_iald 41),
  (41, ix_iload 3 42),
  (42, ix_bin (fun x y => x - y) 43),
  (43, ix_iast 44),
  (44, ix_aload 0 45),
  (45, ix_getr 8 20 (fun k => k + 7) 48),
  (48, ix_iload 1 49),
  (49, ix_dup2 50),
  (50, ix_iald 51),
  (51, ix_iload 3 52),
  (52, ix_bin (fun x y => x + y) 53),
  (53, ix_iast 54),
  (54, ix_vret)]
set_option maxRecDepth 20000 in
theorem a_X9_dip (l : Launch) : ix_AllS l cX9_dip 4 RX9 3 none o_X9_dip :=
  .cons (ix_s_aload_n dX9_dip_0 rfl) <|
  .cons (ix_s_getr (j := 5) tu_X9 rfl (by decide) (by decide) tw_50 rfl ts_8_5_r dX9_dip_1) <|
  .cons (ix_s_iload_n dX9_dip_4 rfl) <|
  .cons (ix_s_iald dX9_dip_5) <|
  .cons (ix_s_istore_n dX9_dip_6 rfl (by decide)) <|
  .cons (ix_s_aload_n dX9_dip_7 rfl) <|
  .cons (ix_s_iload_n dX9_dip_8 rfl) <|
  .cons (oc_X9_dipsOf_s (ix_s_callv (t := 8) (k_X9_dipsOf l) (by decide) (by decide) tw_373 tw_3 tw_606 tw_371 tw_372 ⟨by decide, by decide, by decide +kernel⟩ (by decide) rfl rfl (fun _ => ⟨_, _, rfl, rfl⟩) dX9_dip_9)) <|
  .cons (ix_s_aload_n dX9_dip_12 rfl) <|
  .cons (ix_s_getr (j := 1) tu_X9 rfl (by decide) (by decide) tw_42 rfl ts_8_1_r dX9_dip_13) <|
  .cons (ix_s_iload_n dX9_dip_16 rfl) <|
  .cons (ix_s_iald dX9_dip_17) <|
  .cons (ix_s_bipush dX9_dip_18 (by decide +kernel)) <|
  .cons (ix_s_aload_n dX9_dip_20 rfl) <|
  .cons (ix_s_getr (j := 6) tu_X9 rfl (by decide) (by decide) tw_52 rfl ts_8_6_r dX9_dip_21) <|
  .cons (ix_s_iload_n dX9_dip_24 rfl) <|
  .cons (ix_s_iald dX9_dip_25) <|
  .cons (ix_s_isub dX9_dip_26) <|
  .cons (ix_s_mmin tw_607 tw_328 tw_7 tw_329 (by decide) dX9_dip_27) <|
  .cons (ix_s_mmin tw_607 tw_328 tw_7 tw_329 (by decide) dX9_dip_30) <|
  .cons (ix_s_istore_n dX9_dip_33 rfl (by decide)) <|
  .cons (ix_s_aload_n dX9_dip_34 rfl) <|
  .cons (ix_s_getr (j := 1) tu_X9 rfl (by decide) (by decide) tw_42 rfl ts_8_1_r dX9_dip_35) <|
  .cons (ix_s_iload_n dX9_dip_38 rfl) <|
  .cons (ix_s_dup2 dX9_dip_39) <|
  .cons (ix_s_iald dX9_dip_40) <|
  .cons (ix_s_iload_n dX9_dip_41 rfl) <|
  .cons (ix_s_isub dX9_dip_42) <|
  .cons (ix_s_iast dX9_dip_43) <|
  .cons (ix_s_aload_n dX9_dip_44 rfl) <|
  .cons (ix_s_getr (j := 6) tu_X9 rfl (by decide) (by decide) tw_52 rfl ts_8_6_r dX9_dip_45) <|
  .cons (ix_s_iload_n dX9_dip_48 rfl) <|
  .cons (ix_s_dup2 dX9_dip_49) <|
  .cons (ix_s_iald dX9_dip_50) <|
  .cons (ix_s_iload_n dX9_dip_51 rfl) <|
  .cons (ix_s_iadd dX9_dip_52) <|
  .cons (ix_s_iast dX9_dip_53) <|
  .cons (ix_s_vret dX9_dip_54 rfl) <| .nil
theorem e_X9_dip_0 (Q : ix_R → Prop) (ls : ix_L) (st : List ix_V) (μ : ix_M) : ix_Ev o_X9_dip Q (0, ls, st, μ) = ix_aload 0 1 (ix_Ev o_X9_dip Q) Q ls st μ := ix_Ev.eq (a_X9_dip launch0) rfl ls st μ
theorem e_X9_dip_1 (Q : ix_R → Prop) (ls : ix_L) (st : List ix_V) (μ : ix_M) : ix_Ev o_X9_dip Q (1, ls, st, μ) = ix_getr 8 20 (fun k => k + 6) 4 (ix_Ev o_X9_dip Q) Q ls st μ := ix_Ev.eq (a_X9_dip launch0) rfl ls st μ
theorem e_X9_dip_4 (Q : ix_R → Prop) (ls : ix_L) (st : List ix_V) (μ : ix_M) : ix_Ev o_X9_dip Q (4, ls, st, μ) = ix_iload 1 5 (ix_Ev o_X9_dip Q) Q ls st μ := ix_Ev.eq (a_X9_dip launch0) rfl ls st μ
theorem e_X9_dip_5 (Q : ix_R → Prop) (ls : ix_L) (st : List ix_V) (μ : ix_M) : ix_Ev o_X9_dip Q (5, ls, st, μ) = ix_iald 6 (ix_Ev o_X9_dip Q) Q ls st μ := ix_Ev.eq (a_X9_dip launch0) rfl ls st μ
theorem e_X9_dip_6 (Q : ix_R → Prop) (ls : ix_L) (st : List ix_V) (μ : ix_M) : ix_Ev o_X9_dip Q (6, ls, st, μ) = ix_istore 2 7 (ix_Ev o_X9_dip Q) Q ls st μ := ix_Ev.eq (a_X9_dip launch0) rfl ls st μ
theorem e_X9_dip_7 (Q : ix_R → Prop) (ls : ix_L) (st : List ix_V) (μ : ix_M) : ix_Ev o_X9_dip Q (7, ls, st, μ) = ix_aload 0 8 (ix_Ev o_X9_dip Q) Q ls st μ := ix_Ev.eq (a_X9_dip launch0) rfl ls st μ
theorem e_X9_dip_8 (Q : ix_R → Prop) (ls : ix_L) (st : List ix_V) (μ : ix_M) : ix_Ev o_X9_dip Q (8, ls, st, μ) = ix_iload 1 9 (ix_Ev o_X9_dip Q) Q ls st μ := ix_Ev.eq (a_X9_dip launch0) rfl ls st μ
theorem e_X9_dip_9 (Q : ix_R → Prop) (ls : ix_L) (st : List ix_V) (μ : ix_M) : ix_Ev o_X9_dip Q (9, ls, st, μ) = oc_X9_dipsOf 12 (ix_Ev o_X9_dip Q) Q ls st μ := ix_Ev.eq (a_X9_dip launch0) rfl ls st μ
theorem e_X9_dip_12 (Q : ix_R → Prop) (ls : ix_L) (st : List ix_V) (μ : ix_M) : ix_Ev o_X9_dip Q (12, ls, st, μ) = ix_aload 0 13 (ix_Ev o_X9_dip Q) Q ls st μ := ix_Ev.eq (a_X9_dip launch0) rfl ls st μ
theorem e_X9_dip_13 (Q : ix_R → Prop) (ls : ix_L) (st : List ix_V) (μ : ix_M) : ix_Ev o_X9_dip Q (13, ls, st, μ) = ix_getr 8 20 (fun k => k + 2) 16 (ix_Ev o_X9_dip Q) Q ls st μ := ix_Ev.eq (a_X9_dip launch0) rfl ls st μ
theorem e_X9_dip_16 (Q : ix_R → Prop) (ls : ix_L) (st : List ix_V) (μ : ix_M) : ix_Ev o_X9_dip Q (16, ls, st, μ) = ix_iload 2 17 (ix_Ev o_X9_dip Q) Q ls st μ := ix_Ev.eq (a_X9_dip launch0) rfl ls st μ
theorem e_X9_dip_17 (Q : ix_R → Prop) (ls : ix_L) (st : List ix_V) (μ : ix_M) : ix_Ev o_X9_dip Q (17, ls, st, μ) = ix_iald 18 (ix_Ev o_X9_dip Q) Q ls st μ := ix_Ev.eq (a_X9_dip launch0) rfl ls st μ
theorem e_X9_dip_18 (Q : ix_R → Prop) (ls : ix_L) (st : List ix_V) (μ : ix_M) : ix_Ev o_X9_dip Q (18, ls, st, μ) = ix_push (vi 99) 20 (ix_Ev o_X9_dip Q) Q ls st μ := ix_Ev.eq (a_X9_dip launch0) rfl ls st μ
theorem e_X9_dip_20 (Q : ix_R → Prop) (ls : ix_L) (st : List ix_V) (μ : ix_M) : ix_Ev o_X9_dip Q (20, ls, st, μ) = ix_aload 0 21 (ix_Ev o_X9_dip Q) Q ls st μ := ix_Ev.eq (a_X9_dip launch0) rfl ls st μ
theorem e_X9_dip_21 (Q : ix_R → Prop) (ls : ix_L) (st : List ix_V) (μ : ix_M) : ix_Ev o_X9_dip Q (21, ls, st, μ) = ix_getr 8 20 (fun k => k + 7) 24 (ix_Ev o_X9_dip Q) Q ls st μ := ix_Ev.eq (a_X9_dip launch0) rfl ls st μ
theorem e_X9_dip_24 (Q : ix_R → Prop) (ls : ix_L) (st : List ix_V) (μ : ix_M) : ix_Ev o_X9_dip Q (24, ls, st, μ) = ix_iload 1 25 (ix_Ev o_X9_dip Q) Q ls st μ := ix_Ev.eq (a_X9_dip launch0) rfl ls st μ
theorem e_X9_dip_25 (Q : ix_R → Prop) (ls : ix_L) (st : List ix_V) (μ : ix_M) : ix_Ev o_X9_dip Q (25, ls, st, μ) = ix_iald 26 (ix_Ev o_X9_dip Q) Q ls st μ := ix_Ev.eq (a_X9_dip launch0) rfl ls st μ
theorem e_X9_dip_26 (Q : ix_R → Prop) (ls : ix_L) (st : List ix_V) (μ : ix_M) : ix_Ev o_X9_dip Q (26, ls, st, μ) = ix_bin (fun x y => x - y) 27 (ix_Ev o_X9_dip Q) Q ls st μ := ix_Ev.eq (a_X9_dip launch0) rfl ls st μ
theorem e_X9_dip_27 (Q : ix_R → Prop) (ls : ix_L) (st : List ix_V) (μ : ix_M) : ix_Ev o_X9_dip Q (27, ls, st, μ) = ix_math2 (fun x y => if y < x then y else x) 30 (ix_Ev o_X9_dip Q) Q ls st μ := ix_Ev.eq (a_X9_dip launch0) rfl ls st μ
theorem e_X9_dip_30 (Q : ix_R → Prop) (ls : ix_L) (st : List ix_V) (μ : ix_M) : ix_Ev o_X9_dip Q (30, ls, st, μ) = ix_math2 (fun x y => if y < x then y else x) 33 (ix_Ev o_X9_dip Q) Q ls st μ := ix_Ev.eq (a_X9_dip launch0) rfl ls st μ
theorem e_X9_dip_33 (Q : ix_R → Prop) (ls : ix_L) (st : List ix_V) (μ : ix_M) : ix_Ev o_X9_dip Q (33, ls, st, μ) = ix_istore 3 34 (ix_Ev o_X9_dip Q) Q ls st μ := ix_Ev.eq (a_X9_dip launch0) rfl ls st μ
theorem e_X9_dip_34 (Q : ix_R → Prop) (ls : ix_L) (st : List ix_V) (μ : ix_M) : ix_Ev o_X9_dip Q (34, ls, st, μ) = ix_aload 0 35 (ix_Ev o_X9_dip Q) Q ls st μ := ix_Ev.eq (a_X9_dip launch0) rfl ls st μ
theorem e_X9_dip_35 (Q : ix_R → Prop) (ls : ix_L) (st : List ix_V) (μ : ix_M) : ix_Ev o_X9_dip Q (35, ls, st, μ) = ix_getr 8 20 (fun k => k + 2) 38 (ix_Ev o_X9_dip Q) Q ls st μ := ix_Ev.eq (a_X9_dip launch0) rfl ls st μ
theorem e_X9_dip_38 (Q : ix_R → Prop) (ls : ix_L) (st : List ix_V) (μ : ix_M) : ix_Ev o_X9_dip Q (38, ls, st, μ) = ix_iload 2 39 (ix_Ev o_X9_dip Q) Q ls st μ := ix_Ev.eq (a_X9_dip launch0) rfl ls st μ
theorem e_X9_dip_39 (Q : ix_R → Prop) (ls : ix_L) (st : List ix_V) (μ : ix_M) : ix_Ev o_X9_dip Q (39, ls, st, μ) = ix_dup2 40 (ix_Ev o_X9_dip Q) Q ls st μ := ix_Ev.eq (a_X9_dip launch0) rfl ls st μ
theorem e_X9_dip_40 (Q : ix_R → Prop) (ls : ix_L) (st : List ix_V) (μ : ix_M) : ix_Ev o_X9_dip Q (40, ls, st, μ) = ix_iald 41 (ix_Ev o_X9_dip Q) Q ls st μ := ix_Ev.eq (a_X9_dip launch0) rfl ls st μ
theorem e_X9_dip_41 (Q : ix_R → Prop) (ls : ix_L) (st : List ix_V) (μ : ix_M) : ix_Ev o_X9_dip Q (41, ls, st, μ) = ix_iload 3 42 (ix_Ev o_X9_dip Q) Q ls st μ := ix_Ev.eq (a_X9_dip launch0) rfl ls st μ
theorem e_X9_dip_42 (Q : ix_R → Prop) (ls : ix_L) (st : List ix_V) (μ : ix_M) : ix_Ev o_X9_dip Q (42, ls, st, μ) = ix_bin (fun x y => x - y) 43 (ix_Ev o_X9_dip Q) Q ls st μ := ix_Ev.eq (a_X9_dip launch0) rfl ls st μ
theorem e_X9_dip_43 (Q : ix_R → Prop) (ls : ix_L) (st : List ix_V) (μ : ix_M) : ix_Ev o_X9_dip Q (43, ls, st, μ) = ix_iast 44 (ix_Ev o_X9_dip Q) Q ls st μ := ix_Ev.eq (a_X9_dip launch0) rfl ls st μ
theorem e_X9_dip_44 (Q : ix_R → Prop) (ls : ix_L) (st : List ix_V) (μ : ix_M) : ix_Ev o_X9_dip Q (44, ls, st, μ) = ix_aload 0 45 (ix_Ev o_X9_dip Q) Q ls st μ := ix_Ev.eq (a_X9_dip launch0) rfl ls st μ
theorem e_X9_dip_45 (Q : ix_R → Prop) (ls : ix_L) (st : List ix_V) (μ : ix_M) : ix_Ev o_X9_dip Q (45, ls, st, μ) = ix_getr 8 20 (fun k => k + 7) 48 (ix_Ev o_X9_dip Q) Q ls st μ := ix_Ev.eq (a_X9_dip launch0) rfl ls st μ
theorem e_X9_dip_48 (Q : ix_R → Prop) (ls : ix_L) (st : List ix_V) (μ : ix_M) : ix_Ev o_X9_dip Q (48, ls, st, μ) = ix_iload 1 49 (ix_Ev o_X9_dip Q) Q ls st μ := ix_Ev.eq (a_X9_dip launch0) rfl ls st μ
theorem e_X9_dip_49 (Q : ix_R → Prop) (ls : ix_L) (st : List ix_V) (μ : ix_M) : ix_Ev o_X9_dip Q (49, ls, st, μ) = ix_dup2 50 (ix_Ev o_X9_dip Q) Q ls st μ := ix_Ev.eq (a_X9_dip launch0) rfl ls st μ
theorem e_X9_dip_50 (Q : ix_R → Prop) (ls : ix_L) (st : List ix_V) (μ : ix_M) : ix_Ev o_X9_dip Q (50, ls, st, μ) = ix_iald 51 (ix_Ev o_X9_dip Q) Q ls st μ := ix_Ev.eq (a_X9_dip launch0) rfl ls st μ
theorem e_X9_dip_51 (Q : ix_R → Prop) (ls : ix_L) (st : List ix_V) (μ : ix_M) : ix_Ev o_X9_dip Q (51, ls, st, μ) = ix_iload 3 52 (ix_Ev o_X9_dip Q) Q ls st μ := ix_Ev.eq (a_X9_dip launch0) rfl ls st μ
theorem e_X9_dip_52 (Q : ix_R → Prop) (ls : ix_L) (st : List ix_V) (μ : ix_M) : ix_Ev o_X9_dip Q (52, ls, st, μ) = ix_bin (fun x y => x + y) 53 (ix_Ev o_X9_dip Q) Q ls st μ := ix_Ev.eq (a_X9_dip launch0) rfl ls st μ
theorem e_X9_dip_53 (Q : ix_R → Prop) (ls : ix_L) (st : List ix_V) (μ : ix_M) : ix_Ev o_X9_dip Q (53, ls, st, μ) = ix_iast 54 (ix_Ev o_X9_dip Q) Q ls st μ := ix_Ev.eq (a_X9_dip launch0) rfl ls st μ
theorem e_X9_dip_54 (Q : ix_R → Prop) (ls : ix_L) (st : List ix_V) (μ : ix_M) : ix_Ev o_X9_dip Q (54, ls, st, μ) = ix_vret (ix_Ev o_X9_dip Q) Q ls st μ := ix_Ev.eq (a_X9_dip launch0) rfl ls st μ
theorem r_X9_dip (w : Nat) (b : Int32) (μ : ix_M) (Q : ix_R → Prop) (ok_w : w < ix_N ∧ ix_tag w = 8) (hT : T_X9_dip (w, b) μ Q) : ix_Ev o_X9_dip Q (0, [some (vr 8 w), some (vi b), none, none], [], μ) := by
  have hw := (ok_water w ok_w.1 ok_w.2).2
  obtain ⟨⟨h1, h2⟩, hT⟩ := hT
  simp (decide := true) only [e_X9_dip_0, e_X9_dip_1, e_X9_dip_4, e_X9_dip_5, e_X9_dip_6, e_X9_dip_7, e_X9_dip_8, e_X9_dip_9, e_X9_dip_12, e_X9_dip_13, e_X9_dip_16, e_X9_dip_17, e_X9_dip_18, e_X9_dip_20, e_X9_dip_21, e_X9_dip_24, e_X9_dip_25, e_X9_dip_26, e_X9_dip_27, e_X9_dip_30, e_X9_dip_33, e_X9_dip_34, e_X9_dip_35, e_X9_dip_38, e_X9_dip_39, e_X9_dip_40, e_X9_dip_41, e_X9_dip_42, e_X9_dip_43, e_X9_dip_44, e_X9_dip_45, e_X9_dip_48, e_X9_dip_49, e_X9_dip_50, e_X9_dip_51, e_X9_dip_52, e_X9_dip_53, e_X9_dip_54, vi, vl, vr, oc_X9_dipsOf, T_X9_dipsOf, ix_push, ix_iload, ix_lload, ix_aload, ix_istore, ix_astore, ix_iinc, ix_bin, ix_div, ix_un, ix_i2l, ix_l2i, ix_lbin, ix_lsh, ix_lcmp, ix_dup, ix_dup2, ix_pop, ix_if, ix_cmp, ix_goto, ix_switch, ix_sw, ix_iret, ix_zret, ix_vret, ix_aret, ix_geti, ix_getr, ix_puti, ix_putz, ix_puts, ix_gets, ix_iald, ix_iast, ix_alen, ix_aald, ix_gval, ix_gcod, ix_bald, ix_blen, ix_sald, ix_nret, ix_math2, ix_math1, ix_acopy, Nat.add_assoc, Int32.reduceLT, Int32.reduceLE, Int32.reduceToNatClampNeg, Int32.reduceSub, Int32.reduceAdd, Nat.reduceAdd, Nat.reduceLeDiff, true_or, or_true, or_false, false_or, not_false_eq_true, not_true_eq_false, false_implies, true_implies, implies_true, and_self, mB_0, mB_01, Classical.not_not, Nat.zero_le, List.getElem?_cons_zero, List.getElem?_cons_succ, List.set_cons_zero, List.set_cons_succ, ix_nl, ix_cs, true_and, and_true, Option.toList_some, Option.toList_none, List.cons_append, List.nil_append, hw, h1, h2]
  have hne : ∀ j v, ix_up μ (w + 2) j v (w + 7) = μ (w + 7) := fun j v => ix_up_ne (by omega)
  simp only [hne]
  exact hT
theorem k_X9_dip (l : Launch) : ix_Ct l yX9_dip cX9_dip 4 none 3 sh_X9_dip T_X9_dip := ix_ct (a_X9_dip l) rfl (by decide) (fun _ => Nat.le_of_ble_eq_true rfl) (fun x μ Q hok hT => r_X9_dip x.1 x.2 μ Q (ix_ok_at (hok (vr 8 x.1) (by simp [sh_X9_dip])) (by decide) (by decide)) hT)
def mBes (c w : Int32) : Int32 := if w = 1 then (if c < 4 then c else c - 4) else if w = 2 then (if 3 ≤ rem c 4 then c else c + 1) else if w = 3 then (if 12 ≤ c then c else c + 4) else if w = 4 then (if rem c 4 ≤ 0 then c else c - 1) else c
def T_X9_beside : Int32 × Int32 → ix_M → (ix_R → Prop) → Prop := fun (c, w) μ Q => Q (some (vi (mBes c w)), μ)
def sh_X9_beside (x : Int32 × Int32) : List ix_V := [vi x.1, vi x.2]
theorem mo_X9_beside (x : Int32 × Int32) (μ : ix_M) (Q Q' : ix_R → Prop) (h : ∀ r, Q r → Q' r) (hT : T_X9_beside x μ Q) : T_X9_beside x μ Q' := by
  obtain ⟨a0, a1⟩ := x
  first | exact h _ hT | exact ⟨hT.1, h _ hT.2⟩ | exact fun r hr => h _ (hT r hr) | exact ⟨hT.1, fun r hr => h _ (hT.2 r hr)⟩ | exact ⟨hT.1, hT.2.1, fun r hr => h _ (hT.2.2 r hr)⟩
def oc_X9_beside (n : Nat) : ix_Op := fun k _ ls st μ => match st with
  | .inl a1 :: .inl a0 :: r => ix_cs r ≤ 8 ∧ T_X9_beside (a0, a1) μ (fun q => k (n, ls, q.1.toList ++ r, q.2))
  | _ => False
theorem oc_X9_beside_s {l : Launch} {cc : ByteArray} {nL : Nat} {own : String} {d : Nat} {rt : Option FieldType} {pc n : Nat} (h : ix_S l cc nL own d rt pc (ix_call 2 sh_X9_beside T_X9_beside n)) : ix_S l cc nL own d rt pc (oc_X9_beside n) := by
  refine h.by (fun k Q ls st μ h => ?_) (fun k k' Q ls st μ hk h => ?_)
  · unfold oc_X9_beside at h
    split at h
    · rename_i a1 a0 r
      obtain ⟨h1, h2⟩ := h
      exact ⟨h1, (a0, a1), rfl, _, h2, fun r h => h⟩
    · exact h.elim
  · unfold oc_X9_beside at h ⊢
    split at h
    · obtain ⟨h1, h2⟩ := h
      exact ⟨h1, mo_X9_beside _ _ _ _ (fun q hq => hk _ hq) h2⟩
    · exact h.elim
def o_X9_beside : List (Nat × ix_Op) := [
  (0, ix_iload 1 1),
  (1, ix_switch [(1, 32), (2, 45), (3, 60), (4, 74)] 88),
  (32, ix_iload 0 33),
  (33, ix_push (vi 4) 34),
  (34, ix_cmp (fun x y => x < y) 43 37),
  (37, ix_iload 0 38),
  (38, ix_push (vi 4) 39),
  (39, ix_bin (fun x y => x - y) 40),
  (40, ix_goto 44),
  (43, ix_iload 0 44),
  (44, ix_iret),
  (45, ix_iload 0 46),
  (46, ix_push (vi 4) 47),
  (47, ix_div (fun x y => x - x / y * y) 48),
  (48, ix_push (vi 3) 49),
  (49, ix_cmp (fun x y => y ≤ x) 58 52),
  (52, ix_iload 0 53),
  (53, ix_push (vi 1) 54),
  (54, ix_bin (fun x y => x + y) 55),
  (55, ix_goto 59),
  (58, ix_iload 0 59),
  (59, ix_iret),
  (60, ix_iload 0 61),
  (61, ix_push (vi 12) 63),
  (63, ix_cmp (fun x y => y ≤ x) 72 66),
  (66, ix_iload 0 67),
  (67, ix_push (vi 4) 68),
  (68, ix_bin (fun x y => x + y) 69),
  (69, ix_goto 73),
  (72, ix_iload 0 73),
  (73, ix_iret),
  (74, ix_iload 0 75),
  (75, ix_push (vi 4) 76),
  (76, ix_div (fun x y => x - x / y * y) 77),
  (77, ix_if (fun x => x ≤ 0) 86 80),
  (80, ix_iload 0 81),
  (81, ix_push (vi 1) 82),
  (82, ix_bin (fun x y => x - y) 83),
  (83, ix_goto 87),
  (86, ix_iload 0 87),
  (87, ix_iret),
  (88, ix_iload 0 89),
  (89, ix_iret)]
set_option maxRecDepth 20000 in
theorem a_X9_beside (l : Launch) : ix_AllS l cX9_beside 2 RX9 1 (some .int) o_X9_beside :=
  .cons (ix_s_iload_n dX9_beside_0 rfl) <|
  .cons (ix_s_tab dX9_beside_1 (by decide) (by decide +kernel) (by decide +kernel)) <|
  .cons (ix_s_iload_n dX9_beside_32 rfl) <|
  .cons (ix_s_iconst dX9_beside_33 (by decide +kernel)) <|
  .cons (ix_s_cmp_lt dX9_beside_34 (by decide)) <|
  .cons (ix_s_iload_n dX9_beside_37 rfl) <|
  .cons (ix_s_iconst dX9_beside_38 (by decide +kernel)) <|
  .cons (ix_s_isub dX9_beside_39) <|
  .cons (ix_s_goto dX9_beside_40 (by decide)) <|
  .cons (ix_s_iload_n dX9_beside_43 rfl) <|
  .cons (ix_s_iret dX9_beside_44 rfl) <|
  .cons (ix_s_iload_n dX9_beside_45 rfl) <|
  .cons (ix_s_iconst dX9_beside_46 (by decide +kernel)) <|
  .cons (ix_s_irem dX9_beside_47) <|
  .cons (ix_s_iconst dX9_beside_48 (by decide +kernel)) <|
  .cons (ix_s_cmp_ge dX9_beside_49 (by decide)) <|
  .cons (ix_s_iload_n dX9_beside_52 rfl) <|
  .cons (ix_s_iconst dX9_beside_53 (by decide +kernel)) <|
  .cons (ix_s_iadd dX9_beside_54) <|
  .cons (ix_s_goto dX9_beside_55 (by decide)) <|
  .cons (ix_s_iload_n dX9_beside_58 rfl) <|
  .cons (ix_s_iret dX9_beside_59 rfl) <|
  .cons (ix_s_iload_n dX9_beside_60 rfl) <|
  .cons (ix_s_bipush dX9_beside_61 (by decide +kernel)) <|
  .cons (ix_s_cmp_ge dX9_beside_63 (by decide)) <|
  .cons (ix_s_iload_n dX9_beside_66 rfl) <|
  .cons (ix_s_iconst dX9_beside_67 (by decide +kernel)) <|
  .cons (ix_s_iadd dX9_beside_68) <|
  .cons (ix_s_goto dX9_beside_69 (by decide)) <|
  .cons (ix_s_iload_n dX9_beside_72 rfl) <|
  .cons (ix_s_iret dX9_beside_73 rfl) <|
  .cons (ix_s_iload_n dX9_beside_74 rfl) <|
  .cons (ix_s_iconst dX9_beside_75 (by decide +kernel)) <|
  .cons (ix_s_irem dX9_beside_76) <|
  .cons (ix_s_if_le dX9_beside_77 (by decide)) <|
  .cons (ix_s_iload_n dX9_beside_80 rfl) <|
  .cons (ix_s_iconst dX9_beside_81 (by decide +kernel)) <|
  .cons (ix_s_isub dX9_beside_82) <|
  .cons (ix_s_goto dX9_beside_83 (by decide)) <|
  .cons (ix_s_iload_n dX9_beside_86 rfl) <|
  .cons (ix_s_iret dX9_beside_87 rfl) <|
  .cons (ix_s_iload_n dX9_beside_88 rfl) <|
  .cons (ix_s_iret dX9_beside_89 rfl) <| .nil
theorem e_X9_beside_0 (Q : ix_R → Prop) (ls : ix_L) (st : List ix_V) (μ : ix_M) : ix_Ev o_X9_beside Q (0, ls, st, μ) = ix_iload 1 1 (ix_Ev o_X9_beside Q) Q ls st μ := ix_Ev.eq (a_X9_beside launch0) rfl ls st μ
theorem e_X9_beside_1 (Q : ix_R → Prop) (ls : ix_L) (st : List ix_V) (μ : ix_M) : ix_Ev o_X9_beside Q (1, ls, st, μ) = ix_switch [(1, 32), (2, 45), (3, 60), (4, 74)] 88 (ix_Ev o_X9_beside Q) Q ls st μ := ix_Ev.eq (a_X9_beside launch0) rfl ls st μ
theorem e_X9_beside_32 (Q : ix_R → Prop) (ls : ix_L) (st : List ix_V) (μ : ix_M) : ix_Ev o_X9_beside Q (32, ls, st, μ) = ix_iload 0 33 (ix_Ev o_X9_beside Q) Q ls st μ := ix_Ev.eq (a_X9_beside launch0) rfl ls st μ
theorem e_X9_beside_33 (Q : ix_R → Prop) (ls : ix_L) (st : List ix_V) (μ : ix_M) : ix_Ev o_X9_beside Q (33, ls, st, μ) = ix_push (vi 4) 34 (ix_Ev o_X9_beside Q) Q ls st μ := ix_Ev.eq (a_X9_beside launch0) rfl ls st μ
theorem e_X9_beside_34 (Q : ix_R → Prop) (ls : ix_L) (st : List ix_V) (μ : ix_M) : ix_Ev o_X9_beside Q (34, ls, st, μ) = ix_cmp (fun x y => x < y) 43 37 (ix_Ev o_X9_beside Q) Q ls st μ := ix_Ev.eq (a_X9_beside launch0) rfl ls st μ
theorem e_X9_beside_37 (Q : ix_R → Prop) (ls : ix_L) (st : List ix_V) (μ : ix_M) : ix_Ev o_X9_beside Q (37, ls, st, μ) = ix_iload 0 38 (ix_Ev o_X9_beside Q) Q ls st μ := ix_Ev.eq (a_X9_beside launch0) rfl ls st μ
theorem e_X9_beside_38 (Q : ix_R → Prop) (ls : ix_L) (st : List ix_V) (μ : ix_M) : ix_Ev o_X9_beside Q (38, ls, st, μ) = ix_push (vi 4) 39 (ix_Ev o_X9_beside Q) Q ls st μ := ix_Ev.eq (a_X9_beside launch0) rfl ls st μ
theorem e_X9_beside_39 (Q : ix_R → Prop) (ls : ix_L) (st : List ix_V) (μ : ix_M) : ix_Ev o_X9_beside Q (39, ls, st, μ) = ix_bin (fun x y => x - y) 40 (ix_Ev o_X9_beside Q) Q ls st μ := ix_Ev.eq (a_X9_beside launch0) rfl ls st μ
theorem e_X9_beside_40 (Q : ix_R → Prop) (ls : ix_L) (st : List ix_V) (μ : ix_M) : ix_Ev o_X9_beside Q (40, ls, st, μ) = ix_goto 44 (ix_Ev o_X9_beside Q) Q ls st μ := ix_Ev.eq (a_X9_beside launch0) rfl ls st μ
theorem e_X9_beside_43 (Q : ix_R → Prop) (ls : ix_L) (st : List ix_V) (μ : ix_M) : ix_Ev o_X9_beside Q (43, ls, st, μ) = ix_iload 0 44 (ix_Ev o_X9_beside Q) Q ls st μ := ix_Ev.eq (a_X9_beside launch0) rfl ls st μ
theorem e_X9_beside_44 (Q : ix_R → Prop) (ls : ix_L) (st : List ix_V) (μ : ix_M) : ix_Ev o_X9_beside Q (44, ls, st, μ) = ix_iret (ix_Ev o_X9_beside Q) Q ls st μ := ix_Ev.eq (a_X9_beside launch0) rfl ls st μ
theorem e_X9_beside_45 (Q : ix_R → Prop) (ls : ix_L) (st : List ix_V) (μ : ix_M) : ix_Ev o_X9_beside Q (45, ls, st, μ) = ix_iload 0 46 (ix_Ev o_X9_beside Q) Q ls st μ := ix_Ev.eq (a_X9_beside launch0) rfl ls st μ
theorem e_X9_beside_46 (Q : ix_R → Prop) (ls : ix_L) (st : List ix_V) (μ : ix_M) : ix_Ev o_X9_beside Q (46, ls, st, μ) = ix_push (vi 4) 47 (ix_Ev o_X9_beside Q) Q ls st μ := ix_Ev.eq (a_X9_beside launch0) rfl ls st μ
theorem e_X9_beside_47 (Q : ix_R → Prop) (ls : ix_L) (st : List ix_V) (μ : ix_M) : ix_Ev o_X9_beside Q (47, ls, st, μ) = ix_div (fun x y => x - x / y * y) 48 (ix_Ev o_X9_beside Q) Q ls st μ := ix_Ev.eq (a_X9_beside launch0) rfl ls st μ
theorem e_X9_beside_48 (Q : ix_R → Prop) (ls : ix_L) (st : List ix_V) (μ : ix_M) : ix_Ev o_X9_beside Q (48, ls, st, μ) = ix_push (vi 3) 49 (ix_Ev o_X9_beside Q) Q ls st μ := ix_Ev.eq (a_X9_beside launch0) rfl ls st μ
theorem e_X9_beside_49 (Q : ix_R → Prop) (ls : ix_L) (st : List ix_V) (μ : ix_M) : ix_Ev o_X9_beside Q (49, ls, st, μ) = ix_cmp (fun x y => y ≤ x) 58 52 (ix_Ev o_X9_beside Q) Q ls st μ := ix_Ev.eq (a_X9_beside launch0) rfl ls st μ
theorem e_X9_beside_52 (Q : ix_R → Prop) (ls : ix_L) (st : List ix_V) (μ : ix_M) : ix_Ev o_X9_beside Q (52, ls, st, μ) = ix_iload 0 53 (ix_Ev o_X9_beside Q) Q ls st μ := ix_Ev.eq (a_X9_beside launch0) rfl ls st μ
theorem e_X9_beside_53 (Q : ix_R → Prop) (ls : ix_L) (st : List ix_V) (μ : ix_M) : ix_Ev o_X9_beside Q (53, ls, st, μ) = ix_push (vi 1) 54 (ix_Ev o_X9_beside Q) Q ls st μ := ix_Ev.eq (a_X9_beside launch0) rfl ls st μ
theorem e_X9_beside_54 (Q : ix_R → Prop) (ls : ix_L) (st : List ix_V) (μ : ix_M) : ix_Ev o_X9_beside Q (54, ls, st, μ) = ix_bin (fun x y => x + y) 55 (ix_Ev o_X9_beside Q) Q ls st μ := ix_Ev.eq (a_X9_beside launch0) rfl ls st μ
theorem e_X9_beside_55 (Q : ix_R → Prop) (ls : ix_L) (st : List ix_V) (μ : ix_M) : ix_Ev o_X9_beside Q (55, ls, st, μ) = ix_goto 59 (ix_Ev o_X9_beside Q) Q ls st μ := ix_Ev.eq (a_X9_beside launch0) rfl ls st μ
theorem e_X9_beside_58 (Q : ix_R → Prop) (ls : ix_L) (st : List ix_V) (μ : ix_M) : ix_Ev o_X9_beside Q (58, ls, st, μ) = ix_iload 0 59 (ix_Ev o_X9_beside Q) Q ls st μ := ix_Ev.eq (a_X9_beside launch0) rfl ls st μ
theorem e_X9_beside_59 (Q : ix_R → Prop) (ls : ix_L) (st : List ix_V) (μ : ix_M) : ix_Ev o_X9_beside Q (59, ls, st, μ) = ix_iret (ix_Ev o_X9_beside Q) Q ls st μ := ix_Ev.eq (a_X9_beside launch0) rfl ls st μ
theorem e_X9_beside_60 (Q : ix_R → Prop) (ls : ix_L) (st : List ix_V) (μ : ix_M) : ix_Ev o_X9_beside Q (60, ls, st, μ) = ix_iload 0 61 (ix_Ev o_X9_beside Q) Q ls st μ := ix_Ev.eq (a_X9_beside launch0) rfl ls st μ
theorem e_X9_beside_61 (Q : ix_R → Prop) (ls : ix_L) (st : List ix_V) (μ : ix_M) : ix_Ev o_X9_beside Q (61, ls, st, μ) = ix_push (vi 12) 63 (ix_Ev o_X9_beside Q) Q ls st μ := ix_Ev.eq (a_X9_beside launch0) rfl ls st μ
theorem e_X9_beside_63 (Q : ix_R → Prop) (ls : ix_L) (st : List ix_V) (μ : ix_M) : ix_Ev o_X9_beside Q (63, ls, st, μ) = ix_cmp (fun x y => y ≤ x) 72 66 (ix_Ev o_X9_beside Q) Q ls st μ := ix_Ev.eq (a_X9_beside launch0) rfl ls st μ
theorem e_X9_beside_66 (Q : ix_R → Prop) (ls : ix_L) (st : List ix_V) (μ : ix_M) : ix_Ev o_X9_beside Q (66, ls, st, μ) = ix_iload 0 67 (ix_Ev o_X9_beside Q) Q ls st μ := ix_Ev.eq (a_X9_beside launch0) rfl ls st μ
theorem e_X9_beside_67 (Q : ix_R → Prop) (ls : ix_L) (st : List ix_V) (μ : ix_M) : ix_Ev o_X9_beside Q (67, ls, st, μ) = ix_push (vi 4) 68 (ix_Ev o_X9_beside Q) Q ls st μ := ix_Ev.eq (a_X9_beside launch0) rfl ls st μ
theorem e_X9_beside_68 (Q : ix_R → Prop) (ls : ix_L) (st : List ix_V) (μ : ix_M) : ix_Ev o_X9_beside Q (68, ls, st, μ) = ix_bin (fun x y => x + y) 69 (ix_Ev o_X9_beside Q) Q ls st μ := ix_Ev.eq (a_X9_beside launch0) rfl ls st μ
theorem e_X9_beside_69 (Q : ix_R → Prop) (ls : ix_L) (st : List ix_V) (μ : ix_M) : ix_Ev o_X9_beside Q (69, ls, st, μ) = ix_goto 73 (ix_Ev o_X9_beside Q) Q ls st μ := ix_Ev.eq (a_X9_beside launch0) rfl ls st μ
theorem e_X9_beside_72 (Q : ix_R → Prop) (ls : ix_L) (st : List ix_V) (μ : ix_M) : ix_Ev o_X9_beside Q (72, ls, st, μ) = ix_iload 0 73 (ix_Ev o_X9_beside Q) Q ls st μ := ix_Ev.eq (a_X9_beside launch0) rfl ls st μ
theorem e_X9_beside_73 (Q : ix_R → Prop) (ls : ix_L) (st : List ix_V) (μ : ix_M) : ix_Ev o_X9_beside Q (73, ls, st, μ) = ix_iret (ix_Ev o_X9_beside Q) Q ls st μ := ix_Ev.eq (a_X9_beside launch0) rfl ls st μ
theorem e_X9_beside_74 (Q : ix_R → Prop) (ls : ix_L) (st : List ix_V) (μ : ix_M) : ix_Ev o_X9_beside Q (74, ls, st, μ) = ix_iload 0 75 (ix_Ev o_X9_beside Q) Q ls st μ := ix_Ev.eq (a_X9_beside launch0) rfl ls st μ
theorem e_X9_beside_75 (Q : ix_R → Prop) (ls : ix_L) (st : List ix_V) (μ : ix_M) : ix_Ev o_X9_beside Q (75, ls, st, μ) = ix_push (vi 4) 76 (ix_Ev o_X9_beside Q) Q ls st μ := ix_Ev.eq (a_X9_beside launch0) rfl ls st μ
theorem e_X9_beside_76 (Q : ix_R → Prop) (ls : ix_L) (st : List ix_V) (μ : ix_M) : ix_Ev o_X9_beside Q (76, ls, st, μ) = ix_div (fun x y => x - x / y * y) 77 (ix_Ev o_X9_beside Q) Q ls st μ := ix_Ev.eq (a_X9_beside launch0) rfl ls st μ
theorem e_X9_beside_77 (Q : ix_R → Prop) (ls : ix_L) (st : List ix_V) (μ : ix_M) : ix_Ev o_X9_beside Q (77, ls, st, μ) = ix_if (fun x => x ≤ 0) 86 80 (ix_Ev o_X9_beside Q) Q ls st μ := ix_Ev.eq (a_X9_beside launch0) rfl ls st μ
theorem e_X9_beside_80 (Q : ix_R → Prop) (ls : ix_L) (st : List ix_V) (μ : ix_M) : ix_Ev o_X9_beside Q (80, ls, st, μ) = ix_iload 0 81 (ix_Ev o_X9_beside Q) Q ls st μ := ix_Ev.eq (a_X9_beside launch0) rfl ls st μ
theorem e_X9_beside_81 (Q : ix_R → Prop) (ls : ix_L) (st : List ix_V) (μ : ix_M) : ix_Ev o_X9_beside Q (81, ls, st, μ) = ix_push (vi 1) 82 (ix_Ev o_X9_beside Q) Q ls st μ := ix_Ev.eq (a_X9_beside launch0) rfl ls st μ
theorem e_X9_beside_82 (Q : ix_R → Prop) (ls : ix_L) (st : List ix_V) (μ : ix_M) : ix_Ev o_X9_beside Q (82, ls, st, μ) = ix_bin (fun x y => x - y) 83 (ix_Ev o_X9_beside Q) Q ls st μ := ix_Ev.eq (a_X9_beside launch0) rfl ls st μ
theorem e_X9_beside_83 (Q : ix_R → Prop) (ls : ix_L) (st : List ix_V) (μ : ix_M) : ix_Ev o_X9_beside Q (83, ls, st, μ) = ix_goto 87 (ix_Ev o_X9_beside Q) Q ls st μ := ix_Ev.eq (a_X9_beside launch0) rfl ls st μ
theorem e_X9_beside_86 (Q : ix_R → Prop) (ls : ix_L) (st : List ix_V) (μ : ix_M) : ix_Ev o_X9_beside Q (86, ls, st, μ) = ix_iload 0 87 (ix_Ev o_X9_beside Q) Q ls st μ := ix_Ev.eq (a_X9_beside launch0) rfl ls st μ
theorem e_X9_beside_87 (Q : ix_R → Prop) (ls : ix_L) (st : List ix_V) (μ : ix_M) : ix_Ev o_X9_beside Q (87, ls, st, μ) = ix_iret (ix_Ev o_X9_beside Q) Q ls st μ := ix_Ev.eq (a_X9_beside launch0) rfl ls st μ
theorem e_X9_beside_88 (Q : ix_R → Prop) (ls : ix_L) (st : List ix_V) (μ : ix_M) : ix_Ev o_X9_beside Q (88, ls, st, μ) = ix_iload 0 89 (ix_Ev o_X9_beside Q) Q ls st μ := ix_Ev.eq (a_X9_beside launch0) rfl ls st μ
theorem e_X9_beside_89 (Q : ix_R → Prop) (ls : ix_L) (st : List ix_V) (μ : ix_M) : ix_Ev o_X9_beside Q (89, ls, st, μ) = ix_iret (ix_Ev o_X9_beside Q) Q ls st μ := ix_Ev.eq (a_X9_beside launch0) rfl ls st μ
theorem r_X9_beside (c : Int32) (w : Int32) (μ : ix_M) (Q : ix_R → Prop) (hT : T_X9_beside (c, w) μ Q) : ix_Ev o_X9_beside Q (0, [some (vi c), some (vi w)], [], μ) := by
  simp (decide := true) only [e_X9_beside_0, e_X9_beside_1, e_X9_beside_32, e_X9_beside_33, e_X9_beside_34, e_X9_beside_37, e_X9_beside_38, e_X9_beside_39, e_X9_beside_40, e_X9_beside_43, e_X9_beside_44, e_X9_beside_45, e_X9_beside_46, e_X9_beside_47, e_X9_beside_48, e_X9_beside_49, e_X9_beside_52, e_X9_beside_53, e_X9_beside_54, e_X9_beside_55, e_X9_beside_58, e_X9_beside_59, e_X9_beside_60, e_X9_beside_61, e_X9_beside_63, e_X9_beside_66, e_X9_beside_67, e_X9_beside_68, e_X9_beside_69, e_X9_beside_72, e_X9_beside_73, e_X9_beside_74, e_X9_beside_75, e_X9_beside_76, e_X9_beside_77, e_X9_beside_80, e_X9_beside_81, e_X9_beside_82, e_X9_beside_83, e_X9_beside_86, e_X9_beside_87, e_X9_beside_88, e_X9_beside_89, vi, vl, vr, ix_push, ix_iload, ix_lload, ix_aload, ix_istore, ix_astore, ix_iinc, ix_bin, ix_div, ix_un, ix_i2l, ix_l2i, ix_lbin, ix_lsh, ix_lcmp, ix_dup, ix_dup2, ix_pop, ix_if, ix_cmp, ix_goto, ix_switch, ix_sw, ix_iret, ix_zret, ix_vret, ix_aret, ix_geti, ix_getr, ix_puti, ix_putz, ix_puts, ix_gets, ix_iald, ix_iast, ix_alen, ix_aald, ix_gval, ix_gcod, ix_bald, ix_blen, ix_sald, ix_nret, ix_math2, ix_math1, ix_acopy, Nat.add_assoc, Int32.reduceLT, Int32.reduceLE, Int32.reduceToNatClampNeg, Int32.reduceSub, Int32.reduceAdd, Nat.reduceAdd, Nat.reduceLeDiff, true_or, or_true, or_false, false_or, not_false_eq_true, not_true_eq_false, false_implies, true_implies, implies_true, and_self, mB_0, mB_01, Classical.not_not, Nat.zero_le, List.getElem?_cons_zero, List.getElem?_cons_succ, List.set_cons_zero, List.set_cons_succ, ix_nl, ix_cs, true_and, and_true, Option.toList_some, Option.toList_none, List.cons_append, List.nil_append]
  simp only [T_X9_beside, mBes, rem, vi, vl, vr] at hT
  repeat' (first | refine And.intro ?_ ?_ | intro _)
  all_goals (first | exact hT | (simp only [*, if_true, if_false, not_true_eq_false, not_false_eq_true, and_true, true_and, and_false, false_and, or_true, true_or, or_false, false_or, and_self, or_self] at hT; exact hT) | (simp only [← Int32.not_lt, Classical.not_not] at *; simp only [*, if_true, if_false, not_true_eq_false, not_false_eq_true, and_true, true_and, and_false, false_and, or_true, true_or, or_false, false_or, and_self, or_self] at hT; exact hT) | (simp_all; done))
theorem k_X9_beside (l : Launch) : ix_Ct l yX9_beside cX9_beside 2 (some .int) 1 sh_X9_beside T_X9_beside := ix_ct (a_X9_beside l) rfl (by decide) (fun _ => Nat.le_of_ble_eq_true rfl) (fun x μ Q hok hT => r_X9_beside x.1 x.2 μ Q  hT)
def T_X9_had : Nat → ix_M → (ix_R → Prop) → Prop := fun w μ Q => (0 ≤ (μ w 7).toInt ∧ (μ w 7).toInt ≤ 8) ∧ Q (some (vi (mSum (μ (w + 7)) (μ w 7).toNatClampNeg)), μ)
def sh_X9_had (x : Nat) : List ix_V := [vr 8 x]
theorem mo_X9_had (x : Nat) (μ : ix_M) (Q Q' : ix_R → Prop) (h : ∀ r, Q r → Q' r) (hT : T_X9_had x μ Q) : T_X9_had x μ Q' := by
  first | exact h _ hT | exact ⟨hT.1, h _ hT.2⟩ | exact fun r hr => h _ (hT r hr) | exact ⟨hT.1, fun r hr => h _ (hT.2 r hr)⟩ | exact ⟨hT.1, hT.2.1, fun r hr => h _ (hT.2.2 r hr)⟩
def oc_X9_had (n : Nat) : ix_Op := fun k _ ls st μ => match st with
  | .inr (.inr (t0, a0)) :: r => t0 = 8 ∧ ix_cs r ≤ 8 ∧ T_X9_had a0 μ (fun q => k (n, ls, q.1.toList ++ r, q.2))
  | _ => False
theorem oc_X9_had_s {l : Launch} {cc : ByteArray} {nL : Nat} {own : String} {d : Nat} {rt : Option FieldType} {pc n : Nat} (h : ix_S l cc nL own d rt pc (ix_call 1 sh_X9_had T_X9_had n)) : ix_S l cc nL own d rt pc (oc_X9_had n) := by
  refine h.by (fun k Q ls st μ h => ?_) (fun k k' Q ls st μ hk h => ?_)
  · unfold oc_X9_had at h
    split at h
    · rename_i t0 a0 r
      obtain ⟨rfl, h1, h2⟩ := h
      exact ⟨h1, a0, rfl, _, h2, fun r h => h⟩
    · exact h.elim
  · unfold oc_X9_had at h ⊢
    split at h
    · obtain ⟨rfl, h1, h2⟩ := h
      exact ⟨rfl, h1, mo_X9_had _ _ _ _ (fun q hq => hk _ hq) h2⟩
    · exact h.elim
def o_X9_had : List (Nat × ix_Op) := [
  (0, ix_aload 0 1),
  (1, ix_getr 8 20 (fun k => k + 7) 4),
  (4, ix_aload 0 5),
  (5, ix_geti 8 7 8),
  (8, oc_X10_sum 11),
  (11, ix_iret)]
set_option maxRecDepth 20000 in
theorem a_X9_had (l : Launch) : ix_AllS l cX9_had 1 RX9 2 (some .int) o_X9_had :=
  .cons (ix_s_aload_n dX9_had_0 rfl) <|
  .cons (ix_s_getr (j := 6) tu_X9 rfl (by decide) (by decide) tw_52 rfl ts_8_6_r dX9_had_1) <|
  .cons (ix_s_aload_n dX9_had_4 rfl) <|
  .cons (ix_s_geti (j := 7) tu_X9 rfl (by decide) (by decide) tw_56 rfl ts_8_7_i dX9_had_5) <|
  .cons (oc_X10_sum_s (ix_s_callsN (host := "IndigoBoats") (k_X10_sum l) (by decide) (by decide) tw_620 tw_1 (by decide +kernel) tw_619 ⟨by decide, by decide, by decide +kernel⟩ (fun _ => rfl) dX9_had_8)) <|
  .cons (ix_s_iret dX9_had_11 rfl) <| .nil
theorem e_X9_had_0 (Q : ix_R → Prop) (ls : ix_L) (st : List ix_V) (μ : ix_M) : ix_Ev o_X9_had Q (0, ls, st, μ) = ix_aload 0 1 (ix_Ev o_X9_had Q) Q ls st μ := ix_Ev.eq (a_X9_had launch0) rfl ls st μ
theorem e_X9_had_1 (Q : ix_R → Prop) (ls : ix_L) (st : List ix_V) (μ : ix_M) : ix_Ev o_X9_had Q (1, ls, st, μ) = ix_getr 8 20 (fun k => k + 7) 4 (ix_Ev o_X9_had Q) Q ls st μ := ix_Ev.eq (a_X9_had launch0) rfl ls st μ
theorem e_X9_had_4 (Q : ix_R → Prop) (ls : ix_L) (st : List ix_V) (μ : ix_M) : ix_Ev o_X9_had Q (4, ls, st, μ) = ix_aload 0 5 (ix_Ev o_X9_had Q) Q ls st μ := ix_Ev.eq (a_X9_had launch0) rfl ls st μ
theorem e_X9_had_5 (Q : ix_R → Prop) (ls : ix_L) (st : List ix_V) (μ : ix_M) : ix_Ev o_X9_had Q (5, ls, st, μ) = ix_geti 8 7 8 (ix_Ev o_X9_had Q) Q ls st μ := ix_Ev.eq (a_X9_had launch0) rfl ls st μ
theorem e_X9_had_8 (Q : ix_R → Prop) (ls : ix_L) (st : List ix_V) (μ : ix_M) : ix_Ev o_X9_had Q (8, ls, st, μ) = oc_X10_sum 11 (ix_Ev o_X9_had Q) Q ls st μ := ix_Ev.eq (a_X9_had launch0) rfl ls st μ
theorem e_X9_had_11 (Q : ix_R → Prop) (ls : ix_L) (st : List ix_V) (μ : ix_M) : ix_Ev o_X9_had Q (11, ls, st, μ) = ix_iret (ix_Ev o_X9_had Q) Q ls st μ := ix_Ev.eq (a_X9_had launch0) rfl ls st μ
theorem r_X9_had (w : Nat) (μ : ix_M) (Q : ix_R → Prop) (ok_w : w < ix_N ∧ ix_tag w = 8) (hT : T_X9_had w μ Q) : ix_Ev o_X9_had Q (0, [some (vr 8 w)], [], μ) := by
  have hw := (ok_water w ok_w.1 ok_w.2).2
  simp (decide := true) only [e_X9_had_0, e_X9_had_1, e_X9_had_4, e_X9_had_5, e_X9_had_8, e_X9_had_11, vi, vl, vr, oc_X10_sum, T_X10_sum, ix_push, ix_iload, ix_lload, ix_aload, ix_istore, ix_astore, ix_iinc, ix_bin, ix_div, ix_un, ix_i2l, ix_l2i, ix_lbin, ix_lsh, ix_lcmp, ix_dup, ix_dup2, ix_pop, ix_if, ix_cmp, ix_goto, ix_switch, ix_sw, ix_iret, ix_zret, ix_vret, ix_aret, ix_geti, ix_getr, ix_puti, ix_putz, ix_puts, ix_gets, ix_iald, ix_iast, ix_alen, ix_aald, ix_gval, ix_gcod, ix_bald, ix_blen, ix_sald, ix_nret, ix_math2, ix_math1, ix_acopy, Nat.add_assoc, Int32.reduceLT, Int32.reduceLE, Int32.reduceToNatClampNeg, Int32.reduceSub, Int32.reduceAdd, Nat.reduceAdd, Nat.reduceLeDiff, true_or, or_true, or_false, false_or, not_false_eq_true, not_true_eq_false, false_implies, true_implies, implies_true, and_self, mB_0, mB_01, Classical.not_not, Nat.zero_le, List.getElem?_cons_zero, List.getElem?_cons_succ, List.set_cons_zero, List.set_cons_succ, ix_nl, ix_cs, true_and, and_true, Option.toList_some, Option.toList_none, List.cons_append, List.nil_append, hw]
  exact hT
theorem k_X9_had (l : Launch) : ix_Ct l yX9_had cX9_had 1 (some .int) 2 sh_X9_had T_X9_had := ix_ct (a_X9_had l) rfl (by decide) (fun _ => Nat.le_of_ble_eq_true rfl) (fun x μ Q hok hT => r_X9_had x μ Q (ix_ok_at (hok (vr 8 x) (by simp [sh_X9_had])) (by decide) (by decide)) hT)
def T_X9_lying : Nat → ix_M → (ix_R → Prop) → Prop := fun w μ Q => Q (some (vi (mSum (μ (w + 2)) 16)), μ)
def sh_X9_lying (x : Nat) : List ix_V := [vr 8 x]
theorem mo_X9_lying (x : Nat) (μ : ix_M) (Q Q' : ix_R → Prop) (h : ∀ r, Q r → Q' r) (hT : T_X9_lying x μ Q) : T_X9_lying x μ Q' := by
  first | exact h _ hT | exact ⟨hT.1, h _ hT.2⟩ | exact fun r hr => h _ (hT r hr) | exact ⟨hT.1, fun r hr => h _ (hT.2 r hr)⟩ | exact ⟨hT.1, hT.2.1, fun r hr => h _ (hT.2.2 r hr)⟩
def oc_X9_lying (n : Nat) : ix_Op := fun k _ ls st μ => match st with
  | .inr (.inr (t0, a0)) :: r => t0 = 8 ∧ ix_cs r ≤ 8 ∧ T_X9_lying a0 μ (fun q => k (n, ls, q.1.toList ++ r, q.2))
  | _ => False
theorem oc_X9_lying_s {l : Launch} {cc : ByteArray} {nL : Nat} {own : String} {d : Nat} {rt : Option FieldType} {pc n : Nat} (h : ix_S l cc nL own d rt pc (ix_call 1 sh_X9_lying T_X9_lying n)) : ix_S l cc nL own d rt pc (oc_X9_lying n) := by
  refine h.by (fun k Q ls st μ h => ?_) (fun k k' Q ls st μ hk h => ?_)
  · unfold oc_X9_lying at h
    split at h
    · rename_i t0 a0 r
      obtain ⟨rfl, h1, h2⟩ := h
      exact ⟨h1, a0, rfl, _, h2, fun r h => h⟩
    · exact h.elim
  · unfold oc_X9_lying at h ⊢
    split at h
    · obtain ⟨rfl, h1, h2⟩ := h
      exact ⟨rfl, h1, mo_X9_lying _ _ _ _ (fun q hq => hk _ hq) h2⟩
    · exact h.elim
def o_X9_lying : List (Nat × ix_Op) := [
  (0, ix_aload 0 1),
  (1, ix_getr 8 20 (fun k => k + 2) 4),
  (4, ix_push (vi 16) 6),
  (6, oc_X10_sum 9),
  (9, ix_iret)]
set_option maxRecDepth 20000 in
theorem a_X9_lying (l : Launch) : ix_AllS l cX9_lying 1 RX9 2 (some .int) o_X9_lying :=
  .cons (ix_s_aload_n dX9_lying_0 rfl) <|
  .cons (ix_s_getr (j := 1) tu_X9 rfl (by decide) (by decide) tw_42 rfl ts_8_1_r dX9_lying_1) <|
  .cons (ix_s_bipush dX9_lying_4 (by decide +kernel)) <|
  .cons (oc_X10_sum_s (ix_s_callsN (host := "IndigoBoats") (k_X10_sum l) (by decide) (by decide) tw_620 tw_1 (by decide +kernel) tw_619 ⟨by decide, by decide, by decide +kernel⟩ (fun _ => rfl) dX9_lying_6)) <|
  .cons (ix_s_iret dX9_lying_9 rfl) <| .nil
theorem e_X9_lying_0 (Q : ix_R → Prop) (ls : ix_L) (st : List ix_V) (μ : ix_M) : ix_Ev o_X9_lying Q (0, ls, st, μ) = ix_aload 0 1 (ix_Ev o_X9_lying Q) Q ls st μ := ix_Ev.eq (a_X9_lying launch0) rfl ls st μ
theorem e_X9_lying_1 (Q : ix_R → Prop) (ls : ix_L) (st : List ix_V) (μ : ix_M) : ix_Ev o_X9_lying Q (1, ls, st, μ) = ix_getr 8 20 (fun k => k + 2) 4 (ix_Ev o_X9_lying Q) Q ls st μ := ix_Ev.eq (a_X9_lying launch0) rfl ls st μ
theorem e_X9_lying_4 (Q : ix_R → Prop) (ls : ix_L) (st : List ix_V) (μ : ix_M) : ix_Ev o_X9_lying Q (4, ls, st, μ) = ix_push (vi 16) 6 (ix_Ev o_X9_lying Q) Q ls st μ := ix_Ev.eq (a_X9_lying launch0) rfl ls st μ
theorem e_X9_lying_6 (Q : ix_R → Prop) (ls : ix_L) (st : List ix_V) (μ : ix_M) : ix_Ev o_X9_lying Q (6, ls, st, μ) = oc_X10_sum 9 (ix_Ev o_X9_lying Q) Q ls st μ := ix_Ev.eq (a_X9_lying launch0) rfl ls st μ
theorem e_X9_lying_9 (Q : ix_R → Prop) (ls : ix_L) (st : List ix_V) (μ : ix_M) : ix_Ev o_X9_lying Q (9, ls, st, μ) = ix_iret (ix_Ev o_X9_lying Q) Q ls st μ := ix_Ev.eq (a_X9_lying launch0) rfl ls st μ
theorem r_X9_lying (w : Nat) (μ : ix_M) (Q : ix_R → Prop) (ok_w : w < ix_N ∧ ix_tag w = 8) (hT : T_X9_lying w μ Q) : ix_Ev o_X9_lying Q (0, [some (vr 8 w)], [], μ) := by
  have hw := (ok_water w ok_w.1 ok_w.2).2
  simp (decide := true) only [e_X9_lying_0, e_X9_lying_1, e_X9_lying_4, e_X9_lying_6, e_X9_lying_9, vi, vl, vr, oc_X10_sum, T_X10_sum, ix_push, ix_iload, ix_lload, ix_aload, ix_istore, ix_astore, ix_iinc, ix_bin, ix_div, ix_un, ix_i2l, ix_l2i, ix_lbin, ix_lsh, ix_lcmp, ix_dup, ix_dup2, ix_pop, ix_if, ix_cmp, ix_goto, ix_switch, ix_sw, ix_iret, ix_zret, ix_vret, ix_aret, ix_geti, ix_getr, ix_puti, ix_putz, ix_puts, ix_gets, ix_iald, ix_iast, ix_alen, ix_aald, ix_gval, ix_gcod, ix_bald, ix_blen, ix_sald, ix_nret, ix_math2, ix_math1, ix_acopy, Nat.add_assoc, Int32.reduceLT, Int32.reduceLE, Int32.reduceToNatClampNeg, Int32.reduceSub, Int32.reduceAdd, Nat.reduceAdd, Nat.reduceLeDiff, true_or, or_true, or_false, false_or, not_false_eq_true, not_true_eq_false, false_implies, true_implies, implies_true, and_self, mB_0, mB_01, Classical.not_not, Nat.zero_le, List.getElem?_cons_zero, List.getElem?_cons_succ, List.set_cons_zero, List.set_cons_succ, ix_nl, ix_cs, true_and, and_true, Option.toList_some, Option.toList_none, List.cons_append, List.nil_append, hw]
  exact hT
theorem k_X9_lying (l : Launch) : ix_Ct l yX9_lying cX9_lying 1 (some .int) 2 sh_X9_lying T_X9_lying := ix_ct (a_X9_lying l) rfl (by decide) (fun _ => Nat.le_of_ble_eq_true rfl) (fun x μ Q hok hT => r_X9_lying x μ Q (ix_ok_at (hok (vr 8 x) (by simp [sh_X9_lying])) (by decide) (by decide)) hT)
def mOn (f : Nat → Int32) (c : Int32) (n : Nat) : Int32 := match n with
  | 0 => 0
  | n + 1 => if f n = c then mOn f c n ||| (1 <<< (nI n &&& 31)) else mOn f c n
def T_X9_boatsOn : Nat × Int32 → ix_M → (ix_R → Prop) → Prop := fun (w, c) μ Q => (0 ≤ (μ w 7).toInt ∧ (μ w 7).toInt ≤ 8) ∧ Q (some (vi (mOn (μ (w + 6)) c (μ w 7).toNatClampNeg)), μ)
def sh_X9_boatsOn (x : Nat × Int32) : List ix_V := [vr 8 x.1, vi x.2]
theorem mo_X9_boatsOn (x : Nat × Int32) (μ : ix_M) (Q Q' : ix_R → Prop) (h : ∀ r, Q r → Q' r) (hT : T_X9_boatsOn x μ Q) : T_X9_boatsOn x μ Q' := by
  obtain ⟨a0, a1⟩ := x
  first | exact h _ hT | exact ⟨hT.1, h _ hT.2⟩ | exact fun r hr => h _ (hT r hr) | exact ⟨hT.1, fun r hr => h _ (hT.2 r hr)⟩ | exact ⟨hT.1, hT.2.1, fun r hr => h _ (hT.2.2 r hr)⟩
def oc_X9_boatsOn (n : Nat) : ix_Op := fun k _ ls st μ => match st with
  | .inl a1 :: .inr (.inr (t0, a0)) :: r => t0 = 8 ∧ ix_cs r ≤ 8 ∧ T_X9_boatsOn (a0, a1) μ (fun q => k (n, ls, q.1.toList ++ r, q.2))
  | _ => False
theorem oc_X9_boatsOn_s {l : Launch} {cc : ByteArray} {nL : Nat} {own : String} {d : Nat} {rt : Option FieldType} {pc n : Nat} (h : ix_S l cc nL own d rt pc (ix_call 2 sh_X9_boatsOn T_X9_boatsOn n)) : ix_S l cc nL own d rt pc (oc_X9_boatsOn n) := by
  refine h.by (fun k Q ls st μ h => ?_) (fun k k' Q ls st μ hk h => ?_)
  · unfold oc_X9_boatsOn at h
    split at h
    · rename_i a1 t0 a0 r
      obtain ⟨rfl, h1, h2⟩ := h
      exact ⟨h1, (a0, a1), rfl, _, h2, fun r h => h⟩
    · exact h.elim
  · unfold oc_X9_boatsOn at h ⊢
    split at h
    · obtain ⟨rfl, h1, h2⟩ := h
      exact ⟨rfl, h1, mo_X9_boatsOn _ _ _ _ (fun q hq => hk _ hq) h2⟩
    · exact h.elim
def o_X9_boatsOn : List (Nat × ix_Op) := [
  (0, ix_push (vi 0) 1),
  (1, ix_istore 2 2),
  (2, ix_push (vi 0) 3),
  (3, ix_istore 3 4),
  (4, ix_iload 3 5),
  (5, ix_aload 0 6),
  (6, ix_geti 8 7 9),
  (9, ix_cmp (fun x y => y ≤ x) 34 12),
  (12, ix_aload 0 13),
  (13, ix_getr 8 20 (fun k => k + 6) 16),
  (16, ix_iload 3 17),
  (17, ix_iald 18),
  (18, ix_iload 1 19),
  (19, ix_cmp (fun x y => x = y) 22 28),
  (22, ix_iload 2 23),
  (23, ix_push (vi 1) 24),
  (24, ix_iload 3 25),
  (25, ix_bin (fun x y => x <<< (y &&& 31)) 26),
  (26, ix_bin (fun x y => x ||| y) 27),
  (27, ix_istore 2 28),
  (28, ix_iinc 3 1 31),
  (31, ix_goto 4),
  (34, ix_iload 2 35),
  (35, ix_iret)]
set_option maxRecDepth 20000 in
theorem a_X9_boatsOn (l : Launch) : ix_AllS l cX9_boatsOn 4 RX9 1 (some .int) o_X9_boatsOn :=
  .cons (ix_s_iconst dX9_boatsOn_0 (by decide +kernel)) <|
  .cons (ix_s_istore_n dX9_boatsOn_1 rfl (by decide)) <|
  .cons (ix_s_iconst dX9_boatsOn_2 (by decide +kernel)) <|
  .cons (ix_s_istore_n dX9_boatsOn_3 rfl (by decide)) <|
  .cons (ix_s_iload_n dX9_boatsOn_4 rfl) <|
  .cons (ix_s_aload_n dX9_boatsOn_5 rfl) <|
  .cons (ix_s_geti (j := 7) tu_X9 rfl (by decide) (by decide) tw_56 rfl ts_8_7_i dX9_boatsOn_6) <|
  .cons (ix_s_cmp_ge dX9_boatsOn_9 (by decide)) <|
  .cons (ix_s_aload_n dX9_boatsOn_12 rfl) <|
  .cons (ix_s_getr (j := 5) tu_X9 rfl (by decide) (by decide) tw_50 rfl ts_8_5_r dX9_boatsOn_13) <|
  .cons (ix_s_iload_n dX9_boatsOn_16 rfl) <|
  .cons (ix_s_iald dX9_boatsOn_17) <|
  .cons (ix_s_iload_n dX9_boatsOn_18 rfl) <|
  .cons (ix_s_cmp_ne dX9_boatsOn_19 (by decide)) <|
  .cons (ix_s_iload_n dX9_boatsOn_22 rfl) <|
  .cons (ix_s_iconst dX9_boatsOn_23 (by decide +kernel)) <|
  .cons (ix_s_iload_n dX9_boatsOn_24 rfl) <|
  .cons (ix_s_ishl dX9_boatsOn_25) <|
  .cons (ix_s_ior dX9_boatsOn_26) <|
  .cons (ix_s_istore_n dX9_boatsOn_27 rfl (by decide)) <|
  .cons (ix_s_iinc dX9_boatsOn_28 (by decide +kernel) (by decide)) <|
  .cons (ix_s_goto dX9_boatsOn_31 (by decide)) <|
  .cons (ix_s_iload_n dX9_boatsOn_34 rfl) <|
  .cons (ix_s_iret dX9_boatsOn_35 rfl) <| .nil
theorem e_X9_boatsOn_0 (Q : ix_R → Prop) (ls : ix_L) (st : List ix_V) (μ : ix_M) : ix_Ev o_X9_boatsOn Q (0, ls, st, μ) = ix_push (vi 0) 1 (ix_Ev o_X9_boatsOn Q) Q ls st μ := ix_Ev.eq (a_X9_boatsOn launch0) rfl ls st μ
theorem e_X9_boatsOn_1 (Q : ix_R → Prop) (ls : ix_L) (st : List ix_V) (μ : ix_M) : ix_Ev o_X9_boatsOn Q (1, ls, st, μ) = ix_istore 2 2 (ix_Ev o_X9_boatsOn Q) Q ls st μ := ix_Ev.eq (a_X9_boatsOn launch0) rfl ls st μ
theorem e_X9_boatsOn_2 (Q : ix_R → Prop) (ls : ix_L) (st : List ix_V) (μ : ix_M) : ix_Ev o_X9_boatsOn Q (2, ls, st, μ) = ix_push (vi 0) 3 (ix_Ev o_X9_boatsOn Q) Q ls st μ := ix_Ev.eq (a_X9_boatsOn launch0) rfl ls st μ
theorem e_X9_boatsOn_3 (Q : ix_R → Prop) (ls : ix_L) (st : List ix_V) (μ : ix_M) : ix_Ev o_X9_boatsOn Q (3, ls, st, μ) = ix_istore 3 4 (ix_Ev o_X9_boatsOn Q) Q ls st μ := ix_Ev.eq (a_X9_boatsOn launch0) rfl ls st μ
theorem e_X9_boatsOn_4 (Q : ix_R → Prop) (ls : ix_L) (st : List ix_V) (μ : ix_M) : ix_Ev o_X9_boatsOn Q (4, ls, st, μ) = ix_iload 3 5 (ix_Ev o_X9_boatsOn Q) Q ls st μ := ix_Ev.eq (a_X9_boatsOn launch0) rfl ls st μ
theorem e_X9_boatsOn_5 (Q : ix_R → Prop) (ls : ix_L) (st : List ix_V) (μ : ix_M) : ix_Ev o_X9_boatsOn Q (5, ls, st, μ) = ix_aload 0 6 (ix_Ev o_X9_boatsOn Q) Q ls st μ := ix_Ev.eq (a_X9_boatsOn launch0) rfl ls st μ
theorem e_X9_boatsOn_6 (Q : ix_R → Prop) (ls : ix_L) (st : List ix_V) (μ : ix_M) : ix_Ev o_X9_boatsOn Q (6, ls, st, μ) = ix_geti 8 7 9 (ix_Ev o_X9_boatsOn Q) Q ls st μ := ix_Ev.eq (a_X9_boatsOn launch0) rfl ls st μ
theorem e_X9_boatsOn_9 (Q : ix_R → Prop) (ls : ix_L) (st : List ix_V) (μ : ix_M) : ix_Ev o_X9_boatsOn Q (9, ls, st, μ) = ix_cmp (fun x y => y ≤ x) 34 12 (ix_Ev o_X9_boatsOn Q) Q ls st μ := ix_Ev.eq (a_X9_boatsOn launch0) rfl ls st μ
theorem e_X9_boatsOn_12 (Q : ix_R → Prop) (ls : ix_L) (st : List ix_V) (μ : ix_M) : ix_Ev o_X9_boatsOn Q (12, ls, st, μ) = ix_aload 0 13 (ix_Ev o_X9_boatsOn Q) Q ls st μ := ix_Ev.eq (a_X9_boatsOn launch0) rfl ls st μ
theorem e_X9_boatsOn_13 (Q : ix_R → Prop) (ls : ix_L) (st : List ix_V) (μ : ix_M) : ix_Ev o_X9_boatsOn Q (13, ls, st, μ) = ix_getr 8 20 (fun k => k + 6) 16 (ix_Ev o_X9_boatsOn Q) Q ls st μ := ix_Ev.eq (a_X9_boatsOn launch0) rfl ls st μ
theorem e_X9_boatsOn_16 (Q : ix_R → Prop) (ls : ix_L) (st : List ix_V) (μ : ix_M) : ix_Ev o_X9_boatsOn Q (16, ls, st, μ) = ix_iload 3 17 (ix_Ev o_X9_boatsOn Q) Q ls st μ := ix_Ev.eq (a_X9_boatsOn launch0) rfl ls st μ
theorem e_X9_boatsOn_17 (Q : ix_R → Prop) (ls : ix_L) (st : List ix_V) (μ : ix_M) : ix_Ev o_X9_boatsOn Q (17, ls, st, μ) = ix_iald 18 (ix_Ev o_X9_boatsOn Q) Q ls st μ := ix_Ev.eq (a_X9_boatsOn launch0) rfl ls st μ
theorem e_X9_boatsOn_18 (Q : ix_R → Prop) (ls : ix_L) (st : List ix_V) (μ : ix_M) : ix_Ev o_X9_boatsOn Q (18, ls, st, μ) = ix_iload 1 19 (ix_Ev o_X9_boatsOn Q) Q ls st μ := ix_Ev.eq (a_X9_boatsOn launch0) rfl ls st μ
theorem e_X9_boatsOn_19 (Q : ix_R → Prop) (ls : ix_L) (st : List ix_V) (μ : ix_M) : ix_Ev o_X9_boatsOn Q (19, ls, st, μ) = ix_cmp (fun x y => x = y) 22 28 (ix_Ev o_X9_boatsOn Q) Q ls st μ := ix_Ev.eq (a_X9_boatsOn launch0) rfl ls st μ
theorem e_X9_boatsOn_22 (Q : ix_R → Prop) (ls : ix_L) (st : List ix_V) (μ : ix_M) : ix_Ev o_X9_boatsOn Q (22, ls, st, μ) = ix_iload 2 23 (ix_Ev o_X9_boatsOn Q) Q ls st μ := ix_Ev.eq (a_X9_boatsOn launch0) rfl ls st μ
theorem e_X9_boatsOn_23 (Q : ix_R → Prop) (ls : ix_L) (st : List ix_V) (μ : ix_M) : ix_Ev o_X9_boatsOn Q (23, ls, st, μ) = ix_push (vi 1) 24 (ix_Ev o_X9_boatsOn Q) Q ls st μ := ix_Ev.eq (a_X9_boatsOn launch0) rfl ls st μ
theorem e_X9_boatsOn_24 (Q : ix_R → Prop) (ls : ix_L) (st : List ix_V) (μ : ix_M) : ix_Ev o_X9_boatsOn Q (24, ls, st, μ) = ix_iload 3 25 (ix_Ev o_X9_boatsOn Q) Q ls st μ := ix_Ev.eq (a_X9_boatsOn launch0) rfl ls st μ
theorem e_X9_boatsOn_25 (Q : ix_R → Prop) (ls : ix_L) (st : List ix_V) (μ : ix_M) : ix_Ev o_X9_boatsOn Q (25, ls, st, μ) = ix_bin (fun x y => x <<< (y &&& 31)) 26 (ix_Ev o_X9_boatsOn Q) Q ls st μ := ix_Ev.eq (a_X9_boatsOn launch0) rfl ls st μ
theorem e_X9_boatsOn_26 (Q : ix_R → Prop) (ls : ix_L) (st : List ix_V) (μ : ix_M) : ix_Ev o_X9_boatsOn Q (26, ls, st, μ) = ix_bin (fun x y => x ||| y) 27 (ix_Ev o_X9_boatsOn Q) Q ls st μ := ix_Ev.eq (a_X9_boatsOn launch0) rfl ls st μ
theorem e_X9_boatsOn_27 (Q : ix_R → Prop) (ls : ix_L) (st : List ix_V) (μ : ix_M) : ix_Ev o_X9_boatsOn Q (27, ls, st, μ) = ix_istore 2 28 (ix_Ev o_X9_boatsOn Q) Q ls st μ := ix_Ev.eq (a_X9_boatsOn launch0) rfl ls st μ
theorem e_X9_boatsOn_28 (Q : ix_R → Prop) (ls : ix_L) (st : List ix_V) (μ : ix_M) : ix_Ev o_X9_boatsOn Q (28, ls, st, μ) = ix_iinc 3 1 31 (ix_Ev o_X9_boatsOn Q) Q ls st μ := ix_Ev.eq (a_X9_boatsOn launch0) rfl ls st μ
theorem e_X9_boatsOn_31 (Q : ix_R → Prop) (ls : ix_L) (st : List ix_V) (μ : ix_M) : ix_Ev o_X9_boatsOn Q (31, ls, st, μ) = ix_goto 4 (ix_Ev o_X9_boatsOn Q) Q ls st μ := ix_Ev.eq (a_X9_boatsOn launch0) rfl ls st μ
theorem e_X9_boatsOn_34 (Q : ix_R → Prop) (ls : ix_L) (st : List ix_V) (μ : ix_M) : ix_Ev o_X9_boatsOn Q (34, ls, st, μ) = ix_iload 2 35 (ix_Ev o_X9_boatsOn Q) Q ls st μ := ix_Ev.eq (a_X9_boatsOn launch0) rfl ls st μ
theorem e_X9_boatsOn_35 (Q : ix_R → Prop) (ls : ix_L) (st : List ix_V) (μ : ix_M) : ix_Ev o_X9_boatsOn Q (35, ls, st, μ) = ix_iret (ix_Ev o_X9_boatsOn Q) Q ls st μ := ix_Ev.eq (a_X9_boatsOn launch0) rfl ls st μ
theorem l_X9_boatsOn (w : Nat) (c : Int32) (hl : ix_len (w + 6) = 8) (N : Nat) (hN : N ≤ 8) (μ : ix_M) (hb : μ w 7 = nI N) (Q : ix_R → Prop) (hQ : Q (some (vi (mOn (μ (w + 6)) c N)), μ)) : ∀ k i : Nat, i + k = N → ix_Ev o_X9_boatsOn Q (4, [some (vr 8 w), some (vi c), some (vi (mOn (μ (w + 6)) c i)), some (vi (nI i))], [], μ) := by
  intro k
  induction k with
  | zero =>
    intro i hi
    have hi : i = N := hi
    subst hi
    have hle : nI i ≤ nI i := Int32.le_refl _
    rw [e_X9_boatsOn_4]
    simp (decide := true) only [e_X9_boatsOn_0, e_X9_boatsOn_1, e_X9_boatsOn_2, e_X9_boatsOn_3, e_X9_boatsOn_5, e_X9_boatsOn_6, e_X9_boatsOn_9, e_X9_boatsOn_12, e_X9_boatsOn_13, e_X9_boatsOn_16, e_X9_boatsOn_17, e_X9_boatsOn_18, e_X9_boatsOn_19, e_X9_boatsOn_22, e_X9_boatsOn_23, e_X9_boatsOn_24, e_X9_boatsOn_25, e_X9_boatsOn_26, e_X9_boatsOn_27, e_X9_boatsOn_28, e_X9_boatsOn_31, e_X9_boatsOn_34, e_X9_boatsOn_35, vi, vl, vr, ix_push, ix_iload, ix_lload, ix_aload, ix_istore, ix_astore, ix_iinc, ix_bin, ix_div, ix_un, ix_i2l, ix_l2i, ix_lbin, ix_lsh, ix_lcmp, ix_dup, ix_dup2, ix_pop, ix_if, ix_cmp, ix_goto, ix_switch, ix_sw, ix_iret, ix_zret, ix_vret, ix_aret, ix_geti, ix_getr, ix_puti, ix_putz, ix_puts, ix_gets, ix_iald, ix_iast, ix_alen, ix_aald, ix_gval, ix_gcod, ix_bald, ix_blen, ix_sald, ix_nret, ix_math2, ix_math1, ix_acopy, Nat.add_assoc, Int32.reduceLT, Int32.reduceLE, Int32.reduceToNatClampNeg, Int32.reduceSub, Int32.reduceAdd, Nat.reduceAdd, Nat.reduceLeDiff, true_or, or_true, or_false, false_or, not_false_eq_true, not_true_eq_false, false_implies, true_implies, implies_true, and_self, mB_0, mB_01, Classical.not_not, Nat.zero_le, List.getElem?_cons_zero, List.getElem?_cons_succ, List.set_cons_zero, List.set_cons_succ, ix_nl, ix_cs, true_and, and_true, Option.toList_some, Option.toList_none, List.cons_append, List.nil_append, hb, hle]
    exact hQ
  | succ k ih =>
    intro i hi
    have hng : ¬ nI N ≤ nI i := nI_ge (by omega) (by omega)
    have hin : vp_in (nI i) 8 := vp_in_nI (by omega) (by omega)
    have hc : (nI i).toNatClampNeg = i := nI_clamp (by omega)
    rw [e_X9_boatsOn_4]
    simp (decide := true) only [e_X9_boatsOn_0, e_X9_boatsOn_1, e_X9_boatsOn_2, e_X9_boatsOn_3, e_X9_boatsOn_5, e_X9_boatsOn_6, e_X9_boatsOn_9, e_X9_boatsOn_12, e_X9_boatsOn_13, e_X9_boatsOn_16, e_X9_boatsOn_17, e_X9_boatsOn_18, e_X9_boatsOn_19, e_X9_boatsOn_22, e_X9_boatsOn_23, e_X9_boatsOn_24, e_X9_boatsOn_25, e_X9_boatsOn_26, e_X9_boatsOn_27, e_X9_boatsOn_28, e_X9_boatsOn_31, e_X9_boatsOn_34, e_X9_boatsOn_35, vi, vl, vr, ix_push, ix_iload, ix_lload, ix_aload, ix_istore, ix_astore, ix_iinc, ix_bin, ix_div, ix_un, ix_i2l, ix_l2i, ix_lbin, ix_lsh, ix_lcmp, ix_dup, ix_dup2, ix_pop, ix_if, ix_cmp, ix_goto, ix_switch, ix_sw, ix_iret, ix_zret, ix_vret, ix_aret, ix_geti, ix_getr, ix_puti, ix_putz, ix_puts, ix_gets, ix_iald, ix_iast, ix_alen, ix_aald, ix_gval, ix_gcod, ix_bald, ix_blen, ix_sald, ix_nret, ix_math2, ix_math1, ix_acopy, Nat.add_assoc, Int32.reduceLT, Int32.reduceLE, Int32.reduceToNatClampNeg, Int32.reduceSub, Int32.reduceAdd, Nat.reduceAdd, Nat.reduceLeDiff, true_or, or_true, or_false, false_or, not_false_eq_true, not_true_eq_false, false_implies, true_implies, implies_true, and_self, mB_0, mB_01, Classical.not_not, Nat.zero_le, List.getElem?_cons_zero, List.getElem?_cons_succ, List.set_cons_zero, List.set_cons_succ, ix_nl, ix_cs, true_and, and_true, Option.toList_some, Option.toList_none, List.cons_append, List.nil_append, hb, hng, hl, hin, hc]
    have := ih (i + 1) (by omega)
    rw [nI_1]
    refine ⟨fun e => ?_, fun e => ?_⟩
    · simp only [mOn, if_pos e] at this
      exact this
    · simp only [mOn, if_neg e] at this
      exact this
theorem nI_get {x : Int32} {n : Nat} (h1 : 0 ≤ x.toInt) (h2 : x.toInt ≤ n) (hn : n < 2 ^ 31) : ∃ j : Nat, j ≤ n ∧ x = nI j := by
  refine ⟨x.toInt.toNat, by omega, ?_⟩
  rw [fa_eq, nI_toInt (by omega)]
  omega
theorem r_X9_boatsOn (w : Nat) (c : Int32) (μ : ix_M) (Q : ix_R → Prop) (ok_w : w < ix_N ∧ ix_tag w = 8) (hT : T_X9_boatsOn (w, c) μ Q) : ix_Ev o_X9_boatsOn Q (0, [some (vr 8 w), some (vi c), none, none], [], μ) := by
  have hw := (ok_water w ok_w.1 ok_w.2).2
  obtain ⟨⟨h1, h2⟩, hT⟩ := hT
  obtain ⟨N, hN, hb⟩ := nI_get (n := 8) h1 h2 (by decide)
  rw [hb, nI_clamp (by omega)] at hT
  simp (decide := true) only [e_X9_boatsOn_0, e_X9_boatsOn_1, e_X9_boatsOn_2, e_X9_boatsOn_3, e_X9_boatsOn_5, e_X9_boatsOn_6, e_X9_boatsOn_9, e_X9_boatsOn_12, e_X9_boatsOn_13, e_X9_boatsOn_16, e_X9_boatsOn_17, e_X9_boatsOn_18, e_X9_boatsOn_19, e_X9_boatsOn_22, e_X9_boatsOn_23, e_X9_boatsOn_24, e_X9_boatsOn_25, e_X9_boatsOn_26, e_X9_boatsOn_27, e_X9_boatsOn_28, e_X9_boatsOn_31, e_X9_boatsOn_34, e_X9_boatsOn_35, vi, vl, vr, ix_push, ix_iload, ix_lload, ix_aload, ix_istore, ix_astore, ix_iinc, ix_bin, ix_div, ix_un, ix_i2l, ix_l2i, ix_lbin, ix_lsh, ix_lcmp, ix_dup, ix_dup2, ix_pop, ix_if, ix_cmp, ix_goto, ix_switch, ix_sw, ix_iret, ix_zret, ix_vret, ix_aret, ix_geti, ix_getr, ix_puti, ix_putz, ix_puts, ix_gets, ix_iald, ix_iast, ix_alen, ix_aald, ix_gval, ix_gcod, ix_bald, ix_blen, ix_sald, ix_nret, ix_math2, ix_math1, ix_acopy, Nat.add_assoc, Int32.reduceLT, Int32.reduceLE, Int32.reduceToNatClampNeg, Int32.reduceSub, Int32.reduceAdd, Nat.reduceAdd, Nat.reduceLeDiff, true_or, or_true, or_false, false_or, not_false_eq_true, not_true_eq_false, false_implies, true_implies, implies_true, and_self, mB_0, mB_01, Classical.not_not, Nat.zero_le, List.getElem?_cons_zero, List.getElem?_cons_succ, List.set_cons_zero, List.set_cons_succ, ix_nl, ix_cs, true_and, and_true, Option.toList_some, Option.toList_none, List.cons_append, List.nil_append]
  exact l_X9_boatsOn w c hw.2.2.2.2.2.1 N hN μ hb Q hT N 0 (by omega)
theorem k_X9_boatsOn (l : Launch) : ix_Ct l yX9_boatsOn cX9_boatsOn 4 (some .int) 1 sh_X9_boatsOn T_X9_boatsOn := ix_ct (a_X9_boatsOn l) rfl (by decide) (fun _ => Nat.le_of_ble_eq_true rfl) (fun x μ Q hok hT => r_X9_boatsOn x.1 x.2 μ Q (ix_ok_at (hok (vr 8 x.1) (by simp [sh_X9_boatsOn])) (by decide) (by decide)) hT)
def T_X9_launch : Nat × Int32 × Int32 → ix_M → (ix_R → Prop) → Prop := fun (w, km, c) μ Q => vp_in (μ w 7) 8 ∧ Q (some (vi (μ w 7)), ix_up (ix_up (ix_up (ix_up (ix_up μ (w + 4) (μ w 7).toNatClampNeg (km / 10)) (w + 5) (μ w 7).toNatClampNeg (rem km 10)) (w + 6) (μ w 7).toNatClampNeg c) (w + 7) (μ w 7).toNatClampNeg 0) w 7 (μ w 7 + 1))
def sh_X9_launch (x : Nat × Int32 × Int32) : List ix_V := [vr 8 x.1, vi x.2.1, vi x.2.2]
theorem mo_X9_launch (x : Nat × Int32 × Int32) (μ : ix_M) (Q Q' : ix_R → Prop) (h : ∀ r, Q r → Q' r) (hT : T_X9_launch x μ Q) : T_X9_launch x μ Q' := by
  obtain ⟨a0, a1, a2⟩ := x
  first | exact h _ hT | exact ⟨hT.1, h _ hT.2⟩ | exact fun r hr => h _ (hT r hr) | exact ⟨hT.1, fun r hr => h _ (hT.2 r hr)⟩ | exact ⟨hT.1, hT.2.1, fun r hr => h _ (hT.2.2 r hr)⟩
def oc_X9_launch (n : Nat) : ix_Op := fun k _ ls st μ => match st with
  | .inl a2 :: .inl a1 :: .inr (.inr (t0, a0)) :: r => t0 = 8 ∧ ix_cs r ≤ 8 ∧ T_X9_launch (a0, a1, a2) μ (fun q => k (n, ls, q.1.toList ++ r, q.2))
  | _ => False
theorem oc_X9_launch_s {l : Launch} {cc : ByteArray} {nL : Nat} {own : String} {d : Nat} {rt : Option FieldType} {pc n : Nat} (h : ix_S l cc nL own d rt pc (ix_call 3 sh_X9_launch T_X9_launch n)) : ix_S l cc nL own d rt pc (oc_X9_launch n) := by
  refine h.by (fun k Q ls st μ h => ?_) (fun k k' Q ls st μ hk h => ?_)
  · unfold oc_X9_launch at h
    split at h
    · rename_i a2 a1 t0 a0 r
      obtain ⟨rfl, h1, h2⟩ := h
      exact ⟨h1, (a0, a1, a2), rfl, _, h2, fun r h => h⟩
    · exact h.elim
  · unfold oc_X9_launch at h ⊢
    split at h
    · obtain ⟨rfl, h1, h2⟩ := h
      exact ⟨rfl, h1, mo_X9_launch _ _ _ _ (fun q hq => hk _ hq) h2⟩
    · exact h.elim
def o_X9_launch : List (Nat × ix_Op) := [
  (0, ix_aload 0 1),
  (1, ix_geti 8 7 4),
  (4, ix_istore 3 5),
  (5, ix_aload 0 6),
  (6, ix_getr 8 20 (fun k => k + 4) 9),
  (9, ix_iload 3 10),
  (10, ix_iload 1 11),
  (11, ix_push (vi 10) 13),
  (13, ix_div (fun x y => x / y) 14),
  (14, ix_iast 15),
  (15, ix_aload 0 16),
  (16, ix_getr 8 20 (fun k => k + 5) 19),
  (19, ix_iload 3 20),
  (20, ix_iload 1 21),
  (21, ix_push (vi 10) 23),
  (23, ix_div (fun x y => x - x / y * y) 24),
  (24, ix_iast 25),
  (25, ix_aload 0 26),
  (26, ix_getr 8 20 (fun k => k + 6) 29),
  (29, ix_iload 3 30),
  (30, ix_iload 2 31),
  (31, ix_iast 32),
  (32, ix_aload 0 33),
  (33, ix_getr 8 20 (fun k => k + 7) 36),
  (36, ix_iload 3 37),
  (37, ix_push (vi 0) 38),
  (38, ix_iast 39),
  (39, ix_aload 0 40),
  (40, ix_dup 41),
  (41, ix_geti 8 7 44),
  (44, ix_push (vi 1) 45),
  (45, ix_bin (fun x y => x + y) 46),
  (46, ix_puti 8 7 49),
  (49, ix_iload 3 50),
  (50, ix_iret)]
set_option maxRecDepth 20000 in
theorem a_X9_launch (l : Launch) : ix_AllS l cX9_launch 4 RX9 1 (some .int) o_X9_launch :=
  .cons (ix_s_aload_n dX9_launch_0 rfl) <|
  .cons (ix_s_geti (j := 7) tu_X9 rfl (by decide) (by decide) tw_56 rfl ts_8_7_i dX9_launch_1) <|
  .cons (ix_s_istore_n dX9_launch_4 rfl (by decide)) <|
  .cons (ix_s_aload_n dX9_launch_5 rfl) <|
  .cons (ix_s_getr (j := 3) tu_X9 rfl (by decide) (by decide) tw_46 rfl ts_8_3_r dX9_launch_6) <|
  .cons (ix_s_iload_n dX9_launch_9 rfl) <|
  .cons (ix_s_iload_n dX9_launch_10 rfl) <|
  .cons (ix_s_bipush dX9_launch_11 (by decide +kernel)) <|
  .cons (ix_s_idiv dX9_launch_13) <|
  .cons (ix_s_iast dX9_launch_14) <|
  .cons (ix_s_aload_n dX9_launch_15 rfl) <|
  .cons (ix_s_getr (j := 4) tu_X9 rfl (by decide) (by decide) tw_48 rfl ts_8_4_r dX9_launch_16) <|
  .cons (ix_s_iload_n dX9_launch_19 rfl) <|
  .cons (ix_s_iload_n dX9_launch_20 rfl) <|
  .cons (ix_s_bipush dX9_launch_21 (by decide +kernel)) <|
  .cons (ix_s_irem dX9_launch_23) <|
  .cons (ix_s_iast dX9_launch_24) <|
  .cons (ix_s_aload_n dX9_launch_25 rfl) <|
  .cons (ix_s_getr (j := 5) tu_X9 rfl (by decide) (by decide) tw_50 rfl ts_8_5_r dX9_launch_26) <|
  .cons (ix_s_iload_n dX9_launch_29 rfl) <|
  .cons (ix_s_iload_n dX9_launch_30 rfl) <|
  .cons (ix_s_iast dX9_launch_31) <|
  .cons (ix_s_aload_n dX9_launch_32 rfl) <|
  .cons (ix_s_getr (j := 6) tu_X9 rfl (by decide) (by decide) tw_52 rfl ts_8_6_r dX9_launch_33) <|
  .cons (ix_s_iload_n dX9_launch_36 rfl) <|
  .cons (ix_s_iconst dX9_launch_37 (by decide +kernel)) <|
  .cons (ix_s_iast dX9_launch_38) <|
  .cons (ix_s_aload_n dX9_launch_39 rfl) <|
  .cons (ix_s_dup dX9_launch_40) <|
  .cons (ix_s_geti (j := 7) tu_X9 rfl (by decide) (by decide) tw_56 rfl ts_8_7_i dX9_launch_41) <|
  .cons (ix_s_iconst dX9_launch_44 (by decide +kernel)) <|
  .cons (ix_s_iadd dX9_launch_45) <|
  .cons (ix_s_puti (j := 7) tu_X9 tyX9_ok nmX9 rfl (by decide) (by decide) tw_56 rfl rfl (by decide +kernel) ts_8_7_p dX9_launch_46) <|
  .cons (ix_s_iload_n dX9_launch_49 rfl) <|
  .cons (ix_s_iret dX9_launch_50 rfl) <| .nil
theorem e_X9_launch_0 (Q : ix_R → Prop) (ls : ix_L) (st : List ix_V) (μ : ix_M) : ix_Ev o_X9_launch Q (0, ls, st, μ) = ix_aload 0 1 (ix_Ev o_X9_launch Q) Q ls st μ := ix_Ev.eq (a_X9_launch launch0) rfl ls st μ
theorem e_X9_launch_1 (Q : ix_R → Prop) (ls : ix_L) (st : List ix_V) (μ : ix_M) : ix_Ev o_X9_launch Q (1, ls, st, μ) = ix_geti 8 7 4 (ix_Ev o_X9_launch Q) Q ls st μ := ix_Ev.eq (a_X9_launch launch0) rfl ls st μ
theorem e_X9_launch_4 (Q : ix_R → Prop) (ls : ix_L) (st : List ix_V) (μ : ix_M) : ix_Ev o_X9_launch Q (4, ls, st, μ) = ix_istore 3 5 (ix_Ev o_X9_launch Q) Q ls st μ := ix_Ev.eq (a_X9_launch launch0) rfl ls st μ
theorem e_X9_launch_5 (Q : ix_R → Prop) (ls : ix_L) (st : List ix_V) (μ : ix_M) : ix_Ev o_X9_launch Q (5, ls, st, μ) = ix_aload 0 6 (ix_Ev o_X9_launch Q) Q ls st μ := ix_Ev.eq (a_X9_launch launch0) rfl ls st μ
theorem e_X9_launch_6 (Q : ix_R → Prop) (ls : ix_L) (st : List ix_V) (μ : ix_M) : ix_Ev o_X9_launch Q (6, ls, st, μ) = ix_getr 8 20 (fun k => k + 4) 9 (ix_Ev o_X9_launch Q) Q ls st μ := ix_Ev.eq (a_X9_launch launch0) rfl ls st μ
theorem e_X9_launch_9 (Q : ix_R → Prop) (ls : ix_L) (st : List ix_V) (μ : ix_M) : ix_Ev o_X9_launch Q (9, ls, st, μ) = ix_iload 3 10 (ix_Ev o_X9_launch Q) Q ls st μ := ix_Ev.eq (a_X9_launch launch0) rfl ls st μ
theorem e_X9_launch_10 (Q : ix_R → Prop) (ls : ix_L) (st : List ix_V) (μ : ix_M) : ix_Ev o_X9_launch Q (10, ls, st, μ) = ix_iload 1 11 (ix_Ev o_X9_launch Q) Q ls st μ := ix_Ev.eq (a_X9_launch launch0) rfl ls st μ
theorem e_X9_launch_11 (Q : ix_R → Prop) (ls : ix_L) (st : List ix_V) (μ : ix_M) : ix_Ev o_X9_launch Q (11, ls, st, μ) = ix_push (vi 10) 13 (ix_Ev o_X9_launch Q) Q ls st μ := ix_Ev.eq (a_X9_launch launch0) rfl ls st μ
theorem e_X9_launch_13 (Q : ix_R → Prop) (ls : ix_L) (st : List ix_V) (μ : ix_M) : ix_Ev o_X9_launch Q (13, ls, st, μ) = ix_div (fun x y => x / y) 14 (ix_Ev o_X9_launch Q) Q ls st μ := ix_Ev.eq (a_X9_launch launch0) rfl ls st μ
theorem e_X9_launch_14 (Q : ix_R → Prop) (ls : ix_L) (st : List ix_V) (μ : ix_M) : ix_Ev o_X9_launch Q (14, ls, st, μ) = ix_iast 15 (ix_Ev o_X9_launch Q) Q ls st μ := ix_Ev.eq (a_X9_launch launch0) rfl ls st μ
theorem e_X9_launch_15 (Q : ix_R → Prop) (ls : ix_L) (st : List ix_V) (μ : ix_M) : ix_Ev o_X9_launch Q (15, ls, st, μ) = ix_aload 0 16 (ix_Ev o_X9_launch Q) Q ls st μ := ix_Ev.eq (a_X9_launch launch0) rfl ls st μ
theorem e_X9_launch_16 (Q : ix_R → Prop) (ls : ix_L) (st : List ix_V) (μ : ix_M) : ix_Ev o_X9_launch Q (16, ls, st, μ) = ix_getr 8 20 (fun k => k + 5) 19 (ix_Ev o_X9_launch Q) Q ls st μ := ix_Ev.eq (a_X9_launch launch0) rfl ls st μ
theorem e_X9_launch_19 (Q : ix_R → Prop) (ls : ix_L) (st : List ix_V) (μ : ix_M) : ix_Ev o_X9_launch Q (19, ls, st, μ) = ix_iload 3 20 (ix_Ev o_X9_launch Q) Q ls st μ := ix_Ev.eq (a_X9_launch launch0) rfl ls st μ
theorem e_X9_launch_20 (Q : ix_R → Prop) (ls : ix_L) (st : List ix_V) (μ : ix_M) : ix_Ev o_X9_launch Q (20, ls, st, μ) = ix_iload 1 21 (ix_Ev o_X9_launch Q) Q ls st μ := ix_Ev.eq (a_X9_launch launch0) rfl ls st μ
theorem e_X9_launch_21 (Q : ix_R → Prop) (ls : ix_L) (st : List ix_V) (μ : ix_M) : ix_Ev o_X9_launch Q (21, ls, st, μ) = ix_push (vi 10) 23 (ix_Ev o_X9_launch Q) Q ls st μ := ix_Ev.eq (a_X9_launch launch0) rfl ls st μ
theorem e_X9_launch_23 (Q : ix_R → Prop) (ls : ix_L) (st : List ix_V) (μ : ix_M) : ix_Ev o_X9_launch Q (23, ls, st, μ) = ix_div (fun x y => x - x / y * y) 24 (ix_Ev o_X9_launch Q) Q ls st μ := ix_Ev.eq (a_X9_launch launch0) rfl ls st μ
theorem e_X9_launch_24 (Q : ix_R → Prop) (ls : ix_L) (st : List ix_V) (μ : ix_M) : ix_Ev o_X9_launch Q (24, ls, st, μ) = ix_iast 25 (ix_Ev o_X9_launch Q) Q ls st μ := ix_Ev.eq (a_X9_launch launch0) rfl ls st μ
theorem e_X9_launch_25 (Q : ix_R → Prop) (ls : ix_L) (st : List ix_V) (μ : ix_M) : ix_Ev o_X9_launch Q (25, ls, st, μ) = ix_aload 0 26 (ix_Ev o_X9_launch Q) Q ls st μ := ix_Ev.eq (a_X9_launch launch0) rfl ls st μ
theorem e_X9_launch_26 (Q : ix_R → Prop) (ls : ix_L) (st : List ix_V) (μ : ix_M) : ix_Ev o_X9_launch Q (26, ls, st, μ) = ix_getr 8 20 (fun k => k + 6) 29 (ix_Ev o_X9_launch Q) Q ls st μ := ix_Ev.eq (a_X9_launch launch0) rfl ls st μ
theorem e_X9_launch_29 (Q : ix_R → Prop) (ls : ix_L) (st : List ix_V) (μ : ix_M) : ix_Ev o_X9_launch Q (29, ls, st, μ) = ix_iload 3 30 (ix_Ev o_X9_launch Q) Q ls st μ := ix_Ev.eq (a_X9_launch launch0) rfl ls st μ
theorem e_X9_launch_30 (Q : ix_R → Prop) (ls : ix_L) (st : List ix_V) (μ : ix_M) : ix_Ev o_X9_launch Q (30, ls, st, μ) = ix_iload 2 31 (ix_Ev o_X9_launch Q) Q ls st μ := ix_Ev.eq (a_X9_launch launch0) rfl ls st μ
theorem e_X9_launch_31 (Q : ix_R → Prop) (ls : ix_L) (st : List ix_V) (μ : ix_M) : ix_Ev o_X9_launch Q (31, ls, st, μ) = ix_iast 32 (ix_Ev o_X9_launch Q) Q ls st μ := ix_Ev.eq (a_X9_launch launch0) rfl ls st μ
theorem e_X9_launch_32 (Q : ix_R → Prop) (ls : ix_L) (st : List ix_V) (μ : ix_M) : ix_Ev o_X9_launch Q (32, ls, st, μ) = ix_aload 0 33 (ix_Ev o_X9_launch Q) Q ls st μ := ix_Ev.eq (a_X9_launch launch0) rfl ls st μ
theorem e_X9_launch_33 (Q : ix_R → Prop) (ls : ix_L) (st : List ix_V) (μ : ix_M) : ix_Ev o_X9_launch Q (33, ls, st, μ) = ix_getr 8 20 (fun k => k + 7) 36 (ix_Ev o_X9_launch Q) Q ls st μ := ix_Ev.eq (a_X9_launch launch0) rfl ls st μ
theorem e_X9_launch_36 (Q : ix_R → Prop) (ls : ix_L) (st : List ix_V) (μ : ix_M) : ix_Ev o_X9_launch Q (36, ls, st, μ) = ix_iload 3 37 (ix_Ev o_X9_launch Q) Q ls st μ := ix_Ev.eq (a_X9_launch launch0) rfl ls st μ
theorem e_X9_launch_37 (Q : ix_R → Prop) (ls : ix_L) (st : List ix_V) (μ : ix_M) : ix_Ev o_X9_launch Q (37, ls, st, μ) = ix_push (vi 0) 38 (ix_Ev o_X9_launch Q) Q ls st μ := ix_Ev.eq (a_X9_launch launch0) rfl ls st μ
theorem e_X9_launch_38 (Q : ix_R → Prop) (ls : ix_L) (st : List ix_V) (μ : ix_M) : ix_Ev o_X9_launch Q (38, ls, st, μ) = ix_iast 39 (ix_Ev o_X9_launch Q) Q ls st μ := ix_Ev.eq (a_X9_launch launch0) rfl ls st μ
theorem e_X9_launch_39 (Q : ix_R → Prop) (ls : ix_L) (st : List ix_V) (μ : ix_M) : ix_Ev o_X9_launch Q (39, ls, st, μ) = ix_aload 0 40 (ix_Ev o_X9_launch Q) Q ls st μ := ix_Ev.eq (a_X9_launch launch0) rfl ls st μ
theorem e_X9_launch_40 (Q : ix_R → Prop) (ls : ix_L) (st : List ix_V) (μ : ix_M) : ix_Ev o_X9_launch Q (40, ls, st, μ) = ix_dup 41 (ix_Ev o_X9_launch Q) Q ls st μ := ix_Ev.eq (a_X9_launch launch0) rfl ls st μ
theorem e_X9_launch_41 (Q : ix_R → Prop) (ls : ix_L) (st : List ix_V) (μ : ix_M) : ix_Ev o_X9_launch Q (41, ls, st, μ) = ix_geti 8 7 44 (ix_Ev o_X9_launch Q) Q ls st μ := ix_Ev.eq (a_X9_launch launch0) rfl ls st μ
theorem e_X9_launch_44 (Q : ix_R → Prop) (ls : ix_L) (st : List ix_V) (μ : ix_M) : ix_Ev o_X9_launch Q (44, ls, st, μ) = ix_push (vi 1) 45 (ix_Ev o_X9_launch Q) Q ls st μ := ix_Ev.eq (a_X9_launch launch0) rfl ls st μ
theorem e_X9_launch_45 (Q : ix_R → Prop) (ls : ix_L) (st : List ix_V) (μ : ix_M) : ix_Ev o_X9_launch Q (45, ls, st, μ) = ix_bin (fun x y => x + y) 46 (ix_Ev o_X9_launch Q) Q ls st μ := ix_Ev.eq (a_X9_launch launch0) rfl ls st μ
theorem e_X9_launch_46 (Q : ix_R → Prop) (ls : ix_L) (st : List ix_V) (μ : ix_M) : ix_Ev o_X9_launch Q (46, ls, st, μ) = ix_puti 8 7 49 (ix_Ev o_X9_launch Q) Q ls st μ := ix_Ev.eq (a_X9_launch launch0) rfl ls st μ
theorem e_X9_launch_49 (Q : ix_R → Prop) (ls : ix_L) (st : List ix_V) (μ : ix_M) : ix_Ev o_X9_launch Q (49, ls, st, μ) = ix_iload 3 50 (ix_Ev o_X9_launch Q) Q ls st μ := ix_Ev.eq (a_X9_launch launch0) rfl ls st μ
theorem e_X9_launch_50 (Q : ix_R → Prop) (ls : ix_L) (st : List ix_V) (μ : ix_M) : ix_Ev o_X9_launch Q (50, ls, st, μ) = ix_iret (ix_Ev o_X9_launch Q) Q ls st μ := ix_Ev.eq (a_X9_launch launch0) rfl ls st μ
theorem r_X9_launch (w : Nat) (km : Int32) (c : Int32) (μ : ix_M) (Q : ix_R → Prop) (ok_w : w < ix_N ∧ ix_tag w = 8) (hT : T_X9_launch (w, km, c) μ Q) : ix_Ev o_X9_launch Q (0, [some (vr 8 w), some (vi km), some (vi c), none], [], μ) := by
  have hw := (ok_water w ok_w.1 ok_w.2).2
  simp (decide := true) only [e_X9_launch_0, e_X9_launch_1, e_X9_launch_4, e_X9_launch_5, e_X9_launch_6, e_X9_launch_9, e_X9_launch_10, e_X9_launch_11, e_X9_launch_13, e_X9_launch_14, e_X9_launch_15, e_X9_launch_16, e_X9_launch_19, e_X9_launch_20, e_X9_launch_21, e_X9_launch_23, e_X9_launch_24, e_X9_launch_25, e_X9_launch_26, e_X9_launch_29, e_X9_launch_30, e_X9_launch_31, e_X9_launch_32, e_X9_launch_33, e_X9_launch_36, e_X9_launch_37, e_X9_launch_38, e_X9_launch_39, e_X9_launch_40, e_X9_launch_41, e_X9_launch_44, e_X9_launch_45, e_X9_launch_46, e_X9_launch_49, e_X9_launch_50, vi, vl, vr, ix_push, ix_iload, ix_lload, ix_aload, ix_istore, ix_astore, ix_iinc, ix_bin, ix_div, ix_un, ix_i2l, ix_l2i, ix_lbin, ix_lsh, ix_lcmp, ix_dup, ix_dup2, ix_pop, ix_if, ix_cmp, ix_goto, ix_switch, ix_sw, ix_iret, ix_zret, ix_vret, ix_aret, ix_geti, ix_getr, ix_puti, ix_putz, ix_puts, ix_gets, ix_iald, ix_iast, ix_alen, ix_aald, ix_gval, ix_gcod, ix_bald, ix_blen, ix_sald, ix_nret, ix_math2, ix_math1, ix_acopy, Nat.add_assoc, Int32.reduceLT, Int32.reduceLE, Int32.reduceToNatClampNeg, Int32.reduceSub, Int32.reduceAdd, Nat.reduceAdd, Nat.reduceLeDiff, true_or, or_true, or_false, false_or, not_false_eq_true, not_true_eq_false, false_implies, true_implies, implies_true, and_self, mB_0, mB_01, Classical.not_not, Nat.zero_le, List.getElem?_cons_zero, List.getElem?_cons_succ, List.set_cons_zero, List.set_cons_succ, ix_nl, ix_cs, true_and, and_true, Option.toList_some, Option.toList_none, List.cons_append, List.nil_append, hw, hT.1]
  have hne : ∀ (μ : ix_M) i j v, ix_up μ (w + (i + 1)) j v w = μ w := fun μ i j v => ix_up_ne (by omega)
  rw [show ∀ μ j v, ix_up μ (w + 7) j v w = μ w from fun μ j v => hne μ 6 j v, show ∀ μ j v, ix_up μ (w + 6) j v w = μ w from fun μ j v => hne μ 5 j v, show ∀ μ j v, ix_up μ (w + 5) j v w = μ w from fun μ j v => hne μ 4 j v, show ∀ μ j v, ix_up μ (w + 4) j v w = μ w from fun μ j v => hne μ 3 j v]
  exact hT.2
theorem k_X9_launch (l : Launch) : ix_Ct l yX9_launch cX9_launch 4 (some .int) 1 sh_X9_launch T_X9_launch := ix_ct (a_X9_launch l) rfl (by decide) (fun _ => Nat.le_of_ble_eq_true rfl) (fun x μ Q hok hT => r_X9_launch x.1 x.2.1 x.2.2 μ Q (ix_ok_at (hok (vr 8 x.1) (by simp [sh_X9_launch])) (by decide) (by decide)) hT)
