/-! ===== calls, class against model: text ===== -/
theorem mo_X3_faultFor : ∀ (x : Nat × Nat × Int32) (μ : ix_M) (Q Q' : ix_R → Prop), (∀ r, Q r → Q' r) → T_X3_faultFor x μ Q → T_X3_faultFor x μ Q' := by
  rintro ⟨o, r, use⟩ μ Q Q' h ⟨tp, n, u, h0, h1, h2, h3, h4⟩
  exact ⟨tp, n, u, h0, h1, h2, h3, fun μ' y z => h _ (h4 μ' y z)⟩
def T_X1_ofUse : Nat × Int32 → ix_M → (ix_R → Prop) → Prop := fun (q, u) μ Q => Q (some (vr 6 (if u = 0 then q + 1 else q + 5)), μ)
def sh_X1_ofUse (x : Nat × Int32) : List ix_V := [vr 0 x.1, vi x.2]
theorem mo_X1_ofUse (x : Nat × Int32) (μ : ix_M) (Q Q' : ix_R → Prop) (h : ∀ r, Q r → Q' r) (hT : T_X1_ofUse x μ Q) : T_X1_ofUse x μ Q' := by
  obtain ⟨a0, a1⟩ := x
  first | exact h _ hT | exact ⟨hT.1, h _ hT.2⟩ | exact fun r hr => h _ (hT r hr) | exact ⟨hT.1, fun r hr => h _ (hT.2 r hr)⟩ | exact ⟨hT.1, hT.2.1, fun r hr => h _ (hT.2.2 r hr)⟩
def oc_X1_ofUse (n : Nat) : ix_Op := fun k _ ls st μ => match st with
  | .inl a1 :: .inr (.inr (t0, a0)) :: r => t0 = 0 ∧ ix_cs r ≤ 8 ∧ T_X1_ofUse (a0, a1) μ (fun q => k (n, ls, q.1.toList ++ r, q.2))
  | _ => False
theorem oc_X1_ofUse_s {l : Launch} {cc : ByteArray} {nL : Nat} {own : String} {d : Nat} {rt : Option FieldType} {pc n : Nat} (h : ix_S l cc nL own d rt pc (ix_call 2 sh_X1_ofUse T_X1_ofUse n)) : ix_S l cc nL own d rt pc (oc_X1_ofUse n) := by
  refine h.by (fun k Q ls st μ h => ?_) (fun k k' Q ls st μ hk h => ?_)
  · unfold oc_X1_ofUse at h
    split at h
    · rename_i a1 t0 a0 r
      obtain ⟨rfl, h1, h2⟩ := h
      exact ⟨h1, (a0, a1), rfl, _, h2, fun r h => h⟩
    · exact h.elim
  · unfold oc_X1_ofUse at h ⊢
    split at h
    · obtain ⟨rfl, h1, h2⟩ := h
      exact ⟨rfl, h1, mo_X1_ofUse _ _ _ _ (fun q hq => hk _ hq) h2⟩
    · exact h.elim
def o_X1_ofUse : List (Nat × ix_Op) := [
  (0, ix_iload 1 1),
  (1, ix_if (fun x => x = 0) 4 11),
  (4, ix_aload 0 5),
  (5, ix_getr 0 6 (fun k => k + 1) 8),
  (8, ix_goto 15),
  (11, ix_aload 0 12),
  (12, ix_getr 0 6 (fun k => k + 5) 15),
  (15, ix_aret)]
set_option maxRecDepth 20000 in
theorem a_X1_ofUse (l : Launch) : ix_AllS l cX1_ofUse 2 RX1 1 (some (.object "IndigoBoats$Text")) o_X1_ofUse :=
  .cons (ix_s_iload_n dX1_ofUse_0 rfl) <|
  .cons (ix_s_if_ne dX1_ofUse_1 (by decide)) <|
  .cons (ix_s_aload_n dX1_ofUse_4 rfl) <|
  .cons (ix_s_getr (j := 0) tu_X1 rfl (by decide) (by decide) tw_127 rfl ts_0_0_r dX1_ofUse_5) <|
  .cons (ix_s_goto dX1_ofUse_8 (by decide)) <|
  .cons (ix_s_aload_n dX1_ofUse_11 rfl) <|
  .cons (ix_s_getr (j := 1) tu_X1 rfl (by decide) (by decide) tw_128 rfl ts_0_1_r dX1_ofUse_12) <|
  .cons (ix_s_aret dX1_ofUse_15 rfl) <| .nil
theorem e_X1_ofUse_0 (Q : ix_R → Prop) (ls : ix_L) (st : List ix_V) (μ : ix_M) : ix_Ev o_X1_ofUse Q (0, ls, st, μ) = ix_iload 1 1 (ix_Ev o_X1_ofUse Q) Q ls st μ := ix_Ev.eq (a_X1_ofUse launch0) rfl ls st μ
theorem e_X1_ofUse_1 (Q : ix_R → Prop) (ls : ix_L) (st : List ix_V) (μ : ix_M) : ix_Ev o_X1_ofUse Q (1, ls, st, μ) = ix_if (fun x => x = 0) 4 11 (ix_Ev o_X1_ofUse Q) Q ls st μ := ix_Ev.eq (a_X1_ofUse launch0) rfl ls st μ
theorem e_X1_ofUse_4 (Q : ix_R → Prop) (ls : ix_L) (st : List ix_V) (μ : ix_M) : ix_Ev o_X1_ofUse Q (4, ls, st, μ) = ix_aload 0 5 (ix_Ev o_X1_ofUse Q) Q ls st μ := ix_Ev.eq (a_X1_ofUse launch0) rfl ls st μ
theorem e_X1_ofUse_5 (Q : ix_R → Prop) (ls : ix_L) (st : List ix_V) (μ : ix_M) : ix_Ev o_X1_ofUse Q (5, ls, st, μ) = ix_getr 0 6 (fun k => k + 1) 8 (ix_Ev o_X1_ofUse Q) Q ls st μ := ix_Ev.eq (a_X1_ofUse launch0) rfl ls st μ
theorem e_X1_ofUse_8 (Q : ix_R → Prop) (ls : ix_L) (st : List ix_V) (μ : ix_M) : ix_Ev o_X1_ofUse Q (8, ls, st, μ) = ix_goto 15 (ix_Ev o_X1_ofUse Q) Q ls st μ := ix_Ev.eq (a_X1_ofUse launch0) rfl ls st μ
theorem e_X1_ofUse_11 (Q : ix_R → Prop) (ls : ix_L) (st : List ix_V) (μ : ix_M) : ix_Ev o_X1_ofUse Q (11, ls, st, μ) = ix_aload 0 12 (ix_Ev o_X1_ofUse Q) Q ls st μ := ix_Ev.eq (a_X1_ofUse launch0) rfl ls st μ
theorem e_X1_ofUse_12 (Q : ix_R → Prop) (ls : ix_L) (st : List ix_V) (μ : ix_M) : ix_Ev o_X1_ofUse Q (12, ls, st, μ) = ix_getr 0 6 (fun k => k + 5) 15 (ix_Ev o_X1_ofUse Q) Q ls st μ := ix_Ev.eq (a_X1_ofUse launch0) rfl ls st μ
theorem e_X1_ofUse_15 (Q : ix_R → Prop) (ls : ix_L) (st : List ix_V) (μ : ix_M) : ix_Ev o_X1_ofUse Q (15, ls, st, μ) = ix_aret (ix_Ev o_X1_ofUse Q) Q ls st μ := ix_Ev.eq (a_X1_ofUse launch0) rfl ls st μ
theorem r_X1_ofUse (q : Nat) (u : Int32) (μ : ix_M) (Q : ix_R → Prop) (ok_q : q < ix_N ∧ ix_tag q = 0) (hT : T_X1_ofUse (q, u) μ Q) : ix_Ev o_X1_ofUse Q (0, [some (vr 0 q), some (vi u)], [], μ) := by
  simp (decide := true) only [e_X1_ofUse_0, e_X1_ofUse_1, e_X1_ofUse_4, e_X1_ofUse_5, e_X1_ofUse_8, e_X1_ofUse_11, e_X1_ofUse_12, e_X1_ofUse_15, vi, vl, vr, ix_push, ix_iload, ix_lload, ix_aload, ix_istore, ix_astore, ix_iinc, ix_bin, ix_div, ix_un, ix_i2l, ix_l2i, ix_lbin, ix_lsh, ix_lcmp, ix_dup, ix_dup2, ix_pop, ix_if, ix_cmp, ix_goto, ix_switch, ix_sw, ix_iret, ix_zret, ix_vret, ix_aret, ix_geti, ix_getr, ix_puti, ix_putz, ix_puts, ix_gets, ix_iald, ix_iast, ix_alen, ix_aald, ix_gval, ix_gcod, ix_bald, ix_blen, ix_sald, ix_nret, ix_math2, ix_math1, ix_acopy, Nat.add_assoc, Int32.reduceLT, Int32.reduceLE, Int32.reduceToNatClampNeg, Int32.reduceSub, Int32.reduceAdd, Nat.reduceAdd, Nat.reduceLeDiff, true_or, or_true, or_false, false_or, not_false_eq_true, not_true_eq_false, false_implies, true_implies, implies_true, and_self, mB_0, mB_01, Classical.not_not, Nat.zero_le, List.getElem?_cons_zero, List.getElem?_cons_succ, List.set_cons_zero, List.set_cons_succ, ix_nl, ix_cs, true_and, and_true, Option.toList_some, Option.toList_none, List.cons_append, List.nil_append]
  unfold T_X1_ofUse at hT
  refine ⟨fun z => ?_, fun z => ?_⟩
  · simp only [if_pos z] at hT
    exact hT
  · simp only [if_neg z] at hT
    exact hT
theorem k_X1_ofUse (l : Launch) : ix_Ct l yX1_ofUse cX1_ofUse 2 (some (.object "IndigoBoats$Text")) 1 sh_X1_ofUse T_X1_ofUse := ix_ct (a_X1_ofUse l) rfl (by decide) (fun _ => Nat.le_of_ble_eq_true rfl) (fun x μ Q hok hT => r_X1_ofUse x.1 x.2 μ Q (ix_ok_at (hok (vr 0 x.1) (by simp [sh_X1_ofUse])) (by decide) (by decide)) hT)
def oc_X3_faultFor (n : Nat) : ix_Op := fun k _ ls st μ => match st with
  | .inl a2 :: .inr (.inr (t1, a1)) :: .inr (.inr (t0, a0)) :: r => t0 = 2 ∧ t1 = 3 ∧ ix_cs r ≤ 8 ∧ T_X3_faultFor (a0, a1, a2) μ (fun q => k (n, ls, q.1.toList ++ r, q.2))
  | _ => False
theorem oc_X3_faultFor_s {l : Launch} {cc : ByteArray} {nL : Nat} {own : String} {d : Nat} {rt : Option FieldType} {pc n : Nat} (h : ix_S l cc nL own d rt pc (ix_call 3 sh_X3_faultFor T_X3_faultFor n)) : ix_S l cc nL own d rt pc (oc_X3_faultFor n) := by
  refine h.by (fun k Q ls st μ h => ?_) (fun k k' Q ls st μ hk h => ?_)
  · unfold oc_X3_faultFor at h
    split at h
    · rename_i a2 t1 a1 t0 a0 r
      obtain ⟨rfl, rfl, h1, h2⟩ := h
      exact ⟨h1, (a0, a1, a2), rfl, _, h2, fun r h => h⟩
    · exact h.elim
  · unfold oc_X3_faultFor at h ⊢
    split at h
    · obtain ⟨rfl, rfl, h1, h2⟩ := h
      exact ⟨rfl, rfl, h1, mo_X3_faultFor _ _ _ _ (fun q hq => hk _ hq) h2⟩
    · exact h.elim
def oc_X11_either (n : Nat) : ix_Op := fun k _ ls st μ => match st with
  | .inr (.inr (t0, a0)) :: r => t0 = 10 ∧ ix_cs r ≤ 8 ∧ T_X11_either a0 μ (fun q => k (n, ls, q.1.toList ++ r, q.2))
  | _ => False
theorem oc_X11_either_s {l : Launch} {cc : ByteArray} {nL : Nat} {own : String} {d : Nat} {rt : Option FieldType} {pc n : Nat} (h : ix_S l cc nL own d rt pc (ix_call 1 sh_X11_either T_X11_either n)) : ix_S l cc nL own d rt pc (oc_X11_either n) := by
  refine h.by (fun k Q ls st μ h => ?_) (fun k k' Q ls st μ hk h => ?_)
  · unfold oc_X11_either at h
    split at h
    · rename_i t0 a0 r
      obtain ⟨rfl, h1, h2⟩ := h
      exact ⟨h1, a0, rfl, _, h2, fun r h => h⟩
    · exact h.elim
  · unfold oc_X11_either at h ⊢
    split at h
    · obtain ⟨rfl, h1, h2⟩ := h
      exact ⟨rfl, h1, mo_X11_either _ _ _ _ (fun q hq => hk _ hq) h2⟩
    · exact h.elim
def o_X10_text : List (Nat × ix_Op) := [
  (0, ix_iload 1 1),
  (1, ix_push (vi 1) 2),
  (2, oc_X10_outside 5),
  (5, ix_if (fun x => x = 0) 14 8),
  (8, ix_aload 0 9),
  (9, ix_push (vi 1) 10),
  (10, oc_X10_error 13),
  (13, ix_iret),
  (14, ix_aload 0 15),
  (15, ix_getr 9 2 (fun _ => 88) 18),
  (18, ix_aload 0 19),
  (19, ix_getr 9 5 (fun _ => 1) 22),
  (22, ix_getr 5 3 (fun k => k + 18) 25),
  (25, ix_iload 1 26),
  (26, oc_X3_faultFor 29),
  (29, ix_istore 2 30),
  (30, ix_aload 0 31),
  (31, ix_getr 9 5 (fun _ => 1) 34),
  (34, ix_getr 5 3 (fun k => k + 18) 37),
  (37, oc_X4_clear 40),
  (40, ix_iload 2 41),
  (41, ix_if (fun x => x < 0) 49 44),
  (44, ix_push (vi (-10)) 46),
  (46, ix_iload 2 47),
  (47, ix_bin (fun x y => x - y) 48),
  (48, ix_iret),
  (49, ix_aload 0 50),
  (50, ix_getr 9 5 (fun _ => 1) 53),
  (53, ix_getr 5 0 (fun k => k + 9) 56),
  (56, ix_iload 1 57),
  (57, oc_X1_ofUse 60),
  (60, ix_aload 0 61),
  (61, ix_getr 9 2 (fun _ => 88) 64),
  (64, ix_getr 2 6 (fun _ => 89) 67),
  (67, oc_X7_copyFrom 70),
  (70, ix_push (vi 1) 71),
  (71, ix_iret)]
set_option maxRecDepth 20000 in
theorem a_X10_text (l : Launch) : ix_AllS l cX10_text 3 RX10 60 (some .int) o_X10_text :=
  .cons (ix_s_iload_n dX10_text_0 rfl) <|
  .cons (ix_s_iconst dX10_text_1 (by decide +kernel)) <|
  .cons (oc_X10_outside_s (ix_s_calls (k_X10_outside l) (by decide) (by decide) tw_291 tw_1 tw_289 tw_290 ⟨by decide, by decide, by decide +kernel⟩ (fun _ => rfl) dX10_text_2)) <|
  .cons (ix_s_if_eq dX10_text_5 (by decide)) <|
  .cons (ix_s_aload_n dX10_text_8 rfl) <|
  .cons (ix_s_iconst dX10_text_9 (by decide +kernel)) <|
  .cons (oc_X10_error_s (ix_s_callv (t := 9) (k_X10_error l) (by decide) (by decide) tw_295 tw_1 tw_292 tw_294 tp_0 ⟨by decide, by decide, by decide +kernel⟩ (by decide) rfl rfl (fun _ => ⟨_, _, rfl, rfl⟩) dX10_text_10)) <|
  .cons (ix_s_iret dX10_text_13 rfl) <|
  .cons (ix_s_aload_n dX10_text_14 rfl) <|
  .cons (ix_s_getr (j := 4) tu_X10 rfl (by decide) (by decide) tw_255 rfl ts_9_4_r dX10_text_15) <|
  .cons (ix_s_aload_n dX10_text_18 rfl) <|
  .cons (ix_s_getr (j := 0) tu_X10 rfl (by decide) (by decide) tw_251 rfl ts_9_0_r dX10_text_19) <|
  .cons (ix_s_getr (j := 2) tu_X6 rfl (by decide) (by decide) tw_142 rfl ts_5_2_r dX10_text_22) <|
  .cons (ix_s_iload_n dX10_text_25 rfl) <|
  .cons (oc_X3_faultFor_s (ix_s_callv (t := 2) (k_X3_faultFor l) (by decide) (by decide) tw_444 tw_8 tw_441 tw_442 tw_443 ⟨by decide, by decide, by decide +kernel⟩ (by decide) rfl rfl (fun _ => ⟨_, _, rfl, rfl⟩) dX10_text_26)) <|
  .cons (ix_s_istore_n dX10_text_29 rfl (by decide)) <|
  .cons (ix_s_aload_n dX10_text_30 rfl) <|
  .cons (ix_s_getr (j := 0) tu_X10 rfl (by decide) (by decide) tw_251 rfl ts_9_0_r dX10_text_31) <|
  .cons (ix_s_getr (j := 2) tu_X6 rfl (by decide) (by decide) tw_142 rfl ts_5_2_r dX10_text_34) <|
  .cons (oc_X4_clear_s (ix_s_callv (t := 3) (k_X4_clear l) (by decide) (by decide) tw_458 tw_6 tw_572 tw_456 tw_457 ⟨by decide, by decide, by decide +kernel⟩ (by decide) rfl rfl (fun _ => ⟨_, _, rfl, rfl⟩) dX10_text_37)) <|
  .cons (ix_s_iload_n dX10_text_40 rfl) <|
  .cons (ix_s_if_lt dX10_text_41 (by decide)) <|
  .cons (ix_s_bipush dX10_text_44 (by decide +kernel)) <|
  .cons (ix_s_iload_n dX10_text_46 rfl) <|
  .cons (ix_s_isub dX10_text_47) <|
  .cons (ix_s_iret dX10_text_48 rfl) <|
  .cons (ix_s_aload_n dX10_text_49 rfl) <|
  .cons (ix_s_getr (j := 0) tu_X10 rfl (by decide) (by decide) tw_251 rfl ts_9_0_r dX10_text_50) <|
  .cons (ix_s_getr (j := 1) tu_X6 rfl (by decide) (by decide) tw_140 rfl ts_5_1_r dX10_text_53) <|
  .cons (ix_s_iload_n dX10_text_56 rfl) <|
  .cons (oc_X1_ofUse_s (ix_s_callv (t := 0) (k_X1_ofUse l) (by decide) (by decide) tw_576 tw_4 tw_573 tw_574 tw_575 ⟨by decide, by decide, by decide +kernel⟩ (by decide) rfl rfl (fun _ => ⟨_, _, rfl, rfl⟩) dX10_text_57)) <|
  .cons (ix_s_aload_n dX10_text_60 rfl) <|
  .cons (ix_s_getr (j := 4) tu_X10 rfl (by decide) (by decide) tw_255 rfl ts_9_4_r dX10_text_61) <|
  .cons (ix_s_getr (j := 0) tu_X3 rfl (by decide) (by decide) tw_177 rfl ts_2_0_r dX10_text_64) <|
  .cons (oc_X7_copyFrom_s (ix_s_callv (t := 6) (k_X7_copyFrom l) (by decide) (by decide) tw_580 tw_5 tw_577 tw_578 tw_579 ⟨by decide, by decide, by decide +kernel⟩ (by decide) rfl rfl (fun _ => ⟨_, _, rfl, rfl⟩) dX10_text_67)) <|
  .cons (ix_s_iconst dX10_text_70 (by decide +kernel)) <|
  .cons (ix_s_iret dX10_text_71 rfl) <| .nil
theorem e_X10_text_0 (Q : ix_R → Prop) (ls : ix_L) (st : List ix_V) (μ : ix_M) : ix_Ev o_X10_text Q (0, ls, st, μ) = ix_iload 1 1 (ix_Ev o_X10_text Q) Q ls st μ := ix_Ev.eq (a_X10_text launch0) rfl ls st μ
theorem e_X10_text_1 (Q : ix_R → Prop) (ls : ix_L) (st : List ix_V) (μ : ix_M) : ix_Ev o_X10_text Q (1, ls, st, μ) = ix_push (vi 1) 2 (ix_Ev o_X10_text Q) Q ls st μ := ix_Ev.eq (a_X10_text launch0) rfl ls st μ
theorem e_X10_text_2 (Q : ix_R → Prop) (ls : ix_L) (st : List ix_V) (μ : ix_M) : ix_Ev o_X10_text Q (2, ls, st, μ) = oc_X10_outside 5 (ix_Ev o_X10_text Q) Q ls st μ := ix_Ev.eq (a_X10_text launch0) rfl ls st μ
theorem e_X10_text_5 (Q : ix_R → Prop) (ls : ix_L) (st : List ix_V) (μ : ix_M) : ix_Ev o_X10_text Q (5, ls, st, μ) = ix_if (fun x => x = 0) 14 8 (ix_Ev o_X10_text Q) Q ls st μ := ix_Ev.eq (a_X10_text launch0) rfl ls st μ
theorem e_X10_text_8 (Q : ix_R → Prop) (ls : ix_L) (st : List ix_V) (μ : ix_M) : ix_Ev o_X10_text Q (8, ls, st, μ) = ix_aload 0 9 (ix_Ev o_X10_text Q) Q ls st μ := ix_Ev.eq (a_X10_text launch0) rfl ls st μ
theorem e_X10_text_9 (Q : ix_R → Prop) (ls : ix_L) (st : List ix_V) (μ : ix_M) : ix_Ev o_X10_text Q (9, ls, st, μ) = ix_push (vi 1) 10 (ix_Ev o_X10_text Q) Q ls st μ := ix_Ev.eq (a_X10_text launch0) rfl ls st μ
theorem e_X10_text_10 (Q : ix_R → Prop) (ls : ix_L) (st : List ix_V) (μ : ix_M) : ix_Ev o_X10_text Q (10, ls, st, μ) = oc_X10_error 13 (ix_Ev o_X10_text Q) Q ls st μ := ix_Ev.eq (a_X10_text launch0) rfl ls st μ
theorem e_X10_text_13 (Q : ix_R → Prop) (ls : ix_L) (st : List ix_V) (μ : ix_M) : ix_Ev o_X10_text Q (13, ls, st, μ) = ix_iret (ix_Ev o_X10_text Q) Q ls st μ := ix_Ev.eq (a_X10_text launch0) rfl ls st μ
theorem e_X10_text_14 (Q : ix_R → Prop) (ls : ix_L) (st : List ix_V) (μ : ix_M) : ix_Ev o_X10_text Q (14, ls, st, μ) = ix_aload 0 15 (ix_Ev o_X10_text Q) Q ls st μ := ix_Ev.eq (a_X10_text launch0) rfl ls st μ
theorem e_X10_text_15 (Q : ix_R → Prop) (ls : ix_L) (st : List ix_V) (μ : ix_M) : ix_Ev o_X10_text Q (15, ls, st, μ) = ix_getr 9 2 (fun _ => 88) 18 (ix_Ev o_X10_text Q) Q ls st μ := ix_Ev.eq (a_X10_text launch0) rfl ls st μ
theorem e_X10_text_18 (Q : ix_R → Prop) (ls : ix_L) (st : List ix_V) (μ : ix_M) : ix_Ev o_X10_text Q (18, ls, st, μ) = ix_aload 0 19 (ix_Ev o_X10_text Q) Q ls st μ := ix_Ev.eq (a_X10_text launch0) rfl ls st μ
theorem e_X10_text_19 (Q : ix_R → Prop) (ls : ix_L) (st : List ix_V) (μ : ix_M) : ix_Ev o_X10_text Q (19, ls, st, μ) = ix_getr 9 5 (fun _ => 1) 22 (ix_Ev o_X10_text Q) Q ls st μ := ix_Ev.eq (a_X10_text launch0) rfl ls st μ
theorem e_X10_text_22 (Q : ix_R → Prop) (ls : ix_L) (st : List ix_V) (μ : ix_M) : ix_Ev o_X10_text Q (22, ls, st, μ) = ix_getr 5 3 (fun k => k + 18) 25 (ix_Ev o_X10_text Q) Q ls st μ := ix_Ev.eq (a_X10_text launch0) rfl ls st μ
theorem e_X10_text_25 (Q : ix_R → Prop) (ls : ix_L) (st : List ix_V) (μ : ix_M) : ix_Ev o_X10_text Q (25, ls, st, μ) = ix_iload 1 26 (ix_Ev o_X10_text Q) Q ls st μ := ix_Ev.eq (a_X10_text launch0) rfl ls st μ
theorem e_X10_text_26 (Q : ix_R → Prop) (ls : ix_L) (st : List ix_V) (μ : ix_M) : ix_Ev o_X10_text Q (26, ls, st, μ) = oc_X3_faultFor 29 (ix_Ev o_X10_text Q) Q ls st μ := ix_Ev.eq (a_X10_text launch0) rfl ls st μ
theorem e_X10_text_29 (Q : ix_R → Prop) (ls : ix_L) (st : List ix_V) (μ : ix_M) : ix_Ev o_X10_text Q (29, ls, st, μ) = ix_istore 2 30 (ix_Ev o_X10_text Q) Q ls st μ := ix_Ev.eq (a_X10_text launch0) rfl ls st μ
theorem e_X10_text_30 (Q : ix_R → Prop) (ls : ix_L) (st : List ix_V) (μ : ix_M) : ix_Ev o_X10_text Q (30, ls, st, μ) = ix_aload 0 31 (ix_Ev o_X10_text Q) Q ls st μ := ix_Ev.eq (a_X10_text launch0) rfl ls st μ
theorem e_X10_text_31 (Q : ix_R → Prop) (ls : ix_L) (st : List ix_V) (μ : ix_M) : ix_Ev o_X10_text Q (31, ls, st, μ) = ix_getr 9 5 (fun _ => 1) 34 (ix_Ev o_X10_text Q) Q ls st μ := ix_Ev.eq (a_X10_text launch0) rfl ls st μ
theorem e_X10_text_34 (Q : ix_R → Prop) (ls : ix_L) (st : List ix_V) (μ : ix_M) : ix_Ev o_X10_text Q (34, ls, st, μ) = ix_getr 5 3 (fun k => k + 18) 37 (ix_Ev o_X10_text Q) Q ls st μ := ix_Ev.eq (a_X10_text launch0) rfl ls st μ
theorem e_X10_text_37 (Q : ix_R → Prop) (ls : ix_L) (st : List ix_V) (μ : ix_M) : ix_Ev o_X10_text Q (37, ls, st, μ) = oc_X4_clear 40 (ix_Ev o_X10_text Q) Q ls st μ := ix_Ev.eq (a_X10_text launch0) rfl ls st μ
theorem e_X10_text_40 (Q : ix_R → Prop) (ls : ix_L) (st : List ix_V) (μ : ix_M) : ix_Ev o_X10_text Q (40, ls, st, μ) = ix_iload 2 41 (ix_Ev o_X10_text Q) Q ls st μ := ix_Ev.eq (a_X10_text launch0) rfl ls st μ
theorem e_X10_text_41 (Q : ix_R → Prop) (ls : ix_L) (st : List ix_V) (μ : ix_M) : ix_Ev o_X10_text Q (41, ls, st, μ) = ix_if (fun x => x < 0) 49 44 (ix_Ev o_X10_text Q) Q ls st μ := ix_Ev.eq (a_X10_text launch0) rfl ls st μ
theorem e_X10_text_44 (Q : ix_R → Prop) (ls : ix_L) (st : List ix_V) (μ : ix_M) : ix_Ev o_X10_text Q (44, ls, st, μ) = ix_push (vi (-10)) 46 (ix_Ev o_X10_text Q) Q ls st μ := ix_Ev.eq (a_X10_text launch0) rfl ls st μ
theorem e_X10_text_46 (Q : ix_R → Prop) (ls : ix_L) (st : List ix_V) (μ : ix_M) : ix_Ev o_X10_text Q (46, ls, st, μ) = ix_iload 2 47 (ix_Ev o_X10_text Q) Q ls st μ := ix_Ev.eq (a_X10_text launch0) rfl ls st μ
theorem e_X10_text_47 (Q : ix_R → Prop) (ls : ix_L) (st : List ix_V) (μ : ix_M) : ix_Ev o_X10_text Q (47, ls, st, μ) = ix_bin (fun x y => x - y) 48 (ix_Ev o_X10_text Q) Q ls st μ := ix_Ev.eq (a_X10_text launch0) rfl ls st μ
theorem e_X10_text_48 (Q : ix_R → Prop) (ls : ix_L) (st : List ix_V) (μ : ix_M) : ix_Ev o_X10_text Q (48, ls, st, μ) = ix_iret (ix_Ev o_X10_text Q) Q ls st μ := ix_Ev.eq (a_X10_text launch0) rfl ls st μ
theorem e_X10_text_49 (Q : ix_R → Prop) (ls : ix_L) (st : List ix_V) (μ : ix_M) : ix_Ev o_X10_text Q (49, ls, st, μ) = ix_aload 0 50 (ix_Ev o_X10_text Q) Q ls st μ := ix_Ev.eq (a_X10_text launch0) rfl ls st μ
theorem e_X10_text_50 (Q : ix_R → Prop) (ls : ix_L) (st : List ix_V) (μ : ix_M) : ix_Ev o_X10_text Q (50, ls, st, μ) = ix_getr 9 5 (fun _ => 1) 53 (ix_Ev o_X10_text Q) Q ls st μ := ix_Ev.eq (a_X10_text launch0) rfl ls st μ
theorem e_X10_text_53 (Q : ix_R → Prop) (ls : ix_L) (st : List ix_V) (μ : ix_M) : ix_Ev o_X10_text Q (53, ls, st, μ) = ix_getr 5 0 (fun k => k + 9) 56 (ix_Ev o_X10_text Q) Q ls st μ := ix_Ev.eq (a_X10_text launch0) rfl ls st μ
theorem e_X10_text_56 (Q : ix_R → Prop) (ls : ix_L) (st : List ix_V) (μ : ix_M) : ix_Ev o_X10_text Q (56, ls, st, μ) = ix_iload 1 57 (ix_Ev o_X10_text Q) Q ls st μ := ix_Ev.eq (a_X10_text launch0) rfl ls st μ
theorem e_X10_text_57 (Q : ix_R → Prop) (ls : ix_L) (st : List ix_V) (μ : ix_M) : ix_Ev o_X10_text Q (57, ls, st, μ) = oc_X1_ofUse 60 (ix_Ev o_X10_text Q) Q ls st μ := ix_Ev.eq (a_X10_text launch0) rfl ls st μ
theorem e_X10_text_60 (Q : ix_R → Prop) (ls : ix_L) (st : List ix_V) (μ : ix_M) : ix_Ev o_X10_text Q (60, ls, st, μ) = ix_aload 0 61 (ix_Ev o_X10_text Q) Q ls st μ := ix_Ev.eq (a_X10_text launch0) rfl ls st μ
theorem e_X10_text_61 (Q : ix_R → Prop) (ls : ix_L) (st : List ix_V) (μ : ix_M) : ix_Ev o_X10_text Q (61, ls, st, μ) = ix_getr 9 2 (fun _ => 88) 64 (ix_Ev o_X10_text Q) Q ls st μ := ix_Ev.eq (a_X10_text launch0) rfl ls st μ
theorem e_X10_text_64 (Q : ix_R → Prop) (ls : ix_L) (st : List ix_V) (μ : ix_M) : ix_Ev o_X10_text Q (64, ls, st, μ) = ix_getr 2 6 (fun _ => 89) 67 (ix_Ev o_X10_text Q) Q ls st μ := ix_Ev.eq (a_X10_text launch0) rfl ls st μ
theorem e_X10_text_67 (Q : ix_R → Prop) (ls : ix_L) (st : List ix_V) (μ : ix_M) : ix_Ev o_X10_text Q (67, ls, st, μ) = oc_X7_copyFrom 70 (ix_Ev o_X10_text Q) Q ls st μ := ix_Ev.eq (a_X10_text launch0) rfl ls st μ
theorem e_X10_text_70 (Q : ix_R → Prop) (ls : ix_L) (st : List ix_V) (μ : ix_M) : ix_Ev o_X10_text Q (70, ls, st, μ) = ix_push (vi 1) 71 (ix_Ev o_X10_text Q) Q ls st μ := ix_Ev.eq (a_X10_text launch0) rfl ls st μ
theorem e_X10_text_71 (Q : ix_R → Prop) (ls : ix_L) (st : List ix_V) (μ : ix_M) : ix_Ev o_X10_text Q (71, ls, st, μ) = ix_iret (ix_Ev o_X10_text Q) Q ls st μ := ix_Ev.eq (a_X10_text launch0) rfl ls st μ
def o_X11_text : List (Nat × ix_Op) := [
  (0, ix_iload 1 1),
  (1, ix_push (vi 0) 2),
  (2, ix_push (vi 1) 3),
  (3, oc_X11_within 6),
  (6, ix_if (fun x => x = 0) 9 16),
  (9, ix_aload 0 10),
  (10, ix_push (vi (-1000000001)) 12),
  (12, oc_X11_finding 15),
  (15, ix_iret),
  (16, ix_aload 0 17),
  (17, ix_iload 1 18),
  (18, ix_puti 10 10 21),
  (21, ix_aload 0 22),
  (22, ix_push (vi 0) 23),
  (23, ix_puti 10 8 26),
  (26, ix_aload 0 27),
  (27, ix_push (vi 0) 28),
  (28, ix_puti 10 9 31),
  (31, ix_aload 0 32),
  (32, ix_push (vi 0) 33),
  (33, ix_putz 10 11 36),
  (36, ix_aload 0 37),
  (37, ix_push (vi 0) 38),
  (38, ix_puti 10 13 41),
  (41, ix_aload 0 42),
  (42, oc_X11_either 45),
  (45, ix_aload 0 46),
  (46, ix_aload 0 47),
  (47, ix_geti 10 11 50),
  (50, ix_if (fun x => x = 0) 53 66),
  (53, ix_aload 0 54),
  (54, ix_geti 10 8 57),
  (57, ix_aload 0 58),
  (58, ix_getr 10 20 (fun _ => 113) 61),
  (61, ix_push (vi 4) 62),
  (62, ix_iald 63),
  (63, ix_cmp (fun x y => y ≤ x) 70 66),
  (66, ix_push (vi 1) 67),
  (67, ix_goto 71),
  (70, ix_push (vi 0) 71),
  (71, ix_putz 10 11 74),
  (74, ix_aload 0 75),
  (75, ix_getr 10 20 (fun _ => 113) 78),
  (78, ix_push (vi 4) 79),
  (79, ix_push (vi 0) 80),
  (80, ix_iast 81),
  (81, ix_aload 0 82),
  (82, ix_geti 10 11 85),
  (85, ix_if (fun x => x = 0) 96 88),
  (88, ix_push (vi (-10)) 90),
  (90, ix_aload 0 91),
  (91, ix_geti 10 8 94),
  (94, ix_bin (fun x y => x - y) 95),
  (95, ix_iret),
  (96, ix_aload 0 97),
  (97, ix_getr 10 20 (fun _ => 113) 100),
  (100, ix_push (vi 152) 103),
  (103, ix_push (vi 52) 105),
  (105, ix_aload 0 106),
  (106, ix_geti 10 10 109),
  (109, ix_bin (fun x y => x * y) 110),
  (110, ix_bin (fun x y => x + y) 111),
  (111, ix_aload 0 112),
  (112, ix_geti 10 13 115),
  (115, ix_iast 116),
  (116, ix_push (vi 0) 117),
  (117, ix_istore 2 118),
  (118, ix_iload 2 119),
  (119, ix_aload 0 120),
  (120, ix_geti 10 13 123),
  (123, ix_cmp (fun x y => y ≤ x) 158 126),
  (126, ix_aload 0 127),
  (127, ix_getr 10 20 (fun _ => 113) 130),
  (130, ix_push (vi 152) 133),
  (133, ix_push (vi 52) 135),
  (135, ix_aload 0 136),
  (136, ix_geti 10 10 139),
  (139, ix_bin (fun x y => x * y) 140),
  (140, ix_bin (fun x y => x + y) 141),
  (141, ix_push (vi 1) 142),
  (142, ix_bin (fun x y => x + y) 143),
  (143, ix_iload 2 144),
  (144, ix_bin (fun x y => x + y) 145),
  (145, ix_aload 0 146),
  (146, ix_getr 10 20 (fun _ => 118) 149),
  (149, ix_iload 2 150),
  (150, ix_iald 151),
  (151, ix_iast 152),
  (152, ix_iinc 2 1 155),
  (155, ix_goto 118),
  (158, ix_push (vi 1) 159),
  (159, ix_iret)]
set_option maxRecDepth 20000 in
theorem a_X11_text (l : Launch) : ix_AllS l cX11_text 3 RX11 60 (some .int) o_X11_text :=
  .cons (ix_s_iload_n dX11_text_0 rfl) <|
  .cons (ix_s_iconst dX11_text_1 (by decide +kernel)) <|
  .cons (ix_s_iconst dX11_text_2 (by decide +kernel)) <|
  .cons (oc_X11_within_s (ix_s_calls (k_X11_within l) (by decide) (by decide) tw_960 tw_12 tw_958 tw_959 ⟨by decide, by decide, by decide +kernel⟩ (fun _ => rfl) dX11_text_3)) <|
  .cons (ix_s_if_ne dX11_text_6 (by decide)) <|
  .cons (ix_s_aload_n dX11_text_9 rfl) <|
  .cons (ix_s_ldc tw_961 dX11_text_10) <|
  .cons (oc_X11_finding_s (ix_s_callv (t := 10) (k_X11_finding l) (by decide) (by decide) tw_965 tw_12 tw_962 tw_964 tp_18 ⟨by decide, by decide, by decide +kernel⟩ (by decide) rfl rfl (fun _ => ⟨_, _, rfl, rfl⟩) dX11_text_12)) <|
  .cons (ix_s_iret dX11_text_15 rfl) <|
  .cons (ix_s_aload_n dX11_text_16 rfl) <|
  .cons (ix_s_iload_n dX11_text_17 rfl) <|
  .cons (ix_s_puti (j := 10) tu_X11 tyX11_ok nmX11 rfl (by decide) (by decide) tw_885 rfl rfl (by decide +kernel) ts_10_10_p dX11_text_18) <|
  .cons (ix_s_aload_n dX11_text_21 rfl) <|
  .cons (ix_s_iconst dX11_text_22 (by decide +kernel)) <|
  .cons (ix_s_puti (j := 8) tu_X11 tyX11_ok nmX11 rfl (by decide) (by decide) tw_883 rfl rfl (by decide +kernel) ts_10_8_p dX11_text_23) <|
  .cons (ix_s_aload_n dX11_text_26 rfl) <|
  .cons (ix_s_iconst dX11_text_27 (by decide +kernel)) <|
  .cons (ix_s_puti (j := 9) tu_X11 tyX11_ok nmX11 rfl (by decide) (by decide) tw_884 rfl rfl (by decide +kernel) ts_10_9_p dX11_text_28) <|
  .cons (ix_s_aload_n dX11_text_31 rfl) <|
  .cons (ix_s_iconst dX11_text_32 (by decide +kernel)) <|
  .cons (ix_s_putz (j := 11) tu_X11 tyX11_ok nmX11 rfl (by decide) (by decide) tw_886 rfl rfl (by decide +kernel) ts_10_11_p dX11_text_33) <|
  .cons (ix_s_aload_n dX11_text_36 rfl) <|
  .cons (ix_s_iconst dX11_text_37 (by decide +kernel)) <|
  .cons (ix_s_puti (j := 13) tu_X11 tyX11_ok nmX11 rfl (by decide) (by decide) tw_888 rfl rfl (by decide +kernel) ts_10_13_p dX11_text_38) <|
  .cons (ix_s_aload_n dX11_text_41 rfl) <|
  .cons (oc_X11_either_s (ix_s_callv (t := 10) (k_X11_either l) (by decide) (by decide) tw_976 tw_12 tw_973 tw_975 tp_19 ⟨by decide, by decide, by decide +kernel⟩ (by decide) rfl rfl (fun _ => ⟨_, _, rfl, rfl⟩) dX11_text_42)) <|
  .cons (ix_s_aload_n dX11_text_45 rfl) <|
  .cons (ix_s_aload_n dX11_text_46 rfl) <|
  .cons (ix_s_geti (j := 11) tu_X11 rfl (by decide) (by decide) tw_886 rfl ts_10_11_i dX11_text_47) <|
  .cons (ix_s_if_ne dX11_text_50 (by decide)) <|
  .cons (ix_s_aload_n dX11_text_53 rfl) <|
  .cons (ix_s_geti (j := 8) tu_X11 rfl (by decide) (by decide) tw_883 rfl ts_10_8_i dX11_text_54) <|
  .cons (ix_s_aload_n dX11_text_57 rfl) <|
  .cons (ix_s_getr (j := 0) tu_X11 rfl (by decide) (by decide) tw_875 rfl ts_10_0_r dX11_text_58) <|
  .cons (ix_s_iconst dX11_text_61 (by decide +kernel)) <|
  .cons (ix_s_iald dX11_text_62) <|
  .cons (ix_s_cmp_ge dX11_text_63 (by decide)) <|
  .cons (ix_s_iconst dX11_text_66 (by decide +kernel)) <|
  .cons (ix_s_goto dX11_text_67 (by decide)) <|
  .cons (ix_s_iconst dX11_text_70 (by decide +kernel)) <|
  .cons (ix_s_putz (j := 11) tu_X11 tyX11_ok nmX11 rfl (by decide) (by decide) tw_886 rfl rfl (by decide +kernel) ts_10_11_p dX11_text_71) <|
  .cons (ix_s_aload_n dX11_text_74 rfl) <|
  .cons (ix_s_getr (j := 0) tu_X11 rfl (by decide) (by decide) tw_875 rfl ts_10_0_r dX11_text_75) <|
  .cons (ix_s_iconst dX11_text_78 (by decide +kernel)) <|
  .cons (ix_s_iconst dX11_text_79 (by decide +kernel)) <|
  .cons (ix_s_iast dX11_text_80) <|
  .cons (ix_s_aload_n dX11_text_81 rfl) <|
  .cons (ix_s_geti (j := 11) tu_X11 rfl (by decide) (by decide) tw_886 rfl ts_10_11_i dX11_text_82) <|
  .cons (ix_s_if_eq dX11_text_85 (by decide)) <|
  .cons (ix_s_bipush dX11_text_88 (by decide +kernel)) <|
  .cons (ix_s_aload_n dX11_text_90 rfl) <|
  .cons (ix_s_geti (j := 8) tu_X11 rfl (by decide) (by decide) tw_883 rfl ts_10_8_i dX11_text_91) <|
  .cons (ix_s_isub dX11_text_94) <|
  .cons (ix_s_iret dX11_text_95 rfl) <|
  .cons (ix_s_aload_n dX11_text_96 rfl) <|
  .cons (ix_s_getr (j := 0) tu_X11 rfl (by decide) (by decide) tw_875 rfl ts_10_0_r dX11_text_97) <|
  .cons (ix_s_sipush dX11_text_100 (by decide +kernel)) <|
  .cons (ix_s_bipush dX11_text_103 (by decide +kernel)) <|
  .cons (ix_s_aload_n dX11_text_105 rfl) <|
  .cons (ix_s_geti (j := 10) tu_X11 rfl (by decide) (by decide) tw_885 rfl ts_10_10_i dX11_text_106) <|
  .cons (ix_s_imul dX11_text_109) <|
  .cons (ix_s_iadd dX11_text_110) <|
  .cons (ix_s_aload_n dX11_text_111 rfl) <|
  .cons (ix_s_geti (j := 13) tu_X11 rfl (by decide) (by decide) tw_888 rfl ts_10_13_i dX11_text_112) <|
  .cons (ix_s_iast dX11_text_115) <|
  .cons (ix_s_iconst dX11_text_116 (by decide +kernel)) <|
  .cons (ix_s_istore_n dX11_text_117 rfl (by decide)) <|
  .cons (ix_s_iload_n dX11_text_118 rfl) <|
  .cons (ix_s_aload_n dX11_text_119 rfl) <|
  .cons (ix_s_geti (j := 13) tu_X11 rfl (by decide) (by decide) tw_888 rfl ts_10_13_i dX11_text_120) <|
  .cons (ix_s_cmp_ge dX11_text_123 (by decide)) <|
  .cons (ix_s_aload_n dX11_text_126 rfl) <|
  .cons (ix_s_getr (j := 0) tu_X11 rfl (by decide) (by decide) tw_875 rfl ts_10_0_r dX11_text_127) <|
  .cons (ix_s_sipush dX11_text_130 (by decide +kernel)) <|
  .cons (ix_s_bipush dX11_text_133 (by decide +kernel)) <|
  .cons (ix_s_aload_n dX11_text_135 rfl) <|
  .cons (ix_s_geti (j := 10) tu_X11 rfl (by decide) (by decide) tw_885 rfl ts_10_10_i dX11_text_136) <|
  .cons (ix_s_imul dX11_text_139) <|
  .cons (ix_s_iadd dX11_text_140) <|
  .cons (ix_s_iconst dX11_text_141 (by decide +kernel)) <|
  .cons (ix_s_iadd dX11_text_142) <|
  .cons (ix_s_iload_n dX11_text_143 rfl) <|
  .cons (ix_s_iadd dX11_text_144) <|
  .cons (ix_s_aload_n dX11_text_145 rfl) <|
  .cons (ix_s_getr (j := 12) tu_X11 rfl (by decide) (by decide) tw_887 rfl ts_10_12_r dX11_text_146) <|
  .cons (ix_s_iload_n dX11_text_149 rfl) <|
  .cons (ix_s_iald dX11_text_150) <|
  .cons (ix_s_iast dX11_text_151) <|
  .cons (ix_s_iinc dX11_text_152 (by decide +kernel) (by decide)) <|
  .cons (ix_s_goto dX11_text_155 (by decide)) <|
  .cons (ix_s_iconst dX11_text_158 (by decide +kernel)) <|
  .cons (ix_s_iret dX11_text_159 rfl) <| .nil
theorem e_X11_text_0 (Q : ix_R → Prop) (ls : ix_L) (st : List ix_V) (μ : ix_M) : ix_Ev o_X11_text Q (0, ls, st, μ) = ix_iload 1 1 (ix_Ev o_X11_text Q) Q ls st μ := ix_Ev.eq (a_X11_text launch0) rfl ls st μ
theorem e_X11_text_1 (Q : ix_R → Prop) (ls : ix_L) (st : List ix_V) (μ : ix_M) : ix_Ev o_X11_text Q (1, ls, st, μ) = ix_push (vi 0) 2 (ix_Ev o_X11_text Q) Q ls st μ := ix_Ev.eq (a_X11_text launch0) rfl ls st μ
theorem e_X11_text_2 (Q : ix_R → Prop) (ls : ix_L) (st : List ix_V) (μ : ix_M) : ix_Ev o_X11_text Q (2, ls, st, μ) = ix_push (vi 1) 3 (ix_Ev o_X11_text Q) Q ls st μ := ix_Ev.eq (a_X11_text launch0) rfl ls st μ
theorem e_X11_text_3 (Q : ix_R → Prop) (ls : ix_L) (st : List ix_V) (μ : ix_M) : ix_Ev o_X11_text Q (3, ls, st, μ) = oc_X11_within 6 (ix_Ev o_X11_text Q) Q ls st μ := ix_Ev.eq (a_X11_text launch0) rfl ls st μ
theorem e_X11_text_6 (Q : ix_R → Prop) (ls : ix_L) (st : List ix_V) (μ : ix_M) : ix_Ev o_X11_text Q (6, ls, st, μ) = ix_if (fun x => x = 0) 9 16 (ix_Ev o_X11_text Q) Q ls st μ := ix_Ev.eq (a_X11_text launch0) rfl ls st μ
theorem e_X11_text_9 (Q : ix_R → Prop) (ls : ix_L) (st : List ix_V) (μ : ix_M) : ix_Ev o_X11_text Q (9, ls, st, μ) = ix_aload 0 10 (ix_Ev o_X11_text Q) Q ls st μ := ix_Ev.eq (a_X11_text launch0) rfl ls st μ
theorem e_X11_text_10 (Q : ix_R → Prop) (ls : ix_L) (st : List ix_V) (μ : ix_M) : ix_Ev o_X11_text Q (10, ls, st, μ) = ix_push (vi (-1000000001)) 12 (ix_Ev o_X11_text Q) Q ls st μ := ix_Ev.eq (a_X11_text launch0) rfl ls st μ
theorem e_X11_text_12 (Q : ix_R → Prop) (ls : ix_L) (st : List ix_V) (μ : ix_M) : ix_Ev o_X11_text Q (12, ls, st, μ) = oc_X11_finding 15 (ix_Ev o_X11_text Q) Q ls st μ := ix_Ev.eq (a_X11_text launch0) rfl ls st μ
theorem e_X11_text_15 (Q : ix_R → Prop) (ls : ix_L) (st : List ix_V) (μ : ix_M) : ix_Ev o_X11_text Q (15, ls, st, μ) = ix_iret (ix_Ev o_X11_text Q) Q ls st μ := ix_Ev.eq (a_X11_text launch0) rfl ls st μ
theorem e_X11_text_16 (Q : ix_R → Prop) (ls : ix_L) (st : List ix_V) (μ : ix_M) : ix_Ev o_X11_text Q (16, ls, st, μ) = ix_aload 0 17 (ix_Ev o_X11_text Q) Q ls st μ := ix_Ev.eq (a_X11_text launch0) rfl ls st μ
theorem e_X11_text_17 (Q : ix_R → Prop) (ls : ix_L) (st : List ix_V) (μ : ix_M) : ix_Ev o_X11_text Q (17, ls, st, μ) = ix_iload 1 18 (ix_Ev o_X11_text Q) Q ls st μ := ix_Ev.eq (a_X11_text launch0) rfl ls st μ
theorem e_X11_text_18 (Q : ix_R → Prop) (ls : ix_L) (st : List ix_V) (μ : ix_M) : ix_Ev o_X11_text Q (18, ls, st, μ) = ix_puti 10 10 21 (ix_Ev o_X11_text Q) Q ls st μ := ix_Ev.eq (a_X11_text launch0) rfl ls st μ
theorem e_X11_text_21 (Q : ix_R → Prop) (ls : ix_L) (st : List ix_V) (μ : ix_M) : ix_Ev o_X11_text Q (21, ls, st, μ) = ix_aload 0 22 (ix_Ev o_X11_text Q) Q ls st μ := ix_Ev.eq (a_X11_text launch0) rfl ls st μ
theorem e_X11_text_22 (Q : ix_R → Prop) (ls : ix_L) (st : List ix_V) (μ : ix_M) : ix_Ev o_X11_text Q (22, ls, st, μ) = ix_push (vi 0) 23 (ix_Ev o_X11_text Q) Q ls st μ := ix_Ev.eq (a_X11_text launch0) rfl ls st μ
theorem e_X11_text_23 (Q : ix_R → Prop) (ls : ix_L) (st : List ix_V) (μ : ix_M) : ix_Ev o_X11_text Q (23, ls, st, μ) = ix_puti 10 8 26 (ix_Ev o_X11_text Q) Q ls st μ := ix_Ev.eq (a_X11_text launch0) rfl ls st μ
theorem e_X11_text_26 (Q : ix_R → Prop) (ls : ix_L) (st : List ix_V) (μ : ix_M) : ix_Ev o_X11_text Q (26, ls, st, μ) = ix_aload 0 27 (ix_Ev o_X11_text Q) Q ls st μ := ix_Ev.eq (a_X11_text launch0) rfl ls st μ
theorem e_X11_text_27 (Q : ix_R → Prop) (ls : ix_L) (st : List ix_V) (μ : ix_M) : ix_Ev o_X11_text Q (27, ls, st, μ) = ix_push (vi 0) 28 (ix_Ev o_X11_text Q) Q ls st μ := ix_Ev.eq (a_X11_text launch0) rfl ls st μ
theorem e_X11_text_28 (Q : ix_R → Prop) (ls : ix_L) (st : List ix_V) (μ : ix_M) : ix_Ev o_X11_text Q (28, ls, st, μ) = ix_puti 10 9 31 (ix_Ev o_X11_text Q) Q ls st μ := ix_Ev.eq (a_X11_text launch0) rfl ls st μ
theorem e_X11_text_31 (Q : ix_R → Prop) (ls : ix_L) (st : List ix_V) (μ : ix_M) : ix_Ev o_X11_text Q (31, ls, st, μ) = ix_aload 0 32 (ix_Ev o_X11_text Q) Q ls st μ := ix_Ev.eq (a_X11_text launch0) rfl ls st μ
theorem e_X11_text_32 (Q : ix_R → Prop) (ls : ix_L) (st : List ix_V) (μ : ix_M) : ix_Ev o_X11_text Q (32, ls, st, μ) = ix_push (vi 0) 33 (ix_Ev o_X11_text Q) Q ls st μ := ix_Ev.eq (a_X11_text launch0) rfl ls st μ
theorem e_X11_text_33 (Q : ix_R → Prop) (ls : ix_L) (st : List ix_V) (μ : ix_M) : ix_Ev o_X11_text Q (33, ls, st, μ) = ix_putz 10 11 36 (ix_Ev o_X11_text Q) Q ls st μ := ix_Ev.eq (a_X11_text launch0) rfl ls st μ
theorem e_X11_text_36 (Q : ix_R → Prop) (ls : ix_L) (st : List ix_V) (μ : ix_M) : ix_Ev o_X11_text Q (36, ls, st, μ) = ix_aload 0 37 (ix_Ev o_X11_text Q) Q ls st μ := ix_Ev.eq (a_X11_text launch0) rfl ls st μ
theorem e_X11_text_37 (Q : ix_R → Prop) (ls : ix_L) (st : List ix_V) (μ : ix_M) : ix_Ev o_X11_text Q (37, ls, st, μ) = ix_push (vi 0) 38 (ix_Ev o_X11_text Q) Q ls st μ := ix_Ev.eq (a_X11_text launch0) rfl ls st μ
theorem e_X11_text_38 (Q : ix_R → Prop) (ls : ix_L) (st : List ix_V) (μ : ix_M) : ix_Ev o_X11_text Q (38, ls, st, μ) = ix_puti 10 13 41 (ix_Ev o_X11_text Q) Q ls st μ := ix_Ev.eq (a_X11_text launch0) rfl ls st μ
theorem e_X11_text_41 (Q : ix_R → Prop) (ls : ix_L) (st : List ix_V) (μ : ix_M) : ix_Ev o_X11_text Q (41, ls, st, μ) = ix_aload 0 42 (ix_Ev o_X11_text Q) Q ls st μ := ix_Ev.eq (a_X11_text launch0) rfl ls st μ
theorem e_X11_text_42 (Q : ix_R → Prop) (ls : ix_L) (st : List ix_V) (μ : ix_M) : ix_Ev o_X11_text Q (42, ls, st, μ) = oc_X11_either 45 (ix_Ev o_X11_text Q) Q ls st μ := ix_Ev.eq (a_X11_text launch0) rfl ls st μ
theorem e_X11_text_45 (Q : ix_R → Prop) (ls : ix_L) (st : List ix_V) (μ : ix_M) : ix_Ev o_X11_text Q (45, ls, st, μ) = ix_aload 0 46 (ix_Ev o_X11_text Q) Q ls st μ := ix_Ev.eq (a_X11_text launch0) rfl ls st μ
theorem e_X11_text_46 (Q : ix_R → Prop) (ls : ix_L) (st : List ix_V) (μ : ix_M) : ix_Ev o_X11_text Q (46, ls, st, μ) = ix_aload 0 47 (ix_Ev o_X11_text Q) Q ls st μ := ix_Ev.eq (a_X11_text launch0) rfl ls st μ
theorem e_X11_text_47 (Q : ix_R → Prop) (ls : ix_L) (st : List ix_V) (μ : ix_M) : ix_Ev o_X11_text Q (47, ls, st, μ) = ix_geti 10 11 50 (ix_Ev o_X11_text Q) Q ls st μ := ix_Ev.eq (a_X11_text launch0) rfl ls st μ
theorem e_X11_text_50 (Q : ix_R → Prop) (ls : ix_L) (st : List ix_V) (μ : ix_M) : ix_Ev o_X11_text Q (50, ls, st, μ) = ix_if (fun x => x = 0) 53 66 (ix_Ev o_X11_text Q) Q ls st μ := ix_Ev.eq (a_X11_text launch0) rfl ls st μ
theorem e_X11_text_53 (Q : ix_R → Prop) (ls : ix_L) (st : List ix_V) (μ : ix_M) : ix_Ev o_X11_text Q (53, ls, st, μ) = ix_aload 0 54 (ix_Ev o_X11_text Q) Q ls st μ := ix_Ev.eq (a_X11_text launch0) rfl ls st μ
theorem e_X11_text_54 (Q : ix_R → Prop) (ls : ix_L) (st : List ix_V) (μ : ix_M) : ix_Ev o_X11_text Q (54, ls, st, μ) = ix_geti 10 8 57 (ix_Ev o_X11_text Q) Q ls st μ := ix_Ev.eq (a_X11_text launch0) rfl ls st μ
theorem e_X11_text_57 (Q : ix_R → Prop) (ls : ix_L) (st : List ix_V) (μ : ix_M) : ix_Ev o_X11_text Q (57, ls, st, μ) = ix_aload 0 58 (ix_Ev o_X11_text Q) Q ls st μ := ix_Ev.eq (a_X11_text launch0) rfl ls st μ
theorem e_X11_text_58 (Q : ix_R → Prop) (ls : ix_L) (st : List ix_V) (μ : ix_M) : ix_Ev o_X11_text Q (58, ls, st, μ) = ix_getr 10 20 (fun _ => 113) 61 (ix_Ev o_X11_text Q) Q ls st μ := ix_Ev.eq (a_X11_text launch0) rfl ls st μ
theorem e_X11_text_61 (Q : ix_R → Prop) (ls : ix_L) (st : List ix_V) (μ : ix_M) : ix_Ev o_X11_text Q (61, ls, st, μ) = ix_push (vi 4) 62 (ix_Ev o_X11_text Q) Q ls st μ := ix_Ev.eq (a_X11_text launch0) rfl ls st μ
theorem e_X11_text_62 (Q : ix_R → Prop) (ls : ix_L) (st : List ix_V) (μ : ix_M) : ix_Ev o_X11_text Q (62, ls, st, μ) = ix_iald 63 (ix_Ev o_X11_text Q) Q ls st μ := ix_Ev.eq (a_X11_text launch0) rfl ls st μ
theorem e_X11_text_63 (Q : ix_R → Prop) (ls : ix_L) (st : List ix_V) (μ : ix_M) : ix_Ev o_X11_text Q (63, ls, st, μ) = ix_cmp (fun x y => y ≤ x) 70 66 (ix_Ev o_X11_text Q) Q ls st μ := ix_Ev.eq (a_X11_text launch0) rfl ls st μ
theorem e_X11_text_66 (Q : ix_R → Prop) (ls : ix_L) (st : List ix_V) (μ : ix_M) : ix_Ev o_X11_text Q (66, ls, st, μ) = ix_push (vi 1) 67 (ix_Ev o_X11_text Q) Q ls st μ := ix_Ev.eq (a_X11_text launch0) rfl ls st μ
theorem e_X11_text_67 (Q : ix_R → Prop) (ls : ix_L) (st : List ix_V) (μ : ix_M) : ix_Ev o_X11_text Q (67, ls, st, μ) = ix_goto 71 (ix_Ev o_X11_text Q) Q ls st μ := ix_Ev.eq (a_X11_text launch0) rfl ls st μ
theorem e_X11_text_70 (Q : ix_R → Prop) (ls : ix_L) (st : List ix_V) (μ : ix_M) : ix_Ev o_X11_text Q (70, ls, st, μ) = ix_push (vi 0) 71 (ix_Ev o_X11_text Q) Q ls st μ := ix_Ev.eq (a_X11_text launch0) rfl ls st μ
theorem e_X11_text_71 (Q : ix_R → Prop) (ls : ix_L) (st : List ix_V) (μ : ix_M) : ix_Ev o_X11_text Q (71, ls, st, μ) = ix_putz 10 11 74 (ix_Ev o_X11_text Q) Q ls st μ := ix_Ev.eq (a_X11_text launch0) rfl ls st μ
theorem e_X11_text_74 (Q : ix_R → Prop) (ls : ix_L) (st : List ix_V) (μ : ix_M) : ix_Ev o_X11_text Q (74, ls, st, μ) = ix_aload 0 75 (ix_Ev o_X11_text Q) Q ls st μ := ix_Ev.eq (a_X11_text launch0) rfl ls st μ
theorem e_X11_text_75 (Q : ix_R → Prop) (ls : ix_L) (st : List ix_V) (μ : ix_M) : ix_Ev o_X11_text Q (75, ls, st, μ) = ix_getr 10 20 (fun _ => 113) 78 (ix_Ev o_X11_text Q) Q ls st μ := ix_Ev.eq (a_X11_text launch0) rfl ls st μ
theorem e_X11_text_78 (Q : ix_R → Prop) (ls : ix_L) (st : List ix_V) (μ : ix_M) : ix_Ev o_X11_text Q (78, ls, st, μ) = ix_push (vi 4) 79 (ix_Ev o_X11_text Q) Q ls st μ := ix_Ev.eq (a_X11_text launch0) rfl ls st μ
theorem e_X11_text_79 (Q : ix_R → Prop) (ls : ix_L) (st : List ix_V) (μ : ix_M) : ix_Ev o_X11_text Q (79, ls, st, μ) = ix_push (vi 0) 80 (ix_Ev o_X11_text Q) Q ls st μ := ix_Ev.eq (a_X11_text launch0) rfl ls st μ
theorem e_X11_text_80 (Q : ix_R → Prop) (ls : ix_L) (st : List ix_V) (μ : ix_M) : ix_Ev o_X11_text Q (80, ls, st, μ) = ix_iast 81 (ix_Ev o_X11_text Q) Q ls st μ := ix_Ev.eq (a_X11_text launch0) rfl ls st μ
theorem e_X11_text_81 (Q : ix_R → Prop) (ls : ix_L) (st : List ix_V) (μ : ix_M) : ix_Ev o_X11_text Q (81, ls, st, μ) = ix_aload 0 82 (ix_Ev o_X11_text Q) Q ls st μ := ix_Ev.eq (a_X11_text launch0) rfl ls st μ
theorem e_X11_text_82 (Q : ix_R → Prop) (ls : ix_L) (st : List ix_V) (μ : ix_M) : ix_Ev o_X11_text Q (82, ls, st, μ) = ix_geti 10 11 85 (ix_Ev o_X11_text Q) Q ls st μ := ix_Ev.eq (a_X11_text launch0) rfl ls st μ
theorem e_X11_text_85 (Q : ix_R → Prop) (ls : ix_L) (st : List ix_V) (μ : ix_M) : ix_Ev o_X11_text Q (85, ls, st, μ) = ix_if (fun x => x = 0) 96 88 (ix_Ev o_X11_text Q) Q ls st μ := ix_Ev.eq (a_X11_text launch0) rfl ls st μ
theorem e_X11_text_88 (Q : ix_R → Prop) (ls : ix_L) (st : List ix_V) (μ : ix_M) : ix_Ev o_X11_text Q (88, ls, st, μ) = ix_push (vi (-10)) 90 (ix_Ev o_X11_text Q) Q ls st μ := ix_Ev.eq (a_X11_text launch0) rfl ls st μ
theorem e_X11_text_90 (Q : ix_R → Prop) (ls : ix_L) (st : List ix_V) (μ : ix_M) : ix_Ev o_X11_text Q (90, ls, st, μ) = ix_aload 0 91 (ix_Ev o_X11_text Q) Q ls st μ := ix_Ev.eq (a_X11_text launch0) rfl ls st μ
theorem e_X11_text_91 (Q : ix_R → Prop) (ls : ix_L) (st : List ix_V) (μ : ix_M) : ix_Ev o_X11_text Q (91, ls, st, μ) = ix_geti 10 8 94 (ix_Ev o_X11_text Q) Q ls st μ := ix_Ev.eq (a_X11_text launch0) rfl ls st μ
theorem e_X11_text_94 (Q : ix_R → Prop) (ls : ix_L) (st : List ix_V) (μ : ix_M) : ix_Ev o_X11_text Q (94, ls, st, μ) = ix_bin (fun x y => x - y) 95 (ix_Ev o_X11_text Q) Q ls st μ := ix_Ev.eq (a_X11_text launch0) rfl ls st μ
theorem e_X11_text_95 (Q : ix_R → Prop) (ls : ix_L) (st : List ix_V) (μ : ix_M) : ix_Ev o_X11_text Q (95, ls, st, μ) = ix_iret (ix_Ev o_X11_text Q) Q ls st μ := ix_Ev.eq (a_X11_text launch0) rfl ls st μ
theorem e_X11_text_96 (Q : ix_R → Prop) (ls : ix_L) (st : List ix_V) (μ : ix_M) : ix_Ev o_X11_text Q (96, ls, st, μ) = ix_aload 0 97 (ix_Ev o_X11_text Q) Q ls st μ := ix_Ev.eq (a_X11_text launch0) rfl ls st μ
theorem e_X11_text_97 (Q : ix_R → Prop) (ls : ix_L) (st : List ix_V) (μ : ix_M) : ix_Ev o_X11_text Q (97, ls, st, μ) = ix_getr 10 20 (fun _ => 113) 100 (ix_Ev o_X11_text Q) Q ls st μ := ix_Ev.eq (a_X11_text launch0) rfl ls st μ
theorem e_X11_text_100 (Q : ix_R → Prop) (ls : ix_L) (st : List ix_V) (μ : ix_M) : ix_Ev o_X11_text Q (100, ls, st, μ) = ix_push (vi 152) 103 (ix_Ev o_X11_text Q) Q ls st μ := ix_Ev.eq (a_X11_text launch0) rfl ls st μ
theorem e_X11_text_103 (Q : ix_R → Prop) (ls : ix_L) (st : List ix_V) (μ : ix_M) : ix_Ev o_X11_text Q (103, ls, st, μ) = ix_push (vi 52) 105 (ix_Ev o_X11_text Q) Q ls st μ := ix_Ev.eq (a_X11_text launch0) rfl ls st μ
theorem e_X11_text_105 (Q : ix_R → Prop) (ls : ix_L) (st : List ix_V) (μ : ix_M) : ix_Ev o_X11_text Q (105, ls, st, μ) = ix_aload 0 106 (ix_Ev o_X11_text Q) Q ls st μ := ix_Ev.eq (a_X11_text launch0) rfl ls st μ
theorem e_X11_text_106 (Q : ix_R → Prop) (ls : ix_L) (st : List ix_V) (μ : ix_M) : ix_Ev o_X11_text Q (106, ls, st, μ) = ix_geti 10 10 109 (ix_Ev o_X11_text Q) Q ls st μ := ix_Ev.eq (a_X11_text launch0) rfl ls st μ
theorem e_X11_text_109 (Q : ix_R → Prop) (ls : ix_L) (st : List ix_V) (μ : ix_M) : ix_Ev o_X11_text Q (109, ls, st, μ) = ix_bin (fun x y => x * y) 110 (ix_Ev o_X11_text Q) Q ls st μ := ix_Ev.eq (a_X11_text launch0) rfl ls st μ
theorem e_X11_text_110 (Q : ix_R → Prop) (ls : ix_L) (st : List ix_V) (μ : ix_M) : ix_Ev o_X11_text Q (110, ls, st, μ) = ix_bin (fun x y => x + y) 111 (ix_Ev o_X11_text Q) Q ls st μ := ix_Ev.eq (a_X11_text launch0) rfl ls st μ
theorem e_X11_text_111 (Q : ix_R → Prop) (ls : ix_L) (st : List ix_V) (μ : ix_M) : ix_Ev o_X11_text Q (111, ls, st, μ) = ix_aload 0 112 (ix_Ev o_X11_text Q) Q ls st μ := ix_Ev.eq (a_X11_text launch0) rfl ls st μ
theorem e_X11_text_112 (Q : ix_R → Prop) (ls : ix_L) (st : List ix_V) (μ : ix_M) : ix_Ev o_X11_text Q (112, ls, st, μ) = ix_geti 10 13 115 (ix_Ev o_X11_text Q) Q ls st μ := ix_Ev.eq (a_X11_text launch0) rfl ls st μ
theorem e_X11_text_115 (Q : ix_R → Prop) (ls : ix_L) (st : List ix_V) (μ : ix_M) : ix_Ev o_X11_text Q (115, ls, st, μ) = ix_iast 116 (ix_Ev o_X11_text Q) Q ls st μ := ix_Ev.eq (a_X11_text launch0) rfl ls st μ
theorem e_X11_text_116 (Q : ix_R → Prop) (ls : ix_L) (st : List ix_V) (μ : ix_M) : ix_Ev o_X11_text Q (116, ls, st, μ) = ix_push (vi 0) 117 (ix_Ev o_X11_text Q) Q ls st μ := ix_Ev.eq (a_X11_text launch0) rfl ls st μ
theorem e_X11_text_117 (Q : ix_R → Prop) (ls : ix_L) (st : List ix_V) (μ : ix_M) : ix_Ev o_X11_text Q (117, ls, st, μ) = ix_istore 2 118 (ix_Ev o_X11_text Q) Q ls st μ := ix_Ev.eq (a_X11_text launch0) rfl ls st μ
theorem e_X11_text_118 (Q : ix_R → Prop) (ls : ix_L) (st : List ix_V) (μ : ix_M) : ix_Ev o_X11_text Q (118, ls, st, μ) = ix_iload 2 119 (ix_Ev o_X11_text Q) Q ls st μ := ix_Ev.eq (a_X11_text launch0) rfl ls st μ
theorem e_X11_text_119 (Q : ix_R → Prop) (ls : ix_L) (st : List ix_V) (μ : ix_M) : ix_Ev o_X11_text Q (119, ls, st, μ) = ix_aload 0 120 (ix_Ev o_X11_text Q) Q ls st μ := ix_Ev.eq (a_X11_text launch0) rfl ls st μ
theorem e_X11_text_120 (Q : ix_R → Prop) (ls : ix_L) (st : List ix_V) (μ : ix_M) : ix_Ev o_X11_text Q (120, ls, st, μ) = ix_geti 10 13 123 (ix_Ev o_X11_text Q) Q ls st μ := ix_Ev.eq (a_X11_text launch0) rfl ls st μ
theorem e_X11_text_123 (Q : ix_R → Prop) (ls : ix_L) (st : List ix_V) (μ : ix_M) : ix_Ev o_X11_text Q (123, ls, st, μ) = ix_cmp (fun x y => y ≤ x) 158 126 (ix_Ev o_X11_text Q) Q ls st μ := ix_Ev.eq (a_X11_text launch0) rfl ls st μ
theorem e_X11_text_126 (Q : ix_R → Prop) (ls : ix_L) (st : List ix_V) (μ : ix_M) : ix_Ev o_X11_text Q (126, ls, st, μ) = ix_aload 0 127 (ix_Ev o_X11_text Q) Q ls st μ := ix_Ev.eq (a_X11_text launch0) rfl ls st μ
theorem e_X11_text_127 (Q : ix_R → Prop) (ls : ix_L) (st : List ix_V) (μ : ix_M) : ix_Ev o_X11_text Q (127, ls, st, μ) = ix_getr 10 20 (fun _ => 113) 130 (ix_Ev o_X11_text Q) Q ls st μ := ix_Ev.eq (a_X11_text launch0) rfl ls st μ
theorem e_X11_text_130 (Q : ix_R → Prop) (ls : ix_L) (st : List ix_V) (μ : ix_M) : ix_Ev o_X11_text Q (130, ls, st, μ) = ix_push (vi 152) 133 (ix_Ev o_X11_text Q) Q ls st μ := ix_Ev.eq (a_X11_text launch0) rfl ls st μ
theorem e_X11_text_133 (Q : ix_R → Prop) (ls : ix_L) (st : List ix_V) (μ : ix_M) : ix_Ev o_X11_text Q (133, ls, st, μ) = ix_push (vi 52) 135 (ix_Ev o_X11_text Q) Q ls st μ := ix_Ev.eq (a_X11_text launch0) rfl ls st μ
theorem e_X11_text_135 (Q : ix_R → Prop) (ls : ix_L) (st : List ix_V) (μ : ix_M) : ix_Ev o_X11_text Q (135, ls, st, μ) = ix_aload 0 136 (ix_Ev o_X11_text Q) Q ls st μ := ix_Ev.eq (a_X11_text launch0) rfl ls st μ
theorem e_X11_text_136 (Q : ix_R → Prop) (ls : ix_L) (st : List ix_V) (μ : ix_M) : ix_Ev o_X11_text Q (136, ls, st, μ) = ix_geti 10 10 139 (ix_Ev o_X11_text Q) Q ls st μ := ix_Ev.eq (a_X11_text launch0) rfl ls st μ
theorem e_X11_text_139 (Q : ix_R → Prop) (ls : ix_L) (st : List ix_V) (μ : ix_M) : ix_Ev o_X11_text Q (139, ls, st, μ) = ix_bin (fun x y => x * y) 140 (ix_Ev o_X11_text Q) Q ls st μ := ix_Ev.eq (a_X11_text launch0) rfl ls st μ
theorem e_X11_text_140 (Q : ix_R → Prop) (ls : ix_L) (st : List ix_V) (μ : ix_M) : ix_Ev o_X11_text Q (140, ls, st, μ) = ix_bin (fun x y => x + y) 141 (ix_Ev o_X11_text Q) Q ls st μ := ix_Ev.eq (a_X11_text launch0) rfl ls st μ
theorem e_X11_text_141 (Q : ix_R → Prop) (ls : ix_L) (st : List ix_V) (μ : ix_M) : ix_Ev o_X11_text Q (141, ls, st, μ) = ix_push (vi 1) 142 (ix_Ev o_X11_text Q) Q ls st μ := ix_Ev.eq (a_X11_text launch0) rfl ls st μ
theorem e_X11_text_142 (Q : ix_R → Prop) (ls : ix_L) (st : List ix_V) (μ : ix_M) : ix_Ev o_X11_text Q (142, ls, st, μ) = ix_bin (fun x y => x + y) 143 (ix_Ev o_X11_text Q) Q ls st μ := ix_Ev.eq (a_X11_text launch0) rfl ls st μ
theorem e_X11_text_143 (Q : ix_R → Prop) (ls : ix_L) (st : List ix_V) (μ : ix_M) : ix_Ev o_X11_text Q (143, ls, st, μ) = ix_iload 2 144 (ix_Ev o_X11_text Q) Q ls st μ := ix_Ev.eq (a_X11_text launch0) rfl ls st μ
theorem e_X11_text_144 (Q : ix_R → Prop) (ls : ix_L) (st : List ix_V) (μ : ix_M) : ix_Ev o_X11_text Q (144, ls, st, μ) = ix_bin (fun x y => x + y) 145 (ix_Ev o_X11_text Q) Q ls st μ := ix_Ev.eq (a_X11_text launch0) rfl ls st μ
theorem e_X11_text_145 (Q : ix_R → Prop) (ls : ix_L) (st : List ix_V) (μ : ix_M) : ix_Ev o_X11_text Q (145, ls, st, μ) = ix_aload 0 146 (ix_Ev o_X11_text Q) Q ls st μ := ix_Ev.eq (a_X11_text launch0) rfl ls st μ
theorem e_X11_text_146 (Q : ix_R → Prop) (ls : ix_L) (st : List ix_V) (μ : ix_M) : ix_Ev o_X11_text Q (146, ls, st, μ) = ix_getr 10 20 (fun _ => 118) 149 (ix_Ev o_X11_text Q) Q ls st μ := ix_Ev.eq (a_X11_text launch0) rfl ls st μ
theorem e_X11_text_149 (Q : ix_R → Prop) (ls : ix_L) (st : List ix_V) (μ : ix_M) : ix_Ev o_X11_text Q (149, ls, st, μ) = ix_iload 2 150 (ix_Ev o_X11_text Q) Q ls st μ := ix_Ev.eq (a_X11_text launch0) rfl ls st μ
theorem e_X11_text_150 (Q : ix_R → Prop) (ls : ix_L) (st : List ix_V) (μ : ix_M) : ix_Ev o_X11_text Q (150, ls, st, μ) = ix_iald 151 (ix_Ev o_X11_text Q) Q ls st μ := ix_Ev.eq (a_X11_text launch0) rfl ls st μ
theorem e_X11_text_151 (Q : ix_R → Prop) (ls : ix_L) (st : List ix_V) (μ : ix_M) : ix_Ev o_X11_text Q (151, ls, st, μ) = ix_iast 152 (ix_Ev o_X11_text Q) Q ls st μ := ix_Ev.eq (a_X11_text launch0) rfl ls st μ
theorem e_X11_text_152 (Q : ix_R → Prop) (ls : ix_L) (st : List ix_V) (μ : ix_M) : ix_Ev o_X11_text Q (152, ls, st, μ) = ix_iinc 2 1 155 (ix_Ev o_X11_text Q) Q ls st μ := ix_Ev.eq (a_X11_text launch0) rfl ls st μ
theorem e_X11_text_155 (Q : ix_R → Prop) (ls : ix_L) (st : List ix_V) (μ : ix_M) : ix_Ev o_X11_text Q (155, ls, st, μ) = ix_goto 118 (ix_Ev o_X11_text Q) Q ls st μ := ix_Ev.eq (a_X11_text launch0) rfl ls st μ
theorem e_X11_text_158 (Q : ix_R → Prop) (ls : ix_L) (st : List ix_V) (μ : ix_M) : ix_Ev o_X11_text Q (158, ls, st, μ) = ix_push (vi 1) 159 (ix_Ev o_X11_text Q) Q ls st μ := ix_Ev.eq (a_X11_text launch0) rfl ls st μ
theorem e_X11_text_159 (Q : ix_R → Prop) (ls : ix_L) (st : List ix_V) (μ : ix_M) : ix_Ev o_X11_text Q (159, ls, st, μ) = ix_iret (ix_Ev o_X11_text Q) Q ls st μ := ix_Ev.eq (a_X11_text launch0) rfl ls st μ
theorem l_X11_text {U L t : Nat} {c : List Int32} {μ0 : ix_M} {Q : ix_R → Prop} (hU : U ≤ 1) (ht : t = 152 + 52 * U) (hL : L = c.length) (hL50 : L ≤ 50) (hu : μ0 112 10 = nI U) (hl : μ0 112 13 = nI L) (hc : ∀ j, j < L → μ0 118 j = c.getD j 0) (hQ : ∀ μ', Fx [113] μ0 μ' → (∀ j, μ' 113 j = if t + 1 ≤ j ∧ j < t + 1 + L then c.getD (j - (t + 1)) 0 else μ0 113 j) → Q (some (vi 1), μ')) : ∀ (k x : Nat) (μ : ix_M), x + k = L → Fx [113] μ0 μ → (∀ j, μ 113 j = if t + 1 ≤ j ∧ j < t + 1 + x then c.getD (j - (t + 1)) 0 else μ0 113 j) → ix_Ev o_X11_text Q (118, [some (vr 10 112), some (vi (nI U)), some (vi (nI x))], [], μ) := by
  intro k
  induction k with
  | zero =>
    intro x μ hx hF hr
    have hx : x = L := hx
    have c1 : nI L ≤ nI x := nI_le (by omega) (by omega)
    have hl' : μ 112 13 = nI L := by rw [hF 112 (by decide)]; exact hl
    rw [e_X11_text_118]
    simp (decide := true) only [e_X11_text_0, e_X11_text_1, e_X11_text_2, e_X11_text_3, e_X11_text_6, e_X11_text_9, e_X11_text_10, e_X11_text_12, e_X11_text_15, e_X11_text_16, e_X11_text_17, e_X11_text_18, e_X11_text_21, e_X11_text_22, e_X11_text_23, e_X11_text_26, e_X11_text_27, e_X11_text_28, e_X11_text_31, e_X11_text_32, e_X11_text_33, e_X11_text_36, e_X11_text_37, e_X11_text_38, e_X11_text_41, e_X11_text_42, e_X11_text_45, e_X11_text_46, e_X11_text_47, e_X11_text_50, e_X11_text_53, e_X11_text_54, e_X11_text_57, e_X11_text_58, e_X11_text_61, e_X11_text_62, e_X11_text_63, e_X11_text_66, e_X11_text_67, e_X11_text_70, e_X11_text_71, e_X11_text_74, e_X11_text_75, e_X11_text_78, e_X11_text_79, e_X11_text_80, e_X11_text_81, e_X11_text_82, e_X11_text_85, e_X11_text_88, e_X11_text_90, e_X11_text_91, e_X11_text_94, e_X11_text_95, e_X11_text_96, e_X11_text_97, e_X11_text_100, e_X11_text_103, e_X11_text_105, e_X11_text_106, e_X11_text_109, e_X11_text_110, e_X11_text_111, e_X11_text_112, e_X11_text_115, e_X11_text_116, e_X11_text_117, e_X11_text_119, e_X11_text_120, e_X11_text_123, e_X11_text_126, e_X11_text_127, e_X11_text_130, e_X11_text_133, e_X11_text_135, e_X11_text_136, e_X11_text_139, e_X11_text_140, e_X11_text_141, e_X11_text_142, e_X11_text_143, e_X11_text_144, e_X11_text_145, e_X11_text_146, e_X11_text_149, e_X11_text_150, e_X11_text_151, e_X11_text_152, e_X11_text_155, e_X11_text_158, e_X11_text_159, vi, vl, vr, oc_X11_either, T_X11_either, oc_X11_finding, T_X11_finding, oc_X11_within, T_X11_within, ix_push, ix_iload, ix_lload, ix_aload, ix_istore, ix_astore, ix_iinc, ix_bin, ix_div, ix_un, ix_i2l, ix_l2i, ix_lbin, ix_lsh, ix_lcmp, ix_dup, ix_dup2, ix_pop, ix_if, ix_cmp, ix_goto, ix_switch, ix_sw, ix_iret, ix_zret, ix_vret, ix_aret, ix_geti, ix_getr, ix_puti, ix_putz, ix_puts, ix_gets, ix_iald, ix_iast, ix_alen, ix_aald, ix_gval, ix_gcod, ix_bald, ix_blen, ix_sald, ix_nret, ix_math2, ix_math1, ix_acopy, ml_113, ml_114, ml_115, ml_116, ml_118, ml_119, ml_120, ml_121, ml_122, ml_123, ml_124, ml_125, ml_126, mv_0, mv_1, mv_2, mv_3, mv_4, mv_5, mB_or, Nat.add_assoc, Int32.reduceLT, Int32.reduceLE, Int32.reduceToNatClampNeg, Int32.reduceSub, Int32.reduceAdd, Nat.reduceAdd, Nat.reduceLeDiff, true_or, or_true, or_false, false_or, not_false_eq_true, not_true_eq_false, false_implies, true_implies, implies_true, and_self, mB_0, mB_01, Classical.not_not, Nat.zero_le, List.getElem?_cons_zero, List.getElem?_cons_succ, List.set_cons_zero, List.set_cons_succ, ix_nl, ix_cs, true_and, and_true, Option.toList_some, Option.toList_none, List.cons_append, List.nil_append, hl', c1]
    rw [hx] at hr
    exact hQ μ hF hr
  | succ k ih =>
    intro x μ hx hF hr
    have c1 : ¬ nI L ≤ nI x := nI_ge (by omega) (by omega)
    have n1 : nI x + 1 = nI (x + 1) := nI_1 x
    have hl' : μ 112 13 = nI L := by rw [hF 112 (by decide)]; exact hl
    have hu' : μ 112 10 = nI U := by rw [hF 112 (by decide)]; exact hu
    have hc' : μ 118 x = c.getD x 0 := by rw [hF 118 (by decide)]; exact hc x (by omega)
    obtain ⟨v, hv⟩ : ∃ v, v = 52 * U := ⟨_, rfl⟩
    obtain ⟨t1, ht1⟩ : ∃ t1, t1 = t + 1 := ⟨_, rfl⟩
    obtain ⟨z, hz⟩ : ∃ z, z = t1 + x := ⟨_, rfl⟩
    have q1 : (52 : Int32) * nI U = nI v := by rw [hv]; exact (Int32.ofNat_mul 52 U).symm
    have q2 : (152 : Int32) + nI v = nI t := by rw [ht, hv]; exact nI_add 152 _
    have q3 : nI t + 1 = nI t1 := by rw [ht1]; exact nI_1 t
    have q4 : nI t1 + nI x = nI z := by rw [hz]; exact nI_add _ _
    have q5 : (nI z).toNatClampNeg = z := nI_clamp (by omega)
    have q6 : vp_in (nI z) 256 := vp_in_nI (by omega) (by decide)
    have q7 : (nI x).toNatClampNeg = x := nI_clamp (by omega)
    have q8 : vp_in (nI x) 60 := vp_in_nI (by omega) (by decide)
    rw [e_X11_text_118]
    simp (decide := true) only [e_X11_text_0, e_X11_text_1, e_X11_text_2, e_X11_text_3, e_X11_text_6, e_X11_text_9, e_X11_text_10, e_X11_text_12, e_X11_text_15, e_X11_text_16, e_X11_text_17, e_X11_text_18, e_X11_text_21, e_X11_text_22, e_X11_text_23, e_X11_text_26, e_X11_text_27, e_X11_text_28, e_X11_text_31, e_X11_text_32, e_X11_text_33, e_X11_text_36, e_X11_text_37, e_X11_text_38, e_X11_text_41, e_X11_text_42, e_X11_text_45, e_X11_text_46, e_X11_text_47, e_X11_text_50, e_X11_text_53, e_X11_text_54, e_X11_text_57, e_X11_text_58, e_X11_text_61, e_X11_text_62, e_X11_text_63, e_X11_text_66, e_X11_text_67, e_X11_text_70, e_X11_text_71, e_X11_text_74, e_X11_text_75, e_X11_text_78, e_X11_text_79, e_X11_text_80, e_X11_text_81, e_X11_text_82, e_X11_text_85, e_X11_text_88, e_X11_text_90, e_X11_text_91, e_X11_text_94, e_X11_text_95, e_X11_text_96, e_X11_text_97, e_X11_text_100, e_X11_text_103, e_X11_text_105, e_X11_text_106, e_X11_text_109, e_X11_text_110, e_X11_text_111, e_X11_text_112, e_X11_text_115, e_X11_text_116, e_X11_text_117, e_X11_text_119, e_X11_text_120, e_X11_text_123, e_X11_text_126, e_X11_text_127, e_X11_text_130, e_X11_text_133, e_X11_text_135, e_X11_text_136, e_X11_text_139, e_X11_text_140, e_X11_text_141, e_X11_text_142, e_X11_text_143, e_X11_text_144, e_X11_text_145, e_X11_text_146, e_X11_text_149, e_X11_text_150, e_X11_text_151, e_X11_text_152, e_X11_text_155, e_X11_text_158, e_X11_text_159, vi, vl, vr, oc_X11_either, T_X11_either, oc_X11_finding, T_X11_finding, oc_X11_within, T_X11_within, ix_push, ix_iload, ix_lload, ix_aload, ix_istore, ix_astore, ix_iinc, ix_bin, ix_div, ix_un, ix_i2l, ix_l2i, ix_lbin, ix_lsh, ix_lcmp, ix_dup, ix_dup2, ix_pop, ix_if, ix_cmp, ix_goto, ix_switch, ix_sw, ix_iret, ix_zret, ix_vret, ix_aret, ix_geti, ix_getr, ix_puti, ix_putz, ix_puts, ix_gets, ix_iald, ix_iast, ix_alen, ix_aald, ix_gval, ix_gcod, ix_bald, ix_blen, ix_sald, ix_nret, ix_math2, ix_math1, ix_acopy, ml_113, ml_114, ml_115, ml_116, ml_118, ml_119, ml_120, ml_121, ml_122, ml_123, ml_124, ml_125, ml_126, mv_0, mv_1, mv_2, mv_3, mv_4, mv_5, mB_or, Nat.add_assoc, Int32.reduceLT, Int32.reduceLE, Int32.reduceToNatClampNeg, Int32.reduceSub, Int32.reduceAdd, Nat.reduceAdd, Nat.reduceLeDiff, true_or, or_true, or_false, false_or, not_false_eq_true, not_true_eq_false, false_implies, true_implies, implies_true, and_self, mB_0, mB_01, Classical.not_not, Nat.zero_le, List.getElem?_cons_zero, List.getElem?_cons_succ, List.set_cons_zero, List.set_cons_succ, ix_nl, ix_cs, true_and, and_true, Option.toList_some, Option.toList_none, List.cons_append, List.nil_append, hl', hu', c1, n1, q1, q2, q3, q4, q5, q6, q7, q8, hc']
    refine ih (x + 1) _ (by omega) (hF.up (by simp)) (fun j => ?_)
    rw [ix_up_ap]
    by_cases k1 : j = z
    · rw [if_pos ⟨rfl, k1⟩, if_pos (by omega), show j - (t + 1) = x by omega]
    · rw [if_neg (fun w => k1 w.2), hr j]
      by_cases k2 : t + 1 ≤ j ∧ j < t + 1 + x
      · rw [if_pos k2, if_pos (by omega)]
      · rw [if_neg k2, if_neg (by omega)]
theorem m_X11_text {U n t : Nat} {tp : Nat → Int32} {μq : ix_M} {Q : ix_R → Prop} (hU : U ≤ 1) (ht : t = 152 + 52 * U) (h4 : μq 113 4 = nI n) (hn : n ≤ 50) (htp : ∀ j, j < n → μq 113 (82 + j) = tp j) (hb : ∀ j, j < n → ∃ b, b < 256 ∧ tp j = nI b) (hfr : ∀ j, j < 8 ∨ 13 < j → μq 112 j = tp (1000 + j))
    (hW : ¬ ((rdT tp n U).1 = true ∧ (rdT tp n U).2.1 = n) → ∀ μ', Fx [112, 113, 118] μq μ' → (∀ j, j < 8 ∨ 13 < j → μ' 112 j = μq 112 j) → (∀ j, μ' 113 j = if j = 4 then 0 else μq 113 j) → Q (some (vi (-10 - nI (rdT tp n U).2.1)), μ'))
    (hK : ((rdT tp n U).1 = true ∧ (rdT tp n U).2.1 = n) → ∀ μ', Fx [112, 113, 118] μq μ' → (∀ j, j < 8 ∨ 13 < j → μ' 112 j = μq 112 j) → (∀ j, μ' 113 j = if t + 1 ≤ j ∧ j < t + 1 + (rdT tp n U).2.2.length then (rdT tp n U).2.2.getD (j - (t + 1)) 0 else if j = t then nI (rdT tp n U).2.2.length else if j = 4 then 0 else μq 113 j) → Q (some (vi 1), μ')) :
    ix_Ev o_X11_text Q (0, [some (vr 10 112), some (vi (nI U)), none], [], μq) := by
  have U3 : 0 ≤ nI U ∧ nI U ≤ 1 := ⟨nI_pos' (by omega), nI_le (b := 1) hU (by decide)⟩
  simp (decide := true) only [e_X11_text_0, e_X11_text_1, e_X11_text_2, e_X11_text_3, e_X11_text_6, e_X11_text_9, e_X11_text_10, e_X11_text_12, e_X11_text_15, e_X11_text_16, e_X11_text_17, e_X11_text_18, e_X11_text_21, e_X11_text_22, e_X11_text_23, e_X11_text_26, e_X11_text_27, e_X11_text_28, e_X11_text_31, e_X11_text_32, e_X11_text_33, e_X11_text_36, e_X11_text_37, e_X11_text_38, e_X11_text_41, e_X11_text_42, e_X11_text_45, e_X11_text_46, e_X11_text_47, e_X11_text_50, e_X11_text_53, e_X11_text_54, e_X11_text_57, e_X11_text_58, e_X11_text_61, e_X11_text_62, e_X11_text_63, e_X11_text_66, e_X11_text_67, e_X11_text_70, e_X11_text_71, e_X11_text_74, e_X11_text_75, e_X11_text_78, e_X11_text_79, e_X11_text_80, e_X11_text_81, e_X11_text_82, e_X11_text_85, e_X11_text_88, e_X11_text_90, e_X11_text_91, e_X11_text_94, e_X11_text_95, e_X11_text_96, e_X11_text_97, e_X11_text_100, e_X11_text_103, e_X11_text_105, e_X11_text_106, e_X11_text_109, e_X11_text_110, e_X11_text_111, e_X11_text_112, e_X11_text_115, e_X11_text_116, e_X11_text_117, e_X11_text_119, e_X11_text_120, e_X11_text_123, e_X11_text_126, e_X11_text_127, e_X11_text_130, e_X11_text_133, e_X11_text_135, e_X11_text_136, e_X11_text_139, e_X11_text_140, e_X11_text_141, e_X11_text_142, e_X11_text_143, e_X11_text_144, e_X11_text_145, e_X11_text_146, e_X11_text_149, e_X11_text_150, e_X11_text_151, e_X11_text_152, e_X11_text_155, e_X11_text_158, e_X11_text_159, vi, vl, vr, oc_X11_either, T_X11_either, oc_X11_finding, T_X11_finding, oc_X11_within, T_X11_within, ix_push, ix_iload, ix_lload, ix_aload, ix_istore, ix_astore, ix_iinc, ix_bin, ix_div, ix_un, ix_i2l, ix_l2i, ix_lbin, ix_lsh, ix_lcmp, ix_dup, ix_dup2, ix_pop, ix_if, ix_cmp, ix_goto, ix_switch, ix_sw, ix_iret, ix_zret, ix_vret, ix_aret, ix_geti, ix_getr, ix_puti, ix_putz, ix_puts, ix_gets, ix_iald, ix_iast, ix_alen, ix_aald, ix_gval, ix_gcod, ix_bald, ix_blen, ix_sald, ix_nret, ix_math2, ix_math1, ix_acopy, ml_113, ml_114, ml_115, ml_116, ml_118, ml_119, ml_120, ml_121, ml_122, ml_123, ml_124, ml_125, ml_126, mv_0, mv_1, mv_2, mv_3, mv_4, mv_5, mB_or, Nat.add_assoc, Int32.reduceLT, Int32.reduceLE, Int32.reduceToNatClampNeg, Int32.reduceSub, Int32.reduceAdd, Nat.reduceAdd, Nat.reduceLeDiff, true_or, or_true, or_false, false_or, not_false_eq_true, not_true_eq_false, false_implies, true_implies, implies_true, and_self, mB_0, mB_01, Classical.not_not, Nat.zero_le, List.getElem?_cons_zero, List.getElem?_cons_succ, List.set_cons_zero, List.set_cons_succ, ix_nl, ix_cs, true_and, and_true, Option.toList_some, Option.toList_none, List.cons_append, List.nil_append, U3, ix_up_ne, ix_up_k]
  obtain ⟨r1, r2, r3⟩ := rdT_ok tp n U
  have ini : PsC (ix_up (ix_up (ix_up (ix_up (ix_up μq 112 10 (nI U)) 112 8 0) 112 9 0) 112 11 0) 112 13 0) tp n U 5 (true, 0, []) := by
    refine ⟨⟨?_, hn, fun j hj => ?_, hb, fun j hj => ?_⟩, ⟨?_, hU⟩, ?_, ?_, ⟨?_, Nat.zero_le _⟩, ?_, fun j hj => absurd hj (Nat.not_lt_zero j)⟩
    · rw [ix_up_ne (by decide), ix_up_ne (by decide), ix_up_ne (by decide), ix_up_ne (by decide), ix_up_ne (by decide)]
      exact h4
    · rw [ix_up_ne (by decide), ix_up_ne (by decide), ix_up_ne (by decide), ix_up_ne (by decide), ix_up_ne (by decide)]
      exact htp j hj
    · rw [PsC.e112 (by omega), PsC.e112 (by omega), PsC.e112 (by omega), PsC.e112 (by omega), PsC.e112 (by omega)]
      exact hfr j hj
    · rw [PsC.e112 (by decide), PsC.e112 (by decide), PsC.e112 (by decide), PsC.e112 (by decide), ix_up_k]
    · rw [PsC.e112 (by decide), PsC.e112 (by decide), ix_up_k]
      rfl
    · rw [PsC.e112 (by decide), ix_up_k]
      rfl
    · rw [PsC.e112 (by decide), PsC.e112 (by decide), PsC.e112 (by decide), ix_up_k]
      rfl
    · rw [ix_up_k]
      rfl
  refine ⟨tp, n, U, (true, 0, []), ini, Nat.le_refl _, fun μ6 F6 g6 => ?_⟩
  have g6 : PsC μ6 tp n U 5 (rdT tp n U) := g6
  have F6' : ∀ a, a ≠ 112 → a ≠ 118 → μ6 a = μq a := fun a k1 k2 => by rw [F6 a (by simp [k1, k2]), ix_up_ne k1, ix_up_ne k1, ix_up_ne k1, ix_up_ne k1, ix_up_ne k1]
  have e113 : μ6 113 = μq 113 := F6' 113 (by decide) (by decide)
  obtain ⟨⟨p1, p2, p3, p4, p5⟩, ⟨p6, -⟩, p7, p8, ⟨p9, p10⟩, p11, p12⟩ := g6
  generalize hrd : rdT tp n U = rd at *
  obtain ⟨ok, a, cs⟩ := rd
  simp only at hW hK r1 r2 r3 p8 p9 p10 p11 p12 ⊢
  have bad : ∀ μ7 : ix_M, μ7 = ix_up (ix_up μ6 112 11 1) 113 4 0 → ¬ (ok = true ∧ a = n) → Q (some (vi (-10 - nI a)), μ7) := by
    rintro μ7 rfl hno
    refine hW hno _ (fun b k => ?_) (fun j hj => ?_) (fun j => ?_)
    · simp only [List.mem_cons, List.not_mem_nil, or_false] at k
      rw [ix_up_ne (by omega), ix_up_ne (by omega), F6' b (by omega) (by omega)]
    · rw [ix_up_ne (by decide), PsC.e112 (by omega), p5 j hj, hfr j hj]
    · rw [ix_up_ap]
      by_cases c : j = 4
      · rw [if_pos ⟨rfl, c⟩, if_pos c]
      · rw [if_neg (fun z => c z.2), if_neg c, ix_up_ne (by decide), e113]
  cases ok
  · have p8 : μ6 112 11 = 1 := p8
    refine ⟨fun z => absurd z (by rw [p8]; decide), fun _ => ?_⟩
    show Q (some (Sum.inl (-10 - ix_up μ6 112 11 1 112 8)), ix_up (ix_up μ6 112 11 1) 113 4 0)
    rw [PsC.e112 (by decide), p9]
    exact bad _ rfl (fun z => absurd z.1 (by decide))
  · have p8 : μ6 112 11 = 0 := p8
    refine ⟨fun _ => ?_, fun z => absurd p8 z⟩
    rw [p1, p9, nI_leI (by omega) (by omega)]
    refine ⟨fun z => ?_, fun z => ?_⟩
    · have q1 : (52 : Int32) * nI U = nI (52 * U) := (Int32.ofNat_mul 52 U).symm
      have q2 : (152 : Int32) + nI (52 * U) = nI (152 + 52 * U) := nI_add 152 _
      rw [PsC.e112 (by decide), PsC.e112 (by decide), p6, p11, q1, q2, ← ht, nI_clamp (show t < 2 ^ 31 by omega)]
      refine ⟨vp_in_nI (by omega) (by decide), ?_⟩
      have good : true = true ∧ a = n := ⟨rfl, by omega⟩
      refine l_X11_text (U := U) (L := cs.length) (t := t) (c := cs) (μ0 := ix_up (ix_up (ix_up μ6 112 11 0) 113 4 0) 113 t (nI cs.length)) hU ht rfl (by omega) ?_ ?_ (fun j hj => ?_) (fun μ8 F8 g8 => hK good μ8 (fun b k => ?_) (fun j hj => ?_) (fun j => ?_)) cs.length 0 _ (by omega) Fx.rf (fun j => by rw [if_neg (by omega)])
      · rw [ix_up_ne (by decide), ix_up_ne (by decide), PsC.e112 (by decide)]
        exact p6
      · rw [ix_up_ne (by decide), ix_up_ne (by decide), PsC.e112 (by decide)]
        exact p11
      · rw [ix_up_ne (by decide), ix_up_ne (by decide), ix_up_ne (by decide)]
        exact p12 j hj
      · simp only [List.mem_cons, List.not_mem_nil, or_false] at k
        rw [F8 b (by simp; omega), ix_up_ne (by omega), ix_up_ne (by omega), ix_up_ne (by omega), F6' b (by omega) (by omega)]
      · rw [F8 112 (by decide), ix_up_ne (by decide), ix_up_ne (by decide), PsC.e112 (by omega), p5 j hj, hfr j hj]
      · rw [g8 j]
        by_cases c1 : t + 1 ≤ j ∧ j < t + 1 + cs.length
        · rw [if_pos c1, if_pos c1]
        · rw [if_neg c1, if_neg c1, ix_up_ap]
          by_cases c2 : j = t
          · rw [if_pos ⟨rfl, c2⟩, if_pos c2]
          · rw [if_neg (fun w => c2 w.2), if_neg c2, ix_up_ap]
            by_cases c3 : j = 4
            · rw [if_pos ⟨rfl, c3⟩, if_pos c3]
            · rw [if_neg (fun w => c3 w.2), if_neg c3, ix_up_ne (by decide), e113]
    · show Q (some (Sum.inl (-10 - ix_up μ6 112 11 1 112 8)), ix_up (ix_up μ6 112 11 1) 113 4 0)
      rw [PsC.e112 (by decide), p9]
      exact bad _ rfl (fun y => z (by omega))
/-- the tape gone, and one text read anew or not -/
theorem Inv.txt {μ μ3 : ix_M} (I : Inv μ) (hc : ∀ a, a ∉ [12, 13, 16, 17, 19, 88, 90, 91, 112, 113, 118, 127, 128] → μ3 a = μ a) (h112 : ∀ j, j < 8 ∨ 13 < j → μ3 112 j = μ 112 j) (h19 : μ3 19 1 = 0) (h4 : μ3 113 4 = 0) (h113 : ∀ j, j < 152 → j ≠ 4 → μ3 113 j = μ 113 j) (c1 : CX μ3 11 (μ3 113) 152) (c2 : CX μ3 15 (μ3 113) 204) : Inv μ3 := by
  obtain ⟨s1, s2, s3, s4, s5, s6, s7⟩ := I.1
  have hc' : ∀ a, a ≤ 23 → a ≠ 12 → a ≠ 13 → a ≠ 16 → a ≠ 17 → a ≠ 19 → μ3 a = μ a := fun a k0 k1 k2 k3 k4 k5 => hc a (by simp; omega)
  refine I.gen (L := [12, 13, 16, 17, 19, 88, 90, 91, 112, 113, 118, 127, 128]) hc (by decide) ⟨CW_fx s1 (fun a k1 k2 => hc' a (by omega) (by omega) (by omega) (by omega) (by omega) (by omega)) (fun j k1 k2 => h113 j (by omega) (by unfold rst at k2; omega)), ?_, ⟨0, by decide, h19, h4, fun j hj => absurd hj (Nat.not_lt_zero j)⟩, CA_fx s4 (hc' 21 (by decide) (by decide) (by decide) (by decide) (by decide) (by decide)) (hc' 22 (by decide) (by decide) (by decide) (by decide) (by decide) (by decide)) (fun j hj => h113 j (by omega) (by omega)), CN_fx s5 (hc' 23 (by decide) (by decide) (by decide) (by decide) (by decide) (by decide)) (fun j hj => h113 j (by omega) (by omega)), c1, c2⟩ (by rw [hc 0 (by decide)]) (h112 3 (by decide)) (by rw [h112 5 (by decide)]; exact I.2.2.2.2.2.2.1) (h112 18 (by decide)) (by rw [hc 97 (by decide)]; exact I.2.2.2.2.2.2.2.1) (by rw [hc 121 (by decide)]; exact I.2.2.2.2.2.2.2.2)
  rw [hc' 1 (by decide) (by decide) (by decide) (by decide) (by decide) (by decide), h113 3 (by decide) (by decide)]
  exact s2
theorem pr_text (u : Int32) (μ : ix_M) (I : Inv μ) (Q : ix_R → Prop) (hQ : ∀ vv μ', ix_Ev o_X11_text (Pst vv) (0, [some (vr 10 112), some (vi u), none], [], μ') → Q (some (vi vv), μ')) : ix_Ev o_X10_text Q (0, [some (vr 9 0), some (vi u), none], [], μ) := by
  rcases inR u 1 (by decide) with ⟨U, hU, rfl⟩ | ⟨hx1, hx2⟩
  · obtain ⟨U1, U2, U3, U4⟩ : ¬ nI U < 0 ∧ ¬ (1 : Int32) < nI U ∧ 0 ≤ nI U ∧ nI U ≤ (1 : Int32) := rgN hU (by decide)
    have Uc : (nI U).toNatClampNeg = U := nI_clamp (by omega)
    obtain ⟨s1, s2, ⟨n, t1, t2, t3, t4⟩, s4, s5, s6, s7⟩ := I.1
    have t2 : μ 19 1 = nI n := t2
    obtain ⟨tp, htp⟩ : ∃ tp : Nat → Int32, tp = fun j => if j < n then μ 113 (82 + j) else μ 112 (j - 1000) := ⟨_, rfl⟩
    have tp1 : ∀ j, j < n → tp j = μ 113 (82 + j) := fun j hj => by rw [htp]; exact if_pos hj
    have tp2 : ∀ j, tp (1000 + j) = μ 112 j := fun j => by
      rw [htp]
      show (if 1000 + j < n then _ else μ 112 (1000 + j - 1000)) = _
      rw [if_neg (by omega), show 1000 + j - 1000 = j by omega]
    have tpb : ∀ j, j < n → ∃ b, b < 256 ∧ tp j = nI b := fun j hj => by rw [tp1 j hj]; exact (t4 j hj).2
    obtain ⟨r1, r2, r3⟩ := rdT_ok tp n U
    simp (decide := true) only [e_X10_text_0, e_X10_text_1, e_X10_text_2, e_X10_text_5, e_X10_text_8, e_X10_text_9, e_X10_text_10, e_X10_text_13, e_X10_text_14, e_X10_text_15, e_X10_text_18, e_X10_text_19, e_X10_text_22, e_X10_text_25, e_X10_text_26, e_X10_text_29, e_X10_text_30, e_X10_text_31, e_X10_text_34, e_X10_text_37, e_X10_text_40, e_X10_text_41, e_X10_text_44, e_X10_text_46, e_X10_text_47, e_X10_text_48, e_X10_text_49, e_X10_text_50, e_X10_text_53, e_X10_text_56, e_X10_text_57, e_X10_text_60, e_X10_text_61, e_X10_text_64, e_X10_text_67, e_X10_text_70, e_X10_text_71, vi, vl, vr, oc_X10_error, T_X10_error, oc_X10_outside, T_X10_outside, oc_X1_ofUse, T_X1_ofUse, oc_X3_faultFor, T_X3_faultFor, oc_X4_clear, T_X4_clear, oc_X7_copyFrom, T_X7_copyFrom, ix_push, ix_iload, ix_lload, ix_aload, ix_istore, ix_astore, ix_iinc, ix_bin, ix_div, ix_un, ix_i2l, ix_l2i, ix_lbin, ix_lsh, ix_lcmp, ix_dup, ix_dup2, ix_pop, ix_if, ix_cmp, ix_goto, ix_switch, ix_sw, ix_iret, ix_zret, ix_vret, ix_aret, ix_geti, ix_getr, ix_puti, ix_putz, ix_puts, ix_gets, ix_iald, ix_iast, ix_alen, ix_aald, ix_gval, ix_gcod, ix_bald, ix_blen, ix_sald, ix_nret, ix_math2, ix_math1, ix_acopy, Nat.add_assoc, Int32.reduceLT, Int32.reduceLE, Int32.reduceToNatClampNeg, Int32.reduceSub, Int32.reduceAdd, Nat.reduceAdd, Nat.reduceLeDiff, true_or, or_true, or_false, false_or, not_false_eq_true, not_true_eq_false, false_implies, true_implies, implies_true, and_self, mB_0, mB_01, Classical.not_not, Nat.zero_le, List.getElem?_cons_zero, List.getElem?_cons_succ, List.set_cons_zero, List.set_cons_succ, ix_nl, ix_cs, true_and, and_true, Option.toList_some, Option.toList_none, List.cons_append, List.nil_append, U1, U2, U3, U4, Uc, ix_up_ne, ix_up_k, ve_1, ve_2, ve_3, ve_4, ve_5]
    refine ⟨tp, n, U, rfl, hU, ⟨t2, t1, fun j hj => by rw [tp1 j hj]; exact (t4 j hj).1, tpb⟩, fun μ1 F1 g1 => ?_⟩
    have e113 : ∀ a, a ≠ 88 → a ≠ 90 → a ≠ 91 → a ≠ 127 → a ≠ 128 → μ1 a = μ a := fun a k1 k2 k3 k4 k5 => F1 a (by simp [k1, k2, k3, k4, k5])
    have e1 := e113 113 (by decide) (by decide) (by decide) (by decide) (by decide)
    have e2 := e113 112 (by decide) (by decide) (by decide) (by decide) (by decide)
    by_cases good : (rdT tp n U).1 = true ∧ (rdT tp n U).2.1 = n
    · rw [if_pos good]
      refine ⟨fun _ => ?_, fun z => absurd (by decide) z⟩
      have wf := r3 good.1
      obtain ⟨g2, g3, g4⟩ := g1
      have g2 : μ1 90 1 = nI (rdT tp n U).2.2.length := g2
      have g4 : ∀ j, j < (rdT tp n U).2.2.length → μ1 91 j = tCls ((rdT tp n U).2.2.getD j 0) := g4
      have key : ∀ T, T = 11 + 4 * U → ix_len (T + 2) = 50 → (RowOk (ix_up μ1 19 1 0) 90 ∧ ix_len 91 = ix_len (T + 2)) ∧ Q (some (Sum.inl 1), ix_cpy (ix_up (ix_up μ1 19 1 0) (T + 1) 1 (μ1 90 1)) 91 (T + 2) 0 0 (μ1 90 1).toNatClampNeg) := by
        intro T hT hlen
        rw [g2, nI_clamp (show (rdT tp n U).2.2.length < 2 ^ 31 by omega)]
        refine ⟨⟨rowOk (m := 50) (by rw [ix_up_ne (by decide)]; exact g2) g3 rfl (by decide), by rw [hlen]; rfl⟩, hQ _ _ ?_⟩
        generalize hμ2 : ix_cpy (ix_up (ix_up μ1 19 1 0) (T + 1) 1 (nI (rdT tp n U).2.2.length)) 91 (T + 2) 0 0 (rdT tp n U).2.2.length = μ2
        have E2 : ∀ a, a ≠ T + 2 → a ≠ T + 1 → a ≠ 19 → μ2 a = μ1 a := fun a k1 k2 k3 => by rw [← hμ2, ix_cpy_ne k1, ix_up_ne k2, ix_up_ne k3]
        have e3 : μ2 113 = μ 113 := by rw [E2 113 (by omega) (by omega) (by omega), e1]
        have e4 : μ2 112 = μ 112 := by rw [E2 112 (by omega) (by omega) (by omega), e2]
        refine m_X11_text (U := U) (n := n) (t := 152 + 52 * U) (tp := tp) hU rfl (by rw [e3]; exact t3) t1 (fun j hj => by rw [e3, tp1 j hj]) tpb (fun j hj => by rw [e4, tp2 j]) (fun y => absurd good y) (fun _ μ3 F3 k1 k2 => pst rfl ?_)
        have hc : ∀ a, a ∉ [12, 13, 16, 17, 19, 88, 90, 91, 112, 113, 118, 127, 128] → μ3 a = μ a := fun a ha => by
          simp only [List.mem_cons, List.not_mem_nil, or_false] at ha
          rw [F3 a (by simp; omega), E2 a (by omega) (by omega) (by omega), e113 a (by omega) (by omega) (by omega) (by omega) (by omega)]
        have cc : ∀ a, a ≤ 23 → a ≠ T + 1 → a ≠ T + 2 → a ≠ 19 → μ3 a = μ a := fun a b1 b2 b3 b4 => by rw [F3 a (by simp; omega), E2 a b3 b2 b4, e113 a (by omega) (by omega) (by omega) (by omega) (by omega)]
        have new : ∀ t, t = 152 + 52 * U → CX μ3 T (μ3 113) t := by
          rintro t rfl
          refine ⟨(rdT tp n U).2.2, ⟨⟨?_, g3, fun j hj => ?_⟩, Or.inr wf⟩, ⟨?_, g3, fun j hj => ?_⟩, Or.inr wf⟩
          · rw [F3 _ (by simp; omega), ← hμ2, ix_cpy_ne (by omega), ix_up_k]
          · rw [F3 _ (by simp; omega), ← hμ2, ix_cpy_at, va_cpy00 hj, ix_up_ne (by omega), ix_up_ne (by omega)]
            exact g4 j hj
          · rw [k2, if_neg (by omega), if_pos rfl]
          · rw [k2, if_pos (by omega), show 152 + 52 * U + 1 + j - (152 + 52 * U + 1) = j by omega]
        have old : ∀ T' t', T' + 2 ≤ 23 → T' + 1 ≠ T + 1 → T' + 1 ≠ T + 2 → T' + 2 ≠ T + 1 → T' + 2 ≠ T + 2 → T' + 1 ≠ 19 → T' + 2 ≠ 19 → 152 ≤ t' → (t' + 50 < 152 + 52 * U ∨ 152 + 52 * U + 50 < t') → CX μ T' (μ 113) t' → CX μ3 T' (μ3 113) t' := fun T' t' b0 b1 b2 b3 b4 b5 b6 b7 b8 h => CX_fx h (cc _ (by omega) b1 b2 b5) (cc _ b0 b3 b4 b6) (fun j hj => by rw [k2, if_neg (by omega), if_neg (by omega), if_neg (by omega), e3])
        have h19 : μ3 19 1 = 0 := by rw [F3 19 (by decide), ← hμ2, ix_cpy_ne (by omega), ix_up_ne (by omega)]; exact ix_up_k _ _ _ _
        have h113 : ∀ j, j < 152 → j ≠ 4 → μ3 113 j = μ 113 j := fun j b1 b2 => by rw [k2, if_neg (by omega), if_neg (by omega), if_neg b2, e3]
        refine I.txt hc (fun j hj => by rw [k1 j hj, e4]) h19 (by rw [k2, if_neg (by omega), if_neg (by omega), if_pos rfl]) h113 ?_ ?_
        · by_cases cU : U = 0
          · have := new 152 (by omega)
            rw [show T = 11 by omega] at this
            exact this
          · exact old 11 152 (by omega) (by omega) (by omega) (by omega) (by omega) (by omega) (by omega) (by omega) (by omega) s6
        · by_cases cU : U = 0
          · exact old 15 204 (by omega) (by omega) (by omega) (by omega) (by omega) (by omega) (by omega) (by omega) (by omega) s7
          · have := new 204 (by omega)
            rw [show T = 15 by omega] at this
            exact this
      by_cases cU : U = 0
      · have z : nI U = 0 := by rw [cU]; rfl
        simp only [if_pos z]
        exact key 11 (by omega) rfl
      · have z : ¬ nI U = 0 := nI_ne0 (by omega) (by omega)
        simp only [if_neg z]
        exact key 15 (by omega) rfl
    · rw [if_neg good]
      refine ⟨fun z => absurd z (nI_pos (by omega)), fun _ => hQ _ _ ?_⟩
      refine m_X11_text (U := U) (n := n) (t := 152 + 52 * U) (tp := tp) hU rfl (by rw [ix_up_ne (by decide), e1]; exact t3) t1 (fun j hj => by rw [ix_up_ne (by decide), e1, tp1 j hj]) tpb (fun j hj => by rw [ix_up_ne (by decide), e2, tp2 j]) (fun _ μ3 F3 k1 k2 => pst rfl ?_) (fun y => absurd y good)
      have hc : ∀ a, a ∉ [12, 13, 16, 17, 19, 88, 90, 91, 112, 113, 118, 127, 128] → μ3 a = μ a := fun a ha => by
        simp only [List.mem_cons, List.not_mem_nil, or_false] at ha
        rw [F3 a (by simp; omega), ix_up_ne (by omega), e113 a (by omega) (by omega) (by omega) (by omega) (by omega)]
      have kk : ∀ j, μ3 113 j = if j = 4 then 0 else μ 113 j := fun j => by rw [k2 j, ix_up_ne (by decide), e1]
      have cc : ∀ a, a ≠ 19 → a ≠ 88 → a ≠ 90 → a ≠ 91 → a ≠ 112 → a ≠ 113 → a ≠ 118 → a ≠ 127 → a ≠ 128 → μ3 a = μ a := fun a b1 b2 b3 b4 b5 b6 b7 b8 b9 => by rw [F3 a (by simp [b5, b6, b7]), ix_up_ne b1, e113 a b2 b3 b4 b8 b9]
      refine I.txt hc (fun j hj => by rw [k1 j hj, ix_up_ne (by decide), e2]) (by rw [F3 19 (by decide)]; exact ix_up_k _ _ _ _) (by rw [kk 4, if_pos rfl]) (fun j _ h4 => by rw [kk j, if_neg h4]) (CX_fx s6 (cc 12 (by decide) (by decide) (by decide) (by decide) (by decide) (by decide) (by decide) (by decide) (by decide)) (cc 13 (by decide) (by decide) (by decide) (by decide) (by decide) (by decide) (by decide) (by decide) (by decide)) (fun j hj => by rw [kk j, if_neg (by omega)])) (CX_fx s7 (cc 16 (by decide) (by decide) (by decide) (by decide) (by decide) (by decide) (by decide) (by decide) (by decide)) (cc 17 (by decide) (by decide) (by decide) (by decide) (by decide) (by decide) (by decide) (by decide) (by decide)) (fun j hj => by rw [kk j, if_neg (by omega)]))
  · have hx1 : u < 0 ∨ (1 : Int32) < u := hx1
    have hx2 : ¬ (0 ≤ u ∧ u ≤ (1 : Int32)) := hx2
    have hx3 : ¬ u = 0 := by rintro rfl; exact hx2 (by decide)
    have hx4 : ¬ u = 1 := by rintro rfl; exact hx2 (by decide)
    simp (decide := true) only [e_X10_text_0, e_X10_text_1, e_X10_text_2, e_X10_text_5, e_X10_text_8, e_X10_text_9, e_X10_text_10, e_X10_text_13, e_X10_text_14, e_X10_text_15, e_X10_text_18, e_X10_text_19, e_X10_text_22, e_X10_text_25, e_X10_text_26, e_X10_text_29, e_X10_text_30, e_X10_text_31, e_X10_text_34, e_X10_text_37, e_X10_text_40, e_X10_text_41, e_X10_text_44, e_X10_text_46, e_X10_text_47, e_X10_text_48, e_X10_text_49, e_X10_text_50, e_X10_text_53, e_X10_text_56, e_X10_text_57, e_X10_text_60, e_X10_text_61, e_X10_text_64, e_X10_text_67, e_X10_text_70, e_X10_text_71, vi, vl, vr, oc_X10_error, T_X10_error, oc_X10_outside, T_X10_outside, oc_X1_ofUse, T_X1_ofUse, oc_X3_faultFor, T_X3_faultFor, oc_X4_clear, T_X4_clear, oc_X7_copyFrom, T_X7_copyFrom, ix_push, ix_iload, ix_lload, ix_aload, ix_istore, ix_astore, ix_iinc, ix_bin, ix_div, ix_un, ix_i2l, ix_l2i, ix_lbin, ix_lsh, ix_lcmp, ix_dup, ix_dup2, ix_pop, ix_if, ix_cmp, ix_goto, ix_switch, ix_sw, ix_iret, ix_zret, ix_vret, ix_aret, ix_geti, ix_getr, ix_puti, ix_putz, ix_puts, ix_gets, ix_iald, ix_iast, ix_alen, ix_aald, ix_gval, ix_gcod, ix_bald, ix_blen, ix_sald, ix_nret, ix_math2, ix_math1, ix_acopy, Nat.add_assoc, Int32.reduceLT, Int32.reduceLE, Int32.reduceToNatClampNeg, Int32.reduceSub, Int32.reduceAdd, Nat.reduceAdd, Nat.reduceLeDiff, true_or, or_true, or_false, false_or, not_false_eq_true, not_true_eq_false, false_implies, true_implies, implies_true, and_self, mB_0, mB_01, Classical.not_not, Nat.zero_le, List.getElem?_cons_zero, List.getElem?_cons_succ, List.set_cons_zero, List.set_cons_succ, ix_nl, ix_cs, true_and, and_true, Option.toList_some, Option.toList_none, List.cons_append, List.nil_append, hx1, hx2, hx3, hx4, ix_up_ne, ix_up_k, ve_1, ve_2, ve_3, ve_4, ve_5]
    refine hQ _ _ ?_
    simp (decide := true) only [e_X11_text_0, e_X11_text_1, e_X11_text_2, e_X11_text_3, e_X11_text_6, e_X11_text_9, e_X11_text_10, e_X11_text_12, e_X11_text_15, e_X11_text_16, e_X11_text_17, e_X11_text_18, e_X11_text_21, e_X11_text_22, e_X11_text_23, e_X11_text_26, e_X11_text_27, e_X11_text_28, e_X11_text_31, e_X11_text_32, e_X11_text_33, e_X11_text_36, e_X11_text_37, e_X11_text_38, e_X11_text_41, e_X11_text_42, e_X11_text_45, e_X11_text_46, e_X11_text_47, e_X11_text_50, e_X11_text_53, e_X11_text_54, e_X11_text_57, e_X11_text_58, e_X11_text_61, e_X11_text_62, e_X11_text_63, e_X11_text_66, e_X11_text_67, e_X11_text_70, e_X11_text_71, e_X11_text_74, e_X11_text_75, e_X11_text_78, e_X11_text_79, e_X11_text_80, e_X11_text_81, e_X11_text_82, e_X11_text_85, e_X11_text_88, e_X11_text_90, e_X11_text_91, e_X11_text_94, e_X11_text_95, e_X11_text_96, e_X11_text_97, e_X11_text_100, e_X11_text_103, e_X11_text_105, e_X11_text_106, e_X11_text_109, e_X11_text_110, e_X11_text_111, e_X11_text_112, e_X11_text_115, e_X11_text_116, e_X11_text_117, e_X11_text_119, e_X11_text_120, e_X11_text_123, e_X11_text_126, e_X11_text_127, e_X11_text_130, e_X11_text_133, e_X11_text_135, e_X11_text_136, e_X11_text_139, e_X11_text_140, e_X11_text_141, e_X11_text_142, e_X11_text_143, e_X11_text_144, e_X11_text_145, e_X11_text_146, e_X11_text_149, e_X11_text_150, e_X11_text_151, e_X11_text_152, e_X11_text_155, e_X11_text_158, e_X11_text_159, vi, vl, vr, oc_X11_either, T_X11_either, oc_X11_finding, T_X11_finding, oc_X11_within, T_X11_within, ix_push, ix_iload, ix_lload, ix_aload, ix_istore, ix_astore, ix_iinc, ix_bin, ix_div, ix_un, ix_i2l, ix_l2i, ix_lbin, ix_lsh, ix_lcmp, ix_dup, ix_dup2, ix_pop, ix_if, ix_cmp, ix_goto, ix_switch, ix_sw, ix_iret, ix_zret, ix_vret, ix_aret, ix_geti, ix_getr, ix_puti, ix_putz, ix_puts, ix_gets, ix_iald, ix_iast, ix_alen, ix_aald, ix_gval, ix_gcod, ix_bald, ix_blen, ix_sald, ix_nret, ix_math2, ix_math1, ix_acopy, ml_113, ml_114, ml_115, ml_116, ml_118, ml_119, ml_120, ml_121, ml_122, ml_123, ml_124, ml_125, ml_126, mv_0, mv_1, mv_2, mv_3, mv_4, mv_5, mB_or, Nat.add_assoc, Int32.reduceLT, Int32.reduceLE, Int32.reduceToNatClampNeg, Int32.reduceSub, Int32.reduceAdd, Nat.reduceAdd, Nat.reduceLeDiff, true_or, or_true, or_false, false_or, not_false_eq_true, not_true_eq_false, false_implies, true_implies, implies_true, and_self, mB_0, mB_01, Classical.not_not, Nat.zero_le, List.getElem?_cons_zero, List.getElem?_cons_succ, List.set_cons_zero, List.set_cons_succ, ix_nl, ix_cs, true_and, and_true, Option.toList_some, Option.toList_none, List.cons_append, List.nil_append, hx1, hx2, hx3, hx4, ix_up_ne, ix_up_k, ve_1, ve_2, ve_3, ve_4, ve_5]
    repeat' (first | exact I.er 1 (by decide) | refine ⟨fun _ => ?_, fun _ => ?_⟩)
