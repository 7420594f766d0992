/-! ===== suppose, bestOf, tryRoutes ===== -/
def setV (r0 i0 : Nat) (x : Int32) (v : WV) : WV := fun r i => if r = r0 ∧ i = i0 then x else v r i
theorem wv_up {μ : ix_M} {w r0 i0 : Nat} (h : wok r0 i0 = true) (x : Int32) : wv (ix_up μ (w + r0) i0 x) w = setV r0 i0 x (wv μ w) := by
  funext r i
  unfold wv setV
  by_cases e : r = r0 ∧ i = i0
  · obtain ⟨rfl, rfl⟩ := e
    rw [if_pos h, if_pos ⟨rfl, rfl⟩, ix_up_k]
  · have h2 : ix_up μ (w + r0) i0 x (w + r) i = μ (w + r) i := by
      rw [ix_up_ap, if_neg]
      intro z
      exact e ⟨by omega, z.2⟩
    rw [if_neg e, h2]
def supR (t : Int32) : Nat := if t = 0 then 3 else if t = 1 then 6 else if t = 2 then 4 else if t = 3 then 2 else 0
def supI (t b : Int32) : Nat := if t = 0 then b.toNatClampNeg else if t = 1 then b.toNatClampNeg else if t = 2 then b.toNatClampNeg else if t = 3 then b.toNatClampNeg else 9
def supP (t b : Int32) : Prop := (t = 0 → vp_in b 6) ∧ (t = 1 → vp_in b 8) ∧ (t = 2 → vp_in b 8) ∧ (t = 3 → vp_in b 16)
theorem vp_in_lt {b : Int32} {n : Nat} (h : vp_in b n) : b.toNatClampNeg < n := Nat.not_le.mp fun q => h (Or.inr q)
def T_X10_suppose : Nat × Int32 × Int32 × Int32 → ix_M → (ix_R → Prop) → Prop := fun (_, t, b, v) μ Q => supP t b ∧ ∀ μ', Fx (wL 48) μ μ' → wv μ' 48 = setV (supR t) (supI t b) v (wv μ 2) → Q (some (vr 8 48), μ')
def sh_X10_suppose (x : Nat × Int32 × Int32 × Int32) : List ix_V := [vr 9 x.1, vi x.2.1, vi x.2.2.1, vi x.2.2.2]
theorem mo_X10_suppose (x : Nat × Int32 × Int32 × Int32) (μ : ix_M) (Q Q' : ix_R → Prop) (h : ∀ r, Q r → Q' r) (hT : T_X10_suppose x μ Q) : T_X10_suppose x μ Q' := by
  obtain ⟨a0, a1, a2, a3⟩ := x
  (exact ⟨hT.1, fun μ' z z2 => h _ (hT.2 μ' z z2)⟩)
def oc_X10_suppose (n : Nat) : ix_Op := fun k _ ls st μ => match st with
  | .inl a3 :: .inl a2 :: .inl a1 :: .inr (.inr (t0, a0)) :: r => t0 = 9 ∧ ix_cs r ≤ 8 ∧ T_X10_suppose (a0, a1, a2, a3) μ (fun q => k (n, ls, q.1.toList ++ r, q.2))
  | _ => False
theorem oc_X10_suppose_s {l : Launch} {cc : ByteArray} {nL : Nat} {own : String} {d : Nat} {rt : Option FieldType} {pc n : Nat} (h : ix_S l cc nL own d rt pc (ix_call 4 sh_X10_suppose T_X10_suppose n)) : ix_S l cc nL own d rt pc (oc_X10_suppose n) := by
  refine h.by (fun k Q ls st μ h => ?_) (fun k k' Q ls st μ hk h => ?_)
  · unfold oc_X10_suppose at h
    split at h
    · rename_i a3 a2 a1 t0 a0 r
      obtain ⟨rfl, h1, h2⟩ := h
      exact ⟨h1, (a0, a1, a2, a3), rfl, _, h2, fun r h => h⟩
    · exact h.elim
  · unfold oc_X10_suppose at h ⊢
    split at h
    · obtain ⟨rfl, h1, h2⟩ := h
      exact ⟨rfl, h1, mo_X10_suppose _ _ _ _ (fun q hq => hk _ hq) h2⟩
    · exact h.elim
def o_X10_suppose : List (Nat × ix_Op) := [
  (0, ix_aload 0 1),
  (1, oc_X10_think 4),
  (4, ix_astore 4 6),
  (6, ix_iload 1 7),
  (7, ix_switch [(0, 36), (1, 47), (2, 58), (3, 69)] 80),
  (36, ix_aload 4 38),
  (38, ix_getr 8 20 (fun k => k + 3) 41),
  (41, ix_iload 2 42),
  (42, ix_iload 3 43),
  (43, ix_iast 44),
  (44, ix_goto 86),
  (47, ix_aload 4 49),
  (49, ix_getr 8 20 (fun k => k + 6) 52),
  (52, ix_iload 2 53),
  (53, ix_iload 3 54),
  (54, ix_iast 55),
  (55, ix_goto 86),
  (58, ix_aload 4 60),
  (60, ix_getr 8 20 (fun k => k + 4) 63),
  (63, ix_iload 2 64),
  (64, ix_iload 3 65),
  (65, ix_iast 66),
  (66, ix_goto 86),
  (69, ix_aload 4 71),
  (71, ix_getr 8 20 (fun k => k + 2) 74),
  (74, ix_iload 2 75),
  (75, ix_iload 3 76),
  (76, ix_iast 77),
  (77, ix_goto 86),
  (80, ix_aload 4 82),
  (82, ix_iload 3 83),
  (83, ix_puti 8 9 86),
  (86, ix_aload 4 88),
  (88, ix_aret)]
set_option maxRecDepth 20000 in
theorem a_X10_suppose (l : Launch) : ix_AllS l cX10_suppose 5 RX10 3 (some (.object "IndigoBoats$Water")) o_X10_suppose :=
  .cons (ix_s_aload_n dX10_suppose_0 rfl) <|
  .cons (oc_X10_think_s (ix_s_callv (t := 9) (k_X10_think l) (by decide) (by decide) tw_638 tw_1 tw_635 tw_637 tp_8 ⟨by decide, by decide, by decide +kernel⟩ (by decide) rfl rfl (fun _ => ⟨_, _, rfl, rfl⟩) dX10_suppose_1)) <|
  .cons (ix_s_astore dX10_suppose_4 (by decide)) <|
  .cons (ix_s_iload_n dX10_suppose_6 rfl) <|
  .cons (ix_s_tab dX10_suppose_7 (by decide) (by decide +kernel) (by decide +kernel)) <|
  .cons (ix_s_aload dX10_suppose_36) <|
  .cons (ix_s_getr (j := 2) tu_X9 rfl (by decide) (by decide) tw_45 rfl ts_8_2_r dX10_suppose_38) <|
  .cons (ix_s_iload_n dX10_suppose_41 rfl) <|
  .cons (ix_s_iload_n dX10_suppose_42 rfl) <|
  .cons (ix_s_iast dX10_suppose_43) <|
  .cons (ix_s_goto dX10_suppose_44 (by decide)) <|
  .cons (ix_s_aload dX10_suppose_47) <|
  .cons (ix_s_getr (j := 5) tu_X9 rfl (by decide) (by decide) tw_51 rfl ts_8_5_r dX10_suppose_49) <|
  .cons (ix_s_iload_n dX10_suppose_52 rfl) <|
  .cons (ix_s_iload_n dX10_suppose_53 rfl) <|
  .cons (ix_s_iast dX10_suppose_54) <|
  .cons (ix_s_goto dX10_suppose_55 (by decide)) <|
  .cons (ix_s_aload dX10_suppose_58) <|
  .cons (ix_s_getr (j := 3) tu_X9 rfl (by decide) (by decide) tw_47 rfl ts_8_3_r dX10_suppose_60) <|
  .cons (ix_s_iload_n dX10_suppose_63 rfl) <|
  .cons (ix_s_iload_n dX10_suppose_64 rfl) <|
  .cons (ix_s_iast dX10_suppose_65) <|
  .cons (ix_s_goto dX10_suppose_66 (by decide)) <|
  .cons (ix_s_aload dX10_suppose_69) <|
  .cons (ix_s_getr (j := 1) tu_X9 rfl (by decide) (by decide) tw_43 rfl ts_8_1_r dX10_suppose_71) <|
  .cons (ix_s_iload_n dX10_suppose_74 rfl) <|
  .cons (ix_s_iload_n dX10_suppose_75 rfl) <|
  .cons (ix_s_iast dX10_suppose_76) <|
  .cons (ix_s_goto dX10_suppose_77 (by decide)) <|
  .cons (ix_s_aload dX10_suppose_80) <|
  .cons (ix_s_iload_n dX10_suppose_82 rfl) <|
  .cons (ix_s_puti (j := 9) tu_X9 tyX9_ok nmX9 rfl (by decide) (by decide) tw_61 rfl rfl (by decide +kernel) ts_8_9_p dX10_suppose_83) <|
  .cons (ix_s_aload dX10_suppose_86) <|
  .cons (ix_s_aret dX10_suppose_88 rfl) <| .nil
theorem e_X10_suppose_0 (Q : ix_R → Prop) (ls : ix_L) (st : List ix_V) (μ : ix_M) : ix_Ev o_X10_suppose Q (0, ls, st, μ) = ix_aload 0 1 (ix_Ev o_X10_suppose Q) Q ls st μ := ix_Ev.eq (a_X10_suppose launch0) rfl ls st μ
theorem e_X10_suppose_1 (Q : ix_R → Prop) (ls : ix_L) (st : List ix_V) (μ : ix_M) : ix_Ev o_X10_suppose Q (1, ls, st, μ) = oc_X10_think 4 (ix_Ev o_X10_suppose Q) Q ls st μ := ix_Ev.eq (a_X10_suppose launch0) rfl ls st μ
theorem e_X10_suppose_4 (Q : ix_R → Prop) (ls : ix_L) (st : List ix_V) (μ : ix_M) : ix_Ev o_X10_suppose Q (4, ls, st, μ) = ix_astore 4 6 (ix_Ev o_X10_suppose Q) Q ls st μ := ix_Ev.eq (a_X10_suppose launch0) rfl ls st μ
theorem e_X10_suppose_6 (Q : ix_R → Prop) (ls : ix_L) (st : List ix_V) (μ : ix_M) : ix_Ev o_X10_suppose Q (6, ls, st, μ) = ix_iload 1 7 (ix_Ev o_X10_suppose Q) Q ls st μ := ix_Ev.eq (a_X10_suppose launch0) rfl ls st μ
theorem e_X10_suppose_7 (Q : ix_R → Prop) (ls : ix_L) (st : List ix_V) (μ : ix_M) : ix_Ev o_X10_suppose Q (7, ls, st, μ) = ix_switch [(0, 36), (1, 47), (2, 58), (3, 69)] 80 (ix_Ev o_X10_suppose Q) Q ls st μ := ix_Ev.eq (a_X10_suppose launch0) rfl ls st μ
theorem e_X10_suppose_36 (Q : ix_R → Prop) (ls : ix_L) (st : List ix_V) (μ : ix_M) : ix_Ev o_X10_suppose Q (36, ls, st, μ) = ix_aload 4 38 (ix_Ev o_X10_suppose Q) Q ls st μ := ix_Ev.eq (a_X10_suppose launch0) rfl ls st μ
theorem e_X10_suppose_38 (Q : ix_R → Prop) (ls : ix_L) (st : List ix_V) (μ : ix_M) : ix_Ev o_X10_suppose Q (38, ls, st, μ) = ix_getr 8 20 (fun k => k + 3) 41 (ix_Ev o_X10_suppose Q) Q ls st μ := ix_Ev.eq (a_X10_suppose launch0) rfl ls st μ
theorem e_X10_suppose_41 (Q : ix_R → Prop) (ls : ix_L) (st : List ix_V) (μ : ix_M) : ix_Ev o_X10_suppose Q (41, ls, st, μ) = ix_iload 2 42 (ix_Ev o_X10_suppose Q) Q ls st μ := ix_Ev.eq (a_X10_suppose launch0) rfl ls st μ
theorem e_X10_suppose_42 (Q : ix_R → Prop) (ls : ix_L) (st : List ix_V) (μ : ix_M) : ix_Ev o_X10_suppose Q (42, ls, st, μ) = ix_iload 3 43 (ix_Ev o_X10_suppose Q) Q ls st μ := ix_Ev.eq (a_X10_suppose launch0) rfl ls st μ
theorem e_X10_suppose_43 (Q : ix_R → Prop) (ls : ix_L) (st : List ix_V) (μ : ix_M) : ix_Ev o_X10_suppose Q (43, ls, st, μ) = ix_iast 44 (ix_Ev o_X10_suppose Q) Q ls st μ := ix_Ev.eq (a_X10_suppose launch0) rfl ls st μ
theorem e_X10_suppose_44 (Q : ix_R → Prop) (ls : ix_L) (st : List ix_V) (μ : ix_M) : ix_Ev o_X10_suppose Q (44, ls, st, μ) = ix_goto 86 (ix_Ev o_X10_suppose Q) Q ls st μ := ix_Ev.eq (a_X10_suppose launch0) rfl ls st μ
theorem e_X10_suppose_47 (Q : ix_R → Prop) (ls : ix_L) (st : List ix_V) (μ : ix_M) : ix_Ev o_X10_suppose Q (47, ls, st, μ) = ix_aload 4 49 (ix_Ev o_X10_suppose Q) Q ls st μ := ix_Ev.eq (a_X10_suppose launch0) rfl ls st μ
theorem e_X10_suppose_49 (Q : ix_R → Prop) (ls : ix_L) (st : List ix_V) (μ : ix_M) : ix_Ev o_X10_suppose Q (49, ls, st, μ) = ix_getr 8 20 (fun k => k + 6) 52 (ix_Ev o_X10_suppose Q) Q ls st μ := ix_Ev.eq (a_X10_suppose launch0) rfl ls st μ
theorem e_X10_suppose_52 (Q : ix_R → Prop) (ls : ix_L) (st : List ix_V) (μ : ix_M) : ix_Ev o_X10_suppose Q (52, ls, st, μ) = ix_iload 2 53 (ix_Ev o_X10_suppose Q) Q ls st μ := ix_Ev.eq (a_X10_suppose launch0) rfl ls st μ
theorem e_X10_suppose_53 (Q : ix_R → Prop) (ls : ix_L) (st : List ix_V) (μ : ix_M) : ix_Ev o_X10_suppose Q (53, ls, st, μ) = ix_iload 3 54 (ix_Ev o_X10_suppose Q) Q ls st μ := ix_Ev.eq (a_X10_suppose launch0) rfl ls st μ
theorem e_X10_suppose_54 (Q : ix_R → Prop) (ls : ix_L) (st : List ix_V) (μ : ix_M) : ix_Ev o_X10_suppose Q (54, ls, st, μ) = ix_iast 55 (ix_Ev o_X10_suppose Q) Q ls st μ := ix_Ev.eq (a_X10_suppose launch0) rfl ls st μ
theorem e_X10_suppose_55 (Q : ix_R → Prop) (ls : ix_L) (st : List ix_V) (μ : ix_M) : ix_Ev o_X10_suppose Q (55, ls, st, μ) = ix_goto 86 (ix_Ev o_X10_suppose Q) Q ls st μ := ix_Ev.eq (a_X10_suppose launch0) rfl ls st μ
theorem e_X10_suppose_58 (Q : ix_R → Prop) (ls : ix_L) (st : List ix_V) (μ : ix_M) : ix_Ev o_X10_suppose Q (58, ls, st, μ) = ix_aload 4 60 (ix_Ev o_X10_suppose Q) Q ls st μ := ix_Ev.eq (a_X10_suppose launch0) rfl ls st μ
theorem e_X10_suppose_60 (Q : ix_R → Prop) (ls : ix_L) (st : List ix_V) (μ : ix_M) : ix_Ev o_X10_suppose Q (60, ls, st, μ) = ix_getr 8 20 (fun k => k + 4) 63 (ix_Ev o_X10_suppose Q) Q ls st μ := ix_Ev.eq (a_X10_suppose launch0) rfl ls st μ
theorem e_X10_suppose_63 (Q : ix_R → Prop) (ls : ix_L) (st : List ix_V) (μ : ix_M) : ix_Ev o_X10_suppose Q (63, ls, st, μ) = ix_iload 2 64 (ix_Ev o_X10_suppose Q) Q ls st μ := ix_Ev.eq (a_X10_suppose launch0) rfl ls st μ
theorem e_X10_suppose_64 (Q : ix_R → Prop) (ls : ix_L) (st : List ix_V) (μ : ix_M) : ix_Ev o_X10_suppose Q (64, ls, st, μ) = ix_iload 3 65 (ix_Ev o_X10_suppose Q) Q ls st μ := ix_Ev.eq (a_X10_suppose launch0) rfl ls st μ
theorem e_X10_suppose_65 (Q : ix_R → Prop) (ls : ix_L) (st : List ix_V) (μ : ix_M) : ix_Ev o_X10_suppose Q (65, ls, st, μ) = ix_iast 66 (ix_Ev o_X10_suppose Q) Q ls st μ := ix_Ev.eq (a_X10_suppose launch0) rfl ls st μ
theorem e_X10_suppose_66 (Q : ix_R → Prop) (ls : ix_L) (st : List ix_V) (μ : ix_M) : ix_Ev o_X10_suppose Q (66, ls, st, μ) = ix_goto 86 (ix_Ev o_X10_suppose Q) Q ls st μ := ix_Ev.eq (a_X10_suppose launch0) rfl ls st μ
theorem e_X10_suppose_69 (Q : ix_R → Prop) (ls : ix_L) (st : List ix_V) (μ : ix_M) : ix_Ev o_X10_suppose Q (69, ls, st, μ) = ix_aload 4 71 (ix_Ev o_X10_suppose Q) Q ls st μ := ix_Ev.eq (a_X10_suppose launch0) rfl ls st μ
theorem e_X10_suppose_71 (Q : ix_R → Prop) (ls : ix_L) (st : List ix_V) (μ : ix_M) : ix_Ev o_X10_suppose Q (71, ls, st, μ) = ix_getr 8 20 (fun k => k + 2) 74 (ix_Ev o_X10_suppose Q) Q ls st μ := ix_Ev.eq (a_X10_suppose launch0) rfl ls st μ
theorem e_X10_suppose_74 (Q : ix_R → Prop) (ls : ix_L) (st : List ix_V) (μ : ix_M) : ix_Ev o_X10_suppose Q (74, ls, st, μ) = ix_iload 2 75 (ix_Ev o_X10_suppose Q) Q ls st μ := ix_Ev.eq (a_X10_suppose launch0) rfl ls st μ
theorem e_X10_suppose_75 (Q : ix_R → Prop) (ls : ix_L) (st : List ix_V) (μ : ix_M) : ix_Ev o_X10_suppose Q (75, ls, st, μ) = ix_iload 3 76 (ix_Ev o_X10_suppose Q) Q ls st μ := ix_Ev.eq (a_X10_suppose launch0) rfl ls st μ
theorem e_X10_suppose_76 (Q : ix_R → Prop) (ls : ix_L) (st : List ix_V) (μ : ix_M) : ix_Ev o_X10_suppose Q (76, ls, st, μ) = ix_iast 77 (ix_Ev o_X10_suppose Q) Q ls st μ := ix_Ev.eq (a_X10_suppose launch0) rfl ls st μ
theorem e_X10_suppose_77 (Q : ix_R → Prop) (ls : ix_L) (st : List ix_V) (μ : ix_M) : ix_Ev o_X10_suppose Q (77, ls, st, μ) = ix_goto 86 (ix_Ev o_X10_suppose Q) Q ls st μ := ix_Ev.eq (a_X10_suppose launch0) rfl ls st μ
theorem e_X10_suppose_80 (Q : ix_R → Prop) (ls : ix_L) (st : List ix_V) (μ : ix_M) : ix_Ev o_X10_suppose Q (80, ls, st, μ) = ix_aload 4 82 (ix_Ev o_X10_suppose Q) Q ls st μ := ix_Ev.eq (a_X10_suppose launch0) rfl ls st μ
theorem e_X10_suppose_82 (Q : ix_R → Prop) (ls : ix_L) (st : List ix_V) (μ : ix_M) : ix_Ev o_X10_suppose Q (82, ls, st, μ) = ix_iload 3 83 (ix_Ev o_X10_suppose Q) Q ls st μ := ix_Ev.eq (a_X10_suppose launch0) rfl ls st μ
theorem e_X10_suppose_83 (Q : ix_R → Prop) (ls : ix_L) (st : List ix_V) (μ : ix_M) : ix_Ev o_X10_suppose Q (83, ls, st, μ) = ix_puti 8 9 86 (ix_Ev o_X10_suppose Q) Q ls st μ := ix_Ev.eq (a_X10_suppose launch0) rfl ls st μ
theorem e_X10_suppose_86 (Q : ix_R → Prop) (ls : ix_L) (st : List ix_V) (μ : ix_M) : ix_Ev o_X10_suppose Q (86, ls, st, μ) = ix_aload 4 88 (ix_Ev o_X10_suppose Q) Q ls st μ := ix_Ev.eq (a_X10_suppose launch0) rfl ls st μ
theorem e_X10_suppose_88 (Q : ix_R → Prop) (ls : ix_L) (st : List ix_V) (μ : ix_M) : ix_Ev o_X10_suppose Q (88, ls, st, μ) = ix_aret (ix_Ev o_X10_suppose Q) Q ls st μ := ix_Ev.eq (a_X10_suppose launch0) rfl ls st μ
theorem r_X10_suppose (o : Nat) (t : Int32) (b : Int32) (v : Int32) (μ : ix_M) (Q : ix_R → Prop) (ok_o : o < ix_N ∧ ix_tag o = 9) (hT : T_X10_suppose (o, t, b, v) μ Q) : ix_Ev o_X10_suppose Q (0, [some (vr 9 o), some (vi t), some (vi b), some (vi v), none], [], μ) := by
  have l51 : ix_len 51 = 6 := by decide +kernel
  have l54 : ix_len 54 = 8 := by decide +kernel
  have l52 : ix_len 52 = 8 := by decide +kernel
  have l50 : ix_len 50 = 16 := by decide +kernel
  simp (decide := true) only [e_X10_suppose_0, e_X10_suppose_1, e_X10_suppose_4, e_X10_suppose_6, e_X10_suppose_7, e_X10_suppose_36, e_X10_suppose_38, e_X10_suppose_41, e_X10_suppose_42, e_X10_suppose_43, e_X10_suppose_44, e_X10_suppose_47, e_X10_suppose_49, e_X10_suppose_52, e_X10_suppose_53, e_X10_suppose_54, e_X10_suppose_55, e_X10_suppose_58, e_X10_suppose_60, e_X10_suppose_63, e_X10_suppose_64, e_X10_suppose_65, e_X10_suppose_66, e_X10_suppose_69, e_X10_suppose_71, e_X10_suppose_74, e_X10_suppose_75, e_X10_suppose_76, e_X10_suppose_77, e_X10_suppose_80, e_X10_suppose_82, e_X10_suppose_83, e_X10_suppose_86, e_X10_suppose_88, vi, vl, vr, oc_X10_think, T_X10_think, ix_push, ix_iload, ix_lload, ix_aload, ix_istore, ix_astore, ix_iinc, ix_bin, ix_div, ix_un, ix_i2l, ix_l2i, ix_lbin, ix_lsh, ix_lcmp, ix_dup, ix_dup2, ix_pop, ix_if, ix_cmp, ix_goto, ix_switch, ix_sw, ix_iret, ix_zret, ix_vret, ix_aret, ix_geti, ix_getr, ix_puti, ix_putz, ix_puts, ix_gets, ix_iald, ix_iast, ix_alen, ix_aald, ix_gval, ix_gcod, ix_bald, ix_blen, ix_sald, ix_nret, ix_math2, ix_math1, ix_acopy, Nat.add_assoc, Int32.reduceLT, Int32.reduceLE, Int32.reduceToNatClampNeg, Int32.reduceSub, Int32.reduceAdd, Nat.reduceAdd, Nat.reduceLeDiff, true_or, or_true, or_false, false_or, not_false_eq_true, not_true_eq_false, false_implies, true_implies, implies_true, and_self, mB_0, mB_01, Classical.not_not, Nat.zero_le, List.getElem?_cons_zero, List.getElem?_cons_succ, List.set_cons_zero, List.set_cons_succ, ix_nl, ix_cs, true_and, and_true, Option.toList_some, Option.toList_none, List.cons_append, List.nil_append, l50, l51, l52, l54]
  intro μ' hF hv
  obtain ⟨⟨p0, p1, p2, p3⟩, hQ⟩ := hT
  have key : ∀ r0 i0, wok r0 i0 = true → r0 < 8 → r0 = supR t → i0 = supI t b → Q (some (Sum.inr (Sum.inr (8, 48))), ix_up μ' (48 + r0) i0 v) := by
    intro r0 i0 ho hr e1 e2
    refine hQ _ (hF.up (by unfold wL; simp; omega)) ?_
    rw [wv_up ho, hv, e1, e2]
  refine ⟨fun c => ⟨p0 c, ?_⟩, fun c0 => ⟨fun c => ⟨p1 c, ?_⟩, fun c1 => ⟨fun c => ⟨p2 c, ?_⟩, fun c2 => ⟨fun c => ⟨p3 c, ?_⟩, fun c3 => ?_⟩⟩⟩⟩
  · exact key 3 _ (wok_3 (vp_in_lt (p0 c))) (by decide) (by unfold supR; rw [if_pos c]) (by unfold supI; rw [if_pos c])
  · exact key 6 _ (wok_6 (vp_in_lt (p1 c))) (by decide) (by unfold supR; rw [if_neg c0, if_pos c]) (by unfold supI; rw [if_neg c0, if_pos c])
  · exact key 4 _ (wok_4 (vp_in_lt (p2 c))) (by decide) (by unfold supR; rw [if_neg c0, if_neg c1, if_pos c]) (by unfold supI; rw [if_neg c0, if_neg c1, if_pos c])
  · exact key 2 _ (wok_2 (vp_in_lt (p3 c))) (by decide) (by unfold supR; rw [if_neg c0, if_neg c1, if_neg c2, if_pos c]) (by unfold supI; rw [if_neg c0, if_neg c1, if_neg c2, if_pos c])
  · exact key 0 9 wok_09 (by decide) (by unfold supR; rw [if_neg c0, if_neg c1, if_neg c2, if_neg c3]) (by unfold supI; rw [if_neg c0, if_neg c1, if_neg c2, if_neg c3])
theorem k_X10_suppose (l : Launch) : ix_Ct l yX10_suppose cX10_suppose 5 (some (.object "IndigoBoats$Water")) 3 sh_X10_suppose T_X10_suppose := ix_ct (a_X10_suppose l) rfl (by decide) (fun _ => Nat.le_of_ble_eq_true rfl) (fun x μ Q hok hT => r_X10_suppose x.1 x.2.1 x.2.2.1 x.2.2.2 μ Q (ix_ok_at (hok (vr 9 x.1) (by simp [sh_X10_suppose])) (by decide) (by decide)) hT)
theorem WAt.set {v : WV} {M : Nat} (h : WAt v M) {r i : Nat} {x : Int32} (hr : (r ≠ 0 ∨ (i ≠ 7 ∧ i ≠ 8)) ∧ (r = 6 → ∃ c : Nat, c < 16 ∧ x = nI c)) : WAt (setV r i x v) M := by
  refine ⟨?_, ?_, fun b hb => ?_⟩
  · unfold setV
    rw [if_neg (by omega)]
    exact h.1
  · unfold setV
    rw [if_neg (by omega)]
    exact h.2.1
  · unfold setV
    split
    · rename_i e
      exact hr.2 e.1.symm
    · exact h.2.2 b hb
def wT : List Nat := [48, 49, 50, 51, 52, 53, 54, 55, 14, 18]
theorem wT_2 {μ μ' : ix_M} (h : Fx wT μ μ') : wv μ' 2 = wv μ 2 := wv_fx (fun r hr => h _ (by unfold wT; simp; omega))
theorem wT_L {μ μ' : ix_M} {ds dl : List Int32} (hL : LW μ ds dl) (h : Fx wT μ μ') : LW μ' ds dl := hL.fx h (by decide)
theorem Fx.wL48 {μ μ' : ix_M} (h : Fx (wL 48) μ μ') : Fx wT μ μ' := h.mono (by decide)
theorem Fx.wP48 {μ μ' : ix_M} (h : Fx (wP 48) μ μ') : Fx wT μ μ' := h.mono (by decide)
def bstF (f : Nat → Int32) (n : Nat) : Int32 × Int32 := match n with
  | 0 => (0, -1)
  | n + 1 => if (bstF f n).2 < f n then (nI n, f n) else bstF f n
def T_X10_bestOf : Nat × Int32 × Int32 × Int32 × Int32 → ix_M → (ix_R → Prop) → Prop := fun (_, t, b, ch, n) μ Q => ∃ (M N C : Nat) (ds dl : List Int32), WAt (wv μ 2) M ∧ n = nI N ∧ M + N < 30000 ∧ ch = nI C ∧ C ≤ 16 ∧ LW μ ds dl ∧ supP t b ∧ (t = 0 ∨ t = 1 ∨ t = 2) ∧ ∀ μ', Fx wT μ μ' → Q (some (vi (bstF (fun x => pH (pIt ds dl N (setV (supR t) (supI t b) (nI x) (wv μ 2)))) C).1), μ')
def sh_X10_bestOf (x : Nat × Int32 × Int32 × Int32 × Int32) : List ix_V := [vr 9 x.1, vi x.2.1, vi x.2.2.1, vi x.2.2.2.1, vi x.2.2.2.2]
theorem mo_X10_bestOf (x : Nat × Int32 × Int32 × Int32 × Int32) (μ : ix_M) (Q Q' : ix_R → Prop) (h : ∀ r, Q r → Q' r) (hT : T_X10_bestOf x μ Q) : T_X10_bestOf x μ Q' := by
  obtain ⟨a0, a1, a2, a3, a4⟩ := x
  (obtain ⟨M, N, C, ds, dl, h1, h2, h3, h4, h5, h6, h7, h8, h9⟩ := hT; exact ⟨M, N, C, ds, dl, h1, h2, h3, h4, h5, h6, h7, h8, fun μ' z => h _ (h9 μ' z)⟩)
def oc_X10_bestOf (n : Nat) : ix_Op := fun k _ ls st μ => match st with
  | .inl a4 :: .inl a3 :: .inl a2 :: .inl a1 :: .inr (.inr (t0, a0)) :: r => t0 = 9 ∧ ix_cs r ≤ 8 ∧ T_X10_bestOf (a0, a1, a2, a3, a4) μ (fun q => k (n, ls, q.1.toList ++ r, q.2))
  | _ => False
theorem oc_X10_bestOf_s {l : Launch} {cc : ByteArray} {nL : Nat} {own : String} {d : Nat} {rt : Option FieldType} {pc n : Nat} (h : ix_S l cc nL own d rt pc (ix_call 5 sh_X10_bestOf T_X10_bestOf n)) : ix_S l cc nL own d rt pc (oc_X10_bestOf n) := by
  refine h.by (fun k Q ls st μ h => ?_) (fun k k' Q ls st μ hk h => ?_)
  · unfold oc_X10_bestOf at h
    split at h
    · rename_i a4 a3 a2 a1 t0 a0 r
      obtain ⟨rfl, h1, h2⟩ := h
      exact ⟨h1, (a0, a1, a2, a3, a4), rfl, _, h2, fun r h => h⟩
    · exact h.elim
  · unfold oc_X10_bestOf at h ⊢
    split at h
    · obtain ⟨rfl, h1, h2⟩ := h
      exact ⟨rfl, h1, mo_X10_bestOf _ _ _ _ (fun q hq => hk _ hq) h2⟩
    · exact h.elim
def o_X10_bestOf : List (Nat × ix_Op) := [
  (0, ix_push (vi 0) 1),
  (1, ix_istore 5 3),
  (3, ix_push (vi (-1)) 4),
  (4, ix_istore 6 6),
  (6, ix_push (vi 0) 7),
  (7, ix_istore 7 9),
  (9, ix_iload 7 11),
  (11, ix_iload 3 12),
  (12, ix_cmp (fun x y => y ≤ x) 52 15),
  (15, ix_aload 0 16),
  (16, ix_aload 0 17),
  (17, ix_iload 1 18),
  (18, ix_iload 2 19),
  (19, ix_iload 7 21),
  (21, oc_X10_suppose 24),
  (24, ix_iload 4 26),
  (26, oc_X10_hadBehind 29),
  (29, ix_istore 8 31),
  (31, ix_iload 8 33),
  (33, ix_iload 6 35),
  (35, ix_cmp (fun x y => x ≤ y) 46 38),
  (38, ix_iload 8 40),
  (40, ix_istore 6 42),
  (42, ix_iload 7 44),
  (44, ix_istore 5 46),
  (46, ix_iinc 7 1 49),
  (49, ix_goto 9),
  (52, ix_iload 5 54),
  (54, ix_iret)]
set_option maxRecDepth 20000 in
theorem a_X10_bestOf (l : Launch) : ix_AllS l cX10_bestOf 9 RX10 7 (some .int) o_X10_bestOf :=
  .cons (ix_s_iconst dX10_bestOf_0 (by decide +kernel)) <|
  .cons (ix_s_istore dX10_bestOf_1 (by decide)) <|
  .cons (ix_s_iconst dX10_bestOf_3 (by decide +kernel)) <|
  .cons (ix_s_istore dX10_bestOf_4 (by decide)) <|
  .cons (ix_s_iconst dX10_bestOf_6 (by decide +kernel)) <|
  .cons (ix_s_istore dX10_bestOf_7 (by decide)) <|
  .cons (ix_s_iload dX10_bestOf_9) <|
  .cons (ix_s_iload_n dX10_bestOf_11 rfl) <|
  .cons (ix_s_cmp_ge dX10_bestOf_12 (by decide)) <|
  .cons (ix_s_aload_n dX10_bestOf_15 rfl) <|
  .cons (ix_s_aload_n dX10_bestOf_16 rfl) <|
  .cons (ix_s_iload_n dX10_bestOf_17 rfl) <|
  .cons (ix_s_iload_n dX10_bestOf_18 rfl) <|
  .cons (ix_s_iload dX10_bestOf_19) <|
  .cons (oc_X10_suppose_s (ix_s_callv (t := 9) (k_X10_suppose l) (by decide) (by decide) tw_667 tw_1 tw_664 tw_666 tp_10 ⟨by decide, by decide, by decide +kernel⟩ (by decide) rfl rfl (fun _ => ⟨_, _, rfl, rfl⟩) dX10_bestOf_21)) <|
  .cons (ix_s_iload dX10_bestOf_24) <|
  .cons (oc_X10_hadBehind_s (ix_s_callv (t := 9) (k_X10_hadBehind l) (by decide) (by decide) tw_595 tw_1 tw_592 tw_594 tp_7 ⟨by decide, by decide, by decide +kernel⟩ (by decide) rfl rfl (fun _ => ⟨_, _, rfl, rfl⟩) dX10_bestOf_26)) <|
  .cons (ix_s_istore dX10_bestOf_29 (by decide)) <|
  .cons (ix_s_iload dX10_bestOf_31) <|
  .cons (ix_s_iload dX10_bestOf_33) <|
  .cons (ix_s_cmp_le dX10_bestOf_35 (by decide)) <|
  .cons (ix_s_iload dX10_bestOf_38) <|
  .cons (ix_s_istore dX10_bestOf_40 (by decide)) <|
  .cons (ix_s_iload dX10_bestOf_42) <|
  .cons (ix_s_istore dX10_bestOf_44 (by decide)) <|
  .cons (ix_s_iinc dX10_bestOf_46 (by decide +kernel) (by decide)) <|
  .cons (ix_s_goto dX10_bestOf_49 (by decide)) <|
  .cons (ix_s_iload dX10_bestOf_52) <|
  .cons (ix_s_iret dX10_bestOf_54 rfl) <| .nil
theorem e_X10_bestOf_0 (Q : ix_R → Prop) (ls : ix_L) (st : List ix_V) (μ : ix_M) : ix_Ev o_X10_bestOf Q (0, ls, st, μ) = ix_push (vi 0) 1 (ix_Ev o_X10_bestOf Q) Q ls st μ := ix_Ev.eq (a_X10_bestOf launch0) rfl ls st μ
theorem e_X10_bestOf_1 (Q : ix_R → Prop) (ls : ix_L) (st : List ix_V) (μ : ix_M) : ix_Ev o_X10_bestOf Q (1, ls, st, μ) = ix_istore 5 3 (ix_Ev o_X10_bestOf Q) Q ls st μ := ix_Ev.eq (a_X10_bestOf launch0) rfl ls st μ
theorem e_X10_bestOf_3 (Q : ix_R → Prop) (ls : ix_L) (st : List ix_V) (μ : ix_M) : ix_Ev o_X10_bestOf Q (3, ls, st, μ) = ix_push (vi (-1)) 4 (ix_Ev o_X10_bestOf Q) Q ls st μ := ix_Ev.eq (a_X10_bestOf launch0) rfl ls st μ
theorem e_X10_bestOf_4 (Q : ix_R → Prop) (ls : ix_L) (st : List ix_V) (μ : ix_M) : ix_Ev o_X10_bestOf Q (4, ls, st, μ) = ix_istore 6 6 (ix_Ev o_X10_bestOf Q) Q ls st μ := ix_Ev.eq (a_X10_bestOf launch0) rfl ls st μ
theorem e_X10_bestOf_6 (Q : ix_R → Prop) (ls : ix_L) (st : List ix_V) (μ : ix_M) : ix_Ev o_X10_bestOf Q (6, ls, st, μ) = ix_push (vi 0) 7 (ix_Ev o_X10_bestOf Q) Q ls st μ := ix_Ev.eq (a_X10_bestOf launch0) rfl ls st μ
theorem e_X10_bestOf_7 (Q : ix_R → Prop) (ls : ix_L) (st : List ix_V) (μ : ix_M) : ix_Ev o_X10_bestOf Q (7, ls, st, μ) = ix_istore 7 9 (ix_Ev o_X10_bestOf Q) Q ls st μ := ix_Ev.eq (a_X10_bestOf launch0) rfl ls st μ
theorem e_X10_bestOf_9 (Q : ix_R → Prop) (ls : ix_L) (st : List ix_V) (μ : ix_M) : ix_Ev o_X10_bestOf Q (9, ls, st, μ) = ix_iload 7 11 (ix_Ev o_X10_bestOf Q) Q ls st μ := ix_Ev.eq (a_X10_bestOf launch0) rfl ls st μ
theorem e_X10_bestOf_11 (Q : ix_R → Prop) (ls : ix_L) (st : List ix_V) (μ : ix_M) : ix_Ev o_X10_bestOf Q (11, ls, st, μ) = ix_iload 3 12 (ix_Ev o_X10_bestOf Q) Q ls st μ := ix_Ev.eq (a_X10_bestOf launch0) rfl ls st μ
theorem e_X10_bestOf_12 (Q : ix_R → Prop) (ls : ix_L) (st : List ix_V) (μ : ix_M) : ix_Ev o_X10_bestOf Q (12, ls, st, μ) = ix_cmp (fun x y => y ≤ x) 52 15 (ix_Ev o_X10_bestOf Q) Q ls st μ := ix_Ev.eq (a_X10_bestOf launch0) rfl ls st μ
theorem e_X10_bestOf_15 (Q : ix_R → Prop) (ls : ix_L) (st : List ix_V) (μ : ix_M) : ix_Ev o_X10_bestOf Q (15, ls, st, μ) = ix_aload 0 16 (ix_Ev o_X10_bestOf Q) Q ls st μ := ix_Ev.eq (a_X10_bestOf launch0) rfl ls st μ
theorem e_X10_bestOf_16 (Q : ix_R → Prop) (ls : ix_L) (st : List ix_V) (μ : ix_M) : ix_Ev o_X10_bestOf Q (16, ls, st, μ) = ix_aload 0 17 (ix_Ev o_X10_bestOf Q) Q ls st μ := ix_Ev.eq (a_X10_bestOf launch0) rfl ls st μ
theorem e_X10_bestOf_17 (Q : ix_R → Prop) (ls : ix_L) (st : List ix_V) (μ : ix_M) : ix_Ev o_X10_bestOf Q (17, ls, st, μ) = ix_iload 1 18 (ix_Ev o_X10_bestOf Q) Q ls st μ := ix_Ev.eq (a_X10_bestOf launch0) rfl ls st μ
theorem e_X10_bestOf_18 (Q : ix_R → Prop) (ls : ix_L) (st : List ix_V) (μ : ix_M) : ix_Ev o_X10_bestOf Q (18, ls, st, μ) = ix_iload 2 19 (ix_Ev o_X10_bestOf Q) Q ls st μ := ix_Ev.eq (a_X10_bestOf launch0) rfl ls st μ
theorem e_X10_bestOf_19 (Q : ix_R → Prop) (ls : ix_L) (st : List ix_V) (μ : ix_M) : ix_Ev o_X10_bestOf Q (19, ls, st, μ) = ix_iload 7 21 (ix_Ev o_X10_bestOf Q) Q ls st μ := ix_Ev.eq (a_X10_bestOf launch0) rfl ls st μ
theorem e_X10_bestOf_21 (Q : ix_R → Prop) (ls : ix_L) (st : List ix_V) (μ : ix_M) : ix_Ev o_X10_bestOf Q (21, ls, st, μ) = oc_X10_suppose 24 (ix_Ev o_X10_bestOf Q) Q ls st μ := ix_Ev.eq (a_X10_bestOf launch0) rfl ls st μ
theorem e_X10_bestOf_24 (Q : ix_R → Prop) (ls : ix_L) (st : List ix_V) (μ : ix_M) : ix_Ev o_X10_bestOf Q (24, ls, st, μ) = ix_iload 4 26 (ix_Ev o_X10_bestOf Q) Q ls st μ := ix_Ev.eq (a_X10_bestOf launch0) rfl ls st μ
theorem e_X10_bestOf_26 (Q : ix_R → Prop) (ls : ix_L) (st : List ix_V) (μ : ix_M) : ix_Ev o_X10_bestOf Q (26, ls, st, μ) = oc_X10_hadBehind 29 (ix_Ev o_X10_bestOf Q) Q ls st μ := ix_Ev.eq (a_X10_bestOf launch0) rfl ls st μ
theorem e_X10_bestOf_29 (Q : ix_R → Prop) (ls : ix_L) (st : List ix_V) (μ : ix_M) : ix_Ev o_X10_bestOf Q (29, ls, st, μ) = ix_istore 8 31 (ix_Ev o_X10_bestOf Q) Q ls st μ := ix_Ev.eq (a_X10_bestOf launch0) rfl ls st μ
theorem e_X10_bestOf_31 (Q : ix_R → Prop) (ls : ix_L) (st : List ix_V) (μ : ix_M) : ix_Ev o_X10_bestOf Q (31, ls, st, μ) = ix_iload 8 33 (ix_Ev o_X10_bestOf Q) Q ls st μ := ix_Ev.eq (a_X10_bestOf launch0) rfl ls st μ
theorem e_X10_bestOf_33 (Q : ix_R → Prop) (ls : ix_L) (st : List ix_V) (μ : ix_M) : ix_Ev o_X10_bestOf Q (33, ls, st, μ) = ix_iload 6 35 (ix_Ev o_X10_bestOf Q) Q ls st μ := ix_Ev.eq (a_X10_bestOf launch0) rfl ls st μ
theorem e_X10_bestOf_35 (Q : ix_R → Prop) (ls : ix_L) (st : List ix_V) (μ : ix_M) : ix_Ev o_X10_bestOf Q (35, ls, st, μ) = ix_cmp (fun x y => x ≤ y) 46 38 (ix_Ev o_X10_bestOf Q) Q ls st μ := ix_Ev.eq (a_X10_bestOf launch0) rfl ls st μ
theorem e_X10_bestOf_38 (Q : ix_R → Prop) (ls : ix_L) (st : List ix_V) (μ : ix_M) : ix_Ev o_X10_bestOf Q (38, ls, st, μ) = ix_iload 8 40 (ix_Ev o_X10_bestOf Q) Q ls st μ := ix_Ev.eq (a_X10_bestOf launch0) rfl ls st μ
theorem e_X10_bestOf_40 (Q : ix_R → Prop) (ls : ix_L) (st : List ix_V) (μ : ix_M) : ix_Ev o_X10_bestOf Q (40, ls, st, μ) = ix_istore 6 42 (ix_Ev o_X10_bestOf Q) Q ls st μ := ix_Ev.eq (a_X10_bestOf launch0) rfl ls st μ
theorem e_X10_bestOf_42 (Q : ix_R → Prop) (ls : ix_L) (st : List ix_V) (μ : ix_M) : ix_Ev o_X10_bestOf Q (42, ls, st, μ) = ix_iload 7 44 (ix_Ev o_X10_bestOf Q) Q ls st μ := ix_Ev.eq (a_X10_bestOf launch0) rfl ls st μ
theorem e_X10_bestOf_44 (Q : ix_R → Prop) (ls : ix_L) (st : List ix_V) (μ : ix_M) : ix_Ev o_X10_bestOf Q (44, ls, st, μ) = ix_istore 5 46 (ix_Ev o_X10_bestOf Q) Q ls st μ := ix_Ev.eq (a_X10_bestOf launch0) rfl ls st μ
theorem e_X10_bestOf_46 (Q : ix_R → Prop) (ls : ix_L) (st : List ix_V) (μ : ix_M) : ix_Ev o_X10_bestOf Q (46, ls, st, μ) = ix_iinc 7 1 49 (ix_Ev o_X10_bestOf Q) Q ls st μ := ix_Ev.eq (a_X10_bestOf launch0) rfl ls st μ
theorem e_X10_bestOf_49 (Q : ix_R → Prop) (ls : ix_L) (st : List ix_V) (μ : ix_M) : ix_Ev o_X10_bestOf Q (49, ls, st, μ) = ix_goto 9 (ix_Ev o_X10_bestOf Q) Q ls st μ := ix_Ev.eq (a_X10_bestOf launch0) rfl ls st μ
theorem e_X10_bestOf_52 (Q : ix_R → Prop) (ls : ix_L) (st : List ix_V) (μ : ix_M) : ix_Ev o_X10_bestOf Q (52, ls, st, μ) = ix_iload 5 54 (ix_Ev o_X10_bestOf Q) Q ls st μ := ix_Ev.eq (a_X10_bestOf launch0) rfl ls st μ
theorem e_X10_bestOf_54 (Q : ix_R → Prop) (ls : ix_L) (st : List ix_V) (μ : ix_M) : ix_Ev o_X10_bestOf Q (54, ls, st, μ) = ix_iret (ix_Ev o_X10_bestOf Q) Q ls st μ := ix_Ev.eq (a_X10_bestOf launch0) rfl ls st μ
theorem l_X10_bestOf {o M N C : Nat} {t b : Int32} {μ : ix_M} {ds dl : List Int32} {Q : ix_R → Prop} (hW : WAt (wv μ 2) M) (hMN : M + N < 30000) (hC : C ≤ 16) (hL : LW μ ds dl) (hp : supP t b) (ht : t = 0 ∨ t = 1 ∨ t = 2) (f : Nat → Int32) (hf : f = fun x => pH (pIt ds dl N (setV (supR t) (supI t b) (nI x) (wv μ 2)))) (hQ : ∀ μ', Fx wT μ μ' → Q (some (vi (bstF f C).1), μ')) :
    ∀ (k i : Nat) (μ1 : ix_M) (x8 : Option ix_V), i + k = C → Fx wT μ μ1 → ix_Ev o_X10_bestOf Q (9, [some (vr 9 o), some (vi t), some (vi b), some (vi (nI C)), some (vi (nI N)), some (vi (bstF f i).1), some (vi (bstF f i).2), some (vi (nI i)), x8], [], μ1) := by
  intro k
  induction k with
  | zero =>
    intro i μ1 x8 hi hF
    have hi : i = C := hi
    subst hi
    have hle : nI i ≤ nI i := Int32.le_refl _
    rw [e_X10_bestOf_9]
    simp (decide := true) only [e_X10_bestOf_0, e_X10_bestOf_1, e_X10_bestOf_3, e_X10_bestOf_4, e_X10_bestOf_6, e_X10_bestOf_7, e_X10_bestOf_11, e_X10_bestOf_12, e_X10_bestOf_15, e_X10_bestOf_16, e_X10_bestOf_17, e_X10_bestOf_18, e_X10_bestOf_19, e_X10_bestOf_21, e_X10_bestOf_24, e_X10_bestOf_26, e_X10_bestOf_29, e_X10_bestOf_31, e_X10_bestOf_33, e_X10_bestOf_35, e_X10_bestOf_38, e_X10_bestOf_40, e_X10_bestOf_42, e_X10_bestOf_44, e_X10_bestOf_46, e_X10_bestOf_49, e_X10_bestOf_52, e_X10_bestOf_54, vi, vl, vr, oc_X10_hadBehind, T_X10_hadBehind, oc_X10_suppose, T_X10_suppose, ix_push, ix_iload, ix_lload, ix_aload, ix_istore, ix_astore, ix_iinc, ix_bin, ix_div, ix_un, ix_i2l, ix_l2i, ix_lbin, ix_lsh, ix_lcmp, ix_dup, ix_dup2, ix_pop, ix_if, ix_cmp, ix_goto, ix_switch, ix_sw, ix_iret, ix_zret, ix_vret, ix_aret, ix_geti, ix_getr, ix_puti, ix_putz, ix_puts, ix_gets, ix_iald, ix_iast, ix_alen, ix_aald, ix_gval, ix_gcod, ix_bald, ix_blen, ix_sald, ix_nret, ix_math2, ix_math1, ix_acopy, Nat.add_assoc, Int32.reduceLT, Int32.reduceLE, Int32.reduceToNatClampNeg, Int32.reduceSub, Int32.reduceAdd, Nat.reduceAdd, Nat.reduceLeDiff, true_or, or_true, or_false, false_or, not_false_eq_true, not_true_eq_false, false_implies, true_implies, implies_true, and_self, mB_0, mB_01, Classical.not_not, Nat.zero_le, List.getElem?_cons_zero, List.getElem?_cons_succ, List.set_cons_zero, List.set_cons_succ, ix_nl, ix_cs, true_and, and_true, Option.toList_some, Option.toList_none, List.cons_append, List.nil_append, hle]
    exact hQ μ1 hF
  | succ k ih =>
    intro i μ1 x8 hi hF
    have hng : ¬ nI C ≤ nI i := nI_ge (by omega) (by omega)
    rw [e_X10_bestOf_9]
    simp (decide := true) only [e_X10_bestOf_0, e_X10_bestOf_1, e_X10_bestOf_3, e_X10_bestOf_4, e_X10_bestOf_6, e_X10_bestOf_7, e_X10_bestOf_11, e_X10_bestOf_12, e_X10_bestOf_15, e_X10_bestOf_16, e_X10_bestOf_17, e_X10_bestOf_18, e_X10_bestOf_19, e_X10_bestOf_21, e_X10_bestOf_24, e_X10_bestOf_26, e_X10_bestOf_29, e_X10_bestOf_31, e_X10_bestOf_33, e_X10_bestOf_35, e_X10_bestOf_38, e_X10_bestOf_40, e_X10_bestOf_42, e_X10_bestOf_44, e_X10_bestOf_46, e_X10_bestOf_49, e_X10_bestOf_52, e_X10_bestOf_54, vi, vl, vr, oc_X10_hadBehind, T_X10_hadBehind, oc_X10_suppose, T_X10_suppose, ix_push, ix_iload, ix_lload, ix_aload, ix_istore, ix_astore, ix_iinc, ix_bin, ix_div, ix_un, ix_i2l, ix_l2i, ix_lbin, ix_lsh, ix_lcmp, ix_dup, ix_dup2, ix_pop, ix_if, ix_cmp, ix_goto, ix_switch, ix_sw, ix_iret, ix_zret, ix_vret, ix_aret, ix_geti, ix_getr, ix_puti, ix_putz, ix_puts, ix_gets, ix_iald, ix_iast, ix_alen, ix_aald, ix_gval, ix_gcod, ix_bald, ix_blen, ix_sald, ix_nret, ix_math2, ix_math1, ix_acopy, Nat.add_assoc, Int32.reduceLT, Int32.reduceLE, Int32.reduceToNatClampNeg, Int32.reduceSub, Int32.reduceAdd, Nat.reduceAdd, Nat.reduceLeDiff, true_or, or_true, or_false, false_or, not_false_eq_true, not_true_eq_false, false_implies, true_implies, implies_true, and_self, mB_0, mB_01, Classical.not_not, Nat.zero_le, List.getElem?_cons_zero, List.getElem?_cons_succ, List.set_cons_zero, List.set_cons_succ, ix_nl, ix_cs, true_and, and_true, Option.toList_some, Option.toList_none, List.cons_append, List.nil_append, hng]
    refine ⟨hp, fun μ2 hF2 hv2 => ⟨M, N, ds, dl, ?_, rfl, hMN, wT_L hL (hF.tr hF2.wL48), fun μ3 hF3 hv3 => ?_⟩⟩
    · rw [hv2, wT_2 hF]
      refine hW.set ⟨?_, fun _ => ⟨i, by omega, rfl⟩⟩
      left
      rcases ht with rfl | rfl | rfl <;> decide
    · have hF4 := (hF.tr hF2.wL48).tr hF3.wP48
      have e : pH (pIt ds dl N (wv μ2 48)) = f i := by rw [hv2, wT_2 hF, hf]
      rw [e, nI_1]
      refine ⟨fun c => ?_, fun c => ?_⟩
      · have := ih (i + 1) μ3 (some (vi (f i))) (by omega) hF4
        simp only [bstF, if_neg (Int32.not_lt.mpr c)] at this
        exact this
      · have := ih (i + 1) μ3 (some (vi (f i))) (by omega) hF4
        simp only [bstF, if_pos (Int32.not_le.mp c)] at this
        exact this
theorem r_X10_bestOf (o : Nat) (t : Int32) (b : Int32) (ch : Int32) (n : Int32) (μ : ix_M) (Q : ix_R → Prop) (ok_o : o < ix_N ∧ ix_tag o = 9) (hT : T_X10_bestOf (o, t, b, ch, n) μ Q) : ix_Ev o_X10_bestOf Q (0, [some (vr 9 o), some (vi t), some (vi b), some (vi ch), some (vi n), none, none, none, none], [], μ) := by
  obtain ⟨M, N, C, ds, dl, h1, rfl, h3, rfl, h5, h6, h7, h8, hQ⟩ := hT
  simp (decide := true) only [e_X10_bestOf_0, e_X10_bestOf_1, e_X10_bestOf_3, e_X10_bestOf_4, e_X10_bestOf_6, e_X10_bestOf_7, e_X10_bestOf_11, e_X10_bestOf_12, e_X10_bestOf_15, e_X10_bestOf_16, e_X10_bestOf_17, e_X10_bestOf_18, e_X10_bestOf_19, e_X10_bestOf_21, e_X10_bestOf_24, e_X10_bestOf_26, e_X10_bestOf_29, e_X10_bestOf_31, e_X10_bestOf_33, e_X10_bestOf_35, e_X10_bestOf_38, e_X10_bestOf_40, e_X10_bestOf_42, e_X10_bestOf_44, e_X10_bestOf_46, e_X10_bestOf_49, e_X10_bestOf_52, e_X10_bestOf_54, vi, vl, vr, oc_X10_hadBehind, T_X10_hadBehind, oc_X10_suppose, T_X10_suppose, ix_push, ix_iload, ix_lload, ix_aload, ix_istore, ix_astore, ix_iinc, ix_bin, ix_div, ix_un, ix_i2l, ix_l2i, ix_lbin, ix_lsh, ix_lcmp, ix_dup, ix_dup2, ix_pop, ix_if, ix_cmp, ix_goto, ix_switch, ix_sw, ix_iret, ix_zret, ix_vret, ix_aret, ix_geti, ix_getr, ix_puti, ix_putz, ix_puts, ix_gets, ix_iald, ix_iast, ix_alen, ix_aald, ix_gval, ix_gcod, ix_bald, ix_blen, ix_sald, ix_nret, ix_math2, ix_math1, ix_acopy, Nat.add_assoc, Int32.reduceLT, Int32.reduceLE, Int32.reduceToNatClampNeg, Int32.reduceSub, Int32.reduceAdd, Nat.reduceAdd, Nat.reduceLeDiff, true_or, or_true, or_false, false_or, not_false_eq_true, not_true_eq_false, false_implies, true_implies, implies_true, and_self, mB_0, mB_01, Classical.not_not, Nat.zero_le, List.getElem?_cons_zero, List.getElem?_cons_succ, List.set_cons_zero, List.set_cons_succ, ix_nl, ix_cs, true_and, and_true, Option.toList_some, Option.toList_none, List.cons_append, List.nil_append]
  exact l_X10_bestOf h1 h3 h5 h6 h7 h8 _ rfl hQ C 0 μ none (by omega) Fx.rf
theorem k_X10_bestOf (l : Launch) : ix_Ct l yX10_bestOf cX10_bestOf 9 (some .int) 7 sh_X10_bestOf T_X10_bestOf := ix_ct (a_X10_bestOf l) rfl (by decide) (fun _ => Nat.le_of_ble_eq_true rfl) (fun x μ Q hok hT => r_X10_bestOf x.1 x.2.1 x.2.2.1 x.2.2.2.1 x.2.2.2.2 μ Q (ix_ok_at (hok (vr 9 x.1) (by simp [sh_X10_bestOf])) (by decide) (by decide)) hT)
/-- the best row of ways: (HAD, row) -/
def rtL (f : Nat → Int32 × Int32 → Int32 × Int32) (n : Nat) (be : Int32 × Int32) : Int32 × Int32 := match n with
  | 0 => be
  | n + 1 => f n (rtL f n be)
def rtF (ds dl : List Int32) (b : Int32) (d : Nat) (row : Int32) (v : WV) (be : Int32 × Int32) : Int32 × Int32 := match d with
  | 0 => if be.1 < pH v then (pH v, row) else be
  | d + 1 => rtL (fun k be => rtF ds dl b d (10 * row + nI k) (pV ds dl b (nI k) v) be) 5 be
def wR (g : Nat) : List Nat := (List.range (40 - 8 * g)).map (fun i => 48 + 8 * g + i)
theorem wR_in {g a : Nat} : a ∈ wR g ↔ 48 + 8 * g ≤ a ∧ a < 88 := by
  unfold wR
  rw [List.mem_map]
  refine ⟨fun ⟨i, hi, e⟩ => ?_, fun h => ⟨a - (48 + 8 * g), List.mem_range.mpr (by omega), by omega⟩⟩
  have := List.mem_range.mp hi
  omega
def wQ (g : Nat) : List Nat := 0 :: 14 :: 18 :: wR (g + 1)
theorem wQ_in {g a : Nat} : a ∈ wQ g ↔ a = 0 ∨ a = 14 ∨ a = 18 ∨ (48 + 8 * (g + 1) ≤ a ∧ a < 88) := by
  unfold wQ
  rw [List.mem_cons, List.mem_cons, List.mem_cons, wR_in]
def T_X10_tryRoutes (d : Nat) : Nat × Int32 × Int32 × Int32 × Int32 → ix_M → (ix_R → Prop) → Prop := fun (o, b, n, g, row) μ Q => o = 0 ∧ ∃ (M N G : Nat) (ds dl : List Int32), n = nI N ∧ g = nI G ∧ N = G + d ∧ N ≤ 4 ∧ WAt (wv μ (48 + 8 * G)) M ∧ M + d < 30000 ∧ LW μ ds dl ∧ ∀ μ', Fx (wQ G) μ μ' → (μ' 0 9, μ' 0 10) = rtF ds dl b d row (wv μ (48 + 8 * G)) (μ 0 9, μ 0 10) → (∀ j, j ≠ 9 → j ≠ 10 → μ' 0 j = μ 0 j) → Q (none, μ')
theorem mo_X10_tryRoutes (d : Nat) : ∀ (x : Nat × Int32 × Int32 × Int32 × Int32) (μ : ix_M) (Q Q' : ix_R → Prop), (∀ r, Q r → Q' r) → T_X10_tryRoutes d x μ Q → T_X10_tryRoutes d x μ Q' := by
  rintro ⟨o, b, n, g, row⟩ μ Q Q' h ⟨h0, M, N, G, ds, dl, h1, h2, h3, h4, h5, h6, h7, h8⟩
  exact ⟨h0, M, N, G, ds, dl, h1, h2, h3, h4, h5, h6, h7, fun μ' a b c => h _ (h8 μ' a b c)⟩
def sh_X10_tryRoutes (x : Nat × Int32 × Int32 × Int32 × Int32) : List ix_V := [vr 9 x.1, vi x.2.1, vi x.2.2.1, vi x.2.2.2.1, vi x.2.2.2.2]
def ocr_X10_tryRoutes (T : Nat × Int32 × Int32 × Int32 × Int32 → ix_M → (ix_R → Prop) → Prop) (n : Nat) : ix_Op := fun k _ ls st μ => match st with
  | .inl a4 :: .inl a3 :: .inl a2 :: .inl a1 :: .inr (.inr (t0, a0)) :: r => t0 = 9 ∧ ix_cs r ≤ 8 ∧ T (a0, a1, a2, a3, a4) μ (fun q => k (n, ls, q.1.toList ++ r, q.2))
  | _ => False
theorem ocr_X10_tryRoutes_s {T : Nat × Int32 × Int32 × Int32 × Int32 → ix_M → (ix_R → Prop) → Prop} (hm : ∀ x μ Q Q', (∀ r, Q r → Q' r) → T x μ Q → T x μ Q') {l : Launch} {cc : ByteArray} {nL : Nat} {own : String} {d : Nat} {rt : Option FieldType} {pc n : Nat} (h : ix_S l cc nL own d rt pc (ix_call 5 sh_X10_tryRoutes T n)) : ix_S l cc nL own d rt pc (ocr_X10_tryRoutes T n) := by
  refine h.by (fun k Q ls st μ h => ?_) (fun k k' Q ls st μ hk h => ?_)
  · unfold ocr_X10_tryRoutes at h
    split at h
    · rename_i a4 a3 a2 a1 t0 a0 r
      obtain ⟨rfl, h1, h2⟩ := h
      exact ⟨h1, (a0, a1, a2, a3, a4), rfl, _, h2, fun r h => h⟩
    · exact h.elim
  · unfold ocr_X10_tryRoutes at h ⊢
    split at h
    · obtain ⟨rfl, h1, h2⟩ := h
      exact ⟨rfl, h1, hm _ _ _ _ (fun q hq => hk _ hq) h2⟩
    · exact h.elim
def o_X10_tryRoutes (TX10_tryRoutes : Nat × Int32 × Int32 × Int32 × Int32 → ix_M → (ix_R → Prop) → Prop) : List (Nat × ix_Op) := [
  (0, ix_iload 3 1),
  (1, ix_iload 2 2),
  (2, ix_cmp (fun x y => y ≤ x) 10 5),
  (5, ix_iload 3 6),
  (6, ix_push (vi 4) 7),
  (7, ix_cmp (fun x y => x < y) 43 10),
  (10, ix_aload 0 11),
  (11, ix_getr 9 21 (fun _ => 47) 14),
  (14, ix_iload 3 15),
  (15, ix_aald 21 47 5 8 (fun i => 48 + 8 * i) 16),
  (16, oc_X9_had 19),
  (19, ix_istore 5 21),
  (21, ix_iload 5 23),
  (23, ix_aload 0 24),
  (24, ix_geti 9 9 27),
  (27, ix_cmp (fun x y => x ≤ y) 42 30),
  (30, ix_aload 0 31),
  (31, ix_iload 5 33),
  (33, ix_puti 9 9 36),
  (36, ix_aload 0 37),
  (37, ix_iload 4 39),
  (39, ix_puti 9 10 42),
  (42, ix_vret),
  (43, ix_push (vi 0) 44),
  (44, ix_istore 5 46),
  (46, ix_iload 5 48),
  (48, ix_push (vi 5) 49),
  (49, ix_cmp (fun x y => y ≤ x) 113 52),
  (52, ix_aload 0 53),
  (53, ix_getr 9 21 (fun _ => 47) 56),
  (56, ix_iload 3 57),
  (57, ix_push (vi 1) 58),
  (58, ix_bin (fun x y => x + y) 59),
  (59, ix_aald 21 47 5 8 (fun i => 48 + 8 * i) 60),
  (60, ix_aload 0 61),
  (61, ix_getr 9 21 (fun _ => 47) 64),
  (64, ix_iload 3 65),
  (65, ix_aald 21 47 5 8 (fun i => 48 + 8 * i) 66),
  (66, oc_X9_copyFrom 69),
  (69, ix_aload 0 70),
  (70, ix_getr 9 21 (fun _ => 47) 73),
  (73, ix_iload 3 74),
  (74, ix_push (vi 1) 75),
  (75, ix_bin (fun x y => x + y) 76),
  (76, ix_aald 21 47 5 8 (fun i => 48 + 8 * i) 77),
  (77, ix_aload 0 78),
  (78, ix_getr 9 5 (fun _ => 1) 81),
  (81, ix_getr 5 0 (fun k => k + 9) 84),
  (84, ix_iload 1 85),
  (85, ix_iload 5 87),
  (87, oc_X9_pass 90),
  (90, ix_aload 0 91),
  (91, ix_iload 1 92),
  (92, ix_iload 2 93),
  (93, ix_iload 3 94),
  (94, ix_push (vi 1) 95),
  (95, ix_bin (fun x y => x + y) 96),
  (96, ix_push (vi 10) 98),
  (98, ix_iload 4 100),
  (100, ix_bin (fun x y => x * y) 101),
  (101, ix_iload 5 103),
  (103, ix_bin (fun x y => x + y) 104),
  (104, ocr_X10_tryRoutes TX10_tryRoutes 107),
  (107, ix_iinc 5 1 110),
  (110, ix_goto 46),
  (113, ix_vret)]
set_option maxRecDepth 20000 in
theorem a_X10_tryRoutes (l : Launch) (d : Nat) (hlev : 6 ≤ d) {TX10_tryRoutes : Nat × Int32 × Int32 × Int32 × Int32 → ix_M → (ix_R → Prop) → Prop} {d_X10_tryRoutes : Nat} (h_X10_tryRoutes : ix_Ct l yX10_tryRoutes cX10_tryRoutes 6 none d_X10_tryRoutes sh_X10_tryRoutes TX10_tryRoutes) (hl_X10_tryRoutes : d_X10_tryRoutes < d) (hm_X10_tryRoutes : ∀ x μ Q Q', (∀ r, Q r → Q' r) → TX10_tryRoutes x μ Q → TX10_tryRoutes x μ Q') : ix_AllS l cX10_tryRoutes 6 RX10 d none (o_X10_tryRoutes TX10_tryRoutes) :=
  .cons (ix_s_iload_n dX10_tryRoutes_0 rfl) <|
  .cons (ix_s_iload_n dX10_tryRoutes_1 rfl) <|
  .cons (ix_s_cmp_ge dX10_tryRoutes_2 (by decide)) <|
  .cons (ix_s_iload_n dX10_tryRoutes_5 rfl) <|
  .cons (ix_s_iconst dX10_tryRoutes_6 (by decide +kernel)) <|
  .cons (ix_s_cmp_lt dX10_tryRoutes_7 (by decide)) <|
  .cons (ix_s_aload_n dX10_tryRoutes_10 rfl) <|
  .cons (ix_s_getr (j := 3) tu_X10 rfl (by decide) (by decide) tw_254 rfl ts_9_3_r dX10_tryRoutes_11) <|
  .cons (ix_s_iload_n dX10_tryRoutes_14 rfl) <|
  .cons (ix_s_aald (E0 := ix_tys) (by decide) (by decide +kernel) (fun _ => rfl) (by decide +kernel) dX10_tryRoutes_15) <|
  .cons (oc_X9_had_s (ix_s_callv (t := 8) (k_X9_had l) (by omega) (by decide) tw_617 tw_3 tw_614 tw_615 tw_616 ⟨by decide, by decide, by decide +kernel⟩ (by decide) rfl rfl (fun _ => ⟨_, _, rfl, rfl⟩) dX10_tryRoutes_16)) <|
  .cons (ix_s_istore dX10_tryRoutes_19 (by decide)) <|
  .cons (ix_s_iload dX10_tryRoutes_21) <|
  .cons (ix_s_aload_n dX10_tryRoutes_23 rfl) <|
  .cons (ix_s_geti (j := 9) tu_X10 rfl (by decide) (by decide) tw_260 rfl ts_9_9_i dX10_tryRoutes_24) <|
  .cons (ix_s_cmp_le dX10_tryRoutes_27 (by decide)) <|
  .cons (ix_s_aload_n dX10_tryRoutes_30 rfl) <|
  .cons (ix_s_iload dX10_tryRoutes_31) <|
  .cons (ix_s_puti (j := 9) tu_X10 tyX10_ok nmX10 rfl (by decide) (by decide) tw_260 rfl rfl (by decide +kernel) ts_9_9_p dX10_tryRoutes_33) <|
  .cons (ix_s_aload_n dX10_tryRoutes_36 rfl) <|
  .cons (ix_s_iload dX10_tryRoutes_37) <|
  .cons (ix_s_puti (j := 10) tu_X10 tyX10_ok nmX10 rfl (by decide) (by decide) tw_261 rfl rfl (by decide +kernel) ts_9_10_p dX10_tryRoutes_39) <|
  .cons (ix_s_vret dX10_tryRoutes_42 rfl) <|
  .cons (ix_s_iconst dX10_tryRoutes_43 (by decide +kernel)) <|
  .cons (ix_s_istore dX10_tryRoutes_44 (by decide)) <|
  .cons (ix_s_iload dX10_tryRoutes_46) <|
  .cons (ix_s_iconst dX10_tryRoutes_48 (by decide +kernel)) <|
  .cons (ix_s_cmp_ge dX10_tryRoutes_49 (by decide)) <|
  .cons (ix_s_aload_n dX10_tryRoutes_52 rfl) <|
  .cons (ix_s_getr (j := 3) tu_X10 rfl (by decide) (by decide) tw_254 rfl ts_9_3_r dX10_tryRoutes_53) <|
  .cons (ix_s_iload_n dX10_tryRoutes_56 rfl) <|
  .cons (ix_s_iconst dX10_tryRoutes_57 (by decide +kernel)) <|
  .cons (ix_s_iadd dX10_tryRoutes_58) <|
  .cons (ix_s_aald (E0 := ix_tys) (by decide) (by decide +kernel) (fun _ => rfl) (by decide +kernel) dX10_tryRoutes_59) <|
  .cons (ix_s_aload_n dX10_tryRoutes_60 rfl) <|
  .cons (ix_s_getr (j := 3) tu_X10 rfl (by decide) (by decide) tw_254 rfl ts_9_3_r dX10_tryRoutes_61) <|
  .cons (ix_s_iload_n dX10_tryRoutes_64 rfl) <|
  .cons (ix_s_aald (E0 := ix_tys) (by decide) (by decide +kernel) (fun _ => rfl) (by decide +kernel) dX10_tryRoutes_65) <|
  .cons (oc_X9_copyFrom_s (ix_s_callv (t := 8) (k_X9_copyFrom l) (by omega) (by decide) tw_642 tw_3 tw_639 tw_640 tw_641 ⟨by decide, by decide, by decide +kernel⟩ (by decide) rfl rfl (fun _ => ⟨_, _, rfl, rfl⟩) dX10_tryRoutes_66)) <|
  .cons (ix_s_aload_n dX10_tryRoutes_69 rfl) <|
  .cons (ix_s_getr (j := 3) tu_X10 rfl (by decide) (by decide) tw_254 rfl ts_9_3_r dX10_tryRoutes_70) <|
  .cons (ix_s_iload_n dX10_tryRoutes_73 rfl) <|
  .cons (ix_s_iconst dX10_tryRoutes_74 (by decide +kernel)) <|
  .cons (ix_s_iadd dX10_tryRoutes_75) <|
  .cons (ix_s_aald (E0 := ix_tys) (by decide) (by decide +kernel) (fun _ => rfl) (by decide +kernel) dX10_tryRoutes_76) <|
  .cons (ix_s_aload_n dX10_tryRoutes_77 rfl) <|
  .cons (ix_s_getr (j := 0) tu_X10 rfl (by decide) (by decide) tw_251 rfl ts_9_0_r dX10_tryRoutes_78) <|
  .cons (ix_s_getr (j := 1) tu_X6 rfl (by decide) (by decide) tw_140 rfl ts_5_1_r dX10_tryRoutes_81) <|
  .cons (ix_s_iload_n dX10_tryRoutes_84 rfl) <|
  .cons (ix_s_iload dX10_tryRoutes_85) <|
  .cons (oc_X9_pass_s (ix_s_callv (t := 8) (k_X9_pass l) (by omega) (by decide) tw_599 tw_3 tw_596 tw_597 tw_598 ⟨by decide, by decide, by decide +kernel⟩ (by decide) rfl rfl (fun _ => ⟨_, _, rfl, rfl⟩) dX10_tryRoutes_87)) <|
  .cons (ix_s_aload_n dX10_tryRoutes_90 rfl) <|
  .cons (ix_s_iload_n dX10_tryRoutes_91 rfl) <|
  .cons (ix_s_iload_n dX10_tryRoutes_92 rfl) <|
  .cons (ix_s_iload_n dX10_tryRoutes_93 rfl) <|
  .cons (ix_s_iconst dX10_tryRoutes_94 (by decide +kernel)) <|
  .cons (ix_s_iadd dX10_tryRoutes_95) <|
  .cons (ix_s_bipush dX10_tryRoutes_96 (by decide +kernel)) <|
  .cons (ix_s_iload dX10_tryRoutes_98) <|
  .cons (ix_s_imul dX10_tryRoutes_100) <|
  .cons (ix_s_iload dX10_tryRoutes_101) <|
  .cons (ix_s_iadd dX10_tryRoutes_103) <|
  .cons (ocr_X10_tryRoutes_s hm_X10_tryRoutes (ix_s_callv (t := 9) h_X10_tryRoutes hl_X10_tryRoutes (by decide) tw_683 tw_1 tw_680 tw_682 tp_11 ⟨by decide, by decide, by decide +kernel⟩ (by decide) rfl rfl (fun _ => ⟨_, _, rfl, rfl⟩) dX10_tryRoutes_104)) <|
  .cons (ix_s_iinc dX10_tryRoutes_107 (by decide +kernel) (by decide)) <|
  .cons (ix_s_goto dX10_tryRoutes_110 (by decide)) <|
  .cons (ix_s_vret dX10_tryRoutes_113 rfl) <| .nil
theorem e_X10_tryRoutes_0 {TX10_tryRoutes : Nat × Int32 × Int32 × Int32 × Int32 → ix_M → (ix_R → Prop) → Prop} {l : Launch} {d : Nat} (H : ix_AllS l cX10_tryRoutes 6 RX10 d none (o_X10_tryRoutes TX10_tryRoutes)) (Q : ix_R → Prop) (ls : ix_L) (st : List ix_V) (μ : ix_M) : ix_Ev (o_X10_tryRoutes TX10_tryRoutes) Q (0, ls, st, μ) = ix_iload 3 1 (ix_Ev (o_X10_tryRoutes TX10_tryRoutes) Q) Q ls st μ := ix_Ev.eq H rfl ls st μ
theorem e_X10_tryRoutes_1 {TX10_tryRoutes : Nat × Int32 × Int32 × Int32 × Int32 → ix_M → (ix_R → Prop) → Prop} {l : Launch} {d : Nat} (H : ix_AllS l cX10_tryRoutes 6 RX10 d none (o_X10_tryRoutes TX10_tryRoutes)) (Q : ix_R → Prop) (ls : ix_L) (st : List ix_V) (μ : ix_M) : ix_Ev (o_X10_tryRoutes TX10_tryRoutes) Q (1, ls, st, μ) = ix_iload 2 2 (ix_Ev (o_X10_tryRoutes TX10_tryRoutes) Q) Q ls st μ := ix_Ev.eq H rfl ls st μ
theorem e_X10_tryRoutes_2 {TX10_tryRoutes : Nat × Int32 × Int32 × Int32 × Int32 → ix_M → (ix_R → Prop) → Prop} {l : Launch} {d : Nat} (H : ix_AllS l cX10_tryRoutes 6 RX10 d none (o_X10_tryRoutes TX10_tryRoutes)) (Q : ix_R → Prop) (ls : ix_L) (st : List ix_V) (μ : ix_M) : ix_Ev (o_X10_tryRoutes TX10_tryRoutes) Q (2, ls, st, μ) = ix_cmp (fun x y => y ≤ x) 10 5 (ix_Ev (o_X10_tryRoutes TX10_tryRoutes) Q) Q ls st μ := ix_Ev.eq H rfl ls st μ
theorem e_X10_tryRoutes_5 {TX10_tryRoutes : Nat × Int32 × Int32 × Int32 × Int32 → ix_M → (ix_R → Prop) → Prop} {l : Launch} {d : Nat} (H : ix_AllS l cX10_tryRoutes 6 RX10 d none (o_X10_tryRoutes TX10_tryRoutes)) (Q : ix_R → Prop) (ls : ix_L) (st : List ix_V) (μ : ix_M) : ix_Ev (o_X10_tryRoutes TX10_tryRoutes) Q (5, ls, st, μ) = ix_iload 3 6 (ix_Ev (o_X10_tryRoutes TX10_tryRoutes) Q) Q ls st μ := ix_Ev.eq H rfl ls st μ
theorem e_X10_tryRoutes_6 {TX10_tryRoutes : Nat × Int32 × Int32 × Int32 × Int32 → ix_M → (ix_R → Prop) → Prop} {l : Launch} {d : Nat} (H : ix_AllS l cX10_tryRoutes 6 RX10 d none (o_X10_tryRoutes TX10_tryRoutes)) (Q : ix_R → Prop) (ls : ix_L) (st : List ix_V) (μ : ix_M) : ix_Ev (o_X10_tryRoutes TX10_tryRoutes) Q (6, ls, st, μ) = ix_push (vi 4) 7 (ix_Ev (o_X10_tryRoutes TX10_tryRoutes) Q) Q ls st μ := ix_Ev.eq H rfl ls st μ
theorem e_X10_tryRoutes_7 {TX10_tryRoutes : Nat × Int32 × Int32 × Int32 × Int32 → ix_M → (ix_R → Prop) → Prop} {l : Launch} {d : Nat} (H : ix_AllS l cX10_tryRoutes 6 RX10 d none (o_X10_tryRoutes TX10_tryRoutes)) (Q : ix_R → Prop) (ls : ix_L) (st : List ix_V) (μ : ix_M) : ix_Ev (o_X10_tryRoutes TX10_tryRoutes) Q (7, ls, st, μ) = ix_cmp (fun x y => x < y) 43 10 (ix_Ev (o_X10_tryRoutes TX10_tryRoutes) Q) Q ls st μ := ix_Ev.eq H rfl ls st μ
theorem e_X10_tryRoutes_10 {TX10_tryRoutes : Nat × Int32 × Int32 × Int32 × Int32 → ix_M → (ix_R → Prop) → Prop} {l : Launch} {d : Nat} (H : ix_AllS l cX10_tryRoutes 6 RX10 d none (o_X10_tryRoutes TX10_tryRoutes)) (Q : ix_R → Prop) (ls : ix_L) (st : List ix_V) (μ : ix_M) : ix_Ev (o_X10_tryRoutes TX10_tryRoutes) Q (10, ls, st, μ) = ix_aload 0 11 (ix_Ev (o_X10_tryRoutes TX10_tryRoutes) Q) Q ls st μ := ix_Ev.eq H rfl ls st μ
theorem e_X10_tryRoutes_11 {TX10_tryRoutes : Nat × Int32 × Int32 × Int32 × Int32 → ix_M → (ix_R → Prop) → Prop} {l : Launch} {d : Nat} (H : ix_AllS l cX10_tryRoutes 6 RX10 d none (o_X10_tryRoutes TX10_tryRoutes)) (Q : ix_R → Prop) (ls : ix_L) (st : List ix_V) (μ : ix_M) : ix_Ev (o_X10_tryRoutes TX10_tryRoutes) Q (11, ls, st, μ) = ix_getr 9 21 (fun _ => 47) 14 (ix_Ev (o_X10_tryRoutes TX10_tryRoutes) Q) Q ls st μ := ix_Ev.eq H rfl ls st μ
theorem e_X10_tryRoutes_14 {TX10_tryRoutes : Nat × Int32 × Int32 × Int32 × Int32 → ix_M → (ix_R → Prop) → Prop} {l : Launch} {d : Nat} (H : ix_AllS l cX10_tryRoutes 6 RX10 d none (o_X10_tryRoutes TX10_tryRoutes)) (Q : ix_R → Prop) (ls : ix_L) (st : List ix_V) (μ : ix_M) : ix_Ev (o_X10_tryRoutes TX10_tryRoutes) Q (14, ls, st, μ) = ix_iload 3 15 (ix_Ev (o_X10_tryRoutes TX10_tryRoutes) Q) Q ls st μ := ix_Ev.eq H rfl ls st μ
theorem e_X10_tryRoutes_15 {TX10_tryRoutes : Nat × Int32 × Int32 × Int32 × Int32 → ix_M → (ix_R → Prop) → Prop} {l : Launch} {d : Nat} (H : ix_AllS l cX10_tryRoutes 6 RX10 d none (o_X10_tryRoutes TX10_tryRoutes)) (Q : ix_R → Prop) (ls : ix_L) (st : List ix_V) (μ : ix_M) : ix_Ev (o_X10_tryRoutes TX10_tryRoutes) Q (15, ls, st, μ) = ix_aald 21 47 5 8 (fun i => 48 + 8 * i) 16 (ix_Ev (o_X10_tryRoutes TX10_tryRoutes) Q) Q ls st μ := ix_Ev.eq H rfl ls st μ
theorem e_X10_tryRoutes_16 {TX10_tryRoutes : Nat × Int32 × Int32 × Int32 × Int32 → ix_M → (ix_R → Prop) → Prop} {l : Launch} {d : Nat} (H : ix_AllS l cX10_tryRoutes 6 RX10 d none (o_X10_tryRoutes TX10_tryRoutes)) (Q : ix_R → Prop) (ls : ix_L) (st : List ix_V) (μ : ix_M) : ix_Ev (o_X10_tryRoutes TX10_tryRoutes) Q (16, ls, st, μ) = oc_X9_had 19 (ix_Ev (o_X10_tryRoutes TX10_tryRoutes) Q) Q ls st μ := ix_Ev.eq H rfl ls st μ
theorem e_X10_tryRoutes_19 {TX10_tryRoutes : Nat × Int32 × Int32 × Int32 × Int32 → ix_M → (ix_R → Prop) → Prop} {l : Launch} {d : Nat} (H : ix_AllS l cX10_tryRoutes 6 RX10 d none (o_X10_tryRoutes TX10_tryRoutes)) (Q : ix_R → Prop) (ls : ix_L) (st : List ix_V) (μ : ix_M) : ix_Ev (o_X10_tryRoutes TX10_tryRoutes) Q (19, ls, st, μ) = ix_istore 5 21 (ix_Ev (o_X10_tryRoutes TX10_tryRoutes) Q) Q ls st μ := ix_Ev.eq H rfl ls st μ
theorem e_X10_tryRoutes_21 {TX10_tryRoutes : Nat × Int32 × Int32 × Int32 × Int32 → ix_M → (ix_R → Prop) → Prop} {l : Launch} {d : Nat} (H : ix_AllS l cX10_tryRoutes 6 RX10 d none (o_X10_tryRoutes TX10_tryRoutes)) (Q : ix_R → Prop) (ls : ix_L) (st : List ix_V) (μ : ix_M) : ix_Ev (o_X10_tryRoutes TX10_tryRoutes) Q (21, ls, st, μ) = ix_iload 5 23 (ix_Ev (o_X10_tryRoutes TX10_tryRoutes) Q) Q ls st μ := ix_Ev.eq H rfl ls st μ
theorem e_X10_tryRoutes_23 {TX10_tryRoutes : Nat × Int32 × Int32 × Int32 × Int32 → ix_M → (ix_R → Prop) → Prop} {l : Launch} {d : Nat} (H : ix_AllS l cX10_tryRoutes 6 RX10 d none (o_X10_tryRoutes TX10_tryRoutes)) (Q : ix_R → Prop) (ls : ix_L) (st : List ix_V) (μ : ix_M) : ix_Ev (o_X10_tryRoutes TX10_tryRoutes) Q (23, ls, st, μ) = ix_aload 0 24 (ix_Ev (o_X10_tryRoutes TX10_tryRoutes) Q) Q ls st μ := ix_Ev.eq H rfl ls st μ
theorem e_X10_tryRoutes_24 {TX10_tryRoutes : Nat × Int32 × Int32 × Int32 × Int32 → ix_M → (ix_R → Prop) → Prop} {l : Launch} {d : Nat} (H : ix_AllS l cX10_tryRoutes 6 RX10 d none (o_X10_tryRoutes TX10_tryRoutes)) (Q : ix_R → Prop) (ls : ix_L) (st : List ix_V) (μ : ix_M) : ix_Ev (o_X10_tryRoutes TX10_tryRoutes) Q (24, ls, st, μ) = ix_geti 9 9 27 (ix_Ev (o_X10_tryRoutes TX10_tryRoutes) Q) Q ls st μ := ix_Ev.eq H rfl ls st μ
theorem e_X10_tryRoutes_27 {TX10_tryRoutes : Nat × Int32 × Int32 × Int32 × Int32 → ix_M → (ix_R → Prop) → Prop} {l : Launch} {d : Nat} (H : ix_AllS l cX10_tryRoutes 6 RX10 d none (o_X10_tryRoutes TX10_tryRoutes)) (Q : ix_R → Prop) (ls : ix_L) (st : List ix_V) (μ : ix_M) : ix_Ev (o_X10_tryRoutes TX10_tryRoutes) Q (27, ls, st, μ) = ix_cmp (fun x y => x ≤ y) 42 30 (ix_Ev (o_X10_tryRoutes TX10_tryRoutes) Q) Q ls st μ := ix_Ev.eq H rfl ls st μ
theorem e_X10_tryRoutes_30 {TX10_tryRoutes : Nat × Int32 × Int32 × Int32 × Int32 → ix_M → (ix_R → Prop) → Prop} {l : Launch} {d : Nat} (H : ix_AllS l cX10_tryRoutes 6 RX10 d none (o_X10_tryRoutes TX10_tryRoutes)) (Q : ix_R → Prop) (ls : ix_L) (st : List ix_V) (μ : ix_M) : ix_Ev (o_X10_tryRoutes TX10_tryRoutes) Q (30, ls, st, μ) = ix_aload 0 31 (ix_Ev (o_X10_tryRoutes TX10_tryRoutes) Q) Q ls st μ := ix_Ev.eq H rfl ls st μ
theorem e_X10_tryRoutes_31 {TX10_tryRoutes : Nat × Int32 × Int32 × Int32 × Int32 → ix_M → (ix_R → Prop) → Prop} {l : Launch} {d : Nat} (H : ix_AllS l cX10_tryRoutes 6 RX10 d none (o_X10_tryRoutes TX10_tryRoutes)) (Q : ix_R → Prop) (ls : ix_L) (st : List ix_V) (μ : ix_M) : ix_Ev (o_X10_tryRoutes TX10_tryRoutes) Q (31, ls, st, μ) = ix_iload 5 33 (ix_Ev (o_X10_tryRoutes TX10_tryRoutes) Q) Q ls st μ := ix_Ev.eq H rfl ls st μ
theorem e_X10_tryRoutes_33 {TX10_tryRoutes : Nat × Int32 × Int32 × Int32 × Int32 → ix_M → (ix_R → Prop) → Prop} {l : Launch} {d : Nat} (H : ix_AllS l cX10_tryRoutes 6 RX10 d none (o_X10_tryRoutes TX10_tryRoutes)) (Q : ix_R → Prop) (ls : ix_L) (st : List ix_V) (μ : ix_M) : ix_Ev (o_X10_tryRoutes TX10_tryRoutes) Q (33, ls, st, μ) = ix_puti 9 9 36 (ix_Ev (o_X10_tryRoutes TX10_tryRoutes) Q) Q ls st μ := ix_Ev.eq H rfl ls st μ
theorem e_X10_tryRoutes_36 {TX10_tryRoutes : Nat × Int32 × Int32 × Int32 × Int32 → ix_M → (ix_R → Prop) → Prop} {l : Launch} {d : Nat} (H : ix_AllS l cX10_tryRoutes 6 RX10 d none (o_X10_tryRoutes TX10_tryRoutes)) (Q : ix_R → Prop) (ls : ix_L) (st : List ix_V) (μ : ix_M) : ix_Ev (o_X10_tryRoutes TX10_tryRoutes) Q (36, ls, st, μ) = ix_aload 0 37 (ix_Ev (o_X10_tryRoutes TX10_tryRoutes) Q) Q ls st μ := ix_Ev.eq H rfl ls st μ
theorem e_X10_tryRoutes_37 {TX10_tryRoutes : Nat × Int32 × Int32 × Int32 × Int32 → ix_M → (ix_R → Prop) → Prop} {l : Launch} {d : Nat} (H : ix_AllS l cX10_tryRoutes 6 RX10 d none (o_X10_tryRoutes TX10_tryRoutes)) (Q : ix_R → Prop) (ls : ix_L) (st : List ix_V) (μ : ix_M) : ix_Ev (o_X10_tryRoutes TX10_tryRoutes) Q (37, ls, st, μ) = ix_iload 4 39 (ix_Ev (o_X10_tryRoutes TX10_tryRoutes) Q) Q ls st μ := ix_Ev.eq H rfl ls st μ
theorem e_X10_tryRoutes_39 {TX10_tryRoutes : Nat × Int32 × Int32 × Int32 × Int32 → ix_M → (ix_R → Prop) → Prop} {l : Launch} {d : Nat} (H : ix_AllS l cX10_tryRoutes 6 RX10 d none (o_X10_tryRoutes TX10_tryRoutes)) (Q : ix_R → Prop) (ls : ix_L) (st : List ix_V) (μ : ix_M) : ix_Ev (o_X10_tryRoutes TX10_tryRoutes) Q (39, ls, st, μ) = ix_puti 9 10 42 (ix_Ev (o_X10_tryRoutes TX10_tryRoutes) Q) Q ls st μ := ix_Ev.eq H rfl ls st μ
theorem e_X10_tryRoutes_42 {TX10_tryRoutes : Nat × Int32 × Int32 × Int32 × Int32 → ix_M → (ix_R → Prop) → Prop} {l : Launch} {d : Nat} (H : ix_AllS l cX10_tryRoutes 6 RX10 d none (o_X10_tryRoutes TX10_tryRoutes)) (Q : ix_R → Prop) (ls : ix_L) (st : List ix_V) (μ : ix_M) : ix_Ev (o_X10_tryRoutes TX10_tryRoutes) Q (42, ls, st, μ) = ix_vret (ix_Ev (o_X10_tryRoutes TX10_tryRoutes) Q) Q ls st μ := ix_Ev.eq H rfl ls st μ
theorem e_X10_tryRoutes_43 {TX10_tryRoutes : Nat × Int32 × Int32 × Int32 × Int32 → ix_M → (ix_R → Prop) → Prop} {l : Launch} {d : Nat} (H : ix_AllS l cX10_tryRoutes 6 RX10 d none (o_X10_tryRoutes TX10_tryRoutes)) (Q : ix_R → Prop) (ls : ix_L) (st : List ix_V) (μ : ix_M) : ix_Ev (o_X10_tryRoutes TX10_tryRoutes) Q (43, ls, st, μ) = ix_push (vi 0) 44 (ix_Ev (o_X10_tryRoutes TX10_tryRoutes) Q) Q ls st μ := ix_Ev.eq H rfl ls st μ
theorem e_X10_tryRoutes_44 {TX10_tryRoutes : Nat × Int32 × Int32 × Int32 × Int32 → ix_M → (ix_R → Prop) → Prop} {l : Launch} {d : Nat} (H : ix_AllS l cX10_tryRoutes 6 RX10 d none (o_X10_tryRoutes TX10_tryRoutes)) (Q : ix_R → Prop) (ls : ix_L) (st : List ix_V) (μ : ix_M) : ix_Ev (o_X10_tryRoutes TX10_tryRoutes) Q (44, ls, st, μ) = ix_istore 5 46 (ix_Ev (o_X10_tryRoutes TX10_tryRoutes) Q) Q ls st μ := ix_Ev.eq H rfl ls st μ
theorem e_X10_tryRoutes_46 {TX10_tryRoutes : Nat × Int32 × Int32 × Int32 × Int32 → ix_M → (ix_R → Prop) → Prop} {l : Launch} {d : Nat} (H : ix_AllS l cX10_tryRoutes 6 RX10 d none (o_X10_tryRoutes TX10_tryRoutes)) (Q : ix_R → Prop) (ls : ix_L) (st : List ix_V) (μ : ix_M) : ix_Ev (o_X10_tryRoutes TX10_tryRoutes) Q (46, ls, st, μ) = ix_iload 5 48 (ix_Ev (o_X10_tryRoutes TX10_tryRoutes) Q) Q ls st μ := ix_Ev.eq H rfl ls st μ
theorem e_X10_tryRoutes_48 {TX10_tryRoutes : Nat × Int32 × Int32 × Int32 × Int32 → ix_M → (ix_R → Prop) → Prop} {l : Launch} {d : Nat} (H : ix_AllS l cX10_tryRoutes 6 RX10 d none (o_X10_tryRoutes TX10_tryRoutes)) (Q : ix_R → Prop) (ls : ix_L) (st : List ix_V) (μ : ix_M) : ix_Ev (o_X10_tryRoutes TX10_tryRoutes) Q (48, ls, st, μ) = ix_push (vi 5) 49 (ix_Ev (o_X10_tryRoutes TX10_tryRoutes) Q) Q ls st μ := ix_Ev.eq H rfl ls st μ
theorem e_X10_tryRoutes_49 {TX10_tryRoutes : Nat × Int32 × Int32 × Int32 × Int32 → ix_M → (ix_R → Prop) → Prop} {l : Launch} {d : Nat} (H : ix_AllS l cX10_tryRoutes 6 RX10 d none (o_X10_tryRoutes TX10_tryRoutes)) (Q : ix_R → Prop) (ls : ix_L) (st : List ix_V) (μ : ix_M) : ix_Ev (o_X10_tryRoutes TX10_tryRoutes) Q (49, ls, st, μ) = ix_cmp (fun x y => y ≤ x) 113 52 (ix_Ev (o_X10_tryRoutes TX10_tryRoutes) Q) Q ls st μ := ix_Ev.eq H rfl ls st μ
theorem e_X10_tryRoutes_52 {TX10_tryRoutes : Nat × Int32 × Int32 × Int32 × Int32 → ix_M → (ix_R → Prop) → Prop} {l : Launch} {d : Nat} (H : ix_AllS l cX10_tryRoutes 6 RX10 d none (o_X10_tryRoutes TX10_tryRoutes)) (Q : ix_R → Prop) (ls : ix_L) (st : List ix_V) (μ : ix_M) : ix_Ev (o_X10_tryRoutes TX10_tryRoutes) Q (52, ls, st, μ) = ix_aload 0 53 (ix_Ev (o_X10_tryRoutes TX10_tryRoutes) Q) Q ls st μ := ix_Ev.eq H rfl ls st μ
theorem e_X10_tryRoutes_53 {TX10_tryRoutes : Nat × Int32 × Int32 × Int32 × Int32 → ix_M → (ix_R → Prop) → Prop} {l : Launch} {d : Nat} (H : ix_AllS l cX10_tryRoutes 6 RX10 d none (o_X10_tryRoutes TX10_tryRoutes)) (Q : ix_R → Prop) (ls : ix_L) (st : List ix_V) (μ : ix_M) : ix_Ev (o_X10_tryRoutes TX10_tryRoutes) Q (53, ls, st, μ) = ix_getr 9 21 (fun _ => 47) 56 (ix_Ev (o_X10_tryRoutes TX10_tryRoutes) Q) Q ls st μ := ix_Ev.eq H rfl ls st μ
theorem e_X10_tryRoutes_56 {TX10_tryRoutes : Nat × Int32 × Int32 × Int32 × Int32 → ix_M → (ix_R → Prop) → Prop} {l : Launch} {d : Nat} (H : ix_AllS l cX10_tryRoutes 6 RX10 d none (o_X10_tryRoutes TX10_tryRoutes)) (Q : ix_R → Prop) (ls : ix_L) (st : List ix_V) (μ : ix_M) : ix_Ev (o_X10_tryRoutes TX10_tryRoutes) Q (56, ls, st, μ) = ix_iload 3 57 (ix_Ev (o_X10_tryRoutes TX10_tryRoutes) Q) Q ls st μ := ix_Ev.eq H rfl ls st μ
theorem e_X10_tryRoutes_57 {TX10_tryRoutes : Nat × Int32 × Int32 × Int32 × Int32 → ix_M → (ix_R → Prop) → Prop} {l : Launch} {d : Nat} (H : ix_AllS l cX10_tryRoutes 6 RX10 d none (o_X10_tryRoutes TX10_tryRoutes)) (Q : ix_R → Prop) (ls : ix_L) (st : List ix_V) (μ : ix_M) : ix_Ev (o_X10_tryRoutes TX10_tryRoutes) Q (57, ls, st, μ) = ix_push (vi 1) 58 (ix_Ev (o_X10_tryRoutes TX10_tryRoutes) Q) Q ls st μ := ix_Ev.eq H rfl ls st μ
theorem e_X10_tryRoutes_58 {TX10_tryRoutes : Nat × Int32 × Int32 × Int32 × Int32 → ix_M → (ix_R → Prop) → Prop} {l : Launch} {d : Nat} (H : ix_AllS l cX10_tryRoutes 6 RX10 d none (o_X10_tryRoutes TX10_tryRoutes)) (Q : ix_R → Prop) (ls : ix_L) (st : List ix_V) (μ : ix_M) : ix_Ev (o_X10_tryRoutes TX10_tryRoutes) Q (58, ls, st, μ) = ix_bin (fun x y => x + y) 59 (ix_Ev (o_X10_tryRoutes TX10_tryRoutes) Q) Q ls st μ := ix_Ev.eq H rfl ls st μ
theorem e_X10_tryRoutes_59 {TX10_tryRoutes : Nat × Int32 × Int32 × Int32 × Int32 → ix_M → (ix_R → Prop) → Prop} {l : Launch} {d : Nat} (H : ix_AllS l cX10_tryRoutes 6 RX10 d none (o_X10_tryRoutes TX10_tryRoutes)) (Q : ix_R → Prop) (ls : ix_L) (st : List ix_V) (μ : ix_M) : ix_Ev (o_X10_tryRoutes TX10_tryRoutes) Q (59, ls, st, μ) = ix_aald 21 47 5 8 (fun i => 48 + 8 * i) 60 (ix_Ev (o_X10_tryRoutes TX10_tryRoutes) Q) Q ls st μ := ix_Ev.eq H rfl ls st μ
theorem e_X10_tryRoutes_60 {TX10_tryRoutes : Nat × Int32 × Int32 × Int32 × Int32 → ix_M → (ix_R → Prop) → Prop} {l : Launch} {d : Nat} (H : ix_AllS l cX10_tryRoutes 6 RX10 d none (o_X10_tryRoutes TX10_tryRoutes)) (Q : ix_R → Prop) (ls : ix_L) (st : List ix_V) (μ : ix_M) : ix_Ev (o_X10_tryRoutes TX10_tryRoutes) Q (60, ls, st, μ) = ix_aload 0 61 (ix_Ev (o_X10_tryRoutes TX10_tryRoutes) Q) Q ls st μ := ix_Ev.eq H rfl ls st μ
theorem e_X10_tryRoutes_61 {TX10_tryRoutes : Nat × Int32 × Int32 × Int32 × Int32 → ix_M → (ix_R → Prop) → Prop} {l : Launch} {d : Nat} (H : ix_AllS l cX10_tryRoutes 6 RX10 d none (o_X10_tryRoutes TX10_tryRoutes)) (Q : ix_R → Prop) (ls : ix_L) (st : List ix_V) (μ : ix_M) : ix_Ev (o_X10_tryRoutes TX10_tryRoutes) Q (61, ls, st, μ) = ix_getr 9 21 (fun _ => 47) 64 (ix_Ev (o_X10_tryRoutes TX10_tryRoutes) Q) Q ls st μ := ix_Ev.eq H rfl ls st μ
theorem e_X10_tryRoutes_64 {TX10_tryRoutes : Nat × Int32 × Int32 × Int32 × Int32 → ix_M → (ix_R → Prop) → Prop} {l : Launch} {d : Nat} (H : ix_AllS l cX10_tryRoutes 6 RX10 d none (o_X10_tryRoutes TX10_tryRoutes)) (Q : ix_R → Prop) (ls : ix_L) (st : List ix_V) (μ : ix_M) : ix_Ev (o_X10_tryRoutes TX10_tryRoutes) Q (64, ls, st, μ) = ix_iload 3 65 (ix_Ev (o_X10_tryRoutes TX10_tryRoutes) Q) Q ls st μ := ix_Ev.eq H rfl ls st μ
theorem e_X10_tryRoutes_65 {TX10_tryRoutes : Nat × Int32 × Int32 × Int32 × Int32 → ix_M → (ix_R → Prop) → Prop} {l : Launch} {d : Nat} (H : ix_AllS l cX10_tryRoutes 6 RX10 d none (o_X10_tryRoutes TX10_tryRoutes)) (Q : ix_R → Prop) (ls : ix_L) (st : List ix_V) (μ : ix_M) : ix_Ev (o_X10_tryRoutes TX10_tryRoutes) Q (65, ls, st, μ) = ix_aald 21 47 5 8 (fun i => 48 + 8 * i) 66 (ix_Ev (o_X10_tryRoutes TX10_tryRoutes) Q) Q ls st μ := ix_Ev.eq H rfl ls st μ
theorem e_X10_tryRoutes_66 {TX10_tryRoutes : Nat × Int32 × Int32 × Int32 × Int32 → ix_M → (ix_R → Prop) → Prop} {l : Launch} {d : Nat} (H : ix_AllS l cX10_tryRoutes 6 RX10 d none (o_X10_tryRoutes TX10_tryRoutes)) (Q : ix_R → Prop) (ls : ix_L) (st : List ix_V) (μ : ix_M) : ix_Ev (o_X10_tryRoutes TX10_tryRoutes) Q (66, ls, st, μ) = oc_X9_copyFrom 69 (ix_Ev (o_X10_tryRoutes TX10_tryRoutes) Q) Q ls st μ := ix_Ev.eq H rfl ls st μ
theorem e_X10_tryRoutes_69 {TX10_tryRoutes : Nat × Int32 × Int32 × Int32 × Int32 → ix_M → (ix_R → Prop) → Prop} {l : Launch} {d : Nat} (H : ix_AllS l cX10_tryRoutes 6 RX10 d none (o_X10_tryRoutes TX10_tryRoutes)) (Q : ix_R → Prop) (ls : ix_L) (st : List ix_V) (μ : ix_M) : ix_Ev (o_X10_tryRoutes TX10_tryRoutes) Q (69, ls, st, μ) = ix_aload 0 70 (ix_Ev (o_X10_tryRoutes TX10_tryRoutes) Q) Q ls st μ := ix_Ev.eq H rfl ls st μ
theorem e_X10_tryRoutes_70 {TX10_tryRoutes : Nat × Int32 × Int32 × Int32 × Int32 → ix_M → (ix_R → Prop) → Prop} {l : Launch} {d : Nat} (H : ix_AllS l cX10_tryRoutes 6 RX10 d none (o_X10_tryRoutes TX10_tryRoutes)) (Q : ix_R → Prop) (ls : ix_L) (st : List ix_V) (μ : ix_M) : ix_Ev (o_X10_tryRoutes TX10_tryRoutes) Q (70, ls, st, μ) = ix_getr 9 21 (fun _ => 47) 73 (ix_Ev (o_X10_tryRoutes TX10_tryRoutes) Q) Q ls st μ := ix_Ev.eq H rfl ls st μ
theorem e_X10_tryRoutes_73 {TX10_tryRoutes : Nat × Int32 × Int32 × Int32 × Int32 → ix_M → (ix_R → Prop) → Prop} {l : Launch} {d : Nat} (H : ix_AllS l cX10_tryRoutes 6 RX10 d none (o_X10_tryRoutes TX10_tryRoutes)) (Q : ix_R → Prop) (ls : ix_L) (st : List ix_V) (μ : ix_M) : ix_Ev (o_X10_tryRoutes TX10_tryRoutes) Q (73, ls, st, μ) = ix_iload 3 74 (ix_Ev (o_X10_tryRoutes TX10_tryRoutes) Q) Q ls st μ := ix_Ev.eq H rfl ls st μ
theorem e_X10_tryRoutes_74 {TX10_tryRoutes : Nat × Int32 × Int32 × Int32 × Int32 → ix_M → (ix_R → Prop) → Prop} {l : Launch} {d : Nat} (H : ix_AllS l cX10_tryRoutes 6 RX10 d none (o_X10_tryRoutes TX10_tryRoutes)) (Q : ix_R → Prop) (ls : ix_L) (st : List ix_V) (μ : ix_M) : ix_Ev (o_X10_tryRoutes TX10_tryRoutes) Q (74, ls, st, μ) = ix_push (vi 1) 75 (ix_Ev (o_X10_tryRoutes TX10_tryRoutes) Q) Q ls st μ := ix_Ev.eq H rfl ls st μ
theorem e_X10_tryRoutes_75 {TX10_tryRoutes : Nat × Int32 × Int32 × Int32 × Int32 → ix_M → (ix_R → Prop) → Prop} {l : Launch} {d : Nat} (H : ix_AllS l cX10_tryRoutes 6 RX10 d none (o_X10_tryRoutes TX10_tryRoutes)) (Q : ix_R → Prop) (ls : ix_L) (st : List ix_V) (μ : ix_M) : ix_Ev (o_X10_tryRoutes TX10_tryRoutes) Q (75, ls, st, μ) = ix_bin (fun x y => x + y) 76 (ix_Ev (o_X10_tryRoutes TX10_tryRoutes) Q) Q ls st μ := ix_Ev.eq H rfl ls st μ
theorem e_X10_tryRoutes_76 {TX10_tryRoutes : Nat × Int32 × Int32 × Int32 × Int32 → ix_M → (ix_R → Prop) → Prop} {l : Launch} {d : Nat} (H : ix_AllS l cX10_tryRoutes 6 RX10 d none (o_X10_tryRoutes TX10_tryRoutes)) (Q : ix_R → Prop) (ls : ix_L) (st : List ix_V) (μ : ix_M) : ix_Ev (o_X10_tryRoutes TX10_tryRoutes) Q (76, ls, st, μ) = ix_aald 21 47 5 8 (fun i => 48 + 8 * i) 77 (ix_Ev (o_X10_tryRoutes TX10_tryRoutes) Q) Q ls st μ := ix_Ev.eq H rfl ls st μ
theorem e_X10_tryRoutes_77 {TX10_tryRoutes : Nat × Int32 × Int32 × Int32 × Int32 → ix_M → (ix_R → Prop) → Prop} {l : Launch} {d : Nat} (H : ix_AllS l cX10_tryRoutes 6 RX10 d none (o_X10_tryRoutes TX10_tryRoutes)) (Q : ix_R → Prop) (ls : ix_L) (st : List ix_V) (μ : ix_M) : ix_Ev (o_X10_tryRoutes TX10_tryRoutes) Q (77, ls, st, μ) = ix_aload 0 78 (ix_Ev (o_X10_tryRoutes TX10_tryRoutes) Q) Q ls st μ := ix_Ev.eq H rfl ls st μ
theorem e_X10_tryRoutes_78 {TX10_tryRoutes : Nat × Int32 × Int32 × Int32 × Int32 → ix_M → (ix_R → Prop) → Prop} {l : Launch} {d : Nat} (H : ix_AllS l cX10_tryRoutes 6 RX10 d none (o_X10_tryRoutes TX10_tryRoutes)) (Q : ix_R → Prop) (ls : ix_L) (st : List ix_V) (μ : ix_M) : ix_Ev (o_X10_tryRoutes TX10_tryRoutes) Q (78, ls, st, μ) = ix_getr 9 5 (fun _ => 1) 81 (ix_Ev (o_X10_tryRoutes TX10_tryRoutes) Q) Q ls st μ := ix_Ev.eq H rfl ls st μ
theorem e_X10_tryRoutes_81 {TX10_tryRoutes : Nat × Int32 × Int32 × Int32 × Int32 → ix_M → (ix_R → Prop) → Prop} {l : Launch} {d : Nat} (H : ix_AllS l cX10_tryRoutes 6 RX10 d none (o_X10_tryRoutes TX10_tryRoutes)) (Q : ix_R → Prop) (ls : ix_L) (st : List ix_V) (μ : ix_M) : ix_Ev (o_X10_tryRoutes TX10_tryRoutes) Q (81, ls, st, μ) = ix_getr 5 0 (fun k => k + 9) 84 (ix_Ev (o_X10_tryRoutes TX10_tryRoutes) Q) Q ls st μ := ix_Ev.eq H rfl ls st μ
theorem e_X10_tryRoutes_84 {TX10_tryRoutes : Nat × Int32 × Int32 × Int32 × Int32 → ix_M → (ix_R → Prop) → Prop} {l : Launch} {d : Nat} (H : ix_AllS l cX10_tryRoutes 6 RX10 d none (o_X10_tryRoutes TX10_tryRoutes)) (Q : ix_R → Prop) (ls : ix_L) (st : List ix_V) (μ : ix_M) : ix_Ev (o_X10_tryRoutes TX10_tryRoutes) Q (84, ls, st, μ) = ix_iload 1 85 (ix_Ev (o_X10_tryRoutes TX10_tryRoutes) Q) Q ls st μ := ix_Ev.eq H rfl ls st μ
theorem e_X10_tryRoutes_85 {TX10_tryRoutes : Nat × Int32 × Int32 × Int32 × Int32 → ix_M → (ix_R → Prop) → Prop} {l : Launch} {d : Nat} (H : ix_AllS l cX10_tryRoutes 6 RX10 d none (o_X10_tryRoutes TX10_tryRoutes)) (Q : ix_R → Prop) (ls : ix_L) (st : List ix_V) (μ : ix_M) : ix_Ev (o_X10_tryRoutes TX10_tryRoutes) Q (85, ls, st, μ) = ix_iload 5 87 (ix_Ev (o_X10_tryRoutes TX10_tryRoutes) Q) Q ls st μ := ix_Ev.eq H rfl ls st μ
theorem e_X10_tryRoutes_87 {TX10_tryRoutes : Nat × Int32 × Int32 × Int32 × Int32 → ix_M → (ix_R → Prop) → Prop} {l : Launch} {d : Nat} (H : ix_AllS l cX10_tryRoutes 6 RX10 d none (o_X10_tryRoutes TX10_tryRoutes)) (Q : ix_R → Prop) (ls : ix_L) (st : List ix_V) (μ : ix_M) : ix_Ev (o_X10_tryRoutes TX10_tryRoutes) Q (87, ls, st, μ) = oc_X9_pass 90 (ix_Ev (o_X10_tryRoutes TX10_tryRoutes) Q) Q ls st μ := ix_Ev.eq H rfl ls st μ
theorem e_X10_tryRoutes_90 {TX10_tryRoutes : Nat × Int32 × Int32 × Int32 × Int32 → ix_M → (ix_R → Prop) → Prop} {l : Launch} {d : Nat} (H : ix_AllS l cX10_tryRoutes 6 RX10 d none (o_X10_tryRoutes TX10_tryRoutes)) (Q : ix_R → Prop) (ls : ix_L) (st : List ix_V) (μ : ix_M) : ix_Ev (o_X10_tryRoutes TX10_tryRoutes) Q (90, ls, st, μ) = ix_aload 0 91 (ix_Ev (o_X10_tryRoutes TX10_tryRoutes) Q) Q ls st μ := ix_Ev.eq H rfl ls st μ
theorem e_X10_tryRoutes_91 {TX10_tryRoutes : Nat × Int32 × Int32 × Int32 × Int32 → ix_M → (ix_R → Prop) → Prop} {l : Launch} {d : Nat} (H : ix_AllS l cX10_tryRoutes 6 RX10 d none (o_X10_tryRoutes TX10_tryRoutes)) (Q : ix_R → Prop) (ls : ix_L) (st : List ix_V) (μ : ix_M) : ix_Ev (o_X10_tryRoutes TX10_tryRoutes) Q (91, ls, st, μ) = ix_iload 1 92 (ix_Ev (o_X10_tryRoutes TX10_tryRoutes) Q) Q ls st μ := ix_Ev.eq H rfl ls st μ
theorem e_X10_tryRoutes_92 {TX10_tryRoutes : Nat × Int32 × Int32 × Int32 × Int32 → ix_M → (ix_R → Prop) → Prop} {l : Launch} {d : Nat} (H : ix_AllS l cX10_tryRoutes 6 RX10 d none (o_X10_tryRoutes TX10_tryRoutes)) (Q : ix_R → Prop) (ls : ix_L) (st : List ix_V) (μ : ix_M) : ix_Ev (o_X10_tryRoutes TX10_tryRoutes) Q (92, ls, st, μ) = ix_iload 2 93 (ix_Ev (o_X10_tryRoutes TX10_tryRoutes) Q) Q ls st μ := ix_Ev.eq H rfl ls st μ
theorem e_X10_tryRoutes_93 {TX10_tryRoutes : Nat × Int32 × Int32 × Int32 × Int32 → ix_M → (ix_R → Prop) → Prop} {l : Launch} {d : Nat} (H : ix_AllS l cX10_tryRoutes 6 RX10 d none (o_X10_tryRoutes TX10_tryRoutes)) (Q : ix_R → Prop) (ls : ix_L) (st : List ix_V) (μ : ix_M) : ix_Ev (o_X10_tryRoutes TX10_tryRoutes) Q (93, ls, st, μ) = ix_iload 3 94 (ix_Ev (o_X10_tryRoutes TX10_tryRoutes) Q) Q ls st μ := ix_Ev.eq H rfl ls st μ
theorem e_X10_tryRoutes_94 {TX10_tryRoutes : Nat × Int32 × Int32 × Int32 × Int32 → ix_M → (ix_R → Prop) → Prop} {l : Launch} {d : Nat} (H : ix_AllS l cX10_tryRoutes 6 RX10 d none (o_X10_tryRoutes TX10_tryRoutes)) (Q : ix_R → Prop) (ls : ix_L) (st : List ix_V) (μ : ix_M) : ix_Ev (o_X10_tryRoutes TX10_tryRoutes) Q (94, ls, st, μ) = ix_push (vi 1) 95 (ix_Ev (o_X10_tryRoutes TX10_tryRoutes) Q) Q ls st μ := ix_Ev.eq H rfl ls st μ
theorem e_X10_tryRoutes_95 {TX10_tryRoutes : Nat × Int32 × Int32 × Int32 × Int32 → ix_M → (ix_R → Prop) → Prop} {l : Launch} {d : Nat} (H : ix_AllS l cX10_tryRoutes 6 RX10 d none (o_X10_tryRoutes TX10_tryRoutes)) (Q : ix_R → Prop) (ls : ix_L) (st : List ix_V) (μ : ix_M) : ix_Ev (o_X10_tryRoutes TX10_tryRoutes) Q (95, ls, st, μ) = ix_bin (fun x y => x + y) 96 (ix_Ev (o_X10_tryRoutes TX10_tryRoutes) Q) Q ls st μ := ix_Ev.eq H rfl ls st μ
theorem e_X10_tryRoutes_96 {TX10_tryRoutes : Nat × Int32 × Int32 × Int32 × Int32 → ix_M → (ix_R → Prop) → Prop} {l : Launch} {d : Nat} (H : ix_AllS l cX10_tryRoutes 6 RX10 d none (o_X10_tryRoutes TX10_tryRoutes)) (Q : ix_R → Prop) (ls : ix_L) (st : List ix_V) (μ : ix_M) : ix_Ev (o_X10_tryRoutes TX10_tryRoutes) Q (96, ls, st, μ) = ix_push (vi 10) 98 (ix_Ev (o_X10_tryRoutes TX10_tryRoutes) Q) Q ls st μ := ix_Ev.eq H rfl ls st μ
theorem e_X10_tryRoutes_98 {TX10_tryRoutes : Nat × Int32 × Int32 × Int32 × Int32 → ix_M → (ix_R → Prop) → Prop} {l : Launch} {d : Nat} (H : ix_AllS l cX10_tryRoutes 6 RX10 d none (o_X10_tryRoutes TX10_tryRoutes)) (Q : ix_R → Prop) (ls : ix_L) (st : List ix_V) (μ : ix_M) : ix_Ev (o_X10_tryRoutes TX10_tryRoutes) Q (98, ls, st, μ) = ix_iload 4 100 (ix_Ev (o_X10_tryRoutes TX10_tryRoutes) Q) Q ls st μ := ix_Ev.eq H rfl ls st μ
theorem e_X10_tryRoutes_100 {TX10_tryRoutes : Nat × Int32 × Int32 × Int32 × Int32 → ix_M → (ix_R → Prop) → Prop} {l : Launch} {d : Nat} (H : ix_AllS l cX10_tryRoutes 6 RX10 d none (o_X10_tryRoutes TX10_tryRoutes)) (Q : ix_R → Prop) (ls : ix_L) (st : List ix_V) (μ : ix_M) : ix_Ev (o_X10_tryRoutes TX10_tryRoutes) Q (100, ls, st, μ) = ix_bin (fun x y => x * y) 101 (ix_Ev (o_X10_tryRoutes TX10_tryRoutes) Q) Q ls st μ := ix_Ev.eq H rfl ls st μ
theorem e_X10_tryRoutes_101 {TX10_tryRoutes : Nat × Int32 × Int32 × Int32 × Int32 → ix_M → (ix_R → Prop) → Prop} {l : Launch} {d : Nat} (H : ix_AllS l cX10_tryRoutes 6 RX10 d none (o_X10_tryRoutes TX10_tryRoutes)) (Q : ix_R → Prop) (ls : ix_L) (st : List ix_V) (μ : ix_M) : ix_Ev (o_X10_tryRoutes TX10_tryRoutes) Q (101, ls, st, μ) = ix_iload 5 103 (ix_Ev (o_X10_tryRoutes TX10_tryRoutes) Q) Q ls st μ := ix_Ev.eq H rfl ls st μ
theorem e_X10_tryRoutes_103 {TX10_tryRoutes : Nat × Int32 × Int32 × Int32 × Int32 → ix_M → (ix_R → Prop) → Prop} {l : Launch} {d : Nat} (H : ix_AllS l cX10_tryRoutes 6 RX10 d none (o_X10_tryRoutes TX10_tryRoutes)) (Q : ix_R → Prop) (ls : ix_L) (st : List ix_V) (μ : ix_M) : ix_Ev (o_X10_tryRoutes TX10_tryRoutes) Q (103, ls, st, μ) = ix_bin (fun x y => x + y) 104 (ix_Ev (o_X10_tryRoutes TX10_tryRoutes) Q) Q ls st μ := ix_Ev.eq H rfl ls st μ
theorem e_X10_tryRoutes_104 {TX10_tryRoutes : Nat × Int32 × Int32 × Int32 × Int32 → ix_M → (ix_R → Prop) → Prop} {l : Launch} {d : Nat} (H : ix_AllS l cX10_tryRoutes 6 RX10 d none (o_X10_tryRoutes TX10_tryRoutes)) (Q : ix_R → Prop) (ls : ix_L) (st : List ix_V) (μ : ix_M) : ix_Ev (o_X10_tryRoutes TX10_tryRoutes) Q (104, ls, st, μ) = ocr_X10_tryRoutes TX10_tryRoutes 107 (ix_Ev (o_X10_tryRoutes TX10_tryRoutes) Q) Q ls st μ := ix_Ev.eq H rfl ls st μ
theorem e_X10_tryRoutes_107 {TX10_tryRoutes : Nat × Int32 × Int32 × Int32 × Int32 → ix_M → (ix_R → Prop) → Prop} {l : Launch} {d : Nat} (H : ix_AllS l cX10_tryRoutes 6 RX10 d none (o_X10_tryRoutes TX10_tryRoutes)) (Q : ix_R → Prop) (ls : ix_L) (st : List ix_V) (μ : ix_M) : ix_Ev (o_X10_tryRoutes TX10_tryRoutes) Q (107, ls, st, μ) = ix_iinc 5 1 110 (ix_Ev (o_X10_tryRoutes TX10_tryRoutes) Q) Q ls st μ := ix_Ev.eq H rfl ls st μ
theorem e_X10_tryRoutes_110 {TX10_tryRoutes : Nat × Int32 × Int32 × Int32 × Int32 → ix_M → (ix_R → Prop) → Prop} {l : Launch} {d : Nat} (H : ix_AllS l cX10_tryRoutes 6 RX10 d none (o_X10_tryRoutes TX10_tryRoutes)) (Q : ix_R → Prop) (ls : ix_L) (st : List ix_V) (μ : ix_M) : ix_Ev (o_X10_tryRoutes TX10_tryRoutes) Q (110, ls, st, μ) = ix_goto 46 (ix_Ev (o_X10_tryRoutes TX10_tryRoutes) Q) Q ls st μ := ix_Ev.eq H rfl ls st μ
theorem e_X10_tryRoutes_113 {TX10_tryRoutes : Nat × Int32 × Int32 × Int32 × Int32 → ix_M → (ix_R → Prop) → Prop} {l : Launch} {d : Nat} (H : ix_AllS l cX10_tryRoutes 6 RX10 d none (o_X10_tryRoutes TX10_tryRoutes)) (Q : ix_R → Prop) (ls : ix_L) (st : List ix_V) (μ : ix_M) : ix_Ev (o_X10_tryRoutes TX10_tryRoutes) Q (113, ls, st, μ) = ix_vret (ix_Ev (o_X10_tryRoutes TX10_tryRoutes) Q) Q ls st μ := ix_Ev.eq H rfl ls st μ
theorem no_X10_tryRoutes (l : Launch) : ix_Ct l yX10_tryRoutes cX10_tryRoutes 6 none 0 sh_X10_tryRoutes (fun _ _ _ => False) := fun E x μ Q _ _ h => h.elim
theorem r0_X10_tryRoutes (l : Launch) : ix_Ct l yX10_tryRoutes cX10_tryRoutes 6 none 6 sh_X10_tryRoutes (T_X10_tryRoutes 0) := by
  have H := a_X10_tryRoutes l 6 (Nat.le_refl _) (no_X10_tryRoutes l) (by decide) (fun x μ Q Q' _ h => h)
  refine ix_ct H rfl (by decide) (fun _ => Nat.le_of_ble_eq_true rfl) (fun x μ Q hok hT => ?_)
  obtain ⟨o, b, n, g, row⟩ := x
  obtain ⟨rfl, M, N, G, ds, dl, rfl, rfl, hN, hN4, hW, hM, hL, hQ⟩ := hT
  show ix_Ev (o_X10_tryRoutes _) Q (0, [some (vr 9 0), some (vi b), some (vi (nI N)), some (vi (nI G)), some (vi row), none], [], μ)
  have hN : N = G := hN
  subst hN
  have hle : nI N ≤ nI N := Int32.le_refl _
  have hc : (nI N).toNatClampNeg = N := nI_clamp (by omega)
  have hin : vp_in (nI N) 5 := vp_in_nI (by omega) (by decide)
  obtain ⟨g1, g2⟩ := hW.had
  simp (decide := true) only [e_X10_tryRoutes_0 H, e_X10_tryRoutes_1 H, e_X10_tryRoutes_2 H, e_X10_tryRoutes_5 H, e_X10_tryRoutes_6 H, e_X10_tryRoutes_7 H, e_X10_tryRoutes_10 H, e_X10_tryRoutes_11 H, e_X10_tryRoutes_14 H, e_X10_tryRoutes_15 H, e_X10_tryRoutes_16 H, e_X10_tryRoutes_19 H, e_X10_tryRoutes_21 H, e_X10_tryRoutes_23 H, e_X10_tryRoutes_24 H, e_X10_tryRoutes_27 H, e_X10_tryRoutes_30 H, e_X10_tryRoutes_31 H, e_X10_tryRoutes_33 H, e_X10_tryRoutes_36 H, e_X10_tryRoutes_37 H, e_X10_tryRoutes_39 H, e_X10_tryRoutes_42 H, e_X10_tryRoutes_43 H, e_X10_tryRoutes_44 H, e_X10_tryRoutes_48 H, e_X10_tryRoutes_49 H, e_X10_tryRoutes_52 H, e_X10_tryRoutes_53 H, e_X10_tryRoutes_56 H, e_X10_tryRoutes_57 H, e_X10_tryRoutes_58 H, e_X10_tryRoutes_59 H, e_X10_tryRoutes_60 H, e_X10_tryRoutes_61 H, e_X10_tryRoutes_64 H, e_X10_tryRoutes_65 H, e_X10_tryRoutes_66 H, e_X10_tryRoutes_69 H, e_X10_tryRoutes_70 H, e_X10_tryRoutes_73 H, e_X10_tryRoutes_74 H, e_X10_tryRoutes_75 H, e_X10_tryRoutes_76 H, e_X10_tryRoutes_77 H, e_X10_tryRoutes_78 H, e_X10_tryRoutes_81 H, e_X10_tryRoutes_84 H, e_X10_tryRoutes_85 H, e_X10_tryRoutes_87 H, e_X10_tryRoutes_90 H, e_X10_tryRoutes_91 H, e_X10_tryRoutes_92 H, e_X10_tryRoutes_93 H, e_X10_tryRoutes_94 H, e_X10_tryRoutes_95 H, e_X10_tryRoutes_96 H, e_X10_tryRoutes_98 H, e_X10_tryRoutes_100 H, e_X10_tryRoutes_101 H, e_X10_tryRoutes_103 H, e_X10_tryRoutes_104 H, e_X10_tryRoutes_107 H, e_X10_tryRoutes_110 H, e_X10_tryRoutes_113 H, vi, vl, vr, ocr_X10_tryRoutes, oc_X9_copyFrom, T_X9_copyFrom, oc_X9_had, T_X9_had, oc_X9_pass, T_X9_pass, ix_push, ix_iload, ix_lload, ix_aload, ix_istore, ix_astore, ix_iinc, ix_bin, ix_div, ix_un, ix_i2l, ix_l2i, ix_lbin, ix_lsh, ix_lcmp, ix_dup, ix_dup2, ix_pop, ix_if, ix_cmp, ix_goto, ix_switch, ix_sw, ix_iret, ix_zret, ix_vret, ix_aret, ix_geti, ix_getr, ix_puti, ix_putz, ix_puts, ix_gets, ix_iald, ix_iast, ix_alen, ix_aald, ix_gval, ix_gcod, ix_bald, ix_blen, ix_sald, ix_nret, ix_math2, ix_math1, ix_acopy, Nat.add_assoc, Int32.reduceLT, Int32.reduceLE, Int32.reduceToNatClampNeg, Int32.reduceSub, Int32.reduceAdd, Nat.reduceAdd, Nat.reduceLeDiff, true_or, or_true, or_false, false_or, not_false_eq_true, not_true_eq_false, false_implies, true_implies, implies_true, and_self, mB_0, mB_01, Classical.not_not, Nat.zero_le, List.getElem?_cons_zero, List.getElem?_cons_succ, List.set_cons_zero, List.set_cons_succ, ix_nl, ix_cs, true_and, and_true, Option.toList_some, Option.toList_none, List.cons_append, List.nil_append, hle, hin, hc]
  refine ⟨g1, ?_⟩
  rw [show 48 + (8 * N + 7) = 48 + 8 * N + 7 by omega, g2]
  refine ⟨fun c => ?_, fun c => ?_⟩
  · refine hQ μ Fx.rf ?_ (fun _ _ _ => rfl)
    simp only [rtF, if_neg (Int32.not_lt.mpr c)]
  · refine hQ _ (Fx.up (Fx.up Fx.rf (wQ_in.mpr (Or.inl rfl))) (wQ_in.mpr (Or.inl rfl))) ?_ (fun j h1 h2 => ?_)
    · simp only [rtF, if_pos (Int32.not_le.mp c)]
      simp [ix_up_ap]
    · simp [ix_up_ap, h1, h2]
theorem l_X10_tryRoutes (l : Launch) (d : Nat) {dd : Nat} (H : ix_AllS l cX10_tryRoutes 6 RX10 dd none (o_X10_tryRoutes (T_X10_tryRoutes d))) {b row : Int32} {M N G : Nat} {ds dl : List Int32} {μ : ix_M} {Q : ix_R → Prop} (hN : N = G + (d + 1)) (hN4 : N ≤ 4) (hW : WAt (wv μ (48 + 8 * G)) M) (hM : M + (d + 1) < 30000) (hL : LW μ ds dl)
    (hQ : ∀ μ', Fx (wQ G) μ μ' → (μ' 0 9, μ' 0 10) = rtF ds dl b (d + 1) row (wv μ (48 + 8 * G)) (μ 0 9, μ 0 10) → (∀ j, j ≠ 9 → j ≠ 10 → μ' 0 j = μ 0 j) → Q (none, μ')) :
    ∀ (k i : Nat) (μ1 : ix_M), i + k = 5 → Fx (wQ G) μ μ1 → (μ1 0 9, μ1 0 10) = rtL (fun k be => rtF ds dl b d (10 * row + nI k) (pV ds dl b (nI k) (wv μ (48 + 8 * G))) be) i (μ 0 9, μ 0 10) → (∀ j, j ≠ 9 → j ≠ 10 → μ1 0 j = μ 0 j) →
    ix_Ev (o_X10_tryRoutes (T_X10_tryRoutes d)) Q (46, [some (vr 9 0), some (vi b), some (vi (nI N)), some (vi (nI G)), some (vi row), some (vi (nI i))], [], μ1) := by
  intro k
  induction k with
  | zero =>
    intro i μ1 hi hF hbe h0
    have hi : i = 5 := hi
    subst hi
    rw [e_X10_tryRoutes_46 H]
    simp (decide := true) only [e_X10_tryRoutes_0 H, e_X10_tryRoutes_1 H, e_X10_tryRoutes_2 H, e_X10_tryRoutes_5 H, e_X10_tryRoutes_6 H, e_X10_tryRoutes_7 H, e_X10_tryRoutes_10 H, e_X10_tryRoutes_11 H, e_X10_tryRoutes_14 H, e_X10_tryRoutes_15 H, e_X10_tryRoutes_16 H, e_X10_tryRoutes_19 H, e_X10_tryRoutes_21 H, e_X10_tryRoutes_23 H, e_X10_tryRoutes_24 H, e_X10_tryRoutes_27 H, e_X10_tryRoutes_30 H, e_X10_tryRoutes_31 H, e_X10_tryRoutes_33 H, e_X10_tryRoutes_36 H, e_X10_tryRoutes_37 H, e_X10_tryRoutes_39 H, e_X10_tryRoutes_42 H, e_X10_tryRoutes_43 H, e_X10_tryRoutes_44 H, e_X10_tryRoutes_48 H, e_X10_tryRoutes_49 H, e_X10_tryRoutes_52 H, e_X10_tryRoutes_53 H, e_X10_tryRoutes_56 H, e_X10_tryRoutes_57 H, e_X10_tryRoutes_58 H, e_X10_tryRoutes_59 H, e_X10_tryRoutes_60 H, e_X10_tryRoutes_61 H, e_X10_tryRoutes_64 H, e_X10_tryRoutes_65 H, e_X10_tryRoutes_66 H, e_X10_tryRoutes_69 H, e_X10_tryRoutes_70 H, e_X10_tryRoutes_73 H, e_X10_tryRoutes_74 H, e_X10_tryRoutes_75 H, e_X10_tryRoutes_76 H, e_X10_tryRoutes_77 H, e_X10_tryRoutes_78 H, e_X10_tryRoutes_81 H, e_X10_tryRoutes_84 H, e_X10_tryRoutes_85 H, e_X10_tryRoutes_87 H, e_X10_tryRoutes_90 H, e_X10_tryRoutes_91 H, e_X10_tryRoutes_92 H, e_X10_tryRoutes_93 H, e_X10_tryRoutes_94 H, e_X10_tryRoutes_95 H, e_X10_tryRoutes_96 H, e_X10_tryRoutes_98 H, e_X10_tryRoutes_100 H, e_X10_tryRoutes_101 H, e_X10_tryRoutes_103 H, e_X10_tryRoutes_104 H, e_X10_tryRoutes_107 H, e_X10_tryRoutes_110 H, e_X10_tryRoutes_113 H, vi, vl, vr, ocr_X10_tryRoutes, oc_X9_copyFrom, T_X9_copyFrom, oc_X9_had, T_X9_had, oc_X9_pass, T_X9_pass, ix_push, ix_iload, ix_lload, ix_aload, ix_istore, ix_astore, ix_iinc, ix_bin, ix_div, ix_un, ix_i2l, ix_l2i, ix_lbin, ix_lsh, ix_lcmp, ix_dup, ix_dup2, ix_pop, ix_if, ix_cmp, ix_goto, ix_switch, ix_sw, ix_iret, ix_zret, ix_vret, ix_aret, ix_geti, ix_getr, ix_puti, ix_putz, ix_puts, ix_gets, ix_iald, ix_iast, ix_alen, ix_aald, ix_gval, ix_gcod, ix_bald, ix_blen, ix_sald, ix_nret, ix_math2, ix_math1, ix_acopy, Nat.add_assoc, Int32.reduceLT, Int32.reduceLE, Int32.reduceToNatClampNeg, Int32.reduceSub, Int32.reduceAdd, Nat.reduceAdd, Nat.reduceLeDiff, true_or, or_true, or_false, false_or, not_false_eq_true, not_true_eq_false, false_implies, true_implies, implies_true, and_self, mB_0, mB_01, Classical.not_not, Nat.zero_le, List.getElem?_cons_zero, List.getElem?_cons_succ, List.set_cons_zero, List.set_cons_succ, ix_nl, ix_cs, true_and, and_true, Option.toList_some, Option.toList_none, List.cons_append, List.nil_append]
    exact hQ μ1 hF hbe h0
  | succ k ih =>
    intro i μ1 hi hF hbe h0
    have hng : ¬ (5 : Int32) ≤ nI i := by
      rw [fa_lit 5]
      exact nI_ge (by omega) (by decide)
    have hc : (nI G).toNatClampNeg = G := nI_clamp (by omega)
    have hc1 : (nI (G + 1)).toNatClampNeg = G + 1 := nI_clamp (by omega)
    have hin : vp_in (nI G) 5 := vp_in_nI (by omega) (by decide)
    have hin1 : vp_in (nI (G + 1)) 5 := vp_in_nI (by omega) (by decide)
    have hg1 : nI G + 1 = nI (G + 1) := nI_1 G
    have hi1 : nI i + 1 = nI (i + 1) := nI_1 i
    have hv1 : wv μ1 (48 + 8 * G) = wv μ (48 + 8 * G) := wv_fx (fun r hr => hF _ (fun z => by rw [wQ_in] at z; omega))
    rw [e_X10_tryRoutes_46 H]
    simp (decide := true) only [e_X10_tryRoutes_0 H, e_X10_tryRoutes_1 H, e_X10_tryRoutes_2 H, e_X10_tryRoutes_5 H, e_X10_tryRoutes_6 H, e_X10_tryRoutes_7 H, e_X10_tryRoutes_10 H, e_X10_tryRoutes_11 H, e_X10_tryRoutes_14 H, e_X10_tryRoutes_15 H, e_X10_tryRoutes_16 H, e_X10_tryRoutes_19 H, e_X10_tryRoutes_21 H, e_X10_tryRoutes_23 H, e_X10_tryRoutes_24 H, e_X10_tryRoutes_27 H, e_X10_tryRoutes_30 H, e_X10_tryRoutes_31 H, e_X10_tryRoutes_33 H, e_X10_tryRoutes_36 H, e_X10_tryRoutes_37 H, e_X10_tryRoutes_39 H, e_X10_tryRoutes_42 H, e_X10_tryRoutes_43 H, e_X10_tryRoutes_44 H, e_X10_tryRoutes_48 H, e_X10_tryRoutes_49 H, e_X10_tryRoutes_52 H, e_X10_tryRoutes_53 H, e_X10_tryRoutes_56 H, e_X10_tryRoutes_57 H, e_X10_tryRoutes_58 H, e_X10_tryRoutes_59 H, e_X10_tryRoutes_60 H, e_X10_tryRoutes_61 H, e_X10_tryRoutes_64 H, e_X10_tryRoutes_65 H, e_X10_tryRoutes_66 H, e_X10_tryRoutes_69 H, e_X10_tryRoutes_70 H, e_X10_tryRoutes_73 H, e_X10_tryRoutes_74 H, e_X10_tryRoutes_75 H, e_X10_tryRoutes_76 H, e_X10_tryRoutes_77 H, e_X10_tryRoutes_78 H, e_X10_tryRoutes_81 H, e_X10_tryRoutes_84 H, e_X10_tryRoutes_85 H, e_X10_tryRoutes_87 H, e_X10_tryRoutes_90 H, e_X10_tryRoutes_91 H, e_X10_tryRoutes_92 H, e_X10_tryRoutes_93 H, e_X10_tryRoutes_94 H, e_X10_tryRoutes_95 H, e_X10_tryRoutes_96 H, e_X10_tryRoutes_98 H, e_X10_tryRoutes_100 H, e_X10_tryRoutes_101 H, e_X10_tryRoutes_103 H, e_X10_tryRoutes_104 H, e_X10_tryRoutes_107 H, e_X10_tryRoutes_110 H, e_X10_tryRoutes_113 H, vi, vl, vr, ocr_X10_tryRoutes, oc_X9_copyFrom, T_X9_copyFrom, oc_X9_had, T_X9_had, oc_X9_pass, T_X9_pass, ix_push, ix_iload, ix_lload, ix_aload, ix_istore, ix_astore, ix_iinc, ix_bin, ix_div, ix_un, ix_i2l, ix_l2i, ix_lbin, ix_lsh, ix_lcmp, ix_dup, ix_dup2, ix_pop, ix_if, ix_cmp, ix_goto, ix_switch, ix_sw, ix_iret, ix_zret, ix_vret, ix_aret, ix_geti, ix_getr, ix_puti, ix_putz, ix_puts, ix_gets, ix_iald, ix_iast, ix_alen, ix_aald, ix_gval, ix_gcod, ix_bald, ix_blen, ix_sald, ix_nret, ix_math2, ix_math1, ix_acopy, Nat.add_assoc, Int32.reduceLT, Int32.reduceLE, Int32.reduceToNatClampNeg, Int32.reduceSub, Int32.reduceAdd, Nat.reduceAdd, Nat.reduceLeDiff, true_or, or_true, or_false, false_or, not_false_eq_true, not_true_eq_false, false_implies, true_implies, implies_true, and_self, mB_0, mB_01, Classical.not_not, Nat.zero_le, List.getElem?_cons_zero, List.getElem?_cons_succ, List.set_cons_zero, List.set_cons_succ, ix_nl, ix_cs, true_and, and_true, Option.toList_some, Option.toList_none, List.cons_append, List.nil_append, hng, hg1, hin, hin1, hc, hc1]
    refine ⟨by omega, fun μ2 hF2 hv2 => ⟨?_, ds, dl, ?_, ?_, fun μ3 hF3 hv3 => ⟨rfl, M + 1, N, G + 1, ds, dl, rfl, rfl, by omega, hN4, ?_, by omega, ?_, fun μ4 hF4 hbe4 h04 => ?_⟩⟩⟩
    · rw [hv2, hv1]
      exact hW.ok (by omega)
    · exact (hL.fx hF (by simp only [wQ_in]; omega)).1.fx (hF2 _ (by unfold wL; simp; omega)) (hF2 _ (by unfold wL; simp; omega))
    · exact (hL.fx hF (by simp only [wQ_in]; omega)).2.fx (hF2 _ (by unfold wL; simp; omega)) (hF2 _ (by unfold wL; simp; omega))
    · rw [hv3, hv2, hv1]
      exact hW.pV ds dl b (nI i)
    · refine ((hL.fx hF (by simp only [wQ_in]; omega)).fx hF2 (by unfold wL; simp; omega)).fx hF3 (by simp; omega)
    · have hFa : Fx (wQ G) μ1 μ4 := by
        refine ((hF2.mono ?_).tr (hF3.mono ?_)).tr (hF4.mono ?_)
        · intro a ha
          rw [wQ_in]
          unfold wL at ha
          simp at ha
          omega
        · intro a ha
          rw [wQ_in]
          simp at ha
          omega
        · intro a ha
          rw [wQ_in] at ha ⊢
          omega
      have e0 : μ3 0 = μ1 0 := by
        rw [hF3 0 (by simp), hF2 0 (by unfold wL; simp)]
      rw [hi1]
      refine ih (i + 1) μ4 (by omega) (hF.tr hFa) ?_ (fun j h1 h2 => ?_)
      · rw [hbe4, e0, hbe, hv3, hv2, hv1]
        rfl
      · rw [h04 j h1 h2, e0, h0 j h1 h2]
theorem k_X10_tryRoutes (l : Launch) : ∀ d, ix_Ct l yX10_tryRoutes cX10_tryRoutes 6 none (6 + d) sh_X10_tryRoutes (T_X10_tryRoutes d)
  | 0 => r0_X10_tryRoutes l
  | d + 1 => by
    have H := a_X10_tryRoutes l (6 + (d + 1)) (by omega) (k_X10_tryRoutes l d) (by omega) (mo_X10_tryRoutes d)
    refine ix_ct H rfl (by decide) (fun _ => Nat.le_of_ble_eq_true rfl) (fun x μ Q hok hT => ?_)
    obtain ⟨o, b, n, g, row⟩ := x
    obtain ⟨rfl, M, N, G, ds, dl, rfl, rfl, hN, hN4, hW, hM, hL, hQ⟩ := hT
    show ix_Ev (o_X10_tryRoutes _) Q (0, [some (vr 9 0), some (vi b), some (vi (nI N)), some (vi (nI G)), some (vi row), none], [], μ)
    have hlt : nI G < nI N := nI_lt (by omega) (by omega)
    have hng : ¬ nI N ≤ nI G := nI_ge (by omega) (by omega)
    have h4 : nI G < 4 := by
      rw [fa_lit 4]
      exact nI_lt (by omega) (by decide)
    have h4' : ¬ (4 : Int32) ≤ nI G := by
      rw [fa_lit 4]
      exact nI_ge (by omega) (by decide)
    simp (decide := true) only [e_X10_tryRoutes_0 H, e_X10_tryRoutes_1 H, e_X10_tryRoutes_2 H, e_X10_tryRoutes_5 H, e_X10_tryRoutes_6 H, e_X10_tryRoutes_7 H, e_X10_tryRoutes_10 H, e_X10_tryRoutes_11 H, e_X10_tryRoutes_14 H, e_X10_tryRoutes_15 H, e_X10_tryRoutes_16 H, e_X10_tryRoutes_19 H, e_X10_tryRoutes_21 H, e_X10_tryRoutes_23 H, e_X10_tryRoutes_24 H, e_X10_tryRoutes_27 H, e_X10_tryRoutes_30 H, e_X10_tryRoutes_31 H, e_X10_tryRoutes_33 H, e_X10_tryRoutes_36 H, e_X10_tryRoutes_37 H, e_X10_tryRoutes_39 H, e_X10_tryRoutes_42 H, e_X10_tryRoutes_43 H, e_X10_tryRoutes_44 H, e_X10_tryRoutes_48 H, e_X10_tryRoutes_49 H, e_X10_tryRoutes_52 H, e_X10_tryRoutes_53 H, e_X10_tryRoutes_56 H, e_X10_tryRoutes_57 H, e_X10_tryRoutes_58 H, e_X10_tryRoutes_59 H, e_X10_tryRoutes_60 H, e_X10_tryRoutes_61 H, e_X10_tryRoutes_64 H, e_X10_tryRoutes_65 H, e_X10_tryRoutes_66 H, e_X10_tryRoutes_69 H, e_X10_tryRoutes_70 H, e_X10_tryRoutes_73 H, e_X10_tryRoutes_74 H, e_X10_tryRoutes_75 H, e_X10_tryRoutes_76 H, e_X10_tryRoutes_77 H, e_X10_tryRoutes_78 H, e_X10_tryRoutes_81 H, e_X10_tryRoutes_84 H, e_X10_tryRoutes_85 H, e_X10_tryRoutes_87 H, e_X10_tryRoutes_90 H, e_X10_tryRoutes_91 H, e_X10_tryRoutes_92 H, e_X10_tryRoutes_93 H, e_X10_tryRoutes_94 H, e_X10_tryRoutes_95 H, e_X10_tryRoutes_96 H, e_X10_tryRoutes_98 H, e_X10_tryRoutes_100 H, e_X10_tryRoutes_101 H, e_X10_tryRoutes_103 H, e_X10_tryRoutes_104 H, e_X10_tryRoutes_107 H, e_X10_tryRoutes_110 H, e_X10_tryRoutes_113 H, vi, vl, vr, ocr_X10_tryRoutes, oc_X9_copyFrom, T_X9_copyFrom, oc_X9_had, T_X9_had, oc_X9_pass, T_X9_pass, ix_push, ix_iload, ix_lload, ix_aload, ix_istore, ix_astore, ix_iinc, ix_bin, ix_div, ix_un, ix_i2l, ix_l2i, ix_lbin, ix_lsh, ix_lcmp, ix_dup, ix_dup2, ix_pop, ix_if, ix_cmp, ix_goto, ix_switch, ix_sw, ix_iret, ix_zret, ix_vret, ix_aret, ix_geti, ix_getr, ix_puti, ix_putz, ix_puts, ix_gets, ix_iald, ix_iast, ix_alen, ix_aald, ix_gval, ix_gcod, ix_bald, ix_blen, ix_sald, ix_nret, ix_math2, ix_math1, ix_acopy, Nat.add_assoc, Int32.reduceLT, Int32.reduceLE, Int32.reduceToNatClampNeg, Int32.reduceSub, Int32.reduceAdd, Nat.reduceAdd, Nat.reduceLeDiff, true_or, or_true, or_false, false_or, not_false_eq_true, not_true_eq_false, false_implies, true_implies, implies_true, and_self, mB_0, mB_01, Classical.not_not, Nat.zero_le, List.getElem?_cons_zero, List.getElem?_cons_succ, List.set_cons_zero, List.set_cons_succ, ix_nl, ix_cs, true_and, and_true, Option.toList_some, Option.toList_none, List.cons_append, List.nil_append, hlt, hng, h4, h4']
    exact l_X10_tryRoutes l d H hN hN4 hW hM hL hQ 5 0 μ rfl Fx.rf rfl (fun _ _ _ => rfl)
