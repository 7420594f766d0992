/-! ===== the model: voices ===== -/
def VM (μ : ix_M) (K : Nat) (nb mm : Int32) (tr : List Int32) : Prop := (μ 112 19 = nI K ∧ K < 7) ∧ μ 112 20 = nb ∧ μ 112 21 = mm ∧ μ 112 18 = nI tr.length ∧ tr.length ≤ 40 ∧ ∀ j, j < tr.length → μ 122 j = tr.getD j 0
def Fvo (μ μ' : ix_M) : Prop := Fx [112, 122] μ μ' ∧ ∀ j, j ≠ 18 → μ' 112 j = μ 112 j
theorem Fvo.rf {μ : ix_M} : Fvo μ μ := ⟨Fx.rf, fun _ _ => rfl⟩
theorem Fvo.tr {μ μ' μ'' : ix_M} (h : Fvo μ μ') (h' : Fvo μ' μ'') : Fvo μ μ'' := ⟨h.1.tr h'.1, fun j hj => (h'.2 j hj).trans (h.2 j hj)⟩
def T_X11_ran : Nat × Int32 → ix_M → (ix_R → Prop) → Prop := fun (_, b) μ Q => ∃ K nb mm tr, VM μ K nb mm tr ∧ ∀ μ', Fvo μ μ' → VM μ' K nb mm (vPush tr b) → Q (none, μ')
def sh_X11_ran (x : Nat × Int32) : List ix_V := [vr 10 x.1, vi x.2]
theorem mo_X11_ran (x : Nat × Int32) (μ : ix_M) (Q Q' : ix_R → Prop) (h : ∀ r, Q r → Q' r) (hT : T_X11_ran x μ Q) : T_X11_ran x μ Q' := by
  obtain ⟨a0, a1⟩ := x
  (obtain ⟨K, nb, mm, tr, h1, h2⟩ := hT; exact ⟨K, nb, mm, tr, h1, fun μ' z z2 => h _ (h2 μ' z z2)⟩)
def oc_X11_ran (n : Nat) : ix_Op := fun k _ ls st μ => match st with
  | .inl a1 :: .inr (.inr (t0, a0)) :: r => t0 = 10 ∧ ix_cs r ≤ 8 ∧ T_X11_ran (a0, a1) μ (fun q => k (n, ls, q.1.toList ++ r, q.2))
  | _ => False
theorem oc_X11_ran_s {l : Launch} {cc : ByteArray} {nL : Nat} {own : String} {d : Nat} {rt : Option FieldType} {pc n : Nat} (h : ix_S l cc nL own d rt pc (ix_call 2 sh_X11_ran T_X11_ran n)) : ix_S l cc nL own d rt pc (oc_X11_ran n) := by
  refine h.by (fun k Q ls st μ h => ?_) (fun k k' Q ls st μ hk h => ?_)
  · unfold oc_X11_ran at h
    split at h
    · rename_i a1 t0 a0 r
      obtain ⟨rfl, h1, h2⟩ := h
      exact ⟨h1, (a0, a1), rfl, _, h2, fun r h => h⟩
    · exact h.elim
  · unfold oc_X11_ran at h ⊢
    split at h
    · obtain ⟨rfl, h1, h2⟩ := h
      exact ⟨rfl, h1, mo_X11_ran _ _ _ _ (fun q hq => hk _ hq) h2⟩
    · exact h.elim
def o_X11_ran : List (Nat × ix_Op) := [
  (0, ix_aload 0 1),
  (1, ix_geti 10 18 4),
  (4, ix_push (vi 40) 6),
  (6, ix_cmp (fun x y => y ≤ x) 29 9),
  (9, ix_aload 0 10),
  (10, ix_getr 10 20 (fun _ => 122) 13),
  (13, ix_aload 0 14),
  (14, ix_geti 10 18 17),
  (17, ix_iload 1 18),
  (18, ix_iast 19),
  (19, ix_aload 0 20),
  (20, ix_dup 21),
  (21, ix_geti 10 18 24),
  (24, ix_push (vi 1) 25),
  (25, ix_bin (fun x y => x + y) 26),
  (26, ix_puti 10 18 29),
  (29, ix_vret)]
set_option maxRecDepth 20000 in
theorem a_X11_ran (l : Launch) : ix_AllS l cX11_ran 2 RX11 1 none o_X11_ran :=
  .cons (ix_s_aload_n dX11_ran_0 rfl) <|
  .cons (ix_s_geti (j := 18) tu_X11 rfl (by decide) (by decide) tw_893 rfl ts_10_18_i dX11_ran_1) <|
  .cons (ix_s_bipush dX11_ran_4 (by decide +kernel)) <|
  .cons (ix_s_cmp_ge dX11_ran_6 (by decide)) <|
  .cons (ix_s_aload_n dX11_ran_9 rfl) <|
  .cons (ix_s_getr (j := 17) tu_X11 rfl (by decide) (by decide) tw_892 rfl ts_10_17_r dX11_ran_10) <|
  .cons (ix_s_aload_n dX11_ran_13 rfl) <|
  .cons (ix_s_geti (j := 18) tu_X11 rfl (by decide) (by decide) tw_893 rfl ts_10_18_i dX11_ran_14) <|
  .cons (ix_s_iload_n dX11_ran_17 rfl) <|
  .cons (ix_s_iast dX11_ran_18) <|
  .cons (ix_s_aload_n dX11_ran_19 rfl) <|
  .cons (ix_s_dup dX11_ran_20) <|
  .cons (ix_s_geti (j := 18) tu_X11 rfl (by decide) (by decide) tw_893 rfl ts_10_18_i dX11_ran_21) <|
  .cons (ix_s_iconst dX11_ran_24 (by decide +kernel)) <|
  .cons (ix_s_iadd dX11_ran_25) <|
  .cons (ix_s_puti (j := 18) tu_X11 tyX11_ok nmX11 rfl (by decide) (by decide) tw_893 rfl rfl (by decide +kernel) ts_10_18_p dX11_ran_26) <|
  .cons (ix_s_vret dX11_ran_29 rfl) <| .nil
theorem e_X11_ran_0 (Q : ix_R → Prop) (ls : ix_L) (st : List ix_V) (μ : ix_M) : ix_Ev o_X11_ran Q (0, ls, st, μ) = ix_aload 0 1 (ix_Ev o_X11_ran Q) Q ls st μ := ix_Ev.eq (a_X11_ran launch0) rfl ls st μ
theorem e_X11_ran_1 (Q : ix_R → Prop) (ls : ix_L) (st : List ix_V) (μ : ix_M) : ix_Ev o_X11_ran Q (1, ls, st, μ) = ix_geti 10 18 4 (ix_Ev o_X11_ran Q) Q ls st μ := ix_Ev.eq (a_X11_ran launch0) rfl ls st μ
theorem e_X11_ran_4 (Q : ix_R → Prop) (ls : ix_L) (st : List ix_V) (μ : ix_M) : ix_Ev o_X11_ran Q (4, ls, st, μ) = ix_push (vi 40) 6 (ix_Ev o_X11_ran Q) Q ls st μ := ix_Ev.eq (a_X11_ran launch0) rfl ls st μ
theorem e_X11_ran_6 (Q : ix_R → Prop) (ls : ix_L) (st : List ix_V) (μ : ix_M) : ix_Ev o_X11_ran Q (6, ls, st, μ) = ix_cmp (fun x y => y ≤ x) 29 9 (ix_Ev o_X11_ran Q) Q ls st μ := ix_Ev.eq (a_X11_ran launch0) rfl ls st μ
theorem e_X11_ran_9 (Q : ix_R → Prop) (ls : ix_L) (st : List ix_V) (μ : ix_M) : ix_Ev o_X11_ran Q (9, ls, st, μ) = ix_aload 0 10 (ix_Ev o_X11_ran Q) Q ls st μ := ix_Ev.eq (a_X11_ran launch0) rfl ls st μ
theorem e_X11_ran_10 (Q : ix_R → Prop) (ls : ix_L) (st : List ix_V) (μ : ix_M) : ix_Ev o_X11_ran Q (10, ls, st, μ) = ix_getr 10 20 (fun _ => 122) 13 (ix_Ev o_X11_ran Q) Q ls st μ := ix_Ev.eq (a_X11_ran launch0) rfl ls st μ
theorem e_X11_ran_13 (Q : ix_R → Prop) (ls : ix_L) (st : List ix_V) (μ : ix_M) : ix_Ev o_X11_ran Q (13, ls, st, μ) = ix_aload 0 14 (ix_Ev o_X11_ran Q) Q ls st μ := ix_Ev.eq (a_X11_ran launch0) rfl ls st μ
theorem e_X11_ran_14 (Q : ix_R → Prop) (ls : ix_L) (st : List ix_V) (μ : ix_M) : ix_Ev o_X11_ran Q (14, ls, st, μ) = ix_geti 10 18 17 (ix_Ev o_X11_ran Q) Q ls st μ := ix_Ev.eq (a_X11_ran launch0) rfl ls st μ
theorem e_X11_ran_17 (Q : ix_R → Prop) (ls : ix_L) (st : List ix_V) (μ : ix_M) : ix_Ev o_X11_ran Q (17, ls, st, μ) = ix_iload 1 18 (ix_Ev o_X11_ran Q) Q ls st μ := ix_Ev.eq (a_X11_ran launch0) rfl ls st μ
theorem e_X11_ran_18 (Q : ix_R → Prop) (ls : ix_L) (st : List ix_V) (μ : ix_M) : ix_Ev o_X11_ran Q (18, ls, st, μ) = ix_iast 19 (ix_Ev o_X11_ran Q) Q ls st μ := ix_Ev.eq (a_X11_ran launch0) rfl ls st μ
theorem e_X11_ran_19 (Q : ix_R → Prop) (ls : ix_L) (st : List ix_V) (μ : ix_M) : ix_Ev o_X11_ran Q (19, ls, st, μ) = ix_aload 0 20 (ix_Ev o_X11_ran Q) Q ls st μ := ix_Ev.eq (a_X11_ran launch0) rfl ls st μ
theorem e_X11_ran_20 (Q : ix_R → Prop) (ls : ix_L) (st : List ix_V) (μ : ix_M) : ix_Ev o_X11_ran Q (20, ls, st, μ) = ix_dup 21 (ix_Ev o_X11_ran Q) Q ls st μ := ix_Ev.eq (a_X11_ran launch0) rfl ls st μ
theorem e_X11_ran_21 (Q : ix_R → Prop) (ls : ix_L) (st : List ix_V) (μ : ix_M) : ix_Ev o_X11_ran Q (21, ls, st, μ) = ix_geti 10 18 24 (ix_Ev o_X11_ran Q) Q ls st μ := ix_Ev.eq (a_X11_ran launch0) rfl ls st μ
theorem e_X11_ran_24 (Q : ix_R → Prop) (ls : ix_L) (st : List ix_V) (μ : ix_M) : ix_Ev o_X11_ran Q (24, ls, st, μ) = ix_push (vi 1) 25 (ix_Ev o_X11_ran Q) Q ls st μ := ix_Ev.eq (a_X11_ran launch0) rfl ls st μ
theorem e_X11_ran_25 (Q : ix_R → Prop) (ls : ix_L) (st : List ix_V) (μ : ix_M) : ix_Ev o_X11_ran Q (25, ls, st, μ) = ix_bin (fun x y => x + y) 26 (ix_Ev o_X11_ran Q) Q ls st μ := ix_Ev.eq (a_X11_ran launch0) rfl ls st μ
theorem e_X11_ran_26 (Q : ix_R → Prop) (ls : ix_L) (st : List ix_V) (μ : ix_M) : ix_Ev o_X11_ran Q (26, ls, st, μ) = ix_puti 10 18 29 (ix_Ev o_X11_ran Q) Q ls st μ := ix_Ev.eq (a_X11_ran launch0) rfl ls st μ
theorem e_X11_ran_29 (Q : ix_R → Prop) (ls : ix_L) (st : List ix_V) (μ : ix_M) : ix_Ev o_X11_ran Q (29, ls, st, μ) = ix_vret (ix_Ev o_X11_ran Q) Q ls st μ := ix_Ev.eq (a_X11_ran launch0) rfl ls st μ
theorem r_X11_ran (o : Nat) (b : Int32) (μ : ix_M) (Q : ix_R → Prop) (ok_o : o < ix_N ∧ ix_tag o = 10) (hT : T_X11_ran (o, b) μ Q) : ix_Ev o_X11_ran Q (0, [some (vr 10 o), some (vi b)], [], μ) := by
  obtain rfl := ok_10 o ok_o.1 ok_o.2
  obtain ⟨K, nb, mm, tr, h1, hQ⟩ := hT
  have h18 := h1.2.2.2.1
  have hl := h1.2.2.2.2.1
  have cl : (nI tr.length).toNatClampNeg = tr.length := nI_clamp (by omega)
  simp (decide := true) only [e_X11_ran_0, e_X11_ran_1, e_X11_ran_4, e_X11_ran_6, e_X11_ran_9, e_X11_ran_10, e_X11_ran_13, e_X11_ran_14, e_X11_ran_17, e_X11_ran_18, e_X11_ran_19, e_X11_ran_20, e_X11_ran_21, e_X11_ran_24, e_X11_ran_25, e_X11_ran_26, e_X11_ran_29, vi, vl, vr, ix_push, ix_iload, ix_lload, ix_aload, ix_istore, ix_astore, ix_iinc, ix_bin, ix_div, ix_un, ix_i2l, ix_l2i, ix_lbin, ix_lsh, ix_lcmp, ix_dup, ix_dup2, ix_pop, ix_if, ix_cmp, ix_goto, ix_switch, ix_sw, ix_iret, ix_zret, ix_vret, ix_aret, ix_geti, ix_getr, ix_puti, ix_putz, ix_puts, ix_gets, ix_iald, ix_iast, ix_alen, ix_aald, ix_gval, ix_gcod, ix_bald, ix_blen, ix_sald, ix_nret, ix_math2, ix_math1, ix_acopy, ml_113, ml_114, ml_115, ml_116, ml_118, ml_119, ml_120, ml_121, ml_122, ml_123, ml_124, ml_125, ml_126, mv_0, mv_1, mv_2, mv_3, mv_4, mv_5, mB_or, Nat.add_assoc, Int32.reduceLT, Int32.reduceLE, Int32.reduceToNatClampNeg, Int32.reduceSub, Int32.reduceAdd, Nat.reduceAdd, Nat.reduceLeDiff, true_or, or_true, or_false, false_or, not_false_eq_true, not_true_eq_false, false_implies, true_implies, implies_true, and_self, mB_0, mB_01, Classical.not_not, Nat.zero_le, List.getElem?_cons_zero, List.getElem?_cons_succ, List.set_cons_zero, List.set_cons_succ, ix_nl, ix_cs, true_and, and_true, Option.toList_some, Option.toList_none, List.cons_append, List.nil_append, h18, cl]
  refine ⟨fun c => ?_, fun c => ⟨?_, ?_⟩⟩
  · have hn : ¬ tr.length < 40 := fun z => absurd c (by rw [fa_lit 40]; exact nI_ge z (by decide))
    refine hQ μ Fvo.rf ?_
    unfold vPush
    rw [if_neg hn]
    exact h1
  · have hn : tr.length < 40 := by
      rcases Nat.lt_or_ge tr.length 40 with z | z
      · exact z
      · exact absurd (nI_le (a := 40) z (by omega)) c
    exact vp_in_nI hn (by decide)
  · have hn : tr.length < 40 := by
      rcases Nat.lt_or_ge tr.length 40 with z | z
      · exact z
      · exact absurd (nI_le (a := 40) z (by omega)) c
    have e18 : ix_up μ 122 tr.length b 112 18 = nI tr.length := by rw [ix_up_ne (by decide)]; exact h18
    rw [e18, nI_1]
    refine hQ _ ⟨(Fx.rf.up (by simp)).up (by simp), fun j hj => ?_⟩ ?_
    · rw [ix_up_ap, if_neg (fun z => hj z.2), ix_up_ne (by decide)]
    · have ne : ∀ j, j ≠ 18 → ix_up (ix_up μ 122 tr.length b) 112 18 (nI (tr.length + 1)) 112 j = μ 112 j := fun j hj => by rw [ix_up_ap, if_neg (fun z => hj z.2), ix_up_ne (by decide)]
      unfold vPush
      rw [if_pos hn]
      refine ⟨⟨by rw [ne 19 (by decide)]; exact h1.1.1, h1.1.2⟩, by rw [ne 20 (by decide)]; exact h1.2.1, by rw [ne 21 (by decide)]; exact h1.2.2.1, ?_, by simp; omega, fun j hj => ?_⟩
      · rw [ix_up_k]
        simp
      · rw [ix_up_ne (by decide), ix_up_ap]
        by_cases e : j = tr.length
        · subst e
          simp
        · simp only [List.length_append, List.length_cons, List.length_nil] at hj
          rw [if_neg (by simp [e]), h1.2.2.2.2.2 j (by omega)]
          simp only [List.getD_eq_getElem?_getD]
          rw [List.getElem?_append_left (by omega)]
theorem k_X11_ran (l : Launch) : ix_Ct l yX11_ran cX11_ran 2 none 1 sh_X11_ran T_X11_ran := ix_ct (a_X11_ran l) rfl (by decide) (fun _ => Nat.le_of_ble_eq_true rfl) (fun x μ Q hok hT => r_X11_ran x.1 x.2 μ Q (ix_ok_at (hok (vr 10 x.1) (by simp [sh_X11_ran])) (by decide) (by decide)) hT)
abbrev VT (f : Nat → Int32 → Int32 → List Int32 → Int32 × List Int32) (μ : ix_M) (Q : ix_R → Prop) : Prop := ∃ K nb mm tr, VM μ K nb mm tr ∧ ∀ μ', Fvo μ μ' → VM μ' K nb mm (f K nb mm tr).2 → Q (some (vi (f K nb mm tr).1), μ')
theorem mo_VT {f : Nat → Int32 → Int32 → List Int32 → Int32 × List Int32} {μ : ix_M} {Q Q' : ix_R → Prop} (h : ∀ r, Q r → Q' r) (hT : VT f μ Q) : VT f μ Q' := by
  obtain ⟨K, nb, mm, tr, h1, h2⟩ := hT
  exact ⟨K, nb, mm, tr, h1, fun μ' z z2 => h _ (h2 μ' z z2)⟩
abbrev und (K : Nat) (o : Int32) : Prop := mUnd 7 (nI K) o = true
def vD (x : Int32) (K : Nat) (nb _mm : Int32) (tr : List Int32) : Int32 × List Int32 := if und K 1 then ((x + nb) * 3, vPush (vPush tr 20) 10) else (x + nb, vPush tr 10)
def T_X11_dipsOf : Nat × Int32 → ix_M → (ix_R → Prop) → Prop := fun (_, x) μ Q => VT (vD x) μ Q
def sh_X11_dipsOf (x : Nat × Int32) : List ix_V := [vr 10 x.1, vi x.2]
theorem mo_X11_dipsOf (x : Nat × Int32) (μ : ix_M) (Q Q' : ix_R → Prop) (h : ∀ r, Q r → Q' r) (hT : T_X11_dipsOf x μ Q) : T_X11_dipsOf x μ Q' := by
  obtain ⟨a0, a1⟩ := x
  (exact mo_VT (f := vD a1) h hT)
def oc_X11_dipsOf (n : Nat) : ix_Op := fun k _ ls st μ => match st with
  | .inl a1 :: .inr (.inr (t0, a0)) :: r => t0 = 10 ∧ ix_cs r ≤ 8 ∧ T_X11_dipsOf (a0, a1) μ (fun q => k (n, ls, q.1.toList ++ r, q.2))
  | _ => False
theorem oc_X11_dipsOf_s {l : Launch} {cc : ByteArray} {nL : Nat} {own : String} {d : Nat} {rt : Option FieldType} {pc n : Nat} (h : ix_S l cc nL own d rt pc (ix_call 2 sh_X11_dipsOf T_X11_dipsOf n)) : ix_S l cc nL own d rt pc (oc_X11_dipsOf n) := by
  refine h.by (fun k Q ls st μ h => ?_) (fun k k' Q ls st μ hk h => ?_)
  · unfold oc_X11_dipsOf at h
    split at h
    · rename_i a1 t0 a0 r
      obtain ⟨rfl, h1, h2⟩ := h
      exact ⟨h1, (a0, a1), rfl, _, h2, fun r h => h⟩
    · exact h.elim
  · unfold oc_X11_dipsOf at h ⊢
    split at h
    · obtain ⟨rfl, h1, h2⟩ := h
      exact ⟨rfl, h1, mo_X11_dipsOf _ _ _ _ (fun q hq => hk _ hq) h2⟩
    · exact h.elim
def o_X11_dipsOf : List (Nat × ix_Op) := [
  (0, ix_aload 0 1),
  (1, ix_geti 10 19 4),
  (4, ix_push (vi 1) 5),
  (5, oc_X11_isUnder 8),
  (8, ix_istore 2 9),
  (9, ix_iload 2 10),
  (10, ix_if (fun x => x = 0) 19 13),
  (13, ix_aload 0 14),
  (14, ix_push (vi 20) 16),
  (16, oc_X11_ran 19),
  (19, ix_aload 0 20),
  (20, ix_push (vi 10) 22),
  (22, oc_X11_ran 25),
  (25, ix_iload 2 26),
  (26, ix_if (fun x => x = 0) 40 29),
  (29, ix_iload 1 30),
  (30, ix_aload 0 31),
  (31, ix_geti 10 20 34),
  (34, ix_bin (fun x y => x + y) 35),
  (35, ix_push (vi 3) 36),
  (36, ix_bin (fun x y => x * y) 37),
  (37, ix_goto 46),
  (40, ix_iload 1 41),
  (41, ix_aload 0 42),
  (42, ix_geti 10 20 45),
  (45, ix_bin (fun x y => x + y) 46),
  (46, ix_iret)]
set_option maxRecDepth 20000 in
theorem a_X11_dipsOf (l : Launch) : ix_AllS l cX11_dipsOf 3 RX11 3 (some .int) o_X11_dipsOf :=
  .cons (ix_s_aload_n dX11_dipsOf_0 rfl) <|
  .cons (ix_s_geti (j := 19) tu_X11 rfl (by decide) (by decide) tw_894 rfl ts_10_19_i dX11_dipsOf_1) <|
  .cons (ix_s_iconst dX11_dipsOf_4 (by decide +kernel)) <|
  .cons (oc_X11_isUnder_s (ix_s_calls (k_X11_isUnder l) (by decide) (by decide) tw_1174 tw_12 tw_1172 tw_1173 ⟨by decide, by decide, by decide +kernel⟩ (fun _ => rfl) dX11_dipsOf_5)) <|
  .cons (ix_s_istore_n dX11_dipsOf_8 rfl (by decide)) <|
  .cons (ix_s_iload_n dX11_dipsOf_9 rfl) <|
  .cons (ix_s_if_eq dX11_dipsOf_10 (by decide)) <|
  .cons (ix_s_aload_n dX11_dipsOf_13 rfl) <|
  .cons (ix_s_bipush dX11_dipsOf_14 (by decide +kernel)) <|
  .cons (oc_X11_ran_s (ix_s_callv (t := 10) (k_X11_ran l) (by decide) (by decide) tw_1333 tw_12 tw_1330 tw_1332 tp_60 ⟨by decide, by decide, by decide +kernel⟩ (by decide) rfl rfl (fun _ => ⟨_, _, rfl, rfl⟩) dX11_dipsOf_16)) <|
  .cons (ix_s_aload_n dX11_dipsOf_19 rfl) <|
  .cons (ix_s_bipush dX11_dipsOf_20 (by decide +kernel)) <|
  .cons (oc_X11_ran_s (ix_s_callv (t := 10) (k_X11_ran l) (by decide) (by decide) tw_1333 tw_12 tw_1330 tw_1332 tp_60 ⟨by decide, by decide, by decide +kernel⟩ (by decide) rfl rfl (fun _ => ⟨_, _, rfl, rfl⟩) dX11_dipsOf_22)) <|
  .cons (ix_s_iload_n dX11_dipsOf_25 rfl) <|
  .cons (ix_s_if_eq dX11_dipsOf_26 (by decide)) <|
  .cons (ix_s_iload_n dX11_dipsOf_29 rfl) <|
  .cons (ix_s_aload_n dX11_dipsOf_30 rfl) <|
  .cons (ix_s_geti (j := 20) tu_X11 rfl (by decide) (by decide) tw_895 rfl ts_10_20_i dX11_dipsOf_31) <|
  .cons (ix_s_iadd dX11_dipsOf_34) <|
  .cons (ix_s_iconst dX11_dipsOf_35 (by decide +kernel)) <|
  .cons (ix_s_imul dX11_dipsOf_36) <|
  .cons (ix_s_goto dX11_dipsOf_37 (by decide)) <|
  .cons (ix_s_iload_n dX11_dipsOf_40 rfl) <|
  .cons (ix_s_aload_n dX11_dipsOf_41 rfl) <|
  .cons (ix_s_geti (j := 20) tu_X11 rfl (by decide) (by decide) tw_895 rfl ts_10_20_i dX11_dipsOf_42) <|
  .cons (ix_s_iadd dX11_dipsOf_45) <|
  .cons (ix_s_iret dX11_dipsOf_46 rfl) <| .nil
theorem e_X11_dipsOf_0 (Q : ix_R → Prop) (ls : ix_L) (st : List ix_V) (μ : ix_M) : ix_Ev o_X11_dipsOf Q (0, ls, st, μ) = ix_aload 0 1 (ix_Ev o_X11_dipsOf Q) Q ls st μ := ix_Ev.eq (a_X11_dipsOf launch0) rfl ls st μ
theorem e_X11_dipsOf_1 (Q : ix_R → Prop) (ls : ix_L) (st : List ix_V) (μ : ix_M) : ix_Ev o_X11_dipsOf Q (1, ls, st, μ) = ix_geti 10 19 4 (ix_Ev o_X11_dipsOf Q) Q ls st μ := ix_Ev.eq (a_X11_dipsOf launch0) rfl ls st μ
theorem e_X11_dipsOf_4 (Q : ix_R → Prop) (ls : ix_L) (st : List ix_V) (μ : ix_M) : ix_Ev o_X11_dipsOf Q (4, ls, st, μ) = ix_push (vi 1) 5 (ix_Ev o_X11_dipsOf Q) Q ls st μ := ix_Ev.eq (a_X11_dipsOf launch0) rfl ls st μ
theorem e_X11_dipsOf_5 (Q : ix_R → Prop) (ls : ix_L) (st : List ix_V) (μ : ix_M) : ix_Ev o_X11_dipsOf Q (5, ls, st, μ) = oc_X11_isUnder 8 (ix_Ev o_X11_dipsOf Q) Q ls st μ := ix_Ev.eq (a_X11_dipsOf launch0) rfl ls st μ
theorem e_X11_dipsOf_8 (Q : ix_R → Prop) (ls : ix_L) (st : List ix_V) (μ : ix_M) : ix_Ev o_X11_dipsOf Q (8, ls, st, μ) = ix_istore 2 9 (ix_Ev o_X11_dipsOf Q) Q ls st μ := ix_Ev.eq (a_X11_dipsOf launch0) rfl ls st μ
theorem e_X11_dipsOf_9 (Q : ix_R → Prop) (ls : ix_L) (st : List ix_V) (μ : ix_M) : ix_Ev o_X11_dipsOf Q (9, ls, st, μ) = ix_iload 2 10 (ix_Ev o_X11_dipsOf Q) Q ls st μ := ix_Ev.eq (a_X11_dipsOf launch0) rfl ls st μ
theorem e_X11_dipsOf_10 (Q : ix_R → Prop) (ls : ix_L) (st : List ix_V) (μ : ix_M) : ix_Ev o_X11_dipsOf Q (10, ls, st, μ) = ix_if (fun x => x = 0) 19 13 (ix_Ev o_X11_dipsOf Q) Q ls st μ := ix_Ev.eq (a_X11_dipsOf launch0) rfl ls st μ
theorem e_X11_dipsOf_13 (Q : ix_R → Prop) (ls : ix_L) (st : List ix_V) (μ : ix_M) : ix_Ev o_X11_dipsOf Q (13, ls, st, μ) = ix_aload 0 14 (ix_Ev o_X11_dipsOf Q) Q ls st μ := ix_Ev.eq (a_X11_dipsOf launch0) rfl ls st μ
theorem e_X11_dipsOf_14 (Q : ix_R → Prop) (ls : ix_L) (st : List ix_V) (μ : ix_M) : ix_Ev o_X11_dipsOf Q (14, ls, st, μ) = ix_push (vi 20) 16 (ix_Ev o_X11_dipsOf Q) Q ls st μ := ix_Ev.eq (a_X11_dipsOf launch0) rfl ls st μ
theorem e_X11_dipsOf_16 (Q : ix_R → Prop) (ls : ix_L) (st : List ix_V) (μ : ix_M) : ix_Ev o_X11_dipsOf Q (16, ls, st, μ) = oc_X11_ran 19 (ix_Ev o_X11_dipsOf Q) Q ls st μ := ix_Ev.eq (a_X11_dipsOf launch0) rfl ls st μ
theorem e_X11_dipsOf_19 (Q : ix_R → Prop) (ls : ix_L) (st : List ix_V) (μ : ix_M) : ix_Ev o_X11_dipsOf Q (19, ls, st, μ) = ix_aload 0 20 (ix_Ev o_X11_dipsOf Q) Q ls st μ := ix_Ev.eq (a_X11_dipsOf launch0) rfl ls st μ
theorem e_X11_dipsOf_20 (Q : ix_R → Prop) (ls : ix_L) (st : List ix_V) (μ : ix_M) : ix_Ev o_X11_dipsOf Q (20, ls, st, μ) = ix_push (vi 10) 22 (ix_Ev o_X11_dipsOf Q) Q ls st μ := ix_Ev.eq (a_X11_dipsOf launch0) rfl ls st μ
theorem e_X11_dipsOf_22 (Q : ix_R → Prop) (ls : ix_L) (st : List ix_V) (μ : ix_M) : ix_Ev o_X11_dipsOf Q (22, ls, st, μ) = oc_X11_ran 25 (ix_Ev o_X11_dipsOf Q) Q ls st μ := ix_Ev.eq (a_X11_dipsOf launch0) rfl ls st μ
theorem e_X11_dipsOf_25 (Q : ix_R → Prop) (ls : ix_L) (st : List ix_V) (μ : ix_M) : ix_Ev o_X11_dipsOf Q (25, ls, st, μ) = ix_iload 2 26 (ix_Ev o_X11_dipsOf Q) Q ls st μ := ix_Ev.eq (a_X11_dipsOf launch0) rfl ls st μ
theorem e_X11_dipsOf_26 (Q : ix_R → Prop) (ls : ix_L) (st : List ix_V) (μ : ix_M) : ix_Ev o_X11_dipsOf Q (26, ls, st, μ) = ix_if (fun x => x = 0) 40 29 (ix_Ev o_X11_dipsOf Q) Q ls st μ := ix_Ev.eq (a_X11_dipsOf launch0) rfl ls st μ
theorem e_X11_dipsOf_29 (Q : ix_R → Prop) (ls : ix_L) (st : List ix_V) (μ : ix_M) : ix_Ev o_X11_dipsOf Q (29, ls, st, μ) = ix_iload 1 30 (ix_Ev o_X11_dipsOf Q) Q ls st μ := ix_Ev.eq (a_X11_dipsOf launch0) rfl ls st μ
theorem e_X11_dipsOf_30 (Q : ix_R → Prop) (ls : ix_L) (st : List ix_V) (μ : ix_M) : ix_Ev o_X11_dipsOf Q (30, ls, st, μ) = ix_aload 0 31 (ix_Ev o_X11_dipsOf Q) Q ls st μ := ix_Ev.eq (a_X11_dipsOf launch0) rfl ls st μ
theorem e_X11_dipsOf_31 (Q : ix_R → Prop) (ls : ix_L) (st : List ix_V) (μ : ix_M) : ix_Ev o_X11_dipsOf Q (31, ls, st, μ) = ix_geti 10 20 34 (ix_Ev o_X11_dipsOf Q) Q ls st μ := ix_Ev.eq (a_X11_dipsOf launch0) rfl ls st μ
theorem e_X11_dipsOf_34 (Q : ix_R → Prop) (ls : ix_L) (st : List ix_V) (μ : ix_M) : ix_Ev o_X11_dipsOf Q (34, ls, st, μ) = ix_bin (fun x y => x + y) 35 (ix_Ev o_X11_dipsOf Q) Q ls st μ := ix_Ev.eq (a_X11_dipsOf launch0) rfl ls st μ
theorem e_X11_dipsOf_35 (Q : ix_R → Prop) (ls : ix_L) (st : List ix_V) (μ : ix_M) : ix_Ev o_X11_dipsOf Q (35, ls, st, μ) = ix_push (vi 3) 36 (ix_Ev o_X11_dipsOf Q) Q ls st μ := ix_Ev.eq (a_X11_dipsOf launch0) rfl ls st μ
theorem e_X11_dipsOf_36 (Q : ix_R → Prop) (ls : ix_L) (st : List ix_V) (μ : ix_M) : ix_Ev o_X11_dipsOf Q (36, ls, st, μ) = ix_bin (fun x y => x * y) 37 (ix_Ev o_X11_dipsOf Q) Q ls st μ := ix_Ev.eq (a_X11_dipsOf launch0) rfl ls st μ
theorem e_X11_dipsOf_37 (Q : ix_R → Prop) (ls : ix_L) (st : List ix_V) (μ : ix_M) : ix_Ev o_X11_dipsOf Q (37, ls, st, μ) = ix_goto 46 (ix_Ev o_X11_dipsOf Q) Q ls st μ := ix_Ev.eq (a_X11_dipsOf launch0) rfl ls st μ
theorem e_X11_dipsOf_40 (Q : ix_R → Prop) (ls : ix_L) (st : List ix_V) (μ : ix_M) : ix_Ev o_X11_dipsOf Q (40, ls, st, μ) = ix_iload 1 41 (ix_Ev o_X11_dipsOf Q) Q ls st μ := ix_Ev.eq (a_X11_dipsOf launch0) rfl ls st μ
theorem e_X11_dipsOf_41 (Q : ix_R → Prop) (ls : ix_L) (st : List ix_V) (μ : ix_M) : ix_Ev o_X11_dipsOf Q (41, ls, st, μ) = ix_aload 0 42 (ix_Ev o_X11_dipsOf Q) Q ls st μ := ix_Ev.eq (a_X11_dipsOf launch0) rfl ls st μ
theorem e_X11_dipsOf_42 (Q : ix_R → Prop) (ls : ix_L) (st : List ix_V) (μ : ix_M) : ix_Ev o_X11_dipsOf Q (42, ls, st, μ) = ix_geti 10 20 45 (ix_Ev o_X11_dipsOf Q) Q ls st μ := ix_Ev.eq (a_X11_dipsOf launch0) rfl ls st μ
theorem e_X11_dipsOf_45 (Q : ix_R → Prop) (ls : ix_L) (st : List ix_V) (μ : ix_M) : ix_Ev o_X11_dipsOf Q (45, ls, st, μ) = ix_bin (fun x y => x + y) 46 (ix_Ev o_X11_dipsOf Q) Q ls st μ := ix_Ev.eq (a_X11_dipsOf launch0) rfl ls st μ
theorem e_X11_dipsOf_46 (Q : ix_R → Prop) (ls : ix_L) (st : List ix_V) (μ : ix_M) : ix_Ev o_X11_dipsOf Q (46, ls, st, μ) = ix_iret (ix_Ev o_X11_dipsOf Q) Q ls st μ := ix_Ev.eq (a_X11_dipsOf launch0) rfl ls st μ
theorem r_X11_dipsOf (o : Nat) (x : Int32) (μ : ix_M) (Q : ix_R → Prop) (ok_o : o < ix_N ∧ ix_tag o = 10) (hT : T_X11_dipsOf (o, x) μ Q) : ix_Ev o_X11_dipsOf Q (0, [some (vr 10 o), some (vi x), none], [], μ) := by
  obtain rfl := ok_10 o ok_o.1 ok_o.2
  obtain ⟨K, nb, mm, tr, h1, hQ⟩ := hT
  have h19 := h1.1.1
  unfold vD at hQ
  simp (decide := true) only [e_X11_dipsOf_0, e_X11_dipsOf_1, e_X11_dipsOf_4, e_X11_dipsOf_5, e_X11_dipsOf_8, e_X11_dipsOf_9, e_X11_dipsOf_10, e_X11_dipsOf_13, e_X11_dipsOf_14, e_X11_dipsOf_16, e_X11_dipsOf_19, e_X11_dipsOf_20, e_X11_dipsOf_22, e_X11_dipsOf_25, e_X11_dipsOf_26, e_X11_dipsOf_29, e_X11_dipsOf_30, e_X11_dipsOf_31, e_X11_dipsOf_34, e_X11_dipsOf_35, e_X11_dipsOf_36, e_X11_dipsOf_37, e_X11_dipsOf_40, e_X11_dipsOf_41, e_X11_dipsOf_42, e_X11_dipsOf_45, e_X11_dipsOf_46, vi, vl, vr, oc_X11_isUnder, T_X11_isUnder, oc_X11_ran, T_X11_ran, ix_push, ix_iload, ix_lload, ix_aload, ix_istore, ix_astore, ix_iinc, ix_bin, ix_div, ix_un, ix_i2l, ix_l2i, ix_lbin, ix_lsh, ix_lcmp, ix_dup, ix_dup2, ix_pop, ix_if, ix_cmp, ix_goto, ix_switch, ix_sw, ix_iret, ix_zret, ix_vret, ix_aret, ix_geti, ix_getr, ix_puti, ix_putz, ix_puts, ix_gets, ix_iald, ix_iast, ix_alen, ix_aald, ix_gval, ix_gcod, ix_bald, ix_blen, ix_sald, ix_nret, ix_math2, ix_math1, ix_acopy, ml_113, ml_114, ml_115, ml_116, ml_118, ml_119, ml_120, ml_121, ml_122, ml_123, ml_124, ml_125, ml_126, mv_0, mv_1, mv_2, mv_3, mv_4, mv_5, mB_or, Nat.add_assoc, Int32.reduceLT, Int32.reduceLE, Int32.reduceToNatClampNeg, Int32.reduceSub, Int32.reduceAdd, Nat.reduceAdd, Nat.reduceLeDiff, true_or, or_true, or_false, false_or, not_false_eq_true, not_true_eq_false, false_implies, true_implies, implies_true, and_self, mB_0, mB_01, Classical.not_not, Nat.zero_le, List.getElem?_cons_zero, List.getElem?_cons_succ, List.set_cons_zero, List.set_cons_succ, ix_nl, ix_cs, true_and, and_true, Option.toList_some, Option.toList_none, List.cons_append, List.nil_append, h19]
  refine ⟨⟨K, h1.1.2, rfl⟩, fun c => ?_, fun c => ?_⟩
  · simp only [if_neg c] at hQ
    refine ⟨K, nb, mm, tr, h1, fun μ1 F1 g1 => ?_⟩
    rw [g1.2.1]
    exact ⟨fun _ => hQ μ1 F1 g1, fun z => absurd z c⟩
  · simp only [if_pos c] at hQ
    refine ⟨K, nb, mm, tr, h1, fun μ1 F1 g1 => ⟨K, nb, mm, _, g1, fun μ2 F2 g2 => ?_⟩⟩
    rw [g2.2.1]
    exact ⟨fun z => absurd c z, fun _ => hQ μ2 (F1.tr F2) g2⟩
theorem k_X11_dipsOf (l : Launch) : ix_Ct l yX11_dipsOf cX11_dipsOf 3 (some .int) 3 sh_X11_dipsOf T_X11_dipsOf := ix_ct (a_X11_dipsOf l) rfl (by decide) (fun _ => Nat.le_of_ble_eq_true rfl) (fun x μ Q hok hT => r_X11_dipsOf x.1 x.2 μ Q (ix_ok_at (hok (vr 10 x.1) (by simp [sh_X11_dipsOf])) (by decide) (by decide)) hT)
def vTn (x : Int32) (K : Nat) (nb mm : Int32) (tr : List Int32) : Int32 × List Int32 :=
  if K = 6 then ((-(x - mm)) ^^^ nb, vPush (vPush (vPush tr 70) 40) 12) else if und K 3 then (-(x - mm), vPush (vPush tr 40) 12) else (x - mm, vPush tr 12)
theorem und6 : und 6 3 := by decide +kernel
def T_X11_turnsOf : Nat × Int32 → ix_M → (ix_R → Prop) → Prop := fun (_, x) μ Q => VT (vTn x) μ Q
def sh_X11_turnsOf (x : Nat × Int32) : List ix_V := [vr 10 x.1, vi x.2]
theorem mo_X11_turnsOf (x : Nat × Int32) (μ : ix_M) (Q Q' : ix_R → Prop) (h : ∀ r, Q r → Q' r) (hT : T_X11_turnsOf x μ Q) : T_X11_turnsOf x μ Q' := by
  obtain ⟨a0, a1⟩ := x
  (exact mo_VT (f := vTn a1) h hT)
def oc_X11_turnsOf (n : Nat) : ix_Op := fun k _ ls st μ => match st with
  | .inl a1 :: .inr (.inr (t0, a0)) :: r => t0 = 10 ∧ ix_cs r ≤ 8 ∧ T_X11_turnsOf (a0, a1) μ (fun q => k (n, ls, q.1.toList ++ r, q.2))
  | _ => False
theorem oc_X11_turnsOf_s {l : Launch} {cc : ByteArray} {nL : Nat} {own : String} {d : Nat} {rt : Option FieldType} {pc n : Nat} (h : ix_S l cc nL own d rt pc (ix_call 2 sh_X11_turnsOf T_X11_turnsOf n)) : ix_S l cc nL own d rt pc (oc_X11_turnsOf n) := by
  refine h.by (fun k Q ls st μ h => ?_) (fun k k' Q ls st μ hk h => ?_)
  · unfold oc_X11_turnsOf at h
    split at h
    · rename_i a1 t0 a0 r
      obtain ⟨rfl, h1, h2⟩ := h
      exact ⟨h1, (a0, a1), rfl, _, h2, fun r h => h⟩
    · exact h.elim
  · unfold oc_X11_turnsOf at h ⊢
    split at h
    · obtain ⟨rfl, h1, h2⟩ := h
      exact ⟨rfl, h1, mo_X11_turnsOf _ _ _ _ (fun q hq => hk _ hq) h2⟩
    · exact h.elim
def o_X11_turnsOf : List (Nat × ix_Op) := [
  (0, ix_aload 0 1),
  (1, ix_geti 10 19 4),
  (4, ix_push (vi 6) 6),
  (6, ix_cmp (fun x y => x = y) 9 15),
  (9, ix_aload 0 10),
  (10, ix_push (vi 70) 12),
  (12, oc_X11_ran 15),
  (15, ix_aload 0 16),
  (16, ix_geti 10 19 19),
  (19, ix_push (vi 3) 20),
  (20, oc_X11_isUnder 23),
  (23, ix_istore 2 24),
  (24, ix_iload 2 25),
  (25, ix_if (fun x => x = 0) 34 28),
  (28, ix_aload 0 29),
  (29, ix_push (vi 40) 31),
  (31, oc_X11_ran 34),
  (34, ix_aload 0 35),
  (35, ix_push (vi 12) 37),
  (37, oc_X11_ran 40),
  (40, ix_iload 2 41),
  (41, ix_if (fun x => x = 0) 54 44),
  (44, ix_iload 1 45),
  (45, ix_aload 0 46),
  (46, ix_geti 10 21 49),
  (49, ix_bin (fun x y => x - y) 50),
  (50, ix_un (fun x => -x) 51),
  (51, ix_goto 60),
  (54, ix_iload 1 55),
  (55, ix_aload 0 56),
  (56, ix_geti 10 21 59),
  (59, ix_bin (fun x y => x - y) 60),
  (60, ix_istore 3 61),
  (61, ix_aload 0 62),
  (62, ix_geti 10 19 65),
  (65, ix_push (vi 6) 67),
  (67, ix_cmp (fun x y => x = y) 70 79),
  (70, ix_iload 3 71),
  (71, ix_aload 0 72),
  (72, ix_geti 10 20 75),
  (75, ix_bin (fun x y => x ^^^ y) 76),
  (76, ix_goto 80),
  (79, ix_iload 3 80),
  (80, ix_iret)]
set_option maxRecDepth 20000 in
theorem a_X11_turnsOf (l : Launch) : ix_AllS l cX11_turnsOf 4 RX11 3 (some .int) o_X11_turnsOf :=
  .cons (ix_s_aload_n dX11_turnsOf_0 rfl) <|
  .cons (ix_s_geti (j := 19) tu_X11 rfl (by decide) (by decide) tw_894 rfl ts_10_19_i dX11_turnsOf_1) <|
  .cons (ix_s_bipush dX11_turnsOf_4 (by decide +kernel)) <|
  .cons (ix_s_cmp_ne dX11_turnsOf_6 (by decide)) <|
  .cons (ix_s_aload_n dX11_turnsOf_9 rfl) <|
  .cons (ix_s_bipush dX11_turnsOf_10 (by decide +kernel)) <|
  .cons (oc_X11_ran_s (ix_s_callv (t := 10) (k_X11_ran l) (by decide) (by decide) tw_1333 tw_12 tw_1330 tw_1332 tp_60 ⟨by decide, by decide, by decide +kernel⟩ (by decide) rfl rfl (fun _ => ⟨_, _, rfl, rfl⟩) dX11_turnsOf_12)) <|
  .cons (ix_s_aload_n dX11_turnsOf_15 rfl) <|
  .cons (ix_s_geti (j := 19) tu_X11 rfl (by decide) (by decide) tw_894 rfl ts_10_19_i dX11_turnsOf_16) <|
  .cons (ix_s_iconst dX11_turnsOf_19 (by decide +kernel)) <|
  .cons (oc_X11_isUnder_s (ix_s_calls (k_X11_isUnder l) (by decide) (by decide) tw_1174 tw_12 tw_1172 tw_1173 ⟨by decide, by decide, by decide +kernel⟩ (fun _ => rfl) dX11_turnsOf_20)) <|
  .cons (ix_s_istore_n dX11_turnsOf_23 rfl (by decide)) <|
  .cons (ix_s_iload_n dX11_turnsOf_24 rfl) <|
  .cons (ix_s_if_eq dX11_turnsOf_25 (by decide)) <|
  .cons (ix_s_aload_n dX11_turnsOf_28 rfl) <|
  .cons (ix_s_bipush dX11_turnsOf_29 (by decide +kernel)) <|
  .cons (oc_X11_ran_s (ix_s_callv (t := 10) (k_X11_ran l) (by decide) (by decide) tw_1333 tw_12 tw_1330 tw_1332 tp_60 ⟨by decide, by decide, by decide +kernel⟩ (by decide) rfl rfl (fun _ => ⟨_, _, rfl, rfl⟩) dX11_turnsOf_31)) <|
  .cons (ix_s_aload_n dX11_turnsOf_34 rfl) <|
  .cons (ix_s_bipush dX11_turnsOf_35 (by decide +kernel)) <|
  .cons (oc_X11_ran_s (ix_s_callv (t := 10) (k_X11_ran l) (by decide) (by decide) tw_1333 tw_12 tw_1330 tw_1332 tp_60 ⟨by decide, by decide, by decide +kernel⟩ (by decide) rfl rfl (fun _ => ⟨_, _, rfl, rfl⟩) dX11_turnsOf_37)) <|
  .cons (ix_s_iload_n dX11_turnsOf_40 rfl) <|
  .cons (ix_s_if_eq dX11_turnsOf_41 (by decide)) <|
  .cons (ix_s_iload_n dX11_turnsOf_44 rfl) <|
  .cons (ix_s_aload_n dX11_turnsOf_45 rfl) <|
  .cons (ix_s_geti (j := 21) tu_X11 rfl (by decide) (by decide) tw_896 rfl ts_10_21_i dX11_turnsOf_46) <|
  .cons (ix_s_isub dX11_turnsOf_49) <|
  .cons (ix_s_ineg dX11_turnsOf_50) <|
  .cons (ix_s_goto dX11_turnsOf_51 (by decide)) <|
  .cons (ix_s_iload_n dX11_turnsOf_54 rfl) <|
  .cons (ix_s_aload_n dX11_turnsOf_55 rfl) <|
  .cons (ix_s_geti (j := 21) tu_X11 rfl (by decide) (by decide) tw_896 rfl ts_10_21_i dX11_turnsOf_56) <|
  .cons (ix_s_isub dX11_turnsOf_59) <|
  .cons (ix_s_istore_n dX11_turnsOf_60 rfl (by decide)) <|
  .cons (ix_s_aload_n dX11_turnsOf_61 rfl) <|
  .cons (ix_s_geti (j := 19) tu_X11 rfl (by decide) (by decide) tw_894 rfl ts_10_19_i dX11_turnsOf_62) <|
  .cons (ix_s_bipush dX11_turnsOf_65 (by decide +kernel)) <|
  .cons (ix_s_cmp_ne dX11_turnsOf_67 (by decide)) <|
  .cons (ix_s_iload_n dX11_turnsOf_70 rfl) <|
  .cons (ix_s_aload_n dX11_turnsOf_71 rfl) <|
  .cons (ix_s_geti (j := 20) tu_X11 rfl (by decide) (by decide) tw_895 rfl ts_10_20_i dX11_turnsOf_72) <|
  .cons (ix_s_ixor dX11_turnsOf_75) <|
  .cons (ix_s_goto dX11_turnsOf_76 (by decide)) <|
  .cons (ix_s_iload_n dX11_turnsOf_79 rfl) <|
  .cons (ix_s_iret dX11_turnsOf_80 rfl) <| .nil
theorem e_X11_turnsOf_0 (Q : ix_R → Prop) (ls : ix_L) (st : List ix_V) (μ : ix_M) : ix_Ev o_X11_turnsOf Q (0, ls, st, μ) = ix_aload 0 1 (ix_Ev o_X11_turnsOf Q) Q ls st μ := ix_Ev.eq (a_X11_turnsOf launch0) rfl ls st μ
theorem e_X11_turnsOf_1 (Q : ix_R → Prop) (ls : ix_L) (st : List ix_V) (μ : ix_M) : ix_Ev o_X11_turnsOf Q (1, ls, st, μ) = ix_geti 10 19 4 (ix_Ev o_X11_turnsOf Q) Q ls st μ := ix_Ev.eq (a_X11_turnsOf launch0) rfl ls st μ
theorem e_X11_turnsOf_4 (Q : ix_R → Prop) (ls : ix_L) (st : List ix_V) (μ : ix_M) : ix_Ev o_X11_turnsOf Q (4, ls, st, μ) = ix_push (vi 6) 6 (ix_Ev o_X11_turnsOf Q) Q ls st μ := ix_Ev.eq (a_X11_turnsOf launch0) rfl ls st μ
theorem e_X11_turnsOf_6 (Q : ix_R → Prop) (ls : ix_L) (st : List ix_V) (μ : ix_M) : ix_Ev o_X11_turnsOf Q (6, ls, st, μ) = ix_cmp (fun x y => x = y) 9 15 (ix_Ev o_X11_turnsOf Q) Q ls st μ := ix_Ev.eq (a_X11_turnsOf launch0) rfl ls st μ
theorem e_X11_turnsOf_9 (Q : ix_R → Prop) (ls : ix_L) (st : List ix_V) (μ : ix_M) : ix_Ev o_X11_turnsOf Q (9, ls, st, μ) = ix_aload 0 10 (ix_Ev o_X11_turnsOf Q) Q ls st μ := ix_Ev.eq (a_X11_turnsOf launch0) rfl ls st μ
theorem e_X11_turnsOf_10 (Q : ix_R → Prop) (ls : ix_L) (st : List ix_V) (μ : ix_M) : ix_Ev o_X11_turnsOf Q (10, ls, st, μ) = ix_push (vi 70) 12 (ix_Ev o_X11_turnsOf Q) Q ls st μ := ix_Ev.eq (a_X11_turnsOf launch0) rfl ls st μ
theorem e_X11_turnsOf_12 (Q : ix_R → Prop) (ls : ix_L) (st : List ix_V) (μ : ix_M) : ix_Ev o_X11_turnsOf Q (12, ls, st, μ) = oc_X11_ran 15 (ix_Ev o_X11_turnsOf Q) Q ls st μ := ix_Ev.eq (a_X11_turnsOf launch0) rfl ls st μ
theorem e_X11_turnsOf_15 (Q : ix_R → Prop) (ls : ix_L) (st : List ix_V) (μ : ix_M) : ix_Ev o_X11_turnsOf Q (15, ls, st, μ) = ix_aload 0 16 (ix_Ev o_X11_turnsOf Q) Q ls st μ := ix_Ev.eq (a_X11_turnsOf launch0) rfl ls st μ
theorem e_X11_turnsOf_16 (Q : ix_R → Prop) (ls : ix_L) (st : List ix_V) (μ : ix_M) : ix_Ev o_X11_turnsOf Q (16, ls, st, μ) = ix_geti 10 19 19 (ix_Ev o_X11_turnsOf Q) Q ls st μ := ix_Ev.eq (a_X11_turnsOf launch0) rfl ls st μ
theorem e_X11_turnsOf_19 (Q : ix_R → Prop) (ls : ix_L) (st : List ix_V) (μ : ix_M) : ix_Ev o_X11_turnsOf Q (19, ls, st, μ) = ix_push (vi 3) 20 (ix_Ev o_X11_turnsOf Q) Q ls st μ := ix_Ev.eq (a_X11_turnsOf launch0) rfl ls st μ
theorem e_X11_turnsOf_20 (Q : ix_R → Prop) (ls : ix_L) (st : List ix_V) (μ : ix_M) : ix_Ev o_X11_turnsOf Q (20, ls, st, μ) = oc_X11_isUnder 23 (ix_Ev o_X11_turnsOf Q) Q ls st μ := ix_Ev.eq (a_X11_turnsOf launch0) rfl ls st μ
theorem e_X11_turnsOf_23 (Q : ix_R → Prop) (ls : ix_L) (st : List ix_V) (μ : ix_M) : ix_Ev o_X11_turnsOf Q (23, ls, st, μ) = ix_istore 2 24 (ix_Ev o_X11_turnsOf Q) Q ls st μ := ix_Ev.eq (a_X11_turnsOf launch0) rfl ls st μ
theorem e_X11_turnsOf_24 (Q : ix_R → Prop) (ls : ix_L) (st : List ix_V) (μ : ix_M) : ix_Ev o_X11_turnsOf Q (24, ls, st, μ) = ix_iload 2 25 (ix_Ev o_X11_turnsOf Q) Q ls st μ := ix_Ev.eq (a_X11_turnsOf launch0) rfl ls st μ
theorem e_X11_turnsOf_25 (Q : ix_R → Prop) (ls : ix_L) (st : List ix_V) (μ : ix_M) : ix_Ev o_X11_turnsOf Q (25, ls, st, μ) = ix_if (fun x => x = 0) 34 28 (ix_Ev o_X11_turnsOf Q) Q ls st μ := ix_Ev.eq (a_X11_turnsOf launch0) rfl ls st μ
theorem e_X11_turnsOf_28 (Q : ix_R → Prop) (ls : ix_L) (st : List ix_V) (μ : ix_M) : ix_Ev o_X11_turnsOf Q (28, ls, st, μ) = ix_aload 0 29 (ix_Ev o_X11_turnsOf Q) Q ls st μ := ix_Ev.eq (a_X11_turnsOf launch0) rfl ls st μ
theorem e_X11_turnsOf_29 (Q : ix_R → Prop) (ls : ix_L) (st : List ix_V) (μ : ix_M) : ix_Ev o_X11_turnsOf Q (29, ls, st, μ) = ix_push (vi 40) 31 (ix_Ev o_X11_turnsOf Q) Q ls st μ := ix_Ev.eq (a_X11_turnsOf launch0) rfl ls st μ
theorem e_X11_turnsOf_31 (Q : ix_R → Prop) (ls : ix_L) (st : List ix_V) (μ : ix_M) : ix_Ev o_X11_turnsOf Q (31, ls, st, μ) = oc_X11_ran 34 (ix_Ev o_X11_turnsOf Q) Q ls st μ := ix_Ev.eq (a_X11_turnsOf launch0) rfl ls st μ
theorem e_X11_turnsOf_34 (Q : ix_R → Prop) (ls : ix_L) (st : List ix_V) (μ : ix_M) : ix_Ev o_X11_turnsOf Q (34, ls, st, μ) = ix_aload 0 35 (ix_Ev o_X11_turnsOf Q) Q ls st μ := ix_Ev.eq (a_X11_turnsOf launch0) rfl ls st μ
theorem e_X11_turnsOf_35 (Q : ix_R → Prop) (ls : ix_L) (st : List ix_V) (μ : ix_M) : ix_Ev o_X11_turnsOf Q (35, ls, st, μ) = ix_push (vi 12) 37 (ix_Ev o_X11_turnsOf Q) Q ls st μ := ix_Ev.eq (a_X11_turnsOf launch0) rfl ls st μ
theorem e_X11_turnsOf_37 (Q : ix_R → Prop) (ls : ix_L) (st : List ix_V) (μ : ix_M) : ix_Ev o_X11_turnsOf Q (37, ls, st, μ) = oc_X11_ran 40 (ix_Ev o_X11_turnsOf Q) Q ls st μ := ix_Ev.eq (a_X11_turnsOf launch0) rfl ls st μ
theorem e_X11_turnsOf_40 (Q : ix_R → Prop) (ls : ix_L) (st : List ix_V) (μ : ix_M) : ix_Ev o_X11_turnsOf Q (40, ls, st, μ) = ix_iload 2 41 (ix_Ev o_X11_turnsOf Q) Q ls st μ := ix_Ev.eq (a_X11_turnsOf launch0) rfl ls st μ
theorem e_X11_turnsOf_41 (Q : ix_R → Prop) (ls : ix_L) (st : List ix_V) (μ : ix_M) : ix_Ev o_X11_turnsOf Q (41, ls, st, μ) = ix_if (fun x => x = 0) 54 44 (ix_Ev o_X11_turnsOf Q) Q ls st μ := ix_Ev.eq (a_X11_turnsOf launch0) rfl ls st μ
theorem e_X11_turnsOf_44 (Q : ix_R → Prop) (ls : ix_L) (st : List ix_V) (μ : ix_M) : ix_Ev o_X11_turnsOf Q (44, ls, st, μ) = ix_iload 1 45 (ix_Ev o_X11_turnsOf Q) Q ls st μ := ix_Ev.eq (a_X11_turnsOf launch0) rfl ls st μ
theorem e_X11_turnsOf_45 (Q : ix_R → Prop) (ls : ix_L) (st : List ix_V) (μ : ix_M) : ix_Ev o_X11_turnsOf Q (45, ls, st, μ) = ix_aload 0 46 (ix_Ev o_X11_turnsOf Q) Q ls st μ := ix_Ev.eq (a_X11_turnsOf launch0) rfl ls st μ
theorem e_X11_turnsOf_46 (Q : ix_R → Prop) (ls : ix_L) (st : List ix_V) (μ : ix_M) : ix_Ev o_X11_turnsOf Q (46, ls, st, μ) = ix_geti 10 21 49 (ix_Ev o_X11_turnsOf Q) Q ls st μ := ix_Ev.eq (a_X11_turnsOf launch0) rfl ls st μ
theorem e_X11_turnsOf_49 (Q : ix_R → Prop) (ls : ix_L) (st : List ix_V) (μ : ix_M) : ix_Ev o_X11_turnsOf Q (49, ls, st, μ) = ix_bin (fun x y => x - y) 50 (ix_Ev o_X11_turnsOf Q) Q ls st μ := ix_Ev.eq (a_X11_turnsOf launch0) rfl ls st μ
theorem e_X11_turnsOf_50 (Q : ix_R → Prop) (ls : ix_L) (st : List ix_V) (μ : ix_M) : ix_Ev o_X11_turnsOf Q (50, ls, st, μ) = ix_un (fun x => -x) 51 (ix_Ev o_X11_turnsOf Q) Q ls st μ := ix_Ev.eq (a_X11_turnsOf launch0) rfl ls st μ
theorem e_X11_turnsOf_51 (Q : ix_R → Prop) (ls : ix_L) (st : List ix_V) (μ : ix_M) : ix_Ev o_X11_turnsOf Q (51, ls, st, μ) = ix_goto 60 (ix_Ev o_X11_turnsOf Q) Q ls st μ := ix_Ev.eq (a_X11_turnsOf launch0) rfl ls st μ
theorem e_X11_turnsOf_54 (Q : ix_R → Prop) (ls : ix_L) (st : List ix_V) (μ : ix_M) : ix_Ev o_X11_turnsOf Q (54, ls, st, μ) = ix_iload 1 55 (ix_Ev o_X11_turnsOf Q) Q ls st μ := ix_Ev.eq (a_X11_turnsOf launch0) rfl ls st μ
theorem e_X11_turnsOf_55 (Q : ix_R → Prop) (ls : ix_L) (st : List ix_V) (μ : ix_M) : ix_Ev o_X11_turnsOf Q (55, ls, st, μ) = ix_aload 0 56 (ix_Ev o_X11_turnsOf Q) Q ls st μ := ix_Ev.eq (a_X11_turnsOf launch0) rfl ls st μ
theorem e_X11_turnsOf_56 (Q : ix_R → Prop) (ls : ix_L) (st : List ix_V) (μ : ix_M) : ix_Ev o_X11_turnsOf Q (56, ls, st, μ) = ix_geti 10 21 59 (ix_Ev o_X11_turnsOf Q) Q ls st μ := ix_Ev.eq (a_X11_turnsOf launch0) rfl ls st μ
theorem e_X11_turnsOf_59 (Q : ix_R → Prop) (ls : ix_L) (st : List ix_V) (μ : ix_M) : ix_Ev o_X11_turnsOf Q (59, ls, st, μ) = ix_bin (fun x y => x - y) 60 (ix_Ev o_X11_turnsOf Q) Q ls st μ := ix_Ev.eq (a_X11_turnsOf launch0) rfl ls st μ
theorem e_X11_turnsOf_60 (Q : ix_R → Prop) (ls : ix_L) (st : List ix_V) (μ : ix_M) : ix_Ev o_X11_turnsOf Q (60, ls, st, μ) = ix_istore 3 61 (ix_Ev o_X11_turnsOf Q) Q ls st μ := ix_Ev.eq (a_X11_turnsOf launch0) rfl ls st μ
theorem e_X11_turnsOf_61 (Q : ix_R → Prop) (ls : ix_L) (st : List ix_V) (μ : ix_M) : ix_Ev o_X11_turnsOf Q (61, ls, st, μ) = ix_aload 0 62 (ix_Ev o_X11_turnsOf Q) Q ls st μ := ix_Ev.eq (a_X11_turnsOf launch0) rfl ls st μ
theorem e_X11_turnsOf_62 (Q : ix_R → Prop) (ls : ix_L) (st : List ix_V) (μ : ix_M) : ix_Ev o_X11_turnsOf Q (62, ls, st, μ) = ix_geti 10 19 65 (ix_Ev o_X11_turnsOf Q) Q ls st μ := ix_Ev.eq (a_X11_turnsOf launch0) rfl ls st μ
theorem e_X11_turnsOf_65 (Q : ix_R → Prop) (ls : ix_L) (st : List ix_V) (μ : ix_M) : ix_Ev o_X11_turnsOf Q (65, ls, st, μ) = ix_push (vi 6) 67 (ix_Ev o_X11_turnsOf Q) Q ls st μ := ix_Ev.eq (a_X11_turnsOf launch0) rfl ls st μ
theorem e_X11_turnsOf_67 (Q : ix_R → Prop) (ls : ix_L) (st : List ix_V) (μ : ix_M) : ix_Ev o_X11_turnsOf Q (67, ls, st, μ) = ix_cmp (fun x y => x = y) 70 79 (ix_Ev o_X11_turnsOf Q) Q ls st μ := ix_Ev.eq (a_X11_turnsOf launch0) rfl ls st μ
theorem e_X11_turnsOf_70 (Q : ix_R → Prop) (ls : ix_L) (st : List ix_V) (μ : ix_M) : ix_Ev o_X11_turnsOf Q (70, ls, st, μ) = ix_iload 3 71 (ix_Ev o_X11_turnsOf Q) Q ls st μ := ix_Ev.eq (a_X11_turnsOf launch0) rfl ls st μ
theorem e_X11_turnsOf_71 (Q : ix_R → Prop) (ls : ix_L) (st : List ix_V) (μ : ix_M) : ix_Ev o_X11_turnsOf Q (71, ls, st, μ) = ix_aload 0 72 (ix_Ev o_X11_turnsOf Q) Q ls st μ := ix_Ev.eq (a_X11_turnsOf launch0) rfl ls st μ
theorem e_X11_turnsOf_72 (Q : ix_R → Prop) (ls : ix_L) (st : List ix_V) (μ : ix_M) : ix_Ev o_X11_turnsOf Q (72, ls, st, μ) = ix_geti 10 20 75 (ix_Ev o_X11_turnsOf Q) Q ls st μ := ix_Ev.eq (a_X11_turnsOf launch0) rfl ls st μ
theorem e_X11_turnsOf_75 (Q : ix_R → Prop) (ls : ix_L) (st : List ix_V) (μ : ix_M) : ix_Ev o_X11_turnsOf Q (75, ls, st, μ) = ix_bin (fun x y => x ^^^ y) 76 (ix_Ev o_X11_turnsOf Q) Q ls st μ := ix_Ev.eq (a_X11_turnsOf launch0) rfl ls st μ
theorem e_X11_turnsOf_76 (Q : ix_R → Prop) (ls : ix_L) (st : List ix_V) (μ : ix_M) : ix_Ev o_X11_turnsOf Q (76, ls, st, μ) = ix_goto 80 (ix_Ev o_X11_turnsOf Q) Q ls st μ := ix_Ev.eq (a_X11_turnsOf launch0) rfl ls st μ
theorem e_X11_turnsOf_79 (Q : ix_R → Prop) (ls : ix_L) (st : List ix_V) (μ : ix_M) : ix_Ev o_X11_turnsOf Q (79, ls, st, μ) = ix_iload 3 80 (ix_Ev o_X11_turnsOf Q) Q ls st μ := ix_Ev.eq (a_X11_turnsOf launch0) rfl ls st μ
theorem e_X11_turnsOf_80 (Q : ix_R → Prop) (ls : ix_L) (st : List ix_V) (μ : ix_M) : ix_Ev o_X11_turnsOf Q (80, ls, st, μ) = ix_iret (ix_Ev o_X11_turnsOf Q) Q ls st μ := ix_Ev.eq (a_X11_turnsOf launch0) rfl ls st μ
theorem r_X11_turnsOf (o : Nat) (x : Int32) (μ : ix_M) (Q : ix_R → Prop) (ok_o : o < ix_N ∧ ix_tag o = 10) (hT : T_X11_turnsOf (o, x) μ Q) : ix_Ev o_X11_turnsOf Q (0, [some (vr 10 o), some (vi x), none, none], [], μ) := by
  obtain rfl := ok_10 o ok_o.1 ok_o.2
  obtain ⟨K, nb, mm, tr, h1, hQ⟩ := hT
  have h19 := h1.1.1
  have hK := h1.1.2
  have h6 : nI K = 6 ↔ K = 6 := nI_eq (b := 6) (by omega) (by decide)
  unfold vTn at hQ
  simp (decide := true) only [e_X11_turnsOf_0, e_X11_turnsOf_1, e_X11_turnsOf_4, e_X11_turnsOf_6, e_X11_turnsOf_9, e_X11_turnsOf_10, e_X11_turnsOf_12, e_X11_turnsOf_15, e_X11_turnsOf_16, e_X11_turnsOf_19, e_X11_turnsOf_20, e_X11_turnsOf_23, e_X11_turnsOf_24, e_X11_turnsOf_25, e_X11_turnsOf_28, e_X11_turnsOf_29, e_X11_turnsOf_31, e_X11_turnsOf_34, e_X11_turnsOf_35, e_X11_turnsOf_37, e_X11_turnsOf_40, e_X11_turnsOf_41, e_X11_turnsOf_44, e_X11_turnsOf_45, e_X11_turnsOf_46, e_X11_turnsOf_49, e_X11_turnsOf_50, e_X11_turnsOf_51, e_X11_turnsOf_54, e_X11_turnsOf_55, e_X11_turnsOf_56, e_X11_turnsOf_59, e_X11_turnsOf_60, e_X11_turnsOf_61, e_X11_turnsOf_62, e_X11_turnsOf_65, e_X11_turnsOf_67, e_X11_turnsOf_70, e_X11_turnsOf_71, e_X11_turnsOf_72, e_X11_turnsOf_75, e_X11_turnsOf_76, e_X11_turnsOf_79, e_X11_turnsOf_80, vi, vl, vr, oc_X11_isUnder, T_X11_isUnder, oc_X11_ran, T_X11_ran, ix_push, ix_iload, ix_lload, ix_aload, ix_istore, ix_astore, ix_iinc, ix_bin, ix_div, ix_un, ix_i2l, ix_l2i, ix_lbin, ix_lsh, ix_lcmp, ix_dup, ix_dup2, ix_pop, ix_if, ix_cmp, ix_goto, ix_switch, ix_sw, ix_iret, ix_zret, ix_vret, ix_aret, ix_geti, ix_getr, ix_puti, ix_putz, ix_puts, ix_gets, ix_iald, ix_iast, ix_alen, ix_aald, ix_gval, ix_gcod, ix_bald, ix_blen, ix_sald, ix_nret, ix_math2, ix_math1, ix_acopy, ml_113, ml_114, ml_115, ml_116, ml_118, ml_119, ml_120, ml_121, ml_122, ml_123, ml_124, ml_125, ml_126, mv_0, mv_1, mv_2, mv_3, mv_4, mv_5, mB_or, Nat.add_assoc, Int32.reduceLT, Int32.reduceLE, Int32.reduceToNatClampNeg, Int32.reduceSub, Int32.reduceAdd, Nat.reduceAdd, Nat.reduceLeDiff, true_or, or_true, or_false, false_or, not_false_eq_true, not_true_eq_false, false_implies, true_implies, implies_true, and_self, mB_0, mB_01, Classical.not_not, Nat.zero_le, List.getElem?_cons_zero, List.getElem?_cons_succ, List.set_cons_zero, List.set_cons_succ, ix_nl, ix_cs, true_and, and_true, Option.toList_some, Option.toList_none, List.cons_append, List.nil_append, h19]
  refine ⟨fun c => ?_, fun c => ⟨⟨K, hK, rfl⟩, fun d => ?_, fun d => ?_⟩⟩
  · have hk := h6.mp c
    simp only [if_pos hk] at hQ
    refine ⟨K, nb, mm, tr, h1, fun μ1 F1 g1 => ⟨⟨K, hK, g1.1.1⟩, fun d => absurd ?_ d, fun d => ⟨K, nb, mm, _, g1, fun μ2 F2 g2 => ⟨K, nb, mm, _, g2, fun μ3 F3 g3 => ⟨fun z => absurd d z, fun _ => ⟨fun _ => ?_, fun z => absurd ?_ z⟩⟩⟩⟩⟩⟩
    · rw [g1.1.1, hk]
      exact und6
    · rw [g3.2.2.1, g3.2.1]
      exact hQ μ3 ((F1.tr F2).tr F3) g3
    · rw [g3.1.1]
      exact c
  · have hk : ¬ K = 6 := fun z => c (h6.mpr z)
    simp only [if_neg hk, if_neg d] at hQ
    refine ⟨K, nb, mm, tr, h1, fun μ1 F1 g1 => ⟨fun _ => ⟨fun z => absurd z ?_, fun _ => ?_⟩, fun z => absurd z d⟩⟩
    · rw [g1.1.1]
      exact c
    · rw [g1.2.2.1]
      exact hQ μ1 F1 g1
  · have hk : ¬ K = 6 := fun z => c (h6.mpr z)
    simp only [if_neg hk, if_pos d] at hQ
    refine ⟨K, nb, mm, tr, h1, fun μ1 F1 g1 => ⟨K, nb, mm, _, g1, fun μ2 F2 g2 => ⟨fun z => absurd d z, fun _ => ⟨fun z => absurd z ?_, fun _ => ?_⟩⟩⟩⟩
    · rw [g2.1.1]
      exact c
    · rw [g2.2.2.1]
      exact hQ μ2 (F1.tr F2) g2
theorem k_X11_turnsOf (l : Launch) : ix_Ct l yX11_turnsOf cX11_turnsOf 4 (some .int) 3 sh_X11_turnsOf T_X11_turnsOf := ix_ct (a_X11_turnsOf l) rfl (by decide) (fun _ => Nat.le_of_ble_eq_true rfl) (fun x μ Q hok hT => r_X11_turnsOf x.1 x.2 μ Q (ix_ok_at (hok (vr 10 x.1) (by simp [sh_X11_turnsOf])) (by decide) (by decide)) hT)
def vLb (d : Int32 × List Int32) (K : Nat) (nb mm : Int32) : Int32 × List Int32 := (d.1 * 2 - (vTn 1 K nb mm d.2).1, (vTn 1 K nb mm d.2).2)
def vL (x : Int32) (K : Nat) (nb mm : Int32) (tr : List Int32) : Int32 × List Int32 :=
  if K = 5 then vLb (vD (x + 1) K nb mm (vPush (vPush (vPush tr 60) 30) 11)) K nb mm else if und K 2 then vLb (vD x K nb mm (vPush (vPush tr 30) 11)) K nb mm else ((vD x K nb mm (vPush tr 11)).1 * 2, (vD x K nb mm (vPush tr 11)).2)
theorem und5 : und 5 2 := by decide +kernel
def T_X11_lidsOf : Nat × Int32 → ix_M → (ix_R → Prop) → Prop := fun (_, x) μ Q => VT (vL x) μ Q
def sh_X11_lidsOf (x : Nat × Int32) : List ix_V := [vr 10 x.1, vi x.2]
theorem mo_X11_lidsOf (x : Nat × Int32) (μ : ix_M) (Q Q' : ix_R → Prop) (h : ∀ r, Q r → Q' r) (hT : T_X11_lidsOf x μ Q) : T_X11_lidsOf x μ Q' := by
  obtain ⟨a0, a1⟩ := x
  (exact mo_VT (f := vL a1) h hT)
def oc_X11_lidsOf (n : Nat) : ix_Op := fun k _ ls st μ => match st with
  | .inl a1 :: .inr (.inr (t0, a0)) :: r => t0 = 10 ∧ ix_cs r ≤ 8 ∧ T_X11_lidsOf (a0, a1) μ (fun q => k (n, ls, q.1.toList ++ r, q.2))
  | _ => False
theorem oc_X11_lidsOf_s {l : Launch} {cc : ByteArray} {nL : Nat} {own : String} {d : Nat} {rt : Option FieldType} {pc n : Nat} (h : ix_S l cc nL own d rt pc (ix_call 2 sh_X11_lidsOf T_X11_lidsOf n)) : ix_S l cc nL own d rt pc (oc_X11_lidsOf n) := by
  refine h.by (fun k Q ls st μ h => ?_) (fun k k' Q ls st μ hk h => ?_)
  · unfold oc_X11_lidsOf at h
    split at h
    · rename_i a1 t0 a0 r
      obtain ⟨rfl, h1, h2⟩ := h
      exact ⟨h1, (a0, a1), rfl, _, h2, fun r h => h⟩
    · exact h.elim
  · unfold oc_X11_lidsOf at h ⊢
    split at h
    · obtain ⟨rfl, h1, h2⟩ := h
      exact ⟨rfl, h1, mo_X11_lidsOf _ _ _ _ (fun q hq => hk _ hq) h2⟩
    · exact h.elim
def o_X11_lidsOf : List (Nat × ix_Op) := [
  (0, ix_iload 1 1),
  (1, ix_istore 2 2),
  (2, ix_aload 0 3),
  (3, ix_geti 10 19 6),
  (6, ix_push (vi 5) 7),
  (7, ix_cmp (fun x y => x = y) 10 19),
  (10, ix_aload 0 11),
  (11, ix_push (vi 60) 13),
  (13, oc_X11_ran 16),
  (16, ix_iinc 2 1 19),
  (19, ix_aload 0 20),
  (20, ix_geti 10 19 23),
  (23, ix_push (vi 2) 24),
  (24, oc_X11_isUnder 27),
  (27, ix_istore 3 28),
  (28, ix_iload 3 29),
  (29, ix_if (fun x => x = 0) 38 32),
  (32, ix_aload 0 33),
  (33, ix_push (vi 30) 35),
  (35, oc_X11_ran 38),
  (38, ix_aload 0 39),
  (39, ix_push (vi 11) 41),
  (41, oc_X11_ran 44),
  (44, ix_aload 0 45),
  (45, ix_iload 2 46),
  (46, oc_X11_dipsOf 49),
  (49, ix_push (vi 2) 50),
  (50, ix_bin (fun x y => x * y) 51),
  (51, ix_istore 4 53),
  (53, ix_iload 3 54),
  (54, ix_if (fun x => x = 0) 68 57),
  (57, ix_iload 4 59),
  (59, ix_aload 0 60),
  (60, ix_push (vi 1) 61),
  (61, oc_X11_turnsOf 64),
  (64, ix_bin (fun x y => x - y) 65),
  (65, ix_goto 70),
  (68, ix_iload 4 70),
  (70, ix_iret)]
set_option maxRecDepth 20000 in
theorem a_X11_lidsOf (l : Launch) : ix_AllS l cX11_lidsOf 5 RX11 4 (some .int) o_X11_lidsOf :=
  .cons (ix_s_iload_n dX11_lidsOf_0 rfl) <|
  .cons (ix_s_istore_n dX11_lidsOf_1 rfl (by decide)) <|
  .cons (ix_s_aload_n dX11_lidsOf_2 rfl) <|
  .cons (ix_s_geti (j := 19) tu_X11 rfl (by decide) (by decide) tw_894 rfl ts_10_19_i dX11_lidsOf_3) <|
  .cons (ix_s_iconst dX11_lidsOf_6 (by decide +kernel)) <|
  .cons (ix_s_cmp_ne dX11_lidsOf_7 (by decide)) <|
  .cons (ix_s_aload_n dX11_lidsOf_10 rfl) <|
  .cons (ix_s_bipush dX11_lidsOf_11 (by decide +kernel)) <|
  .cons (oc_X11_ran_s (ix_s_callv (t := 10) (k_X11_ran l) (by decide) (by decide) tw_1333 tw_12 tw_1330 tw_1332 tp_60 ⟨by decide, by decide, by decide +kernel⟩ (by decide) rfl rfl (fun _ => ⟨_, _, rfl, rfl⟩) dX11_lidsOf_13)) <|
  .cons (ix_s_iinc dX11_lidsOf_16 (by decide +kernel) (by decide)) <|
  .cons (ix_s_aload_n dX11_lidsOf_19 rfl) <|
  .cons (ix_s_geti (j := 19) tu_X11 rfl (by decide) (by decide) tw_894 rfl ts_10_19_i dX11_lidsOf_20) <|
  .cons (ix_s_iconst dX11_lidsOf_23 (by decide +kernel)) <|
  .cons (oc_X11_isUnder_s (ix_s_calls (k_X11_isUnder l) (by decide) (by decide) tw_1174 tw_12 tw_1172 tw_1173 ⟨by decide, by decide, by decide +kernel⟩ (fun _ => rfl) dX11_lidsOf_24)) <|
  .cons (ix_s_istore_n dX11_lidsOf_27 rfl (by decide)) <|
  .cons (ix_s_iload_n dX11_lidsOf_28 rfl) <|
  .cons (ix_s_if_eq dX11_lidsOf_29 (by decide)) <|
  .cons (ix_s_aload_n dX11_lidsOf_32 rfl) <|
  .cons (ix_s_bipush dX11_lidsOf_33 (by decide +kernel)) <|
  .cons (oc_X11_ran_s (ix_s_callv (t := 10) (k_X11_ran l) (by decide) (by decide) tw_1333 tw_12 tw_1330 tw_1332 tp_60 ⟨by decide, by decide, by decide +kernel⟩ (by decide) rfl rfl (fun _ => ⟨_, _, rfl, rfl⟩) dX11_lidsOf_35)) <|
  .cons (ix_s_aload_n dX11_lidsOf_38 rfl) <|
  .cons (ix_s_bipush dX11_lidsOf_39 (by decide +kernel)) <|
  .cons (oc_X11_ran_s (ix_s_callv (t := 10) (k_X11_ran l) (by decide) (by decide) tw_1333 tw_12 tw_1330 tw_1332 tp_60 ⟨by decide, by decide, by decide +kernel⟩ (by decide) rfl rfl (fun _ => ⟨_, _, rfl, rfl⟩) dX11_lidsOf_41)) <|
  .cons (ix_s_aload_n dX11_lidsOf_44 rfl) <|
  .cons (ix_s_iload_n dX11_lidsOf_45 rfl) <|
  .cons (oc_X11_dipsOf_s (ix_s_callv (t := 10) (k_X11_dipsOf l) (by decide) (by decide) tw_1329 tw_12 tw_1326 tw_1328 tp_59 ⟨by decide, by decide, by decide +kernel⟩ (by decide) rfl rfl (fun _ => ⟨_, _, rfl, rfl⟩) dX11_lidsOf_46)) <|
  .cons (ix_s_iconst dX11_lidsOf_49 (by decide +kernel)) <|
  .cons (ix_s_imul dX11_lidsOf_50) <|
  .cons (ix_s_istore dX11_lidsOf_51 (by decide)) <|
  .cons (ix_s_iload_n dX11_lidsOf_53 rfl) <|
  .cons (ix_s_if_eq dX11_lidsOf_54 (by decide)) <|
  .cons (ix_s_iload dX11_lidsOf_57) <|
  .cons (ix_s_aload_n dX11_lidsOf_59 rfl) <|
  .cons (ix_s_iconst dX11_lidsOf_60 (by decide +kernel)) <|
  .cons (oc_X11_turnsOf_s (ix_s_callv (t := 10) (k_X11_turnsOf l) (by decide) (by decide) tw_1341 tw_12 tw_1338 tw_1340 tp_62 ⟨by decide, by decide, by decide +kernel⟩ (by decide) rfl rfl (fun _ => ⟨_, _, rfl, rfl⟩) dX11_lidsOf_61)) <|
  .cons (ix_s_isub dX11_lidsOf_64) <|
  .cons (ix_s_goto dX11_lidsOf_65 (by decide)) <|
  .cons (ix_s_iload dX11_lidsOf_68) <|
  .cons (ix_s_iret dX11_lidsOf_70 rfl) <| .nil
theorem e_X11_lidsOf_0 (Q : ix_R → Prop) (ls : ix_L) (st : List ix_V) (μ : ix_M) : ix_Ev o_X11_lidsOf Q (0, ls, st, μ) = ix_iload 1 1 (ix_Ev o_X11_lidsOf Q) Q ls st μ := ix_Ev.eq (a_X11_lidsOf launch0) rfl ls st μ
theorem e_X11_lidsOf_1 (Q : ix_R → Prop) (ls : ix_L) (st : List ix_V) (μ : ix_M) : ix_Ev o_X11_lidsOf Q (1, ls, st, μ) = ix_istore 2 2 (ix_Ev o_X11_lidsOf Q) Q ls st μ := ix_Ev.eq (a_X11_lidsOf launch0) rfl ls st μ
theorem e_X11_lidsOf_2 (Q : ix_R → Prop) (ls : ix_L) (st : List ix_V) (μ : ix_M) : ix_Ev o_X11_lidsOf Q (2, ls, st, μ) = ix_aload 0 3 (ix_Ev o_X11_lidsOf Q) Q ls st μ := ix_Ev.eq (a_X11_lidsOf launch0) rfl ls st μ
theorem e_X11_lidsOf_3 (Q : ix_R → Prop) (ls : ix_L) (st : List ix_V) (μ : ix_M) : ix_Ev o_X11_lidsOf Q (3, ls, st, μ) = ix_geti 10 19 6 (ix_Ev o_X11_lidsOf Q) Q ls st μ := ix_Ev.eq (a_X11_lidsOf launch0) rfl ls st μ
theorem e_X11_lidsOf_6 (Q : ix_R → Prop) (ls : ix_L) (st : List ix_V) (μ : ix_M) : ix_Ev o_X11_lidsOf Q (6, ls, st, μ) = ix_push (vi 5) 7 (ix_Ev o_X11_lidsOf Q) Q ls st μ := ix_Ev.eq (a_X11_lidsOf launch0) rfl ls st μ
theorem e_X11_lidsOf_7 (Q : ix_R → Prop) (ls : ix_L) (st : List ix_V) (μ : ix_M) : ix_Ev o_X11_lidsOf Q (7, ls, st, μ) = ix_cmp (fun x y => x = y) 10 19 (ix_Ev o_X11_lidsOf Q) Q ls st μ := ix_Ev.eq (a_X11_lidsOf launch0) rfl ls st μ
theorem e_X11_lidsOf_10 (Q : ix_R → Prop) (ls : ix_L) (st : List ix_V) (μ : ix_M) : ix_Ev o_X11_lidsOf Q (10, ls, st, μ) = ix_aload 0 11 (ix_Ev o_X11_lidsOf Q) Q ls st μ := ix_Ev.eq (a_X11_lidsOf launch0) rfl ls st μ
theorem e_X11_lidsOf_11 (Q : ix_R → Prop) (ls : ix_L) (st : List ix_V) (μ : ix_M) : ix_Ev o_X11_lidsOf Q (11, ls, st, μ) = ix_push (vi 60) 13 (ix_Ev o_X11_lidsOf Q) Q ls st μ := ix_Ev.eq (a_X11_lidsOf launch0) rfl ls st μ
theorem e_X11_lidsOf_13 (Q : ix_R → Prop) (ls : ix_L) (st : List ix_V) (μ : ix_M) : ix_Ev o_X11_lidsOf Q (13, ls, st, μ) = oc_X11_ran 16 (ix_Ev o_X11_lidsOf Q) Q ls st μ := ix_Ev.eq (a_X11_lidsOf launch0) rfl ls st μ
theorem e_X11_lidsOf_16 (Q : ix_R → Prop) (ls : ix_L) (st : List ix_V) (μ : ix_M) : ix_Ev o_X11_lidsOf Q (16, ls, st, μ) = ix_iinc 2 1 19 (ix_Ev o_X11_lidsOf Q) Q ls st μ := ix_Ev.eq (a_X11_lidsOf launch0) rfl ls st μ
theorem e_X11_lidsOf_19 (Q : ix_R → Prop) (ls : ix_L) (st : List ix_V) (μ : ix_M) : ix_Ev o_X11_lidsOf Q (19, ls, st, μ) = ix_aload 0 20 (ix_Ev o_X11_lidsOf Q) Q ls st μ := ix_Ev.eq (a_X11_lidsOf launch0) rfl ls st μ
theorem e_X11_lidsOf_20 (Q : ix_R → Prop) (ls : ix_L) (st : List ix_V) (μ : ix_M) : ix_Ev o_X11_lidsOf Q (20, ls, st, μ) = ix_geti 10 19 23 (ix_Ev o_X11_lidsOf Q) Q ls st μ := ix_Ev.eq (a_X11_lidsOf launch0) rfl ls st μ
theorem e_X11_lidsOf_23 (Q : ix_R → Prop) (ls : ix_L) (st : List ix_V) (μ : ix_M) : ix_Ev o_X11_lidsOf Q (23, ls, st, μ) = ix_push (vi 2) 24 (ix_Ev o_X11_lidsOf Q) Q ls st μ := ix_Ev.eq (a_X11_lidsOf launch0) rfl ls st μ
theorem e_X11_lidsOf_24 (Q : ix_R → Prop) (ls : ix_L) (st : List ix_V) (μ : ix_M) : ix_Ev o_X11_lidsOf Q (24, ls, st, μ) = oc_X11_isUnder 27 (ix_Ev o_X11_lidsOf Q) Q ls st μ := ix_Ev.eq (a_X11_lidsOf launch0) rfl ls st μ
theorem e_X11_lidsOf_27 (Q : ix_R → Prop) (ls : ix_L) (st : List ix_V) (μ : ix_M) : ix_Ev o_X11_lidsOf Q (27, ls, st, μ) = ix_istore 3 28 (ix_Ev o_X11_lidsOf Q) Q ls st μ := ix_Ev.eq (a_X11_lidsOf launch0) rfl ls st μ
theorem e_X11_lidsOf_28 (Q : ix_R → Prop) (ls : ix_L) (st : List ix_V) (μ : ix_M) : ix_Ev o_X11_lidsOf Q (28, ls, st, μ) = ix_iload 3 29 (ix_Ev o_X11_lidsOf Q) Q ls st μ := ix_Ev.eq (a_X11_lidsOf launch0) rfl ls st μ
theorem e_X11_lidsOf_29 (Q : ix_R → Prop) (ls : ix_L) (st : List ix_V) (μ : ix_M) : ix_Ev o_X11_lidsOf Q (29, ls, st, μ) = ix_if (fun x => x = 0) 38 32 (ix_Ev o_X11_lidsOf Q) Q ls st μ := ix_Ev.eq (a_X11_lidsOf launch0) rfl ls st μ
theorem e_X11_lidsOf_32 (Q : ix_R → Prop) (ls : ix_L) (st : List ix_V) (μ : ix_M) : ix_Ev o_X11_lidsOf Q (32, ls, st, μ) = ix_aload 0 33 (ix_Ev o_X11_lidsOf Q) Q ls st μ := ix_Ev.eq (a_X11_lidsOf launch0) rfl ls st μ
theorem e_X11_lidsOf_33 (Q : ix_R → Prop) (ls : ix_L) (st : List ix_V) (μ : ix_M) : ix_Ev o_X11_lidsOf Q (33, ls, st, μ) = ix_push (vi 30) 35 (ix_Ev o_X11_lidsOf Q) Q ls st μ := ix_Ev.eq (a_X11_lidsOf launch0) rfl ls st μ
theorem e_X11_lidsOf_35 (Q : ix_R → Prop) (ls : ix_L) (st : List ix_V) (μ : ix_M) : ix_Ev o_X11_lidsOf Q (35, ls, st, μ) = oc_X11_ran 38 (ix_Ev o_X11_lidsOf Q) Q ls st μ := ix_Ev.eq (a_X11_lidsOf launch0) rfl ls st μ
theorem e_X11_lidsOf_38 (Q : ix_R → Prop) (ls : ix_L) (st : List ix_V) (μ : ix_M) : ix_Ev o_X11_lidsOf Q (38, ls, st, μ) = ix_aload 0 39 (ix_Ev o_X11_lidsOf Q) Q ls st μ := ix_Ev.eq (a_X11_lidsOf launch0) rfl ls st μ
theorem e_X11_lidsOf_39 (Q : ix_R → Prop) (ls : ix_L) (st : List ix_V) (μ : ix_M) : ix_Ev o_X11_lidsOf Q (39, ls, st, μ) = ix_push (vi 11) 41 (ix_Ev o_X11_lidsOf Q) Q ls st μ := ix_Ev.eq (a_X11_lidsOf launch0) rfl ls st μ
theorem e_X11_lidsOf_41 (Q : ix_R → Prop) (ls : ix_L) (st : List ix_V) (μ : ix_M) : ix_Ev o_X11_lidsOf Q (41, ls, st, μ) = oc_X11_ran 44 (ix_Ev o_X11_lidsOf Q) Q ls st μ := ix_Ev.eq (a_X11_lidsOf launch0) rfl ls st μ
theorem e_X11_lidsOf_44 (Q : ix_R → Prop) (ls : ix_L) (st : List ix_V) (μ : ix_M) : ix_Ev o_X11_lidsOf Q (44, ls, st, μ) = ix_aload 0 45 (ix_Ev o_X11_lidsOf Q) Q ls st μ := ix_Ev.eq (a_X11_lidsOf launch0) rfl ls st μ
theorem e_X11_lidsOf_45 (Q : ix_R → Prop) (ls : ix_L) (st : List ix_V) (μ : ix_M) : ix_Ev o_X11_lidsOf Q (45, ls, st, μ) = ix_iload 2 46 (ix_Ev o_X11_lidsOf Q) Q ls st μ := ix_Ev.eq (a_X11_lidsOf launch0) rfl ls st μ
theorem e_X11_lidsOf_46 (Q : ix_R → Prop) (ls : ix_L) (st : List ix_V) (μ : ix_M) : ix_Ev o_X11_lidsOf Q (46, ls, st, μ) = oc_X11_dipsOf 49 (ix_Ev o_X11_lidsOf Q) Q ls st μ := ix_Ev.eq (a_X11_lidsOf launch0) rfl ls st μ
theorem e_X11_lidsOf_49 (Q : ix_R → Prop) (ls : ix_L) (st : List ix_V) (μ : ix_M) : ix_Ev o_X11_lidsOf Q (49, ls, st, μ) = ix_push (vi 2) 50 (ix_Ev o_X11_lidsOf Q) Q ls st μ := ix_Ev.eq (a_X11_lidsOf launch0) rfl ls st μ
theorem e_X11_lidsOf_50 (Q : ix_R → Prop) (ls : ix_L) (st : List ix_V) (μ : ix_M) : ix_Ev o_X11_lidsOf Q (50, ls, st, μ) = ix_bin (fun x y => x * y) 51 (ix_Ev o_X11_lidsOf Q) Q ls st μ := ix_Ev.eq (a_X11_lidsOf launch0) rfl ls st μ
theorem e_X11_lidsOf_51 (Q : ix_R → Prop) (ls : ix_L) (st : List ix_V) (μ : ix_M) : ix_Ev o_X11_lidsOf Q (51, ls, st, μ) = ix_istore 4 53 (ix_Ev o_X11_lidsOf Q) Q ls st μ := ix_Ev.eq (a_X11_lidsOf launch0) rfl ls st μ
theorem e_X11_lidsOf_53 (Q : ix_R → Prop) (ls : ix_L) (st : List ix_V) (μ : ix_M) : ix_Ev o_X11_lidsOf Q (53, ls, st, μ) = ix_iload 3 54 (ix_Ev o_X11_lidsOf Q) Q ls st μ := ix_Ev.eq (a_X11_lidsOf launch0) rfl ls st μ
theorem e_X11_lidsOf_54 (Q : ix_R → Prop) (ls : ix_L) (st : List ix_V) (μ : ix_M) : ix_Ev o_X11_lidsOf Q (54, ls, st, μ) = ix_if (fun x => x = 0) 68 57 (ix_Ev o_X11_lidsOf Q) Q ls st μ := ix_Ev.eq (a_X11_lidsOf launch0) rfl ls st μ
theorem e_X11_lidsOf_57 (Q : ix_R → Prop) (ls : ix_L) (st : List ix_V) (μ : ix_M) : ix_Ev o_X11_lidsOf Q (57, ls, st, μ) = ix_iload 4 59 (ix_Ev o_X11_lidsOf Q) Q ls st μ := ix_Ev.eq (a_X11_lidsOf launch0) rfl ls st μ
theorem e_X11_lidsOf_59 (Q : ix_R → Prop) (ls : ix_L) (st : List ix_V) (μ : ix_M) : ix_Ev o_X11_lidsOf Q (59, ls, st, μ) = ix_aload 0 60 (ix_Ev o_X11_lidsOf Q) Q ls st μ := ix_Ev.eq (a_X11_lidsOf launch0) rfl ls st μ
theorem e_X11_lidsOf_60 (Q : ix_R → Prop) (ls : ix_L) (st : List ix_V) (μ : ix_M) : ix_Ev o_X11_lidsOf Q (60, ls, st, μ) = ix_push (vi 1) 61 (ix_Ev o_X11_lidsOf Q) Q ls st μ := ix_Ev.eq (a_X11_lidsOf launch0) rfl ls st μ
theorem e_X11_lidsOf_61 (Q : ix_R → Prop) (ls : ix_L) (st : List ix_V) (μ : ix_M) : ix_Ev o_X11_lidsOf Q (61, ls, st, μ) = oc_X11_turnsOf 64 (ix_Ev o_X11_lidsOf Q) Q ls st μ := ix_Ev.eq (a_X11_lidsOf launch0) rfl ls st μ
theorem e_X11_lidsOf_64 (Q : ix_R → Prop) (ls : ix_L) (st : List ix_V) (μ : ix_M) : ix_Ev o_X11_lidsOf Q (64, ls, st, μ) = ix_bin (fun x y => x - y) 65 (ix_Ev o_X11_lidsOf Q) Q ls st μ := ix_Ev.eq (a_X11_lidsOf launch0) rfl ls st μ
theorem e_X11_lidsOf_65 (Q : ix_R → Prop) (ls : ix_L) (st : List ix_V) (μ : ix_M) : ix_Ev o_X11_lidsOf Q (65, ls, st, μ) = ix_goto 70 (ix_Ev o_X11_lidsOf Q) Q ls st μ := ix_Ev.eq (a_X11_lidsOf launch0) rfl ls st μ
theorem e_X11_lidsOf_68 (Q : ix_R → Prop) (ls : ix_L) (st : List ix_V) (μ : ix_M) : ix_Ev o_X11_lidsOf Q (68, ls, st, μ) = ix_iload 4 70 (ix_Ev o_X11_lidsOf Q) Q ls st μ := ix_Ev.eq (a_X11_lidsOf launch0) rfl ls st μ
theorem e_X11_lidsOf_70 (Q : ix_R → Prop) (ls : ix_L) (st : List ix_V) (μ : ix_M) : ix_Ev o_X11_lidsOf Q (70, ls, st, μ) = ix_iret (ix_Ev o_X11_lidsOf Q) Q ls st μ := ix_Ev.eq (a_X11_lidsOf launch0) rfl ls st μ
theorem r_X11_lidsOf (o : Nat) (x : Int32) (μ : ix_M) (Q : ix_R → Prop) (ok_o : o < ix_N ∧ ix_tag o = 10) (hT : T_X11_lidsOf (o, x) μ Q) : ix_Ev o_X11_lidsOf Q (0, [some (vr 10 o), some (vi x), none, none, none], [], μ) := by
  obtain rfl := ok_10 o ok_o.1 ok_o.2
  obtain ⟨K, nb, mm, tr, h1, hQ⟩ := hT
  have h19 := h1.1.1
  have hK := h1.1.2
  have h5 : nI K = 5 ↔ K = 5 := nI_eq (b := 5) (by omega) (by decide)
  unfold vL at hQ
  simp (decide := true) only [e_X11_lidsOf_0, e_X11_lidsOf_1, e_X11_lidsOf_2, e_X11_lidsOf_3, e_X11_lidsOf_6, e_X11_lidsOf_7, e_X11_lidsOf_10, e_X11_lidsOf_11, e_X11_lidsOf_13, e_X11_lidsOf_16, e_X11_lidsOf_19, e_X11_lidsOf_20, e_X11_lidsOf_23, e_X11_lidsOf_24, e_X11_lidsOf_27, e_X11_lidsOf_28, e_X11_lidsOf_29, e_X11_lidsOf_32, e_X11_lidsOf_33, e_X11_lidsOf_35, e_X11_lidsOf_38, e_X11_lidsOf_39, e_X11_lidsOf_41, e_X11_lidsOf_44, e_X11_lidsOf_45, e_X11_lidsOf_46, e_X11_lidsOf_49, e_X11_lidsOf_50, e_X11_lidsOf_51, e_X11_lidsOf_53, e_X11_lidsOf_54, e_X11_lidsOf_57, e_X11_lidsOf_59, e_X11_lidsOf_60, e_X11_lidsOf_61, e_X11_lidsOf_64, e_X11_lidsOf_65, e_X11_lidsOf_68, e_X11_lidsOf_70, vi, vl, vr, oc_X11_dipsOf, T_X11_dipsOf, oc_X11_isUnder, T_X11_isUnder, oc_X11_ran, T_X11_ran, oc_X11_turnsOf, T_X11_turnsOf, ix_push, ix_iload, ix_lload, ix_aload, ix_istore, ix_astore, ix_iinc, ix_bin, ix_div, ix_un, ix_i2l, ix_l2i, ix_lbin, ix_lsh, ix_lcmp, ix_dup, ix_dup2, ix_pop, ix_if, ix_cmp, ix_goto, ix_switch, ix_sw, ix_iret, ix_zret, ix_vret, ix_aret, ix_geti, ix_getr, ix_puti, ix_putz, ix_puts, ix_gets, ix_iald, ix_iast, ix_alen, ix_aald, ix_gval, ix_gcod, ix_bald, ix_blen, ix_sald, ix_nret, ix_math2, ix_math1, ix_acopy, ml_113, ml_114, ml_115, ml_116, ml_118, ml_119, ml_120, ml_121, ml_122, ml_123, ml_124, ml_125, ml_126, mv_0, mv_1, mv_2, mv_3, mv_4, mv_5, mB_or, Nat.add_assoc, Int32.reduceLT, Int32.reduceLE, Int32.reduceToNatClampNeg, Int32.reduceSub, Int32.reduceAdd, Nat.reduceAdd, Nat.reduceLeDiff, true_or, or_true, or_false, false_or, not_false_eq_true, not_true_eq_false, false_implies, true_implies, implies_true, and_self, mB_0, mB_01, Classical.not_not, Nat.zero_le, List.getElem?_cons_zero, List.getElem?_cons_succ, List.set_cons_zero, List.set_cons_succ, ix_nl, ix_cs, true_and, and_true, Option.toList_some, Option.toList_none, List.cons_append, List.nil_append, h19]
  refine ⟨fun c => ?_, fun c => ⟨⟨K, hK, rfl⟩, fun d => ?_, fun d => ?_⟩⟩
  · have hk := h5.mp c
    simp only [if_pos hk, vLb] at hQ
    refine ⟨K, nb, mm, tr, h1, fun μ1 F1 g1 => ⟨⟨K, hK, g1.1.1⟩, fun d => absurd ?_ d, fun d => ⟨K, nb, mm, _, g1, fun μ2 F2 g2 => ⟨K, nb, mm, _, g2, fun μ3 F3 g3 => ⟨K, nb, mm, _, g3, fun μ4 F4 g4 => ⟨fun z => absurd d z, fun _ => ⟨Nat.le_of_ble_eq_true rfl, K, nb, mm, _, g4, fun μ5 F5 g5 => hQ μ5 ((((F1.tr F2).tr F3).tr F4).tr F5) g5⟩⟩⟩⟩⟩⟩⟩
    rw [g1.1.1, hk]
    exact und5
  · have hk : ¬ K = 5 := fun z => c (h5.mpr z)
    simp only [if_neg hk, if_neg d] at hQ
    exact ⟨K, nb, mm, tr, h1, fun μ1 F1 g1 => ⟨K, nb, mm, _, g1, fun μ2 F2 g2 => ⟨fun _ => hQ μ2 (F1.tr F2) g2, fun z => absurd z d⟩⟩⟩
  · have hk : ¬ K = 5 := fun z => c (h5.mpr z)
    simp only [if_neg hk, if_pos d, vLb] at hQ
    exact ⟨K, nb, mm, tr, h1, fun μ1 F1 g1 => ⟨K, nb, mm, _, g1, fun μ2 F2 g2 => ⟨K, nb, mm, _, g2, fun μ3 F3 g3 => ⟨fun z => absurd d z, fun _ => ⟨Nat.le_of_ble_eq_true rfl, K, nb, mm, _, g3, fun μ4 F4 g4 => hQ μ4 (((F1.tr F2).tr F3).tr F4) g4⟩⟩⟩⟩⟩
theorem k_X11_lidsOf (l : Launch) : ix_Ct l yX11_lidsOf cX11_lidsOf 5 (some .int) 4 sh_X11_lidsOf T_X11_lidsOf := ix_ct (a_X11_lidsOf l) rfl (by decide) (fun _ => Nat.le_of_ble_eq_true rfl) (fun x μ Q hok hT => r_X11_lidsOf x.1 x.2 μ Q (ix_ok_at (hok (vr 10 x.1) (by simp [sh_X11_lidsOf])) (by decide) (by decide)) hT)
def vP (x : Int32) (K : Nat) (nb mm : Int32) (tr : List Int32) : Int32 × List Int32 := ((vL x K nb mm (vPush tr 13)).1 ^^^ (vTn x K nb mm (vL x K nb mm (vPush tr 13)).2).1, (vTn x K nb mm (vL x K nb mm (vPush tr 13)).2).2)
def T_X11_plainTells : Nat × Int32 → ix_M → (ix_R → Prop) → Prop := fun (_, x) μ Q => VT (vP x) μ Q
def sh_X11_plainTells (x : Nat × Int32) : List ix_V := [vr 10 x.1, vi x.2]
theorem mo_X11_plainTells (x : Nat × Int32) (μ : ix_M) (Q Q' : ix_R → Prop) (h : ∀ r, Q r → Q' r) (hT : T_X11_plainTells x μ Q) : T_X11_plainTells x μ Q' := by
  obtain ⟨a0, a1⟩ := x
  (exact mo_VT (f := vP a1) h hT)
def oc_X11_plainTells (n : Nat) : ix_Op := fun k _ ls st μ => match st with
  | .inl a1 :: .inr (.inr (t0, a0)) :: r => t0 = 10 ∧ ix_cs r ≤ 8 ∧ T_X11_plainTells (a0, a1) μ (fun q => k (n, ls, q.1.toList ++ r, q.2))
  | _ => False
theorem oc_X11_plainTells_s {l : Launch} {cc : ByteArray} {nL : Nat} {own : String} {d : Nat} {rt : Option FieldType} {pc n : Nat} (h : ix_S l cc nL own d rt pc (ix_call 2 sh_X11_plainTells T_X11_plainTells n)) : ix_S l cc nL own d rt pc (oc_X11_plainTells n) := by
  refine h.by (fun k Q ls st μ h => ?_) (fun k k' Q ls st μ hk h => ?_)
  · unfold oc_X11_plainTells at h
    split at h
    · rename_i a1 t0 a0 r
      obtain ⟨rfl, h1, h2⟩ := h
      exact ⟨h1, (a0, a1), rfl, _, h2, fun r h => h⟩
    · exact h.elim
  · unfold oc_X11_plainTells at h ⊢
    split at h
    · obtain ⟨rfl, h1, h2⟩ := h
      exact ⟨rfl, h1, mo_X11_plainTells _ _ _ _ (fun q hq => hk _ hq) h2⟩
    · exact h.elim
def o_X11_plainTells : List (Nat × ix_Op) := [
  (0, ix_aload 0 1),
  (1, ix_push (vi 13) 3),
  (3, oc_X11_ran 6),
  (6, ix_aload 0 7),
  (7, ix_iload 1 8),
  (8, oc_X11_lidsOf 11),
  (11, ix_istore 2 12),
  (12, ix_iload 2 13),
  (13, ix_aload 0 14),
  (14, ix_iload 1 15),
  (15, oc_X11_turnsOf 18),
  (18, ix_bin (fun x y => x ^^^ y) 19),
  (19, ix_iret)]
set_option maxRecDepth 20000 in
theorem a_X11_plainTells (l : Launch) : ix_AllS l cX11_plainTells 3 RX11 5 (some .int) o_X11_plainTells :=
  .cons (ix_s_aload_n dX11_plainTells_0 rfl) <|
  .cons (ix_s_bipush dX11_plainTells_1 (by decide +kernel)) <|
  .cons (oc_X11_ran_s (ix_s_callv (t := 10) (k_X11_ran l) (by decide) (by decide) tw_1333 tw_12 tw_1330 tw_1332 tp_60 ⟨by decide, by decide, by decide +kernel⟩ (by decide) rfl rfl (fun _ => ⟨_, _, rfl, rfl⟩) dX11_plainTells_3)) <|
  .cons (ix_s_aload_n dX11_plainTells_6 rfl) <|
  .cons (ix_s_iload_n dX11_plainTells_7 rfl) <|
  .cons (oc_X11_lidsOf_s (ix_s_callv (t := 10) (k_X11_lidsOf l) (by decide) (by decide) tw_1337 tw_12 tw_1334 tw_1336 tp_61 ⟨by decide, by decide, by decide +kernel⟩ (by decide) rfl rfl (fun _ => ⟨_, _, rfl, rfl⟩) dX11_plainTells_8)) <|
  .cons (ix_s_istore_n dX11_plainTells_11 rfl (by decide)) <|
  .cons (ix_s_iload_n dX11_plainTells_12 rfl) <|
  .cons (ix_s_aload_n dX11_plainTells_13 rfl) <|
  .cons (ix_s_iload_n dX11_plainTells_14 rfl) <|
  .cons (oc_X11_turnsOf_s (ix_s_callv (t := 10) (k_X11_turnsOf l) (by decide) (by decide) tw_1341 tw_12 tw_1338 tw_1340 tp_62 ⟨by decide, by decide, by decide +kernel⟩ (by decide) rfl rfl (fun _ => ⟨_, _, rfl, rfl⟩) dX11_plainTells_15)) <|
  .cons (ix_s_ixor dX11_plainTells_18) <|
  .cons (ix_s_iret dX11_plainTells_19 rfl) <| .nil
theorem e_X11_plainTells_0 (Q : ix_R → Prop) (ls : ix_L) (st : List ix_V) (μ : ix_M) : ix_Ev o_X11_plainTells Q (0, ls, st, μ) = ix_aload 0 1 (ix_Ev o_X11_plainTells Q) Q ls st μ := ix_Ev.eq (a_X11_plainTells launch0) rfl ls st μ
theorem e_X11_plainTells_1 (Q : ix_R → Prop) (ls : ix_L) (st : List ix_V) (μ : ix_M) : ix_Ev o_X11_plainTells Q (1, ls, st, μ) = ix_push (vi 13) 3 (ix_Ev o_X11_plainTells Q) Q ls st μ := ix_Ev.eq (a_X11_plainTells launch0) rfl ls st μ
theorem e_X11_plainTells_3 (Q : ix_R → Prop) (ls : ix_L) (st : List ix_V) (μ : ix_M) : ix_Ev o_X11_plainTells Q (3, ls, st, μ) = oc_X11_ran 6 (ix_Ev o_X11_plainTells Q) Q ls st μ := ix_Ev.eq (a_X11_plainTells launch0) rfl ls st μ
theorem e_X11_plainTells_6 (Q : ix_R → Prop) (ls : ix_L) (st : List ix_V) (μ : ix_M) : ix_Ev o_X11_plainTells Q (6, ls, st, μ) = ix_aload 0 7 (ix_Ev o_X11_plainTells Q) Q ls st μ := ix_Ev.eq (a_X11_plainTells launch0) rfl ls st μ
theorem e_X11_plainTells_7 (Q : ix_R → Prop) (ls : ix_L) (st : List ix_V) (μ : ix_M) : ix_Ev o_X11_plainTells Q (7, ls, st, μ) = ix_iload 1 8 (ix_Ev o_X11_plainTells Q) Q ls st μ := ix_Ev.eq (a_X11_plainTells launch0) rfl ls st μ
theorem e_X11_plainTells_8 (Q : ix_R → Prop) (ls : ix_L) (st : List ix_V) (μ : ix_M) : ix_Ev o_X11_plainTells Q (8, ls, st, μ) = oc_X11_lidsOf 11 (ix_Ev o_X11_plainTells Q) Q ls st μ := ix_Ev.eq (a_X11_plainTells launch0) rfl ls st μ
theorem e_X11_plainTells_11 (Q : ix_R → Prop) (ls : ix_L) (st : List ix_V) (μ : ix_M) : ix_Ev o_X11_plainTells Q (11, ls, st, μ) = ix_istore 2 12 (ix_Ev o_X11_plainTells Q) Q ls st μ := ix_Ev.eq (a_X11_plainTells launch0) rfl ls st μ
theorem e_X11_plainTells_12 (Q : ix_R → Prop) (ls : ix_L) (st : List ix_V) (μ : ix_M) : ix_Ev o_X11_plainTells Q (12, ls, st, μ) = ix_iload 2 13 (ix_Ev o_X11_plainTells Q) Q ls st μ := ix_Ev.eq (a_X11_plainTells launch0) rfl ls st μ
theorem e_X11_plainTells_13 (Q : ix_R → Prop) (ls : ix_L) (st : List ix_V) (μ : ix_M) : ix_Ev o_X11_plainTells Q (13, ls, st, μ) = ix_aload 0 14 (ix_Ev o_X11_plainTells Q) Q ls st μ := ix_Ev.eq (a_X11_plainTells launch0) rfl ls st μ
theorem e_X11_plainTells_14 (Q : ix_R → Prop) (ls : ix_L) (st : List ix_V) (μ : ix_M) : ix_Ev o_X11_plainTells Q (14, ls, st, μ) = ix_iload 1 15 (ix_Ev o_X11_plainTells Q) Q ls st μ := ix_Ev.eq (a_X11_plainTells launch0) rfl ls st μ
theorem e_X11_plainTells_15 (Q : ix_R → Prop) (ls : ix_L) (st : List ix_V) (μ : ix_M) : ix_Ev o_X11_plainTells Q (15, ls, st, μ) = oc_X11_turnsOf 18 (ix_Ev o_X11_plainTells Q) Q ls st μ := ix_Ev.eq (a_X11_plainTells launch0) rfl ls st μ
theorem e_X11_plainTells_18 (Q : ix_R → Prop) (ls : ix_L) (st : List ix_V) (μ : ix_M) : ix_Ev o_X11_plainTells Q (18, ls, st, μ) = ix_bin (fun x y => x ^^^ y) 19 (ix_Ev o_X11_plainTells Q) Q ls st μ := ix_Ev.eq (a_X11_plainTells launch0) rfl ls st μ
theorem e_X11_plainTells_19 (Q : ix_R → Prop) (ls : ix_L) (st : List ix_V) (μ : ix_M) : ix_Ev o_X11_plainTells Q (19, ls, st, μ) = ix_iret (ix_Ev o_X11_plainTells Q) Q ls st μ := ix_Ev.eq (a_X11_plainTells launch0) rfl ls st μ
theorem r_X11_plainTells (o : Nat) (x : Int32) (μ : ix_M) (Q : ix_R → Prop) (ok_o : o < ix_N ∧ ix_tag o = 10) (hT : T_X11_plainTells (o, x) μ Q) : ix_Ev o_X11_plainTells Q (0, [some (vr 10 o), some (vi x), none], [], μ) := by
  obtain rfl := ok_10 o ok_o.1 ok_o.2
  obtain ⟨K, nb, mm, tr, h1, hQ⟩ := hT
  simp (decide := true) only [e_X11_plainTells_0, e_X11_plainTells_1, e_X11_plainTells_3, e_X11_plainTells_6, e_X11_plainTells_7, e_X11_plainTells_8, e_X11_plainTells_11, e_X11_plainTells_12, e_X11_plainTells_13, e_X11_plainTells_14, e_X11_plainTells_15, e_X11_plainTells_18, e_X11_plainTells_19, vi, vl, vr, oc_X11_lidsOf, T_X11_lidsOf, oc_X11_ran, T_X11_ran, oc_X11_turnsOf, T_X11_turnsOf, ix_push, ix_iload, ix_lload, ix_aload, ix_istore, ix_astore, ix_iinc, ix_bin, ix_div, ix_un, ix_i2l, ix_l2i, ix_lbin, ix_lsh, ix_lcmp, ix_dup, ix_dup2, ix_pop, ix_if, ix_cmp, ix_goto, ix_switch, ix_sw, ix_iret, ix_zret, ix_vret, ix_aret, ix_geti, ix_getr, ix_puti, ix_putz, ix_puts, ix_gets, ix_iald, ix_iast, ix_alen, ix_aald, ix_gval, ix_gcod, ix_bald, ix_blen, ix_sald, ix_nret, ix_math2, ix_math1, ix_acopy, ml_113, ml_114, ml_115, ml_116, ml_118, ml_119, ml_120, ml_121, ml_122, ml_123, ml_124, ml_125, ml_126, mv_0, mv_1, mv_2, mv_3, mv_4, mv_5, mB_or, Nat.add_assoc, Int32.reduceLT, Int32.reduceLE, Int32.reduceToNatClampNeg, Int32.reduceSub, Int32.reduceAdd, Nat.reduceAdd, Nat.reduceLeDiff, true_or, or_true, or_false, false_or, not_false_eq_true, not_true_eq_false, false_implies, true_implies, implies_true, and_self, mB_0, mB_01, Classical.not_not, Nat.zero_le, List.getElem?_cons_zero, List.getElem?_cons_succ, List.set_cons_zero, List.set_cons_succ, ix_nl, ix_cs, true_and, and_true, Option.toList_some, Option.toList_none, List.cons_append, List.nil_append]
  exact ⟨K, nb, mm, tr, h1, fun μ1 F1 g1 => ⟨K, nb, mm, _, g1, fun μ2 F2 g2 => ⟨Nat.le_of_ble_eq_true rfl, K, nb, mm, _, g2, fun μ3 F3 g3 => hQ μ3 ((F1.tr F2).tr F3) g3⟩⟩⟩
theorem k_X11_plainTells (l : Launch) : ix_Ct l yX11_plainTells cX11_plainTells 3 (some .int) 5 sh_X11_plainTells T_X11_plainTells := ix_ct (a_X11_plainTells l) rfl (by decide) (fun _ => Nat.le_of_ble_eq_true rfl) (fun x μ Q hok hT => r_X11_plainTells x.1 x.2 μ Q (ix_ok_at (hok (vr 10 x.1) (by simp [sh_X11_plainTells])) (by decide) (by decide)) hT)
def vTl (x : Int32) (K : Nat) (nb mm : Int32) (tr : List Int32) : Int32 × List Int32 :=
  if K = 6 then ((vL x K nb mm (vPush tr 71)).1 - (vP x K nb mm (vL x K nb mm (vPush tr 71)).2).1, (vP x K nb mm (vL x K nb mm (vPush tr 71)).2).2)
  else if K = 4 then ((vP x K nb mm (vPush tr 50)).1 - (vD 2 K nb mm (vP x K nb mm (vPush tr 50)).2).1, (vD 2 K nb mm (vP x K nb mm (vPush tr 50)).2).2)
  else vP x K nb mm tr
def T_X11_tellsOf : Nat × Int32 → ix_M → (ix_R → Prop) → Prop := fun (_, x) μ Q => VT (vTl x) μ Q
def sh_X11_tellsOf (x : Nat × Int32) : List ix_V := [vr 10 x.1, vi x.2]
theorem mo_X11_tellsOf (x : Nat × Int32) (μ : ix_M) (Q Q' : ix_R → Prop) (h : ∀ r, Q r → Q' r) (hT : T_X11_tellsOf x μ Q) : T_X11_tellsOf x μ Q' := by
  obtain ⟨a0, a1⟩ := x
  (exact mo_VT (f := vTl a1) h hT)
def oc_X11_tellsOf (n : Nat) : ix_Op := fun k _ ls st μ => match st with
  | .inl a1 :: .inr (.inr (t0, a0)) :: r => t0 = 10 ∧ ix_cs r ≤ 8 ∧ T_X11_tellsOf (a0, a1) μ (fun q => k (n, ls, q.1.toList ++ r, q.2))
  | _ => False
theorem oc_X11_tellsOf_s {l : Launch} {cc : ByteArray} {nL : Nat} {own : String} {d : Nat} {rt : Option FieldType} {pc n : Nat} (h : ix_S l cc nL own d rt pc (ix_call 2 sh_X11_tellsOf T_X11_tellsOf n)) : ix_S l cc nL own d rt pc (oc_X11_tellsOf n) := by
  refine h.by (fun k Q ls st μ h => ?_) (fun k k' Q ls st μ hk h => ?_)
  · unfold oc_X11_tellsOf at h
    split at h
    · rename_i a1 t0 a0 r
      obtain ⟨rfl, h1, h2⟩ := h
      exact ⟨h1, (a0, a1), rfl, _, h2, fun r h => h⟩
    · exact h.elim
  · unfold oc_X11_tellsOf at h ⊢
    split at h
    · obtain ⟨rfl, h1, h2⟩ := h
      exact ⟨rfl, h1, mo_X11_tellsOf _ _ _ _ (fun q hq => hk _ hq) h2⟩
    · exact h.elim
def o_X11_tellsOf : List (Nat × ix_Op) := [
  (0, ix_aload 0 1),
  (1, ix_geti 10 19 4),
  (4, ix_push (vi 6) 6),
  (6, ix_cmp (fun x y => x = y) 9 29),
  (9, ix_aload 0 10),
  (10, ix_push (vi 71) 12),
  (12, oc_X11_ran 15),
  (15, ix_aload 0 16),
  (16, ix_iload 1 17),
  (17, oc_X11_lidsOf 20),
  (20, ix_istore 2 21),
  (21, ix_iload 2 22),
  (22, ix_aload 0 23),
  (23, ix_iload 1 24),
  (24, oc_X11_plainTells 27),
  (27, ix_bin (fun x y => x - y) 28),
  (28, ix_iret),
  (29, ix_aload 0 30),
  (30, ix_geti 10 19 33),
  (33, ix_push (vi 4) 34),
  (34, ix_cmp (fun x y => x = y) 37 57),
  (37, ix_aload 0 38),
  (38, ix_push (vi 50) 40),
  (40, oc_X11_ran 43),
  (43, ix_aload 0 44),
  (44, ix_iload 1 45),
  (45, oc_X11_plainTells 48),
  (48, ix_istore 2 49),
  (49, ix_iload 2 50),
  (50, ix_aload 0 51),
  (51, ix_push (vi 2) 52),
  (52, oc_X11_dipsOf 55),
  (55, ix_bin (fun x y => x - y) 56),
  (56, ix_iret),
  (57, ix_aload 0 58),
  (58, ix_iload 1 59),
  (59, oc_X11_plainTells 62),
  (62, ix_iret)]
set_option maxRecDepth 20000 in
theorem a_X11_tellsOf (l : Launch) : ix_AllS l cX11_tellsOf 3 RX11 6 (some .int) o_X11_tellsOf :=
  .cons (ix_s_aload_n dX11_tellsOf_0 rfl) <|
  .cons (ix_s_geti (j := 19) tu_X11 rfl (by decide) (by decide) tw_894 rfl ts_10_19_i dX11_tellsOf_1) <|
  .cons (ix_s_bipush dX11_tellsOf_4 (by decide +kernel)) <|
  .cons (ix_s_cmp_ne dX11_tellsOf_6 (by decide)) <|
  .cons (ix_s_aload_n dX11_tellsOf_9 rfl) <|
  .cons (ix_s_bipush dX11_tellsOf_10 (by decide +kernel)) <|
  .cons (oc_X11_ran_s (ix_s_callv (t := 10) (k_X11_ran l) (by decide) (by decide) tw_1333 tw_12 tw_1330 tw_1332 tp_60 ⟨by decide, by decide, by decide +kernel⟩ (by decide) rfl rfl (fun _ => ⟨_, _, rfl, rfl⟩) dX11_tellsOf_12)) <|
  .cons (ix_s_aload_n dX11_tellsOf_15 rfl) <|
  .cons (ix_s_iload_n dX11_tellsOf_16 rfl) <|
  .cons (oc_X11_lidsOf_s (ix_s_callv (t := 10) (k_X11_lidsOf l) (by decide) (by decide) tw_1337 tw_12 tw_1334 tw_1336 tp_61 ⟨by decide, by decide, by decide +kernel⟩ (by decide) rfl rfl (fun _ => ⟨_, _, rfl, rfl⟩) dX11_tellsOf_17)) <|
  .cons (ix_s_istore_n dX11_tellsOf_20 rfl (by decide)) <|
  .cons (ix_s_iload_n dX11_tellsOf_21 rfl) <|
  .cons (ix_s_aload_n dX11_tellsOf_22 rfl) <|
  .cons (ix_s_iload_n dX11_tellsOf_23 rfl) <|
  .cons (oc_X11_plainTells_s (ix_s_callv (t := 10) (k_X11_plainTells l) (by decide) (by decide) tw_1349 tw_12 tw_1346 tw_1348 tp_64 ⟨by decide, by decide, by decide +kernel⟩ (by decide) rfl rfl (fun _ => ⟨_, _, rfl, rfl⟩) dX11_tellsOf_24)) <|
  .cons (ix_s_isub dX11_tellsOf_27) <|
  .cons (ix_s_iret dX11_tellsOf_28 rfl) <|
  .cons (ix_s_aload_n dX11_tellsOf_29 rfl) <|
  .cons (ix_s_geti (j := 19) tu_X11 rfl (by decide) (by decide) tw_894 rfl ts_10_19_i dX11_tellsOf_30) <|
  .cons (ix_s_iconst dX11_tellsOf_33 (by decide +kernel)) <|
  .cons (ix_s_cmp_ne dX11_tellsOf_34 (by decide)) <|
  .cons (ix_s_aload_n dX11_tellsOf_37 rfl) <|
  .cons (ix_s_bipush dX11_tellsOf_38 (by decide +kernel)) <|
  .cons (oc_X11_ran_s (ix_s_callv (t := 10) (k_X11_ran l) (by decide) (by decide) tw_1333 tw_12 tw_1330 tw_1332 tp_60 ⟨by decide, by decide, by decide +kernel⟩ (by decide) rfl rfl (fun _ => ⟨_, _, rfl, rfl⟩) dX11_tellsOf_40)) <|
  .cons (ix_s_aload_n dX11_tellsOf_43 rfl) <|
  .cons (ix_s_iload_n dX11_tellsOf_44 rfl) <|
  .cons (oc_X11_plainTells_s (ix_s_callv (t := 10) (k_X11_plainTells l) (by decide) (by decide) tw_1349 tw_12 tw_1346 tw_1348 tp_64 ⟨by decide, by decide, by decide +kernel⟩ (by decide) rfl rfl (fun _ => ⟨_, _, rfl, rfl⟩) dX11_tellsOf_45)) <|
  .cons (ix_s_istore_n dX11_tellsOf_48 rfl (by decide)) <|
  .cons (ix_s_iload_n dX11_tellsOf_49 rfl) <|
  .cons (ix_s_aload_n dX11_tellsOf_50 rfl) <|
  .cons (ix_s_iconst dX11_tellsOf_51 (by decide +kernel)) <|
  .cons (oc_X11_dipsOf_s (ix_s_callv (t := 10) (k_X11_dipsOf l) (by decide) (by decide) tw_1329 tw_12 tw_1326 tw_1328 tp_59 ⟨by decide, by decide, by decide +kernel⟩ (by decide) rfl rfl (fun _ => ⟨_, _, rfl, rfl⟩) dX11_tellsOf_52)) <|
  .cons (ix_s_isub dX11_tellsOf_55) <|
  .cons (ix_s_iret dX11_tellsOf_56 rfl) <|
  .cons (ix_s_aload_n dX11_tellsOf_57 rfl) <|
  .cons (ix_s_iload_n dX11_tellsOf_58 rfl) <|
  .cons (oc_X11_plainTells_s (ix_s_callv (t := 10) (k_X11_plainTells l) (by decide) (by decide) tw_1349 tw_12 tw_1346 tw_1348 tp_64 ⟨by decide, by decide, by decide +kernel⟩ (by decide) rfl rfl (fun _ => ⟨_, _, rfl, rfl⟩) dX11_tellsOf_59)) <|
  .cons (ix_s_iret dX11_tellsOf_62 rfl) <| .nil
theorem e_X11_tellsOf_0 (Q : ix_R → Prop) (ls : ix_L) (st : List ix_V) (μ : ix_M) : ix_Ev o_X11_tellsOf Q (0, ls, st, μ) = ix_aload 0 1 (ix_Ev o_X11_tellsOf Q) Q ls st μ := ix_Ev.eq (a_X11_tellsOf launch0) rfl ls st μ
theorem e_X11_tellsOf_1 (Q : ix_R → Prop) (ls : ix_L) (st : List ix_V) (μ : ix_M) : ix_Ev o_X11_tellsOf Q (1, ls, st, μ) = ix_geti 10 19 4 (ix_Ev o_X11_tellsOf Q) Q ls st μ := ix_Ev.eq (a_X11_tellsOf launch0) rfl ls st μ
theorem e_X11_tellsOf_4 (Q : ix_R → Prop) (ls : ix_L) (st : List ix_V) (μ : ix_M) : ix_Ev o_X11_tellsOf Q (4, ls, st, μ) = ix_push (vi 6) 6 (ix_Ev o_X11_tellsOf Q) Q ls st μ := ix_Ev.eq (a_X11_tellsOf launch0) rfl ls st μ
theorem e_X11_tellsOf_6 (Q : ix_R → Prop) (ls : ix_L) (st : List ix_V) (μ : ix_M) : ix_Ev o_X11_tellsOf Q (6, ls, st, μ) = ix_cmp (fun x y => x = y) 9 29 (ix_Ev o_X11_tellsOf Q) Q ls st μ := ix_Ev.eq (a_X11_tellsOf launch0) rfl ls st μ
theorem e_X11_tellsOf_9 (Q : ix_R → Prop) (ls : ix_L) (st : List ix_V) (μ : ix_M) : ix_Ev o_X11_tellsOf Q (9, ls, st, μ) = ix_aload 0 10 (ix_Ev o_X11_tellsOf Q) Q ls st μ := ix_Ev.eq (a_X11_tellsOf launch0) rfl ls st μ
theorem e_X11_tellsOf_10 (Q : ix_R → Prop) (ls : ix_L) (st : List ix_V) (μ : ix_M) : ix_Ev o_X11_tellsOf Q (10, ls, st, μ) = ix_push (vi 71) 12 (ix_Ev o_X11_tellsOf Q) Q ls st μ := ix_Ev.eq (a_X11_tellsOf launch0) rfl ls st μ
theorem e_X11_tellsOf_12 (Q : ix_R → Prop) (ls : ix_L) (st : List ix_V) (μ : ix_M) : ix_Ev o_X11_tellsOf Q (12, ls, st, μ) = oc_X11_ran 15 (ix_Ev o_X11_tellsOf Q) Q ls st μ := ix_Ev.eq (a_X11_tellsOf launch0) rfl ls st μ
theorem e_X11_tellsOf_15 (Q : ix_R → Prop) (ls : ix_L) (st : List ix_V) (μ : ix_M) : ix_Ev o_X11_tellsOf Q (15, ls, st, μ) = ix_aload 0 16 (ix_Ev o_X11_tellsOf Q) Q ls st μ := ix_Ev.eq (a_X11_tellsOf launch0) rfl ls st μ
theorem e_X11_tellsOf_16 (Q : ix_R → Prop) (ls : ix_L) (st : List ix_V) (μ : ix_M) : ix_Ev o_X11_tellsOf Q (16, ls, st, μ) = ix_iload 1 17 (ix_Ev o_X11_tellsOf Q) Q ls st μ := ix_Ev.eq (a_X11_tellsOf launch0) rfl ls st μ
theorem e_X11_tellsOf_17 (Q : ix_R → Prop) (ls : ix_L) (st : List ix_V) (μ : ix_M) : ix_Ev o_X11_tellsOf Q (17, ls, st, μ) = oc_X11_lidsOf 20 (ix_Ev o_X11_tellsOf Q) Q ls st μ := ix_Ev.eq (a_X11_tellsOf launch0) rfl ls st μ
theorem e_X11_tellsOf_20 (Q : ix_R → Prop) (ls : ix_L) (st : List ix_V) (μ : ix_M) : ix_Ev o_X11_tellsOf Q (20, ls, st, μ) = ix_istore 2 21 (ix_Ev o_X11_tellsOf Q) Q ls st μ := ix_Ev.eq (a_X11_tellsOf launch0) rfl ls st μ
theorem e_X11_tellsOf_21 (Q : ix_R → Prop) (ls : ix_L) (st : List ix_V) (μ : ix_M) : ix_Ev o_X11_tellsOf Q (21, ls, st, μ) = ix_iload 2 22 (ix_Ev o_X11_tellsOf Q) Q ls st μ := ix_Ev.eq (a_X11_tellsOf launch0) rfl ls st μ
theorem e_X11_tellsOf_22 (Q : ix_R → Prop) (ls : ix_L) (st : List ix_V) (μ : ix_M) : ix_Ev o_X11_tellsOf Q (22, ls, st, μ) = ix_aload 0 23 (ix_Ev o_X11_tellsOf Q) Q ls st μ := ix_Ev.eq (a_X11_tellsOf launch0) rfl ls st μ
theorem e_X11_tellsOf_23 (Q : ix_R → Prop) (ls : ix_L) (st : List ix_V) (μ : ix_M) : ix_Ev o_X11_tellsOf Q (23, ls, st, μ) = ix_iload 1 24 (ix_Ev o_X11_tellsOf Q) Q ls st μ := ix_Ev.eq (a_X11_tellsOf launch0) rfl ls st μ
theorem e_X11_tellsOf_24 (Q : ix_R → Prop) (ls : ix_L) (st : List ix_V) (μ : ix_M) : ix_Ev o_X11_tellsOf Q (24, ls, st, μ) = oc_X11_plainTells 27 (ix_Ev o_X11_tellsOf Q) Q ls st μ := ix_Ev.eq (a_X11_tellsOf launch0) rfl ls st μ
theorem e_X11_tellsOf_27 (Q : ix_R → Prop) (ls : ix_L) (st : List ix_V) (μ : ix_M) : ix_Ev o_X11_tellsOf Q (27, ls, st, μ) = ix_bin (fun x y => x - y) 28 (ix_Ev o_X11_tellsOf Q) Q ls st μ := ix_Ev.eq (a_X11_tellsOf launch0) rfl ls st μ
theorem e_X11_tellsOf_28 (Q : ix_R → Prop) (ls : ix_L) (st : List ix_V) (μ : ix_M) : ix_Ev o_X11_tellsOf Q (28, ls, st, μ) = ix_iret (ix_Ev o_X11_tellsOf Q) Q ls st μ := ix_Ev.eq (a_X11_tellsOf launch0) rfl ls st μ
theorem e_X11_tellsOf_29 (Q : ix_R → Prop) (ls : ix_L) (st : List ix_V) (μ : ix_M) : ix_Ev o_X11_tellsOf Q (29, ls, st, μ) = ix_aload 0 30 (ix_Ev o_X11_tellsOf Q) Q ls st μ := ix_Ev.eq (a_X11_tellsOf launch0) rfl ls st μ
theorem e_X11_tellsOf_30 (Q : ix_R → Prop) (ls : ix_L) (st : List ix_V) (μ : ix_M) : ix_Ev o_X11_tellsOf Q (30, ls, st, μ) = ix_geti 10 19 33 (ix_Ev o_X11_tellsOf Q) Q ls st μ := ix_Ev.eq (a_X11_tellsOf launch0) rfl ls st μ
theorem e_X11_tellsOf_33 (Q : ix_R → Prop) (ls : ix_L) (st : List ix_V) (μ : ix_M) : ix_Ev o_X11_tellsOf Q (33, ls, st, μ) = ix_push (vi 4) 34 (ix_Ev o_X11_tellsOf Q) Q ls st μ := ix_Ev.eq (a_X11_tellsOf launch0) rfl ls st μ
theorem e_X11_tellsOf_34 (Q : ix_R → Prop) (ls : ix_L) (st : List ix_V) (μ : ix_M) : ix_Ev o_X11_tellsOf Q (34, ls, st, μ) = ix_cmp (fun x y => x = y) 37 57 (ix_Ev o_X11_tellsOf Q) Q ls st μ := ix_Ev.eq (a_X11_tellsOf launch0) rfl ls st μ
theorem e_X11_tellsOf_37 (Q : ix_R → Prop) (ls : ix_L) (st : List ix_V) (μ : ix_M) : ix_Ev o_X11_tellsOf Q (37, ls, st, μ) = ix_aload 0 38 (ix_Ev o_X11_tellsOf Q) Q ls st μ := ix_Ev.eq (a_X11_tellsOf launch0) rfl ls st μ
theorem e_X11_tellsOf_38 (Q : ix_R → Prop) (ls : ix_L) (st : List ix_V) (μ : ix_M) : ix_Ev o_X11_tellsOf Q (38, ls, st, μ) = ix_push (vi 50) 40 (ix_Ev o_X11_tellsOf Q) Q ls st μ := ix_Ev.eq (a_X11_tellsOf launch0) rfl ls st μ
theorem e_X11_tellsOf_40 (Q : ix_R → Prop) (ls : ix_L) (st : List ix_V) (μ : ix_M) : ix_Ev o_X11_tellsOf Q (40, ls, st, μ) = oc_X11_ran 43 (ix_Ev o_X11_tellsOf Q) Q ls st μ := ix_Ev.eq (a_X11_tellsOf launch0) rfl ls st μ
theorem e_X11_tellsOf_43 (Q : ix_R → Prop) (ls : ix_L) (st : List ix_V) (μ : ix_M) : ix_Ev o_X11_tellsOf Q (43, ls, st, μ) = ix_aload 0 44 (ix_Ev o_X11_tellsOf Q) Q ls st μ := ix_Ev.eq (a_X11_tellsOf launch0) rfl ls st μ
theorem e_X11_tellsOf_44 (Q : ix_R → Prop) (ls : ix_L) (st : List ix_V) (μ : ix_M) : ix_Ev o_X11_tellsOf Q (44, ls, st, μ) = ix_iload 1 45 (ix_Ev o_X11_tellsOf Q) Q ls st μ := ix_Ev.eq (a_X11_tellsOf launch0) rfl ls st μ
theorem e_X11_tellsOf_45 (Q : ix_R → Prop) (ls : ix_L) (st : List ix_V) (μ : ix_M) : ix_Ev o_X11_tellsOf Q (45, ls, st, μ) = oc_X11_plainTells 48 (ix_Ev o_X11_tellsOf Q) Q ls st μ := ix_Ev.eq (a_X11_tellsOf launch0) rfl ls st μ
theorem e_X11_tellsOf_48 (Q : ix_R → Prop) (ls : ix_L) (st : List ix_V) (μ : ix_M) : ix_Ev o_X11_tellsOf Q (48, ls, st, μ) = ix_istore 2 49 (ix_Ev o_X11_tellsOf Q) Q ls st μ := ix_Ev.eq (a_X11_tellsOf launch0) rfl ls st μ
theorem e_X11_tellsOf_49 (Q : ix_R → Prop) (ls : ix_L) (st : List ix_V) (μ : ix_M) : ix_Ev o_X11_tellsOf Q (49, ls, st, μ) = ix_iload 2 50 (ix_Ev o_X11_tellsOf Q) Q ls st μ := ix_Ev.eq (a_X11_tellsOf launch0) rfl ls st μ
theorem e_X11_tellsOf_50 (Q : ix_R → Prop) (ls : ix_L) (st : List ix_V) (μ : ix_M) : ix_Ev o_X11_tellsOf Q (50, ls, st, μ) = ix_aload 0 51 (ix_Ev o_X11_tellsOf Q) Q ls st μ := ix_Ev.eq (a_X11_tellsOf launch0) rfl ls st μ
theorem e_X11_tellsOf_51 (Q : ix_R → Prop) (ls : ix_L) (st : List ix_V) (μ : ix_M) : ix_Ev o_X11_tellsOf Q (51, ls, st, μ) = ix_push (vi 2) 52 (ix_Ev o_X11_tellsOf Q) Q ls st μ := ix_Ev.eq (a_X11_tellsOf launch0) rfl ls st μ
theorem e_X11_tellsOf_52 (Q : ix_R → Prop) (ls : ix_L) (st : List ix_V) (μ : ix_M) : ix_Ev o_X11_tellsOf Q (52, ls, st, μ) = oc_X11_dipsOf 55 (ix_Ev o_X11_tellsOf Q) Q ls st μ := ix_Ev.eq (a_X11_tellsOf launch0) rfl ls st μ
theorem e_X11_tellsOf_55 (Q : ix_R → Prop) (ls : ix_L) (st : List ix_V) (μ : ix_M) : ix_Ev o_X11_tellsOf Q (55, ls, st, μ) = ix_bin (fun x y => x - y) 56 (ix_Ev o_X11_tellsOf Q) Q ls st μ := ix_Ev.eq (a_X11_tellsOf launch0) rfl ls st μ
theorem e_X11_tellsOf_56 (Q : ix_R → Prop) (ls : ix_L) (st : List ix_V) (μ : ix_M) : ix_Ev o_X11_tellsOf Q (56, ls, st, μ) = ix_iret (ix_Ev o_X11_tellsOf Q) Q ls st μ := ix_Ev.eq (a_X11_tellsOf launch0) rfl ls st μ
theorem e_X11_tellsOf_57 (Q : ix_R → Prop) (ls : ix_L) (st : List ix_V) (μ : ix_M) : ix_Ev o_X11_tellsOf Q (57, ls, st, μ) = ix_aload 0 58 (ix_Ev o_X11_tellsOf Q) Q ls st μ := ix_Ev.eq (a_X11_tellsOf launch0) rfl ls st μ
theorem e_X11_tellsOf_58 (Q : ix_R → Prop) (ls : ix_L) (st : List ix_V) (μ : ix_M) : ix_Ev o_X11_tellsOf Q (58, ls, st, μ) = ix_iload 1 59 (ix_Ev o_X11_tellsOf Q) Q ls st μ := ix_Ev.eq (a_X11_tellsOf launch0) rfl ls st μ
theorem e_X11_tellsOf_59 (Q : ix_R → Prop) (ls : ix_L) (st : List ix_V) (μ : ix_M) : ix_Ev o_X11_tellsOf Q (59, ls, st, μ) = oc_X11_plainTells 62 (ix_Ev o_X11_tellsOf Q) Q ls st μ := ix_Ev.eq (a_X11_tellsOf launch0) rfl ls st μ
theorem e_X11_tellsOf_62 (Q : ix_R → Prop) (ls : ix_L) (st : List ix_V) (μ : ix_M) : ix_Ev o_X11_tellsOf Q (62, ls, st, μ) = ix_iret (ix_Ev o_X11_tellsOf Q) Q ls st μ := ix_Ev.eq (a_X11_tellsOf launch0) rfl ls st μ
theorem r_X11_tellsOf (o : Nat) (x : Int32) (μ : ix_M) (Q : ix_R → Prop) (ok_o : o < ix_N ∧ ix_tag o = 10) (hT : T_X11_tellsOf (o, x) μ Q) : ix_Ev o_X11_tellsOf Q (0, [some (vr 10 o), some (vi x), none], [], μ) := by
  obtain rfl := ok_10 o ok_o.1 ok_o.2
  obtain ⟨K, nb, mm, tr, h1, hQ⟩ := hT
  have h19 := h1.1.1
  have hK := h1.1.2
  have h6 : nI K = 6 ↔ K = 6 := nI_eq (b := 6) (by omega) (by decide)
  have h4 : nI K = 4 ↔ K = 4 := nI_eq (b := 4) (by omega) (by decide)
  unfold vTl at hQ
  simp (decide := true) only [e_X11_tellsOf_0, e_X11_tellsOf_1, e_X11_tellsOf_4, e_X11_tellsOf_6, e_X11_tellsOf_9, e_X11_tellsOf_10, e_X11_tellsOf_12, e_X11_tellsOf_15, e_X11_tellsOf_16, e_X11_tellsOf_17, e_X11_tellsOf_20, e_X11_tellsOf_21, e_X11_tellsOf_22, e_X11_tellsOf_23, e_X11_tellsOf_24, e_X11_tellsOf_27, e_X11_tellsOf_28, e_X11_tellsOf_29, e_X11_tellsOf_30, e_X11_tellsOf_33, e_X11_tellsOf_34, e_X11_tellsOf_37, e_X11_tellsOf_38, e_X11_tellsOf_40, e_X11_tellsOf_43, e_X11_tellsOf_44, e_X11_tellsOf_45, e_X11_tellsOf_48, e_X11_tellsOf_49, e_X11_tellsOf_50, e_X11_tellsOf_51, e_X11_tellsOf_52, e_X11_tellsOf_55, e_X11_tellsOf_56, e_X11_tellsOf_57, e_X11_tellsOf_58, e_X11_tellsOf_59, e_X11_tellsOf_62, vi, vl, vr, oc_X11_dipsOf, T_X11_dipsOf, oc_X11_lidsOf, T_X11_lidsOf, oc_X11_plainTells, T_X11_plainTells, oc_X11_ran, T_X11_ran, ix_push, ix_iload, ix_lload, ix_aload, ix_istore, ix_astore, ix_iinc, ix_bin, ix_div, ix_un, ix_i2l, ix_l2i, ix_lbin, ix_lsh, ix_lcmp, ix_dup, ix_dup2, ix_pop, ix_if, ix_cmp, ix_goto, ix_switch, ix_sw, ix_iret, ix_zret, ix_vret, ix_aret, ix_geti, ix_getr, ix_puti, ix_putz, ix_puts, ix_gets, ix_iald, ix_iast, ix_alen, ix_aald, ix_gval, ix_gcod, ix_bald, ix_blen, ix_sald, ix_nret, ix_math2, ix_math1, ix_acopy, ml_113, ml_114, ml_115, ml_116, ml_118, ml_119, ml_120, ml_121, ml_122, ml_123, ml_124, ml_125, ml_126, mv_0, mv_1, mv_2, mv_3, mv_4, mv_5, mB_or, Nat.add_assoc, Int32.reduceLT, Int32.reduceLE, Int32.reduceToNatClampNeg, Int32.reduceSub, Int32.reduceAdd, Nat.reduceAdd, Nat.reduceLeDiff, true_or, or_true, or_false, false_or, not_false_eq_true, not_true_eq_false, false_implies, true_implies, implies_true, and_self, mB_0, mB_01, Classical.not_not, Nat.zero_le, List.getElem?_cons_zero, List.getElem?_cons_succ, List.set_cons_zero, List.set_cons_succ, ix_nl, ix_cs, true_and, and_true, Option.toList_some, Option.toList_none, List.cons_append, List.nil_append, h19]
  refine ⟨fun c => ?_, fun c => ⟨fun d => ?_, fun d => ?_⟩⟩
  · simp only [if_pos (h6.mp c)] at hQ
    exact ⟨K, nb, mm, tr, h1, fun μ1 F1 g1 => ⟨K, nb, mm, _, g1, fun μ2 F2 g2 => ⟨Nat.le_of_ble_eq_true rfl, K, nb, mm, _, g2, fun μ3 F3 g3 => hQ μ3 ((F1.tr F2).tr F3) g3⟩⟩⟩
  · simp only [if_neg (fun z => c (h6.mpr z)), if_pos (h4.mp d)] at hQ
    exact ⟨K, nb, mm, tr, h1, fun μ1 F1 g1 => ⟨K, nb, mm, _, g1, fun μ2 F2 g2 => ⟨Nat.le_of_ble_eq_true rfl, K, nb, mm, _, g2, fun μ3 F3 g3 => hQ μ3 ((F1.tr F2).tr F3) g3⟩⟩⟩
  · simp only [if_neg (fun z => c (h6.mpr z)), if_neg (fun z => d (h4.mpr z))] at hQ
    exact ⟨K, nb, mm, tr, h1, fun μ1 F1 g1 => hQ μ1 F1 g1⟩
theorem k_X11_tellsOf (l : Launch) : ix_Ct l yX11_tellsOf cX11_tellsOf 3 (some .int) 6 sh_X11_tellsOf T_X11_tellsOf := ix_ct (a_X11_tellsOf l) rfl (by decide) (fun _ => Nat.le_of_ble_eq_true rfl) (fun x μ Q hok hT => r_X11_tellsOf x.1 x.2 μ Q (ix_ok_at (hok (vr 10 x.1) (by simp [sh_X11_tellsOf])) (by decide) (by decide)) hT)
def vAct (a : Nat) (x : Int32) (K : Nat) (nb mm : Int32) (tr : List Int32) : Int32 × List Int32 := if a = 0 then vD x K nb mm tr else if a = 1 then vL x K nb mm tr else if a = 2 then vTn x K nb mm tr else vTl x K nb mm tr
theorem vAct_eq (nb mm x : Int32) : ∀ K, K < 7 → ∀ a, a < 4 → vCall nb (nI K) mm 8 (nI K) (nI a) x [] = some (vAct a x K nb mm []) := by
  intro K hK a ha
  have hK : K = 0 ∨ K = 1 ∨ K = 2 ∨ K = 3 ∨ K = 4 ∨ K = 5 ∨ K = 6 := by omega
  have ha : a = 0 ∨ a = 1 ∨ a = 2 ∨ a = 3 := by omega
  rcases hK with rfl | rfl | rfl | rfl | rfl | rfl | rfl <;> rcases ha with rfl | rfl | rfl | rfl <;> rfl
