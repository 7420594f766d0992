/-! ===== the model: copies, texts, boats ===== -/
def T_X11_copy : Nat × Nat → ix_M → (ix_R → Prop) → Prop := fun (a, b) μ Q => (ix_len a = 256 ∧ ix_len b = 256 ∧ a ≠ b) ∧ ∀ μ', Fx [b] μ μ' → (∀ k, k < 256 → μ' b k = μ a k) → Q (none, μ')
def sh_X11_copy (x : Nat × Nat) : List ix_V := [vr 20 x.1, vr 20 x.2]
theorem mo_X11_copy (x : Nat × Nat) (μ : ix_M) (Q Q' : ix_R → Prop) (h : ∀ r, Q r → Q' r) (hT : T_X11_copy x μ Q) : T_X11_copy x μ Q' := by
  obtain ⟨a0, a1⟩ := x
  (exact ⟨hT.1, fun μ' x y => h _ (hT.2 μ' x y)⟩)
def oc_X11_copy (n : Nat) : ix_Op := fun k _ ls st μ => match st with
  | .inr (.inr (t1, a1)) :: .inr (.inr (t0, a0)) :: r => t0 = 20 ∧ t1 = 20 ∧ ix_cs r ≤ 8 ∧ T_X11_copy (a0, a1) μ (fun q => k (n, ls, q.1.toList ++ r, q.2))
  | _ => False
theorem oc_X11_copy_s {l : Launch} {cc : ByteArray} {nL : Nat} {own : String} {d : Nat} {rt : Option FieldType} {pc n : Nat} (h : ix_S l cc nL own d rt pc (ix_call 2 sh_X11_copy T_X11_copy n)) : ix_S l cc nL own d rt pc (oc_X11_copy n) := by
  refine h.by (fun k Q ls st μ h => ?_) (fun k k' Q ls st μ hk h => ?_)
  · unfold oc_X11_copy at h
    split at h
    · rename_i t1 a1 t0 a0 r
      obtain ⟨rfl, rfl, h1, h2⟩ := h
      exact ⟨h1, (a0, a1), rfl, _, h2, fun r h => h⟩
    · exact h.elim
  · unfold oc_X11_copy at h ⊢
    split at h
    · obtain ⟨rfl, rfl, h1, h2⟩ := h
      exact ⟨rfl, rfl, h1, mo_X11_copy _ _ _ _ (fun q hq => hk _ hq) h2⟩
    · exact h.elim
def o_X11_copy : List (Nat × ix_Op) := [
  (0, ix_push (vi 0) 1),
  (1, ix_istore 2 2),
  (2, ix_iload 2 3),
  (3, ix_push (vi 256) 6),
  (6, ix_cmp (fun x y => y ≤ x) 21 9),
  (9, ix_aload 1 10),
  (10, ix_iload 2 11),
  (11, ix_aload 0 12),
  (12, ix_iload 2 13),
  (13, ix_iald 14),
  (14, ix_iast 15),
  (15, ix_iinc 2 1 18),
  (18, ix_goto 2),
  (21, ix_vret)]
set_option maxRecDepth 20000 in
theorem a_X11_copy (l : Launch) : ix_AllS l cX11_copy 3 RX11 1 none o_X11_copy :=
  .cons (ix_s_iconst dX11_copy_0 (by decide +kernel)) <|
  .cons (ix_s_istore_n dX11_copy_1 rfl (by decide)) <|
  .cons (ix_s_iload_n dX11_copy_2 rfl) <|
  .cons (ix_s_sipush dX11_copy_3 (by decide +kernel)) <|
  .cons (ix_s_cmp_ge dX11_copy_6 (by decide)) <|
  .cons (ix_s_aload_n dX11_copy_9 rfl) <|
  .cons (ix_s_iload_n dX11_copy_10 rfl) <|
  .cons (ix_s_aload_n dX11_copy_11 rfl) <|
  .cons (ix_s_iload_n dX11_copy_12 rfl) <|
  .cons (ix_s_iald dX11_copy_13) <|
  .cons (ix_s_iast dX11_copy_14) <|
  .cons (ix_s_iinc dX11_copy_15 (by decide +kernel) (by decide)) <|
  .cons (ix_s_goto dX11_copy_18 (by decide)) <|
  .cons (ix_s_vret dX11_copy_21 rfl) <| .nil
theorem e_X11_copy_0 (Q : ix_R → Prop) (ls : ix_L) (st : List ix_V) (μ : ix_M) : ix_Ev o_X11_copy Q (0, ls, st, μ) = ix_push (vi 0) 1 (ix_Ev o_X11_copy Q) Q ls st μ := ix_Ev.eq (a_X11_copy launch0) rfl ls st μ
theorem e_X11_copy_1 (Q : ix_R → Prop) (ls : ix_L) (st : List ix_V) (μ : ix_M) : ix_Ev o_X11_copy Q (1, ls, st, μ) = ix_istore 2 2 (ix_Ev o_X11_copy Q) Q ls st μ := ix_Ev.eq (a_X11_copy launch0) rfl ls st μ
theorem e_X11_copy_2 (Q : ix_R → Prop) (ls : ix_L) (st : List ix_V) (μ : ix_M) : ix_Ev o_X11_copy Q (2, ls, st, μ) = ix_iload 2 3 (ix_Ev o_X11_copy Q) Q ls st μ := ix_Ev.eq (a_X11_copy launch0) rfl ls st μ
theorem e_X11_copy_3 (Q : ix_R → Prop) (ls : ix_L) (st : List ix_V) (μ : ix_M) : ix_Ev o_X11_copy Q (3, ls, st, μ) = ix_push (vi 256) 6 (ix_Ev o_X11_copy Q) Q ls st μ := ix_Ev.eq (a_X11_copy launch0) rfl ls st μ
theorem e_X11_copy_6 (Q : ix_R → Prop) (ls : ix_L) (st : List ix_V) (μ : ix_M) : ix_Ev o_X11_copy Q (6, ls, st, μ) = ix_cmp (fun x y => y ≤ x) 21 9 (ix_Ev o_X11_copy Q) Q ls st μ := ix_Ev.eq (a_X11_copy launch0) rfl ls st μ
theorem e_X11_copy_9 (Q : ix_R → Prop) (ls : ix_L) (st : List ix_V) (μ : ix_M) : ix_Ev o_X11_copy Q (9, ls, st, μ) = ix_aload 1 10 (ix_Ev o_X11_copy Q) Q ls st μ := ix_Ev.eq (a_X11_copy launch0) rfl ls st μ
theorem e_X11_copy_10 (Q : ix_R → Prop) (ls : ix_L) (st : List ix_V) (μ : ix_M) : ix_Ev o_X11_copy Q (10, ls, st, μ) = ix_iload 2 11 (ix_Ev o_X11_copy Q) Q ls st μ := ix_Ev.eq (a_X11_copy launch0) rfl ls st μ
theorem e_X11_copy_11 (Q : ix_R → Prop) (ls : ix_L) (st : List ix_V) (μ : ix_M) : ix_Ev o_X11_copy Q (11, ls, st, μ) = ix_aload 0 12 (ix_Ev o_X11_copy Q) Q ls st μ := ix_Ev.eq (a_X11_copy launch0) rfl ls st μ
theorem e_X11_copy_12 (Q : ix_R → Prop) (ls : ix_L) (st : List ix_V) (μ : ix_M) : ix_Ev o_X11_copy Q (12, ls, st, μ) = ix_iload 2 13 (ix_Ev o_X11_copy Q) Q ls st μ := ix_Ev.eq (a_X11_copy launch0) rfl ls st μ
theorem e_X11_copy_13 (Q : ix_R → Prop) (ls : ix_L) (st : List ix_V) (μ : ix_M) : ix_Ev o_X11_copy Q (13, ls, st, μ) = ix_iald 14 (ix_Ev o_X11_copy Q) Q ls st μ := ix_Ev.eq (a_X11_copy launch0) rfl ls st μ
theorem e_X11_copy_14 (Q : ix_R → Prop) (ls : ix_L) (st : List ix_V) (μ : ix_M) : ix_Ev o_X11_copy Q (14, ls, st, μ) = ix_iast 15 (ix_Ev o_X11_copy Q) Q ls st μ := ix_Ev.eq (a_X11_copy launch0) rfl ls st μ
theorem e_X11_copy_15 (Q : ix_R → Prop) (ls : ix_L) (st : List ix_V) (μ : ix_M) : ix_Ev o_X11_copy Q (15, ls, st, μ) = ix_iinc 2 1 18 (ix_Ev o_X11_copy Q) Q ls st μ := ix_Ev.eq (a_X11_copy launch0) rfl ls st μ
theorem e_X11_copy_18 (Q : ix_R → Prop) (ls : ix_L) (st : List ix_V) (μ : ix_M) : ix_Ev o_X11_copy Q (18, ls, st, μ) = ix_goto 2 (ix_Ev o_X11_copy Q) Q ls st μ := ix_Ev.eq (a_X11_copy launch0) rfl ls st μ
theorem e_X11_copy_21 (Q : ix_R → Prop) (ls : ix_L) (st : List ix_V) (μ : ix_M) : ix_Ev o_X11_copy Q (21, ls, st, μ) = ix_vret (ix_Ev o_X11_copy Q) Q ls st μ := ix_Ev.eq (a_X11_copy launch0) rfl ls st μ
theorem l_X11_copy {a b : Nat} {μ : ix_M} {Q : ix_R → Prop} (ha : ix_len a = 256) (hb : ix_len b = 256) (hab : a ≠ b) (hQ : ∀ μ', Fx [b] μ μ' → (∀ k, k < 256 → μ' b k = μ a k) → Q (none, μ')) : ∀ (k i : Nat) (μ1 : ix_M), i + k = 256 → Fx [b] μ μ1 → (∀ j, j < i → μ1 b j = μ a j) → ix_Ev o_X11_copy Q (2, [some (vr 20 a), some (vr 20 b), some (vi (nI i))], [], μ1) := by
  intro k
  induction k with
  | zero =>
    intro i μ1 hi hF h
    have hi : i = 256 := hi
    subst hi
    rw [e_X11_copy_2]
    simp (decide := true) only [e_X11_copy_0, e_X11_copy_1, e_X11_copy_3, e_X11_copy_6, e_X11_copy_9, e_X11_copy_10, e_X11_copy_11, e_X11_copy_12, e_X11_copy_13, e_X11_copy_14, e_X11_copy_15, e_X11_copy_18, e_X11_copy_21, vi, vl, vr, ix_push, ix_iload, ix_lload, ix_aload, ix_istore, ix_astore, ix_iinc, ix_bin, ix_div, ix_un, ix_i2l, ix_l2i, ix_lbin, ix_lsh, ix_lcmp, ix_dup, ix_dup2, ix_pop, ix_if, ix_cmp, ix_goto, ix_switch, ix_sw, ix_iret, ix_zret, ix_vret, ix_aret, ix_geti, ix_getr, ix_puti, ix_putz, ix_puts, ix_gets, ix_iald, ix_iast, ix_alen, ix_aald, ix_gval, ix_gcod, ix_bald, ix_blen, ix_sald, ix_nret, ix_math2, ix_math1, ix_acopy, ml_113, ml_114, ml_115, ml_116, ml_118, ml_119, ml_120, ml_121, ml_122, ml_123, ml_124, ml_125, ml_126, mv_0, mv_1, mv_2, mv_3, mv_4, mv_5, mB_or, Nat.add_assoc, Int32.reduceLT, Int32.reduceLE, Int32.reduceToNatClampNeg, Int32.reduceSub, Int32.reduceAdd, Nat.reduceAdd, Nat.reduceLeDiff, true_or, or_true, or_false, false_or, not_false_eq_true, not_true_eq_false, false_implies, true_implies, implies_true, and_self, mB_0, mB_01, Classical.not_not, Nat.zero_le, List.getElem?_cons_zero, List.getElem?_cons_succ, List.set_cons_zero, List.set_cons_succ, ix_nl, ix_cs, true_and, and_true, Option.toList_some, Option.toList_none, List.cons_append, List.nil_append]
    exact hQ μ1 hF h
  | succ k ih =>
    intro i μ1 hi hF h
    have hng : ¬ (256 : Int32) ≤ nI i := by
      rw [fa_lit 256]
      exact nI_ge (by omega) (by decide)
    have hin : vp_in (nI i) 256 := vp_in_nI (by omega) (by decide)
    have hc : (nI i).toNatClampNeg = i := nI_clamp (by omega)
    have hi1 : nI i + 1 = nI (i + 1) := nI_1 i
    rw [e_X11_copy_2]
    simp (decide := true) only [e_X11_copy_0, e_X11_copy_1, e_X11_copy_3, e_X11_copy_6, e_X11_copy_9, e_X11_copy_10, e_X11_copy_11, e_X11_copy_12, e_X11_copy_13, e_X11_copy_14, e_X11_copy_15, e_X11_copy_18, e_X11_copy_21, vi, vl, vr, ix_push, ix_iload, ix_lload, ix_aload, ix_istore, ix_astore, ix_iinc, ix_bin, ix_div, ix_un, ix_i2l, ix_l2i, ix_lbin, ix_lsh, ix_lcmp, ix_dup, ix_dup2, ix_pop, ix_if, ix_cmp, ix_goto, ix_switch, ix_sw, ix_iret, ix_zret, ix_vret, ix_aret, ix_geti, ix_getr, ix_puti, ix_putz, ix_puts, ix_gets, ix_iald, ix_iast, ix_alen, ix_aald, ix_gval, ix_gcod, ix_bald, ix_blen, ix_sald, ix_nret, ix_math2, ix_math1, ix_acopy, ml_113, ml_114, ml_115, ml_116, ml_118, ml_119, ml_120, ml_121, ml_122, ml_123, ml_124, ml_125, ml_126, mv_0, mv_1, mv_2, mv_3, mv_4, mv_5, mB_or, Nat.add_assoc, Int32.reduceLT, Int32.reduceLE, Int32.reduceToNatClampNeg, Int32.reduceSub, Int32.reduceAdd, Nat.reduceAdd, Nat.reduceLeDiff, true_or, or_true, or_false, false_or, not_false_eq_true, not_true_eq_false, false_implies, true_implies, implies_true, and_self, mB_0, mB_01, Classical.not_not, Nat.zero_le, List.getElem?_cons_zero, List.getElem?_cons_succ, List.set_cons_zero, List.set_cons_succ, ix_nl, ix_cs, true_and, and_true, Option.toList_some, Option.toList_none, List.cons_append, List.nil_append, hng, hin, hc, hi1, ha, hb]
    refine ih (i + 1) _ (by omega) (hF.up (by simp)) (fun j hj => ?_)
    rw [ix_up_ap]
    by_cases e : j = i
    · subst e
      rw [if_pos ⟨rfl, rfl⟩, hF a (by simpa using hab)]
    · rw [if_neg (fun z => e z.2)]
      exact h j (by omega)
theorem r_X11_copy (a : Nat) (b : Nat) (μ : ix_M) (Q : ix_R → Prop) (ok_a : a < ix_N ∧ ix_tag a = 20) (ok_b : b < ix_N ∧ ix_tag b = 20) (hT : T_X11_copy (a, b) μ Q) : ix_Ev o_X11_copy Q (0, [some (vr 20 a), some (vr 20 b), none], [], μ) := by
  obtain ⟨⟨h1, h2, h3⟩, hQ⟩ := hT
  simp (decide := true) only [e_X11_copy_0, e_X11_copy_1, e_X11_copy_3, e_X11_copy_6, e_X11_copy_9, e_X11_copy_10, e_X11_copy_11, e_X11_copy_12, e_X11_copy_13, e_X11_copy_14, e_X11_copy_15, e_X11_copy_18, e_X11_copy_21, vi, vl, vr, ix_push, ix_iload, ix_lload, ix_aload, ix_istore, ix_astore, ix_iinc, ix_bin, ix_div, ix_un, ix_i2l, ix_l2i, ix_lbin, ix_lsh, ix_lcmp, ix_dup, ix_dup2, ix_pop, ix_if, ix_cmp, ix_goto, ix_switch, ix_sw, ix_iret, ix_zret, ix_vret, ix_aret, ix_geti, ix_getr, ix_puti, ix_putz, ix_puts, ix_gets, ix_iald, ix_iast, ix_alen, ix_aald, ix_gval, ix_gcod, ix_bald, ix_blen, ix_sald, ix_nret, ix_math2, ix_math1, ix_acopy, ml_113, ml_114, ml_115, ml_116, ml_118, ml_119, ml_120, ml_121, ml_122, ml_123, ml_124, ml_125, ml_126, mv_0, mv_1, mv_2, mv_3, mv_4, mv_5, mB_or, Nat.add_assoc, Int32.reduceLT, Int32.reduceLE, Int32.reduceToNatClampNeg, Int32.reduceSub, Int32.reduceAdd, Nat.reduceAdd, Nat.reduceLeDiff, true_or, or_true, or_false, false_or, not_false_eq_true, not_true_eq_false, false_implies, true_implies, implies_true, and_self, mB_0, mB_01, Classical.not_not, Nat.zero_le, List.getElem?_cons_zero, List.getElem?_cons_succ, List.set_cons_zero, List.set_cons_succ, ix_nl, ix_cs, true_and, and_true, Option.toList_some, Option.toList_none, List.cons_append, List.nil_append]
  exact l_X11_copy h1 h2 h3 hQ 256 0 μ rfl Fx.rf (fun j hj => absurd hj (Nat.not_lt_zero j))
theorem k_X11_copy (l : Launch) : ix_Ct l yX11_copy cX11_copy 3 none 1 sh_X11_copy T_X11_copy := ix_ct (a_X11_copy l) rfl (by decide) (fun _ => Nat.le_of_ble_eq_true rfl) (fun x μ Q hok hT => r_X11_copy x.1 x.2 μ Q (ix_ok_at (hok (vr 20 x.1) (by simp [sh_X11_copy])) (by decide) (by decide)) (ix_ok_at (hok (vr 20 x.2) (by simp [sh_X11_copy])) (by decide) (by decide)) hT)
def T_X11_putBack : Nat × Int32 → ix_M → (ix_R → Prop) → Prop := fun (_, v) μ Q => ∀ μ', Fx [113] μ μ' → (∀ k, k < 256 → μ' 113 k = μ 115 k) → Q (some (vi v), μ')
def sh_X11_putBack (x : Nat × Int32) : List ix_V := [vr 10 x.1, vi x.2]
theorem mo_X11_putBack (x : Nat × Int32) (μ : ix_M) (Q Q' : ix_R → Prop) (h : ∀ r, Q r → Q' r) (hT : T_X11_putBack x μ Q) : T_X11_putBack x μ Q' := by
  obtain ⟨a0, a1⟩ := x
  (exact fun μ' x y => h _ (hT μ' x y))
def oc_X11_putBack (n : Nat) : ix_Op := fun k _ ls st μ => match st with
  | .inl a1 :: .inr (.inr (t0, a0)) :: r => t0 = 10 ∧ ix_cs r ≤ 8 ∧ T_X11_putBack (a0, a1) μ (fun q => k (n, ls, q.1.toList ++ r, q.2))
  | _ => False
theorem oc_X11_putBack_s {l : Launch} {cc : ByteArray} {nL : Nat} {own : String} {d : Nat} {rt : Option FieldType} {pc n : Nat} (h : ix_S l cc nL own d rt pc (ix_call 2 sh_X11_putBack T_X11_putBack n)) : ix_S l cc nL own d rt pc (oc_X11_putBack n) := by
  refine h.by (fun k Q ls st μ h => ?_) (fun k k' Q ls st μ hk h => ?_)
  · unfold oc_X11_putBack at h
    split at h
    · rename_i a1 t0 a0 r
      obtain ⟨rfl, h1, h2⟩ := h
      exact ⟨h1, (a0, a1), rfl, _, h2, fun r h => h⟩
    · exact h.elim
  · unfold oc_X11_putBack at h ⊢
    split at h
    · obtain ⟨rfl, h1, h2⟩ := h
      exact ⟨rfl, h1, mo_X11_putBack _ _ _ _ (fun q hq => hk _ hq) h2⟩
    · exact h.elim
def o_X11_putBack : List (Nat × ix_Op) := [
  (0, ix_aload 0 1),
  (1, ix_getr 10 20 (fun _ => 115) 4),
  (4, ix_aload 0 5),
  (5, ix_getr 10 20 (fun _ => 113) 8),
  (8, oc_X11_copy 11),
  (11, ix_iload 1 12),
  (12, ix_iret)]
set_option maxRecDepth 20000 in
theorem a_X11_putBack (l : Launch) : ix_AllS l cX11_putBack 2 RX11 2 (some .int) o_X11_putBack :=
  .cons (ix_s_aload_n dX11_putBack_0 rfl) <|
  .cons (ix_s_getr (j := 2) tu_X11 rfl (by decide) (by decide) tw_877 rfl ts_10_2_r dX11_putBack_1) <|
  .cons (ix_s_aload_n dX11_putBack_4 rfl) <|
  .cons (ix_s_getr (j := 0) tu_X11 rfl (by decide) (by decide) tw_875 rfl ts_10_0_r dX11_putBack_5) <|
  .cons (oc_X11_copy_s (ix_s_calls (k_X11_copy l) (by decide) (by decide) tw_1221 tw_12 tw_1219 tw_1220 ⟨by decide, by decide, by decide +kernel⟩ (fun _ => rfl) dX11_putBack_8)) <|
  .cons (ix_s_iload_n dX11_putBack_11 rfl) <|
  .cons (ix_s_iret dX11_putBack_12 rfl) <| .nil
theorem e_X11_putBack_0 (Q : ix_R → Prop) (ls : ix_L) (st : List ix_V) (μ : ix_M) : ix_Ev o_X11_putBack Q (0, ls, st, μ) = ix_aload 0 1 (ix_Ev o_X11_putBack Q) Q ls st μ := ix_Ev.eq (a_X11_putBack launch0) rfl ls st μ
theorem e_X11_putBack_1 (Q : ix_R → Prop) (ls : ix_L) (st : List ix_V) (μ : ix_M) : ix_Ev o_X11_putBack Q (1, ls, st, μ) = ix_getr 10 20 (fun _ => 115) 4 (ix_Ev o_X11_putBack Q) Q ls st μ := ix_Ev.eq (a_X11_putBack launch0) rfl ls st μ
theorem e_X11_putBack_4 (Q : ix_R → Prop) (ls : ix_L) (st : List ix_V) (μ : ix_M) : ix_Ev o_X11_putBack Q (4, ls, st, μ) = ix_aload 0 5 (ix_Ev o_X11_putBack Q) Q ls st μ := ix_Ev.eq (a_X11_putBack launch0) rfl ls st μ
theorem e_X11_putBack_5 (Q : ix_R → Prop) (ls : ix_L) (st : List ix_V) (μ : ix_M) : ix_Ev o_X11_putBack Q (5, ls, st, μ) = ix_getr 10 20 (fun _ => 113) 8 (ix_Ev o_X11_putBack Q) Q ls st μ := ix_Ev.eq (a_X11_putBack launch0) rfl ls st μ
theorem e_X11_putBack_8 (Q : ix_R → Prop) (ls : ix_L) (st : List ix_V) (μ : ix_M) : ix_Ev o_X11_putBack Q (8, ls, st, μ) = oc_X11_copy 11 (ix_Ev o_X11_putBack Q) Q ls st μ := ix_Ev.eq (a_X11_putBack launch0) rfl ls st μ
theorem e_X11_putBack_11 (Q : ix_R → Prop) (ls : ix_L) (st : List ix_V) (μ : ix_M) : ix_Ev o_X11_putBack Q (11, ls, st, μ) = ix_iload 1 12 (ix_Ev o_X11_putBack Q) Q ls st μ := ix_Ev.eq (a_X11_putBack launch0) rfl ls st μ
theorem e_X11_putBack_12 (Q : ix_R → Prop) (ls : ix_L) (st : List ix_V) (μ : ix_M) : ix_Ev o_X11_putBack Q (12, ls, st, μ) = ix_iret (ix_Ev o_X11_putBack Q) Q ls st μ := ix_Ev.eq (a_X11_putBack launch0) rfl ls st μ
theorem r_X11_putBack (o : Nat) (v : Int32) (μ : ix_M) (Q : ix_R → Prop) (ok_o : o < ix_N ∧ ix_tag o = 10) (hT : T_X11_putBack (o, v) μ Q) : ix_Ev o_X11_putBack Q (0, [some (vr 10 o), some (vi v)], [], μ) := by
  obtain rfl := ok_10 o ok_o.1 ok_o.2
  simp (decide := true) only [e_X11_putBack_0, e_X11_putBack_1, e_X11_putBack_4, e_X11_putBack_5, e_X11_putBack_8, e_X11_putBack_11, e_X11_putBack_12, vi, vl, vr, oc_X11_copy, T_X11_copy, ix_push, ix_iload, ix_lload, ix_aload, ix_istore, ix_astore, ix_iinc, ix_bin, ix_div, ix_un, ix_i2l, ix_l2i, ix_lbin, ix_lsh, ix_lcmp, ix_dup, ix_dup2, ix_pop, ix_if, ix_cmp, ix_goto, ix_switch, ix_sw, ix_iret, ix_zret, ix_vret, ix_aret, ix_geti, ix_getr, ix_puti, ix_putz, ix_puts, ix_gets, ix_iald, ix_iast, ix_alen, ix_aald, ix_gval, ix_gcod, ix_bald, ix_blen, ix_sald, ix_nret, ix_math2, ix_math1, ix_acopy, ml_113, ml_114, ml_115, ml_116, ml_118, ml_119, ml_120, ml_121, ml_122, ml_123, ml_124, ml_125, ml_126, mv_0, mv_1, mv_2, mv_3, mv_4, mv_5, mB_or, Nat.add_assoc, Int32.reduceLT, Int32.reduceLE, Int32.reduceToNatClampNeg, Int32.reduceSub, Int32.reduceAdd, Nat.reduceAdd, Nat.reduceLeDiff, true_or, or_true, or_false, false_or, not_false_eq_true, not_true_eq_false, false_implies, true_implies, implies_true, and_self, mB_0, mB_01, Classical.not_not, Nat.zero_le, List.getElem?_cons_zero, List.getElem?_cons_succ, List.set_cons_zero, List.set_cons_succ, ix_nl, ix_cs, true_and, and_true, Option.toList_some, Option.toList_none, List.cons_append, List.nil_append]
  exact fun μ' x y => hT μ' x y
theorem k_X11_putBack (l : Launch) : ix_Ct l yX11_putBack cX11_putBack 2 (some .int) 2 sh_X11_putBack T_X11_putBack := ix_ct (a_X11_putBack l) rfl (by decide) (fun _ => Nat.le_of_ble_eq_true rfl) (fun x μ Q hok hT => r_X11_putBack x.1 x.2 μ Q (ix_ok_at (hok (vr 10 x.1) (by simp [sh_X11_putBack])) (by decide) (by decide)) hT)
theorem nAb_eq : ∀ k, k < 7 → nAbove (nI k) = mAbove (nI k) ∧ (nI k = 0 ∨ ∃ j, j < k ∧ mAbove (nI k) = nI j) := by decide +kernel
def T_X11_isUnder : Int32 × Int32 → ix_M → (ix_R → Prop) → Prop := fun (k, o) μ Q => (∃ K, K < 7 ∧ k = nI K) ∧ Q (some (vi (mB (mUnd 7 k o = true))), μ)
def sh_X11_isUnder (x : Int32 × Int32) : List ix_V := [vi x.1, vi x.2]
theorem mo_X11_isUnder (x : Int32 × Int32) (μ : ix_M) (Q Q' : ix_R → Prop) (h : ∀ r, Q r → Q' r) (hT : T_X11_isUnder x μ Q) : T_X11_isUnder x μ Q' := by
  obtain ⟨a0, a1⟩ := x
  first | exact h _ hT | exact ⟨hT.1, h _ hT.2⟩ | exact fun r hr => h _ (hT r hr) | exact ⟨hT.1, fun r hr => h _ (hT.2 r hr)⟩ | exact ⟨hT.1, hT.2.1, fun r hr => h _ (hT.2.2 r hr)⟩
def oc_X11_isUnder (n : Nat) : ix_Op := fun k _ ls st μ => match st with
  | .inl a1 :: .inl a0 :: r => ix_cs r ≤ 8 ∧ T_X11_isUnder (a0, a1) μ (fun q => k (n, ls, q.1.toList ++ r, q.2))
  | _ => False
theorem oc_X11_isUnder_s {l : Launch} {cc : ByteArray} {nL : Nat} {own : String} {d : Nat} {rt : Option FieldType} {pc n : Nat} (h : ix_S l cc nL own d rt pc (ix_call 2 sh_X11_isUnder T_X11_isUnder n)) : ix_S l cc nL own d rt pc (oc_X11_isUnder n) := by
  refine h.by (fun k Q ls st μ h => ?_) (fun k k' Q ls st μ hk h => ?_)
  · unfold oc_X11_isUnder at h
    split at h
    · rename_i a1 a0 r
      obtain ⟨h1, h2⟩ := h
      exact ⟨h1, (a0, a1), rfl, _, h2, fun r h => h⟩
    · exact h.elim
  · unfold oc_X11_isUnder at h ⊢
    split at h
    · obtain ⟨h1, h2⟩ := h
      exact ⟨h1, mo_X11_isUnder _ _ _ _ (fun q hq => hk _ hq) h2⟩
    · exact h.elim
def o_X11_isUnder : List (Nat × ix_Op) := [
  (0, ix_iload 0 1),
  (1, ix_istore 2 2),
  (2, ix_iload 2 3),
  (3, ix_if (fun x => x < 0) 19 6),
  (6, ix_iload 2 7),
  (7, ix_iload 1 8),
  (8, ix_cmp (fun x y => x = y) 19 11),
  (11, ix_iload 2 12),
  (12, oc_X11_above 15),
  (15, ix_istore 2 16),
  (16, ix_goto 2),
  (19, ix_iload 2 20),
  (20, ix_if (fun x => x < 0) 27 23),
  (23, ix_push (vi 1) 24),
  (24, ix_goto 28),
  (27, ix_push (vi 0) 28),
  (28, ix_zret)]
set_option maxRecDepth 20000 in
theorem a_X11_isUnder (l : Launch) : ix_AllS l cX11_isUnder 3 RX11 2 (some .boolean) o_X11_isUnder :=
  .cons (ix_s_iload_n dX11_isUnder_0 rfl) <|
  .cons (ix_s_istore_n dX11_isUnder_1 rfl (by decide)) <|
  .cons (ix_s_iload_n dX11_isUnder_2 rfl) <|
  .cons (ix_s_if_lt dX11_isUnder_3 (by decide)) <|
  .cons (ix_s_iload_n dX11_isUnder_6 rfl) <|
  .cons (ix_s_iload_n dX11_isUnder_7 rfl) <|
  .cons (ix_s_cmp_eq dX11_isUnder_8 (by decide)) <|
  .cons (ix_s_iload_n dX11_isUnder_11 rfl) <|
  .cons (oc_X11_above_s (ix_s_calls (k_X11_above l) (by decide) (by decide) tw_1177 tw_12 tw_1175 tw_1176 ⟨by decide, by decide, by decide +kernel⟩ (fun _ => rfl) dX11_isUnder_12)) <|
  .cons (ix_s_istore_n dX11_isUnder_15 rfl (by decide)) <|
  .cons (ix_s_goto dX11_isUnder_16 (by decide)) <|
  .cons (ix_s_iload_n dX11_isUnder_19 rfl) <|
  .cons (ix_s_if_lt dX11_isUnder_20 (by decide)) <|
  .cons (ix_s_iconst dX11_isUnder_23 (by decide +kernel)) <|
  .cons (ix_s_goto dX11_isUnder_24 (by decide)) <|
  .cons (ix_s_iconst dX11_isUnder_27 (by decide +kernel)) <|
  .cons (ix_s_zret dX11_isUnder_28 rfl) <| .nil
theorem e_X11_isUnder_0 (Q : ix_R → Prop) (ls : ix_L) (st : List ix_V) (μ : ix_M) : ix_Ev o_X11_isUnder Q (0, ls, st, μ) = ix_iload 0 1 (ix_Ev o_X11_isUnder Q) Q ls st μ := ix_Ev.eq (a_X11_isUnder launch0) rfl ls st μ
theorem e_X11_isUnder_1 (Q : ix_R → Prop) (ls : ix_L) (st : List ix_V) (μ : ix_M) : ix_Ev o_X11_isUnder Q (1, ls, st, μ) = ix_istore 2 2 (ix_Ev o_X11_isUnder Q) Q ls st μ := ix_Ev.eq (a_X11_isUnder launch0) rfl ls st μ
theorem e_X11_isUnder_2 (Q : ix_R → Prop) (ls : ix_L) (st : List ix_V) (μ : ix_M) : ix_Ev o_X11_isUnder Q (2, ls, st, μ) = ix_iload 2 3 (ix_Ev o_X11_isUnder Q) Q ls st μ := ix_Ev.eq (a_X11_isUnder launch0) rfl ls st μ
theorem e_X11_isUnder_3 (Q : ix_R → Prop) (ls : ix_L) (st : List ix_V) (μ : ix_M) : ix_Ev o_X11_isUnder Q (3, ls, st, μ) = ix_if (fun x => x < 0) 19 6 (ix_Ev o_X11_isUnder Q) Q ls st μ := ix_Ev.eq (a_X11_isUnder launch0) rfl ls st μ
theorem e_X11_isUnder_6 (Q : ix_R → Prop) (ls : ix_L) (st : List ix_V) (μ : ix_M) : ix_Ev o_X11_isUnder Q (6, ls, st, μ) = ix_iload 2 7 (ix_Ev o_X11_isUnder Q) Q ls st μ := ix_Ev.eq (a_X11_isUnder launch0) rfl ls st μ
theorem e_X11_isUnder_7 (Q : ix_R → Prop) (ls : ix_L) (st : List ix_V) (μ : ix_M) : ix_Ev o_X11_isUnder Q (7, ls, st, μ) = ix_iload 1 8 (ix_Ev o_X11_isUnder Q) Q ls st μ := ix_Ev.eq (a_X11_isUnder launch0) rfl ls st μ
theorem e_X11_isUnder_8 (Q : ix_R → Prop) (ls : ix_L) (st : List ix_V) (μ : ix_M) : ix_Ev o_X11_isUnder Q (8, ls, st, μ) = ix_cmp (fun x y => x = y) 19 11 (ix_Ev o_X11_isUnder Q) Q ls st μ := ix_Ev.eq (a_X11_isUnder launch0) rfl ls st μ
theorem e_X11_isUnder_11 (Q : ix_R → Prop) (ls : ix_L) (st : List ix_V) (μ : ix_M) : ix_Ev o_X11_isUnder Q (11, ls, st, μ) = ix_iload 2 12 (ix_Ev o_X11_isUnder Q) Q ls st μ := ix_Ev.eq (a_X11_isUnder launch0) rfl ls st μ
theorem e_X11_isUnder_12 (Q : ix_R → Prop) (ls : ix_L) (st : List ix_V) (μ : ix_M) : ix_Ev o_X11_isUnder Q (12, ls, st, μ) = oc_X11_above 15 (ix_Ev o_X11_isUnder Q) Q ls st μ := ix_Ev.eq (a_X11_isUnder launch0) rfl ls st μ
theorem e_X11_isUnder_15 (Q : ix_R → Prop) (ls : ix_L) (st : List ix_V) (μ : ix_M) : ix_Ev o_X11_isUnder Q (15, ls, st, μ) = ix_istore 2 16 (ix_Ev o_X11_isUnder Q) Q ls st μ := ix_Ev.eq (a_X11_isUnder launch0) rfl ls st μ
theorem e_X11_isUnder_16 (Q : ix_R → Prop) (ls : ix_L) (st : List ix_V) (μ : ix_M) : ix_Ev o_X11_isUnder Q (16, ls, st, μ) = ix_goto 2 (ix_Ev o_X11_isUnder Q) Q ls st μ := ix_Ev.eq (a_X11_isUnder launch0) rfl ls st μ
theorem e_X11_isUnder_19 (Q : ix_R → Prop) (ls : ix_L) (st : List ix_V) (μ : ix_M) : ix_Ev o_X11_isUnder Q (19, ls, st, μ) = ix_iload 2 20 (ix_Ev o_X11_isUnder Q) Q ls st μ := ix_Ev.eq (a_X11_isUnder launch0) rfl ls st μ
theorem e_X11_isUnder_20 (Q : ix_R → Prop) (ls : ix_L) (st : List ix_V) (μ : ix_M) : ix_Ev o_X11_isUnder Q (20, ls, st, μ) = ix_if (fun x => x < 0) 27 23 (ix_Ev o_X11_isUnder Q) Q ls st μ := ix_Ev.eq (a_X11_isUnder launch0) rfl ls st μ
theorem e_X11_isUnder_23 (Q : ix_R → Prop) (ls : ix_L) (st : List ix_V) (μ : ix_M) : ix_Ev o_X11_isUnder Q (23, ls, st, μ) = ix_push (vi 1) 24 (ix_Ev o_X11_isUnder Q) Q ls st μ := ix_Ev.eq (a_X11_isUnder launch0) rfl ls st μ
theorem e_X11_isUnder_24 (Q : ix_R → Prop) (ls : ix_L) (st : List ix_V) (μ : ix_M) : ix_Ev o_X11_isUnder Q (24, ls, st, μ) = ix_goto 28 (ix_Ev o_X11_isUnder Q) Q ls st μ := ix_Ev.eq (a_X11_isUnder launch0) rfl ls st μ
theorem e_X11_isUnder_27 (Q : ix_R → Prop) (ls : ix_L) (st : List ix_V) (μ : ix_M) : ix_Ev o_X11_isUnder Q (27, ls, st, μ) = ix_push (vi 0) 28 (ix_Ev o_X11_isUnder Q) Q ls st μ := ix_Ev.eq (a_X11_isUnder launch0) rfl ls st μ
theorem e_X11_isUnder_28 (Q : ix_R → Prop) (ls : ix_L) (st : List ix_V) (μ : ix_M) : ix_Ev o_X11_isUnder Q (28, ls, st, μ) = ix_zret (ix_Ev o_X11_isUnder Q) Q ls st μ := ix_Ev.eq (a_X11_isUnder launch0) rfl ls st μ
theorem l_X11_isUnder (kind o : Int32) (μ : ix_M) (Q : ix_R → Prop) : ∀ (n : Nat) (k : Int32), (k = -1 ∨ ∃ K, K < n ∧ K < 7 ∧ k = nI K) → Q (some (vi (mB (mUnd n k o = true))), μ) → ix_Ev o_X11_isUnder Q (2, [some (vi kind), some (vi o), some (vi k)], [], μ)
  | 0, k, hk, h => by
    rcases hk with rfl | ⟨K, hK, -⟩
    · rw [e_X11_isUnder_2]
      simp (decide := true) only [e_X11_isUnder_0, e_X11_isUnder_1, e_X11_isUnder_3, e_X11_isUnder_6, e_X11_isUnder_7, e_X11_isUnder_8, e_X11_isUnder_11, e_X11_isUnder_12, e_X11_isUnder_15, e_X11_isUnder_16, e_X11_isUnder_19, e_X11_isUnder_20, e_X11_isUnder_23, e_X11_isUnder_24, e_X11_isUnder_27, e_X11_isUnder_28, vi, vl, vr, oc_X11_above, T_X11_above, ix_push, ix_iload, ix_lload, ix_aload, ix_istore, ix_astore, ix_iinc, ix_bin, ix_div, ix_un, ix_i2l, ix_l2i, ix_lbin, ix_lsh, ix_lcmp, ix_dup, ix_dup2, ix_pop, ix_if, ix_cmp, ix_goto, ix_switch, ix_sw, ix_iret, ix_zret, ix_vret, ix_aret, ix_geti, ix_getr, ix_puti, ix_putz, ix_puts, ix_gets, ix_iald, ix_iast, ix_alen, ix_aald, ix_gval, ix_gcod, ix_bald, ix_blen, ix_sald, ix_nret, ix_math2, ix_math1, ix_acopy, ml_113, ml_114, ml_115, ml_116, ml_118, ml_119, ml_120, ml_121, ml_122, ml_123, ml_124, ml_125, ml_126, mv_0, mv_1, mv_2, mv_3, mv_4, mv_5, mB_or, Nat.add_assoc, Int32.reduceLT, Int32.reduceLE, Int32.reduceToNatClampNeg, Int32.reduceSub, Int32.reduceAdd, Nat.reduceAdd, Nat.reduceLeDiff, true_or, or_true, or_false, false_or, not_false_eq_true, not_true_eq_false, false_implies, true_implies, implies_true, and_self, mB_0, mB_01, Classical.not_not, Nat.zero_le, List.getElem?_cons_zero, List.getElem?_cons_succ, List.set_cons_zero, List.set_cons_succ, ix_nl, ix_cs, true_and, and_true, Option.toList_some, Option.toList_none, List.cons_append, List.nil_append]
      exact h
    · omega
  | n + 1, k, hk, h => by
    rcases hk with rfl | ⟨K, hK, hK7, rfl⟩
    · rw [e_X11_isUnder_2]
      simp (decide := true) only [e_X11_isUnder_0, e_X11_isUnder_1, e_X11_isUnder_3, e_X11_isUnder_6, e_X11_isUnder_7, e_X11_isUnder_8, e_X11_isUnder_11, e_X11_isUnder_12, e_X11_isUnder_15, e_X11_isUnder_16, e_X11_isUnder_19, e_X11_isUnder_20, e_X11_isUnder_23, e_X11_isUnder_24, e_X11_isUnder_27, e_X11_isUnder_28, vi, vl, vr, oc_X11_above, T_X11_above, ix_push, ix_iload, ix_lload, ix_aload, ix_istore, ix_astore, ix_iinc, ix_bin, ix_div, ix_un, ix_i2l, ix_l2i, ix_lbin, ix_lsh, ix_lcmp, ix_dup, ix_dup2, ix_pop, ix_if, ix_cmp, ix_goto, ix_switch, ix_sw, ix_iret, ix_zret, ix_vret, ix_aret, ix_geti, ix_getr, ix_puti, ix_putz, ix_puts, ix_gets, ix_iald, ix_iast, ix_alen, ix_aald, ix_gval, ix_gcod, ix_bald, ix_blen, ix_sald, ix_nret, ix_math2, ix_math1, ix_acopy, ml_113, ml_114, ml_115, ml_116, ml_118, ml_119, ml_120, ml_121, ml_122, ml_123, ml_124, ml_125, ml_126, mv_0, mv_1, mv_2, mv_3, mv_4, mv_5, mB_or, Nat.add_assoc, Int32.reduceLT, Int32.reduceLE, Int32.reduceToNatClampNeg, Int32.reduceSub, Int32.reduceAdd, Nat.reduceAdd, Nat.reduceLeDiff, true_or, or_true, or_false, false_or, not_false_eq_true, not_true_eq_false, false_implies, true_implies, implies_true, and_self, mB_0, mB_01, Classical.not_not, Nat.zero_le, List.getElem?_cons_zero, List.getElem?_cons_succ, List.set_cons_zero, List.set_cons_succ, ix_nl, ix_cs, true_and, and_true, Option.toList_some, Option.toList_none, List.cons_append, List.nil_append]
      simp (decide := true) only [mUnd, if_true] at h
      exact h
    · have h0 : ¬ nI K < 0 := nI_pos (by omega)
      rw [e_X11_isUnder_2]
      simp (decide := true) only [e_X11_isUnder_0, e_X11_isUnder_1, e_X11_isUnder_3, e_X11_isUnder_6, e_X11_isUnder_7, e_X11_isUnder_8, e_X11_isUnder_11, e_X11_isUnder_12, e_X11_isUnder_15, e_X11_isUnder_16, e_X11_isUnder_19, e_X11_isUnder_20, e_X11_isUnder_23, e_X11_isUnder_24, e_X11_isUnder_27, e_X11_isUnder_28, vi, vl, vr, oc_X11_above, T_X11_above, ix_push, ix_iload, ix_lload, ix_aload, ix_istore, ix_astore, ix_iinc, ix_bin, ix_div, ix_un, ix_i2l, ix_l2i, ix_lbin, ix_lsh, ix_lcmp, ix_dup, ix_dup2, ix_pop, ix_if, ix_cmp, ix_goto, ix_switch, ix_sw, ix_iret, ix_zret, ix_vret, ix_aret, ix_geti, ix_getr, ix_puti, ix_putz, ix_puts, ix_gets, ix_iald, ix_iast, ix_alen, ix_aald, ix_gval, ix_gcod, ix_bald, ix_blen, ix_sald, ix_nret, ix_math2, ix_math1, ix_acopy, ml_113, ml_114, ml_115, ml_116, ml_118, ml_119, ml_120, ml_121, ml_122, ml_123, ml_124, ml_125, ml_126, mv_0, mv_1, mv_2, mv_3, mv_4, mv_5, mB_or, Nat.add_assoc, Int32.reduceLT, Int32.reduceLE, Int32.reduceToNatClampNeg, Int32.reduceSub, Int32.reduceAdd, Nat.reduceAdd, Nat.reduceLeDiff, true_or, or_true, or_false, false_or, not_false_eq_true, not_true_eq_false, false_implies, true_implies, implies_true, and_self, mB_0, mB_01, Classical.not_not, Nat.zero_le, List.getElem?_cons_zero, List.getElem?_cons_succ, List.set_cons_zero, List.set_cons_succ, ix_nl, ix_cs, true_and, and_true, Option.toList_some, Option.toList_none, List.cons_append, List.nil_append, h0]
      simp only [mUnd, if_neg h0] at h
      refine ⟨fun e => ?_, fun e => ?_⟩
      · subst e
        simpa [mB] using h
      · rw [if_neg e] at h
        obtain ⟨g1, g2⟩ := nAb_eq K hK7
        rw [g1]
        refine l_X11_isUnder kind o μ Q n _ ?_ h
        rcases g2 with g2 | ⟨j, hj, g2⟩
        · left
          rw [g2]
          rfl
        · exact Or.inr ⟨j, by omega, by omega, g2⟩
theorem r_X11_isUnder (k : Int32) (o : Int32) (μ : ix_M) (Q : ix_R → Prop) (hT : T_X11_isUnder (k, o) μ Q) : ix_Ev o_X11_isUnder Q (0, [some (vi k), some (vi o), none], [], μ) := by
  obtain ⟨⟨K, hK, rfl⟩, hQ⟩ := hT
  simp (decide := true) only [e_X11_isUnder_0, e_X11_isUnder_1, e_X11_isUnder_3, e_X11_isUnder_6, e_X11_isUnder_7, e_X11_isUnder_8, e_X11_isUnder_11, e_X11_isUnder_12, e_X11_isUnder_15, e_X11_isUnder_16, e_X11_isUnder_19, e_X11_isUnder_20, e_X11_isUnder_23, e_X11_isUnder_24, e_X11_isUnder_27, e_X11_isUnder_28, vi, vl, vr, oc_X11_above, T_X11_above, ix_push, ix_iload, ix_lload, ix_aload, ix_istore, ix_astore, ix_iinc, ix_bin, ix_div, ix_un, ix_i2l, ix_l2i, ix_lbin, ix_lsh, ix_lcmp, ix_dup, ix_dup2, ix_pop, ix_if, ix_cmp, ix_goto, ix_switch, ix_sw, ix_iret, ix_zret, ix_vret, ix_aret, ix_geti, ix_getr, ix_puti, ix_putz, ix_puts, ix_gets, ix_iald, ix_iast, ix_alen, ix_aald, ix_gval, ix_gcod, ix_bald, ix_blen, ix_sald, ix_nret, ix_math2, ix_math1, ix_acopy, ml_113, ml_114, ml_115, ml_116, ml_118, ml_119, ml_120, ml_121, ml_122, ml_123, ml_124, ml_125, ml_126, mv_0, mv_1, mv_2, mv_3, mv_4, mv_5, mB_or, Nat.add_assoc, Int32.reduceLT, Int32.reduceLE, Int32.reduceToNatClampNeg, Int32.reduceSub, Int32.reduceAdd, Nat.reduceAdd, Nat.reduceLeDiff, true_or, or_true, or_false, false_or, not_false_eq_true, not_true_eq_false, false_implies, true_implies, implies_true, and_self, mB_0, mB_01, Classical.not_not, Nat.zero_le, List.getElem?_cons_zero, List.getElem?_cons_succ, List.set_cons_zero, List.set_cons_succ, ix_nl, ix_cs, true_and, and_true, Option.toList_some, Option.toList_none, List.cons_append, List.nil_append]
  exact l_X11_isUnder _ o μ Q 7 _ (Or.inr ⟨K, hK, hK, rfl⟩) hQ
theorem k_X11_isUnder (l : Launch) : ix_Ct l yX11_isUnder cX11_isUnder 3 (some .boolean) 2 sh_X11_isUnder T_X11_isUnder := ix_ct (a_X11_isUnder l) rfl (by decide) (fun _ => Nat.le_of_ble_eq_true rfl) (fun x μ Q hok hT => r_X11_isUnder x.1 x.2 μ Q  hT)
/-- a text's codes in the model's row -/
def TxtM (f : Nat → Int32) (t : Nat) (ds : List Int32) : Prop := (f t = nI ds.length ∧ ds.length ≤ 50 ∧ ∀ j, j < ds.length → f (t + 1 + j) = ds.getD j 0) ∧ (ds = [] ∨ tWf ds 0 1)
def T_X11_worked : Nat × Int32 → ix_M → (ix_R → Prop) → Prop := fun (_, fm) μ Q => ∃ t ds, fm = nI (t + 1) ∧ t ≤ 204 ∧ TxtM (μ 113) t ds ∧ tWf ds 0 1 ∧ ∀ μ', Fx [120] μ μ' → Q (some (vi ((tEval (μ 119 0) (μ 119 1) (μ 119 2) ds []).headD 0)), μ')
def sh_X11_worked (x : Nat × Int32) : List ix_V := [vr 10 x.1, vi x.2]
theorem mo_X11_worked (x : Nat × Int32) (μ : ix_M) (Q Q' : ix_R → Prop) (h : ∀ r, Q r → Q' r) (hT : T_X11_worked x μ Q) : T_X11_worked x μ Q' := by
  obtain ⟨a0, a1⟩ := x
  (obtain ⟨t, ds, h1, h2, h3, h4, h5⟩ := hT; exact ⟨t, ds, h1, h2, h3, h4, fun μ' x => h _ (h5 μ' x)⟩)
def oc_X11_worked (n : Nat) : ix_Op := fun k _ ls st μ => match st with
  | .inl a1 :: .inr (.inr (t0, a0)) :: r => t0 = 10 ∧ ix_cs r ≤ 8 ∧ T_X11_worked (a0, a1) μ (fun q => k (n, ls, q.1.toList ++ r, q.2))
  | _ => False
theorem oc_X11_worked_s {l : Launch} {cc : ByteArray} {nL : Nat} {own : String} {d : Nat} {rt : Option FieldType} {pc n : Nat} (h : ix_S l cc nL own d rt pc (ix_call 2 sh_X11_worked T_X11_worked n)) : ix_S l cc nL own d rt pc (oc_X11_worked n) := by
  refine h.by (fun k Q ls st μ h => ?_) (fun k k' Q ls st μ hk h => ?_)
  · unfold oc_X11_worked at h
    split at h
    · rename_i a1 t0 a0 r
      obtain ⟨rfl, h1, h2⟩ := h
      exact ⟨h1, (a0, a1), rfl, _, h2, fun r h => h⟩
    · exact h.elim
  · unfold oc_X11_worked at h ⊢
    split at h
    · obtain ⟨rfl, h1, h2⟩ := h
      exact ⟨rfl, h1, mo_X11_worked _ _ _ _ (fun q hq => hk _ hq) h2⟩
    · exact h.elim
def o_X11_worked : List (Nat × ix_Op) := [
  (0, ix_push (vi 0) 1),
  (1, ix_istore 2 2),
  (2, ix_iload 1 3),
  (3, ix_istore 3 4),
  (4, ix_iload 3 5),
  (5, ix_iload 1 6),
  (6, ix_aload 0 7),
  (7, ix_getr 10 20 (fun _ => 113) 10),
  (10, ix_iload 1 11),
  (11, ix_push (vi 1) 12),
  (12, ix_bin (fun x y => x - y) 13),
  (13, ix_iald 14),
  (14, ix_bin (fun x y => x + y) 15),
  (15, ix_cmp (fun x y => y ≤ x) 141 18),
  (18, ix_aload 0 19),
  (19, ix_getr 10 20 (fun _ => 113) 22),
  (22, ix_iload 3 23),
  (23, ix_iald 24),
  (24, ix_istore 4 26),
  (26, ix_iload 4 28),
  (28, ix_push (vi 20000) 31),
  (31, ix_cmp (fun x y => y ≤ x) 70 34),
  (34, ix_aload 0 35),
  (35, ix_getr 10 20 (fun _ => 120) 38),
  (38, ix_iload 2 39),
  (39, ix_iload 4 41),
  (41, ix_push (vi 10000) 44),
  (44, ix_cmp (fun x y => y ≤ x) 52 47),
  (47, ix_iload 4 49),
  (49, ix_goto 63),
  (52, ix_aload 0 53),
  (53, ix_getr 10 20 (fun _ => 119) 56),
  (56, ix_iload 4 58),
  (58, ix_push (vi 10000) 61),
  (61, ix_bin (fun x y => x - y) 62),
  (62, ix_iald 63),
  (63, ix_iast 64),
  (64, ix_iinc 2 1 67),
  (67, ix_goto 135),
  (70, ix_iload 4 72),
  (72, ix_push (vi 20010) 75),
  (75, ix_cmp (fun x y => x = y) 78 105),
  (78, ix_aload 0 79),
  (79, ix_getr 10 20 (fun _ => 120) 82),
  (82, ix_iload 2 83),
  (83, ix_push (vi 1) 84),
  (84, ix_bin (fun x y => x - y) 85),
  (85, ix_aload 0 86),
  (86, ix_getr 10 20 (fun _ => 120) 89),
  (89, ix_iload 2 90),
  (90, ix_push (vi 1) 91),
  (91, ix_bin (fun x y => x - y) 92),
  (92, ix_iald 93),
  (93, ix_if (fun x => x = 0) 96 100),
  (96, ix_push (vi 1) 97),
  (97, ix_goto 101),
  (100, ix_push (vi 0) 101),
  (101, ix_iast 102),
  (102, ix_goto 135),
  (105, ix_iinc 2 (-1) 108),
  (108, ix_aload 0 109),
  (109, ix_getr 10 20 (fun _ => 120) 112),
  (112, ix_iload 2 113),
  (113, ix_push (vi 1) 114),
  (114, ix_bin (fun x y => x - y) 115),
  (115, ix_iload 4 117),
  (117, ix_aload 0 118),
  (118, ix_getr 10 20 (fun _ => 120) 121),
  (121, ix_iload 2 122),
  (122, ix_push (vi 1) 123),
  (123, ix_bin (fun x y => x - y) 124),
  (124, ix_iald 125),
  (125, ix_aload 0 126),
  (126, ix_getr 10 20 (fun _ => 120) 129),
  (129, ix_iload 2 130),
  (130, ix_iald 131),
  (131, oc_X11_done 134),
  (134, ix_iast 135),
  (135, ix_iinc 3 1 138),
  (138, ix_goto 4),
  (141, ix_aload 0 142),
  (142, ix_getr 10 20 (fun _ => 120) 145),
  (145, ix_push (vi 0) 146),
  (146, ix_iald 147),
  (147, ix_iret)]
set_option maxRecDepth 20000 in
theorem a_X11_worked (l : Launch) : ix_AllS l cX11_worked 5 RX11 2 (some .int) o_X11_worked :=
  .cons (ix_s_iconst dX11_worked_0 (by decide +kernel)) <|
  .cons (ix_s_istore_n dX11_worked_1 rfl (by decide)) <|
  .cons (ix_s_iload_n dX11_worked_2 rfl) <|
  .cons (ix_s_istore_n dX11_worked_3 rfl (by decide)) <|
  .cons (ix_s_iload_n dX11_worked_4 rfl) <|
  .cons (ix_s_iload_n dX11_worked_5 rfl) <|
  .cons (ix_s_aload_n dX11_worked_6 rfl) <|
  .cons (ix_s_getr (j := 0) tu_X11 rfl (by decide) (by decide) tw_875 rfl ts_10_0_r dX11_worked_7) <|
  .cons (ix_s_iload_n dX11_worked_10 rfl) <|
  .cons (ix_s_iconst dX11_worked_11 (by decide +kernel)) <|
  .cons (ix_s_isub dX11_worked_12) <|
  .cons (ix_s_iald dX11_worked_13) <|
  .cons (ix_s_iadd dX11_worked_14) <|
  .cons (ix_s_cmp_ge dX11_worked_15 (by decide)) <|
  .cons (ix_s_aload_n dX11_worked_18 rfl) <|
  .cons (ix_s_getr (j := 0) tu_X11 rfl (by decide) (by decide) tw_875 rfl ts_10_0_r dX11_worked_19) <|
  .cons (ix_s_iload_n dX11_worked_22 rfl) <|
  .cons (ix_s_iald dX11_worked_23) <|
  .cons (ix_s_istore dX11_worked_24 (by decide)) <|
  .cons (ix_s_iload dX11_worked_26) <|
  .cons (ix_s_sipush dX11_worked_28 (by decide +kernel)) <|
  .cons (ix_s_cmp_ge dX11_worked_31 (by decide)) <|
  .cons (ix_s_aload_n dX11_worked_34 rfl) <|
  .cons (ix_s_getr (j := 15) tu_X11 rfl (by decide) (by decide) tw_890 rfl ts_10_15_r dX11_worked_35) <|
  .cons (ix_s_iload_n dX11_worked_38 rfl) <|
  .cons (ix_s_iload dX11_worked_39) <|
  .cons (ix_s_sipush dX11_worked_41 (by decide +kernel)) <|
  .cons (ix_s_cmp_ge dX11_worked_44 (by decide)) <|
  .cons (ix_s_iload dX11_worked_47) <|
  .cons (ix_s_goto dX11_worked_49 (by decide)) <|
  .cons (ix_s_aload_n dX11_worked_52 rfl) <|
  .cons (ix_s_getr (j := 14) tu_X11 rfl (by decide) (by decide) tw_889 rfl ts_10_14_r dX11_worked_53) <|
  .cons (ix_s_iload dX11_worked_56) <|
  .cons (ix_s_sipush dX11_worked_58 (by decide +kernel)) <|
  .cons (ix_s_isub dX11_worked_61) <|
  .cons (ix_s_iald dX11_worked_62) <|
  .cons (ix_s_iast dX11_worked_63) <|
  .cons (ix_s_iinc dX11_worked_64 (by decide +kernel) (by decide)) <|
  .cons (ix_s_goto dX11_worked_67 (by decide)) <|
  .cons (ix_s_iload dX11_worked_70) <|
  .cons (ix_s_sipush dX11_worked_72 (by decide +kernel)) <|
  .cons (ix_s_cmp_ne dX11_worked_75 (by decide)) <|
  .cons (ix_s_aload_n dX11_worked_78 rfl) <|
  .cons (ix_s_getr (j := 15) tu_X11 rfl (by decide) (by decide) tw_890 rfl ts_10_15_r dX11_worked_79) <|
  .cons (ix_s_iload_n dX11_worked_82 rfl) <|
  .cons (ix_s_iconst dX11_worked_83 (by decide +kernel)) <|
  .cons (ix_s_isub dX11_worked_84) <|
  .cons (ix_s_aload_n dX11_worked_85 rfl) <|
  .cons (ix_s_getr (j := 15) tu_X11 rfl (by decide) (by decide) tw_890 rfl ts_10_15_r dX11_worked_86) <|
  .cons (ix_s_iload_n dX11_worked_89 rfl) <|
  .cons (ix_s_iconst dX11_worked_90 (by decide +kernel)) <|
  .cons (ix_s_isub dX11_worked_91) <|
  .cons (ix_s_iald dX11_worked_92) <|
  .cons (ix_s_if_ne dX11_worked_93 (by decide)) <|
  .cons (ix_s_iconst dX11_worked_96 (by decide +kernel)) <|
  .cons (ix_s_goto dX11_worked_97 (by decide)) <|
  .cons (ix_s_iconst dX11_worked_100 (by decide +kernel)) <|
  .cons (ix_s_iast dX11_worked_101) <|
  .cons (ix_s_goto dX11_worked_102 (by decide)) <|
  .cons (ix_s_iinc dX11_worked_105 (by decide +kernel) (by decide)) <|
  .cons (ix_s_aload_n dX11_worked_108 rfl) <|
  .cons (ix_s_getr (j := 15) tu_X11 rfl (by decide) (by decide) tw_890 rfl ts_10_15_r dX11_worked_109) <|
  .cons (ix_s_iload_n dX11_worked_112 rfl) <|
  .cons (ix_s_iconst dX11_worked_113 (by decide +kernel)) <|
  .cons (ix_s_isub dX11_worked_114) <|
  .cons (ix_s_iload dX11_worked_115) <|
  .cons (ix_s_aload_n dX11_worked_117 rfl) <|
  .cons (ix_s_getr (j := 15) tu_X11 rfl (by decide) (by decide) tw_890 rfl ts_10_15_r dX11_worked_118) <|
  .cons (ix_s_iload_n dX11_worked_121 rfl) <|
  .cons (ix_s_iconst dX11_worked_122 (by decide +kernel)) <|
  .cons (ix_s_isub dX11_worked_123) <|
  .cons (ix_s_iald dX11_worked_124) <|
  .cons (ix_s_aload_n dX11_worked_125 rfl) <|
  .cons (ix_s_getr (j := 15) tu_X11 rfl (by decide) (by decide) tw_890 rfl ts_10_15_r dX11_worked_126) <|
  .cons (ix_s_iload_n dX11_worked_129 rfl) <|
  .cons (ix_s_iald dX11_worked_130) <|
  .cons (oc_X11_done_s (ix_s_calls (k_X11_done l) (by decide) (by decide) tw_1052 tw_12 tw_1050 tw_1051 ⟨by decide, by decide, by decide +kernel⟩ (fun _ => rfl) dX11_worked_131)) <|
  .cons (ix_s_iast dX11_worked_134) <|
  .cons (ix_s_iinc dX11_worked_135 (by decide +kernel) (by decide)) <|
  .cons (ix_s_goto dX11_worked_138 (by decide)) <|
  .cons (ix_s_aload_n dX11_worked_141 rfl) <|
  .cons (ix_s_getr (j := 15) tu_X11 rfl (by decide) (by decide) tw_890 rfl ts_10_15_r dX11_worked_142) <|
  .cons (ix_s_iconst dX11_worked_145 (by decide +kernel)) <|
  .cons (ix_s_iald dX11_worked_146) <|
  .cons (ix_s_iret dX11_worked_147 rfl) <| .nil
theorem e_X11_worked_0 (Q : ix_R → Prop) (ls : ix_L) (st : List ix_V) (μ : ix_M) : ix_Ev o_X11_worked Q (0, ls, st, μ) = ix_push (vi 0) 1 (ix_Ev o_X11_worked Q) Q ls st μ := ix_Ev.eq (a_X11_worked launch0) rfl ls st μ
theorem e_X11_worked_1 (Q : ix_R → Prop) (ls : ix_L) (st : List ix_V) (μ : ix_M) : ix_Ev o_X11_worked Q (1, ls, st, μ) = ix_istore 2 2 (ix_Ev o_X11_worked Q) Q ls st μ := ix_Ev.eq (a_X11_worked launch0) rfl ls st μ
theorem e_X11_worked_2 (Q : ix_R → Prop) (ls : ix_L) (st : List ix_V) (μ : ix_M) : ix_Ev o_X11_worked Q (2, ls, st, μ) = ix_iload 1 3 (ix_Ev o_X11_worked Q) Q ls st μ := ix_Ev.eq (a_X11_worked launch0) rfl ls st μ
theorem e_X11_worked_3 (Q : ix_R → Prop) (ls : ix_L) (st : List ix_V) (μ : ix_M) : ix_Ev o_X11_worked Q (3, ls, st, μ) = ix_istore 3 4 (ix_Ev o_X11_worked Q) Q ls st μ := ix_Ev.eq (a_X11_worked launch0) rfl ls st μ
theorem e_X11_worked_4 (Q : ix_R → Prop) (ls : ix_L) (st : List ix_V) (μ : ix_M) : ix_Ev o_X11_worked Q (4, ls, st, μ) = ix_iload 3 5 (ix_Ev o_X11_worked Q) Q ls st μ := ix_Ev.eq (a_X11_worked launch0) rfl ls st μ
theorem e_X11_worked_5 (Q : ix_R → Prop) (ls : ix_L) (st : List ix_V) (μ : ix_M) : ix_Ev o_X11_worked Q (5, ls, st, μ) = ix_iload 1 6 (ix_Ev o_X11_worked Q) Q ls st μ := ix_Ev.eq (a_X11_worked launch0) rfl ls st μ
theorem e_X11_worked_6 (Q : ix_R → Prop) (ls : ix_L) (st : List ix_V) (μ : ix_M) : ix_Ev o_X11_worked Q (6, ls, st, μ) = ix_aload 0 7 (ix_Ev o_X11_worked Q) Q ls st μ := ix_Ev.eq (a_X11_worked launch0) rfl ls st μ
theorem e_X11_worked_7 (Q : ix_R → Prop) (ls : ix_L) (st : List ix_V) (μ : ix_M) : ix_Ev o_X11_worked Q (7, ls, st, μ) = ix_getr 10 20 (fun _ => 113) 10 (ix_Ev o_X11_worked Q) Q ls st μ := ix_Ev.eq (a_X11_worked launch0) rfl ls st μ
theorem e_X11_worked_10 (Q : ix_R → Prop) (ls : ix_L) (st : List ix_V) (μ : ix_M) : ix_Ev o_X11_worked Q (10, ls, st, μ) = ix_iload 1 11 (ix_Ev o_X11_worked Q) Q ls st μ := ix_Ev.eq (a_X11_worked launch0) rfl ls st μ
theorem e_X11_worked_11 (Q : ix_R → Prop) (ls : ix_L) (st : List ix_V) (μ : ix_M) : ix_Ev o_X11_worked Q (11, ls, st, μ) = ix_push (vi 1) 12 (ix_Ev o_X11_worked Q) Q ls st μ := ix_Ev.eq (a_X11_worked launch0) rfl ls st μ
theorem e_X11_worked_12 (Q : ix_R → Prop) (ls : ix_L) (st : List ix_V) (μ : ix_M) : ix_Ev o_X11_worked Q (12, ls, st, μ) = ix_bin (fun x y => x - y) 13 (ix_Ev o_X11_worked Q) Q ls st μ := ix_Ev.eq (a_X11_worked launch0) rfl ls st μ
theorem e_X11_worked_13 (Q : ix_R → Prop) (ls : ix_L) (st : List ix_V) (μ : ix_M) : ix_Ev o_X11_worked Q (13, ls, st, μ) = ix_iald 14 (ix_Ev o_X11_worked Q) Q ls st μ := ix_Ev.eq (a_X11_worked launch0) rfl ls st μ
theorem e_X11_worked_14 (Q : ix_R → Prop) (ls : ix_L) (st : List ix_V) (μ : ix_M) : ix_Ev o_X11_worked Q (14, ls, st, μ) = ix_bin (fun x y => x + y) 15 (ix_Ev o_X11_worked Q) Q ls st μ := ix_Ev.eq (a_X11_worked launch0) rfl ls st μ
theorem e_X11_worked_15 (Q : ix_R → Prop) (ls : ix_L) (st : List ix_V) (μ : ix_M) : ix_Ev o_X11_worked Q (15, ls, st, μ) = ix_cmp (fun x y => y ≤ x) 141 18 (ix_Ev o_X11_worked Q) Q ls st μ := ix_Ev.eq (a_X11_worked launch0) rfl ls st μ
theorem e_X11_worked_18 (Q : ix_R → Prop) (ls : ix_L) (st : List ix_V) (μ : ix_M) : ix_Ev o_X11_worked Q (18, ls, st, μ) = ix_aload 0 19 (ix_Ev o_X11_worked Q) Q ls st μ := ix_Ev.eq (a_X11_worked launch0) rfl ls st μ
theorem e_X11_worked_19 (Q : ix_R → Prop) (ls : ix_L) (st : List ix_V) (μ : ix_M) : ix_Ev o_X11_worked Q (19, ls, st, μ) = ix_getr 10 20 (fun _ => 113) 22 (ix_Ev o_X11_worked Q) Q ls st μ := ix_Ev.eq (a_X11_worked launch0) rfl ls st μ
theorem e_X11_worked_22 (Q : ix_R → Prop) (ls : ix_L) (st : List ix_V) (μ : ix_M) : ix_Ev o_X11_worked Q (22, ls, st, μ) = ix_iload 3 23 (ix_Ev o_X11_worked Q) Q ls st μ := ix_Ev.eq (a_X11_worked launch0) rfl ls st μ
theorem e_X11_worked_23 (Q : ix_R → Prop) (ls : ix_L) (st : List ix_V) (μ : ix_M) : ix_Ev o_X11_worked Q (23, ls, st, μ) = ix_iald 24 (ix_Ev o_X11_worked Q) Q ls st μ := ix_Ev.eq (a_X11_worked launch0) rfl ls st μ
theorem e_X11_worked_24 (Q : ix_R → Prop) (ls : ix_L) (st : List ix_V) (μ : ix_M) : ix_Ev o_X11_worked Q (24, ls, st, μ) = ix_istore 4 26 (ix_Ev o_X11_worked Q) Q ls st μ := ix_Ev.eq (a_X11_worked launch0) rfl ls st μ
theorem e_X11_worked_26 (Q : ix_R → Prop) (ls : ix_L) (st : List ix_V) (μ : ix_M) : ix_Ev o_X11_worked Q (26, ls, st, μ) = ix_iload 4 28 (ix_Ev o_X11_worked Q) Q ls st μ := ix_Ev.eq (a_X11_worked launch0) rfl ls st μ
theorem e_X11_worked_28 (Q : ix_R → Prop) (ls : ix_L) (st : List ix_V) (μ : ix_M) : ix_Ev o_X11_worked Q (28, ls, st, μ) = ix_push (vi 20000) 31 (ix_Ev o_X11_worked Q) Q ls st μ := ix_Ev.eq (a_X11_worked launch0) rfl ls st μ
theorem e_X11_worked_31 (Q : ix_R → Prop) (ls : ix_L) (st : List ix_V) (μ : ix_M) : ix_Ev o_X11_worked Q (31, ls, st, μ) = ix_cmp (fun x y => y ≤ x) 70 34 (ix_Ev o_X11_worked Q) Q ls st μ := ix_Ev.eq (a_X11_worked launch0) rfl ls st μ
theorem e_X11_worked_34 (Q : ix_R → Prop) (ls : ix_L) (st : List ix_V) (μ : ix_M) : ix_Ev o_X11_worked Q (34, ls, st, μ) = ix_aload 0 35 (ix_Ev o_X11_worked Q) Q ls st μ := ix_Ev.eq (a_X11_worked launch0) rfl ls st μ
theorem e_X11_worked_35 (Q : ix_R → Prop) (ls : ix_L) (st : List ix_V) (μ : ix_M) : ix_Ev o_X11_worked Q (35, ls, st, μ) = ix_getr 10 20 (fun _ => 120) 38 (ix_Ev o_X11_worked Q) Q ls st μ := ix_Ev.eq (a_X11_worked launch0) rfl ls st μ
theorem e_X11_worked_38 (Q : ix_R → Prop) (ls : ix_L) (st : List ix_V) (μ : ix_M) : ix_Ev o_X11_worked Q (38, ls, st, μ) = ix_iload 2 39 (ix_Ev o_X11_worked Q) Q ls st μ := ix_Ev.eq (a_X11_worked launch0) rfl ls st μ
theorem e_X11_worked_39 (Q : ix_R → Prop) (ls : ix_L) (st : List ix_V) (μ : ix_M) : ix_Ev o_X11_worked Q (39, ls, st, μ) = ix_iload 4 41 (ix_Ev o_X11_worked Q) Q ls st μ := ix_Ev.eq (a_X11_worked launch0) rfl ls st μ
theorem e_X11_worked_41 (Q : ix_R → Prop) (ls : ix_L) (st : List ix_V) (μ : ix_M) : ix_Ev o_X11_worked Q (41, ls, st, μ) = ix_push (vi 10000) 44 (ix_Ev o_X11_worked Q) Q ls st μ := ix_Ev.eq (a_X11_worked launch0) rfl ls st μ
theorem e_X11_worked_44 (Q : ix_R → Prop) (ls : ix_L) (st : List ix_V) (μ : ix_M) : ix_Ev o_X11_worked Q (44, ls, st, μ) = ix_cmp (fun x y => y ≤ x) 52 47 (ix_Ev o_X11_worked Q) Q ls st μ := ix_Ev.eq (a_X11_worked launch0) rfl ls st μ
theorem e_X11_worked_47 (Q : ix_R → Prop) (ls : ix_L) (st : List ix_V) (μ : ix_M) : ix_Ev o_X11_worked Q (47, ls, st, μ) = ix_iload 4 49 (ix_Ev o_X11_worked Q) Q ls st μ := ix_Ev.eq (a_X11_worked launch0) rfl ls st μ
theorem e_X11_worked_49 (Q : ix_R → Prop) (ls : ix_L) (st : List ix_V) (μ : ix_M) : ix_Ev o_X11_worked Q (49, ls, st, μ) = ix_goto 63 (ix_Ev o_X11_worked Q) Q ls st μ := ix_Ev.eq (a_X11_worked launch0) rfl ls st μ
theorem e_X11_worked_52 (Q : ix_R → Prop) (ls : ix_L) (st : List ix_V) (μ : ix_M) : ix_Ev o_X11_worked Q (52, ls, st, μ) = ix_aload 0 53 (ix_Ev o_X11_worked Q) Q ls st μ := ix_Ev.eq (a_X11_worked launch0) rfl ls st μ
theorem e_X11_worked_53 (Q : ix_R → Prop) (ls : ix_L) (st : List ix_V) (μ : ix_M) : ix_Ev o_X11_worked Q (53, ls, st, μ) = ix_getr 10 20 (fun _ => 119) 56 (ix_Ev o_X11_worked Q) Q ls st μ := ix_Ev.eq (a_X11_worked launch0) rfl ls st μ
theorem e_X11_worked_56 (Q : ix_R → Prop) (ls : ix_L) (st : List ix_V) (μ : ix_M) : ix_Ev o_X11_worked Q (56, ls, st, μ) = ix_iload 4 58 (ix_Ev o_X11_worked Q) Q ls st μ := ix_Ev.eq (a_X11_worked launch0) rfl ls st μ
theorem e_X11_worked_58 (Q : ix_R → Prop) (ls : ix_L) (st : List ix_V) (μ : ix_M) : ix_Ev o_X11_worked Q (58, ls, st, μ) = ix_push (vi 10000) 61 (ix_Ev o_X11_worked Q) Q ls st μ := ix_Ev.eq (a_X11_worked launch0) rfl ls st μ
theorem e_X11_worked_61 (Q : ix_R → Prop) (ls : ix_L) (st : List ix_V) (μ : ix_M) : ix_Ev o_X11_worked Q (61, ls, st, μ) = ix_bin (fun x y => x - y) 62 (ix_Ev o_X11_worked Q) Q ls st μ := ix_Ev.eq (a_X11_worked launch0) rfl ls st μ
theorem e_X11_worked_62 (Q : ix_R → Prop) (ls : ix_L) (st : List ix_V) (μ : ix_M) : ix_Ev o_X11_worked Q (62, ls, st, μ) = ix_iald 63 (ix_Ev o_X11_worked Q) Q ls st μ := ix_Ev.eq (a_X11_worked launch0) rfl ls st μ
theorem e_X11_worked_63 (Q : ix_R → Prop) (ls : ix_L) (st : List ix_V) (μ : ix_M) : ix_Ev o_X11_worked Q (63, ls, st, μ) = ix_iast 64 (ix_Ev o_X11_worked Q) Q ls st μ := ix_Ev.eq (a_X11_worked launch0) rfl ls st μ
theorem e_X11_worked_64 (Q : ix_R → Prop) (ls : ix_L) (st : List ix_V) (μ : ix_M) : ix_Ev o_X11_worked Q (64, ls, st, μ) = ix_iinc 2 1 67 (ix_Ev o_X11_worked Q) Q ls st μ := ix_Ev.eq (a_X11_worked launch0) rfl ls st μ
theorem e_X11_worked_67 (Q : ix_R → Prop) (ls : ix_L) (st : List ix_V) (μ : ix_M) : ix_Ev o_X11_worked Q (67, ls, st, μ) = ix_goto 135 (ix_Ev o_X11_worked Q) Q ls st μ := ix_Ev.eq (a_X11_worked launch0) rfl ls st μ
theorem e_X11_worked_70 (Q : ix_R → Prop) (ls : ix_L) (st : List ix_V) (μ : ix_M) : ix_Ev o_X11_worked Q (70, ls, st, μ) = ix_iload 4 72 (ix_Ev o_X11_worked Q) Q ls st μ := ix_Ev.eq (a_X11_worked launch0) rfl ls st μ
theorem e_X11_worked_72 (Q : ix_R → Prop) (ls : ix_L) (st : List ix_V) (μ : ix_M) : ix_Ev o_X11_worked Q (72, ls, st, μ) = ix_push (vi 20010) 75 (ix_Ev o_X11_worked Q) Q ls st μ := ix_Ev.eq (a_X11_worked launch0) rfl ls st μ
theorem e_X11_worked_75 (Q : ix_R → Prop) (ls : ix_L) (st : List ix_V) (μ : ix_M) : ix_Ev o_X11_worked Q (75, ls, st, μ) = ix_cmp (fun x y => x = y) 78 105 (ix_Ev o_X11_worked Q) Q ls st μ := ix_Ev.eq (a_X11_worked launch0) rfl ls st μ
theorem e_X11_worked_78 (Q : ix_R → Prop) (ls : ix_L) (st : List ix_V) (μ : ix_M) : ix_Ev o_X11_worked Q (78, ls, st, μ) = ix_aload 0 79 (ix_Ev o_X11_worked Q) Q ls st μ := ix_Ev.eq (a_X11_worked launch0) rfl ls st μ
theorem e_X11_worked_79 (Q : ix_R → Prop) (ls : ix_L) (st : List ix_V) (μ : ix_M) : ix_Ev o_X11_worked Q (79, ls, st, μ) = ix_getr 10 20 (fun _ => 120) 82 (ix_Ev o_X11_worked Q) Q ls st μ := ix_Ev.eq (a_X11_worked launch0) rfl ls st μ
theorem e_X11_worked_82 (Q : ix_R → Prop) (ls : ix_L) (st : List ix_V) (μ : ix_M) : ix_Ev o_X11_worked Q (82, ls, st, μ) = ix_iload 2 83 (ix_Ev o_X11_worked Q) Q ls st μ := ix_Ev.eq (a_X11_worked launch0) rfl ls st μ
theorem e_X11_worked_83 (Q : ix_R → Prop) (ls : ix_L) (st : List ix_V) (μ : ix_M) : ix_Ev o_X11_worked Q (83, ls, st, μ) = ix_push (vi 1) 84 (ix_Ev o_X11_worked Q) Q ls st μ := ix_Ev.eq (a_X11_worked launch0) rfl ls st μ
theorem e_X11_worked_84 (Q : ix_R → Prop) (ls : ix_L) (st : List ix_V) (μ : ix_M) : ix_Ev o_X11_worked Q (84, ls, st, μ) = ix_bin (fun x y => x - y) 85 (ix_Ev o_X11_worked Q) Q ls st μ := ix_Ev.eq (a_X11_worked launch0) rfl ls st μ
theorem e_X11_worked_85 (Q : ix_R → Prop) (ls : ix_L) (st : List ix_V) (μ : ix_M) : ix_Ev o_X11_worked Q (85, ls, st, μ) = ix_aload 0 86 (ix_Ev o_X11_worked Q) Q ls st μ := ix_Ev.eq (a_X11_worked launch0) rfl ls st μ
theorem e_X11_worked_86 (Q : ix_R → Prop) (ls : ix_L) (st : List ix_V) (μ : ix_M) : ix_Ev o_X11_worked Q (86, ls, st, μ) = ix_getr 10 20 (fun _ => 120) 89 (ix_Ev o_X11_worked Q) Q ls st μ := ix_Ev.eq (a_X11_worked launch0) rfl ls st μ
theorem e_X11_worked_89 (Q : ix_R → Prop) (ls : ix_L) (st : List ix_V) (μ : ix_M) : ix_Ev o_X11_worked Q (89, ls, st, μ) = ix_iload 2 90 (ix_Ev o_X11_worked Q) Q ls st μ := ix_Ev.eq (a_X11_worked launch0) rfl ls st μ
theorem e_X11_worked_90 (Q : ix_R → Prop) (ls : ix_L) (st : List ix_V) (μ : ix_M) : ix_Ev o_X11_worked Q (90, ls, st, μ) = ix_push (vi 1) 91 (ix_Ev o_X11_worked Q) Q ls st μ := ix_Ev.eq (a_X11_worked launch0) rfl ls st μ
theorem e_X11_worked_91 (Q : ix_R → Prop) (ls : ix_L) (st : List ix_V) (μ : ix_M) : ix_Ev o_X11_worked Q (91, ls, st, μ) = ix_bin (fun x y => x - y) 92 (ix_Ev o_X11_worked Q) Q ls st μ := ix_Ev.eq (a_X11_worked launch0) rfl ls st μ
theorem e_X11_worked_92 (Q : ix_R → Prop) (ls : ix_L) (st : List ix_V) (μ : ix_M) : ix_Ev o_X11_worked Q (92, ls, st, μ) = ix_iald 93 (ix_Ev o_X11_worked Q) Q ls st μ := ix_Ev.eq (a_X11_worked launch0) rfl ls st μ
theorem e_X11_worked_93 (Q : ix_R → Prop) (ls : ix_L) (st : List ix_V) (μ : ix_M) : ix_Ev o_X11_worked Q (93, ls, st, μ) = ix_if (fun x => x = 0) 96 100 (ix_Ev o_X11_worked Q) Q ls st μ := ix_Ev.eq (a_X11_worked launch0) rfl ls st μ
theorem e_X11_worked_96 (Q : ix_R → Prop) (ls : ix_L) (st : List ix_V) (μ : ix_M) : ix_Ev o_X11_worked Q (96, ls, st, μ) = ix_push (vi 1) 97 (ix_Ev o_X11_worked Q) Q ls st μ := ix_Ev.eq (a_X11_worked launch0) rfl ls st μ
theorem e_X11_worked_97 (Q : ix_R → Prop) (ls : ix_L) (st : List ix_V) (μ : ix_M) : ix_Ev o_X11_worked Q (97, ls, st, μ) = ix_goto 101 (ix_Ev o_X11_worked Q) Q ls st μ := ix_Ev.eq (a_X11_worked launch0) rfl ls st μ
theorem e_X11_worked_100 (Q : ix_R → Prop) (ls : ix_L) (st : List ix_V) (μ : ix_M) : ix_Ev o_X11_worked Q (100, ls, st, μ) = ix_push (vi 0) 101 (ix_Ev o_X11_worked Q) Q ls st μ := ix_Ev.eq (a_X11_worked launch0) rfl ls st μ
theorem e_X11_worked_101 (Q : ix_R → Prop) (ls : ix_L) (st : List ix_V) (μ : ix_M) : ix_Ev o_X11_worked Q (101, ls, st, μ) = ix_iast 102 (ix_Ev o_X11_worked Q) Q ls st μ := ix_Ev.eq (a_X11_worked launch0) rfl ls st μ
theorem e_X11_worked_102 (Q : ix_R → Prop) (ls : ix_L) (st : List ix_V) (μ : ix_M) : ix_Ev o_X11_worked Q (102, ls, st, μ) = ix_goto 135 (ix_Ev o_X11_worked Q) Q ls st μ := ix_Ev.eq (a_X11_worked launch0) rfl ls st μ
theorem e_X11_worked_105 (Q : ix_R → Prop) (ls : ix_L) (st : List ix_V) (μ : ix_M) : ix_Ev o_X11_worked Q (105, ls, st, μ) = ix_iinc 2 (-1) 108 (ix_Ev o_X11_worked Q) Q ls st μ := ix_Ev.eq (a_X11_worked launch0) rfl ls st μ
theorem e_X11_worked_108 (Q : ix_R → Prop) (ls : ix_L) (st : List ix_V) (μ : ix_M) : ix_Ev o_X11_worked Q (108, ls, st, μ) = ix_aload 0 109 (ix_Ev o_X11_worked Q) Q ls st μ := ix_Ev.eq (a_X11_worked launch0) rfl ls st μ
theorem e_X11_worked_109 (Q : ix_R → Prop) (ls : ix_L) (st : List ix_V) (μ : ix_M) : ix_Ev o_X11_worked Q (109, ls, st, μ) = ix_getr 10 20 (fun _ => 120) 112 (ix_Ev o_X11_worked Q) Q ls st μ := ix_Ev.eq (a_X11_worked launch0) rfl ls st μ
theorem e_X11_worked_112 (Q : ix_R → Prop) (ls : ix_L) (st : List ix_V) (μ : ix_M) : ix_Ev o_X11_worked Q (112, ls, st, μ) = ix_iload 2 113 (ix_Ev o_X11_worked Q) Q ls st μ := ix_Ev.eq (a_X11_worked launch0) rfl ls st μ
theorem e_X11_worked_113 (Q : ix_R → Prop) (ls : ix_L) (st : List ix_V) (μ : ix_M) : ix_Ev o_X11_worked Q (113, ls, st, μ) = ix_push (vi 1) 114 (ix_Ev o_X11_worked Q) Q ls st μ := ix_Ev.eq (a_X11_worked launch0) rfl ls st μ
theorem e_X11_worked_114 (Q : ix_R → Prop) (ls : ix_L) (st : List ix_V) (μ : ix_M) : ix_Ev o_X11_worked Q (114, ls, st, μ) = ix_bin (fun x y => x - y) 115 (ix_Ev o_X11_worked Q) Q ls st μ := ix_Ev.eq (a_X11_worked launch0) rfl ls st μ
theorem e_X11_worked_115 (Q : ix_R → Prop) (ls : ix_L) (st : List ix_V) (μ : ix_M) : ix_Ev o_X11_worked Q (115, ls, st, μ) = ix_iload 4 117 (ix_Ev o_X11_worked Q) Q ls st μ := ix_Ev.eq (a_X11_worked launch0) rfl ls st μ
theorem e_X11_worked_117 (Q : ix_R → Prop) (ls : ix_L) (st : List ix_V) (μ : ix_M) : ix_Ev o_X11_worked Q (117, ls, st, μ) = ix_aload 0 118 (ix_Ev o_X11_worked Q) Q ls st μ := ix_Ev.eq (a_X11_worked launch0) rfl ls st μ
theorem e_X11_worked_118 (Q : ix_R → Prop) (ls : ix_L) (st : List ix_V) (μ : ix_M) : ix_Ev o_X11_worked Q (118, ls, st, μ) = ix_getr 10 20 (fun _ => 120) 121 (ix_Ev o_X11_worked Q) Q ls st μ := ix_Ev.eq (a_X11_worked launch0) rfl ls st μ
theorem e_X11_worked_121 (Q : ix_R → Prop) (ls : ix_L) (st : List ix_V) (μ : ix_M) : ix_Ev o_X11_worked Q (121, ls, st, μ) = ix_iload 2 122 (ix_Ev o_X11_worked Q) Q ls st μ := ix_Ev.eq (a_X11_worked launch0) rfl ls st μ
theorem e_X11_worked_122 (Q : ix_R → Prop) (ls : ix_L) (st : List ix_V) (μ : ix_M) : ix_Ev o_X11_worked Q (122, ls, st, μ) = ix_push (vi 1) 123 (ix_Ev o_X11_worked Q) Q ls st μ := ix_Ev.eq (a_X11_worked launch0) rfl ls st μ
theorem e_X11_worked_123 (Q : ix_R → Prop) (ls : ix_L) (st : List ix_V) (μ : ix_M) : ix_Ev o_X11_worked Q (123, ls, st, μ) = ix_bin (fun x y => x - y) 124 (ix_Ev o_X11_worked Q) Q ls st μ := ix_Ev.eq (a_X11_worked launch0) rfl ls st μ
theorem e_X11_worked_124 (Q : ix_R → Prop) (ls : ix_L) (st : List ix_V) (μ : ix_M) : ix_Ev o_X11_worked Q (124, ls, st, μ) = ix_iald 125 (ix_Ev o_X11_worked Q) Q ls st μ := ix_Ev.eq (a_X11_worked launch0) rfl ls st μ
theorem e_X11_worked_125 (Q : ix_R → Prop) (ls : ix_L) (st : List ix_V) (μ : ix_M) : ix_Ev o_X11_worked Q (125, ls, st, μ) = ix_aload 0 126 (ix_Ev o_X11_worked Q) Q ls st μ := ix_Ev.eq (a_X11_worked launch0) rfl ls st μ
theorem e_X11_worked_126 (Q : ix_R → Prop) (ls : ix_L) (st : List ix_V) (μ : ix_M) : ix_Ev o_X11_worked Q (126, ls, st, μ) = ix_getr 10 20 (fun _ => 120) 129 (ix_Ev o_X11_worked Q) Q ls st μ := ix_Ev.eq (a_X11_worked launch0) rfl ls st μ
theorem e_X11_worked_129 (Q : ix_R → Prop) (ls : ix_L) (st : List ix_V) (μ : ix_M) : ix_Ev o_X11_worked Q (129, ls, st, μ) = ix_iload 2 130 (ix_Ev o_X11_worked Q) Q ls st μ := ix_Ev.eq (a_X11_worked launch0) rfl ls st μ
theorem e_X11_worked_130 (Q : ix_R → Prop) (ls : ix_L) (st : List ix_V) (μ : ix_M) : ix_Ev o_X11_worked Q (130, ls, st, μ) = ix_iald 131 (ix_Ev o_X11_worked Q) Q ls st μ := ix_Ev.eq (a_X11_worked launch0) rfl ls st μ
theorem e_X11_worked_131 (Q : ix_R → Prop) (ls : ix_L) (st : List ix_V) (μ : ix_M) : ix_Ev o_X11_worked Q (131, ls, st, μ) = oc_X11_done 134 (ix_Ev o_X11_worked Q) Q ls st μ := ix_Ev.eq (a_X11_worked launch0) rfl ls st μ
theorem e_X11_worked_134 (Q : ix_R → Prop) (ls : ix_L) (st : List ix_V) (μ : ix_M) : ix_Ev o_X11_worked Q (134, ls, st, μ) = ix_iast 135 (ix_Ev o_X11_worked Q) Q ls st μ := ix_Ev.eq (a_X11_worked launch0) rfl ls st μ
theorem e_X11_worked_135 (Q : ix_R → Prop) (ls : ix_L) (st : List ix_V) (μ : ix_M) : ix_Ev o_X11_worked Q (135, ls, st, μ) = ix_iinc 3 1 138 (ix_Ev o_X11_worked Q) Q ls st μ := ix_Ev.eq (a_X11_worked launch0) rfl ls st μ
theorem e_X11_worked_138 (Q : ix_R → Prop) (ls : ix_L) (st : List ix_V) (μ : ix_M) : ix_Ev o_X11_worked Q (138, ls, st, μ) = ix_goto 4 (ix_Ev o_X11_worked Q) Q ls st μ := ix_Ev.eq (a_X11_worked launch0) rfl ls st μ
theorem e_X11_worked_141 (Q : ix_R → Prop) (ls : ix_L) (st : List ix_V) (μ : ix_M) : ix_Ev o_X11_worked Q (141, ls, st, μ) = ix_aload 0 142 (ix_Ev o_X11_worked Q) Q ls st μ := ix_Ev.eq (a_X11_worked launch0) rfl ls st μ
theorem e_X11_worked_142 (Q : ix_R → Prop) (ls : ix_L) (st : List ix_V) (μ : ix_M) : ix_Ev o_X11_worked Q (142, ls, st, μ) = ix_getr 10 20 (fun _ => 120) 145 (ix_Ev o_X11_worked Q) Q ls st μ := ix_Ev.eq (a_X11_worked launch0) rfl ls st μ
theorem e_X11_worked_145 (Q : ix_R → Prop) (ls : ix_L) (st : List ix_V) (μ : ix_M) : ix_Ev o_X11_worked Q (145, ls, st, μ) = ix_push (vi 0) 146 (ix_Ev o_X11_worked Q) Q ls st μ := ix_Ev.eq (a_X11_worked launch0) rfl ls st μ
theorem e_X11_worked_146 (Q : ix_R → Prop) (ls : ix_L) (st : List ix_V) (μ : ix_M) : ix_Ev o_X11_worked Q (146, ls, st, μ) = ix_iald 147 (ix_Ev o_X11_worked Q) Q ls st μ := ix_Ev.eq (a_X11_worked launch0) rfl ls st μ
theorem e_X11_worked_147 (Q : ix_R → Prop) (ls : ix_L) (st : List ix_V) (μ : ix_M) : ix_Ev o_X11_worked Q (147, ls, st, μ) = ix_iret (ix_Ev o_X11_worked Q) Q ls st μ := ix_Ev.eq (a_X11_worked launch0) rfl ls st μ
theorem mv4 : vp_in 0 4 ∧ vp_in 1 4 ∧ vp_in 2 4 := ⟨vp_inI (by decide) (by decide), vp_inI (by decide) (by decide), vp_inI (by decide) (by decide)⟩
theorem mv60 : vp_in 0 60 := vp_inI (by decide) (by decide)
set_option maxRecDepth 20000 in
theorem l_X11_worked {t N f g : Nat} {μ : ix_M} {Q : ix_R → Prop} (hf : f = t + 1) (hg : g = f + N) (ht : t ≤ 204) (hN : N ≤ 50) (hn : μ 113 t = nI N) : ∀ (rest : List Int32) (k q : Nat) (s : List Int32) (μ1 : ix_M) (x4 : Option ix_V), q = f + k → k + rest.length = N → s.length ≤ k → tWf rest s.length 1 → Fx [120] μ μ1 → (∀ j, j < rest.length → μ 113 (t + 1 + (k + j)) = rest.getD j 0) → Stk μ1 120 s → (∀ μ', Fx [120] μ μ' → Q (some (vi ((tEval (μ 119 0) (μ 119 1) (μ 119 2) rest s).headD 0)), μ')) →
    ix_Ev o_X11_worked Q (4, [some (vr 10 112), some (vi (nI f)), some (vi (nI s.length)), some (vi (nI q)), x4], [], μ1) := by
  have hm1 : nI f - 1 = nI t := by rw [hf]; exact nI_pred t
  have hct : (nI t).toNatClampNeg = t := nI_clamp (by omega)
  have hint : vp_in (nI t) 256 := vp_in_nI (by omega) (by decide)
  have hsum : nI f + nI N = nI g := by rw [hg]; exact nI_add _ _
  intro rest
  induction rest with
  | nil =>
    intro k q s μ1 x4 hq hk hs hwf hF hcode hS hQ
    have hk : k = N := hk
    subst hk
    simp only [tWf] at hwf
    obtain ⟨x, rfl⟩ : ∃ x, s = [x] := List.length_eq_one_iff.mp hwf
    have e113 : μ1 113 t = nI k := by rw [hF 113 (by decide)]; exact hn
    have hle : nI g ≤ nI q := by rw [hq, hg]; exact Int32.le_refl _
    have htop : μ1 120 0 = x := hS.top
    rw [e_X11_worked_4]
    simp (decide := true) only [e_X11_worked_0, e_X11_worked_1, e_X11_worked_2, e_X11_worked_3, e_X11_worked_5, e_X11_worked_6, e_X11_worked_7, e_X11_worked_10, e_X11_worked_11, e_X11_worked_12, e_X11_worked_13, e_X11_worked_14, e_X11_worked_15, e_X11_worked_18, e_X11_worked_19, e_X11_worked_22, e_X11_worked_23, e_X11_worked_24, e_X11_worked_26, e_X11_worked_28, e_X11_worked_31, e_X11_worked_34, e_X11_worked_35, e_X11_worked_38, e_X11_worked_39, e_X11_worked_41, e_X11_worked_44, e_X11_worked_47, e_X11_worked_49, e_X11_worked_52, e_X11_worked_53, e_X11_worked_56, e_X11_worked_58, e_X11_worked_61, e_X11_worked_62, e_X11_worked_63, e_X11_worked_64, e_X11_worked_67, e_X11_worked_70, e_X11_worked_72, e_X11_worked_75, e_X11_worked_78, e_X11_worked_79, e_X11_worked_82, e_X11_worked_83, e_X11_worked_84, e_X11_worked_85, e_X11_worked_86, e_X11_worked_89, e_X11_worked_90, e_X11_worked_91, e_X11_worked_92, e_X11_worked_93, e_X11_worked_96, e_X11_worked_97, e_X11_worked_100, e_X11_worked_101, e_X11_worked_102, e_X11_worked_105, e_X11_worked_108, e_X11_worked_109, e_X11_worked_112, e_X11_worked_113, e_X11_worked_114, e_X11_worked_115, e_X11_worked_117, e_X11_worked_118, e_X11_worked_121, e_X11_worked_122, e_X11_worked_123, e_X11_worked_124, e_X11_worked_125, e_X11_worked_126, e_X11_worked_129, e_X11_worked_130, e_X11_worked_131, e_X11_worked_134, e_X11_worked_135, e_X11_worked_138, e_X11_worked_141, e_X11_worked_142, e_X11_worked_145, e_X11_worked_146, e_X11_worked_147, vi, vl, vr, oc_X11_done, T_X11_done, ix_push, ix_iload, ix_lload, ix_aload, ix_istore, ix_astore, ix_iinc, ix_bin, ix_div, ix_un, ix_i2l, ix_l2i, ix_lbin, ix_lsh, ix_lcmp, ix_dup, ix_dup2, ix_pop, ix_if, ix_cmp, ix_goto, ix_switch, ix_sw, ix_iret, ix_zret, ix_vret, ix_aret, ix_geti, ix_getr, ix_puti, ix_putz, ix_puts, ix_gets, ix_iald, ix_iast, ix_alen, ix_aald, ix_gval, ix_gcod, ix_bald, ix_blen, ix_sald, ix_nret, ix_math2, ix_math1, ix_acopy, ml_113, ml_114, ml_115, ml_116, ml_118, ml_119, ml_120, ml_121, ml_122, ml_123, ml_124, ml_125, ml_126, mv_0, mv_1, mv_2, mv_3, mv_4, mv_5, mB_or, Nat.add_assoc, Int32.reduceLT, Int32.reduceLE, Int32.reduceToNatClampNeg, Int32.reduceSub, Int32.reduceAdd, Nat.reduceAdd, Nat.reduceLeDiff, true_or, or_true, or_false, false_or, not_false_eq_true, not_true_eq_false, false_implies, true_implies, implies_true, and_self, mB_0, mB_01, Classical.not_not, Nat.zero_le, List.getElem?_cons_zero, List.getElem?_cons_succ, List.set_cons_zero, List.set_cons_succ, ix_nl, ix_cs, true_and, and_true, Option.toList_some, Option.toList_none, List.cons_append, List.nil_append, hm1, hct, hint, e113, hsum, hle, mv60, htop]
    exact hQ μ1 hF
  | cons d rest ih =>
    intro k q s μ1 x4 hq hk hs hwf hF hcode hS hQ
    simp only [List.length_cons] at hk
    have e113 : μ1 113 t = nI N := by rw [hF 113 (by decide)]; exact hn
    have hng : ¬ nI g ≤ nI q := nI_ge (by omega) (by omega)
    have hck : (nI q).toNatClampNeg = q := nI_clamp (by omega)
    have hin : vp_in (nI q) 256 := vp_in_nI (by omega) (by decide)
    have hstep : μ1 113 q = d := by
      rw [hF 113 (by decide), hq, hf]
      exact hcode 0 (by simp)
    have hk1 : nI q + 1 = nI (q + 1) := nI_1 _
    have hcode' : ∀ j, j < rest.length → μ 113 (t + 1 + (k + 1 + j)) = rest.getD j 0 := by
      intro j hj
      have := hcode (j + 1) (by simp; omega)
      rw [show k + 1 + j = k + (j + 1) by omega]
      simpa using this
    have e119 : μ1 119 = μ 119 := hF 119 (by decide)
    rw [e_X11_worked_4]
    rcases hwf with ⟨hp, hwf⟩ | ⟨rfl, hn1, hwf⟩ | ⟨hb, hn2, hwf⟩
    · have hcs : (nI s.length).toNatClampNeg = s.length := nI_clamp (by omega)
      have hins : vp_in (nI s.length) 60 := vp_in_nI (by omega) (by decide)
      have hs1 : nI s.length + 1 = nI (s.length + 1) := nI_1 _
      have key : ∀ v, v = tName (μ 119 0) (μ 119 1) (μ 119 2) d → d < 20000 → ix_Ev o_X11_worked Q (4, [some (vr 10 112), some (vi (nI f)), some (vi (nI (s.length + 1))), some (vi (nI (q + 1))), some (vi d)], [], ix_up μ1 120 s.length v) := by
        intro v hv hd
        exact ih (k + 1) (q + 1) (v :: s) (ix_up μ1 120 s.length v) (some (vi d)) (by omega) (by omega) (by simp; omega) (by simpa using hwf) (hF.up (by simp)) hcode' (hS.push v) (fun μ' h => by
          have h2 := hQ μ' h
          simp only [tEval, tStep, if_pos hd] at h2
          rw [hv]
          exact h2)
      have hpn : (d < 10000 ∧ d < 20000) ∨ d = 10000 ∨ d = 10001 ∨ d = 10002 := by
        rcases hp with ⟨n, hn9, rfl⟩ | h | h | h
        · left
          exact ⟨nI_lt hn9 (by decide), nI_lt (b := 20000) (by omega) (by decide)⟩
        · exact Or.inr (Or.inl h)
        · exact Or.inr (Or.inr (Or.inl h))
        · exact Or.inr (Or.inr (Or.inr h))
      rcases hpn with ⟨h1, h2⟩ | rfl | rfl | rfl
      · have h1' : ¬ (10000 : Int32) ≤ d := Int32.not_le.mpr h1
        have h2' : ¬ (20000 : Int32) ≤ d := Int32.not_le.mpr h2
        simp (decide := true) only [e_X11_worked_0, e_X11_worked_1, e_X11_worked_2, e_X11_worked_3, e_X11_worked_5, e_X11_worked_6, e_X11_worked_7, e_X11_worked_10, e_X11_worked_11, e_X11_worked_12, e_X11_worked_13, e_X11_worked_14, e_X11_worked_15, e_X11_worked_18, e_X11_worked_19, e_X11_worked_22, e_X11_worked_23, e_X11_worked_24, e_X11_worked_26, e_X11_worked_28, e_X11_worked_31, e_X11_worked_34, e_X11_worked_35, e_X11_worked_38, e_X11_worked_39, e_X11_worked_41, e_X11_worked_44, e_X11_worked_47, e_X11_worked_49, e_X11_worked_52, e_X11_worked_53, e_X11_worked_56, e_X11_worked_58, e_X11_worked_61, e_X11_worked_62, e_X11_worked_63, e_X11_worked_64, e_X11_worked_67, e_X11_worked_70, e_X11_worked_72, e_X11_worked_75, e_X11_worked_78, e_X11_worked_79, e_X11_worked_82, e_X11_worked_83, e_X11_worked_84, e_X11_worked_85, e_X11_worked_86, e_X11_worked_89, e_X11_worked_90, e_X11_worked_91, e_X11_worked_92, e_X11_worked_93, e_X11_worked_96, e_X11_worked_97, e_X11_worked_100, e_X11_worked_101, e_X11_worked_102, e_X11_worked_105, e_X11_worked_108, e_X11_worked_109, e_X11_worked_112, e_X11_worked_113, e_X11_worked_114, e_X11_worked_115, e_X11_worked_117, e_X11_worked_118, e_X11_worked_121, e_X11_worked_122, e_X11_worked_123, e_X11_worked_124, e_X11_worked_125, e_X11_worked_126, e_X11_worked_129, e_X11_worked_130, e_X11_worked_131, e_X11_worked_134, e_X11_worked_135, e_X11_worked_138, e_X11_worked_141, e_X11_worked_142, e_X11_worked_145, e_X11_worked_146, e_X11_worked_147, vi, vl, vr, oc_X11_done, T_X11_done, ix_push, ix_iload, ix_lload, ix_aload, ix_istore, ix_astore, ix_iinc, ix_bin, ix_div, ix_un, ix_i2l, ix_l2i, ix_lbin, ix_lsh, ix_lcmp, ix_dup, ix_dup2, ix_pop, ix_if, ix_cmp, ix_goto, ix_switch, ix_sw, ix_iret, ix_zret, ix_vret, ix_aret, ix_geti, ix_getr, ix_puti, ix_putz, ix_puts, ix_gets, ix_iald, ix_iast, ix_alen, ix_aald, ix_gval, ix_gcod, ix_bald, ix_blen, ix_sald, ix_nret, ix_math2, ix_math1, ix_acopy, ml_113, ml_114, ml_115, ml_116, ml_118, ml_119, ml_120, ml_121, ml_122, ml_123, ml_124, ml_125, ml_126, mv_0, mv_1, mv_2, mv_3, mv_4, mv_5, mB_or, Nat.add_assoc, Int32.reduceLT, Int32.reduceLE, Int32.reduceToNatClampNeg, Int32.reduceSub, Int32.reduceAdd, Nat.reduceAdd, Nat.reduceLeDiff, true_or, or_true, or_false, false_or, not_false_eq_true, not_true_eq_false, false_implies, true_implies, implies_true, and_self, mB_0, mB_01, Classical.not_not, Nat.zero_le, List.getElem?_cons_zero, List.getElem?_cons_succ, List.set_cons_zero, List.set_cons_succ, ix_nl, ix_cs, true_and, and_true, Option.toList_some, Option.toList_none, List.cons_append, List.nil_append, hm1, hct, hint, e113, hsum, hng, hck, hin, hstep, hk1, h1', h2', hcs, hins, hs1]
        exact key d (by simp only [tName, if_pos h1]) h2
      · simp (decide := true) only [e_X11_worked_0, e_X11_worked_1, e_X11_worked_2, e_X11_worked_3, e_X11_worked_5, e_X11_worked_6, e_X11_worked_7, e_X11_worked_10, e_X11_worked_11, e_X11_worked_12, e_X11_worked_13, e_X11_worked_14, e_X11_worked_15, e_X11_worked_18, e_X11_worked_19, e_X11_worked_22, e_X11_worked_23, e_X11_worked_24, e_X11_worked_26, e_X11_worked_28, e_X11_worked_31, e_X11_worked_34, e_X11_worked_35, e_X11_worked_38, e_X11_worked_39, e_X11_worked_41, e_X11_worked_44, e_X11_worked_47, e_X11_worked_49, e_X11_worked_52, e_X11_worked_53, e_X11_worked_56, e_X11_worked_58, e_X11_worked_61, e_X11_worked_62, e_X11_worked_63, e_X11_worked_64, e_X11_worked_67, e_X11_worked_70, e_X11_worked_72, e_X11_worked_75, e_X11_worked_78, e_X11_worked_79, e_X11_worked_82, e_X11_worked_83, e_X11_worked_84, e_X11_worked_85, e_X11_worked_86, e_X11_worked_89, e_X11_worked_90, e_X11_worked_91, e_X11_worked_92, e_X11_worked_93, e_X11_worked_96, e_X11_worked_97, e_X11_worked_100, e_X11_worked_101, e_X11_worked_102, e_X11_worked_105, e_X11_worked_108, e_X11_worked_109, e_X11_worked_112, e_X11_worked_113, e_X11_worked_114, e_X11_worked_115, e_X11_worked_117, e_X11_worked_118, e_X11_worked_121, e_X11_worked_122, e_X11_worked_123, e_X11_worked_124, e_X11_worked_125, e_X11_worked_126, e_X11_worked_129, e_X11_worked_130, e_X11_worked_131, e_X11_worked_134, e_X11_worked_135, e_X11_worked_138, e_X11_worked_141, e_X11_worked_142, e_X11_worked_145, e_X11_worked_146, e_X11_worked_147, vi, vl, vr, oc_X11_done, T_X11_done, ix_push, ix_iload, ix_lload, ix_aload, ix_istore, ix_astore, ix_iinc, ix_bin, ix_div, ix_un, ix_i2l, ix_l2i, ix_lbin, ix_lsh, ix_lcmp, ix_dup, ix_dup2, ix_pop, ix_if, ix_cmp, ix_goto, ix_switch, ix_sw, ix_iret, ix_zret, ix_vret, ix_aret, ix_geti, ix_getr, ix_puti, ix_putz, ix_puts, ix_gets, ix_iald, ix_iast, ix_alen, ix_aald, ix_gval, ix_gcod, ix_bald, ix_blen, ix_sald, ix_nret, ix_math2, ix_math1, ix_acopy, ml_113, ml_114, ml_115, ml_116, ml_118, ml_119, ml_120, ml_121, ml_122, ml_123, ml_124, ml_125, ml_126, mv_0, mv_1, mv_2, mv_3, mv_4, mv_5, mB_or, Nat.add_assoc, Int32.reduceLT, Int32.reduceLE, Int32.reduceToNatClampNeg, Int32.reduceSub, Int32.reduceAdd, Nat.reduceAdd, Nat.reduceLeDiff, true_or, or_true, or_false, false_or, not_false_eq_true, not_true_eq_false, false_implies, true_implies, implies_true, and_self, mB_0, mB_01, Classical.not_not, Nat.zero_le, List.getElem?_cons_zero, List.getElem?_cons_succ, List.set_cons_zero, List.set_cons_succ, ix_nl, ix_cs, true_and, and_true, Option.toList_some, Option.toList_none, List.cons_append, List.nil_append, hm1, hct, hint, e113, hsum, hng, hck, hin, hstep, hk1, hcs, hins, hs1, mv4, e119]
        exact key _ (by simp [tName]) (by decide)
      · simp (decide := true) only [e_X11_worked_0, e_X11_worked_1, e_X11_worked_2, e_X11_worked_3, e_X11_worked_5, e_X11_worked_6, e_X11_worked_7, e_X11_worked_10, e_X11_worked_11, e_X11_worked_12, e_X11_worked_13, e_X11_worked_14, e_X11_worked_15, e_X11_worked_18, e_X11_worked_19, e_X11_worked_22, e_X11_worked_23, e_X11_worked_24, e_X11_worked_26, e_X11_worked_28, e_X11_worked_31, e_X11_worked_34, e_X11_worked_35, e_X11_worked_38, e_X11_worked_39, e_X11_worked_41, e_X11_worked_44, e_X11_worked_47, e_X11_worked_49, e_X11_worked_52, e_X11_worked_53, e_X11_worked_56, e_X11_worked_58, e_X11_worked_61, e_X11_worked_62, e_X11_worked_63, e_X11_worked_64, e_X11_worked_67, e_X11_worked_70, e_X11_worked_72, e_X11_worked_75, e_X11_worked_78, e_X11_worked_79, e_X11_worked_82, e_X11_worked_83, e_X11_worked_84, e_X11_worked_85, e_X11_worked_86, e_X11_worked_89, e_X11_worked_90, e_X11_worked_91, e_X11_worked_92, e_X11_worked_93, e_X11_worked_96, e_X11_worked_97, e_X11_worked_100, e_X11_worked_101, e_X11_worked_102, e_X11_worked_105, e_X11_worked_108, e_X11_worked_109, e_X11_worked_112, e_X11_worked_113, e_X11_worked_114, e_X11_worked_115, e_X11_worked_117, e_X11_worked_118, e_X11_worked_121, e_X11_worked_122, e_X11_worked_123, e_X11_worked_124, e_X11_worked_125, e_X11_worked_126, e_X11_worked_129, e_X11_worked_130, e_X11_worked_131, e_X11_worked_134, e_X11_worked_135, e_X11_worked_138, e_X11_worked_141, e_X11_worked_142, e_X11_worked_145, e_X11_worked_146, e_X11_worked_147, vi, vl, vr, oc_X11_done, T_X11_done, ix_push, ix_iload, ix_lload, ix_aload, ix_istore, ix_astore, ix_iinc, ix_bin, ix_div, ix_un, ix_i2l, ix_l2i, ix_lbin, ix_lsh, ix_lcmp, ix_dup, ix_dup2, ix_pop, ix_if, ix_cmp, ix_goto, ix_switch, ix_sw, ix_iret, ix_zret, ix_vret, ix_aret, ix_geti, ix_getr, ix_puti, ix_putz, ix_puts, ix_gets, ix_iald, ix_iast, ix_alen, ix_aald, ix_gval, ix_gcod, ix_bald, ix_blen, ix_sald, ix_nret, ix_math2, ix_math1, ix_acopy, ml_113, ml_114, ml_115, ml_116, ml_118, ml_119, ml_120, ml_121, ml_122, ml_123, ml_124, ml_125, ml_126, mv_0, mv_1, mv_2, mv_3, mv_4, mv_5, mB_or, Nat.add_assoc, Int32.reduceLT, Int32.reduceLE, Int32.reduceToNatClampNeg, Int32.reduceSub, Int32.reduceAdd, Nat.reduceAdd, Nat.reduceLeDiff, true_or, or_true, or_false, false_or, not_false_eq_true, not_true_eq_false, false_implies, true_implies, implies_true, and_self, mB_0, mB_01, Classical.not_not, Nat.zero_le, List.getElem?_cons_zero, List.getElem?_cons_succ, List.set_cons_zero, List.set_cons_succ, ix_nl, ix_cs, true_and, and_true, Option.toList_some, Option.toList_none, List.cons_append, List.nil_append, hm1, hct, hint, e113, hsum, hng, hck, hin, hstep, hk1, hcs, hins, hs1, mv4, e119]
        exact key _ (by simp [tName]) (by decide)
      · simp (decide := true) only [e_X11_worked_0, e_X11_worked_1, e_X11_worked_2, e_X11_worked_3, e_X11_worked_5, e_X11_worked_6, e_X11_worked_7, e_X11_worked_10, e_X11_worked_11, e_X11_worked_12, e_X11_worked_13, e_X11_worked_14, e_X11_worked_15, e_X11_worked_18, e_X11_worked_19, e_X11_worked_22, e_X11_worked_23, e_X11_worked_24, e_X11_worked_26, e_X11_worked_28, e_X11_worked_31, e_X11_worked_34, e_X11_worked_35, e_X11_worked_38, e_X11_worked_39, e_X11_worked_41, e_X11_worked_44, e_X11_worked_47, e_X11_worked_49, e_X11_worked_52, e_X11_worked_53, e_X11_worked_56, e_X11_worked_58, e_X11_worked_61, e_X11_worked_62, e_X11_worked_63, e_X11_worked_64, e_X11_worked_67, e_X11_worked_70, e_X11_worked_72, e_X11_worked_75, e_X11_worked_78, e_X11_worked_79, e_X11_worked_82, e_X11_worked_83, e_X11_worked_84, e_X11_worked_85, e_X11_worked_86, e_X11_worked_89, e_X11_worked_90, e_X11_worked_91, e_X11_worked_92, e_X11_worked_93, e_X11_worked_96, e_X11_worked_97, e_X11_worked_100, e_X11_worked_101, e_X11_worked_102, e_X11_worked_105, e_X11_worked_108, e_X11_worked_109, e_X11_worked_112, e_X11_worked_113, e_X11_worked_114, e_X11_worked_115, e_X11_worked_117, e_X11_worked_118, e_X11_worked_121, e_X11_worked_122, e_X11_worked_123, e_X11_worked_124, e_X11_worked_125, e_X11_worked_126, e_X11_worked_129, e_X11_worked_130, e_X11_worked_131, e_X11_worked_134, e_X11_worked_135, e_X11_worked_138, e_X11_worked_141, e_X11_worked_142, e_X11_worked_145, e_X11_worked_146, e_X11_worked_147, vi, vl, vr, oc_X11_done, T_X11_done, ix_push, ix_iload, ix_lload, ix_aload, ix_istore, ix_astore, ix_iinc, ix_bin, ix_div, ix_un, ix_i2l, ix_l2i, ix_lbin, ix_lsh, ix_lcmp, ix_dup, ix_dup2, ix_pop, ix_if, ix_cmp, ix_goto, ix_switch, ix_sw, ix_iret, ix_zret, ix_vret, ix_aret, ix_geti, ix_getr, ix_puti, ix_putz, ix_puts, ix_gets, ix_iald, ix_iast, ix_alen, ix_aald, ix_gval, ix_gcod, ix_bald, ix_blen, ix_sald, ix_nret, ix_math2, ix_math1, ix_acopy, ml_113, ml_114, ml_115, ml_116, ml_118, ml_119, ml_120, ml_121, ml_122, ml_123, ml_124, ml_125, ml_126, mv_0, mv_1, mv_2, mv_3, mv_4, mv_5, mB_or, Nat.add_assoc, Int32.reduceLT, Int32.reduceLE, Int32.reduceToNatClampNeg, Int32.reduceSub, Int32.reduceAdd, Nat.reduceAdd, Nat.reduceLeDiff, true_or, or_true, or_false, false_or, not_false_eq_true, not_true_eq_false, false_implies, true_implies, implies_true, and_self, mB_0, mB_01, Classical.not_not, Nat.zero_le, List.getElem?_cons_zero, List.getElem?_cons_succ, List.set_cons_zero, List.set_cons_succ, ix_nl, ix_cs, true_and, and_true, Option.toList_some, Option.toList_none, List.cons_append, List.nil_append, hm1, hct, hint, e113, hsum, hng, hck, hin, hstep, hk1, hcs, hins, hs1, mv4, e119]
        exact key _ (by simp [tName]) (by decide)
    · obtain ⟨x, r, rfl⟩ : ∃ x r, s = x :: r := by
        cases s with
        | nil => simp at hn1
        | cons x r => exact ⟨x, r, rfl⟩
      simp only [List.length_cons] at hs ⊢
      have hB := nI_pred r.length
      have hC : (nI r.length).toNatClampNeg = r.length := nI_clamp (by omega)
      have hD : vp_in (nI r.length) 60 := vp_in_nI (by omega) (by decide)
      have hE := hS.top
      have key : ∀ v, v = (if x = 0 then 1 else 0) → ix_Ev o_X11_worked Q (4, [some (vr 10 112), some (vi (nI f)), some (vi (nI (r.length + 1))), some (vi (nI (q + 1))), some (vi 20010)], [], ix_up μ1 120 r.length v) := by
        intro v hv
        exact ih (k + 1) (q + 1) (v :: r) (ix_up μ1 120 r.length v) (some (vi 20010)) (by omega) (by omega) (by simp; omega) (by simpa using hwf) (hF.up (by simp)) hcode' (hS.pop.push v) (fun μ' h => by
          have h2 := hQ μ' h
          simp (decide := true) only [tEval, tStep, if_true, if_false] at h2
          rw [hv]
          exact h2)
      simp (decide := true) only [e_X11_worked_0, e_X11_worked_1, e_X11_worked_2, e_X11_worked_3, e_X11_worked_5, e_X11_worked_6, e_X11_worked_7, e_X11_worked_10, e_X11_worked_11, e_X11_worked_12, e_X11_worked_13, e_X11_worked_14, e_X11_worked_15, e_X11_worked_18, e_X11_worked_19, e_X11_worked_22, e_X11_worked_23, e_X11_worked_24, e_X11_worked_26, e_X11_worked_28, e_X11_worked_31, e_X11_worked_34, e_X11_worked_35, e_X11_worked_38, e_X11_worked_39, e_X11_worked_41, e_X11_worked_44, e_X11_worked_47, e_X11_worked_49, e_X11_worked_52, e_X11_worked_53, e_X11_worked_56, e_X11_worked_58, e_X11_worked_61, e_X11_worked_62, e_X11_worked_63, e_X11_worked_64, e_X11_worked_67, e_X11_worked_70, e_X11_worked_72, e_X11_worked_75, e_X11_worked_78, e_X11_worked_79, e_X11_worked_82, e_X11_worked_83, e_X11_worked_84, e_X11_worked_85, e_X11_worked_86, e_X11_worked_89, e_X11_worked_90, e_X11_worked_91, e_X11_worked_92, e_X11_worked_93, e_X11_worked_96, e_X11_worked_97, e_X11_worked_100, e_X11_worked_101, e_X11_worked_102, e_X11_worked_105, e_X11_worked_108, e_X11_worked_109, e_X11_worked_112, e_X11_worked_113, e_X11_worked_114, e_X11_worked_115, e_X11_worked_117, e_X11_worked_118, e_X11_worked_121, e_X11_worked_122, e_X11_worked_123, e_X11_worked_124, e_X11_worked_125, e_X11_worked_126, e_X11_worked_129, e_X11_worked_130, e_X11_worked_131, e_X11_worked_134, e_X11_worked_135, e_X11_worked_138, e_X11_worked_141, e_X11_worked_142, e_X11_worked_145, e_X11_worked_146, e_X11_worked_147, vi, vl, vr, oc_X11_done, T_X11_done, ix_push, ix_iload, ix_lload, ix_aload, ix_istore, ix_astore, ix_iinc, ix_bin, ix_div, ix_un, ix_i2l, ix_l2i, ix_lbin, ix_lsh, ix_lcmp, ix_dup, ix_dup2, ix_pop, ix_if, ix_cmp, ix_goto, ix_switch, ix_sw, ix_iret, ix_zret, ix_vret, ix_aret, ix_geti, ix_getr, ix_puti, ix_putz, ix_puts, ix_gets, ix_iald, ix_iast, ix_alen, ix_aald, ix_gval, ix_gcod, ix_bald, ix_blen, ix_sald, ix_nret, ix_math2, ix_math1, ix_acopy, ml_113, ml_114, ml_115, ml_116, ml_118, ml_119, ml_120, ml_121, ml_122, ml_123, ml_124, ml_125, ml_126, mv_0, mv_1, mv_2, mv_3, mv_4, mv_5, mB_or, Nat.add_assoc, Int32.reduceLT, Int32.reduceLE, Int32.reduceToNatClampNeg, Int32.reduceSub, Int32.reduceAdd, Nat.reduceAdd, Nat.reduceLeDiff, true_or, or_true, or_false, false_or, not_false_eq_true, not_true_eq_false, false_implies, true_implies, implies_true, and_self, mB_0, mB_01, Classical.not_not, Nat.zero_le, List.getElem?_cons_zero, List.getElem?_cons_succ, List.set_cons_zero, List.set_cons_succ, ix_nl, ix_cs, true_and, and_true, Option.toList_some, Option.toList_none, List.cons_append, List.nil_append, hm1, hct, hint, e113, hsum, hng, hck, hin, hstep, hk1, hB, hC, hD, hE]
      exact ⟨fun z => key _ (by simp [z]), fun z => key _ (by simp [z])⟩
    · obtain ⟨y, x, r, rfl⟩ : ∃ y x r, s = y :: x :: r := by
        match s, hn2 with
        | y :: x :: r, _ => exact ⟨y, x, r, rfl⟩
      simp only [List.length_cons] at hs ⊢
      have hB := pk_m1 (r.length + 1)
      have hB2 := nI_pred r.length
      have hC : (nI r.length).toNatClampNeg = r.length := nI_clamp (by omega)
      have hC2 : (nI (r.length + 1)).toNatClampNeg = r.length + 1 := nI_clamp (by omega)
      have hD : vp_in (nI r.length) 60 := vp_in_nI (by omega) (by decide)
      have hD2 : vp_in (nI (r.length + 1)) 60 := vp_in_nI (by omega) (by decide)
      have hE : μ1 120 (r.length + 1) = y := hS.top
      have hE2 := hS.pop.top
      have key : ix_Ev o_X11_worked Q (4, [some (vr 10 112), some (vi (nI f)), some (vi (nI (r.length + 1))), some (vi (nI (q + 1))), some (vi d)], [], ix_up μ1 120 r.length (nDone d x y)) :=
        ih (k + 1) (q + 1) (nDone d x y :: r) (ix_up μ1 120 r.length (nDone d x y)) (some (vi d)) (by omega) (by omega) (by simp; omega) (by simpa using hwf) (hF.up (by simp)) hcode' (hS.pop.pop.push _) (fun μ' h => by
          have h2 := hQ μ' h
          have hst : tStep (μ 119 0) (μ 119 1) (μ 119 2) d (y :: x :: r) = nDone d x y :: r := by
            rcases hb with rfl | rfl | rfl | rfl | rfl | rfl | rfl | rfl | rfl | rfl <;> (simp (decide := true) only [tStep, if_false]; rfl)
          simp only [tEval, hst] at h2
          exact h2)
      have hd1 : (20000 : Int32) ≤ d ∧ ¬ d = 20010 := by
        rcases hb with rfl | rfl | rfl | rfl | rfl | rfl | rfl | rfl | rfl | rfl <;> decide
      simp (decide := true) only [e_X11_worked_0, e_X11_worked_1, e_X11_worked_2, e_X11_worked_3, e_X11_worked_5, e_X11_worked_6, e_X11_worked_7, e_X11_worked_10, e_X11_worked_11, e_X11_worked_12, e_X11_worked_13, e_X11_worked_14, e_X11_worked_15, e_X11_worked_18, e_X11_worked_19, e_X11_worked_22, e_X11_worked_23, e_X11_worked_24, e_X11_worked_26, e_X11_worked_28, e_X11_worked_31, e_X11_worked_34, e_X11_worked_35, e_X11_worked_38, e_X11_worked_39, e_X11_worked_41, e_X11_worked_44, e_X11_worked_47, e_X11_worked_49, e_X11_worked_52, e_X11_worked_53, e_X11_worked_56, e_X11_worked_58, e_X11_worked_61, e_X11_worked_62, e_X11_worked_63, e_X11_worked_64, e_X11_worked_67, e_X11_worked_70, e_X11_worked_72, e_X11_worked_75, e_X11_worked_78, e_X11_worked_79, e_X11_worked_82, e_X11_worked_83, e_X11_worked_84, e_X11_worked_85, e_X11_worked_86, e_X11_worked_89, e_X11_worked_90, e_X11_worked_91, e_X11_worked_92, e_X11_worked_93, e_X11_worked_96, e_X11_worked_97, e_X11_worked_100, e_X11_worked_101, e_X11_worked_102, e_X11_worked_105, e_X11_worked_108, e_X11_worked_109, e_X11_worked_112, e_X11_worked_113, e_X11_worked_114, e_X11_worked_115, e_X11_worked_117, e_X11_worked_118, e_X11_worked_121, e_X11_worked_122, e_X11_worked_123, e_X11_worked_124, e_X11_worked_125, e_X11_worked_126, e_X11_worked_129, e_X11_worked_130, e_X11_worked_131, e_X11_worked_134, e_X11_worked_135, e_X11_worked_138, e_X11_worked_141, e_X11_worked_142, e_X11_worked_145, e_X11_worked_146, e_X11_worked_147, vi, vl, vr, oc_X11_done, T_X11_done, ix_push, ix_iload, ix_lload, ix_aload, ix_istore, ix_astore, ix_iinc, ix_bin, ix_div, ix_un, ix_i2l, ix_l2i, ix_lbin, ix_lsh, ix_lcmp, ix_dup, ix_dup2, ix_pop, ix_if, ix_cmp, ix_goto, ix_switch, ix_sw, ix_iret, ix_zret, ix_vret, ix_aret, ix_geti, ix_getr, ix_puti, ix_putz, ix_puts, ix_gets, ix_iald, ix_iast, ix_alen, ix_aald, ix_gval, ix_gcod, ix_bald, ix_blen, ix_sald, ix_nret, ix_math2, ix_math1, ix_acopy, ml_113, ml_114, ml_115, ml_116, ml_118, ml_119, ml_120, ml_121, ml_122, ml_123, ml_124, ml_125, ml_126, mv_0, mv_1, mv_2, mv_3, mv_4, mv_5, mB_or, Nat.add_assoc, Int32.reduceLT, Int32.reduceLE, Int32.reduceToNatClampNeg, Int32.reduceSub, Int32.reduceAdd, Nat.reduceAdd, Nat.reduceLeDiff, true_or, or_true, or_false, false_or, not_false_eq_true, not_true_eq_false, false_implies, true_implies, implies_true, and_self, mB_0, mB_01, Classical.not_not, Nat.zero_le, List.getElem?_cons_zero, List.getElem?_cons_succ, List.set_cons_zero, List.set_cons_succ, ix_nl, ix_cs, true_and, and_true, Option.toList_some, Option.toList_none, List.cons_append, List.nil_append, hm1, hct, hint, e113, hsum, hng, hck, hin, hstep, hk1, hd1, hB, hB2, hC, hC2, hD, hD2, hE, hE2]
      exact key
theorem r_X11_worked (o : Nat) (fm : Int32) (μ : ix_M) (Q : ix_R → Prop) (ok_o : o < ix_N ∧ ix_tag o = 10) (hT : T_X11_worked (o, fm) μ Q) : ix_Ev o_X11_worked Q (0, [some (vr 10 o), some (vi fm), none, none, none], [], μ) := by
  obtain rfl := ok_10 o ok_o.1 ok_o.2
  obtain ⟨t, ds, rfl, ht, hM, hwf, hQ⟩ := hT
  simp (decide := true) only [e_X11_worked_0, e_X11_worked_1, e_X11_worked_2, e_X11_worked_3, e_X11_worked_5, e_X11_worked_6, e_X11_worked_7, e_X11_worked_10, e_X11_worked_11, e_X11_worked_12, e_X11_worked_13, e_X11_worked_14, e_X11_worked_15, e_X11_worked_18, e_X11_worked_19, e_X11_worked_22, e_X11_worked_23, e_X11_worked_24, e_X11_worked_26, e_X11_worked_28, e_X11_worked_31, e_X11_worked_34, e_X11_worked_35, e_X11_worked_38, e_X11_worked_39, e_X11_worked_41, e_X11_worked_44, e_X11_worked_47, e_X11_worked_49, e_X11_worked_52, e_X11_worked_53, e_X11_worked_56, e_X11_worked_58, e_X11_worked_61, e_X11_worked_62, e_X11_worked_63, e_X11_worked_64, e_X11_worked_67, e_X11_worked_70, e_X11_worked_72, e_X11_worked_75, e_X11_worked_78, e_X11_worked_79, e_X11_worked_82, e_X11_worked_83, e_X11_worked_84, e_X11_worked_85, e_X11_worked_86, e_X11_worked_89, e_X11_worked_90, e_X11_worked_91, e_X11_worked_92, e_X11_worked_93, e_X11_worked_96, e_X11_worked_97, e_X11_worked_100, e_X11_worked_101, e_X11_worked_102, e_X11_worked_105, e_X11_worked_108, e_X11_worked_109, e_X11_worked_112, e_X11_worked_113, e_X11_worked_114, e_X11_worked_115, e_X11_worked_117, e_X11_worked_118, e_X11_worked_121, e_X11_worked_122, e_X11_worked_123, e_X11_worked_124, e_X11_worked_125, e_X11_worked_126, e_X11_worked_129, e_X11_worked_130, e_X11_worked_131, e_X11_worked_134, e_X11_worked_135, e_X11_worked_138, e_X11_worked_141, e_X11_worked_142, e_X11_worked_145, e_X11_worked_146, e_X11_worked_147, vi, vl, vr, oc_X11_done, T_X11_done, ix_push, ix_iload, ix_lload, ix_aload, ix_istore, ix_astore, ix_iinc, ix_bin, ix_div, ix_un, ix_i2l, ix_l2i, ix_lbin, ix_lsh, ix_lcmp, ix_dup, ix_dup2, ix_pop, ix_if, ix_cmp, ix_goto, ix_switch, ix_sw, ix_iret, ix_zret, ix_vret, ix_aret, ix_geti, ix_getr, ix_puti, ix_putz, ix_puts, ix_gets, ix_iald, ix_iast, ix_alen, ix_aald, ix_gval, ix_gcod, ix_bald, ix_blen, ix_sald, ix_nret, ix_math2, ix_math1, ix_acopy, ml_113, ml_114, ml_115, ml_116, ml_118, ml_119, ml_120, ml_121, ml_122, ml_123, ml_124, ml_125, ml_126, mv_0, mv_1, mv_2, mv_3, mv_4, mv_5, mB_or, Nat.add_assoc, Int32.reduceLT, Int32.reduceLE, Int32.reduceToNatClampNeg, Int32.reduceSub, Int32.reduceAdd, Nat.reduceAdd, Nat.reduceLeDiff, true_or, or_true, or_false, false_or, not_false_eq_true, not_true_eq_false, false_implies, true_implies, implies_true, and_self, mB_0, mB_01, Classical.not_not, Nat.zero_le, List.getElem?_cons_zero, List.getElem?_cons_succ, List.set_cons_zero, List.set_cons_succ, ix_nl, ix_cs, true_and, and_true, Option.toList_some, Option.toList_none, List.cons_append, List.nil_append]
  exact l_X11_worked rfl rfl ht hM.1.2.1 hM.1.1 ds 0 (t + 1) [] μ none rfl (by omega) (Nat.le_refl _) hwf Fx.rf (fun j hj => by rw [Nat.zero_add]; exact hM.1.2.2 j hj) Stk.nil hQ
theorem k_X11_worked (l : Launch) : ix_Ct l yX11_worked cX11_worked 5 (some .int) 2 sh_X11_worked T_X11_worked := ix_ct (a_X11_worked l) rfl (by decide) (fun _ => Nat.le_of_ble_eq_true rfl) (fun x μ Q hok hT => r_X11_worked x.1 x.2 μ Q (ix_ok_at (hok (vr 10 x.1) (by simp [sh_X11_worked])) (by decide) (by decide)) hT)
def lawU (u : Nat) (ds : List Int32) (a b c : Int32) : Int32 := if u = 0 then lawS ds a b c else lawL ds a b c
def T_X11_given : Nat × Int32 × Int32 × Int32 × Int32 → ix_M → (ix_R → Prop) → Prop := fun (_, u, a, b, c) μ Q => ∃ U ds, u = nI U ∧ U ≤ 1 ∧ TxtM (μ 113) (152 + 52 * U) ds ∧ ∀ μ', Fx [119, 120] μ μ' → Q (some (vi (lawU U ds a b c)), μ')
def sh_X11_given (x : Nat × Int32 × Int32 × Int32 × Int32) : List ix_V := [vr 10 x.1, vi x.2.1, vi x.2.2.1, vi x.2.2.2.1, vi x.2.2.2.2]
theorem mo_X11_given (x : Nat × Int32 × Int32 × Int32 × Int32) (μ : ix_M) (Q Q' : ix_R → Prop) (h : ∀ r, Q r → Q' r) (hT : T_X11_given x μ Q) : T_X11_given x μ Q' := by
  obtain ⟨a0, a1, a2, a3, a4⟩ := x
  (obtain ⟨t, ds, h1, h2, h3, h4⟩ := hT; exact ⟨t, ds, h1, h2, h3, fun μ' x => h _ (h4 μ' x)⟩)
def oc_X11_given (n : Nat) : ix_Op := fun k _ ls st μ => match st with
  | .inl a4 :: .inl a3 :: .inl a2 :: .inl a1 :: .inr (.inr (t0, a0)) :: r => t0 = 10 ∧ ix_cs r ≤ 8 ∧ T_X11_given (a0, a1, a2, a3, a4) μ (fun q => k (n, ls, q.1.toList ++ r, q.2))
  | _ => False
theorem oc_X11_given_s {l : Launch} {cc : ByteArray} {nL : Nat} {own : String} {d : Nat} {rt : Option FieldType} {pc n : Nat} (h : ix_S l cc nL own d rt pc (ix_call 5 sh_X11_given T_X11_given n)) : ix_S l cc nL own d rt pc (oc_X11_given n) := by
  refine h.by (fun k Q ls st μ h => ?_) (fun k k' Q ls st μ hk h => ?_)
  · unfold oc_X11_given at h
    split at h
    · rename_i a4 a3 a2 a1 t0 a0 r
      obtain ⟨rfl, h1, h2⟩ := h
      exact ⟨h1, (a0, a1, a2, a3, a4), rfl, _, h2, fun r h => h⟩
    · exact h.elim
  · unfold oc_X11_given at h ⊢
    split at h
    · obtain ⟨rfl, h1, h2⟩ := h
      exact ⟨rfl, h1, mo_X11_given _ _ _ _ (fun q hq => hk _ hq) h2⟩
    · exact h.elim
def o_X11_given : List (Nat × ix_Op) := [
  (0, ix_aload 0 1),
  (1, ix_getr 10 20 (fun _ => 119) 4),
  (4, ix_push (vi 0) 5),
  (5, ix_iload 2 6),
  (6, ix_iast 7),
  (7, ix_aload 0 8),
  (8, ix_getr 10 20 (fun _ => 119) 11),
  (11, ix_push (vi 1) 12),
  (12, ix_iload 3 13),
  (13, ix_iast 14),
  (14, ix_aload 0 15),
  (15, ix_getr 10 20 (fun _ => 119) 18),
  (18, ix_push (vi 2) 19),
  (19, ix_iload 4 21),
  (21, ix_iast 22),
  (22, ix_iload 1 23),
  (23, ix_if (fun x => x = 0) 26 30),
  (26, ix_iload 3 27),
  (27, ix_goto 40),
  (30, ix_iload 4 32),
  (32, ix_if (fun x => x = 0) 39 35),
  (35, ix_iload 2 36),
  (36, ix_goto 40),
  (39, ix_push (vi 0) 40),
  (40, ix_istore 5 42),
  (42, ix_aload 0 43),
  (43, ix_iload 1 44),
  (44, oc_X11_hasText 47),
  (47, ix_if (fun x => x = 0) 67 50),
  (50, ix_aload 0 51),
  (51, ix_push (vi 152) 54),
  (54, ix_push (vi 52) 56),
  (56, ix_iload 1 57),
  (57, ix_bin (fun x y => x * y) 58),
  (58, ix_bin (fun x y => x + y) 59),
  (59, ix_push (vi 1) 60),
  (60, ix_bin (fun x y => x + y) 61),
  (61, oc_X11_worked 64),
  (64, ix_goto 69),
  (67, ix_iload 5 69),
  (69, ix_push (vi 0) 70),
  (70, ix_push (vi 99) 72),
  (72, oc_X11_held 75),
  (75, ix_iret)]
set_option maxRecDepth 20000 in
theorem a_X11_given (l : Launch) : ix_AllS l cX11_given 6 RX11 3 (some .int) o_X11_given :=
  .cons (ix_s_aload_n dX11_given_0 rfl) <|
  .cons (ix_s_getr (j := 14) tu_X11 rfl (by decide) (by decide) tw_889 rfl ts_10_14_r dX11_given_1) <|
  .cons (ix_s_iconst dX11_given_4 (by decide +kernel)) <|
  .cons (ix_s_iload_n dX11_given_5 rfl) <|
  .cons (ix_s_iast dX11_given_6) <|
  .cons (ix_s_aload_n dX11_given_7 rfl) <|
  .cons (ix_s_getr (j := 14) tu_X11 rfl (by decide) (by decide) tw_889 rfl ts_10_14_r dX11_given_8) <|
  .cons (ix_s_iconst dX11_given_11 (by decide +kernel)) <|
  .cons (ix_s_iload_n dX11_given_12 rfl) <|
  .cons (ix_s_iast dX11_given_13) <|
  .cons (ix_s_aload_n dX11_given_14 rfl) <|
  .cons (ix_s_getr (j := 14) tu_X11 rfl (by decide) (by decide) tw_889 rfl ts_10_14_r dX11_given_15) <|
  .cons (ix_s_iconst dX11_given_18 (by decide +kernel)) <|
  .cons (ix_s_iload dX11_given_19) <|
  .cons (ix_s_iast dX11_given_21) <|
  .cons (ix_s_iload_n dX11_given_22 rfl) <|
  .cons (ix_s_if_ne dX11_given_23 (by decide)) <|
  .cons (ix_s_iload_n dX11_given_26 rfl) <|
  .cons (ix_s_goto dX11_given_27 (by decide)) <|
  .cons (ix_s_iload dX11_given_30) <|
  .cons (ix_s_if_eq dX11_given_32 (by decide)) <|
  .cons (ix_s_iload_n dX11_given_35 rfl) <|
  .cons (ix_s_goto dX11_given_36 (by decide)) <|
  .cons (ix_s_iconst dX11_given_39 (by decide +kernel)) <|
  .cons (ix_s_istore dX11_given_40 (by decide)) <|
  .cons (ix_s_aload_n dX11_given_42 rfl) <|
  .cons (ix_s_iload_n dX11_given_43 rfl) <|
  .cons (oc_X11_hasText_s (ix_s_callv (t := 10) (k_X11_hasText l) (by decide) (by decide) tw_1045 tw_12 tw_1042 tw_1044 tp_30 ⟨by decide, by decide, by decide +kernel⟩ (by decide) rfl rfl (fun _ => ⟨_, _, rfl, rfl⟩) dX11_given_44)) <|
  .cons (ix_s_if_eq dX11_given_47 (by decide)) <|
  .cons (ix_s_aload_n dX11_given_50 rfl) <|
  .cons (ix_s_sipush dX11_given_51 (by decide +kernel)) <|
  .cons (ix_s_bipush dX11_given_54 (by decide +kernel)) <|
  .cons (ix_s_iload_n dX11_given_56 rfl) <|
  .cons (ix_s_imul dX11_given_57) <|
  .cons (ix_s_iadd dX11_given_58) <|
  .cons (ix_s_iconst dX11_given_59 (by decide +kernel)) <|
  .cons (ix_s_iadd dX11_given_60) <|
  .cons (oc_X11_worked_s (ix_s_callv (t := 10) (k_X11_worked l) (by decide) (by decide) tw_1049 tw_12 tw_1046 tw_1048 tp_31 ⟨by decide, by decide, by decide +kernel⟩ (by decide) rfl rfl (fun _ => ⟨_, _, rfl, rfl⟩) dX11_given_61)) <|
  .cons (ix_s_goto dX11_given_64 (by decide)) <|
  .cons (ix_s_iload dX11_given_67) <|
  .cons (ix_s_iconst dX11_given_69 (by decide +kernel)) <|
  .cons (ix_s_bipush dX11_given_70 (by decide +kernel)) <|
  .cons (oc_X11_held_s (ix_s_calls (k_X11_held l) (by decide) (by decide) tw_1055 tw_12 tw_1053 tw_1054 ⟨by decide, by decide, by decide +kernel⟩ (fun _ => rfl) dX11_given_72)) <|
  .cons (ix_s_iret dX11_given_75 rfl) <| .nil
theorem e_X11_given_0 (Q : ix_R → Prop) (ls : ix_L) (st : List ix_V) (μ : ix_M) : ix_Ev o_X11_given Q (0, ls, st, μ) = ix_aload 0 1 (ix_Ev o_X11_given Q) Q ls st μ := ix_Ev.eq (a_X11_given launch0) rfl ls st μ
theorem e_X11_given_1 (Q : ix_R → Prop) (ls : ix_L) (st : List ix_V) (μ : ix_M) : ix_Ev o_X11_given Q (1, ls, st, μ) = ix_getr 10 20 (fun _ => 119) 4 (ix_Ev o_X11_given Q) Q ls st μ := ix_Ev.eq (a_X11_given launch0) rfl ls st μ
theorem e_X11_given_4 (Q : ix_R → Prop) (ls : ix_L) (st : List ix_V) (μ : ix_M) : ix_Ev o_X11_given Q (4, ls, st, μ) = ix_push (vi 0) 5 (ix_Ev o_X11_given Q) Q ls st μ := ix_Ev.eq (a_X11_given launch0) rfl ls st μ
theorem e_X11_given_5 (Q : ix_R → Prop) (ls : ix_L) (st : List ix_V) (μ : ix_M) : ix_Ev o_X11_given Q (5, ls, st, μ) = ix_iload 2 6 (ix_Ev o_X11_given Q) Q ls st μ := ix_Ev.eq (a_X11_given launch0) rfl ls st μ
theorem e_X11_given_6 (Q : ix_R → Prop) (ls : ix_L) (st : List ix_V) (μ : ix_M) : ix_Ev o_X11_given Q (6, ls, st, μ) = ix_iast 7 (ix_Ev o_X11_given Q) Q ls st μ := ix_Ev.eq (a_X11_given launch0) rfl ls st μ
theorem e_X11_given_7 (Q : ix_R → Prop) (ls : ix_L) (st : List ix_V) (μ : ix_M) : ix_Ev o_X11_given Q (7, ls, st, μ) = ix_aload 0 8 (ix_Ev o_X11_given Q) Q ls st μ := ix_Ev.eq (a_X11_given launch0) rfl ls st μ
theorem e_X11_given_8 (Q : ix_R → Prop) (ls : ix_L) (st : List ix_V) (μ : ix_M) : ix_Ev o_X11_given Q (8, ls, st, μ) = ix_getr 10 20 (fun _ => 119) 11 (ix_Ev o_X11_given Q) Q ls st μ := ix_Ev.eq (a_X11_given launch0) rfl ls st μ
theorem e_X11_given_11 (Q : ix_R → Prop) (ls : ix_L) (st : List ix_V) (μ : ix_M) : ix_Ev o_X11_given Q (11, ls, st, μ) = ix_push (vi 1) 12 (ix_Ev o_X11_given Q) Q ls st μ := ix_Ev.eq (a_X11_given launch0) rfl ls st μ
theorem e_X11_given_12 (Q : ix_R → Prop) (ls : ix_L) (st : List ix_V) (μ : ix_M) : ix_Ev o_X11_given Q (12, ls, st, μ) = ix_iload 3 13 (ix_Ev o_X11_given Q) Q ls st μ := ix_Ev.eq (a_X11_given launch0) rfl ls st μ
theorem e_X11_given_13 (Q : ix_R → Prop) (ls : ix_L) (st : List ix_V) (μ : ix_M) : ix_Ev o_X11_given Q (13, ls, st, μ) = ix_iast 14 (ix_Ev o_X11_given Q) Q ls st μ := ix_Ev.eq (a_X11_given launch0) rfl ls st μ
theorem e_X11_given_14 (Q : ix_R → Prop) (ls : ix_L) (st : List ix_V) (μ : ix_M) : ix_Ev o_X11_given Q (14, ls, st, μ) = ix_aload 0 15 (ix_Ev o_X11_given Q) Q ls st μ := ix_Ev.eq (a_X11_given launch0) rfl ls st μ
theorem e_X11_given_15 (Q : ix_R → Prop) (ls : ix_L) (st : List ix_V) (μ : ix_M) : ix_Ev o_X11_given Q (15, ls, st, μ) = ix_getr 10 20 (fun _ => 119) 18 (ix_Ev o_X11_given Q) Q ls st μ := ix_Ev.eq (a_X11_given launch0) rfl ls st μ
theorem e_X11_given_18 (Q : ix_R → Prop) (ls : ix_L) (st : List ix_V) (μ : ix_M) : ix_Ev o_X11_given Q (18, ls, st, μ) = ix_push (vi 2) 19 (ix_Ev o_X11_given Q) Q ls st μ := ix_Ev.eq (a_X11_given launch0) rfl ls st μ
theorem e_X11_given_19 (Q : ix_R → Prop) (ls : ix_L) (st : List ix_V) (μ : ix_M) : ix_Ev o_X11_given Q (19, ls, st, μ) = ix_iload 4 21 (ix_Ev o_X11_given Q) Q ls st μ := ix_Ev.eq (a_X11_given launch0) rfl ls st μ
theorem e_X11_given_21 (Q : ix_R → Prop) (ls : ix_L) (st : List ix_V) (μ : ix_M) : ix_Ev o_X11_given Q (21, ls, st, μ) = ix_iast 22 (ix_Ev o_X11_given Q) Q ls st μ := ix_Ev.eq (a_X11_given launch0) rfl ls st μ
theorem e_X11_given_22 (Q : ix_R → Prop) (ls : ix_L) (st : List ix_V) (μ : ix_M) : ix_Ev o_X11_given Q (22, ls, st, μ) = ix_iload 1 23 (ix_Ev o_X11_given Q) Q ls st μ := ix_Ev.eq (a_X11_given launch0) rfl ls st μ
theorem e_X11_given_23 (Q : ix_R → Prop) (ls : ix_L) (st : List ix_V) (μ : ix_M) : ix_Ev o_X11_given Q (23, ls, st, μ) = ix_if (fun x => x = 0) 26 30 (ix_Ev o_X11_given Q) Q ls st μ := ix_Ev.eq (a_X11_given launch0) rfl ls st μ
theorem e_X11_given_26 (Q : ix_R → Prop) (ls : ix_L) (st : List ix_V) (μ : ix_M) : ix_Ev o_X11_given Q (26, ls, st, μ) = ix_iload 3 27 (ix_Ev o_X11_given Q) Q ls st μ := ix_Ev.eq (a_X11_given launch0) rfl ls st μ
theorem e_X11_given_27 (Q : ix_R → Prop) (ls : ix_L) (st : List ix_V) (μ : ix_M) : ix_Ev o_X11_given Q (27, ls, st, μ) = ix_goto 40 (ix_Ev o_X11_given Q) Q ls st μ := ix_Ev.eq (a_X11_given launch0) rfl ls st μ
theorem e_X11_given_30 (Q : ix_R → Prop) (ls : ix_L) (st : List ix_V) (μ : ix_M) : ix_Ev o_X11_given Q (30, ls, st, μ) = ix_iload 4 32 (ix_Ev o_X11_given Q) Q ls st μ := ix_Ev.eq (a_X11_given launch0) rfl ls st μ
theorem e_X11_given_32 (Q : ix_R → Prop) (ls : ix_L) (st : List ix_V) (μ : ix_M) : ix_Ev o_X11_given Q (32, ls, st, μ) = ix_if (fun x => x = 0) 39 35 (ix_Ev o_X11_given Q) Q ls st μ := ix_Ev.eq (a_X11_given launch0) rfl ls st μ
theorem e_X11_given_35 (Q : ix_R → Prop) (ls : ix_L) (st : List ix_V) (μ : ix_M) : ix_Ev o_X11_given Q (35, ls, st, μ) = ix_iload 2 36 (ix_Ev o_X11_given Q) Q ls st μ := ix_Ev.eq (a_X11_given launch0) rfl ls st μ
theorem e_X11_given_36 (Q : ix_R → Prop) (ls : ix_L) (st : List ix_V) (μ : ix_M) : ix_Ev o_X11_given Q (36, ls, st, μ) = ix_goto 40 (ix_Ev o_X11_given Q) Q ls st μ := ix_Ev.eq (a_X11_given launch0) rfl ls st μ
theorem e_X11_given_39 (Q : ix_R → Prop) (ls : ix_L) (st : List ix_V) (μ : ix_M) : ix_Ev o_X11_given Q (39, ls, st, μ) = ix_push (vi 0) 40 (ix_Ev o_X11_given Q) Q ls st μ := ix_Ev.eq (a_X11_given launch0) rfl ls st μ
theorem e_X11_given_40 (Q : ix_R → Prop) (ls : ix_L) (st : List ix_V) (μ : ix_M) : ix_Ev o_X11_given Q (40, ls, st, μ) = ix_istore 5 42 (ix_Ev o_X11_given Q) Q ls st μ := ix_Ev.eq (a_X11_given launch0) rfl ls st μ
theorem e_X11_given_42 (Q : ix_R → Prop) (ls : ix_L) (st : List ix_V) (μ : ix_M) : ix_Ev o_X11_given Q (42, ls, st, μ) = ix_aload 0 43 (ix_Ev o_X11_given Q) Q ls st μ := ix_Ev.eq (a_X11_given launch0) rfl ls st μ
theorem e_X11_given_43 (Q : ix_R → Prop) (ls : ix_L) (st : List ix_V) (μ : ix_M) : ix_Ev o_X11_given Q (43, ls, st, μ) = ix_iload 1 44 (ix_Ev o_X11_given Q) Q ls st μ := ix_Ev.eq (a_X11_given launch0) rfl ls st μ
theorem e_X11_given_44 (Q : ix_R → Prop) (ls : ix_L) (st : List ix_V) (μ : ix_M) : ix_Ev o_X11_given Q (44, ls, st, μ) = oc_X11_hasText 47 (ix_Ev o_X11_given Q) Q ls st μ := ix_Ev.eq (a_X11_given launch0) rfl ls st μ
theorem e_X11_given_47 (Q : ix_R → Prop) (ls : ix_L) (st : List ix_V) (μ : ix_M) : ix_Ev o_X11_given Q (47, ls, st, μ) = ix_if (fun x => x = 0) 67 50 (ix_Ev o_X11_given Q) Q ls st μ := ix_Ev.eq (a_X11_given launch0) rfl ls st μ
theorem e_X11_given_50 (Q : ix_R → Prop) (ls : ix_L) (st : List ix_V) (μ : ix_M) : ix_Ev o_X11_given Q (50, ls, st, μ) = ix_aload 0 51 (ix_Ev o_X11_given Q) Q ls st μ := ix_Ev.eq (a_X11_given launch0) rfl ls st μ
theorem e_X11_given_51 (Q : ix_R → Prop) (ls : ix_L) (st : List ix_V) (μ : ix_M) : ix_Ev o_X11_given Q (51, ls, st, μ) = ix_push (vi 152) 54 (ix_Ev o_X11_given Q) Q ls st μ := ix_Ev.eq (a_X11_given launch0) rfl ls st μ
theorem e_X11_given_54 (Q : ix_R → Prop) (ls : ix_L) (st : List ix_V) (μ : ix_M) : ix_Ev o_X11_given Q (54, ls, st, μ) = ix_push (vi 52) 56 (ix_Ev o_X11_given Q) Q ls st μ := ix_Ev.eq (a_X11_given launch0) rfl ls st μ
theorem e_X11_given_56 (Q : ix_R → Prop) (ls : ix_L) (st : List ix_V) (μ : ix_M) : ix_Ev o_X11_given Q (56, ls, st, μ) = ix_iload 1 57 (ix_Ev o_X11_given Q) Q ls st μ := ix_Ev.eq (a_X11_given launch0) rfl ls st μ
theorem e_X11_given_57 (Q : ix_R → Prop) (ls : ix_L) (st : List ix_V) (μ : ix_M) : ix_Ev o_X11_given Q (57, ls, st, μ) = ix_bin (fun x y => x * y) 58 (ix_Ev o_X11_given Q) Q ls st μ := ix_Ev.eq (a_X11_given launch0) rfl ls st μ
theorem e_X11_given_58 (Q : ix_R → Prop) (ls : ix_L) (st : List ix_V) (μ : ix_M) : ix_Ev o_X11_given Q (58, ls, st, μ) = ix_bin (fun x y => x + y) 59 (ix_Ev o_X11_given Q) Q ls st μ := ix_Ev.eq (a_X11_given launch0) rfl ls st μ
theorem e_X11_given_59 (Q : ix_R → Prop) (ls : ix_L) (st : List ix_V) (μ : ix_M) : ix_Ev o_X11_given Q (59, ls, st, μ) = ix_push (vi 1) 60 (ix_Ev o_X11_given Q) Q ls st μ := ix_Ev.eq (a_X11_given launch0) rfl ls st μ
theorem e_X11_given_60 (Q : ix_R → Prop) (ls : ix_L) (st : List ix_V) (μ : ix_M) : ix_Ev o_X11_given Q (60, ls, st, μ) = ix_bin (fun x y => x + y) 61 (ix_Ev o_X11_given Q) Q ls st μ := ix_Ev.eq (a_X11_given launch0) rfl ls st μ
theorem e_X11_given_61 (Q : ix_R → Prop) (ls : ix_L) (st : List ix_V) (μ : ix_M) : ix_Ev o_X11_given Q (61, ls, st, μ) = oc_X11_worked 64 (ix_Ev o_X11_given Q) Q ls st μ := ix_Ev.eq (a_X11_given launch0) rfl ls st μ
theorem e_X11_given_64 (Q : ix_R → Prop) (ls : ix_L) (st : List ix_V) (μ : ix_M) : ix_Ev o_X11_given Q (64, ls, st, μ) = ix_goto 69 (ix_Ev o_X11_given Q) Q ls st μ := ix_Ev.eq (a_X11_given launch0) rfl ls st μ
theorem e_X11_given_67 (Q : ix_R → Prop) (ls : ix_L) (st : List ix_V) (μ : ix_M) : ix_Ev o_X11_given Q (67, ls, st, μ) = ix_iload 5 69 (ix_Ev o_X11_given Q) Q ls st μ := ix_Ev.eq (a_X11_given launch0) rfl ls st μ
theorem e_X11_given_69 (Q : ix_R → Prop) (ls : ix_L) (st : List ix_V) (μ : ix_M) : ix_Ev o_X11_given Q (69, ls, st, μ) = ix_push (vi 0) 70 (ix_Ev o_X11_given Q) Q ls st μ := ix_Ev.eq (a_X11_given launch0) rfl ls st μ
theorem e_X11_given_70 (Q : ix_R → Prop) (ls : ix_L) (st : List ix_V) (μ : ix_M) : ix_Ev o_X11_given Q (70, ls, st, μ) = ix_push (vi 99) 72 (ix_Ev o_X11_given Q) Q ls st μ := ix_Ev.eq (a_X11_given launch0) rfl ls st μ
theorem e_X11_given_72 (Q : ix_R → Prop) (ls : ix_L) (st : List ix_V) (μ : ix_M) : ix_Ev o_X11_given Q (72, ls, st, μ) = oc_X11_held 75 (ix_Ev o_X11_given Q) Q ls st μ := ix_Ev.eq (a_X11_given launch0) rfl ls st μ
theorem e_X11_given_75 (Q : ix_R → Prop) (ls : ix_L) (st : List ix_V) (μ : ix_M) : ix_Ev o_X11_given Q (75, ls, st, μ) = ix_iret (ix_Ev o_X11_given Q) Q ls st μ := ix_Ev.eq (a_X11_given launch0) rfl ls st μ
theorem r_X11_given (o : Nat) (u : Int32) (a : Int32) (b : Int32) (c : Int32) (μ : ix_M) (Q : ix_R → Prop) (ok_o : o < ix_N ∧ ix_tag o = 10) (hT : T_X11_given (o, u, a, b, c) μ Q) : ix_Ev o_X11_given Q (0, [some (vr 10 o), some (vi u), some (vi a), some (vi b), some (vi c), none], [], μ) := by
  obtain rfl := ok_10 o ok_o.1 ok_o.2
  obtain ⟨U, ds, rfl, hU, hM, hQ⟩ := hT
  have hb : 152 + 52 * nI U = nI (152 + 52 * U) := by
    rw [fa_lit 52, fa_lit 152, show nI 52 * nI U = nI (52 * U) from (Int32.ofNat_mul 52 U).symm, nI_add]
  have hc1 : (nI (152 + 52 * U)).toNatClampNeg = 152 + 52 * U := nI_clamp (by omega)
  have hin : vp_in (nI (152 + 52 * U)) 256 := vp_in_nI (by omega) (by decide)
  have e113 : ix_up (ix_up (ix_up μ 119 0 a) 119 1 b) 119 2 c 113 = μ 113 := by rw [ix_up_ne (by decide), ix_up_ne (by decide), ix_up_ne (by decide)]
  have e0 : ix_up (ix_up (ix_up μ 119 0 a) 119 1 b) 119 2 c 119 0 = a := by simp [ix_up_ap]
  have e1 : ix_up (ix_up (ix_up μ 119 0 a) 119 1 b) 119 2 c 119 1 = b := by simp [ix_up_ap]
  have e2 : ix_up (ix_up (ix_up μ 119 0 a) 119 1 b) 119 2 c 119 2 = c := by simp [ix_up_ap]
  have hF : Fx [119, 120] μ (ix_up (ix_up (ix_up μ 119 0 a) 119 1 b) 119 2 c) := ((Fx.rf.up (by simp)).up (by simp)).up (by simp)
  have hm := hM.1.1
  have hm2 := hM.1.2.1
  have key : ∀ p : Int32, (∀ ds, ds ≠ [] → lawU U ds a b c = mHeld ((tEval a b c ds []).headD 0)) → lawU U [] a b c = mHeld p → vp_in (152 + 52 * nI U) 256 ∧ (¬ 0 < ix_up (ix_up (ix_up μ 119 0 a) 119 1 b) 119 2 c 113 (152 + 52 * nI U).toNatClampNeg → Q (some (Sum.inl (hld p 0 99)), ix_up (ix_up (ix_up μ 119 0 a) 119 1 b) 119 2 c)) ∧ (0 < ix_up (ix_up (ix_up μ 119 0 a) 119 1 b) 119 2 c 113 (152 + 52 * nI U).toNatClampNeg → ∃ t ds, 152 + 52 * nI U + 1 = nI (t + 1) ∧ t ≤ 204 ∧ TxtM (ix_up (ix_up (ix_up μ 119 0 a) 119 1 b) 119 2 c 113) t ds ∧ tWf ds 0 1 ∧ ∀ (μ' : ix_M), Fx [120] (ix_up (ix_up (ix_up μ 119 0 a) 119 1 b) 119 2 c) μ' → Q (some (Sum.inl (hld ((tEval (ix_up (ix_up (ix_up μ 119 0 a) 119 1 b) 119 2 c 119 0) (ix_up (ix_up (ix_up μ 119 0 a) 119 1 b) 119 2 c 119 1) (ix_up (ix_up (ix_up μ 119 0 a) 119 1 b) 119 2 c 119 2) ds []).headD 0) 0 99)), μ')) := by
    intro p hp1 hp2
    rw [hb, hc1, e113, e0, e1, e2, hm]
    refine ⟨hin, fun z => ?_, fun z => ⟨152 + 52 * U, ds, nI_1 _, by omega, hM, ?_, fun μ' h => ?_⟩⟩
    · have : ds = [] := by
        rcases ds with _ | ⟨d, ds⟩
        · rfl
        · exact absurd (nI_lt (a := 0) (by simp) (by omega)) z
      subst this
      have := hQ _ hF
      rw [hp2] at this
      exact this
    · rcases hM.2 with rfl | h
      · exact absurd z (by decide)
      · exact h
    · have hne : ds ≠ [] := by
        rintro rfl
        exact absurd z (by decide)
      have := hQ μ' (hF.tr (h.mono (by simp)))
      rw [hp1 ds hne] at this
      exact this
  simp (decide := true) only [e_X11_given_0, e_X11_given_1, e_X11_given_4, e_X11_given_5, e_X11_given_6, e_X11_given_7, e_X11_given_8, e_X11_given_11, e_X11_given_12, e_X11_given_13, e_X11_given_14, e_X11_given_15, e_X11_given_18, e_X11_given_19, e_X11_given_21, e_X11_given_22, e_X11_given_23, e_X11_given_26, e_X11_given_27, e_X11_given_30, e_X11_given_32, e_X11_given_35, e_X11_given_36, e_X11_given_39, e_X11_given_40, e_X11_given_42, e_X11_given_43, e_X11_given_44, e_X11_given_47, e_X11_given_50, e_X11_given_51, e_X11_given_54, e_X11_given_56, e_X11_given_57, e_X11_given_58, e_X11_given_59, e_X11_given_60, e_X11_given_61, e_X11_given_64, e_X11_given_67, e_X11_given_69, e_X11_given_70, e_X11_given_72, e_X11_given_75, vi, vl, vr, oc_X11_hasText, T_X11_hasText, oc_X11_held, T_X11_held, oc_X11_worked, T_X11_worked, ix_push, ix_iload, ix_lload, ix_aload, ix_istore, ix_astore, ix_iinc, ix_bin, ix_div, ix_un, ix_i2l, ix_l2i, ix_lbin, ix_lsh, ix_lcmp, ix_dup, ix_dup2, ix_pop, ix_if, ix_cmp, ix_goto, ix_switch, ix_sw, ix_iret, ix_zret, ix_vret, ix_aret, ix_geti, ix_getr, ix_puti, ix_putz, ix_puts, ix_gets, ix_iald, ix_iast, ix_alen, ix_aald, ix_gval, ix_gcod, ix_bald, ix_blen, ix_sald, ix_nret, ix_math2, ix_math1, ix_acopy, ml_113, ml_114, ml_115, ml_116, ml_118, ml_119, ml_120, ml_121, ml_122, ml_123, ml_124, ml_125, ml_126, mv_0, mv_1, mv_2, mv_3, mv_4, mv_5, mB_or, Nat.add_assoc, Int32.reduceLT, Int32.reduceLE, Int32.reduceToNatClampNeg, Int32.reduceSub, Int32.reduceAdd, Nat.reduceAdd, Nat.reduceLeDiff, true_or, or_true, or_false, false_or, not_false_eq_true, not_true_eq_false, false_implies, true_implies, implies_true, and_self, mB_0, mB_01, Classical.not_not, Nat.zero_le, List.getElem?_cons_zero, List.getElem?_cons_succ, List.set_cons_zero, List.set_cons_succ, ix_nl, ix_cs, true_and, and_true, Option.toList_some, Option.toList_none, List.cons_append, List.nil_append]
  have hU0 : nI U = 0 ↔ U = 0 := nI_eq (b := 0) (by omega) (by decide)
  refine ⟨mv4.1, mv4.2.1, mv4.2.2, fun z => key b (fun ds hne => ?_) ?_, fun z => ⟨fun z0 => key 0 (fun ds hne => ?_) ?_, fun z0 => key a (fun ds hne => ?_) ?_⟩⟩
  · rw [lawU, if_pos (hU0.mp z), lawS, if_neg hne]
  · rw [lawU, if_pos (hU0.mp z), lawS, if_pos rfl]
  · rw [lawU, if_neg (fun y => z (hU0.mpr y)), lawL, if_neg hne]
  · rw [lawU, if_neg (fun y => z (hU0.mpr y)), lawL, if_pos rfl, if_pos z0]
  · rw [lawU, if_neg (fun y => z (hU0.mpr y)), lawL, if_neg hne]
  · rw [lawU, if_neg (fun y => z (hU0.mpr y)), lawL, if_pos rfl, if_neg z0]
theorem k_X11_given (l : Launch) : ix_Ct l yX11_given cX11_given 6 (some .int) 3 sh_X11_given T_X11_given := ix_ct (a_X11_given l) rfl (by decide) (fun _ => Nat.le_of_ble_eq_true rfl) (fun x μ Q hok hT => r_X11_given x.1 x.2.1 x.2.2.1 x.2.2.2.1 x.2.2.2.2 μ Q (ix_ok_at (hok (vr 10 x.1) (by simp [sh_X11_given])) (by decide) (by decide)) hT)
