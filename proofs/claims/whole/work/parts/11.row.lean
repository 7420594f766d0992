/-! ===== Row, Sheet, small statics ===== -/
def RowOk (μ : ix_M) (r : Nat) : Prop := 0 ≤ (μ r 1).toInt ∧ (μ r 1).toInt ≤ ix_len (r + 1)
theorem RowOk.in {μ : ix_M} {r : Nat} (h : RowOk μ r) {i : Int32} (h1 : ¬ i < 0) (h2 : ¬ μ r 1 ≤ i) : vp_in i (ix_len (r + 1)) := by
  rw [fa_lt] at h1
  rw [fa_le] at h2
  have := h.1
  have := h.2
  have e0 : (0 : Int32).toInt = 0 := rfl
  exact vp_inI (by omega) (by omega)
def T_X4_has : Nat × Int32 → ix_M → (ix_R → Prop) → Prop := fun (r, i) μ Q => Q (some (vi (mB (¬ i < 0 ∧ ¬ μ r 1 ≤ i))), μ)
def sh_X4_has (x : Nat × Int32) : List ix_V := [vr 3 x.1, vi x.2]
theorem mo_X4_has (x : Nat × Int32) (μ : ix_M) (Q Q' : ix_R → Prop) (h : ∀ r, Q r → Q' r) (hT : T_X4_has x μ Q) : T_X4_has x μ Q' := by
  obtain ⟨a0, a1⟩ := x
  first | exact h _ hT | exact ⟨hT.1, h _ hT.2⟩ | exact fun r hr => h _ (hT r hr) | exact ⟨hT.1, fun r hr => h _ (hT.2 r hr)⟩ | exact ⟨hT.1, hT.2.1, fun r hr => h _ (hT.2.2 r hr)⟩
def oc_X4_has (n : Nat) : ix_Op := fun k _ ls st μ => match st with
  | .inl a1 :: .inr (.inr (t0, a0)) :: r => t0 = 3 ∧ ix_cs r ≤ 8 ∧ T_X4_has (a0, a1) μ (fun q => k (n, ls, q.1.toList ++ r, q.2))
  | _ => False
theorem oc_X4_has_s {l : Launch} {cc : ByteArray} {nL : Nat} {own : String} {d : Nat} {rt : Option FieldType} {pc n : Nat} (h : ix_S l cc nL own d rt pc (ix_call 2 sh_X4_has T_X4_has n)) : ix_S l cc nL own d rt pc (oc_X4_has n) := by
  refine h.by (fun k Q ls st μ h => ?_) (fun k k' Q ls st μ hk h => ?_)
  · unfold oc_X4_has at h
    split at h
    · rename_i a1 t0 a0 r
      obtain ⟨rfl, h1, h2⟩ := h
      exact ⟨h1, (a0, a1), rfl, _, h2, fun r h => h⟩
    · exact h.elim
  · unfold oc_X4_has at h ⊢
    split at h
    · obtain ⟨rfl, h1, h2⟩ := h
      exact ⟨rfl, h1, mo_X4_has _ _ _ _ (fun q hq => hk _ hq) h2⟩
    · exact h.elim
def o_X4_has : List (Nat × ix_Op) := [
  (0, ix_iload 1 1),
  (1, ix_if (fun x => x < 0) 16 4),
  (4, ix_iload 1 5),
  (5, ix_aload 0 6),
  (6, ix_geti 3 1 9),
  (9, ix_cmp (fun x y => y ≤ x) 16 12),
  (12, ix_push (vi 1) 13),
  (13, ix_goto 17),
  (16, ix_push (vi 0) 17),
  (17, ix_zret)]
set_option maxRecDepth 20000 in
theorem a_X4_has (l : Launch) : ix_AllS l cX4_has 2 RX4 1 (some .boolean) o_X4_has :=
  .cons (ix_s_iload_n dX4_has_0 rfl) <|
  .cons (ix_s_if_lt dX4_has_1 (by decide)) <|
  .cons (ix_s_iload_n dX4_has_4 rfl) <|
  .cons (ix_s_aload_n dX4_has_5 rfl) <|
  .cons (ix_s_geti (j := 1) tu_X4 rfl (by decide) (by decide) tw_111 rfl ts_3_1_i dX4_has_6) <|
  .cons (ix_s_cmp_ge dX4_has_9 (by decide)) <|
  .cons (ix_s_iconst dX4_has_12 (by decide +kernel)) <|
  .cons (ix_s_goto dX4_has_13 (by decide)) <|
  .cons (ix_s_iconst dX4_has_16 (by decide +kernel)) <|
  .cons (ix_s_zret dX4_has_17 rfl) <| .nil
theorem e_X4_has_0 (Q : ix_R → Prop) (ls : ix_L) (st : List ix_V) (μ : ix_M) : ix_Ev o_X4_has Q (0, ls, st, μ) = ix_iload 1 1 (ix_Ev o_X4_has Q) Q ls st μ := ix_Ev.eq (a_X4_has launch0) rfl ls st μ
theorem e_X4_has_1 (Q : ix_R → Prop) (ls : ix_L) (st : List ix_V) (μ : ix_M) : ix_Ev o_X4_has Q (1, ls, st, μ) = ix_if (fun x => x < 0) 16 4 (ix_Ev o_X4_has Q) Q ls st μ := ix_Ev.eq (a_X4_has launch0) rfl ls st μ
theorem e_X4_has_4 (Q : ix_R → Prop) (ls : ix_L) (st : List ix_V) (μ : ix_M) : ix_Ev o_X4_has Q (4, ls, st, μ) = ix_iload 1 5 (ix_Ev o_X4_has Q) Q ls st μ := ix_Ev.eq (a_X4_has launch0) rfl ls st μ
theorem e_X4_has_5 (Q : ix_R → Prop) (ls : ix_L) (st : List ix_V) (μ : ix_M) : ix_Ev o_X4_has Q (5, ls, st, μ) = ix_aload 0 6 (ix_Ev o_X4_has Q) Q ls st μ := ix_Ev.eq (a_X4_has launch0) rfl ls st μ
theorem e_X4_has_6 (Q : ix_R → Prop) (ls : ix_L) (st : List ix_V) (μ : ix_M) : ix_Ev o_X4_has Q (6, ls, st, μ) = ix_geti 3 1 9 (ix_Ev o_X4_has Q) Q ls st μ := ix_Ev.eq (a_X4_has launch0) rfl ls st μ
theorem e_X4_has_9 (Q : ix_R → Prop) (ls : ix_L) (st : List ix_V) (μ : ix_M) : ix_Ev o_X4_has Q (9, ls, st, μ) = ix_cmp (fun x y => y ≤ x) 16 12 (ix_Ev o_X4_has Q) Q ls st μ := ix_Ev.eq (a_X4_has launch0) rfl ls st μ
theorem e_X4_has_12 (Q : ix_R → Prop) (ls : ix_L) (st : List ix_V) (μ : ix_M) : ix_Ev o_X4_has Q (12, ls, st, μ) = ix_push (vi 1) 13 (ix_Ev o_X4_has Q) Q ls st μ := ix_Ev.eq (a_X4_has launch0) rfl ls st μ
theorem e_X4_has_13 (Q : ix_R → Prop) (ls : ix_L) (st : List ix_V) (μ : ix_M) : ix_Ev o_X4_has Q (13, ls, st, μ) = ix_goto 17 (ix_Ev o_X4_has Q) Q ls st μ := ix_Ev.eq (a_X4_has launch0) rfl ls st μ
theorem e_X4_has_16 (Q : ix_R → Prop) (ls : ix_L) (st : List ix_V) (μ : ix_M) : ix_Ev o_X4_has Q (16, ls, st, μ) = ix_push (vi 0) 17 (ix_Ev o_X4_has Q) Q ls st μ := ix_Ev.eq (a_X4_has launch0) rfl ls st μ
theorem e_X4_has_17 (Q : ix_R → Prop) (ls : ix_L) (st : List ix_V) (μ : ix_M) : ix_Ev o_X4_has Q (17, ls, st, μ) = ix_zret (ix_Ev o_X4_has Q) Q ls st μ := ix_Ev.eq (a_X4_has launch0) rfl ls st μ
theorem r_X4_has (r : Nat) (i : Int32) (μ : ix_M) (Q : ix_R → Prop) (ok_r : r < ix_N ∧ ix_tag r = 3) (hT : T_X4_has (r, i) μ Q) : ix_Ev o_X4_has Q (0, [some (vr 3 r), some (vi i)], [], μ) := by
  simp (decide := true) only [e_X4_has_0, e_X4_has_1, e_X4_has_4, e_X4_has_5, e_X4_has_6, e_X4_has_9, e_X4_has_12, e_X4_has_13, e_X4_has_16, e_X4_has_17, vi, vl, vr, ix_push, ix_iload, ix_lload, ix_aload, ix_istore, ix_astore, ix_iinc, ix_bin, ix_div, ix_un, ix_i2l, ix_l2i, ix_lbin, ix_lsh, ix_lcmp, ix_dup, ix_dup2, ix_pop, ix_if, ix_cmp, ix_goto, ix_switch, ix_sw, ix_iret, ix_zret, ix_vret, ix_aret, ix_geti, ix_getr, ix_puti, ix_putz, ix_puts, ix_gets, ix_iald, ix_iast, ix_alen, ix_aald, ix_gval, ix_gcod, ix_bald, ix_blen, ix_sald, ix_nret, ix_math2, ix_math1, ix_acopy, Nat.add_assoc, Int32.reduceLT, Int32.reduceLE, Int32.reduceToNatClampNeg, Int32.reduceSub, Int32.reduceAdd, Nat.reduceAdd, Nat.reduceLeDiff, true_or, or_true, or_false, false_or, not_false_eq_true, not_true_eq_false, false_implies, true_implies, implies_true, and_self, mB_0, mB_01, Classical.not_not, Nat.zero_le, List.getElem?_cons_zero, List.getElem?_cons_succ, List.set_cons_zero, List.set_cons_succ, ix_nl, ix_cs, true_and, and_true, Option.toList_some, Option.toList_none, List.cons_append, List.nil_append]
  simp only [T_X4_has, mB, vi, vl, vr] at hT
  repeat' (first | refine And.intro ?_ ?_ | intro _)
  all_goals (first | exact hT | (simp only [*, if_true, if_false, not_true_eq_false, not_false_eq_true, and_true, true_and, and_false, false_and, or_true, true_or, or_false, false_or, and_self, or_self] at hT; exact hT) | (simp only [← Int32.not_lt, Classical.not_not] at *; simp only [*, if_true, if_false, not_true_eq_false, not_false_eq_true, and_true, true_and, and_false, false_and, or_true, true_or, or_false, false_or, and_self, or_self] at hT; exact hT) | (simp_all; done))
theorem k_X4_has (l : Launch) : ix_Ct l yX4_has cX4_has 2 (some .boolean) 1 sh_X4_has T_X4_has := ix_ct (a_X4_has l) rfl (by decide) (fun _ => Nat.le_of_ble_eq_true rfl) (fun x μ Q hok hT => r_X4_has x.1 x.2 μ Q (ix_ok_at (hok (vr 3 x.1) (by simp [sh_X4_has])) (by decide) (by decide)) hT)
def T_X4_get : Nat × Int32 → ix_M → (ix_R → Prop) → Prop := fun (r, i) μ Q => RowOk μ r ∧ Q (some (vi (if ¬ i < 0 ∧ ¬ μ r 1 ≤ i then μ (r + 1) i.toNatClampNeg else 0)), μ)
def sh_X4_get (x : Nat × Int32) : List ix_V := [vr 3 x.1, vi x.2]
theorem mo_X4_get (x : Nat × Int32) (μ : ix_M) (Q Q' : ix_R → Prop) (h : ∀ r, Q r → Q' r) (hT : T_X4_get x μ Q) : T_X4_get x μ Q' := by
  obtain ⟨a0, a1⟩ := x
  first | exact h _ hT | exact ⟨hT.1, h _ hT.2⟩ | exact fun r hr => h _ (hT r hr) | exact ⟨hT.1, fun r hr => h _ (hT.2 r hr)⟩ | exact ⟨hT.1, hT.2.1, fun r hr => h _ (hT.2.2 r hr)⟩
def oc_X4_get (n : Nat) : ix_Op := fun k _ ls st μ => match st with
  | .inl a1 :: .inr (.inr (t0, a0)) :: r => t0 = 3 ∧ ix_cs r ≤ 8 ∧ T_X4_get (a0, a1) μ (fun q => k (n, ls, q.1.toList ++ r, q.2))
  | _ => False
theorem oc_X4_get_s {l : Launch} {cc : ByteArray} {nL : Nat} {own : String} {d : Nat} {rt : Option FieldType} {pc n : Nat} (h : ix_S l cc nL own d rt pc (ix_call 2 sh_X4_get T_X4_get n)) : ix_S l cc nL own d rt pc (oc_X4_get n) := by
  refine h.by (fun k Q ls st μ h => ?_) (fun k k' Q ls st μ hk h => ?_)
  · unfold oc_X4_get at h
    split at h
    · rename_i a1 t0 a0 r
      obtain ⟨rfl, h1, h2⟩ := h
      exact ⟨h1, (a0, a1), rfl, _, h2, fun r h => h⟩
    · exact h.elim
  · unfold oc_X4_get at h ⊢
    split at h
    · obtain ⟨rfl, h1, h2⟩ := h
      exact ⟨rfl, h1, mo_X4_get _ _ _ _ (fun q hq => hk _ hq) h2⟩
    · exact h.elim
def o_X4_get : List (Nat × ix_Op) := [
  (0, ix_aload 0 1),
  (1, ix_iload 1 2),
  (2, oc_X4_has 5),
  (5, ix_if (fun x => x = 0) 17 8),
  (8, ix_aload 0 9),
  (9, ix_getr 3 20 (fun k => k + 1) 12),
  (12, ix_iload 1 13),
  (13, ix_iald 14),
  (14, ix_goto 18),
  (17, ix_push (vi 0) 18),
  (18, ix_iret)]
set_option maxRecDepth 20000 in
theorem a_X4_get (l : Launch) : ix_AllS l cX4_get 2 RX4 2 (some .int) o_X4_get :=
  .cons (ix_s_aload_n dX4_get_0 rfl) <|
  .cons (ix_s_iload_n dX4_get_1 rfl) <|
  .cons (oc_X4_has_s (ix_s_callv (t := 3) (k_X4_has l) (by decide) (by decide) tw_474 tw_6 tw_748 tw_472 tw_473 ⟨by decide, by decide, by decide +kernel⟩ (by decide) rfl rfl (fun _ => ⟨_, _, rfl, rfl⟩) dX4_get_2)) <|
  .cons (ix_s_if_eq dX4_get_5 (by decide)) <|
  .cons (ix_s_aload_n dX4_get_8 rfl) <|
  .cons (ix_s_getr (j := 0) tu_X4 rfl (by decide) (by decide) tw_105 rfl ts_3_0_r dX4_get_9) <|
  .cons (ix_s_iload_n dX4_get_12 rfl) <|
  .cons (ix_s_iald dX4_get_13) <|
  .cons (ix_s_goto dX4_get_14 (by decide)) <|
  .cons (ix_s_iconst dX4_get_17 (by decide +kernel)) <|
  .cons (ix_s_iret dX4_get_18 rfl) <| .nil
theorem e_X4_get_0 (Q : ix_R → Prop) (ls : ix_L) (st : List ix_V) (μ : ix_M) : ix_Ev o_X4_get Q (0, ls, st, μ) = ix_aload 0 1 (ix_Ev o_X4_get Q) Q ls st μ := ix_Ev.eq (a_X4_get launch0) rfl ls st μ
theorem e_X4_get_1 (Q : ix_R → Prop) (ls : ix_L) (st : List ix_V) (μ : ix_M) : ix_Ev o_X4_get Q (1, ls, st, μ) = ix_iload 1 2 (ix_Ev o_X4_get Q) Q ls st μ := ix_Ev.eq (a_X4_get launch0) rfl ls st μ
theorem e_X4_get_2 (Q : ix_R → Prop) (ls : ix_L) (st : List ix_V) (μ : ix_M) : ix_Ev o_X4_get Q (2, ls, st, μ) = oc_X4_has 5 (ix_Ev o_X4_get Q) Q ls st μ := ix_Ev.eq (a_X4_get launch0) rfl ls st μ
theorem e_X4_get_5 (Q : ix_R → Prop) (ls : ix_L) (st : List ix_V) (μ : ix_M) : ix_Ev o_X4_get Q (5, ls, st, μ) = ix_if (fun x => x = 0) 17 8 (ix_Ev o_X4_get Q) Q ls st μ := ix_Ev.eq (a_X4_get launch0) rfl ls st μ
theorem e_X4_get_8 (Q : ix_R → Prop) (ls : ix_L) (st : List ix_V) (μ : ix_M) : ix_Ev o_X4_get Q (8, ls, st, μ) = ix_aload 0 9 (ix_Ev o_X4_get Q) Q ls st μ := ix_Ev.eq (a_X4_get launch0) rfl ls st μ
theorem e_X4_get_9 (Q : ix_R → Prop) (ls : ix_L) (st : List ix_V) (μ : ix_M) : ix_Ev o_X4_get Q (9, ls, st, μ) = ix_getr 3 20 (fun k => k + 1) 12 (ix_Ev o_X4_get Q) Q ls st μ := ix_Ev.eq (a_X4_get launch0) rfl ls st μ
theorem e_X4_get_12 (Q : ix_R → Prop) (ls : ix_L) (st : List ix_V) (μ : ix_M) : ix_Ev o_X4_get Q (12, ls, st, μ) = ix_iload 1 13 (ix_Ev o_X4_get Q) Q ls st μ := ix_Ev.eq (a_X4_get launch0) rfl ls st μ
theorem e_X4_get_13 (Q : ix_R → Prop) (ls : ix_L) (st : List ix_V) (μ : ix_M) : ix_Ev o_X4_get Q (13, ls, st, μ) = ix_iald 14 (ix_Ev o_X4_get Q) Q ls st μ := ix_Ev.eq (a_X4_get launch0) rfl ls st μ
theorem e_X4_get_14 (Q : ix_R → Prop) (ls : ix_L) (st : List ix_V) (μ : ix_M) : ix_Ev o_X4_get Q (14, ls, st, μ) = ix_goto 18 (ix_Ev o_X4_get Q) Q ls st μ := ix_Ev.eq (a_X4_get launch0) rfl ls st μ
theorem e_X4_get_17 (Q : ix_R → Prop) (ls : ix_L) (st : List ix_V) (μ : ix_M) : ix_Ev o_X4_get Q (17, ls, st, μ) = ix_push (vi 0) 18 (ix_Ev o_X4_get Q) Q ls st μ := ix_Ev.eq (a_X4_get launch0) rfl ls st μ
theorem e_X4_get_18 (Q : ix_R → Prop) (ls : ix_L) (st : List ix_V) (μ : ix_M) : ix_Ev o_X4_get Q (18, ls, st, μ) = ix_iret (ix_Ev o_X4_get Q) Q ls st μ := ix_Ev.eq (a_X4_get launch0) rfl ls st μ
theorem r_X4_get (r : Nat) (i : Int32) (μ : ix_M) (Q : ix_R → Prop) (ok_r : r < ix_N ∧ ix_tag r = 3) (hT : T_X4_get (r, i) μ Q) : ix_Ev o_X4_get Q (0, [some (vr 3 r), some (vi i)], [], μ) := by
  simp (decide := true) only [e_X4_get_0, e_X4_get_1, e_X4_get_2, e_X4_get_5, e_X4_get_8, e_X4_get_9, e_X4_get_12, e_X4_get_13, e_X4_get_14, e_X4_get_17, e_X4_get_18, vi, vl, vr, oc_X4_has, T_X4_has, ix_push, ix_iload, ix_lload, ix_aload, ix_istore, ix_astore, ix_iinc, ix_bin, ix_div, ix_un, ix_i2l, ix_l2i, ix_lbin, ix_lsh, ix_lcmp, ix_dup, ix_dup2, ix_pop, ix_if, ix_cmp, ix_goto, ix_switch, ix_sw, ix_iret, ix_zret, ix_vret, ix_aret, ix_geti, ix_getr, ix_puti, ix_putz, ix_puts, ix_gets, ix_iald, ix_iast, ix_alen, ix_aald, ix_gval, ix_gcod, ix_bald, ix_blen, ix_sald, ix_nret, ix_math2, ix_math1, ix_acopy, Nat.add_assoc, Int32.reduceLT, Int32.reduceLE, Int32.reduceToNatClampNeg, Int32.reduceSub, Int32.reduceAdd, Nat.reduceAdd, Nat.reduceLeDiff, true_or, or_true, or_false, false_or, not_false_eq_true, not_true_eq_false, false_implies, true_implies, implies_true, and_self, mB_0, mB_01, Classical.not_not, Nat.zero_le, List.getElem?_cons_zero, List.getElem?_cons_succ, List.set_cons_zero, List.set_cons_succ, ix_nl, ix_cs, true_and, and_true, Option.toList_some, Option.toList_none, List.cons_append, List.nil_append]
  obtain ⟨h1, hT⟩ := hT
  refine ⟨fun c => ?_, fun c => ⟨h1.in c.1 c.2, ?_⟩⟩
  · simpa only [if_neg c] using hT
  · simpa only [if_pos c] using hT
theorem k_X4_get (l : Launch) : ix_Ct l yX4_get cX4_get 2 (some .int) 2 sh_X4_get T_X4_get := ix_ct (a_X4_get l) rfl (by decide) (fun _ => Nat.le_of_ble_eq_true rfl) (fun x μ Q hok hT => r_X4_get x.1 x.2 μ Q (ix_ok_at (hok (vr 3 x.1) (by simp [sh_X4_get])) (by decide) (by decide)) hT)
def T_X4_holds : Nat × Int32 × Int32 → ix_M → (ix_R → Prop) → Prop := fun (r, i, n) μ Q => Q (some (vi (mB (¬ i < 0 ∧ ¬ n < 0 ∧ ¬ μ r 1 < i ∧ ¬ μ r 1 - i < n))), μ)
def sh_X4_holds (x : Nat × Int32 × Int32) : List ix_V := [vr 3 x.1, vi x.2.1, vi x.2.2]
theorem mo_X4_holds (x : Nat × Int32 × Int32) (μ : ix_M) (Q Q' : ix_R → Prop) (h : ∀ r, Q r → Q' r) (hT : T_X4_holds x μ Q) : T_X4_holds x μ Q' := by
  obtain ⟨a0, a1, a2⟩ := x
  first | exact h _ hT | exact ⟨hT.1, h _ hT.2⟩ | exact fun r hr => h _ (hT r hr) | exact ⟨hT.1, fun r hr => h _ (hT.2 r hr)⟩ | exact ⟨hT.1, hT.2.1, fun r hr => h _ (hT.2.2 r hr)⟩
def oc_X4_holds (n : Nat) : ix_Op := fun k _ ls st μ => match st with
  | .inl a2 :: .inl a1 :: .inr (.inr (t0, a0)) :: r => t0 = 3 ∧ ix_cs r ≤ 8 ∧ T_X4_holds (a0, a1, a2) μ (fun q => k (n, ls, q.1.toList ++ r, q.2))
  | _ => False
theorem oc_X4_holds_s {l : Launch} {cc : ByteArray} {nL : Nat} {own : String} {d : Nat} {rt : Option FieldType} {pc n : Nat} (h : ix_S l cc nL own d rt pc (ix_call 3 sh_X4_holds T_X4_holds n)) : ix_S l cc nL own d rt pc (oc_X4_holds n) := by
  refine h.by (fun k Q ls st μ h => ?_) (fun k k' Q ls st μ hk h => ?_)
  · unfold oc_X4_holds at h
    split at h
    · rename_i a2 a1 t0 a0 r
      obtain ⟨rfl, h1, h2⟩ := h
      exact ⟨h1, (a0, a1, a2), rfl, _, h2, fun r h => h⟩
    · exact h.elim
  · unfold oc_X4_holds at h ⊢
    split at h
    · obtain ⟨rfl, h1, h2⟩ := h
      exact ⟨rfl, h1, mo_X4_holds _ _ _ _ (fun q hq => hk _ hq) h2⟩
    · exact h.elim
def o_X4_holds : List (Nat × ix_Op) := [
  (0, ix_iload 1 1),
  (1, ix_if (fun x => x < 0) 30 4),
  (4, ix_iload 2 5),
  (5, ix_if (fun x => x < 0) 30 8),
  (8, ix_iload 1 9),
  (9, ix_aload 0 10),
  (10, ix_geti 3 1 13),
  (13, ix_cmp (fun x y => y < x) 30 16),
  (16, ix_iload 2 17),
  (17, ix_aload 0 18),
  (18, ix_geti 3 1 21),
  (21, ix_iload 1 22),
  (22, ix_bin (fun x y => x - y) 23),
  (23, ix_cmp (fun x y => y < x) 30 26),
  (26, ix_push (vi 1) 27),
  (27, ix_goto 31),
  (30, ix_push (vi 0) 31),
  (31, ix_zret)]
set_option maxRecDepth 20000 in
theorem a_X4_holds (l : Launch) : ix_AllS l cX4_holds 3 RX4 1 (some .boolean) o_X4_holds :=
  .cons (ix_s_iload_n dX4_holds_0 rfl) <|
  .cons (ix_s_if_lt dX4_holds_1 (by decide)) <|
  .cons (ix_s_iload_n dX4_holds_4 rfl) <|
  .cons (ix_s_if_lt dX4_holds_5 (by decide)) <|
  .cons (ix_s_iload_n dX4_holds_8 rfl) <|
  .cons (ix_s_aload_n dX4_holds_9 rfl) <|
  .cons (ix_s_geti (j := 1) tu_X4 rfl (by decide) (by decide) tw_111 rfl ts_3_1_i dX4_holds_10) <|
  .cons (ix_s_cmp_gt dX4_holds_13 (by decide)) <|
  .cons (ix_s_iload_n dX4_holds_16 rfl) <|
  .cons (ix_s_aload_n dX4_holds_17 rfl) <|
  .cons (ix_s_geti (j := 1) tu_X4 rfl (by decide) (by decide) tw_111 rfl ts_3_1_i dX4_holds_18) <|
  .cons (ix_s_iload_n dX4_holds_21 rfl) <|
  .cons (ix_s_isub dX4_holds_22) <|
  .cons (ix_s_cmp_gt dX4_holds_23 (by decide)) <|
  .cons (ix_s_iconst dX4_holds_26 (by decide +kernel)) <|
  .cons (ix_s_goto dX4_holds_27 (by decide)) <|
  .cons (ix_s_iconst dX4_holds_30 (by decide +kernel)) <|
  .cons (ix_s_zret dX4_holds_31 rfl) <| .nil
theorem e_X4_holds_0 (Q : ix_R → Prop) (ls : ix_L) (st : List ix_V) (μ : ix_M) : ix_Ev o_X4_holds Q (0, ls, st, μ) = ix_iload 1 1 (ix_Ev o_X4_holds Q) Q ls st μ := ix_Ev.eq (a_X4_holds launch0) rfl ls st μ
theorem e_X4_holds_1 (Q : ix_R → Prop) (ls : ix_L) (st : List ix_V) (μ : ix_M) : ix_Ev o_X4_holds Q (1, ls, st, μ) = ix_if (fun x => x < 0) 30 4 (ix_Ev o_X4_holds Q) Q ls st μ := ix_Ev.eq (a_X4_holds launch0) rfl ls st μ
theorem e_X4_holds_4 (Q : ix_R → Prop) (ls : ix_L) (st : List ix_V) (μ : ix_M) : ix_Ev o_X4_holds Q (4, ls, st, μ) = ix_iload 2 5 (ix_Ev o_X4_holds Q) Q ls st μ := ix_Ev.eq (a_X4_holds launch0) rfl ls st μ
theorem e_X4_holds_5 (Q : ix_R → Prop) (ls : ix_L) (st : List ix_V) (μ : ix_M) : ix_Ev o_X4_holds Q (5, ls, st, μ) = ix_if (fun x => x < 0) 30 8 (ix_Ev o_X4_holds Q) Q ls st μ := ix_Ev.eq (a_X4_holds launch0) rfl ls st μ
theorem e_X4_holds_8 (Q : ix_R → Prop) (ls : ix_L) (st : List ix_V) (μ : ix_M) : ix_Ev o_X4_holds Q (8, ls, st, μ) = ix_iload 1 9 (ix_Ev o_X4_holds Q) Q ls st μ := ix_Ev.eq (a_X4_holds launch0) rfl ls st μ
theorem e_X4_holds_9 (Q : ix_R → Prop) (ls : ix_L) (st : List ix_V) (μ : ix_M) : ix_Ev o_X4_holds Q (9, ls, st, μ) = ix_aload 0 10 (ix_Ev o_X4_holds Q) Q ls st μ := ix_Ev.eq (a_X4_holds launch0) rfl ls st μ
theorem e_X4_holds_10 (Q : ix_R → Prop) (ls : ix_L) (st : List ix_V) (μ : ix_M) : ix_Ev o_X4_holds Q (10, ls, st, μ) = ix_geti 3 1 13 (ix_Ev o_X4_holds Q) Q ls st μ := ix_Ev.eq (a_X4_holds launch0) rfl ls st μ
theorem e_X4_holds_13 (Q : ix_R → Prop) (ls : ix_L) (st : List ix_V) (μ : ix_M) : ix_Ev o_X4_holds Q (13, ls, st, μ) = ix_cmp (fun x y => y < x) 30 16 (ix_Ev o_X4_holds Q) Q ls st μ := ix_Ev.eq (a_X4_holds launch0) rfl ls st μ
theorem e_X4_holds_16 (Q : ix_R → Prop) (ls : ix_L) (st : List ix_V) (μ : ix_M) : ix_Ev o_X4_holds Q (16, ls, st, μ) = ix_iload 2 17 (ix_Ev o_X4_holds Q) Q ls st μ := ix_Ev.eq (a_X4_holds launch0) rfl ls st μ
theorem e_X4_holds_17 (Q : ix_R → Prop) (ls : ix_L) (st : List ix_V) (μ : ix_M) : ix_Ev o_X4_holds Q (17, ls, st, μ) = ix_aload 0 18 (ix_Ev o_X4_holds Q) Q ls st μ := ix_Ev.eq (a_X4_holds launch0) rfl ls st μ
theorem e_X4_holds_18 (Q : ix_R → Prop) (ls : ix_L) (st : List ix_V) (μ : ix_M) : ix_Ev o_X4_holds Q (18, ls, st, μ) = ix_geti 3 1 21 (ix_Ev o_X4_holds Q) Q ls st μ := ix_Ev.eq (a_X4_holds launch0) rfl ls st μ
theorem e_X4_holds_21 (Q : ix_R → Prop) (ls : ix_L) (st : List ix_V) (μ : ix_M) : ix_Ev o_X4_holds Q (21, ls, st, μ) = ix_iload 1 22 (ix_Ev o_X4_holds Q) Q ls st μ := ix_Ev.eq (a_X4_holds launch0) rfl ls st μ
theorem e_X4_holds_22 (Q : ix_R → Prop) (ls : ix_L) (st : List ix_V) (μ : ix_M) : ix_Ev o_X4_holds Q (22, ls, st, μ) = ix_bin (fun x y => x - y) 23 (ix_Ev o_X4_holds Q) Q ls st μ := ix_Ev.eq (a_X4_holds launch0) rfl ls st μ
theorem e_X4_holds_23 (Q : ix_R → Prop) (ls : ix_L) (st : List ix_V) (μ : ix_M) : ix_Ev o_X4_holds Q (23, ls, st, μ) = ix_cmp (fun x y => y < x) 30 26 (ix_Ev o_X4_holds Q) Q ls st μ := ix_Ev.eq (a_X4_holds launch0) rfl ls st μ
theorem e_X4_holds_26 (Q : ix_R → Prop) (ls : ix_L) (st : List ix_V) (μ : ix_M) : ix_Ev o_X4_holds Q (26, ls, st, μ) = ix_push (vi 1) 27 (ix_Ev o_X4_holds Q) Q ls st μ := ix_Ev.eq (a_X4_holds launch0) rfl ls st μ
theorem e_X4_holds_27 (Q : ix_R → Prop) (ls : ix_L) (st : List ix_V) (μ : ix_M) : ix_Ev o_X4_holds Q (27, ls, st, μ) = ix_goto 31 (ix_Ev o_X4_holds Q) Q ls st μ := ix_Ev.eq (a_X4_holds launch0) rfl ls st μ
theorem e_X4_holds_30 (Q : ix_R → Prop) (ls : ix_L) (st : List ix_V) (μ : ix_M) : ix_Ev o_X4_holds Q (30, ls, st, μ) = ix_push (vi 0) 31 (ix_Ev o_X4_holds Q) Q ls st μ := ix_Ev.eq (a_X4_holds launch0) rfl ls st μ
theorem e_X4_holds_31 (Q : ix_R → Prop) (ls : ix_L) (st : List ix_V) (μ : ix_M) : ix_Ev o_X4_holds Q (31, ls, st, μ) = ix_zret (ix_Ev o_X4_holds Q) Q ls st μ := ix_Ev.eq (a_X4_holds launch0) rfl ls st μ
theorem r_X4_holds (r : Nat) (i : Int32) (n : Int32) (μ : ix_M) (Q : ix_R → Prop) (ok_r : r < ix_N ∧ ix_tag r = 3) (hT : T_X4_holds (r, i, n) μ Q) : ix_Ev o_X4_holds Q (0, [some (vr 3 r), some (vi i), some (vi n)], [], μ) := by
  simp (decide := true) only [e_X4_holds_0, e_X4_holds_1, e_X4_holds_4, e_X4_holds_5, e_X4_holds_8, e_X4_holds_9, e_X4_holds_10, e_X4_holds_13, e_X4_holds_16, e_X4_holds_17, e_X4_holds_18, e_X4_holds_21, e_X4_holds_22, e_X4_holds_23, e_X4_holds_26, e_X4_holds_27, e_X4_holds_30, e_X4_holds_31, vi, vl, vr, ix_push, ix_iload, ix_lload, ix_aload, ix_istore, ix_astore, ix_iinc, ix_bin, ix_div, ix_un, ix_i2l, ix_l2i, ix_lbin, ix_lsh, ix_lcmp, ix_dup, ix_dup2, ix_pop, ix_if, ix_cmp, ix_goto, ix_switch, ix_sw, ix_iret, ix_zret, ix_vret, ix_aret, ix_geti, ix_getr, ix_puti, ix_putz, ix_puts, ix_gets, ix_iald, ix_iast, ix_alen, ix_aald, ix_gval, ix_gcod, ix_bald, ix_blen, ix_sald, ix_nret, ix_math2, ix_math1, ix_acopy, Nat.add_assoc, Int32.reduceLT, Int32.reduceLE, Int32.reduceToNatClampNeg, Int32.reduceSub, Int32.reduceAdd, Nat.reduceAdd, Nat.reduceLeDiff, true_or, or_true, or_false, false_or, not_false_eq_true, not_true_eq_false, false_implies, true_implies, implies_true, and_self, mB_0, mB_01, Classical.not_not, Nat.zero_le, List.getElem?_cons_zero, List.getElem?_cons_succ, List.set_cons_zero, List.set_cons_succ, ix_nl, ix_cs, true_and, and_true, Option.toList_some, Option.toList_none, List.cons_append, List.nil_append]
  simp only [T_X4_holds, mB, vi, vl, vr] at hT
  repeat' (first | refine And.intro ?_ ?_ | intro _)
  all_goals (first | exact hT | (simp only [*, if_true, if_false, not_true_eq_false, not_false_eq_true, and_true, true_and, and_false, false_and, or_true, true_or, or_false, false_or, and_self, or_self] at hT; exact hT) | (simp only [← Int32.not_lt, Classical.not_not] at *; simp only [*, if_true, if_false, not_true_eq_false, not_false_eq_true, and_true, true_and, and_false, false_and, or_true, true_or, or_false, false_or, and_self, or_self] at hT; exact hT) | (simp_all; done))
theorem k_X4_holds (l : Launch) : ix_Ct l yX4_holds cX4_holds 3 (some .boolean) 1 sh_X4_holds T_X4_holds := ix_ct (a_X4_holds l) rfl (by decide) (fun _ => Nat.le_of_ble_eq_true rfl) (fun x μ Q hok hT => r_X4_holds x.1 x.2.1 x.2.2 μ Q (ix_ok_at (hok (vr 3 x.1) (by simp [sh_X4_holds])) (by decide) (by decide)) hT)
/-- a number more in a row -/
def rAdd (μ : ix_M) (r : Nat) (v : Int32) : ix_M := if (μ r 1).toInt < ix_len (r + 1) then ix_up (ix_up μ (r + 1) (μ r 1).toNatClampNeg v) r 1 (μ r 1 + 1) else μ
theorem ix_len_lt (a : Nat) : ix_len a < 2 ^ 31 := by
  by_cases h : a < ix_N
  · have : ∀ a, a < ix_N → ix_len a < 2 ^ 31 := by decide +kernel
    exact this a h
  · have : ix_sh a = (99, []) := by
      unfold ix_sh
      rw [List.getD_eq_getElem?_getD, List.getElem?_eq_none]
      · rfl
      · have : ix_SH.length = ix_N := by decide +kernel
        omega
    unfold ix_len
    rw [this]
    decide
theorem ix_len_toInt (a : Nat) : (Int32.ofNat (ix_len a)).toInt = ix_len a := nI_toInt (ix_len_lt a)
def T_X4_add : Nat × Int32 → ix_M → (ix_R → Prop) → Prop := fun (r, v) μ Q => RowOk μ r ∧ Q (none, rAdd μ r v)
def sh_X4_add (x : Nat × Int32) : List ix_V := [vr 3 x.1, vi x.2]
theorem mo_X4_add (x : Nat × Int32) (μ : ix_M) (Q Q' : ix_R → Prop) (h : ∀ r, Q r → Q' r) (hT : T_X4_add x μ Q) : T_X4_add x μ Q' := by
  obtain ⟨a0, a1⟩ := x
  first | exact h _ hT | exact ⟨hT.1, h _ hT.2⟩ | exact fun r hr => h _ (hT r hr) | exact ⟨hT.1, fun r hr => h _ (hT.2 r hr)⟩ | exact ⟨hT.1, hT.2.1, fun r hr => h _ (hT.2.2 r hr)⟩
def oc_X4_add (n : Nat) : ix_Op := fun k _ ls st μ => match st with
  | .inl a1 :: .inr (.inr (t0, a0)) :: r => t0 = 3 ∧ ix_cs r ≤ 8 ∧ T_X4_add (a0, a1) μ (fun q => k (n, ls, q.1.toList ++ r, q.2))
  | _ => False
theorem oc_X4_add_s {l : Launch} {cc : ByteArray} {nL : Nat} {own : String} {d : Nat} {rt : Option FieldType} {pc n : Nat} (h : ix_S l cc nL own d rt pc (ix_call 2 sh_X4_add T_X4_add n)) : ix_S l cc nL own d rt pc (oc_X4_add n) := by
  refine h.by (fun k Q ls st μ h => ?_) (fun k k' Q ls st μ hk h => ?_)
  · unfold oc_X4_add at h
    split at h
    · rename_i a1 t0 a0 r
      obtain ⟨rfl, h1, h2⟩ := h
      exact ⟨h1, (a0, a1), rfl, _, h2, fun r h => h⟩
    · exact h.elim
  · unfold oc_X4_add at h ⊢
    split at h
    · obtain ⟨rfl, h1, h2⟩ := h
      exact ⟨rfl, h1, mo_X4_add _ _ _ _ (fun q hq => hk _ hq) h2⟩
    · exact h.elim
def o_X4_add : List (Nat × ix_Op) := [
  (0, ix_aload 0 1),
  (1, ix_geti 3 1 4),
  (4, ix_aload 0 5),
  (5, ix_getr 3 20 (fun k => k + 1) 8),
  (8, ix_alen 9),
  (9, ix_cmp (fun x y => y ≤ x) 32 12),
  (12, ix_aload 0 13),
  (13, ix_getr 3 20 (fun k => k + 1) 16),
  (16, ix_aload 0 17),
  (17, ix_geti 3 1 20),
  (20, ix_iload 1 21),
  (21, ix_iast 22),
  (22, ix_aload 0 23),
  (23, ix_dup 24),
  (24, ix_geti 3 1 27),
  (27, ix_push (vi 1) 28),
  (28, ix_bin (fun x y => x + y) 29),
  (29, ix_puti 3 1 32),
  (32, ix_vret)]
set_option maxRecDepth 20000 in
theorem a_X4_add (l : Launch) : ix_AllS l cX4_add 2 RX4 1 none o_X4_add :=
  .cons (ix_s_aload_n dX4_add_0 rfl) <|
  .cons (ix_s_geti (j := 1) tu_X4 rfl (by decide) (by decide) tw_111 rfl ts_3_1_i dX4_add_1) <|
  .cons (ix_s_aload_n dX4_add_4 rfl) <|
  .cons (ix_s_getr (j := 0) tu_X4 rfl (by decide) (by decide) tw_105 rfl ts_3_0_r dX4_add_5) <|
  .cons (ix_s_alen dX4_add_8) <|
  .cons (ix_s_cmp_ge dX4_add_9 (by decide)) <|
  .cons (ix_s_aload_n dX4_add_12 rfl) <|
  .cons (ix_s_getr (j := 0) tu_X4 rfl (by decide) (by decide) tw_105 rfl ts_3_0_r dX4_add_13) <|
  .cons (ix_s_aload_n dX4_add_16 rfl) <|
  .cons (ix_s_geti (j := 1) tu_X4 rfl (by decide) (by decide) tw_111 rfl ts_3_1_i dX4_add_17) <|
  .cons (ix_s_iload_n dX4_add_20 rfl) <|
  .cons (ix_s_iast dX4_add_21) <|
  .cons (ix_s_aload_n dX4_add_22 rfl) <|
  .cons (ix_s_dup dX4_add_23) <|
  .cons (ix_s_geti (j := 1) tu_X4 rfl (by decide) (by decide) tw_111 rfl ts_3_1_i dX4_add_24) <|
  .cons (ix_s_iconst dX4_add_27 (by decide +kernel)) <|
  .cons (ix_s_iadd dX4_add_28) <|
  .cons (ix_s_puti (j := 1) tu_X4 tyX4_ok nmX4 rfl (by decide) (by decide) tw_111 rfl rfl (by decide +kernel) ts_3_1_p dX4_add_29) <|
  .cons (ix_s_vret dX4_add_32 rfl) <| .nil
theorem e_X4_add_0 (Q : ix_R → Prop) (ls : ix_L) (st : List ix_V) (μ : ix_M) : ix_Ev o_X4_add Q (0, ls, st, μ) = ix_aload 0 1 (ix_Ev o_X4_add Q) Q ls st μ := ix_Ev.eq (a_X4_add launch0) rfl ls st μ
theorem e_X4_add_1 (Q : ix_R → Prop) (ls : ix_L) (st : List ix_V) (μ : ix_M) : ix_Ev o_X4_add Q (1, ls, st, μ) = ix_geti 3 1 4 (ix_Ev o_X4_add Q) Q ls st μ := ix_Ev.eq (a_X4_add launch0) rfl ls st μ
theorem e_X4_add_4 (Q : ix_R → Prop) (ls : ix_L) (st : List ix_V) (μ : ix_M) : ix_Ev o_X4_add Q (4, ls, st, μ) = ix_aload 0 5 (ix_Ev o_X4_add Q) Q ls st μ := ix_Ev.eq (a_X4_add launch0) rfl ls st μ
theorem e_X4_add_5 (Q : ix_R → Prop) (ls : ix_L) (st : List ix_V) (μ : ix_M) : ix_Ev o_X4_add Q (5, ls, st, μ) = ix_getr 3 20 (fun k => k + 1) 8 (ix_Ev o_X4_add Q) Q ls st μ := ix_Ev.eq (a_X4_add launch0) rfl ls st μ
theorem e_X4_add_8 (Q : ix_R → Prop) (ls : ix_L) (st : List ix_V) (μ : ix_M) : ix_Ev o_X4_add Q (8, ls, st, μ) = ix_alen 9 (ix_Ev o_X4_add Q) Q ls st μ := ix_Ev.eq (a_X4_add launch0) rfl ls st μ
theorem e_X4_add_9 (Q : ix_R → Prop) (ls : ix_L) (st : List ix_V) (μ : ix_M) : ix_Ev o_X4_add Q (9, ls, st, μ) = ix_cmp (fun x y => y ≤ x) 32 12 (ix_Ev o_X4_add Q) Q ls st μ := ix_Ev.eq (a_X4_add launch0) rfl ls st μ
theorem e_X4_add_12 (Q : ix_R → Prop) (ls : ix_L) (st : List ix_V) (μ : ix_M) : ix_Ev o_X4_add Q (12, ls, st, μ) = ix_aload 0 13 (ix_Ev o_X4_add Q) Q ls st μ := ix_Ev.eq (a_X4_add launch0) rfl ls st μ
theorem e_X4_add_13 (Q : ix_R → Prop) (ls : ix_L) (st : List ix_V) (μ : ix_M) : ix_Ev o_X4_add Q (13, ls, st, μ) = ix_getr 3 20 (fun k => k + 1) 16 (ix_Ev o_X4_add Q) Q ls st μ := ix_Ev.eq (a_X4_add launch0) rfl ls st μ
theorem e_X4_add_16 (Q : ix_R → Prop) (ls : ix_L) (st : List ix_V) (μ : ix_M) : ix_Ev o_X4_add Q (16, ls, st, μ) = ix_aload 0 17 (ix_Ev o_X4_add Q) Q ls st μ := ix_Ev.eq (a_X4_add launch0) rfl ls st μ
theorem e_X4_add_17 (Q : ix_R → Prop) (ls : ix_L) (st : List ix_V) (μ : ix_M) : ix_Ev o_X4_add Q (17, ls, st, μ) = ix_geti 3 1 20 (ix_Ev o_X4_add Q) Q ls st μ := ix_Ev.eq (a_X4_add launch0) rfl ls st μ
theorem e_X4_add_20 (Q : ix_R → Prop) (ls : ix_L) (st : List ix_V) (μ : ix_M) : ix_Ev o_X4_add Q (20, ls, st, μ) = ix_iload 1 21 (ix_Ev o_X4_add Q) Q ls st μ := ix_Ev.eq (a_X4_add launch0) rfl ls st μ
theorem e_X4_add_21 (Q : ix_R → Prop) (ls : ix_L) (st : List ix_V) (μ : ix_M) : ix_Ev o_X4_add Q (21, ls, st, μ) = ix_iast 22 (ix_Ev o_X4_add Q) Q ls st μ := ix_Ev.eq (a_X4_add launch0) rfl ls st μ
theorem e_X4_add_22 (Q : ix_R → Prop) (ls : ix_L) (st : List ix_V) (μ : ix_M) : ix_Ev o_X4_add Q (22, ls, st, μ) = ix_aload 0 23 (ix_Ev o_X4_add Q) Q ls st μ := ix_Ev.eq (a_X4_add launch0) rfl ls st μ
theorem e_X4_add_23 (Q : ix_R → Prop) (ls : ix_L) (st : List ix_V) (μ : ix_M) : ix_Ev o_X4_add Q (23, ls, st, μ) = ix_dup 24 (ix_Ev o_X4_add Q) Q ls st μ := ix_Ev.eq (a_X4_add launch0) rfl ls st μ
theorem e_X4_add_24 (Q : ix_R → Prop) (ls : ix_L) (st : List ix_V) (μ : ix_M) : ix_Ev o_X4_add Q (24, ls, st, μ) = ix_geti 3 1 27 (ix_Ev o_X4_add Q) Q ls st μ := ix_Ev.eq (a_X4_add launch0) rfl ls st μ
theorem e_X4_add_27 (Q : ix_R → Prop) (ls : ix_L) (st : List ix_V) (μ : ix_M) : ix_Ev o_X4_add Q (27, ls, st, μ) = ix_push (vi 1) 28 (ix_Ev o_X4_add Q) Q ls st μ := ix_Ev.eq (a_X4_add launch0) rfl ls st μ
theorem e_X4_add_28 (Q : ix_R → Prop) (ls : ix_L) (st : List ix_V) (μ : ix_M) : ix_Ev o_X4_add Q (28, ls, st, μ) = ix_bin (fun x y => x + y) 29 (ix_Ev o_X4_add Q) Q ls st μ := ix_Ev.eq (a_X4_add launch0) rfl ls st μ
theorem e_X4_add_29 (Q : ix_R → Prop) (ls : ix_L) (st : List ix_V) (μ : ix_M) : ix_Ev o_X4_add Q (29, ls, st, μ) = ix_puti 3 1 32 (ix_Ev o_X4_add Q) Q ls st μ := ix_Ev.eq (a_X4_add launch0) rfl ls st μ
theorem e_X4_add_32 (Q : ix_R → Prop) (ls : ix_L) (st : List ix_V) (μ : ix_M) : ix_Ev o_X4_add Q (32, ls, st, μ) = ix_vret (ix_Ev o_X4_add Q) Q ls st μ := ix_Ev.eq (a_X4_add launch0) rfl ls st μ
theorem r_X4_add (r : Nat) (v : Int32) (μ : ix_M) (Q : ix_R → Prop) (ok_r : r < ix_N ∧ ix_tag r = 3) (hT : T_X4_add (r, v) μ Q) : ix_Ev o_X4_add Q (0, [some (vr 3 r), some (vi v)], [], μ) := by
  simp (decide := true) only [e_X4_add_0, e_X4_add_1, e_X4_add_4, e_X4_add_5, e_X4_add_8, e_X4_add_9, e_X4_add_12, e_X4_add_13, e_X4_add_16, e_X4_add_17, e_X4_add_20, e_X4_add_21, e_X4_add_22, e_X4_add_23, e_X4_add_24, e_X4_add_27, e_X4_add_28, e_X4_add_29, e_X4_add_32, vi, vl, vr, ix_push, ix_iload, ix_lload, ix_aload, ix_istore, ix_astore, ix_iinc, ix_bin, ix_div, ix_un, ix_i2l, ix_l2i, ix_lbin, ix_lsh, ix_lcmp, ix_dup, ix_dup2, ix_pop, ix_if, ix_cmp, ix_goto, ix_switch, ix_sw, ix_iret, ix_zret, ix_vret, ix_aret, ix_geti, ix_getr, ix_puti, ix_putz, ix_puts, ix_gets, ix_iald, ix_iast, ix_alen, ix_aald, ix_gval, ix_gcod, ix_bald, ix_blen, ix_sald, ix_nret, ix_math2, ix_math1, ix_acopy, Nat.add_assoc, Int32.reduceLT, Int32.reduceLE, Int32.reduceToNatClampNeg, Int32.reduceSub, Int32.reduceAdd, Nat.reduceAdd, Nat.reduceLeDiff, true_or, or_true, or_false, false_or, not_false_eq_true, not_true_eq_false, false_implies, true_implies, implies_true, and_self, mB_0, mB_01, Classical.not_not, Nat.zero_le, List.getElem?_cons_zero, List.getElem?_cons_succ, List.set_cons_zero, List.set_cons_succ, ix_nl, ix_cs, true_and, and_true, Option.toList_some, Option.toList_none, List.cons_append, List.nil_append]
  obtain ⟨h1, hT⟩ := hT
  unfold rAdd at hT
  have e := ix_len_toInt (r + 1)
  refine ⟨fun c => ?_, fun c => ⟨?_, ?_⟩⟩
  · rw [fa_le] at c
    rwa [if_neg (by omega)] at hT
  · rw [fa_le] at c
    exact vp_inI h1.1 (by omega)
  · rw [fa_le] at c
    rw [if_pos (by omega)] at hT
    simpa [ix_up_ap] using hT
theorem k_X4_add (l : Launch) : ix_Ct l yX4_add cX4_add 2 none 1 sh_X4_add T_X4_add := ix_ct (a_X4_add l) rfl (by decide) (fun _ => Nat.le_of_ble_eq_true rfl) (fun x μ Q hok hT => r_X4_add x.1 x.2 μ Q (ix_ok_at (hok (vr 3 x.1) (by simp [sh_X4_add])) (by decide) (by decide)) hT)
def T_X4_clear : Nat → ix_M → (ix_R → Prop) → Prop := fun r μ Q => Q (none, ix_up μ r 1 0)
def sh_X4_clear (x : Nat) : List ix_V := [vr 3 x]
theorem mo_X4_clear (x : Nat) (μ : ix_M) (Q Q' : ix_R → Prop) (h : ∀ r, Q r → Q' r) (hT : T_X4_clear x μ Q) : T_X4_clear x μ Q' := by
  first | exact h _ hT | exact ⟨hT.1, h _ hT.2⟩ | exact fun r hr => h _ (hT r hr) | exact ⟨hT.1, fun r hr => h _ (hT.2 r hr)⟩ | exact ⟨hT.1, hT.2.1, fun r hr => h _ (hT.2.2 r hr)⟩
def oc_X4_clear (n : Nat) : ix_Op := fun k _ ls st μ => match st with
  | .inr (.inr (t0, a0)) :: r => t0 = 3 ∧ ix_cs r ≤ 8 ∧ T_X4_clear a0 μ (fun q => k (n, ls, q.1.toList ++ r, q.2))
  | _ => False
theorem oc_X4_clear_s {l : Launch} {cc : ByteArray} {nL : Nat} {own : String} {d : Nat} {rt : Option FieldType} {pc n : Nat} (h : ix_S l cc nL own d rt pc (ix_call 1 sh_X4_clear T_X4_clear n)) : ix_S l cc nL own d rt pc (oc_X4_clear n) := by
  refine h.by (fun k Q ls st μ h => ?_) (fun k k' Q ls st μ hk h => ?_)
  · unfold oc_X4_clear at h
    split at h
    · rename_i t0 a0 r
      obtain ⟨rfl, h1, h2⟩ := h
      exact ⟨h1, a0, rfl, _, h2, fun r h => h⟩
    · exact h.elim
  · unfold oc_X4_clear at h ⊢
    split at h
    · obtain ⟨rfl, h1, h2⟩ := h
      exact ⟨rfl, h1, mo_X4_clear _ _ _ _ (fun q hq => hk _ hq) h2⟩
    · exact h.elim
def o_X4_clear : List (Nat × ix_Op) := [
  (0, ix_aload 0 1),
  (1, ix_push (vi 0) 2),
  (2, ix_puti 3 1 5),
  (5, ix_vret)]
set_option maxRecDepth 20000 in
theorem a_X4_clear (l : Launch) : ix_AllS l cX4_clear 1 RX4 1 none o_X4_clear :=
  .cons (ix_s_aload_n dX4_clear_0 rfl) <|
  .cons (ix_s_iconst dX4_clear_1 (by decide +kernel)) <|
  .cons (ix_s_puti (j := 1) tu_X4 tyX4_ok nmX4 rfl (by decide) (by decide) tw_111 rfl rfl (by decide +kernel) ts_3_1_p dX4_clear_2) <|
  .cons (ix_s_vret dX4_clear_5 rfl) <| .nil
theorem e_X4_clear_0 (Q : ix_R → Prop) (ls : ix_L) (st : List ix_V) (μ : ix_M) : ix_Ev o_X4_clear Q (0, ls, st, μ) = ix_aload 0 1 (ix_Ev o_X4_clear Q) Q ls st μ := ix_Ev.eq (a_X4_clear launch0) rfl ls st μ
theorem e_X4_clear_1 (Q : ix_R → Prop) (ls : ix_L) (st : List ix_V) (μ : ix_M) : ix_Ev o_X4_clear Q (1, ls, st, μ) = ix_push (vi 0) 2 (ix_Ev o_X4_clear Q) Q ls st μ := ix_Ev.eq (a_X4_clear launch0) rfl ls st μ
theorem e_X4_clear_2 (Q : ix_R → Prop) (ls : ix_L) (st : List ix_V) (μ : ix_M) : ix_Ev o_X4_clear Q (2, ls, st, μ) = ix_puti 3 1 5 (ix_Ev o_X4_clear Q) Q ls st μ := ix_Ev.eq (a_X4_clear launch0) rfl ls st μ
theorem e_X4_clear_5 (Q : ix_R → Prop) (ls : ix_L) (st : List ix_V) (μ : ix_M) : ix_Ev o_X4_clear Q (5, ls, st, μ) = ix_vret (ix_Ev o_X4_clear Q) Q ls st μ := ix_Ev.eq (a_X4_clear launch0) rfl ls st μ
theorem r_X4_clear (r : Nat) (μ : ix_M) (Q : ix_R → Prop) (ok_r : r < ix_N ∧ ix_tag r = 3) (hT : T_X4_clear r μ Q) : ix_Ev o_X4_clear Q (0, [some (vr 3 r)], [], μ) := by
  simp (decide := true) only [e_X4_clear_0, e_X4_clear_1, e_X4_clear_2, e_X4_clear_5, vi, vl, vr, ix_push, ix_iload, ix_lload, ix_aload, ix_istore, ix_astore, ix_iinc, ix_bin, ix_div, ix_un, ix_i2l, ix_l2i, ix_lbin, ix_lsh, ix_lcmp, ix_dup, ix_dup2, ix_pop, ix_if, ix_cmp, ix_goto, ix_switch, ix_sw, ix_iret, ix_zret, ix_vret, ix_aret, ix_geti, ix_getr, ix_puti, ix_putz, ix_puts, ix_gets, ix_iald, ix_iast, ix_alen, ix_aald, ix_gval, ix_gcod, ix_bald, ix_blen, ix_sald, ix_nret, ix_math2, ix_math1, ix_acopy, Nat.add_assoc, Int32.reduceLT, Int32.reduceLE, Int32.reduceToNatClampNeg, Int32.reduceSub, Int32.reduceAdd, Nat.reduceAdd, Nat.reduceLeDiff, true_or, or_true, or_false, false_or, not_false_eq_true, not_true_eq_false, false_implies, true_implies, implies_true, and_self, mB_0, mB_01, Classical.not_not, Nat.zero_le, List.getElem?_cons_zero, List.getElem?_cons_succ, List.set_cons_zero, List.set_cons_succ, ix_nl, ix_cs, true_and, and_true, Option.toList_some, Option.toList_none, List.cons_append, List.nil_append]
  exact hT
theorem k_X4_clear (l : Launch) : ix_Ct l yX4_clear cX4_clear 1 none 1 sh_X4_clear T_X4_clear := ix_ct (a_X4_clear l) rfl (by decide) (fun _ => Nat.le_of_ble_eq_true rfl) (fun x μ Q hok hT => r_X4_clear x μ Q (ix_ok_at (hok (vr 3 x) (by simp [sh_X4_clear])) (by decide) (by decide)) hT)
def T_X4_copyFrom : Nat × Nat → ix_M → (ix_R → Prop) → Prop := fun (r, o) μ Q => (RowOk μ o ∧ ix_len (o + 1) = ix_len (r + 1)) ∧ Q (none, ix_cpy (ix_up μ r 1 (μ o 1)) (o + 1) (r + 1) 0 0 (μ o 1).toNatClampNeg)
def sh_X4_copyFrom (x : Nat × Nat) : List ix_V := [vr 3 x.1, vr 3 x.2]
theorem mo_X4_copyFrom (x : Nat × Nat) (μ : ix_M) (Q Q' : ix_R → Prop) (h : ∀ r, Q r → Q' r) (hT : T_X4_copyFrom x μ Q) : T_X4_copyFrom x μ Q' := by
  obtain ⟨a0, a1⟩ := x
  first | exact h _ hT | exact ⟨hT.1, h _ hT.2⟩ | exact fun r hr => h _ (hT r hr) | exact ⟨hT.1, fun r hr => h _ (hT.2 r hr)⟩ | exact ⟨hT.1, hT.2.1, fun r hr => h _ (hT.2.2 r hr)⟩
def oc_X4_copyFrom (n : Nat) : ix_Op := fun k _ ls st μ => match st with
  | .inr (.inr (t1, a1)) :: .inr (.inr (t0, a0)) :: r => t0 = 3 ∧ t1 = 3 ∧ ix_cs r ≤ 8 ∧ T_X4_copyFrom (a0, a1) μ (fun q => k (n, ls, q.1.toList ++ r, q.2))
  | _ => False
theorem oc_X4_copyFrom_s {l : Launch} {cc : ByteArray} {nL : Nat} {own : String} {d : Nat} {rt : Option FieldType} {pc n : Nat} (h : ix_S l cc nL own d rt pc (ix_call 2 sh_X4_copyFrom T_X4_copyFrom n)) : ix_S l cc nL own d rt pc (oc_X4_copyFrom n) := by
  refine h.by (fun k Q ls st μ h => ?_) (fun k k' Q ls st μ hk h => ?_)
  · unfold oc_X4_copyFrom at h
    split at h
    · rename_i t1 a1 t0 a0 r
      obtain ⟨rfl, rfl, h1, h2⟩ := h
      exact ⟨h1, (a0, a1), rfl, _, h2, fun r h => h⟩
    · exact h.elim
  · unfold oc_X4_copyFrom at h ⊢
    split at h
    · obtain ⟨rfl, rfl, h1, h2⟩ := h
      exact ⟨rfl, rfl, h1, mo_X4_copyFrom _ _ _ _ (fun q hq => hk _ hq) h2⟩
    · exact h.elim
def o_X4_copyFrom : List (Nat × ix_Op) := [
  (0, ix_aload 0 1),
  (1, ix_aload 1 2),
  (2, ix_geti 3 1 5),
  (5, ix_aload 0 6),
  (6, ix_getr 3 20 (fun k => k + 1) 9),
  (9, ix_alen 10),
  (10, ix_math2 (fun x y => if y < x then y else x) 13),
  (13, ix_puti 3 1 16),
  (16, ix_aload 1 17),
  (17, ix_getr 3 20 (fun k => k + 1) 20),
  (20, ix_push (vi 0) 21),
  (21, ix_aload 0 22),
  (22, ix_getr 3 20 (fun k => k + 1) 25),
  (25, ix_push (vi 0) 26),
  (26, ix_aload 0 27),
  (27, ix_geti 3 1 30),
  (30, ix_acopy 33),
  (33, ix_vret)]
set_option maxRecDepth 20000 in
theorem a_X4_copyFrom (l : Launch) : ix_AllS l cX4_copyFrom 2 RX4 1 none o_X4_copyFrom :=
  .cons (ix_s_aload_n dX4_copyFrom_0 rfl) <|
  .cons (ix_s_aload_n dX4_copyFrom_1 rfl) <|
  .cons (ix_s_geti (j := 1) tu_X4 rfl (by decide) (by decide) tw_111 rfl ts_3_1_i dX4_copyFrom_2) <|
  .cons (ix_s_aload_n dX4_copyFrom_5 rfl) <|
  .cons (ix_s_getr (j := 0) tu_X4 rfl (by decide) (by decide) tw_105 rfl ts_3_0_r dX4_copyFrom_6) <|
  .cons (ix_s_alen dX4_copyFrom_9) <|
  .cons (ix_s_mmin tw_449 tw_328 tw_7 tw_329 (by decide) dX4_copyFrom_10) <|
  .cons (ix_s_puti (j := 1) tu_X4 tyX4_ok nmX4 rfl (by decide) (by decide) tw_111 rfl rfl (by decide +kernel) ts_3_1_p dX4_copyFrom_13) <|
  .cons (ix_s_aload_n dX4_copyFrom_16 rfl) <|
  .cons (ix_s_getr (j := 0) tu_X4 rfl (by decide) (by decide) tw_105 rfl ts_3_0_r dX4_copyFrom_17) <|
  .cons (ix_s_iconst dX4_copyFrom_20 (by decide +kernel)) <|
  .cons (ix_s_aload_n dX4_copyFrom_21 rfl) <|
  .cons (ix_s_getr (j := 0) tu_X4 rfl (by decide) (by decide) tw_105 rfl ts_3_0_r dX4_copyFrom_22) <|
  .cons (ix_s_iconst dX4_copyFrom_25 (by decide +kernel)) <|
  .cons (ix_s_aload_n dX4_copyFrom_26 rfl) <|
  .cons (ix_s_geti (j := 1) tu_X4 rfl (by decide) (by decide) tw_111 rfl ts_3_1_i dX4_copyFrom_27) <|
  .cons (ix_s_acopy tw_450 tw_452 tw_451 tw_14 (by decide) dX4_copyFrom_30) <|
  .cons (ix_s_vret dX4_copyFrom_33 rfl) <| .nil
theorem e_X4_copyFrom_0 (Q : ix_R → Prop) (ls : ix_L) (st : List ix_V) (μ : ix_M) : ix_Ev o_X4_copyFrom Q (0, ls, st, μ) = ix_aload 0 1 (ix_Ev o_X4_copyFrom Q) Q ls st μ := ix_Ev.eq (a_X4_copyFrom launch0) rfl ls st μ
theorem e_X4_copyFrom_1 (Q : ix_R → Prop) (ls : ix_L) (st : List ix_V) (μ : ix_M) : ix_Ev o_X4_copyFrom Q (1, ls, st, μ) = ix_aload 1 2 (ix_Ev o_X4_copyFrom Q) Q ls st μ := ix_Ev.eq (a_X4_copyFrom launch0) rfl ls st μ
theorem e_X4_copyFrom_2 (Q : ix_R → Prop) (ls : ix_L) (st : List ix_V) (μ : ix_M) : ix_Ev o_X4_copyFrom Q (2, ls, st, μ) = ix_geti 3 1 5 (ix_Ev o_X4_copyFrom Q) Q ls st μ := ix_Ev.eq (a_X4_copyFrom launch0) rfl ls st μ
theorem e_X4_copyFrom_5 (Q : ix_R → Prop) (ls : ix_L) (st : List ix_V) (μ : ix_M) : ix_Ev o_X4_copyFrom Q (5, ls, st, μ) = ix_aload 0 6 (ix_Ev o_X4_copyFrom Q) Q ls st μ := ix_Ev.eq (a_X4_copyFrom launch0) rfl ls st μ
theorem e_X4_copyFrom_6 (Q : ix_R → Prop) (ls : ix_L) (st : List ix_V) (μ : ix_M) : ix_Ev o_X4_copyFrom Q (6, ls, st, μ) = ix_getr 3 20 (fun k => k + 1) 9 (ix_Ev o_X4_copyFrom Q) Q ls st μ := ix_Ev.eq (a_X4_copyFrom launch0) rfl ls st μ
theorem e_X4_copyFrom_9 (Q : ix_R → Prop) (ls : ix_L) (st : List ix_V) (μ : ix_M) : ix_Ev o_X4_copyFrom Q (9, ls, st, μ) = ix_alen 10 (ix_Ev o_X4_copyFrom Q) Q ls st μ := ix_Ev.eq (a_X4_copyFrom launch0) rfl ls st μ
theorem e_X4_copyFrom_10 (Q : ix_R → Prop) (ls : ix_L) (st : List ix_V) (μ : ix_M) : ix_Ev o_X4_copyFrom Q (10, ls, st, μ) = ix_math2 (fun x y => if y < x then y else x) 13 (ix_Ev o_X4_copyFrom Q) Q ls st μ := ix_Ev.eq (a_X4_copyFrom launch0) rfl ls st μ
theorem e_X4_copyFrom_13 (Q : ix_R → Prop) (ls : ix_L) (st : List ix_V) (μ : ix_M) : ix_Ev o_X4_copyFrom Q (13, ls, st, μ) = ix_puti 3 1 16 (ix_Ev o_X4_copyFrom Q) Q ls st μ := ix_Ev.eq (a_X4_copyFrom launch0) rfl ls st μ
theorem e_X4_copyFrom_16 (Q : ix_R → Prop) (ls : ix_L) (st : List ix_V) (μ : ix_M) : ix_Ev o_X4_copyFrom Q (16, ls, st, μ) = ix_aload 1 17 (ix_Ev o_X4_copyFrom Q) Q ls st μ := ix_Ev.eq (a_X4_copyFrom launch0) rfl ls st μ
theorem e_X4_copyFrom_17 (Q : ix_R → Prop) (ls : ix_L) (st : List ix_V) (μ : ix_M) : ix_Ev o_X4_copyFrom Q (17, ls, st, μ) = ix_getr 3 20 (fun k => k + 1) 20 (ix_Ev o_X4_copyFrom Q) Q ls st μ := ix_Ev.eq (a_X4_copyFrom launch0) rfl ls st μ
theorem e_X4_copyFrom_20 (Q : ix_R → Prop) (ls : ix_L) (st : List ix_V) (μ : ix_M) : ix_Ev o_X4_copyFrom Q (20, ls, st, μ) = ix_push (vi 0) 21 (ix_Ev o_X4_copyFrom Q) Q ls st μ := ix_Ev.eq (a_X4_copyFrom launch0) rfl ls st μ
theorem e_X4_copyFrom_21 (Q : ix_R → Prop) (ls : ix_L) (st : List ix_V) (μ : ix_M) : ix_Ev o_X4_copyFrom Q (21, ls, st, μ) = ix_aload 0 22 (ix_Ev o_X4_copyFrom Q) Q ls st μ := ix_Ev.eq (a_X4_copyFrom launch0) rfl ls st μ
theorem e_X4_copyFrom_22 (Q : ix_R → Prop) (ls : ix_L) (st : List ix_V) (μ : ix_M) : ix_Ev o_X4_copyFrom Q (22, ls, st, μ) = ix_getr 3 20 (fun k => k + 1) 25 (ix_Ev o_X4_copyFrom Q) Q ls st μ := ix_Ev.eq (a_X4_copyFrom launch0) rfl ls st μ
theorem e_X4_copyFrom_25 (Q : ix_R → Prop) (ls : ix_L) (st : List ix_V) (μ : ix_M) : ix_Ev o_X4_copyFrom Q (25, ls, st, μ) = ix_push (vi 0) 26 (ix_Ev o_X4_copyFrom Q) Q ls st μ := ix_Ev.eq (a_X4_copyFrom launch0) rfl ls st μ
theorem e_X4_copyFrom_26 (Q : ix_R → Prop) (ls : ix_L) (st : List ix_V) (μ : ix_M) : ix_Ev o_X4_copyFrom Q (26, ls, st, μ) = ix_aload 0 27 (ix_Ev o_X4_copyFrom Q) Q ls st μ := ix_Ev.eq (a_X4_copyFrom launch0) rfl ls st μ
theorem e_X4_copyFrom_27 (Q : ix_R → Prop) (ls : ix_L) (st : List ix_V) (μ : ix_M) : ix_Ev o_X4_copyFrom Q (27, ls, st, μ) = ix_geti 3 1 30 (ix_Ev o_X4_copyFrom Q) Q ls st μ := ix_Ev.eq (a_X4_copyFrom launch0) rfl ls st μ
theorem e_X4_copyFrom_30 (Q : ix_R → Prop) (ls : ix_L) (st : List ix_V) (μ : ix_M) : ix_Ev o_X4_copyFrom Q (30, ls, st, μ) = ix_acopy 33 (ix_Ev o_X4_copyFrom Q) Q ls st μ := ix_Ev.eq (a_X4_copyFrom launch0) rfl ls st μ
theorem e_X4_copyFrom_33 (Q : ix_R → Prop) (ls : ix_L) (st : List ix_V) (μ : ix_M) : ix_Ev o_X4_copyFrom Q (33, ls, st, μ) = ix_vret (ix_Ev o_X4_copyFrom Q) Q ls st μ := ix_Ev.eq (a_X4_copyFrom launch0) rfl ls st μ
theorem r_X4_copyFrom (r : Nat) (o : Nat) (μ : ix_M) (Q : ix_R → Prop) (ok_r : r < ix_N ∧ ix_tag r = 3) (ok_o : o < ix_N ∧ ix_tag o = 3) (hT : T_X4_copyFrom (r, o) μ Q) : ix_Ev o_X4_copyFrom Q (0, [some (vr 3 r), some (vr 3 o)], [], μ) := by
  simp (decide := true) only [e_X4_copyFrom_0, e_X4_copyFrom_1, e_X4_copyFrom_2, e_X4_copyFrom_5, e_X4_copyFrom_6, e_X4_copyFrom_9, e_X4_copyFrom_10, e_X4_copyFrom_13, e_X4_copyFrom_16, e_X4_copyFrom_17, e_X4_copyFrom_20, e_X4_copyFrom_21, e_X4_copyFrom_22, e_X4_copyFrom_25, e_X4_copyFrom_26, e_X4_copyFrom_27, e_X4_copyFrom_30, e_X4_copyFrom_33, vi, vl, vr, ix_push, ix_iload, ix_lload, ix_aload, ix_istore, ix_astore, ix_iinc, ix_bin, ix_div, ix_un, ix_i2l, ix_l2i, ix_lbin, ix_lsh, ix_lcmp, ix_dup, ix_dup2, ix_pop, ix_if, ix_cmp, ix_goto, ix_switch, ix_sw, ix_iret, ix_zret, ix_vret, ix_aret, ix_geti, ix_getr, ix_puti, ix_putz, ix_puts, ix_gets, ix_iald, ix_iast, ix_alen, ix_aald, ix_gval, ix_gcod, ix_bald, ix_blen, ix_sald, ix_nret, ix_math2, ix_math1, ix_acopy, Nat.add_assoc, Int32.reduceLT, Int32.reduceLE, Int32.reduceToNatClampNeg, Int32.reduceSub, Int32.reduceAdd, Nat.reduceAdd, Nat.reduceLeDiff, true_or, or_true, or_false, false_or, not_false_eq_true, not_true_eq_false, false_implies, true_implies, implies_true, and_self, mB_0, mB_01, Classical.not_not, Nat.zero_le, List.getElem?_cons_zero, List.getElem?_cons_succ, List.set_cons_zero, List.set_cons_succ, ix_nl, ix_cs, true_and, and_true, Option.toList_some, Option.toList_none, List.cons_append, List.nil_append]
  obtain ⟨⟨h1, h2⟩, hT⟩ := hT
  have e := ix_len_toInt (r + 1)
  have hmin : (if Int32.ofNat (ix_len (r + 1)) < μ o 1 then Int32.ofNat (ix_len (r + 1)) else μ o 1) = μ o 1 := by
    rw [if_neg]
    rw [fa_lt, e, ← h2]
    have := h1.2
    omega
  rw [hmin]
  have hn : ((μ o 1).toNatClampNeg : Int) = (μ o 1).toInt := by
    have := h1.1
    show ((μ o 1).toInt.toNat : Int) = _
    omega
  have h3 := h1.2
  simp only [ix_up_k]
  refine ⟨?_, ?_, ?_, hT⟩
  · rw [fa_lt]
    exact Int.not_lt.mpr h1.1
  · show 0 + _ ≤ _
    omega
  · show 0 + _ ≤ _
    omega
theorem k_X4_copyFrom (l : Launch) : ix_Ct l yX4_copyFrom cX4_copyFrom 2 none 1 sh_X4_copyFrom T_X4_copyFrom := ix_ct (a_X4_copyFrom l) rfl (by decide) (fun _ => Nat.le_of_ble_eq_true rfl) (fun x μ Q hok hT => r_X4_copyFrom x.1 x.2 μ Q (ix_ok_at (hok (vr 3 x.1) (by simp [sh_X4_copyFrom])) (by decide) (by decide)) (ix_ok_at (hok (vr 3 x.2) (by simp [sh_X4_copyFrom])) (by decide) (by decide)) hT)
def T_X5_isMissing : Nat → ix_M → (ix_R → Prop) → Prop := fun r μ Q => Q (some (vi (mB (μ r 1 = 0))), μ)
def sh_X5_isMissing (x : Nat) : List ix_V := [vr 4 x]
theorem mo_X5_isMissing (x : Nat) (μ : ix_M) (Q Q' : ix_R → Prop) (h : ∀ r, Q r → Q' r) (hT : T_X5_isMissing x μ Q) : T_X5_isMissing x μ Q' := by
  first | exact h _ hT | exact ⟨hT.1, h _ hT.2⟩ | exact fun r hr => h _ (hT r hr) | exact ⟨hT.1, fun r hr => h _ (hT.2 r hr)⟩ | exact ⟨hT.1, hT.2.1, fun r hr => h _ (hT.2.2 r hr)⟩
def oc_X5_isMissing (n : Nat) : ix_Op := fun k _ ls st μ => match st with
  | .inr (.inr (t0, a0)) :: r => t0 = 4 ∧ ix_cs r ≤ 8 ∧ T_X5_isMissing a0 μ (fun q => k (n, ls, q.1.toList ++ r, q.2))
  | _ => False
theorem oc_X5_isMissing_s {l : Launch} {cc : ByteArray} {nL : Nat} {own : String} {d : Nat} {rt : Option FieldType} {pc n : Nat} (h : ix_S l cc nL own d rt pc (ix_call 1 sh_X5_isMissing T_X5_isMissing n)) : ix_S l cc nL own d rt pc (oc_X5_isMissing n) := by
  refine h.by (fun k Q ls st μ h => ?_) (fun k k' Q ls st μ hk h => ?_)
  · unfold oc_X5_isMissing at h
    split at h
    · rename_i t0 a0 r
      obtain ⟨rfl, h1, h2⟩ := h
      exact ⟨h1, a0, rfl, _, h2, fun r h => h⟩
    · exact h.elim
  · unfold oc_X5_isMissing at h ⊢
    split at h
    · obtain ⟨rfl, h1, h2⟩ := h
      exact ⟨rfl, h1, mo_X5_isMissing _ _ _ _ (fun q hq => hk _ hq) h2⟩
    · exact h.elim
def o_X5_isMissing : List (Nat × ix_Op) := [
  (0, ix_aload 0 1),
  (1, ix_geti 4 1 4),
  (4, ix_if (fun x => x = 0) 7 11),
  (7, ix_push (vi 1) 8),
  (8, ix_goto 12),
  (11, ix_push (vi 0) 12),
  (12, ix_zret)]
set_option maxRecDepth 20000 in
theorem a_X5_isMissing (l : Launch) : ix_AllS l cX5_isMissing 1 RX5 1 (some .boolean) o_X5_isMissing :=
  .cons (ix_s_aload_n dX5_isMissing_0 rfl) <|
  .cons (ix_s_geti (j := 1) tu_X5 rfl (by decide) (by decide) tw_244 rfl ts_4_1_i dX5_isMissing_1) <|
  .cons (ix_s_if_ne dX5_isMissing_4 (by decide)) <|
  .cons (ix_s_iconst dX5_isMissing_7 (by decide +kernel)) <|
  .cons (ix_s_goto dX5_isMissing_8 (by decide)) <|
  .cons (ix_s_iconst dX5_isMissing_11 (by decide +kernel)) <|
  .cons (ix_s_zret dX5_isMissing_12 rfl) <| .nil
theorem e_X5_isMissing_0 (Q : ix_R → Prop) (ls : ix_L) (st : List ix_V) (μ : ix_M) : ix_Ev o_X5_isMissing Q (0, ls, st, μ) = ix_aload 0 1 (ix_Ev o_X5_isMissing Q) Q ls st μ := ix_Ev.eq (a_X5_isMissing launch0) rfl ls st μ
theorem e_X5_isMissing_1 (Q : ix_R → Prop) (ls : ix_L) (st : List ix_V) (μ : ix_M) : ix_Ev o_X5_isMissing Q (1, ls, st, μ) = ix_geti 4 1 4 (ix_Ev o_X5_isMissing Q) Q ls st μ := ix_Ev.eq (a_X5_isMissing launch0) rfl ls st μ
theorem e_X5_isMissing_4 (Q : ix_R → Prop) (ls : ix_L) (st : List ix_V) (μ : ix_M) : ix_Ev o_X5_isMissing Q (4, ls, st, μ) = ix_if (fun x => x = 0) 7 11 (ix_Ev o_X5_isMissing Q) Q ls st μ := ix_Ev.eq (a_X5_isMissing launch0) rfl ls st μ
theorem e_X5_isMissing_7 (Q : ix_R → Prop) (ls : ix_L) (st : List ix_V) (μ : ix_M) : ix_Ev o_X5_isMissing Q (7, ls, st, μ) = ix_push (vi 1) 8 (ix_Ev o_X5_isMissing Q) Q ls st μ := ix_Ev.eq (a_X5_isMissing launch0) rfl ls st μ
theorem e_X5_isMissing_8 (Q : ix_R → Prop) (ls : ix_L) (st : List ix_V) (μ : ix_M) : ix_Ev o_X5_isMissing Q (8, ls, st, μ) = ix_goto 12 (ix_Ev o_X5_isMissing Q) Q ls st μ := ix_Ev.eq (a_X5_isMissing launch0) rfl ls st μ
theorem e_X5_isMissing_11 (Q : ix_R → Prop) (ls : ix_L) (st : List ix_V) (μ : ix_M) : ix_Ev o_X5_isMissing Q (11, ls, st, μ) = ix_push (vi 0) 12 (ix_Ev o_X5_isMissing Q) Q ls st μ := ix_Ev.eq (a_X5_isMissing launch0) rfl ls st μ
theorem e_X5_isMissing_12 (Q : ix_R → Prop) (ls : ix_L) (st : List ix_V) (μ : ix_M) : ix_Ev o_X5_isMissing Q (12, ls, st, μ) = ix_zret (ix_Ev o_X5_isMissing Q) Q ls st μ := ix_Ev.eq (a_X5_isMissing launch0) rfl ls st μ
theorem r_X5_isMissing (r : Nat) (μ : ix_M) (Q : ix_R → Prop) (ok_r : r < ix_N ∧ ix_tag r = 4) (hT : T_X5_isMissing r μ Q) : ix_Ev o_X5_isMissing Q (0, [some (vr 4 r)], [], μ) := by
  simp (decide := true) only [e_X5_isMissing_0, e_X5_isMissing_1, e_X5_isMissing_4, e_X5_isMissing_7, e_X5_isMissing_8, e_X5_isMissing_11, e_X5_isMissing_12, vi, vl, vr, ix_push, ix_iload, ix_lload, ix_aload, ix_istore, ix_astore, ix_iinc, ix_bin, ix_div, ix_un, ix_i2l, ix_l2i, ix_lbin, ix_lsh, ix_lcmp, ix_dup, ix_dup2, ix_pop, ix_if, ix_cmp, ix_goto, ix_switch, ix_sw, ix_iret, ix_zret, ix_vret, ix_aret, ix_geti, ix_getr, ix_puti, ix_putz, ix_puts, ix_gets, ix_iald, ix_iast, ix_alen, ix_aald, ix_gval, ix_gcod, ix_bald, ix_blen, ix_sald, ix_nret, ix_math2, ix_math1, ix_acopy, Nat.add_assoc, Int32.reduceLT, Int32.reduceLE, Int32.reduceToNatClampNeg, Int32.reduceSub, Int32.reduceAdd, Nat.reduceAdd, Nat.reduceLeDiff, true_or, or_true, or_false, false_or, not_false_eq_true, not_true_eq_false, false_implies, true_implies, implies_true, and_self, mB_0, mB_01, Classical.not_not, Nat.zero_le, List.getElem?_cons_zero, List.getElem?_cons_succ, List.set_cons_zero, List.set_cons_succ, ix_nl, ix_cs, true_and, and_true, Option.toList_some, Option.toList_none, List.cons_append, List.nil_append]
  simp only [T_X5_isMissing, mB, vi, vl, vr] at hT
  repeat' (first | refine And.intro ?_ ?_ | intro _)
  all_goals (first | exact hT | (simp only [*, if_true, if_false, not_true_eq_false, not_false_eq_true, and_true, true_and, and_false, false_and, or_true, true_or, or_false, false_or, and_self, or_self] at hT; exact hT) | (simp only [← Int32.not_lt, Classical.not_not] at *; simp only [*, if_true, if_false, not_true_eq_false, not_false_eq_true, and_true, true_and, and_false, false_and, or_true, true_or, or_false, false_or, and_self, or_self] at hT; exact hT) | (simp_all; done))
theorem k_X5_isMissing (l : Launch) : ix_Ct l yX5_isMissing cX5_isMissing 1 (some .boolean) 1 sh_X5_isMissing T_X5_isMissing := ix_ct (a_X5_isMissing l) rfl (by decide) (fun _ => Nat.le_of_ble_eq_true rfl) (fun x μ Q hok hT => r_X5_isMissing x μ Q (ix_ok_at (hok (vr 4 x) (by simp [sh_X5_isMissing])) (by decide) (by decide)) hT)
def T_X10_outside : Int32 × Int32 → ix_M → (ix_R → Prop) → Prop := fun (v, m) μ Q => Q (some (vi (mB (v < 0 ∨ m < v))), μ)
def sh_X10_outside (x : Int32 × Int32) : List ix_V := [vi x.1, vi x.2]
theorem mo_X10_outside (x : Int32 × Int32) (μ : ix_M) (Q Q' : ix_R → Prop) (h : ∀ r, Q r → Q' r) (hT : T_X10_outside x μ Q) : T_X10_outside x μ Q' := by
  obtain ⟨a0, a1⟩ := x
  first | exact h _ hT | exact ⟨hT.1, h _ hT.2⟩ | exact fun r hr => h _ (hT r hr) | exact ⟨hT.1, fun r hr => h _ (hT.2 r hr)⟩ | exact ⟨hT.1, hT.2.1, fun r hr => h _ (hT.2.2 r hr)⟩
def oc_X10_outside (n : Nat) : ix_Op := fun k _ ls st μ => match st with
  | .inl a1 :: .inl a0 :: r => ix_cs r ≤ 8 ∧ T_X10_outside (a0, a1) μ (fun q => k (n, ls, q.1.toList ++ r, q.2))
  | _ => False
theorem oc_X10_outside_s {l : Launch} {cc : ByteArray} {nL : Nat} {own : String} {d : Nat} {rt : Option FieldType} {pc n : Nat} (h : ix_S l cc nL own d rt pc (ix_call 2 sh_X10_outside T_X10_outside n)) : ix_S l cc nL own d rt pc (oc_X10_outside n) := by
  refine h.by (fun k Q ls st μ h => ?_) (fun k k' Q ls st μ hk h => ?_)
  · unfold oc_X10_outside at h
    split at h
    · rename_i a1 a0 r
      obtain ⟨h1, h2⟩ := h
      exact ⟨h1, (a0, a1), rfl, _, h2, fun r h => h⟩
    · exact h.elim
  · unfold oc_X10_outside at h ⊢
    split at h
    · obtain ⟨h1, h2⟩ := h
      exact ⟨h1, mo_X10_outside _ _ _ _ (fun q hq => hk _ hq) h2⟩
    · exact h.elim
def o_X10_outside : List (Nat × ix_Op) := [
  (0, ix_iload 0 1),
  (1, ix_if (fun x => x < 0) 9 4),
  (4, ix_iload 0 5),
  (5, ix_iload 1 6),
  (6, ix_cmp (fun x y => x ≤ y) 13 9),
  (9, ix_push (vi 1) 10),
  (10, ix_goto 14),
  (13, ix_push (vi 0) 14),
  (14, ix_zret)]
set_option maxRecDepth 20000 in
theorem a_X10_outside (l : Launch) : ix_AllS l cX10_outside 2 RX10 1 (some .boolean) o_X10_outside :=
  .cons (ix_s_iload_n dX10_outside_0 rfl) <|
  .cons (ix_s_if_lt dX10_outside_1 (by decide)) <|
  .cons (ix_s_iload_n dX10_outside_4 rfl) <|
  .cons (ix_s_iload_n dX10_outside_5 rfl) <|
  .cons (ix_s_cmp_le dX10_outside_6 (by decide)) <|
  .cons (ix_s_iconst dX10_outside_9 (by decide +kernel)) <|
  .cons (ix_s_goto dX10_outside_10 (by decide)) <|
  .cons (ix_s_iconst dX10_outside_13 (by decide +kernel)) <|
  .cons (ix_s_zret dX10_outside_14 rfl) <| .nil
theorem e_X10_outside_0 (Q : ix_R → Prop) (ls : ix_L) (st : List ix_V) (μ : ix_M) : ix_Ev o_X10_outside Q (0, ls, st, μ) = ix_iload 0 1 (ix_Ev o_X10_outside Q) Q ls st μ := ix_Ev.eq (a_X10_outside launch0) rfl ls st μ
theorem e_X10_outside_1 (Q : ix_R → Prop) (ls : ix_L) (st : List ix_V) (μ : ix_M) : ix_Ev o_X10_outside Q (1, ls, st, μ) = ix_if (fun x => x < 0) 9 4 (ix_Ev o_X10_outside Q) Q ls st μ := ix_Ev.eq (a_X10_outside launch0) rfl ls st μ
theorem e_X10_outside_4 (Q : ix_R → Prop) (ls : ix_L) (st : List ix_V) (μ : ix_M) : ix_Ev o_X10_outside Q (4, ls, st, μ) = ix_iload 0 5 (ix_Ev o_X10_outside Q) Q ls st μ := ix_Ev.eq (a_X10_outside launch0) rfl ls st μ
theorem e_X10_outside_5 (Q : ix_R → Prop) (ls : ix_L) (st : List ix_V) (μ : ix_M) : ix_Ev o_X10_outside Q (5, ls, st, μ) = ix_iload 1 6 (ix_Ev o_X10_outside Q) Q ls st μ := ix_Ev.eq (a_X10_outside launch0) rfl ls st μ
theorem e_X10_outside_6 (Q : ix_R → Prop) (ls : ix_L) (st : List ix_V) (μ : ix_M) : ix_Ev o_X10_outside Q (6, ls, st, μ) = ix_cmp (fun x y => x ≤ y) 13 9 (ix_Ev o_X10_outside Q) Q ls st μ := ix_Ev.eq (a_X10_outside launch0) rfl ls st μ
theorem e_X10_outside_9 (Q : ix_R → Prop) (ls : ix_L) (st : List ix_V) (μ : ix_M) : ix_Ev o_X10_outside Q (9, ls, st, μ) = ix_push (vi 1) 10 (ix_Ev o_X10_outside Q) Q ls st μ := ix_Ev.eq (a_X10_outside launch0) rfl ls st μ
theorem e_X10_outside_10 (Q : ix_R → Prop) (ls : ix_L) (st : List ix_V) (μ : ix_M) : ix_Ev o_X10_outside Q (10, ls, st, μ) = ix_goto 14 (ix_Ev o_X10_outside Q) Q ls st μ := ix_Ev.eq (a_X10_outside launch0) rfl ls st μ
theorem e_X10_outside_13 (Q : ix_R → Prop) (ls : ix_L) (st : List ix_V) (μ : ix_M) : ix_Ev o_X10_outside Q (13, ls, st, μ) = ix_push (vi 0) 14 (ix_Ev o_X10_outside Q) Q ls st μ := ix_Ev.eq (a_X10_outside launch0) rfl ls st μ
theorem e_X10_outside_14 (Q : ix_R → Prop) (ls : ix_L) (st : List ix_V) (μ : ix_M) : ix_Ev o_X10_outside Q (14, ls, st, μ) = ix_zret (ix_Ev o_X10_outside Q) Q ls st μ := ix_Ev.eq (a_X10_outside launch0) rfl ls st μ
theorem r_X10_outside (v : Int32) (m : Int32) (μ : ix_M) (Q : ix_R → Prop) (hT : T_X10_outside (v, m) μ Q) : ix_Ev o_X10_outside Q (0, [some (vi v), some (vi m)], [], μ) := by
  simp (decide := true) only [e_X10_outside_0, e_X10_outside_1, e_X10_outside_4, e_X10_outside_5, e_X10_outside_6, e_X10_outside_9, e_X10_outside_10, e_X10_outside_13, e_X10_outside_14, vi, vl, vr, ix_push, ix_iload, ix_lload, ix_aload, ix_istore, ix_astore, ix_iinc, ix_bin, ix_div, ix_un, ix_i2l, ix_l2i, ix_lbin, ix_lsh, ix_lcmp, ix_dup, ix_dup2, ix_pop, ix_if, ix_cmp, ix_goto, ix_switch, ix_sw, ix_iret, ix_zret, ix_vret, ix_aret, ix_geti, ix_getr, ix_puti, ix_putz, ix_puts, ix_gets, ix_iald, ix_iast, ix_alen, ix_aald, ix_gval, ix_gcod, ix_bald, ix_blen, ix_sald, ix_nret, ix_math2, ix_math1, ix_acopy, Nat.add_assoc, Int32.reduceLT, Int32.reduceLE, Int32.reduceToNatClampNeg, Int32.reduceSub, Int32.reduceAdd, Nat.reduceAdd, Nat.reduceLeDiff, true_or, or_true, or_false, false_or, not_false_eq_true, not_true_eq_false, false_implies, true_implies, implies_true, and_self, mB_0, mB_01, Classical.not_not, Nat.zero_le, List.getElem?_cons_zero, List.getElem?_cons_succ, List.set_cons_zero, List.set_cons_succ, ix_nl, ix_cs, true_and, and_true, Option.toList_some, Option.toList_none, List.cons_append, List.nil_append]
  simp only [T_X10_outside, mB, vi, vl, vr] at hT
  repeat' (first | refine And.intro ?_ ?_ | intro _)
  all_goals (first | exact hT | (simp only [*, if_true, if_false, not_true_eq_false, not_false_eq_true, and_true, true_and, and_false, false_and, or_true, true_or, or_false, false_or, and_self, or_self] at hT; exact hT) | (simp only [← Int32.not_lt, Classical.not_not] at *; simp only [*, if_true, if_false, not_true_eq_false, not_false_eq_true, and_true, true_and, and_false, false_and, or_true, true_or, or_false, false_or, and_self, or_self] at hT; exact hT) | (simp_all; done))
theorem k_X10_outside (l : Launch) : ix_Ct l yX10_outside cX10_outside 2 (some .boolean) 1 sh_X10_outside T_X10_outside := ix_ct (a_X10_outside l) rfl (by decide) (fun _ => Nat.le_of_ble_eq_true rfl) (fun x μ Q hok hT => r_X10_outside x.1 x.2 μ Q  hT)
def T_X10_noKindNumber : Int32 → ix_M → (ix_R → Prop) → Prop := fun v μ Q => Q (some (vi (mB (v < 0 ∨ 7 ≤ v / 10))), μ)
def sh_X10_noKindNumber (x : Int32) : List ix_V := [vi x]
theorem mo_X10_noKindNumber (x : Int32) (μ : ix_M) (Q Q' : ix_R → Prop) (h : ∀ r, Q r → Q' r) (hT : T_X10_noKindNumber x μ Q) : T_X10_noKindNumber x μ Q' := by
  first | exact h _ hT | exact ⟨hT.1, h _ hT.2⟩ | exact fun r hr => h _ (hT r hr) | exact ⟨hT.1, fun r hr => h _ (hT.2 r hr)⟩ | exact ⟨hT.1, hT.2.1, fun r hr => h _ (hT.2.2 r hr)⟩
def oc_X10_noKindNumber (n : Nat) : ix_Op := fun k _ ls st μ => match st with
  | .inl a0 :: r => ix_cs r ≤ 8 ∧ T_X10_noKindNumber a0 μ (fun q => k (n, ls, q.1.toList ++ r, q.2))
  | _ => False
theorem oc_X10_noKindNumber_s {l : Launch} {cc : ByteArray} {nL : Nat} {own : String} {d : Nat} {rt : Option FieldType} {pc n : Nat} (h : ix_S l cc nL own d rt pc (ix_call 1 sh_X10_noKindNumber T_X10_noKindNumber n)) : ix_S l cc nL own d rt pc (oc_X10_noKindNumber n) := by
  refine h.by (fun k Q ls st μ h => ?_) (fun k k' Q ls st μ hk h => ?_)
  · unfold oc_X10_noKindNumber at h
    split at h
    · rename_i a0 r
      obtain ⟨h1, h2⟩ := h
      exact ⟨h1, a0, rfl, _, h2, fun r h => h⟩
    · exact h.elim
  · unfold oc_X10_noKindNumber at h ⊢
    split at h
    · obtain ⟨h1, h2⟩ := h
      exact ⟨h1, mo_X10_noKindNumber _ _ _ _ (fun q hq => hk _ hq) h2⟩
    · exact h.elim
def o_X10_noKindNumber : List (Nat × ix_Op) := [
  (0, ix_iload 0 1),
  (1, ix_if (fun x => x < 0) 13 4),
  (4, ix_iload 0 5),
  (5, ix_push (vi 10) 7),
  (7, ix_div (fun x y => x / y) 8),
  (8, ix_push (vi 7) 10),
  (10, ix_cmp (fun x y => x < y) 17 13),
  (13, ix_push (vi 1) 14),
  (14, ix_goto 18),
  (17, ix_push (vi 0) 18),
  (18, ix_zret)]
set_option maxRecDepth 20000 in
theorem a_X10_noKindNumber (l : Launch) : ix_AllS l cX10_noKindNumber 1 RX10 1 (some .boolean) o_X10_noKindNumber :=
  .cons (ix_s_iload_n dX10_noKindNumber_0 rfl) <|
  .cons (ix_s_if_lt dX10_noKindNumber_1 (by decide)) <|
  .cons (ix_s_iload_n dX10_noKindNumber_4 rfl) <|
  .cons (ix_s_bipush dX10_noKindNumber_5 (by decide +kernel)) <|
  .cons (ix_s_idiv dX10_noKindNumber_7) <|
  .cons (ix_s_bipush dX10_noKindNumber_8 (by decide +kernel)) <|
  .cons (ix_s_cmp_lt dX10_noKindNumber_10 (by decide)) <|
  .cons (ix_s_iconst dX10_noKindNumber_13 (by decide +kernel)) <|
  .cons (ix_s_goto dX10_noKindNumber_14 (by decide)) <|
  .cons (ix_s_iconst dX10_noKindNumber_17 (by decide +kernel)) <|
  .cons (ix_s_zret dX10_noKindNumber_18 rfl) <| .nil
theorem e_X10_noKindNumber_0 (Q : ix_R → Prop) (ls : ix_L) (st : List ix_V) (μ : ix_M) : ix_Ev o_X10_noKindNumber Q (0, ls, st, μ) = ix_iload 0 1 (ix_Ev o_X10_noKindNumber Q) Q ls st μ := ix_Ev.eq (a_X10_noKindNumber launch0) rfl ls st μ
theorem e_X10_noKindNumber_1 (Q : ix_R → Prop) (ls : ix_L) (st : List ix_V) (μ : ix_M) : ix_Ev o_X10_noKindNumber Q (1, ls, st, μ) = ix_if (fun x => x < 0) 13 4 (ix_Ev o_X10_noKindNumber Q) Q ls st μ := ix_Ev.eq (a_X10_noKindNumber launch0) rfl ls st μ
theorem e_X10_noKindNumber_4 (Q : ix_R → Prop) (ls : ix_L) (st : List ix_V) (μ : ix_M) : ix_Ev o_X10_noKindNumber Q (4, ls, st, μ) = ix_iload 0 5 (ix_Ev o_X10_noKindNumber Q) Q ls st μ := ix_Ev.eq (a_X10_noKindNumber launch0) rfl ls st μ
theorem e_X10_noKindNumber_5 (Q : ix_R → Prop) (ls : ix_L) (st : List ix_V) (μ : ix_M) : ix_Ev o_X10_noKindNumber Q (5, ls, st, μ) = ix_push (vi 10) 7 (ix_Ev o_X10_noKindNumber Q) Q ls st μ := ix_Ev.eq (a_X10_noKindNumber launch0) rfl ls st μ
theorem e_X10_noKindNumber_7 (Q : ix_R → Prop) (ls : ix_L) (st : List ix_V) (μ : ix_M) : ix_Ev o_X10_noKindNumber Q (7, ls, st, μ) = ix_div (fun x y => x / y) 8 (ix_Ev o_X10_noKindNumber Q) Q ls st μ := ix_Ev.eq (a_X10_noKindNumber launch0) rfl ls st μ
theorem e_X10_noKindNumber_8 (Q : ix_R → Prop) (ls : ix_L) (st : List ix_V) (μ : ix_M) : ix_Ev o_X10_noKindNumber Q (8, ls, st, μ) = ix_push (vi 7) 10 (ix_Ev o_X10_noKindNumber Q) Q ls st μ := ix_Ev.eq (a_X10_noKindNumber launch0) rfl ls st μ
theorem e_X10_noKindNumber_10 (Q : ix_R → Prop) (ls : ix_L) (st : List ix_V) (μ : ix_M) : ix_Ev o_X10_noKindNumber Q (10, ls, st, μ) = ix_cmp (fun x y => x < y) 17 13 (ix_Ev o_X10_noKindNumber Q) Q ls st μ := ix_Ev.eq (a_X10_noKindNumber launch0) rfl ls st μ
theorem e_X10_noKindNumber_13 (Q : ix_R → Prop) (ls : ix_L) (st : List ix_V) (μ : ix_M) : ix_Ev o_X10_noKindNumber Q (13, ls, st, μ) = ix_push (vi 1) 14 (ix_Ev o_X10_noKindNumber Q) Q ls st μ := ix_Ev.eq (a_X10_noKindNumber launch0) rfl ls st μ
theorem e_X10_noKindNumber_14 (Q : ix_R → Prop) (ls : ix_L) (st : List ix_V) (μ : ix_M) : ix_Ev o_X10_noKindNumber Q (14, ls, st, μ) = ix_goto 18 (ix_Ev o_X10_noKindNumber Q) Q ls st μ := ix_Ev.eq (a_X10_noKindNumber launch0) rfl ls st μ
theorem e_X10_noKindNumber_17 (Q : ix_R → Prop) (ls : ix_L) (st : List ix_V) (μ : ix_M) : ix_Ev o_X10_noKindNumber Q (17, ls, st, μ) = ix_push (vi 0) 18 (ix_Ev o_X10_noKindNumber Q) Q ls st μ := ix_Ev.eq (a_X10_noKindNumber launch0) rfl ls st μ
theorem e_X10_noKindNumber_18 (Q : ix_R → Prop) (ls : ix_L) (st : List ix_V) (μ : ix_M) : ix_Ev o_X10_noKindNumber Q (18, ls, st, μ) = ix_zret (ix_Ev o_X10_noKindNumber Q) Q ls st μ := ix_Ev.eq (a_X10_noKindNumber launch0) rfl ls st μ
theorem r_X10_noKindNumber (v : Int32) (μ : ix_M) (Q : ix_R → Prop) (hT : T_X10_noKindNumber v μ Q) : ix_Ev o_X10_noKindNumber Q (0, [some (vi v)], [], μ) := by
  simp (decide := true) only [e_X10_noKindNumber_0, e_X10_noKindNumber_1, e_X10_noKindNumber_4, e_X10_noKindNumber_5, e_X10_noKindNumber_7, e_X10_noKindNumber_8, e_X10_noKindNumber_10, e_X10_noKindNumber_13, e_X10_noKindNumber_14, e_X10_noKindNumber_17, e_X10_noKindNumber_18, vi, vl, vr, ix_push, ix_iload, ix_lload, ix_aload, ix_istore, ix_astore, ix_iinc, ix_bin, ix_div, ix_un, ix_i2l, ix_l2i, ix_lbin, ix_lsh, ix_lcmp, ix_dup, ix_dup2, ix_pop, ix_if, ix_cmp, ix_goto, ix_switch, ix_sw, ix_iret, ix_zret, ix_vret, ix_aret, ix_geti, ix_getr, ix_puti, ix_putz, ix_puts, ix_gets, ix_iald, ix_iast, ix_alen, ix_aald, ix_gval, ix_gcod, ix_bald, ix_blen, ix_sald, ix_nret, ix_math2, ix_math1, ix_acopy, Nat.add_assoc, Int32.reduceLT, Int32.reduceLE, Int32.reduceToNatClampNeg, Int32.reduceSub, Int32.reduceAdd, Nat.reduceAdd, Nat.reduceLeDiff, true_or, or_true, or_false, false_or, not_false_eq_true, not_true_eq_false, false_implies, true_implies, implies_true, and_self, mB_0, mB_01, Classical.not_not, Nat.zero_le, List.getElem?_cons_zero, List.getElem?_cons_succ, List.set_cons_zero, List.set_cons_succ, ix_nl, ix_cs, true_and, and_true, Option.toList_some, Option.toList_none, List.cons_append, List.nil_append]
  simp only [T_X10_noKindNumber, mB, vi, vl, vr] at hT
  repeat' (first | refine And.intro ?_ ?_ | intro _)
  all_goals (first | exact hT | (simp only [*, if_true, if_false, not_true_eq_false, not_false_eq_true, and_true, true_and, and_false, false_and, or_true, true_or, or_false, false_or, and_self, or_self] at hT; exact hT) | (simp only [← Int32.not_lt, Classical.not_not] at *; simp only [*, if_true, if_false, not_true_eq_false, not_false_eq_true, and_true, true_and, and_false, false_and, or_true, true_or, or_false, false_or, and_self, or_self] at hT; exact hT) | (simp_all; done))
theorem k_X10_noKindNumber (l : Launch) : ix_Ct l yX10_noKindNumber cX10_noKindNumber 1 (some .boolean) 1 sh_X10_noKindNumber T_X10_noKindNumber := ix_ct (a_X10_noKindNumber l) rfl (by decide) (fun _ => Nat.le_of_ble_eq_true rfl) (fun x μ Q hok hT => r_X10_noKindNumber x μ Q  hT)
def mHeld (v : Int32) : Int32 := if 0 < (if v < 99 then v else 99) then (if v < 99 then v else 99) else 0
def T_X10_held : Int32 → ix_M → (ix_R → Prop) → Prop := fun v μ Q => Q (some (vi (mHeld v)), μ)
def sh_X10_held (x : Int32) : List ix_V := [vi x]
theorem mo_X10_held (x : Int32) (μ : ix_M) (Q Q' : ix_R → Prop) (h : ∀ r, Q r → Q' r) (hT : T_X10_held x μ Q) : T_X10_held x μ Q' := by
  first | exact h _ hT | exact ⟨hT.1, h _ hT.2⟩ | exact fun r hr => h _ (hT r hr) | exact ⟨hT.1, fun r hr => h _ (hT.2 r hr)⟩ | exact ⟨hT.1, hT.2.1, fun r hr => h _ (hT.2.2 r hr)⟩
def oc_X10_held (n : Nat) : ix_Op := fun k _ ls st μ => match st with
  | .inl a0 :: r => ix_cs r ≤ 8 ∧ T_X10_held a0 μ (fun q => k (n, ls, q.1.toList ++ r, q.2))
  | _ => False
theorem oc_X10_held_s {l : Launch} {cc : ByteArray} {nL : Nat} {own : String} {d : Nat} {rt : Option FieldType} {pc n : Nat} (h : ix_S l cc nL own d rt pc (ix_call 1 sh_X10_held T_X10_held n)) : ix_S l cc nL own d rt pc (oc_X10_held n) := by
  refine h.by (fun k Q ls st μ h => ?_) (fun k k' Q ls st μ hk h => ?_)
  · unfold oc_X10_held at h
    split at h
    · rename_i a0 r
      obtain ⟨h1, h2⟩ := h
      exact ⟨h1, a0, rfl, _, h2, fun r h => h⟩
    · exact h.elim
  · unfold oc_X10_held at h ⊢
    split at h
    · obtain ⟨h1, h2⟩ := h
      exact ⟨h1, mo_X10_held _ _ _ _ (fun q hq => hk _ hq) h2⟩
    · exact h.elim
def o_X10_held : List (Nat × ix_Op) := [
  (0, ix_push (vi 0) 1),
  (1, ix_push (vi 99) 3),
  (3, ix_iload 0 4),
  (4, ix_math2 (fun x y => if y < x then y else x) 7),
  (7, ix_math2 (fun x y => if x < y then y else x) 10),
  (10, ix_iret)]
set_option maxRecDepth 20000 in
theorem a_X10_held (l : Launch) : ix_AllS l cX10_held 1 RX10 1 (some .int) o_X10_held :=
  .cons (ix_s_iconst dX10_held_0 (by decide +kernel)) <|
  .cons (ix_s_bipush dX10_held_1 (by decide +kernel)) <|
  .cons (ix_s_iload_n dX10_held_3 rfl) <|
  .cons (ix_s_mmin tw_327 tw_328 tw_7 tw_329 (by decide) dX10_held_4) <|
  .cons (ix_s_mmax tw_330 tw_103 tw_7 tw_104 (by decide) dX10_held_7) <|
  .cons (ix_s_iret dX10_held_10 rfl) <| .nil
theorem e_X10_held_0 (Q : ix_R → Prop) (ls : ix_L) (st : List ix_V) (μ : ix_M) : ix_Ev o_X10_held Q (0, ls, st, μ) = ix_push (vi 0) 1 (ix_Ev o_X10_held Q) Q ls st μ := ix_Ev.eq (a_X10_held launch0) rfl ls st μ
theorem e_X10_held_1 (Q : ix_R → Prop) (ls : ix_L) (st : List ix_V) (μ : ix_M) : ix_Ev o_X10_held Q (1, ls, st, μ) = ix_push (vi 99) 3 (ix_Ev o_X10_held Q) Q ls st μ := ix_Ev.eq (a_X10_held launch0) rfl ls st μ
theorem e_X10_held_3 (Q : ix_R → Prop) (ls : ix_L) (st : List ix_V) (μ : ix_M) : ix_Ev o_X10_held Q (3, ls, st, μ) = ix_iload 0 4 (ix_Ev o_X10_held Q) Q ls st μ := ix_Ev.eq (a_X10_held launch0) rfl ls st μ
theorem e_X10_held_4 (Q : ix_R → Prop) (ls : ix_L) (st : List ix_V) (μ : ix_M) : ix_Ev o_X10_held Q (4, ls, st, μ) = ix_math2 (fun x y => if y < x then y else x) 7 (ix_Ev o_X10_held Q) Q ls st μ := ix_Ev.eq (a_X10_held launch0) rfl ls st μ
theorem e_X10_held_7 (Q : ix_R → Prop) (ls : ix_L) (st : List ix_V) (μ : ix_M) : ix_Ev o_X10_held Q (7, ls, st, μ) = ix_math2 (fun x y => if x < y then y else x) 10 (ix_Ev o_X10_held Q) Q ls st μ := ix_Ev.eq (a_X10_held launch0) rfl ls st μ
theorem e_X10_held_10 (Q : ix_R → Prop) (ls : ix_L) (st : List ix_V) (μ : ix_M) : ix_Ev o_X10_held Q (10, ls, st, μ) = ix_iret (ix_Ev o_X10_held Q) Q ls st μ := ix_Ev.eq (a_X10_held launch0) rfl ls st μ
theorem r_X10_held (v : Int32) (μ : ix_M) (Q : ix_R → Prop) (hT : T_X10_held v μ Q) : ix_Ev o_X10_held Q (0, [some (vi v)], [], μ) := by
  simp (decide := true) only [e_X10_held_0, e_X10_held_1, e_X10_held_3, e_X10_held_4, e_X10_held_7, e_X10_held_10, vi, vl, vr, ix_push, ix_iload, ix_lload, ix_aload, ix_istore, ix_astore, ix_iinc, ix_bin, ix_div, ix_un, ix_i2l, ix_l2i, ix_lbin, ix_lsh, ix_lcmp, ix_dup, ix_dup2, ix_pop, ix_if, ix_cmp, ix_goto, ix_switch, ix_sw, ix_iret, ix_zret, ix_vret, ix_aret, ix_geti, ix_getr, ix_puti, ix_putz, ix_puts, ix_gets, ix_iald, ix_iast, ix_alen, ix_aald, ix_gval, ix_gcod, ix_bald, ix_blen, ix_sald, ix_nret, ix_math2, ix_math1, ix_acopy, Nat.add_assoc, Int32.reduceLT, Int32.reduceLE, Int32.reduceToNatClampNeg, Int32.reduceSub, Int32.reduceAdd, Nat.reduceAdd, Nat.reduceLeDiff, true_or, or_true, or_false, false_or, not_false_eq_true, not_true_eq_false, false_implies, true_implies, implies_true, and_self, mB_0, mB_01, Classical.not_not, Nat.zero_le, List.getElem?_cons_zero, List.getElem?_cons_succ, List.set_cons_zero, List.set_cons_succ, ix_nl, ix_cs, true_and, and_true, Option.toList_some, Option.toList_none, List.cons_append, List.nil_append]
  exact hT
theorem k_X10_held (l : Launch) : ix_Ct l yX10_held cX10_held 1 (some .int) 1 sh_X10_held T_X10_held := ix_ct (a_X10_held l) rfl (by decide) (fun _ => Nat.le_of_ble_eq_true rfl) (fun x μ Q hok hT => r_X10_held x μ Q  hT)
def T_X10_exchange : Nat × Int32 × Int32 → ix_M → (ix_R → Prop) → Prop := fun (a, i, v) μ Q => vp_in i (ix_len a) ∧ Q (some (vi (μ a i.toNatClampNeg)), ix_up μ a i.toNatClampNeg v)
def sh_X10_exchange (x : Nat × Int32 × Int32) : List ix_V := [vr 20 x.1, vi x.2.1, vi x.2.2]
theorem mo_X10_exchange (x : Nat × Int32 × Int32) (μ : ix_M) (Q Q' : ix_R → Prop) (h : ∀ r, Q r → Q' r) (hT : T_X10_exchange x μ Q) : T_X10_exchange x μ Q' := by
  obtain ⟨a0, a1, a2⟩ := x
  first | exact h _ hT | exact ⟨hT.1, h _ hT.2⟩ | exact fun r hr => h _ (hT r hr) | exact ⟨hT.1, fun r hr => h _ (hT.2 r hr)⟩ | exact ⟨hT.1, hT.2.1, fun r hr => h _ (hT.2.2 r hr)⟩
def oc_X10_exchange (n : Nat) : ix_Op := fun k _ ls st μ => match st with
  | .inl a2 :: .inl a1 :: .inr (.inr (t0, a0)) :: r => t0 = 20 ∧ ix_cs r ≤ 8 ∧ T_X10_exchange (a0, a1, a2) μ (fun q => k (n, ls, q.1.toList ++ r, q.2))
  | _ => False
theorem oc_X10_exchange_s {l : Launch} {cc : ByteArray} {nL : Nat} {own : String} {d : Nat} {rt : Option FieldType} {pc n : Nat} (h : ix_S l cc nL own d rt pc (ix_call 3 sh_X10_exchange T_X10_exchange n)) : ix_S l cc nL own d rt pc (oc_X10_exchange n) := by
  refine h.by (fun k Q ls st μ h => ?_) (fun k k' Q ls st μ hk h => ?_)
  · unfold oc_X10_exchange at h
    split at h
    · rename_i a2 a1 t0 a0 r
      obtain ⟨rfl, h1, h2⟩ := h
      exact ⟨h1, (a0, a1, a2), rfl, _, h2, fun r h => h⟩
    · exact h.elim
  · unfold oc_X10_exchange at h ⊢
    split at h
    · obtain ⟨rfl, h1, h2⟩ := h
      exact ⟨rfl, h1, mo_X10_exchange _ _ _ _ (fun q hq => hk _ hq) h2⟩
    · exact h.elim
def o_X10_exchange : List (Nat × ix_Op) := [
  (0, ix_aload 0 1),
  (1, ix_iload 1 2),
  (2, ix_iald 3),
  (3, ix_istore 3 4),
  (4, ix_aload 0 5),
  (5, ix_iload 1 6),
  (6, ix_iload 2 7),
  (7, ix_iast 8),
  (8, ix_iload 3 9),
  (9, ix_iret)]
set_option maxRecDepth 20000 in
theorem a_X10_exchange (l : Launch) : ix_AllS l cX10_exchange 4 RX10 1 (some .int) o_X10_exchange :=
  .cons (ix_s_aload_n dX10_exchange_0 rfl) <|
  .cons (ix_s_iload_n dX10_exchange_1 rfl) <|
  .cons (ix_s_iald dX10_exchange_2) <|
  .cons (ix_s_istore_n dX10_exchange_3 rfl (by decide)) <|
  .cons (ix_s_aload_n dX10_exchange_4 rfl) <|
  .cons (ix_s_iload_n dX10_exchange_5 rfl) <|
  .cons (ix_s_iload_n dX10_exchange_6 rfl) <|
  .cons (ix_s_iast dX10_exchange_7) <|
  .cons (ix_s_iload_n dX10_exchange_8 rfl) <|
  .cons (ix_s_iret dX10_exchange_9 rfl) <| .nil
theorem e_X10_exchange_0 (Q : ix_R → Prop) (ls : ix_L) (st : List ix_V) (μ : ix_M) : ix_Ev o_X10_exchange Q (0, ls, st, μ) = ix_aload 0 1 (ix_Ev o_X10_exchange Q) Q ls st μ := ix_Ev.eq (a_X10_exchange launch0) rfl ls st μ
theorem e_X10_exchange_1 (Q : ix_R → Prop) (ls : ix_L) (st : List ix_V) (μ : ix_M) : ix_Ev o_X10_exchange Q (1, ls, st, μ) = ix_iload 1 2 (ix_Ev o_X10_exchange Q) Q ls st μ := ix_Ev.eq (a_X10_exchange launch0) rfl ls st μ
theorem e_X10_exchange_2 (Q : ix_R → Prop) (ls : ix_L) (st : List ix_V) (μ : ix_M) : ix_Ev o_X10_exchange Q (2, ls, st, μ) = ix_iald 3 (ix_Ev o_X10_exchange Q) Q ls st μ := ix_Ev.eq (a_X10_exchange launch0) rfl ls st μ
theorem e_X10_exchange_3 (Q : ix_R → Prop) (ls : ix_L) (st : List ix_V) (μ : ix_M) : ix_Ev o_X10_exchange Q (3, ls, st, μ) = ix_istore 3 4 (ix_Ev o_X10_exchange Q) Q ls st μ := ix_Ev.eq (a_X10_exchange launch0) rfl ls st μ
theorem e_X10_exchange_4 (Q : ix_R → Prop) (ls : ix_L) (st : List ix_V) (μ : ix_M) : ix_Ev o_X10_exchange Q (4, ls, st, μ) = ix_aload 0 5 (ix_Ev o_X10_exchange Q) Q ls st μ := ix_Ev.eq (a_X10_exchange launch0) rfl ls st μ
theorem e_X10_exchange_5 (Q : ix_R → Prop) (ls : ix_L) (st : List ix_V) (μ : ix_M) : ix_Ev o_X10_exchange Q (5, ls, st, μ) = ix_iload 1 6 (ix_Ev o_X10_exchange Q) Q ls st μ := ix_Ev.eq (a_X10_exchange launch0) rfl ls st μ
theorem e_X10_exchange_6 (Q : ix_R → Prop) (ls : ix_L) (st : List ix_V) (μ : ix_M) : ix_Ev o_X10_exchange Q (6, ls, st, μ) = ix_iload 2 7 (ix_Ev o_X10_exchange Q) Q ls st μ := ix_Ev.eq (a_X10_exchange launch0) rfl ls st μ
theorem e_X10_exchange_7 (Q : ix_R → Prop) (ls : ix_L) (st : List ix_V) (μ : ix_M) : ix_Ev o_X10_exchange Q (7, ls, st, μ) = ix_iast 8 (ix_Ev o_X10_exchange Q) Q ls st μ := ix_Ev.eq (a_X10_exchange launch0) rfl ls st μ
theorem e_X10_exchange_8 (Q : ix_R → Prop) (ls : ix_L) (st : List ix_V) (μ : ix_M) : ix_Ev o_X10_exchange Q (8, ls, st, μ) = ix_iload 3 9 (ix_Ev o_X10_exchange Q) Q ls st μ := ix_Ev.eq (a_X10_exchange launch0) rfl ls st μ
theorem e_X10_exchange_9 (Q : ix_R → Prop) (ls : ix_L) (st : List ix_V) (μ : ix_M) : ix_Ev o_X10_exchange Q (9, ls, st, μ) = ix_iret (ix_Ev o_X10_exchange Q) Q ls st μ := ix_Ev.eq (a_X10_exchange launch0) rfl ls st μ
theorem r_X10_exchange (a : Nat) (i : Int32) (v : Int32) (μ : ix_M) (Q : ix_R → Prop) (ok_a : a < ix_N ∧ ix_tag a = 20) (hT : T_X10_exchange (a, i, v) μ Q) : ix_Ev o_X10_exchange Q (0, [some (vr 20 a), some (vi i), some (vi v), none], [], μ) := by
  simp (decide := true) only [e_X10_exchange_0, e_X10_exchange_1, e_X10_exchange_2, e_X10_exchange_3, e_X10_exchange_4, e_X10_exchange_5, e_X10_exchange_6, e_X10_exchange_7, e_X10_exchange_8, e_X10_exchange_9, vi, vl, vr, ix_push, ix_iload, ix_lload, ix_aload, ix_istore, ix_astore, ix_iinc, ix_bin, ix_div, ix_un, ix_i2l, ix_l2i, ix_lbin, ix_lsh, ix_lcmp, ix_dup, ix_dup2, ix_pop, ix_if, ix_cmp, ix_goto, ix_switch, ix_sw, ix_iret, ix_zret, ix_vret, ix_aret, ix_geti, ix_getr, ix_puti, ix_putz, ix_puts, ix_gets, ix_iald, ix_iast, ix_alen, ix_aald, ix_gval, ix_gcod, ix_bald, ix_blen, ix_sald, ix_nret, ix_math2, ix_math1, ix_acopy, Nat.add_assoc, Int32.reduceLT, Int32.reduceLE, Int32.reduceToNatClampNeg, Int32.reduceSub, Int32.reduceAdd, Nat.reduceAdd, Nat.reduceLeDiff, true_or, or_true, or_false, false_or, not_false_eq_true, not_true_eq_false, false_implies, true_implies, implies_true, and_self, mB_0, mB_01, Classical.not_not, Nat.zero_le, List.getElem?_cons_zero, List.getElem?_cons_succ, List.set_cons_zero, List.set_cons_succ, ix_nl, ix_cs, true_and, and_true, Option.toList_some, Option.toList_none, List.cons_append, List.nil_append]
  exact ⟨hT.1, hT.1, hT.2⟩
theorem k_X10_exchange (l : Launch) : ix_Ct l yX10_exchange cX10_exchange 4 (some .int) 1 sh_X10_exchange T_X10_exchange := ix_ct (a_X10_exchange l) rfl (by decide) (fun _ => Nat.le_of_ble_eq_true rfl) (fun x μ Q hok hT => r_X10_exchange x.1 x.2.1 x.2.2 μ Q (ix_ok_at (hok (vr 20 x.1) (by simp [sh_X10_exchange])) (by decide) (by decide)) hT)
/-- the sum of the first n numbers -/
def mSum (f : Nat → Int32) (n : Nat) : Int32 := match n with
  | 0 => 0
  | n + 1 => mSum f n + f n
def T_X10_sum : Nat × Int32 → ix_M → (ix_R → Prop) → Prop := fun (a, n) μ Q => (0 ≤ n.toInt ∧ n.toInt ≤ ix_len a) ∧ Q (some (vi (mSum (μ a) n.toNatClampNeg)), μ)
def sh_X10_sum (x : Nat × Int32) : List ix_V := [vr 20 x.1, vi x.2]
theorem mo_X10_sum (x : Nat × Int32) (μ : ix_M) (Q Q' : ix_R → Prop) (h : ∀ r, Q r → Q' r) (hT : T_X10_sum x μ Q) : T_X10_sum x μ Q' := by
  obtain ⟨a0, a1⟩ := x
  first | exact h _ hT | exact ⟨hT.1, h _ hT.2⟩ | exact fun r hr => h _ (hT r hr) | exact ⟨hT.1, fun r hr => h _ (hT.2 r hr)⟩ | exact ⟨hT.1, hT.2.1, fun r hr => h _ (hT.2.2 r hr)⟩
def oc_X10_sum (n : Nat) : ix_Op := fun k _ ls st μ => match st with
  | .inl a1 :: .inr (.inr (t0, a0)) :: r => t0 = 20 ∧ ix_cs r ≤ 8 ∧ T_X10_sum (a0, a1) μ (fun q => k (n, ls, q.1.toList ++ r, q.2))
  | _ => False
theorem oc_X10_sum_s {l : Launch} {cc : ByteArray} {nL : Nat} {own : String} {d : Nat} {rt : Option FieldType} {pc n : Nat} (h : ix_S l cc nL own d rt pc (ix_call 2 sh_X10_sum T_X10_sum n)) : ix_S l cc nL own d rt pc (oc_X10_sum n) := by
  refine h.by (fun k Q ls st μ h => ?_) (fun k k' Q ls st μ hk h => ?_)
  · unfold oc_X10_sum at h
    split at h
    · rename_i a1 t0 a0 r
      obtain ⟨rfl, h1, h2⟩ := h
      exact ⟨h1, (a0, a1), rfl, _, h2, fun r h => h⟩
    · exact h.elim
  · unfold oc_X10_sum at h ⊢
    split at h
    · obtain ⟨rfl, h1, h2⟩ := h
      exact ⟨rfl, h1, mo_X10_sum _ _ _ _ (fun q hq => hk _ hq) h2⟩
    · exact h.elim
def o_X10_sum : List (Nat × ix_Op) := [
  (0, ix_push (vi 0) 1),
  (1, ix_istore 2 2),
  (2, ix_push (vi 0) 3),
  (3, ix_istore 3 4),
  (4, ix_iload 3 5),
  (5, ix_iload 1 6),
  (6, ix_cmp (fun x y => y ≤ x) 21 9),
  (9, ix_iload 2 10),
  (10, ix_aload 0 11),
  (11, ix_iload 3 12),
  (12, ix_iald 13),
  (13, ix_bin (fun x y => x + y) 14),
  (14, ix_istore 2 15),
  (15, ix_iinc 3 1 18),
  (18, ix_goto 4),
  (21, ix_iload 2 22),
  (22, ix_iret)]
set_option maxRecDepth 20000 in
theorem a_X10_sum (l : Launch) : ix_AllS l cX10_sum 4 RX10 1 (some .int) o_X10_sum :=
  .cons (ix_s_iconst dX10_sum_0 (by decide +kernel)) <|
  .cons (ix_s_istore_n dX10_sum_1 rfl (by decide)) <|
  .cons (ix_s_iconst dX10_sum_2 (by decide +kernel)) <|
  .cons (ix_s_istore_n dX10_sum_3 rfl (by decide)) <|
  .cons (ix_s_iload_n dX10_sum_4 rfl) <|
  .cons (ix_s_iload_n dX10_sum_5 rfl) <|
  .cons (ix_s_cmp_ge dX10_sum_6 (by decide)) <|
  .cons (ix_s_iload_n dX10_sum_9 rfl) <|
  .cons (ix_s_aload_n dX10_sum_10 rfl) <|
  .cons (ix_s_iload_n dX10_sum_11 rfl) <|
  .cons (ix_s_iald dX10_sum_12) <|
  .cons (ix_s_iadd dX10_sum_13) <|
  .cons (ix_s_istore_n dX10_sum_14 rfl (by decide)) <|
  .cons (ix_s_iinc dX10_sum_15 (by decide +kernel) (by decide)) <|
  .cons (ix_s_goto dX10_sum_18 (by decide)) <|
  .cons (ix_s_iload_n dX10_sum_21 rfl) <|
  .cons (ix_s_iret dX10_sum_22 rfl) <| .nil
theorem e_X10_sum_0 (Q : ix_R → Prop) (ls : ix_L) (st : List ix_V) (μ : ix_M) : ix_Ev o_X10_sum Q (0, ls, st, μ) = ix_push (vi 0) 1 (ix_Ev o_X10_sum Q) Q ls st μ := ix_Ev.eq (a_X10_sum launch0) rfl ls st μ
theorem e_X10_sum_1 (Q : ix_R → Prop) (ls : ix_L) (st : List ix_V) (μ : ix_M) : ix_Ev o_X10_sum Q (1, ls, st, μ) = ix_istore 2 2 (ix_Ev o_X10_sum Q) Q ls st μ := ix_Ev.eq (a_X10_sum launch0) rfl ls st μ
theorem e_X10_sum_2 (Q : ix_R → Prop) (ls : ix_L) (st : List ix_V) (μ : ix_M) : ix_Ev o_X10_sum Q (2, ls, st, μ) = ix_push (vi 0) 3 (ix_Ev o_X10_sum Q) Q ls st μ := ix_Ev.eq (a_X10_sum launch0) rfl ls st μ
theorem e_X10_sum_3 (Q : ix_R → Prop) (ls : ix_L) (st : List ix_V) (μ : ix_M) : ix_Ev o_X10_sum Q (3, ls, st, μ) = ix_istore 3 4 (ix_Ev o_X10_sum Q) Q ls st μ := ix_Ev.eq (a_X10_sum launch0) rfl ls st μ
theorem e_X10_sum_4 (Q : ix_R → Prop) (ls : ix_L) (st : List ix_V) (μ : ix_M) : ix_Ev o_X10_sum Q (4, ls, st, μ) = ix_iload 3 5 (ix_Ev o_X10_sum Q) Q ls st μ := ix_Ev.eq (a_X10_sum launch0) rfl ls st μ
theorem e_X10_sum_5 (Q : ix_R → Prop) (ls : ix_L) (st : List ix_V) (μ : ix_M) : ix_Ev o_X10_sum Q (5, ls, st, μ) = ix_iload 1 6 (ix_Ev o_X10_sum Q) Q ls st μ := ix_Ev.eq (a_X10_sum launch0) rfl ls st μ
theorem e_X10_sum_6 (Q : ix_R → Prop) (ls : ix_L) (st : List ix_V) (μ : ix_M) : ix_Ev o_X10_sum Q (6, ls, st, μ) = ix_cmp (fun x y => y ≤ x) 21 9 (ix_Ev o_X10_sum Q) Q ls st μ := ix_Ev.eq (a_X10_sum launch0) rfl ls st μ
theorem e_X10_sum_9 (Q : ix_R → Prop) (ls : ix_L) (st : List ix_V) (μ : ix_M) : ix_Ev o_X10_sum Q (9, ls, st, μ) = ix_iload 2 10 (ix_Ev o_X10_sum Q) Q ls st μ := ix_Ev.eq (a_X10_sum launch0) rfl ls st μ
theorem e_X10_sum_10 (Q : ix_R → Prop) (ls : ix_L) (st : List ix_V) (μ : ix_M) : ix_Ev o_X10_sum Q (10, ls, st, μ) = ix_aload 0 11 (ix_Ev o_X10_sum Q) Q ls st μ := ix_Ev.eq (a_X10_sum launch0) rfl ls st μ
theorem e_X10_sum_11 (Q : ix_R → Prop) (ls : ix_L) (st : List ix_V) (μ : ix_M) : ix_Ev o_X10_sum Q (11, ls, st, μ) = ix_iload 3 12 (ix_Ev o_X10_sum Q) Q ls st μ := ix_Ev.eq (a_X10_sum launch0) rfl ls st μ
theorem e_X10_sum_12 (Q : ix_R → Prop) (ls : ix_L) (st : List ix_V) (μ : ix_M) : ix_Ev o_X10_sum Q (12, ls, st, μ) = ix_iald 13 (ix_Ev o_X10_sum Q) Q ls st μ := ix_Ev.eq (a_X10_sum launch0) rfl ls st μ
theorem e_X10_sum_13 (Q : ix_R → Prop) (ls : ix_L) (st : List ix_V) (μ : ix_M) : ix_Ev o_X10_sum Q (13, ls, st, μ) = ix_bin (fun x y => x + y) 14 (ix_Ev o_X10_sum Q) Q ls st μ := ix_Ev.eq (a_X10_sum launch0) rfl ls st μ
theorem e_X10_sum_14 (Q : ix_R → Prop) (ls : ix_L) (st : List ix_V) (μ : ix_M) : ix_Ev o_X10_sum Q (14, ls, st, μ) = ix_istore 2 15 (ix_Ev o_X10_sum Q) Q ls st μ := ix_Ev.eq (a_X10_sum launch0) rfl ls st μ
theorem e_X10_sum_15 (Q : ix_R → Prop) (ls : ix_L) (st : List ix_V) (μ : ix_M) : ix_Ev o_X10_sum Q (15, ls, st, μ) = ix_iinc 3 1 18 (ix_Ev o_X10_sum Q) Q ls st μ := ix_Ev.eq (a_X10_sum launch0) rfl ls st μ
theorem e_X10_sum_18 (Q : ix_R → Prop) (ls : ix_L) (st : List ix_V) (μ : ix_M) : ix_Ev o_X10_sum Q (18, ls, st, μ) = ix_goto 4 (ix_Ev o_X10_sum Q) Q ls st μ := ix_Ev.eq (a_X10_sum launch0) rfl ls st μ
theorem e_X10_sum_21 (Q : ix_R → Prop) (ls : ix_L) (st : List ix_V) (μ : ix_M) : ix_Ev o_X10_sum Q (21, ls, st, μ) = ix_iload 2 22 (ix_Ev o_X10_sum Q) Q ls st μ := ix_Ev.eq (a_X10_sum launch0) rfl ls st μ
theorem e_X10_sum_22 (Q : ix_R → Prop) (ls : ix_L) (st : List ix_V) (μ : ix_M) : ix_Ev o_X10_sum Q (22, ls, st, μ) = ix_iret (ix_Ev o_X10_sum Q) Q ls st μ := ix_Ev.eq (a_X10_sum launch0) rfl ls st μ
theorem l_X10_sum (a : Nat) (N : Nat) (hN : N ≤ ix_len a) (μ : ix_M) (Q : ix_R → Prop) (hQ : Q (some (vi (mSum (μ a) N)), μ)) : ∀ k i : Nat, i + k = N → ix_Ev o_X10_sum Q (4, [some (vr 20 a), some (vi (nI N)), some (vi (mSum (μ a) i)), some (vi (nI i))], [], μ) := by
  have hl := ix_len_lt a
  intro k
  induction k with
  | zero =>
    intro i hi
    rw [e_X10_sum_4]
    simp (decide := true) only [e_X10_sum_0, e_X10_sum_1, e_X10_sum_2, e_X10_sum_3, e_X10_sum_5, e_X10_sum_6, e_X10_sum_9, e_X10_sum_10, e_X10_sum_11, e_X10_sum_12, e_X10_sum_13, e_X10_sum_14, e_X10_sum_15, e_X10_sum_18, e_X10_sum_21, e_X10_sum_22, vi, vl, vr, ix_push, ix_iload, ix_lload, ix_aload, ix_istore, ix_astore, ix_iinc, ix_bin, ix_div, ix_un, ix_i2l, ix_l2i, ix_lbin, ix_lsh, ix_lcmp, ix_dup, ix_dup2, ix_pop, ix_if, ix_cmp, ix_goto, ix_switch, ix_sw, ix_iret, ix_zret, ix_vret, ix_aret, ix_geti, ix_getr, ix_puti, ix_putz, ix_puts, ix_gets, ix_iald, ix_iast, ix_alen, ix_aald, ix_gval, ix_gcod, ix_bald, ix_blen, ix_sald, ix_nret, ix_math2, ix_math1, ix_acopy, Nat.add_assoc, Int32.reduceLT, Int32.reduceLE, Int32.reduceToNatClampNeg, Int32.reduceSub, Int32.reduceAdd, Nat.reduceAdd, Nat.reduceLeDiff, true_or, or_true, or_false, false_or, not_false_eq_true, not_true_eq_false, false_implies, true_implies, implies_true, and_self, mB_0, mB_01, Classical.not_not, Nat.zero_le, List.getElem?_cons_zero, List.getElem?_cons_succ, List.set_cons_zero, List.set_cons_succ, ix_nl, ix_cs, true_and, and_true, Option.toList_some, Option.toList_none, List.cons_append, List.nil_append]
    subst hi
    refine ⟨fun _ => hQ, fun c => absurd (Int32.le_refl _) c⟩
  | succ k ih =>
    intro i hi
    rw [e_X10_sum_4]
    simp (decide := true) only [e_X10_sum_0, e_X10_sum_1, e_X10_sum_2, e_X10_sum_3, e_X10_sum_5, e_X10_sum_6, e_X10_sum_9, e_X10_sum_10, e_X10_sum_11, e_X10_sum_12, e_X10_sum_13, e_X10_sum_14, e_X10_sum_15, e_X10_sum_18, e_X10_sum_21, e_X10_sum_22, vi, vl, vr, ix_push, ix_iload, ix_lload, ix_aload, ix_istore, ix_astore, ix_iinc, ix_bin, ix_div, ix_un, ix_i2l, ix_l2i, ix_lbin, ix_lsh, ix_lcmp, ix_dup, ix_dup2, ix_pop, ix_if, ix_cmp, ix_goto, ix_switch, ix_sw, ix_iret, ix_zret, ix_vret, ix_aret, ix_geti, ix_getr, ix_puti, ix_putz, ix_puts, ix_gets, ix_iald, ix_iast, ix_alen, ix_aald, ix_gval, ix_gcod, ix_bald, ix_blen, ix_sald, ix_nret, ix_math2, ix_math1, ix_acopy, Nat.add_assoc, Int32.reduceLT, Int32.reduceLE, Int32.reduceToNatClampNeg, Int32.reduceSub, Int32.reduceAdd, Nat.reduceAdd, Nat.reduceLeDiff, true_or, or_true, or_false, false_or, not_false_eq_true, not_true_eq_false, false_implies, true_implies, implies_true, and_self, mB_0, mB_01, Classical.not_not, Nat.zero_le, List.getElem?_cons_zero, List.getElem?_cons_succ, List.set_cons_zero, List.set_cons_succ, ix_nl, ix_cs, true_and, and_true, Option.toList_some, Option.toList_none, List.cons_append, List.nil_append]
    refine ⟨fun c => absurd c (nI_ge (by omega) (by omega)), fun _ => ⟨vp_in_nI (by omega) hl, ?_⟩⟩
    rw [nI_1, nI_clamp (by omega)]
    exact ih (i + 1) (by omega)
theorem r_X10_sum (a : Nat) (n : Int32) (μ : ix_M) (Q : ix_R → Prop) (ok_a : a < ix_N ∧ ix_tag a = 20) (hT : T_X10_sum (a, n) μ Q) : ix_Ev o_X10_sum Q (0, [some (vr 20 a), some (vi n), none, none], [], μ) := by
  simp (decide := true) only [e_X10_sum_0, e_X10_sum_1, e_X10_sum_2, e_X10_sum_3, e_X10_sum_5, e_X10_sum_6, e_X10_sum_9, e_X10_sum_10, e_X10_sum_11, e_X10_sum_12, e_X10_sum_13, e_X10_sum_14, e_X10_sum_15, e_X10_sum_18, e_X10_sum_21, e_X10_sum_22, vi, vl, vr, ix_push, ix_iload, ix_lload, ix_aload, ix_istore, ix_astore, ix_iinc, ix_bin, ix_div, ix_un, ix_i2l, ix_l2i, ix_lbin, ix_lsh, ix_lcmp, ix_dup, ix_dup2, ix_pop, ix_if, ix_cmp, ix_goto, ix_switch, ix_sw, ix_iret, ix_zret, ix_vret, ix_aret, ix_geti, ix_getr, ix_puti, ix_putz, ix_puts, ix_gets, ix_iald, ix_iast, ix_alen, ix_aald, ix_gval, ix_gcod, ix_bald, ix_blen, ix_sald, ix_nret, ix_math2, ix_math1, ix_acopy, Nat.add_assoc, Int32.reduceLT, Int32.reduceLE, Int32.reduceToNatClampNeg, Int32.reduceSub, Int32.reduceAdd, Nat.reduceAdd, Nat.reduceLeDiff, true_or, or_true, or_false, false_or, not_false_eq_true, not_true_eq_false, false_implies, true_implies, implies_true, and_self, mB_0, mB_01, Classical.not_not, Nat.zero_le, List.getElem?_cons_zero, List.getElem?_cons_succ, List.set_cons_zero, List.set_cons_succ, ix_nl, ix_cs, true_and, and_true, Option.toList_some, Option.toList_none, List.cons_append, List.nil_append]
  obtain ⟨⟨h1, h2⟩, hT⟩ := hT
  obtain ⟨N, hN, rfl⟩ := nI_of2 (x := n) (M := Int32.ofNat (ix_len a)) (ix_len_toInt a) (by rw [fa_lt]; exact Int.not_lt.mpr h1) (by rw [fa_le, ix_len_toInt]; exact h2)
  have hl := ix_len_lt a
  rw [nI_clamp (by omega)] at hT
  exact l_X10_sum a N hN μ Q hT N 0 (by omega)
theorem k_X10_sum (l : Launch) : ix_Ct l yX10_sum cX10_sum 4 (some .int) 1 sh_X10_sum T_X10_sum := ix_ct (a_X10_sum l) rfl (by decide) (fun _ => Nat.le_of_ble_eq_true rfl) (fun x μ Q hok hT => r_X10_sum x.1 x.2 μ Q (ix_ok_at (hok (vr 20 x.1) (by simp [sh_X10_sum])) (by decide) (by decide)) hT)
