/-! ===== Reader ===== -/
abbrev isDg (c : Int32) : Prop := 48 ≤ c ∧ c ≤ 57
def T_X3_isDigit : Int32 → ix_M → (ix_R → Prop) → Prop := fun c μ Q => Q (some (vi (mB (isDg c))), μ)
def sh_X3_isDigit (x : Int32) : List ix_V := [vi x]
theorem mo_X3_isDigit (x : Int32) (μ : ix_M) (Q Q' : ix_R → Prop) (h : ∀ r, Q r → Q' r) (hT : T_X3_isDigit x μ Q) : T_X3_isDigit x μ Q' := by
  first | exact h _ hT | exact ⟨hT.1, h _ hT.2⟩ | exact fun r hr => h _ (hT r hr) | exact ⟨hT.1, fun r hr => h _ (hT.2 r hr)⟩ | exact ⟨hT.1, hT.2.1, fun r hr => h _ (hT.2.2 r hr)⟩
def oc_X3_isDigit (n : Nat) : ix_Op := fun k _ ls st μ => match st with
  | .inl a0 :: r => ix_cs r ≤ 8 ∧ T_X3_isDigit a0 μ (fun q => k (n, ls, q.1.toList ++ r, q.2))
  | _ => False
theorem oc_X3_isDigit_s {l : Launch} {cc : ByteArray} {nL : Nat} {own : String} {d : Nat} {rt : Option FieldType} {pc n : Nat} (h : ix_S l cc nL own d rt pc (ix_call 1 sh_X3_isDigit T_X3_isDigit n)) : ix_S l cc nL own d rt pc (oc_X3_isDigit n) := by
  refine h.by (fun k Q ls st μ h => ?_) (fun k k' Q ls st μ hk h => ?_)
  · unfold oc_X3_isDigit at h
    split at h
    · rename_i a0 r
      obtain ⟨h1, h2⟩ := h
      exact ⟨h1, a0, rfl, _, h2, fun r h => h⟩
    · exact h.elim
  · unfold oc_X3_isDigit at h ⊢
    split at h
    · obtain ⟨h1, h2⟩ := h
      exact ⟨h1, mo_X3_isDigit _ _ _ _ (fun q hq => hk _ hq) h2⟩
    · exact h.elim
def o_X3_isDigit : List (Nat × ix_Op) := [
  (0, ix_iload 0 1),
  (1, ix_push (vi 48) 3),
  (3, ix_cmp (fun x y => x < y) 16 6),
  (6, ix_iload 0 7),
  (7, ix_push (vi 57) 9),
  (9, ix_cmp (fun x y => y < x) 16 12),
  (12, ix_push (vi 1) 13),
  (13, ix_goto 17),
  (16, ix_push (vi 0) 17),
  (17, ix_zret)]
set_option maxRecDepth 20000 in
theorem a_X3_isDigit (l : Launch) : ix_AllS l cX3_isDigit 1 RX3 1 (some .boolean) o_X3_isDigit :=
  .cons (ix_s_iload_n dX3_isDigit_0 rfl) <|
  .cons (ix_s_bipush dX3_isDigit_1 (by decide +kernel)) <|
  .cons (ix_s_cmp_lt dX3_isDigit_3 (by decide)) <|
  .cons (ix_s_iload_n dX3_isDigit_6 rfl) <|
  .cons (ix_s_bipush dX3_isDigit_7 (by decide +kernel)) <|
  .cons (ix_s_cmp_gt dX3_isDigit_9 (by decide)) <|
  .cons (ix_s_iconst dX3_isDigit_12 (by decide +kernel)) <|
  .cons (ix_s_goto dX3_isDigit_13 (by decide)) <|
  .cons (ix_s_iconst dX3_isDigit_16 (by decide +kernel)) <|
  .cons (ix_s_zret dX3_isDigit_17 rfl) <| .nil
theorem e_X3_isDigit_0 (Q : ix_R → Prop) (ls : ix_L) (st : List ix_V) (μ : ix_M) : ix_Ev o_X3_isDigit Q (0, ls, st, μ) = ix_iload 0 1 (ix_Ev o_X3_isDigit Q) Q ls st μ := ix_Ev.eq (a_X3_isDigit launch0) rfl ls st μ
theorem e_X3_isDigit_1 (Q : ix_R → Prop) (ls : ix_L) (st : List ix_V) (μ : ix_M) : ix_Ev o_X3_isDigit Q (1, ls, st, μ) = ix_push (vi 48) 3 (ix_Ev o_X3_isDigit Q) Q ls st μ := ix_Ev.eq (a_X3_isDigit launch0) rfl ls st μ
theorem e_X3_isDigit_3 (Q : ix_R → Prop) (ls : ix_L) (st : List ix_V) (μ : ix_M) : ix_Ev o_X3_isDigit Q (3, ls, st, μ) = ix_cmp (fun x y => x < y) 16 6 (ix_Ev o_X3_isDigit Q) Q ls st μ := ix_Ev.eq (a_X3_isDigit launch0) rfl ls st μ
theorem e_X3_isDigit_6 (Q : ix_R → Prop) (ls : ix_L) (st : List ix_V) (μ : ix_M) : ix_Ev o_X3_isDigit Q (6, ls, st, μ) = ix_iload 0 7 (ix_Ev o_X3_isDigit Q) Q ls st μ := ix_Ev.eq (a_X3_isDigit launch0) rfl ls st μ
theorem e_X3_isDigit_7 (Q : ix_R → Prop) (ls : ix_L) (st : List ix_V) (μ : ix_M) : ix_Ev o_X3_isDigit Q (7, ls, st, μ) = ix_push (vi 57) 9 (ix_Ev o_X3_isDigit Q) Q ls st μ := ix_Ev.eq (a_X3_isDigit launch0) rfl ls st μ
theorem e_X3_isDigit_9 (Q : ix_R → Prop) (ls : ix_L) (st : List ix_V) (μ : ix_M) : ix_Ev o_X3_isDigit Q (9, ls, st, μ) = ix_cmp (fun x y => y < x) 16 12 (ix_Ev o_X3_isDigit Q) Q ls st μ := ix_Ev.eq (a_X3_isDigit launch0) rfl ls st μ
theorem e_X3_isDigit_12 (Q : ix_R → Prop) (ls : ix_L) (st : List ix_V) (μ : ix_M) : ix_Ev o_X3_isDigit Q (12, ls, st, μ) = ix_push (vi 1) 13 (ix_Ev o_X3_isDigit Q) Q ls st μ := ix_Ev.eq (a_X3_isDigit launch0) rfl ls st μ
theorem e_X3_isDigit_13 (Q : ix_R → Prop) (ls : ix_L) (st : List ix_V) (μ : ix_M) : ix_Ev o_X3_isDigit Q (13, ls, st, μ) = ix_goto 17 (ix_Ev o_X3_isDigit Q) Q ls st μ := ix_Ev.eq (a_X3_isDigit launch0) rfl ls st μ
theorem e_X3_isDigit_16 (Q : ix_R → Prop) (ls : ix_L) (st : List ix_V) (μ : ix_M) : ix_Ev o_X3_isDigit Q (16, ls, st, μ) = ix_push (vi 0) 17 (ix_Ev o_X3_isDigit Q) Q ls st μ := ix_Ev.eq (a_X3_isDigit launch0) rfl ls st μ
theorem e_X3_isDigit_17 (Q : ix_R → Prop) (ls : ix_L) (st : List ix_V) (μ : ix_M) : ix_Ev o_X3_isDigit Q (17, ls, st, μ) = ix_zret (ix_Ev o_X3_isDigit Q) Q ls st μ := ix_Ev.eq (a_X3_isDigit launch0) rfl ls st μ
theorem r_X3_isDigit (c : Int32) (μ : ix_M) (Q : ix_R → Prop) (hT : T_X3_isDigit c μ Q) : ix_Ev o_X3_isDigit Q (0, [some (vi c)], [], μ) := by
  simp (decide := true) only [e_X3_isDigit_0, e_X3_isDigit_1, e_X3_isDigit_3, e_X3_isDigit_6, e_X3_isDigit_7, e_X3_isDigit_9, e_X3_isDigit_12, e_X3_isDigit_13, e_X3_isDigit_16, e_X3_isDigit_17, vi, vl, vr, ix_push, ix_iload, ix_lload, ix_aload, ix_istore, ix_astore, ix_iinc, ix_bin, ix_div, ix_un, ix_i2l, ix_l2i, ix_lbin, ix_lsh, ix_lcmp, ix_dup, ix_dup2, ix_pop, ix_if, ix_cmp, ix_goto, ix_switch, ix_sw, ix_iret, ix_zret, ix_vret, ix_aret, ix_geti, ix_getr, ix_puti, ix_putz, ix_puts, ix_gets, ix_iald, ix_iast, ix_alen, ix_aald, ix_gval, ix_gcod, ix_bald, ix_blen, ix_sald, ix_nret, ix_math2, ix_math1, ix_acopy, Nat.add_assoc, Int32.reduceLT, Int32.reduceLE, Int32.reduceToNatClampNeg, Int32.reduceSub, Int32.reduceAdd, Nat.reduceAdd, Nat.reduceLeDiff, true_or, or_true, or_false, false_or, not_false_eq_true, not_true_eq_false, false_implies, true_implies, implies_true, and_self, mB_0, mB_01, Classical.not_not, Nat.zero_le, List.getElem?_cons_zero, List.getElem?_cons_succ, List.set_cons_zero, List.set_cons_succ, ix_nl, ix_cs, true_and, and_true, Option.toList_some, Option.toList_none, List.cons_append, List.nil_append]
  simp only [T_X3_isDigit, mB, isDg, vi, vl, vr] at hT
  repeat' (first | refine And.intro ?_ ?_ | intro _)
  all_goals (first | exact hT | (simp only [*, if_true, if_false, not_true_eq_false, not_false_eq_true, and_true, true_and, and_false, false_and, or_true, true_or, or_false, false_or, and_self, or_self] at hT; exact hT) | (simp only [← Int32.not_lt, Classical.not_not] at *; simp only [*, if_true, if_false, not_true_eq_false, not_false_eq_true, and_true, true_and, and_false, false_and, or_true, true_or, or_false, false_or, and_self, or_self] at hT; exact hT) | (simp_all; done))
theorem k_X3_isDigit (l : Launch) : ix_Ct l yX3_isDigit cX3_isDigit 1 (some .boolean) 1 sh_X3_isDigit T_X3_isDigit := ix_ct (a_X3_isDigit l) rfl (by decide) (fun _ => Nat.le_of_ble_eq_true rfl) (fun x μ Q hok hT => r_X3_isDigit x μ Q  hT)
def mLv (c : Int32) : Int32 := if c = 37 then 4 else if c = 38 then 1 else if c = 42 then 4 else if c = 43 then 3 else if c = 45 then 3 else if c = 47 then 4 else if c = 60 then 2 else if c = 61 then 2 else if c = 62 then 2 else if c = 124 then 0 else -1
def T_X3_levelOf : Int32 → ix_M → (ix_R → Prop) → Prop := fun c μ Q => Q (some (vi (mLv c)), μ)
def sh_X3_levelOf (x : Int32) : List ix_V := [vi x]
theorem mo_X3_levelOf (x : Int32) (μ : ix_M) (Q Q' : ix_R → Prop) (h : ∀ r, Q r → Q' r) (hT : T_X3_levelOf x μ Q) : T_X3_levelOf x μ Q' := by
  first | exact h _ hT | exact ⟨hT.1, h _ hT.2⟩ | exact fun r hr => h _ (hT r hr) | exact ⟨hT.1, fun r hr => h _ (hT.2 r hr)⟩ | exact ⟨hT.1, hT.2.1, fun r hr => h _ (hT.2.2 r hr)⟩
def oc_X3_levelOf (n : Nat) : ix_Op := fun k _ ls st μ => match st with
  | .inl a0 :: r => ix_cs r ≤ 8 ∧ T_X3_levelOf a0 μ (fun q => k (n, ls, q.1.toList ++ r, q.2))
  | _ => False
theorem oc_X3_levelOf_s {l : Launch} {cc : ByteArray} {nL : Nat} {own : String} {d : Nat} {rt : Option FieldType} {pc n : Nat} (h : ix_S l cc nL own d rt pc (ix_call 1 sh_X3_levelOf T_X3_levelOf n)) : ix_S l cc nL own d rt pc (oc_X3_levelOf n) := by
  refine h.by (fun k Q ls st μ h => ?_) (fun k k' Q ls st μ hk h => ?_)
  · unfold oc_X3_levelOf at h
    split at h
    · rename_i a0 r
      obtain ⟨h1, h2⟩ := h
      exact ⟨h1, a0, rfl, _, h2, fun r h => h⟩
    · exact h.elim
  · unfold oc_X3_levelOf at h ⊢
    split at h
    · obtain ⟨h1, h2⟩ := h
      exact ⟨h1, mo_X3_levelOf _ _ _ _ (fun q hq => hk _ hq) h2⟩
    · exact h.elim
def o_X3_levelOf : List (Nat × ix_Op) := [
  (0, ix_iload 0 1),
  (1, ix_switch [(37, 100), (38, 94), (42, 100), (43, 98), (45, 98), (47, 100), (60, 96), (61, 96), (62, 96), (124, 92)] 102),
  (92, ix_push (vi 0) 93),
  (93, ix_iret),
  (94, ix_push (vi 1) 95),
  (95, ix_iret),
  (96, ix_push (vi 2) 97),
  (97, ix_iret),
  (98, ix_push (vi 3) 99),
  (99, ix_iret),
  (100, ix_push (vi 4) 101),
  (101, ix_iret),
  (102, ix_push (vi (-1)) 103),
  (103, ix_iret)]
set_option maxRecDepth 20000 in
theorem a_X3_levelOf (l : Launch) : ix_AllS l cX3_levelOf 1 RX3 1 (some .int) o_X3_levelOf :=
  .cons (ix_s_iload_n dX3_levelOf_0 rfl) <|
  .cons (ix_s_lkp dX3_levelOf_1 (by decide) (by decide +kernel) rfl (by decide +kernel)) <|
  .cons (ix_s_iconst dX3_levelOf_92 (by decide +kernel)) <|
  .cons (ix_s_iret dX3_levelOf_93 rfl) <|
  .cons (ix_s_iconst dX3_levelOf_94 (by decide +kernel)) <|
  .cons (ix_s_iret dX3_levelOf_95 rfl) <|
  .cons (ix_s_iconst dX3_levelOf_96 (by decide +kernel)) <|
  .cons (ix_s_iret dX3_levelOf_97 rfl) <|
  .cons (ix_s_iconst dX3_levelOf_98 (by decide +kernel)) <|
  .cons (ix_s_iret dX3_levelOf_99 rfl) <|
  .cons (ix_s_iconst dX3_levelOf_100 (by decide +kernel)) <|
  .cons (ix_s_iret dX3_levelOf_101 rfl) <|
  .cons (ix_s_iconst dX3_levelOf_102 (by decide +kernel)) <|
  .cons (ix_s_iret dX3_levelOf_103 rfl) <| .nil
theorem e_X3_levelOf_0 (Q : ix_R → Prop) (ls : ix_L) (st : List ix_V) (μ : ix_M) : ix_Ev o_X3_levelOf Q (0, ls, st, μ) = ix_iload 0 1 (ix_Ev o_X3_levelOf Q) Q ls st μ := ix_Ev.eq (a_X3_levelOf launch0) rfl ls st μ
theorem e_X3_levelOf_1 (Q : ix_R → Prop) (ls : ix_L) (st : List ix_V) (μ : ix_M) : ix_Ev o_X3_levelOf Q (1, ls, st, μ) = ix_switch [(37, 100), (38, 94), (42, 100), (43, 98), (45, 98), (47, 100), (60, 96), (61, 96), (62, 96), (124, 92)] 102 (ix_Ev o_X3_levelOf Q) Q ls st μ := ix_Ev.eq (a_X3_levelOf launch0) rfl ls st μ
theorem e_X3_levelOf_92 (Q : ix_R → Prop) (ls : ix_L) (st : List ix_V) (μ : ix_M) : ix_Ev o_X3_levelOf Q (92, ls, st, μ) = ix_push (vi 0) 93 (ix_Ev o_X3_levelOf Q) Q ls st μ := ix_Ev.eq (a_X3_levelOf launch0) rfl ls st μ
theorem e_X3_levelOf_93 (Q : ix_R → Prop) (ls : ix_L) (st : List ix_V) (μ : ix_M) : ix_Ev o_X3_levelOf Q (93, ls, st, μ) = ix_iret (ix_Ev o_X3_levelOf Q) Q ls st μ := ix_Ev.eq (a_X3_levelOf launch0) rfl ls st μ
theorem e_X3_levelOf_94 (Q : ix_R → Prop) (ls : ix_L) (st : List ix_V) (μ : ix_M) : ix_Ev o_X3_levelOf Q (94, ls, st, μ) = ix_push (vi 1) 95 (ix_Ev o_X3_levelOf Q) Q ls st μ := ix_Ev.eq (a_X3_levelOf launch0) rfl ls st μ
theorem e_X3_levelOf_95 (Q : ix_R → Prop) (ls : ix_L) (st : List ix_V) (μ : ix_M) : ix_Ev o_X3_levelOf Q (95, ls, st, μ) = ix_iret (ix_Ev o_X3_levelOf Q) Q ls st μ := ix_Ev.eq (a_X3_levelOf launch0) rfl ls st μ
theorem e_X3_levelOf_96 (Q : ix_R → Prop) (ls : ix_L) (st : List ix_V) (μ : ix_M) : ix_Ev o_X3_levelOf Q (96, ls, st, μ) = ix_push (vi 2) 97 (ix_Ev o_X3_levelOf Q) Q ls st μ := ix_Ev.eq (a_X3_levelOf launch0) rfl ls st μ
theorem e_X3_levelOf_97 (Q : ix_R → Prop) (ls : ix_L) (st : List ix_V) (μ : ix_M) : ix_Ev o_X3_levelOf Q (97, ls, st, μ) = ix_iret (ix_Ev o_X3_levelOf Q) Q ls st μ := ix_Ev.eq (a_X3_levelOf launch0) rfl ls st μ
theorem e_X3_levelOf_98 (Q : ix_R → Prop) (ls : ix_L) (st : List ix_V) (μ : ix_M) : ix_Ev o_X3_levelOf Q (98, ls, st, μ) = ix_push (vi 3) 99 (ix_Ev o_X3_levelOf Q) Q ls st μ := ix_Ev.eq (a_X3_levelOf launch0) rfl ls st μ
theorem e_X3_levelOf_99 (Q : ix_R → Prop) (ls : ix_L) (st : List ix_V) (μ : ix_M) : ix_Ev o_X3_levelOf Q (99, ls, st, μ) = ix_iret (ix_Ev o_X3_levelOf Q) Q ls st μ := ix_Ev.eq (a_X3_levelOf launch0) rfl ls st μ
theorem e_X3_levelOf_100 (Q : ix_R → Prop) (ls : ix_L) (st : List ix_V) (μ : ix_M) : ix_Ev o_X3_levelOf Q (100, ls, st, μ) = ix_push (vi 4) 101 (ix_Ev o_X3_levelOf Q) Q ls st μ := ix_Ev.eq (a_X3_levelOf launch0) rfl ls st μ
theorem e_X3_levelOf_101 (Q : ix_R → Prop) (ls : ix_L) (st : List ix_V) (μ : ix_M) : ix_Ev o_X3_levelOf Q (101, ls, st, μ) = ix_iret (ix_Ev o_X3_levelOf Q) Q ls st μ := ix_Ev.eq (a_X3_levelOf launch0) rfl ls st μ
theorem e_X3_levelOf_102 (Q : ix_R → Prop) (ls : ix_L) (st : List ix_V) (μ : ix_M) : ix_Ev o_X3_levelOf Q (102, ls, st, μ) = ix_push (vi (-1)) 103 (ix_Ev o_X3_levelOf Q) Q ls st μ := ix_Ev.eq (a_X3_levelOf launch0) rfl ls st μ
theorem e_X3_levelOf_103 (Q : ix_R → Prop) (ls : ix_L) (st : List ix_V) (μ : ix_M) : ix_Ev o_X3_levelOf Q (103, ls, st, μ) = ix_iret (ix_Ev o_X3_levelOf Q) Q ls st μ := ix_Ev.eq (a_X3_levelOf launch0) rfl ls st μ
theorem r_X3_levelOf (c : Int32) (μ : ix_M) (Q : ix_R → Prop) (hT : T_X3_levelOf c μ Q) : ix_Ev o_X3_levelOf Q (0, [some (vi c)], [], μ) := by
  simp (decide := true) only [e_X3_levelOf_0, e_X3_levelOf_1, e_X3_levelOf_92, e_X3_levelOf_93, e_X3_levelOf_94, e_X3_levelOf_95, e_X3_levelOf_96, e_X3_levelOf_97, e_X3_levelOf_98, e_X3_levelOf_99, e_X3_levelOf_100, e_X3_levelOf_101, e_X3_levelOf_102, e_X3_levelOf_103, vi, vl, vr, ix_push, ix_iload, ix_lload, ix_aload, ix_istore, ix_astore, ix_iinc, ix_bin, ix_div, ix_un, ix_i2l, ix_l2i, ix_lbin, ix_lsh, ix_lcmp, ix_dup, ix_dup2, ix_pop, ix_if, ix_cmp, ix_goto, ix_switch, ix_sw, ix_iret, ix_zret, ix_vret, ix_aret, ix_geti, ix_getr, ix_puti, ix_putz, ix_puts, ix_gets, ix_iald, ix_iast, ix_alen, ix_aald, ix_gval, ix_gcod, ix_bald, ix_blen, ix_sald, ix_nret, ix_math2, ix_math1, ix_acopy, Nat.add_assoc, Int32.reduceLT, Int32.reduceLE, Int32.reduceToNatClampNeg, Int32.reduceSub, Int32.reduceAdd, Nat.reduceAdd, Nat.reduceLeDiff, true_or, or_true, or_false, false_or, not_false_eq_true, not_true_eq_false, false_implies, true_implies, implies_true, and_self, mB_0, mB_01, Classical.not_not, Nat.zero_le, List.getElem?_cons_zero, List.getElem?_cons_succ, List.set_cons_zero, List.set_cons_succ, ix_nl, ix_cs, true_and, and_true, Option.toList_some, Option.toList_none, List.cons_append, List.nil_append]
  simp only [T_X3_levelOf, mLv, vi, vl, vr] at hT
  repeat' (first | refine And.intro ?_ ?_ | intro _)
  all_goals (first | exact hT | (simp only [*, if_true, if_false, not_true_eq_false, not_false_eq_true, and_true, true_and, and_false, false_and, or_true, true_or, or_false, false_or, and_self, or_self] at hT; exact hT) | (simp only [← Int32.not_lt, Classical.not_not] at *; simp only [*, if_true, if_false, not_true_eq_false, not_false_eq_true, and_true, true_and, and_false, false_and, or_true, true_or, or_false, false_or, and_self, or_self] at hT; exact hT) | (simp_all; done))
theorem k_X3_levelOf (l : Launch) : ix_Ct l yX3_levelOf cX3_levelOf 1 (some .int) 1 sh_X3_levelOf T_X3_levelOf := ix_ct (a_X3_levelOf l) rfl (by decide) (fun _ => Nat.le_of_ble_eq_true rfl) (fun x μ Q hok hT => r_X3_levelOf x μ Q  hT)
def rNx (μ : ix_M) : Int32 := if ¬ μ 88 3 < 0 ∧ ¬ μ 127 1 ≤ μ 88 3 then μ 128 (μ 88 3).toNatClampNeg else -1
def T_X3_next : Nat → ix_M → (ix_R → Prop) → Prop := fun _ μ Q => RowOk μ 127 ∧ Q (some (vi (rNx μ)), μ)
def sh_X3_next (x : Nat) : List ix_V := [vr 2 x]
theorem mo_X3_next (x : Nat) (μ : ix_M) (Q Q' : ix_R → Prop) (h : ∀ r, Q r → Q' r) (hT : T_X3_next x μ Q) : T_X3_next x μ Q' := by
  first | exact h _ hT | exact ⟨hT.1, h _ hT.2⟩ | exact fun r hr => h _ (hT r hr) | exact ⟨hT.1, fun r hr => h _ (hT.2 r hr)⟩ | exact ⟨hT.1, hT.2.1, fun r hr => h _ (hT.2.2 r hr)⟩
def oc_X3_next (n : Nat) : ix_Op := fun k _ ls st μ => match st with
  | .inr (.inr (t0, a0)) :: r => t0 = 2 ∧ ix_cs r ≤ 8 ∧ T_X3_next a0 μ (fun q => k (n, ls, q.1.toList ++ r, q.2))
  | _ => False
theorem oc_X3_next_s {l : Launch} {cc : ByteArray} {nL : Nat} {own : String} {d : Nat} {rt : Option FieldType} {pc n : Nat} (h : ix_S l cc nL own d rt pc (ix_call 1 sh_X3_next T_X3_next n)) : ix_S l cc nL own d rt pc (oc_X3_next n) := by
  refine h.by (fun k Q ls st μ h => ?_) (fun k k' Q ls st μ hk h => ?_)
  · unfold oc_X3_next at h
    split at h
    · rename_i t0 a0 r
      obtain ⟨rfl, h1, h2⟩ := h
      exact ⟨h1, a0, rfl, _, h2, fun r h => h⟩
    · exact h.elim
  · unfold oc_X3_next at h ⊢
    split at h
    · obtain ⟨rfl, h1, h2⟩ := h
      exact ⟨rfl, h1, mo_X3_next _ _ _ _ (fun q hq => hk _ hq) h2⟩
    · exact h.elim
def o_X3_next : List (Nat × ix_Op) := [
  (0, ix_aload 0 1),
  (1, ix_getr 2 3 (fun _ => 127) 4),
  (4, ix_aload 0 5),
  (5, ix_geti 2 3 8),
  (8, oc_X4_has 11),
  (11, ix_if (fun x => x = 0) 29 14),
  (14, ix_aload 0 15),
  (15, ix_getr 2 3 (fun _ => 127) 18),
  (18, ix_getr 3 20 (fun k => k + 1) 21),
  (21, ix_aload 0 22),
  (22, ix_geti 2 3 25),
  (25, ix_iald 26),
  (26, ix_goto 30),
  (29, ix_push (vi (-1)) 30),
  (30, ix_iret)]
set_option maxRecDepth 20000 in
theorem a_X3_next (l : Launch) : ix_AllS l cX3_next 1 RX3 2 (some .int) o_X3_next :=
  .cons (ix_s_aload_n dX3_next_0 rfl) <|
  .cons (ix_s_getr (j := 1) tu_X3 rfl (by decide) (by decide) tw_178 rfl ts_2_1_r dX3_next_1) <|
  .cons (ix_s_aload_n dX3_next_4 rfl) <|
  .cons (ix_s_geti (j := 3) tu_X3 rfl (by decide) (by decide) tw_180 rfl ts_2_3_i dX3_next_5) <|
  .cons (oc_X4_has_s (ix_s_callv (t := 3) (k_X4_has l) (by decide) (by decide) tw_474 tw_6 tw_471 tw_472 tw_473 ⟨by decide, by decide, by decide +kernel⟩ (by decide) rfl rfl (fun _ => ⟨_, _, rfl, rfl⟩) dX3_next_8)) <|
  .cons (ix_s_if_eq dX3_next_11 (by decide)) <|
  .cons (ix_s_aload_n dX3_next_14 rfl) <|
  .cons (ix_s_getr (j := 1) tu_X3 rfl (by decide) (by decide) tw_178 rfl ts_2_1_r dX3_next_15) <|
  .cons (ix_s_getr (j := 0) tu_X4 rfl (by decide) (by decide) tw_108 rfl ts_3_0_r dX3_next_18) <|
  .cons (ix_s_aload_n dX3_next_21 rfl) <|
  .cons (ix_s_geti (j := 3) tu_X3 rfl (by decide) (by decide) tw_180 rfl ts_2_3_i dX3_next_22) <|
  .cons (ix_s_iald dX3_next_25) <|
  .cons (ix_s_goto dX3_next_26 (by decide)) <|
  .cons (ix_s_iconst dX3_next_29 (by decide +kernel)) <|
  .cons (ix_s_iret dX3_next_30 rfl) <| .nil
theorem e_X3_next_0 (Q : ix_R → Prop) (ls : ix_L) (st : List ix_V) (μ : ix_M) : ix_Ev o_X3_next Q (0, ls, st, μ) = ix_aload 0 1 (ix_Ev o_X3_next Q) Q ls st μ := ix_Ev.eq (a_X3_next launch0) rfl ls st μ
theorem e_X3_next_1 (Q : ix_R → Prop) (ls : ix_L) (st : List ix_V) (μ : ix_M) : ix_Ev o_X3_next Q (1, ls, st, μ) = ix_getr 2 3 (fun _ => 127) 4 (ix_Ev o_X3_next Q) Q ls st μ := ix_Ev.eq (a_X3_next launch0) rfl ls st μ
theorem e_X3_next_4 (Q : ix_R → Prop) (ls : ix_L) (st : List ix_V) (μ : ix_M) : ix_Ev o_X3_next Q (4, ls, st, μ) = ix_aload 0 5 (ix_Ev o_X3_next Q) Q ls st μ := ix_Ev.eq (a_X3_next launch0) rfl ls st μ
theorem e_X3_next_5 (Q : ix_R → Prop) (ls : ix_L) (st : List ix_V) (μ : ix_M) : ix_Ev o_X3_next Q (5, ls, st, μ) = ix_geti 2 3 8 (ix_Ev o_X3_next Q) Q ls st μ := ix_Ev.eq (a_X3_next launch0) rfl ls st μ
theorem e_X3_next_8 (Q : ix_R → Prop) (ls : ix_L) (st : List ix_V) (μ : ix_M) : ix_Ev o_X3_next Q (8, ls, st, μ) = oc_X4_has 11 (ix_Ev o_X3_next Q) Q ls st μ := ix_Ev.eq (a_X3_next launch0) rfl ls st μ
theorem e_X3_next_11 (Q : ix_R → Prop) (ls : ix_L) (st : List ix_V) (μ : ix_M) : ix_Ev o_X3_next Q (11, ls, st, μ) = ix_if (fun x => x = 0) 29 14 (ix_Ev o_X3_next Q) Q ls st μ := ix_Ev.eq (a_X3_next launch0) rfl ls st μ
theorem e_X3_next_14 (Q : ix_R → Prop) (ls : ix_L) (st : List ix_V) (μ : ix_M) : ix_Ev o_X3_next Q (14, ls, st, μ) = ix_aload 0 15 (ix_Ev o_X3_next Q) Q ls st μ := ix_Ev.eq (a_X3_next launch0) rfl ls st μ
theorem e_X3_next_15 (Q : ix_R → Prop) (ls : ix_L) (st : List ix_V) (μ : ix_M) : ix_Ev o_X3_next Q (15, ls, st, μ) = ix_getr 2 3 (fun _ => 127) 18 (ix_Ev o_X3_next Q) Q ls st μ := ix_Ev.eq (a_X3_next launch0) rfl ls st μ
theorem e_X3_next_18 (Q : ix_R → Prop) (ls : ix_L) (st : List ix_V) (μ : ix_M) : ix_Ev o_X3_next Q (18, ls, st, μ) = ix_getr 3 20 (fun k => k + 1) 21 (ix_Ev o_X3_next Q) Q ls st μ := ix_Ev.eq (a_X3_next launch0) rfl ls st μ
theorem e_X3_next_21 (Q : ix_R → Prop) (ls : ix_L) (st : List ix_V) (μ : ix_M) : ix_Ev o_X3_next Q (21, ls, st, μ) = ix_aload 0 22 (ix_Ev o_X3_next Q) Q ls st μ := ix_Ev.eq (a_X3_next launch0) rfl ls st μ
theorem e_X3_next_22 (Q : ix_R → Prop) (ls : ix_L) (st : List ix_V) (μ : ix_M) : ix_Ev o_X3_next Q (22, ls, st, μ) = ix_geti 2 3 25 (ix_Ev o_X3_next Q) Q ls st μ := ix_Ev.eq (a_X3_next launch0) rfl ls st μ
theorem e_X3_next_25 (Q : ix_R → Prop) (ls : ix_L) (st : List ix_V) (μ : ix_M) : ix_Ev o_X3_next Q (25, ls, st, μ) = ix_iald 26 (ix_Ev o_X3_next Q) Q ls st μ := ix_Ev.eq (a_X3_next launch0) rfl ls st μ
theorem e_X3_next_26 (Q : ix_R → Prop) (ls : ix_L) (st : List ix_V) (μ : ix_M) : ix_Ev o_X3_next Q (26, ls, st, μ) = ix_goto 30 (ix_Ev o_X3_next Q) Q ls st μ := ix_Ev.eq (a_X3_next launch0) rfl ls st μ
theorem e_X3_next_29 (Q : ix_R → Prop) (ls : ix_L) (st : List ix_V) (μ : ix_M) : ix_Ev o_X3_next Q (29, ls, st, μ) = ix_push (vi (-1)) 30 (ix_Ev o_X3_next Q) Q ls st μ := ix_Ev.eq (a_X3_next launch0) rfl ls st μ
theorem e_X3_next_30 (Q : ix_R → Prop) (ls : ix_L) (st : List ix_V) (μ : ix_M) : ix_Ev o_X3_next Q (30, ls, st, μ) = ix_iret (ix_Ev o_X3_next Q) Q ls st μ := ix_Ev.eq (a_X3_next launch0) rfl ls st μ
theorem r_X3_next (o : Nat) (μ : ix_M) (Q : ix_R → Prop) (ok_o : o < ix_N ∧ ix_tag o = 2) (hT : T_X3_next o μ Q) : ix_Ev o_X3_next Q (0, [some (vr 2 o)], [], μ) := by
  obtain rfl := ok_2 o ok_o.1 ok_o.2
  obtain ⟨h1, hT⟩ := hT
  simp (decide := true) only [e_X3_next_0, e_X3_next_1, e_X3_next_4, e_X3_next_5, e_X3_next_8, e_X3_next_11, e_X3_next_14, e_X3_next_15, e_X3_next_18, e_X3_next_21, e_X3_next_22, e_X3_next_25, e_X3_next_26, e_X3_next_29, e_X3_next_30, vi, vl, vr, oc_X4_has, T_X4_has, ix_push, ix_iload, ix_lload, ix_aload, ix_istore, ix_astore, ix_iinc, ix_bin, ix_div, ix_un, ix_i2l, ix_l2i, ix_lbin, ix_lsh, ix_lcmp, ix_dup, ix_dup2, ix_pop, ix_if, ix_cmp, ix_goto, ix_switch, ix_sw, ix_iret, ix_zret, ix_vret, ix_aret, ix_geti, ix_getr, ix_puti, ix_putz, ix_puts, ix_gets, ix_iald, ix_iast, ix_alen, ix_aald, ix_gval, ix_gcod, ix_bald, ix_blen, ix_sald, ix_nret, ix_math2, ix_math1, ix_acopy, Nat.add_assoc, Int32.reduceLT, Int32.reduceLE, Int32.reduceToNatClampNeg, Int32.reduceSub, Int32.reduceAdd, Nat.reduceAdd, Nat.reduceLeDiff, true_or, or_true, or_false, false_or, not_false_eq_true, not_true_eq_false, false_implies, true_implies, implies_true, and_self, mB_0, mB_01, Classical.not_not, Nat.zero_le, List.getElem?_cons_zero, List.getElem?_cons_succ, List.set_cons_zero, List.set_cons_succ, ix_nl, ix_cs, true_and, and_true, Option.toList_some, Option.toList_none, List.cons_append, List.nil_append]
  unfold rNx at hT
  refine ⟨fun c => ?_, fun c => ⟨h1.in c.1 c.2, ?_⟩⟩
  · simpa only [if_neg c] using hT
  · simpa only [if_pos c] using hT
theorem k_X3_next (l : Launch) : ix_Ct l yX3_next cX3_next 1 (some .int) 2 sh_X3_next T_X3_next := ix_ct (a_X3_next l) rfl (by decide) (fun _ => Nat.le_of_ble_eq_true rfl) (fun x μ Q hok hT => r_X3_next x μ Q (ix_ok_at (hok (vr 2 x) (by simp [sh_X3_next])) (by decide) (by decide)) hT)
/-- the byte that comes -/
def nx (tp : Nat → Int32) (n a : Nat) : Int32 := if a < n then tp a else -1
/-- what a reader's memory holds: the tape, the use, how far, what is read -/
def RdC (μ : ix_M) (tp : Nat → Int32) (n u a : Nat) (cs : List Int32) : Prop :=
  (μ 127 1 = nI n ∧ n ≤ 50 ∧ (∀ j, j < n → μ 128 j = tp j) ∧ ∀ j, j < n → ∃ b, b < 256 ∧ tp j = nI b) ∧ (μ 88 2 = nI (u + 1) ∧ u ≤ 1) ∧ μ 88 3 = nI a ∧ (a ≤ n ∧ cs.length ≤ a) ∧ TxtC μ 89 cs
theorem l20 : ix_len 128 = 50 ∧ ix_len 91 = 50 := by decide +kernel
section RDC
variable {μ : ix_M} {tp : Nat → Int32} {n u a : Nat} {cs : List Int32}
theorem RdC.ro (h : RdC μ tp n u a cs) : RowOk μ 127 := by
  unfold RowOk
  have := h.1.2.1
  rw [h.1.1, nI_toInt (by omega), l20.1]
  omega
theorem RdC.ro2 (h : RdC μ tp n u a cs) : RowOk μ 90 := by
  unfold RowOk
  have := h.2.2.2.2.2.1
  rw [h.2.2.2.2.1, nI_toInt (by omega), l20.2]
  omega
theorem RdC.nxe (h : RdC μ tp n u a cs) : rNx μ = nx tp n a := by
  obtain ⟨⟨h1, h2, h3, h4⟩, h5, h6, h7, h8⟩ := h
  unfold rNx nx
  rw [h6, h1, nI_clamp (by omega)]
  by_cases c : a < n
  · rw [if_pos ⟨nI_pos (by omega), nI_ge c (by omega)⟩, if_pos c]
    exact h3 a c
  · rw [if_neg (fun z => z.2 (nI_le (by omega) (by omega))), if_neg c]
theorem RdC.byt (h : RdC μ tp n u a cs) : nx tp n a = -1 ∨ ∃ b, b < 256 ∧ nx tp n a = nI b := by
  unfold nx
  by_cases c : a < n
  · rw [if_pos c]
    exact Or.inr (h.1.2.2.2 a c)
  · rw [if_neg c]
    exact Or.inl rfl
theorem nx_in (h : nx tp n a ≠ -1) : a < n := by
  unfold nx at h
  by_cases c : a < n
  · exact c
  · rw [if_neg c] at h
    exact absurd rfl h
theorem RdC.at1 (h : RdC μ tp n u a cs) (hn : nx tp n a ≠ -1) : RdC (ix_up μ 88 3 (μ 88 3 + 1)) tp n u (a + 1) cs := by
  have hlt := nx_in hn
  obtain ⟨⟨h1, h2, h3, h4⟩, h5, h6, h7, h8⟩ := h
  rw [h6, nI_1]
  refine ⟨⟨by rw [ix_up_ne (by decide)]; exact h1, h2, fun j hj => by rw [ix_up_ne (by decide)]; exact h3 j hj, h4⟩, ⟨?_, h5.2⟩, ix_up_k _ _ _ _, ⟨by omega, by omega⟩, ?_, h8.2.1, fun j hj => ?_⟩
  · rw [ix_up_ap, if_neg (by decide)]
    exact h5.1
  · rw [ix_up_ne (by decide)]
    exact h8.1
  · rw [ix_up_ne (by decide)]
    exact h8.2.2 j hj
theorem RdC.push (h : RdC μ tp n u a cs) (c : Int32) (hl : cs.length < a) : RdC (rAdd μ 90 (tCls c)) tp n u a (cs ++ [c]) ∧ Fx [88, 90, 91] μ (rAdd μ 90 (tCls c)) := by
  obtain ⟨⟨h1, h2, h3, h4⟩, h5, h6, h7, h8⟩ := h
  have e1 : rAdd μ 90 (tCls c) = ix_up (ix_up μ 91 cs.length (tCls c)) 90 1 (nI (cs.length + 1)) := by
    unfold rAdd
    rw [h8.1, nI_toInt (by omega), l20.2, nI_clamp (by omega), if_pos (by omega), nI_1]
  rw [e1]
  refine ⟨⟨⟨by rw [ix_up_ne (by decide), ix_up_ne (by decide)]; exact h1, h2, fun j hj => by rw [ix_up_ne (by decide), ix_up_ne (by decide)]; exact h3 j hj, h4⟩, ⟨by rw [ix_up_ne (by decide), ix_up_ne (by decide)]; exact h5.1, h5.2⟩, by rw [ix_up_ne (by decide), ix_up_ne (by decide)]; exact h6, ⟨h7.1, by simp; omega⟩, ?_, by simp; omega, fun j hj => ?_⟩, (Fx.rf.up (by simp)).up (by simp)⟩
  · rw [ix_up_k]
    simp
  · rw [ix_up_ne (by decide), ix_up_ap]
    by_cases e : j = cs.length
    · subst e
      simp
    · simp only [List.length_append, List.length_cons, List.length_nil] at hj
      rw [if_neg (by simp [e]), h8.2.2 j (by omega)]
      simp only [List.getD_eq_getElem?_getD]
      rw [List.getElem?_append_left (by omega)]
end RDC
theorem isDg_of {c : Int32} (h : isDg c) : ∃ d, d < 10 ∧ c = nI (48 + d) := by
  obtain ⟨h1, h2⟩ := h
  rw [fa_le] at h1 h2
  have e1 : (48 : Int32).toInt = 48 := rfl
  have e2 : (57 : Int32).toInt = 57 := rfl
  refine ⟨c.toInt.toNat - 48, by omega, ?_⟩
  apply Int32.toInt_inj.mp
  rw [nI_toInt (by omega)]
  omega
/-- a number's digits -/
def rdN (tp : Nat → Int32) (n : Nat) (k : Nat) (v : Int32) (a : Nat) : Int32 × Nat := match k with
  | 0 => (v, a)
  | k + 1 => if isDg (nx tp n a) then rdN tp n k (10 * v + nx tp n a - 48) (a + 1) else (v, a)
theorem isDg_ne {c : Int32} (h : isDg c) : c ≠ -1 := by
  rintro rfl
  exact absurd h (by decide)
theorem rdN_ok {tp : Nat → Int32} {n : Nat} : ∀ (k : Nat) (V a : Nat), a ≤ n → ∃ W, (rdN tp n k (nI V) a).1 = nI W ∧ W < (V + 1) * 10 ^ k ∧ a ≤ (rdN tp n k (nI V) a).2 ∧ (rdN tp n k (nI V) a).2 ≤ n ∧ (0 < k → isDg (nx tp n a) → a < (rdN tp n k (nI V) a).2)
  | 0, V, a, h => ⟨V, rfl, by simp, Nat.le_refl _, h, fun z => absurd z (by decide)⟩
  | k + 1, V, a, h => by
    simp only [rdN]
    by_cases c : isDg (nx tp n a)
    · obtain ⟨d, hd, e⟩ := isDg_of c
      have hlt := nx_in (isDg_ne c)
      have e2 : 10 * nI V + nx tp n a - 48 = nI (10 * V + d) := by
        rw [e, fa_lit 10, fa_lit 48, show nI 10 * nI V = nI (10 * V) from (Int32.ofNat_mul 10 V).symm, nI_add, show 10 * V + (48 + d) = 10 * V + d + 48 by omega, ← nI_add, Int32.add_sub_cancel]
      rw [if_pos c, e2]
      obtain ⟨W, g1, g2, g3, g4, g5⟩ := rdN_ok (tp := tp) (n := n) k (10 * V + d) (a + 1) (by omega)
      refine ⟨W, g1, Nat.lt_of_lt_of_le g2 ?_, by omega, g4, fun _ _ => by omega⟩
      rw [Nat.pow_succ, Nat.mul_comm (10 ^ k) 10, ← Nat.mul_assoc]
      exact Nat.mul_le_mul_right _ (by omega)
    · rw [if_neg c]
      refine ⟨V, rfl, ?_, Nat.le_refl _, h, fun _ z => absurd z c⟩
      have := Nat.one_le_pow (k + 1) 10 (by decide)
      exact Nat.lt_of_lt_of_le (Nat.lt_succ_self V) (Nat.le_mul_of_pos_right _ this)

def T_X3_readNumber : Nat → ix_M → (ix_R → Prop) → Prop := fun _ μ Q => ∃ tp n u a cs, RdC μ tp n u a cs ∧ isDg (nx tp n a) ∧ ∀ μ', Fx [88, 90, 91] μ μ' → RdC μ' tp n u (rdN tp n 4 0 a).2 (cs ++ [(rdN tp n 4 0 a).1]) → Q (none, μ')
def sh_X3_readNumber (x : Nat) : List ix_V := [vr 2 x]
theorem mo_X3_readNumber (x : Nat) (μ : ix_M) (Q Q' : ix_R → Prop) (h : ∀ r, Q r → Q' r) (hT : T_X3_readNumber x μ Q) : T_X3_readNumber x μ Q' := by
  (obtain ⟨tp, n, u, a, cs, h1, h2, h3⟩ := hT; exact ⟨tp, n, u, a, cs, h1, h2, fun μ' x y => h _ (h3 μ' x y)⟩)
def oc_X3_readNumber (n : Nat) : ix_Op := fun k _ ls st μ => match st with
  | .inr (.inr (t0, a0)) :: r => t0 = 2 ∧ ix_cs r ≤ 8 ∧ T_X3_readNumber a0 μ (fun q => k (n, ls, q.1.toList ++ r, q.2))
  | _ => False
theorem oc_X3_readNumber_s {l : Launch} {cc : ByteArray} {nL : Nat} {own : String} {d : Nat} {rt : Option FieldType} {pc n : Nat} (h : ix_S l cc nL own d rt pc (ix_call 1 sh_X3_readNumber T_X3_readNumber n)) : ix_S l cc nL own d rt pc (oc_X3_readNumber n) := by
  refine h.by (fun k Q ls st μ h => ?_) (fun k k' Q ls st μ hk h => ?_)
  · unfold oc_X3_readNumber at h
    split at h
    · rename_i t0 a0 r
      obtain ⟨rfl, h1, h2⟩ := h
      exact ⟨h1, a0, rfl, _, h2, fun r h => h⟩
    · exact h.elim
  · unfold oc_X3_readNumber at h ⊢
    split at h
    · obtain ⟨rfl, h1, h2⟩ := h
      exact ⟨rfl, h1, mo_X3_readNumber _ _ _ _ (fun q hq => hk _ hq) h2⟩
    · exact h.elim
def o_X3_readNumber : List (Nat × ix_Op) := [
  (0, ix_push (vi 0) 1),
  (1, ix_istore 1 2),
  (2, ix_push (vi 0) 3),
  (3, ix_istore 2 4),
  (4, ix_iload 2 5),
  (5, ix_push (vi 4) 6),
  (6, ix_cmp (fun x y => y ≤ x) 48 9),
  (9, ix_aload 0 10),
  (10, oc_X3_next 13),
  (13, oc_X3_isDigit 16),
  (16, ix_if (fun x => x = 0) 48 19),
  (19, ix_push (vi 10) 21),
  (21, ix_iload 1 22),
  (22, ix_bin (fun x y => x * y) 23),
  (23, ix_aload 0 24),
  (24, oc_X3_next 27),
  (27, ix_bin (fun x y => x + y) 28),
  (28, ix_push (vi 48) 30),
  (30, ix_bin (fun x y => x - y) 31),
  (31, ix_istore 1 32),
  (32, ix_aload 0 33),
  (33, ix_dup 34),
  (34, ix_geti 2 3 37),
  (37, ix_push (vi 1) 38),
  (38, ix_bin (fun x y => x + y) 39),
  (39, ix_puti 2 3 42),
  (42, ix_iinc 2 1 45),
  (45, ix_goto 4),
  (48, ix_aload 0 49),
  (49, ix_getr 2 6 (fun _ => 89) 52),
  (52, ix_getr 6 3 (fun k => k + 1) 55),
  (55, ix_iload 1 56),
  (56, oc_X4_add 59),
  (59, ix_vret)]
set_option maxRecDepth 20000 in
theorem a_X3_readNumber (l : Launch) : ix_AllS l cX3_readNumber 3 RX3 3 none o_X3_readNumber :=
  .cons (ix_s_iconst dX3_readNumber_0 (by decide +kernel)) <|
  .cons (ix_s_istore_n dX3_readNumber_1 rfl (by decide)) <|
  .cons (ix_s_iconst dX3_readNumber_2 (by decide +kernel)) <|
  .cons (ix_s_istore_n dX3_readNumber_3 rfl (by decide)) <|
  .cons (ix_s_iload_n dX3_readNumber_4 rfl) <|
  .cons (ix_s_iconst dX3_readNumber_5 (by decide +kernel)) <|
  .cons (ix_s_cmp_ge dX3_readNumber_6 (by decide)) <|
  .cons (ix_s_aload_n dX3_readNumber_9 rfl) <|
  .cons (oc_X3_next_s (ix_s_callv (t := 2) (k_X3_next l) (by decide) (by decide) tw_470 tw_8 tw_467 tw_469 tp_4 ⟨by decide, by decide, by decide +kernel⟩ (by decide) rfl rfl (fun _ => ⟨_, _, rfl, rfl⟩) dX3_readNumber_10)) <|
  .cons (oc_X3_isDigit_s (ix_s_calls (k_X3_isDigit l) (by decide) (by decide) tw_477 tw_8 tw_475 tw_476 ⟨by decide, by decide, by decide +kernel⟩ (fun _ => rfl) dX3_readNumber_13)) <|
  .cons (ix_s_if_eq dX3_readNumber_16 (by decide)) <|
  .cons (ix_s_bipush dX3_readNumber_19 (by decide +kernel)) <|
  .cons (ix_s_iload_n dX3_readNumber_21 rfl) <|
  .cons (ix_s_imul dX3_readNumber_22) <|
  .cons (ix_s_aload_n dX3_readNumber_23 rfl) <|
  .cons (oc_X3_next_s (ix_s_callv (t := 2) (k_X3_next l) (by decide) (by decide) tw_470 tw_8 tw_467 tw_469 tp_4 ⟨by decide, by decide, by decide +kernel⟩ (by decide) rfl rfl (fun _ => ⟨_, _, rfl, rfl⟩) dX3_readNumber_24)) <|
  .cons (ix_s_iadd dX3_readNumber_27) <|
  .cons (ix_s_bipush dX3_readNumber_28 (by decide +kernel)) <|
  .cons (ix_s_isub dX3_readNumber_30) <|
  .cons (ix_s_istore_n dX3_readNumber_31 rfl (by decide)) <|
  .cons (ix_s_aload_n dX3_readNumber_32 rfl) <|
  .cons (ix_s_dup dX3_readNumber_33) <|
  .cons (ix_s_geti (j := 3) tu_X3 rfl (by decide) (by decide) tw_180 rfl ts_2_3_i dX3_readNumber_34) <|
  .cons (ix_s_iconst dX3_readNumber_37 (by decide +kernel)) <|
  .cons (ix_s_iadd dX3_readNumber_38) <|
  .cons (ix_s_puti (j := 3) tu_X3 tyX3_ok nmX3 rfl (by decide) (by decide) tw_180 rfl rfl (by decide +kernel) ts_2_3_p dX3_readNumber_39) <|
  .cons (ix_s_iinc dX3_readNumber_42 (by decide +kernel) (by decide)) <|
  .cons (ix_s_goto dX3_readNumber_45 (by decide)) <|
  .cons (ix_s_aload_n dX3_readNumber_48 rfl) <|
  .cons (ix_s_getr (j := 0) tu_X3 rfl (by decide) (by decide) tw_176 rfl ts_2_0_r dX3_readNumber_49) <|
  .cons (ix_s_getr (j := 0) tu_X7 rfl (by decide) (by decide) tw_120 rfl ts_6_0_r dX3_readNumber_52) <|
  .cons (ix_s_iload_n dX3_readNumber_55 rfl) <|
  .cons (oc_X4_add_s (ix_s_callv (t := 3) (k_X4_add l) (by decide) (by decide) tw_436 tw_6 tw_482 tw_434 tw_435 ⟨by decide, by decide, by decide +kernel⟩ (by decide) rfl rfl (fun _ => ⟨_, _, rfl, rfl⟩) dX3_readNumber_56)) <|
  .cons (ix_s_vret dX3_readNumber_59 rfl) <| .nil
theorem e_X3_readNumber_0 (Q : ix_R → Prop) (ls : ix_L) (st : List ix_V) (μ : ix_M) : ix_Ev o_X3_readNumber Q (0, ls, st, μ) = ix_push (vi 0) 1 (ix_Ev o_X3_readNumber Q) Q ls st μ := ix_Ev.eq (a_X3_readNumber launch0) rfl ls st μ
theorem e_X3_readNumber_1 (Q : ix_R → Prop) (ls : ix_L) (st : List ix_V) (μ : ix_M) : ix_Ev o_X3_readNumber Q (1, ls, st, μ) = ix_istore 1 2 (ix_Ev o_X3_readNumber Q) Q ls st μ := ix_Ev.eq (a_X3_readNumber launch0) rfl ls st μ
theorem e_X3_readNumber_2 (Q : ix_R → Prop) (ls : ix_L) (st : List ix_V) (μ : ix_M) : ix_Ev o_X3_readNumber Q (2, ls, st, μ) = ix_push (vi 0) 3 (ix_Ev o_X3_readNumber Q) Q ls st μ := ix_Ev.eq (a_X3_readNumber launch0) rfl ls st μ
theorem e_X3_readNumber_3 (Q : ix_R → Prop) (ls : ix_L) (st : List ix_V) (μ : ix_M) : ix_Ev o_X3_readNumber Q (3, ls, st, μ) = ix_istore 2 4 (ix_Ev o_X3_readNumber Q) Q ls st μ := ix_Ev.eq (a_X3_readNumber launch0) rfl ls st μ
theorem e_X3_readNumber_4 (Q : ix_R → Prop) (ls : ix_L) (st : List ix_V) (μ : ix_M) : ix_Ev o_X3_readNumber Q (4, ls, st, μ) = ix_iload 2 5 (ix_Ev o_X3_readNumber Q) Q ls st μ := ix_Ev.eq (a_X3_readNumber launch0) rfl ls st μ
theorem e_X3_readNumber_5 (Q : ix_R → Prop) (ls : ix_L) (st : List ix_V) (μ : ix_M) : ix_Ev o_X3_readNumber Q (5, ls, st, μ) = ix_push (vi 4) 6 (ix_Ev o_X3_readNumber Q) Q ls st μ := ix_Ev.eq (a_X3_readNumber launch0) rfl ls st μ
theorem e_X3_readNumber_6 (Q : ix_R → Prop) (ls : ix_L) (st : List ix_V) (μ : ix_M) : ix_Ev o_X3_readNumber Q (6, ls, st, μ) = ix_cmp (fun x y => y ≤ x) 48 9 (ix_Ev o_X3_readNumber Q) Q ls st μ := ix_Ev.eq (a_X3_readNumber launch0) rfl ls st μ
theorem e_X3_readNumber_9 (Q : ix_R → Prop) (ls : ix_L) (st : List ix_V) (μ : ix_M) : ix_Ev o_X3_readNumber Q (9, ls, st, μ) = ix_aload 0 10 (ix_Ev o_X3_readNumber Q) Q ls st μ := ix_Ev.eq (a_X3_readNumber launch0) rfl ls st μ
theorem e_X3_readNumber_10 (Q : ix_R → Prop) (ls : ix_L) (st : List ix_V) (μ : ix_M) : ix_Ev o_X3_readNumber Q (10, ls, st, μ) = oc_X3_next 13 (ix_Ev o_X3_readNumber Q) Q ls st μ := ix_Ev.eq (a_X3_readNumber launch0) rfl ls st μ
theorem e_X3_readNumber_13 (Q : ix_R → Prop) (ls : ix_L) (st : List ix_V) (μ : ix_M) : ix_Ev o_X3_readNumber Q (13, ls, st, μ) = oc_X3_isDigit 16 (ix_Ev o_X3_readNumber Q) Q ls st μ := ix_Ev.eq (a_X3_readNumber launch0) rfl ls st μ
theorem e_X3_readNumber_16 (Q : ix_R → Prop) (ls : ix_L) (st : List ix_V) (μ : ix_M) : ix_Ev o_X3_readNumber Q (16, ls, st, μ) = ix_if (fun x => x = 0) 48 19 (ix_Ev o_X3_readNumber Q) Q ls st μ := ix_Ev.eq (a_X3_readNumber launch0) rfl ls st μ
theorem e_X3_readNumber_19 (Q : ix_R → Prop) (ls : ix_L) (st : List ix_V) (μ : ix_M) : ix_Ev o_X3_readNumber Q (19, ls, st, μ) = ix_push (vi 10) 21 (ix_Ev o_X3_readNumber Q) Q ls st μ := ix_Ev.eq (a_X3_readNumber launch0) rfl ls st μ
theorem e_X3_readNumber_21 (Q : ix_R → Prop) (ls : ix_L) (st : List ix_V) (μ : ix_M) : ix_Ev o_X3_readNumber Q (21, ls, st, μ) = ix_iload 1 22 (ix_Ev o_X3_readNumber Q) Q ls st μ := ix_Ev.eq (a_X3_readNumber launch0) rfl ls st μ
theorem e_X3_readNumber_22 (Q : ix_R → Prop) (ls : ix_L) (st : List ix_V) (μ : ix_M) : ix_Ev o_X3_readNumber Q (22, ls, st, μ) = ix_bin (fun x y => x * y) 23 (ix_Ev o_X3_readNumber Q) Q ls st μ := ix_Ev.eq (a_X3_readNumber launch0) rfl ls st μ
theorem e_X3_readNumber_23 (Q : ix_R → Prop) (ls : ix_L) (st : List ix_V) (μ : ix_M) : ix_Ev o_X3_readNumber Q (23, ls, st, μ) = ix_aload 0 24 (ix_Ev o_X3_readNumber Q) Q ls st μ := ix_Ev.eq (a_X3_readNumber launch0) rfl ls st μ
theorem e_X3_readNumber_24 (Q : ix_R → Prop) (ls : ix_L) (st : List ix_V) (μ : ix_M) : ix_Ev o_X3_readNumber Q (24, ls, st, μ) = oc_X3_next 27 (ix_Ev o_X3_readNumber Q) Q ls st μ := ix_Ev.eq (a_X3_readNumber launch0) rfl ls st μ
theorem e_X3_readNumber_27 (Q : ix_R → Prop) (ls : ix_L) (st : List ix_V) (μ : ix_M) : ix_Ev o_X3_readNumber Q (27, ls, st, μ) = ix_bin (fun x y => x + y) 28 (ix_Ev o_X3_readNumber Q) Q ls st μ := ix_Ev.eq (a_X3_readNumber launch0) rfl ls st μ
theorem e_X3_readNumber_28 (Q : ix_R → Prop) (ls : ix_L) (st : List ix_V) (μ : ix_M) : ix_Ev o_X3_readNumber Q (28, ls, st, μ) = ix_push (vi 48) 30 (ix_Ev o_X3_readNumber Q) Q ls st μ := ix_Ev.eq (a_X3_readNumber launch0) rfl ls st μ
theorem e_X3_readNumber_30 (Q : ix_R → Prop) (ls : ix_L) (st : List ix_V) (μ : ix_M) : ix_Ev o_X3_readNumber Q (30, ls, st, μ) = ix_bin (fun x y => x - y) 31 (ix_Ev o_X3_readNumber Q) Q ls st μ := ix_Ev.eq (a_X3_readNumber launch0) rfl ls st μ
theorem e_X3_readNumber_31 (Q : ix_R → Prop) (ls : ix_L) (st : List ix_V) (μ : ix_M) : ix_Ev o_X3_readNumber Q (31, ls, st, μ) = ix_istore 1 32 (ix_Ev o_X3_readNumber Q) Q ls st μ := ix_Ev.eq (a_X3_readNumber launch0) rfl ls st μ
theorem e_X3_readNumber_32 (Q : ix_R → Prop) (ls : ix_L) (st : List ix_V) (μ : ix_M) : ix_Ev o_X3_readNumber Q (32, ls, st, μ) = ix_aload 0 33 (ix_Ev o_X3_readNumber Q) Q ls st μ := ix_Ev.eq (a_X3_readNumber launch0) rfl ls st μ
theorem e_X3_readNumber_33 (Q : ix_R → Prop) (ls : ix_L) (st : List ix_V) (μ : ix_M) : ix_Ev o_X3_readNumber Q (33, ls, st, μ) = ix_dup 34 (ix_Ev o_X3_readNumber Q) Q ls st μ := ix_Ev.eq (a_X3_readNumber launch0) rfl ls st μ
theorem e_X3_readNumber_34 (Q : ix_R → Prop) (ls : ix_L) (st : List ix_V) (μ : ix_M) : ix_Ev o_X3_readNumber Q (34, ls, st, μ) = ix_geti 2 3 37 (ix_Ev o_X3_readNumber Q) Q ls st μ := ix_Ev.eq (a_X3_readNumber launch0) rfl ls st μ
theorem e_X3_readNumber_37 (Q : ix_R → Prop) (ls : ix_L) (st : List ix_V) (μ : ix_M) : ix_Ev o_X3_readNumber Q (37, ls, st, μ) = ix_push (vi 1) 38 (ix_Ev o_X3_readNumber Q) Q ls st μ := ix_Ev.eq (a_X3_readNumber launch0) rfl ls st μ
theorem e_X3_readNumber_38 (Q : ix_R → Prop) (ls : ix_L) (st : List ix_V) (μ : ix_M) : ix_Ev o_X3_readNumber Q (38, ls, st, μ) = ix_bin (fun x y => x + y) 39 (ix_Ev o_X3_readNumber Q) Q ls st μ := ix_Ev.eq (a_X3_readNumber launch0) rfl ls st μ
theorem e_X3_readNumber_39 (Q : ix_R → Prop) (ls : ix_L) (st : List ix_V) (μ : ix_M) : ix_Ev o_X3_readNumber Q (39, ls, st, μ) = ix_puti 2 3 42 (ix_Ev o_X3_readNumber Q) Q ls st μ := ix_Ev.eq (a_X3_readNumber launch0) rfl ls st μ
theorem e_X3_readNumber_42 (Q : ix_R → Prop) (ls : ix_L) (st : List ix_V) (μ : ix_M) : ix_Ev o_X3_readNumber Q (42, ls, st, μ) = ix_iinc 2 1 45 (ix_Ev o_X3_readNumber Q) Q ls st μ := ix_Ev.eq (a_X3_readNumber launch0) rfl ls st μ
theorem e_X3_readNumber_45 (Q : ix_R → Prop) (ls : ix_L) (st : List ix_V) (μ : ix_M) : ix_Ev o_X3_readNumber Q (45, ls, st, μ) = ix_goto 4 (ix_Ev o_X3_readNumber Q) Q ls st μ := ix_Ev.eq (a_X3_readNumber launch0) rfl ls st μ
theorem e_X3_readNumber_48 (Q : ix_R → Prop) (ls : ix_L) (st : List ix_V) (μ : ix_M) : ix_Ev o_X3_readNumber Q (48, ls, st, μ) = ix_aload 0 49 (ix_Ev o_X3_readNumber Q) Q ls st μ := ix_Ev.eq (a_X3_readNumber launch0) rfl ls st μ
theorem e_X3_readNumber_49 (Q : ix_R → Prop) (ls : ix_L) (st : List ix_V) (μ : ix_M) : ix_Ev o_X3_readNumber Q (49, ls, st, μ) = ix_getr 2 6 (fun _ => 89) 52 (ix_Ev o_X3_readNumber Q) Q ls st μ := ix_Ev.eq (a_X3_readNumber launch0) rfl ls st μ
theorem e_X3_readNumber_52 (Q : ix_R → Prop) (ls : ix_L) (st : List ix_V) (μ : ix_M) : ix_Ev o_X3_readNumber Q (52, ls, st, μ) = ix_getr 6 3 (fun k => k + 1) 55 (ix_Ev o_X3_readNumber Q) Q ls st μ := ix_Ev.eq (a_X3_readNumber launch0) rfl ls st μ
theorem e_X3_readNumber_55 (Q : ix_R → Prop) (ls : ix_L) (st : List ix_V) (μ : ix_M) : ix_Ev o_X3_readNumber Q (55, ls, st, μ) = ix_iload 1 56 (ix_Ev o_X3_readNumber Q) Q ls st μ := ix_Ev.eq (a_X3_readNumber launch0) rfl ls st μ
theorem e_X3_readNumber_56 (Q : ix_R → Prop) (ls : ix_L) (st : List ix_V) (μ : ix_M) : ix_Ev o_X3_readNumber Q (56, ls, st, μ) = oc_X4_add 59 (ix_Ev o_X3_readNumber Q) Q ls st μ := ix_Ev.eq (a_X3_readNumber launch0) rfl ls st μ
theorem e_X3_readNumber_59 (Q : ix_R → Prop) (ls : ix_L) (st : List ix_V) (μ : ix_M) : ix_Ev o_X3_readNumber Q (59, ls, st, μ) = ix_vret (ix_Ev o_X3_readNumber Q) Q ls st μ := ix_Ev.eq (a_X3_readNumber launch0) rfl ls st μ
theorem tCls_lt {W : Nat} (h : W < 10000) : tCls (nI W) = nI W := by
  unfold tCls
  rw [if_pos]
  rw [fa_lit 10000]
  exact nI_lt h (by decide)
theorem l_X3_readNumber {tp : Nat → Int32} {n u : Nat} {cs : List Int32} {μ : ix_M} {Q : ix_R → Prop} {a0 : Nat} (hcs : cs.length ≤ a0) (hQ : ∀ μ', Fx [88, 90, 91] μ μ' → RdC μ' tp n u (rdN tp n 4 0 a0).2 (cs ++ [(rdN tp n 4 0 a0).1]) → Q (none, μ')) (hp : a0 < (rdN tp n 4 0 a0).2) (hW : ∃ W, W < 10000 ∧ (rdN tp n 4 0 a0).1 = nI W) : ∀ (k i : Nat) (v : Int32) (a : Nat) (μ1 : ix_M), i + k = 4 → Fx [88, 90, 91] μ μ1 → RdC μ1 tp n u a cs → rdN tp n k v a = rdN tp n 4 0 a0 → ix_Ev o_X3_readNumber Q (4, [some (vr 2 88), some (vi v), some (vi (nI i))], [], μ1) := by
  have fin : ∀ (v : Int32) (a : Nat) (μ1 : ix_M), Fx [88, 90, 91] μ μ1 → RdC μ1 tp n u a cs → (v, a) = rdN tp n 4 0 a0 → Q (none, rAdd μ1 90 v) := by
    intro v a μ1 hF hR e
    obtain ⟨W, hW1, hW2⟩ := hW
    rw [← e] at hp hW2 hQ
    simp only at hp hW2 hQ
    obtain ⟨g1, g2⟩ := hR.push v (by omega)
    rw [show tCls v = v by rw [hW2]; exact tCls_lt hW1] at g1 g2
    exact hQ _ (hF.tr g2) g1
  intro k
  induction k with
  | zero =>
    intro i v a μ1 hi hF hR e
    have hi : i = 4 := hi
    subst hi
    rw [e_X3_readNumber_4]
    simp (decide := true) only [e_X3_readNumber_0, e_X3_readNumber_1, e_X3_readNumber_2, e_X3_readNumber_3, e_X3_readNumber_5, e_X3_readNumber_6, e_X3_readNumber_9, e_X3_readNumber_10, e_X3_readNumber_13, e_X3_readNumber_16, e_X3_readNumber_19, e_X3_readNumber_21, e_X3_readNumber_22, e_X3_readNumber_23, e_X3_readNumber_24, e_X3_readNumber_27, e_X3_readNumber_28, e_X3_readNumber_30, e_X3_readNumber_31, e_X3_readNumber_32, e_X3_readNumber_33, e_X3_readNumber_34, e_X3_readNumber_37, e_X3_readNumber_38, e_X3_readNumber_39, e_X3_readNumber_42, e_X3_readNumber_45, e_X3_readNumber_48, e_X3_readNumber_49, e_X3_readNumber_52, e_X3_readNumber_55, e_X3_readNumber_56, e_X3_readNumber_59, vi, vl, vr, oc_X3_isDigit, T_X3_isDigit, oc_X3_next, T_X3_next, oc_X4_add, T_X4_add, ix_push, ix_iload, ix_lload, ix_aload, ix_istore, ix_astore, ix_iinc, ix_bin, ix_div, ix_un, ix_i2l, ix_l2i, ix_lbin, ix_lsh, ix_lcmp, ix_dup, ix_dup2, ix_pop, ix_if, ix_cmp, ix_goto, ix_switch, ix_sw, ix_iret, ix_zret, ix_vret, ix_aret, ix_geti, ix_getr, ix_puti, ix_putz, ix_puts, ix_gets, ix_iald, ix_iast, ix_alen, ix_aald, ix_gval, ix_gcod, ix_bald, ix_blen, ix_sald, ix_nret, ix_math2, ix_math1, ix_acopy, Nat.add_assoc, Int32.reduceLT, Int32.reduceLE, Int32.reduceToNatClampNeg, Int32.reduceSub, Int32.reduceAdd, Nat.reduceAdd, Nat.reduceLeDiff, true_or, or_true, or_false, false_or, not_false_eq_true, not_true_eq_false, false_implies, true_implies, implies_true, and_self, mB_0, mB_01, Classical.not_not, Nat.zero_le, List.getElem?_cons_zero, List.getElem?_cons_succ, List.set_cons_zero, List.set_cons_succ, ix_nl, ix_cs, true_and, and_true, Option.toList_some, Option.toList_none, List.cons_append, List.nil_append]
    exact ⟨hR.ro2, fin v a μ1 hF hR e⟩
  | succ k ih =>
    intro i v a μ1 hi hF hR e
    have hng : ¬ (4 : Int32) ≤ nI i := by
      rw [fa_lit 4]
      exact nI_ge (by omega) (by decide)
    have hi1 : nI i + 1 = nI (i + 1) := nI_1 i
    rw [e_X3_readNumber_4]
    simp (decide := true) only [e_X3_readNumber_0, e_X3_readNumber_1, e_X3_readNumber_2, e_X3_readNumber_3, e_X3_readNumber_5, e_X3_readNumber_6, e_X3_readNumber_9, e_X3_readNumber_10, e_X3_readNumber_13, e_X3_readNumber_16, e_X3_readNumber_19, e_X3_readNumber_21, e_X3_readNumber_22, e_X3_readNumber_23, e_X3_readNumber_24, e_X3_readNumber_27, e_X3_readNumber_28, e_X3_readNumber_30, e_X3_readNumber_31, e_X3_readNumber_32, e_X3_readNumber_33, e_X3_readNumber_34, e_X3_readNumber_37, e_X3_readNumber_38, e_X3_readNumber_39, e_X3_readNumber_42, e_X3_readNumber_45, e_X3_readNumber_48, e_X3_readNumber_49, e_X3_readNumber_52, e_X3_readNumber_55, e_X3_readNumber_56, e_X3_readNumber_59, vi, vl, vr, oc_X3_isDigit, T_X3_isDigit, oc_X3_next, T_X3_next, oc_X4_add, T_X4_add, ix_push, ix_iload, ix_lload, ix_aload, ix_istore, ix_astore, ix_iinc, ix_bin, ix_div, ix_un, ix_i2l, ix_l2i, ix_lbin, ix_lsh, ix_lcmp, ix_dup, ix_dup2, ix_pop, ix_if, ix_cmp, ix_goto, ix_switch, ix_sw, ix_iret, ix_zret, ix_vret, ix_aret, ix_geti, ix_getr, ix_puti, ix_putz, ix_puts, ix_gets, ix_iald, ix_iast, ix_alen, ix_aald, ix_gval, ix_gcod, ix_bald, ix_blen, ix_sald, ix_nret, ix_math2, ix_math1, ix_acopy, Nat.add_assoc, Int32.reduceLT, Int32.reduceLE, Int32.reduceToNatClampNeg, Int32.reduceSub, Int32.reduceAdd, Nat.reduceAdd, Nat.reduceLeDiff, true_or, or_true, or_false, false_or, not_false_eq_true, not_true_eq_false, false_implies, true_implies, implies_true, and_self, mB_0, mB_01, Classical.not_not, Nat.zero_le, List.getElem?_cons_zero, List.getElem?_cons_succ, List.set_cons_zero, List.set_cons_succ, ix_nl, ix_cs, true_and, and_true, Option.toList_some, Option.toList_none, List.cons_append, List.nil_append, hng, hi1, hR.nxe]
    refine ⟨hR.ro, fun c => ⟨hR.ro2, fin v a μ1 hF hR ?_⟩, fun c => ⟨hR.ro, ?_⟩⟩
    · rw [rdN, if_neg c] at e
      exact e
    · rw [rdN, if_pos c] at e
      exact ih (i + 1) _ (a + 1) _ (by omega) (hF.up (by simp)) (hR.at1 (isDg_ne c)) e
theorem r_X3_readNumber (o : Nat) (μ : ix_M) (Q : ix_R → Prop) (ok_o : o < ix_N ∧ ix_tag o = 2) (hT : T_X3_readNumber o μ Q) : ix_Ev o_X3_readNumber Q (0, [some (vr 2 o), none, none], [], μ) := by
  obtain rfl := ok_2 o ok_o.1 ok_o.2
  obtain ⟨tp, n, u, a, cs, hR, hd, hQ⟩ := hT
  obtain ⟨W, g1, g2, g3, g4, g5⟩ := rdN_ok (tp := tp) (n := n) 4 0 a hR.2.2.2.1.1
  simp (decide := true) only [e_X3_readNumber_0, e_X3_readNumber_1, e_X3_readNumber_2, e_X3_readNumber_3, e_X3_readNumber_5, e_X3_readNumber_6, e_X3_readNumber_9, e_X3_readNumber_10, e_X3_readNumber_13, e_X3_readNumber_16, e_X3_readNumber_19, e_X3_readNumber_21, e_X3_readNumber_22, e_X3_readNumber_23, e_X3_readNumber_24, e_X3_readNumber_27, e_X3_readNumber_28, e_X3_readNumber_30, e_X3_readNumber_31, e_X3_readNumber_32, e_X3_readNumber_33, e_X3_readNumber_34, e_X3_readNumber_37, e_X3_readNumber_38, e_X3_readNumber_39, e_X3_readNumber_42, e_X3_readNumber_45, e_X3_readNumber_48, e_X3_readNumber_49, e_X3_readNumber_52, e_X3_readNumber_55, e_X3_readNumber_56, e_X3_readNumber_59, vi, vl, vr, oc_X3_isDigit, T_X3_isDigit, oc_X3_next, T_X3_next, oc_X4_add, T_X4_add, ix_push, ix_iload, ix_lload, ix_aload, ix_istore, ix_astore, ix_iinc, ix_bin, ix_div, ix_un, ix_i2l, ix_l2i, ix_lbin, ix_lsh, ix_lcmp, ix_dup, ix_dup2, ix_pop, ix_if, ix_cmp, ix_goto, ix_switch, ix_sw, ix_iret, ix_zret, ix_vret, ix_aret, ix_geti, ix_getr, ix_puti, ix_putz, ix_puts, ix_gets, ix_iald, ix_iast, ix_alen, ix_aald, ix_gval, ix_gcod, ix_bald, ix_blen, ix_sald, ix_nret, ix_math2, ix_math1, ix_acopy, Nat.add_assoc, Int32.reduceLT, Int32.reduceLE, Int32.reduceToNatClampNeg, Int32.reduceSub, Int32.reduceAdd, Nat.reduceAdd, Nat.reduceLeDiff, true_or, or_true, or_false, false_or, not_false_eq_true, not_true_eq_false, false_implies, true_implies, implies_true, and_self, mB_0, mB_01, Classical.not_not, Nat.zero_le, List.getElem?_cons_zero, List.getElem?_cons_succ, List.set_cons_zero, List.set_cons_succ, ix_nl, ix_cs, true_and, and_true, Option.toList_some, Option.toList_none, List.cons_append, List.nil_append]
  exact l_X3_readNumber hR.2.2.2.1.2 hQ (g5 (by decide) hd) ⟨W, by simpa using g2, g1⟩ 4 0 0 a μ rfl Fx.rf hR rfl
theorem k_X3_readNumber (l : Launch) : ix_Ct l yX3_readNumber cX3_readNumber 3 none 3 sh_X3_readNumber T_X3_readNumber := ix_ct (a_X3_readNumber l) rfl (by decide) (fun _ => Nat.le_of_ble_eq_true rfl) (fun x μ Q hok hT => r_X3_readNumber x μ Q (ix_ok_at (hok (vr 2 x) (by simp [sh_X3_readNumber])) (by decide) (by decide)) hT)
