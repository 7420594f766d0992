/-! ===== Kinds ===== -/
def mAbove (k : Int32) : Int32 := if k = 1 then 0 else if k = 2 then 0 else if k = 3 then 0 else if k = 4 then 1 else if k = 5 then 2 else if k = 6 then 3 else -1
def T_X0_above : Int32 → ix_M → (ix_R → Prop) → Prop := fun k μ Q => Q (some (vi (mAbove k)), μ)
def sh_X0_above (x : Int32) : List ix_V := [vi x]
theorem mo_X0_above (x : Int32) (μ : ix_M) (Q Q' : ix_R → Prop) (h : ∀ r, Q r → Q' r) (hT : T_X0_above x μ Q) : T_X0_above x μ Q' := by
  first | exact h _ hT | exact ⟨hT.1, h _ hT.2⟩ | exact fun r hr => h _ (hT r hr) | exact ⟨hT.1, fun r hr => h _ (hT.2 r hr)⟩ | exact ⟨hT.1, hT.2.1, fun r hr => h _ (hT.2.2 r hr)⟩
def oc_X0_above (n : Nat) : ix_Op := fun k _ ls st μ => match st with
  | .inl a0 :: r => ix_cs r ≤ 8 ∧ T_X0_above a0 μ (fun q => k (n, ls, q.1.toList ++ r, q.2))
  | _ => False
theorem oc_X0_above_s {l : Launch} {cc : ByteArray} {nL : Nat} {own : String} {d : Nat} {rt : Option FieldType} {pc n : Nat} (h : ix_S l cc nL own d rt pc (ix_call 1 sh_X0_above T_X0_above n)) : ix_S l cc nL own d rt pc (oc_X0_above n) := by
  refine h.by (fun k Q ls st μ h => ?_) (fun k k' Q ls st μ hk h => ?_)
  · unfold oc_X0_above at h
    split at h
    · rename_i a0 r
      obtain ⟨h1, h2⟩ := h
      exact ⟨h1, a0, rfl, _, h2, fun r h => h⟩
    · exact h.elim
  · unfold oc_X0_above at h ⊢
    split at h
    · obtain ⟨h1, h2⟩ := h
      exact ⟨h1, mo_X0_above _ _ _ _ (fun q hq => hk _ hq) h2⟩
    · exact h.elim
def o_X0_above : List (Nat × ix_Op) := [
  (0, ix_iload 0 1),
  (1, ix_switch [(1, 40), (2, 40), (3, 40), (4, 42), (5, 44), (6, 46)] 48),
  (40, ix_push (vi 0) 41),
  (41, ix_iret),
  (42, ix_push (vi 1) 43),
  (43, ix_iret),
  (44, ix_push (vi 2) 45),
  (45, ix_iret),
  (46, ix_push (vi 3) 47),
  (47, ix_iret),
  (48, ix_push (vi (-1)) 49),
  (49, ix_iret)]
set_option maxRecDepth 20000 in
theorem a_X0_above (l : Launch) : ix_AllS l cX0_above 1 RX0 1 (some .int) o_X0_above :=
  .cons (ix_s_iload_n dX0_above_0 rfl) <|
  .cons (ix_s_tab dX0_above_1 (by decide) (by decide +kernel) (by decide +kernel)) <|
  .cons (ix_s_iconst dX0_above_40 (by decide +kernel)) <|
  .cons (ix_s_iret dX0_above_41 rfl) <|
  .cons (ix_s_iconst dX0_above_42 (by decide +kernel)) <|
  .cons (ix_s_iret dX0_above_43 rfl) <|
  .cons (ix_s_iconst dX0_above_44 (by decide +kernel)) <|
  .cons (ix_s_iret dX0_above_45 rfl) <|
  .cons (ix_s_iconst dX0_above_46 (by decide +kernel)) <|
  .cons (ix_s_iret dX0_above_47 rfl) <|
  .cons (ix_s_iconst dX0_above_48 (by decide +kernel)) <|
  .cons (ix_s_iret dX0_above_49 rfl) <| .nil
theorem e_X0_above_0 (Q : ix_R → Prop) (ls : ix_L) (st : List ix_V) (μ : ix_M) : ix_Ev o_X0_above Q (0, ls, st, μ) = ix_iload 0 1 (ix_Ev o_X0_above Q) Q ls st μ := ix_Ev.eq (a_X0_above launch0) rfl ls st μ
theorem e_X0_above_1 (Q : ix_R → Prop) (ls : ix_L) (st : List ix_V) (μ : ix_M) : ix_Ev o_X0_above Q (1, ls, st, μ) = ix_switch [(1, 40), (2, 40), (3, 40), (4, 42), (5, 44), (6, 46)] 48 (ix_Ev o_X0_above Q) Q ls st μ := ix_Ev.eq (a_X0_above launch0) rfl ls st μ
theorem e_X0_above_40 (Q : ix_R → Prop) (ls : ix_L) (st : List ix_V) (μ : ix_M) : ix_Ev o_X0_above Q (40, ls, st, μ) = ix_push (vi 0) 41 (ix_Ev o_X0_above Q) Q ls st μ := ix_Ev.eq (a_X0_above launch0) rfl ls st μ
theorem e_X0_above_41 (Q : ix_R → Prop) (ls : ix_L) (st : List ix_V) (μ : ix_M) : ix_Ev o_X0_above Q (41, ls, st, μ) = ix_iret (ix_Ev o_X0_above Q) Q ls st μ := ix_Ev.eq (a_X0_above launch0) rfl ls st μ
theorem e_X0_above_42 (Q : ix_R → Prop) (ls : ix_L) (st : List ix_V) (μ : ix_M) : ix_Ev o_X0_above Q (42, ls, st, μ) = ix_push (vi 1) 43 (ix_Ev o_X0_above Q) Q ls st μ := ix_Ev.eq (a_X0_above launch0) rfl ls st μ
theorem e_X0_above_43 (Q : ix_R → Prop) (ls : ix_L) (st : List ix_V) (μ : ix_M) : ix_Ev o_X0_above Q (43, ls, st, μ) = ix_iret (ix_Ev o_X0_above Q) Q ls st μ := ix_Ev.eq (a_X0_above launch0) rfl ls st μ
theorem e_X0_above_44 (Q : ix_R → Prop) (ls : ix_L) (st : List ix_V) (μ : ix_M) : ix_Ev o_X0_above Q (44, ls, st, μ) = ix_push (vi 2) 45 (ix_Ev o_X0_above Q) Q ls st μ := ix_Ev.eq (a_X0_above launch0) rfl ls st μ
theorem e_X0_above_45 (Q : ix_R → Prop) (ls : ix_L) (st : List ix_V) (μ : ix_M) : ix_Ev o_X0_above Q (45, ls, st, μ) = ix_iret (ix_Ev o_X0_above Q) Q ls st μ := ix_Ev.eq (a_X0_above launch0) rfl ls st μ
theorem e_X0_above_46 (Q : ix_R → Prop) (ls : ix_L) (st : List ix_V) (μ : ix_M) : ix_Ev o_X0_above Q (46, ls, st, μ) = ix_push (vi 3) 47 (ix_Ev o_X0_above Q) Q ls st μ := ix_Ev.eq (a_X0_above launch0) rfl ls st μ
theorem e_X0_above_47 (Q : ix_R → Prop) (ls : ix_L) (st : List ix_V) (μ : ix_M) : ix_Ev o_X0_above Q (47, ls, st, μ) = ix_iret (ix_Ev o_X0_above Q) Q ls st μ := ix_Ev.eq (a_X0_above launch0) rfl ls st μ
theorem e_X0_above_48 (Q : ix_R → Prop) (ls : ix_L) (st : List ix_V) (μ : ix_M) : ix_Ev o_X0_above Q (48, ls, st, μ) = ix_push (vi (-1)) 49 (ix_Ev o_X0_above Q) Q ls st μ := ix_Ev.eq (a_X0_above launch0) rfl ls st μ
theorem e_X0_above_49 (Q : ix_R → Prop) (ls : ix_L) (st : List ix_V) (μ : ix_M) : ix_Ev o_X0_above Q (49, ls, st, μ) = ix_iret (ix_Ev o_X0_above Q) Q ls st μ := ix_Ev.eq (a_X0_above launch0) rfl ls st μ
theorem r_X0_above (k : Int32) (μ : ix_M) (Q : ix_R → Prop) (hT : T_X0_above k μ Q) : ix_Ev o_X0_above Q (0, [some (vi k)], [], μ) := by
  simp (decide := true) only [e_X0_above_0, e_X0_above_1, e_X0_above_40, e_X0_above_41, e_X0_above_42, e_X0_above_43, e_X0_above_44, e_X0_above_45, e_X0_above_46, e_X0_above_47, e_X0_above_48, e_X0_above_49, vi, vl, vr, ix_push, ix_iload, ix_lload, ix_aload, ix_istore, ix_astore, ix_iinc, ix_bin, ix_div, ix_un, ix_i2l, ix_l2i, ix_lbin, ix_lsh, ix_lcmp, ix_dup, ix_dup2, ix_pop, ix_if, ix_cmp, ix_goto, ix_switch, ix_sw, ix_iret, ix_zret, ix_vret, ix_aret, ix_geti, ix_getr, ix_puti, ix_putz, ix_puts, ix_gets, ix_iald, ix_iast, ix_alen, ix_aald, ix_gval, ix_gcod, ix_bald, ix_blen, ix_sald, ix_nret, ix_math2, ix_math1, ix_acopy, Nat.add_assoc, Int32.reduceLT, Int32.reduceLE, Int32.reduceToNatClampNeg, Int32.reduceSub, Int32.reduceAdd, Nat.reduceAdd, Nat.reduceLeDiff, true_or, or_true, or_false, false_or, not_false_eq_true, not_true_eq_false, false_implies, true_implies, implies_true, and_self, mB_0, mB_01, Classical.not_not, Nat.zero_le, List.getElem?_cons_zero, List.getElem?_cons_succ, List.set_cons_zero, List.set_cons_succ, ix_nl, ix_cs, true_and, and_true, Option.toList_some, Option.toList_none, List.cons_append, List.nil_append]
  simp only [T_X0_above, mAbove, vi, vl, vr] at hT
  repeat' (first | refine And.intro ?_ ?_ | intro _)
  all_goals (first | exact hT | (simp only [*, if_true, if_false, not_true_eq_false, not_false_eq_true, and_true, true_and, and_false, false_and, or_true, true_or, or_false, false_or, and_self, or_self] at hT; exact hT) | (simp only [← Int32.not_lt, Classical.not_not] at *; simp only [*, if_true, if_false, not_true_eq_false, not_false_eq_true, and_true, true_and, and_false, false_and, or_true, true_or, or_false, false_or, and_self, or_self] at hT; exact hT) | (simp_all; done))
theorem k_X0_above (l : Launch) : ix_Ct l yX0_above cX0_above 1 (some .int) 1 sh_X0_above T_X0_above := ix_ct (a_X0_above l) rfl (by decide) (fun _ => Nat.le_of_ble_eq_true rfl) (fun x μ Q hok hT => r_X0_above x μ Q  hT)
def mDips (k m s : Int32) : Int32 := if k = 1 then 3 else if k = 2 then s / 3 else if k = 3 then (if s ≤ 30 then 5 else 10) else if k = 4 then 3 + m else if k = 5 then s / 3 + (m - m / 3 * 3) else if k = 6 then (if s ≤ 30 then 5 else 10) else 5
def T_X0_dips : Int32 × Int32 × Int32 → ix_M → (ix_R → Prop) → Prop := fun (k, m, s) μ Q => Q (some (vi (mDips k m s)), μ)
def sh_X0_dips (x : Int32 × Int32 × Int32) : List ix_V := [vi x.1, vi x.2.1, vi x.2.2]
theorem mo_X0_dips (x : Int32 × Int32 × Int32) (μ : ix_M) (Q Q' : ix_R → Prop) (h : ∀ r, Q r → Q' r) (hT : T_X0_dips x μ Q) : T_X0_dips x μ Q' := by
  obtain ⟨a0, a1, a2⟩ := x
  first | exact h _ hT | exact ⟨hT.1, h _ hT.2⟩ | exact fun r hr => h _ (hT r hr) | exact ⟨hT.1, fun r hr => h _ (hT.2 r hr)⟩ | exact ⟨hT.1, hT.2.1, fun r hr => h _ (hT.2.2 r hr)⟩
def oc_X0_dips (n : Nat) : ix_Op := fun k _ ls st μ => match st with
  | .inl a2 :: .inl a1 :: .inl a0 :: r => ix_cs r ≤ 8 ∧ T_X0_dips (a0, a1, a2) μ (fun q => k (n, ls, q.1.toList ++ r, q.2))
  | _ => False
theorem oc_X0_dips_s {l : Launch} {cc : ByteArray} {nL : Nat} {own : String} {d : Nat} {rt : Option FieldType} {pc n : Nat} (h : ix_S l cc nL own d rt pc (ix_call 3 sh_X0_dips T_X0_dips n)) : ix_S l cc nL own d rt pc (oc_X0_dips n) := by
  refine h.by (fun k Q ls st μ h => ?_) (fun k k' Q ls st μ hk h => ?_)
  · unfold oc_X0_dips at h
    split at h
    · rename_i a2 a1 a0 r
      obtain ⟨h1, h2⟩ := h
      exact ⟨h1, (a0, a1, a2), rfl, _, h2, fun r h => h⟩
    · exact h.elim
  · unfold oc_X0_dips at h ⊢
    split at h
    · obtain ⟨h1, h2⟩ := h
      exact ⟨h1, mo_X0_dips _ _ _ _ (fun q hq => hk _ hq) h2⟩
    · exact h.elim
def o_X0_dips : List (Nat × ix_Op) := [
  (0, ix_iload 0 1),
  (1, ix_switch [(1, 40), (2, 42), (3, 46), (4, 59), (5, 63), (6, 46)] 71),
  (40, ix_push (vi 3) 41),
  (41, ix_iret),
  (42, ix_iload 2 43),
  (43, ix_push (vi 3) 44),
  (44, ix_div (fun x y => x / y) 45),
  (45, ix_iret),
  (46, ix_iload 2 47),
  (47, ix_push (vi 30) 49),
  (49, ix_cmp (fun x y => x ≤ y) 57 52),
  (52, ix_push (vi 10) 54),
  (54, ix_goto 58),
  (57, ix_push (vi 5) 58),
  (58, ix_iret),
  (59, ix_push (vi 3) 60),
  (60, ix_iload 1 61),
  (61, ix_bin (fun x y => x + y) 62),
  (62, ix_iret),
  (63, ix_iload 2 64),
  (64, ix_push (vi 3) 65),
  (65, ix_div (fun x y => x / y) 66),
  (66, ix_iload 1 67),
  (67, ix_push (vi 3) 68),
  (68, ix_div (fun x y => x - x / y * y) 69),
  (69, ix_bin (fun x y => x + y) 70),
  (70, ix_iret),
  (71, ix_push (vi 5) 72),
  (72, ix_iret)]
set_option maxRecDepth 20000 in
theorem a_X0_dips (l : Launch) : ix_AllS l cX0_dips 3 RX0 1 (some .int) o_X0_dips :=
  .cons (ix_s_iload_n dX0_dips_0 rfl) <|
  .cons (ix_s_tab dX0_dips_1 (by decide) (by decide +kernel) (by decide +kernel)) <|
  .cons (ix_s_iconst dX0_dips_40 (by decide +kernel)) <|
  .cons (ix_s_iret dX0_dips_41 rfl) <|
  .cons (ix_s_iload_n dX0_dips_42 rfl) <|
  .cons (ix_s_iconst dX0_dips_43 (by decide +kernel)) <|
  .cons (ix_s_idiv dX0_dips_44) <|
  .cons (ix_s_iret dX0_dips_45 rfl) <|
  .cons (ix_s_iload_n dX0_dips_46 rfl) <|
  .cons (ix_s_bipush dX0_dips_47 (by decide +kernel)) <|
  .cons (ix_s_cmp_le dX0_dips_49 (by decide)) <|
  .cons (ix_s_bipush dX0_dips_52 (by decide +kernel)) <|
  .cons (ix_s_goto dX0_dips_54 (by decide)) <|
  .cons (ix_s_iconst dX0_dips_57 (by decide +kernel)) <|
  .cons (ix_s_iret dX0_dips_58 rfl) <|
  .cons (ix_s_iconst dX0_dips_59 (by decide +kernel)) <|
  .cons (ix_s_iload_n dX0_dips_60 rfl) <|
  .cons (ix_s_iadd dX0_dips_61) <|
  .cons (ix_s_iret dX0_dips_62 rfl) <|
  .cons (ix_s_iload_n dX0_dips_63 rfl) <|
  .cons (ix_s_iconst dX0_dips_64 (by decide +kernel)) <|
  .cons (ix_s_idiv dX0_dips_65) <|
  .cons (ix_s_iload_n dX0_dips_66 rfl) <|
  .cons (ix_s_iconst dX0_dips_67 (by decide +kernel)) <|
  .cons (ix_s_irem dX0_dips_68) <|
  .cons (ix_s_iadd dX0_dips_69) <|
  .cons (ix_s_iret dX0_dips_70 rfl) <|
  .cons (ix_s_iconst dX0_dips_71 (by decide +kernel)) <|
  .cons (ix_s_iret dX0_dips_72 rfl) <| .nil
theorem e_X0_dips_0 (Q : ix_R → Prop) (ls : ix_L) (st : List ix_V) (μ : ix_M) : ix_Ev o_X0_dips Q (0, ls, st, μ) = ix_iload 0 1 (ix_Ev o_X0_dips Q) Q ls st μ := ix_Ev.eq (a_X0_dips launch0) rfl ls st μ
theorem e_X0_dips_1 (Q : ix_R → Prop) (ls : ix_L) (st : List ix_V) (μ : ix_M) : ix_Ev o_X0_dips Q (1, ls, st, μ) = ix_switch [(1, 40), (2, 42), (3, 46), (4, 59), (5, 63), (6, 46)] 71 (ix_Ev o_X0_dips Q) Q ls st μ := ix_Ev.eq (a_X0_dips launch0) rfl ls st μ
theorem e_X0_dips_40 (Q : ix_R → Prop) (ls : ix_L) (st : List ix_V) (μ : ix_M) : ix_Ev o_X0_dips Q (40, ls, st, μ) = ix_push (vi 3) 41 (ix_Ev o_X0_dips Q) Q ls st μ := ix_Ev.eq (a_X0_dips launch0) rfl ls st μ
theorem e_X0_dips_41 (Q : ix_R → Prop) (ls : ix_L) (st : List ix_V) (μ : ix_M) : ix_Ev o_X0_dips Q (41, ls, st, μ) = ix_iret (ix_Ev o_X0_dips Q) Q ls st μ := ix_Ev.eq (a_X0_dips launch0) rfl ls st μ
theorem e_X0_dips_42 (Q : ix_R → Prop) (ls : ix_L) (st : List ix_V) (μ : ix_M) : ix_Ev o_X0_dips Q (42, ls, st, μ) = ix_iload 2 43 (ix_Ev o_X0_dips Q) Q ls st μ := ix_Ev.eq (a_X0_dips launch0) rfl ls st μ
theorem e_X0_dips_43 (Q : ix_R → Prop) (ls : ix_L) (st : List ix_V) (μ : ix_M) : ix_Ev o_X0_dips Q (43, ls, st, μ) = ix_push (vi 3) 44 (ix_Ev o_X0_dips Q) Q ls st μ := ix_Ev.eq (a_X0_dips launch0) rfl ls st μ
theorem e_X0_dips_44 (Q : ix_R → Prop) (ls : ix_L) (st : List ix_V) (μ : ix_M) : ix_Ev o_X0_dips Q (44, ls, st, μ) = ix_div (fun x y => x / y) 45 (ix_Ev o_X0_dips Q) Q ls st μ := ix_Ev.eq (a_X0_dips launch0) rfl ls st μ
theorem e_X0_dips_45 (Q : ix_R → Prop) (ls : ix_L) (st : List ix_V) (μ : ix_M) : ix_Ev o_X0_dips Q (45, ls, st, μ) = ix_iret (ix_Ev o_X0_dips Q) Q ls st μ := ix_Ev.eq (a_X0_dips launch0) rfl ls st μ
theorem e_X0_dips_46 (Q : ix_R → Prop) (ls : ix_L) (st : List ix_V) (μ : ix_M) : ix_Ev o_X0_dips Q (46, ls, st, μ) = ix_iload 2 47 (ix_Ev o_X0_dips Q) Q ls st μ := ix_Ev.eq (a_X0_dips launch0) rfl ls st μ
theorem e_X0_dips_47 (Q : ix_R → Prop) (ls : ix_L) (st : List ix_V) (μ : ix_M) : ix_Ev o_X0_dips Q (47, ls, st, μ) = ix_push (vi 30) 49 (ix_Ev o_X0_dips Q) Q ls st μ := ix_Ev.eq (a_X0_dips launch0) rfl ls st μ
theorem e_X0_dips_49 (Q : ix_R → Prop) (ls : ix_L) (st : List ix_V) (μ : ix_M) : ix_Ev o_X0_dips Q (49, ls, st, μ) = ix_cmp (fun x y => x ≤ y) 57 52 (ix_Ev o_X0_dips Q) Q ls st μ := ix_Ev.eq (a_X0_dips launch0) rfl ls st μ
theorem e_X0_dips_52 (Q : ix_R → Prop) (ls : ix_L) (st : List ix_V) (μ : ix_M) : ix_Ev o_X0_dips Q (52, ls, st, μ) = ix_push (vi 10) 54 (ix_Ev o_X0_dips Q) Q ls st μ := ix_Ev.eq (a_X0_dips launch0) rfl ls st μ
theorem e_X0_dips_54 (Q : ix_R → Prop) (ls : ix_L) (st : List ix_V) (μ : ix_M) : ix_Ev o_X0_dips Q (54, ls, st, μ) = ix_goto 58 (ix_Ev o_X0_dips Q) Q ls st μ := ix_Ev.eq (a_X0_dips launch0) rfl ls st μ
theorem e_X0_dips_57 (Q : ix_R → Prop) (ls : ix_L) (st : List ix_V) (μ : ix_M) : ix_Ev o_X0_dips Q (57, ls, st, μ) = ix_push (vi 5) 58 (ix_Ev o_X0_dips Q) Q ls st μ := ix_Ev.eq (a_X0_dips launch0) rfl ls st μ
theorem e_X0_dips_58 (Q : ix_R → Prop) (ls : ix_L) (st : List ix_V) (μ : ix_M) : ix_Ev o_X0_dips Q (58, ls, st, μ) = ix_iret (ix_Ev o_X0_dips Q) Q ls st μ := ix_Ev.eq (a_X0_dips launch0) rfl ls st μ
theorem e_X0_dips_59 (Q : ix_R → Prop) (ls : ix_L) (st : List ix_V) (μ : ix_M) : ix_Ev o_X0_dips Q (59, ls, st, μ) = ix_push (vi 3) 60 (ix_Ev o_X0_dips Q) Q ls st μ := ix_Ev.eq (a_X0_dips launch0) rfl ls st μ
theorem e_X0_dips_60 (Q : ix_R → Prop) (ls : ix_L) (st : List ix_V) (μ : ix_M) : ix_Ev o_X0_dips Q (60, ls, st, μ) = ix_iload 1 61 (ix_Ev o_X0_dips Q) Q ls st μ := ix_Ev.eq (a_X0_dips launch0) rfl ls st μ
theorem e_X0_dips_61 (Q : ix_R → Prop) (ls : ix_L) (st : List ix_V) (μ : ix_M) : ix_Ev o_X0_dips Q (61, ls, st, μ) = ix_bin (fun x y => x + y) 62 (ix_Ev o_X0_dips Q) Q ls st μ := ix_Ev.eq (a_X0_dips launch0) rfl ls st μ
theorem e_X0_dips_62 (Q : ix_R → Prop) (ls : ix_L) (st : List ix_V) (μ : ix_M) : ix_Ev o_X0_dips Q (62, ls, st, μ) = ix_iret (ix_Ev o_X0_dips Q) Q ls st μ := ix_Ev.eq (a_X0_dips launch0) rfl ls st μ
theorem e_X0_dips_63 (Q : ix_R → Prop) (ls : ix_L) (st : List ix_V) (μ : ix_M) : ix_Ev o_X0_dips Q (63, ls, st, μ) = ix_iload 2 64 (ix_Ev o_X0_dips Q) Q ls st μ := ix_Ev.eq (a_X0_dips launch0) rfl ls st μ
theorem e_X0_dips_64 (Q : ix_R → Prop) (ls : ix_L) (st : List ix_V) (μ : ix_M) : ix_Ev o_X0_dips Q (64, ls, st, μ) = ix_push (vi 3) 65 (ix_Ev o_X0_dips Q) Q ls st μ := ix_Ev.eq (a_X0_dips launch0) rfl ls st μ
theorem e_X0_dips_65 (Q : ix_R → Prop) (ls : ix_L) (st : List ix_V) (μ : ix_M) : ix_Ev o_X0_dips Q (65, ls, st, μ) = ix_div (fun x y => x / y) 66 (ix_Ev o_X0_dips Q) Q ls st μ := ix_Ev.eq (a_X0_dips launch0) rfl ls st μ
theorem e_X0_dips_66 (Q : ix_R → Prop) (ls : ix_L) (st : List ix_V) (μ : ix_M) : ix_Ev o_X0_dips Q (66, ls, st, μ) = ix_iload 1 67 (ix_Ev o_X0_dips Q) Q ls st μ := ix_Ev.eq (a_X0_dips launch0) rfl ls st μ
theorem e_X0_dips_67 (Q : ix_R → Prop) (ls : ix_L) (st : List ix_V) (μ : ix_M) : ix_Ev o_X0_dips Q (67, ls, st, μ) = ix_push (vi 3) 68 (ix_Ev o_X0_dips Q) Q ls st μ := ix_Ev.eq (a_X0_dips launch0) rfl ls st μ
theorem e_X0_dips_68 (Q : ix_R → Prop) (ls : ix_L) (st : List ix_V) (μ : ix_M) : ix_Ev o_X0_dips Q (68, ls, st, μ) = ix_div (fun x y => x - x / y * y) 69 (ix_Ev o_X0_dips Q) Q ls st μ := ix_Ev.eq (a_X0_dips launch0) rfl ls st μ
theorem e_X0_dips_69 (Q : ix_R → Prop) (ls : ix_L) (st : List ix_V) (μ : ix_M) : ix_Ev o_X0_dips Q (69, ls, st, μ) = ix_bin (fun x y => x + y) 70 (ix_Ev o_X0_dips Q) Q ls st μ := ix_Ev.eq (a_X0_dips launch0) rfl ls st μ
theorem e_X0_dips_70 (Q : ix_R → Prop) (ls : ix_L) (st : List ix_V) (μ : ix_M) : ix_Ev o_X0_dips Q (70, ls, st, μ) = ix_iret (ix_Ev o_X0_dips Q) Q ls st μ := ix_Ev.eq (a_X0_dips launch0) rfl ls st μ
theorem e_X0_dips_71 (Q : ix_R → Prop) (ls : ix_L) (st : List ix_V) (μ : ix_M) : ix_Ev o_X0_dips Q (71, ls, st, μ) = ix_push (vi 5) 72 (ix_Ev o_X0_dips Q) Q ls st μ := ix_Ev.eq (a_X0_dips launch0) rfl ls st μ
theorem e_X0_dips_72 (Q : ix_R → Prop) (ls : ix_L) (st : List ix_V) (μ : ix_M) : ix_Ev o_X0_dips Q (72, ls, st, μ) = ix_iret (ix_Ev o_X0_dips Q) Q ls st μ := ix_Ev.eq (a_X0_dips launch0) rfl ls st μ
theorem r_X0_dips (k : Int32) (m : Int32) (s : Int32) (μ : ix_M) (Q : ix_R → Prop) (hT : T_X0_dips (k, m, s) μ Q) : ix_Ev o_X0_dips Q (0, [some (vi k), some (vi m), some (vi s)], [], μ) := by
  simp (decide := true) only [e_X0_dips_0, e_X0_dips_1, e_X0_dips_40, e_X0_dips_41, e_X0_dips_42, e_X0_dips_43, e_X0_dips_44, e_X0_dips_45, e_X0_dips_46, e_X0_dips_47, e_X0_dips_49, e_X0_dips_52, e_X0_dips_54, e_X0_dips_57, e_X0_dips_58, e_X0_dips_59, e_X0_dips_60, e_X0_dips_61, e_X0_dips_62, e_X0_dips_63, e_X0_dips_64, e_X0_dips_65, e_X0_dips_66, e_X0_dips_67, e_X0_dips_68, e_X0_dips_69, e_X0_dips_70, e_X0_dips_71, e_X0_dips_72, vi, vl, vr, ix_push, ix_iload, ix_lload, ix_aload, ix_istore, ix_astore, ix_iinc, ix_bin, ix_div, ix_un, ix_i2l, ix_l2i, ix_lbin, ix_lsh, ix_lcmp, ix_dup, ix_dup2, ix_pop, ix_if, ix_cmp, ix_goto, ix_switch, ix_sw, ix_iret, ix_zret, ix_vret, ix_aret, ix_geti, ix_getr, ix_puti, ix_putz, ix_puts, ix_gets, ix_iald, ix_iast, ix_alen, ix_aald, ix_gval, ix_gcod, ix_bald, ix_blen, ix_sald, ix_nret, ix_math2, ix_math1, ix_acopy, Nat.add_assoc, Int32.reduceLT, Int32.reduceLE, Int32.reduceToNatClampNeg, Int32.reduceSub, Int32.reduceAdd, Nat.reduceAdd, Nat.reduceLeDiff, true_or, or_true, or_false, false_or, not_false_eq_true, not_true_eq_false, false_implies, true_implies, implies_true, and_self, mB_0, mB_01, Classical.not_not, Nat.zero_le, List.getElem?_cons_zero, List.getElem?_cons_succ, List.set_cons_zero, List.set_cons_succ, ix_nl, ix_cs, true_and, and_true, Option.toList_some, Option.toList_none, List.cons_append, List.nil_append]
  simp only [T_X0_dips, mDips, vi, vl, vr] at hT
  repeat' (first | refine And.intro ?_ ?_ | intro _)
  all_goals (first | exact hT | (simp only [*, if_true, if_false, not_true_eq_false, not_false_eq_true, and_true, true_and, and_false, false_and, or_true, true_or, or_false, false_or, and_self, or_self] at hT; exact hT) | (simp only [← Int32.not_lt, Classical.not_not] at *; simp only [*, if_true, if_false, not_true_eq_false, not_false_eq_true, and_true, true_and, and_false, false_and, or_true, true_or, or_false, false_or, and_self, or_self] at hT; exact hT) | (simp_all; done))
theorem k_X0_dips (l : Launch) : ix_Ct l yX0_dips cX0_dips 3 (some .int) 1 sh_X0_dips T_X0_dips := ix_ct (a_X0_dips l) rfl (by decide) (fun _ => Nat.le_of_ble_eq_true rfl) (fun x μ Q hok hT => r_X0_dips x.1 x.2.1 x.2.2 μ Q  hT)
def mTurn (w : Int32) : Int32 := if w = 0 then 0 else if w = 4 then 1 else w + 1
def T_X0_turned : Int32 → ix_M → (ix_R → Prop) → Prop := fun w μ Q => Q (some (vi (mTurn w)), μ)
def sh_X0_turned (x : Int32) : List ix_V := [vi x]
theorem mo_X0_turned (x : Int32) (μ : ix_M) (Q Q' : ix_R → Prop) (h : ∀ r, Q r → Q' r) (hT : T_X0_turned x μ Q) : T_X0_turned x μ Q' := by
  first | exact h _ hT | exact ⟨hT.1, h _ hT.2⟩ | exact fun r hr => h _ (hT r hr) | exact ⟨hT.1, fun r hr => h _ (hT.2 r hr)⟩ | exact ⟨hT.1, hT.2.1, fun r hr => h _ (hT.2.2 r hr)⟩
def oc_X0_turned (n : Nat) : ix_Op := fun k _ ls st μ => match st with
  | .inl a0 :: r => ix_cs r ≤ 8 ∧ T_X0_turned a0 μ (fun q => k (n, ls, q.1.toList ++ r, q.2))
  | _ => False
theorem oc_X0_turned_s {l : Launch} {cc : ByteArray} {nL : Nat} {own : String} {d : Nat} {rt : Option FieldType} {pc n : Nat} (h : ix_S l cc nL own d rt pc (ix_call 1 sh_X0_turned T_X0_turned n)) : ix_S l cc nL own d rt pc (oc_X0_turned n) := by
  refine h.by (fun k Q ls st μ h => ?_) (fun k k' Q ls st μ hk h => ?_)
  · unfold oc_X0_turned at h
    split at h
    · rename_i a0 r
      obtain ⟨h1, h2⟩ := h
      exact ⟨h1, a0, rfl, _, h2, fun r h => h⟩
    · exact h.elim
  · unfold oc_X0_turned at h ⊢
    split at h
    · obtain ⟨h1, h2⟩ := h
      exact ⟨h1, mo_X0_turned _ _ _ _ (fun q hq => hk _ hq) h2⟩
    · exact h.elim
def o_X0_turned : List (Nat × ix_Op) := [
  (0, ix_iload 0 1),
  (1, ix_if (fun x => x = 0) 4 8),
  (4, ix_push (vi 0) 5),
  (5, ix_goto 20),
  (8, ix_iload 0 9),
  (9, ix_push (vi 4) 10),
  (10, ix_cmp (fun x y => x = y) 13 17),
  (13, ix_push (vi 1) 14),
  (14, ix_goto 20),
  (17, ix_iload 0 18),
  (18, ix_push (vi 1) 19),
  (19, ix_bin (fun x y => x + y) 20),
  (20, ix_iret)]
set_option maxRecDepth 20000 in
theorem a_X0_turned (l : Launch) : ix_AllS l cX0_turned 1 RX0 1 (some .int) o_X0_turned :=
  .cons (ix_s_iload_n dX0_turned_0 rfl) <|
  .cons (ix_s_if_ne dX0_turned_1 (by decide)) <|
  .cons (ix_s_iconst dX0_turned_4 (by decide +kernel)) <|
  .cons (ix_s_goto dX0_turned_5 (by decide)) <|
  .cons (ix_s_iload_n dX0_turned_8 rfl) <|
  .cons (ix_s_iconst dX0_turned_9 (by decide +kernel)) <|
  .cons (ix_s_cmp_ne dX0_turned_10 (by decide)) <|
  .cons (ix_s_iconst dX0_turned_13 (by decide +kernel)) <|
  .cons (ix_s_goto dX0_turned_14 (by decide)) <|
  .cons (ix_s_iload_n dX0_turned_17 rfl) <|
  .cons (ix_s_iconst dX0_turned_18 (by decide +kernel)) <|
  .cons (ix_s_iadd dX0_turned_19) <|
  .cons (ix_s_iret dX0_turned_20 rfl) <| .nil
theorem e_X0_turned_0 (Q : ix_R → Prop) (ls : ix_L) (st : List ix_V) (μ : ix_M) : ix_Ev o_X0_turned Q (0, ls, st, μ) = ix_iload 0 1 (ix_Ev o_X0_turned Q) Q ls st μ := ix_Ev.eq (a_X0_turned launch0) rfl ls st μ
theorem e_X0_turned_1 (Q : ix_R → Prop) (ls : ix_L) (st : List ix_V) (μ : ix_M) : ix_Ev o_X0_turned Q (1, ls, st, μ) = ix_if (fun x => x = 0) 4 8 (ix_Ev o_X0_turned Q) Q ls st μ := ix_Ev.eq (a_X0_turned launch0) rfl ls st μ
theorem e_X0_turned_4 (Q : ix_R → Prop) (ls : ix_L) (st : List ix_V) (μ : ix_M) : ix_Ev o_X0_turned Q (4, ls, st, μ) = ix_push (vi 0) 5 (ix_Ev o_X0_turned Q) Q ls st μ := ix_Ev.eq (a_X0_turned launch0) rfl ls st μ
theorem e_X0_turned_5 (Q : ix_R → Prop) (ls : ix_L) (st : List ix_V) (μ : ix_M) : ix_Ev o_X0_turned Q (5, ls, st, μ) = ix_goto 20 (ix_Ev o_X0_turned Q) Q ls st μ := ix_Ev.eq (a_X0_turned launch0) rfl ls st μ
theorem e_X0_turned_8 (Q : ix_R → Prop) (ls : ix_L) (st : List ix_V) (μ : ix_M) : ix_Ev o_X0_turned Q (8, ls, st, μ) = ix_iload 0 9 (ix_Ev o_X0_turned Q) Q ls st μ := ix_Ev.eq (a_X0_turned launch0) rfl ls st μ
theorem e_X0_turned_9 (Q : ix_R → Prop) (ls : ix_L) (st : List ix_V) (μ : ix_M) : ix_Ev o_X0_turned Q (9, ls, st, μ) = ix_push (vi 4) 10 (ix_Ev o_X0_turned Q) Q ls st μ := ix_Ev.eq (a_X0_turned launch0) rfl ls st μ
theorem e_X0_turned_10 (Q : ix_R → Prop) (ls : ix_L) (st : List ix_V) (μ : ix_M) : ix_Ev o_X0_turned Q (10, ls, st, μ) = ix_cmp (fun x y => x = y) 13 17 (ix_Ev o_X0_turned Q) Q ls st μ := ix_Ev.eq (a_X0_turned launch0) rfl ls st μ
theorem e_X0_turned_13 (Q : ix_R → Prop) (ls : ix_L) (st : List ix_V) (μ : ix_M) : ix_Ev o_X0_turned Q (13, ls, st, μ) = ix_push (vi 1) 14 (ix_Ev o_X0_turned Q) Q ls st μ := ix_Ev.eq (a_X0_turned launch0) rfl ls st μ
theorem e_X0_turned_14 (Q : ix_R → Prop) (ls : ix_L) (st : List ix_V) (μ : ix_M) : ix_Ev o_X0_turned Q (14, ls, st, μ) = ix_goto 20 (ix_Ev o_X0_turned Q) Q ls st μ := ix_Ev.eq (a_X0_turned launch0) rfl ls st μ
theorem e_X0_turned_17 (Q : ix_R → Prop) (ls : ix_L) (st : List ix_V) (μ : ix_M) : ix_Ev o_X0_turned Q (17, ls, st, μ) = ix_iload 0 18 (ix_Ev o_X0_turned Q) Q ls st μ := ix_Ev.eq (a_X0_turned launch0) rfl ls st μ
theorem e_X0_turned_18 (Q : ix_R → Prop) (ls : ix_L) (st : List ix_V) (μ : ix_M) : ix_Ev o_X0_turned Q (18, ls, st, μ) = ix_push (vi 1) 19 (ix_Ev o_X0_turned Q) Q ls st μ := ix_Ev.eq (a_X0_turned launch0) rfl ls st μ
theorem e_X0_turned_19 (Q : ix_R → Prop) (ls : ix_L) (st : List ix_V) (μ : ix_M) : ix_Ev o_X0_turned Q (19, ls, st, μ) = ix_bin (fun x y => x + y) 20 (ix_Ev o_X0_turned Q) Q ls st μ := ix_Ev.eq (a_X0_turned launch0) rfl ls st μ
theorem e_X0_turned_20 (Q : ix_R → Prop) (ls : ix_L) (st : List ix_V) (μ : ix_M) : ix_Ev o_X0_turned Q (20, ls, st, μ) = ix_iret (ix_Ev o_X0_turned Q) Q ls st μ := ix_Ev.eq (a_X0_turned launch0) rfl ls st μ
theorem r_X0_turned (w : Int32) (μ : ix_M) (Q : ix_R → Prop) (hT : T_X0_turned w μ Q) : ix_Ev o_X0_turned Q (0, [some (vi w)], [], μ) := by
  simp (decide := true) only [e_X0_turned_0, e_X0_turned_1, e_X0_turned_4, e_X0_turned_5, e_X0_turned_8, e_X0_turned_9, e_X0_turned_10, e_X0_turned_13, e_X0_turned_14, e_X0_turned_17, e_X0_turned_18, e_X0_turned_19, e_X0_turned_20, vi, vl, vr, ix_push, ix_iload, ix_lload, ix_aload, ix_istore, ix_astore, ix_iinc, ix_bin, ix_div, ix_un, ix_i2l, ix_l2i, ix_lbin, ix_lsh, ix_lcmp, ix_dup, ix_dup2, ix_pop, ix_if, ix_cmp, ix_goto, ix_switch, ix_sw, ix_iret, ix_zret, ix_vret, ix_aret, ix_geti, ix_getr, ix_puti, ix_putz, ix_puts, ix_gets, ix_iald, ix_iast, ix_alen, ix_aald, ix_gval, ix_gcod, ix_bald, ix_blen, ix_sald, ix_nret, ix_math2, ix_math1, ix_acopy, Nat.add_assoc, Int32.reduceLT, Int32.reduceLE, Int32.reduceToNatClampNeg, Int32.reduceSub, Int32.reduceAdd, Nat.reduceAdd, Nat.reduceLeDiff, true_or, or_true, or_false, false_or, not_false_eq_true, not_true_eq_false, false_implies, true_implies, implies_true, and_self, mB_0, mB_01, Classical.not_not, Nat.zero_le, List.getElem?_cons_zero, List.getElem?_cons_succ, List.set_cons_zero, List.set_cons_succ, ix_nl, ix_cs, true_and, and_true, Option.toList_some, Option.toList_none, List.cons_append, List.nil_append]
  simp only [T_X0_turned, mTurn, vi, vl, vr] at hT
  repeat' (first | refine And.intro ?_ ?_ | intro _)
  all_goals (first | exact hT | (simp only [*, if_true, if_false, not_true_eq_false, not_false_eq_true, and_true, true_and, and_false, false_and, or_true, true_or, or_false, false_or, and_self, or_self] at hT; exact hT) | (simp only [← Int32.not_lt, Classical.not_not] at *; simp only [*, if_true, if_false, not_true_eq_false, not_false_eq_true, and_true, true_and, and_false, false_and, or_true, true_or, or_false, false_or, and_self, or_self] at hT; exact hT) | (simp_all; done))
theorem k_X0_turned (l : Launch) : ix_Ct l yX0_turned cX0_turned 1 (some .int) 1 sh_X0_turned T_X0_turned := ix_ct (a_X0_turned l) rfl (by decide) (fun _ => Nat.le_of_ble_eq_true rfl) (fun x μ Q hok hT => r_X0_turned x μ Q  hT)
def mGoes (k m w mi : Int32) : Int32 := if k = 1 then (if w = 1 then 3 else if w = 3 then 1 else w) else if k = 2 then (if mi - mi / 2 * 2 = 0 then w else 0) else if k = 3 then mTurn w else if k = 4 then (if w = 1 then 3 else if w = 3 then 1 else w) else if k = 5 then (if mi - mi / 2 * 2 = 0 then w else 0) else if k = 6 then (if mTurn w = 0 then m - m / 5 * 5 else mTurn w) else w
def T_X0_goes : Int32 × Int32 × Int32 × Int32 → ix_M → (ix_R → Prop) → Prop := fun (k, m, w, mi) μ Q => Q (some (vi (mGoes k m w mi)), μ)
def sh_X0_goes (x : Int32 × Int32 × Int32 × Int32) : List ix_V := [vi x.1, vi x.2.1, vi x.2.2.1, vi x.2.2.2]
theorem mo_X0_goes (x : Int32 × Int32 × Int32 × Int32) (μ : ix_M) (Q Q' : ix_R → Prop) (h : ∀ r, Q r → Q' r) (hT : T_X0_goes x μ Q) : T_X0_goes x μ Q' := by
  obtain ⟨a0, a1, a2, a3⟩ := x
  first | exact h _ hT | exact ⟨hT.1, h _ hT.2⟩ | exact fun r hr => h _ (hT r hr) | exact ⟨hT.1, fun r hr => h _ (hT.2 r hr)⟩ | exact ⟨hT.1, hT.2.1, fun r hr => h _ (hT.2.2 r hr)⟩
def oc_X0_goes (n : Nat) : ix_Op := fun k _ ls st μ => match st with
  | .inl a3 :: .inl a2 :: .inl a1 :: .inl a0 :: r => ix_cs r ≤ 8 ∧ T_X0_goes (a0, a1, a2, a3) μ (fun q => k (n, ls, q.1.toList ++ r, q.2))
  | _ => False
theorem oc_X0_goes_s {l : Launch} {cc : ByteArray} {nL : Nat} {own : String} {d : Nat} {rt : Option FieldType} {pc n : Nat} (h : ix_S l cc nL own d rt pc (ix_call 4 sh_X0_goes T_X0_goes n)) : ix_S l cc nL own d rt pc (oc_X0_goes n) := by
  refine h.by (fun k Q ls st μ h => ?_) (fun k k' Q ls st μ hk h => ?_)
  · unfold oc_X0_goes at h
    split at h
    · rename_i a3 a2 a1 a0 r
      obtain ⟨h1, h2⟩ := h
      exact ⟨h1, (a0, a1, a2, a3), rfl, _, h2, fun r h => h⟩
    · exact h.elim
  · unfold oc_X0_goes at h ⊢
    split at h
    · obtain ⟨h1, h2⟩ := h
      exact ⟨h1, mo_X0_goes _ _ _ _ (fun q hq => hk _ hq) h2⟩
    · exact h.elim
def o_X0_goes : List (Nat × ix_Op) := [
  (0, ix_iload 0 1),
  (1, ix_switch [(1, 40), (2, 60), (3, 72), (4, 40), (5, 60), (6, 77)] 95),
  (40, ix_iload 2 41),
  (41, ix_push (vi 1) 42),
  (42, ix_cmp (fun x y => x = y) 45 49),
  (45, ix_push (vi 3) 46),
  (46, ix_goto 59),
  (49, ix_iload 2 50),
  (50, ix_push (vi 3) 51),
  (51, ix_cmp (fun x y => x = y) 54 58),
  (54, ix_push (vi 1) 55),
  (55, ix_goto 59),
  (58, ix_iload 2 59),
  (59, ix_iret),
  (60, ix_iload 3 61),
  (61, ix_push (vi 2) 62),
  (62, ix_div (fun x y => x - x / y * y) 63),
  (63, ix_if (fun x => x = 0) 70 66),
  (66, ix_push (vi 0) 67),
  (67, ix_goto 71),
  (70, ix_iload 2 71),
  (71, ix_iret),
  (72, ix_iload 2 73),
  (73, oc_X0_turned 76),
  (76, ix_iret),
  (77, ix_iload 2 78),
  (78, oc_X0_turned 81),
  (81, ix_if (fun x => x = 0) 91 84),
  (84, ix_iload 2 85),
  (85, oc_X0_turned 88),
  (88, ix_goto 94),
  (91, ix_iload 1 92),
  (92, ix_push (vi 5) 93),
  (93, ix_div (fun x y => x - x / y * y) 94),
  (94, ix_iret),
  (95, ix_iload 2 96),
  (96, ix_iret)]
set_option maxRecDepth 20000 in
theorem a_X0_goes (l : Launch) : ix_AllS l cX0_goes 4 RX0 2 (some .int) o_X0_goes :=
  .cons (ix_s_iload_n dX0_goes_0 rfl) <|
  .cons (ix_s_tab dX0_goes_1 (by decide) (by decide +kernel) (by decide +kernel)) <|
  .cons (ix_s_iload_n dX0_goes_40 rfl) <|
  .cons (ix_s_iconst dX0_goes_41 (by decide +kernel)) <|
  .cons (ix_s_cmp_ne dX0_goes_42 (by decide)) <|
  .cons (ix_s_iconst dX0_goes_45 (by decide +kernel)) <|
  .cons (ix_s_goto dX0_goes_46 (by decide)) <|
  .cons (ix_s_iload_n dX0_goes_49 rfl) <|
  .cons (ix_s_iconst dX0_goes_50 (by decide +kernel)) <|
  .cons (ix_s_cmp_ne dX0_goes_51 (by decide)) <|
  .cons (ix_s_iconst dX0_goes_54 (by decide +kernel)) <|
  .cons (ix_s_goto dX0_goes_55 (by decide)) <|
  .cons (ix_s_iload_n dX0_goes_58 rfl) <|
  .cons (ix_s_iret dX0_goes_59 rfl) <|
  .cons (ix_s_iload_n dX0_goes_60 rfl) <|
  .cons (ix_s_iconst dX0_goes_61 (by decide +kernel)) <|
  .cons (ix_s_irem dX0_goes_62) <|
  .cons (ix_s_if_eq dX0_goes_63 (by decide)) <|
  .cons (ix_s_iconst dX0_goes_66 (by decide +kernel)) <|
  .cons (ix_s_goto dX0_goes_67 (by decide)) <|
  .cons (ix_s_iload_n dX0_goes_70 rfl) <|
  .cons (ix_s_iret dX0_goes_71 rfl) <|
  .cons (ix_s_iload_n dX0_goes_72 rfl) <|
  .cons (oc_X0_turned_s (ix_s_calls (k_X0_turned l) (by decide) (by decide) tw_390 tw_13 tw_388 tw_389 ⟨by decide, by decide, by decide +kernel⟩ (fun _ => rfl) dX0_goes_73)) <|
  .cons (ix_s_iret dX0_goes_76 rfl) <|
  .cons (ix_s_iload_n dX0_goes_77 rfl) <|
  .cons (oc_X0_turned_s (ix_s_calls (k_X0_turned l) (by decide) (by decide) tw_390 tw_13 tw_388 tw_389 ⟨by decide, by decide, by decide +kernel⟩ (fun _ => rfl) dX0_goes_78)) <|
  .cons (ix_s_if_eq dX0_goes_81 (by decide)) <|
  .cons (ix_s_iload_n dX0_goes_84 rfl) <|
  .cons (oc_X0_turned_s (ix_s_calls (k_X0_turned l) (by decide) (by decide) tw_390 tw_13 tw_388 tw_389 ⟨by decide, by decide, by decide +kernel⟩ (fun _ => rfl) dX0_goes_85)) <|
  .cons (ix_s_goto dX0_goes_88 (by decide)) <|
  .cons (ix_s_iload_n dX0_goes_91 rfl) <|
  .cons (ix_s_iconst dX0_goes_92 (by decide +kernel)) <|
  .cons (ix_s_irem dX0_goes_93) <|
  .cons (ix_s_iret dX0_goes_94 rfl) <|
  .cons (ix_s_iload_n dX0_goes_95 rfl) <|
  .cons (ix_s_iret dX0_goes_96 rfl) <| .nil
theorem e_X0_goes_0 (Q : ix_R → Prop) (ls : ix_L) (st : List ix_V) (μ : ix_M) : ix_Ev o_X0_goes Q (0, ls, st, μ) = ix_iload 0 1 (ix_Ev o_X0_goes Q) Q ls st μ := ix_Ev.eq (a_X0_goes launch0) rfl ls st μ
theorem e_X0_goes_1 (Q : ix_R → Prop) (ls : ix_L) (st : List ix_V) (μ : ix_M) : ix_Ev o_X0_goes Q (1, ls, st, μ) = ix_switch [(1, 40), (2, 60), (3, 72), (4, 40), (5, 60), (6, 77)] 95 (ix_Ev o_X0_goes Q) Q ls st μ := ix_Ev.eq (a_X0_goes launch0) rfl ls st μ
theorem e_X0_goes_40 (Q : ix_R → Prop) (ls : ix_L) (st : List ix_V) (μ : ix_M) : ix_Ev o_X0_goes Q (40, ls, st, μ) = ix_iload 2 41 (ix_Ev o_X0_goes Q) Q ls st μ := ix_Ev.eq (a_X0_goes launch0) rfl ls st μ
theorem e_X0_goes_41 (Q : ix_R → Prop) (ls : ix_L) (st : List ix_V) (μ : ix_M) : ix_Ev o_X0_goes Q (41, ls, st, μ) = ix_push (vi 1) 42 (ix_Ev o_X0_goes Q) Q ls st μ := ix_Ev.eq (a_X0_goes launch0) rfl ls st μ
theorem e_X0_goes_42 (Q : ix_R → Prop) (ls : ix_L) (st : List ix_V) (μ : ix_M) : ix_Ev o_X0_goes Q (42, ls, st, μ) = ix_cmp (fun x y => x = y) 45 49 (ix_Ev o_X0_goes Q) Q ls st μ := ix_Ev.eq (a_X0_goes launch0) rfl ls st μ
theorem e_X0_goes_45 (Q : ix_R → Prop) (ls : ix_L) (st : List ix_V) (μ : ix_M) : ix_Ev o_X0_goes Q (45, ls, st, μ) = ix_push (vi 3) 46 (ix_Ev o_X0_goes Q) Q ls st μ := ix_Ev.eq (a_X0_goes launch0) rfl ls st μ
theorem e_X0_goes_46 (Q : ix_R → Prop) (ls : ix_L) (st : List ix_V) (μ : ix_M) : ix_Ev o_X0_goes Q (46, ls, st, μ) = ix_goto 59 (ix_Ev o_X0_goes Q) Q ls st μ := ix_Ev.eq (a_X0_goes launch0) rfl ls st μ
theorem e_X0_goes_49 (Q : ix_R → Prop) (ls : ix_L) (st : List ix_V) (μ : ix_M) : ix_Ev o_X0_goes Q (49, ls, st, μ) = ix_iload 2 50 (ix_Ev o_X0_goes Q) Q ls st μ := ix_Ev.eq (a_X0_goes launch0) rfl ls st μ
theorem e_X0_goes_50 (Q : ix_R → Prop) (ls : ix_L) (st : List ix_V) (μ : ix_M) : ix_Ev o_X0_goes Q (50, ls, st, μ) = ix_push (vi 3) 51 (ix_Ev o_X0_goes Q) Q ls st μ := ix_Ev.eq (a_X0_goes launch0) rfl ls st μ
theorem e_X0_goes_51 (Q : ix_R → Prop) (ls : ix_L) (st : List ix_V) (μ : ix_M) : ix_Ev o_X0_goes Q (51, ls, st, μ) = ix_cmp (fun x y => x = y) 54 58 (ix_Ev o_X0_goes Q) Q ls st μ := ix_Ev.eq (a_X0_goes launch0) rfl ls st μ
theorem e_X0_goes_54 (Q : ix_R → Prop) (ls : ix_L) (st : List ix_V) (μ : ix_M) : ix_Ev o_X0_goes Q (54, ls, st, μ) = ix_push (vi 1) 55 (ix_Ev o_X0_goes Q) Q ls st μ := ix_Ev.eq (a_X0_goes launch0) rfl ls st μ
theorem e_X0_goes_55 (Q : ix_R → Prop) (ls : ix_L) (st : List ix_V) (μ : ix_M) : ix_Ev o_X0_goes Q (55, ls, st, μ) = ix_goto 59 (ix_Ev o_X0_goes Q) Q ls st μ := ix_Ev.eq (a_X0_goes launch0) rfl ls st μ
theorem e_X0_goes_58 (Q : ix_R → Prop) (ls : ix_L) (st : List ix_V) (μ : ix_M) : ix_Ev o_X0_goes Q (58, ls, st, μ) = ix_iload 2 59 (ix_Ev o_X0_goes Q) Q ls st μ := ix_Ev.eq (a_X0_goes launch0) rfl ls st μ
theorem e_X0_goes_59 (Q : ix_R → Prop) (ls : ix_L) (st : List ix_V) (μ : ix_M) : ix_Ev o_X0_goes Q (59, ls, st, μ) = ix_iret (ix_Ev o_X0_goes Q) Q ls st μ := ix_Ev.eq (a_X0_goes launch0) rfl ls st μ
theorem e_X0_goes_60 (Q : ix_R → Prop) (ls : ix_L) (st : List ix_V) (μ : ix_M) : ix_Ev o_X0_goes Q (60, ls, st, μ) = ix_iload 3 61 (ix_Ev o_X0_goes Q) Q ls st μ := ix_Ev.eq (a_X0_goes launch0) rfl ls st μ
theorem e_X0_goes_61 (Q : ix_R → Prop) (ls : ix_L) (st : List ix_V) (μ : ix_M) : ix_Ev o_X0_goes Q (61, ls, st, μ) = ix_push (vi 2) 62 (ix_Ev o_X0_goes Q) Q ls st μ := ix_Ev.eq (a_X0_goes launch0) rfl ls st μ
theorem e_X0_goes_62 (Q : ix_R → Prop) (ls : ix_L) (st : List ix_V) (μ : ix_M) : ix_Ev o_X0_goes Q (62, ls, st, μ) = ix_div (fun x y => x - x / y * y) 63 (ix_Ev o_X0_goes Q) Q ls st μ := ix_Ev.eq (a_X0_goes launch0) rfl ls st μ
theorem e_X0_goes_63 (Q : ix_R → Prop) (ls : ix_L) (st : List ix_V) (μ : ix_M) : ix_Ev o_X0_goes Q (63, ls, st, μ) = ix_if (fun x => x = 0) 70 66 (ix_Ev o_X0_goes Q) Q ls st μ := ix_Ev.eq (a_X0_goes launch0) rfl ls st μ
theorem e_X0_goes_66 (Q : ix_R → Prop) (ls : ix_L) (st : List ix_V) (μ : ix_M) : ix_Ev o_X0_goes Q (66, ls, st, μ) = ix_push (vi 0) 67 (ix_Ev o_X0_goes Q) Q ls st μ := ix_Ev.eq (a_X0_goes launch0) rfl ls st μ
theorem e_X0_goes_67 (Q : ix_R → Prop) (ls : ix_L) (st : List ix_V) (μ : ix_M) : ix_Ev o_X0_goes Q (67, ls, st, μ) = ix_goto 71 (ix_Ev o_X0_goes Q) Q ls st μ := ix_Ev.eq (a_X0_goes launch0) rfl ls st μ
theorem e_X0_goes_70 (Q : ix_R → Prop) (ls : ix_L) (st : List ix_V) (μ : ix_M) : ix_Ev o_X0_goes Q (70, ls, st, μ) = ix_iload 2 71 (ix_Ev o_X0_goes Q) Q ls st μ := ix_Ev.eq (a_X0_goes launch0) rfl ls st μ
theorem e_X0_goes_71 (Q : ix_R → Prop) (ls : ix_L) (st : List ix_V) (μ : ix_M) : ix_Ev o_X0_goes Q (71, ls, st, μ) = ix_iret (ix_Ev o_X0_goes Q) Q ls st μ := ix_Ev.eq (a_X0_goes launch0) rfl ls st μ
theorem e_X0_goes_72 (Q : ix_R → Prop) (ls : ix_L) (st : List ix_V) (μ : ix_M) : ix_Ev o_X0_goes Q (72, ls, st, μ) = ix_iload 2 73 (ix_Ev o_X0_goes Q) Q ls st μ := ix_Ev.eq (a_X0_goes launch0) rfl ls st μ
theorem e_X0_goes_73 (Q : ix_R → Prop) (ls : ix_L) (st : List ix_V) (μ : ix_M) : ix_Ev o_X0_goes Q (73, ls, st, μ) = oc_X0_turned 76 (ix_Ev o_X0_goes Q) Q ls st μ := ix_Ev.eq (a_X0_goes launch0) rfl ls st μ
theorem e_X0_goes_76 (Q : ix_R → Prop) (ls : ix_L) (st : List ix_V) (μ : ix_M) : ix_Ev o_X0_goes Q (76, ls, st, μ) = ix_iret (ix_Ev o_X0_goes Q) Q ls st μ := ix_Ev.eq (a_X0_goes launch0) rfl ls st μ
theorem e_X0_goes_77 (Q : ix_R → Prop) (ls : ix_L) (st : List ix_V) (μ : ix_M) : ix_Ev o_X0_goes Q (77, ls, st, μ) = ix_iload 2 78 (ix_Ev o_X0_goes Q) Q ls st μ := ix_Ev.eq (a_X0_goes launch0) rfl ls st μ
theorem e_X0_goes_78 (Q : ix_R → Prop) (ls : ix_L) (st : List ix_V) (μ : ix_M) : ix_Ev o_X0_goes Q (78, ls, st, μ) = oc_X0_turned 81 (ix_Ev o_X0_goes Q) Q ls st μ := ix_Ev.eq (a_X0_goes launch0) rfl ls st μ
theorem e_X0_goes_81 (Q : ix_R → Prop) (ls : ix_L) (st : List ix_V) (μ : ix_M) : ix_Ev o_X0_goes Q (81, ls, st, μ) = ix_if (fun x => x = 0) 91 84 (ix_Ev o_X0_goes Q) Q ls st μ := ix_Ev.eq (a_X0_goes launch0) rfl ls st μ
theorem e_X0_goes_84 (Q : ix_R → Prop) (ls : ix_L) (st : List ix_V) (μ : ix_M) : ix_Ev o_X0_goes Q (84, ls, st, μ) = ix_iload 2 85 (ix_Ev o_X0_goes Q) Q ls st μ := ix_Ev.eq (a_X0_goes launch0) rfl ls st μ
theorem e_X0_goes_85 (Q : ix_R → Prop) (ls : ix_L) (st : List ix_V) (μ : ix_M) : ix_Ev o_X0_goes Q (85, ls, st, μ) = oc_X0_turned 88 (ix_Ev o_X0_goes Q) Q ls st μ := ix_Ev.eq (a_X0_goes launch0) rfl ls st μ
theorem e_X0_goes_88 (Q : ix_R → Prop) (ls : ix_L) (st : List ix_V) (μ : ix_M) : ix_Ev o_X0_goes Q (88, ls, st, μ) = ix_goto 94 (ix_Ev o_X0_goes Q) Q ls st μ := ix_Ev.eq (a_X0_goes launch0) rfl ls st μ
theorem e_X0_goes_91 (Q : ix_R → Prop) (ls : ix_L) (st : List ix_V) (μ : ix_M) : ix_Ev o_X0_goes Q (91, ls, st, μ) = ix_iload 1 92 (ix_Ev o_X0_goes Q) Q ls st μ := ix_Ev.eq (a_X0_goes launch0) rfl ls st μ
theorem e_X0_goes_92 (Q : ix_R → Prop) (ls : ix_L) (st : List ix_V) (μ : ix_M) : ix_Ev o_X0_goes Q (92, ls, st, μ) = ix_push (vi 5) 93 (ix_Ev o_X0_goes Q) Q ls st μ := ix_Ev.eq (a_X0_goes launch0) rfl ls st μ
theorem e_X0_goes_93 (Q : ix_R → Prop) (ls : ix_L) (st : List ix_V) (μ : ix_M) : ix_Ev o_X0_goes Q (93, ls, st, μ) = ix_div (fun x y => x - x / y * y) 94 (ix_Ev o_X0_goes Q) Q ls st μ := ix_Ev.eq (a_X0_goes launch0) rfl ls st μ
theorem e_X0_goes_94 (Q : ix_R → Prop) (ls : ix_L) (st : List ix_V) (μ : ix_M) : ix_Ev o_X0_goes Q (94, ls, st, μ) = ix_iret (ix_Ev o_X0_goes Q) Q ls st μ := ix_Ev.eq (a_X0_goes launch0) rfl ls st μ
theorem e_X0_goes_95 (Q : ix_R → Prop) (ls : ix_L) (st : List ix_V) (μ : ix_M) : ix_Ev o_X0_goes Q (95, ls, st, μ) = ix_iload 2 96 (ix_Ev o_X0_goes Q) Q ls st μ := ix_Ev.eq (a_X0_goes launch0) rfl ls st μ
theorem e_X0_goes_96 (Q : ix_R → Prop) (ls : ix_L) (st : List ix_V) (μ : ix_M) : ix_Ev o_X0_goes Q (96, ls, st, μ) = ix_iret (ix_Ev o_X0_goes Q) Q ls st μ := ix_Ev.eq (a_X0_goes launch0) rfl ls st μ
theorem r_X0_goes (k : Int32) (m : Int32) (w : Int32) (mi : Int32) (μ : ix_M) (Q : ix_R → Prop) (hT : T_X0_goes (k, m, w, mi) μ Q) : ix_Ev o_X0_goes Q (0, [some (vi k), some (vi m), some (vi w), some (vi mi)], [], μ) := by
  simp (decide := true) only [e_X0_goes_0, e_X0_goes_1, e_X0_goes_40, e_X0_goes_41, e_X0_goes_42, e_X0_goes_45, e_X0_goes_46, e_X0_goes_49, e_X0_goes_50, e_X0_goes_51, e_X0_goes_54, e_X0_goes_55, e_X0_goes_58, e_X0_goes_59, e_X0_goes_60, e_X0_goes_61, e_X0_goes_62, e_X0_goes_63, e_X0_goes_66, e_X0_goes_67, e_X0_goes_70, e_X0_goes_71, e_X0_goes_72, e_X0_goes_73, e_X0_goes_76, e_X0_goes_77, e_X0_goes_78, e_X0_goes_81, e_X0_goes_84, e_X0_goes_85, e_X0_goes_88, e_X0_goes_91, e_X0_goes_92, e_X0_goes_93, e_X0_goes_94, e_X0_goes_95, e_X0_goes_96, vi, vl, vr, oc_X0_turned, T_X0_turned, ix_push, ix_iload, ix_lload, ix_aload, ix_istore, ix_astore, ix_iinc, ix_bin, ix_div, ix_un, ix_i2l, ix_l2i, ix_lbin, ix_lsh, ix_lcmp, ix_dup, ix_dup2, ix_pop, ix_if, ix_cmp, ix_goto, ix_switch, ix_sw, ix_iret, ix_zret, ix_vret, ix_aret, ix_geti, ix_getr, ix_puti, ix_putz, ix_puts, ix_gets, ix_iald, ix_iast, ix_alen, ix_aald, ix_gval, ix_gcod, ix_bald, ix_blen, ix_sald, ix_nret, ix_math2, ix_math1, ix_acopy, Nat.add_assoc, Int32.reduceLT, Int32.reduceLE, Int32.reduceToNatClampNeg, Int32.reduceSub, Int32.reduceAdd, Nat.reduceAdd, Nat.reduceLeDiff, true_or, or_true, or_false, false_or, not_false_eq_true, not_true_eq_false, false_implies, true_implies, implies_true, and_self, mB_0, mB_01, Classical.not_not, Nat.zero_le, List.getElem?_cons_zero, List.getElem?_cons_succ, List.set_cons_zero, List.set_cons_succ, ix_nl, ix_cs, true_and, and_true, Option.toList_some, Option.toList_none, List.cons_append, List.nil_append]
  simp only [T_X0_goes, mGoes, vi, vl, vr] at hT
  repeat' (first | refine And.intro ?_ ?_ | intro _)
  all_goals (first | exact hT | (simp only [*, if_true, if_false, not_true_eq_false, not_false_eq_true, and_true, true_and, and_false, false_and, or_true, true_or, or_false, false_or, and_self, or_self] at hT; exact hT) | (simp only [← Int32.not_lt, Classical.not_not] at *; simp only [*, if_true, if_false, not_true_eq_false, not_false_eq_true, and_true, true_and, and_false, false_and, or_true, true_or, or_false, false_or, and_self, or_self] at hT; exact hT) | (simp_all; done))
theorem k_X0_goes (l : Launch) : ix_Ct l yX0_goes cX0_goes 4 (some .int) 2 sh_X0_goes T_X0_goes := ix_ct (a_X0_goes l) rfl (by decide) (fun _ => Nat.le_of_ble_eq_true rfl) (fun x μ Q hok hT => r_X0_goes x.1 x.2.1 x.2.2.1 x.2.2.2 μ Q  hT)
def mLeaks (k m : Int32) : Int32 := if k = 1 then 2 else if k = 2 then 0 else if k = 4 then 2 + m / 3 else if k = 5 then 1 else if k = 6 then 2 else 1
def T_X0_leaks : Int32 × Int32 → ix_M → (ix_R → Prop) → Prop := fun (k, m) μ Q => Q (some (vi (mLeaks k m)), μ)
def sh_X0_leaks (x : Int32 × Int32) : List ix_V := [vi x.1, vi x.2]
theorem mo_X0_leaks (x : Int32 × Int32) (μ : ix_M) (Q Q' : ix_R → Prop) (h : ∀ r, Q r → Q' r) (hT : T_X0_leaks x μ Q) : T_X0_leaks x μ Q' := by
  obtain ⟨a0, a1⟩ := x
  first | exact h _ hT | exact ⟨hT.1, h _ hT.2⟩ | exact fun r hr => h _ (hT r hr) | exact ⟨hT.1, fun r hr => h _ (hT.2 r hr)⟩ | exact ⟨hT.1, hT.2.1, fun r hr => h _ (hT.2.2 r hr)⟩
def oc_X0_leaks (n : Nat) : ix_Op := fun k _ ls st μ => match st with
  | .inl a1 :: .inl a0 :: r => ix_cs r ≤ 8 ∧ T_X0_leaks (a0, a1) μ (fun q => k (n, ls, q.1.toList ++ r, q.2))
  | _ => False
theorem oc_X0_leaks_s {l : Launch} {cc : ByteArray} {nL : Nat} {own : String} {d : Nat} {rt : Option FieldType} {pc n : Nat} (h : ix_S l cc nL own d rt pc (ix_call 2 sh_X0_leaks T_X0_leaks n)) : ix_S l cc nL own d rt pc (oc_X0_leaks n) := by
  refine h.by (fun k Q ls st μ h => ?_) (fun k k' Q ls st μ hk h => ?_)
  · unfold oc_X0_leaks at h
    split at h
    · rename_i a1 a0 r
      obtain ⟨h1, h2⟩ := h
      exact ⟨h1, (a0, a1), rfl, _, h2, fun r h => h⟩
    · exact h.elim
  · unfold oc_X0_leaks at h ⊢
    split at h
    · obtain ⟨h1, h2⟩ := h
      exact ⟨h1, mo_X0_leaks _ _ _ _ (fun q hq => hk _ hq) h2⟩
    · exact h.elim
def o_X0_leaks : List (Nat × ix_Op) := [
  (0, ix_iload 0 1),
  (1, ix_switch [(1, 40), (2, 42), (4, 44), (5, 50), (6, 52)] 54),
  (40, ix_push (vi 2) 41),
  (41, ix_iret),
  (42, ix_push (vi 0) 43),
  (43, ix_iret),
  (44, ix_push (vi 2) 45),
  (45, ix_iload 1 46),
  (46, ix_push (vi 3) 47),
  (47, ix_div (fun x y => x / y) 48),
  (48, ix_bin (fun x y => x + y) 49),
  (49, ix_iret),
  (50, ix_push (vi 1) 51),
  (51, ix_iret),
  (52, ix_push (vi 2) 53),
  (53, ix_iret),
  (54, ix_push (vi 1) 55),
  (55, ix_iret)]
set_option maxRecDepth 20000 in
theorem a_X0_leaks (l : Launch) : ix_AllS l cX0_leaks 2 RX0 1 (some .int) o_X0_leaks :=
  .cons (ix_s_iload_n dX0_leaks_0 rfl) <|
  .cons (ix_s_tab dX0_leaks_1 (by decide) (by decide +kernel) (by decide +kernel)) <|
  .cons (ix_s_iconst dX0_leaks_40 (by decide +kernel)) <|
  .cons (ix_s_iret dX0_leaks_41 rfl) <|
  .cons (ix_s_iconst dX0_leaks_42 (by decide +kernel)) <|
  .cons (ix_s_iret dX0_leaks_43 rfl) <|
  .cons (ix_s_iconst dX0_leaks_44 (by decide +kernel)) <|
  .cons (ix_s_iload_n dX0_leaks_45 rfl) <|
  .cons (ix_s_iconst dX0_leaks_46 (by decide +kernel)) <|
  .cons (ix_s_idiv dX0_leaks_47) <|
  .cons (ix_s_iadd dX0_leaks_48) <|
  .cons (ix_s_iret dX0_leaks_49 rfl) <|
  .cons (ix_s_iconst dX0_leaks_50 (by decide +kernel)) <|
  .cons (ix_s_iret dX0_leaks_51 rfl) <|
  .cons (ix_s_iconst dX0_leaks_52 (by decide +kernel)) <|
  .cons (ix_s_iret dX0_leaks_53 rfl) <|
  .cons (ix_s_iconst dX0_leaks_54 (by decide +kernel)) <|
  .cons (ix_s_iret dX0_leaks_55 rfl) <| .nil
theorem e_X0_leaks_0 (Q : ix_R → Prop) (ls : ix_L) (st : List ix_V) (μ : ix_M) : ix_Ev o_X0_leaks Q (0, ls, st, μ) = ix_iload 0 1 (ix_Ev o_X0_leaks Q) Q ls st μ := ix_Ev.eq (a_X0_leaks launch0) rfl ls st μ
theorem e_X0_leaks_1 (Q : ix_R → Prop) (ls : ix_L) (st : List ix_V) (μ : ix_M) : ix_Ev o_X0_leaks Q (1, ls, st, μ) = ix_switch [(1, 40), (2, 42), (4, 44), (5, 50), (6, 52)] 54 (ix_Ev o_X0_leaks Q) Q ls st μ := ix_Ev.eq (a_X0_leaks launch0) rfl ls st μ
theorem e_X0_leaks_40 (Q : ix_R → Prop) (ls : ix_L) (st : List ix_V) (μ : ix_M) : ix_Ev o_X0_leaks Q (40, ls, st, μ) = ix_push (vi 2) 41 (ix_Ev o_X0_leaks Q) Q ls st μ := ix_Ev.eq (a_X0_leaks launch0) rfl ls st μ
theorem e_X0_leaks_41 (Q : ix_R → Prop) (ls : ix_L) (st : List ix_V) (μ : ix_M) : ix_Ev o_X0_leaks Q (41, ls, st, μ) = ix_iret (ix_Ev o_X0_leaks Q) Q ls st μ := ix_Ev.eq (a_X0_leaks launch0) rfl ls st μ
theorem e_X0_leaks_42 (Q : ix_R → Prop) (ls : ix_L) (st : List ix_V) (μ : ix_M) : ix_Ev o_X0_leaks Q (42, ls, st, μ) = ix_push (vi 0) 43 (ix_Ev o_X0_leaks Q) Q ls st μ := ix_Ev.eq (a_X0_leaks launch0) rfl ls st μ
theorem e_X0_leaks_43 (Q : ix_R → Prop) (ls : ix_L) (st : List ix_V) (μ : ix_M) : ix_Ev o_X0_leaks Q (43, ls, st, μ) = ix_iret (ix_Ev o_X0_leaks Q) Q ls st μ := ix_Ev.eq (a_X0_leaks launch0) rfl ls st μ
theorem e_X0_leaks_44 (Q : ix_R → Prop) (ls : ix_L) (st : List ix_V) (μ : ix_M) : ix_Ev o_X0_leaks Q (44, ls, st, μ) = ix_push (vi 2) 45 (ix_Ev o_X0_leaks Q) Q ls st μ := ix_Ev.eq (a_X0_leaks launch0) rfl ls st μ
theorem e_X0_leaks_45 (Q : ix_R → Prop) (ls : ix_L) (st : List ix_V) (μ : ix_M) : ix_Ev o_X0_leaks Q (45, ls, st, μ) = ix_iload 1 46 (ix_Ev o_X0_leaks Q) Q ls st μ := ix_Ev.eq (a_X0_leaks launch0) rfl ls st μ
theorem e_X0_leaks_46 (Q : ix_R → Prop) (ls : ix_L) (st : List ix_V) (μ : ix_M) : ix_Ev o_X0_leaks Q (46, ls, st, μ) = ix_push (vi 3) 47 (ix_Ev o_X0_leaks Q) Q ls st μ := ix_Ev.eq (a_X0_leaks launch0) rfl ls st μ
theorem e_X0_leaks_47 (Q : ix_R → Prop) (ls : ix_L) (st : List ix_V) (μ : ix_M) : ix_Ev o_X0_leaks Q (47, ls, st, μ) = ix_div (fun x y => x / y) 48 (ix_Ev o_X0_leaks Q) Q ls st μ := ix_Ev.eq (a_X0_leaks launch0) rfl ls st μ
theorem e_X0_leaks_48 (Q : ix_R → Prop) (ls : ix_L) (st : List ix_V) (μ : ix_M) : ix_Ev o_X0_leaks Q (48, ls, st, μ) = ix_bin (fun x y => x + y) 49 (ix_Ev o_X0_leaks Q) Q ls st μ := ix_Ev.eq (a_X0_leaks launch0) rfl ls st μ
theorem e_X0_leaks_49 (Q : ix_R → Prop) (ls : ix_L) (st : List ix_V) (μ : ix_M) : ix_Ev o_X0_leaks Q (49, ls, st, μ) = ix_iret (ix_Ev o_X0_leaks Q) Q ls st μ := ix_Ev.eq (a_X0_leaks launch0) rfl ls st μ
theorem e_X0_leaks_50 (Q : ix_R → Prop) (ls : ix_L) (st : List ix_V) (μ : ix_M) : ix_Ev o_X0_leaks Q (50, ls, st, μ) = ix_push (vi 1) 51 (ix_Ev o_X0_leaks Q) Q ls st μ := ix_Ev.eq (a_X0_leaks launch0) rfl ls st μ
theorem e_X0_leaks_51 (Q : ix_R → Prop) (ls : ix_L) (st : List ix_V) (μ : ix_M) : ix_Ev o_X0_leaks Q (51, ls, st, μ) = ix_iret (ix_Ev o_X0_leaks Q) Q ls st μ := ix_Ev.eq (a_X0_leaks launch0) rfl ls st μ
theorem e_X0_leaks_52 (Q : ix_R → Prop) (ls : ix_L) (st : List ix_V) (μ : ix_M) : ix_Ev o_X0_leaks Q (52, ls, st, μ) = ix_push (vi 2) 53 (ix_Ev o_X0_leaks Q) Q ls st μ := ix_Ev.eq (a_X0_leaks launch0) rfl ls st μ
theorem e_X0_leaks_53 (Q : ix_R → Prop) (ls : ix_L) (st : List ix_V) (μ : ix_M) : ix_Ev o_X0_leaks Q (53, ls, st, μ) = ix_iret (ix_Ev o_X0_leaks Q) Q ls st μ := ix_Ev.eq (a_X0_leaks launch0) rfl ls st μ
theorem e_X0_leaks_54 (Q : ix_R → Prop) (ls : ix_L) (st : List ix_V) (μ : ix_M) : ix_Ev o_X0_leaks Q (54, ls, st, μ) = ix_push (vi 1) 55 (ix_Ev o_X0_leaks Q) Q ls st μ := ix_Ev.eq (a_X0_leaks launch0) rfl ls st μ
theorem e_X0_leaks_55 (Q : ix_R → Prop) (ls : ix_L) (st : List ix_V) (μ : ix_M) : ix_Ev o_X0_leaks Q (55, ls, st, μ) = ix_iret (ix_Ev o_X0_leaks Q) Q ls st μ := ix_Ev.eq (a_X0_leaks launch0) rfl ls st μ
theorem r_X0_leaks (k : Int32) (m : Int32) (μ : ix_M) (Q : ix_R → Prop) (hT : T_X0_leaks (k, m) μ Q) : ix_Ev o_X0_leaks Q (0, [some (vi k), some (vi m)], [], μ) := by
  simp (decide := true) only [e_X0_leaks_0, e_X0_leaks_1, e_X0_leaks_40, e_X0_leaks_41, e_X0_leaks_42, e_X0_leaks_43, e_X0_leaks_44, e_X0_leaks_45, e_X0_leaks_46, e_X0_leaks_47, e_X0_leaks_48, e_X0_leaks_49, e_X0_leaks_50, e_X0_leaks_51, e_X0_leaks_52, e_X0_leaks_53, e_X0_leaks_54, e_X0_leaks_55, vi, vl, vr, ix_push, ix_iload, ix_lload, ix_aload, ix_istore, ix_astore, ix_iinc, ix_bin, ix_div, ix_un, ix_i2l, ix_l2i, ix_lbin, ix_lsh, ix_lcmp, ix_dup, ix_dup2, ix_pop, ix_if, ix_cmp, ix_goto, ix_switch, ix_sw, ix_iret, ix_zret, ix_vret, ix_aret, ix_geti, ix_getr, ix_puti, ix_putz, ix_puts, ix_gets, ix_iald, ix_iast, ix_alen, ix_aald, ix_gval, ix_gcod, ix_bald, ix_blen, ix_sald, ix_nret, ix_math2, ix_math1, ix_acopy, Nat.add_assoc, Int32.reduceLT, Int32.reduceLE, Int32.reduceToNatClampNeg, Int32.reduceSub, Int32.reduceAdd, Nat.reduceAdd, Nat.reduceLeDiff, true_or, or_true, or_false, false_or, not_false_eq_true, not_true_eq_false, false_implies, true_implies, implies_true, and_self, mB_0, mB_01, Classical.not_not, Nat.zero_le, List.getElem?_cons_zero, List.getElem?_cons_succ, List.set_cons_zero, List.set_cons_succ, ix_nl, ix_cs, true_and, and_true, Option.toList_some, Option.toList_none, List.cons_append, List.nil_append]
  simp only [T_X0_leaks, mLeaks, vi, vl, vr] at hT
  repeat' (first | refine And.intro ?_ ?_ | intro _)
  all_goals (first | exact hT | (simp only [*, if_true, if_false, not_true_eq_false, not_false_eq_true, and_true, true_and, and_false, false_and, or_true, true_or, or_false, false_or, and_self, or_self] at hT; exact hT) | (simp only [← Int32.not_lt, Classical.not_not] at *; simp only [*, if_true, if_false, not_true_eq_false, not_false_eq_true, and_true, true_and, and_false, false_and, or_true, true_or, or_false, false_or, and_self, or_self] at hT; exact hT) | (simp_all; done))
theorem k_X0_leaks (l : Launch) : ix_Ct l yX0_leaks cX0_leaks 2 (some .int) 1 sh_X0_leaks T_X0_leaks := ix_ct (a_X0_leaks l) rfl (by decide) (fun _ => Nat.le_of_ble_eq_true rfl) (fun x μ Q hok hT => r_X0_leaks x.1 x.2 μ Q  hT)
def mUnd (n : Nat) (k o : Int32) : Bool := match n with
  | 0 => false
  | n + 1 => if k < 0 then false else if k = o then true else mUnd n (mAbove k) o
def T_X0_isUnder : Int32 × Int32 → ix_M → (ix_R → Prop) → Prop := fun (k, o) μ Q => Q (some (vi (mB (mUnd 7 k o = true))), μ)
def sh_X0_isUnder (x : Int32 × Int32) : List ix_V := [vi x.1, vi x.2]
theorem mo_X0_isUnder (x : Int32 × Int32) (μ : ix_M) (Q Q' : ix_R → Prop) (h : ∀ r, Q r → Q' r) (hT : T_X0_isUnder x μ Q) : T_X0_isUnder x μ Q' := by
  obtain ⟨a0, a1⟩ := x
  first | exact h _ hT | exact ⟨hT.1, h _ hT.2⟩ | exact fun r hr => h _ (hT r hr) | exact ⟨hT.1, fun r hr => h _ (hT.2 r hr)⟩ | exact ⟨hT.1, hT.2.1, fun r hr => h _ (hT.2.2 r hr)⟩
def oc_X0_isUnder (n : Nat) : ix_Op := fun k _ ls st μ => match st with
  | .inl a1 :: .inl a0 :: r => ix_cs r ≤ 8 ∧ T_X0_isUnder (a0, a1) μ (fun q => k (n, ls, q.1.toList ++ r, q.2))
  | _ => False
theorem oc_X0_isUnder_s {l : Launch} {cc : ByteArray} {nL : Nat} {own : String} {d : Nat} {rt : Option FieldType} {pc n : Nat} (h : ix_S l cc nL own d rt pc (ix_call 2 sh_X0_isUnder T_X0_isUnder n)) : ix_S l cc nL own d rt pc (oc_X0_isUnder n) := by
  refine h.by (fun k Q ls st μ h => ?_) (fun k k' Q ls st μ hk h => ?_)
  · unfold oc_X0_isUnder at h
    split at h
    · rename_i a1 a0 r
      obtain ⟨h1, h2⟩ := h
      exact ⟨h1, (a0, a1), rfl, _, h2, fun r h => h⟩
    · exact h.elim
  · unfold oc_X0_isUnder at h ⊢
    split at h
    · obtain ⟨h1, h2⟩ := h
      exact ⟨h1, mo_X0_isUnder _ _ _ _ (fun q hq => hk _ hq) h2⟩
    · exact h.elim
def o_X0_isUnder : List (Nat × ix_Op) := [
  (0, ix_iload 0 1),
  (1, ix_istore 2 2),
  (2, ix_push (vi 0) 3),
  (3, ix_istore 3 4),
  (4, ix_iload 3 5),
  (5, ix_push (vi 7) 7),
  (7, ix_cmp (fun x y => y ≤ x) 32 10),
  (10, ix_iload 2 11),
  (11, ix_if (fun x => x < 0) 32 14),
  (14, ix_iload 2 15),
  (15, ix_iload 1 16),
  (16, ix_cmp (fun x y => x = y) 19 21),
  (19, ix_push (vi 1) 20),
  (20, ix_zret),
  (21, ix_iload 2 22),
  (22, oc_X0_above 25),
  (25, ix_istore 2 26),
  (26, ix_iinc 3 1 29),
  (29, ix_goto 4),
  (32, ix_push (vi 0) 33),
  (33, ix_zret)]
set_option maxRecDepth 20000 in
theorem a_X0_isUnder (l : Launch) : ix_AllS l cX0_isUnder 4 RX0 2 (some .boolean) o_X0_isUnder :=
  .cons (ix_s_iload_n dX0_isUnder_0 rfl) <|
  .cons (ix_s_istore_n dX0_isUnder_1 rfl (by decide)) <|
  .cons (ix_s_iconst dX0_isUnder_2 (by decide +kernel)) <|
  .cons (ix_s_istore_n dX0_isUnder_3 rfl (by decide)) <|
  .cons (ix_s_iload_n dX0_isUnder_4 rfl) <|
  .cons (ix_s_bipush dX0_isUnder_5 (by decide +kernel)) <|
  .cons (ix_s_cmp_ge dX0_isUnder_7 (by decide)) <|
  .cons (ix_s_iload_n dX0_isUnder_10 rfl) <|
  .cons (ix_s_if_lt dX0_isUnder_11 (by decide)) <|
  .cons (ix_s_iload_n dX0_isUnder_14 rfl) <|
  .cons (ix_s_iload_n dX0_isUnder_15 rfl) <|
  .cons (ix_s_cmp_ne dX0_isUnder_16 (by decide)) <|
  .cons (ix_s_iconst dX0_isUnder_19 (by decide +kernel)) <|
  .cons (ix_s_zret dX0_isUnder_20 rfl) <|
  .cons (ix_s_iload_n dX0_isUnder_21 rfl) <|
  .cons (oc_X0_above_s (ix_s_calls (k_X0_above l) (by decide) (by decide) tw_428 tw_13 tw_426 tw_427 ⟨by decide, by decide, by decide +kernel⟩ (fun _ => rfl) dX0_isUnder_22)) <|
  .cons (ix_s_istore_n dX0_isUnder_25 rfl (by decide)) <|
  .cons (ix_s_iinc dX0_isUnder_26 (by decide +kernel) (by decide)) <|
  .cons (ix_s_goto dX0_isUnder_29 (by decide)) <|
  .cons (ix_s_iconst dX0_isUnder_32 (by decide +kernel)) <|
  .cons (ix_s_zret dX0_isUnder_33 rfl) <| .nil
theorem e_X0_isUnder_0 (Q : ix_R → Prop) (ls : ix_L) (st : List ix_V) (μ : ix_M) : ix_Ev o_X0_isUnder Q (0, ls, st, μ) = ix_iload 0 1 (ix_Ev o_X0_isUnder Q) Q ls st μ := ix_Ev.eq (a_X0_isUnder launch0) rfl ls st μ
theorem e_X0_isUnder_1 (Q : ix_R → Prop) (ls : ix_L) (st : List ix_V) (μ : ix_M) : ix_Ev o_X0_isUnder Q (1, ls, st, μ) = ix_istore 2 2 (ix_Ev o_X0_isUnder Q) Q ls st μ := ix_Ev.eq (a_X0_isUnder launch0) rfl ls st μ
theorem e_X0_isUnder_2 (Q : ix_R → Prop) (ls : ix_L) (st : List ix_V) (μ : ix_M) : ix_Ev o_X0_isUnder Q (2, ls, st, μ) = ix_push (vi 0) 3 (ix_Ev o_X0_isUnder Q) Q ls st μ := ix_Ev.eq (a_X0_isUnder launch0) rfl ls st μ
theorem e_X0_isUnder_3 (Q : ix_R → Prop) (ls : ix_L) (st : List ix_V) (μ : ix_M) : ix_Ev o_X0_isUnder Q (3, ls, st, μ) = ix_istore 3 4 (ix_Ev o_X0_isUnder Q) Q ls st μ := ix_Ev.eq (a_X0_isUnder launch0) rfl ls st μ
theorem e_X0_isUnder_4 (Q : ix_R → Prop) (ls : ix_L) (st : List ix_V) (μ : ix_M) : ix_Ev o_X0_isUnder Q (4, ls, st, μ) = ix_iload 3 5 (ix_Ev o_X0_isUnder Q) Q ls st μ := ix_Ev.eq (a_X0_isUnder launch0) rfl ls st μ
theorem e_X0_isUnder_5 (Q : ix_R → Prop) (ls : ix_L) (st : List ix_V) (μ : ix_M) : ix_Ev o_X0_isUnder Q (5, ls, st, μ) = ix_push (vi 7) 7 (ix_Ev o_X0_isUnder Q) Q ls st μ := ix_Ev.eq (a_X0_isUnder launch0) rfl ls st μ
theorem e_X0_isUnder_7 (Q : ix_R → Prop) (ls : ix_L) (st : List ix_V) (μ : ix_M) : ix_Ev o_X0_isUnder Q (7, ls, st, μ) = ix_cmp (fun x y => y ≤ x) 32 10 (ix_Ev o_X0_isUnder Q) Q ls st μ := ix_Ev.eq (a_X0_isUnder launch0) rfl ls st μ
theorem e_X0_isUnder_10 (Q : ix_R → Prop) (ls : ix_L) (st : List ix_V) (μ : ix_M) : ix_Ev o_X0_isUnder Q (10, ls, st, μ) = ix_iload 2 11 (ix_Ev o_X0_isUnder Q) Q ls st μ := ix_Ev.eq (a_X0_isUnder launch0) rfl ls st μ
theorem e_X0_isUnder_11 (Q : ix_R → Prop) (ls : ix_L) (st : List ix_V) (μ : ix_M) : ix_Ev o_X0_isUnder Q (11, ls, st, μ) = ix_if (fun x => x < 0) 32 14 (ix_Ev o_X0_isUnder Q) Q ls st μ := ix_Ev.eq (a_X0_isUnder launch0) rfl ls st μ
theorem e_X0_isUnder_14 (Q : ix_R → Prop) (ls : ix_L) (st : List ix_V) (μ : ix_M) : ix_Ev o_X0_isUnder Q (14, ls, st, μ) = ix_iload 2 15 (ix_Ev o_X0_isUnder Q) Q ls st μ := ix_Ev.eq (a_X0_isUnder launch0) rfl ls st μ
theorem e_X0_isUnder_15 (Q : ix_R → Prop) (ls : ix_L) (st : List ix_V) (μ : ix_M) : ix_Ev o_X0_isUnder Q (15, ls, st, μ) = ix_iload 1 16 (ix_Ev o_X0_isUnder Q) Q ls st μ := ix_Ev.eq (a_X0_isUnder launch0) rfl ls st μ
theorem e_X0_isUnder_16 (Q : ix_R → Prop) (ls : ix_L) (st : List ix_V) (μ : ix_M) : ix_Ev o_X0_isUnder Q (16, ls, st, μ) = ix_cmp (fun x y => x = y) 19 21 (ix_Ev o_X0_isUnder Q) Q ls st μ := ix_Ev.eq (a_X0_isUnder launch0) rfl ls st μ
theorem e_X0_isUnder_19 (Q : ix_R → Prop) (ls : ix_L) (st : List ix_V) (μ : ix_M) : ix_Ev o_X0_isUnder Q (19, ls, st, μ) = ix_push (vi 1) 20 (ix_Ev o_X0_isUnder Q) Q ls st μ := ix_Ev.eq (a_X0_isUnder launch0) rfl ls st μ
theorem e_X0_isUnder_20 (Q : ix_R → Prop) (ls : ix_L) (st : List ix_V) (μ : ix_M) : ix_Ev o_X0_isUnder Q (20, ls, st, μ) = ix_zret (ix_Ev o_X0_isUnder Q) Q ls st μ := ix_Ev.eq (a_X0_isUnder launch0) rfl ls st μ
theorem e_X0_isUnder_21 (Q : ix_R → Prop) (ls : ix_L) (st : List ix_V) (μ : ix_M) : ix_Ev o_X0_isUnder Q (21, ls, st, μ) = ix_iload 2 22 (ix_Ev o_X0_isUnder Q) Q ls st μ := ix_Ev.eq (a_X0_isUnder launch0) rfl ls st μ
theorem e_X0_isUnder_22 (Q : ix_R → Prop) (ls : ix_L) (st : List ix_V) (μ : ix_M) : ix_Ev o_X0_isUnder Q (22, ls, st, μ) = oc_X0_above 25 (ix_Ev o_X0_isUnder Q) Q ls st μ := ix_Ev.eq (a_X0_isUnder launch0) rfl ls st μ
theorem e_X0_isUnder_25 (Q : ix_R → Prop) (ls : ix_L) (st : List ix_V) (μ : ix_M) : ix_Ev o_X0_isUnder Q (25, ls, st, μ) = ix_istore 2 26 (ix_Ev o_X0_isUnder Q) Q ls st μ := ix_Ev.eq (a_X0_isUnder launch0) rfl ls st μ
theorem e_X0_isUnder_26 (Q : ix_R → Prop) (ls : ix_L) (st : List ix_V) (μ : ix_M) : ix_Ev o_X0_isUnder Q (26, ls, st, μ) = ix_iinc 3 1 29 (ix_Ev o_X0_isUnder Q) Q ls st μ := ix_Ev.eq (a_X0_isUnder launch0) rfl ls st μ
theorem e_X0_isUnder_29 (Q : ix_R → Prop) (ls : ix_L) (st : List ix_V) (μ : ix_M) : ix_Ev o_X0_isUnder Q (29, ls, st, μ) = ix_goto 4 (ix_Ev o_X0_isUnder Q) Q ls st μ := ix_Ev.eq (a_X0_isUnder launch0) rfl ls st μ
theorem e_X0_isUnder_32 (Q : ix_R → Prop) (ls : ix_L) (st : List ix_V) (μ : ix_M) : ix_Ev o_X0_isUnder Q (32, ls, st, μ) = ix_push (vi 0) 33 (ix_Ev o_X0_isUnder Q) Q ls st μ := ix_Ev.eq (a_X0_isUnder launch0) rfl ls st μ
theorem e_X0_isUnder_33 (Q : ix_R → Prop) (ls : ix_L) (st : List ix_V) (μ : ix_M) : ix_Ev o_X0_isUnder Q (33, ls, st, μ) = ix_zret (ix_Ev o_X0_isUnder Q) Q ls st μ := ix_Ev.eq (a_X0_isUnder launch0) rfl ls st μ
theorem l_X0_isUnder (kind o : Int32) (μ : ix_M) (Q : ix_R → Prop) : ∀ (n : Nat) (k : Int32), n ≤ 7 → Q (some (vi (mB (mUnd n k o = true))), μ) → ix_Ev o_X0_isUnder Q (4, [some (vi kind), some (vi o), some (vi k), some (vi (nI (7 - n)))], [], μ)
  | 0, k, _, h => by
    rw [e_X0_isUnder_4]
    simp (decide := true) only [e_X0_isUnder_0, e_X0_isUnder_1, e_X0_isUnder_2, e_X0_isUnder_3, e_X0_isUnder_5, e_X0_isUnder_7, e_X0_isUnder_10, e_X0_isUnder_11, e_X0_isUnder_14, e_X0_isUnder_15, e_X0_isUnder_16, e_X0_isUnder_19, e_X0_isUnder_20, e_X0_isUnder_21, e_X0_isUnder_22, e_X0_isUnder_25, e_X0_isUnder_26, e_X0_isUnder_29, e_X0_isUnder_32, e_X0_isUnder_33, vi, vl, vr, oc_X0_above, T_X0_above, ix_push, ix_iload, ix_lload, ix_aload, ix_istore, ix_astore, ix_iinc, ix_bin, ix_div, ix_un, ix_i2l, ix_l2i, ix_lbin, ix_lsh, ix_lcmp, ix_dup, ix_dup2, ix_pop, ix_if, ix_cmp, ix_goto, ix_switch, ix_sw, ix_iret, ix_zret, ix_vret, ix_aret, ix_geti, ix_getr, ix_puti, ix_putz, ix_puts, ix_gets, ix_iald, ix_iast, ix_alen, ix_aald, ix_gval, ix_gcod, ix_bald, ix_blen, ix_sald, ix_nret, ix_math2, ix_math1, ix_acopy, Nat.add_assoc, Int32.reduceLT, Int32.reduceLE, Int32.reduceToNatClampNeg, Int32.reduceSub, Int32.reduceAdd, Nat.reduceAdd, Nat.reduceLeDiff, true_or, or_true, or_false, false_or, not_false_eq_true, not_true_eq_false, false_implies, true_implies, implies_true, and_self, mB_0, mB_01, Classical.not_not, Nat.zero_le, List.getElem?_cons_zero, List.getElem?_cons_succ, List.set_cons_zero, List.set_cons_succ, ix_nl, ix_cs, true_and, and_true, Option.toList_some, Option.toList_none, List.cons_append, List.nil_append]
    simp only [mUnd, mB] at h
    simpa using h
  | n + 1, k, hn, h => by
    rw [e_X0_isUnder_4]
    simp (decide := true) only [e_X0_isUnder_0, e_X0_isUnder_1, e_X0_isUnder_2, e_X0_isUnder_3, e_X0_isUnder_5, e_X0_isUnder_7, e_X0_isUnder_10, e_X0_isUnder_11, e_X0_isUnder_14, e_X0_isUnder_15, e_X0_isUnder_16, e_X0_isUnder_19, e_X0_isUnder_20, e_X0_isUnder_21, e_X0_isUnder_22, e_X0_isUnder_25, e_X0_isUnder_26, e_X0_isUnder_29, e_X0_isUnder_32, e_X0_isUnder_33, vi, vl, vr, oc_X0_above, T_X0_above, ix_push, ix_iload, ix_lload, ix_aload, ix_istore, ix_astore, ix_iinc, ix_bin, ix_div, ix_un, ix_i2l, ix_l2i, ix_lbin, ix_lsh, ix_lcmp, ix_dup, ix_dup2, ix_pop, ix_if, ix_cmp, ix_goto, ix_switch, ix_sw, ix_iret, ix_zret, ix_vret, ix_aret, ix_geti, ix_getr, ix_puti, ix_putz, ix_puts, ix_gets, ix_iald, ix_iast, ix_alen, ix_aald, ix_gval, ix_gcod, ix_bald, ix_blen, ix_sald, ix_nret, ix_math2, ix_math1, ix_acopy, Nat.add_assoc, Int32.reduceLT, Int32.reduceLE, Int32.reduceToNatClampNeg, Int32.reduceSub, Int32.reduceAdd, Nat.reduceAdd, Nat.reduceLeDiff, true_or, or_true, or_false, false_or, not_false_eq_true, not_true_eq_false, false_implies, true_implies, implies_true, and_self, mB_0, mB_01, Classical.not_not, Nat.zero_le, List.getElem?_cons_zero, List.getElem?_cons_succ, List.set_cons_zero, List.set_cons_succ, ix_nl, ix_cs, true_and, and_true, Option.toList_some, Option.toList_none, List.cons_append, List.nil_append]
    refine ⟨fun c => absurd c (by rw [fa_lit 7]; exact nI_ge (by omega) (by omega)), fun _ => ⟨fun c => ?_, fun c => ⟨fun e => ?_, fun e => ?_⟩⟩⟩
    · simp only [mUnd, c, if_true] at h
      simpa [mB] using h
    · subst e
      simp only [mUnd, c, if_false, if_true] at h
      simpa [mB] using h
    · simp only [mUnd, c, if_false, e] at h
      have := l_X0_isUnder kind o μ Q n (mAbove k) (by omega) h
      rw [show nI (7 - (n + 1)) + 1 = nI (7 - n) by rw [nI_1]; congr 1; omega]
      exact this
theorem r_X0_isUnder (k : Int32) (o : Int32) (μ : ix_M) (Q : ix_R → Prop) (hT : T_X0_isUnder (k, o) μ Q) : ix_Ev o_X0_isUnder Q (0, [some (vi k), some (vi o), none, none], [], μ) := by
  simp (decide := true) only [e_X0_isUnder_0, e_X0_isUnder_1, e_X0_isUnder_2, e_X0_isUnder_3, e_X0_isUnder_5, e_X0_isUnder_7, e_X0_isUnder_10, e_X0_isUnder_11, e_X0_isUnder_14, e_X0_isUnder_15, e_X0_isUnder_16, e_X0_isUnder_19, e_X0_isUnder_20, e_X0_isUnder_21, e_X0_isUnder_22, e_X0_isUnder_25, e_X0_isUnder_26, e_X0_isUnder_29, e_X0_isUnder_32, e_X0_isUnder_33, vi, vl, vr, oc_X0_above, T_X0_above, ix_push, ix_iload, ix_lload, ix_aload, ix_istore, ix_astore, ix_iinc, ix_bin, ix_div, ix_un, ix_i2l, ix_l2i, ix_lbin, ix_lsh, ix_lcmp, ix_dup, ix_dup2, ix_pop, ix_if, ix_cmp, ix_goto, ix_switch, ix_sw, ix_iret, ix_zret, ix_vret, ix_aret, ix_geti, ix_getr, ix_puti, ix_putz, ix_puts, ix_gets, ix_iald, ix_iast, ix_alen, ix_aald, ix_gval, ix_gcod, ix_bald, ix_blen, ix_sald, ix_nret, ix_math2, ix_math1, ix_acopy, Nat.add_assoc, Int32.reduceLT, Int32.reduceLE, Int32.reduceToNatClampNeg, Int32.reduceSub, Int32.reduceAdd, Nat.reduceAdd, Nat.reduceLeDiff, true_or, or_true, or_false, false_or, not_false_eq_true, not_true_eq_false, false_implies, true_implies, implies_true, and_self, mB_0, mB_01, Classical.not_not, Nat.zero_le, List.getElem?_cons_zero, List.getElem?_cons_succ, List.set_cons_zero, List.set_cons_succ, ix_nl, ix_cs, true_and, and_true, Option.toList_some, Option.toList_none, List.cons_append, List.nil_append]
  exact l_X0_isUnder k o μ Q 7 k (Nat.le_refl _) hT
theorem k_X0_isUnder (l : Launch) : ix_Ct l yX0_isUnder cX0_isUnder 4 (some .boolean) 2 sh_X0_isUnder T_X0_isUnder := ix_ct (a_X0_isUnder l) rfl (by decide) (fun _ => Nat.le_of_ble_eq_true rfl) (fun x μ Q hok hT => r_X0_isUnder x.1 x.2 μ Q  hT)
