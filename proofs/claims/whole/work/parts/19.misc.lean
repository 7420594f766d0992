/-! ===== divisor, sheets, copies of laws and states ===== -/
def mCd (A B : Nat) (k : Nat) : Nat := match k with
  | 0 => 1
  | k + 1 => if k = 0 then 1 else if A % (k + 1) = 0 ∧ B % (k + 1) = 0 then k + 1 else mCd A B k
def T_X10_commonDivisor : Int32 × Int32 → ix_M → (ix_R → Prop) → Prop := fun (a, b) μ Q => ∃ A B : Nat, a = nI A ∧ A < 1000 ∧ b = nI B ∧ B < 1000 ∧ Q (some (vi (nI (mCd A B B))), μ)
def sh_X10_commonDivisor (x : Int32 × Int32) : List ix_V := [vi x.1, vi x.2]
theorem mo_X10_commonDivisor (x : Int32 × Int32) (μ : ix_M) (Q Q' : ix_R → Prop) (h : ∀ r, Q r → Q' r) (hT : T_X10_commonDivisor x μ Q) : T_X10_commonDivisor x μ Q' := by
  obtain ⟨a0, a1⟩ := x
  (obtain ⟨A, B, h1, h2, h3, h4, h5⟩ := hT; exact ⟨A, B, h1, h2, h3, h4, h _ h5⟩)
def oc_X10_commonDivisor (n : Nat) : ix_Op := fun k _ ls st μ => match st with
  | .inl a1 :: .inl a0 :: r => ix_cs r ≤ 8 ∧ T_X10_commonDivisor (a0, a1) μ (fun q => k (n, ls, q.1.toList ++ r, q.2))
  | _ => False
theorem oc_X10_commonDivisor_s {l : Launch} {cc : ByteArray} {nL : Nat} {own : String} {d : Nat} {rt : Option FieldType} {pc n : Nat} (h : ix_S l cc nL own d rt pc (ix_call 2 sh_X10_commonDivisor T_X10_commonDivisor n)) : ix_S l cc nL own d rt pc (oc_X10_commonDivisor n) := by
  refine h.by (fun k Q ls st μ h => ?_) (fun k k' Q ls st μ hk h => ?_)
  · unfold oc_X10_commonDivisor at h
    split at h
    · rename_i a1 a0 r
      obtain ⟨h1, h2⟩ := h
      exact ⟨h1, (a0, a1), rfl, _, h2, fun r h => h⟩
    · exact h.elim
  · unfold oc_X10_commonDivisor at h ⊢
    split at h
    · obtain ⟨h1, h2⟩ := h
      exact ⟨h1, mo_X10_commonDivisor _ _ _ _ (fun q hq => hk _ hq) h2⟩
    · exact h.elim
def o_X10_commonDivisor : List (Nat × ix_Op) := [
  (0, ix_iload 1 1),
  (1, ix_istore 2 2),
  (2, ix_iload 2 3),
  (3, ix_push (vi 1) 4),
  (4, ix_cmp (fun x y => x ≤ y) 27 7),
  (7, ix_iload 0 8),
  (8, ix_iload 2 9),
  (9, ix_div (fun x y => x - x / y * y) 10),
  (10, ix_if (fun x => x = 0) 13 21),
  (13, ix_iload 1 14),
  (14, ix_iload 2 15),
  (15, ix_div (fun x y => x - x / y * y) 16),
  (16, ix_if (fun x => x = 0) 19 21),
  (19, ix_iload 2 20),
  (20, ix_iret),
  (21, ix_iinc 2 (-1) 24),
  (24, ix_goto 2),
  (27, ix_push (vi 1) 28),
  (28, ix_iret)]
set_option maxRecDepth 20000 in
theorem a_X10_commonDivisor (l : Launch) : ix_AllS l cX10_commonDivisor 3 RX10 1 (some .int) o_X10_commonDivisor :=
  .cons (ix_s_iload_n dX10_commonDivisor_0 rfl) <|
  .cons (ix_s_istore_n dX10_commonDivisor_1 rfl (by decide)) <|
  .cons (ix_s_iload_n dX10_commonDivisor_2 rfl) <|
  .cons (ix_s_iconst dX10_commonDivisor_3 (by decide +kernel)) <|
  .cons (ix_s_cmp_le dX10_commonDivisor_4 (by decide)) <|
  .cons (ix_s_iload_n dX10_commonDivisor_7 rfl) <|
  .cons (ix_s_iload_n dX10_commonDivisor_8 rfl) <|
  .cons (ix_s_irem dX10_commonDivisor_9) <|
  .cons (ix_s_if_ne dX10_commonDivisor_10 (by decide)) <|
  .cons (ix_s_iload_n dX10_commonDivisor_13 rfl) <|
  .cons (ix_s_iload_n dX10_commonDivisor_14 rfl) <|
  .cons (ix_s_irem dX10_commonDivisor_15) <|
  .cons (ix_s_if_ne dX10_commonDivisor_16 (by decide)) <|
  .cons (ix_s_iload_n dX10_commonDivisor_19 rfl) <|
  .cons (ix_s_iret dX10_commonDivisor_20 rfl) <|
  .cons (ix_s_iinc dX10_commonDivisor_21 (by decide +kernel) (by decide)) <|
  .cons (ix_s_goto dX10_commonDivisor_24 (by decide)) <|
  .cons (ix_s_iconst dX10_commonDivisor_27 (by decide +kernel)) <|
  .cons (ix_s_iret dX10_commonDivisor_28 rfl) <| .nil
theorem e_X10_commonDivisor_0 (Q : ix_R → Prop) (ls : ix_L) (st : List ix_V) (μ : ix_M) : ix_Ev o_X10_commonDivisor Q (0, ls, st, μ) = ix_iload 1 1 (ix_Ev o_X10_commonDivisor Q) Q ls st μ := ix_Ev.eq (a_X10_commonDivisor launch0) rfl ls st μ
theorem e_X10_commonDivisor_1 (Q : ix_R → Prop) (ls : ix_L) (st : List ix_V) (μ : ix_M) : ix_Ev o_X10_commonDivisor Q (1, ls, st, μ) = ix_istore 2 2 (ix_Ev o_X10_commonDivisor Q) Q ls st μ := ix_Ev.eq (a_X10_commonDivisor launch0) rfl ls st μ
theorem e_X10_commonDivisor_2 (Q : ix_R → Prop) (ls : ix_L) (st : List ix_V) (μ : ix_M) : ix_Ev o_X10_commonDivisor Q (2, ls, st, μ) = ix_iload 2 3 (ix_Ev o_X10_commonDivisor Q) Q ls st μ := ix_Ev.eq (a_X10_commonDivisor launch0) rfl ls st μ
theorem e_X10_commonDivisor_3 (Q : ix_R → Prop) (ls : ix_L) (st : List ix_V) (μ : ix_M) : ix_Ev o_X10_commonDivisor Q (3, ls, st, μ) = ix_push (vi 1) 4 (ix_Ev o_X10_commonDivisor Q) Q ls st μ := ix_Ev.eq (a_X10_commonDivisor launch0) rfl ls st μ
theorem e_X10_commonDivisor_4 (Q : ix_R → Prop) (ls : ix_L) (st : List ix_V) (μ : ix_M) : ix_Ev o_X10_commonDivisor Q (4, ls, st, μ) = ix_cmp (fun x y => x ≤ y) 27 7 (ix_Ev o_X10_commonDivisor Q) Q ls st μ := ix_Ev.eq (a_X10_commonDivisor launch0) rfl ls st μ
theorem e_X10_commonDivisor_7 (Q : ix_R → Prop) (ls : ix_L) (st : List ix_V) (μ : ix_M) : ix_Ev o_X10_commonDivisor Q (7, ls, st, μ) = ix_iload 0 8 (ix_Ev o_X10_commonDivisor Q) Q ls st μ := ix_Ev.eq (a_X10_commonDivisor launch0) rfl ls st μ
theorem e_X10_commonDivisor_8 (Q : ix_R → Prop) (ls : ix_L) (st : List ix_V) (μ : ix_M) : ix_Ev o_X10_commonDivisor Q (8, ls, st, μ) = ix_iload 2 9 (ix_Ev o_X10_commonDivisor Q) Q ls st μ := ix_Ev.eq (a_X10_commonDivisor launch0) rfl ls st μ
theorem e_X10_commonDivisor_9 (Q : ix_R → Prop) (ls : ix_L) (st : List ix_V) (μ : ix_M) : ix_Ev o_X10_commonDivisor Q (9, ls, st, μ) = ix_div (fun x y => x - x / y * y) 10 (ix_Ev o_X10_commonDivisor Q) Q ls st μ := ix_Ev.eq (a_X10_commonDivisor launch0) rfl ls st μ
theorem e_X10_commonDivisor_10 (Q : ix_R → Prop) (ls : ix_L) (st : List ix_V) (μ : ix_M) : ix_Ev o_X10_commonDivisor Q (10, ls, st, μ) = ix_if (fun x => x = 0) 13 21 (ix_Ev o_X10_commonDivisor Q) Q ls st μ := ix_Ev.eq (a_X10_commonDivisor launch0) rfl ls st μ
theorem e_X10_commonDivisor_13 (Q : ix_R → Prop) (ls : ix_L) (st : List ix_V) (μ : ix_M) : ix_Ev o_X10_commonDivisor Q (13, ls, st, μ) = ix_iload 1 14 (ix_Ev o_X10_commonDivisor Q) Q ls st μ := ix_Ev.eq (a_X10_commonDivisor launch0) rfl ls st μ
theorem e_X10_commonDivisor_14 (Q : ix_R → Prop) (ls : ix_L) (st : List ix_V) (μ : ix_M) : ix_Ev o_X10_commonDivisor Q (14, ls, st, μ) = ix_iload 2 15 (ix_Ev o_X10_commonDivisor Q) Q ls st μ := ix_Ev.eq (a_X10_commonDivisor launch0) rfl ls st μ
theorem e_X10_commonDivisor_15 (Q : ix_R → Prop) (ls : ix_L) (st : List ix_V) (μ : ix_M) : ix_Ev o_X10_commonDivisor Q (15, ls, st, μ) = ix_div (fun x y => x - x / y * y) 16 (ix_Ev o_X10_commonDivisor Q) Q ls st μ := ix_Ev.eq (a_X10_commonDivisor launch0) rfl ls st μ
theorem e_X10_commonDivisor_16 (Q : ix_R → Prop) (ls : ix_L) (st : List ix_V) (μ : ix_M) : ix_Ev o_X10_commonDivisor Q (16, ls, st, μ) = ix_if (fun x => x = 0) 19 21 (ix_Ev o_X10_commonDivisor Q) Q ls st μ := ix_Ev.eq (a_X10_commonDivisor launch0) rfl ls st μ
theorem e_X10_commonDivisor_19 (Q : ix_R → Prop) (ls : ix_L) (st : List ix_V) (μ : ix_M) : ix_Ev o_X10_commonDivisor Q (19, ls, st, μ) = ix_iload 2 20 (ix_Ev o_X10_commonDivisor Q) Q ls st μ := ix_Ev.eq (a_X10_commonDivisor launch0) rfl ls st μ
theorem e_X10_commonDivisor_20 (Q : ix_R → Prop) (ls : ix_L) (st : List ix_V) (μ : ix_M) : ix_Ev o_X10_commonDivisor Q (20, ls, st, μ) = ix_iret (ix_Ev o_X10_commonDivisor Q) Q ls st μ := ix_Ev.eq (a_X10_commonDivisor launch0) rfl ls st μ
theorem e_X10_commonDivisor_21 (Q : ix_R → Prop) (ls : ix_L) (st : List ix_V) (μ : ix_M) : ix_Ev o_X10_commonDivisor Q (21, ls, st, μ) = ix_iinc 2 (-1) 24 (ix_Ev o_X10_commonDivisor Q) Q ls st μ := ix_Ev.eq (a_X10_commonDivisor launch0) rfl ls st μ
theorem e_X10_commonDivisor_24 (Q : ix_R → Prop) (ls : ix_L) (st : List ix_V) (μ : ix_M) : ix_Ev o_X10_commonDivisor Q (24, ls, st, μ) = ix_goto 2 (ix_Ev o_X10_commonDivisor Q) Q ls st μ := ix_Ev.eq (a_X10_commonDivisor launch0) rfl ls st μ
theorem e_X10_commonDivisor_27 (Q : ix_R → Prop) (ls : ix_L) (st : List ix_V) (μ : ix_M) : ix_Ev o_X10_commonDivisor Q (27, ls, st, μ) = ix_push (vi 1) 28 (ix_Ev o_X10_commonDivisor Q) Q ls st μ := ix_Ev.eq (a_X10_commonDivisor launch0) rfl ls st μ
theorem e_X10_commonDivisor_28 (Q : ix_R → Prop) (ls : ix_L) (st : List ix_V) (μ : ix_M) : ix_Ev o_X10_commonDivisor Q (28, ls, st, μ) = ix_iret (ix_Ev o_X10_commonDivisor Q) Q ls st μ := ix_Ev.eq (a_X10_commonDivisor launch0) rfl ls st μ
theorem l_X10_commonDivisor {A B : Nat} (hA : A < 1000) (hB : B < 1000) {μ : ix_M} {Q : ix_R → Prop} : ∀ k : Nat, k < 1000 → Q (some (vi (nI (mCd A B k))), μ) → ix_Ev o_X10_commonDivisor Q (2, [some (vi (nI A)), some (vi (nI B)), some (vi (nI k))], [], μ) := by
  intro k
  induction k with
  | zero =>
    intro _ hQ
    rw [e_X10_commonDivisor_2]
    simp (decide := true) only [e_X10_commonDivisor_0, e_X10_commonDivisor_1, e_X10_commonDivisor_3, e_X10_commonDivisor_4, e_X10_commonDivisor_7, e_X10_commonDivisor_8, e_X10_commonDivisor_9, e_X10_commonDivisor_10, e_X10_commonDivisor_13, e_X10_commonDivisor_14, e_X10_commonDivisor_15, e_X10_commonDivisor_16, e_X10_commonDivisor_19, e_X10_commonDivisor_20, e_X10_commonDivisor_21, e_X10_commonDivisor_24, e_X10_commonDivisor_27, e_X10_commonDivisor_28, vi, vl, vr, ix_push, ix_iload, ix_lload, ix_aload, ix_istore, ix_astore, ix_iinc, ix_bin, ix_div, ix_un, ix_i2l, ix_l2i, ix_lbin, ix_lsh, ix_lcmp, ix_dup, ix_dup2, ix_pop, ix_if, ix_cmp, ix_goto, ix_switch, ix_sw, ix_iret, ix_zret, ix_vret, ix_aret, ix_geti, ix_getr, ix_puti, ix_putz, ix_puts, ix_gets, ix_iald, ix_iast, ix_alen, ix_aald, ix_gval, ix_gcod, ix_bald, ix_blen, ix_sald, ix_nret, ix_math2, ix_math1, ix_acopy, Nat.add_assoc, Int32.reduceLT, Int32.reduceLE, Int32.reduceToNatClampNeg, Int32.reduceSub, Int32.reduceAdd, Nat.reduceAdd, Nat.reduceLeDiff, true_or, or_true, or_false, false_or, not_false_eq_true, not_true_eq_false, false_implies, true_implies, implies_true, and_self, mB_0, mB_01, Classical.not_not, Nat.zero_le, List.getElem?_cons_zero, List.getElem?_cons_succ, List.set_cons_zero, List.set_cons_succ, ix_nl, ix_cs, true_and, and_true, Option.toList_some, Option.toList_none, List.cons_append, List.nil_append]
    exact hQ
  | succ k ih =>
    intro hk hQ
    rw [e_X10_commonDivisor_2]
    by_cases k0 : k = 0
    · subst k0
      simp (decide := true) only [e_X10_commonDivisor_0, e_X10_commonDivisor_1, e_X10_commonDivisor_3, e_X10_commonDivisor_4, e_X10_commonDivisor_7, e_X10_commonDivisor_8, e_X10_commonDivisor_9, e_X10_commonDivisor_10, e_X10_commonDivisor_13, e_X10_commonDivisor_14, e_X10_commonDivisor_15, e_X10_commonDivisor_16, e_X10_commonDivisor_19, e_X10_commonDivisor_20, e_X10_commonDivisor_21, e_X10_commonDivisor_24, e_X10_commonDivisor_27, e_X10_commonDivisor_28, vi, vl, vr, ix_push, ix_iload, ix_lload, ix_aload, ix_istore, ix_astore, ix_iinc, ix_bin, ix_div, ix_un, ix_i2l, ix_l2i, ix_lbin, ix_lsh, ix_lcmp, ix_dup, ix_dup2, ix_pop, ix_if, ix_cmp, ix_goto, ix_switch, ix_sw, ix_iret, ix_zret, ix_vret, ix_aret, ix_geti, ix_getr, ix_puti, ix_putz, ix_puts, ix_gets, ix_iald, ix_iast, ix_alen, ix_aald, ix_gval, ix_gcod, ix_bald, ix_blen, ix_sald, ix_nret, ix_math2, ix_math1, ix_acopy, Nat.add_assoc, Int32.reduceLT, Int32.reduceLE, Int32.reduceToNatClampNeg, Int32.reduceSub, Int32.reduceAdd, Nat.reduceAdd, Nat.reduceLeDiff, true_or, or_true, or_false, false_or, not_false_eq_true, not_true_eq_false, false_implies, true_implies, implies_true, and_self, mB_0, mB_01, Classical.not_not, Nat.zero_le, List.getElem?_cons_zero, List.getElem?_cons_succ, List.set_cons_zero, List.set_cons_succ, ix_nl, ix_cs, true_and, and_true, Option.toList_some, Option.toList_none, List.cons_append, List.nil_append]
      exact hQ
    · have hle : ¬ nI (k + 1) ≤ 1 := nI_ge (a := 1) (by omega) (by omega)
      have hne : ¬ nI (k + 1) = 0 := nI_ne0 (by omega) (by omega)
      have r1 := pk_rem (a := A) (d := k + 1) (by omega) (by omega) (by omega)
      have r2 := pk_rem (a := B) (d := k + 1) (by omega) (by omega) (by omega)
      have hm1 := pk_m1 k
      have z1 : nI (A % (k + 1)) = 0 ↔ A % (k + 1) = 0 := nI_eq (b := 0) (Nat.lt_of_le_of_lt (Nat.mod_le _ _) (by omega)) (by decide)
      have z2 : nI (B % (k + 1)) = 0 ↔ B % (k + 1) = 0 := nI_eq (b := 0) (Nat.lt_of_le_of_lt (Nat.mod_le _ _) (by omega)) (by decide)
      simp (decide := true) only [e_X10_commonDivisor_0, e_X10_commonDivisor_1, e_X10_commonDivisor_3, e_X10_commonDivisor_4, e_X10_commonDivisor_7, e_X10_commonDivisor_8, e_X10_commonDivisor_9, e_X10_commonDivisor_10, e_X10_commonDivisor_13, e_X10_commonDivisor_14, e_X10_commonDivisor_15, e_X10_commonDivisor_16, e_X10_commonDivisor_19, e_X10_commonDivisor_20, e_X10_commonDivisor_21, e_X10_commonDivisor_24, e_X10_commonDivisor_27, e_X10_commonDivisor_28, vi, vl, vr, ix_push, ix_iload, ix_lload, ix_aload, ix_istore, ix_astore, ix_iinc, ix_bin, ix_div, ix_un, ix_i2l, ix_l2i, ix_lbin, ix_lsh, ix_lcmp, ix_dup, ix_dup2, ix_pop, ix_if, ix_cmp, ix_goto, ix_switch, ix_sw, ix_iret, ix_zret, ix_vret, ix_aret, ix_geti, ix_getr, ix_puti, ix_putz, ix_puts, ix_gets, ix_iald, ix_iast, ix_alen, ix_aald, ix_gval, ix_gcod, ix_bald, ix_blen, ix_sald, ix_nret, ix_math2, ix_math1, ix_acopy, Nat.add_assoc, Int32.reduceLT, Int32.reduceLE, Int32.reduceToNatClampNeg, Int32.reduceSub, Int32.reduceAdd, Nat.reduceAdd, Nat.reduceLeDiff, true_or, or_true, or_false, false_or, not_false_eq_true, not_true_eq_false, false_implies, true_implies, implies_true, and_self, mB_0, mB_01, Classical.not_not, Nat.zero_le, List.getElem?_cons_zero, List.getElem?_cons_succ, List.set_cons_zero, List.set_cons_succ, ix_nl, ix_cs, true_and, and_true, Option.toList_some, Option.toList_none, List.cons_append, List.nil_append, hle, hne, r1, r2, hm1, z1, z2]
      refine ⟨fun c => ⟨fun c2 => ?_, fun c2 => ih (by omega) ?_⟩, fun c => ih (by omega) ?_⟩
      · simp only [mCd, if_neg k0, if_pos (And.intro c c2)] at hQ
        exact hQ
      · rw [mCd, if_neg k0, if_neg (fun z => c2 z.2)] at hQ
        exact hQ
      · rw [mCd, if_neg k0, if_neg (fun z => c z.1)] at hQ
        exact hQ
theorem r_X10_commonDivisor (a : Int32) (b : Int32) (μ : ix_M) (Q : ix_R → Prop) (hT : T_X10_commonDivisor (a, b) μ Q) : ix_Ev o_X10_commonDivisor Q (0, [some (vi a), some (vi b), none], [], μ) := by
  obtain ⟨A, B, rfl, hA, rfl, hB, hQ⟩ := hT
  simp (decide := true) only [e_X10_commonDivisor_0, e_X10_commonDivisor_1, e_X10_commonDivisor_3, e_X10_commonDivisor_4, e_X10_commonDivisor_7, e_X10_commonDivisor_8, e_X10_commonDivisor_9, e_X10_commonDivisor_10, e_X10_commonDivisor_13, e_X10_commonDivisor_14, e_X10_commonDivisor_15, e_X10_commonDivisor_16, e_X10_commonDivisor_19, e_X10_commonDivisor_20, e_X10_commonDivisor_21, e_X10_commonDivisor_24, e_X10_commonDivisor_27, e_X10_commonDivisor_28, vi, vl, vr, ix_push, ix_iload, ix_lload, ix_aload, ix_istore, ix_astore, ix_iinc, ix_bin, ix_div, ix_un, ix_i2l, ix_l2i, ix_lbin, ix_lsh, ix_lcmp, ix_dup, ix_dup2, ix_pop, ix_if, ix_cmp, ix_goto, ix_switch, ix_sw, ix_iret, ix_zret, ix_vret, ix_aret, ix_geti, ix_getr, ix_puti, ix_putz, ix_puts, ix_gets, ix_iald, ix_iast, ix_alen, ix_aald, ix_gval, ix_gcod, ix_bald, ix_blen, ix_sald, ix_nret, ix_math2, ix_math1, ix_acopy, Nat.add_assoc, Int32.reduceLT, Int32.reduceLE, Int32.reduceToNatClampNeg, Int32.reduceSub, Int32.reduceAdd, Nat.reduceAdd, Nat.reduceLeDiff, true_or, or_true, or_false, false_or, not_false_eq_true, not_true_eq_false, false_implies, true_implies, implies_true, and_self, mB_0, mB_01, Classical.not_not, Nat.zero_le, List.getElem?_cons_zero, List.getElem?_cons_succ, List.set_cons_zero, List.set_cons_succ, ix_nl, ix_cs, true_and, and_true, Option.toList_some, Option.toList_none, List.cons_append, List.nil_append]
  exact l_X10_commonDivisor hA hB B hB hQ
theorem k_X10_commonDivisor (l : Launch) : ix_Ct l yX10_commonDivisor cX10_commonDivisor 3 (some .int) 1 sh_X10_commonDivisor T_X10_commonDivisor := ix_ct (a_X10_commonDivisor l) rfl (by decide) (fun _ => Nat.le_of_ble_eq_true rfl) (fun x μ Q hok hT => r_X10_commonDivisor x.1 x.2 μ Q  hT)
theorem ok_sheet : ∀ t, t < ix_N → ix_tag t = 4 → (t = 99 ∨ t = 102 ∨ t = 105 ∨ t = 108) ∧ ix_len (t + 2) = 40 := by decide +kernel
def T_X5_begin : Nat × Int32 × Int32 → ix_M → (ix_R → Prop) → Prop := fun (t, b, n) μ Q => ∃ N : Nat, n = nI N ∧ N ≤ 40 ∧ ∀ μ', Fx [t, t + 1, t + 2] μ μ' → μ' t 1 = b → μ' (t + 1) 1 = nI N → (∀ j, j < N → μ' (t + 2) j = 0) → Q (none, μ')
def sh_X5_begin (x : Nat × Int32 × Int32) : List ix_V := [vr 4 x.1, vi x.2.1, vi x.2.2]
theorem mo_X5_begin (x : Nat × Int32 × Int32) (μ : ix_M) (Q Q' : ix_R → Prop) (h : ∀ r, Q r → Q' r) (hT : T_X5_begin x μ Q) : T_X5_begin x μ Q' := by
  obtain ⟨a0, a1, a2⟩ := x
  (obtain ⟨N, h1, h2, h3⟩ := hT; exact ⟨N, h1, h2, fun μ' a b c d => h _ (h3 μ' a b c d)⟩)
def oc_X5_begin (n : Nat) : ix_Op := fun k _ ls st μ => match st with
  | .inl a2 :: .inl a1 :: .inr (.inr (t0, a0)) :: r => t0 = 4 ∧ ix_cs r ≤ 8 ∧ T_X5_begin (a0, a1, a2) μ (fun q => k (n, ls, q.1.toList ++ r, q.2))
  | _ => False
theorem oc_X5_begin_s {l : Launch} {cc : ByteArray} {nL : Nat} {own : String} {d : Nat} {rt : Option FieldType} {pc n : Nat} (h : ix_S l cc nL own d rt pc (ix_call 3 sh_X5_begin T_X5_begin n)) : ix_S l cc nL own d rt pc (oc_X5_begin n) := by
  refine h.by (fun k Q ls st μ h => ?_) (fun k k' Q ls st μ hk h => ?_)
  · unfold oc_X5_begin at h
    split at h
    · rename_i a2 a1 t0 a0 r
      obtain ⟨rfl, h1, h2⟩ := h
      exact ⟨h1, (a0, a1, a2), rfl, _, h2, fun r h => h⟩
    · exact h.elim
  · unfold oc_X5_begin at h ⊢
    split at h
    · obtain ⟨rfl, h1, h2⟩ := h
      exact ⟨rfl, h1, mo_X5_begin _ _ _ _ (fun q hq => hk _ hq) h2⟩
    · exact h.elim
def o_X5_begin : List (Nat × ix_Op) := [
  (0, ix_aload 0 1),
  (1, ix_iload 1 2),
  (2, ix_puti 4 1 5),
  (5, ix_aload 0 6),
  (6, ix_getr 4 3 (fun k => k + 1) 9),
  (9, oc_X4_clear 12),
  (12, ix_push (vi 0) 13),
  (13, ix_istore 3 14),
  (14, ix_iload 3 15),
  (15, ix_iload 2 16),
  (16, ix_cmp (fun x y => y ≤ x) 33 19),
  (19, ix_aload 0 20),
  (20, ix_getr 4 3 (fun k => k + 1) 23),
  (23, ix_push (vi 0) 24),
  (24, oc_X4_add 27),
  (27, ix_iinc 3 1 30),
  (30, ix_goto 14),
  (33, ix_vret)]
set_option maxRecDepth 20000 in
theorem a_X5_begin (l : Launch) : ix_AllS l cX5_begin 4 RX5 2 none o_X5_begin :=
  .cons (ix_s_aload_n dX5_begin_0 rfl) <|
  .cons (ix_s_iload_n dX5_begin_1 rfl) <|
  .cons (ix_s_puti (j := 1) tu_X5 tyX5_ok nmX5 rfl (by decide) (by decide) tw_244 rfl rfl (by decide +kernel) ts_4_1_p dX5_begin_2) <|
  .cons (ix_s_aload_n dX5_begin_5 rfl) <|
  .cons (ix_s_getr (j := 0) tu_X5 rfl (by decide) (by decide) tw_242 rfl ts_4_0_r dX5_begin_6) <|
  .cons (oc_X4_clear_s (ix_s_callv (t := 3) (k_X4_clear l) (by decide) (by decide) tw_458 tw_6 tw_799 tw_456 tw_457 ⟨by decide, by decide, by decide +kernel⟩ (by decide) rfl rfl (fun _ => ⟨_, _, rfl, rfl⟩) dX5_begin_9)) <|
  .cons (ix_s_iconst dX5_begin_12 (by decide +kernel)) <|
  .cons (ix_s_istore_n dX5_begin_13 rfl (by decide)) <|
  .cons (ix_s_iload_n dX5_begin_14 rfl) <|
  .cons (ix_s_iload_n dX5_begin_15 rfl) <|
  .cons (ix_s_cmp_ge dX5_begin_16 (by decide)) <|
  .cons (ix_s_aload_n dX5_begin_19 rfl) <|
  .cons (ix_s_getr (j := 0) tu_X5 rfl (by decide) (by decide) tw_242 rfl ts_4_0_r dX5_begin_20) <|
  .cons (ix_s_iconst dX5_begin_23 (by decide +kernel)) <|
  .cons (oc_X4_add_s (ix_s_callv (t := 3) (k_X4_add l) (by decide) (by decide) tw_436 tw_6 tw_800 tw_434 tw_435 ⟨by decide, by decide, by decide +kernel⟩ (by decide) rfl rfl (fun _ => ⟨_, _, rfl, rfl⟩) dX5_begin_24)) <|
  .cons (ix_s_iinc dX5_begin_27 (by decide +kernel) (by decide)) <|
  .cons (ix_s_goto dX5_begin_30 (by decide)) <|
  .cons (ix_s_vret dX5_begin_33 rfl) <| .nil
theorem e_X5_begin_0 (Q : ix_R → Prop) (ls : ix_L) (st : List ix_V) (μ : ix_M) : ix_Ev o_X5_begin Q (0, ls, st, μ) = ix_aload 0 1 (ix_Ev o_X5_begin Q) Q ls st μ := ix_Ev.eq (a_X5_begin launch0) rfl ls st μ
theorem e_X5_begin_1 (Q : ix_R → Prop) (ls : ix_L) (st : List ix_V) (μ : ix_M) : ix_Ev o_X5_begin Q (1, ls, st, μ) = ix_iload 1 2 (ix_Ev o_X5_begin Q) Q ls st μ := ix_Ev.eq (a_X5_begin launch0) rfl ls st μ
theorem e_X5_begin_2 (Q : ix_R → Prop) (ls : ix_L) (st : List ix_V) (μ : ix_M) : ix_Ev o_X5_begin Q (2, ls, st, μ) = ix_puti 4 1 5 (ix_Ev o_X5_begin Q) Q ls st μ := ix_Ev.eq (a_X5_begin launch0) rfl ls st μ
theorem e_X5_begin_5 (Q : ix_R → Prop) (ls : ix_L) (st : List ix_V) (μ : ix_M) : ix_Ev o_X5_begin Q (5, ls, st, μ) = ix_aload 0 6 (ix_Ev o_X5_begin Q) Q ls st μ := ix_Ev.eq (a_X5_begin launch0) rfl ls st μ
theorem e_X5_begin_6 (Q : ix_R → Prop) (ls : ix_L) (st : List ix_V) (μ : ix_M) : ix_Ev o_X5_begin Q (6, ls, st, μ) = ix_getr 4 3 (fun k => k + 1) 9 (ix_Ev o_X5_begin Q) Q ls st μ := ix_Ev.eq (a_X5_begin launch0) rfl ls st μ
theorem e_X5_begin_9 (Q : ix_R → Prop) (ls : ix_L) (st : List ix_V) (μ : ix_M) : ix_Ev o_X5_begin Q (9, ls, st, μ) = oc_X4_clear 12 (ix_Ev o_X5_begin Q) Q ls st μ := ix_Ev.eq (a_X5_begin launch0) rfl ls st μ
theorem e_X5_begin_12 (Q : ix_R → Prop) (ls : ix_L) (st : List ix_V) (μ : ix_M) : ix_Ev o_X5_begin Q (12, ls, st, μ) = ix_push (vi 0) 13 (ix_Ev o_X5_begin Q) Q ls st μ := ix_Ev.eq (a_X5_begin launch0) rfl ls st μ
theorem e_X5_begin_13 (Q : ix_R → Prop) (ls : ix_L) (st : List ix_V) (μ : ix_M) : ix_Ev o_X5_begin Q (13, ls, st, μ) = ix_istore 3 14 (ix_Ev o_X5_begin Q) Q ls st μ := ix_Ev.eq (a_X5_begin launch0) rfl ls st μ
theorem e_X5_begin_14 (Q : ix_R → Prop) (ls : ix_L) (st : List ix_V) (μ : ix_M) : ix_Ev o_X5_begin Q (14, ls, st, μ) = ix_iload 3 15 (ix_Ev o_X5_begin Q) Q ls st μ := ix_Ev.eq (a_X5_begin launch0) rfl ls st μ
theorem e_X5_begin_15 (Q : ix_R → Prop) (ls : ix_L) (st : List ix_V) (μ : ix_M) : ix_Ev o_X5_begin Q (15, ls, st, μ) = ix_iload 2 16 (ix_Ev o_X5_begin Q) Q ls st μ := ix_Ev.eq (a_X5_begin launch0) rfl ls st μ
theorem e_X5_begin_16 (Q : ix_R → Prop) (ls : ix_L) (st : List ix_V) (μ : ix_M) : ix_Ev o_X5_begin Q (16, ls, st, μ) = ix_cmp (fun x y => y ≤ x) 33 19 (ix_Ev o_X5_begin Q) Q ls st μ := ix_Ev.eq (a_X5_begin launch0) rfl ls st μ
theorem e_X5_begin_19 (Q : ix_R → Prop) (ls : ix_L) (st : List ix_V) (μ : ix_M) : ix_Ev o_X5_begin Q (19, ls, st, μ) = ix_aload 0 20 (ix_Ev o_X5_begin Q) Q ls st μ := ix_Ev.eq (a_X5_begin launch0) rfl ls st μ
theorem e_X5_begin_20 (Q : ix_R → Prop) (ls : ix_L) (st : List ix_V) (μ : ix_M) : ix_Ev o_X5_begin Q (20, ls, st, μ) = ix_getr 4 3 (fun k => k + 1) 23 (ix_Ev o_X5_begin Q) Q ls st μ := ix_Ev.eq (a_X5_begin launch0) rfl ls st μ
theorem e_X5_begin_23 (Q : ix_R → Prop) (ls : ix_L) (st : List ix_V) (μ : ix_M) : ix_Ev o_X5_begin Q (23, ls, st, μ) = ix_push (vi 0) 24 (ix_Ev o_X5_begin Q) Q ls st μ := ix_Ev.eq (a_X5_begin launch0) rfl ls st μ
theorem e_X5_begin_24 (Q : ix_R → Prop) (ls : ix_L) (st : List ix_V) (μ : ix_M) : ix_Ev o_X5_begin Q (24, ls, st, μ) = oc_X4_add 27 (ix_Ev o_X5_begin Q) Q ls st μ := ix_Ev.eq (a_X5_begin launch0) rfl ls st μ
theorem e_X5_begin_27 (Q : ix_R → Prop) (ls : ix_L) (st : List ix_V) (μ : ix_M) : ix_Ev o_X5_begin Q (27, ls, st, μ) = ix_iinc 3 1 30 (ix_Ev o_X5_begin Q) Q ls st μ := ix_Ev.eq (a_X5_begin launch0) rfl ls st μ
theorem e_X5_begin_30 (Q : ix_R → Prop) (ls : ix_L) (st : List ix_V) (μ : ix_M) : ix_Ev o_X5_begin Q (30, ls, st, μ) = ix_goto 14 (ix_Ev o_X5_begin Q) Q ls st μ := ix_Ev.eq (a_X5_begin launch0) rfl ls st μ
theorem e_X5_begin_33 (Q : ix_R → Prop) (ls : ix_L) (st : List ix_V) (μ : ix_M) : ix_Ev o_X5_begin Q (33, ls, st, μ) = ix_vret (ix_Ev o_X5_begin Q) Q ls st μ := ix_Ev.eq (a_X5_begin launch0) rfl ls st μ
theorem l_X5_begin {t N : Nat} {b : Int32} {μ : ix_M} {Q : ix_R → Prop} (hl : ix_len (t + 2) = 40) (hN : N ≤ 40) (hQ : ∀ μ', Fx [t, t + 1, t + 2] μ μ' → μ' t 1 = b → μ' (t + 1) 1 = nI N → (∀ j, j < N → μ' (t + 2) j = 0) → Q (none, μ')) : ∀ (k i : Nat) (μ1 : ix_M), i + k = N → Fx [t, t + 1, t + 2] μ μ1 → μ1 t 1 = b → μ1 (t + 1) 1 = nI i → (∀ j, j < i → μ1 (t + 2) j = 0) → ix_Ev o_X5_begin Q (14, [some (vr 4 t), some (vi b), some (vi (nI N)), some (vi (nI i))], [], μ1) := by
  intro k
  induction k with
  | zero =>
    intro i μ1 hi hF h1 h2 h3
    have hi : i = N := hi
    subst hi
    have hle : nI i ≤ nI i := Int32.le_refl _
    rw [e_X5_begin_14]
    simp (decide := true) only [e_X5_begin_0, e_X5_begin_1, e_X5_begin_2, e_X5_begin_5, e_X5_begin_6, e_X5_begin_9, e_X5_begin_12, e_X5_begin_13, e_X5_begin_15, e_X5_begin_16, e_X5_begin_19, e_X5_begin_20, e_X5_begin_23, e_X5_begin_24, e_X5_begin_27, e_X5_begin_30, e_X5_begin_33, vi, vl, vr, oc_X4_add, T_X4_add, oc_X4_clear, T_X4_clear, ix_push, ix_iload, ix_lload, ix_aload, ix_istore, ix_astore, ix_iinc, ix_bin, ix_div, ix_un, ix_i2l, ix_l2i, ix_lbin, ix_lsh, ix_lcmp, ix_dup, ix_dup2, ix_pop, ix_if, ix_cmp, ix_goto, ix_switch, ix_sw, ix_iret, ix_zret, ix_vret, ix_aret, ix_geti, ix_getr, ix_puti, ix_putz, ix_puts, ix_gets, ix_iald, ix_iast, ix_alen, ix_aald, ix_gval, ix_gcod, ix_bald, ix_blen, ix_sald, ix_nret, ix_math2, ix_math1, ix_acopy, Nat.add_assoc, Int32.reduceLT, Int32.reduceLE, Int32.reduceToNatClampNeg, Int32.reduceSub, Int32.reduceAdd, Nat.reduceAdd, Nat.reduceLeDiff, true_or, or_true, or_false, false_or, not_false_eq_true, not_true_eq_false, false_implies, true_implies, implies_true, and_self, mB_0, mB_01, Classical.not_not, Nat.zero_le, List.getElem?_cons_zero, List.getElem?_cons_succ, List.set_cons_zero, List.set_cons_succ, ix_nl, ix_cs, true_and, and_true, Option.toList_some, Option.toList_none, List.cons_append, List.nil_append, hle]
    exact hQ μ1 hF h1 h2 h3
  | succ k ih =>
    intro i μ1 hi hF h1 h2 h3
    have hng : ¬ nI N ≤ nI i := nI_ge (by omega) (by omega)
    have hi1 : nI i + 1 = nI (i + 1) := nI_1 i
    rw [e_X5_begin_14]
    simp (decide := true) only [e_X5_begin_0, e_X5_begin_1, e_X5_begin_2, e_X5_begin_5, e_X5_begin_6, e_X5_begin_9, e_X5_begin_12, e_X5_begin_13, e_X5_begin_15, e_X5_begin_16, e_X5_begin_19, e_X5_begin_20, e_X5_begin_23, e_X5_begin_24, e_X5_begin_27, e_X5_begin_30, e_X5_begin_33, vi, vl, vr, oc_X4_add, T_X4_add, oc_X4_clear, T_X4_clear, ix_push, ix_iload, ix_lload, ix_aload, ix_istore, ix_astore, ix_iinc, ix_bin, ix_div, ix_un, ix_i2l, ix_l2i, ix_lbin, ix_lsh, ix_lcmp, ix_dup, ix_dup2, ix_pop, ix_if, ix_cmp, ix_goto, ix_switch, ix_sw, ix_iret, ix_zret, ix_vret, ix_aret, ix_geti, ix_getr, ix_puti, ix_putz, ix_puts, ix_gets, ix_iald, ix_iast, ix_alen, ix_aald, ix_gval, ix_gcod, ix_bald, ix_blen, ix_sald, ix_nret, ix_math2, ix_math1, ix_acopy, Nat.add_assoc, Int32.reduceLT, Int32.reduceLE, Int32.reduceToNatClampNeg, Int32.reduceSub, Int32.reduceAdd, Nat.reduceAdd, Nat.reduceLeDiff, true_or, or_true, or_false, false_or, not_false_eq_true, not_true_eq_false, false_implies, true_implies, implies_true, and_self, mB_0, mB_01, Classical.not_not, Nat.zero_le, List.getElem?_cons_zero, List.getElem?_cons_succ, List.set_cons_zero, List.set_cons_succ, ix_nl, ix_cs, true_and, and_true, Option.toList_some, Option.toList_none, List.cons_append, List.nil_append, hng, hi1]
    have hro : RowOk μ1 (t + 1) := by
      unfold RowOk
      rw [h2, nI_toInt (by omega), Nat.add_assoc, hl]
      omega
    refine ⟨hro, ?_⟩
    have hadd : rAdd μ1 (t + 1) 0 = ix_up (ix_up μ1 (t + 2) i 0) (t + 1) 1 (nI (i + 1)) := by
      unfold rAdd
      rw [h2, nI_toInt (by omega), Nat.add_assoc, hl, if_pos (by omega), nI_clamp (by omega), hi1]
    rw [hadd]
    refine ih (i + 1) _ (by omega) ((hF.up (by simp)).up (by simp)) ?_ ?_ (fun j hj => ?_)
    · rw [ix_up_ne (by omega), ix_up_ne (by omega)]
      exact h1
    · rw [ix_up_k]
    · rw [ix_up_ne (by omega), ix_up_ap]
      split
      · rfl
      · rename_i e
        exact h3 j (by have : ¬ j = i := fun z => e ⟨rfl, z⟩; omega)
theorem r_X5_begin (t : Nat) (b : Int32) (n : Int32) (μ : ix_M) (Q : ix_R → Prop) (ok_t : t < ix_N ∧ ix_tag t = 4) (hT : T_X5_begin (t, b, n) μ Q) : ix_Ev o_X5_begin Q (0, [some (vr 4 t), some (vi b), some (vi n), none], [], μ) := by
  obtain ⟨N, rfl, hN, hQ⟩ := hT
  have hl := (ok_sheet t ok_t.1 ok_t.2).2
  simp (decide := true) only [e_X5_begin_0, e_X5_begin_1, e_X5_begin_2, e_X5_begin_5, e_X5_begin_6, e_X5_begin_9, e_X5_begin_12, e_X5_begin_13, e_X5_begin_15, e_X5_begin_16, e_X5_begin_19, e_X5_begin_20, e_X5_begin_23, e_X5_begin_24, e_X5_begin_27, e_X5_begin_30, e_X5_begin_33, vi, vl, vr, oc_X4_add, T_X4_add, oc_X4_clear, T_X4_clear, ix_push, ix_iload, ix_lload, ix_aload, ix_istore, ix_astore, ix_iinc, ix_bin, ix_div, ix_un, ix_i2l, ix_l2i, ix_lbin, ix_lsh, ix_lcmp, ix_dup, ix_dup2, ix_pop, ix_if, ix_cmp, ix_goto, ix_switch, ix_sw, ix_iret, ix_zret, ix_vret, ix_aret, ix_geti, ix_getr, ix_puti, ix_putz, ix_puts, ix_gets, ix_iald, ix_iast, ix_alen, ix_aald, ix_gval, ix_gcod, ix_bald, ix_blen, ix_sald, ix_nret, ix_math2, ix_math1, ix_acopy, Nat.add_assoc, Int32.reduceLT, Int32.reduceLE, Int32.reduceToNatClampNeg, Int32.reduceSub, Int32.reduceAdd, Nat.reduceAdd, Nat.reduceLeDiff, true_or, or_true, or_false, false_or, not_false_eq_true, not_true_eq_false, false_implies, true_implies, implies_true, and_self, mB_0, mB_01, Classical.not_not, Nat.zero_le, List.getElem?_cons_zero, List.getElem?_cons_succ, List.set_cons_zero, List.set_cons_succ, ix_nl, ix_cs, true_and, and_true, Option.toList_some, Option.toList_none, List.cons_append, List.nil_append]
  exact l_X5_begin hl hN hQ N 0 _ (by omega) ((Fx.rf.up (by simp)).up (by simp)) (by simp [ix_up_ap]) (by simp [ix_up_ap]; rfl) (fun j hj => absurd hj (by omega))
theorem k_X5_begin (l : Launch) : ix_Ct l yX5_begin cX5_begin 4 none 2 sh_X5_begin T_X5_begin := ix_ct (a_X5_begin l) rfl (by decide) (fun _ => Nat.le_of_ble_eq_true rfl) (fun x μ Q hok hT => r_X5_begin x.1 x.2.1 x.2.2 μ Q (ix_ok_at (hok (vr 4 x.1) (by simp [sh_X5_begin])) (by decide) (by decide)) hT)
def mNar (b v : Int32) : Int32 := if b = 8 then v.toInt8.toInt32 else if b = 16 then v.toInt16.toInt32 else v
def T_X5_write : Nat × Int32 × Int32 → ix_M → (ix_R → Prop) → Prop := fun (t, i, v) μ Q => RowOk μ (t + 1) ∧ Q (none, if ¬ i < 0 ∧ ¬ μ (t + 1) 1 ≤ i then ix_up μ (t + 2) i.toNatClampNeg (mNar (μ t 1) v) else μ)
def sh_X5_write (x : Nat × Int32 × Int32) : List ix_V := [vr 4 x.1, vi x.2.1, vi x.2.2]
theorem mo_X5_write (x : Nat × Int32 × Int32) (μ : ix_M) (Q Q' : ix_R → Prop) (h : ∀ r, Q r → Q' r) (hT : T_X5_write x μ Q) : T_X5_write x μ Q' := by
  obtain ⟨a0, a1, a2⟩ := x
  first | exact h _ hT | exact ⟨hT.1, h _ hT.2⟩ | exact fun r hr => h _ (hT r hr) | exact ⟨hT.1, fun r hr => h _ (hT.2 r hr)⟩ | exact ⟨hT.1, hT.2.1, fun r hr => h _ (hT.2.2 r hr)⟩
def oc_X5_write (n : Nat) : ix_Op := fun k _ ls st μ => match st with
  | .inl a2 :: .inl a1 :: .inr (.inr (t0, a0)) :: r => t0 = 4 ∧ ix_cs r ≤ 8 ∧ T_X5_write (a0, a1, a2) μ (fun q => k (n, ls, q.1.toList ++ r, q.2))
  | _ => False
theorem oc_X5_write_s {l : Launch} {cc : ByteArray} {nL : Nat} {own : String} {d : Nat} {rt : Option FieldType} {pc n : Nat} (h : ix_S l cc nL own d rt pc (ix_call 3 sh_X5_write T_X5_write n)) : ix_S l cc nL own d rt pc (oc_X5_write n) := by
  refine h.by (fun k Q ls st μ h => ?_) (fun k k' Q ls st μ hk h => ?_)
  · unfold oc_X5_write at h
    split at h
    · rename_i a2 a1 t0 a0 r
      obtain ⟨rfl, h1, h2⟩ := h
      exact ⟨h1, (a0, a1, a2), rfl, _, h2, fun r h => h⟩
    · exact h.elim
  · unfold oc_X5_write at h ⊢
    split at h
    · obtain ⟨rfl, h1, h2⟩ := h
      exact ⟨rfl, h1, mo_X5_write _ _ _ _ (fun q hq => hk _ hq) h2⟩
    · exact h.elim
def o_X5_write : List (Nat × ix_Op) := [
  (0, ix_aload 0 1),
  (1, ix_getr 4 3 (fun k => k + 1) 4),
  (4, ix_iload 1 5),
  (5, oc_X4_has 8),
  (8, ix_if (fun x => x = 0) 49 11),
  (11, ix_aload 0 12),
  (12, ix_getr 4 3 (fun k => k + 1) 15),
  (15, ix_getr 3 20 (fun k => k + 1) 18),
  (18, ix_iload 1 19),
  (19, ix_aload 0 20),
  (20, ix_geti 4 1 23),
  (23, ix_push (vi 8) 25),
  (25, ix_cmp (fun x y => x = y) 28 33),
  (28, ix_iload 2 29),
  (29, ix_un (fun x => x.toInt8.toInt32) 30),
  (30, ix_goto 48),
  (33, ix_aload 0 34),
  (34, ix_geti 4 1 37),
  (37, ix_push (vi 16) 39),
  (39, ix_cmp (fun x y => x = y) 42 47),
  (42, ix_iload 2 43),
  (43, ix_un (fun x => x.toInt16.toInt32) 44),
  (44, ix_goto 48),
  (47, ix_iload 2 48),
  (48, ix_iast 49),
  (49, ix_vret)]
set_option maxRecDepth 20000 in
theorem a_X5_write (l : Launch) : ix_AllS l cX5_write 3 RX5 2 none o_X5_write :=
  .cons (ix_s_aload_n dX5_write_0 rfl) <|
  .cons (ix_s_getr (j := 0) tu_X5 rfl (by decide) (by decide) tw_242 rfl ts_4_0_r dX5_write_1) <|
  .cons (ix_s_iload_n dX5_write_4 rfl) <|
  .cons (oc_X4_has_s (ix_s_callv (t := 3) (k_X4_has l) (by decide) (by decide) tw_474 tw_6 tw_809 tw_472 tw_473 ⟨by decide, by decide, by decide +kernel⟩ (by decide) rfl rfl (fun _ => ⟨_, _, rfl, rfl⟩) dX5_write_5)) <|
  .cons (ix_s_if_eq dX5_write_8 (by decide)) <|
  .cons (ix_s_aload_n dX5_write_11 rfl) <|
  .cons (ix_s_getr (j := 0) tu_X5 rfl (by decide) (by decide) tw_242 rfl ts_4_0_r dX5_write_12) <|
  .cons (ix_s_getr (j := 0) tu_X4 rfl (by decide) (by decide) tw_107 rfl ts_3_0_r dX5_write_15) <|
  .cons (ix_s_iload_n dX5_write_18 rfl) <|
  .cons (ix_s_aload_n dX5_write_19 rfl) <|
  .cons (ix_s_geti (j := 1) tu_X5 rfl (by decide) (by decide) tw_244 rfl ts_4_1_i dX5_write_20) <|
  .cons (ix_s_bipush dX5_write_23 (by decide +kernel)) <|
  .cons (ix_s_cmp_ne dX5_write_25 (by decide)) <|
  .cons (ix_s_iload_n dX5_write_28 rfl) <|
  .cons (ix_s_i2b dX5_write_29) <|
  .cons (ix_s_goto dX5_write_30 (by decide)) <|
  .cons (ix_s_aload_n dX5_write_33 rfl) <|
  .cons (ix_s_geti (j := 1) tu_X5 rfl (by decide) (by decide) tw_244 rfl ts_4_1_i dX5_write_34) <|
  .cons (ix_s_bipush dX5_write_37 (by decide +kernel)) <|
  .cons (ix_s_cmp_ne dX5_write_39 (by decide)) <|
  .cons (ix_s_iload_n dX5_write_42 rfl) <|
  .cons (ix_s_i2s dX5_write_43) <|
  .cons (ix_s_goto dX5_write_44 (by decide)) <|
  .cons (ix_s_iload_n dX5_write_47 rfl) <|
  .cons (ix_s_iast dX5_write_48) <|
  .cons (ix_s_vret dX5_write_49 rfl) <| .nil
theorem e_X5_write_0 (Q : ix_R → Prop) (ls : ix_L) (st : List ix_V) (μ : ix_M) : ix_Ev o_X5_write Q (0, ls, st, μ) = ix_aload 0 1 (ix_Ev o_X5_write Q) Q ls st μ := ix_Ev.eq (a_X5_write launch0) rfl ls st μ
theorem e_X5_write_1 (Q : ix_R → Prop) (ls : ix_L) (st : List ix_V) (μ : ix_M) : ix_Ev o_X5_write Q (1, ls, st, μ) = ix_getr 4 3 (fun k => k + 1) 4 (ix_Ev o_X5_write Q) Q ls st μ := ix_Ev.eq (a_X5_write launch0) rfl ls st μ
theorem e_X5_write_4 (Q : ix_R → Prop) (ls : ix_L) (st : List ix_V) (μ : ix_M) : ix_Ev o_X5_write Q (4, ls, st, μ) = ix_iload 1 5 (ix_Ev o_X5_write Q) Q ls st μ := ix_Ev.eq (a_X5_write launch0) rfl ls st μ
theorem e_X5_write_5 (Q : ix_R → Prop) (ls : ix_L) (st : List ix_V) (μ : ix_M) : ix_Ev o_X5_write Q (5, ls, st, μ) = oc_X4_has 8 (ix_Ev o_X5_write Q) Q ls st μ := ix_Ev.eq (a_X5_write launch0) rfl ls st μ
theorem e_X5_write_8 (Q : ix_R → Prop) (ls : ix_L) (st : List ix_V) (μ : ix_M) : ix_Ev o_X5_write Q (8, ls, st, μ) = ix_if (fun x => x = 0) 49 11 (ix_Ev o_X5_write Q) Q ls st μ := ix_Ev.eq (a_X5_write launch0) rfl ls st μ
theorem e_X5_write_11 (Q : ix_R → Prop) (ls : ix_L) (st : List ix_V) (μ : ix_M) : ix_Ev o_X5_write Q (11, ls, st, μ) = ix_aload 0 12 (ix_Ev o_X5_write Q) Q ls st μ := ix_Ev.eq (a_X5_write launch0) rfl ls st μ
theorem e_X5_write_12 (Q : ix_R → Prop) (ls : ix_L) (st : List ix_V) (μ : ix_M) : ix_Ev o_X5_write Q (12, ls, st, μ) = ix_getr 4 3 (fun k => k + 1) 15 (ix_Ev o_X5_write Q) Q ls st μ := ix_Ev.eq (a_X5_write launch0) rfl ls st μ
theorem e_X5_write_15 (Q : ix_R → Prop) (ls : ix_L) (st : List ix_V) (μ : ix_M) : ix_Ev o_X5_write Q (15, ls, st, μ) = ix_getr 3 20 (fun k => k + 1) 18 (ix_Ev o_X5_write Q) Q ls st μ := ix_Ev.eq (a_X5_write launch0) rfl ls st μ
theorem e_X5_write_18 (Q : ix_R → Prop) (ls : ix_L) (st : List ix_V) (μ : ix_M) : ix_Ev o_X5_write Q (18, ls, st, μ) = ix_iload 1 19 (ix_Ev o_X5_write Q) Q ls st μ := ix_Ev.eq (a_X5_write launch0) rfl ls st μ
theorem e_X5_write_19 (Q : ix_R → Prop) (ls : ix_L) (st : List ix_V) (μ : ix_M) : ix_Ev o_X5_write Q (19, ls, st, μ) = ix_aload 0 20 (ix_Ev o_X5_write Q) Q ls st μ := ix_Ev.eq (a_X5_write launch0) rfl ls st μ
theorem e_X5_write_20 (Q : ix_R → Prop) (ls : ix_L) (st : List ix_V) (μ : ix_M) : ix_Ev o_X5_write Q (20, ls, st, μ) = ix_geti 4 1 23 (ix_Ev o_X5_write Q) Q ls st μ := ix_Ev.eq (a_X5_write launch0) rfl ls st μ
theorem e_X5_write_23 (Q : ix_R → Prop) (ls : ix_L) (st : List ix_V) (μ : ix_M) : ix_Ev o_X5_write Q (23, ls, st, μ) = ix_push (vi 8) 25 (ix_Ev o_X5_write Q) Q ls st μ := ix_Ev.eq (a_X5_write launch0) rfl ls st μ
theorem e_X5_write_25 (Q : ix_R → Prop) (ls : ix_L) (st : List ix_V) (μ : ix_M) : ix_Ev o_X5_write Q (25, ls, st, μ) = ix_cmp (fun x y => x = y) 28 33 (ix_Ev o_X5_write Q) Q ls st μ := ix_Ev.eq (a_X5_write launch0) rfl ls st μ
theorem e_X5_write_28 (Q : ix_R → Prop) (ls : ix_L) (st : List ix_V) (μ : ix_M) : ix_Ev o_X5_write Q (28, ls, st, μ) = ix_iload 2 29 (ix_Ev o_X5_write Q) Q ls st μ := ix_Ev.eq (a_X5_write launch0) rfl ls st μ
theorem e_X5_write_29 (Q : ix_R → Prop) (ls : ix_L) (st : List ix_V) (μ : ix_M) : ix_Ev o_X5_write Q (29, ls, st, μ) = ix_un (fun x => x.toInt8.toInt32) 30 (ix_Ev o_X5_write Q) Q ls st μ := ix_Ev.eq (a_X5_write launch0) rfl ls st μ
theorem e_X5_write_30 (Q : ix_R → Prop) (ls : ix_L) (st : List ix_V) (μ : ix_M) : ix_Ev o_X5_write Q (30, ls, st, μ) = ix_goto 48 (ix_Ev o_X5_write Q) Q ls st μ := ix_Ev.eq (a_X5_write launch0) rfl ls st μ
theorem e_X5_write_33 (Q : ix_R → Prop) (ls : ix_L) (st : List ix_V) (μ : ix_M) : ix_Ev o_X5_write Q (33, ls, st, μ) = ix_aload 0 34 (ix_Ev o_X5_write Q) Q ls st μ := ix_Ev.eq (a_X5_write launch0) rfl ls st μ
theorem e_X5_write_34 (Q : ix_R → Prop) (ls : ix_L) (st : List ix_V) (μ : ix_M) : ix_Ev o_X5_write Q (34, ls, st, μ) = ix_geti 4 1 37 (ix_Ev o_X5_write Q) Q ls st μ := ix_Ev.eq (a_X5_write launch0) rfl ls st μ
theorem e_X5_write_37 (Q : ix_R → Prop) (ls : ix_L) (st : List ix_V) (μ : ix_M) : ix_Ev o_X5_write Q (37, ls, st, μ) = ix_push (vi 16) 39 (ix_Ev o_X5_write Q) Q ls st μ := ix_Ev.eq (a_X5_write launch0) rfl ls st μ
theorem e_X5_write_39 (Q : ix_R → Prop) (ls : ix_L) (st : List ix_V) (μ : ix_M) : ix_Ev o_X5_write Q (39, ls, st, μ) = ix_cmp (fun x y => x = y) 42 47 (ix_Ev o_X5_write Q) Q ls st μ := ix_Ev.eq (a_X5_write launch0) rfl ls st μ
theorem e_X5_write_42 (Q : ix_R → Prop) (ls : ix_L) (st : List ix_V) (μ : ix_M) : ix_Ev o_X5_write Q (42, ls, st, μ) = ix_iload 2 43 (ix_Ev o_X5_write Q) Q ls st μ := ix_Ev.eq (a_X5_write launch0) rfl ls st μ
theorem e_X5_write_43 (Q : ix_R → Prop) (ls : ix_L) (st : List ix_V) (μ : ix_M) : ix_Ev o_X5_write Q (43, ls, st, μ) = ix_un (fun x => x.toInt16.toInt32) 44 (ix_Ev o_X5_write Q) Q ls st μ := ix_Ev.eq (a_X5_write launch0) rfl ls st μ
theorem e_X5_write_44 (Q : ix_R → Prop) (ls : ix_L) (st : List ix_V) (μ : ix_M) : ix_Ev o_X5_write Q (44, ls, st, μ) = ix_goto 48 (ix_Ev o_X5_write Q) Q ls st μ := ix_Ev.eq (a_X5_write launch0) rfl ls st μ
theorem e_X5_write_47 (Q : ix_R → Prop) (ls : ix_L) (st : List ix_V) (μ : ix_M) : ix_Ev o_X5_write Q (47, ls, st, μ) = ix_iload 2 48 (ix_Ev o_X5_write Q) Q ls st μ := ix_Ev.eq (a_X5_write launch0) rfl ls st μ
theorem e_X5_write_48 (Q : ix_R → Prop) (ls : ix_L) (st : List ix_V) (μ : ix_M) : ix_Ev o_X5_write Q (48, ls, st, μ) = ix_iast 49 (ix_Ev o_X5_write Q) Q ls st μ := ix_Ev.eq (a_X5_write launch0) rfl ls st μ
theorem e_X5_write_49 (Q : ix_R → Prop) (ls : ix_L) (st : List ix_V) (μ : ix_M) : ix_Ev o_X5_write Q (49, ls, st, μ) = ix_vret (ix_Ev o_X5_write Q) Q ls st μ := ix_Ev.eq (a_X5_write launch0) rfl ls st μ
theorem r_X5_write (t : Nat) (i : Int32) (v : Int32) (μ : ix_M) (Q : ix_R → Prop) (ok_t : t < ix_N ∧ ix_tag t = 4) (hT : T_X5_write (t, i, v) μ Q) : ix_Ev o_X5_write Q (0, [some (vr 4 t), some (vi i), some (vi v)], [], μ) := by
  obtain ⟨hro, hT⟩ := hT
  simp (decide := true) only [e_X5_write_0, e_X5_write_1, e_X5_write_4, e_X5_write_5, e_X5_write_8, e_X5_write_11, e_X5_write_12, e_X5_write_15, e_X5_write_18, e_X5_write_19, e_X5_write_20, e_X5_write_23, e_X5_write_25, e_X5_write_28, e_X5_write_29, e_X5_write_30, e_X5_write_33, e_X5_write_34, e_X5_write_37, e_X5_write_39, e_X5_write_42, e_X5_write_43, e_X5_write_44, e_X5_write_47, e_X5_write_48, e_X5_write_49, vi, vl, vr, oc_X4_has, T_X4_has, ix_push, ix_iload, ix_lload, ix_aload, ix_istore, ix_astore, ix_iinc, ix_bin, ix_div, ix_un, ix_i2l, ix_l2i, ix_lbin, ix_lsh, ix_lcmp, ix_dup, ix_dup2, ix_pop, ix_if, ix_cmp, ix_goto, ix_switch, ix_sw, ix_iret, ix_zret, ix_vret, ix_aret, ix_geti, ix_getr, ix_puti, ix_putz, ix_puts, ix_gets, ix_iald, ix_iast, ix_alen, ix_aald, ix_gval, ix_gcod, ix_bald, ix_blen, ix_sald, ix_nret, ix_math2, ix_math1, ix_acopy, Nat.add_assoc, Int32.reduceLT, Int32.reduceLE, Int32.reduceToNatClampNeg, Int32.reduceSub, Int32.reduceAdd, Nat.reduceAdd, Nat.reduceLeDiff, true_or, or_true, or_false, false_or, not_false_eq_true, not_true_eq_false, false_implies, true_implies, implies_true, and_self, mB_0, mB_01, Classical.not_not, Nat.zero_le, List.getElem?_cons_zero, List.getElem?_cons_succ, List.set_cons_zero, List.set_cons_succ, ix_nl, ix_cs, true_and, and_true, Option.toList_some, Option.toList_none, List.cons_append, List.nil_append]
  refine ⟨fun c => ?_, fun c => ⟨fun c1 => ⟨hro.in c.1 c.2, ?_⟩, fun c1 => ⟨fun c2 => ⟨hro.in c.1 c.2, ?_⟩, fun c2 => ⟨hro.in c.1 c.2, ?_⟩⟩⟩⟩
  · rw [if_neg c] at hT
    exact hT
  · rw [if_pos c] at hT
    simp only [mNar, if_pos c1] at hT
    exact hT
  · rw [if_pos c] at hT
    simp only [mNar, if_neg c1, if_pos c2] at hT
    exact hT
  · rw [if_pos c] at hT
    simp only [mNar, if_neg c1, if_neg c2] at hT
    exact hT
theorem k_X5_write (l : Launch) : ix_Ct l yX5_write cX5_write 3 none 2 sh_X5_write T_X5_write := ix_ct (a_X5_write l) rfl (by decide) (fun _ => Nat.le_of_ble_eq_true rfl) (fun x μ Q hok hT => r_X5_write x.1 x.2.1 x.2.2 μ Q (ix_ok_at (hok (vr 4 x.1) (by simp [sh_X5_write])) (by decide) (by decide)) hT)
/-- row r is as row o was -/
def rowEq (μ' : ix_M) (r : Nat) (μ : ix_M) (o : Nat) : Prop := μ' r 1 = μ o 1 ∧ ∀ j, j < (μ o 1).toNatClampNeg → μ' (r + 1) j = μ (o + 1) j
theorem rowEq.fx {μ' μ'' μ : ix_M} {r o : Nat} (h : rowEq μ' r μ o) (h1 : μ'' r = μ' r) (h2 : μ'' (r + 1) = μ' (r + 1)) : rowEq μ'' r μ o := ⟨by rw [h1]; exact h.1, fun j hj => by rw [h2]; exact h.2 j hj⟩
theorem rowEq.cp {μ : ix_M} {r o n : Nat} (hn : n = (μ o 1).toNatClampNeg) (h1 : r ≠ o + 1) (h2 : o + 1 ≠ r + 1) : rowEq (ix_cpy (ix_up μ r 1 (μ o 1)) (o + 1) (r + 1) 0 0 n) r μ o := by
  refine ⟨by rw [ix_cpy_ne (by omega), ix_up_k], fun j hj => ?_⟩
  rw [ix_cpy_at, va_cpy00 (by omega), ix_up_ne (by omega)]
def T_X1_copyFrom : Nat × Nat → ix_M → (ix_R → Prop) → Prop := fun (q, o) μ Q => (q ≠ o ∧ RowOk μ (o + 2) ∧ RowOk μ (o + 6)) ∧ ∀ μ', Fx [q + 2, q + 3, q + 6, q + 7] μ μ' → rowEq μ' (q + 2) μ (o + 2) → rowEq μ' (q + 6) μ (o + 6) → Q (none, μ')
def sh_X1_copyFrom (x : Nat × Nat) : List ix_V := [vr 0 x.1, vr 0 x.2]
theorem mo_X1_copyFrom (x : Nat × Nat) (μ : ix_M) (Q Q' : ix_R → Prop) (h : ∀ r, Q r → Q' r) (hT : T_X1_copyFrom x μ Q) : T_X1_copyFrom x μ Q' := by
  obtain ⟨a0, a1⟩ := x
  (exact ⟨hT.1, fun μ' a b c => h _ (hT.2 μ' a b c)⟩)
def oc_X1_copyFrom (n : Nat) : ix_Op := fun k _ ls st μ => match st with
  | .inr (.inr (t1, a1)) :: .inr (.inr (t0, a0)) :: r => t0 = 0 ∧ t1 = 0 ∧ ix_cs r ≤ 8 ∧ T_X1_copyFrom (a0, a1) μ (fun q => k (n, ls, q.1.toList ++ r, q.2))
  | _ => False
theorem oc_X1_copyFrom_s {l : Launch} {cc : ByteArray} {nL : Nat} {own : String} {d : Nat} {rt : Option FieldType} {pc n : Nat} (h : ix_S l cc nL own d rt pc (ix_call 2 sh_X1_copyFrom T_X1_copyFrom n)) : ix_S l cc nL own d rt pc (oc_X1_copyFrom n) := by
  refine h.by (fun k Q ls st μ h => ?_) (fun k k' Q ls st μ hk h => ?_)
  · unfold oc_X1_copyFrom at h
    split at h
    · rename_i t1 a1 t0 a0 r
      obtain ⟨rfl, rfl, h1, h2⟩ := h
      exact ⟨h1, (a0, a1), rfl, _, h2, fun r h => h⟩
    · exact h.elim
  · unfold oc_X1_copyFrom at h ⊢
    split at h
    · obtain ⟨rfl, rfl, h1, h2⟩ := h
      exact ⟨rfl, rfl, h1, mo_X1_copyFrom _ _ _ _ (fun q hq => hk _ hq) h2⟩
    · exact h.elim
def o_X1_copyFrom : List (Nat × ix_Op) := [
  (0, ix_aload 0 1),
  (1, ix_getr 0 6 (fun k => k + 1) 4),
  (4, ix_aload 1 5),
  (5, ix_getr 0 6 (fun k => k + 1) 8),
  (8, oc_X7_copyFrom 11),
  (11, ix_aload 0 12),
  (12, ix_getr 0 6 (fun k => k + 5) 15),
  (15, ix_aload 1 16),
  (16, ix_getr 0 6 (fun k => k + 5) 19),
  (19, oc_X7_copyFrom 22),
  (22, ix_vret)]
set_option maxRecDepth 20000 in
theorem a_X1_copyFrom (l : Launch) : ix_AllS l cX1_copyFrom 2 RX1 3 none o_X1_copyFrom :=
  .cons (ix_s_aload_n dX1_copyFrom_0 rfl) <|
  .cons (ix_s_getr (j := 0) tu_X1 rfl (by decide) (by decide) tw_127 rfl ts_0_0_r dX1_copyFrom_1) <|
  .cons (ix_s_aload_n dX1_copyFrom_4 rfl) <|
  .cons (ix_s_getr (j := 0) tu_X1 rfl (by decide) (by decide) tw_127 rfl ts_0_0_r dX1_copyFrom_5) <|
  .cons (oc_X7_copyFrom_s (ix_s_callv (t := 6) (k_X7_copyFrom l) (by decide) (by decide) tw_580 tw_5 tw_840 tw_578 tw_579 ⟨by decide, by decide, by decide +kernel⟩ (by decide) rfl rfl (fun _ => ⟨_, _, rfl, rfl⟩) dX1_copyFrom_8)) <|
  .cons (ix_s_aload_n dX1_copyFrom_11 rfl) <|
  .cons (ix_s_getr (j := 1) tu_X1 rfl (by decide) (by decide) tw_128 rfl ts_0_1_r dX1_copyFrom_12) <|
  .cons (ix_s_aload_n dX1_copyFrom_15 rfl) <|
  .cons (ix_s_getr (j := 1) tu_X1 rfl (by decide) (by decide) tw_128 rfl ts_0_1_r dX1_copyFrom_16) <|
  .cons (oc_X7_copyFrom_s (ix_s_callv (t := 6) (k_X7_copyFrom l) (by decide) (by decide) tw_580 tw_5 tw_840 tw_578 tw_579 ⟨by decide, by decide, by decide +kernel⟩ (by decide) rfl rfl (fun _ => ⟨_, _, rfl, rfl⟩) dX1_copyFrom_19)) <|
  .cons (ix_s_vret dX1_copyFrom_22 rfl) <| .nil
theorem e_X1_copyFrom_0 (Q : ix_R → Prop) (ls : ix_L) (st : List ix_V) (μ : ix_M) : ix_Ev o_X1_copyFrom Q (0, ls, st, μ) = ix_aload 0 1 (ix_Ev o_X1_copyFrom Q) Q ls st μ := ix_Ev.eq (a_X1_copyFrom launch0) rfl ls st μ
theorem e_X1_copyFrom_1 (Q : ix_R → Prop) (ls : ix_L) (st : List ix_V) (μ : ix_M) : ix_Ev o_X1_copyFrom Q (1, ls, st, μ) = ix_getr 0 6 (fun k => k + 1) 4 (ix_Ev o_X1_copyFrom Q) Q ls st μ := ix_Ev.eq (a_X1_copyFrom launch0) rfl ls st μ
theorem e_X1_copyFrom_4 (Q : ix_R → Prop) (ls : ix_L) (st : List ix_V) (μ : ix_M) : ix_Ev o_X1_copyFrom Q (4, ls, st, μ) = ix_aload 1 5 (ix_Ev o_X1_copyFrom Q) Q ls st μ := ix_Ev.eq (a_X1_copyFrom launch0) rfl ls st μ
theorem e_X1_copyFrom_5 (Q : ix_R → Prop) (ls : ix_L) (st : List ix_V) (μ : ix_M) : ix_Ev o_X1_copyFrom Q (5, ls, st, μ) = ix_getr 0 6 (fun k => k + 1) 8 (ix_Ev o_X1_copyFrom Q) Q ls st μ := ix_Ev.eq (a_X1_copyFrom launch0) rfl ls st μ
theorem e_X1_copyFrom_8 (Q : ix_R → Prop) (ls : ix_L) (st : List ix_V) (μ : ix_M) : ix_Ev o_X1_copyFrom Q (8, ls, st, μ) = oc_X7_copyFrom 11 (ix_Ev o_X1_copyFrom Q) Q ls st μ := ix_Ev.eq (a_X1_copyFrom launch0) rfl ls st μ
theorem e_X1_copyFrom_11 (Q : ix_R → Prop) (ls : ix_L) (st : List ix_V) (μ : ix_M) : ix_Ev o_X1_copyFrom Q (11, ls, st, μ) = ix_aload 0 12 (ix_Ev o_X1_copyFrom Q) Q ls st μ := ix_Ev.eq (a_X1_copyFrom launch0) rfl ls st μ
theorem e_X1_copyFrom_12 (Q : ix_R → Prop) (ls : ix_L) (st : List ix_V) (μ : ix_M) : ix_Ev o_X1_copyFrom Q (12, ls, st, μ) = ix_getr 0 6 (fun k => k + 5) 15 (ix_Ev o_X1_copyFrom Q) Q ls st μ := ix_Ev.eq (a_X1_copyFrom launch0) rfl ls st μ
theorem e_X1_copyFrom_15 (Q : ix_R → Prop) (ls : ix_L) (st : List ix_V) (μ : ix_M) : ix_Ev o_X1_copyFrom Q (15, ls, st, μ) = ix_aload 1 16 (ix_Ev o_X1_copyFrom Q) Q ls st μ := ix_Ev.eq (a_X1_copyFrom launch0) rfl ls st μ
theorem e_X1_copyFrom_16 (Q : ix_R → Prop) (ls : ix_L) (st : List ix_V) (μ : ix_M) : ix_Ev o_X1_copyFrom Q (16, ls, st, μ) = ix_getr 0 6 (fun k => k + 5) 19 (ix_Ev o_X1_copyFrom Q) Q ls st μ := ix_Ev.eq (a_X1_copyFrom launch0) rfl ls st μ
theorem e_X1_copyFrom_19 (Q : ix_R → Prop) (ls : ix_L) (st : List ix_V) (μ : ix_M) : ix_Ev o_X1_copyFrom Q (19, ls, st, μ) = oc_X7_copyFrom 22 (ix_Ev o_X1_copyFrom Q) Q ls st μ := ix_Ev.eq (a_X1_copyFrom launch0) rfl ls st μ
theorem e_X1_copyFrom_22 (Q : ix_R → Prop) (ls : ix_L) (st : List ix_V) (μ : ix_M) : ix_Ev o_X1_copyFrom Q (22, ls, st, μ) = ix_vret (ix_Ev o_X1_copyFrom Q) Q ls st μ := ix_Ev.eq (a_X1_copyFrom launch0) rfl ls st μ
theorem r_X1_copyFrom (q : Nat) (o : Nat) (μ : ix_M) (Q : ix_R → Prop) (ok_q : q < ix_N ∧ ix_tag q = 0) (ok_o : o < ix_N ∧ ix_tag o = 0) (hT : T_X1_copyFrom (q, o) μ Q) : ix_Ev o_X1_copyFrom Q (0, [some (vr 0 q), some (vr 0 o)], [], μ) := by
  obtain ⟨⟨hne, h1, h2⟩, hQ⟩ := hT
  have hq := ok_laws q ok_q.1 ok_q.2
  have ho := ok_laws o ok_o.1 ok_o.2
  have l1 : ∀ q, q = 10 ∨ q = 33 → ix_len (q + 3) = 50 ∧ ix_len (q + 7) = 50 := by
    intro q h
    rcases h with rfl | rfl <;> decide +kernel
  have lq := l1 q hq
  have lo := l1 o ho
  simp (decide := true) only [e_X1_copyFrom_0, e_X1_copyFrom_1, e_X1_copyFrom_4, e_X1_copyFrom_5, e_X1_copyFrom_8, e_X1_copyFrom_11, e_X1_copyFrom_12, e_X1_copyFrom_15, e_X1_copyFrom_16, e_X1_copyFrom_19, e_X1_copyFrom_22, vi, vl, vr, oc_X7_copyFrom, T_X7_copyFrom, ix_push, ix_iload, ix_lload, ix_aload, ix_istore, ix_astore, ix_iinc, ix_bin, ix_div, ix_un, ix_i2l, ix_l2i, ix_lbin, ix_lsh, ix_lcmp, ix_dup, ix_dup2, ix_pop, ix_if, ix_cmp, ix_goto, ix_switch, ix_sw, ix_iret, ix_zret, ix_vret, ix_aret, ix_geti, ix_getr, ix_puti, ix_putz, ix_puts, ix_gets, ix_iald, ix_iast, ix_alen, ix_aald, ix_gval, ix_gcod, ix_bald, ix_blen, ix_sald, ix_nret, ix_math2, ix_math1, ix_acopy, Nat.add_assoc, Int32.reduceLT, Int32.reduceLE, Int32.reduceToNatClampNeg, Int32.reduceSub, Int32.reduceAdd, Nat.reduceAdd, Nat.reduceLeDiff, true_or, or_true, or_false, false_or, not_false_eq_true, not_true_eq_false, false_implies, true_implies, implies_true, and_self, mB_0, mB_01, Classical.not_not, Nat.zero_le, List.getElem?_cons_zero, List.getElem?_cons_succ, List.set_cons_zero, List.set_cons_succ, ix_nl, ix_cs, true_and, and_true, Option.toList_some, Option.toList_none, List.cons_append, List.nil_append]
  refine ⟨⟨h1, by rw [lo.1, lq.1]⟩, ⟨?_, by rw [lo.2, lq.2]⟩, ?_⟩
  · unfold RowOk at h2 ⊢
    rw [ix_cpy_ne (by omega), ix_up_ne (by omega)]
    exact h2
  · have e : ix_cpy (ix_up μ (q + 2) 1 (μ (o + 2) 1)) (o + 3) (q + 3) 0 0 (μ (o + 2) 1).toNatClampNeg (o + 6) = μ (o + 6) := by rw [ix_cpy_ne (by omega), ix_up_ne (by omega)]
    rw [e]
    have hr := rowEq.cp (μ := μ) (r := q + 2) (o := o + 2) rfl (by omega) (by omega)
    refine hQ _ (fun a ha => ?_) ?_ ?_
    · simp only [List.mem_cons, List.not_mem_nil, or_false, not_or] at ha
      rw [ix_cpy_ne (by omega), ix_up_ne (by omega), ix_cpy_ne (by omega), ix_up_ne (by omega)]
    · refine hr.fx ?_ ?_
      · rw [ix_cpy_ne (by omega), ix_up_ne (by omega)]
      · rw [ix_cpy_ne (by omega), ix_up_ne (by omega)]
    · refine ⟨?_, fun j hj => ?_⟩
      · rw [ix_cpy_ne (by omega), ix_up_k]
      · rw [show q + 6 + 1 = q + 7 by omega, ix_cpy_at, va_cpy00 hj, ix_up_ne (by omega), ix_cpy_ne (by omega), ix_up_ne (by omega)]
theorem k_X1_copyFrom (l : Launch) : ix_Ct l yX1_copyFrom cX1_copyFrom 2 none 3 sh_X1_copyFrom T_X1_copyFrom := ix_ct (a_X1_copyFrom l) rfl (by decide) (fun _ => Nat.le_of_ble_eq_true rfl) (fun x μ Q hok hT => r_X1_copyFrom x.1 x.2 μ Q (ix_ok_at (hok (vr 0 x.1) (by simp [sh_X1_copyFrom])) (by decide) (by decide)) (ix_ok_at (hok (vr 0 x.2) (by simp [sh_X1_copyFrom])) (by decide) (by decide)) hT)
def sL (s : Nat) : List Nat := (List.range 23).map (fun i => s + i)
theorem sL_in {s a : Nat} : a ∈ sL s ↔ s ≤ a ∧ a < s + 23 := by
  unfold sL
  rw [List.mem_map]
  refine ⟨fun ⟨i, hi, e⟩ => ?_, fun h => ⟨a - s, List.mem_range.mpr (by omega), by omega⟩⟩
  have := List.mem_range.mp hi
  omega
theorem ok_state : ∀ s, s < ix_N → ix_tag s = 5 → s = 1 ∨ s = 24 := by decide +kernel
/-- state s of μ' is as state o of μ -/
def stEq (μ' : ix_M) (s : Nat) (μ : ix_M) (o : Nat) : Prop := wv μ' (s + 1) = wv μ (o + 1) ∧ rowEq μ' (s + 11) μ (o + 11) ∧ rowEq μ' (s + 15) μ (o + 15) ∧ rowEq μ' (s + 18) μ (o + 18) ∧ rowEq μ' (s + 20) μ (o + 20) ∧ (∀ j, j < 6 → μ' (s + 22) j = μ (o + 22) j) ∧ μ' s 5 = μ o 5
def T_X6_copyFrom : Nat × Nat → ix_M → (ix_R → Prop) → Prop := fun (s, o) μ Q => (s ≠ o ∧ RowOk μ (o + 11) ∧ RowOk μ (o + 15) ∧ RowOk μ (o + 18) ∧ RowOk μ (o + 20)) ∧ ∀ μ', Fx (sL s) μ μ' → stEq μ' s μ o → Q (none, μ')
def sh_X6_copyFrom (x : Nat × Nat) : List ix_V := [vr 5 x.1, vr 5 x.2]
theorem mo_X6_copyFrom (x : Nat × Nat) (μ : ix_M) (Q Q' : ix_R → Prop) (h : ∀ r, Q r → Q' r) (hT : T_X6_copyFrom x μ Q) : T_X6_copyFrom x μ Q' := by
  obtain ⟨a0, a1⟩ := x
  (exact ⟨hT.1, fun μ' a b => h _ (hT.2 μ' a b)⟩)
def oc_X6_copyFrom (n : Nat) : ix_Op := fun k _ ls st μ => match st with
  | .inr (.inr (t1, a1)) :: .inr (.inr (t0, a0)) :: r => t0 = 5 ∧ t1 = 5 ∧ ix_cs r ≤ 8 ∧ T_X6_copyFrom (a0, a1) μ (fun q => k (n, ls, q.1.toList ++ r, q.2))
  | _ => False
theorem oc_X6_copyFrom_s {l : Launch} {cc : ByteArray} {nL : Nat} {own : String} {d : Nat} {rt : Option FieldType} {pc n : Nat} (h : ix_S l cc nL own d rt pc (ix_call 2 sh_X6_copyFrom T_X6_copyFrom n)) : ix_S l cc nL own d rt pc (oc_X6_copyFrom n) := by
  refine h.by (fun k Q ls st μ h => ?_) (fun k k' Q ls st μ hk h => ?_)
  · unfold oc_X6_copyFrom at h
    split at h
    · rename_i t1 a1 t0 a0 r
      obtain ⟨rfl, rfl, h1, h2⟩ := h
      exact ⟨h1, (a0, a1), rfl, _, h2, fun r h => h⟩
    · exact h.elim
  · unfold oc_X6_copyFrom at h ⊢
    split at h
    · obtain ⟨rfl, rfl, h1, h2⟩ := h
      exact ⟨rfl, rfl, h1, mo_X6_copyFrom _ _ _ _ (fun q hq => hk _ hq) h2⟩
    · exact h.elim
def o_X6_copyFrom : List (Nat × ix_Op) := [
  (0, ix_aload 0 1),
  (1, ix_getr 5 8 (fun k => k + 1) 4),
  (4, ix_aload 1 5),
  (5, ix_getr 5 8 (fun k => k + 1) 8),
  (8, oc_X9_copyFrom 11),
  (11, ix_aload 0 12),
  (12, ix_getr 5 0 (fun k => k + 9) 15),
  (15, ix_aload 1 16),
  (16, ix_getr 5 0 (fun k => k + 9) 19),
  (19, oc_X1_copyFrom 22),
  (22, ix_aload 0 23),
  (23, ix_getr 5 3 (fun k => k + 18) 26),
  (26, ix_aload 1 27),
  (27, ix_getr 5 3 (fun k => k + 18) 30),
  (30, oc_X4_copyFrom 33),
  (33, ix_aload 0 34),
  (34, ix_getr 5 3 (fun k => k + 20) 37),
  (37, ix_aload 1 38),
  (38, ix_getr 5 3 (fun k => k + 20) 41),
  (41, oc_X4_copyFrom 44),
  (44, ix_aload 1 45),
  (45, ix_getr 5 20 (fun k => k + 22) 48),
  (48, ix_push (vi 0) 49),
  (49, ix_aload 0 50),
  (50, ix_getr 5 20 (fun k => k + 22) 53),
  (53, ix_push (vi 0) 54),
  (54, ix_push (vi 6) 56),
  (56, ix_acopy 59),
  (59, ix_aload 0 60),
  (60, ix_aload 1 61),
  (61, ix_geti 5 5 64),
  (64, ix_puti 5 5 67),
  (67, ix_vret)]
set_option maxRecDepth 20000 in
theorem a_X6_copyFrom (l : Launch) : ix_AllS l cX6_copyFrom 2 RX6 4 none o_X6_copyFrom :=
  .cons (ix_s_aload_n dX6_copyFrom_0 rfl) <|
  .cons (ix_s_getr (j := 0) tu_X6 rfl (by decide) (by decide) tw_136 rfl ts_5_0_r dX6_copyFrom_1) <|
  .cons (ix_s_aload_n dX6_copyFrom_4 rfl) <|
  .cons (ix_s_getr (j := 0) tu_X6 rfl (by decide) (by decide) tw_136 rfl ts_5_0_r dX6_copyFrom_5) <|
  .cons (oc_X9_copyFrom_s (ix_s_callv (t := 8) (k_X9_copyFrom l) (by decide) (by decide) tw_642 tw_3 tw_835 tw_640 tw_641 ⟨by decide, by decide, by decide +kernel⟩ (by decide) rfl rfl (fun _ => ⟨_, _, rfl, rfl⟩) dX6_copyFrom_8)) <|
  .cons (ix_s_aload_n dX6_copyFrom_11 rfl) <|
  .cons (ix_s_getr (j := 1) tu_X6 rfl (by decide) (by decide) tw_139 rfl ts_5_1_r dX6_copyFrom_12) <|
  .cons (ix_s_aload_n dX6_copyFrom_15 rfl) <|
  .cons (ix_s_getr (j := 1) tu_X6 rfl (by decide) (by decide) tw_139 rfl ts_5_1_r dX6_copyFrom_16) <|
  .cons (oc_X1_copyFrom_s (ix_s_callv (t := 0) (k_X1_copyFrom l) (by decide) (by decide) tw_839 tw_4 tw_836 tw_837 tw_838 ⟨by decide, by decide, by decide +kernel⟩ (by decide) rfl rfl (fun _ => ⟨_, _, rfl, rfl⟩) dX6_copyFrom_19)) <|
  .cons (ix_s_aload_n dX6_copyFrom_22 rfl) <|
  .cons (ix_s_getr (j := 2) tu_X6 rfl (by decide) (by decide) tw_141 rfl ts_5_2_r dX6_copyFrom_23) <|
  .cons (ix_s_aload_n dX6_copyFrom_26 rfl) <|
  .cons (ix_s_getr (j := 2) tu_X6 rfl (by decide) (by decide) tw_141 rfl ts_5_2_r dX6_copyFrom_27) <|
  .cons (oc_X4_copyFrom_s (ix_s_callv (t := 3) (k_X4_copyFrom l) (by decide) (by decide) tw_448 tw_6 tw_841 tw_446 tw_447 ⟨by decide, by decide, by decide +kernel⟩ (by decide) rfl rfl (fun _ => ⟨_, _, rfl, rfl⟩) dX6_copyFrom_30)) <|
  .cons (ix_s_aload_n dX6_copyFrom_33 rfl) <|
  .cons (ix_s_getr (j := 3) tu_X6 rfl (by decide) (by decide) tw_143 rfl ts_5_3_r dX6_copyFrom_34) <|
  .cons (ix_s_aload_n dX6_copyFrom_37 rfl) <|
  .cons (ix_s_getr (j := 3) tu_X6 rfl (by decide) (by decide) tw_143 rfl ts_5_3_r dX6_copyFrom_38) <|
  .cons (oc_X4_copyFrom_s (ix_s_callv (t := 3) (k_X4_copyFrom l) (by decide) (by decide) tw_448 tw_6 tw_841 tw_446 tw_447 ⟨by decide, by decide, by decide +kernel⟩ (by decide) rfl rfl (fun _ => ⟨_, _, rfl, rfl⟩) dX6_copyFrom_41)) <|
  .cons (ix_s_aload_n dX6_copyFrom_44 rfl) <|
  .cons (ix_s_getr (j := 4) tu_X6 rfl (by decide) (by decide) tw_145 rfl ts_5_4_r dX6_copyFrom_45) <|
  .cons (ix_s_iconst dX6_copyFrom_48 (by decide +kernel)) <|
  .cons (ix_s_aload_n dX6_copyFrom_49 rfl) <|
  .cons (ix_s_getr (j := 4) tu_X6 rfl (by decide) (by decide) tw_145 rfl ts_5_4_r dX6_copyFrom_50) <|
  .cons (ix_s_iconst dX6_copyFrom_53 (by decide +kernel)) <|
  .cons (ix_s_bipush dX6_copyFrom_54 (by decide +kernel)) <|
  .cons (ix_s_acopy tw_842 tw_452 tw_451 tw_14 (by decide) dX6_copyFrom_56) <|
  .cons (ix_s_aload_n dX6_copyFrom_59 rfl) <|
  .cons (ix_s_aload_n dX6_copyFrom_60 rfl) <|
  .cons (ix_s_geti (j := 5) tu_X6 rfl (by decide) (by decide) tw_148 rfl ts_5_5_i dX6_copyFrom_61) <|
  .cons (ix_s_puti (j := 5) tu_X6 tyX6_ok nmX6 rfl (by decide) (by decide) tw_148 rfl rfl (by decide +kernel) ts_5_5_p dX6_copyFrom_64) <|
  .cons (ix_s_vret dX6_copyFrom_67 rfl) <| .nil
theorem e_X6_copyFrom_0 (Q : ix_R → Prop) (ls : ix_L) (st : List ix_V) (μ : ix_M) : ix_Ev o_X6_copyFrom Q (0, ls, st, μ) = ix_aload 0 1 (ix_Ev o_X6_copyFrom Q) Q ls st μ := ix_Ev.eq (a_X6_copyFrom launch0) rfl ls st μ
theorem e_X6_copyFrom_1 (Q : ix_R → Prop) (ls : ix_L) (st : List ix_V) (μ : ix_M) : ix_Ev o_X6_copyFrom Q (1, ls, st, μ) = ix_getr 5 8 (fun k => k + 1) 4 (ix_Ev o_X6_copyFrom Q) Q ls st μ := ix_Ev.eq (a_X6_copyFrom launch0) rfl ls st μ
theorem e_X6_copyFrom_4 (Q : ix_R → Prop) (ls : ix_L) (st : List ix_V) (μ : ix_M) : ix_Ev o_X6_copyFrom Q (4, ls, st, μ) = ix_aload 1 5 (ix_Ev o_X6_copyFrom Q) Q ls st μ := ix_Ev.eq (a_X6_copyFrom launch0) rfl ls st μ
theorem e_X6_copyFrom_5 (Q : ix_R → Prop) (ls : ix_L) (st : List ix_V) (μ : ix_M) : ix_Ev o_X6_copyFrom Q (5, ls, st, μ) = ix_getr 5 8 (fun k => k + 1) 8 (ix_Ev o_X6_copyFrom Q) Q ls st μ := ix_Ev.eq (a_X6_copyFrom launch0) rfl ls st μ
theorem e_X6_copyFrom_8 (Q : ix_R → Prop) (ls : ix_L) (st : List ix_V) (μ : ix_M) : ix_Ev o_X6_copyFrom Q (8, ls, st, μ) = oc_X9_copyFrom 11 (ix_Ev o_X6_copyFrom Q) Q ls st μ := ix_Ev.eq (a_X6_copyFrom launch0) rfl ls st μ
theorem e_X6_copyFrom_11 (Q : ix_R → Prop) (ls : ix_L) (st : List ix_V) (μ : ix_M) : ix_Ev o_X6_copyFrom Q (11, ls, st, μ) = ix_aload 0 12 (ix_Ev o_X6_copyFrom Q) Q ls st μ := ix_Ev.eq (a_X6_copyFrom launch0) rfl ls st μ
theorem e_X6_copyFrom_12 (Q : ix_R → Prop) (ls : ix_L) (st : List ix_V) (μ : ix_M) : ix_Ev o_X6_copyFrom Q (12, ls, st, μ) = ix_getr 5 0 (fun k => k + 9) 15 (ix_Ev o_X6_copyFrom Q) Q ls st μ := ix_Ev.eq (a_X6_copyFrom launch0) rfl ls st μ
theorem e_X6_copyFrom_15 (Q : ix_R → Prop) (ls : ix_L) (st : List ix_V) (μ : ix_M) : ix_Ev o_X6_copyFrom Q (15, ls, st, μ) = ix_aload 1 16 (ix_Ev o_X6_copyFrom Q) Q ls st μ := ix_Ev.eq (a_X6_copyFrom launch0) rfl ls st μ
theorem e_X6_copyFrom_16 (Q : ix_R → Prop) (ls : ix_L) (st : List ix_V) (μ : ix_M) : ix_Ev o_X6_copyFrom Q (16, ls, st, μ) = ix_getr 5 0 (fun k => k + 9) 19 (ix_Ev o_X6_copyFrom Q) Q ls st μ := ix_Ev.eq (a_X6_copyFrom launch0) rfl ls st μ
theorem e_X6_copyFrom_19 (Q : ix_R → Prop) (ls : ix_L) (st : List ix_V) (μ : ix_M) : ix_Ev o_X6_copyFrom Q (19, ls, st, μ) = oc_X1_copyFrom 22 (ix_Ev o_X6_copyFrom Q) Q ls st μ := ix_Ev.eq (a_X6_copyFrom launch0) rfl ls st μ
theorem e_X6_copyFrom_22 (Q : ix_R → Prop) (ls : ix_L) (st : List ix_V) (μ : ix_M) : ix_Ev o_X6_copyFrom Q (22, ls, st, μ) = ix_aload 0 23 (ix_Ev o_X6_copyFrom Q) Q ls st μ := ix_Ev.eq (a_X6_copyFrom launch0) rfl ls st μ
theorem e_X6_copyFrom_23 (Q : ix_R → Prop) (ls : ix_L) (st : List ix_V) (μ : ix_M) : ix_Ev o_X6_copyFrom Q (23, ls, st, μ) = ix_getr 5 3 (fun k => k + 18) 26 (ix_Ev o_X6_copyFrom Q) Q ls st μ := ix_Ev.eq (a_X6_copyFrom launch0) rfl ls st μ
theorem e_X6_copyFrom_26 (Q : ix_R → Prop) (ls : ix_L) (st : List ix_V) (μ : ix_M) : ix_Ev o_X6_copyFrom Q (26, ls, st, μ) = ix_aload 1 27 (ix_Ev o_X6_copyFrom Q) Q ls st μ := ix_Ev.eq (a_X6_copyFrom launch0) rfl ls st μ
theorem e_X6_copyFrom_27 (Q : ix_R → Prop) (ls : ix_L) (st : List ix_V) (μ : ix_M) : ix_Ev o_X6_copyFrom Q (27, ls, st, μ) = ix_getr 5 3 (fun k => k + 18) 30 (ix_Ev o_X6_copyFrom Q) Q ls st μ := ix_Ev.eq (a_X6_copyFrom launch0) rfl ls st μ
theorem e_X6_copyFrom_30 (Q : ix_R → Prop) (ls : ix_L) (st : List ix_V) (μ : ix_M) : ix_Ev o_X6_copyFrom Q (30, ls, st, μ) = oc_X4_copyFrom 33 (ix_Ev o_X6_copyFrom Q) Q ls st μ := ix_Ev.eq (a_X6_copyFrom launch0) rfl ls st μ
theorem e_X6_copyFrom_33 (Q : ix_R → Prop) (ls : ix_L) (st : List ix_V) (μ : ix_M) : ix_Ev o_X6_copyFrom Q (33, ls, st, μ) = ix_aload 0 34 (ix_Ev o_X6_copyFrom Q) Q ls st μ := ix_Ev.eq (a_X6_copyFrom launch0) rfl ls st μ
theorem e_X6_copyFrom_34 (Q : ix_R → Prop) (ls : ix_L) (st : List ix_V) (μ : ix_M) : ix_Ev o_X6_copyFrom Q (34, ls, st, μ) = ix_getr 5 3 (fun k => k + 20) 37 (ix_Ev o_X6_copyFrom Q) Q ls st μ := ix_Ev.eq (a_X6_copyFrom launch0) rfl ls st μ
theorem e_X6_copyFrom_37 (Q : ix_R → Prop) (ls : ix_L) (st : List ix_V) (μ : ix_M) : ix_Ev o_X6_copyFrom Q (37, ls, st, μ) = ix_aload 1 38 (ix_Ev o_X6_copyFrom Q) Q ls st μ := ix_Ev.eq (a_X6_copyFrom launch0) rfl ls st μ
theorem e_X6_copyFrom_38 (Q : ix_R → Prop) (ls : ix_L) (st : List ix_V) (μ : ix_M) : ix_Ev o_X6_copyFrom Q (38, ls, st, μ) = ix_getr 5 3 (fun k => k + 20) 41 (ix_Ev o_X6_copyFrom Q) Q ls st μ := ix_Ev.eq (a_X6_copyFrom launch0) rfl ls st μ
theorem e_X6_copyFrom_41 (Q : ix_R → Prop) (ls : ix_L) (st : List ix_V) (μ : ix_M) : ix_Ev o_X6_copyFrom Q (41, ls, st, μ) = oc_X4_copyFrom 44 (ix_Ev o_X6_copyFrom Q) Q ls st μ := ix_Ev.eq (a_X6_copyFrom launch0) rfl ls st μ
theorem e_X6_copyFrom_44 (Q : ix_R → Prop) (ls : ix_L) (st : List ix_V) (μ : ix_M) : ix_Ev o_X6_copyFrom Q (44, ls, st, μ) = ix_aload 1 45 (ix_Ev o_X6_copyFrom Q) Q ls st μ := ix_Ev.eq (a_X6_copyFrom launch0) rfl ls st μ
theorem e_X6_copyFrom_45 (Q : ix_R → Prop) (ls : ix_L) (st : List ix_V) (μ : ix_M) : ix_Ev o_X6_copyFrom Q (45, ls, st, μ) = ix_getr 5 20 (fun k => k + 22) 48 (ix_Ev o_X6_copyFrom Q) Q ls st μ := ix_Ev.eq (a_X6_copyFrom launch0) rfl ls st μ
theorem e_X6_copyFrom_48 (Q : ix_R → Prop) (ls : ix_L) (st : List ix_V) (μ : ix_M) : ix_Ev o_X6_copyFrom Q (48, ls, st, μ) = ix_push (vi 0) 49 (ix_Ev o_X6_copyFrom Q) Q ls st μ := ix_Ev.eq (a_X6_copyFrom launch0) rfl ls st μ
theorem e_X6_copyFrom_49 (Q : ix_R → Prop) (ls : ix_L) (st : List ix_V) (μ : ix_M) : ix_Ev o_X6_copyFrom Q (49, ls, st, μ) = ix_aload 0 50 (ix_Ev o_X6_copyFrom Q) Q ls st μ := ix_Ev.eq (a_X6_copyFrom launch0) rfl ls st μ
theorem e_X6_copyFrom_50 (Q : ix_R → Prop) (ls : ix_L) (st : List ix_V) (μ : ix_M) : ix_Ev o_X6_copyFrom Q (50, ls, st, μ) = ix_getr 5 20 (fun k => k + 22) 53 (ix_Ev o_X6_copyFrom Q) Q ls st μ := ix_Ev.eq (a_X6_copyFrom launch0) rfl ls st μ
theorem e_X6_copyFrom_53 (Q : ix_R → Prop) (ls : ix_L) (st : List ix_V) (μ : ix_M) : ix_Ev o_X6_copyFrom Q (53, ls, st, μ) = ix_push (vi 0) 54 (ix_Ev o_X6_copyFrom Q) Q ls st μ := ix_Ev.eq (a_X6_copyFrom launch0) rfl ls st μ
theorem e_X6_copyFrom_54 (Q : ix_R → Prop) (ls : ix_L) (st : List ix_V) (μ : ix_M) : ix_Ev o_X6_copyFrom Q (54, ls, st, μ) = ix_push (vi 6) 56 (ix_Ev o_X6_copyFrom Q) Q ls st μ := ix_Ev.eq (a_X6_copyFrom launch0) rfl ls st μ
theorem e_X6_copyFrom_56 (Q : ix_R → Prop) (ls : ix_L) (st : List ix_V) (μ : ix_M) : ix_Ev o_X6_copyFrom Q (56, ls, st, μ) = ix_acopy 59 (ix_Ev o_X6_copyFrom Q) Q ls st μ := ix_Ev.eq (a_X6_copyFrom launch0) rfl ls st μ
theorem e_X6_copyFrom_59 (Q : ix_R → Prop) (ls : ix_L) (st : List ix_V) (μ : ix_M) : ix_Ev o_X6_copyFrom Q (59, ls, st, μ) = ix_aload 0 60 (ix_Ev o_X6_copyFrom Q) Q ls st μ := ix_Ev.eq (a_X6_copyFrom launch0) rfl ls st μ
theorem e_X6_copyFrom_60 (Q : ix_R → Prop) (ls : ix_L) (st : List ix_V) (μ : ix_M) : ix_Ev o_X6_copyFrom Q (60, ls, st, μ) = ix_aload 1 61 (ix_Ev o_X6_copyFrom Q) Q ls st μ := ix_Ev.eq (a_X6_copyFrom launch0) rfl ls st μ
theorem e_X6_copyFrom_61 (Q : ix_R → Prop) (ls : ix_L) (st : List ix_V) (μ : ix_M) : ix_Ev o_X6_copyFrom Q (61, ls, st, μ) = ix_geti 5 5 64 (ix_Ev o_X6_copyFrom Q) Q ls st μ := ix_Ev.eq (a_X6_copyFrom launch0) rfl ls st μ
theorem e_X6_copyFrom_64 (Q : ix_R → Prop) (ls : ix_L) (st : List ix_V) (μ : ix_M) : ix_Ev o_X6_copyFrom Q (64, ls, st, μ) = ix_puti 5 5 67 (ix_Ev o_X6_copyFrom Q) Q ls st μ := ix_Ev.eq (a_X6_copyFrom launch0) rfl ls st μ
theorem e_X6_copyFrom_67 (Q : ix_R → Prop) (ls : ix_L) (st : List ix_V) (μ : ix_M) : ix_Ev o_X6_copyFrom Q (67, ls, st, μ) = ix_vret (ix_Ev o_X6_copyFrom Q) Q ls st μ := ix_Ev.eq (a_X6_copyFrom launch0) rfl ls st μ
theorem r_X6_copyFrom (s : Nat) (o : Nat) (μ : ix_M) (Q : ix_R → Prop) (ok_s : s < ix_N ∧ ix_tag s = 5) (ok_o : o < ix_N ∧ ix_tag o = 5) (hT : T_X6_copyFrom (s, o) μ Q) : ix_Ev o_X6_copyFrom Q (0, [some (vr 5 s), some (vr 5 o)], [], μ) := by
  obtain ⟨⟨hne, h1, h2, h3, h4⟩, hQ⟩ := hT
  have hs := ok_state s ok_s.1 ok_s.2
  have ho := ok_state o ok_o.1 ok_o.2
  have l1 : ∀ q, q = 1 ∨ q = 24 → ix_len (q + 19) = 50 ∧ ix_len (q + 21) = 20 ∧ ix_len (q + 22) = 6 := by
    intro q h
    rcases h with rfl | rfl <;> decide +kernel
  have ls := l1 s hs
  have lo := l1 o ho
  simp (decide := true) only [e_X6_copyFrom_0, e_X6_copyFrom_1, e_X6_copyFrom_4, e_X6_copyFrom_5, e_X6_copyFrom_8, e_X6_copyFrom_11, e_X6_copyFrom_12, e_X6_copyFrom_15, e_X6_copyFrom_16, e_X6_copyFrom_19, e_X6_copyFrom_22, e_X6_copyFrom_23, e_X6_copyFrom_26, e_X6_copyFrom_27, e_X6_copyFrom_30, e_X6_copyFrom_33, e_X6_copyFrom_34, e_X6_copyFrom_37, e_X6_copyFrom_38, e_X6_copyFrom_41, e_X6_copyFrom_44, e_X6_copyFrom_45, e_X6_copyFrom_48, e_X6_copyFrom_49, e_X6_copyFrom_50, e_X6_copyFrom_53, e_X6_copyFrom_54, e_X6_copyFrom_56, e_X6_copyFrom_59, e_X6_copyFrom_60, e_X6_copyFrom_61, e_X6_copyFrom_64, e_X6_copyFrom_67, vi, vl, vr, oc_X1_copyFrom, T_X1_copyFrom, oc_X4_copyFrom, T_X4_copyFrom, oc_X9_copyFrom, T_X9_copyFrom, ix_push, ix_iload, ix_lload, ix_aload, ix_istore, ix_astore, ix_iinc, ix_bin, ix_div, ix_un, ix_i2l, ix_l2i, ix_lbin, ix_lsh, ix_lcmp, ix_dup, ix_dup2, ix_pop, ix_if, ix_cmp, ix_goto, ix_switch, ix_sw, ix_iret, ix_zret, ix_vret, ix_aret, ix_geti, ix_getr, ix_puti, ix_putz, ix_puts, ix_gets, ix_iald, ix_iast, ix_alen, ix_aald, ix_gval, ix_gcod, ix_bald, ix_blen, ix_sald, ix_nret, ix_math2, ix_math1, ix_acopy, Nat.add_assoc, Int32.reduceLT, Int32.reduceLE, Int32.reduceToNatClampNeg, Int32.reduceSub, Int32.reduceAdd, Nat.reduceAdd, Nat.reduceLeDiff, true_or, or_true, or_false, false_or, not_false_eq_true, not_true_eq_false, false_implies, true_implies, implies_true, and_self, mB_0, mB_01, Classical.not_not, Nat.zero_le, List.getElem?_cons_zero, List.getElem?_cons_succ, List.set_cons_zero, List.set_cons_succ, ix_nl, ix_cs, true_and, and_true, Option.toList_some, Option.toList_none, List.cons_append, List.nil_append, ls, lo]
  refine ⟨by omega, fun μ1 hF1 hv1 => ⟨⟨by omega, ?_, ?_⟩, fun μ2 hF2 hr2 hr2' => ⟨?_, ?_, ?_⟩⟩⟩
  · unfold RowOk at h1 ⊢
    rw [hF1 _ (by unfold wL; simp; omega)]
    exact h1
  · unfold RowOk at h2 ⊢
    rw [hF1 _ (by unfold wL; simp; omega)]
    exact h2
  · unfold RowOk at h3 ⊢
    rw [hF2 _ (by simp; omega), hF1 _ (by unfold wL; simp; omega)]
    exact h3
  · unfold RowOk at h4 ⊢
    rw [ix_cpy_ne (by omega), ix_up_ne (by omega), hF2 _ (by simp; omega), hF1 _ (by unfold wL; simp; omega)]
    exact h4
  · have c12 : ∀ a, a ∉ wL (s + 1) → a ∉ [s + 9 + 2, s + 9 + 3, s + 9 + 6, s + 9 + 7] → μ2 a = μ a := fun a ha hb => by rw [hF2 a hb, hF1 a ha]
    have e18 : μ2 (o + 18) = μ (o + 18) := c12 _ (by unfold wL; simp; omega) (by simp; omega)
    have e19 : μ2 (o + 19) = μ (o + 19) := c12 _ (by unfold wL; simp; omega) (by simp; omega)
    have e20 : μ2 (o + 20) = μ (o + 20) := c12 _ (by unfold wL; simp; omega) (by simp; omega)
    have e21 : μ2 (o + 21) = μ (o + 21) := c12 _ (by unfold wL; simp; omega) (by simp; omega)
    have e22 : μ2 (o + 22) = μ (o + 22) := c12 _ (by unfold wL; simp; omega) (by simp; omega)
    have e0 : μ2 o = μ o := c12 _ (by unfold wL; simp; omega) (by simp; omega)
    generalize hX : ix_cpy (ix_up μ2 (s + 18) 1 (μ2 (o + 18) 1)) (o + 19) (s + 19) 0 0 (μ2 (o + 18) 1).toNatClampNeg = μ3
    have f3 : ∀ a, a ≠ s + 18 → a ≠ s + 19 → μ3 a = μ2 a := fun a n1 n2 => by rw [← hX, ix_cpy_ne n2, ix_up_ne n1]
    have r3 : rowEq μ3 (s + 18) μ2 (o + 18) := by rw [← hX]; exact rowEq.cp rfl (by omega) (by omega)
    generalize hY : ix_cpy (ix_up μ3 (s + 20) 1 (μ3 (o + 20) 1)) (o + 21) (s + 21) 0 0 (μ3 (o + 20) 1).toNatClampNeg = μ4
    have f4 : ∀ a, a ≠ s + 20 → a ≠ s + 21 → μ4 a = μ3 a := fun a n1 n2 => by rw [← hY, ix_cpy_ne n2, ix_up_ne n1]
    have r4 : rowEq μ4 (s + 20) μ3 (o + 20) := by rw [← hY]; exact rowEq.cp rfl (by omega) (by omega)
    have g : ∀ a, a ∉ sL s → μ4 a = μ a := fun a ha => by
      rw [sL_in] at ha
      rw [f4 a (by omega) (by omega), f3 a (by omega) (by omega), c12 a (by unfold wL; simp; omega) (by simp; omega)]
    refine hQ _ (fun a ha => ?_) ⟨?_, ?_, ?_, ?_, ?_, fun j hj => ?_, ?_⟩
    · have ha2 := ha
      rw [sL_in] at ha2
      rw [ix_up_ne (by omega), ix_cpy_ne (by omega)]
      exact g a ha
    · rw [← hv1]
      refine wv_fx (fun r hr => ?_)
      rw [ix_up_ne (by omega), ix_cpy_ne (by omega), f4 _ (by omega) (by omega), f3 _ (by omega) (by omega), hF2 _ (by simp; omega)]
    · have z := hr2
      have e := hF1 (o + 11) (by unfold wL; simp; omega)
      have e2 := hF1 (o + 12) (by unfold wL; simp; omega)
      refine ⟨?_, fun j hj => ?_⟩
      · rw [ix_up_ne (by omega), ix_cpy_ne (by omega), f4 _ (by omega) (by omega), f3 _ (by omega) (by omega), z.1, e]
      · rw [ix_up_ne (by omega), ix_cpy_ne (by omega), f4 _ (by omega) (by omega), f3 _ (by omega) (by omega), z.2 j (by rw [e]; exact hj), show o + 11 + 1 = o + 12 by omega, e2]
    · have z := hr2'
      have e := hF1 (o + 15) (by unfold wL; simp; omega)
      have e2 := hF1 (o + 16) (by unfold wL; simp; omega)
      refine ⟨?_, fun j hj => ?_⟩
      · rw [ix_up_ne (by omega), ix_cpy_ne (by omega), f4 _ (by omega) (by omega), f3 _ (by omega) (by omega), z.1, e]
      · rw [ix_up_ne (by omega), ix_cpy_ne (by omega), f4 _ (by omega) (by omega), f3 _ (by omega) (by omega), z.2 j (by rw [e]; exact hj), show o + 15 + 1 = o + 16 by omega, e2]
    · have z := r3
      refine ⟨?_, fun j hj => ?_⟩
      · rw [ix_up_ne (by omega), ix_cpy_ne (by omega), f4 _ (by omega) (by omega), z.1, e18]
      · rw [ix_up_ne (by omega), ix_cpy_ne (by omega), f4 _ (by omega) (by omega), z.2 j (by rw [e18]; exact hj), show o + 18 + 1 = o + 19 by omega, e19]
    · have z := r4
      have e20' : μ3 (o + 20) = μ (o + 20) := by rw [f3 _ (by omega) (by omega), e20]
      refine ⟨?_, fun j hj => ?_⟩
      · rw [ix_up_ne (by omega), ix_cpy_ne (by omega), z.1, e20']
      · rw [ix_up_ne (by omega), ix_cpy_ne (by omega), z.2 j (by rw [e20']; exact hj), show o + 20 + 1 = o + 21 by omega, f3 _ (by omega) (by omega), e21]
    · rw [ix_up_ne (by omega), ix_cpy_at, va_cpy00 hj, f4 _ (by omega) (by omega), f3 _ (by omega) (by omega), e22]
    · rw [ix_up_k, ix_cpy_ne (by omega), f4 _ (by omega) (by omega), f3 _ (by omega) (by omega), e0]
theorem k_X6_copyFrom (l : Launch) : ix_Ct l yX6_copyFrom cX6_copyFrom 2 none 4 sh_X6_copyFrom T_X6_copyFrom := ix_ct (a_X6_copyFrom l) rfl (by decide) (fun _ => Nat.le_of_ble_eq_true rfl) (fun x μ Q hok hT => r_X6_copyFrom x.1 x.2 μ Q (ix_ok_at (hok (vr 5 x.1) (by simp [sh_X6_copyFrom])) (by decide) (by decide)) (ix_ok_at (hok (vr 5 x.2) (by simp [sh_X6_copyFrom])) (by decide) (by decide)) hT)
