/-! ===== Text, Laws ===== -/
def T_X7_isMissing : Nat → ix_M → (ix_R → Prop) → Prop := fun t μ Q => Q (some (vi (mB (μ (t + 1) 1 = 0))), μ)
def sh_X7_isMissing (x : Nat) : List ix_V := [vr 6 x]
theorem mo_X7_isMissing (x : Nat) (μ : ix_M) (Q Q' : ix_R → Prop) (h : ∀ r, Q r → Q' r) (hT : T_X7_isMissing x μ Q) : T_X7_isMissing x μ Q' := by
  first | exact h _ hT | exact ⟨hT.1, h _ hT.2⟩ | exact fun r hr => h _ (hT r hr) | exact ⟨hT.1, fun r hr => h _ (hT.2 r hr)⟩ | exact ⟨hT.1, hT.2.1, fun r hr => h _ (hT.2.2 r hr)⟩
def oc_X7_isMissing (n : Nat) : ix_Op := fun k _ ls st μ => match st with
  | .inr (.inr (t0, a0)) :: r => t0 = 6 ∧ ix_cs r ≤ 8 ∧ T_X7_isMissing a0 μ (fun q => k (n, ls, q.1.toList ++ r, q.2))
  | _ => False
theorem oc_X7_isMissing_s {l : Launch} {cc : ByteArray} {nL : Nat} {own : String} {d : Nat} {rt : Option FieldType} {pc n : Nat} (h : ix_S l cc nL own d rt pc (ix_call 1 sh_X7_isMissing T_X7_isMissing n)) : ix_S l cc nL own d rt pc (oc_X7_isMissing n) := by
  refine h.by (fun k Q ls st μ h => ?_) (fun k k' Q ls st μ hk h => ?_)
  · unfold oc_X7_isMissing at h
    split at h
    · rename_i t0 a0 r
      obtain ⟨rfl, h1, h2⟩ := h
      exact ⟨h1, a0, rfl, _, h2, fun r h => h⟩
    · exact h.elim
  · unfold oc_X7_isMissing at h ⊢
    split at h
    · obtain ⟨rfl, h1, h2⟩ := h
      exact ⟨rfl, h1, mo_X7_isMissing _ _ _ _ (fun q hq => hk _ hq) h2⟩
    · exact h.elim
def o_X7_isMissing : List (Nat × ix_Op) := [
  (0, ix_aload 0 1),
  (1, ix_getr 6 3 (fun k => k + 1) 4),
  (4, ix_geti 3 1 7),
  (7, ix_if (fun x => x = 0) 10 14),
  (10, ix_push (vi 1) 11),
  (11, ix_goto 15),
  (14, ix_push (vi 0) 15),
  (15, ix_zret)]
set_option maxRecDepth 20000 in
theorem a_X7_isMissing (l : Launch) : ix_AllS l cX7_isMissing 1 RX7 1 (some .boolean) o_X7_isMissing :=
  .cons (ix_s_aload_n dX7_isMissing_0 rfl) <|
  .cons (ix_s_getr (j := 0) tu_X7 rfl (by decide) (by decide) tw_119 rfl ts_6_0_r dX7_isMissing_1) <|
  .cons (ix_s_geti (j := 1) tu_X4 rfl (by decide) (by decide) tw_110 rfl ts_3_1_i dX7_isMissing_4) <|
  .cons (ix_s_if_ne dX7_isMissing_7 (by decide)) <|
  .cons (ix_s_iconst dX7_isMissing_10 (by decide +kernel)) <|
  .cons (ix_s_goto dX7_isMissing_11 (by decide)) <|
  .cons (ix_s_iconst dX7_isMissing_14 (by decide +kernel)) <|
  .cons (ix_s_zret dX7_isMissing_15 rfl) <| .nil
theorem e_X7_isMissing_0 (Q : ix_R → Prop) (ls : ix_L) (st : List ix_V) (μ : ix_M) : ix_Ev o_X7_isMissing Q (0, ls, st, μ) = ix_aload 0 1 (ix_Ev o_X7_isMissing Q) Q ls st μ := ix_Ev.eq (a_X7_isMissing launch0) rfl ls st μ
theorem e_X7_isMissing_1 (Q : ix_R → Prop) (ls : ix_L) (st : List ix_V) (μ : ix_M) : ix_Ev o_X7_isMissing Q (1, ls, st, μ) = ix_getr 6 3 (fun k => k + 1) 4 (ix_Ev o_X7_isMissing Q) Q ls st μ := ix_Ev.eq (a_X7_isMissing launch0) rfl ls st μ
theorem e_X7_isMissing_4 (Q : ix_R → Prop) (ls : ix_L) (st : List ix_V) (μ : ix_M) : ix_Ev o_X7_isMissing Q (4, ls, st, μ) = ix_geti 3 1 7 (ix_Ev o_X7_isMissing Q) Q ls st μ := ix_Ev.eq (a_X7_isMissing launch0) rfl ls st μ
theorem e_X7_isMissing_7 (Q : ix_R → Prop) (ls : ix_L) (st : List ix_V) (μ : ix_M) : ix_Ev o_X7_isMissing Q (7, ls, st, μ) = ix_if (fun x => x = 0) 10 14 (ix_Ev o_X7_isMissing Q) Q ls st μ := ix_Ev.eq (a_X7_isMissing launch0) rfl ls st μ
theorem e_X7_isMissing_10 (Q : ix_R → Prop) (ls : ix_L) (st : List ix_V) (μ : ix_M) : ix_Ev o_X7_isMissing Q (10, ls, st, μ) = ix_push (vi 1) 11 (ix_Ev o_X7_isMissing Q) Q ls st μ := ix_Ev.eq (a_X7_isMissing launch0) rfl ls st μ
theorem e_X7_isMissing_11 (Q : ix_R → Prop) (ls : ix_L) (st : List ix_V) (μ : ix_M) : ix_Ev o_X7_isMissing Q (11, ls, st, μ) = ix_goto 15 (ix_Ev o_X7_isMissing Q) Q ls st μ := ix_Ev.eq (a_X7_isMissing launch0) rfl ls st μ
theorem e_X7_isMissing_14 (Q : ix_R → Prop) (ls : ix_L) (st : List ix_V) (μ : ix_M) : ix_Ev o_X7_isMissing Q (14, ls, st, μ) = ix_push (vi 0) 15 (ix_Ev o_X7_isMissing Q) Q ls st μ := ix_Ev.eq (a_X7_isMissing launch0) rfl ls st μ
theorem e_X7_isMissing_15 (Q : ix_R → Prop) (ls : ix_L) (st : List ix_V) (μ : ix_M) : ix_Ev o_X7_isMissing Q (15, ls, st, μ) = ix_zret (ix_Ev o_X7_isMissing Q) Q ls st μ := ix_Ev.eq (a_X7_isMissing launch0) rfl ls st μ
theorem r_X7_isMissing (t : Nat) (μ : ix_M) (Q : ix_R → Prop) (ok_t : t < ix_N ∧ ix_tag t = 6) (hT : T_X7_isMissing t μ Q) : ix_Ev o_X7_isMissing Q (0, [some (vr 6 t)], [], μ) := by
  simp (decide := true) only [e_X7_isMissing_0, e_X7_isMissing_1, e_X7_isMissing_4, e_X7_isMissing_7, e_X7_isMissing_10, e_X7_isMissing_11, e_X7_isMissing_14, e_X7_isMissing_15, vi, vl, vr, ix_push, ix_iload, ix_lload, ix_aload, ix_istore, ix_astore, ix_iinc, ix_bin, ix_div, ix_un, ix_i2l, ix_l2i, ix_lbin, ix_lsh, ix_lcmp, ix_dup, ix_dup2, ix_pop, ix_if, ix_cmp, ix_goto, ix_switch, ix_sw, ix_iret, ix_zret, ix_vret, ix_aret, ix_geti, ix_getr, ix_puti, ix_putz, ix_puts, ix_gets, ix_iald, ix_iast, ix_alen, ix_aald, ix_gval, ix_gcod, ix_bald, ix_blen, ix_sald, ix_nret, ix_math2, ix_math1, ix_acopy, Nat.add_assoc, Int32.reduceLT, Int32.reduceLE, Int32.reduceToNatClampNeg, Int32.reduceSub, Int32.reduceAdd, Nat.reduceAdd, Nat.reduceLeDiff, true_or, or_true, or_false, false_or, not_false_eq_true, not_true_eq_false, false_implies, true_implies, implies_true, and_self, mB_0, mB_01, Classical.not_not, Nat.zero_le, List.getElem?_cons_zero, List.getElem?_cons_succ, List.set_cons_zero, List.set_cons_succ, ix_nl, ix_cs, true_and, and_true, Option.toList_some, Option.toList_none, List.cons_append, List.nil_append]
  simp only [T_X7_isMissing, mB, vi, vl, vr] at hT
  repeat' (first | refine And.intro ?_ ?_ | intro _)
  all_goals (first | exact hT | (simp only [*, if_true, if_false, not_true_eq_false, not_false_eq_true, and_true, true_and, and_false, false_and, or_true, true_or, or_false, false_or, and_self, or_self] at hT; exact hT) | (simp only [← Int32.not_lt, Classical.not_not] at *; simp only [*, if_true, if_false, not_true_eq_false, not_false_eq_true, and_true, true_and, and_false, false_and, or_true, true_or, or_false, false_or, and_self, or_self] at hT; exact hT) | (simp_all; done))
theorem k_X7_isMissing (l : Launch) : ix_Ct l yX7_isMissing cX7_isMissing 1 (some .boolean) 1 sh_X7_isMissing T_X7_isMissing := ix_ct (a_X7_isMissing l) rfl (by decide) (fun _ => Nat.le_of_ble_eq_true rfl) (fun x μ Q hok hT => r_X7_isMissing x μ Q (ix_ok_at (hok (vr 6 x) (by simp [sh_X7_isMissing])) (by decide) (by decide)) hT)
def T_X7_copyFrom : Nat × Nat → ix_M → (ix_R → Prop) → Prop := fun (t, o) μ Q => (RowOk μ (o + 1) ∧ ix_len (o + 2) = ix_len (t + 2)) ∧ Q (none, ix_cpy (ix_up μ (t + 1) 1 (μ (o + 1) 1)) (o + 2) (t + 2) 0 0 (μ (o + 1) 1).toNatClampNeg)
def sh_X7_copyFrom (x : Nat × Nat) : List ix_V := [vr 6 x.1, vr 6 x.2]
theorem mo_X7_copyFrom (x : Nat × Nat) (μ : ix_M) (Q Q' : ix_R → Prop) (h : ∀ r, Q r → Q' r) (hT : T_X7_copyFrom x μ Q) : T_X7_copyFrom x μ Q' := by
  obtain ⟨a0, a1⟩ := x
  first | exact h _ hT | exact ⟨hT.1, h _ hT.2⟩ | exact fun r hr => h _ (hT r hr) | exact ⟨hT.1, fun r hr => h _ (hT.2 r hr)⟩ | exact ⟨hT.1, hT.2.1, fun r hr => h _ (hT.2.2 r hr)⟩
def oc_X7_copyFrom (n : Nat) : ix_Op := fun k _ ls st μ => match st with
  | .inr (.inr (t1, a1)) :: .inr (.inr (t0, a0)) :: r => t0 = 6 ∧ t1 = 6 ∧ ix_cs r ≤ 8 ∧ T_X7_copyFrom (a0, a1) μ (fun q => k (n, ls, q.1.toList ++ r, q.2))
  | _ => False
theorem oc_X7_copyFrom_s {l : Launch} {cc : ByteArray} {nL : Nat} {own : String} {d : Nat} {rt : Option FieldType} {pc n : Nat} (h : ix_S l cc nL own d rt pc (ix_call 2 sh_X7_copyFrom T_X7_copyFrom n)) : ix_S l cc nL own d rt pc (oc_X7_copyFrom n) := by
  refine h.by (fun k Q ls st μ h => ?_) (fun k k' Q ls st μ hk h => ?_)
  · unfold oc_X7_copyFrom at h
    split at h
    · rename_i t1 a1 t0 a0 r
      obtain ⟨rfl, rfl, h1, h2⟩ := h
      exact ⟨h1, (a0, a1), rfl, _, h2, fun r h => h⟩
    · exact h.elim
  · unfold oc_X7_copyFrom at h ⊢
    split at h
    · obtain ⟨rfl, rfl, h1, h2⟩ := h
      exact ⟨rfl, rfl, h1, mo_X7_copyFrom _ _ _ _ (fun q hq => hk _ hq) h2⟩
    · exact h.elim
def o_X7_copyFrom : List (Nat × ix_Op) := [
  (0, ix_aload 0 1),
  (1, ix_getr 6 3 (fun k => k + 1) 4),
  (4, ix_aload 1 5),
  (5, ix_getr 6 3 (fun k => k + 1) 8),
  (8, oc_X4_copyFrom 11),
  (11, ix_vret)]
set_option maxRecDepth 20000 in
theorem a_X7_copyFrom (l : Launch) : ix_AllS l cX7_copyFrom 2 RX7 2 none o_X7_copyFrom :=
  .cons (ix_s_aload_n dX7_copyFrom_0 rfl) <|
  .cons (ix_s_getr (j := 0) tu_X7 rfl (by decide) (by decide) tw_119 rfl ts_6_0_r dX7_copyFrom_1) <|
  .cons (ix_s_aload_n dX7_copyFrom_4 rfl) <|
  .cons (ix_s_getr (j := 0) tu_X7 rfl (by decide) (by decide) tw_119 rfl ts_6_0_r dX7_copyFrom_5) <|
  .cons (oc_X4_copyFrom_s (ix_s_callv (t := 3) (k_X4_copyFrom l) (by decide) (by decide) tw_448 tw_6 tw_581 tw_446 tw_447 ⟨by decide, by decide, by decide +kernel⟩ (by decide) rfl rfl (fun _ => ⟨_, _, rfl, rfl⟩) dX7_copyFrom_8)) <|
  .cons (ix_s_vret dX7_copyFrom_11 rfl) <| .nil
theorem e_X7_copyFrom_0 (Q : ix_R → Prop) (ls : ix_L) (st : List ix_V) (μ : ix_M) : ix_Ev o_X7_copyFrom Q (0, ls, st, μ) = ix_aload 0 1 (ix_Ev o_X7_copyFrom Q) Q ls st μ := ix_Ev.eq (a_X7_copyFrom launch0) rfl ls st μ
theorem e_X7_copyFrom_1 (Q : ix_R → Prop) (ls : ix_L) (st : List ix_V) (μ : ix_M) : ix_Ev o_X7_copyFrom Q (1, ls, st, μ) = ix_getr 6 3 (fun k => k + 1) 4 (ix_Ev o_X7_copyFrom Q) Q ls st μ := ix_Ev.eq (a_X7_copyFrom launch0) rfl ls st μ
theorem e_X7_copyFrom_4 (Q : ix_R → Prop) (ls : ix_L) (st : List ix_V) (μ : ix_M) : ix_Ev o_X7_copyFrom Q (4, ls, st, μ) = ix_aload 1 5 (ix_Ev o_X7_copyFrom Q) Q ls st μ := ix_Ev.eq (a_X7_copyFrom launch0) rfl ls st μ
theorem e_X7_copyFrom_5 (Q : ix_R → Prop) (ls : ix_L) (st : List ix_V) (μ : ix_M) : ix_Ev o_X7_copyFrom Q (5, ls, st, μ) = ix_getr 6 3 (fun k => k + 1) 8 (ix_Ev o_X7_copyFrom Q) Q ls st μ := ix_Ev.eq (a_X7_copyFrom launch0) rfl ls st μ
theorem e_X7_copyFrom_8 (Q : ix_R → Prop) (ls : ix_L) (st : List ix_V) (μ : ix_M) : ix_Ev o_X7_copyFrom Q (8, ls, st, μ) = oc_X4_copyFrom 11 (ix_Ev o_X7_copyFrom Q) Q ls st μ := ix_Ev.eq (a_X7_copyFrom launch0) rfl ls st μ
theorem e_X7_copyFrom_11 (Q : ix_R → Prop) (ls : ix_L) (st : List ix_V) (μ : ix_M) : ix_Ev o_X7_copyFrom Q (11, ls, st, μ) = ix_vret (ix_Ev o_X7_copyFrom Q) Q ls st μ := ix_Ev.eq (a_X7_copyFrom launch0) rfl ls st μ
theorem r_X7_copyFrom (t : Nat) (o : Nat) (μ : ix_M) (Q : ix_R → Prop) (ok_t : t < ix_N ∧ ix_tag t = 6) (ok_o : o < ix_N ∧ ix_tag o = 6) (hT : T_X7_copyFrom (t, o) μ Q) : ix_Ev o_X7_copyFrom Q (0, [some (vr 6 t), some (vr 6 o)], [], μ) := by
  simp (decide := true) only [e_X7_copyFrom_0, e_X7_copyFrom_1, e_X7_copyFrom_4, e_X7_copyFrom_5, e_X7_copyFrom_8, e_X7_copyFrom_11, vi, vl, vr, oc_X4_copyFrom, T_X4_copyFrom, ix_push, ix_iload, ix_lload, ix_aload, ix_istore, ix_astore, ix_iinc, ix_bin, ix_div, ix_un, ix_i2l, ix_l2i, ix_lbin, ix_lsh, ix_lcmp, ix_dup, ix_dup2, ix_pop, ix_if, ix_cmp, ix_goto, ix_switch, ix_sw, ix_iret, ix_zret, ix_vret, ix_aret, ix_geti, ix_getr, ix_puti, ix_putz, ix_puts, ix_gets, ix_iald, ix_iast, ix_alen, ix_aald, ix_gval, ix_gcod, ix_bald, ix_blen, ix_sald, ix_nret, ix_math2, ix_math1, ix_acopy, Nat.add_assoc, Int32.reduceLT, Int32.reduceLE, Int32.reduceToNatClampNeg, Int32.reduceSub, Int32.reduceAdd, Nat.reduceAdd, Nat.reduceLeDiff, true_or, or_true, or_false, false_or, not_false_eq_true, not_true_eq_false, false_implies, true_implies, implies_true, and_self, mB_0, mB_01, Classical.not_not, Nat.zero_le, List.getElem?_cons_zero, List.getElem?_cons_succ, List.set_cons_zero, List.set_cons_succ, ix_nl, ix_cs, true_and, and_true, Option.toList_some, Option.toList_none, List.cons_append, List.nil_append]
  exact hT
theorem k_X7_copyFrom (l : Launch) : ix_Ct l yX7_copyFrom cX7_copyFrom 2 none 2 sh_X7_copyFrom T_X7_copyFrom := ix_ct (a_X7_copyFrom l) rfl (by decide) (fun _ => Nat.le_of_ble_eq_true rfl) (fun x μ Q hok hT => r_X7_copyFrom x.1 x.2 μ Q (ix_ok_at (hok (vr 6 x.1) (by simp [sh_X7_copyFrom])) (by decide) (by decide)) (ix_ok_at (hok (vr 6 x.2) (by simp [sh_X7_copyFrom])) (by decide) (by decide)) hT)
/-- what a sign makes of two numbers, by the reference's codes -/
def mDone (d x y : Int32) : Int32 :=
  if d = 20000 then (if x = 0 then (if y = 0 then 0 else 1) else 1) else if d = 20001 then (if x = 0 then 0 else if y = 0 then 0 else 1)
  else if d = 20002 then (if y ≤ x then 0 else 1) else if d = 20003 then (if x = y then 1 else 0) else if d = 20004 then (if x ≤ y then 0 else 1)
  else if d = 20005 then x + y else if d = 20006 then x - y else if d = 20007 then x * y else if d = 20008 then (if y = 0 then 0 else x / y) else (if y = 0 then 0 else x - x / y * y)
def tName (a b c d : Int32) : Int32 := if d < 10000 then d else if d = 10000 then a else if d = 10001 then b else c
def tStep (a b c d : Int32) (s : List Int32) : List Int32 :=
  if d < 20000 then tName a b c d :: s
  else if d = 20010 then (match s with
    | x :: r => (if x = 0 then 1 else 0) :: r
    | [] => [])
  else match s with
    | y :: x :: r => mDone d x y :: r
    | s => s
def tEval (a b c : Int32) (ds s : List Int32) : List Int32 := match ds with
  | [] => s
  | d :: ds => tEval a b c ds (tStep a b c d s)
def tPush (d : Int32) : Prop := (∃ n : Nat, n < 10000 ∧ d = nI n) ∨ d = 10000 ∨ d = 10001 ∨ d = 10002
def tBin (d : Int32) : Prop := d = 20000 ∨ d = 20001 ∨ d = 20002 ∨ d = 20003 ∨ d = 20004 ∨ d = 20005 ∨ d = 20006 ∨ d = 20007 ∨ d = 20008 ∨ d = 20009
def tWf (ds : List Int32) (n m : Nat) : Prop := match ds with
  | [] => n = m
  | d :: ds => (tPush d ∧ tWf ds (n + 1) m) ∨ (d = 20010 ∧ 1 ≤ n ∧ tWf ds n m) ∨ (tBin d ∧ 2 ≤ n ∧ tWf ds (n - 1) m)
/-- a code of the reference as the class has it -/
def tCls (d : Int32) : Int32 := if d < 10000 then d else if d = 10000 then -1 else if d = 10001 then -2 else if d = 10002 then -3 else if d = 20000 then -124 else if d = 20001 then -38 else if d = 20002 then -60 else if d = 20003 then -61 else if d = 20004 then -62 else if d = 20005 then -43 else if d = 20006 then -45 else if d = 20007 then -42 else if d = 20008 then -47 else if d = 20009 then -37 else -33
theorem ok_text : ∀ t, t < ix_N → ix_tag t = 6 → ix_len (t + 2) = 50 ∧ ix_len (t + 3) = 50 := by decide +kernel
def TxtC (μ : ix_M) (t : Nat) (ds : List Int32) : Prop := μ (t + 1) 1 = nI ds.length ∧ ds.length ≤ 50 ∧ ∀ j, j < ds.length → μ (t + 2) j = tCls (ds.getD j 0)
def T_X7_value : Nat × Int32 × Int32 × Int32 → ix_M → (ix_R → Prop) → Prop := fun (t, a, b, c) μ Q => ∃ ds, TxtC μ t ds ∧ tWf ds 0 1 ∧ ∀ μ', Fx [t + 3] μ μ' → Q (some (vi ((tEval a b c ds []).headD 0)), μ')
def sh_X7_value (x : Nat × Int32 × Int32 × Int32) : List ix_V := [vr 6 x.1, vi x.2.1, vi x.2.2.1, vi x.2.2.2]
theorem mo_X7_value (x : Nat × Int32 × Int32 × Int32) (μ : ix_M) (Q Q' : ix_R → Prop) (h : ∀ r, Q r → Q' r) (hT : T_X7_value x μ Q) : T_X7_value x μ Q' := by
  obtain ⟨a0, a1, a2, a3⟩ := x
  (obtain ⟨ds, h1, h2, h3⟩ := hT; exact ⟨ds, h1, h2, fun μ' z => h _ (h3 μ' z)⟩)
def oc_X7_value (n : Nat) : ix_Op := fun k _ ls st μ => match st with
  | .inl a3 :: .inl a2 :: .inl a1 :: .inr (.inr (t0, a0)) :: r => t0 = 6 ∧ ix_cs r ≤ 8 ∧ T_X7_value (a0, a1, a2, a3) μ (fun q => k (n, ls, q.1.toList ++ r, q.2))
  | _ => False
theorem oc_X7_value_s {l : Launch} {cc : ByteArray} {nL : Nat} {own : String} {d : Nat} {rt : Option FieldType} {pc n : Nat} (h : ix_S l cc nL own d rt pc (ix_call 4 sh_X7_value T_X7_value n)) : ix_S l cc nL own d rt pc (oc_X7_value n) := by
  refine h.by (fun k Q ls st μ h => ?_) (fun k k' Q ls st μ hk h => ?_)
  · unfold oc_X7_value at h
    split at h
    · rename_i a3 a2 a1 t0 a0 r
      obtain ⟨rfl, h1, h2⟩ := h
      exact ⟨h1, (a0, a1, a2, a3), rfl, _, h2, fun r h => h⟩
    · exact h.elim
  · unfold oc_X7_value at h ⊢
    split at h
    · obtain ⟨rfl, h1, h2⟩ := h
      exact ⟨rfl, h1, mo_X7_value _ _ _ _ (fun q hq => hk _ hq) h2⟩
    · exact h.elim
def o_X7_value : List (Nat × ix_Op) := [
  (0, ix_aload 0 1),
  (1, ix_getr 6 3 (fun k => k + 1) 4),
  (4, ix_getr 3 20 (fun k => k + 1) 7),
  (7, ix_astore 4 9),
  (9, ix_aload 0 10),
  (10, ix_getr 6 3 (fun k => k + 1) 13),
  (13, ix_geti 3 1 16),
  (16, ix_istore 5 18),
  (18, ix_push (vi 0) 19),
  (19, ix_istore 6 21),
  (21, ix_push (vi 0) 22),
  (22, ix_istore 7 24),
  (24, ix_iload 7 26),
  (26, ix_iload 5 28),
  (28, ix_cmp (fun x y => y ≤ x) 425 31),
  (31, ix_aload 4 33),
  (33, ix_iload 7 35),
  (35, ix_iald 36),
  (36, ix_istore 8 38),
  (38, ix_iload 8 40),
  (40, ix_push (vi (-3)) 42),
  (42, ix_cmp (fun x y => x < y) 97 45),
  (45, ix_iload 6 47),
  (47, ix_push (vi 50) 49),
  (49, ix_cmp (fun x y => y ≤ x) 97 52),
  (52, ix_aload 0 53),
  (53, ix_getr 6 20 (fun k => k + 3) 56),
  (56, ix_iload 6 58),
  (58, ix_iload 8 60),
  (60, ix_if (fun x => x < 0) 68 63),
  (63, ix_iload 8 65),
  (65, ix_goto 90),
  (68, ix_iload 8 70),
  (70, ix_push (vi (-1)) 71),
  (71, ix_cmp (fun x y => x = y) 74 78),
  (74, ix_iload 1 75),
  (75, ix_goto 90),
  (78, ix_iload 8 80),
  (80, ix_push (vi (-2)) 82),
  (82, ix_cmp (fun x y => x = y) 85 89),
  (85, ix_iload 2 86),
  (86, ix_goto 90),
  (89, ix_iload 3 90),
  (90, ix_iast 91),
  (91, ix_iinc 6 1 94),
  (94, ix_goto 419),
  (97, ix_iload 8 99),
  (99, ix_push (vi (-33)) 101),
  (101, ix_cmp (fun x y => x = y) 104 139),
  (104, ix_iload 6 106),
  (106, ix_push (vi 1) 107),
  (107, ix_cmp (fun x y => x < y) 139 110),
  (110, ix_aload 0 111),
  (111, ix_getr 6 20 (fun k => k + 3) 114),
  (114, ix_iload 6 116),
  (116, ix_push (vi 1) 117),
  (117, ix_bin (fun x y => x - y) 118),
  (118, ix_aload 0 119),
  (119, ix_getr 6 20 (fun k => k + 3) 122),
  (122, ix_iload 6 124),
  (124, ix_push (vi 1) 125),
  (125, ix_bin (fun x y => x - y) 126),
  (126, ix_iald 127),
  (127, ix_if (fun x => x = 0) 130 134),
  (130, ix_push (vi 1) 131),
  (131, ix_goto 135),
  (134, ix_push (vi 0) 135),
  (135, ix_iast 136),
  (136, ix_goto 419),
  (139, ix_iload 6 141),
  (141, ix_push (vi 2) 142),
  (142, ix_cmp (fun x y => x < y) 419 145),
  (145, ix_iinc 6 (-1) 148),
  (148, ix_aload 0 149),
  (149, ix_getr 6 20 (fun k => k + 3) 152),
  (152, ix_iload 6 154),
  (154, ix_push (vi 1) 155),
  (155, ix_bin (fun x y => x - y) 156),
  (156, ix_iald 157),
  (157, ix_istore 9 159),
  (159, ix_aload 0 160),
  (160, ix_getr 6 20 (fun k => k + 3) 163),
  (163, ix_iload 6 165),
  (165, ix_iald 166),
  (166, ix_istore 10 168),
  (168, ix_iload 8 170),
  (170, ix_un (fun x => -x) 171),
  (171, ix_switch [(38, 272), (42, 363), (43, 343), (45, 353), (47, 373), (60, 292), (61, 309), (62, 326), (124, 252)] 392),
  (252, ix_iload 9 254),
  (254, ix_if (fun x => x = 0) 257 262),
  (257, ix_iload 10 259),
  (259, ix_if (fun x => x = 0) 266 262),
  (262, ix_push (vi 1) 263),
  (263, ix_goto 267),
  (266, ix_push (vi 0) 267),
  (267, ix_istore 9 269),
  (269, ix_goto 408),
  (272, ix_iload 9 274),
  (274, ix_if (fun x => x = 0) 286 277),
  (277, ix_iload 10 279),
  (279, ix_if (fun x => x = 0) 286 282),
  (282, ix_push (vi 1) 283),
  (283, ix_goto 287),
  (286, ix_push (vi 0) 287),
  (287, ix_istore 9 289),
  (289, ix_goto 408),
  (292, ix_iload 9 294),
  (294, ix_iload 10 296),
  (296, ix_cmp (fun x y => y ≤ x) 303 299),
  (299, ix_push (vi 1) 300),
  (300, ix_goto 304),
  (303, ix_push (vi 0) 304),
  (304, ix_istore 9 306),
  (306, ix_goto 408),
  (309, ix_iload 9 311),
  (311, ix_iload 10 313),
  (313, ix_cmp (fun x y => x = y) 316 320),
  (316, ix_push (vi 1) 317),
  (317, ix_goto 321),
  (320, ix_push (vi 0) 321),
  (321, ix_istore 9 323),
  (323, ix_goto 408),
  (326, ix_iload 9 328),
  (328, ix_iload 10 330),
  (330, ix_cmp (fun x y => x ≤ y) 337 333),
  (333, ix_push (vi 1) 334),
  (334, ix_goto 338),
  (337, ix_push (vi 0) 338),
  (338, ix_istore 9 340),
  (340, ix_goto 408),
  (343, ix_iload 9 345),
  (345, ix_iload 10 347),
  (347, ix_bin (fun x y => x + y) 348),
  (348, ix_istore 9 350),
  (350, ix_goto 408),
  (353, ix_iload 9 355),
  (355, ix_iload 10 357),
  (357, ix_bin (fun x y => x - y) 358),
  (358, ix_istore 9 360),
  (360, ix_goto 408),
  (363, ix_iload 9 365),
  (365, ix_iload 10 367),
  (367, ix_bin (fun x y => x * y) 368),
  (368, ix_istore 9 370),
  (370, ix_goto 408),
  (373, ix_iload 10 375),
  (375, ix_if (fun x => x = 0) 378 382),
  (378, ix_push (vi 0) 379),
  (379, ix_goto 387),
  (382, ix_iload 9 384),
  (384, ix_iload 10 386),
  (386, ix_div (fun x y => x / y) 387),
  (387, ix_istore 9 389),
  (389, ix_goto 408),
  (392, ix_iload 10 394),
  (394, ix_if (fun x => x = 0) 397 401),
  (397, ix_push (vi 0) 398),
  (398, ix_goto 406),
  (401, ix_iload 9 403),
  (403, ix_iload 10 405),
  (405, ix_div (fun x y => x - x / y * y) 406),
  (406, ix_istore 9 408),
  (408, ix_aload 0 409),
  (409, ix_getr 6 20 (fun k => k + 3) 412),
  (412, ix_iload 6 414),
  (414, ix_push (vi 1) 415),
  (415, ix_bin (fun x y => x - y) 416),
  (416, ix_iload 9 418),
  (418, ix_iast 419),
  (419, ix_iinc 7 1 422),
  (422, ix_goto 24),
  (425, ix_iload 6 427),
  (427, ix_push (vi 1) 428),
  (428, ix_cmp (fun x y => x < y) 443 431),
  (431, ix_aload 0 432),
  (432, ix_getr 6 20 (fun k => k + 3) 435),
  (435, ix_iload 6 437),
  (437, ix_push (vi 1) 438),
  (438, ix_bin (fun x y => x - y) 439),
  (439, ix_iald 440),
  (440, ix_goto 444),
  (443, ix_push (vi 0) 444),
  (444, ix_iret)]
set_option maxRecDepth 20000 in
theorem a_X7_value (l : Launch) : ix_AllS l cX7_value 11 RX7 1 (some .int) o_X7_value :=
  .cons (ix_s_aload_n dX7_value_0 rfl) <|
  .cons (ix_s_getr (j := 0) tu_X7 rfl (by decide) (by decide) tw_119 rfl ts_6_0_r dX7_value_1) <|
  .cons (ix_s_getr (j := 0) tu_X4 rfl (by decide) (by decide) tw_106 rfl ts_3_0_r dX7_value_4) <|
  .cons (ix_s_astore dX7_value_7 (by decide)) <|
  .cons (ix_s_aload_n dX7_value_9 rfl) <|
  .cons (ix_s_getr (j := 0) tu_X7 rfl (by decide) (by decide) tw_119 rfl ts_6_0_r dX7_value_10) <|
  .cons (ix_s_geti (j := 1) tu_X4 rfl (by decide) (by decide) tw_110 rfl ts_3_1_i dX7_value_13) <|
  .cons (ix_s_istore dX7_value_16 (by decide)) <|
  .cons (ix_s_iconst dX7_value_18 (by decide +kernel)) <|
  .cons (ix_s_istore dX7_value_19 (by decide)) <|
  .cons (ix_s_iconst dX7_value_21 (by decide +kernel)) <|
  .cons (ix_s_istore dX7_value_22 (by decide)) <|
  .cons (ix_s_iload dX7_value_24) <|
  .cons (ix_s_iload dX7_value_26) <|
  .cons (ix_s_cmp_ge dX7_value_28 (by decide)) <|
  .cons (ix_s_aload dX7_value_31) <|
  .cons (ix_s_iload dX7_value_33) <|
  .cons (ix_s_iald dX7_value_35) <|
  .cons (ix_s_istore dX7_value_36 (by decide)) <|
  .cons (ix_s_iload dX7_value_38) <|
  .cons (ix_s_bipush dX7_value_40 (by decide +kernel)) <|
  .cons (ix_s_cmp_lt dX7_value_42 (by decide)) <|
  .cons (ix_s_iload dX7_value_45) <|
  .cons (ix_s_bipush dX7_value_47 (by decide +kernel)) <|
  .cons (ix_s_cmp_ge dX7_value_49 (by decide)) <|
  .cons (ix_s_aload_n dX7_value_52 rfl) <|
  .cons (ix_s_getr (j := 1) tu_X7 rfl (by decide) (by decide) tw_121 rfl ts_6_1_r dX7_value_53) <|
  .cons (ix_s_iload dX7_value_56) <|
  .cons (ix_s_iload dX7_value_58) <|
  .cons (ix_s_if_lt dX7_value_60 (by decide)) <|
  .cons (ix_s_iload dX7_value_63) <|
  .cons (ix_s_goto dX7_value_65 (by decide)) <|
  .cons (ix_s_iload dX7_value_68) <|
  .cons (ix_s_iconst dX7_value_70 (by decide +kernel)) <|
  .cons (ix_s_cmp_ne dX7_value_71 (by decide)) <|
  .cons (ix_s_iload_n dX7_value_74 rfl) <|
  .cons (ix_s_goto dX7_value_75 (by decide)) <|
  .cons (ix_s_iload dX7_value_78) <|
  .cons (ix_s_bipush dX7_value_80 (by decide +kernel)) <|
  .cons (ix_s_cmp_ne dX7_value_82 (by decide)) <|
  .cons (ix_s_iload_n dX7_value_85 rfl) <|
  .cons (ix_s_goto dX7_value_86 (by decide)) <|
  .cons (ix_s_iload_n dX7_value_89 rfl) <|
  .cons (ix_s_iast dX7_value_90) <|
  .cons (ix_s_iinc dX7_value_91 (by decide +kernel) (by decide)) <|
  .cons (ix_s_goto dX7_value_94 (by decide)) <|
  .cons (ix_s_iload dX7_value_97) <|
  .cons (ix_s_bipush dX7_value_99 (by decide +kernel)) <|
  .cons (ix_s_cmp_ne dX7_value_101 (by decide)) <|
  .cons (ix_s_iload dX7_value_104) <|
  .cons (ix_s_iconst dX7_value_106 (by decide +kernel)) <|
  .cons (ix_s_cmp_lt dX7_value_107 (by decide)) <|
  .cons (ix_s_aload_n dX7_value_110 rfl) <|
  .cons (ix_s_getr (j := 1) tu_X7 rfl (by decide) (by decide) tw_121 rfl ts_6_1_r dX7_value_111) <|
  .cons (ix_s_iload dX7_value_114) <|
  .cons (ix_s_iconst dX7_value_116 (by decide +kernel)) <|
  .cons (ix_s_isub dX7_value_117) <|
  .cons (ix_s_aload_n dX7_value_118 rfl) <|
  .cons (ix_s_getr (j := 1) tu_X7 rfl (by decide) (by decide) tw_121 rfl ts_6_1_r dX7_value_119) <|
  .cons (ix_s_iload dX7_value_122) <|
  .cons (ix_s_iconst dX7_value_124 (by decide +kernel)) <|
  .cons (ix_s_isub dX7_value_125) <|
  .cons (ix_s_iald dX7_value_126) <|
  .cons (ix_s_if_ne dX7_value_127 (by decide)) <|
  .cons (ix_s_iconst dX7_value_130 (by decide +kernel)) <|
  .cons (ix_s_goto dX7_value_131 (by decide)) <|
  .cons (ix_s_iconst dX7_value_134 (by decide +kernel)) <|
  .cons (ix_s_iast dX7_value_135) <|
  .cons (ix_s_goto dX7_value_136 (by decide)) <|
  .cons (ix_s_iload dX7_value_139) <|
  .cons (ix_s_iconst dX7_value_141 (by decide +kernel)) <|
  .cons (ix_s_cmp_lt dX7_value_142 (by decide)) <|
  .cons (ix_s_iinc dX7_value_145 (by decide +kernel) (by decide)) <|
  .cons (ix_s_aload_n dX7_value_148 rfl) <|
  .cons (ix_s_getr (j := 1) tu_X7 rfl (by decide) (by decide) tw_121 rfl ts_6_1_r dX7_value_149) <|
  .cons (ix_s_iload dX7_value_152) <|
  .cons (ix_s_iconst dX7_value_154 (by decide +kernel)) <|
  .cons (ix_s_isub dX7_value_155) <|
  .cons (ix_s_iald dX7_value_156) <|
  .cons (ix_s_istore dX7_value_157 (by decide)) <|
  .cons (ix_s_aload_n dX7_value_159 rfl) <|
  .cons (ix_s_getr (j := 1) tu_X7 rfl (by decide) (by decide) tw_121 rfl ts_6_1_r dX7_value_160) <|
  .cons (ix_s_iload dX7_value_163) <|
  .cons (ix_s_iald dX7_value_165) <|
  .cons (ix_s_istore dX7_value_166 (by decide)) <|
  .cons (ix_s_iload dX7_value_168) <|
  .cons (ix_s_ineg dX7_value_170) <|
  .cons (ix_s_lkp dX7_value_171 (by decide) (by decide +kernel) rfl (by decide +kernel)) <|
  .cons (ix_s_iload dX7_value_252) <|
  .cons (ix_s_if_ne dX7_value_254 (by decide)) <|
  .cons (ix_s_iload dX7_value_257) <|
  .cons (ix_s_if_eq dX7_value_259 (by decide)) <|
  .cons (ix_s_iconst dX7_value_262 (by decide +kernel)) <|
  .cons (ix_s_goto dX7_value_263 (by decide)) <|
  .cons (ix_s_iconst dX7_value_266 (by decide +kernel)) <|
  .cons (ix_s_istore dX7_value_267 (by decide)) <|
  .cons (ix_s_goto dX7_value_269 (by decide)) <|
  .cons (ix_s_iload dX7_value_272) <|
  .cons (ix_s_if_eq dX7_value_274 (by decide)) <|
  .cons (ix_s_iload dX7_value_277) <|
  .cons (ix_s_if_eq dX7_value_279 (by decide)) <|
  .cons (ix_s_iconst dX7_value_282 (by decide +kernel)) <|
  .cons (ix_s_goto dX7_value_283 (by decide)) <|
  .cons (ix_s_iconst dX7_value_286 (by decide +kernel)) <|
  .cons (ix_s_istore dX7_value_287 (by decide)) <|
  .cons (ix_s_goto dX7_value_289 (by decide)) <|
  .cons (ix_s_iload dX7_value_292) <|
  .cons (ix_s_iload dX7_value_294) <|
  .cons (ix_s_cmp_ge dX7_value_296 (by decide)) <|
  .cons (ix_s_iconst dX7_value_299 (by decide +kernel)) <|
  .cons (ix_s_goto dX7_value_300 (by decide)) <|
  .cons (ix_s_iconst dX7_value_303 (by decide +kernel)) <|
  .cons (ix_s_istore dX7_value_304 (by decide)) <|
  .cons (ix_s_goto dX7_value_306 (by decide)) <|
  .cons (ix_s_iload dX7_value_309) <|
  .cons (ix_s_iload dX7_value_311) <|
  .cons (ix_s_cmp_ne dX7_value_313 (by decide)) <|
  .cons (ix_s_iconst dX7_value_316 (by decide +kernel)) <|
  .cons (ix_s_goto dX7_value_317 (by decide)) <|
  .cons (ix_s_iconst dX7_value_320 (by decide +kernel)) <|
  .cons (ix_s_istore dX7_value_321 (by decide)) <|
  .cons (ix_s_goto dX7_value_323 (by decide)) <|
  .cons (ix_s_iload dX7_value_326) <|
  .cons (ix_s_iload dX7_value_328) <|
  .cons (ix_s_cmp_le dX7_value_330 (by decide)) <|
  .cons (ix_s_iconst dX7_value_333 (by decide +kernel)) <|
  .cons (ix_s_goto dX7_value_334 (by decide)) <|
  .cons (ix_s_iconst dX7_value_337 (by decide +kernel)) <|
  .cons (ix_s_istore dX7_value_338 (by decide)) <|
  .cons (ix_s_goto dX7_value_340 (by decide)) <|
  .cons (ix_s_iload dX7_value_343) <|
  .cons (ix_s_iload dX7_value_345) <|
  .cons (ix_s_iadd dX7_value_347) <|
  .cons (ix_s_istore dX7_value_348 (by decide)) <|
  .cons (ix_s_goto dX7_value_350 (by decide)) <|
  .cons (ix_s_iload dX7_value_353) <|
  .cons (ix_s_iload dX7_value_355) <|
  .cons (ix_s_isub dX7_value_357) <|
  .cons (ix_s_istore dX7_value_358 (by decide)) <|
  .cons (ix_s_goto dX7_value_360 (by decide)) <|
  .cons (ix_s_iload dX7_value_363) <|
  .cons (ix_s_iload dX7_value_365) <|
  .cons (ix_s_imul dX7_value_367) <|
  .cons (ix_s_istore dX7_value_368 (by decide)) <|
  .cons (ix_s_goto dX7_value_370 (by decide)) <|
  .cons (ix_s_iload dX7_value_373) <|
  .cons (ix_s_if_ne dX7_value_375 (by decide)) <|
  .cons (ix_s_iconst dX7_value_378 (by decide +kernel)) <|
  .cons (ix_s_goto dX7_value_379 (by decide)) <|
  .cons (ix_s_iload dX7_value_382) <|
  .cons (ix_s_iload dX7_value_384) <|
  .cons (ix_s_idiv dX7_value_386) <|
  .cons (ix_s_istore dX7_value_387 (by decide)) <|
  .cons (ix_s_goto dX7_value_389 (by decide)) <|
  .cons (ix_s_iload dX7_value_392) <|
  .cons (ix_s_if_ne dX7_value_394 (by decide)) <|
  .cons (ix_s_iconst dX7_value_397 (by decide +kernel)) <|
  .cons (ix_s_goto dX7_value_398 (by decide)) <|
  .cons (ix_s_iload dX7_value_401) <|
  .cons (ix_s_iload dX7_value_403) <|
  .cons (ix_s_irem dX7_value_405) <|
  .cons (ix_s_istore dX7_value_406 (by decide)) <|
  .cons (ix_s_aload_n dX7_value_408 rfl) <|
  .cons (ix_s_getr (j := 1) tu_X7 rfl (by decide) (by decide) tw_121 rfl ts_6_1_r dX7_value_409) <|
  .cons (ix_s_iload dX7_value_412) <|
  .cons (ix_s_iconst dX7_value_414 (by decide +kernel)) <|
  .cons (ix_s_isub dX7_value_415) <|
  .cons (ix_s_iload dX7_value_416) <|
  .cons (ix_s_iast dX7_value_418) <|
  .cons (ix_s_iinc dX7_value_419 (by decide +kernel) (by decide)) <|
  .cons (ix_s_goto dX7_value_422 (by decide)) <|
  .cons (ix_s_iload dX7_value_425) <|
  .cons (ix_s_iconst dX7_value_427 (by decide +kernel)) <|
  .cons (ix_s_cmp_lt dX7_value_428 (by decide)) <|
  .cons (ix_s_aload_n dX7_value_431 rfl) <|
  .cons (ix_s_getr (j := 1) tu_X7 rfl (by decide) (by decide) tw_121 rfl ts_6_1_r dX7_value_432) <|
  .cons (ix_s_iload dX7_value_435) <|
  .cons (ix_s_iconst dX7_value_437 (by decide +kernel)) <|
  .cons (ix_s_isub dX7_value_438) <|
  .cons (ix_s_iald dX7_value_439) <|
  .cons (ix_s_goto dX7_value_440 (by decide)) <|
  .cons (ix_s_iconst dX7_value_443 (by decide +kernel)) <|
  .cons (ix_s_iret dX7_value_444 rfl) <| .nil
set_option maxRecDepth 20000 in
theorem e_X7_value_0 (Q : ix_R → Prop) (ls : ix_L) (st : List ix_V) (μ : ix_M) : ix_Ev o_X7_value Q (0, ls, st, μ) = ix_aload 0 1 (ix_Ev o_X7_value Q) Q ls st μ := ix_Ev.eq (a_X7_value launch0) rfl ls st μ
set_option maxRecDepth 20000 in
theorem e_X7_value_1 (Q : ix_R → Prop) (ls : ix_L) (st : List ix_V) (μ : ix_M) : ix_Ev o_X7_value Q (1, ls, st, μ) = ix_getr 6 3 (fun k => k + 1) 4 (ix_Ev o_X7_value Q) Q ls st μ := ix_Ev.eq (a_X7_value launch0) rfl ls st μ
set_option maxRecDepth 20000 in
theorem e_X7_value_4 (Q : ix_R → Prop) (ls : ix_L) (st : List ix_V) (μ : ix_M) : ix_Ev o_X7_value Q (4, ls, st, μ) = ix_getr 3 20 (fun k => k + 1) 7 (ix_Ev o_X7_value Q) Q ls st μ := ix_Ev.eq (a_X7_value launch0) rfl ls st μ
set_option maxRecDepth 20000 in
theorem e_X7_value_7 (Q : ix_R → Prop) (ls : ix_L) (st : List ix_V) (μ : ix_M) : ix_Ev o_X7_value Q (7, ls, st, μ) = ix_astore 4 9 (ix_Ev o_X7_value Q) Q ls st μ := ix_Ev.eq (a_X7_value launch0) rfl ls st μ
set_option maxRecDepth 20000 in
theorem e_X7_value_9 (Q : ix_R → Prop) (ls : ix_L) (st : List ix_V) (μ : ix_M) : ix_Ev o_X7_value Q (9, ls, st, μ) = ix_aload 0 10 (ix_Ev o_X7_value Q) Q ls st μ := ix_Ev.eq (a_X7_value launch0) rfl ls st μ
set_option maxRecDepth 20000 in
theorem e_X7_value_10 (Q : ix_R → Prop) (ls : ix_L) (st : List ix_V) (μ : ix_M) : ix_Ev o_X7_value Q (10, ls, st, μ) = ix_getr 6 3 (fun k => k + 1) 13 (ix_Ev o_X7_value Q) Q ls st μ := ix_Ev.eq (a_X7_value launch0) rfl ls st μ
set_option maxRecDepth 20000 in
theorem e_X7_value_13 (Q : ix_R → Prop) (ls : ix_L) (st : List ix_V) (μ : ix_M) : ix_Ev o_X7_value Q (13, ls, st, μ) = ix_geti 3 1 16 (ix_Ev o_X7_value Q) Q ls st μ := ix_Ev.eq (a_X7_value launch0) rfl ls st μ
set_option maxRecDepth 20000 in
theorem e_X7_value_16 (Q : ix_R → Prop) (ls : ix_L) (st : List ix_V) (μ : ix_M) : ix_Ev o_X7_value Q (16, ls, st, μ) = ix_istore 5 18 (ix_Ev o_X7_value Q) Q ls st μ := ix_Ev.eq (a_X7_value launch0) rfl ls st μ
set_option maxRecDepth 20000 in
theorem e_X7_value_18 (Q : ix_R → Prop) (ls : ix_L) (st : List ix_V) (μ : ix_M) : ix_Ev o_X7_value Q (18, ls, st, μ) = ix_push (vi 0) 19 (ix_Ev o_X7_value Q) Q ls st μ := ix_Ev.eq (a_X7_value launch0) rfl ls st μ
set_option maxRecDepth 20000 in
theorem e_X7_value_19 (Q : ix_R → Prop) (ls : ix_L) (st : List ix_V) (μ : ix_M) : ix_Ev o_X7_value Q (19, ls, st, μ) = ix_istore 6 21 (ix_Ev o_X7_value Q) Q ls st μ := ix_Ev.eq (a_X7_value launch0) rfl ls st μ
set_option maxRecDepth 20000 in
theorem e_X7_value_21 (Q : ix_R → Prop) (ls : ix_L) (st : List ix_V) (μ : ix_M) : ix_Ev o_X7_value Q (21, ls, st, μ) = ix_push (vi 0) 22 (ix_Ev o_X7_value Q) Q ls st μ := ix_Ev.eq (a_X7_value launch0) rfl ls st μ
set_option maxRecDepth 20000 in
theorem e_X7_value_22 (Q : ix_R → Prop) (ls : ix_L) (st : List ix_V) (μ : ix_M) : ix_Ev o_X7_value Q (22, ls, st, μ) = ix_istore 7 24 (ix_Ev o_X7_value Q) Q ls st μ := ix_Ev.eq (a_X7_value launch0) rfl ls st μ
set_option maxRecDepth 20000 in
theorem e_X7_value_24 (Q : ix_R → Prop) (ls : ix_L) (st : List ix_V) (μ : ix_M) : ix_Ev o_X7_value Q (24, ls, st, μ) = ix_iload 7 26 (ix_Ev o_X7_value Q) Q ls st μ := ix_Ev.eq (a_X7_value launch0) rfl ls st μ
set_option maxRecDepth 20000 in
theorem e_X7_value_26 (Q : ix_R → Prop) (ls : ix_L) (st : List ix_V) (μ : ix_M) : ix_Ev o_X7_value Q (26, ls, st, μ) = ix_iload 5 28 (ix_Ev o_X7_value Q) Q ls st μ := ix_Ev.eq (a_X7_value launch0) rfl ls st μ
set_option maxRecDepth 20000 in
theorem e_X7_value_28 (Q : ix_R → Prop) (ls : ix_L) (st : List ix_V) (μ : ix_M) : ix_Ev o_X7_value Q (28, ls, st, μ) = ix_cmp (fun x y => y ≤ x) 425 31 (ix_Ev o_X7_value Q) Q ls st μ := ix_Ev.eq (a_X7_value launch0) rfl ls st μ
set_option maxRecDepth 20000 in
theorem e_X7_value_31 (Q : ix_R → Prop) (ls : ix_L) (st : List ix_V) (μ : ix_M) : ix_Ev o_X7_value Q (31, ls, st, μ) = ix_aload 4 33 (ix_Ev o_X7_value Q) Q ls st μ := ix_Ev.eq (a_X7_value launch0) rfl ls st μ
set_option maxRecDepth 20000 in
theorem e_X7_value_33 (Q : ix_R → Prop) (ls : ix_L) (st : List ix_V) (μ : ix_M) : ix_Ev o_X7_value Q (33, ls, st, μ) = ix_iload 7 35 (ix_Ev o_X7_value Q) Q ls st μ := ix_Ev.eq (a_X7_value launch0) rfl ls st μ
set_option maxRecDepth 20000 in
theorem e_X7_value_35 (Q : ix_R → Prop) (ls : ix_L) (st : List ix_V) (μ : ix_M) : ix_Ev o_X7_value Q (35, ls, st, μ) = ix_iald 36 (ix_Ev o_X7_value Q) Q ls st μ := ix_Ev.eq (a_X7_value launch0) rfl ls st μ
set_option maxRecDepth 20000 in
theorem e_X7_value_36 (Q : ix_R → Prop) (ls : ix_L) (st : List ix_V) (μ : ix_M) : ix_Ev o_X7_value Q (36, ls, st, μ) = ix_istore 8 38 (ix_Ev o_X7_value Q) Q ls st μ := ix_Ev.eq (a_X7_value launch0) rfl ls st μ
set_option maxRecDepth 20000 in
theorem e_X7_value_38 (Q : ix_R → Prop) (ls : ix_L) (st : List ix_V) (μ : ix_M) : ix_Ev o_X7_value Q (38, ls, st, μ) = ix_iload 8 40 (ix_Ev o_X7_value Q) Q ls st μ := ix_Ev.eq (a_X7_value launch0) rfl ls st μ
set_option maxRecDepth 20000 in
theorem e_X7_value_40 (Q : ix_R → Prop) (ls : ix_L) (st : List ix_V) (μ : ix_M) : ix_Ev o_X7_value Q (40, ls, st, μ) = ix_push (vi (-3)) 42 (ix_Ev o_X7_value Q) Q ls st μ := ix_Ev.eq (a_X7_value launch0) rfl ls st μ
set_option maxRecDepth 20000 in
theorem e_X7_value_42 (Q : ix_R → Prop) (ls : ix_L) (st : List ix_V) (μ : ix_M) : ix_Ev o_X7_value Q (42, ls, st, μ) = ix_cmp (fun x y => x < y) 97 45 (ix_Ev o_X7_value Q) Q ls st μ := ix_Ev.eq (a_X7_value launch0) rfl ls st μ
set_option maxRecDepth 20000 in
theorem e_X7_value_45 (Q : ix_R → Prop) (ls : ix_L) (st : List ix_V) (μ : ix_M) : ix_Ev o_X7_value Q (45, ls, st, μ) = ix_iload 6 47 (ix_Ev o_X7_value Q) Q ls st μ := ix_Ev.eq (a_X7_value launch0) rfl ls st μ
set_option maxRecDepth 20000 in
theorem e_X7_value_47 (Q : ix_R → Prop) (ls : ix_L) (st : List ix_V) (μ : ix_M) : ix_Ev o_X7_value Q (47, ls, st, μ) = ix_push (vi 50) 49 (ix_Ev o_X7_value Q) Q ls st μ := ix_Ev.eq (a_X7_value launch0) rfl ls st μ
set_option maxRecDepth 20000 in
theorem e_X7_value_49 (Q : ix_R → Prop) (ls : ix_L) (st : List ix_V) (μ : ix_M) : ix_Ev o_X7_value Q (49, ls, st, μ) = ix_cmp (fun x y => y ≤ x) 97 52 (ix_Ev o_X7_value Q) Q ls st μ := ix_Ev.eq (a_X7_value launch0) rfl ls st μ
set_option maxRecDepth 20000 in
theorem e_X7_value_52 (Q : ix_R → Prop) (ls : ix_L) (st : List ix_V) (μ : ix_M) : ix_Ev o_X7_value Q (52, ls, st, μ) = ix_aload 0 53 (ix_Ev o_X7_value Q) Q ls st μ := ix_Ev.eq (a_X7_value launch0) rfl ls st μ
set_option maxRecDepth 20000 in
theorem e_X7_value_53 (Q : ix_R → Prop) (ls : ix_L) (st : List ix_V) (μ : ix_M) : ix_Ev o_X7_value Q (53, ls, st, μ) = ix_getr 6 20 (fun k => k + 3) 56 (ix_Ev o_X7_value Q) Q ls st μ := ix_Ev.eq (a_X7_value launch0) rfl ls st μ
set_option maxRecDepth 20000 in
theorem e_X7_value_56 (Q : ix_R → Prop) (ls : ix_L) (st : List ix_V) (μ : ix_M) : ix_Ev o_X7_value Q (56, ls, st, μ) = ix_iload 6 58 (ix_Ev o_X7_value Q) Q ls st μ := ix_Ev.eq (a_X7_value launch0) rfl ls st μ
set_option maxRecDepth 20000 in
theorem e_X7_value_58 (Q : ix_R → Prop) (ls : ix_L) (st : List ix_V) (μ : ix_M) : ix_Ev o_X7_value Q (58, ls, st, μ) = ix_iload 8 60 (ix_Ev o_X7_value Q) Q ls st μ := ix_Ev.eq (a_X7_value launch0) rfl ls st μ
set_option maxRecDepth 20000 in
theorem e_X7_value_60 (Q : ix_R → Prop) (ls : ix_L) (st : List ix_V) (μ : ix_M) : ix_Ev o_X7_value Q (60, ls, st, μ) = ix_if (fun x => x < 0) 68 63 (ix_Ev o_X7_value Q) Q ls st μ := ix_Ev.eq (a_X7_value launch0) rfl ls st μ
set_option maxRecDepth 20000 in
theorem e_X7_value_63 (Q : ix_R → Prop) (ls : ix_L) (st : List ix_V) (μ : ix_M) : ix_Ev o_X7_value Q (63, ls, st, μ) = ix_iload 8 65 (ix_Ev o_X7_value Q) Q ls st μ := ix_Ev.eq (a_X7_value launch0) rfl ls st μ
set_option maxRecDepth 20000 in
theorem e_X7_value_65 (Q : ix_R → Prop) (ls : ix_L) (st : List ix_V) (μ : ix_M) : ix_Ev o_X7_value Q (65, ls, st, μ) = ix_goto 90 (ix_Ev o_X7_value Q) Q ls st μ := ix_Ev.eq (a_X7_value launch0) rfl ls st μ
set_option maxRecDepth 20000 in
theorem e_X7_value_68 (Q : ix_R → Prop) (ls : ix_L) (st : List ix_V) (μ : ix_M) : ix_Ev o_X7_value Q (68, ls, st, μ) = ix_iload 8 70 (ix_Ev o_X7_value Q) Q ls st μ := ix_Ev.eq (a_X7_value launch0) rfl ls st μ
set_option maxRecDepth 20000 in
theorem e_X7_value_70 (Q : ix_R → Prop) (ls : ix_L) (st : List ix_V) (μ : ix_M) : ix_Ev o_X7_value Q (70, ls, st, μ) = ix_push (vi (-1)) 71 (ix_Ev o_X7_value Q) Q ls st μ := ix_Ev.eq (a_X7_value launch0) rfl ls st μ
set_option maxRecDepth 20000 in
theorem e_X7_value_71 (Q : ix_R → Prop) (ls : ix_L) (st : List ix_V) (μ : ix_M) : ix_Ev o_X7_value Q (71, ls, st, μ) = ix_cmp (fun x y => x = y) 74 78 (ix_Ev o_X7_value Q) Q ls st μ := ix_Ev.eq (a_X7_value launch0) rfl ls st μ
set_option maxRecDepth 20000 in
theorem e_X7_value_74 (Q : ix_R → Prop) (ls : ix_L) (st : List ix_V) (μ : ix_M) : ix_Ev o_X7_value Q (74, ls, st, μ) = ix_iload 1 75 (ix_Ev o_X7_value Q) Q ls st μ := ix_Ev.eq (a_X7_value launch0) rfl ls st μ
set_option maxRecDepth 20000 in
theorem e_X7_value_75 (Q : ix_R → Prop) (ls : ix_L) (st : List ix_V) (μ : ix_M) : ix_Ev o_X7_value Q (75, ls, st, μ) = ix_goto 90 (ix_Ev o_X7_value Q) Q ls st μ := ix_Ev.eq (a_X7_value launch0) rfl ls st μ
set_option maxRecDepth 20000 in
theorem e_X7_value_78 (Q : ix_R → Prop) (ls : ix_L) (st : List ix_V) (μ : ix_M) : ix_Ev o_X7_value Q (78, ls, st, μ) = ix_iload 8 80 (ix_Ev o_X7_value Q) Q ls st μ := ix_Ev.eq (a_X7_value launch0) rfl ls st μ
set_option maxRecDepth 20000 in
theorem e_X7_value_80 (Q : ix_R → Prop) (ls : ix_L) (st : List ix_V) (μ : ix_M) : ix_Ev o_X7_value Q (80, ls, st, μ) = ix_push (vi (-2)) 82 (ix_Ev o_X7_value Q) Q ls st μ := ix_Ev.eq (a_X7_value launch0) rfl ls st μ
set_option maxRecDepth 20000 in
theorem e_X7_value_82 (Q : ix_R → Prop) (ls : ix_L) (st : List ix_V) (μ : ix_M) : ix_Ev o_X7_value Q (82, ls, st, μ) = ix_cmp (fun x y => x = y) 85 89 (ix_Ev o_X7_value Q) Q ls st μ := ix_Ev.eq (a_X7_value launch0) rfl ls st μ
set_option maxRecDepth 20000 in
theorem e_X7_value_85 (Q : ix_R → Prop) (ls : ix_L) (st : List ix_V) (μ : ix_M) : ix_Ev o_X7_value Q (85, ls, st, μ) = ix_iload 2 86 (ix_Ev o_X7_value Q) Q ls st μ := ix_Ev.eq (a_X7_value launch0) rfl ls st μ
set_option maxRecDepth 20000 in
theorem e_X7_value_86 (Q : ix_R → Prop) (ls : ix_L) (st : List ix_V) (μ : ix_M) : ix_Ev o_X7_value Q (86, ls, st, μ) = ix_goto 90 (ix_Ev o_X7_value Q) Q ls st μ := ix_Ev.eq (a_X7_value launch0) rfl ls st μ
set_option maxRecDepth 20000 in
theorem e_X7_value_89 (Q : ix_R → Prop) (ls : ix_L) (st : List ix_V) (μ : ix_M) : ix_Ev o_X7_value Q (89, ls, st, μ) = ix_iload 3 90 (ix_Ev o_X7_value Q) Q ls st μ := ix_Ev.eq (a_X7_value launch0) rfl ls st μ
set_option maxRecDepth 20000 in
theorem e_X7_value_90 (Q : ix_R → Prop) (ls : ix_L) (st : List ix_V) (μ : ix_M) : ix_Ev o_X7_value Q (90, ls, st, μ) = ix_iast 91 (ix_Ev o_X7_value Q) Q ls st μ := ix_Ev.eq (a_X7_value launch0) rfl ls st μ
set_option maxRecDepth 20000 in
theorem e_X7_value_91 (Q : ix_R → Prop) (ls : ix_L) (st : List ix_V) (μ : ix_M) : ix_Ev o_X7_value Q (91, ls, st, μ) = ix_iinc 6 1 94 (ix_Ev o_X7_value Q) Q ls st μ := ix_Ev.eq (a_X7_value launch0) rfl ls st μ
set_option maxRecDepth 20000 in
theorem e_X7_value_94 (Q : ix_R → Prop) (ls : ix_L) (st : List ix_V) (μ : ix_M) : ix_Ev o_X7_value Q (94, ls, st, μ) = ix_goto 419 (ix_Ev o_X7_value Q) Q ls st μ := ix_Ev.eq (a_X7_value launch0) rfl ls st μ
set_option maxRecDepth 20000 in
theorem e_X7_value_97 (Q : ix_R → Prop) (ls : ix_L) (st : List ix_V) (μ : ix_M) : ix_Ev o_X7_value Q (97, ls, st, μ) = ix_iload 8 99 (ix_Ev o_X7_value Q) Q ls st μ := ix_Ev.eq (a_X7_value launch0) rfl ls st μ
set_option maxRecDepth 20000 in
theorem e_X7_value_99 (Q : ix_R → Prop) (ls : ix_L) (st : List ix_V) (μ : ix_M) : ix_Ev o_X7_value Q (99, ls, st, μ) = ix_push (vi (-33)) 101 (ix_Ev o_X7_value Q) Q ls st μ := ix_Ev.eq (a_X7_value launch0) rfl ls st μ
set_option maxRecDepth 20000 in
theorem e_X7_value_101 (Q : ix_R → Prop) (ls : ix_L) (st : List ix_V) (μ : ix_M) : ix_Ev o_X7_value Q (101, ls, st, μ) = ix_cmp (fun x y => x = y) 104 139 (ix_Ev o_X7_value Q) Q ls st μ := ix_Ev.eq (a_X7_value launch0) rfl ls st μ
set_option maxRecDepth 20000 in
theorem e_X7_value_104 (Q : ix_R → Prop) (ls : ix_L) (st : List ix_V) (μ : ix_M) : ix_Ev o_X7_value Q (104, ls, st, μ) = ix_iload 6 106 (ix_Ev o_X7_value Q) Q ls st μ := ix_Ev.eq (a_X7_value launch0) rfl ls st μ
set_option maxRecDepth 20000 in
theorem e_X7_value_106 (Q : ix_R → Prop) (ls : ix_L) (st : List ix_V) (μ : ix_M) : ix_Ev o_X7_value Q (106, ls, st, μ) = ix_push (vi 1) 107 (ix_Ev o_X7_value Q) Q ls st μ := ix_Ev.eq (a_X7_value launch0) rfl ls st μ
set_option maxRecDepth 20000 in
theorem e_X7_value_107 (Q : ix_R → Prop) (ls : ix_L) (st : List ix_V) (μ : ix_M) : ix_Ev o_X7_value Q (107, ls, st, μ) = ix_cmp (fun x y => x < y) 139 110 (ix_Ev o_X7_value Q) Q ls st μ := ix_Ev.eq (a_X7_value launch0) rfl ls st μ
set_option maxRecDepth 20000 in
theorem e_X7_value_110 (Q : ix_R → Prop) (ls : ix_L) (st : List ix_V) (μ : ix_M) : ix_Ev o_X7_value Q (110, ls, st, μ) = ix_aload 0 111 (ix_Ev o_X7_value Q) Q ls st μ := ix_Ev.eq (a_X7_value launch0) rfl ls st μ
set_option maxRecDepth 20000 in
theorem e_X7_value_111 (Q : ix_R → Prop) (ls : ix_L) (st : List ix_V) (μ : ix_M) : ix_Ev o_X7_value Q (111, ls, st, μ) = ix_getr 6 20 (fun k => k + 3) 114 (ix_Ev o_X7_value Q) Q ls st μ := ix_Ev.eq (a_X7_value launch0) rfl ls st μ
set_option maxRecDepth 20000 in
theorem e_X7_value_114 (Q : ix_R → Prop) (ls : ix_L) (st : List ix_V) (μ : ix_M) : ix_Ev o_X7_value Q (114, ls, st, μ) = ix_iload 6 116 (ix_Ev o_X7_value Q) Q ls st μ := ix_Ev.eq (a_X7_value launch0) rfl ls st μ
set_option maxRecDepth 20000 in
theorem e_X7_value_116 (Q : ix_R → Prop) (ls : ix_L) (st : List ix_V) (μ : ix_M) : ix_Ev o_X7_value Q (116, ls, st, μ) = ix_push (vi 1) 117 (ix_Ev o_X7_value Q) Q ls st μ := ix_Ev.eq (a_X7_value launch0) rfl ls st μ
set_option maxRecDepth 20000 in
theorem e_X7_value_117 (Q : ix_R → Prop) (ls : ix_L) (st : List ix_V) (μ : ix_M) : ix_Ev o_X7_value Q (117, ls, st, μ) = ix_bin (fun x y => x - y) 118 (ix_Ev o_X7_value Q) Q ls st μ := ix_Ev.eq (a_X7_value launch0) rfl ls st μ
set_option maxRecDepth 20000 in
theorem e_X7_value_118 (Q : ix_R → Prop) (ls : ix_L) (st : List ix_V) (μ : ix_M) : ix_Ev o_X7_value Q (118, ls, st, μ) = ix_aload 0 119 (ix_Ev o_X7_value Q) Q ls st μ := ix_Ev.eq (a_X7_value launch0) rfl ls st μ
set_option maxRecDepth 20000 in
theorem e_X7_value_119 (Q : ix_R → Prop) (ls : ix_L) (st : List ix_V) (μ : ix_M) : ix_Ev o_X7_value Q (119, ls, st, μ) = ix_getr 6 20 (fun k => k + 3) 122 (ix_Ev o_X7_value Q) Q ls st μ := ix_Ev.eq (a_X7_value launch0) rfl ls st μ
set_option maxRecDepth 20000 in
theorem e_X7_value_122 (Q : ix_R → Prop) (ls : ix_L) (st : List ix_V) (μ : ix_M) : ix_Ev o_X7_value Q (122, ls, st, μ) = ix_iload 6 124 (ix_Ev o_X7_value Q) Q ls st μ := ix_Ev.eq (a_X7_value launch0) rfl ls st μ
set_option maxRecDepth 20000 in
theorem e_X7_value_124 (Q : ix_R → Prop) (ls : ix_L) (st : List ix_V) (μ : ix_M) : ix_Ev o_X7_value Q (124, ls, st, μ) = ix_push (vi 1) 125 (ix_Ev o_X7_value Q) Q ls st μ := ix_Ev.eq (a_X7_value launch0) rfl ls st μ
set_option maxRecDepth 20000 in
theorem e_X7_value_125 (Q : ix_R → Prop) (ls : ix_L) (st : List ix_V) (μ : ix_M) : ix_Ev o_X7_value Q (125, ls, st, μ) = ix_bin (fun x y => x - y) 126 (ix_Ev o_X7_value Q) Q ls st μ := ix_Ev.eq (a_X7_value launch0) rfl ls st μ
set_option maxRecDepth 20000 in
theorem e_X7_value_126 (Q : ix_R → Prop) (ls : ix_L) (st : List ix_V) (μ : ix_M) : ix_Ev o_X7_value Q (126, ls, st, μ) = ix_iald 127 (ix_Ev o_X7_value Q) Q ls st μ := ix_Ev.eq (a_X7_value launch0) rfl ls st μ
set_option maxRecDepth 20000 in
theorem e_X7_value_127 (Q : ix_R → Prop) (ls : ix_L) (st : List ix_V) (μ : ix_M) : ix_Ev o_X7_value Q (127, ls, st, μ) = ix_if (fun x => x = 0) 130 134 (ix_Ev o_X7_value Q) Q ls st μ := ix_Ev.eq (a_X7_value launch0) rfl ls st μ
set_option maxRecDepth 20000 in
theorem e_X7_value_130 (Q : ix_R → Prop) (ls : ix_L) (st : List ix_V) (μ : ix_M) : ix_Ev o_X7_value Q (130, ls, st, μ) = ix_push (vi 1) 131 (ix_Ev o_X7_value Q) Q ls st μ := ix_Ev.eq (a_X7_value launch0) rfl ls st μ
set_option maxRecDepth 20000 in
theorem e_X7_value_131 (Q : ix_R → Prop) (ls : ix_L) (st : List ix_V) (μ : ix_M) : ix_Ev o_X7_value Q (131, ls, st, μ) = ix_goto 135 (ix_Ev o_X7_value Q) Q ls st μ := ix_Ev.eq (a_X7_value launch0) rfl ls st μ
set_option maxRecDepth 20000 in
theorem e_X7_value_134 (Q : ix_R → Prop) (ls : ix_L) (st : List ix_V) (μ : ix_M) : ix_Ev o_X7_value Q (134, ls, st, μ) = ix_push (vi 0) 135 (ix_Ev o_X7_value Q) Q ls st μ := ix_Ev.eq (a_X7_value launch0) rfl ls st μ
set_option maxRecDepth 20000 in
theorem e_X7_value_135 (Q : ix_R → Prop) (ls : ix_L) (st : List ix_V) (μ : ix_M) : ix_Ev o_X7_value Q (135, ls, st, μ) = ix_iast 136 (ix_Ev o_X7_value Q) Q ls st μ := ix_Ev.eq (a_X7_value launch0) rfl ls st μ
set_option maxRecDepth 20000 in
theorem e_X7_value_136 (Q : ix_R → Prop) (ls : ix_L) (st : List ix_V) (μ : ix_M) : ix_Ev o_X7_value Q (136, ls, st, μ) = ix_goto 419 (ix_Ev o_X7_value Q) Q ls st μ := ix_Ev.eq (a_X7_value launch0) rfl ls st μ
set_option maxRecDepth 20000 in
theorem e_X7_value_139 (Q : ix_R → Prop) (ls : ix_L) (st : List ix_V) (μ : ix_M) : ix_Ev o_X7_value Q (139, ls, st, μ) = ix_iload 6 141 (ix_Ev o_X7_value Q) Q ls st μ := ix_Ev.eq (a_X7_value launch0) rfl ls st μ
set_option maxRecDepth 20000 in
theorem e_X7_value_141 (Q : ix_R → Prop) (ls : ix_L) (st : List ix_V) (μ : ix_M) : ix_Ev o_X7_value Q (141, ls, st, μ) = ix_push (vi 2) 142 (ix_Ev o_X7_value Q) Q ls st μ := ix_Ev.eq (a_X7_value launch0) rfl ls st μ
set_option maxRecDepth 20000 in
theorem e_X7_value_142 (Q : ix_R → Prop) (ls : ix_L) (st : List ix_V) (μ : ix_M) : ix_Ev o_X7_value Q (142, ls, st, μ) = ix_cmp (fun x y => x < y) 419 145 (ix_Ev o_X7_value Q) Q ls st μ := ix_Ev.eq (a_X7_value launch0) rfl ls st μ
set_option maxRecDepth 20000 in
theorem e_X7_value_145 (Q : ix_R → Prop) (ls : ix_L) (st : List ix_V) (μ : ix_M) : ix_Ev o_X7_value Q (145, ls, st, μ) = ix_iinc 6 (-1) 148 (ix_Ev o_X7_value Q) Q ls st μ := ix_Ev.eq (a_X7_value launch0) rfl ls st μ
set_option maxRecDepth 20000 in
theorem e_X7_value_148 (Q : ix_R → Prop) (ls : ix_L) (st : List ix_V) (μ : ix_M) : ix_Ev o_X7_value Q (148, ls, st, μ) = ix_aload 0 149 (ix_Ev o_X7_value Q) Q ls st μ := ix_Ev.eq (a_X7_value launch0) rfl ls st μ
set_option maxRecDepth 20000 in
theorem e_X7_value_149 (Q : ix_R → Prop) (ls : ix_L) (st : List ix_V) (μ : ix_M) : ix_Ev o_X7_value Q (149, ls, st, μ) = ix_getr 6 20 (fun k => k + 3) 152 (ix_Ev o_X7_value Q) Q ls st μ := ix_Ev.eq (a_X7_value launch0) rfl ls st μ
set_option maxRecDepth 20000 in
theorem e_X7_value_152 (Q : ix_R → Prop) (ls : ix_L) (st : List ix_V) (μ : ix_M) : ix_Ev o_X7_value Q (152, ls, st, μ) = ix_iload 6 154 (ix_Ev o_X7_value Q) Q ls st μ := ix_Ev.eq (a_X7_value launch0) rfl ls st μ
set_option maxRecDepth 20000 in
theorem e_X7_value_154 (Q : ix_R → Prop) (ls : ix_L) (st : List ix_V) (μ : ix_M) : ix_Ev o_X7_value Q (154, ls, st, μ) = ix_push (vi 1) 155 (ix_Ev o_X7_value Q) Q ls st μ := ix_Ev.eq (a_X7_value launch0) rfl ls st μ
set_option maxRecDepth 20000 in
theorem e_X7_value_155 (Q : ix_R → Prop) (ls : ix_L) (st : List ix_V) (μ : ix_M) : ix_Ev o_X7_value Q (155, ls, st, μ) = ix_bin (fun x y => x - y) 156 (ix_Ev o_X7_value Q) Q ls st μ := ix_Ev.eq (a_X7_value launch0) rfl ls st μ
set_option maxRecDepth 20000 in
theorem e_X7_value_156 (Q : ix_R → Prop) (ls : ix_L) (st : List ix_V) (μ : ix_M) : ix_Ev o_X7_value Q (156, ls, st, μ) = ix_iald 157 (ix_Ev o_X7_value Q) Q ls st μ := ix_Ev.eq (a_X7_value launch0) rfl ls st μ
set_option maxRecDepth 20000 in
theorem e_X7_value_157 (Q : ix_R → Prop) (ls : ix_L) (st : List ix_V) (μ : ix_M) : ix_Ev o_X7_value Q (157, ls, st, μ) = ix_istore 9 159 (ix_Ev o_X7_value Q) Q ls st μ := ix_Ev.eq (a_X7_value launch0) rfl ls st μ
set_option maxRecDepth 20000 in
theorem e_X7_value_159 (Q : ix_R → Prop) (ls : ix_L) (st : List ix_V) (μ : ix_M) : ix_Ev o_X7_value Q (159, ls, st, μ) = ix_aload 0 160 (ix_Ev o_X7_value Q) Q ls st μ := ix_Ev.eq (a_X7_value launch0) rfl ls st μ
set_option maxRecDepth 20000 in
theorem e_X7_value_160 (Q : ix_R → Prop) (ls : ix_L) (st : List ix_V) (μ : ix_M) : ix_Ev o_X7_value Q (160, ls, st, μ) = ix_getr 6 20 (fun k => k + 3) 163 (ix_Ev o_X7_value Q) Q ls st μ := ix_Ev.eq (a_X7_value launch0) rfl ls st μ
set_option maxRecDepth 20000 in
theorem e_X7_value_163 (Q : ix_R → Prop) (ls : ix_L) (st : List ix_V) (μ : ix_M) : ix_Ev o_X7_value Q (163, ls, st, μ) = ix_iload 6 165 (ix_Ev o_X7_value Q) Q ls st μ := ix_Ev.eq (a_X7_value launch0) rfl ls st μ
set_option maxRecDepth 20000 in
theorem e_X7_value_165 (Q : ix_R → Prop) (ls : ix_L) (st : List ix_V) (μ : ix_M) : ix_Ev o_X7_value Q (165, ls, st, μ) = ix_iald 166 (ix_Ev o_X7_value Q) Q ls st μ := ix_Ev.eq (a_X7_value launch0) rfl ls st μ
set_option maxRecDepth 20000 in
theorem e_X7_value_166 (Q : ix_R → Prop) (ls : ix_L) (st : List ix_V) (μ : ix_M) : ix_Ev o_X7_value Q (166, ls, st, μ) = ix_istore 10 168 (ix_Ev o_X7_value Q) Q ls st μ := ix_Ev.eq (a_X7_value launch0) rfl ls st μ
set_option maxRecDepth 20000 in
theorem e_X7_value_168 (Q : ix_R → Prop) (ls : ix_L) (st : List ix_V) (μ : ix_M) : ix_Ev o_X7_value Q (168, ls, st, μ) = ix_iload 8 170 (ix_Ev o_X7_value Q) Q ls st μ := ix_Ev.eq (a_X7_value launch0) rfl ls st μ
set_option maxRecDepth 20000 in
theorem e_X7_value_170 (Q : ix_R → Prop) (ls : ix_L) (st : List ix_V) (μ : ix_M) : ix_Ev o_X7_value Q (170, ls, st, μ) = ix_un (fun x => -x) 171 (ix_Ev o_X7_value Q) Q ls st μ := ix_Ev.eq (a_X7_value launch0) rfl ls st μ
set_option maxRecDepth 20000 in
theorem e_X7_value_171 (Q : ix_R → Prop) (ls : ix_L) (st : List ix_V) (μ : ix_M) : ix_Ev o_X7_value Q (171, ls, st, μ) = ix_switch [(38, 272), (42, 363), (43, 343), (45, 353), (47, 373), (60, 292), (61, 309), (62, 326), (124, 252)] 392 (ix_Ev o_X7_value Q) Q ls st μ := ix_Ev.eq (a_X7_value launch0) rfl ls st μ
set_option maxRecDepth 20000 in
theorem e_X7_value_252 (Q : ix_R → Prop) (ls : ix_L) (st : List ix_V) (μ : ix_M) : ix_Ev o_X7_value Q (252, ls, st, μ) = ix_iload 9 254 (ix_Ev o_X7_value Q) Q ls st μ := ix_Ev.eq (a_X7_value launch0) rfl ls st μ
set_option maxRecDepth 20000 in
theorem e_X7_value_254 (Q : ix_R → Prop) (ls : ix_L) (st : List ix_V) (μ : ix_M) : ix_Ev o_X7_value Q (254, ls, st, μ) = ix_if (fun x => x = 0) 257 262 (ix_Ev o_X7_value Q) Q ls st μ := ix_Ev.eq (a_X7_value launch0) rfl ls st μ
set_option maxRecDepth 20000 in
theorem e_X7_value_257 (Q : ix_R → Prop) (ls : ix_L) (st : List ix_V) (μ : ix_M) : ix_Ev o_X7_value Q (257, ls, st, μ) = ix_iload 10 259 (ix_Ev o_X7_value Q) Q ls st μ := ix_Ev.eq (a_X7_value launch0) rfl ls st μ
set_option maxRecDepth 20000 in
theorem e_X7_value_259 (Q : ix_R → Prop) (ls : ix_L) (st : List ix_V) (μ : ix_M) : ix_Ev o_X7_value Q (259, ls, st, μ) = ix_if (fun x => x = 0) 266 262 (ix_Ev o_X7_value Q) Q ls st μ := ix_Ev.eq (a_X7_value launch0) rfl ls st μ
set_option maxRecDepth 20000 in
theorem e_X7_value_262 (Q : ix_R → Prop) (ls : ix_L) (st : List ix_V) (μ : ix_M) : ix_Ev o_X7_value Q (262, ls, st, μ) = ix_push (vi 1) 263 (ix_Ev o_X7_value Q) Q ls st μ := ix_Ev.eq (a_X7_value launch0) rfl ls st μ
set_option maxRecDepth 20000 in
theorem e_X7_value_263 (Q : ix_R → Prop) (ls : ix_L) (st : List ix_V) (μ : ix_M) : ix_Ev o_X7_value Q (263, ls, st, μ) = ix_goto 267 (ix_Ev o_X7_value Q) Q ls st μ := ix_Ev.eq (a_X7_value launch0) rfl ls st μ
set_option maxRecDepth 20000 in
theorem e_X7_value_266 (Q : ix_R → Prop) (ls : ix_L) (st : List ix_V) (μ : ix_M) : ix_Ev o_X7_value Q (266, ls, st, μ) = ix_push (vi 0) 267 (ix_Ev o_X7_value Q) Q ls st μ := ix_Ev.eq (a_X7_value launch0) rfl ls st μ
set_option maxRecDepth 20000 in
theorem e_X7_value_267 (Q : ix_R → Prop) (ls : ix_L) (st : List ix_V) (μ : ix_M) : ix_Ev o_X7_value Q (267, ls, st, μ) = ix_istore 9 269 (ix_Ev o_X7_value Q) Q ls st μ := ix_Ev.eq (a_X7_value launch0) rfl ls st μ
set_option maxRecDepth 20000 in
theorem e_X7_value_269 (Q : ix_R → Prop) (ls : ix_L) (st : List ix_V) (μ : ix_M) : ix_Ev o_X7_value Q (269, ls, st, μ) = ix_goto 408 (ix_Ev o_X7_value Q) Q ls st μ := ix_Ev.eq (a_X7_value launch0) rfl ls st μ
set_option maxRecDepth 20000 in
theorem e_X7_value_272 (Q : ix_R → Prop) (ls : ix_L) (st : List ix_V) (μ : ix_M) : ix_Ev o_X7_value Q (272, ls, st, μ) = ix_iload 9 274 (ix_Ev o_X7_value Q) Q ls st μ := ix_Ev.eq (a_X7_value launch0) rfl ls st μ
set_option maxRecDepth 20000 in
theorem e_X7_value_274 (Q : ix_R → Prop) (ls : ix_L) (st : List ix_V) (μ : ix_M) : ix_Ev o_X7_value Q (274, ls, st, μ) = ix_if (fun x => x = 0) 286 277 (ix_Ev o_X7_value Q) Q ls st μ := ix_Ev.eq (a_X7_value launch0) rfl ls st μ
set_option maxRecDepth 20000 in
theorem e_X7_value_277 (Q : ix_R → Prop) (ls : ix_L) (st : List ix_V) (μ : ix_M) : ix_Ev o_X7_value Q (277, ls, st, μ) = ix_iload 10 279 (ix_Ev o_X7_value Q) Q ls st μ := ix_Ev.eq (a_X7_value launch0) rfl ls st μ
set_option maxRecDepth 20000 in
theorem e_X7_value_279 (Q : ix_R → Prop) (ls : ix_L) (st : List ix_V) (μ : ix_M) : ix_Ev o_X7_value Q (279, ls, st, μ) = ix_if (fun x => x = 0) 286 282 (ix_Ev o_X7_value Q) Q ls st μ := ix_Ev.eq (a_X7_value launch0) rfl ls st μ
set_option maxRecDepth 20000 in
theorem e_X7_value_282 (Q : ix_R → Prop) (ls : ix_L) (st : List ix_V) (μ : ix_M) : ix_Ev o_X7_value Q (282, ls, st, μ) = ix_push (vi 1) 283 (ix_Ev o_X7_value Q) Q ls st μ := ix_Ev.eq (a_X7_value launch0) rfl ls st μ
set_option maxRecDepth 20000 in
theorem e_X7_value_283 (Q : ix_R → Prop) (ls : ix_L) (st : List ix_V) (μ : ix_M) : ix_Ev o_X7_value Q (283, ls, st, μ) = ix_goto 287 (ix_Ev o_X7_value Q) Q ls st μ := ix_Ev.eq (a_X7_value launch0) rfl ls st μ
set_option maxRecDepth 20000 in
theorem e_X7_value_286 (Q : ix_R → Prop) (ls : ix_L) (st : List ix_V) (μ : ix_M) : ix_Ev o_X7_value Q (286, ls, st, μ) = ix_push (vi 0) 287 (ix_Ev o_X7_value Q) Q ls st μ := ix_Ev.eq (a_X7_value launch0) rfl ls st μ
set_option maxRecDepth 20000 in
theorem e_X7_value_287 (Q : ix_R → Prop) (ls : ix_L) (st : List ix_V) (μ : ix_M) : ix_Ev o_X7_value Q (287, ls, st, μ) = ix_istore 9 289 (ix_Ev o_X7_value Q) Q ls st μ := ix_Ev.eq (a_X7_value launch0) rfl ls st μ
set_option maxRecDepth 20000 in
theorem e_X7_value_289 (Q : ix_R → Prop) (ls : ix_L) (st : List ix_V) (μ : ix_M) : ix_Ev o_X7_value Q (289, ls, st, μ) = ix_goto 408 (ix_Ev o_X7_value Q) Q ls st μ := ix_Ev.eq (a_X7_value launch0) rfl ls st μ
set_option maxRecDepth 20000 in
theorem e_X7_value_292 (Q : ix_R → Prop) (ls : ix_L) (st : List ix_V) (μ : ix_M) : ix_Ev o_X7_value Q (292, ls, st, μ) = ix_iload 9 294 (ix_Ev o_X7_value Q) Q ls st μ := ix_Ev.eq (a_X7_value launch0) rfl ls st μ
set_option maxRecDepth 20000 in
theorem e_X7_value_294 (Q : ix_R → Prop) (ls : ix_L) (st : List ix_V) (μ : ix_M) : ix_Ev o_X7_value Q (294, ls, st, μ) = ix_iload 10 296 (ix_Ev o_X7_value Q) Q ls st μ := ix_Ev.eq (a_X7_value launch0) rfl ls st μ
set_option maxRecDepth 20000 in
theorem e_X7_value_296 (Q : ix_R → Prop) (ls : ix_L) (st : List ix_V) (μ : ix_M) : ix_Ev o_X7_value Q (296, ls, st, μ) = ix_cmp (fun x y => y ≤ x) 303 299 (ix_Ev o_X7_value Q) Q ls st μ := ix_Ev.eq (a_X7_value launch0) rfl ls st μ
set_option maxRecDepth 20000 in
theorem e_X7_value_299 (Q : ix_R → Prop) (ls : ix_L) (st : List ix_V) (μ : ix_M) : ix_Ev o_X7_value Q (299, ls, st, μ) = ix_push (vi 1) 300 (ix_Ev o_X7_value Q) Q ls st μ := ix_Ev.eq (a_X7_value launch0) rfl ls st μ
set_option maxRecDepth 20000 in
theorem e_X7_value_300 (Q : ix_R → Prop) (ls : ix_L) (st : List ix_V) (μ : ix_M) : ix_Ev o_X7_value Q (300, ls, st, μ) = ix_goto 304 (ix_Ev o_X7_value Q) Q ls st μ := ix_Ev.eq (a_X7_value launch0) rfl ls st μ
set_option maxRecDepth 20000 in
theorem e_X7_value_303 (Q : ix_R → Prop) (ls : ix_L) (st : List ix_V) (μ : ix_M) : ix_Ev o_X7_value Q (303, ls, st, μ) = ix_push (vi 0) 304 (ix_Ev o_X7_value Q) Q ls st μ := ix_Ev.eq (a_X7_value launch0) rfl ls st μ
set_option maxRecDepth 20000 in
theorem e_X7_value_304 (Q : ix_R → Prop) (ls : ix_L) (st : List ix_V) (μ : ix_M) : ix_Ev o_X7_value Q (304, ls, st, μ) = ix_istore 9 306 (ix_Ev o_X7_value Q) Q ls st μ := ix_Ev.eq (a_X7_value launch0) rfl ls st μ
set_option maxRecDepth 20000 in
theorem e_X7_value_306 (Q : ix_R → Prop) (ls : ix_L) (st : List ix_V) (μ : ix_M) : ix_Ev o_X7_value Q (306, ls, st, μ) = ix_goto 408 (ix_Ev o_X7_value Q) Q ls st μ := ix_Ev.eq (a_X7_value launch0) rfl ls st μ
set_option maxRecDepth 20000 in
theorem e_X7_value_309 (Q : ix_R → Prop) (ls : ix_L) (st : List ix_V) (μ : ix_M) : ix_Ev o_X7_value Q (309, ls, st, μ) = ix_iload 9 311 (ix_Ev o_X7_value Q) Q ls st μ := ix_Ev.eq (a_X7_value launch0) rfl ls st μ
set_option maxRecDepth 20000 in
theorem e_X7_value_311 (Q : ix_R → Prop) (ls : ix_L) (st : List ix_V) (μ : ix_M) : ix_Ev o_X7_value Q (311, ls, st, μ) = ix_iload 10 313 (ix_Ev o_X7_value Q) Q ls st μ := ix_Ev.eq (a_X7_value launch0) rfl ls st μ
set_option maxRecDepth 20000 in
theorem e_X7_value_313 (Q : ix_R → Prop) (ls : ix_L) (st : List ix_V) (μ : ix_M) : ix_Ev o_X7_value Q (313, ls, st, μ) = ix_cmp (fun x y => x = y) 316 320 (ix_Ev o_X7_value Q) Q ls st μ := ix_Ev.eq (a_X7_value launch0) rfl ls st μ
set_option maxRecDepth 20000 in
theorem e_X7_value_316 (Q : ix_R → Prop) (ls : ix_L) (st : List ix_V) (μ : ix_M) : ix_Ev o_X7_value Q (316, ls, st, μ) = ix_push (vi 1) 317 (ix_Ev o_X7_value Q) Q ls st μ := ix_Ev.eq (a_X7_value launch0) rfl ls st μ
set_option maxRecDepth 20000 in
theorem e_X7_value_317 (Q : ix_R → Prop) (ls : ix_L) (st : List ix_V) (μ : ix_M) : ix_Ev o_X7_value Q (317, ls, st, μ) = ix_goto 321 (ix_Ev o_X7_value Q) Q ls st μ := ix_Ev.eq (a_X7_value launch0) rfl ls st μ
set_option maxRecDepth 20000 in
theorem e_X7_value_320 (Q : ix_R → Prop) (ls : ix_L) (st : List ix_V) (μ : ix_M) : ix_Ev o_X7_value Q (320, ls, st, μ) = ix_push (vi 0) 321 (ix_Ev o_X7_value Q) Q ls st μ := ix_Ev.eq (a_X7_value launch0) rfl ls st μ
set_option maxRecDepth 20000 in
theorem e_X7_value_321 (Q : ix_R → Prop) (ls : ix_L) (st : List ix_V) (μ : ix_M) : ix_Ev o_X7_value Q (321, ls, st, μ) = ix_istore 9 323 (ix_Ev o_X7_value Q) Q ls st μ := ix_Ev.eq (a_X7_value launch0) rfl ls st μ
set_option maxRecDepth 20000 in
theorem e_X7_value_323 (Q : ix_R → Prop) (ls : ix_L) (st : List ix_V) (μ : ix_M) : ix_Ev o_X7_value Q (323, ls, st, μ) = ix_goto 408 (ix_Ev o_X7_value Q) Q ls st μ := ix_Ev.eq (a_X7_value launch0) rfl ls st μ
set_option maxRecDepth 20000 in
theorem e_X7_value_326 (Q : ix_R → Prop) (ls : ix_L) (st : List ix_V) (μ : ix_M) : ix_Ev o_X7_value Q (326, ls, st, μ) = ix_iload 9 328 (ix_Ev o_X7_value Q) Q ls st μ := ix_Ev.eq (a_X7_value launch0) rfl ls st μ
set_option maxRecDepth 20000 in
theorem e_X7_value_328 (Q : ix_R → Prop) (ls : ix_L) (st : List ix_V) (μ : ix_M) : ix_Ev o_X7_value Q (328, ls, st, μ) = ix_iload 10 330 (ix_Ev o_X7_value Q) Q ls st μ := ix_Ev.eq (a_X7_value launch0) rfl ls st μ
set_option maxRecDepth 20000 in
theorem e_X7_value_330 (Q : ix_R → Prop) (ls : ix_L) (st : List ix_V) (μ : ix_M) : ix_Ev o_X7_value Q (330, ls, st, μ) = ix_cmp (fun x y => x ≤ y) 337 333 (ix_Ev o_X7_value Q) Q ls st μ := ix_Ev.eq (a_X7_value launch0) rfl ls st μ
set_option maxRecDepth 20000 in
theorem e_X7_value_333 (Q : ix_R → Prop) (ls : ix_L) (st : List ix_V) (μ : ix_M) : ix_Ev o_X7_value Q (333, ls, st, μ) = ix_push (vi 1) 334 (ix_Ev o_X7_value Q) Q ls st μ := ix_Ev.eq (a_X7_value launch0) rfl ls st μ
set_option maxRecDepth 20000 in
theorem e_X7_value_334 (Q : ix_R → Prop) (ls : ix_L) (st : List ix_V) (μ : ix_M) : ix_Ev o_X7_value Q (334, ls, st, μ) = ix_goto 338 (ix_Ev o_X7_value Q) Q ls st μ := ix_Ev.eq (a_X7_value launch0) rfl ls st μ
set_option maxRecDepth 20000 in
theorem e_X7_value_337 (Q : ix_R → Prop) (ls : ix_L) (st : List ix_V) (μ : ix_M) : ix_Ev o_X7_value Q (337, ls, st, μ) = ix_push (vi 0) 338 (ix_Ev o_X7_value Q) Q ls st μ := ix_Ev.eq (a_X7_value launch0) rfl ls st μ
set_option maxRecDepth 20000 in
theorem e_X7_value_338 (Q : ix_R → Prop) (ls : ix_L) (st : List ix_V) (μ : ix_M) : ix_Ev o_X7_value Q (338, ls, st, μ) = ix_istore 9 340 (ix_Ev o_X7_value Q) Q ls st μ := ix_Ev.eq (a_X7_value launch0) rfl ls st μ
set_option maxRecDepth 20000 in
theorem e_X7_value_340 (Q : ix_R → Prop) (ls : ix_L) (st : List ix_V) (μ : ix_M) : ix_Ev o_X7_value Q (340, ls, st, μ) = ix_goto 408 (ix_Ev o_X7_value Q) Q ls st μ := ix_Ev.eq (a_X7_value launch0) rfl ls st μ
set_option maxRecDepth 20000 in
theorem e_X7_value_343 (Q : ix_R → Prop) (ls : ix_L) (st : List ix_V) (μ : ix_M) : ix_Ev o_X7_value Q (343, ls, st, μ) = ix_iload 9 345 (ix_Ev o_X7_value Q) Q ls st μ := ix_Ev.eq (a_X7_value launch0) rfl ls st μ
set_option maxRecDepth 20000 in
theorem e_X7_value_345 (Q : ix_R → Prop) (ls : ix_L) (st : List ix_V) (μ : ix_M) : ix_Ev o_X7_value Q (345, ls, st, μ) = ix_iload 10 347 (ix_Ev o_X7_value Q) Q ls st μ := ix_Ev.eq (a_X7_value launch0) rfl ls st μ
set_option maxRecDepth 20000 in
theorem e_X7_value_347 (Q : ix_R → Prop) (ls : ix_L) (st : List ix_V) (μ : ix_M) : ix_Ev o_X7_value Q (347, ls, st, μ) = ix_bin (fun x y => x + y) 348 (ix_Ev o_X7_value Q) Q ls st μ := ix_Ev.eq (a_X7_value launch0) rfl ls st μ
set_option maxRecDepth 20000 in
theorem e_X7_value_348 (Q : ix_R → Prop) (ls : ix_L) (st : List ix_V) (μ : ix_M) : ix_Ev o_X7_value Q (348, ls, st, μ) = ix_istore 9 350 (ix_Ev o_X7_value Q) Q ls st μ := ix_Ev.eq (a_X7_value launch0) rfl ls st μ
set_option maxRecDepth 20000 in
theorem e_X7_value_350 (Q : ix_R → Prop) (ls : ix_L) (st : List ix_V) (μ : ix_M) : ix_Ev o_X7_value Q (350, ls, st, μ) = ix_goto 408 (ix_Ev o_X7_value Q) Q ls st μ := ix_Ev.eq (a_X7_value launch0) rfl ls st μ
set_option maxRecDepth 20000 in
theorem e_X7_value_353 (Q : ix_R → Prop) (ls : ix_L) (st : List ix_V) (μ : ix_M) : ix_Ev o_X7_value Q (353, ls, st, μ) = ix_iload 9 355 (ix_Ev o_X7_value Q) Q ls st μ := ix_Ev.eq (a_X7_value launch0) rfl ls st μ
set_option maxRecDepth 20000 in
theorem e_X7_value_355 (Q : ix_R → Prop) (ls : ix_L) (st : List ix_V) (μ : ix_M) : ix_Ev o_X7_value Q (355, ls, st, μ) = ix_iload 10 357 (ix_Ev o_X7_value Q) Q ls st μ := ix_Ev.eq (a_X7_value launch0) rfl ls st μ
set_option maxRecDepth 20000 in
theorem e_X7_value_357 (Q : ix_R → Prop) (ls : ix_L) (st : List ix_V) (μ : ix_M) : ix_Ev o_X7_value Q (357, ls, st, μ) = ix_bin (fun x y => x - y) 358 (ix_Ev o_X7_value Q) Q ls st μ := ix_Ev.eq (a_X7_value launch0) rfl ls st μ
set_option maxRecDepth 20000 in
theorem e_X7_value_358 (Q : ix_R → Prop) (ls : ix_L) (st : List ix_V) (μ : ix_M) : ix_Ev o_X7_value Q (358, ls, st, μ) = ix_istore 9 360 (ix_Ev o_X7_value Q) Q ls st μ := ix_Ev.eq (a_X7_value launch0) rfl ls st μ
set_option maxRecDepth 20000 in
theorem e_X7_value_360 (Q : ix_R → Prop) (ls : ix_L) (st : List ix_V) (μ : ix_M) : ix_Ev o_X7_value Q (360, ls, st, μ) = ix_goto 408 (ix_Ev o_X7_value Q) Q ls st μ := ix_Ev.eq (a_X7_value launch0) rfl ls st μ
set_option maxRecDepth 20000 in
theorem e_X7_value_363 (Q : ix_R → Prop) (ls : ix_L) (st : List ix_V) (μ : ix_M) : ix_Ev o_X7_value Q (363, ls, st, μ) = ix_iload 9 365 (ix_Ev o_X7_value Q) Q ls st μ := ix_Ev.eq (a_X7_value launch0) rfl ls st μ
set_option maxRecDepth 20000 in
theorem e_X7_value_365 (Q : ix_R → Prop) (ls : ix_L) (st : List ix_V) (μ : ix_M) : ix_Ev o_X7_value Q (365, ls, st, μ) = ix_iload 10 367 (ix_Ev o_X7_value Q) Q ls st μ := ix_Ev.eq (a_X7_value launch0) rfl ls st μ
set_option maxRecDepth 20000 in
theorem e_X7_value_367 (Q : ix_R → Prop) (ls : ix_L) (st : List ix_V) (μ : ix_M) : ix_Ev o_X7_value Q (367, ls, st, μ) = ix_bin (fun x y => x * y) 368 (ix_Ev o_X7_value Q) Q ls st μ := ix_Ev.eq (a_X7_value launch0) rfl ls st μ
set_option maxRecDepth 20000 in
theorem e_X7_value_368 (Q : ix_R → Prop) (ls : ix_L) (st : List ix_V) (μ : ix_M) : ix_Ev o_X7_value Q (368, ls, st, μ) = ix_istore 9 370 (ix_Ev o_X7_value Q) Q ls st μ := ix_Ev.eq (a_X7_value launch0) rfl ls st μ
set_option maxRecDepth 20000 in
theorem e_X7_value_370 (Q : ix_R → Prop) (ls : ix_L) (st : List ix_V) (μ : ix_M) : ix_Ev o_X7_value Q (370, ls, st, μ) = ix_goto 408 (ix_Ev o_X7_value Q) Q ls st μ := ix_Ev.eq (a_X7_value launch0) rfl ls st μ
set_option maxRecDepth 20000 in
theorem e_X7_value_373 (Q : ix_R → Prop) (ls : ix_L) (st : List ix_V) (μ : ix_M) : ix_Ev o_X7_value Q (373, ls, st, μ) = ix_iload 10 375 (ix_Ev o_X7_value Q) Q ls st μ := ix_Ev.eq (a_X7_value launch0) rfl ls st μ
set_option maxRecDepth 20000 in
theorem e_X7_value_375 (Q : ix_R → Prop) (ls : ix_L) (st : List ix_V) (μ : ix_M) : ix_Ev o_X7_value Q (375, ls, st, μ) = ix_if (fun x => x = 0) 378 382 (ix_Ev o_X7_value Q) Q ls st μ := ix_Ev.eq (a_X7_value launch0) rfl ls st μ
set_option maxRecDepth 20000 in
theorem e_X7_value_378 (Q : ix_R → Prop) (ls : ix_L) (st : List ix_V) (μ : ix_M) : ix_Ev o_X7_value Q (378, ls, st, μ) = ix_push (vi 0) 379 (ix_Ev o_X7_value Q) Q ls st μ := ix_Ev.eq (a_X7_value launch0) rfl ls st μ
set_option maxRecDepth 20000 in
theorem e_X7_value_379 (Q : ix_R → Prop) (ls : ix_L) (st : List ix_V) (μ : ix_M) : ix_Ev o_X7_value Q (379, ls, st, μ) = ix_goto 387 (ix_Ev o_X7_value Q) Q ls st μ := ix_Ev.eq (a_X7_value launch0) rfl ls st μ
set_option maxRecDepth 20000 in
theorem e_X7_value_382 (Q : ix_R → Prop) (ls : ix_L) (st : List ix_V) (μ : ix_M) : ix_Ev o_X7_value Q (382, ls, st, μ) = ix_iload 9 384 (ix_Ev o_X7_value Q) Q ls st μ := ix_Ev.eq (a_X7_value launch0) rfl ls st μ
set_option maxRecDepth 20000 in
theorem e_X7_value_384 (Q : ix_R → Prop) (ls : ix_L) (st : List ix_V) (μ : ix_M) : ix_Ev o_X7_value Q (384, ls, st, μ) = ix_iload 10 386 (ix_Ev o_X7_value Q) Q ls st μ := ix_Ev.eq (a_X7_value launch0) rfl ls st μ
set_option maxRecDepth 20000 in
theorem e_X7_value_386 (Q : ix_R → Prop) (ls : ix_L) (st : List ix_V) (μ : ix_M) : ix_Ev o_X7_value Q (386, ls, st, μ) = ix_div (fun x y => x / y) 387 (ix_Ev o_X7_value Q) Q ls st μ := ix_Ev.eq (a_X7_value launch0) rfl ls st μ
set_option maxRecDepth 20000 in
theorem e_X7_value_387 (Q : ix_R → Prop) (ls : ix_L) (st : List ix_V) (μ : ix_M) : ix_Ev o_X7_value Q (387, ls, st, μ) = ix_istore 9 389 (ix_Ev o_X7_value Q) Q ls st μ := ix_Ev.eq (a_X7_value launch0) rfl ls st μ
set_option maxRecDepth 20000 in
theorem e_X7_value_389 (Q : ix_R → Prop) (ls : ix_L) (st : List ix_V) (μ : ix_M) : ix_Ev o_X7_value Q (389, ls, st, μ) = ix_goto 408 (ix_Ev o_X7_value Q) Q ls st μ := ix_Ev.eq (a_X7_value launch0) rfl ls st μ
set_option maxRecDepth 20000 in
theorem e_X7_value_392 (Q : ix_R → Prop) (ls : ix_L) (st : List ix_V) (μ : ix_M) : ix_Ev o_X7_value Q (392, ls, st, μ) = ix_iload 10 394 (ix_Ev o_X7_value Q) Q ls st μ := ix_Ev.eq (a_X7_value launch0) rfl ls st μ
set_option maxRecDepth 20000 in
theorem e_X7_value_394 (Q : ix_R → Prop) (ls : ix_L) (st : List ix_V) (μ : ix_M) : ix_Ev o_X7_value Q (394, ls, st, μ) = ix_if (fun x => x = 0) 397 401 (ix_Ev o_X7_value Q) Q ls st μ := ix_Ev.eq (a_X7_value launch0) rfl ls st μ
set_option maxRecDepth 20000 in
theorem e_X7_value_397 (Q : ix_R → Prop) (ls : ix_L) (st : List ix_V) (μ : ix_M) : ix_Ev o_X7_value Q (397, ls, st, μ) = ix_push (vi 0) 398 (ix_Ev o_X7_value Q) Q ls st μ := ix_Ev.eq (a_X7_value launch0) rfl ls st μ
set_option maxRecDepth 20000 in
theorem e_X7_value_398 (Q : ix_R → Prop) (ls : ix_L) (st : List ix_V) (μ : ix_M) : ix_Ev o_X7_value Q (398, ls, st, μ) = ix_goto 406 (ix_Ev o_X7_value Q) Q ls st μ := ix_Ev.eq (a_X7_value launch0) rfl ls st μ
set_option maxRecDepth 20000 in
theorem e_X7_value_401 (Q : ix_R → Prop) (ls : ix_L) (st : List ix_V) (μ : ix_M) : ix_Ev o_X7_value Q (401, ls, st, μ) = ix_iload 9 403 (ix_Ev o_X7_value Q) Q ls st μ := ix_Ev.eq (a_X7_value launch0) rfl ls st μ
set_option maxRecDepth 20000 in
theorem e_X7_value_403 (Q : ix_R → Prop) (ls : ix_L) (st : List ix_V) (μ : ix_M) : ix_Ev o_X7_value Q (403, ls, st, μ) = ix_iload 10 405 (ix_Ev o_X7_value Q) Q ls st μ := ix_Ev.eq (a_X7_value launch0) rfl ls st μ
set_option maxRecDepth 20000 in
theorem e_X7_value_405 (Q : ix_R → Prop) (ls : ix_L) (st : List ix_V) (μ : ix_M) : ix_Ev o_X7_value Q (405, ls, st, μ) = ix_div (fun x y => x - x / y * y) 406 (ix_Ev o_X7_value Q) Q ls st μ := ix_Ev.eq (a_X7_value launch0) rfl ls st μ
set_option maxRecDepth 20000 in
theorem e_X7_value_406 (Q : ix_R → Prop) (ls : ix_L) (st : List ix_V) (μ : ix_M) : ix_Ev o_X7_value Q (406, ls, st, μ) = ix_istore 9 408 (ix_Ev o_X7_value Q) Q ls st μ := ix_Ev.eq (a_X7_value launch0) rfl ls st μ
set_option maxRecDepth 20000 in
theorem e_X7_value_408 (Q : ix_R → Prop) (ls : ix_L) (st : List ix_V) (μ : ix_M) : ix_Ev o_X7_value Q (408, ls, st, μ) = ix_aload 0 409 (ix_Ev o_X7_value Q) Q ls st μ := ix_Ev.eq (a_X7_value launch0) rfl ls st μ
set_option maxRecDepth 20000 in
theorem e_X7_value_409 (Q : ix_R → Prop) (ls : ix_L) (st : List ix_V) (μ : ix_M) : ix_Ev o_X7_value Q (409, ls, st, μ) = ix_getr 6 20 (fun k => k + 3) 412 (ix_Ev o_X7_value Q) Q ls st μ := ix_Ev.eq (a_X7_value launch0) rfl ls st μ
set_option maxRecDepth 20000 in
theorem e_X7_value_412 (Q : ix_R → Prop) (ls : ix_L) (st : List ix_V) (μ : ix_M) : ix_Ev o_X7_value Q (412, ls, st, μ) = ix_iload 6 414 (ix_Ev o_X7_value Q) Q ls st μ := ix_Ev.eq (a_X7_value launch0) rfl ls st μ
set_option maxRecDepth 20000 in
theorem e_X7_value_414 (Q : ix_R → Prop) (ls : ix_L) (st : List ix_V) (μ : ix_M) : ix_Ev o_X7_value Q (414, ls, st, μ) = ix_push (vi 1) 415 (ix_Ev o_X7_value Q) Q ls st μ := ix_Ev.eq (a_X7_value launch0) rfl ls st μ
set_option maxRecDepth 20000 in
theorem e_X7_value_415 (Q : ix_R → Prop) (ls : ix_L) (st : List ix_V) (μ : ix_M) : ix_Ev o_X7_value Q (415, ls, st, μ) = ix_bin (fun x y => x - y) 416 (ix_Ev o_X7_value Q) Q ls st μ := ix_Ev.eq (a_X7_value launch0) rfl ls st μ
set_option maxRecDepth 20000 in
theorem e_X7_value_416 (Q : ix_R → Prop) (ls : ix_L) (st : List ix_V) (μ : ix_M) : ix_Ev o_X7_value Q (416, ls, st, μ) = ix_iload 9 418 (ix_Ev o_X7_value Q) Q ls st μ := ix_Ev.eq (a_X7_value launch0) rfl ls st μ
set_option maxRecDepth 20000 in
theorem e_X7_value_418 (Q : ix_R → Prop) (ls : ix_L) (st : List ix_V) (μ : ix_M) : ix_Ev o_X7_value Q (418, ls, st, μ) = ix_iast 419 (ix_Ev o_X7_value Q) Q ls st μ := ix_Ev.eq (a_X7_value launch0) rfl ls st μ
set_option maxRecDepth 20000 in
theorem e_X7_value_419 (Q : ix_R → Prop) (ls : ix_L) (st : List ix_V) (μ : ix_M) : ix_Ev o_X7_value Q (419, ls, st, μ) = ix_iinc 7 1 422 (ix_Ev o_X7_value Q) Q ls st μ := ix_Ev.eq (a_X7_value launch0) rfl ls st μ
set_option maxRecDepth 20000 in
theorem e_X7_value_422 (Q : ix_R → Prop) (ls : ix_L) (st : List ix_V) (μ : ix_M) : ix_Ev o_X7_value Q (422, ls, st, μ) = ix_goto 24 (ix_Ev o_X7_value Q) Q ls st μ := ix_Ev.eq (a_X7_value launch0) rfl ls st μ
set_option maxRecDepth 20000 in
theorem e_X7_value_425 (Q : ix_R → Prop) (ls : ix_L) (st : List ix_V) (μ : ix_M) : ix_Ev o_X7_value Q (425, ls, st, μ) = ix_iload 6 427 (ix_Ev o_X7_value Q) Q ls st μ := ix_Ev.eq (a_X7_value launch0) rfl ls st μ
set_option maxRecDepth 20000 in
theorem e_X7_value_427 (Q : ix_R → Prop) (ls : ix_L) (st : List ix_V) (μ : ix_M) : ix_Ev o_X7_value Q (427, ls, st, μ) = ix_push (vi 1) 428 (ix_Ev o_X7_value Q) Q ls st μ := ix_Ev.eq (a_X7_value launch0) rfl ls st μ
set_option maxRecDepth 20000 in
theorem e_X7_value_428 (Q : ix_R → Prop) (ls : ix_L) (st : List ix_V) (μ : ix_M) : ix_Ev o_X7_value Q (428, ls, st, μ) = ix_cmp (fun x y => x < y) 443 431 (ix_Ev o_X7_value Q) Q ls st μ := ix_Ev.eq (a_X7_value launch0) rfl ls st μ
set_option maxRecDepth 20000 in
theorem e_X7_value_431 (Q : ix_R → Prop) (ls : ix_L) (st : List ix_V) (μ : ix_M) : ix_Ev o_X7_value Q (431, ls, st, μ) = ix_aload 0 432 (ix_Ev o_X7_value Q) Q ls st μ := ix_Ev.eq (a_X7_value launch0) rfl ls st μ
set_option maxRecDepth 20000 in
theorem e_X7_value_432 (Q : ix_R → Prop) (ls : ix_L) (st : List ix_V) (μ : ix_M) : ix_Ev o_X7_value Q (432, ls, st, μ) = ix_getr 6 20 (fun k => k + 3) 435 (ix_Ev o_X7_value Q) Q ls st μ := ix_Ev.eq (a_X7_value launch0) rfl ls st μ
set_option maxRecDepth 20000 in
theorem e_X7_value_435 (Q : ix_R → Prop) (ls : ix_L) (st : List ix_V) (μ : ix_M) : ix_Ev o_X7_value Q (435, ls, st, μ) = ix_iload 6 437 (ix_Ev o_X7_value Q) Q ls st μ := ix_Ev.eq (a_X7_value launch0) rfl ls st μ
set_option maxRecDepth 20000 in
theorem e_X7_value_437 (Q : ix_R → Prop) (ls : ix_L) (st : List ix_V) (μ : ix_M) : ix_Ev o_X7_value Q (437, ls, st, μ) = ix_push (vi 1) 438 (ix_Ev o_X7_value Q) Q ls st μ := ix_Ev.eq (a_X7_value launch0) rfl ls st μ
set_option maxRecDepth 20000 in
theorem e_X7_value_438 (Q : ix_R → Prop) (ls : ix_L) (st : List ix_V) (μ : ix_M) : ix_Ev o_X7_value Q (438, ls, st, μ) = ix_bin (fun x y => x - y) 439 (ix_Ev o_X7_value Q) Q ls st μ := ix_Ev.eq (a_X7_value launch0) rfl ls st μ
set_option maxRecDepth 20000 in
theorem e_X7_value_439 (Q : ix_R → Prop) (ls : ix_L) (st : List ix_V) (μ : ix_M) : ix_Ev o_X7_value Q (439, ls, st, μ) = ix_iald 440 (ix_Ev o_X7_value Q) Q ls st μ := ix_Ev.eq (a_X7_value launch0) rfl ls st μ
set_option maxRecDepth 20000 in
theorem e_X7_value_440 (Q : ix_R → Prop) (ls : ix_L) (st : List ix_V) (μ : ix_M) : ix_Ev o_X7_value Q (440, ls, st, μ) = ix_goto 444 (ix_Ev o_X7_value Q) Q ls st μ := ix_Ev.eq (a_X7_value launch0) rfl ls st μ
set_option maxRecDepth 20000 in
theorem e_X7_value_443 (Q : ix_R → Prop) (ls : ix_L) (st : List ix_V) (μ : ix_M) : ix_Ev o_X7_value Q (443, ls, st, μ) = ix_push (vi 0) 444 (ix_Ev o_X7_value Q) Q ls st μ := ix_Ev.eq (a_X7_value launch0) rfl ls st μ
set_option maxRecDepth 20000 in
theorem e_X7_value_444 (Q : ix_R → Prop) (ls : ix_L) (st : List ix_V) (μ : ix_M) : ix_Ev o_X7_value Q (444, ls, st, μ) = ix_iret (ix_Ev o_X7_value Q) Q ls st μ := ix_Ev.eq (a_X7_value launch0) rfl ls st μ
def Stk (μ : ix_M) (c : Nat) (s : List Int32) : Prop := ∀ j, j < s.length → μ c j = s.getD (s.length - 1 - j) 0
theorem Stk.top {μ : ix_M} {c : Nat} {x : Int32} {r : List Int32} (h : Stk μ c (x :: r)) : μ c r.length = x := by
  have := h r.length (by simp)
  simpa using this
theorem Stk.pop {μ : ix_M} {c : Nat} {x : Int32} {r : List Int32} (h : Stk μ c (x :: r)) : Stk μ c r := by
  intro j hj
  have := h j (by simp; omega)
  rw [this]
  simp only [List.length_cons]
  rw [show r.length + 1 - 1 - j = (r.length - 1 - j) + 1 by omega]
  simp
theorem Stk.push {μ : ix_M} {c : Nat} {r : List Int32} (h : Stk μ c r) (v : Int32) : Stk (ix_up μ c r.length v) c (v :: r) := by
  intro j hj
  simp only [List.length_cons] at hj ⊢
  rw [ix_up_ap]
  by_cases e : j = r.length
  · subst e
    simp
  · rw [if_neg (by simp [e]), h j (by omega), show r.length + 1 - 1 - j = (r.length - 1 - j) + 1 by omega]
    simp
theorem Stk.nil {μ : ix_M} {c : Nat} : Stk μ c [] := fun _ h => by simp at h
set_option maxRecDepth 20000 in
theorem l_X7_value (t : Nat) (ht : ix_len (t + 2) = 50 ∧ ix_len (t + 3) = 50) (a b c : Int32) (μ : ix_M) (Q : ix_R → Prop) (N : Nat) (hN : N ≤ 50) : ∀ (rest : List Int32) (k : Nat) (s : List Int32) (μ1 : ix_M) (x8 x9 x10 : Option ix_V), k + rest.length = N → s.length ≤ k → tWf rest s.length 1 → Fx [t + 3] μ μ1 → (∀ j, j < rest.length → μ (t + 2) (k + j) = tCls (rest.getD j 0)) → Stk μ1 (t + 3) s → (∀ μ', Fx [t + 3] μ μ' → Q (some (vi ((tEval a b c rest s).headD 0)), μ')) →
    ix_Ev o_X7_value Q (24, [some (vr 6 t), some (vi a), some (vi b), some (vi c), some (vr 20 (t + 2)), some (vi (nI N)), some (vi (nI s.length)), some (vi (nI k)), x8, x9, x10], [], μ1) := by
  intro rest
  induction rest with
  | nil =>
    intro k s μ1 x8 x9 x10 hk hn hwf hF hcode hS hQ
    simp only [List.length_nil, Nat.add_zero] at hk
    simp only [tWf] at hwf
    subst hk
    obtain ⟨x, rfl⟩ : ∃ x, s = [x] := List.length_eq_one_iff.mp hwf
    have h1 : nI ([x] : List Int32).length = 1 := rfl
    have hle : nI k ≤ nI k := Int32.le_refl _
    have hin : vp_in 0 50 := vp_in_nI (n := 0) (by decide) (by decide)
    have htop : μ1 (t + 3) 0 = x := hS.top
    rw [e_X7_value_24]
    simp (decide := true) only [e_X7_value_0, e_X7_value_1, e_X7_value_4, e_X7_value_7, e_X7_value_9, e_X7_value_10, e_X7_value_13, e_X7_value_16, e_X7_value_18, e_X7_value_19, e_X7_value_21, e_X7_value_22, e_X7_value_26, e_X7_value_28, e_X7_value_31, e_X7_value_33, e_X7_value_35, e_X7_value_36, e_X7_value_38, e_X7_value_40, e_X7_value_42, e_X7_value_45, e_X7_value_47, e_X7_value_49, e_X7_value_52, e_X7_value_53, e_X7_value_56, e_X7_value_58, e_X7_value_60, e_X7_value_63, e_X7_value_65, e_X7_value_68, e_X7_value_70, e_X7_value_71, e_X7_value_74, e_X7_value_75, e_X7_value_78, e_X7_value_80, e_X7_value_82, e_X7_value_85, e_X7_value_86, e_X7_value_89, e_X7_value_90, e_X7_value_91, e_X7_value_94, e_X7_value_97, e_X7_value_99, e_X7_value_101, e_X7_value_104, e_X7_value_106, e_X7_value_107, e_X7_value_110, e_X7_value_111, e_X7_value_114, e_X7_value_116, e_X7_value_117, e_X7_value_118, e_X7_value_119, e_X7_value_122, e_X7_value_124, e_X7_value_125, e_X7_value_126, e_X7_value_127, e_X7_value_130, e_X7_value_131, e_X7_value_134, e_X7_value_135, e_X7_value_136, e_X7_value_139, e_X7_value_141, e_X7_value_142, e_X7_value_145, e_X7_value_148, e_X7_value_149, e_X7_value_152, e_X7_value_154, e_X7_value_155, e_X7_value_156, e_X7_value_157, e_X7_value_159, e_X7_value_160, e_X7_value_163, e_X7_value_165, e_X7_value_166, e_X7_value_168, e_X7_value_170, e_X7_value_171, e_X7_value_252, e_X7_value_254, e_X7_value_257, e_X7_value_259, e_X7_value_262, e_X7_value_263, e_X7_value_266, e_X7_value_267, e_X7_value_269, e_X7_value_272, e_X7_value_274, e_X7_value_277, e_X7_value_279, e_X7_value_282, e_X7_value_283, e_X7_value_286, e_X7_value_287, e_X7_value_289, e_X7_value_292, e_X7_value_294, e_X7_value_296, e_X7_value_299, e_X7_value_300, e_X7_value_303, e_X7_value_304, e_X7_value_306, e_X7_value_309, e_X7_value_311, e_X7_value_313, e_X7_value_316, e_X7_value_317, e_X7_value_320, e_X7_value_321, e_X7_value_323, e_X7_value_326, e_X7_value_328, e_X7_value_330, e_X7_value_333, e_X7_value_334, e_X7_value_337, e_X7_value_338, e_X7_value_340, e_X7_value_343, e_X7_value_345, e_X7_value_347, e_X7_value_348, e_X7_value_350, e_X7_value_353, e_X7_value_355, e_X7_value_357, e_X7_value_358, e_X7_value_360, e_X7_value_363, e_X7_value_365, e_X7_value_367, e_X7_value_368, e_X7_value_370, e_X7_value_373, e_X7_value_375, e_X7_value_378, e_X7_value_379, e_X7_value_382, e_X7_value_384, e_X7_value_386, e_X7_value_387, e_X7_value_389, e_X7_value_392, e_X7_value_394, e_X7_value_397, e_X7_value_398, e_X7_value_401, e_X7_value_403, e_X7_value_405, e_X7_value_406, e_X7_value_408, e_X7_value_409, e_X7_value_412, e_X7_value_414, e_X7_value_415, e_X7_value_416, e_X7_value_418, e_X7_value_419, e_X7_value_422, e_X7_value_425, e_X7_value_427, e_X7_value_428, e_X7_value_431, e_X7_value_432, e_X7_value_435, e_X7_value_437, e_X7_value_438, e_X7_value_439, e_X7_value_440, e_X7_value_443, e_X7_value_444, vi, vl, vr, ix_push, ix_iload, ix_lload, ix_aload, ix_istore, ix_astore, ix_iinc, ix_bin, ix_div, ix_un, ix_i2l, ix_l2i, ix_lbin, ix_lsh, ix_lcmp, ix_dup, ix_dup2, ix_pop, ix_if, ix_cmp, ix_goto, ix_switch, ix_sw, ix_iret, ix_zret, ix_vret, ix_aret, ix_geti, ix_getr, ix_puti, ix_putz, ix_puts, ix_gets, ix_iald, ix_iast, ix_alen, ix_aald, ix_gval, ix_gcod, ix_bald, ix_blen, ix_sald, ix_nret, ix_math2, ix_math1, ix_acopy, Nat.add_assoc, Int32.reduceLT, Int32.reduceLE, Int32.reduceToNatClampNeg, Int32.reduceSub, Int32.reduceAdd, Nat.reduceAdd, Nat.reduceLeDiff, true_or, or_true, or_false, false_or, not_false_eq_true, not_true_eq_false, false_implies, true_implies, implies_true, and_self, mB_0, mB_01, Classical.not_not, Nat.zero_le, List.getElem?_cons_zero, List.getElem?_cons_succ, List.set_cons_zero, List.set_cons_succ, ix_nl, ix_cs, true_and, and_true, Option.toList_some, Option.toList_none, List.cons_append, List.nil_append, h1, hle, ht, hin, htop]
    exact hQ μ1 hF
  | cons d rest ih =>
    intro k s μ1 x8 x9 x10 hk hn hwf hF hcode hS hQ
    simp only [List.length_cons] at hk
    have hck : (nI k).toNatClampNeg = k := nI_clamp (by omega)
    have hnlt : ¬ nI N ≤ nI k := nI_ge (by omega) (by omega)
    have hin : vp_in (nI k) 50 := vp_in_nI (by omega) (by decide)
    have hstep : μ1 (t + 2) k = tCls d := by
      rw [hF (t + 2) (by simp)]
      exact hcode 0 (by simp)
    have hcode' : ∀ j, j < rest.length → μ (t + 2) (k + 1 + j) = tCls (rest.getD j 0) := by
      intro j hj
      have := hcode (j + 1) (by simp; omega)
      rw [show k + 1 + j = k + (j + 1) by omega]
      simpa using this
    rw [e_X7_value_24]
    rcases hwf with ⟨hp, hwf⟩ | ⟨rfl, hn1, hwf⟩ | ⟨hb, hn2, hwf⟩
    · have hlt : nI s.length < 50 := by
        rw [fa_lit 50]
        exact nI_lt (by omega) (by decide)
      have hsn : ¬ (50 : Int32) ≤ nI s.length := by
        rw [fa_lit 50]
        exact nI_ge (by omega) (by decide)
      have hcs : (nI s.length).toNatClampNeg = s.length := nI_clamp (by omega)
      have hins : vp_in (nI s.length) 50 := vp_in_nI (by omega) (by decide)
      have key : ∀ v x8', v = tName a b c d → d < 20000 → ix_Ev o_X7_value Q (24, [some (vr 6 t), some (vi a), some (vi b), some (vi c), some (vr 20 (t + 2)), some (vi (nI N)), some (vi (nI s.length + 1)), some (vi (nI k + 1)), x8', x9, x10], [], ix_up μ1 (t + 3) s.length v) := by
        intro v x8' hv hd
        have := ih (k + 1) (v :: s) (ix_up μ1 (t + 3) s.length v) x8' x9 x10 (by omega) (by simp; omega) (by simpa using hwf) (hF.up (by simp)) hcode' (hS.push v) (fun μ' h => by
          have h2 := hQ μ' h
          simp only [tEval, tStep, if_pos hd] at h2
          rw [hv]
          exact h2)
        rw [nI_1, nI_1]
        exact this
      rcases hp with ⟨n, hn9, rfl⟩ | rfl | rfl | rfl
      · have h10 : nI n < 10000 := by
          rw [fa_lit 10000]
          exact nI_lt hn9 (by decide)
        have hst : tCls (nI n) = nI n := by simp only [tCls, if_pos h10]
        rw [hst] at hstep
        have hg : ¬ nI n < -3 := by
          rw [fa_lt, nI_toInt (by omega)]
          have : (-3 : Int32).toInt = -3 := rfl
          omega
        have hg2 : ¬ nI n < 0 := nI_pos (by omega)
        simp (decide := true) only [e_X7_value_0, e_X7_value_1, e_X7_value_4, e_X7_value_7, e_X7_value_9, e_X7_value_10, e_X7_value_13, e_X7_value_16, e_X7_value_18, e_X7_value_19, e_X7_value_21, e_X7_value_22, e_X7_value_26, e_X7_value_28, e_X7_value_31, e_X7_value_33, e_X7_value_35, e_X7_value_36, e_X7_value_38, e_X7_value_40, e_X7_value_42, e_X7_value_45, e_X7_value_47, e_X7_value_49, e_X7_value_52, e_X7_value_53, e_X7_value_56, e_X7_value_58, e_X7_value_60, e_X7_value_63, e_X7_value_65, e_X7_value_68, e_X7_value_70, e_X7_value_71, e_X7_value_74, e_X7_value_75, e_X7_value_78, e_X7_value_80, e_X7_value_82, e_X7_value_85, e_X7_value_86, e_X7_value_89, e_X7_value_90, e_X7_value_91, e_X7_value_94, e_X7_value_97, e_X7_value_99, e_X7_value_101, e_X7_value_104, e_X7_value_106, e_X7_value_107, e_X7_value_110, e_X7_value_111, e_X7_value_114, e_X7_value_116, e_X7_value_117, e_X7_value_118, e_X7_value_119, e_X7_value_122, e_X7_value_124, e_X7_value_125, e_X7_value_126, e_X7_value_127, e_X7_value_130, e_X7_value_131, e_X7_value_134, e_X7_value_135, e_X7_value_136, e_X7_value_139, e_X7_value_141, e_X7_value_142, e_X7_value_145, e_X7_value_148, e_X7_value_149, e_X7_value_152, e_X7_value_154, e_X7_value_155, e_X7_value_156, e_X7_value_157, e_X7_value_159, e_X7_value_160, e_X7_value_163, e_X7_value_165, e_X7_value_166, e_X7_value_168, e_X7_value_170, e_X7_value_171, e_X7_value_252, e_X7_value_254, e_X7_value_257, e_X7_value_259, e_X7_value_262, e_X7_value_263, e_X7_value_266, e_X7_value_267, e_X7_value_269, e_X7_value_272, e_X7_value_274, e_X7_value_277, e_X7_value_279, e_X7_value_282, e_X7_value_283, e_X7_value_286, e_X7_value_287, e_X7_value_289, e_X7_value_292, e_X7_value_294, e_X7_value_296, e_X7_value_299, e_X7_value_300, e_X7_value_303, e_X7_value_304, e_X7_value_306, e_X7_value_309, e_X7_value_311, e_X7_value_313, e_X7_value_316, e_X7_value_317, e_X7_value_320, e_X7_value_321, e_X7_value_323, e_X7_value_326, e_X7_value_328, e_X7_value_330, e_X7_value_333, e_X7_value_334, e_X7_value_337, e_X7_value_338, e_X7_value_340, e_X7_value_343, e_X7_value_345, e_X7_value_347, e_X7_value_348, e_X7_value_350, e_X7_value_353, e_X7_value_355, e_X7_value_357, e_X7_value_358, e_X7_value_360, e_X7_value_363, e_X7_value_365, e_X7_value_367, e_X7_value_368, e_X7_value_370, e_X7_value_373, e_X7_value_375, e_X7_value_378, e_X7_value_379, e_X7_value_382, e_X7_value_384, e_X7_value_386, e_X7_value_387, e_X7_value_389, e_X7_value_392, e_X7_value_394, e_X7_value_397, e_X7_value_398, e_X7_value_401, e_X7_value_403, e_X7_value_405, e_X7_value_406, e_X7_value_408, e_X7_value_409, e_X7_value_412, e_X7_value_414, e_X7_value_415, e_X7_value_416, e_X7_value_418, e_X7_value_419, e_X7_value_422, e_X7_value_425, e_X7_value_427, e_X7_value_428, e_X7_value_431, e_X7_value_432, e_X7_value_435, e_X7_value_437, e_X7_value_438, e_X7_value_439, e_X7_value_440, e_X7_value_443, e_X7_value_444, vi, vl, vr, ix_push, ix_iload, ix_lload, ix_aload, ix_istore, ix_astore, ix_iinc, ix_bin, ix_div, ix_un, ix_i2l, ix_l2i, ix_lbin, ix_lsh, ix_lcmp, ix_dup, ix_dup2, ix_pop, ix_if, ix_cmp, ix_goto, ix_switch, ix_sw, ix_iret, ix_zret, ix_vret, ix_aret, ix_geti, ix_getr, ix_puti, ix_putz, ix_puts, ix_gets, ix_iald, ix_iast, ix_alen, ix_aald, ix_gval, ix_gcod, ix_bald, ix_blen, ix_sald, ix_nret, ix_math2, ix_math1, ix_acopy, Nat.add_assoc, Int32.reduceLT, Int32.reduceLE, Int32.reduceToNatClampNeg, Int32.reduceSub, Int32.reduceAdd, Nat.reduceAdd, Nat.reduceLeDiff, true_or, or_true, or_false, false_or, not_false_eq_true, not_true_eq_false, false_implies, true_implies, implies_true, and_self, mB_0, mB_01, Classical.not_not, Nat.zero_le, List.getElem?_cons_zero, List.getElem?_cons_succ, List.set_cons_zero, List.set_cons_succ, ix_nl, ix_cs, true_and, and_true, Option.toList_some, Option.toList_none, List.cons_append, List.nil_append, hck, hstep, hnlt, hin, ht, hg, hg2, hsn, hcs, hins]
        refine key _ _ ?_ ?_
        · simp only [tName, if_pos h10]
        · rw [fa_lit 20000]
          exact nI_lt (by omega) (by decide)
      · have hst : tCls 10000 = -1 := by decide
        rw [hst] at hstep
        simp (decide := true) only [e_X7_value_0, e_X7_value_1, e_X7_value_4, e_X7_value_7, e_X7_value_9, e_X7_value_10, e_X7_value_13, e_X7_value_16, e_X7_value_18, e_X7_value_19, e_X7_value_21, e_X7_value_22, e_X7_value_26, e_X7_value_28, e_X7_value_31, e_X7_value_33, e_X7_value_35, e_X7_value_36, e_X7_value_38, e_X7_value_40, e_X7_value_42, e_X7_value_45, e_X7_value_47, e_X7_value_49, e_X7_value_52, e_X7_value_53, e_X7_value_56, e_X7_value_58, e_X7_value_60, e_X7_value_63, e_X7_value_65, e_X7_value_68, e_X7_value_70, e_X7_value_71, e_X7_value_74, e_X7_value_75, e_X7_value_78, e_X7_value_80, e_X7_value_82, e_X7_value_85, e_X7_value_86, e_X7_value_89, e_X7_value_90, e_X7_value_91, e_X7_value_94, e_X7_value_97, e_X7_value_99, e_X7_value_101, e_X7_value_104, e_X7_value_106, e_X7_value_107, e_X7_value_110, e_X7_value_111, e_X7_value_114, e_X7_value_116, e_X7_value_117, e_X7_value_118, e_X7_value_119, e_X7_value_122, e_X7_value_124, e_X7_value_125, e_X7_value_126, e_X7_value_127, e_X7_value_130, e_X7_value_131, e_X7_value_134, e_X7_value_135, e_X7_value_136, e_X7_value_139, e_X7_value_141, e_X7_value_142, e_X7_value_145, e_X7_value_148, e_X7_value_149, e_X7_value_152, e_X7_value_154, e_X7_value_155, e_X7_value_156, e_X7_value_157, e_X7_value_159, e_X7_value_160, e_X7_value_163, e_X7_value_165, e_X7_value_166, e_X7_value_168, e_X7_value_170, e_X7_value_171, e_X7_value_252, e_X7_value_254, e_X7_value_257, e_X7_value_259, e_X7_value_262, e_X7_value_263, e_X7_value_266, e_X7_value_267, e_X7_value_269, e_X7_value_272, e_X7_value_274, e_X7_value_277, e_X7_value_279, e_X7_value_282, e_X7_value_283, e_X7_value_286, e_X7_value_287, e_X7_value_289, e_X7_value_292, e_X7_value_294, e_X7_value_296, e_X7_value_299, e_X7_value_300, e_X7_value_303, e_X7_value_304, e_X7_value_306, e_X7_value_309, e_X7_value_311, e_X7_value_313, e_X7_value_316, e_X7_value_317, e_X7_value_320, e_X7_value_321, e_X7_value_323, e_X7_value_326, e_X7_value_328, e_X7_value_330, e_X7_value_333, e_X7_value_334, e_X7_value_337, e_X7_value_338, e_X7_value_340, e_X7_value_343, e_X7_value_345, e_X7_value_347, e_X7_value_348, e_X7_value_350, e_X7_value_353, e_X7_value_355, e_X7_value_357, e_X7_value_358, e_X7_value_360, e_X7_value_363, e_X7_value_365, e_X7_value_367, e_X7_value_368, e_X7_value_370, e_X7_value_373, e_X7_value_375, e_X7_value_378, e_X7_value_379, e_X7_value_382, e_X7_value_384, e_X7_value_386, e_X7_value_387, e_X7_value_389, e_X7_value_392, e_X7_value_394, e_X7_value_397, e_X7_value_398, e_X7_value_401, e_X7_value_403, e_X7_value_405, e_X7_value_406, e_X7_value_408, e_X7_value_409, e_X7_value_412, e_X7_value_414, e_X7_value_415, e_X7_value_416, e_X7_value_418, e_X7_value_419, e_X7_value_422, e_X7_value_425, e_X7_value_427, e_X7_value_428, e_X7_value_431, e_X7_value_432, e_X7_value_435, e_X7_value_437, e_X7_value_438, e_X7_value_439, e_X7_value_440, e_X7_value_443, e_X7_value_444, vi, vl, vr, ix_push, ix_iload, ix_lload, ix_aload, ix_istore, ix_astore, ix_iinc, ix_bin, ix_div, ix_un, ix_i2l, ix_l2i, ix_lbin, ix_lsh, ix_lcmp, ix_dup, ix_dup2, ix_pop, ix_if, ix_cmp, ix_goto, ix_switch, ix_sw, ix_iret, ix_zret, ix_vret, ix_aret, ix_geti, ix_getr, ix_puti, ix_putz, ix_puts, ix_gets, ix_iald, ix_iast, ix_alen, ix_aald, ix_gval, ix_gcod, ix_bald, ix_blen, ix_sald, ix_nret, ix_math2, ix_math1, ix_acopy, Nat.add_assoc, Int32.reduceLT, Int32.reduceLE, Int32.reduceToNatClampNeg, Int32.reduceSub, Int32.reduceAdd, Nat.reduceAdd, Nat.reduceLeDiff, true_or, or_true, or_false, false_or, not_false_eq_true, not_true_eq_false, false_implies, true_implies, implies_true, and_self, mB_0, mB_01, Classical.not_not, Nat.zero_le, List.getElem?_cons_zero, List.getElem?_cons_succ, List.set_cons_zero, List.set_cons_succ, ix_nl, ix_cs, true_and, and_true, Option.toList_some, Option.toList_none, List.cons_append, List.nil_append, hck, hstep, hnlt, hin, ht, hsn, hcs, hins]
        exact key _ _ (by simp [tName]) (by decide)
      · have hst : tCls 10001 = -2 := by decide
        rw [hst] at hstep
        simp (decide := true) only [e_X7_value_0, e_X7_value_1, e_X7_value_4, e_X7_value_7, e_X7_value_9, e_X7_value_10, e_X7_value_13, e_X7_value_16, e_X7_value_18, e_X7_value_19, e_X7_value_21, e_X7_value_22, e_X7_value_26, e_X7_value_28, e_X7_value_31, e_X7_value_33, e_X7_value_35, e_X7_value_36, e_X7_value_38, e_X7_value_40, e_X7_value_42, e_X7_value_45, e_X7_value_47, e_X7_value_49, e_X7_value_52, e_X7_value_53, e_X7_value_56, e_X7_value_58, e_X7_value_60, e_X7_value_63, e_X7_value_65, e_X7_value_68, e_X7_value_70, e_X7_value_71, e_X7_value_74, e_X7_value_75, e_X7_value_78, e_X7_value_80, e_X7_value_82, e_X7_value_85, e_X7_value_86, e_X7_value_89, e_X7_value_90, e_X7_value_91, e_X7_value_94, e_X7_value_97, e_X7_value_99, e_X7_value_101, e_X7_value_104, e_X7_value_106, e_X7_value_107, e_X7_value_110, e_X7_value_111, e_X7_value_114, e_X7_value_116, e_X7_value_117, e_X7_value_118, e_X7_value_119, e_X7_value_122, e_X7_value_124, e_X7_value_125, e_X7_value_126, e_X7_value_127, e_X7_value_130, e_X7_value_131, e_X7_value_134, e_X7_value_135, e_X7_value_136, e_X7_value_139, e_X7_value_141, e_X7_value_142, e_X7_value_145, e_X7_value_148, e_X7_value_149, e_X7_value_152, e_X7_value_154, e_X7_value_155, e_X7_value_156, e_X7_value_157, e_X7_value_159, e_X7_value_160, e_X7_value_163, e_X7_value_165, e_X7_value_166, e_X7_value_168, e_X7_value_170, e_X7_value_171, e_X7_value_252, e_X7_value_254, e_X7_value_257, e_X7_value_259, e_X7_value_262, e_X7_value_263, e_X7_value_266, e_X7_value_267, e_X7_value_269, e_X7_value_272, e_X7_value_274, e_X7_value_277, e_X7_value_279, e_X7_value_282, e_X7_value_283, e_X7_value_286, e_X7_value_287, e_X7_value_289, e_X7_value_292, e_X7_value_294, e_X7_value_296, e_X7_value_299, e_X7_value_300, e_X7_value_303, e_X7_value_304, e_X7_value_306, e_X7_value_309, e_X7_value_311, e_X7_value_313, e_X7_value_316, e_X7_value_317, e_X7_value_320, e_X7_value_321, e_X7_value_323, e_X7_value_326, e_X7_value_328, e_X7_value_330, e_X7_value_333, e_X7_value_334, e_X7_value_337, e_X7_value_338, e_X7_value_340, e_X7_value_343, e_X7_value_345, e_X7_value_347, e_X7_value_348, e_X7_value_350, e_X7_value_353, e_X7_value_355, e_X7_value_357, e_X7_value_358, e_X7_value_360, e_X7_value_363, e_X7_value_365, e_X7_value_367, e_X7_value_368, e_X7_value_370, e_X7_value_373, e_X7_value_375, e_X7_value_378, e_X7_value_379, e_X7_value_382, e_X7_value_384, e_X7_value_386, e_X7_value_387, e_X7_value_389, e_X7_value_392, e_X7_value_394, e_X7_value_397, e_X7_value_398, e_X7_value_401, e_X7_value_403, e_X7_value_405, e_X7_value_406, e_X7_value_408, e_X7_value_409, e_X7_value_412, e_X7_value_414, e_X7_value_415, e_X7_value_416, e_X7_value_418, e_X7_value_419, e_X7_value_422, e_X7_value_425, e_X7_value_427, e_X7_value_428, e_X7_value_431, e_X7_value_432, e_X7_value_435, e_X7_value_437, e_X7_value_438, e_X7_value_439, e_X7_value_440, e_X7_value_443, e_X7_value_444, vi, vl, vr, ix_push, ix_iload, ix_lload, ix_aload, ix_istore, ix_astore, ix_iinc, ix_bin, ix_div, ix_un, ix_i2l, ix_l2i, ix_lbin, ix_lsh, ix_lcmp, ix_dup, ix_dup2, ix_pop, ix_if, ix_cmp, ix_goto, ix_switch, ix_sw, ix_iret, ix_zret, ix_vret, ix_aret, ix_geti, ix_getr, ix_puti, ix_putz, ix_puts, ix_gets, ix_iald, ix_iast, ix_alen, ix_aald, ix_gval, ix_gcod, ix_bald, ix_blen, ix_sald, ix_nret, ix_math2, ix_math1, ix_acopy, Nat.add_assoc, Int32.reduceLT, Int32.reduceLE, Int32.reduceToNatClampNeg, Int32.reduceSub, Int32.reduceAdd, Nat.reduceAdd, Nat.reduceLeDiff, true_or, or_true, or_false, false_or, not_false_eq_true, not_true_eq_false, false_implies, true_implies, implies_true, and_self, mB_0, mB_01, Classical.not_not, Nat.zero_le, List.getElem?_cons_zero, List.getElem?_cons_succ, List.set_cons_zero, List.set_cons_succ, ix_nl, ix_cs, true_and, and_true, Option.toList_some, Option.toList_none, List.cons_append, List.nil_append, hck, hstep, hnlt, hin, ht, hsn, hcs, hins]
        exact key _ _ (by simp [tName]) (by decide)
      · have hst : tCls 10002 = -3 := by decide
        rw [hst] at hstep
        simp (decide := true) only [e_X7_value_0, e_X7_value_1, e_X7_value_4, e_X7_value_7, e_X7_value_9, e_X7_value_10, e_X7_value_13, e_X7_value_16, e_X7_value_18, e_X7_value_19, e_X7_value_21, e_X7_value_22, e_X7_value_26, e_X7_value_28, e_X7_value_31, e_X7_value_33, e_X7_value_35, e_X7_value_36, e_X7_value_38, e_X7_value_40, e_X7_value_42, e_X7_value_45, e_X7_value_47, e_X7_value_49, e_X7_value_52, e_X7_value_53, e_X7_value_56, e_X7_value_58, e_X7_value_60, e_X7_value_63, e_X7_value_65, e_X7_value_68, e_X7_value_70, e_X7_value_71, e_X7_value_74, e_X7_value_75, e_X7_value_78, e_X7_value_80, e_X7_value_82, e_X7_value_85, e_X7_value_86, e_X7_value_89, e_X7_value_90, e_X7_value_91, e_X7_value_94, e_X7_value_97, e_X7_value_99, e_X7_value_101, e_X7_value_104, e_X7_value_106, e_X7_value_107, e_X7_value_110, e_X7_value_111, e_X7_value_114, e_X7_value_116, e_X7_value_117, e_X7_value_118, e_X7_value_119, e_X7_value_122, e_X7_value_124, e_X7_value_125, e_X7_value_126, e_X7_value_127, e_X7_value_130, e_X7_value_131, e_X7_value_134, e_X7_value_135, e_X7_value_136, e_X7_value_139, e_X7_value_141, e_X7_value_142, e_X7_value_145, e_X7_value_148, e_X7_value_149, e_X7_value_152, e_X7_value_154, e_X7_value_155, e_X7_value_156, e_X7_value_157, e_X7_value_159, e_X7_value_160, e_X7_value_163, e_X7_value_165, e_X7_value_166, e_X7_value_168, e_X7_value_170, e_X7_value_171, e_X7_value_252, e_X7_value_254, e_X7_value_257, e_X7_value_259, e_X7_value_262, e_X7_value_263, e_X7_value_266, e_X7_value_267, e_X7_value_269, e_X7_value_272, e_X7_value_274, e_X7_value_277, e_X7_value_279, e_X7_value_282, e_X7_value_283, e_X7_value_286, e_X7_value_287, e_X7_value_289, e_X7_value_292, e_X7_value_294, e_X7_value_296, e_X7_value_299, e_X7_value_300, e_X7_value_303, e_X7_value_304, e_X7_value_306, e_X7_value_309, e_X7_value_311, e_X7_value_313, e_X7_value_316, e_X7_value_317, e_X7_value_320, e_X7_value_321, e_X7_value_323, e_X7_value_326, e_X7_value_328, e_X7_value_330, e_X7_value_333, e_X7_value_334, e_X7_value_337, e_X7_value_338, e_X7_value_340, e_X7_value_343, e_X7_value_345, e_X7_value_347, e_X7_value_348, e_X7_value_350, e_X7_value_353, e_X7_value_355, e_X7_value_357, e_X7_value_358, e_X7_value_360, e_X7_value_363, e_X7_value_365, e_X7_value_367, e_X7_value_368, e_X7_value_370, e_X7_value_373, e_X7_value_375, e_X7_value_378, e_X7_value_379, e_X7_value_382, e_X7_value_384, e_X7_value_386, e_X7_value_387, e_X7_value_389, e_X7_value_392, e_X7_value_394, e_X7_value_397, e_X7_value_398, e_X7_value_401, e_X7_value_403, e_X7_value_405, e_X7_value_406, e_X7_value_408, e_X7_value_409, e_X7_value_412, e_X7_value_414, e_X7_value_415, e_X7_value_416, e_X7_value_418, e_X7_value_419, e_X7_value_422, e_X7_value_425, e_X7_value_427, e_X7_value_428, e_X7_value_431, e_X7_value_432, e_X7_value_435, e_X7_value_437, e_X7_value_438, e_X7_value_439, e_X7_value_440, e_X7_value_443, e_X7_value_444, vi, vl, vr, ix_push, ix_iload, ix_lload, ix_aload, ix_istore, ix_astore, ix_iinc, ix_bin, ix_div, ix_un, ix_i2l, ix_l2i, ix_lbin, ix_lsh, ix_lcmp, ix_dup, ix_dup2, ix_pop, ix_if, ix_cmp, ix_goto, ix_switch, ix_sw, ix_iret, ix_zret, ix_vret, ix_aret, ix_geti, ix_getr, ix_puti, ix_putz, ix_puts, ix_gets, ix_iald, ix_iast, ix_alen, ix_aald, ix_gval, ix_gcod, ix_bald, ix_blen, ix_sald, ix_nret, ix_math2, ix_math1, ix_acopy, Nat.add_assoc, Int32.reduceLT, Int32.reduceLE, Int32.reduceToNatClampNeg, Int32.reduceSub, Int32.reduceAdd, Nat.reduceAdd, Nat.reduceLeDiff, true_or, or_true, or_false, false_or, not_false_eq_true, not_true_eq_false, false_implies, true_implies, implies_true, and_self, mB_0, mB_01, Classical.not_not, Nat.zero_le, List.getElem?_cons_zero, List.getElem?_cons_succ, List.set_cons_zero, List.set_cons_succ, ix_nl, ix_cs, true_and, and_true, Option.toList_some, Option.toList_none, List.cons_append, List.nil_append, hck, hstep, hnlt, hin, ht, hsn, hcs, hins]
        exact key _ _ (by simp [tName]) (by decide)
    · have hst : tCls 20010 = -33 := by decide
      rw [hst] at hstep
      obtain ⟨x, r, rfl⟩ : ∃ x r, s = x :: r := by
        cases s with
        | nil => simp at hn1
        | cons x r => exact ⟨x, r, rfl⟩
      simp only [List.length_cons] at hn ⊢
      have hA : ¬ nI (r.length + 1) < 1 := nI_nlt (b := 1) (by omega) (by omega)
      have hB := nI_pred r.length
      have hC : (nI r.length).toNatClampNeg = r.length := nI_clamp (by omega)
      have hD : vp_in (nI r.length) 50 := vp_in_nI (by omega) (by decide)
      have hE := hS.top
      have key : ∀ v, v = (if x = 0 then 1 else 0) → ix_Ev o_X7_value Q (24, [some (vr 6 t), some (vi a), some (vi b), some (vi c), some (vr 20 (t + 2)), some (vi (nI N)), some (vi (nI (r.length + 1))), some (vi (nI k + 1)), some (vi (-33)), x9, x10], [], ix_up μ1 (t + 3) r.length v) := by
        intro v hv
        have := ih (k + 1) (v :: r) (ix_up μ1 (t + 3) r.length v) (some (vi (-33))) x9 x10 (by omega) (by simp; omega) (by simpa using hwf) (hF.up (by simp)) hcode' (hS.pop.push v) (fun μ' h => by
          have h2 := hQ μ' h
          simp (decide := true) only [tEval, tStep, if_true, if_false] at h2
          rw [hv]
          exact h2)
        rw [nI_1]
        exact this
      simp (decide := true) only [e_X7_value_0, e_X7_value_1, e_X7_value_4, e_X7_value_7, e_X7_value_9, e_X7_value_10, e_X7_value_13, e_X7_value_16, e_X7_value_18, e_X7_value_19, e_X7_value_21, e_X7_value_22, e_X7_value_26, e_X7_value_28, e_X7_value_31, e_X7_value_33, e_X7_value_35, e_X7_value_36, e_X7_value_38, e_X7_value_40, e_X7_value_42, e_X7_value_45, e_X7_value_47, e_X7_value_49, e_X7_value_52, e_X7_value_53, e_X7_value_56, e_X7_value_58, e_X7_value_60, e_X7_value_63, e_X7_value_65, e_X7_value_68, e_X7_value_70, e_X7_value_71, e_X7_value_74, e_X7_value_75, e_X7_value_78, e_X7_value_80, e_X7_value_82, e_X7_value_85, e_X7_value_86, e_X7_value_89, e_X7_value_90, e_X7_value_91, e_X7_value_94, e_X7_value_97, e_X7_value_99, e_X7_value_101, e_X7_value_104, e_X7_value_106, e_X7_value_107, e_X7_value_110, e_X7_value_111, e_X7_value_114, e_X7_value_116, e_X7_value_117, e_X7_value_118, e_X7_value_119, e_X7_value_122, e_X7_value_124, e_X7_value_125, e_X7_value_126, e_X7_value_127, e_X7_value_130, e_X7_value_131, e_X7_value_134, e_X7_value_135, e_X7_value_136, e_X7_value_139, e_X7_value_141, e_X7_value_142, e_X7_value_145, e_X7_value_148, e_X7_value_149, e_X7_value_152, e_X7_value_154, e_X7_value_155, e_X7_value_156, e_X7_value_157, e_X7_value_159, e_X7_value_160, e_X7_value_163, e_X7_value_165, e_X7_value_166, e_X7_value_168, e_X7_value_170, e_X7_value_171, e_X7_value_252, e_X7_value_254, e_X7_value_257, e_X7_value_259, e_X7_value_262, e_X7_value_263, e_X7_value_266, e_X7_value_267, e_X7_value_269, e_X7_value_272, e_X7_value_274, e_X7_value_277, e_X7_value_279, e_X7_value_282, e_X7_value_283, e_X7_value_286, e_X7_value_287, e_X7_value_289, e_X7_value_292, e_X7_value_294, e_X7_value_296, e_X7_value_299, e_X7_value_300, e_X7_value_303, e_X7_value_304, e_X7_value_306, e_X7_value_309, e_X7_value_311, e_X7_value_313, e_X7_value_316, e_X7_value_317, e_X7_value_320, e_X7_value_321, e_X7_value_323, e_X7_value_326, e_X7_value_328, e_X7_value_330, e_X7_value_333, e_X7_value_334, e_X7_value_337, e_X7_value_338, e_X7_value_340, e_X7_value_343, e_X7_value_345, e_X7_value_347, e_X7_value_348, e_X7_value_350, e_X7_value_353, e_X7_value_355, e_X7_value_357, e_X7_value_358, e_X7_value_360, e_X7_value_363, e_X7_value_365, e_X7_value_367, e_X7_value_368, e_X7_value_370, e_X7_value_373, e_X7_value_375, e_X7_value_378, e_X7_value_379, e_X7_value_382, e_X7_value_384, e_X7_value_386, e_X7_value_387, e_X7_value_389, e_X7_value_392, e_X7_value_394, e_X7_value_397, e_X7_value_398, e_X7_value_401, e_X7_value_403, e_X7_value_405, e_X7_value_406, e_X7_value_408, e_X7_value_409, e_X7_value_412, e_X7_value_414, e_X7_value_415, e_X7_value_416, e_X7_value_418, e_X7_value_419, e_X7_value_422, e_X7_value_425, e_X7_value_427, e_X7_value_428, e_X7_value_431, e_X7_value_432, e_X7_value_435, e_X7_value_437, e_X7_value_438, e_X7_value_439, e_X7_value_440, e_X7_value_443, e_X7_value_444, vi, vl, vr, ix_push, ix_iload, ix_lload, ix_aload, ix_istore, ix_astore, ix_iinc, ix_bin, ix_div, ix_un, ix_i2l, ix_l2i, ix_lbin, ix_lsh, ix_lcmp, ix_dup, ix_dup2, ix_pop, ix_if, ix_cmp, ix_goto, ix_switch, ix_sw, ix_iret, ix_zret, ix_vret, ix_aret, ix_geti, ix_getr, ix_puti, ix_putz, ix_puts, ix_gets, ix_iald, ix_iast, ix_alen, ix_aald, ix_gval, ix_gcod, ix_bald, ix_blen, ix_sald, ix_nret, ix_math2, ix_math1, ix_acopy, Nat.add_assoc, Int32.reduceLT, Int32.reduceLE, Int32.reduceToNatClampNeg, Int32.reduceSub, Int32.reduceAdd, Nat.reduceAdd, Nat.reduceLeDiff, true_or, or_true, or_false, false_or, not_false_eq_true, not_true_eq_false, false_implies, true_implies, implies_true, and_self, mB_0, mB_01, Classical.not_not, Nat.zero_le, List.getElem?_cons_zero, List.getElem?_cons_succ, List.set_cons_zero, List.set_cons_succ, ix_nl, ix_cs, true_and, and_true, Option.toList_some, Option.toList_none, List.cons_append, List.nil_append, hck, hstep, hnlt, hin, ht, hA, hB, hC, hD, hE]
      exact ⟨fun z => key _ (by simp [z]), fun z => key _ (by simp [z])⟩
    · obtain ⟨y, x, r, rfl⟩ : ∃ y x r, s = y :: x :: r := by
        match s, hn2 with
        | y :: x :: r, _ => exact ⟨y, x, r, rfl⟩
      simp only [List.length_cons] at hn ⊢
      have hA : ¬ nI (r.length + 1 + 1) < 2 := nI_nlt (b := 2) (by omega) (by omega)
      have hA2 : ¬ nI (r.length + 1 + 1) < 1 := nI_nlt (b := 1) (by omega) (by omega)
      have hB := pk_m1 (r.length + 1)
      have hB2 := nI_pred r.length
      have hC : (nI r.length).toNatClampNeg = r.length := nI_clamp (by omega)
      have hC2 : (nI (r.length + 1)).toNatClampNeg = r.length + 1 := nI_clamp (by omega)
      have hD : vp_in (nI r.length) 50 := vp_in_nI (by omega) (by decide)
      have hD2 : vp_in (nI (r.length + 1)) 50 := vp_in_nI (by omega) (by decide)
      have hE : μ1 (t + 3) (r.length + 1) = y := hS.top
      have hE2 := hS.pop.top
      have key : ∀ v x8' x9' x10', v = mDone d x y → ix_Ev o_X7_value Q (24, [some (vr 6 t), some (vi a), some (vi b), some (vi c), some (vr 20 (t + 2)), some (vi (nI N)), some (vi (nI (r.length + 1))), some (vi (nI k + 1)), x8', x9', x10'], [], ix_up μ1 (t + 3) r.length v) := by
        intro v x8' x9' x10' hv
        have := ih (k + 1) (v :: r) (ix_up μ1 (t + 3) r.length v) x8' x9' x10' (by omega) (by simp; omega) (by simpa using hwf) (hF.up (by simp)) hcode' (hS.pop.pop.push v) (fun μ' h => by
          have h2 := hQ μ' h
          have hs : tStep a b c d (y :: x :: r) = mDone d x y :: r := by
            rcases hb with rfl | rfl | rfl | rfl | rfl | rfl | rfl | rfl | rfl | rfl <;> (simp (decide := true) only [tStep, if_false])
          simp only [tEval, hs] at h2
          rw [hv]
          exact h2)
        rw [nI_1]
        exact this
      rcases hb with rfl | rfl | rfl | rfl | rfl | rfl | rfl | rfl | rfl | rfl
      · have hst : tCls 20000 = -124 := by decide
        rw [hst] at hstep
        simp (decide := true) only [e_X7_value_0, e_X7_value_1, e_X7_value_4, e_X7_value_7, e_X7_value_9, e_X7_value_10, e_X7_value_13, e_X7_value_16, e_X7_value_18, e_X7_value_19, e_X7_value_21, e_X7_value_22, e_X7_value_26, e_X7_value_28, e_X7_value_31, e_X7_value_33, e_X7_value_35, e_X7_value_36, e_X7_value_38, e_X7_value_40, e_X7_value_42, e_X7_value_45, e_X7_value_47, e_X7_value_49, e_X7_value_52, e_X7_value_53, e_X7_value_56, e_X7_value_58, e_X7_value_60, e_X7_value_63, e_X7_value_65, e_X7_value_68, e_X7_value_70, e_X7_value_71, e_X7_value_74, e_X7_value_75, e_X7_value_78, e_X7_value_80, e_X7_value_82, e_X7_value_85, e_X7_value_86, e_X7_value_89, e_X7_value_90, e_X7_value_91, e_X7_value_94, e_X7_value_97, e_X7_value_99, e_X7_value_101, e_X7_value_104, e_X7_value_106, e_X7_value_107, e_X7_value_110, e_X7_value_111, e_X7_value_114, e_X7_value_116, e_X7_value_117, e_X7_value_118, e_X7_value_119, e_X7_value_122, e_X7_value_124, e_X7_value_125, e_X7_value_126, e_X7_value_127, e_X7_value_130, e_X7_value_131, e_X7_value_134, e_X7_value_135, e_X7_value_136, e_X7_value_139, e_X7_value_141, e_X7_value_142, e_X7_value_145, e_X7_value_148, e_X7_value_149, e_X7_value_152, e_X7_value_154, e_X7_value_155, e_X7_value_156, e_X7_value_157, e_X7_value_159, e_X7_value_160, e_X7_value_163, e_X7_value_165, e_X7_value_166, e_X7_value_168, e_X7_value_170, e_X7_value_171, e_X7_value_252, e_X7_value_254, e_X7_value_257, e_X7_value_259, e_X7_value_262, e_X7_value_263, e_X7_value_266, e_X7_value_267, e_X7_value_269, e_X7_value_272, e_X7_value_274, e_X7_value_277, e_X7_value_279, e_X7_value_282, e_X7_value_283, e_X7_value_286, e_X7_value_287, e_X7_value_289, e_X7_value_292, e_X7_value_294, e_X7_value_296, e_X7_value_299, e_X7_value_300, e_X7_value_303, e_X7_value_304, e_X7_value_306, e_X7_value_309, e_X7_value_311, e_X7_value_313, e_X7_value_316, e_X7_value_317, e_X7_value_320, e_X7_value_321, e_X7_value_323, e_X7_value_326, e_X7_value_328, e_X7_value_330, e_X7_value_333, e_X7_value_334, e_X7_value_337, e_X7_value_338, e_X7_value_340, e_X7_value_343, e_X7_value_345, e_X7_value_347, e_X7_value_348, e_X7_value_350, e_X7_value_353, e_X7_value_355, e_X7_value_357, e_X7_value_358, e_X7_value_360, e_X7_value_363, e_X7_value_365, e_X7_value_367, e_X7_value_368, e_X7_value_370, e_X7_value_373, e_X7_value_375, e_X7_value_378, e_X7_value_379, e_X7_value_382, e_X7_value_384, e_X7_value_386, e_X7_value_387, e_X7_value_389, e_X7_value_392, e_X7_value_394, e_X7_value_397, e_X7_value_398, e_X7_value_401, e_X7_value_403, e_X7_value_405, e_X7_value_406, e_X7_value_408, e_X7_value_409, e_X7_value_412, e_X7_value_414, e_X7_value_415, e_X7_value_416, e_X7_value_418, e_X7_value_419, e_X7_value_422, e_X7_value_425, e_X7_value_427, e_X7_value_428, e_X7_value_431, e_X7_value_432, e_X7_value_435, e_X7_value_437, e_X7_value_438, e_X7_value_439, e_X7_value_440, e_X7_value_443, e_X7_value_444, vi, vl, vr, ix_push, ix_iload, ix_lload, ix_aload, ix_istore, ix_astore, ix_iinc, ix_bin, ix_div, ix_un, ix_i2l, ix_l2i, ix_lbin, ix_lsh, ix_lcmp, ix_dup, ix_dup2, ix_pop, ix_if, ix_cmp, ix_goto, ix_switch, ix_sw, ix_iret, ix_zret, ix_vret, ix_aret, ix_geti, ix_getr, ix_puti, ix_putz, ix_puts, ix_gets, ix_iald, ix_iast, ix_alen, ix_aald, ix_gval, ix_gcod, ix_bald, ix_blen, ix_sald, ix_nret, ix_math2, ix_math1, ix_acopy, Nat.add_assoc, Int32.reduceLT, Int32.reduceLE, Int32.reduceToNatClampNeg, Int32.reduceSub, Int32.reduceAdd, Nat.reduceAdd, Nat.reduceLeDiff, true_or, or_true, or_false, false_or, not_false_eq_true, not_true_eq_false, false_implies, true_implies, implies_true, and_self, mB_0, mB_01, Classical.not_not, Nat.zero_le, List.getElem?_cons_zero, List.getElem?_cons_succ, List.set_cons_zero, List.set_cons_succ, ix_nl, ix_cs, true_and, and_true, Option.toList_some, Option.toList_none, List.cons_append, List.nil_append, hck, hstep, hnlt, hin, ht, hA, hA2, hB, hB2, hC, hC2, hD, hD2, hE, hE2]
        repeat' (first | (with_reducible assumption) | (with_reducible refine key _ _ _ _ ?_) | refine And.intro ?_ ?_ | intro _)
        all_goals (simp (decide := true) only [mDone, if_true, if_false, *])
      · have hst : tCls 20001 = -38 := by decide
        rw [hst] at hstep
        simp (decide := true) only [e_X7_value_0, e_X7_value_1, e_X7_value_4, e_X7_value_7, e_X7_value_9, e_X7_value_10, e_X7_value_13, e_X7_value_16, e_X7_value_18, e_X7_value_19, e_X7_value_21, e_X7_value_22, e_X7_value_26, e_X7_value_28, e_X7_value_31, e_X7_value_33, e_X7_value_35, e_X7_value_36, e_X7_value_38, e_X7_value_40, e_X7_value_42, e_X7_value_45, e_X7_value_47, e_X7_value_49, e_X7_value_52, e_X7_value_53, e_X7_value_56, e_X7_value_58, e_X7_value_60, e_X7_value_63, e_X7_value_65, e_X7_value_68, e_X7_value_70, e_X7_value_71, e_X7_value_74, e_X7_value_75, e_X7_value_78, e_X7_value_80, e_X7_value_82, e_X7_value_85, e_X7_value_86, e_X7_value_89, e_X7_value_90, e_X7_value_91, e_X7_value_94, e_X7_value_97, e_X7_value_99, e_X7_value_101, e_X7_value_104, e_X7_value_106, e_X7_value_107, e_X7_value_110, e_X7_value_111, e_X7_value_114, e_X7_value_116, e_X7_value_117, e_X7_value_118, e_X7_value_119, e_X7_value_122, e_X7_value_124, e_X7_value_125, e_X7_value_126, e_X7_value_127, e_X7_value_130, e_X7_value_131, e_X7_value_134, e_X7_value_135, e_X7_value_136, e_X7_value_139, e_X7_value_141, e_X7_value_142, e_X7_value_145, e_X7_value_148, e_X7_value_149, e_X7_value_152, e_X7_value_154, e_X7_value_155, e_X7_value_156, e_X7_value_157, e_X7_value_159, e_X7_value_160, e_X7_value_163, e_X7_value_165, e_X7_value_166, e_X7_value_168, e_X7_value_170, e_X7_value_171, e_X7_value_252, e_X7_value_254, e_X7_value_257, e_X7_value_259, e_X7_value_262, e_X7_value_263, e_X7_value_266, e_X7_value_267, e_X7_value_269, e_X7_value_272, e_X7_value_274, e_X7_value_277, e_X7_value_279, e_X7_value_282, e_X7_value_283, e_X7_value_286, e_X7_value_287, e_X7_value_289, e_X7_value_292, e_X7_value_294, e_X7_value_296, e_X7_value_299, e_X7_value_300, e_X7_value_303, e_X7_value_304, e_X7_value_306, e_X7_value_309, e_X7_value_311, e_X7_value_313, e_X7_value_316, e_X7_value_317, e_X7_value_320, e_X7_value_321, e_X7_value_323, e_X7_value_326, e_X7_value_328, e_X7_value_330, e_X7_value_333, e_X7_value_334, e_X7_value_337, e_X7_value_338, e_X7_value_340, e_X7_value_343, e_X7_value_345, e_X7_value_347, e_X7_value_348, e_X7_value_350, e_X7_value_353, e_X7_value_355, e_X7_value_357, e_X7_value_358, e_X7_value_360, e_X7_value_363, e_X7_value_365, e_X7_value_367, e_X7_value_368, e_X7_value_370, e_X7_value_373, e_X7_value_375, e_X7_value_378, e_X7_value_379, e_X7_value_382, e_X7_value_384, e_X7_value_386, e_X7_value_387, e_X7_value_389, e_X7_value_392, e_X7_value_394, e_X7_value_397, e_X7_value_398, e_X7_value_401, e_X7_value_403, e_X7_value_405, e_X7_value_406, e_X7_value_408, e_X7_value_409, e_X7_value_412, e_X7_value_414, e_X7_value_415, e_X7_value_416, e_X7_value_418, e_X7_value_419, e_X7_value_422, e_X7_value_425, e_X7_value_427, e_X7_value_428, e_X7_value_431, e_X7_value_432, e_X7_value_435, e_X7_value_437, e_X7_value_438, e_X7_value_439, e_X7_value_440, e_X7_value_443, e_X7_value_444, vi, vl, vr, ix_push, ix_iload, ix_lload, ix_aload, ix_istore, ix_astore, ix_iinc, ix_bin, ix_div, ix_un, ix_i2l, ix_l2i, ix_lbin, ix_lsh, ix_lcmp, ix_dup, ix_dup2, ix_pop, ix_if, ix_cmp, ix_goto, ix_switch, ix_sw, ix_iret, ix_zret, ix_vret, ix_aret, ix_geti, ix_getr, ix_puti, ix_putz, ix_puts, ix_gets, ix_iald, ix_iast, ix_alen, ix_aald, ix_gval, ix_gcod, ix_bald, ix_blen, ix_sald, ix_nret, ix_math2, ix_math1, ix_acopy, Nat.add_assoc, Int32.reduceLT, Int32.reduceLE, Int32.reduceToNatClampNeg, Int32.reduceSub, Int32.reduceAdd, Nat.reduceAdd, Nat.reduceLeDiff, true_or, or_true, or_false, false_or, not_false_eq_true, not_true_eq_false, false_implies, true_implies, implies_true, and_self, mB_0, mB_01, Classical.not_not, Nat.zero_le, List.getElem?_cons_zero, List.getElem?_cons_succ, List.set_cons_zero, List.set_cons_succ, ix_nl, ix_cs, true_and, and_true, Option.toList_some, Option.toList_none, List.cons_append, List.nil_append, hck, hstep, hnlt, hin, ht, hA, hA2, hB, hB2, hC, hC2, hD, hD2, hE, hE2]
        repeat' (first | (with_reducible assumption) | (with_reducible refine key _ _ _ _ ?_) | refine And.intro ?_ ?_ | intro _)
        all_goals (simp (decide := true) only [mDone, if_true, if_false, *])
      · have hst : tCls 20002 = -60 := by decide
        rw [hst] at hstep
        simp (decide := true) only [e_X7_value_0, e_X7_value_1, e_X7_value_4, e_X7_value_7, e_X7_value_9, e_X7_value_10, e_X7_value_13, e_X7_value_16, e_X7_value_18, e_X7_value_19, e_X7_value_21, e_X7_value_22, e_X7_value_26, e_X7_value_28, e_X7_value_31, e_X7_value_33, e_X7_value_35, e_X7_value_36, e_X7_value_38, e_X7_value_40, e_X7_value_42, e_X7_value_45, e_X7_value_47, e_X7_value_49, e_X7_value_52, e_X7_value_53, e_X7_value_56, e_X7_value_58, e_X7_value_60, e_X7_value_63, e_X7_value_65, e_X7_value_68, e_X7_value_70, e_X7_value_71, e_X7_value_74, e_X7_value_75, e_X7_value_78, e_X7_value_80, e_X7_value_82, e_X7_value_85, e_X7_value_86, e_X7_value_89, e_X7_value_90, e_X7_value_91, e_X7_value_94, e_X7_value_97, e_X7_value_99, e_X7_value_101, e_X7_value_104, e_X7_value_106, e_X7_value_107, e_X7_value_110, e_X7_value_111, e_X7_value_114, e_X7_value_116, e_X7_value_117, e_X7_value_118, e_X7_value_119, e_X7_value_122, e_X7_value_124, e_X7_value_125, e_X7_value_126, e_X7_value_127, e_X7_value_130, e_X7_value_131, e_X7_value_134, e_X7_value_135, e_X7_value_136, e_X7_value_139, e_X7_value_141, e_X7_value_142, e_X7_value_145, e_X7_value_148, e_X7_value_149, e_X7_value_152, e_X7_value_154, e_X7_value_155, e_X7_value_156, e_X7_value_157, e_X7_value_159, e_X7_value_160, e_X7_value_163, e_X7_value_165, e_X7_value_166, e_X7_value_168, e_X7_value_170, e_X7_value_171, e_X7_value_252, e_X7_value_254, e_X7_value_257, e_X7_value_259, e_X7_value_262, e_X7_value_263, e_X7_value_266, e_X7_value_267, e_X7_value_269, e_X7_value_272, e_X7_value_274, e_X7_value_277, e_X7_value_279, e_X7_value_282, e_X7_value_283, e_X7_value_286, e_X7_value_287, e_X7_value_289, e_X7_value_292, e_X7_value_294, e_X7_value_296, e_X7_value_299, e_X7_value_300, e_X7_value_303, e_X7_value_304, e_X7_value_306, e_X7_value_309, e_X7_value_311, e_X7_value_313, e_X7_value_316, e_X7_value_317, e_X7_value_320, e_X7_value_321, e_X7_value_323, e_X7_value_326, e_X7_value_328, e_X7_value_330, e_X7_value_333, e_X7_value_334, e_X7_value_337, e_X7_value_338, e_X7_value_340, e_X7_value_343, e_X7_value_345, e_X7_value_347, e_X7_value_348, e_X7_value_350, e_X7_value_353, e_X7_value_355, e_X7_value_357, e_X7_value_358, e_X7_value_360, e_X7_value_363, e_X7_value_365, e_X7_value_367, e_X7_value_368, e_X7_value_370, e_X7_value_373, e_X7_value_375, e_X7_value_378, e_X7_value_379, e_X7_value_382, e_X7_value_384, e_X7_value_386, e_X7_value_387, e_X7_value_389, e_X7_value_392, e_X7_value_394, e_X7_value_397, e_X7_value_398, e_X7_value_401, e_X7_value_403, e_X7_value_405, e_X7_value_406, e_X7_value_408, e_X7_value_409, e_X7_value_412, e_X7_value_414, e_X7_value_415, e_X7_value_416, e_X7_value_418, e_X7_value_419, e_X7_value_422, e_X7_value_425, e_X7_value_427, e_X7_value_428, e_X7_value_431, e_X7_value_432, e_X7_value_435, e_X7_value_437, e_X7_value_438, e_X7_value_439, e_X7_value_440, e_X7_value_443, e_X7_value_444, vi, vl, vr, ix_push, ix_iload, ix_lload, ix_aload, ix_istore, ix_astore, ix_iinc, ix_bin, ix_div, ix_un, ix_i2l, ix_l2i, ix_lbin, ix_lsh, ix_lcmp, ix_dup, ix_dup2, ix_pop, ix_if, ix_cmp, ix_goto, ix_switch, ix_sw, ix_iret, ix_zret, ix_vret, ix_aret, ix_geti, ix_getr, ix_puti, ix_putz, ix_puts, ix_gets, ix_iald, ix_iast, ix_alen, ix_aald, ix_gval, ix_gcod, ix_bald, ix_blen, ix_sald, ix_nret, ix_math2, ix_math1, ix_acopy, Nat.add_assoc, Int32.reduceLT, Int32.reduceLE, Int32.reduceToNatClampNeg, Int32.reduceSub, Int32.reduceAdd, Nat.reduceAdd, Nat.reduceLeDiff, true_or, or_true, or_false, false_or, not_false_eq_true, not_true_eq_false, false_implies, true_implies, implies_true, and_self, mB_0, mB_01, Classical.not_not, Nat.zero_le, List.getElem?_cons_zero, List.getElem?_cons_succ, List.set_cons_zero, List.set_cons_succ, ix_nl, ix_cs, true_and, and_true, Option.toList_some, Option.toList_none, List.cons_append, List.nil_append, hck, hstep, hnlt, hin, ht, hA, hA2, hB, hB2, hC, hC2, hD, hD2, hE, hE2]
        repeat' (first | (with_reducible assumption) | (with_reducible refine key _ _ _ _ ?_) | refine And.intro ?_ ?_ | intro _)
        all_goals (simp (decide := true) only [mDone, if_true, if_false, *])
      · have hst : tCls 20003 = -61 := by decide
        rw [hst] at hstep
        simp (decide := true) only [e_X7_value_0, e_X7_value_1, e_X7_value_4, e_X7_value_7, e_X7_value_9, e_X7_value_10, e_X7_value_13, e_X7_value_16, e_X7_value_18, e_X7_value_19, e_X7_value_21, e_X7_value_22, e_X7_value_26, e_X7_value_28, e_X7_value_31, e_X7_value_33, e_X7_value_35, e_X7_value_36, e_X7_value_38, e_X7_value_40, e_X7_value_42, e_X7_value_45, e_X7_value_47, e_X7_value_49, e_X7_value_52, e_X7_value_53, e_X7_value_56, e_X7_value_58, e_X7_value_60, e_X7_value_63, e_X7_value_65, e_X7_value_68, e_X7_value_70, e_X7_value_71, e_X7_value_74, e_X7_value_75, e_X7_value_78, e_X7_value_80, e_X7_value_82, e_X7_value_85, e_X7_value_86, e_X7_value_89, e_X7_value_90, e_X7_value_91, e_X7_value_94, e_X7_value_97, e_X7_value_99, e_X7_value_101, e_X7_value_104, e_X7_value_106, e_X7_value_107, e_X7_value_110, e_X7_value_111, e_X7_value_114, e_X7_value_116, e_X7_value_117, e_X7_value_118, e_X7_value_119, e_X7_value_122, e_X7_value_124, e_X7_value_125, e_X7_value_126, e_X7_value_127, e_X7_value_130, e_X7_value_131, e_X7_value_134, e_X7_value_135, e_X7_value_136, e_X7_value_139, e_X7_value_141, e_X7_value_142, e_X7_value_145, e_X7_value_148, e_X7_value_149, e_X7_value_152, e_X7_value_154, e_X7_value_155, e_X7_value_156, e_X7_value_157, e_X7_value_159, e_X7_value_160, e_X7_value_163, e_X7_value_165, e_X7_value_166, e_X7_value_168, e_X7_value_170, e_X7_value_171, e_X7_value_252, e_X7_value_254, e_X7_value_257, e_X7_value_259, e_X7_value_262, e_X7_value_263, e_X7_value_266, e_X7_value_267, e_X7_value_269, e_X7_value_272, e_X7_value_274, e_X7_value_277, e_X7_value_279, e_X7_value_282, e_X7_value_283, e_X7_value_286, e_X7_value_287, e_X7_value_289, e_X7_value_292, e_X7_value_294, e_X7_value_296, e_X7_value_299, e_X7_value_300, e_X7_value_303, e_X7_value_304, e_X7_value_306, e_X7_value_309, e_X7_value_311, e_X7_value_313, e_X7_value_316, e_X7_value_317, e_X7_value_320, e_X7_value_321, e_X7_value_323, e_X7_value_326, e_X7_value_328, e_X7_value_330, e_X7_value_333, e_X7_value_334, e_X7_value_337, e_X7_value_338, e_X7_value_340, e_X7_value_343, e_X7_value_345, e_X7_value_347, e_X7_value_348, e_X7_value_350, e_X7_value_353, e_X7_value_355, e_X7_value_357, e_X7_value_358, e_X7_value_360, e_X7_value_363, e_X7_value_365, e_X7_value_367, e_X7_value_368, e_X7_value_370, e_X7_value_373, e_X7_value_375, e_X7_value_378, e_X7_value_379, e_X7_value_382, e_X7_value_384, e_X7_value_386, e_X7_value_387, e_X7_value_389, e_X7_value_392, e_X7_value_394, e_X7_value_397, e_X7_value_398, e_X7_value_401, e_X7_value_403, e_X7_value_405, e_X7_value_406, e_X7_value_408, e_X7_value_409, e_X7_value_412, e_X7_value_414, e_X7_value_415, e_X7_value_416, e_X7_value_418, e_X7_value_419, e_X7_value_422, e_X7_value_425, e_X7_value_427, e_X7_value_428, e_X7_value_431, e_X7_value_432, e_X7_value_435, e_X7_value_437, e_X7_value_438, e_X7_value_439, e_X7_value_440, e_X7_value_443, e_X7_value_444, vi, vl, vr, ix_push, ix_iload, ix_lload, ix_aload, ix_istore, ix_astore, ix_iinc, ix_bin, ix_div, ix_un, ix_i2l, ix_l2i, ix_lbin, ix_lsh, ix_lcmp, ix_dup, ix_dup2, ix_pop, ix_if, ix_cmp, ix_goto, ix_switch, ix_sw, ix_iret, ix_zret, ix_vret, ix_aret, ix_geti, ix_getr, ix_puti, ix_putz, ix_puts, ix_gets, ix_iald, ix_iast, ix_alen, ix_aald, ix_gval, ix_gcod, ix_bald, ix_blen, ix_sald, ix_nret, ix_math2, ix_math1, ix_acopy, Nat.add_assoc, Int32.reduceLT, Int32.reduceLE, Int32.reduceToNatClampNeg, Int32.reduceSub, Int32.reduceAdd, Nat.reduceAdd, Nat.reduceLeDiff, true_or, or_true, or_false, false_or, not_false_eq_true, not_true_eq_false, false_implies, true_implies, implies_true, and_self, mB_0, mB_01, Classical.not_not, Nat.zero_le, List.getElem?_cons_zero, List.getElem?_cons_succ, List.set_cons_zero, List.set_cons_succ, ix_nl, ix_cs, true_and, and_true, Option.toList_some, Option.toList_none, List.cons_append, List.nil_append, hck, hstep, hnlt, hin, ht, hA, hA2, hB, hB2, hC, hC2, hD, hD2, hE, hE2]
        repeat' (first | (with_reducible assumption) | (with_reducible refine key _ _ _ _ ?_) | refine And.intro ?_ ?_ | intro _)
        all_goals (simp (decide := true) only [mDone, if_true, if_false, *])
      · have hst : tCls 20004 = -62 := by decide
        rw [hst] at hstep
        simp (decide := true) only [e_X7_value_0, e_X7_value_1, e_X7_value_4, e_X7_value_7, e_X7_value_9, e_X7_value_10, e_X7_value_13, e_X7_value_16, e_X7_value_18, e_X7_value_19, e_X7_value_21, e_X7_value_22, e_X7_value_26, e_X7_value_28, e_X7_value_31, e_X7_value_33, e_X7_value_35, e_X7_value_36, e_X7_value_38, e_X7_value_40, e_X7_value_42, e_X7_value_45, e_X7_value_47, e_X7_value_49, e_X7_value_52, e_X7_value_53, e_X7_value_56, e_X7_value_58, e_X7_value_60, e_X7_value_63, e_X7_value_65, e_X7_value_68, e_X7_value_70, e_X7_value_71, e_X7_value_74, e_X7_value_75, e_X7_value_78, e_X7_value_80, e_X7_value_82, e_X7_value_85, e_X7_value_86, e_X7_value_89, e_X7_value_90, e_X7_value_91, e_X7_value_94, e_X7_value_97, e_X7_value_99, e_X7_value_101, e_X7_value_104, e_X7_value_106, e_X7_value_107, e_X7_value_110, e_X7_value_111, e_X7_value_114, e_X7_value_116, e_X7_value_117, e_X7_value_118, e_X7_value_119, e_X7_value_122, e_X7_value_124, e_X7_value_125, e_X7_value_126, e_X7_value_127, e_X7_value_130, e_X7_value_131, e_X7_value_134, e_X7_value_135, e_X7_value_136, e_X7_value_139, e_X7_value_141, e_X7_value_142, e_X7_value_145, e_X7_value_148, e_X7_value_149, e_X7_value_152, e_X7_value_154, e_X7_value_155, e_X7_value_156, e_X7_value_157, e_X7_value_159, e_X7_value_160, e_X7_value_163, e_X7_value_165, e_X7_value_166, e_X7_value_168, e_X7_value_170, e_X7_value_171, e_X7_value_252, e_X7_value_254, e_X7_value_257, e_X7_value_259, e_X7_value_262, e_X7_value_263, e_X7_value_266, e_X7_value_267, e_X7_value_269, e_X7_value_272, e_X7_value_274, e_X7_value_277, e_X7_value_279, e_X7_value_282, e_X7_value_283, e_X7_value_286, e_X7_value_287, e_X7_value_289, e_X7_value_292, e_X7_value_294, e_X7_value_296, e_X7_value_299, e_X7_value_300, e_X7_value_303, e_X7_value_304, e_X7_value_306, e_X7_value_309, e_X7_value_311, e_X7_value_313, e_X7_value_316, e_X7_value_317, e_X7_value_320, e_X7_value_321, e_X7_value_323, e_X7_value_326, e_X7_value_328, e_X7_value_330, e_X7_value_333, e_X7_value_334, e_X7_value_337, e_X7_value_338, e_X7_value_340, e_X7_value_343, e_X7_value_345, e_X7_value_347, e_X7_value_348, e_X7_value_350, e_X7_value_353, e_X7_value_355, e_X7_value_357, e_X7_value_358, e_X7_value_360, e_X7_value_363, e_X7_value_365, e_X7_value_367, e_X7_value_368, e_X7_value_370, e_X7_value_373, e_X7_value_375, e_X7_value_378, e_X7_value_379, e_X7_value_382, e_X7_value_384, e_X7_value_386, e_X7_value_387, e_X7_value_389, e_X7_value_392, e_X7_value_394, e_X7_value_397, e_X7_value_398, e_X7_value_401, e_X7_value_403, e_X7_value_405, e_X7_value_406, e_X7_value_408, e_X7_value_409, e_X7_value_412, e_X7_value_414, e_X7_value_415, e_X7_value_416, e_X7_value_418, e_X7_value_419, e_X7_value_422, e_X7_value_425, e_X7_value_427, e_X7_value_428, e_X7_value_431, e_X7_value_432, e_X7_value_435, e_X7_value_437, e_X7_value_438, e_X7_value_439, e_X7_value_440, e_X7_value_443, e_X7_value_444, vi, vl, vr, ix_push, ix_iload, ix_lload, ix_aload, ix_istore, ix_astore, ix_iinc, ix_bin, ix_div, ix_un, ix_i2l, ix_l2i, ix_lbin, ix_lsh, ix_lcmp, ix_dup, ix_dup2, ix_pop, ix_if, ix_cmp, ix_goto, ix_switch, ix_sw, ix_iret, ix_zret, ix_vret, ix_aret, ix_geti, ix_getr, ix_puti, ix_putz, ix_puts, ix_gets, ix_iald, ix_iast, ix_alen, ix_aald, ix_gval, ix_gcod, ix_bald, ix_blen, ix_sald, ix_nret, ix_math2, ix_math1, ix_acopy, Nat.add_assoc, Int32.reduceLT, Int32.reduceLE, Int32.reduceToNatClampNeg, Int32.reduceSub, Int32.reduceAdd, Nat.reduceAdd, Nat.reduceLeDiff, true_or, or_true, or_false, false_or, not_false_eq_true, not_true_eq_false, false_implies, true_implies, implies_true, and_self, mB_0, mB_01, Classical.not_not, Nat.zero_le, List.getElem?_cons_zero, List.getElem?_cons_succ, List.set_cons_zero, List.set_cons_succ, ix_nl, ix_cs, true_and, and_true, Option.toList_some, Option.toList_none, List.cons_append, List.nil_append, hck, hstep, hnlt, hin, ht, hA, hA2, hB, hB2, hC, hC2, hD, hD2, hE, hE2]
        repeat' (first | (with_reducible assumption) | (with_reducible refine key _ _ _ _ ?_) | refine And.intro ?_ ?_ | intro _)
        all_goals (simp (decide := true) only [mDone, if_true, if_false, *])
      · have hst : tCls 20005 = -43 := by decide
        rw [hst] at hstep
        simp (decide := true) only [e_X7_value_0, e_X7_value_1, e_X7_value_4, e_X7_value_7, e_X7_value_9, e_X7_value_10, e_X7_value_13, e_X7_value_16, e_X7_value_18, e_X7_value_19, e_X7_value_21, e_X7_value_22, e_X7_value_26, e_X7_value_28, e_X7_value_31, e_X7_value_33, e_X7_value_35, e_X7_value_36, e_X7_value_38, e_X7_value_40, e_X7_value_42, e_X7_value_45, e_X7_value_47, e_X7_value_49, e_X7_value_52, e_X7_value_53, e_X7_value_56, e_X7_value_58, e_X7_value_60, e_X7_value_63, e_X7_value_65, e_X7_value_68, e_X7_value_70, e_X7_value_71, e_X7_value_74, e_X7_value_75, e_X7_value_78, e_X7_value_80, e_X7_value_82, e_X7_value_85, e_X7_value_86, e_X7_value_89, e_X7_value_90, e_X7_value_91, e_X7_value_94, e_X7_value_97, e_X7_value_99, e_X7_value_101, e_X7_value_104, e_X7_value_106, e_X7_value_107, e_X7_value_110, e_X7_value_111, e_X7_value_114, e_X7_value_116, e_X7_value_117, e_X7_value_118, e_X7_value_119, e_X7_value_122, e_X7_value_124, e_X7_value_125, e_X7_value_126, e_X7_value_127, e_X7_value_130, e_X7_value_131, e_X7_value_134, e_X7_value_135, e_X7_value_136, e_X7_value_139, e_X7_value_141, e_X7_value_142, e_X7_value_145, e_X7_value_148, e_X7_value_149, e_X7_value_152, e_X7_value_154, e_X7_value_155, e_X7_value_156, e_X7_value_157, e_X7_value_159, e_X7_value_160, e_X7_value_163, e_X7_value_165, e_X7_value_166, e_X7_value_168, e_X7_value_170, e_X7_value_171, e_X7_value_252, e_X7_value_254, e_X7_value_257, e_X7_value_259, e_X7_value_262, e_X7_value_263, e_X7_value_266, e_X7_value_267, e_X7_value_269, e_X7_value_272, e_X7_value_274, e_X7_value_277, e_X7_value_279, e_X7_value_282, e_X7_value_283, e_X7_value_286, e_X7_value_287, e_X7_value_289, e_X7_value_292, e_X7_value_294, e_X7_value_296, e_X7_value_299, e_X7_value_300, e_X7_value_303, e_X7_value_304, e_X7_value_306, e_X7_value_309, e_X7_value_311, e_X7_value_313, e_X7_value_316, e_X7_value_317, e_X7_value_320, e_X7_value_321, e_X7_value_323, e_X7_value_326, e_X7_value_328, e_X7_value_330, e_X7_value_333, e_X7_value_334, e_X7_value_337, e_X7_value_338, e_X7_value_340, e_X7_value_343, e_X7_value_345, e_X7_value_347, e_X7_value_348, e_X7_value_350, e_X7_value_353, e_X7_value_355, e_X7_value_357, e_X7_value_358, e_X7_value_360, e_X7_value_363, e_X7_value_365, e_X7_value_367, e_X7_value_368, e_X7_value_370, e_X7_value_373, e_X7_value_375, e_X7_value_378, e_X7_value_379, e_X7_value_382, e_X7_value_384, e_X7_value_386, e_X7_value_387, e_X7_value_389, e_X7_value_392, e_X7_value_394, e_X7_value_397, e_X7_value_398, e_X7_value_401, e_X7_value_403, e_X7_value_405, e_X7_value_406, e_X7_value_408, e_X7_value_409, e_X7_value_412, e_X7_value_414, e_X7_value_415, e_X7_value_416, e_X7_value_418, e_X7_value_419, e_X7_value_422, e_X7_value_425, e_X7_value_427, e_X7_value_428, e_X7_value_431, e_X7_value_432, e_X7_value_435, e_X7_value_437, e_X7_value_438, e_X7_value_439, e_X7_value_440, e_X7_value_443, e_X7_value_444, vi, vl, vr, ix_push, ix_iload, ix_lload, ix_aload, ix_istore, ix_astore, ix_iinc, ix_bin, ix_div, ix_un, ix_i2l, ix_l2i, ix_lbin, ix_lsh, ix_lcmp, ix_dup, ix_dup2, ix_pop, ix_if, ix_cmp, ix_goto, ix_switch, ix_sw, ix_iret, ix_zret, ix_vret, ix_aret, ix_geti, ix_getr, ix_puti, ix_putz, ix_puts, ix_gets, ix_iald, ix_iast, ix_alen, ix_aald, ix_gval, ix_gcod, ix_bald, ix_blen, ix_sald, ix_nret, ix_math2, ix_math1, ix_acopy, Nat.add_assoc, Int32.reduceLT, Int32.reduceLE, Int32.reduceToNatClampNeg, Int32.reduceSub, Int32.reduceAdd, Nat.reduceAdd, Nat.reduceLeDiff, true_or, or_true, or_false, false_or, not_false_eq_true, not_true_eq_false, false_implies, true_implies, implies_true, and_self, mB_0, mB_01, Classical.not_not, Nat.zero_le, List.getElem?_cons_zero, List.getElem?_cons_succ, List.set_cons_zero, List.set_cons_succ, ix_nl, ix_cs, true_and, and_true, Option.toList_some, Option.toList_none, List.cons_append, List.nil_append, hck, hstep, hnlt, hin, ht, hA, hA2, hB, hB2, hC, hC2, hD, hD2, hE, hE2]
        repeat' (first | (with_reducible assumption) | (with_reducible refine key _ _ _ _ ?_) | refine And.intro ?_ ?_ | intro _)
        all_goals (simp (decide := true) only [mDone, if_true, if_false, *])
      · have hst : tCls 20006 = -45 := by decide
        rw [hst] at hstep
        simp (decide := true) only [e_X7_value_0, e_X7_value_1, e_X7_value_4, e_X7_value_7, e_X7_value_9, e_X7_value_10, e_X7_value_13, e_X7_value_16, e_X7_value_18, e_X7_value_19, e_X7_value_21, e_X7_value_22, e_X7_value_26, e_X7_value_28, e_X7_value_31, e_X7_value_33, e_X7_value_35, e_X7_value_36, e_X7_value_38, e_X7_value_40, e_X7_value_42, e_X7_value_45, e_X7_value_47, e_X7_value_49, e_X7_value_52, e_X7_value_53, e_X7_value_56, e_X7_value_58, e_X7_value_60, e_X7_value_63, e_X7_value_65, e_X7_value_68, e_X7_value_70, e_X7_value_71, e_X7_value_74, e_X7_value_75, e_X7_value_78, e_X7_value_80, e_X7_value_82, e_X7_value_85, e_X7_value_86, e_X7_value_89, e_X7_value_90, e_X7_value_91, e_X7_value_94, e_X7_value_97, e_X7_value_99, e_X7_value_101, e_X7_value_104, e_X7_value_106, e_X7_value_107, e_X7_value_110, e_X7_value_111, e_X7_value_114, e_X7_value_116, e_X7_value_117, e_X7_value_118, e_X7_value_119, e_X7_value_122, e_X7_value_124, e_X7_value_125, e_X7_value_126, e_X7_value_127, e_X7_value_130, e_X7_value_131, e_X7_value_134, e_X7_value_135, e_X7_value_136, e_X7_value_139, e_X7_value_141, e_X7_value_142, e_X7_value_145, e_X7_value_148, e_X7_value_149, e_X7_value_152, e_X7_value_154, e_X7_value_155, e_X7_value_156, e_X7_value_157, e_X7_value_159, e_X7_value_160, e_X7_value_163, e_X7_value_165, e_X7_value_166, e_X7_value_168, e_X7_value_170, e_X7_value_171, e_X7_value_252, e_X7_value_254, e_X7_value_257, e_X7_value_259, e_X7_value_262, e_X7_value_263, e_X7_value_266, e_X7_value_267, e_X7_value_269, e_X7_value_272, e_X7_value_274, e_X7_value_277, e_X7_value_279, e_X7_value_282, e_X7_value_283, e_X7_value_286, e_X7_value_287, e_X7_value_289, e_X7_value_292, e_X7_value_294, e_X7_value_296, e_X7_value_299, e_X7_value_300, e_X7_value_303, e_X7_value_304, e_X7_value_306, e_X7_value_309, e_X7_value_311, e_X7_value_313, e_X7_value_316, e_X7_value_317, e_X7_value_320, e_X7_value_321, e_X7_value_323, e_X7_value_326, e_X7_value_328, e_X7_value_330, e_X7_value_333, e_X7_value_334, e_X7_value_337, e_X7_value_338, e_X7_value_340, e_X7_value_343, e_X7_value_345, e_X7_value_347, e_X7_value_348, e_X7_value_350, e_X7_value_353, e_X7_value_355, e_X7_value_357, e_X7_value_358, e_X7_value_360, e_X7_value_363, e_X7_value_365, e_X7_value_367, e_X7_value_368, e_X7_value_370, e_X7_value_373, e_X7_value_375, e_X7_value_378, e_X7_value_379, e_X7_value_382, e_X7_value_384, e_X7_value_386, e_X7_value_387, e_X7_value_389, e_X7_value_392, e_X7_value_394, e_X7_value_397, e_X7_value_398, e_X7_value_401, e_X7_value_403, e_X7_value_405, e_X7_value_406, e_X7_value_408, e_X7_value_409, e_X7_value_412, e_X7_value_414, e_X7_value_415, e_X7_value_416, e_X7_value_418, e_X7_value_419, e_X7_value_422, e_X7_value_425, e_X7_value_427, e_X7_value_428, e_X7_value_431, e_X7_value_432, e_X7_value_435, e_X7_value_437, e_X7_value_438, e_X7_value_439, e_X7_value_440, e_X7_value_443, e_X7_value_444, vi, vl, vr, ix_push, ix_iload, ix_lload, ix_aload, ix_istore, ix_astore, ix_iinc, ix_bin, ix_div, ix_un, ix_i2l, ix_l2i, ix_lbin, ix_lsh, ix_lcmp, ix_dup, ix_dup2, ix_pop, ix_if, ix_cmp, ix_goto, ix_switch, ix_sw, ix_iret, ix_zret, ix_vret, ix_aret, ix_geti, ix_getr, ix_puti, ix_putz, ix_puts, ix_gets, ix_iald, ix_iast, ix_alen, ix_aald, ix_gval, ix_gcod, ix_bald, ix_blen, ix_sald, ix_nret, ix_math2, ix_math1, ix_acopy, Nat.add_assoc, Int32.reduceLT, Int32.reduceLE, Int32.reduceToNatClampNeg, Int32.reduceSub, Int32.reduceAdd, Nat.reduceAdd, Nat.reduceLeDiff, true_or, or_true, or_false, false_or, not_false_eq_true, not_true_eq_false, false_implies, true_implies, implies_true, and_self, mB_0, mB_01, Classical.not_not, Nat.zero_le, List.getElem?_cons_zero, List.getElem?_cons_succ, List.set_cons_zero, List.set_cons_succ, ix_nl, ix_cs, true_and, and_true, Option.toList_some, Option.toList_none, List.cons_append, List.nil_append, hck, hstep, hnlt, hin, ht, hA, hA2, hB, hB2, hC, hC2, hD, hD2, hE, hE2]
        repeat' (first | (with_reducible assumption) | (with_reducible refine key _ _ _ _ ?_) | refine And.intro ?_ ?_ | intro _)
        all_goals (simp (decide := true) only [mDone, if_true, if_false, *])
      · have hst : tCls 20007 = -42 := by decide
        rw [hst] at hstep
        simp (decide := true) only [e_X7_value_0, e_X7_value_1, e_X7_value_4, e_X7_value_7, e_X7_value_9, e_X7_value_10, e_X7_value_13, e_X7_value_16, e_X7_value_18, e_X7_value_19, e_X7_value_21, e_X7_value_22, e_X7_value_26, e_X7_value_28, e_X7_value_31, e_X7_value_33, e_X7_value_35, e_X7_value_36, e_X7_value_38, e_X7_value_40, e_X7_value_42, e_X7_value_45, e_X7_value_47, e_X7_value_49, e_X7_value_52, e_X7_value_53, e_X7_value_56, e_X7_value_58, e_X7_value_60, e_X7_value_63, e_X7_value_65, e_X7_value_68, e_X7_value_70, e_X7_value_71, e_X7_value_74, e_X7_value_75, e_X7_value_78, e_X7_value_80, e_X7_value_82, e_X7_value_85, e_X7_value_86, e_X7_value_89, e_X7_value_90, e_X7_value_91, e_X7_value_94, e_X7_value_97, e_X7_value_99, e_X7_value_101, e_X7_value_104, e_X7_value_106, e_X7_value_107, e_X7_value_110, e_X7_value_111, e_X7_value_114, e_X7_value_116, e_X7_value_117, e_X7_value_118, e_X7_value_119, e_X7_value_122, e_X7_value_124, e_X7_value_125, e_X7_value_126, e_X7_value_127, e_X7_value_130, e_X7_value_131, e_X7_value_134, e_X7_value_135, e_X7_value_136, e_X7_value_139, e_X7_value_141, e_X7_value_142, e_X7_value_145, e_X7_value_148, e_X7_value_149, e_X7_value_152, e_X7_value_154, e_X7_value_155, e_X7_value_156, e_X7_value_157, e_X7_value_159, e_X7_value_160, e_X7_value_163, e_X7_value_165, e_X7_value_166, e_X7_value_168, e_X7_value_170, e_X7_value_171, e_X7_value_252, e_X7_value_254, e_X7_value_257, e_X7_value_259, e_X7_value_262, e_X7_value_263, e_X7_value_266, e_X7_value_267, e_X7_value_269, e_X7_value_272, e_X7_value_274, e_X7_value_277, e_X7_value_279, e_X7_value_282, e_X7_value_283, e_X7_value_286, e_X7_value_287, e_X7_value_289, e_X7_value_292, e_X7_value_294, e_X7_value_296, e_X7_value_299, e_X7_value_300, e_X7_value_303, e_X7_value_304, e_X7_value_306, e_X7_value_309, e_X7_value_311, e_X7_value_313, e_X7_value_316, e_X7_value_317, e_X7_value_320, e_X7_value_321, e_X7_value_323, e_X7_value_326, e_X7_value_328, e_X7_value_330, e_X7_value_333, e_X7_value_334, e_X7_value_337, e_X7_value_338, e_X7_value_340, e_X7_value_343, e_X7_value_345, e_X7_value_347, e_X7_value_348, e_X7_value_350, e_X7_value_353, e_X7_value_355, e_X7_value_357, e_X7_value_358, e_X7_value_360, e_X7_value_363, e_X7_value_365, e_X7_value_367, e_X7_value_368, e_X7_value_370, e_X7_value_373, e_X7_value_375, e_X7_value_378, e_X7_value_379, e_X7_value_382, e_X7_value_384, e_X7_value_386, e_X7_value_387, e_X7_value_389, e_X7_value_392, e_X7_value_394, e_X7_value_397, e_X7_value_398, e_X7_value_401, e_X7_value_403, e_X7_value_405, e_X7_value_406, e_X7_value_408, e_X7_value_409, e_X7_value_412, e_X7_value_414, e_X7_value_415, e_X7_value_416, e_X7_value_418, e_X7_value_419, e_X7_value_422, e_X7_value_425, e_X7_value_427, e_X7_value_428, e_X7_value_431, e_X7_value_432, e_X7_value_435, e_X7_value_437, e_X7_value_438, e_X7_value_439, e_X7_value_440, e_X7_value_443, e_X7_value_444, vi, vl, vr, ix_push, ix_iload, ix_lload, ix_aload, ix_istore, ix_astore, ix_iinc, ix_bin, ix_div, ix_un, ix_i2l, ix_l2i, ix_lbin, ix_lsh, ix_lcmp, ix_dup, ix_dup2, ix_pop, ix_if, ix_cmp, ix_goto, ix_switch, ix_sw, ix_iret, ix_zret, ix_vret, ix_aret, ix_geti, ix_getr, ix_puti, ix_putz, ix_puts, ix_gets, ix_iald, ix_iast, ix_alen, ix_aald, ix_gval, ix_gcod, ix_bald, ix_blen, ix_sald, ix_nret, ix_math2, ix_math1, ix_acopy, Nat.add_assoc, Int32.reduceLT, Int32.reduceLE, Int32.reduceToNatClampNeg, Int32.reduceSub, Int32.reduceAdd, Nat.reduceAdd, Nat.reduceLeDiff, true_or, or_true, or_false, false_or, not_false_eq_true, not_true_eq_false, false_implies, true_implies, implies_true, and_self, mB_0, mB_01, Classical.not_not, Nat.zero_le, List.getElem?_cons_zero, List.getElem?_cons_succ, List.set_cons_zero, List.set_cons_succ, ix_nl, ix_cs, true_and, and_true, Option.toList_some, Option.toList_none, List.cons_append, List.nil_append, hck, hstep, hnlt, hin, ht, hA, hA2, hB, hB2, hC, hC2, hD, hD2, hE, hE2]
        repeat' (first | (with_reducible assumption) | (with_reducible refine key _ _ _ _ ?_) | refine And.intro ?_ ?_ | intro _)
        all_goals (simp (decide := true) only [mDone, if_true, if_false, *])
      · have hst : tCls 20008 = -47 := by decide
        rw [hst] at hstep
        simp (decide := true) only [e_X7_value_0, e_X7_value_1, e_X7_value_4, e_X7_value_7, e_X7_value_9, e_X7_value_10, e_X7_value_13, e_X7_value_16, e_X7_value_18, e_X7_value_19, e_X7_value_21, e_X7_value_22, e_X7_value_26, e_X7_value_28, e_X7_value_31, e_X7_value_33, e_X7_value_35, e_X7_value_36, e_X7_value_38, e_X7_value_40, e_X7_value_42, e_X7_value_45, e_X7_value_47, e_X7_value_49, e_X7_value_52, e_X7_value_53, e_X7_value_56, e_X7_value_58, e_X7_value_60, e_X7_value_63, e_X7_value_65, e_X7_value_68, e_X7_value_70, e_X7_value_71, e_X7_value_74, e_X7_value_75, e_X7_value_78, e_X7_value_80, e_X7_value_82, e_X7_value_85, e_X7_value_86, e_X7_value_89, e_X7_value_90, e_X7_value_91, e_X7_value_94, e_X7_value_97, e_X7_value_99, e_X7_value_101, e_X7_value_104, e_X7_value_106, e_X7_value_107, e_X7_value_110, e_X7_value_111, e_X7_value_114, e_X7_value_116, e_X7_value_117, e_X7_value_118, e_X7_value_119, e_X7_value_122, e_X7_value_124, e_X7_value_125, e_X7_value_126, e_X7_value_127, e_X7_value_130, e_X7_value_131, e_X7_value_134, e_X7_value_135, e_X7_value_136, e_X7_value_139, e_X7_value_141, e_X7_value_142, e_X7_value_145, e_X7_value_148, e_X7_value_149, e_X7_value_152, e_X7_value_154, e_X7_value_155, e_X7_value_156, e_X7_value_157, e_X7_value_159, e_X7_value_160, e_X7_value_163, e_X7_value_165, e_X7_value_166, e_X7_value_168, e_X7_value_170, e_X7_value_171, e_X7_value_252, e_X7_value_254, e_X7_value_257, e_X7_value_259, e_X7_value_262, e_X7_value_263, e_X7_value_266, e_X7_value_267, e_X7_value_269, e_X7_value_272, e_X7_value_274, e_X7_value_277, e_X7_value_279, e_X7_value_282, e_X7_value_283, e_X7_value_286, e_X7_value_287, e_X7_value_289, e_X7_value_292, e_X7_value_294, e_X7_value_296, e_X7_value_299, e_X7_value_300, e_X7_value_303, e_X7_value_304, e_X7_value_306, e_X7_value_309, e_X7_value_311, e_X7_value_313, e_X7_value_316, e_X7_value_317, e_X7_value_320, e_X7_value_321, e_X7_value_323, e_X7_value_326, e_X7_value_328, e_X7_value_330, e_X7_value_333, e_X7_value_334, e_X7_value_337, e_X7_value_338, e_X7_value_340, e_X7_value_343, e_X7_value_345, e_X7_value_347, e_X7_value_348, e_X7_value_350, e_X7_value_353, e_X7_value_355, e_X7_value_357, e_X7_value_358, e_X7_value_360, e_X7_value_363, e_X7_value_365, e_X7_value_367, e_X7_value_368, e_X7_value_370, e_X7_value_373, e_X7_value_375, e_X7_value_378, e_X7_value_379, e_X7_value_382, e_X7_value_384, e_X7_value_386, e_X7_value_387, e_X7_value_389, e_X7_value_392, e_X7_value_394, e_X7_value_397, e_X7_value_398, e_X7_value_401, e_X7_value_403, e_X7_value_405, e_X7_value_406, e_X7_value_408, e_X7_value_409, e_X7_value_412, e_X7_value_414, e_X7_value_415, e_X7_value_416, e_X7_value_418, e_X7_value_419, e_X7_value_422, e_X7_value_425, e_X7_value_427, e_X7_value_428, e_X7_value_431, e_X7_value_432, e_X7_value_435, e_X7_value_437, e_X7_value_438, e_X7_value_439, e_X7_value_440, e_X7_value_443, e_X7_value_444, vi, vl, vr, ix_push, ix_iload, ix_lload, ix_aload, ix_istore, ix_astore, ix_iinc, ix_bin, ix_div, ix_un, ix_i2l, ix_l2i, ix_lbin, ix_lsh, ix_lcmp, ix_dup, ix_dup2, ix_pop, ix_if, ix_cmp, ix_goto, ix_switch, ix_sw, ix_iret, ix_zret, ix_vret, ix_aret, ix_geti, ix_getr, ix_puti, ix_putz, ix_puts, ix_gets, ix_iald, ix_iast, ix_alen, ix_aald, ix_gval, ix_gcod, ix_bald, ix_blen, ix_sald, ix_nret, ix_math2, ix_math1, ix_acopy, Nat.add_assoc, Int32.reduceLT, Int32.reduceLE, Int32.reduceToNatClampNeg, Int32.reduceSub, Int32.reduceAdd, Nat.reduceAdd, Nat.reduceLeDiff, true_or, or_true, or_false, false_or, not_false_eq_true, not_true_eq_false, false_implies, true_implies, implies_true, and_self, mB_0, mB_01, Classical.not_not, Nat.zero_le, List.getElem?_cons_zero, List.getElem?_cons_succ, List.set_cons_zero, List.set_cons_succ, ix_nl, ix_cs, true_and, and_true, Option.toList_some, Option.toList_none, List.cons_append, List.nil_append, hck, hstep, hnlt, hin, ht, hA, hA2, hB, hB2, hC, hC2, hD, hD2, hE, hE2]
        repeat' (first | (with_reducible assumption) | (with_reducible refine key _ _ _ _ ?_) | refine And.intro ?_ ?_ | intro _)
        all_goals (simp (decide := true) only [mDone, if_true, if_false, *])
      · have hst : tCls 20009 = -37 := by decide
        rw [hst] at hstep
        simp (decide := true) only [e_X7_value_0, e_X7_value_1, e_X7_value_4, e_X7_value_7, e_X7_value_9, e_X7_value_10, e_X7_value_13, e_X7_value_16, e_X7_value_18, e_X7_value_19, e_X7_value_21, e_X7_value_22, e_X7_value_26, e_X7_value_28, e_X7_value_31, e_X7_value_33, e_X7_value_35, e_X7_value_36, e_X7_value_38, e_X7_value_40, e_X7_value_42, e_X7_value_45, e_X7_value_47, e_X7_value_49, e_X7_value_52, e_X7_value_53, e_X7_value_56, e_X7_value_58, e_X7_value_60, e_X7_value_63, e_X7_value_65, e_X7_value_68, e_X7_value_70, e_X7_value_71, e_X7_value_74, e_X7_value_75, e_X7_value_78, e_X7_value_80, e_X7_value_82, e_X7_value_85, e_X7_value_86, e_X7_value_89, e_X7_value_90, e_X7_value_91, e_X7_value_94, e_X7_value_97, e_X7_value_99, e_X7_value_101, e_X7_value_104, e_X7_value_106, e_X7_value_107, e_X7_value_110, e_X7_value_111, e_X7_value_114, e_X7_value_116, e_X7_value_117, e_X7_value_118, e_X7_value_119, e_X7_value_122, e_X7_value_124, e_X7_value_125, e_X7_value_126, e_X7_value_127, e_X7_value_130, e_X7_value_131, e_X7_value_134, e_X7_value_135, e_X7_value_136, e_X7_value_139, e_X7_value_141, e_X7_value_142, e_X7_value_145, e_X7_value_148, e_X7_value_149, e_X7_value_152, e_X7_value_154, e_X7_value_155, e_X7_value_156, e_X7_value_157, e_X7_value_159, e_X7_value_160, e_X7_value_163, e_X7_value_165, e_X7_value_166, e_X7_value_168, e_X7_value_170, e_X7_value_171, e_X7_value_252, e_X7_value_254, e_X7_value_257, e_X7_value_259, e_X7_value_262, e_X7_value_263, e_X7_value_266, e_X7_value_267, e_X7_value_269, e_X7_value_272, e_X7_value_274, e_X7_value_277, e_X7_value_279, e_X7_value_282, e_X7_value_283, e_X7_value_286, e_X7_value_287, e_X7_value_289, e_X7_value_292, e_X7_value_294, e_X7_value_296, e_X7_value_299, e_X7_value_300, e_X7_value_303, e_X7_value_304, e_X7_value_306, e_X7_value_309, e_X7_value_311, e_X7_value_313, e_X7_value_316, e_X7_value_317, e_X7_value_320, e_X7_value_321, e_X7_value_323, e_X7_value_326, e_X7_value_328, e_X7_value_330, e_X7_value_333, e_X7_value_334, e_X7_value_337, e_X7_value_338, e_X7_value_340, e_X7_value_343, e_X7_value_345, e_X7_value_347, e_X7_value_348, e_X7_value_350, e_X7_value_353, e_X7_value_355, e_X7_value_357, e_X7_value_358, e_X7_value_360, e_X7_value_363, e_X7_value_365, e_X7_value_367, e_X7_value_368, e_X7_value_370, e_X7_value_373, e_X7_value_375, e_X7_value_378, e_X7_value_379, e_X7_value_382, e_X7_value_384, e_X7_value_386, e_X7_value_387, e_X7_value_389, e_X7_value_392, e_X7_value_394, e_X7_value_397, e_X7_value_398, e_X7_value_401, e_X7_value_403, e_X7_value_405, e_X7_value_406, e_X7_value_408, e_X7_value_409, e_X7_value_412, e_X7_value_414, e_X7_value_415, e_X7_value_416, e_X7_value_418, e_X7_value_419, e_X7_value_422, e_X7_value_425, e_X7_value_427, e_X7_value_428, e_X7_value_431, e_X7_value_432, e_X7_value_435, e_X7_value_437, e_X7_value_438, e_X7_value_439, e_X7_value_440, e_X7_value_443, e_X7_value_444, vi, vl, vr, ix_push, ix_iload, ix_lload, ix_aload, ix_istore, ix_astore, ix_iinc, ix_bin, ix_div, ix_un, ix_i2l, ix_l2i, ix_lbin, ix_lsh, ix_lcmp, ix_dup, ix_dup2, ix_pop, ix_if, ix_cmp, ix_goto, ix_switch, ix_sw, ix_iret, ix_zret, ix_vret, ix_aret, ix_geti, ix_getr, ix_puti, ix_putz, ix_puts, ix_gets, ix_iald, ix_iast, ix_alen, ix_aald, ix_gval, ix_gcod, ix_bald, ix_blen, ix_sald, ix_nret, ix_math2, ix_math1, ix_acopy, Nat.add_assoc, Int32.reduceLT, Int32.reduceLE, Int32.reduceToNatClampNeg, Int32.reduceSub, Int32.reduceAdd, Nat.reduceAdd, Nat.reduceLeDiff, true_or, or_true, or_false, false_or, not_false_eq_true, not_true_eq_false, false_implies, true_implies, implies_true, and_self, mB_0, mB_01, Classical.not_not, Nat.zero_le, List.getElem?_cons_zero, List.getElem?_cons_succ, List.set_cons_zero, List.set_cons_succ, ix_nl, ix_cs, true_and, and_true, Option.toList_some, Option.toList_none, List.cons_append, List.nil_append, hck, hstep, hnlt, hin, ht, hA, hA2, hB, hB2, hC, hC2, hD, hD2, hE, hE2]
        repeat' (first | (with_reducible assumption) | (with_reducible refine key _ _ _ _ ?_) | refine And.intro ?_ ?_ | intro _)
        all_goals (simp (decide := true) only [mDone, if_true, if_false, *])
theorem r_X7_value (t : Nat) (a : Int32) (b : Int32) (c : Int32) (μ : ix_M) (Q : ix_R → Prop) (ok_t : t < ix_N ∧ ix_tag t = 6) (hT : T_X7_value (t, a, b, c) μ Q) : ix_Ev o_X7_value Q (0, [some (vr 6 t), some (vi a), some (vi b), some (vi c), none, none, none, none, none, none, none], [], μ) := by
  obtain ⟨ds, ⟨h1, h2, h3⟩, hwf, hQ⟩ := hT
  have ht := ok_text t ok_t.1 ok_t.2
  simp (decide := true) only [e_X7_value_0, e_X7_value_1, e_X7_value_4, e_X7_value_7, e_X7_value_9, e_X7_value_10, e_X7_value_13, e_X7_value_16, e_X7_value_18, e_X7_value_19, e_X7_value_21, e_X7_value_22, e_X7_value_26, e_X7_value_28, e_X7_value_31, e_X7_value_33, e_X7_value_35, e_X7_value_36, e_X7_value_38, e_X7_value_40, e_X7_value_42, e_X7_value_45, e_X7_value_47, e_X7_value_49, e_X7_value_52, e_X7_value_53, e_X7_value_56, e_X7_value_58, e_X7_value_60, e_X7_value_63, e_X7_value_65, e_X7_value_68, e_X7_value_70, e_X7_value_71, e_X7_value_74, e_X7_value_75, e_X7_value_78, e_X7_value_80, e_X7_value_82, e_X7_value_85, e_X7_value_86, e_X7_value_89, e_X7_value_90, e_X7_value_91, e_X7_value_94, e_X7_value_97, e_X7_value_99, e_X7_value_101, e_X7_value_104, e_X7_value_106, e_X7_value_107, e_X7_value_110, e_X7_value_111, e_X7_value_114, e_X7_value_116, e_X7_value_117, e_X7_value_118, e_X7_value_119, e_X7_value_122, e_X7_value_124, e_X7_value_125, e_X7_value_126, e_X7_value_127, e_X7_value_130, e_X7_value_131, e_X7_value_134, e_X7_value_135, e_X7_value_136, e_X7_value_139, e_X7_value_141, e_X7_value_142, e_X7_value_145, e_X7_value_148, e_X7_value_149, e_X7_value_152, e_X7_value_154, e_X7_value_155, e_X7_value_156, e_X7_value_157, e_X7_value_159, e_X7_value_160, e_X7_value_163, e_X7_value_165, e_X7_value_166, e_X7_value_168, e_X7_value_170, e_X7_value_171, e_X7_value_252, e_X7_value_254, e_X7_value_257, e_X7_value_259, e_X7_value_262, e_X7_value_263, e_X7_value_266, e_X7_value_267, e_X7_value_269, e_X7_value_272, e_X7_value_274, e_X7_value_277, e_X7_value_279, e_X7_value_282, e_X7_value_283, e_X7_value_286, e_X7_value_287, e_X7_value_289, e_X7_value_292, e_X7_value_294, e_X7_value_296, e_X7_value_299, e_X7_value_300, e_X7_value_303, e_X7_value_304, e_X7_value_306, e_X7_value_309, e_X7_value_311, e_X7_value_313, e_X7_value_316, e_X7_value_317, e_X7_value_320, e_X7_value_321, e_X7_value_323, e_X7_value_326, e_X7_value_328, e_X7_value_330, e_X7_value_333, e_X7_value_334, e_X7_value_337, e_X7_value_338, e_X7_value_340, e_X7_value_343, e_X7_value_345, e_X7_value_347, e_X7_value_348, e_X7_value_350, e_X7_value_353, e_X7_value_355, e_X7_value_357, e_X7_value_358, e_X7_value_360, e_X7_value_363, e_X7_value_365, e_X7_value_367, e_X7_value_368, e_X7_value_370, e_X7_value_373, e_X7_value_375, e_X7_value_378, e_X7_value_379, e_X7_value_382, e_X7_value_384, e_X7_value_386, e_X7_value_387, e_X7_value_389, e_X7_value_392, e_X7_value_394, e_X7_value_397, e_X7_value_398, e_X7_value_401, e_X7_value_403, e_X7_value_405, e_X7_value_406, e_X7_value_408, e_X7_value_409, e_X7_value_412, e_X7_value_414, e_X7_value_415, e_X7_value_416, e_X7_value_418, e_X7_value_419, e_X7_value_422, e_X7_value_425, e_X7_value_427, e_X7_value_428, e_X7_value_431, e_X7_value_432, e_X7_value_435, e_X7_value_437, e_X7_value_438, e_X7_value_439, e_X7_value_440, e_X7_value_443, e_X7_value_444, vi, vl, vr, ix_push, ix_iload, ix_lload, ix_aload, ix_istore, ix_astore, ix_iinc, ix_bin, ix_div, ix_un, ix_i2l, ix_l2i, ix_lbin, ix_lsh, ix_lcmp, ix_dup, ix_dup2, ix_pop, ix_if, ix_cmp, ix_goto, ix_switch, ix_sw, ix_iret, ix_zret, ix_vret, ix_aret, ix_geti, ix_getr, ix_puti, ix_putz, ix_puts, ix_gets, ix_iald, ix_iast, ix_alen, ix_aald, ix_gval, ix_gcod, ix_bald, ix_blen, ix_sald, ix_nret, ix_math2, ix_math1, ix_acopy, Nat.add_assoc, Int32.reduceLT, Int32.reduceLE, Int32.reduceToNatClampNeg, Int32.reduceSub, Int32.reduceAdd, Nat.reduceAdd, Nat.reduceLeDiff, true_or, or_true, or_false, false_or, not_false_eq_true, not_true_eq_false, false_implies, true_implies, implies_true, and_self, mB_0, mB_01, Classical.not_not, Nat.zero_le, List.getElem?_cons_zero, List.getElem?_cons_succ, List.set_cons_zero, List.set_cons_succ, ix_nl, ix_cs, true_and, and_true, Option.toList_some, Option.toList_none, List.cons_append, List.nil_append, h1]
  exact l_X7_value t ht a b c μ Q ds.length h2 ds 0 [] μ none none none (by omega) (by simp) hwf Fx.rf (fun j hj => by rw [Nat.zero_add]; exact h3 j hj) Stk.nil hQ
theorem k_X7_value (l : Launch) : ix_Ct l yX7_value cX7_value 11 (some .int) 1 sh_X7_value T_X7_value := ix_ct (a_X7_value l) rfl (by decide) (fun _ => Nat.le_of_ble_eq_true rfl) (fun x μ Q hok hT => r_X7_value x.1 x.2.1 x.2.2.1 x.2.2.2 μ Q (ix_ok_at (hok (vr 6 x.1) (by simp [sh_X7_value])) (by decide) (by decide)) hT)
