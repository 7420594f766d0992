/-! ===== the model's small methods ===== -/
theorem ml_113 : ix_len 113 = 256 := by decide +kernel
theorem ml_114 : ix_len 114 = 256 := by decide +kernel
theorem ml_115 : ix_len 115 = 256 := by decide +kernel
theorem ml_116 : ix_len 116 = 6 := by decide +kernel
theorem ml_118 : ix_len 118 = 60 := by decide +kernel
theorem ml_119 : ix_len 119 = 4 := by decide +kernel
theorem ml_120 : ix_len 120 = 60 := by decide +kernel
theorem ml_121 : ix_len 121 = 1792 := by decide +kernel
theorem ml_122 : ix_len 122 = 40 := by decide +kernel
theorem ml_123 : ix_len 123 = 4 := by decide +kernel
theorem ml_124 : ix_len 124 = 4 := by decide +kernel
theorem ml_125 : ix_len 125 = 160 := by decide +kernel
theorem ml_126 : ix_len 126 = 40 := by decide +kernel
theorem mv_0 : vp_in 0 256 := vp_inI (by decide) (by decide)
theorem mv_1 : vp_in 1 256 := vp_inI (by decide) (by decide)
theorem mv_2 : vp_in 2 256 := vp_inI (by decide) (by decide)
theorem mv_3 : vp_in 3 256 := vp_inI (by decide) (by decide)
theorem mv_4 : vp_in 4 256 := vp_inI (by decide) (by decide)
theorem mv_5 : vp_in 5 256 := vp_inI (by decide) (by decide)
theorem mB_or (c : Prop) [Decidable c] : (¬ c ∨ mB c = 1) = True := by
  by_cases h : c
  · simp [mB, h]
  · simp [h]
def T_X11_within : Int32 × Int32 × Int32 → ix_M → (ix_R → Prop) → Prop := fun (v, a, b) μ Q => Q (some (vi (mB (a ≤ v ∧ v ≤ b))), μ)
def sh_X11_within (x : Int32 × Int32 × Int32) : List ix_V := [vi x.1, vi x.2.1, vi x.2.2]
theorem mo_X11_within (x : Int32 × Int32 × Int32) (μ : ix_M) (Q Q' : ix_R → Prop) (h : ∀ r, Q r → Q' r) (hT : T_X11_within x μ Q) : T_X11_within x μ Q' := by
  obtain ⟨a0, a1, a2⟩ := x
  first | exact h _ hT | exact ⟨hT.1, h _ hT.2⟩ | exact fun r hr => h _ (hT r hr) | exact ⟨hT.1, fun r hr => h _ (hT.2 r hr)⟩ | exact ⟨hT.1, hT.2.1, fun r hr => h _ (hT.2.2 r hr)⟩
def oc_X11_within (n : Nat) : ix_Op := fun k _ ls st μ => match st with
  | .inl a2 :: .inl a1 :: .inl a0 :: r => ix_cs r ≤ 8 ∧ T_X11_within (a0, a1, a2) μ (fun q => k (n, ls, q.1.toList ++ r, q.2))
  | _ => False
theorem oc_X11_within_s {l : Launch} {cc : ByteArray} {nL : Nat} {own : String} {d : Nat} {rt : Option FieldType} {pc n : Nat} (h : ix_S l cc nL own d rt pc (ix_call 3 sh_X11_within T_X11_within n)) : ix_S l cc nL own d rt pc (oc_X11_within n) := by
  refine h.by (fun k Q ls st μ h => ?_) (fun k k' Q ls st μ hk h => ?_)
  · unfold oc_X11_within at h
    split at h
    · rename_i a2 a1 a0 r
      obtain ⟨h1, h2⟩ := h
      exact ⟨h1, (a0, a1, a2), rfl, _, h2, fun r h => h⟩
    · exact h.elim
  · unfold oc_X11_within at h ⊢
    split at h
    · obtain ⟨h1, h2⟩ := h
      exact ⟨h1, mo_X11_within _ _ _ _ (fun q hq => hk _ hq) h2⟩
    · exact h.elim
def o_X11_within : List (Nat × ix_Op) := [
  (0, ix_iload 0 1),
  (1, ix_iload 1 2),
  (2, ix_cmp (fun x y => x < y) 14 5),
  (5, ix_iload 0 6),
  (6, ix_iload 2 7),
  (7, ix_cmp (fun x y => y < x) 14 10),
  (10, ix_push (vi 1) 11),
  (11, ix_goto 15),
  (14, ix_push (vi 0) 15),
  (15, ix_zret)]
set_option maxRecDepth 20000 in
theorem a_X11_within (l : Launch) : ix_AllS l cX11_within 3 RX11 1 (some .boolean) o_X11_within :=
  .cons (ix_s_iload_n dX11_within_0 rfl) <|
  .cons (ix_s_iload_n dX11_within_1 rfl) <|
  .cons (ix_s_cmp_lt dX11_within_2 (by decide)) <|
  .cons (ix_s_iload_n dX11_within_5 rfl) <|
  .cons (ix_s_iload_n dX11_within_6 rfl) <|
  .cons (ix_s_cmp_gt dX11_within_7 (by decide)) <|
  .cons (ix_s_iconst dX11_within_10 (by decide +kernel)) <|
  .cons (ix_s_goto dX11_within_11 (by decide)) <|
  .cons (ix_s_iconst dX11_within_14 (by decide +kernel)) <|
  .cons (ix_s_zret dX11_within_15 rfl) <| .nil
theorem e_X11_within_0 (Q : ix_R → Prop) (ls : ix_L) (st : List ix_V) (μ : ix_M) : ix_Ev o_X11_within Q (0, ls, st, μ) = ix_iload 0 1 (ix_Ev o_X11_within Q) Q ls st μ := ix_Ev.eq (a_X11_within launch0) rfl ls st μ
theorem e_X11_within_1 (Q : ix_R → Prop) (ls : ix_L) (st : List ix_V) (μ : ix_M) : ix_Ev o_X11_within Q (1, ls, st, μ) = ix_iload 1 2 (ix_Ev o_X11_within Q) Q ls st μ := ix_Ev.eq (a_X11_within launch0) rfl ls st μ
theorem e_X11_within_2 (Q : ix_R → Prop) (ls : ix_L) (st : List ix_V) (μ : ix_M) : ix_Ev o_X11_within Q (2, ls, st, μ) = ix_cmp (fun x y => x < y) 14 5 (ix_Ev o_X11_within Q) Q ls st μ := ix_Ev.eq (a_X11_within launch0) rfl ls st μ
theorem e_X11_within_5 (Q : ix_R → Prop) (ls : ix_L) (st : List ix_V) (μ : ix_M) : ix_Ev o_X11_within Q (5, ls, st, μ) = ix_iload 0 6 (ix_Ev o_X11_within Q) Q ls st μ := ix_Ev.eq (a_X11_within launch0) rfl ls st μ
theorem e_X11_within_6 (Q : ix_R → Prop) (ls : ix_L) (st : List ix_V) (μ : ix_M) : ix_Ev o_X11_within Q (6, ls, st, μ) = ix_iload 2 7 (ix_Ev o_X11_within Q) Q ls st μ := ix_Ev.eq (a_X11_within launch0) rfl ls st μ
theorem e_X11_within_7 (Q : ix_R → Prop) (ls : ix_L) (st : List ix_V) (μ : ix_M) : ix_Ev o_X11_within Q (7, ls, st, μ) = ix_cmp (fun x y => y < x) 14 10 (ix_Ev o_X11_within Q) Q ls st μ := ix_Ev.eq (a_X11_within launch0) rfl ls st μ
theorem e_X11_within_10 (Q : ix_R → Prop) (ls : ix_L) (st : List ix_V) (μ : ix_M) : ix_Ev o_X11_within Q (10, ls, st, μ) = ix_push (vi 1) 11 (ix_Ev o_X11_within Q) Q ls st μ := ix_Ev.eq (a_X11_within launch0) rfl ls st μ
theorem e_X11_within_11 (Q : ix_R → Prop) (ls : ix_L) (st : List ix_V) (μ : ix_M) : ix_Ev o_X11_within Q (11, ls, st, μ) = ix_goto 15 (ix_Ev o_X11_within Q) Q ls st μ := ix_Ev.eq (a_X11_within launch0) rfl ls st μ
theorem e_X11_within_14 (Q : ix_R → Prop) (ls : ix_L) (st : List ix_V) (μ : ix_M) : ix_Ev o_X11_within Q (14, ls, st, μ) = ix_push (vi 0) 15 (ix_Ev o_X11_within Q) Q ls st μ := ix_Ev.eq (a_X11_within launch0) rfl ls st μ
theorem e_X11_within_15 (Q : ix_R → Prop) (ls : ix_L) (st : List ix_V) (μ : ix_M) : ix_Ev o_X11_within Q (15, ls, st, μ) = ix_zret (ix_Ev o_X11_within Q) Q ls st μ := ix_Ev.eq (a_X11_within launch0) rfl ls st μ
theorem r_X11_within (v : Int32) (a : Int32) (b : Int32) (μ : ix_M) (Q : ix_R → Prop) (hT : T_X11_within (v, a, b) μ Q) : ix_Ev o_X11_within Q (0, [some (vi v), some (vi a), some (vi b)], [], μ) := by
  simp (decide := true) only [e_X11_within_0, e_X11_within_1, e_X11_within_2, e_X11_within_5, e_X11_within_6, e_X11_within_7, e_X11_within_10, e_X11_within_11, e_X11_within_14, e_X11_within_15, vi, vl, vr, ix_push, ix_iload, ix_lload, ix_aload, ix_istore, ix_astore, ix_iinc, ix_bin, ix_div, ix_un, ix_i2l, ix_l2i, ix_lbin, ix_lsh, ix_lcmp, ix_dup, ix_dup2, ix_pop, ix_if, ix_cmp, ix_goto, ix_switch, ix_sw, ix_iret, ix_zret, ix_vret, ix_aret, ix_geti, ix_getr, ix_puti, ix_putz, ix_puts, ix_gets, ix_iald, ix_iast, ix_alen, ix_aald, ix_gval, ix_gcod, ix_bald, ix_blen, ix_sald, ix_nret, ix_math2, ix_math1, ix_acopy, ml_113, ml_114, ml_115, ml_116, ml_118, ml_119, ml_120, ml_121, ml_122, ml_123, ml_124, ml_125, ml_126, mv_0, mv_1, mv_2, mv_3, mv_4, mv_5, mB_or, Nat.add_assoc, Int32.reduceLT, Int32.reduceLE, Int32.reduceToNatClampNeg, Int32.reduceSub, Int32.reduceAdd, Nat.reduceAdd, Nat.reduceLeDiff, true_or, or_true, or_false, false_or, not_false_eq_true, not_true_eq_false, false_implies, true_implies, implies_true, and_self, mB_0, mB_01, Classical.not_not, Nat.zero_le, List.getElem?_cons_zero, List.getElem?_cons_succ, List.set_cons_zero, List.set_cons_succ, ix_nl, ix_cs, true_and, and_true, Option.toList_some, Option.toList_none, List.cons_append, List.nil_append]
  simp only [T_X11_within, mB, vi, vl, vr] at hT
  repeat' (first | refine And.intro ?_ ?_ | intro _)
  all_goals (first | exact hT | (simp only [*, if_true, if_false, not_true_eq_false, not_false_eq_true, and_true, true_and, and_false, false_and, or_true, true_or, or_false, false_or, and_self, or_self] at hT; exact hT) | (simp only [← Int32.not_lt, Classical.not_not] at *; simp only [*, if_true, if_false, not_true_eq_false, not_false_eq_true, and_true, true_and, and_false, false_and, or_true, true_or, or_false, false_or, and_self, or_self] at hT; exact hT) | (simp_all; done))
theorem k_X11_within (l : Launch) : ix_Ct l yX11_within cX11_within 3 (some .boolean) 1 sh_X11_within T_X11_within := ix_ct (a_X11_within l) rfl (by decide) (fun _ => Nat.le_of_ble_eq_true rfl) (fun x μ Q hok hT => r_X11_within x.1 x.2.1 x.2.2 μ Q  hT)
def hld (v a b : Int32) : Int32 := if a < (if v < b then v else b) then (if v < b then v else b) else a
def T_X11_held : Int32 × Int32 × Int32 → ix_M → (ix_R → Prop) → Prop := fun (v, a, b) μ Q => Q (some (vi (hld v a b)), μ)
def sh_X11_held (x : Int32 × Int32 × Int32) : List ix_V := [vi x.1, vi x.2.1, vi x.2.2]
theorem mo_X11_held (x : Int32 × Int32 × Int32) (μ : ix_M) (Q Q' : ix_R → Prop) (h : ∀ r, Q r → Q' r) (hT : T_X11_held x μ Q) : T_X11_held x μ Q' := by
  obtain ⟨a0, a1, a2⟩ := x
  first | exact h _ hT | exact ⟨hT.1, h _ hT.2⟩ | exact fun r hr => h _ (hT r hr) | exact ⟨hT.1, fun r hr => h _ (hT.2 r hr)⟩ | exact ⟨hT.1, hT.2.1, fun r hr => h _ (hT.2.2 r hr)⟩
def oc_X11_held (n : Nat) : ix_Op := fun k _ ls st μ => match st with
  | .inl a2 :: .inl a1 :: .inl a0 :: r => ix_cs r ≤ 8 ∧ T_X11_held (a0, a1, a2) μ (fun q => k (n, ls, q.1.toList ++ r, q.2))
  | _ => False
theorem oc_X11_held_s {l : Launch} {cc : ByteArray} {nL : Nat} {own : String} {d : Nat} {rt : Option FieldType} {pc n : Nat} (h : ix_S l cc nL own d rt pc (ix_call 3 sh_X11_held T_X11_held n)) : ix_S l cc nL own d rt pc (oc_X11_held n) := by
  refine h.by (fun k Q ls st μ h => ?_) (fun k k' Q ls st μ hk h => ?_)
  · unfold oc_X11_held at h
    split at h
    · rename_i a2 a1 a0 r
      obtain ⟨h1, h2⟩ := h
      exact ⟨h1, (a0, a1, a2), rfl, _, h2, fun r h => h⟩
    · exact h.elim
  · unfold oc_X11_held at h ⊢
    split at h
    · obtain ⟨h1, h2⟩ := h
      exact ⟨h1, mo_X11_held _ _ _ _ (fun q hq => hk _ hq) h2⟩
    · exact h.elim
def o_X11_held : List (Nat × ix_Op) := [
  (0, ix_iload 1 1),
  (1, ix_iload 2 2),
  (2, ix_iload 0 3),
  (3, ix_math2 (fun x y => if y < x then y else x) 6),
  (6, ix_math2 (fun x y => if x < y then y else x) 9),
  (9, ix_iret)]
set_option maxRecDepth 20000 in
theorem a_X11_held (l : Launch) : ix_AllS l cX11_held 3 RX11 1 (some .int) o_X11_held :=
  .cons (ix_s_iload_n dX11_held_0 rfl) <|
  .cons (ix_s_iload_n dX11_held_1 rfl) <|
  .cons (ix_s_iload_n dX11_held_2 rfl) <|
  .cons (ix_s_mmin tw_1056 tw_328 tw_7 tw_329 (by decide) dX11_held_3) <|
  .cons (ix_s_mmax tw_1057 tw_103 tw_7 tw_104 (by decide) dX11_held_6) <|
  .cons (ix_s_iret dX11_held_9 rfl) <| .nil
theorem e_X11_held_0 (Q : ix_R → Prop) (ls : ix_L) (st : List ix_V) (μ : ix_M) : ix_Ev o_X11_held Q (0, ls, st, μ) = ix_iload 1 1 (ix_Ev o_X11_held Q) Q ls st μ := ix_Ev.eq (a_X11_held launch0) rfl ls st μ
theorem e_X11_held_1 (Q : ix_R → Prop) (ls : ix_L) (st : List ix_V) (μ : ix_M) : ix_Ev o_X11_held Q (1, ls, st, μ) = ix_iload 2 2 (ix_Ev o_X11_held Q) Q ls st μ := ix_Ev.eq (a_X11_held launch0) rfl ls st μ
theorem e_X11_held_2 (Q : ix_R → Prop) (ls : ix_L) (st : List ix_V) (μ : ix_M) : ix_Ev o_X11_held Q (2, ls, st, μ) = ix_iload 0 3 (ix_Ev o_X11_held Q) Q ls st μ := ix_Ev.eq (a_X11_held launch0) rfl ls st μ
theorem e_X11_held_3 (Q : ix_R → Prop) (ls : ix_L) (st : List ix_V) (μ : ix_M) : ix_Ev o_X11_held Q (3, ls, st, μ) = ix_math2 (fun x y => if y < x then y else x) 6 (ix_Ev o_X11_held Q) Q ls st μ := ix_Ev.eq (a_X11_held launch0) rfl ls st μ
theorem e_X11_held_6 (Q : ix_R → Prop) (ls : ix_L) (st : List ix_V) (μ : ix_M) : ix_Ev o_X11_held Q (6, ls, st, μ) = ix_math2 (fun x y => if x < y then y else x) 9 (ix_Ev o_X11_held Q) Q ls st μ := ix_Ev.eq (a_X11_held launch0) rfl ls st μ
theorem e_X11_held_9 (Q : ix_R → Prop) (ls : ix_L) (st : List ix_V) (μ : ix_M) : ix_Ev o_X11_held Q (9, ls, st, μ) = ix_iret (ix_Ev o_X11_held Q) Q ls st μ := ix_Ev.eq (a_X11_held launch0) rfl ls st μ
theorem r_X11_held (v : Int32) (a : Int32) (b : Int32) (μ : ix_M) (Q : ix_R → Prop) (hT : T_X11_held (v, a, b) μ Q) : ix_Ev o_X11_held Q (0, [some (vi v), some (vi a), some (vi b)], [], μ) := by
  simp (decide := true) only [e_X11_held_0, e_X11_held_1, e_X11_held_2, e_X11_held_3, e_X11_held_6, e_X11_held_9, vi, vl, vr, ix_push, ix_iload, ix_lload, ix_aload, ix_istore, ix_astore, ix_iinc, ix_bin, ix_div, ix_un, ix_i2l, ix_l2i, ix_lbin, ix_lsh, ix_lcmp, ix_dup, ix_dup2, ix_pop, ix_if, ix_cmp, ix_goto, ix_switch, ix_sw, ix_iret, ix_zret, ix_vret, ix_aret, ix_geti, ix_getr, ix_puti, ix_putz, ix_puts, ix_gets, ix_iald, ix_iast, ix_alen, ix_aald, ix_gval, ix_gcod, ix_bald, ix_blen, ix_sald, ix_nret, ix_math2, ix_math1, ix_acopy, ml_113, ml_114, ml_115, ml_116, ml_118, ml_119, ml_120, ml_121, ml_122, ml_123, ml_124, ml_125, ml_126, mv_0, mv_1, mv_2, mv_3, mv_4, mv_5, mB_or, Nat.add_assoc, Int32.reduceLT, Int32.reduceLE, Int32.reduceToNatClampNeg, Int32.reduceSub, Int32.reduceAdd, Nat.reduceAdd, Nat.reduceLeDiff, true_or, or_true, or_false, false_or, not_false_eq_true, not_true_eq_false, false_implies, true_implies, implies_true, and_self, mB_0, mB_01, Classical.not_not, Nat.zero_le, List.getElem?_cons_zero, List.getElem?_cons_succ, List.set_cons_zero, List.set_cons_succ, ix_nl, ix_cs, true_and, and_true, Option.toList_some, Option.toList_none, List.cons_append, List.nil_append]
  exact hT
theorem k_X11_held (l : Launch) : ix_Ct l yX11_held cX11_held 3 (some .int) 1 sh_X11_held T_X11_held := ix_ct (a_X11_held l) rfl (by decide) (fun _ => Nat.le_of_ble_eq_true rfl) (fun x μ Q hok hT => r_X11_held x.1 x.2.1 x.2.2 μ Q  hT)
def T_X11_finding : Nat × Int32 → ix_M → (ix_R → Prop) → Prop := fun (_, w) μ Q => vp_in (-1000000000 - w) 6 ∧ Q (some (vi w), ix_up μ 116 (-1000000000 - w).toNatClampNeg (μ 116 (-1000000000 - w).toNatClampNeg + 1))
def sh_X11_finding (x : Nat × Int32) : List ix_V := [vr 10 x.1, vi x.2]
theorem mo_X11_finding (x : Nat × Int32) (μ : ix_M) (Q Q' : ix_R → Prop) (h : ∀ r, Q r → Q' r) (hT : T_X11_finding x μ Q) : T_X11_finding x μ Q' := by
  obtain ⟨a0, a1⟩ := x
  first | exact h _ hT | exact ⟨hT.1, h _ hT.2⟩ | exact fun r hr => h _ (hT r hr) | exact ⟨hT.1, fun r hr => h _ (hT.2 r hr)⟩ | exact ⟨hT.1, hT.2.1, fun r hr => h _ (hT.2.2 r hr)⟩
def oc_X11_finding (n : Nat) : ix_Op := fun k _ ls st μ => match st with
  | .inl a1 :: .inr (.inr (t0, a0)) :: r => t0 = 10 ∧ ix_cs r ≤ 8 ∧ T_X11_finding (a0, a1) μ (fun q => k (n, ls, q.1.toList ++ r, q.2))
  | _ => False
theorem oc_X11_finding_s {l : Launch} {cc : ByteArray} {nL : Nat} {own : String} {d : Nat} {rt : Option FieldType} {pc n : Nat} (h : ix_S l cc nL own d rt pc (ix_call 2 sh_X11_finding T_X11_finding n)) : ix_S l cc nL own d rt pc (oc_X11_finding n) := by
  refine h.by (fun k Q ls st μ h => ?_) (fun k k' Q ls st μ hk h => ?_)
  · unfold oc_X11_finding at h
    split at h
    · rename_i a1 t0 a0 r
      obtain ⟨rfl, h1, h2⟩ := h
      exact ⟨h1, (a0, a1), rfl, _, h2, fun r h => h⟩
    · exact h.elim
  · unfold oc_X11_finding at h ⊢
    split at h
    · obtain ⟨rfl, h1, h2⟩ := h
      exact ⟨rfl, h1, mo_X11_finding _ _ _ _ (fun q hq => hk _ hq) h2⟩
    · exact h.elim
def o_X11_finding : List (Nat × ix_Op) := [
  (0, ix_aload 0 1),
  (1, ix_getr 10 20 (fun _ => 116) 4),
  (4, ix_push (vi (-1000000000)) 6),
  (6, ix_iload 1 7),
  (7, ix_bin (fun x y => x - y) 8),
  (8, ix_dup2 9),
  (9, ix_iald 10),
  (10, ix_push (vi 1) 11),
  (11, ix_bin (fun x y => x + y) 12),
  (12, ix_iast 13),
  (13, ix_iload 1 14),
  (14, ix_iret)]
set_option maxRecDepth 20000 in
theorem a_X11_finding (l : Launch) : ix_AllS l cX11_finding 2 RX11 1 (some .int) o_X11_finding :=
  .cons (ix_s_aload_n dX11_finding_0 rfl) <|
  .cons (ix_s_getr (j := 4) tu_X11 rfl (by decide) (by decide) tw_879 rfl ts_10_4_r dX11_finding_1) <|
  .cons (ix_s_ldc tw_966 dX11_finding_4) <|
  .cons (ix_s_iload_n dX11_finding_6 rfl) <|
  .cons (ix_s_isub dX11_finding_7) <|
  .cons (ix_s_dup2 dX11_finding_8) <|
  .cons (ix_s_iald dX11_finding_9) <|
  .cons (ix_s_iconst dX11_finding_10 (by decide +kernel)) <|
  .cons (ix_s_iadd dX11_finding_11) <|
  .cons (ix_s_iast dX11_finding_12) <|
  .cons (ix_s_iload_n dX11_finding_13 rfl) <|
  .cons (ix_s_iret dX11_finding_14 rfl) <| .nil
theorem e_X11_finding_0 (Q : ix_R → Prop) (ls : ix_L) (st : List ix_V) (μ : ix_M) : ix_Ev o_X11_finding Q (0, ls, st, μ) = ix_aload 0 1 (ix_Ev o_X11_finding Q) Q ls st μ := ix_Ev.eq (a_X11_finding launch0) rfl ls st μ
theorem e_X11_finding_1 (Q : ix_R → Prop) (ls : ix_L) (st : List ix_V) (μ : ix_M) : ix_Ev o_X11_finding Q (1, ls, st, μ) = ix_getr 10 20 (fun _ => 116) 4 (ix_Ev o_X11_finding Q) Q ls st μ := ix_Ev.eq (a_X11_finding launch0) rfl ls st μ
theorem e_X11_finding_4 (Q : ix_R → Prop) (ls : ix_L) (st : List ix_V) (μ : ix_M) : ix_Ev o_X11_finding Q (4, ls, st, μ) = ix_push (vi (-1000000000)) 6 (ix_Ev o_X11_finding Q) Q ls st μ := ix_Ev.eq (a_X11_finding launch0) rfl ls st μ
theorem e_X11_finding_6 (Q : ix_R → Prop) (ls : ix_L) (st : List ix_V) (μ : ix_M) : ix_Ev o_X11_finding Q (6, ls, st, μ) = ix_iload 1 7 (ix_Ev o_X11_finding Q) Q ls st μ := ix_Ev.eq (a_X11_finding launch0) rfl ls st μ
theorem e_X11_finding_7 (Q : ix_R → Prop) (ls : ix_L) (st : List ix_V) (μ : ix_M) : ix_Ev o_X11_finding Q (7, ls, st, μ) = ix_bin (fun x y => x - y) 8 (ix_Ev o_X11_finding Q) Q ls st μ := ix_Ev.eq (a_X11_finding launch0) rfl ls st μ
theorem e_X11_finding_8 (Q : ix_R → Prop) (ls : ix_L) (st : List ix_V) (μ : ix_M) : ix_Ev o_X11_finding Q (8, ls, st, μ) = ix_dup2 9 (ix_Ev o_X11_finding Q) Q ls st μ := ix_Ev.eq (a_X11_finding launch0) rfl ls st μ
theorem e_X11_finding_9 (Q : ix_R → Prop) (ls : ix_L) (st : List ix_V) (μ : ix_M) : ix_Ev o_X11_finding Q (9, ls, st, μ) = ix_iald 10 (ix_Ev o_X11_finding Q) Q ls st μ := ix_Ev.eq (a_X11_finding launch0) rfl ls st μ
theorem e_X11_finding_10 (Q : ix_R → Prop) (ls : ix_L) (st : List ix_V) (μ : ix_M) : ix_Ev o_X11_finding Q (10, ls, st, μ) = ix_push (vi 1) 11 (ix_Ev o_X11_finding Q) Q ls st μ := ix_Ev.eq (a_X11_finding launch0) rfl ls st μ
theorem e_X11_finding_11 (Q : ix_R → Prop) (ls : ix_L) (st : List ix_V) (μ : ix_M) : ix_Ev o_X11_finding Q (11, ls, st, μ) = ix_bin (fun x y => x + y) 12 (ix_Ev o_X11_finding Q) Q ls st μ := ix_Ev.eq (a_X11_finding launch0) rfl ls st μ
theorem e_X11_finding_12 (Q : ix_R → Prop) (ls : ix_L) (st : List ix_V) (μ : ix_M) : ix_Ev o_X11_finding Q (12, ls, st, μ) = ix_iast 13 (ix_Ev o_X11_finding Q) Q ls st μ := ix_Ev.eq (a_X11_finding launch0) rfl ls st μ
theorem e_X11_finding_13 (Q : ix_R → Prop) (ls : ix_L) (st : List ix_V) (μ : ix_M) : ix_Ev o_X11_finding Q (13, ls, st, μ) = ix_iload 1 14 (ix_Ev o_X11_finding Q) Q ls st μ := ix_Ev.eq (a_X11_finding launch0) rfl ls st μ
theorem e_X11_finding_14 (Q : ix_R → Prop) (ls : ix_L) (st : List ix_V) (μ : ix_M) : ix_Ev o_X11_finding Q (14, ls, st, μ) = ix_iret (ix_Ev o_X11_finding Q) Q ls st μ := ix_Ev.eq (a_X11_finding launch0) rfl ls st μ
theorem r_X11_finding (o : Nat) (w : Int32) (μ : ix_M) (Q : ix_R → Prop) (ok_o : o < ix_N ∧ ix_tag o = 10) (hT : T_X11_finding (o, w) μ Q) : ix_Ev o_X11_finding Q (0, [some (vr 10 o), some (vi w)], [], μ) := by
  obtain rfl := ok_10 o ok_o.1 ok_o.2
  simp (decide := true) only [e_X11_finding_0, e_X11_finding_1, e_X11_finding_4, e_X11_finding_6, e_X11_finding_7, e_X11_finding_8, e_X11_finding_9, e_X11_finding_10, e_X11_finding_11, e_X11_finding_12, e_X11_finding_13, e_X11_finding_14, vi, vl, vr, ix_push, ix_iload, ix_lload, ix_aload, ix_istore, ix_astore, ix_iinc, ix_bin, ix_div, ix_un, ix_i2l, ix_l2i, ix_lbin, ix_lsh, ix_lcmp, ix_dup, ix_dup2, ix_pop, ix_if, ix_cmp, ix_goto, ix_switch, ix_sw, ix_iret, ix_zret, ix_vret, ix_aret, ix_geti, ix_getr, ix_puti, ix_putz, ix_puts, ix_gets, ix_iald, ix_iast, ix_alen, ix_aald, ix_gval, ix_gcod, ix_bald, ix_blen, ix_sald, ix_nret, ix_math2, ix_math1, ix_acopy, ml_113, ml_114, ml_115, ml_116, ml_118, ml_119, ml_120, ml_121, ml_122, ml_123, ml_124, ml_125, ml_126, mv_0, mv_1, mv_2, mv_3, mv_4, mv_5, mB_or, Nat.add_assoc, Int32.reduceLT, Int32.reduceLE, Int32.reduceToNatClampNeg, Int32.reduceSub, Int32.reduceAdd, Nat.reduceAdd, Nat.reduceLeDiff, true_or, or_true, or_false, false_or, not_false_eq_true, not_true_eq_false, false_implies, true_implies, implies_true, and_self, mB_0, mB_01, Classical.not_not, Nat.zero_le, List.getElem?_cons_zero, List.getElem?_cons_succ, List.set_cons_zero, List.set_cons_succ, ix_nl, ix_cs, true_and, and_true, Option.toList_some, Option.toList_none, List.cons_append, List.nil_append]
  exact ⟨hT.1, hT.1, hT.2⟩
theorem k_X11_finding (l : Launch) : ix_Ct l yX11_finding cX11_finding 2 (some .int) 1 sh_X11_finding T_X11_finding := ix_ct (a_X11_finding l) rfl (by decide) (fun _ => Nat.le_of_ble_eq_true rfl) (fun x μ Q hok hT => r_X11_finding x.1 x.2 μ Q (ix_ok_at (hok (vr 10 x.1) (by simp [sh_X11_finding])) (by decide) (by decide)) hT)
def T_X11_turn : Nat × Int32 × Int32 → ix_M → (ix_R → Prop) → Prop := fun (_, i, v) μ Q => vp_in i 256 ∧ Q (some (vi (μ 113 i.toNatClampNeg)), ix_up μ 113 i.toNatClampNeg v)
def sh_X11_turn (x : Nat × Int32 × Int32) : List ix_V := [vr 10 x.1, vi x.2.1, vi x.2.2]
theorem mo_X11_turn (x : Nat × Int32 × Int32) (μ : ix_M) (Q Q' : ix_R → Prop) (h : ∀ r, Q r → Q' r) (hT : T_X11_turn x μ Q) : T_X11_turn x μ Q' := by
  obtain ⟨a0, a1, a2⟩ := x
  first | exact h _ hT | exact ⟨hT.1, h _ hT.2⟩ | exact fun r hr => h _ (hT r hr) | exact ⟨hT.1, fun r hr => h _ (hT.2 r hr)⟩ | exact ⟨hT.1, hT.2.1, fun r hr => h _ (hT.2.2 r hr)⟩
def oc_X11_turn (n : Nat) : ix_Op := fun k _ ls st μ => match st with
  | .inl a2 :: .inl a1 :: .inr (.inr (t0, a0)) :: r => t0 = 10 ∧ ix_cs r ≤ 8 ∧ T_X11_turn (a0, a1, a2) μ (fun q => k (n, ls, q.1.toList ++ r, q.2))
  | _ => False
theorem oc_X11_turn_s {l : Launch} {cc : ByteArray} {nL : Nat} {own : String} {d : Nat} {rt : Option FieldType} {pc n : Nat} (h : ix_S l cc nL own d rt pc (ix_call 3 sh_X11_turn T_X11_turn n)) : ix_S l cc nL own d rt pc (oc_X11_turn n) := by
  refine h.by (fun k Q ls st μ h => ?_) (fun k k' Q ls st μ hk h => ?_)
  · unfold oc_X11_turn at h
    split at h
    · rename_i a2 a1 t0 a0 r
      obtain ⟨rfl, h1, h2⟩ := h
      exact ⟨h1, (a0, a1, a2), rfl, _, h2, fun r h => h⟩
    · exact h.elim
  · unfold oc_X11_turn at h ⊢
    split at h
    · obtain ⟨rfl, h1, h2⟩ := h
      exact ⟨rfl, h1, mo_X11_turn _ _ _ _ (fun q hq => hk _ hq) h2⟩
    · exact h.elim
def o_X11_turn : List (Nat × ix_Op) := [
  (0, ix_aload 0 1),
  (1, ix_getr 10 20 (fun _ => 113) 4),
  (4, ix_iload 1 5),
  (5, ix_iald 6),
  (6, ix_istore 3 7),
  (7, ix_aload 0 8),
  (8, ix_getr 10 20 (fun _ => 113) 11),
  (11, ix_iload 1 12),
  (12, ix_iload 2 13),
  (13, ix_iast 14),
  (14, ix_iload 3 15),
  (15, ix_iret)]
set_option maxRecDepth 20000 in
theorem a_X11_turn (l : Launch) : ix_AllS l cX11_turn 4 RX11 1 (some .int) o_X11_turn :=
  .cons (ix_s_aload_n dX11_turn_0 rfl) <|
  .cons (ix_s_getr (j := 0) tu_X11 rfl (by decide) (by decide) tw_875 rfl ts_10_0_r dX11_turn_1) <|
  .cons (ix_s_iload_n dX11_turn_4 rfl) <|
  .cons (ix_s_iald dX11_turn_5) <|
  .cons (ix_s_istore_n dX11_turn_6 rfl (by decide)) <|
  .cons (ix_s_aload_n dX11_turn_7 rfl) <|
  .cons (ix_s_getr (j := 0) tu_X11 rfl (by decide) (by decide) tw_875 rfl ts_10_0_r dX11_turn_8) <|
  .cons (ix_s_iload_n dX11_turn_11 rfl) <|
  .cons (ix_s_iload_n dX11_turn_12 rfl) <|
  .cons (ix_s_iast dX11_turn_13) <|
  .cons (ix_s_iload_n dX11_turn_14 rfl) <|
  .cons (ix_s_iret dX11_turn_15 rfl) <| .nil
theorem e_X11_turn_0 (Q : ix_R → Prop) (ls : ix_L) (st : List ix_V) (μ : ix_M) : ix_Ev o_X11_turn Q (0, ls, st, μ) = ix_aload 0 1 (ix_Ev o_X11_turn Q) Q ls st μ := ix_Ev.eq (a_X11_turn launch0) rfl ls st μ
theorem e_X11_turn_1 (Q : ix_R → Prop) (ls : ix_L) (st : List ix_V) (μ : ix_M) : ix_Ev o_X11_turn Q (1, ls, st, μ) = ix_getr 10 20 (fun _ => 113) 4 (ix_Ev o_X11_turn Q) Q ls st μ := ix_Ev.eq (a_X11_turn launch0) rfl ls st μ
theorem e_X11_turn_4 (Q : ix_R → Prop) (ls : ix_L) (st : List ix_V) (μ : ix_M) : ix_Ev o_X11_turn Q (4, ls, st, μ) = ix_iload 1 5 (ix_Ev o_X11_turn Q) Q ls st μ := ix_Ev.eq (a_X11_turn launch0) rfl ls st μ
theorem e_X11_turn_5 (Q : ix_R → Prop) (ls : ix_L) (st : List ix_V) (μ : ix_M) : ix_Ev o_X11_turn Q (5, ls, st, μ) = ix_iald 6 (ix_Ev o_X11_turn Q) Q ls st μ := ix_Ev.eq (a_X11_turn launch0) rfl ls st μ
theorem e_X11_turn_6 (Q : ix_R → Prop) (ls : ix_L) (st : List ix_V) (μ : ix_M) : ix_Ev o_X11_turn Q (6, ls, st, μ) = ix_istore 3 7 (ix_Ev o_X11_turn Q) Q ls st μ := ix_Ev.eq (a_X11_turn launch0) rfl ls st μ
theorem e_X11_turn_7 (Q : ix_R → Prop) (ls : ix_L) (st : List ix_V) (μ : ix_M) : ix_Ev o_X11_turn Q (7, ls, st, μ) = ix_aload 0 8 (ix_Ev o_X11_turn Q) Q ls st μ := ix_Ev.eq (a_X11_turn launch0) rfl ls st μ
theorem e_X11_turn_8 (Q : ix_R → Prop) (ls : ix_L) (st : List ix_V) (μ : ix_M) : ix_Ev o_X11_turn Q (8, ls, st, μ) = ix_getr 10 20 (fun _ => 113) 11 (ix_Ev o_X11_turn Q) Q ls st μ := ix_Ev.eq (a_X11_turn launch0) rfl ls st μ
theorem e_X11_turn_11 (Q : ix_R → Prop) (ls : ix_L) (st : List ix_V) (μ : ix_M) : ix_Ev o_X11_turn Q (11, ls, st, μ) = ix_iload 1 12 (ix_Ev o_X11_turn Q) Q ls st μ := ix_Ev.eq (a_X11_turn launch0) rfl ls st μ
theorem e_X11_turn_12 (Q : ix_R → Prop) (ls : ix_L) (st : List ix_V) (μ : ix_M) : ix_Ev o_X11_turn Q (12, ls, st, μ) = ix_iload 2 13 (ix_Ev o_X11_turn Q) Q ls st μ := ix_Ev.eq (a_X11_turn launch0) rfl ls st μ
theorem e_X11_turn_13 (Q : ix_R → Prop) (ls : ix_L) (st : List ix_V) (μ : ix_M) : ix_Ev o_X11_turn Q (13, ls, st, μ) = ix_iast 14 (ix_Ev o_X11_turn Q) Q ls st μ := ix_Ev.eq (a_X11_turn launch0) rfl ls st μ
theorem e_X11_turn_14 (Q : ix_R → Prop) (ls : ix_L) (st : List ix_V) (μ : ix_M) : ix_Ev o_X11_turn Q (14, ls, st, μ) = ix_iload 3 15 (ix_Ev o_X11_turn Q) Q ls st μ := ix_Ev.eq (a_X11_turn launch0) rfl ls st μ
theorem e_X11_turn_15 (Q : ix_R → Prop) (ls : ix_L) (st : List ix_V) (μ : ix_M) : ix_Ev o_X11_turn Q (15, ls, st, μ) = ix_iret (ix_Ev o_X11_turn Q) Q ls st μ := ix_Ev.eq (a_X11_turn launch0) rfl ls st μ
theorem r_X11_turn (o : Nat) (i : Int32) (v : Int32) (μ : ix_M) (Q : ix_R → Prop) (ok_o : o < ix_N ∧ ix_tag o = 10) (hT : T_X11_turn (o, i, v) μ Q) : ix_Ev o_X11_turn Q (0, [some (vr 10 o), some (vi i), some (vi v), none], [], μ) := by
  obtain rfl := ok_10 o ok_o.1 ok_o.2
  simp (decide := true) only [e_X11_turn_0, e_X11_turn_1, e_X11_turn_4, e_X11_turn_5, e_X11_turn_6, e_X11_turn_7, e_X11_turn_8, e_X11_turn_11, e_X11_turn_12, e_X11_turn_13, e_X11_turn_14, e_X11_turn_15, vi, vl, vr, ix_push, ix_iload, ix_lload, ix_aload, ix_istore, ix_astore, ix_iinc, ix_bin, ix_div, ix_un, ix_i2l, ix_l2i, ix_lbin, ix_lsh, ix_lcmp, ix_dup, ix_dup2, ix_pop, ix_if, ix_cmp, ix_goto, ix_switch, ix_sw, ix_iret, ix_zret, ix_vret, ix_aret, ix_geti, ix_getr, ix_puti, ix_putz, ix_puts, ix_gets, ix_iald, ix_iast, ix_alen, ix_aald, ix_gval, ix_gcod, ix_bald, ix_blen, ix_sald, ix_nret, ix_math2, ix_math1, ix_acopy, ml_113, ml_114, ml_115, ml_116, ml_118, ml_119, ml_120, ml_121, ml_122, ml_123, ml_124, ml_125, ml_126, mv_0, mv_1, mv_2, mv_3, mv_4, mv_5, mB_or, Nat.add_assoc, Int32.reduceLT, Int32.reduceLE, Int32.reduceToNatClampNeg, Int32.reduceSub, Int32.reduceAdd, Nat.reduceAdd, Nat.reduceLeDiff, true_or, or_true, or_false, false_or, not_false_eq_true, not_true_eq_false, false_implies, true_implies, implies_true, and_self, mB_0, mB_01, Classical.not_not, Nat.zero_le, List.getElem?_cons_zero, List.getElem?_cons_succ, List.set_cons_zero, List.set_cons_succ, ix_nl, ix_cs, true_and, and_true, Option.toList_some, Option.toList_none, List.cons_append, List.nil_append]
  exact ⟨hT.1, hT.1, hT.2⟩
theorem k_X11_turn (l : Launch) : ix_Ct l yX11_turn cX11_turn 4 (some .int) 1 sh_X11_turn T_X11_turn := ix_ct (a_X11_turn l) rfl (by decide) (fun _ => Nat.le_of_ble_eq_true rfl) (fun x μ Q hok hT => r_X11_turn x.1 x.2.1 x.2.2 μ Q (ix_ok_at (hok (vr 10 x.1) (by simp [sh_X11_turn])) (by decide) (by decide)) hT)
def T_X11_isCell : Int32 → ix_M → (ix_R → Prop) → Prop := fun c μ Q => Q (some (vi (mB (0 ≤ c ∧ c ≤ 15))), μ)
def sh_X11_isCell (x : Int32) : List ix_V := [vi x]
theorem mo_X11_isCell (x : Int32) (μ : ix_M) (Q Q' : ix_R → Prop) (h : ∀ r, Q r → Q' r) (hT : T_X11_isCell x μ Q) : T_X11_isCell x μ Q' := by
  first | exact h _ hT | exact ⟨hT.1, h _ hT.2⟩ | exact fun r hr => h _ (hT r hr) | exact ⟨hT.1, fun r hr => h _ (hT.2 r hr)⟩ | exact ⟨hT.1, hT.2.1, fun r hr => h _ (hT.2.2 r hr)⟩
def oc_X11_isCell (n : Nat) : ix_Op := fun k _ ls st μ => match st with
  | .inl a0 :: r => ix_cs r ≤ 8 ∧ T_X11_isCell a0 μ (fun q => k (n, ls, q.1.toList ++ r, q.2))
  | _ => False
theorem oc_X11_isCell_s {l : Launch} {cc : ByteArray} {nL : Nat} {own : String} {d : Nat} {rt : Option FieldType} {pc n : Nat} (h : ix_S l cc nL own d rt pc (ix_call 1 sh_X11_isCell T_X11_isCell n)) : ix_S l cc nL own d rt pc (oc_X11_isCell n) := by
  refine h.by (fun k Q ls st μ h => ?_) (fun k k' Q ls st μ hk h => ?_)
  · unfold oc_X11_isCell at h
    split at h
    · rename_i a0 r
      obtain ⟨h1, h2⟩ := h
      exact ⟨h1, a0, rfl, _, h2, fun r h => h⟩
    · exact h.elim
  · unfold oc_X11_isCell at h ⊢
    split at h
    · obtain ⟨h1, h2⟩ := h
      exact ⟨h1, mo_X11_isCell _ _ _ _ (fun q hq => hk _ hq) h2⟩
    · exact h.elim
def o_X11_isCell : List (Nat × ix_Op) := [
  (0, ix_iload 0 1),
  (1, ix_push (vi 0) 2),
  (2, ix_push (vi 15) 4),
  (4, oc_X11_within 7),
  (7, ix_zret)]
set_option maxRecDepth 20000 in
theorem a_X11_isCell (l : Launch) : ix_AllS l cX11_isCell 1 RX11 2 (some .boolean) o_X11_isCell :=
  .cons (ix_s_iload_n dX11_isCell_0 rfl) <|
  .cons (ix_s_iconst dX11_isCell_1 (by decide +kernel)) <|
  .cons (ix_s_bipush dX11_isCell_2 (by decide +kernel)) <|
  .cons (oc_X11_within_s (ix_s_calls (k_X11_within l) (by decide) (by decide) tw_960 tw_12 tw_958 tw_959 ⟨by decide, by decide, by decide +kernel⟩ (fun _ => rfl) dX11_isCell_4)) <|
  .cons (ix_s_zret dX11_isCell_7 rfl) <| .nil
theorem e_X11_isCell_0 (Q : ix_R → Prop) (ls : ix_L) (st : List ix_V) (μ : ix_M) : ix_Ev o_X11_isCell Q (0, ls, st, μ) = ix_iload 0 1 (ix_Ev o_X11_isCell Q) Q ls st μ := ix_Ev.eq (a_X11_isCell launch0) rfl ls st μ
theorem e_X11_isCell_1 (Q : ix_R → Prop) (ls : ix_L) (st : List ix_V) (μ : ix_M) : ix_Ev o_X11_isCell Q (1, ls, st, μ) = ix_push (vi 0) 2 (ix_Ev o_X11_isCell Q) Q ls st μ := ix_Ev.eq (a_X11_isCell launch0) rfl ls st μ
theorem e_X11_isCell_2 (Q : ix_R → Prop) (ls : ix_L) (st : List ix_V) (μ : ix_M) : ix_Ev o_X11_isCell Q (2, ls, st, μ) = ix_push (vi 15) 4 (ix_Ev o_X11_isCell Q) Q ls st μ := ix_Ev.eq (a_X11_isCell launch0) rfl ls st μ
theorem e_X11_isCell_4 (Q : ix_R → Prop) (ls : ix_L) (st : List ix_V) (μ : ix_M) : ix_Ev o_X11_isCell Q (4, ls, st, μ) = oc_X11_within 7 (ix_Ev o_X11_isCell Q) Q ls st μ := ix_Ev.eq (a_X11_isCell launch0) rfl ls st μ
theorem e_X11_isCell_7 (Q : ix_R → Prop) (ls : ix_L) (st : List ix_V) (μ : ix_M) : ix_Ev o_X11_isCell Q (7, ls, st, μ) = ix_zret (ix_Ev o_X11_isCell Q) Q ls st μ := ix_Ev.eq (a_X11_isCell launch0) rfl ls st μ
theorem r_X11_isCell (c : Int32) (μ : ix_M) (Q : ix_R → Prop) (hT : T_X11_isCell c μ Q) : ix_Ev o_X11_isCell Q (0, [some (vi c)], [], μ) := by
  simp (decide := true) only [e_X11_isCell_0, e_X11_isCell_1, e_X11_isCell_2, e_X11_isCell_4, e_X11_isCell_7, vi, vl, vr, oc_X11_within, T_X11_within, ix_push, ix_iload, ix_lload, ix_aload, ix_istore, ix_astore, ix_iinc, ix_bin, ix_div, ix_un, ix_i2l, ix_l2i, ix_lbin, ix_lsh, ix_lcmp, ix_dup, ix_dup2, ix_pop, ix_if, ix_cmp, ix_goto, ix_switch, ix_sw, ix_iret, ix_zret, ix_vret, ix_aret, ix_geti, ix_getr, ix_puti, ix_putz, ix_puts, ix_gets, ix_iald, ix_iast, ix_alen, ix_aald, ix_gval, ix_gcod, ix_bald, ix_blen, ix_sald, ix_nret, ix_math2, ix_math1, ix_acopy, ml_113, ml_114, ml_115, ml_116, ml_118, ml_119, ml_120, ml_121, ml_122, ml_123, ml_124, ml_125, ml_126, mv_0, mv_1, mv_2, mv_3, mv_4, mv_5, mB_or, Nat.add_assoc, Int32.reduceLT, Int32.reduceLE, Int32.reduceToNatClampNeg, Int32.reduceSub, Int32.reduceAdd, Nat.reduceAdd, Nat.reduceLeDiff, true_or, or_true, or_false, false_or, not_false_eq_true, not_true_eq_false, false_implies, true_implies, implies_true, and_self, mB_0, mB_01, Classical.not_not, Nat.zero_le, List.getElem?_cons_zero, List.getElem?_cons_succ, List.set_cons_zero, List.set_cons_succ, ix_nl, ix_cs, true_and, and_true, Option.toList_some, Option.toList_none, List.cons_append, List.nil_append]
  simp only [T_X11_isCell, mB, vi, vl, vr] at hT
  repeat' (first | refine And.intro ?_ ?_ | intro _)
  all_goals (first | exact hT | (simp only [*, if_true, if_false, not_true_eq_false, not_false_eq_true, and_true, true_and, and_false, false_and, or_true, true_or, or_false, false_or, and_self, or_self] at hT; exact hT) | (simp only [← Int32.not_lt, Classical.not_not] at *; simp only [*, if_true, if_false, not_true_eq_false, not_false_eq_true, and_true, true_and, and_false, false_and, or_true, true_or, or_false, false_or, and_self, or_self] at hT; exact hT) | (simp_all; done))
theorem k_X11_isCell (l : Launch) : ix_Ct l yX11_isCell cX11_isCell 1 (some .boolean) 2 sh_X11_isCell T_X11_isCell := ix_ct (a_X11_isCell l) rfl (by decide) (fun _ => Nat.le_of_ble_eq_true rfl) (fun x μ Q hok hT => r_X11_isCell x μ Q  hT)
def T_X11_isMost : Int32 → ix_M → (ix_R → Prop) → Prop := fun c μ Q => Q (some (vi (mB (0 ≤ c ∧ c ≤ 99))), μ)
def sh_X11_isMost (x : Int32) : List ix_V := [vi x]
theorem mo_X11_isMost (x : Int32) (μ : ix_M) (Q Q' : ix_R → Prop) (h : ∀ r, Q r → Q' r) (hT : T_X11_isMost x μ Q) : T_X11_isMost x μ Q' := by
  first | exact h _ hT | exact ⟨hT.1, h _ hT.2⟩ | exact fun r hr => h _ (hT r hr) | exact ⟨hT.1, fun r hr => h _ (hT.2 r hr)⟩ | exact ⟨hT.1, hT.2.1, fun r hr => h _ (hT.2.2 r hr)⟩
def oc_X11_isMost (n : Nat) : ix_Op := fun k _ ls st μ => match st with
  | .inl a0 :: r => ix_cs r ≤ 8 ∧ T_X11_isMost a0 μ (fun q => k (n, ls, q.1.toList ++ r, q.2))
  | _ => False
theorem oc_X11_isMost_s {l : Launch} {cc : ByteArray} {nL : Nat} {own : String} {d : Nat} {rt : Option FieldType} {pc n : Nat} (h : ix_S l cc nL own d rt pc (ix_call 1 sh_X11_isMost T_X11_isMost n)) : ix_S l cc nL own d rt pc (oc_X11_isMost n) := by
  refine h.by (fun k Q ls st μ h => ?_) (fun k k' Q ls st μ hk h => ?_)
  · unfold oc_X11_isMost at h
    split at h
    · rename_i a0 r
      obtain ⟨h1, h2⟩ := h
      exact ⟨h1, a0, rfl, _, h2, fun r h => h⟩
    · exact h.elim
  · unfold oc_X11_isMost at h ⊢
    split at h
    · obtain ⟨h1, h2⟩ := h
      exact ⟨h1, mo_X11_isMost _ _ _ _ (fun q hq => hk _ hq) h2⟩
    · exact h.elim
def o_X11_isMost : List (Nat × ix_Op) := [
  (0, ix_iload 0 1),
  (1, ix_push (vi 0) 2),
  (2, ix_push (vi 99) 4),
  (4, oc_X11_within 7),
  (7, ix_zret)]
set_option maxRecDepth 20000 in
theorem a_X11_isMost (l : Launch) : ix_AllS l cX11_isMost 1 RX11 2 (some .boolean) o_X11_isMost :=
  .cons (ix_s_iload_n dX11_isMost_0 rfl) <|
  .cons (ix_s_iconst dX11_isMost_1 (by decide +kernel)) <|
  .cons (ix_s_bipush dX11_isMost_2 (by decide +kernel)) <|
  .cons (oc_X11_within_s (ix_s_calls (k_X11_within l) (by decide) (by decide) tw_960 tw_12 tw_958 tw_959 ⟨by decide, by decide, by decide +kernel⟩ (fun _ => rfl) dX11_isMost_4)) <|
  .cons (ix_s_zret dX11_isMost_7 rfl) <| .nil
theorem e_X11_isMost_0 (Q : ix_R → Prop) (ls : ix_L) (st : List ix_V) (μ : ix_M) : ix_Ev o_X11_isMost Q (0, ls, st, μ) = ix_iload 0 1 (ix_Ev o_X11_isMost Q) Q ls st μ := ix_Ev.eq (a_X11_isMost launch0) rfl ls st μ
theorem e_X11_isMost_1 (Q : ix_R → Prop) (ls : ix_L) (st : List ix_V) (μ : ix_M) : ix_Ev o_X11_isMost Q (1, ls, st, μ) = ix_push (vi 0) 2 (ix_Ev o_X11_isMost Q) Q ls st μ := ix_Ev.eq (a_X11_isMost launch0) rfl ls st μ
theorem e_X11_isMost_2 (Q : ix_R → Prop) (ls : ix_L) (st : List ix_V) (μ : ix_M) : ix_Ev o_X11_isMost Q (2, ls, st, μ) = ix_push (vi 99) 4 (ix_Ev o_X11_isMost Q) Q ls st μ := ix_Ev.eq (a_X11_isMost launch0) rfl ls st μ
theorem e_X11_isMost_4 (Q : ix_R → Prop) (ls : ix_L) (st : List ix_V) (μ : ix_M) : ix_Ev o_X11_isMost Q (4, ls, st, μ) = oc_X11_within 7 (ix_Ev o_X11_isMost Q) Q ls st μ := ix_Ev.eq (a_X11_isMost launch0) rfl ls st μ
theorem e_X11_isMost_7 (Q : ix_R → Prop) (ls : ix_L) (st : List ix_V) (μ : ix_M) : ix_Ev o_X11_isMost Q (7, ls, st, μ) = ix_zret (ix_Ev o_X11_isMost Q) Q ls st μ := ix_Ev.eq (a_X11_isMost launch0) rfl ls st μ
theorem r_X11_isMost (c : Int32) (μ : ix_M) (Q : ix_R → Prop) (hT : T_X11_isMost c μ Q) : ix_Ev o_X11_isMost Q (0, [some (vi c)], [], μ) := by
  simp (decide := true) only [e_X11_isMost_0, e_X11_isMost_1, e_X11_isMost_2, e_X11_isMost_4, e_X11_isMost_7, vi, vl, vr, oc_X11_within, T_X11_within, ix_push, ix_iload, ix_lload, ix_aload, ix_istore, ix_astore, ix_iinc, ix_bin, ix_div, ix_un, ix_i2l, ix_l2i, ix_lbin, ix_lsh, ix_lcmp, ix_dup, ix_dup2, ix_pop, ix_if, ix_cmp, ix_goto, ix_switch, ix_sw, ix_iret, ix_zret, ix_vret, ix_aret, ix_geti, ix_getr, ix_puti, ix_putz, ix_puts, ix_gets, ix_iald, ix_iast, ix_alen, ix_aald, ix_gval, ix_gcod, ix_bald, ix_blen, ix_sald, ix_nret, ix_math2, ix_math1, ix_acopy, ml_113, ml_114, ml_115, ml_116, ml_118, ml_119, ml_120, ml_121, ml_122, ml_123, ml_124, ml_125, ml_126, mv_0, mv_1, mv_2, mv_3, mv_4, mv_5, mB_or, Nat.add_assoc, Int32.reduceLT, Int32.reduceLE, Int32.reduceToNatClampNeg, Int32.reduceSub, Int32.reduceAdd, Nat.reduceAdd, Nat.reduceLeDiff, true_or, or_true, or_false, false_or, not_false_eq_true, not_true_eq_false, false_implies, true_implies, implies_true, and_self, mB_0, mB_01, Classical.not_not, Nat.zero_le, List.getElem?_cons_zero, List.getElem?_cons_succ, List.set_cons_zero, List.set_cons_succ, ix_nl, ix_cs, true_and, and_true, Option.toList_some, Option.toList_none, List.cons_append, List.nil_append]
  simp only [T_X11_isMost, mB, vi, vl, vr] at hT
  repeat' (first | refine And.intro ?_ ?_ | intro _)
  all_goals (first | exact hT | (simp only [*, if_true, if_false, not_true_eq_false, not_false_eq_true, and_true, true_and, and_false, false_and, or_true, true_or, or_false, false_or, and_self, or_self] at hT; exact hT) | (simp only [← Int32.not_lt, Classical.not_not] at *; simp only [*, if_true, if_false, not_true_eq_false, not_false_eq_true, and_true, true_and, and_false, false_and, or_true, true_or, or_false, false_or, and_self, or_self] at hT; exact hT) | (simp_all; done))
theorem k_X11_isMost (l : Launch) : ix_Ct l yX11_isMost cX11_isMost 1 (some .boolean) 2 sh_X11_isMost T_X11_isMost := ix_ct (a_X11_isMost l) rfl (by decide) (fun _ => Nat.le_of_ble_eq_true rfl) (fun x μ Q hok hT => r_X11_isMost x μ Q  hT)
def T_X11_isPlace : Int32 → ix_M → (ix_R → Prop) → Prop := fun c μ Q => Q (some (vi (mB (0 ≤ c ∧ c ≤ 5))), μ)
def sh_X11_isPlace (x : Int32) : List ix_V := [vi x]
theorem mo_X11_isPlace (x : Int32) (μ : ix_M) (Q Q' : ix_R → Prop) (h : ∀ r, Q r → Q' r) (hT : T_X11_isPlace x μ Q) : T_X11_isPlace x μ Q' := by
  first | exact h _ hT | exact ⟨hT.1, h _ hT.2⟩ | exact fun r hr => h _ (hT r hr) | exact ⟨hT.1, fun r hr => h _ (hT.2 r hr)⟩ | exact ⟨hT.1, hT.2.1, fun r hr => h _ (hT.2.2 r hr)⟩
def oc_X11_isPlace (n : Nat) : ix_Op := fun k _ ls st μ => match st with
  | .inl a0 :: r => ix_cs r ≤ 8 ∧ T_X11_isPlace a0 μ (fun q => k (n, ls, q.1.toList ++ r, q.2))
  | _ => False
theorem oc_X11_isPlace_s {l : Launch} {cc : ByteArray} {nL : Nat} {own : String} {d : Nat} {rt : Option FieldType} {pc n : Nat} (h : ix_S l cc nL own d rt pc (ix_call 1 sh_X11_isPlace T_X11_isPlace n)) : ix_S l cc nL own d rt pc (oc_X11_isPlace n) := by
  refine h.by (fun k Q ls st μ h => ?_) (fun k k' Q ls st μ hk h => ?_)
  · unfold oc_X11_isPlace at h
    split at h
    · rename_i a0 r
      obtain ⟨h1, h2⟩ := h
      exact ⟨h1, a0, rfl, _, h2, fun r h => h⟩
    · exact h.elim
  · unfold oc_X11_isPlace at h ⊢
    split at h
    · obtain ⟨h1, h2⟩ := h
      exact ⟨h1, mo_X11_isPlace _ _ _ _ (fun q hq => hk _ hq) h2⟩
    · exact h.elim
def o_X11_isPlace : List (Nat × ix_Op) := [
  (0, ix_iload 0 1),
  (1, ix_push (vi 0) 2),
  (2, ix_push (vi 5) 3),
  (3, oc_X11_within 6),
  (6, ix_zret)]
set_option maxRecDepth 20000 in
theorem a_X11_isPlace (l : Launch) : ix_AllS l cX11_isPlace 1 RX11 2 (some .boolean) o_X11_isPlace :=
  .cons (ix_s_iload_n dX11_isPlace_0 rfl) <|
  .cons (ix_s_iconst dX11_isPlace_1 (by decide +kernel)) <|
  .cons (ix_s_iconst dX11_isPlace_2 (by decide +kernel)) <|
  .cons (oc_X11_within_s (ix_s_calls (k_X11_within l) (by decide) (by decide) tw_960 tw_12 tw_958 tw_959 ⟨by decide, by decide, by decide +kernel⟩ (fun _ => rfl) dX11_isPlace_3)) <|
  .cons (ix_s_zret dX11_isPlace_6 rfl) <| .nil
theorem e_X11_isPlace_0 (Q : ix_R → Prop) (ls : ix_L) (st : List ix_V) (μ : ix_M) : ix_Ev o_X11_isPlace Q (0, ls, st, μ) = ix_iload 0 1 (ix_Ev o_X11_isPlace Q) Q ls st μ := ix_Ev.eq (a_X11_isPlace launch0) rfl ls st μ
theorem e_X11_isPlace_1 (Q : ix_R → Prop) (ls : ix_L) (st : List ix_V) (μ : ix_M) : ix_Ev o_X11_isPlace Q (1, ls, st, μ) = ix_push (vi 0) 2 (ix_Ev o_X11_isPlace Q) Q ls st μ := ix_Ev.eq (a_X11_isPlace launch0) rfl ls st μ
theorem e_X11_isPlace_2 (Q : ix_R → Prop) (ls : ix_L) (st : List ix_V) (μ : ix_M) : ix_Ev o_X11_isPlace Q (2, ls, st, μ) = ix_push (vi 5) 3 (ix_Ev o_X11_isPlace Q) Q ls st μ := ix_Ev.eq (a_X11_isPlace launch0) rfl ls st μ
theorem e_X11_isPlace_3 (Q : ix_R → Prop) (ls : ix_L) (st : List ix_V) (μ : ix_M) : ix_Ev o_X11_isPlace Q (3, ls, st, μ) = oc_X11_within 6 (ix_Ev o_X11_isPlace Q) Q ls st μ := ix_Ev.eq (a_X11_isPlace launch0) rfl ls st μ
theorem e_X11_isPlace_6 (Q : ix_R → Prop) (ls : ix_L) (st : List ix_V) (μ : ix_M) : ix_Ev o_X11_isPlace Q (6, ls, st, μ) = ix_zret (ix_Ev o_X11_isPlace Q) Q ls st μ := ix_Ev.eq (a_X11_isPlace launch0) rfl ls st μ
theorem r_X11_isPlace (c : Int32) (μ : ix_M) (Q : ix_R → Prop) (hT : T_X11_isPlace c μ Q) : ix_Ev o_X11_isPlace Q (0, [some (vi c)], [], μ) := by
  simp (decide := true) only [e_X11_isPlace_0, e_X11_isPlace_1, e_X11_isPlace_2, e_X11_isPlace_3, e_X11_isPlace_6, vi, vl, vr, oc_X11_within, T_X11_within, ix_push, ix_iload, ix_lload, ix_aload, ix_istore, ix_astore, ix_iinc, ix_bin, ix_div, ix_un, ix_i2l, ix_l2i, ix_lbin, ix_lsh, ix_lcmp, ix_dup, ix_dup2, ix_pop, ix_if, ix_cmp, ix_goto, ix_switch, ix_sw, ix_iret, ix_zret, ix_vret, ix_aret, ix_geti, ix_getr, ix_puti, ix_putz, ix_puts, ix_gets, ix_iald, ix_iast, ix_alen, ix_aald, ix_gval, ix_gcod, ix_bald, ix_blen, ix_sald, ix_nret, ix_math2, ix_math1, ix_acopy, ml_113, ml_114, ml_115, ml_116, ml_118, ml_119, ml_120, ml_121, ml_122, ml_123, ml_124, ml_125, ml_126, mv_0, mv_1, mv_2, mv_3, mv_4, mv_5, mB_or, Nat.add_assoc, Int32.reduceLT, Int32.reduceLE, Int32.reduceToNatClampNeg, Int32.reduceSub, Int32.reduceAdd, Nat.reduceAdd, Nat.reduceLeDiff, true_or, or_true, or_false, false_or, not_false_eq_true, not_true_eq_false, false_implies, true_implies, implies_true, and_self, mB_0, mB_01, Classical.not_not, Nat.zero_le, List.getElem?_cons_zero, List.getElem?_cons_succ, List.set_cons_zero, List.set_cons_succ, ix_nl, ix_cs, true_and, and_true, Option.toList_some, Option.toList_none, List.cons_append, List.nil_append]
  simp only [T_X11_isPlace, mB, vi, vl, vr] at hT
  repeat' (first | refine And.intro ?_ ?_ | intro _)
  all_goals (first | exact hT | (simp only [*, if_true, if_false, not_true_eq_false, not_false_eq_true, and_true, true_and, and_false, false_and, or_true, true_or, or_false, false_or, and_self, or_self] at hT; exact hT) | (simp only [← Int32.not_lt, Classical.not_not] at *; simp only [*, if_true, if_false, not_true_eq_false, not_false_eq_true, and_true, true_and, and_false, false_and, or_true, true_or, or_false, false_or, and_self, or_self] at hT; exact hT) | (simp_all; done))
theorem k_X11_isPlace (l : Launch) : ix_Ct l yX11_isPlace cX11_isPlace 1 (some .boolean) 2 sh_X11_isPlace T_X11_isPlace := ix_ct (a_X11_isPlace l) rfl (by decide) (fun _ => Nat.le_of_ble_eq_true rfl) (fun x μ Q hok hT => r_X11_isPlace x μ Q  hT)
def T_X11_isWearer : Int32 → ix_M → (ix_R → Prop) → Prop := fun c μ Q => Q (some (vi (mB (0 ≤ c ∧ c ≤ 5))), μ)
def sh_X11_isWearer (x : Int32) : List ix_V := [vi x]
theorem mo_X11_isWearer (x : Int32) (μ : ix_M) (Q Q' : ix_R → Prop) (h : ∀ r, Q r → Q' r) (hT : T_X11_isWearer x μ Q) : T_X11_isWearer x μ Q' := by
  first | exact h _ hT | exact ⟨hT.1, h _ hT.2⟩ | exact fun r hr => h _ (hT r hr) | exact ⟨hT.1, fun r hr => h _ (hT.2 r hr)⟩ | exact ⟨hT.1, hT.2.1, fun r hr => h _ (hT.2.2 r hr)⟩
def oc_X11_isWearer (n : Nat) : ix_Op := fun k _ ls st μ => match st with
  | .inl a0 :: r => ix_cs r ≤ 8 ∧ T_X11_isWearer a0 μ (fun q => k (n, ls, q.1.toList ++ r, q.2))
  | _ => False
theorem oc_X11_isWearer_s {l : Launch} {cc : ByteArray} {nL : Nat} {own : String} {d : Nat} {rt : Option FieldType} {pc n : Nat} (h : ix_S l cc nL own d rt pc (ix_call 1 sh_X11_isWearer T_X11_isWearer n)) : ix_S l cc nL own d rt pc (oc_X11_isWearer n) := by
  refine h.by (fun k Q ls st μ h => ?_) (fun k k' Q ls st μ hk h => ?_)
  · unfold oc_X11_isWearer at h
    split at h
    · rename_i a0 r
      obtain ⟨h1, h2⟩ := h
      exact ⟨h1, a0, rfl, _, h2, fun r h => h⟩
    · exact h.elim
  · unfold oc_X11_isWearer at h ⊢
    split at h
    · obtain ⟨h1, h2⟩ := h
      exact ⟨h1, mo_X11_isWearer _ _ _ _ (fun q hq => hk _ hq) h2⟩
    · exact h.elim
def o_X11_isWearer : List (Nat × ix_Op) := [
  (0, ix_iload 0 1),
  (1, ix_push (vi 0) 2),
  (2, ix_push (vi 5) 3),
  (3, oc_X11_within 6),
  (6, ix_zret)]
set_option maxRecDepth 20000 in
theorem a_X11_isWearer (l : Launch) : ix_AllS l cX11_isWearer 1 RX11 2 (some .boolean) o_X11_isWearer :=
  .cons (ix_s_iload_n dX11_isWearer_0 rfl) <|
  .cons (ix_s_iconst dX11_isWearer_1 (by decide +kernel)) <|
  .cons (ix_s_iconst dX11_isWearer_2 (by decide +kernel)) <|
  .cons (oc_X11_within_s (ix_s_calls (k_X11_within l) (by decide) (by decide) tw_960 tw_12 tw_958 tw_959 ⟨by decide, by decide, by decide +kernel⟩ (fun _ => rfl) dX11_isWearer_3)) <|
  .cons (ix_s_zret dX11_isWearer_6 rfl) <| .nil
theorem e_X11_isWearer_0 (Q : ix_R → Prop) (ls : ix_L) (st : List ix_V) (μ : ix_M) : ix_Ev o_X11_isWearer Q (0, ls, st, μ) = ix_iload 0 1 (ix_Ev o_X11_isWearer Q) Q ls st μ := ix_Ev.eq (a_X11_isWearer launch0) rfl ls st μ
theorem e_X11_isWearer_1 (Q : ix_R → Prop) (ls : ix_L) (st : List ix_V) (μ : ix_M) : ix_Ev o_X11_isWearer Q (1, ls, st, μ) = ix_push (vi 0) 2 (ix_Ev o_X11_isWearer Q) Q ls st μ := ix_Ev.eq (a_X11_isWearer launch0) rfl ls st μ
theorem e_X11_isWearer_2 (Q : ix_R → Prop) (ls : ix_L) (st : List ix_V) (μ : ix_M) : ix_Ev o_X11_isWearer Q (2, ls, st, μ) = ix_push (vi 5) 3 (ix_Ev o_X11_isWearer Q) Q ls st μ := ix_Ev.eq (a_X11_isWearer launch0) rfl ls st μ
theorem e_X11_isWearer_3 (Q : ix_R → Prop) (ls : ix_L) (st : List ix_V) (μ : ix_M) : ix_Ev o_X11_isWearer Q (3, ls, st, μ) = oc_X11_within 6 (ix_Ev o_X11_isWearer Q) Q ls st μ := ix_Ev.eq (a_X11_isWearer launch0) rfl ls st μ
theorem e_X11_isWearer_6 (Q : ix_R → Prop) (ls : ix_L) (st : List ix_V) (μ : ix_M) : ix_Ev o_X11_isWearer Q (6, ls, st, μ) = ix_zret (ix_Ev o_X11_isWearer Q) Q ls st μ := ix_Ev.eq (a_X11_isWearer launch0) rfl ls st μ
theorem r_X11_isWearer (c : Int32) (μ : ix_M) (Q : ix_R → Prop) (hT : T_X11_isWearer c μ Q) : ix_Ev o_X11_isWearer Q (0, [some (vi c)], [], μ) := by
  simp (decide := true) only [e_X11_isWearer_0, e_X11_isWearer_1, e_X11_isWearer_2, e_X11_isWearer_3, e_X11_isWearer_6, vi, vl, vr, oc_X11_within, T_X11_within, ix_push, ix_iload, ix_lload, ix_aload, ix_istore, ix_astore, ix_iinc, ix_bin, ix_div, ix_un, ix_i2l, ix_l2i, ix_lbin, ix_lsh, ix_lcmp, ix_dup, ix_dup2, ix_pop, ix_if, ix_cmp, ix_goto, ix_switch, ix_sw, ix_iret, ix_zret, ix_vret, ix_aret, ix_geti, ix_getr, ix_puti, ix_putz, ix_puts, ix_gets, ix_iald, ix_iast, ix_alen, ix_aald, ix_gval, ix_gcod, ix_bald, ix_blen, ix_sald, ix_nret, ix_math2, ix_math1, ix_acopy, ml_113, ml_114, ml_115, ml_116, ml_118, ml_119, ml_120, ml_121, ml_122, ml_123, ml_124, ml_125, ml_126, mv_0, mv_1, mv_2, mv_3, mv_4, mv_5, mB_or, Nat.add_assoc, Int32.reduceLT, Int32.reduceLE, Int32.reduceToNatClampNeg, Int32.reduceSub, Int32.reduceAdd, Nat.reduceAdd, Nat.reduceLeDiff, true_or, or_true, or_false, false_or, not_false_eq_true, not_true_eq_false, false_implies, true_implies, implies_true, and_self, mB_0, mB_01, Classical.not_not, Nat.zero_le, List.getElem?_cons_zero, List.getElem?_cons_succ, List.set_cons_zero, List.set_cons_succ, ix_nl, ix_cs, true_and, and_true, Option.toList_some, Option.toList_none, List.cons_append, List.nil_append]
  simp only [T_X11_isWearer, mB, vi, vl, vr] at hT
  repeat' (first | refine And.intro ?_ ?_ | intro _)
  all_goals (first | exact hT | (simp only [*, if_true, if_false, not_true_eq_false, not_false_eq_true, and_true, true_and, and_false, false_and, or_true, true_or, or_false, false_or, and_self, or_self] at hT; exact hT) | (simp only [← Int32.not_lt, Classical.not_not] at *; simp only [*, if_true, if_false, not_true_eq_false, not_false_eq_true, and_true, true_and, and_false, false_and, or_true, true_or, or_false, false_or, and_self, or_self] at hT; exact hT) | (simp_all; done))
theorem k_X11_isWearer (l : Launch) : ix_Ct l yX11_isWearer cX11_isWearer 1 (some .boolean) 2 sh_X11_isWearer T_X11_isWearer := ix_ct (a_X11_isWearer l) rfl (by decide) (fun _ => Nat.le_of_ble_eq_true rfl) (fun x μ Q hok hT => r_X11_isWearer x μ Q  hT)
def T_X11_isKindM : Int32 → ix_M → (ix_R → Prop) → Prop := fun c μ Q => Q (some (vi (mB (0 ≤ c ∧ c ≤ 69))), μ)
def sh_X11_isKindM (x : Int32) : List ix_V := [vi x]
theorem mo_X11_isKindM (x : Int32) (μ : ix_M) (Q Q' : ix_R → Prop) (h : ∀ r, Q r → Q' r) (hT : T_X11_isKindM x μ Q) : T_X11_isKindM x μ Q' := by
  first | exact h _ hT | exact ⟨hT.1, h _ hT.2⟩ | exact fun r hr => h _ (hT r hr) | exact ⟨hT.1, fun r hr => h _ (hT.2 r hr)⟩ | exact ⟨hT.1, hT.2.1, fun r hr => h _ (hT.2.2 r hr)⟩
def oc_X11_isKindM (n : Nat) : ix_Op := fun k _ ls st μ => match st with
  | .inl a0 :: r => ix_cs r ≤ 8 ∧ T_X11_isKindM a0 μ (fun q => k (n, ls, q.1.toList ++ r, q.2))
  | _ => False
theorem oc_X11_isKindM_s {l : Launch} {cc : ByteArray} {nL : Nat} {own : String} {d : Nat} {rt : Option FieldType} {pc n : Nat} (h : ix_S l cc nL own d rt pc (ix_call 1 sh_X11_isKindM T_X11_isKindM n)) : ix_S l cc nL own d rt pc (oc_X11_isKindM n) := by
  refine h.by (fun k Q ls st μ h => ?_) (fun k k' Q ls st μ hk h => ?_)
  · unfold oc_X11_isKindM at h
    split at h
    · rename_i a0 r
      obtain ⟨h1, h2⟩ := h
      exact ⟨h1, a0, rfl, _, h2, fun r h => h⟩
    · exact h.elim
  · unfold oc_X11_isKindM at h ⊢
    split at h
    · obtain ⟨h1, h2⟩ := h
      exact ⟨h1, mo_X11_isKindM _ _ _ _ (fun q hq => hk _ hq) h2⟩
    · exact h.elim
def o_X11_isKindM : List (Nat × ix_Op) := [
  (0, ix_iload 0 1),
  (1, ix_push (vi 0) 2),
  (2, ix_push (vi 69) 4),
  (4, oc_X11_within 7),
  (7, ix_zret)]
set_option maxRecDepth 20000 in
theorem a_X11_isKindM (l : Launch) : ix_AllS l cX11_isKindM 1 RX11 2 (some .boolean) o_X11_isKindM :=
  .cons (ix_s_iload_n dX11_isKindM_0 rfl) <|
  .cons (ix_s_iconst dX11_isKindM_1 (by decide +kernel)) <|
  .cons (ix_s_bipush dX11_isKindM_2 (by decide +kernel)) <|
  .cons (oc_X11_within_s (ix_s_calls (k_X11_within l) (by decide) (by decide) tw_960 tw_12 tw_958 tw_959 ⟨by decide, by decide, by decide +kernel⟩ (fun _ => rfl) dX11_isKindM_4)) <|
  .cons (ix_s_zret dX11_isKindM_7 rfl) <| .nil
theorem e_X11_isKindM_0 (Q : ix_R → Prop) (ls : ix_L) (st : List ix_V) (μ : ix_M) : ix_Ev o_X11_isKindM Q (0, ls, st, μ) = ix_iload 0 1 (ix_Ev o_X11_isKindM Q) Q ls st μ := ix_Ev.eq (a_X11_isKindM launch0) rfl ls st μ
theorem e_X11_isKindM_1 (Q : ix_R → Prop) (ls : ix_L) (st : List ix_V) (μ : ix_M) : ix_Ev o_X11_isKindM Q (1, ls, st, μ) = ix_push (vi 0) 2 (ix_Ev o_X11_isKindM Q) Q ls st μ := ix_Ev.eq (a_X11_isKindM launch0) rfl ls st μ
theorem e_X11_isKindM_2 (Q : ix_R → Prop) (ls : ix_L) (st : List ix_V) (μ : ix_M) : ix_Ev o_X11_isKindM Q (2, ls, st, μ) = ix_push (vi 69) 4 (ix_Ev o_X11_isKindM Q) Q ls st μ := ix_Ev.eq (a_X11_isKindM launch0) rfl ls st μ
theorem e_X11_isKindM_4 (Q : ix_R → Prop) (ls : ix_L) (st : List ix_V) (μ : ix_M) : ix_Ev o_X11_isKindM Q (4, ls, st, μ) = oc_X11_within 7 (ix_Ev o_X11_isKindM Q) Q ls st μ := ix_Ev.eq (a_X11_isKindM launch0) rfl ls st μ
theorem e_X11_isKindM_7 (Q : ix_R → Prop) (ls : ix_L) (st : List ix_V) (μ : ix_M) : ix_Ev o_X11_isKindM Q (7, ls, st, μ) = ix_zret (ix_Ev o_X11_isKindM Q) Q ls st μ := ix_Ev.eq (a_X11_isKindM launch0) rfl ls st μ
theorem r_X11_isKindM (c : Int32) (μ : ix_M) (Q : ix_R → Prop) (hT : T_X11_isKindM c μ Q) : ix_Ev o_X11_isKindM Q (0, [some (vi c)], [], μ) := by
  simp (decide := true) only [e_X11_isKindM_0, e_X11_isKindM_1, e_X11_isKindM_2, e_X11_isKindM_4, e_X11_isKindM_7, vi, vl, vr, oc_X11_within, T_X11_within, ix_push, ix_iload, ix_lload, ix_aload, ix_istore, ix_astore, ix_iinc, ix_bin, ix_div, ix_un, ix_i2l, ix_l2i, ix_lbin, ix_lsh, ix_lcmp, ix_dup, ix_dup2, ix_pop, ix_if, ix_cmp, ix_goto, ix_switch, ix_sw, ix_iret, ix_zret, ix_vret, ix_aret, ix_geti, ix_getr, ix_puti, ix_putz, ix_puts, ix_gets, ix_iald, ix_iast, ix_alen, ix_aald, ix_gval, ix_gcod, ix_bald, ix_blen, ix_sald, ix_nret, ix_math2, ix_math1, ix_acopy, ml_113, ml_114, ml_115, ml_116, ml_118, ml_119, ml_120, ml_121, ml_122, ml_123, ml_124, ml_125, ml_126, mv_0, mv_1, mv_2, mv_3, mv_4, mv_5, mB_or, Nat.add_assoc, Int32.reduceLT, Int32.reduceLE, Int32.reduceToNatClampNeg, Int32.reduceSub, Int32.reduceAdd, Nat.reduceAdd, Nat.reduceLeDiff, true_or, or_true, or_false, false_or, not_false_eq_true, not_true_eq_false, false_implies, true_implies, implies_true, and_self, mB_0, mB_01, Classical.not_not, Nat.zero_le, List.getElem?_cons_zero, List.getElem?_cons_succ, List.set_cons_zero, List.set_cons_succ, ix_nl, ix_cs, true_and, and_true, Option.toList_some, Option.toList_none, List.cons_append, List.nil_append]
  simp only [T_X11_isKindM, mB, vi, vl, vr] at hT
  repeat' (first | refine And.intro ?_ ?_ | intro _)
  all_goals (first | exact hT | (simp only [*, if_true, if_false, not_true_eq_false, not_false_eq_true, and_true, true_and, and_false, false_and, or_true, true_or, or_false, false_or, and_self, or_self] at hT; exact hT) | (simp only [← Int32.not_lt, Classical.not_not] at *; simp only [*, if_true, if_false, not_true_eq_false, not_false_eq_true, and_true, true_and, and_false, false_and, or_true, true_or, or_false, false_or, and_self, or_self] at hT; exact hT) | (simp_all; done))
theorem k_X11_isKindM (l : Launch) : ix_Ct l yX11_isKindM cX11_isKindM 1 (some .boolean) 2 sh_X11_isKindM T_X11_isKindM := ix_ct (a_X11_isKindM l) rfl (by decide) (fun _ => Nat.le_of_ble_eq_true rfl) (fun x μ Q hok hT => r_X11_isKindM x μ Q  hT)
def T_X11_isBehind : Int32 → ix_M → (ix_R → Prop) → Prop := fun c μ Q => Q (some (vi (mB (0 ≤ c ∧ c ≤ 60))), μ)
def sh_X11_isBehind (x : Int32) : List ix_V := [vi x]
theorem mo_X11_isBehind (x : Int32) (μ : ix_M) (Q Q' : ix_R → Prop) (h : ∀ r, Q r → Q' r) (hT : T_X11_isBehind x μ Q) : T_X11_isBehind x μ Q' := by
  first | exact h _ hT | exact ⟨hT.1, h _ hT.2⟩ | exact fun r hr => h _ (hT r hr) | exact ⟨hT.1, fun r hr => h _ (hT.2 r hr)⟩ | exact ⟨hT.1, hT.2.1, fun r hr => h _ (hT.2.2 r hr)⟩
def oc_X11_isBehind (n : Nat) : ix_Op := fun k _ ls st μ => match st with
  | .inl a0 :: r => ix_cs r ≤ 8 ∧ T_X11_isBehind a0 μ (fun q => k (n, ls, q.1.toList ++ r, q.2))
  | _ => False
theorem oc_X11_isBehind_s {l : Launch} {cc : ByteArray} {nL : Nat} {own : String} {d : Nat} {rt : Option FieldType} {pc n : Nat} (h : ix_S l cc nL own d rt pc (ix_call 1 sh_X11_isBehind T_X11_isBehind n)) : ix_S l cc nL own d rt pc (oc_X11_isBehind n) := by
  refine h.by (fun k Q ls st μ h => ?_) (fun k k' Q ls st μ hk h => ?_)
  · unfold oc_X11_isBehind at h
    split at h
    · rename_i a0 r
      obtain ⟨h1, h2⟩ := h
      exact ⟨h1, a0, rfl, _, h2, fun r h => h⟩
    · exact h.elim
  · unfold oc_X11_isBehind at h ⊢
    split at h
    · obtain ⟨h1, h2⟩ := h
      exact ⟨h1, mo_X11_isBehind _ _ _ _ (fun q hq => hk _ hq) h2⟩
    · exact h.elim
def o_X11_isBehind : List (Nat × ix_Op) := [
  (0, ix_iload 0 1),
  (1, ix_push (vi 0) 2),
  (2, ix_push (vi 60) 4),
  (4, oc_X11_within 7),
  (7, ix_zret)]
set_option maxRecDepth 20000 in
theorem a_X11_isBehind (l : Launch) : ix_AllS l cX11_isBehind 1 RX11 2 (some .boolean) o_X11_isBehind :=
  .cons (ix_s_iload_n dX11_isBehind_0 rfl) <|
  .cons (ix_s_iconst dX11_isBehind_1 (by decide +kernel)) <|
  .cons (ix_s_bipush dX11_isBehind_2 (by decide +kernel)) <|
  .cons (oc_X11_within_s (ix_s_calls (k_X11_within l) (by decide) (by decide) tw_960 tw_12 tw_958 tw_959 ⟨by decide, by decide, by decide +kernel⟩ (fun _ => rfl) dX11_isBehind_4)) <|
  .cons (ix_s_zret dX11_isBehind_7 rfl) <| .nil
theorem e_X11_isBehind_0 (Q : ix_R → Prop) (ls : ix_L) (st : List ix_V) (μ : ix_M) : ix_Ev o_X11_isBehind Q (0, ls, st, μ) = ix_iload 0 1 (ix_Ev o_X11_isBehind Q) Q ls st μ := ix_Ev.eq (a_X11_isBehind launch0) rfl ls st μ
theorem e_X11_isBehind_1 (Q : ix_R → Prop) (ls : ix_L) (st : List ix_V) (μ : ix_M) : ix_Ev o_X11_isBehind Q (1, ls, st, μ) = ix_push (vi 0) 2 (ix_Ev o_X11_isBehind Q) Q ls st μ := ix_Ev.eq (a_X11_isBehind launch0) rfl ls st μ
theorem e_X11_isBehind_2 (Q : ix_R → Prop) (ls : ix_L) (st : List ix_V) (μ : ix_M) : ix_Ev o_X11_isBehind Q (2, ls, st, μ) = ix_push (vi 60) 4 (ix_Ev o_X11_isBehind Q) Q ls st μ := ix_Ev.eq (a_X11_isBehind launch0) rfl ls st μ
theorem e_X11_isBehind_4 (Q : ix_R → Prop) (ls : ix_L) (st : List ix_V) (μ : ix_M) : ix_Ev o_X11_isBehind Q (4, ls, st, μ) = oc_X11_within 7 (ix_Ev o_X11_isBehind Q) Q ls st μ := ix_Ev.eq (a_X11_isBehind launch0) rfl ls st μ
theorem e_X11_isBehind_7 (Q : ix_R → Prop) (ls : ix_L) (st : List ix_V) (μ : ix_M) : ix_Ev o_X11_isBehind Q (7, ls, st, μ) = ix_zret (ix_Ev o_X11_isBehind Q) Q ls st μ := ix_Ev.eq (a_X11_isBehind launch0) rfl ls st μ
theorem r_X11_isBehind (c : Int32) (μ : ix_M) (Q : ix_R → Prop) (hT : T_X11_isBehind c μ Q) : ix_Ev o_X11_isBehind Q (0, [some (vi c)], [], μ) := by
  simp (decide := true) only [e_X11_isBehind_0, e_X11_isBehind_1, e_X11_isBehind_2, e_X11_isBehind_4, e_X11_isBehind_7, vi, vl, vr, oc_X11_within, T_X11_within, ix_push, ix_iload, ix_lload, ix_aload, ix_istore, ix_astore, ix_iinc, ix_bin, ix_div, ix_un, ix_i2l, ix_l2i, ix_lbin, ix_lsh, ix_lcmp, ix_dup, ix_dup2, ix_pop, ix_if, ix_cmp, ix_goto, ix_switch, ix_sw, ix_iret, ix_zret, ix_vret, ix_aret, ix_geti, ix_getr, ix_puti, ix_putz, ix_puts, ix_gets, ix_iald, ix_iast, ix_alen, ix_aald, ix_gval, ix_gcod, ix_bald, ix_blen, ix_sald, ix_nret, ix_math2, ix_math1, ix_acopy, ml_113, ml_114, ml_115, ml_116, ml_118, ml_119, ml_120, ml_121, ml_122, ml_123, ml_124, ml_125, ml_126, mv_0, mv_1, mv_2, mv_3, mv_4, mv_5, mB_or, Nat.add_assoc, Int32.reduceLT, Int32.reduceLE, Int32.reduceToNatClampNeg, Int32.reduceSub, Int32.reduceAdd, Nat.reduceAdd, Nat.reduceLeDiff, true_or, or_true, or_false, false_or, not_false_eq_true, not_true_eq_false, false_implies, true_implies, implies_true, and_self, mB_0, mB_01, Classical.not_not, Nat.zero_le, List.getElem?_cons_zero, List.getElem?_cons_succ, List.set_cons_zero, List.set_cons_succ, ix_nl, ix_cs, true_and, and_true, Option.toList_some, Option.toList_none, List.cons_append, List.nil_append]
  simp only [T_X11_isBehind, mB, vi, vl, vr] at hT
  repeat' (first | refine And.intro ?_ ?_ | intro _)
  all_goals (first | exact hT | (simp only [*, if_true, if_false, not_true_eq_false, not_false_eq_true, and_true, true_and, and_false, false_and, or_true, true_or, or_false, false_or, and_self, or_self] at hT; exact hT) | (simp only [← Int32.not_lt, Classical.not_not] at *; simp only [*, if_true, if_false, not_true_eq_false, not_false_eq_true, and_true, true_and, and_false, false_and, or_true, true_or, or_false, false_or, and_self, or_self] at hT; exact hT) | (simp_all; done))
theorem k_X11_isBehind (l : Launch) : ix_Ct l yX11_isBehind cX11_isBehind 1 (some .boolean) 2 sh_X11_isBehind T_X11_isBehind := ix_ct (a_X11_isBehind l) rfl (by decide) (fun _ => Nat.le_of_ble_eq_true rfl) (fun x μ Q hok hT => r_X11_isBehind x μ Q  hT)
def T_X11_isHad : Int32 → ix_M → (ix_R → Prop) → Prop := fun c μ Q => Q (some (vi (mB (0 ≤ c ∧ c ≤ 792))), μ)
def sh_X11_isHad (x : Int32) : List ix_V := [vi x]
theorem mo_X11_isHad (x : Int32) (μ : ix_M) (Q Q' : ix_R → Prop) (h : ∀ r, Q r → Q' r) (hT : T_X11_isHad x μ Q) : T_X11_isHad x μ Q' := by
  first | exact h _ hT | exact ⟨hT.1, h _ hT.2⟩ | exact fun r hr => h _ (hT r hr) | exact ⟨hT.1, fun r hr => h _ (hT.2 r hr)⟩ | exact ⟨hT.1, hT.2.1, fun r hr => h _ (hT.2.2 r hr)⟩
def oc_X11_isHad (n : Nat) : ix_Op := fun k _ ls st μ => match st with
  | .inl a0 :: r => ix_cs r ≤ 8 ∧ T_X11_isHad a0 μ (fun q => k (n, ls, q.1.toList ++ r, q.2))
  | _ => False
theorem oc_X11_isHad_s {l : Launch} {cc : ByteArray} {nL : Nat} {own : String} {d : Nat} {rt : Option FieldType} {pc n : Nat} (h : ix_S l cc nL own d rt pc (ix_call 1 sh_X11_isHad T_X11_isHad n)) : ix_S l cc nL own d rt pc (oc_X11_isHad n) := by
  refine h.by (fun k Q ls st μ h => ?_) (fun k k' Q ls st μ hk h => ?_)
  · unfold oc_X11_isHad at h
    split at h
    · rename_i a0 r
      obtain ⟨h1, h2⟩ := h
      exact ⟨h1, a0, rfl, _, h2, fun r h => h⟩
    · exact h.elim
  · unfold oc_X11_isHad at h ⊢
    split at h
    · obtain ⟨h1, h2⟩ := h
      exact ⟨h1, mo_X11_isHad _ _ _ _ (fun q hq => hk _ hq) h2⟩
    · exact h.elim
def o_X11_isHad : List (Nat × ix_Op) := [
  (0, ix_iload 0 1),
  (1, ix_push (vi 0) 2),
  (2, ix_push (vi 792) 5),
  (5, oc_X11_within 8),
  (8, ix_zret)]
set_option maxRecDepth 20000 in
theorem a_X11_isHad (l : Launch) : ix_AllS l cX11_isHad 1 RX11 2 (some .boolean) o_X11_isHad :=
  .cons (ix_s_iload_n dX11_isHad_0 rfl) <|
  .cons (ix_s_iconst dX11_isHad_1 (by decide +kernel)) <|
  .cons (ix_s_sipush dX11_isHad_2 (by decide +kernel)) <|
  .cons (oc_X11_within_s (ix_s_calls (k_X11_within l) (by decide) (by decide) tw_960 tw_12 tw_958 tw_959 ⟨by decide, by decide, by decide +kernel⟩ (fun _ => rfl) dX11_isHad_5)) <|
  .cons (ix_s_zret dX11_isHad_8 rfl) <| .nil
theorem e_X11_isHad_0 (Q : ix_R → Prop) (ls : ix_L) (st : List ix_V) (μ : ix_M) : ix_Ev o_X11_isHad Q (0, ls, st, μ) = ix_iload 0 1 (ix_Ev o_X11_isHad Q) Q ls st μ := ix_Ev.eq (a_X11_isHad launch0) rfl ls st μ
theorem e_X11_isHad_1 (Q : ix_R → Prop) (ls : ix_L) (st : List ix_V) (μ : ix_M) : ix_Ev o_X11_isHad Q (1, ls, st, μ) = ix_push (vi 0) 2 (ix_Ev o_X11_isHad Q) Q ls st μ := ix_Ev.eq (a_X11_isHad launch0) rfl ls st μ
theorem e_X11_isHad_2 (Q : ix_R → Prop) (ls : ix_L) (st : List ix_V) (μ : ix_M) : ix_Ev o_X11_isHad Q (2, ls, st, μ) = ix_push (vi 792) 5 (ix_Ev o_X11_isHad Q) Q ls st μ := ix_Ev.eq (a_X11_isHad launch0) rfl ls st μ
theorem e_X11_isHad_5 (Q : ix_R → Prop) (ls : ix_L) (st : List ix_V) (μ : ix_M) : ix_Ev o_X11_isHad Q (5, ls, st, μ) = oc_X11_within 8 (ix_Ev o_X11_isHad Q) Q ls st μ := ix_Ev.eq (a_X11_isHad launch0) rfl ls st μ
theorem e_X11_isHad_8 (Q : ix_R → Prop) (ls : ix_L) (st : List ix_V) (μ : ix_M) : ix_Ev o_X11_isHad Q (8, ls, st, μ) = ix_zret (ix_Ev o_X11_isHad Q) Q ls st μ := ix_Ev.eq (a_X11_isHad launch0) rfl ls st μ
theorem r_X11_isHad (c : Int32) (μ : ix_M) (Q : ix_R → Prop) (hT : T_X11_isHad c μ Q) : ix_Ev o_X11_isHad Q (0, [some (vi c)], [], μ) := by
  simp (decide := true) only [e_X11_isHad_0, e_X11_isHad_1, e_X11_isHad_2, e_X11_isHad_5, e_X11_isHad_8, vi, vl, vr, oc_X11_within, T_X11_within, ix_push, ix_iload, ix_lload, ix_aload, ix_istore, ix_astore, ix_iinc, ix_bin, ix_div, ix_un, ix_i2l, ix_l2i, ix_lbin, ix_lsh, ix_lcmp, ix_dup, ix_dup2, ix_pop, ix_if, ix_cmp, ix_goto, ix_switch, ix_sw, ix_iret, ix_zret, ix_vret, ix_aret, ix_geti, ix_getr, ix_puti, ix_putz, ix_puts, ix_gets, ix_iald, ix_iast, ix_alen, ix_aald, ix_gval, ix_gcod, ix_bald, ix_blen, ix_sald, ix_nret, ix_math2, ix_math1, ix_acopy, ml_113, ml_114, ml_115, ml_116, ml_118, ml_119, ml_120, ml_121, ml_122, ml_123, ml_124, ml_125, ml_126, mv_0, mv_1, mv_2, mv_3, mv_4, mv_5, mB_or, Nat.add_assoc, Int32.reduceLT, Int32.reduceLE, Int32.reduceToNatClampNeg, Int32.reduceSub, Int32.reduceAdd, Nat.reduceAdd, Nat.reduceLeDiff, true_or, or_true, or_false, false_or, not_false_eq_true, not_true_eq_false, false_implies, true_implies, implies_true, and_self, mB_0, mB_01, Classical.not_not, Nat.zero_le, List.getElem?_cons_zero, List.getElem?_cons_succ, List.set_cons_zero, List.set_cons_succ, ix_nl, ix_cs, true_and, and_true, Option.toList_some, Option.toList_none, List.cons_append, List.nil_append]
  simp only [T_X11_isHad, mB, vi, vl, vr] at hT
  repeat' (first | refine And.intro ?_ ?_ | intro _)
  all_goals (first | exact hT | (simp only [*, if_true, if_false, not_true_eq_false, not_false_eq_true, and_true, true_and, and_false, false_and, or_true, true_or, or_false, false_or, and_self, or_self] at hT; exact hT) | (simp only [← Int32.not_lt, Classical.not_not] at *; simp only [*, if_true, if_false, not_true_eq_false, not_false_eq_true, and_true, true_and, and_false, false_and, or_true, true_or, or_false, false_or, and_self, or_self] at hT; exact hT) | (simp_all; done))
theorem k_X11_isHad (l : Launch) : ix_Ct l yX11_isHad cX11_isHad 1 (some .boolean) 2 sh_X11_isHad T_X11_isHad := ix_ct (a_X11_isHad l) rfl (by decide) (fun _ => Nat.le_of_ble_eq_true rfl) (fun x μ Q hok hT => r_X11_isHad x μ Q  hT)
def T_X11_isSheet : Int32 → ix_M → (ix_R → Prop) → Prop := fun c μ Q => Q (some (vi (mB (0 ≤ c ∧ c ≤ 3))), μ)
def sh_X11_isSheet (x : Int32) : List ix_V := [vi x]
theorem mo_X11_isSheet (x : Int32) (μ : ix_M) (Q Q' : ix_R → Prop) (h : ∀ r, Q r → Q' r) (hT : T_X11_isSheet x μ Q) : T_X11_isSheet x μ Q' := by
  first | exact h _ hT | exact ⟨hT.1, h _ hT.2⟩ | exact fun r hr => h _ (hT r hr) | exact ⟨hT.1, fun r hr => h _ (hT.2 r hr)⟩ | exact ⟨hT.1, hT.2.1, fun r hr => h _ (hT.2.2 r hr)⟩
def oc_X11_isSheet (n : Nat) : ix_Op := fun k _ ls st μ => match st with
  | .inl a0 :: r => ix_cs r ≤ 8 ∧ T_X11_isSheet a0 μ (fun q => k (n, ls, q.1.toList ++ r, q.2))
  | _ => False
theorem oc_X11_isSheet_s {l : Launch} {cc : ByteArray} {nL : Nat} {own : String} {d : Nat} {rt : Option FieldType} {pc n : Nat} (h : ix_S l cc nL own d rt pc (ix_call 1 sh_X11_isSheet T_X11_isSheet n)) : ix_S l cc nL own d rt pc (oc_X11_isSheet n) := by
  refine h.by (fun k Q ls st μ h => ?_) (fun k k' Q ls st μ hk h => ?_)
  · unfold oc_X11_isSheet at h
    split at h
    · rename_i a0 r
      obtain ⟨h1, h2⟩ := h
      exact ⟨h1, a0, rfl, _, h2, fun r h => h⟩
    · exact h.elim
  · unfold oc_X11_isSheet at h ⊢
    split at h
    · obtain ⟨h1, h2⟩ := h
      exact ⟨h1, mo_X11_isSheet _ _ _ _ (fun q hq => hk _ hq) h2⟩
    · exact h.elim
def o_X11_isSheet : List (Nat × ix_Op) := [
  (0, ix_iload 0 1),
  (1, ix_push (vi 0) 2),
  (2, ix_push (vi 3) 3),
  (3, oc_X11_within 6),
  (6, ix_zret)]
set_option maxRecDepth 20000 in
theorem a_X11_isSheet (l : Launch) : ix_AllS l cX11_isSheet 1 RX11 2 (some .boolean) o_X11_isSheet :=
  .cons (ix_s_iload_n dX11_isSheet_0 rfl) <|
  .cons (ix_s_iconst dX11_isSheet_1 (by decide +kernel)) <|
  .cons (ix_s_iconst dX11_isSheet_2 (by decide +kernel)) <|
  .cons (oc_X11_within_s (ix_s_calls (k_X11_within l) (by decide) (by decide) tw_960 tw_12 tw_958 tw_959 ⟨by decide, by decide, by decide +kernel⟩ (fun _ => rfl) dX11_isSheet_3)) <|
  .cons (ix_s_zret dX11_isSheet_6 rfl) <| .nil
theorem e_X11_isSheet_0 (Q : ix_R → Prop) (ls : ix_L) (st : List ix_V) (μ : ix_M) : ix_Ev o_X11_isSheet Q (0, ls, st, μ) = ix_iload 0 1 (ix_Ev o_X11_isSheet Q) Q ls st μ := ix_Ev.eq (a_X11_isSheet launch0) rfl ls st μ
theorem e_X11_isSheet_1 (Q : ix_R → Prop) (ls : ix_L) (st : List ix_V) (μ : ix_M) : ix_Ev o_X11_isSheet Q (1, ls, st, μ) = ix_push (vi 0) 2 (ix_Ev o_X11_isSheet Q) Q ls st μ := ix_Ev.eq (a_X11_isSheet launch0) rfl ls st μ
theorem e_X11_isSheet_2 (Q : ix_R → Prop) (ls : ix_L) (st : List ix_V) (μ : ix_M) : ix_Ev o_X11_isSheet Q (2, ls, st, μ) = ix_push (vi 3) 3 (ix_Ev o_X11_isSheet Q) Q ls st μ := ix_Ev.eq (a_X11_isSheet launch0) rfl ls st μ
theorem e_X11_isSheet_3 (Q : ix_R → Prop) (ls : ix_L) (st : List ix_V) (μ : ix_M) : ix_Ev o_X11_isSheet Q (3, ls, st, μ) = oc_X11_within 6 (ix_Ev o_X11_isSheet Q) Q ls st μ := ix_Ev.eq (a_X11_isSheet launch0) rfl ls st μ
theorem e_X11_isSheet_6 (Q : ix_R → Prop) (ls : ix_L) (st : List ix_V) (μ : ix_M) : ix_Ev o_X11_isSheet Q (6, ls, st, μ) = ix_zret (ix_Ev o_X11_isSheet Q) Q ls st μ := ix_Ev.eq (a_X11_isSheet launch0) rfl ls st μ
theorem r_X11_isSheet (c : Int32) (μ : ix_M) (Q : ix_R → Prop) (hT : T_X11_isSheet c μ Q) : ix_Ev o_X11_isSheet Q (0, [some (vi c)], [], μ) := by
  simp (decide := true) only [e_X11_isSheet_0, e_X11_isSheet_1, e_X11_isSheet_2, e_X11_isSheet_3, e_X11_isSheet_6, vi, vl, vr, oc_X11_within, T_X11_within, ix_push, ix_iload, ix_lload, ix_aload, ix_istore, ix_astore, ix_iinc, ix_bin, ix_div, ix_un, ix_i2l, ix_l2i, ix_lbin, ix_lsh, ix_lcmp, ix_dup, ix_dup2, ix_pop, ix_if, ix_cmp, ix_goto, ix_switch, ix_sw, ix_iret, ix_zret, ix_vret, ix_aret, ix_geti, ix_getr, ix_puti, ix_putz, ix_puts, ix_gets, ix_iald, ix_iast, ix_alen, ix_aald, ix_gval, ix_gcod, ix_bald, ix_blen, ix_sald, ix_nret, ix_math2, ix_math1, ix_acopy, ml_113, ml_114, ml_115, ml_116, ml_118, ml_119, ml_120, ml_121, ml_122, ml_123, ml_124, ml_125, ml_126, mv_0, mv_1, mv_2, mv_3, mv_4, mv_5, mB_or, Nat.add_assoc, Int32.reduceLT, Int32.reduceLE, Int32.reduceToNatClampNeg, Int32.reduceSub, Int32.reduceAdd, Nat.reduceAdd, Nat.reduceLeDiff, true_or, or_true, or_false, false_or, not_false_eq_true, not_true_eq_false, false_implies, true_implies, implies_true, and_self, mB_0, mB_01, Classical.not_not, Nat.zero_le, List.getElem?_cons_zero, List.getElem?_cons_succ, List.set_cons_zero, List.set_cons_succ, ix_nl, ix_cs, true_and, and_true, Option.toList_some, Option.toList_none, List.cons_append, List.nil_append]
  simp only [T_X11_isSheet, mB, vi, vl, vr] at hT
  repeat' (first | refine And.intro ?_ ?_ | intro _)
  all_goals (first | exact hT | (simp only [*, if_true, if_false, not_true_eq_false, not_false_eq_true, and_true, true_and, and_false, false_and, or_true, true_or, or_false, false_or, and_self, or_self] at hT; exact hT) | (simp only [← Int32.not_lt, Classical.not_not] at *; simp only [*, if_true, if_false, not_true_eq_false, not_false_eq_true, and_true, true_and, and_false, false_and, or_true, true_or, or_false, false_or, and_self, or_self] at hT; exact hT) | (simp_all; done))
theorem k_X11_isSheet (l : Launch) : ix_Ct l yX11_isSheet cX11_isSheet 1 (some .boolean) 2 sh_X11_isSheet T_X11_isSheet := ix_ct (a_X11_isSheet l) rfl (by decide) (fun _ => Nat.le_of_ble_eq_true rfl) (fun x μ Q hok hT => r_X11_isSheet x μ Q  hT)
def bix (i f : Int32) : Int32 := 50 + 4 * i + f
def T_X11_boatAt : Int32 × Int32 → ix_M → (ix_R → Prop) → Prop := fun (i, f) μ Q => Q (some (vi (bix i f)), μ)
def sh_X11_boatAt (x : Int32 × Int32) : List ix_V := [vi x.1, vi x.2]
theorem mo_X11_boatAt (x : Int32 × Int32) (μ : ix_M) (Q Q' : ix_R → Prop) (h : ∀ r, Q r → Q' r) (hT : T_X11_boatAt x μ Q) : T_X11_boatAt x μ Q' := by
  obtain ⟨a0, a1⟩ := x
  first | exact h _ hT | exact ⟨hT.1, h _ hT.2⟩ | exact fun r hr => h _ (hT r hr) | exact ⟨hT.1, fun r hr => h _ (hT.2 r hr)⟩ | exact ⟨hT.1, hT.2.1, fun r hr => h _ (hT.2.2 r hr)⟩
def oc_X11_boatAt (n : Nat) : ix_Op := fun k _ ls st μ => match st with
  | .inl a1 :: .inl a0 :: r => ix_cs r ≤ 8 ∧ T_X11_boatAt (a0, a1) μ (fun q => k (n, ls, q.1.toList ++ r, q.2))
  | _ => False
theorem oc_X11_boatAt_s {l : Launch} {cc : ByteArray} {nL : Nat} {own : String} {d : Nat} {rt : Option FieldType} {pc n : Nat} (h : ix_S l cc nL own d rt pc (ix_call 2 sh_X11_boatAt T_X11_boatAt n)) : ix_S l cc nL own d rt pc (oc_X11_boatAt n) := by
  refine h.by (fun k Q ls st μ h => ?_) (fun k k' Q ls st μ hk h => ?_)
  · unfold oc_X11_boatAt at h
    split at h
    · rename_i a1 a0 r
      obtain ⟨h1, h2⟩ := h
      exact ⟨h1, (a0, a1), rfl, _, h2, fun r h => h⟩
    · exact h.elim
  · unfold oc_X11_boatAt at h ⊢
    split at h
    · obtain ⟨h1, h2⟩ := h
      exact ⟨h1, mo_X11_boatAt _ _ _ _ (fun q hq => hk _ hq) h2⟩
    · exact h.elim
def o_X11_boatAt : List (Nat × ix_Op) := [
  (0, ix_push (vi 50) 2),
  (2, ix_push (vi 4) 3),
  (3, ix_iload 0 4),
  (4, ix_bin (fun x y => x * y) 5),
  (5, ix_bin (fun x y => x + y) 6),
  (6, ix_iload 1 7),
  (7, ix_bin (fun x y => x + y) 8),
  (8, ix_iret)]
set_option maxRecDepth 20000 in
theorem a_X11_boatAt (l : Launch) : ix_AllS l cX11_boatAt 2 RX11 1 (some .int) o_X11_boatAt :=
  .cons (ix_s_bipush dX11_boatAt_0 (by decide +kernel)) <|
  .cons (ix_s_iconst dX11_boatAt_2 (by decide +kernel)) <|
  .cons (ix_s_iload_n dX11_boatAt_3 rfl) <|
  .cons (ix_s_imul dX11_boatAt_4) <|
  .cons (ix_s_iadd dX11_boatAt_5) <|
  .cons (ix_s_iload_n dX11_boatAt_6 rfl) <|
  .cons (ix_s_iadd dX11_boatAt_7) <|
  .cons (ix_s_iret dX11_boatAt_8 rfl) <| .nil
theorem e_X11_boatAt_0 (Q : ix_R → Prop) (ls : ix_L) (st : List ix_V) (μ : ix_M) : ix_Ev o_X11_boatAt Q (0, ls, st, μ) = ix_push (vi 50) 2 (ix_Ev o_X11_boatAt Q) Q ls st μ := ix_Ev.eq (a_X11_boatAt launch0) rfl ls st μ
theorem e_X11_boatAt_2 (Q : ix_R → Prop) (ls : ix_L) (st : List ix_V) (μ : ix_M) : ix_Ev o_X11_boatAt Q (2, ls, st, μ) = ix_push (vi 4) 3 (ix_Ev o_X11_boatAt Q) Q ls st μ := ix_Ev.eq (a_X11_boatAt launch0) rfl ls st μ
theorem e_X11_boatAt_3 (Q : ix_R → Prop) (ls : ix_L) (st : List ix_V) (μ : ix_M) : ix_Ev o_X11_boatAt Q (3, ls, st, μ) = ix_iload 0 4 (ix_Ev o_X11_boatAt Q) Q ls st μ := ix_Ev.eq (a_X11_boatAt launch0) rfl ls st μ
theorem e_X11_boatAt_4 (Q : ix_R → Prop) (ls : ix_L) (st : List ix_V) (μ : ix_M) : ix_Ev o_X11_boatAt Q (4, ls, st, μ) = ix_bin (fun x y => x * y) 5 (ix_Ev o_X11_boatAt Q) Q ls st μ := ix_Ev.eq (a_X11_boatAt launch0) rfl ls st μ
theorem e_X11_boatAt_5 (Q : ix_R → Prop) (ls : ix_L) (st : List ix_V) (μ : ix_M) : ix_Ev o_X11_boatAt Q (5, ls, st, μ) = ix_bin (fun x y => x + y) 6 (ix_Ev o_X11_boatAt Q) Q ls st μ := ix_Ev.eq (a_X11_boatAt launch0) rfl ls st μ
theorem e_X11_boatAt_6 (Q : ix_R → Prop) (ls : ix_L) (st : List ix_V) (μ : ix_M) : ix_Ev o_X11_boatAt Q (6, ls, st, μ) = ix_iload 1 7 (ix_Ev o_X11_boatAt Q) Q ls st μ := ix_Ev.eq (a_X11_boatAt launch0) rfl ls st μ
theorem e_X11_boatAt_7 (Q : ix_R → Prop) (ls : ix_L) (st : List ix_V) (μ : ix_M) : ix_Ev o_X11_boatAt Q (7, ls, st, μ) = ix_bin (fun x y => x + y) 8 (ix_Ev o_X11_boatAt Q) Q ls st μ := ix_Ev.eq (a_X11_boatAt launch0) rfl ls st μ
theorem e_X11_boatAt_8 (Q : ix_R → Prop) (ls : ix_L) (st : List ix_V) (μ : ix_M) : ix_Ev o_X11_boatAt Q (8, ls, st, μ) = ix_iret (ix_Ev o_X11_boatAt Q) Q ls st μ := ix_Ev.eq (a_X11_boatAt launch0) rfl ls st μ
theorem r_X11_boatAt (i : Int32) (f : Int32) (μ : ix_M) (Q : ix_R → Prop) (hT : T_X11_boatAt (i, f) μ Q) : ix_Ev o_X11_boatAt Q (0, [some (vi i), some (vi f)], [], μ) := by
  simp (decide := true) only [e_X11_boatAt_0, e_X11_boatAt_2, e_X11_boatAt_3, e_X11_boatAt_4, e_X11_boatAt_5, e_X11_boatAt_6, e_X11_boatAt_7, e_X11_boatAt_8, vi, vl, vr, ix_push, ix_iload, ix_lload, ix_aload, ix_istore, ix_astore, ix_iinc, ix_bin, ix_div, ix_un, ix_i2l, ix_l2i, ix_lbin, ix_lsh, ix_lcmp, ix_dup, ix_dup2, ix_pop, ix_if, ix_cmp, ix_goto, ix_switch, ix_sw, ix_iret, ix_zret, ix_vret, ix_aret, ix_geti, ix_getr, ix_puti, ix_putz, ix_puts, ix_gets, ix_iald, ix_iast, ix_alen, ix_aald, ix_gval, ix_gcod, ix_bald, ix_blen, ix_sald, ix_nret, ix_math2, ix_math1, ix_acopy, ml_113, ml_114, ml_115, ml_116, ml_118, ml_119, ml_120, ml_121, ml_122, ml_123, ml_124, ml_125, ml_126, mv_0, mv_1, mv_2, mv_3, mv_4, mv_5, mB_or, Nat.add_assoc, Int32.reduceLT, Int32.reduceLE, Int32.reduceToNatClampNeg, Int32.reduceSub, Int32.reduceAdd, Nat.reduceAdd, Nat.reduceLeDiff, true_or, or_true, or_false, false_or, not_false_eq_true, not_true_eq_false, false_implies, true_implies, implies_true, and_self, mB_0, mB_01, Classical.not_not, Nat.zero_le, List.getElem?_cons_zero, List.getElem?_cons_succ, List.set_cons_zero, List.set_cons_succ, ix_nl, ix_cs, true_and, and_true, Option.toList_some, Option.toList_none, List.cons_append, List.nil_append]
  exact hT
theorem k_X11_boatAt (l : Launch) : ix_Ct l yX11_boatAt cX11_boatAt 2 (some .int) 1 sh_X11_boatAt T_X11_boatAt := ix_ct (a_X11_boatAt l) rfl (by decide) (fun _ => Nat.le_of_ble_eq_true rfl) (fun x μ Q hok hT => r_X11_boatAt x.1 x.2 μ Q  hT)
def T_X11_boatIs : Nat × Int32 × Int32 → ix_M → (ix_R → Prop) → Prop := fun (_, i, f) μ Q => vp_in (bix i f) 256 ∧ Q (some (vi (μ 113 (bix i f).toNatClampNeg)), μ)
def sh_X11_boatIs (x : Nat × Int32 × Int32) : List ix_V := [vr 10 x.1, vi x.2.1, vi x.2.2]
theorem mo_X11_boatIs (x : Nat × Int32 × Int32) (μ : ix_M) (Q Q' : ix_R → Prop) (h : ∀ r, Q r → Q' r) (hT : T_X11_boatIs x μ Q) : T_X11_boatIs x μ Q' := by
  obtain ⟨a0, a1, a2⟩ := x
  first | exact h _ hT | exact ⟨hT.1, h _ hT.2⟩ | exact fun r hr => h _ (hT r hr) | exact ⟨hT.1, fun r hr => h _ (hT.2 r hr)⟩ | exact ⟨hT.1, hT.2.1, fun r hr => h _ (hT.2.2 r hr)⟩
def oc_X11_boatIs (n : Nat) : ix_Op := fun k _ ls st μ => match st with
  | .inl a2 :: .inl a1 :: .inr (.inr (t0, a0)) :: r => t0 = 10 ∧ ix_cs r ≤ 8 ∧ T_X11_boatIs (a0, a1, a2) μ (fun q => k (n, ls, q.1.toList ++ r, q.2))
  | _ => False
theorem oc_X11_boatIs_s {l : Launch} {cc : ByteArray} {nL : Nat} {own : String} {d : Nat} {rt : Option FieldType} {pc n : Nat} (h : ix_S l cc nL own d rt pc (ix_call 3 sh_X11_boatIs T_X11_boatIs n)) : ix_S l cc nL own d rt pc (oc_X11_boatIs n) := by
  refine h.by (fun k Q ls st μ h => ?_) (fun k k' Q ls st μ hk h => ?_)
  · unfold oc_X11_boatIs at h
    split at h
    · rename_i a2 a1 t0 a0 r
      obtain ⟨rfl, h1, h2⟩ := h
      exact ⟨h1, (a0, a1, a2), rfl, _, h2, fun r h => h⟩
    · exact h.elim
  · unfold oc_X11_boatIs at h ⊢
    split at h
    · obtain ⟨rfl, h1, h2⟩ := h
      exact ⟨rfl, h1, mo_X11_boatIs _ _ _ _ (fun q hq => hk _ hq) h2⟩
    · exact h.elim
def o_X11_boatIs : List (Nat × ix_Op) := [
  (0, ix_aload 0 1),
  (1, ix_getr 10 20 (fun _ => 113) 4),
  (4, ix_iload 1 5),
  (5, ix_iload 2 6),
  (6, oc_X11_boatAt 9),
  (9, ix_iald 10),
  (10, ix_iret)]
set_option maxRecDepth 20000 in
theorem a_X11_boatIs (l : Launch) : ix_AllS l cX11_boatIs 3 RX11 2 (some .int) o_X11_boatIs :=
  .cons (ix_s_aload_n dX11_boatIs_0 rfl) <|
  .cons (ix_s_getr (j := 0) tu_X11 rfl (by decide) (by decide) tw_875 rfl ts_10_0_r dX11_boatIs_1) <|
  .cons (ix_s_iload_n dX11_boatIs_4 rfl) <|
  .cons (ix_s_iload_n dX11_boatIs_5 rfl) <|
  .cons (oc_X11_boatAt_s (ix_s_calls (k_X11_boatAt l) (by decide) (by decide) tw_1086 tw_12 tw_1084 tw_1085 ⟨by decide, by decide, by decide +kernel⟩ (fun _ => rfl) dX11_boatIs_6)) <|
  .cons (ix_s_iald dX11_boatIs_9) <|
  .cons (ix_s_iret dX11_boatIs_10 rfl) <| .nil
theorem e_X11_boatIs_0 (Q : ix_R → Prop) (ls : ix_L) (st : List ix_V) (μ : ix_M) : ix_Ev o_X11_boatIs Q (0, ls, st, μ) = ix_aload 0 1 (ix_Ev o_X11_boatIs Q) Q ls st μ := ix_Ev.eq (a_X11_boatIs launch0) rfl ls st μ
theorem e_X11_boatIs_1 (Q : ix_R → Prop) (ls : ix_L) (st : List ix_V) (μ : ix_M) : ix_Ev o_X11_boatIs Q (1, ls, st, μ) = ix_getr 10 20 (fun _ => 113) 4 (ix_Ev o_X11_boatIs Q) Q ls st μ := ix_Ev.eq (a_X11_boatIs launch0) rfl ls st μ
theorem e_X11_boatIs_4 (Q : ix_R → Prop) (ls : ix_L) (st : List ix_V) (μ : ix_M) : ix_Ev o_X11_boatIs Q (4, ls, st, μ) = ix_iload 1 5 (ix_Ev o_X11_boatIs Q) Q ls st μ := ix_Ev.eq (a_X11_boatIs launch0) rfl ls st μ
theorem e_X11_boatIs_5 (Q : ix_R → Prop) (ls : ix_L) (st : List ix_V) (μ : ix_M) : ix_Ev o_X11_boatIs Q (5, ls, st, μ) = ix_iload 2 6 (ix_Ev o_X11_boatIs Q) Q ls st μ := ix_Ev.eq (a_X11_boatIs launch0) rfl ls st μ
theorem e_X11_boatIs_6 (Q : ix_R → Prop) (ls : ix_L) (st : List ix_V) (μ : ix_M) : ix_Ev o_X11_boatIs Q (6, ls, st, μ) = oc_X11_boatAt 9 (ix_Ev o_X11_boatIs Q) Q ls st μ := ix_Ev.eq (a_X11_boatIs launch0) rfl ls st μ
theorem e_X11_boatIs_9 (Q : ix_R → Prop) (ls : ix_L) (st : List ix_V) (μ : ix_M) : ix_Ev o_X11_boatIs Q (9, ls, st, μ) = ix_iald 10 (ix_Ev o_X11_boatIs Q) Q ls st μ := ix_Ev.eq (a_X11_boatIs launch0) rfl ls st μ
theorem e_X11_boatIs_10 (Q : ix_R → Prop) (ls : ix_L) (st : List ix_V) (μ : ix_M) : ix_Ev o_X11_boatIs Q (10, ls, st, μ) = ix_iret (ix_Ev o_X11_boatIs Q) Q ls st μ := ix_Ev.eq (a_X11_boatIs launch0) rfl ls st μ
theorem r_X11_boatIs (o : Nat) (i : Int32) (f : Int32) (μ : ix_M) (Q : ix_R → Prop) (ok_o : o < ix_N ∧ ix_tag o = 10) (hT : T_X11_boatIs (o, i, f) μ Q) : ix_Ev o_X11_boatIs Q (0, [some (vr 10 o), some (vi i), some (vi f)], [], μ) := by
  obtain rfl := ok_10 o ok_o.1 ok_o.2
  simp (decide := true) only [e_X11_boatIs_0, e_X11_boatIs_1, e_X11_boatIs_4, e_X11_boatIs_5, e_X11_boatIs_6, e_X11_boatIs_9, e_X11_boatIs_10, vi, vl, vr, oc_X11_boatAt, T_X11_boatAt, ix_push, ix_iload, ix_lload, ix_aload, ix_istore, ix_astore, ix_iinc, ix_bin, ix_div, ix_un, ix_i2l, ix_l2i, ix_lbin, ix_lsh, ix_lcmp, ix_dup, ix_dup2, ix_pop, ix_if, ix_cmp, ix_goto, ix_switch, ix_sw, ix_iret, ix_zret, ix_vret, ix_aret, ix_geti, ix_getr, ix_puti, ix_putz, ix_puts, ix_gets, ix_iald, ix_iast, ix_alen, ix_aald, ix_gval, ix_gcod, ix_bald, ix_blen, ix_sald, ix_nret, ix_math2, ix_math1, ix_acopy, ml_113, ml_114, ml_115, ml_116, ml_118, ml_119, ml_120, ml_121, ml_122, ml_123, ml_124, ml_125, ml_126, mv_0, mv_1, mv_2, mv_3, mv_4, mv_5, mB_or, Nat.add_assoc, Int32.reduceLT, Int32.reduceLE, Int32.reduceToNatClampNeg, Int32.reduceSub, Int32.reduceAdd, Nat.reduceAdd, Nat.reduceLeDiff, true_or, or_true, or_false, false_or, not_false_eq_true, not_true_eq_false, false_implies, true_implies, implies_true, and_self, mB_0, mB_01, Classical.not_not, Nat.zero_le, List.getElem?_cons_zero, List.getElem?_cons_succ, List.set_cons_zero, List.set_cons_succ, ix_nl, ix_cs, true_and, and_true, Option.toList_some, Option.toList_none, List.cons_append, List.nil_append]
  exact hT
theorem k_X11_boatIs (l : Launch) : ix_Ct l yX11_boatIs cX11_boatIs 3 (some .int) 2 sh_X11_boatIs T_X11_boatIs := ix_ct (a_X11_boatIs l) rfl (by decide) (fun _ => Nat.le_of_ble_eq_true rfl) (fun x μ Q hok hT => r_X11_boatIs x.1 x.2.1 x.2.2 μ Q (ix_ok_at (hok (vr 10 x.1) (by simp [sh_X11_boatIs])) (by decide) (by decide)) hT)
def T_X11_isBoat : Nat × Int32 → ix_M → (ix_R → Prop) → Prop := fun (_, i) μ Q => Q (some (vi (mB (0 ≤ i ∧ i ≤ μ 113 1 - 1))), μ)
def sh_X11_isBoat (x : Nat × Int32) : List ix_V := [vr 10 x.1, vi x.2]
theorem mo_X11_isBoat (x : Nat × Int32) (μ : ix_M) (Q Q' : ix_R → Prop) (h : ∀ r, Q r → Q' r) (hT : T_X11_isBoat x μ Q) : T_X11_isBoat x μ Q' := by
  obtain ⟨a0, a1⟩ := x
  first | exact h _ hT | exact ⟨hT.1, h _ hT.2⟩ | exact fun r hr => h _ (hT r hr) | exact ⟨hT.1, fun r hr => h _ (hT.2 r hr)⟩ | exact ⟨hT.1, hT.2.1, fun r hr => h _ (hT.2.2 r hr)⟩
def oc_X11_isBoat (n : Nat) : ix_Op := fun k _ ls st μ => match st with
  | .inl a1 :: .inr (.inr (t0, a0)) :: r => t0 = 10 ∧ ix_cs r ≤ 8 ∧ T_X11_isBoat (a0, a1) μ (fun q => k (n, ls, q.1.toList ++ r, q.2))
  | _ => False
theorem oc_X11_isBoat_s {l : Launch} {cc : ByteArray} {nL : Nat} {own : String} {d : Nat} {rt : Option FieldType} {pc n : Nat} (h : ix_S l cc nL own d rt pc (ix_call 2 sh_X11_isBoat T_X11_isBoat n)) : ix_S l cc nL own d rt pc (oc_X11_isBoat n) := by
  refine h.by (fun k Q ls st μ h => ?_) (fun k k' Q ls st μ hk h => ?_)
  · unfold oc_X11_isBoat at h
    split at h
    · rename_i a1 t0 a0 r
      obtain ⟨rfl, h1, h2⟩ := h
      exact ⟨h1, (a0, a1), rfl, _, h2, fun r h => h⟩
    · exact h.elim
  · unfold oc_X11_isBoat at h ⊢
    split at h
    · obtain ⟨rfl, h1, h2⟩ := h
      exact ⟨rfl, h1, mo_X11_isBoat _ _ _ _ (fun q hq => hk _ hq) h2⟩
    · exact h.elim
def o_X11_isBoat : List (Nat × ix_Op) := [
  (0, ix_iload 1 1),
  (1, ix_push (vi 0) 2),
  (2, ix_aload 0 3),
  (3, ix_getr 10 20 (fun _ => 113) 6),
  (6, ix_push (vi 1) 7),
  (7, ix_iald 8),
  (8, ix_push (vi 1) 9),
  (9, ix_bin (fun x y => x - y) 10),
  (10, oc_X11_within 13),
  (13, ix_zret)]
set_option maxRecDepth 20000 in
theorem a_X11_isBoat (l : Launch) : ix_AllS l cX11_isBoat 2 RX11 2 (some .boolean) o_X11_isBoat :=
  .cons (ix_s_iload_n dX11_isBoat_0 rfl) <|
  .cons (ix_s_iconst dX11_isBoat_1 (by decide +kernel)) <|
  .cons (ix_s_aload_n dX11_isBoat_2 rfl) <|
  .cons (ix_s_getr (j := 0) tu_X11 rfl (by decide) (by decide) tw_875 rfl ts_10_0_r dX11_isBoat_3) <|
  .cons (ix_s_iconst dX11_isBoat_6 (by decide +kernel)) <|
  .cons (ix_s_iald dX11_isBoat_7) <|
  .cons (ix_s_iconst dX11_isBoat_8 (by decide +kernel)) <|
  .cons (ix_s_isub dX11_isBoat_9) <|
  .cons (oc_X11_within_s (ix_s_calls (k_X11_within l) (by decide) (by decide) tw_960 tw_12 tw_958 tw_959 ⟨by decide, by decide, by decide +kernel⟩ (fun _ => rfl) dX11_isBoat_10)) <|
  .cons (ix_s_zret dX11_isBoat_13 rfl) <| .nil
theorem e_X11_isBoat_0 (Q : ix_R → Prop) (ls : ix_L) (st : List ix_V) (μ : ix_M) : ix_Ev o_X11_isBoat Q (0, ls, st, μ) = ix_iload 1 1 (ix_Ev o_X11_isBoat Q) Q ls st μ := ix_Ev.eq (a_X11_isBoat launch0) rfl ls st μ
theorem e_X11_isBoat_1 (Q : ix_R → Prop) (ls : ix_L) (st : List ix_V) (μ : ix_M) : ix_Ev o_X11_isBoat Q (1, ls, st, μ) = ix_push (vi 0) 2 (ix_Ev o_X11_isBoat Q) Q ls st μ := ix_Ev.eq (a_X11_isBoat launch0) rfl ls st μ
theorem e_X11_isBoat_2 (Q : ix_R → Prop) (ls : ix_L) (st : List ix_V) (μ : ix_M) : ix_Ev o_X11_isBoat Q (2, ls, st, μ) = ix_aload 0 3 (ix_Ev o_X11_isBoat Q) Q ls st μ := ix_Ev.eq (a_X11_isBoat launch0) rfl ls st μ
theorem e_X11_isBoat_3 (Q : ix_R → Prop) (ls : ix_L) (st : List ix_V) (μ : ix_M) : ix_Ev o_X11_isBoat Q (3, ls, st, μ) = ix_getr 10 20 (fun _ => 113) 6 (ix_Ev o_X11_isBoat Q) Q ls st μ := ix_Ev.eq (a_X11_isBoat launch0) rfl ls st μ
theorem e_X11_isBoat_6 (Q : ix_R → Prop) (ls : ix_L) (st : List ix_V) (μ : ix_M) : ix_Ev o_X11_isBoat Q (6, ls, st, μ) = ix_push (vi 1) 7 (ix_Ev o_X11_isBoat Q) Q ls st μ := ix_Ev.eq (a_X11_isBoat launch0) rfl ls st μ
theorem e_X11_isBoat_7 (Q : ix_R → Prop) (ls : ix_L) (st : List ix_V) (μ : ix_M) : ix_Ev o_X11_isBoat Q (7, ls, st, μ) = ix_iald 8 (ix_Ev o_X11_isBoat Q) Q ls st μ := ix_Ev.eq (a_X11_isBoat launch0) rfl ls st μ
theorem e_X11_isBoat_8 (Q : ix_R → Prop) (ls : ix_L) (st : List ix_V) (μ : ix_M) : ix_Ev o_X11_isBoat Q (8, ls, st, μ) = ix_push (vi 1) 9 (ix_Ev o_X11_isBoat Q) Q ls st μ := ix_Ev.eq (a_X11_isBoat launch0) rfl ls st μ
theorem e_X11_isBoat_9 (Q : ix_R → Prop) (ls : ix_L) (st : List ix_V) (μ : ix_M) : ix_Ev o_X11_isBoat Q (9, ls, st, μ) = ix_bin (fun x y => x - y) 10 (ix_Ev o_X11_isBoat Q) Q ls st μ := ix_Ev.eq (a_X11_isBoat launch0) rfl ls st μ
theorem e_X11_isBoat_10 (Q : ix_R → Prop) (ls : ix_L) (st : List ix_V) (μ : ix_M) : ix_Ev o_X11_isBoat Q (10, ls, st, μ) = oc_X11_within 13 (ix_Ev o_X11_isBoat Q) Q ls st μ := ix_Ev.eq (a_X11_isBoat launch0) rfl ls st μ
theorem e_X11_isBoat_13 (Q : ix_R → Prop) (ls : ix_L) (st : List ix_V) (μ : ix_M) : ix_Ev o_X11_isBoat Q (13, ls, st, μ) = ix_zret (ix_Ev o_X11_isBoat Q) Q ls st μ := ix_Ev.eq (a_X11_isBoat launch0) rfl ls st μ
theorem r_X11_isBoat (o : Nat) (i : Int32) (μ : ix_M) (Q : ix_R → Prop) (ok_o : o < ix_N ∧ ix_tag o = 10) (hT : T_X11_isBoat (o, i) μ Q) : ix_Ev o_X11_isBoat Q (0, [some (vr 10 o), some (vi i)], [], μ) := by
  obtain rfl := ok_10 o ok_o.1 ok_o.2
  simp (decide := true) only [e_X11_isBoat_0, e_X11_isBoat_1, e_X11_isBoat_2, e_X11_isBoat_3, e_X11_isBoat_6, e_X11_isBoat_7, e_X11_isBoat_8, e_X11_isBoat_9, e_X11_isBoat_10, e_X11_isBoat_13, vi, vl, vr, oc_X11_within, T_X11_within, ix_push, ix_iload, ix_lload, ix_aload, ix_istore, ix_astore, ix_iinc, ix_bin, ix_div, ix_un, ix_i2l, ix_l2i, ix_lbin, ix_lsh, ix_lcmp, ix_dup, ix_dup2, ix_pop, ix_if, ix_cmp, ix_goto, ix_switch, ix_sw, ix_iret, ix_zret, ix_vret, ix_aret, ix_geti, ix_getr, ix_puti, ix_putz, ix_puts, ix_gets, ix_iald, ix_iast, ix_alen, ix_aald, ix_gval, ix_gcod, ix_bald, ix_blen, ix_sald, ix_nret, ix_math2, ix_math1, ix_acopy, ml_113, ml_114, ml_115, ml_116, ml_118, ml_119, ml_120, ml_121, ml_122, ml_123, ml_124, ml_125, ml_126, mv_0, mv_1, mv_2, mv_3, mv_4, mv_5, mB_or, Nat.add_assoc, Int32.reduceLT, Int32.reduceLE, Int32.reduceToNatClampNeg, Int32.reduceSub, Int32.reduceAdd, Nat.reduceAdd, Nat.reduceLeDiff, true_or, or_true, or_false, false_or, not_false_eq_true, not_true_eq_false, false_implies, true_implies, implies_true, and_self, mB_0, mB_01, Classical.not_not, Nat.zero_le, List.getElem?_cons_zero, List.getElem?_cons_succ, List.set_cons_zero, List.set_cons_succ, ix_nl, ix_cs, true_and, and_true, Option.toList_some, Option.toList_none, List.cons_append, List.nil_append]
  simp only [T_X11_isBoat, mB, vi, vl, vr] at hT
  repeat' (first | refine And.intro ?_ ?_ | intro _)
  all_goals (first | exact hT | (simp only [*, if_true, if_false, not_true_eq_false, not_false_eq_true, and_true, true_and, and_false, false_and, or_true, true_or, or_false, false_or, and_self, or_self] at hT; exact hT) | (simp only [← Int32.not_lt, Classical.not_not] at *; simp only [*, if_true, if_false, not_true_eq_false, not_false_eq_true, and_true, true_and, and_false, false_and, or_true, true_or, or_false, false_or, and_self, or_self] at hT; exact hT) | (simp_all; done))
theorem k_X11_isBoat (l : Launch) : ix_Ct l yX11_isBoat cX11_isBoat 2 (some .boolean) 2 sh_X11_isBoat T_X11_isBoat := ix_ct (a_X11_isBoat l) rfl (by decide) (fun _ => Nat.le_of_ble_eq_true rfl) (fun x μ Q hok hT => r_X11_isBoat x.1 x.2 μ Q (ix_ok_at (hok (vr 10 x.1) (by simp [sh_X11_isBoat])) (by decide) (by decide)) hT)
def T_X11_isDark : Nat → ix_M → (ix_R → Prop) → Prop := fun _ μ Q => Q (some (vi (mB (rem (μ 113 0) 20 < μ 113 2))), μ)
def sh_X11_isDark (x : Nat) : List ix_V := [vr 10 x]
theorem mo_X11_isDark (x : Nat) (μ : ix_M) (Q Q' : ix_R → Prop) (h : ∀ r, Q r → Q' r) (hT : T_X11_isDark x μ Q) : T_X11_isDark x μ Q' := by
  first | exact h _ hT | exact ⟨hT.1, h _ hT.2⟩ | exact fun r hr => h _ (hT r hr) | exact ⟨hT.1, fun r hr => h _ (hT.2 r hr)⟩ | exact ⟨hT.1, hT.2.1, fun r hr => h _ (hT.2.2 r hr)⟩
def oc_X11_isDark (n : Nat) : ix_Op := fun k _ ls st μ => match st with
  | .inr (.inr (t0, a0)) :: r => t0 = 10 ∧ ix_cs r ≤ 8 ∧ T_X11_isDark a0 μ (fun q => k (n, ls, q.1.toList ++ r, q.2))
  | _ => False
theorem oc_X11_isDark_s {l : Launch} {cc : ByteArray} {nL : Nat} {own : String} {d : Nat} {rt : Option FieldType} {pc n : Nat} (h : ix_S l cc nL own d rt pc (ix_call 1 sh_X11_isDark T_X11_isDark n)) : ix_S l cc nL own d rt pc (oc_X11_isDark n) := by
  refine h.by (fun k Q ls st μ h => ?_) (fun k k' Q ls st μ hk h => ?_)
  · unfold oc_X11_isDark at h
    split at h
    · rename_i t0 a0 r
      obtain ⟨rfl, h1, h2⟩ := h
      exact ⟨h1, a0, rfl, _, h2, fun r h => h⟩
    · exact h.elim
  · unfold oc_X11_isDark at h ⊢
    split at h
    · obtain ⟨rfl, h1, h2⟩ := h
      exact ⟨rfl, h1, mo_X11_isDark _ _ _ _ (fun q hq => hk _ hq) h2⟩
    · exact h.elim
def o_X11_isDark : List (Nat × ix_Op) := [
  (0, ix_aload 0 1),
  (1, ix_getr 10 20 (fun _ => 113) 4),
  (4, ix_push (vi 0) 5),
  (5, ix_iald 6),
  (6, ix_push (vi 20) 8),
  (8, ix_div (fun x y => x - x / y * y) 9),
  (9, ix_aload 0 10),
  (10, ix_getr 10 20 (fun _ => 113) 13),
  (13, ix_push (vi 2) 14),
  (14, ix_iald 15),
  (15, ix_cmp (fun x y => y ≤ x) 22 18),
  (18, ix_push (vi 1) 19),
  (19, ix_goto 23),
  (22, ix_push (vi 0) 23),
  (23, ix_zret)]
set_option maxRecDepth 20000 in
theorem a_X11_isDark (l : Launch) : ix_AllS l cX11_isDark 1 RX11 2 (some .boolean) o_X11_isDark :=
  .cons (ix_s_aload_n dX11_isDark_0 rfl) <|
  .cons (ix_s_getr (j := 0) tu_X11 rfl (by decide) (by decide) tw_875 rfl ts_10_0_r dX11_isDark_1) <|
  .cons (ix_s_iconst dX11_isDark_4 (by decide +kernel)) <|
  .cons (ix_s_iald dX11_isDark_5) <|
  .cons (ix_s_bipush dX11_isDark_6 (by decide +kernel)) <|
  .cons (ix_s_irem dX11_isDark_8) <|
  .cons (ix_s_aload_n dX11_isDark_9 rfl) <|
  .cons (ix_s_getr (j := 0) tu_X11 rfl (by decide) (by decide) tw_875 rfl ts_10_0_r dX11_isDark_10) <|
  .cons (ix_s_iconst dX11_isDark_13 (by decide +kernel)) <|
  .cons (ix_s_iald dX11_isDark_14) <|
  .cons (ix_s_cmp_ge dX11_isDark_15 (by decide)) <|
  .cons (ix_s_iconst dX11_isDark_18 (by decide +kernel)) <|
  .cons (ix_s_goto dX11_isDark_19 (by decide)) <|
  .cons (ix_s_iconst dX11_isDark_22 (by decide +kernel)) <|
  .cons (ix_s_zret dX11_isDark_23 rfl) <| .nil
theorem e_X11_isDark_0 (Q : ix_R → Prop) (ls : ix_L) (st : List ix_V) (μ : ix_M) : ix_Ev o_X11_isDark Q (0, ls, st, μ) = ix_aload 0 1 (ix_Ev o_X11_isDark Q) Q ls st μ := ix_Ev.eq (a_X11_isDark launch0) rfl ls st μ
theorem e_X11_isDark_1 (Q : ix_R → Prop) (ls : ix_L) (st : List ix_V) (μ : ix_M) : ix_Ev o_X11_isDark Q (1, ls, st, μ) = ix_getr 10 20 (fun _ => 113) 4 (ix_Ev o_X11_isDark Q) Q ls st μ := ix_Ev.eq (a_X11_isDark launch0) rfl ls st μ
theorem e_X11_isDark_4 (Q : ix_R → Prop) (ls : ix_L) (st : List ix_V) (μ : ix_M) : ix_Ev o_X11_isDark Q (4, ls, st, μ) = ix_push (vi 0) 5 (ix_Ev o_X11_isDark Q) Q ls st μ := ix_Ev.eq (a_X11_isDark launch0) rfl ls st μ
theorem e_X11_isDark_5 (Q : ix_R → Prop) (ls : ix_L) (st : List ix_V) (μ : ix_M) : ix_Ev o_X11_isDark Q (5, ls, st, μ) = ix_iald 6 (ix_Ev o_X11_isDark Q) Q ls st μ := ix_Ev.eq (a_X11_isDark launch0) rfl ls st μ
theorem e_X11_isDark_6 (Q : ix_R → Prop) (ls : ix_L) (st : List ix_V) (μ : ix_M) : ix_Ev o_X11_isDark Q (6, ls, st, μ) = ix_push (vi 20) 8 (ix_Ev o_X11_isDark Q) Q ls st μ := ix_Ev.eq (a_X11_isDark launch0) rfl ls st μ
theorem e_X11_isDark_8 (Q : ix_R → Prop) (ls : ix_L) (st : List ix_V) (μ : ix_M) : ix_Ev o_X11_isDark Q (8, ls, st, μ) = ix_div (fun x y => x - x / y * y) 9 (ix_Ev o_X11_isDark Q) Q ls st μ := ix_Ev.eq (a_X11_isDark launch0) rfl ls st μ
theorem e_X11_isDark_9 (Q : ix_R → Prop) (ls : ix_L) (st : List ix_V) (μ : ix_M) : ix_Ev o_X11_isDark Q (9, ls, st, μ) = ix_aload 0 10 (ix_Ev o_X11_isDark Q) Q ls st μ := ix_Ev.eq (a_X11_isDark launch0) rfl ls st μ
theorem e_X11_isDark_10 (Q : ix_R → Prop) (ls : ix_L) (st : List ix_V) (μ : ix_M) : ix_Ev o_X11_isDark Q (10, ls, st, μ) = ix_getr 10 20 (fun _ => 113) 13 (ix_Ev o_X11_isDark Q) Q ls st μ := ix_Ev.eq (a_X11_isDark launch0) rfl ls st μ
theorem e_X11_isDark_13 (Q : ix_R → Prop) (ls : ix_L) (st : List ix_V) (μ : ix_M) : ix_Ev o_X11_isDark Q (13, ls, st, μ) = ix_push (vi 2) 14 (ix_Ev o_X11_isDark Q) Q ls st μ := ix_Ev.eq (a_X11_isDark launch0) rfl ls st μ
theorem e_X11_isDark_14 (Q : ix_R → Prop) (ls : ix_L) (st : List ix_V) (μ : ix_M) : ix_Ev o_X11_isDark Q (14, ls, st, μ) = ix_iald 15 (ix_Ev o_X11_isDark Q) Q ls st μ := ix_Ev.eq (a_X11_isDark launch0) rfl ls st μ
theorem e_X11_isDark_15 (Q : ix_R → Prop) (ls : ix_L) (st : List ix_V) (μ : ix_M) : ix_Ev o_X11_isDark Q (15, ls, st, μ) = ix_cmp (fun x y => y ≤ x) 22 18 (ix_Ev o_X11_isDark Q) Q ls st μ := ix_Ev.eq (a_X11_isDark launch0) rfl ls st μ
theorem e_X11_isDark_18 (Q : ix_R → Prop) (ls : ix_L) (st : List ix_V) (μ : ix_M) : ix_Ev o_X11_isDark Q (18, ls, st, μ) = ix_push (vi 1) 19 (ix_Ev o_X11_isDark Q) Q ls st μ := ix_Ev.eq (a_X11_isDark launch0) rfl ls st μ
theorem e_X11_isDark_19 (Q : ix_R → Prop) (ls : ix_L) (st : List ix_V) (μ : ix_M) : ix_Ev o_X11_isDark Q (19, ls, st, μ) = ix_goto 23 (ix_Ev o_X11_isDark Q) Q ls st μ := ix_Ev.eq (a_X11_isDark launch0) rfl ls st μ
theorem e_X11_isDark_22 (Q : ix_R → Prop) (ls : ix_L) (st : List ix_V) (μ : ix_M) : ix_Ev o_X11_isDark Q (22, ls, st, μ) = ix_push (vi 0) 23 (ix_Ev o_X11_isDark Q) Q ls st μ := ix_Ev.eq (a_X11_isDark launch0) rfl ls st μ
theorem e_X11_isDark_23 (Q : ix_R → Prop) (ls : ix_L) (st : List ix_V) (μ : ix_M) : ix_Ev o_X11_isDark Q (23, ls, st, μ) = ix_zret (ix_Ev o_X11_isDark Q) Q ls st μ := ix_Ev.eq (a_X11_isDark launch0) rfl ls st μ
theorem r_X11_isDark (o : Nat) (μ : ix_M) (Q : ix_R → Prop) (ok_o : o < ix_N ∧ ix_tag o = 10) (hT : T_X11_isDark o μ Q) : ix_Ev o_X11_isDark Q (0, [some (vr 10 o)], [], μ) := by
  obtain rfl := ok_10 o ok_o.1 ok_o.2
  simp (decide := true) only [e_X11_isDark_0, e_X11_isDark_1, e_X11_isDark_4, e_X11_isDark_5, e_X11_isDark_6, e_X11_isDark_8, e_X11_isDark_9, e_X11_isDark_10, e_X11_isDark_13, e_X11_isDark_14, e_X11_isDark_15, e_X11_isDark_18, e_X11_isDark_19, e_X11_isDark_22, e_X11_isDark_23, vi, vl, vr, ix_push, ix_iload, ix_lload, ix_aload, ix_istore, ix_astore, ix_iinc, ix_bin, ix_div, ix_un, ix_i2l, ix_l2i, ix_lbin, ix_lsh, ix_lcmp, ix_dup, ix_dup2, ix_pop, ix_if, ix_cmp, ix_goto, ix_switch, ix_sw, ix_iret, ix_zret, ix_vret, ix_aret, ix_geti, ix_getr, ix_puti, ix_putz, ix_puts, ix_gets, ix_iald, ix_iast, ix_alen, ix_aald, ix_gval, ix_gcod, ix_bald, ix_blen, ix_sald, ix_nret, ix_math2, ix_math1, ix_acopy, ml_113, ml_114, ml_115, ml_116, ml_118, ml_119, ml_120, ml_121, ml_122, ml_123, ml_124, ml_125, ml_126, mv_0, mv_1, mv_2, mv_3, mv_4, mv_5, mB_or, Nat.add_assoc, Int32.reduceLT, Int32.reduceLE, Int32.reduceToNatClampNeg, Int32.reduceSub, Int32.reduceAdd, Nat.reduceAdd, Nat.reduceLeDiff, true_or, or_true, or_false, false_or, not_false_eq_true, not_true_eq_false, false_implies, true_implies, implies_true, and_self, mB_0, mB_01, Classical.not_not, Nat.zero_le, List.getElem?_cons_zero, List.getElem?_cons_succ, List.set_cons_zero, List.set_cons_succ, ix_nl, ix_cs, true_and, and_true, Option.toList_some, Option.toList_none, List.cons_append, List.nil_append]
  simp only [T_X11_isDark, mB, rem, vi, vl, vr] at hT
  repeat' (first | refine And.intro ?_ ?_ | intro _)
  all_goals (first | exact hT | (simp only [*, if_true, if_false, not_true_eq_false, not_false_eq_true, and_true, true_and, and_false, false_and, or_true, true_or, or_false, false_or, and_self, or_self] at hT; exact hT) | (simp only [← Int32.not_lt, Classical.not_not] at *; simp only [*, if_true, if_false, not_true_eq_false, not_false_eq_true, and_true, true_and, and_false, false_and, or_true, true_or, or_false, false_or, and_self, or_self] at hT; exact hT) | (simp_all; done))
theorem k_X11_isDark (l : Launch) : ix_Ct l yX11_isDark cX11_isDark 1 (some .boolean) 2 sh_X11_isDark T_X11_isDark := ix_ct (a_X11_isDark l) rfl (by decide) (fun _ => Nat.le_of_ble_eq_true rfl) (fun x μ Q hok hT => r_X11_isDark x μ Q (ix_ok_at (hok (vr 10 x) (by simp [sh_X11_isDark])) (by decide) (by decide)) hT)
def T_X11_wayNow : Nat → ix_M → (ix_R → Prop) → Prop := fun _ μ Q => vp_in (6 + rem (μ 113 0) 6) 256 ∧ Q (some (vi (μ 113 (6 + rem (μ 113 0) 6).toNatClampNeg)), μ)
def sh_X11_wayNow (x : Nat) : List ix_V := [vr 10 x]
theorem mo_X11_wayNow (x : Nat) (μ : ix_M) (Q Q' : ix_R → Prop) (h : ∀ r, Q r → Q' r) (hT : T_X11_wayNow x μ Q) : T_X11_wayNow x μ Q' := by
  first | exact h _ hT | exact ⟨hT.1, h _ hT.2⟩ | exact fun r hr => h _ (hT r hr) | exact ⟨hT.1, fun r hr => h _ (hT.2 r hr)⟩ | exact ⟨hT.1, hT.2.1, fun r hr => h _ (hT.2.2 r hr)⟩
def oc_X11_wayNow (n : Nat) : ix_Op := fun k _ ls st μ => match st with
  | .inr (.inr (t0, a0)) :: r => t0 = 10 ∧ ix_cs r ≤ 8 ∧ T_X11_wayNow a0 μ (fun q => k (n, ls, q.1.toList ++ r, q.2))
  | _ => False
theorem oc_X11_wayNow_s {l : Launch} {cc : ByteArray} {nL : Nat} {own : String} {d : Nat} {rt : Option FieldType} {pc n : Nat} (h : ix_S l cc nL own d rt pc (ix_call 1 sh_X11_wayNow T_X11_wayNow n)) : ix_S l cc nL own d rt pc (oc_X11_wayNow n) := by
  refine h.by (fun k Q ls st μ h => ?_) (fun k k' Q ls st μ hk h => ?_)
  · unfold oc_X11_wayNow at h
    split at h
    · rename_i t0 a0 r
      obtain ⟨rfl, h1, h2⟩ := h
      exact ⟨h1, a0, rfl, _, h2, fun r h => h⟩
    · exact h.elim
  · unfold oc_X11_wayNow at h ⊢
    split at h
    · obtain ⟨rfl, h1, h2⟩ := h
      exact ⟨rfl, h1, mo_X11_wayNow _ _ _ _ (fun q hq => hk _ hq) h2⟩
    · exact h.elim
def o_X11_wayNow : List (Nat × ix_Op) := [
  (0, ix_aload 0 1),
  (1, ix_getr 10 20 (fun _ => 113) 4),
  (4, ix_push (vi 6) 6),
  (6, ix_aload 0 7),
  (7, ix_getr 10 20 (fun _ => 113) 10),
  (10, ix_push (vi 0) 11),
  (11, ix_iald 12),
  (12, ix_push (vi 6) 14),
  (14, ix_div (fun x y => x - x / y * y) 15),
  (15, ix_bin (fun x y => x + y) 16),
  (16, ix_iald 17),
  (17, ix_iret)]
set_option maxRecDepth 20000 in
theorem a_X11_wayNow (l : Launch) : ix_AllS l cX11_wayNow 1 RX11 1 (some .int) o_X11_wayNow :=
  .cons (ix_s_aload_n dX11_wayNow_0 rfl) <|
  .cons (ix_s_getr (j := 0) tu_X11 rfl (by decide) (by decide) tw_875 rfl ts_10_0_r dX11_wayNow_1) <|
  .cons (ix_s_bipush dX11_wayNow_4 (by decide +kernel)) <|
  .cons (ix_s_aload_n dX11_wayNow_6 rfl) <|
  .cons (ix_s_getr (j := 0) tu_X11 rfl (by decide) (by decide) tw_875 rfl ts_10_0_r dX11_wayNow_7) <|
  .cons (ix_s_iconst dX11_wayNow_10 (by decide +kernel)) <|
  .cons (ix_s_iald dX11_wayNow_11) <|
  .cons (ix_s_bipush dX11_wayNow_12 (by decide +kernel)) <|
  .cons (ix_s_irem dX11_wayNow_14) <|
  .cons (ix_s_iadd dX11_wayNow_15) <|
  .cons (ix_s_iald dX11_wayNow_16) <|
  .cons (ix_s_iret dX11_wayNow_17 rfl) <| .nil
theorem e_X11_wayNow_0 (Q : ix_R → Prop) (ls : ix_L) (st : List ix_V) (μ : ix_M) : ix_Ev o_X11_wayNow Q (0, ls, st, μ) = ix_aload 0 1 (ix_Ev o_X11_wayNow Q) Q ls st μ := ix_Ev.eq (a_X11_wayNow launch0) rfl ls st μ
theorem e_X11_wayNow_1 (Q : ix_R → Prop) (ls : ix_L) (st : List ix_V) (μ : ix_M) : ix_Ev o_X11_wayNow Q (1, ls, st, μ) = ix_getr 10 20 (fun _ => 113) 4 (ix_Ev o_X11_wayNow Q) Q ls st μ := ix_Ev.eq (a_X11_wayNow launch0) rfl ls st μ
theorem e_X11_wayNow_4 (Q : ix_R → Prop) (ls : ix_L) (st : List ix_V) (μ : ix_M) : ix_Ev o_X11_wayNow Q (4, ls, st, μ) = ix_push (vi 6) 6 (ix_Ev o_X11_wayNow Q) Q ls st μ := ix_Ev.eq (a_X11_wayNow launch0) rfl ls st μ
theorem e_X11_wayNow_6 (Q : ix_R → Prop) (ls : ix_L) (st : List ix_V) (μ : ix_M) : ix_Ev o_X11_wayNow Q (6, ls, st, μ) = ix_aload 0 7 (ix_Ev o_X11_wayNow Q) Q ls st μ := ix_Ev.eq (a_X11_wayNow launch0) rfl ls st μ
theorem e_X11_wayNow_7 (Q : ix_R → Prop) (ls : ix_L) (st : List ix_V) (μ : ix_M) : ix_Ev o_X11_wayNow Q (7, ls, st, μ) = ix_getr 10 20 (fun _ => 113) 10 (ix_Ev o_X11_wayNow Q) Q ls st μ := ix_Ev.eq (a_X11_wayNow launch0) rfl ls st μ
theorem e_X11_wayNow_10 (Q : ix_R → Prop) (ls : ix_L) (st : List ix_V) (μ : ix_M) : ix_Ev o_X11_wayNow Q (10, ls, st, μ) = ix_push (vi 0) 11 (ix_Ev o_X11_wayNow Q) Q ls st μ := ix_Ev.eq (a_X11_wayNow launch0) rfl ls st μ
theorem e_X11_wayNow_11 (Q : ix_R → Prop) (ls : ix_L) (st : List ix_V) (μ : ix_M) : ix_Ev o_X11_wayNow Q (11, ls, st, μ) = ix_iald 12 (ix_Ev o_X11_wayNow Q) Q ls st μ := ix_Ev.eq (a_X11_wayNow launch0) rfl ls st μ
theorem e_X11_wayNow_12 (Q : ix_R → Prop) (ls : ix_L) (st : List ix_V) (μ : ix_M) : ix_Ev o_X11_wayNow Q (12, ls, st, μ) = ix_push (vi 6) 14 (ix_Ev o_X11_wayNow Q) Q ls st μ := ix_Ev.eq (a_X11_wayNow launch0) rfl ls st μ
theorem e_X11_wayNow_14 (Q : ix_R → Prop) (ls : ix_L) (st : List ix_V) (μ : ix_M) : ix_Ev o_X11_wayNow Q (14, ls, st, μ) = ix_div (fun x y => x - x / y * y) 15 (ix_Ev o_X11_wayNow Q) Q ls st μ := ix_Ev.eq (a_X11_wayNow launch0) rfl ls st μ
theorem e_X11_wayNow_15 (Q : ix_R → Prop) (ls : ix_L) (st : List ix_V) (μ : ix_M) : ix_Ev o_X11_wayNow Q (15, ls, st, μ) = ix_bin (fun x y => x + y) 16 (ix_Ev o_X11_wayNow Q) Q ls st μ := ix_Ev.eq (a_X11_wayNow launch0) rfl ls st μ
theorem e_X11_wayNow_16 (Q : ix_R → Prop) (ls : ix_L) (st : List ix_V) (μ : ix_M) : ix_Ev o_X11_wayNow Q (16, ls, st, μ) = ix_iald 17 (ix_Ev o_X11_wayNow Q) Q ls st μ := ix_Ev.eq (a_X11_wayNow launch0) rfl ls st μ
theorem e_X11_wayNow_17 (Q : ix_R → Prop) (ls : ix_L) (st : List ix_V) (μ : ix_M) : ix_Ev o_X11_wayNow Q (17, ls, st, μ) = ix_iret (ix_Ev o_X11_wayNow Q) Q ls st μ := ix_Ev.eq (a_X11_wayNow launch0) rfl ls st μ
theorem r_X11_wayNow (o : Nat) (μ : ix_M) (Q : ix_R → Prop) (ok_o : o < ix_N ∧ ix_tag o = 10) (hT : T_X11_wayNow o μ Q) : ix_Ev o_X11_wayNow Q (0, [some (vr 10 o)], [], μ) := by
  obtain rfl := ok_10 o ok_o.1 ok_o.2
  simp (decide := true) only [e_X11_wayNow_0, e_X11_wayNow_1, e_X11_wayNow_4, e_X11_wayNow_6, e_X11_wayNow_7, e_X11_wayNow_10, e_X11_wayNow_11, e_X11_wayNow_12, e_X11_wayNow_14, e_X11_wayNow_15, e_X11_wayNow_16, e_X11_wayNow_17, vi, vl, vr, ix_push, ix_iload, ix_lload, ix_aload, ix_istore, ix_astore, ix_iinc, ix_bin, ix_div, ix_un, ix_i2l, ix_l2i, ix_lbin, ix_lsh, ix_lcmp, ix_dup, ix_dup2, ix_pop, ix_if, ix_cmp, ix_goto, ix_switch, ix_sw, ix_iret, ix_zret, ix_vret, ix_aret, ix_geti, ix_getr, ix_puti, ix_putz, ix_puts, ix_gets, ix_iald, ix_iast, ix_alen, ix_aald, ix_gval, ix_gcod, ix_bald, ix_blen, ix_sald, ix_nret, ix_math2, ix_math1, ix_acopy, ml_113, ml_114, ml_115, ml_116, ml_118, ml_119, ml_120, ml_121, ml_122, ml_123, ml_124, ml_125, ml_126, mv_0, mv_1, mv_2, mv_3, mv_4, mv_5, mB_or, Nat.add_assoc, Int32.reduceLT, Int32.reduceLE, Int32.reduceToNatClampNeg, Int32.reduceSub, Int32.reduceAdd, Nat.reduceAdd, Nat.reduceLeDiff, true_or, or_true, or_false, false_or, not_false_eq_true, not_true_eq_false, false_implies, true_implies, implies_true, and_self, mB_0, mB_01, Classical.not_not, Nat.zero_le, List.getElem?_cons_zero, List.getElem?_cons_succ, List.set_cons_zero, List.set_cons_succ, ix_nl, ix_cs, true_and, and_true, Option.toList_some, Option.toList_none, List.cons_append, List.nil_append]
  exact hT
theorem k_X11_wayNow (l : Launch) : ix_Ct l yX11_wayNow cX11_wayNow 1 (some .int) 1 sh_X11_wayNow T_X11_wayNow := ix_ct (a_X11_wayNow l) rfl (by decide) (fun _ => Nat.le_of_ble_eq_true rfl) (fun x μ Q hok hT => r_X11_wayNow x μ Q (ix_ok_at (hok (vr 10 x) (by simp [sh_X11_wayNow])) (by decide) (by decide)) hT)
def T_X11_drawn : Nat → ix_M → (ix_R → Prop) → Prop := fun _ μ Q => Q (some (vi (mZ8 (mZ (μ 113 3)))), ix_up μ 113 3 (mZ (μ 113 3)))
def sh_X11_drawn (x : Nat) : List ix_V := [vr 10 x]
theorem mo_X11_drawn (x : Nat) (μ : ix_M) (Q Q' : ix_R → Prop) (h : ∀ r, Q r → Q' r) (hT : T_X11_drawn x μ Q) : T_X11_drawn x μ Q' := by
  first | exact h _ hT | exact ⟨hT.1, h _ hT.2⟩ | exact fun r hr => h _ (hT r hr) | exact ⟨hT.1, fun r hr => h _ (hT.2 r hr)⟩ | exact ⟨hT.1, hT.2.1, fun r hr => h _ (hT.2.2 r hr)⟩
def oc_X11_drawn (n : Nat) : ix_Op := fun k _ ls st μ => match st with
  | .inr (.inr (t0, a0)) :: r => t0 = 10 ∧ ix_cs r ≤ 8 ∧ T_X11_drawn a0 μ (fun q => k (n, ls, q.1.toList ++ r, q.2))
  | _ => False
theorem oc_X11_drawn_s {l : Launch} {cc : ByteArray} {nL : Nat} {own : String} {d : Nat} {rt : Option FieldType} {pc n : Nat} (h : ix_S l cc nL own d rt pc (ix_call 1 sh_X11_drawn T_X11_drawn n)) : ix_S l cc nL own d rt pc (oc_X11_drawn n) := by
  refine h.by (fun k Q ls st μ h => ?_) (fun k k' Q ls st μ hk h => ?_)
  · unfold oc_X11_drawn at h
    split at h
    · rename_i t0 a0 r
      obtain ⟨rfl, h1, h2⟩ := h
      exact ⟨h1, a0, rfl, _, h2, fun r h => h⟩
    · exact h.elim
  · unfold oc_X11_drawn at h ⊢
    split at h
    · obtain ⟨rfl, h1, h2⟩ := h
      exact ⟨rfl, h1, mo_X11_drawn _ _ _ _ (fun q hq => hk _ hq) h2⟩
    · exact h.elim
def o_X11_drawn : List (Nat × ix_Op) := [
  (0, ix_aload 0 1),
  (1, ix_getr 10 20 (fun _ => 113) 4),
  (4, ix_push (vi 3) 5),
  (5, ix_aload 0 6),
  (6, ix_getr 10 20 (fun _ => 113) 9),
  (9, ix_push (vi 3) 10),
  (10, ix_iald 11),
  (11, ix_push (vi 1103515245) 13),
  (13, ix_bin (fun x y => x * y) 14),
  (14, ix_push (vi 12345) 17),
  (17, ix_bin (fun x y => x + y) 18),
  (18, ix_iast 19),
  (19, ix_aload 0 20),
  (20, ix_getr 10 20 (fun _ => 113) 23),
  (23, ix_push (vi 3) 24),
  (24, ix_iald 25),
  (25, ix_push (vi 8) 27),
  (27, ix_bin (fun x y => (x.toUInt32 >>> (y.toUInt32 &&& Int32.toUInt32 31)).toInt32) 28),
  (28, ix_iret)]
set_option maxRecDepth 20000 in
theorem a_X11_drawn (l : Launch) : ix_AllS l cX11_drawn 1 RX11 1 (some .int) o_X11_drawn :=
  .cons (ix_s_aload_n dX11_drawn_0 rfl) <|
  .cons (ix_s_getr (j := 0) tu_X11 rfl (by decide) (by decide) tw_875 rfl ts_10_0_r dX11_drawn_1) <|
  .cons (ix_s_iconst dX11_drawn_4 (by decide +kernel)) <|
  .cons (ix_s_aload_n dX11_drawn_5 rfl) <|
  .cons (ix_s_getr (j := 0) tu_X11 rfl (by decide) (by decide) tw_875 rfl ts_10_0_r dX11_drawn_6) <|
  .cons (ix_s_iconst dX11_drawn_9 (by decide +kernel)) <|
  .cons (ix_s_iald dX11_drawn_10) <|
  .cons (ix_s_ldc tw_1211 dX11_drawn_11) <|
  .cons (ix_s_imul dX11_drawn_13) <|
  .cons (ix_s_sipush dX11_drawn_14 (by decide +kernel)) <|
  .cons (ix_s_iadd dX11_drawn_17) <|
  .cons (ix_s_iast dX11_drawn_18) <|
  .cons (ix_s_aload_n dX11_drawn_19 rfl) <|
  .cons (ix_s_getr (j := 0) tu_X11 rfl (by decide) (by decide) tw_875 rfl ts_10_0_r dX11_drawn_20) <|
  .cons (ix_s_iconst dX11_drawn_23 (by decide +kernel)) <|
  .cons (ix_s_iald dX11_drawn_24) <|
  .cons (ix_s_bipush dX11_drawn_25 (by decide +kernel)) <|
  .cons (ix_s_iushr dX11_drawn_27) <|
  .cons (ix_s_iret dX11_drawn_28 rfl) <| .nil
theorem e_X11_drawn_0 (Q : ix_R → Prop) (ls : ix_L) (st : List ix_V) (μ : ix_M) : ix_Ev o_X11_drawn Q (0, ls, st, μ) = ix_aload 0 1 (ix_Ev o_X11_drawn Q) Q ls st μ := ix_Ev.eq (a_X11_drawn launch0) rfl ls st μ
theorem e_X11_drawn_1 (Q : ix_R → Prop) (ls : ix_L) (st : List ix_V) (μ : ix_M) : ix_Ev o_X11_drawn Q (1, ls, st, μ) = ix_getr 10 20 (fun _ => 113) 4 (ix_Ev o_X11_drawn Q) Q ls st μ := ix_Ev.eq (a_X11_drawn launch0) rfl ls st μ
theorem e_X11_drawn_4 (Q : ix_R → Prop) (ls : ix_L) (st : List ix_V) (μ : ix_M) : ix_Ev o_X11_drawn Q (4, ls, st, μ) = ix_push (vi 3) 5 (ix_Ev o_X11_drawn Q) Q ls st μ := ix_Ev.eq (a_X11_drawn launch0) rfl ls st μ
theorem e_X11_drawn_5 (Q : ix_R → Prop) (ls : ix_L) (st : List ix_V) (μ : ix_M) : ix_Ev o_X11_drawn Q (5, ls, st, μ) = ix_aload 0 6 (ix_Ev o_X11_drawn Q) Q ls st μ := ix_Ev.eq (a_X11_drawn launch0) rfl ls st μ
theorem e_X11_drawn_6 (Q : ix_R → Prop) (ls : ix_L) (st : List ix_V) (μ : ix_M) : ix_Ev o_X11_drawn Q (6, ls, st, μ) = ix_getr 10 20 (fun _ => 113) 9 (ix_Ev o_X11_drawn Q) Q ls st μ := ix_Ev.eq (a_X11_drawn launch0) rfl ls st μ
theorem e_X11_drawn_9 (Q : ix_R → Prop) (ls : ix_L) (st : List ix_V) (μ : ix_M) : ix_Ev o_X11_drawn Q (9, ls, st, μ) = ix_push (vi 3) 10 (ix_Ev o_X11_drawn Q) Q ls st μ := ix_Ev.eq (a_X11_drawn launch0) rfl ls st μ
theorem e_X11_drawn_10 (Q : ix_R → Prop) (ls : ix_L) (st : List ix_V) (μ : ix_M) : ix_Ev o_X11_drawn Q (10, ls, st, μ) = ix_iald 11 (ix_Ev o_X11_drawn Q) Q ls st μ := ix_Ev.eq (a_X11_drawn launch0) rfl ls st μ
theorem e_X11_drawn_11 (Q : ix_R → Prop) (ls : ix_L) (st : List ix_V) (μ : ix_M) : ix_Ev o_X11_drawn Q (11, ls, st, μ) = ix_push (vi 1103515245) 13 (ix_Ev o_X11_drawn Q) Q ls st μ := ix_Ev.eq (a_X11_drawn launch0) rfl ls st μ
theorem e_X11_drawn_13 (Q : ix_R → Prop) (ls : ix_L) (st : List ix_V) (μ : ix_M) : ix_Ev o_X11_drawn Q (13, ls, st, μ) = ix_bin (fun x y => x * y) 14 (ix_Ev o_X11_drawn Q) Q ls st μ := ix_Ev.eq (a_X11_drawn launch0) rfl ls st μ
theorem e_X11_drawn_14 (Q : ix_R → Prop) (ls : ix_L) (st : List ix_V) (μ : ix_M) : ix_Ev o_X11_drawn Q (14, ls, st, μ) = ix_push (vi 12345) 17 (ix_Ev o_X11_drawn Q) Q ls st μ := ix_Ev.eq (a_X11_drawn launch0) rfl ls st μ
theorem e_X11_drawn_17 (Q : ix_R → Prop) (ls : ix_L) (st : List ix_V) (μ : ix_M) : ix_Ev o_X11_drawn Q (17, ls, st, μ) = ix_bin (fun x y => x + y) 18 (ix_Ev o_X11_drawn Q) Q ls st μ := ix_Ev.eq (a_X11_drawn launch0) rfl ls st μ
theorem e_X11_drawn_18 (Q : ix_R → Prop) (ls : ix_L) (st : List ix_V) (μ : ix_M) : ix_Ev o_X11_drawn Q (18, ls, st, μ) = ix_iast 19 (ix_Ev o_X11_drawn Q) Q ls st μ := ix_Ev.eq (a_X11_drawn launch0) rfl ls st μ
theorem e_X11_drawn_19 (Q : ix_R → Prop) (ls : ix_L) (st : List ix_V) (μ : ix_M) : ix_Ev o_X11_drawn Q (19, ls, st, μ) = ix_aload 0 20 (ix_Ev o_X11_drawn Q) Q ls st μ := ix_Ev.eq (a_X11_drawn launch0) rfl ls st μ
theorem e_X11_drawn_20 (Q : ix_R → Prop) (ls : ix_L) (st : List ix_V) (μ : ix_M) : ix_Ev o_X11_drawn Q (20, ls, st, μ) = ix_getr 10 20 (fun _ => 113) 23 (ix_Ev o_X11_drawn Q) Q ls st μ := ix_Ev.eq (a_X11_drawn launch0) rfl ls st μ
theorem e_X11_drawn_23 (Q : ix_R → Prop) (ls : ix_L) (st : List ix_V) (μ : ix_M) : ix_Ev o_X11_drawn Q (23, ls, st, μ) = ix_push (vi 3) 24 (ix_Ev o_X11_drawn Q) Q ls st μ := ix_Ev.eq (a_X11_drawn launch0) rfl ls st μ
theorem e_X11_drawn_24 (Q : ix_R → Prop) (ls : ix_L) (st : List ix_V) (μ : ix_M) : ix_Ev o_X11_drawn Q (24, ls, st, μ) = ix_iald 25 (ix_Ev o_X11_drawn Q) Q ls st μ := ix_Ev.eq (a_X11_drawn launch0) rfl ls st μ
theorem e_X11_drawn_25 (Q : ix_R → Prop) (ls : ix_L) (st : List ix_V) (μ : ix_M) : ix_Ev o_X11_drawn Q (25, ls, st, μ) = ix_push (vi 8) 27 (ix_Ev o_X11_drawn Q) Q ls st μ := ix_Ev.eq (a_X11_drawn launch0) rfl ls st μ
theorem e_X11_drawn_27 (Q : ix_R → Prop) (ls : ix_L) (st : List ix_V) (μ : ix_M) : ix_Ev o_X11_drawn Q (27, ls, st, μ) = ix_bin (fun x y => (x.toUInt32 >>> (y.toUInt32 &&& Int32.toUInt32 31)).toInt32) 28 (ix_Ev o_X11_drawn Q) Q ls st μ := ix_Ev.eq (a_X11_drawn launch0) rfl ls st μ
theorem e_X11_drawn_28 (Q : ix_R → Prop) (ls : ix_L) (st : List ix_V) (μ : ix_M) : ix_Ev o_X11_drawn Q (28, ls, st, μ) = ix_iret (ix_Ev o_X11_drawn Q) Q ls st μ := ix_Ev.eq (a_X11_drawn launch0) rfl ls st μ
theorem r_X11_drawn (o : Nat) (μ : ix_M) (Q : ix_R → Prop) (ok_o : o < ix_N ∧ ix_tag o = 10) (hT : T_X11_drawn o μ Q) : ix_Ev o_X11_drawn Q (0, [some (vr 10 o)], [], μ) := by
  obtain rfl := ok_10 o ok_o.1 ok_o.2
  simp (decide := true) only [e_X11_drawn_0, e_X11_drawn_1, e_X11_drawn_4, e_X11_drawn_5, e_X11_drawn_6, e_X11_drawn_9, e_X11_drawn_10, e_X11_drawn_11, e_X11_drawn_13, e_X11_drawn_14, e_X11_drawn_17, e_X11_drawn_18, e_X11_drawn_19, e_X11_drawn_20, e_X11_drawn_23, e_X11_drawn_24, e_X11_drawn_25, e_X11_drawn_27, e_X11_drawn_28, vi, vl, vr, ix_push, ix_iload, ix_lload, ix_aload, ix_istore, ix_astore, ix_iinc, ix_bin, ix_div, ix_un, ix_i2l, ix_l2i, ix_lbin, ix_lsh, ix_lcmp, ix_dup, ix_dup2, ix_pop, ix_if, ix_cmp, ix_goto, ix_switch, ix_sw, ix_iret, ix_zret, ix_vret, ix_aret, ix_geti, ix_getr, ix_puti, ix_putz, ix_puts, ix_gets, ix_iald, ix_iast, ix_alen, ix_aald, ix_gval, ix_gcod, ix_bald, ix_blen, ix_sald, ix_nret, ix_math2, ix_math1, ix_acopy, ml_113, ml_114, ml_115, ml_116, ml_118, ml_119, ml_120, ml_121, ml_122, ml_123, ml_124, ml_125, ml_126, mv_0, mv_1, mv_2, mv_3, mv_4, mv_5, mB_or, Nat.add_assoc, Int32.reduceLT, Int32.reduceLE, Int32.reduceToNatClampNeg, Int32.reduceSub, Int32.reduceAdd, Nat.reduceAdd, Nat.reduceLeDiff, true_or, or_true, or_false, false_or, not_false_eq_true, not_true_eq_false, false_implies, true_implies, implies_true, and_self, mB_0, mB_01, Classical.not_not, Nat.zero_le, List.getElem?_cons_zero, List.getElem?_cons_succ, List.set_cons_zero, List.set_cons_succ, ix_nl, ix_cs, true_and, and_true, Option.toList_some, Option.toList_none, List.cons_append, List.nil_append]
  simp only [ix_up_ap, and_self, if_true]
  exact hT
theorem k_X11_drawn (l : Launch) : ix_Ct l yX11_drawn cX11_drawn 1 (some .int) 1 sh_X11_drawn T_X11_drawn := ix_ct (a_X11_drawn l) rfl (by decide) (fun _ => Nat.le_of_ble_eq_true rfl) (fun x μ Q hok hT => r_X11_drawn x μ Q (ix_ok_at (hok (vr 10 x) (by simp [sh_X11_drawn])) (by decide) (by decide)) hT)
def T_X11_hasText : Nat × Int32 → ix_M → (ix_R → Prop) → Prop := fun (_, u) μ Q => vp_in (152 + 52 * u) 256 ∧ Q (some (vi (mB (0 < μ 113 (152 + 52 * u).toNatClampNeg))), μ)
def sh_X11_hasText (x : Nat × Int32) : List ix_V := [vr 10 x.1, vi x.2]
theorem mo_X11_hasText (x : Nat × Int32) (μ : ix_M) (Q Q' : ix_R → Prop) (h : ∀ r, Q r → Q' r) (hT : T_X11_hasText x μ Q) : T_X11_hasText x μ Q' := by
  obtain ⟨a0, a1⟩ := x
  first | exact h _ hT | exact ⟨hT.1, h _ hT.2⟩ | exact fun r hr => h _ (hT r hr) | exact ⟨hT.1, fun r hr => h _ (hT.2 r hr)⟩ | exact ⟨hT.1, hT.2.1, fun r hr => h _ (hT.2.2 r hr)⟩
def oc_X11_hasText (n : Nat) : ix_Op := fun k _ ls st μ => match st with
  | .inl a1 :: .inr (.inr (t0, a0)) :: r => t0 = 10 ∧ ix_cs r ≤ 8 ∧ T_X11_hasText (a0, a1) μ (fun q => k (n, ls, q.1.toList ++ r, q.2))
  | _ => False
theorem oc_X11_hasText_s {l : Launch} {cc : ByteArray} {nL : Nat} {own : String} {d : Nat} {rt : Option FieldType} {pc n : Nat} (h : ix_S l cc nL own d rt pc (ix_call 2 sh_X11_hasText T_X11_hasText n)) : ix_S l cc nL own d rt pc (oc_X11_hasText n) := by
  refine h.by (fun k Q ls st μ h => ?_) (fun k k' Q ls st μ hk h => ?_)
  · unfold oc_X11_hasText at h
    split at h
    · rename_i a1 t0 a0 r
      obtain ⟨rfl, h1, h2⟩ := h
      exact ⟨h1, (a0, a1), rfl, _, h2, fun r h => h⟩
    · exact h.elim
  · unfold oc_X11_hasText at h ⊢
    split at h
    · obtain ⟨rfl, h1, h2⟩ := h
      exact ⟨rfl, h1, mo_X11_hasText _ _ _ _ (fun q hq => hk _ hq) h2⟩
    · exact h.elim
def o_X11_hasText : List (Nat × ix_Op) := [
  (0, ix_aload 0 1),
  (1, ix_getr 10 20 (fun _ => 113) 4),
  (4, ix_push (vi 152) 7),
  (7, ix_push (vi 52) 9),
  (9, ix_iload 1 10),
  (10, ix_bin (fun x y => x * y) 11),
  (11, ix_bin (fun x y => x + y) 12),
  (12, ix_iald 13),
  (13, ix_if (fun x => x ≤ 0) 20 16),
  (16, ix_push (vi 1) 17),
  (17, ix_goto 21),
  (20, ix_push (vi 0) 21),
  (21, ix_zret)]
set_option maxRecDepth 20000 in
theorem a_X11_hasText (l : Launch) : ix_AllS l cX11_hasText 2 RX11 1 (some .boolean) o_X11_hasText :=
  .cons (ix_s_aload_n dX11_hasText_0 rfl) <|
  .cons (ix_s_getr (j := 0) tu_X11 rfl (by decide) (by decide) tw_875 rfl ts_10_0_r dX11_hasText_1) <|
  .cons (ix_s_sipush dX11_hasText_4 (by decide +kernel)) <|
  .cons (ix_s_bipush dX11_hasText_7 (by decide +kernel)) <|
  .cons (ix_s_iload_n dX11_hasText_9 rfl) <|
  .cons (ix_s_imul dX11_hasText_10) <|
  .cons (ix_s_iadd dX11_hasText_11) <|
  .cons (ix_s_iald dX11_hasText_12) <|
  .cons (ix_s_if_le dX11_hasText_13 (by decide)) <|
  .cons (ix_s_iconst dX11_hasText_16 (by decide +kernel)) <|
  .cons (ix_s_goto dX11_hasText_17 (by decide)) <|
  .cons (ix_s_iconst dX11_hasText_20 (by decide +kernel)) <|
  .cons (ix_s_zret dX11_hasText_21 rfl) <| .nil
theorem e_X11_hasText_0 (Q : ix_R → Prop) (ls : ix_L) (st : List ix_V) (μ : ix_M) : ix_Ev o_X11_hasText Q (0, ls, st, μ) = ix_aload 0 1 (ix_Ev o_X11_hasText Q) Q ls st μ := ix_Ev.eq (a_X11_hasText launch0) rfl ls st μ
theorem e_X11_hasText_1 (Q : ix_R → Prop) (ls : ix_L) (st : List ix_V) (μ : ix_M) : ix_Ev o_X11_hasText Q (1, ls, st, μ) = ix_getr 10 20 (fun _ => 113) 4 (ix_Ev o_X11_hasText Q) Q ls st μ := ix_Ev.eq (a_X11_hasText launch0) rfl ls st μ
theorem e_X11_hasText_4 (Q : ix_R → Prop) (ls : ix_L) (st : List ix_V) (μ : ix_M) : ix_Ev o_X11_hasText Q (4, ls, st, μ) = ix_push (vi 152) 7 (ix_Ev o_X11_hasText Q) Q ls st μ := ix_Ev.eq (a_X11_hasText launch0) rfl ls st μ
theorem e_X11_hasText_7 (Q : ix_R → Prop) (ls : ix_L) (st : List ix_V) (μ : ix_M) : ix_Ev o_X11_hasText Q (7, ls, st, μ) = ix_push (vi 52) 9 (ix_Ev o_X11_hasText Q) Q ls st μ := ix_Ev.eq (a_X11_hasText launch0) rfl ls st μ
theorem e_X11_hasText_9 (Q : ix_R → Prop) (ls : ix_L) (st : List ix_V) (μ : ix_M) : ix_Ev o_X11_hasText Q (9, ls, st, μ) = ix_iload 1 10 (ix_Ev o_X11_hasText Q) Q ls st μ := ix_Ev.eq (a_X11_hasText launch0) rfl ls st μ
theorem e_X11_hasText_10 (Q : ix_R → Prop) (ls : ix_L) (st : List ix_V) (μ : ix_M) : ix_Ev o_X11_hasText Q (10, ls, st, μ) = ix_bin (fun x y => x * y) 11 (ix_Ev o_X11_hasText Q) Q ls st μ := ix_Ev.eq (a_X11_hasText launch0) rfl ls st μ
theorem e_X11_hasText_11 (Q : ix_R → Prop) (ls : ix_L) (st : List ix_V) (μ : ix_M) : ix_Ev o_X11_hasText Q (11, ls, st, μ) = ix_bin (fun x y => x + y) 12 (ix_Ev o_X11_hasText Q) Q ls st μ := ix_Ev.eq (a_X11_hasText launch0) rfl ls st μ
theorem e_X11_hasText_12 (Q : ix_R → Prop) (ls : ix_L) (st : List ix_V) (μ : ix_M) : ix_Ev o_X11_hasText Q (12, ls, st, μ) = ix_iald 13 (ix_Ev o_X11_hasText Q) Q ls st μ := ix_Ev.eq (a_X11_hasText launch0) rfl ls st μ
theorem e_X11_hasText_13 (Q : ix_R → Prop) (ls : ix_L) (st : List ix_V) (μ : ix_M) : ix_Ev o_X11_hasText Q (13, ls, st, μ) = ix_if (fun x => x ≤ 0) 20 16 (ix_Ev o_X11_hasText Q) Q ls st μ := ix_Ev.eq (a_X11_hasText launch0) rfl ls st μ
theorem e_X11_hasText_16 (Q : ix_R → Prop) (ls : ix_L) (st : List ix_V) (μ : ix_M) : ix_Ev o_X11_hasText Q (16, ls, st, μ) = ix_push (vi 1) 17 (ix_Ev o_X11_hasText Q) Q ls st μ := ix_Ev.eq (a_X11_hasText launch0) rfl ls st μ
theorem e_X11_hasText_17 (Q : ix_R → Prop) (ls : ix_L) (st : List ix_V) (μ : ix_M) : ix_Ev o_X11_hasText Q (17, ls, st, μ) = ix_goto 21 (ix_Ev o_X11_hasText Q) Q ls st μ := ix_Ev.eq (a_X11_hasText launch0) rfl ls st μ
theorem e_X11_hasText_20 (Q : ix_R → Prop) (ls : ix_L) (st : List ix_V) (μ : ix_M) : ix_Ev o_X11_hasText Q (20, ls, st, μ) = ix_push (vi 0) 21 (ix_Ev o_X11_hasText Q) Q ls st μ := ix_Ev.eq (a_X11_hasText launch0) rfl ls st μ
theorem e_X11_hasText_21 (Q : ix_R → Prop) (ls : ix_L) (st : List ix_V) (μ : ix_M) : ix_Ev o_X11_hasText Q (21, ls, st, μ) = ix_zret (ix_Ev o_X11_hasText Q) Q ls st μ := ix_Ev.eq (a_X11_hasText launch0) rfl ls st μ
theorem r_X11_hasText (o : Nat) (u : Int32) (μ : ix_M) (Q : ix_R → Prop) (ok_o : o < ix_N ∧ ix_tag o = 10) (hT : T_X11_hasText (o, u) μ Q) : ix_Ev o_X11_hasText Q (0, [some (vr 10 o), some (vi u)], [], μ) := by
  obtain rfl := ok_10 o ok_o.1 ok_o.2
  simp (decide := true) only [e_X11_hasText_0, e_X11_hasText_1, e_X11_hasText_4, e_X11_hasText_7, e_X11_hasText_9, e_X11_hasText_10, e_X11_hasText_11, e_X11_hasText_12, e_X11_hasText_13, e_X11_hasText_16, e_X11_hasText_17, e_X11_hasText_20, e_X11_hasText_21, vi, vl, vr, ix_push, ix_iload, ix_lload, ix_aload, ix_istore, ix_astore, ix_iinc, ix_bin, ix_div, ix_un, ix_i2l, ix_l2i, ix_lbin, ix_lsh, ix_lcmp, ix_dup, ix_dup2, ix_pop, ix_if, ix_cmp, ix_goto, ix_switch, ix_sw, ix_iret, ix_zret, ix_vret, ix_aret, ix_geti, ix_getr, ix_puti, ix_putz, ix_puts, ix_gets, ix_iald, ix_iast, ix_alen, ix_aald, ix_gval, ix_gcod, ix_bald, ix_blen, ix_sald, ix_nret, ix_math2, ix_math1, ix_acopy, ml_113, ml_114, ml_115, ml_116, ml_118, ml_119, ml_120, ml_121, ml_122, ml_123, ml_124, ml_125, ml_126, mv_0, mv_1, mv_2, mv_3, mv_4, mv_5, mB_or, Nat.add_assoc, Int32.reduceLT, Int32.reduceLE, Int32.reduceToNatClampNeg, Int32.reduceSub, Int32.reduceAdd, Nat.reduceAdd, Nat.reduceLeDiff, true_or, or_true, or_false, false_or, not_false_eq_true, not_true_eq_false, false_implies, true_implies, implies_true, and_self, mB_0, mB_01, Classical.not_not, Nat.zero_le, List.getElem?_cons_zero, List.getElem?_cons_succ, List.set_cons_zero, List.set_cons_succ, ix_nl, ix_cs, true_and, and_true, Option.toList_some, Option.toList_none, List.cons_append, List.nil_append]
  refine ⟨hT.1, ?_⟩
  have hT := hT.2
  simp only [T_X11_hasText, mB, vi, vl, vr] at hT
  repeat' (first | refine And.intro ?_ ?_ | intro _)
  all_goals (first | exact hT | (simp only [*, if_true, if_false, not_true_eq_false, not_false_eq_true, and_true, true_and, and_false, false_and, or_true, true_or, or_false, false_or, and_self, or_self] at hT; exact hT) | (simp only [← Int32.not_lt, Classical.not_not] at *; simp only [*, if_true, if_false, not_true_eq_false, not_false_eq_true, and_true, true_and, and_false, false_and, or_true, true_or, or_false, false_or, and_self, or_self] at hT; exact hT) | (simp_all; done))
theorem k_X11_hasText (l : Launch) : ix_Ct l yX11_hasText cX11_hasText 2 (some .boolean) 1 sh_X11_hasText T_X11_hasText := ix_ct (a_X11_hasText l) rfl (by decide) (fun _ => Nat.le_of_ble_eq_true rfl) (fun x μ Q hok hT => r_X11_hasText x.1 x.2 μ Q (ix_ok_at (hok (vr 10 x.1) (by simp [sh_X11_hasText])) (by decide) (by decide)) hT)
def nAbove (k : Int32) : Int32 := if k = 0 then -1 else if k = 4 then 1 else if k = 5 then 2 else if k = 6 then 3 else 0
def T_X11_above : Int32 → ix_M → (ix_R → Prop) → Prop := fun k μ Q => Q (some (vi (nAbove k)), μ)
def sh_X11_above (x : Int32) : List ix_V := [vi x]
theorem mo_X11_above (x : Int32) (μ : ix_M) (Q Q' : ix_R → Prop) (h : ∀ r, Q r → Q' r) (hT : T_X11_above x μ Q) : T_X11_above x μ Q' := by
  first | exact h _ hT | exact ⟨hT.1, h _ hT.2⟩ | exact fun r hr => h _ (hT r hr) | exact ⟨hT.1, fun r hr => h _ (hT.2 r hr)⟩ | exact ⟨hT.1, hT.2.1, fun r hr => h _ (hT.2.2 r hr)⟩
def oc_X11_above (n : Nat) : ix_Op := fun k _ ls st μ => match st with
  | .inl a0 :: r => ix_cs r ≤ 8 ∧ T_X11_above a0 μ (fun q => k (n, ls, q.1.toList ++ r, q.2))
  | _ => False
theorem oc_X11_above_s {l : Launch} {cc : ByteArray} {nL : Nat} {own : String} {d : Nat} {rt : Option FieldType} {pc n : Nat} (h : ix_S l cc nL own d rt pc (ix_call 1 sh_X11_above T_X11_above n)) : ix_S l cc nL own d rt pc (oc_X11_above n) := by
  refine h.by (fun k Q ls st μ h => ?_) (fun k k' Q ls st μ hk h => ?_)
  · unfold oc_X11_above at h
    split at h
    · rename_i a0 r
      obtain ⟨h1, h2⟩ := h
      exact ⟨h1, a0, rfl, _, h2, fun r h => h⟩
    · exact h.elim
  · unfold oc_X11_above at h ⊢
    split at h
    · obtain ⟨h1, h2⟩ := h
      exact ⟨h1, mo_X11_above _ _ _ _ (fun q hq => hk _ hq) h2⟩
    · exact h.elim
def o_X11_above : List (Nat × ix_Op) := [
  (0, ix_iload 0 1),
  (1, ix_if (fun x => x = 0) 4 8),
  (4, ix_push (vi (-1)) 5),
  (5, ix_goto 37),
  (8, ix_iload 0 9),
  (9, ix_push (vi 4) 10),
  (10, ix_cmp (fun x y => x = y) 13 17),
  (13, ix_push (vi 1) 14),
  (14, ix_goto 37),
  (17, ix_iload 0 18),
  (18, ix_push (vi 5) 19),
  (19, ix_cmp (fun x y => x = y) 22 26),
  (22, ix_push (vi 2) 23),
  (23, ix_goto 37),
  (26, ix_iload 0 27),
  (27, ix_push (vi 6) 29),
  (29, ix_cmp (fun x y => x = y) 32 36),
  (32, ix_push (vi 3) 33),
  (33, ix_goto 37),
  (36, ix_push (vi 0) 37),
  (37, ix_iret)]
set_option maxRecDepth 20000 in
theorem a_X11_above (l : Launch) : ix_AllS l cX11_above 1 RX11 1 (some .int) o_X11_above :=
  .cons (ix_s_iload_n dX11_above_0 rfl) <|
  .cons (ix_s_if_ne dX11_above_1 (by decide)) <|
  .cons (ix_s_iconst dX11_above_4 (by decide +kernel)) <|
  .cons (ix_s_goto dX11_above_5 (by decide)) <|
  .cons (ix_s_iload_n dX11_above_8 rfl) <|
  .cons (ix_s_iconst dX11_above_9 (by decide +kernel)) <|
  .cons (ix_s_cmp_ne dX11_above_10 (by decide)) <|
  .cons (ix_s_iconst dX11_above_13 (by decide +kernel)) <|
  .cons (ix_s_goto dX11_above_14 (by decide)) <|
  .cons (ix_s_iload_n dX11_above_17 rfl) <|
  .cons (ix_s_iconst dX11_above_18 (by decide +kernel)) <|
  .cons (ix_s_cmp_ne dX11_above_19 (by decide)) <|
  .cons (ix_s_iconst dX11_above_22 (by decide +kernel)) <|
  .cons (ix_s_goto dX11_above_23 (by decide)) <|
  .cons (ix_s_iload_n dX11_above_26 rfl) <|
  .cons (ix_s_bipush dX11_above_27 (by decide +kernel)) <|
  .cons (ix_s_cmp_ne dX11_above_29 (by decide)) <|
  .cons (ix_s_iconst dX11_above_32 (by decide +kernel)) <|
  .cons (ix_s_goto dX11_above_33 (by decide)) <|
  .cons (ix_s_iconst dX11_above_36 (by decide +kernel)) <|
  .cons (ix_s_iret dX11_above_37 rfl) <| .nil
theorem e_X11_above_0 (Q : ix_R → Prop) (ls : ix_L) (st : List ix_V) (μ : ix_M) : ix_Ev o_X11_above Q (0, ls, st, μ) = ix_iload 0 1 (ix_Ev o_X11_above Q) Q ls st μ := ix_Ev.eq (a_X11_above launch0) rfl ls st μ
theorem e_X11_above_1 (Q : ix_R → Prop) (ls : ix_L) (st : List ix_V) (μ : ix_M) : ix_Ev o_X11_above Q (1, ls, st, μ) = ix_if (fun x => x = 0) 4 8 (ix_Ev o_X11_above Q) Q ls st μ := ix_Ev.eq (a_X11_above launch0) rfl ls st μ
theorem e_X11_above_4 (Q : ix_R → Prop) (ls : ix_L) (st : List ix_V) (μ : ix_M) : ix_Ev o_X11_above Q (4, ls, st, μ) = ix_push (vi (-1)) 5 (ix_Ev o_X11_above Q) Q ls st μ := ix_Ev.eq (a_X11_above launch0) rfl ls st μ
theorem e_X11_above_5 (Q : ix_R → Prop) (ls : ix_L) (st : List ix_V) (μ : ix_M) : ix_Ev o_X11_above Q (5, ls, st, μ) = ix_goto 37 (ix_Ev o_X11_above Q) Q ls st μ := ix_Ev.eq (a_X11_above launch0) rfl ls st μ
theorem e_X11_above_8 (Q : ix_R → Prop) (ls : ix_L) (st : List ix_V) (μ : ix_M) : ix_Ev o_X11_above Q (8, ls, st, μ) = ix_iload 0 9 (ix_Ev o_X11_above Q) Q ls st μ := ix_Ev.eq (a_X11_above launch0) rfl ls st μ
theorem e_X11_above_9 (Q : ix_R → Prop) (ls : ix_L) (st : List ix_V) (μ : ix_M) : ix_Ev o_X11_above Q (9, ls, st, μ) = ix_push (vi 4) 10 (ix_Ev o_X11_above Q) Q ls st μ := ix_Ev.eq (a_X11_above launch0) rfl ls st μ
theorem e_X11_above_10 (Q : ix_R → Prop) (ls : ix_L) (st : List ix_V) (μ : ix_M) : ix_Ev o_X11_above Q (10, ls, st, μ) = ix_cmp (fun x y => x = y) 13 17 (ix_Ev o_X11_above Q) Q ls st μ := ix_Ev.eq (a_X11_above launch0) rfl ls st μ
theorem e_X11_above_13 (Q : ix_R → Prop) (ls : ix_L) (st : List ix_V) (μ : ix_M) : ix_Ev o_X11_above Q (13, ls, st, μ) = ix_push (vi 1) 14 (ix_Ev o_X11_above Q) Q ls st μ := ix_Ev.eq (a_X11_above launch0) rfl ls st μ
theorem e_X11_above_14 (Q : ix_R → Prop) (ls : ix_L) (st : List ix_V) (μ : ix_M) : ix_Ev o_X11_above Q (14, ls, st, μ) = ix_goto 37 (ix_Ev o_X11_above Q) Q ls st μ := ix_Ev.eq (a_X11_above launch0) rfl ls st μ
theorem e_X11_above_17 (Q : ix_R → Prop) (ls : ix_L) (st : List ix_V) (μ : ix_M) : ix_Ev o_X11_above Q (17, ls, st, μ) = ix_iload 0 18 (ix_Ev o_X11_above Q) Q ls st μ := ix_Ev.eq (a_X11_above launch0) rfl ls st μ
theorem e_X11_above_18 (Q : ix_R → Prop) (ls : ix_L) (st : List ix_V) (μ : ix_M) : ix_Ev o_X11_above Q (18, ls, st, μ) = ix_push (vi 5) 19 (ix_Ev o_X11_above Q) Q ls st μ := ix_Ev.eq (a_X11_above launch0) rfl ls st μ
theorem e_X11_above_19 (Q : ix_R → Prop) (ls : ix_L) (st : List ix_V) (μ : ix_M) : ix_Ev o_X11_above Q (19, ls, st, μ) = ix_cmp (fun x y => x = y) 22 26 (ix_Ev o_X11_above Q) Q ls st μ := ix_Ev.eq (a_X11_above launch0) rfl ls st μ
theorem e_X11_above_22 (Q : ix_R → Prop) (ls : ix_L) (st : List ix_V) (μ : ix_M) : ix_Ev o_X11_above Q (22, ls, st, μ) = ix_push (vi 2) 23 (ix_Ev o_X11_above Q) Q ls st μ := ix_Ev.eq (a_X11_above launch0) rfl ls st μ
theorem e_X11_above_23 (Q : ix_R → Prop) (ls : ix_L) (st : List ix_V) (μ : ix_M) : ix_Ev o_X11_above Q (23, ls, st, μ) = ix_goto 37 (ix_Ev o_X11_above Q) Q ls st μ := ix_Ev.eq (a_X11_above launch0) rfl ls st μ
theorem e_X11_above_26 (Q : ix_R → Prop) (ls : ix_L) (st : List ix_V) (μ : ix_M) : ix_Ev o_X11_above Q (26, ls, st, μ) = ix_iload 0 27 (ix_Ev o_X11_above Q) Q ls st μ := ix_Ev.eq (a_X11_above launch0) rfl ls st μ
theorem e_X11_above_27 (Q : ix_R → Prop) (ls : ix_L) (st : List ix_V) (μ : ix_M) : ix_Ev o_X11_above Q (27, ls, st, μ) = ix_push (vi 6) 29 (ix_Ev o_X11_above Q) Q ls st μ := ix_Ev.eq (a_X11_above launch0) rfl ls st μ
theorem e_X11_above_29 (Q : ix_R → Prop) (ls : ix_L) (st : List ix_V) (μ : ix_M) : ix_Ev o_X11_above Q (29, ls, st, μ) = ix_cmp (fun x y => x = y) 32 36 (ix_Ev o_X11_above Q) Q ls st μ := ix_Ev.eq (a_X11_above launch0) rfl ls st μ
theorem e_X11_above_32 (Q : ix_R → Prop) (ls : ix_L) (st : List ix_V) (μ : ix_M) : ix_Ev o_X11_above Q (32, ls, st, μ) = ix_push (vi 3) 33 (ix_Ev o_X11_above Q) Q ls st μ := ix_Ev.eq (a_X11_above launch0) rfl ls st μ
theorem e_X11_above_33 (Q : ix_R → Prop) (ls : ix_L) (st : List ix_V) (μ : ix_M) : ix_Ev o_X11_above Q (33, ls, st, μ) = ix_goto 37 (ix_Ev o_X11_above Q) Q ls st μ := ix_Ev.eq (a_X11_above launch0) rfl ls st μ
theorem e_X11_above_36 (Q : ix_R → Prop) (ls : ix_L) (st : List ix_V) (μ : ix_M) : ix_Ev o_X11_above Q (36, ls, st, μ) = ix_push (vi 0) 37 (ix_Ev o_X11_above Q) Q ls st μ := ix_Ev.eq (a_X11_above launch0) rfl ls st μ
theorem e_X11_above_37 (Q : ix_R → Prop) (ls : ix_L) (st : List ix_V) (μ : ix_M) : ix_Ev o_X11_above Q (37, ls, st, μ) = ix_iret (ix_Ev o_X11_above Q) Q ls st μ := ix_Ev.eq (a_X11_above launch0) rfl ls st μ
theorem r_X11_above (k : Int32) (μ : ix_M) (Q : ix_R → Prop) (hT : T_X11_above k μ Q) : ix_Ev o_X11_above Q (0, [some (vi k)], [], μ) := by
  simp (decide := true) only [e_X11_above_0, e_X11_above_1, e_X11_above_4, e_X11_above_5, e_X11_above_8, e_X11_above_9, e_X11_above_10, e_X11_above_13, e_X11_above_14, e_X11_above_17, e_X11_above_18, e_X11_above_19, e_X11_above_22, e_X11_above_23, e_X11_above_26, e_X11_above_27, e_X11_above_29, e_X11_above_32, e_X11_above_33, e_X11_above_36, e_X11_above_37, vi, vl, vr, ix_push, ix_iload, ix_lload, ix_aload, ix_istore, ix_astore, ix_iinc, ix_bin, ix_div, ix_un, ix_i2l, ix_l2i, ix_lbin, ix_lsh, ix_lcmp, ix_dup, ix_dup2, ix_pop, ix_if, ix_cmp, ix_goto, ix_switch, ix_sw, ix_iret, ix_zret, ix_vret, ix_aret, ix_geti, ix_getr, ix_puti, ix_putz, ix_puts, ix_gets, ix_iald, ix_iast, ix_alen, ix_aald, ix_gval, ix_gcod, ix_bald, ix_blen, ix_sald, ix_nret, ix_math2, ix_math1, ix_acopy, ml_113, ml_114, ml_115, ml_116, ml_118, ml_119, ml_120, ml_121, ml_122, ml_123, ml_124, ml_125, ml_126, mv_0, mv_1, mv_2, mv_3, mv_4, mv_5, mB_or, Nat.add_assoc, Int32.reduceLT, Int32.reduceLE, Int32.reduceToNatClampNeg, Int32.reduceSub, Int32.reduceAdd, Nat.reduceAdd, Nat.reduceLeDiff, true_or, or_true, or_false, false_or, not_false_eq_true, not_true_eq_false, false_implies, true_implies, implies_true, and_self, mB_0, mB_01, Classical.not_not, Nat.zero_le, List.getElem?_cons_zero, List.getElem?_cons_succ, List.set_cons_zero, List.set_cons_succ, ix_nl, ix_cs, true_and, and_true, Option.toList_some, Option.toList_none, List.cons_append, List.nil_append]
  simp only [T_X11_above, nAbove, vi, vl, vr] at hT
  repeat' (first | refine And.intro ?_ ?_ | intro _)
  all_goals (first | exact hT | (simp only [*, if_true, if_false, not_true_eq_false, not_false_eq_true, and_true, true_and, and_false, false_and, or_true, true_or, or_false, false_or, and_self, or_self] at hT; exact hT) | (simp only [← Int32.not_lt, Classical.not_not] at *; simp only [*, if_true, if_false, not_true_eq_false, not_false_eq_true, and_true, true_and, and_false, false_and, or_true, true_or, or_false, false_or, and_self, or_self] at hT; exact hT) | (simp_all; done))
theorem k_X11_above (l : Launch) : ix_Ct l yX11_above cX11_above 1 (some .int) 1 sh_X11_above T_X11_above := ix_ct (a_X11_above l) rfl (by decide) (fun _ => Nat.le_of_ble_eq_true rfl) (fun x μ Q hok hT => r_X11_above x μ Q  hT)
def nNext (c w : Int32) : Int32 := if w = 1 then (if 4 ≤ c then c - 4 else c) else if w = 2 then (if c - c / 4 * 4 = 3 then c else c + 1) else if w = 3 then (if c ≤ 11 then c + 4 else c) else if w = 4 then (if c - c / 4 * 4 = 0 then c else c - 1) else c
def T_X11_next : Int32 × Int32 → ix_M → (ix_R → Prop) → Prop := fun (c, w) μ Q => Q (some (vi (nNext c w)), μ)
def sh_X11_next (x : Int32 × Int32) : List ix_V := [vi x.1, vi x.2]
theorem mo_X11_next (x : Int32 × Int32) (μ : ix_M) (Q Q' : ix_R → Prop) (h : ∀ r, Q r → Q' r) (hT : T_X11_next x μ Q) : T_X11_next x μ Q' := by
  obtain ⟨a0, a1⟩ := x
  first | exact h _ hT | exact ⟨hT.1, h _ hT.2⟩ | exact fun r hr => h _ (hT r hr) | exact ⟨hT.1, fun r hr => h _ (hT.2 r hr)⟩ | exact ⟨hT.1, hT.2.1, fun r hr => h _ (hT.2.2 r hr)⟩
def oc_X11_next (n : Nat) : ix_Op := fun k _ ls st μ => match st with
  | .inl a1 :: .inl a0 :: r => ix_cs r ≤ 8 ∧ T_X11_next (a0, a1) μ (fun q => k (n, ls, q.1.toList ++ r, q.2))
  | _ => False
theorem oc_X11_next_s {l : Launch} {cc : ByteArray} {nL : Nat} {own : String} {d : Nat} {rt : Option FieldType} {pc n : Nat} (h : ix_S l cc nL own d rt pc (ix_call 2 sh_X11_next T_X11_next n)) : ix_S l cc nL own d rt pc (oc_X11_next n) := by
  refine h.by (fun k Q ls st μ h => ?_) (fun k k' Q ls st μ hk h => ?_)
  · unfold oc_X11_next at h
    split at h
    · rename_i a1 a0 r
      obtain ⟨h1, h2⟩ := h
      exact ⟨h1, (a0, a1), rfl, _, h2, fun r h => h⟩
    · exact h.elim
  · unfold oc_X11_next at h ⊢
    split at h
    · obtain ⟨h1, h2⟩ := h
      exact ⟨h1, mo_X11_next _ _ _ _ (fun q hq => hk _ hq) h2⟩
    · exact h.elim
def o_X11_next : List (Nat × ix_Op) := [
  (0, ix_iload 1 1),
  (1, ix_switch [(1, 32), (2, 45), (3, 60), (4, 74)] 88),
  (32, ix_iload 0 33),
  (33, ix_push (vi 4) 34),
  (34, ix_cmp (fun x y => y ≤ x) 41 37),
  (37, ix_iload 0 38),
  (38, ix_goto 44),
  (41, ix_iload 0 42),
  (42, ix_push (vi 4) 43),
  (43, ix_bin (fun x y => x - y) 44),
  (44, ix_iret),
  (45, ix_iload 0 46),
  (46, ix_push (vi 4) 47),
  (47, ix_div (fun x y => x - x / y * y) 48),
  (48, ix_push (vi 3) 49),
  (49, ix_cmp (fun x y => x = y) 52 56),
  (52, ix_iload 0 53),
  (53, ix_goto 59),
  (56, ix_iload 0 57),
  (57, ix_push (vi 1) 58),
  (58, ix_bin (fun x y => x + y) 59),
  (59, ix_iret),
  (60, ix_iload 0 61),
  (61, ix_push (vi 11) 63),
  (63, ix_cmp (fun x y => x ≤ y) 70 66),
  (66, ix_iload 0 67),
  (67, ix_goto 73),
  (70, ix_iload 0 71),
  (71, ix_push (vi 4) 72),
  (72, ix_bin (fun x y => x + y) 73),
  (73, ix_iret),
  (74, ix_iload 0 75),
  (75, ix_push (vi 4) 76),
  (76, ix_div (fun x y => x - x / y * y) 77),
  (77, ix_if (fun x => x = 0) 80 84),
  (80, ix_iload 0 81),
  (81, ix_goto 87),
  (84, ix_iload 0 85),
  (85, ix_push (vi 1) 86),
  (86, ix_bin (fun x y => x - y) 87),
  (87, ix_iret),
  (88, ix_iload 0 89),
  (89, ix_iret)]
set_option maxRecDepth 20000 in
theorem a_X11_next (l : Launch) : ix_AllS l cX11_next 2 RX11 1 (some .int) o_X11_next :=
  .cons (ix_s_iload_n dX11_next_0 rfl) <|
  .cons (ix_s_tab dX11_next_1 (by decide) (by decide +kernel) (by decide +kernel)) <|
  .cons (ix_s_iload_n dX11_next_32 rfl) <|
  .cons (ix_s_iconst dX11_next_33 (by decide +kernel)) <|
  .cons (ix_s_cmp_ge dX11_next_34 (by decide)) <|
  .cons (ix_s_iload_n dX11_next_37 rfl) <|
  .cons (ix_s_goto dX11_next_38 (by decide)) <|
  .cons (ix_s_iload_n dX11_next_41 rfl) <|
  .cons (ix_s_iconst dX11_next_42 (by decide +kernel)) <|
  .cons (ix_s_isub dX11_next_43) <|
  .cons (ix_s_iret dX11_next_44 rfl) <|
  .cons (ix_s_iload_n dX11_next_45 rfl) <|
  .cons (ix_s_iconst dX11_next_46 (by decide +kernel)) <|
  .cons (ix_s_irem dX11_next_47) <|
  .cons (ix_s_iconst dX11_next_48 (by decide +kernel)) <|
  .cons (ix_s_cmp_ne dX11_next_49 (by decide)) <|
  .cons (ix_s_iload_n dX11_next_52 rfl) <|
  .cons (ix_s_goto dX11_next_53 (by decide)) <|
  .cons (ix_s_iload_n dX11_next_56 rfl) <|
  .cons (ix_s_iconst dX11_next_57 (by decide +kernel)) <|
  .cons (ix_s_iadd dX11_next_58) <|
  .cons (ix_s_iret dX11_next_59 rfl) <|
  .cons (ix_s_iload_n dX11_next_60 rfl) <|
  .cons (ix_s_bipush dX11_next_61 (by decide +kernel)) <|
  .cons (ix_s_cmp_le dX11_next_63 (by decide)) <|
  .cons (ix_s_iload_n dX11_next_66 rfl) <|
  .cons (ix_s_goto dX11_next_67 (by decide)) <|
  .cons (ix_s_iload_n dX11_next_70 rfl) <|
  .cons (ix_s_iconst dX11_next_71 (by decide +kernel)) <|
  .cons (ix_s_iadd dX11_next_72) <|
  .cons (ix_s_iret dX11_next_73 rfl) <|
  .cons (ix_s_iload_n dX11_next_74 rfl) <|
  .cons (ix_s_iconst dX11_next_75 (by decide +kernel)) <|
  .cons (ix_s_irem dX11_next_76) <|
  .cons (ix_s_if_ne dX11_next_77 (by decide)) <|
  .cons (ix_s_iload_n dX11_next_80 rfl) <|
  .cons (ix_s_goto dX11_next_81 (by decide)) <|
  .cons (ix_s_iload_n dX11_next_84 rfl) <|
  .cons (ix_s_iconst dX11_next_85 (by decide +kernel)) <|
  .cons (ix_s_isub dX11_next_86) <|
  .cons (ix_s_iret dX11_next_87 rfl) <|
  .cons (ix_s_iload_n dX11_next_88 rfl) <|
  .cons (ix_s_iret dX11_next_89 rfl) <| .nil
theorem e_X11_next_0 (Q : ix_R → Prop) (ls : ix_L) (st : List ix_V) (μ : ix_M) : ix_Ev o_X11_next Q (0, ls, st, μ) = ix_iload 1 1 (ix_Ev o_X11_next Q) Q ls st μ := ix_Ev.eq (a_X11_next launch0) rfl ls st μ
theorem e_X11_next_1 (Q : ix_R → Prop) (ls : ix_L) (st : List ix_V) (μ : ix_M) : ix_Ev o_X11_next Q (1, ls, st, μ) = ix_switch [(1, 32), (2, 45), (3, 60), (4, 74)] 88 (ix_Ev o_X11_next Q) Q ls st μ := ix_Ev.eq (a_X11_next launch0) rfl ls st μ
theorem e_X11_next_32 (Q : ix_R → Prop) (ls : ix_L) (st : List ix_V) (μ : ix_M) : ix_Ev o_X11_next Q (32, ls, st, μ) = ix_iload 0 33 (ix_Ev o_X11_next Q) Q ls st μ := ix_Ev.eq (a_X11_next launch0) rfl ls st μ
theorem e_X11_next_33 (Q : ix_R → Prop) (ls : ix_L) (st : List ix_V) (μ : ix_M) : ix_Ev o_X11_next Q (33, ls, st, μ) = ix_push (vi 4) 34 (ix_Ev o_X11_next Q) Q ls st μ := ix_Ev.eq (a_X11_next launch0) rfl ls st μ
theorem e_X11_next_34 (Q : ix_R → Prop) (ls : ix_L) (st : List ix_V) (μ : ix_M) : ix_Ev o_X11_next Q (34, ls, st, μ) = ix_cmp (fun x y => y ≤ x) 41 37 (ix_Ev o_X11_next Q) Q ls st μ := ix_Ev.eq (a_X11_next launch0) rfl ls st μ
theorem e_X11_next_37 (Q : ix_R → Prop) (ls : ix_L) (st : List ix_V) (μ : ix_M) : ix_Ev o_X11_next Q (37, ls, st, μ) = ix_iload 0 38 (ix_Ev o_X11_next Q) Q ls st μ := ix_Ev.eq (a_X11_next launch0) rfl ls st μ
theorem e_X11_next_38 (Q : ix_R → Prop) (ls : ix_L) (st : List ix_V) (μ : ix_M) : ix_Ev o_X11_next Q (38, ls, st, μ) = ix_goto 44 (ix_Ev o_X11_next Q) Q ls st μ := ix_Ev.eq (a_X11_next launch0) rfl ls st μ
theorem e_X11_next_41 (Q : ix_R → Prop) (ls : ix_L) (st : List ix_V) (μ : ix_M) : ix_Ev o_X11_next Q (41, ls, st, μ) = ix_iload 0 42 (ix_Ev o_X11_next Q) Q ls st μ := ix_Ev.eq (a_X11_next launch0) rfl ls st μ
theorem e_X11_next_42 (Q : ix_R → Prop) (ls : ix_L) (st : List ix_V) (μ : ix_M) : ix_Ev o_X11_next Q (42, ls, st, μ) = ix_push (vi 4) 43 (ix_Ev o_X11_next Q) Q ls st μ := ix_Ev.eq (a_X11_next launch0) rfl ls st μ
theorem e_X11_next_43 (Q : ix_R → Prop) (ls : ix_L) (st : List ix_V) (μ : ix_M) : ix_Ev o_X11_next Q (43, ls, st, μ) = ix_bin (fun x y => x - y) 44 (ix_Ev o_X11_next Q) Q ls st μ := ix_Ev.eq (a_X11_next launch0) rfl ls st μ
theorem e_X11_next_44 (Q : ix_R → Prop) (ls : ix_L) (st : List ix_V) (μ : ix_M) : ix_Ev o_X11_next Q (44, ls, st, μ) = ix_iret (ix_Ev o_X11_next Q) Q ls st μ := ix_Ev.eq (a_X11_next launch0) rfl ls st μ
theorem e_X11_next_45 (Q : ix_R → Prop) (ls : ix_L) (st : List ix_V) (μ : ix_M) : ix_Ev o_X11_next Q (45, ls, st, μ) = ix_iload 0 46 (ix_Ev o_X11_next Q) Q ls st μ := ix_Ev.eq (a_X11_next launch0) rfl ls st μ
theorem e_X11_next_46 (Q : ix_R → Prop) (ls : ix_L) (st : List ix_V) (μ : ix_M) : ix_Ev o_X11_next Q (46, ls, st, μ) = ix_push (vi 4) 47 (ix_Ev o_X11_next Q) Q ls st μ := ix_Ev.eq (a_X11_next launch0) rfl ls st μ
theorem e_X11_next_47 (Q : ix_R → Prop) (ls : ix_L) (st : List ix_V) (μ : ix_M) : ix_Ev o_X11_next Q (47, ls, st, μ) = ix_div (fun x y => x - x / y * y) 48 (ix_Ev o_X11_next Q) Q ls st μ := ix_Ev.eq (a_X11_next launch0) rfl ls st μ
theorem e_X11_next_48 (Q : ix_R → Prop) (ls : ix_L) (st : List ix_V) (μ : ix_M) : ix_Ev o_X11_next Q (48, ls, st, μ) = ix_push (vi 3) 49 (ix_Ev o_X11_next Q) Q ls st μ := ix_Ev.eq (a_X11_next launch0) rfl ls st μ
theorem e_X11_next_49 (Q : ix_R → Prop) (ls : ix_L) (st : List ix_V) (μ : ix_M) : ix_Ev o_X11_next Q (49, ls, st, μ) = ix_cmp (fun x y => x = y) 52 56 (ix_Ev o_X11_next Q) Q ls st μ := ix_Ev.eq (a_X11_next launch0) rfl ls st μ
theorem e_X11_next_52 (Q : ix_R → Prop) (ls : ix_L) (st : List ix_V) (μ : ix_M) : ix_Ev o_X11_next Q (52, ls, st, μ) = ix_iload 0 53 (ix_Ev o_X11_next Q) Q ls st μ := ix_Ev.eq (a_X11_next launch0) rfl ls st μ
theorem e_X11_next_53 (Q : ix_R → Prop) (ls : ix_L) (st : List ix_V) (μ : ix_M) : ix_Ev o_X11_next Q (53, ls, st, μ) = ix_goto 59 (ix_Ev o_X11_next Q) Q ls st μ := ix_Ev.eq (a_X11_next launch0) rfl ls st μ
theorem e_X11_next_56 (Q : ix_R → Prop) (ls : ix_L) (st : List ix_V) (μ : ix_M) : ix_Ev o_X11_next Q (56, ls, st, μ) = ix_iload 0 57 (ix_Ev o_X11_next Q) Q ls st μ := ix_Ev.eq (a_X11_next launch0) rfl ls st μ
theorem e_X11_next_57 (Q : ix_R → Prop) (ls : ix_L) (st : List ix_V) (μ : ix_M) : ix_Ev o_X11_next Q (57, ls, st, μ) = ix_push (vi 1) 58 (ix_Ev o_X11_next Q) Q ls st μ := ix_Ev.eq (a_X11_next launch0) rfl ls st μ
theorem e_X11_next_58 (Q : ix_R → Prop) (ls : ix_L) (st : List ix_V) (μ : ix_M) : ix_Ev o_X11_next Q (58, ls, st, μ) = ix_bin (fun x y => x + y) 59 (ix_Ev o_X11_next Q) Q ls st μ := ix_Ev.eq (a_X11_next launch0) rfl ls st μ
theorem e_X11_next_59 (Q : ix_R → Prop) (ls : ix_L) (st : List ix_V) (μ : ix_M) : ix_Ev o_X11_next Q (59, ls, st, μ) = ix_iret (ix_Ev o_X11_next Q) Q ls st μ := ix_Ev.eq (a_X11_next launch0) rfl ls st μ
theorem e_X11_next_60 (Q : ix_R → Prop) (ls : ix_L) (st : List ix_V) (μ : ix_M) : ix_Ev o_X11_next Q (60, ls, st, μ) = ix_iload 0 61 (ix_Ev o_X11_next Q) Q ls st μ := ix_Ev.eq (a_X11_next launch0) rfl ls st μ
theorem e_X11_next_61 (Q : ix_R → Prop) (ls : ix_L) (st : List ix_V) (μ : ix_M) : ix_Ev o_X11_next Q (61, ls, st, μ) = ix_push (vi 11) 63 (ix_Ev o_X11_next Q) Q ls st μ := ix_Ev.eq (a_X11_next launch0) rfl ls st μ
theorem e_X11_next_63 (Q : ix_R → Prop) (ls : ix_L) (st : List ix_V) (μ : ix_M) : ix_Ev o_X11_next Q (63, ls, st, μ) = ix_cmp (fun x y => x ≤ y) 70 66 (ix_Ev o_X11_next Q) Q ls st μ := ix_Ev.eq (a_X11_next launch0) rfl ls st μ
theorem e_X11_next_66 (Q : ix_R → Prop) (ls : ix_L) (st : List ix_V) (μ : ix_M) : ix_Ev o_X11_next Q (66, ls, st, μ) = ix_iload 0 67 (ix_Ev o_X11_next Q) Q ls st μ := ix_Ev.eq (a_X11_next launch0) rfl ls st μ
theorem e_X11_next_67 (Q : ix_R → Prop) (ls : ix_L) (st : List ix_V) (μ : ix_M) : ix_Ev o_X11_next Q (67, ls, st, μ) = ix_goto 73 (ix_Ev o_X11_next Q) Q ls st μ := ix_Ev.eq (a_X11_next launch0) rfl ls st μ
theorem e_X11_next_70 (Q : ix_R → Prop) (ls : ix_L) (st : List ix_V) (μ : ix_M) : ix_Ev o_X11_next Q (70, ls, st, μ) = ix_iload 0 71 (ix_Ev o_X11_next Q) Q ls st μ := ix_Ev.eq (a_X11_next launch0) rfl ls st μ
theorem e_X11_next_71 (Q : ix_R → Prop) (ls : ix_L) (st : List ix_V) (μ : ix_M) : ix_Ev o_X11_next Q (71, ls, st, μ) = ix_push (vi 4) 72 (ix_Ev o_X11_next Q) Q ls st μ := ix_Ev.eq (a_X11_next launch0) rfl ls st μ
theorem e_X11_next_72 (Q : ix_R → Prop) (ls : ix_L) (st : List ix_V) (μ : ix_M) : ix_Ev o_X11_next Q (72, ls, st, μ) = ix_bin (fun x y => x + y) 73 (ix_Ev o_X11_next Q) Q ls st μ := ix_Ev.eq (a_X11_next launch0) rfl ls st μ
theorem e_X11_next_73 (Q : ix_R → Prop) (ls : ix_L) (st : List ix_V) (μ : ix_M) : ix_Ev o_X11_next Q (73, ls, st, μ) = ix_iret (ix_Ev o_X11_next Q) Q ls st μ := ix_Ev.eq (a_X11_next launch0) rfl ls st μ
theorem e_X11_next_74 (Q : ix_R → Prop) (ls : ix_L) (st : List ix_V) (μ : ix_M) : ix_Ev o_X11_next Q (74, ls, st, μ) = ix_iload 0 75 (ix_Ev o_X11_next Q) Q ls st μ := ix_Ev.eq (a_X11_next launch0) rfl ls st μ
theorem e_X11_next_75 (Q : ix_R → Prop) (ls : ix_L) (st : List ix_V) (μ : ix_M) : ix_Ev o_X11_next Q (75, ls, st, μ) = ix_push (vi 4) 76 (ix_Ev o_X11_next Q) Q ls st μ := ix_Ev.eq (a_X11_next launch0) rfl ls st μ
theorem e_X11_next_76 (Q : ix_R → Prop) (ls : ix_L) (st : List ix_V) (μ : ix_M) : ix_Ev o_X11_next Q (76, ls, st, μ) = ix_div (fun x y => x - x / y * y) 77 (ix_Ev o_X11_next Q) Q ls st μ := ix_Ev.eq (a_X11_next launch0) rfl ls st μ
theorem e_X11_next_77 (Q : ix_R → Prop) (ls : ix_L) (st : List ix_V) (μ : ix_M) : ix_Ev o_X11_next Q (77, ls, st, μ) = ix_if (fun x => x = 0) 80 84 (ix_Ev o_X11_next Q) Q ls st μ := ix_Ev.eq (a_X11_next launch0) rfl ls st μ
theorem e_X11_next_80 (Q : ix_R → Prop) (ls : ix_L) (st : List ix_V) (μ : ix_M) : ix_Ev o_X11_next Q (80, ls, st, μ) = ix_iload 0 81 (ix_Ev o_X11_next Q) Q ls st μ := ix_Ev.eq (a_X11_next launch0) rfl ls st μ
theorem e_X11_next_81 (Q : ix_R → Prop) (ls : ix_L) (st : List ix_V) (μ : ix_M) : ix_Ev o_X11_next Q (81, ls, st, μ) = ix_goto 87 (ix_Ev o_X11_next Q) Q ls st μ := ix_Ev.eq (a_X11_next launch0) rfl ls st μ
theorem e_X11_next_84 (Q : ix_R → Prop) (ls : ix_L) (st : List ix_V) (μ : ix_M) : ix_Ev o_X11_next Q (84, ls, st, μ) = ix_iload 0 85 (ix_Ev o_X11_next Q) Q ls st μ := ix_Ev.eq (a_X11_next launch0) rfl ls st μ
theorem e_X11_next_85 (Q : ix_R → Prop) (ls : ix_L) (st : List ix_V) (μ : ix_M) : ix_Ev o_X11_next Q (85, ls, st, μ) = ix_push (vi 1) 86 (ix_Ev o_X11_next Q) Q ls st μ := ix_Ev.eq (a_X11_next launch0) rfl ls st μ
theorem e_X11_next_86 (Q : ix_R → Prop) (ls : ix_L) (st : List ix_V) (μ : ix_M) : ix_Ev o_X11_next Q (86, ls, st, μ) = ix_bin (fun x y => x - y) 87 (ix_Ev o_X11_next Q) Q ls st μ := ix_Ev.eq (a_X11_next launch0) rfl ls st μ
theorem e_X11_next_87 (Q : ix_R → Prop) (ls : ix_L) (st : List ix_V) (μ : ix_M) : ix_Ev o_X11_next Q (87, ls, st, μ) = ix_iret (ix_Ev o_X11_next Q) Q ls st μ := ix_Ev.eq (a_X11_next launch0) rfl ls st μ
theorem e_X11_next_88 (Q : ix_R → Prop) (ls : ix_L) (st : List ix_V) (μ : ix_M) : ix_Ev o_X11_next Q (88, ls, st, μ) = ix_iload 0 89 (ix_Ev o_X11_next Q) Q ls st μ := ix_Ev.eq (a_X11_next launch0) rfl ls st μ
theorem e_X11_next_89 (Q : ix_R → Prop) (ls : ix_L) (st : List ix_V) (μ : ix_M) : ix_Ev o_X11_next Q (89, ls, st, μ) = ix_iret (ix_Ev o_X11_next Q) Q ls st μ := ix_Ev.eq (a_X11_next launch0) rfl ls st μ
theorem r_X11_next (c : Int32) (w : Int32) (μ : ix_M) (Q : ix_R → Prop) (hT : T_X11_next (c, w) μ Q) : ix_Ev o_X11_next Q (0, [some (vi c), some (vi w)], [], μ) := by
  simp (decide := true) only [e_X11_next_0, e_X11_next_1, e_X11_next_32, e_X11_next_33, e_X11_next_34, e_X11_next_37, e_X11_next_38, e_X11_next_41, e_X11_next_42, e_X11_next_43, e_X11_next_44, e_X11_next_45, e_X11_next_46, e_X11_next_47, e_X11_next_48, e_X11_next_49, e_X11_next_52, e_X11_next_53, e_X11_next_56, e_X11_next_57, e_X11_next_58, e_X11_next_59, e_X11_next_60, e_X11_next_61, e_X11_next_63, e_X11_next_66, e_X11_next_67, e_X11_next_70, e_X11_next_71, e_X11_next_72, e_X11_next_73, e_X11_next_74, e_X11_next_75, e_X11_next_76, e_X11_next_77, e_X11_next_80, e_X11_next_81, e_X11_next_84, e_X11_next_85, e_X11_next_86, e_X11_next_87, e_X11_next_88, e_X11_next_89, vi, vl, vr, ix_push, ix_iload, ix_lload, ix_aload, ix_istore, ix_astore, ix_iinc, ix_bin, ix_div, ix_un, ix_i2l, ix_l2i, ix_lbin, ix_lsh, ix_lcmp, ix_dup, ix_dup2, ix_pop, ix_if, ix_cmp, ix_goto, ix_switch, ix_sw, ix_iret, ix_zret, ix_vret, ix_aret, ix_geti, ix_getr, ix_puti, ix_putz, ix_puts, ix_gets, ix_iald, ix_iast, ix_alen, ix_aald, ix_gval, ix_gcod, ix_bald, ix_blen, ix_sald, ix_nret, ix_math2, ix_math1, ix_acopy, ml_113, ml_114, ml_115, ml_116, ml_118, ml_119, ml_120, ml_121, ml_122, ml_123, ml_124, ml_125, ml_126, mv_0, mv_1, mv_2, mv_3, mv_4, mv_5, mB_or, Nat.add_assoc, Int32.reduceLT, Int32.reduceLE, Int32.reduceToNatClampNeg, Int32.reduceSub, Int32.reduceAdd, Nat.reduceAdd, Nat.reduceLeDiff, true_or, or_true, or_false, false_or, not_false_eq_true, not_true_eq_false, false_implies, true_implies, implies_true, and_self, mB_0, mB_01, Classical.not_not, Nat.zero_le, List.getElem?_cons_zero, List.getElem?_cons_succ, List.set_cons_zero, List.set_cons_succ, ix_nl, ix_cs, true_and, and_true, Option.toList_some, Option.toList_none, List.cons_append, List.nil_append]
  simp only [T_X11_next, nNext, vi, vl, vr] at hT
  repeat' (first | refine And.intro ?_ ?_ | intro _)
  all_goals (first | exact hT | (simp only [*, if_true, if_false, not_true_eq_false, not_false_eq_true, and_true, true_and, and_false, false_and, or_true, true_or, or_false, false_or, and_self, or_self] at hT; exact hT) | (simp only [← Int32.not_lt, Classical.not_not] at *; simp only [*, if_true, if_false, not_true_eq_false, not_false_eq_true, and_true, true_and, and_false, false_and, or_true, true_or, or_false, false_or, and_self, or_self] at hT; exact hT) | (simp_all; done))
theorem k_X11_next (l : Launch) : ix_Ct l yX11_next cX11_next 2 (some .int) 1 sh_X11_next T_X11_next := ix_ct (a_X11_next l) rfl (by decide) (fun _ => Nat.le_of_ble_eq_true rfl) (fun x μ Q hok hT => r_X11_next x.1 x.2 μ Q  hT)
def nDone (d a b : Int32) : Int32 := if d = 20000 then (if a = 0 then (if b = 0 then 0 else 1) else 1) else if d = 20001 then (if a = 0 then 0 else if b = 0 then 0 else 1) else if d = 20002 then (if b ≤ a then 0 else 1) else if d = 20003 then (if a = b then 1 else 0) else if d = 20004 then (if a ≤ b then 0 else 1) else if d = 20005 then a + b else if d = 20006 then a - b else if d = 20007 then a * b else if d = 20008 then (if b = 0 then 0 else a / b) else (if b = 0 then 0 else a - a / b * b)
def T_X11_done : Int32 × Int32 × Int32 → ix_M → (ix_R → Prop) → Prop := fun (d, a, b) μ Q => Q (some (vi (nDone d a b)), μ)
def sh_X11_done (x : Int32 × Int32 × Int32) : List ix_V := [vi x.1, vi x.2.1, vi x.2.2]
theorem mo_X11_done (x : Int32 × Int32 × Int32) (μ : ix_M) (Q Q' : ix_R → Prop) (h : ∀ r, Q r → Q' r) (hT : T_X11_done x μ Q) : T_X11_done x μ Q' := by
  obtain ⟨a0, a1, a2⟩ := x
  first | exact h _ hT | exact ⟨hT.1, h _ hT.2⟩ | exact fun r hr => h _ (hT r hr) | exact ⟨hT.1, fun r hr => h _ (hT.2 r hr)⟩ | exact ⟨hT.1, hT.2.1, fun r hr => h _ (hT.2.2 r hr)⟩
def oc_X11_done (n : Nat) : ix_Op := fun k _ ls st μ => match st with
  | .inl a2 :: .inl a1 :: .inl a0 :: r => ix_cs r ≤ 8 ∧ T_X11_done (a0, a1, a2) μ (fun q => k (n, ls, q.1.toList ++ r, q.2))
  | _ => False
theorem oc_X11_done_s {l : Launch} {cc : ByteArray} {nL : Nat} {own : String} {d : Nat} {rt : Option FieldType} {pc n : Nat} (h : ix_S l cc nL own d rt pc (ix_call 3 sh_X11_done T_X11_done n)) : ix_S l cc nL own d rt pc (oc_X11_done n) := by
  refine h.by (fun k Q ls st μ h => ?_) (fun k k' Q ls st μ hk h => ?_)
  · unfold oc_X11_done at h
    split at h
    · rename_i a2 a1 a0 r
      obtain ⟨h1, h2⟩ := h
      exact ⟨h1, (a0, a1, a2), rfl, _, h2, fun r h => h⟩
    · exact h.elim
  · unfold oc_X11_done at h ⊢
    split at h
    · obtain ⟨h1, h2⟩ := h
      exact ⟨h1, mo_X11_done _ _ _ _ (fun q hq => hk _ hq) h2⟩
    · exact h.elim
def o_X11_done : List (Nat × ix_Op) := [
  (0, ix_iload 0 1),
  (1, ix_switch [(20000, 52), (20001, 66), (20002, 80), (20003, 91), (20004, 102), (20005, 113), (20006, 117), (20007, 121), (20008, 125)] 137),
  (52, ix_iload 1 53),
  (53, ix_if (fun x => x = 0) 56 60),
  (56, ix_iload 2 57),
  (57, ix_if (fun x => x = 0) 64 60),
  (60, ix_push (vi 1) 61),
  (61, ix_goto 65),
  (64, ix_push (vi 0) 65),
  (65, ix_iret),
  (66, ix_iload 1 67),
  (67, ix_if (fun x => x = 0) 78 70),
  (70, ix_iload 2 71),
  (71, ix_if (fun x => x = 0) 78 74),
  (74, ix_push (vi 1) 75),
  (75, ix_goto 79),
  (78, ix_push (vi 0) 79),
  (79, ix_iret),
  (80, ix_iload 1 81),
  (81, ix_iload 2 82),
  (82, ix_cmp (fun x y => y ≤ x) 89 85),
  (85, ix_push (vi 1) 86),
  (86, ix_goto 90),
  (89, ix_push (vi 0) 90),
  (90, ix_iret),
  (91, ix_iload 1 92),
  (92, ix_iload 2 93),
  (93, ix_cmp (fun x y => x = y) 96 100),
  (96, ix_push (vi 1) 97),
  (97, ix_goto 101),
  (100, ix_push (vi 0) 101),
  (101, ix_iret),
  (102, ix_iload 1 103),
  (103, ix_iload 2 104),
  (104, ix_cmp (fun x y => x ≤ y) 111 107),
  (107, ix_push (vi 1) 108),
  (108, ix_goto 112),
  (111, ix_push (vi 0) 112),
  (112, ix_iret),
  (113, ix_iload 1 114),
  (114, ix_iload 2 115),
  (115, ix_bin (fun x y => x + y) 116),
  (116, ix_iret),
  (117, ix_iload 1 118),
  (118, ix_iload 2 119),
  (119, ix_bin (fun x y => x - y) 120),
  (120, ix_iret),
  (121, ix_iload 1 122),
  (122, ix_iload 2 123),
  (123, ix_bin (fun x y => x * y) 124),
  (124, ix_iret),
  (125, ix_iload 2 126),
  (126, ix_if (fun x => x = 0) 129 133),
  (129, ix_push (vi 0) 130),
  (130, ix_goto 136),
  (133, ix_iload 1 134),
  (134, ix_iload 2 135),
  (135, ix_div (fun x y => x / y) 136),
  (136, ix_iret),
  (137, ix_iload 2 138),
  (138, ix_if (fun x => x = 0) 141 145),
  (141, ix_push (vi 0) 142),
  (142, ix_goto 148),
  (145, ix_iload 1 146),
  (146, ix_iload 2 147),
  (147, ix_div (fun x y => x - x / y * y) 148),
  (148, ix_iret)]
set_option maxRecDepth 20000 in
theorem a_X11_done (l : Launch) : ix_AllS l cX11_done 3 RX11 1 (some .int) o_X11_done :=
  .cons (ix_s_iload_n dX11_done_0 rfl) <|
  .cons (ix_s_tab dX11_done_1 (by decide) (by decide +kernel) (by decide +kernel)) <|
  .cons (ix_s_iload_n dX11_done_52 rfl) <|
  .cons (ix_s_if_ne dX11_done_53 (by decide)) <|
  .cons (ix_s_iload_n dX11_done_56 rfl) <|
  .cons (ix_s_if_eq dX11_done_57 (by decide)) <|
  .cons (ix_s_iconst dX11_done_60 (by decide +kernel)) <|
  .cons (ix_s_goto dX11_done_61 (by decide)) <|
  .cons (ix_s_iconst dX11_done_64 (by decide +kernel)) <|
  .cons (ix_s_iret dX11_done_65 rfl) <|
  .cons (ix_s_iload_n dX11_done_66 rfl) <|
  .cons (ix_s_if_eq dX11_done_67 (by decide)) <|
  .cons (ix_s_iload_n dX11_done_70 rfl) <|
  .cons (ix_s_if_eq dX11_done_71 (by decide)) <|
  .cons (ix_s_iconst dX11_done_74 (by decide +kernel)) <|
  .cons (ix_s_goto dX11_done_75 (by decide)) <|
  .cons (ix_s_iconst dX11_done_78 (by decide +kernel)) <|
  .cons (ix_s_iret dX11_done_79 rfl) <|
  .cons (ix_s_iload_n dX11_done_80 rfl) <|
  .cons (ix_s_iload_n dX11_done_81 rfl) <|
  .cons (ix_s_cmp_ge dX11_done_82 (by decide)) <|
  .cons (ix_s_iconst dX11_done_85 (by decide +kernel)) <|
  .cons (ix_s_goto dX11_done_86 (by decide)) <|
  .cons (ix_s_iconst dX11_done_89 (by decide +kernel)) <|
  .cons (ix_s_iret dX11_done_90 rfl) <|
  .cons (ix_s_iload_n dX11_done_91 rfl) <|
  .cons (ix_s_iload_n dX11_done_92 rfl) <|
  .cons (ix_s_cmp_ne dX11_done_93 (by decide)) <|
  .cons (ix_s_iconst dX11_done_96 (by decide +kernel)) <|
  .cons (ix_s_goto dX11_done_97 (by decide)) <|
  .cons (ix_s_iconst dX11_done_100 (by decide +kernel)) <|
  .cons (ix_s_iret dX11_done_101 rfl) <|
  .cons (ix_s_iload_n dX11_done_102 rfl) <|
  .cons (ix_s_iload_n dX11_done_103 rfl) <|
  .cons (ix_s_cmp_le dX11_done_104 (by decide)) <|
  .cons (ix_s_iconst dX11_done_107 (by decide +kernel)) <|
  .cons (ix_s_goto dX11_done_108 (by decide)) <|
  .cons (ix_s_iconst dX11_done_111 (by decide +kernel)) <|
  .cons (ix_s_iret dX11_done_112 rfl) <|
  .cons (ix_s_iload_n dX11_done_113 rfl) <|
  .cons (ix_s_iload_n dX11_done_114 rfl) <|
  .cons (ix_s_iadd dX11_done_115) <|
  .cons (ix_s_iret dX11_done_116 rfl) <|
  .cons (ix_s_iload_n dX11_done_117 rfl) <|
  .cons (ix_s_iload_n dX11_done_118 rfl) <|
  .cons (ix_s_isub dX11_done_119) <|
  .cons (ix_s_iret dX11_done_120 rfl) <|
  .cons (ix_s_iload_n dX11_done_121 rfl) <|
  .cons (ix_s_iload_n dX11_done_122 rfl) <|
  .cons (ix_s_imul dX11_done_123) <|
  .cons (ix_s_iret dX11_done_124 rfl) <|
  .cons (ix_s_iload_n dX11_done_125 rfl) <|
  .cons (ix_s_if_ne dX11_done_126 (by decide)) <|
  .cons (ix_s_iconst dX11_done_129 (by decide +kernel)) <|
  .cons (ix_s_goto dX11_done_130 (by decide)) <|
  .cons (ix_s_iload_n dX11_done_133 rfl) <|
  .cons (ix_s_iload_n dX11_done_134 rfl) <|
  .cons (ix_s_idiv dX11_done_135) <|
  .cons (ix_s_iret dX11_done_136 rfl) <|
  .cons (ix_s_iload_n dX11_done_137 rfl) <|
  .cons (ix_s_if_ne dX11_done_138 (by decide)) <|
  .cons (ix_s_iconst dX11_done_141 (by decide +kernel)) <|
  .cons (ix_s_goto dX11_done_142 (by decide)) <|
  .cons (ix_s_iload_n dX11_done_145 rfl) <|
  .cons (ix_s_iload_n dX11_done_146 rfl) <|
  .cons (ix_s_irem dX11_done_147) <|
  .cons (ix_s_iret dX11_done_148 rfl) <| .nil
theorem e_X11_done_0 (Q : ix_R → Prop) (ls : ix_L) (st : List ix_V) (μ : ix_M) : ix_Ev o_X11_done Q (0, ls, st, μ) = ix_iload 0 1 (ix_Ev o_X11_done Q) Q ls st μ := ix_Ev.eq (a_X11_done launch0) rfl ls st μ
theorem e_X11_done_1 (Q : ix_R → Prop) (ls : ix_L) (st : List ix_V) (μ : ix_M) : ix_Ev o_X11_done Q (1, ls, st, μ) = ix_switch [(20000, 52), (20001, 66), (20002, 80), (20003, 91), (20004, 102), (20005, 113), (20006, 117), (20007, 121), (20008, 125)] 137 (ix_Ev o_X11_done Q) Q ls st μ := ix_Ev.eq (a_X11_done launch0) rfl ls st μ
theorem e_X11_done_52 (Q : ix_R → Prop) (ls : ix_L) (st : List ix_V) (μ : ix_M) : ix_Ev o_X11_done Q (52, ls, st, μ) = ix_iload 1 53 (ix_Ev o_X11_done Q) Q ls st μ := ix_Ev.eq (a_X11_done launch0) rfl ls st μ
theorem e_X11_done_53 (Q : ix_R → Prop) (ls : ix_L) (st : List ix_V) (μ : ix_M) : ix_Ev o_X11_done Q (53, ls, st, μ) = ix_if (fun x => x = 0) 56 60 (ix_Ev o_X11_done Q) Q ls st μ := ix_Ev.eq (a_X11_done launch0) rfl ls st μ
theorem e_X11_done_56 (Q : ix_R → Prop) (ls : ix_L) (st : List ix_V) (μ : ix_M) : ix_Ev o_X11_done Q (56, ls, st, μ) = ix_iload 2 57 (ix_Ev o_X11_done Q) Q ls st μ := ix_Ev.eq (a_X11_done launch0) rfl ls st μ
theorem e_X11_done_57 (Q : ix_R → Prop) (ls : ix_L) (st : List ix_V) (μ : ix_M) : ix_Ev o_X11_done Q (57, ls, st, μ) = ix_if (fun x => x = 0) 64 60 (ix_Ev o_X11_done Q) Q ls st μ := ix_Ev.eq (a_X11_done launch0) rfl ls st μ
theorem e_X11_done_60 (Q : ix_R → Prop) (ls : ix_L) (st : List ix_V) (μ : ix_M) : ix_Ev o_X11_done Q (60, ls, st, μ) = ix_push (vi 1) 61 (ix_Ev o_X11_done Q) Q ls st μ := ix_Ev.eq (a_X11_done launch0) rfl ls st μ
theorem e_X11_done_61 (Q : ix_R → Prop) (ls : ix_L) (st : List ix_V) (μ : ix_M) : ix_Ev o_X11_done Q (61, ls, st, μ) = ix_goto 65 (ix_Ev o_X11_done Q) Q ls st μ := ix_Ev.eq (a_X11_done launch0) rfl ls st μ
theorem e_X11_done_64 (Q : ix_R → Prop) (ls : ix_L) (st : List ix_V) (μ : ix_M) : ix_Ev o_X11_done Q (64, ls, st, μ) = ix_push (vi 0) 65 (ix_Ev o_X11_done Q) Q ls st μ := ix_Ev.eq (a_X11_done launch0) rfl ls st μ
theorem e_X11_done_65 (Q : ix_R → Prop) (ls : ix_L) (st : List ix_V) (μ : ix_M) : ix_Ev o_X11_done Q (65, ls, st, μ) = ix_iret (ix_Ev o_X11_done Q) Q ls st μ := ix_Ev.eq (a_X11_done launch0) rfl ls st μ
theorem e_X11_done_66 (Q : ix_R → Prop) (ls : ix_L) (st : List ix_V) (μ : ix_M) : ix_Ev o_X11_done Q (66, ls, st, μ) = ix_iload 1 67 (ix_Ev o_X11_done Q) Q ls st μ := ix_Ev.eq (a_X11_done launch0) rfl ls st μ
theorem e_X11_done_67 (Q : ix_R → Prop) (ls : ix_L) (st : List ix_V) (μ : ix_M) : ix_Ev o_X11_done Q (67, ls, st, μ) = ix_if (fun x => x = 0) 78 70 (ix_Ev o_X11_done Q) Q ls st μ := ix_Ev.eq (a_X11_done launch0) rfl ls st μ
theorem e_X11_done_70 (Q : ix_R → Prop) (ls : ix_L) (st : List ix_V) (μ : ix_M) : ix_Ev o_X11_done Q (70, ls, st, μ) = ix_iload 2 71 (ix_Ev o_X11_done Q) Q ls st μ := ix_Ev.eq (a_X11_done launch0) rfl ls st μ
theorem e_X11_done_71 (Q : ix_R → Prop) (ls : ix_L) (st : List ix_V) (μ : ix_M) : ix_Ev o_X11_done Q (71, ls, st, μ) = ix_if (fun x => x = 0) 78 74 (ix_Ev o_X11_done Q) Q ls st μ := ix_Ev.eq (a_X11_done launch0) rfl ls st μ
theorem e_X11_done_74 (Q : ix_R → Prop) (ls : ix_L) (st : List ix_V) (μ : ix_M) : ix_Ev o_X11_done Q (74, ls, st, μ) = ix_push (vi 1) 75 (ix_Ev o_X11_done Q) Q ls st μ := ix_Ev.eq (a_X11_done launch0) rfl ls st μ
theorem e_X11_done_75 (Q : ix_R → Prop) (ls : ix_L) (st : List ix_V) (μ : ix_M) : ix_Ev o_X11_done Q (75, ls, st, μ) = ix_goto 79 (ix_Ev o_X11_done Q) Q ls st μ := ix_Ev.eq (a_X11_done launch0) rfl ls st μ
theorem e_X11_done_78 (Q : ix_R → Prop) (ls : ix_L) (st : List ix_V) (μ : ix_M) : ix_Ev o_X11_done Q (78, ls, st, μ) = ix_push (vi 0) 79 (ix_Ev o_X11_done Q) Q ls st μ := ix_Ev.eq (a_X11_done launch0) rfl ls st μ
theorem e_X11_done_79 (Q : ix_R → Prop) (ls : ix_L) (st : List ix_V) (μ : ix_M) : ix_Ev o_X11_done Q (79, ls, st, μ) = ix_iret (ix_Ev o_X11_done Q) Q ls st μ := ix_Ev.eq (a_X11_done launch0) rfl ls st μ
theorem e_X11_done_80 (Q : ix_R → Prop) (ls : ix_L) (st : List ix_V) (μ : ix_M) : ix_Ev o_X11_done Q (80, ls, st, μ) = ix_iload 1 81 (ix_Ev o_X11_done Q) Q ls st μ := ix_Ev.eq (a_X11_done launch0) rfl ls st μ
theorem e_X11_done_81 (Q : ix_R → Prop) (ls : ix_L) (st : List ix_V) (μ : ix_M) : ix_Ev o_X11_done Q (81, ls, st, μ) = ix_iload 2 82 (ix_Ev o_X11_done Q) Q ls st μ := ix_Ev.eq (a_X11_done launch0) rfl ls st μ
theorem e_X11_done_82 (Q : ix_R → Prop) (ls : ix_L) (st : List ix_V) (μ : ix_M) : ix_Ev o_X11_done Q (82, ls, st, μ) = ix_cmp (fun x y => y ≤ x) 89 85 (ix_Ev o_X11_done Q) Q ls st μ := ix_Ev.eq (a_X11_done launch0) rfl ls st μ
theorem e_X11_done_85 (Q : ix_R → Prop) (ls : ix_L) (st : List ix_V) (μ : ix_M) : ix_Ev o_X11_done Q (85, ls, st, μ) = ix_push (vi 1) 86 (ix_Ev o_X11_done Q) Q ls st μ := ix_Ev.eq (a_X11_done launch0) rfl ls st μ
theorem e_X11_done_86 (Q : ix_R → Prop) (ls : ix_L) (st : List ix_V) (μ : ix_M) : ix_Ev o_X11_done Q (86, ls, st, μ) = ix_goto 90 (ix_Ev o_X11_done Q) Q ls st μ := ix_Ev.eq (a_X11_done launch0) rfl ls st μ
theorem e_X11_done_89 (Q : ix_R → Prop) (ls : ix_L) (st : List ix_V) (μ : ix_M) : ix_Ev o_X11_done Q (89, ls, st, μ) = ix_push (vi 0) 90 (ix_Ev o_X11_done Q) Q ls st μ := ix_Ev.eq (a_X11_done launch0) rfl ls st μ
theorem e_X11_done_90 (Q : ix_R → Prop) (ls : ix_L) (st : List ix_V) (μ : ix_M) : ix_Ev o_X11_done Q (90, ls, st, μ) = ix_iret (ix_Ev o_X11_done Q) Q ls st μ := ix_Ev.eq (a_X11_done launch0) rfl ls st μ
theorem e_X11_done_91 (Q : ix_R → Prop) (ls : ix_L) (st : List ix_V) (μ : ix_M) : ix_Ev o_X11_done Q (91, ls, st, μ) = ix_iload 1 92 (ix_Ev o_X11_done Q) Q ls st μ := ix_Ev.eq (a_X11_done launch0) rfl ls st μ
theorem e_X11_done_92 (Q : ix_R → Prop) (ls : ix_L) (st : List ix_V) (μ : ix_M) : ix_Ev o_X11_done Q (92, ls, st, μ) = ix_iload 2 93 (ix_Ev o_X11_done Q) Q ls st μ := ix_Ev.eq (a_X11_done launch0) rfl ls st μ
theorem e_X11_done_93 (Q : ix_R → Prop) (ls : ix_L) (st : List ix_V) (μ : ix_M) : ix_Ev o_X11_done Q (93, ls, st, μ) = ix_cmp (fun x y => x = y) 96 100 (ix_Ev o_X11_done Q) Q ls st μ := ix_Ev.eq (a_X11_done launch0) rfl ls st μ
theorem e_X11_done_96 (Q : ix_R → Prop) (ls : ix_L) (st : List ix_V) (μ : ix_M) : ix_Ev o_X11_done Q (96, ls, st, μ) = ix_push (vi 1) 97 (ix_Ev o_X11_done Q) Q ls st μ := ix_Ev.eq (a_X11_done launch0) rfl ls st μ
theorem e_X11_done_97 (Q : ix_R → Prop) (ls : ix_L) (st : List ix_V) (μ : ix_M) : ix_Ev o_X11_done Q (97, ls, st, μ) = ix_goto 101 (ix_Ev o_X11_done Q) Q ls st μ := ix_Ev.eq (a_X11_done launch0) rfl ls st μ
theorem e_X11_done_100 (Q : ix_R → Prop) (ls : ix_L) (st : List ix_V) (μ : ix_M) : ix_Ev o_X11_done Q (100, ls, st, μ) = ix_push (vi 0) 101 (ix_Ev o_X11_done Q) Q ls st μ := ix_Ev.eq (a_X11_done launch0) rfl ls st μ
theorem e_X11_done_101 (Q : ix_R → Prop) (ls : ix_L) (st : List ix_V) (μ : ix_M) : ix_Ev o_X11_done Q (101, ls, st, μ) = ix_iret (ix_Ev o_X11_done Q) Q ls st μ := ix_Ev.eq (a_X11_done launch0) rfl ls st μ
theorem e_X11_done_102 (Q : ix_R → Prop) (ls : ix_L) (st : List ix_V) (μ : ix_M) : ix_Ev o_X11_done Q (102, ls, st, μ) = ix_iload 1 103 (ix_Ev o_X11_done Q) Q ls st μ := ix_Ev.eq (a_X11_done launch0) rfl ls st μ
theorem e_X11_done_103 (Q : ix_R → Prop) (ls : ix_L) (st : List ix_V) (μ : ix_M) : ix_Ev o_X11_done Q (103, ls, st, μ) = ix_iload 2 104 (ix_Ev o_X11_done Q) Q ls st μ := ix_Ev.eq (a_X11_done launch0) rfl ls st μ
theorem e_X11_done_104 (Q : ix_R → Prop) (ls : ix_L) (st : List ix_V) (μ : ix_M) : ix_Ev o_X11_done Q (104, ls, st, μ) = ix_cmp (fun x y => x ≤ y) 111 107 (ix_Ev o_X11_done Q) Q ls st μ := ix_Ev.eq (a_X11_done launch0) rfl ls st μ
theorem e_X11_done_107 (Q : ix_R → Prop) (ls : ix_L) (st : List ix_V) (μ : ix_M) : ix_Ev o_X11_done Q (107, ls, st, μ) = ix_push (vi 1) 108 (ix_Ev o_X11_done Q) Q ls st μ := ix_Ev.eq (a_X11_done launch0) rfl ls st μ
theorem e_X11_done_108 (Q : ix_R → Prop) (ls : ix_L) (st : List ix_V) (μ : ix_M) : ix_Ev o_X11_done Q (108, ls, st, μ) = ix_goto 112 (ix_Ev o_X11_done Q) Q ls st μ := ix_Ev.eq (a_X11_done launch0) rfl ls st μ
theorem e_X11_done_111 (Q : ix_R → Prop) (ls : ix_L) (st : List ix_V) (μ : ix_M) : ix_Ev o_X11_done Q (111, ls, st, μ) = ix_push (vi 0) 112 (ix_Ev o_X11_done Q) Q ls st μ := ix_Ev.eq (a_X11_done launch0) rfl ls st μ
theorem e_X11_done_112 (Q : ix_R → Prop) (ls : ix_L) (st : List ix_V) (μ : ix_M) : ix_Ev o_X11_done Q (112, ls, st, μ) = ix_iret (ix_Ev o_X11_done Q) Q ls st μ := ix_Ev.eq (a_X11_done launch0) rfl ls st μ
theorem e_X11_done_113 (Q : ix_R → Prop) (ls : ix_L) (st : List ix_V) (μ : ix_M) : ix_Ev o_X11_done Q (113, ls, st, μ) = ix_iload 1 114 (ix_Ev o_X11_done Q) Q ls st μ := ix_Ev.eq (a_X11_done launch0) rfl ls st μ
theorem e_X11_done_114 (Q : ix_R → Prop) (ls : ix_L) (st : List ix_V) (μ : ix_M) : ix_Ev o_X11_done Q (114, ls, st, μ) = ix_iload 2 115 (ix_Ev o_X11_done Q) Q ls st μ := ix_Ev.eq (a_X11_done launch0) rfl ls st μ
theorem e_X11_done_115 (Q : ix_R → Prop) (ls : ix_L) (st : List ix_V) (μ : ix_M) : ix_Ev o_X11_done Q (115, ls, st, μ) = ix_bin (fun x y => x + y) 116 (ix_Ev o_X11_done Q) Q ls st μ := ix_Ev.eq (a_X11_done launch0) rfl ls st μ
theorem e_X11_done_116 (Q : ix_R → Prop) (ls : ix_L) (st : List ix_V) (μ : ix_M) : ix_Ev o_X11_done Q (116, ls, st, μ) = ix_iret (ix_Ev o_X11_done Q) Q ls st μ := ix_Ev.eq (a_X11_done launch0) rfl ls st μ
theorem e_X11_done_117 (Q : ix_R → Prop) (ls : ix_L) (st : List ix_V) (μ : ix_M) : ix_Ev o_X11_done Q (117, ls, st, μ) = ix_iload 1 118 (ix_Ev o_X11_done Q) Q ls st μ := ix_Ev.eq (a_X11_done launch0) rfl ls st μ
theorem e_X11_done_118 (Q : ix_R → Prop) (ls : ix_L) (st : List ix_V) (μ : ix_M) : ix_Ev o_X11_done Q (118, ls, st, μ) = ix_iload 2 119 (ix_Ev o_X11_done Q) Q ls st μ := ix_Ev.eq (a_X11_done launch0) rfl ls st μ
theorem e_X11_done_119 (Q : ix_R → Prop) (ls : ix_L) (st : List ix_V) (μ : ix_M) : ix_Ev o_X11_done Q (119, ls, st, μ) = ix_bin (fun x y => x - y) 120 (ix_Ev o_X11_done Q) Q ls st μ := ix_Ev.eq (a_X11_done launch0) rfl ls st μ
theorem e_X11_done_120 (Q : ix_R → Prop) (ls : ix_L) (st : List ix_V) (μ : ix_M) : ix_Ev o_X11_done Q (120, ls, st, μ) = ix_iret (ix_Ev o_X11_done Q) Q ls st μ := ix_Ev.eq (a_X11_done launch0) rfl ls st μ
theorem e_X11_done_121 (Q : ix_R → Prop) (ls : ix_L) (st : List ix_V) (μ : ix_M) : ix_Ev o_X11_done Q (121, ls, st, μ) = ix_iload 1 122 (ix_Ev o_X11_done Q) Q ls st μ := ix_Ev.eq (a_X11_done launch0) rfl ls st μ
theorem e_X11_done_122 (Q : ix_R → Prop) (ls : ix_L) (st : List ix_V) (μ : ix_M) : ix_Ev o_X11_done Q (122, ls, st, μ) = ix_iload 2 123 (ix_Ev o_X11_done Q) Q ls st μ := ix_Ev.eq (a_X11_done launch0) rfl ls st μ
theorem e_X11_done_123 (Q : ix_R → Prop) (ls : ix_L) (st : List ix_V) (μ : ix_M) : ix_Ev o_X11_done Q (123, ls, st, μ) = ix_bin (fun x y => x * y) 124 (ix_Ev o_X11_done Q) Q ls st μ := ix_Ev.eq (a_X11_done launch0) rfl ls st μ
theorem e_X11_done_124 (Q : ix_R → Prop) (ls : ix_L) (st : List ix_V) (μ : ix_M) : ix_Ev o_X11_done Q (124, ls, st, μ) = ix_iret (ix_Ev o_X11_done Q) Q ls st μ := ix_Ev.eq (a_X11_done launch0) rfl ls st μ
theorem e_X11_done_125 (Q : ix_R → Prop) (ls : ix_L) (st : List ix_V) (μ : ix_M) : ix_Ev o_X11_done Q (125, ls, st, μ) = ix_iload 2 126 (ix_Ev o_X11_done Q) Q ls st μ := ix_Ev.eq (a_X11_done launch0) rfl ls st μ
theorem e_X11_done_126 (Q : ix_R → Prop) (ls : ix_L) (st : List ix_V) (μ : ix_M) : ix_Ev o_X11_done Q (126, ls, st, μ) = ix_if (fun x => x = 0) 129 133 (ix_Ev o_X11_done Q) Q ls st μ := ix_Ev.eq (a_X11_done launch0) rfl ls st μ
theorem e_X11_done_129 (Q : ix_R → Prop) (ls : ix_L) (st : List ix_V) (μ : ix_M) : ix_Ev o_X11_done Q (129, ls, st, μ) = ix_push (vi 0) 130 (ix_Ev o_X11_done Q) Q ls st μ := ix_Ev.eq (a_X11_done launch0) rfl ls st μ
theorem e_X11_done_130 (Q : ix_R → Prop) (ls : ix_L) (st : List ix_V) (μ : ix_M) : ix_Ev o_X11_done Q (130, ls, st, μ) = ix_goto 136 (ix_Ev o_X11_done Q) Q ls st μ := ix_Ev.eq (a_X11_done launch0) rfl ls st μ
theorem e_X11_done_133 (Q : ix_R → Prop) (ls : ix_L) (st : List ix_V) (μ : ix_M) : ix_Ev o_X11_done Q (133, ls, st, μ) = ix_iload 1 134 (ix_Ev o_X11_done Q) Q ls st μ := ix_Ev.eq (a_X11_done launch0) rfl ls st μ
theorem e_X11_done_134 (Q : ix_R → Prop) (ls : ix_L) (st : List ix_V) (μ : ix_M) : ix_Ev o_X11_done Q (134, ls, st, μ) = ix_iload 2 135 (ix_Ev o_X11_done Q) Q ls st μ := ix_Ev.eq (a_X11_done launch0) rfl ls st μ
theorem e_X11_done_135 (Q : ix_R → Prop) (ls : ix_L) (st : List ix_V) (μ : ix_M) : ix_Ev o_X11_done Q (135, ls, st, μ) = ix_div (fun x y => x / y) 136 (ix_Ev o_X11_done Q) Q ls st μ := ix_Ev.eq (a_X11_done launch0) rfl ls st μ
theorem e_X11_done_136 (Q : ix_R → Prop) (ls : ix_L) (st : List ix_V) (μ : ix_M) : ix_Ev o_X11_done Q (136, ls, st, μ) = ix_iret (ix_Ev o_X11_done Q) Q ls st μ := ix_Ev.eq (a_X11_done launch0) rfl ls st μ
theorem e_X11_done_137 (Q : ix_R → Prop) (ls : ix_L) (st : List ix_V) (μ : ix_M) : ix_Ev o_X11_done Q (137, ls, st, μ) = ix_iload 2 138 (ix_Ev o_X11_done Q) Q ls st μ := ix_Ev.eq (a_X11_done launch0) rfl ls st μ
theorem e_X11_done_138 (Q : ix_R → Prop) (ls : ix_L) (st : List ix_V) (μ : ix_M) : ix_Ev o_X11_done Q (138, ls, st, μ) = ix_if (fun x => x = 0) 141 145 (ix_Ev o_X11_done Q) Q ls st μ := ix_Ev.eq (a_X11_done launch0) rfl ls st μ
theorem e_X11_done_141 (Q : ix_R → Prop) (ls : ix_L) (st : List ix_V) (μ : ix_M) : ix_Ev o_X11_done Q (141, ls, st, μ) = ix_push (vi 0) 142 (ix_Ev o_X11_done Q) Q ls st μ := ix_Ev.eq (a_X11_done launch0) rfl ls st μ
theorem e_X11_done_142 (Q : ix_R → Prop) (ls : ix_L) (st : List ix_V) (μ : ix_M) : ix_Ev o_X11_done Q (142, ls, st, μ) = ix_goto 148 (ix_Ev o_X11_done Q) Q ls st μ := ix_Ev.eq (a_X11_done launch0) rfl ls st μ
theorem e_X11_done_145 (Q : ix_R → Prop) (ls : ix_L) (st : List ix_V) (μ : ix_M) : ix_Ev o_X11_done Q (145, ls, st, μ) = ix_iload 1 146 (ix_Ev o_X11_done Q) Q ls st μ := ix_Ev.eq (a_X11_done launch0) rfl ls st μ
theorem e_X11_done_146 (Q : ix_R → Prop) (ls : ix_L) (st : List ix_V) (μ : ix_M) : ix_Ev o_X11_done Q (146, ls, st, μ) = ix_iload 2 147 (ix_Ev o_X11_done Q) Q ls st μ := ix_Ev.eq (a_X11_done launch0) rfl ls st μ
theorem e_X11_done_147 (Q : ix_R → Prop) (ls : ix_L) (st : List ix_V) (μ : ix_M) : ix_Ev o_X11_done Q (147, ls, st, μ) = ix_div (fun x y => x - x / y * y) 148 (ix_Ev o_X11_done Q) Q ls st μ := ix_Ev.eq (a_X11_done launch0) rfl ls st μ
theorem e_X11_done_148 (Q : ix_R → Prop) (ls : ix_L) (st : List ix_V) (μ : ix_M) : ix_Ev o_X11_done Q (148, ls, st, μ) = ix_iret (ix_Ev o_X11_done Q) Q ls st μ := ix_Ev.eq (a_X11_done launch0) rfl ls st μ
theorem r_X11_done (d : Int32) (a : Int32) (b : Int32) (μ : ix_M) (Q : ix_R → Prop) (hT : T_X11_done (d, a, b) μ Q) : ix_Ev o_X11_done Q (0, [some (vi d), some (vi a), some (vi b)], [], μ) := by
  simp (decide := true) only [e_X11_done_0, e_X11_done_1, e_X11_done_52, e_X11_done_53, e_X11_done_56, e_X11_done_57, e_X11_done_60, e_X11_done_61, e_X11_done_64, e_X11_done_65, e_X11_done_66, e_X11_done_67, e_X11_done_70, e_X11_done_71, e_X11_done_74, e_X11_done_75, e_X11_done_78, e_X11_done_79, e_X11_done_80, e_X11_done_81, e_X11_done_82, e_X11_done_85, e_X11_done_86, e_X11_done_89, e_X11_done_90, e_X11_done_91, e_X11_done_92, e_X11_done_93, e_X11_done_96, e_X11_done_97, e_X11_done_100, e_X11_done_101, e_X11_done_102, e_X11_done_103, e_X11_done_104, e_X11_done_107, e_X11_done_108, e_X11_done_111, e_X11_done_112, e_X11_done_113, e_X11_done_114, e_X11_done_115, e_X11_done_116, e_X11_done_117, e_X11_done_118, e_X11_done_119, e_X11_done_120, e_X11_done_121, e_X11_done_122, e_X11_done_123, e_X11_done_124, e_X11_done_125, e_X11_done_126, e_X11_done_129, e_X11_done_130, e_X11_done_133, e_X11_done_134, e_X11_done_135, e_X11_done_136, e_X11_done_137, e_X11_done_138, e_X11_done_141, e_X11_done_142, e_X11_done_145, e_X11_done_146, e_X11_done_147, e_X11_done_148, vi, vl, vr, ix_push, ix_iload, ix_lload, ix_aload, ix_istore, ix_astore, ix_iinc, ix_bin, ix_div, ix_un, ix_i2l, ix_l2i, ix_lbin, ix_lsh, ix_lcmp, ix_dup, ix_dup2, ix_pop, ix_if, ix_cmp, ix_goto, ix_switch, ix_sw, ix_iret, ix_zret, ix_vret, ix_aret, ix_geti, ix_getr, ix_puti, ix_putz, ix_puts, ix_gets, ix_iald, ix_iast, ix_alen, ix_aald, ix_gval, ix_gcod, ix_bald, ix_blen, ix_sald, ix_nret, ix_math2, ix_math1, ix_acopy, ml_113, ml_114, ml_115, ml_116, ml_118, ml_119, ml_120, ml_121, ml_122, ml_123, ml_124, ml_125, ml_126, mv_0, mv_1, mv_2, mv_3, mv_4, mv_5, mB_or, Nat.add_assoc, Int32.reduceLT, Int32.reduceLE, Int32.reduceToNatClampNeg, Int32.reduceSub, Int32.reduceAdd, Nat.reduceAdd, Nat.reduceLeDiff, true_or, or_true, or_false, false_or, not_false_eq_true, not_true_eq_false, false_implies, true_implies, implies_true, and_self, mB_0, mB_01, Classical.not_not, Nat.zero_le, List.getElem?_cons_zero, List.getElem?_cons_succ, List.set_cons_zero, List.set_cons_succ, ix_nl, ix_cs, true_and, and_true, Option.toList_some, Option.toList_none, List.cons_append, List.nil_append]
  simp only [T_X11_done, nDone, vi, vl, vr] at hT
  repeat' (first | refine And.intro ?_ ?_ | intro _)
  all_goals (first | exact hT | (simp only [*, if_true, if_false, not_true_eq_false, not_false_eq_true, and_true, true_and, and_false, false_and, or_true, true_or, or_false, false_or, and_self, or_self] at hT; exact hT) | (simp only [← Int32.not_lt, Classical.not_not] at *; simp only [*, if_true, if_false, not_true_eq_false, not_false_eq_true, and_true, true_and, and_false, false_and, or_true, true_or, or_false, false_or, and_self, or_self] at hT; exact hT) | (simp_all; done))
theorem k_X11_done (l : Launch) : ix_Ct l yX11_done cX11_done 3 (some .int) 1 sh_X11_done T_X11_done := ix_ct (a_X11_done l) rfl (by decide) (fun _ => Nat.le_of_ble_eq_true rfl) (fun x μ Q hok hT => r_X11_done x.1 x.2.1 x.2.2 μ Q  hT)
