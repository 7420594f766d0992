/-! ===== the model: wearers, a new boat, who may have which boat ===== -/
def T_X11_wanted : Nat → ix_M → (ix_R → Prop) → Prop := fun _ μ Q => Q (some (vi (mSum (fun c => μ 113 (12 + c)) 6)), μ)
def sh_X11_wanted (x : Nat) : List ix_V := [vr 10 x]
theorem mo_X11_wanted (x : Nat) (μ : ix_M) (Q Q' : ix_R → Prop) (h : ∀ r, Q r → Q' r) (hT : T_X11_wanted x μ Q) : T_X11_wanted x μ Q' := by
  first | exact h _ hT | exact ⟨hT.1, h _ hT.2⟩ | exact fun r hr => h _ (hT r hr) | exact ⟨hT.1, fun r hr => h _ (hT.2 r hr)⟩ | exact ⟨hT.1, hT.2.1, fun r hr => h _ (hT.2.2 r hr)⟩
def oc_X11_wanted (n : Nat) : ix_Op := fun k _ ls st μ => match st with
  | .inr (.inr (t0, a0)) :: r => t0 = 10 ∧ ix_cs r ≤ 8 ∧ T_X11_wanted a0 μ (fun q => k (n, ls, q.1.toList ++ r, q.2))
  | _ => False
theorem oc_X11_wanted_s {l : Launch} {cc : ByteArray} {nL : Nat} {own : String} {d : Nat} {rt : Option FieldType} {pc n : Nat} (h : ix_S l cc nL own d rt pc (ix_call 1 sh_X11_wanted T_X11_wanted n)) : ix_S l cc nL own d rt pc (oc_X11_wanted n) := by
  refine h.by (fun k Q ls st μ h => ?_) (fun k k' Q ls st μ hk h => ?_)
  · unfold oc_X11_wanted at h
    split at h
    · rename_i t0 a0 r
      obtain ⟨rfl, h1, h2⟩ := h
      exact ⟨h1, a0, rfl, _, h2, fun r h => h⟩
    · exact h.elim
  · unfold oc_X11_wanted at h ⊢
    split at h
    · obtain ⟨rfl, h1, h2⟩ := h
      exact ⟨rfl, h1, mo_X11_wanted _ _ _ _ (fun q hq => hk _ hq) h2⟩
    · exact h.elim
def o_X11_wanted : List (Nat × ix_Op) := [
  (0, ix_push (vi 0) 1),
  (1, ix_istore 1 2),
  (2, ix_push (vi 0) 3),
  (3, ix_istore 2 4),
  (4, ix_iload 2 5),
  (5, ix_push (vi 6) 7),
  (7, ix_cmp (fun x y => y ≤ x) 28 10),
  (10, ix_iload 1 11),
  (11, ix_aload 0 12),
  (12, ix_getr 10 20 (fun _ => 113) 15),
  (15, ix_push (vi 12) 17),
  (17, ix_iload 2 18),
  (18, ix_bin (fun x y => x + y) 19),
  (19, ix_iald 20),
  (20, ix_bin (fun x y => x + y) 21),
  (21, ix_istore 1 22),
  (22, ix_iinc 2 1 25),
  (25, ix_goto 4),
  (28, ix_iload 1 29),
  (29, ix_iret)]
set_option maxRecDepth 20000 in
theorem a_X11_wanted (l : Launch) : ix_AllS l cX11_wanted 3 RX11 1 (some .int) o_X11_wanted :=
  .cons (ix_s_iconst dX11_wanted_0 (by decide +kernel)) <|
  .cons (ix_s_istore_n dX11_wanted_1 rfl (by decide)) <|
  .cons (ix_s_iconst dX11_wanted_2 (by decide +kernel)) <|
  .cons (ix_s_istore_n dX11_wanted_3 rfl (by decide)) <|
  .cons (ix_s_iload_n dX11_wanted_4 rfl) <|
  .cons (ix_s_bipush dX11_wanted_5 (by decide +kernel)) <|
  .cons (ix_s_cmp_ge dX11_wanted_7 (by decide)) <|
  .cons (ix_s_iload_n dX11_wanted_10 rfl) <|
  .cons (ix_s_aload_n dX11_wanted_11 rfl) <|
  .cons (ix_s_getr (j := 0) tu_X11 rfl (by decide) (by decide) tw_875 rfl ts_10_0_r dX11_wanted_12) <|
  .cons (ix_s_bipush dX11_wanted_15 (by decide +kernel)) <|
  .cons (ix_s_iload_n dX11_wanted_17 rfl) <|
  .cons (ix_s_iadd dX11_wanted_18) <|
  .cons (ix_s_iald dX11_wanted_19) <|
  .cons (ix_s_iadd dX11_wanted_20) <|
  .cons (ix_s_istore_n dX11_wanted_21 rfl (by decide)) <|
  .cons (ix_s_iinc dX11_wanted_22 (by decide +kernel) (by decide)) <|
  .cons (ix_s_goto dX11_wanted_25 (by decide)) <|
  .cons (ix_s_iload_n dX11_wanted_28 rfl) <|
  .cons (ix_s_iret dX11_wanted_29 rfl) <| .nil
theorem e_X11_wanted_0 (Q : ix_R → Prop) (ls : ix_L) (st : List ix_V) (μ : ix_M) : ix_Ev o_X11_wanted Q (0, ls, st, μ) = ix_push (vi 0) 1 (ix_Ev o_X11_wanted Q) Q ls st μ := ix_Ev.eq (a_X11_wanted launch0) rfl ls st μ
theorem e_X11_wanted_1 (Q : ix_R → Prop) (ls : ix_L) (st : List ix_V) (μ : ix_M) : ix_Ev o_X11_wanted Q (1, ls, st, μ) = ix_istore 1 2 (ix_Ev o_X11_wanted Q) Q ls st μ := ix_Ev.eq (a_X11_wanted launch0) rfl ls st μ
theorem e_X11_wanted_2 (Q : ix_R → Prop) (ls : ix_L) (st : List ix_V) (μ : ix_M) : ix_Ev o_X11_wanted Q (2, ls, st, μ) = ix_push (vi 0) 3 (ix_Ev o_X11_wanted Q) Q ls st μ := ix_Ev.eq (a_X11_wanted launch0) rfl ls st μ
theorem e_X11_wanted_3 (Q : ix_R → Prop) (ls : ix_L) (st : List ix_V) (μ : ix_M) : ix_Ev o_X11_wanted Q (3, ls, st, μ) = ix_istore 2 4 (ix_Ev o_X11_wanted Q) Q ls st μ := ix_Ev.eq (a_X11_wanted launch0) rfl ls st μ
theorem e_X11_wanted_4 (Q : ix_R → Prop) (ls : ix_L) (st : List ix_V) (μ : ix_M) : ix_Ev o_X11_wanted Q (4, ls, st, μ) = ix_iload 2 5 (ix_Ev o_X11_wanted Q) Q ls st μ := ix_Ev.eq (a_X11_wanted launch0) rfl ls st μ
theorem e_X11_wanted_5 (Q : ix_R → Prop) (ls : ix_L) (st : List ix_V) (μ : ix_M) : ix_Ev o_X11_wanted Q (5, ls, st, μ) = ix_push (vi 6) 7 (ix_Ev o_X11_wanted Q) Q ls st μ := ix_Ev.eq (a_X11_wanted launch0) rfl ls st μ
theorem e_X11_wanted_7 (Q : ix_R → Prop) (ls : ix_L) (st : List ix_V) (μ : ix_M) : ix_Ev o_X11_wanted Q (7, ls, st, μ) = ix_cmp (fun x y => y ≤ x) 28 10 (ix_Ev o_X11_wanted Q) Q ls st μ := ix_Ev.eq (a_X11_wanted launch0) rfl ls st μ
theorem e_X11_wanted_10 (Q : ix_R → Prop) (ls : ix_L) (st : List ix_V) (μ : ix_M) : ix_Ev o_X11_wanted Q (10, ls, st, μ) = ix_iload 1 11 (ix_Ev o_X11_wanted Q) Q ls st μ := ix_Ev.eq (a_X11_wanted launch0) rfl ls st μ
theorem e_X11_wanted_11 (Q : ix_R → Prop) (ls : ix_L) (st : List ix_V) (μ : ix_M) : ix_Ev o_X11_wanted Q (11, ls, st, μ) = ix_aload 0 12 (ix_Ev o_X11_wanted Q) Q ls st μ := ix_Ev.eq (a_X11_wanted launch0) rfl ls st μ
theorem e_X11_wanted_12 (Q : ix_R → Prop) (ls : ix_L) (st : List ix_V) (μ : ix_M) : ix_Ev o_X11_wanted Q (12, ls, st, μ) = ix_getr 10 20 (fun _ => 113) 15 (ix_Ev o_X11_wanted Q) Q ls st μ := ix_Ev.eq (a_X11_wanted launch0) rfl ls st μ
theorem e_X11_wanted_15 (Q : ix_R → Prop) (ls : ix_L) (st : List ix_V) (μ : ix_M) : ix_Ev o_X11_wanted Q (15, ls, st, μ) = ix_push (vi 12) 17 (ix_Ev o_X11_wanted Q) Q ls st μ := ix_Ev.eq (a_X11_wanted launch0) rfl ls st μ
theorem e_X11_wanted_17 (Q : ix_R → Prop) (ls : ix_L) (st : List ix_V) (μ : ix_M) : ix_Ev o_X11_wanted Q (17, ls, st, μ) = ix_iload 2 18 (ix_Ev o_X11_wanted Q) Q ls st μ := ix_Ev.eq (a_X11_wanted launch0) rfl ls st μ
theorem e_X11_wanted_18 (Q : ix_R → Prop) (ls : ix_L) (st : List ix_V) (μ : ix_M) : ix_Ev o_X11_wanted Q (18, ls, st, μ) = ix_bin (fun x y => x + y) 19 (ix_Ev o_X11_wanted Q) Q ls st μ := ix_Ev.eq (a_X11_wanted launch0) rfl ls st μ
theorem e_X11_wanted_19 (Q : ix_R → Prop) (ls : ix_L) (st : List ix_V) (μ : ix_M) : ix_Ev o_X11_wanted Q (19, ls, st, μ) = ix_iald 20 (ix_Ev o_X11_wanted Q) Q ls st μ := ix_Ev.eq (a_X11_wanted launch0) rfl ls st μ
theorem e_X11_wanted_20 (Q : ix_R → Prop) (ls : ix_L) (st : List ix_V) (μ : ix_M) : ix_Ev o_X11_wanted Q (20, ls, st, μ) = ix_bin (fun x y => x + y) 21 (ix_Ev o_X11_wanted Q) Q ls st μ := ix_Ev.eq (a_X11_wanted launch0) rfl ls st μ
theorem e_X11_wanted_21 (Q : ix_R → Prop) (ls : ix_L) (st : List ix_V) (μ : ix_M) : ix_Ev o_X11_wanted Q (21, ls, st, μ) = ix_istore 1 22 (ix_Ev o_X11_wanted Q) Q ls st μ := ix_Ev.eq (a_X11_wanted launch0) rfl ls st μ
theorem e_X11_wanted_22 (Q : ix_R → Prop) (ls : ix_L) (st : List ix_V) (μ : ix_M) : ix_Ev o_X11_wanted Q (22, ls, st, μ) = ix_iinc 2 1 25 (ix_Ev o_X11_wanted Q) Q ls st μ := ix_Ev.eq (a_X11_wanted launch0) rfl ls st μ
theorem e_X11_wanted_25 (Q : ix_R → Prop) (ls : ix_L) (st : List ix_V) (μ : ix_M) : ix_Ev o_X11_wanted Q (25, ls, st, μ) = ix_goto 4 (ix_Ev o_X11_wanted Q) Q ls st μ := ix_Ev.eq (a_X11_wanted launch0) rfl ls st μ
theorem e_X11_wanted_28 (Q : ix_R → Prop) (ls : ix_L) (st : List ix_V) (μ : ix_M) : ix_Ev o_X11_wanted Q (28, ls, st, μ) = ix_iload 1 29 (ix_Ev o_X11_wanted Q) Q ls st μ := ix_Ev.eq (a_X11_wanted launch0) rfl ls st μ
theorem e_X11_wanted_29 (Q : ix_R → Prop) (ls : ix_L) (st : List ix_V) (μ : ix_M) : ix_Ev o_X11_wanted Q (29, ls, st, μ) = ix_iret (ix_Ev o_X11_wanted Q) Q ls st μ := ix_Ev.eq (a_X11_wanted launch0) rfl ls st μ
theorem l_X11_wanted {μ : ix_M} {Q : ix_R → Prop} (hQ : Q (some (vi (mSum (fun c => μ 113 (12 + c)) 6)), μ)) : ∀ k i : Nat, i + k = 6 → ix_Ev o_X11_wanted Q (4, [some (vr 10 112), some (vi (mSum (fun c => μ 113 (12 + c)) i)), some (vi (nI i))], [], μ) := by
  intro k
  induction k with
  | zero =>
    intro i hi
    have hi : i = 6 := hi
    subst hi
    rw [e_X11_wanted_4]
    simp (decide := true) only [e_X11_wanted_0, e_X11_wanted_1, e_X11_wanted_2, e_X11_wanted_3, e_X11_wanted_5, e_X11_wanted_7, e_X11_wanted_10, e_X11_wanted_11, e_X11_wanted_12, e_X11_wanted_15, e_X11_wanted_17, e_X11_wanted_18, e_X11_wanted_19, e_X11_wanted_20, e_X11_wanted_21, e_X11_wanted_22, e_X11_wanted_25, e_X11_wanted_28, e_X11_wanted_29, vi, vl, vr, ix_push, ix_iload, ix_lload, ix_aload, ix_istore, ix_astore, ix_iinc, ix_bin, ix_div, ix_un, ix_i2l, ix_l2i, ix_lbin, ix_lsh, ix_lcmp, ix_dup, ix_dup2, ix_pop, ix_if, ix_cmp, ix_goto, ix_switch, ix_sw, ix_iret, ix_zret, ix_vret, ix_aret, ix_geti, ix_getr, ix_puti, ix_putz, ix_puts, ix_gets, ix_iald, ix_iast, ix_alen, ix_aald, ix_gval, ix_gcod, ix_bald, ix_blen, ix_sald, ix_nret, ix_math2, ix_math1, ix_acopy, ml_113, ml_114, ml_115, ml_116, ml_118, ml_119, ml_120, ml_121, ml_122, ml_123, ml_124, ml_125, ml_126, mv_0, mv_1, mv_2, mv_3, mv_4, mv_5, mB_or, Nat.add_assoc, Int32.reduceLT, Int32.reduceLE, Int32.reduceToNatClampNeg, Int32.reduceSub, Int32.reduceAdd, Nat.reduceAdd, Nat.reduceLeDiff, true_or, or_true, or_false, false_or, not_false_eq_true, not_true_eq_false, false_implies, true_implies, implies_true, and_self, mB_0, mB_01, Classical.not_not, Nat.zero_le, List.getElem?_cons_zero, List.getElem?_cons_succ, List.set_cons_zero, List.set_cons_succ, ix_nl, ix_cs, true_and, and_true, Option.toList_some, Option.toList_none, List.cons_append, List.nil_append]
    exact hQ
  | succ k ih =>
    intro i hi
    have hng : ¬ (6 : Int32) ≤ nI i := by
      rw [fa_lit 6]
      exact nI_ge (by omega) (by decide)
    have h34 : 12 + nI i = nI (12 + i) := nI_add 12 i
    have i34 : vp_in (nI (12 + i)) 256 := vp_in_nI (by omega) (by decide)
    have c34 : (nI (12 + i)).toNatClampNeg = 12 + i := nI_clamp (by omega)
    have hi1 : nI i + 1 = nI (i + 1) := nI_1 i
    rw [e_X11_wanted_4]
    simp (decide := true) only [e_X11_wanted_0, e_X11_wanted_1, e_X11_wanted_2, e_X11_wanted_3, e_X11_wanted_5, e_X11_wanted_7, e_X11_wanted_10, e_X11_wanted_11, e_X11_wanted_12, e_X11_wanted_15, e_X11_wanted_17, e_X11_wanted_18, e_X11_wanted_19, e_X11_wanted_20, e_X11_wanted_21, e_X11_wanted_22, e_X11_wanted_25, e_X11_wanted_28, e_X11_wanted_29, vi, vl, vr, ix_push, ix_iload, ix_lload, ix_aload, ix_istore, ix_astore, ix_iinc, ix_bin, ix_div, ix_un, ix_i2l, ix_l2i, ix_lbin, ix_lsh, ix_lcmp, ix_dup, ix_dup2, ix_pop, ix_if, ix_cmp, ix_goto, ix_switch, ix_sw, ix_iret, ix_zret, ix_vret, ix_aret, ix_geti, ix_getr, ix_puti, ix_putz, ix_puts, ix_gets, ix_iald, ix_iast, ix_alen, ix_aald, ix_gval, ix_gcod, ix_bald, ix_blen, ix_sald, ix_nret, ix_math2, ix_math1, ix_acopy, ml_113, ml_114, ml_115, ml_116, ml_118, ml_119, ml_120, ml_121, ml_122, ml_123, ml_124, ml_125, ml_126, mv_0, mv_1, mv_2, mv_3, mv_4, mv_5, mB_or, Nat.add_assoc, Int32.reduceLT, Int32.reduceLE, Int32.reduceToNatClampNeg, Int32.reduceSub, Int32.reduceAdd, Nat.reduceAdd, Nat.reduceLeDiff, true_or, or_true, or_false, false_or, not_false_eq_true, not_true_eq_false, false_implies, true_implies, implies_true, and_self, mB_0, mB_01, Classical.not_not, Nat.zero_le, List.getElem?_cons_zero, List.getElem?_cons_succ, List.set_cons_zero, List.set_cons_succ, ix_nl, ix_cs, true_and, and_true, Option.toList_some, Option.toList_none, List.cons_append, List.nil_append, hng, h34, i34, c34, hi1]
    exact ih (i + 1) (by omega)
theorem r_X11_wanted (o : Nat) (μ : ix_M) (Q : ix_R → Prop) (ok_o : o < ix_N ∧ ix_tag o = 10) (hT : T_X11_wanted o μ Q) : ix_Ev o_X11_wanted Q (0, [some (vr 10 o), none, none], [], μ) := by
  obtain rfl := ok_10 o ok_o.1 ok_o.2
  simp (decide := true) only [e_X11_wanted_0, e_X11_wanted_1, e_X11_wanted_2, e_X11_wanted_3, e_X11_wanted_5, e_X11_wanted_7, e_X11_wanted_10, e_X11_wanted_11, e_X11_wanted_12, e_X11_wanted_15, e_X11_wanted_17, e_X11_wanted_18, e_X11_wanted_19, e_X11_wanted_20, e_X11_wanted_21, e_X11_wanted_22, e_X11_wanted_25, e_X11_wanted_28, e_X11_wanted_29, vi, vl, vr, ix_push, ix_iload, ix_lload, ix_aload, ix_istore, ix_astore, ix_iinc, ix_bin, ix_div, ix_un, ix_i2l, ix_l2i, ix_lbin, ix_lsh, ix_lcmp, ix_dup, ix_dup2, ix_pop, ix_if, ix_cmp, ix_goto, ix_switch, ix_sw, ix_iret, ix_zret, ix_vret, ix_aret, ix_geti, ix_getr, ix_puti, ix_putz, ix_puts, ix_gets, ix_iald, ix_iast, ix_alen, ix_aald, ix_gval, ix_gcod, ix_bald, ix_blen, ix_sald, ix_nret, ix_math2, ix_math1, ix_acopy, ml_113, ml_114, ml_115, ml_116, ml_118, ml_119, ml_120, ml_121, ml_122, ml_123, ml_124, ml_125, ml_126, mv_0, mv_1, mv_2, mv_3, mv_4, mv_5, mB_or, Nat.add_assoc, Int32.reduceLT, Int32.reduceLE, Int32.reduceToNatClampNeg, Int32.reduceSub, Int32.reduceAdd, Nat.reduceAdd, Nat.reduceLeDiff, true_or, or_true, or_false, false_or, not_false_eq_true, not_true_eq_false, false_implies, true_implies, implies_true, and_self, mB_0, mB_01, Classical.not_not, Nat.zero_le, List.getElem?_cons_zero, List.getElem?_cons_succ, List.set_cons_zero, List.set_cons_succ, ix_nl, ix_cs, true_and, and_true, Option.toList_some, Option.toList_none, List.cons_append, List.nil_append]
  exact l_X11_wanted hT 6 0 (by omega)
theorem k_X11_wanted (l : Launch) : ix_Ct l yX11_wanted cX11_wanted 3 (some .int) 1 sh_X11_wanted T_X11_wanted := ix_ct (a_X11_wanted l) rfl (by decide) (fun _ => Nat.le_of_ble_eq_true rfl) (fun x μ Q hok hT => r_X11_wanted x μ Q (ix_ok_at (hok (vr 10 x) (by simp [sh_X11_wanted])) (by decide) (by decide)) hT)
def T_X11_comes : Nat × Int32 × Int32 → ix_M → (ix_R → Prop) → Prop := fun (_, km, c) μ Q => ∃ N, N < 8 ∧ μ 113 1 = nI N ∧ Q (some (vi (nI N)), ix_up (ix_up (ix_up (ix_up (ix_up μ 113 (50 + 4 * N) (km / 10)) 113 (51 + 4 * N) (rem km 10)) 113 (52 + 4 * N) c) 113 (53 + 4 * N) 0) 113 1 (nI (N + 1)))
def sh_X11_comes (x : Nat × Int32 × Int32) : List ix_V := [vr 10 x.1, vi x.2.1, vi x.2.2]
theorem mo_X11_comes (x : Nat × Int32 × Int32) (μ : ix_M) (Q Q' : ix_R → Prop) (h : ∀ r, Q r → Q' r) (hT : T_X11_comes x μ Q) : T_X11_comes x μ Q' := by
  obtain ⟨a0, a1, a2⟩ := x
  (obtain ⟨N, h1, h2, h3⟩ := hT; exact ⟨N, h1, h2, h _ h3⟩)
def oc_X11_comes (n : Nat) : ix_Op := fun k _ ls st μ => match st with
  | .inl a2 :: .inl a1 :: .inr (.inr (t0, a0)) :: r => t0 = 10 ∧ ix_cs r ≤ 8 ∧ T_X11_comes (a0, a1, a2) μ (fun q => k (n, ls, q.1.toList ++ r, q.2))
  | _ => False
theorem oc_X11_comes_s {l : Launch} {cc : ByteArray} {nL : Nat} {own : String} {d : Nat} {rt : Option FieldType} {pc n : Nat} (h : ix_S l cc nL own d rt pc (ix_call 3 sh_X11_comes T_X11_comes n)) : ix_S l cc nL own d rt pc (oc_X11_comes n) := by
  refine h.by (fun k Q ls st μ h => ?_) (fun k k' Q ls st μ hk h => ?_)
  · unfold oc_X11_comes at h
    split at h
    · rename_i a2 a1 t0 a0 r
      obtain ⟨rfl, h1, h2⟩ := h
      exact ⟨h1, (a0, a1, a2), rfl, _, h2, fun r h => h⟩
    · exact h.elim
  · unfold oc_X11_comes at h ⊢
    split at h
    · obtain ⟨rfl, h1, h2⟩ := h
      exact ⟨rfl, h1, mo_X11_comes _ _ _ _ (fun q hq => hk _ hq) h2⟩
    · exact h.elim
def o_X11_comes : List (Nat × ix_Op) := [
  (0, ix_aload 0 1),
  (1, ix_getr 10 20 (fun _ => 113) 4),
  (4, ix_push (vi 1) 5),
  (5, ix_iald 6),
  (6, ix_istore 3 7),
  (7, ix_aload 0 8),
  (8, ix_getr 10 20 (fun _ => 113) 11),
  (11, ix_iload 3 12),
  (12, ix_push (vi 0) 13),
  (13, oc_X11_boatAt 16),
  (16, ix_iload 1 17),
  (17, ix_push (vi 10) 19),
  (19, ix_div (fun x y => x / y) 20),
  (20, ix_iast 21),
  (21, ix_aload 0 22),
  (22, ix_getr 10 20 (fun _ => 113) 25),
  (25, ix_iload 3 26),
  (26, ix_push (vi 1) 27),
  (27, oc_X11_boatAt 30),
  (30, ix_iload 1 31),
  (31, ix_push (vi 10) 33),
  (33, ix_div (fun x y => x - x / y * y) 34),
  (34, ix_iast 35),
  (35, ix_aload 0 36),
  (36, ix_getr 10 20 (fun _ => 113) 39),
  (39, ix_iload 3 40),
  (40, ix_push (vi 2) 41),
  (41, oc_X11_boatAt 44),
  (44, ix_iload 2 45),
  (45, ix_iast 46),
  (46, ix_aload 0 47),
  (47, ix_getr 10 20 (fun _ => 113) 50),
  (50, ix_iload 3 51),
  (51, ix_push (vi 3) 52),
  (52, oc_X11_boatAt 55),
  (55, ix_push (vi 0) 56),
  (56, ix_iast 57),
  (57, ix_aload 0 58),
  (58, ix_getr 10 20 (fun _ => 113) 61),
  (61, ix_push (vi 1) 62),
  (62, ix_dup2 63),
  (63, ix_iald 64),
  (64, ix_push (vi 1) 65),
  (65, ix_bin (fun x y => x + y) 66),
  (66, ix_iast 67),
  (67, ix_iload 3 68),
  (68, ix_iret)]
set_option maxRecDepth 20000 in
theorem a_X11_comes (l : Launch) : ix_AllS l cX11_comes 4 RX11 2 (some .int) o_X11_comes :=
  .cons (ix_s_aload_n dX11_comes_0 rfl) <|
  .cons (ix_s_getr (j := 0) tu_X11 rfl (by decide) (by decide) tw_875 rfl ts_10_0_r dX11_comes_1) <|
  .cons (ix_s_iconst dX11_comes_4 (by decide +kernel)) <|
  .cons (ix_s_iald dX11_comes_5) <|
  .cons (ix_s_istore_n dX11_comes_6 rfl (by decide)) <|
  .cons (ix_s_aload_n dX11_comes_7 rfl) <|
  .cons (ix_s_getr (j := 0) tu_X11 rfl (by decide) (by decide) tw_875 rfl ts_10_0_r dX11_comes_8) <|
  .cons (ix_s_iload_n dX11_comes_11 rfl) <|
  .cons (ix_s_iconst dX11_comes_12 (by decide +kernel)) <|
  .cons (oc_X11_boatAt_s (ix_s_calls (k_X11_boatAt l) (by decide) (by decide) tw_1086 tw_12 tw_1084 tw_1085 ⟨by decide, by decide, by decide +kernel⟩ (fun _ => rfl) dX11_comes_13)) <|
  .cons (ix_s_iload_n dX11_comes_16 rfl) <|
  .cons (ix_s_bipush dX11_comes_17 (by decide +kernel)) <|
  .cons (ix_s_idiv dX11_comes_19) <|
  .cons (ix_s_iast dX11_comes_20) <|
  .cons (ix_s_aload_n dX11_comes_21 rfl) <|
  .cons (ix_s_getr (j := 0) tu_X11 rfl (by decide) (by decide) tw_875 rfl ts_10_0_r dX11_comes_22) <|
  .cons (ix_s_iload_n dX11_comes_25 rfl) <|
  .cons (ix_s_iconst dX11_comes_26 (by decide +kernel)) <|
  .cons (oc_X11_boatAt_s (ix_s_calls (k_X11_boatAt l) (by decide) (by decide) tw_1086 tw_12 tw_1084 tw_1085 ⟨by decide, by decide, by decide +kernel⟩ (fun _ => rfl) dX11_comes_27)) <|
  .cons (ix_s_iload_n dX11_comes_30 rfl) <|
  .cons (ix_s_bipush dX11_comes_31 (by decide +kernel)) <|
  .cons (ix_s_irem dX11_comes_33) <|
  .cons (ix_s_iast dX11_comes_34) <|
  .cons (ix_s_aload_n dX11_comes_35 rfl) <|
  .cons (ix_s_getr (j := 0) tu_X11 rfl (by decide) (by decide) tw_875 rfl ts_10_0_r dX11_comes_36) <|
  .cons (ix_s_iload_n dX11_comes_39 rfl) <|
  .cons (ix_s_iconst dX11_comes_40 (by decide +kernel)) <|
  .cons (oc_X11_boatAt_s (ix_s_calls (k_X11_boatAt l) (by decide) (by decide) tw_1086 tw_12 tw_1084 tw_1085 ⟨by decide, by decide, by decide +kernel⟩ (fun _ => rfl) dX11_comes_41)) <|
  .cons (ix_s_iload_n dX11_comes_44 rfl) <|
  .cons (ix_s_iast dX11_comes_45) <|
  .cons (ix_s_aload_n dX11_comes_46 rfl) <|
  .cons (ix_s_getr (j := 0) tu_X11 rfl (by decide) (by decide) tw_875 rfl ts_10_0_r dX11_comes_47) <|
  .cons (ix_s_iload_n dX11_comes_50 rfl) <|
  .cons (ix_s_iconst dX11_comes_51 (by decide +kernel)) <|
  .cons (oc_X11_boatAt_s (ix_s_calls (k_X11_boatAt l) (by decide) (by decide) tw_1086 tw_12 tw_1084 tw_1085 ⟨by decide, by decide, by decide +kernel⟩ (fun _ => rfl) dX11_comes_52)) <|
  .cons (ix_s_iconst dX11_comes_55 (by decide +kernel)) <|
  .cons (ix_s_iast dX11_comes_56) <|
  .cons (ix_s_aload_n dX11_comes_57 rfl) <|
  .cons (ix_s_getr (j := 0) tu_X11 rfl (by decide) (by decide) tw_875 rfl ts_10_0_r dX11_comes_58) <|
  .cons (ix_s_iconst dX11_comes_61 (by decide +kernel)) <|
  .cons (ix_s_dup2 dX11_comes_62) <|
  .cons (ix_s_iald dX11_comes_63) <|
  .cons (ix_s_iconst dX11_comes_64 (by decide +kernel)) <|
  .cons (ix_s_iadd dX11_comes_65) <|
  .cons (ix_s_iast dX11_comes_66) <|
  .cons (ix_s_iload_n dX11_comes_67 rfl) <|
  .cons (ix_s_iret dX11_comes_68 rfl) <| .nil
theorem e_X11_comes_0 (Q : ix_R → Prop) (ls : ix_L) (st : List ix_V) (μ : ix_M) : ix_Ev o_X11_comes Q (0, ls, st, μ) = ix_aload 0 1 (ix_Ev o_X11_comes Q) Q ls st μ := ix_Ev.eq (a_X11_comes launch0) rfl ls st μ
theorem e_X11_comes_1 (Q : ix_R → Prop) (ls : ix_L) (st : List ix_V) (μ : ix_M) : ix_Ev o_X11_comes Q (1, ls, st, μ) = ix_getr 10 20 (fun _ => 113) 4 (ix_Ev o_X11_comes Q) Q ls st μ := ix_Ev.eq (a_X11_comes launch0) rfl ls st μ
theorem e_X11_comes_4 (Q : ix_R → Prop) (ls : ix_L) (st : List ix_V) (μ : ix_M) : ix_Ev o_X11_comes Q (4, ls, st, μ) = ix_push (vi 1) 5 (ix_Ev o_X11_comes Q) Q ls st μ := ix_Ev.eq (a_X11_comes launch0) rfl ls st μ
theorem e_X11_comes_5 (Q : ix_R → Prop) (ls : ix_L) (st : List ix_V) (μ : ix_M) : ix_Ev o_X11_comes Q (5, ls, st, μ) = ix_iald 6 (ix_Ev o_X11_comes Q) Q ls st μ := ix_Ev.eq (a_X11_comes launch0) rfl ls st μ
theorem e_X11_comes_6 (Q : ix_R → Prop) (ls : ix_L) (st : List ix_V) (μ : ix_M) : ix_Ev o_X11_comes Q (6, ls, st, μ) = ix_istore 3 7 (ix_Ev o_X11_comes Q) Q ls st μ := ix_Ev.eq (a_X11_comes launch0) rfl ls st μ
theorem e_X11_comes_7 (Q : ix_R → Prop) (ls : ix_L) (st : List ix_V) (μ : ix_M) : ix_Ev o_X11_comes Q (7, ls, st, μ) = ix_aload 0 8 (ix_Ev o_X11_comes Q) Q ls st μ := ix_Ev.eq (a_X11_comes launch0) rfl ls st μ
theorem e_X11_comes_8 (Q : ix_R → Prop) (ls : ix_L) (st : List ix_V) (μ : ix_M) : ix_Ev o_X11_comes Q (8, ls, st, μ) = ix_getr 10 20 (fun _ => 113) 11 (ix_Ev o_X11_comes Q) Q ls st μ := ix_Ev.eq (a_X11_comes launch0) rfl ls st μ
theorem e_X11_comes_11 (Q : ix_R → Prop) (ls : ix_L) (st : List ix_V) (μ : ix_M) : ix_Ev o_X11_comes Q (11, ls, st, μ) = ix_iload 3 12 (ix_Ev o_X11_comes Q) Q ls st μ := ix_Ev.eq (a_X11_comes launch0) rfl ls st μ
theorem e_X11_comes_12 (Q : ix_R → Prop) (ls : ix_L) (st : List ix_V) (μ : ix_M) : ix_Ev o_X11_comes Q (12, ls, st, μ) = ix_push (vi 0) 13 (ix_Ev o_X11_comes Q) Q ls st μ := ix_Ev.eq (a_X11_comes launch0) rfl ls st μ
theorem e_X11_comes_13 (Q : ix_R → Prop) (ls : ix_L) (st : List ix_V) (μ : ix_M) : ix_Ev o_X11_comes Q (13, ls, st, μ) = oc_X11_boatAt 16 (ix_Ev o_X11_comes Q) Q ls st μ := ix_Ev.eq (a_X11_comes launch0) rfl ls st μ
theorem e_X11_comes_16 (Q : ix_R → Prop) (ls : ix_L) (st : List ix_V) (μ : ix_M) : ix_Ev o_X11_comes Q (16, ls, st, μ) = ix_iload 1 17 (ix_Ev o_X11_comes Q) Q ls st μ := ix_Ev.eq (a_X11_comes launch0) rfl ls st μ
theorem e_X11_comes_17 (Q : ix_R → Prop) (ls : ix_L) (st : List ix_V) (μ : ix_M) : ix_Ev o_X11_comes Q (17, ls, st, μ) = ix_push (vi 10) 19 (ix_Ev o_X11_comes Q) Q ls st μ := ix_Ev.eq (a_X11_comes launch0) rfl ls st μ
theorem e_X11_comes_19 (Q : ix_R → Prop) (ls : ix_L) (st : List ix_V) (μ : ix_M) : ix_Ev o_X11_comes Q (19, ls, st, μ) = ix_div (fun x y => x / y) 20 (ix_Ev o_X11_comes Q) Q ls st μ := ix_Ev.eq (a_X11_comes launch0) rfl ls st μ
theorem e_X11_comes_20 (Q : ix_R → Prop) (ls : ix_L) (st : List ix_V) (μ : ix_M) : ix_Ev o_X11_comes Q (20, ls, st, μ) = ix_iast 21 (ix_Ev o_X11_comes Q) Q ls st μ := ix_Ev.eq (a_X11_comes launch0) rfl ls st μ
theorem e_X11_comes_21 (Q : ix_R → Prop) (ls : ix_L) (st : List ix_V) (μ : ix_M) : ix_Ev o_X11_comes Q (21, ls, st, μ) = ix_aload 0 22 (ix_Ev o_X11_comes Q) Q ls st μ := ix_Ev.eq (a_X11_comes launch0) rfl ls st μ
theorem e_X11_comes_22 (Q : ix_R → Prop) (ls : ix_L) (st : List ix_V) (μ : ix_M) : ix_Ev o_X11_comes Q (22, ls, st, μ) = ix_getr 10 20 (fun _ => 113) 25 (ix_Ev o_X11_comes Q) Q ls st μ := ix_Ev.eq (a_X11_comes launch0) rfl ls st μ
theorem e_X11_comes_25 (Q : ix_R → Prop) (ls : ix_L) (st : List ix_V) (μ : ix_M) : ix_Ev o_X11_comes Q (25, ls, st, μ) = ix_iload 3 26 (ix_Ev o_X11_comes Q) Q ls st μ := ix_Ev.eq (a_X11_comes launch0) rfl ls st μ
theorem e_X11_comes_26 (Q : ix_R → Prop) (ls : ix_L) (st : List ix_V) (μ : ix_M) : ix_Ev o_X11_comes Q (26, ls, st, μ) = ix_push (vi 1) 27 (ix_Ev o_X11_comes Q) Q ls st μ := ix_Ev.eq (a_X11_comes launch0) rfl ls st μ
theorem e_X11_comes_27 (Q : ix_R → Prop) (ls : ix_L) (st : List ix_V) (μ : ix_M) : ix_Ev o_X11_comes Q (27, ls, st, μ) = oc_X11_boatAt 30 (ix_Ev o_X11_comes Q) Q ls st μ := ix_Ev.eq (a_X11_comes launch0) rfl ls st μ
theorem e_X11_comes_30 (Q : ix_R → Prop) (ls : ix_L) (st : List ix_V) (μ : ix_M) : ix_Ev o_X11_comes Q (30, ls, st, μ) = ix_iload 1 31 (ix_Ev o_X11_comes Q) Q ls st μ := ix_Ev.eq (a_X11_comes launch0) rfl ls st μ
theorem e_X11_comes_31 (Q : ix_R → Prop) (ls : ix_L) (st : List ix_V) (μ : ix_M) : ix_Ev o_X11_comes Q (31, ls, st, μ) = ix_push (vi 10) 33 (ix_Ev o_X11_comes Q) Q ls st μ := ix_Ev.eq (a_X11_comes launch0) rfl ls st μ
theorem e_X11_comes_33 (Q : ix_R → Prop) (ls : ix_L) (st : List ix_V) (μ : ix_M) : ix_Ev o_X11_comes Q (33, ls, st, μ) = ix_div (fun x y => x - x / y * y) 34 (ix_Ev o_X11_comes Q) Q ls st μ := ix_Ev.eq (a_X11_comes launch0) rfl ls st μ
theorem e_X11_comes_34 (Q : ix_R → Prop) (ls : ix_L) (st : List ix_V) (μ : ix_M) : ix_Ev o_X11_comes Q (34, ls, st, μ) = ix_iast 35 (ix_Ev o_X11_comes Q) Q ls st μ := ix_Ev.eq (a_X11_comes launch0) rfl ls st μ
theorem e_X11_comes_35 (Q : ix_R → Prop) (ls : ix_L) (st : List ix_V) (μ : ix_M) : ix_Ev o_X11_comes Q (35, ls, st, μ) = ix_aload 0 36 (ix_Ev o_X11_comes Q) Q ls st μ := ix_Ev.eq (a_X11_comes launch0) rfl ls st μ
theorem e_X11_comes_36 (Q : ix_R → Prop) (ls : ix_L) (st : List ix_V) (μ : ix_M) : ix_Ev o_X11_comes Q (36, ls, st, μ) = ix_getr 10 20 (fun _ => 113) 39 (ix_Ev o_X11_comes Q) Q ls st μ := ix_Ev.eq (a_X11_comes launch0) rfl ls st μ
theorem e_X11_comes_39 (Q : ix_R → Prop) (ls : ix_L) (st : List ix_V) (μ : ix_M) : ix_Ev o_X11_comes Q (39, ls, st, μ) = ix_iload 3 40 (ix_Ev o_X11_comes Q) Q ls st μ := ix_Ev.eq (a_X11_comes launch0) rfl ls st μ
theorem e_X11_comes_40 (Q : ix_R → Prop) (ls : ix_L) (st : List ix_V) (μ : ix_M) : ix_Ev o_X11_comes Q (40, ls, st, μ) = ix_push (vi 2) 41 (ix_Ev o_X11_comes Q) Q ls st μ := ix_Ev.eq (a_X11_comes launch0) rfl ls st μ
theorem e_X11_comes_41 (Q : ix_R → Prop) (ls : ix_L) (st : List ix_V) (μ : ix_M) : ix_Ev o_X11_comes Q (41, ls, st, μ) = oc_X11_boatAt 44 (ix_Ev o_X11_comes Q) Q ls st μ := ix_Ev.eq (a_X11_comes launch0) rfl ls st μ
theorem e_X11_comes_44 (Q : ix_R → Prop) (ls : ix_L) (st : List ix_V) (μ : ix_M) : ix_Ev o_X11_comes Q (44, ls, st, μ) = ix_iload 2 45 (ix_Ev o_X11_comes Q) Q ls st μ := ix_Ev.eq (a_X11_comes launch0) rfl ls st μ
theorem e_X11_comes_45 (Q : ix_R → Prop) (ls : ix_L) (st : List ix_V) (μ : ix_M) : ix_Ev o_X11_comes Q (45, ls, st, μ) = ix_iast 46 (ix_Ev o_X11_comes Q) Q ls st μ := ix_Ev.eq (a_X11_comes launch0) rfl ls st μ
theorem e_X11_comes_46 (Q : ix_R → Prop) (ls : ix_L) (st : List ix_V) (μ : ix_M) : ix_Ev o_X11_comes Q (46, ls, st, μ) = ix_aload 0 47 (ix_Ev o_X11_comes Q) Q ls st μ := ix_Ev.eq (a_X11_comes launch0) rfl ls st μ
theorem e_X11_comes_47 (Q : ix_R → Prop) (ls : ix_L) (st : List ix_V) (μ : ix_M) : ix_Ev o_X11_comes Q (47, ls, st, μ) = ix_getr 10 20 (fun _ => 113) 50 (ix_Ev o_X11_comes Q) Q ls st μ := ix_Ev.eq (a_X11_comes launch0) rfl ls st μ
theorem e_X11_comes_50 (Q : ix_R → Prop) (ls : ix_L) (st : List ix_V) (μ : ix_M) : ix_Ev o_X11_comes Q (50, ls, st, μ) = ix_iload 3 51 (ix_Ev o_X11_comes Q) Q ls st μ := ix_Ev.eq (a_X11_comes launch0) rfl ls st μ
theorem e_X11_comes_51 (Q : ix_R → Prop) (ls : ix_L) (st : List ix_V) (μ : ix_M) : ix_Ev o_X11_comes Q (51, ls, st, μ) = ix_push (vi 3) 52 (ix_Ev o_X11_comes Q) Q ls st μ := ix_Ev.eq (a_X11_comes launch0) rfl ls st μ
theorem e_X11_comes_52 (Q : ix_R → Prop) (ls : ix_L) (st : List ix_V) (μ : ix_M) : ix_Ev o_X11_comes Q (52, ls, st, μ) = oc_X11_boatAt 55 (ix_Ev o_X11_comes Q) Q ls st μ := ix_Ev.eq (a_X11_comes launch0) rfl ls st μ
theorem e_X11_comes_55 (Q : ix_R → Prop) (ls : ix_L) (st : List ix_V) (μ : ix_M) : ix_Ev o_X11_comes Q (55, ls, st, μ) = ix_push (vi 0) 56 (ix_Ev o_X11_comes Q) Q ls st μ := ix_Ev.eq (a_X11_comes launch0) rfl ls st μ
theorem e_X11_comes_56 (Q : ix_R → Prop) (ls : ix_L) (st : List ix_V) (μ : ix_M) : ix_Ev o_X11_comes Q (56, ls, st, μ) = ix_iast 57 (ix_Ev o_X11_comes Q) Q ls st μ := ix_Ev.eq (a_X11_comes launch0) rfl ls st μ
theorem e_X11_comes_57 (Q : ix_R → Prop) (ls : ix_L) (st : List ix_V) (μ : ix_M) : ix_Ev o_X11_comes Q (57, ls, st, μ) = ix_aload 0 58 (ix_Ev o_X11_comes Q) Q ls st μ := ix_Ev.eq (a_X11_comes launch0) rfl ls st μ
theorem e_X11_comes_58 (Q : ix_R → Prop) (ls : ix_L) (st : List ix_V) (μ : ix_M) : ix_Ev o_X11_comes Q (58, ls, st, μ) = ix_getr 10 20 (fun _ => 113) 61 (ix_Ev o_X11_comes Q) Q ls st μ := ix_Ev.eq (a_X11_comes launch0) rfl ls st μ
theorem e_X11_comes_61 (Q : ix_R → Prop) (ls : ix_L) (st : List ix_V) (μ : ix_M) : ix_Ev o_X11_comes Q (61, ls, st, μ) = ix_push (vi 1) 62 (ix_Ev o_X11_comes Q) Q ls st μ := ix_Ev.eq (a_X11_comes launch0) rfl ls st μ
theorem e_X11_comes_62 (Q : ix_R → Prop) (ls : ix_L) (st : List ix_V) (μ : ix_M) : ix_Ev o_X11_comes Q (62, ls, st, μ) = ix_dup2 63 (ix_Ev o_X11_comes Q) Q ls st μ := ix_Ev.eq (a_X11_comes launch0) rfl ls st μ
theorem e_X11_comes_63 (Q : ix_R → Prop) (ls : ix_L) (st : List ix_V) (μ : ix_M) : ix_Ev o_X11_comes Q (63, ls, st, μ) = ix_iald 64 (ix_Ev o_X11_comes Q) Q ls st μ := ix_Ev.eq (a_X11_comes launch0) rfl ls st μ
theorem e_X11_comes_64 (Q : ix_R → Prop) (ls : ix_L) (st : List ix_V) (μ : ix_M) : ix_Ev o_X11_comes Q (64, ls, st, μ) = ix_push (vi 1) 65 (ix_Ev o_X11_comes Q) Q ls st μ := ix_Ev.eq (a_X11_comes launch0) rfl ls st μ
theorem e_X11_comes_65 (Q : ix_R → Prop) (ls : ix_L) (st : List ix_V) (μ : ix_M) : ix_Ev o_X11_comes Q (65, ls, st, μ) = ix_bin (fun x y => x + y) 66 (ix_Ev o_X11_comes Q) Q ls st μ := ix_Ev.eq (a_X11_comes launch0) rfl ls st μ
theorem e_X11_comes_66 (Q : ix_R → Prop) (ls : ix_L) (st : List ix_V) (μ : ix_M) : ix_Ev o_X11_comes Q (66, ls, st, μ) = ix_iast 67 (ix_Ev o_X11_comes Q) Q ls st μ := ix_Ev.eq (a_X11_comes launch0) rfl ls st μ
theorem e_X11_comes_67 (Q : ix_R → Prop) (ls : ix_L) (st : List ix_V) (μ : ix_M) : ix_Ev o_X11_comes Q (67, ls, st, μ) = ix_iload 3 68 (ix_Ev o_X11_comes Q) Q ls st μ := ix_Ev.eq (a_X11_comes launch0) rfl ls st μ
theorem e_X11_comes_68 (Q : ix_R → Prop) (ls : ix_L) (st : List ix_V) (μ : ix_M) : ix_Ev o_X11_comes Q (68, ls, st, μ) = ix_iret (ix_Ev o_X11_comes Q) Q ls st μ := ix_Ev.eq (a_X11_comes launch0) rfl ls st μ
theorem r_X11_comes (o : Nat) (km : Int32) (c : Int32) (μ : ix_M) (Q : ix_R → Prop) (ok_o : o < ix_N ∧ ix_tag o = 10) (hT : T_X11_comes (o, km, c) μ Q) : ix_Ev o_X11_comes Q (0, [some (vr 10 o), some (vi km), some (vi c), none], [], μ) := by
  obtain rfl := ok_10 o ok_o.1 ok_o.2
  obtain ⟨N, hN, hn, hQ⟩ := hT
  have hx := bx N hN
  have hn1 : nI N + 1 = nI (N + 1) := nI_1 N
  simp (decide := true) only [e_X11_comes_0, e_X11_comes_1, e_X11_comes_4, e_X11_comes_5, e_X11_comes_6, e_X11_comes_7, e_X11_comes_8, e_X11_comes_11, e_X11_comes_12, e_X11_comes_13, e_X11_comes_16, e_X11_comes_17, e_X11_comes_19, e_X11_comes_20, e_X11_comes_21, e_X11_comes_22, e_X11_comes_25, e_X11_comes_26, e_X11_comes_27, e_X11_comes_30, e_X11_comes_31, e_X11_comes_33, e_X11_comes_34, e_X11_comes_35, e_X11_comes_36, e_X11_comes_39, e_X11_comes_40, e_X11_comes_41, e_X11_comes_44, e_X11_comes_45, e_X11_comes_46, e_X11_comes_47, e_X11_comes_50, e_X11_comes_51, e_X11_comes_52, e_X11_comes_55, e_X11_comes_56, e_X11_comes_57, e_X11_comes_58, e_X11_comes_61, e_X11_comes_62, e_X11_comes_63, e_X11_comes_64, e_X11_comes_65, e_X11_comes_66, e_X11_comes_67, e_X11_comes_68, vi, vl, vr, oc_X11_boatAt, T_X11_boatAt, ix_push, ix_iload, ix_lload, ix_aload, ix_istore, ix_astore, ix_iinc, ix_bin, ix_div, ix_un, ix_i2l, ix_l2i, ix_lbin, ix_lsh, ix_lcmp, ix_dup, ix_dup2, ix_pop, ix_if, ix_cmp, ix_goto, ix_switch, ix_sw, ix_iret, ix_zret, ix_vret, ix_aret, ix_geti, ix_getr, ix_puti, ix_putz, ix_puts, ix_gets, ix_iald, ix_iast, ix_alen, ix_aald, ix_gval, ix_gcod, ix_bald, ix_blen, ix_sald, ix_nret, ix_math2, ix_math1, ix_acopy, ml_113, ml_114, ml_115, ml_116, ml_118, ml_119, ml_120, ml_121, ml_122, ml_123, ml_124, ml_125, ml_126, mv_0, mv_1, mv_2, mv_3, mv_4, mv_5, mB_or, Nat.add_assoc, Int32.reduceLT, Int32.reduceLE, Int32.reduceToNatClampNeg, Int32.reduceSub, Int32.reduceAdd, Nat.reduceAdd, Nat.reduceLeDiff, true_or, or_true, or_false, false_or, not_false_eq_true, not_true_eq_false, false_implies, true_implies, implies_true, and_self, mB_0, mB_01, Classical.not_not, Nat.zero_le, List.getElem?_cons_zero, List.getElem?_cons_succ, List.set_cons_zero, List.set_cons_succ, ix_nl, ix_cs, true_and, and_true, Option.toList_some, Option.toList_none, List.cons_append, List.nil_append, hn, hx]
  have e1 : ∀ j x (ν : ix_M), j ≠ 1 → ix_up ν 113 j x 113 1 = ν 113 1 := fun j x ν hj => by rw [ix_up_ap, if_neg (by omega)]
  simp only [e1 _ _ _ (show 53 + 4 * N ≠ 1 by omega), e1 _ _ _ (show 52 + 4 * N ≠ 1 by omega), e1 _ _ _ (show 51 + 4 * N ≠ 1 by omega), e1 _ _ _ (show 50 + 4 * N ≠ 1 by omega), hn, hn1]
  exact hQ
theorem k_X11_comes (l : Launch) : ix_Ct l yX11_comes cX11_comes 4 (some .int) 2 sh_X11_comes T_X11_comes := ix_ct (a_X11_comes l) rfl (by decide) (fun _ => Nat.le_of_ble_eq_true rfl) (fun x μ Q hok hT => r_X11_comes x.1 x.2.1 x.2.2 μ Q (ix_ok_at (hok (vr 10 x.1) (by simp [sh_X11_comes])) (by decide) (by decide)) hT)
def T_X11_serves : Nat × Int32 × Int32 → ix_M → (ix_R → Prop) → Prop := fun (_, w, b) μ Q => ∃ W B, w = nI W ∧ W < 6 ∧ b = nI B ∧ B ≤ 8 ∧ Q (some (vi (if B = 8 then 0 else mMin (μ 113 (12 + W)) (μ 113 (53 + 4 * B)))), μ)
def sh_X11_serves (x : Nat × Int32 × Int32) : List ix_V := [vr 10 x.1, vi x.2.1, vi x.2.2]
theorem mo_X11_serves (x : Nat × Int32 × Int32) (μ : ix_M) (Q Q' : ix_R → Prop) (h : ∀ r, Q r → Q' r) (hT : T_X11_serves x μ Q) : T_X11_serves x μ Q' := by
  obtain ⟨a0, a1, a2⟩ := x
  (obtain ⟨W, B, h1, h2, h3, h4, h5⟩ := hT; exact ⟨W, B, h1, h2, h3, h4, h _ h5⟩)
def oc_X11_serves (n : Nat) : ix_Op := fun k _ ls st μ => match st with
  | .inl a2 :: .inl a1 :: .inr (.inr (t0, a0)) :: r => t0 = 10 ∧ ix_cs r ≤ 8 ∧ T_X11_serves (a0, a1, a2) μ (fun q => k (n, ls, q.1.toList ++ r, q.2))
  | _ => False
theorem oc_X11_serves_s {l : Launch} {cc : ByteArray} {nL : Nat} {own : String} {d : Nat} {rt : Option FieldType} {pc n : Nat} (h : ix_S l cc nL own d rt pc (ix_call 3 sh_X11_serves T_X11_serves n)) : ix_S l cc nL own d rt pc (oc_X11_serves n) := by
  refine h.by (fun k Q ls st μ h => ?_) (fun k k' Q ls st μ hk h => ?_)
  · unfold oc_X11_serves at h
    split at h
    · rename_i a2 a1 t0 a0 r
      obtain ⟨rfl, h1, h2⟩ := h
      exact ⟨h1, (a0, a1, a2), rfl, _, h2, fun r h => h⟩
    · exact h.elim
  · unfold oc_X11_serves at h ⊢
    split at h
    · obtain ⟨rfl, h1, h2⟩ := h
      exact ⟨rfl, h1, mo_X11_serves _ _ _ _ (fun q hq => hk _ hq) h2⟩
    · exact h.elim
def o_X11_serves : List (Nat × ix_Op) := [
  (0, ix_iload 2 1),
  (1, ix_push (vi 8) 3),
  (3, ix_cmp (fun x y => x = y) 6 10),
  (6, ix_push (vi 0) 7),
  (7, ix_goto 28),
  (10, ix_aload 0 11),
  (11, ix_getr 10 20 (fun _ => 113) 14),
  (14, ix_push (vi 12) 16),
  (16, ix_iload 1 17),
  (17, ix_bin (fun x y => x + y) 18),
  (18, ix_iald 19),
  (19, ix_aload 0 20),
  (20, ix_iload 2 21),
  (21, ix_push (vi 3) 22),
  (22, oc_X11_boatIs 25),
  (25, ix_math2 (fun x y => if y < x then y else x) 28),
  (28, ix_iret)]
set_option maxRecDepth 20000 in
theorem a_X11_serves (l : Launch) : ix_AllS l cX11_serves 3 RX11 3 (some .int) o_X11_serves :=
  .cons (ix_s_iload_n dX11_serves_0 rfl) <|
  .cons (ix_s_bipush dX11_serves_1 (by decide +kernel)) <|
  .cons (ix_s_cmp_ne dX11_serves_3 (by decide)) <|
  .cons (ix_s_iconst dX11_serves_6 (by decide +kernel)) <|
  .cons (ix_s_goto dX11_serves_7 (by decide)) <|
  .cons (ix_s_aload_n dX11_serves_10 rfl) <|
  .cons (ix_s_getr (j := 0) tu_X11 rfl (by decide) (by decide) tw_875 rfl ts_10_0_r dX11_serves_11) <|
  .cons (ix_s_bipush dX11_serves_14 (by decide +kernel)) <|
  .cons (ix_s_iload_n dX11_serves_16 rfl) <|
  .cons (ix_s_iadd dX11_serves_17) <|
  .cons (ix_s_iald dX11_serves_18) <|
  .cons (ix_s_aload_n dX11_serves_19 rfl) <|
  .cons (ix_s_iload_n dX11_serves_20 rfl) <|
  .cons (ix_s_iconst dX11_serves_21 (by decide +kernel)) <|
  .cons (oc_X11_boatIs_s (ix_s_callv (t := 10) (k_X11_boatIs l) (by decide) (by decide) tw_1083 tw_12 tw_1080 tw_1082 tp_34 ⟨by decide, by decide, by decide +kernel⟩ (by decide) rfl rfl (fun _ => ⟨_, _, rfl, rfl⟩) dX11_serves_22)) <|
  .cons (ix_s_mmin tw_1056 tw_328 tw_7 tw_329 (by decide) dX11_serves_25) <|
  .cons (ix_s_iret dX11_serves_28 rfl) <| .nil
theorem e_X11_serves_0 (Q : ix_R → Prop) (ls : ix_L) (st : List ix_V) (μ : ix_M) : ix_Ev o_X11_serves Q (0, ls, st, μ) = ix_iload 2 1 (ix_Ev o_X11_serves Q) Q ls st μ := ix_Ev.eq (a_X11_serves launch0) rfl ls st μ
theorem e_X11_serves_1 (Q : ix_R → Prop) (ls : ix_L) (st : List ix_V) (μ : ix_M) : ix_Ev o_X11_serves Q (1, ls, st, μ) = ix_push (vi 8) 3 (ix_Ev o_X11_serves Q) Q ls st μ := ix_Ev.eq (a_X11_serves launch0) rfl ls st μ
theorem e_X11_serves_3 (Q : ix_R → Prop) (ls : ix_L) (st : List ix_V) (μ : ix_M) : ix_Ev o_X11_serves Q (3, ls, st, μ) = ix_cmp (fun x y => x = y) 6 10 (ix_Ev o_X11_serves Q) Q ls st μ := ix_Ev.eq (a_X11_serves launch0) rfl ls st μ
theorem e_X11_serves_6 (Q : ix_R → Prop) (ls : ix_L) (st : List ix_V) (μ : ix_M) : ix_Ev o_X11_serves Q (6, ls, st, μ) = ix_push (vi 0) 7 (ix_Ev o_X11_serves Q) Q ls st μ := ix_Ev.eq (a_X11_serves launch0) rfl ls st μ
theorem e_X11_serves_7 (Q : ix_R → Prop) (ls : ix_L) (st : List ix_V) (μ : ix_M) : ix_Ev o_X11_serves Q (7, ls, st, μ) = ix_goto 28 (ix_Ev o_X11_serves Q) Q ls st μ := ix_Ev.eq (a_X11_serves launch0) rfl ls st μ
theorem e_X11_serves_10 (Q : ix_R → Prop) (ls : ix_L) (st : List ix_V) (μ : ix_M) : ix_Ev o_X11_serves Q (10, ls, st, μ) = ix_aload 0 11 (ix_Ev o_X11_serves Q) Q ls st μ := ix_Ev.eq (a_X11_serves launch0) rfl ls st μ
theorem e_X11_serves_11 (Q : ix_R → Prop) (ls : ix_L) (st : List ix_V) (μ : ix_M) : ix_Ev o_X11_serves Q (11, ls, st, μ) = ix_getr 10 20 (fun _ => 113) 14 (ix_Ev o_X11_serves Q) Q ls st μ := ix_Ev.eq (a_X11_serves launch0) rfl ls st μ
theorem e_X11_serves_14 (Q : ix_R → Prop) (ls : ix_L) (st : List ix_V) (μ : ix_M) : ix_Ev o_X11_serves Q (14, ls, st, μ) = ix_push (vi 12) 16 (ix_Ev o_X11_serves Q) Q ls st μ := ix_Ev.eq (a_X11_serves launch0) rfl ls st μ
theorem e_X11_serves_16 (Q : ix_R → Prop) (ls : ix_L) (st : List ix_V) (μ : ix_M) : ix_Ev o_X11_serves Q (16, ls, st, μ) = ix_iload 1 17 (ix_Ev o_X11_serves Q) Q ls st μ := ix_Ev.eq (a_X11_serves launch0) rfl ls st μ
theorem e_X11_serves_17 (Q : ix_R → Prop) (ls : ix_L) (st : List ix_V) (μ : ix_M) : ix_Ev o_X11_serves Q (17, ls, st, μ) = ix_bin (fun x y => x + y) 18 (ix_Ev o_X11_serves Q) Q ls st μ := ix_Ev.eq (a_X11_serves launch0) rfl ls st μ
theorem e_X11_serves_18 (Q : ix_R → Prop) (ls : ix_L) (st : List ix_V) (μ : ix_M) : ix_Ev o_X11_serves Q (18, ls, st, μ) = ix_iald 19 (ix_Ev o_X11_serves Q) Q ls st μ := ix_Ev.eq (a_X11_serves launch0) rfl ls st μ
theorem e_X11_serves_19 (Q : ix_R → Prop) (ls : ix_L) (st : List ix_V) (μ : ix_M) : ix_Ev o_X11_serves Q (19, ls, st, μ) = ix_aload 0 20 (ix_Ev o_X11_serves Q) Q ls st μ := ix_Ev.eq (a_X11_serves launch0) rfl ls st μ
theorem e_X11_serves_20 (Q : ix_R → Prop) (ls : ix_L) (st : List ix_V) (μ : ix_M) : ix_Ev o_X11_serves Q (20, ls, st, μ) = ix_iload 2 21 (ix_Ev o_X11_serves Q) Q ls st μ := ix_Ev.eq (a_X11_serves launch0) rfl ls st μ
theorem e_X11_serves_21 (Q : ix_R → Prop) (ls : ix_L) (st : List ix_V) (μ : ix_M) : ix_Ev o_X11_serves Q (21, ls, st, μ) = ix_push (vi 3) 22 (ix_Ev o_X11_serves Q) Q ls st μ := ix_Ev.eq (a_X11_serves launch0) rfl ls st μ
theorem e_X11_serves_22 (Q : ix_R → Prop) (ls : ix_L) (st : List ix_V) (μ : ix_M) : ix_Ev o_X11_serves Q (22, ls, st, μ) = oc_X11_boatIs 25 (ix_Ev o_X11_serves Q) Q ls st μ := ix_Ev.eq (a_X11_serves launch0) rfl ls st μ
theorem e_X11_serves_25 (Q : ix_R → Prop) (ls : ix_L) (st : List ix_V) (μ : ix_M) : ix_Ev o_X11_serves Q (25, ls, st, μ) = ix_math2 (fun x y => if y < x then y else x) 28 (ix_Ev o_X11_serves Q) Q ls st μ := ix_Ev.eq (a_X11_serves launch0) rfl ls st μ
theorem e_X11_serves_28 (Q : ix_R → Prop) (ls : ix_L) (st : List ix_V) (μ : ix_M) : ix_Ev o_X11_serves Q (28, ls, st, μ) = ix_iret (ix_Ev o_X11_serves Q) Q ls st μ := ix_Ev.eq (a_X11_serves launch0) rfl ls st μ
theorem r_X11_serves (o : Nat) (w : Int32) (b : Int32) (μ : ix_M) (Q : ix_R → Prop) (ok_o : o < ix_N ∧ ix_tag o = 10) (hT : T_X11_serves (o, w, b) μ Q) : ix_Ev o_X11_serves Q (0, [some (vr 10 o), some (vi w), some (vi b)], [], μ) := by
  obtain rfl := ok_10 o ok_o.1 ok_o.2
  obtain ⟨W, B, rfl, hW, rfl, hB, hQ⟩ := hT
  have h12 : 12 + nI W = nI (12 + W) := nI_add 12 W
  have i12 : vp_in (nI (12 + W)) 256 := vp_in_nI (by omega) (by decide)
  have c12 : (nI (12 + W)).toNatClampNeg = 12 + W := nI_clamp (by omega)
  have h8 : nI B = 8 ↔ B = 8 := nI_eq (b := 8) (by omega) (by decide)
  by_cases e : B = 8
  · have e' := h8.mpr e
    simp (decide := true) only [e_X11_serves_0, e_X11_serves_1, e_X11_serves_3, e_X11_serves_6, e_X11_serves_7, e_X11_serves_10, e_X11_serves_11, e_X11_serves_14, e_X11_serves_16, e_X11_serves_17, e_X11_serves_18, e_X11_serves_19, e_X11_serves_20, e_X11_serves_21, e_X11_serves_22, e_X11_serves_25, e_X11_serves_28, vi, vl, vr, oc_X11_boatIs, T_X11_boatIs, ix_push, ix_iload, ix_lload, ix_aload, ix_istore, ix_astore, ix_iinc, ix_bin, ix_div, ix_un, ix_i2l, ix_l2i, ix_lbin, ix_lsh, ix_lcmp, ix_dup, ix_dup2, ix_pop, ix_if, ix_cmp, ix_goto, ix_switch, ix_sw, ix_iret, ix_zret, ix_vret, ix_aret, ix_geti, ix_getr, ix_puti, ix_putz, ix_puts, ix_gets, ix_iald, ix_iast, ix_alen, ix_aald, ix_gval, ix_gcod, ix_bald, ix_blen, ix_sald, ix_nret, ix_math2, ix_math1, ix_acopy, ml_113, ml_114, ml_115, ml_116, ml_118, ml_119, ml_120, ml_121, ml_122, ml_123, ml_124, ml_125, ml_126, mv_0, mv_1, mv_2, mv_3, mv_4, mv_5, mB_or, Nat.add_assoc, Int32.reduceLT, Int32.reduceLE, Int32.reduceToNatClampNeg, Int32.reduceSub, Int32.reduceAdd, Nat.reduceAdd, Nat.reduceLeDiff, true_or, or_true, or_false, false_or, not_false_eq_true, not_true_eq_false, false_implies, true_implies, implies_true, and_self, mB_0, mB_01, Classical.not_not, Nat.zero_le, List.getElem?_cons_zero, List.getElem?_cons_succ, List.set_cons_zero, List.set_cons_succ, ix_nl, ix_cs, true_and, and_true, Option.toList_some, Option.toList_none, List.cons_append, List.nil_append, e']
    rw [if_pos e] at hQ
    exact hQ
  · have e' : ¬ nI B = 8 := fun z => e (h8.mp z)
    have hx := bx B (by omega)
    simp (decide := true) only [e_X11_serves_0, e_X11_serves_1, e_X11_serves_3, e_X11_serves_6, e_X11_serves_7, e_X11_serves_10, e_X11_serves_11, e_X11_serves_14, e_X11_serves_16, e_X11_serves_17, e_X11_serves_18, e_X11_serves_19, e_X11_serves_20, e_X11_serves_21, e_X11_serves_22, e_X11_serves_25, e_X11_serves_28, vi, vl, vr, oc_X11_boatIs, T_X11_boatIs, ix_push, ix_iload, ix_lload, ix_aload, ix_istore, ix_astore, ix_iinc, ix_bin, ix_div, ix_un, ix_i2l, ix_l2i, ix_lbin, ix_lsh, ix_lcmp, ix_dup, ix_dup2, ix_pop, ix_if, ix_cmp, ix_goto, ix_switch, ix_sw, ix_iret, ix_zret, ix_vret, ix_aret, ix_geti, ix_getr, ix_puti, ix_putz, ix_puts, ix_gets, ix_iald, ix_iast, ix_alen, ix_aald, ix_gval, ix_gcod, ix_bald, ix_blen, ix_sald, ix_nret, ix_math2, ix_math1, ix_acopy, ml_113, ml_114, ml_115, ml_116, ml_118, ml_119, ml_120, ml_121, ml_122, ml_123, ml_124, ml_125, ml_126, mv_0, mv_1, mv_2, mv_3, mv_4, mv_5, mB_or, Nat.add_assoc, Int32.reduceLT, Int32.reduceLE, Int32.reduceToNatClampNeg, Int32.reduceSub, Int32.reduceAdd, Nat.reduceAdd, Nat.reduceLeDiff, true_or, or_true, or_false, false_or, not_false_eq_true, not_true_eq_false, false_implies, true_implies, implies_true, and_self, mB_0, mB_01, Classical.not_not, Nat.zero_le, List.getElem?_cons_zero, List.getElem?_cons_succ, List.set_cons_zero, List.set_cons_succ, ix_nl, ix_cs, true_and, and_true, Option.toList_some, Option.toList_none, List.cons_append, List.nil_append, e', h12, i12, c12, hx]
    rw [if_neg e] at hQ
    exact hQ
theorem k_X11_serves (l : Launch) : ix_Ct l yX11_serves cX11_serves 3 (some .int) 3 sh_X11_serves T_X11_serves := ix_ct (a_X11_serves l) rfl (by decide) (fun _ => Nat.le_of_ble_eq_true rfl) (fun x μ Q hok hT => r_X11_serves x.1 x.2.1 x.2.2 μ Q (ix_ok_at (hok (vr 10 x.1) (by simp [sh_X11_serves])) (by decide) (by decide)) hT)
def T_X11_mayHave : Nat × Int32 × Int32 → ix_M → (ix_R → Prop) → Prop := fun (_, t, b) μ Q => Q (some (vi (mB (b = 8 ∨ (b < μ 113 1 ∧ (t >>> (b &&& 31)) &&& 1 = 0)))), μ)
def sh_X11_mayHave (x : Nat × Int32 × Int32) : List ix_V := [vr 10 x.1, vi x.2.1, vi x.2.2]
theorem mo_X11_mayHave (x : Nat × Int32 × Int32) (μ : ix_M) (Q Q' : ix_R → Prop) (h : ∀ r, Q r → Q' r) (hT : T_X11_mayHave x μ Q) : T_X11_mayHave x μ Q' := by
  obtain ⟨a0, a1, a2⟩ := x
  first | exact h _ hT | exact ⟨hT.1, h _ hT.2⟩ | exact fun r hr => h _ (hT r hr) | exact ⟨hT.1, fun r hr => h _ (hT.2 r hr)⟩ | exact ⟨hT.1, hT.2.1, fun r hr => h _ (hT.2.2 r hr)⟩
def oc_X11_mayHave (n : Nat) : ix_Op := fun k _ ls st μ => match st with
  | .inl a2 :: .inl a1 :: .inr (.inr (t0, a0)) :: r => t0 = 10 ∧ ix_cs r ≤ 8 ∧ T_X11_mayHave (a0, a1, a2) μ (fun q => k (n, ls, q.1.toList ++ r, q.2))
  | _ => False
theorem oc_X11_mayHave_s {l : Launch} {cc : ByteArray} {nL : Nat} {own : String} {d : Nat} {rt : Option FieldType} {pc n : Nat} (h : ix_S l cc nL own d rt pc (ix_call 3 sh_X11_mayHave T_X11_mayHave n)) : ix_S l cc nL own d rt pc (oc_X11_mayHave n) := by
  refine h.by (fun k Q ls st μ h => ?_) (fun k k' Q ls st μ hk h => ?_)
  · unfold oc_X11_mayHave at h
    split at h
    · rename_i a2 a1 t0 a0 r
      obtain ⟨rfl, h1, h2⟩ := h
      exact ⟨h1, (a0, a1, a2), rfl, _, h2, fun r h => h⟩
    · exact h.elim
  · unfold oc_X11_mayHave at h ⊢
    split at h
    · obtain ⟨rfl, h1, h2⟩ := h
      exact ⟨rfl, h1, mo_X11_mayHave _ _ _ _ (fun q hq => hk _ hq) h2⟩
    · exact h.elim
def o_X11_mayHave : List (Nat × ix_Op) := [
  (0, ix_iload 2 1),
  (1, ix_push (vi 8) 3),
  (3, ix_cmp (fun x y => x = y) 24 6),
  (6, ix_iload 2 7),
  (7, ix_aload 0 8),
  (8, ix_getr 10 20 (fun _ => 113) 11),
  (11, ix_push (vi 1) 12),
  (12, ix_iald 13),
  (13, ix_cmp (fun x y => y ≤ x) 28 16),
  (16, ix_iload 1 17),
  (17, ix_iload 2 18),
  (18, ix_bin (fun x y => x >>> (y &&& 31)) 19),
  (19, ix_push (vi 1) 20),
  (20, ix_bin (fun x y => x &&& y) 21),
  (21, ix_if (fun x => x = 0) 24 28),
  (24, ix_push (vi 1) 25),
  (25, ix_goto 29),
  (28, ix_push (vi 0) 29),
  (29, ix_zret)]
set_option maxRecDepth 20000 in
theorem a_X11_mayHave (l : Launch) : ix_AllS l cX11_mayHave 3 RX11 1 (some .boolean) o_X11_mayHave :=
  .cons (ix_s_iload_n dX11_mayHave_0 rfl) <|
  .cons (ix_s_bipush dX11_mayHave_1 (by decide +kernel)) <|
  .cons (ix_s_cmp_eq dX11_mayHave_3 (by decide)) <|
  .cons (ix_s_iload_n dX11_mayHave_6 rfl) <|
  .cons (ix_s_aload_n dX11_mayHave_7 rfl) <|
  .cons (ix_s_getr (j := 0) tu_X11 rfl (by decide) (by decide) tw_875 rfl ts_10_0_r dX11_mayHave_8) <|
  .cons (ix_s_iconst dX11_mayHave_11 (by decide +kernel)) <|
  .cons (ix_s_iald dX11_mayHave_12) <|
  .cons (ix_s_cmp_ge dX11_mayHave_13 (by decide)) <|
  .cons (ix_s_iload_n dX11_mayHave_16 rfl) <|
  .cons (ix_s_iload_n dX11_mayHave_17 rfl) <|
  .cons (ix_s_ishr dX11_mayHave_18) <|
  .cons (ix_s_iconst dX11_mayHave_19 (by decide +kernel)) <|
  .cons (ix_s_iand dX11_mayHave_20) <|
  .cons (ix_s_if_ne dX11_mayHave_21 (by decide)) <|
  .cons (ix_s_iconst dX11_mayHave_24 (by decide +kernel)) <|
  .cons (ix_s_goto dX11_mayHave_25 (by decide)) <|
  .cons (ix_s_iconst dX11_mayHave_28 (by decide +kernel)) <|
  .cons (ix_s_zret dX11_mayHave_29 rfl) <| .nil
theorem e_X11_mayHave_0 (Q : ix_R → Prop) (ls : ix_L) (st : List ix_V) (μ : ix_M) : ix_Ev o_X11_mayHave Q (0, ls, st, μ) = ix_iload 2 1 (ix_Ev o_X11_mayHave Q) Q ls st μ := ix_Ev.eq (a_X11_mayHave launch0) rfl ls st μ
theorem e_X11_mayHave_1 (Q : ix_R → Prop) (ls : ix_L) (st : List ix_V) (μ : ix_M) : ix_Ev o_X11_mayHave Q (1, ls, st, μ) = ix_push (vi 8) 3 (ix_Ev o_X11_mayHave Q) Q ls st μ := ix_Ev.eq (a_X11_mayHave launch0) rfl ls st μ
theorem e_X11_mayHave_3 (Q : ix_R → Prop) (ls : ix_L) (st : List ix_V) (μ : ix_M) : ix_Ev o_X11_mayHave Q (3, ls, st, μ) = ix_cmp (fun x y => x = y) 24 6 (ix_Ev o_X11_mayHave Q) Q ls st μ := ix_Ev.eq (a_X11_mayHave launch0) rfl ls st μ
theorem e_X11_mayHave_6 (Q : ix_R → Prop) (ls : ix_L) (st : List ix_V) (μ : ix_M) : ix_Ev o_X11_mayHave Q (6, ls, st, μ) = ix_iload 2 7 (ix_Ev o_X11_mayHave Q) Q ls st μ := ix_Ev.eq (a_X11_mayHave launch0) rfl ls st μ
theorem e_X11_mayHave_7 (Q : ix_R → Prop) (ls : ix_L) (st : List ix_V) (μ : ix_M) : ix_Ev o_X11_mayHave Q (7, ls, st, μ) = ix_aload 0 8 (ix_Ev o_X11_mayHave Q) Q ls st μ := ix_Ev.eq (a_X11_mayHave launch0) rfl ls st μ
theorem e_X11_mayHave_8 (Q : ix_R → Prop) (ls : ix_L) (st : List ix_V) (μ : ix_M) : ix_Ev o_X11_mayHave Q (8, ls, st, μ) = ix_getr 10 20 (fun _ => 113) 11 (ix_Ev o_X11_mayHave Q) Q ls st μ := ix_Ev.eq (a_X11_mayHave launch0) rfl ls st μ
theorem e_X11_mayHave_11 (Q : ix_R → Prop) (ls : ix_L) (st : List ix_V) (μ : ix_M) : ix_Ev o_X11_mayHave Q (11, ls, st, μ) = ix_push (vi 1) 12 (ix_Ev o_X11_mayHave Q) Q ls st μ := ix_Ev.eq (a_X11_mayHave launch0) rfl ls st μ
theorem e_X11_mayHave_12 (Q : ix_R → Prop) (ls : ix_L) (st : List ix_V) (μ : ix_M) : ix_Ev o_X11_mayHave Q (12, ls, st, μ) = ix_iald 13 (ix_Ev o_X11_mayHave Q) Q ls st μ := ix_Ev.eq (a_X11_mayHave launch0) rfl ls st μ
theorem e_X11_mayHave_13 (Q : ix_R → Prop) (ls : ix_L) (st : List ix_V) (μ : ix_M) : ix_Ev o_X11_mayHave Q (13, ls, st, μ) = ix_cmp (fun x y => y ≤ x) 28 16 (ix_Ev o_X11_mayHave Q) Q ls st μ := ix_Ev.eq (a_X11_mayHave launch0) rfl ls st μ
theorem e_X11_mayHave_16 (Q : ix_R → Prop) (ls : ix_L) (st : List ix_V) (μ : ix_M) : ix_Ev o_X11_mayHave Q (16, ls, st, μ) = ix_iload 1 17 (ix_Ev o_X11_mayHave Q) Q ls st μ := ix_Ev.eq (a_X11_mayHave launch0) rfl ls st μ
theorem e_X11_mayHave_17 (Q : ix_R → Prop) (ls : ix_L) (st : List ix_V) (μ : ix_M) : ix_Ev o_X11_mayHave Q (17, ls, st, μ) = ix_iload 2 18 (ix_Ev o_X11_mayHave Q) Q ls st μ := ix_Ev.eq (a_X11_mayHave launch0) rfl ls st μ
theorem e_X11_mayHave_18 (Q : ix_R → Prop) (ls : ix_L) (st : List ix_V) (μ : ix_M) : ix_Ev o_X11_mayHave Q (18, ls, st, μ) = ix_bin (fun x y => x >>> (y &&& 31)) 19 (ix_Ev o_X11_mayHave Q) Q ls st μ := ix_Ev.eq (a_X11_mayHave launch0) rfl ls st μ
theorem e_X11_mayHave_19 (Q : ix_R → Prop) (ls : ix_L) (st : List ix_V) (μ : ix_M) : ix_Ev o_X11_mayHave Q (19, ls, st, μ) = ix_push (vi 1) 20 (ix_Ev o_X11_mayHave Q) Q ls st μ := ix_Ev.eq (a_X11_mayHave launch0) rfl ls st μ
theorem e_X11_mayHave_20 (Q : ix_R → Prop) (ls : ix_L) (st : List ix_V) (μ : ix_M) : ix_Ev o_X11_mayHave Q (20, ls, st, μ) = ix_bin (fun x y => x &&& y) 21 (ix_Ev o_X11_mayHave Q) Q ls st μ := ix_Ev.eq (a_X11_mayHave launch0) rfl ls st μ
theorem e_X11_mayHave_21 (Q : ix_R → Prop) (ls : ix_L) (st : List ix_V) (μ : ix_M) : ix_Ev o_X11_mayHave Q (21, ls, st, μ) = ix_if (fun x => x = 0) 24 28 (ix_Ev o_X11_mayHave Q) Q ls st μ := ix_Ev.eq (a_X11_mayHave launch0) rfl ls st μ
theorem e_X11_mayHave_24 (Q : ix_R → Prop) (ls : ix_L) (st : List ix_V) (μ : ix_M) : ix_Ev o_X11_mayHave Q (24, ls, st, μ) = ix_push (vi 1) 25 (ix_Ev o_X11_mayHave Q) Q ls st μ := ix_Ev.eq (a_X11_mayHave launch0) rfl ls st μ
theorem e_X11_mayHave_25 (Q : ix_R → Prop) (ls : ix_L) (st : List ix_V) (μ : ix_M) : ix_Ev o_X11_mayHave Q (25, ls, st, μ) = ix_goto 29 (ix_Ev o_X11_mayHave Q) Q ls st μ := ix_Ev.eq (a_X11_mayHave launch0) rfl ls st μ
theorem e_X11_mayHave_28 (Q : ix_R → Prop) (ls : ix_L) (st : List ix_V) (μ : ix_M) : ix_Ev o_X11_mayHave Q (28, ls, st, μ) = ix_push (vi 0) 29 (ix_Ev o_X11_mayHave Q) Q ls st μ := ix_Ev.eq (a_X11_mayHave launch0) rfl ls st μ
theorem e_X11_mayHave_29 (Q : ix_R → Prop) (ls : ix_L) (st : List ix_V) (μ : ix_M) : ix_Ev o_X11_mayHave Q (29, ls, st, μ) = ix_zret (ix_Ev o_X11_mayHave Q) Q ls st μ := ix_Ev.eq (a_X11_mayHave launch0) rfl ls st μ
theorem r_X11_mayHave (o : Nat) (t : Int32) (b : Int32) (μ : ix_M) (Q : ix_R → Prop) (ok_o : o < ix_N ∧ ix_tag o = 10) (hT : T_X11_mayHave (o, t, b) μ Q) : ix_Ev o_X11_mayHave Q (0, [some (vr 10 o), some (vi t), some (vi b)], [], μ) := by
  obtain rfl := ok_10 o ok_o.1 ok_o.2
  simp (decide := true) only [e_X11_mayHave_0, e_X11_mayHave_1, e_X11_mayHave_3, e_X11_mayHave_6, e_X11_mayHave_7, e_X11_mayHave_8, e_X11_mayHave_11, e_X11_mayHave_12, e_X11_mayHave_13, e_X11_mayHave_16, e_X11_mayHave_17, e_X11_mayHave_18, e_X11_mayHave_19, e_X11_mayHave_20, e_X11_mayHave_21, e_X11_mayHave_24, e_X11_mayHave_25, e_X11_mayHave_28, e_X11_mayHave_29, vi, vl, vr, ix_push, ix_iload, ix_lload, ix_aload, ix_istore, ix_astore, ix_iinc, ix_bin, ix_div, ix_un, ix_i2l, ix_l2i, ix_lbin, ix_lsh, ix_lcmp, ix_dup, ix_dup2, ix_pop, ix_if, ix_cmp, ix_goto, ix_switch, ix_sw, ix_iret, ix_zret, ix_vret, ix_aret, ix_geti, ix_getr, ix_puti, ix_putz, ix_puts, ix_gets, ix_iald, ix_iast, ix_alen, ix_aald, ix_gval, ix_gcod, ix_bald, ix_blen, ix_sald, ix_nret, ix_math2, ix_math1, ix_acopy, ml_113, ml_114, ml_115, ml_116, ml_118, ml_119, ml_120, ml_121, ml_122, ml_123, ml_124, ml_125, ml_126, mv_0, mv_1, mv_2, mv_3, mv_4, mv_5, mB_or, Nat.add_assoc, Int32.reduceLT, Int32.reduceLE, Int32.reduceToNatClampNeg, Int32.reduceSub, Int32.reduceAdd, Nat.reduceAdd, Nat.reduceLeDiff, true_or, or_true, or_false, false_or, not_false_eq_true, not_true_eq_false, false_implies, true_implies, implies_true, and_self, mB_0, mB_01, Classical.not_not, Nat.zero_le, List.getElem?_cons_zero, List.getElem?_cons_succ, List.set_cons_zero, List.set_cons_succ, ix_nl, ix_cs, true_and, and_true, Option.toList_some, Option.toList_none, List.cons_append, List.nil_append]
  simp only [T_X11_mayHave, mB, vi, vl, vr] at hT
  repeat' (first | refine And.intro ?_ ?_ | intro _)
  all_goals (first | exact hT | (simp only [*, if_true, if_false, not_true_eq_false, not_false_eq_true, and_true, true_and, and_false, false_and, or_true, true_or, or_false, false_or, and_self, or_self] at hT; exact hT) | (simp only [← Int32.not_lt, Classical.not_not] at *; simp only [*, if_true, if_false, not_true_eq_false, not_false_eq_true, and_true, true_and, and_false, false_and, or_true, true_or, or_false, false_or, and_self, or_self] at hT; exact hT) | (simp_all; done))
theorem k_X11_mayHave (l : Launch) : ix_Ct l yX11_mayHave cX11_mayHave 3 (some .boolean) 1 sh_X11_mayHave T_X11_mayHave := ix_ct (a_X11_mayHave l) rfl (by decide) (fun _ => Nat.le_of_ble_eq_true rfl) (fun x μ Q hok hT => r_X11_mayHave x.1 x.2.1 x.2.2 μ Q (ix_ok_at (hok (vr 10 x.1) (by simp [sh_X11_mayHave])) (by decide) (by decide)) hT)
def T_X11_servedWith : Nat × Int32 × Int32 × Int32 → ix_M → (ix_R → Prop) → Prop := fun (_, w, t, b) μ Q => ∃ W T B, w = nI W ∧ W < 6 ∧ t = nI T ∧ T < 256 ∧ b = nI B ∧ B ≤ 8 ∧ (B < 8 → fr T B = true) ∧ Q (some (vi (if B = 8 then μ 121 (256 * (W + 1) + T) else mMin (μ 113 (12 + W)) (μ 113 (53 + 4 * B)) + μ 121 (256 * (W + 1) + (T + 2 ^ B)))), μ)
def sh_X11_servedWith (x : Nat × Int32 × Int32 × Int32) : List ix_V := [vr 10 x.1, vi x.2.1, vi x.2.2.1, vi x.2.2.2]
theorem mo_X11_servedWith (x : Nat × Int32 × Int32 × Int32) (μ : ix_M) (Q Q' : ix_R → Prop) (h : ∀ r, Q r → Q' r) (hT : T_X11_servedWith x μ Q) : T_X11_servedWith x μ Q' := by
  obtain ⟨a0, a1, a2, a3⟩ := x
  (obtain ⟨W, T, B, h1, h2, h3, h4, h5, h6, h7, h8⟩ := hT; exact ⟨W, T, B, h1, h2, h3, h4, h5, h6, h7, h _ h8⟩)
def oc_X11_servedWith (n : Nat) : ix_Op := fun k _ ls st μ => match st with
  | .inl a3 :: .inl a2 :: .inl a1 :: .inr (.inr (t0, a0)) :: r => t0 = 10 ∧ ix_cs r ≤ 8 ∧ T_X11_servedWith (a0, a1, a2, a3) μ (fun q => k (n, ls, q.1.toList ++ r, q.2))
  | _ => False
theorem oc_X11_servedWith_s {l : Launch} {cc : ByteArray} {nL : Nat} {own : String} {d : Nat} {rt : Option FieldType} {pc n : Nat} (h : ix_S l cc nL own d rt pc (ix_call 4 sh_X11_servedWith T_X11_servedWith n)) : ix_S l cc nL own d rt pc (oc_X11_servedWith n) := by
  refine h.by (fun k Q ls st μ h => ?_) (fun k k' Q ls st μ hk h => ?_)
  · unfold oc_X11_servedWith at h
    split at h
    · rename_i a3 a2 a1 t0 a0 r
      obtain ⟨rfl, h1, h2⟩ := h
      exact ⟨h1, (a0, a1, a2, a3), rfl, _, h2, fun r h => h⟩
    · exact h.elim
  · unfold oc_X11_servedWith at h ⊢
    split at h
    · obtain ⟨rfl, h1, h2⟩ := h
      exact ⟨rfl, h1, mo_X11_servedWith _ _ _ _ (fun q hq => hk _ hq) h2⟩
    · exact h.elim
def o_X11_servedWith : List (Nat × ix_Op) := [
  (0, ix_iload 3 1),
  (1, ix_push (vi 8) 3),
  (3, ix_cmp (fun x y => x = y) 6 10),
  (6, ix_iload 2 7),
  (7, ix_goto 15),
  (10, ix_iload 2 11),
  (11, ix_push (vi 1) 12),
  (12, ix_iload 3 13),
  (13, ix_bin (fun x y => x <<< (y &&& 31)) 14),
  (14, ix_bin (fun x y => x ||| y) 15),
  (15, ix_istore 4 17),
  (17, ix_aload 0 18),
  (18, ix_iload 1 19),
  (19, ix_iload 3 20),
  (20, oc_X11_serves 23),
  (23, ix_aload 0 24),
  (24, ix_getr 10 20 (fun _ => 121) 27),
  (27, ix_push (vi 256) 30),
  (30, ix_iload 1 31),
  (31, ix_push (vi 1) 32),
  (32, ix_bin (fun x y => x + y) 33),
  (33, ix_bin (fun x y => x * y) 34),
  (34, ix_iload 4 36),
  (36, ix_bin (fun x y => x + y) 37),
  (37, ix_iald 38),
  (38, ix_bin (fun x y => x + y) 39),
  (39, ix_iret)]
set_option maxRecDepth 20000 in
theorem a_X11_servedWith (l : Launch) : ix_AllS l cX11_servedWith 5 RX11 4 (some .int) o_X11_servedWith :=
  .cons (ix_s_iload_n dX11_servedWith_0 rfl) <|
  .cons (ix_s_bipush dX11_servedWith_1 (by decide +kernel)) <|
  .cons (ix_s_cmp_ne dX11_servedWith_3 (by decide)) <|
  .cons (ix_s_iload_n dX11_servedWith_6 rfl) <|
  .cons (ix_s_goto dX11_servedWith_7 (by decide)) <|
  .cons (ix_s_iload_n dX11_servedWith_10 rfl) <|
  .cons (ix_s_iconst dX11_servedWith_11 (by decide +kernel)) <|
  .cons (ix_s_iload_n dX11_servedWith_12 rfl) <|
  .cons (ix_s_ishl dX11_servedWith_13) <|
  .cons (ix_s_ior dX11_servedWith_14) <|
  .cons (ix_s_istore dX11_servedWith_15 (by decide)) <|
  .cons (ix_s_aload_n dX11_servedWith_17 rfl) <|
  .cons (ix_s_iload_n dX11_servedWith_18 rfl) <|
  .cons (ix_s_iload_n dX11_servedWith_19 rfl) <|
  .cons (oc_X11_serves_s (ix_s_callv (t := 10) (k_X11_serves l) (by decide) (by decide) tw_1293 tw_12 tw_1290 tw_1292 tp_57 ⟨by decide, by decide, by decide +kernel⟩ (by decide) rfl rfl (fun _ => ⟨_, _, rfl, rfl⟩) dX11_servedWith_20)) <|
  .cons (ix_s_aload_n dX11_servedWith_23 rfl) <|
  .cons (ix_s_getr (j := 16) tu_X11 rfl (by decide) (by decide) tw_891 rfl ts_10_16_r dX11_servedWith_24) <|
  .cons (ix_s_sipush dX11_servedWith_27 (by decide +kernel)) <|
  .cons (ix_s_iload_n dX11_servedWith_30 rfl) <|
  .cons (ix_s_iconst dX11_servedWith_31 (by decide +kernel)) <|
  .cons (ix_s_iadd dX11_servedWith_32) <|
  .cons (ix_s_imul dX11_servedWith_33) <|
  .cons (ix_s_iload dX11_servedWith_34) <|
  .cons (ix_s_iadd dX11_servedWith_36) <|
  .cons (ix_s_iald dX11_servedWith_37) <|
  .cons (ix_s_iadd dX11_servedWith_38) <|
  .cons (ix_s_iret dX11_servedWith_39 rfl) <| .nil
theorem e_X11_servedWith_0 (Q : ix_R → Prop) (ls : ix_L) (st : List ix_V) (μ : ix_M) : ix_Ev o_X11_servedWith Q (0, ls, st, μ) = ix_iload 3 1 (ix_Ev o_X11_servedWith Q) Q ls st μ := ix_Ev.eq (a_X11_servedWith launch0) rfl ls st μ
theorem e_X11_servedWith_1 (Q : ix_R → Prop) (ls : ix_L) (st : List ix_V) (μ : ix_M) : ix_Ev o_X11_servedWith Q (1, ls, st, μ) = ix_push (vi 8) 3 (ix_Ev o_X11_servedWith Q) Q ls st μ := ix_Ev.eq (a_X11_servedWith launch0) rfl ls st μ
theorem e_X11_servedWith_3 (Q : ix_R → Prop) (ls : ix_L) (st : List ix_V) (μ : ix_M) : ix_Ev o_X11_servedWith Q (3, ls, st, μ) = ix_cmp (fun x y => x = y) 6 10 (ix_Ev o_X11_servedWith Q) Q ls st μ := ix_Ev.eq (a_X11_servedWith launch0) rfl ls st μ
theorem e_X11_servedWith_6 (Q : ix_R → Prop) (ls : ix_L) (st : List ix_V) (μ : ix_M) : ix_Ev o_X11_servedWith Q (6, ls, st, μ) = ix_iload 2 7 (ix_Ev o_X11_servedWith Q) Q ls st μ := ix_Ev.eq (a_X11_servedWith launch0) rfl ls st μ
theorem e_X11_servedWith_7 (Q : ix_R → Prop) (ls : ix_L) (st : List ix_V) (μ : ix_M) : ix_Ev o_X11_servedWith Q (7, ls, st, μ) = ix_goto 15 (ix_Ev o_X11_servedWith Q) Q ls st μ := ix_Ev.eq (a_X11_servedWith launch0) rfl ls st μ
theorem e_X11_servedWith_10 (Q : ix_R → Prop) (ls : ix_L) (st : List ix_V) (μ : ix_M) : ix_Ev o_X11_servedWith Q (10, ls, st, μ) = ix_iload 2 11 (ix_Ev o_X11_servedWith Q) Q ls st μ := ix_Ev.eq (a_X11_servedWith launch0) rfl ls st μ
theorem e_X11_servedWith_11 (Q : ix_R → Prop) (ls : ix_L) (st : List ix_V) (μ : ix_M) : ix_Ev o_X11_servedWith Q (11, ls, st, μ) = ix_push (vi 1) 12 (ix_Ev o_X11_servedWith Q) Q ls st μ := ix_Ev.eq (a_X11_servedWith launch0) rfl ls st μ
theorem e_X11_servedWith_12 (Q : ix_R → Prop) (ls : ix_L) (st : List ix_V) (μ : ix_M) : ix_Ev o_X11_servedWith Q (12, ls, st, μ) = ix_iload 3 13 (ix_Ev o_X11_servedWith Q) Q ls st μ := ix_Ev.eq (a_X11_servedWith launch0) rfl ls st μ
theorem e_X11_servedWith_13 (Q : ix_R → Prop) (ls : ix_L) (st : List ix_V) (μ : ix_M) : ix_Ev o_X11_servedWith Q (13, ls, st, μ) = ix_bin (fun x y => x <<< (y &&& 31)) 14 (ix_Ev o_X11_servedWith Q) Q ls st μ := ix_Ev.eq (a_X11_servedWith launch0) rfl ls st μ
theorem e_X11_servedWith_14 (Q : ix_R → Prop) (ls : ix_L) (st : List ix_V) (μ : ix_M) : ix_Ev o_X11_servedWith Q (14, ls, st, μ) = ix_bin (fun x y => x ||| y) 15 (ix_Ev o_X11_servedWith Q) Q ls st μ := ix_Ev.eq (a_X11_servedWith launch0) rfl ls st μ
theorem e_X11_servedWith_15 (Q : ix_R → Prop) (ls : ix_L) (st : List ix_V) (μ : ix_M) : ix_Ev o_X11_servedWith Q (15, ls, st, μ) = ix_istore 4 17 (ix_Ev o_X11_servedWith Q) Q ls st μ := ix_Ev.eq (a_X11_servedWith launch0) rfl ls st μ
theorem e_X11_servedWith_17 (Q : ix_R → Prop) (ls : ix_L) (st : List ix_V) (μ : ix_M) : ix_Ev o_X11_servedWith Q (17, ls, st, μ) = ix_aload 0 18 (ix_Ev o_X11_servedWith Q) Q ls st μ := ix_Ev.eq (a_X11_servedWith launch0) rfl ls st μ
theorem e_X11_servedWith_18 (Q : ix_R → Prop) (ls : ix_L) (st : List ix_V) (μ : ix_M) : ix_Ev o_X11_servedWith Q (18, ls, st, μ) = ix_iload 1 19 (ix_Ev o_X11_servedWith Q) Q ls st μ := ix_Ev.eq (a_X11_servedWith launch0) rfl ls st μ
theorem e_X11_servedWith_19 (Q : ix_R → Prop) (ls : ix_L) (st : List ix_V) (μ : ix_M) : ix_Ev o_X11_servedWith Q (19, ls, st, μ) = ix_iload 3 20 (ix_Ev o_X11_servedWith Q) Q ls st μ := ix_Ev.eq (a_X11_servedWith launch0) rfl ls st μ
theorem e_X11_servedWith_20 (Q : ix_R → Prop) (ls : ix_L) (st : List ix_V) (μ : ix_M) : ix_Ev o_X11_servedWith Q (20, ls, st, μ) = oc_X11_serves 23 (ix_Ev o_X11_servedWith Q) Q ls st μ := ix_Ev.eq (a_X11_servedWith launch0) rfl ls st μ
theorem e_X11_servedWith_23 (Q : ix_R → Prop) (ls : ix_L) (st : List ix_V) (μ : ix_M) : ix_Ev o_X11_servedWith Q (23, ls, st, μ) = ix_aload 0 24 (ix_Ev o_X11_servedWith Q) Q ls st μ := ix_Ev.eq (a_X11_servedWith launch0) rfl ls st μ
theorem e_X11_servedWith_24 (Q : ix_R → Prop) (ls : ix_L) (st : List ix_V) (μ : ix_M) : ix_Ev o_X11_servedWith Q (24, ls, st, μ) = ix_getr 10 20 (fun _ => 121) 27 (ix_Ev o_X11_servedWith Q) Q ls st μ := ix_Ev.eq (a_X11_servedWith launch0) rfl ls st μ
theorem e_X11_servedWith_27 (Q : ix_R → Prop) (ls : ix_L) (st : List ix_V) (μ : ix_M) : ix_Ev o_X11_servedWith Q (27, ls, st, μ) = ix_push (vi 256) 30 (ix_Ev o_X11_servedWith Q) Q ls st μ := ix_Ev.eq (a_X11_servedWith launch0) rfl ls st μ
theorem e_X11_servedWith_30 (Q : ix_R → Prop) (ls : ix_L) (st : List ix_V) (μ : ix_M) : ix_Ev o_X11_servedWith Q (30, ls, st, μ) = ix_iload 1 31 (ix_Ev o_X11_servedWith Q) Q ls st μ := ix_Ev.eq (a_X11_servedWith launch0) rfl ls st μ
theorem e_X11_servedWith_31 (Q : ix_R → Prop) (ls : ix_L) (st : List ix_V) (μ : ix_M) : ix_Ev o_X11_servedWith Q (31, ls, st, μ) = ix_push (vi 1) 32 (ix_Ev o_X11_servedWith Q) Q ls st μ := ix_Ev.eq (a_X11_servedWith launch0) rfl ls st μ
theorem e_X11_servedWith_32 (Q : ix_R → Prop) (ls : ix_L) (st : List ix_V) (μ : ix_M) : ix_Ev o_X11_servedWith Q (32, ls, st, μ) = ix_bin (fun x y => x + y) 33 (ix_Ev o_X11_servedWith Q) Q ls st μ := ix_Ev.eq (a_X11_servedWith launch0) rfl ls st μ
theorem e_X11_servedWith_33 (Q : ix_R → Prop) (ls : ix_L) (st : List ix_V) (μ : ix_M) : ix_Ev o_X11_servedWith Q (33, ls, st, μ) = ix_bin (fun x y => x * y) 34 (ix_Ev o_X11_servedWith Q) Q ls st μ := ix_Ev.eq (a_X11_servedWith launch0) rfl ls st μ
theorem e_X11_servedWith_34 (Q : ix_R → Prop) (ls : ix_L) (st : List ix_V) (μ : ix_M) : ix_Ev o_X11_servedWith Q (34, ls, st, μ) = ix_iload 4 36 (ix_Ev o_X11_servedWith Q) Q ls st μ := ix_Ev.eq (a_X11_servedWith launch0) rfl ls st μ
theorem e_X11_servedWith_36 (Q : ix_R → Prop) (ls : ix_L) (st : List ix_V) (μ : ix_M) : ix_Ev o_X11_servedWith Q (36, ls, st, μ) = ix_bin (fun x y => x + y) 37 (ix_Ev o_X11_servedWith Q) Q ls st μ := ix_Ev.eq (a_X11_servedWith launch0) rfl ls st μ
theorem e_X11_servedWith_37 (Q : ix_R → Prop) (ls : ix_L) (st : List ix_V) (μ : ix_M) : ix_Ev o_X11_servedWith Q (37, ls, st, μ) = ix_iald 38 (ix_Ev o_X11_servedWith Q) Q ls st μ := ix_Ev.eq (a_X11_servedWith launch0) rfl ls st μ
theorem e_X11_servedWith_38 (Q : ix_R → Prop) (ls : ix_L) (st : List ix_V) (μ : ix_M) : ix_Ev o_X11_servedWith Q (38, ls, st, μ) = ix_bin (fun x y => x + y) 39 (ix_Ev o_X11_servedWith Q) Q ls st μ := ix_Ev.eq (a_X11_servedWith launch0) rfl ls st μ
theorem e_X11_servedWith_39 (Q : ix_R → Prop) (ls : ix_L) (st : List ix_V) (μ : ix_M) : ix_Ev o_X11_servedWith Q (39, ls, st, μ) = ix_iret (ix_Ev o_X11_servedWith Q) Q ls st μ := ix_Ev.eq (a_X11_servedWith launch0) rfl ls st μ
theorem r_X11_servedWith (o : Nat) (w : Int32) (t : Int32) (b : Int32) (μ : ix_M) (Q : ix_R → Prop) (ok_o : o < ix_N ∧ ix_tag o = 10) (hT : T_X11_servedWith (o, w, t, b) μ Q) : ix_Ev o_X11_servedWith Q (0, [some (vr 10 o), some (vi w), some (vi t), some (vi b), none], [], μ) := by
  obtain rfl := ok_10 o ok_o.1 ok_o.2
  obtain ⟨W, T, B, rfl, hW, rfl, hT, rfl, hB, hfr, hQ⟩ := hT
  have h8 : nI B = 8 ↔ B = 8 := nI_eq (b := 8) (by omega) (by decide)
  have ix : ∀ X, X < 256 → 256 * (nI W + 1) + nI X = nI (256 * (W + 1) + X) := by
    intro X _
    rw [nI_1, fa_lit 256, show nI 256 * nI (W + 1) = nI (256 * (W + 1)) from (Int32.ofNat_mul 256 (W + 1)).symm, nI_add]
  by_cases e : B = 8
  · have e' := h8.mpr e
    have hx := ix T hT
    have c1 : (nI (256 * (W + 1) + T)).toNatClampNeg = 256 * (W + 1) + T := nI_clamp (by omega)
    have i1 : vp_in (nI (256 * (W + 1) + T)) 1792 := vp_in_nI (by omega) (by decide)
    simp (decide := true) only [e_X11_servedWith_0, e_X11_servedWith_1, e_X11_servedWith_3, e_X11_servedWith_6, e_X11_servedWith_7, e_X11_servedWith_10, e_X11_servedWith_11, e_X11_servedWith_12, e_X11_servedWith_13, e_X11_servedWith_14, e_X11_servedWith_15, e_X11_servedWith_17, e_X11_servedWith_18, e_X11_servedWith_19, e_X11_servedWith_20, e_X11_servedWith_23, e_X11_servedWith_24, e_X11_servedWith_27, e_X11_servedWith_30, e_X11_servedWith_31, e_X11_servedWith_32, e_X11_servedWith_33, e_X11_servedWith_34, e_X11_servedWith_36, e_X11_servedWith_37, e_X11_servedWith_38, e_X11_servedWith_39, vi, vl, vr, oc_X11_serves, T_X11_serves, ix_push, ix_iload, ix_lload, ix_aload, ix_istore, ix_astore, ix_iinc, ix_bin, ix_div, ix_un, ix_i2l, ix_l2i, ix_lbin, ix_lsh, ix_lcmp, ix_dup, ix_dup2, ix_pop, ix_if, ix_cmp, ix_goto, ix_switch, ix_sw, ix_iret, ix_zret, ix_vret, ix_aret, ix_geti, ix_getr, ix_puti, ix_putz, ix_puts, ix_gets, ix_iald, ix_iast, ix_alen, ix_aald, ix_gval, ix_gcod, ix_bald, ix_blen, ix_sald, ix_nret, ix_math2, ix_math1, ix_acopy, ml_113, ml_114, ml_115, ml_116, ml_118, ml_119, ml_120, ml_121, ml_122, ml_123, ml_124, ml_125, ml_126, mv_0, mv_1, mv_2, mv_3, mv_4, mv_5, mB_or, Nat.add_assoc, Int32.reduceLT, Int32.reduceLE, Int32.reduceToNatClampNeg, Int32.reduceSub, Int32.reduceAdd, Nat.reduceAdd, Nat.reduceLeDiff, true_or, or_true, or_false, false_or, not_false_eq_true, not_true_eq_false, false_implies, true_implies, implies_true, and_self, mB_0, mB_01, Classical.not_not, Nat.zero_le, List.getElem?_cons_zero, List.getElem?_cons_succ, List.set_cons_zero, List.set_cons_succ, ix_nl, ix_cs, true_and, and_true, Option.toList_some, Option.toList_none, List.cons_append, List.nil_append, e', hx, c1, i1]
    rw [if_pos e] at hQ
    refine ⟨W, 8, rfl, hW, rfl, Nat.le_refl _, ?_⟩
    rw [if_pos rfl, Int32.zero_add]
    exact hQ
  · have e' : ¬ nI B = 8 := fun z => e (h8.mp z)
    have hf := hfr (by omega)
    have hlt := fr_lt 8 (by decide) T hT B (by omega) hf
    have hk : nI T ||| ((1 : Int32) <<< (nI B &&& 31)) = nI (T + 2 ^ B) := mTk_nI T hT B (by omega) hf
    have hx := ix (T + 2 ^ B) hlt
    have c1 : (nI (256 * (W + 1) + (T + 2 ^ B))).toNatClampNeg = 256 * (W + 1) + (T + 2 ^ B) := nI_clamp (by omega)
    have i1 : vp_in (nI (256 * (W + 1) + (T + 2 ^ B))) 1792 := vp_in_nI (by omega) (by decide)
    rw [if_neg e] at hQ
    simp (decide := true) only [e_X11_servedWith_0, e_X11_servedWith_1, e_X11_servedWith_3, e_X11_servedWith_6, e_X11_servedWith_7, e_X11_servedWith_10, e_X11_servedWith_11, e_X11_servedWith_12, e_X11_servedWith_13, e_X11_servedWith_14, e_X11_servedWith_15, e_X11_servedWith_17, e_X11_servedWith_18, e_X11_servedWith_19, e_X11_servedWith_20, e_X11_servedWith_23, e_X11_servedWith_24, e_X11_servedWith_27, e_X11_servedWith_30, e_X11_servedWith_31, e_X11_servedWith_32, e_X11_servedWith_33, e_X11_servedWith_34, e_X11_servedWith_36, e_X11_servedWith_37, e_X11_servedWith_38, e_X11_servedWith_39, vi, vl, vr, oc_X11_serves, T_X11_serves, ix_push, ix_iload, ix_lload, ix_aload, ix_istore, ix_astore, ix_iinc, ix_bin, ix_div, ix_un, ix_i2l, ix_l2i, ix_lbin, ix_lsh, ix_lcmp, ix_dup, ix_dup2, ix_pop, ix_if, ix_cmp, ix_goto, ix_switch, ix_sw, ix_iret, ix_zret, ix_vret, ix_aret, ix_geti, ix_getr, ix_puti, ix_putz, ix_puts, ix_gets, ix_iald, ix_iast, ix_alen, ix_aald, ix_gval, ix_gcod, ix_bald, ix_blen, ix_sald, ix_nret, ix_math2, ix_math1, ix_acopy, ml_113, ml_114, ml_115, ml_116, ml_118, ml_119, ml_120, ml_121, ml_122, ml_123, ml_124, ml_125, ml_126, mv_0, mv_1, mv_2, mv_3, mv_4, mv_5, mB_or, Nat.add_assoc, Int32.reduceLT, Int32.reduceLE, Int32.reduceToNatClampNeg, Int32.reduceSub, Int32.reduceAdd, Nat.reduceAdd, Nat.reduceLeDiff, true_or, or_true, or_false, false_or, not_false_eq_true, not_true_eq_false, false_implies, true_implies, implies_true, and_self, mB_0, mB_01, Classical.not_not, Nat.zero_le, List.getElem?_cons_zero, List.getElem?_cons_succ, List.set_cons_zero, List.set_cons_succ, ix_nl, ix_cs, true_and, and_true, Option.toList_some, Option.toList_none, List.cons_append, List.nil_append, e', hk, hx, c1, i1]
    refine ⟨W, B, rfl, hW, rfl, hB, ?_⟩
    rw [if_neg e]
    exact hQ
theorem k_X11_servedWith (l : Launch) : ix_Ct l yX11_servedWith cX11_servedWith 5 (some .int) 4 sh_X11_servedWith T_X11_servedWith := ix_ct (a_X11_servedWith l) rfl (by decide) (fun _ => Nat.le_of_ble_eq_true rfl) (fun x μ Q hok hT => r_X11_servedWith x.1 x.2.1 x.2.2.1 x.2.2.2 μ Q (ix_ok_at (hok (vr 10 x.1) (by simp [sh_X11_servedWith])) (by decide) (by decide)) hT)
