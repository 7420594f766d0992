/-! ===== the law's loop ===== -/
theorem law_loop (l : Launch) {L : Nat} {xs : Nat → Int32} (H : ix_Mo (tL_0 L xs)) (hL : L ≤ 3072) (Q : ix_R → Prop) (hQ : ∀ μ, Inv μ → Q (some (vi 1), μ)) : ∀ (k i : Nat) (μ : ix_M), L < i + k → i ≤ L + 6 → Inv μ → ix_Ev (tL_0 L xs) Q (18, [some (vr 25 0), some (vr 9 0), some (vr 10 112), some (vi (nI i))], [], μ) := by
  have e6 : (nI L - 6).toInt = (L : Int) - 6 := by
    have e1 : (6 : Int32).toInt = 6 := rfl
    rw [fb_subI] <;> rw [nI_toInt (by omega), e1] <;> omega
  have oL : Int32.ofNat L = nI L := rfl
  have out : ∀ (i : Nat) (μ : ix_M), ¬ i + 6 ≤ L → i ≤ L + 6 → Inv μ → ix_Ev (tL_0 L xs) Q (18, [some (vr 25 0), some (vr 9 0), some (vr 10 112), some (vi (nI i))], [], μ) := by
    intro i μ hi hi2 I
    have c1 : nI L - 6 < nI i := by
      rw [fa_lt, e6, nI_toInt (by omega)]
      omega
    simp (decide := true) only [e_L_18 H, e_L_19 H, e_L_20 H, e_L_21 H, e_L_23 H, e_L_24 H, e_L_1642 H, e_L_1643 H, vi, vl, vr, ix_push, ix_iload, ix_lload, ix_aload, ix_istore, ix_astore, ix_iinc, ix_bin, ix_div, ix_un, ix_i2l, ix_l2i, ix_lbin, ix_lsh, ix_lcmp, ix_dup, ix_dup2, ix_pop, ix_if, ix_cmp, ix_goto, ix_switch, ix_sw, ix_iret, ix_zret, ix_vret, ix_aret, ix_geti, ix_getr, ix_puti, ix_putz, ix_puts, ix_gets, ix_iald, ix_iast, ix_alen, ix_aald, ix_gval, ix_gcod, ix_bald, ix_blen, ix_sald, ix_nret, ix_math2, ix_math1, ix_acopy, Nat.add_assoc, Int32.reduceLT, Int32.reduceLE, Int32.reduceToNatClampNeg, Int32.reduceSub, Int32.reduceAdd, Nat.reduceAdd, Nat.reduceLeDiff, true_or, or_true, or_false, false_or, not_false_eq_true, not_true_eq_false, false_implies, true_implies, implies_true, and_self, mB_0, mB_01, Classical.not_not, Nat.zero_le, List.getElem?_cons_zero, List.getElem?_cons_succ, List.set_cons_zero, List.set_cons_succ, ix_nl, ix_cs, true_and, and_true, Option.toList_some, Option.toList_none, List.cons_append, List.nil_append, ix_xld, ix_xln, oL, c1]
    exact hQ μ I
  intro k
  induction k with
  | zero =>
    intro i μ hk hi I
    exact out i μ (by omega) hi I
  | succ k ih =>
    intro i μ hk hi0 I
    by_cases hi : i + 6 ≤ L
    · have c1 : ¬ nI L - 6 < nI i := by
        rw [fa_lt, e6, nI_toInt (by omega)]
        omega
      have c2 : (nI i).toNatClampNeg = i := nI_clamp (by omega)
      have c3 : vp_in (nI i) L := vp_in_nI (by omega) (by omega)
      have K : ∀ μ', Inv μ' → ix_Ev (tL_0 L xs) Q (1636, [some (vr 25 0), some (vr 9 0), some (vr 10 112), some (vi (nI i))], [], μ') := by
        intro μ' I'
        have c4 : nI i + 6 = nI (i + 6) := nI_add i 6
        simp (decide := true) only [e_L_1636 H, e_L_1639 H, vi, vl, vr, ix_push, ix_iload, ix_lload, ix_aload, ix_istore, ix_astore, ix_iinc, ix_bin, ix_div, ix_un, ix_i2l, ix_l2i, ix_lbin, ix_lsh, ix_lcmp, ix_dup, ix_dup2, ix_pop, ix_if, ix_cmp, ix_goto, ix_switch, ix_sw, ix_iret, ix_zret, ix_vret, ix_aret, ix_geti, ix_getr, ix_puti, ix_putz, ix_puts, ix_gets, ix_iald, ix_iast, ix_alen, ix_aald, ix_gval, ix_gcod, ix_bald, ix_blen, ix_sald, ix_nret, ix_math2, ix_math1, ix_acopy, Nat.add_assoc, Int32.reduceLT, Int32.reduceLE, Int32.reduceToNatClampNeg, Int32.reduceSub, Int32.reduceAdd, Nat.reduceAdd, Nat.reduceLeDiff, true_or, or_true, or_false, false_or, not_false_eq_true, not_true_eq_false, false_implies, true_implies, implies_true, and_self, mB_0, mB_01, Classical.not_not, Nat.zero_le, List.getElem?_cons_zero, List.getElem?_cons_succ, List.set_cons_zero, List.set_cons_succ, ix_nl, ix_cs, true_and, and_true, Option.toList_some, Option.toList_none, List.cons_append, List.nil_append, c4]
        exact ih (i + 6) μ' (by omega) (by omega) I'
      simp (decide := true) only [e_L_18 H, e_L_19 H, e_L_20 H, e_L_21 H, e_L_23 H, e_L_24 H, e_L_27 H, e_L_28 H, e_L_29 H, e_L_30 H, e_L_32 H, e_L_33 H, vi, vl, vr, ix_push, ix_iload, ix_lload, ix_aload, ix_istore, ix_astore, ix_iinc, ix_bin, ix_div, ix_un, ix_i2l, ix_l2i, ix_lbin, ix_lsh, ix_lcmp, ix_dup, ix_dup2, ix_pop, ix_if, ix_cmp, ix_goto, ix_switch, ix_sw, ix_iret, ix_zret, ix_vret, ix_aret, ix_geti, ix_getr, ix_puti, ix_putz, ix_puts, ix_gets, ix_iald, ix_iast, ix_alen, ix_aald, ix_gval, ix_gcod, ix_bald, ix_blen, ix_sald, ix_nret, ix_math2, ix_math1, ix_acopy, Nat.add_assoc, Int32.reduceLT, Int32.reduceLE, Int32.reduceToNatClampNeg, Int32.reduceSub, Int32.reduceAdd, Nat.reduceAdd, Nat.reduceLeDiff, true_or, or_true, or_false, false_or, not_false_eq_true, not_true_eq_false, false_implies, true_implies, implies_true, and_self, mB_0, mB_01, Classical.not_not, Nat.zero_le, List.getElem?_cons_zero, List.getElem?_cons_succ, List.set_cons_zero, List.set_cons_succ, ix_nl, ix_cs, true_and, and_true, Option.toList_some, Option.toList_none, List.cons_append, List.nil_append, ix_xld, ix_xln, oL, c1, c2, c3]

      exact ⟨fun _ => lc_cell l H hi hL μ I Q K, fun _ => ⟨fun _ => lc_ofCell l H hi hL μ I Q K, fun _ => ⟨fun _ => lc_list l H hi hL μ I Q K, fun _ => ⟨fun _ => lc_ofList l H hi hL μ I Q K, fun _ => ⟨fun _ => lc_dark l H hi hL μ I Q K, fun _ => ⟨fun _ => lc_wants l H hi hL μ I Q K, fun _ => ⟨fun _ => lc_ofWearer l H hi hL μ I Q K, fun _ => ⟨fun _ => lc_boat l H hi hL μ I Q K, fun _ => ⟨fun _ => lc_ofBoat l H hi hL μ I Q K, fun _ => ⟨fun _ => lc_change l H hi hL μ I Q K, fun _ => ⟨fun _ => lc_become l H hi hL μ I Q K, fun _ => ⟨fun _ => lc_as l H hi hL μ I Q K, fun _ => ⟨fun _ => lc_feed l H hi hL μ I Q K, fun _ => ⟨fun _ => lc_text l H hi hL μ I Q K, fun _ => ⟨fun _ => lc_law l H hi hL μ I Q K, fun _ => ⟨fun _ => lc_minutes l H hi hL μ I Q K, fun _ => ⟨fun _ => lc_loose l H hi hL μ I Q K, fun _ => ⟨fun _ => lc_then l H hi hL μ I Q K, fun _ => ⟨fun _ => lc_on l H hi hL μ I Q K, fun _ => ⟨fun _ => lc_full l H hi hL μ I Q K, fun _ => ⟨fun _ => lc_wayFor l H hi hL μ I Q K, fun _ => ⟨fun _ => lc_cellFor l H hi hL μ I Q K, fun _ => ⟨fun _ => lc_kindFor l H hi hL μ I Q K, fun _ => ⟨fun _ => lc_route l H hi hL μ I Q K, fun _ => ⟨fun _ => lc_darkFor l H hi hL μ I Q K, fun _ => ⟨fun _ => lc_match l H hi hL μ I Q K, fun _ => ⟨fun _ => lc_blend l H hi hL μ I Q K, fun _ => ⟨fun _ => lc_which l H hi hL μ I Q K, fun _ => ⟨fun _ => lc_lay l H hi hL μ I Q K, fun _ => ⟨fun _ => lc_odds l H hi hL μ I Q K, fun _ => ⟨fun _ => lc_seed l H hi hL μ I Q K, fun _ => ⟨fun _ => lc_voice l H hi hL μ I Q K, fun _ => ⟨fun _ => lc_trace l H hi hL μ I Q K, fun _ => ⟨fun _ => lc_sheet l H hi hL μ I Q K, fun _ => ⟨fun _ => lc_put l H hi hL μ I Q K, fun _ => ⟨fun _ => lc_move l H hi hL μ I Q K, fun _ => ⟨fun _ => lc_lies l H hi hL μ I Q K, fun _ => ⟨fun _ => lc_judge l H hi hL μ I Q K, fun _ => ⟨fun _ => lc_image l H hi hL μ I Q K, fun _ => ⟨fun _ => lc_restore l H hi hL μ I Q K, fun _ => ⟨fun _ => lc_tell l H hi hL μ I Q K, fun _ => ⟨fun _ => lc_check l H hi hL μ I Q K, fun _ => ⟨fun _ => lc_count l H hi hL μ I Q K, fun _ => ⟨fun _ => lc_told l H hi hL μ I Q K, fun _ => K μ I⟩⟩⟩⟩⟩⟩⟩⟩⟩⟩⟩⟩⟩⟩⟩⟩⟩⟩⟩⟩⟩⟩⟩⟩⟩⟩⟩⟩⟩⟩⟩⟩⟩⟩⟩⟩⟩⟩⟩⟩⟩⟩⟩⟩
    · exact out i μ hi hi0 I
