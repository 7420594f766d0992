/-! ===== calls, class against model: trace, tell, images ===== -/
theorem inS (b : Int32) {N : Nat} (hN : N ≤ 100) : (∃ B : Nat, B < N ∧ b = nI B ∧ ¬ nI B < 0 ∧ ¬ nI N ≤ nI B ∧ 0 ≤ nI B ∧ nI B ≤ nI N - 1) ∨ ((b < 0 ∨ nI N ≤ b) ∧ ¬ (0 ≤ b ∧ b ≤ nI N - 1) ∧ ¬ (¬ b < 0 ∧ ¬ nI N ≤ b)) := by
  have e : (nI N - 1).toInt = (N : Int) - 1 := by
    have e1 : (1 : Int32).toInt = 1 := rfl
    rw [fb_subI] <;> rw [nI_toInt (by omega), e1] <;> omega
  by_cases h : b < 0
  · exact Or.inr ⟨Or.inl h, fun z => absurd h (Int32.not_lt.mpr z.1), fun z => z.1 h⟩
  · by_cases h2 : nI N ≤ b
    · refine Or.inr ⟨Or.inr h2, fun z => ?_, fun z => z.2 h2⟩
      have z2 := (fa_le _ _).mp z.2
      have z3 := (fa_le _ _).mp h2
      rw [e] at z2
      rw [nI_toInt (by omega)] at z3
      omega
    · obtain ⟨B, hB, rfl⟩ := nI_of h
      have hlt : B < N := by
        have := Int32.not_le.mp h2
        exact (nI_ltI hB (by omega)).mp this
      refine Or.inl ⟨B, hlt, rfl, h, h2, nI_pos' hB, ?_⟩
      rw [fa_le, e, nI_toInt hB]
      omega
theorem rowOk {μ : ix_M} {r n m : Nat} (h : μ r 1 = nI n) (hn : n ≤ m) (hl : ix_len (r + 1) = m) (hm : m < 1000) : RowOk μ r := by
  unfold RowOk
  rw [h, nI_toInt (by omega), hl]
  omega
theorem rAdd_eq {μ : ix_M} {r n m : Nat} {v : Int32} (h : μ r 1 = nI n) (hl : ix_len (r + 1) = m) (hn : n < m) (hm : m < 1000) : rAdd μ r v = ix_up (ix_up μ (r + 1) n v) r 1 (nI (n + 1)) := by
  unfold rAdd
  rw [h, hl, nI_toInt (by omega), nI_clamp (by omega), nI_1, if_pos (by omega)]
def o_X10_trace : List (Nat × ix_Op) := [
  (0, ix_aload 0 1),
  (1, ix_getr 9 7 (fun _ => 93) 4),
  (4, ix_getr 7 3 (fun _ => 94) 7),
  (7, ix_iload 1 8),
  (8, oc_X4_has 11),
  (11, ix_if (fun x => x = 0) 14 20),
  (14, ix_aload 0 15),
  (15, ix_push (vi 2) 16),
  (16, oc_X10_error 19),
  (19, ix_iret),
  (20, ix_aload 0 21),
  (21, ix_getr 9 7 (fun _ => 93) 24),
  (24, ix_getr 7 3 (fun _ => 94) 27),
  (27, ix_iload 1 28),
  (28, oc_X4_get 31),
  (31, ix_iret)]
set_option maxRecDepth 20000 in
theorem a_X10_trace (l : Launch) : ix_AllS l cX10_trace 2 RX10 60 (some .int) o_X10_trace :=
  .cons (ix_s_aload_n dX10_trace_0 rfl) <|
  .cons (ix_s_getr (j := 5) tu_X10 rfl (by decide) (by decide) tw_256 rfl ts_9_5_r dX10_trace_1) <|
  .cons (ix_s_getr (j := 0) tu_X8 rfl (by decide) (by decide) tw_200 rfl ts_7_0_r dX10_trace_4) <|
  .cons (ix_s_iload_n dX10_trace_7 rfl) <|
  .cons (oc_X4_has_s (ix_s_callv (t := 3) (k_X4_has l) (by decide) (by decide) tw_474 tw_6 tw_790 tw_472 tw_473 ⟨by decide, by decide, by decide +kernel⟩ (by decide) rfl rfl (fun _ => ⟨_, _, rfl, rfl⟩) dX10_trace_8)) <|
  .cons (ix_s_if_ne dX10_trace_11 (by decide)) <|
  .cons (ix_s_aload_n dX10_trace_14 rfl) <|
  .cons (ix_s_iconst dX10_trace_15 (by decide +kernel)) <|
  .cons (oc_X10_error_s (ix_s_callv (t := 9) (k_X10_error l) (by decide) (by decide) tw_295 tw_1 tw_292 tw_294 tp_0 ⟨by decide, by decide, by decide +kernel⟩ (by decide) rfl rfl (fun _ => ⟨_, _, rfl, rfl⟩) dX10_trace_16)) <|
  .cons (ix_s_iret dX10_trace_19 rfl) <|
  .cons (ix_s_aload_n dX10_trace_20 rfl) <|
  .cons (ix_s_getr (j := 5) tu_X10 rfl (by decide) (by decide) tw_256 rfl ts_9_5_r dX10_trace_21) <|
  .cons (ix_s_getr (j := 0) tu_X8 rfl (by decide) (by decide) tw_200 rfl ts_7_0_r dX10_trace_24) <|
  .cons (ix_s_iload_n dX10_trace_27 rfl) <|
  .cons (oc_X4_get_s (ix_s_callv (t := 3) (k_X4_get l) (by decide) (by decide) tw_747 tw_6 tw_744 tw_745 tw_746 ⟨by decide, by decide, by decide +kernel⟩ (by decide) rfl rfl (fun _ => ⟨_, _, rfl, rfl⟩) dX10_trace_28)) <|
  .cons (ix_s_iret dX10_trace_31 rfl) <| .nil
theorem e_X10_trace_0 (Q : ix_R → Prop) (ls : ix_L) (st : List ix_V) (μ : ix_M) : ix_Ev o_X10_trace Q (0, ls, st, μ) = ix_aload 0 1 (ix_Ev o_X10_trace Q) Q ls st μ := ix_Ev.eq (a_X10_trace launch0) rfl ls st μ
theorem e_X10_trace_1 (Q : ix_R → Prop) (ls : ix_L) (st : List ix_V) (μ : ix_M) : ix_Ev o_X10_trace Q (1, ls, st, μ) = ix_getr 9 7 (fun _ => 93) 4 (ix_Ev o_X10_trace Q) Q ls st μ := ix_Ev.eq (a_X10_trace launch0) rfl ls st μ
theorem e_X10_trace_4 (Q : ix_R → Prop) (ls : ix_L) (st : List ix_V) (μ : ix_M) : ix_Ev o_X10_trace Q (4, ls, st, μ) = ix_getr 7 3 (fun _ => 94) 7 (ix_Ev o_X10_trace Q) Q ls st μ := ix_Ev.eq (a_X10_trace launch0) rfl ls st μ
theorem e_X10_trace_7 (Q : ix_R → Prop) (ls : ix_L) (st : List ix_V) (μ : ix_M) : ix_Ev o_X10_trace Q (7, ls, st, μ) = ix_iload 1 8 (ix_Ev o_X10_trace Q) Q ls st μ := ix_Ev.eq (a_X10_trace launch0) rfl ls st μ
theorem e_X10_trace_8 (Q : ix_R → Prop) (ls : ix_L) (st : List ix_V) (μ : ix_M) : ix_Ev o_X10_trace Q (8, ls, st, μ) = oc_X4_has 11 (ix_Ev o_X10_trace Q) Q ls st μ := ix_Ev.eq (a_X10_trace launch0) rfl ls st μ
theorem e_X10_trace_11 (Q : ix_R → Prop) (ls : ix_L) (st : List ix_V) (μ : ix_M) : ix_Ev o_X10_trace Q (11, ls, st, μ) = ix_if (fun x => x = 0) 14 20 (ix_Ev o_X10_trace Q) Q ls st μ := ix_Ev.eq (a_X10_trace launch0) rfl ls st μ
theorem e_X10_trace_14 (Q : ix_R → Prop) (ls : ix_L) (st : List ix_V) (μ : ix_M) : ix_Ev o_X10_trace Q (14, ls, st, μ) = ix_aload 0 15 (ix_Ev o_X10_trace Q) Q ls st μ := ix_Ev.eq (a_X10_trace launch0) rfl ls st μ
theorem e_X10_trace_15 (Q : ix_R → Prop) (ls : ix_L) (st : List ix_V) (μ : ix_M) : ix_Ev o_X10_trace Q (15, ls, st, μ) = ix_push (vi 2) 16 (ix_Ev o_X10_trace Q) Q ls st μ := ix_Ev.eq (a_X10_trace launch0) rfl ls st μ
theorem e_X10_trace_16 (Q : ix_R → Prop) (ls : ix_L) (st : List ix_V) (μ : ix_M) : ix_Ev o_X10_trace Q (16, ls, st, μ) = oc_X10_error 19 (ix_Ev o_X10_trace Q) Q ls st μ := ix_Ev.eq (a_X10_trace launch0) rfl ls st μ
theorem e_X10_trace_19 (Q : ix_R → Prop) (ls : ix_L) (st : List ix_V) (μ : ix_M) : ix_Ev o_X10_trace Q (19, ls, st, μ) = ix_iret (ix_Ev o_X10_trace Q) Q ls st μ := ix_Ev.eq (a_X10_trace launch0) rfl ls st μ
theorem e_X10_trace_20 (Q : ix_R → Prop) (ls : ix_L) (st : List ix_V) (μ : ix_M) : ix_Ev o_X10_trace Q (20, ls, st, μ) = ix_aload 0 21 (ix_Ev o_X10_trace Q) Q ls st μ := ix_Ev.eq (a_X10_trace launch0) rfl ls st μ
theorem e_X10_trace_21 (Q : ix_R → Prop) (ls : ix_L) (st : List ix_V) (μ : ix_M) : ix_Ev o_X10_trace Q (21, ls, st, μ) = ix_getr 9 7 (fun _ => 93) 24 (ix_Ev o_X10_trace Q) Q ls st μ := ix_Ev.eq (a_X10_trace launch0) rfl ls st μ
theorem e_X10_trace_24 (Q : ix_R → Prop) (ls : ix_L) (st : List ix_V) (μ : ix_M) : ix_Ev o_X10_trace Q (24, ls, st, μ) = ix_getr 7 3 (fun _ => 94) 27 (ix_Ev o_X10_trace Q) Q ls st μ := ix_Ev.eq (a_X10_trace launch0) rfl ls st μ
theorem e_X10_trace_27 (Q : ix_R → Prop) (ls : ix_L) (st : List ix_V) (μ : ix_M) : ix_Ev o_X10_trace Q (27, ls, st, μ) = ix_iload 1 28 (ix_Ev o_X10_trace Q) Q ls st μ := ix_Ev.eq (a_X10_trace launch0) rfl ls st μ
theorem e_X10_trace_28 (Q : ix_R → Prop) (ls : ix_L) (st : List ix_V) (μ : ix_M) : ix_Ev o_X10_trace Q (28, ls, st, μ) = oc_X4_get 31 (ix_Ev o_X10_trace Q) Q ls st μ := ix_Ev.eq (a_X10_trace launch0) rfl ls st μ
theorem e_X10_trace_31 (Q : ix_R → Prop) (ls : ix_L) (st : List ix_V) (μ : ix_M) : ix_Ev o_X10_trace Q (31, ls, st, μ) = ix_iret (ix_Ev o_X10_trace Q) Q ls st μ := ix_Ev.eq (a_X10_trace launch0) rfl ls st μ
def o_X11_trace : List (Nat × ix_Op) := [
  (0, ix_iload 1 1),
  (1, ix_push (vi 0) 2),
  (2, ix_aload 0 3),
  (3, ix_geti 10 18 6),
  (6, ix_push (vi 1) 7),
  (7, ix_bin (fun x y => x - y) 8),
  (8, oc_X11_within 11),
  (11, ix_if (fun x => x = 0) 23 14),
  (14, ix_aload 0 15),
  (15, ix_getr 10 20 (fun _ => 122) 18),
  (18, ix_iload 1 19),
  (19, ix_iald 20),
  (20, ix_goto 30),
  (23, ix_aload 0 24),
  (24, ix_push (vi (-1000000002)) 27),
  (27, oc_X11_finding 30),
  (30, ix_iret)]
set_option maxRecDepth 20000 in
theorem a_X11_trace (l : Launch) : ix_AllS l cX11_trace 2 RX11 60 (some .int) o_X11_trace :=
  .cons (ix_s_iload_n dX11_trace_0 rfl) <|
  .cons (ix_s_iconst dX11_trace_1 (by decide +kernel)) <|
  .cons (ix_s_aload_n dX11_trace_2 rfl) <|
  .cons (ix_s_geti (j := 18) tu_X11 rfl (by decide) (by decide) tw_893 rfl ts_10_18_i dX11_trace_3) <|
  .cons (ix_s_iconst dX11_trace_6 (by decide +kernel)) <|
  .cons (ix_s_isub dX11_trace_7) <|
  .cons (oc_X11_within_s (ix_s_calls (k_X11_within l) (by decide) (by decide) tw_960 tw_12 tw_958 tw_959 ⟨by decide, by decide, by decide +kernel⟩ (fun _ => rfl) dX11_trace_8)) <|
  .cons (ix_s_if_eq dX11_trace_11 (by decide)) <|
  .cons (ix_s_aload_n dX11_trace_14 rfl) <|
  .cons (ix_s_getr (j := 17) tu_X11 rfl (by decide) (by decide) tw_892 rfl ts_10_17_r dX11_trace_15) <|
  .cons (ix_s_iload_n dX11_trace_18 rfl) <|
  .cons (ix_s_iald dX11_trace_19) <|
  .cons (ix_s_goto dX11_trace_20 (by decide)) <|
  .cons (ix_s_aload_n dX11_trace_23 rfl) <|
  .cons (ix_s_ldcw tw_1238 dX11_trace_24) <|
  .cons (oc_X11_finding_s (ix_s_callv (t := 10) (k_X11_finding l) (by decide) (by decide) tw_965 tw_12 tw_962 tw_964 tp_18 ⟨by decide, by decide, by decide +kernel⟩ (by decide) rfl rfl (fun _ => ⟨_, _, rfl, rfl⟩) dX11_trace_27)) <|
  .cons (ix_s_iret dX11_trace_30 rfl) <| .nil
theorem e_X11_trace_0 (Q : ix_R → Prop) (ls : ix_L) (st : List ix_V) (μ : ix_M) : ix_Ev o_X11_trace Q (0, ls, st, μ) = ix_iload 1 1 (ix_Ev o_X11_trace Q) Q ls st μ := ix_Ev.eq (a_X11_trace launch0) rfl ls st μ
theorem e_X11_trace_1 (Q : ix_R → Prop) (ls : ix_L) (st : List ix_V) (μ : ix_M) : ix_Ev o_X11_trace Q (1, ls, st, μ) = ix_push (vi 0) 2 (ix_Ev o_X11_trace Q) Q ls st μ := ix_Ev.eq (a_X11_trace launch0) rfl ls st μ
theorem e_X11_trace_2 (Q : ix_R → Prop) (ls : ix_L) (st : List ix_V) (μ : ix_M) : ix_Ev o_X11_trace Q (2, ls, st, μ) = ix_aload 0 3 (ix_Ev o_X11_trace Q) Q ls st μ := ix_Ev.eq (a_X11_trace launch0) rfl ls st μ
theorem e_X11_trace_3 (Q : ix_R → Prop) (ls : ix_L) (st : List ix_V) (μ : ix_M) : ix_Ev o_X11_trace Q (3, ls, st, μ) = ix_geti 10 18 6 (ix_Ev o_X11_trace Q) Q ls st μ := ix_Ev.eq (a_X11_trace launch0) rfl ls st μ
theorem e_X11_trace_6 (Q : ix_R → Prop) (ls : ix_L) (st : List ix_V) (μ : ix_M) : ix_Ev o_X11_trace Q (6, ls, st, μ) = ix_push (vi 1) 7 (ix_Ev o_X11_trace Q) Q ls st μ := ix_Ev.eq (a_X11_trace launch0) rfl ls st μ
theorem e_X11_trace_7 (Q : ix_R → Prop) (ls : ix_L) (st : List ix_V) (μ : ix_M) : ix_Ev o_X11_trace Q (7, ls, st, μ) = ix_bin (fun x y => x - y) 8 (ix_Ev o_X11_trace Q) Q ls st μ := ix_Ev.eq (a_X11_trace launch0) rfl ls st μ
theorem e_X11_trace_8 (Q : ix_R → Prop) (ls : ix_L) (st : List ix_V) (μ : ix_M) : ix_Ev o_X11_trace Q (8, ls, st, μ) = oc_X11_within 11 (ix_Ev o_X11_trace Q) Q ls st μ := ix_Ev.eq (a_X11_trace launch0) rfl ls st μ
theorem e_X11_trace_11 (Q : ix_R → Prop) (ls : ix_L) (st : List ix_V) (μ : ix_M) : ix_Ev o_X11_trace Q (11, ls, st, μ) = ix_if (fun x => x = 0) 23 14 (ix_Ev o_X11_trace Q) Q ls st μ := ix_Ev.eq (a_X11_trace launch0) rfl ls st μ
theorem e_X11_trace_14 (Q : ix_R → Prop) (ls : ix_L) (st : List ix_V) (μ : ix_M) : ix_Ev o_X11_trace Q (14, ls, st, μ) = ix_aload 0 15 (ix_Ev o_X11_trace Q) Q ls st μ := ix_Ev.eq (a_X11_trace launch0) rfl ls st μ
theorem e_X11_trace_15 (Q : ix_R → Prop) (ls : ix_L) (st : List ix_V) (μ : ix_M) : ix_Ev o_X11_trace Q (15, ls, st, μ) = ix_getr 10 20 (fun _ => 122) 18 (ix_Ev o_X11_trace Q) Q ls st μ := ix_Ev.eq (a_X11_trace launch0) rfl ls st μ
theorem e_X11_trace_18 (Q : ix_R → Prop) (ls : ix_L) (st : List ix_V) (μ : ix_M) : ix_Ev o_X11_trace Q (18, ls, st, μ) = ix_iload 1 19 (ix_Ev o_X11_trace Q) Q ls st μ := ix_Ev.eq (a_X11_trace launch0) rfl ls st μ
theorem e_X11_trace_19 (Q : ix_R → Prop) (ls : ix_L) (st : List ix_V) (μ : ix_M) : ix_Ev o_X11_trace Q (19, ls, st, μ) = ix_iald 20 (ix_Ev o_X11_trace Q) Q ls st μ := ix_Ev.eq (a_X11_trace launch0) rfl ls st μ
theorem e_X11_trace_20 (Q : ix_R → Prop) (ls : ix_L) (st : List ix_V) (μ : ix_M) : ix_Ev o_X11_trace Q (20, ls, st, μ) = ix_goto 30 (ix_Ev o_X11_trace Q) Q ls st μ := ix_Ev.eq (a_X11_trace launch0) rfl ls st μ
theorem e_X11_trace_23 (Q : ix_R → Prop) (ls : ix_L) (st : List ix_V) (μ : ix_M) : ix_Ev o_X11_trace Q (23, ls, st, μ) = ix_aload 0 24 (ix_Ev o_X11_trace Q) Q ls st μ := ix_Ev.eq (a_X11_trace launch0) rfl ls st μ
theorem e_X11_trace_24 (Q : ix_R → Prop) (ls : ix_L) (st : List ix_V) (μ : ix_M) : ix_Ev o_X11_trace Q (24, ls, st, μ) = ix_push (vi (-1000000002)) 27 (ix_Ev o_X11_trace Q) Q ls st μ := ix_Ev.eq (a_X11_trace launch0) rfl ls st μ
theorem e_X11_trace_27 (Q : ix_R → Prop) (ls : ix_L) (st : List ix_V) (μ : ix_M) : ix_Ev o_X11_trace Q (27, ls, st, μ) = oc_X11_finding 30 (ix_Ev o_X11_trace Q) Q ls st μ := ix_Ev.eq (a_X11_trace launch0) rfl ls st μ
theorem e_X11_trace_30 (Q : ix_R → Prop) (ls : ix_L) (st : List ix_V) (μ : ix_M) : ix_Ev o_X11_trace Q (30, ls, st, μ) = ix_iret (ix_Ev o_X11_trace Q) Q ls st μ := ix_Ev.eq (a_X11_trace launch0) rfl ls st μ
theorem pr_trace (i : Int32) (μ : ix_M) (I : Inv μ) (Q : ix_R → Prop) (hQ : ∀ vv μ', ix_Ev o_X11_trace (Pst vv) (0, [some (vr 10 112), some (vi i)], [], μ') → Q (some (vi vv), μ')) : ix_Ev o_X10_trace Q (0, [some (vr 9 0), some (vi i)], [], μ) := by
  obtain ⟨tr, ⟨t1, t2, t3⟩, t4, t5⟩ := I.2.2.2.2.2.1
  have rk : RowOk μ 94 := rowOk t1 t2 rfl (by decide)
  rcases inS i (N := tr.length) (by omega) with ⟨J, hJ, rfl, J1, J2, J3, J4⟩ | ⟨h1, h2, h3⟩
  · have Jc : (nI J).toNatClampNeg = J := nI_clamp (by omega)
    have v1 : vp_in (nI J) 40 := vp_in_nI (by omega) (by decide)
    simp (decide := true) only [e_X10_trace_0, e_X10_trace_1, e_X10_trace_4, e_X10_trace_7, e_X10_trace_8, e_X10_trace_11, e_X10_trace_14, e_X10_trace_15, e_X10_trace_16, e_X10_trace_19, e_X10_trace_20, e_X10_trace_21, e_X10_trace_24, e_X10_trace_27, e_X10_trace_28, e_X10_trace_31, vi, vl, vr, oc_X10_error, T_X10_error, oc_X4_get, T_X4_get, oc_X4_has, T_X4_has, ix_push, ix_iload, ix_lload, ix_aload, ix_istore, ix_astore, ix_iinc, ix_bin, ix_div, ix_un, ix_i2l, ix_l2i, ix_lbin, ix_lsh, ix_lcmp, ix_dup, ix_dup2, ix_pop, ix_if, ix_cmp, ix_goto, ix_switch, ix_sw, ix_iret, ix_zret, ix_vret, ix_aret, ix_geti, ix_getr, ix_puti, ix_putz, ix_puts, ix_gets, ix_iald, ix_iast, ix_alen, ix_aald, ix_gval, ix_gcod, ix_bald, ix_blen, ix_sald, ix_nret, ix_math2, ix_math1, ix_acopy, Nat.add_assoc, Int32.reduceLT, Int32.reduceLE, Int32.reduceToNatClampNeg, Int32.reduceSub, Int32.reduceAdd, Nat.reduceAdd, Nat.reduceLeDiff, true_or, or_true, or_false, false_or, not_false_eq_true, not_true_eq_false, false_implies, true_implies, implies_true, and_self, mB_0, mB_01, Classical.not_not, Nat.zero_le, List.getElem?_cons_zero, List.getElem?_cons_succ, List.set_cons_zero, List.set_cons_succ, ix_nl, ix_cs, true_and, and_true, Option.toList_some, Option.toList_none, List.cons_append, List.nil_append, t1, t4, rk, J1, J2, J3, J4, Jc, v1, ix_up_ne, ix_up_k, ve_1, ve_2, ve_3, ve_4, ve_5]
    refine hQ _ _ ?_
    simp (decide := true) only [e_X11_trace_0, e_X11_trace_1, e_X11_trace_2, e_X11_trace_3, e_X11_trace_6, e_X11_trace_7, e_X11_trace_8, e_X11_trace_11, e_X11_trace_14, e_X11_trace_15, e_X11_trace_18, e_X11_trace_19, e_X11_trace_20, e_X11_trace_23, e_X11_trace_24, e_X11_trace_27, e_X11_trace_30, vi, vl, vr, oc_X11_finding, T_X11_finding, oc_X11_within, T_X11_within, ix_push, ix_iload, ix_lload, ix_aload, ix_istore, ix_astore, ix_iinc, ix_bin, ix_div, ix_un, ix_i2l, ix_l2i, ix_lbin, ix_lsh, ix_lcmp, ix_dup, ix_dup2, ix_pop, ix_if, ix_cmp, ix_goto, ix_switch, ix_sw, ix_iret, ix_zret, ix_vret, ix_aret, ix_geti, ix_getr, ix_puti, ix_putz, ix_puts, ix_gets, ix_iald, ix_iast, ix_alen, ix_aald, ix_gval, ix_gcod, ix_bald, ix_blen, ix_sald, ix_nret, ix_math2, ix_math1, ix_acopy, ml_113, ml_114, ml_115, ml_116, ml_118, ml_119, ml_120, ml_121, ml_122, ml_123, ml_124, ml_125, ml_126, mv_0, mv_1, mv_2, mv_3, mv_4, mv_5, mB_or, Nat.add_assoc, Int32.reduceLT, Int32.reduceLE, Int32.reduceToNatClampNeg, Int32.reduceSub, Int32.reduceAdd, Nat.reduceAdd, Nat.reduceLeDiff, true_or, or_true, or_false, false_or, not_false_eq_true, not_true_eq_false, false_implies, true_implies, implies_true, and_self, mB_0, mB_01, Classical.not_not, Nat.zero_le, List.getElem?_cons_zero, List.getElem?_cons_succ, List.set_cons_zero, List.set_cons_succ, ix_nl, ix_cs, true_and, and_true, Option.toList_some, Option.toList_none, List.cons_append, List.nil_append, t1, t4, rk, J1, J2, J3, J4, Jc, v1, ix_up_ne, ix_up_k, ve_1, ve_2, ve_3, ve_4, ve_5]
    exact pst (by rw [t3 J hJ, t5 J hJ, if_pos trivial]) I
  · simp (decide := true) only [e_X10_trace_0, e_X10_trace_1, e_X10_trace_4, e_X10_trace_7, e_X10_trace_8, e_X10_trace_11, e_X10_trace_14, e_X10_trace_15, e_X10_trace_16, e_X10_trace_19, e_X10_trace_20, e_X10_trace_21, e_X10_trace_24, e_X10_trace_27, e_X10_trace_28, e_X10_trace_31, vi, vl, vr, oc_X10_error, T_X10_error, oc_X4_get, T_X4_get, oc_X4_has, T_X4_has, ix_push, ix_iload, ix_lload, ix_aload, ix_istore, ix_astore, ix_iinc, ix_bin, ix_div, ix_un, ix_i2l, ix_l2i, ix_lbin, ix_lsh, ix_lcmp, ix_dup, ix_dup2, ix_pop, ix_if, ix_cmp, ix_goto, ix_switch, ix_sw, ix_iret, ix_zret, ix_vret, ix_aret, ix_geti, ix_getr, ix_puti, ix_putz, ix_puts, ix_gets, ix_iald, ix_iast, ix_alen, ix_aald, ix_gval, ix_gcod, ix_bald, ix_blen, ix_sald, ix_nret, ix_math2, ix_math1, ix_acopy, Nat.add_assoc, Int32.reduceLT, Int32.reduceLE, Int32.reduceToNatClampNeg, Int32.reduceSub, Int32.reduceAdd, Nat.reduceAdd, Nat.reduceLeDiff, true_or, or_true, or_false, false_or, not_false_eq_true, not_true_eq_false, false_implies, true_implies, implies_true, and_self, mB_0, mB_01, Classical.not_not, Nat.zero_le, List.getElem?_cons_zero, List.getElem?_cons_succ, List.set_cons_zero, List.set_cons_succ, ix_nl, ix_cs, true_and, and_true, Option.toList_some, Option.toList_none, List.cons_append, List.nil_append, t1, h3, ix_up_ne, ix_up_k, ve_1, ve_2, ve_3, ve_4, ve_5]
    refine hQ _ _ ?_
    simp (decide := true) only [e_X11_trace_0, e_X11_trace_1, e_X11_trace_2, e_X11_trace_3, e_X11_trace_6, e_X11_trace_7, e_X11_trace_8, e_X11_trace_11, e_X11_trace_14, e_X11_trace_15, e_X11_trace_18, e_X11_trace_19, e_X11_trace_20, e_X11_trace_23, e_X11_trace_24, e_X11_trace_27, e_X11_trace_30, vi, vl, vr, oc_X11_finding, T_X11_finding, oc_X11_within, T_X11_within, ix_push, ix_iload, ix_lload, ix_aload, ix_istore, ix_astore, ix_iinc, ix_bin, ix_div, ix_un, ix_i2l, ix_l2i, ix_lbin, ix_lsh, ix_lcmp, ix_dup, ix_dup2, ix_pop, ix_if, ix_cmp, ix_goto, ix_switch, ix_sw, ix_iret, ix_zret, ix_vret, ix_aret, ix_geti, ix_getr, ix_puti, ix_putz, ix_puts, ix_gets, ix_iald, ix_iast, ix_alen, ix_aald, ix_gval, ix_gcod, ix_bald, ix_blen, ix_sald, ix_nret, ix_math2, ix_math1, ix_acopy, ml_113, ml_114, ml_115, ml_116, ml_118, ml_119, ml_120, ml_121, ml_122, ml_123, ml_124, ml_125, ml_126, mv_0, mv_1, mv_2, mv_3, mv_4, mv_5, mB_or, Nat.add_assoc, Int32.reduceLT, Int32.reduceLE, Int32.reduceToNatClampNeg, Int32.reduceSub, Int32.reduceAdd, Nat.reduceAdd, Nat.reduceLeDiff, true_or, or_true, or_false, false_or, not_false_eq_true, not_true_eq_false, false_implies, true_implies, implies_true, and_self, mB_0, mB_01, Classical.not_not, Nat.zero_le, List.getElem?_cons_zero, List.getElem?_cons_succ, List.set_cons_zero, List.set_cons_succ, ix_nl, ix_cs, true_and, and_true, Option.toList_some, Option.toList_none, List.cons_append, List.nil_append, t4, h2, ix_up_ne, ix_up_k, ve_1, ve_2, ve_3, ve_4, ve_5]
    exact I.er 2 (by decide)
def o_X10_tell : List (Nat × ix_Op) := [
  (0, ix_aload 0 1),
  (1, ix_getr 9 5 (fun _ => 1) 4),
  (4, ix_getr 5 3 (fun k => k + 20) 7),
  (7, ix_geti 3 1 10),
  (10, ix_push (vi 20) 12),
  (12, ix_cmp (fun x y => x < y) 21 15),
  (15, ix_aload 0 16),
  (16, ix_push (vi 4) 17),
  (17, oc_X10_error 20),
  (20, ix_iret),
  (21, ix_aload 0 22),
  (22, ix_getr 9 5 (fun _ => 1) 25),
  (25, ix_getr 5 3 (fun k => k + 20) 28),
  (28, ix_iload 1 29),
  (29, oc_X4_add 32),
  (32, ix_aload 0 33),
  (33, ix_getr 9 5 (fun _ => 1) 36),
  (36, ix_getr 5 3 (fun k => k + 20) 39),
  (39, ix_geti 3 1 42),
  (42, ix_iret)]
set_option maxRecDepth 20000 in
theorem a_X10_tell (l : Launch) : ix_AllS l cX10_tell 2 RX10 60 (some .int) o_X10_tell :=
  .cons (ix_s_aload_n dX10_tell_0 rfl) <|
  .cons (ix_s_getr (j := 0) tu_X10 rfl (by decide) (by decide) tw_251 rfl ts_9_0_r dX10_tell_1) <|
  .cons (ix_s_getr (j := 3) tu_X6 rfl (by decide) (by decide) tw_144 rfl ts_5_3_r dX10_tell_4) <|
  .cons (ix_s_geti (j := 1) tu_X4 rfl (by decide) (by decide) tw_113 rfl ts_3_1_i dX10_tell_7) <|
  .cons (ix_s_bipush dX10_tell_10 (by decide +kernel)) <|
  .cons (ix_s_cmp_lt dX10_tell_12 (by decide)) <|
  .cons (ix_s_aload_n dX10_tell_15 rfl) <|
  .cons (ix_s_iconst dX10_tell_16 (by decide +kernel)) <|
  .cons (oc_X10_error_s (ix_s_callv (t := 9) (k_X10_error l) (by decide) (by decide) tw_295 tw_1 tw_292 tw_294 tp_0 ⟨by decide, by decide, by decide +kernel⟩ (by decide) rfl rfl (fun _ => ⟨_, _, rfl, rfl⟩) dX10_tell_17)) <|
  .cons (ix_s_iret dX10_tell_20 rfl) <|
  .cons (ix_s_aload_n dX10_tell_21 rfl) <|
  .cons (ix_s_getr (j := 0) tu_X10 rfl (by decide) (by decide) tw_251 rfl ts_9_0_r dX10_tell_22) <|
  .cons (ix_s_getr (j := 3) tu_X6 rfl (by decide) (by decide) tw_144 rfl ts_5_3_r dX10_tell_25) <|
  .cons (ix_s_iload_n dX10_tell_28 rfl) <|
  .cons (oc_X4_add_s (ix_s_callv (t := 3) (k_X4_add l) (by decide) (by decide) tw_436 tw_6 tw_433 tw_434 tw_435 ⟨by decide, by decide, by decide +kernel⟩ (by decide) rfl rfl (fun _ => ⟨_, _, rfl, rfl⟩) dX10_tell_29)) <|
  .cons (ix_s_aload_n dX10_tell_32 rfl) <|
  .cons (ix_s_getr (j := 0) tu_X10 rfl (by decide) (by decide) tw_251 rfl ts_9_0_r dX10_tell_33) <|
  .cons (ix_s_getr (j := 3) tu_X6 rfl (by decide) (by decide) tw_144 rfl ts_5_3_r dX10_tell_36) <|
  .cons (ix_s_geti (j := 1) tu_X4 rfl (by decide) (by decide) tw_113 rfl ts_3_1_i dX10_tell_39) <|
  .cons (ix_s_iret dX10_tell_42 rfl) <| .nil
theorem e_X10_tell_0 (Q : ix_R → Prop) (ls : ix_L) (st : List ix_V) (μ : ix_M) : ix_Ev o_X10_tell Q (0, ls, st, μ) = ix_aload 0 1 (ix_Ev o_X10_tell Q) Q ls st μ := ix_Ev.eq (a_X10_tell launch0) rfl ls st μ
theorem e_X10_tell_1 (Q : ix_R → Prop) (ls : ix_L) (st : List ix_V) (μ : ix_M) : ix_Ev o_X10_tell Q (1, ls, st, μ) = ix_getr 9 5 (fun _ => 1) 4 (ix_Ev o_X10_tell Q) Q ls st μ := ix_Ev.eq (a_X10_tell launch0) rfl ls st μ
theorem e_X10_tell_4 (Q : ix_R → Prop) (ls : ix_L) (st : List ix_V) (μ : ix_M) : ix_Ev o_X10_tell Q (4, ls, st, μ) = ix_getr 5 3 (fun k => k + 20) 7 (ix_Ev o_X10_tell Q) Q ls st μ := ix_Ev.eq (a_X10_tell launch0) rfl ls st μ
theorem e_X10_tell_7 (Q : ix_R → Prop) (ls : ix_L) (st : List ix_V) (μ : ix_M) : ix_Ev o_X10_tell Q (7, ls, st, μ) = ix_geti 3 1 10 (ix_Ev o_X10_tell Q) Q ls st μ := ix_Ev.eq (a_X10_tell launch0) rfl ls st μ
theorem e_X10_tell_10 (Q : ix_R → Prop) (ls : ix_L) (st : List ix_V) (μ : ix_M) : ix_Ev o_X10_tell Q (10, ls, st, μ) = ix_push (vi 20) 12 (ix_Ev o_X10_tell Q) Q ls st μ := ix_Ev.eq (a_X10_tell launch0) rfl ls st μ
theorem e_X10_tell_12 (Q : ix_R → Prop) (ls : ix_L) (st : List ix_V) (μ : ix_M) : ix_Ev o_X10_tell Q (12, ls, st, μ) = ix_cmp (fun x y => x < y) 21 15 (ix_Ev o_X10_tell Q) Q ls st μ := ix_Ev.eq (a_X10_tell launch0) rfl ls st μ
theorem e_X10_tell_15 (Q : ix_R → Prop) (ls : ix_L) (st : List ix_V) (μ : ix_M) : ix_Ev o_X10_tell Q (15, ls, st, μ) = ix_aload 0 16 (ix_Ev o_X10_tell Q) Q ls st μ := ix_Ev.eq (a_X10_tell launch0) rfl ls st μ
theorem e_X10_tell_16 (Q : ix_R → Prop) (ls : ix_L) (st : List ix_V) (μ : ix_M) : ix_Ev o_X10_tell Q (16, ls, st, μ) = ix_push (vi 4) 17 (ix_Ev o_X10_tell Q) Q ls st μ := ix_Ev.eq (a_X10_tell launch0) rfl ls st μ
theorem e_X10_tell_17 (Q : ix_R → Prop) (ls : ix_L) (st : List ix_V) (μ : ix_M) : ix_Ev o_X10_tell Q (17, ls, st, μ) = oc_X10_error 20 (ix_Ev o_X10_tell Q) Q ls st μ := ix_Ev.eq (a_X10_tell launch0) rfl ls st μ
theorem e_X10_tell_20 (Q : ix_R → Prop) (ls : ix_L) (st : List ix_V) (μ : ix_M) : ix_Ev o_X10_tell Q (20, ls, st, μ) = ix_iret (ix_Ev o_X10_tell Q) Q ls st μ := ix_Ev.eq (a_X10_tell launch0) rfl ls st μ
theorem e_X10_tell_21 (Q : ix_R → Prop) (ls : ix_L) (st : List ix_V) (μ : ix_M) : ix_Ev o_X10_tell Q (21, ls, st, μ) = ix_aload 0 22 (ix_Ev o_X10_tell Q) Q ls st μ := ix_Ev.eq (a_X10_tell launch0) rfl ls st μ
theorem e_X10_tell_22 (Q : ix_R → Prop) (ls : ix_L) (st : List ix_V) (μ : ix_M) : ix_Ev o_X10_tell Q (22, ls, st, μ) = ix_getr 9 5 (fun _ => 1) 25 (ix_Ev o_X10_tell Q) Q ls st μ := ix_Ev.eq (a_X10_tell launch0) rfl ls st μ
theorem e_X10_tell_25 (Q : ix_R → Prop) (ls : ix_L) (st : List ix_V) (μ : ix_M) : ix_Ev o_X10_tell Q (25, ls, st, μ) = ix_getr 5 3 (fun k => k + 20) 28 (ix_Ev o_X10_tell Q) Q ls st μ := ix_Ev.eq (a_X10_tell launch0) rfl ls st μ
theorem e_X10_tell_28 (Q : ix_R → Prop) (ls : ix_L) (st : List ix_V) (μ : ix_M) : ix_Ev o_X10_tell Q (28, ls, st, μ) = ix_iload 1 29 (ix_Ev o_X10_tell Q) Q ls st μ := ix_Ev.eq (a_X10_tell launch0) rfl ls st μ
theorem e_X10_tell_29 (Q : ix_R → Prop) (ls : ix_L) (st : List ix_V) (μ : ix_M) : ix_Ev o_X10_tell Q (29, ls, st, μ) = oc_X4_add 32 (ix_Ev o_X10_tell Q) Q ls st μ := ix_Ev.eq (a_X10_tell launch0) rfl ls st μ
theorem e_X10_tell_32 (Q : ix_R → Prop) (ls : ix_L) (st : List ix_V) (μ : ix_M) : ix_Ev o_X10_tell Q (32, ls, st, μ) = ix_aload 0 33 (ix_Ev o_X10_tell Q) Q ls st μ := ix_Ev.eq (a_X10_tell launch0) rfl ls st μ
theorem e_X10_tell_33 (Q : ix_R → Prop) (ls : ix_L) (st : List ix_V) (μ : ix_M) : ix_Ev o_X10_tell Q (33, ls, st, μ) = ix_getr 9 5 (fun _ => 1) 36 (ix_Ev o_X10_tell Q) Q ls st μ := ix_Ev.eq (a_X10_tell launch0) rfl ls st μ
theorem e_X10_tell_36 (Q : ix_R → Prop) (ls : ix_L) (st : List ix_V) (μ : ix_M) : ix_Ev o_X10_tell Q (36, ls, st, μ) = ix_getr 5 3 (fun k => k + 20) 39 (ix_Ev o_X10_tell Q) Q ls st μ := ix_Ev.eq (a_X10_tell launch0) rfl ls st μ
theorem e_X10_tell_39 (Q : ix_R → Prop) (ls : ix_L) (st : List ix_V) (μ : ix_M) : ix_Ev o_X10_tell Q (39, ls, st, μ) = ix_geti 3 1 42 (ix_Ev o_X10_tell Q) Q ls st μ := ix_Ev.eq (a_X10_tell launch0) rfl ls st μ
theorem e_X10_tell_42 (Q : ix_R → Prop) (ls : ix_L) (st : List ix_V) (μ : ix_M) : ix_Ev o_X10_tell Q (42, ls, st, μ) = ix_iret (ix_Ev o_X10_tell Q) Q ls st μ := ix_Ev.eq (a_X10_tell launch0) rfl ls st μ
def o_X11_tell : List (Nat × ix_Op) := [
  (0, ix_aload 0 1),
  (1, ix_getr 10 20 (fun _ => 113) 4),
  (4, ix_push (vi 5) 5),
  (5, ix_iald 6),
  (6, ix_push (vi 20) 8),
  (8, ix_cmp (fun x y => x = y) 11 18),
  (11, ix_aload 0 12),
  (12, ix_push (vi (-1000000004)) 14),
  (14, oc_X11_finding 17),
  (17, ix_iret),
  (18, ix_aload 0 19),
  (19, ix_getr 10 20 (fun _ => 113) 22),
  (22, ix_push (vi 132) 25),
  (25, ix_aload 0 26),
  (26, ix_getr 10 20 (fun _ => 113) 29),
  (29, ix_push (vi 5) 30),
  (30, ix_iald 31),
  (31, ix_bin (fun x y => x + y) 32),
  (32, ix_iload 1 33),
  (33, ix_iast 34),
  (34, ix_aload 0 35),
  (35, ix_getr 10 20 (fun _ => 113) 38),
  (38, ix_push (vi 5) 39),
  (39, ix_dup2 40),
  (40, ix_iald 41),
  (41, ix_push (vi 1) 42),
  (42, ix_bin (fun x y => x + y) 43),
  (43, ix_iast 44),
  (44, ix_aload 0 45),
  (45, ix_getr 10 20 (fun _ => 113) 48),
  (48, ix_push (vi 5) 49),
  (49, ix_iald 50),
  (50, ix_iret)]
set_option maxRecDepth 20000 in
theorem a_X11_tell (l : Launch) : ix_AllS l cX11_tell 2 RX11 60 (some .int) o_X11_tell :=
  .cons (ix_s_aload_n dX11_tell_0 rfl) <|
  .cons (ix_s_getr (j := 0) tu_X11 rfl (by decide) (by decide) tw_875 rfl ts_10_0_r dX11_tell_1) <|
  .cons (ix_s_iconst dX11_tell_4 (by decide +kernel)) <|
  .cons (ix_s_iald dX11_tell_5) <|
  .cons (ix_s_bipush dX11_tell_6 (by decide +kernel)) <|
  .cons (ix_s_cmp_ne dX11_tell_8 (by decide)) <|
  .cons (ix_s_aload_n dX11_tell_11 rfl) <|
  .cons (ix_s_ldc tw_967 dX11_tell_12) <|
  .cons (oc_X11_finding_s (ix_s_callv (t := 10) (k_X11_finding l) (by decide) (by decide) tw_965 tw_12 tw_962 tw_964 tp_18 ⟨by decide, by decide, by decide +kernel⟩ (by decide) rfl rfl (fun _ => ⟨_, _, rfl, rfl⟩) dX11_tell_14)) <|
  .cons (ix_s_iret dX11_tell_17 rfl) <|
  .cons (ix_s_aload_n dX11_tell_18 rfl) <|
  .cons (ix_s_getr (j := 0) tu_X11 rfl (by decide) (by decide) tw_875 rfl ts_10_0_r dX11_tell_19) <|
  .cons (ix_s_sipush dX11_tell_22 (by decide +kernel)) <|
  .cons (ix_s_aload_n dX11_tell_25 rfl) <|
  .cons (ix_s_getr (j := 0) tu_X11 rfl (by decide) (by decide) tw_875 rfl ts_10_0_r dX11_tell_26) <|
  .cons (ix_s_iconst dX11_tell_29 (by decide +kernel)) <|
  .cons (ix_s_iald dX11_tell_30) <|
  .cons (ix_s_iadd dX11_tell_31) <|
  .cons (ix_s_iload_n dX11_tell_32 rfl) <|
  .cons (ix_s_iast dX11_tell_33) <|
  .cons (ix_s_aload_n dX11_tell_34 rfl) <|
  .cons (ix_s_getr (j := 0) tu_X11 rfl (by decide) (by decide) tw_875 rfl ts_10_0_r dX11_tell_35) <|
  .cons (ix_s_iconst dX11_tell_38 (by decide +kernel)) <|
  .cons (ix_s_dup2 dX11_tell_39) <|
  .cons (ix_s_iald dX11_tell_40) <|
  .cons (ix_s_iconst dX11_tell_41 (by decide +kernel)) <|
  .cons (ix_s_iadd dX11_tell_42) <|
  .cons (ix_s_iast dX11_tell_43) <|
  .cons (ix_s_aload_n dX11_tell_44 rfl) <|
  .cons (ix_s_getr (j := 0) tu_X11 rfl (by decide) (by decide) tw_875 rfl ts_10_0_r dX11_tell_45) <|
  .cons (ix_s_iconst dX11_tell_48 (by decide +kernel)) <|
  .cons (ix_s_iald dX11_tell_49) <|
  .cons (ix_s_iret dX11_tell_50 rfl) <| .nil
theorem e_X11_tell_0 (Q : ix_R → Prop) (ls : ix_L) (st : List ix_V) (μ : ix_M) : ix_Ev o_X11_tell Q (0, ls, st, μ) = ix_aload 0 1 (ix_Ev o_X11_tell Q) Q ls st μ := ix_Ev.eq (a_X11_tell launch0) rfl ls st μ
theorem e_X11_tell_1 (Q : ix_R → Prop) (ls : ix_L) (st : List ix_V) (μ : ix_M) : ix_Ev o_X11_tell Q (1, ls, st, μ) = ix_getr 10 20 (fun _ => 113) 4 (ix_Ev o_X11_tell Q) Q ls st μ := ix_Ev.eq (a_X11_tell launch0) rfl ls st μ
theorem e_X11_tell_4 (Q : ix_R → Prop) (ls : ix_L) (st : List ix_V) (μ : ix_M) : ix_Ev o_X11_tell Q (4, ls, st, μ) = ix_push (vi 5) 5 (ix_Ev o_X11_tell Q) Q ls st μ := ix_Ev.eq (a_X11_tell launch0) rfl ls st μ
theorem e_X11_tell_5 (Q : ix_R → Prop) (ls : ix_L) (st : List ix_V) (μ : ix_M) : ix_Ev o_X11_tell Q (5, ls, st, μ) = ix_iald 6 (ix_Ev o_X11_tell Q) Q ls st μ := ix_Ev.eq (a_X11_tell launch0) rfl ls st μ
theorem e_X11_tell_6 (Q : ix_R → Prop) (ls : ix_L) (st : List ix_V) (μ : ix_M) : ix_Ev o_X11_tell Q (6, ls, st, μ) = ix_push (vi 20) 8 (ix_Ev o_X11_tell Q) Q ls st μ := ix_Ev.eq (a_X11_tell launch0) rfl ls st μ
theorem e_X11_tell_8 (Q : ix_R → Prop) (ls : ix_L) (st : List ix_V) (μ : ix_M) : ix_Ev o_X11_tell Q (8, ls, st, μ) = ix_cmp (fun x y => x = y) 11 18 (ix_Ev o_X11_tell Q) Q ls st μ := ix_Ev.eq (a_X11_tell launch0) rfl ls st μ
theorem e_X11_tell_11 (Q : ix_R → Prop) (ls : ix_L) (st : List ix_V) (μ : ix_M) : ix_Ev o_X11_tell Q (11, ls, st, μ) = ix_aload 0 12 (ix_Ev o_X11_tell Q) Q ls st μ := ix_Ev.eq (a_X11_tell launch0) rfl ls st μ
theorem e_X11_tell_12 (Q : ix_R → Prop) (ls : ix_L) (st : List ix_V) (μ : ix_M) : ix_Ev o_X11_tell Q (12, ls, st, μ) = ix_push (vi (-1000000004)) 14 (ix_Ev o_X11_tell Q) Q ls st μ := ix_Ev.eq (a_X11_tell launch0) rfl ls st μ
theorem e_X11_tell_14 (Q : ix_R → Prop) (ls : ix_L) (st : List ix_V) (μ : ix_M) : ix_Ev o_X11_tell Q (14, ls, st, μ) = oc_X11_finding 17 (ix_Ev o_X11_tell Q) Q ls st μ := ix_Ev.eq (a_X11_tell launch0) rfl ls st μ
theorem e_X11_tell_17 (Q : ix_R → Prop) (ls : ix_L) (st : List ix_V) (μ : ix_M) : ix_Ev o_X11_tell Q (17, ls, st, μ) = ix_iret (ix_Ev o_X11_tell Q) Q ls st μ := ix_Ev.eq (a_X11_tell launch0) rfl ls st μ
theorem e_X11_tell_18 (Q : ix_R → Prop) (ls : ix_L) (st : List ix_V) (μ : ix_M) : ix_Ev o_X11_tell Q (18, ls, st, μ) = ix_aload 0 19 (ix_Ev o_X11_tell Q) Q ls st μ := ix_Ev.eq (a_X11_tell launch0) rfl ls st μ
theorem e_X11_tell_19 (Q : ix_R → Prop) (ls : ix_L) (st : List ix_V) (μ : ix_M) : ix_Ev o_X11_tell Q (19, ls, st, μ) = ix_getr 10 20 (fun _ => 113) 22 (ix_Ev o_X11_tell Q) Q ls st μ := ix_Ev.eq (a_X11_tell launch0) rfl ls st μ
theorem e_X11_tell_22 (Q : ix_R → Prop) (ls : ix_L) (st : List ix_V) (μ : ix_M) : ix_Ev o_X11_tell Q (22, ls, st, μ) = ix_push (vi 132) 25 (ix_Ev o_X11_tell Q) Q ls st μ := ix_Ev.eq (a_X11_tell launch0) rfl ls st μ
theorem e_X11_tell_25 (Q : ix_R → Prop) (ls : ix_L) (st : List ix_V) (μ : ix_M) : ix_Ev o_X11_tell Q (25, ls, st, μ) = ix_aload 0 26 (ix_Ev o_X11_tell Q) Q ls st μ := ix_Ev.eq (a_X11_tell launch0) rfl ls st μ
theorem e_X11_tell_26 (Q : ix_R → Prop) (ls : ix_L) (st : List ix_V) (μ : ix_M) : ix_Ev o_X11_tell Q (26, ls, st, μ) = ix_getr 10 20 (fun _ => 113) 29 (ix_Ev o_X11_tell Q) Q ls st μ := ix_Ev.eq (a_X11_tell launch0) rfl ls st μ
theorem e_X11_tell_29 (Q : ix_R → Prop) (ls : ix_L) (st : List ix_V) (μ : ix_M) : ix_Ev o_X11_tell Q (29, ls, st, μ) = ix_push (vi 5) 30 (ix_Ev o_X11_tell Q) Q ls st μ := ix_Ev.eq (a_X11_tell launch0) rfl ls st μ
theorem e_X11_tell_30 (Q : ix_R → Prop) (ls : ix_L) (st : List ix_V) (μ : ix_M) : ix_Ev o_X11_tell Q (30, ls, st, μ) = ix_iald 31 (ix_Ev o_X11_tell Q) Q ls st μ := ix_Ev.eq (a_X11_tell launch0) rfl ls st μ
theorem e_X11_tell_31 (Q : ix_R → Prop) (ls : ix_L) (st : List ix_V) (μ : ix_M) : ix_Ev o_X11_tell Q (31, ls, st, μ) = ix_bin (fun x y => x + y) 32 (ix_Ev o_X11_tell Q) Q ls st μ := ix_Ev.eq (a_X11_tell launch0) rfl ls st μ
theorem e_X11_tell_32 (Q : ix_R → Prop) (ls : ix_L) (st : List ix_V) (μ : ix_M) : ix_Ev o_X11_tell Q (32, ls, st, μ) = ix_iload 1 33 (ix_Ev o_X11_tell Q) Q ls st μ := ix_Ev.eq (a_X11_tell launch0) rfl ls st μ
theorem e_X11_tell_33 (Q : ix_R → Prop) (ls : ix_L) (st : List ix_V) (μ : ix_M) : ix_Ev o_X11_tell Q (33, ls, st, μ) = ix_iast 34 (ix_Ev o_X11_tell Q) Q ls st μ := ix_Ev.eq (a_X11_tell launch0) rfl ls st μ
theorem e_X11_tell_34 (Q : ix_R → Prop) (ls : ix_L) (st : List ix_V) (μ : ix_M) : ix_Ev o_X11_tell Q (34, ls, st, μ) = ix_aload 0 35 (ix_Ev o_X11_tell Q) Q ls st μ := ix_Ev.eq (a_X11_tell launch0) rfl ls st μ
theorem e_X11_tell_35 (Q : ix_R → Prop) (ls : ix_L) (st : List ix_V) (μ : ix_M) : ix_Ev o_X11_tell Q (35, ls, st, μ) = ix_getr 10 20 (fun _ => 113) 38 (ix_Ev o_X11_tell Q) Q ls st μ := ix_Ev.eq (a_X11_tell launch0) rfl ls st μ
theorem e_X11_tell_38 (Q : ix_R → Prop) (ls : ix_L) (st : List ix_V) (μ : ix_M) : ix_Ev o_X11_tell Q (38, ls, st, μ) = ix_push (vi 5) 39 (ix_Ev o_X11_tell Q) Q ls st μ := ix_Ev.eq (a_X11_tell launch0) rfl ls st μ
theorem e_X11_tell_39 (Q : ix_R → Prop) (ls : ix_L) (st : List ix_V) (μ : ix_M) : ix_Ev o_X11_tell Q (39, ls, st, μ) = ix_dup2 40 (ix_Ev o_X11_tell Q) Q ls st μ := ix_Ev.eq (a_X11_tell launch0) rfl ls st μ
theorem e_X11_tell_40 (Q : ix_R → Prop) (ls : ix_L) (st : List ix_V) (μ : ix_M) : ix_Ev o_X11_tell Q (40, ls, st, μ) = ix_iald 41 (ix_Ev o_X11_tell Q) Q ls st μ := ix_Ev.eq (a_X11_tell launch0) rfl ls st μ
theorem e_X11_tell_41 (Q : ix_R → Prop) (ls : ix_L) (st : List ix_V) (μ : ix_M) : ix_Ev o_X11_tell Q (41, ls, st, μ) = ix_push (vi 1) 42 (ix_Ev o_X11_tell Q) Q ls st μ := ix_Ev.eq (a_X11_tell launch0) rfl ls st μ
theorem e_X11_tell_42 (Q : ix_R → Prop) (ls : ix_L) (st : List ix_V) (μ : ix_M) : ix_Ev o_X11_tell Q (42, ls, st, μ) = ix_bin (fun x y => x + y) 43 (ix_Ev o_X11_tell Q) Q ls st μ := ix_Ev.eq (a_X11_tell launch0) rfl ls st μ
theorem e_X11_tell_43 (Q : ix_R → Prop) (ls : ix_L) (st : List ix_V) (μ : ix_M) : ix_Ev o_X11_tell Q (43, ls, st, μ) = ix_iast 44 (ix_Ev o_X11_tell Q) Q ls st μ := ix_Ev.eq (a_X11_tell launch0) rfl ls st μ
theorem e_X11_tell_44 (Q : ix_R → Prop) (ls : ix_L) (st : List ix_V) (μ : ix_M) : ix_Ev o_X11_tell Q (44, ls, st, μ) = ix_aload 0 45 (ix_Ev o_X11_tell Q) Q ls st μ := ix_Ev.eq (a_X11_tell launch0) rfl ls st μ
theorem e_X11_tell_45 (Q : ix_R → Prop) (ls : ix_L) (st : List ix_V) (μ : ix_M) : ix_Ev o_X11_tell Q (45, ls, st, μ) = ix_getr 10 20 (fun _ => 113) 48 (ix_Ev o_X11_tell Q) Q ls st μ := ix_Ev.eq (a_X11_tell launch0) rfl ls st μ
theorem e_X11_tell_48 (Q : ix_R → Prop) (ls : ix_L) (st : List ix_V) (μ : ix_M) : ix_Ev o_X11_tell Q (48, ls, st, μ) = ix_push (vi 5) 49 (ix_Ev o_X11_tell Q) Q ls st μ := ix_Ev.eq (a_X11_tell launch0) rfl ls st μ
theorem e_X11_tell_49 (Q : ix_R → Prop) (ls : ix_L) (st : List ix_V) (μ : ix_M) : ix_Ev o_X11_tell Q (49, ls, st, μ) = ix_iald 50 (ix_Ev o_X11_tell Q) Q ls st μ := ix_Ev.eq (a_X11_tell launch0) rfl ls st μ
theorem e_X11_tell_50 (Q : ix_R → Prop) (ls : ix_L) (st : List ix_V) (μ : ix_M) : ix_Ev o_X11_tell Q (50, ls, st, μ) = ix_iret (ix_Ev o_X11_tell Q) Q ls st μ := ix_Ev.eq (a_X11_tell launch0) rfl ls st μ
theorem pr_tell (v : Int32) (μ : ix_M) (I : Inv μ) (Q : ix_R → Prop) (hQ : ∀ vv μ', ix_Ev o_X11_tell (Pst vv) (0, [some (vr 10 112), some (vi v)], [], μ') → Q (some (vi vv), μ')) : ix_Ev o_X10_tell Q (0, [some (vr 9 0), some (vi v)], [], μ) := by
  obtain ⟨s1, s2, s3, ⟨n, a1, a2, a3, a4⟩, s5, s6, s7⟩ := I.1
  have a2 : μ 21 1 = nI n := a2
  have rk : RowOk μ 21 := rowOk a2 a1 rfl (by decide)
  by_cases hn : n = 20
  · subst hn
    have n3 : ¬ nI 20 < 20 := by decide
    have n4 : nI 20 = 20 := rfl
    simp (decide := true) only [e_X10_tell_0, e_X10_tell_1, e_X10_tell_4, e_X10_tell_7, e_X10_tell_10, e_X10_tell_12, e_X10_tell_15, e_X10_tell_16, e_X10_tell_17, e_X10_tell_20, e_X10_tell_21, e_X10_tell_22, e_X10_tell_25, e_X10_tell_28, e_X10_tell_29, e_X10_tell_32, e_X10_tell_33, e_X10_tell_36, e_X10_tell_39, e_X10_tell_42, vi, vl, vr, oc_X10_error, T_X10_error, oc_X4_add, T_X4_add, ix_push, ix_iload, ix_lload, ix_aload, ix_istore, ix_astore, ix_iinc, ix_bin, ix_div, ix_un, ix_i2l, ix_l2i, ix_lbin, ix_lsh, ix_lcmp, ix_dup, ix_dup2, ix_pop, ix_if, ix_cmp, ix_goto, ix_switch, ix_sw, ix_iret, ix_zret, ix_vret, ix_aret, ix_geti, ix_getr, ix_puti, ix_putz, ix_puts, ix_gets, ix_iald, ix_iast, ix_alen, ix_aald, ix_gval, ix_gcod, ix_bald, ix_blen, ix_sald, ix_nret, ix_math2, ix_math1, ix_acopy, Nat.add_assoc, Int32.reduceLT, Int32.reduceLE, Int32.reduceToNatClampNeg, Int32.reduceSub, Int32.reduceAdd, Nat.reduceAdd, Nat.reduceLeDiff, true_or, or_true, or_false, false_or, not_false_eq_true, not_true_eq_false, false_implies, true_implies, implies_true, and_self, mB_0, mB_01, Classical.not_not, Nat.zero_le, List.getElem?_cons_zero, List.getElem?_cons_succ, List.set_cons_zero, List.set_cons_succ, ix_nl, ix_cs, true_and, and_true, Option.toList_some, Option.toList_none, List.cons_append, List.nil_append, a2, a3, n3, n4, ix_up_ne, ix_up_k, ve_1, ve_2, ve_3, ve_4, ve_5]
    refine hQ _ _ ?_
    simp (decide := true) only [e_X11_tell_0, e_X11_tell_1, e_X11_tell_4, e_X11_tell_5, e_X11_tell_6, e_X11_tell_8, e_X11_tell_11, e_X11_tell_12, e_X11_tell_14, e_X11_tell_17, e_X11_tell_18, e_X11_tell_19, e_X11_tell_22, e_X11_tell_25, e_X11_tell_26, e_X11_tell_29, e_X11_tell_30, e_X11_tell_31, e_X11_tell_32, e_X11_tell_33, e_X11_tell_34, e_X11_tell_35, e_X11_tell_38, e_X11_tell_39, e_X11_tell_40, e_X11_tell_41, e_X11_tell_42, e_X11_tell_43, e_X11_tell_44, e_X11_tell_45, e_X11_tell_48, e_X11_tell_49, e_X11_tell_50, vi, vl, vr, oc_X11_finding, T_X11_finding, ix_push, ix_iload, ix_lload, ix_aload, ix_istore, ix_astore, ix_iinc, ix_bin, ix_div, ix_un, ix_i2l, ix_l2i, ix_lbin, ix_lsh, ix_lcmp, ix_dup, ix_dup2, ix_pop, ix_if, ix_cmp, ix_goto, ix_switch, ix_sw, ix_iret, ix_zret, ix_vret, ix_aret, ix_geti, ix_getr, ix_puti, ix_putz, ix_puts, ix_gets, ix_iald, ix_iast, ix_alen, ix_aald, ix_gval, ix_gcod, ix_bald, ix_blen, ix_sald, ix_nret, ix_math2, ix_math1, ix_acopy, ml_113, ml_114, ml_115, ml_116, ml_118, ml_119, ml_120, ml_121, ml_122, ml_123, ml_124, ml_125, ml_126, mv_0, mv_1, mv_2, mv_3, mv_4, mv_5, mB_or, Nat.add_assoc, Int32.reduceLT, Int32.reduceLE, Int32.reduceToNatClampNeg, Int32.reduceSub, Int32.reduceAdd, Nat.reduceAdd, Nat.reduceLeDiff, true_or, or_true, or_false, false_or, not_false_eq_true, not_true_eq_false, false_implies, true_implies, implies_true, and_self, mB_0, mB_01, Classical.not_not, Nat.zero_le, List.getElem?_cons_zero, List.getElem?_cons_succ, List.set_cons_zero, List.set_cons_succ, ix_nl, ix_cs, true_and, and_true, Option.toList_some, Option.toList_none, List.cons_append, List.nil_append, a2, a3, n3, n4, ix_up_ne, ix_up_k, ve_1, ve_2, ve_3, ve_4, ve_5]
    repeat' (first | exact I.er 4 (by decide) | refine ⟨fun _ => ?_, fun _ => ?_⟩)
  · have n3 : nI n < 20 := nI_lt (a := n) (b := 20) (by omega) (by decide)
    have n4 : ¬ nI n = 20 := fun z => hn ((nI_eq (b := 20) (by omega) (by decide)).mp z)
    have er : rAdd μ 21 v = ix_up (ix_up μ 22 n v) 21 1 (nI (n + 1)) := rAdd_eq a2 (m := 20) rfl (by omega) (by decide)
    obtain ⟨x1, x2, x3⟩ := mix 132 n (by omega)
    have x1 : (132 : Int32) + nI n = nI (132 + n) := x1
    have n5 : nI n + 1 = nI (n + 1) := nI_1 n
    simp (decide := true) only [e_X10_tell_0, e_X10_tell_1, e_X10_tell_4, e_X10_tell_7, e_X10_tell_10, e_X10_tell_12, e_X10_tell_15, e_X10_tell_16, e_X10_tell_17, e_X10_tell_20, e_X10_tell_21, e_X10_tell_22, e_X10_tell_25, e_X10_tell_28, e_X10_tell_29, e_X10_tell_32, e_X10_tell_33, e_X10_tell_36, e_X10_tell_39, e_X10_tell_42, vi, vl, vr, oc_X10_error, T_X10_error, oc_X4_add, T_X4_add, ix_push, ix_iload, ix_lload, ix_aload, ix_istore, ix_astore, ix_iinc, ix_bin, ix_div, ix_un, ix_i2l, ix_l2i, ix_lbin, ix_lsh, ix_lcmp, ix_dup, ix_dup2, ix_pop, ix_if, ix_cmp, ix_goto, ix_switch, ix_sw, ix_iret, ix_zret, ix_vret, ix_aret, ix_geti, ix_getr, ix_puti, ix_putz, ix_puts, ix_gets, ix_iald, ix_iast, ix_alen, ix_aald, ix_gval, ix_gcod, ix_bald, ix_blen, ix_sald, ix_nret, ix_math2, ix_math1, ix_acopy, Nat.add_assoc, Int32.reduceLT, Int32.reduceLE, Int32.reduceToNatClampNeg, Int32.reduceSub, Int32.reduceAdd, Nat.reduceAdd, Nat.reduceLeDiff, true_or, or_true, or_false, false_or, not_false_eq_true, not_true_eq_false, false_implies, true_implies, implies_true, and_self, mB_0, mB_01, Classical.not_not, Nat.zero_le, List.getElem?_cons_zero, List.getElem?_cons_succ, List.set_cons_zero, List.set_cons_succ, ix_nl, ix_cs, true_and, and_true, Option.toList_some, Option.toList_none, List.cons_append, List.nil_append, a2, a3, n3, n4, rk, er, x1, x2, x3, n5, ix_up_ne, ix_up_k, ve_1, ve_2, ve_3, ve_4, ve_5]
    refine hQ _ _ ?_
    simp (decide := true) only [e_X11_tell_0, e_X11_tell_1, e_X11_tell_4, e_X11_tell_5, e_X11_tell_6, e_X11_tell_8, e_X11_tell_11, e_X11_tell_12, e_X11_tell_14, e_X11_tell_17, e_X11_tell_18, e_X11_tell_19, e_X11_tell_22, e_X11_tell_25, e_X11_tell_26, e_X11_tell_29, e_X11_tell_30, e_X11_tell_31, e_X11_tell_32, e_X11_tell_33, e_X11_tell_34, e_X11_tell_35, e_X11_tell_38, e_X11_tell_39, e_X11_tell_40, e_X11_tell_41, e_X11_tell_42, e_X11_tell_43, e_X11_tell_44, e_X11_tell_45, e_X11_tell_48, e_X11_tell_49, e_X11_tell_50, vi, vl, vr, oc_X11_finding, T_X11_finding, ix_push, ix_iload, ix_lload, ix_aload, ix_istore, ix_astore, ix_iinc, ix_bin, ix_div, ix_un, ix_i2l, ix_l2i, ix_lbin, ix_lsh, ix_lcmp, ix_dup, ix_dup2, ix_pop, ix_if, ix_cmp, ix_goto, ix_switch, ix_sw, ix_iret, ix_zret, ix_vret, ix_aret, ix_geti, ix_getr, ix_puti, ix_putz, ix_puts, ix_gets, ix_iald, ix_iast, ix_alen, ix_aald, ix_gval, ix_gcod, ix_bald, ix_blen, ix_sald, ix_nret, ix_math2, ix_math1, ix_acopy, ml_113, ml_114, ml_115, ml_116, ml_118, ml_119, ml_120, ml_121, ml_122, ml_123, ml_124, ml_125, ml_126, mv_0, mv_1, mv_2, mv_3, mv_4, mv_5, mB_or, Nat.add_assoc, Int32.reduceLT, Int32.reduceLE, Int32.reduceToNatClampNeg, Int32.reduceSub, Int32.reduceAdd, Nat.reduceAdd, Nat.reduceLeDiff, true_or, or_true, or_false, false_or, not_false_eq_true, not_true_eq_false, false_implies, true_implies, implies_true, and_self, mB_0, mB_01, Classical.not_not, Nat.zero_le, List.getElem?_cons_zero, List.getElem?_cons_succ, List.set_cons_zero, List.set_cons_succ, ix_nl, ix_cs, true_and, and_true, Option.toList_some, Option.toList_none, List.cons_append, List.nil_append, a2, a3, n3, n4, rk, er, x1, x2, x3, n5, ix_up_ne, ix_up_k, ve_1, ve_2, ve_3, ve_4, ve_5]
    have e5 : ix_up (ix_up (ix_up μ 22 n v) 21 1 (nI (n + 1))) 113 (132 + n) v 113 5 = nI n := by rw [ix_up_ap, if_neg (by omega), ix_up_ne (by decide), ix_up_ne (by decide)]; exact a3
    rw [e5, n5]
    refine pst rfl ?_
    have e1 : ∀ a, a ≠ 21 → a ≠ 22 → a ≠ 113 → ix_up (ix_up (ix_up (ix_up μ 22 n v) 21 1 (nI (n + 1))) 113 (132 + n) v) 113 5 (nI (n + 1)) a = μ a := fun a h1 h2 h3 => by rw [ix_up_ne h3, ix_up_ne h3, ix_up_ne h1, ix_up_ne h2]
    have e2 : ∀ j, j ≠ 5 → j ≠ 132 + n → ix_up (ix_up (ix_up (ix_up μ 22 n v) 21 1 (nI (n + 1))) 113 (132 + n) v) 113 5 (nI (n + 1)) 113 j = μ 113 j := fun j h1 h2 => by rw [ix_up_ap, if_neg (fun z => h1 z.2), ix_up_ap, if_neg (fun z => h2 z.2), ix_up_ne (by decide), ix_up_ne (by decide)]
    refine I.now (L := [21, 22, 113]) ((((Fx.rf.up (by simp)).up (by simp)).up (by simp)).up (by simp)) (by decide) ⟨CW_fx s1 (fun a h1 h2 => e1 a (by omega) (by omega) (by omega)) (fun j h1 h2 => e2 j (by unfold rst at h2; omega) (by omega)), ?_, CT_fx s3 (e1 19 (by decide) (by decide) (by decide)) (e1 20 (by decide) (by decide) (by decide)) (fun j hj => e2 j (by omega) (by omega)), ⟨n + 1, by omega, ?_, ?_, fun j hj => ?_⟩, CN_fx s5 (e1 23 (by decide) (by decide) (by decide)) (fun j hj => e2 j (by omega) (by omega)), CX_fx s6 (e1 12 (by decide) (by decide) (by decide)) (e1 13 (by decide) (by decide) (by decide)) (fun j hj => e2 j (by omega) (by omega)), CX_fx s7 (e1 16 (by decide) (by decide) (by decide)) (e1 17 (by decide) (by decide) (by decide)) (fun j hj => e2 j (by omega) (by omega))⟩ (by decide)
    · rw [e1 1 (by decide) (by decide) (by decide), e2 3 (by decide) (by omega)]
      exact s2
    · rw [ix_up_ne (by decide), ix_up_ne (by decide)]
      exact ix_up_k _ _ _ _
    · exact ix_up_k _ _ _ _
    · show ix_up (ix_up (ix_up (ix_up μ 22 n v) 21 1 (nI (n + 1))) 113 (132 + n) v) 113 5 (nI (n + 1)) 22 j = _
      rw [ix_up_ne (by decide), ix_up_ne (by decide), ix_up_ne (by decide), ix_up_ap]
      by_cases c : j = n
      · subst c
        rw [if_pos ⟨rfl, rfl⟩, ix_up_ap, if_neg (by omega), ix_up_k]
      · rw [if_neg (fun z => c z.2), e2 _ (by omega) (by omega)]
        exact a4 j (by omega)
theorem SR.copy {μ μ' : ix_M} {s s' : Nat} {f f' : Nat → Int32} (h : SR μ s f) (he : stEq μ' s' μ s) (hf : RE f' f) : SR μ' s' f' := by
  obtain ⟨⟨h1, M, hM, h2⟩, h3, ⟨n, n1, n2, n3, n4⟩, ⟨m, m1, m2, m3, m4⟩, h6, ⟨ds, d1, d2⟩, dl, d3, d4⟩ := h
  obtain ⟨q1, ⟨q2, q3⟩, ⟨q4, q5⟩, ⟨q6, q7⟩, ⟨q8, q9⟩, q10, q11⟩ := he
  have en : nv f' = nv f := nv_cong hf
  have tx : ∀ t t' ds, TxtOk μ t ds → μ' (t' + 1) 1 = μ (t + 1) 1 → (∀ j, j < (μ (t + 1) 1).toNatClampNeg → μ' (t' + 2) j = μ (t + 2) j) → TxtOk μ' t' ds := by
    rintro t t' ds ⟨⟨z1, z2, z3⟩, z4⟩ y1 y2
    rw [z1, nI_clamp (by omega)] at y2
    exact ⟨⟨by rw [y1]; exact z1, z2, fun j hj => by rw [y2 j hj]; exact z3 j hj⟩, z4⟩
  rw [n2, nI_clamp (by omega)] at q7
  rw [m2, nI_clamp (by omega)] at q9
  refine ⟨⟨by rw [q1, en]; exact h1, M, hM, by rw [en]; exact h2⟩, by rw [q11, hf 3 (by decide)]; exact h3, ⟨n, n1, by rw [q6]; exact n2, by rw [hf 4 (by decide)]; exact n3, fun j hj => ?_⟩, ⟨m, m1, by rw [q8]; exact m2, by rw [hf 5 (by decide)]; exact m3, fun j hj => ?_⟩, fun j hj => ?_, ⟨ds, tx _ _ ds d1 q2 q3, d2.cong (by decide) hf⟩, dl, tx _ _ dl d3 q4 q5, d4.cong (by decide) hf⟩
  · rw [hf _ (by omega)]
    exact ⟨(q7 j hj).trans (n4 j hj).1, (n4 j hj).2⟩
  · rw [hf _ (by omega)]
    exact (q9 j hj).trans (m4 j hj)
  · rw [hf _ (by omega), q10 j hj]
    exact h6 j hj
theorem SR.rk {μ : ix_M} {s : Nat} {f : Nat → Int32} (h : SR μ s f) (h1 : ix_len (s + 12) = 50) (h2 : ix_len (s + 16) = 50) (h3 : ix_len (s + 19) = 50) (h4 : ix_len (s + 21) = 20) : RowOk μ (s + 11) ∧ RowOk μ (s + 15) ∧ RowOk μ (s + 18) ∧ RowOk μ (s + 20) := by
  obtain ⟨-, -, ⟨n, n1, n2, -⟩, ⟨m, m1, m2, -⟩, -, ⟨ds, d1, -⟩, dl, d3, -⟩ := h
  exact ⟨rowOk d1.1.1 d1.1.2.1 h1 (by decide), rowOk d3.1.1 d3.1.2.1 h2 (by decide), rowOk n2 n1 h3 (by decide), rowOk m2 m1 h4 (by decide)⟩
def o_X10_image : List (Nat × ix_Op) := [
  (0, ix_aload 0 1),
  (1, ix_getr 9 5 (fun _ => 24) 4),
  (4, ix_aload 0 5),
  (5, ix_getr 9 5 (fun _ => 1) 8),
  (8, oc_X6_copyFrom 11),
  (11, ix_aload 0 12),
  (12, ix_dup 13),
  (13, ix_geti 9 2 16),
  (16, ix_push (vi 1) 17),
  (17, ix_bin (fun x y => x + y) 18),
  (18, ix_puti 9 2 21),
  (21, ix_aload 0 22),
  (22, ix_geti 9 2 25),
  (25, ix_iret)]
set_option maxRecDepth 20000 in
theorem a_X10_image (l : Launch) : ix_AllS l cX10_image 1 RX10 60 (some .int) o_X10_image :=
  .cons (ix_s_aload_n dX10_image_0 rfl) <|
  .cons (ix_s_getr (j := 1) tu_X10 rfl (by decide) (by decide) tw_252 rfl ts_9_1_r dX10_image_1) <|
  .cons (ix_s_aload_n dX10_image_4 rfl) <|
  .cons (ix_s_getr (j := 0) tu_X10 rfl (by decide) (by decide) tw_251 rfl ts_9_0_r dX10_image_5) <|
  .cons (oc_X6_copyFrom_s (ix_s_callv (t := 5) (k_X6_copyFrom l) (by decide) (by decide) tw_834 tw_2 tw_831 tw_832 tw_833 ⟨by decide, by decide, by decide +kernel⟩ (by decide) rfl rfl (fun _ => ⟨_, _, rfl, rfl⟩) dX10_image_8)) <|
  .cons (ix_s_aload_n dX10_image_11 rfl) <|
  .cons (ix_s_dup dX10_image_12) <|
  .cons (ix_s_geti (j := 2) tu_X10 rfl (by decide) (by decide) tw_253 rfl ts_9_2_i dX10_image_13) <|
  .cons (ix_s_iconst dX10_image_16 (by decide +kernel)) <|
  .cons (ix_s_iadd dX10_image_17) <|
  .cons (ix_s_puti (j := 2) tu_X10 tyX10_ok nmX10 rfl (by decide) (by decide) tw_253 rfl rfl (by decide +kernel) ts_9_2_p dX10_image_18) <|
  .cons (ix_s_aload_n dX10_image_21 rfl) <|
  .cons (ix_s_geti (j := 2) tu_X10 rfl (by decide) (by decide) tw_253 rfl ts_9_2_i dX10_image_22) <|
  .cons (ix_s_iret dX10_image_25 rfl) <| .nil
theorem e_X10_image_0 (Q : ix_R → Prop) (ls : ix_L) (st : List ix_V) (μ : ix_M) : ix_Ev o_X10_image Q (0, ls, st, μ) = ix_aload 0 1 (ix_Ev o_X10_image Q) Q ls st μ := ix_Ev.eq (a_X10_image launch0) rfl ls st μ
theorem e_X10_image_1 (Q : ix_R → Prop) (ls : ix_L) (st : List ix_V) (μ : ix_M) : ix_Ev o_X10_image Q (1, ls, st, μ) = ix_getr 9 5 (fun _ => 24) 4 (ix_Ev o_X10_image Q) Q ls st μ := ix_Ev.eq (a_X10_image launch0) rfl ls st μ
theorem e_X10_image_4 (Q : ix_R → Prop) (ls : ix_L) (st : List ix_V) (μ : ix_M) : ix_Ev o_X10_image Q (4, ls, st, μ) = ix_aload 0 5 (ix_Ev o_X10_image Q) Q ls st μ := ix_Ev.eq (a_X10_image launch0) rfl ls st μ
theorem e_X10_image_5 (Q : ix_R → Prop) (ls : ix_L) (st : List ix_V) (μ : ix_M) : ix_Ev o_X10_image Q (5, ls, st, μ) = ix_getr 9 5 (fun _ => 1) 8 (ix_Ev o_X10_image Q) Q ls st μ := ix_Ev.eq (a_X10_image launch0) rfl ls st μ
theorem e_X10_image_8 (Q : ix_R → Prop) (ls : ix_L) (st : List ix_V) (μ : ix_M) : ix_Ev o_X10_image Q (8, ls, st, μ) = oc_X6_copyFrom 11 (ix_Ev o_X10_image Q) Q ls st μ := ix_Ev.eq (a_X10_image launch0) rfl ls st μ
theorem e_X10_image_11 (Q : ix_R → Prop) (ls : ix_L) (st : List ix_V) (μ : ix_M) : ix_Ev o_X10_image Q (11, ls, st, μ) = ix_aload 0 12 (ix_Ev o_X10_image Q) Q ls st μ := ix_Ev.eq (a_X10_image launch0) rfl ls st μ
theorem e_X10_image_12 (Q : ix_R → Prop) (ls : ix_L) (st : List ix_V) (μ : ix_M) : ix_Ev o_X10_image Q (12, ls, st, μ) = ix_dup 13 (ix_Ev o_X10_image Q) Q ls st μ := ix_Ev.eq (a_X10_image launch0) rfl ls st μ
theorem e_X10_image_13 (Q : ix_R → Prop) (ls : ix_L) (st : List ix_V) (μ : ix_M) : ix_Ev o_X10_image Q (13, ls, st, μ) = ix_geti 9 2 16 (ix_Ev o_X10_image Q) Q ls st μ := ix_Ev.eq (a_X10_image launch0) rfl ls st μ
theorem e_X10_image_16 (Q : ix_R → Prop) (ls : ix_L) (st : List ix_V) (μ : ix_M) : ix_Ev o_X10_image Q (16, ls, st, μ) = ix_push (vi 1) 17 (ix_Ev o_X10_image Q) Q ls st μ := ix_Ev.eq (a_X10_image launch0) rfl ls st μ
theorem e_X10_image_17 (Q : ix_R → Prop) (ls : ix_L) (st : List ix_V) (μ : ix_M) : ix_Ev o_X10_image Q (17, ls, st, μ) = ix_bin (fun x y => x + y) 18 (ix_Ev o_X10_image Q) Q ls st μ := ix_Ev.eq (a_X10_image launch0) rfl ls st μ
theorem e_X10_image_18 (Q : ix_R → Prop) (ls : ix_L) (st : List ix_V) (μ : ix_M) : ix_Ev o_X10_image Q (18, ls, st, μ) = ix_puti 9 2 21 (ix_Ev o_X10_image Q) Q ls st μ := ix_Ev.eq (a_X10_image launch0) rfl ls st μ
theorem e_X10_image_21 (Q : ix_R → Prop) (ls : ix_L) (st : List ix_V) (μ : ix_M) : ix_Ev o_X10_image Q (21, ls, st, μ) = ix_aload 0 22 (ix_Ev o_X10_image Q) Q ls st μ := ix_Ev.eq (a_X10_image launch0) rfl ls st μ
theorem e_X10_image_22 (Q : ix_R → Prop) (ls : ix_L) (st : List ix_V) (μ : ix_M) : ix_Ev o_X10_image Q (22, ls, st, μ) = ix_geti 9 2 25 (ix_Ev o_X10_image Q) Q ls st μ := ix_Ev.eq (a_X10_image launch0) rfl ls st μ
theorem e_X10_image_25 (Q : ix_R → Prop) (ls : ix_L) (st : List ix_V) (μ : ix_M) : ix_Ev o_X10_image Q (25, ls, st, μ) = ix_iret (ix_Ev o_X10_image Q) Q ls st μ := ix_Ev.eq (a_X10_image launch0) rfl ls st μ
def o_X11_image : List (Nat × ix_Op) := [
  (0, ix_aload 0 1),
  (1, ix_getr 10 20 (fun _ => 113) 4),
  (4, ix_aload 0 5),
  (5, ix_getr 10 20 (fun _ => 114) 8),
  (8, oc_X11_copy 11),
  (11, ix_aload 0 12),
  (12, ix_dup 13),
  (13, ix_geti 10 3 16),
  (16, ix_push (vi 1) 17),
  (17, ix_bin (fun x y => x + y) 18),
  (18, ix_puti 10 3 21),
  (21, ix_aload 0 22),
  (22, ix_geti 10 3 25),
  (25, ix_iret)]
set_option maxRecDepth 20000 in
theorem a_X11_image (l : Launch) : ix_AllS l cX11_image 1 RX11 60 (some .int) o_X11_image :=
  .cons (ix_s_aload_n dX11_image_0 rfl) <|
  .cons (ix_s_getr (j := 0) tu_X11 rfl (by decide) (by decide) tw_875 rfl ts_10_0_r dX11_image_1) <|
  .cons (ix_s_aload_n dX11_image_4 rfl) <|
  .cons (ix_s_getr (j := 1) tu_X11 rfl (by decide) (by decide) tw_876 rfl ts_10_1_r dX11_image_5) <|
  .cons (oc_X11_copy_s (ix_s_calls (k_X11_copy l) (by decide) (by decide) tw_1221 tw_12 tw_1219 tw_1220 ⟨by decide, by decide, by decide +kernel⟩ (fun _ => rfl) dX11_image_8)) <|
  .cons (ix_s_aload_n dX11_image_11 rfl) <|
  .cons (ix_s_dup dX11_image_12) <|
  .cons (ix_s_geti (j := 3) tu_X11 rfl (by decide) (by decide) tw_878 rfl ts_10_3_i dX11_image_13) <|
  .cons (ix_s_iconst dX11_image_16 (by decide +kernel)) <|
  .cons (ix_s_iadd dX11_image_17) <|
  .cons (ix_s_puti (j := 3) tu_X11 tyX11_ok nmX11 rfl (by decide) (by decide) tw_878 rfl rfl (by decide +kernel) ts_10_3_p dX11_image_18) <|
  .cons (ix_s_aload_n dX11_image_21 rfl) <|
  .cons (ix_s_geti (j := 3) tu_X11 rfl (by decide) (by decide) tw_878 rfl ts_10_3_i dX11_image_22) <|
  .cons (ix_s_iret dX11_image_25 rfl) <| .nil
theorem e_X11_image_0 (Q : ix_R → Prop) (ls : ix_L) (st : List ix_V) (μ : ix_M) : ix_Ev o_X11_image Q (0, ls, st, μ) = ix_aload 0 1 (ix_Ev o_X11_image Q) Q ls st μ := ix_Ev.eq (a_X11_image launch0) rfl ls st μ
theorem e_X11_image_1 (Q : ix_R → Prop) (ls : ix_L) (st : List ix_V) (μ : ix_M) : ix_Ev o_X11_image Q (1, ls, st, μ) = ix_getr 10 20 (fun _ => 113) 4 (ix_Ev o_X11_image Q) Q ls st μ := ix_Ev.eq (a_X11_image launch0) rfl ls st μ
theorem e_X11_image_4 (Q : ix_R → Prop) (ls : ix_L) (st : List ix_V) (μ : ix_M) : ix_Ev o_X11_image Q (4, ls, st, μ) = ix_aload 0 5 (ix_Ev o_X11_image Q) Q ls st μ := ix_Ev.eq (a_X11_image launch0) rfl ls st μ
theorem e_X11_image_5 (Q : ix_R → Prop) (ls : ix_L) (st : List ix_V) (μ : ix_M) : ix_Ev o_X11_image Q (5, ls, st, μ) = ix_getr 10 20 (fun _ => 114) 8 (ix_Ev o_X11_image Q) Q ls st μ := ix_Ev.eq (a_X11_image launch0) rfl ls st μ
theorem e_X11_image_8 (Q : ix_R → Prop) (ls : ix_L) (st : List ix_V) (μ : ix_M) : ix_Ev o_X11_image Q (8, ls, st, μ) = oc_X11_copy 11 (ix_Ev o_X11_image Q) Q ls st μ := ix_Ev.eq (a_X11_image launch0) rfl ls st μ
theorem e_X11_image_11 (Q : ix_R → Prop) (ls : ix_L) (st : List ix_V) (μ : ix_M) : ix_Ev o_X11_image Q (11, ls, st, μ) = ix_aload 0 12 (ix_Ev o_X11_image Q) Q ls st μ := ix_Ev.eq (a_X11_image launch0) rfl ls st μ
theorem e_X11_image_12 (Q : ix_R → Prop) (ls : ix_L) (st : List ix_V) (μ : ix_M) : ix_Ev o_X11_image Q (12, ls, st, μ) = ix_dup 13 (ix_Ev o_X11_image Q) Q ls st μ := ix_Ev.eq (a_X11_image launch0) rfl ls st μ
theorem e_X11_image_13 (Q : ix_R → Prop) (ls : ix_L) (st : List ix_V) (μ : ix_M) : ix_Ev o_X11_image Q (13, ls, st, μ) = ix_geti 10 3 16 (ix_Ev o_X11_image Q) Q ls st μ := ix_Ev.eq (a_X11_image launch0) rfl ls st μ
theorem e_X11_image_16 (Q : ix_R → Prop) (ls : ix_L) (st : List ix_V) (μ : ix_M) : ix_Ev o_X11_image Q (16, ls, st, μ) = ix_push (vi 1) 17 (ix_Ev o_X11_image Q) Q ls st μ := ix_Ev.eq (a_X11_image launch0) rfl ls st μ
theorem e_X11_image_17 (Q : ix_R → Prop) (ls : ix_L) (st : List ix_V) (μ : ix_M) : ix_Ev o_X11_image Q (17, ls, st, μ) = ix_bin (fun x y => x + y) 18 (ix_Ev o_X11_image Q) Q ls st μ := ix_Ev.eq (a_X11_image launch0) rfl ls st μ
theorem e_X11_image_18 (Q : ix_R → Prop) (ls : ix_L) (st : List ix_V) (μ : ix_M) : ix_Ev o_X11_image Q (18, ls, st, μ) = ix_puti 10 3 21 (ix_Ev o_X11_image Q) Q ls st μ := ix_Ev.eq (a_X11_image launch0) rfl ls st μ
theorem e_X11_image_21 (Q : ix_R → Prop) (ls : ix_L) (st : List ix_V) (μ : ix_M) : ix_Ev o_X11_image Q (21, ls, st, μ) = ix_aload 0 22 (ix_Ev o_X11_image Q) Q ls st μ := ix_Ev.eq (a_X11_image launch0) rfl ls st μ
theorem e_X11_image_22 (Q : ix_R → Prop) (ls : ix_L) (st : List ix_V) (μ : ix_M) : ix_Ev o_X11_image Q (22, ls, st, μ) = ix_geti 10 3 25 (ix_Ev o_X11_image Q) Q ls st μ := ix_Ev.eq (a_X11_image launch0) rfl ls st μ
theorem e_X11_image_25 (Q : ix_R → Prop) (ls : ix_L) (st : List ix_V) (μ : ix_M) : ix_Ev o_X11_image Q (25, ls, st, μ) = ix_iret (ix_Ev o_X11_image Q) Q ls st μ := ix_Ev.eq (a_X11_image launch0) rfl ls st μ
theorem pr_image  (μ : ix_M) (I : Inv μ) (Q : ix_R → Prop) (hQ : ∀ vv μ', ix_Ev o_X11_image (Pst vv) (0, [some (vr 10 112)], [], μ') → Q (some (vi vv), μ')) : ix_Ev o_X10_image Q (0, [some (vr 9 0)], [], μ) := by
  have rk := I.1.rk rfl rfl rfl rfl
  simp (decide := true) only [e_X10_image_0, e_X10_image_1, e_X10_image_4, e_X10_image_5, e_X10_image_8, e_X10_image_11, e_X10_image_12, e_X10_image_13, e_X10_image_16, e_X10_image_17, e_X10_image_18, e_X10_image_21, e_X10_image_22, e_X10_image_25, vi, vl, vr, oc_X6_copyFrom, T_X6_copyFrom, ix_push, ix_iload, ix_lload, ix_aload, ix_istore, ix_astore, ix_iinc, ix_bin, ix_div, ix_un, ix_i2l, ix_l2i, ix_lbin, ix_lsh, ix_lcmp, ix_dup, ix_dup2, ix_pop, ix_if, ix_cmp, ix_goto, ix_switch, ix_sw, ix_iret, ix_zret, ix_vret, ix_aret, ix_geti, ix_getr, ix_puti, ix_putz, ix_puts, ix_gets, ix_iald, ix_iast, ix_alen, ix_aald, ix_gval, ix_gcod, ix_bald, ix_blen, ix_sald, ix_nret, ix_math2, ix_math1, ix_acopy, Nat.add_assoc, Int32.reduceLT, Int32.reduceLE, Int32.reduceToNatClampNeg, Int32.reduceSub, Int32.reduceAdd, Nat.reduceAdd, Nat.reduceLeDiff, true_or, or_true, or_false, false_or, not_false_eq_true, not_true_eq_false, false_implies, true_implies, implies_true, and_self, mB_0, mB_01, Classical.not_not, Nat.zero_le, List.getElem?_cons_zero, List.getElem?_cons_succ, List.set_cons_zero, List.set_cons_succ, ix_nl, ix_cs, true_and, and_true, Option.toList_some, Option.toList_none, List.cons_append, List.nil_append, ix_up_ne, ix_up_k, ve_1, ve_2, ve_3, ve_4, ve_5]
  refine ⟨rk, fun μ1 F1 E1 => hQ _ _ ?_⟩
  have sl : ∀ a, (a < 24 ∨ 46 < a) → μ1 a = μ a := fun a ha => F1 a (by simp only [sL, List.mem_map, List.mem_range]; omega)
  simp (decide := true) only [e_X11_image_0, e_X11_image_1, e_X11_image_4, e_X11_image_5, e_X11_image_8, e_X11_image_11, e_X11_image_12, e_X11_image_13, e_X11_image_16, e_X11_image_17, e_X11_image_18, e_X11_image_21, e_X11_image_22, e_X11_image_25, vi, vl, vr, oc_X11_copy, T_X11_copy, ix_push, ix_iload, ix_lload, ix_aload, ix_istore, ix_astore, ix_iinc, ix_bin, ix_div, ix_un, ix_i2l, ix_l2i, ix_lbin, ix_lsh, ix_lcmp, ix_dup, ix_dup2, ix_pop, ix_if, ix_cmp, ix_goto, ix_switch, ix_sw, ix_iret, ix_zret, ix_vret, ix_aret, ix_geti, ix_getr, ix_puti, ix_putz, ix_puts, ix_gets, ix_iald, ix_iast, ix_alen, ix_aald, ix_gval, ix_gcod, ix_bald, ix_blen, ix_sald, ix_nret, ix_math2, ix_math1, ix_acopy, ml_113, ml_114, ml_115, ml_116, ml_118, ml_119, ml_120, ml_121, ml_122, ml_123, ml_124, ml_125, ml_126, mv_0, mv_1, mv_2, mv_3, mv_4, mv_5, mB_or, Nat.add_assoc, Int32.reduceLT, Int32.reduceLE, Int32.reduceToNatClampNeg, Int32.reduceSub, Int32.reduceAdd, Nat.reduceAdd, Nat.reduceLeDiff, true_or, or_true, or_false, false_or, not_false_eq_true, not_true_eq_false, false_implies, true_implies, implies_true, and_self, mB_0, mB_01, Classical.not_not, Nat.zero_le, List.getElem?_cons_zero, List.getElem?_cons_succ, List.set_cons_zero, List.set_cons_succ, ix_nl, ix_cs, true_and, and_true, Option.toList_some, Option.toList_none, List.cons_append, List.nil_append, ix_up_ne, ix_up_k, ve_1, ve_2, ve_3, ve_4, ve_5]
  intro μ3 F3 R3
  have F3' : ∀ a, a ≠ 114 → μ3 a = ix_up μ1 0 2 (μ1 0 2 + 1) a := fun a ha => F3 a (by simp [ha])
  have e0 : μ1 0 = μ 0 := sl 0 (by omega)
  have e112 : μ3 112 = μ 112 := by rw [F3' 112 (by decide), ix_up_ne (by decide), sl 112 (by omega)]
  obtain ⟨i1, i2, i3, i4, i5, ⟨tr, t1, t2, t3⟩, i7, i8, i9⟩ := I
  have e3 : μ3 112 3 = μ1 0 2 := by rw [e112, e0]; exact i3.symm
  have ke : ∀ a, a ≠ 0 → (a < 24 ∨ 46 < a) → a ≠ 112 → a ≠ 114 → ix_up μ3 112 3 (μ3 112 3 + 1) a = μ a := fun a h0 h1 h2 h3 => by rw [ix_up_ne h2, F3' a h3, ix_up_ne h0, sl a h1]
  have k112 : ∀ j, j ≠ 3 → ix_up μ3 112 3 (μ3 112 3 + 1) 112 j = μ 112 j := fun j hj => by rw [ix_up_ap, if_neg (fun z => hj z.2), e112]
  refine pst (by rw [e3]) ⟨?_, fun _ => ?_, ?_, fun k hk => ?_, i5.fx (fun a h1 h2 => ke a (by omega) (by omega) (by omega) (by omega)) (ke 123 (by decide) (by decide) (by decide) (by decide)) (ke 124 (by decide) (by decide) (by decide) (by decide)) (ke 125 (by decide) (by decide) (by decide) (by decide)), ⟨tr, ⟨?_, t1.2.1, fun j hj => ?_⟩, ?_, fun j hj => ?_⟩, ?_, ?_, ?_⟩
  · rw [ke 113 (by decide) (by decide) (by decide) (by decide)]
    exact i1.fx (fun a h1 h2 _ _ => ke a (by omega) (by omega) (by omega) (by omega)) (fun j _ => rfl)
  · refine SR.copy i1 (s' := 24) ?_ (fun j hj => ?_)
    · have kk : ∀ a, 24 ≤ a → a ≤ 46 → ix_up μ3 112 3 (μ3 112 3 + 1) a = μ1 a := fun a h1 h2 => by rw [ix_up_ne (by omega), F3' a (by omega), ix_up_ne (by omega)]
      obtain ⟨q1, ⟨q2, q3⟩, ⟨q4, q5⟩, ⟨q6, q7⟩, ⟨q8, q9⟩, q10, q11⟩ := E1
      refine ⟨by rw [← q1]; exact wv_fx (fun r hr => kk _ (by omega) (by omega)), ⟨?_, fun j hj => ?_⟩, ⟨?_, fun j hj => ?_⟩, ⟨?_, fun j hj => ?_⟩, ⟨?_, fun j hj => ?_⟩, fun j hj => ?_, ?_⟩
      all_goals rw [kk _ (by omega) (by omega)]
      all_goals first | assumption | (first | exact q3 j hj | exact q5 j hj | exact q7 j hj | exact q9 j hj | exact q10 j hj)
    · rw [ix_up_ne (by decide), R3 j hj, sl 113 (by omega)]
  · rw [ix_up_k, ix_up_ne (by decide), F3' 0 (by decide), ix_up_k, e3]
  · rw [ke 111 (by decide) (by decide) (by decide) (by decide), ke 116 (by decide) (by decide) (by decide) (by decide)]
    exact i4 k hk
  · rw [ke 94 (by decide) (by decide) (by decide) (by decide)]
    exact t1.1
  · rw [ke 95 (by decide) (by decide) (by decide) (by decide)]
    exact t1.2.2 j hj
  · rw [k112 18 (by decide)]
    exact t2
  · rw [ke 122 (by decide) (by decide) (by decide) (by decide)]
    exact t3 j hj
  · rw [k112 5 (by decide)]
    exact i7
  · rw [ke 97 (by decide) (by decide) (by decide) (by decide)]
    exact i8
  · rw [ke 121 (by decide) (by decide) (by decide) (by decide)]
    exact i9
def o_X10_restore : List (Nat × ix_Op) := [
  (0, ix_aload 0 1),
  (1, ix_geti 9 2 4),
  (4, ix_if (fun x => x = 0) 7 13),
  (7, ix_aload 0 8),
  (8, ix_push (vi 2) 9),
  (9, oc_X10_error 12),
  (12, ix_iret),
  (13, ix_aload 0 14),
  (14, ix_getr 9 5 (fun _ => 1) 17),
  (17, ix_aload 0 18),
  (18, ix_getr 9 5 (fun _ => 24) 21),
  (21, oc_X6_copyFrom 24),
  (24, ix_aload 0 25),
  (25, ix_getr 9 5 (fun _ => 1) 28),
  (28, ix_getr 5 8 (fun k => k + 1) 31),
  (31, ix_geti 8 8 34),
  (34, ix_iret)]
set_option maxRecDepth 20000 in
theorem a_X10_restore (l : Launch) : ix_AllS l cX10_restore 1 RX10 60 (some .int) o_X10_restore :=
  .cons (ix_s_aload_n dX10_restore_0 rfl) <|
  .cons (ix_s_geti (j := 2) tu_X10 rfl (by decide) (by decide) tw_253 rfl ts_9_2_i dX10_restore_1) <|
  .cons (ix_s_if_ne dX10_restore_4 (by decide)) <|
  .cons (ix_s_aload_n dX10_restore_7 rfl) <|
  .cons (ix_s_iconst dX10_restore_8 (by decide +kernel)) <|
  .cons (oc_X10_error_s (ix_s_callv (t := 9) (k_X10_error l) (by decide) (by decide) tw_295 tw_1 tw_292 tw_294 tp_0 ⟨by decide, by decide, by decide +kernel⟩ (by decide) rfl rfl (fun _ => ⟨_, _, rfl, rfl⟩) dX10_restore_9)) <|
  .cons (ix_s_iret dX10_restore_12 rfl) <|
  .cons (ix_s_aload_n dX10_restore_13 rfl) <|
  .cons (ix_s_getr (j := 0) tu_X10 rfl (by decide) (by decide) tw_251 rfl ts_9_0_r dX10_restore_14) <|
  .cons (ix_s_aload_n dX10_restore_17 rfl) <|
  .cons (ix_s_getr (j := 1) tu_X10 rfl (by decide) (by decide) tw_252 rfl ts_9_1_r dX10_restore_18) <|
  .cons (oc_X6_copyFrom_s (ix_s_callv (t := 5) (k_X6_copyFrom l) (by decide) (by decide) tw_834 tw_2 tw_831 tw_832 tw_833 ⟨by decide, by decide, by decide +kernel⟩ (by decide) rfl rfl (fun _ => ⟨_, _, rfl, rfl⟩) dX10_restore_21)) <|
  .cons (ix_s_aload_n dX10_restore_24 rfl) <|
  .cons (ix_s_getr (j := 0) tu_X10 rfl (by decide) (by decide) tw_251 rfl ts_9_0_r dX10_restore_25) <|
  .cons (ix_s_getr (j := 0) tu_X6 rfl (by decide) (by decide) tw_138 rfl ts_5_0_r dX10_restore_28) <|
  .cons (ix_s_geti (j := 8) tu_X9 rfl (by decide) (by decide) tw_59 rfl ts_8_8_i dX10_restore_31) <|
  .cons (ix_s_iret dX10_restore_34 rfl) <| .nil
theorem e_X10_restore_0 (Q : ix_R → Prop) (ls : ix_L) (st : List ix_V) (μ : ix_M) : ix_Ev o_X10_restore Q (0, ls, st, μ) = ix_aload 0 1 (ix_Ev o_X10_restore Q) Q ls st μ := ix_Ev.eq (a_X10_restore launch0) rfl ls st μ
theorem e_X10_restore_1 (Q : ix_R → Prop) (ls : ix_L) (st : List ix_V) (μ : ix_M) : ix_Ev o_X10_restore Q (1, ls, st, μ) = ix_geti 9 2 4 (ix_Ev o_X10_restore Q) Q ls st μ := ix_Ev.eq (a_X10_restore launch0) rfl ls st μ
theorem e_X10_restore_4 (Q : ix_R → Prop) (ls : ix_L) (st : List ix_V) (μ : ix_M) : ix_Ev o_X10_restore Q (4, ls, st, μ) = ix_if (fun x => x = 0) 7 13 (ix_Ev o_X10_restore Q) Q ls st μ := ix_Ev.eq (a_X10_restore launch0) rfl ls st μ
theorem e_X10_restore_7 (Q : ix_R → Prop) (ls : ix_L) (st : List ix_V) (μ : ix_M) : ix_Ev o_X10_restore Q (7, ls, st, μ) = ix_aload 0 8 (ix_Ev o_X10_restore Q) Q ls st μ := ix_Ev.eq (a_X10_restore launch0) rfl ls st μ
theorem e_X10_restore_8 (Q : ix_R → Prop) (ls : ix_L) (st : List ix_V) (μ : ix_M) : ix_Ev o_X10_restore Q (8, ls, st, μ) = ix_push (vi 2) 9 (ix_Ev o_X10_restore Q) Q ls st μ := ix_Ev.eq (a_X10_restore launch0) rfl ls st μ
theorem e_X10_restore_9 (Q : ix_R → Prop) (ls : ix_L) (st : List ix_V) (μ : ix_M) : ix_Ev o_X10_restore Q (9, ls, st, μ) = oc_X10_error 12 (ix_Ev o_X10_restore Q) Q ls st μ := ix_Ev.eq (a_X10_restore launch0) rfl ls st μ
theorem e_X10_restore_12 (Q : ix_R → Prop) (ls : ix_L) (st : List ix_V) (μ : ix_M) : ix_Ev o_X10_restore Q (12, ls, st, μ) = ix_iret (ix_Ev o_X10_restore Q) Q ls st μ := ix_Ev.eq (a_X10_restore launch0) rfl ls st μ
theorem e_X10_restore_13 (Q : ix_R → Prop) (ls : ix_L) (st : List ix_V) (μ : ix_M) : ix_Ev o_X10_restore Q (13, ls, st, μ) = ix_aload 0 14 (ix_Ev o_X10_restore Q) Q ls st μ := ix_Ev.eq (a_X10_restore launch0) rfl ls st μ
theorem e_X10_restore_14 (Q : ix_R → Prop) (ls : ix_L) (st : List ix_V) (μ : ix_M) : ix_Ev o_X10_restore Q (14, ls, st, μ) = ix_getr 9 5 (fun _ => 1) 17 (ix_Ev o_X10_restore Q) Q ls st μ := ix_Ev.eq (a_X10_restore launch0) rfl ls st μ
theorem e_X10_restore_17 (Q : ix_R → Prop) (ls : ix_L) (st : List ix_V) (μ : ix_M) : ix_Ev o_X10_restore Q (17, ls, st, μ) = ix_aload 0 18 (ix_Ev o_X10_restore Q) Q ls st μ := ix_Ev.eq (a_X10_restore launch0) rfl ls st μ
theorem e_X10_restore_18 (Q : ix_R → Prop) (ls : ix_L) (st : List ix_V) (μ : ix_M) : ix_Ev o_X10_restore Q (18, ls, st, μ) = ix_getr 9 5 (fun _ => 24) 21 (ix_Ev o_X10_restore Q) Q ls st μ := ix_Ev.eq (a_X10_restore launch0) rfl ls st μ
theorem e_X10_restore_21 (Q : ix_R → Prop) (ls : ix_L) (st : List ix_V) (μ : ix_M) : ix_Ev o_X10_restore Q (21, ls, st, μ) = oc_X6_copyFrom 24 (ix_Ev o_X10_restore Q) Q ls st μ := ix_Ev.eq (a_X10_restore launch0) rfl ls st μ
theorem e_X10_restore_24 (Q : ix_R → Prop) (ls : ix_L) (st : List ix_V) (μ : ix_M) : ix_Ev o_X10_restore Q (24, ls, st, μ) = ix_aload 0 25 (ix_Ev o_X10_restore Q) Q ls st μ := ix_Ev.eq (a_X10_restore launch0) rfl ls st μ
theorem e_X10_restore_25 (Q : ix_R → Prop) (ls : ix_L) (st : List ix_V) (μ : ix_M) : ix_Ev o_X10_restore Q (25, ls, st, μ) = ix_getr 9 5 (fun _ => 1) 28 (ix_Ev o_X10_restore Q) Q ls st μ := ix_Ev.eq (a_X10_restore launch0) rfl ls st μ
theorem e_X10_restore_28 (Q : ix_R → Prop) (ls : ix_L) (st : List ix_V) (μ : ix_M) : ix_Ev o_X10_restore Q (28, ls, st, μ) = ix_getr 5 8 (fun k => k + 1) 31 (ix_Ev o_X10_restore Q) Q ls st μ := ix_Ev.eq (a_X10_restore launch0) rfl ls st μ
theorem e_X10_restore_31 (Q : ix_R → Prop) (ls : ix_L) (st : List ix_V) (μ : ix_M) : ix_Ev o_X10_restore Q (31, ls, st, μ) = ix_geti 8 8 34 (ix_Ev o_X10_restore Q) Q ls st μ := ix_Ev.eq (a_X10_restore launch0) rfl ls st μ
theorem e_X10_restore_34 (Q : ix_R → Prop) (ls : ix_L) (st : List ix_V) (μ : ix_M) : ix_Ev o_X10_restore Q (34, ls, st, μ) = ix_iret (ix_Ev o_X10_restore Q) Q ls st μ := ix_Ev.eq (a_X10_restore launch0) rfl ls st μ
def o_X11_restore : List (Nat × ix_Op) := [
  (0, ix_aload 0 1),
  (1, ix_geti 10 3 4),
  (4, ix_if (fun x => x = 0) 7 15),
  (7, ix_aload 0 8),
  (8, ix_push (vi (-1000000002)) 11),
  (11, oc_X11_finding 14),
  (14, ix_iret),
  (15, ix_aload 0 16),
  (16, ix_getr 10 20 (fun _ => 114) 19),
  (19, ix_aload 0 20),
  (20, ix_getr 10 20 (fun _ => 113) 23),
  (23, oc_X11_copy 26),
  (26, ix_aload 0 27),
  (27, ix_getr 10 20 (fun _ => 113) 30),
  (30, ix_push (vi 0) 31),
  (31, ix_iald 32),
  (32, ix_iret)]
set_option maxRecDepth 20000 in
theorem a_X11_restore (l : Launch) : ix_AllS l cX11_restore 1 RX11 60 (some .int) o_X11_restore :=
  .cons (ix_s_aload_n dX11_restore_0 rfl) <|
  .cons (ix_s_geti (j := 3) tu_X11 rfl (by decide) (by decide) tw_878 rfl ts_10_3_i dX11_restore_1) <|
  .cons (ix_s_if_ne dX11_restore_4 (by decide)) <|
  .cons (ix_s_aload_n dX11_restore_7 rfl) <|
  .cons (ix_s_ldcw tw_1238 dX11_restore_8) <|
  .cons (oc_X11_finding_s (ix_s_callv (t := 10) (k_X11_finding l) (by decide) (by decide) tw_965 tw_12 tw_962 tw_964 tp_18 ⟨by decide, by decide, by decide +kernel⟩ (by decide) rfl rfl (fun _ => ⟨_, _, rfl, rfl⟩) dX11_restore_11)) <|
  .cons (ix_s_iret dX11_restore_14 rfl) <|
  .cons (ix_s_aload_n dX11_restore_15 rfl) <|
  .cons (ix_s_getr (j := 1) tu_X11 rfl (by decide) (by decide) tw_876 rfl ts_10_1_r dX11_restore_16) <|
  .cons (ix_s_aload_n dX11_restore_19 rfl) <|
  .cons (ix_s_getr (j := 0) tu_X11 rfl (by decide) (by decide) tw_875 rfl ts_10_0_r dX11_restore_20) <|
  .cons (oc_X11_copy_s (ix_s_calls (k_X11_copy l) (by decide) (by decide) tw_1221 tw_12 tw_1219 tw_1220 ⟨by decide, by decide, by decide +kernel⟩ (fun _ => rfl) dX11_restore_23)) <|
  .cons (ix_s_aload_n dX11_restore_26 rfl) <|
  .cons (ix_s_getr (j := 0) tu_X11 rfl (by decide) (by decide) tw_875 rfl ts_10_0_r dX11_restore_27) <|
  .cons (ix_s_iconst dX11_restore_30 (by decide +kernel)) <|
  .cons (ix_s_iald dX11_restore_31) <|
  .cons (ix_s_iret dX11_restore_32 rfl) <| .nil
theorem e_X11_restore_0 (Q : ix_R → Prop) (ls : ix_L) (st : List ix_V) (μ : ix_M) : ix_Ev o_X11_restore Q (0, ls, st, μ) = ix_aload 0 1 (ix_Ev o_X11_restore Q) Q ls st μ := ix_Ev.eq (a_X11_restore launch0) rfl ls st μ
theorem e_X11_restore_1 (Q : ix_R → Prop) (ls : ix_L) (st : List ix_V) (μ : ix_M) : ix_Ev o_X11_restore Q (1, ls, st, μ) = ix_geti 10 3 4 (ix_Ev o_X11_restore Q) Q ls st μ := ix_Ev.eq (a_X11_restore launch0) rfl ls st μ
theorem e_X11_restore_4 (Q : ix_R → Prop) (ls : ix_L) (st : List ix_V) (μ : ix_M) : ix_Ev o_X11_restore Q (4, ls, st, μ) = ix_if (fun x => x = 0) 7 15 (ix_Ev o_X11_restore Q) Q ls st μ := ix_Ev.eq (a_X11_restore launch0) rfl ls st μ
theorem e_X11_restore_7 (Q : ix_R → Prop) (ls : ix_L) (st : List ix_V) (μ : ix_M) : ix_Ev o_X11_restore Q (7, ls, st, μ) = ix_aload 0 8 (ix_Ev o_X11_restore Q) Q ls st μ := ix_Ev.eq (a_X11_restore launch0) rfl ls st μ
theorem e_X11_restore_8 (Q : ix_R → Prop) (ls : ix_L) (st : List ix_V) (μ : ix_M) : ix_Ev o_X11_restore Q (8, ls, st, μ) = ix_push (vi (-1000000002)) 11 (ix_Ev o_X11_restore Q) Q ls st μ := ix_Ev.eq (a_X11_restore launch0) rfl ls st μ
theorem e_X11_restore_11 (Q : ix_R → Prop) (ls : ix_L) (st : List ix_V) (μ : ix_M) : ix_Ev o_X11_restore Q (11, ls, st, μ) = oc_X11_finding 14 (ix_Ev o_X11_restore Q) Q ls st μ := ix_Ev.eq (a_X11_restore launch0) rfl ls st μ
theorem e_X11_restore_14 (Q : ix_R → Prop) (ls : ix_L) (st : List ix_V) (μ : ix_M) : ix_Ev o_X11_restore Q (14, ls, st, μ) = ix_iret (ix_Ev o_X11_restore Q) Q ls st μ := ix_Ev.eq (a_X11_restore launch0) rfl ls st μ
theorem e_X11_restore_15 (Q : ix_R → Prop) (ls : ix_L) (st : List ix_V) (μ : ix_M) : ix_Ev o_X11_restore Q (15, ls, st, μ) = ix_aload 0 16 (ix_Ev o_X11_restore Q) Q ls st μ := ix_Ev.eq (a_X11_restore launch0) rfl ls st μ
theorem e_X11_restore_16 (Q : ix_R → Prop) (ls : ix_L) (st : List ix_V) (μ : ix_M) : ix_Ev o_X11_restore Q (16, ls, st, μ) = ix_getr 10 20 (fun _ => 114) 19 (ix_Ev o_X11_restore Q) Q ls st μ := ix_Ev.eq (a_X11_restore launch0) rfl ls st μ
theorem e_X11_restore_19 (Q : ix_R → Prop) (ls : ix_L) (st : List ix_V) (μ : ix_M) : ix_Ev o_X11_restore Q (19, ls, st, μ) = ix_aload 0 20 (ix_Ev o_X11_restore Q) Q ls st μ := ix_Ev.eq (a_X11_restore launch0) rfl ls st μ
theorem e_X11_restore_20 (Q : ix_R → Prop) (ls : ix_L) (st : List ix_V) (μ : ix_M) : ix_Ev o_X11_restore Q (20, ls, st, μ) = ix_getr 10 20 (fun _ => 113) 23 (ix_Ev o_X11_restore Q) Q ls st μ := ix_Ev.eq (a_X11_restore launch0) rfl ls st μ
theorem e_X11_restore_23 (Q : ix_R → Prop) (ls : ix_L) (st : List ix_V) (μ : ix_M) : ix_Ev o_X11_restore Q (23, ls, st, μ) = oc_X11_copy 26 (ix_Ev o_X11_restore Q) Q ls st μ := ix_Ev.eq (a_X11_restore launch0) rfl ls st μ
theorem e_X11_restore_26 (Q : ix_R → Prop) (ls : ix_L) (st : List ix_V) (μ : ix_M) : ix_Ev o_X11_restore Q (26, ls, st, μ) = ix_aload 0 27 (ix_Ev o_X11_restore Q) Q ls st μ := ix_Ev.eq (a_X11_restore launch0) rfl ls st μ
theorem e_X11_restore_27 (Q : ix_R → Prop) (ls : ix_L) (st : List ix_V) (μ : ix_M) : ix_Ev o_X11_restore Q (27, ls, st, μ) = ix_getr 10 20 (fun _ => 113) 30 (ix_Ev o_X11_restore Q) Q ls st μ := ix_Ev.eq (a_X11_restore launch0) rfl ls st μ
theorem e_X11_restore_30 (Q : ix_R → Prop) (ls : ix_L) (st : List ix_V) (μ : ix_M) : ix_Ev o_X11_restore Q (30, ls, st, μ) = ix_push (vi 0) 31 (ix_Ev o_X11_restore Q) Q ls st μ := ix_Ev.eq (a_X11_restore launch0) rfl ls st μ
theorem e_X11_restore_31 (Q : ix_R → Prop) (ls : ix_L) (st : List ix_V) (μ : ix_M) : ix_Ev o_X11_restore Q (31, ls, st, μ) = ix_iald 32 (ix_Ev o_X11_restore Q) Q ls st μ := ix_Ev.eq (a_X11_restore launch0) rfl ls st μ
theorem e_X11_restore_32 (Q : ix_R → Prop) (ls : ix_L) (st : List ix_V) (μ : ix_M) : ix_Ev o_X11_restore Q (32, ls, st, μ) = ix_iret (ix_Ev o_X11_restore Q) Q ls st μ := ix_Ev.eq (a_X11_restore launch0) rfl ls st μ
theorem pr_restore  (μ : ix_M) (I : Inv μ) (Q : ix_R → Prop) (hQ : ∀ vv μ', ix_Ev o_X11_restore (Pst vv) (0, [some (vr 10 112)], [], μ') → Q (some (vi vv), μ')) : ix_Ev o_X10_restore Q (0, [some (vr 9 0)], [], μ) := by
  by_cases h : μ 0 2 = 0
  · have h2 : μ 112 3 = 0 := I.2.2.1.symm.trans h
    simp (decide := true) only [e_X10_restore_0, e_X10_restore_1, e_X10_restore_4, e_X10_restore_7, e_X10_restore_8, e_X10_restore_9, e_X10_restore_12, e_X10_restore_13, e_X10_restore_14, e_X10_restore_17, e_X10_restore_18, e_X10_restore_21, e_X10_restore_24, e_X10_restore_25, e_X10_restore_28, e_X10_restore_31, e_X10_restore_34, vi, vl, vr, oc_X10_error, T_X10_error, oc_X6_copyFrom, T_X6_copyFrom, ix_push, ix_iload, ix_lload, ix_aload, ix_istore, ix_astore, ix_iinc, ix_bin, ix_div, ix_un, ix_i2l, ix_l2i, ix_lbin, ix_lsh, ix_lcmp, ix_dup, ix_dup2, ix_pop, ix_if, ix_cmp, ix_goto, ix_switch, ix_sw, ix_iret, ix_zret, ix_vret, ix_aret, ix_geti, ix_getr, ix_puti, ix_putz, ix_puts, ix_gets, ix_iald, ix_iast, ix_alen, ix_aald, ix_gval, ix_gcod, ix_bald, ix_blen, ix_sald, ix_nret, ix_math2, ix_math1, ix_acopy, Nat.add_assoc, Int32.reduceLT, Int32.reduceLE, Int32.reduceToNatClampNeg, Int32.reduceSub, Int32.reduceAdd, Nat.reduceAdd, Nat.reduceLeDiff, true_or, or_true, or_false, false_or, not_false_eq_true, not_true_eq_false, false_implies, true_implies, implies_true, and_self, mB_0, mB_01, Classical.not_not, Nat.zero_le, List.getElem?_cons_zero, List.getElem?_cons_succ, List.set_cons_zero, List.set_cons_succ, ix_nl, ix_cs, true_and, and_true, Option.toList_some, Option.toList_none, List.cons_append, List.nil_append, h, h2, ix_up_ne, ix_up_k, ve_1, ve_2, ve_3, ve_4, ve_5]
    refine hQ _ _ ?_
    simp (decide := true) only [e_X11_restore_0, e_X11_restore_1, e_X11_restore_4, e_X11_restore_7, e_X11_restore_8, e_X11_restore_11, e_X11_restore_14, e_X11_restore_15, e_X11_restore_16, e_X11_restore_19, e_X11_restore_20, e_X11_restore_23, e_X11_restore_26, e_X11_restore_27, e_X11_restore_30, e_X11_restore_31, e_X11_restore_32, vi, vl, vr, oc_X11_copy, T_X11_copy, oc_X11_finding, T_X11_finding, ix_push, ix_iload, ix_lload, ix_aload, ix_istore, ix_astore, ix_iinc, ix_bin, ix_div, ix_un, ix_i2l, ix_l2i, ix_lbin, ix_lsh, ix_lcmp, ix_dup, ix_dup2, ix_pop, ix_if, ix_cmp, ix_goto, ix_switch, ix_sw, ix_iret, ix_zret, ix_vret, ix_aret, ix_geti, ix_getr, ix_puti, ix_putz, ix_puts, ix_gets, ix_iald, ix_iast, ix_alen, ix_aald, ix_gval, ix_gcod, ix_bald, ix_blen, ix_sald, ix_nret, ix_math2, ix_math1, ix_acopy, ml_113, ml_114, ml_115, ml_116, ml_118, ml_119, ml_120, ml_121, ml_122, ml_123, ml_124, ml_125, ml_126, mv_0, mv_1, mv_2, mv_3, mv_4, mv_5, mB_or, Nat.add_assoc, Int32.reduceLT, Int32.reduceLE, Int32.reduceToNatClampNeg, Int32.reduceSub, Int32.reduceAdd, Nat.reduceAdd, Nat.reduceLeDiff, true_or, or_true, or_false, false_or, not_false_eq_true, not_true_eq_false, false_implies, true_implies, implies_true, and_self, mB_0, mB_01, Classical.not_not, Nat.zero_le, List.getElem?_cons_zero, List.getElem?_cons_succ, List.set_cons_zero, List.set_cons_succ, ix_nl, ix_cs, true_and, and_true, Option.toList_some, Option.toList_none, List.cons_append, List.nil_append, h, h2, ix_up_ne, ix_up_k, ve_1, ve_2, ve_3, ve_4, ve_5]
    repeat' (first | exact I.er 2 (by decide) | refine ⟨fun _ => ?_, fun _ => ?_⟩)
  · have h2 : ¬ μ 112 3 = 0 := fun z => h (I.2.2.1.trans z)
    have S := I.2.1 h
    have rk := S.rk rfl rfl rfl rfl
    simp (decide := true) only [e_X10_restore_0, e_X10_restore_1, e_X10_restore_4, e_X10_restore_7, e_X10_restore_8, e_X10_restore_9, e_X10_restore_12, e_X10_restore_13, e_X10_restore_14, e_X10_restore_17, e_X10_restore_18, e_X10_restore_21, e_X10_restore_24, e_X10_restore_25, e_X10_restore_28, e_X10_restore_31, e_X10_restore_34, vi, vl, vr, oc_X10_error, T_X10_error, oc_X6_copyFrom, T_X6_copyFrom, ix_push, ix_iload, ix_lload, ix_aload, ix_istore, ix_astore, ix_iinc, ix_bin, ix_div, ix_un, ix_i2l, ix_l2i, ix_lbin, ix_lsh, ix_lcmp, ix_dup, ix_dup2, ix_pop, ix_if, ix_cmp, ix_goto, ix_switch, ix_sw, ix_iret, ix_zret, ix_vret, ix_aret, ix_geti, ix_getr, ix_puti, ix_putz, ix_puts, ix_gets, ix_iald, ix_iast, ix_alen, ix_aald, ix_gval, ix_gcod, ix_bald, ix_blen, ix_sald, ix_nret, ix_math2, ix_math1, ix_acopy, Nat.add_assoc, Int32.reduceLT, Int32.reduceLE, Int32.reduceToNatClampNeg, Int32.reduceSub, Int32.reduceAdd, Nat.reduceAdd, Nat.reduceLeDiff, true_or, or_true, or_false, false_or, not_false_eq_true, not_true_eq_false, false_implies, true_implies, implies_true, and_self, mB_0, mB_01, Classical.not_not, Nat.zero_le, List.getElem?_cons_zero, List.getElem?_cons_succ, List.set_cons_zero, List.set_cons_succ, ix_nl, ix_cs, true_and, and_true, Option.toList_some, Option.toList_none, List.cons_append, List.nil_append, h, ix_up_ne, ix_up_k, ve_1, ve_2, ve_3, ve_4, ve_5]
    refine ⟨rk, fun μ1 F1 E1 => hQ _ _ ?_⟩
    have sl : ∀ a, (a < 1 ∨ 23 < a) → μ1 a = μ a := fun a ha => F1 a (by simp only [sL, List.mem_map, List.mem_range]; omega)
    have h2' : ¬ μ1 112 3 = 0 := by rw [sl 112 (by omega)]; exact h2
    simp (decide := true) only [e_X11_restore_0, e_X11_restore_1, e_X11_restore_4, e_X11_restore_7, e_X11_restore_8, e_X11_restore_11, e_X11_restore_14, e_X11_restore_15, e_X11_restore_16, e_X11_restore_19, e_X11_restore_20, e_X11_restore_23, e_X11_restore_26, e_X11_restore_27, e_X11_restore_30, e_X11_restore_31, e_X11_restore_32, vi, vl, vr, oc_X11_copy, T_X11_copy, oc_X11_finding, T_X11_finding, ix_push, ix_iload, ix_lload, ix_aload, ix_istore, ix_astore, ix_iinc, ix_bin, ix_div, ix_un, ix_i2l, ix_l2i, ix_lbin, ix_lsh, ix_lcmp, ix_dup, ix_dup2, ix_pop, ix_if, ix_cmp, ix_goto, ix_switch, ix_sw, ix_iret, ix_zret, ix_vret, ix_aret, ix_geti, ix_getr, ix_puti, ix_putz, ix_puts, ix_gets, ix_iald, ix_iast, ix_alen, ix_aald, ix_gval, ix_gcod, ix_bald, ix_blen, ix_sald, ix_nret, ix_math2, ix_math1, ix_acopy, ml_113, ml_114, ml_115, ml_116, ml_118, ml_119, ml_120, ml_121, ml_122, ml_123, ml_124, ml_125, ml_126, mv_0, mv_1, mv_2, mv_3, mv_4, mv_5, mB_or, Nat.add_assoc, Int32.reduceLT, Int32.reduceLE, Int32.reduceToNatClampNeg, Int32.reduceSub, Int32.reduceAdd, Nat.reduceAdd, Nat.reduceLeDiff, true_or, or_true, or_false, false_or, not_false_eq_true, not_true_eq_false, false_implies, true_implies, implies_true, and_self, mB_0, mB_01, Classical.not_not, Nat.zero_le, List.getElem?_cons_zero, List.getElem?_cons_succ, List.set_cons_zero, List.set_cons_succ, ix_nl, ix_cs, true_and, and_true, Option.toList_some, Option.toList_none, List.cons_append, List.nil_append, h2', ix_up_ne, ix_up_k, ve_1, ve_2, ve_3, ve_4, ve_5]
    intro μ2 F2 R2
    have F2' : ∀ a, a ≠ 113 → μ2 a = μ1 a := fun a ha => F2 a (by simp [ha])
    have SS : SR μ2 1 (μ2 113) := by
      refine SR.fx (SR.copy S E1 (f' := μ 114) (fun j _ => rfl)) (fun a h1 h2 _ _ => F2' a (by omega)) (fun j hj => ?_)
      rw [R2 j hj, sl 114 (by omega)]
    refine pst ?_ (I.now (L := 113 :: sL 1) (fun a ha => ?_) (by decide) SS (by decide))
    · have e := congrFun (congrFun SS.1.1 0) 8
      rw [wv_08, nv_08, F2' 2 (by decide)] at e
      exact e.symm
    · have h1 : a ≠ 113 := fun z => ha (by simp [z])
      rw [F2' a h1]
      exact F1 a (fun z => ha (List.mem_cons_of_mem _ z))
