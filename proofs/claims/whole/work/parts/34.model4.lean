/-! ===== the model: minutes to come ===== -/
def MW (μ : ix_M) (M : Nat) (ds dl : List Int32) : Prop := WAt (nv (μ 113)) M ∧ WyOk (nv (μ 113)) ∧ TxtM (μ 113) 152 ds ∧ TxtM (μ 113) 204 dl
theorem pV_3 (ds dl : List Int32) (led way : Int32) (v : WV) {i : Nat} (h : i < 6) : pV ds dl led way v 3 i = v 3 i := by
  unfold pV
  rw [if_pos (wok_3 h)]
  rfl
theorem WyOk.pV {v : WV} (h : WyOk v) (ds dl : List Int32) (led way : Int32) : WyOk (pV ds dl led way v) := fun i hi => by
  rw [pV_3 _ _ _ _ _ hi]
  exact h i hi
theorem WyOk.it {v : WV} (h : WyOk v) (ds dl : List Int32) : ∀ n, WyOk (pIt ds dl n v)
  | 0 => h
  | n + 1 => (WyOk.it h ds dl n).pV ds dl (-1) 0
theorem pV_nob (ds dl : List Int32) (way : Int32) (v : WV) : pV ds dl (-1) way v = pV ds dl (-1) 0 v := by
  funext r i
  unfold pV
  by_cases h : wok r i = true
  · rw [if_pos h, if_pos h]
    by_cases h6 : r = 6
    · subst h6
      have hi : i < 8 := by
        unfold wok at h
        simp at h
        omega
      have hn : ¬ nI i = -1 := by
        intro z
        exact absurd z (fun z => absurd (nI_pos (n := i) (by omega)) (by rw [z]; decide))
      have e : pAt (-1) way v i = pAt (-1) 0 v i := by
        unfold pAt pAt1
        rw [if_neg hn, if_neg hn]
      simp only [e]
    · simp only [h6, if_false]
  · rw [if_neg h, if_neg h]
theorem MW.next {μ μ' : ix_M} {M : Nat} {ds dl : List Int32} {led way : Int32} (h : MW μ M ds dl) (hv : nv (μ' 113) = pV ds dl led way (nv (μ 113))) (hr : ∀ j, rst j → μ' 113 j = μ 113 j) : MW μ' (M + 1) ds dl := by
  refine ⟨by rw [hv]; exact h.1.pV ds dl _ _, by rw [hv]; exact h.2.1.pV ds dl _ _, h.2.2.1.fx (by decide) (fun j hj => hr j (Or.inr (Or.inr hj))), h.2.2.2.fx (by decide) (fun j hj => hr j (Or.inr (Or.inr hj)))⟩
theorem MW.had {μ : ix_M} {M : Nat} {ds dl : List Int32} (h : MW μ M ds dl) : ∃ N, N ≤ 8 ∧ μ 113 1 = nI N ∧ mSum (fun b => μ 113 (53 + 4 * b)) N = pH (nv (μ 113)) := by
  obtain ⟨N, hN, e⟩ := h.1.1
  rw [nv_07] at e
  refine ⟨N, hN, e, ?_⟩
  unfold pH pN
  rw [nv_07, e, nI_clamp (by omega)]
  exact mSum_cong (fun i hi => (nv_7 (μ 113) (by omega)).symm)
def T_X11_minutesGo : Nat × Int32 → ix_M → (ix_R → Prop) → Prop := fun (_, n) μ Q => ∃ M N ds dl, MW μ M ds dl ∧ n = nI N ∧ M + N < 30000 ∧ μ 112 5 = -1 ∧ ∀ μ', Fx [113, 119, 120] μ μ' → nv (μ' 113) = pIt ds dl N (nv (μ 113)) → (∀ j, rst j → μ' 113 j = μ 113 j) → Q (some (vi (pH (pIt ds dl N (nv (μ 113))))), μ')
def sh_X11_minutesGo (x : Nat × Int32) : List ix_V := [vr 10 x.1, vi x.2]
theorem mo_X11_minutesGo (x : Nat × Int32) (μ : ix_M) (Q Q' : ix_R → Prop) (h : ∀ r, Q r → Q' r) (hT : T_X11_minutesGo x μ Q) : T_X11_minutesGo x μ Q' := by
  obtain ⟨a0, a1⟩ := x
  (obtain ⟨M, N, ds, dl, h1, h2, h3, h4, h5⟩ := hT; exact ⟨M, N, ds, dl, h1, h2, h3, h4, fun μ' z z2 z3 => h _ (h5 μ' z z2 z3)⟩)
def oc_X11_minutesGo (n : Nat) : ix_Op := fun k _ ls st μ => match st with
  | .inl a1 :: .inr (.inr (t0, a0)) :: r => t0 = 10 ∧ ix_cs r ≤ 8 ∧ T_X11_minutesGo (a0, a1) μ (fun q => k (n, ls, q.1.toList ++ r, q.2))
  | _ => False
theorem oc_X11_minutesGo_s {l : Launch} {cc : ByteArray} {nL : Nat} {own : String} {d : Nat} {rt : Option FieldType} {pc n : Nat} (h : ix_S l cc nL own d rt pc (ix_call 2 sh_X11_minutesGo T_X11_minutesGo n)) : ix_S l cc nL own d rt pc (oc_X11_minutesGo n) := by
  refine h.by (fun k Q ls st μ h => ?_) (fun k k' Q ls st μ hk h => ?_)
  · unfold oc_X11_minutesGo at h
    split at h
    · rename_i a1 t0 a0 r
      obtain ⟨rfl, h1, h2⟩ := h
      exact ⟨h1, (a0, a1), rfl, _, h2, fun r h => h⟩
    · exact h.elim
  · unfold oc_X11_minutesGo at h ⊢
    split at h
    · obtain ⟨rfl, h1, h2⟩ := h
      exact ⟨rfl, h1, mo_X11_minutesGo _ _ _ _ (fun q hq => hk _ hq) h2⟩
    · exact h.elim
def o_X11_minutesGo : List (Nat × ix_Op) := [
  (0, ix_push (vi 0) 1),
  (1, ix_istore 2 2),
  (2, ix_iload 2 3),
  (3, ix_iload 1 4),
  (4, ix_cmp (fun x y => y ≤ x) 17 7),
  (7, ix_aload 0 8),
  (8, oc_X11_minute 11),
  (11, ix_iinc 2 1 14),
  (14, ix_goto 2),
  (17, ix_aload 0 18),
  (18, oc_X11_had 21),
  (21, ix_iret)]
set_option maxRecDepth 20000 in
theorem a_X11_minutesGo (l : Launch) : ix_AllS l cX11_minutesGo 3 RX11 6 (some .int) o_X11_minutesGo :=
  .cons (ix_s_iconst dX11_minutesGo_0 (by decide +kernel)) <|
  .cons (ix_s_istore_n dX11_minutesGo_1 rfl (by decide)) <|
  .cons (ix_s_iload_n dX11_minutesGo_2 rfl) <|
  .cons (ix_s_iload_n dX11_minutesGo_3 rfl) <|
  .cons (ix_s_cmp_ge dX11_minutesGo_4 (by decide)) <|
  .cons (ix_s_aload_n dX11_minutesGo_7 rfl) <|
  .cons (oc_X11_minute_s (ix_s_callv (t := 10) (k_X11_minute l) (by decide) (by decide) tw_1191 tw_12 tw_1188 tw_1190 tp_45 ⟨by decide, by decide, by decide +kernel⟩ (by decide) rfl rfl (fun _ => ⟨_, _, rfl, rfl⟩) dX11_minutesGo_8)) <|
  .cons (ix_s_iinc dX11_minutesGo_11 (by decide +kernel) (by decide)) <|
  .cons (ix_s_goto dX11_minutesGo_14 (by decide)) <|
  .cons (ix_s_aload_n dX11_minutesGo_17 rfl) <|
  .cons (oc_X11_had_s (ix_s_callv (t := 10) (k_X11_had l) (by decide) (by decide) tw_1202 tw_12 tw_1199 tw_1201 tp_47 ⟨by decide, by decide, by decide +kernel⟩ (by decide) rfl rfl (fun _ => ⟨_, _, rfl, rfl⟩) dX11_minutesGo_18)) <|
  .cons (ix_s_iret dX11_minutesGo_21 rfl) <| .nil
theorem e_X11_minutesGo_0 (Q : ix_R → Prop) (ls : ix_L) (st : List ix_V) (μ : ix_M) : ix_Ev o_X11_minutesGo Q (0, ls, st, μ) = ix_push (vi 0) 1 (ix_Ev o_X11_minutesGo Q) Q ls st μ := ix_Ev.eq (a_X11_minutesGo launch0) rfl ls st μ
theorem e_X11_minutesGo_1 (Q : ix_R → Prop) (ls : ix_L) (st : List ix_V) (μ : ix_M) : ix_Ev o_X11_minutesGo Q (1, ls, st, μ) = ix_istore 2 2 (ix_Ev o_X11_minutesGo Q) Q ls st μ := ix_Ev.eq (a_X11_minutesGo launch0) rfl ls st μ
theorem e_X11_minutesGo_2 (Q : ix_R → Prop) (ls : ix_L) (st : List ix_V) (μ : ix_M) : ix_Ev o_X11_minutesGo Q (2, ls, st, μ) = ix_iload 2 3 (ix_Ev o_X11_minutesGo Q) Q ls st μ := ix_Ev.eq (a_X11_minutesGo launch0) rfl ls st μ
theorem e_X11_minutesGo_3 (Q : ix_R → Prop) (ls : ix_L) (st : List ix_V) (μ : ix_M) : ix_Ev o_X11_minutesGo Q (3, ls, st, μ) = ix_iload 1 4 (ix_Ev o_X11_minutesGo Q) Q ls st μ := ix_Ev.eq (a_X11_minutesGo launch0) rfl ls st μ
theorem e_X11_minutesGo_4 (Q : ix_R → Prop) (ls : ix_L) (st : List ix_V) (μ : ix_M) : ix_Ev o_X11_minutesGo Q (4, ls, st, μ) = ix_cmp (fun x y => y ≤ x) 17 7 (ix_Ev o_X11_minutesGo Q) Q ls st μ := ix_Ev.eq (a_X11_minutesGo launch0) rfl ls st μ
theorem e_X11_minutesGo_7 (Q : ix_R → Prop) (ls : ix_L) (st : List ix_V) (μ : ix_M) : ix_Ev o_X11_minutesGo Q (7, ls, st, μ) = ix_aload 0 8 (ix_Ev o_X11_minutesGo Q) Q ls st μ := ix_Ev.eq (a_X11_minutesGo launch0) rfl ls st μ
theorem e_X11_minutesGo_8 (Q : ix_R → Prop) (ls : ix_L) (st : List ix_V) (μ : ix_M) : ix_Ev o_X11_minutesGo Q (8, ls, st, μ) = oc_X11_minute 11 (ix_Ev o_X11_minutesGo Q) Q ls st μ := ix_Ev.eq (a_X11_minutesGo launch0) rfl ls st μ
theorem e_X11_minutesGo_11 (Q : ix_R → Prop) (ls : ix_L) (st : List ix_V) (μ : ix_M) : ix_Ev o_X11_minutesGo Q (11, ls, st, μ) = ix_iinc 2 1 14 (ix_Ev o_X11_minutesGo Q) Q ls st μ := ix_Ev.eq (a_X11_minutesGo launch0) rfl ls st μ
theorem e_X11_minutesGo_14 (Q : ix_R → Prop) (ls : ix_L) (st : List ix_V) (μ : ix_M) : ix_Ev o_X11_minutesGo Q (14, ls, st, μ) = ix_goto 2 (ix_Ev o_X11_minutesGo Q) Q ls st μ := ix_Ev.eq (a_X11_minutesGo launch0) rfl ls st μ
theorem e_X11_minutesGo_17 (Q : ix_R → Prop) (ls : ix_L) (st : List ix_V) (μ : ix_M) : ix_Ev o_X11_minutesGo Q (17, ls, st, μ) = ix_aload 0 18 (ix_Ev o_X11_minutesGo Q) Q ls st μ := ix_Ev.eq (a_X11_minutesGo launch0) rfl ls st μ
theorem e_X11_minutesGo_18 (Q : ix_R → Prop) (ls : ix_L) (st : List ix_V) (μ : ix_M) : ix_Ev o_X11_minutesGo Q (18, ls, st, μ) = oc_X11_had 21 (ix_Ev o_X11_minutesGo Q) Q ls st μ := ix_Ev.eq (a_X11_minutesGo launch0) rfl ls st μ
theorem e_X11_minutesGo_21 (Q : ix_R → Prop) (ls : ix_L) (st : List ix_V) (μ : ix_M) : ix_Ev o_X11_minutesGo Q (21, ls, st, μ) = ix_iret (ix_Ev o_X11_minutesGo Q) Q ls st μ := ix_Ev.eq (a_X11_minutesGo launch0) rfl ls st μ
theorem l_X11_minutesGo {M N : Nat} {μ : ix_M} {ds dl : List Int32} {Q : ix_R → Prop} (hMN : M + N < 30000) (hl : μ 112 5 = -1) (hQ : ∀ μ', Fx [113, 119, 120] μ μ' → nv (μ' 113) = pIt ds dl N (nv (μ 113)) → (∀ j, rst j → μ' 113 j = μ 113 j) → Q (some (vi (pH (pIt ds dl N (nv (μ 113))))), μ')) :
    ∀ (k i : Nat) (μ1 : ix_M), i + k = N → Fx [113, 119, 120] μ μ1 → nv (μ1 113) = pIt ds dl i (nv (μ 113)) → (∀ j, rst j → μ1 113 j = μ 113 j) → MW μ1 (M + i) ds dl → ix_Ev o_X11_minutesGo Q (2, [some (vr 10 112), some (vi (nI N)), some (vi (nI i))], [], μ1) := by
  intro k
  induction k with
  | zero =>
    intro i μ1 hi hF hv hr hW
    have hi : i = N := hi
    subst hi
    have hle : nI i ≤ nI i := Int32.le_refl _
    obtain ⟨n, h1, h2, h3⟩ := hW.had
    rw [e_X11_minutesGo_2]
    simp (decide := true) only [e_X11_minutesGo_0, e_X11_minutesGo_1, e_X11_minutesGo_3, e_X11_minutesGo_4, e_X11_minutesGo_7, e_X11_minutesGo_8, e_X11_minutesGo_11, e_X11_minutesGo_14, e_X11_minutesGo_17, e_X11_minutesGo_18, e_X11_minutesGo_21, vi, vl, vr, oc_X11_had, T_X11_had, oc_X11_minute, T_X11_minute, ix_push, ix_iload, ix_lload, ix_aload, ix_istore, ix_astore, ix_iinc, ix_bin, ix_div, ix_un, ix_i2l, ix_l2i, ix_lbin, ix_lsh, ix_lcmp, ix_dup, ix_dup2, ix_pop, ix_if, ix_cmp, ix_goto, ix_switch, ix_sw, ix_iret, ix_zret, ix_vret, ix_aret, ix_geti, ix_getr, ix_puti, ix_putz, ix_puts, ix_gets, ix_iald, ix_iast, ix_alen, ix_aald, ix_gval, ix_gcod, ix_bald, ix_blen, ix_sald, ix_nret, ix_math2, ix_math1, ix_acopy, ml_113, ml_114, ml_115, ml_116, ml_118, ml_119, ml_120, ml_121, ml_122, ml_123, ml_124, ml_125, ml_126, mv_0, mv_1, mv_2, mv_3, mv_4, mv_5, mB_or, Nat.add_assoc, Int32.reduceLT, Int32.reduceLE, Int32.reduceToNatClampNeg, Int32.reduceSub, Int32.reduceAdd, Nat.reduceAdd, Nat.reduceLeDiff, true_or, or_true, or_false, false_or, not_false_eq_true, not_true_eq_false, false_implies, true_implies, implies_true, and_self, mB_0, mB_01, Classical.not_not, Nat.zero_le, List.getElem?_cons_zero, List.getElem?_cons_succ, List.set_cons_zero, List.set_cons_succ, ix_nl, ix_cs, true_and, and_true, Option.toList_some, Option.toList_none, List.cons_append, List.nil_append, hle]
    refine ⟨n, h1, h2, ?_⟩
    rw [h3, hv]
    exact hQ μ1 hF hv hr
  | succ k ih =>
    intro i μ1 hi hF hv hr hW
    have hng : ¬ nI N ≤ nI i := nI_ge (by omega) (by omega)
    have hi1 : nI i + 1 = nI (i + 1) := nI_1 i
    rw [e_X11_minutesGo_2]
    simp (decide := true) only [e_X11_minutesGo_0, e_X11_minutesGo_1, e_X11_minutesGo_3, e_X11_minutesGo_4, e_X11_minutesGo_7, e_X11_minutesGo_8, e_X11_minutesGo_11, e_X11_minutesGo_14, e_X11_minutesGo_17, e_X11_minutesGo_18, e_X11_minutesGo_21, vi, vl, vr, oc_X11_had, T_X11_had, oc_X11_minute, T_X11_minute, ix_push, ix_iload, ix_lload, ix_aload, ix_istore, ix_astore, ix_iinc, ix_bin, ix_div, ix_un, ix_i2l, ix_l2i, ix_lbin, ix_lsh, ix_lcmp, ix_dup, ix_dup2, ix_pop, ix_if, ix_cmp, ix_goto, ix_switch, ix_sw, ix_iret, ix_zret, ix_vret, ix_aret, ix_geti, ix_getr, ix_puti, ix_putz, ix_puts, ix_gets, ix_iald, ix_iast, ix_alen, ix_aald, ix_gval, ix_gcod, ix_bald, ix_blen, ix_sald, ix_nret, ix_math2, ix_math1, ix_acopy, ml_113, ml_114, ml_115, ml_116, ml_118, ml_119, ml_120, ml_121, ml_122, ml_123, ml_124, ml_125, ml_126, mv_0, mv_1, mv_2, mv_3, mv_4, mv_5, mB_or, Nat.add_assoc, Int32.reduceLT, Int32.reduceLE, Int32.reduceToNatClampNeg, Int32.reduceSub, Int32.reduceAdd, Nat.reduceAdd, Nat.reduceLeDiff, true_or, or_true, or_false, false_or, not_false_eq_true, not_true_eq_false, false_implies, true_implies, implies_true, and_self, mB_0, mB_01, Classical.not_not, Nat.zero_le, List.getElem?_cons_zero, List.getElem?_cons_succ, List.set_cons_zero, List.set_cons_succ, ix_nl, ix_cs, true_and, and_true, Option.toList_some, Option.toList_none, List.cons_append, List.nil_append, hng, hi1]
    have e5 : μ1 112 5 = -1 := by rw [hF 112 (by decide)]; exact hl
    refine ⟨hW.1.ok (by omega), hW.2.1, ds, dl, hW.2.2.1, hW.2.2.2, fun μ' hF' hv' hr' => ?_⟩
    refine ih (i + 1) μ' (by omega) (hF.tr hF') ?_ (fun j hj => (hr' j hj).trans (hr j hj)) (hW.next hv' hr')
    rw [hv', e5, pV_nob, hv]
    rfl
theorem r_X11_minutesGo (o : Nat) (n : Int32) (μ : ix_M) (Q : ix_R → Prop) (ok_o : o < ix_N ∧ ix_tag o = 10) (hT : T_X11_minutesGo (o, n) μ Q) : ix_Ev o_X11_minutesGo Q (0, [some (vr 10 o), some (vi n), none], [], μ) := by
  obtain rfl := ok_10 o ok_o.1 ok_o.2
  obtain ⟨M, N, ds, dl, h1, rfl, h3, h4, hQ⟩ := hT
  simp (decide := true) only [e_X11_minutesGo_0, e_X11_minutesGo_1, e_X11_minutesGo_3, e_X11_minutesGo_4, e_X11_minutesGo_7, e_X11_minutesGo_8, e_X11_minutesGo_11, e_X11_minutesGo_14, e_X11_minutesGo_17, e_X11_minutesGo_18, e_X11_minutesGo_21, vi, vl, vr, oc_X11_had, T_X11_had, oc_X11_minute, T_X11_minute, ix_push, ix_iload, ix_lload, ix_aload, ix_istore, ix_astore, ix_iinc, ix_bin, ix_div, ix_un, ix_i2l, ix_l2i, ix_lbin, ix_lsh, ix_lcmp, ix_dup, ix_dup2, ix_pop, ix_if, ix_cmp, ix_goto, ix_switch, ix_sw, ix_iret, ix_zret, ix_vret, ix_aret, ix_geti, ix_getr, ix_puti, ix_putz, ix_puts, ix_gets, ix_iald, ix_iast, ix_alen, ix_aald, ix_gval, ix_gcod, ix_bald, ix_blen, ix_sald, ix_nret, ix_math2, ix_math1, ix_acopy, ml_113, ml_114, ml_115, ml_116, ml_118, ml_119, ml_120, ml_121, ml_122, ml_123, ml_124, ml_125, ml_126, mv_0, mv_1, mv_2, mv_3, mv_4, mv_5, mB_or, Nat.add_assoc, Int32.reduceLT, Int32.reduceLE, Int32.reduceToNatClampNeg, Int32.reduceSub, Int32.reduceAdd, Nat.reduceAdd, Nat.reduceLeDiff, true_or, or_true, or_false, false_or, not_false_eq_true, not_true_eq_false, false_implies, true_implies, implies_true, and_self, mB_0, mB_01, Classical.not_not, Nat.zero_le, List.getElem?_cons_zero, List.getElem?_cons_succ, List.set_cons_zero, List.set_cons_succ, ix_nl, ix_cs, true_and, and_true, Option.toList_some, Option.toList_none, List.cons_append, List.nil_append]
  exact l_X11_minutesGo h3 h4 hQ N 0 μ (by omega) Fx.rf rfl (fun _ _ => rfl) h1
theorem k_X11_minutesGo (l : Launch) : ix_Ct l yX11_minutesGo cX11_minutesGo 3 (some .int) 6 sh_X11_minutesGo T_X11_minutesGo := ix_ct (a_X11_minutesGo l) rfl (by decide) (fun _ => Nat.le_of_ble_eq_true rfl) (fun x μ Q hok hT => r_X11_minutesGo x.1 x.2 μ Q (ix_ok_at (hok (vr 10 x.1) (by simp [sh_X11_minutesGo])) (by decide) (by decide)) hT)
theorem nvI_lt {r i : Nat} (h : wok r i = true) : nvI r i < 82 := by
  unfold wok at h
  simp at h
  unfold nvI
  repeat' split
  all_goals omega
theorem nvI_inj {r i r0 i0 : Nat} (h : wok r i = true) (h0 : wok r0 i0 = true) (e : nvI r i = nvI r0 i0) : r = r0 ∧ i = i0 := by
  unfold wok at h h0
  simp at h h0
  unfold nvI at e
  repeat' split at e
  all_goals omega
theorem nvI_rst {r i : Nat} (h : wok r i = true) : ¬ rst (nvI r i) := by
  unfold wok at h
  simp at h
  unfold nvI rst
  repeat' split
  all_goals omega
abbrev RE (f g : Nat → Int32) : Prop := ∀ j, j < 256 → f j = g j
theorem nv_cong {f g : Nat → Int32} (h : RE f g) : nv f = nv g := by
  funext r i
  unfold nv
  by_cases e : wok r i = true
  · rw [if_pos e, if_pos e]
    exact h _ (Nat.lt_trans (nvI_lt e) (by decide))
  · rw [if_neg e, if_neg e]
theorem nv_upd {f : Nat → Int32} {r0 i0 : Nat} (h0 : wok r0 i0 = true) (x : Int32) : nv (upd f (nvI r0 i0) x) = setV r0 i0 x (nv f) := by
  funext r i
  by_cases e : wok r i = true
  · simp only [nv, setV, if_pos e]
    by_cases e2 : r = r0 ∧ i = i0
    · rw [if_pos e2, e2.1, e2.2, upd_eq]
    · rw [if_neg e2, upd_ne (fun z => e2 (nvI_inj e h0 z))]
  · simp only [nv, setV, if_neg e]
    rw [if_neg (fun z => e (by rw [z.1, z.2]; exact h0))]
theorem TxtM.cong {f g : Nat → Int32} {t : Nat} {ds : List Int32} (h : TxtM f t ds) (ht : t ≤ 204) (he : RE g f) : TxtM g t ds := by
  have := h.1.2.1
  exact ⟨⟨by rw [he t (by omega)]; exact h.1.1, h.1.2.1, fun j hj => by rw [he _ (by omega)]; exact h.1.2.2 j hj⟩, h.2⟩
theorem MW.cong {μ μ' : ix_M} {M : Nat} {ds dl : List Int32} (h : MW μ M ds dl) (he : RE (μ' 113) (μ 113)) : MW μ' M ds dl := by
  refine ⟨by rw [nv_cong he]; exact h.1, by rw [nv_cong he]; exact h.2.1, h.2.2.1.cong (by decide) he, h.2.2.2.cong (by decide) he⟩
def T_X11_hadBehind : Nat × Int32 → ix_M → (ix_R → Prop) → Prop := fun (_, n) μ Q => ∃ M N ds dl, MW μ M ds dl ∧ n = nI N ∧ M + N < 30000 ∧ μ 112 5 = -1 ∧ ∀ μ', Fx [113, 115, 119, 120] μ μ' → RE (μ' 113) (μ 113) → Q (some (vi (pH (pIt ds dl N (nv (μ 113))))), μ')
def sh_X11_hadBehind (x : Nat × Int32) : List ix_V := [vr 10 x.1, vi x.2]
theorem mo_X11_hadBehind (x : Nat × Int32) (μ : ix_M) (Q Q' : ix_R → Prop) (h : ∀ r, Q r → Q' r) (hT : T_X11_hadBehind x μ Q) : T_X11_hadBehind x μ Q' := by
  obtain ⟨a0, a1⟩ := x
  (obtain ⟨M, N, ds, dl, h1, h2, h3, h4, h5⟩ := hT; exact ⟨M, N, ds, dl, h1, h2, h3, h4, fun μ' z z2 => h _ (h5 μ' z z2)⟩)
def oc_X11_hadBehind (n : Nat) : ix_Op := fun k _ ls st μ => match st with
  | .inl a1 :: .inr (.inr (t0, a0)) :: r => t0 = 10 ∧ ix_cs r ≤ 8 ∧ T_X11_hadBehind (a0, a1) μ (fun q => k (n, ls, q.1.toList ++ r, q.2))
  | _ => False
theorem oc_X11_hadBehind_s {l : Launch} {cc : ByteArray} {nL : Nat} {own : String} {d : Nat} {rt : Option FieldType} {pc n : Nat} (h : ix_S l cc nL own d rt pc (ix_call 2 sh_X11_hadBehind T_X11_hadBehind n)) : ix_S l cc nL own d rt pc (oc_X11_hadBehind n) := by
  refine h.by (fun k Q ls st μ h => ?_) (fun k k' Q ls st μ hk h => ?_)
  · unfold oc_X11_hadBehind at h
    split at h
    · rename_i a1 t0 a0 r
      obtain ⟨rfl, h1, h2⟩ := h
      exact ⟨h1, (a0, a1), rfl, _, h2, fun r h => h⟩
    · exact h.elim
  · unfold oc_X11_hadBehind at h ⊢
    split at h
    · obtain ⟨rfl, h1, h2⟩ := h
      exact ⟨rfl, h1, mo_X11_hadBehind _ _ _ _ (fun q hq => hk _ hq) h2⟩
    · exact h.elim
def o_X11_hadBehind : List (Nat × ix_Op) := [
  (0, ix_aload 0 1),
  (1, ix_getr 10 20 (fun _ => 113) 4),
  (4, ix_aload 0 5),
  (5, ix_getr 10 20 (fun _ => 115) 8),
  (8, oc_X11_copy 11),
  (11, ix_aload 0 12),
  (12, ix_iload 1 13),
  (13, oc_X11_minutesGo 16),
  (16, ix_istore 2 17),
  (17, ix_aload 0 18),
  (18, ix_iload 2 19),
  (19, oc_X11_putBack 22),
  (22, ix_iret)]
set_option maxRecDepth 20000 in
theorem a_X11_hadBehind (l : Launch) : ix_AllS l cX11_hadBehind 3 RX11 7 (some .int) o_X11_hadBehind :=
  .cons (ix_s_aload_n dX11_hadBehind_0 rfl) <|
  .cons (ix_s_getr (j := 0) tu_X11 rfl (by decide) (by decide) tw_875 rfl ts_10_0_r dX11_hadBehind_1) <|
  .cons (ix_s_aload_n dX11_hadBehind_4 rfl) <|
  .cons (ix_s_getr (j := 2) tu_X11 rfl (by decide) (by decide) tw_877 rfl ts_10_2_r dX11_hadBehind_5) <|
  .cons (oc_X11_copy_s (ix_s_calls (k_X11_copy l) (by decide) (by decide) tw_1221 tw_12 tw_1219 tw_1220 ⟨by decide, by decide, by decide +kernel⟩ (fun _ => rfl) dX11_hadBehind_8)) <|
  .cons (ix_s_aload_n dX11_hadBehind_11 rfl) <|
  .cons (ix_s_iload_n dX11_hadBehind_12 rfl) <|
  .cons (oc_X11_minutesGo_s (ix_s_callv (t := 10) (k_X11_minutesGo l) (by decide) (by decide) tw_1187 tw_12 tw_1184 tw_1186 tp_44 ⟨by decide, by decide, by decide +kernel⟩ (by decide) rfl rfl (fun _ => ⟨_, _, rfl, rfl⟩) dX11_hadBehind_13)) <|
  .cons (ix_s_istore_n dX11_hadBehind_16 rfl (by decide)) <|
  .cons (ix_s_aload_n dX11_hadBehind_17 rfl) <|
  .cons (ix_s_iload_n dX11_hadBehind_18 rfl) <|
  .cons (oc_X11_putBack_s (ix_s_callv (t := 10) (k_X11_putBack l) (by decide) (by decide) tw_1229 tw_12 tw_1226 tw_1228 tp_50 ⟨by decide, by decide, by decide +kernel⟩ (by decide) rfl rfl (fun _ => ⟨_, _, rfl, rfl⟩) dX11_hadBehind_19)) <|
  .cons (ix_s_iret dX11_hadBehind_22 rfl) <| .nil
theorem e_X11_hadBehind_0 (Q : ix_R → Prop) (ls : ix_L) (st : List ix_V) (μ : ix_M) : ix_Ev o_X11_hadBehind Q (0, ls, st, μ) = ix_aload 0 1 (ix_Ev o_X11_hadBehind Q) Q ls st μ := ix_Ev.eq (a_X11_hadBehind launch0) rfl ls st μ
theorem e_X11_hadBehind_1 (Q : ix_R → Prop) (ls : ix_L) (st : List ix_V) (μ : ix_M) : ix_Ev o_X11_hadBehind Q (1, ls, st, μ) = ix_getr 10 20 (fun _ => 113) 4 (ix_Ev o_X11_hadBehind Q) Q ls st μ := ix_Ev.eq (a_X11_hadBehind launch0) rfl ls st μ
theorem e_X11_hadBehind_4 (Q : ix_R → Prop) (ls : ix_L) (st : List ix_V) (μ : ix_M) : ix_Ev o_X11_hadBehind Q (4, ls, st, μ) = ix_aload 0 5 (ix_Ev o_X11_hadBehind Q) Q ls st μ := ix_Ev.eq (a_X11_hadBehind launch0) rfl ls st μ
theorem e_X11_hadBehind_5 (Q : ix_R → Prop) (ls : ix_L) (st : List ix_V) (μ : ix_M) : ix_Ev o_X11_hadBehind Q (5, ls, st, μ) = ix_getr 10 20 (fun _ => 115) 8 (ix_Ev o_X11_hadBehind Q) Q ls st μ := ix_Ev.eq (a_X11_hadBehind launch0) rfl ls st μ
theorem e_X11_hadBehind_8 (Q : ix_R → Prop) (ls : ix_L) (st : List ix_V) (μ : ix_M) : ix_Ev o_X11_hadBehind Q (8, ls, st, μ) = oc_X11_copy 11 (ix_Ev o_X11_hadBehind Q) Q ls st μ := ix_Ev.eq (a_X11_hadBehind launch0) rfl ls st μ
theorem e_X11_hadBehind_11 (Q : ix_R → Prop) (ls : ix_L) (st : List ix_V) (μ : ix_M) : ix_Ev o_X11_hadBehind Q (11, ls, st, μ) = ix_aload 0 12 (ix_Ev o_X11_hadBehind Q) Q ls st μ := ix_Ev.eq (a_X11_hadBehind launch0) rfl ls st μ
theorem e_X11_hadBehind_12 (Q : ix_R → Prop) (ls : ix_L) (st : List ix_V) (μ : ix_M) : ix_Ev o_X11_hadBehind Q (12, ls, st, μ) = ix_iload 1 13 (ix_Ev o_X11_hadBehind Q) Q ls st μ := ix_Ev.eq (a_X11_hadBehind launch0) rfl ls st μ
theorem e_X11_hadBehind_13 (Q : ix_R → Prop) (ls : ix_L) (st : List ix_V) (μ : ix_M) : ix_Ev o_X11_hadBehind Q (13, ls, st, μ) = oc_X11_minutesGo 16 (ix_Ev o_X11_hadBehind Q) Q ls st μ := ix_Ev.eq (a_X11_hadBehind launch0) rfl ls st μ
theorem e_X11_hadBehind_16 (Q : ix_R → Prop) (ls : ix_L) (st : List ix_V) (μ : ix_M) : ix_Ev o_X11_hadBehind Q (16, ls, st, μ) = ix_istore 2 17 (ix_Ev o_X11_hadBehind Q) Q ls st μ := ix_Ev.eq (a_X11_hadBehind launch0) rfl ls st μ
theorem e_X11_hadBehind_17 (Q : ix_R → Prop) (ls : ix_L) (st : List ix_V) (μ : ix_M) : ix_Ev o_X11_hadBehind Q (17, ls, st, μ) = ix_aload 0 18 (ix_Ev o_X11_hadBehind Q) Q ls st μ := ix_Ev.eq (a_X11_hadBehind launch0) rfl ls st μ
theorem e_X11_hadBehind_18 (Q : ix_R → Prop) (ls : ix_L) (st : List ix_V) (μ : ix_M) : ix_Ev o_X11_hadBehind Q (18, ls, st, μ) = ix_iload 2 19 (ix_Ev o_X11_hadBehind Q) Q ls st μ := ix_Ev.eq (a_X11_hadBehind launch0) rfl ls st μ
theorem e_X11_hadBehind_19 (Q : ix_R → Prop) (ls : ix_L) (st : List ix_V) (μ : ix_M) : ix_Ev o_X11_hadBehind Q (19, ls, st, μ) = oc_X11_putBack 22 (ix_Ev o_X11_hadBehind Q) Q ls st μ := ix_Ev.eq (a_X11_hadBehind launch0) rfl ls st μ
theorem e_X11_hadBehind_22 (Q : ix_R → Prop) (ls : ix_L) (st : List ix_V) (μ : ix_M) : ix_Ev o_X11_hadBehind Q (22, ls, st, μ) = ix_iret (ix_Ev o_X11_hadBehind Q) Q ls st μ := ix_Ev.eq (a_X11_hadBehind launch0) rfl ls st μ
theorem r_X11_hadBehind (o : Nat) (n : Int32) (μ : ix_M) (Q : ix_R → Prop) (ok_o : o < ix_N ∧ ix_tag o = 10) (hT : T_X11_hadBehind (o, n) μ Q) : ix_Ev o_X11_hadBehind Q (0, [some (vr 10 o), some (vi n), none], [], μ) := by
  obtain rfl := ok_10 o ok_o.1 ok_o.2
  obtain ⟨M, N, ds, dl, h1, rfl, h3, h4, hQ⟩ := hT
  simp (decide := true) only [e_X11_hadBehind_0, e_X11_hadBehind_1, e_X11_hadBehind_4, e_X11_hadBehind_5, e_X11_hadBehind_8, e_X11_hadBehind_11, e_X11_hadBehind_12, e_X11_hadBehind_13, e_X11_hadBehind_16, e_X11_hadBehind_17, e_X11_hadBehind_18, e_X11_hadBehind_19, e_X11_hadBehind_22, vi, vl, vr, oc_X11_copy, T_X11_copy, oc_X11_minutesGo, T_X11_minutesGo, oc_X11_putBack, T_X11_putBack, ix_push, ix_iload, ix_lload, ix_aload, ix_istore, ix_astore, ix_iinc, ix_bin, ix_div, ix_un, ix_i2l, ix_l2i, ix_lbin, ix_lsh, ix_lcmp, ix_dup, ix_dup2, ix_pop, ix_if, ix_cmp, ix_goto, ix_switch, ix_sw, ix_iret, ix_zret, ix_vret, ix_aret, ix_geti, ix_getr, ix_puti, ix_putz, ix_puts, ix_gets, ix_iald, ix_iast, ix_alen, ix_aald, ix_gval, ix_gcod, ix_bald, ix_blen, ix_sald, ix_nret, ix_math2, ix_math1, ix_acopy, ml_113, ml_114, ml_115, ml_116, ml_118, ml_119, ml_120, ml_121, ml_122, ml_123, ml_124, ml_125, ml_126, mv_0, mv_1, mv_2, mv_3, mv_4, mv_5, mB_or, Nat.add_assoc, Int32.reduceLT, Int32.reduceLE, Int32.reduceToNatClampNeg, Int32.reduceSub, Int32.reduceAdd, Nat.reduceAdd, Nat.reduceLeDiff, true_or, or_true, or_false, false_or, not_false_eq_true, not_true_eq_false, false_implies, true_implies, implies_true, and_self, mB_0, mB_01, Classical.not_not, Nat.zero_le, List.getElem?_cons_zero, List.getElem?_cons_succ, List.set_cons_zero, List.set_cons_succ, ix_nl, ix_cs, true_and, and_true, Option.toList_some, Option.toList_none, List.cons_append, List.nil_append]
  intro μ1 hF1 hc
  have e113 : μ1 113 = μ 113 := hF1 113 (by decide)
  refine ⟨M, N, ds, dl, h1.cong (by rw [e113]; exact fun _ _ => rfl), rfl, h3, by rw [hF1 112 (by decide)]; exact h4, fun μ2 hF2 hv hr => ?_⟩
  intro μ3 hF3 hc3
  rw [e113]
  refine hQ μ3 (((hF1.mono (by simp)).tr (hF2.mono (by simp))).tr (hF3.mono (by simp))) (fun j hj => ?_)
  rw [hc3 j hj, hF2 115 (by decide), hc j hj]
theorem k_X11_hadBehind (l : Launch) : ix_Ct l yX11_hadBehind cX11_hadBehind 3 (some .int) 7 sh_X11_hadBehind T_X11_hadBehind := ix_ct (a_X11_hadBehind l) rfl (by decide) (fun _ => Nat.le_of_ble_eq_true rfl) (fun x μ Q hok hT => r_X11_hadBehind x.1 x.2 μ Q (ix_ok_at (hok (vr 10 x.1) (by simp [sh_X11_hadBehind])) (by decide) (by decide)) hT)
def setOk (r i : Nat) (C : Nat) : Prop := wok r i = true ∧ (r = 3 ∧ C ≤ 5 ∨ r = 6 ∧ C ≤ 16 ∨ r = 4 ∨ r = 2 ∨ (r = 0 ∧ i = 9))
theorem setOk.mw {μ : ix_M} {M r i C x : Nat} {ds dl : List Int32} (h : MW μ M ds dl) (hs : setOk r i C) (hx : x < C) {μ' : ix_M} (he : RE (μ' 113) (upd (μ 113) (nvI r i) (nI x))) : MW μ' M ds dl ∧ nv (μ' 113) = setV r i (nI x) (nv (μ 113)) := by
  have hv : nv (μ' 113) = setV r i (nI x) (nv (μ 113)) := by rw [nv_cong he, nv_upd hs.1]
  have h82 := nvI_lt hs.1
  have ht : ∀ j, 82 ≤ j → upd (μ 113) (nvI r i) (nI x) j = μ 113 j := fun j hj => upd_ne (by omega)
  refine ⟨⟨?_, ?_, (h.2.2.1.fx (by decide) ht).cong (by decide) he, (h.2.2.2.fx (by decide) ht).cong (by decide) he⟩, hv⟩
  · rw [hv]
    refine h.1.set ⟨?_, fun z => ?_⟩
    · rcases hs.2 with z | z | z | z | z <;> omega
    · rcases hs.2 with y | y | y | y | y
      · omega
      · exact ⟨x, by omega, rfl⟩
      · omega
      · omega
      · omega
  · rw [hv]
    intro j hj
    unfold setV
    by_cases e : 3 = r ∧ j = i
    · rw [if_pos e]
      rcases hs.2 with y | y | y | y | y
      · exact ⟨x, by omega, rfl⟩
      · omega
      · omega
      · omega
      · omega
    · rw [if_neg e]
      exact h.2.1 j hj
def T_X11_mostBy : Nat × Int32 × Int32 × Int32 → ix_M → (ix_R → Prop) → Prop := fun (_, a, ch, n) μ Q => ∃ M N C r i ds dl, MW μ M ds dl ∧ setOk r i C ∧ a = nI (nvI r i) ∧ n = nI N ∧ M + N < 30000 ∧ ch = nI C ∧ C ≤ 16 ∧ μ 112 5 = -1 ∧ ∀ μ', Fx [113, 115, 119, 120] μ μ' → RE (μ' 113) (μ 113) → Q (some (vi (bstF (fun x => pH (pIt ds dl N (setV r i (nI x) (nv (μ 113))))) C).1), μ')
def sh_X11_mostBy (x : Nat × Int32 × Int32 × Int32) : List ix_V := [vr 10 x.1, vi x.2.1, vi x.2.2.1, vi x.2.2.2]
theorem mo_X11_mostBy (x : Nat × Int32 × Int32 × Int32) (μ : ix_M) (Q Q' : ix_R → Prop) (h : ∀ r, Q r → Q' r) (hT : T_X11_mostBy x μ Q) : T_X11_mostBy x μ Q' := by
  obtain ⟨a0, a1, a2, a3⟩ := x
  (obtain ⟨M, N, C, r, i, ds, dl, h1, h2, h3, h4, h5, h6, h7, h8, h9⟩ := hT; exact ⟨M, N, C, r, i, ds, dl, h1, h2, h3, h4, h5, h6, h7, h8, fun μ' z z2 => h _ (h9 μ' z z2)⟩)
def oc_X11_mostBy (n : Nat) : ix_Op := fun k _ ls st μ => match st with
  | .inl a3 :: .inl a2 :: .inl a1 :: .inr (.inr (t0, a0)) :: r => t0 = 10 ∧ ix_cs r ≤ 8 ∧ T_X11_mostBy (a0, a1, a2, a3) μ (fun q => k (n, ls, q.1.toList ++ r, q.2))
  | _ => False
theorem oc_X11_mostBy_s {l : Launch} {cc : ByteArray} {nL : Nat} {own : String} {d : Nat} {rt : Option FieldType} {pc n : Nat} (h : ix_S l cc nL own d rt pc (ix_call 4 sh_X11_mostBy T_X11_mostBy n)) : ix_S l cc nL own d rt pc (oc_X11_mostBy n) := by
  refine h.by (fun k Q ls st μ h => ?_) (fun k k' Q ls st μ hk h => ?_)
  · unfold oc_X11_mostBy at h
    split at h
    · rename_i a3 a2 a1 t0 a0 r
      obtain ⟨rfl, h1, h2⟩ := h
      exact ⟨h1, (a0, a1, a2, a3), rfl, _, h2, fun r h => h⟩
    · exact h.elim
  · unfold oc_X11_mostBy at h ⊢
    split at h
    · obtain ⟨rfl, h1, h2⟩ := h
      exact ⟨rfl, h1, mo_X11_mostBy _ _ _ _ (fun q hq => hk _ hq) h2⟩
    · exact h.elim
def o_X11_mostBy : List (Nat × ix_Op) := [
  (0, ix_aload 0 1),
  (1, ix_getr 10 20 (fun _ => 113) 4),
  (4, ix_iload 1 5),
  (5, ix_iald 6),
  (6, ix_istore 4 8),
  (8, ix_push (vi 0) 9),
  (9, ix_istore 5 11),
  (11, ix_push (vi (-1)) 12),
  (12, ix_istore 6 14),
  (14, ix_push (vi 0) 15),
  (15, ix_istore 7 17),
  (17, ix_iload 7 19),
  (19, ix_iload 2 20),
  (20, ix_cmp (fun x y => y ≤ x) 69 23),
  (23, ix_aload 0 24),
  (24, ix_getr 10 20 (fun _ => 113) 27),
  (27, ix_iload 1 28),
  (28, ix_iload 7 30),
  (30, ix_iast 31),
  (31, ix_aload 0 32),
  (32, ix_iload 3 33),
  (33, oc_X11_hadBehind 36),
  (36, ix_istore 8 38),
  (38, ix_iload 8 40),
  (40, ix_iload 6 42),
  (42, ix_cmp (fun x y => x ≤ y) 50 45),
  (45, ix_iload 7 47),
  (47, ix_goto 52),
  (50, ix_iload 5 52),
  (52, ix_istore 5 54),
  (54, ix_iload 6 56),
  (56, ix_iload 8 58),
  (58, ix_math2 (fun x y => if x < y then y else x) 61),
  (61, ix_istore 6 63),
  (63, ix_iinc 7 1 66),
  (66, ix_goto 17),
  (69, ix_aload 0 70),
  (70, ix_getr 10 20 (fun _ => 113) 73),
  (73, ix_iload 1 74),
  (74, ix_iload 4 76),
  (76, ix_iast 77),
  (77, ix_iload 5 79),
  (79, ix_iret)]
set_option maxRecDepth 20000 in
theorem a_X11_mostBy (l : Launch) : ix_AllS l cX11_mostBy 9 RX11 8 (some .int) o_X11_mostBy :=
  .cons (ix_s_aload_n dX11_mostBy_0 rfl) <|
  .cons (ix_s_getr (j := 0) tu_X11 rfl (by decide) (by decide) tw_875 rfl ts_10_0_r dX11_mostBy_1) <|
  .cons (ix_s_iload_n dX11_mostBy_4 rfl) <|
  .cons (ix_s_iald dX11_mostBy_5) <|
  .cons (ix_s_istore dX11_mostBy_6 (by decide)) <|
  .cons (ix_s_iconst dX11_mostBy_8 (by decide +kernel)) <|
  .cons (ix_s_istore dX11_mostBy_9 (by decide)) <|
  .cons (ix_s_iconst dX11_mostBy_11 (by decide +kernel)) <|
  .cons (ix_s_istore dX11_mostBy_12 (by decide)) <|
  .cons (ix_s_iconst dX11_mostBy_14 (by decide +kernel)) <|
  .cons (ix_s_istore dX11_mostBy_15 (by decide)) <|
  .cons (ix_s_iload dX11_mostBy_17) <|
  .cons (ix_s_iload_n dX11_mostBy_19 rfl) <|
  .cons (ix_s_cmp_ge dX11_mostBy_20 (by decide)) <|
  .cons (ix_s_aload_n dX11_mostBy_23 rfl) <|
  .cons (ix_s_getr (j := 0) tu_X11 rfl (by decide) (by decide) tw_875 rfl ts_10_0_r dX11_mostBy_24) <|
  .cons (ix_s_iload_n dX11_mostBy_27 rfl) <|
  .cons (ix_s_iload dX11_mostBy_28) <|
  .cons (ix_s_iast dX11_mostBy_30) <|
  .cons (ix_s_aload_n dX11_mostBy_31 rfl) <|
  .cons (ix_s_iload_n dX11_mostBy_32 rfl) <|
  .cons (oc_X11_hadBehind_s (ix_s_callv (t := 10) (k_X11_hadBehind l) (by decide) (by decide) tw_1250 tw_12 tw_1247 tw_1249 tp_52 ⟨by decide, by decide, by decide +kernel⟩ (by decide) rfl rfl (fun _ => ⟨_, _, rfl, rfl⟩) dX11_mostBy_33)) <|
  .cons (ix_s_istore dX11_mostBy_36 (by decide)) <|
  .cons (ix_s_iload dX11_mostBy_38) <|
  .cons (ix_s_iload dX11_mostBy_40) <|
  .cons (ix_s_cmp_le dX11_mostBy_42 (by decide)) <|
  .cons (ix_s_iload dX11_mostBy_45) <|
  .cons (ix_s_goto dX11_mostBy_47 (by decide)) <|
  .cons (ix_s_iload dX11_mostBy_50) <|
  .cons (ix_s_istore dX11_mostBy_52 (by decide)) <|
  .cons (ix_s_iload dX11_mostBy_54) <|
  .cons (ix_s_iload dX11_mostBy_56) <|
  .cons (ix_s_mmax tw_1057 tw_103 tw_7 tw_104 (by decide) dX11_mostBy_58) <|
  .cons (ix_s_istore dX11_mostBy_61 (by decide)) <|
  .cons (ix_s_iinc dX11_mostBy_63 (by decide +kernel) (by decide)) <|
  .cons (ix_s_goto dX11_mostBy_66 (by decide)) <|
  .cons (ix_s_aload_n dX11_mostBy_69 rfl) <|
  .cons (ix_s_getr (j := 0) tu_X11 rfl (by decide) (by decide) tw_875 rfl ts_10_0_r dX11_mostBy_70) <|
  .cons (ix_s_iload_n dX11_mostBy_73 rfl) <|
  .cons (ix_s_iload dX11_mostBy_74) <|
  .cons (ix_s_iast dX11_mostBy_76) <|
  .cons (ix_s_iload dX11_mostBy_77) <|
  .cons (ix_s_iret dX11_mostBy_79 rfl) <| .nil
theorem e_X11_mostBy_0 (Q : ix_R → Prop) (ls : ix_L) (st : List ix_V) (μ : ix_M) : ix_Ev o_X11_mostBy Q (0, ls, st, μ) = ix_aload 0 1 (ix_Ev o_X11_mostBy Q) Q ls st μ := ix_Ev.eq (a_X11_mostBy launch0) rfl ls st μ
theorem e_X11_mostBy_1 (Q : ix_R → Prop) (ls : ix_L) (st : List ix_V) (μ : ix_M) : ix_Ev o_X11_mostBy Q (1, ls, st, μ) = ix_getr 10 20 (fun _ => 113) 4 (ix_Ev o_X11_mostBy Q) Q ls st μ := ix_Ev.eq (a_X11_mostBy launch0) rfl ls st μ
theorem e_X11_mostBy_4 (Q : ix_R → Prop) (ls : ix_L) (st : List ix_V) (μ : ix_M) : ix_Ev o_X11_mostBy Q (4, ls, st, μ) = ix_iload 1 5 (ix_Ev o_X11_mostBy Q) Q ls st μ := ix_Ev.eq (a_X11_mostBy launch0) rfl ls st μ
theorem e_X11_mostBy_5 (Q : ix_R → Prop) (ls : ix_L) (st : List ix_V) (μ : ix_M) : ix_Ev o_X11_mostBy Q (5, ls, st, μ) = ix_iald 6 (ix_Ev o_X11_mostBy Q) Q ls st μ := ix_Ev.eq (a_X11_mostBy launch0) rfl ls st μ
theorem e_X11_mostBy_6 (Q : ix_R → Prop) (ls : ix_L) (st : List ix_V) (μ : ix_M) : ix_Ev o_X11_mostBy Q (6, ls, st, μ) = ix_istore 4 8 (ix_Ev o_X11_mostBy Q) Q ls st μ := ix_Ev.eq (a_X11_mostBy launch0) rfl ls st μ
theorem e_X11_mostBy_8 (Q : ix_R → Prop) (ls : ix_L) (st : List ix_V) (μ : ix_M) : ix_Ev o_X11_mostBy Q (8, ls, st, μ) = ix_push (vi 0) 9 (ix_Ev o_X11_mostBy Q) Q ls st μ := ix_Ev.eq (a_X11_mostBy launch0) rfl ls st μ
theorem e_X11_mostBy_9 (Q : ix_R → Prop) (ls : ix_L) (st : List ix_V) (μ : ix_M) : ix_Ev o_X11_mostBy Q (9, ls, st, μ) = ix_istore 5 11 (ix_Ev o_X11_mostBy Q) Q ls st μ := ix_Ev.eq (a_X11_mostBy launch0) rfl ls st μ
theorem e_X11_mostBy_11 (Q : ix_R → Prop) (ls : ix_L) (st : List ix_V) (μ : ix_M) : ix_Ev o_X11_mostBy Q (11, ls, st, μ) = ix_push (vi (-1)) 12 (ix_Ev o_X11_mostBy Q) Q ls st μ := ix_Ev.eq (a_X11_mostBy launch0) rfl ls st μ
theorem e_X11_mostBy_12 (Q : ix_R → Prop) (ls : ix_L) (st : List ix_V) (μ : ix_M) : ix_Ev o_X11_mostBy Q (12, ls, st, μ) = ix_istore 6 14 (ix_Ev o_X11_mostBy Q) Q ls st μ := ix_Ev.eq (a_X11_mostBy launch0) rfl ls st μ
theorem e_X11_mostBy_14 (Q : ix_R → Prop) (ls : ix_L) (st : List ix_V) (μ : ix_M) : ix_Ev o_X11_mostBy Q (14, ls, st, μ) = ix_push (vi 0) 15 (ix_Ev o_X11_mostBy Q) Q ls st μ := ix_Ev.eq (a_X11_mostBy launch0) rfl ls st μ
theorem e_X11_mostBy_15 (Q : ix_R → Prop) (ls : ix_L) (st : List ix_V) (μ : ix_M) : ix_Ev o_X11_mostBy Q (15, ls, st, μ) = ix_istore 7 17 (ix_Ev o_X11_mostBy Q) Q ls st μ := ix_Ev.eq (a_X11_mostBy launch0) rfl ls st μ
theorem e_X11_mostBy_17 (Q : ix_R → Prop) (ls : ix_L) (st : List ix_V) (μ : ix_M) : ix_Ev o_X11_mostBy Q (17, ls, st, μ) = ix_iload 7 19 (ix_Ev o_X11_mostBy Q) Q ls st μ := ix_Ev.eq (a_X11_mostBy launch0) rfl ls st μ
theorem e_X11_mostBy_19 (Q : ix_R → Prop) (ls : ix_L) (st : List ix_V) (μ : ix_M) : ix_Ev o_X11_mostBy Q (19, ls, st, μ) = ix_iload 2 20 (ix_Ev o_X11_mostBy Q) Q ls st μ := ix_Ev.eq (a_X11_mostBy launch0) rfl ls st μ
theorem e_X11_mostBy_20 (Q : ix_R → Prop) (ls : ix_L) (st : List ix_V) (μ : ix_M) : ix_Ev o_X11_mostBy Q (20, ls, st, μ) = ix_cmp (fun x y => y ≤ x) 69 23 (ix_Ev o_X11_mostBy Q) Q ls st μ := ix_Ev.eq (a_X11_mostBy launch0) rfl ls st μ
theorem e_X11_mostBy_23 (Q : ix_R → Prop) (ls : ix_L) (st : List ix_V) (μ : ix_M) : ix_Ev o_X11_mostBy Q (23, ls, st, μ) = ix_aload 0 24 (ix_Ev o_X11_mostBy Q) Q ls st μ := ix_Ev.eq (a_X11_mostBy launch0) rfl ls st μ
theorem e_X11_mostBy_24 (Q : ix_R → Prop) (ls : ix_L) (st : List ix_V) (μ : ix_M) : ix_Ev o_X11_mostBy Q (24, ls, st, μ) = ix_getr 10 20 (fun _ => 113) 27 (ix_Ev o_X11_mostBy Q) Q ls st μ := ix_Ev.eq (a_X11_mostBy launch0) rfl ls st μ
theorem e_X11_mostBy_27 (Q : ix_R → Prop) (ls : ix_L) (st : List ix_V) (μ : ix_M) : ix_Ev o_X11_mostBy Q (27, ls, st, μ) = ix_iload 1 28 (ix_Ev o_X11_mostBy Q) Q ls st μ := ix_Ev.eq (a_X11_mostBy launch0) rfl ls st μ
theorem e_X11_mostBy_28 (Q : ix_R → Prop) (ls : ix_L) (st : List ix_V) (μ : ix_M) : ix_Ev o_X11_mostBy Q (28, ls, st, μ) = ix_iload 7 30 (ix_Ev o_X11_mostBy Q) Q ls st μ := ix_Ev.eq (a_X11_mostBy launch0) rfl ls st μ
theorem e_X11_mostBy_30 (Q : ix_R → Prop) (ls : ix_L) (st : List ix_V) (μ : ix_M) : ix_Ev o_X11_mostBy Q (30, ls, st, μ) = ix_iast 31 (ix_Ev o_X11_mostBy Q) Q ls st μ := ix_Ev.eq (a_X11_mostBy launch0) rfl ls st μ
theorem e_X11_mostBy_31 (Q : ix_R → Prop) (ls : ix_L) (st : List ix_V) (μ : ix_M) : ix_Ev o_X11_mostBy Q (31, ls, st, μ) = ix_aload 0 32 (ix_Ev o_X11_mostBy Q) Q ls st μ := ix_Ev.eq (a_X11_mostBy launch0) rfl ls st μ
theorem e_X11_mostBy_32 (Q : ix_R → Prop) (ls : ix_L) (st : List ix_V) (μ : ix_M) : ix_Ev o_X11_mostBy Q (32, ls, st, μ) = ix_iload 3 33 (ix_Ev o_X11_mostBy Q) Q ls st μ := ix_Ev.eq (a_X11_mostBy launch0) rfl ls st μ
theorem e_X11_mostBy_33 (Q : ix_R → Prop) (ls : ix_L) (st : List ix_V) (μ : ix_M) : ix_Ev o_X11_mostBy Q (33, ls, st, μ) = oc_X11_hadBehind 36 (ix_Ev o_X11_mostBy Q) Q ls st μ := ix_Ev.eq (a_X11_mostBy launch0) rfl ls st μ
theorem e_X11_mostBy_36 (Q : ix_R → Prop) (ls : ix_L) (st : List ix_V) (μ : ix_M) : ix_Ev o_X11_mostBy Q (36, ls, st, μ) = ix_istore 8 38 (ix_Ev o_X11_mostBy Q) Q ls st μ := ix_Ev.eq (a_X11_mostBy launch0) rfl ls st μ
theorem e_X11_mostBy_38 (Q : ix_R → Prop) (ls : ix_L) (st : List ix_V) (μ : ix_M) : ix_Ev o_X11_mostBy Q (38, ls, st, μ) = ix_iload 8 40 (ix_Ev o_X11_mostBy Q) Q ls st μ := ix_Ev.eq (a_X11_mostBy launch0) rfl ls st μ
theorem e_X11_mostBy_40 (Q : ix_R → Prop) (ls : ix_L) (st : List ix_V) (μ : ix_M) : ix_Ev o_X11_mostBy Q (40, ls, st, μ) = ix_iload 6 42 (ix_Ev o_X11_mostBy Q) Q ls st μ := ix_Ev.eq (a_X11_mostBy launch0) rfl ls st μ
theorem e_X11_mostBy_42 (Q : ix_R → Prop) (ls : ix_L) (st : List ix_V) (μ : ix_M) : ix_Ev o_X11_mostBy Q (42, ls, st, μ) = ix_cmp (fun x y => x ≤ y) 50 45 (ix_Ev o_X11_mostBy Q) Q ls st μ := ix_Ev.eq (a_X11_mostBy launch0) rfl ls st μ
theorem e_X11_mostBy_45 (Q : ix_R → Prop) (ls : ix_L) (st : List ix_V) (μ : ix_M) : ix_Ev o_X11_mostBy Q (45, ls, st, μ) = ix_iload 7 47 (ix_Ev o_X11_mostBy Q) Q ls st μ := ix_Ev.eq (a_X11_mostBy launch0) rfl ls st μ
theorem e_X11_mostBy_47 (Q : ix_R → Prop) (ls : ix_L) (st : List ix_V) (μ : ix_M) : ix_Ev o_X11_mostBy Q (47, ls, st, μ) = ix_goto 52 (ix_Ev o_X11_mostBy Q) Q ls st μ := ix_Ev.eq (a_X11_mostBy launch0) rfl ls st μ
theorem e_X11_mostBy_50 (Q : ix_R → Prop) (ls : ix_L) (st : List ix_V) (μ : ix_M) : ix_Ev o_X11_mostBy Q (50, ls, st, μ) = ix_iload 5 52 (ix_Ev o_X11_mostBy Q) Q ls st μ := ix_Ev.eq (a_X11_mostBy launch0) rfl ls st μ
theorem e_X11_mostBy_52 (Q : ix_R → Prop) (ls : ix_L) (st : List ix_V) (μ : ix_M) : ix_Ev o_X11_mostBy Q (52, ls, st, μ) = ix_istore 5 54 (ix_Ev o_X11_mostBy Q) Q ls st μ := ix_Ev.eq (a_X11_mostBy launch0) rfl ls st μ
theorem e_X11_mostBy_54 (Q : ix_R → Prop) (ls : ix_L) (st : List ix_V) (μ : ix_M) : ix_Ev o_X11_mostBy Q (54, ls, st, μ) = ix_iload 6 56 (ix_Ev o_X11_mostBy Q) Q ls st μ := ix_Ev.eq (a_X11_mostBy launch0) rfl ls st μ
theorem e_X11_mostBy_56 (Q : ix_R → Prop) (ls : ix_L) (st : List ix_V) (μ : ix_M) : ix_Ev o_X11_mostBy Q (56, ls, st, μ) = ix_iload 8 58 (ix_Ev o_X11_mostBy Q) Q ls st μ := ix_Ev.eq (a_X11_mostBy launch0) rfl ls st μ
theorem e_X11_mostBy_58 (Q : ix_R → Prop) (ls : ix_L) (st : List ix_V) (μ : ix_M) : ix_Ev o_X11_mostBy Q (58, ls, st, μ) = ix_math2 (fun x y => if x < y then y else x) 61 (ix_Ev o_X11_mostBy Q) Q ls st μ := ix_Ev.eq (a_X11_mostBy launch0) rfl ls st μ
theorem e_X11_mostBy_61 (Q : ix_R → Prop) (ls : ix_L) (st : List ix_V) (μ : ix_M) : ix_Ev o_X11_mostBy Q (61, ls, st, μ) = ix_istore 6 63 (ix_Ev o_X11_mostBy Q) Q ls st μ := ix_Ev.eq (a_X11_mostBy launch0) rfl ls st μ
theorem e_X11_mostBy_63 (Q : ix_R → Prop) (ls : ix_L) (st : List ix_V) (μ : ix_M) : ix_Ev o_X11_mostBy Q (63, ls, st, μ) = ix_iinc 7 1 66 (ix_Ev o_X11_mostBy Q) Q ls st μ := ix_Ev.eq (a_X11_mostBy launch0) rfl ls st μ
theorem e_X11_mostBy_66 (Q : ix_R → Prop) (ls : ix_L) (st : List ix_V) (μ : ix_M) : ix_Ev o_X11_mostBy Q (66, ls, st, μ) = ix_goto 17 (ix_Ev o_X11_mostBy Q) Q ls st μ := ix_Ev.eq (a_X11_mostBy launch0) rfl ls st μ
theorem e_X11_mostBy_69 (Q : ix_R → Prop) (ls : ix_L) (st : List ix_V) (μ : ix_M) : ix_Ev o_X11_mostBy Q (69, ls, st, μ) = ix_aload 0 70 (ix_Ev o_X11_mostBy Q) Q ls st μ := ix_Ev.eq (a_X11_mostBy launch0) rfl ls st μ
theorem e_X11_mostBy_70 (Q : ix_R → Prop) (ls : ix_L) (st : List ix_V) (μ : ix_M) : ix_Ev o_X11_mostBy Q (70, ls, st, μ) = ix_getr 10 20 (fun _ => 113) 73 (ix_Ev o_X11_mostBy Q) Q ls st μ := ix_Ev.eq (a_X11_mostBy launch0) rfl ls st μ
theorem e_X11_mostBy_73 (Q : ix_R → Prop) (ls : ix_L) (st : List ix_V) (μ : ix_M) : ix_Ev o_X11_mostBy Q (73, ls, st, μ) = ix_iload 1 74 (ix_Ev o_X11_mostBy Q) Q ls st μ := ix_Ev.eq (a_X11_mostBy launch0) rfl ls st μ
theorem e_X11_mostBy_74 (Q : ix_R → Prop) (ls : ix_L) (st : List ix_V) (μ : ix_M) : ix_Ev o_X11_mostBy Q (74, ls, st, μ) = ix_iload 4 76 (ix_Ev o_X11_mostBy Q) Q ls st μ := ix_Ev.eq (a_X11_mostBy launch0) rfl ls st μ
theorem e_X11_mostBy_76 (Q : ix_R → Prop) (ls : ix_L) (st : List ix_V) (μ : ix_M) : ix_Ev o_X11_mostBy Q (76, ls, st, μ) = ix_iast 77 (ix_Ev o_X11_mostBy Q) Q ls st μ := ix_Ev.eq (a_X11_mostBy launch0) rfl ls st μ
theorem e_X11_mostBy_77 (Q : ix_R → Prop) (ls : ix_L) (st : List ix_V) (μ : ix_M) : ix_Ev o_X11_mostBy Q (77, ls, st, μ) = ix_iload 5 79 (ix_Ev o_X11_mostBy Q) Q ls st μ := ix_Ev.eq (a_X11_mostBy launch0) rfl ls st μ
theorem e_X11_mostBy_79 (Q : ix_R → Prop) (ls : ix_L) (st : List ix_V) (μ : ix_M) : ix_Ev o_X11_mostBy Q (79, ls, st, μ) = ix_iret (ix_Ev o_X11_mostBy Q) Q ls st μ := ix_Ev.eq (a_X11_mostBy launch0) rfl ls st μ
theorem l_X11_mostBy {M N C r i A : Nat} {μ : ix_M} {ds dl : List Int32} {Q : ix_R → Prop} (h1 : MW μ M ds dl) (hs : setOk r i C) (hA : A = nvI r i) (hMN : M + N < 30000) (hC : C ≤ 16) (hl : μ 112 5 = -1) {f : Nat → Int32} (hf : f = fun x => pH (pIt ds dl N (setV r i (nI x) (nv (μ 113))))) (hQ : ∀ μ', Fx [113, 115, 119, 120] μ μ' → RE (μ' 113) (μ 113) → Q (some (vi (bstF f C).1), μ')) :
    ∀ (k j : Nat) (μ1 : ix_M) (x8 : Option ix_V), j + k = C → Fx [113, 115, 119, 120] μ μ1 → (∀ q, q < 256 → q ≠ A → μ1 113 q = μ 113 q) → ix_Ev o_X11_mostBy Q (17, [some (vr 10 112), some (vi (nI A)), some (vi (nI C)), some (vi (nI N)), some (vi (μ 113 A)), some (vi (bstF f j).1), some (vi (bstF f j).2), some (vi (nI j)), x8], [], μ1) := by
  have h82 : A < 82 := by rw [hA]; exact nvI_lt hs.1
  have cA : (nI A).toNatClampNeg = A := nI_clamp (by omega)
  have iA : vp_in (nI A) 256 := vp_in_nI (by omega) (by decide)
  intro k
  induction k with
  | zero =>
    intro j μ1 x8 hj hF hr
    have hj : j = C := hj
    subst hj
    have hle : nI j ≤ nI j := Int32.le_refl _
    rw [e_X11_mostBy_17]
    simp (decide := true) only [e_X11_mostBy_0, e_X11_mostBy_1, e_X11_mostBy_4, e_X11_mostBy_5, e_X11_mostBy_6, e_X11_mostBy_8, e_X11_mostBy_9, e_X11_mostBy_11, e_X11_mostBy_12, e_X11_mostBy_14, e_X11_mostBy_15, e_X11_mostBy_19, e_X11_mostBy_20, e_X11_mostBy_23, e_X11_mostBy_24, e_X11_mostBy_27, e_X11_mostBy_28, e_X11_mostBy_30, e_X11_mostBy_31, e_X11_mostBy_32, e_X11_mostBy_33, e_X11_mostBy_36, e_X11_mostBy_38, e_X11_mostBy_40, e_X11_mostBy_42, e_X11_mostBy_45, e_X11_mostBy_47, e_X11_mostBy_50, e_X11_mostBy_52, e_X11_mostBy_54, e_X11_mostBy_56, e_X11_mostBy_58, e_X11_mostBy_61, e_X11_mostBy_63, e_X11_mostBy_66, e_X11_mostBy_69, e_X11_mostBy_70, e_X11_mostBy_73, e_X11_mostBy_74, e_X11_mostBy_76, e_X11_mostBy_77, e_X11_mostBy_79, vi, vl, vr, oc_X11_hadBehind, T_X11_hadBehind, ix_push, ix_iload, ix_lload, ix_aload, ix_istore, ix_astore, ix_iinc, ix_bin, ix_div, ix_un, ix_i2l, ix_l2i, ix_lbin, ix_lsh, ix_lcmp, ix_dup, ix_dup2, ix_pop, ix_if, ix_cmp, ix_goto, ix_switch, ix_sw, ix_iret, ix_zret, ix_vret, ix_aret, ix_geti, ix_getr, ix_puti, ix_putz, ix_puts, ix_gets, ix_iald, ix_iast, ix_alen, ix_aald, ix_gval, ix_gcod, ix_bald, ix_blen, ix_sald, ix_nret, ix_math2, ix_math1, ix_acopy, ml_113, ml_114, ml_115, ml_116, ml_118, ml_119, ml_120, ml_121, ml_122, ml_123, ml_124, ml_125, ml_126, mv_0, mv_1, mv_2, mv_3, mv_4, mv_5, mB_or, Nat.add_assoc, Int32.reduceLT, Int32.reduceLE, Int32.reduceToNatClampNeg, Int32.reduceSub, Int32.reduceAdd, Nat.reduceAdd, Nat.reduceLeDiff, true_or, or_true, or_false, false_or, not_false_eq_true, not_true_eq_false, false_implies, true_implies, implies_true, and_self, mB_0, mB_01, Classical.not_not, Nat.zero_le, List.getElem?_cons_zero, List.getElem?_cons_succ, List.set_cons_zero, List.set_cons_succ, ix_nl, ix_cs, true_and, and_true, Option.toList_some, Option.toList_none, List.cons_append, List.nil_append, hle, cA, iA]
    refine hQ _ (hF.up (by simp)) (fun q hq => ?_)
    rw [ix_up_ap]
    by_cases e : q = A
    · rw [if_pos ⟨rfl, e⟩, e]
    · rw [if_neg (fun z => e z.2)]
      exact hr q hq e
  | succ k ih =>
    intro j μ1 x8 hj hF hr
    have hng : ¬ nI C ≤ nI j := nI_ge (by omega) (by omega)
    have hj1 : nI j + 1 = nI (j + 1) := nI_1 j
    have he : RE (ix_up μ1 113 A (nI j) 113) (upd (μ 113) (nvI r i) (nI j)) := by
      intro q hq
      rw [ix_up_row, ← hA]
      unfold upd
      by_cases e : q = A
      · rw [if_pos e, if_pos e]
      · rw [if_neg e, if_neg e]
        exact hr q hq e
    obtain ⟨g1, g2⟩ := setOk.mw h1 hs (x := j) (by omega) he
    rw [e_X11_mostBy_17]
    simp (decide := true) only [e_X11_mostBy_0, e_X11_mostBy_1, e_X11_mostBy_4, e_X11_mostBy_5, e_X11_mostBy_6, e_X11_mostBy_8, e_X11_mostBy_9, e_X11_mostBy_11, e_X11_mostBy_12, e_X11_mostBy_14, e_X11_mostBy_15, e_X11_mostBy_19, e_X11_mostBy_20, e_X11_mostBy_23, e_X11_mostBy_24, e_X11_mostBy_27, e_X11_mostBy_28, e_X11_mostBy_30, e_X11_mostBy_31, e_X11_mostBy_32, e_X11_mostBy_33, e_X11_mostBy_36, e_X11_mostBy_38, e_X11_mostBy_40, e_X11_mostBy_42, e_X11_mostBy_45, e_X11_mostBy_47, e_X11_mostBy_50, e_X11_mostBy_52, e_X11_mostBy_54, e_X11_mostBy_56, e_X11_mostBy_58, e_X11_mostBy_61, e_X11_mostBy_63, e_X11_mostBy_66, e_X11_mostBy_69, e_X11_mostBy_70, e_X11_mostBy_73, e_X11_mostBy_74, e_X11_mostBy_76, e_X11_mostBy_77, e_X11_mostBy_79, vi, vl, vr, oc_X11_hadBehind, T_X11_hadBehind, ix_push, ix_iload, ix_lload, ix_aload, ix_istore, ix_astore, ix_iinc, ix_bin, ix_div, ix_un, ix_i2l, ix_l2i, ix_lbin, ix_lsh, ix_lcmp, ix_dup, ix_dup2, ix_pop, ix_if, ix_cmp, ix_goto, ix_switch, ix_sw, ix_iret, ix_zret, ix_vret, ix_aret, ix_geti, ix_getr, ix_puti, ix_putz, ix_puts, ix_gets, ix_iald, ix_iast, ix_alen, ix_aald, ix_gval, ix_gcod, ix_bald, ix_blen, ix_sald, ix_nret, ix_math2, ix_math1, ix_acopy, ml_113, ml_114, ml_115, ml_116, ml_118, ml_119, ml_120, ml_121, ml_122, ml_123, ml_124, ml_125, ml_126, mv_0, mv_1, mv_2, mv_3, mv_4, mv_5, mB_or, Nat.add_assoc, Int32.reduceLT, Int32.reduceLE, Int32.reduceToNatClampNeg, Int32.reduceSub, Int32.reduceAdd, Nat.reduceAdd, Nat.reduceLeDiff, true_or, or_true, or_false, false_or, not_false_eq_true, not_true_eq_false, false_implies, true_implies, implies_true, and_self, mB_0, mB_01, Classical.not_not, Nat.zero_le, List.getElem?_cons_zero, List.getElem?_cons_succ, List.set_cons_zero, List.set_cons_succ, ix_nl, ix_cs, true_and, and_true, Option.toList_some, Option.toList_none, List.cons_append, List.nil_append, hng, hj1, cA, iA]
    refine ⟨M, N, ds, dl, g1, rfl, hMN, by rw [ix_up_ne (by decide), hF 112 (by decide)]; exact hl, fun μ' hF' hr' => ?_⟩
    have hval : pH (pIt ds dl N (nv (ix_up μ1 113 A (nI j) 113))) = f j := by rw [g2, hf]
    have hr2 : ∀ q, q < 256 → q ≠ A → μ' 113 q = μ 113 q := fun q hq hne => by
      rw [hr' q hq, ix_up_ap, if_neg (fun z => hne z.2)]
      exact hr q hq hne
    have hF2 : Fx [113, 115, 119, 120] μ μ' := (hF.up (by simp)).tr hF'
    rw [hval]
    have key := ih (j + 1) μ' (some (vi (f j))) (by omega) hF2 hr2
    refine ⟨fun c => ?_, fun c => ?_⟩
    · have e : bstF f (j + 1) = bstF f j := by
        rw [bstF, if_neg (by rw [fa_lt]; rw [fa_le] at c; omega)]
      rw [e] at key
      have e2 : (if (bstF f j).2 < f j then f j else (bstF f j).2) = (bstF f j).2 := if_neg (by rw [fa_lt]; rw [fa_le] at c; omega)
      rw [e2]
      exact key
    · have e : bstF f (j + 1) = (nI j, f j) := by
        rw [bstF, if_pos (by rw [fa_lt]; rw [fa_le] at c; omega)]
      rw [e] at key
      have e2 : (if (bstF f j).2 < f j then f j else (bstF f j).2) = f j := if_pos (by rw [fa_lt]; rw [fa_le] at c; omega)
      rw [e2]
      exact key
theorem r_X11_mostBy (o : Nat) (a : Int32) (ch : Int32) (n : Int32) (μ : ix_M) (Q : ix_R → Prop) (ok_o : o < ix_N ∧ ix_tag o = 10) (hT : T_X11_mostBy (o, a, ch, n) μ Q) : ix_Ev o_X11_mostBy Q (0, [some (vr 10 o), some (vi a), some (vi ch), some (vi n), none, none, none, none, none], [], μ) := by
  obtain rfl := ok_10 o ok_o.1 ok_o.2
  obtain ⟨M, N, C, r, i, ds, dl, h1, h2, rfl, rfl, h5, rfl, h7, h8, hQ⟩ := hT
  have h82 := nvI_lt h2.1
  have cA : (nI (nvI r i)).toNatClampNeg = nvI r i := nI_clamp (by omega)
  have iA : vp_in (nI (nvI r i)) 256 := vp_in_nI (by omega) (by decide)
  simp (decide := true) only [e_X11_mostBy_0, e_X11_mostBy_1, e_X11_mostBy_4, e_X11_mostBy_5, e_X11_mostBy_6, e_X11_mostBy_8, e_X11_mostBy_9, e_X11_mostBy_11, e_X11_mostBy_12, e_X11_mostBy_14, e_X11_mostBy_15, e_X11_mostBy_19, e_X11_mostBy_20, e_X11_mostBy_23, e_X11_mostBy_24, e_X11_mostBy_27, e_X11_mostBy_28, e_X11_mostBy_30, e_X11_mostBy_31, e_X11_mostBy_32, e_X11_mostBy_33, e_X11_mostBy_36, e_X11_mostBy_38, e_X11_mostBy_40, e_X11_mostBy_42, e_X11_mostBy_45, e_X11_mostBy_47, e_X11_mostBy_50, e_X11_mostBy_52, e_X11_mostBy_54, e_X11_mostBy_56, e_X11_mostBy_58, e_X11_mostBy_61, e_X11_mostBy_63, e_X11_mostBy_66, e_X11_mostBy_69, e_X11_mostBy_70, e_X11_mostBy_73, e_X11_mostBy_74, e_X11_mostBy_76, e_X11_mostBy_77, e_X11_mostBy_79, vi, vl, vr, oc_X11_hadBehind, T_X11_hadBehind, ix_push, ix_iload, ix_lload, ix_aload, ix_istore, ix_astore, ix_iinc, ix_bin, ix_div, ix_un, ix_i2l, ix_l2i, ix_lbin, ix_lsh, ix_lcmp, ix_dup, ix_dup2, ix_pop, ix_if, ix_cmp, ix_goto, ix_switch, ix_sw, ix_iret, ix_zret, ix_vret, ix_aret, ix_geti, ix_getr, ix_puti, ix_putz, ix_puts, ix_gets, ix_iald, ix_iast, ix_alen, ix_aald, ix_gval, ix_gcod, ix_bald, ix_blen, ix_sald, ix_nret, ix_math2, ix_math1, ix_acopy, ml_113, ml_114, ml_115, ml_116, ml_118, ml_119, ml_120, ml_121, ml_122, ml_123, ml_124, ml_125, ml_126, mv_0, mv_1, mv_2, mv_3, mv_4, mv_5, mB_or, Nat.add_assoc, Int32.reduceLT, Int32.reduceLE, Int32.reduceToNatClampNeg, Int32.reduceSub, Int32.reduceAdd, Nat.reduceAdd, Nat.reduceLeDiff, true_or, or_true, or_false, false_or, not_false_eq_true, not_true_eq_false, false_implies, true_implies, implies_true, and_self, mB_0, mB_01, Classical.not_not, Nat.zero_le, List.getElem?_cons_zero, List.getElem?_cons_succ, List.set_cons_zero, List.set_cons_succ, ix_nl, ix_cs, true_and, and_true, Option.toList_some, Option.toList_none, List.cons_append, List.nil_append, cA, iA]
  exact l_X11_mostBy h1 h2 rfl h5 h7 h8 rfl hQ C 0 μ none (by omega) Fx.rf (fun _ _ _ => rfl)
theorem k_X11_mostBy (l : Launch) : ix_Ct l yX11_mostBy cX11_mostBy 9 (some .int) 8 sh_X11_mostBy T_X11_mostBy := ix_ct (a_X11_mostBy l) rfl (by decide) (fun _ => Nat.le_of_ble_eq_true rfl) (fun x μ Q hok hT => r_X11_mostBy x.1 x.2.1 x.2.2.1 x.2.2.2 μ Q (ix_ok_at (hok (vr 10 x.1) (by simp [sh_X11_mostBy])) (by decide) (by decide)) hT)
def T_X11_isSoHad : Nat × Int32 → ix_M → (ix_R → Prop) → Prop := fun (_, s) μ Q => ∃ M N S ds dl, MW μ M ds dl ∧ s = nI S ∧ S < 4 ∧ μ 124 S = nI N ∧ N ≤ 40 ∧ M + N < 30000 ∧ μ 112 5 = -1 ∧ ∀ μ', Fx [113, 115, 119, 120] μ μ' → RE (μ' 113) (μ 113) → Q (some (vi (mB (fUn ds dl (fun j => μ 125 (40 * S + j)) N 0 (nv (μ 113)) = -1))), μ')
def sh_X11_isSoHad (x : Nat × Int32) : List ix_V := [vr 10 x.1, vi x.2]
theorem mo_X11_isSoHad (x : Nat × Int32) (μ : ix_M) (Q Q' : ix_R → Prop) (h : ∀ r, Q r → Q' r) (hT : T_X11_isSoHad x μ Q) : T_X11_isSoHad x μ Q' := by
  obtain ⟨a0, a1⟩ := x
  (obtain ⟨M, N, S, ds, dl, h1, h2, h3, h4, h5, h6, h7, h8⟩ := hT; exact ⟨M, N, S, ds, dl, h1, h2, h3, h4, h5, h6, h7, fun μ' z z2 => h _ (h8 μ' z z2)⟩)
def oc_X11_isSoHad (n : Nat) : ix_Op := fun k _ ls st μ => match st with
  | .inl a1 :: .inr (.inr (t0, a0)) :: r => t0 = 10 ∧ ix_cs r ≤ 8 ∧ T_X11_isSoHad (a0, a1) μ (fun q => k (n, ls, q.1.toList ++ r, q.2))
  | _ => False
theorem oc_X11_isSoHad_s {l : Launch} {cc : ByteArray} {nL : Nat} {own : String} {d : Nat} {rt : Option FieldType} {pc n : Nat} (h : ix_S l cc nL own d rt pc (ix_call 2 sh_X11_isSoHad T_X11_isSoHad n)) : ix_S l cc nL own d rt pc (oc_X11_isSoHad n) := by
  refine h.by (fun k Q ls st μ h => ?_) (fun k k' Q ls st μ hk h => ?_)
  · unfold oc_X11_isSoHad at h
    split at h
    · rename_i a1 t0 a0 r
      obtain ⟨rfl, h1, h2⟩ := h
      exact ⟨h1, (a0, a1), rfl, _, h2, fun r h => h⟩
    · exact h.elim
  · unfold oc_X11_isSoHad at h ⊢
    split at h
    · obtain ⟨rfl, h1, h2⟩ := h
      exact ⟨rfl, h1, mo_X11_isSoHad _ _ _ _ (fun q hq => hk _ hq) h2⟩
    · exact h.elim
def o_X11_isSoHad : List (Nat × ix_Op) := [
  (0, ix_aload 0 1),
  (1, ix_getr 10 20 (fun _ => 113) 4),
  (4, ix_aload 0 5),
  (5, ix_getr 10 20 (fun _ => 115) 8),
  (8, oc_X11_copy 11),
  (11, ix_push (vi 1) 12),
  (12, ix_istore 2 13),
  (13, ix_push (vi 0) 14),
  (14, ix_istore 3 15),
  (15, ix_iload 3 16),
  (16, ix_aload 0 17),
  (17, ix_getr 10 20 (fun _ => 124) 20),
  (20, ix_iload 1 21),
  (21, ix_iald 22),
  (22, ix_cmp (fun x y => y ≤ x) 63 25),
  (25, ix_iload 2 26),
  (26, ix_if (fun x => x = 0) 63 29),
  (29, ix_aload 0 30),
  (30, oc_X11_minute 33),
  (33, ix_aload 0 34),
  (34, ix_getr 10 20 (fun _ => 125) 37),
  (37, ix_push (vi 40) 39),
  (39, ix_iload 1 40),
  (40, ix_bin (fun x y => x * y) 41),
  (41, ix_iload 3 42),
  (42, ix_bin (fun x y => x + y) 43),
  (43, ix_iald 44),
  (44, ix_aload 0 45),
  (45, oc_X11_had 48),
  (48, ix_cmp (fun x y => x = y) 51 55),
  (51, ix_push (vi 1) 52),
  (52, ix_goto 56),
  (55, ix_push (vi 0) 56),
  (56, ix_istore 2 57),
  (57, ix_iinc 3 1 60),
  (60, ix_goto 15),
  (63, ix_aload 0 64),
  (64, ix_getr 10 20 (fun _ => 115) 67),
  (67, ix_aload 0 68),
  (68, ix_getr 10 20 (fun _ => 113) 71),
  (71, oc_X11_copy 74),
  (74, ix_iload 2 75),
  (75, ix_zret)]
set_option maxRecDepth 20000 in
theorem a_X11_isSoHad (l : Launch) : ix_AllS l cX11_isSoHad 4 RX11 7 (some .boolean) o_X11_isSoHad :=
  .cons (ix_s_aload_n dX11_isSoHad_0 rfl) <|
  .cons (ix_s_getr (j := 0) tu_X11 rfl (by decide) (by decide) tw_875 rfl ts_10_0_r dX11_isSoHad_1) <|
  .cons (ix_s_aload_n dX11_isSoHad_4 rfl) <|
  .cons (ix_s_getr (j := 2) tu_X11 rfl (by decide) (by decide) tw_877 rfl ts_10_2_r dX11_isSoHad_5) <|
  .cons (oc_X11_copy_s (ix_s_calls (k_X11_copy l) (by decide) (by decide) tw_1221 tw_12 tw_1219 tw_1220 ⟨by decide, by decide, by decide +kernel⟩ (fun _ => rfl) dX11_isSoHad_8)) <|
  .cons (ix_s_iconst dX11_isSoHad_11 (by decide +kernel)) <|
  .cons (ix_s_istore_n dX11_isSoHad_12 rfl (by decide)) <|
  .cons (ix_s_iconst dX11_isSoHad_13 (by decide +kernel)) <|
  .cons (ix_s_istore_n dX11_isSoHad_14 rfl (by decide)) <|
  .cons (ix_s_iload_n dX11_isSoHad_15 rfl) <|
  .cons (ix_s_aload_n dX11_isSoHad_16 rfl) <|
  .cons (ix_s_getr (j := 23) tu_X11 rfl (by decide) (by decide) tw_898 rfl ts_10_23_r dX11_isSoHad_17) <|
  .cons (ix_s_iload_n dX11_isSoHad_20 rfl) <|
  .cons (ix_s_iald dX11_isSoHad_21) <|
  .cons (ix_s_cmp_ge dX11_isSoHad_22 (by decide)) <|
  .cons (ix_s_iload_n dX11_isSoHad_25 rfl) <|
  .cons (ix_s_if_eq dX11_isSoHad_26 (by decide)) <|
  .cons (ix_s_aload_n dX11_isSoHad_29 rfl) <|
  .cons (oc_X11_minute_s (ix_s_callv (t := 10) (k_X11_minute l) (by decide) (by decide) tw_1191 tw_12 tw_1188 tw_1190 tp_45 ⟨by decide, by decide, by decide +kernel⟩ (by decide) rfl rfl (fun _ => ⟨_, _, rfl, rfl⟩) dX11_isSoHad_30)) <|
  .cons (ix_s_aload_n dX11_isSoHad_33 rfl) <|
  .cons (ix_s_getr (j := 24) tu_X11 rfl (by decide) (by decide) tw_899 rfl ts_10_24_r dX11_isSoHad_34) <|
  .cons (ix_s_bipush dX11_isSoHad_37 (by decide +kernel)) <|
  .cons (ix_s_iload_n dX11_isSoHad_39 rfl) <|
  .cons (ix_s_imul dX11_isSoHad_40) <|
  .cons (ix_s_iload_n dX11_isSoHad_41 rfl) <|
  .cons (ix_s_iadd dX11_isSoHad_42) <|
  .cons (ix_s_iald dX11_isSoHad_43) <|
  .cons (ix_s_aload_n dX11_isSoHad_44 rfl) <|
  .cons (oc_X11_had_s (ix_s_callv (t := 10) (k_X11_had l) (by decide) (by decide) tw_1202 tw_12 tw_1199 tw_1201 tp_47 ⟨by decide, by decide, by decide +kernel⟩ (by decide) rfl rfl (fun _ => ⟨_, _, rfl, rfl⟩) dX11_isSoHad_45)) <|
  .cons (ix_s_cmp_ne dX11_isSoHad_48 (by decide)) <|
  .cons (ix_s_iconst dX11_isSoHad_51 (by decide +kernel)) <|
  .cons (ix_s_goto dX11_isSoHad_52 (by decide)) <|
  .cons (ix_s_iconst dX11_isSoHad_55 (by decide +kernel)) <|
  .cons (ix_s_istore_n dX11_isSoHad_56 rfl (by decide)) <|
  .cons (ix_s_iinc dX11_isSoHad_57 (by decide +kernel) (by decide)) <|
  .cons (ix_s_goto dX11_isSoHad_60 (by decide)) <|
  .cons (ix_s_aload_n dX11_isSoHad_63 rfl) <|
  .cons (ix_s_getr (j := 2) tu_X11 rfl (by decide) (by decide) tw_877 rfl ts_10_2_r dX11_isSoHad_64) <|
  .cons (ix_s_aload_n dX11_isSoHad_67 rfl) <|
  .cons (ix_s_getr (j := 0) tu_X11 rfl (by decide) (by decide) tw_875 rfl ts_10_0_r dX11_isSoHad_68) <|
  .cons (oc_X11_copy_s (ix_s_calls (k_X11_copy l) (by decide) (by decide) tw_1221 tw_12 tw_1219 tw_1220 ⟨by decide, by decide, by decide +kernel⟩ (fun _ => rfl) dX11_isSoHad_71)) <|
  .cons (ix_s_iload_n dX11_isSoHad_74 rfl) <|
  .cons (ix_s_zret dX11_isSoHad_75 rfl) <| .nil
theorem e_X11_isSoHad_0 (Q : ix_R → Prop) (ls : ix_L) (st : List ix_V) (μ : ix_M) : ix_Ev o_X11_isSoHad Q (0, ls, st, μ) = ix_aload 0 1 (ix_Ev o_X11_isSoHad Q) Q ls st μ := ix_Ev.eq (a_X11_isSoHad launch0) rfl ls st μ
theorem e_X11_isSoHad_1 (Q : ix_R → Prop) (ls : ix_L) (st : List ix_V) (μ : ix_M) : ix_Ev o_X11_isSoHad Q (1, ls, st, μ) = ix_getr 10 20 (fun _ => 113) 4 (ix_Ev o_X11_isSoHad Q) Q ls st μ := ix_Ev.eq (a_X11_isSoHad launch0) rfl ls st μ
theorem e_X11_isSoHad_4 (Q : ix_R → Prop) (ls : ix_L) (st : List ix_V) (μ : ix_M) : ix_Ev o_X11_isSoHad Q (4, ls, st, μ) = ix_aload 0 5 (ix_Ev o_X11_isSoHad Q) Q ls st μ := ix_Ev.eq (a_X11_isSoHad launch0) rfl ls st μ
theorem e_X11_isSoHad_5 (Q : ix_R → Prop) (ls : ix_L) (st : List ix_V) (μ : ix_M) : ix_Ev o_X11_isSoHad Q (5, ls, st, μ) = ix_getr 10 20 (fun _ => 115) 8 (ix_Ev o_X11_isSoHad Q) Q ls st μ := ix_Ev.eq (a_X11_isSoHad launch0) rfl ls st μ
theorem e_X11_isSoHad_8 (Q : ix_R → Prop) (ls : ix_L) (st : List ix_V) (μ : ix_M) : ix_Ev o_X11_isSoHad Q (8, ls, st, μ) = oc_X11_copy 11 (ix_Ev o_X11_isSoHad Q) Q ls st μ := ix_Ev.eq (a_X11_isSoHad launch0) rfl ls st μ
theorem e_X11_isSoHad_11 (Q : ix_R → Prop) (ls : ix_L) (st : List ix_V) (μ : ix_M) : ix_Ev o_X11_isSoHad Q (11, ls, st, μ) = ix_push (vi 1) 12 (ix_Ev o_X11_isSoHad Q) Q ls st μ := ix_Ev.eq (a_X11_isSoHad launch0) rfl ls st μ
theorem e_X11_isSoHad_12 (Q : ix_R → Prop) (ls : ix_L) (st : List ix_V) (μ : ix_M) : ix_Ev o_X11_isSoHad Q (12, ls, st, μ) = ix_istore 2 13 (ix_Ev o_X11_isSoHad Q) Q ls st μ := ix_Ev.eq (a_X11_isSoHad launch0) rfl ls st μ
theorem e_X11_isSoHad_13 (Q : ix_R → Prop) (ls : ix_L) (st : List ix_V) (μ : ix_M) : ix_Ev o_X11_isSoHad Q (13, ls, st, μ) = ix_push (vi 0) 14 (ix_Ev o_X11_isSoHad Q) Q ls st μ := ix_Ev.eq (a_X11_isSoHad launch0) rfl ls st μ
theorem e_X11_isSoHad_14 (Q : ix_R → Prop) (ls : ix_L) (st : List ix_V) (μ : ix_M) : ix_Ev o_X11_isSoHad Q (14, ls, st, μ) = ix_istore 3 15 (ix_Ev o_X11_isSoHad Q) Q ls st μ := ix_Ev.eq (a_X11_isSoHad launch0) rfl ls st μ
theorem e_X11_isSoHad_15 (Q : ix_R → Prop) (ls : ix_L) (st : List ix_V) (μ : ix_M) : ix_Ev o_X11_isSoHad Q (15, ls, st, μ) = ix_iload 3 16 (ix_Ev o_X11_isSoHad Q) Q ls st μ := ix_Ev.eq (a_X11_isSoHad launch0) rfl ls st μ
theorem e_X11_isSoHad_16 (Q : ix_R → Prop) (ls : ix_L) (st : List ix_V) (μ : ix_M) : ix_Ev o_X11_isSoHad Q (16, ls, st, μ) = ix_aload 0 17 (ix_Ev o_X11_isSoHad Q) Q ls st μ := ix_Ev.eq (a_X11_isSoHad launch0) rfl ls st μ
theorem e_X11_isSoHad_17 (Q : ix_R → Prop) (ls : ix_L) (st : List ix_V) (μ : ix_M) : ix_Ev o_X11_isSoHad Q (17, ls, st, μ) = ix_getr 10 20 (fun _ => 124) 20 (ix_Ev o_X11_isSoHad Q) Q ls st μ := ix_Ev.eq (a_X11_isSoHad launch0) rfl ls st μ
theorem e_X11_isSoHad_20 (Q : ix_R → Prop) (ls : ix_L) (st : List ix_V) (μ : ix_M) : ix_Ev o_X11_isSoHad Q (20, ls, st, μ) = ix_iload 1 21 (ix_Ev o_X11_isSoHad Q) Q ls st μ := ix_Ev.eq (a_X11_isSoHad launch0) rfl ls st μ
theorem e_X11_isSoHad_21 (Q : ix_R → Prop) (ls : ix_L) (st : List ix_V) (μ : ix_M) : ix_Ev o_X11_isSoHad Q (21, ls, st, μ) = ix_iald 22 (ix_Ev o_X11_isSoHad Q) Q ls st μ := ix_Ev.eq (a_X11_isSoHad launch0) rfl ls st μ
theorem e_X11_isSoHad_22 (Q : ix_R → Prop) (ls : ix_L) (st : List ix_V) (μ : ix_M) : ix_Ev o_X11_isSoHad Q (22, ls, st, μ) = ix_cmp (fun x y => y ≤ x) 63 25 (ix_Ev o_X11_isSoHad Q) Q ls st μ := ix_Ev.eq (a_X11_isSoHad launch0) rfl ls st μ
theorem e_X11_isSoHad_25 (Q : ix_R → Prop) (ls : ix_L) (st : List ix_V) (μ : ix_M) : ix_Ev o_X11_isSoHad Q (25, ls, st, μ) = ix_iload 2 26 (ix_Ev o_X11_isSoHad Q) Q ls st μ := ix_Ev.eq (a_X11_isSoHad launch0) rfl ls st μ
theorem e_X11_isSoHad_26 (Q : ix_R → Prop) (ls : ix_L) (st : List ix_V) (μ : ix_M) : ix_Ev o_X11_isSoHad Q (26, ls, st, μ) = ix_if (fun x => x = 0) 63 29 (ix_Ev o_X11_isSoHad Q) Q ls st μ := ix_Ev.eq (a_X11_isSoHad launch0) rfl ls st μ
theorem e_X11_isSoHad_29 (Q : ix_R → Prop) (ls : ix_L) (st : List ix_V) (μ : ix_M) : ix_Ev o_X11_isSoHad Q (29, ls, st, μ) = ix_aload 0 30 (ix_Ev o_X11_isSoHad Q) Q ls st μ := ix_Ev.eq (a_X11_isSoHad launch0) rfl ls st μ
theorem e_X11_isSoHad_30 (Q : ix_R → Prop) (ls : ix_L) (st : List ix_V) (μ : ix_M) : ix_Ev o_X11_isSoHad Q (30, ls, st, μ) = oc_X11_minute 33 (ix_Ev o_X11_isSoHad Q) Q ls st μ := ix_Ev.eq (a_X11_isSoHad launch0) rfl ls st μ
theorem e_X11_isSoHad_33 (Q : ix_R → Prop) (ls : ix_L) (st : List ix_V) (μ : ix_M) : ix_Ev o_X11_isSoHad Q (33, ls, st, μ) = ix_aload 0 34 (ix_Ev o_X11_isSoHad Q) Q ls st μ := ix_Ev.eq (a_X11_isSoHad launch0) rfl ls st μ
theorem e_X11_isSoHad_34 (Q : ix_R → Prop) (ls : ix_L) (st : List ix_V) (μ : ix_M) : ix_Ev o_X11_isSoHad Q (34, ls, st, μ) = ix_getr 10 20 (fun _ => 125) 37 (ix_Ev o_X11_isSoHad Q) Q ls st μ := ix_Ev.eq (a_X11_isSoHad launch0) rfl ls st μ
theorem e_X11_isSoHad_37 (Q : ix_R → Prop) (ls : ix_L) (st : List ix_V) (μ : ix_M) : ix_Ev o_X11_isSoHad Q (37, ls, st, μ) = ix_push (vi 40) 39 (ix_Ev o_X11_isSoHad Q) Q ls st μ := ix_Ev.eq (a_X11_isSoHad launch0) rfl ls st μ
theorem e_X11_isSoHad_39 (Q : ix_R → Prop) (ls : ix_L) (st : List ix_V) (μ : ix_M) : ix_Ev o_X11_isSoHad Q (39, ls, st, μ) = ix_iload 1 40 (ix_Ev o_X11_isSoHad Q) Q ls st μ := ix_Ev.eq (a_X11_isSoHad launch0) rfl ls st μ
theorem e_X11_isSoHad_40 (Q : ix_R → Prop) (ls : ix_L) (st : List ix_V) (μ : ix_M) : ix_Ev o_X11_isSoHad Q (40, ls, st, μ) = ix_bin (fun x y => x * y) 41 (ix_Ev o_X11_isSoHad Q) Q ls st μ := ix_Ev.eq (a_X11_isSoHad launch0) rfl ls st μ
theorem e_X11_isSoHad_41 (Q : ix_R → Prop) (ls : ix_L) (st : List ix_V) (μ : ix_M) : ix_Ev o_X11_isSoHad Q (41, ls, st, μ) = ix_iload 3 42 (ix_Ev o_X11_isSoHad Q) Q ls st μ := ix_Ev.eq (a_X11_isSoHad launch0) rfl ls st μ
theorem e_X11_isSoHad_42 (Q : ix_R → Prop) (ls : ix_L) (st : List ix_V) (μ : ix_M) : ix_Ev o_X11_isSoHad Q (42, ls, st, μ) = ix_bin (fun x y => x + y) 43 (ix_Ev o_X11_isSoHad Q) Q ls st μ := ix_Ev.eq (a_X11_isSoHad launch0) rfl ls st μ
theorem e_X11_isSoHad_43 (Q : ix_R → Prop) (ls : ix_L) (st : List ix_V) (μ : ix_M) : ix_Ev o_X11_isSoHad Q (43, ls, st, μ) = ix_iald 44 (ix_Ev o_X11_isSoHad Q) Q ls st μ := ix_Ev.eq (a_X11_isSoHad launch0) rfl ls st μ
theorem e_X11_isSoHad_44 (Q : ix_R → Prop) (ls : ix_L) (st : List ix_V) (μ : ix_M) : ix_Ev o_X11_isSoHad Q (44, ls, st, μ) = ix_aload 0 45 (ix_Ev o_X11_isSoHad Q) Q ls st μ := ix_Ev.eq (a_X11_isSoHad launch0) rfl ls st μ
theorem e_X11_isSoHad_45 (Q : ix_R → Prop) (ls : ix_L) (st : List ix_V) (μ : ix_M) : ix_Ev o_X11_isSoHad Q (45, ls, st, μ) = oc_X11_had 48 (ix_Ev o_X11_isSoHad Q) Q ls st μ := ix_Ev.eq (a_X11_isSoHad launch0) rfl ls st μ
theorem e_X11_isSoHad_48 (Q : ix_R → Prop) (ls : ix_L) (st : List ix_V) (μ : ix_M) : ix_Ev o_X11_isSoHad Q (48, ls, st, μ) = ix_cmp (fun x y => x = y) 51 55 (ix_Ev o_X11_isSoHad Q) Q ls st μ := ix_Ev.eq (a_X11_isSoHad launch0) rfl ls st μ
theorem e_X11_isSoHad_51 (Q : ix_R → Prop) (ls : ix_L) (st : List ix_V) (μ : ix_M) : ix_Ev o_X11_isSoHad Q (51, ls, st, μ) = ix_push (vi 1) 52 (ix_Ev o_X11_isSoHad Q) Q ls st μ := ix_Ev.eq (a_X11_isSoHad launch0) rfl ls st μ
theorem e_X11_isSoHad_52 (Q : ix_R → Prop) (ls : ix_L) (st : List ix_V) (μ : ix_M) : ix_Ev o_X11_isSoHad Q (52, ls, st, μ) = ix_goto 56 (ix_Ev o_X11_isSoHad Q) Q ls st μ := ix_Ev.eq (a_X11_isSoHad launch0) rfl ls st μ
theorem e_X11_isSoHad_55 (Q : ix_R → Prop) (ls : ix_L) (st : List ix_V) (μ : ix_M) : ix_Ev o_X11_isSoHad Q (55, ls, st, μ) = ix_push (vi 0) 56 (ix_Ev o_X11_isSoHad Q) Q ls st μ := ix_Ev.eq (a_X11_isSoHad launch0) rfl ls st μ
theorem e_X11_isSoHad_56 (Q : ix_R → Prop) (ls : ix_L) (st : List ix_V) (μ : ix_M) : ix_Ev o_X11_isSoHad Q (56, ls, st, μ) = ix_istore 2 57 (ix_Ev o_X11_isSoHad Q) Q ls st μ := ix_Ev.eq (a_X11_isSoHad launch0) rfl ls st μ
theorem e_X11_isSoHad_57 (Q : ix_R → Prop) (ls : ix_L) (st : List ix_V) (μ : ix_M) : ix_Ev o_X11_isSoHad Q (57, ls, st, μ) = ix_iinc 3 1 60 (ix_Ev o_X11_isSoHad Q) Q ls st μ := ix_Ev.eq (a_X11_isSoHad launch0) rfl ls st μ
theorem e_X11_isSoHad_60 (Q : ix_R → Prop) (ls : ix_L) (st : List ix_V) (μ : ix_M) : ix_Ev o_X11_isSoHad Q (60, ls, st, μ) = ix_goto 15 (ix_Ev o_X11_isSoHad Q) Q ls st μ := ix_Ev.eq (a_X11_isSoHad launch0) rfl ls st μ
theorem e_X11_isSoHad_63 (Q : ix_R → Prop) (ls : ix_L) (st : List ix_V) (μ : ix_M) : ix_Ev o_X11_isSoHad Q (63, ls, st, μ) = ix_aload 0 64 (ix_Ev o_X11_isSoHad Q) Q ls st μ := ix_Ev.eq (a_X11_isSoHad launch0) rfl ls st μ
theorem e_X11_isSoHad_64 (Q : ix_R → Prop) (ls : ix_L) (st : List ix_V) (μ : ix_M) : ix_Ev o_X11_isSoHad Q (64, ls, st, μ) = ix_getr 10 20 (fun _ => 115) 67 (ix_Ev o_X11_isSoHad Q) Q ls st μ := ix_Ev.eq (a_X11_isSoHad launch0) rfl ls st μ
theorem e_X11_isSoHad_67 (Q : ix_R → Prop) (ls : ix_L) (st : List ix_V) (μ : ix_M) : ix_Ev o_X11_isSoHad Q (67, ls, st, μ) = ix_aload 0 68 (ix_Ev o_X11_isSoHad Q) Q ls st μ := ix_Ev.eq (a_X11_isSoHad launch0) rfl ls st μ
theorem e_X11_isSoHad_68 (Q : ix_R → Prop) (ls : ix_L) (st : List ix_V) (μ : ix_M) : ix_Ev o_X11_isSoHad Q (68, ls, st, μ) = ix_getr 10 20 (fun _ => 113) 71 (ix_Ev o_X11_isSoHad Q) Q ls st μ := ix_Ev.eq (a_X11_isSoHad launch0) rfl ls st μ
theorem e_X11_isSoHad_71 (Q : ix_R → Prop) (ls : ix_L) (st : List ix_V) (μ : ix_M) : ix_Ev o_X11_isSoHad Q (71, ls, st, μ) = oc_X11_copy 74 (ix_Ev o_X11_isSoHad Q) Q ls st μ := ix_Ev.eq (a_X11_isSoHad launch0) rfl ls st μ
theorem e_X11_isSoHad_74 (Q : ix_R → Prop) (ls : ix_L) (st : List ix_V) (μ : ix_M) : ix_Ev o_X11_isSoHad Q (74, ls, st, μ) = ix_iload 2 75 (ix_Ev o_X11_isSoHad Q) Q ls st μ := ix_Ev.eq (a_X11_isSoHad launch0) rfl ls st μ
theorem e_X11_isSoHad_75 (Q : ix_R → Prop) (ls : ix_L) (st : List ix_V) (μ : ix_M) : ix_Ev o_X11_isSoHad Q (75, ls, st, μ) = ix_zret (ix_Ev o_X11_isSoHad Q) Q ls st μ := ix_Ev.eq (a_X11_isSoHad launch0) rfl ls st μ
theorem fUn_ne {ds dl : List Int32} {f : Nat → Int32} (i : Nat) (h : i < 100) : ¬ nI i = -1 := by
  intro z
  exact absurd z (fun z => absurd (nI_pos (n := i) (by omega)) (by rw [z]; decide))
theorem l_X11_isSoHad {M N S : Nat} {μ : ix_M} {ds dl : List Int32} {Q : ix_R → Prop} {g : Nat → Int32} (hg : g = fun j => μ 125 (40 * S + j)) (hS : S < 4) (hN : N ≤ 40) (hsz : μ 124 S = nI N) (hMN : M + N < 30000) (hl : μ 112 5 = -1) {V : Int32} (hQ : ∀ μ', Fx [113, 115, 119, 120] μ μ' → RE (μ' 113) (μ 113) → Q (some (vi (mB (V = -1))), μ')) :
    ∀ (k i : Nat) (μ1 : ix_M), i + k = N → Fx [113, 115, 119, 120] μ μ1 → RE (μ1 115) (μ 113) → MW μ1 (M + i) ds dl → fUn ds dl g k i (nv (μ1 113)) = V → ix_Ev o_X11_isSoHad Q (15, [some (vr 10 112), some (vi (nI S)), some (vi 1), some (vi (nI i))], [], μ1) := by
  have cS : (nI S).toNatClampNeg = S := nI_clamp (by omega)
  have iS : vp_in (nI S) 4 := vp_in_nI hS (by decide)
  have ex : ∀ (b : Int32) (μ1 : ix_M), Fx [113, 115, 119, 120] μ μ1 → RE (μ1 115) (μ 113) → b = mB (V = -1) → ∀ μ', Fx [113] μ1 μ' → (∀ k, k < 256 → μ' 113 k = μ1 115 k) → Q (some (vi b), μ') := by
    intro b μ1 hF hR hb μ' hF' hR'
    rw [hb]
    exact hQ μ' (hF.tr (hF'.mono (by simp))) (fun j hj => (hR' j hj).trans (hR j hj))
  intro k
  induction k with
  | zero =>
    intro i μ1 hi hF hR hW hV
    have hi : i = N := hi
    subst hi
    have hle : nI i ≤ nI i := Int32.le_refl _
    have e1 : μ1 124 S = nI i := by rw [hF 124 (by decide)]; exact hsz
    rw [e_X11_isSoHad_15]
    simp (decide := true) only [e_X11_isSoHad_0, e_X11_isSoHad_1, e_X11_isSoHad_4, e_X11_isSoHad_5, e_X11_isSoHad_8, e_X11_isSoHad_11, e_X11_isSoHad_12, e_X11_isSoHad_13, e_X11_isSoHad_14, e_X11_isSoHad_16, e_X11_isSoHad_17, e_X11_isSoHad_20, e_X11_isSoHad_21, e_X11_isSoHad_22, e_X11_isSoHad_25, e_X11_isSoHad_26, e_X11_isSoHad_29, e_X11_isSoHad_30, e_X11_isSoHad_33, e_X11_isSoHad_34, e_X11_isSoHad_37, e_X11_isSoHad_39, e_X11_isSoHad_40, e_X11_isSoHad_41, e_X11_isSoHad_42, e_X11_isSoHad_43, e_X11_isSoHad_44, e_X11_isSoHad_45, e_X11_isSoHad_48, e_X11_isSoHad_51, e_X11_isSoHad_52, e_X11_isSoHad_55, e_X11_isSoHad_56, e_X11_isSoHad_57, e_X11_isSoHad_60, e_X11_isSoHad_63, e_X11_isSoHad_64, e_X11_isSoHad_67, e_X11_isSoHad_68, e_X11_isSoHad_71, e_X11_isSoHad_74, e_X11_isSoHad_75, vi, vl, vr, oc_X11_copy, T_X11_copy, oc_X11_had, T_X11_had, oc_X11_minute, T_X11_minute, ix_push, ix_iload, ix_lload, ix_aload, ix_istore, ix_astore, ix_iinc, ix_bin, ix_div, ix_un, ix_i2l, ix_l2i, ix_lbin, ix_lsh, ix_lcmp, ix_dup, ix_dup2, ix_pop, ix_if, ix_cmp, ix_goto, ix_switch, ix_sw, ix_iret, ix_zret, ix_vret, ix_aret, ix_geti, ix_getr, ix_puti, ix_putz, ix_puts, ix_gets, ix_iald, ix_iast, ix_alen, ix_aald, ix_gval, ix_gcod, ix_bald, ix_blen, ix_sald, ix_nret, ix_math2, ix_math1, ix_acopy, ml_113, ml_114, ml_115, ml_116, ml_118, ml_119, ml_120, ml_121, ml_122, ml_123, ml_124, ml_125, ml_126, mv_0, mv_1, mv_2, mv_3, mv_4, mv_5, mB_or, Nat.add_assoc, Int32.reduceLT, Int32.reduceLE, Int32.reduceToNatClampNeg, Int32.reduceSub, Int32.reduceAdd, Nat.reduceAdd, Nat.reduceLeDiff, true_or, or_true, or_false, false_or, not_false_eq_true, not_true_eq_false, false_implies, true_implies, implies_true, and_self, mB_0, mB_01, Classical.not_not, Nat.zero_le, List.getElem?_cons_zero, List.getElem?_cons_succ, List.set_cons_zero, List.set_cons_succ, ix_nl, ix_cs, true_and, and_true, Option.toList_some, Option.toList_none, List.cons_append, List.nil_append, cS, iS, e1, hle]
    have hV : V = -1 := hV.symm
    exact ex 1 μ1 hF hR (by rw [mB, if_pos hV])
  | succ k ih =>
    intro i μ1 hi hF hR hW hV
    have hng : ¬ nI N ≤ nI i := nI_ge (by omega) (by omega)
    have e1 : μ1 124 S = nI N := by rw [hF 124 (by decide)]; exact hsz
    have hi1 : nI i + 1 = nI (i + 1) := nI_1 i
    have h40 : 40 * nI S + nI i = nI (40 * S + i) := by rw [fa_lit 40, show nI 40 * nI S = nI (40 * S) from (Int32.ofNat_mul 40 S).symm, nI_add]
    have c40 : (nI (40 * S + i)).toNatClampNeg = 40 * S + i := nI_clamp (by omega)
    have i40 : vp_in (nI (40 * S + i)) 160 := vp_in_nI (by omega) (by decide)
    rw [e_X11_isSoHad_15]
    simp (decide := true) only [e_X11_isSoHad_0, e_X11_isSoHad_1, e_X11_isSoHad_4, e_X11_isSoHad_5, e_X11_isSoHad_8, e_X11_isSoHad_11, e_X11_isSoHad_12, e_X11_isSoHad_13, e_X11_isSoHad_14, e_X11_isSoHad_16, e_X11_isSoHad_17, e_X11_isSoHad_20, e_X11_isSoHad_21, e_X11_isSoHad_22, e_X11_isSoHad_25, e_X11_isSoHad_26, e_X11_isSoHad_29, e_X11_isSoHad_30, e_X11_isSoHad_33, e_X11_isSoHad_34, e_X11_isSoHad_37, e_X11_isSoHad_39, e_X11_isSoHad_40, e_X11_isSoHad_41, e_X11_isSoHad_42, e_X11_isSoHad_43, e_X11_isSoHad_44, e_X11_isSoHad_45, e_X11_isSoHad_48, e_X11_isSoHad_51, e_X11_isSoHad_52, e_X11_isSoHad_55, e_X11_isSoHad_56, e_X11_isSoHad_57, e_X11_isSoHad_60, e_X11_isSoHad_63, e_X11_isSoHad_64, e_X11_isSoHad_67, e_X11_isSoHad_68, e_X11_isSoHad_71, e_X11_isSoHad_74, e_X11_isSoHad_75, vi, vl, vr, oc_X11_copy, T_X11_copy, oc_X11_had, T_X11_had, oc_X11_minute, T_X11_minute, ix_push, ix_iload, ix_lload, ix_aload, ix_istore, ix_astore, ix_iinc, ix_bin, ix_div, ix_un, ix_i2l, ix_l2i, ix_lbin, ix_lsh, ix_lcmp, ix_dup, ix_dup2, ix_pop, ix_if, ix_cmp, ix_goto, ix_switch, ix_sw, ix_iret, ix_zret, ix_vret, ix_aret, ix_geti, ix_getr, ix_puti, ix_putz, ix_puts, ix_gets, ix_iald, ix_iast, ix_alen, ix_aald, ix_gval, ix_gcod, ix_bald, ix_blen, ix_sald, ix_nret, ix_math2, ix_math1, ix_acopy, ml_113, ml_114, ml_115, ml_116, ml_118, ml_119, ml_120, ml_121, ml_122, ml_123, ml_124, ml_125, ml_126, mv_0, mv_1, mv_2, mv_3, mv_4, mv_5, mB_or, Nat.add_assoc, Int32.reduceLT, Int32.reduceLE, Int32.reduceToNatClampNeg, Int32.reduceSub, Int32.reduceAdd, Nat.reduceAdd, Nat.reduceLeDiff, true_or, or_true, or_false, false_or, not_false_eq_true, not_true_eq_false, false_implies, true_implies, implies_true, and_self, mB_0, mB_01, Classical.not_not, Nat.zero_le, List.getElem?_cons_zero, List.getElem?_cons_succ, List.set_cons_zero, List.set_cons_succ, ix_nl, ix_cs, true_and, and_true, Option.toList_some, Option.toList_none, List.cons_append, List.nil_append, cS, iS, e1, hng, hi1, h40, c40, i40]
    have e5 : μ1 112 5 = -1 := by rw [hF 112 (by decide)]; exact hl
    refine ⟨hW.1.ok (by omega), hW.2.1, ds, dl, hW.2.2.1, hW.2.2.2, fun μ2 hF2 hv2 hr2 => ?_⟩
    have hW2 := hW.next hv2 hr2
    obtain ⟨n, g1, g2, g3⟩ := hW2.had
    have e125 : μ2 125 (40 * S + i) = g i := by rw [hF2 125 (by decide), hF 125 (by decide), hg]
    have hF3 : Fx [113, 115, 119, 120] μ μ2 := hF.tr (hF2.mono (by simp))
    have hR3 : RE (μ2 115) (μ 113) := by rw [hF2 115 (by decide)]; exact hR
    rw [e5, pV_nob] at hv2
    rw [fUn, ← hv2] at hV
    refine ⟨n, g1, g2, ?_⟩
    rw [g3, e125]
    refine ⟨fun c => ?_, fun c => ?_⟩
    · rw [if_pos c.symm] at hV
      exact ih (i + 1) μ2 (by omega) hF3 hR3 hW2 hV
    · rw [if_neg (fun z => c z.symm)] at hV
      have hb : (0 : Int32) = mB (V = -1) := by rw [mB, if_neg (by rw [← hV]; exact fUn_ne (ds := ds) (dl := dl) (f := g) i (by omega))]
      have e2 : μ2 124 S = nI N := by rw [hF3 124 (by decide)]; exact hsz
      rw [e_X11_isSoHad_15]
      simp (decide := true) only [e_X11_isSoHad_0, e_X11_isSoHad_1, e_X11_isSoHad_4, e_X11_isSoHad_5, e_X11_isSoHad_8, e_X11_isSoHad_11, e_X11_isSoHad_12, e_X11_isSoHad_13, e_X11_isSoHad_14, e_X11_isSoHad_16, e_X11_isSoHad_17, e_X11_isSoHad_20, e_X11_isSoHad_21, e_X11_isSoHad_22, e_X11_isSoHad_25, e_X11_isSoHad_26, e_X11_isSoHad_29, e_X11_isSoHad_30, e_X11_isSoHad_33, e_X11_isSoHad_34, e_X11_isSoHad_37, e_X11_isSoHad_39, e_X11_isSoHad_40, e_X11_isSoHad_41, e_X11_isSoHad_42, e_X11_isSoHad_43, e_X11_isSoHad_44, e_X11_isSoHad_45, e_X11_isSoHad_48, e_X11_isSoHad_51, e_X11_isSoHad_52, e_X11_isSoHad_55, e_X11_isSoHad_56, e_X11_isSoHad_57, e_X11_isSoHad_60, e_X11_isSoHad_63, e_X11_isSoHad_64, e_X11_isSoHad_67, e_X11_isSoHad_68, e_X11_isSoHad_71, e_X11_isSoHad_74, e_X11_isSoHad_75, vi, vl, vr, oc_X11_copy, T_X11_copy, oc_X11_had, T_X11_had, oc_X11_minute, T_X11_minute, ix_push, ix_iload, ix_lload, ix_aload, ix_istore, ix_astore, ix_iinc, ix_bin, ix_div, ix_un, ix_i2l, ix_l2i, ix_lbin, ix_lsh, ix_lcmp, ix_dup, ix_dup2, ix_pop, ix_if, ix_cmp, ix_goto, ix_switch, ix_sw, ix_iret, ix_zret, ix_vret, ix_aret, ix_geti, ix_getr, ix_puti, ix_putz, ix_puts, ix_gets, ix_iald, ix_iast, ix_alen, ix_aald, ix_gval, ix_gcod, ix_bald, ix_blen, ix_sald, ix_nret, ix_math2, ix_math1, ix_acopy, ml_113, ml_114, ml_115, ml_116, ml_118, ml_119, ml_120, ml_121, ml_122, ml_123, ml_124, ml_125, ml_126, mv_0, mv_1, mv_2, mv_3, mv_4, mv_5, mB_or, Nat.add_assoc, Int32.reduceLT, Int32.reduceLE, Int32.reduceToNatClampNeg, Int32.reduceSub, Int32.reduceAdd, Nat.reduceAdd, Nat.reduceLeDiff, true_or, or_true, or_false, false_or, not_false_eq_true, not_true_eq_false, false_implies, true_implies, implies_true, and_self, mB_0, mB_01, Classical.not_not, Nat.zero_le, List.getElem?_cons_zero, List.getElem?_cons_succ, List.set_cons_zero, List.set_cons_succ, ix_nl, ix_cs, true_and, and_true, Option.toList_some, Option.toList_none, List.cons_append, List.nil_append, cS, iS, e2]
      exact ⟨fun _ => ex 0 μ2 hF3 hR3 hb, fun _ => ex 0 μ2 hF3 hR3 hb⟩
theorem r_X11_isSoHad (o : Nat) (s : Int32) (μ : ix_M) (Q : ix_R → Prop) (ok_o : o < ix_N ∧ ix_tag o = 10) (hT : T_X11_isSoHad (o, s) μ Q) : ix_Ev o_X11_isSoHad Q (0, [some (vr 10 o), some (vi s), none, none], [], μ) := by
  obtain rfl := ok_10 o ok_o.1 ok_o.2
  obtain ⟨M, N, S, ds, dl, h1, rfl, h3, h4, h5, h6, h7, hQ⟩ := hT
  simp (decide := true) only [e_X11_isSoHad_0, e_X11_isSoHad_1, e_X11_isSoHad_4, e_X11_isSoHad_5, e_X11_isSoHad_8, e_X11_isSoHad_11, e_X11_isSoHad_12, e_X11_isSoHad_13, e_X11_isSoHad_14, e_X11_isSoHad_16, e_X11_isSoHad_17, e_X11_isSoHad_20, e_X11_isSoHad_21, e_X11_isSoHad_22, e_X11_isSoHad_25, e_X11_isSoHad_26, e_X11_isSoHad_29, e_X11_isSoHad_30, e_X11_isSoHad_33, e_X11_isSoHad_34, e_X11_isSoHad_37, e_X11_isSoHad_39, e_X11_isSoHad_40, e_X11_isSoHad_41, e_X11_isSoHad_42, e_X11_isSoHad_43, e_X11_isSoHad_44, e_X11_isSoHad_45, e_X11_isSoHad_48, e_X11_isSoHad_51, e_X11_isSoHad_52, e_X11_isSoHad_55, e_X11_isSoHad_56, e_X11_isSoHad_57, e_X11_isSoHad_60, e_X11_isSoHad_63, e_X11_isSoHad_64, e_X11_isSoHad_67, e_X11_isSoHad_68, e_X11_isSoHad_71, e_X11_isSoHad_74, e_X11_isSoHad_75, vi, vl, vr, oc_X11_copy, T_X11_copy, oc_X11_had, T_X11_had, oc_X11_minute, T_X11_minute, ix_push, ix_iload, ix_lload, ix_aload, ix_istore, ix_astore, ix_iinc, ix_bin, ix_div, ix_un, ix_i2l, ix_l2i, ix_lbin, ix_lsh, ix_lcmp, ix_dup, ix_dup2, ix_pop, ix_if, ix_cmp, ix_goto, ix_switch, ix_sw, ix_iret, ix_zret, ix_vret, ix_aret, ix_geti, ix_getr, ix_puti, ix_putz, ix_puts, ix_gets, ix_iald, ix_iast, ix_alen, ix_aald, ix_gval, ix_gcod, ix_bald, ix_blen, ix_sald, ix_nret, ix_math2, ix_math1, ix_acopy, ml_113, ml_114, ml_115, ml_116, ml_118, ml_119, ml_120, ml_121, ml_122, ml_123, ml_124, ml_125, ml_126, mv_0, mv_1, mv_2, mv_3, mv_4, mv_5, mB_or, Nat.add_assoc, Int32.reduceLT, Int32.reduceLE, Int32.reduceToNatClampNeg, Int32.reduceSub, Int32.reduceAdd, Nat.reduceAdd, Nat.reduceLeDiff, true_or, or_true, or_false, false_or, not_false_eq_true, not_true_eq_false, false_implies, true_implies, implies_true, and_self, mB_0, mB_01, Classical.not_not, Nat.zero_le, List.getElem?_cons_zero, List.getElem?_cons_succ, List.set_cons_zero, List.set_cons_succ, ix_nl, ix_cs, true_and, and_true, Option.toList_some, Option.toList_none, List.cons_append, List.nil_append]
  intro μ1 hF hc
  have e113 : μ1 113 = μ 113 := hF 113 (by decide)
  exact l_X11_isSoHad rfl h3 h5 h4 h6 h7 hQ N 0 μ1 (by omega) (hF.mono (by simp)) hc (h1.cong (by rw [e113]; exact fun _ _ => rfl)) (by rw [e113])
theorem k_X11_isSoHad (l : Launch) : ix_Ct l yX11_isSoHad cX11_isSoHad 4 (some .boolean) 7 sh_X11_isSoHad T_X11_isSoHad := ix_ct (a_X11_isSoHad l) rfl (by decide) (fun _ => Nat.le_of_ble_eq_true rfl) (fun x μ Q hok hT => r_X11_isSoHad x.1 x.2 μ Q (ix_ok_at (hok (vr 10 x.1) (by simp [sh_X11_isSoHad])) (by decide) (by decide)) hT)
