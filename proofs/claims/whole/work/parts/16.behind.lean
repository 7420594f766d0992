/-! ===== minutes gone ahead ===== -/
def WAt (v : WV) (M : Nat) : Prop := (∃ n : Nat, n ≤ 8 ∧ v 0 7 = nI n) ∧ v 0 8 = nI M ∧ ∀ b, b < 8 → ∃ c : Nat, c < 16 ∧ v 6 b = nI c
theorem WAt.ok {v : WV} {M : Nat} (h : WAt v M) (hM : M < 30000) : WOk v := ⟨h.1, ⟨M, hM, h.2.1⟩, h.2.2⟩
theorem mBes_in (c : Nat) (hc : c < 16) (w : Int32) : ∃ c' : Nat, c' < 16 ∧ mBes (nI c) w = nI c' := by
  have h1 : ∀ c, c < 16 → ∃ c', c' < 16 ∧ mBes (nI c) 1 = nI c' := by decide +kernel
  have h2 : ∀ c, c < 16 → ∃ c', c' < 16 ∧ mBes (nI c) 2 = nI c' := by decide +kernel
  have h3 : ∀ c, c < 16 → ∃ c', c' < 16 ∧ mBes (nI c) 3 = nI c' := by decide +kernel
  have h4 : ∀ c, c < 16 → ∃ c', c' < 16 ∧ mBes (nI c) 4 = nI c' := by decide +kernel
  by_cases e1 : w = 1
  · rw [e1]; exact h1 c hc
  by_cases e2 : w = 2
  · rw [e2]; exact h2 c hc
  by_cases e3 : w = 3
  · rw [e3]; exact h3 c hc
  by_cases e4 : w = 4
  · rw [e4]; exact h4 c hc
  exact ⟨c, hc, by unfold mBes; rw [if_neg e1, if_neg e2, if_neg e3, if_neg e4]⟩
theorem pV_07 (ds dl : List Int32) (led way : Int32) (v : WV) : pV ds dl led way v 0 7 = v 0 7 := rfl
theorem pV_08 (ds dl : List Int32) (led way : Int32) (v : WV) : pV ds dl led way v 0 8 = v 0 8 + 1 := rfl
theorem pV_09 (ds dl : List Int32) (led way : Int32) (v : WV) : pV ds dl led way v 0 9 = v 0 9 := rfl
theorem pV_6 (ds dl : List Int32) (led way : Int32) (v : WV) {b : Nat} (h : b < 8) : pV ds dl led way v 6 b = pAt led way v b := by
  unfold pV
  rw [if_pos (wok_6 h)]
  rfl
theorem WAt.pV {v : WV} {M : Nat} (h : WAt v M) (ds dl : List Int32) (led way : Int32) : WAt (pV ds dl led way v) (M + 1) := by
  refine ⟨by rw [pV_07]; exact h.1, by rw [pV_08, h.2.1, nI_1], fun b hb => ?_⟩
  rw [pV_6 _ _ _ _ _ hb]
  obtain ⟨c, hc, e⟩ := h.2.2 b hb
  unfold pAt
  split
  · unfold pAt1
    rw [e]
    exact mBes_in c hc _
  · exact ⟨c, hc, e⟩
def pIt (ds dl : List Int32) (n : Nat) (v : WV) : WV := match n with
  | 0 => v
  | n + 1 => pV ds dl (-1) 0 (pIt ds dl n v)
theorem WAt.it {v : WV} {M : Nat} (h : WAt v M) (ds dl : List Int32) : ∀ n, WAt (pIt ds dl n v) (M + n)
  | 0 => h
  | n + 1 => (WAt.it h ds dl n).pV ds dl (-1) 0
def pH (v : WV) : Int32 := mSum (v 7) (pN v)
theorem mSum_cong {f g : Nat → Int32} : ∀ {n : Nat}, (∀ i, i < n → f i = g i) → mSum f n = mSum g n
  | 0, _ => rfl
  | n + 1, h => by
    unfold mSum
    rw [mSum_cong (fun i hi => h i (by omega)), h n (by omega)]
theorem WAt.had {μ : ix_M} {w M : Nat} (h : WAt (wv μ w) M) : (0 ≤ (μ w 7).toInt ∧ (μ w 7).toInt ≤ 8) ∧ mSum (μ (w + 7)) (μ w 7).toNatClampNeg = pH (wv μ w) := by
  obtain ⟨n, hn, e⟩ := h.1
  rw [wv_07] at e
  refine ⟨by rw [e, nI_toInt (by omega)]; omega, ?_⟩
  unfold pH pN
  rw [wv_07, e, nI_clamp (by omega)]
  exact mSum_cong (fun i hi => (wv_at (wok_7 (by omega))).symm)
/-- the laws of now -/
def LW (μ : ix_M) (ds dl : List Int32) : Prop := TxtOk μ 11 ds ∧ TxtOk μ 15 dl
theorem LW.fx {μ μ1 : ix_M} {ds dl : List Int32} (h : LW μ ds dl) {L : List Nat} (hF : Fx L μ μ1) (h1 : 12 ∉ L ∧ 13 ∉ L ∧ 16 ∉ L ∧ 17 ∉ L) : LW μ1 ds dl := ⟨h.1.fx (hF _ h1.1) (hF _ h1.2.1), h.2.fx (hF _ h1.2.2.1) (hF _ h1.2.2.2)⟩
def wP (w : Nat) : List Nat := [w, w + 2, w + 6, w + 7, 14, 18]
theorem wP_no {w : Nat} (hw : w = 2 ∨ w = 25 ∨ w = 48 ∨ w = 56 ∨ w = 64 ∨ w = 72 ∨ w = 80) : 12 ∉ wP w ∧ 13 ∉ wP w ∧ 16 ∉ wP w ∧ 17 ∉ wP w := by
  unfold wP
  simp
  omega
def T_X10_hadBehind : Nat × Nat × Int32 → ix_M → (ix_R → Prop) → Prop := fun (_, w, n) μ Q => ∃ (M N : Nat) (ds dl : List Int32), WAt (wv μ w) M ∧ n = nI N ∧ M + N < 30000 ∧ LW μ ds dl ∧ ∀ μ', Fx (wP w) μ μ' → wv μ' w = pIt ds dl N (wv μ w) → Q (some (vi (pH (pIt ds dl N (wv μ w)))), μ')
def sh_X10_hadBehind (x : Nat × Nat × Int32) : List ix_V := [vr 9 x.1, vr 8 x.2.1, vi x.2.2]
theorem mo_X10_hadBehind (x : Nat × Nat × Int32) (μ : ix_M) (Q Q' : ix_R → Prop) (h : ∀ r, Q r → Q' r) (hT : T_X10_hadBehind x μ Q) : T_X10_hadBehind x μ Q' := by
  obtain ⟨a0, a1, a2⟩ := x
  (obtain ⟨M, N, ds, dl, h1, h2, h3, h4, h5⟩ := hT; exact ⟨M, N, ds, dl, h1, h2, h3, h4, fun μ' z z2 => h _ (h5 μ' z z2)⟩)
def oc_X10_hadBehind (n : Nat) : ix_Op := fun k _ ls st μ => match st with
  | .inl a2 :: .inr (.inr (t1, a1)) :: .inr (.inr (t0, a0)) :: r => t0 = 9 ∧ t1 = 8 ∧ ix_cs r ≤ 8 ∧ T_X10_hadBehind (a0, a1, a2) μ (fun q => k (n, ls, q.1.toList ++ r, q.2))
  | _ => False
theorem oc_X10_hadBehind_s {l : Launch} {cc : ByteArray} {nL : Nat} {own : String} {d : Nat} {rt : Option FieldType} {pc n : Nat} (h : ix_S l cc nL own d rt pc (ix_call 3 sh_X10_hadBehind T_X10_hadBehind n)) : ix_S l cc nL own d rt pc (oc_X10_hadBehind n) := by
  refine h.by (fun k Q ls st μ h => ?_) (fun k k' Q ls st μ hk h => ?_)
  · unfold oc_X10_hadBehind at h
    split at h
    · rename_i a2 t1 a1 t0 a0 r
      obtain ⟨rfl, rfl, h1, h2⟩ := h
      exact ⟨h1, (a0, a1, a2), rfl, _, h2, fun r h => h⟩
    · exact h.elim
  · unfold oc_X10_hadBehind at h ⊢
    split at h
    · obtain ⟨rfl, rfl, h1, h2⟩ := h
      exact ⟨rfl, rfl, h1, mo_X10_hadBehind _ _ _ _ (fun q hq => hk _ hq) h2⟩
    · exact h.elim
def o_X10_hadBehind : List (Nat × ix_Op) := [
  (0, ix_push (vi 0) 1),
  (1, ix_istore 3 2),
  (2, ix_iload 3 3),
  (3, ix_iload 2 4),
  (4, ix_cmp (fun x y => y ≤ x) 26 7),
  (7, ix_aload 1 8),
  (8, ix_aload 0 9),
  (9, ix_getr 9 5 (fun _ => 1) 12),
  (12, ix_getr 5 0 (fun k => k + 9) 15),
  (15, ix_push (vi (-1)) 16),
  (16, ix_push (vi 0) 17),
  (17, oc_X9_pass 20),
  (20, ix_iinc 3 1 23),
  (23, ix_goto 2),
  (26, ix_aload 1 27),
  (27, oc_X9_had 30),
  (30, ix_iret)]
set_option maxRecDepth 20000 in
theorem a_X10_hadBehind (l : Launch) : ix_AllS l cX10_hadBehind 4 RX10 6 (some .int) o_X10_hadBehind :=
  .cons (ix_s_iconst dX10_hadBehind_0 (by decide +kernel)) <|
  .cons (ix_s_istore_n dX10_hadBehind_1 rfl (by decide)) <|
  .cons (ix_s_iload_n dX10_hadBehind_2 rfl) <|
  .cons (ix_s_iload_n dX10_hadBehind_3 rfl) <|
  .cons (ix_s_cmp_ge dX10_hadBehind_4 (by decide)) <|
  .cons (ix_s_aload_n dX10_hadBehind_7 rfl) <|
  .cons (ix_s_aload_n dX10_hadBehind_8 rfl) <|
  .cons (ix_s_getr (j := 0) tu_X10 rfl (by decide) (by decide) tw_251 rfl ts_9_0_r dX10_hadBehind_9) <|
  .cons (ix_s_getr (j := 1) tu_X6 rfl (by decide) (by decide) tw_140 rfl ts_5_1_r dX10_hadBehind_12) <|
  .cons (ix_s_iconst dX10_hadBehind_15 (by decide +kernel)) <|
  .cons (ix_s_iconst dX10_hadBehind_16 (by decide +kernel)) <|
  .cons (oc_X9_pass_s (ix_s_callv (t := 8) (k_X9_pass l) (by decide) (by decide) tw_599 tw_3 tw_596 tw_597 tw_598 ⟨by decide, by decide, by decide +kernel⟩ (by decide) rfl rfl (fun _ => ⟨_, _, rfl, rfl⟩) dX10_hadBehind_17)) <|
  .cons (ix_s_iinc dX10_hadBehind_20 (by decide +kernel) (by decide)) <|
  .cons (ix_s_goto dX10_hadBehind_23 (by decide)) <|
  .cons (ix_s_aload_n dX10_hadBehind_26 rfl) <|
  .cons (oc_X9_had_s (ix_s_callv (t := 8) (k_X9_had l) (by decide) (by decide) tw_617 tw_3 tw_614 tw_615 tw_616 ⟨by decide, by decide, by decide +kernel⟩ (by decide) rfl rfl (fun _ => ⟨_, _, rfl, rfl⟩) dX10_hadBehind_27)) <|
  .cons (ix_s_iret dX10_hadBehind_30 rfl) <| .nil
theorem e_X10_hadBehind_0 (Q : ix_R → Prop) (ls : ix_L) (st : List ix_V) (μ : ix_M) : ix_Ev o_X10_hadBehind Q (0, ls, st, μ) = ix_push (vi 0) 1 (ix_Ev o_X10_hadBehind Q) Q ls st μ := ix_Ev.eq (a_X10_hadBehind launch0) rfl ls st μ
theorem e_X10_hadBehind_1 (Q : ix_R → Prop) (ls : ix_L) (st : List ix_V) (μ : ix_M) : ix_Ev o_X10_hadBehind Q (1, ls, st, μ) = ix_istore 3 2 (ix_Ev o_X10_hadBehind Q) Q ls st μ := ix_Ev.eq (a_X10_hadBehind launch0) rfl ls st μ
theorem e_X10_hadBehind_2 (Q : ix_R → Prop) (ls : ix_L) (st : List ix_V) (μ : ix_M) : ix_Ev o_X10_hadBehind Q (2, ls, st, μ) = ix_iload 3 3 (ix_Ev o_X10_hadBehind Q) Q ls st μ := ix_Ev.eq (a_X10_hadBehind launch0) rfl ls st μ
theorem e_X10_hadBehind_3 (Q : ix_R → Prop) (ls : ix_L) (st : List ix_V) (μ : ix_M) : ix_Ev o_X10_hadBehind Q (3, ls, st, μ) = ix_iload 2 4 (ix_Ev o_X10_hadBehind Q) Q ls st μ := ix_Ev.eq (a_X10_hadBehind launch0) rfl ls st μ
theorem e_X10_hadBehind_4 (Q : ix_R → Prop) (ls : ix_L) (st : List ix_V) (μ : ix_M) : ix_Ev o_X10_hadBehind Q (4, ls, st, μ) = ix_cmp (fun x y => y ≤ x) 26 7 (ix_Ev o_X10_hadBehind Q) Q ls st μ := ix_Ev.eq (a_X10_hadBehind launch0) rfl ls st μ
theorem e_X10_hadBehind_7 (Q : ix_R → Prop) (ls : ix_L) (st : List ix_V) (μ : ix_M) : ix_Ev o_X10_hadBehind Q (7, ls, st, μ) = ix_aload 1 8 (ix_Ev o_X10_hadBehind Q) Q ls st μ := ix_Ev.eq (a_X10_hadBehind launch0) rfl ls st μ
theorem e_X10_hadBehind_8 (Q : ix_R → Prop) (ls : ix_L) (st : List ix_V) (μ : ix_M) : ix_Ev o_X10_hadBehind Q (8, ls, st, μ) = ix_aload 0 9 (ix_Ev o_X10_hadBehind Q) Q ls st μ := ix_Ev.eq (a_X10_hadBehind launch0) rfl ls st μ
theorem e_X10_hadBehind_9 (Q : ix_R → Prop) (ls : ix_L) (st : List ix_V) (μ : ix_M) : ix_Ev o_X10_hadBehind Q (9, ls, st, μ) = ix_getr 9 5 (fun _ => 1) 12 (ix_Ev o_X10_hadBehind Q) Q ls st μ := ix_Ev.eq (a_X10_hadBehind launch0) rfl ls st μ
theorem e_X10_hadBehind_12 (Q : ix_R → Prop) (ls : ix_L) (st : List ix_V) (μ : ix_M) : ix_Ev o_X10_hadBehind Q (12, ls, st, μ) = ix_getr 5 0 (fun k => k + 9) 15 (ix_Ev o_X10_hadBehind Q) Q ls st μ := ix_Ev.eq (a_X10_hadBehind launch0) rfl ls st μ
theorem e_X10_hadBehind_15 (Q : ix_R → Prop) (ls : ix_L) (st : List ix_V) (μ : ix_M) : ix_Ev o_X10_hadBehind Q (15, ls, st, μ) = ix_push (vi (-1)) 16 (ix_Ev o_X10_hadBehind Q) Q ls st μ := ix_Ev.eq (a_X10_hadBehind launch0) rfl ls st μ
theorem e_X10_hadBehind_16 (Q : ix_R → Prop) (ls : ix_L) (st : List ix_V) (μ : ix_M) : ix_Ev o_X10_hadBehind Q (16, ls, st, μ) = ix_push (vi 0) 17 (ix_Ev o_X10_hadBehind Q) Q ls st μ := ix_Ev.eq (a_X10_hadBehind launch0) rfl ls st μ
theorem e_X10_hadBehind_17 (Q : ix_R → Prop) (ls : ix_L) (st : List ix_V) (μ : ix_M) : ix_Ev o_X10_hadBehind Q (17, ls, st, μ) = oc_X9_pass 20 (ix_Ev o_X10_hadBehind Q) Q ls st μ := ix_Ev.eq (a_X10_hadBehind launch0) rfl ls st μ
theorem e_X10_hadBehind_20 (Q : ix_R → Prop) (ls : ix_L) (st : List ix_V) (μ : ix_M) : ix_Ev o_X10_hadBehind Q (20, ls, st, μ) = ix_iinc 3 1 23 (ix_Ev o_X10_hadBehind Q) Q ls st μ := ix_Ev.eq (a_X10_hadBehind launch0) rfl ls st μ
theorem e_X10_hadBehind_23 (Q : ix_R → Prop) (ls : ix_L) (st : List ix_V) (μ : ix_M) : ix_Ev o_X10_hadBehind Q (23, ls, st, μ) = ix_goto 2 (ix_Ev o_X10_hadBehind Q) Q ls st μ := ix_Ev.eq (a_X10_hadBehind launch0) rfl ls st μ
theorem e_X10_hadBehind_26 (Q : ix_R → Prop) (ls : ix_L) (st : List ix_V) (μ : ix_M) : ix_Ev o_X10_hadBehind Q (26, ls, st, μ) = ix_aload 1 27 (ix_Ev o_X10_hadBehind Q) Q ls st μ := ix_Ev.eq (a_X10_hadBehind launch0) rfl ls st μ
theorem e_X10_hadBehind_27 (Q : ix_R → Prop) (ls : ix_L) (st : List ix_V) (μ : ix_M) : ix_Ev o_X10_hadBehind Q (27, ls, st, μ) = oc_X9_had 30 (ix_Ev o_X10_hadBehind Q) Q ls st μ := ix_Ev.eq (a_X10_hadBehind launch0) rfl ls st μ
theorem e_X10_hadBehind_30 (Q : ix_R → Prop) (ls : ix_L) (st : List ix_V) (μ : ix_M) : ix_Ev o_X10_hadBehind Q (30, ls, st, μ) = ix_iret (ix_Ev o_X10_hadBehind Q) Q ls st μ := ix_Ev.eq (a_X10_hadBehind launch0) rfl ls st μ
theorem l_X10_hadBehind {o w M N : Nat} {μ : ix_M} {ds dl : List Int32} {Q : ix_R → Prop} (hw : w = 2 ∨ w = 25 ∨ w = 48 ∨ w = 56 ∨ w = 64 ∨ w = 72 ∨ w = 80) (hW : WAt (wv μ w) M) (hMN : M + N < 30000) (hL : LW μ ds dl) (hQ : ∀ μ', Fx (wP w) μ μ' → wv μ' w = pIt ds dl N (wv μ w) → Q (some (vi (pH (pIt ds dl N (wv μ w)))), μ')) :
    ∀ (k i : Nat) (μ1 : ix_M), i + k = N → Fx (wP w) μ μ1 → wv μ1 w = pIt ds dl i (wv μ w) → ix_Ev o_X10_hadBehind Q (2, [some (vr 9 o), some (vr 8 w), some (vi (nI N)), some (vi (nI i))], [], μ1) := by
  intro k
  induction k with
  | zero =>
    intro i μ1 hi hF hv
    have hi : i = N := hi
    subst hi
    have hle : nI i ≤ nI i := Int32.le_refl _
    have h1 := hW.it ds dl i
    rw [← hv] at h1
    obtain ⟨h2, h3⟩ := h1.had
    rw [e_X10_hadBehind_2]
    simp (decide := true) only [e_X10_hadBehind_0, e_X10_hadBehind_1, e_X10_hadBehind_3, e_X10_hadBehind_4, e_X10_hadBehind_7, e_X10_hadBehind_8, e_X10_hadBehind_9, e_X10_hadBehind_12, e_X10_hadBehind_15, e_X10_hadBehind_16, e_X10_hadBehind_17, e_X10_hadBehind_20, e_X10_hadBehind_23, e_X10_hadBehind_26, e_X10_hadBehind_27, e_X10_hadBehind_30, vi, vl, vr, oc_X9_had, T_X9_had, oc_X9_pass, T_X9_pass, ix_push, ix_iload, ix_lload, ix_aload, ix_istore, ix_astore, ix_iinc, ix_bin, ix_div, ix_un, ix_i2l, ix_l2i, ix_lbin, ix_lsh, ix_lcmp, ix_dup, ix_dup2, ix_pop, ix_if, ix_cmp, ix_goto, ix_switch, ix_sw, ix_iret, ix_zret, ix_vret, ix_aret, ix_geti, ix_getr, ix_puti, ix_putz, ix_puts, ix_gets, ix_iald, ix_iast, ix_alen, ix_aald, ix_gval, ix_gcod, ix_bald, ix_blen, ix_sald, ix_nret, ix_math2, ix_math1, ix_acopy, Nat.add_assoc, Int32.reduceLT, Int32.reduceLE, Int32.reduceToNatClampNeg, Int32.reduceSub, Int32.reduceAdd, Nat.reduceAdd, Nat.reduceLeDiff, true_or, or_true, or_false, false_or, not_false_eq_true, not_true_eq_false, false_implies, true_implies, implies_true, and_self, mB_0, mB_01, Classical.not_not, Nat.zero_le, List.getElem?_cons_zero, List.getElem?_cons_succ, List.set_cons_zero, List.set_cons_succ, ix_nl, ix_cs, true_and, and_true, Option.toList_some, Option.toList_none, List.cons_append, List.nil_append, hle]
    refine ⟨h2, ?_⟩
    rw [h3, hv]
    exact hQ μ1 hF hv
  | succ k ih =>
    intro i μ1 hi hF hv
    have hng : ¬ nI N ≤ nI i := nI_ge (by omega) (by omega)
    have h1 := hW.it ds dl i
    rw [← hv] at h1
    have hL1 := hL.fx hF (wP_no hw)
    rw [e_X10_hadBehind_2]
    simp (decide := true) only [e_X10_hadBehind_0, e_X10_hadBehind_1, e_X10_hadBehind_3, e_X10_hadBehind_4, e_X10_hadBehind_7, e_X10_hadBehind_8, e_X10_hadBehind_9, e_X10_hadBehind_12, e_X10_hadBehind_15, e_X10_hadBehind_16, e_X10_hadBehind_17, e_X10_hadBehind_20, e_X10_hadBehind_23, e_X10_hadBehind_26, e_X10_hadBehind_27, e_X10_hadBehind_30, vi, vl, vr, oc_X9_had, T_X9_had, oc_X9_pass, T_X9_pass, ix_push, ix_iload, ix_lload, ix_aload, ix_istore, ix_astore, ix_iinc, ix_bin, ix_div, ix_un, ix_i2l, ix_l2i, ix_lbin, ix_lsh, ix_lcmp, ix_dup, ix_dup2, ix_pop, ix_if, ix_cmp, ix_goto, ix_switch, ix_sw, ix_iret, ix_zret, ix_vret, ix_aret, ix_geti, ix_getr, ix_puti, ix_putz, ix_puts, ix_gets, ix_iald, ix_iast, ix_alen, ix_aald, ix_gval, ix_gcod, ix_bald, ix_blen, ix_sald, ix_nret, ix_math2, ix_math1, ix_acopy, Nat.add_assoc, Int32.reduceLT, Int32.reduceLE, Int32.reduceToNatClampNeg, Int32.reduceSub, Int32.reduceAdd, Nat.reduceAdd, Nat.reduceLeDiff, true_or, or_true, or_false, false_or, not_false_eq_true, not_true_eq_false, false_implies, true_implies, implies_true, and_self, mB_0, mB_01, Classical.not_not, Nat.zero_le, List.getElem?_cons_zero, List.getElem?_cons_succ, List.set_cons_zero, List.set_cons_succ, ix_nl, ix_cs, true_and, and_true, Option.toList_some, Option.toList_none, List.cons_append, List.nil_append, hng]
    refine ⟨h1.ok (by omega), ds, dl, hL1.1, hL1.2, fun μ' hF' hv' => ?_⟩
    rw [nI_1]
    refine ih (i + 1) μ' (by omega) (hF.tr hF') ?_
    rw [hv', hv]
    rfl
theorem r_X10_hadBehind (o : Nat) (w : Nat) (n : Int32) (μ : ix_M) (Q : ix_R → Prop) (ok_o : o < ix_N ∧ ix_tag o = 9) (ok_w : w < ix_N ∧ ix_tag w = 8) (hT : T_X10_hadBehind (o, w, n) μ Q) : ix_Ev o_X10_hadBehind Q (0, [some (vr 9 o), some (vr 8 w), some (vi n), none], [], μ) := by
  obtain ⟨hw, -⟩ := ok_water w ok_w.1 ok_w.2
  obtain ⟨M, N, ds, dl, h1, rfl, h3, h4, hQ⟩ := hT
  simp (decide := true) only [e_X10_hadBehind_0, e_X10_hadBehind_1, e_X10_hadBehind_3, e_X10_hadBehind_4, e_X10_hadBehind_7, e_X10_hadBehind_8, e_X10_hadBehind_9, e_X10_hadBehind_12, e_X10_hadBehind_15, e_X10_hadBehind_16, e_X10_hadBehind_17, e_X10_hadBehind_20, e_X10_hadBehind_23, e_X10_hadBehind_26, e_X10_hadBehind_27, e_X10_hadBehind_30, vi, vl, vr, oc_X9_had, T_X9_had, oc_X9_pass, T_X9_pass, ix_push, ix_iload, ix_lload, ix_aload, ix_istore, ix_astore, ix_iinc, ix_bin, ix_div, ix_un, ix_i2l, ix_l2i, ix_lbin, ix_lsh, ix_lcmp, ix_dup, ix_dup2, ix_pop, ix_if, ix_cmp, ix_goto, ix_switch, ix_sw, ix_iret, ix_zret, ix_vret, ix_aret, ix_geti, ix_getr, ix_puti, ix_putz, ix_puts, ix_gets, ix_iald, ix_iast, ix_alen, ix_aald, ix_gval, ix_gcod, ix_bald, ix_blen, ix_sald, ix_nret, ix_math2, ix_math1, ix_acopy, Nat.add_assoc, Int32.reduceLT, Int32.reduceLE, Int32.reduceToNatClampNeg, Int32.reduceSub, Int32.reduceAdd, Nat.reduceAdd, Nat.reduceLeDiff, true_or, or_true, or_false, false_or, not_false_eq_true, not_true_eq_false, false_implies, true_implies, implies_true, and_self, mB_0, mB_01, Classical.not_not, Nat.zero_le, List.getElem?_cons_zero, List.getElem?_cons_succ, List.set_cons_zero, List.set_cons_succ, ix_nl, ix_cs, true_and, and_true, Option.toList_some, Option.toList_none, List.cons_append, List.nil_append]
  exact l_X10_hadBehind hw h1 h3 h4 hQ N 0 μ (by omega) Fx.rf rfl
theorem k_X10_hadBehind (l : Launch) : ix_Ct l yX10_hadBehind cX10_hadBehind 4 (some .int) 6 sh_X10_hadBehind T_X10_hadBehind := ix_ct (a_X10_hadBehind l) rfl (by decide) (fun _ => Nat.le_of_ble_eq_true rfl) (fun x μ Q hok hT => r_X10_hadBehind x.1 x.2.1 x.2.2 μ Q (ix_ok_at (hok (vr 9 x.1) (by simp [sh_X10_hadBehind])) (by decide) (by decide)) (ix_ok_at (hok (vr 8 x.2.1) (by simp [sh_X10_hadBehind])) (by decide) (by decide)) hT)
/-- the first place whose number is not HAD -/
def fUn (ds dl : List Int32) (f : Nat → Int32) (k i : Nat) (v : WV) : Int32 := match k with
  | 0 => -1
  | k + 1 => if pH (pV ds dl (-1) 0 v) = f i then fUn ds dl f k (i + 1) (pV ds dl (-1) 0 v) else nI i
def T_X10_firstUnlike : Nat × Nat × Nat → ix_M → (ix_R → Prop) → Prop := fun (_, w, r) μ Q => ∃ (M N : Nat) (ds dl : List Int32), WAt (wv μ w) M ∧ μ r 1 = nI N ∧ N ≤ 40 ∧ N ≤ ix_len (r + 1) ∧ M + N < 30000 ∧ LW μ ds dl ∧ r ∉ wP w ∧ r + 1 ∉ wP w ∧ ∀ μ', Fx (wP w) μ μ' → Q (some (vi (fUn ds dl (μ (r + 1)) N 0 (wv μ w))), μ')
def sh_X10_firstUnlike (x : Nat × Nat × Nat) : List ix_V := [vr 9 x.1, vr 8 x.2.1, vr 3 x.2.2]
theorem mo_X10_firstUnlike (x : Nat × Nat × Nat) (μ : ix_M) (Q Q' : ix_R → Prop) (h : ∀ r, Q r → Q' r) (hT : T_X10_firstUnlike x μ Q) : T_X10_firstUnlike x μ Q' := by
  obtain ⟨a0, a1, a2⟩ := x
  (obtain ⟨M, N, ds, dl, h1, h2, h3, h4, h5, h6, h7, h8, h9⟩ := hT; exact ⟨M, N, ds, dl, h1, h2, h3, h4, h5, h6, h7, h8, fun μ' z => h _ (h9 μ' z)⟩)
def oc_X10_firstUnlike (n : Nat) : ix_Op := fun k _ ls st μ => match st with
  | .inr (.inr (t2, a2)) :: .inr (.inr (t1, a1)) :: .inr (.inr (t0, a0)) :: r => t0 = 9 ∧ t1 = 8 ∧ t2 = 3 ∧ ix_cs r ≤ 8 ∧ T_X10_firstUnlike (a0, a1, a2) μ (fun q => k (n, ls, q.1.toList ++ r, q.2))
  | _ => False
theorem oc_X10_firstUnlike_s {l : Launch} {cc : ByteArray} {nL : Nat} {own : String} {d : Nat} {rt : Option FieldType} {pc n : Nat} (h : ix_S l cc nL own d rt pc (ix_call 3 sh_X10_firstUnlike T_X10_firstUnlike n)) : ix_S l cc nL own d rt pc (oc_X10_firstUnlike n) := by
  refine h.by (fun k Q ls st μ h => ?_) (fun k k' Q ls st μ hk h => ?_)
  · unfold oc_X10_firstUnlike at h
    split at h
    · rename_i t2 a2 t1 a1 t0 a0 r
      obtain ⟨rfl, rfl, rfl, h1, h2⟩ := h
      exact ⟨h1, (a0, a1, a2), rfl, _, h2, fun r h => h⟩
    · exact h.elim
  · unfold oc_X10_firstUnlike at h ⊢
    split at h
    · obtain ⟨rfl, rfl, rfl, h1, h2⟩ := h
      exact ⟨rfl, rfl, rfl, h1, mo_X10_firstUnlike _ _ _ _ (fun q hq => hk _ hq) h2⟩
    · exact h.elim
def o_X10_firstUnlike : List (Nat × ix_Op) := [
  (0, ix_push (vi 0) 1),
  (1, ix_istore 3 2),
  (2, ix_iload 3 3),
  (3, ix_aload 2 4),
  (4, ix_geti 3 1 7),
  (7, ix_cmp (fun x y => y ≤ x) 43 10),
  (10, ix_aload 1 11),
  (11, ix_aload 0 12),
  (12, ix_getr 9 5 (fun _ => 1) 15),
  (15, ix_getr 5 0 (fun k => k + 9) 18),
  (18, ix_push (vi (-1)) 19),
  (19, ix_push (vi 0) 20),
  (20, oc_X9_pass 23),
  (23, ix_aload 1 24),
  (24, oc_X9_had 27),
  (27, ix_aload 2 28),
  (28, ix_iload 3 29),
  (29, oc_X4_get 32),
  (32, ix_cmp (fun x y => x = y) 37 35),
  (35, ix_iload 3 36),
  (36, ix_iret),
  (37, ix_iinc 3 1 40),
  (40, ix_goto 2),
  (43, ix_push (vi (-1)) 44),
  (44, ix_iret)]
set_option maxRecDepth 20000 in
theorem a_X10_firstUnlike (l : Launch) : ix_AllS l cX10_firstUnlike 4 RX10 6 (some .int) o_X10_firstUnlike :=
  .cons (ix_s_iconst dX10_firstUnlike_0 (by decide +kernel)) <|
  .cons (ix_s_istore_n dX10_firstUnlike_1 rfl (by decide)) <|
  .cons (ix_s_iload_n dX10_firstUnlike_2 rfl) <|
  .cons (ix_s_aload_n dX10_firstUnlike_3 rfl) <|
  .cons (ix_s_geti (j := 1) tu_X4 rfl (by decide) (by decide) tw_113 rfl ts_3_1_i dX10_firstUnlike_4) <|
  .cons (ix_s_cmp_ge dX10_firstUnlike_7 (by decide)) <|
  .cons (ix_s_aload_n dX10_firstUnlike_10 rfl) <|
  .cons (ix_s_aload_n dX10_firstUnlike_11 rfl) <|
  .cons (ix_s_getr (j := 0) tu_X10 rfl (by decide) (by decide) tw_251 rfl ts_9_0_r dX10_firstUnlike_12) <|
  .cons (ix_s_getr (j := 1) tu_X6 rfl (by decide) (by decide) tw_140 rfl ts_5_1_r dX10_firstUnlike_15) <|
  .cons (ix_s_iconst dX10_firstUnlike_18 (by decide +kernel)) <|
  .cons (ix_s_iconst dX10_firstUnlike_19 (by decide +kernel)) <|
  .cons (oc_X9_pass_s (ix_s_callv (t := 8) (k_X9_pass l) (by decide) (by decide) tw_599 tw_3 tw_596 tw_597 tw_598 ⟨by decide, by decide, by decide +kernel⟩ (by decide) rfl rfl (fun _ => ⟨_, _, rfl, rfl⟩) dX10_firstUnlike_20)) <|
  .cons (ix_s_aload_n dX10_firstUnlike_23 rfl) <|
  .cons (oc_X9_had_s (ix_s_callv (t := 8) (k_X9_had l) (by decide) (by decide) tw_617 tw_3 tw_614 tw_615 tw_616 ⟨by decide, by decide, by decide +kernel⟩ (by decide) rfl rfl (fun _ => ⟨_, _, rfl, rfl⟩) dX10_firstUnlike_24)) <|
  .cons (ix_s_aload_n dX10_firstUnlike_27 rfl) <|
  .cons (ix_s_iload_n dX10_firstUnlike_28 rfl) <|
  .cons (oc_X4_get_s (ix_s_callv (t := 3) (k_X4_get l) (by decide) (by decide) tw_747 tw_6 tw_744 tw_745 tw_746 ⟨by decide, by decide, by decide +kernel⟩ (by decide) rfl rfl (fun _ => ⟨_, _, rfl, rfl⟩) dX10_firstUnlike_29)) <|
  .cons (ix_s_cmp_eq dX10_firstUnlike_32 (by decide)) <|
  .cons (ix_s_iload_n dX10_firstUnlike_35 rfl) <|
  .cons (ix_s_iret dX10_firstUnlike_36 rfl) <|
  .cons (ix_s_iinc dX10_firstUnlike_37 (by decide +kernel) (by decide)) <|
  .cons (ix_s_goto dX10_firstUnlike_40 (by decide)) <|
  .cons (ix_s_iconst dX10_firstUnlike_43 (by decide +kernel)) <|
  .cons (ix_s_iret dX10_firstUnlike_44 rfl) <| .nil
theorem e_X10_firstUnlike_0 (Q : ix_R → Prop) (ls : ix_L) (st : List ix_V) (μ : ix_M) : ix_Ev o_X10_firstUnlike Q (0, ls, st, μ) = ix_push (vi 0) 1 (ix_Ev o_X10_firstUnlike Q) Q ls st μ := ix_Ev.eq (a_X10_firstUnlike launch0) rfl ls st μ
theorem e_X10_firstUnlike_1 (Q : ix_R → Prop) (ls : ix_L) (st : List ix_V) (μ : ix_M) : ix_Ev o_X10_firstUnlike Q (1, ls, st, μ) = ix_istore 3 2 (ix_Ev o_X10_firstUnlike Q) Q ls st μ := ix_Ev.eq (a_X10_firstUnlike launch0) rfl ls st μ
theorem e_X10_firstUnlike_2 (Q : ix_R → Prop) (ls : ix_L) (st : List ix_V) (μ : ix_M) : ix_Ev o_X10_firstUnlike Q (2, ls, st, μ) = ix_iload 3 3 (ix_Ev o_X10_firstUnlike Q) Q ls st μ := ix_Ev.eq (a_X10_firstUnlike launch0) rfl ls st μ
theorem e_X10_firstUnlike_3 (Q : ix_R → Prop) (ls : ix_L) (st : List ix_V) (μ : ix_M) : ix_Ev o_X10_firstUnlike Q (3, ls, st, μ) = ix_aload 2 4 (ix_Ev o_X10_firstUnlike Q) Q ls st μ := ix_Ev.eq (a_X10_firstUnlike launch0) rfl ls st μ
theorem e_X10_firstUnlike_4 (Q : ix_R → Prop) (ls : ix_L) (st : List ix_V) (μ : ix_M) : ix_Ev o_X10_firstUnlike Q (4, ls, st, μ) = ix_geti 3 1 7 (ix_Ev o_X10_firstUnlike Q) Q ls st μ := ix_Ev.eq (a_X10_firstUnlike launch0) rfl ls st μ
theorem e_X10_firstUnlike_7 (Q : ix_R → Prop) (ls : ix_L) (st : List ix_V) (μ : ix_M) : ix_Ev o_X10_firstUnlike Q (7, ls, st, μ) = ix_cmp (fun x y => y ≤ x) 43 10 (ix_Ev o_X10_firstUnlike Q) Q ls st μ := ix_Ev.eq (a_X10_firstUnlike launch0) rfl ls st μ
theorem e_X10_firstUnlike_10 (Q : ix_R → Prop) (ls : ix_L) (st : List ix_V) (μ : ix_M) : ix_Ev o_X10_firstUnlike Q (10, ls, st, μ) = ix_aload 1 11 (ix_Ev o_X10_firstUnlike Q) Q ls st μ := ix_Ev.eq (a_X10_firstUnlike launch0) rfl ls st μ
theorem e_X10_firstUnlike_11 (Q : ix_R → Prop) (ls : ix_L) (st : List ix_V) (μ : ix_M) : ix_Ev o_X10_firstUnlike Q (11, ls, st, μ) = ix_aload 0 12 (ix_Ev o_X10_firstUnlike Q) Q ls st μ := ix_Ev.eq (a_X10_firstUnlike launch0) rfl ls st μ
theorem e_X10_firstUnlike_12 (Q : ix_R → Prop) (ls : ix_L) (st : List ix_V) (μ : ix_M) : ix_Ev o_X10_firstUnlike Q (12, ls, st, μ) = ix_getr 9 5 (fun _ => 1) 15 (ix_Ev o_X10_firstUnlike Q) Q ls st μ := ix_Ev.eq (a_X10_firstUnlike launch0) rfl ls st μ
theorem e_X10_firstUnlike_15 (Q : ix_R → Prop) (ls : ix_L) (st : List ix_V) (μ : ix_M) : ix_Ev o_X10_firstUnlike Q (15, ls, st, μ) = ix_getr 5 0 (fun k => k + 9) 18 (ix_Ev o_X10_firstUnlike Q) Q ls st μ := ix_Ev.eq (a_X10_firstUnlike launch0) rfl ls st μ
theorem e_X10_firstUnlike_18 (Q : ix_R → Prop) (ls : ix_L) (st : List ix_V) (μ : ix_M) : ix_Ev o_X10_firstUnlike Q (18, ls, st, μ) = ix_push (vi (-1)) 19 (ix_Ev o_X10_firstUnlike Q) Q ls st μ := ix_Ev.eq (a_X10_firstUnlike launch0) rfl ls st μ
theorem e_X10_firstUnlike_19 (Q : ix_R → Prop) (ls : ix_L) (st : List ix_V) (μ : ix_M) : ix_Ev o_X10_firstUnlike Q (19, ls, st, μ) = ix_push (vi 0) 20 (ix_Ev o_X10_firstUnlike Q) Q ls st μ := ix_Ev.eq (a_X10_firstUnlike launch0) rfl ls st μ
theorem e_X10_firstUnlike_20 (Q : ix_R → Prop) (ls : ix_L) (st : List ix_V) (μ : ix_M) : ix_Ev o_X10_firstUnlike Q (20, ls, st, μ) = oc_X9_pass 23 (ix_Ev o_X10_firstUnlike Q) Q ls st μ := ix_Ev.eq (a_X10_firstUnlike launch0) rfl ls st μ
theorem e_X10_firstUnlike_23 (Q : ix_R → Prop) (ls : ix_L) (st : List ix_V) (μ : ix_M) : ix_Ev o_X10_firstUnlike Q (23, ls, st, μ) = ix_aload 1 24 (ix_Ev o_X10_firstUnlike Q) Q ls st μ := ix_Ev.eq (a_X10_firstUnlike launch0) rfl ls st μ
theorem e_X10_firstUnlike_24 (Q : ix_R → Prop) (ls : ix_L) (st : List ix_V) (μ : ix_M) : ix_Ev o_X10_firstUnlike Q (24, ls, st, μ) = oc_X9_had 27 (ix_Ev o_X10_firstUnlike Q) Q ls st μ := ix_Ev.eq (a_X10_firstUnlike launch0) rfl ls st μ
theorem e_X10_firstUnlike_27 (Q : ix_R → Prop) (ls : ix_L) (st : List ix_V) (μ : ix_M) : ix_Ev o_X10_firstUnlike Q (27, ls, st, μ) = ix_aload 2 28 (ix_Ev o_X10_firstUnlike Q) Q ls st μ := ix_Ev.eq (a_X10_firstUnlike launch0) rfl ls st μ
theorem e_X10_firstUnlike_28 (Q : ix_R → Prop) (ls : ix_L) (st : List ix_V) (μ : ix_M) : ix_Ev o_X10_firstUnlike Q (28, ls, st, μ) = ix_iload 3 29 (ix_Ev o_X10_firstUnlike Q) Q ls st μ := ix_Ev.eq (a_X10_firstUnlike launch0) rfl ls st μ
theorem e_X10_firstUnlike_29 (Q : ix_R → Prop) (ls : ix_L) (st : List ix_V) (μ : ix_M) : ix_Ev o_X10_firstUnlike Q (29, ls, st, μ) = oc_X4_get 32 (ix_Ev o_X10_firstUnlike Q) Q ls st μ := ix_Ev.eq (a_X10_firstUnlike launch0) rfl ls st μ
theorem e_X10_firstUnlike_32 (Q : ix_R → Prop) (ls : ix_L) (st : List ix_V) (μ : ix_M) : ix_Ev o_X10_firstUnlike Q (32, ls, st, μ) = ix_cmp (fun x y => x = y) 37 35 (ix_Ev o_X10_firstUnlike Q) Q ls st μ := ix_Ev.eq (a_X10_firstUnlike launch0) rfl ls st μ
theorem e_X10_firstUnlike_35 (Q : ix_R → Prop) (ls : ix_L) (st : List ix_V) (μ : ix_M) : ix_Ev o_X10_firstUnlike Q (35, ls, st, μ) = ix_iload 3 36 (ix_Ev o_X10_firstUnlike Q) Q ls st μ := ix_Ev.eq (a_X10_firstUnlike launch0) rfl ls st μ
theorem e_X10_firstUnlike_36 (Q : ix_R → Prop) (ls : ix_L) (st : List ix_V) (μ : ix_M) : ix_Ev o_X10_firstUnlike Q (36, ls, st, μ) = ix_iret (ix_Ev o_X10_firstUnlike Q) Q ls st μ := ix_Ev.eq (a_X10_firstUnlike launch0) rfl ls st μ
theorem e_X10_firstUnlike_37 (Q : ix_R → Prop) (ls : ix_L) (st : List ix_V) (μ : ix_M) : ix_Ev o_X10_firstUnlike Q (37, ls, st, μ) = ix_iinc 3 1 40 (ix_Ev o_X10_firstUnlike Q) Q ls st μ := ix_Ev.eq (a_X10_firstUnlike launch0) rfl ls st μ
theorem e_X10_firstUnlike_40 (Q : ix_R → Prop) (ls : ix_L) (st : List ix_V) (μ : ix_M) : ix_Ev o_X10_firstUnlike Q (40, ls, st, μ) = ix_goto 2 (ix_Ev o_X10_firstUnlike Q) Q ls st μ := ix_Ev.eq (a_X10_firstUnlike launch0) rfl ls st μ
theorem e_X10_firstUnlike_43 (Q : ix_R → Prop) (ls : ix_L) (st : List ix_V) (μ : ix_M) : ix_Ev o_X10_firstUnlike Q (43, ls, st, μ) = ix_push (vi (-1)) 44 (ix_Ev o_X10_firstUnlike Q) Q ls st μ := ix_Ev.eq (a_X10_firstUnlike launch0) rfl ls st μ
theorem e_X10_firstUnlike_44 (Q : ix_R → Prop) (ls : ix_L) (st : List ix_V) (μ : ix_M) : ix_Ev o_X10_firstUnlike Q (44, ls, st, μ) = ix_iret (ix_Ev o_X10_firstUnlike Q) Q ls st μ := ix_Ev.eq (a_X10_firstUnlike launch0) rfl ls st μ
theorem l_X10_firstUnlike {o w r M N : Nat} {μ : ix_M} {ds dl : List Int32} {Q : ix_R → Prop} (hw : w = 2 ∨ w = 25 ∨ w = 48 ∨ w = 56 ∨ w = 64 ∨ w = 72 ∨ w = 80) (hMN : M + N < 30000) (hN : N ≤ 40) (hs : μ r 1 = nI N) (hlen : N ≤ ix_len (r + 1)) (hL : LW μ ds dl) (hr : r ∉ wP w) (hr1 : r + 1 ∉ wP w) :
    ∀ (k i : Nat) (μ1 : ix_M), i + k = N → Fx (wP w) μ μ1 → WAt (wv μ1 w) (M + i) → (∀ μ', Fx (wP w) μ μ' → Q (some (vi (fUn ds dl (μ (r + 1)) k i (wv μ1 w))), μ')) → ix_Ev o_X10_firstUnlike Q (2, [some (vr 9 o), some (vr 8 w), some (vr 3 r), some (vi (nI i))], [], μ1) := by
  intro k
  induction k with
  | zero =>
    intro i μ1 hi hF hW hQ
    have hi : i = N := hi
    subst hi
    have hle : nI i ≤ nI i := Int32.le_refl _
    have e0 : μ1 r = μ r := hF r hr
    rw [e_X10_firstUnlike_2]
    simp (decide := true) only [e_X10_firstUnlike_0, e_X10_firstUnlike_1, e_X10_firstUnlike_3, e_X10_firstUnlike_4, e_X10_firstUnlike_7, e_X10_firstUnlike_10, e_X10_firstUnlike_11, e_X10_firstUnlike_12, e_X10_firstUnlike_15, e_X10_firstUnlike_18, e_X10_firstUnlike_19, e_X10_firstUnlike_20, e_X10_firstUnlike_23, e_X10_firstUnlike_24, e_X10_firstUnlike_27, e_X10_firstUnlike_28, e_X10_firstUnlike_29, e_X10_firstUnlike_32, e_X10_firstUnlike_35, e_X10_firstUnlike_36, e_X10_firstUnlike_37, e_X10_firstUnlike_40, e_X10_firstUnlike_43, e_X10_firstUnlike_44, vi, vl, vr, oc_X4_get, T_X4_get, oc_X9_had, T_X9_had, oc_X9_pass, T_X9_pass, ix_push, ix_iload, ix_lload, ix_aload, ix_istore, ix_astore, ix_iinc, ix_bin, ix_div, ix_un, ix_i2l, ix_l2i, ix_lbin, ix_lsh, ix_lcmp, ix_dup, ix_dup2, ix_pop, ix_if, ix_cmp, ix_goto, ix_switch, ix_sw, ix_iret, ix_zret, ix_vret, ix_aret, ix_geti, ix_getr, ix_puti, ix_putz, ix_puts, ix_gets, ix_iald, ix_iast, ix_alen, ix_aald, ix_gval, ix_gcod, ix_bald, ix_blen, ix_sald, ix_nret, ix_math2, ix_math1, ix_acopy, Nat.add_assoc, Int32.reduceLT, Int32.reduceLE, Int32.reduceToNatClampNeg, Int32.reduceSub, Int32.reduceAdd, Nat.reduceAdd, Nat.reduceLeDiff, true_or, or_true, or_false, false_or, not_false_eq_true, not_true_eq_false, false_implies, true_implies, implies_true, and_self, mB_0, mB_01, Classical.not_not, Nat.zero_le, List.getElem?_cons_zero, List.getElem?_cons_succ, List.set_cons_zero, List.set_cons_succ, ix_nl, ix_cs, true_and, and_true, Option.toList_some, Option.toList_none, List.cons_append, List.nil_append, e0, hs, hle]
    exact hQ μ1 hF
  | succ k ih =>
    intro i μ1 hi hF hW hQ
    have hng : ¬ nI N ≤ nI i := nI_ge (by omega) (by omega)
    have hn0 : ¬ nI i < 0 := nI_pos (by omega)
    have hci : (nI i).toNatClampNeg = i := nI_clamp (by omega)
    have e0 : μ1 r = μ r := hF r hr
    have hL1 := hL.fx hF (wP_no hw)
    rw [e_X10_firstUnlike_2]
    simp (decide := true) only [e_X10_firstUnlike_0, e_X10_firstUnlike_1, e_X10_firstUnlike_3, e_X10_firstUnlike_4, e_X10_firstUnlike_7, e_X10_firstUnlike_10, e_X10_firstUnlike_11, e_X10_firstUnlike_12, e_X10_firstUnlike_15, e_X10_firstUnlike_18, e_X10_firstUnlike_19, e_X10_firstUnlike_20, e_X10_firstUnlike_23, e_X10_firstUnlike_24, e_X10_firstUnlike_27, e_X10_firstUnlike_28, e_X10_firstUnlike_29, e_X10_firstUnlike_32, e_X10_firstUnlike_35, e_X10_firstUnlike_36, e_X10_firstUnlike_37, e_X10_firstUnlike_40, e_X10_firstUnlike_43, e_X10_firstUnlike_44, vi, vl, vr, oc_X4_get, T_X4_get, oc_X9_had, T_X9_had, oc_X9_pass, T_X9_pass, ix_push, ix_iload, ix_lload, ix_aload, ix_istore, ix_astore, ix_iinc, ix_bin, ix_div, ix_un, ix_i2l, ix_l2i, ix_lbin, ix_lsh, ix_lcmp, ix_dup, ix_dup2, ix_pop, ix_if, ix_cmp, ix_goto, ix_switch, ix_sw, ix_iret, ix_zret, ix_vret, ix_aret, ix_geti, ix_getr, ix_puti, ix_putz, ix_puts, ix_gets, ix_iald, ix_iast, ix_alen, ix_aald, ix_gval, ix_gcod, ix_bald, ix_blen, ix_sald, ix_nret, ix_math2, ix_math1, ix_acopy, Nat.add_assoc, Int32.reduceLT, Int32.reduceLE, Int32.reduceToNatClampNeg, Int32.reduceSub, Int32.reduceAdd, Nat.reduceAdd, Nat.reduceLeDiff, true_or, or_true, or_false, false_or, not_false_eq_true, not_true_eq_false, false_implies, true_implies, implies_true, and_self, mB_0, mB_01, Classical.not_not, Nat.zero_le, List.getElem?_cons_zero, List.getElem?_cons_succ, List.set_cons_zero, List.set_cons_succ, ix_nl, ix_cs, true_and, and_true, Option.toList_some, Option.toList_none, List.cons_append, List.nil_append, e0, hs, hng]
    refine ⟨hW.ok (by omega), ds, dl, hL1.1, hL1.2, fun μ' hF' hv' => ?_⟩
    have hF2 := hF.tr hF'
    have e2 : μ' r = μ r := hF2 r hr
    have e3 : μ' (r + 1) = μ (r + 1) := hF2 (r + 1) hr1
    have hW' := hW.pV ds dl (-1) 0
    rw [← hv'] at hW'
    obtain ⟨g1, g2⟩ := hW'.had
    have hro : RowOk μ' r := by
      unfold RowOk
      rw [e2, hs, nI_toInt (by omega)]
      omega
    refine ⟨g1, hro, ?_⟩
    rw [e2, hs, if_pos ⟨hn0, hng⟩, hci, e3, g2, hv']
    refine ⟨fun c => ?_, fun c => ?_⟩
    · rw [nI_1]
      refine ih (i + 1) μ' (by omega) hF2 hW' (fun μ2 h2 => ?_)
      have := hQ μ2 h2
      rw [hv']
      simp only [fUn, if_pos c] at this
      exact this
    · have := hQ μ' hF2
      simp only [fUn, if_neg c] at this
      exact this
theorem r_X10_firstUnlike (o : Nat) (w : Nat) (r : Nat) (μ : ix_M) (Q : ix_R → Prop) (ok_o : o < ix_N ∧ ix_tag o = 9) (ok_w : w < ix_N ∧ ix_tag w = 8) (ok_r : r < ix_N ∧ ix_tag r = 3) (hT : T_X10_firstUnlike (o, w, r) μ Q) : ix_Ev o_X10_firstUnlike Q (0, [some (vr 9 o), some (vr 8 w), some (vr 3 r), none], [], μ) := by
  obtain ⟨hw, -⟩ := ok_water w ok_w.1 ok_w.2
  obtain ⟨M, N, ds, dl, h1, h2, h3, h4, h5, h6, h7, h8, hQ⟩ := hT
  simp (decide := true) only [e_X10_firstUnlike_0, e_X10_firstUnlike_1, e_X10_firstUnlike_3, e_X10_firstUnlike_4, e_X10_firstUnlike_7, e_X10_firstUnlike_10, e_X10_firstUnlike_11, e_X10_firstUnlike_12, e_X10_firstUnlike_15, e_X10_firstUnlike_18, e_X10_firstUnlike_19, e_X10_firstUnlike_20, e_X10_firstUnlike_23, e_X10_firstUnlike_24, e_X10_firstUnlike_27, e_X10_firstUnlike_28, e_X10_firstUnlike_29, e_X10_firstUnlike_32, e_X10_firstUnlike_35, e_X10_firstUnlike_36, e_X10_firstUnlike_37, e_X10_firstUnlike_40, e_X10_firstUnlike_43, e_X10_firstUnlike_44, vi, vl, vr, oc_X4_get, T_X4_get, oc_X9_had, T_X9_had, oc_X9_pass, T_X9_pass, ix_push, ix_iload, ix_lload, ix_aload, ix_istore, ix_astore, ix_iinc, ix_bin, ix_div, ix_un, ix_i2l, ix_l2i, ix_lbin, ix_lsh, ix_lcmp, ix_dup, ix_dup2, ix_pop, ix_if, ix_cmp, ix_goto, ix_switch, ix_sw, ix_iret, ix_zret, ix_vret, ix_aret, ix_geti, ix_getr, ix_puti, ix_putz, ix_puts, ix_gets, ix_iald, ix_iast, ix_alen, ix_aald, ix_gval, ix_gcod, ix_bald, ix_blen, ix_sald, ix_nret, ix_math2, ix_math1, ix_acopy, Nat.add_assoc, Int32.reduceLT, Int32.reduceLE, Int32.reduceToNatClampNeg, Int32.reduceSub, Int32.reduceAdd, Nat.reduceAdd, Nat.reduceLeDiff, true_or, or_true, or_false, false_or, not_false_eq_true, not_true_eq_false, false_implies, true_implies, implies_true, and_self, mB_0, mB_01, Classical.not_not, Nat.zero_le, List.getElem?_cons_zero, List.getElem?_cons_succ, List.set_cons_zero, List.set_cons_succ, ix_nl, ix_cs, true_and, and_true, Option.toList_some, Option.toList_none, List.cons_append, List.nil_append]
  exact l_X10_firstUnlike hw h5 h3 h2 h4 h6 h7 h8 N 0 μ (by omega) Fx.rf h1 hQ
theorem k_X10_firstUnlike (l : Launch) : ix_Ct l yX10_firstUnlike cX10_firstUnlike 4 (some .int) 6 sh_X10_firstUnlike T_X10_firstUnlike := ix_ct (a_X10_firstUnlike l) rfl (by decide) (fun _ => Nat.le_of_ble_eq_true rfl) (fun x μ Q hok hT => r_X10_firstUnlike x.1 x.2.1 x.2.2 μ Q (ix_ok_at (hok (vr 9 x.1) (by simp [sh_X10_firstUnlike])) (by decide) (by decide)) (ix_ok_at (hok (vr 8 x.2.1) (by simp [sh_X10_firstUnlike])) (by decide) (by decide)) (ix_ok_at (hok (vr 3 x.2.2) (by simp [sh_X10_firstUnlike])) (by decide) (by decide)) hT)
