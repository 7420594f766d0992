/-! ===== the model: the levels of a text ===== -/
def lf (f : RF) (q : Bool × RS) : Bool × RS := if q.1 = true then f q.2 else q
def T_rd (tp : Nat → Int32) (n u k : Nat) (f : RF) : Nat → ix_M → (ix_R → Prop) → Prop := fun _ μ Q => ∃ q, PsC μ tp n u k q ∧ q.2.2.length ≤ q.2.1 ∧ ∀ μ', Fx [112, 118] μ μ' → PsC μ' tp n u k (lf f q) → Q (none, μ')
theorem mo_rd (tp : Nat → Int32) (n u k : Nat) (f : RF) : ∀ (x : Nat) (μ : ix_M) (Q Q' : ix_R → Prop), (∀ r, Q r → Q' r) → T_rd tp n u k f x μ Q → T_rd tp n u k f x μ Q' := by
  rintro x μ Q Q' h ⟨q, h1, h2, h3⟩
  exact ⟨q, h1, h2, fun μ' a b => h _ (h3 μ' a b)⟩
def sh_X11_compared (x : Nat) : List ix_V := [vr 10 x]
def ocr_X11_compared (T : Nat → ix_M → (ix_R → Prop) → Prop) (n : Nat) : ix_Op := fun k _ ls st μ => match st with
  | .inr (.inr (t0, a0)) :: r => t0 = 10 ∧ ix_cs r ≤ 8 ∧ T a0 μ (fun q => k (n, ls, q.1.toList ++ r, q.2))
  | _ => False
theorem ocr_X11_compared_s {T : Nat → ix_M → (ix_R → Prop) → Prop} (hm : ∀ x μ Q Q', (∀ r, Q r → Q' r) → T x μ Q → T x μ Q') {l : Launch} {cc : ByteArray} {nL : Nat} {own : String} {d : Nat} {rt : Option FieldType} {pc n : Nat} (h : ix_S l cc nL own d rt pc (ix_call 1 sh_X11_compared T n)) : ix_S l cc nL own d rt pc (ocr_X11_compared T n) := by
  refine h.by (fun k Q ls st μ h => ?_) (fun k k' Q ls st μ hk h => ?_)
  · unfold ocr_X11_compared at h
    split at h
    · rename_i t0 a0 r
      obtain ⟨rfl, h1, h2⟩ := h
      exact ⟨h1, a0, rfl, _, h2, fun r h => h⟩
    · exact h.elim
  · unfold ocr_X11_compared at h ⊢
    split at h
    · obtain ⟨rfl, h1, h2⟩ := h
      exact ⟨rfl, h1, hm _ _ _ _ (fun q hq => hk _ hq) h2⟩
    · exact h.elim
def sh_X11_both (x : Nat) : List ix_V := [vr 10 x]
def ocr_X11_both (T : Nat → ix_M → (ix_R → Prop) → Prop) (n : Nat) : ix_Op := fun k _ ls st μ => match st with
  | .inr (.inr (t0, a0)) :: r => t0 = 10 ∧ ix_cs r ≤ 8 ∧ T a0 μ (fun q => k (n, ls, q.1.toList ++ r, q.2))
  | _ => False
theorem ocr_X11_both_s {T : Nat → ix_M → (ix_R → Prop) → Prop} (hm : ∀ x μ Q Q', (∀ r, Q r → Q' r) → T x μ Q → T x μ Q') {l : Launch} {cc : ByteArray} {nL : Nat} {own : String} {d : Nat} {rt : Option FieldType} {pc n : Nat} (h : ix_S l cc nL own d rt pc (ix_call 1 sh_X11_both T n)) : ix_S l cc nL own d rt pc (ocr_X11_both T n) := by
  refine h.by (fun k Q ls st μ h => ?_) (fun k k' Q ls st μ hk h => ?_)
  · unfold ocr_X11_both at h
    split at h
    · rename_i t0 a0 r
      obtain ⟨rfl, h1, h2⟩ := h
      exact ⟨h1, a0, rfl, _, h2, fun r h => h⟩
    · exact h.elim
  · unfold ocr_X11_both at h ⊢
    split at h
    · obtain ⟨rfl, h1, h2⟩ := h
      exact ⟨rfl, h1, hm _ _ _ _ (fun q hq => hk _ hq) h2⟩
    · exact h.elim
def sh_X11_either (x : Nat) : List ix_V := [vr 10 x]
def ocr_X11_either (T : Nat → ix_M → (ix_R → Prop) → Prop) (n : Nat) : ix_Op := fun k _ ls st μ => match st with
  | .inr (.inr (t0, a0)) :: r => t0 = 10 ∧ ix_cs r ≤ 8 ∧ T a0 μ (fun q => k (n, ls, q.1.toList ++ r, q.2))
  | _ => False
theorem ocr_X11_either_s {T : Nat → ix_M → (ix_R → Prop) → Prop} (hm : ∀ x μ Q Q', (∀ r, Q r → Q' r) → T x μ Q → T x μ Q') {l : Launch} {cc : ByteArray} {nL : Nat} {own : String} {d : Nat} {rt : Option FieldType} {pc n : Nat} (h : ix_S l cc nL own d rt pc (ix_call 1 sh_X11_either T n)) : ix_S l cc nL own d rt pc (ocr_X11_either T n) := by
  refine h.by (fun k Q ls st μ h => ?_) (fun k k' Q ls st μ hk h => ?_)
  · unfold ocr_X11_either at h
    split at h
    · rename_i t0 a0 r
      obtain ⟨rfl, h1, h2⟩ := h
      exact ⟨h1, a0, rfl, _, h2, fun r h => h⟩
    · exact h.elim
  · unfold ocr_X11_either at h ⊢
    split at h
    · obtain ⟨rfl, h1, h2⟩ := h
      exact ⟨rfl, h1, hm _ _ _ _ (fun q hq => hk _ hq) h2⟩
    · exact h.elim
def o_X11_both (TX11_compared : Nat → ix_M → (ix_R → Prop) → Prop) : List (Nat × ix_Op) := [
  (0, ix_aload 0 1),
  (1, ocr_X11_compared TX11_compared 4),
  (4, ix_aload 0 5),
  (5, ix_push (vi 38) 7),
  (7, oc_X11_takes 10),
  (10, ix_if (fun x => x = 0) 27 13),
  (13, ix_aload 0 14),
  (14, ocr_X11_compared TX11_compared 17),
  (17, ix_aload 0 18),
  (18, ix_push (vi 20001) 21),
  (21, oc_X11_codes 24),
  (24, ix_goto 4),
  (27, ix_vret)]
set_option maxRecDepth 20000 in
theorem a_X11_both (l : Launch) (d : Nat) (hlev : 6 ≤ d) {TX11_compared : Nat → ix_M → (ix_R → Prop) → Prop} {d_X11_compared : Nat} (h_X11_compared : ix_Ct l yX11_compared cX11_compared 2 none d_X11_compared sh_X11_compared TX11_compared) (hl_X11_compared : d_X11_compared < d) (hm_X11_compared : ∀ x μ Q Q', (∀ r, Q r → Q' r) → TX11_compared x μ Q → TX11_compared x μ Q') : ix_AllS l cX11_both 1 RX11 d none (o_X11_both TX11_compared) :=
  .cons (ix_s_aload_n dX11_both_0 rfl) <|
  .cons (ocr_X11_compared_s hm_X11_compared (ix_s_callv (t := 10) h_X11_compared hl_X11_compared (by decide) tw_984 tw_12 tw_981 tw_983 tp_21 ⟨by decide, by decide, by decide +kernel⟩ (by decide) rfl rfl (fun _ => ⟨_, _, rfl, rfl⟩) dX11_both_1)) <|
  .cons (ix_s_aload_n dX11_both_4 rfl) <|
  .cons (ix_s_bipush dX11_both_5 (by decide +kernel)) <|
  .cons (oc_X11_takes_s (ix_s_callv (t := 10) (k_X11_takes l) (by omega) (by decide) tw_1008 tw_12 tw_1005 tw_1007 tp_27 ⟨by decide, by decide, by decide +kernel⟩ (by decide) rfl rfl (fun _ => ⟨_, _, rfl, rfl⟩) dX11_both_7)) <|
  .cons (ix_s_if_eq dX11_both_10 (by decide)) <|
  .cons (ix_s_aload_n dX11_both_13 rfl) <|
  .cons (ocr_X11_compared_s hm_X11_compared (ix_s_callv (t := 10) h_X11_compared hl_X11_compared (by decide) tw_984 tw_12 tw_981 tw_983 tp_21 ⟨by decide, by decide, by decide +kernel⟩ (by decide) rfl rfl (fun _ => ⟨_, _, rfl, rfl⟩) dX11_both_14)) <|
  .cons (ix_s_aload_n dX11_both_17 rfl) <|
  .cons (ix_s_sipush dX11_both_18 (by decide +kernel)) <|
  .cons (oc_X11_codes_s (ix_s_callv (t := 10) (k_X11_codes l) (by omega) (by decide) tw_1004 tw_12 tw_1001 tw_1003 tp_26 ⟨by decide, by decide, by decide +kernel⟩ (by decide) rfl rfl (fun _ => ⟨_, _, rfl, rfl⟩) dX11_both_21)) <|
  .cons (ix_s_goto dX11_both_24 (by decide)) <|
  .cons (ix_s_vret dX11_both_27 rfl) <| .nil
theorem e_X11_both_0 {TX11_compared : Nat → ix_M → (ix_R → Prop) → Prop} {l : Launch} {d : Nat} (H : ix_AllS l cX11_both 1 RX11 d none (o_X11_both TX11_compared)) (Q : ix_R → Prop) (ls : ix_L) (st : List ix_V) (μ : ix_M) : ix_Ev (o_X11_both TX11_compared) Q (0, ls, st, μ) = ix_aload 0 1 (ix_Ev (o_X11_both TX11_compared) Q) Q ls st μ := ix_Ev.eq H rfl ls st μ
theorem e_X11_both_1 {TX11_compared : Nat → ix_M → (ix_R → Prop) → Prop} {l : Launch} {d : Nat} (H : ix_AllS l cX11_both 1 RX11 d none (o_X11_both TX11_compared)) (Q : ix_R → Prop) (ls : ix_L) (st : List ix_V) (μ : ix_M) : ix_Ev (o_X11_both TX11_compared) Q (1, ls, st, μ) = ocr_X11_compared TX11_compared 4 (ix_Ev (o_X11_both TX11_compared) Q) Q ls st μ := ix_Ev.eq H rfl ls st μ
theorem e_X11_both_4 {TX11_compared : Nat → ix_M → (ix_R → Prop) → Prop} {l : Launch} {d : Nat} (H : ix_AllS l cX11_both 1 RX11 d none (o_X11_both TX11_compared)) (Q : ix_R → Prop) (ls : ix_L) (st : List ix_V) (μ : ix_M) : ix_Ev (o_X11_both TX11_compared) Q (4, ls, st, μ) = ix_aload 0 5 (ix_Ev (o_X11_both TX11_compared) Q) Q ls st μ := ix_Ev.eq H rfl ls st μ
theorem e_X11_both_5 {TX11_compared : Nat → ix_M → (ix_R → Prop) → Prop} {l : Launch} {d : Nat} (H : ix_AllS l cX11_both 1 RX11 d none (o_X11_both TX11_compared)) (Q : ix_R → Prop) (ls : ix_L) (st : List ix_V) (μ : ix_M) : ix_Ev (o_X11_both TX11_compared) Q (5, ls, st, μ) = ix_push (vi 38) 7 (ix_Ev (o_X11_both TX11_compared) Q) Q ls st μ := ix_Ev.eq H rfl ls st μ
theorem e_X11_both_7 {TX11_compared : Nat → ix_M → (ix_R → Prop) → Prop} {l : Launch} {d : Nat} (H : ix_AllS l cX11_both 1 RX11 d none (o_X11_both TX11_compared)) (Q : ix_R → Prop) (ls : ix_L) (st : List ix_V) (μ : ix_M) : ix_Ev (o_X11_both TX11_compared) Q (7, ls, st, μ) = oc_X11_takes 10 (ix_Ev (o_X11_both TX11_compared) Q) Q ls st μ := ix_Ev.eq H rfl ls st μ
theorem e_X11_both_10 {TX11_compared : Nat → ix_M → (ix_R → Prop) → Prop} {l : Launch} {d : Nat} (H : ix_AllS l cX11_both 1 RX11 d none (o_X11_both TX11_compared)) (Q : ix_R → Prop) (ls : ix_L) (st : List ix_V) (μ : ix_M) : ix_Ev (o_X11_both TX11_compared) Q (10, ls, st, μ) = ix_if (fun x => x = 0) 27 13 (ix_Ev (o_X11_both TX11_compared) Q) Q ls st μ := ix_Ev.eq H rfl ls st μ
theorem e_X11_both_13 {TX11_compared : Nat → ix_M → (ix_R → Prop) → Prop} {l : Launch} {d : Nat} (H : ix_AllS l cX11_both 1 RX11 d none (o_X11_both TX11_compared)) (Q : ix_R → Prop) (ls : ix_L) (st : List ix_V) (μ : ix_M) : ix_Ev (o_X11_both TX11_compared) Q (13, ls, st, μ) = ix_aload 0 14 (ix_Ev (o_X11_both TX11_compared) Q) Q ls st μ := ix_Ev.eq H rfl ls st μ
theorem e_X11_both_14 {TX11_compared : Nat → ix_M → (ix_R → Prop) → Prop} {l : Launch} {d : Nat} (H : ix_AllS l cX11_both 1 RX11 d none (o_X11_both TX11_compared)) (Q : ix_R → Prop) (ls : ix_L) (st : List ix_V) (μ : ix_M) : ix_Ev (o_X11_both TX11_compared) Q (14, ls, st, μ) = ocr_X11_compared TX11_compared 17 (ix_Ev (o_X11_both TX11_compared) Q) Q ls st μ := ix_Ev.eq H rfl ls st μ
theorem e_X11_both_17 {TX11_compared : Nat → ix_M → (ix_R → Prop) → Prop} {l : Launch} {d : Nat} (H : ix_AllS l cX11_both 1 RX11 d none (o_X11_both TX11_compared)) (Q : ix_R → Prop) (ls : ix_L) (st : List ix_V) (μ : ix_M) : ix_Ev (o_X11_both TX11_compared) Q (17, ls, st, μ) = ix_aload 0 18 (ix_Ev (o_X11_both TX11_compared) Q) Q ls st μ := ix_Ev.eq H rfl ls st μ
theorem e_X11_both_18 {TX11_compared : Nat → ix_M → (ix_R → Prop) → Prop} {l : Launch} {d : Nat} (H : ix_AllS l cX11_both 1 RX11 d none (o_X11_both TX11_compared)) (Q : ix_R → Prop) (ls : ix_L) (st : List ix_V) (μ : ix_M) : ix_Ev (o_X11_both TX11_compared) Q (18, ls, st, μ) = ix_push (vi 20001) 21 (ix_Ev (o_X11_both TX11_compared) Q) Q ls st μ := ix_Ev.eq H rfl ls st μ
theorem e_X11_both_21 {TX11_compared : Nat → ix_M → (ix_R → Prop) → Prop} {l : Launch} {d : Nat} (H : ix_AllS l cX11_both 1 RX11 d none (o_X11_both TX11_compared)) (Q : ix_R → Prop) (ls : ix_L) (st : List ix_V) (μ : ix_M) : ix_Ev (o_X11_both TX11_compared) Q (21, ls, st, μ) = oc_X11_codes 24 (ix_Ev (o_X11_both TX11_compared) Q) Q ls st μ := ix_Ev.eq H rfl ls st μ
theorem e_X11_both_24 {TX11_compared : Nat → ix_M → (ix_R → Prop) → Prop} {l : Launch} {d : Nat} (H : ix_AllS l cX11_both 1 RX11 d none (o_X11_both TX11_compared)) (Q : ix_R → Prop) (ls : ix_L) (st : List ix_V) (μ : ix_M) : ix_Ev (o_X11_both TX11_compared) Q (24, ls, st, μ) = ix_goto 4 (ix_Ev (o_X11_both TX11_compared) Q) Q ls st μ := ix_Ev.eq H rfl ls st μ
theorem e_X11_both_27 {TX11_compared : Nat → ix_M → (ix_R → Prop) → Prop} {l : Launch} {d : Nat} (H : ix_AllS l cX11_both 1 RX11 d none (o_X11_both TX11_compared)) (Q : ix_R → Prop) (ls : ix_L) (st : List ix_V) (μ : ix_M) : ix_Ev (o_X11_both TX11_compared) Q (27, ls, st, μ) = ix_vret (ix_Ev (o_X11_both TX11_compared) Q) Q ls st μ := ix_Ev.eq H rfl ls st μ
theorem mLv_1 (c : Int32) : mLv c = 1 ↔ c = 38 := by
  constructor
  · intro h
    rcases mLv_of (c := c) (by rw [h]; decide) with rfl | rfl | rfl | rfl | rfl | rfl | rfl | rfl | rfl | rfl
    all_goals first | rfl | exact absurd h (by decide)
  · rintro rfl
    decide
theorem lw_X11_both {l : Launch} {tp : Nat → Int32} {n u k dd : Nat} {S : RF} (H : ix_AllS l cX11_both 1 RX11 dd none (o_X11_both (T_rd tp n u k S))) {μ0 μ : ix_M} {Q : ix_R → Prop} {s : RS} (hF : Fx [112, 118] μ0 μ) (hP : PsC μ tp n u k (false, s)) (hQ : ∀ μ', Fx [112, 118] μ0 μ' → PsC μ' tp n u k (false, s) → Q (none, μ')) : ix_Ev (o_X11_both (T_rd tp n u k S)) Q (4, [some (vr 10 112)], [], μ) := by
  have hn : ¬ hr tp n (false, s) = 38 := by
    show ¬ (-1 : Int32) = 38
    decide
  rw [e_X11_both_4 H]
  simp (decide := true) only [e_X11_both_0 H, e_X11_both_1 H, e_X11_both_5 H, e_X11_both_7 H, e_X11_both_10 H, e_X11_both_13 H, e_X11_both_14 H, e_X11_both_17 H, e_X11_both_18 H, e_X11_both_21 H, e_X11_both_24 H, e_X11_both_27 H, vi, vl, vr, ocr_X11_compared, oc_X11_codes, T_X11_codes, oc_X11_takes, T_X11_takes, ix_push, ix_iload, ix_lload, ix_aload, ix_istore, ix_astore, ix_iinc, ix_bin, ix_div, ix_un, ix_i2l, ix_l2i, ix_lbin, ix_lsh, ix_lcmp, ix_dup, ix_dup2, ix_pop, ix_if, ix_cmp, ix_goto, ix_switch, ix_sw, ix_iret, ix_zret, ix_vret, ix_aret, ix_geti, ix_getr, ix_puti, ix_putz, ix_puts, ix_gets, ix_iald, ix_iast, ix_alen, ix_aald, ix_gval, ix_gcod, ix_bald, ix_blen, ix_sald, ix_nret, ix_math2, ix_math1, ix_acopy, ml_113, ml_114, ml_115, ml_116, ml_118, ml_119, ml_120, ml_121, ml_122, ml_123, ml_124, ml_125, ml_126, mv_0, mv_1, mv_2, mv_3, mv_4, mv_5, mB_or, Nat.add_assoc, Int32.reduceLT, Int32.reduceLE, Int32.reduceToNatClampNeg, Int32.reduceSub, Int32.reduceAdd, Nat.reduceAdd, Nat.reduceLeDiff, true_or, or_true, or_false, false_or, not_false_eq_true, not_true_eq_false, false_implies, true_implies, implies_true, and_self, mB_0, mB_01, Classical.not_not, Nat.zero_le, List.getElem?_cons_zero, List.getElem?_cons_succ, List.set_cons_zero, List.set_cons_succ, ix_nl, ix_cs, true_and, and_true, Option.toList_some, Option.toList_none, List.cons_append, List.nil_append]
  refine ⟨tp, n, u, k, (false, s), hP, fun μ1 F1 g1 => ⟨fun _ => ?_, fun z => absurd z hn⟩⟩
  rw [tk, if_neg hn] at g1
  exact hQ μ1 (hF.tr F1) g1
theorem l_X11_both {l : Launch} {tp : Nat → Int32} {n u k dd : Nat} {S : RF} (H : ix_AllS l cX11_both 1 RX11 dd none (o_X11_both (T_rd tp n u k S))) (hS : RGd n S 0) {μ0 : ix_M} {Q : ix_R → Prop} : ∀ (f a : Nat) (cs : List Int32) (μ : ix_M), n < a + f → Fx [112, 118] μ0 μ → cs.length ≤ a → PsC μ tp n u k (true, a, cs) → (∀ μ', Fx [112, 118] μ0 μ' → PsC μ' tp n u k (rdLp tp n S 1 f (a, cs)) → Q (none, μ')) → ix_Ev (o_X11_both (T_rd tp n u k S)) Q (4, [some (vr 10 112)], [], μ)
  | 0, a, cs, μ, hf, hF, hl, hP, hQ => absurd hP.2.2.2.2.1.2 (by simp only; omega)
  | f + 1, a, cs, μ, hf, hF, hl, hP, hQ => by
    have hh : hr tp n (true, a, cs) = nx tp n a := rfl
    have hn50 := hP.1.2.1
    rw [e_X11_both_4 H]
    simp (decide := true) only [e_X11_both_0 H, e_X11_both_1 H, e_X11_both_5 H, e_X11_both_7 H, e_X11_both_10 H, e_X11_both_13 H, e_X11_both_14 H, e_X11_both_17 H, e_X11_both_18 H, e_X11_both_21 H, e_X11_both_24 H, e_X11_both_27 H, vi, vl, vr, ocr_X11_compared, oc_X11_codes, T_X11_codes, oc_X11_takes, T_X11_takes, ix_push, ix_iload, ix_lload, ix_aload, ix_istore, ix_astore, ix_iinc, ix_bin, ix_div, ix_un, ix_i2l, ix_l2i, ix_lbin, ix_lsh, ix_lcmp, ix_dup, ix_dup2, ix_pop, ix_if, ix_cmp, ix_goto, ix_switch, ix_sw, ix_iret, ix_zret, ix_vret, ix_aret, ix_geti, ix_getr, ix_puti, ix_putz, ix_puts, ix_gets, ix_iald, ix_iast, ix_alen, ix_aald, ix_gval, ix_gcod, ix_bald, ix_blen, ix_sald, ix_nret, ix_math2, ix_math1, ix_acopy, ml_113, ml_114, ml_115, ml_116, ml_118, ml_119, ml_120, ml_121, ml_122, ml_123, ml_124, ml_125, ml_126, mv_0, mv_1, mv_2, mv_3, mv_4, mv_5, mB_or, Nat.add_assoc, Int32.reduceLT, Int32.reduceLE, Int32.reduceToNatClampNeg, Int32.reduceSub, Int32.reduceAdd, Nat.reduceAdd, Nat.reduceLeDiff, true_or, or_true, or_false, false_or, not_false_eq_true, not_true_eq_false, false_implies, true_implies, implies_true, and_self, mB_0, mB_01, Classical.not_not, Nat.zero_le, List.getElem?_cons_zero, List.getElem?_cons_succ, List.set_cons_zero, List.set_cons_succ, ix_nl, ix_cs, true_and, and_true, Option.toList_some, Option.toList_none, List.cons_append, List.nil_append]
    refine ⟨tp, n, u, k, (true, a, cs), hP, fun μ1 F1 g1 => ⟨fun z => ?_, fun z => ?_⟩⟩
    · rw [tk, if_neg z] at g1
      rw [hh] at z
      rw [rdLp] at hQ
      simp only [if_neg (fun y => z ((mLv_1 _).mp y))] at hQ
      exact hQ μ1 (hF.tr F1) g1
    · rw [tk, if_pos z] at g1
      rw [hh] at z
      have hlt := nx_in (tp := tp) (n := n) (a := a) (by rw [z]; decide)
      rw [rdLp] at hQ
      simp only [if_pos ((mLv_1 _).mpr z), z] at hQ
      obtain ⟨u1, u2, u3, u4⟩ := hS (a + 1, cs) (by simp only; omega)
      refine ⟨(true, a + 1, cs), g1, by simp only; omega, fun μ2 F2 g2 => ⟨Nat.le_of_ble_eq_true rfl, tp, n, u, k, _, g2, ?_, fun μ3 F3 g3 => ?_⟩⟩
      · show (S (a + 1, cs)).2.2.length < 60
        simp only at u3
        omega
      · have g3 : PsC μ3 tp n u k (cd (S (a + 1, cs)) 20001) := g3
        have F4 := ((hF.tr F1).tr F2).tr F3
        have hc : cOp 38 = 20001 := by decide
        cases hq : (S (a + 1, cs)).1
        · simp only [hq, cd] at g3 hQ
          have e : S (a + 1, cs) = (false, (S (a + 1, cs)).2) := by rw [← hq]
          simp only [Bool.false_eq_true, if_false] at g3 hQ
          rw [e] at g3
          exact lw_X11_both H F4 g3 hQ
        · simp only [hq, cd, if_true, hc] at g3 hQ
          have := (u4 hq).1
          simp only at u3
          exact l_X11_both H hS f _ _ μ3 (by omega) F4 (by simp; omega) g3 hQ
theorem c_X11_both (l : Launch) (tp : Nat → Int32) (n u k d : Nat) (U : RF) (hU : RGd n U 0) (hd : 6 ≤ d) (hB : ix_Ct l yX11_compared cX11_compared 2 none d sh_X11_compared (T_rd tp n u k (rdLv tp n U 3))) : ix_Ct l yX11_both cX11_both 1 none (d + 1) sh_X11_both (T_rd tp n u k (rdLv tp n U 4)) := by
  have H := a_X11_both l (d + 1) (by omega) hB (by omega) (mo_rd tp n u k _)
  have hS := rdLv_ok (tp := tp) hU 3
  refine ix_ct H rfl (by decide) (fun _ => Nat.le_of_ble_eq_true rfl) (fun o μ Q hok hT => ?_)
  have ok_o := ix_ok_at (hok (vr 10 o) (by simp [sh_X11_both])) (by decide) (by decide)
  obtain rfl := ok_10 o ok_o.1 ok_o.2
  obtain ⟨q, h1, h2, hQ⟩ := hT
  show ix_Ev (o_X11_both _) Q (0, [some (vr 10 112)], [], μ)
  simp (decide := true) only [e_X11_both_0 H, e_X11_both_1 H, e_X11_both_5 H, e_X11_both_7 H, e_X11_both_10 H, e_X11_both_13 H, e_X11_both_14 H, e_X11_both_17 H, e_X11_both_18 H, e_X11_both_21 H, e_X11_both_24 H, e_X11_both_27 H, vi, vl, vr, ocr_X11_compared, oc_X11_codes, T_X11_codes, oc_X11_takes, T_X11_takes, ix_push, ix_iload, ix_lload, ix_aload, ix_istore, ix_astore, ix_iinc, ix_bin, ix_div, ix_un, ix_i2l, ix_l2i, ix_lbin, ix_lsh, ix_lcmp, ix_dup, ix_dup2, ix_pop, ix_if, ix_cmp, ix_goto, ix_switch, ix_sw, ix_iret, ix_zret, ix_vret, ix_aret, ix_geti, ix_getr, ix_puti, ix_putz, ix_puts, ix_gets, ix_iald, ix_iast, ix_alen, ix_aald, ix_gval, ix_gcod, ix_bald, ix_blen, ix_sald, ix_nret, ix_math2, ix_math1, ix_acopy, ml_113, ml_114, ml_115, ml_116, ml_118, ml_119, ml_120, ml_121, ml_122, ml_123, ml_124, ml_125, ml_126, mv_0, mv_1, mv_2, mv_3, mv_4, mv_5, mB_or, Nat.add_assoc, Int32.reduceLT, Int32.reduceLE, Int32.reduceToNatClampNeg, Int32.reduceSub, Int32.reduceAdd, Nat.reduceAdd, Nat.reduceLeDiff, true_or, or_true, or_false, false_or, not_false_eq_true, not_true_eq_false, false_implies, true_implies, implies_true, and_self, mB_0, mB_01, Classical.not_not, Nat.zero_le, List.getElem?_cons_zero, List.getElem?_cons_succ, List.set_cons_zero, List.set_cons_succ, ix_nl, ix_cs, true_and, and_true, Option.toList_some, Option.toList_none, List.cons_append, List.nil_append]
  refine ⟨q, h1, h2, fun μ1 F1 g1 => ?_⟩
  obtain ⟨b, a, cs⟩ := q
  cases b
  · exact lw_X11_both H F1 g1 hQ
  · have g1 : PsC μ1 tp n u k (rdLv tp n U 3 (a, cs)) := g1
    obtain ⟨u1, u2, u3, u4⟩ := hS (a, cs) h1.2.2.2.2.1.2
    simp only at h2 u3
    have hn50 := h1.1.2.1
    have hQ : ∀ μ', Fx [112, 118] μ μ' → PsC μ' tp n u k (rdLv tp n U 4 (a, cs)) → Q (none, μ') := hQ
    rw [rdLv] at hQ
    cases hq : (rdLv tp n U 3 (a, cs)).1
    · have e : rdLv tp n U 3 (a, cs) = (false, (rdLv tp n U 3 (a, cs)).2) := by rw [← hq]
      simp only [hq, Bool.false_eq_true, if_false] at hQ
      rw [e] at g1
      exact lw_X11_both H F1 g1 hQ
    · have e : rdLv tp n U 3 (a, cs) = (true, (rdLv tp n U 3 (a, cs)).2) := by rw [← hq]
      have := (u4 hq).1
      simp only at this
      simp only [hq, if_true] at hQ
      rw [e] at g1
      exact l_X11_both H hS 50 (rdLv tp n U 3 (a, cs)).2.1 (rdLv tp n U 3 (a, cs)).2.2 μ1 (by omega) F1 (by omega) g1 hQ
def o_X11_either (TX11_both : Nat → ix_M → (ix_R → Prop) → Prop) : List (Nat × ix_Op) := [
  (0, ix_aload 0 1),
  (1, ocr_X11_both TX11_both 4),
  (4, ix_aload 0 5),
  (5, ix_push (vi 124) 7),
  (7, oc_X11_takes 10),
  (10, ix_if (fun x => x = 0) 27 13),
  (13, ix_aload 0 14),
  (14, ocr_X11_both TX11_both 17),
  (17, ix_aload 0 18),
  (18, ix_push (vi 20000) 21),
  (21, oc_X11_codes 24),
  (24, ix_goto 4),
  (27, ix_vret)]
set_option maxRecDepth 20000 in
theorem a_X11_either (l : Launch) (d : Nat) (hlev : 6 ≤ d) {TX11_both : Nat → ix_M → (ix_R → Prop) → Prop} {d_X11_both : Nat} (h_X11_both : ix_Ct l yX11_both cX11_both 1 none d_X11_both sh_X11_both TX11_both) (hl_X11_both : d_X11_both < d) (hm_X11_both : ∀ x μ Q Q', (∀ r, Q r → Q' r) → TX11_both x μ Q → TX11_both x μ Q') : ix_AllS l cX11_either 1 RX11 d none (o_X11_either TX11_both) :=
  .cons (ix_s_aload_n dX11_either_0 rfl) <|
  .cons (ocr_X11_both_s hm_X11_both (ix_s_callv (t := 10) h_X11_both hl_X11_both (by decide) tw_980 tw_12 tw_977 tw_979 tp_20 ⟨by decide, by decide, by decide +kernel⟩ (by decide) rfl rfl (fun _ => ⟨_, _, rfl, rfl⟩) dX11_either_1)) <|
  .cons (ix_s_aload_n dX11_either_4 rfl) <|
  .cons (ix_s_bipush dX11_either_5 (by decide +kernel)) <|
  .cons (oc_X11_takes_s (ix_s_callv (t := 10) (k_X11_takes l) (by omega) (by decide) tw_1008 tw_12 tw_1005 tw_1007 tp_27 ⟨by decide, by decide, by decide +kernel⟩ (by decide) rfl rfl (fun _ => ⟨_, _, rfl, rfl⟩) dX11_either_7)) <|
  .cons (ix_s_if_eq dX11_either_10 (by decide)) <|
  .cons (ix_s_aload_n dX11_either_13 rfl) <|
  .cons (ocr_X11_both_s hm_X11_both (ix_s_callv (t := 10) h_X11_both hl_X11_both (by decide) tw_980 tw_12 tw_977 tw_979 tp_20 ⟨by decide, by decide, by decide +kernel⟩ (by decide) rfl rfl (fun _ => ⟨_, _, rfl, rfl⟩) dX11_either_14)) <|
  .cons (ix_s_aload_n dX11_either_17 rfl) <|
  .cons (ix_s_sipush dX11_either_18 (by decide +kernel)) <|
  .cons (oc_X11_codes_s (ix_s_callv (t := 10) (k_X11_codes l) (by omega) (by decide) tw_1004 tw_12 tw_1001 tw_1003 tp_26 ⟨by decide, by decide, by decide +kernel⟩ (by decide) rfl rfl (fun _ => ⟨_, _, rfl, rfl⟩) dX11_either_21)) <|
  .cons (ix_s_goto dX11_either_24 (by decide)) <|
  .cons (ix_s_vret dX11_either_27 rfl) <| .nil
theorem e_X11_either_0 {TX11_both : Nat → ix_M → (ix_R → Prop) → Prop} {l : Launch} {d : Nat} (H : ix_AllS l cX11_either 1 RX11 d none (o_X11_either TX11_both)) (Q : ix_R → Prop) (ls : ix_L) (st : List ix_V) (μ : ix_M) : ix_Ev (o_X11_either TX11_both) Q (0, ls, st, μ) = ix_aload 0 1 (ix_Ev (o_X11_either TX11_both) Q) Q ls st μ := ix_Ev.eq H rfl ls st μ
theorem e_X11_either_1 {TX11_both : Nat → ix_M → (ix_R → Prop) → Prop} {l : Launch} {d : Nat} (H : ix_AllS l cX11_either 1 RX11 d none (o_X11_either TX11_both)) (Q : ix_R → Prop) (ls : ix_L) (st : List ix_V) (μ : ix_M) : ix_Ev (o_X11_either TX11_both) Q (1, ls, st, μ) = ocr_X11_both TX11_both 4 (ix_Ev (o_X11_either TX11_both) Q) Q ls st μ := ix_Ev.eq H rfl ls st μ
theorem e_X11_either_4 {TX11_both : Nat → ix_M → (ix_R → Prop) → Prop} {l : Launch} {d : Nat} (H : ix_AllS l cX11_either 1 RX11 d none (o_X11_either TX11_both)) (Q : ix_R → Prop) (ls : ix_L) (st : List ix_V) (μ : ix_M) : ix_Ev (o_X11_either TX11_both) Q (4, ls, st, μ) = ix_aload 0 5 (ix_Ev (o_X11_either TX11_both) Q) Q ls st μ := ix_Ev.eq H rfl ls st μ
theorem e_X11_either_5 {TX11_both : Nat → ix_M → (ix_R → Prop) → Prop} {l : Launch} {d : Nat} (H : ix_AllS l cX11_either 1 RX11 d none (o_X11_either TX11_both)) (Q : ix_R → Prop) (ls : ix_L) (st : List ix_V) (μ : ix_M) : ix_Ev (o_X11_either TX11_both) Q (5, ls, st, μ) = ix_push (vi 124) 7 (ix_Ev (o_X11_either TX11_both) Q) Q ls st μ := ix_Ev.eq H rfl ls st μ
theorem e_X11_either_7 {TX11_both : Nat → ix_M → (ix_R → Prop) → Prop} {l : Launch} {d : Nat} (H : ix_AllS l cX11_either 1 RX11 d none (o_X11_either TX11_both)) (Q : ix_R → Prop) (ls : ix_L) (st : List ix_V) (μ : ix_M) : ix_Ev (o_X11_either TX11_both) Q (7, ls, st, μ) = oc_X11_takes 10 (ix_Ev (o_X11_either TX11_both) Q) Q ls st μ := ix_Ev.eq H rfl ls st μ
theorem e_X11_either_10 {TX11_both : Nat → ix_M → (ix_R → Prop) → Prop} {l : Launch} {d : Nat} (H : ix_AllS l cX11_either 1 RX11 d none (o_X11_either TX11_both)) (Q : ix_R → Prop) (ls : ix_L) (st : List ix_V) (μ : ix_M) : ix_Ev (o_X11_either TX11_both) Q (10, ls, st, μ) = ix_if (fun x => x = 0) 27 13 (ix_Ev (o_X11_either TX11_both) Q) Q ls st μ := ix_Ev.eq H rfl ls st μ
theorem e_X11_either_13 {TX11_both : Nat → ix_M → (ix_R → Prop) → Prop} {l : Launch} {d : Nat} (H : ix_AllS l cX11_either 1 RX11 d none (o_X11_either TX11_both)) (Q : ix_R → Prop) (ls : ix_L) (st : List ix_V) (μ : ix_M) : ix_Ev (o_X11_either TX11_both) Q (13, ls, st, μ) = ix_aload 0 14 (ix_Ev (o_X11_either TX11_both) Q) Q ls st μ := ix_Ev.eq H rfl ls st μ
theorem e_X11_either_14 {TX11_both : Nat → ix_M → (ix_R → Prop) → Prop} {l : Launch} {d : Nat} (H : ix_AllS l cX11_either 1 RX11 d none (o_X11_either TX11_both)) (Q : ix_R → Prop) (ls : ix_L) (st : List ix_V) (μ : ix_M) : ix_Ev (o_X11_either TX11_both) Q (14, ls, st, μ) = ocr_X11_both TX11_both 17 (ix_Ev (o_X11_either TX11_both) Q) Q ls st μ := ix_Ev.eq H rfl ls st μ
theorem e_X11_either_17 {TX11_both : Nat → ix_M → (ix_R → Prop) → Prop} {l : Launch} {d : Nat} (H : ix_AllS l cX11_either 1 RX11 d none (o_X11_either TX11_both)) (Q : ix_R → Prop) (ls : ix_L) (st : List ix_V) (μ : ix_M) : ix_Ev (o_X11_either TX11_both) Q (17, ls, st, μ) = ix_aload 0 18 (ix_Ev (o_X11_either TX11_both) Q) Q ls st μ := ix_Ev.eq H rfl ls st μ
theorem e_X11_either_18 {TX11_both : Nat → ix_M → (ix_R → Prop) → Prop} {l : Launch} {d : Nat} (H : ix_AllS l cX11_either 1 RX11 d none (o_X11_either TX11_both)) (Q : ix_R → Prop) (ls : ix_L) (st : List ix_V) (μ : ix_M) : ix_Ev (o_X11_either TX11_both) Q (18, ls, st, μ) = ix_push (vi 20000) 21 (ix_Ev (o_X11_either TX11_both) Q) Q ls st μ := ix_Ev.eq H rfl ls st μ
theorem e_X11_either_21 {TX11_both : Nat → ix_M → (ix_R → Prop) → Prop} {l : Launch} {d : Nat} (H : ix_AllS l cX11_either 1 RX11 d none (o_X11_either TX11_both)) (Q : ix_R → Prop) (ls : ix_L) (st : List ix_V) (μ : ix_M) : ix_Ev (o_X11_either TX11_both) Q (21, ls, st, μ) = oc_X11_codes 24 (ix_Ev (o_X11_either TX11_both) Q) Q ls st μ := ix_Ev.eq H rfl ls st μ
theorem e_X11_either_24 {TX11_both : Nat → ix_M → (ix_R → Prop) → Prop} {l : Launch} {d : Nat} (H : ix_AllS l cX11_either 1 RX11 d none (o_X11_either TX11_both)) (Q : ix_R → Prop) (ls : ix_L) (st : List ix_V) (μ : ix_M) : ix_Ev (o_X11_either TX11_both) Q (24, ls, st, μ) = ix_goto 4 (ix_Ev (o_X11_either TX11_both) Q) Q ls st μ := ix_Ev.eq H rfl ls st μ
theorem e_X11_either_27 {TX11_both : Nat → ix_M → (ix_R → Prop) → Prop} {l : Launch} {d : Nat} (H : ix_AllS l cX11_either 1 RX11 d none (o_X11_either TX11_both)) (Q : ix_R → Prop) (ls : ix_L) (st : List ix_V) (μ : ix_M) : ix_Ev (o_X11_either TX11_both) Q (27, ls, st, μ) = ix_vret (ix_Ev (o_X11_either TX11_both) Q) Q ls st μ := ix_Ev.eq H rfl ls st μ
theorem mLv_0 (c : Int32) : mLv c = 0 ↔ c = 124 := by
  constructor
  · intro h
    rcases mLv_of (c := c) (by rw [h]; decide) with rfl | rfl | rfl | rfl | rfl | rfl | rfl | rfl | rfl | rfl
    all_goals first | rfl | exact absurd h (by decide)
  · rintro rfl
    decide
theorem lw_X11_either {l : Launch} {tp : Nat → Int32} {n u k dd : Nat} {S : RF} (H : ix_AllS l cX11_either 1 RX11 dd none (o_X11_either (T_rd tp n u k S))) {μ0 μ : ix_M} {Q : ix_R → Prop} {s : RS} (hF : Fx [112, 118] μ0 μ) (hP : PsC μ tp n u k (false, s)) (hQ : ∀ μ', Fx [112, 118] μ0 μ' → PsC μ' tp n u k (false, s) → Q (none, μ')) : ix_Ev (o_X11_either (T_rd tp n u k S)) Q (4, [some (vr 10 112)], [], μ) := by
  have hn : ¬ hr tp n (false, s) = 124 := by
    show ¬ (-1 : Int32) = 124
    decide
  rw [e_X11_either_4 H]
  simp (decide := true) only [e_X11_either_0 H, e_X11_either_1 H, e_X11_either_5 H, e_X11_either_7 H, e_X11_either_10 H, e_X11_either_13 H, e_X11_either_14 H, e_X11_either_17 H, e_X11_either_18 H, e_X11_either_21 H, e_X11_either_24 H, e_X11_either_27 H, vi, vl, vr, ocr_X11_both, oc_X11_codes, T_X11_codes, oc_X11_takes, T_X11_takes, ix_push, ix_iload, ix_lload, ix_aload, ix_istore, ix_astore, ix_iinc, ix_bin, ix_div, ix_un, ix_i2l, ix_l2i, ix_lbin, ix_lsh, ix_lcmp, ix_dup, ix_dup2, ix_pop, ix_if, ix_cmp, ix_goto, ix_switch, ix_sw, ix_iret, ix_zret, ix_vret, ix_aret, ix_geti, ix_getr, ix_puti, ix_putz, ix_puts, ix_gets, ix_iald, ix_iast, ix_alen, ix_aald, ix_gval, ix_gcod, ix_bald, ix_blen, ix_sald, ix_nret, ix_math2, ix_math1, ix_acopy, ml_113, ml_114, ml_115, ml_116, ml_118, ml_119, ml_120, ml_121, ml_122, ml_123, ml_124, ml_125, ml_126, mv_0, mv_1, mv_2, mv_3, mv_4, mv_5, mB_or, Nat.add_assoc, Int32.reduceLT, Int32.reduceLE, Int32.reduceToNatClampNeg, Int32.reduceSub, Int32.reduceAdd, Nat.reduceAdd, Nat.reduceLeDiff, true_or, or_true, or_false, false_or, not_false_eq_true, not_true_eq_false, false_implies, true_implies, implies_true, and_self, mB_0, mB_01, Classical.not_not, Nat.zero_le, List.getElem?_cons_zero, List.getElem?_cons_succ, List.set_cons_zero, List.set_cons_succ, ix_nl, ix_cs, true_and, and_true, Option.toList_some, Option.toList_none, List.cons_append, List.nil_append]
  refine ⟨tp, n, u, k, (false, s), hP, fun μ1 F1 g1 => ⟨fun _ => ?_, fun z => absurd z hn⟩⟩
  rw [tk, if_neg hn] at g1
  exact hQ μ1 (hF.tr F1) g1
theorem l_X11_either {l : Launch} {tp : Nat → Int32} {n u k dd : Nat} {S : RF} (H : ix_AllS l cX11_either 1 RX11 dd none (o_X11_either (T_rd tp n u k S))) (hS : RGd n S 0) {μ0 : ix_M} {Q : ix_R → Prop} : ∀ (f a : Nat) (cs : List Int32) (μ : ix_M), n < a + f → Fx [112, 118] μ0 μ → cs.length ≤ a → PsC μ tp n u k (true, a, cs) → (∀ μ', Fx [112, 118] μ0 μ' → PsC μ' tp n u k (rdLp tp n S 0 f (a, cs)) → Q (none, μ')) → ix_Ev (o_X11_either (T_rd tp n u k S)) Q (4, [some (vr 10 112)], [], μ)
  | 0, a, cs, μ, hf, hF, hl, hP, hQ => absurd hP.2.2.2.2.1.2 (by simp only; omega)
  | f + 1, a, cs, μ, hf, hF, hl, hP, hQ => by
    have hh : hr tp n (true, a, cs) = nx tp n a := rfl
    have hn50 := hP.1.2.1
    rw [e_X11_either_4 H]
    simp (decide := true) only [e_X11_either_0 H, e_X11_either_1 H, e_X11_either_5 H, e_X11_either_7 H, e_X11_either_10 H, e_X11_either_13 H, e_X11_either_14 H, e_X11_either_17 H, e_X11_either_18 H, e_X11_either_21 H, e_X11_either_24 H, e_X11_either_27 H, vi, vl, vr, ocr_X11_both, oc_X11_codes, T_X11_codes, oc_X11_takes, T_X11_takes, ix_push, ix_iload, ix_lload, ix_aload, ix_istore, ix_astore, ix_iinc, ix_bin, ix_div, ix_un, ix_i2l, ix_l2i, ix_lbin, ix_lsh, ix_lcmp, ix_dup, ix_dup2, ix_pop, ix_if, ix_cmp, ix_goto, ix_switch, ix_sw, ix_iret, ix_zret, ix_vret, ix_aret, ix_geti, ix_getr, ix_puti, ix_putz, ix_puts, ix_gets, ix_iald, ix_iast, ix_alen, ix_aald, ix_gval, ix_gcod, ix_bald, ix_blen, ix_sald, ix_nret, ix_math2, ix_math1, ix_acopy, ml_113, ml_114, ml_115, ml_116, ml_118, ml_119, ml_120, ml_121, ml_122, ml_123, ml_124, ml_125, ml_126, mv_0, mv_1, mv_2, mv_3, mv_4, mv_5, mB_or, Nat.add_assoc, Int32.reduceLT, Int32.reduceLE, Int32.reduceToNatClampNeg, Int32.reduceSub, Int32.reduceAdd, Nat.reduceAdd, Nat.reduceLeDiff, true_or, or_true, or_false, false_or, not_false_eq_true, not_true_eq_false, false_implies, true_implies, implies_true, and_self, mB_0, mB_01, Classical.not_not, Nat.zero_le, List.getElem?_cons_zero, List.getElem?_cons_succ, List.set_cons_zero, List.set_cons_succ, ix_nl, ix_cs, true_and, and_true, Option.toList_some, Option.toList_none, List.cons_append, List.nil_append]
    refine ⟨tp, n, u, k, (true, a, cs), hP, fun μ1 F1 g1 => ⟨fun z => ?_, fun z => ?_⟩⟩
    · rw [tk, if_neg z] at g1
      rw [hh] at z
      rw [rdLp] at hQ
      simp only [if_neg (fun y => z ((mLv_0 _).mp y))] at hQ
      exact hQ μ1 (hF.tr F1) g1
    · rw [tk, if_pos z] at g1
      rw [hh] at z
      have hlt := nx_in (tp := tp) (n := n) (a := a) (by rw [z]; decide)
      rw [rdLp] at hQ
      simp only [if_pos ((mLv_0 _).mpr z), z] at hQ
      obtain ⟨u1, u2, u3, u4⟩ := hS (a + 1, cs) (by simp only; omega)
      refine ⟨(true, a + 1, cs), g1, by simp only; omega, fun μ2 F2 g2 => ⟨Nat.le_of_ble_eq_true rfl, tp, n, u, k, _, g2, ?_, fun μ3 F3 g3 => ?_⟩⟩
      · show (S (a + 1, cs)).2.2.length < 60
        simp only at u3
        omega
      · have g3 : PsC μ3 tp n u k (cd (S (a + 1, cs)) 20000) := g3
        have F4 := ((hF.tr F1).tr F2).tr F3
        have hc : cOp 124 = 20000 := by decide
        cases hq : (S (a + 1, cs)).1
        · simp only [hq, cd] at g3 hQ
          have e : S (a + 1, cs) = (false, (S (a + 1, cs)).2) := by rw [← hq]
          simp only [Bool.false_eq_true, if_false] at g3 hQ
          rw [e] at g3
          exact lw_X11_either H F4 g3 hQ
        · simp only [hq, cd, if_true, hc] at g3 hQ
          have := (u4 hq).1
          simp only at u3
          exact l_X11_either H hS f _ _ μ3 (by omega) F4 (by simp; omega) g3 hQ
theorem c_X11_either (l : Launch) (tp : Nat → Int32) (n u k d : Nat) (U : RF) (hU : RGd n U 0) (hd : 6 ≤ d) (hB : ix_Ct l yX11_both cX11_both 1 none d sh_X11_both (T_rd tp n u k (rdLv tp n U 4))) : ix_Ct l yX11_either cX11_either 1 none (d + 1) sh_X11_either (T_rd tp n u k (rdLv tp n U 5)) := by
  have H := a_X11_either l (d + 1) (by omega) hB (by omega) (mo_rd tp n u k _)
  have hS := rdLv_ok (tp := tp) hU 4
  refine ix_ct H rfl (by decide) (fun _ => Nat.le_of_ble_eq_true rfl) (fun o μ Q hok hT => ?_)
  have ok_o := ix_ok_at (hok (vr 10 o) (by simp [sh_X11_either])) (by decide) (by decide)
  obtain rfl := ok_10 o ok_o.1 ok_o.2
  obtain ⟨q, h1, h2, hQ⟩ := hT
  show ix_Ev (o_X11_either _) Q (0, [some (vr 10 112)], [], μ)
  simp (decide := true) only [e_X11_either_0 H, e_X11_either_1 H, e_X11_either_5 H, e_X11_either_7 H, e_X11_either_10 H, e_X11_either_13 H, e_X11_either_14 H, e_X11_either_17 H, e_X11_either_18 H, e_X11_either_21 H, e_X11_either_24 H, e_X11_either_27 H, vi, vl, vr, ocr_X11_both, oc_X11_codes, T_X11_codes, oc_X11_takes, T_X11_takes, ix_push, ix_iload, ix_lload, ix_aload, ix_istore, ix_astore, ix_iinc, ix_bin, ix_div, ix_un, ix_i2l, ix_l2i, ix_lbin, ix_lsh, ix_lcmp, ix_dup, ix_dup2, ix_pop, ix_if, ix_cmp, ix_goto, ix_switch, ix_sw, ix_iret, ix_zret, ix_vret, ix_aret, ix_geti, ix_getr, ix_puti, ix_putz, ix_puts, ix_gets, ix_iald, ix_iast, ix_alen, ix_aald, ix_gval, ix_gcod, ix_bald, ix_blen, ix_sald, ix_nret, ix_math2, ix_math1, ix_acopy, ml_113, ml_114, ml_115, ml_116, ml_118, ml_119, ml_120, ml_121, ml_122, ml_123, ml_124, ml_125, ml_126, mv_0, mv_1, mv_2, mv_3, mv_4, mv_5, mB_or, Nat.add_assoc, Int32.reduceLT, Int32.reduceLE, Int32.reduceToNatClampNeg, Int32.reduceSub, Int32.reduceAdd, Nat.reduceAdd, Nat.reduceLeDiff, true_or, or_true, or_false, false_or, not_false_eq_true, not_true_eq_false, false_implies, true_implies, implies_true, and_self, mB_0, mB_01, Classical.not_not, Nat.zero_le, List.getElem?_cons_zero, List.getElem?_cons_succ, List.set_cons_zero, List.set_cons_succ, ix_nl, ix_cs, true_and, and_true, Option.toList_some, Option.toList_none, List.cons_append, List.nil_append]
  refine ⟨q, h1, h2, fun μ1 F1 g1 => ?_⟩
  obtain ⟨b, a, cs⟩ := q
  cases b
  · exact lw_X11_either H F1 g1 hQ
  · have g1 : PsC μ1 tp n u k (rdLv tp n U 4 (a, cs)) := g1
    obtain ⟨u1, u2, u3, u4⟩ := hS (a, cs) h1.2.2.2.2.1.2
    simp only at h2 u3
    have hn50 := h1.1.2.1
    have hQ : ∀ μ', Fx [112, 118] μ μ' → PsC μ' tp n u k (rdLv tp n U 5 (a, cs)) → Q (none, μ') := hQ
    rw [rdLv] at hQ
    cases hq : (rdLv tp n U 4 (a, cs)).1
    · have e : rdLv tp n U 4 (a, cs) = (false, (rdLv tp n U 4 (a, cs)).2) := by rw [← hq]
      simp only [hq, Bool.false_eq_true, if_false] at hQ
      rw [e] at g1
      exact lw_X11_either H F1 g1 hQ
    · have e : rdLv tp n U 4 (a, cs) = (true, (rdLv tp n U 4 (a, cs)).2) := by rw [← hq]
      have := (u4 hq).1
      simp only at this
      simp only [hq, if_true] at hQ
      rw [e] at g1
      exact l_X11_either H hS 50 (rdLv tp n U 4 (a, cs)).2.1 (rdLv tp n U 4 (a, cs)).2.2 μ1 (by omega) F1 (by omega) g1 hQ
