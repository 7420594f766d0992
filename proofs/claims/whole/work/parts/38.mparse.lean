/-! ===== the model: reading a text, the small methods ===== -/
def PsC (μ : ix_M) (tp : Nat → Int32) (n u k : Nat) (q : Bool × RS) : Prop :=
  (μ 113 4 = nI n ∧ n ≤ 50 ∧ (∀ j, j < n → μ 113 (82 + j) = tp j) ∧ (∀ j, j < n → ∃ b, b < 256 ∧ tp j = nI b) ∧ ∀ j, j < 8 ∨ 13 < j → μ 112 j = tp (1000 + j)) ∧ (μ 112 10 = nI u ∧ u ≤ 1) ∧ μ 112 9 = nI (5 - k) ∧ μ 112 11 = mB (¬ q.1 = true) ∧ (μ 112 8 = nI q.2.1 ∧ q.2.1 ≤ n) ∧ μ 112 13 = nI q.2.2.length ∧ ∀ j, j < q.2.2.length → μ 118 j = q.2.2.getD j 0
/-- the byte that the model sees -/
def hr (tp : Nat → Int32) (n : Nat) (q : Bool × RS) : Int32 := if q.1 = true then nx tp n q.2.1 else -1
def T_X11_here : Nat → ix_M → (ix_R → Prop) → Prop := fun _ μ Q => ∃ tp n u k q, PsC μ tp n u k q ∧ Q (some (vi (hr tp n q)), μ)
def sh_X11_here (x : Nat) : List ix_V := [vr 10 x]
theorem mo_X11_here (x : Nat) (μ : ix_M) (Q Q' : ix_R → Prop) (h : ∀ r, Q r → Q' r) (hT : T_X11_here x μ Q) : T_X11_here x μ Q' := by
  (obtain ⟨tp, n, u, k, q, h1, h2⟩ := hT; exact ⟨tp, n, u, k, q, h1, h _ h2⟩)
def oc_X11_here (n : Nat) : ix_Op := fun k _ ls st μ => match st with
  | .inr (.inr (t0, a0)) :: r => t0 = 10 ∧ ix_cs r ≤ 8 ∧ T_X11_here a0 μ (fun q => k (n, ls, q.1.toList ++ r, q.2))
  | _ => False
theorem oc_X11_here_s {l : Launch} {cc : ByteArray} {nL : Nat} {own : String} {d : Nat} {rt : Option FieldType} {pc n : Nat} (h : ix_S l cc nL own d rt pc (ix_call 1 sh_X11_here T_X11_here n)) : ix_S l cc nL own d rt pc (oc_X11_here n) := by
  refine h.by (fun k Q ls st μ h => ?_) (fun k k' Q ls st μ hk h => ?_)
  · unfold oc_X11_here at h
    split at h
    · rename_i t0 a0 r
      obtain ⟨rfl, h1, h2⟩ := h
      exact ⟨h1, a0, rfl, _, h2, fun r h => h⟩
    · exact h.elim
  · unfold oc_X11_here at h ⊢
    split at h
    · obtain ⟨rfl, h1, h2⟩ := h
      exact ⟨rfl, h1, mo_X11_here _ _ _ _ (fun q hq => hk _ hq) h2⟩
    · exact h.elim
def o_X11_here : List (Nat × ix_Op) := [
  (0, ix_aload 0 1),
  (1, ix_geti 10 11 4),
  (4, ix_if (fun x => x = 0) 7 35),
  (7, ix_aload 0 8),
  (8, ix_geti 10 8 11),
  (11, ix_aload 0 12),
  (12, ix_getr 10 20 (fun _ => 113) 15),
  (15, ix_push (vi 4) 16),
  (16, ix_iald 17),
  (17, ix_cmp (fun x y => y ≤ x) 35 20),
  (20, ix_aload 0 21),
  (21, ix_getr 10 20 (fun _ => 113) 24),
  (24, ix_push (vi 82) 26),
  (26, ix_aload 0 27),
  (27, ix_geti 10 8 30),
  (30, ix_bin (fun x y => x + y) 31),
  (31, ix_iald 32),
  (32, ix_goto 36),
  (35, ix_push (vi (-1)) 36),
  (36, ix_iret)]
set_option maxRecDepth 20000 in
theorem a_X11_here (l : Launch) : ix_AllS l cX11_here 1 RX11 1 (some .int) o_X11_here :=
  .cons (ix_s_aload_n dX11_here_0 rfl) <|
  .cons (ix_s_geti (j := 11) tu_X11 rfl (by decide) (by decide) tw_886 rfl ts_10_11_i dX11_here_1) <|
  .cons (ix_s_if_ne dX11_here_4 (by decide)) <|
  .cons (ix_s_aload_n dX11_here_7 rfl) <|
  .cons (ix_s_geti (j := 8) tu_X11 rfl (by decide) (by decide) tw_883 rfl ts_10_8_i dX11_here_8) <|
  .cons (ix_s_aload_n dX11_here_11 rfl) <|
  .cons (ix_s_getr (j := 0) tu_X11 rfl (by decide) (by decide) tw_875 rfl ts_10_0_r dX11_here_12) <|
  .cons (ix_s_iconst dX11_here_15 (by decide +kernel)) <|
  .cons (ix_s_iald dX11_here_16) <|
  .cons (ix_s_cmp_ge dX11_here_17 (by decide)) <|
  .cons (ix_s_aload_n dX11_here_20 rfl) <|
  .cons (ix_s_getr (j := 0) tu_X11 rfl (by decide) (by decide) tw_875 rfl ts_10_0_r dX11_here_21) <|
  .cons (ix_s_bipush dX11_here_24 (by decide +kernel)) <|
  .cons (ix_s_aload_n dX11_here_26 rfl) <|
  .cons (ix_s_geti (j := 8) tu_X11 rfl (by decide) (by decide) tw_883 rfl ts_10_8_i dX11_here_27) <|
  .cons (ix_s_iadd dX11_here_30) <|
  .cons (ix_s_iald dX11_here_31) <|
  .cons (ix_s_goto dX11_here_32 (by decide)) <|
  .cons (ix_s_iconst dX11_here_35 (by decide +kernel)) <|
  .cons (ix_s_iret dX11_here_36 rfl) <| .nil
theorem e_X11_here_0 (Q : ix_R → Prop) (ls : ix_L) (st : List ix_V) (μ : ix_M) : ix_Ev o_X11_here Q (0, ls, st, μ) = ix_aload 0 1 (ix_Ev o_X11_here Q) Q ls st μ := ix_Ev.eq (a_X11_here launch0) rfl ls st μ
theorem e_X11_here_1 (Q : ix_R → Prop) (ls : ix_L) (st : List ix_V) (μ : ix_M) : ix_Ev o_X11_here Q (1, ls, st, μ) = ix_geti 10 11 4 (ix_Ev o_X11_here Q) Q ls st μ := ix_Ev.eq (a_X11_here launch0) rfl ls st μ
theorem e_X11_here_4 (Q : ix_R → Prop) (ls : ix_L) (st : List ix_V) (μ : ix_M) : ix_Ev o_X11_here Q (4, ls, st, μ) = ix_if (fun x => x = 0) 7 35 (ix_Ev o_X11_here Q) Q ls st μ := ix_Ev.eq (a_X11_here launch0) rfl ls st μ
theorem e_X11_here_7 (Q : ix_R → Prop) (ls : ix_L) (st : List ix_V) (μ : ix_M) : ix_Ev o_X11_here Q (7, ls, st, μ) = ix_aload 0 8 (ix_Ev o_X11_here Q) Q ls st μ := ix_Ev.eq (a_X11_here launch0) rfl ls st μ
theorem e_X11_here_8 (Q : ix_R → Prop) (ls : ix_L) (st : List ix_V) (μ : ix_M) : ix_Ev o_X11_here Q (8, ls, st, μ) = ix_geti 10 8 11 (ix_Ev o_X11_here Q) Q ls st μ := ix_Ev.eq (a_X11_here launch0) rfl ls st μ
theorem e_X11_here_11 (Q : ix_R → Prop) (ls : ix_L) (st : List ix_V) (μ : ix_M) : ix_Ev o_X11_here Q (11, ls, st, μ) = ix_aload 0 12 (ix_Ev o_X11_here Q) Q ls st μ := ix_Ev.eq (a_X11_here launch0) rfl ls st μ
theorem e_X11_here_12 (Q : ix_R → Prop) (ls : ix_L) (st : List ix_V) (μ : ix_M) : ix_Ev o_X11_here Q (12, ls, st, μ) = ix_getr 10 20 (fun _ => 113) 15 (ix_Ev o_X11_here Q) Q ls st μ := ix_Ev.eq (a_X11_here launch0) rfl ls st μ
theorem e_X11_here_15 (Q : ix_R → Prop) (ls : ix_L) (st : List ix_V) (μ : ix_M) : ix_Ev o_X11_here Q (15, ls, st, μ) = ix_push (vi 4) 16 (ix_Ev o_X11_here Q) Q ls st μ := ix_Ev.eq (a_X11_here launch0) rfl ls st μ
theorem e_X11_here_16 (Q : ix_R → Prop) (ls : ix_L) (st : List ix_V) (μ : ix_M) : ix_Ev o_X11_here Q (16, ls, st, μ) = ix_iald 17 (ix_Ev o_X11_here Q) Q ls st μ := ix_Ev.eq (a_X11_here launch0) rfl ls st μ
theorem e_X11_here_17 (Q : ix_R → Prop) (ls : ix_L) (st : List ix_V) (μ : ix_M) : ix_Ev o_X11_here Q (17, ls, st, μ) = ix_cmp (fun x y => y ≤ x) 35 20 (ix_Ev o_X11_here Q) Q ls st μ := ix_Ev.eq (a_X11_here launch0) rfl ls st μ
theorem e_X11_here_20 (Q : ix_R → Prop) (ls : ix_L) (st : List ix_V) (μ : ix_M) : ix_Ev o_X11_here Q (20, ls, st, μ) = ix_aload 0 21 (ix_Ev o_X11_here Q) Q ls st μ := ix_Ev.eq (a_X11_here launch0) rfl ls st μ
theorem e_X11_here_21 (Q : ix_R → Prop) (ls : ix_L) (st : List ix_V) (μ : ix_M) : ix_Ev o_X11_here Q (21, ls, st, μ) = ix_getr 10 20 (fun _ => 113) 24 (ix_Ev o_X11_here Q) Q ls st μ := ix_Ev.eq (a_X11_here launch0) rfl ls st μ
theorem e_X11_here_24 (Q : ix_R → Prop) (ls : ix_L) (st : List ix_V) (μ : ix_M) : ix_Ev o_X11_here Q (24, ls, st, μ) = ix_push (vi 82) 26 (ix_Ev o_X11_here Q) Q ls st μ := ix_Ev.eq (a_X11_here launch0) rfl ls st μ
theorem e_X11_here_26 (Q : ix_R → Prop) (ls : ix_L) (st : List ix_V) (μ : ix_M) : ix_Ev o_X11_here Q (26, ls, st, μ) = ix_aload 0 27 (ix_Ev o_X11_here Q) Q ls st μ := ix_Ev.eq (a_X11_here launch0) rfl ls st μ
theorem e_X11_here_27 (Q : ix_R → Prop) (ls : ix_L) (st : List ix_V) (μ : ix_M) : ix_Ev o_X11_here Q (27, ls, st, μ) = ix_geti 10 8 30 (ix_Ev o_X11_here Q) Q ls st μ := ix_Ev.eq (a_X11_here launch0) rfl ls st μ
theorem e_X11_here_30 (Q : ix_R → Prop) (ls : ix_L) (st : List ix_V) (μ : ix_M) : ix_Ev o_X11_here Q (30, ls, st, μ) = ix_bin (fun x y => x + y) 31 (ix_Ev o_X11_here Q) Q ls st μ := ix_Ev.eq (a_X11_here launch0) rfl ls st μ
theorem e_X11_here_31 (Q : ix_R → Prop) (ls : ix_L) (st : List ix_V) (μ : ix_M) : ix_Ev o_X11_here Q (31, ls, st, μ) = ix_iald 32 (ix_Ev o_X11_here Q) Q ls st μ := ix_Ev.eq (a_X11_here launch0) rfl ls st μ
theorem e_X11_here_32 (Q : ix_R → Prop) (ls : ix_L) (st : List ix_V) (μ : ix_M) : ix_Ev o_X11_here Q (32, ls, st, μ) = ix_goto 36 (ix_Ev o_X11_here Q) Q ls st μ := ix_Ev.eq (a_X11_here launch0) rfl ls st μ
theorem e_X11_here_35 (Q : ix_R → Prop) (ls : ix_L) (st : List ix_V) (μ : ix_M) : ix_Ev o_X11_here Q (35, ls, st, μ) = ix_push (vi (-1)) 36 (ix_Ev o_X11_here Q) Q ls st μ := ix_Ev.eq (a_X11_here launch0) rfl ls st μ
theorem e_X11_here_36 (Q : ix_R → Prop) (ls : ix_L) (st : List ix_V) (μ : ix_M) : ix_Ev o_X11_here Q (36, ls, st, μ) = ix_iret (ix_Ev o_X11_here Q) Q ls st μ := ix_Ev.eq (a_X11_here launch0) rfl ls st μ
theorem r_X11_here (o : Nat) (μ : ix_M) (Q : ix_R → Prop) (ok_o : o < ix_N ∧ ix_tag o = 10) (hT : T_X11_here o μ Q) : ix_Ev o_X11_here Q (0, [some (vr 10 o)], [], μ) := by
  obtain rfl := ok_10 o ok_o.1 ok_o.2
  obtain ⟨tp, n, u, k, ⟨ok, a, cs⟩, ⟨⟨t1, t2, t3, t4⟩, h2, h3, h4, h5, h6⟩, hQ⟩ := hT
  simp only at h4 h5 h6
  have h8 := h5.1
  have h82 : 82 + nI a = nI (82 + a) := nI_add 82 a
  have c82 : (nI (82 + a)).toNatClampNeg = 82 + a := nI_clamp (by omega)
  have i82 : vp_in (nI (82 + a)) 256 := vp_in_nI (by omega) (by decide)
  have hle : nI n ≤ nI a ↔ n ≤ a := nI_leI (by omega) (by omega)
  cases ok
  · have h4 : μ 112 11 = 1 := h4
    simp (decide := true) only [e_X11_here_0, e_X11_here_1, e_X11_here_4, e_X11_here_7, e_X11_here_8, e_X11_here_11, e_X11_here_12, e_X11_here_15, e_X11_here_16, e_X11_here_17, e_X11_here_20, e_X11_here_21, e_X11_here_24, e_X11_here_26, e_X11_here_27, e_X11_here_30, e_X11_here_31, e_X11_here_32, e_X11_here_35, e_X11_here_36, vi, vl, vr, ix_push, ix_iload, ix_lload, ix_aload, ix_istore, ix_astore, ix_iinc, ix_bin, ix_div, ix_un, ix_i2l, ix_l2i, ix_lbin, ix_lsh, ix_lcmp, ix_dup, ix_dup2, ix_pop, ix_if, ix_cmp, ix_goto, ix_switch, ix_sw, ix_iret, ix_zret, ix_vret, ix_aret, ix_geti, ix_getr, ix_puti, ix_putz, ix_puts, ix_gets, ix_iald, ix_iast, ix_alen, ix_aald, ix_gval, ix_gcod, ix_bald, ix_blen, ix_sald, ix_nret, ix_math2, ix_math1, ix_acopy, ml_113, ml_114, ml_115, ml_116, ml_118, ml_119, ml_120, ml_121, ml_122, ml_123, ml_124, ml_125, ml_126, mv_0, mv_1, mv_2, mv_3, mv_4, mv_5, mB_or, Nat.add_assoc, Int32.reduceLT, Int32.reduceLE, Int32.reduceToNatClampNeg, Int32.reduceSub, Int32.reduceAdd, Nat.reduceAdd, Nat.reduceLeDiff, true_or, or_true, or_false, false_or, not_false_eq_true, not_true_eq_false, false_implies, true_implies, implies_true, and_self, mB_0, mB_01, Classical.not_not, Nat.zero_le, List.getElem?_cons_zero, List.getElem?_cons_succ, List.set_cons_zero, List.set_cons_succ, ix_nl, ix_cs, true_and, and_true, Option.toList_some, Option.toList_none, List.cons_append, List.nil_append, h4]
    exact hQ
  · have h4 : μ 112 11 = 0 := h4
    simp (decide := true) only [e_X11_here_0, e_X11_here_1, e_X11_here_4, e_X11_here_7, e_X11_here_8, e_X11_here_11, e_X11_here_12, e_X11_here_15, e_X11_here_16, e_X11_here_17, e_X11_here_20, e_X11_here_21, e_X11_here_24, e_X11_here_26, e_X11_here_27, e_X11_here_30, e_X11_here_31, e_X11_here_32, e_X11_here_35, e_X11_here_36, vi, vl, vr, ix_push, ix_iload, ix_lload, ix_aload, ix_istore, ix_astore, ix_iinc, ix_bin, ix_div, ix_un, ix_i2l, ix_l2i, ix_lbin, ix_lsh, ix_lcmp, ix_dup, ix_dup2, ix_pop, ix_if, ix_cmp, ix_goto, ix_switch, ix_sw, ix_iret, ix_zret, ix_vret, ix_aret, ix_geti, ix_getr, ix_puti, ix_putz, ix_puts, ix_gets, ix_iald, ix_iast, ix_alen, ix_aald, ix_gval, ix_gcod, ix_bald, ix_blen, ix_sald, ix_nret, ix_math2, ix_math1, ix_acopy, ml_113, ml_114, ml_115, ml_116, ml_118, ml_119, ml_120, ml_121, ml_122, ml_123, ml_124, ml_125, ml_126, mv_0, mv_1, mv_2, mv_3, mv_4, mv_5, mB_or, Nat.add_assoc, Int32.reduceLT, Int32.reduceLE, Int32.reduceToNatClampNeg, Int32.reduceSub, Int32.reduceAdd, Nat.reduceAdd, Nat.reduceLeDiff, true_or, or_true, or_false, false_or, not_false_eq_true, not_true_eq_false, false_implies, true_implies, implies_true, and_self, mB_0, mB_01, Classical.not_not, Nat.zero_le, List.getElem?_cons_zero, List.getElem?_cons_succ, List.set_cons_zero, List.set_cons_succ, ix_nl, ix_cs, true_and, and_true, Option.toList_some, Option.toList_none, List.cons_append, List.nil_append, h4, h8, t1, h82, c82, i82, hle]
    simp only [hr, if_true, nx] at hQ
    refine ⟨fun z => ?_, fun z => ?_⟩
    · rw [if_neg (by omega)] at hQ
      exact hQ
    · rw [if_pos (by omega)] at hQ
      rw [t3 a (by omega)]
      exact hQ
theorem k_X11_here (l : Launch) : ix_Ct l yX11_here cX11_here 1 (some .int) 1 sh_X11_here T_X11_here := ix_ct (a_X11_here l) rfl (by decide) (fun _ => Nat.le_of_ble_eq_true rfl) (fun x μ Q hok hT => r_X11_here x μ Q (ix_ok_at (hok (vr 10 x) (by simp [sh_X11_here])) (by decide) (by decide)) hT)
def tk (tp : Nat → Int32) (n : Nat) (q : Bool × RS) (c : Int32) : Bool × RS := if hr tp n q = c then (true, q.2.1 + 1, q.2.2) else q
theorem PsC.set8 {μ : ix_M} {tp : Nat → Int32} {n u k : Nat} {q : Bool × RS} (h : PsC μ tp n u k q) {a : Nat} (ha : a ≤ n) : PsC (ix_up μ 112 8 (nI a)) tp n u k (q.1, a, q.2.2) := by
  obtain ⟨⟨t1, t2, t3, t4⟩, h2, h3, h4, h5, h6, h7⟩ := h
  have e : ∀ j, j ≠ 8 → ix_up μ 112 8 (nI a) 112 j = μ 112 j := fun j hj => by rw [ix_up_ap, if_neg (fun z => hj z.2)]
  exact ⟨⟨by rw [ix_up_ne (by decide)]; exact t1, t2, fun j hj => by rw [ix_up_ne (by decide)]; exact t3 j hj, t4.1, fun j hj => by rw [e j (by omega)]; exact t4.2 j hj⟩, ⟨by rw [e 10 (by decide)]; exact h2.1, h2.2⟩, by rw [e 9 (by decide)]; exact h3, by rw [e 11 (by decide)]; exact h4, ⟨ix_up_k _ _ _ _, ha⟩, by rw [e 13 (by decide)]; exact h6, fun j hj => by rw [ix_up_ne (by decide)]; exact h7 j hj⟩
def T_X11_takes : Nat × Int32 → ix_M → (ix_R → Prop) → Prop := fun (_, c) μ Q => c ≠ -1 ∧ ∃ tp n u k q, PsC μ tp n u k q ∧ ∀ μ', Fx [112, 118] μ μ' → PsC μ' tp n u k (tk tp n q c) → Q (some (vi (mB (hr tp n q = c))), μ')
def sh_X11_takes (x : Nat × Int32) : List ix_V := [vr 10 x.1, vi x.2]
theorem mo_X11_takes (x : Nat × Int32) (μ : ix_M) (Q Q' : ix_R → Prop) (h : ∀ r, Q r → Q' r) (hT : T_X11_takes x μ Q) : T_X11_takes x μ Q' := by
  obtain ⟨a0, a1⟩ := x
  (obtain ⟨h0, tp, n, u, k, q, h1, h2⟩ := hT; exact ⟨h0, tp, n, u, k, q, h1, fun μ' z z2 => h _ (h2 μ' z z2)⟩)
def oc_X11_takes (n : Nat) : ix_Op := fun k _ ls st μ => match st with
  | .inl a1 :: .inr (.inr (t0, a0)) :: r => t0 = 10 ∧ ix_cs r ≤ 8 ∧ T_X11_takes (a0, a1) μ (fun q => k (n, ls, q.1.toList ++ r, q.2))
  | _ => False
theorem oc_X11_takes_s {l : Launch} {cc : ByteArray} {nL : Nat} {own : String} {d : Nat} {rt : Option FieldType} {pc n : Nat} (h : ix_S l cc nL own d rt pc (ix_call 2 sh_X11_takes T_X11_takes n)) : ix_S l cc nL own d rt pc (oc_X11_takes n) := by
  refine h.by (fun k Q ls st μ h => ?_) (fun k k' Q ls st μ hk h => ?_)
  · unfold oc_X11_takes at h
    split at h
    · rename_i a1 t0 a0 r
      obtain ⟨rfl, h1, h2⟩ := h
      exact ⟨h1, (a0, a1), rfl, _, h2, fun r h => h⟩
    · exact h.elim
  · unfold oc_X11_takes at h ⊢
    split at h
    · obtain ⟨rfl, h1, h2⟩ := h
      exact ⟨rfl, h1, mo_X11_takes _ _ _ _ (fun q hq => hk _ hq) h2⟩
    · exact h.elim
def o_X11_takes : List (Nat × ix_Op) := [
  (0, ix_aload 0 1),
  (1, oc_X11_here 4),
  (4, ix_iload 1 5),
  (5, ix_cmp (fun x y => x = y) 8 12),
  (8, ix_push (vi 1) 9),
  (9, ix_goto 13),
  (12, ix_push (vi 0) 13),
  (13, ix_istore 2 14),
  (14, ix_aload 0 15),
  (15, ix_dup 16),
  (16, ix_geti 10 8 19),
  (19, ix_iload 2 20),
  (20, ix_if (fun x => x = 0) 27 23),
  (23, ix_push (vi 1) 24),
  (24, ix_goto 28),
  (27, ix_push (vi 0) 28),
  (28, ix_bin (fun x y => x + y) 29),
  (29, ix_puti 10 8 32),
  (32, ix_iload 2 33),
  (33, ix_zret)]
set_option maxRecDepth 20000 in
theorem a_X11_takes (l : Launch) : ix_AllS l cX11_takes 3 RX11 2 (some .boolean) o_X11_takes :=
  .cons (ix_s_aload_n dX11_takes_0 rfl) <|
  .cons (oc_X11_here_s (ix_s_callv (t := 10) (k_X11_here l) (by decide) (by decide) tw_1000 tw_12 tw_997 tw_999 tp_25 ⟨by decide, by decide, by decide +kernel⟩ (by decide) rfl rfl (fun _ => ⟨_, _, rfl, rfl⟩) dX11_takes_1)) <|
  .cons (ix_s_iload_n dX11_takes_4 rfl) <|
  .cons (ix_s_cmp_ne dX11_takes_5 (by decide)) <|
  .cons (ix_s_iconst dX11_takes_8 (by decide +kernel)) <|
  .cons (ix_s_goto dX11_takes_9 (by decide)) <|
  .cons (ix_s_iconst dX11_takes_12 (by decide +kernel)) <|
  .cons (ix_s_istore_n dX11_takes_13 rfl (by decide)) <|
  .cons (ix_s_aload_n dX11_takes_14 rfl) <|
  .cons (ix_s_dup dX11_takes_15) <|
  .cons (ix_s_geti (j := 8) tu_X11 rfl (by decide) (by decide) tw_883 rfl ts_10_8_i dX11_takes_16) <|
  .cons (ix_s_iload_n dX11_takes_19 rfl) <|
  .cons (ix_s_if_eq dX11_takes_20 (by decide)) <|
  .cons (ix_s_iconst dX11_takes_23 (by decide +kernel)) <|
  .cons (ix_s_goto dX11_takes_24 (by decide)) <|
  .cons (ix_s_iconst dX11_takes_27 (by decide +kernel)) <|
  .cons (ix_s_iadd dX11_takes_28) <|
  .cons (ix_s_puti (j := 8) tu_X11 tyX11_ok nmX11 rfl (by decide) (by decide) tw_883 rfl rfl (by decide +kernel) ts_10_8_p dX11_takes_29) <|
  .cons (ix_s_iload_n dX11_takes_32 rfl) <|
  .cons (ix_s_zret dX11_takes_33 rfl) <| .nil
theorem e_X11_takes_0 (Q : ix_R → Prop) (ls : ix_L) (st : List ix_V) (μ : ix_M) : ix_Ev o_X11_takes Q (0, ls, st, μ) = ix_aload 0 1 (ix_Ev o_X11_takes Q) Q ls st μ := ix_Ev.eq (a_X11_takes launch0) rfl ls st μ
theorem e_X11_takes_1 (Q : ix_R → Prop) (ls : ix_L) (st : List ix_V) (μ : ix_M) : ix_Ev o_X11_takes Q (1, ls, st, μ) = oc_X11_here 4 (ix_Ev o_X11_takes Q) Q ls st μ := ix_Ev.eq (a_X11_takes launch0) rfl ls st μ
theorem e_X11_takes_4 (Q : ix_R → Prop) (ls : ix_L) (st : List ix_V) (μ : ix_M) : ix_Ev o_X11_takes Q (4, ls, st, μ) = ix_iload 1 5 (ix_Ev o_X11_takes Q) Q ls st μ := ix_Ev.eq (a_X11_takes launch0) rfl ls st μ
theorem e_X11_takes_5 (Q : ix_R → Prop) (ls : ix_L) (st : List ix_V) (μ : ix_M) : ix_Ev o_X11_takes Q (5, ls, st, μ) = ix_cmp (fun x y => x = y) 8 12 (ix_Ev o_X11_takes Q) Q ls st μ := ix_Ev.eq (a_X11_takes launch0) rfl ls st μ
theorem e_X11_takes_8 (Q : ix_R → Prop) (ls : ix_L) (st : List ix_V) (μ : ix_M) : ix_Ev o_X11_takes Q (8, ls, st, μ) = ix_push (vi 1) 9 (ix_Ev o_X11_takes Q) Q ls st μ := ix_Ev.eq (a_X11_takes launch0) rfl ls st μ
theorem e_X11_takes_9 (Q : ix_R → Prop) (ls : ix_L) (st : List ix_V) (μ : ix_M) : ix_Ev o_X11_takes Q (9, ls, st, μ) = ix_goto 13 (ix_Ev o_X11_takes Q) Q ls st μ := ix_Ev.eq (a_X11_takes launch0) rfl ls st μ
theorem e_X11_takes_12 (Q : ix_R → Prop) (ls : ix_L) (st : List ix_V) (μ : ix_M) : ix_Ev o_X11_takes Q (12, ls, st, μ) = ix_push (vi 0) 13 (ix_Ev o_X11_takes Q) Q ls st μ := ix_Ev.eq (a_X11_takes launch0) rfl ls st μ
theorem e_X11_takes_13 (Q : ix_R → Prop) (ls : ix_L) (st : List ix_V) (μ : ix_M) : ix_Ev o_X11_takes Q (13, ls, st, μ) = ix_istore 2 14 (ix_Ev o_X11_takes Q) Q ls st μ := ix_Ev.eq (a_X11_takes launch0) rfl ls st μ
theorem e_X11_takes_14 (Q : ix_R → Prop) (ls : ix_L) (st : List ix_V) (μ : ix_M) : ix_Ev o_X11_takes Q (14, ls, st, μ) = ix_aload 0 15 (ix_Ev o_X11_takes Q) Q ls st μ := ix_Ev.eq (a_X11_takes launch0) rfl ls st μ
theorem e_X11_takes_15 (Q : ix_R → Prop) (ls : ix_L) (st : List ix_V) (μ : ix_M) : ix_Ev o_X11_takes Q (15, ls, st, μ) = ix_dup 16 (ix_Ev o_X11_takes Q) Q ls st μ := ix_Ev.eq (a_X11_takes launch0) rfl ls st μ
theorem e_X11_takes_16 (Q : ix_R → Prop) (ls : ix_L) (st : List ix_V) (μ : ix_M) : ix_Ev o_X11_takes Q (16, ls, st, μ) = ix_geti 10 8 19 (ix_Ev o_X11_takes Q) Q ls st μ := ix_Ev.eq (a_X11_takes launch0) rfl ls st μ
theorem e_X11_takes_19 (Q : ix_R → Prop) (ls : ix_L) (st : List ix_V) (μ : ix_M) : ix_Ev o_X11_takes Q (19, ls, st, μ) = ix_iload 2 20 (ix_Ev o_X11_takes Q) Q ls st μ := ix_Ev.eq (a_X11_takes launch0) rfl ls st μ
theorem e_X11_takes_20 (Q : ix_R → Prop) (ls : ix_L) (st : List ix_V) (μ : ix_M) : ix_Ev o_X11_takes Q (20, ls, st, μ) = ix_if (fun x => x = 0) 27 23 (ix_Ev o_X11_takes Q) Q ls st μ := ix_Ev.eq (a_X11_takes launch0) rfl ls st μ
theorem e_X11_takes_23 (Q : ix_R → Prop) (ls : ix_L) (st : List ix_V) (μ : ix_M) : ix_Ev o_X11_takes Q (23, ls, st, μ) = ix_push (vi 1) 24 (ix_Ev o_X11_takes Q) Q ls st μ := ix_Ev.eq (a_X11_takes launch0) rfl ls st μ
theorem e_X11_takes_24 (Q : ix_R → Prop) (ls : ix_L) (st : List ix_V) (μ : ix_M) : ix_Ev o_X11_takes Q (24, ls, st, μ) = ix_goto 28 (ix_Ev o_X11_takes Q) Q ls st μ := ix_Ev.eq (a_X11_takes launch0) rfl ls st μ
theorem e_X11_takes_27 (Q : ix_R → Prop) (ls : ix_L) (st : List ix_V) (μ : ix_M) : ix_Ev o_X11_takes Q (27, ls, st, μ) = ix_push (vi 0) 28 (ix_Ev o_X11_takes Q) Q ls st μ := ix_Ev.eq (a_X11_takes launch0) rfl ls st μ
theorem e_X11_takes_28 (Q : ix_R → Prop) (ls : ix_L) (st : List ix_V) (μ : ix_M) : ix_Ev o_X11_takes Q (28, ls, st, μ) = ix_bin (fun x y => x + y) 29 (ix_Ev o_X11_takes Q) Q ls st μ := ix_Ev.eq (a_X11_takes launch0) rfl ls st μ
theorem e_X11_takes_29 (Q : ix_R → Prop) (ls : ix_L) (st : List ix_V) (μ : ix_M) : ix_Ev o_X11_takes Q (29, ls, st, μ) = ix_puti 10 8 32 (ix_Ev o_X11_takes Q) Q ls st μ := ix_Ev.eq (a_X11_takes launch0) rfl ls st μ
theorem e_X11_takes_32 (Q : ix_R → Prop) (ls : ix_L) (st : List ix_V) (μ : ix_M) : ix_Ev o_X11_takes Q (32, ls, st, μ) = ix_iload 2 33 (ix_Ev o_X11_takes Q) Q ls st μ := ix_Ev.eq (a_X11_takes launch0) rfl ls st μ
theorem e_X11_takes_33 (Q : ix_R → Prop) (ls : ix_L) (st : List ix_V) (μ : ix_M) : ix_Ev o_X11_takes Q (33, ls, st, μ) = ix_zret (ix_Ev o_X11_takes Q) Q ls st μ := ix_Ev.eq (a_X11_takes launch0) rfl ls st μ
theorem r_X11_takes (o : Nat) (c : Int32) (μ : ix_M) (Q : ix_R → Prop) (ok_o : o < ix_N ∧ ix_tag o = 10) (hT : T_X11_takes (o, c) μ Q) : ix_Ev o_X11_takes Q (0, [some (vr 10 o), some (vi c), none], [], μ) := by
  obtain rfl := ok_10 o ok_o.1 ok_o.2
  obtain ⟨hc, tp, n, u, k, q, h1, hQ⟩ := hT
  have h8 := h1.2.2.2.2.1.1
  have h8n := h1.2.2.2.2.1.2
  simp (decide := true) only [e_X11_takes_0, e_X11_takes_1, e_X11_takes_4, e_X11_takes_5, e_X11_takes_8, e_X11_takes_9, e_X11_takes_12, e_X11_takes_13, e_X11_takes_14, e_X11_takes_15, e_X11_takes_16, e_X11_takes_19, e_X11_takes_20, e_X11_takes_23, e_X11_takes_24, e_X11_takes_27, e_X11_takes_28, e_X11_takes_29, e_X11_takes_32, e_X11_takes_33, vi, vl, vr, oc_X11_here, T_X11_here, ix_push, ix_iload, ix_lload, ix_aload, ix_istore, ix_astore, ix_iinc, ix_bin, ix_div, ix_un, ix_i2l, ix_l2i, ix_lbin, ix_lsh, ix_lcmp, ix_dup, ix_dup2, ix_pop, ix_if, ix_cmp, ix_goto, ix_switch, ix_sw, ix_iret, ix_zret, ix_vret, ix_aret, ix_geti, ix_getr, ix_puti, ix_putz, ix_puts, ix_gets, ix_iald, ix_iast, ix_alen, ix_aald, ix_gval, ix_gcod, ix_bald, ix_blen, ix_sald, ix_nret, ix_math2, ix_math1, ix_acopy, ml_113, ml_114, ml_115, ml_116, ml_118, ml_119, ml_120, ml_121, ml_122, ml_123, ml_124, ml_125, ml_126, mv_0, mv_1, mv_2, mv_3, mv_4, mv_5, mB_or, Nat.add_assoc, Int32.reduceLT, Int32.reduceLE, Int32.reduceToNatClampNeg, Int32.reduceSub, Int32.reduceAdd, Nat.reduceAdd, Nat.reduceLeDiff, true_or, or_true, or_false, false_or, not_false_eq_true, not_true_eq_false, false_implies, true_implies, implies_true, and_self, mB_0, mB_01, Classical.not_not, Nat.zero_le, List.getElem?_cons_zero, List.getElem?_cons_succ, List.set_cons_zero, List.set_cons_succ, ix_nl, ix_cs, true_and, and_true, Option.toList_some, Option.toList_none, List.cons_append, List.nil_append, h8]
  refine ⟨tp, n, u, k, q, h1, fun z => ?_, fun z => ?_⟩
  · have hok : q.1 = true ∧ q.2.1 < n := by
      unfold hr at z
      by_cases y : q.1 = true
      · rw [if_pos y] at z
        exact ⟨y, nx_in (by rw [z]; exact hc)⟩
      · rw [if_neg y] at z
        exact absurd z.symm hc
    rw [nI_1]
    have := hQ (ix_up μ 112 8 (nI (q.2.1 + 1))) (Fx.rf.up (by simp)) (by
      unfold tk
      rw [if_pos z]
      have g := h1.set8 (a := q.2.1 + 1) (by omega)
      rw [hok.1] at g
      exact g)
    rw [mB, if_pos z] at this
    exact this
  · have e0 : nI q.2.1 + 0 = nI q.2.1 := Int32.add_zero _
    rw [e0]
    have := hQ (ix_up μ 112 8 (nI q.2.1)) (Fx.rf.up (by simp)) (by
      unfold tk
      rw [if_neg z]
      exact h1.set8 h8n)
    rw [mB, if_neg z] at this
    exact this
theorem k_X11_takes (l : Launch) : ix_Ct l yX11_takes cX11_takes 3 (some .boolean) 2 sh_X11_takes T_X11_takes := ix_ct (a_X11_takes l) rfl (by decide) (fun _ => Nat.le_of_ble_eq_true rfl) (fun x μ Q hok hT => r_X11_takes x.1 x.2 μ Q (ix_ok_at (hok (vr 10 x.1) (by simp [sh_X11_takes])) (by decide) (by decide)) hT)
def cd (q : Bool × RS) (v : Int32) : Bool × RS := if q.1 = true then (true, q.2.1, q.2.2 ++ [v]) else q
def T_X11_codes : Nat × Int32 → ix_M → (ix_R → Prop) → Prop := fun (_, v) μ Q => ∃ tp n u k q, PsC μ tp n u k q ∧ q.2.2.length < 60 ∧ ∀ μ', Fx [112, 118] μ μ' → PsC μ' tp n u k (cd q v) → Q (none, μ')
def sh_X11_codes (x : Nat × Int32) : List ix_V := [vr 10 x.1, vi x.2]
theorem mo_X11_codes (x : Nat × Int32) (μ : ix_M) (Q Q' : ix_R → Prop) (h : ∀ r, Q r → Q' r) (hT : T_X11_codes x μ Q) : T_X11_codes x μ Q' := by
  obtain ⟨a0, a1⟩ := x
  (obtain ⟨tp, n, u, k, q, h1, h2, h3⟩ := hT; exact ⟨tp, n, u, k, q, h1, h2, fun μ' z z2 => h _ (h3 μ' z z2)⟩)
def oc_X11_codes (n : Nat) : ix_Op := fun k _ ls st μ => match st with
  | .inl a1 :: .inr (.inr (t0, a0)) :: r => t0 = 10 ∧ ix_cs r ≤ 8 ∧ T_X11_codes (a0, a1) μ (fun q => k (n, ls, q.1.toList ++ r, q.2))
  | _ => False
theorem oc_X11_codes_s {l : Launch} {cc : ByteArray} {nL : Nat} {own : String} {d : Nat} {rt : Option FieldType} {pc n : Nat} (h : ix_S l cc nL own d rt pc (ix_call 2 sh_X11_codes T_X11_codes n)) : ix_S l cc nL own d rt pc (oc_X11_codes n) := by
  refine h.by (fun k Q ls st μ h => ?_) (fun k k' Q ls st μ hk h => ?_)
  · unfold oc_X11_codes at h
    split at h
    · rename_i a1 t0 a0 r
      obtain ⟨rfl, h1, h2⟩ := h
      exact ⟨h1, (a0, a1), rfl, _, h2, fun r h => h⟩
    · exact h.elim
  · unfold oc_X11_codes at h ⊢
    split at h
    · obtain ⟨rfl, h1, h2⟩ := h
      exact ⟨rfl, h1, mo_X11_codes _ _ _ _ (fun q hq => hk _ hq) h2⟩
    · exact h.elim
def o_X11_codes : List (Nat × ix_Op) := [
  (0, ix_aload 0 1),
  (1, ix_geti 10 11 4),
  (4, ix_if (fun x => x = 0) 7 27),
  (7, ix_aload 0 8),
  (8, ix_getr 10 20 (fun _ => 118) 11),
  (11, ix_aload 0 12),
  (12, ix_geti 10 13 15),
  (15, ix_iload 1 16),
  (16, ix_iast 17),
  (17, ix_aload 0 18),
  (18, ix_dup 19),
  (19, ix_geti 10 13 22),
  (22, ix_push (vi 1) 23),
  (23, ix_bin (fun x y => x + y) 24),
  (24, ix_puti 10 13 27),
  (27, ix_vret)]
set_option maxRecDepth 20000 in
theorem a_X11_codes (l : Launch) : ix_AllS l cX11_codes 2 RX11 1 none o_X11_codes :=
  .cons (ix_s_aload_n dX11_codes_0 rfl) <|
  .cons (ix_s_geti (j := 11) tu_X11 rfl (by decide) (by decide) tw_886 rfl ts_10_11_i dX11_codes_1) <|
  .cons (ix_s_if_ne dX11_codes_4 (by decide)) <|
  .cons (ix_s_aload_n dX11_codes_7 rfl) <|
  .cons (ix_s_getr (j := 12) tu_X11 rfl (by decide) (by decide) tw_887 rfl ts_10_12_r dX11_codes_8) <|
  .cons (ix_s_aload_n dX11_codes_11 rfl) <|
  .cons (ix_s_geti (j := 13) tu_X11 rfl (by decide) (by decide) tw_888 rfl ts_10_13_i dX11_codes_12) <|
  .cons (ix_s_iload_n dX11_codes_15 rfl) <|
  .cons (ix_s_iast dX11_codes_16) <|
  .cons (ix_s_aload_n dX11_codes_17 rfl) <|
  .cons (ix_s_dup dX11_codes_18) <|
  .cons (ix_s_geti (j := 13) tu_X11 rfl (by decide) (by decide) tw_888 rfl ts_10_13_i dX11_codes_19) <|
  .cons (ix_s_iconst dX11_codes_22 (by decide +kernel)) <|
  .cons (ix_s_iadd dX11_codes_23) <|
  .cons (ix_s_puti (j := 13) tu_X11 tyX11_ok nmX11 rfl (by decide) (by decide) tw_888 rfl rfl (by decide +kernel) ts_10_13_p dX11_codes_24) <|
  .cons (ix_s_vret dX11_codes_27 rfl) <| .nil
theorem e_X11_codes_0 (Q : ix_R → Prop) (ls : ix_L) (st : List ix_V) (μ : ix_M) : ix_Ev o_X11_codes Q (0, ls, st, μ) = ix_aload 0 1 (ix_Ev o_X11_codes Q) Q ls st μ := ix_Ev.eq (a_X11_codes launch0) rfl ls st μ
theorem e_X11_codes_1 (Q : ix_R → Prop) (ls : ix_L) (st : List ix_V) (μ : ix_M) : ix_Ev o_X11_codes Q (1, ls, st, μ) = ix_geti 10 11 4 (ix_Ev o_X11_codes Q) Q ls st μ := ix_Ev.eq (a_X11_codes launch0) rfl ls st μ
theorem e_X11_codes_4 (Q : ix_R → Prop) (ls : ix_L) (st : List ix_V) (μ : ix_M) : ix_Ev o_X11_codes Q (4, ls, st, μ) = ix_if (fun x => x = 0) 7 27 (ix_Ev o_X11_codes Q) Q ls st μ := ix_Ev.eq (a_X11_codes launch0) rfl ls st μ
theorem e_X11_codes_7 (Q : ix_R → Prop) (ls : ix_L) (st : List ix_V) (μ : ix_M) : ix_Ev o_X11_codes Q (7, ls, st, μ) = ix_aload 0 8 (ix_Ev o_X11_codes Q) Q ls st μ := ix_Ev.eq (a_X11_codes launch0) rfl ls st μ
theorem e_X11_codes_8 (Q : ix_R → Prop) (ls : ix_L) (st : List ix_V) (μ : ix_M) : ix_Ev o_X11_codes Q (8, ls, st, μ) = ix_getr 10 20 (fun _ => 118) 11 (ix_Ev o_X11_codes Q) Q ls st μ := ix_Ev.eq (a_X11_codes launch0) rfl ls st μ
theorem e_X11_codes_11 (Q : ix_R → Prop) (ls : ix_L) (st : List ix_V) (μ : ix_M) : ix_Ev o_X11_codes Q (11, ls, st, μ) = ix_aload 0 12 (ix_Ev o_X11_codes Q) Q ls st μ := ix_Ev.eq (a_X11_codes launch0) rfl ls st μ
theorem e_X11_codes_12 (Q : ix_R → Prop) (ls : ix_L) (st : List ix_V) (μ : ix_M) : ix_Ev o_X11_codes Q (12, ls, st, μ) = ix_geti 10 13 15 (ix_Ev o_X11_codes Q) Q ls st μ := ix_Ev.eq (a_X11_codes launch0) rfl ls st μ
theorem e_X11_codes_15 (Q : ix_R → Prop) (ls : ix_L) (st : List ix_V) (μ : ix_M) : ix_Ev o_X11_codes Q (15, ls, st, μ) = ix_iload 1 16 (ix_Ev o_X11_codes Q) Q ls st μ := ix_Ev.eq (a_X11_codes launch0) rfl ls st μ
theorem e_X11_codes_16 (Q : ix_R → Prop) (ls : ix_L) (st : List ix_V) (μ : ix_M) : ix_Ev o_X11_codes Q (16, ls, st, μ) = ix_iast 17 (ix_Ev o_X11_codes Q) Q ls st μ := ix_Ev.eq (a_X11_codes launch0) rfl ls st μ
theorem e_X11_codes_17 (Q : ix_R → Prop) (ls : ix_L) (st : List ix_V) (μ : ix_M) : ix_Ev o_X11_codes Q (17, ls, st, μ) = ix_aload 0 18 (ix_Ev o_X11_codes Q) Q ls st μ := ix_Ev.eq (a_X11_codes launch0) rfl ls st μ
theorem e_X11_codes_18 (Q : ix_R → Prop) (ls : ix_L) (st : List ix_V) (μ : ix_M) : ix_Ev o_X11_codes Q (18, ls, st, μ) = ix_dup 19 (ix_Ev o_X11_codes Q) Q ls st μ := ix_Ev.eq (a_X11_codes launch0) rfl ls st μ
theorem e_X11_codes_19 (Q : ix_R → Prop) (ls : ix_L) (st : List ix_V) (μ : ix_M) : ix_Ev o_X11_codes Q (19, ls, st, μ) = ix_geti 10 13 22 (ix_Ev o_X11_codes Q) Q ls st μ := ix_Ev.eq (a_X11_codes launch0) rfl ls st μ
theorem e_X11_codes_22 (Q : ix_R → Prop) (ls : ix_L) (st : List ix_V) (μ : ix_M) : ix_Ev o_X11_codes Q (22, ls, st, μ) = ix_push (vi 1) 23 (ix_Ev o_X11_codes Q) Q ls st μ := ix_Ev.eq (a_X11_codes launch0) rfl ls st μ
theorem e_X11_codes_23 (Q : ix_R → Prop) (ls : ix_L) (st : List ix_V) (μ : ix_M) : ix_Ev o_X11_codes Q (23, ls, st, μ) = ix_bin (fun x y => x + y) 24 (ix_Ev o_X11_codes Q) Q ls st μ := ix_Ev.eq (a_X11_codes launch0) rfl ls st μ
theorem e_X11_codes_24 (Q : ix_R → Prop) (ls : ix_L) (st : List ix_V) (μ : ix_M) : ix_Ev o_X11_codes Q (24, ls, st, μ) = ix_puti 10 13 27 (ix_Ev o_X11_codes Q) Q ls st μ := ix_Ev.eq (a_X11_codes launch0) rfl ls st μ
theorem e_X11_codes_27 (Q : ix_R → Prop) (ls : ix_L) (st : List ix_V) (μ : ix_M) : ix_Ev o_X11_codes Q (27, ls, st, μ) = ix_vret (ix_Ev o_X11_codes Q) Q ls st μ := ix_Ev.eq (a_X11_codes launch0) rfl ls st μ
theorem r_X11_codes (o : Nat) (v : Int32) (μ : ix_M) (Q : ix_R → Prop) (ok_o : o < ix_N ∧ ix_tag o = 10) (hT : T_X11_codes (o, v) μ Q) : ix_Ev o_X11_codes Q (0, [some (vr 10 o), some (vi v)], [], μ) := by
  obtain rfl := ok_10 o ok_o.1 ok_o.2
  obtain ⟨tp, n, u, k, ⟨ok, a, cs⟩, h1, hl, hQ⟩ := hT
  have hP := h1
  obtain ⟨⟨t1, t2, t3, t4⟩, h2, h3, h4, h5, h6, h7⟩ := h1
  simp only at h4 h5 h6 h7 hl
  cases ok
  · have h4 : μ 112 11 = 1 := h4
    simp (decide := true) only [e_X11_codes_0, e_X11_codes_1, e_X11_codes_4, e_X11_codes_7, e_X11_codes_8, e_X11_codes_11, e_X11_codes_12, e_X11_codes_15, e_X11_codes_16, e_X11_codes_17, e_X11_codes_18, e_X11_codes_19, e_X11_codes_22, e_X11_codes_23, e_X11_codes_24, e_X11_codes_27, vi, vl, vr, ix_push, ix_iload, ix_lload, ix_aload, ix_istore, ix_astore, ix_iinc, ix_bin, ix_div, ix_un, ix_i2l, ix_l2i, ix_lbin, ix_lsh, ix_lcmp, ix_dup, ix_dup2, ix_pop, ix_if, ix_cmp, ix_goto, ix_switch, ix_sw, ix_iret, ix_zret, ix_vret, ix_aret, ix_geti, ix_getr, ix_puti, ix_putz, ix_puts, ix_gets, ix_iald, ix_iast, ix_alen, ix_aald, ix_gval, ix_gcod, ix_bald, ix_blen, ix_sald, ix_nret, ix_math2, ix_math1, ix_acopy, ml_113, ml_114, ml_115, ml_116, ml_118, ml_119, ml_120, ml_121, ml_122, ml_123, ml_124, ml_125, ml_126, mv_0, mv_1, mv_2, mv_3, mv_4, mv_5, mB_or, Nat.add_assoc, Int32.reduceLT, Int32.reduceLE, Int32.reduceToNatClampNeg, Int32.reduceSub, Int32.reduceAdd, Nat.reduceAdd, Nat.reduceLeDiff, true_or, or_true, or_false, false_or, not_false_eq_true, not_true_eq_false, false_implies, true_implies, implies_true, and_self, mB_0, mB_01, Classical.not_not, Nat.zero_le, List.getElem?_cons_zero, List.getElem?_cons_succ, List.set_cons_zero, List.set_cons_succ, ix_nl, ix_cs, true_and, and_true, Option.toList_some, Option.toList_none, List.cons_append, List.nil_append, h4]
    exact hQ μ Fx.rf hP
  · have h4 : μ 112 11 = 0 := h4
    have cl : (nI cs.length).toNatClampNeg = cs.length := nI_clamp (by omega)
    have il : vp_in (nI cs.length) 60 := vp_in_nI hl (by decide)
    simp (decide := true) only [e_X11_codes_0, e_X11_codes_1, e_X11_codes_4, e_X11_codes_7, e_X11_codes_8, e_X11_codes_11, e_X11_codes_12, e_X11_codes_15, e_X11_codes_16, e_X11_codes_17, e_X11_codes_18, e_X11_codes_19, e_X11_codes_22, e_X11_codes_23, e_X11_codes_24, e_X11_codes_27, vi, vl, vr, ix_push, ix_iload, ix_lload, ix_aload, ix_istore, ix_astore, ix_iinc, ix_bin, ix_div, ix_un, ix_i2l, ix_l2i, ix_lbin, ix_lsh, ix_lcmp, ix_dup, ix_dup2, ix_pop, ix_if, ix_cmp, ix_goto, ix_switch, ix_sw, ix_iret, ix_zret, ix_vret, ix_aret, ix_geti, ix_getr, ix_puti, ix_putz, ix_puts, ix_gets, ix_iald, ix_iast, ix_alen, ix_aald, ix_gval, ix_gcod, ix_bald, ix_blen, ix_sald, ix_nret, ix_math2, ix_math1, ix_acopy, ml_113, ml_114, ml_115, ml_116, ml_118, ml_119, ml_120, ml_121, ml_122, ml_123, ml_124, ml_125, ml_126, mv_0, mv_1, mv_2, mv_3, mv_4, mv_5, mB_or, Nat.add_assoc, Int32.reduceLT, Int32.reduceLE, Int32.reduceToNatClampNeg, Int32.reduceSub, Int32.reduceAdd, Nat.reduceAdd, Nat.reduceLeDiff, true_or, or_true, or_false, false_or, not_false_eq_true, not_true_eq_false, false_implies, true_implies, implies_true, and_self, mB_0, mB_01, Classical.not_not, Nat.zero_le, List.getElem?_cons_zero, List.getElem?_cons_succ, List.set_cons_zero, List.set_cons_succ, ix_nl, ix_cs, true_and, and_true, Option.toList_some, Option.toList_none, List.cons_append, List.nil_append, h4, h6, cl, il]
    have e13 : ix_up μ 118 cs.length v 112 13 = nI cs.length := by rw [ix_up_ne (by decide)]; exact h6
    rw [e13, nI_1]
    have e : ∀ j, j ≠ 13 → ix_up (ix_up μ 118 cs.length v) 112 13 (nI (cs.length + 1)) 112 j = μ 112 j := fun j hj => by rw [ix_up_ap, if_neg (fun z => hj z.2), ix_up_ne (by decide)]
    refine hQ _ ((Fx.rf.up (by simp)).up (by simp)) ⟨⟨by rw [ix_up_ne (by decide), ix_up_ne (by decide)]; exact t1, t2, fun j hj => by rw [ix_up_ne (by decide), ix_up_ne (by decide)]; exact t3 j hj, t4.1, fun j hj => by rw [e j (by omega)]; exact t4.2 j hj⟩, ⟨by rw [e 10 (by decide)]; exact h2.1, h2.2⟩, by rw [e 9 (by decide)]; exact h3, by rw [e 11 (by decide)]; exact h4, ⟨by rw [e 8 (by decide)]; exact h5.1, h5.2⟩, ?_, fun j hj => ?_⟩
    · rw [ix_up_k]
      simp [cd]
    · simp only [cd, if_true, List.length_append, List.length_cons, List.length_nil] at hj ⊢
      rw [ix_up_ne (by decide), ix_up_ap]
      by_cases ej : j = cs.length
      · subst ej
        simp
      · rw [if_neg (by simp [ej]), h7 j (by omega)]
        simp only [List.getD_eq_getElem?_getD]
        rw [List.getElem?_append_left (by omega)]
theorem k_X11_codes (l : Launch) : ix_Ct l yX11_codes cX11_codes 2 none 1 sh_X11_codes T_X11_codes := ix_ct (a_X11_codes l) rfl (by decide) (fun _ => Nat.le_of_ble_eq_true rfl) (fun x μ Q hok hT => r_X11_codes x.1 x.2 μ Q (ix_ok_at (hok (vr 10 x.1) (by simp [sh_X11_codes])) (by decide) (by decide)) hT)
def nmF (u : Nat) (c : Int32) (i : Nat) : Int32 := match i with
  | 0 => -1
  | i + 1 => if sByte (u + 1) i = c then nI i else nmF u c i
theorem nmF_3 (u : Nat) (hu : u ≤ 1) (c : Int32) : nmF u c 3 = mName u c := by
  have h : u = 0 ∨ u = 1 := by omega
  rcases h with rfl | rfl
  · have b0 : sByte 1 0 = 115 := rfl
    have b1 : sByte 1 1 = 100 := rfl
    have b2 : sByte 1 2 = 116 := rfl
    simp only [nmF, mName, b0, b1, b2, Nat.zero_add, if_true]
    by_cases e0 : c = 115
    · subst e0; decide
    by_cases e1 : c = 100
    · subst e1; decide
    by_cases e2 : c = 116
    · subst e2; decide
    rw [if_neg (Ne.symm e2), if_neg (Ne.symm e1), if_neg (Ne.symm e0), if_neg e0, if_neg e1, if_neg e2]
  · have b0 : sByte 2 0 = 108 := rfl
    have b1 : sByte 2 1 = 98 := rfl
    have b2 : sByte 2 2 = 104 := rfl
    have h10 : ¬ (1 : Nat) = 0 := by decide
    simp only [nmF, mName, b0, b1, b2, Nat.reduceAdd, if_neg h10]
    by_cases e0 : c = 108
    · subst e0; decide
    by_cases e1 : c = 98
    · subst e1; decide
    by_cases e2 : c = 104
    · subst e2; decide
    rw [if_neg (Ne.symm e2), if_neg (Ne.symm e1), if_neg (Ne.symm e0), if_neg e0, if_neg e1, if_neg e2]
def T_X11_nameOf : Nat × Int32 → ix_M → (ix_R → Prop) → Prop := fun (_, c) μ Q => ∃ U, μ 112 10 = nI U ∧ U ≤ 1 ∧ Q (some (vi (mName U c)), μ)
def sh_X11_nameOf (x : Nat × Int32) : List ix_V := [vr 10 x.1, vi x.2]
theorem mo_X11_nameOf (x : Nat × Int32) (μ : ix_M) (Q Q' : ix_R → Prop) (h : ∀ r, Q r → Q' r) (hT : T_X11_nameOf x μ Q) : T_X11_nameOf x μ Q' := by
  obtain ⟨a0, a1⟩ := x
  (obtain ⟨U, h1, h2, h3⟩ := hT; exact ⟨U, h1, h2, h _ h3⟩)
def oc_X11_nameOf (n : Nat) : ix_Op := fun k _ ls st μ => match st with
  | .inl a1 :: .inr (.inr (t0, a0)) :: r => t0 = 10 ∧ ix_cs r ≤ 8 ∧ T_X11_nameOf (a0, a1) μ (fun q => k (n, ls, q.1.toList ++ r, q.2))
  | _ => False
theorem oc_X11_nameOf_s {l : Launch} {cc : ByteArray} {nL : Nat} {own : String} {d : Nat} {rt : Option FieldType} {pc n : Nat} (h : ix_S l cc nL own d rt pc (ix_call 2 sh_X11_nameOf T_X11_nameOf n)) : ix_S l cc nL own d rt pc (oc_X11_nameOf n) := by
  refine h.by (fun k Q ls st μ h => ?_) (fun k k' Q ls st μ hk h => ?_)
  · unfold oc_X11_nameOf at h
    split at h
    · rename_i a1 t0 a0 r
      obtain ⟨rfl, h1, h2⟩ := h
      exact ⟨h1, (a0, a1), rfl, _, h2, fun r h => h⟩
    · exact h.elim
  · unfold oc_X11_nameOf at h ⊢
    split at h
    · obtain ⟨rfl, h1, h2⟩ := h
      exact ⟨rfl, h1, mo_X11_nameOf _ _ _ _ (fun q hq => hk _ hq) h2⟩
    · exact h.elim
def o_X11_nameOf : List (Nat × ix_Op) := [
  (0, ix_push (vi (-1)) 1),
  (1, ix_istore 2 2),
  (2, ix_push (vi 0) 3),
  (3, ix_istore 3 4),
  (4, ix_iload 3 5),
  (5, ix_aload 0 6),
  (6, ix_getr 10 23 (fun _ => 117) 9),
  (9, ix_aload 0 10),
  (10, ix_geti 10 10 13),
  (13, ix_sald 14),
  (14, oc_J0_length_8abf5 17),
  (17, ix_cmp (fun x y => y ≤ x) 49 20),
  (20, ix_aload 0 21),
  (21, ix_getr 10 23 (fun _ => 117) 24),
  (24, ix_aload 0 25),
  (25, ix_geti 10 10 28),
  (28, ix_sald 29),
  (29, ix_iload 3 30),
  (30, oc_J0_charAt_5068e 33),
  (33, ix_iload 1 34),
  (34, ix_cmp (fun x y => x = y) 37 41),
  (37, ix_iload 3 38),
  (38, ix_goto 42),
  (41, ix_iload 2 42),
  (42, ix_istore 2 43),
  (43, ix_iinc 3 1 46),
  (46, ix_goto 4),
  (49, ix_iload 2 50),
  (50, ix_iret)]
set_option maxRecDepth 20000 in
theorem a_X11_nameOf (l : Launch) : ix_AllS l cX11_nameOf 4 RX11 5 (some .int) o_X11_nameOf :=
  .cons (ix_s_iconst dX11_nameOf_0 (by decide +kernel)) <|
  .cons (ix_s_istore_n dX11_nameOf_1 rfl (by decide)) <|
  .cons (ix_s_iconst dX11_nameOf_2 (by decide +kernel)) <|
  .cons (ix_s_istore_n dX11_nameOf_3 rfl (by decide)) <|
  .cons (ix_s_iload_n dX11_nameOf_4 rfl) <|
  .cons (ix_s_aload_n dX11_nameOf_5 rfl) <|
  .cons (ix_s_getr (j := 7) tu_X11 rfl (by decide) (by decide) tw_882 rfl ts_10_7_r dX11_nameOf_6) <|
  .cons (ix_s_aload_n dX11_nameOf_9 rfl) <|
  .cons (ix_s_geti (j := 10) tu_X11 rfl (by decide) (by decide) tw_885 rfl ts_10_10_i dX11_nameOf_10) <|
  .cons (ix_s_sald dX11_nameOf_13) <|
  .cons (oc_J0_length_8abf5_s (ix_s_callS (k_J0_length_8abf5 l) (by decide) (by decide) tw_504 tw_15 tw_1013 tw_502 tw_503 ⟨by decide, by decide, by decide +kernel⟩ rfl (fun _ => ⟨_, _, rfl, rfl⟩) dX11_nameOf_14)) <|
  .cons (ix_s_cmp_ge dX11_nameOf_17 (by decide)) <|
  .cons (ix_s_aload_n dX11_nameOf_20 rfl) <|
  .cons (ix_s_getr (j := 7) tu_X11 rfl (by decide) (by decide) tw_882 rfl ts_10_7_r dX11_nameOf_21) <|
  .cons (ix_s_aload_n dX11_nameOf_24 rfl) <|
  .cons (ix_s_geti (j := 10) tu_X11 rfl (by decide) (by decide) tw_885 rfl ts_10_10_i dX11_nameOf_25) <|
  .cons (ix_s_sald dX11_nameOf_28) <|
  .cons (ix_s_iload_n dX11_nameOf_29 rfl) <|
  .cons (oc_J0_charAt_5068e_s (ix_s_callS (k_J0_charAt_5068e l) (by decide) (by decide) tw_1017 tw_15 tw_1014 tw_1015 tw_1016 ⟨by decide, by decide, by decide +kernel⟩ rfl (fun _ => ⟨_, _, rfl, rfl⟩) dX11_nameOf_30)) <|
  .cons (ix_s_iload_n dX11_nameOf_33 rfl) <|
  .cons (ix_s_cmp_ne dX11_nameOf_34 (by decide)) <|
  .cons (ix_s_iload_n dX11_nameOf_37 rfl) <|
  .cons (ix_s_goto dX11_nameOf_38 (by decide)) <|
  .cons (ix_s_iload_n dX11_nameOf_41 rfl) <|
  .cons (ix_s_istore_n dX11_nameOf_42 rfl (by decide)) <|
  .cons (ix_s_iinc dX11_nameOf_43 (by decide +kernel) (by decide)) <|
  .cons (ix_s_goto dX11_nameOf_46 (by decide)) <|
  .cons (ix_s_iload_n dX11_nameOf_49 rfl) <|
  .cons (ix_s_iret dX11_nameOf_50 rfl) <| .nil
theorem e_X11_nameOf_0 (Q : ix_R → Prop) (ls : ix_L) (st : List ix_V) (μ : ix_M) : ix_Ev o_X11_nameOf Q (0, ls, st, μ) = ix_push (vi (-1)) 1 (ix_Ev o_X11_nameOf Q) Q ls st μ := ix_Ev.eq (a_X11_nameOf launch0) rfl ls st μ
theorem e_X11_nameOf_1 (Q : ix_R → Prop) (ls : ix_L) (st : List ix_V) (μ : ix_M) : ix_Ev o_X11_nameOf Q (1, ls, st, μ) = ix_istore 2 2 (ix_Ev o_X11_nameOf Q) Q ls st μ := ix_Ev.eq (a_X11_nameOf launch0) rfl ls st μ
theorem e_X11_nameOf_2 (Q : ix_R → Prop) (ls : ix_L) (st : List ix_V) (μ : ix_M) : ix_Ev o_X11_nameOf Q (2, ls, st, μ) = ix_push (vi 0) 3 (ix_Ev o_X11_nameOf Q) Q ls st μ := ix_Ev.eq (a_X11_nameOf launch0) rfl ls st μ
theorem e_X11_nameOf_3 (Q : ix_R → Prop) (ls : ix_L) (st : List ix_V) (μ : ix_M) : ix_Ev o_X11_nameOf Q (3, ls, st, μ) = ix_istore 3 4 (ix_Ev o_X11_nameOf Q) Q ls st μ := ix_Ev.eq (a_X11_nameOf launch0) rfl ls st μ
theorem e_X11_nameOf_4 (Q : ix_R → Prop) (ls : ix_L) (st : List ix_V) (μ : ix_M) : ix_Ev o_X11_nameOf Q (4, ls, st, μ) = ix_iload 3 5 (ix_Ev o_X11_nameOf Q) Q ls st μ := ix_Ev.eq (a_X11_nameOf launch0) rfl ls st μ
theorem e_X11_nameOf_5 (Q : ix_R → Prop) (ls : ix_L) (st : List ix_V) (μ : ix_M) : ix_Ev o_X11_nameOf Q (5, ls, st, μ) = ix_aload 0 6 (ix_Ev o_X11_nameOf Q) Q ls st μ := ix_Ev.eq (a_X11_nameOf launch0) rfl ls st μ
theorem e_X11_nameOf_6 (Q : ix_R → Prop) (ls : ix_L) (st : List ix_V) (μ : ix_M) : ix_Ev o_X11_nameOf Q (6, ls, st, μ) = ix_getr 10 23 (fun _ => 117) 9 (ix_Ev o_X11_nameOf Q) Q ls st μ := ix_Ev.eq (a_X11_nameOf launch0) rfl ls st μ
theorem e_X11_nameOf_9 (Q : ix_R → Prop) (ls : ix_L) (st : List ix_V) (μ : ix_M) : ix_Ev o_X11_nameOf Q (9, ls, st, μ) = ix_aload 0 10 (ix_Ev o_X11_nameOf Q) Q ls st μ := ix_Ev.eq (a_X11_nameOf launch0) rfl ls st μ
theorem e_X11_nameOf_10 (Q : ix_R → Prop) (ls : ix_L) (st : List ix_V) (μ : ix_M) : ix_Ev o_X11_nameOf Q (10, ls, st, μ) = ix_geti 10 10 13 (ix_Ev o_X11_nameOf Q) Q ls st μ := ix_Ev.eq (a_X11_nameOf launch0) rfl ls st μ
theorem e_X11_nameOf_13 (Q : ix_R → Prop) (ls : ix_L) (st : List ix_V) (μ : ix_M) : ix_Ev o_X11_nameOf Q (13, ls, st, μ) = ix_sald 14 (ix_Ev o_X11_nameOf Q) Q ls st μ := ix_Ev.eq (a_X11_nameOf launch0) rfl ls st μ
theorem e_X11_nameOf_14 (Q : ix_R → Prop) (ls : ix_L) (st : List ix_V) (μ : ix_M) : ix_Ev o_X11_nameOf Q (14, ls, st, μ) = oc_J0_length_8abf5 17 (ix_Ev o_X11_nameOf Q) Q ls st μ := ix_Ev.eq (a_X11_nameOf launch0) rfl ls st μ
theorem e_X11_nameOf_17 (Q : ix_R → Prop) (ls : ix_L) (st : List ix_V) (μ : ix_M) : ix_Ev o_X11_nameOf Q (17, ls, st, μ) = ix_cmp (fun x y => y ≤ x) 49 20 (ix_Ev o_X11_nameOf Q) Q ls st μ := ix_Ev.eq (a_X11_nameOf launch0) rfl ls st μ
theorem e_X11_nameOf_20 (Q : ix_R → Prop) (ls : ix_L) (st : List ix_V) (μ : ix_M) : ix_Ev o_X11_nameOf Q (20, ls, st, μ) = ix_aload 0 21 (ix_Ev o_X11_nameOf Q) Q ls st μ := ix_Ev.eq (a_X11_nameOf launch0) rfl ls st μ
theorem e_X11_nameOf_21 (Q : ix_R → Prop) (ls : ix_L) (st : List ix_V) (μ : ix_M) : ix_Ev o_X11_nameOf Q (21, ls, st, μ) = ix_getr 10 23 (fun _ => 117) 24 (ix_Ev o_X11_nameOf Q) Q ls st μ := ix_Ev.eq (a_X11_nameOf launch0) rfl ls st μ
theorem e_X11_nameOf_24 (Q : ix_R → Prop) (ls : ix_L) (st : List ix_V) (μ : ix_M) : ix_Ev o_X11_nameOf Q (24, ls, st, μ) = ix_aload 0 25 (ix_Ev o_X11_nameOf Q) Q ls st μ := ix_Ev.eq (a_X11_nameOf launch0) rfl ls st μ
theorem e_X11_nameOf_25 (Q : ix_R → Prop) (ls : ix_L) (st : List ix_V) (μ : ix_M) : ix_Ev o_X11_nameOf Q (25, ls, st, μ) = ix_geti 10 10 28 (ix_Ev o_X11_nameOf Q) Q ls st μ := ix_Ev.eq (a_X11_nameOf launch0) rfl ls st μ
theorem e_X11_nameOf_28 (Q : ix_R → Prop) (ls : ix_L) (st : List ix_V) (μ : ix_M) : ix_Ev o_X11_nameOf Q (28, ls, st, μ) = ix_sald 29 (ix_Ev o_X11_nameOf Q) Q ls st μ := ix_Ev.eq (a_X11_nameOf launch0) rfl ls st μ
theorem e_X11_nameOf_29 (Q : ix_R → Prop) (ls : ix_L) (st : List ix_V) (μ : ix_M) : ix_Ev o_X11_nameOf Q (29, ls, st, μ) = ix_iload 3 30 (ix_Ev o_X11_nameOf Q) Q ls st μ := ix_Ev.eq (a_X11_nameOf launch0) rfl ls st μ
theorem e_X11_nameOf_30 (Q : ix_R → Prop) (ls : ix_L) (st : List ix_V) (μ : ix_M) : ix_Ev o_X11_nameOf Q (30, ls, st, μ) = oc_J0_charAt_5068e 33 (ix_Ev o_X11_nameOf Q) Q ls st μ := ix_Ev.eq (a_X11_nameOf launch0) rfl ls st μ
theorem e_X11_nameOf_33 (Q : ix_R → Prop) (ls : ix_L) (st : List ix_V) (μ : ix_M) : ix_Ev o_X11_nameOf Q (33, ls, st, μ) = ix_iload 1 34 (ix_Ev o_X11_nameOf Q) Q ls st μ := ix_Ev.eq (a_X11_nameOf launch0) rfl ls st μ
theorem e_X11_nameOf_34 (Q : ix_R → Prop) (ls : ix_L) (st : List ix_V) (μ : ix_M) : ix_Ev o_X11_nameOf Q (34, ls, st, μ) = ix_cmp (fun x y => x = y) 37 41 (ix_Ev o_X11_nameOf Q) Q ls st μ := ix_Ev.eq (a_X11_nameOf launch0) rfl ls st μ
theorem e_X11_nameOf_37 (Q : ix_R → Prop) (ls : ix_L) (st : List ix_V) (μ : ix_M) : ix_Ev o_X11_nameOf Q (37, ls, st, μ) = ix_iload 3 38 (ix_Ev o_X11_nameOf Q) Q ls st μ := ix_Ev.eq (a_X11_nameOf launch0) rfl ls st μ
theorem e_X11_nameOf_38 (Q : ix_R → Prop) (ls : ix_L) (st : List ix_V) (μ : ix_M) : ix_Ev o_X11_nameOf Q (38, ls, st, μ) = ix_goto 42 (ix_Ev o_X11_nameOf Q) Q ls st μ := ix_Ev.eq (a_X11_nameOf launch0) rfl ls st μ
theorem e_X11_nameOf_41 (Q : ix_R → Prop) (ls : ix_L) (st : List ix_V) (μ : ix_M) : ix_Ev o_X11_nameOf Q (41, ls, st, μ) = ix_iload 2 42 (ix_Ev o_X11_nameOf Q) Q ls st μ := ix_Ev.eq (a_X11_nameOf launch0) rfl ls st μ
theorem e_X11_nameOf_42 (Q : ix_R → Prop) (ls : ix_L) (st : List ix_V) (μ : ix_M) : ix_Ev o_X11_nameOf Q (42, ls, st, μ) = ix_istore 2 43 (ix_Ev o_X11_nameOf Q) Q ls st μ := ix_Ev.eq (a_X11_nameOf launch0) rfl ls st μ
theorem e_X11_nameOf_43 (Q : ix_R → Prop) (ls : ix_L) (st : List ix_V) (μ : ix_M) : ix_Ev o_X11_nameOf Q (43, ls, st, μ) = ix_iinc 3 1 46 (ix_Ev o_X11_nameOf Q) Q ls st μ := ix_Ev.eq (a_X11_nameOf launch0) rfl ls st μ
theorem e_X11_nameOf_46 (Q : ix_R → Prop) (ls : ix_L) (st : List ix_V) (μ : ix_M) : ix_Ev o_X11_nameOf Q (46, ls, st, μ) = ix_goto 4 (ix_Ev o_X11_nameOf Q) Q ls st μ := ix_Ev.eq (a_X11_nameOf launch0) rfl ls st μ
theorem e_X11_nameOf_49 (Q : ix_R → Prop) (ls : ix_L) (st : List ix_V) (μ : ix_M) : ix_Ev o_X11_nameOf Q (49, ls, st, μ) = ix_iload 2 50 (ix_Ev o_X11_nameOf Q) Q ls st μ := ix_Ev.eq (a_X11_nameOf launch0) rfl ls st μ
theorem e_X11_nameOf_50 (Q : ix_R → Prop) (ls : ix_L) (st : List ix_V) (μ : ix_M) : ix_Ev o_X11_nameOf Q (50, ls, st, μ) = ix_iret (ix_Ev o_X11_nameOf Q) Q ls st μ := ix_Ev.eq (a_X11_nameOf launch0) rfl ls st μ
theorem l_X11_nameOf {U : Nat} {c : Int32} {μ : ix_M} {Q : ix_R → Prop} (hU : U ≤ 1) (hu : μ 112 10 = nI U) (hQ : Q (some (vi (nmF U c 3)), μ)) : ∀ k i : Nat, i + k = 3 → ix_Ev o_X11_nameOf Q (4, [some (vr 10 112), some (vi c), some (vi (nmF U c i)), some (vi (nI i))], [], μ) := by
  have cu : (nI U).toNatClampNeg = U := nI_clamp (by omega)
  have iu : vp_in (nI U) 2 := vp_in_nI (by omega) (by decide)
  have ls : sLen (U + 1) = 3 := by
    have h : U = 0 ∨ U = 1 := by omega
    rcases h with rfl | rfl <;> rfl
  intro k
  induction k with
  | zero =>
    intro i hi
    have hi : i = 3 := hi
    subst hi
    have hle : nI 3 ≤ nI 3 := Int32.le_refl _
    rw [e_X11_nameOf_4]
    simp (decide := true) only [e_X11_nameOf_0, e_X11_nameOf_1, e_X11_nameOf_2, e_X11_nameOf_3, e_X11_nameOf_5, e_X11_nameOf_6, e_X11_nameOf_9, e_X11_nameOf_10, e_X11_nameOf_13, e_X11_nameOf_14, e_X11_nameOf_17, e_X11_nameOf_20, e_X11_nameOf_21, e_X11_nameOf_24, e_X11_nameOf_25, e_X11_nameOf_28, e_X11_nameOf_29, e_X11_nameOf_30, e_X11_nameOf_33, e_X11_nameOf_34, e_X11_nameOf_37, e_X11_nameOf_38, e_X11_nameOf_41, e_X11_nameOf_42, e_X11_nameOf_43, e_X11_nameOf_46, e_X11_nameOf_49, e_X11_nameOf_50, vi, vl, vr, oc_J0_charAt_5068e, T_J0_charAt_5068e, oc_J0_length_8abf5, T_J0_length_8abf5, ix_push, ix_iload, ix_lload, ix_aload, ix_istore, ix_astore, ix_iinc, ix_bin, ix_div, ix_un, ix_i2l, ix_l2i, ix_lbin, ix_lsh, ix_lcmp, ix_dup, ix_dup2, ix_pop, ix_if, ix_cmp, ix_goto, ix_switch, ix_sw, ix_iret, ix_zret, ix_vret, ix_aret, ix_geti, ix_getr, ix_puti, ix_putz, ix_puts, ix_gets, ix_iald, ix_iast, ix_alen, ix_aald, ix_gval, ix_gcod, ix_bald, ix_blen, ix_sald, ix_nret, ix_math2, ix_math1, ix_acopy, ml_113, ml_114, ml_115, ml_116, ml_118, ml_119, ml_120, ml_121, ml_122, ml_123, ml_124, ml_125, ml_126, mv_0, mv_1, mv_2, mv_3, mv_4, mv_5, mB_or, Nat.add_assoc, Int32.reduceLT, Int32.reduceLE, Int32.reduceToNatClampNeg, Int32.reduceSub, Int32.reduceAdd, Nat.reduceAdd, Nat.reduceLeDiff, true_or, or_true, or_false, false_or, not_false_eq_true, not_true_eq_false, false_implies, true_implies, implies_true, and_self, mB_0, mB_01, Classical.not_not, Nat.zero_le, List.getElem?_cons_zero, List.getElem?_cons_succ, List.set_cons_zero, List.set_cons_succ, ix_nl, ix_cs, true_and, and_true, Option.toList_some, Option.toList_none, List.cons_append, List.nil_append, hu, cu, iu, ls, hle]
    exact hQ
  | succ k ih =>
    intro i hi
    have hng : ¬ nI 3 ≤ nI i := nI_ge (by omega) (by omega)
    have hlt : nI i < nI 3 := nI_lt (by omega) (by decide)
    have h0 : ¬ nI i < 0 := nI_pos (by omega)
    have ci : (nI i).toNatClampNeg = i := nI_clamp (by omega)
    have hi1 : nI i + 1 = nI (i + 1) := nI_1 i
    rw [e_X11_nameOf_4]
    simp (decide := true) only [e_X11_nameOf_0, e_X11_nameOf_1, e_X11_nameOf_2, e_X11_nameOf_3, e_X11_nameOf_5, e_X11_nameOf_6, e_X11_nameOf_9, e_X11_nameOf_10, e_X11_nameOf_13, e_X11_nameOf_14, e_X11_nameOf_17, e_X11_nameOf_20, e_X11_nameOf_21, e_X11_nameOf_24, e_X11_nameOf_25, e_X11_nameOf_28, e_X11_nameOf_29, e_X11_nameOf_30, e_X11_nameOf_33, e_X11_nameOf_34, e_X11_nameOf_37, e_X11_nameOf_38, e_X11_nameOf_41, e_X11_nameOf_42, e_X11_nameOf_43, e_X11_nameOf_46, e_X11_nameOf_49, e_X11_nameOf_50, vi, vl, vr, oc_J0_charAt_5068e, T_J0_charAt_5068e, oc_J0_length_8abf5, T_J0_length_8abf5, ix_push, ix_iload, ix_lload, ix_aload, ix_istore, ix_astore, ix_iinc, ix_bin, ix_div, ix_un, ix_i2l, ix_l2i, ix_lbin, ix_lsh, ix_lcmp, ix_dup, ix_dup2, ix_pop, ix_if, ix_cmp, ix_goto, ix_switch, ix_sw, ix_iret, ix_zret, ix_vret, ix_aret, ix_geti, ix_getr, ix_puti, ix_putz, ix_puts, ix_gets, ix_iald, ix_iast, ix_alen, ix_aald, ix_gval, ix_gcod, ix_bald, ix_blen, ix_sald, ix_nret, ix_math2, ix_math1, ix_acopy, ml_113, ml_114, ml_115, ml_116, ml_118, ml_119, ml_120, ml_121, ml_122, ml_123, ml_124, ml_125, ml_126, mv_0, mv_1, mv_2, mv_3, mv_4, mv_5, mB_or, Nat.add_assoc, Int32.reduceLT, Int32.reduceLE, Int32.reduceToNatClampNeg, Int32.reduceSub, Int32.reduceAdd, Nat.reduceAdd, Nat.reduceLeDiff, true_or, or_true, or_false, false_or, not_false_eq_true, not_true_eq_false, false_implies, true_implies, implies_true, and_self, mB_0, mB_01, Classical.not_not, Nat.zero_le, List.getElem?_cons_zero, List.getElem?_cons_succ, List.set_cons_zero, List.set_cons_succ, ix_nl, ix_cs, true_and, and_true, Option.toList_some, Option.toList_none, List.cons_append, List.nil_append, hu, cu, iu, ls, hng, hlt, h0, ci, hi1]
    have := ih (i + 1) (by omega)
    simp only [nmF] at this
    refine ⟨fun e => ?_, fun e => ?_⟩
    · rw [if_pos e] at this
      exact this
    · rw [if_neg e] at this
      exact this
theorem r_X11_nameOf (o : Nat) (c : Int32) (μ : ix_M) (Q : ix_R → Prop) (ok_o : o < ix_N ∧ ix_tag o = 10) (hT : T_X11_nameOf (o, c) μ Q) : ix_Ev o_X11_nameOf Q (0, [some (vr 10 o), some (vi c), none, none], [], μ) := by
  obtain rfl := ok_10 o ok_o.1 ok_o.2
  obtain ⟨U, h1, h2, hQ⟩ := hT
  rw [← nmF_3 U h2] at hQ
  simp (decide := true) only [e_X11_nameOf_0, e_X11_nameOf_1, e_X11_nameOf_2, e_X11_nameOf_3, e_X11_nameOf_5, e_X11_nameOf_6, e_X11_nameOf_9, e_X11_nameOf_10, e_X11_nameOf_13, e_X11_nameOf_14, e_X11_nameOf_17, e_X11_nameOf_20, e_X11_nameOf_21, e_X11_nameOf_24, e_X11_nameOf_25, e_X11_nameOf_28, e_X11_nameOf_29, e_X11_nameOf_30, e_X11_nameOf_33, e_X11_nameOf_34, e_X11_nameOf_37, e_X11_nameOf_38, e_X11_nameOf_41, e_X11_nameOf_42, e_X11_nameOf_43, e_X11_nameOf_46, e_X11_nameOf_49, e_X11_nameOf_50, vi, vl, vr, oc_J0_charAt_5068e, T_J0_charAt_5068e, oc_J0_length_8abf5, T_J0_length_8abf5, ix_push, ix_iload, ix_lload, ix_aload, ix_istore, ix_astore, ix_iinc, ix_bin, ix_div, ix_un, ix_i2l, ix_l2i, ix_lbin, ix_lsh, ix_lcmp, ix_dup, ix_dup2, ix_pop, ix_if, ix_cmp, ix_goto, ix_switch, ix_sw, ix_iret, ix_zret, ix_vret, ix_aret, ix_geti, ix_getr, ix_puti, ix_putz, ix_puts, ix_gets, ix_iald, ix_iast, ix_alen, ix_aald, ix_gval, ix_gcod, ix_bald, ix_blen, ix_sald, ix_nret, ix_math2, ix_math1, ix_acopy, ml_113, ml_114, ml_115, ml_116, ml_118, ml_119, ml_120, ml_121, ml_122, ml_123, ml_124, ml_125, ml_126, mv_0, mv_1, mv_2, mv_3, mv_4, mv_5, mB_or, Nat.add_assoc, Int32.reduceLT, Int32.reduceLE, Int32.reduceToNatClampNeg, Int32.reduceSub, Int32.reduceAdd, Nat.reduceAdd, Nat.reduceLeDiff, true_or, or_true, or_false, false_or, not_false_eq_true, not_true_eq_false, false_implies, true_implies, implies_true, and_self, mB_0, mB_01, Classical.not_not, Nat.zero_le, List.getElem?_cons_zero, List.getElem?_cons_succ, List.set_cons_zero, List.set_cons_succ, ix_nl, ix_cs, true_and, and_true, Option.toList_some, Option.toList_none, List.cons_append, List.nil_append]
  exact l_X11_nameOf h2 h1 hQ 3 0 (by omega)
theorem k_X11_nameOf (l : Launch) : ix_Ct l yX11_nameOf cX11_nameOf 4 (some .int) 5 sh_X11_nameOf T_X11_nameOf := ix_ct (a_X11_nameOf l) rfl (by decide) (fun _ => Nat.le_of_ble_eq_true rfl) (fun x μ Q hok hT => r_X11_nameOf x.1 x.2 μ Q (ix_ok_at (hok (vr 10 x.1) (by simp [sh_X11_nameOf])) (by decide) (by decide)) hT)
