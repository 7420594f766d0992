/-! ===== the JDK's methods of constant Strings ===== -/
theorem sLen_le (k : Nat) : sLen k ≤ 3 := by
  unfold sLen
  match k with
  | 0 => decide
  | 1 => decide
  | 2 => decide
  | k + 3 => simp
def T_J0_coder_7d493 : Nat → ix_M → (ix_R → Prop) → Prop := fun _ μ Q => Q (some (vi 0), μ)
def sh_J0_coder_7d493 (x : Nat) : List ix_V := [vr 24 x]
theorem mo_J0_coder_7d493 (x : Nat) (μ : ix_M) (Q Q' : ix_R → Prop) (h : ∀ r, Q r → Q' r) (hT : T_J0_coder_7d493 x μ Q) : T_J0_coder_7d493 x μ Q' := by
  first | exact h _ hT | exact ⟨hT.1, h _ hT.2⟩ | exact fun r hr => h _ (hT r hr) | exact ⟨hT.1, fun r hr => h _ (hT.2 r hr)⟩ | exact ⟨hT.1, hT.2.1, fun r hr => h _ (hT.2.2 r hr)⟩
def oc_J0_coder_7d493 (n : Nat) : ix_Op := fun k _ ls st μ => match st with
  | .inr (.inr (t0, a0)) :: r => t0 = 24 ∧ ix_cs r ≤ 8 ∧ T_J0_coder_7d493 a0 μ (fun q => k (n, ls, q.1.toList ++ r, q.2))
  | _ => False
theorem oc_J0_coder_7d493_s {l : Launch} {cc : ByteArray} {nL : Nat} {own : String} {d : Nat} {rt : Option FieldType} {pc n : Nat} (h : ix_S l cc nL own d rt pc (ix_call 1 sh_J0_coder_7d493 T_J0_coder_7d493 n)) : ix_S l cc nL own d rt pc (oc_J0_coder_7d493 n) := by
  refine h.by (fun k Q ls st μ h => ?_) (fun k k' Q ls st μ hk h => ?_)
  · unfold oc_J0_coder_7d493 at h
    split at h
    · rename_i t0 a0 r
      obtain ⟨rfl, h1, h2⟩ := h
      exact ⟨h1, a0, rfl, _, h2, fun r h => h⟩
    · exact h.elim
  · unfold oc_J0_coder_7d493 at h ⊢
    split at h
    · obtain ⟨rfl, h1, h2⟩ := h
      exact ⟨rfl, h1, mo_J0_coder_7d493 _ _ _ _ (fun q hq => hk _ hq) h2⟩
    · exact h.elim
def o_J0_coder_7d493 : List (Nat × ix_Op) := [
  (0, ix_push (vi 1) 3),
  (3, ix_if (fun x => x = 0) 13 6),
  (6, ix_aload 0 7),
  (7, ix_gcod 10),
  (10, ix_goto 14),
  (13, ix_push (vi 1) 14),
  (14, ix_nret .byte)]
set_option maxRecDepth 20000 in
theorem a_J0_coder_7d493 (l : Launch) : ix_AllS l cJ0_coder_7d493 1 RJ0 1 (some .byte) o_J0_coder_7d493 :=
  .cons (ix_s_gcs tw_499 dJ0_coder_7d493_0) <|
  .cons (ix_s_if_eq dJ0_coder_7d493_3 (by decide)) <|
  .cons (ix_s_aload_n dJ0_coder_7d493_6 rfl) <|
  .cons (ix_s_gcod tw_1403 dJ0_coder_7d493_7) <|
  .cons (ix_s_goto dJ0_coder_7d493_10 (by decide)) <|
  .cons (ix_s_iconst dJ0_coder_7d493_13 (by decide +kernel)) <|
  .cons (ix_s_nret dJ0_coder_7d493_14 rfl) <| .nil
theorem e_J0_coder_7d493_0 (Q : ix_R → Prop) (ls : ix_L) (st : List ix_V) (μ : ix_M) : ix_Ev o_J0_coder_7d493 Q (0, ls, st, μ) = ix_push (vi 1) 3 (ix_Ev o_J0_coder_7d493 Q) Q ls st μ := ix_Ev.eq (a_J0_coder_7d493 launch0) rfl ls st μ
theorem e_J0_coder_7d493_3 (Q : ix_R → Prop) (ls : ix_L) (st : List ix_V) (μ : ix_M) : ix_Ev o_J0_coder_7d493 Q (3, ls, st, μ) = ix_if (fun x => x = 0) 13 6 (ix_Ev o_J0_coder_7d493 Q) Q ls st μ := ix_Ev.eq (a_J0_coder_7d493 launch0) rfl ls st μ
theorem e_J0_coder_7d493_6 (Q : ix_R → Prop) (ls : ix_L) (st : List ix_V) (μ : ix_M) : ix_Ev o_J0_coder_7d493 Q (6, ls, st, μ) = ix_aload 0 7 (ix_Ev o_J0_coder_7d493 Q) Q ls st μ := ix_Ev.eq (a_J0_coder_7d493 launch0) rfl ls st μ
theorem e_J0_coder_7d493_7 (Q : ix_R → Prop) (ls : ix_L) (st : List ix_V) (μ : ix_M) : ix_Ev o_J0_coder_7d493 Q (7, ls, st, μ) = ix_gcod 10 (ix_Ev o_J0_coder_7d493 Q) Q ls st μ := ix_Ev.eq (a_J0_coder_7d493 launch0) rfl ls st μ
theorem e_J0_coder_7d493_10 (Q : ix_R → Prop) (ls : ix_L) (st : List ix_V) (μ : ix_M) : ix_Ev o_J0_coder_7d493 Q (10, ls, st, μ) = ix_goto 14 (ix_Ev o_J0_coder_7d493 Q) Q ls st μ := ix_Ev.eq (a_J0_coder_7d493 launch0) rfl ls st μ
theorem e_J0_coder_7d493_13 (Q : ix_R → Prop) (ls : ix_L) (st : List ix_V) (μ : ix_M) : ix_Ev o_J0_coder_7d493 Q (13, ls, st, μ) = ix_push (vi 1) 14 (ix_Ev o_J0_coder_7d493 Q) Q ls st μ := ix_Ev.eq (a_J0_coder_7d493 launch0) rfl ls st μ
theorem e_J0_coder_7d493_14 (Q : ix_R → Prop) (ls : ix_L) (st : List ix_V) (μ : ix_M) : ix_Ev o_J0_coder_7d493 Q (14, ls, st, μ) = ix_nret .byte (ix_Ev o_J0_coder_7d493 Q) Q ls st μ := ix_Ev.eq (a_J0_coder_7d493 launch0) rfl ls st μ
theorem r_J0_coder_7d493 (k : Nat) (μ : ix_M) (Q : ix_R → Prop) (ok_k : k < 3) (hT : T_J0_coder_7d493 k μ Q) : ix_Ev o_J0_coder_7d493 Q (0, [some (vr 24 k)], [], μ) := by
  simp (decide := true) only [e_J0_coder_7d493_0, e_J0_coder_7d493_3, e_J0_coder_7d493_6, e_J0_coder_7d493_7, e_J0_coder_7d493_10, e_J0_coder_7d493_13, e_J0_coder_7d493_14, vi, vl, vr, ix_push, ix_iload, ix_lload, ix_aload, ix_istore, ix_astore, ix_iinc, ix_bin, ix_div, ix_un, ix_i2l, ix_l2i, ix_lbin, ix_lsh, ix_lcmp, ix_dup, ix_dup2, ix_pop, ix_if, ix_cmp, ix_goto, ix_switch, ix_sw, ix_iret, ix_zret, ix_vret, ix_aret, ix_geti, ix_getr, ix_puti, ix_putz, ix_puts, ix_gets, ix_iald, ix_iast, ix_alen, ix_aald, ix_gval, ix_gcod, ix_bald, ix_blen, ix_sald, ix_nret, ix_math2, ix_math1, ix_acopy, Nat.add_assoc, Int32.reduceLT, Int32.reduceLE, Int32.reduceToNatClampNeg, Int32.reduceSub, Int32.reduceAdd, Nat.reduceAdd, Nat.reduceLeDiff, true_or, or_true, or_false, false_or, not_false_eq_true, not_true_eq_false, false_implies, true_implies, implies_true, and_self, mB_0, mB_01, Classical.not_not, Nat.zero_le, List.getElem?_cons_zero, List.getElem?_cons_succ, List.set_cons_zero, List.set_cons_succ, ix_nl, ix_cs, true_and, and_true, Option.toList_some, Option.toList_none, List.cons_append, List.nil_append]
  exact hT
theorem k_J0_coder_7d493 (l : Launch) : ix_Ct l yJ0_coder_7d493 cJ0_coder_7d493 1 (some .byte) 1 sh_J0_coder_7d493 T_J0_coder_7d493 := ix_ct (a_J0_coder_7d493 l) rfl (by decide) (fun _ => Nat.le_of_ble_eq_true rfl) (fun x μ Q hok hT => r_J0_coder_7d493 x μ Q (hok (vr 24 x) (by simp [sh_J0_coder_7d493])) hT)
def T_J0_isLatin1_aae02 : Nat → ix_M → (ix_R → Prop) → Prop := fun _ μ Q => Q (some (vi 1), μ)
def sh_J0_isLatin1_aae02 (x : Nat) : List ix_V := [vr 24 x]
theorem mo_J0_isLatin1_aae02 (x : Nat) (μ : ix_M) (Q Q' : ix_R → Prop) (h : ∀ r, Q r → Q' r) (hT : T_J0_isLatin1_aae02 x μ Q) : T_J0_isLatin1_aae02 x μ Q' := by
  first | exact h _ hT | exact ⟨hT.1, h _ hT.2⟩ | exact fun r hr => h _ (hT r hr) | exact ⟨hT.1, fun r hr => h _ (hT.2 r hr)⟩ | exact ⟨hT.1, hT.2.1, fun r hr => h _ (hT.2.2 r hr)⟩
def oc_J0_isLatin1_aae02 (n : Nat) : ix_Op := fun k _ ls st μ => match st with
  | .inr (.inr (t0, a0)) :: r => t0 = 24 ∧ ix_cs r ≤ 8 ∧ T_J0_isLatin1_aae02 a0 μ (fun q => k (n, ls, q.1.toList ++ r, q.2))
  | _ => False
theorem oc_J0_isLatin1_aae02_s {l : Launch} {cc : ByteArray} {nL : Nat} {own : String} {d : Nat} {rt : Option FieldType} {pc n : Nat} (h : ix_S l cc nL own d rt pc (ix_call 1 sh_J0_isLatin1_aae02 T_J0_isLatin1_aae02 n)) : ix_S l cc nL own d rt pc (oc_J0_isLatin1_aae02 n) := by
  refine h.by (fun k Q ls st μ h => ?_) (fun k k' Q ls st μ hk h => ?_)
  · unfold oc_J0_isLatin1_aae02 at h
    split at h
    · rename_i t0 a0 r
      obtain ⟨rfl, h1, h2⟩ := h
      exact ⟨h1, a0, rfl, _, h2, fun r h => h⟩
    · exact h.elim
  · unfold oc_J0_isLatin1_aae02 at h ⊢
    split at h
    · obtain ⟨rfl, h1, h2⟩ := h
      exact ⟨rfl, h1, mo_J0_isLatin1_aae02 _ _ _ _ (fun q hq => hk _ hq) h2⟩
    · exact h.elim
def o_J0_isLatin1_aae02 : List (Nat × ix_Op) := [
  (0, ix_push (vi 1) 3),
  (3, ix_if (fun x => x = 0) 17 6),
  (6, ix_aload 0 7),
  (7, ix_gcod 10),
  (10, ix_if (fun x => x = 0) 13 17),
  (13, ix_push (vi 1) 14),
  (14, ix_goto 18),
  (17, ix_push (vi 0) 18),
  (18, ix_zret)]
set_option maxRecDepth 20000 in
theorem a_J0_isLatin1_aae02 (l : Launch) : ix_AllS l cJ0_isLatin1_aae02 1 RJ0 1 (some .boolean) o_J0_isLatin1_aae02 :=
  .cons (ix_s_gcs tw_499 dJ0_isLatin1_aae02_0) <|
  .cons (ix_s_if_eq dJ0_isLatin1_aae02_3 (by decide)) <|
  .cons (ix_s_aload_n dJ0_isLatin1_aae02_6 rfl) <|
  .cons (ix_s_gcod tw_1403 dJ0_isLatin1_aae02_7) <|
  .cons (ix_s_if_ne dJ0_isLatin1_aae02_10 (by decide)) <|
  .cons (ix_s_iconst dJ0_isLatin1_aae02_13 (by decide +kernel)) <|
  .cons (ix_s_goto dJ0_isLatin1_aae02_14 (by decide)) <|
  .cons (ix_s_iconst dJ0_isLatin1_aae02_17 (by decide +kernel)) <|
  .cons (ix_s_zret dJ0_isLatin1_aae02_18 rfl) <| .nil
theorem e_J0_isLatin1_aae02_0 (Q : ix_R → Prop) (ls : ix_L) (st : List ix_V) (μ : ix_M) : ix_Ev o_J0_isLatin1_aae02 Q (0, ls, st, μ) = ix_push (vi 1) 3 (ix_Ev o_J0_isLatin1_aae02 Q) Q ls st μ := ix_Ev.eq (a_J0_isLatin1_aae02 launch0) rfl ls st μ
theorem e_J0_isLatin1_aae02_3 (Q : ix_R → Prop) (ls : ix_L) (st : List ix_V) (μ : ix_M) : ix_Ev o_J0_isLatin1_aae02 Q (3, ls, st, μ) = ix_if (fun x => x = 0) 17 6 (ix_Ev o_J0_isLatin1_aae02 Q) Q ls st μ := ix_Ev.eq (a_J0_isLatin1_aae02 launch0) rfl ls st μ
theorem e_J0_isLatin1_aae02_6 (Q : ix_R → Prop) (ls : ix_L) (st : List ix_V) (μ : ix_M) : ix_Ev o_J0_isLatin1_aae02 Q (6, ls, st, μ) = ix_aload 0 7 (ix_Ev o_J0_isLatin1_aae02 Q) Q ls st μ := ix_Ev.eq (a_J0_isLatin1_aae02 launch0) rfl ls st μ
theorem e_J0_isLatin1_aae02_7 (Q : ix_R → Prop) (ls : ix_L) (st : List ix_V) (μ : ix_M) : ix_Ev o_J0_isLatin1_aae02 Q (7, ls, st, μ) = ix_gcod 10 (ix_Ev o_J0_isLatin1_aae02 Q) Q ls st μ := ix_Ev.eq (a_J0_isLatin1_aae02 launch0) rfl ls st μ
theorem e_J0_isLatin1_aae02_10 (Q : ix_R → Prop) (ls : ix_L) (st : List ix_V) (μ : ix_M) : ix_Ev o_J0_isLatin1_aae02 Q (10, ls, st, μ) = ix_if (fun x => x = 0) 13 17 (ix_Ev o_J0_isLatin1_aae02 Q) Q ls st μ := ix_Ev.eq (a_J0_isLatin1_aae02 launch0) rfl ls st μ
theorem e_J0_isLatin1_aae02_13 (Q : ix_R → Prop) (ls : ix_L) (st : List ix_V) (μ : ix_M) : ix_Ev o_J0_isLatin1_aae02 Q (13, ls, st, μ) = ix_push (vi 1) 14 (ix_Ev o_J0_isLatin1_aae02 Q) Q ls st μ := ix_Ev.eq (a_J0_isLatin1_aae02 launch0) rfl ls st μ
theorem e_J0_isLatin1_aae02_14 (Q : ix_R → Prop) (ls : ix_L) (st : List ix_V) (μ : ix_M) : ix_Ev o_J0_isLatin1_aae02 Q (14, ls, st, μ) = ix_goto 18 (ix_Ev o_J0_isLatin1_aae02 Q) Q ls st μ := ix_Ev.eq (a_J0_isLatin1_aae02 launch0) rfl ls st μ
theorem e_J0_isLatin1_aae02_17 (Q : ix_R → Prop) (ls : ix_L) (st : List ix_V) (μ : ix_M) : ix_Ev o_J0_isLatin1_aae02 Q (17, ls, st, μ) = ix_push (vi 0) 18 (ix_Ev o_J0_isLatin1_aae02 Q) Q ls st μ := ix_Ev.eq (a_J0_isLatin1_aae02 launch0) rfl ls st μ
theorem e_J0_isLatin1_aae02_18 (Q : ix_R → Prop) (ls : ix_L) (st : List ix_V) (μ : ix_M) : ix_Ev o_J0_isLatin1_aae02 Q (18, ls, st, μ) = ix_zret (ix_Ev o_J0_isLatin1_aae02 Q) Q ls st μ := ix_Ev.eq (a_J0_isLatin1_aae02 launch0) rfl ls st μ
theorem r_J0_isLatin1_aae02 (k : Nat) (μ : ix_M) (Q : ix_R → Prop) (ok_k : k < 3) (hT : T_J0_isLatin1_aae02 k μ Q) : ix_Ev o_J0_isLatin1_aae02 Q (0, [some (vr 24 k)], [], μ) := by
  simp (decide := true) only [e_J0_isLatin1_aae02_0, e_J0_isLatin1_aae02_3, e_J0_isLatin1_aae02_6, e_J0_isLatin1_aae02_7, e_J0_isLatin1_aae02_10, e_J0_isLatin1_aae02_13, e_J0_isLatin1_aae02_14, e_J0_isLatin1_aae02_17, e_J0_isLatin1_aae02_18, vi, vl, vr, ix_push, ix_iload, ix_lload, ix_aload, ix_istore, ix_astore, ix_iinc, ix_bin, ix_div, ix_un, ix_i2l, ix_l2i, ix_lbin, ix_lsh, ix_lcmp, ix_dup, ix_dup2, ix_pop, ix_if, ix_cmp, ix_goto, ix_switch, ix_sw, ix_iret, ix_zret, ix_vret, ix_aret, ix_geti, ix_getr, ix_puti, ix_putz, ix_puts, ix_gets, ix_iald, ix_iast, ix_alen, ix_aald, ix_gval, ix_gcod, ix_bald, ix_blen, ix_sald, ix_nret, ix_math2, ix_math1, ix_acopy, Nat.add_assoc, Int32.reduceLT, Int32.reduceLE, Int32.reduceToNatClampNeg, Int32.reduceSub, Int32.reduceAdd, Nat.reduceAdd, Nat.reduceLeDiff, true_or, or_true, or_false, false_or, not_false_eq_true, not_true_eq_false, false_implies, true_implies, implies_true, and_self, mB_0, mB_01, Classical.not_not, Nat.zero_le, List.getElem?_cons_zero, List.getElem?_cons_succ, List.set_cons_zero, List.set_cons_succ, ix_nl, ix_cs, true_and, and_true, Option.toList_some, Option.toList_none, List.cons_append, List.nil_append]
  exact hT
theorem k_J0_isLatin1_aae02 (l : Launch) : ix_Ct l yJ0_isLatin1_aae02 cJ0_isLatin1_aae02 1 (some .boolean) 1 sh_J0_isLatin1_aae02 T_J0_isLatin1_aae02 := ix_ct (a_J0_isLatin1_aae02 l) rfl (by decide) (fun _ => Nat.le_of_ble_eq_true rfl) (fun x μ Q hok hT => r_J0_isLatin1_aae02 x μ Q (hok (vr 24 x) (by simp [sh_J0_isLatin1_aae02])) hT)
def T_J0_length_8abf5 : Nat → ix_M → (ix_R → Prop) → Prop := fun k μ Q => Q (some (vi (nI (sLen k))), μ)
def sh_J0_length_8abf5 (x : Nat) : List ix_V := [vr 24 x]
theorem mo_J0_length_8abf5 (x : Nat) (μ : ix_M) (Q Q' : ix_R → Prop) (h : ∀ r, Q r → Q' r) (hT : T_J0_length_8abf5 x μ Q) : T_J0_length_8abf5 x μ Q' := by
  first | exact h _ hT | exact ⟨hT.1, h _ hT.2⟩ | exact fun r hr => h _ (hT r hr) | exact ⟨hT.1, fun r hr => h _ (hT.2 r hr)⟩ | exact ⟨hT.1, hT.2.1, fun r hr => h _ (hT.2.2 r hr)⟩
def oc_J0_length_8abf5 (n : Nat) : ix_Op := fun k _ ls st μ => match st with
  | .inr (.inr (t0, a0)) :: r => t0 = 24 ∧ ix_cs r ≤ 8 ∧ T_J0_length_8abf5 a0 μ (fun q => k (n, ls, q.1.toList ++ r, q.2))
  | _ => False
theorem oc_J0_length_8abf5_s {l : Launch} {cc : ByteArray} {nL : Nat} {own : String} {d : Nat} {rt : Option FieldType} {pc n : Nat} (h : ix_S l cc nL own d rt pc (ix_call 1 sh_J0_length_8abf5 T_J0_length_8abf5 n)) : ix_S l cc nL own d rt pc (oc_J0_length_8abf5 n) := by
  refine h.by (fun k Q ls st μ h => ?_) (fun k k' Q ls st μ hk h => ?_)
  · unfold oc_J0_length_8abf5 at h
    split at h
    · rename_i t0 a0 r
      obtain ⟨rfl, h1, h2⟩ := h
      exact ⟨h1, a0, rfl, _, h2, fun r h => h⟩
    · exact h.elim
  · unfold oc_J0_length_8abf5 at h ⊢
    split at h
    · obtain ⟨rfl, h1, h2⟩ := h
      exact ⟨rfl, h1, mo_J0_length_8abf5 _ _ _ _ (fun q hq => hk _ hq) h2⟩
    · exact h.elim
def o_J0_length_8abf5 : List (Nat × ix_Op) := [
  (0, ix_aload 0 1),
  (1, ix_gval 4),
  (4, ix_blen 5),
  (5, ix_aload 0 6),
  (6, oc_J0_coder_7d493 9),
  (9, ix_bin (fun x y => x >>> (y &&& 31)) 10),
  (10, ix_iret)]
set_option maxRecDepth 20000 in
theorem a_J0_length_8abf5 (l : Launch) : ix_AllS l cJ0_length_8abf5 1 RJ0 2 (some .int) o_J0_length_8abf5 :=
  .cons (ix_s_aload_n dJ0_length_8abf5_0 rfl) <|
  .cons (ix_s_gval tw_1404 dJ0_length_8abf5_1) <|
  .cons (ix_s_blen dJ0_length_8abf5_4) <|
  .cons (ix_s_aload_n dJ0_length_8abf5_5 rfl) <|
  .cons (oc_J0_coder_7d493_s (ix_s_callS (k_J0_coder_7d493 l) (by decide) (by decide) tw_508 tw_15 tw_505 tw_506 tw_507 ⟨by decide, by decide, by decide +kernel⟩ rfl (fun _ => ⟨_, _, rfl, rfl⟩) dJ0_length_8abf5_6)) <|
  .cons (ix_s_ishr dJ0_length_8abf5_9) <|
  .cons (ix_s_iret dJ0_length_8abf5_10 rfl) <| .nil
theorem e_J0_length_8abf5_0 (Q : ix_R → Prop) (ls : ix_L) (st : List ix_V) (μ : ix_M) : ix_Ev o_J0_length_8abf5 Q (0, ls, st, μ) = ix_aload 0 1 (ix_Ev o_J0_length_8abf5 Q) Q ls st μ := ix_Ev.eq (a_J0_length_8abf5 launch0) rfl ls st μ
theorem e_J0_length_8abf5_1 (Q : ix_R → Prop) (ls : ix_L) (st : List ix_V) (μ : ix_M) : ix_Ev o_J0_length_8abf5 Q (1, ls, st, μ) = ix_gval 4 (ix_Ev o_J0_length_8abf5 Q) Q ls st μ := ix_Ev.eq (a_J0_length_8abf5 launch0) rfl ls st μ
theorem e_J0_length_8abf5_4 (Q : ix_R → Prop) (ls : ix_L) (st : List ix_V) (μ : ix_M) : ix_Ev o_J0_length_8abf5 Q (4, ls, st, μ) = ix_blen 5 (ix_Ev o_J0_length_8abf5 Q) Q ls st μ := ix_Ev.eq (a_J0_length_8abf5 launch0) rfl ls st μ
theorem e_J0_length_8abf5_5 (Q : ix_R → Prop) (ls : ix_L) (st : List ix_V) (μ : ix_M) : ix_Ev o_J0_length_8abf5 Q (5, ls, st, μ) = ix_aload 0 6 (ix_Ev o_J0_length_8abf5 Q) Q ls st μ := ix_Ev.eq (a_J0_length_8abf5 launch0) rfl ls st μ
theorem e_J0_length_8abf5_6 (Q : ix_R → Prop) (ls : ix_L) (st : List ix_V) (μ : ix_M) : ix_Ev o_J0_length_8abf5 Q (6, ls, st, μ) = oc_J0_coder_7d493 9 (ix_Ev o_J0_length_8abf5 Q) Q ls st μ := ix_Ev.eq (a_J0_length_8abf5 launch0) rfl ls st μ
theorem e_J0_length_8abf5_9 (Q : ix_R → Prop) (ls : ix_L) (st : List ix_V) (μ : ix_M) : ix_Ev o_J0_length_8abf5 Q (9, ls, st, μ) = ix_bin (fun x y => x >>> (y &&& 31)) 10 (ix_Ev o_J0_length_8abf5 Q) Q ls st μ := ix_Ev.eq (a_J0_length_8abf5 launch0) rfl ls st μ
theorem e_J0_length_8abf5_10 (Q : ix_R → Prop) (ls : ix_L) (st : List ix_V) (μ : ix_M) : ix_Ev o_J0_length_8abf5 Q (10, ls, st, μ) = ix_iret (ix_Ev o_J0_length_8abf5 Q) Q ls st μ := ix_Ev.eq (a_J0_length_8abf5 launch0) rfl ls st μ
theorem r_J0_length_8abf5 (k : Nat) (μ : ix_M) (Q : ix_R → Prop) (ok_k : k < 3) (hT : T_J0_length_8abf5 k μ Q) : ix_Ev o_J0_length_8abf5 Q (0, [some (vr 24 k)], [], μ) := by
  simp (decide := true) only [e_J0_length_8abf5_0, e_J0_length_8abf5_1, e_J0_length_8abf5_4, e_J0_length_8abf5_5, e_J0_length_8abf5_6, e_J0_length_8abf5_9, e_J0_length_8abf5_10, vi, vl, vr, oc_J0_coder_7d493, T_J0_coder_7d493, ix_push, ix_iload, ix_lload, ix_aload, ix_istore, ix_astore, ix_iinc, ix_bin, ix_div, ix_un, ix_i2l, ix_l2i, ix_lbin, ix_lsh, ix_lcmp, ix_dup, ix_dup2, ix_pop, ix_if, ix_cmp, ix_goto, ix_switch, ix_sw, ix_iret, ix_zret, ix_vret, ix_aret, ix_geti, ix_getr, ix_puti, ix_putz, ix_puts, ix_gets, ix_iald, ix_iast, ix_alen, ix_aald, ix_gval, ix_gcod, ix_bald, ix_blen, ix_sald, ix_nret, ix_math2, ix_math1, ix_acopy, Nat.add_assoc, Int32.reduceLT, Int32.reduceLE, Int32.reduceToNatClampNeg, Int32.reduceSub, Int32.reduceAdd, Nat.reduceAdd, Nat.reduceLeDiff, true_or, or_true, or_false, false_or, not_false_eq_true, not_true_eq_false, false_implies, true_implies, implies_true, and_self, mB_0, mB_01, Classical.not_not, Nat.zero_le, List.getElem?_cons_zero, List.getElem?_cons_succ, List.set_cons_zero, List.set_cons_succ, ix_nl, ix_cs, true_and, and_true, Option.toList_some, Option.toList_none, List.cons_append, List.nil_append]
  have e : Int32.ofNat (sLen k) >>> ((0 : Int32) &&& 31) = nI (sLen k) := sc_shr0 (n := sLen k) (by have := sLen_le k; omega)
  rw [e]
  exact hT
theorem k_J0_length_8abf5 (l : Launch) : ix_Ct l yJ0_length_8abf5 cJ0_length_8abf5 1 (some .int) 2 sh_J0_length_8abf5 T_J0_length_8abf5 := ix_ct (a_J0_length_8abf5 l) rfl (by decide) (fun _ => Nat.le_of_ble_eq_true rfl) (fun x μ Q hok hT => r_J0_length_8abf5 x μ Q (hok (vr 24 x) (by simp [sh_J0_length_8abf5])) hT)
def T_J1_canEncode_9a6ad : Int32 → ix_M → (ix_R → Prop) → Prop := fun c μ Q => Q (some (vi (mB (¬ c < 0 ∧ ¬ 255 < c))), μ)
def sh_J1_canEncode_9a6ad (x : Int32) : List ix_V := [vi x]
theorem mo_J1_canEncode_9a6ad (x : Int32) (μ : ix_M) (Q Q' : ix_R → Prop) (h : ∀ r, Q r → Q' r) (hT : T_J1_canEncode_9a6ad x μ Q) : T_J1_canEncode_9a6ad x μ Q' := by
  first | exact h _ hT | exact ⟨hT.1, h _ hT.2⟩ | exact fun r hr => h _ (hT r hr) | exact ⟨hT.1, fun r hr => h _ (hT.2 r hr)⟩ | exact ⟨hT.1, hT.2.1, fun r hr => h _ (hT.2.2 r hr)⟩
def oc_J1_canEncode_9a6ad (n : Nat) : ix_Op := fun k _ ls st μ => match st with
  | .inl a0 :: r => ix_cs r ≤ 8 ∧ T_J1_canEncode_9a6ad a0 μ (fun q => k (n, ls, q.1.toList ++ r, q.2))
  | _ => False
theorem oc_J1_canEncode_9a6ad_s {l : Launch} {cc : ByteArray} {nL : Nat} {own : String} {d : Nat} {rt : Option FieldType} {pc n : Nat} (h : ix_S l cc nL own d rt pc (ix_call 1 sh_J1_canEncode_9a6ad T_J1_canEncode_9a6ad n)) : ix_S l cc nL own d rt pc (oc_J1_canEncode_9a6ad n) := by
  refine h.by (fun k Q ls st μ h => ?_) (fun k k' Q ls st μ hk h => ?_)
  · unfold oc_J1_canEncode_9a6ad at h
    split at h
    · rename_i a0 r
      obtain ⟨h1, h2⟩ := h
      exact ⟨h1, a0, rfl, _, h2, fun r h => h⟩
    · exact h.elim
  · unfold oc_J1_canEncode_9a6ad at h ⊢
    split at h
    · obtain ⟨h1, h2⟩ := h
      exact ⟨h1, mo_J1_canEncode_9a6ad _ _ _ _ (fun q hq => hk _ hq) h2⟩
    · exact h.elim
def o_J1_canEncode_9a6ad : List (Nat × ix_Op) := [
  (0, ix_iload 0 1),
  (1, ix_if (fun x => x < 0) 15 4),
  (4, ix_iload 0 5),
  (5, ix_push (vi 255) 8),
  (8, ix_cmp (fun x y => y < x) 15 11),
  (11, ix_push (vi 1) 12),
  (12, ix_goto 16),
  (15, ix_push (vi 0) 16),
  (16, ix_zret)]
set_option maxRecDepth 20000 in
theorem a_J1_canEncode_9a6ad (l : Launch) : ix_AllS l cJ1_canEncode_9a6ad 1 RJ1 1 (some .boolean) o_J1_canEncode_9a6ad :=
  .cons (ix_s_iload_n dJ1_canEncode_9a6ad_0 rfl) <|
  .cons (ix_s_if_lt dJ1_canEncode_9a6ad_1 (by decide)) <|
  .cons (ix_s_iload_n dJ1_canEncode_9a6ad_4 rfl) <|
  .cons (ix_s_sipush dJ1_canEncode_9a6ad_5 (by decide +kernel)) <|
  .cons (ix_s_cmp_gt dJ1_canEncode_9a6ad_8 (by decide)) <|
  .cons (ix_s_iconst dJ1_canEncode_9a6ad_11 (by decide +kernel)) <|
  .cons (ix_s_goto dJ1_canEncode_9a6ad_12 (by decide)) <|
  .cons (ix_s_iconst dJ1_canEncode_9a6ad_15 (by decide +kernel)) <|
  .cons (ix_s_zret dJ1_canEncode_9a6ad_16 rfl) <| .nil
theorem e_J1_canEncode_9a6ad_0 (Q : ix_R → Prop) (ls : ix_L) (st : List ix_V) (μ : ix_M) : ix_Ev o_J1_canEncode_9a6ad Q (0, ls, st, μ) = ix_iload 0 1 (ix_Ev o_J1_canEncode_9a6ad Q) Q ls st μ := ix_Ev.eq (a_J1_canEncode_9a6ad launch0) rfl ls st μ
theorem e_J1_canEncode_9a6ad_1 (Q : ix_R → Prop) (ls : ix_L) (st : List ix_V) (μ : ix_M) : ix_Ev o_J1_canEncode_9a6ad Q (1, ls, st, μ) = ix_if (fun x => x < 0) 15 4 (ix_Ev o_J1_canEncode_9a6ad Q) Q ls st μ := ix_Ev.eq (a_J1_canEncode_9a6ad launch0) rfl ls st μ
theorem e_J1_canEncode_9a6ad_4 (Q : ix_R → Prop) (ls : ix_L) (st : List ix_V) (μ : ix_M) : ix_Ev o_J1_canEncode_9a6ad Q (4, ls, st, μ) = ix_iload 0 5 (ix_Ev o_J1_canEncode_9a6ad Q) Q ls st μ := ix_Ev.eq (a_J1_canEncode_9a6ad launch0) rfl ls st μ
theorem e_J1_canEncode_9a6ad_5 (Q : ix_R → Prop) (ls : ix_L) (st : List ix_V) (μ : ix_M) : ix_Ev o_J1_canEncode_9a6ad Q (5, ls, st, μ) = ix_push (vi 255) 8 (ix_Ev o_J1_canEncode_9a6ad Q) Q ls st μ := ix_Ev.eq (a_J1_canEncode_9a6ad launch0) rfl ls st μ
theorem e_J1_canEncode_9a6ad_8 (Q : ix_R → Prop) (ls : ix_L) (st : List ix_V) (μ : ix_M) : ix_Ev o_J1_canEncode_9a6ad Q (8, ls, st, μ) = ix_cmp (fun x y => y < x) 15 11 (ix_Ev o_J1_canEncode_9a6ad Q) Q ls st μ := ix_Ev.eq (a_J1_canEncode_9a6ad launch0) rfl ls st μ
theorem e_J1_canEncode_9a6ad_11 (Q : ix_R → Prop) (ls : ix_L) (st : List ix_V) (μ : ix_M) : ix_Ev o_J1_canEncode_9a6ad Q (11, ls, st, μ) = ix_push (vi 1) 12 (ix_Ev o_J1_canEncode_9a6ad Q) Q ls st μ := ix_Ev.eq (a_J1_canEncode_9a6ad launch0) rfl ls st μ
theorem e_J1_canEncode_9a6ad_12 (Q : ix_R → Prop) (ls : ix_L) (st : List ix_V) (μ : ix_M) : ix_Ev o_J1_canEncode_9a6ad Q (12, ls, st, μ) = ix_goto 16 (ix_Ev o_J1_canEncode_9a6ad Q) Q ls st μ := ix_Ev.eq (a_J1_canEncode_9a6ad launch0) rfl ls st μ
theorem e_J1_canEncode_9a6ad_15 (Q : ix_R → Prop) (ls : ix_L) (st : List ix_V) (μ : ix_M) : ix_Ev o_J1_canEncode_9a6ad Q (15, ls, st, μ) = ix_push (vi 0) 16 (ix_Ev o_J1_canEncode_9a6ad Q) Q ls st μ := ix_Ev.eq (a_J1_canEncode_9a6ad launch0) rfl ls st μ
theorem e_J1_canEncode_9a6ad_16 (Q : ix_R → Prop) (ls : ix_L) (st : List ix_V) (μ : ix_M) : ix_Ev o_J1_canEncode_9a6ad Q (16, ls, st, μ) = ix_zret (ix_Ev o_J1_canEncode_9a6ad Q) Q ls st μ := ix_Ev.eq (a_J1_canEncode_9a6ad launch0) rfl ls st μ
theorem r_J1_canEncode_9a6ad (c : Int32) (μ : ix_M) (Q : ix_R → Prop) (hT : T_J1_canEncode_9a6ad c μ Q) : ix_Ev o_J1_canEncode_9a6ad Q (0, [some (vi c)], [], μ) := by
  simp (decide := true) only [e_J1_canEncode_9a6ad_0, e_J1_canEncode_9a6ad_1, e_J1_canEncode_9a6ad_4, e_J1_canEncode_9a6ad_5, e_J1_canEncode_9a6ad_8, e_J1_canEncode_9a6ad_11, e_J1_canEncode_9a6ad_12, e_J1_canEncode_9a6ad_15, e_J1_canEncode_9a6ad_16, vi, vl, vr, ix_push, ix_iload, ix_lload, ix_aload, ix_istore, ix_astore, ix_iinc, ix_bin, ix_div, ix_un, ix_i2l, ix_l2i, ix_lbin, ix_lsh, ix_lcmp, ix_dup, ix_dup2, ix_pop, ix_if, ix_cmp, ix_goto, ix_switch, ix_sw, ix_iret, ix_zret, ix_vret, ix_aret, ix_geti, ix_getr, ix_puti, ix_putz, ix_puts, ix_gets, ix_iald, ix_iast, ix_alen, ix_aald, ix_gval, ix_gcod, ix_bald, ix_blen, ix_sald, ix_nret, ix_math2, ix_math1, ix_acopy, Nat.add_assoc, Int32.reduceLT, Int32.reduceLE, Int32.reduceToNatClampNeg, Int32.reduceSub, Int32.reduceAdd, Nat.reduceAdd, Nat.reduceLeDiff, true_or, or_true, or_false, false_or, not_false_eq_true, not_true_eq_false, false_implies, true_implies, implies_true, and_self, mB_0, mB_01, Classical.not_not, Nat.zero_le, List.getElem?_cons_zero, List.getElem?_cons_succ, List.set_cons_zero, List.set_cons_succ, ix_nl, ix_cs, true_and, and_true, Option.toList_some, Option.toList_none, List.cons_append, List.nil_append]
  simp only [T_J1_canEncode_9a6ad, mB, vi, vl, vr] at hT
  repeat' (first | refine And.intro ?_ ?_ | intro _)
  all_goals (first | exact hT | (simp only [*, if_true, if_false, not_true_eq_false, not_false_eq_true, and_true, true_and, and_false, false_and, or_true, true_or, or_false, false_or, and_self, or_self] at hT; exact hT) | (simp only [← Int32.not_lt, Classical.not_not] at *; simp only [*, if_true, if_false, not_true_eq_false, not_false_eq_true, and_true, true_and, and_false, false_and, or_true, true_or, or_false, false_or, and_self, or_self] at hT; exact hT) | (simp_all; done))
theorem k_J1_canEncode_9a6ad (l : Launch) : ix_Ct l yJ1_canEncode_9a6ad cJ1_canEncode_9a6ad 1 (some .boolean) 1 sh_J1_canEncode_9a6ad T_J1_canEncode_9a6ad := ix_ct (a_J1_canEncode_9a6ad l) rfl (by decide) (fun _ => Nat.le_of_ble_eq_true rfl) (fun x μ Q hok hT => r_J1_canEncode_9a6ad x μ Q  hT)
/-- the first place of a byte from i on, k places -/
def sFind (a : Nat) (c : Int32) (k i : Nat) : Int32 := match k with
  | 0 => -1
  | k + 1 => if sByte a i = c then nI i else sFind a c k (i + 1)
def T_J1_indexOfChar_4cfef : Nat × Int32 × Int32 × Int32 → ix_M → (ix_R → Prop) → Prop := fun (a, c, i, n) μ Q => ∃ I N : Nat, i = nI I ∧ n = nI N ∧ I ≤ N ∧ N ≤ sLen a ∧ Q (some (vi (sFind a c.toInt8.toInt32 (N - I) I)), μ)
def sh_J1_indexOfChar_4cfef (x : Nat × Int32 × Int32 × Int32) : List ix_V := [vr 26 x.1, vi x.2.1, vi x.2.2.1, vi x.2.2.2]
theorem mo_J1_indexOfChar_4cfef (x : Nat × Int32 × Int32 × Int32) (μ : ix_M) (Q Q' : ix_R → Prop) (h : ∀ r, Q r → Q' r) (hT : T_J1_indexOfChar_4cfef x μ Q) : T_J1_indexOfChar_4cfef x μ Q' := by
  obtain ⟨a0, a1, a2, a3⟩ := x
  (obtain ⟨I, N, h1, h2, h3, h4, h5⟩ := hT; exact ⟨I, N, h1, h2, h3, h4, h _ h5⟩)
def oc_J1_indexOfChar_4cfef (n : Nat) : ix_Op := fun k _ ls st μ => match st with
  | .inl a3 :: .inl a2 :: .inl a1 :: .inr (.inr (t0, a0)) :: r => t0 = 26 ∧ ix_cs r ≤ 8 ∧ T_J1_indexOfChar_4cfef (a0, a1, a2, a3) μ (fun q => k (n, ls, q.1.toList ++ r, q.2))
  | _ => False
theorem oc_J1_indexOfChar_4cfef_s {l : Launch} {cc : ByteArray} {nL : Nat} {own : String} {d : Nat} {rt : Option FieldType} {pc n : Nat} (h : ix_S l cc nL own d rt pc (ix_call 4 sh_J1_indexOfChar_4cfef T_J1_indexOfChar_4cfef n)) : ix_S l cc nL own d rt pc (oc_J1_indexOfChar_4cfef n) := by
  refine h.by (fun k Q ls st μ h => ?_) (fun k k' Q ls st μ hk h => ?_)
  · unfold oc_J1_indexOfChar_4cfef at h
    split at h
    · rename_i a3 a2 a1 t0 a0 r
      obtain ⟨rfl, h1, h2⟩ := h
      exact ⟨h1, (a0, a1, a2, a3), rfl, _, h2, fun r h => h⟩
    · exact h.elim
  · unfold oc_J1_indexOfChar_4cfef at h ⊢
    split at h
    · obtain ⟨rfl, h1, h2⟩ := h
      exact ⟨rfl, h1, mo_J1_indexOfChar_4cfef _ _ _ _ (fun q hq => hk _ hq) h2⟩
    · exact h.elim
def o_J1_indexOfChar_4cfef : List (Nat × ix_Op) := [
  (0, ix_iload 1 1),
  (1, ix_un (fun x => x.toInt8.toInt32) 2),
  (2, ix_istore 4 4),
  (4, ix_iload 2 5),
  (5, ix_istore 5 7),
  (7, ix_iload 5 9),
  (9, ix_iload 3 10),
  (10, ix_cmp (fun x y => y ≤ x) 31 13),
  (13, ix_aload 0 14),
  (14, ix_iload 5 16),
  (16, ix_bald 17),
  (17, ix_iload 4 19),
  (19, ix_cmp (fun x y => x = y) 22 25),
  (22, ix_iload 5 24),
  (24, ix_iret),
  (25, ix_iinc 5 1 28),
  (28, ix_goto 7),
  (31, ix_push (vi (-1)) 32),
  (32, ix_iret)]
set_option maxRecDepth 20000 in
theorem a_J1_indexOfChar_4cfef (l : Launch) : ix_AllS l cJ1_indexOfChar_4cfef 6 RJ1 1 (some .int) o_J1_indexOfChar_4cfef :=
  .cons (ix_s_iload_n dJ1_indexOfChar_4cfef_0 rfl) <|
  .cons (ix_s_i2b dJ1_indexOfChar_4cfef_1) <|
  .cons (ix_s_istore dJ1_indexOfChar_4cfef_2 (by decide)) <|
  .cons (ix_s_iload_n dJ1_indexOfChar_4cfef_4 rfl) <|
  .cons (ix_s_istore dJ1_indexOfChar_4cfef_5 (by decide)) <|
  .cons (ix_s_iload dJ1_indexOfChar_4cfef_7) <|
  .cons (ix_s_iload_n dJ1_indexOfChar_4cfef_9 rfl) <|
  .cons (ix_s_cmp_ge dJ1_indexOfChar_4cfef_10 (by decide)) <|
  .cons (ix_s_aload_n dJ1_indexOfChar_4cfef_13 rfl) <|
  .cons (ix_s_iload dJ1_indexOfChar_4cfef_14) <|
  .cons (ix_s_bald dJ1_indexOfChar_4cfef_16) <|
  .cons (ix_s_iload dJ1_indexOfChar_4cfef_17) <|
  .cons (ix_s_cmp_ne dJ1_indexOfChar_4cfef_19 (by decide)) <|
  .cons (ix_s_iload dJ1_indexOfChar_4cfef_22) <|
  .cons (ix_s_iret dJ1_indexOfChar_4cfef_24 rfl) <|
  .cons (ix_s_iinc dJ1_indexOfChar_4cfef_25 (by decide +kernel) (by decide)) <|
  .cons (ix_s_goto dJ1_indexOfChar_4cfef_28 (by decide)) <|
  .cons (ix_s_iconst dJ1_indexOfChar_4cfef_31 (by decide +kernel)) <|
  .cons (ix_s_iret dJ1_indexOfChar_4cfef_32 rfl) <| .nil
theorem e_J1_indexOfChar_4cfef_0 (Q : ix_R → Prop) (ls : ix_L) (st : List ix_V) (μ : ix_M) : ix_Ev o_J1_indexOfChar_4cfef Q (0, ls, st, μ) = ix_iload 1 1 (ix_Ev o_J1_indexOfChar_4cfef Q) Q ls st μ := ix_Ev.eq (a_J1_indexOfChar_4cfef launch0) rfl ls st μ
theorem e_J1_indexOfChar_4cfef_1 (Q : ix_R → Prop) (ls : ix_L) (st : List ix_V) (μ : ix_M) : ix_Ev o_J1_indexOfChar_4cfef Q (1, ls, st, μ) = ix_un (fun x => x.toInt8.toInt32) 2 (ix_Ev o_J1_indexOfChar_4cfef Q) Q ls st μ := ix_Ev.eq (a_J1_indexOfChar_4cfef launch0) rfl ls st μ
theorem e_J1_indexOfChar_4cfef_2 (Q : ix_R → Prop) (ls : ix_L) (st : List ix_V) (μ : ix_M) : ix_Ev o_J1_indexOfChar_4cfef Q (2, ls, st, μ) = ix_istore 4 4 (ix_Ev o_J1_indexOfChar_4cfef Q) Q ls st μ := ix_Ev.eq (a_J1_indexOfChar_4cfef launch0) rfl ls st μ
theorem e_J1_indexOfChar_4cfef_4 (Q : ix_R → Prop) (ls : ix_L) (st : List ix_V) (μ : ix_M) : ix_Ev o_J1_indexOfChar_4cfef Q (4, ls, st, μ) = ix_iload 2 5 (ix_Ev o_J1_indexOfChar_4cfef Q) Q ls st μ := ix_Ev.eq (a_J1_indexOfChar_4cfef launch0) rfl ls st μ
theorem e_J1_indexOfChar_4cfef_5 (Q : ix_R → Prop) (ls : ix_L) (st : List ix_V) (μ : ix_M) : ix_Ev o_J1_indexOfChar_4cfef Q (5, ls, st, μ) = ix_istore 5 7 (ix_Ev o_J1_indexOfChar_4cfef Q) Q ls st μ := ix_Ev.eq (a_J1_indexOfChar_4cfef launch0) rfl ls st μ
theorem e_J1_indexOfChar_4cfef_7 (Q : ix_R → Prop) (ls : ix_L) (st : List ix_V) (μ : ix_M) : ix_Ev o_J1_indexOfChar_4cfef Q (7, ls, st, μ) = ix_iload 5 9 (ix_Ev o_J1_indexOfChar_4cfef Q) Q ls st μ := ix_Ev.eq (a_J1_indexOfChar_4cfef launch0) rfl ls st μ
theorem e_J1_indexOfChar_4cfef_9 (Q : ix_R → Prop) (ls : ix_L) (st : List ix_V) (μ : ix_M) : ix_Ev o_J1_indexOfChar_4cfef Q (9, ls, st, μ) = ix_iload 3 10 (ix_Ev o_J1_indexOfChar_4cfef Q) Q ls st μ := ix_Ev.eq (a_J1_indexOfChar_4cfef launch0) rfl ls st μ
theorem e_J1_indexOfChar_4cfef_10 (Q : ix_R → Prop) (ls : ix_L) (st : List ix_V) (μ : ix_M) : ix_Ev o_J1_indexOfChar_4cfef Q (10, ls, st, μ) = ix_cmp (fun x y => y ≤ x) 31 13 (ix_Ev o_J1_indexOfChar_4cfef Q) Q ls st μ := ix_Ev.eq (a_J1_indexOfChar_4cfef launch0) rfl ls st μ
theorem e_J1_indexOfChar_4cfef_13 (Q : ix_R → Prop) (ls : ix_L) (st : List ix_V) (μ : ix_M) : ix_Ev o_J1_indexOfChar_4cfef Q (13, ls, st, μ) = ix_aload 0 14 (ix_Ev o_J1_indexOfChar_4cfef Q) Q ls st μ := ix_Ev.eq (a_J1_indexOfChar_4cfef launch0) rfl ls st μ
theorem e_J1_indexOfChar_4cfef_14 (Q : ix_R → Prop) (ls : ix_L) (st : List ix_V) (μ : ix_M) : ix_Ev o_J1_indexOfChar_4cfef Q (14, ls, st, μ) = ix_iload 5 16 (ix_Ev o_J1_indexOfChar_4cfef Q) Q ls st μ := ix_Ev.eq (a_J1_indexOfChar_4cfef launch0) rfl ls st μ
theorem e_J1_indexOfChar_4cfef_16 (Q : ix_R → Prop) (ls : ix_L) (st : List ix_V) (μ : ix_M) : ix_Ev o_J1_indexOfChar_4cfef Q (16, ls, st, μ) = ix_bald 17 (ix_Ev o_J1_indexOfChar_4cfef Q) Q ls st μ := ix_Ev.eq (a_J1_indexOfChar_4cfef launch0) rfl ls st μ
theorem e_J1_indexOfChar_4cfef_17 (Q : ix_R → Prop) (ls : ix_L) (st : List ix_V) (μ : ix_M) : ix_Ev o_J1_indexOfChar_4cfef Q (17, ls, st, μ) = ix_iload 4 19 (ix_Ev o_J1_indexOfChar_4cfef Q) Q ls st μ := ix_Ev.eq (a_J1_indexOfChar_4cfef launch0) rfl ls st μ
theorem e_J1_indexOfChar_4cfef_19 (Q : ix_R → Prop) (ls : ix_L) (st : List ix_V) (μ : ix_M) : ix_Ev o_J1_indexOfChar_4cfef Q (19, ls, st, μ) = ix_cmp (fun x y => x = y) 22 25 (ix_Ev o_J1_indexOfChar_4cfef Q) Q ls st μ := ix_Ev.eq (a_J1_indexOfChar_4cfef launch0) rfl ls st μ
theorem e_J1_indexOfChar_4cfef_22 (Q : ix_R → Prop) (ls : ix_L) (st : List ix_V) (μ : ix_M) : ix_Ev o_J1_indexOfChar_4cfef Q (22, ls, st, μ) = ix_iload 5 24 (ix_Ev o_J1_indexOfChar_4cfef Q) Q ls st μ := ix_Ev.eq (a_J1_indexOfChar_4cfef launch0) rfl ls st μ
theorem e_J1_indexOfChar_4cfef_24 (Q : ix_R → Prop) (ls : ix_L) (st : List ix_V) (μ : ix_M) : ix_Ev o_J1_indexOfChar_4cfef Q (24, ls, st, μ) = ix_iret (ix_Ev o_J1_indexOfChar_4cfef Q) Q ls st μ := ix_Ev.eq (a_J1_indexOfChar_4cfef launch0) rfl ls st μ
theorem e_J1_indexOfChar_4cfef_25 (Q : ix_R → Prop) (ls : ix_L) (st : List ix_V) (μ : ix_M) : ix_Ev o_J1_indexOfChar_4cfef Q (25, ls, st, μ) = ix_iinc 5 1 28 (ix_Ev o_J1_indexOfChar_4cfef Q) Q ls st μ := ix_Ev.eq (a_J1_indexOfChar_4cfef launch0) rfl ls st μ
theorem e_J1_indexOfChar_4cfef_28 (Q : ix_R → Prop) (ls : ix_L) (st : List ix_V) (μ : ix_M) : ix_Ev o_J1_indexOfChar_4cfef Q (28, ls, st, μ) = ix_goto 7 (ix_Ev o_J1_indexOfChar_4cfef Q) Q ls st μ := ix_Ev.eq (a_J1_indexOfChar_4cfef launch0) rfl ls st μ
theorem e_J1_indexOfChar_4cfef_31 (Q : ix_R → Prop) (ls : ix_L) (st : List ix_V) (μ : ix_M) : ix_Ev o_J1_indexOfChar_4cfef Q (31, ls, st, μ) = ix_push (vi (-1)) 32 (ix_Ev o_J1_indexOfChar_4cfef Q) Q ls st μ := ix_Ev.eq (a_J1_indexOfChar_4cfef launch0) rfl ls st μ
theorem e_J1_indexOfChar_4cfef_32 (Q : ix_R → Prop) (ls : ix_L) (st : List ix_V) (μ : ix_M) : ix_Ev o_J1_indexOfChar_4cfef Q (32, ls, st, μ) = ix_iret (ix_Ev o_J1_indexOfChar_4cfef Q) Q ls st μ := ix_Ev.eq (a_J1_indexOfChar_4cfef launch0) rfl ls st μ
theorem l_J1_indexOfChar {a N : Nat} {c i0 : Int32} {μ : ix_M} {Q : ix_R → Prop} (hN : N ≤ sLen a) : ∀ (k i : Nat), i + k = N → Q (some (vi (sFind a c.toInt8.toInt32 k i)), μ) → ix_Ev o_J1_indexOfChar_4cfef Q (7, [some (vr 26 a), some (vi c), some (vi i0), some (vi (nI N)), some (vi c.toInt8.toInt32), some (vi (nI i))], [], μ) := by
  have h3 := sLen_le a
  intro k
  induction k with
  | zero =>
    intro i hi hQ
    have hi : i = N := hi
    subst hi
    have hle : nI i ≤ nI i := Int32.le_refl _
    rw [e_J1_indexOfChar_4cfef_7]
    simp (decide := true) only [e_J1_indexOfChar_4cfef_0, e_J1_indexOfChar_4cfef_1, e_J1_indexOfChar_4cfef_2, e_J1_indexOfChar_4cfef_4, e_J1_indexOfChar_4cfef_5, e_J1_indexOfChar_4cfef_9, e_J1_indexOfChar_4cfef_10, e_J1_indexOfChar_4cfef_13, e_J1_indexOfChar_4cfef_14, e_J1_indexOfChar_4cfef_16, e_J1_indexOfChar_4cfef_17, e_J1_indexOfChar_4cfef_19, e_J1_indexOfChar_4cfef_22, e_J1_indexOfChar_4cfef_24, e_J1_indexOfChar_4cfef_25, e_J1_indexOfChar_4cfef_28, e_J1_indexOfChar_4cfef_31, e_J1_indexOfChar_4cfef_32, vi, vl, vr, ix_push, ix_iload, ix_lload, ix_aload, ix_istore, ix_astore, ix_iinc, ix_bin, ix_div, ix_un, ix_i2l, ix_l2i, ix_lbin, ix_lsh, ix_lcmp, ix_dup, ix_dup2, ix_pop, ix_if, ix_cmp, ix_goto, ix_switch, ix_sw, ix_iret, ix_zret, ix_vret, ix_aret, ix_geti, ix_getr, ix_puti, ix_putz, ix_puts, ix_gets, ix_iald, ix_iast, ix_alen, ix_aald, ix_gval, ix_gcod, ix_bald, ix_blen, ix_sald, ix_nret, ix_math2, ix_math1, ix_acopy, Nat.add_assoc, Int32.reduceLT, Int32.reduceLE, Int32.reduceToNatClampNeg, Int32.reduceSub, Int32.reduceAdd, Nat.reduceAdd, Nat.reduceLeDiff, true_or, or_true, or_false, false_or, not_false_eq_true, not_true_eq_false, false_implies, true_implies, implies_true, and_self, mB_0, mB_01, Classical.not_not, Nat.zero_le, List.getElem?_cons_zero, List.getElem?_cons_succ, List.set_cons_zero, List.set_cons_succ, ix_nl, ix_cs, true_and, and_true, Option.toList_some, Option.toList_none, List.cons_append, List.nil_append, hle]
    exact hQ
  | succ k ih =>
    intro i hi hQ
    have hng : ¬ nI N ≤ nI i := nI_ge (by omega) (by omega)
    have hin : vp_in (nI i) (sLen a) := vp_in_nI (by omega) (by omega)
    have hc : (nI i).toNatClampNeg = i := nI_clamp (by omega)
    have hi1 : nI i + 1 = nI (i + 1) := nI_1 i
    rw [e_J1_indexOfChar_4cfef_7]
    simp (decide := true) only [e_J1_indexOfChar_4cfef_0, e_J1_indexOfChar_4cfef_1, e_J1_indexOfChar_4cfef_2, e_J1_indexOfChar_4cfef_4, e_J1_indexOfChar_4cfef_5, e_J1_indexOfChar_4cfef_9, e_J1_indexOfChar_4cfef_10, e_J1_indexOfChar_4cfef_13, e_J1_indexOfChar_4cfef_14, e_J1_indexOfChar_4cfef_16, e_J1_indexOfChar_4cfef_17, e_J1_indexOfChar_4cfef_19, e_J1_indexOfChar_4cfef_22, e_J1_indexOfChar_4cfef_24, e_J1_indexOfChar_4cfef_25, e_J1_indexOfChar_4cfef_28, e_J1_indexOfChar_4cfef_31, e_J1_indexOfChar_4cfef_32, vi, vl, vr, ix_push, ix_iload, ix_lload, ix_aload, ix_istore, ix_astore, ix_iinc, ix_bin, ix_div, ix_un, ix_i2l, ix_l2i, ix_lbin, ix_lsh, ix_lcmp, ix_dup, ix_dup2, ix_pop, ix_if, ix_cmp, ix_goto, ix_switch, ix_sw, ix_iret, ix_zret, ix_vret, ix_aret, ix_geti, ix_getr, ix_puti, ix_putz, ix_puts, ix_gets, ix_iald, ix_iast, ix_alen, ix_aald, ix_gval, ix_gcod, ix_bald, ix_blen, ix_sald, ix_nret, ix_math2, ix_math1, ix_acopy, Nat.add_assoc, Int32.reduceLT, Int32.reduceLE, Int32.reduceToNatClampNeg, Int32.reduceSub, Int32.reduceAdd, Nat.reduceAdd, Nat.reduceLeDiff, true_or, or_true, or_false, false_or, not_false_eq_true, not_true_eq_false, false_implies, true_implies, implies_true, and_self, mB_0, mB_01, Classical.not_not, Nat.zero_le, List.getElem?_cons_zero, List.getElem?_cons_succ, List.set_cons_zero, List.set_cons_succ, ix_nl, ix_cs, true_and, and_true, Option.toList_some, Option.toList_none, List.cons_append, List.nil_append, hng, hin, hc, hi1]
    refine ⟨fun e => ?_, fun e => ih (i + 1) (by omega) ?_⟩
    · simp only [sFind, if_pos e] at hQ
      exact hQ
    · simp only [sFind, if_neg e] at hQ
      exact hQ
theorem r_J1_indexOfChar_4cfef (a : Nat) (c : Int32) (i : Int32) (n : Int32) (μ : ix_M) (Q : ix_R → Prop) (ok_a : a < 3) (hT : T_J1_indexOfChar_4cfef (a, c, i, n) μ Q) : ix_Ev o_J1_indexOfChar_4cfef Q (0, [some (vr 26 a), some (vi c), some (vi i), some (vi n), none, none], [], μ) := by
  obtain ⟨I, N, rfl, rfl, hI, hN, hQ⟩ := hT
  simp (decide := true) only [e_J1_indexOfChar_4cfef_0, e_J1_indexOfChar_4cfef_1, e_J1_indexOfChar_4cfef_2, e_J1_indexOfChar_4cfef_4, e_J1_indexOfChar_4cfef_5, e_J1_indexOfChar_4cfef_9, e_J1_indexOfChar_4cfef_10, e_J1_indexOfChar_4cfef_13, e_J1_indexOfChar_4cfef_14, e_J1_indexOfChar_4cfef_16, e_J1_indexOfChar_4cfef_17, e_J1_indexOfChar_4cfef_19, e_J1_indexOfChar_4cfef_22, e_J1_indexOfChar_4cfef_24, e_J1_indexOfChar_4cfef_25, e_J1_indexOfChar_4cfef_28, e_J1_indexOfChar_4cfef_31, e_J1_indexOfChar_4cfef_32, vi, vl, vr, ix_push, ix_iload, ix_lload, ix_aload, ix_istore, ix_astore, ix_iinc, ix_bin, ix_div, ix_un, ix_i2l, ix_l2i, ix_lbin, ix_lsh, ix_lcmp, ix_dup, ix_dup2, ix_pop, ix_if, ix_cmp, ix_goto, ix_switch, ix_sw, ix_iret, ix_zret, ix_vret, ix_aret, ix_geti, ix_getr, ix_puti, ix_putz, ix_puts, ix_gets, ix_iald, ix_iast, ix_alen, ix_aald, ix_gval, ix_gcod, ix_bald, ix_blen, ix_sald, ix_nret, ix_math2, ix_math1, ix_acopy, Nat.add_assoc, Int32.reduceLT, Int32.reduceLE, Int32.reduceToNatClampNeg, Int32.reduceSub, Int32.reduceAdd, Nat.reduceAdd, Nat.reduceLeDiff, true_or, or_true, or_false, false_or, not_false_eq_true, not_true_eq_false, false_implies, true_implies, implies_true, and_self, mB_0, mB_01, Classical.not_not, Nat.zero_le, List.getElem?_cons_zero, List.getElem?_cons_succ, List.set_cons_zero, List.set_cons_succ, ix_nl, ix_cs, true_and, and_true, Option.toList_some, Option.toList_none, List.cons_append, List.nil_append]
  exact l_J1_indexOfChar hN (N - I) I (by omega) hQ
theorem k_J1_indexOfChar_4cfef (l : Launch) : ix_Ct l yJ1_indexOfChar_4cfef cJ1_indexOfChar_4cfef 6 (some .int) 1 sh_J1_indexOfChar_4cfef T_J1_indexOfChar_4cfef := ix_ct (a_J1_indexOfChar_4cfef l) rfl (by decide) (fun _ => Nat.le_of_ble_eq_true rfl) (fun x μ Q hok hT => r_J1_indexOfChar_4cfef x.1 x.2.1 x.2.2.1 x.2.2.2 μ Q (hok (vr 26 x.1) (by simp [sh_J1_indexOfChar_4cfef])) hT)
def T_J1_indexOf_4cfef : Nat × Int32 × Int32 × Int32 → ix_M → (ix_R → Prop) → Prop := fun (a, c, i, n) μ Q => (i = 0 ∧ n = nI (sLen a)) ∧ Q (some (vi (if ¬ c < 0 ∧ ¬ 255 < c then sFind a c.toInt8.toInt32 (sLen a) 0 else -1)), μ)
def sh_J1_indexOf_4cfef (x : Nat × Int32 × Int32 × Int32) : List ix_V := [vr 26 x.1, vi x.2.1, vi x.2.2.1, vi x.2.2.2]
theorem mo_J1_indexOf_4cfef (x : Nat × Int32 × Int32 × Int32) (μ : ix_M) (Q Q' : ix_R → Prop) (h : ∀ r, Q r → Q' r) (hT : T_J1_indexOf_4cfef x μ Q) : T_J1_indexOf_4cfef x μ Q' := by
  obtain ⟨a0, a1, a2, a3⟩ := x
  first | exact h _ hT | exact ⟨hT.1, h _ hT.2⟩ | exact fun r hr => h _ (hT r hr) | exact ⟨hT.1, fun r hr => h _ (hT.2 r hr)⟩ | exact ⟨hT.1, hT.2.1, fun r hr => h _ (hT.2.2 r hr)⟩
def oc_J1_indexOf_4cfef (n : Nat) : ix_Op := fun k _ ls st μ => match st with
  | .inl a3 :: .inl a2 :: .inl a1 :: .inr (.inr (t0, a0)) :: r => t0 = 26 ∧ ix_cs r ≤ 8 ∧ T_J1_indexOf_4cfef (a0, a1, a2, a3) μ (fun q => k (n, ls, q.1.toList ++ r, q.2))
  | _ => False
theorem oc_J1_indexOf_4cfef_s {l : Launch} {cc : ByteArray} {nL : Nat} {own : String} {d : Nat} {rt : Option FieldType} {pc n : Nat} (h : ix_S l cc nL own d rt pc (ix_call 4 sh_J1_indexOf_4cfef T_J1_indexOf_4cfef n)) : ix_S l cc nL own d rt pc (oc_J1_indexOf_4cfef n) := by
  refine h.by (fun k Q ls st μ h => ?_) (fun k k' Q ls st μ hk h => ?_)
  · unfold oc_J1_indexOf_4cfef at h
    split at h
    · rename_i a3 a2 a1 t0 a0 r
      obtain ⟨rfl, h1, h2⟩ := h
      exact ⟨h1, (a0, a1, a2, a3), rfl, _, h2, fun r h => h⟩
    · exact h.elim
  · unfold oc_J1_indexOf_4cfef at h ⊢
    split at h
    · obtain ⟨rfl, h1, h2⟩ := h
      exact ⟨rfl, h1, mo_J1_indexOf_4cfef _ _ _ _ (fun q hq => hk _ hq) h2⟩
    · exact h.elim
def o_J1_indexOf_4cfef : List (Nat × ix_Op) := [
  (0, ix_iload 1 1),
  (1, oc_J1_canEncode_9a6ad 4),
  (4, ix_if (fun x => x = 0) 7 9),
  (7, ix_push (vi (-1)) 8),
  (8, ix_iret),
  (9, ix_iload 2 10),
  (10, ix_push (vi 0) 11),
  (11, ix_math2 (fun x y => if x < y then y else x) 14),
  (14, ix_istore 2 15),
  (15, ix_iload 3 16),
  (16, ix_aload 0 17),
  (17, ix_blen 18),
  (18, ix_math2 (fun x y => if y < x then y else x) 21),
  (21, ix_istore 3 22),
  (22, ix_iload 2 23),
  (23, ix_iload 3 24),
  (24, ix_cmp (fun x y => x < y) 29 27),
  (27, ix_push (vi (-1)) 28),
  (28, ix_iret),
  (29, ix_aload 0 30),
  (30, ix_iload 1 31),
  (31, ix_iload 2 32),
  (32, ix_iload 3 33),
  (33, oc_J1_indexOfChar_4cfef 36),
  (36, ix_iret)]
set_option maxRecDepth 20000 in
theorem a_J1_indexOf_4cfef (l : Launch) : ix_AllS l cJ1_indexOf_4cfef 4 RJ1 2 (some .int) o_J1_indexOf_4cfef :=
  .cons (ix_s_iload_n dJ1_indexOf_4cfef_0 rfl) <|
  .cons (oc_J1_canEncode_9a6ad_s (ix_s_calls (k_J1_canEncode_9a6ad l) (by decide) (by decide) tw_514 tw_16 tw_512 tw_513 ⟨by decide, by decide, by decide +kernel⟩ (fun _ => rfl) dJ1_indexOf_4cfef_1)) <|
  .cons (ix_s_if_ne dJ1_indexOf_4cfef_4 (by decide)) <|
  .cons (ix_s_iconst dJ1_indexOf_4cfef_7 (by decide +kernel)) <|
  .cons (ix_s_iret dJ1_indexOf_4cfef_8 rfl) <|
  .cons (ix_s_iload_n dJ1_indexOf_4cfef_9 rfl) <|
  .cons (ix_s_iconst dJ1_indexOf_4cfef_10 (by decide +kernel)) <|
  .cons (ix_s_mmax tw_515 tw_103 tw_7 tw_104 (by decide) dJ1_indexOf_4cfef_11) <|
  .cons (ix_s_istore_n dJ1_indexOf_4cfef_14 rfl (by decide)) <|
  .cons (ix_s_iload_n dJ1_indexOf_4cfef_15 rfl) <|
  .cons (ix_s_aload_n dJ1_indexOf_4cfef_16 rfl) <|
  .cons (ix_s_blen dJ1_indexOf_4cfef_17) <|
  .cons (ix_s_mmin tw_516 tw_328 tw_7 tw_329 (by decide) dJ1_indexOf_4cfef_18) <|
  .cons (ix_s_istore_n dJ1_indexOf_4cfef_21 rfl (by decide)) <|
  .cons (ix_s_iload_n dJ1_indexOf_4cfef_22 rfl) <|
  .cons (ix_s_iload_n dJ1_indexOf_4cfef_23 rfl) <|
  .cons (ix_s_cmp_lt dJ1_indexOf_4cfef_24 (by decide)) <|
  .cons (ix_s_iconst dJ1_indexOf_4cfef_27 (by decide +kernel)) <|
  .cons (ix_s_iret dJ1_indexOf_4cfef_28 rfl) <|
  .cons (ix_s_aload_n dJ1_indexOf_4cfef_29 rfl) <|
  .cons (ix_s_iload_n dJ1_indexOf_4cfef_30 rfl) <|
  .cons (ix_s_iload_n dJ1_indexOf_4cfef_31 rfl) <|
  .cons (ix_s_iload_n dJ1_indexOf_4cfef_32 rfl) <|
  .cons (oc_J1_indexOfChar_4cfef_s (ix_s_calls (k_J1_indexOfChar_4cfef l) (by decide) (by decide) tw_519 tw_16 tw_517 tw_518 ⟨by decide, by decide, by decide +kernel⟩ (fun _ => rfl) dJ1_indexOf_4cfef_33)) <|
  .cons (ix_s_iret dJ1_indexOf_4cfef_36 rfl) <| .nil
theorem e_J1_indexOf_4cfef_0 (Q : ix_R → Prop) (ls : ix_L) (st : List ix_V) (μ : ix_M) : ix_Ev o_J1_indexOf_4cfef Q (0, ls, st, μ) = ix_iload 1 1 (ix_Ev o_J1_indexOf_4cfef Q) Q ls st μ := ix_Ev.eq (a_J1_indexOf_4cfef launch0) rfl ls st μ
theorem e_J1_indexOf_4cfef_1 (Q : ix_R → Prop) (ls : ix_L) (st : List ix_V) (μ : ix_M) : ix_Ev o_J1_indexOf_4cfef Q (1, ls, st, μ) = oc_J1_canEncode_9a6ad 4 (ix_Ev o_J1_indexOf_4cfef Q) Q ls st μ := ix_Ev.eq (a_J1_indexOf_4cfef launch0) rfl ls st μ
theorem e_J1_indexOf_4cfef_4 (Q : ix_R → Prop) (ls : ix_L) (st : List ix_V) (μ : ix_M) : ix_Ev o_J1_indexOf_4cfef Q (4, ls, st, μ) = ix_if (fun x => x = 0) 7 9 (ix_Ev o_J1_indexOf_4cfef Q) Q ls st μ := ix_Ev.eq (a_J1_indexOf_4cfef launch0) rfl ls st μ
theorem e_J1_indexOf_4cfef_7 (Q : ix_R → Prop) (ls : ix_L) (st : List ix_V) (μ : ix_M) : ix_Ev o_J1_indexOf_4cfef Q (7, ls, st, μ) = ix_push (vi (-1)) 8 (ix_Ev o_J1_indexOf_4cfef Q) Q ls st μ := ix_Ev.eq (a_J1_indexOf_4cfef launch0) rfl ls st μ
theorem e_J1_indexOf_4cfef_8 (Q : ix_R → Prop) (ls : ix_L) (st : List ix_V) (μ : ix_M) : ix_Ev o_J1_indexOf_4cfef Q (8, ls, st, μ) = ix_iret (ix_Ev o_J1_indexOf_4cfef Q) Q ls st μ := ix_Ev.eq (a_J1_indexOf_4cfef launch0) rfl ls st μ
theorem e_J1_indexOf_4cfef_9 (Q : ix_R → Prop) (ls : ix_L) (st : List ix_V) (μ : ix_M) : ix_Ev o_J1_indexOf_4cfef Q (9, ls, st, μ) = ix_iload 2 10 (ix_Ev o_J1_indexOf_4cfef Q) Q ls st μ := ix_Ev.eq (a_J1_indexOf_4cfef launch0) rfl ls st μ
theorem e_J1_indexOf_4cfef_10 (Q : ix_R → Prop) (ls : ix_L) (st : List ix_V) (μ : ix_M) : ix_Ev o_J1_indexOf_4cfef Q (10, ls, st, μ) = ix_push (vi 0) 11 (ix_Ev o_J1_indexOf_4cfef Q) Q ls st μ := ix_Ev.eq (a_J1_indexOf_4cfef launch0) rfl ls st μ
theorem e_J1_indexOf_4cfef_11 (Q : ix_R → Prop) (ls : ix_L) (st : List ix_V) (μ : ix_M) : ix_Ev o_J1_indexOf_4cfef Q (11, ls, st, μ) = ix_math2 (fun x y => if x < y then y else x) 14 (ix_Ev o_J1_indexOf_4cfef Q) Q ls st μ := ix_Ev.eq (a_J1_indexOf_4cfef launch0) rfl ls st μ
theorem e_J1_indexOf_4cfef_14 (Q : ix_R → Prop) (ls : ix_L) (st : List ix_V) (μ : ix_M) : ix_Ev o_J1_indexOf_4cfef Q (14, ls, st, μ) = ix_istore 2 15 (ix_Ev o_J1_indexOf_4cfef Q) Q ls st μ := ix_Ev.eq (a_J1_indexOf_4cfef launch0) rfl ls st μ
theorem e_J1_indexOf_4cfef_15 (Q : ix_R → Prop) (ls : ix_L) (st : List ix_V) (μ : ix_M) : ix_Ev o_J1_indexOf_4cfef Q (15, ls, st, μ) = ix_iload 3 16 (ix_Ev o_J1_indexOf_4cfef Q) Q ls st μ := ix_Ev.eq (a_J1_indexOf_4cfef launch0) rfl ls st μ
theorem e_J1_indexOf_4cfef_16 (Q : ix_R → Prop) (ls : ix_L) (st : List ix_V) (μ : ix_M) : ix_Ev o_J1_indexOf_4cfef Q (16, ls, st, μ) = ix_aload 0 17 (ix_Ev o_J1_indexOf_4cfef Q) Q ls st μ := ix_Ev.eq (a_J1_indexOf_4cfef launch0) rfl ls st μ
theorem e_J1_indexOf_4cfef_17 (Q : ix_R → Prop) (ls : ix_L) (st : List ix_V) (μ : ix_M) : ix_Ev o_J1_indexOf_4cfef Q (17, ls, st, μ) = ix_blen 18 (ix_Ev o_J1_indexOf_4cfef Q) Q ls st μ := ix_Ev.eq (a_J1_indexOf_4cfef launch0) rfl ls st μ
theorem e_J1_indexOf_4cfef_18 (Q : ix_R → Prop) (ls : ix_L) (st : List ix_V) (μ : ix_M) : ix_Ev o_J1_indexOf_4cfef Q (18, ls, st, μ) = ix_math2 (fun x y => if y < x then y else x) 21 (ix_Ev o_J1_indexOf_4cfef Q) Q ls st μ := ix_Ev.eq (a_J1_indexOf_4cfef launch0) rfl ls st μ
theorem e_J1_indexOf_4cfef_21 (Q : ix_R → Prop) (ls : ix_L) (st : List ix_V) (μ : ix_M) : ix_Ev o_J1_indexOf_4cfef Q (21, ls, st, μ) = ix_istore 3 22 (ix_Ev o_J1_indexOf_4cfef Q) Q ls st μ := ix_Ev.eq (a_J1_indexOf_4cfef launch0) rfl ls st μ
theorem e_J1_indexOf_4cfef_22 (Q : ix_R → Prop) (ls : ix_L) (st : List ix_V) (μ : ix_M) : ix_Ev o_J1_indexOf_4cfef Q (22, ls, st, μ) = ix_iload 2 23 (ix_Ev o_J1_indexOf_4cfef Q) Q ls st μ := ix_Ev.eq (a_J1_indexOf_4cfef launch0) rfl ls st μ
theorem e_J1_indexOf_4cfef_23 (Q : ix_R → Prop) (ls : ix_L) (st : List ix_V) (μ : ix_M) : ix_Ev o_J1_indexOf_4cfef Q (23, ls, st, μ) = ix_iload 3 24 (ix_Ev o_J1_indexOf_4cfef Q) Q ls st μ := ix_Ev.eq (a_J1_indexOf_4cfef launch0) rfl ls st μ
theorem e_J1_indexOf_4cfef_24 (Q : ix_R → Prop) (ls : ix_L) (st : List ix_V) (μ : ix_M) : ix_Ev o_J1_indexOf_4cfef Q (24, ls, st, μ) = ix_cmp (fun x y => x < y) 29 27 (ix_Ev o_J1_indexOf_4cfef Q) Q ls st μ := ix_Ev.eq (a_J1_indexOf_4cfef launch0) rfl ls st μ
theorem e_J1_indexOf_4cfef_27 (Q : ix_R → Prop) (ls : ix_L) (st : List ix_V) (μ : ix_M) : ix_Ev o_J1_indexOf_4cfef Q (27, ls, st, μ) = ix_push (vi (-1)) 28 (ix_Ev o_J1_indexOf_4cfef Q) Q ls st μ := ix_Ev.eq (a_J1_indexOf_4cfef launch0) rfl ls st μ
theorem e_J1_indexOf_4cfef_28 (Q : ix_R → Prop) (ls : ix_L) (st : List ix_V) (μ : ix_M) : ix_Ev o_J1_indexOf_4cfef Q (28, ls, st, μ) = ix_iret (ix_Ev o_J1_indexOf_4cfef Q) Q ls st μ := ix_Ev.eq (a_J1_indexOf_4cfef launch0) rfl ls st μ
theorem e_J1_indexOf_4cfef_29 (Q : ix_R → Prop) (ls : ix_L) (st : List ix_V) (μ : ix_M) : ix_Ev o_J1_indexOf_4cfef Q (29, ls, st, μ) = ix_aload 0 30 (ix_Ev o_J1_indexOf_4cfef Q) Q ls st μ := ix_Ev.eq (a_J1_indexOf_4cfef launch0) rfl ls st μ
theorem e_J1_indexOf_4cfef_30 (Q : ix_R → Prop) (ls : ix_L) (st : List ix_V) (μ : ix_M) : ix_Ev o_J1_indexOf_4cfef Q (30, ls, st, μ) = ix_iload 1 31 (ix_Ev o_J1_indexOf_4cfef Q) Q ls st μ := ix_Ev.eq (a_J1_indexOf_4cfef launch0) rfl ls st μ
theorem e_J1_indexOf_4cfef_31 (Q : ix_R → Prop) (ls : ix_L) (st : List ix_V) (μ : ix_M) : ix_Ev o_J1_indexOf_4cfef Q (31, ls, st, μ) = ix_iload 2 32 (ix_Ev o_J1_indexOf_4cfef Q) Q ls st μ := ix_Ev.eq (a_J1_indexOf_4cfef launch0) rfl ls st μ
theorem e_J1_indexOf_4cfef_32 (Q : ix_R → Prop) (ls : ix_L) (st : List ix_V) (μ : ix_M) : ix_Ev o_J1_indexOf_4cfef Q (32, ls, st, μ) = ix_iload 3 33 (ix_Ev o_J1_indexOf_4cfef Q) Q ls st μ := ix_Ev.eq (a_J1_indexOf_4cfef launch0) rfl ls st μ
theorem e_J1_indexOf_4cfef_33 (Q : ix_R → Prop) (ls : ix_L) (st : List ix_V) (μ : ix_M) : ix_Ev o_J1_indexOf_4cfef Q (33, ls, st, μ) = oc_J1_indexOfChar_4cfef 36 (ix_Ev o_J1_indexOf_4cfef Q) Q ls st μ := ix_Ev.eq (a_J1_indexOf_4cfef launch0) rfl ls st μ
theorem e_J1_indexOf_4cfef_36 (Q : ix_R → Prop) (ls : ix_L) (st : List ix_V) (μ : ix_M) : ix_Ev o_J1_indexOf_4cfef Q (36, ls, st, μ) = ix_iret (ix_Ev o_J1_indexOf_4cfef Q) Q ls st μ := ix_Ev.eq (a_J1_indexOf_4cfef launch0) rfl ls st μ
theorem r_J1_indexOf_4cfef (a : Nat) (c : Int32) (i : Int32) (n : Int32) (μ : ix_M) (Q : ix_R → Prop) (ok_a : a < 3) (hT : T_J1_indexOf_4cfef (a, c, i, n) μ Q) : ix_Ev o_J1_indexOf_4cfef Q (0, [some (vr 26 a), some (vi c), some (vi i), some (vi n)], [], μ) := by
  obtain ⟨⟨rfl, rfl⟩, hQ⟩ := hT
  have h3 := sLen_le a
  have e1 : (if Int32.ofNat (sLen a) < nI (sLen a) then Int32.ofNat (sLen a) else nI (sLen a)) = nI (sLen a) := by
    split
    · rfl
    · rfl
  simp (decide := true) only [e_J1_indexOf_4cfef_0, e_J1_indexOf_4cfef_1, e_J1_indexOf_4cfef_4, e_J1_indexOf_4cfef_7, e_J1_indexOf_4cfef_8, e_J1_indexOf_4cfef_9, e_J1_indexOf_4cfef_10, e_J1_indexOf_4cfef_11, e_J1_indexOf_4cfef_14, e_J1_indexOf_4cfef_15, e_J1_indexOf_4cfef_16, e_J1_indexOf_4cfef_17, e_J1_indexOf_4cfef_18, e_J1_indexOf_4cfef_21, e_J1_indexOf_4cfef_22, e_J1_indexOf_4cfef_23, e_J1_indexOf_4cfef_24, e_J1_indexOf_4cfef_27, e_J1_indexOf_4cfef_28, e_J1_indexOf_4cfef_29, e_J1_indexOf_4cfef_30, e_J1_indexOf_4cfef_31, e_J1_indexOf_4cfef_32, e_J1_indexOf_4cfef_33, e_J1_indexOf_4cfef_36, vi, vl, vr, oc_J1_canEncode_9a6ad, T_J1_canEncode_9a6ad, oc_J1_indexOfChar_4cfef, T_J1_indexOfChar_4cfef, ix_push, ix_iload, ix_lload, ix_aload, ix_istore, ix_astore, ix_iinc, ix_bin, ix_div, ix_un, ix_i2l, ix_l2i, ix_lbin, ix_lsh, ix_lcmp, ix_dup, ix_dup2, ix_pop, ix_if, ix_cmp, ix_goto, ix_switch, ix_sw, ix_iret, ix_zret, ix_vret, ix_aret, ix_geti, ix_getr, ix_puti, ix_putz, ix_puts, ix_gets, ix_iald, ix_iast, ix_alen, ix_aald, ix_gval, ix_gcod, ix_bald, ix_blen, ix_sald, ix_nret, ix_math2, ix_math1, ix_acopy, Nat.add_assoc, Int32.reduceLT, Int32.reduceLE, Int32.reduceToNatClampNeg, Int32.reduceSub, Int32.reduceAdd, Nat.reduceAdd, Nat.reduceLeDiff, true_or, or_true, or_false, false_or, not_false_eq_true, not_true_eq_false, false_implies, true_implies, implies_true, and_self, mB_0, mB_01, Classical.not_not, Nat.zero_le, List.getElem?_cons_zero, List.getElem?_cons_succ, List.set_cons_zero, List.set_cons_succ, ix_nl, ix_cs, true_and, and_true, Option.toList_some, Option.toList_none, List.cons_append, List.nil_append, e1, if_false, ↓reduceIte]
  refine ⟨fun z => ?_, fun z => ?_⟩
  · rw [if_neg z] at hQ
    exact hQ
  · rw [if_pos z] at hQ
    refine ⟨fun z2 => ⟨0, sLen a, rfl, rfl, by omega, Nat.le_refl _, hQ⟩, fun z2 => ?_⟩
    have h0 : sLen a = 0 := by
      rcases Nat.eq_zero_or_pos (sLen a) with h | h
      · exact h
      · exact absurd (nI_lt (a := 0) h (by omega)) z2
    rw [h0] at hQ
    exact hQ
theorem k_J1_indexOf_4cfef (l : Launch) : ix_Ct l yJ1_indexOf_4cfef cJ1_indexOf_4cfef 4 (some .int) 2 sh_J1_indexOf_4cfef T_J1_indexOf_4cfef := ix_ct (a_J1_indexOf_4cfef l) rfl (by decide) (fun _ => Nat.le_of_ble_eq_true rfl) (fun x μ Q hok hT => r_J1_indexOf_4cfef x.1 x.2.1 x.2.2.1 x.2.2.2 μ Q (hok (vr 26 x.1) (by simp [sh_J1_indexOf_4cfef])) hT)
def T_J0_indexOf_7cf53 : Nat × Int32 × Int32 → ix_M → (ix_R → Prop) → Prop := fun (a, c, i) μ Q => i = 0 ∧ Q (some (vi (if ¬ c < 0 ∧ ¬ 255 < c then sFind a c.toInt8.toInt32 (sLen a) 0 else -1)), μ)
def sh_J0_indexOf_7cf53 (x : Nat × Int32 × Int32) : List ix_V := [vr 24 x.1, vi x.2.1, vi x.2.2]
theorem mo_J0_indexOf_7cf53 (x : Nat × Int32 × Int32) (μ : ix_M) (Q Q' : ix_R → Prop) (h : ∀ r, Q r → Q' r) (hT : T_J0_indexOf_7cf53 x μ Q) : T_J0_indexOf_7cf53 x μ Q' := by
  obtain ⟨a0, a1, a2⟩ := x
  first | exact h _ hT | exact ⟨hT.1, h _ hT.2⟩ | exact fun r hr => h _ (hT r hr) | exact ⟨hT.1, fun r hr => h _ (hT.2 r hr)⟩ | exact ⟨hT.1, hT.2.1, fun r hr => h _ (hT.2.2 r hr)⟩
def oc_J0_indexOf_7cf53 (n : Nat) : ix_Op := fun k _ ls st μ => match st with
  | .inl a2 :: .inl a1 :: .inr (.inr (t0, a0)) :: r => t0 = 24 ∧ ix_cs r ≤ 8 ∧ T_J0_indexOf_7cf53 (a0, a1, a2) μ (fun q => k (n, ls, q.1.toList ++ r, q.2))
  | _ => False
theorem oc_J0_indexOf_7cf53_s {l : Launch} {cc : ByteArray} {nL : Nat} {own : String} {d : Nat} {rt : Option FieldType} {pc n : Nat} (h : ix_S l cc nL own d rt pc (ix_call 3 sh_J0_indexOf_7cf53 T_J0_indexOf_7cf53 n)) : ix_S l cc nL own d rt pc (oc_J0_indexOf_7cf53 n) := by
  refine h.by (fun k Q ls st μ h => ?_) (fun k k' Q ls st μ hk h => ?_)
  · unfold oc_J0_indexOf_7cf53 at h
    split at h
    · rename_i a2 a1 t0 a0 r
      obtain ⟨rfl, h1, h2⟩ := h
      exact ⟨h1, (a0, a1, a2), rfl, _, h2, fun r h => h⟩
    · exact h.elim
  · unfold oc_J0_indexOf_7cf53 at h ⊢
    split at h
    · obtain ⟨rfl, h1, h2⟩ := h
      exact ⟨rfl, h1, mo_J0_indexOf_7cf53 _ _ _ _ (fun q hq => hk _ hq) h2⟩
    · exact h.elim
def o_J0_indexOf_7cf53 : List (Nat × ix_Op) := [
  (0, ix_aload 0 1),
  (1, oc_J0_isLatin1_aae02 4),
  (4, ix_if (fun x => x = 0) 23 7),
  (7, ix_aload 0 8),
  (8, ix_gval 11),
  (11, ix_iload 1 12),
  (12, ix_iload 2 13),
  (13, ix_aload 0 14),
  (14, oc_J0_length_8abf5 17),
  (17, oc_J1_indexOf_4cfef 20),
  (20, ix_goto 36),
  (36, ix_iret)]
set_option maxRecDepth 20000 in
theorem a_J0_indexOf_7cf53 (l : Launch) : ix_AllS l cJ0_indexOf_7cf53 3 RJ0 3 (some .int) o_J0_indexOf_7cf53 :=
  .cons (ix_s_aload_n dJ0_indexOf_7cf53_0 rfl) <|
  .cons (oc_J0_isLatin1_aae02_s (ix_s_callS (k_J0_isLatin1_aae02 l) (by decide) (by decide) tw_498 tw_15 tw_495 tw_496 tw_497 ⟨by decide, by decide, by decide +kernel⟩ rfl (fun _ => ⟨_, _, rfl, rfl⟩) dJ0_indexOf_7cf53_1)) <|
  .cons (ix_s_if_eq dJ0_indexOf_7cf53_4 (by decide)) <|
  .cons (ix_s_aload_n dJ0_indexOf_7cf53_7 rfl) <|
  .cons (ix_s_gval tw_1404 dJ0_indexOf_7cf53_8) <|
  .cons (ix_s_iload_n dJ0_indexOf_7cf53_11 rfl) <|
  .cons (ix_s_iload_n dJ0_indexOf_7cf53_12 rfl) <|
  .cons (ix_s_aload_n dJ0_indexOf_7cf53_13 rfl) <|
  .cons (oc_J0_length_8abf5_s (ix_s_callS (k_J0_length_8abf5 l) (by decide) (by decide) tw_504 tw_15 tw_501 tw_502 tw_503 ⟨by decide, by decide, by decide +kernel⟩ rfl (fun _ => ⟨_, _, rfl, rfl⟩) dJ0_indexOf_7cf53_14)) <|
  .cons (oc_J1_indexOf_4cfef_s (ix_s_calls (k_J1_indexOf_4cfef l) (by decide) (by decide) tw_511 tw_16 tw_509 tw_510 ⟨by decide, by decide, by decide +kernel⟩ (fun _ => rfl) dJ0_indexOf_7cf53_17)) <|
  .cons (ix_s_goto dJ0_indexOf_7cf53_20 (by decide)) <|
  .cons (ix_s_iret dJ0_indexOf_7cf53_36 rfl) <| .nil
theorem e_J0_indexOf_7cf53_0 (Q : ix_R → Prop) (ls : ix_L) (st : List ix_V) (μ : ix_M) : ix_Ev o_J0_indexOf_7cf53 Q (0, ls, st, μ) = ix_aload 0 1 (ix_Ev o_J0_indexOf_7cf53 Q) Q ls st μ := ix_Ev.eq (a_J0_indexOf_7cf53 launch0) rfl ls st μ
theorem e_J0_indexOf_7cf53_1 (Q : ix_R → Prop) (ls : ix_L) (st : List ix_V) (μ : ix_M) : ix_Ev o_J0_indexOf_7cf53 Q (1, ls, st, μ) = oc_J0_isLatin1_aae02 4 (ix_Ev o_J0_indexOf_7cf53 Q) Q ls st μ := ix_Ev.eq (a_J0_indexOf_7cf53 launch0) rfl ls st μ
theorem e_J0_indexOf_7cf53_4 (Q : ix_R → Prop) (ls : ix_L) (st : List ix_V) (μ : ix_M) : ix_Ev o_J0_indexOf_7cf53 Q (4, ls, st, μ) = ix_if (fun x => x = 0) 23 7 (ix_Ev o_J0_indexOf_7cf53 Q) Q ls st μ := ix_Ev.eq (a_J0_indexOf_7cf53 launch0) rfl ls st μ
theorem e_J0_indexOf_7cf53_7 (Q : ix_R → Prop) (ls : ix_L) (st : List ix_V) (μ : ix_M) : ix_Ev o_J0_indexOf_7cf53 Q (7, ls, st, μ) = ix_aload 0 8 (ix_Ev o_J0_indexOf_7cf53 Q) Q ls st μ := ix_Ev.eq (a_J0_indexOf_7cf53 launch0) rfl ls st μ
theorem e_J0_indexOf_7cf53_8 (Q : ix_R → Prop) (ls : ix_L) (st : List ix_V) (μ : ix_M) : ix_Ev o_J0_indexOf_7cf53 Q (8, ls, st, μ) = ix_gval 11 (ix_Ev o_J0_indexOf_7cf53 Q) Q ls st μ := ix_Ev.eq (a_J0_indexOf_7cf53 launch0) rfl ls st μ
theorem e_J0_indexOf_7cf53_11 (Q : ix_R → Prop) (ls : ix_L) (st : List ix_V) (μ : ix_M) : ix_Ev o_J0_indexOf_7cf53 Q (11, ls, st, μ) = ix_iload 1 12 (ix_Ev o_J0_indexOf_7cf53 Q) Q ls st μ := ix_Ev.eq (a_J0_indexOf_7cf53 launch0) rfl ls st μ
theorem e_J0_indexOf_7cf53_12 (Q : ix_R → Prop) (ls : ix_L) (st : List ix_V) (μ : ix_M) : ix_Ev o_J0_indexOf_7cf53 Q (12, ls, st, μ) = ix_iload 2 13 (ix_Ev o_J0_indexOf_7cf53 Q) Q ls st μ := ix_Ev.eq (a_J0_indexOf_7cf53 launch0) rfl ls st μ
theorem e_J0_indexOf_7cf53_13 (Q : ix_R → Prop) (ls : ix_L) (st : List ix_V) (μ : ix_M) : ix_Ev o_J0_indexOf_7cf53 Q (13, ls, st, μ) = ix_aload 0 14 (ix_Ev o_J0_indexOf_7cf53 Q) Q ls st μ := ix_Ev.eq (a_J0_indexOf_7cf53 launch0) rfl ls st μ
theorem e_J0_indexOf_7cf53_14 (Q : ix_R → Prop) (ls : ix_L) (st : List ix_V) (μ : ix_M) : ix_Ev o_J0_indexOf_7cf53 Q (14, ls, st, μ) = oc_J0_length_8abf5 17 (ix_Ev o_J0_indexOf_7cf53 Q) Q ls st μ := ix_Ev.eq (a_J0_indexOf_7cf53 launch0) rfl ls st μ
theorem e_J0_indexOf_7cf53_17 (Q : ix_R → Prop) (ls : ix_L) (st : List ix_V) (μ : ix_M) : ix_Ev o_J0_indexOf_7cf53 Q (17, ls, st, μ) = oc_J1_indexOf_4cfef 20 (ix_Ev o_J0_indexOf_7cf53 Q) Q ls st μ := ix_Ev.eq (a_J0_indexOf_7cf53 launch0) rfl ls st μ
theorem e_J0_indexOf_7cf53_20 (Q : ix_R → Prop) (ls : ix_L) (st : List ix_V) (μ : ix_M) : ix_Ev o_J0_indexOf_7cf53 Q (20, ls, st, μ) = ix_goto 36 (ix_Ev o_J0_indexOf_7cf53 Q) Q ls st μ := ix_Ev.eq (a_J0_indexOf_7cf53 launch0) rfl ls st μ
theorem e_J0_indexOf_7cf53_36 (Q : ix_R → Prop) (ls : ix_L) (st : List ix_V) (μ : ix_M) : ix_Ev o_J0_indexOf_7cf53 Q (36, ls, st, μ) = ix_iret (ix_Ev o_J0_indexOf_7cf53 Q) Q ls st μ := ix_Ev.eq (a_J0_indexOf_7cf53 launch0) rfl ls st μ
theorem r_J0_indexOf_7cf53 (a : Nat) (c : Int32) (i : Int32) (μ : ix_M) (Q : ix_R → Prop) (ok_a : a < 3) (hT : T_J0_indexOf_7cf53 (a, c, i) μ Q) : ix_Ev o_J0_indexOf_7cf53 Q (0, [some (vr 24 a), some (vi c), some (vi i)], [], μ) := by
  obtain ⟨rfl, hQ⟩ := hT
  simp (decide := true) only [e_J0_indexOf_7cf53_0, e_J0_indexOf_7cf53_1, e_J0_indexOf_7cf53_4, e_J0_indexOf_7cf53_7, e_J0_indexOf_7cf53_8, e_J0_indexOf_7cf53_11, e_J0_indexOf_7cf53_12, e_J0_indexOf_7cf53_13, e_J0_indexOf_7cf53_14, e_J0_indexOf_7cf53_17, e_J0_indexOf_7cf53_20, e_J0_indexOf_7cf53_36, vi, vl, vr, oc_J0_isLatin1_aae02, T_J0_isLatin1_aae02, oc_J0_length_8abf5, T_J0_length_8abf5, oc_J1_indexOf_4cfef, T_J1_indexOf_4cfef, ix_push, ix_iload, ix_lload, ix_aload, ix_istore, ix_astore, ix_iinc, ix_bin, ix_div, ix_un, ix_i2l, ix_l2i, ix_lbin, ix_lsh, ix_lcmp, ix_dup, ix_dup2, ix_pop, ix_if, ix_cmp, ix_goto, ix_switch, ix_sw, ix_iret, ix_zret, ix_vret, ix_aret, ix_geti, ix_getr, ix_puti, ix_putz, ix_puts, ix_gets, ix_iald, ix_iast, ix_alen, ix_aald, ix_gval, ix_gcod, ix_bald, ix_blen, ix_sald, ix_nret, ix_math2, ix_math1, ix_acopy, Nat.add_assoc, Int32.reduceLT, Int32.reduceLE, Int32.reduceToNatClampNeg, Int32.reduceSub, Int32.reduceAdd, Nat.reduceAdd, Nat.reduceLeDiff, true_or, or_true, or_false, false_or, not_false_eq_true, not_true_eq_false, false_implies, true_implies, implies_true, and_self, mB_0, mB_01, Classical.not_not, Nat.zero_le, List.getElem?_cons_zero, List.getElem?_cons_succ, List.set_cons_zero, List.set_cons_succ, ix_nl, ix_cs, true_and, and_true, Option.toList_some, Option.toList_none, List.cons_append, List.nil_append]
  exact hQ
theorem k_J0_indexOf_7cf53 (l : Launch) : ix_Ct l yJ0_indexOf_7cf53 cJ0_indexOf_7cf53 3 (some .int) 3 sh_J0_indexOf_7cf53 T_J0_indexOf_7cf53 := ix_ct (a_J0_indexOf_7cf53 l) rfl (by decide) (fun _ => Nat.le_of_ble_eq_true rfl) (fun x μ Q hok hT => r_J0_indexOf_7cf53 x.1 x.2.1 x.2.2 μ Q (hok (vr 24 x.1) (by simp [sh_J0_indexOf_7cf53])) hT)
def T_J0_indexOf_0f7a4 : Nat × Int32 → ix_M → (ix_R → Prop) → Prop := fun (a, c) μ Q => Q (some (vi (if ¬ c < 0 ∧ ¬ 255 < c then sFind a c.toInt8.toInt32 (sLen a) 0 else -1)), μ)
def sh_J0_indexOf_0f7a4 (x : Nat × Int32) : List ix_V := [vr 24 x.1, vi x.2]
theorem mo_J0_indexOf_0f7a4 (x : Nat × Int32) (μ : ix_M) (Q Q' : ix_R → Prop) (h : ∀ r, Q r → Q' r) (hT : T_J0_indexOf_0f7a4 x μ Q) : T_J0_indexOf_0f7a4 x μ Q' := by
  obtain ⟨a0, a1⟩ := x
  first | exact h _ hT | exact ⟨hT.1, h _ hT.2⟩ | exact fun r hr => h _ (hT r hr) | exact ⟨hT.1, fun r hr => h _ (hT.2 r hr)⟩ | exact ⟨hT.1, hT.2.1, fun r hr => h _ (hT.2.2 r hr)⟩
def oc_J0_indexOf_0f7a4 (n : Nat) : ix_Op := fun k _ ls st μ => match st with
  | .inl a1 :: .inr (.inr (t0, a0)) :: r => t0 = 24 ∧ ix_cs r ≤ 8 ∧ T_J0_indexOf_0f7a4 (a0, a1) μ (fun q => k (n, ls, q.1.toList ++ r, q.2))
  | _ => False
theorem oc_J0_indexOf_0f7a4_s {l : Launch} {cc : ByteArray} {nL : Nat} {own : String} {d : Nat} {rt : Option FieldType} {pc n : Nat} (h : ix_S l cc nL own d rt pc (ix_call 2 sh_J0_indexOf_0f7a4 T_J0_indexOf_0f7a4 n)) : ix_S l cc nL own d rt pc (oc_J0_indexOf_0f7a4 n) := by
  refine h.by (fun k Q ls st μ h => ?_) (fun k k' Q ls st μ hk h => ?_)
  · unfold oc_J0_indexOf_0f7a4 at h
    split at h
    · rename_i a1 t0 a0 r
      obtain ⟨rfl, h1, h2⟩ := h
      exact ⟨h1, (a0, a1), rfl, _, h2, fun r h => h⟩
    · exact h.elim
  · unfold oc_J0_indexOf_0f7a4 at h ⊢
    split at h
    · obtain ⟨rfl, h1, h2⟩ := h
      exact ⟨rfl, h1, mo_J0_indexOf_0f7a4 _ _ _ _ (fun q hq => hk _ hq) h2⟩
    · exact h.elim
def o_J0_indexOf_0f7a4 : List (Nat × ix_Op) := [
  (0, ix_aload 0 1),
  (1, ix_iload 1 2),
  (2, ix_push (vi 0) 3),
  (3, oc_J0_indexOf_7cf53 6),
  (6, ix_iret)]
set_option maxRecDepth 20000 in
theorem a_J0_indexOf_0f7a4 (l : Launch) : ix_AllS l cJ0_indexOf_0f7a4 2 RJ0 4 (some .int) o_J0_indexOf_0f7a4 :=
  .cons (ix_s_aload_n dJ0_indexOf_0f7a4_0 rfl) <|
  .cons (ix_s_iload_n dJ0_indexOf_0f7a4_1 rfl) <|
  .cons (ix_s_iconst dJ0_indexOf_0f7a4_2 (by decide +kernel)) <|
  .cons (oc_J0_indexOf_7cf53_s (ix_s_callS (k_J0_indexOf_7cf53 l) (by decide) (by decide) tw_494 tw_15 tw_491 tw_492 tw_493 ⟨by decide, by decide, by decide +kernel⟩ rfl (fun _ => ⟨_, _, rfl, rfl⟩) dJ0_indexOf_0f7a4_3)) <|
  .cons (ix_s_iret dJ0_indexOf_0f7a4_6 rfl) <| .nil
theorem e_J0_indexOf_0f7a4_0 (Q : ix_R → Prop) (ls : ix_L) (st : List ix_V) (μ : ix_M) : ix_Ev o_J0_indexOf_0f7a4 Q (0, ls, st, μ) = ix_aload 0 1 (ix_Ev o_J0_indexOf_0f7a4 Q) Q ls st μ := ix_Ev.eq (a_J0_indexOf_0f7a4 launch0) rfl ls st μ
theorem e_J0_indexOf_0f7a4_1 (Q : ix_R → Prop) (ls : ix_L) (st : List ix_V) (μ : ix_M) : ix_Ev o_J0_indexOf_0f7a4 Q (1, ls, st, μ) = ix_iload 1 2 (ix_Ev o_J0_indexOf_0f7a4 Q) Q ls st μ := ix_Ev.eq (a_J0_indexOf_0f7a4 launch0) rfl ls st μ
theorem e_J0_indexOf_0f7a4_2 (Q : ix_R → Prop) (ls : ix_L) (st : List ix_V) (μ : ix_M) : ix_Ev o_J0_indexOf_0f7a4 Q (2, ls, st, μ) = ix_push (vi 0) 3 (ix_Ev o_J0_indexOf_0f7a4 Q) Q ls st μ := ix_Ev.eq (a_J0_indexOf_0f7a4 launch0) rfl ls st μ
theorem e_J0_indexOf_0f7a4_3 (Q : ix_R → Prop) (ls : ix_L) (st : List ix_V) (μ : ix_M) : ix_Ev o_J0_indexOf_0f7a4 Q (3, ls, st, μ) = oc_J0_indexOf_7cf53 6 (ix_Ev o_J0_indexOf_0f7a4 Q) Q ls st μ := ix_Ev.eq (a_J0_indexOf_0f7a4 launch0) rfl ls st μ
theorem e_J0_indexOf_0f7a4_6 (Q : ix_R → Prop) (ls : ix_L) (st : List ix_V) (μ : ix_M) : ix_Ev o_J0_indexOf_0f7a4 Q (6, ls, st, μ) = ix_iret (ix_Ev o_J0_indexOf_0f7a4 Q) Q ls st μ := ix_Ev.eq (a_J0_indexOf_0f7a4 launch0) rfl ls st μ
theorem r_J0_indexOf_0f7a4 (a : Nat) (c : Int32) (μ : ix_M) (Q : ix_R → Prop) (ok_a : a < 3) (hT : T_J0_indexOf_0f7a4 (a, c) μ Q) : ix_Ev o_J0_indexOf_0f7a4 Q (0, [some (vr 24 a), some (vi c)], [], μ) := by
  simp (decide := true) only [e_J0_indexOf_0f7a4_0, e_J0_indexOf_0f7a4_1, e_J0_indexOf_0f7a4_2, e_J0_indexOf_0f7a4_3, e_J0_indexOf_0f7a4_6, vi, vl, vr, oc_J0_indexOf_7cf53, T_J0_indexOf_7cf53, ix_push, ix_iload, ix_lload, ix_aload, ix_istore, ix_astore, ix_iinc, ix_bin, ix_div, ix_un, ix_i2l, ix_l2i, ix_lbin, ix_lsh, ix_lcmp, ix_dup, ix_dup2, ix_pop, ix_if, ix_cmp, ix_goto, ix_switch, ix_sw, ix_iret, ix_zret, ix_vret, ix_aret, ix_geti, ix_getr, ix_puti, ix_putz, ix_puts, ix_gets, ix_iald, ix_iast, ix_alen, ix_aald, ix_gval, ix_gcod, ix_bald, ix_blen, ix_sald, ix_nret, ix_math2, ix_math1, ix_acopy, Nat.add_assoc, Int32.reduceLT, Int32.reduceLE, Int32.reduceToNatClampNeg, Int32.reduceSub, Int32.reduceAdd, Nat.reduceAdd, Nat.reduceLeDiff, true_or, or_true, or_false, false_or, not_false_eq_true, not_true_eq_false, false_implies, true_implies, implies_true, and_self, mB_0, mB_01, Classical.not_not, Nat.zero_le, List.getElem?_cons_zero, List.getElem?_cons_succ, List.set_cons_zero, List.set_cons_succ, ix_nl, ix_cs, true_and, and_true, Option.toList_some, Option.toList_none, List.cons_append, List.nil_append]
  exact hT
theorem k_J0_indexOf_0f7a4 (l : Launch) : ix_Ct l yJ0_indexOf_0f7a4 cJ0_indexOf_0f7a4 2 (some .int) 4 sh_J0_indexOf_0f7a4 T_J0_indexOf_0f7a4 := ix_ct (a_J0_indexOf_0f7a4 l) rfl (by decide) (fun _ => Nat.le_of_ble_eq_true rfl) (fun x μ Q hok hT => r_J0_indexOf_0f7a4 x.1 x.2 μ Q (hok (vr 24 x.1) (by simp [sh_J0_indexOf_0f7a4])) hT)
