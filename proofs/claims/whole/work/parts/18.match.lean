/-! ===== Matching ===== -/
def mSlot (w t : Int32) : Int32 := (w <<< ((8 : Int32) &&& 31)) ||| t
def mFree (b t : Int32) : Prop := (t >>> (b &&& 31)) &&& 1 = 0
def mTk (t b : Int32) : Int32 := t ||| ((1 : Int32) <<< (b &&& 31))
def fr (t b : Nat) : Bool := t / 2 ^ b % 2 == 0
theorem mSlot_nI : ∀ w, w < 7 → ∀ t, t < 256 → mSlot (nI w) (nI t) = nI (256 * w + t) := by decide +kernel
theorem mFree_nI {t b : Nat} (ht : t < 256) (hb : b < 8) : mFree (nI b) (nI t) ↔ fr t b = true := by
  have h : ∀ t, t < 256 → ∀ b, b < 8 → (((nI t >>> (nI b &&& 31)) &&& 1 = 0) ↔ fr t b = true) := by decide +kernel
  exact h t ht b hb
theorem mTk_nI : ∀ t, t < 256 → ∀ b, b < 8 → fr t b = true → mTk (nI t) (nI b) = nI (t + 2 ^ b) := by decide +kernel
theorem fr_lt : ∀ n, n ≤ 8 → ∀ t, t < 2 ^ n → ∀ b, b < n → fr t b = true → t + 2 ^ b < 2 ^ n := by decide +kernel
theorem ok_1 : ∀ o, o < ix_N → ix_tag o = 1 → o = 96 := by decide +kernel
theorem ok_2 : ∀ o, o < ix_N → ix_tag o = 2 → o = 88 := by decide +kernel
theorem ok_7 : ∀ o, o < ix_N → ix_tag o = 7 → o = 93 := by decide +kernel
theorem ok_9 : ∀ o, o < ix_N → ix_tag o = 9 → o = 0 := by decide +kernel
theorem ok_10 : ∀ o, o < ix_N → ix_tag o = 10 → o = 112 := by decide +kernel
def T_X2_slot : Int32 × Int32 → ix_M → (ix_R → Prop) → Prop := fun (w, t) μ Q => Q (some (vi (mSlot w t)), μ)
def sh_X2_slot (x : Int32 × Int32) : List ix_V := [vi x.1, vi x.2]
theorem mo_X2_slot (x : Int32 × Int32) (μ : ix_M) (Q Q' : ix_R → Prop) (h : ∀ r, Q r → Q' r) (hT : T_X2_slot x μ Q) : T_X2_slot x μ Q' := by
  obtain ⟨a0, a1⟩ := x
  first | exact h _ hT | exact ⟨hT.1, h _ hT.2⟩ | exact fun r hr => h _ (hT r hr) | exact ⟨hT.1, fun r hr => h _ (hT.2 r hr)⟩ | exact ⟨hT.1, hT.2.1, fun r hr => h _ (hT.2.2 r hr)⟩
def oc_X2_slot (n : Nat) : ix_Op := fun k _ ls st μ => match st with
  | .inl a1 :: .inl a0 :: r => ix_cs r ≤ 8 ∧ T_X2_slot (a0, a1) μ (fun q => k (n, ls, q.1.toList ++ r, q.2))
  | _ => False
theorem oc_X2_slot_s {l : Launch} {cc : ByteArray} {nL : Nat} {own : String} {d : Nat} {rt : Option FieldType} {pc n : Nat} (h : ix_S l cc nL own d rt pc (ix_call 2 sh_X2_slot T_X2_slot n)) : ix_S l cc nL own d rt pc (oc_X2_slot n) := by
  refine h.by (fun k Q ls st μ h => ?_) (fun k k' Q ls st μ hk h => ?_)
  · unfold oc_X2_slot at h
    split at h
    · rename_i a1 a0 r
      obtain ⟨h1, h2⟩ := h
      exact ⟨h1, (a0, a1), rfl, _, h2, fun r h => h⟩
    · exact h.elim
  · unfold oc_X2_slot at h ⊢
    split at h
    · obtain ⟨h1, h2⟩ := h
      exact ⟨h1, mo_X2_slot _ _ _ _ (fun q hq => hk _ hq) h2⟩
    · exact h.elim
def o_X2_slot : List (Nat × ix_Op) := [
  (0, ix_iload 0 1),
  (1, ix_push (vi 8) 3),
  (3, ix_bin (fun x y => x <<< (y &&& 31)) 4),
  (4, ix_iload 1 5),
  (5, ix_bin (fun x y => x ||| y) 6),
  (6, ix_iret)]
set_option maxRecDepth 20000 in
theorem a_X2_slot (l : Launch) : ix_AllS l cX2_slot 2 RX2 1 (some .int) o_X2_slot :=
  .cons (ix_s_iload_n dX2_slot_0 rfl) <|
  .cons (ix_s_bipush dX2_slot_1 (by decide +kernel)) <|
  .cons (ix_s_ishl dX2_slot_3) <|
  .cons (ix_s_iload_n dX2_slot_4 rfl) <|
  .cons (ix_s_ior dX2_slot_5) <|
  .cons (ix_s_iret dX2_slot_6 rfl) <| .nil
theorem e_X2_slot_0 (Q : ix_R → Prop) (ls : ix_L) (st : List ix_V) (μ : ix_M) : ix_Ev o_X2_slot Q (0, ls, st, μ) = ix_iload 0 1 (ix_Ev o_X2_slot Q) Q ls st μ := ix_Ev.eq (a_X2_slot launch0) rfl ls st μ
theorem e_X2_slot_1 (Q : ix_R → Prop) (ls : ix_L) (st : List ix_V) (μ : ix_M) : ix_Ev o_X2_slot Q (1, ls, st, μ) = ix_push (vi 8) 3 (ix_Ev o_X2_slot Q) Q ls st μ := ix_Ev.eq (a_X2_slot launch0) rfl ls st μ
theorem e_X2_slot_3 (Q : ix_R → Prop) (ls : ix_L) (st : List ix_V) (μ : ix_M) : ix_Ev o_X2_slot Q (3, ls, st, μ) = ix_bin (fun x y => x <<< (y &&& 31)) 4 (ix_Ev o_X2_slot Q) Q ls st μ := ix_Ev.eq (a_X2_slot launch0) rfl ls st μ
theorem e_X2_slot_4 (Q : ix_R → Prop) (ls : ix_L) (st : List ix_V) (μ : ix_M) : ix_Ev o_X2_slot Q (4, ls, st, μ) = ix_iload 1 5 (ix_Ev o_X2_slot Q) Q ls st μ := ix_Ev.eq (a_X2_slot launch0) rfl ls st μ
theorem e_X2_slot_5 (Q : ix_R → Prop) (ls : ix_L) (st : List ix_V) (μ : ix_M) : ix_Ev o_X2_slot Q (5, ls, st, μ) = ix_bin (fun x y => x ||| y) 6 (ix_Ev o_X2_slot Q) Q ls st μ := ix_Ev.eq (a_X2_slot launch0) rfl ls st μ
theorem e_X2_slot_6 (Q : ix_R → Prop) (ls : ix_L) (st : List ix_V) (μ : ix_M) : ix_Ev o_X2_slot Q (6, ls, st, μ) = ix_iret (ix_Ev o_X2_slot Q) Q ls st μ := ix_Ev.eq (a_X2_slot launch0) rfl ls st μ
theorem r_X2_slot (w : Int32) (t : Int32) (μ : ix_M) (Q : ix_R → Prop) (hT : T_X2_slot (w, t) μ Q) : ix_Ev o_X2_slot Q (0, [some (vi w), some (vi t)], [], μ) := by
  simp (decide := true) only [e_X2_slot_0, e_X2_slot_1, e_X2_slot_3, e_X2_slot_4, e_X2_slot_5, e_X2_slot_6, vi, vl, vr, ix_push, ix_iload, ix_lload, ix_aload, ix_istore, ix_astore, ix_iinc, ix_bin, ix_div, ix_un, ix_i2l, ix_l2i, ix_lbin, ix_lsh, ix_lcmp, ix_dup, ix_dup2, ix_pop, ix_if, ix_cmp, ix_goto, ix_switch, ix_sw, ix_iret, ix_zret, ix_vret, ix_aret, ix_geti, ix_getr, ix_puti, ix_putz, ix_puts, ix_gets, ix_iald, ix_iast, ix_alen, ix_aald, ix_gval, ix_gcod, ix_bald, ix_blen, ix_sald, ix_nret, ix_math2, ix_math1, ix_acopy, Nat.add_assoc, Int32.reduceLT, Int32.reduceLE, Int32.reduceToNatClampNeg, Int32.reduceSub, Int32.reduceAdd, Nat.reduceAdd, Nat.reduceLeDiff, true_or, or_true, or_false, false_or, not_false_eq_true, not_true_eq_false, false_implies, true_implies, implies_true, and_self, mB_0, mB_01, Classical.not_not, Nat.zero_le, List.getElem?_cons_zero, List.getElem?_cons_succ, List.set_cons_zero, List.set_cons_succ, ix_nl, ix_cs, true_and, and_true, Option.toList_some, Option.toList_none, List.cons_append, List.nil_append]
  exact hT
theorem k_X2_slot (l : Launch) : ix_Ct l yX2_slot cX2_slot 2 (some .int) 1 sh_X2_slot T_X2_slot := ix_ct (a_X2_slot l) rfl (by decide) (fun _ => Nat.le_of_ble_eq_true rfl) (fun x μ Q hok hT => r_X2_slot x.1 x.2 μ Q  hT)
def T_X2_isFree : Int32 × Int32 → ix_M → (ix_R → Prop) → Prop := fun (b, t) μ Q => Q (some (vi (if (t >>> (b &&& 31)) &&& 1 = 0 then 1 else 0)), μ)
def sh_X2_isFree (x : Int32 × Int32) : List ix_V := [vi x.1, vi x.2]
theorem mo_X2_isFree (x : Int32 × Int32) (μ : ix_M) (Q Q' : ix_R → Prop) (h : ∀ r, Q r → Q' r) (hT : T_X2_isFree x μ Q) : T_X2_isFree x μ Q' := by
  obtain ⟨a0, a1⟩ := x
  first | exact h _ hT | exact ⟨hT.1, h _ hT.2⟩ | exact fun r hr => h _ (hT r hr) | exact ⟨hT.1, fun r hr => h _ (hT.2 r hr)⟩ | exact ⟨hT.1, hT.2.1, fun r hr => h _ (hT.2.2 r hr)⟩
def oc_X2_isFree (n : Nat) : ix_Op := fun k _ ls st μ => match st with
  | .inl a1 :: .inl a0 :: r => ix_cs r ≤ 8 ∧ T_X2_isFree (a0, a1) μ (fun q => k (n, ls, q.1.toList ++ r, q.2))
  | _ => False
theorem oc_X2_isFree_s {l : Launch} {cc : ByteArray} {nL : Nat} {own : String} {d : Nat} {rt : Option FieldType} {pc n : Nat} (h : ix_S l cc nL own d rt pc (ix_call 2 sh_X2_isFree T_X2_isFree n)) : ix_S l cc nL own d rt pc (oc_X2_isFree n) := by
  refine h.by (fun k Q ls st μ h => ?_) (fun k k' Q ls st μ hk h => ?_)
  · unfold oc_X2_isFree at h
    split at h
    · rename_i a1 a0 r
      obtain ⟨h1, h2⟩ := h
      exact ⟨h1, (a0, a1), rfl, _, h2, fun r h => h⟩
    · exact h.elim
  · unfold oc_X2_isFree at h ⊢
    split at h
    · obtain ⟨h1, h2⟩ := h
      exact ⟨h1, mo_X2_isFree _ _ _ _ (fun q hq => hk _ hq) h2⟩
    · exact h.elim
def o_X2_isFree : List (Nat × ix_Op) := [
  (0, ix_iload 1 1),
  (1, ix_iload 0 2),
  (2, ix_bin (fun x y => x >>> (y &&& 31)) 3),
  (3, ix_push (vi 1) 4),
  (4, ix_bin (fun x y => x &&& y) 5),
  (5, ix_if (fun x => x = 0) 8 12),
  (8, ix_push (vi 1) 9),
  (9, ix_goto 13),
  (12, ix_push (vi 0) 13),
  (13, ix_zret)]
set_option maxRecDepth 20000 in
theorem a_X2_isFree (l : Launch) : ix_AllS l cX2_isFree 2 RX2 1 (some .boolean) o_X2_isFree :=
  .cons (ix_s_iload_n dX2_isFree_0 rfl) <|
  .cons (ix_s_iload_n dX2_isFree_1 rfl) <|
  .cons (ix_s_ishr dX2_isFree_2) <|
  .cons (ix_s_iconst dX2_isFree_3 (by decide +kernel)) <|
  .cons (ix_s_iand dX2_isFree_4) <|
  .cons (ix_s_if_ne dX2_isFree_5 (by decide)) <|
  .cons (ix_s_iconst dX2_isFree_8 (by decide +kernel)) <|
  .cons (ix_s_goto dX2_isFree_9 (by decide)) <|
  .cons (ix_s_iconst dX2_isFree_12 (by decide +kernel)) <|
  .cons (ix_s_zret dX2_isFree_13 rfl) <| .nil
theorem e_X2_isFree_0 (Q : ix_R → Prop) (ls : ix_L) (st : List ix_V) (μ : ix_M) : ix_Ev o_X2_isFree Q (0, ls, st, μ) = ix_iload 1 1 (ix_Ev o_X2_isFree Q) Q ls st μ := ix_Ev.eq (a_X2_isFree launch0) rfl ls st μ
theorem e_X2_isFree_1 (Q : ix_R → Prop) (ls : ix_L) (st : List ix_V) (μ : ix_M) : ix_Ev o_X2_isFree Q (1, ls, st, μ) = ix_iload 0 2 (ix_Ev o_X2_isFree Q) Q ls st μ := ix_Ev.eq (a_X2_isFree launch0) rfl ls st μ
theorem e_X2_isFree_2 (Q : ix_R → Prop) (ls : ix_L) (st : List ix_V) (μ : ix_M) : ix_Ev o_X2_isFree Q (2, ls, st, μ) = ix_bin (fun x y => x >>> (y &&& 31)) 3 (ix_Ev o_X2_isFree Q) Q ls st μ := ix_Ev.eq (a_X2_isFree launch0) rfl ls st μ
theorem e_X2_isFree_3 (Q : ix_R → Prop) (ls : ix_L) (st : List ix_V) (μ : ix_M) : ix_Ev o_X2_isFree Q (3, ls, st, μ) = ix_push (vi 1) 4 (ix_Ev o_X2_isFree Q) Q ls st μ := ix_Ev.eq (a_X2_isFree launch0) rfl ls st μ
theorem e_X2_isFree_4 (Q : ix_R → Prop) (ls : ix_L) (st : List ix_V) (μ : ix_M) : ix_Ev o_X2_isFree Q (4, ls, st, μ) = ix_bin (fun x y => x &&& y) 5 (ix_Ev o_X2_isFree Q) Q ls st μ := ix_Ev.eq (a_X2_isFree launch0) rfl ls st μ
theorem e_X2_isFree_5 (Q : ix_R → Prop) (ls : ix_L) (st : List ix_V) (μ : ix_M) : ix_Ev o_X2_isFree Q (5, ls, st, μ) = ix_if (fun x => x = 0) 8 12 (ix_Ev o_X2_isFree Q) Q ls st μ := ix_Ev.eq (a_X2_isFree launch0) rfl ls st μ
theorem e_X2_isFree_8 (Q : ix_R → Prop) (ls : ix_L) (st : List ix_V) (μ : ix_M) : ix_Ev o_X2_isFree Q (8, ls, st, μ) = ix_push (vi 1) 9 (ix_Ev o_X2_isFree Q) Q ls st μ := ix_Ev.eq (a_X2_isFree launch0) rfl ls st μ
theorem e_X2_isFree_9 (Q : ix_R → Prop) (ls : ix_L) (st : List ix_V) (μ : ix_M) : ix_Ev o_X2_isFree Q (9, ls, st, μ) = ix_goto 13 (ix_Ev o_X2_isFree Q) Q ls st μ := ix_Ev.eq (a_X2_isFree launch0) rfl ls st μ
theorem e_X2_isFree_12 (Q : ix_R → Prop) (ls : ix_L) (st : List ix_V) (μ : ix_M) : ix_Ev o_X2_isFree Q (12, ls, st, μ) = ix_push (vi 0) 13 (ix_Ev o_X2_isFree Q) Q ls st μ := ix_Ev.eq (a_X2_isFree launch0) rfl ls st μ
theorem e_X2_isFree_13 (Q : ix_R → Prop) (ls : ix_L) (st : List ix_V) (μ : ix_M) : ix_Ev o_X2_isFree Q (13, ls, st, μ) = ix_zret (ix_Ev o_X2_isFree Q) Q ls st μ := ix_Ev.eq (a_X2_isFree launch0) rfl ls st μ
theorem r_X2_isFree (b : Int32) (t : Int32) (μ : ix_M) (Q : ix_R → Prop) (hT : T_X2_isFree (b, t) μ Q) : ix_Ev o_X2_isFree Q (0, [some (vi b), some (vi t)], [], μ) := by
  simp (decide := true) only [e_X2_isFree_0, e_X2_isFree_1, e_X2_isFree_2, e_X2_isFree_3, e_X2_isFree_4, e_X2_isFree_5, e_X2_isFree_8, e_X2_isFree_9, e_X2_isFree_12, e_X2_isFree_13, vi, vl, vr, ix_push, ix_iload, ix_lload, ix_aload, ix_istore, ix_astore, ix_iinc, ix_bin, ix_div, ix_un, ix_i2l, ix_l2i, ix_lbin, ix_lsh, ix_lcmp, ix_dup, ix_dup2, ix_pop, ix_if, ix_cmp, ix_goto, ix_switch, ix_sw, ix_iret, ix_zret, ix_vret, ix_aret, ix_geti, ix_getr, ix_puti, ix_putz, ix_puts, ix_gets, ix_iald, ix_iast, ix_alen, ix_aald, ix_gval, ix_gcod, ix_bald, ix_blen, ix_sald, ix_nret, ix_math2, ix_math1, ix_acopy, Nat.add_assoc, Int32.reduceLT, Int32.reduceLE, Int32.reduceToNatClampNeg, Int32.reduceSub, Int32.reduceAdd, Nat.reduceAdd, Nat.reduceLeDiff, true_or, or_true, or_false, false_or, not_false_eq_true, not_true_eq_false, false_implies, true_implies, implies_true, and_self, mB_0, mB_01, Classical.not_not, Nat.zero_le, List.getElem?_cons_zero, List.getElem?_cons_succ, List.set_cons_zero, List.set_cons_succ, ix_nl, ix_cs, true_and, and_true, Option.toList_some, Option.toList_none, List.cons_append, List.nil_append]
  simp only [T_X2_isFree, vi, vl, vr] at hT
  repeat' (first | refine And.intro ?_ ?_ | intro _)
  all_goals (first | exact hT | (simp only [*, if_true, if_false, not_true_eq_false, not_false_eq_true, and_true, true_and, and_false, false_and, or_true, true_or, or_false, false_or, and_self, or_self] at hT; exact hT) | (simp only [← Int32.not_lt, Classical.not_not] at *; simp only [*, if_true, if_false, not_true_eq_false, not_false_eq_true, and_true, true_and, and_false, false_and, or_true, true_or, or_false, false_or, and_self, or_self] at hT; exact hT) | (simp_all; done))
theorem k_X2_isFree (l : Launch) : ix_Ct l yX2_isFree cX2_isFree 2 (some .boolean) 1 sh_X2_isFree T_X2_isFree := ix_ct (a_X2_isFree l) rfl (by decide) (fun _ => Nat.le_of_ble_eq_true rfl) (fun x μ Q hok hT => r_X2_isFree x.1 x.2 μ Q  hT)
def mMin (x y : Int32) : Int32 := if y < x then y else x
def mMax (x y : Int32) : Int32 := if x < y then y else x
def T_X2_withBoat : Nat × Int32 × Int32 × Int32 → ix_M → (ix_R → Prop) → Prop := fun (_, w, t, b) μ Q => (vp_in w 6 ∧ vp_in b 8 ∧ vp_in (mSlot (w + 1) (mTk t b)) 1792) ∧ Q (some (vi (mMin (μ 129 w.toNatClampNeg) (μ 130 b.toNatClampNeg) + μ 97 (mSlot (w + 1) (mTk t b)).toNatClampNeg)), μ)
theorem l97 : ix_len 97 = 1792 := by decide +kernel
theorem l129 : ix_len 129 = 6 := by decide +kernel
theorem l23 : ix_len 23 = 6 := by decide +kernel
theorem l9 : ix_len 9 = 8 := by decide +kernel
theorem l130 : ix_len 130 = 8 := by decide +kernel
def sh_X2_withBoat (x : Nat × Int32 × Int32 × Int32) : List ix_V := [vr 1 x.1, vi x.2.1, vi x.2.2.1, vi x.2.2.2]
theorem mo_X2_withBoat (x : Nat × Int32 × Int32 × Int32) (μ : ix_M) (Q Q' : ix_R → Prop) (h : ∀ r, Q r → Q' r) (hT : T_X2_withBoat x μ Q) : T_X2_withBoat x μ Q' := by
  obtain ⟨a0, a1, a2, a3⟩ := x
  first | exact h _ hT | exact ⟨hT.1, h _ hT.2⟩ | exact fun r hr => h _ (hT r hr) | exact ⟨hT.1, fun r hr => h _ (hT.2 r hr)⟩ | exact ⟨hT.1, hT.2.1, fun r hr => h _ (hT.2.2 r hr)⟩
def oc_X2_withBoat (n : Nat) : ix_Op := fun k _ ls st μ => match st with
  | .inl a3 :: .inl a2 :: .inl a1 :: .inr (.inr (t0, a0)) :: r => t0 = 1 ∧ ix_cs r ≤ 8 ∧ T_X2_withBoat (a0, a1, a2, a3) μ (fun q => k (n, ls, q.1.toList ++ r, q.2))
  | _ => False
theorem oc_X2_withBoat_s {l : Launch} {cc : ByteArray} {nL : Nat} {own : String} {d : Nat} {rt : Option FieldType} {pc n : Nat} (h : ix_S l cc nL own d rt pc (ix_call 4 sh_X2_withBoat T_X2_withBoat n)) : ix_S l cc nL own d rt pc (oc_X2_withBoat n) := by
  refine h.by (fun k Q ls st μ h => ?_) (fun k k' Q ls st μ hk h => ?_)
  · unfold oc_X2_withBoat at h
    split at h
    · rename_i a3 a2 a1 t0 a0 r
      obtain ⟨rfl, h1, h2⟩ := h
      exact ⟨h1, (a0, a1, a2, a3), rfl, _, h2, fun r h => h⟩
    · exact h.elim
  · unfold oc_X2_withBoat at h ⊢
    split at h
    · obtain ⟨rfl, h1, h2⟩ := h
      exact ⟨rfl, h1, mo_X2_withBoat _ _ _ _ (fun q hq => hk _ hq) h2⟩
    · exact h.elim
def o_X2_withBoat : List (Nat × ix_Op) := [
  (0, ix_aload 0 1),
  (1, ix_getr 1 20 (fun _ => 129) 4),
  (4, ix_iload 1 5),
  (5, ix_iald 6),
  (6, ix_aload 0 7),
  (7, ix_getr 1 20 (fun _ => 130) 10),
  (10, ix_iload 3 11),
  (11, ix_iald 12),
  (12, ix_math2 (fun x y => if y < x then y else x) 15),
  (15, ix_aload 0 16),
  (16, ix_getr 1 20 (fun _ => 97) 19),
  (19, ix_iload 1 20),
  (20, ix_push (vi 1) 21),
  (21, ix_bin (fun x y => x + y) 22),
  (22, ix_iload 2 23),
  (23, ix_push (vi 1) 24),
  (24, ix_iload 3 25),
  (25, ix_bin (fun x y => x <<< (y &&& 31)) 26),
  (26, ix_bin (fun x y => x ||| y) 27),
  (27, oc_X2_slot 30),
  (30, ix_iald 31),
  (31, ix_bin (fun x y => x + y) 32),
  (32, ix_iret)]
set_option maxRecDepth 20000 in
theorem a_X2_withBoat (l : Launch) : ix_AllS l cX2_withBoat 4 RX2 2 (some .int) o_X2_withBoat :=
  .cons (ix_s_aload_n dX2_withBoat_0 rfl) <|
  .cons (ix_s_getr (j := 1) tu_X2 rfl (by decide) (by decide) tw_220 rfl ts_1_1_r dX2_withBoat_1) <|
  .cons (ix_s_iload_n dX2_withBoat_4 rfl) <|
  .cons (ix_s_iald dX2_withBoat_5) <|
  .cons (ix_s_aload_n dX2_withBoat_6 rfl) <|
  .cons (ix_s_getr (j := 2) tu_X2 rfl (by decide) (by decide) tw_221 rfl ts_1_2_r dX2_withBoat_7) <|
  .cons (ix_s_iload_n dX2_withBoat_10 rfl) <|
  .cons (ix_s_iald dX2_withBoat_11) <|
  .cons (ix_s_mmin tw_711 tw_328 tw_7 tw_329 (by decide) dX2_withBoat_12) <|
  .cons (ix_s_aload_n dX2_withBoat_15 rfl) <|
  .cons (ix_s_getr (j := 0) tu_X2 rfl (by decide) (by decide) tw_219 rfl ts_1_0_r dX2_withBoat_16) <|
  .cons (ix_s_iload_n dX2_withBoat_19 rfl) <|
  .cons (ix_s_iconst dX2_withBoat_20 (by decide +kernel)) <|
  .cons (ix_s_iadd dX2_withBoat_21) <|
  .cons (ix_s_iload_n dX2_withBoat_22 rfl) <|
  .cons (ix_s_iconst dX2_withBoat_23 (by decide +kernel)) <|
  .cons (ix_s_iload_n dX2_withBoat_24 rfl) <|
  .cons (ix_s_ishl dX2_withBoat_25) <|
  .cons (ix_s_ior dX2_withBoat_26) <|
  .cons (oc_X2_slot_s (ix_s_calls (k_X2_slot l) (by decide) (by decide) tw_699 tw_10 tw_697 tw_698 ⟨by decide, by decide, by decide +kernel⟩ (fun _ => rfl) dX2_withBoat_27)) <|
  .cons (ix_s_iald dX2_withBoat_30) <|
  .cons (ix_s_iadd dX2_withBoat_31) <|
  .cons (ix_s_iret dX2_withBoat_32 rfl) <| .nil
theorem e_X2_withBoat_0 (Q : ix_R → Prop) (ls : ix_L) (st : List ix_V) (μ : ix_M) : ix_Ev o_X2_withBoat Q (0, ls, st, μ) = ix_aload 0 1 (ix_Ev o_X2_withBoat Q) Q ls st μ := ix_Ev.eq (a_X2_withBoat launch0) rfl ls st μ
theorem e_X2_withBoat_1 (Q : ix_R → Prop) (ls : ix_L) (st : List ix_V) (μ : ix_M) : ix_Ev o_X2_withBoat Q (1, ls, st, μ) = ix_getr 1 20 (fun _ => 129) 4 (ix_Ev o_X2_withBoat Q) Q ls st μ := ix_Ev.eq (a_X2_withBoat launch0) rfl ls st μ
theorem e_X2_withBoat_4 (Q : ix_R → Prop) (ls : ix_L) (st : List ix_V) (μ : ix_M) : ix_Ev o_X2_withBoat Q (4, ls, st, μ) = ix_iload 1 5 (ix_Ev o_X2_withBoat Q) Q ls st μ := ix_Ev.eq (a_X2_withBoat launch0) rfl ls st μ
theorem e_X2_withBoat_5 (Q : ix_R → Prop) (ls : ix_L) (st : List ix_V) (μ : ix_M) : ix_Ev o_X2_withBoat Q (5, ls, st, μ) = ix_iald 6 (ix_Ev o_X2_withBoat Q) Q ls st μ := ix_Ev.eq (a_X2_withBoat launch0) rfl ls st μ
theorem e_X2_withBoat_6 (Q : ix_R → Prop) (ls : ix_L) (st : List ix_V) (μ : ix_M) : ix_Ev o_X2_withBoat Q (6, ls, st, μ) = ix_aload 0 7 (ix_Ev o_X2_withBoat Q) Q ls st μ := ix_Ev.eq (a_X2_withBoat launch0) rfl ls st μ
theorem e_X2_withBoat_7 (Q : ix_R → Prop) (ls : ix_L) (st : List ix_V) (μ : ix_M) : ix_Ev o_X2_withBoat Q (7, ls, st, μ) = ix_getr 1 20 (fun _ => 130) 10 (ix_Ev o_X2_withBoat Q) Q ls st μ := ix_Ev.eq (a_X2_withBoat launch0) rfl ls st μ
theorem e_X2_withBoat_10 (Q : ix_R → Prop) (ls : ix_L) (st : List ix_V) (μ : ix_M) : ix_Ev o_X2_withBoat Q (10, ls, st, μ) = ix_iload 3 11 (ix_Ev o_X2_withBoat Q) Q ls st μ := ix_Ev.eq (a_X2_withBoat launch0) rfl ls st μ
theorem e_X2_withBoat_11 (Q : ix_R → Prop) (ls : ix_L) (st : List ix_V) (μ : ix_M) : ix_Ev o_X2_withBoat Q (11, ls, st, μ) = ix_iald 12 (ix_Ev o_X2_withBoat Q) Q ls st μ := ix_Ev.eq (a_X2_withBoat launch0) rfl ls st μ
theorem e_X2_withBoat_12 (Q : ix_R → Prop) (ls : ix_L) (st : List ix_V) (μ : ix_M) : ix_Ev o_X2_withBoat Q (12, ls, st, μ) = ix_math2 (fun x y => if y < x then y else x) 15 (ix_Ev o_X2_withBoat Q) Q ls st μ := ix_Ev.eq (a_X2_withBoat launch0) rfl ls st μ
theorem e_X2_withBoat_15 (Q : ix_R → Prop) (ls : ix_L) (st : List ix_V) (μ : ix_M) : ix_Ev o_X2_withBoat Q (15, ls, st, μ) = ix_aload 0 16 (ix_Ev o_X2_withBoat Q) Q ls st μ := ix_Ev.eq (a_X2_withBoat launch0) rfl ls st μ
theorem e_X2_withBoat_16 (Q : ix_R → Prop) (ls : ix_L) (st : List ix_V) (μ : ix_M) : ix_Ev o_X2_withBoat Q (16, ls, st, μ) = ix_getr 1 20 (fun _ => 97) 19 (ix_Ev o_X2_withBoat Q) Q ls st μ := ix_Ev.eq (a_X2_withBoat launch0) rfl ls st μ
theorem e_X2_withBoat_19 (Q : ix_R → Prop) (ls : ix_L) (st : List ix_V) (μ : ix_M) : ix_Ev o_X2_withBoat Q (19, ls, st, μ) = ix_iload 1 20 (ix_Ev o_X2_withBoat Q) Q ls st μ := ix_Ev.eq (a_X2_withBoat launch0) rfl ls st μ
theorem e_X2_withBoat_20 (Q : ix_R → Prop) (ls : ix_L) (st : List ix_V) (μ : ix_M) : ix_Ev o_X2_withBoat Q (20, ls, st, μ) = ix_push (vi 1) 21 (ix_Ev o_X2_withBoat Q) Q ls st μ := ix_Ev.eq (a_X2_withBoat launch0) rfl ls st μ
theorem e_X2_withBoat_21 (Q : ix_R → Prop) (ls : ix_L) (st : List ix_V) (μ : ix_M) : ix_Ev o_X2_withBoat Q (21, ls, st, μ) = ix_bin (fun x y => x + y) 22 (ix_Ev o_X2_withBoat Q) Q ls st μ := ix_Ev.eq (a_X2_withBoat launch0) rfl ls st μ
theorem e_X2_withBoat_22 (Q : ix_R → Prop) (ls : ix_L) (st : List ix_V) (μ : ix_M) : ix_Ev o_X2_withBoat Q (22, ls, st, μ) = ix_iload 2 23 (ix_Ev o_X2_withBoat Q) Q ls st μ := ix_Ev.eq (a_X2_withBoat launch0) rfl ls st μ
theorem e_X2_withBoat_23 (Q : ix_R → Prop) (ls : ix_L) (st : List ix_V) (μ : ix_M) : ix_Ev o_X2_withBoat Q (23, ls, st, μ) = ix_push (vi 1) 24 (ix_Ev o_X2_withBoat Q) Q ls st μ := ix_Ev.eq (a_X2_withBoat launch0) rfl ls st μ
theorem e_X2_withBoat_24 (Q : ix_R → Prop) (ls : ix_L) (st : List ix_V) (μ : ix_M) : ix_Ev o_X2_withBoat Q (24, ls, st, μ) = ix_iload 3 25 (ix_Ev o_X2_withBoat Q) Q ls st μ := ix_Ev.eq (a_X2_withBoat launch0) rfl ls st μ
theorem e_X2_withBoat_25 (Q : ix_R → Prop) (ls : ix_L) (st : List ix_V) (μ : ix_M) : ix_Ev o_X2_withBoat Q (25, ls, st, μ) = ix_bin (fun x y => x <<< (y &&& 31)) 26 (ix_Ev o_X2_withBoat Q) Q ls st μ := ix_Ev.eq (a_X2_withBoat launch0) rfl ls st μ
theorem e_X2_withBoat_26 (Q : ix_R → Prop) (ls : ix_L) (st : List ix_V) (μ : ix_M) : ix_Ev o_X2_withBoat Q (26, ls, st, μ) = ix_bin (fun x y => x ||| y) 27 (ix_Ev o_X2_withBoat Q) Q ls st μ := ix_Ev.eq (a_X2_withBoat launch0) rfl ls st μ
theorem e_X2_withBoat_27 (Q : ix_R → Prop) (ls : ix_L) (st : List ix_V) (μ : ix_M) : ix_Ev o_X2_withBoat Q (27, ls, st, μ) = oc_X2_slot 30 (ix_Ev o_X2_withBoat Q) Q ls st μ := ix_Ev.eq (a_X2_withBoat launch0) rfl ls st μ
theorem e_X2_withBoat_30 (Q : ix_R → Prop) (ls : ix_L) (st : List ix_V) (μ : ix_M) : ix_Ev o_X2_withBoat Q (30, ls, st, μ) = ix_iald 31 (ix_Ev o_X2_withBoat Q) Q ls st μ := ix_Ev.eq (a_X2_withBoat launch0) rfl ls st μ
theorem e_X2_withBoat_31 (Q : ix_R → Prop) (ls : ix_L) (st : List ix_V) (μ : ix_M) : ix_Ev o_X2_withBoat Q (31, ls, st, μ) = ix_bin (fun x y => x + y) 32 (ix_Ev o_X2_withBoat Q) Q ls st μ := ix_Ev.eq (a_X2_withBoat launch0) rfl ls st μ
theorem e_X2_withBoat_32 (Q : ix_R → Prop) (ls : ix_L) (st : List ix_V) (μ : ix_M) : ix_Ev o_X2_withBoat Q (32, ls, st, μ) = ix_iret (ix_Ev o_X2_withBoat Q) Q ls st μ := ix_Ev.eq (a_X2_withBoat launch0) rfl ls st μ
theorem r_X2_withBoat (o : Nat) (w : Int32) (t : Int32) (b : Int32) (μ : ix_M) (Q : ix_R → Prop) (ok_o : o < ix_N ∧ ix_tag o = 1) (hT : T_X2_withBoat (o, w, t, b) μ Q) : ix_Ev o_X2_withBoat Q (0, [some (vr 1 o), some (vi w), some (vi t), some (vi b)], [], μ) := by
  obtain ⟨⟨h1, h2, h3⟩, hT⟩ := hT
  unfold mTk at h3 hT
  simp (decide := true) only [e_X2_withBoat_0, e_X2_withBoat_1, e_X2_withBoat_4, e_X2_withBoat_5, e_X2_withBoat_6, e_X2_withBoat_7, e_X2_withBoat_10, e_X2_withBoat_11, e_X2_withBoat_12, e_X2_withBoat_15, e_X2_withBoat_16, e_X2_withBoat_19, e_X2_withBoat_20, e_X2_withBoat_21, e_X2_withBoat_22, e_X2_withBoat_23, e_X2_withBoat_24, e_X2_withBoat_25, e_X2_withBoat_26, e_X2_withBoat_27, e_X2_withBoat_30, e_X2_withBoat_31, e_X2_withBoat_32, vi, vl, vr, oc_X2_slot, T_X2_slot, ix_push, ix_iload, ix_lload, ix_aload, ix_istore, ix_astore, ix_iinc, ix_bin, ix_div, ix_un, ix_i2l, ix_l2i, ix_lbin, ix_lsh, ix_lcmp, ix_dup, ix_dup2, ix_pop, ix_if, ix_cmp, ix_goto, ix_switch, ix_sw, ix_iret, ix_zret, ix_vret, ix_aret, ix_geti, ix_getr, ix_puti, ix_putz, ix_puts, ix_gets, ix_iald, ix_iast, ix_alen, ix_aald, ix_gval, ix_gcod, ix_bald, ix_blen, ix_sald, ix_nret, ix_math2, ix_math1, ix_acopy, Nat.add_assoc, Int32.reduceLT, Int32.reduceLE, Int32.reduceToNatClampNeg, Int32.reduceSub, Int32.reduceAdd, Nat.reduceAdd, Nat.reduceLeDiff, true_or, or_true, or_false, false_or, not_false_eq_true, not_true_eq_false, false_implies, true_implies, implies_true, and_self, mB_0, mB_01, Classical.not_not, Nat.zero_le, List.getElem?_cons_zero, List.getElem?_cons_succ, List.set_cons_zero, List.set_cons_succ, ix_nl, ix_cs, true_and, and_true, Option.toList_some, Option.toList_none, List.cons_append, List.nil_append, l97, l129, l130, h1, h2, h3]
  exact hT
theorem k_X2_withBoat (l : Launch) : ix_Ct l yX2_withBoat cX2_withBoat 4 (some .int) 2 sh_X2_withBoat T_X2_withBoat := ix_ct (a_X2_withBoat l) rfl (by decide) (fun _ => Nat.le_of_ble_eq_true rfl) (fun x μ Q hok hT => r_X2_withBoat x.1 x.2.1 x.2.2.1 x.2.2.2 μ Q (ix_ok_at (hok (vr 1 x.1) (by simp [sh_X2_withBoat])) (by decide) (by decide)) hT)
def mFrom (sv : Nat → Int32) (wa : Int32) (ba : Nat → Int32) (t : Nat) (n : Nat) : Int32 := match n with
  | 0 => sv t
  | n + 1 => if fr t n = true then mMax (mFrom sv wa ba t n) (mMin wa (ba n) + sv (t + 2 ^ n)) else mFrom sv wa ba t n
def T_X2_mostFrom : Nat × Int32 × Int32 → ix_M → (ix_R → Prop) → Prop := fun (_, w, t) μ Q => ∃ (W T N : Nat), w = nI W ∧ W < 6 ∧ t = nI T ∧ N ≤ 8 ∧ T < 2 ^ N ∧ μ 96 3 = nI N ∧ Q (some (vi (mFrom (fun x => μ 97 (256 * (W + 1) + x)) (μ 129 W) (μ 130) T N)), μ)
def sh_X2_mostFrom (x : Nat × Int32 × Int32) : List ix_V := [vr 1 x.1, vi x.2.1, vi x.2.2]
theorem mo_X2_mostFrom (x : Nat × Int32 × Int32) (μ : ix_M) (Q Q' : ix_R → Prop) (h : ∀ r, Q r → Q' r) (hT : T_X2_mostFrom x μ Q) : T_X2_mostFrom x μ Q' := by
  obtain ⟨a0, a1, a2⟩ := x
  (obtain ⟨W, T, N, h1, h2, h3, h4, h5, h6, h7⟩ := hT; exact ⟨W, T, N, h1, h2, h3, h4, h5, h6, h _ h7⟩)
def oc_X2_mostFrom (n : Nat) : ix_Op := fun k _ ls st μ => match st with
  | .inl a2 :: .inl a1 :: .inr (.inr (t0, a0)) :: r => t0 = 1 ∧ ix_cs r ≤ 8 ∧ T_X2_mostFrom (a0, a1, a2) μ (fun q => k (n, ls, q.1.toList ++ r, q.2))
  | _ => False
theorem oc_X2_mostFrom_s {l : Launch} {cc : ByteArray} {nL : Nat} {own : String} {d : Nat} {rt : Option FieldType} {pc n : Nat} (h : ix_S l cc nL own d rt pc (ix_call 3 sh_X2_mostFrom T_X2_mostFrom n)) : ix_S l cc nL own d rt pc (oc_X2_mostFrom n) := by
  refine h.by (fun k Q ls st μ h => ?_) (fun k k' Q ls st μ hk h => ?_)
  · unfold oc_X2_mostFrom at h
    split at h
    · rename_i a2 a1 t0 a0 r
      obtain ⟨rfl, h1, h2⟩ := h
      exact ⟨h1, (a0, a1, a2), rfl, _, h2, fun r h => h⟩
    · exact h.elim
  · unfold oc_X2_mostFrom at h ⊢
    split at h
    · obtain ⟨rfl, h1, h2⟩ := h
      exact ⟨rfl, h1, mo_X2_mostFrom _ _ _ _ (fun q hq => hk _ hq) h2⟩
    · exact h.elim
def o_X2_mostFrom : List (Nat × ix_Op) := [
  (0, ix_aload 0 1),
  (1, ix_getr 1 20 (fun _ => 97) 4),
  (4, ix_iload 1 5),
  (5, ix_push (vi 1) 6),
  (6, ix_bin (fun x y => x + y) 7),
  (7, ix_iload 2 8),
  (8, oc_X2_slot 11),
  (11, ix_iald 12),
  (12, ix_istore 3 13),
  (13, ix_push (vi 0) 14),
  (14, ix_istore 4 16),
  (16, ix_iload 4 18),
  (18, ix_aload 0 19),
  (19, ix_geti 1 3 22),
  (22, ix_cmp (fun x y => y ≤ x) 53 25),
  (25, ix_iload 4 27),
  (27, ix_iload 2 28),
  (28, oc_X2_isFree 31),
  (31, ix_if (fun x => x = 0) 47 34),
  (34, ix_iload 3 35),
  (35, ix_aload 0 36),
  (36, ix_iload 1 37),
  (37, ix_iload 2 38),
  (38, ix_iload 4 40),
  (40, oc_X2_withBoat 43),
  (43, ix_math2 (fun x y => if x < y then y else x) 46),
  (46, ix_istore 3 47),
  (47, ix_iinc 4 1 50),
  (50, ix_goto 16),
  (53, ix_iload 3 54),
  (54, ix_iret)]
set_option maxRecDepth 20000 in
theorem a_X2_mostFrom (l : Launch) : ix_AllS l cX2_mostFrom 5 RX2 3 (some .int) o_X2_mostFrom :=
  .cons (ix_s_aload_n dX2_mostFrom_0 rfl) <|
  .cons (ix_s_getr (j := 0) tu_X2 rfl (by decide) (by decide) tw_219 rfl ts_1_0_r dX2_mostFrom_1) <|
  .cons (ix_s_iload_n dX2_mostFrom_4 rfl) <|
  .cons (ix_s_iconst dX2_mostFrom_5 (by decide +kernel)) <|
  .cons (ix_s_iadd dX2_mostFrom_6) <|
  .cons (ix_s_iload_n dX2_mostFrom_7 rfl) <|
  .cons (oc_X2_slot_s (ix_s_calls (k_X2_slot l) (by decide) (by decide) tw_699 tw_10 tw_697 tw_698 ⟨by decide, by decide, by decide +kernel⟩ (fun _ => rfl) dX2_mostFrom_8)) <|
  .cons (ix_s_iald dX2_mostFrom_11) <|
  .cons (ix_s_istore_n dX2_mostFrom_12 rfl (by decide)) <|
  .cons (ix_s_iconst dX2_mostFrom_13 (by decide +kernel)) <|
  .cons (ix_s_istore dX2_mostFrom_14 (by decide)) <|
  .cons (ix_s_iload dX2_mostFrom_16) <|
  .cons (ix_s_aload_n dX2_mostFrom_18 rfl) <|
  .cons (ix_s_geti (j := 3) tu_X2 rfl (by decide) (by decide) tw_222 rfl ts_1_3_i dX2_mostFrom_19) <|
  .cons (ix_s_cmp_ge dX2_mostFrom_22 (by decide)) <|
  .cons (ix_s_iload dX2_mostFrom_25) <|
  .cons (ix_s_iload_n dX2_mostFrom_27 rfl) <|
  .cons (oc_X2_isFree_s (ix_s_calls (k_X2_isFree l) (by decide) (by decide) tw_706 tw_10 tw_704 tw_705 ⟨by decide, by decide, by decide +kernel⟩ (fun _ => rfl) dX2_mostFrom_28)) <|
  .cons (ix_s_if_eq dX2_mostFrom_31 (by decide)) <|
  .cons (ix_s_iload_n dX2_mostFrom_34 rfl) <|
  .cons (ix_s_aload_n dX2_mostFrom_35 rfl) <|
  .cons (ix_s_iload_n dX2_mostFrom_36 rfl) <|
  .cons (ix_s_iload_n dX2_mostFrom_37 rfl) <|
  .cons (ix_s_iload dX2_mostFrom_38) <|
  .cons (oc_X2_withBoat_s (ix_s_callv (t := 1) (k_X2_withBoat l) (by decide) (by decide) tw_710 tw_10 tw_707 tw_709 tp_13 ⟨by decide, by decide, by decide +kernel⟩ (by decide) rfl rfl (fun _ => ⟨_, _, rfl, rfl⟩) dX2_mostFrom_40)) <|
  .cons (ix_s_mmax tw_712 tw_103 tw_7 tw_104 (by decide) dX2_mostFrom_43) <|
  .cons (ix_s_istore_n dX2_mostFrom_46 rfl (by decide)) <|
  .cons (ix_s_iinc dX2_mostFrom_47 (by decide +kernel) (by decide)) <|
  .cons (ix_s_goto dX2_mostFrom_50 (by decide)) <|
  .cons (ix_s_iload_n dX2_mostFrom_53 rfl) <|
  .cons (ix_s_iret dX2_mostFrom_54 rfl) <| .nil
theorem e_X2_mostFrom_0 (Q : ix_R → Prop) (ls : ix_L) (st : List ix_V) (μ : ix_M) : ix_Ev o_X2_mostFrom Q (0, ls, st, μ) = ix_aload 0 1 (ix_Ev o_X2_mostFrom Q) Q ls st μ := ix_Ev.eq (a_X2_mostFrom launch0) rfl ls st μ
theorem e_X2_mostFrom_1 (Q : ix_R → Prop) (ls : ix_L) (st : List ix_V) (μ : ix_M) : ix_Ev o_X2_mostFrom Q (1, ls, st, μ) = ix_getr 1 20 (fun _ => 97) 4 (ix_Ev o_X2_mostFrom Q) Q ls st μ := ix_Ev.eq (a_X2_mostFrom launch0) rfl ls st μ
theorem e_X2_mostFrom_4 (Q : ix_R → Prop) (ls : ix_L) (st : List ix_V) (μ : ix_M) : ix_Ev o_X2_mostFrom Q (4, ls, st, μ) = ix_iload 1 5 (ix_Ev o_X2_mostFrom Q) Q ls st μ := ix_Ev.eq (a_X2_mostFrom launch0) rfl ls st μ
theorem e_X2_mostFrom_5 (Q : ix_R → Prop) (ls : ix_L) (st : List ix_V) (μ : ix_M) : ix_Ev o_X2_mostFrom Q (5, ls, st, μ) = ix_push (vi 1) 6 (ix_Ev o_X2_mostFrom Q) Q ls st μ := ix_Ev.eq (a_X2_mostFrom launch0) rfl ls st μ
theorem e_X2_mostFrom_6 (Q : ix_R → Prop) (ls : ix_L) (st : List ix_V) (μ : ix_M) : ix_Ev o_X2_mostFrom Q (6, ls, st, μ) = ix_bin (fun x y => x + y) 7 (ix_Ev o_X2_mostFrom Q) Q ls st μ := ix_Ev.eq (a_X2_mostFrom launch0) rfl ls st μ
theorem e_X2_mostFrom_7 (Q : ix_R → Prop) (ls : ix_L) (st : List ix_V) (μ : ix_M) : ix_Ev o_X2_mostFrom Q (7, ls, st, μ) = ix_iload 2 8 (ix_Ev o_X2_mostFrom Q) Q ls st μ := ix_Ev.eq (a_X2_mostFrom launch0) rfl ls st μ
theorem e_X2_mostFrom_8 (Q : ix_R → Prop) (ls : ix_L) (st : List ix_V) (μ : ix_M) : ix_Ev o_X2_mostFrom Q (8, ls, st, μ) = oc_X2_slot 11 (ix_Ev o_X2_mostFrom Q) Q ls st μ := ix_Ev.eq (a_X2_mostFrom launch0) rfl ls st μ
theorem e_X2_mostFrom_11 (Q : ix_R → Prop) (ls : ix_L) (st : List ix_V) (μ : ix_M) : ix_Ev o_X2_mostFrom Q (11, ls, st, μ) = ix_iald 12 (ix_Ev o_X2_mostFrom Q) Q ls st μ := ix_Ev.eq (a_X2_mostFrom launch0) rfl ls st μ
theorem e_X2_mostFrom_12 (Q : ix_R → Prop) (ls : ix_L) (st : List ix_V) (μ : ix_M) : ix_Ev o_X2_mostFrom Q (12, ls, st, μ) = ix_istore 3 13 (ix_Ev o_X2_mostFrom Q) Q ls st μ := ix_Ev.eq (a_X2_mostFrom launch0) rfl ls st μ
theorem e_X2_mostFrom_13 (Q : ix_R → Prop) (ls : ix_L) (st : List ix_V) (μ : ix_M) : ix_Ev o_X2_mostFrom Q (13, ls, st, μ) = ix_push (vi 0) 14 (ix_Ev o_X2_mostFrom Q) Q ls st μ := ix_Ev.eq (a_X2_mostFrom launch0) rfl ls st μ
theorem e_X2_mostFrom_14 (Q : ix_R → Prop) (ls : ix_L) (st : List ix_V) (μ : ix_M) : ix_Ev o_X2_mostFrom Q (14, ls, st, μ) = ix_istore 4 16 (ix_Ev o_X2_mostFrom Q) Q ls st μ := ix_Ev.eq (a_X2_mostFrom launch0) rfl ls st μ
theorem e_X2_mostFrom_16 (Q : ix_R → Prop) (ls : ix_L) (st : List ix_V) (μ : ix_M) : ix_Ev o_X2_mostFrom Q (16, ls, st, μ) = ix_iload 4 18 (ix_Ev o_X2_mostFrom Q) Q ls st μ := ix_Ev.eq (a_X2_mostFrom launch0) rfl ls st μ
theorem e_X2_mostFrom_18 (Q : ix_R → Prop) (ls : ix_L) (st : List ix_V) (μ : ix_M) : ix_Ev o_X2_mostFrom Q (18, ls, st, μ) = ix_aload 0 19 (ix_Ev o_X2_mostFrom Q) Q ls st μ := ix_Ev.eq (a_X2_mostFrom launch0) rfl ls st μ
theorem e_X2_mostFrom_19 (Q : ix_R → Prop) (ls : ix_L) (st : List ix_V) (μ : ix_M) : ix_Ev o_X2_mostFrom Q (19, ls, st, μ) = ix_geti 1 3 22 (ix_Ev o_X2_mostFrom Q) Q ls st μ := ix_Ev.eq (a_X2_mostFrom launch0) rfl ls st μ
theorem e_X2_mostFrom_22 (Q : ix_R → Prop) (ls : ix_L) (st : List ix_V) (μ : ix_M) : ix_Ev o_X2_mostFrom Q (22, ls, st, μ) = ix_cmp (fun x y => y ≤ x) 53 25 (ix_Ev o_X2_mostFrom Q) Q ls st μ := ix_Ev.eq (a_X2_mostFrom launch0) rfl ls st μ
theorem e_X2_mostFrom_25 (Q : ix_R → Prop) (ls : ix_L) (st : List ix_V) (μ : ix_M) : ix_Ev o_X2_mostFrom Q (25, ls, st, μ) = ix_iload 4 27 (ix_Ev o_X2_mostFrom Q) Q ls st μ := ix_Ev.eq (a_X2_mostFrom launch0) rfl ls st μ
theorem e_X2_mostFrom_27 (Q : ix_R → Prop) (ls : ix_L) (st : List ix_V) (μ : ix_M) : ix_Ev o_X2_mostFrom Q (27, ls, st, μ) = ix_iload 2 28 (ix_Ev o_X2_mostFrom Q) Q ls st μ := ix_Ev.eq (a_X2_mostFrom launch0) rfl ls st μ
theorem e_X2_mostFrom_28 (Q : ix_R → Prop) (ls : ix_L) (st : List ix_V) (μ : ix_M) : ix_Ev o_X2_mostFrom Q (28, ls, st, μ) = oc_X2_isFree 31 (ix_Ev o_X2_mostFrom Q) Q ls st μ := ix_Ev.eq (a_X2_mostFrom launch0) rfl ls st μ
theorem e_X2_mostFrom_31 (Q : ix_R → Prop) (ls : ix_L) (st : List ix_V) (μ : ix_M) : ix_Ev o_X2_mostFrom Q (31, ls, st, μ) = ix_if (fun x => x = 0) 47 34 (ix_Ev o_X2_mostFrom Q) Q ls st μ := ix_Ev.eq (a_X2_mostFrom launch0) rfl ls st μ
theorem e_X2_mostFrom_34 (Q : ix_R → Prop) (ls : ix_L) (st : List ix_V) (μ : ix_M) : ix_Ev o_X2_mostFrom Q (34, ls, st, μ) = ix_iload 3 35 (ix_Ev o_X2_mostFrom Q) Q ls st μ := ix_Ev.eq (a_X2_mostFrom launch0) rfl ls st μ
theorem e_X2_mostFrom_35 (Q : ix_R → Prop) (ls : ix_L) (st : List ix_V) (μ : ix_M) : ix_Ev o_X2_mostFrom Q (35, ls, st, μ) = ix_aload 0 36 (ix_Ev o_X2_mostFrom Q) Q ls st μ := ix_Ev.eq (a_X2_mostFrom launch0) rfl ls st μ
theorem e_X2_mostFrom_36 (Q : ix_R → Prop) (ls : ix_L) (st : List ix_V) (μ : ix_M) : ix_Ev o_X2_mostFrom Q (36, ls, st, μ) = ix_iload 1 37 (ix_Ev o_X2_mostFrom Q) Q ls st μ := ix_Ev.eq (a_X2_mostFrom launch0) rfl ls st μ
theorem e_X2_mostFrom_37 (Q : ix_R → Prop) (ls : ix_L) (st : List ix_V) (μ : ix_M) : ix_Ev o_X2_mostFrom Q (37, ls, st, μ) = ix_iload 2 38 (ix_Ev o_X2_mostFrom Q) Q ls st μ := ix_Ev.eq (a_X2_mostFrom launch0) rfl ls st μ
theorem e_X2_mostFrom_38 (Q : ix_R → Prop) (ls : ix_L) (st : List ix_V) (μ : ix_M) : ix_Ev o_X2_mostFrom Q (38, ls, st, μ) = ix_iload 4 40 (ix_Ev o_X2_mostFrom Q) Q ls st μ := ix_Ev.eq (a_X2_mostFrom launch0) rfl ls st μ
theorem e_X2_mostFrom_40 (Q : ix_R → Prop) (ls : ix_L) (st : List ix_V) (μ : ix_M) : ix_Ev o_X2_mostFrom Q (40, ls, st, μ) = oc_X2_withBoat 43 (ix_Ev o_X2_mostFrom Q) Q ls st μ := ix_Ev.eq (a_X2_mostFrom launch0) rfl ls st μ
theorem e_X2_mostFrom_43 (Q : ix_R → Prop) (ls : ix_L) (st : List ix_V) (μ : ix_M) : ix_Ev o_X2_mostFrom Q (43, ls, st, μ) = ix_math2 (fun x y => if x < y then y else x) 46 (ix_Ev o_X2_mostFrom Q) Q ls st μ := ix_Ev.eq (a_X2_mostFrom launch0) rfl ls st μ
theorem e_X2_mostFrom_46 (Q : ix_R → Prop) (ls : ix_L) (st : List ix_V) (μ : ix_M) : ix_Ev o_X2_mostFrom Q (46, ls, st, μ) = ix_istore 3 47 (ix_Ev o_X2_mostFrom Q) Q ls st μ := ix_Ev.eq (a_X2_mostFrom launch0) rfl ls st μ
theorem e_X2_mostFrom_47 (Q : ix_R → Prop) (ls : ix_L) (st : List ix_V) (μ : ix_M) : ix_Ev o_X2_mostFrom Q (47, ls, st, μ) = ix_iinc 4 1 50 (ix_Ev o_X2_mostFrom Q) Q ls st μ := ix_Ev.eq (a_X2_mostFrom launch0) rfl ls st μ
theorem e_X2_mostFrom_50 (Q : ix_R → Prop) (ls : ix_L) (st : List ix_V) (μ : ix_M) : ix_Ev o_X2_mostFrom Q (50, ls, st, μ) = ix_goto 16 (ix_Ev o_X2_mostFrom Q) Q ls st μ := ix_Ev.eq (a_X2_mostFrom launch0) rfl ls st μ
theorem e_X2_mostFrom_53 (Q : ix_R → Prop) (ls : ix_L) (st : List ix_V) (μ : ix_M) : ix_Ev o_X2_mostFrom Q (53, ls, st, μ) = ix_iload 3 54 (ix_Ev o_X2_mostFrom Q) Q ls st μ := ix_Ev.eq (a_X2_mostFrom launch0) rfl ls st μ
theorem e_X2_mostFrom_54 (Q : ix_R → Prop) (ls : ix_L) (st : List ix_V) (μ : ix_M) : ix_Ev o_X2_mostFrom Q (54, ls, st, μ) = ix_iret (ix_Ev o_X2_mostFrom Q) Q ls st μ := ix_Ev.eq (a_X2_mostFrom launch0) rfl ls st μ
theorem p2le : ∀ n, n ≤ 8 → 2 ^ n ≤ 256 := by decide +kernel
theorem l_X2_mostFrom {W T N : Nat} {μ : ix_M} {Q : ix_R → Prop} (hW : W < 6) (hN : N ≤ 8) (hT : T < 2 ^ N) (hb : μ 96 3 = nI N) (hQ : Q (some (vi (mFrom (fun x => μ 97 (256 * (W + 1) + x)) (μ 129 W) (μ 130) T N)), μ)) : ∀ k i : Nat, i + k = N →
    ix_Ev o_X2_mostFrom Q (16, [some (vr 1 96), some (vi (nI W)), some (vi (nI T)), some (vi (mFrom (fun x => μ 97 (256 * (W + 1) + x)) (μ 129 W) (μ 130) T i)), some (vi (nI i))], [], μ) := by
  have h256 := p2le N hN
  intro k
  induction k with
  | zero =>
    intro i hi
    have hi : i = N := hi
    subst hi
    have hle : nI i ≤ nI i := Int32.le_refl _
    rw [e_X2_mostFrom_16]
    simp (decide := true) only [e_X2_mostFrom_0, e_X2_mostFrom_1, e_X2_mostFrom_4, e_X2_mostFrom_5, e_X2_mostFrom_6, e_X2_mostFrom_7, e_X2_mostFrom_8, e_X2_mostFrom_11, e_X2_mostFrom_12, e_X2_mostFrom_13, e_X2_mostFrom_14, e_X2_mostFrom_18, e_X2_mostFrom_19, e_X2_mostFrom_22, e_X2_mostFrom_25, e_X2_mostFrom_27, e_X2_mostFrom_28, e_X2_mostFrom_31, e_X2_mostFrom_34, e_X2_mostFrom_35, e_X2_mostFrom_36, e_X2_mostFrom_37, e_X2_mostFrom_38, e_X2_mostFrom_40, e_X2_mostFrom_43, e_X2_mostFrom_46, e_X2_mostFrom_47, e_X2_mostFrom_50, e_X2_mostFrom_53, e_X2_mostFrom_54, vi, vl, vr, oc_X2_isFree, T_X2_isFree, oc_X2_slot, T_X2_slot, oc_X2_withBoat, T_X2_withBoat, ix_push, ix_iload, ix_lload, ix_aload, ix_istore, ix_astore, ix_iinc, ix_bin, ix_div, ix_un, ix_i2l, ix_l2i, ix_lbin, ix_lsh, ix_lcmp, ix_dup, ix_dup2, ix_pop, ix_if, ix_cmp, ix_goto, ix_switch, ix_sw, ix_iret, ix_zret, ix_vret, ix_aret, ix_geti, ix_getr, ix_puti, ix_putz, ix_puts, ix_gets, ix_iald, ix_iast, ix_alen, ix_aald, ix_gval, ix_gcod, ix_bald, ix_blen, ix_sald, ix_nret, ix_math2, ix_math1, ix_acopy, Nat.add_assoc, Int32.reduceLT, Int32.reduceLE, Int32.reduceToNatClampNeg, Int32.reduceSub, Int32.reduceAdd, Nat.reduceAdd, Nat.reduceLeDiff, true_or, or_true, or_false, false_or, not_false_eq_true, not_true_eq_false, false_implies, true_implies, implies_true, and_self, mB_0, mB_01, Classical.not_not, Nat.zero_le, List.getElem?_cons_zero, List.getElem?_cons_succ, List.set_cons_zero, List.set_cons_succ, ix_nl, ix_cs, true_and, and_true, Option.toList_some, Option.toList_none, List.cons_append, List.nil_append, hb, hle]
    exact hQ
  | succ k ih =>
    intro i hi
    have hng : ¬ nI N ≤ nI i := nI_ge (by omega) (by omega)
    have hF := mFree_nI (t := T) (b := i) (by omega) (by omega)
    unfold mFree at hF
    have hw1 : nI W + 1 = nI (W + 1) := nI_1 W
    have hi1 : nI i + 1 = nI (i + 1) := nI_1 i
    have hinW : vp_in (nI W) 6 := vp_in_nI hW (by decide)
    have hini : vp_in (nI i) 8 := vp_in_nI (by omega) (by decide)
    have hcW : (nI W).toNatClampNeg = W := nI_clamp (by omega)
    have hci : (nI i).toNatClampNeg = i := nI_clamp (by omega)
    have := ih (i + 1) (by omega)
    rw [e_X2_mostFrom_16]
    by_cases hf : fr T i = true
    · have h2 := fr_lt N hN T hT i (by omega) hf
      have e1 : mSlot (nI (W + 1)) (mTk (nI T) (nI i)) = nI (256 * (W + 1) + (T + 2 ^ i)) := by rw [mTk_nI T (by omega) i (by omega) hf, mSlot_nI (W + 1) (by omega) _ (by omega)]
      have hin2 : vp_in (nI (256 * (W + 1) + (T + 2 ^ i))) 1792 := vp_in_nI (by omega) (by decide)
      have hc2 : (nI (256 * (W + 1) + (T + 2 ^ i))).toNatClampNeg = 256 * (W + 1) + (T + 2 ^ i) := nI_clamp (by omega)
      have hff := hF.mpr hf
      simp (decide := true) only [e_X2_mostFrom_0, e_X2_mostFrom_1, e_X2_mostFrom_4, e_X2_mostFrom_5, e_X2_mostFrom_6, e_X2_mostFrom_7, e_X2_mostFrom_8, e_X2_mostFrom_11, e_X2_mostFrom_12, e_X2_mostFrom_13, e_X2_mostFrom_14, e_X2_mostFrom_18, e_X2_mostFrom_19, e_X2_mostFrom_22, e_X2_mostFrom_25, e_X2_mostFrom_27, e_X2_mostFrom_28, e_X2_mostFrom_31, e_X2_mostFrom_34, e_X2_mostFrom_35, e_X2_mostFrom_36, e_X2_mostFrom_37, e_X2_mostFrom_38, e_X2_mostFrom_40, e_X2_mostFrom_43, e_X2_mostFrom_46, e_X2_mostFrom_47, e_X2_mostFrom_50, e_X2_mostFrom_53, e_X2_mostFrom_54, vi, vl, vr, oc_X2_isFree, T_X2_isFree, oc_X2_slot, T_X2_slot, oc_X2_withBoat, T_X2_withBoat, ix_push, ix_iload, ix_lload, ix_aload, ix_istore, ix_astore, ix_iinc, ix_bin, ix_div, ix_un, ix_i2l, ix_l2i, ix_lbin, ix_lsh, ix_lcmp, ix_dup, ix_dup2, ix_pop, ix_if, ix_cmp, ix_goto, ix_switch, ix_sw, ix_iret, ix_zret, ix_vret, ix_aret, ix_geti, ix_getr, ix_puti, ix_putz, ix_puts, ix_gets, ix_iald, ix_iast, ix_alen, ix_aald, ix_gval, ix_gcod, ix_bald, ix_blen, ix_sald, ix_nret, ix_math2, ix_math1, ix_acopy, Nat.add_assoc, Int32.reduceLT, Int32.reduceLE, Int32.reduceToNatClampNeg, Int32.reduceSub, Int32.reduceAdd, Nat.reduceAdd, Nat.reduceLeDiff, true_or, or_true, or_false, false_or, not_false_eq_true, not_true_eq_false, false_implies, true_implies, implies_true, and_self, mB_0, mB_01, Classical.not_not, Nat.zero_le, List.getElem?_cons_zero, List.getElem?_cons_succ, List.set_cons_zero, List.set_cons_succ, ix_nl, ix_cs, true_and, and_true, Option.toList_some, Option.toList_none, List.cons_append, List.nil_append, hb, hng, hff, hw1, hi1, e1, hin2, hc2, hinW, hini, hcW, hci, if_true]
      simp only [mFrom, if_pos hf, mMax] at this
      exact this
    · have hff : ¬ ((nI T >>> (nI i &&& 31)) &&& 1 = 0) := fun z => hf (hF.mp z)
      simp (decide := true) only [e_X2_mostFrom_0, e_X2_mostFrom_1, e_X2_mostFrom_4, e_X2_mostFrom_5, e_X2_mostFrom_6, e_X2_mostFrom_7, e_X2_mostFrom_8, e_X2_mostFrom_11, e_X2_mostFrom_12, e_X2_mostFrom_13, e_X2_mostFrom_14, e_X2_mostFrom_18, e_X2_mostFrom_19, e_X2_mostFrom_22, e_X2_mostFrom_25, e_X2_mostFrom_27, e_X2_mostFrom_28, e_X2_mostFrom_31, e_X2_mostFrom_34, e_X2_mostFrom_35, e_X2_mostFrom_36, e_X2_mostFrom_37, e_X2_mostFrom_38, e_X2_mostFrom_40, e_X2_mostFrom_43, e_X2_mostFrom_46, e_X2_mostFrom_47, e_X2_mostFrom_50, e_X2_mostFrom_53, e_X2_mostFrom_54, vi, vl, vr, oc_X2_isFree, T_X2_isFree, oc_X2_slot, T_X2_slot, oc_X2_withBoat, T_X2_withBoat, ix_push, ix_iload, ix_lload, ix_aload, ix_istore, ix_astore, ix_iinc, ix_bin, ix_div, ix_un, ix_i2l, ix_l2i, ix_lbin, ix_lsh, ix_lcmp, ix_dup, ix_dup2, ix_pop, ix_if, ix_cmp, ix_goto, ix_switch, ix_sw, ix_iret, ix_zret, ix_vret, ix_aret, ix_geti, ix_getr, ix_puti, ix_putz, ix_puts, ix_gets, ix_iald, ix_iast, ix_alen, ix_aald, ix_gval, ix_gcod, ix_bald, ix_blen, ix_sald, ix_nret, ix_math2, ix_math1, ix_acopy, Nat.add_assoc, Int32.reduceLT, Int32.reduceLE, Int32.reduceToNatClampNeg, Int32.reduceSub, Int32.reduceAdd, Nat.reduceAdd, Nat.reduceLeDiff, true_or, or_true, or_false, false_or, not_false_eq_true, not_true_eq_false, false_implies, true_implies, implies_true, and_self, mB_0, mB_01, Classical.not_not, Nat.zero_le, List.getElem?_cons_zero, List.getElem?_cons_succ, List.set_cons_zero, List.set_cons_succ, ix_nl, ix_cs, true_and, and_true, Option.toList_some, Option.toList_none, List.cons_append, List.nil_append, hb, hng, hff, hi1, if_false]
      simp only [mFrom, if_neg hf] at this
      exact this
theorem r_X2_mostFrom (o : Nat) (w : Int32) (t : Int32) (μ : ix_M) (Q : ix_R → Prop) (ok_o : o < ix_N ∧ ix_tag o = 1) (hT : T_X2_mostFrom (o, w, t) μ Q) : ix_Ev o_X2_mostFrom Q (0, [some (vr 1 o), some (vi w), some (vi t), none, none], [], μ) := by
  obtain rfl := ok_1 o ok_o.1 ok_o.2
  obtain ⟨W, T, N, rfl, hW, rfl, hN, hT, hb, hQ⟩ := hT
  have h256 := p2le N hN
  have hw1 : nI W + 1 = nI (W + 1) := nI_1 W
  have e1 : mSlot (nI (W + 1)) (nI T) = nI (256 * (W + 1) + T) := mSlot_nI (W + 1) (by omega) T (by omega)
  have hin2 : vp_in (nI (256 * (W + 1) + T)) 1792 := vp_in_nI (by omega) (by decide)
  have hc2 : (nI (256 * (W + 1) + T)).toNatClampNeg = 256 * (W + 1) + T := nI_clamp (by omega)
  simp (decide := true) only [e_X2_mostFrom_0, e_X2_mostFrom_1, e_X2_mostFrom_4, e_X2_mostFrom_5, e_X2_mostFrom_6, e_X2_mostFrom_7, e_X2_mostFrom_8, e_X2_mostFrom_11, e_X2_mostFrom_12, e_X2_mostFrom_13, e_X2_mostFrom_14, e_X2_mostFrom_18, e_X2_mostFrom_19, e_X2_mostFrom_22, e_X2_mostFrom_25, e_X2_mostFrom_27, e_X2_mostFrom_28, e_X2_mostFrom_31, e_X2_mostFrom_34, e_X2_mostFrom_35, e_X2_mostFrom_36, e_X2_mostFrom_37, e_X2_mostFrom_38, e_X2_mostFrom_40, e_X2_mostFrom_43, e_X2_mostFrom_46, e_X2_mostFrom_47, e_X2_mostFrom_50, e_X2_mostFrom_53, e_X2_mostFrom_54, vi, vl, vr, oc_X2_isFree, T_X2_isFree, oc_X2_slot, T_X2_slot, oc_X2_withBoat, T_X2_withBoat, ix_push, ix_iload, ix_lload, ix_aload, ix_istore, ix_astore, ix_iinc, ix_bin, ix_div, ix_un, ix_i2l, ix_l2i, ix_lbin, ix_lsh, ix_lcmp, ix_dup, ix_dup2, ix_pop, ix_if, ix_cmp, ix_goto, ix_switch, ix_sw, ix_iret, ix_zret, ix_vret, ix_aret, ix_geti, ix_getr, ix_puti, ix_putz, ix_puts, ix_gets, ix_iald, ix_iast, ix_alen, ix_aald, ix_gval, ix_gcod, ix_bald, ix_blen, ix_sald, ix_nret, ix_math2, ix_math1, ix_acopy, Nat.add_assoc, Int32.reduceLT, Int32.reduceLE, Int32.reduceToNatClampNeg, Int32.reduceSub, Int32.reduceAdd, Nat.reduceAdd, Nat.reduceLeDiff, true_or, or_true, or_false, false_or, not_false_eq_true, not_true_eq_false, false_implies, true_implies, implies_true, and_self, mB_0, mB_01, Classical.not_not, Nat.zero_le, List.getElem?_cons_zero, List.getElem?_cons_succ, List.set_cons_zero, List.set_cons_succ, ix_nl, ix_cs, true_and, and_true, Option.toList_some, Option.toList_none, List.cons_append, List.nil_append, l97, hw1, e1, hin2, hc2]
  exact l_X2_mostFrom hW hN hT hb hQ N 0 (by omega)
theorem k_X2_mostFrom (l : Launch) : ix_Ct l yX2_mostFrom cX2_mostFrom 5 (some .int) 3 sh_X2_mostFrom T_X2_mostFrom := ix_ct (a_X2_mostFrom l) rfl (by decide) (fun _ => Nat.le_of_ble_eq_true rfl) (fun x μ Q hok hT => r_X2_mostFrom x.1 x.2.1 x.2.2 μ Q (ix_ok_at (hok (vr 1 x.1) (by simp [sh_X2_mostFrom])) (by decide) (by decide)) hT)
/-- how much is served by the wearers from 6 - k on -/
def svD (wa ba : Nat → Int32) (n : Nat) (k : Nat) (t : Nat) : Int32 := match k with
  | 0 => 0
  | k + 1 => mFrom (svD wa ba n k) (wa (5 - k)) ba t n
theorem mFrom_cong {sv sv' : Nat → Int32} {wa : Int32} {ba : Nat → Int32} {N t : Nat} (hN : N ≤ 8) (ht : t < 2 ^ N) (h : ∀ x, x < 2 ^ N → sv x = sv' x) : ∀ n, n ≤ N → mFrom sv wa ba t n = mFrom sv' wa ba t n
  | 0, _ => h t ht
  | n + 1, hn => by
    unfold mFrom
    rw [mFrom_cong hN ht h n (by omega)]
    split
    · rename_i hf
      rw [h _ (fr_lt N hN t ht n (by omega) hf)]
    · rfl
def T_X2_fill : Nat × Nat → ix_M → (ix_R → Prop) → Prop := fun (o, st) μ Q => o = 96 ∧ st = 1 ∧ ∃ N : Nat, μ 2 7 = nI N ∧ N ≤ 8 ∧ (∀ t, t < 256 → μ 97 (1536 + t) = 0) ∧ ∀ μ', Fx [96, 97, 129, 130] μ μ' → μ' 96 3 = nI N → (∀ k, k ≤ 6 → ∀ t, t < 2 ^ N → μ' 97 (256 * (6 - k) + t) = svD (μ' 129) (μ' 130) N k t) → (∀ t, t < 256 → μ' 97 (1536 + t) = 0) → (∀ w, w < 6 → μ' 129 w = μ 23 w) → (∀ b, b < 8 → μ' 130 b = μ 9 b) → Q (none, μ')
def sh_X2_fill (x : Nat × Nat) : List ix_V := [vr 1 x.1, vr 5 x.2]
theorem mo_X2_fill (x : Nat × Nat) (μ : ix_M) (Q Q' : ix_R → Prop) (h : ∀ r, Q r → Q' r) (hT : T_X2_fill x μ Q) : T_X2_fill x μ Q' := by
  obtain ⟨a0, a1⟩ := x
  (obtain ⟨h0, h00, N, h1, h2, h3, h4⟩ := hT; exact ⟨h0, h00, N, h1, h2, h3, fun μ' a b c d e f => h _ (h4 μ' a b c d e f)⟩)
def oc_X2_fill (n : Nat) : ix_Op := fun k _ ls st μ => match st with
  | .inr (.inr (t1, a1)) :: .inr (.inr (t0, a0)) :: r => t0 = 1 ∧ t1 = 5 ∧ ix_cs r ≤ 8 ∧ T_X2_fill (a0, a1) μ (fun q => k (n, ls, q.1.toList ++ r, q.2))
  | _ => False
theorem oc_X2_fill_s {l : Launch} {cc : ByteArray} {nL : Nat} {own : String} {d : Nat} {rt : Option FieldType} {pc n : Nat} (h : ix_S l cc nL own d rt pc (ix_call 2 sh_X2_fill T_X2_fill n)) : ix_S l cc nL own d rt pc (oc_X2_fill n) := by
  refine h.by (fun k Q ls st μ h => ?_) (fun k k' Q ls st μ hk h => ?_)
  · unfold oc_X2_fill at h
    split at h
    · rename_i t1 a1 t0 a0 r
      obtain ⟨rfl, rfl, h1, h2⟩ := h
      exact ⟨h1, (a0, a1), rfl, _, h2, fun r h => h⟩
    · exact h.elim
  · unfold oc_X2_fill at h ⊢
    split at h
    · obtain ⟨rfl, rfl, h1, h2⟩ := h
      exact ⟨rfl, rfl, h1, mo_X2_fill _ _ _ _ (fun q hq => hk _ hq) h2⟩
    · exact h.elim
def o_X2_fill : List (Nat × ix_Op) := [
  (0, ix_aload 0 1),
  (1, ix_aload 1 2),
  (2, ix_getr 5 8 (fun k => k + 1) 5),
  (5, ix_geti 8 7 8),
  (8, ix_puti 1 3 11),
  (11, ix_aload 1 12),
  (12, ix_getr 5 20 (fun k => k + 22) 15),
  (15, ix_push (vi 0) 16),
  (16, ix_aload 0 17),
  (17, ix_getr 1 20 (fun _ => 129) 20),
  (20, ix_push (vi 0) 21),
  (21, ix_push (vi 6) 23),
  (23, ix_acopy 26),
  (26, ix_aload 1 27),
  (27, ix_getr 5 8 (fun k => k + 1) 30),
  (30, ix_getr 8 20 (fun k => k + 7) 33),
  (33, ix_push (vi 0) 34),
  (34, ix_aload 0 35),
  (35, ix_getr 1 20 (fun _ => 130) 38),
  (38, ix_push (vi 0) 39),
  (39, ix_push (vi 8) 41),
  (41, ix_acopy 44),
  (44, ix_push (vi 5) 45),
  (45, ix_istore 2 46),
  (46, ix_iload 2 47),
  (47, ix_if (fun x => x < 0) 90 50),
  (50, ix_push (vi 0) 51),
  (51, ix_istore 3 52),
  (52, ix_iload 3 53),
  (53, ix_push (vi 1) 54),
  (54, ix_aload 0 55),
  (55, ix_geti 1 3 58),
  (58, ix_bin (fun x y => x <<< (y &&& 31)) 59),
  (59, ix_cmp (fun x y => y ≤ x) 84 62),
  (62, ix_aload 0 63),
  (63, ix_getr 1 20 (fun _ => 97) 66),
  (66, ix_iload 2 67),
  (67, ix_iload 3 68),
  (68, oc_X2_slot 71),
  (71, ix_aload 0 72),
  (72, ix_iload 2 73),
  (73, ix_iload 3 74),
  (74, oc_X2_mostFrom 77),
  (77, ix_iast 78),
  (78, ix_iinc 3 1 81),
  (81, ix_goto 52),
  (84, ix_iinc 2 (-1) 87),
  (87, ix_goto 46),
  (90, ix_vret)]
set_option maxRecDepth 20000 in
theorem a_X2_fill (l : Launch) : ix_AllS l cX2_fill 4 RX2 4 none o_X2_fill :=
  .cons (ix_s_aload_n dX2_fill_0 rfl) <|
  .cons (ix_s_aload_n dX2_fill_1 rfl) <|
  .cons (ix_s_getr (j := 0) tu_X6 rfl (by decide) (by decide) tw_137 rfl ts_5_0_r dX2_fill_2) <|
  .cons (ix_s_geti (j := 7) tu_X9 rfl (by decide) (by decide) tw_55 rfl ts_8_7_i dX2_fill_5) <|
  .cons (ix_s_puti (j := 3) tu_X2 tyX2_ok nmX2 rfl (by decide) (by decide) tw_222 rfl rfl (by decide +kernel) ts_1_3_p dX2_fill_8) <|
  .cons (ix_s_aload_n dX2_fill_11 rfl) <|
  .cons (ix_s_getr (j := 4) tu_X6 rfl (by decide) (by decide) tw_146 rfl ts_5_4_r dX2_fill_12) <|
  .cons (ix_s_iconst dX2_fill_15 (by decide +kernel)) <|
  .cons (ix_s_aload_n dX2_fill_16 rfl) <|
  .cons (ix_s_getr (j := 1) tu_X2 rfl (by decide) (by decide) tw_220 rfl ts_1_1_r dX2_fill_17) <|
  .cons (ix_s_iconst dX2_fill_20 (by decide +kernel)) <|
  .cons (ix_s_bipush dX2_fill_21 (by decide +kernel)) <|
  .cons (ix_s_acopy tw_696 tw_452 tw_451 tw_14 (by decide) dX2_fill_23) <|
  .cons (ix_s_aload_n dX2_fill_26 rfl) <|
  .cons (ix_s_getr (j := 0) tu_X6 rfl (by decide) (by decide) tw_137 rfl ts_5_0_r dX2_fill_27) <|
  .cons (ix_s_getr (j := 6) tu_X9 rfl (by decide) (by decide) tw_53 rfl ts_8_6_r dX2_fill_30) <|
  .cons (ix_s_iconst dX2_fill_33 (by decide +kernel)) <|
  .cons (ix_s_aload_n dX2_fill_34 rfl) <|
  .cons (ix_s_getr (j := 2) tu_X2 rfl (by decide) (by decide) tw_221 rfl ts_1_2_r dX2_fill_35) <|
  .cons (ix_s_iconst dX2_fill_38 (by decide +kernel)) <|
  .cons (ix_s_bipush dX2_fill_39 (by decide +kernel)) <|
  .cons (ix_s_acopy tw_696 tw_452 tw_451 tw_14 (by decide) dX2_fill_41) <|
  .cons (ix_s_iconst dX2_fill_44 (by decide +kernel)) <|
  .cons (ix_s_istore_n dX2_fill_45 rfl (by decide)) <|
  .cons (ix_s_iload_n dX2_fill_46 rfl) <|
  .cons (ix_s_if_lt dX2_fill_47 (by decide)) <|
  .cons (ix_s_iconst dX2_fill_50 (by decide +kernel)) <|
  .cons (ix_s_istore_n dX2_fill_51 rfl (by decide)) <|
  .cons (ix_s_iload_n dX2_fill_52 rfl) <|
  .cons (ix_s_iconst dX2_fill_53 (by decide +kernel)) <|
  .cons (ix_s_aload_n dX2_fill_54 rfl) <|
  .cons (ix_s_geti (j := 3) tu_X2 rfl (by decide) (by decide) tw_222 rfl ts_1_3_i dX2_fill_55) <|
  .cons (ix_s_ishl dX2_fill_58) <|
  .cons (ix_s_cmp_ge dX2_fill_59 (by decide)) <|
  .cons (ix_s_aload_n dX2_fill_62 rfl) <|
  .cons (ix_s_getr (j := 0) tu_X2 rfl (by decide) (by decide) tw_219 rfl ts_1_0_r dX2_fill_63) <|
  .cons (ix_s_iload_n dX2_fill_66 rfl) <|
  .cons (ix_s_iload_n dX2_fill_67 rfl) <|
  .cons (oc_X2_slot_s (ix_s_calls (k_X2_slot l) (by decide) (by decide) tw_699 tw_10 tw_697 tw_698 ⟨by decide, by decide, by decide +kernel⟩ (fun _ => rfl) dX2_fill_68)) <|
  .cons (ix_s_aload_n dX2_fill_71 rfl) <|
  .cons (ix_s_iload_n dX2_fill_72 rfl) <|
  .cons (ix_s_iload_n dX2_fill_73 rfl) <|
  .cons (oc_X2_mostFrom_s (ix_s_callv (t := 1) (k_X2_mostFrom l) (by decide) (by decide) tw_703 tw_10 tw_700 tw_702 tp_12 ⟨by decide, by decide, by decide +kernel⟩ (by decide) rfl rfl (fun _ => ⟨_, _, rfl, rfl⟩) dX2_fill_74)) <|
  .cons (ix_s_iast dX2_fill_77) <|
  .cons (ix_s_iinc dX2_fill_78 (by decide +kernel) (by decide)) <|
  .cons (ix_s_goto dX2_fill_81 (by decide)) <|
  .cons (ix_s_iinc dX2_fill_84 (by decide +kernel) (by decide)) <|
  .cons (ix_s_goto dX2_fill_87 (by decide)) <|
  .cons (ix_s_vret dX2_fill_90 rfl) <| .nil
theorem e_X2_fill_0 (Q : ix_R → Prop) (ls : ix_L) (st : List ix_V) (μ : ix_M) : ix_Ev o_X2_fill Q (0, ls, st, μ) = ix_aload 0 1 (ix_Ev o_X2_fill Q) Q ls st μ := ix_Ev.eq (a_X2_fill launch0) rfl ls st μ
theorem e_X2_fill_1 (Q : ix_R → Prop) (ls : ix_L) (st : List ix_V) (μ : ix_M) : ix_Ev o_X2_fill Q (1, ls, st, μ) = ix_aload 1 2 (ix_Ev o_X2_fill Q) Q ls st μ := ix_Ev.eq (a_X2_fill launch0) rfl ls st μ
theorem e_X2_fill_2 (Q : ix_R → Prop) (ls : ix_L) (st : List ix_V) (μ : ix_M) : ix_Ev o_X2_fill Q (2, ls, st, μ) = ix_getr 5 8 (fun k => k + 1) 5 (ix_Ev o_X2_fill Q) Q ls st μ := ix_Ev.eq (a_X2_fill launch0) rfl ls st μ
theorem e_X2_fill_5 (Q : ix_R → Prop) (ls : ix_L) (st : List ix_V) (μ : ix_M) : ix_Ev o_X2_fill Q (5, ls, st, μ) = ix_geti 8 7 8 (ix_Ev o_X2_fill Q) Q ls st μ := ix_Ev.eq (a_X2_fill launch0) rfl ls st μ
theorem e_X2_fill_8 (Q : ix_R → Prop) (ls : ix_L) (st : List ix_V) (μ : ix_M) : ix_Ev o_X2_fill Q (8, ls, st, μ) = ix_puti 1 3 11 (ix_Ev o_X2_fill Q) Q ls st μ := ix_Ev.eq (a_X2_fill launch0) rfl ls st μ
theorem e_X2_fill_11 (Q : ix_R → Prop) (ls : ix_L) (st : List ix_V) (μ : ix_M) : ix_Ev o_X2_fill Q (11, ls, st, μ) = ix_aload 1 12 (ix_Ev o_X2_fill Q) Q ls st μ := ix_Ev.eq (a_X2_fill launch0) rfl ls st μ
theorem e_X2_fill_12 (Q : ix_R → Prop) (ls : ix_L) (st : List ix_V) (μ : ix_M) : ix_Ev o_X2_fill Q (12, ls, st, μ) = ix_getr 5 20 (fun k => k + 22) 15 (ix_Ev o_X2_fill Q) Q ls st μ := ix_Ev.eq (a_X2_fill launch0) rfl ls st μ
theorem e_X2_fill_15 (Q : ix_R → Prop) (ls : ix_L) (st : List ix_V) (μ : ix_M) : ix_Ev o_X2_fill Q (15, ls, st, μ) = ix_push (vi 0) 16 (ix_Ev o_X2_fill Q) Q ls st μ := ix_Ev.eq (a_X2_fill launch0) rfl ls st μ
theorem e_X2_fill_16 (Q : ix_R → Prop) (ls : ix_L) (st : List ix_V) (μ : ix_M) : ix_Ev o_X2_fill Q (16, ls, st, μ) = ix_aload 0 17 (ix_Ev o_X2_fill Q) Q ls st μ := ix_Ev.eq (a_X2_fill launch0) rfl ls st μ
theorem e_X2_fill_17 (Q : ix_R → Prop) (ls : ix_L) (st : List ix_V) (μ : ix_M) : ix_Ev o_X2_fill Q (17, ls, st, μ) = ix_getr 1 20 (fun _ => 129) 20 (ix_Ev o_X2_fill Q) Q ls st μ := ix_Ev.eq (a_X2_fill launch0) rfl ls st μ
theorem e_X2_fill_20 (Q : ix_R → Prop) (ls : ix_L) (st : List ix_V) (μ : ix_M) : ix_Ev o_X2_fill Q (20, ls, st, μ) = ix_push (vi 0) 21 (ix_Ev o_X2_fill Q) Q ls st μ := ix_Ev.eq (a_X2_fill launch0) rfl ls st μ
theorem e_X2_fill_21 (Q : ix_R → Prop) (ls : ix_L) (st : List ix_V) (μ : ix_M) : ix_Ev o_X2_fill Q (21, ls, st, μ) = ix_push (vi 6) 23 (ix_Ev o_X2_fill Q) Q ls st μ := ix_Ev.eq (a_X2_fill launch0) rfl ls st μ
theorem e_X2_fill_23 (Q : ix_R → Prop) (ls : ix_L) (st : List ix_V) (μ : ix_M) : ix_Ev o_X2_fill Q (23, ls, st, μ) = ix_acopy 26 (ix_Ev o_X2_fill Q) Q ls st μ := ix_Ev.eq (a_X2_fill launch0) rfl ls st μ
theorem e_X2_fill_26 (Q : ix_R → Prop) (ls : ix_L) (st : List ix_V) (μ : ix_M) : ix_Ev o_X2_fill Q (26, ls, st, μ) = ix_aload 1 27 (ix_Ev o_X2_fill Q) Q ls st μ := ix_Ev.eq (a_X2_fill launch0) rfl ls st μ
theorem e_X2_fill_27 (Q : ix_R → Prop) (ls : ix_L) (st : List ix_V) (μ : ix_M) : ix_Ev o_X2_fill Q (27, ls, st, μ) = ix_getr 5 8 (fun k => k + 1) 30 (ix_Ev o_X2_fill Q) Q ls st μ := ix_Ev.eq (a_X2_fill launch0) rfl ls st μ
theorem e_X2_fill_30 (Q : ix_R → Prop) (ls : ix_L) (st : List ix_V) (μ : ix_M) : ix_Ev o_X2_fill Q (30, ls, st, μ) = ix_getr 8 20 (fun k => k + 7) 33 (ix_Ev o_X2_fill Q) Q ls st μ := ix_Ev.eq (a_X2_fill launch0) rfl ls st μ
theorem e_X2_fill_33 (Q : ix_R → Prop) (ls : ix_L) (st : List ix_V) (μ : ix_M) : ix_Ev o_X2_fill Q (33, ls, st, μ) = ix_push (vi 0) 34 (ix_Ev o_X2_fill Q) Q ls st μ := ix_Ev.eq (a_X2_fill launch0) rfl ls st μ
theorem e_X2_fill_34 (Q : ix_R → Prop) (ls : ix_L) (st : List ix_V) (μ : ix_M) : ix_Ev o_X2_fill Q (34, ls, st, μ) = ix_aload 0 35 (ix_Ev o_X2_fill Q) Q ls st μ := ix_Ev.eq (a_X2_fill launch0) rfl ls st μ
theorem e_X2_fill_35 (Q : ix_R → Prop) (ls : ix_L) (st : List ix_V) (μ : ix_M) : ix_Ev o_X2_fill Q (35, ls, st, μ) = ix_getr 1 20 (fun _ => 130) 38 (ix_Ev o_X2_fill Q) Q ls st μ := ix_Ev.eq (a_X2_fill launch0) rfl ls st μ
theorem e_X2_fill_38 (Q : ix_R → Prop) (ls : ix_L) (st : List ix_V) (μ : ix_M) : ix_Ev o_X2_fill Q (38, ls, st, μ) = ix_push (vi 0) 39 (ix_Ev o_X2_fill Q) Q ls st μ := ix_Ev.eq (a_X2_fill launch0) rfl ls st μ
theorem e_X2_fill_39 (Q : ix_R → Prop) (ls : ix_L) (st : List ix_V) (μ : ix_M) : ix_Ev o_X2_fill Q (39, ls, st, μ) = ix_push (vi 8) 41 (ix_Ev o_X2_fill Q) Q ls st μ := ix_Ev.eq (a_X2_fill launch0) rfl ls st μ
theorem e_X2_fill_41 (Q : ix_R → Prop) (ls : ix_L) (st : List ix_V) (μ : ix_M) : ix_Ev o_X2_fill Q (41, ls, st, μ) = ix_acopy 44 (ix_Ev o_X2_fill Q) Q ls st μ := ix_Ev.eq (a_X2_fill launch0) rfl ls st μ
theorem e_X2_fill_44 (Q : ix_R → Prop) (ls : ix_L) (st : List ix_V) (μ : ix_M) : ix_Ev o_X2_fill Q (44, ls, st, μ) = ix_push (vi 5) 45 (ix_Ev o_X2_fill Q) Q ls st μ := ix_Ev.eq (a_X2_fill launch0) rfl ls st μ
theorem e_X2_fill_45 (Q : ix_R → Prop) (ls : ix_L) (st : List ix_V) (μ : ix_M) : ix_Ev o_X2_fill Q (45, ls, st, μ) = ix_istore 2 46 (ix_Ev o_X2_fill Q) Q ls st μ := ix_Ev.eq (a_X2_fill launch0) rfl ls st μ
theorem e_X2_fill_46 (Q : ix_R → Prop) (ls : ix_L) (st : List ix_V) (μ : ix_M) : ix_Ev o_X2_fill Q (46, ls, st, μ) = ix_iload 2 47 (ix_Ev o_X2_fill Q) Q ls st μ := ix_Ev.eq (a_X2_fill launch0) rfl ls st μ
theorem e_X2_fill_47 (Q : ix_R → Prop) (ls : ix_L) (st : List ix_V) (μ : ix_M) : ix_Ev o_X2_fill Q (47, ls, st, μ) = ix_if (fun x => x < 0) 90 50 (ix_Ev o_X2_fill Q) Q ls st μ := ix_Ev.eq (a_X2_fill launch0) rfl ls st μ
theorem e_X2_fill_50 (Q : ix_R → Prop) (ls : ix_L) (st : List ix_V) (μ : ix_M) : ix_Ev o_X2_fill Q (50, ls, st, μ) = ix_push (vi 0) 51 (ix_Ev o_X2_fill Q) Q ls st μ := ix_Ev.eq (a_X2_fill launch0) rfl ls st μ
theorem e_X2_fill_51 (Q : ix_R → Prop) (ls : ix_L) (st : List ix_V) (μ : ix_M) : ix_Ev o_X2_fill Q (51, ls, st, μ) = ix_istore 3 52 (ix_Ev o_X2_fill Q) Q ls st μ := ix_Ev.eq (a_X2_fill launch0) rfl ls st μ
theorem e_X2_fill_52 (Q : ix_R → Prop) (ls : ix_L) (st : List ix_V) (μ : ix_M) : ix_Ev o_X2_fill Q (52, ls, st, μ) = ix_iload 3 53 (ix_Ev o_X2_fill Q) Q ls st μ := ix_Ev.eq (a_X2_fill launch0) rfl ls st μ
theorem e_X2_fill_53 (Q : ix_R → Prop) (ls : ix_L) (st : List ix_V) (μ : ix_M) : ix_Ev o_X2_fill Q (53, ls, st, μ) = ix_push (vi 1) 54 (ix_Ev o_X2_fill Q) Q ls st μ := ix_Ev.eq (a_X2_fill launch0) rfl ls st μ
theorem e_X2_fill_54 (Q : ix_R → Prop) (ls : ix_L) (st : List ix_V) (μ : ix_M) : ix_Ev o_X2_fill Q (54, ls, st, μ) = ix_aload 0 55 (ix_Ev o_X2_fill Q) Q ls st μ := ix_Ev.eq (a_X2_fill launch0) rfl ls st μ
theorem e_X2_fill_55 (Q : ix_R → Prop) (ls : ix_L) (st : List ix_V) (μ : ix_M) : ix_Ev o_X2_fill Q (55, ls, st, μ) = ix_geti 1 3 58 (ix_Ev o_X2_fill Q) Q ls st μ := ix_Ev.eq (a_X2_fill launch0) rfl ls st μ
theorem e_X2_fill_58 (Q : ix_R → Prop) (ls : ix_L) (st : List ix_V) (μ : ix_M) : ix_Ev o_X2_fill Q (58, ls, st, μ) = ix_bin (fun x y => x <<< (y &&& 31)) 59 (ix_Ev o_X2_fill Q) Q ls st μ := ix_Ev.eq (a_X2_fill launch0) rfl ls st μ
theorem e_X2_fill_59 (Q : ix_R → Prop) (ls : ix_L) (st : List ix_V) (μ : ix_M) : ix_Ev o_X2_fill Q (59, ls, st, μ) = ix_cmp (fun x y => y ≤ x) 84 62 (ix_Ev o_X2_fill Q) Q ls st μ := ix_Ev.eq (a_X2_fill launch0) rfl ls st μ
theorem e_X2_fill_62 (Q : ix_R → Prop) (ls : ix_L) (st : List ix_V) (μ : ix_M) : ix_Ev o_X2_fill Q (62, ls, st, μ) = ix_aload 0 63 (ix_Ev o_X2_fill Q) Q ls st μ := ix_Ev.eq (a_X2_fill launch0) rfl ls st μ
theorem e_X2_fill_63 (Q : ix_R → Prop) (ls : ix_L) (st : List ix_V) (μ : ix_M) : ix_Ev o_X2_fill Q (63, ls, st, μ) = ix_getr 1 20 (fun _ => 97) 66 (ix_Ev o_X2_fill Q) Q ls st μ := ix_Ev.eq (a_X2_fill launch0) rfl ls st μ
theorem e_X2_fill_66 (Q : ix_R → Prop) (ls : ix_L) (st : List ix_V) (μ : ix_M) : ix_Ev o_X2_fill Q (66, ls, st, μ) = ix_iload 2 67 (ix_Ev o_X2_fill Q) Q ls st μ := ix_Ev.eq (a_X2_fill launch0) rfl ls st μ
theorem e_X2_fill_67 (Q : ix_R → Prop) (ls : ix_L) (st : List ix_V) (μ : ix_M) : ix_Ev o_X2_fill Q (67, ls, st, μ) = ix_iload 3 68 (ix_Ev o_X2_fill Q) Q ls st μ := ix_Ev.eq (a_X2_fill launch0) rfl ls st μ
theorem e_X2_fill_68 (Q : ix_R → Prop) (ls : ix_L) (st : List ix_V) (μ : ix_M) : ix_Ev o_X2_fill Q (68, ls, st, μ) = oc_X2_slot 71 (ix_Ev o_X2_fill Q) Q ls st μ := ix_Ev.eq (a_X2_fill launch0) rfl ls st μ
theorem e_X2_fill_71 (Q : ix_R → Prop) (ls : ix_L) (st : List ix_V) (μ : ix_M) : ix_Ev o_X2_fill Q (71, ls, st, μ) = ix_aload 0 72 (ix_Ev o_X2_fill Q) Q ls st μ := ix_Ev.eq (a_X2_fill launch0) rfl ls st μ
theorem e_X2_fill_72 (Q : ix_R → Prop) (ls : ix_L) (st : List ix_V) (μ : ix_M) : ix_Ev o_X2_fill Q (72, ls, st, μ) = ix_iload 2 73 (ix_Ev o_X2_fill Q) Q ls st μ := ix_Ev.eq (a_X2_fill launch0) rfl ls st μ
theorem e_X2_fill_73 (Q : ix_R → Prop) (ls : ix_L) (st : List ix_V) (μ : ix_M) : ix_Ev o_X2_fill Q (73, ls, st, μ) = ix_iload 3 74 (ix_Ev o_X2_fill Q) Q ls st μ := ix_Ev.eq (a_X2_fill launch0) rfl ls st μ
theorem e_X2_fill_74 (Q : ix_R → Prop) (ls : ix_L) (st : List ix_V) (μ : ix_M) : ix_Ev o_X2_fill Q (74, ls, st, μ) = oc_X2_mostFrom 77 (ix_Ev o_X2_fill Q) Q ls st μ := ix_Ev.eq (a_X2_fill launch0) rfl ls st μ
theorem e_X2_fill_77 (Q : ix_R → Prop) (ls : ix_L) (st : List ix_V) (μ : ix_M) : ix_Ev o_X2_fill Q (77, ls, st, μ) = ix_iast 78 (ix_Ev o_X2_fill Q) Q ls st μ := ix_Ev.eq (a_X2_fill launch0) rfl ls st μ
theorem e_X2_fill_78 (Q : ix_R → Prop) (ls : ix_L) (st : List ix_V) (μ : ix_M) : ix_Ev o_X2_fill Q (78, ls, st, μ) = ix_iinc 3 1 81 (ix_Ev o_X2_fill Q) Q ls st μ := ix_Ev.eq (a_X2_fill launch0) rfl ls st μ
theorem e_X2_fill_81 (Q : ix_R → Prop) (ls : ix_L) (st : List ix_V) (μ : ix_M) : ix_Ev o_X2_fill Q (81, ls, st, μ) = ix_goto 52 (ix_Ev o_X2_fill Q) Q ls st μ := ix_Ev.eq (a_X2_fill launch0) rfl ls st μ
theorem e_X2_fill_84 (Q : ix_R → Prop) (ls : ix_L) (st : List ix_V) (μ : ix_M) : ix_Ev o_X2_fill Q (84, ls, st, μ) = ix_iinc 2 (-1) 87 (ix_Ev o_X2_fill Q) Q ls st μ := ix_Ev.eq (a_X2_fill launch0) rfl ls st μ
theorem e_X2_fill_87 (Q : ix_R → Prop) (ls : ix_L) (st : List ix_V) (μ : ix_M) : ix_Ev o_X2_fill Q (87, ls, st, μ) = ix_goto 46 (ix_Ev o_X2_fill Q) Q ls st μ := ix_Ev.eq (a_X2_fill launch0) rfl ls st μ
theorem e_X2_fill_90 (Q : ix_R → Prop) (ls : ix_L) (st : List ix_V) (μ : ix_M) : ix_Ev o_X2_fill Q (90, ls, st, μ) = ix_vret (ix_Ev o_X2_fill Q) Q ls st μ := ix_Ev.eq (a_X2_fill launch0) rfl ls st μ
theorem shl1 : ∀ n, n ≤ 8 → ((1 : Int32) <<< (nI n &&& 31)) = nI (2 ^ n) := by decide +kernel
/-- the table behind wearers from 6 - k on, and the first i sets of the next -/
def FI (μ μ1 : ix_M) (N k i : Nat) : Prop := Fx [96, 97] μ μ1 ∧ μ1 96 3 = nI N ∧ (∀ k', k' ≤ k → ∀ t, t < 2 ^ N → μ1 97 (256 * (6 - k') + t) = svD (μ 129) (μ 130) N k' t) ∧ (∀ t, t < i → μ1 97 (256 * (6 - (k + 1)) + t) = svD (μ 129) (μ 130) N (k + 1) t) ∧ ∀ t, t < 256 → μ1 97 (1536 + t) = 0
theorem l2_X2_fill {N k : Nat} {μ : ix_M} {Q : ix_R → Prop} (hN : N ≤ 8) (hk : k < 6) (K : ∀ μ1 x3, FI μ μ1 N k (2 ^ N) → ix_Ev o_X2_fill Q (46, [some (vr 1 96), some (vr 5 1), some (vi (nI (5 - k) + -1)), x3], [], μ1)) : ∀ (j i : Nat) (μ1 : ix_M), i + j = 2 ^ N → FI μ μ1 N k i → ix_Ev o_X2_fill Q (52, [some (vr 1 96), some (vr 5 1), some (vi (nI (5 - k))), some (vi (nI i))], [], μ1) := by
  have h256 := p2le N hN
  intro j
  induction j with
  | zero =>
    intro i μ1 hi hI
    have hi : i = 2 ^ N := hi
    subst hi
    have hle : nI (2 ^ N) ≤ nI (2 ^ N) := Int32.le_refl _
    have hs := shl1 N hN
    have hb := hI.2.1
    rw [e_X2_fill_52]
    simp (decide := true) only [e_X2_fill_0, e_X2_fill_1, e_X2_fill_2, e_X2_fill_5, e_X2_fill_8, e_X2_fill_11, e_X2_fill_12, e_X2_fill_15, e_X2_fill_16, e_X2_fill_17, e_X2_fill_20, e_X2_fill_21, e_X2_fill_23, e_X2_fill_26, e_X2_fill_27, e_X2_fill_30, e_X2_fill_33, e_X2_fill_34, e_X2_fill_35, e_X2_fill_38, e_X2_fill_39, e_X2_fill_41, e_X2_fill_44, e_X2_fill_45, e_X2_fill_47, e_X2_fill_50, e_X2_fill_51, e_X2_fill_53, e_X2_fill_54, e_X2_fill_55, e_X2_fill_58, e_X2_fill_59, e_X2_fill_62, e_X2_fill_63, e_X2_fill_66, e_X2_fill_67, e_X2_fill_68, e_X2_fill_71, e_X2_fill_72, e_X2_fill_73, e_X2_fill_74, e_X2_fill_77, e_X2_fill_78, e_X2_fill_81, e_X2_fill_84, e_X2_fill_87, e_X2_fill_90, vi, vl, vr, oc_X2_mostFrom, T_X2_mostFrom, oc_X2_slot, T_X2_slot, ix_push, ix_iload, ix_lload, ix_aload, ix_istore, ix_astore, ix_iinc, ix_bin, ix_div, ix_un, ix_i2l, ix_l2i, ix_lbin, ix_lsh, ix_lcmp, ix_dup, ix_dup2, ix_pop, ix_if, ix_cmp, ix_goto, ix_switch, ix_sw, ix_iret, ix_zret, ix_vret, ix_aret, ix_geti, ix_getr, ix_puti, ix_putz, ix_puts, ix_gets, ix_iald, ix_iast, ix_alen, ix_aald, ix_gval, ix_gcod, ix_bald, ix_blen, ix_sald, ix_nret, ix_math2, ix_math1, ix_acopy, Nat.add_assoc, Int32.reduceLT, Int32.reduceLE, Int32.reduceToNatClampNeg, Int32.reduceSub, Int32.reduceAdd, Nat.reduceAdd, Nat.reduceLeDiff, true_or, or_true, or_false, false_or, not_false_eq_true, not_true_eq_false, false_implies, true_implies, implies_true, and_self, mB_0, mB_01, Classical.not_not, Nat.zero_le, List.getElem?_cons_zero, List.getElem?_cons_succ, List.set_cons_zero, List.set_cons_succ, ix_nl, ix_cs, true_and, and_true, Option.toList_some, Option.toList_none, List.cons_append, List.nil_append, hb, hs, hle]
    exact K μ1 _ hI
  | succ j ih =>
    intro i μ1 hi hI
    have hng : ¬ nI (2 ^ N) ≤ nI i := nI_ge (by omega) (by omega)
    have hs := shl1 N hN
    have hb := hI.2.1
    have hi1 : nI i + 1 = nI (i + 1) := nI_1 i
    have e1 : mSlot (nI (5 - k)) (nI i) = nI (256 * (5 - k) + i) := mSlot_nI (5 - k) (by omega) i (by omega)
    have hin2 : vp_in (nI (256 * (5 - k) + i)) 1792 := vp_in_nI (by omega) (by decide)
    have hc2 : (nI (256 * (5 - k) + i)).toNatClampNeg = 256 * (5 - k) + i := nI_clamp (by omega)
    rw [e_X2_fill_52]
    simp (decide := true) only [e_X2_fill_0, e_X2_fill_1, e_X2_fill_2, e_X2_fill_5, e_X2_fill_8, e_X2_fill_11, e_X2_fill_12, e_X2_fill_15, e_X2_fill_16, e_X2_fill_17, e_X2_fill_20, e_X2_fill_21, e_X2_fill_23, e_X2_fill_26, e_X2_fill_27, e_X2_fill_30, e_X2_fill_33, e_X2_fill_34, e_X2_fill_35, e_X2_fill_38, e_X2_fill_39, e_X2_fill_41, e_X2_fill_44, e_X2_fill_45, e_X2_fill_47, e_X2_fill_50, e_X2_fill_51, e_X2_fill_53, e_X2_fill_54, e_X2_fill_55, e_X2_fill_58, e_X2_fill_59, e_X2_fill_62, e_X2_fill_63, e_X2_fill_66, e_X2_fill_67, e_X2_fill_68, e_X2_fill_71, e_X2_fill_72, e_X2_fill_73, e_X2_fill_74, e_X2_fill_77, e_X2_fill_78, e_X2_fill_81, e_X2_fill_84, e_X2_fill_87, e_X2_fill_90, vi, vl, vr, oc_X2_mostFrom, T_X2_mostFrom, oc_X2_slot, T_X2_slot, ix_push, ix_iload, ix_lload, ix_aload, ix_istore, ix_astore, ix_iinc, ix_bin, ix_div, ix_un, ix_i2l, ix_l2i, ix_lbin, ix_lsh, ix_lcmp, ix_dup, ix_dup2, ix_pop, ix_if, ix_cmp, ix_goto, ix_switch, ix_sw, ix_iret, ix_zret, ix_vret, ix_aret, ix_geti, ix_getr, ix_puti, ix_putz, ix_puts, ix_gets, ix_iald, ix_iast, ix_alen, ix_aald, ix_gval, ix_gcod, ix_bald, ix_blen, ix_sald, ix_nret, ix_math2, ix_math1, ix_acopy, Nat.add_assoc, Int32.reduceLT, Int32.reduceLE, Int32.reduceToNatClampNeg, Int32.reduceSub, Int32.reduceAdd, Nat.reduceAdd, Nat.reduceLeDiff, true_or, or_true, or_false, false_or, not_false_eq_true, not_true_eq_false, false_implies, true_implies, implies_true, and_self, mB_0, mB_01, Classical.not_not, Nat.zero_le, List.getElem?_cons_zero, List.getElem?_cons_succ, List.set_cons_zero, List.set_cons_succ, ix_nl, ix_cs, true_and, and_true, Option.toList_some, Option.toList_none, List.cons_append, List.nil_append, hb, hs, hng, e1, hin2, hc2, l97, hi1]
    refine ⟨5 - k, i, N, rfl, by omega, rfl, hN, by omega, rfl, ?_⟩
    refine ih (i + 1) _ (by omega) ⟨hI.1.up (by simp), by rw [ix_up_ne (by decide)]; exact hb, fun k' hk' t ht => ?_, fun t ht => ?_, fun t ht => ?_⟩
    · rw [ix_up_ap, if_neg (by omega)]
      exact hI.2.2.1 k' hk' t ht
    · rw [ix_up_ap]
      by_cases e : t = i
      · subst e
        rw [if_pos ⟨rfl, by omega⟩]
        show _ = mFrom (svD (μ 129) (μ 130) N k) (μ 129 (5 - k)) (μ 130) t N
        rw [hI.1 129 (by decide), hI.1 130 (by decide)]
        refine mFrom_cong hN (by omega) (fun x hx => ?_) N (Nat.le_refl _)
        have := hI.2.2.1 k (Nat.le_refl _) x hx
        rw [← this]
        congr 1
        omega
      · rw [if_neg (by omega)]
        exact hI.2.2.2.1 t (by omega)
    · rw [ix_up_ap, if_neg (by omega)]
      exact hI.2.2.2.2 t ht
theorem l1_X2_fill {N : Nat} {μ : ix_M} {Q : ix_R → Prop} (hN : N ≤ 8) (hQ : ∀ μ', Fx [96, 97] μ μ' → μ' 96 3 = nI N → (∀ k, k ≤ 6 → ∀ t, t < 2 ^ N → μ' 97 (256 * (6 - k) + t) = svD (μ 129) (μ 130) N k t) → (∀ t, t < 256 → μ' 97 (1536 + t) = 0) → Q (none, μ')) : ∀ (j k : Nat) (μ1 : ix_M) (x3 : Option ix_V), k + j = 6 → FI μ μ1 N k 0 → ∀ w : Int32, w = nI (6 - k) - 1 → ix_Ev o_X2_fill Q (46, [some (vr 1 96), some (vr 5 1), some (vi w), x3], [], μ1) := by
  intro j
  induction j with
  | zero =>
    intro k μ1 x3 hk hI w hw
    have hk : k = 6 := hk
    subst hk
    have hneg : w < 0 := by rw [hw]; decide
    rw [e_X2_fill_46]
    simp (decide := true) only [e_X2_fill_0, e_X2_fill_1, e_X2_fill_2, e_X2_fill_5, e_X2_fill_8, e_X2_fill_11, e_X2_fill_12, e_X2_fill_15, e_X2_fill_16, e_X2_fill_17, e_X2_fill_20, e_X2_fill_21, e_X2_fill_23, e_X2_fill_26, e_X2_fill_27, e_X2_fill_30, e_X2_fill_33, e_X2_fill_34, e_X2_fill_35, e_X2_fill_38, e_X2_fill_39, e_X2_fill_41, e_X2_fill_44, e_X2_fill_45, e_X2_fill_47, e_X2_fill_50, e_X2_fill_51, e_X2_fill_53, e_X2_fill_54, e_X2_fill_55, e_X2_fill_58, e_X2_fill_59, e_X2_fill_62, e_X2_fill_63, e_X2_fill_66, e_X2_fill_67, e_X2_fill_68, e_X2_fill_71, e_X2_fill_72, e_X2_fill_73, e_X2_fill_74, e_X2_fill_77, e_X2_fill_78, e_X2_fill_81, e_X2_fill_84, e_X2_fill_87, e_X2_fill_90, vi, vl, vr, oc_X2_mostFrom, T_X2_mostFrom, oc_X2_slot, T_X2_slot, ix_push, ix_iload, ix_lload, ix_aload, ix_istore, ix_astore, ix_iinc, ix_bin, ix_div, ix_un, ix_i2l, ix_l2i, ix_lbin, ix_lsh, ix_lcmp, ix_dup, ix_dup2, ix_pop, ix_if, ix_cmp, ix_goto, ix_switch, ix_sw, ix_iret, ix_zret, ix_vret, ix_aret, ix_geti, ix_getr, ix_puti, ix_putz, ix_puts, ix_gets, ix_iald, ix_iast, ix_alen, ix_aald, ix_gval, ix_gcod, ix_bald, ix_blen, ix_sald, ix_nret, ix_math2, ix_math1, ix_acopy, Nat.add_assoc, Int32.reduceLT, Int32.reduceLE, Int32.reduceToNatClampNeg, Int32.reduceSub, Int32.reduceAdd, Nat.reduceAdd, Nat.reduceLeDiff, true_or, or_true, or_false, false_or, not_false_eq_true, not_true_eq_false, false_implies, true_implies, implies_true, and_self, mB_0, mB_01, Classical.not_not, Nat.zero_le, List.getElem?_cons_zero, List.getElem?_cons_succ, List.set_cons_zero, List.set_cons_succ, ix_nl, ix_cs, true_and, and_true, Option.toList_some, Option.toList_none, List.cons_append, List.nil_append, hneg]
    exact hQ μ1 hI.1 hI.2.1 hI.2.2.1 hI.2.2.2.2
  | succ j ih =>
    intro k μ1 x3 hk hI w hw
    have hw2 : w = nI (5 - k) := by
      rw [hw, show 6 - k = (5 - k) + 1 by omega]
      exact nI_pred _
    subst hw2
    have hneg : ¬ nI (5 - k) < 0 := nI_pos (by omega)
    have h0 : (0 : Int32) = nI 0 := rfl
    rw [e_X2_fill_46]
    simp (decide := true) only [e_X2_fill_0, e_X2_fill_1, e_X2_fill_2, e_X2_fill_5, e_X2_fill_8, e_X2_fill_11, e_X2_fill_12, e_X2_fill_15, e_X2_fill_16, e_X2_fill_17, e_X2_fill_20, e_X2_fill_21, e_X2_fill_23, e_X2_fill_26, e_X2_fill_27, e_X2_fill_30, e_X2_fill_33, e_X2_fill_34, e_X2_fill_35, e_X2_fill_38, e_X2_fill_39, e_X2_fill_41, e_X2_fill_44, e_X2_fill_45, e_X2_fill_47, e_X2_fill_50, e_X2_fill_51, e_X2_fill_53, e_X2_fill_54, e_X2_fill_55, e_X2_fill_58, e_X2_fill_59, e_X2_fill_62, e_X2_fill_63, e_X2_fill_66, e_X2_fill_67, e_X2_fill_68, e_X2_fill_71, e_X2_fill_72, e_X2_fill_73, e_X2_fill_74, e_X2_fill_77, e_X2_fill_78, e_X2_fill_81, e_X2_fill_84, e_X2_fill_87, e_X2_fill_90, vi, vl, vr, oc_X2_mostFrom, T_X2_mostFrom, oc_X2_slot, T_X2_slot, ix_push, ix_iload, ix_lload, ix_aload, ix_istore, ix_astore, ix_iinc, ix_bin, ix_div, ix_un, ix_i2l, ix_l2i, ix_lbin, ix_lsh, ix_lcmp, ix_dup, ix_dup2, ix_pop, ix_if, ix_cmp, ix_goto, ix_switch, ix_sw, ix_iret, ix_zret, ix_vret, ix_aret, ix_geti, ix_getr, ix_puti, ix_putz, ix_puts, ix_gets, ix_iald, ix_iast, ix_alen, ix_aald, ix_gval, ix_gcod, ix_bald, ix_blen, ix_sald, ix_nret, ix_math2, ix_math1, ix_acopy, Nat.add_assoc, Int32.reduceLT, Int32.reduceLE, Int32.reduceToNatClampNeg, Int32.reduceSub, Int32.reduceAdd, Nat.reduceAdd, Nat.reduceLeDiff, true_or, or_true, or_false, false_or, not_false_eq_true, not_true_eq_false, false_implies, true_implies, implies_true, and_self, mB_0, mB_01, Classical.not_not, Nat.zero_le, List.getElem?_cons_zero, List.getElem?_cons_succ, List.set_cons_zero, List.set_cons_succ, ix_nl, ix_cs, true_and, and_true, Option.toList_some, Option.toList_none, List.cons_append, List.nil_append, hneg]
    refine l2_X2_fill hN (by omega) (fun μ2 x3' hI2 => ?_) (2 ^ N) 0 μ1 (by omega) hI
    refine ih (k + 1) μ2 x3' (by omega) ⟨hI2.1, hI2.2.1, fun k' hk' t ht => ?_, fun t ht => absurd ht (by omega), hI2.2.2.2.2⟩ _ ?_
    · by_cases e : k' = k + 1
      · subst e
        exact hI2.2.2.2.1 t ht
      · exact hI2.2.2.1 k' (by omega) t ht
    · rw [show 6 - (k + 1) = 5 - k by omega, Int32.sub_eq_add_neg]
theorem cpy_at0 {μ : ix_M} {b a k i : Nat} (h : i < k) : ix_cpy μ b a 0 0 k a i = μ b i := by
  rw [ix_cpy_at]
  exact va_cpy00 h
theorem r_X2_fill (o : Nat) (st : Nat) (μ : ix_M) (Q : ix_R → Prop) (ok_o : o < ix_N ∧ ix_tag o = 1) (ok_st : st < ix_N ∧ ix_tag st = 5) (hT : T_X2_fill (o, st) μ Q) : ix_Ev o_X2_fill Q (0, [some (vr 1 o), some (vr 5 st), none, none], [], μ) := by
  obtain ⟨rfl, rfl, N, h7, hN, h6, hQ⟩ := hT
  simp (decide := true) only [e_X2_fill_0, e_X2_fill_1, e_X2_fill_2, e_X2_fill_5, e_X2_fill_8, e_X2_fill_11, e_X2_fill_12, e_X2_fill_15, e_X2_fill_16, e_X2_fill_17, e_X2_fill_20, e_X2_fill_21, e_X2_fill_23, e_X2_fill_26, e_X2_fill_27, e_X2_fill_30, e_X2_fill_33, e_X2_fill_34, e_X2_fill_35, e_X2_fill_38, e_X2_fill_39, e_X2_fill_41, e_X2_fill_44, e_X2_fill_45, e_X2_fill_47, e_X2_fill_50, e_X2_fill_51, e_X2_fill_53, e_X2_fill_54, e_X2_fill_55, e_X2_fill_58, e_X2_fill_59, e_X2_fill_62, e_X2_fill_63, e_X2_fill_66, e_X2_fill_67, e_X2_fill_68, e_X2_fill_71, e_X2_fill_72, e_X2_fill_73, e_X2_fill_74, e_X2_fill_77, e_X2_fill_78, e_X2_fill_81, e_X2_fill_84, e_X2_fill_87, e_X2_fill_90, vi, vl, vr, oc_X2_mostFrom, T_X2_mostFrom, oc_X2_slot, T_X2_slot, ix_push, ix_iload, ix_lload, ix_aload, ix_istore, ix_astore, ix_iinc, ix_bin, ix_div, ix_un, ix_i2l, ix_l2i, ix_lbin, ix_lsh, ix_lcmp, ix_dup, ix_dup2, ix_pop, ix_if, ix_cmp, ix_goto, ix_switch, ix_sw, ix_iret, ix_zret, ix_vret, ix_aret, ix_geti, ix_getr, ix_puti, ix_putz, ix_puts, ix_gets, ix_iald, ix_iast, ix_alen, ix_aald, ix_gval, ix_gcod, ix_bald, ix_blen, ix_sald, ix_nret, ix_math2, ix_math1, ix_acopy, Nat.add_assoc, Int32.reduceLT, Int32.reduceLE, Int32.reduceToNatClampNeg, Int32.reduceSub, Int32.reduceAdd, Nat.reduceAdd, Nat.reduceLeDiff, true_or, or_true, or_false, false_or, not_false_eq_true, not_true_eq_false, false_implies, true_implies, implies_true, and_self, mB_0, mB_01, Classical.not_not, Nat.zero_le, List.getElem?_cons_zero, List.getElem?_cons_succ, List.set_cons_zero, List.set_cons_succ, ix_nl, ix_cs, true_and, and_true, Option.toList_some, Option.toList_none, List.cons_append, List.nil_append, l129, l130, l23, l9, h7]
  generalize hc : ix_cpy (ix_cpy (ix_up μ 96 3 (nI N)) 23 129 0 0 6) 9 130 0 0 8 = μc
  have c0 : ∀ x, x ≠ 96 → x ≠ 129 → x ≠ 130 → μc x = μ x := fun x h1 h2 h3 => by rw [← hc, ix_cpy_ne h3, ix_cpy_ne h2, ix_up_ne h1]
  have c1 : μc 96 3 = nI N := by rw [← hc, ix_cpy_ne (by decide), ix_cpy_ne (by decide), ix_up_k]
  have c2 : ∀ w, w < 6 → μc 129 w = μ 23 w := fun w hw => by rw [← hc, ix_cpy_ne (by decide), cpy_at0 hw, ix_up_ne (by decide)]
  have c3 : ∀ b, b < 8 → μc 130 b = μ 9 b := fun b hb => by rw [← hc, cpy_at0 hb, ix_cpy_ne (by decide), ix_up_ne (by decide)]
  refine l1_X2_fill (μ := μc) hN (fun μ' hF a b c => hQ μ' (fun x hx => ?_) a (fun k hk t ht => ?_) c (fun w hw => ?_) (fun w hw => ?_)) 6 0 _ none rfl ⟨Fx.rf, c1, fun k' hk' t ht => ?_, fun t ht => absurd ht (by omega), fun t ht => ?_⟩ 5 rfl
  · simp only [List.mem_cons, List.not_mem_nil, or_false, not_or] at hx
    rw [hF x (by simp [hx.1, hx.2.1]), c0 x hx.1 hx.2.2.1 hx.2.2.2]
  · rw [b k hk t ht, hF 129 (by decide), hF 130 (by decide)]
  · rw [hF 129 (by decide)]
    exact c2 w hw
  · rw [hF 130 (by decide)]
    exact c3 w hw
  · have : k' = 0 := by omega
    subst this
    rw [c0 97 (by decide) (by decide) (by decide)]
    exact h6 t (by have := p2le N hN; omega)
  · rw [c0 97 (by decide) (by decide) (by decide)]
    exact h6 t ht
theorem k_X2_fill (l : Launch) : ix_Ct l yX2_fill cX2_fill 4 none 4 sh_X2_fill T_X2_fill := ix_ct (a_X2_fill l) rfl (by decide) (fun _ => Nat.le_of_ble_eq_true rfl) (fun x μ Q hok hT => r_X2_fill x.1 x.2 μ Q (ix_ok_at (hok (vr 1 x.1) (by simp [sh_X2_fill])) (by decide) (by decide)) (ix_ok_at (hok (vr 5 x.2) (by simp [sh_X2_fill])) (by decide) (by decide)) hT)
def T_X2_mostServed : Nat → ix_M → (ix_R → Prop) → Prop := fun _ μ Q => Q (some (vi (μ 97 0)), μ)
def sh_X2_mostServed (x : Nat) : List ix_V := [vr 1 x]
theorem mo_X2_mostServed (x : Nat) (μ : ix_M) (Q Q' : ix_R → Prop) (h : ∀ r, Q r → Q' r) (hT : T_X2_mostServed x μ Q) : T_X2_mostServed x μ Q' := by
  first | exact h _ hT | exact ⟨hT.1, h _ hT.2⟩ | exact fun r hr => h _ (hT r hr) | exact ⟨hT.1, fun r hr => h _ (hT.2 r hr)⟩ | exact ⟨hT.1, hT.2.1, fun r hr => h _ (hT.2.2 r hr)⟩
def oc_X2_mostServed (n : Nat) : ix_Op := fun k _ ls st μ => match st with
  | .inr (.inr (t0, a0)) :: r => t0 = 1 ∧ ix_cs r ≤ 8 ∧ T_X2_mostServed a0 μ (fun q => k (n, ls, q.1.toList ++ r, q.2))
  | _ => False
theorem oc_X2_mostServed_s {l : Launch} {cc : ByteArray} {nL : Nat} {own : String} {d : Nat} {rt : Option FieldType} {pc n : Nat} (h : ix_S l cc nL own d rt pc (ix_call 1 sh_X2_mostServed T_X2_mostServed n)) : ix_S l cc nL own d rt pc (oc_X2_mostServed n) := by
  refine h.by (fun k Q ls st μ h => ?_) (fun k k' Q ls st μ hk h => ?_)
  · unfold oc_X2_mostServed at h
    split at h
    · rename_i t0 a0 r
      obtain ⟨rfl, h1, h2⟩ := h
      exact ⟨h1, a0, rfl, _, h2, fun r h => h⟩
    · exact h.elim
  · unfold oc_X2_mostServed at h ⊢
    split at h
    · obtain ⟨rfl, h1, h2⟩ := h
      exact ⟨rfl, h1, mo_X2_mostServed _ _ _ _ (fun q hq => hk _ hq) h2⟩
    · exact h.elim
def o_X2_mostServed : List (Nat × ix_Op) := [
  (0, ix_aload 0 1),
  (1, ix_getr 1 20 (fun _ => 97) 4),
  (4, ix_push (vi 0) 5),
  (5, ix_iald 6),
  (6, ix_iret)]
set_option maxRecDepth 20000 in
theorem a_X2_mostServed (l : Launch) : ix_AllS l cX2_mostServed 1 RX2 1 (some .int) o_X2_mostServed :=
  .cons (ix_s_aload_n dX2_mostServed_0 rfl) <|
  .cons (ix_s_getr (j := 0) tu_X2 rfl (by decide) (by decide) tw_219 rfl ts_1_0_r dX2_mostServed_1) <|
  .cons (ix_s_iconst dX2_mostServed_4 (by decide +kernel)) <|
  .cons (ix_s_iald dX2_mostServed_5) <|
  .cons (ix_s_iret dX2_mostServed_6 rfl) <| .nil
theorem e_X2_mostServed_0 (Q : ix_R → Prop) (ls : ix_L) (st : List ix_V) (μ : ix_M) : ix_Ev o_X2_mostServed Q (0, ls, st, μ) = ix_aload 0 1 (ix_Ev o_X2_mostServed Q) Q ls st μ := ix_Ev.eq (a_X2_mostServed launch0) rfl ls st μ
theorem e_X2_mostServed_1 (Q : ix_R → Prop) (ls : ix_L) (st : List ix_V) (μ : ix_M) : ix_Ev o_X2_mostServed Q (1, ls, st, μ) = ix_getr 1 20 (fun _ => 97) 4 (ix_Ev o_X2_mostServed Q) Q ls st μ := ix_Ev.eq (a_X2_mostServed launch0) rfl ls st μ
theorem e_X2_mostServed_4 (Q : ix_R → Prop) (ls : ix_L) (st : List ix_V) (μ : ix_M) : ix_Ev o_X2_mostServed Q (4, ls, st, μ) = ix_push (vi 0) 5 (ix_Ev o_X2_mostServed Q) Q ls st μ := ix_Ev.eq (a_X2_mostServed launch0) rfl ls st μ
theorem e_X2_mostServed_5 (Q : ix_R → Prop) (ls : ix_L) (st : List ix_V) (μ : ix_M) : ix_Ev o_X2_mostServed Q (5, ls, st, μ) = ix_iald 6 (ix_Ev o_X2_mostServed Q) Q ls st μ := ix_Ev.eq (a_X2_mostServed launch0) rfl ls st μ
theorem e_X2_mostServed_6 (Q : ix_R → Prop) (ls : ix_L) (st : List ix_V) (μ : ix_M) : ix_Ev o_X2_mostServed Q (6, ls, st, μ) = ix_iret (ix_Ev o_X2_mostServed Q) Q ls st μ := ix_Ev.eq (a_X2_mostServed launch0) rfl ls st μ
theorem r_X2_mostServed (o : Nat) (μ : ix_M) (Q : ix_R → Prop) (ok_o : o < ix_N ∧ ix_tag o = 1) (hT : T_X2_mostServed o μ Q) : ix_Ev o_X2_mostServed Q (0, [some (vr 1 o)], [], μ) := by
  have h0 : vp_in 0 1792 := vp_in_nI (n := 0) (by decide) (by decide)
  simp (decide := true) only [e_X2_mostServed_0, e_X2_mostServed_1, e_X2_mostServed_4, e_X2_mostServed_5, e_X2_mostServed_6, vi, vl, vr, ix_push, ix_iload, ix_lload, ix_aload, ix_istore, ix_astore, ix_iinc, ix_bin, ix_div, ix_un, ix_i2l, ix_l2i, ix_lbin, ix_lsh, ix_lcmp, ix_dup, ix_dup2, ix_pop, ix_if, ix_cmp, ix_goto, ix_switch, ix_sw, ix_iret, ix_zret, ix_vret, ix_aret, ix_geti, ix_getr, ix_puti, ix_putz, ix_puts, ix_gets, ix_iald, ix_iast, ix_alen, ix_aald, ix_gval, ix_gcod, ix_bald, ix_blen, ix_sald, ix_nret, ix_math2, ix_math1, ix_acopy, Nat.add_assoc, Int32.reduceLT, Int32.reduceLE, Int32.reduceToNatClampNeg, Int32.reduceSub, Int32.reduceAdd, Nat.reduceAdd, Nat.reduceLeDiff, true_or, or_true, or_false, false_or, not_false_eq_true, not_true_eq_false, false_implies, true_implies, implies_true, and_self, mB_0, mB_01, Classical.not_not, Nat.zero_le, List.getElem?_cons_zero, List.getElem?_cons_succ, List.set_cons_zero, List.set_cons_succ, ix_nl, ix_cs, true_and, and_true, Option.toList_some, Option.toList_none, List.cons_append, List.nil_append, l97, h0]
  exact hT
theorem k_X2_mostServed (l : Launch) : ix_Ct l yX2_mostServed cX2_mostServed 1 (some .int) 1 sh_X2_mostServed T_X2_mostServed := ix_ct (a_X2_mostServed l) rfl (by decide) (fun _ => Nat.le_of_ble_eq_true rfl) (fun x μ Q hok hT => r_X2_mostServed x μ Q (ix_ok_at (hok (vr 1 x) (by simp [sh_X2_mostServed])) (by decide) (by decide)) hT)
def mFb (p : Nat → Bool) (k i : Nat) : Nat := match k with
  | 0 => 8
  | k + 1 => if p i = true then i else mFb p k (i + 1)
/-- whether boat i is one of the best for wearer w -/
def bP (sv : Nat → Int32) (wa ba : Nat → Int32) (w t i : Nat) : Bool := fr t i && decide (mMin (wa w) (ba i) + sv (256 * (w + 1) + (t + 2 ^ i)) = sv (256 * w + t))
def T_X2_firstBest : Nat × Int32 × Int32 → ix_M → (ix_R → Prop) → Prop := fun (_, w, t) μ Q => ∃ (W T N : Nat), w = nI W ∧ W < 6 ∧ t = nI T ∧ N ≤ 8 ∧ T < 2 ^ N ∧ μ 96 3 = nI N ∧ Q (some (vi (nI (mFb (bP (μ 97) (μ 129) (μ 130) W T) N 0))), μ)
def sh_X2_firstBest (x : Nat × Int32 × Int32) : List ix_V := [vr 1 x.1, vi x.2.1, vi x.2.2]
theorem mo_X2_firstBest (x : Nat × Int32 × Int32) (μ : ix_M) (Q Q' : ix_R → Prop) (h : ∀ r, Q r → Q' r) (hT : T_X2_firstBest x μ Q) : T_X2_firstBest x μ Q' := by
  obtain ⟨a0, a1, a2⟩ := x
  (obtain ⟨W, T, N, h1, h2, h3, h4, h5, h6, h7⟩ := hT; exact ⟨W, T, N, h1, h2, h3, h4, h5, h6, h _ h7⟩)
def oc_X2_firstBest (n : Nat) : ix_Op := fun k _ ls st μ => match st with
  | .inl a2 :: .inl a1 :: .inr (.inr (t0, a0)) :: r => t0 = 1 ∧ ix_cs r ≤ 8 ∧ T_X2_firstBest (a0, a1, a2) μ (fun q => k (n, ls, q.1.toList ++ r, q.2))
  | _ => False
theorem oc_X2_firstBest_s {l : Launch} {cc : ByteArray} {nL : Nat} {own : String} {d : Nat} {rt : Option FieldType} {pc n : Nat} (h : ix_S l cc nL own d rt pc (ix_call 3 sh_X2_firstBest T_X2_firstBest n)) : ix_S l cc nL own d rt pc (oc_X2_firstBest n) := by
  refine h.by (fun k Q ls st μ h => ?_) (fun k k' Q ls st μ hk h => ?_)
  · unfold oc_X2_firstBest at h
    split at h
    · rename_i a2 a1 t0 a0 r
      obtain ⟨rfl, h1, h2⟩ := h
      exact ⟨h1, (a0, a1, a2), rfl, _, h2, fun r h => h⟩
    · exact h.elim
  · unfold oc_X2_firstBest at h ⊢
    split at h
    · obtain ⟨rfl, h1, h2⟩ := h
      exact ⟨rfl, h1, mo_X2_firstBest _ _ _ _ (fun q hq => hk _ hq) h2⟩
    · exact h.elim
def o_X2_firstBest : List (Nat × ix_Op) := [
  (0, ix_aload 0 1),
  (1, ix_getr 1 20 (fun _ => 97) 4),
  (4, ix_iload 1 5),
  (5, ix_iload 2 6),
  (6, oc_X2_slot 9),
  (9, ix_iald 10),
  (10, ix_istore 3 11),
  (11, ix_push (vi 0) 12),
  (12, ix_istore 4 14),
  (14, ix_iload 4 16),
  (16, ix_aload 0 17),
  (17, ix_geti 1 3 20),
  (20, ix_cmp (fun x y => y ≤ x) 53 23),
  (23, ix_iload 4 25),
  (25, ix_iload 2 26),
  (26, oc_X2_isFree 29),
  (29, ix_if (fun x => x = 0) 47 32),
  (32, ix_aload 0 33),
  (33, ix_iload 1 34),
  (34, ix_iload 2 35),
  (35, ix_iload 4 37),
  (37, oc_X2_withBoat 40),
  (40, ix_iload 3 41),
  (41, ix_cmp (fun x y => x = y) 44 47),
  (44, ix_iload 4 46),
  (46, ix_iret),
  (47, ix_iinc 4 1 50),
  (50, ix_goto 14),
  (53, ix_push (vi 8) 55),
  (55, ix_iret)]
set_option maxRecDepth 20000 in
theorem a_X2_firstBest (l : Launch) : ix_AllS l cX2_firstBest 5 RX2 3 (some .int) o_X2_firstBest :=
  .cons (ix_s_aload_n dX2_firstBest_0 rfl) <|
  .cons (ix_s_getr (j := 0) tu_X2 rfl (by decide) (by decide) tw_219 rfl ts_1_0_r dX2_firstBest_1) <|
  .cons (ix_s_iload_n dX2_firstBest_4 rfl) <|
  .cons (ix_s_iload_n dX2_firstBest_5 rfl) <|
  .cons (oc_X2_slot_s (ix_s_calls (k_X2_slot l) (by decide) (by decide) tw_699 tw_10 tw_697 tw_698 ⟨by decide, by decide, by decide +kernel⟩ (fun _ => rfl) dX2_firstBest_6)) <|
  .cons (ix_s_iald dX2_firstBest_9) <|
  .cons (ix_s_istore_n dX2_firstBest_10 rfl (by decide)) <|
  .cons (ix_s_iconst dX2_firstBest_11 (by decide +kernel)) <|
  .cons (ix_s_istore dX2_firstBest_12 (by decide)) <|
  .cons (ix_s_iload dX2_firstBest_14) <|
  .cons (ix_s_aload_n dX2_firstBest_16 rfl) <|
  .cons (ix_s_geti (j := 3) tu_X2 rfl (by decide) (by decide) tw_222 rfl ts_1_3_i dX2_firstBest_17) <|
  .cons (ix_s_cmp_ge dX2_firstBest_20 (by decide)) <|
  .cons (ix_s_iload dX2_firstBest_23) <|
  .cons (ix_s_iload_n dX2_firstBest_25 rfl) <|
  .cons (oc_X2_isFree_s (ix_s_calls (k_X2_isFree l) (by decide) (by decide) tw_706 tw_10 tw_704 tw_705 ⟨by decide, by decide, by decide +kernel⟩ (fun _ => rfl) dX2_firstBest_26)) <|
  .cons (ix_s_if_eq dX2_firstBest_29 (by decide)) <|
  .cons (ix_s_aload_n dX2_firstBest_32 rfl) <|
  .cons (ix_s_iload_n dX2_firstBest_33 rfl) <|
  .cons (ix_s_iload_n dX2_firstBest_34 rfl) <|
  .cons (ix_s_iload dX2_firstBest_35) <|
  .cons (oc_X2_withBoat_s (ix_s_callv (t := 1) (k_X2_withBoat l) (by decide) (by decide) tw_710 tw_10 tw_707 tw_709 tp_13 ⟨by decide, by decide, by decide +kernel⟩ (by decide) rfl rfl (fun _ => ⟨_, _, rfl, rfl⟩) dX2_firstBest_37)) <|
  .cons (ix_s_iload_n dX2_firstBest_40 rfl) <|
  .cons (ix_s_cmp_ne dX2_firstBest_41 (by decide)) <|
  .cons (ix_s_iload dX2_firstBest_44) <|
  .cons (ix_s_iret dX2_firstBest_46 rfl) <|
  .cons (ix_s_iinc dX2_firstBest_47 (by decide +kernel) (by decide)) <|
  .cons (ix_s_goto dX2_firstBest_50 (by decide)) <|
  .cons (ix_s_bipush dX2_firstBest_53 (by decide +kernel)) <|
  .cons (ix_s_iret dX2_firstBest_55 rfl) <| .nil
theorem e_X2_firstBest_0 (Q : ix_R → Prop) (ls : ix_L) (st : List ix_V) (μ : ix_M) : ix_Ev o_X2_firstBest Q (0, ls, st, μ) = ix_aload 0 1 (ix_Ev o_X2_firstBest Q) Q ls st μ := ix_Ev.eq (a_X2_firstBest launch0) rfl ls st μ
theorem e_X2_firstBest_1 (Q : ix_R → Prop) (ls : ix_L) (st : List ix_V) (μ : ix_M) : ix_Ev o_X2_firstBest Q (1, ls, st, μ) = ix_getr 1 20 (fun _ => 97) 4 (ix_Ev o_X2_firstBest Q) Q ls st μ := ix_Ev.eq (a_X2_firstBest launch0) rfl ls st μ
theorem e_X2_firstBest_4 (Q : ix_R → Prop) (ls : ix_L) (st : List ix_V) (μ : ix_M) : ix_Ev o_X2_firstBest Q (4, ls, st, μ) = ix_iload 1 5 (ix_Ev o_X2_firstBest Q) Q ls st μ := ix_Ev.eq (a_X2_firstBest launch0) rfl ls st μ
theorem e_X2_firstBest_5 (Q : ix_R → Prop) (ls : ix_L) (st : List ix_V) (μ : ix_M) : ix_Ev o_X2_firstBest Q (5, ls, st, μ) = ix_iload 2 6 (ix_Ev o_X2_firstBest Q) Q ls st μ := ix_Ev.eq (a_X2_firstBest launch0) rfl ls st μ
theorem e_X2_firstBest_6 (Q : ix_R → Prop) (ls : ix_L) (st : List ix_V) (μ : ix_M) : ix_Ev o_X2_firstBest Q (6, ls, st, μ) = oc_X2_slot 9 (ix_Ev o_X2_firstBest Q) Q ls st μ := ix_Ev.eq (a_X2_firstBest launch0) rfl ls st μ
theorem e_X2_firstBest_9 (Q : ix_R → Prop) (ls : ix_L) (st : List ix_V) (μ : ix_M) : ix_Ev o_X2_firstBest Q (9, ls, st, μ) = ix_iald 10 (ix_Ev o_X2_firstBest Q) Q ls st μ := ix_Ev.eq (a_X2_firstBest launch0) rfl ls st μ
theorem e_X2_firstBest_10 (Q : ix_R → Prop) (ls : ix_L) (st : List ix_V) (μ : ix_M) : ix_Ev o_X2_firstBest Q (10, ls, st, μ) = ix_istore 3 11 (ix_Ev o_X2_firstBest Q) Q ls st μ := ix_Ev.eq (a_X2_firstBest launch0) rfl ls st μ
theorem e_X2_firstBest_11 (Q : ix_R → Prop) (ls : ix_L) (st : List ix_V) (μ : ix_M) : ix_Ev o_X2_firstBest Q (11, ls, st, μ) = ix_push (vi 0) 12 (ix_Ev o_X2_firstBest Q) Q ls st μ := ix_Ev.eq (a_X2_firstBest launch0) rfl ls st μ
theorem e_X2_firstBest_12 (Q : ix_R → Prop) (ls : ix_L) (st : List ix_V) (μ : ix_M) : ix_Ev o_X2_firstBest Q (12, ls, st, μ) = ix_istore 4 14 (ix_Ev o_X2_firstBest Q) Q ls st μ := ix_Ev.eq (a_X2_firstBest launch0) rfl ls st μ
theorem e_X2_firstBest_14 (Q : ix_R → Prop) (ls : ix_L) (st : List ix_V) (μ : ix_M) : ix_Ev o_X2_firstBest Q (14, ls, st, μ) = ix_iload 4 16 (ix_Ev o_X2_firstBest Q) Q ls st μ := ix_Ev.eq (a_X2_firstBest launch0) rfl ls st μ
theorem e_X2_firstBest_16 (Q : ix_R → Prop) (ls : ix_L) (st : List ix_V) (μ : ix_M) : ix_Ev o_X2_firstBest Q (16, ls, st, μ) = ix_aload 0 17 (ix_Ev o_X2_firstBest Q) Q ls st μ := ix_Ev.eq (a_X2_firstBest launch0) rfl ls st μ
theorem e_X2_firstBest_17 (Q : ix_R → Prop) (ls : ix_L) (st : List ix_V) (μ : ix_M) : ix_Ev o_X2_firstBest Q (17, ls, st, μ) = ix_geti 1 3 20 (ix_Ev o_X2_firstBest Q) Q ls st μ := ix_Ev.eq (a_X2_firstBest launch0) rfl ls st μ
theorem e_X2_firstBest_20 (Q : ix_R → Prop) (ls : ix_L) (st : List ix_V) (μ : ix_M) : ix_Ev o_X2_firstBest Q (20, ls, st, μ) = ix_cmp (fun x y => y ≤ x) 53 23 (ix_Ev o_X2_firstBest Q) Q ls st μ := ix_Ev.eq (a_X2_firstBest launch0) rfl ls st μ
theorem e_X2_firstBest_23 (Q : ix_R → Prop) (ls : ix_L) (st : List ix_V) (μ : ix_M) : ix_Ev o_X2_firstBest Q (23, ls, st, μ) = ix_iload 4 25 (ix_Ev o_X2_firstBest Q) Q ls st μ := ix_Ev.eq (a_X2_firstBest launch0) rfl ls st μ
theorem e_X2_firstBest_25 (Q : ix_R → Prop) (ls : ix_L) (st : List ix_V) (μ : ix_M) : ix_Ev o_X2_firstBest Q (25, ls, st, μ) = ix_iload 2 26 (ix_Ev o_X2_firstBest Q) Q ls st μ := ix_Ev.eq (a_X2_firstBest launch0) rfl ls st μ
theorem e_X2_firstBest_26 (Q : ix_R → Prop) (ls : ix_L) (st : List ix_V) (μ : ix_M) : ix_Ev o_X2_firstBest Q (26, ls, st, μ) = oc_X2_isFree 29 (ix_Ev o_X2_firstBest Q) Q ls st μ := ix_Ev.eq (a_X2_firstBest launch0) rfl ls st μ
theorem e_X2_firstBest_29 (Q : ix_R → Prop) (ls : ix_L) (st : List ix_V) (μ : ix_M) : ix_Ev o_X2_firstBest Q (29, ls, st, μ) = ix_if (fun x => x = 0) 47 32 (ix_Ev o_X2_firstBest Q) Q ls st μ := ix_Ev.eq (a_X2_firstBest launch0) rfl ls st μ
theorem e_X2_firstBest_32 (Q : ix_R → Prop) (ls : ix_L) (st : List ix_V) (μ : ix_M) : ix_Ev o_X2_firstBest Q (32, ls, st, μ) = ix_aload 0 33 (ix_Ev o_X2_firstBest Q) Q ls st μ := ix_Ev.eq (a_X2_firstBest launch0) rfl ls st μ
theorem e_X2_firstBest_33 (Q : ix_R → Prop) (ls : ix_L) (st : List ix_V) (μ : ix_M) : ix_Ev o_X2_firstBest Q (33, ls, st, μ) = ix_iload 1 34 (ix_Ev o_X2_firstBest Q) Q ls st μ := ix_Ev.eq (a_X2_firstBest launch0) rfl ls st μ
theorem e_X2_firstBest_34 (Q : ix_R → Prop) (ls : ix_L) (st : List ix_V) (μ : ix_M) : ix_Ev o_X2_firstBest Q (34, ls, st, μ) = ix_iload 2 35 (ix_Ev o_X2_firstBest Q) Q ls st μ := ix_Ev.eq (a_X2_firstBest launch0) rfl ls st μ
theorem e_X2_firstBest_35 (Q : ix_R → Prop) (ls : ix_L) (st : List ix_V) (μ : ix_M) : ix_Ev o_X2_firstBest Q (35, ls, st, μ) = ix_iload 4 37 (ix_Ev o_X2_firstBest Q) Q ls st μ := ix_Ev.eq (a_X2_firstBest launch0) rfl ls st μ
theorem e_X2_firstBest_37 (Q : ix_R → Prop) (ls : ix_L) (st : List ix_V) (μ : ix_M) : ix_Ev o_X2_firstBest Q (37, ls, st, μ) = oc_X2_withBoat 40 (ix_Ev o_X2_firstBest Q) Q ls st μ := ix_Ev.eq (a_X2_firstBest launch0) rfl ls st μ
theorem e_X2_firstBest_40 (Q : ix_R → Prop) (ls : ix_L) (st : List ix_V) (μ : ix_M) : ix_Ev o_X2_firstBest Q (40, ls, st, μ) = ix_iload 3 41 (ix_Ev o_X2_firstBest Q) Q ls st μ := ix_Ev.eq (a_X2_firstBest launch0) rfl ls st μ
theorem e_X2_firstBest_41 (Q : ix_R → Prop) (ls : ix_L) (st : List ix_V) (μ : ix_M) : ix_Ev o_X2_firstBest Q (41, ls, st, μ) = ix_cmp (fun x y => x = y) 44 47 (ix_Ev o_X2_firstBest Q) Q ls st μ := ix_Ev.eq (a_X2_firstBest launch0) rfl ls st μ
theorem e_X2_firstBest_44 (Q : ix_R → Prop) (ls : ix_L) (st : List ix_V) (μ : ix_M) : ix_Ev o_X2_firstBest Q (44, ls, st, μ) = ix_iload 4 46 (ix_Ev o_X2_firstBest Q) Q ls st μ := ix_Ev.eq (a_X2_firstBest launch0) rfl ls st μ
theorem e_X2_firstBest_46 (Q : ix_R → Prop) (ls : ix_L) (st : List ix_V) (μ : ix_M) : ix_Ev o_X2_firstBest Q (46, ls, st, μ) = ix_iret (ix_Ev o_X2_firstBest Q) Q ls st μ := ix_Ev.eq (a_X2_firstBest launch0) rfl ls st μ
theorem e_X2_firstBest_47 (Q : ix_R → Prop) (ls : ix_L) (st : List ix_V) (μ : ix_M) : ix_Ev o_X2_firstBest Q (47, ls, st, μ) = ix_iinc 4 1 50 (ix_Ev o_X2_firstBest Q) Q ls st μ := ix_Ev.eq (a_X2_firstBest launch0) rfl ls st μ
theorem e_X2_firstBest_50 (Q : ix_R → Prop) (ls : ix_L) (st : List ix_V) (μ : ix_M) : ix_Ev o_X2_firstBest Q (50, ls, st, μ) = ix_goto 14 (ix_Ev o_X2_firstBest Q) Q ls st μ := ix_Ev.eq (a_X2_firstBest launch0) rfl ls st μ
theorem e_X2_firstBest_53 (Q : ix_R → Prop) (ls : ix_L) (st : List ix_V) (μ : ix_M) : ix_Ev o_X2_firstBest Q (53, ls, st, μ) = ix_push (vi 8) 55 (ix_Ev o_X2_firstBest Q) Q ls st μ := ix_Ev.eq (a_X2_firstBest launch0) rfl ls st μ
theorem e_X2_firstBest_55 (Q : ix_R → Prop) (ls : ix_L) (st : List ix_V) (μ : ix_M) : ix_Ev o_X2_firstBest Q (55, ls, st, μ) = ix_iret (ix_Ev o_X2_firstBest Q) Q ls st μ := ix_Ev.eq (a_X2_firstBest launch0) rfl ls st μ
theorem l_X2_firstBest {W T N : Nat} {μ : ix_M} {Q : ix_R → Prop} (hW : W < 6) (hN : N ≤ 8) (hT : T < 2 ^ N) (hb : μ 96 3 = nI N) : ∀ k i : Nat, i + k = N → Q (some (vi (nI (mFb (bP (μ 97) (μ 129) (μ 130) W T) k i))), μ) →
    ix_Ev o_X2_firstBest Q (14, [some (vr 1 96), some (vi (nI W)), some (vi (nI T)), some (vi (μ 97 (256 * W + T))), some (vi (nI i))], [], μ) := by
  have h256 := p2le N hN
  intro k
  induction k with
  | zero =>
    intro i hi hQ
    have hi : i = N := hi
    subst hi
    have hle : nI i ≤ nI i := Int32.le_refl _
    rw [e_X2_firstBest_14]
    simp (decide := true) only [e_X2_firstBest_0, e_X2_firstBest_1, e_X2_firstBest_4, e_X2_firstBest_5, e_X2_firstBest_6, e_X2_firstBest_9, e_X2_firstBest_10, e_X2_firstBest_11, e_X2_firstBest_12, e_X2_firstBest_16, e_X2_firstBest_17, e_X2_firstBest_20, e_X2_firstBest_23, e_X2_firstBest_25, e_X2_firstBest_26, e_X2_firstBest_29, e_X2_firstBest_32, e_X2_firstBest_33, e_X2_firstBest_34, e_X2_firstBest_35, e_X2_firstBest_37, e_X2_firstBest_40, e_X2_firstBest_41, e_X2_firstBest_44, e_X2_firstBest_46, e_X2_firstBest_47, e_X2_firstBest_50, e_X2_firstBest_53, e_X2_firstBest_55, vi, vl, vr, oc_X2_isFree, T_X2_isFree, oc_X2_slot, T_X2_slot, oc_X2_withBoat, T_X2_withBoat, ix_push, ix_iload, ix_lload, ix_aload, ix_istore, ix_astore, ix_iinc, ix_bin, ix_div, ix_un, ix_i2l, ix_l2i, ix_lbin, ix_lsh, ix_lcmp, ix_dup, ix_dup2, ix_pop, ix_if, ix_cmp, ix_goto, ix_switch, ix_sw, ix_iret, ix_zret, ix_vret, ix_aret, ix_geti, ix_getr, ix_puti, ix_putz, ix_puts, ix_gets, ix_iald, ix_iast, ix_alen, ix_aald, ix_gval, ix_gcod, ix_bald, ix_blen, ix_sald, ix_nret, ix_math2, ix_math1, ix_acopy, Nat.add_assoc, Int32.reduceLT, Int32.reduceLE, Int32.reduceToNatClampNeg, Int32.reduceSub, Int32.reduceAdd, Nat.reduceAdd, Nat.reduceLeDiff, true_or, or_true, or_false, false_or, not_false_eq_true, not_true_eq_false, false_implies, true_implies, implies_true, and_self, mB_0, mB_01, Classical.not_not, Nat.zero_le, List.getElem?_cons_zero, List.getElem?_cons_succ, List.set_cons_zero, List.set_cons_succ, ix_nl, ix_cs, true_and, and_true, Option.toList_some, Option.toList_none, List.cons_append, List.nil_append, hb, hle]
    exact hQ
  | succ k ih =>
    intro i hi hQ
    have hng : ¬ nI N ≤ nI i := nI_ge (by omega) (by omega)
    have hF := mFree_nI (t := T) (b := i) (by omega) (by omega)
    unfold mFree at hF
    have hw1 : nI W + 1 = nI (W + 1) := nI_1 W
    have hi1 : nI i + 1 = nI (i + 1) := nI_1 i
    have hinW : vp_in (nI W) 6 := vp_in_nI hW (by decide)
    have hini : vp_in (nI i) 8 := vp_in_nI (by omega) (by decide)
    have hcW : (nI W).toNatClampNeg = W := nI_clamp (by omega)
    have hci : (nI i).toNatClampNeg = i := nI_clamp (by omega)
    have := ih (i + 1) (by omega)
    rw [e_X2_firstBest_14]
    by_cases hf : fr T i = true
    · have h2 := fr_lt N hN T hT i (by omega) hf
      have e1 : mSlot (nI (W + 1)) (mTk (nI T) (nI i)) = nI (256 * (W + 1) + (T + 2 ^ i)) := by rw [mTk_nI T (by omega) i (by omega) hf, mSlot_nI (W + 1) (by omega) _ (by omega)]
      have hin2 : vp_in (nI (256 * (W + 1) + (T + 2 ^ i))) 1792 := vp_in_nI (by omega) (by decide)
      have hc2 : (nI (256 * (W + 1) + (T + 2 ^ i))).toNatClampNeg = 256 * (W + 1) + (T + 2 ^ i) := nI_clamp (by omega)
      have hff := hF.mpr hf
      simp (decide := true) only [e_X2_firstBest_0, e_X2_firstBest_1, e_X2_firstBest_4, e_X2_firstBest_5, e_X2_firstBest_6, e_X2_firstBest_9, e_X2_firstBest_10, e_X2_firstBest_11, e_X2_firstBest_12, e_X2_firstBest_16, e_X2_firstBest_17, e_X2_firstBest_20, e_X2_firstBest_23, e_X2_firstBest_25, e_X2_firstBest_26, e_X2_firstBest_29, e_X2_firstBest_32, e_X2_firstBest_33, e_X2_firstBest_34, e_X2_firstBest_35, e_X2_firstBest_37, e_X2_firstBest_40, e_X2_firstBest_41, e_X2_firstBest_44, e_X2_firstBest_46, e_X2_firstBest_47, e_X2_firstBest_50, e_X2_firstBest_53, e_X2_firstBest_55, vi, vl, vr, oc_X2_isFree, T_X2_isFree, oc_X2_slot, T_X2_slot, oc_X2_withBoat, T_X2_withBoat, ix_push, ix_iload, ix_lload, ix_aload, ix_istore, ix_astore, ix_iinc, ix_bin, ix_div, ix_un, ix_i2l, ix_l2i, ix_lbin, ix_lsh, ix_lcmp, ix_dup, ix_dup2, ix_pop, ix_if, ix_cmp, ix_goto, ix_switch, ix_sw, ix_iret, ix_zret, ix_vret, ix_aret, ix_geti, ix_getr, ix_puti, ix_putz, ix_puts, ix_gets, ix_iald, ix_iast, ix_alen, ix_aald, ix_gval, ix_gcod, ix_bald, ix_blen, ix_sald, ix_nret, ix_math2, ix_math1, ix_acopy, Nat.add_assoc, Int32.reduceLT, Int32.reduceLE, Int32.reduceToNatClampNeg, Int32.reduceSub, Int32.reduceAdd, Nat.reduceAdd, Nat.reduceLeDiff, true_or, or_true, or_false, false_or, not_false_eq_true, not_true_eq_false, false_implies, true_implies, implies_true, and_self, mB_0, mB_01, Classical.not_not, Nat.zero_le, List.getElem?_cons_zero, List.getElem?_cons_succ, List.set_cons_zero, List.set_cons_succ, ix_nl, ix_cs, true_and, and_true, Option.toList_some, Option.toList_none, List.cons_append, List.nil_append, hb, hng, hff, hw1, hi1, e1, hin2, hc2, hinW, hini, hcW, hci, if_true]
      refine ⟨fun c => ?_, fun c => this ?_⟩
      · have hp : bP (μ 97) (μ 129) (μ 130) W T i = true := by simp [bP, hf, c]
        simp only [mFb, if_pos hp] at hQ
        exact hQ
      · have hp : ¬ bP (μ 97) (μ 129) (μ 130) W T i = true := by simp [bP, hf, c]
        simp only [mFb, if_neg hp] at hQ
        exact hQ
    · have hff : ¬ ((nI T >>> (nI i &&& 31)) &&& 1 = 0) := fun z => hf (hF.mp z)
      simp (decide := true) only [e_X2_firstBest_0, e_X2_firstBest_1, e_X2_firstBest_4, e_X2_firstBest_5, e_X2_firstBest_6, e_X2_firstBest_9, e_X2_firstBest_10, e_X2_firstBest_11, e_X2_firstBest_12, e_X2_firstBest_16, e_X2_firstBest_17, e_X2_firstBest_20, e_X2_firstBest_23, e_X2_firstBest_25, e_X2_firstBest_26, e_X2_firstBest_29, e_X2_firstBest_32, e_X2_firstBest_33, e_X2_firstBest_34, e_X2_firstBest_35, e_X2_firstBest_37, e_X2_firstBest_40, e_X2_firstBest_41, e_X2_firstBest_44, e_X2_firstBest_46, e_X2_firstBest_47, e_X2_firstBest_50, e_X2_firstBest_53, e_X2_firstBest_55, vi, vl, vr, oc_X2_isFree, T_X2_isFree, oc_X2_slot, T_X2_slot, oc_X2_withBoat, T_X2_withBoat, ix_push, ix_iload, ix_lload, ix_aload, ix_istore, ix_astore, ix_iinc, ix_bin, ix_div, ix_un, ix_i2l, ix_l2i, ix_lbin, ix_lsh, ix_lcmp, ix_dup, ix_dup2, ix_pop, ix_if, ix_cmp, ix_goto, ix_switch, ix_sw, ix_iret, ix_zret, ix_vret, ix_aret, ix_geti, ix_getr, ix_puti, ix_putz, ix_puts, ix_gets, ix_iald, ix_iast, ix_alen, ix_aald, ix_gval, ix_gcod, ix_bald, ix_blen, ix_sald, ix_nret, ix_math2, ix_math1, ix_acopy, Nat.add_assoc, Int32.reduceLT, Int32.reduceLE, Int32.reduceToNatClampNeg, Int32.reduceSub, Int32.reduceAdd, Nat.reduceAdd, Nat.reduceLeDiff, true_or, or_true, or_false, false_or, not_false_eq_true, not_true_eq_false, false_implies, true_implies, implies_true, and_self, mB_0, mB_01, Classical.not_not, Nat.zero_le, List.getElem?_cons_zero, List.getElem?_cons_succ, List.set_cons_zero, List.set_cons_succ, ix_nl, ix_cs, true_and, and_true, Option.toList_some, Option.toList_none, List.cons_append, List.nil_append, hb, hng, hff, hi1, if_false]
      refine this ?_
      have hp : ¬ bP (μ 97) (μ 129) (μ 130) W T i = true := by simp [bP, hf]
      simp only [mFb, if_neg hp] at hQ
      exact hQ
theorem r_X2_firstBest (o : Nat) (w : Int32) (t : Int32) (μ : ix_M) (Q : ix_R → Prop) (ok_o : o < ix_N ∧ ix_tag o = 1) (hT : T_X2_firstBest (o, w, t) μ Q) : ix_Ev o_X2_firstBest Q (0, [some (vr 1 o), some (vi w), some (vi t), none, none], [], μ) := by
  obtain rfl := ok_1 o ok_o.1 ok_o.2
  obtain ⟨W, T, N, rfl, hW, rfl, hN, hT, hb, hQ⟩ := hT
  have h256 := p2le N hN
  have e1 : mSlot (nI W) (nI T) = nI (256 * W + T) := mSlot_nI W (by omega) T (by omega)
  have hin2 : vp_in (nI (256 * W + T)) 1792 := vp_in_nI (by omega) (by decide)
  have hc2 : (nI (256 * W + T)).toNatClampNeg = 256 * W + T := nI_clamp (by omega)
  simp (decide := true) only [e_X2_firstBest_0, e_X2_firstBest_1, e_X2_firstBest_4, e_X2_firstBest_5, e_X2_firstBest_6, e_X2_firstBest_9, e_X2_firstBest_10, e_X2_firstBest_11, e_X2_firstBest_12, e_X2_firstBest_16, e_X2_firstBest_17, e_X2_firstBest_20, e_X2_firstBest_23, e_X2_firstBest_25, e_X2_firstBest_26, e_X2_firstBest_29, e_X2_firstBest_32, e_X2_firstBest_33, e_X2_firstBest_34, e_X2_firstBest_35, e_X2_firstBest_37, e_X2_firstBest_40, e_X2_firstBest_41, e_X2_firstBest_44, e_X2_firstBest_46, e_X2_firstBest_47, e_X2_firstBest_50, e_X2_firstBest_53, e_X2_firstBest_55, vi, vl, vr, oc_X2_isFree, T_X2_isFree, oc_X2_slot, T_X2_slot, oc_X2_withBoat, T_X2_withBoat, ix_push, ix_iload, ix_lload, ix_aload, ix_istore, ix_astore, ix_iinc, ix_bin, ix_div, ix_un, ix_i2l, ix_l2i, ix_lbin, ix_lsh, ix_lcmp, ix_dup, ix_dup2, ix_pop, ix_if, ix_cmp, ix_goto, ix_switch, ix_sw, ix_iret, ix_zret, ix_vret, ix_aret, ix_geti, ix_getr, ix_puti, ix_putz, ix_puts, ix_gets, ix_iald, ix_iast, ix_alen, ix_aald, ix_gval, ix_gcod, ix_bald, ix_blen, ix_sald, ix_nret, ix_math2, ix_math1, ix_acopy, Nat.add_assoc, Int32.reduceLT, Int32.reduceLE, Int32.reduceToNatClampNeg, Int32.reduceSub, Int32.reduceAdd, Nat.reduceAdd, Nat.reduceLeDiff, true_or, or_true, or_false, false_or, not_false_eq_true, not_true_eq_false, false_implies, true_implies, implies_true, and_self, mB_0, mB_01, Classical.not_not, Nat.zero_le, List.getElem?_cons_zero, List.getElem?_cons_succ, List.set_cons_zero, List.set_cons_succ, ix_nl, ix_cs, true_and, and_true, Option.toList_some, Option.toList_none, List.cons_append, List.nil_append, l97, e1, hin2, hc2]
  exact l_X2_firstBest hW hN hT hb N 0 (by omega) hQ
theorem k_X2_firstBest (l : Launch) : ix_Ct l yX2_firstBest cX2_firstBest 5 (some .int) 3 sh_X2_firstBest T_X2_firstBest := ix_ct (a_X2_firstBest l) rfl (by decide) (fun _ => Nat.le_of_ble_eq_true rfl) (fun x μ Q hok hT => r_X2_firstBest x.1 x.2.1 x.2.2 μ Q (ix_ok_at (hok (vr 1 x.1) (by simp [sh_X2_firstBest])) (by decide) (by decide)) hT)
/-- the boat of wearer w - 1 (8 at first), and which are taken -/
def bO (sv : Nat → Int32) (wa ba : Nat → Int32) (n : Nat) (w : Nat) : Nat × Nat := match w with
  | 0 => (8, 0)
  | w + 1 => (mFb (bP sv wa ba w (bO sv wa ba n w).2) n 0, if mFb (bP sv wa ba w (bO sv wa ba n w).2) n 0 < 8 then (bO sv wa ba n w).2 + 2 ^ mFb (bP sv wa ba w (bO sv wa ba n w).2) n 0 else (bO sv wa ba n w).2)
theorem mFb_spec {p : Nat → Bool} : ∀ k i, mFb p k i = 8 ∨ (i ≤ mFb p k i ∧ mFb p k i < i + k ∧ p (mFb p k i) = true)
  | 0, i => Or.inl rfl
  | k + 1, i => by
    unfold mFb
    split
    · rename_i h
      exact Or.inr ⟨Nat.le_refl _, by omega, h⟩
    · rcases mFb_spec (p := p) k (i + 1) with h | ⟨h1, h2, h3⟩
      · exact Or.inl h
      · exact Or.inr ⟨by omega, by omega, h3⟩
theorem bO_lt {sv : Nat → Int32} {wa ba : Nat → Int32} {n : Nat} (hn : n ≤ 8) : ∀ w, (bO sv wa ba n w).1 ≤ 8 ∧ (bO sv wa ba n w).2 < 2 ^ n
  | 0 => ⟨Nat.le_refl _, by have : 0 < 2 ^ n := Nat.pos_of_ne_zero (by simp); exact this⟩
  | w + 1 => by
    have ih := (bO_lt (sv := sv) (wa := wa) (ba := ba) hn w).2
    have h := mFb_spec (p := bP sv wa ba w (bO sv wa ba n w).2) n 0
    simp only [bO]
    refine ⟨by omega, ?_⟩
    split
    · rcases h with h | ⟨h1, h2, h3⟩
      · omega
      · have hf : fr (bO sv wa ba n w).2 (mFb (bP sv wa ba w (bO sv wa ba n w).2) n 0) = true := by
          unfold bP at h3
          simp only [Bool.and_eq_true] at h3
          exact h3.1
        exact fr_lt n hn _ ih _ (by omega) hf
    · exact ih
def T_X2_boatOf : Nat × Int32 → ix_M → (ix_R → Prop) → Prop := fun (_, w) μ Q => ∃ (W N : Nat), w = nI W ∧ W < 6 ∧ N ≤ 8 ∧ μ 96 3 = nI N ∧ Q (some (vi (nI (bO (μ 97) (μ 129) (μ 130) N (W + 1)).1)), μ)
def sh_X2_boatOf (x : Nat × Int32) : List ix_V := [vr 1 x.1, vi x.2]
theorem mo_X2_boatOf (x : Nat × Int32) (μ : ix_M) (Q Q' : ix_R → Prop) (h : ∀ r, Q r → Q' r) (hT : T_X2_boatOf x μ Q) : T_X2_boatOf x μ Q' := by
  obtain ⟨a0, a1⟩ := x
  (obtain ⟨W, N, h1, h2, h3, h4, h5⟩ := hT; exact ⟨W, N, h1, h2, h3, h4, h _ h5⟩)
def oc_X2_boatOf (n : Nat) : ix_Op := fun k _ ls st μ => match st with
  | .inl a1 :: .inr (.inr (t0, a0)) :: r => t0 = 1 ∧ ix_cs r ≤ 8 ∧ T_X2_boatOf (a0, a1) μ (fun q => k (n, ls, q.1.toList ++ r, q.2))
  | _ => False
theorem oc_X2_boatOf_s {l : Launch} {cc : ByteArray} {nL : Nat} {own : String} {d : Nat} {rt : Option FieldType} {pc n : Nat} (h : ix_S l cc nL own d rt pc (ix_call 2 sh_X2_boatOf T_X2_boatOf n)) : ix_S l cc nL own d rt pc (oc_X2_boatOf n) := by
  refine h.by (fun k Q ls st μ h => ?_) (fun k k' Q ls st μ hk h => ?_)
  · unfold oc_X2_boatOf at h
    split at h
    · rename_i a1 t0 a0 r
      obtain ⟨rfl, h1, h2⟩ := h
      exact ⟨h1, (a0, a1), rfl, _, h2, fun r h => h⟩
    · exact h.elim
  · unfold oc_X2_boatOf at h ⊢
    split at h
    · obtain ⟨rfl, h1, h2⟩ := h
      exact ⟨rfl, h1, mo_X2_boatOf _ _ _ _ (fun q hq => hk _ hq) h2⟩
    · exact h.elim
def o_X2_boatOf : List (Nat × ix_Op) := [
  (0, ix_push (vi 0) 1),
  (1, ix_istore 2 2),
  (2, ix_push (vi 8) 4),
  (4, ix_istore 3 5),
  (5, ix_push (vi 0) 6),
  (6, ix_istore 4 8),
  (8, ix_iload 4 10),
  (10, ix_iload 1 11),
  (11, ix_cmp (fun x y => y < x) 44 14),
  (14, ix_aload 0 15),
  (15, ix_iload 4 17),
  (17, ix_iload 2 18),
  (18, oc_X2_firstBest 21),
  (21, ix_istore 3 22),
  (22, ix_iload 3 23),
  (23, ix_push (vi 8) 25),
  (25, ix_cmp (fun x y => y ≤ x) 36 28),
  (28, ix_iload 2 29),
  (29, ix_push (vi 1) 30),
  (30, ix_iload 3 31),
  (31, ix_bin (fun x y => x <<< (y &&& 31)) 32),
  (32, ix_bin (fun x y => x ||| y) 33),
  (33, ix_goto 37),
  (36, ix_iload 2 37),
  (37, ix_istore 2 38),
  (38, ix_iinc 4 1 41),
  (41, ix_goto 8),
  (44, ix_iload 3 45),
  (45, ix_iret)]
set_option maxRecDepth 20000 in
theorem a_X2_boatOf (l : Launch) : ix_AllS l cX2_boatOf 5 RX2 4 (some .int) o_X2_boatOf :=
  .cons (ix_s_iconst dX2_boatOf_0 (by decide +kernel)) <|
  .cons (ix_s_istore_n dX2_boatOf_1 rfl (by decide)) <|
  .cons (ix_s_bipush dX2_boatOf_2 (by decide +kernel)) <|
  .cons (ix_s_istore_n dX2_boatOf_4 rfl (by decide)) <|
  .cons (ix_s_iconst dX2_boatOf_5 (by decide +kernel)) <|
  .cons (ix_s_istore dX2_boatOf_6 (by decide)) <|
  .cons (ix_s_iload dX2_boatOf_8) <|
  .cons (ix_s_iload_n dX2_boatOf_10 rfl) <|
  .cons (ix_s_cmp_gt dX2_boatOf_11 (by decide)) <|
  .cons (ix_s_aload_n dX2_boatOf_14 rfl) <|
  .cons (ix_s_iload dX2_boatOf_15) <|
  .cons (ix_s_iload_n dX2_boatOf_17 rfl) <|
  .cons (oc_X2_firstBest_s (ix_s_callv (t := 1) (k_X2_firstBest l) (by decide) (by decide) tw_724 tw_10 tw_721 tw_723 tp_14 ⟨by decide, by decide, by decide +kernel⟩ (by decide) rfl rfl (fun _ => ⟨_, _, rfl, rfl⟩) dX2_boatOf_18)) <|
  .cons (ix_s_istore_n dX2_boatOf_21 rfl (by decide)) <|
  .cons (ix_s_iload_n dX2_boatOf_22 rfl) <|
  .cons (ix_s_bipush dX2_boatOf_23 (by decide +kernel)) <|
  .cons (ix_s_cmp_ge dX2_boatOf_25 (by decide)) <|
  .cons (ix_s_iload_n dX2_boatOf_28 rfl) <|
  .cons (ix_s_iconst dX2_boatOf_29 (by decide +kernel)) <|
  .cons (ix_s_iload_n dX2_boatOf_30 rfl) <|
  .cons (ix_s_ishl dX2_boatOf_31) <|
  .cons (ix_s_ior dX2_boatOf_32) <|
  .cons (ix_s_goto dX2_boatOf_33 (by decide)) <|
  .cons (ix_s_iload_n dX2_boatOf_36 rfl) <|
  .cons (ix_s_istore_n dX2_boatOf_37 rfl (by decide)) <|
  .cons (ix_s_iinc dX2_boatOf_38 (by decide +kernel) (by decide)) <|
  .cons (ix_s_goto dX2_boatOf_41 (by decide)) <|
  .cons (ix_s_iload_n dX2_boatOf_44 rfl) <|
  .cons (ix_s_iret dX2_boatOf_45 rfl) <| .nil
theorem e_X2_boatOf_0 (Q : ix_R → Prop) (ls : ix_L) (st : List ix_V) (μ : ix_M) : ix_Ev o_X2_boatOf Q (0, ls, st, μ) = ix_push (vi 0) 1 (ix_Ev o_X2_boatOf Q) Q ls st μ := ix_Ev.eq (a_X2_boatOf launch0) rfl ls st μ
theorem e_X2_boatOf_1 (Q : ix_R → Prop) (ls : ix_L) (st : List ix_V) (μ : ix_M) : ix_Ev o_X2_boatOf Q (1, ls, st, μ) = ix_istore 2 2 (ix_Ev o_X2_boatOf Q) Q ls st μ := ix_Ev.eq (a_X2_boatOf launch0) rfl ls st μ
theorem e_X2_boatOf_2 (Q : ix_R → Prop) (ls : ix_L) (st : List ix_V) (μ : ix_M) : ix_Ev o_X2_boatOf Q (2, ls, st, μ) = ix_push (vi 8) 4 (ix_Ev o_X2_boatOf Q) Q ls st μ := ix_Ev.eq (a_X2_boatOf launch0) rfl ls st μ
theorem e_X2_boatOf_4 (Q : ix_R → Prop) (ls : ix_L) (st : List ix_V) (μ : ix_M) : ix_Ev o_X2_boatOf Q (4, ls, st, μ) = ix_istore 3 5 (ix_Ev o_X2_boatOf Q) Q ls st μ := ix_Ev.eq (a_X2_boatOf launch0) rfl ls st μ
theorem e_X2_boatOf_5 (Q : ix_R → Prop) (ls : ix_L) (st : List ix_V) (μ : ix_M) : ix_Ev o_X2_boatOf Q (5, ls, st, μ) = ix_push (vi 0) 6 (ix_Ev o_X2_boatOf Q) Q ls st μ := ix_Ev.eq (a_X2_boatOf launch0) rfl ls st μ
theorem e_X2_boatOf_6 (Q : ix_R → Prop) (ls : ix_L) (st : List ix_V) (μ : ix_M) : ix_Ev o_X2_boatOf Q (6, ls, st, μ) = ix_istore 4 8 (ix_Ev o_X2_boatOf Q) Q ls st μ := ix_Ev.eq (a_X2_boatOf launch0) rfl ls st μ
theorem e_X2_boatOf_8 (Q : ix_R → Prop) (ls : ix_L) (st : List ix_V) (μ : ix_M) : ix_Ev o_X2_boatOf Q (8, ls, st, μ) = ix_iload 4 10 (ix_Ev o_X2_boatOf Q) Q ls st μ := ix_Ev.eq (a_X2_boatOf launch0) rfl ls st μ
theorem e_X2_boatOf_10 (Q : ix_R → Prop) (ls : ix_L) (st : List ix_V) (μ : ix_M) : ix_Ev o_X2_boatOf Q (10, ls, st, μ) = ix_iload 1 11 (ix_Ev o_X2_boatOf Q) Q ls st μ := ix_Ev.eq (a_X2_boatOf launch0) rfl ls st μ
theorem e_X2_boatOf_11 (Q : ix_R → Prop) (ls : ix_L) (st : List ix_V) (μ : ix_M) : ix_Ev o_X2_boatOf Q (11, ls, st, μ) = ix_cmp (fun x y => y < x) 44 14 (ix_Ev o_X2_boatOf Q) Q ls st μ := ix_Ev.eq (a_X2_boatOf launch0) rfl ls st μ
theorem e_X2_boatOf_14 (Q : ix_R → Prop) (ls : ix_L) (st : List ix_V) (μ : ix_M) : ix_Ev o_X2_boatOf Q (14, ls, st, μ) = ix_aload 0 15 (ix_Ev o_X2_boatOf Q) Q ls st μ := ix_Ev.eq (a_X2_boatOf launch0) rfl ls st μ
theorem e_X2_boatOf_15 (Q : ix_R → Prop) (ls : ix_L) (st : List ix_V) (μ : ix_M) : ix_Ev o_X2_boatOf Q (15, ls, st, μ) = ix_iload 4 17 (ix_Ev o_X2_boatOf Q) Q ls st μ := ix_Ev.eq (a_X2_boatOf launch0) rfl ls st μ
theorem e_X2_boatOf_17 (Q : ix_R → Prop) (ls : ix_L) (st : List ix_V) (μ : ix_M) : ix_Ev o_X2_boatOf Q (17, ls, st, μ) = ix_iload 2 18 (ix_Ev o_X2_boatOf Q) Q ls st μ := ix_Ev.eq (a_X2_boatOf launch0) rfl ls st μ
theorem e_X2_boatOf_18 (Q : ix_R → Prop) (ls : ix_L) (st : List ix_V) (μ : ix_M) : ix_Ev o_X2_boatOf Q (18, ls, st, μ) = oc_X2_firstBest 21 (ix_Ev o_X2_boatOf Q) Q ls st μ := ix_Ev.eq (a_X2_boatOf launch0) rfl ls st μ
theorem e_X2_boatOf_21 (Q : ix_R → Prop) (ls : ix_L) (st : List ix_V) (μ : ix_M) : ix_Ev o_X2_boatOf Q (21, ls, st, μ) = ix_istore 3 22 (ix_Ev o_X2_boatOf Q) Q ls st μ := ix_Ev.eq (a_X2_boatOf launch0) rfl ls st μ
theorem e_X2_boatOf_22 (Q : ix_R → Prop) (ls : ix_L) (st : List ix_V) (μ : ix_M) : ix_Ev o_X2_boatOf Q (22, ls, st, μ) = ix_iload 3 23 (ix_Ev o_X2_boatOf Q) Q ls st μ := ix_Ev.eq (a_X2_boatOf launch0) rfl ls st μ
theorem e_X2_boatOf_23 (Q : ix_R → Prop) (ls : ix_L) (st : List ix_V) (μ : ix_M) : ix_Ev o_X2_boatOf Q (23, ls, st, μ) = ix_push (vi 8) 25 (ix_Ev o_X2_boatOf Q) Q ls st μ := ix_Ev.eq (a_X2_boatOf launch0) rfl ls st μ
theorem e_X2_boatOf_25 (Q : ix_R → Prop) (ls : ix_L) (st : List ix_V) (μ : ix_M) : ix_Ev o_X2_boatOf Q (25, ls, st, μ) = ix_cmp (fun x y => y ≤ x) 36 28 (ix_Ev o_X2_boatOf Q) Q ls st μ := ix_Ev.eq (a_X2_boatOf launch0) rfl ls st μ
theorem e_X2_boatOf_28 (Q : ix_R → Prop) (ls : ix_L) (st : List ix_V) (μ : ix_M) : ix_Ev o_X2_boatOf Q (28, ls, st, μ) = ix_iload 2 29 (ix_Ev o_X2_boatOf Q) Q ls st μ := ix_Ev.eq (a_X2_boatOf launch0) rfl ls st μ
theorem e_X2_boatOf_29 (Q : ix_R → Prop) (ls : ix_L) (st : List ix_V) (μ : ix_M) : ix_Ev o_X2_boatOf Q (29, ls, st, μ) = ix_push (vi 1) 30 (ix_Ev o_X2_boatOf Q) Q ls st μ := ix_Ev.eq (a_X2_boatOf launch0) rfl ls st μ
theorem e_X2_boatOf_30 (Q : ix_R → Prop) (ls : ix_L) (st : List ix_V) (μ : ix_M) : ix_Ev o_X2_boatOf Q (30, ls, st, μ) = ix_iload 3 31 (ix_Ev o_X2_boatOf Q) Q ls st μ := ix_Ev.eq (a_X2_boatOf launch0) rfl ls st μ
theorem e_X2_boatOf_31 (Q : ix_R → Prop) (ls : ix_L) (st : List ix_V) (μ : ix_M) : ix_Ev o_X2_boatOf Q (31, ls, st, μ) = ix_bin (fun x y => x <<< (y &&& 31)) 32 (ix_Ev o_X2_boatOf Q) Q ls st μ := ix_Ev.eq (a_X2_boatOf launch0) rfl ls st μ
theorem e_X2_boatOf_32 (Q : ix_R → Prop) (ls : ix_L) (st : List ix_V) (μ : ix_M) : ix_Ev o_X2_boatOf Q (32, ls, st, μ) = ix_bin (fun x y => x ||| y) 33 (ix_Ev o_X2_boatOf Q) Q ls st μ := ix_Ev.eq (a_X2_boatOf launch0) rfl ls st μ
theorem e_X2_boatOf_33 (Q : ix_R → Prop) (ls : ix_L) (st : List ix_V) (μ : ix_M) : ix_Ev o_X2_boatOf Q (33, ls, st, μ) = ix_goto 37 (ix_Ev o_X2_boatOf Q) Q ls st μ := ix_Ev.eq (a_X2_boatOf launch0) rfl ls st μ
theorem e_X2_boatOf_36 (Q : ix_R → Prop) (ls : ix_L) (st : List ix_V) (μ : ix_M) : ix_Ev o_X2_boatOf Q (36, ls, st, μ) = ix_iload 2 37 (ix_Ev o_X2_boatOf Q) Q ls st μ := ix_Ev.eq (a_X2_boatOf launch0) rfl ls st μ
theorem e_X2_boatOf_37 (Q : ix_R → Prop) (ls : ix_L) (st : List ix_V) (μ : ix_M) : ix_Ev o_X2_boatOf Q (37, ls, st, μ) = ix_istore 2 38 (ix_Ev o_X2_boatOf Q) Q ls st μ := ix_Ev.eq (a_X2_boatOf launch0) rfl ls st μ
theorem e_X2_boatOf_38 (Q : ix_R → Prop) (ls : ix_L) (st : List ix_V) (μ : ix_M) : ix_Ev o_X2_boatOf Q (38, ls, st, μ) = ix_iinc 4 1 41 (ix_Ev o_X2_boatOf Q) Q ls st μ := ix_Ev.eq (a_X2_boatOf launch0) rfl ls st μ
theorem e_X2_boatOf_41 (Q : ix_R → Prop) (ls : ix_L) (st : List ix_V) (μ : ix_M) : ix_Ev o_X2_boatOf Q (41, ls, st, μ) = ix_goto 8 (ix_Ev o_X2_boatOf Q) Q ls st μ := ix_Ev.eq (a_X2_boatOf launch0) rfl ls st μ
theorem e_X2_boatOf_44 (Q : ix_R → Prop) (ls : ix_L) (st : List ix_V) (μ : ix_M) : ix_Ev o_X2_boatOf Q (44, ls, st, μ) = ix_iload 3 45 (ix_Ev o_X2_boatOf Q) Q ls st μ := ix_Ev.eq (a_X2_boatOf launch0) rfl ls st μ
theorem e_X2_boatOf_45 (Q : ix_R → Prop) (ls : ix_L) (st : List ix_V) (μ : ix_M) : ix_Ev o_X2_boatOf Q (45, ls, st, μ) = ix_iret (ix_Ev o_X2_boatOf Q) Q ls st μ := ix_Ev.eq (a_X2_boatOf launch0) rfl ls st μ
theorem l_X2_boatOf {W N : Nat} {μ : ix_M} {Q : ix_R → Prop} (hW : W < 6) (hN : N ≤ 8) (hb : μ 96 3 = nI N) (hQ : Q (some (vi (nI (bO (μ 97) (μ 129) (μ 130) N (W + 1)).1)), μ)) : ∀ k i : Nat, i + k = W + 1 →
    ix_Ev o_X2_boatOf Q (8, [some (vr 1 96), some (vi (nI W)), some (vi (nI (bO (μ 97) (μ 129) (μ 130) N i).2)), some (vi (nI (bO (μ 97) (μ 129) (μ 130) N i).1)), some (vi (nI i))], [], μ) := by
  intro k
  induction k with
  | zero =>
    intro i hi
    have hi : i = W + 1 := hi
    subst hi
    have hlt : nI W < nI (W + 1) := nI_lt (by omega) (by omega)
    rw [e_X2_boatOf_8]
    simp (decide := true) only [e_X2_boatOf_0, e_X2_boatOf_1, e_X2_boatOf_2, e_X2_boatOf_4, e_X2_boatOf_5, e_X2_boatOf_6, e_X2_boatOf_10, e_X2_boatOf_11, e_X2_boatOf_14, e_X2_boatOf_15, e_X2_boatOf_17, e_X2_boatOf_18, e_X2_boatOf_21, e_X2_boatOf_22, e_X2_boatOf_23, e_X2_boatOf_25, e_X2_boatOf_28, e_X2_boatOf_29, e_X2_boatOf_30, e_X2_boatOf_31, e_X2_boatOf_32, e_X2_boatOf_33, e_X2_boatOf_36, e_X2_boatOf_37, e_X2_boatOf_38, e_X2_boatOf_41, e_X2_boatOf_44, e_X2_boatOf_45, vi, vl, vr, oc_X2_firstBest, T_X2_firstBest, ix_push, ix_iload, ix_lload, ix_aload, ix_istore, ix_astore, ix_iinc, ix_bin, ix_div, ix_un, ix_i2l, ix_l2i, ix_lbin, ix_lsh, ix_lcmp, ix_dup, ix_dup2, ix_pop, ix_if, ix_cmp, ix_goto, ix_switch, ix_sw, ix_iret, ix_zret, ix_vret, ix_aret, ix_geti, ix_getr, ix_puti, ix_putz, ix_puts, ix_gets, ix_iald, ix_iast, ix_alen, ix_aald, ix_gval, ix_gcod, ix_bald, ix_blen, ix_sald, ix_nret, ix_math2, ix_math1, ix_acopy, Nat.add_assoc, Int32.reduceLT, Int32.reduceLE, Int32.reduceToNatClampNeg, Int32.reduceSub, Int32.reduceAdd, Nat.reduceAdd, Nat.reduceLeDiff, true_or, or_true, or_false, false_or, not_false_eq_true, not_true_eq_false, false_implies, true_implies, implies_true, and_self, mB_0, mB_01, Classical.not_not, Nat.zero_le, List.getElem?_cons_zero, List.getElem?_cons_succ, List.set_cons_zero, List.set_cons_succ, ix_nl, ix_cs, true_and, and_true, Option.toList_some, Option.toList_none, List.cons_append, List.nil_append, hlt]
    exact hQ
  | succ k ih =>
    intro i hi
    have hng : ¬ nI W < nI i := nI_nlt (by omega) (by omega)
    have hi1 : nI i + 1 = nI (i + 1) := nI_1 i
    obtain ⟨g1, g2⟩ := bO_lt (sv := μ 97) (wa := μ 129) (ba := μ 130) hN i
    have h256 := p2le N hN
    have := ih (i + 1) (by omega)
    rw [e_X2_boatOf_8]
    simp (decide := true) only [e_X2_boatOf_0, e_X2_boatOf_1, e_X2_boatOf_2, e_X2_boatOf_4, e_X2_boatOf_5, e_X2_boatOf_6, e_X2_boatOf_10, e_X2_boatOf_11, e_X2_boatOf_14, e_X2_boatOf_15, e_X2_boatOf_17, e_X2_boatOf_18, e_X2_boatOf_21, e_X2_boatOf_22, e_X2_boatOf_23, e_X2_boatOf_25, e_X2_boatOf_28, e_X2_boatOf_29, e_X2_boatOf_30, e_X2_boatOf_31, e_X2_boatOf_32, e_X2_boatOf_33, e_X2_boatOf_36, e_X2_boatOf_37, e_X2_boatOf_38, e_X2_boatOf_41, e_X2_boatOf_44, e_X2_boatOf_45, vi, vl, vr, oc_X2_firstBest, T_X2_firstBest, ix_push, ix_iload, ix_lload, ix_aload, ix_istore, ix_astore, ix_iinc, ix_bin, ix_div, ix_un, ix_i2l, ix_l2i, ix_lbin, ix_lsh, ix_lcmp, ix_dup, ix_dup2, ix_pop, ix_if, ix_cmp, ix_goto, ix_switch, ix_sw, ix_iret, ix_zret, ix_vret, ix_aret, ix_geti, ix_getr, ix_puti, ix_putz, ix_puts, ix_gets, ix_iald, ix_iast, ix_alen, ix_aald, ix_gval, ix_gcod, ix_bald, ix_blen, ix_sald, ix_nret, ix_math2, ix_math1, ix_acopy, Nat.add_assoc, Int32.reduceLT, Int32.reduceLE, Int32.reduceToNatClampNeg, Int32.reduceSub, Int32.reduceAdd, Nat.reduceAdd, Nat.reduceLeDiff, true_or, or_true, or_false, false_or, not_false_eq_true, not_true_eq_false, false_implies, true_implies, implies_true, and_self, mB_0, mB_01, Classical.not_not, Nat.zero_le, List.getElem?_cons_zero, List.getElem?_cons_succ, List.set_cons_zero, List.set_cons_succ, ix_nl, ix_cs, true_and, and_true, Option.toList_some, Option.toList_none, List.cons_append, List.nil_append, hng, hi1]
    refine ⟨i, (bO (μ 97) (μ 129) (μ 130) N i).2, N, rfl, by omega, rfl, hN, g2, hb, ?_⟩
    simp only [bO] at this
    have h := mFb_spec (p := bP (μ 97) (μ 129) (μ 130) i (bO (μ 97) (μ 129) (μ 130) N i).2) N 0
    generalize hB : mFb (bP (μ 97) (μ 129) (μ 130) i (bO (μ 97) (μ 129) (μ 130) N i).2) N 0 = B at this h ⊢
    have hB8 : B ≤ 8 := by omega
    refine ⟨fun c => ?_, fun c => ?_⟩
    · have : ¬ B < 8 := fun z => by
        have := nI_ge z (by decide)
        exact this c
      rename_i th
      rw [if_neg this] at th
      exact th
    · have hlt : B < 8 := by
        rcases Nat.lt_or_ge B 8 with z | z
        · exact z
        · exact absurd (nI_le (a := 8) z (by omega)) c
      rw [if_pos hlt] at this
      have hf : fr (bO (μ 97) (μ 129) (μ 130) N i).2 B = true := by
        rcases h with h | ⟨-, -, h3⟩
        · omega
        · unfold bP at h3
          simp only [Bool.and_eq_true] at h3
          exact h3.1
      have e := mTk_nI (bO (μ 97) (μ 129) (μ 130) N i).2 (by omega) B hlt hf
      unfold mTk at e
      rw [e]
      exact this
theorem r_X2_boatOf (o : Nat) (w : Int32) (μ : ix_M) (Q : ix_R → Prop) (ok_o : o < ix_N ∧ ix_tag o = 1) (hT : T_X2_boatOf (o, w) μ Q) : ix_Ev o_X2_boatOf Q (0, [some (vr 1 o), some (vi w), none, none, none], [], μ) := by
  obtain rfl := ok_1 o ok_o.1 ok_o.2
  obtain ⟨W, N, rfl, hW, hN, hb, hQ⟩ := hT
  simp (decide := true) only [e_X2_boatOf_0, e_X2_boatOf_1, e_X2_boatOf_2, e_X2_boatOf_4, e_X2_boatOf_5, e_X2_boatOf_6, e_X2_boatOf_10, e_X2_boatOf_11, e_X2_boatOf_14, e_X2_boatOf_15, e_X2_boatOf_17, e_X2_boatOf_18, e_X2_boatOf_21, e_X2_boatOf_22, e_X2_boatOf_23, e_X2_boatOf_25, e_X2_boatOf_28, e_X2_boatOf_29, e_X2_boatOf_30, e_X2_boatOf_31, e_X2_boatOf_32, e_X2_boatOf_33, e_X2_boatOf_36, e_X2_boatOf_37, e_X2_boatOf_38, e_X2_boatOf_41, e_X2_boatOf_44, e_X2_boatOf_45, vi, vl, vr, oc_X2_firstBest, T_X2_firstBest, ix_push, ix_iload, ix_lload, ix_aload, ix_istore, ix_astore, ix_iinc, ix_bin, ix_div, ix_un, ix_i2l, ix_l2i, ix_lbin, ix_lsh, ix_lcmp, ix_dup, ix_dup2, ix_pop, ix_if, ix_cmp, ix_goto, ix_switch, ix_sw, ix_iret, ix_zret, ix_vret, ix_aret, ix_geti, ix_getr, ix_puti, ix_putz, ix_puts, ix_gets, ix_iald, ix_iast, ix_alen, ix_aald, ix_gval, ix_gcod, ix_bald, ix_blen, ix_sald, ix_nret, ix_math2, ix_math1, ix_acopy, Nat.add_assoc, Int32.reduceLT, Int32.reduceLE, Int32.reduceToNatClampNeg, Int32.reduceSub, Int32.reduceAdd, Nat.reduceAdd, Nat.reduceLeDiff, true_or, or_true, or_false, false_or, not_false_eq_true, not_true_eq_false, false_implies, true_implies, implies_true, and_self, mB_0, mB_01, Classical.not_not, Nat.zero_le, List.getElem?_cons_zero, List.getElem?_cons_succ, List.set_cons_zero, List.set_cons_succ, ix_nl, ix_cs, true_and, and_true, Option.toList_some, Option.toList_none, List.cons_append, List.nil_append]
  exact l_X2_boatOf hW hN hb hQ (W + 1) 0 (by omega)
theorem k_X2_boatOf (l : Launch) : ix_Ct l yX2_boatOf cX2_boatOf 5 (some .int) 4 sh_X2_boatOf T_X2_boatOf := ix_ct (a_X2_boatOf l) rfl (by decide) (fun _ => Nat.le_of_ble_eq_true rfl) (fun x μ Q hok hT => r_X2_boatOf x.1 x.2 μ Q (ix_ok_at (hok (vr 1 x.1) (by simp [sh_X2_boatOf])) (by decide) (by decide)) hT)
