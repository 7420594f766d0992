/-! ===== the check of an index ===== -/
/-- a method of ours from any arguments, of which the table knows some -/
theorem ix_met {l : Launch} {y : MethodName} {cc : ByteArray} {nL : Nat} {own : String} {rt : Option FieldType} {d : Nat} {ops : List (Nat × ix_Op)} {E : ix_E} {μ : ix_M} {Q : ix_R → Prop} {as : List Value} {L : ix_L} (hall : ix_AllS l cc nL own d rt ops) (hy : y.cls = own) (hpl : plainName y.cls = true) (hE : ix_EO E)
    (hlv : ix_lv E ((lg_sl as ++ List.replicate (nL - (lg_sl as).length) Slot.unset).toArray) nL L) (hev : ix_Ev ops Q (0, L, [], μ)) : Met l y (Cond.code y cc nL rt :: ix_TB) { frames := d, cells := 0, slots := 0, locals := 40 * d } (va_Pc as (ix_H E μ)) (ix_QB E Q) 0 0 (ix_A E) := by
  refine Met.ofW (cc := cc) (maxL := nL) (ret := rt) hpl rfl ?_
  intro p e s m args below meth c s₁ B hml hv
  obtain ⟨rfl, hH⟩ := hv
  have hts := atoms_spec (ws := Cond.code y cc nL rt :: ix_TB) B.pre
  have hown : s.vm.findClass own = some m.cls := by rw [← hy]; exact findClass_of_methodNamed B.named
  have hlocks := B.notSynchronized
  have hb := B.bytes
  have hx := B.exec
  have hr := B.returns
  have hC : ix_C p l e { frames := d, cells := 0, slots := 0, locals := 40 * d } s m as.toArray below meth c 0 0 (MQ below (ix_QB E Q) as.toArray s 0 0 (ix_A E)) E nL (ix_A E) cc own d rt Q := by
    refine ⟨hx, hb, hml, hown, fun w hw => hts w (List.mem_cons_of_mem _ hw), hH.2.1, hH.2.2, hE, fun _ h => h, fun _ _ h => h, ⟨Nat.le_refl _, Nat.le_refl _, Nat.le_refl _, Nat.le_refl _⟩, ?_⟩
    intro r μ' H locs ls pc hQ hokr hrd hP hS
    rcases r with _ | v | v | ⟨t, a⟩
    · obtain ⟨h1, h2⟩ := hrd
      exact W.vret hx hb (hr.trans h2) (fun t ht hW => ⟨⟨none, μ', hQ, hokr, rfl, ix_H.fin hH.2.1 hH.2.2 hP hS ht hW⟩, hS.F ht⟩) hS.2.2 h1
    · obtain ⟨h1, ty, h2, h3⟩ := hrd
      exact W.zret hx hb (hr.trans h2) h3 (fun t ht hW => ⟨⟨some (.inl v), μ', hQ, hokr, rfl, ix_H.fin hH.2.1 hH.2.2 hP hS ht hW⟩, hS.F ht⟩) hS.2.2 h1
    · exact hrd.elim
    · obtain ⟨h1, n, h2⟩ := hrd
      exact W.aret hx hb (hr.trans h2) (Or.inl ⟨n, rfl⟩) (Or.inr ⟨_, rfl⟩) (fun t' ht hW => ⟨⟨some (.inr (.inr (t, a))), μ', hQ, hokr, rfl, ix_H.fin hH.2.1 hH.2.2 hP hS ht hW⟩, hS.F ht⟩) hS.2.2 h1
  rw [lg_entry_eq]
  exact ix_Ev.sound hall hC hev s.heap [] _ hH.1 va_S.rf hlv (fun v hv => by cases hv)
def o_ck : List (Nat × ix_Op) := [
  (0, ix_iload 0 1),
  (1, ix_if (fun x => x < 0) 9 4),
  (4, ix_iload 0 5),
  (5, ix_iload 1 6),
  (6, ix_cmp (fun x y => x < y) 16 9),
  (16, ix_iload 0 17),
  (17, ix_iret)]
theorem a_ck (l : Launch) : ix_AllS l cJ3_checkIndex_8e157 3 RJ3 1 (some .int) o_ck :=
  .cons (ix_s_iload_n dJ3_checkIndex_8e157_0 rfl) <|
  .cons (ix_s_if_lt dJ3_checkIndex_8e157_1 (by decide)) <|
  .cons (ix_s_iload_n dJ3_checkIndex_8e157_4 rfl) <|
  .cons (ix_s_iload_n dJ3_checkIndex_8e157_5 rfl) <|
  .cons (ix_s_cmp_lt dJ3_checkIndex_8e157_6 (by decide)) <|
  .cons (ix_s_iload_n dJ3_checkIndex_8e157_16 rfl) <|
  .cons (ix_s_iret dJ3_checkIndex_8e157_17 rfl) <| .nil
theorem ix_ckm (l : Launch) {E : ix_E} (hE : ix_EO E) {μ : ix_M} {i n : Int32} {v : Value} (hv : v = .null ∨ ∃ t, v = .ref t) (h1 : ¬ i < 0) (h2 : i < n) : Met l yJ3_checkIndex_8e157 (Cond.code yJ3_checkIndex_8e157 cJ3_checkIndex_8e157 3 (some .int) :: ix_TB) { frames := 1, cells := 0, slots := 0, locals := 40 * 1 } (va_Pc [.int i, .int n, v] (ix_H E μ)) (ix_QB E (fun r => r = (some (vi i), μ))) 0 0 (ix_A E) := by
  have hcat : v.category = 1 := by
    rcases hv with rfl | ⟨t, rfl⟩ <;> rfl
  have hlen : (lg_sl [.int i, .int n, v]).length = 3 := by
    rcases hv with rfl | ⟨t, rfl⟩ <;> rfl
  refine ix_met (L := [some (vi i), some (vi n), none]) (a_ck l) rfl (by decide) hE ?_ ?_
  · have hl := lv_entry [.int i, .int n, v] (n := 3) (by rw [hlen]; exact Nat.le_refl _)
    refine ⟨rfl, hl.1, hl.2.1, fun j w hw => ?_, fun j w hw => ?_⟩
    · match j, hw with
      | 0, hw => cases hw; exact hl.2.2 (0, .int i) (by simp [lv_args])
      | 1, hw => cases hw; exact hl.2.2 (1, .int n) (by simp [lv_args, Value.category])
      | 2, hw => cases hw
      | j + 3, hw => simp at hw
    · match j, hw with
      | 0, hw => cases hw; exact ix_oki _
      | 1, hw => cases hw; exact ix_oki _
      | 2, hw => cases hw
      | j + 3, hw => simp at hw
  · refine ix_Ev.fold (a_ck l) rfl ?_
    refine ix_Ev.fold (a_ck l) rfl ?_
    refine ⟨fun h => absurd h h1, fun _ => ?_⟩
    refine ix_Ev.fold (a_ck l) rfl ?_
    refine ix_Ev.fold (a_ck l) rfl ?_
    refine ix_Ev.fold (a_ck l) rfl ?_
    refine ⟨fun _ => ?_, fun h => absurd h2 h⟩
    refine ix_Ev.fold (a_ck l) rfl ?_
    refine ix_Ev.fold (a_ck l) rfl ?_
    exact rfl
def ix_chk (z : Nat) : ix_Op := fun k _ ls st μ => match st with
  | .inl n :: .inl i :: st' => ¬ i < 0 ∧ i < n ∧ ix_cs st' ≤ 8 ∧ k (z, ls, st', μ)
  | _ => False
theorem ix_s_chk {l : Launch} {cc : ByteArray} {nL : Nat} {own : String} {d : Nat} {rt : Option FieldType} {pc : Nat} (ho : own = "java/lang/String") (hd0 : decode cc pc = .ok (.getstatic 1053, 3)) (hd1 : decode cc (pc + 3) = .ok (.invokestatic 1059, 3)) (hd2 : decode cc (pc + 3 + 3) = .ok (.pop, 1)) (hdd : 1 < d) : ix_S l cc nL own d rt pc (ix_chk (pc + 3 + 3 + 1)) := by
  subst ho
  refine ⟨fun k k' Q ls st μ hk h => ?_, fun p e R s m args below meth c cells slots Qw E A Q hC ls st μ h H locs lsa hP hS hl hok => ?_⟩
  · unfold ix_chk at h ⊢; split at h <;> first | exact ⟨h.1, h.2.1, h.2.2.1, hk _ h.2.2.2⟩ | exact h
  · unfold ix_chk at h; split at h
    · rename_i n i st'
      obtain ⟨h1, h2, h3, h⟩ := h
      obtain ⟨r1, r2, r3, r4⟩ := hC.2.2.2.2.2.2.2.2.2.2.1
      have key : ∀ v : Value, (v = .null ∨ ∃ t, v = .ref t) → W p l e R s m args below meth c H locs cells slots Qw (F0 m (pc + 3) lsa (v :: (Sum.inl n :: Sum.inl i :: st').map (ix_cv E))) := by
        intro v hv
        refine ix_after (E := E) (Q' := fun r => r = (some (vi i), μ)) (A := A) (rest := st'.map (ix_cv E)) (va_runS (As := [.int i, .int n, v]) (rest := st'.map (ix_cv E)) ⟨hC.1, hC.2.1, hC.2.2.1, hC.2.2.2.1, hC.2.2.2.2.1⟩ (ix_ckm l hC.2.2.2.2.2.2.2.1 hv h1 h2) ⟨callB_of 3 hC.2.2.2.2.1 (ix_TB_good tw_1026) rfl rfl rfl (hC.2.2.2.2.1 _ tw_18) (hC.2.2.2.2.1 _ tw_1024) ⟨by decide, by decide, by decide +kernel⟩ ⟨by show 1 + 1 ≤ _; omega, by show 8 + (3 + 11) + 40 * 1 ≤ _; omega⟩, hC.2.2.2.2.1 _ tw_1025⟩ ⟨ix_blind, fun U hU hW => ⟨rfl, ix_H.at hC hP hS hU hW⟩⟩ rfl rfl hl.2.1 rfl (lv_room (by rw [ix_cs_cat]; exact h3)) hd1 ⟨r3, r4⟩) hS hC.2.2.2.2.2.2.2.2.1 (fun r H1 locs1 hQ hokr hP1 hS1 => ?_)
        cases hQ
        exact lv_pop hC.1 hC.2.1 hd2 rfl (h H1 locs1 lsa hP1 hS1 hl (ix_ok_tl (ix_ok_tl hok)))
      rcases hC.2.2.2.2.2.2.1.2.2.2.2 with hz | ⟨t, hz⟩
      · exact va_gets hC.1 hC.2.1 (hC.Z hz) hS hC.2.2.2.1 (hC.2.2.2.2.1 _ tw_538) (fun _ hx => hx) hd0 (key _ (Or.inl rfl))
      · exact va_gets hC.1 hC.2.1 (hC.Z hz) hS hC.2.2.2.1 (hC.2.2.2.2.1 _ tw_538) (fun _ hx => hx) hd0 (key _ (Or.inr ⟨t, rfl⟩))
    · exact h.elim
def T_J0_checkIndex_df160 : Int32 × Int32 → ix_M → (ix_R → Prop) → Prop := fun (i, n) μ Q => (¬ i < 0 ∧ i < n) ∧ Q (none, μ)
def sh_J0_checkIndex_df160 (x : Int32 × Int32) : List ix_V := [vi x.1, vi x.2]
theorem mo_J0_checkIndex_df160 (x : Int32 × Int32) (μ : ix_M) (Q Q' : ix_R → Prop) (h : ∀ r, Q r → Q' r) (hT : T_J0_checkIndex_df160 x μ Q) : T_J0_checkIndex_df160 x μ Q' := by
  obtain ⟨a0, a1⟩ := x
  first | exact h _ hT | exact ⟨hT.1, h _ hT.2⟩ | exact fun r hr => h _ (hT r hr) | exact ⟨hT.1, fun r hr => h _ (hT.2 r hr)⟩ | exact ⟨hT.1, hT.2.1, fun r hr => h _ (hT.2.2 r hr)⟩
def oc_J0_checkIndex_df160 (n : Nat) : ix_Op := fun k _ ls st μ => match st with
  | .inl a1 :: .inl a0 :: r => ix_cs r ≤ 8 ∧ T_J0_checkIndex_df160 (a0, a1) μ (fun q => k (n, ls, q.1.toList ++ r, q.2))
  | _ => False
theorem oc_J0_checkIndex_df160_s {l : Launch} {cc : ByteArray} {nL : Nat} {own : String} {d : Nat} {rt : Option FieldType} {pc n : Nat} (h : ix_S l cc nL own d rt pc (ix_call 2 sh_J0_checkIndex_df160 T_J0_checkIndex_df160 n)) : ix_S l cc nL own d rt pc (oc_J0_checkIndex_df160 n) := by
  refine h.by (fun k Q ls st μ h => ?_) (fun k k' Q ls st μ hk h => ?_)
  · unfold oc_J0_checkIndex_df160 at h
    split at h
    · rename_i a1 a0 r
      obtain ⟨h1, h2⟩ := h
      exact ⟨h1, (a0, a1), rfl, _, h2, fun r h => h⟩
    · exact h.elim
  · unfold oc_J0_checkIndex_df160 at h ⊢
    split at h
    · obtain ⟨h1, h2⟩ := h
      exact ⟨h1, mo_J0_checkIndex_df160 _ _ _ _ (fun q hq => hk _ hq) h2⟩
    · exact h.elim
def o_J0_checkIndex_df160 : List (Nat × ix_Op) := [
  (0, ix_iload 0 1),
  (1, ix_iload 1 2),
  (2, ix_chk 9),
  (9, ix_vret)]
set_option maxRecDepth 20000 in
theorem a_J0_checkIndex_df160 (l : Launch) : ix_AllS l cJ0_checkIndex_df160 2 RJ0 2 none o_J0_checkIndex_df160 :=
  .cons (ix_s_iload_n dJ0_checkIndex_df160_0 rfl) <|
  .cons (ix_s_iload_n dJ0_checkIndex_df160_1 rfl) <|
  .cons (ix_s_chk rfl dJ0_checkIndex_df160_2 dJ0_checkIndex_df160_5 dJ0_checkIndex_df160_8 (by decide)) <|
  .cons (ix_s_vret dJ0_checkIndex_df160_9 rfl) <| .nil
theorem e_J0_checkIndex_df160_0 (Q : ix_R → Prop) (ls : ix_L) (st : List ix_V) (μ : ix_M) : ix_Ev o_J0_checkIndex_df160 Q (0, ls, st, μ) = ix_iload 0 1 (ix_Ev o_J0_checkIndex_df160 Q) Q ls st μ := ix_Ev.eq (a_J0_checkIndex_df160 launch0) rfl ls st μ
theorem e_J0_checkIndex_df160_1 (Q : ix_R → Prop) (ls : ix_L) (st : List ix_V) (μ : ix_M) : ix_Ev o_J0_checkIndex_df160 Q (1, ls, st, μ) = ix_iload 1 2 (ix_Ev o_J0_checkIndex_df160 Q) Q ls st μ := ix_Ev.eq (a_J0_checkIndex_df160 launch0) rfl ls st μ
theorem e_J0_checkIndex_df160_2 (Q : ix_R → Prop) (ls : ix_L) (st : List ix_V) (μ : ix_M) : ix_Ev o_J0_checkIndex_df160 Q (2, ls, st, μ) = ix_chk 9 (ix_Ev o_J0_checkIndex_df160 Q) Q ls st μ := ix_Ev.eq (a_J0_checkIndex_df160 launch0) rfl ls st μ
theorem e_J0_checkIndex_df160_9 (Q : ix_R → Prop) (ls : ix_L) (st : List ix_V) (μ : ix_M) : ix_Ev o_J0_checkIndex_df160 Q (9, ls, st, μ) = ix_vret (ix_Ev o_J0_checkIndex_df160 Q) Q ls st μ := ix_Ev.eq (a_J0_checkIndex_df160 launch0) rfl ls st μ
theorem r_J0_checkIndex_df160 (i : Int32) (n : Int32) (μ : ix_M) (Q : ix_R → Prop) (hT : T_J0_checkIndex_df160 (i, n) μ Q) : ix_Ev o_J0_checkIndex_df160 Q (0, [some (vi i), some (vi n)], [], μ) := by
  simp (decide := true) only [e_J0_checkIndex_df160_0, e_J0_checkIndex_df160_1, e_J0_checkIndex_df160_2, e_J0_checkIndex_df160_9, vi, vl, vr, ix_push, ix_iload, ix_lload, ix_aload, ix_istore, ix_astore, ix_iinc, ix_bin, ix_div, ix_un, ix_i2l, ix_l2i, ix_lbin, ix_lsh, ix_lcmp, ix_dup, ix_dup2, ix_pop, ix_if, ix_cmp, ix_goto, ix_switch, ix_sw, ix_iret, ix_zret, ix_vret, ix_aret, ix_geti, ix_getr, ix_puti, ix_putz, ix_puts, ix_gets, ix_iald, ix_iast, ix_alen, ix_aald, ix_gval, ix_gcod, ix_bald, ix_blen, ix_sald, ix_nret, ix_math2, ix_math1, ix_acopy, ix_chk, Nat.add_assoc, Int32.reduceLT, Int32.reduceLE, Int32.reduceToNatClampNeg, Int32.reduceSub, Int32.reduceAdd, Nat.reduceAdd, Nat.reduceLeDiff, true_or, or_true, or_false, false_or, not_false_eq_true, not_true_eq_false, false_implies, true_implies, implies_true, and_self, mB_0, mB_01, Classical.not_not, Nat.zero_le, List.getElem?_cons_zero, List.getElem?_cons_succ, List.set_cons_zero, List.set_cons_succ, ix_nl, ix_cs, true_and, and_true, Option.toList_some, Option.toList_none, List.cons_append, List.nil_append]
  exact ⟨hT.1.1, hT.1.2, hT.2⟩
theorem k_J0_checkIndex_df160 (l : Launch) : ix_Ct l yJ0_checkIndex_df160 cJ0_checkIndex_df160 2 none 2 sh_J0_checkIndex_df160 T_J0_checkIndex_df160 := ix_ct (a_J0_checkIndex_df160 l) rfl (by decide) (fun _ => Nat.le_of_ble_eq_true rfl) (fun x μ Q hok hT => r_J0_checkIndex_df160 x.1 x.2 μ Q  hT)
def T_J1_charAt_3b067 : Nat × Int32 → ix_M → (ix_R → Prop) → Prop := fun (a, i) μ Q => (¬ i < 0 ∧ i < nI (sLen a)) ∧ Q (some (vi (sByte a i.toNatClampNeg)), μ)
def sh_J1_charAt_3b067 (x : Nat × Int32) : List ix_V := [vr 26 x.1, vi x.2]
theorem mo_J1_charAt_3b067 (x : Nat × Int32) (μ : ix_M) (Q Q' : ix_R → Prop) (h : ∀ r, Q r → Q' r) (hT : T_J1_charAt_3b067 x μ Q) : T_J1_charAt_3b067 x μ Q' := by
  obtain ⟨a0, a1⟩ := x
  first | exact h _ hT | exact ⟨hT.1, h _ hT.2⟩ | exact fun r hr => h _ (hT r hr) | exact ⟨hT.1, fun r hr => h _ (hT.2 r hr)⟩ | exact ⟨hT.1, hT.2.1, fun r hr => h _ (hT.2.2 r hr)⟩
def oc_J1_charAt_3b067 (n : Nat) : ix_Op := fun k _ ls st μ => match st with
  | .inl a1 :: .inr (.inr (t0, a0)) :: r => t0 = 26 ∧ ix_cs r ≤ 8 ∧ T_J1_charAt_3b067 (a0, a1) μ (fun q => k (n, ls, q.1.toList ++ r, q.2))
  | _ => False
theorem oc_J1_charAt_3b067_s {l : Launch} {cc : ByteArray} {nL : Nat} {own : String} {d : Nat} {rt : Option FieldType} {pc n : Nat} (h : ix_S l cc nL own d rt pc (ix_call 2 sh_J1_charAt_3b067 T_J1_charAt_3b067 n)) : ix_S l cc nL own d rt pc (oc_J1_charAt_3b067 n) := by
  refine h.by (fun k Q ls st μ h => ?_) (fun k k' Q ls st μ hk h => ?_)
  · unfold oc_J1_charAt_3b067 at h
    split at h
    · rename_i a1 t0 a0 r
      obtain ⟨rfl, h1, h2⟩ := h
      exact ⟨h1, (a0, a1), rfl, _, h2, fun r h => h⟩
    · exact h.elim
  · unfold oc_J1_charAt_3b067 at h ⊢
    split at h
    · obtain ⟨rfl, h1, h2⟩ := h
      exact ⟨rfl, h1, mo_J1_charAt_3b067 _ _ _ _ (fun q hq => hk _ hq) h2⟩
    · exact h.elim
def o_J1_charAt_3b067 : List (Nat × ix_Op) := [
  (0, ix_iload 1 1),
  (1, ix_aload 0 2),
  (2, ix_blen 3),
  (3, oc_J0_checkIndex_df160 6),
  (6, ix_aload 0 7),
  (7, ix_iload 1 8),
  (8, ix_bald 9),
  (9, ix_push (vi 255) 12),
  (12, ix_bin (fun x y => x &&& y) 13),
  (13, ix_un (fun x => (x.toUInt32 % 65536).toInt32) 14),
  (14, ix_nret .char)]
set_option maxRecDepth 20000 in
theorem a_J1_charAt_3b067 (l : Launch) : ix_AllS l cJ1_charAt_3b067 2 RJ1 3 (some .char) o_J1_charAt_3b067 :=
  .cons (ix_s_iload_n dJ1_charAt_3b067_0 rfl) <|
  .cons (ix_s_aload_n dJ1_charAt_3b067_1 rfl) <|
  .cons (ix_s_blen dJ1_charAt_3b067_2) <|
  .cons (oc_J0_checkIndex_df160_s (ix_s_calls (k_J0_checkIndex_df160 l) (by decide) (by decide) tw_1023 tw_15 tw_1021 tw_1022 ⟨by decide, by decide, by decide +kernel⟩ (fun _ => rfl) dJ1_charAt_3b067_3)) <|
  .cons (ix_s_aload_n dJ1_charAt_3b067_6 rfl) <|
  .cons (ix_s_iload_n dJ1_charAt_3b067_7 rfl) <|
  .cons (ix_s_bald dJ1_charAt_3b067_8) <|
  .cons (ix_s_sipush dJ1_charAt_3b067_9 (by decide +kernel)) <|
  .cons (ix_s_iand dJ1_charAt_3b067_12) <|
  .cons (ix_s_i2c dJ1_charAt_3b067_13) <|
  .cons (ix_s_nret dJ1_charAt_3b067_14 rfl) <| .nil
theorem e_J1_charAt_3b067_0 (Q : ix_R → Prop) (ls : ix_L) (st : List ix_V) (μ : ix_M) : ix_Ev o_J1_charAt_3b067 Q (0, ls, st, μ) = ix_iload 1 1 (ix_Ev o_J1_charAt_3b067 Q) Q ls st μ := ix_Ev.eq (a_J1_charAt_3b067 launch0) rfl ls st μ
theorem e_J1_charAt_3b067_1 (Q : ix_R → Prop) (ls : ix_L) (st : List ix_V) (μ : ix_M) : ix_Ev o_J1_charAt_3b067 Q (1, ls, st, μ) = ix_aload 0 2 (ix_Ev o_J1_charAt_3b067 Q) Q ls st μ := ix_Ev.eq (a_J1_charAt_3b067 launch0) rfl ls st μ
theorem e_J1_charAt_3b067_2 (Q : ix_R → Prop) (ls : ix_L) (st : List ix_V) (μ : ix_M) : ix_Ev o_J1_charAt_3b067 Q (2, ls, st, μ) = ix_blen 3 (ix_Ev o_J1_charAt_3b067 Q) Q ls st μ := ix_Ev.eq (a_J1_charAt_3b067 launch0) rfl ls st μ
theorem e_J1_charAt_3b067_3 (Q : ix_R → Prop) (ls : ix_L) (st : List ix_V) (μ : ix_M) : ix_Ev o_J1_charAt_3b067 Q (3, ls, st, μ) = oc_J0_checkIndex_df160 6 (ix_Ev o_J1_charAt_3b067 Q) Q ls st μ := ix_Ev.eq (a_J1_charAt_3b067 launch0) rfl ls st μ
theorem e_J1_charAt_3b067_6 (Q : ix_R → Prop) (ls : ix_L) (st : List ix_V) (μ : ix_M) : ix_Ev o_J1_charAt_3b067 Q (6, ls, st, μ) = ix_aload 0 7 (ix_Ev o_J1_charAt_3b067 Q) Q ls st μ := ix_Ev.eq (a_J1_charAt_3b067 launch0) rfl ls st μ
theorem e_J1_charAt_3b067_7 (Q : ix_R → Prop) (ls : ix_L) (st : List ix_V) (μ : ix_M) : ix_Ev o_J1_charAt_3b067 Q (7, ls, st, μ) = ix_iload 1 8 (ix_Ev o_J1_charAt_3b067 Q) Q ls st μ := ix_Ev.eq (a_J1_charAt_3b067 launch0) rfl ls st μ
theorem e_J1_charAt_3b067_8 (Q : ix_R → Prop) (ls : ix_L) (st : List ix_V) (μ : ix_M) : ix_Ev o_J1_charAt_3b067 Q (8, ls, st, μ) = ix_bald 9 (ix_Ev o_J1_charAt_3b067 Q) Q ls st μ := ix_Ev.eq (a_J1_charAt_3b067 launch0) rfl ls st μ
theorem e_J1_charAt_3b067_9 (Q : ix_R → Prop) (ls : ix_L) (st : List ix_V) (μ : ix_M) : ix_Ev o_J1_charAt_3b067 Q (9, ls, st, μ) = ix_push (vi 255) 12 (ix_Ev o_J1_charAt_3b067 Q) Q ls st μ := ix_Ev.eq (a_J1_charAt_3b067 launch0) rfl ls st μ
theorem e_J1_charAt_3b067_12 (Q : ix_R → Prop) (ls : ix_L) (st : List ix_V) (μ : ix_M) : ix_Ev o_J1_charAt_3b067 Q (12, ls, st, μ) = ix_bin (fun x y => x &&& y) 13 (ix_Ev o_J1_charAt_3b067 Q) Q ls st μ := ix_Ev.eq (a_J1_charAt_3b067 launch0) rfl ls st μ
theorem e_J1_charAt_3b067_13 (Q : ix_R → Prop) (ls : ix_L) (st : List ix_V) (μ : ix_M) : ix_Ev o_J1_charAt_3b067 Q (13, ls, st, μ) = ix_un (fun x => (x.toUInt32 % 65536).toInt32) 14 (ix_Ev o_J1_charAt_3b067 Q) Q ls st μ := ix_Ev.eq (a_J1_charAt_3b067 launch0) rfl ls st μ
theorem e_J1_charAt_3b067_14 (Q : ix_R → Prop) (ls : ix_L) (st : List ix_V) (μ : ix_M) : ix_Ev o_J1_charAt_3b067 Q (14, ls, st, μ) = ix_nret .char (ix_Ev o_J1_charAt_3b067 Q) Q ls st μ := ix_Ev.eq (a_J1_charAt_3b067 launch0) rfl ls st μ
theorem sByte_ch : ∀ a, a < 3 → ∀ i, i < 4 → narrow .char (.int (((sByte a i &&& 255).toUInt32 % 65536).toInt32)) = .int (((sByte a i &&& 255).toUInt32 % 65536).toInt32) ∧ ((sByte a i &&& 255).toUInt32 % 65536).toInt32 = sByte a i := by decide +kernel
theorem r_J1_charAt_3b067 (a : Nat) (i : Int32) (μ : ix_M) (Q : ix_R → Prop) (ok_a : a < 3) (hT : T_J1_charAt_3b067 (a, i) μ Q) : ix_Ev o_J1_charAt_3b067 Q (0, [some (vr 26 a), some (vi i)], [], μ) := by
  obtain ⟨⟨h0, h1⟩, hQ⟩ := hT
  have h3 := sLen_le a
  have hlt : i.toNatClampNeg < sLen a := by
    have := Int32.lt_iff_toInt_lt.mp h1
    have h00 := Int32.not_lt.mp h0
    have h01 := Int32.le_iff_toInt_le.mp h00
    rw [nI_toInt (by omega)] at this
    have e0 : (0 : Int32).toInt = 0 := rfl
    rw [e0] at h01
    rw [Int32.toNatClampNeg]
    omega
  have hin : vp_in i (sLen a) := vp_inI (by
    have h01 := Int32.le_iff_toInt_le.mp (Int32.not_lt.mp h0)
    exact h01) (by
    have := Int32.lt_iff_toInt_lt.mp h1
    rw [nI_toInt (by omega)] at this
    exact this)
  obtain ⟨g1, g2⟩ := sByte_ch a ok_a i.toNatClampNeg (by omega)
  simp (decide := true) only [e_J1_charAt_3b067_0, e_J1_charAt_3b067_1, e_J1_charAt_3b067_2, e_J1_charAt_3b067_3, e_J1_charAt_3b067_6, e_J1_charAt_3b067_7, e_J1_charAt_3b067_8, e_J1_charAt_3b067_9, e_J1_charAt_3b067_12, e_J1_charAt_3b067_13, e_J1_charAt_3b067_14, vi, vl, vr, oc_J0_checkIndex_df160, T_J0_checkIndex_df160, ix_push, ix_iload, ix_lload, ix_aload, ix_istore, ix_astore, ix_iinc, ix_bin, ix_div, ix_un, ix_i2l, ix_l2i, ix_lbin, ix_lsh, ix_lcmp, ix_dup, ix_dup2, ix_pop, ix_if, ix_cmp, ix_goto, ix_switch, ix_sw, ix_iret, ix_zret, ix_vret, ix_aret, ix_geti, ix_getr, ix_puti, ix_putz, ix_puts, ix_gets, ix_iald, ix_iast, ix_alen, ix_aald, ix_gval, ix_gcod, ix_bald, ix_blen, ix_sald, ix_nret, ix_math2, ix_math1, ix_acopy, Nat.add_assoc, Int32.reduceLT, Int32.reduceLE, Int32.reduceToNatClampNeg, Int32.reduceSub, Int32.reduceAdd, Nat.reduceAdd, Nat.reduceLeDiff, true_or, or_true, or_false, false_or, not_false_eq_true, not_true_eq_false, false_implies, true_implies, implies_true, and_self, mB_0, mB_01, Classical.not_not, Nat.zero_le, List.getElem?_cons_zero, List.getElem?_cons_succ, List.set_cons_zero, List.set_cons_succ, ix_nl, ix_cs, true_and, and_true, Option.toList_some, Option.toList_none, List.cons_append, List.nil_append]
  refine ⟨⟨h0, h1⟩, hin, g1, ?_⟩
  rw [g2]
  exact hQ
theorem k_J1_charAt_3b067 (l : Launch) : ix_Ct l yJ1_charAt_3b067 cJ1_charAt_3b067 2 (some .char) 3 sh_J1_charAt_3b067 T_J1_charAt_3b067 := ix_ct (a_J1_charAt_3b067 l) rfl (by decide) (fun _ => Nat.le_of_ble_eq_true rfl) (fun x μ Q hok hT => r_J1_charAt_3b067 x.1 x.2 μ Q (hok (vr 26 x.1) (by simp [sh_J1_charAt_3b067])) hT)
def T_J0_charAt_5068e : Nat × Int32 → ix_M → (ix_R → Prop) → Prop := fun (a, i) μ Q => (¬ i < 0 ∧ i < nI (sLen a)) ∧ Q (some (vi (sByte a i.toNatClampNeg)), μ)
def sh_J0_charAt_5068e (x : Nat × Int32) : List ix_V := [vr 24 x.1, vi x.2]
theorem mo_J0_charAt_5068e (x : Nat × Int32) (μ : ix_M) (Q Q' : ix_R → Prop) (h : ∀ r, Q r → Q' r) (hT : T_J0_charAt_5068e x μ Q) : T_J0_charAt_5068e x μ Q' := by
  obtain ⟨a0, a1⟩ := x
  first | exact h _ hT | exact ⟨hT.1, h _ hT.2⟩ | exact fun r hr => h _ (hT r hr) | exact ⟨hT.1, fun r hr => h _ (hT.2 r hr)⟩ | exact ⟨hT.1, hT.2.1, fun r hr => h _ (hT.2.2 r hr)⟩
def oc_J0_charAt_5068e (n : Nat) : ix_Op := fun k _ ls st μ => match st with
  | .inl a1 :: .inr (.inr (t0, a0)) :: r => t0 = 24 ∧ ix_cs r ≤ 8 ∧ T_J0_charAt_5068e (a0, a1) μ (fun q => k (n, ls, q.1.toList ++ r, q.2))
  | _ => False
theorem oc_J0_charAt_5068e_s {l : Launch} {cc : ByteArray} {nL : Nat} {own : String} {d : Nat} {rt : Option FieldType} {pc n : Nat} (h : ix_S l cc nL own d rt pc (ix_call 2 sh_J0_charAt_5068e T_J0_charAt_5068e n)) : ix_S l cc nL own d rt pc (oc_J0_charAt_5068e n) := by
  refine h.by (fun k Q ls st μ h => ?_) (fun k k' Q ls st μ hk h => ?_)
  · unfold oc_J0_charAt_5068e at h
    split at h
    · rename_i a1 t0 a0 r
      obtain ⟨rfl, h1, h2⟩ := h
      exact ⟨h1, (a0, a1), rfl, _, h2, fun r h => h⟩
    · exact h.elim
  · unfold oc_J0_charAt_5068e at h ⊢
    split at h
    · obtain ⟨rfl, h1, h2⟩ := h
      exact ⟨rfl, h1, mo_J0_charAt_5068e _ _ _ _ (fun q hq => hk _ hq) h2⟩
    · exact h.elim
def o_J0_charAt_5068e : List (Nat × ix_Op) := [
  (0, ix_aload 0 1),
  (1, oc_J0_isLatin1_aae02 4),
  (4, ix_if (fun x => x = 0) 16 7),
  (7, ix_aload 0 8),
  (8, ix_gval 11),
  (11, ix_iload 1 12),
  (12, oc_J1_charAt_3b067 15),
  (15, ix_nret .char)]
set_option maxRecDepth 20000 in
theorem a_J0_charAt_5068e (l : Launch) : ix_AllS l cJ0_charAt_5068e 2 RJ0 4 (some .char) o_J0_charAt_5068e :=
  .cons (ix_s_aload_n dJ0_charAt_5068e_0 rfl) <|
  .cons (oc_J0_isLatin1_aae02_s (ix_s_callS (k_J0_isLatin1_aae02 l) (by decide) (by decide) tw_498 tw_15 tw_495 tw_496 tw_497 ⟨by decide, by decide, by decide +kernel⟩ rfl (fun _ => ⟨_, _, rfl, rfl⟩) dJ0_charAt_5068e_1)) <|
  .cons (ix_s_if_eq dJ0_charAt_5068e_4 (by decide)) <|
  .cons (ix_s_aload_n dJ0_charAt_5068e_7 rfl) <|
  .cons (ix_s_gval tw_1404 dJ0_charAt_5068e_8) <|
  .cons (ix_s_iload_n dJ0_charAt_5068e_11 rfl) <|
  .cons (oc_J1_charAt_3b067_s (ix_s_calls (k_J1_charAt_3b067 l) (by decide) (by decide) tw_1020 tw_16 tw_1018 tw_1019 ⟨by decide, by decide, by decide +kernel⟩ (fun _ => rfl) dJ0_charAt_5068e_12)) <|
  .cons (ix_s_nret dJ0_charAt_5068e_15 rfl) <| .nil
theorem e_J0_charAt_5068e_0 (Q : ix_R → Prop) (ls : ix_L) (st : List ix_V) (μ : ix_M) : ix_Ev o_J0_charAt_5068e Q (0, ls, st, μ) = ix_aload 0 1 (ix_Ev o_J0_charAt_5068e Q) Q ls st μ := ix_Ev.eq (a_J0_charAt_5068e launch0) rfl ls st μ
theorem e_J0_charAt_5068e_1 (Q : ix_R → Prop) (ls : ix_L) (st : List ix_V) (μ : ix_M) : ix_Ev o_J0_charAt_5068e Q (1, ls, st, μ) = oc_J0_isLatin1_aae02 4 (ix_Ev o_J0_charAt_5068e Q) Q ls st μ := ix_Ev.eq (a_J0_charAt_5068e launch0) rfl ls st μ
theorem e_J0_charAt_5068e_4 (Q : ix_R → Prop) (ls : ix_L) (st : List ix_V) (μ : ix_M) : ix_Ev o_J0_charAt_5068e Q (4, ls, st, μ) = ix_if (fun x => x = 0) 16 7 (ix_Ev o_J0_charAt_5068e Q) Q ls st μ := ix_Ev.eq (a_J0_charAt_5068e launch0) rfl ls st μ
theorem e_J0_charAt_5068e_7 (Q : ix_R → Prop) (ls : ix_L) (st : List ix_V) (μ : ix_M) : ix_Ev o_J0_charAt_5068e Q (7, ls, st, μ) = ix_aload 0 8 (ix_Ev o_J0_charAt_5068e Q) Q ls st μ := ix_Ev.eq (a_J0_charAt_5068e launch0) rfl ls st μ
theorem e_J0_charAt_5068e_8 (Q : ix_R → Prop) (ls : ix_L) (st : List ix_V) (μ : ix_M) : ix_Ev o_J0_charAt_5068e Q (8, ls, st, μ) = ix_gval 11 (ix_Ev o_J0_charAt_5068e Q) Q ls st μ := ix_Ev.eq (a_J0_charAt_5068e launch0) rfl ls st μ
theorem e_J0_charAt_5068e_11 (Q : ix_R → Prop) (ls : ix_L) (st : List ix_V) (μ : ix_M) : ix_Ev o_J0_charAt_5068e Q (11, ls, st, μ) = ix_iload 1 12 (ix_Ev o_J0_charAt_5068e Q) Q ls st μ := ix_Ev.eq (a_J0_charAt_5068e launch0) rfl ls st μ
theorem e_J0_charAt_5068e_12 (Q : ix_R → Prop) (ls : ix_L) (st : List ix_V) (μ : ix_M) : ix_Ev o_J0_charAt_5068e Q (12, ls, st, μ) = oc_J1_charAt_3b067 15 (ix_Ev o_J0_charAt_5068e Q) Q ls st μ := ix_Ev.eq (a_J0_charAt_5068e launch0) rfl ls st μ
theorem e_J0_charAt_5068e_15 (Q : ix_R → Prop) (ls : ix_L) (st : List ix_V) (μ : ix_M) : ix_Ev o_J0_charAt_5068e Q (15, ls, st, μ) = ix_nret .char (ix_Ev o_J0_charAt_5068e Q) Q ls st μ := ix_Ev.eq (a_J0_charAt_5068e launch0) rfl ls st μ
theorem sByte_nc : ∀ a, a < 3 → ∀ i, i < 4 → narrow .char (.int (sByte a i)) = .int (sByte a i) := by decide +kernel
theorem r_J0_charAt_5068e (a : Nat) (i : Int32) (μ : ix_M) (Q : ix_R → Prop) (ok_a : a < 3) (hT : T_J0_charAt_5068e (a, i) μ Q) : ix_Ev o_J0_charAt_5068e Q (0, [some (vr 24 a), some (vi i)], [], μ) := by
  obtain ⟨⟨h0, h1⟩, hQ⟩ := hT
  have h3 := sLen_le a
  have hlt : i.toNatClampNeg < 4 := by
    have := Int32.lt_iff_toInt_lt.mp h1
    rw [nI_toInt (by omega)] at this
    rw [Int32.toNatClampNeg]
    omega
  simp (decide := true) only [e_J0_charAt_5068e_0, e_J0_charAt_5068e_1, e_J0_charAt_5068e_4, e_J0_charAt_5068e_7, e_J0_charAt_5068e_8, e_J0_charAt_5068e_11, e_J0_charAt_5068e_12, e_J0_charAt_5068e_15, vi, vl, vr, oc_J0_isLatin1_aae02, T_J0_isLatin1_aae02, oc_J1_charAt_3b067, T_J1_charAt_3b067, ix_push, ix_iload, ix_lload, ix_aload, ix_istore, ix_astore, ix_iinc, ix_bin, ix_div, ix_un, ix_i2l, ix_l2i, ix_lbin, ix_lsh, ix_lcmp, ix_dup, ix_dup2, ix_pop, ix_if, ix_cmp, ix_goto, ix_switch, ix_sw, ix_iret, ix_zret, ix_vret, ix_aret, ix_geti, ix_getr, ix_puti, ix_putz, ix_puts, ix_gets, ix_iald, ix_iast, ix_alen, ix_aald, ix_gval, ix_gcod, ix_bald, ix_blen, ix_sald, ix_nret, ix_math2, ix_math1, ix_acopy, Nat.add_assoc, Int32.reduceLT, Int32.reduceLE, Int32.reduceToNatClampNeg, Int32.reduceSub, Int32.reduceAdd, Nat.reduceAdd, Nat.reduceLeDiff, true_or, or_true, or_false, false_or, not_false_eq_true, not_true_eq_false, false_implies, true_implies, implies_true, and_self, mB_0, mB_01, Classical.not_not, Nat.zero_le, List.getElem?_cons_zero, List.getElem?_cons_succ, List.set_cons_zero, List.set_cons_succ, ix_nl, ix_cs, true_and, and_true, Option.toList_some, Option.toList_none, List.cons_append, List.nil_append]
  exact ⟨⟨h0, h1⟩, sByte_nc a ok_a _ hlt, hQ⟩
theorem k_J0_charAt_5068e (l : Launch) : ix_Ct l yJ0_charAt_5068e cJ0_charAt_5068e 2 (some .char) 4 sh_J0_charAt_5068e T_J0_charAt_5068e := ix_ct (a_J0_charAt_5068e l) rfl (by decide) (fun _ => Nat.le_of_ble_eq_true rfl) (fun x μ Q hok hT => r_J0_charAt_5068e x.1 x.2 μ Q (hok (vr 24 x.1) (by simp [sh_J0_charAt_5068e])) hT)
