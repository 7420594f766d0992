/-! ===== the model: sum, product ===== -/
def sh_X11_product (x : Nat) : List ix_V := [vr 10 x]
def ocr_X11_product (T : Nat → ix_M → (ix_R → Prop) → Prop) (n : Nat) : ix_Op := fun k _ ls st μ => match st with
  | .inr (.inr (t0, a0)) :: r => t0 = 10 ∧ ix_cs r ≤ 8 ∧ T a0 μ (fun q => k (n, ls, q.1.toList ++ r, q.2))
  | _ => False
theorem ocr_X11_product_s {T : Nat → ix_M → (ix_R → Prop) → Prop} (hm : ∀ x μ Q Q', (∀ r, Q r → Q' r) → T x μ Q → T x μ Q') {l : Launch} {cc : ByteArray} {nL : Nat} {own : String} {d : Nat} {rt : Option FieldType} {pc n : Nat} (h : ix_S l cc nL own d rt pc (ix_call 1 sh_X11_product T n)) : ix_S l cc nL own d rt pc (ocr_X11_product T n) := by
  refine h.by (fun k Q ls st μ h => ?_) (fun k k' Q ls st μ hk h => ?_)
  · unfold ocr_X11_product at h
    split at h
    · rename_i t0 a0 r
      obtain ⟨rfl, h1, h2⟩ := h
      exact ⟨h1, a0, rfl, _, h2, fun r h => h⟩
    · exact h.elim
  · unfold ocr_X11_product at h ⊢
    split at h
    · obtain ⟨rfl, h1, h2⟩ := h
      exact ⟨rfl, h1, hm _ _ _ _ (fun q hq => hk _ hq) h2⟩
    · exact h.elim
def sh_X11_one (x : Nat) : List ix_V := [vr 10 x]
def ocr_X11_one (T : Nat → ix_M → (ix_R → Prop) → Prop) (n : Nat) : ix_Op := fun k _ ls st μ => match st with
  | .inr (.inr (t0, a0)) :: r => t0 = 10 ∧ ix_cs r ≤ 8 ∧ T a0 μ (fun q => k (n, ls, q.1.toList ++ r, q.2))
  | _ => False
theorem ocr_X11_one_s {T : Nat → ix_M → (ix_R → Prop) → Prop} (hm : ∀ x μ Q Q', (∀ r, Q r → Q' r) → T x μ Q → T x μ Q') {l : Launch} {cc : ByteArray} {nL : Nat} {own : String} {d : Nat} {rt : Option FieldType} {pc n : Nat} (h : ix_S l cc nL own d rt pc (ix_call 1 sh_X11_one T n)) : ix_S l cc nL own d rt pc (ocr_X11_one T n) := by
  refine h.by (fun k Q ls st μ h => ?_) (fun k k' Q ls st μ hk h => ?_)
  · unfold ocr_X11_one at h
    split at h
    · rename_i t0 a0 r
      obtain ⟨rfl, h1, h2⟩ := h
      exact ⟨h1, a0, rfl, _, h2, fun r h => h⟩
    · exact h.elim
  · unfold ocr_X11_one at h ⊢
    split at h
    · obtain ⟨rfl, h1, h2⟩ := h
      exact ⟨rfl, h1, hm _ _ _ _ (fun q hq => hk _ hq) h2⟩
    · exact h.elim
def o_X11_sum (TX11_product : Nat → ix_M → (ix_R → Prop) → Prop) : List (Nat × ix_Op) := [
  (0, ix_aload 0 1),
  (1, ocr_X11_product TX11_product 4),
  (4, ix_aload 0 5),
  (5, ix_push (vi 43) 7),
  (7, oc_X11_takes 10),
  (10, ix_if (fun x => x = 0) 19 13),
  (13, ix_push (vi 20005) 16),
  (16, ix_goto 35),
  (19, ix_aload 0 20),
  (20, ix_push (vi 45) 22),
  (22, oc_X11_takes 25),
  (25, ix_if (fun x => x = 0) 34 28),
  (28, ix_push (vi 20006) 31),
  (31, ix_goto 35),
  (34, ix_push (vi 0) 35),
  (35, ix_istore 1 36),
  (36, ix_iload 1 37),
  (37, ix_if (fun x => x ≤ 0) 84 40),
  (40, ix_aload 0 41),
  (41, ocr_X11_product TX11_product 44),
  (44, ix_aload 0 45),
  (45, ix_iload 1 46),
  (46, oc_X11_codes 49),
  (49, ix_aload 0 50),
  (50, ix_push (vi 43) 52),
  (52, oc_X11_takes 55),
  (55, ix_if (fun x => x = 0) 64 58),
  (58, ix_push (vi 20005) 61),
  (61, ix_goto 80),
  (64, ix_aload 0 65),
  (65, ix_push (vi 45) 67),
  (67, oc_X11_takes 70),
  (70, ix_if (fun x => x = 0) 79 73),
  (73, ix_push (vi 20006) 76),
  (76, ix_goto 80),
  (79, ix_push (vi 0) 80),
  (80, ix_istore 1 81),
  (81, ix_goto 36),
  (84, ix_vret)]
set_option maxRecDepth 20000 in
theorem a_X11_sum (l : Launch) (d : Nat) (hlev : 6 ≤ d) {TX11_product : Nat → ix_M → (ix_R → Prop) → Prop} {d_X11_product : Nat} (h_X11_product : ix_Ct l yX11_product cX11_product 2 none d_X11_product sh_X11_product TX11_product) (hl_X11_product : d_X11_product < d) (hm_X11_product : ∀ x μ Q Q', (∀ r, Q r → Q' r) → TX11_product x μ Q → TX11_product x μ Q') : ix_AllS l cX11_sum 2 RX11 d none (o_X11_sum TX11_product) :=
  .cons (ix_s_aload_n dX11_sum_0 rfl) <|
  .cons (ocr_X11_product_s hm_X11_product (ix_s_callv (t := 10) h_X11_product hl_X11_product (by decide) tw_992 tw_12 tw_989 tw_991 tp_23 ⟨by decide, by decide, by decide +kernel⟩ (by decide) rfl rfl (fun _ => ⟨_, _, rfl, rfl⟩) dX11_sum_1)) <|
  .cons (ix_s_aload_n dX11_sum_4 rfl) <|
  .cons (ix_s_bipush dX11_sum_5 (by decide +kernel)) <|
  .cons (oc_X11_takes_s (ix_s_callv (t := 10) (k_X11_takes l) (by omega) (by decide) tw_1008 tw_12 tw_1005 tw_1007 tp_27 ⟨by decide, by decide, by decide +kernel⟩ (by decide) rfl rfl (fun _ => ⟨_, _, rfl, rfl⟩) dX11_sum_7)) <|
  .cons (ix_s_if_eq dX11_sum_10 (by decide)) <|
  .cons (ix_s_sipush dX11_sum_13 (by decide +kernel)) <|
  .cons (ix_s_goto dX11_sum_16 (by decide)) <|
  .cons (ix_s_aload_n dX11_sum_19 rfl) <|
  .cons (ix_s_bipush dX11_sum_20 (by decide +kernel)) <|
  .cons (oc_X11_takes_s (ix_s_callv (t := 10) (k_X11_takes l) (by omega) (by decide) tw_1008 tw_12 tw_1005 tw_1007 tp_27 ⟨by decide, by decide, by decide +kernel⟩ (by decide) rfl rfl (fun _ => ⟨_, _, rfl, rfl⟩) dX11_sum_22)) <|
  .cons (ix_s_if_eq dX11_sum_25 (by decide)) <|
  .cons (ix_s_sipush dX11_sum_28 (by decide +kernel)) <|
  .cons (ix_s_goto dX11_sum_31 (by decide)) <|
  .cons (ix_s_iconst dX11_sum_34 (by decide +kernel)) <|
  .cons (ix_s_istore_n dX11_sum_35 rfl (by decide)) <|
  .cons (ix_s_iload_n dX11_sum_36 rfl) <|
  .cons (ix_s_if_le dX11_sum_37 (by decide)) <|
  .cons (ix_s_aload_n dX11_sum_40 rfl) <|
  .cons (ocr_X11_product_s hm_X11_product (ix_s_callv (t := 10) h_X11_product hl_X11_product (by decide) tw_992 tw_12 tw_989 tw_991 tp_23 ⟨by decide, by decide, by decide +kernel⟩ (by decide) rfl rfl (fun _ => ⟨_, _, rfl, rfl⟩) dX11_sum_41)) <|
  .cons (ix_s_aload_n dX11_sum_44 rfl) <|
  .cons (ix_s_iload_n dX11_sum_45 rfl) <|
  .cons (oc_X11_codes_s (ix_s_callv (t := 10) (k_X11_codes l) (by omega) (by decide) tw_1004 tw_12 tw_1001 tw_1003 tp_26 ⟨by decide, by decide, by decide +kernel⟩ (by decide) rfl rfl (fun _ => ⟨_, _, rfl, rfl⟩) dX11_sum_46)) <|
  .cons (ix_s_aload_n dX11_sum_49 rfl) <|
  .cons (ix_s_bipush dX11_sum_50 (by decide +kernel)) <|
  .cons (oc_X11_takes_s (ix_s_callv (t := 10) (k_X11_takes l) (by omega) (by decide) tw_1008 tw_12 tw_1005 tw_1007 tp_27 ⟨by decide, by decide, by decide +kernel⟩ (by decide) rfl rfl (fun _ => ⟨_, _, rfl, rfl⟩) dX11_sum_52)) <|
  .cons (ix_s_if_eq dX11_sum_55 (by decide)) <|
  .cons (ix_s_sipush dX11_sum_58 (by decide +kernel)) <|
  .cons (ix_s_goto dX11_sum_61 (by decide)) <|
  .cons (ix_s_aload_n dX11_sum_64 rfl) <|
  .cons (ix_s_bipush dX11_sum_65 (by decide +kernel)) <|
  .cons (oc_X11_takes_s (ix_s_callv (t := 10) (k_X11_takes l) (by omega) (by decide) tw_1008 tw_12 tw_1005 tw_1007 tp_27 ⟨by decide, by decide, by decide +kernel⟩ (by decide) rfl rfl (fun _ => ⟨_, _, rfl, rfl⟩) dX11_sum_67)) <|
  .cons (ix_s_if_eq dX11_sum_70 (by decide)) <|
  .cons (ix_s_sipush dX11_sum_73 (by decide +kernel)) <|
  .cons (ix_s_goto dX11_sum_76 (by decide)) <|
  .cons (ix_s_iconst dX11_sum_79 (by decide +kernel)) <|
  .cons (ix_s_istore_n dX11_sum_80 rfl (by decide)) <|
  .cons (ix_s_goto dX11_sum_81 (by decide)) <|
  .cons (ix_s_vret dX11_sum_84 rfl) <| .nil
theorem e_X11_sum_0 {TX11_product : Nat → ix_M → (ix_R → Prop) → Prop} {l : Launch} {d : Nat} (H : ix_AllS l cX11_sum 2 RX11 d none (o_X11_sum TX11_product)) (Q : ix_R → Prop) (ls : ix_L) (st : List ix_V) (μ : ix_M) : ix_Ev (o_X11_sum TX11_product) Q (0, ls, st, μ) = ix_aload 0 1 (ix_Ev (o_X11_sum TX11_product) Q) Q ls st μ := ix_Ev.eq H rfl ls st μ
theorem e_X11_sum_1 {TX11_product : Nat → ix_M → (ix_R → Prop) → Prop} {l : Launch} {d : Nat} (H : ix_AllS l cX11_sum 2 RX11 d none (o_X11_sum TX11_product)) (Q : ix_R → Prop) (ls : ix_L) (st : List ix_V) (μ : ix_M) : ix_Ev (o_X11_sum TX11_product) Q (1, ls, st, μ) = ocr_X11_product TX11_product 4 (ix_Ev (o_X11_sum TX11_product) Q) Q ls st μ := ix_Ev.eq H rfl ls st μ
theorem e_X11_sum_4 {TX11_product : Nat → ix_M → (ix_R → Prop) → Prop} {l : Launch} {d : Nat} (H : ix_AllS l cX11_sum 2 RX11 d none (o_X11_sum TX11_product)) (Q : ix_R → Prop) (ls : ix_L) (st : List ix_V) (μ : ix_M) : ix_Ev (o_X11_sum TX11_product) Q (4, ls, st, μ) = ix_aload 0 5 (ix_Ev (o_X11_sum TX11_product) Q) Q ls st μ := ix_Ev.eq H rfl ls st μ
theorem e_X11_sum_5 {TX11_product : Nat → ix_M → (ix_R → Prop) → Prop} {l : Launch} {d : Nat} (H : ix_AllS l cX11_sum 2 RX11 d none (o_X11_sum TX11_product)) (Q : ix_R → Prop) (ls : ix_L) (st : List ix_V) (μ : ix_M) : ix_Ev (o_X11_sum TX11_product) Q (5, ls, st, μ) = ix_push (vi 43) 7 (ix_Ev (o_X11_sum TX11_product) Q) Q ls st μ := ix_Ev.eq H rfl ls st μ
theorem e_X11_sum_7 {TX11_product : Nat → ix_M → (ix_R → Prop) → Prop} {l : Launch} {d : Nat} (H : ix_AllS l cX11_sum 2 RX11 d none (o_X11_sum TX11_product)) (Q : ix_R → Prop) (ls : ix_L) (st : List ix_V) (μ : ix_M) : ix_Ev (o_X11_sum TX11_product) Q (7, ls, st, μ) = oc_X11_takes 10 (ix_Ev (o_X11_sum TX11_product) Q) Q ls st μ := ix_Ev.eq H rfl ls st μ
theorem e_X11_sum_10 {TX11_product : Nat → ix_M → (ix_R → Prop) → Prop} {l : Launch} {d : Nat} (H : ix_AllS l cX11_sum 2 RX11 d none (o_X11_sum TX11_product)) (Q : ix_R → Prop) (ls : ix_L) (st : List ix_V) (μ : ix_M) : ix_Ev (o_X11_sum TX11_product) Q (10, ls, st, μ) = ix_if (fun x => x = 0) 19 13 (ix_Ev (o_X11_sum TX11_product) Q) Q ls st μ := ix_Ev.eq H rfl ls st μ
theorem e_X11_sum_13 {TX11_product : Nat → ix_M → (ix_R → Prop) → Prop} {l : Launch} {d : Nat} (H : ix_AllS l cX11_sum 2 RX11 d none (o_X11_sum TX11_product)) (Q : ix_R → Prop) (ls : ix_L) (st : List ix_V) (μ : ix_M) : ix_Ev (o_X11_sum TX11_product) Q (13, ls, st, μ) = ix_push (vi 20005) 16 (ix_Ev (o_X11_sum TX11_product) Q) Q ls st μ := ix_Ev.eq H rfl ls st μ
theorem e_X11_sum_16 {TX11_product : Nat → ix_M → (ix_R → Prop) → Prop} {l : Launch} {d : Nat} (H : ix_AllS l cX11_sum 2 RX11 d none (o_X11_sum TX11_product)) (Q : ix_R → Prop) (ls : ix_L) (st : List ix_V) (μ : ix_M) : ix_Ev (o_X11_sum TX11_product) Q (16, ls, st, μ) = ix_goto 35 (ix_Ev (o_X11_sum TX11_product) Q) Q ls st μ := ix_Ev.eq H rfl ls st μ
theorem e_X11_sum_19 {TX11_product : Nat → ix_M → (ix_R → Prop) → Prop} {l : Launch} {d : Nat} (H : ix_AllS l cX11_sum 2 RX11 d none (o_X11_sum TX11_product)) (Q : ix_R → Prop) (ls : ix_L) (st : List ix_V) (μ : ix_M) : ix_Ev (o_X11_sum TX11_product) Q (19, ls, st, μ) = ix_aload 0 20 (ix_Ev (o_X11_sum TX11_product) Q) Q ls st μ := ix_Ev.eq H rfl ls st μ
theorem e_X11_sum_20 {TX11_product : Nat → ix_M → (ix_R → Prop) → Prop} {l : Launch} {d : Nat} (H : ix_AllS l cX11_sum 2 RX11 d none (o_X11_sum TX11_product)) (Q : ix_R → Prop) (ls : ix_L) (st : List ix_V) (μ : ix_M) : ix_Ev (o_X11_sum TX11_product) Q (20, ls, st, μ) = ix_push (vi 45) 22 (ix_Ev (o_X11_sum TX11_product) Q) Q ls st μ := ix_Ev.eq H rfl ls st μ
theorem e_X11_sum_22 {TX11_product : Nat → ix_M → (ix_R → Prop) → Prop} {l : Launch} {d : Nat} (H : ix_AllS l cX11_sum 2 RX11 d none (o_X11_sum TX11_product)) (Q : ix_R → Prop) (ls : ix_L) (st : List ix_V) (μ : ix_M) : ix_Ev (o_X11_sum TX11_product) Q (22, ls, st, μ) = oc_X11_takes 25 (ix_Ev (o_X11_sum TX11_product) Q) Q ls st μ := ix_Ev.eq H rfl ls st μ
theorem e_X11_sum_25 {TX11_product : Nat → ix_M → (ix_R → Prop) → Prop} {l : Launch} {d : Nat} (H : ix_AllS l cX11_sum 2 RX11 d none (o_X11_sum TX11_product)) (Q : ix_R → Prop) (ls : ix_L) (st : List ix_V) (μ : ix_M) : ix_Ev (o_X11_sum TX11_product) Q (25, ls, st, μ) = ix_if (fun x => x = 0) 34 28 (ix_Ev (o_X11_sum TX11_product) Q) Q ls st μ := ix_Ev.eq H rfl ls st μ
theorem e_X11_sum_28 {TX11_product : Nat → ix_M → (ix_R → Prop) → Prop} {l : Launch} {d : Nat} (H : ix_AllS l cX11_sum 2 RX11 d none (o_X11_sum TX11_product)) (Q : ix_R → Prop) (ls : ix_L) (st : List ix_V) (μ : ix_M) : ix_Ev (o_X11_sum TX11_product) Q (28, ls, st, μ) = ix_push (vi 20006) 31 (ix_Ev (o_X11_sum TX11_product) Q) Q ls st μ := ix_Ev.eq H rfl ls st μ
theorem e_X11_sum_31 {TX11_product : Nat → ix_M → (ix_R → Prop) → Prop} {l : Launch} {d : Nat} (H : ix_AllS l cX11_sum 2 RX11 d none (o_X11_sum TX11_product)) (Q : ix_R → Prop) (ls : ix_L) (st : List ix_V) (μ : ix_M) : ix_Ev (o_X11_sum TX11_product) Q (31, ls, st, μ) = ix_goto 35 (ix_Ev (o_X11_sum TX11_product) Q) Q ls st μ := ix_Ev.eq H rfl ls st μ
theorem e_X11_sum_34 {TX11_product : Nat → ix_M → (ix_R → Prop) → Prop} {l : Launch} {d : Nat} (H : ix_AllS l cX11_sum 2 RX11 d none (o_X11_sum TX11_product)) (Q : ix_R → Prop) (ls : ix_L) (st : List ix_V) (μ : ix_M) : ix_Ev (o_X11_sum TX11_product) Q (34, ls, st, μ) = ix_push (vi 0) 35 (ix_Ev (o_X11_sum TX11_product) Q) Q ls st μ := ix_Ev.eq H rfl ls st μ
theorem e_X11_sum_35 {TX11_product : Nat → ix_M → (ix_R → Prop) → Prop} {l : Launch} {d : Nat} (H : ix_AllS l cX11_sum 2 RX11 d none (o_X11_sum TX11_product)) (Q : ix_R → Prop) (ls : ix_L) (st : List ix_V) (μ : ix_M) : ix_Ev (o_X11_sum TX11_product) Q (35, ls, st, μ) = ix_istore 1 36 (ix_Ev (o_X11_sum TX11_product) Q) Q ls st μ := ix_Ev.eq H rfl ls st μ
theorem e_X11_sum_36 {TX11_product : Nat → ix_M → (ix_R → Prop) → Prop} {l : Launch} {d : Nat} (H : ix_AllS l cX11_sum 2 RX11 d none (o_X11_sum TX11_product)) (Q : ix_R → Prop) (ls : ix_L) (st : List ix_V) (μ : ix_M) : ix_Ev (o_X11_sum TX11_product) Q (36, ls, st, μ) = ix_iload 1 37 (ix_Ev (o_X11_sum TX11_product) Q) Q ls st μ := ix_Ev.eq H rfl ls st μ
theorem e_X11_sum_37 {TX11_product : Nat → ix_M → (ix_R → Prop) → Prop} {l : Launch} {d : Nat} (H : ix_AllS l cX11_sum 2 RX11 d none (o_X11_sum TX11_product)) (Q : ix_R → Prop) (ls : ix_L) (st : List ix_V) (μ : ix_M) : ix_Ev (o_X11_sum TX11_product) Q (37, ls, st, μ) = ix_if (fun x => x ≤ 0) 84 40 (ix_Ev (o_X11_sum TX11_product) Q) Q ls st μ := ix_Ev.eq H rfl ls st μ
theorem e_X11_sum_40 {TX11_product : Nat → ix_M → (ix_R → Prop) → Prop} {l : Launch} {d : Nat} (H : ix_AllS l cX11_sum 2 RX11 d none (o_X11_sum TX11_product)) (Q : ix_R → Prop) (ls : ix_L) (st : List ix_V) (μ : ix_M) : ix_Ev (o_X11_sum TX11_product) Q (40, ls, st, μ) = ix_aload 0 41 (ix_Ev (o_X11_sum TX11_product) Q) Q ls st μ := ix_Ev.eq H rfl ls st μ
theorem e_X11_sum_41 {TX11_product : Nat → ix_M → (ix_R → Prop) → Prop} {l : Launch} {d : Nat} (H : ix_AllS l cX11_sum 2 RX11 d none (o_X11_sum TX11_product)) (Q : ix_R → Prop) (ls : ix_L) (st : List ix_V) (μ : ix_M) : ix_Ev (o_X11_sum TX11_product) Q (41, ls, st, μ) = ocr_X11_product TX11_product 44 (ix_Ev (o_X11_sum TX11_product) Q) Q ls st μ := ix_Ev.eq H rfl ls st μ
theorem e_X11_sum_44 {TX11_product : Nat → ix_M → (ix_R → Prop) → Prop} {l : Launch} {d : Nat} (H : ix_AllS l cX11_sum 2 RX11 d none (o_X11_sum TX11_product)) (Q : ix_R → Prop) (ls : ix_L) (st : List ix_V) (μ : ix_M) : ix_Ev (o_X11_sum TX11_product) Q (44, ls, st, μ) = ix_aload 0 45 (ix_Ev (o_X11_sum TX11_product) Q) Q ls st μ := ix_Ev.eq H rfl ls st μ
theorem e_X11_sum_45 {TX11_product : Nat → ix_M → (ix_R → Prop) → Prop} {l : Launch} {d : Nat} (H : ix_AllS l cX11_sum 2 RX11 d none (o_X11_sum TX11_product)) (Q : ix_R → Prop) (ls : ix_L) (st : List ix_V) (μ : ix_M) : ix_Ev (o_X11_sum TX11_product) Q (45, ls, st, μ) = ix_iload 1 46 (ix_Ev (o_X11_sum TX11_product) Q) Q ls st μ := ix_Ev.eq H rfl ls st μ
theorem e_X11_sum_46 {TX11_product : Nat → ix_M → (ix_R → Prop) → Prop} {l : Launch} {d : Nat} (H : ix_AllS l cX11_sum 2 RX11 d none (o_X11_sum TX11_product)) (Q : ix_R → Prop) (ls : ix_L) (st : List ix_V) (μ : ix_M) : ix_Ev (o_X11_sum TX11_product) Q (46, ls, st, μ) = oc_X11_codes 49 (ix_Ev (o_X11_sum TX11_product) Q) Q ls st μ := ix_Ev.eq H rfl ls st μ
theorem e_X11_sum_49 {TX11_product : Nat → ix_M → (ix_R → Prop) → Prop} {l : Launch} {d : Nat} (H : ix_AllS l cX11_sum 2 RX11 d none (o_X11_sum TX11_product)) (Q : ix_R → Prop) (ls : ix_L) (st : List ix_V) (μ : ix_M) : ix_Ev (o_X11_sum TX11_product) Q (49, ls, st, μ) = ix_aload 0 50 (ix_Ev (o_X11_sum TX11_product) Q) Q ls st μ := ix_Ev.eq H rfl ls st μ
theorem e_X11_sum_50 {TX11_product : Nat → ix_M → (ix_R → Prop) → Prop} {l : Launch} {d : Nat} (H : ix_AllS l cX11_sum 2 RX11 d none (o_X11_sum TX11_product)) (Q : ix_R → Prop) (ls : ix_L) (st : List ix_V) (μ : ix_M) : ix_Ev (o_X11_sum TX11_product) Q (50, ls, st, μ) = ix_push (vi 43) 52 (ix_Ev (o_X11_sum TX11_product) Q) Q ls st μ := ix_Ev.eq H rfl ls st μ
theorem e_X11_sum_52 {TX11_product : Nat → ix_M → (ix_R → Prop) → Prop} {l : Launch} {d : Nat} (H : ix_AllS l cX11_sum 2 RX11 d none (o_X11_sum TX11_product)) (Q : ix_R → Prop) (ls : ix_L) (st : List ix_V) (μ : ix_M) : ix_Ev (o_X11_sum TX11_product) Q (52, ls, st, μ) = oc_X11_takes 55 (ix_Ev (o_X11_sum TX11_product) Q) Q ls st μ := ix_Ev.eq H rfl ls st μ
theorem e_X11_sum_55 {TX11_product : Nat → ix_M → (ix_R → Prop) → Prop} {l : Launch} {d : Nat} (H : ix_AllS l cX11_sum 2 RX11 d none (o_X11_sum TX11_product)) (Q : ix_R → Prop) (ls : ix_L) (st : List ix_V) (μ : ix_M) : ix_Ev (o_X11_sum TX11_product) Q (55, ls, st, μ) = ix_if (fun x => x = 0) 64 58 (ix_Ev (o_X11_sum TX11_product) Q) Q ls st μ := ix_Ev.eq H rfl ls st μ
theorem e_X11_sum_58 {TX11_product : Nat → ix_M → (ix_R → Prop) → Prop} {l : Launch} {d : Nat} (H : ix_AllS l cX11_sum 2 RX11 d none (o_X11_sum TX11_product)) (Q : ix_R → Prop) (ls : ix_L) (st : List ix_V) (μ : ix_M) : ix_Ev (o_X11_sum TX11_product) Q (58, ls, st, μ) = ix_push (vi 20005) 61 (ix_Ev (o_X11_sum TX11_product) Q) Q ls st μ := ix_Ev.eq H rfl ls st μ
theorem e_X11_sum_61 {TX11_product : Nat → ix_M → (ix_R → Prop) → Prop} {l : Launch} {d : Nat} (H : ix_AllS l cX11_sum 2 RX11 d none (o_X11_sum TX11_product)) (Q : ix_R → Prop) (ls : ix_L) (st : List ix_V) (μ : ix_M) : ix_Ev (o_X11_sum TX11_product) Q (61, ls, st, μ) = ix_goto 80 (ix_Ev (o_X11_sum TX11_product) Q) Q ls st μ := ix_Ev.eq H rfl ls st μ
theorem e_X11_sum_64 {TX11_product : Nat → ix_M → (ix_R → Prop) → Prop} {l : Launch} {d : Nat} (H : ix_AllS l cX11_sum 2 RX11 d none (o_X11_sum TX11_product)) (Q : ix_R → Prop) (ls : ix_L) (st : List ix_V) (μ : ix_M) : ix_Ev (o_X11_sum TX11_product) Q (64, ls, st, μ) = ix_aload 0 65 (ix_Ev (o_X11_sum TX11_product) Q) Q ls st μ := ix_Ev.eq H rfl ls st μ
theorem e_X11_sum_65 {TX11_product : Nat → ix_M → (ix_R → Prop) → Prop} {l : Launch} {d : Nat} (H : ix_AllS l cX11_sum 2 RX11 d none (o_X11_sum TX11_product)) (Q : ix_R → Prop) (ls : ix_L) (st : List ix_V) (μ : ix_M) : ix_Ev (o_X11_sum TX11_product) Q (65, ls, st, μ) = ix_push (vi 45) 67 (ix_Ev (o_X11_sum TX11_product) Q) Q ls st μ := ix_Ev.eq H rfl ls st μ
theorem e_X11_sum_67 {TX11_product : Nat → ix_M → (ix_R → Prop) → Prop} {l : Launch} {d : Nat} (H : ix_AllS l cX11_sum 2 RX11 d none (o_X11_sum TX11_product)) (Q : ix_R → Prop) (ls : ix_L) (st : List ix_V) (μ : ix_M) : ix_Ev (o_X11_sum TX11_product) Q (67, ls, st, μ) = oc_X11_takes 70 (ix_Ev (o_X11_sum TX11_product) Q) Q ls st μ := ix_Ev.eq H rfl ls st μ
theorem e_X11_sum_70 {TX11_product : Nat → ix_M → (ix_R → Prop) → Prop} {l : Launch} {d : Nat} (H : ix_AllS l cX11_sum 2 RX11 d none (o_X11_sum TX11_product)) (Q : ix_R → Prop) (ls : ix_L) (st : List ix_V) (μ : ix_M) : ix_Ev (o_X11_sum TX11_product) Q (70, ls, st, μ) = ix_if (fun x => x = 0) 79 73 (ix_Ev (o_X11_sum TX11_product) Q) Q ls st μ := ix_Ev.eq H rfl ls st μ
theorem e_X11_sum_73 {TX11_product : Nat → ix_M → (ix_R → Prop) → Prop} {l : Launch} {d : Nat} (H : ix_AllS l cX11_sum 2 RX11 d none (o_X11_sum TX11_product)) (Q : ix_R → Prop) (ls : ix_L) (st : List ix_V) (μ : ix_M) : ix_Ev (o_X11_sum TX11_product) Q (73, ls, st, μ) = ix_push (vi 20006) 76 (ix_Ev (o_X11_sum TX11_product) Q) Q ls st μ := ix_Ev.eq H rfl ls st μ
theorem e_X11_sum_76 {TX11_product : Nat → ix_M → (ix_R → Prop) → Prop} {l : Launch} {d : Nat} (H : ix_AllS l cX11_sum 2 RX11 d none (o_X11_sum TX11_product)) (Q : ix_R → Prop) (ls : ix_L) (st : List ix_V) (μ : ix_M) : ix_Ev (o_X11_sum TX11_product) Q (76, ls, st, μ) = ix_goto 80 (ix_Ev (o_X11_sum TX11_product) Q) Q ls st μ := ix_Ev.eq H rfl ls st μ
theorem e_X11_sum_79 {TX11_product : Nat → ix_M → (ix_R → Prop) → Prop} {l : Launch} {d : Nat} (H : ix_AllS l cX11_sum 2 RX11 d none (o_X11_sum TX11_product)) (Q : ix_R → Prop) (ls : ix_L) (st : List ix_V) (μ : ix_M) : ix_Ev (o_X11_sum TX11_product) Q (79, ls, st, μ) = ix_push (vi 0) 80 (ix_Ev (o_X11_sum TX11_product) Q) Q ls st μ := ix_Ev.eq H rfl ls st μ
theorem e_X11_sum_80 {TX11_product : Nat → ix_M → (ix_R → Prop) → Prop} {l : Launch} {d : Nat} (H : ix_AllS l cX11_sum 2 RX11 d none (o_X11_sum TX11_product)) (Q : ix_R → Prop) (ls : ix_L) (st : List ix_V) (μ : ix_M) : ix_Ev (o_X11_sum TX11_product) Q (80, ls, st, μ) = ix_istore 1 81 (ix_Ev (o_X11_sum TX11_product) Q) Q ls st μ := ix_Ev.eq H rfl ls st μ
theorem e_X11_sum_81 {TX11_product : Nat → ix_M → (ix_R → Prop) → Prop} {l : Launch} {d : Nat} (H : ix_AllS l cX11_sum 2 RX11 d none (o_X11_sum TX11_product)) (Q : ix_R → Prop) (ls : ix_L) (st : List ix_V) (μ : ix_M) : ix_Ev (o_X11_sum TX11_product) Q (81, ls, st, μ) = ix_goto 36 (ix_Ev (o_X11_sum TX11_product) Q) Q ls st μ := ix_Ev.eq H rfl ls st μ
theorem e_X11_sum_84 {TX11_product : Nat → ix_M → (ix_R → Prop) → Prop} {l : Launch} {d : Nat} (H : ix_AllS l cX11_sum 2 RX11 d none (o_X11_sum TX11_product)) (Q : ix_R → Prop) (ls : ix_L) (st : List ix_V) (μ : ix_M) : ix_Ev (o_X11_sum TX11_product) Q (84, ls, st, μ) = ix_vret (ix_Ev (o_X11_sum TX11_product) Q) Q ls st μ := ix_Ev.eq H rfl ls st μ
def o_X11_product (TX11_one : Nat → ix_M → (ix_R → Prop) → Prop) : List (Nat × ix_Op) := [
  (0, ix_aload 0 1),
  (1, ocr_X11_one TX11_one 4),
  (4, ix_aload 0 5),
  (5, ix_push (vi 42) 7),
  (7, oc_X11_takes 10),
  (10, ix_if (fun x => x = 0) 19 13),
  (13, ix_push (vi 20007) 16),
  (16, ix_goto 50),
  (19, ix_aload 0 20),
  (20, ix_push (vi 47) 22),
  (22, oc_X11_takes 25),
  (25, ix_if (fun x => x = 0) 34 28),
  (28, ix_push (vi 20008) 31),
  (31, ix_goto 50),
  (34, ix_aload 0 35),
  (35, ix_push (vi 37) 37),
  (37, oc_X11_takes 40),
  (40, ix_if (fun x => x = 0) 49 43),
  (43, ix_push (vi 20009) 46),
  (46, ix_goto 50),
  (49, ix_push (vi 0) 50),
  (50, ix_istore 1 51),
  (51, ix_iload 1 52),
  (52, ix_if (fun x => x ≤ 0) 114 55),
  (55, ix_aload 0 56),
  (56, ocr_X11_one TX11_one 59),
  (59, ix_aload 0 60),
  (60, ix_iload 1 61),
  (61, oc_X11_codes 64),
  (64, ix_aload 0 65),
  (65, ix_push (vi 42) 67),
  (67, oc_X11_takes 70),
  (70, ix_if (fun x => x = 0) 79 73),
  (73, ix_push (vi 20007) 76),
  (76, ix_goto 110),
  (79, ix_aload 0 80),
  (80, ix_push (vi 47) 82),
  (82, oc_X11_takes 85),
  (85, ix_if (fun x => x = 0) 94 88),
  (88, ix_push (vi 20008) 91),
  (91, ix_goto 110),
  (94, ix_aload 0 95),
  (95, ix_push (vi 37) 97),
  (97, oc_X11_takes 100),
  (100, ix_if (fun x => x = 0) 109 103),
  (103, ix_push (vi 20009) 106),
  (106, ix_goto 110),
  (109, ix_push (vi 0) 110),
  (110, ix_istore 1 111),
  (111, ix_goto 51),
  (114, ix_vret)]
set_option maxRecDepth 20000 in
theorem a_X11_product (l : Launch) (d : Nat) (hlev : 6 ≤ d) {TX11_one : Nat → ix_M → (ix_R → Prop) → Prop} {d_X11_one : Nat} (h_X11_one : ix_Ct l yX11_one cX11_one 4 none d_X11_one sh_X11_one TX11_one) (hl_X11_one : d_X11_one < d) (hm_X11_one : ∀ x μ Q Q', (∀ r, Q r → Q' r) → TX11_one x μ Q → TX11_one x μ Q') : ix_AllS l cX11_product 2 RX11 d none (o_X11_product TX11_one) :=
  .cons (ix_s_aload_n dX11_product_0 rfl) <|
  .cons (ocr_X11_one_s hm_X11_one (ix_s_callv (t := 10) h_X11_one hl_X11_one (by decide) tw_996 tw_12 tw_993 tw_995 tp_24 ⟨by decide, by decide, by decide +kernel⟩ (by decide) rfl rfl (fun _ => ⟨_, _, rfl, rfl⟩) dX11_product_1)) <|
  .cons (ix_s_aload_n dX11_product_4 rfl) <|
  .cons (ix_s_bipush dX11_product_5 (by decide +kernel)) <|
  .cons (oc_X11_takes_s (ix_s_callv (t := 10) (k_X11_takes l) (by omega) (by decide) tw_1008 tw_12 tw_1005 tw_1007 tp_27 ⟨by decide, by decide, by decide +kernel⟩ (by decide) rfl rfl (fun _ => ⟨_, _, rfl, rfl⟩) dX11_product_7)) <|
  .cons (ix_s_if_eq dX11_product_10 (by decide)) <|
  .cons (ix_s_sipush dX11_product_13 (by decide +kernel)) <|
  .cons (ix_s_goto dX11_product_16 (by decide)) <|
  .cons (ix_s_aload_n dX11_product_19 rfl) <|
  .cons (ix_s_bipush dX11_product_20 (by decide +kernel)) <|
  .cons (oc_X11_takes_s (ix_s_callv (t := 10) (k_X11_takes l) (by omega) (by decide) tw_1008 tw_12 tw_1005 tw_1007 tp_27 ⟨by decide, by decide, by decide +kernel⟩ (by decide) rfl rfl (fun _ => ⟨_, _, rfl, rfl⟩) dX11_product_22)) <|
  .cons (ix_s_if_eq dX11_product_25 (by decide)) <|
  .cons (ix_s_sipush dX11_product_28 (by decide +kernel)) <|
  .cons (ix_s_goto dX11_product_31 (by decide)) <|
  .cons (ix_s_aload_n dX11_product_34 rfl) <|
  .cons (ix_s_bipush dX11_product_35 (by decide +kernel)) <|
  .cons (oc_X11_takes_s (ix_s_callv (t := 10) (k_X11_takes l) (by omega) (by decide) tw_1008 tw_12 tw_1005 tw_1007 tp_27 ⟨by decide, by decide, by decide +kernel⟩ (by decide) rfl rfl (fun _ => ⟨_, _, rfl, rfl⟩) dX11_product_37)) <|
  .cons (ix_s_if_eq dX11_product_40 (by decide)) <|
  .cons (ix_s_sipush dX11_product_43 (by decide +kernel)) <|
  .cons (ix_s_goto dX11_product_46 (by decide)) <|
  .cons (ix_s_iconst dX11_product_49 (by decide +kernel)) <|
  .cons (ix_s_istore_n dX11_product_50 rfl (by decide)) <|
  .cons (ix_s_iload_n dX11_product_51 rfl) <|
  .cons (ix_s_if_le dX11_product_52 (by decide)) <|
  .cons (ix_s_aload_n dX11_product_55 rfl) <|
  .cons (ocr_X11_one_s hm_X11_one (ix_s_callv (t := 10) h_X11_one hl_X11_one (by decide) tw_996 tw_12 tw_993 tw_995 tp_24 ⟨by decide, by decide, by decide +kernel⟩ (by decide) rfl rfl (fun _ => ⟨_, _, rfl, rfl⟩) dX11_product_56)) <|
  .cons (ix_s_aload_n dX11_product_59 rfl) <|
  .cons (ix_s_iload_n dX11_product_60 rfl) <|
  .cons (oc_X11_codes_s (ix_s_callv (t := 10) (k_X11_codes l) (by omega) (by decide) tw_1004 tw_12 tw_1001 tw_1003 tp_26 ⟨by decide, by decide, by decide +kernel⟩ (by decide) rfl rfl (fun _ => ⟨_, _, rfl, rfl⟩) dX11_product_61)) <|
  .cons (ix_s_aload_n dX11_product_64 rfl) <|
  .cons (ix_s_bipush dX11_product_65 (by decide +kernel)) <|
  .cons (oc_X11_takes_s (ix_s_callv (t := 10) (k_X11_takes l) (by omega) (by decide) tw_1008 tw_12 tw_1005 tw_1007 tp_27 ⟨by decide, by decide, by decide +kernel⟩ (by decide) rfl rfl (fun _ => ⟨_, _, rfl, rfl⟩) dX11_product_67)) <|
  .cons (ix_s_if_eq dX11_product_70 (by decide)) <|
  .cons (ix_s_sipush dX11_product_73 (by decide +kernel)) <|
  .cons (ix_s_goto dX11_product_76 (by decide)) <|
  .cons (ix_s_aload_n dX11_product_79 rfl) <|
  .cons (ix_s_bipush dX11_product_80 (by decide +kernel)) <|
  .cons (oc_X11_takes_s (ix_s_callv (t := 10) (k_X11_takes l) (by omega) (by decide) tw_1008 tw_12 tw_1005 tw_1007 tp_27 ⟨by decide, by decide, by decide +kernel⟩ (by decide) rfl rfl (fun _ => ⟨_, _, rfl, rfl⟩) dX11_product_82)) <|
  .cons (ix_s_if_eq dX11_product_85 (by decide)) <|
  .cons (ix_s_sipush dX11_product_88 (by decide +kernel)) <|
  .cons (ix_s_goto dX11_product_91 (by decide)) <|
  .cons (ix_s_aload_n dX11_product_94 rfl) <|
  .cons (ix_s_bipush dX11_product_95 (by decide +kernel)) <|
  .cons (oc_X11_takes_s (ix_s_callv (t := 10) (k_X11_takes l) (by omega) (by decide) tw_1008 tw_12 tw_1005 tw_1007 tp_27 ⟨by decide, by decide, by decide +kernel⟩ (by decide) rfl rfl (fun _ => ⟨_, _, rfl, rfl⟩) dX11_product_97)) <|
  .cons (ix_s_if_eq dX11_product_100 (by decide)) <|
  .cons (ix_s_sipush dX11_product_103 (by decide +kernel)) <|
  .cons (ix_s_goto dX11_product_106 (by decide)) <|
  .cons (ix_s_iconst dX11_product_109 (by decide +kernel)) <|
  .cons (ix_s_istore_n dX11_product_110 rfl (by decide)) <|
  .cons (ix_s_goto dX11_product_111 (by decide)) <|
  .cons (ix_s_vret dX11_product_114 rfl) <| .nil
theorem e_X11_product_0 {TX11_one : Nat → ix_M → (ix_R → Prop) → Prop} {l : Launch} {d : Nat} (H : ix_AllS l cX11_product 2 RX11 d none (o_X11_product TX11_one)) (Q : ix_R → Prop) (ls : ix_L) (st : List ix_V) (μ : ix_M) : ix_Ev (o_X11_product TX11_one) Q (0, ls, st, μ) = ix_aload 0 1 (ix_Ev (o_X11_product TX11_one) Q) Q ls st μ := ix_Ev.eq H rfl ls st μ
theorem e_X11_product_1 {TX11_one : Nat → ix_M → (ix_R → Prop) → Prop} {l : Launch} {d : Nat} (H : ix_AllS l cX11_product 2 RX11 d none (o_X11_product TX11_one)) (Q : ix_R → Prop) (ls : ix_L) (st : List ix_V) (μ : ix_M) : ix_Ev (o_X11_product TX11_one) Q (1, ls, st, μ) = ocr_X11_one TX11_one 4 (ix_Ev (o_X11_product TX11_one) Q) Q ls st μ := ix_Ev.eq H rfl ls st μ
theorem e_X11_product_4 {TX11_one : Nat → ix_M → (ix_R → Prop) → Prop} {l : Launch} {d : Nat} (H : ix_AllS l cX11_product 2 RX11 d none (o_X11_product TX11_one)) (Q : ix_R → Prop) (ls : ix_L) (st : List ix_V) (μ : ix_M) : ix_Ev (o_X11_product TX11_one) Q (4, ls, st, μ) = ix_aload 0 5 (ix_Ev (o_X11_product TX11_one) Q) Q ls st μ := ix_Ev.eq H rfl ls st μ
theorem e_X11_product_5 {TX11_one : Nat → ix_M → (ix_R → Prop) → Prop} {l : Launch} {d : Nat} (H : ix_AllS l cX11_product 2 RX11 d none (o_X11_product TX11_one)) (Q : ix_R → Prop) (ls : ix_L) (st : List ix_V) (μ : ix_M) : ix_Ev (o_X11_product TX11_one) Q (5, ls, st, μ) = ix_push (vi 42) 7 (ix_Ev (o_X11_product TX11_one) Q) Q ls st μ := ix_Ev.eq H rfl ls st μ
theorem e_X11_product_7 {TX11_one : Nat → ix_M → (ix_R → Prop) → Prop} {l : Launch} {d : Nat} (H : ix_AllS l cX11_product 2 RX11 d none (o_X11_product TX11_one)) (Q : ix_R → Prop) (ls : ix_L) (st : List ix_V) (μ : ix_M) : ix_Ev (o_X11_product TX11_one) Q (7, ls, st, μ) = oc_X11_takes 10 (ix_Ev (o_X11_product TX11_one) Q) Q ls st μ := ix_Ev.eq H rfl ls st μ
theorem e_X11_product_10 {TX11_one : Nat → ix_M → (ix_R → Prop) → Prop} {l : Launch} {d : Nat} (H : ix_AllS l cX11_product 2 RX11 d none (o_X11_product TX11_one)) (Q : ix_R → Prop) (ls : ix_L) (st : List ix_V) (μ : ix_M) : ix_Ev (o_X11_product TX11_one) Q (10, ls, st, μ) = ix_if (fun x => x = 0) 19 13 (ix_Ev (o_X11_product TX11_one) Q) Q ls st μ := ix_Ev.eq H rfl ls st μ
theorem e_X11_product_13 {TX11_one : Nat → ix_M → (ix_R → Prop) → Prop} {l : Launch} {d : Nat} (H : ix_AllS l cX11_product 2 RX11 d none (o_X11_product TX11_one)) (Q : ix_R → Prop) (ls : ix_L) (st : List ix_V) (μ : ix_M) : ix_Ev (o_X11_product TX11_one) Q (13, ls, st, μ) = ix_push (vi 20007) 16 (ix_Ev (o_X11_product TX11_one) Q) Q ls st μ := ix_Ev.eq H rfl ls st μ
theorem e_X11_product_16 {TX11_one : Nat → ix_M → (ix_R → Prop) → Prop} {l : Launch} {d : Nat} (H : ix_AllS l cX11_product 2 RX11 d none (o_X11_product TX11_one)) (Q : ix_R → Prop) (ls : ix_L) (st : List ix_V) (μ : ix_M) : ix_Ev (o_X11_product TX11_one) Q (16, ls, st, μ) = ix_goto 50 (ix_Ev (o_X11_product TX11_one) Q) Q ls st μ := ix_Ev.eq H rfl ls st μ
theorem e_X11_product_19 {TX11_one : Nat → ix_M → (ix_R → Prop) → Prop} {l : Launch} {d : Nat} (H : ix_AllS l cX11_product 2 RX11 d none (o_X11_product TX11_one)) (Q : ix_R → Prop) (ls : ix_L) (st : List ix_V) (μ : ix_M) : ix_Ev (o_X11_product TX11_one) Q (19, ls, st, μ) = ix_aload 0 20 (ix_Ev (o_X11_product TX11_one) Q) Q ls st μ := ix_Ev.eq H rfl ls st μ
theorem e_X11_product_20 {TX11_one : Nat → ix_M → (ix_R → Prop) → Prop} {l : Launch} {d : Nat} (H : ix_AllS l cX11_product 2 RX11 d none (o_X11_product TX11_one)) (Q : ix_R → Prop) (ls : ix_L) (st : List ix_V) (μ : ix_M) : ix_Ev (o_X11_product TX11_one) Q (20, ls, st, μ) = ix_push (vi 47) 22 (ix_Ev (o_X11_product TX11_one) Q) Q ls st μ := ix_Ev.eq H rfl ls st μ
theorem e_X11_product_22 {TX11_one : Nat → ix_M → (ix_R → Prop) → Prop} {l : Launch} {d : Nat} (H : ix_AllS l cX11_product 2 RX11 d none (o_X11_product TX11_one)) (Q : ix_R → Prop) (ls : ix_L) (st : List ix_V) (μ : ix_M) : ix_Ev (o_X11_product TX11_one) Q (22, ls, st, μ) = oc_X11_takes 25 (ix_Ev (o_X11_product TX11_one) Q) Q ls st μ := ix_Ev.eq H rfl ls st μ
theorem e_X11_product_25 {TX11_one : Nat → ix_M → (ix_R → Prop) → Prop} {l : Launch} {d : Nat} (H : ix_AllS l cX11_product 2 RX11 d none (o_X11_product TX11_one)) (Q : ix_R → Prop) (ls : ix_L) (st : List ix_V) (μ : ix_M) : ix_Ev (o_X11_product TX11_one) Q (25, ls, st, μ) = ix_if (fun x => x = 0) 34 28 (ix_Ev (o_X11_product TX11_one) Q) Q ls st μ := ix_Ev.eq H rfl ls st μ
theorem e_X11_product_28 {TX11_one : Nat → ix_M → (ix_R → Prop) → Prop} {l : Launch} {d : Nat} (H : ix_AllS l cX11_product 2 RX11 d none (o_X11_product TX11_one)) (Q : ix_R → Prop) (ls : ix_L) (st : List ix_V) (μ : ix_M) : ix_Ev (o_X11_product TX11_one) Q (28, ls, st, μ) = ix_push (vi 20008) 31 (ix_Ev (o_X11_product TX11_one) Q) Q ls st μ := ix_Ev.eq H rfl ls st μ
theorem e_X11_product_31 {TX11_one : Nat → ix_M → (ix_R → Prop) → Prop} {l : Launch} {d : Nat} (H : ix_AllS l cX11_product 2 RX11 d none (o_X11_product TX11_one)) (Q : ix_R → Prop) (ls : ix_L) (st : List ix_V) (μ : ix_M) : ix_Ev (o_X11_product TX11_one) Q (31, ls, st, μ) = ix_goto 50 (ix_Ev (o_X11_product TX11_one) Q) Q ls st μ := ix_Ev.eq H rfl ls st μ
theorem e_X11_product_34 {TX11_one : Nat → ix_M → (ix_R → Prop) → Prop} {l : Launch} {d : Nat} (H : ix_AllS l cX11_product 2 RX11 d none (o_X11_product TX11_one)) (Q : ix_R → Prop) (ls : ix_L) (st : List ix_V) (μ : ix_M) : ix_Ev (o_X11_product TX11_one) Q (34, ls, st, μ) = ix_aload 0 35 (ix_Ev (o_X11_product TX11_one) Q) Q ls st μ := ix_Ev.eq H rfl ls st μ
theorem e_X11_product_35 {TX11_one : Nat → ix_M → (ix_R → Prop) → Prop} {l : Launch} {d : Nat} (H : ix_AllS l cX11_product 2 RX11 d none (o_X11_product TX11_one)) (Q : ix_R → Prop) (ls : ix_L) (st : List ix_V) (μ : ix_M) : ix_Ev (o_X11_product TX11_one) Q (35, ls, st, μ) = ix_push (vi 37) 37 (ix_Ev (o_X11_product TX11_one) Q) Q ls st μ := ix_Ev.eq H rfl ls st μ
theorem e_X11_product_37 {TX11_one : Nat → ix_M → (ix_R → Prop) → Prop} {l : Launch} {d : Nat} (H : ix_AllS l cX11_product 2 RX11 d none (o_X11_product TX11_one)) (Q : ix_R → Prop) (ls : ix_L) (st : List ix_V) (μ : ix_M) : ix_Ev (o_X11_product TX11_one) Q (37, ls, st, μ) = oc_X11_takes 40 (ix_Ev (o_X11_product TX11_one) Q) Q ls st μ := ix_Ev.eq H rfl ls st μ
theorem e_X11_product_40 {TX11_one : Nat → ix_M → (ix_R → Prop) → Prop} {l : Launch} {d : Nat} (H : ix_AllS l cX11_product 2 RX11 d none (o_X11_product TX11_one)) (Q : ix_R → Prop) (ls : ix_L) (st : List ix_V) (μ : ix_M) : ix_Ev (o_X11_product TX11_one) Q (40, ls, st, μ) = ix_if (fun x => x = 0) 49 43 (ix_Ev (o_X11_product TX11_one) Q) Q ls st μ := ix_Ev.eq H rfl ls st μ
theorem e_X11_product_43 {TX11_one : Nat → ix_M → (ix_R → Prop) → Prop} {l : Launch} {d : Nat} (H : ix_AllS l cX11_product 2 RX11 d none (o_X11_product TX11_one)) (Q : ix_R → Prop) (ls : ix_L) (st : List ix_V) (μ : ix_M) : ix_Ev (o_X11_product TX11_one) Q (43, ls, st, μ) = ix_push (vi 20009) 46 (ix_Ev (o_X11_product TX11_one) Q) Q ls st μ := ix_Ev.eq H rfl ls st μ
theorem e_X11_product_46 {TX11_one : Nat → ix_M → (ix_R → Prop) → Prop} {l : Launch} {d : Nat} (H : ix_AllS l cX11_product 2 RX11 d none (o_X11_product TX11_one)) (Q : ix_R → Prop) (ls : ix_L) (st : List ix_V) (μ : ix_M) : ix_Ev (o_X11_product TX11_one) Q (46, ls, st, μ) = ix_goto 50 (ix_Ev (o_X11_product TX11_one) Q) Q ls st μ := ix_Ev.eq H rfl ls st μ
theorem e_X11_product_49 {TX11_one : Nat → ix_M → (ix_R → Prop) → Prop} {l : Launch} {d : Nat} (H : ix_AllS l cX11_product 2 RX11 d none (o_X11_product TX11_one)) (Q : ix_R → Prop) (ls : ix_L) (st : List ix_V) (μ : ix_M) : ix_Ev (o_X11_product TX11_one) Q (49, ls, st, μ) = ix_push (vi 0) 50 (ix_Ev (o_X11_product TX11_one) Q) Q ls st μ := ix_Ev.eq H rfl ls st μ
theorem e_X11_product_50 {TX11_one : Nat → ix_M → (ix_R → Prop) → Prop} {l : Launch} {d : Nat} (H : ix_AllS l cX11_product 2 RX11 d none (o_X11_product TX11_one)) (Q : ix_R → Prop) (ls : ix_L) (st : List ix_V) (μ : ix_M) : ix_Ev (o_X11_product TX11_one) Q (50, ls, st, μ) = ix_istore 1 51 (ix_Ev (o_X11_product TX11_one) Q) Q ls st μ := ix_Ev.eq H rfl ls st μ
theorem e_X11_product_51 {TX11_one : Nat → ix_M → (ix_R → Prop) → Prop} {l : Launch} {d : Nat} (H : ix_AllS l cX11_product 2 RX11 d none (o_X11_product TX11_one)) (Q : ix_R → Prop) (ls : ix_L) (st : List ix_V) (μ : ix_M) : ix_Ev (o_X11_product TX11_one) Q (51, ls, st, μ) = ix_iload 1 52 (ix_Ev (o_X11_product TX11_one) Q) Q ls st μ := ix_Ev.eq H rfl ls st μ
theorem e_X11_product_52 {TX11_one : Nat → ix_M → (ix_R → Prop) → Prop} {l : Launch} {d : Nat} (H : ix_AllS l cX11_product 2 RX11 d none (o_X11_product TX11_one)) (Q : ix_R → Prop) (ls : ix_L) (st : List ix_V) (μ : ix_M) : ix_Ev (o_X11_product TX11_one) Q (52, ls, st, μ) = ix_if (fun x => x ≤ 0) 114 55 (ix_Ev (o_X11_product TX11_one) Q) Q ls st μ := ix_Ev.eq H rfl ls st μ
theorem e_X11_product_55 {TX11_one : Nat → ix_M → (ix_R → Prop) → Prop} {l : Launch} {d : Nat} (H : ix_AllS l cX11_product 2 RX11 d none (o_X11_product TX11_one)) (Q : ix_R → Prop) (ls : ix_L) (st : List ix_V) (μ : ix_M) : ix_Ev (o_X11_product TX11_one) Q (55, ls, st, μ) = ix_aload 0 56 (ix_Ev (o_X11_product TX11_one) Q) Q ls st μ := ix_Ev.eq H rfl ls st μ
theorem e_X11_product_56 {TX11_one : Nat → ix_M → (ix_R → Prop) → Prop} {l : Launch} {d : Nat} (H : ix_AllS l cX11_product 2 RX11 d none (o_X11_product TX11_one)) (Q : ix_R → Prop) (ls : ix_L) (st : List ix_V) (μ : ix_M) : ix_Ev (o_X11_product TX11_one) Q (56, ls, st, μ) = ocr_X11_one TX11_one 59 (ix_Ev (o_X11_product TX11_one) Q) Q ls st μ := ix_Ev.eq H rfl ls st μ
theorem e_X11_product_59 {TX11_one : Nat → ix_M → (ix_R → Prop) → Prop} {l : Launch} {d : Nat} (H : ix_AllS l cX11_product 2 RX11 d none (o_X11_product TX11_one)) (Q : ix_R → Prop) (ls : ix_L) (st : List ix_V) (μ : ix_M) : ix_Ev (o_X11_product TX11_one) Q (59, ls, st, μ) = ix_aload 0 60 (ix_Ev (o_X11_product TX11_one) Q) Q ls st μ := ix_Ev.eq H rfl ls st μ
theorem e_X11_product_60 {TX11_one : Nat → ix_M → (ix_R → Prop) → Prop} {l : Launch} {d : Nat} (H : ix_AllS l cX11_product 2 RX11 d none (o_X11_product TX11_one)) (Q : ix_R → Prop) (ls : ix_L) (st : List ix_V) (μ : ix_M) : ix_Ev (o_X11_product TX11_one) Q (60, ls, st, μ) = ix_iload 1 61 (ix_Ev (o_X11_product TX11_one) Q) Q ls st μ := ix_Ev.eq H rfl ls st μ
theorem e_X11_product_61 {TX11_one : Nat → ix_M → (ix_R → Prop) → Prop} {l : Launch} {d : Nat} (H : ix_AllS l cX11_product 2 RX11 d none (o_X11_product TX11_one)) (Q : ix_R → Prop) (ls : ix_L) (st : List ix_V) (μ : ix_M) : ix_Ev (o_X11_product TX11_one) Q (61, ls, st, μ) = oc_X11_codes 64 (ix_Ev (o_X11_product TX11_one) Q) Q ls st μ := ix_Ev.eq H rfl ls st μ
theorem e_X11_product_64 {TX11_one : Nat → ix_M → (ix_R → Prop) → Prop} {l : Launch} {d : Nat} (H : ix_AllS l cX11_product 2 RX11 d none (o_X11_product TX11_one)) (Q : ix_R → Prop) (ls : ix_L) (st : List ix_V) (μ : ix_M) : ix_Ev (o_X11_product TX11_one) Q (64, ls, st, μ) = ix_aload 0 65 (ix_Ev (o_X11_product TX11_one) Q) Q ls st μ := ix_Ev.eq H rfl ls st μ
theorem e_X11_product_65 {TX11_one : Nat → ix_M → (ix_R → Prop) → Prop} {l : Launch} {d : Nat} (H : ix_AllS l cX11_product 2 RX11 d none (o_X11_product TX11_one)) (Q : ix_R → Prop) (ls : ix_L) (st : List ix_V) (μ : ix_M) : ix_Ev (o_X11_product TX11_one) Q (65, ls, st, μ) = ix_push (vi 42) 67 (ix_Ev (o_X11_product TX11_one) Q) Q ls st μ := ix_Ev.eq H rfl ls st μ
theorem e_X11_product_67 {TX11_one : Nat → ix_M → (ix_R → Prop) → Prop} {l : Launch} {d : Nat} (H : ix_AllS l cX11_product 2 RX11 d none (o_X11_product TX11_one)) (Q : ix_R → Prop) (ls : ix_L) (st : List ix_V) (μ : ix_M) : ix_Ev (o_X11_product TX11_one) Q (67, ls, st, μ) = oc_X11_takes 70 (ix_Ev (o_X11_product TX11_one) Q) Q ls st μ := ix_Ev.eq H rfl ls st μ
theorem e_X11_product_70 {TX11_one : Nat → ix_M → (ix_R → Prop) → Prop} {l : Launch} {d : Nat} (H : ix_AllS l cX11_product 2 RX11 d none (o_X11_product TX11_one)) (Q : ix_R → Prop) (ls : ix_L) (st : List ix_V) (μ : ix_M) : ix_Ev (o_X11_product TX11_one) Q (70, ls, st, μ) = ix_if (fun x => x = 0) 79 73 (ix_Ev (o_X11_product TX11_one) Q) Q ls st μ := ix_Ev.eq H rfl ls st μ
theorem e_X11_product_73 {TX11_one : Nat → ix_M → (ix_R → Prop) → Prop} {l : Launch} {d : Nat} (H : ix_AllS l cX11_product 2 RX11 d none (o_X11_product TX11_one)) (Q : ix_R → Prop) (ls : ix_L) (st : List ix_V) (μ : ix_M) : ix_Ev (o_X11_product TX11_one) Q (73, ls, st, μ) = ix_push (vi 20007) 76 (ix_Ev (o_X11_product TX11_one) Q) Q ls st μ := ix_Ev.eq H rfl ls st μ
theorem e_X11_product_76 {TX11_one : Nat → ix_M → (ix_R → Prop) → Prop} {l : Launch} {d : Nat} (H : ix_AllS l cX11_product 2 RX11 d none (o_X11_product TX11_one)) (Q : ix_R → Prop) (ls : ix_L) (st : List ix_V) (μ : ix_M) : ix_Ev (o_X11_product TX11_one) Q (76, ls, st, μ) = ix_goto 110 (ix_Ev (o_X11_product TX11_one) Q) Q ls st μ := ix_Ev.eq H rfl ls st μ
theorem e_X11_product_79 {TX11_one : Nat → ix_M → (ix_R → Prop) → Prop} {l : Launch} {d : Nat} (H : ix_AllS l cX11_product 2 RX11 d none (o_X11_product TX11_one)) (Q : ix_R → Prop) (ls : ix_L) (st : List ix_V) (μ : ix_M) : ix_Ev (o_X11_product TX11_one) Q (79, ls, st, μ) = ix_aload 0 80 (ix_Ev (o_X11_product TX11_one) Q) Q ls st μ := ix_Ev.eq H rfl ls st μ
theorem e_X11_product_80 {TX11_one : Nat → ix_M → (ix_R → Prop) → Prop} {l : Launch} {d : Nat} (H : ix_AllS l cX11_product 2 RX11 d none (o_X11_product TX11_one)) (Q : ix_R → Prop) (ls : ix_L) (st : List ix_V) (μ : ix_M) : ix_Ev (o_X11_product TX11_one) Q (80, ls, st, μ) = ix_push (vi 47) 82 (ix_Ev (o_X11_product TX11_one) Q) Q ls st μ := ix_Ev.eq H rfl ls st μ
theorem e_X11_product_82 {TX11_one : Nat → ix_M → (ix_R → Prop) → Prop} {l : Launch} {d : Nat} (H : ix_AllS l cX11_product 2 RX11 d none (o_X11_product TX11_one)) (Q : ix_R → Prop) (ls : ix_L) (st : List ix_V) (μ : ix_M) : ix_Ev (o_X11_product TX11_one) Q (82, ls, st, μ) = oc_X11_takes 85 (ix_Ev (o_X11_product TX11_one) Q) Q ls st μ := ix_Ev.eq H rfl ls st μ
theorem e_X11_product_85 {TX11_one : Nat → ix_M → (ix_R → Prop) → Prop} {l : Launch} {d : Nat} (H : ix_AllS l cX11_product 2 RX11 d none (o_X11_product TX11_one)) (Q : ix_R → Prop) (ls : ix_L) (st : List ix_V) (μ : ix_M) : ix_Ev (o_X11_product TX11_one) Q (85, ls, st, μ) = ix_if (fun x => x = 0) 94 88 (ix_Ev (o_X11_product TX11_one) Q) Q ls st μ := ix_Ev.eq H rfl ls st μ
theorem e_X11_product_88 {TX11_one : Nat → ix_M → (ix_R → Prop) → Prop} {l : Launch} {d : Nat} (H : ix_AllS l cX11_product 2 RX11 d none (o_X11_product TX11_one)) (Q : ix_R → Prop) (ls : ix_L) (st : List ix_V) (μ : ix_M) : ix_Ev (o_X11_product TX11_one) Q (88, ls, st, μ) = ix_push (vi 20008) 91 (ix_Ev (o_X11_product TX11_one) Q) Q ls st μ := ix_Ev.eq H rfl ls st μ
theorem e_X11_product_91 {TX11_one : Nat → ix_M → (ix_R → Prop) → Prop} {l : Launch} {d : Nat} (H : ix_AllS l cX11_product 2 RX11 d none (o_X11_product TX11_one)) (Q : ix_R → Prop) (ls : ix_L) (st : List ix_V) (μ : ix_M) : ix_Ev (o_X11_product TX11_one) Q (91, ls, st, μ) = ix_goto 110 (ix_Ev (o_X11_product TX11_one) Q) Q ls st μ := ix_Ev.eq H rfl ls st μ
theorem e_X11_product_94 {TX11_one : Nat → ix_M → (ix_R → Prop) → Prop} {l : Launch} {d : Nat} (H : ix_AllS l cX11_product 2 RX11 d none (o_X11_product TX11_one)) (Q : ix_R → Prop) (ls : ix_L) (st : List ix_V) (μ : ix_M) : ix_Ev (o_X11_product TX11_one) Q (94, ls, st, μ) = ix_aload 0 95 (ix_Ev (o_X11_product TX11_one) Q) Q ls st μ := ix_Ev.eq H rfl ls st μ
theorem e_X11_product_95 {TX11_one : Nat → ix_M → (ix_R → Prop) → Prop} {l : Launch} {d : Nat} (H : ix_AllS l cX11_product 2 RX11 d none (o_X11_product TX11_one)) (Q : ix_R → Prop) (ls : ix_L) (st : List ix_V) (μ : ix_M) : ix_Ev (o_X11_product TX11_one) Q (95, ls, st, μ) = ix_push (vi 37) 97 (ix_Ev (o_X11_product TX11_one) Q) Q ls st μ := ix_Ev.eq H rfl ls st μ
theorem e_X11_product_97 {TX11_one : Nat → ix_M → (ix_R → Prop) → Prop} {l : Launch} {d : Nat} (H : ix_AllS l cX11_product 2 RX11 d none (o_X11_product TX11_one)) (Q : ix_R → Prop) (ls : ix_L) (st : List ix_V) (μ : ix_M) : ix_Ev (o_X11_product TX11_one) Q (97, ls, st, μ) = oc_X11_takes 100 (ix_Ev (o_X11_product TX11_one) Q) Q ls st μ := ix_Ev.eq H rfl ls st μ
theorem e_X11_product_100 {TX11_one : Nat → ix_M → (ix_R → Prop) → Prop} {l : Launch} {d : Nat} (H : ix_AllS l cX11_product 2 RX11 d none (o_X11_product TX11_one)) (Q : ix_R → Prop) (ls : ix_L) (st : List ix_V) (μ : ix_M) : ix_Ev (o_X11_product TX11_one) Q (100, ls, st, μ) = ix_if (fun x => x = 0) 109 103 (ix_Ev (o_X11_product TX11_one) Q) Q ls st μ := ix_Ev.eq H rfl ls st μ
theorem e_X11_product_103 {TX11_one : Nat → ix_M → (ix_R → Prop) → Prop} {l : Launch} {d : Nat} (H : ix_AllS l cX11_product 2 RX11 d none (o_X11_product TX11_one)) (Q : ix_R → Prop) (ls : ix_L) (st : List ix_V) (μ : ix_M) : ix_Ev (o_X11_product TX11_one) Q (103, ls, st, μ) = ix_push (vi 20009) 106 (ix_Ev (o_X11_product TX11_one) Q) Q ls st μ := ix_Ev.eq H rfl ls st μ
theorem e_X11_product_106 {TX11_one : Nat → ix_M → (ix_R → Prop) → Prop} {l : Launch} {d : Nat} (H : ix_AllS l cX11_product 2 RX11 d none (o_X11_product TX11_one)) (Q : ix_R → Prop) (ls : ix_L) (st : List ix_V) (μ : ix_M) : ix_Ev (o_X11_product TX11_one) Q (106, ls, st, μ) = ix_goto 110 (ix_Ev (o_X11_product TX11_one) Q) Q ls st μ := ix_Ev.eq H rfl ls st μ
theorem e_X11_product_109 {TX11_one : Nat → ix_M → (ix_R → Prop) → Prop} {l : Launch} {d : Nat} (H : ix_AllS l cX11_product 2 RX11 d none (o_X11_product TX11_one)) (Q : ix_R → Prop) (ls : ix_L) (st : List ix_V) (μ : ix_M) : ix_Ev (o_X11_product TX11_one) Q (109, ls, st, μ) = ix_push (vi 0) 110 (ix_Ev (o_X11_product TX11_one) Q) Q ls st μ := ix_Ev.eq H rfl ls st μ
theorem e_X11_product_110 {TX11_one : Nat → ix_M → (ix_R → Prop) → Prop} {l : Launch} {d : Nat} (H : ix_AllS l cX11_product 2 RX11 d none (o_X11_product TX11_one)) (Q : ix_R → Prop) (ls : ix_L) (st : List ix_V) (μ : ix_M) : ix_Ev (o_X11_product TX11_one) Q (110, ls, st, μ) = ix_istore 1 111 (ix_Ev (o_X11_product TX11_one) Q) Q ls st μ := ix_Ev.eq H rfl ls st μ
theorem e_X11_product_111 {TX11_one : Nat → ix_M → (ix_R → Prop) → Prop} {l : Launch} {d : Nat} (H : ix_AllS l cX11_product 2 RX11 d none (o_X11_product TX11_one)) (Q : ix_R → Prop) (ls : ix_L) (st : List ix_V) (μ : ix_M) : ix_Ev (o_X11_product TX11_one) Q (111, ls, st, μ) = ix_goto 51 (ix_Ev (o_X11_product TX11_one) Q) Q ls st μ := ix_Ev.eq H rfl ls st μ
theorem e_X11_product_114 {TX11_one : Nat → ix_M → (ix_R → Prop) → Prop} {l : Launch} {d : Nat} (H : ix_AllS l cX11_product 2 RX11 d none (o_X11_product TX11_one)) (Q : ix_R → Prop) (ls : ix_L) (st : List ix_V) (μ : ix_M) : ix_Ev (o_X11_product TX11_one) Q (114, ls, st, μ) = ix_vret (ix_Ev (o_X11_product TX11_one) Q) Q ls st μ := ix_Ev.eq H rfl ls st μ
theorem mLv_3 (c : Int32) : mLv c = 3 ↔ c = 43 ∨ c = 45 := by
  constructor
  · intro h
    rcases mLv_of (c := c) (by rw [h]; decide) with rfl | rfl | rfl | rfl | rfl | rfl | rfl | rfl | rfl | rfl
    all_goals first | exact Or.inl rfl | exact Or.inr rfl | exact absurd h (by decide)
  · rintro (rfl | rfl) <;> decide
theorem mLv_4 (c : Int32) : mLv c = 4 ↔ c = 42 ∨ c = 47 ∨ c = 37 := by
  constructor
  · intro h
    rcases mLv_of (c := c) (by rw [h]; decide) with rfl | rfl | rfl | rfl | rfl | rfl | rfl | rfl | rfl | rfl
    all_goals first | exact Or.inl rfl | exact Or.inr (Or.inl rfl) | exact Or.inr (Or.inr rfl) | exact absurd h (by decide)
  · rintro (rfl | rfl | rfl) <;> decide
/-- the state once the next operator of a level is taken, or none -/
def TkS (tp : Nat → Int32) (n u k : Nat) (lv : Int32) (q : Bool × RS) (v : Int32) (μ : ix_M) : Prop :=
  (v = 0 ∧ PsC μ tp n u k q ∧ (q.1 = true → ¬ mLv (nx tp n q.2.1) = lv)) ∨ (q.1 = true ∧ mLv (nx tp n q.2.1) = lv ∧ v = cOp (nx tp n q.2.1) ∧ PsC μ tp n u k (true, q.2.1 + 1, q.2.2))
theorem tkS_no {tp : Nat → Int32} {n u k : Nat} {lv : Int32} {q : Bool × RS} {μ : ix_M} (hP : PsC μ tp n u k q) (h : q.1 = true → ¬ mLv (nx tp n q.2.1) = lv) : TkS tp n u k lv q 0 μ := Or.inl ⟨rfl, hP, h⟩
theorem tkS_yes {tp : Nat → Int32} {n u k : Nat} {lv : Int32} {q : Bool × RS} {c v : Int32} {μ : ix_M} (hc : c ≠ -1) (h : hr tp n q = c) (hl : mLv c = lv) (hv : cOp c = v) (hP : PsC μ tp n u k (tk tp n q c)) : TkS tp n u k lv q v μ := by
  rw [tk, if_pos h] at hP
  by_cases b : q.1 = true
  · rw [hr, if_pos b] at h
    exact Or.inr ⟨b, by rw [h]; exact hl, by rw [h]; exact hv.symm, hP⟩
  · rw [hr, if_neg b] at h
    exact absurd h.symm hc
theorem tkch2 {tp : Nat → Int32} {n u k : Nat} {q : Bool × RS} {μ : ix_M} {x : Nat} (hx : x ≤ 8) (K : Int32 → ix_M → Prop) (hP : PsC μ tp n u k q) (hK : ∀ v μ', Fx [112, 118] μ μ' → TkS tp n u k 3 q v μ' → K v μ') : x ≤ 8 ∧ ∃ tp n u k q, PsC μ tp n u k q ∧ ∀ μ', Fx [112, 118] μ μ' → PsC μ' tp n u k (tk tp n q 43) → (¬ hr tp n q = 43 → x ≤ 8 ∧ ∃ tp n u k q, PsC μ' tp n u k q ∧ ∀ μ2, Fx [112, 118] μ' μ2 → PsC μ2 tp n u k (tk tp n q 45) → (¬ hr tp n q = 45 → K 0 μ2) ∧ (hr tp n q = 45 → K 20006 μ2)) ∧ (hr tp n q = 43 → K 20005 μ') := by
  refine ⟨hx, tp, n, u, k, q, hP, fun μ1 F1 g1 => ⟨fun z => ⟨hx, tp, n, u, k, q, ?_, fun μ2 F2 g2 => ⟨fun y => ?_, fun y => ?_⟩⟩, fun z => ?_⟩⟩
  · rw [tk, if_neg z] at g1
    exact g1
  · rw [tk, if_neg y] at g2
    refine hK 0 μ2 (F1.tr F2) (tkS_no g2 (fun b m => ?_))
    rw [hr, if_pos b] at z y
    rcases (mLv_3 _).mp m with e | e
    · exact z e
    · exact y e
  · exact hK _ μ2 (F1.tr F2) (tkS_yes (by decide) y (by decide) (by decide) g2)
  · exact hK _ μ1 F1 (tkS_yes (by decide) z (by decide) (by decide) g1)
theorem tkch3 {tp : Nat → Int32} {n u k : Nat} {q : Bool × RS} {μ : ix_M} {x : Nat} (hx : x ≤ 8) (K : Int32 → ix_M → Prop) (hP : PsC μ tp n u k q) (hK : ∀ v μ', Fx [112, 118] μ μ' → TkS tp n u k 4 q v μ' → K v μ') : x ≤ 8 ∧ ∃ tp n u k q, PsC μ tp n u k q ∧ ∀ μ', Fx [112, 118] μ μ' → PsC μ' tp n u k (tk tp n q 42) → (¬ hr tp n q = 42 → x ≤ 8 ∧ ∃ tp n u k q, PsC μ' tp n u k q ∧ ∀ μ2, Fx [112, 118] μ' μ2 → PsC μ2 tp n u k (tk tp n q 47) → (¬ hr tp n q = 47 → x ≤ 8 ∧ ∃ tp n u k q, PsC μ2 tp n u k q ∧ ∀ μ3, Fx [112, 118] μ2 μ3 → PsC μ3 tp n u k (tk tp n q 37) → (¬ hr tp n q = 37 → K 0 μ3) ∧ (hr tp n q = 37 → K 20009 μ3)) ∧ (hr tp n q = 47 → K 20008 μ2)) ∧ (hr tp n q = 42 → K 20007 μ') := by
  refine ⟨hx, tp, n, u, k, q, hP, fun μ1 F1 g1 => ⟨fun z => ⟨hx, tp, n, u, k, q, ?_, fun μ2 F2 g2 => ⟨fun y => ⟨hx, tp, n, u, k, q, ?_, fun μ3 F3 g3 => ⟨fun w => ?_, fun w => ?_⟩⟩, fun y => ?_⟩⟩, fun z => ?_⟩⟩
  · rw [tk, if_neg z] at g1
    exact g1
  · rw [tk, if_neg y] at g2
    exact g2
  · rw [tk, if_neg w] at g3
    refine hK 0 μ3 ((F1.tr F2).tr F3) (tkS_no g3 (fun b m => ?_))
    rw [hr, if_pos b] at z y w
    rcases (mLv_4 _).mp m with e | e | e
    · exact z e
    · exact y e
    · exact w e
  · exact hK _ μ3 ((F1.tr F2).tr F3) (tkS_yes (by decide) w (by decide) (by decide) g3)
  · exact hK _ μ2 (F1.tr F2) (tkS_yes (by decide) y (by decide) (by decide) g2)
  · exact hK _ μ1 F1 (tkS_yes (by decide) z (by decide) (by decide) g1)
theorem l_X11_sum {l : Launch} {tp : Nat → Int32} {n u k dd : Nat} {S : RF} (H : ix_AllS l cX11_sum 2 RX11 dd none (o_X11_sum (T_rd tp n u k S))) (hS : RGd n S 0) {μ0 : ix_M} {Q : ix_R → Prop} : ∀ (f : Nat) (b : Bool) (a : Nat) (cs : List Int32) (v : Int32) (μ : ix_M), n < a + f → Fx [112, 118] μ0 μ → cs.length ≤ a → TkS tp n u k 3 (b, a, cs) v μ → (∀ μ', Fx [112, 118] μ0 μ' → PsC μ' tp n u k (lf (rdLp tp n S 3 f) (b, a, cs)) → Q (none, μ')) → ix_Ev (o_X11_sum (T_rd tp n u k S)) Q (36, [some (vr 10 112), some (vi v)], [], μ)
  | f, b, a, cs, v, μ, hf, hF, hl, Or.inl ⟨hv, hP, hT⟩, hQ => by
    subst hv
    simp only at hP hT
    rw [e_X11_sum_36 H]
    simp (decide := true) only [e_X11_sum_0 H, e_X11_sum_1 H, e_X11_sum_4 H, e_X11_sum_5 H, e_X11_sum_7 H, e_X11_sum_10 H, e_X11_sum_13 H, e_X11_sum_16 H, e_X11_sum_19 H, e_X11_sum_20 H, e_X11_sum_22 H, e_X11_sum_25 H, e_X11_sum_28 H, e_X11_sum_31 H, e_X11_sum_34 H, e_X11_sum_35 H, e_X11_sum_37 H, e_X11_sum_40 H, e_X11_sum_41 H, e_X11_sum_44 H, e_X11_sum_45 H, e_X11_sum_46 H, e_X11_sum_49 H, e_X11_sum_50 H, e_X11_sum_52 H, e_X11_sum_55 H, e_X11_sum_58 H, e_X11_sum_61 H, e_X11_sum_64 H, e_X11_sum_65 H, e_X11_sum_67 H, e_X11_sum_70 H, e_X11_sum_73 H, e_X11_sum_76 H, e_X11_sum_79 H, e_X11_sum_80 H, e_X11_sum_81 H, e_X11_sum_84 H, vi, vl, vr, ocr_X11_product, oc_X11_codes, T_X11_codes, oc_X11_takes, T_X11_takes, ix_push, ix_iload, ix_lload, ix_aload, ix_istore, ix_astore, ix_iinc, ix_bin, ix_div, ix_un, ix_i2l, ix_l2i, ix_lbin, ix_lsh, ix_lcmp, ix_dup, ix_dup2, ix_pop, ix_if, ix_cmp, ix_goto, ix_switch, ix_sw, ix_iret, ix_zret, ix_vret, ix_aret, ix_geti, ix_getr, ix_puti, ix_putz, ix_puts, ix_gets, ix_iald, ix_iast, ix_alen, ix_aald, ix_gval, ix_gcod, ix_bald, ix_blen, ix_sald, ix_nret, ix_math2, ix_math1, ix_acopy, ml_113, ml_114, ml_115, ml_116, ml_118, ml_119, ml_120, ml_121, ml_122, ml_123, ml_124, ml_125, ml_126, mv_0, mv_1, mv_2, mv_3, mv_4, mv_5, mB_or, Nat.add_assoc, Int32.reduceLT, Int32.reduceLE, Int32.reduceToNatClampNeg, Int32.reduceSub, Int32.reduceAdd, Nat.reduceAdd, Nat.reduceLeDiff, true_or, or_true, or_false, false_or, not_false_eq_true, not_true_eq_false, false_implies, true_implies, implies_true, and_self, mB_0, mB_01, Classical.not_not, Nat.zero_le, List.getElem?_cons_zero, List.getElem?_cons_succ, List.set_cons_zero, List.set_cons_succ, ix_nl, ix_cs, true_and, and_true, Option.toList_some, Option.toList_none, List.cons_append, List.nil_append]
    refine hQ μ hF ?_
    unfold lf
    cases b
    · exact hP
    · cases f with
      | zero => exact hP
      | succ f =>
        simp only [rdLp, if_true, if_neg (hT rfl)]
        exact hP
  | 0, b, a, cs, v, μ, hf, hF, hl, Or.inr ⟨hb, hm, hv, hP⟩, hQ => by
    have := hP.2.2.2.2.1.2
    simp only at this
    omega
  | f + 1, b, a, cs, v, μ, hf, hF, hl, Or.inr ⟨hb, hm, hv, hP⟩, hQ => by
    simp only at hb hm hv hP
    have hv0 : ¬ v ≤ 0 := by
      rw [hv]
      rcases (mLv_3 _).mp hm with e | e <;> rw [e] <;> decide
    have hn50 := hP.1.2.1
    have han := hP.2.2.2.2.1.2
    simp only at han
    obtain ⟨u1, u2, u3, u4⟩ := hS (a + 1, cs) (by simp only; omega)
    simp only at u1 u2 u3 u4
    subst hb
    have hQ : ∀ μ', Fx [112, 118] μ0 μ' → PsC μ' tp n u k (rdLp tp n S 3 (f + 1) (a, cs)) → Q (none, μ') := hQ
    rw [rdLp] at hQ
    simp only [if_pos hm, ← hv] at hQ
    have le8 : ix_cs ((none : Option ix_V).toList ++ []) ≤ 8 := Nat.le_of_ble_eq_true rfl
    rw [e_X11_sum_36 H]
    simp (decide := true) only [e_X11_sum_0 H, e_X11_sum_1 H, e_X11_sum_4 H, e_X11_sum_5 H, e_X11_sum_7 H, e_X11_sum_10 H, e_X11_sum_13 H, e_X11_sum_16 H, e_X11_sum_19 H, e_X11_sum_20 H, e_X11_sum_22 H, e_X11_sum_25 H, e_X11_sum_28 H, e_X11_sum_31 H, e_X11_sum_34 H, e_X11_sum_35 H, e_X11_sum_37 H, e_X11_sum_40 H, e_X11_sum_41 H, e_X11_sum_44 H, e_X11_sum_45 H, e_X11_sum_46 H, e_X11_sum_49 H, e_X11_sum_50 H, e_X11_sum_52 H, e_X11_sum_55 H, e_X11_sum_58 H, e_X11_sum_61 H, e_X11_sum_64 H, e_X11_sum_65 H, e_X11_sum_67 H, e_X11_sum_70 H, e_X11_sum_73 H, e_X11_sum_76 H, e_X11_sum_79 H, e_X11_sum_80 H, e_X11_sum_81 H, e_X11_sum_84 H, vi, vl, vr, ocr_X11_product, oc_X11_codes, T_X11_codes, oc_X11_takes, T_X11_takes, ix_push, ix_iload, ix_lload, ix_aload, ix_istore, ix_astore, ix_iinc, ix_bin, ix_div, ix_un, ix_i2l, ix_l2i, ix_lbin, ix_lsh, ix_lcmp, ix_dup, ix_dup2, ix_pop, ix_if, ix_cmp, ix_goto, ix_switch, ix_sw, ix_iret, ix_zret, ix_vret, ix_aret, ix_geti, ix_getr, ix_puti, ix_putz, ix_puts, ix_gets, ix_iald, ix_iast, ix_alen, ix_aald, ix_gval, ix_gcod, ix_bald, ix_blen, ix_sald, ix_nret, ix_math2, ix_math1, ix_acopy, ml_113, ml_114, ml_115, ml_116, ml_118, ml_119, ml_120, ml_121, ml_122, ml_123, ml_124, ml_125, ml_126, mv_0, mv_1, mv_2, mv_3, mv_4, mv_5, mB_or, Nat.add_assoc, Int32.reduceLT, Int32.reduceLE, Int32.reduceToNatClampNeg, Int32.reduceSub, Int32.reduceAdd, Nat.reduceAdd, Nat.reduceLeDiff, true_or, or_true, or_false, false_or, not_false_eq_true, not_true_eq_false, false_implies, true_implies, implies_true, and_self, mB_0, mB_01, Classical.not_not, Nat.zero_le, List.getElem?_cons_zero, List.getElem?_cons_succ, List.set_cons_zero, List.set_cons_succ, ix_nl, ix_cs, true_and, and_true, Option.toList_some, Option.toList_none, List.cons_append, List.nil_append, hv0]
    refine ⟨(true, a + 1, cs), hP, by simp only; omega, fun μ2 F2 g2 => ⟨le8, tp, n, u, k, S (a + 1, cs), g2, by omega, fun μ3 F3 g3 => ?_⟩⟩
    refine tkch2 le8 (fun v μ' => ix_Ev (o_X11_sum (T_rd tp n u k S)) Q (36, [some (vr 10 112), some (vi v)], [], μ')) g3 (fun v' μ4 F4 g4 => ?_)
    have F5 := ((hF.tr F2).tr F3).tr F4
    cases hq : (S (a + 1, cs)).1
    · simp only [hq, Bool.false_eq_true, if_false] at hQ
      have e : cd (S (a + 1, cs)) v = (false, (S (a + 1, cs)).2.1, (S (a + 1, cs)).2.2) := by
        rw [cd, hq, if_neg (by decide), ← hq]
      rw [e] at g4
      rcases g4 with ⟨rfl, hP4, -⟩ | ⟨h, -⟩
      · exact l_X11_sum H hS f false (S (a + 1, cs)).2.1 (S (a + 1, cs)).2.2 0 μ4 (by omega) F5 (by omega) (Or.inl ⟨rfl, hP4, fun z => absurd z Bool.false_ne_true⟩) hQ
      · exact absurd h Bool.false_ne_true
    · simp only [hq, if_true] at hQ
      have e : cd (S (a + 1, cs)) v = (true, (S (a + 1, cs)).2.1, (S (a + 1, cs)).2.2 ++ [v]) := by
        rw [cd, hq, if_pos rfl]
      rw [e] at g4
      have := (u4 hq).1
      exact l_X11_sum H hS f true _ _ v' μ4 (by omega) F5 (by simp; omega) g4 hQ
theorem c_X11_sum (l : Launch) (tp : Nat → Int32) (n u k d : Nat) (U : RF) (hU : RGd n U 0) (hd : 6 ≤ d) (hB : ix_Ct l yX11_product cX11_product 2 none d sh_X11_product (T_rd tp n u k (rdLv tp n U 1))) : ix_Ct l yX11_sum cX11_sum 2 none (d + 1) sh_X11_sum (T_rd tp n u k (rdLv tp n U 2)) := by
  have H := a_X11_sum l (d + 1) (by omega) hB (by omega) (mo_rd tp n u k _)
  have hS := rdLv_ok (tp := tp) hU 1
  refine ix_ct H rfl (by decide) (fun _ => Nat.le_of_ble_eq_true rfl) (fun o μ Q hok hT => ?_)
  have ok_o := ix_ok_at (hok (vr 10 o) (by simp [sh_X11_sum])) (by decide) (by decide)
  obtain rfl := ok_10 o ok_o.1 ok_o.2
  obtain ⟨q, h1, h2, hQ⟩ := hT
  show ix_Ev (o_X11_sum _) Q (0, [some (vr 10 112), none], [], μ)
  simp (decide := true) only [e_X11_sum_0 H, e_X11_sum_1 H, e_X11_sum_4 H, e_X11_sum_5 H, e_X11_sum_7 H, e_X11_sum_10 H, e_X11_sum_13 H, e_X11_sum_16 H, e_X11_sum_19 H, e_X11_sum_20 H, e_X11_sum_22 H, e_X11_sum_25 H, e_X11_sum_28 H, e_X11_sum_31 H, e_X11_sum_34 H, e_X11_sum_35 H, e_X11_sum_37 H, e_X11_sum_40 H, e_X11_sum_41 H, e_X11_sum_44 H, e_X11_sum_45 H, e_X11_sum_46 H, e_X11_sum_49 H, e_X11_sum_50 H, e_X11_sum_52 H, e_X11_sum_55 H, e_X11_sum_58 H, e_X11_sum_61 H, e_X11_sum_64 H, e_X11_sum_65 H, e_X11_sum_67 H, e_X11_sum_70 H, e_X11_sum_73 H, e_X11_sum_76 H, e_X11_sum_79 H, e_X11_sum_80 H, e_X11_sum_81 H, e_X11_sum_84 H, vi, vl, vr, ocr_X11_product, oc_X11_codes, T_X11_codes, oc_X11_takes, T_X11_takes, ix_push, ix_iload, ix_lload, ix_aload, ix_istore, ix_astore, ix_iinc, ix_bin, ix_div, ix_un, ix_i2l, ix_l2i, ix_lbin, ix_lsh, ix_lcmp, ix_dup, ix_dup2, ix_pop, ix_if, ix_cmp, ix_goto, ix_switch, ix_sw, ix_iret, ix_zret, ix_vret, ix_aret, ix_geti, ix_getr, ix_puti, ix_putz, ix_puts, ix_gets, ix_iald, ix_iast, ix_alen, ix_aald, ix_gval, ix_gcod, ix_bald, ix_blen, ix_sald, ix_nret, ix_math2, ix_math1, ix_acopy, ml_113, ml_114, ml_115, ml_116, ml_118, ml_119, ml_120, ml_121, ml_122, ml_123, ml_124, ml_125, ml_126, mv_0, mv_1, mv_2, mv_3, mv_4, mv_5, mB_or, Nat.add_assoc, Int32.reduceLT, Int32.reduceLE, Int32.reduceToNatClampNeg, Int32.reduceSub, Int32.reduceAdd, Nat.reduceAdd, Nat.reduceLeDiff, true_or, or_true, or_false, false_or, not_false_eq_true, not_true_eq_false, false_implies, true_implies, implies_true, and_self, mB_0, mB_01, Classical.not_not, Nat.zero_le, List.getElem?_cons_zero, List.getElem?_cons_succ, List.set_cons_zero, List.set_cons_succ, ix_nl, ix_cs, true_and, and_true, Option.toList_some, Option.toList_none, List.cons_append, List.nil_append]
  refine ⟨q, h1, h2, fun μ1 F1 g1 => ?_⟩
  have le8 : ix_cs ((none : Option ix_V).toList ++ []) ≤ 8 := Nat.le_of_ble_eq_true rfl
  obtain ⟨b, a0, cs0⟩ := q
  have hn50 := h1.1.2.1
  refine tkch2 le8 (fun v μ' => ix_Ev (o_X11_sum (T_rd tp n u k (rdLv tp n U 1))) Q (36, [some (vr 10 112), some (vi v)], [], μ')) g1 (fun v μ2 F2 g2 => ?_)
  cases b
  · refine l_X11_sum H hS 51 false a0 cs0 v μ2 (by omega) (F1.tr F2) h2 g2 (fun μ' F' g' => hQ μ' F' g')
  · obtain ⟨u1, u2, u3, u4⟩ := hS (a0, cs0) h1.2.2.2.2.1.2
    simp only at u1 u2 u3 u4 h2
    have g2 : TkS tp n u k 3 (rdLv tp n U 1 (a0, cs0)) v μ2 := g2
    have hQ : ∀ μ', Fx [112, 118] μ μ' → PsC μ' tp n u k (rdLv tp n U 2 (a0, cs0)) → Q (none, μ') := hQ
    have e3 : rdLv tp n U 2 (a0, cs0) = if (rdLv tp n U 1 (a0, cs0)).1 = true then rdLp tp n (rdLv tp n U 1) 3 50 (rdLv tp n U 1 (a0, cs0)).2 else (false, (rdLv tp n U 1 (a0, cs0)).2) := rfl
    rw [e3] at hQ
    cases hq : (rdLv tp n U 1 (a0, cs0)).1
    · simp only [hq, Bool.false_eq_true, if_false] at hQ
      have e : rdLv tp n U 1 (a0, cs0) = (false, (rdLv tp n U 1 (a0, cs0)).2.1, (rdLv tp n U 1 (a0, cs0)).2.2) := by rw [← hq]
      rw [e] at g2
      exact l_X11_sum H hS 51 false _ _ v μ2 (by omega) (F1.tr F2) (by omega) g2 hQ
    · simp only [hq, if_true] at hQ
      have e : rdLv tp n U 1 (a0, cs0) = (true, (rdLv tp n U 1 (a0, cs0)).2.1, (rdLv tp n U 1 (a0, cs0)).2.2) := by rw [← hq]
      rw [e] at g2
      have := (u4 hq).1
      exact l_X11_sum H hS 50 true _ _ v μ2 (by omega) (F1.tr F2) (by omega) g2 hQ
theorem l_X11_product {l : Launch} {tp : Nat → Int32} {n u k dd : Nat} {S : RF} (H : ix_AllS l cX11_product 2 RX11 dd none (o_X11_product (T_rd tp n u k S))) (hS : RGd n S 0) {μ0 : ix_M} {Q : ix_R → Prop} : ∀ (f : Nat) (b : Bool) (a : Nat) (cs : List Int32) (v : Int32) (μ : ix_M), n < a + f → Fx [112, 118] μ0 μ → cs.length ≤ a → TkS tp n u k 4 (b, a, cs) v μ → (∀ μ', Fx [112, 118] μ0 μ' → PsC μ' tp n u k (lf (rdLp tp n S 4 f) (b, a, cs)) → Q (none, μ')) → ix_Ev (o_X11_product (T_rd tp n u k S)) Q (51, [some (vr 10 112), some (vi v)], [], μ)
  | f, b, a, cs, v, μ, hf, hF, hl, Or.inl ⟨hv, hP, hT⟩, hQ => by
    subst hv
    simp only at hP hT
    rw [e_X11_product_51 H]
    simp (decide := true) only [e_X11_product_0 H, e_X11_product_1 H, e_X11_product_4 H, e_X11_product_5 H, e_X11_product_7 H, e_X11_product_10 H, e_X11_product_13 H, e_X11_product_16 H, e_X11_product_19 H, e_X11_product_20 H, e_X11_product_22 H, e_X11_product_25 H, e_X11_product_28 H, e_X11_product_31 H, e_X11_product_34 H, e_X11_product_35 H, e_X11_product_37 H, e_X11_product_40 H, e_X11_product_43 H, e_X11_product_46 H, e_X11_product_49 H, e_X11_product_50 H, e_X11_product_52 H, e_X11_product_55 H, e_X11_product_56 H, e_X11_product_59 H, e_X11_product_60 H, e_X11_product_61 H, e_X11_product_64 H, e_X11_product_65 H, e_X11_product_67 H, e_X11_product_70 H, e_X11_product_73 H, e_X11_product_76 H, e_X11_product_79 H, e_X11_product_80 H, e_X11_product_82 H, e_X11_product_85 H, e_X11_product_88 H, e_X11_product_91 H, e_X11_product_94 H, e_X11_product_95 H, e_X11_product_97 H, e_X11_product_100 H, e_X11_product_103 H, e_X11_product_106 H, e_X11_product_109 H, e_X11_product_110 H, e_X11_product_111 H, e_X11_product_114 H, vi, vl, vr, ocr_X11_one, oc_X11_codes, T_X11_codes, oc_X11_takes, T_X11_takes, ix_push, ix_iload, ix_lload, ix_aload, ix_istore, ix_astore, ix_iinc, ix_bin, ix_div, ix_un, ix_i2l, ix_l2i, ix_lbin, ix_lsh, ix_lcmp, ix_dup, ix_dup2, ix_pop, ix_if, ix_cmp, ix_goto, ix_switch, ix_sw, ix_iret, ix_zret, ix_vret, ix_aret, ix_geti, ix_getr, ix_puti, ix_putz, ix_puts, ix_gets, ix_iald, ix_iast, ix_alen, ix_aald, ix_gval, ix_gcod, ix_bald, ix_blen, ix_sald, ix_nret, ix_math2, ix_math1, ix_acopy, ml_113, ml_114, ml_115, ml_116, ml_118, ml_119, ml_120, ml_121, ml_122, ml_123, ml_124, ml_125, ml_126, mv_0, mv_1, mv_2, mv_3, mv_4, mv_5, mB_or, Nat.add_assoc, Int32.reduceLT, Int32.reduceLE, Int32.reduceToNatClampNeg, Int32.reduceSub, Int32.reduceAdd, Nat.reduceAdd, Nat.reduceLeDiff, true_or, or_true, or_false, false_or, not_false_eq_true, not_true_eq_false, false_implies, true_implies, implies_true, and_self, mB_0, mB_01, Classical.not_not, Nat.zero_le, List.getElem?_cons_zero, List.getElem?_cons_succ, List.set_cons_zero, List.set_cons_succ, ix_nl, ix_cs, true_and, and_true, Option.toList_some, Option.toList_none, List.cons_append, List.nil_append]
    refine hQ μ hF ?_
    unfold lf
    cases b
    · exact hP
    · cases f with
      | zero => exact hP
      | succ f =>
        simp only [rdLp, if_true, if_neg (hT rfl)]
        exact hP
  | 0, b, a, cs, v, μ, hf, hF, hl, Or.inr ⟨hb, hm, hv, hP⟩, hQ => by
    have := hP.2.2.2.2.1.2
    simp only at this
    omega
  | f + 1, b, a, cs, v, μ, hf, hF, hl, Or.inr ⟨hb, hm, hv, hP⟩, hQ => by
    simp only at hb hm hv hP
    have hv0 : ¬ v ≤ 0 := by
      rw [hv]
      rcases (mLv_4 _).mp hm with e | e | e <;> rw [e] <;> decide
    have hn50 := hP.1.2.1
    have han := hP.2.2.2.2.1.2
    simp only at han
    obtain ⟨u1, u2, u3, u4⟩ := hS (a + 1, cs) (by simp only; omega)
    simp only at u1 u2 u3 u4
    subst hb
    have hQ : ∀ μ', Fx [112, 118] μ0 μ' → PsC μ' tp n u k (rdLp tp n S 4 (f + 1) (a, cs)) → Q (none, μ') := hQ
    rw [rdLp] at hQ
    simp only [if_pos hm, ← hv] at hQ
    have le8 : ix_cs ((none : Option ix_V).toList ++ []) ≤ 8 := Nat.le_of_ble_eq_true rfl
    rw [e_X11_product_51 H]
    simp (decide := true) only [e_X11_product_0 H, e_X11_product_1 H, e_X11_product_4 H, e_X11_product_5 H, e_X11_product_7 H, e_X11_product_10 H, e_X11_product_13 H, e_X11_product_16 H, e_X11_product_19 H, e_X11_product_20 H, e_X11_product_22 H, e_X11_product_25 H, e_X11_product_28 H, e_X11_product_31 H, e_X11_product_34 H, e_X11_product_35 H, e_X11_product_37 H, e_X11_product_40 H, e_X11_product_43 H, e_X11_product_46 H, e_X11_product_49 H, e_X11_product_50 H, e_X11_product_52 H, e_X11_product_55 H, e_X11_product_56 H, e_X11_product_59 H, e_X11_product_60 H, e_X11_product_61 H, e_X11_product_64 H, e_X11_product_65 H, e_X11_product_67 H, e_X11_product_70 H, e_X11_product_73 H, e_X11_product_76 H, e_X11_product_79 H, e_X11_product_80 H, e_X11_product_82 H, e_X11_product_85 H, e_X11_product_88 H, e_X11_product_91 H, e_X11_product_94 H, e_X11_product_95 H, e_X11_product_97 H, e_X11_product_100 H, e_X11_product_103 H, e_X11_product_106 H, e_X11_product_109 H, e_X11_product_110 H, e_X11_product_111 H, e_X11_product_114 H, vi, vl, vr, ocr_X11_one, oc_X11_codes, T_X11_codes, oc_X11_takes, T_X11_takes, ix_push, ix_iload, ix_lload, ix_aload, ix_istore, ix_astore, ix_iinc, ix_bin, ix_div, ix_un, ix_i2l, ix_l2i, ix_lbin, ix_lsh, ix_lcmp, ix_dup, ix_dup2, ix_pop, ix_if, ix_cmp, ix_goto, ix_switch, ix_sw, ix_iret, ix_zret, ix_vret, ix_aret, ix_geti, ix_getr, ix_puti, ix_putz, ix_puts, ix_gets, ix_iald, ix_iast, ix_alen, ix_aald, ix_gval, ix_gcod, ix_bald, ix_blen, ix_sald, ix_nret, ix_math2, ix_math1, ix_acopy, ml_113, ml_114, ml_115, ml_116, ml_118, ml_119, ml_120, ml_121, ml_122, ml_123, ml_124, ml_125, ml_126, mv_0, mv_1, mv_2, mv_3, mv_4, mv_5, mB_or, Nat.add_assoc, Int32.reduceLT, Int32.reduceLE, Int32.reduceToNatClampNeg, Int32.reduceSub, Int32.reduceAdd, Nat.reduceAdd, Nat.reduceLeDiff, true_or, or_true, or_false, false_or, not_false_eq_true, not_true_eq_false, false_implies, true_implies, implies_true, and_self, mB_0, mB_01, Classical.not_not, Nat.zero_le, List.getElem?_cons_zero, List.getElem?_cons_succ, List.set_cons_zero, List.set_cons_succ, ix_nl, ix_cs, true_and, and_true, Option.toList_some, Option.toList_none, List.cons_append, List.nil_append, hv0]
    refine ⟨(true, a + 1, cs), hP, by simp only; omega, fun μ2 F2 g2 => ⟨le8, tp, n, u, k, S (a + 1, cs), g2, by omega, fun μ3 F3 g3 => ?_⟩⟩
    refine tkch3 le8 (fun v μ' => ix_Ev (o_X11_product (T_rd tp n u k S)) Q (51, [some (vr 10 112), some (vi v)], [], μ')) g3 (fun v' μ4 F4 g4 => ?_)
    have F5 := ((hF.tr F2).tr F3).tr F4
    cases hq : (S (a + 1, cs)).1
    · simp only [hq, Bool.false_eq_true, if_false] at hQ
      have e : cd (S (a + 1, cs)) v = (false, (S (a + 1, cs)).2.1, (S (a + 1, cs)).2.2) := by
        rw [cd, hq, if_neg (by decide), ← hq]
      rw [e] at g4
      rcases g4 with ⟨rfl, hP4, -⟩ | ⟨h, -⟩
      · exact l_X11_product H hS f false (S (a + 1, cs)).2.1 (S (a + 1, cs)).2.2 0 μ4 (by omega) F5 (by omega) (Or.inl ⟨rfl, hP4, fun z => absurd z Bool.false_ne_true⟩) hQ
      · exact absurd h Bool.false_ne_true
    · simp only [hq, if_true] at hQ
      have e : cd (S (a + 1, cs)) v = (true, (S (a + 1, cs)).2.1, (S (a + 1, cs)).2.2 ++ [v]) := by
        rw [cd, hq, if_pos rfl]
      rw [e] at g4
      have := (u4 hq).1
      exact l_X11_product H hS f true _ _ v' μ4 (by omega) F5 (by simp; omega) g4 hQ
theorem c_X11_product (l : Launch) (tp : Nat → Int32) (n u k d : Nat) (U : RF) (hU : RGd n U 0) (hd : 6 ≤ d) (hB : ix_Ct l yX11_one cX11_one 4 none d sh_X11_one (T_rd tp n u k (rdLv tp n U 0))) : ix_Ct l yX11_product cX11_product 2 none (d + 1) sh_X11_product (T_rd tp n u k (rdLv tp n U 1)) := by
  have H := a_X11_product l (d + 1) (by omega) hB (by omega) (mo_rd tp n u k _)
  have hS := rdLv_ok (tp := tp) hU 0
  refine ix_ct H rfl (by decide) (fun _ => Nat.le_of_ble_eq_true rfl) (fun o μ Q hok hT => ?_)
  have ok_o := ix_ok_at (hok (vr 10 o) (by simp [sh_X11_product])) (by decide) (by decide)
  obtain rfl := ok_10 o ok_o.1 ok_o.2
  obtain ⟨q, h1, h2, hQ⟩ := hT
  show ix_Ev (o_X11_product _) Q (0, [some (vr 10 112), none], [], μ)
  simp (decide := true) only [e_X11_product_0 H, e_X11_product_1 H, e_X11_product_4 H, e_X11_product_5 H, e_X11_product_7 H, e_X11_product_10 H, e_X11_product_13 H, e_X11_product_16 H, e_X11_product_19 H, e_X11_product_20 H, e_X11_product_22 H, e_X11_product_25 H, e_X11_product_28 H, e_X11_product_31 H, e_X11_product_34 H, e_X11_product_35 H, e_X11_product_37 H, e_X11_product_40 H, e_X11_product_43 H, e_X11_product_46 H, e_X11_product_49 H, e_X11_product_50 H, e_X11_product_52 H, e_X11_product_55 H, e_X11_product_56 H, e_X11_product_59 H, e_X11_product_60 H, e_X11_product_61 H, e_X11_product_64 H, e_X11_product_65 H, e_X11_product_67 H, e_X11_product_70 H, e_X11_product_73 H, e_X11_product_76 H, e_X11_product_79 H, e_X11_product_80 H, e_X11_product_82 H, e_X11_product_85 H, e_X11_product_88 H, e_X11_product_91 H, e_X11_product_94 H, e_X11_product_95 H, e_X11_product_97 H, e_X11_product_100 H, e_X11_product_103 H, e_X11_product_106 H, e_X11_product_109 H, e_X11_product_110 H, e_X11_product_111 H, e_X11_product_114 H, vi, vl, vr, ocr_X11_one, oc_X11_codes, T_X11_codes, oc_X11_takes, T_X11_takes, ix_push, ix_iload, ix_lload, ix_aload, ix_istore, ix_astore, ix_iinc, ix_bin, ix_div, ix_un, ix_i2l, ix_l2i, ix_lbin, ix_lsh, ix_lcmp, ix_dup, ix_dup2, ix_pop, ix_if, ix_cmp, ix_goto, ix_switch, ix_sw, ix_iret, ix_zret, ix_vret, ix_aret, ix_geti, ix_getr, ix_puti, ix_putz, ix_puts, ix_gets, ix_iald, ix_iast, ix_alen, ix_aald, ix_gval, ix_gcod, ix_bald, ix_blen, ix_sald, ix_nret, ix_math2, ix_math1, ix_acopy, ml_113, ml_114, ml_115, ml_116, ml_118, ml_119, ml_120, ml_121, ml_122, ml_123, ml_124, ml_125, ml_126, mv_0, mv_1, mv_2, mv_3, mv_4, mv_5, mB_or, Nat.add_assoc, Int32.reduceLT, Int32.reduceLE, Int32.reduceToNatClampNeg, Int32.reduceSub, Int32.reduceAdd, Nat.reduceAdd, Nat.reduceLeDiff, true_or, or_true, or_false, false_or, not_false_eq_true, not_true_eq_false, false_implies, true_implies, implies_true, and_self, mB_0, mB_01, Classical.not_not, Nat.zero_le, List.getElem?_cons_zero, List.getElem?_cons_succ, List.set_cons_zero, List.set_cons_succ, ix_nl, ix_cs, true_and, and_true, Option.toList_some, Option.toList_none, List.cons_append, List.nil_append]
  refine ⟨q, h1, h2, fun μ1 F1 g1 => ?_⟩
  have le8 : ix_cs ((none : Option ix_V).toList ++ []) ≤ 8 := Nat.le_of_ble_eq_true rfl
  obtain ⟨b, a0, cs0⟩ := q
  have hn50 := h1.1.2.1
  refine tkch3 le8 (fun v μ' => ix_Ev (o_X11_product (T_rd tp n u k (rdLv tp n U 0))) Q (51, [some (vr 10 112), some (vi v)], [], μ')) g1 (fun v μ2 F2 g2 => ?_)
  cases b
  · refine l_X11_product H hS 51 false a0 cs0 v μ2 (by omega) (F1.tr F2) h2 g2 (fun μ' F' g' => hQ μ' F' g')
  · obtain ⟨u1, u2, u3, u4⟩ := hS (a0, cs0) h1.2.2.2.2.1.2
    simp only at u1 u2 u3 u4 h2
    have g2 : TkS tp n u k 4 (rdLv tp n U 0 (a0, cs0)) v μ2 := g2
    have hQ : ∀ μ', Fx [112, 118] μ μ' → PsC μ' tp n u k (rdLv tp n U 1 (a0, cs0)) → Q (none, μ') := hQ
    have e3 : rdLv tp n U 1 (a0, cs0) = if (rdLv tp n U 0 (a0, cs0)).1 = true then rdLp tp n (rdLv tp n U 0) 4 50 (rdLv tp n U 0 (a0, cs0)).2 else (false, (rdLv tp n U 0 (a0, cs0)).2) := rfl
    rw [e3] at hQ
    cases hq : (rdLv tp n U 0 (a0, cs0)).1
    · simp only [hq, Bool.false_eq_true, if_false] at hQ
      have e : rdLv tp n U 0 (a0, cs0) = (false, (rdLv tp n U 0 (a0, cs0)).2.1, (rdLv tp n U 0 (a0, cs0)).2.2) := by rw [← hq]
      rw [e] at g2
      exact l_X11_product H hS 51 false _ _ v μ2 (by omega) (F1.tr F2) (by omega) g2 hQ
    · simp only [hq, if_true] at hQ
      have e : rdLv tp n U 0 (a0, cs0) = (true, (rdLv tp n U 0 (a0, cs0)).2.1, (rdLv tp n U 0 (a0, cs0)).2.2) := by rw [← hq]
      rw [e] at g2
      have := (u4 hq).1
      exact l_X11_product H hS 50 true _ _ v μ2 (by omega) (F1.tr F2) (by omega) g2 hQ
