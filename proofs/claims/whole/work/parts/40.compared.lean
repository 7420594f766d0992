/-! ===== the model: compared ===== -/
def sh_X11_sum (x : Nat) : List ix_V := [vr 10 x]
def ocr_X11_sum (T : Nat → ix_M → (ix_R → Prop) → Prop) (n : Nat) : ix_Op := fun k _ ls st μ => match st with
  | .inr (.inr (t0, a0)) :: r => t0 = 10 ∧ ix_cs r ≤ 8 ∧ T a0 μ (fun q => k (n, ls, q.1.toList ++ r, q.2))
  | _ => False
theorem ocr_X11_sum_s {T : Nat → ix_M → (ix_R → Prop) → Prop} (hm : ∀ x μ Q Q', (∀ r, Q r → Q' r) → T x μ Q → T x μ Q') {l : Launch} {cc : ByteArray} {nL : Nat} {own : String} {d : Nat} {rt : Option FieldType} {pc n : Nat} (h : ix_S l cc nL own d rt pc (ix_call 1 sh_X11_sum T n)) : ix_S l cc nL own d rt pc (ocr_X11_sum T n) := by
  refine h.by (fun k Q ls st μ h => ?_) (fun k k' Q ls st μ hk h => ?_)
  · unfold ocr_X11_sum at h
    split at h
    · rename_i t0 a0 r
      obtain ⟨rfl, h1, h2⟩ := h
      exact ⟨h1, a0, rfl, _, h2, fun r h => h⟩
    · exact h.elim
  · unfold ocr_X11_sum at h ⊢
    split at h
    · obtain ⟨rfl, h1, h2⟩ := h
      exact ⟨rfl, h1, hm _ _ _ _ (fun q hq => hk _ hq) h2⟩
    · exact h.elim
def o_X11_compared (TX11_sum : Nat → ix_M → (ix_R → Prop) → Prop) : List (Nat × ix_Op) := [
  (0, ix_aload 0 1),
  (1, ocr_X11_sum TX11_sum 4),
  (4, ix_aload 0 5),
  (5, ix_push (vi 60) 7),
  (7, oc_X11_takes 10),
  (10, ix_if (fun x => x = 0) 19 13),
  (13, ix_push (vi 20002) 16),
  (16, ix_goto 50),
  (19, ix_aload 0 20),
  (20, ix_push (vi 61) 22),
  (22, oc_X11_takes 25),
  (25, ix_if (fun x => x = 0) 34 28),
  (28, ix_push (vi 20003) 31),
  (31, ix_goto 50),
  (34, ix_aload 0 35),
  (35, ix_push (vi 62) 37),
  (37, oc_X11_takes 40),
  (40, ix_if (fun x => x = 0) 49 43),
  (43, ix_push (vi 20004) 46),
  (46, ix_goto 50),
  (49, ix_push (vi 0) 50),
  (50, ix_istore 1 51),
  (51, ix_iload 1 52),
  (52, ix_if (fun x => x ≤ 0) 64 55),
  (55, ix_aload 0 56),
  (56, ocr_X11_sum TX11_sum 59),
  (59, ix_aload 0 60),
  (60, ix_iload 1 61),
  (61, oc_X11_codes 64),
  (64, ix_vret)]
set_option maxRecDepth 20000 in
theorem a_X11_compared (l : Launch) (d : Nat) (hlev : 6 ≤ d) {TX11_sum : Nat → ix_M → (ix_R → Prop) → Prop} {d_X11_sum : Nat} (h_X11_sum : ix_Ct l yX11_sum cX11_sum 2 none d_X11_sum sh_X11_sum TX11_sum) (hl_X11_sum : d_X11_sum < d) (hm_X11_sum : ∀ x μ Q Q', (∀ r, Q r → Q' r) → TX11_sum x μ Q → TX11_sum x μ Q') : ix_AllS l cX11_compared 2 RX11 d none (o_X11_compared TX11_sum) :=
  .cons (ix_s_aload_n dX11_compared_0 rfl) <|
  .cons (ocr_X11_sum_s hm_X11_sum (ix_s_callv (t := 10) h_X11_sum hl_X11_sum (by decide) tw_988 tw_12 tw_985 tw_987 tp_22 ⟨by decide, by decide, by decide +kernel⟩ (by decide) rfl rfl (fun _ => ⟨_, _, rfl, rfl⟩) dX11_compared_1)) <|
  .cons (ix_s_aload_n dX11_compared_4 rfl) <|
  .cons (ix_s_bipush dX11_compared_5 (by decide +kernel)) <|
  .cons (oc_X11_takes_s (ix_s_callv (t := 10) (k_X11_takes l) (by omega) (by decide) tw_1008 tw_12 tw_1005 tw_1007 tp_27 ⟨by decide, by decide, by decide +kernel⟩ (by decide) rfl rfl (fun _ => ⟨_, _, rfl, rfl⟩) dX11_compared_7)) <|
  .cons (ix_s_if_eq dX11_compared_10 (by decide)) <|
  .cons (ix_s_sipush dX11_compared_13 (by decide +kernel)) <|
  .cons (ix_s_goto dX11_compared_16 (by decide)) <|
  .cons (ix_s_aload_n dX11_compared_19 rfl) <|
  .cons (ix_s_bipush dX11_compared_20 (by decide +kernel)) <|
  .cons (oc_X11_takes_s (ix_s_callv (t := 10) (k_X11_takes l) (by omega) (by decide) tw_1008 tw_12 tw_1005 tw_1007 tp_27 ⟨by decide, by decide, by decide +kernel⟩ (by decide) rfl rfl (fun _ => ⟨_, _, rfl, rfl⟩) dX11_compared_22)) <|
  .cons (ix_s_if_eq dX11_compared_25 (by decide)) <|
  .cons (ix_s_sipush dX11_compared_28 (by decide +kernel)) <|
  .cons (ix_s_goto dX11_compared_31 (by decide)) <|
  .cons (ix_s_aload_n dX11_compared_34 rfl) <|
  .cons (ix_s_bipush dX11_compared_35 (by decide +kernel)) <|
  .cons (oc_X11_takes_s (ix_s_callv (t := 10) (k_X11_takes l) (by omega) (by decide) tw_1008 tw_12 tw_1005 tw_1007 tp_27 ⟨by decide, by decide, by decide +kernel⟩ (by decide) rfl rfl (fun _ => ⟨_, _, rfl, rfl⟩) dX11_compared_37)) <|
  .cons (ix_s_if_eq dX11_compared_40 (by decide)) <|
  .cons (ix_s_sipush dX11_compared_43 (by decide +kernel)) <|
  .cons (ix_s_goto dX11_compared_46 (by decide)) <|
  .cons (ix_s_iconst dX11_compared_49 (by decide +kernel)) <|
  .cons (ix_s_istore_n dX11_compared_50 rfl (by decide)) <|
  .cons (ix_s_iload_n dX11_compared_51 rfl) <|
  .cons (ix_s_if_le dX11_compared_52 (by decide)) <|
  .cons (ix_s_aload_n dX11_compared_55 rfl) <|
  .cons (ocr_X11_sum_s hm_X11_sum (ix_s_callv (t := 10) h_X11_sum hl_X11_sum (by decide) tw_988 tw_12 tw_985 tw_987 tp_22 ⟨by decide, by decide, by decide +kernel⟩ (by decide) rfl rfl (fun _ => ⟨_, _, rfl, rfl⟩) dX11_compared_56)) <|
  .cons (ix_s_aload_n dX11_compared_59 rfl) <|
  .cons (ix_s_iload_n dX11_compared_60 rfl) <|
  .cons (oc_X11_codes_s (ix_s_callv (t := 10) (k_X11_codes l) (by omega) (by decide) tw_1004 tw_12 tw_1001 tw_1003 tp_26 ⟨by decide, by decide, by decide +kernel⟩ (by decide) rfl rfl (fun _ => ⟨_, _, rfl, rfl⟩) dX11_compared_61)) <|
  .cons (ix_s_vret dX11_compared_64 rfl) <| .nil
theorem e_X11_compared_0 {TX11_sum : Nat → ix_M → (ix_R → Prop) → Prop} {l : Launch} {d : Nat} (H : ix_AllS l cX11_compared 2 RX11 d none (o_X11_compared TX11_sum)) (Q : ix_R → Prop) (ls : ix_L) (st : List ix_V) (μ : ix_M) : ix_Ev (o_X11_compared TX11_sum) Q (0, ls, st, μ) = ix_aload 0 1 (ix_Ev (o_X11_compared TX11_sum) Q) Q ls st μ := ix_Ev.eq H rfl ls st μ
theorem e_X11_compared_1 {TX11_sum : Nat → ix_M → (ix_R → Prop) → Prop} {l : Launch} {d : Nat} (H : ix_AllS l cX11_compared 2 RX11 d none (o_X11_compared TX11_sum)) (Q : ix_R → Prop) (ls : ix_L) (st : List ix_V) (μ : ix_M) : ix_Ev (o_X11_compared TX11_sum) Q (1, ls, st, μ) = ocr_X11_sum TX11_sum 4 (ix_Ev (o_X11_compared TX11_sum) Q) Q ls st μ := ix_Ev.eq H rfl ls st μ
theorem e_X11_compared_4 {TX11_sum : Nat → ix_M → (ix_R → Prop) → Prop} {l : Launch} {d : Nat} (H : ix_AllS l cX11_compared 2 RX11 d none (o_X11_compared TX11_sum)) (Q : ix_R → Prop) (ls : ix_L) (st : List ix_V) (μ : ix_M) : ix_Ev (o_X11_compared TX11_sum) Q (4, ls, st, μ) = ix_aload 0 5 (ix_Ev (o_X11_compared TX11_sum) Q) Q ls st μ := ix_Ev.eq H rfl ls st μ
theorem e_X11_compared_5 {TX11_sum : Nat → ix_M → (ix_R → Prop) → Prop} {l : Launch} {d : Nat} (H : ix_AllS l cX11_compared 2 RX11 d none (o_X11_compared TX11_sum)) (Q : ix_R → Prop) (ls : ix_L) (st : List ix_V) (μ : ix_M) : ix_Ev (o_X11_compared TX11_sum) Q (5, ls, st, μ) = ix_push (vi 60) 7 (ix_Ev (o_X11_compared TX11_sum) Q) Q ls st μ := ix_Ev.eq H rfl ls st μ
theorem e_X11_compared_7 {TX11_sum : Nat → ix_M → (ix_R → Prop) → Prop} {l : Launch} {d : Nat} (H : ix_AllS l cX11_compared 2 RX11 d none (o_X11_compared TX11_sum)) (Q : ix_R → Prop) (ls : ix_L) (st : List ix_V) (μ : ix_M) : ix_Ev (o_X11_compared TX11_sum) Q (7, ls, st, μ) = oc_X11_takes 10 (ix_Ev (o_X11_compared TX11_sum) Q) Q ls st μ := ix_Ev.eq H rfl ls st μ
theorem e_X11_compared_10 {TX11_sum : Nat → ix_M → (ix_R → Prop) → Prop} {l : Launch} {d : Nat} (H : ix_AllS l cX11_compared 2 RX11 d none (o_X11_compared TX11_sum)) (Q : ix_R → Prop) (ls : ix_L) (st : List ix_V) (μ : ix_M) : ix_Ev (o_X11_compared TX11_sum) Q (10, ls, st, μ) = ix_if (fun x => x = 0) 19 13 (ix_Ev (o_X11_compared TX11_sum) Q) Q ls st μ := ix_Ev.eq H rfl ls st μ
theorem e_X11_compared_13 {TX11_sum : Nat → ix_M → (ix_R → Prop) → Prop} {l : Launch} {d : Nat} (H : ix_AllS l cX11_compared 2 RX11 d none (o_X11_compared TX11_sum)) (Q : ix_R → Prop) (ls : ix_L) (st : List ix_V) (μ : ix_M) : ix_Ev (o_X11_compared TX11_sum) Q (13, ls, st, μ) = ix_push (vi 20002) 16 (ix_Ev (o_X11_compared TX11_sum) Q) Q ls st μ := ix_Ev.eq H rfl ls st μ
theorem e_X11_compared_16 {TX11_sum : Nat → ix_M → (ix_R → Prop) → Prop} {l : Launch} {d : Nat} (H : ix_AllS l cX11_compared 2 RX11 d none (o_X11_compared TX11_sum)) (Q : ix_R → Prop) (ls : ix_L) (st : List ix_V) (μ : ix_M) : ix_Ev (o_X11_compared TX11_sum) Q (16, ls, st, μ) = ix_goto 50 (ix_Ev (o_X11_compared TX11_sum) Q) Q ls st μ := ix_Ev.eq H rfl ls st μ
theorem e_X11_compared_19 {TX11_sum : Nat → ix_M → (ix_R → Prop) → Prop} {l : Launch} {d : Nat} (H : ix_AllS l cX11_compared 2 RX11 d none (o_X11_compared TX11_sum)) (Q : ix_R → Prop) (ls : ix_L) (st : List ix_V) (μ : ix_M) : ix_Ev (o_X11_compared TX11_sum) Q (19, ls, st, μ) = ix_aload 0 20 (ix_Ev (o_X11_compared TX11_sum) Q) Q ls st μ := ix_Ev.eq H rfl ls st μ
theorem e_X11_compared_20 {TX11_sum : Nat → ix_M → (ix_R → Prop) → Prop} {l : Launch} {d : Nat} (H : ix_AllS l cX11_compared 2 RX11 d none (o_X11_compared TX11_sum)) (Q : ix_R → Prop) (ls : ix_L) (st : List ix_V) (μ : ix_M) : ix_Ev (o_X11_compared TX11_sum) Q (20, ls, st, μ) = ix_push (vi 61) 22 (ix_Ev (o_X11_compared TX11_sum) Q) Q ls st μ := ix_Ev.eq H rfl ls st μ
theorem e_X11_compared_22 {TX11_sum : Nat → ix_M → (ix_R → Prop) → Prop} {l : Launch} {d : Nat} (H : ix_AllS l cX11_compared 2 RX11 d none (o_X11_compared TX11_sum)) (Q : ix_R → Prop) (ls : ix_L) (st : List ix_V) (μ : ix_M) : ix_Ev (o_X11_compared TX11_sum) Q (22, ls, st, μ) = oc_X11_takes 25 (ix_Ev (o_X11_compared TX11_sum) Q) Q ls st μ := ix_Ev.eq H rfl ls st μ
theorem e_X11_compared_25 {TX11_sum : Nat → ix_M → (ix_R → Prop) → Prop} {l : Launch} {d : Nat} (H : ix_AllS l cX11_compared 2 RX11 d none (o_X11_compared TX11_sum)) (Q : ix_R → Prop) (ls : ix_L) (st : List ix_V) (μ : ix_M) : ix_Ev (o_X11_compared TX11_sum) Q (25, ls, st, μ) = ix_if (fun x => x = 0) 34 28 (ix_Ev (o_X11_compared TX11_sum) Q) Q ls st μ := ix_Ev.eq H rfl ls st μ
theorem e_X11_compared_28 {TX11_sum : Nat → ix_M → (ix_R → Prop) → Prop} {l : Launch} {d : Nat} (H : ix_AllS l cX11_compared 2 RX11 d none (o_X11_compared TX11_sum)) (Q : ix_R → Prop) (ls : ix_L) (st : List ix_V) (μ : ix_M) : ix_Ev (o_X11_compared TX11_sum) Q (28, ls, st, μ) = ix_push (vi 20003) 31 (ix_Ev (o_X11_compared TX11_sum) Q) Q ls st μ := ix_Ev.eq H rfl ls st μ
theorem e_X11_compared_31 {TX11_sum : Nat → ix_M → (ix_R → Prop) → Prop} {l : Launch} {d : Nat} (H : ix_AllS l cX11_compared 2 RX11 d none (o_X11_compared TX11_sum)) (Q : ix_R → Prop) (ls : ix_L) (st : List ix_V) (μ : ix_M) : ix_Ev (o_X11_compared TX11_sum) Q (31, ls, st, μ) = ix_goto 50 (ix_Ev (o_X11_compared TX11_sum) Q) Q ls st μ := ix_Ev.eq H rfl ls st μ
theorem e_X11_compared_34 {TX11_sum : Nat → ix_M → (ix_R → Prop) → Prop} {l : Launch} {d : Nat} (H : ix_AllS l cX11_compared 2 RX11 d none (o_X11_compared TX11_sum)) (Q : ix_R → Prop) (ls : ix_L) (st : List ix_V) (μ : ix_M) : ix_Ev (o_X11_compared TX11_sum) Q (34, ls, st, μ) = ix_aload 0 35 (ix_Ev (o_X11_compared TX11_sum) Q) Q ls st μ := ix_Ev.eq H rfl ls st μ
theorem e_X11_compared_35 {TX11_sum : Nat → ix_M → (ix_R → Prop) → Prop} {l : Launch} {d : Nat} (H : ix_AllS l cX11_compared 2 RX11 d none (o_X11_compared TX11_sum)) (Q : ix_R → Prop) (ls : ix_L) (st : List ix_V) (μ : ix_M) : ix_Ev (o_X11_compared TX11_sum) Q (35, ls, st, μ) = ix_push (vi 62) 37 (ix_Ev (o_X11_compared TX11_sum) Q) Q ls st μ := ix_Ev.eq H rfl ls st μ
theorem e_X11_compared_37 {TX11_sum : Nat → ix_M → (ix_R → Prop) → Prop} {l : Launch} {d : Nat} (H : ix_AllS l cX11_compared 2 RX11 d none (o_X11_compared TX11_sum)) (Q : ix_R → Prop) (ls : ix_L) (st : List ix_V) (μ : ix_M) : ix_Ev (o_X11_compared TX11_sum) Q (37, ls, st, μ) = oc_X11_takes 40 (ix_Ev (o_X11_compared TX11_sum) Q) Q ls st μ := ix_Ev.eq H rfl ls st μ
theorem e_X11_compared_40 {TX11_sum : Nat → ix_M → (ix_R → Prop) → Prop} {l : Launch} {d : Nat} (H : ix_AllS l cX11_compared 2 RX11 d none (o_X11_compared TX11_sum)) (Q : ix_R → Prop) (ls : ix_L) (st : List ix_V) (μ : ix_M) : ix_Ev (o_X11_compared TX11_sum) Q (40, ls, st, μ) = ix_if (fun x => x = 0) 49 43 (ix_Ev (o_X11_compared TX11_sum) Q) Q ls st μ := ix_Ev.eq H rfl ls st μ
theorem e_X11_compared_43 {TX11_sum : Nat → ix_M → (ix_R → Prop) → Prop} {l : Launch} {d : Nat} (H : ix_AllS l cX11_compared 2 RX11 d none (o_X11_compared TX11_sum)) (Q : ix_R → Prop) (ls : ix_L) (st : List ix_V) (μ : ix_M) : ix_Ev (o_X11_compared TX11_sum) Q (43, ls, st, μ) = ix_push (vi 20004) 46 (ix_Ev (o_X11_compared TX11_sum) Q) Q ls st μ := ix_Ev.eq H rfl ls st μ
theorem e_X11_compared_46 {TX11_sum : Nat → ix_M → (ix_R → Prop) → Prop} {l : Launch} {d : Nat} (H : ix_AllS l cX11_compared 2 RX11 d none (o_X11_compared TX11_sum)) (Q : ix_R → Prop) (ls : ix_L) (st : List ix_V) (μ : ix_M) : ix_Ev (o_X11_compared TX11_sum) Q (46, ls, st, μ) = ix_goto 50 (ix_Ev (o_X11_compared TX11_sum) Q) Q ls st μ := ix_Ev.eq H rfl ls st μ
theorem e_X11_compared_49 {TX11_sum : Nat → ix_M → (ix_R → Prop) → Prop} {l : Launch} {d : Nat} (H : ix_AllS l cX11_compared 2 RX11 d none (o_X11_compared TX11_sum)) (Q : ix_R → Prop) (ls : ix_L) (st : List ix_V) (μ : ix_M) : ix_Ev (o_X11_compared TX11_sum) Q (49, ls, st, μ) = ix_push (vi 0) 50 (ix_Ev (o_X11_compared TX11_sum) Q) Q ls st μ := ix_Ev.eq H rfl ls st μ
theorem e_X11_compared_50 {TX11_sum : Nat → ix_M → (ix_R → Prop) → Prop} {l : Launch} {d : Nat} (H : ix_AllS l cX11_compared 2 RX11 d none (o_X11_compared TX11_sum)) (Q : ix_R → Prop) (ls : ix_L) (st : List ix_V) (μ : ix_M) : ix_Ev (o_X11_compared TX11_sum) Q (50, ls, st, μ) = ix_istore 1 51 (ix_Ev (o_X11_compared TX11_sum) Q) Q ls st μ := ix_Ev.eq H rfl ls st μ
theorem e_X11_compared_51 {TX11_sum : Nat → ix_M → (ix_R → Prop) → Prop} {l : Launch} {d : Nat} (H : ix_AllS l cX11_compared 2 RX11 d none (o_X11_compared TX11_sum)) (Q : ix_R → Prop) (ls : ix_L) (st : List ix_V) (μ : ix_M) : ix_Ev (o_X11_compared TX11_sum) Q (51, ls, st, μ) = ix_iload 1 52 (ix_Ev (o_X11_compared TX11_sum) Q) Q ls st μ := ix_Ev.eq H rfl ls st μ
theorem e_X11_compared_52 {TX11_sum : Nat → ix_M → (ix_R → Prop) → Prop} {l : Launch} {d : Nat} (H : ix_AllS l cX11_compared 2 RX11 d none (o_X11_compared TX11_sum)) (Q : ix_R → Prop) (ls : ix_L) (st : List ix_V) (μ : ix_M) : ix_Ev (o_X11_compared TX11_sum) Q (52, ls, st, μ) = ix_if (fun x => x ≤ 0) 64 55 (ix_Ev (o_X11_compared TX11_sum) Q) Q ls st μ := ix_Ev.eq H rfl ls st μ
theorem e_X11_compared_55 {TX11_sum : Nat → ix_M → (ix_R → Prop) → Prop} {l : Launch} {d : Nat} (H : ix_AllS l cX11_compared 2 RX11 d none (o_X11_compared TX11_sum)) (Q : ix_R → Prop) (ls : ix_L) (st : List ix_V) (μ : ix_M) : ix_Ev (o_X11_compared TX11_sum) Q (55, ls, st, μ) = ix_aload 0 56 (ix_Ev (o_X11_compared TX11_sum) Q) Q ls st μ := ix_Ev.eq H rfl ls st μ
theorem e_X11_compared_56 {TX11_sum : Nat → ix_M → (ix_R → Prop) → Prop} {l : Launch} {d : Nat} (H : ix_AllS l cX11_compared 2 RX11 d none (o_X11_compared TX11_sum)) (Q : ix_R → Prop) (ls : ix_L) (st : List ix_V) (μ : ix_M) : ix_Ev (o_X11_compared TX11_sum) Q (56, ls, st, μ) = ocr_X11_sum TX11_sum 59 (ix_Ev (o_X11_compared TX11_sum) Q) Q ls st μ := ix_Ev.eq H rfl ls st μ
theorem e_X11_compared_59 {TX11_sum : Nat → ix_M → (ix_R → Prop) → Prop} {l : Launch} {d : Nat} (H : ix_AllS l cX11_compared 2 RX11 d none (o_X11_compared TX11_sum)) (Q : ix_R → Prop) (ls : ix_L) (st : List ix_V) (μ : ix_M) : ix_Ev (o_X11_compared TX11_sum) Q (59, ls, st, μ) = ix_aload 0 60 (ix_Ev (o_X11_compared TX11_sum) Q) Q ls st μ := ix_Ev.eq H rfl ls st μ
theorem e_X11_compared_60 {TX11_sum : Nat → ix_M → (ix_R → Prop) → Prop} {l : Launch} {d : Nat} (H : ix_AllS l cX11_compared 2 RX11 d none (o_X11_compared TX11_sum)) (Q : ix_R → Prop) (ls : ix_L) (st : List ix_V) (μ : ix_M) : ix_Ev (o_X11_compared TX11_sum) Q (60, ls, st, μ) = ix_iload 1 61 (ix_Ev (o_X11_compared TX11_sum) Q) Q ls st μ := ix_Ev.eq H rfl ls st μ
theorem e_X11_compared_61 {TX11_sum : Nat → ix_M → (ix_R → Prop) → Prop} {l : Launch} {d : Nat} (H : ix_AllS l cX11_compared 2 RX11 d none (o_X11_compared TX11_sum)) (Q : ix_R → Prop) (ls : ix_L) (st : List ix_V) (μ : ix_M) : ix_Ev (o_X11_compared TX11_sum) Q (61, ls, st, μ) = oc_X11_codes 64 (ix_Ev (o_X11_compared TX11_sum) Q) Q ls st μ := ix_Ev.eq H rfl ls st μ
theorem e_X11_compared_64 {TX11_sum : Nat → ix_M → (ix_R → Prop) → Prop} {l : Launch} {d : Nat} (H : ix_AllS l cX11_compared 2 RX11 d none (o_X11_compared TX11_sum)) (Q : ix_R → Prop) (ls : ix_L) (st : List ix_V) (μ : ix_M) : ix_Ev (o_X11_compared TX11_sum) Q (64, ls, st, μ) = ix_vret (ix_Ev (o_X11_compared TX11_sum) Q) Q ls st μ := ix_Ev.eq H rfl ls st μ
theorem c_X11_compared (l : Launch) (tp : Nat → Int32) (n u k d : Nat) (U : RF) (hU : RGd n U 0) (hd : 6 ≤ d) (hB : ix_Ct l yX11_sum cX11_sum 2 none d sh_X11_sum (T_rd tp n u k (rdLv tp n U 2))) : ix_Ct l yX11_compared cX11_compared 2 none (d + 1) sh_X11_compared (T_rd tp n u k (rdLv tp n U 3)) := by
  have H := a_X11_compared l (d + 1) (by omega) hB (by omega) (mo_rd tp n u k _)
  have hS := rdLv_ok (tp := tp) hU 2
  refine ix_ct H rfl (by decide) (fun _ => Nat.le_of_ble_eq_true rfl) (fun o μ Q hok hT => ?_)
  have ok_o := ix_ok_at (hok (vr 10 o) (by simp [sh_X11_compared])) (by decide) (by decide)
  obtain rfl := ok_10 o ok_o.1 ok_o.2
  obtain ⟨q, h1, h2, hQ⟩ := hT
  show ix_Ev (o_X11_compared _) Q (0, [some (vr 10 112), none], [], μ)
  simp (decide := true) only [e_X11_compared_0 H, e_X11_compared_1 H, e_X11_compared_4 H, e_X11_compared_5 H, e_X11_compared_7 H, e_X11_compared_10 H, e_X11_compared_13 H, e_X11_compared_16 H, e_X11_compared_19 H, e_X11_compared_20 H, e_X11_compared_22 H, e_X11_compared_25 H, e_X11_compared_28 H, e_X11_compared_31 H, e_X11_compared_34 H, e_X11_compared_35 H, e_X11_compared_37 H, e_X11_compared_40 H, e_X11_compared_43 H, e_X11_compared_46 H, e_X11_compared_49 H, e_X11_compared_50 H, e_X11_compared_51 H, e_X11_compared_52 H, e_X11_compared_55 H, e_X11_compared_56 H, e_X11_compared_59 H, e_X11_compared_60 H, e_X11_compared_61 H, e_X11_compared_64 H, vi, vl, vr, ocr_X11_sum, oc_X11_codes, T_X11_codes, oc_X11_takes, T_X11_takes, ix_push, ix_iload, ix_lload, ix_aload, ix_istore, ix_astore, ix_iinc, ix_bin, ix_div, ix_un, ix_i2l, ix_l2i, ix_lbin, ix_lsh, ix_lcmp, ix_dup, ix_dup2, ix_pop, ix_if, ix_cmp, ix_goto, ix_switch, ix_sw, ix_iret, ix_zret, ix_vret, ix_aret, ix_geti, ix_getr, ix_puti, ix_putz, ix_puts, ix_gets, ix_iald, ix_iast, ix_alen, ix_aald, ix_gval, ix_gcod, ix_bald, ix_blen, ix_sald, ix_nret, ix_math2, ix_math1, ix_acopy, ml_113, ml_114, ml_115, ml_116, ml_118, ml_119, ml_120, ml_121, ml_122, ml_123, ml_124, ml_125, ml_126, mv_0, mv_1, mv_2, mv_3, mv_4, mv_5, mB_or, Nat.add_assoc, Int32.reduceLT, Int32.reduceLE, Int32.reduceToNatClampNeg, Int32.reduceSub, Int32.reduceAdd, Nat.reduceAdd, Nat.reduceLeDiff, true_or, or_true, or_false, false_or, not_false_eq_true, not_true_eq_false, false_implies, true_implies, implies_true, and_self, mB_0, mB_01, Classical.not_not, Nat.zero_le, List.getElem?_cons_zero, List.getElem?_cons_succ, List.set_cons_zero, List.set_cons_succ, ix_nl, ix_cs, true_and, and_true, Option.toList_some, Option.toList_none, List.cons_append, List.nil_append]
  refine ⟨q, h1, h2, fun μ1 F1 g1 => ?_⟩
  have le8 : ix_cs ((none : Option ix_V).toList ++ []) ≤ 8 := Nat.le_of_ble_eq_true rfl
  obtain ⟨b, a0, cs0⟩ := q
  have hn50 := h1.1.2.1
  generalize hr1 : lf (rdLv tp n U 2) (b, a0, cs0) = r at g1
  obtain ⟨ok, a, cs⟩ := r
  have hres : (ok = false → lf (rdLv tp n U 3) (b, a0, cs0) = (false, a, cs)) ∧ (ok = true → lf (rdLv tp n U 3) (b, a0, cs0) = rdLp tp n (rdLv tp n U 2) 2 1 (a, cs) ∧ cs.length ≤ a) := by
    cases b
    · have : (false, a0, cs0) = (ok, a, cs) := hr1
      cases this
      exact ⟨fun _ => rfl, fun z => absurd z (by decide)⟩
    · have e : rdLv tp n U 2 (a0, cs0) = (ok, a, cs) := hr1
      obtain ⟨u1, u2, u3, u4⟩ := hS (a0, cs0) h1.2.2.2.2.1.2
      rw [e] at u1 u3
      simp only at u1 u3 h2
      have e3 : lf (rdLv tp n U 3) (true, a0, cs0) = rdLv tp n U 3 (a0, cs0) := rfl
      have e4 : rdLv tp n U 3 (a0, cs0) = if (rdLv tp n U 2 (a0, cs0)).1 = true then rdLp tp n (rdLv tp n U 2) 2 1 (rdLv tp n U 2 (a0, cs0)).2 else (false, (rdLv tp n U 2 (a0, cs0)).2) := rfl
      rw [e3, e4, e]
      refine ⟨fun z => ?_, fun z => ⟨?_, by omega⟩⟩
      · subst z
        rfl
      · subst z
        rfl
  cases ok
  · rw [hres.1 rfl] at hQ
    have hn : ∀ c : Int32, c ≠ -1 → ¬ hr tp n (false, a, cs) = c := fun c hc z => hc z.symm
    refine ⟨le8, tp, n, u, k, (false, a, cs), g1, fun μ2 F2 g2 => ⟨fun _ => ⟨le8, tp, n, u, k, (false, a, cs), ?_, fun μ3 F3 g3 => ⟨fun _ => ⟨le8, tp, n, u, k, (false, a, cs), ?_, fun μ4 F4 g4 => ⟨fun _ => ?_, fun z => absurd z (hn _ (by decide))⟩⟩, fun z => absurd z (hn _ (by decide))⟩⟩, fun z => absurd z (hn _ (by decide))⟩⟩
    · rw [tk, if_neg (hn _ (by decide))] at g2
      exact g2
    · rw [tk, if_neg (hn _ (by decide))] at g3
      exact g3
    · rw [tk, if_neg (hn _ (by decide))] at g4
      exact hQ μ4 (((F1.tr F2).tr F3).tr F4) g4
  · obtain ⟨hres, hl⟩ := hres.2 rfl
    have e5 : rdLp tp n (rdLv tp n U 2) 2 1 (a, cs) = if mLv (nx tp n a) = 2 then (if (rdLv tp n U 2 (a + 1, cs)).1 = true then (true, (rdLv tp n U 2 (a + 1, cs)).2.1, (rdLv tp n U 2 (a + 1, cs)).2.2 ++ [cOp (nx tp n a)]) else (false, (rdLv tp n U 2 (a + 1, cs)).2)) else (true, a, cs) := rfl
    rw [hres, e5] at hQ
    have hh : hr tp n (true, a, cs) = nx tp n a := rfl
    have aft : ∀ (c v : Int32) (μx : ix_M), nx tp n a = c → mLv c = 2 → cOp c = v → Fx [112, 118] μ μx → PsC μx tp n u k (true, a + 1, cs) → ∃ q', PsC μx tp n u k q' ∧ q'.2.2.length ≤ q'.2.1 ∧ ∀ μ2, Fx [112, 118] μx μ2 → PsC μ2 tp n u k (lf (rdLv tp n U 2) q') → ∃ q1 : Bool × RS, PsC μ2 tp n u k q1 ∧ q1.2.2.length < 60 ∧ ∀ μ3, Fx [112, 118] μ2 μ3 → PsC μ3 tp n u k (cd q1 v) → Q (none, μ3) := by
      intro c v μx hc hm hv hF hP
      have hlt := nx_in (tp := tp) (n := n) (a := a) (by rw [hc]; rintro rfl; exact absurd hm (by decide))
      obtain ⟨u1, u2, u3, u4⟩ := hS (a + 1, cs) (by simp only; omega)
      simp only at u3
      refine ⟨(true, a + 1, cs), hP, by simp only; omega, fun μ2 F2 g2 => ⟨rdLv tp n U 2 (a + 1, cs), g2, by omega, fun μ3 F3 g3 => ?_⟩⟩
      rw [hc] at hQ
      simp only [if_pos hm, hv] at hQ
      refine hQ μ3 ((hF.tr F2).tr F3) ?_
      unfold cd at g3
      cases hq : (rdLv tp n U 2 (a + 1, cs)).1
      · simp only [hq, Bool.false_eq_true, if_false] at g3 ⊢
        rw [← hq]
        exact g3
      · simp only [hq, if_true] at g3 ⊢
        exact g3
    refine ⟨le8, tp, n, u, k, (true, a, cs), g1, fun μ2 F2 g2 => ⟨fun z => ⟨le8, tp, n, u, k, (true, a, cs), ?_, fun μ3 F3 g3 => ⟨fun y => ⟨le8, tp, n, u, k, (true, a, cs), ?_, fun μ4 F4 g4 => ⟨fun w => ?_, fun w => ?_⟩⟩, fun y => ?_⟩⟩, fun z => ?_⟩⟩
    · rw [tk, if_neg z] at g2
      exact g2
    · rw [tk, if_neg y] at g3
      exact g3
    · rw [tk, if_neg w] at g4
      rw [hh] at z y w
      have hm : ¬ mLv (nx tp n a) = 2 := by
        intro m
        rcases mLv_of (c := nx tp n a) (by rw [m]; decide) with e | e | e | e | e | e | e | e | e | e
        all_goals first | exact absurd e z | exact absurd e y | exact absurd e w | (rw [e] at m; exact absurd m (by decide))
      simp only [if_neg hm] at hQ
      exact hQ μ4 (((F1.tr F2).tr F3).tr F4) g4
    · rw [tk, if_pos w] at g4
      obtain ⟨q', x1, x2, x3⟩ := aft 62 20004 μ4 w (by decide) (by decide) (((F1.tr F2).tr F3).tr F4) g4
      exact ⟨le8, q', x1, x2, fun μ5 F5 g5 => ⟨le8, tp, n, u, k, x3 μ5 F5 g5⟩⟩
    · rw [tk, if_pos y] at g3
      obtain ⟨q', x1, x2, x3⟩ := aft 61 20003 μ3 y (by decide) (by decide) ((F1.tr F2).tr F3) g3
      exact ⟨le8, q', x1, x2, fun μ5 F5 g5 => ⟨le8, tp, n, u, k, x3 μ5 F5 g5⟩⟩
    · rw [tk, if_pos z] at g2
      obtain ⟨q', x1, x2, x3⟩ := aft 60 20002 μ2 z (by decide) (by decide) (F1.tr F2) g2
      exact ⟨le8, q', x1, x2, fun μ5 F5 g5 => ⟨le8, tp, n, u, k, x3 μ5 F5 g5⟩⟩
