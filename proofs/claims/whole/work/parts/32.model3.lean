/-! ===== the model: boats and minutes ===== -/
theorem bix_at {b : Nat} (hb : b < 8) : ∀ f, f < 4 → bix (nI b) (nI f) = nI (50 + 4 * b + f) := by
  intro f _
  unfold bix
  rw [fa_lit 50, fa_lit 4, show nI 4 * nI b = nI (4 * b) from (Int32.ofNat_mul 4 b).symm, nI_add, nI_add]
theorem bx (b : Nat) (hb : b < 8) : (bix (nI b) 0).toNatClampNeg = 50 + 4 * b ∧ (bix (nI b) 1).toNatClampNeg = 51 + 4 * b ∧ (bix (nI b) 2).toNatClampNeg = 52 + 4 * b ∧ (bix (nI b) 3).toNatClampNeg = 53 + 4 * b ∧ vp_in (bix (nI b) 0) 256 ∧ vp_in (bix (nI b) 1) 256 ∧ vp_in (bix (nI b) 2) 256 ∧ vp_in (bix (nI b) 3) 256 := by
  have h0 : bix (nI b) 0 = nI (50 + 4 * b) := bix_at hb 0 (by decide)
  have h1 : bix (nI b) 1 = nI (51 + 4 * b) := (bix_at hb 1 (by decide)).trans (by congr 1; omega)
  have h2 : bix (nI b) 2 = nI (52 + 4 * b) := (bix_at hb 2 (by decide)).trans (by congr 1; omega)
  have h3 : bix (nI b) 3 = nI (53 + 4 * b) := (bix_at hb 3 (by decide)).trans (by congr 1; omega)
  rw [h0, h1, h2, h3]
  exact ⟨nI_clamp (by omega), nI_clamp (by omega), nI_clamp (by omega), nI_clamp (by omega), vp_in_nI (by omega) (by decide), vp_in_nI (by omega) (by decide), vp_in_nI (by omega) (by decide), vp_in_nI (by omega) (by decide)⟩
def T_X11_dips : Nat × Int32 × Int32 → ix_M → (ix_R → Prop) → Prop := fun (_, i, s) μ Q => ∃ b, i = nI b ∧ b < 8 ∧ Q (some (vi (mDips (μ 113 (50 + 4 * b)) (μ 113 (51 + 4 * b)) s)), μ)
def sh_X11_dips (x : Nat × Int32 × Int32) : List ix_V := [vr 10 x.1, vi x.2.1, vi x.2.2]
theorem mo_X11_dips (x : Nat × Int32 × Int32) (μ : ix_M) (Q Q' : ix_R → Prop) (h : ∀ r, Q r → Q' r) (hT : T_X11_dips x μ Q) : T_X11_dips x μ Q' := by
  obtain ⟨a0, a1, a2⟩ := x
  (obtain ⟨b, h1, h2, h3⟩ := hT; exact ⟨b, h1, h2, h _ h3⟩)
def oc_X11_dips (n : Nat) : ix_Op := fun k _ ls st μ => match st with
  | .inl a2 :: .inl a1 :: .inr (.inr (t0, a0)) :: r => t0 = 10 ∧ ix_cs r ≤ 8 ∧ T_X11_dips (a0, a1, a2) μ (fun q => k (n, ls, q.1.toList ++ r, q.2))
  | _ => False
theorem oc_X11_dips_s {l : Launch} {cc : ByteArray} {nL : Nat} {own : String} {d : Nat} {rt : Option FieldType} {pc n : Nat} (h : ix_S l cc nL own d rt pc (ix_call 3 sh_X11_dips T_X11_dips n)) : ix_S l cc nL own d rt pc (oc_X11_dips n) := by
  refine h.by (fun k Q ls st μ h => ?_) (fun k k' Q ls st μ hk h => ?_)
  · unfold oc_X11_dips at h
    split at h
    · rename_i a2 a1 t0 a0 r
      obtain ⟨rfl, h1, h2⟩ := h
      exact ⟨h1, (a0, a1, a2), rfl, _, h2, fun r h => h⟩
    · exact h.elim
  · unfold oc_X11_dips at h ⊢
    split at h
    · obtain ⟨rfl, h1, h2⟩ := h
      exact ⟨rfl, h1, mo_X11_dips _ _ _ _ (fun q hq => hk _ hq) h2⟩
    · exact h.elim
def o_X11_dips : List (Nat × ix_Op) := [
  (0, ix_aload 0 1),
  (1, ix_iload 1 2),
  (2, ix_push (vi 0) 3),
  (3, oc_X11_boatIs 6),
  (6, ix_switch [(1, 44), (2, 46), (3, 50), (4, 63), (5, 72), (6, 50)] 85),
  (44, ix_push (vi 3) 45),
  (45, ix_iret),
  (46, ix_iload 2 47),
  (47, ix_push (vi 3) 48),
  (48, ix_div (fun x y => x / y) 49),
  (49, ix_iret),
  (50, ix_iload 2 51),
  (51, ix_push (vi 30) 53),
  (53, ix_cmp (fun x y => x ≤ y) 61 56),
  (56, ix_push (vi 10) 58),
  (58, ix_goto 62),
  (61, ix_push (vi 5) 62),
  (62, ix_iret),
  (63, ix_push (vi 3) 64),
  (64, ix_aload 0 65),
  (65, ix_iload 1 66),
  (66, ix_push (vi 1) 67),
  (67, oc_X11_boatIs 70),
  (70, ix_bin (fun x y => x + y) 71),
  (71, ix_iret),
  (72, ix_iload 2 73),
  (73, ix_push (vi 3) 74),
  (74, ix_div (fun x y => x / y) 75),
  (75, ix_aload 0 76),
  (76, ix_iload 1 77),
  (77, ix_push (vi 1) 78),
  (78, oc_X11_boatIs 81),
  (81, ix_push (vi 3) 82),
  (82, ix_div (fun x y => x - x / y * y) 83),
  (83, ix_bin (fun x y => x + y) 84),
  (84, ix_iret),
  (85, ix_push (vi 5) 86),
  (86, ix_iret)]
set_option maxRecDepth 20000 in
theorem a_X11_dips (l : Launch) : ix_AllS l cX11_dips 3 RX11 3 (some .int) o_X11_dips :=
  .cons (ix_s_aload_n dX11_dips_0 rfl) <|
  .cons (ix_s_iload_n dX11_dips_1 rfl) <|
  .cons (ix_s_iconst dX11_dips_2 (by decide +kernel)) <|
  .cons (oc_X11_boatIs_s (ix_s_callv (t := 10) (k_X11_boatIs l) (by decide) (by decide) tw_1083 tw_12 tw_1080 tw_1082 tp_34 ⟨by decide, by decide, by decide +kernel⟩ (by decide) rfl rfl (fun _ => ⟨_, _, rfl, rfl⟩) dX11_dips_3)) <|
  .cons (ix_s_tab dX11_dips_6 (by decide) (by decide +kernel) (by decide +kernel)) <|
  .cons (ix_s_iconst dX11_dips_44 (by decide +kernel)) <|
  .cons (ix_s_iret dX11_dips_45 rfl) <|
  .cons (ix_s_iload_n dX11_dips_46 rfl) <|
  .cons (ix_s_iconst dX11_dips_47 (by decide +kernel)) <|
  .cons (ix_s_idiv dX11_dips_48) <|
  .cons (ix_s_iret dX11_dips_49 rfl) <|
  .cons (ix_s_iload_n dX11_dips_50 rfl) <|
  .cons (ix_s_bipush dX11_dips_51 (by decide +kernel)) <|
  .cons (ix_s_cmp_le dX11_dips_53 (by decide)) <|
  .cons (ix_s_bipush dX11_dips_56 (by decide +kernel)) <|
  .cons (ix_s_goto dX11_dips_58 (by decide)) <|
  .cons (ix_s_iconst dX11_dips_61 (by decide +kernel)) <|
  .cons (ix_s_iret dX11_dips_62 rfl) <|
  .cons (ix_s_iconst dX11_dips_63 (by decide +kernel)) <|
  .cons (ix_s_aload_n dX11_dips_64 rfl) <|
  .cons (ix_s_iload_n dX11_dips_65 rfl) <|
  .cons (ix_s_iconst dX11_dips_66 (by decide +kernel)) <|
  .cons (oc_X11_boatIs_s (ix_s_callv (t := 10) (k_X11_boatIs l) (by decide) (by decide) tw_1083 tw_12 tw_1080 tw_1082 tp_34 ⟨by decide, by decide, by decide +kernel⟩ (by decide) rfl rfl (fun _ => ⟨_, _, rfl, rfl⟩) dX11_dips_67)) <|
  .cons (ix_s_iadd dX11_dips_70) <|
  .cons (ix_s_iret dX11_dips_71 rfl) <|
  .cons (ix_s_iload_n dX11_dips_72 rfl) <|
  .cons (ix_s_iconst dX11_dips_73 (by decide +kernel)) <|
  .cons (ix_s_idiv dX11_dips_74) <|
  .cons (ix_s_aload_n dX11_dips_75 rfl) <|
  .cons (ix_s_iload_n dX11_dips_76 rfl) <|
  .cons (ix_s_iconst dX11_dips_77 (by decide +kernel)) <|
  .cons (oc_X11_boatIs_s (ix_s_callv (t := 10) (k_X11_boatIs l) (by decide) (by decide) tw_1083 tw_12 tw_1080 tw_1082 tp_34 ⟨by decide, by decide, by decide +kernel⟩ (by decide) rfl rfl (fun _ => ⟨_, _, rfl, rfl⟩) dX11_dips_78)) <|
  .cons (ix_s_iconst dX11_dips_81 (by decide +kernel)) <|
  .cons (ix_s_irem dX11_dips_82) <|
  .cons (ix_s_iadd dX11_dips_83) <|
  .cons (ix_s_iret dX11_dips_84 rfl) <|
  .cons (ix_s_iconst dX11_dips_85 (by decide +kernel)) <|
  .cons (ix_s_iret dX11_dips_86 rfl) <| .nil
theorem e_X11_dips_0 (Q : ix_R → Prop) (ls : ix_L) (st : List ix_V) (μ : ix_M) : ix_Ev o_X11_dips Q (0, ls, st, μ) = ix_aload 0 1 (ix_Ev o_X11_dips Q) Q ls st μ := ix_Ev.eq (a_X11_dips launch0) rfl ls st μ
theorem e_X11_dips_1 (Q : ix_R → Prop) (ls : ix_L) (st : List ix_V) (μ : ix_M) : ix_Ev o_X11_dips Q (1, ls, st, μ) = ix_iload 1 2 (ix_Ev o_X11_dips Q) Q ls st μ := ix_Ev.eq (a_X11_dips launch0) rfl ls st μ
theorem e_X11_dips_2 (Q : ix_R → Prop) (ls : ix_L) (st : List ix_V) (μ : ix_M) : ix_Ev o_X11_dips Q (2, ls, st, μ) = ix_push (vi 0) 3 (ix_Ev o_X11_dips Q) Q ls st μ := ix_Ev.eq (a_X11_dips launch0) rfl ls st μ
theorem e_X11_dips_3 (Q : ix_R → Prop) (ls : ix_L) (st : List ix_V) (μ : ix_M) : ix_Ev o_X11_dips Q (3, ls, st, μ) = oc_X11_boatIs 6 (ix_Ev o_X11_dips Q) Q ls st μ := ix_Ev.eq (a_X11_dips launch0) rfl ls st μ
theorem e_X11_dips_6 (Q : ix_R → Prop) (ls : ix_L) (st : List ix_V) (μ : ix_M) : ix_Ev o_X11_dips Q (6, ls, st, μ) = ix_switch [(1, 44), (2, 46), (3, 50), (4, 63), (5, 72), (6, 50)] 85 (ix_Ev o_X11_dips Q) Q ls st μ := ix_Ev.eq (a_X11_dips launch0) rfl ls st μ
theorem e_X11_dips_44 (Q : ix_R → Prop) (ls : ix_L) (st : List ix_V) (μ : ix_M) : ix_Ev o_X11_dips Q (44, ls, st, μ) = ix_push (vi 3) 45 (ix_Ev o_X11_dips Q) Q ls st μ := ix_Ev.eq (a_X11_dips launch0) rfl ls st μ
theorem e_X11_dips_45 (Q : ix_R → Prop) (ls : ix_L) (st : List ix_V) (μ : ix_M) : ix_Ev o_X11_dips Q (45, ls, st, μ) = ix_iret (ix_Ev o_X11_dips Q) Q ls st μ := ix_Ev.eq (a_X11_dips launch0) rfl ls st μ
theorem e_X11_dips_46 (Q : ix_R → Prop) (ls : ix_L) (st : List ix_V) (μ : ix_M) : ix_Ev o_X11_dips Q (46, ls, st, μ) = ix_iload 2 47 (ix_Ev o_X11_dips Q) Q ls st μ := ix_Ev.eq (a_X11_dips launch0) rfl ls st μ
theorem e_X11_dips_47 (Q : ix_R → Prop) (ls : ix_L) (st : List ix_V) (μ : ix_M) : ix_Ev o_X11_dips Q (47, ls, st, μ) = ix_push (vi 3) 48 (ix_Ev o_X11_dips Q) Q ls st μ := ix_Ev.eq (a_X11_dips launch0) rfl ls st μ
theorem e_X11_dips_48 (Q : ix_R → Prop) (ls : ix_L) (st : List ix_V) (μ : ix_M) : ix_Ev o_X11_dips Q (48, ls, st, μ) = ix_div (fun x y => x / y) 49 (ix_Ev o_X11_dips Q) Q ls st μ := ix_Ev.eq (a_X11_dips launch0) rfl ls st μ
theorem e_X11_dips_49 (Q : ix_R → Prop) (ls : ix_L) (st : List ix_V) (μ : ix_M) : ix_Ev o_X11_dips Q (49, ls, st, μ) = ix_iret (ix_Ev o_X11_dips Q) Q ls st μ := ix_Ev.eq (a_X11_dips launch0) rfl ls st μ
theorem e_X11_dips_50 (Q : ix_R → Prop) (ls : ix_L) (st : List ix_V) (μ : ix_M) : ix_Ev o_X11_dips Q (50, ls, st, μ) = ix_iload 2 51 (ix_Ev o_X11_dips Q) Q ls st μ := ix_Ev.eq (a_X11_dips launch0) rfl ls st μ
theorem e_X11_dips_51 (Q : ix_R → Prop) (ls : ix_L) (st : List ix_V) (μ : ix_M) : ix_Ev o_X11_dips Q (51, ls, st, μ) = ix_push (vi 30) 53 (ix_Ev o_X11_dips Q) Q ls st μ := ix_Ev.eq (a_X11_dips launch0) rfl ls st μ
theorem e_X11_dips_53 (Q : ix_R → Prop) (ls : ix_L) (st : List ix_V) (μ : ix_M) : ix_Ev o_X11_dips Q (53, ls, st, μ) = ix_cmp (fun x y => x ≤ y) 61 56 (ix_Ev o_X11_dips Q) Q ls st μ := ix_Ev.eq (a_X11_dips launch0) rfl ls st μ
theorem e_X11_dips_56 (Q : ix_R → Prop) (ls : ix_L) (st : List ix_V) (μ : ix_M) : ix_Ev o_X11_dips Q (56, ls, st, μ) = ix_push (vi 10) 58 (ix_Ev o_X11_dips Q) Q ls st μ := ix_Ev.eq (a_X11_dips launch0) rfl ls st μ
theorem e_X11_dips_58 (Q : ix_R → Prop) (ls : ix_L) (st : List ix_V) (μ : ix_M) : ix_Ev o_X11_dips Q (58, ls, st, μ) = ix_goto 62 (ix_Ev o_X11_dips Q) Q ls st μ := ix_Ev.eq (a_X11_dips launch0) rfl ls st μ
theorem e_X11_dips_61 (Q : ix_R → Prop) (ls : ix_L) (st : List ix_V) (μ : ix_M) : ix_Ev o_X11_dips Q (61, ls, st, μ) = ix_push (vi 5) 62 (ix_Ev o_X11_dips Q) Q ls st μ := ix_Ev.eq (a_X11_dips launch0) rfl ls st μ
theorem e_X11_dips_62 (Q : ix_R → Prop) (ls : ix_L) (st : List ix_V) (μ : ix_M) : ix_Ev o_X11_dips Q (62, ls, st, μ) = ix_iret (ix_Ev o_X11_dips Q) Q ls st μ := ix_Ev.eq (a_X11_dips launch0) rfl ls st μ
theorem e_X11_dips_63 (Q : ix_R → Prop) (ls : ix_L) (st : List ix_V) (μ : ix_M) : ix_Ev o_X11_dips Q (63, ls, st, μ) = ix_push (vi 3) 64 (ix_Ev o_X11_dips Q) Q ls st μ := ix_Ev.eq (a_X11_dips launch0) rfl ls st μ
theorem e_X11_dips_64 (Q : ix_R → Prop) (ls : ix_L) (st : List ix_V) (μ : ix_M) : ix_Ev o_X11_dips Q (64, ls, st, μ) = ix_aload 0 65 (ix_Ev o_X11_dips Q) Q ls st μ := ix_Ev.eq (a_X11_dips launch0) rfl ls st μ
theorem e_X11_dips_65 (Q : ix_R → Prop) (ls : ix_L) (st : List ix_V) (μ : ix_M) : ix_Ev o_X11_dips Q (65, ls, st, μ) = ix_iload 1 66 (ix_Ev o_X11_dips Q) Q ls st μ := ix_Ev.eq (a_X11_dips launch0) rfl ls st μ
theorem e_X11_dips_66 (Q : ix_R → Prop) (ls : ix_L) (st : List ix_V) (μ : ix_M) : ix_Ev o_X11_dips Q (66, ls, st, μ) = ix_push (vi 1) 67 (ix_Ev o_X11_dips Q) Q ls st μ := ix_Ev.eq (a_X11_dips launch0) rfl ls st μ
theorem e_X11_dips_67 (Q : ix_R → Prop) (ls : ix_L) (st : List ix_V) (μ : ix_M) : ix_Ev o_X11_dips Q (67, ls, st, μ) = oc_X11_boatIs 70 (ix_Ev o_X11_dips Q) Q ls st μ := ix_Ev.eq (a_X11_dips launch0) rfl ls st μ
theorem e_X11_dips_70 (Q : ix_R → Prop) (ls : ix_L) (st : List ix_V) (μ : ix_M) : ix_Ev o_X11_dips Q (70, ls, st, μ) = ix_bin (fun x y => x + y) 71 (ix_Ev o_X11_dips Q) Q ls st μ := ix_Ev.eq (a_X11_dips launch0) rfl ls st μ
theorem e_X11_dips_71 (Q : ix_R → Prop) (ls : ix_L) (st : List ix_V) (μ : ix_M) : ix_Ev o_X11_dips Q (71, ls, st, μ) = ix_iret (ix_Ev o_X11_dips Q) Q ls st μ := ix_Ev.eq (a_X11_dips launch0) rfl ls st μ
theorem e_X11_dips_72 (Q : ix_R → Prop) (ls : ix_L) (st : List ix_V) (μ : ix_M) : ix_Ev o_X11_dips Q (72, ls, st, μ) = ix_iload 2 73 (ix_Ev o_X11_dips Q) Q ls st μ := ix_Ev.eq (a_X11_dips launch0) rfl ls st μ
theorem e_X11_dips_73 (Q : ix_R → Prop) (ls : ix_L) (st : List ix_V) (μ : ix_M) : ix_Ev o_X11_dips Q (73, ls, st, μ) = ix_push (vi 3) 74 (ix_Ev o_X11_dips Q) Q ls st μ := ix_Ev.eq (a_X11_dips launch0) rfl ls st μ
theorem e_X11_dips_74 (Q : ix_R → Prop) (ls : ix_L) (st : List ix_V) (μ : ix_M) : ix_Ev o_X11_dips Q (74, ls, st, μ) = ix_div (fun x y => x / y) 75 (ix_Ev o_X11_dips Q) Q ls st μ := ix_Ev.eq (a_X11_dips launch0) rfl ls st μ
theorem e_X11_dips_75 (Q : ix_R → Prop) (ls : ix_L) (st : List ix_V) (μ : ix_M) : ix_Ev o_X11_dips Q (75, ls, st, μ) = ix_aload 0 76 (ix_Ev o_X11_dips Q) Q ls st μ := ix_Ev.eq (a_X11_dips launch0) rfl ls st μ
theorem e_X11_dips_76 (Q : ix_R → Prop) (ls : ix_L) (st : List ix_V) (μ : ix_M) : ix_Ev o_X11_dips Q (76, ls, st, μ) = ix_iload 1 77 (ix_Ev o_X11_dips Q) Q ls st μ := ix_Ev.eq (a_X11_dips launch0) rfl ls st μ
theorem e_X11_dips_77 (Q : ix_R → Prop) (ls : ix_L) (st : List ix_V) (μ : ix_M) : ix_Ev o_X11_dips Q (77, ls, st, μ) = ix_push (vi 1) 78 (ix_Ev o_X11_dips Q) Q ls st μ := ix_Ev.eq (a_X11_dips launch0) rfl ls st μ
theorem e_X11_dips_78 (Q : ix_R → Prop) (ls : ix_L) (st : List ix_V) (μ : ix_M) : ix_Ev o_X11_dips Q (78, ls, st, μ) = oc_X11_boatIs 81 (ix_Ev o_X11_dips Q) Q ls st μ := ix_Ev.eq (a_X11_dips launch0) rfl ls st μ
theorem e_X11_dips_81 (Q : ix_R → Prop) (ls : ix_L) (st : List ix_V) (μ : ix_M) : ix_Ev o_X11_dips Q (81, ls, st, μ) = ix_push (vi 3) 82 (ix_Ev o_X11_dips Q) Q ls st μ := ix_Ev.eq (a_X11_dips launch0) rfl ls st μ
theorem e_X11_dips_82 (Q : ix_R → Prop) (ls : ix_L) (st : List ix_V) (μ : ix_M) : ix_Ev o_X11_dips Q (82, ls, st, μ) = ix_div (fun x y => x - x / y * y) 83 (ix_Ev o_X11_dips Q) Q ls st μ := ix_Ev.eq (a_X11_dips launch0) rfl ls st μ
theorem e_X11_dips_83 (Q : ix_R → Prop) (ls : ix_L) (st : List ix_V) (μ : ix_M) : ix_Ev o_X11_dips Q (83, ls, st, μ) = ix_bin (fun x y => x + y) 84 (ix_Ev o_X11_dips Q) Q ls st μ := ix_Ev.eq (a_X11_dips launch0) rfl ls st μ
theorem e_X11_dips_84 (Q : ix_R → Prop) (ls : ix_L) (st : List ix_V) (μ : ix_M) : ix_Ev o_X11_dips Q (84, ls, st, μ) = ix_iret (ix_Ev o_X11_dips Q) Q ls st μ := ix_Ev.eq (a_X11_dips launch0) rfl ls st μ
theorem e_X11_dips_85 (Q : ix_R → Prop) (ls : ix_L) (st : List ix_V) (μ : ix_M) : ix_Ev o_X11_dips Q (85, ls, st, μ) = ix_push (vi 5) 86 (ix_Ev o_X11_dips Q) Q ls st μ := ix_Ev.eq (a_X11_dips launch0) rfl ls st μ
theorem e_X11_dips_86 (Q : ix_R → Prop) (ls : ix_L) (st : List ix_V) (μ : ix_M) : ix_Ev o_X11_dips Q (86, ls, st, μ) = ix_iret (ix_Ev o_X11_dips Q) Q ls st μ := ix_Ev.eq (a_X11_dips launch0) rfl ls st μ
theorem r_X11_dips (o : Nat) (i : Int32) (s : Int32) (μ : ix_M) (Q : ix_R → Prop) (ok_o : o < ix_N ∧ ix_tag o = 10) (hT : T_X11_dips (o, i, s) μ Q) : ix_Ev o_X11_dips Q (0, [some (vr 10 o), some (vi i), some (vi s)], [], μ) := by
  obtain rfl := ok_10 o ok_o.1 ok_o.2
  obtain ⟨b, rfl, hb, hT⟩ := hT
  have hx := bx b hb
  simp (decide := true) only [e_X11_dips_0, e_X11_dips_1, e_X11_dips_2, e_X11_dips_3, e_X11_dips_6, e_X11_dips_44, e_X11_dips_45, e_X11_dips_46, e_X11_dips_47, e_X11_dips_48, e_X11_dips_49, e_X11_dips_50, e_X11_dips_51, e_X11_dips_53, e_X11_dips_56, e_X11_dips_58, e_X11_dips_61, e_X11_dips_62, e_X11_dips_63, e_X11_dips_64, e_X11_dips_65, e_X11_dips_66, e_X11_dips_67, e_X11_dips_70, e_X11_dips_71, e_X11_dips_72, e_X11_dips_73, e_X11_dips_74, e_X11_dips_75, e_X11_dips_76, e_X11_dips_77, e_X11_dips_78, e_X11_dips_81, e_X11_dips_82, e_X11_dips_83, e_X11_dips_84, e_X11_dips_85, e_X11_dips_86, vi, vl, vr, oc_X11_boatIs, T_X11_boatIs, ix_push, ix_iload, ix_lload, ix_aload, ix_istore, ix_astore, ix_iinc, ix_bin, ix_div, ix_un, ix_i2l, ix_l2i, ix_lbin, ix_lsh, ix_lcmp, ix_dup, ix_dup2, ix_pop, ix_if, ix_cmp, ix_goto, ix_switch, ix_sw, ix_iret, ix_zret, ix_vret, ix_aret, ix_geti, ix_getr, ix_puti, ix_putz, ix_puts, ix_gets, ix_iald, ix_iast, ix_alen, ix_aald, ix_gval, ix_gcod, ix_bald, ix_blen, ix_sald, ix_nret, ix_math2, ix_math1, ix_acopy, ml_113, ml_114, ml_115, ml_116, ml_118, ml_119, ml_120, ml_121, ml_122, ml_123, ml_124, ml_125, ml_126, mv_0, mv_1, mv_2, mv_3, mv_4, mv_5, mB_or, Nat.add_assoc, Int32.reduceLT, Int32.reduceLE, Int32.reduceToNatClampNeg, Int32.reduceSub, Int32.reduceAdd, Nat.reduceAdd, Nat.reduceLeDiff, true_or, or_true, or_false, false_or, not_false_eq_true, not_true_eq_false, false_implies, true_implies, implies_true, and_self, mB_0, mB_01, Classical.not_not, Nat.zero_le, List.getElem?_cons_zero, List.getElem?_cons_succ, List.set_cons_zero, List.set_cons_succ, ix_nl, ix_cs, true_and, and_true, Option.toList_some, Option.toList_none, List.cons_append, List.nil_append, hx]
  simp only [T_X11_dips, mDips, vi, vl, vr] at hT
  repeat' (first | refine And.intro ?_ ?_ | intro _)
  all_goals (first | exact hT | (simp only [*, if_true, if_false, not_true_eq_false, not_false_eq_true, and_true, true_and, and_false, false_and, or_true, true_or, or_false, false_or, and_self, or_self] at hT; exact hT) | (simp only [← Int32.not_lt, Classical.not_not] at *; simp only [*, if_true, if_false, not_true_eq_false, not_false_eq_true, and_true, true_and, and_false, false_and, or_true, true_or, or_false, false_or, and_self, or_self] at hT; exact hT) | (simp_all; done))
theorem k_X11_dips (l : Launch) : ix_Ct l yX11_dips cX11_dips 3 (some .int) 3 sh_X11_dips T_X11_dips := ix_ct (a_X11_dips l) rfl (by decide) (fun _ => Nat.le_of_ble_eq_true rfl) (fun x μ Q hok hT => r_X11_dips x.1 x.2.1 x.2.2 μ Q (ix_ok_at (hok (vr 10 x.1) (by simp [sh_X11_dips])) (by decide) (by decide)) hT)
def T_X11_leaks : Nat × Int32 → ix_M → (ix_R → Prop) → Prop := fun (_, i) μ Q => ∃ b, i = nI b ∧ b < 8 ∧ Q (some (vi (mLeaks (μ 113 (50 + 4 * b)) (μ 113 (51 + 4 * b)))), μ)
def sh_X11_leaks (x : Nat × Int32) : List ix_V := [vr 10 x.1, vi x.2]
theorem mo_X11_leaks (x : Nat × Int32) (μ : ix_M) (Q Q' : ix_R → Prop) (h : ∀ r, Q r → Q' r) (hT : T_X11_leaks x μ Q) : T_X11_leaks x μ Q' := by
  obtain ⟨a0, a1⟩ := x
  (obtain ⟨b, h1, h2, h3⟩ := hT; exact ⟨b, h1, h2, h _ h3⟩)
def oc_X11_leaks (n : Nat) : ix_Op := fun k _ ls st μ => match st with
  | .inl a1 :: .inr (.inr (t0, a0)) :: r => t0 = 10 ∧ ix_cs r ≤ 8 ∧ T_X11_leaks (a0, a1) μ (fun q => k (n, ls, q.1.toList ++ r, q.2))
  | _ => False
theorem oc_X11_leaks_s {l : Launch} {cc : ByteArray} {nL : Nat} {own : String} {d : Nat} {rt : Option FieldType} {pc n : Nat} (h : ix_S l cc nL own d rt pc (ix_call 2 sh_X11_leaks T_X11_leaks n)) : ix_S l cc nL own d rt pc (oc_X11_leaks n) := by
  refine h.by (fun k Q ls st μ h => ?_) (fun k k' Q ls st μ hk h => ?_)
  · unfold oc_X11_leaks at h
    split at h
    · rename_i a1 t0 a0 r
      obtain ⟨rfl, h1, h2⟩ := h
      exact ⟨h1, (a0, a1), rfl, _, h2, fun r h => h⟩
    · exact h.elim
  · unfold oc_X11_leaks at h ⊢
    split at h
    · obtain ⟨rfl, h1, h2⟩ := h
      exact ⟨rfl, h1, mo_X11_leaks _ _ _ _ (fun q hq => hk _ hq) h2⟩
    · exact h.elim
def o_X11_leaks : List (Nat × ix_Op) := [
  (0, ix_aload 0 1),
  (1, ix_iload 1 2),
  (2, ix_push (vi 0) 3),
  (3, oc_X11_boatIs 6),
  (6, ix_switch [(1, 44), (2, 46), (4, 48), (6, 44)] 59),
  (44, ix_push (vi 2) 45),
  (45, ix_iret),
  (46, ix_push (vi 0) 47),
  (47, ix_iret),
  (48, ix_push (vi 2) 49),
  (49, ix_aload 0 50),
  (50, ix_iload 1 51),
  (51, ix_push (vi 1) 52),
  (52, oc_X11_boatIs 55),
  (55, ix_push (vi 3) 56),
  (56, ix_div (fun x y => x / y) 57),
  (57, ix_bin (fun x y => x + y) 58),
  (58, ix_iret),
  (59, ix_push (vi 1) 60),
  (60, ix_iret)]
set_option maxRecDepth 20000 in
theorem a_X11_leaks (l : Launch) : ix_AllS l cX11_leaks 2 RX11 3 (some .int) o_X11_leaks :=
  .cons (ix_s_aload_n dX11_leaks_0 rfl) <|
  .cons (ix_s_iload_n dX11_leaks_1 rfl) <|
  .cons (ix_s_iconst dX11_leaks_2 (by decide +kernel)) <|
  .cons (oc_X11_boatIs_s (ix_s_callv (t := 10) (k_X11_boatIs l) (by decide) (by decide) tw_1083 tw_12 tw_1080 tw_1082 tp_34 ⟨by decide, by decide, by decide +kernel⟩ (by decide) rfl rfl (fun _ => ⟨_, _, rfl, rfl⟩) dX11_leaks_3)) <|
  .cons (ix_s_tab dX11_leaks_6 (by decide) (by decide +kernel) (by decide +kernel)) <|
  .cons (ix_s_iconst dX11_leaks_44 (by decide +kernel)) <|
  .cons (ix_s_iret dX11_leaks_45 rfl) <|
  .cons (ix_s_iconst dX11_leaks_46 (by decide +kernel)) <|
  .cons (ix_s_iret dX11_leaks_47 rfl) <|
  .cons (ix_s_iconst dX11_leaks_48 (by decide +kernel)) <|
  .cons (ix_s_aload_n dX11_leaks_49 rfl) <|
  .cons (ix_s_iload_n dX11_leaks_50 rfl) <|
  .cons (ix_s_iconst dX11_leaks_51 (by decide +kernel)) <|
  .cons (oc_X11_boatIs_s (ix_s_callv (t := 10) (k_X11_boatIs l) (by decide) (by decide) tw_1083 tw_12 tw_1080 tw_1082 tp_34 ⟨by decide, by decide, by decide +kernel⟩ (by decide) rfl rfl (fun _ => ⟨_, _, rfl, rfl⟩) dX11_leaks_52)) <|
  .cons (ix_s_iconst dX11_leaks_55 (by decide +kernel)) <|
  .cons (ix_s_idiv dX11_leaks_56) <|
  .cons (ix_s_iadd dX11_leaks_57) <|
  .cons (ix_s_iret dX11_leaks_58 rfl) <|
  .cons (ix_s_iconst dX11_leaks_59 (by decide +kernel)) <|
  .cons (ix_s_iret dX11_leaks_60 rfl) <| .nil
theorem e_X11_leaks_0 (Q : ix_R → Prop) (ls : ix_L) (st : List ix_V) (μ : ix_M) : ix_Ev o_X11_leaks Q (0, ls, st, μ) = ix_aload 0 1 (ix_Ev o_X11_leaks Q) Q ls st μ := ix_Ev.eq (a_X11_leaks launch0) rfl ls st μ
theorem e_X11_leaks_1 (Q : ix_R → Prop) (ls : ix_L) (st : List ix_V) (μ : ix_M) : ix_Ev o_X11_leaks Q (1, ls, st, μ) = ix_iload 1 2 (ix_Ev o_X11_leaks Q) Q ls st μ := ix_Ev.eq (a_X11_leaks launch0) rfl ls st μ
theorem e_X11_leaks_2 (Q : ix_R → Prop) (ls : ix_L) (st : List ix_V) (μ : ix_M) : ix_Ev o_X11_leaks Q (2, ls, st, μ) = ix_push (vi 0) 3 (ix_Ev o_X11_leaks Q) Q ls st μ := ix_Ev.eq (a_X11_leaks launch0) rfl ls st μ
theorem e_X11_leaks_3 (Q : ix_R → Prop) (ls : ix_L) (st : List ix_V) (μ : ix_M) : ix_Ev o_X11_leaks Q (3, ls, st, μ) = oc_X11_boatIs 6 (ix_Ev o_X11_leaks Q) Q ls st μ := ix_Ev.eq (a_X11_leaks launch0) rfl ls st μ
theorem e_X11_leaks_6 (Q : ix_R → Prop) (ls : ix_L) (st : List ix_V) (μ : ix_M) : ix_Ev o_X11_leaks Q (6, ls, st, μ) = ix_switch [(1, 44), (2, 46), (4, 48), (6, 44)] 59 (ix_Ev o_X11_leaks Q) Q ls st μ := ix_Ev.eq (a_X11_leaks launch0) rfl ls st μ
theorem e_X11_leaks_44 (Q : ix_R → Prop) (ls : ix_L) (st : List ix_V) (μ : ix_M) : ix_Ev o_X11_leaks Q (44, ls, st, μ) = ix_push (vi 2) 45 (ix_Ev o_X11_leaks Q) Q ls st μ := ix_Ev.eq (a_X11_leaks launch0) rfl ls st μ
theorem e_X11_leaks_45 (Q : ix_R → Prop) (ls : ix_L) (st : List ix_V) (μ : ix_M) : ix_Ev o_X11_leaks Q (45, ls, st, μ) = ix_iret (ix_Ev o_X11_leaks Q) Q ls st μ := ix_Ev.eq (a_X11_leaks launch0) rfl ls st μ
theorem e_X11_leaks_46 (Q : ix_R → Prop) (ls : ix_L) (st : List ix_V) (μ : ix_M) : ix_Ev o_X11_leaks Q (46, ls, st, μ) = ix_push (vi 0) 47 (ix_Ev o_X11_leaks Q) Q ls st μ := ix_Ev.eq (a_X11_leaks launch0) rfl ls st μ
theorem e_X11_leaks_47 (Q : ix_R → Prop) (ls : ix_L) (st : List ix_V) (μ : ix_M) : ix_Ev o_X11_leaks Q (47, ls, st, μ) = ix_iret (ix_Ev o_X11_leaks Q) Q ls st μ := ix_Ev.eq (a_X11_leaks launch0) rfl ls st μ
theorem e_X11_leaks_48 (Q : ix_R → Prop) (ls : ix_L) (st : List ix_V) (μ : ix_M) : ix_Ev o_X11_leaks Q (48, ls, st, μ) = ix_push (vi 2) 49 (ix_Ev o_X11_leaks Q) Q ls st μ := ix_Ev.eq (a_X11_leaks launch0) rfl ls st μ
theorem e_X11_leaks_49 (Q : ix_R → Prop) (ls : ix_L) (st : List ix_V) (μ : ix_M) : ix_Ev o_X11_leaks Q (49, ls, st, μ) = ix_aload 0 50 (ix_Ev o_X11_leaks Q) Q ls st μ := ix_Ev.eq (a_X11_leaks launch0) rfl ls st μ
theorem e_X11_leaks_50 (Q : ix_R → Prop) (ls : ix_L) (st : List ix_V) (μ : ix_M) : ix_Ev o_X11_leaks Q (50, ls, st, μ) = ix_iload 1 51 (ix_Ev o_X11_leaks Q) Q ls st μ := ix_Ev.eq (a_X11_leaks launch0) rfl ls st μ
theorem e_X11_leaks_51 (Q : ix_R → Prop) (ls : ix_L) (st : List ix_V) (μ : ix_M) : ix_Ev o_X11_leaks Q (51, ls, st, μ) = ix_push (vi 1) 52 (ix_Ev o_X11_leaks Q) Q ls st μ := ix_Ev.eq (a_X11_leaks launch0) rfl ls st μ
theorem e_X11_leaks_52 (Q : ix_R → Prop) (ls : ix_L) (st : List ix_V) (μ : ix_M) : ix_Ev o_X11_leaks Q (52, ls, st, μ) = oc_X11_boatIs 55 (ix_Ev o_X11_leaks Q) Q ls st μ := ix_Ev.eq (a_X11_leaks launch0) rfl ls st μ
theorem e_X11_leaks_55 (Q : ix_R → Prop) (ls : ix_L) (st : List ix_V) (μ : ix_M) : ix_Ev o_X11_leaks Q (55, ls, st, μ) = ix_push (vi 3) 56 (ix_Ev o_X11_leaks Q) Q ls st μ := ix_Ev.eq (a_X11_leaks launch0) rfl ls st μ
theorem e_X11_leaks_56 (Q : ix_R → Prop) (ls : ix_L) (st : List ix_V) (μ : ix_M) : ix_Ev o_X11_leaks Q (56, ls, st, μ) = ix_div (fun x y => x / y) 57 (ix_Ev o_X11_leaks Q) Q ls st μ := ix_Ev.eq (a_X11_leaks launch0) rfl ls st μ
theorem e_X11_leaks_57 (Q : ix_R → Prop) (ls : ix_L) (st : List ix_V) (μ : ix_M) : ix_Ev o_X11_leaks Q (57, ls, st, μ) = ix_bin (fun x y => x + y) 58 (ix_Ev o_X11_leaks Q) Q ls st μ := ix_Ev.eq (a_X11_leaks launch0) rfl ls st μ
theorem e_X11_leaks_58 (Q : ix_R → Prop) (ls : ix_L) (st : List ix_V) (μ : ix_M) : ix_Ev o_X11_leaks Q (58, ls, st, μ) = ix_iret (ix_Ev o_X11_leaks Q) Q ls st μ := ix_Ev.eq (a_X11_leaks launch0) rfl ls st μ
theorem e_X11_leaks_59 (Q : ix_R → Prop) (ls : ix_L) (st : List ix_V) (μ : ix_M) : ix_Ev o_X11_leaks Q (59, ls, st, μ) = ix_push (vi 1) 60 (ix_Ev o_X11_leaks Q) Q ls st μ := ix_Ev.eq (a_X11_leaks launch0) rfl ls st μ
theorem e_X11_leaks_60 (Q : ix_R → Prop) (ls : ix_L) (st : List ix_V) (μ : ix_M) : ix_Ev o_X11_leaks Q (60, ls, st, μ) = ix_iret (ix_Ev o_X11_leaks Q) Q ls st μ := ix_Ev.eq (a_X11_leaks launch0) rfl ls st μ
theorem r_X11_leaks (o : Nat) (i : Int32) (μ : ix_M) (Q : ix_R → Prop) (ok_o : o < ix_N ∧ ix_tag o = 10) (hT : T_X11_leaks (o, i) μ Q) : ix_Ev o_X11_leaks Q (0, [some (vr 10 o), some (vi i)], [], μ) := by
  obtain rfl := ok_10 o ok_o.1 ok_o.2
  obtain ⟨b, rfl, hb, hT⟩ := hT
  have hx := bx b hb
  simp (decide := true) only [e_X11_leaks_0, e_X11_leaks_1, e_X11_leaks_2, e_X11_leaks_3, e_X11_leaks_6, e_X11_leaks_44, e_X11_leaks_45, e_X11_leaks_46, e_X11_leaks_47, e_X11_leaks_48, e_X11_leaks_49, e_X11_leaks_50, e_X11_leaks_51, e_X11_leaks_52, e_X11_leaks_55, e_X11_leaks_56, e_X11_leaks_57, e_X11_leaks_58, e_X11_leaks_59, e_X11_leaks_60, vi, vl, vr, oc_X11_boatIs, T_X11_boatIs, ix_push, ix_iload, ix_lload, ix_aload, ix_istore, ix_astore, ix_iinc, ix_bin, ix_div, ix_un, ix_i2l, ix_l2i, ix_lbin, ix_lsh, ix_lcmp, ix_dup, ix_dup2, ix_pop, ix_if, ix_cmp, ix_goto, ix_switch, ix_sw, ix_iret, ix_zret, ix_vret, ix_aret, ix_geti, ix_getr, ix_puti, ix_putz, ix_puts, ix_gets, ix_iald, ix_iast, ix_alen, ix_aald, ix_gval, ix_gcod, ix_bald, ix_blen, ix_sald, ix_nret, ix_math2, ix_math1, ix_acopy, ml_113, ml_114, ml_115, ml_116, ml_118, ml_119, ml_120, ml_121, ml_122, ml_123, ml_124, ml_125, ml_126, mv_0, mv_1, mv_2, mv_3, mv_4, mv_5, mB_or, Nat.add_assoc, Int32.reduceLT, Int32.reduceLE, Int32.reduceToNatClampNeg, Int32.reduceSub, Int32.reduceAdd, Nat.reduceAdd, Nat.reduceLeDiff, true_or, or_true, or_false, false_or, not_false_eq_true, not_true_eq_false, false_implies, true_implies, implies_true, and_self, mB_0, mB_01, Classical.not_not, Nat.zero_le, List.getElem?_cons_zero, List.getElem?_cons_succ, List.set_cons_zero, List.set_cons_succ, ix_nl, ix_cs, true_and, and_true, Option.toList_some, Option.toList_none, List.cons_append, List.nil_append, hx]
  simp only [T_X11_leaks, mLeaks, vi, vl, vr] at hT
  repeat' (first | refine And.intro ?_ ?_ | intro _)
  all_goals (first | exact hT | (simp only [*, if_true, if_false, not_true_eq_false, not_false_eq_true, and_true, true_and, and_false, false_and, or_true, true_or, or_false, false_or, and_self, or_self] at hT; exact hT) | (simp only [← Int32.not_lt, Classical.not_not] at *; simp only [*, if_true, if_false, not_true_eq_false, not_false_eq_true, and_true, true_and, and_false, false_and, or_true, true_or, or_false, false_or, and_self, or_self] at hT; exact hT) | (simp_all; done))
theorem k_X11_leaks (l : Launch) : ix_Ct l yX11_leaks cX11_leaks 2 (some .int) 3 sh_X11_leaks T_X11_leaks := ix_ct (a_X11_leaks l) rfl (by decide) (fun _ => Nat.le_of_ble_eq_true rfl) (fun x μ Q hok hT => r_X11_leaks x.1 x.2 μ Q (ix_ok_at (hok (vr 10 x.1) (by simp [sh_X11_leaks])) (by decide) (by decide)) hT)
def nGoes (k m w mi : Int32) : Int32 := if k = 1 then (if w - w / 2 * 2 = 1 then 4 - w else w) else if k = 2 then (if mi - mi / 2 * 2 = 1 then 0 else w) else if k = 3 then (if w = 0 then 0 else w - w / 4 * 4 + 1) else if k = 4 then (if w - w / 2 * 2 = 1 then 4 - w else w) else if k = 5 then (if mi - mi / 2 * 2 = 1 then 0 else w) else if k = 6 then (if (if w = 0 then 0 else w - w / 4 * 4 + 1) = 0 then m - m / 5 * 5 else (if w = 0 then 0 else w - w / 4 * 4 + 1)) else w
def T_X11_goes : Nat × Int32 × Int32 → ix_M → (ix_R → Prop) → Prop := fun (_, i, w) μ Q => ∃ b, i = nI b ∧ b < 8 ∧ Q (some (vi (nGoes (μ 113 (50 + 4 * b)) (μ 113 (51 + 4 * b)) w (μ 113 0))), μ)
def sh_X11_goes (x : Nat × Int32 × Int32) : List ix_V := [vr 10 x.1, vi x.2.1, vi x.2.2]
theorem mo_X11_goes (x : Nat × Int32 × Int32) (μ : ix_M) (Q Q' : ix_R → Prop) (h : ∀ r, Q r → Q' r) (hT : T_X11_goes x μ Q) : T_X11_goes x μ Q' := by
  obtain ⟨a0, a1, a2⟩ := x
  (obtain ⟨b, h1, h2, h3⟩ := hT; exact ⟨b, h1, h2, h _ h3⟩)
def oc_X11_goes (n : Nat) : ix_Op := fun k _ ls st μ => match st with
  | .inl a2 :: .inl a1 :: .inr (.inr (t0, a0)) :: r => t0 = 10 ∧ ix_cs r ≤ 8 ∧ T_X11_goes (a0, a1, a2) μ (fun q => k (n, ls, q.1.toList ++ r, q.2))
  | _ => False
theorem oc_X11_goes_s {l : Launch} {cc : ByteArray} {nL : Nat} {own : String} {d : Nat} {rt : Option FieldType} {pc n : Nat} (h : ix_S l cc nL own d rt pc (ix_call 3 sh_X11_goes T_X11_goes n)) : ix_S l cc nL own d rt pc (oc_X11_goes n) := by
  refine h.by (fun k Q ls st μ h => ?_) (fun k k' Q ls st μ hk h => ?_)
  · unfold oc_X11_goes at h
    split at h
    · rename_i a2 a1 t0 a0 r
      obtain ⟨rfl, h1, h2⟩ := h
      exact ⟨h1, (a0, a1, a2), rfl, _, h2, fun r h => h⟩
    · exact h.elim
  · unfold oc_X11_goes at h ⊢
    split at h
    · obtain ⟨rfl, h1, h2⟩ := h
      exact ⟨rfl, h1, mo_X11_goes _ _ _ _ (fun q hq => hk _ hq) h2⟩
    · exact h.elim
def o_X11_goes : List (Nat × ix_Op) := [
  (0, ix_iload 2 1),
  (1, ix_if (fun x => x = 0) 4 8),
  (4, ix_push (vi 0) 5),
  (5, ix_goto 13),
  (8, ix_iload 2 9),
  (9, ix_push (vi 4) 10),
  (10, ix_div (fun x y => x - x / y * y) 11),
  (11, ix_push (vi 1) 12),
  (12, ix_bin (fun x y => x + y) 13),
  (13, ix_istore 3 14),
  (14, ix_aload 0 15),
  (15, ix_iload 1 16),
  (16, ix_push (vi 0) 17),
  (17, oc_X11_boatIs 20),
  (20, ix_switch [(1, 60), (2, 75), (3, 93), (4, 60), (5, 75), (6, 95)] 112),
  (60, ix_iload 2 61),
  (61, ix_push (vi 2) 62),
  (62, ix_div (fun x y => x - x / y * y) 63),
  (63, ix_push (vi 1) 64),
  (64, ix_cmp (fun x y => x = y) 67 73),
  (67, ix_push (vi 4) 68),
  (68, ix_iload 2 69),
  (69, ix_bin (fun x y => x - y) 70),
  (70, ix_goto 74),
  (73, ix_iload 2 74),
  (74, ix_iret),
  (75, ix_aload 0 76),
  (76, ix_getr 10 20 (fun _ => 113) 79),
  (79, ix_push (vi 0) 80),
  (80, ix_iald 81),
  (81, ix_push (vi 2) 82),
  (82, ix_div (fun x y => x - x / y * y) 83),
  (83, ix_push (vi 1) 84),
  (84, ix_cmp (fun x y => x = y) 87 91),
  (87, ix_push (vi 0) 88),
  (88, ix_goto 92),
  (91, ix_iload 2 92),
  (92, ix_iret),
  (93, ix_iload 3 94),
  (94, ix_iret),
  (95, ix_iload 3 96),
  (96, ix_if (fun x => x = 0) 99 110),
  (99, ix_aload 0 100),
  (100, ix_iload 1 101),
  (101, ix_push (vi 1) 102),
  (102, oc_X11_boatIs 105),
  (105, ix_push (vi 5) 106),
  (106, ix_div (fun x y => x - x / y * y) 107),
  (107, ix_goto 111),
  (110, ix_iload 3 111),
  (111, ix_iret),
  (112, ix_iload 2 113),
  (113, ix_iret)]
set_option maxRecDepth 20000 in
theorem a_X11_goes (l : Launch) : ix_AllS l cX11_goes 4 RX11 3 (some .int) o_X11_goes :=
  .cons (ix_s_iload_n dX11_goes_0 rfl) <|
  .cons (ix_s_if_ne dX11_goes_1 (by decide)) <|
  .cons (ix_s_iconst dX11_goes_4 (by decide +kernel)) <|
  .cons (ix_s_goto dX11_goes_5 (by decide)) <|
  .cons (ix_s_iload_n dX11_goes_8 rfl) <|
  .cons (ix_s_iconst dX11_goes_9 (by decide +kernel)) <|
  .cons (ix_s_irem dX11_goes_10) <|
  .cons (ix_s_iconst dX11_goes_11 (by decide +kernel)) <|
  .cons (ix_s_iadd dX11_goes_12) <|
  .cons (ix_s_istore_n dX11_goes_13 rfl (by decide)) <|
  .cons (ix_s_aload_n dX11_goes_14 rfl) <|
  .cons (ix_s_iload_n dX11_goes_15 rfl) <|
  .cons (ix_s_iconst dX11_goes_16 (by decide +kernel)) <|
  .cons (oc_X11_boatIs_s (ix_s_callv (t := 10) (k_X11_boatIs l) (by decide) (by decide) tw_1083 tw_12 tw_1080 tw_1082 tp_34 ⟨by decide, by decide, by decide +kernel⟩ (by decide) rfl rfl (fun _ => ⟨_, _, rfl, rfl⟩) dX11_goes_17)) <|
  .cons (ix_s_tab dX11_goes_20 (by decide) (by decide +kernel) (by decide +kernel)) <|
  .cons (ix_s_iload_n dX11_goes_60 rfl) <|
  .cons (ix_s_iconst dX11_goes_61 (by decide +kernel)) <|
  .cons (ix_s_irem dX11_goes_62) <|
  .cons (ix_s_iconst dX11_goes_63 (by decide +kernel)) <|
  .cons (ix_s_cmp_ne dX11_goes_64 (by decide)) <|
  .cons (ix_s_iconst dX11_goes_67 (by decide +kernel)) <|
  .cons (ix_s_iload_n dX11_goes_68 rfl) <|
  .cons (ix_s_isub dX11_goes_69) <|
  .cons (ix_s_goto dX11_goes_70 (by decide)) <|
  .cons (ix_s_iload_n dX11_goes_73 rfl) <|
  .cons (ix_s_iret dX11_goes_74 rfl) <|
  .cons (ix_s_aload_n dX11_goes_75 rfl) <|
  .cons (ix_s_getr (j := 0) tu_X11 rfl (by decide) (by decide) tw_875 rfl ts_10_0_r dX11_goes_76) <|
  .cons (ix_s_iconst dX11_goes_79 (by decide +kernel)) <|
  .cons (ix_s_iald dX11_goes_80) <|
  .cons (ix_s_iconst dX11_goes_81 (by decide +kernel)) <|
  .cons (ix_s_irem dX11_goes_82) <|
  .cons (ix_s_iconst dX11_goes_83 (by decide +kernel)) <|
  .cons (ix_s_cmp_ne dX11_goes_84 (by decide)) <|
  .cons (ix_s_iconst dX11_goes_87 (by decide +kernel)) <|
  .cons (ix_s_goto dX11_goes_88 (by decide)) <|
  .cons (ix_s_iload_n dX11_goes_91 rfl) <|
  .cons (ix_s_iret dX11_goes_92 rfl) <|
  .cons (ix_s_iload_n dX11_goes_93 rfl) <|
  .cons (ix_s_iret dX11_goes_94 rfl) <|
  .cons (ix_s_iload_n dX11_goes_95 rfl) <|
  .cons (ix_s_if_ne dX11_goes_96 (by decide)) <|
  .cons (ix_s_aload_n dX11_goes_99 rfl) <|
  .cons (ix_s_iload_n dX11_goes_100 rfl) <|
  .cons (ix_s_iconst dX11_goes_101 (by decide +kernel)) <|
  .cons (oc_X11_boatIs_s (ix_s_callv (t := 10) (k_X11_boatIs l) (by decide) (by decide) tw_1083 tw_12 tw_1080 tw_1082 tp_34 ⟨by decide, by decide, by decide +kernel⟩ (by decide) rfl rfl (fun _ => ⟨_, _, rfl, rfl⟩) dX11_goes_102)) <|
  .cons (ix_s_iconst dX11_goes_105 (by decide +kernel)) <|
  .cons (ix_s_irem dX11_goes_106) <|
  .cons (ix_s_goto dX11_goes_107 (by decide)) <|
  .cons (ix_s_iload_n dX11_goes_110 rfl) <|
  .cons (ix_s_iret dX11_goes_111 rfl) <|
  .cons (ix_s_iload_n dX11_goes_112 rfl) <|
  .cons (ix_s_iret dX11_goes_113 rfl) <| .nil
theorem e_X11_goes_0 (Q : ix_R → Prop) (ls : ix_L) (st : List ix_V) (μ : ix_M) : ix_Ev o_X11_goes Q (0, ls, st, μ) = ix_iload 2 1 (ix_Ev o_X11_goes Q) Q ls st μ := ix_Ev.eq (a_X11_goes launch0) rfl ls st μ
theorem e_X11_goes_1 (Q : ix_R → Prop) (ls : ix_L) (st : List ix_V) (μ : ix_M) : ix_Ev o_X11_goes Q (1, ls, st, μ) = ix_if (fun x => x = 0) 4 8 (ix_Ev o_X11_goes Q) Q ls st μ := ix_Ev.eq (a_X11_goes launch0) rfl ls st μ
theorem e_X11_goes_4 (Q : ix_R → Prop) (ls : ix_L) (st : List ix_V) (μ : ix_M) : ix_Ev o_X11_goes Q (4, ls, st, μ) = ix_push (vi 0) 5 (ix_Ev o_X11_goes Q) Q ls st μ := ix_Ev.eq (a_X11_goes launch0) rfl ls st μ
theorem e_X11_goes_5 (Q : ix_R → Prop) (ls : ix_L) (st : List ix_V) (μ : ix_M) : ix_Ev o_X11_goes Q (5, ls, st, μ) = ix_goto 13 (ix_Ev o_X11_goes Q) Q ls st μ := ix_Ev.eq (a_X11_goes launch0) rfl ls st μ
theorem e_X11_goes_8 (Q : ix_R → Prop) (ls : ix_L) (st : List ix_V) (μ : ix_M) : ix_Ev o_X11_goes Q (8, ls, st, μ) = ix_iload 2 9 (ix_Ev o_X11_goes Q) Q ls st μ := ix_Ev.eq (a_X11_goes launch0) rfl ls st μ
theorem e_X11_goes_9 (Q : ix_R → Prop) (ls : ix_L) (st : List ix_V) (μ : ix_M) : ix_Ev o_X11_goes Q (9, ls, st, μ) = ix_push (vi 4) 10 (ix_Ev o_X11_goes Q) Q ls st μ := ix_Ev.eq (a_X11_goes launch0) rfl ls st μ
theorem e_X11_goes_10 (Q : ix_R → Prop) (ls : ix_L) (st : List ix_V) (μ : ix_M) : ix_Ev o_X11_goes Q (10, ls, st, μ) = ix_div (fun x y => x - x / y * y) 11 (ix_Ev o_X11_goes Q) Q ls st μ := ix_Ev.eq (a_X11_goes launch0) rfl ls st μ
theorem e_X11_goes_11 (Q : ix_R → Prop) (ls : ix_L) (st : List ix_V) (μ : ix_M) : ix_Ev o_X11_goes Q (11, ls, st, μ) = ix_push (vi 1) 12 (ix_Ev o_X11_goes Q) Q ls st μ := ix_Ev.eq (a_X11_goes launch0) rfl ls st μ
theorem e_X11_goes_12 (Q : ix_R → Prop) (ls : ix_L) (st : List ix_V) (μ : ix_M) : ix_Ev o_X11_goes Q (12, ls, st, μ) = ix_bin (fun x y => x + y) 13 (ix_Ev o_X11_goes Q) Q ls st μ := ix_Ev.eq (a_X11_goes launch0) rfl ls st μ
theorem e_X11_goes_13 (Q : ix_R → Prop) (ls : ix_L) (st : List ix_V) (μ : ix_M) : ix_Ev o_X11_goes Q (13, ls, st, μ) = ix_istore 3 14 (ix_Ev o_X11_goes Q) Q ls st μ := ix_Ev.eq (a_X11_goes launch0) rfl ls st μ
theorem e_X11_goes_14 (Q : ix_R → Prop) (ls : ix_L) (st : List ix_V) (μ : ix_M) : ix_Ev o_X11_goes Q (14, ls, st, μ) = ix_aload 0 15 (ix_Ev o_X11_goes Q) Q ls st μ := ix_Ev.eq (a_X11_goes launch0) rfl ls st μ
theorem e_X11_goes_15 (Q : ix_R → Prop) (ls : ix_L) (st : List ix_V) (μ : ix_M) : ix_Ev o_X11_goes Q (15, ls, st, μ) = ix_iload 1 16 (ix_Ev o_X11_goes Q) Q ls st μ := ix_Ev.eq (a_X11_goes launch0) rfl ls st μ
theorem e_X11_goes_16 (Q : ix_R → Prop) (ls : ix_L) (st : List ix_V) (μ : ix_M) : ix_Ev o_X11_goes Q (16, ls, st, μ) = ix_push (vi 0) 17 (ix_Ev o_X11_goes Q) Q ls st μ := ix_Ev.eq (a_X11_goes launch0) rfl ls st μ
theorem e_X11_goes_17 (Q : ix_R → Prop) (ls : ix_L) (st : List ix_V) (μ : ix_M) : ix_Ev o_X11_goes Q (17, ls, st, μ) = oc_X11_boatIs 20 (ix_Ev o_X11_goes Q) Q ls st μ := ix_Ev.eq (a_X11_goes launch0) rfl ls st μ
theorem e_X11_goes_20 (Q : ix_R → Prop) (ls : ix_L) (st : List ix_V) (μ : ix_M) : ix_Ev o_X11_goes Q (20, ls, st, μ) = ix_switch [(1, 60), (2, 75), (3, 93), (4, 60), (5, 75), (6, 95)] 112 (ix_Ev o_X11_goes Q) Q ls st μ := ix_Ev.eq (a_X11_goes launch0) rfl ls st μ
theorem e_X11_goes_60 (Q : ix_R → Prop) (ls : ix_L) (st : List ix_V) (μ : ix_M) : ix_Ev o_X11_goes Q (60, ls, st, μ) = ix_iload 2 61 (ix_Ev o_X11_goes Q) Q ls st μ := ix_Ev.eq (a_X11_goes launch0) rfl ls st μ
theorem e_X11_goes_61 (Q : ix_R → Prop) (ls : ix_L) (st : List ix_V) (μ : ix_M) : ix_Ev o_X11_goes Q (61, ls, st, μ) = ix_push (vi 2) 62 (ix_Ev o_X11_goes Q) Q ls st μ := ix_Ev.eq (a_X11_goes launch0) rfl ls st μ
theorem e_X11_goes_62 (Q : ix_R → Prop) (ls : ix_L) (st : List ix_V) (μ : ix_M) : ix_Ev o_X11_goes Q (62, ls, st, μ) = ix_div (fun x y => x - x / y * y) 63 (ix_Ev o_X11_goes Q) Q ls st μ := ix_Ev.eq (a_X11_goes launch0) rfl ls st μ
theorem e_X11_goes_63 (Q : ix_R → Prop) (ls : ix_L) (st : List ix_V) (μ : ix_M) : ix_Ev o_X11_goes Q (63, ls, st, μ) = ix_push (vi 1) 64 (ix_Ev o_X11_goes Q) Q ls st μ := ix_Ev.eq (a_X11_goes launch0) rfl ls st μ
theorem e_X11_goes_64 (Q : ix_R → Prop) (ls : ix_L) (st : List ix_V) (μ : ix_M) : ix_Ev o_X11_goes Q (64, ls, st, μ) = ix_cmp (fun x y => x = y) 67 73 (ix_Ev o_X11_goes Q) Q ls st μ := ix_Ev.eq (a_X11_goes launch0) rfl ls st μ
theorem e_X11_goes_67 (Q : ix_R → Prop) (ls : ix_L) (st : List ix_V) (μ : ix_M) : ix_Ev o_X11_goes Q (67, ls, st, μ) = ix_push (vi 4) 68 (ix_Ev o_X11_goes Q) Q ls st μ := ix_Ev.eq (a_X11_goes launch0) rfl ls st μ
theorem e_X11_goes_68 (Q : ix_R → Prop) (ls : ix_L) (st : List ix_V) (μ : ix_M) : ix_Ev o_X11_goes Q (68, ls, st, μ) = ix_iload 2 69 (ix_Ev o_X11_goes Q) Q ls st μ := ix_Ev.eq (a_X11_goes launch0) rfl ls st μ
theorem e_X11_goes_69 (Q : ix_R → Prop) (ls : ix_L) (st : List ix_V) (μ : ix_M) : ix_Ev o_X11_goes Q (69, ls, st, μ) = ix_bin (fun x y => x - y) 70 (ix_Ev o_X11_goes Q) Q ls st μ := ix_Ev.eq (a_X11_goes launch0) rfl ls st μ
theorem e_X11_goes_70 (Q : ix_R → Prop) (ls : ix_L) (st : List ix_V) (μ : ix_M) : ix_Ev o_X11_goes Q (70, ls, st, μ) = ix_goto 74 (ix_Ev o_X11_goes Q) Q ls st μ := ix_Ev.eq (a_X11_goes launch0) rfl ls st μ
theorem e_X11_goes_73 (Q : ix_R → Prop) (ls : ix_L) (st : List ix_V) (μ : ix_M) : ix_Ev o_X11_goes Q (73, ls, st, μ) = ix_iload 2 74 (ix_Ev o_X11_goes Q) Q ls st μ := ix_Ev.eq (a_X11_goes launch0) rfl ls st μ
theorem e_X11_goes_74 (Q : ix_R → Prop) (ls : ix_L) (st : List ix_V) (μ : ix_M) : ix_Ev o_X11_goes Q (74, ls, st, μ) = ix_iret (ix_Ev o_X11_goes Q) Q ls st μ := ix_Ev.eq (a_X11_goes launch0) rfl ls st μ
theorem e_X11_goes_75 (Q : ix_R → Prop) (ls : ix_L) (st : List ix_V) (μ : ix_M) : ix_Ev o_X11_goes Q (75, ls, st, μ) = ix_aload 0 76 (ix_Ev o_X11_goes Q) Q ls st μ := ix_Ev.eq (a_X11_goes launch0) rfl ls st μ
theorem e_X11_goes_76 (Q : ix_R → Prop) (ls : ix_L) (st : List ix_V) (μ : ix_M) : ix_Ev o_X11_goes Q (76, ls, st, μ) = ix_getr 10 20 (fun _ => 113) 79 (ix_Ev o_X11_goes Q) Q ls st μ := ix_Ev.eq (a_X11_goes launch0) rfl ls st μ
theorem e_X11_goes_79 (Q : ix_R → Prop) (ls : ix_L) (st : List ix_V) (μ : ix_M) : ix_Ev o_X11_goes Q (79, ls, st, μ) = ix_push (vi 0) 80 (ix_Ev o_X11_goes Q) Q ls st μ := ix_Ev.eq (a_X11_goes launch0) rfl ls st μ
theorem e_X11_goes_80 (Q : ix_R → Prop) (ls : ix_L) (st : List ix_V) (μ : ix_M) : ix_Ev o_X11_goes Q (80, ls, st, μ) = ix_iald 81 (ix_Ev o_X11_goes Q) Q ls st μ := ix_Ev.eq (a_X11_goes launch0) rfl ls st μ
theorem e_X11_goes_81 (Q : ix_R → Prop) (ls : ix_L) (st : List ix_V) (μ : ix_M) : ix_Ev o_X11_goes Q (81, ls, st, μ) = ix_push (vi 2) 82 (ix_Ev o_X11_goes Q) Q ls st μ := ix_Ev.eq (a_X11_goes launch0) rfl ls st μ
theorem e_X11_goes_82 (Q : ix_R → Prop) (ls : ix_L) (st : List ix_V) (μ : ix_M) : ix_Ev o_X11_goes Q (82, ls, st, μ) = ix_div (fun x y => x - x / y * y) 83 (ix_Ev o_X11_goes Q) Q ls st μ := ix_Ev.eq (a_X11_goes launch0) rfl ls st μ
theorem e_X11_goes_83 (Q : ix_R → Prop) (ls : ix_L) (st : List ix_V) (μ : ix_M) : ix_Ev o_X11_goes Q (83, ls, st, μ) = ix_push (vi 1) 84 (ix_Ev o_X11_goes Q) Q ls st μ := ix_Ev.eq (a_X11_goes launch0) rfl ls st μ
theorem e_X11_goes_84 (Q : ix_R → Prop) (ls : ix_L) (st : List ix_V) (μ : ix_M) : ix_Ev o_X11_goes Q (84, ls, st, μ) = ix_cmp (fun x y => x = y) 87 91 (ix_Ev o_X11_goes Q) Q ls st μ := ix_Ev.eq (a_X11_goes launch0) rfl ls st μ
theorem e_X11_goes_87 (Q : ix_R → Prop) (ls : ix_L) (st : List ix_V) (μ : ix_M) : ix_Ev o_X11_goes Q (87, ls, st, μ) = ix_push (vi 0) 88 (ix_Ev o_X11_goes Q) Q ls st μ := ix_Ev.eq (a_X11_goes launch0) rfl ls st μ
theorem e_X11_goes_88 (Q : ix_R → Prop) (ls : ix_L) (st : List ix_V) (μ : ix_M) : ix_Ev o_X11_goes Q (88, ls, st, μ) = ix_goto 92 (ix_Ev o_X11_goes Q) Q ls st μ := ix_Ev.eq (a_X11_goes launch0) rfl ls st μ
theorem e_X11_goes_91 (Q : ix_R → Prop) (ls : ix_L) (st : List ix_V) (μ : ix_M) : ix_Ev o_X11_goes Q (91, ls, st, μ) = ix_iload 2 92 (ix_Ev o_X11_goes Q) Q ls st μ := ix_Ev.eq (a_X11_goes launch0) rfl ls st μ
theorem e_X11_goes_92 (Q : ix_R → Prop) (ls : ix_L) (st : List ix_V) (μ : ix_M) : ix_Ev o_X11_goes Q (92, ls, st, μ) = ix_iret (ix_Ev o_X11_goes Q) Q ls st μ := ix_Ev.eq (a_X11_goes launch0) rfl ls st μ
theorem e_X11_goes_93 (Q : ix_R → Prop) (ls : ix_L) (st : List ix_V) (μ : ix_M) : ix_Ev o_X11_goes Q (93, ls, st, μ) = ix_iload 3 94 (ix_Ev o_X11_goes Q) Q ls st μ := ix_Ev.eq (a_X11_goes launch0) rfl ls st μ
theorem e_X11_goes_94 (Q : ix_R → Prop) (ls : ix_L) (st : List ix_V) (μ : ix_M) : ix_Ev o_X11_goes Q (94, ls, st, μ) = ix_iret (ix_Ev o_X11_goes Q) Q ls st μ := ix_Ev.eq (a_X11_goes launch0) rfl ls st μ
theorem e_X11_goes_95 (Q : ix_R → Prop) (ls : ix_L) (st : List ix_V) (μ : ix_M) : ix_Ev o_X11_goes Q (95, ls, st, μ) = ix_iload 3 96 (ix_Ev o_X11_goes Q) Q ls st μ := ix_Ev.eq (a_X11_goes launch0) rfl ls st μ
theorem e_X11_goes_96 (Q : ix_R → Prop) (ls : ix_L) (st : List ix_V) (μ : ix_M) : ix_Ev o_X11_goes Q (96, ls, st, μ) = ix_if (fun x => x = 0) 99 110 (ix_Ev o_X11_goes Q) Q ls st μ := ix_Ev.eq (a_X11_goes launch0) rfl ls st μ
theorem e_X11_goes_99 (Q : ix_R → Prop) (ls : ix_L) (st : List ix_V) (μ : ix_M) : ix_Ev o_X11_goes Q (99, ls, st, μ) = ix_aload 0 100 (ix_Ev o_X11_goes Q) Q ls st μ := ix_Ev.eq (a_X11_goes launch0) rfl ls st μ
theorem e_X11_goes_100 (Q : ix_R → Prop) (ls : ix_L) (st : List ix_V) (μ : ix_M) : ix_Ev o_X11_goes Q (100, ls, st, μ) = ix_iload 1 101 (ix_Ev o_X11_goes Q) Q ls st μ := ix_Ev.eq (a_X11_goes launch0) rfl ls st μ
theorem e_X11_goes_101 (Q : ix_R → Prop) (ls : ix_L) (st : List ix_V) (μ : ix_M) : ix_Ev o_X11_goes Q (101, ls, st, μ) = ix_push (vi 1) 102 (ix_Ev o_X11_goes Q) Q ls st μ := ix_Ev.eq (a_X11_goes launch0) rfl ls st μ
theorem e_X11_goes_102 (Q : ix_R → Prop) (ls : ix_L) (st : List ix_V) (μ : ix_M) : ix_Ev o_X11_goes Q (102, ls, st, μ) = oc_X11_boatIs 105 (ix_Ev o_X11_goes Q) Q ls st μ := ix_Ev.eq (a_X11_goes launch0) rfl ls st μ
theorem e_X11_goes_105 (Q : ix_R → Prop) (ls : ix_L) (st : List ix_V) (μ : ix_M) : ix_Ev o_X11_goes Q (105, ls, st, μ) = ix_push (vi 5) 106 (ix_Ev o_X11_goes Q) Q ls st μ := ix_Ev.eq (a_X11_goes launch0) rfl ls st μ
theorem e_X11_goes_106 (Q : ix_R → Prop) (ls : ix_L) (st : List ix_V) (μ : ix_M) : ix_Ev o_X11_goes Q (106, ls, st, μ) = ix_div (fun x y => x - x / y * y) 107 (ix_Ev o_X11_goes Q) Q ls st μ := ix_Ev.eq (a_X11_goes launch0) rfl ls st μ
theorem e_X11_goes_107 (Q : ix_R → Prop) (ls : ix_L) (st : List ix_V) (μ : ix_M) : ix_Ev o_X11_goes Q (107, ls, st, μ) = ix_goto 111 (ix_Ev o_X11_goes Q) Q ls st μ := ix_Ev.eq (a_X11_goes launch0) rfl ls st μ
theorem e_X11_goes_110 (Q : ix_R → Prop) (ls : ix_L) (st : List ix_V) (μ : ix_M) : ix_Ev o_X11_goes Q (110, ls, st, μ) = ix_iload 3 111 (ix_Ev o_X11_goes Q) Q ls st μ := ix_Ev.eq (a_X11_goes launch0) rfl ls st μ
theorem e_X11_goes_111 (Q : ix_R → Prop) (ls : ix_L) (st : List ix_V) (μ : ix_M) : ix_Ev o_X11_goes Q (111, ls, st, μ) = ix_iret (ix_Ev o_X11_goes Q) Q ls st μ := ix_Ev.eq (a_X11_goes launch0) rfl ls st μ
theorem e_X11_goes_112 (Q : ix_R → Prop) (ls : ix_L) (st : List ix_V) (μ : ix_M) : ix_Ev o_X11_goes Q (112, ls, st, μ) = ix_iload 2 113 (ix_Ev o_X11_goes Q) Q ls st μ := ix_Ev.eq (a_X11_goes launch0) rfl ls st μ
theorem e_X11_goes_113 (Q : ix_R → Prop) (ls : ix_L) (st : List ix_V) (μ : ix_M) : ix_Ev o_X11_goes Q (113, ls, st, μ) = ix_iret (ix_Ev o_X11_goes Q) Q ls st μ := ix_Ev.eq (a_X11_goes launch0) rfl ls st μ
theorem r_X11_goes (o : Nat) (i : Int32) (w : Int32) (μ : ix_M) (Q : ix_R → Prop) (ok_o : o < ix_N ∧ ix_tag o = 10) (hT : T_X11_goes (o, i, w) μ Q) : ix_Ev o_X11_goes Q (0, [some (vr 10 o), some (vi i), some (vi w), none], [], μ) := by
  obtain rfl := ok_10 o ok_o.1 ok_o.2
  obtain ⟨b, rfl, hb, hT⟩ := hT
  have hx := bx b hb
  simp (decide := true) only [e_X11_goes_0, e_X11_goes_1, e_X11_goes_4, e_X11_goes_5, e_X11_goes_8, e_X11_goes_9, e_X11_goes_10, e_X11_goes_11, e_X11_goes_12, e_X11_goes_13, e_X11_goes_14, e_X11_goes_15, e_X11_goes_16, e_X11_goes_17, e_X11_goes_20, e_X11_goes_60, e_X11_goes_61, e_X11_goes_62, e_X11_goes_63, e_X11_goes_64, e_X11_goes_67, e_X11_goes_68, e_X11_goes_69, e_X11_goes_70, e_X11_goes_73, e_X11_goes_74, e_X11_goes_75, e_X11_goes_76, e_X11_goes_79, e_X11_goes_80, e_X11_goes_81, e_X11_goes_82, e_X11_goes_83, e_X11_goes_84, e_X11_goes_87, e_X11_goes_88, e_X11_goes_91, e_X11_goes_92, e_X11_goes_93, e_X11_goes_94, e_X11_goes_95, e_X11_goes_96, e_X11_goes_99, e_X11_goes_100, e_X11_goes_101, e_X11_goes_102, e_X11_goes_105, e_X11_goes_106, e_X11_goes_107, e_X11_goes_110, e_X11_goes_111, e_X11_goes_112, e_X11_goes_113, vi, vl, vr, oc_X11_boatIs, T_X11_boatIs, ix_push, ix_iload, ix_lload, ix_aload, ix_istore, ix_astore, ix_iinc, ix_bin, ix_div, ix_un, ix_i2l, ix_l2i, ix_lbin, ix_lsh, ix_lcmp, ix_dup, ix_dup2, ix_pop, ix_if, ix_cmp, ix_goto, ix_switch, ix_sw, ix_iret, ix_zret, ix_vret, ix_aret, ix_geti, ix_getr, ix_puti, ix_putz, ix_puts, ix_gets, ix_iald, ix_iast, ix_alen, ix_aald, ix_gval, ix_gcod, ix_bald, ix_blen, ix_sald, ix_nret, ix_math2, ix_math1, ix_acopy, ml_113, ml_114, ml_115, ml_116, ml_118, ml_119, ml_120, ml_121, ml_122, ml_123, ml_124, ml_125, ml_126, mv_0, mv_1, mv_2, mv_3, mv_4, mv_5, mB_or, Nat.add_assoc, Int32.reduceLT, Int32.reduceLE, Int32.reduceToNatClampNeg, Int32.reduceSub, Int32.reduceAdd, Nat.reduceAdd, Nat.reduceLeDiff, true_or, or_true, or_false, false_or, not_false_eq_true, not_true_eq_false, false_implies, true_implies, implies_true, and_self, mB_0, mB_01, Classical.not_not, Nat.zero_le, List.getElem?_cons_zero, List.getElem?_cons_succ, List.set_cons_zero, List.set_cons_succ, ix_nl, ix_cs, true_and, and_true, Option.toList_some, Option.toList_none, List.cons_append, List.nil_append, hx]
  simp only [T_X11_goes, nGoes, vi, vl, vr] at hT
  repeat' (first | refine And.intro ?_ ?_ | intro _)
  all_goals (first | exact hT | (simp only [*, if_true, if_false, not_true_eq_false, not_false_eq_true, and_true, true_and, and_false, false_and, or_true, true_or, or_false, false_or, and_self, or_self] at hT; exact hT) | (simp only [← Int32.not_lt, Classical.not_not] at *; simp only [*, if_true, if_false, not_true_eq_false, not_false_eq_true, and_true, true_and, and_false, false_and, or_true, true_or, or_false, false_or, and_self, or_self] at hT; exact hT) | (simp_all; done))
theorem k_X11_goes (l : Launch) : ix_Ct l yX11_goes cX11_goes 4 (some .int) 3 sh_X11_goes T_X11_goes := ix_ct (a_X11_goes l) rfl (by decide) (fun _ => Nat.le_of_ble_eq_true rfl) (fun x μ Q hok hT => r_X11_goes x.1 x.2.1 x.2.2 μ Q (ix_ok_at (hok (vr 10 x.1) (by simp [sh_X11_goes])) (by decide) (by decide)) hT)
def T_X11_settles : Nat × Int32 → ix_M → (ix_R → Prop) → Prop := fun (_, c) μ Q => ∃ C ds, c = nI C ∧ C < 16 ∧ TxtM (μ 113) 152 ds ∧ ∀ μ', Fx [119, 120] μ μ' → Q (some (vi (lawS ds (μ 113 (34 + C)) (μ 113 (18 + C)) (rem (μ 113 0) 20))), μ')
def sh_X11_settles (x : Nat × Int32) : List ix_V := [vr 10 x.1, vi x.2]
theorem mo_X11_settles (x : Nat × Int32) (μ : ix_M) (Q Q' : ix_R → Prop) (h : ∀ r, Q r → Q' r) (hT : T_X11_settles x μ Q) : T_X11_settles x μ Q' := by
  obtain ⟨a0, a1⟩ := x
  (obtain ⟨b, ds, h1, h2, h3, h4⟩ := hT; exact ⟨b, ds, h1, h2, h3, fun μ' x => h _ (h4 μ' x)⟩)
def oc_X11_settles (n : Nat) : ix_Op := fun k _ ls st μ => match st with
  | .inl a1 :: .inr (.inr (t0, a0)) :: r => t0 = 10 ∧ ix_cs r ≤ 8 ∧ T_X11_settles (a0, a1) μ (fun q => k (n, ls, q.1.toList ++ r, q.2))
  | _ => False
theorem oc_X11_settles_s {l : Launch} {cc : ByteArray} {nL : Nat} {own : String} {d : Nat} {rt : Option FieldType} {pc n : Nat} (h : ix_S l cc nL own d rt pc (ix_call 2 sh_X11_settles T_X11_settles n)) : ix_S l cc nL own d rt pc (oc_X11_settles n) := by
  refine h.by (fun k Q ls st μ h => ?_) (fun k k' Q ls st μ hk h => ?_)
  · unfold oc_X11_settles at h
    split at h
    · rename_i a1 t0 a0 r
      obtain ⟨rfl, h1, h2⟩ := h
      exact ⟨h1, (a0, a1), rfl, _, h2, fun r h => h⟩
    · exact h.elim
  · unfold oc_X11_settles at h ⊢
    split at h
    · obtain ⟨rfl, h1, h2⟩ := h
      exact ⟨rfl, h1, mo_X11_settles _ _ _ _ (fun q hq => hk _ hq) h2⟩
    · exact h.elim
def o_X11_settles : List (Nat × ix_Op) := [
  (0, ix_aload 0 1),
  (1, ix_push (vi 0) 2),
  (2, ix_aload 0 3),
  (3, ix_getr 10 20 (fun _ => 113) 6),
  (6, ix_push (vi 34) 8),
  (8, ix_iload 1 9),
  (9, ix_bin (fun x y => x + y) 10),
  (10, ix_iald 11),
  (11, ix_aload 0 12),
  (12, ix_getr 10 20 (fun _ => 113) 15),
  (15, ix_push (vi 18) 17),
  (17, ix_iload 1 18),
  (18, ix_bin (fun x y => x + y) 19),
  (19, ix_iald 20),
  (20, ix_aload 0 21),
  (21, ix_getr 10 20 (fun _ => 113) 24),
  (24, ix_push (vi 0) 25),
  (25, ix_iald 26),
  (26, ix_push (vi 20) 28),
  (28, ix_div (fun x y => x - x / y * y) 29),
  (29, oc_X11_given 32),
  (32, ix_iret)]
set_option maxRecDepth 20000 in
theorem a_X11_settles (l : Launch) : ix_AllS l cX11_settles 2 RX11 4 (some .int) o_X11_settles :=
  .cons (ix_s_aload_n dX11_settles_0 rfl) <|
  .cons (ix_s_iconst dX11_settles_1 (by decide +kernel)) <|
  .cons (ix_s_aload_n dX11_settles_2 rfl) <|
  .cons (ix_s_getr (j := 0) tu_X11 rfl (by decide) (by decide) tw_875 rfl ts_10_0_r dX11_settles_3) <|
  .cons (ix_s_bipush dX11_settles_6 (by decide +kernel)) <|
  .cons (ix_s_iload_n dX11_settles_8 rfl) <|
  .cons (ix_s_iadd dX11_settles_9) <|
  .cons (ix_s_iald dX11_settles_10) <|
  .cons (ix_s_aload_n dX11_settles_11 rfl) <|
  .cons (ix_s_getr (j := 0) tu_X11 rfl (by decide) (by decide) tw_875 rfl ts_10_0_r dX11_settles_12) <|
  .cons (ix_s_bipush dX11_settles_15 (by decide +kernel)) <|
  .cons (ix_s_iload_n dX11_settles_17 rfl) <|
  .cons (ix_s_iadd dX11_settles_18) <|
  .cons (ix_s_iald dX11_settles_19) <|
  .cons (ix_s_aload_n dX11_settles_20 rfl) <|
  .cons (ix_s_getr (j := 0) tu_X11 rfl (by decide) (by decide) tw_875 rfl ts_10_0_r dX11_settles_21) <|
  .cons (ix_s_iconst dX11_settles_24 (by decide +kernel)) <|
  .cons (ix_s_iald dX11_settles_25) <|
  .cons (ix_s_bipush dX11_settles_26 (by decide +kernel)) <|
  .cons (ix_s_irem dX11_settles_28) <|
  .cons (oc_X11_given_s (ix_s_callv (t := 10) (k_X11_given l) (by decide) (by decide) tw_1041 tw_12 tw_1038 tw_1040 tp_29 ⟨by decide, by decide, by decide +kernel⟩ (by decide) rfl rfl (fun _ => ⟨_, _, rfl, rfl⟩) dX11_settles_29)) <|
  .cons (ix_s_iret dX11_settles_32 rfl) <| .nil
theorem e_X11_settles_0 (Q : ix_R → Prop) (ls : ix_L) (st : List ix_V) (μ : ix_M) : ix_Ev o_X11_settles Q (0, ls, st, μ) = ix_aload 0 1 (ix_Ev o_X11_settles Q) Q ls st μ := ix_Ev.eq (a_X11_settles launch0) rfl ls st μ
theorem e_X11_settles_1 (Q : ix_R → Prop) (ls : ix_L) (st : List ix_V) (μ : ix_M) : ix_Ev o_X11_settles Q (1, ls, st, μ) = ix_push (vi 0) 2 (ix_Ev o_X11_settles Q) Q ls st μ := ix_Ev.eq (a_X11_settles launch0) rfl ls st μ
theorem e_X11_settles_2 (Q : ix_R → Prop) (ls : ix_L) (st : List ix_V) (μ : ix_M) : ix_Ev o_X11_settles Q (2, ls, st, μ) = ix_aload 0 3 (ix_Ev o_X11_settles Q) Q ls st μ := ix_Ev.eq (a_X11_settles launch0) rfl ls st μ
theorem e_X11_settles_3 (Q : ix_R → Prop) (ls : ix_L) (st : List ix_V) (μ : ix_M) : ix_Ev o_X11_settles Q (3, ls, st, μ) = ix_getr 10 20 (fun _ => 113) 6 (ix_Ev o_X11_settles Q) Q ls st μ := ix_Ev.eq (a_X11_settles launch0) rfl ls st μ
theorem e_X11_settles_6 (Q : ix_R → Prop) (ls : ix_L) (st : List ix_V) (μ : ix_M) : ix_Ev o_X11_settles Q (6, ls, st, μ) = ix_push (vi 34) 8 (ix_Ev o_X11_settles Q) Q ls st μ := ix_Ev.eq (a_X11_settles launch0) rfl ls st μ
theorem e_X11_settles_8 (Q : ix_R → Prop) (ls : ix_L) (st : List ix_V) (μ : ix_M) : ix_Ev o_X11_settles Q (8, ls, st, μ) = ix_iload 1 9 (ix_Ev o_X11_settles Q) Q ls st μ := ix_Ev.eq (a_X11_settles launch0) rfl ls st μ
theorem e_X11_settles_9 (Q : ix_R → Prop) (ls : ix_L) (st : List ix_V) (μ : ix_M) : ix_Ev o_X11_settles Q (9, ls, st, μ) = ix_bin (fun x y => x + y) 10 (ix_Ev o_X11_settles Q) Q ls st μ := ix_Ev.eq (a_X11_settles launch0) rfl ls st μ
theorem e_X11_settles_10 (Q : ix_R → Prop) (ls : ix_L) (st : List ix_V) (μ : ix_M) : ix_Ev o_X11_settles Q (10, ls, st, μ) = ix_iald 11 (ix_Ev o_X11_settles Q) Q ls st μ := ix_Ev.eq (a_X11_settles launch0) rfl ls st μ
theorem e_X11_settles_11 (Q : ix_R → Prop) (ls : ix_L) (st : List ix_V) (μ : ix_M) : ix_Ev o_X11_settles Q (11, ls, st, μ) = ix_aload 0 12 (ix_Ev o_X11_settles Q) Q ls st μ := ix_Ev.eq (a_X11_settles launch0) rfl ls st μ
theorem e_X11_settles_12 (Q : ix_R → Prop) (ls : ix_L) (st : List ix_V) (μ : ix_M) : ix_Ev o_X11_settles Q (12, ls, st, μ) = ix_getr 10 20 (fun _ => 113) 15 (ix_Ev o_X11_settles Q) Q ls st μ := ix_Ev.eq (a_X11_settles launch0) rfl ls st μ
theorem e_X11_settles_15 (Q : ix_R → Prop) (ls : ix_L) (st : List ix_V) (μ : ix_M) : ix_Ev o_X11_settles Q (15, ls, st, μ) = ix_push (vi 18) 17 (ix_Ev o_X11_settles Q) Q ls st μ := ix_Ev.eq (a_X11_settles launch0) rfl ls st μ
theorem e_X11_settles_17 (Q : ix_R → Prop) (ls : ix_L) (st : List ix_V) (μ : ix_M) : ix_Ev o_X11_settles Q (17, ls, st, μ) = ix_iload 1 18 (ix_Ev o_X11_settles Q) Q ls st μ := ix_Ev.eq (a_X11_settles launch0) rfl ls st μ
theorem e_X11_settles_18 (Q : ix_R → Prop) (ls : ix_L) (st : List ix_V) (μ : ix_M) : ix_Ev o_X11_settles Q (18, ls, st, μ) = ix_bin (fun x y => x + y) 19 (ix_Ev o_X11_settles Q) Q ls st μ := ix_Ev.eq (a_X11_settles launch0) rfl ls st μ
theorem e_X11_settles_19 (Q : ix_R → Prop) (ls : ix_L) (st : List ix_V) (μ : ix_M) : ix_Ev o_X11_settles Q (19, ls, st, μ) = ix_iald 20 (ix_Ev o_X11_settles Q) Q ls st μ := ix_Ev.eq (a_X11_settles launch0) rfl ls st μ
theorem e_X11_settles_20 (Q : ix_R → Prop) (ls : ix_L) (st : List ix_V) (μ : ix_M) : ix_Ev o_X11_settles Q (20, ls, st, μ) = ix_aload 0 21 (ix_Ev o_X11_settles Q) Q ls st μ := ix_Ev.eq (a_X11_settles launch0) rfl ls st μ
theorem e_X11_settles_21 (Q : ix_R → Prop) (ls : ix_L) (st : List ix_V) (μ : ix_M) : ix_Ev o_X11_settles Q (21, ls, st, μ) = ix_getr 10 20 (fun _ => 113) 24 (ix_Ev o_X11_settles Q) Q ls st μ := ix_Ev.eq (a_X11_settles launch0) rfl ls st μ
theorem e_X11_settles_24 (Q : ix_R → Prop) (ls : ix_L) (st : List ix_V) (μ : ix_M) : ix_Ev o_X11_settles Q (24, ls, st, μ) = ix_push (vi 0) 25 (ix_Ev o_X11_settles Q) Q ls st μ := ix_Ev.eq (a_X11_settles launch0) rfl ls st μ
theorem e_X11_settles_25 (Q : ix_R → Prop) (ls : ix_L) (st : List ix_V) (μ : ix_M) : ix_Ev o_X11_settles Q (25, ls, st, μ) = ix_iald 26 (ix_Ev o_X11_settles Q) Q ls st μ := ix_Ev.eq (a_X11_settles launch0) rfl ls st μ
theorem e_X11_settles_26 (Q : ix_R → Prop) (ls : ix_L) (st : List ix_V) (μ : ix_M) : ix_Ev o_X11_settles Q (26, ls, st, μ) = ix_push (vi 20) 28 (ix_Ev o_X11_settles Q) Q ls st μ := ix_Ev.eq (a_X11_settles launch0) rfl ls st μ
theorem e_X11_settles_28 (Q : ix_R → Prop) (ls : ix_L) (st : List ix_V) (μ : ix_M) : ix_Ev o_X11_settles Q (28, ls, st, μ) = ix_div (fun x y => x - x / y * y) 29 (ix_Ev o_X11_settles Q) Q ls st μ := ix_Ev.eq (a_X11_settles launch0) rfl ls st μ
theorem e_X11_settles_29 (Q : ix_R → Prop) (ls : ix_L) (st : List ix_V) (μ : ix_M) : ix_Ev o_X11_settles Q (29, ls, st, μ) = oc_X11_given 32 (ix_Ev o_X11_settles Q) Q ls st μ := ix_Ev.eq (a_X11_settles launch0) rfl ls st μ
theorem e_X11_settles_32 (Q : ix_R → Prop) (ls : ix_L) (st : List ix_V) (μ : ix_M) : ix_Ev o_X11_settles Q (32, ls, st, μ) = ix_iret (ix_Ev o_X11_settles Q) Q ls st μ := ix_Ev.eq (a_X11_settles launch0) rfl ls st μ
theorem r_X11_settles (o : Nat) (c : Int32) (μ : ix_M) (Q : ix_R → Prop) (ok_o : o < ix_N ∧ ix_tag o = 10) (hT : T_X11_settles (o, c) μ Q) : ix_Ev o_X11_settles Q (0, [some (vr 10 o), some (vi c)], [], μ) := by
  obtain rfl := ok_10 o ok_o.1 ok_o.2
  obtain ⟨C, ds, rfl, hC, hM, hT⟩ := hT
  have h34 : 34 + nI C = nI (34 + C) := nI_add 34 C
  have h18 : 18 + nI C = nI (18 + C) := nI_add 18 C
  have i34 : vp_in (nI (34 + C)) 256 := vp_in_nI (by omega) (by decide)
  have i18 : vp_in (nI (18 + C)) 256 := vp_in_nI (by omega) (by decide)
  have c34 : (nI (34 + C)).toNatClampNeg = 34 + C := nI_clamp (by omega)
  have c18 : (nI (18 + C)).toNatClampNeg = 18 + C := nI_clamp (by omega)
  simp (decide := true) only [e_X11_settles_0, e_X11_settles_1, e_X11_settles_2, e_X11_settles_3, e_X11_settles_6, e_X11_settles_8, e_X11_settles_9, e_X11_settles_10, e_X11_settles_11, e_X11_settles_12, e_X11_settles_15, e_X11_settles_17, e_X11_settles_18, e_X11_settles_19, e_X11_settles_20, e_X11_settles_21, e_X11_settles_24, e_X11_settles_25, e_X11_settles_26, e_X11_settles_28, e_X11_settles_29, e_X11_settles_32, vi, vl, vr, oc_X11_given, T_X11_given, ix_push, ix_iload, ix_lload, ix_aload, ix_istore, ix_astore, ix_iinc, ix_bin, ix_div, ix_un, ix_i2l, ix_l2i, ix_lbin, ix_lsh, ix_lcmp, ix_dup, ix_dup2, ix_pop, ix_if, ix_cmp, ix_goto, ix_switch, ix_sw, ix_iret, ix_zret, ix_vret, ix_aret, ix_geti, ix_getr, ix_puti, ix_putz, ix_puts, ix_gets, ix_iald, ix_iast, ix_alen, ix_aald, ix_gval, ix_gcod, ix_bald, ix_blen, ix_sald, ix_nret, ix_math2, ix_math1, ix_acopy, ml_113, ml_114, ml_115, ml_116, ml_118, ml_119, ml_120, ml_121, ml_122, ml_123, ml_124, ml_125, ml_126, mv_0, mv_1, mv_2, mv_3, mv_4, mv_5, mB_or, Nat.add_assoc, Int32.reduceLT, Int32.reduceLE, Int32.reduceToNatClampNeg, Int32.reduceSub, Int32.reduceAdd, Nat.reduceAdd, Nat.reduceLeDiff, true_or, or_true, or_false, false_or, not_false_eq_true, not_true_eq_false, false_implies, true_implies, implies_true, and_self, mB_0, mB_01, Classical.not_not, Nat.zero_le, List.getElem?_cons_zero, List.getElem?_cons_succ, List.set_cons_zero, List.set_cons_succ, ix_nl, ix_cs, true_and, and_true, Option.toList_some, Option.toList_none, List.cons_append, List.nil_append, h34, h18, i34, i18, c34, c18]
  exact ⟨0, ds, rfl, by decide, hM, hT⟩
theorem k_X11_settles (l : Launch) : ix_Ct l yX11_settles cX11_settles 2 (some .int) 4 sh_X11_settles T_X11_settles := ix_ct (a_X11_settles l) rfl (by decide) (fun _ => Nat.le_of_ble_eq_true rfl) (fun x μ Q hok hT => r_X11_settles x.1 x.2 μ Q (ix_ok_at (hok (vr 10 x.1) (by simp [sh_X11_settles])) (by decide) (by decide)) hT)
theorem mLight_eq (mi dk : Int32) : (if rem mi 20 < dk then (0 : Int32) else 1) = mLight mi dk := by
  unfold mLight
  by_cases h : rem mi 20 < dk
  · rw [if_pos h, if_neg (Int32.not_le.mpr h)]
  · rw [if_neg h, if_pos (Int32.not_lt.mp h)]
def T_X11_lost : Nat × Int32 → ix_M → (ix_R → Prop) → Prop := fun (_, i) μ Q => ∃ b dl, i = nI b ∧ b < 8 ∧ TxtM (μ 113) 204 dl ∧ ∀ μ', Fx [119, 120] μ μ' → Q (some (vi (lawL dl (mLeaks (μ 113 (50 + 4 * b)) (μ 113 (51 + 4 * b))) (μ 113 (53 + 4 * b)) (mLight (μ 113 0) (μ 113 2)))), μ')
def sh_X11_lost (x : Nat × Int32) : List ix_V := [vr 10 x.1, vi x.2]
theorem mo_X11_lost (x : Nat × Int32) (μ : ix_M) (Q Q' : ix_R → Prop) (h : ∀ r, Q r → Q' r) (hT : T_X11_lost x μ Q) : T_X11_lost x μ Q' := by
  obtain ⟨a0, a1⟩ := x
  (obtain ⟨b, ds, h1, h2, h3, h4⟩ := hT; exact ⟨b, ds, h1, h2, h3, fun μ' x => h _ (h4 μ' x)⟩)
def oc_X11_lost (n : Nat) : ix_Op := fun k _ ls st μ => match st with
  | .inl a1 :: .inr (.inr (t0, a0)) :: r => t0 = 10 ∧ ix_cs r ≤ 8 ∧ T_X11_lost (a0, a1) μ (fun q => k (n, ls, q.1.toList ++ r, q.2))
  | _ => False
theorem oc_X11_lost_s {l : Launch} {cc : ByteArray} {nL : Nat} {own : String} {d : Nat} {rt : Option FieldType} {pc n : Nat} (h : ix_S l cc nL own d rt pc (ix_call 2 sh_X11_lost T_X11_lost n)) : ix_S l cc nL own d rt pc (oc_X11_lost n) := by
  refine h.by (fun k Q ls st μ h => ?_) (fun k k' Q ls st μ hk h => ?_)
  · unfold oc_X11_lost at h
    split at h
    · rename_i a1 t0 a0 r
      obtain ⟨rfl, h1, h2⟩ := h
      exact ⟨h1, (a0, a1), rfl, _, h2, fun r h => h⟩
    · exact h.elim
  · unfold oc_X11_lost at h ⊢
    split at h
    · obtain ⟨rfl, h1, h2⟩ := h
      exact ⟨rfl, h1, mo_X11_lost _ _ _ _ (fun q hq => hk _ hq) h2⟩
    · exact h.elim
def o_X11_lost : List (Nat × ix_Op) := [
  (0, ix_aload 0 1),
  (1, ix_push (vi 1) 2),
  (2, ix_aload 0 3),
  (3, ix_iload 1 4),
  (4, oc_X11_leaks 7),
  (7, ix_aload 0 8),
  (8, ix_iload 1 9),
  (9, ix_push (vi 3) 10),
  (10, oc_X11_boatIs 13),
  (13, ix_aload 0 14),
  (14, oc_X11_isDark 17),
  (17, ix_if (fun x => x = 0) 24 20),
  (20, ix_push (vi 0) 21),
  (21, ix_goto 25),
  (24, ix_push (vi 1) 25),
  (25, oc_X11_given 28),
  (28, ix_iret)]
set_option maxRecDepth 20000 in
theorem a_X11_lost (l : Launch) : ix_AllS l cX11_lost 2 RX11 4 (some .int) o_X11_lost :=
  .cons (ix_s_aload_n dX11_lost_0 rfl) <|
  .cons (ix_s_iconst dX11_lost_1 (by decide +kernel)) <|
  .cons (ix_s_aload_n dX11_lost_2 rfl) <|
  .cons (ix_s_iload_n dX11_lost_3 rfl) <|
  .cons (oc_X11_leaks_s (ix_s_callv (t := 10) (k_X11_leaks l) (by decide) (by decide) tw_1151 tw_12 tw_1148 tw_1150 tp_41 ⟨by decide, by decide, by decide +kernel⟩ (by decide) rfl rfl (fun _ => ⟨_, _, rfl, rfl⟩) dX11_lost_4)) <|
  .cons (ix_s_aload_n dX11_lost_7 rfl) <|
  .cons (ix_s_iload_n dX11_lost_8 rfl) <|
  .cons (ix_s_iconst dX11_lost_9 (by decide +kernel)) <|
  .cons (oc_X11_boatIs_s (ix_s_callv (t := 10) (k_X11_boatIs l) (by decide) (by decide) tw_1083 tw_12 tw_1080 tw_1082 tp_34 ⟨by decide, by decide, by decide +kernel⟩ (by decide) rfl rfl (fun _ => ⟨_, _, rfl, rfl⟩) dX11_lost_10)) <|
  .cons (ix_s_aload_n dX11_lost_13 rfl) <|
  .cons (oc_X11_isDark_s (ix_s_callv (t := 10) (k_X11_isDark l) (by decide) (by decide) tw_1159 tw_12 tw_1156 tw_1158 tp_43 ⟨by decide, by decide, by decide +kernel⟩ (by decide) rfl rfl (fun _ => ⟨_, _, rfl, rfl⟩) dX11_lost_14)) <|
  .cons (ix_s_if_eq dX11_lost_17 (by decide)) <|
  .cons (ix_s_iconst dX11_lost_20 (by decide +kernel)) <|
  .cons (ix_s_goto dX11_lost_21 (by decide)) <|
  .cons (ix_s_iconst dX11_lost_24 (by decide +kernel)) <|
  .cons (oc_X11_given_s (ix_s_callv (t := 10) (k_X11_given l) (by decide) (by decide) tw_1041 tw_12 tw_1038 tw_1040 tp_29 ⟨by decide, by decide, by decide +kernel⟩ (by decide) rfl rfl (fun _ => ⟨_, _, rfl, rfl⟩) dX11_lost_25)) <|
  .cons (ix_s_iret dX11_lost_28 rfl) <| .nil
theorem e_X11_lost_0 (Q : ix_R → Prop) (ls : ix_L) (st : List ix_V) (μ : ix_M) : ix_Ev o_X11_lost Q (0, ls, st, μ) = ix_aload 0 1 (ix_Ev o_X11_lost Q) Q ls st μ := ix_Ev.eq (a_X11_lost launch0) rfl ls st μ
theorem e_X11_lost_1 (Q : ix_R → Prop) (ls : ix_L) (st : List ix_V) (μ : ix_M) : ix_Ev o_X11_lost Q (1, ls, st, μ) = ix_push (vi 1) 2 (ix_Ev o_X11_lost Q) Q ls st μ := ix_Ev.eq (a_X11_lost launch0) rfl ls st μ
theorem e_X11_lost_2 (Q : ix_R → Prop) (ls : ix_L) (st : List ix_V) (μ : ix_M) : ix_Ev o_X11_lost Q (2, ls, st, μ) = ix_aload 0 3 (ix_Ev o_X11_lost Q) Q ls st μ := ix_Ev.eq (a_X11_lost launch0) rfl ls st μ
theorem e_X11_lost_3 (Q : ix_R → Prop) (ls : ix_L) (st : List ix_V) (μ : ix_M) : ix_Ev o_X11_lost Q (3, ls, st, μ) = ix_iload 1 4 (ix_Ev o_X11_lost Q) Q ls st μ := ix_Ev.eq (a_X11_lost launch0) rfl ls st μ
theorem e_X11_lost_4 (Q : ix_R → Prop) (ls : ix_L) (st : List ix_V) (μ : ix_M) : ix_Ev o_X11_lost Q (4, ls, st, μ) = oc_X11_leaks 7 (ix_Ev o_X11_lost Q) Q ls st μ := ix_Ev.eq (a_X11_lost launch0) rfl ls st μ
theorem e_X11_lost_7 (Q : ix_R → Prop) (ls : ix_L) (st : List ix_V) (μ : ix_M) : ix_Ev o_X11_lost Q (7, ls, st, μ) = ix_aload 0 8 (ix_Ev o_X11_lost Q) Q ls st μ := ix_Ev.eq (a_X11_lost launch0) rfl ls st μ
theorem e_X11_lost_8 (Q : ix_R → Prop) (ls : ix_L) (st : List ix_V) (μ : ix_M) : ix_Ev o_X11_lost Q (8, ls, st, μ) = ix_iload 1 9 (ix_Ev o_X11_lost Q) Q ls st μ := ix_Ev.eq (a_X11_lost launch0) rfl ls st μ
theorem e_X11_lost_9 (Q : ix_R → Prop) (ls : ix_L) (st : List ix_V) (μ : ix_M) : ix_Ev o_X11_lost Q (9, ls, st, μ) = ix_push (vi 3) 10 (ix_Ev o_X11_lost Q) Q ls st μ := ix_Ev.eq (a_X11_lost launch0) rfl ls st μ
theorem e_X11_lost_10 (Q : ix_R → Prop) (ls : ix_L) (st : List ix_V) (μ : ix_M) : ix_Ev o_X11_lost Q (10, ls, st, μ) = oc_X11_boatIs 13 (ix_Ev o_X11_lost Q) Q ls st μ := ix_Ev.eq (a_X11_lost launch0) rfl ls st μ
theorem e_X11_lost_13 (Q : ix_R → Prop) (ls : ix_L) (st : List ix_V) (μ : ix_M) : ix_Ev o_X11_lost Q (13, ls, st, μ) = ix_aload 0 14 (ix_Ev o_X11_lost Q) Q ls st μ := ix_Ev.eq (a_X11_lost launch0) rfl ls st μ
theorem e_X11_lost_14 (Q : ix_R → Prop) (ls : ix_L) (st : List ix_V) (μ : ix_M) : ix_Ev o_X11_lost Q (14, ls, st, μ) = oc_X11_isDark 17 (ix_Ev o_X11_lost Q) Q ls st μ := ix_Ev.eq (a_X11_lost launch0) rfl ls st μ
theorem e_X11_lost_17 (Q : ix_R → Prop) (ls : ix_L) (st : List ix_V) (μ : ix_M) : ix_Ev o_X11_lost Q (17, ls, st, μ) = ix_if (fun x => x = 0) 24 20 (ix_Ev o_X11_lost Q) Q ls st μ := ix_Ev.eq (a_X11_lost launch0) rfl ls st μ
theorem e_X11_lost_20 (Q : ix_R → Prop) (ls : ix_L) (st : List ix_V) (μ : ix_M) : ix_Ev o_X11_lost Q (20, ls, st, μ) = ix_push (vi 0) 21 (ix_Ev o_X11_lost Q) Q ls st μ := ix_Ev.eq (a_X11_lost launch0) rfl ls st μ
theorem e_X11_lost_21 (Q : ix_R → Prop) (ls : ix_L) (st : List ix_V) (μ : ix_M) : ix_Ev o_X11_lost Q (21, ls, st, μ) = ix_goto 25 (ix_Ev o_X11_lost Q) Q ls st μ := ix_Ev.eq (a_X11_lost launch0) rfl ls st μ
theorem e_X11_lost_24 (Q : ix_R → Prop) (ls : ix_L) (st : List ix_V) (μ : ix_M) : ix_Ev o_X11_lost Q (24, ls, st, μ) = ix_push (vi 1) 25 (ix_Ev o_X11_lost Q) Q ls st μ := ix_Ev.eq (a_X11_lost launch0) rfl ls st μ
theorem e_X11_lost_25 (Q : ix_R → Prop) (ls : ix_L) (st : List ix_V) (μ : ix_M) : ix_Ev o_X11_lost Q (25, ls, st, μ) = oc_X11_given 28 (ix_Ev o_X11_lost Q) Q ls st μ := ix_Ev.eq (a_X11_lost launch0) rfl ls st μ
theorem e_X11_lost_28 (Q : ix_R → Prop) (ls : ix_L) (st : List ix_V) (μ : ix_M) : ix_Ev o_X11_lost Q (28, ls, st, μ) = ix_iret (ix_Ev o_X11_lost Q) Q ls st μ := ix_Ev.eq (a_X11_lost launch0) rfl ls st μ
theorem r_X11_lost (o : Nat) (i : Int32) (μ : ix_M) (Q : ix_R → Prop) (ok_o : o < ix_N ∧ ix_tag o = 10) (hT : T_X11_lost (o, i) μ Q) : ix_Ev o_X11_lost Q (0, [some (vr 10 o), some (vi i)], [], μ) := by
  obtain rfl := ok_10 o ok_o.1 ok_o.2
  obtain ⟨b, dl, rfl, hb, hM, hT⟩ := hT
  have hx := bx b hb
  simp (decide := true) only [e_X11_lost_0, e_X11_lost_1, e_X11_lost_2, e_X11_lost_3, e_X11_lost_4, e_X11_lost_7, e_X11_lost_8, e_X11_lost_9, e_X11_lost_10, e_X11_lost_13, e_X11_lost_14, e_X11_lost_17, e_X11_lost_20, e_X11_lost_21, e_X11_lost_24, e_X11_lost_25, e_X11_lost_28, vi, vl, vr, oc_X11_boatIs, T_X11_boatIs, oc_X11_given, T_X11_given, oc_X11_isDark, T_X11_isDark, oc_X11_leaks, T_X11_leaks, ix_push, ix_iload, ix_lload, ix_aload, ix_istore, ix_astore, ix_iinc, ix_bin, ix_div, ix_un, ix_i2l, ix_l2i, ix_lbin, ix_lsh, ix_lcmp, ix_dup, ix_dup2, ix_pop, ix_if, ix_cmp, ix_goto, ix_switch, ix_sw, ix_iret, ix_zret, ix_vret, ix_aret, ix_geti, ix_getr, ix_puti, ix_putz, ix_puts, ix_gets, ix_iald, ix_iast, ix_alen, ix_aald, ix_gval, ix_gcod, ix_bald, ix_blen, ix_sald, ix_nret, ix_math2, ix_math1, ix_acopy, ml_113, ml_114, ml_115, ml_116, ml_118, ml_119, ml_120, ml_121, ml_122, ml_123, ml_124, ml_125, ml_126, mv_0, mv_1, mv_2, mv_3, mv_4, mv_5, mB_or, Nat.add_assoc, Int32.reduceLT, Int32.reduceLE, Int32.reduceToNatClampNeg, Int32.reduceSub, Int32.reduceAdd, Nat.reduceAdd, Nat.reduceLeDiff, true_or, or_true, or_false, false_or, not_false_eq_true, not_true_eq_false, false_implies, true_implies, implies_true, and_self, mB_0, mB_01, Classical.not_not, Nat.zero_le, List.getElem?_cons_zero, List.getElem?_cons_succ, List.set_cons_zero, List.set_cons_succ, ix_nl, ix_cs, true_and, and_true, Option.toList_some, Option.toList_none, List.cons_append, List.nil_append, hx]
  rw [← mLight_eq] at hT
  refine ⟨b, rfl, hb, fun z => ⟨1, dl, rfl, by decide, hM, fun μ' h => ?_⟩, fun z => ⟨1, dl, rfl, by decide, hM, fun μ' h => ?_⟩⟩
  · have := hT μ' h
    simp only [z, if_true, if_false] at this
    exact this
  · have := hT μ' h
    simp only [z, if_true, if_false] at this
    exact this
theorem k_X11_lost (l : Launch) : ix_Ct l yX11_lost cX11_lost 2 (some .int) 4 sh_X11_lost T_X11_lost := ix_ct (a_X11_lost l) rfl (by decide) (fun _ => Nat.le_of_ble_eq_true rfl) (fun x μ Q hok hT => r_X11_lost x.1 x.2 μ Q (ix_ok_at (hok (vr 10 x.1) (by simp [sh_X11_lost])) (by decide) (by decide)) hT)
def T_X11_had : Nat → ix_M → (ix_R → Prop) → Prop := fun _ μ Q => ∃ N, N ≤ 8 ∧ μ 113 1 = nI N ∧ Q (some (vi (mSum (fun b => μ 113 (53 + 4 * b)) N)), μ)
def sh_X11_had (x : Nat) : List ix_V := [vr 10 x]
theorem mo_X11_had (x : Nat) (μ : ix_M) (Q Q' : ix_R → Prop) (h : ∀ r, Q r → Q' r) (hT : T_X11_had x μ Q) : T_X11_had x μ Q' := by
  (obtain ⟨b, h1, h2, h3⟩ := hT; exact ⟨b, h1, h2, h _ h3⟩)
def oc_X11_had (n : Nat) : ix_Op := fun k _ ls st μ => match st with
  | .inr (.inr (t0, a0)) :: r => t0 = 10 ∧ ix_cs r ≤ 8 ∧ T_X11_had a0 μ (fun q => k (n, ls, q.1.toList ++ r, q.2))
  | _ => False
theorem oc_X11_had_s {l : Launch} {cc : ByteArray} {nL : Nat} {own : String} {d : Nat} {rt : Option FieldType} {pc n : Nat} (h : ix_S l cc nL own d rt pc (ix_call 1 sh_X11_had T_X11_had n)) : ix_S l cc nL own d rt pc (oc_X11_had n) := by
  refine h.by (fun k Q ls st μ h => ?_) (fun k k' Q ls st μ hk h => ?_)
  · unfold oc_X11_had at h
    split at h
    · rename_i t0 a0 r
      obtain ⟨rfl, h1, h2⟩ := h
      exact ⟨h1, a0, rfl, _, h2, fun r h => h⟩
    · exact h.elim
  · unfold oc_X11_had at h ⊢
    split at h
    · obtain ⟨rfl, h1, h2⟩ := h
      exact ⟨rfl, h1, mo_X11_had _ _ _ _ (fun q hq => hk _ hq) h2⟩
    · exact h.elim
def o_X11_had : List (Nat × ix_Op) := [
  (0, ix_push (vi 0) 1),
  (1, ix_istore 1 2),
  (2, ix_push (vi 0) 3),
  (3, ix_istore 2 4),
  (4, ix_iload 2 5),
  (5, ix_aload 0 6),
  (6, ix_getr 10 20 (fun _ => 113) 9),
  (9, ix_push (vi 1) 10),
  (10, ix_iald 11),
  (11, ix_cmp (fun x y => y ≤ x) 29 14),
  (14, ix_iload 1 15),
  (15, ix_aload 0 16),
  (16, ix_iload 2 17),
  (17, ix_push (vi 3) 18),
  (18, oc_X11_boatIs 21),
  (21, ix_bin (fun x y => x + y) 22),
  (22, ix_istore 1 23),
  (23, ix_iinc 2 1 26),
  (26, ix_goto 4),
  (29, ix_iload 1 30),
  (30, ix_iret)]
set_option maxRecDepth 20000 in
theorem a_X11_had (l : Launch) : ix_AllS l cX11_had 3 RX11 3 (some .int) o_X11_had :=
  .cons (ix_s_iconst dX11_had_0 (by decide +kernel)) <|
  .cons (ix_s_istore_n dX11_had_1 rfl (by decide)) <|
  .cons (ix_s_iconst dX11_had_2 (by decide +kernel)) <|
  .cons (ix_s_istore_n dX11_had_3 rfl (by decide)) <|
  .cons (ix_s_iload_n dX11_had_4 rfl) <|
  .cons (ix_s_aload_n dX11_had_5 rfl) <|
  .cons (ix_s_getr (j := 0) tu_X11 rfl (by decide) (by decide) tw_875 rfl ts_10_0_r dX11_had_6) <|
  .cons (ix_s_iconst dX11_had_9 (by decide +kernel)) <|
  .cons (ix_s_iald dX11_had_10) <|
  .cons (ix_s_cmp_ge dX11_had_11 (by decide)) <|
  .cons (ix_s_iload_n dX11_had_14 rfl) <|
  .cons (ix_s_aload_n dX11_had_15 rfl) <|
  .cons (ix_s_iload_n dX11_had_16 rfl) <|
  .cons (ix_s_iconst dX11_had_17 (by decide +kernel)) <|
  .cons (oc_X11_boatIs_s (ix_s_callv (t := 10) (k_X11_boatIs l) (by decide) (by decide) tw_1083 tw_12 tw_1080 tw_1082 tp_34 ⟨by decide, by decide, by decide +kernel⟩ (by decide) rfl rfl (fun _ => ⟨_, _, rfl, rfl⟩) dX11_had_18)) <|
  .cons (ix_s_iadd dX11_had_21) <|
  .cons (ix_s_istore_n dX11_had_22 rfl (by decide)) <|
  .cons (ix_s_iinc dX11_had_23 (by decide +kernel) (by decide)) <|
  .cons (ix_s_goto dX11_had_26 (by decide)) <|
  .cons (ix_s_iload_n dX11_had_29 rfl) <|
  .cons (ix_s_iret dX11_had_30 rfl) <| .nil
theorem e_X11_had_0 (Q : ix_R → Prop) (ls : ix_L) (st : List ix_V) (μ : ix_M) : ix_Ev o_X11_had Q (0, ls, st, μ) = ix_push (vi 0) 1 (ix_Ev o_X11_had Q) Q ls st μ := ix_Ev.eq (a_X11_had launch0) rfl ls st μ
theorem e_X11_had_1 (Q : ix_R → Prop) (ls : ix_L) (st : List ix_V) (μ : ix_M) : ix_Ev o_X11_had Q (1, ls, st, μ) = ix_istore 1 2 (ix_Ev o_X11_had Q) Q ls st μ := ix_Ev.eq (a_X11_had launch0) rfl ls st μ
theorem e_X11_had_2 (Q : ix_R → Prop) (ls : ix_L) (st : List ix_V) (μ : ix_M) : ix_Ev o_X11_had Q (2, ls, st, μ) = ix_push (vi 0) 3 (ix_Ev o_X11_had Q) Q ls st μ := ix_Ev.eq (a_X11_had launch0) rfl ls st μ
theorem e_X11_had_3 (Q : ix_R → Prop) (ls : ix_L) (st : List ix_V) (μ : ix_M) : ix_Ev o_X11_had Q (3, ls, st, μ) = ix_istore 2 4 (ix_Ev o_X11_had Q) Q ls st μ := ix_Ev.eq (a_X11_had launch0) rfl ls st μ
theorem e_X11_had_4 (Q : ix_R → Prop) (ls : ix_L) (st : List ix_V) (μ : ix_M) : ix_Ev o_X11_had Q (4, ls, st, μ) = ix_iload 2 5 (ix_Ev o_X11_had Q) Q ls st μ := ix_Ev.eq (a_X11_had launch0) rfl ls st μ
theorem e_X11_had_5 (Q : ix_R → Prop) (ls : ix_L) (st : List ix_V) (μ : ix_M) : ix_Ev o_X11_had Q (5, ls, st, μ) = ix_aload 0 6 (ix_Ev o_X11_had Q) Q ls st μ := ix_Ev.eq (a_X11_had launch0) rfl ls st μ
theorem e_X11_had_6 (Q : ix_R → Prop) (ls : ix_L) (st : List ix_V) (μ : ix_M) : ix_Ev o_X11_had Q (6, ls, st, μ) = ix_getr 10 20 (fun _ => 113) 9 (ix_Ev o_X11_had Q) Q ls st μ := ix_Ev.eq (a_X11_had launch0) rfl ls st μ
theorem e_X11_had_9 (Q : ix_R → Prop) (ls : ix_L) (st : List ix_V) (μ : ix_M) : ix_Ev o_X11_had Q (9, ls, st, μ) = ix_push (vi 1) 10 (ix_Ev o_X11_had Q) Q ls st μ := ix_Ev.eq (a_X11_had launch0) rfl ls st μ
theorem e_X11_had_10 (Q : ix_R → Prop) (ls : ix_L) (st : List ix_V) (μ : ix_M) : ix_Ev o_X11_had Q (10, ls, st, μ) = ix_iald 11 (ix_Ev o_X11_had Q) Q ls st μ := ix_Ev.eq (a_X11_had launch0) rfl ls st μ
theorem e_X11_had_11 (Q : ix_R → Prop) (ls : ix_L) (st : List ix_V) (μ : ix_M) : ix_Ev o_X11_had Q (11, ls, st, μ) = ix_cmp (fun x y => y ≤ x) 29 14 (ix_Ev o_X11_had Q) Q ls st μ := ix_Ev.eq (a_X11_had launch0) rfl ls st μ
theorem e_X11_had_14 (Q : ix_R → Prop) (ls : ix_L) (st : List ix_V) (μ : ix_M) : ix_Ev o_X11_had Q (14, ls, st, μ) = ix_iload 1 15 (ix_Ev o_X11_had Q) Q ls st μ := ix_Ev.eq (a_X11_had launch0) rfl ls st μ
theorem e_X11_had_15 (Q : ix_R → Prop) (ls : ix_L) (st : List ix_V) (μ : ix_M) : ix_Ev o_X11_had Q (15, ls, st, μ) = ix_aload 0 16 (ix_Ev o_X11_had Q) Q ls st μ := ix_Ev.eq (a_X11_had launch0) rfl ls st μ
theorem e_X11_had_16 (Q : ix_R → Prop) (ls : ix_L) (st : List ix_V) (μ : ix_M) : ix_Ev o_X11_had Q (16, ls, st, μ) = ix_iload 2 17 (ix_Ev o_X11_had Q) Q ls st μ := ix_Ev.eq (a_X11_had launch0) rfl ls st μ
theorem e_X11_had_17 (Q : ix_R → Prop) (ls : ix_L) (st : List ix_V) (μ : ix_M) : ix_Ev o_X11_had Q (17, ls, st, μ) = ix_push (vi 3) 18 (ix_Ev o_X11_had Q) Q ls st μ := ix_Ev.eq (a_X11_had launch0) rfl ls st μ
theorem e_X11_had_18 (Q : ix_R → Prop) (ls : ix_L) (st : List ix_V) (μ : ix_M) : ix_Ev o_X11_had Q (18, ls, st, μ) = oc_X11_boatIs 21 (ix_Ev o_X11_had Q) Q ls st μ := ix_Ev.eq (a_X11_had launch0) rfl ls st μ
theorem e_X11_had_21 (Q : ix_R → Prop) (ls : ix_L) (st : List ix_V) (μ : ix_M) : ix_Ev o_X11_had Q (21, ls, st, μ) = ix_bin (fun x y => x + y) 22 (ix_Ev o_X11_had Q) Q ls st μ := ix_Ev.eq (a_X11_had launch0) rfl ls st μ
theorem e_X11_had_22 (Q : ix_R → Prop) (ls : ix_L) (st : List ix_V) (μ : ix_M) : ix_Ev o_X11_had Q (22, ls, st, μ) = ix_istore 1 23 (ix_Ev o_X11_had Q) Q ls st μ := ix_Ev.eq (a_X11_had launch0) rfl ls st μ
theorem e_X11_had_23 (Q : ix_R → Prop) (ls : ix_L) (st : List ix_V) (μ : ix_M) : ix_Ev o_X11_had Q (23, ls, st, μ) = ix_iinc 2 1 26 (ix_Ev o_X11_had Q) Q ls st μ := ix_Ev.eq (a_X11_had launch0) rfl ls st μ
theorem e_X11_had_26 (Q : ix_R → Prop) (ls : ix_L) (st : List ix_V) (μ : ix_M) : ix_Ev o_X11_had Q (26, ls, st, μ) = ix_goto 4 (ix_Ev o_X11_had Q) Q ls st μ := ix_Ev.eq (a_X11_had launch0) rfl ls st μ
theorem e_X11_had_29 (Q : ix_R → Prop) (ls : ix_L) (st : List ix_V) (μ : ix_M) : ix_Ev o_X11_had Q (29, ls, st, μ) = ix_iload 1 30 (ix_Ev o_X11_had Q) Q ls st μ := ix_Ev.eq (a_X11_had launch0) rfl ls st μ
theorem e_X11_had_30 (Q : ix_R → Prop) (ls : ix_L) (st : List ix_V) (μ : ix_M) : ix_Ev o_X11_had Q (30, ls, st, μ) = ix_iret (ix_Ev o_X11_had Q) Q ls st μ := ix_Ev.eq (a_X11_had launch0) rfl ls st μ
theorem l_X11_had {N : Nat} (hN : N ≤ 8) {μ : ix_M} (hn : μ 113 1 = nI N) {Q : ix_R → Prop} (hQ : Q (some (vi (mSum (fun b => μ 113 (53 + 4 * b)) N)), μ)) : ∀ k i : Nat, i + k = N → ix_Ev o_X11_had Q (4, [some (vr 10 112), some (vi (mSum (fun b => μ 113 (53 + 4 * b)) i)), some (vi (nI i))], [], μ) := by
  intro k
  induction k with
  | zero =>
    intro i hi
    have hi : i = N := hi
    subst hi
    have hle : nI i ≤ nI i := Int32.le_refl _
    rw [e_X11_had_4]
    simp (decide := true) only [e_X11_had_0, e_X11_had_1, e_X11_had_2, e_X11_had_3, e_X11_had_5, e_X11_had_6, e_X11_had_9, e_X11_had_10, e_X11_had_11, e_X11_had_14, e_X11_had_15, e_X11_had_16, e_X11_had_17, e_X11_had_18, e_X11_had_21, e_X11_had_22, e_X11_had_23, e_X11_had_26, e_X11_had_29, e_X11_had_30, vi, vl, vr, oc_X11_boatIs, T_X11_boatIs, ix_push, ix_iload, ix_lload, ix_aload, ix_istore, ix_astore, ix_iinc, ix_bin, ix_div, ix_un, ix_i2l, ix_l2i, ix_lbin, ix_lsh, ix_lcmp, ix_dup, ix_dup2, ix_pop, ix_if, ix_cmp, ix_goto, ix_switch, ix_sw, ix_iret, ix_zret, ix_vret, ix_aret, ix_geti, ix_getr, ix_puti, ix_putz, ix_puts, ix_gets, ix_iald, ix_iast, ix_alen, ix_aald, ix_gval, ix_gcod, ix_bald, ix_blen, ix_sald, ix_nret, ix_math2, ix_math1, ix_acopy, ml_113, ml_114, ml_115, ml_116, ml_118, ml_119, ml_120, ml_121, ml_122, ml_123, ml_124, ml_125, ml_126, mv_0, mv_1, mv_2, mv_3, mv_4, mv_5, mB_or, Nat.add_assoc, Int32.reduceLT, Int32.reduceLE, Int32.reduceToNatClampNeg, Int32.reduceSub, Int32.reduceAdd, Nat.reduceAdd, Nat.reduceLeDiff, true_or, or_true, or_false, false_or, not_false_eq_true, not_true_eq_false, false_implies, true_implies, implies_true, and_self, mB_0, mB_01, Classical.not_not, Nat.zero_le, List.getElem?_cons_zero, List.getElem?_cons_succ, List.set_cons_zero, List.set_cons_succ, ix_nl, ix_cs, true_and, and_true, Option.toList_some, Option.toList_none, List.cons_append, List.nil_append, hn, hle]
    exact hQ
  | succ k ih =>
    intro i hi
    have hng : ¬ nI N ≤ nI i := nI_ge (by omega) (by omega)
    have hx := bx i (by omega)
    have hi1 : nI i + 1 = nI (i + 1) := nI_1 i
    rw [e_X11_had_4]
    simp (decide := true) only [e_X11_had_0, e_X11_had_1, e_X11_had_2, e_X11_had_3, e_X11_had_5, e_X11_had_6, e_X11_had_9, e_X11_had_10, e_X11_had_11, e_X11_had_14, e_X11_had_15, e_X11_had_16, e_X11_had_17, e_X11_had_18, e_X11_had_21, e_X11_had_22, e_X11_had_23, e_X11_had_26, e_X11_had_29, e_X11_had_30, vi, vl, vr, oc_X11_boatIs, T_X11_boatIs, ix_push, ix_iload, ix_lload, ix_aload, ix_istore, ix_astore, ix_iinc, ix_bin, ix_div, ix_un, ix_i2l, ix_l2i, ix_lbin, ix_lsh, ix_lcmp, ix_dup, ix_dup2, ix_pop, ix_if, ix_cmp, ix_goto, ix_switch, ix_sw, ix_iret, ix_zret, ix_vret, ix_aret, ix_geti, ix_getr, ix_puti, ix_putz, ix_puts, ix_gets, ix_iald, ix_iast, ix_alen, ix_aald, ix_gval, ix_gcod, ix_bald, ix_blen, ix_sald, ix_nret, ix_math2, ix_math1, ix_acopy, ml_113, ml_114, ml_115, ml_116, ml_118, ml_119, ml_120, ml_121, ml_122, ml_123, ml_124, ml_125, ml_126, mv_0, mv_1, mv_2, mv_3, mv_4, mv_5, mB_or, Nat.add_assoc, Int32.reduceLT, Int32.reduceLE, Int32.reduceToNatClampNeg, Int32.reduceSub, Int32.reduceAdd, Nat.reduceAdd, Nat.reduceLeDiff, true_or, or_true, or_false, false_or, not_false_eq_true, not_true_eq_false, false_implies, true_implies, implies_true, and_self, mB_0, mB_01, Classical.not_not, Nat.zero_le, List.getElem?_cons_zero, List.getElem?_cons_succ, List.set_cons_zero, List.set_cons_succ, ix_nl, ix_cs, true_and, and_true, Option.toList_some, Option.toList_none, List.cons_append, List.nil_append, hn, hng, hx, hi1]
    exact ih (i + 1) (by omega)
theorem r_X11_had (o : Nat) (μ : ix_M) (Q : ix_R → Prop) (ok_o : o < ix_N ∧ ix_tag o = 10) (hT : T_X11_had o μ Q) : ix_Ev o_X11_had Q (0, [some (vr 10 o), none, none], [], μ) := by
  obtain rfl := ok_10 o ok_o.1 ok_o.2
  obtain ⟨N, hN, hn, hT⟩ := hT
  simp (decide := true) only [e_X11_had_0, e_X11_had_1, e_X11_had_2, e_X11_had_3, e_X11_had_5, e_X11_had_6, e_X11_had_9, e_X11_had_10, e_X11_had_11, e_X11_had_14, e_X11_had_15, e_X11_had_16, e_X11_had_17, e_X11_had_18, e_X11_had_21, e_X11_had_22, e_X11_had_23, e_X11_had_26, e_X11_had_29, e_X11_had_30, vi, vl, vr, oc_X11_boatIs, T_X11_boatIs, ix_push, ix_iload, ix_lload, ix_aload, ix_istore, ix_astore, ix_iinc, ix_bin, ix_div, ix_un, ix_i2l, ix_l2i, ix_lbin, ix_lsh, ix_lcmp, ix_dup, ix_dup2, ix_pop, ix_if, ix_cmp, ix_goto, ix_switch, ix_sw, ix_iret, ix_zret, ix_vret, ix_aret, ix_geti, ix_getr, ix_puti, ix_putz, ix_puts, ix_gets, ix_iald, ix_iast, ix_alen, ix_aald, ix_gval, ix_gcod, ix_bald, ix_blen, ix_sald, ix_nret, ix_math2, ix_math1, ix_acopy, ml_113, ml_114, ml_115, ml_116, ml_118, ml_119, ml_120, ml_121, ml_122, ml_123, ml_124, ml_125, ml_126, mv_0, mv_1, mv_2, mv_3, mv_4, mv_5, mB_or, Nat.add_assoc, Int32.reduceLT, Int32.reduceLE, Int32.reduceToNatClampNeg, Int32.reduceSub, Int32.reduceAdd, Nat.reduceAdd, Nat.reduceLeDiff, true_or, or_true, or_false, false_or, not_false_eq_true, not_true_eq_false, false_implies, true_implies, implies_true, and_self, mB_0, mB_01, Classical.not_not, Nat.zero_le, List.getElem?_cons_zero, List.getElem?_cons_succ, List.set_cons_zero, List.set_cons_succ, ix_nl, ix_cs, true_and, and_true, Option.toList_some, Option.toList_none, List.cons_append, List.nil_append]
  exact l_X11_had hN hn hT N 0 (by omega)
theorem k_X11_had (l : Launch) : ix_Ct l yX11_had cX11_had 3 (some .int) 3 sh_X11_had T_X11_had := ix_ct (a_X11_had l) rfl (by decide) (fun _ => Nat.le_of_ble_eq_true rfl) (fun x μ Q hok hT => r_X11_had x μ Q (ix_ok_at (hok (vr 10 x) (by simp [sh_X11_had])) (by decide) (by decide)) hT)
def T_X11_stuff : Nat → ix_M → (ix_R → Prop) → Prop := fun _ μ Q => Q (some (vi (mSum (fun c => μ 113 (34 + c)) 16)), μ)
def sh_X11_stuff (x : Nat) : List ix_V := [vr 10 x]
theorem mo_X11_stuff (x : Nat) (μ : ix_M) (Q Q' : ix_R → Prop) (h : ∀ r, Q r → Q' r) (hT : T_X11_stuff x μ Q) : T_X11_stuff x μ Q' := by
  first | exact h _ hT | exact ⟨hT.1, h _ hT.2⟩ | exact fun r hr => h _ (hT r hr) | exact ⟨hT.1, fun r hr => h _ (hT.2 r hr)⟩ | exact ⟨hT.1, hT.2.1, fun r hr => h _ (hT.2.2 r hr)⟩
def oc_X11_stuff (n : Nat) : ix_Op := fun k _ ls st μ => match st with
  | .inr (.inr (t0, a0)) :: r => t0 = 10 ∧ ix_cs r ≤ 8 ∧ T_X11_stuff a0 μ (fun q => k (n, ls, q.1.toList ++ r, q.2))
  | _ => False
theorem oc_X11_stuff_s {l : Launch} {cc : ByteArray} {nL : Nat} {own : String} {d : Nat} {rt : Option FieldType} {pc n : Nat} (h : ix_S l cc nL own d rt pc (ix_call 1 sh_X11_stuff T_X11_stuff n)) : ix_S l cc nL own d rt pc (oc_X11_stuff n) := by
  refine h.by (fun k Q ls st μ h => ?_) (fun k k' Q ls st μ hk h => ?_)
  · unfold oc_X11_stuff at h
    split at h
    · rename_i t0 a0 r
      obtain ⟨rfl, h1, h2⟩ := h
      exact ⟨h1, a0, rfl, _, h2, fun r h => h⟩
    · exact h.elim
  · unfold oc_X11_stuff at h ⊢
    split at h
    · obtain ⟨rfl, h1, h2⟩ := h
      exact ⟨rfl, h1, mo_X11_stuff _ _ _ _ (fun q hq => hk _ hq) h2⟩
    · exact h.elim
def o_X11_stuff : List (Nat × ix_Op) := [
  (0, ix_push (vi 0) 1),
  (1, ix_istore 1 2),
  (2, ix_push (vi 0) 3),
  (3, ix_istore 2 4),
  (4, ix_iload 2 5),
  (5, ix_push (vi 16) 7),
  (7, ix_cmp (fun x y => y ≤ x) 28 10),
  (10, ix_iload 1 11),
  (11, ix_aload 0 12),
  (12, ix_getr 10 20 (fun _ => 113) 15),
  (15, ix_push (vi 34) 17),
  (17, ix_iload 2 18),
  (18, ix_bin (fun x y => x + y) 19),
  (19, ix_iald 20),
  (20, ix_bin (fun x y => x + y) 21),
  (21, ix_istore 1 22),
  (22, ix_iinc 2 1 25),
  (25, ix_goto 4),
  (28, ix_iload 1 29),
  (29, ix_iret)]
set_option maxRecDepth 20000 in
theorem a_X11_stuff (l : Launch) : ix_AllS l cX11_stuff 3 RX11 1 (some .int) o_X11_stuff :=
  .cons (ix_s_iconst dX11_stuff_0 (by decide +kernel)) <|
  .cons (ix_s_istore_n dX11_stuff_1 rfl (by decide)) <|
  .cons (ix_s_iconst dX11_stuff_2 (by decide +kernel)) <|
  .cons (ix_s_istore_n dX11_stuff_3 rfl (by decide)) <|
  .cons (ix_s_iload_n dX11_stuff_4 rfl) <|
  .cons (ix_s_bipush dX11_stuff_5 (by decide +kernel)) <|
  .cons (ix_s_cmp_ge dX11_stuff_7 (by decide)) <|
  .cons (ix_s_iload_n dX11_stuff_10 rfl) <|
  .cons (ix_s_aload_n dX11_stuff_11 rfl) <|
  .cons (ix_s_getr (j := 0) tu_X11 rfl (by decide) (by decide) tw_875 rfl ts_10_0_r dX11_stuff_12) <|
  .cons (ix_s_bipush dX11_stuff_15 (by decide +kernel)) <|
  .cons (ix_s_iload_n dX11_stuff_17 rfl) <|
  .cons (ix_s_iadd dX11_stuff_18) <|
  .cons (ix_s_iald dX11_stuff_19) <|
  .cons (ix_s_iadd dX11_stuff_20) <|
  .cons (ix_s_istore_n dX11_stuff_21 rfl (by decide)) <|
  .cons (ix_s_iinc dX11_stuff_22 (by decide +kernel) (by decide)) <|
  .cons (ix_s_goto dX11_stuff_25 (by decide)) <|
  .cons (ix_s_iload_n dX11_stuff_28 rfl) <|
  .cons (ix_s_iret dX11_stuff_29 rfl) <| .nil
theorem e_X11_stuff_0 (Q : ix_R → Prop) (ls : ix_L) (st : List ix_V) (μ : ix_M) : ix_Ev o_X11_stuff Q (0, ls, st, μ) = ix_push (vi 0) 1 (ix_Ev o_X11_stuff Q) Q ls st μ := ix_Ev.eq (a_X11_stuff launch0) rfl ls st μ
theorem e_X11_stuff_1 (Q : ix_R → Prop) (ls : ix_L) (st : List ix_V) (μ : ix_M) : ix_Ev o_X11_stuff Q (1, ls, st, μ) = ix_istore 1 2 (ix_Ev o_X11_stuff Q) Q ls st μ := ix_Ev.eq (a_X11_stuff launch0) rfl ls st μ
theorem e_X11_stuff_2 (Q : ix_R → Prop) (ls : ix_L) (st : List ix_V) (μ : ix_M) : ix_Ev o_X11_stuff Q (2, ls, st, μ) = ix_push (vi 0) 3 (ix_Ev o_X11_stuff Q) Q ls st μ := ix_Ev.eq (a_X11_stuff launch0) rfl ls st μ
theorem e_X11_stuff_3 (Q : ix_R → Prop) (ls : ix_L) (st : List ix_V) (μ : ix_M) : ix_Ev o_X11_stuff Q (3, ls, st, μ) = ix_istore 2 4 (ix_Ev o_X11_stuff Q) Q ls st μ := ix_Ev.eq (a_X11_stuff launch0) rfl ls st μ
theorem e_X11_stuff_4 (Q : ix_R → Prop) (ls : ix_L) (st : List ix_V) (μ : ix_M) : ix_Ev o_X11_stuff Q (4, ls, st, μ) = ix_iload 2 5 (ix_Ev o_X11_stuff Q) Q ls st μ := ix_Ev.eq (a_X11_stuff launch0) rfl ls st μ
theorem e_X11_stuff_5 (Q : ix_R → Prop) (ls : ix_L) (st : List ix_V) (μ : ix_M) : ix_Ev o_X11_stuff Q (5, ls, st, μ) = ix_push (vi 16) 7 (ix_Ev o_X11_stuff Q) Q ls st μ := ix_Ev.eq (a_X11_stuff launch0) rfl ls st μ
theorem e_X11_stuff_7 (Q : ix_R → Prop) (ls : ix_L) (st : List ix_V) (μ : ix_M) : ix_Ev o_X11_stuff Q (7, ls, st, μ) = ix_cmp (fun x y => y ≤ x) 28 10 (ix_Ev o_X11_stuff Q) Q ls st μ := ix_Ev.eq (a_X11_stuff launch0) rfl ls st μ
theorem e_X11_stuff_10 (Q : ix_R → Prop) (ls : ix_L) (st : List ix_V) (μ : ix_M) : ix_Ev o_X11_stuff Q (10, ls, st, μ) = ix_iload 1 11 (ix_Ev o_X11_stuff Q) Q ls st μ := ix_Ev.eq (a_X11_stuff launch0) rfl ls st μ
theorem e_X11_stuff_11 (Q : ix_R → Prop) (ls : ix_L) (st : List ix_V) (μ : ix_M) : ix_Ev o_X11_stuff Q (11, ls, st, μ) = ix_aload 0 12 (ix_Ev o_X11_stuff Q) Q ls st μ := ix_Ev.eq (a_X11_stuff launch0) rfl ls st μ
theorem e_X11_stuff_12 (Q : ix_R → Prop) (ls : ix_L) (st : List ix_V) (μ : ix_M) : ix_Ev o_X11_stuff Q (12, ls, st, μ) = ix_getr 10 20 (fun _ => 113) 15 (ix_Ev o_X11_stuff Q) Q ls st μ := ix_Ev.eq (a_X11_stuff launch0) rfl ls st μ
theorem e_X11_stuff_15 (Q : ix_R → Prop) (ls : ix_L) (st : List ix_V) (μ : ix_M) : ix_Ev o_X11_stuff Q (15, ls, st, μ) = ix_push (vi 34) 17 (ix_Ev o_X11_stuff Q) Q ls st μ := ix_Ev.eq (a_X11_stuff launch0) rfl ls st μ
theorem e_X11_stuff_17 (Q : ix_R → Prop) (ls : ix_L) (st : List ix_V) (μ : ix_M) : ix_Ev o_X11_stuff Q (17, ls, st, μ) = ix_iload 2 18 (ix_Ev o_X11_stuff Q) Q ls st μ := ix_Ev.eq (a_X11_stuff launch0) rfl ls st μ
theorem e_X11_stuff_18 (Q : ix_R → Prop) (ls : ix_L) (st : List ix_V) (μ : ix_M) : ix_Ev o_X11_stuff Q (18, ls, st, μ) = ix_bin (fun x y => x + y) 19 (ix_Ev o_X11_stuff Q) Q ls st μ := ix_Ev.eq (a_X11_stuff launch0) rfl ls st μ
theorem e_X11_stuff_19 (Q : ix_R → Prop) (ls : ix_L) (st : List ix_V) (μ : ix_M) : ix_Ev o_X11_stuff Q (19, ls, st, μ) = ix_iald 20 (ix_Ev o_X11_stuff Q) Q ls st μ := ix_Ev.eq (a_X11_stuff launch0) rfl ls st μ
theorem e_X11_stuff_20 (Q : ix_R → Prop) (ls : ix_L) (st : List ix_V) (μ : ix_M) : ix_Ev o_X11_stuff Q (20, ls, st, μ) = ix_bin (fun x y => x + y) 21 (ix_Ev o_X11_stuff Q) Q ls st μ := ix_Ev.eq (a_X11_stuff launch0) rfl ls st μ
theorem e_X11_stuff_21 (Q : ix_R → Prop) (ls : ix_L) (st : List ix_V) (μ : ix_M) : ix_Ev o_X11_stuff Q (21, ls, st, μ) = ix_istore 1 22 (ix_Ev o_X11_stuff Q) Q ls st μ := ix_Ev.eq (a_X11_stuff launch0) rfl ls st μ
theorem e_X11_stuff_22 (Q : ix_R → Prop) (ls : ix_L) (st : List ix_V) (μ : ix_M) : ix_Ev o_X11_stuff Q (22, ls, st, μ) = ix_iinc 2 1 25 (ix_Ev o_X11_stuff Q) Q ls st μ := ix_Ev.eq (a_X11_stuff launch0) rfl ls st μ
theorem e_X11_stuff_25 (Q : ix_R → Prop) (ls : ix_L) (st : List ix_V) (μ : ix_M) : ix_Ev o_X11_stuff Q (25, ls, st, μ) = ix_goto 4 (ix_Ev o_X11_stuff Q) Q ls st μ := ix_Ev.eq (a_X11_stuff launch0) rfl ls st μ
theorem e_X11_stuff_28 (Q : ix_R → Prop) (ls : ix_L) (st : List ix_V) (μ : ix_M) : ix_Ev o_X11_stuff Q (28, ls, st, μ) = ix_iload 1 29 (ix_Ev o_X11_stuff Q) Q ls st μ := ix_Ev.eq (a_X11_stuff launch0) rfl ls st μ
theorem e_X11_stuff_29 (Q : ix_R → Prop) (ls : ix_L) (st : List ix_V) (μ : ix_M) : ix_Ev o_X11_stuff Q (29, ls, st, μ) = ix_iret (ix_Ev o_X11_stuff Q) Q ls st μ := ix_Ev.eq (a_X11_stuff launch0) rfl ls st μ
theorem l_X11_stuff {μ : ix_M} {Q : ix_R → Prop} (hQ : Q (some (vi (mSum (fun c => μ 113 (34 + c)) 16)), μ)) : ∀ k i : Nat, i + k = 16 → ix_Ev o_X11_stuff Q (4, [some (vr 10 112), some (vi (mSum (fun c => μ 113 (34 + c)) i)), some (vi (nI i))], [], μ) := by
  intro k
  induction k with
  | zero =>
    intro i hi
    have hi : i = 16 := hi
    subst hi
    rw [e_X11_stuff_4]
    simp (decide := true) only [e_X11_stuff_0, e_X11_stuff_1, e_X11_stuff_2, e_X11_stuff_3, e_X11_stuff_5, e_X11_stuff_7, e_X11_stuff_10, e_X11_stuff_11, e_X11_stuff_12, e_X11_stuff_15, e_X11_stuff_17, e_X11_stuff_18, e_X11_stuff_19, e_X11_stuff_20, e_X11_stuff_21, e_X11_stuff_22, e_X11_stuff_25, e_X11_stuff_28, e_X11_stuff_29, vi, vl, vr, ix_push, ix_iload, ix_lload, ix_aload, ix_istore, ix_astore, ix_iinc, ix_bin, ix_div, ix_un, ix_i2l, ix_l2i, ix_lbin, ix_lsh, ix_lcmp, ix_dup, ix_dup2, ix_pop, ix_if, ix_cmp, ix_goto, ix_switch, ix_sw, ix_iret, ix_zret, ix_vret, ix_aret, ix_geti, ix_getr, ix_puti, ix_putz, ix_puts, ix_gets, ix_iald, ix_iast, ix_alen, ix_aald, ix_gval, ix_gcod, ix_bald, ix_blen, ix_sald, ix_nret, ix_math2, ix_math1, ix_acopy, ml_113, ml_114, ml_115, ml_116, ml_118, ml_119, ml_120, ml_121, ml_122, ml_123, ml_124, ml_125, ml_126, mv_0, mv_1, mv_2, mv_3, mv_4, mv_5, mB_or, Nat.add_assoc, Int32.reduceLT, Int32.reduceLE, Int32.reduceToNatClampNeg, Int32.reduceSub, Int32.reduceAdd, Nat.reduceAdd, Nat.reduceLeDiff, true_or, or_true, or_false, false_or, not_false_eq_true, not_true_eq_false, false_implies, true_implies, implies_true, and_self, mB_0, mB_01, Classical.not_not, Nat.zero_le, List.getElem?_cons_zero, List.getElem?_cons_succ, List.set_cons_zero, List.set_cons_succ, ix_nl, ix_cs, true_and, and_true, Option.toList_some, Option.toList_none, List.cons_append, List.nil_append]
    exact hQ
  | succ k ih =>
    intro i hi
    have hng : ¬ (16 : Int32) ≤ nI i := by
      rw [fa_lit 16]
      exact nI_ge (by omega) (by decide)
    have h34 : 34 + nI i = nI (34 + i) := nI_add 34 i
    have i34 : vp_in (nI (34 + i)) 256 := vp_in_nI (by omega) (by decide)
    have c34 : (nI (34 + i)).toNatClampNeg = 34 + i := nI_clamp (by omega)
    have hi1 : nI i + 1 = nI (i + 1) := nI_1 i
    rw [e_X11_stuff_4]
    simp (decide := true) only [e_X11_stuff_0, e_X11_stuff_1, e_X11_stuff_2, e_X11_stuff_3, e_X11_stuff_5, e_X11_stuff_7, e_X11_stuff_10, e_X11_stuff_11, e_X11_stuff_12, e_X11_stuff_15, e_X11_stuff_17, e_X11_stuff_18, e_X11_stuff_19, e_X11_stuff_20, e_X11_stuff_21, e_X11_stuff_22, e_X11_stuff_25, e_X11_stuff_28, e_X11_stuff_29, vi, vl, vr, ix_push, ix_iload, ix_lload, ix_aload, ix_istore, ix_astore, ix_iinc, ix_bin, ix_div, ix_un, ix_i2l, ix_l2i, ix_lbin, ix_lsh, ix_lcmp, ix_dup, ix_dup2, ix_pop, ix_if, ix_cmp, ix_goto, ix_switch, ix_sw, ix_iret, ix_zret, ix_vret, ix_aret, ix_geti, ix_getr, ix_puti, ix_putz, ix_puts, ix_gets, ix_iald, ix_iast, ix_alen, ix_aald, ix_gval, ix_gcod, ix_bald, ix_blen, ix_sald, ix_nret, ix_math2, ix_math1, ix_acopy, ml_113, ml_114, ml_115, ml_116, ml_118, ml_119, ml_120, ml_121, ml_122, ml_123, ml_124, ml_125, ml_126, mv_0, mv_1, mv_2, mv_3, mv_4, mv_5, mB_or, Nat.add_assoc, Int32.reduceLT, Int32.reduceLE, Int32.reduceToNatClampNeg, Int32.reduceSub, Int32.reduceAdd, Nat.reduceAdd, Nat.reduceLeDiff, true_or, or_true, or_false, false_or, not_false_eq_true, not_true_eq_false, false_implies, true_implies, implies_true, and_self, mB_0, mB_01, Classical.not_not, Nat.zero_le, List.getElem?_cons_zero, List.getElem?_cons_succ, List.set_cons_zero, List.set_cons_succ, ix_nl, ix_cs, true_and, and_true, Option.toList_some, Option.toList_none, List.cons_append, List.nil_append, hng, h34, i34, c34, hi1]
    exact ih (i + 1) (by omega)
theorem r_X11_stuff (o : Nat) (μ : ix_M) (Q : ix_R → Prop) (ok_o : o < ix_N ∧ ix_tag o = 10) (hT : T_X11_stuff o μ Q) : ix_Ev o_X11_stuff Q (0, [some (vr 10 o), none, none], [], μ) := by
  obtain rfl := ok_10 o ok_o.1 ok_o.2
  simp (decide := true) only [e_X11_stuff_0, e_X11_stuff_1, e_X11_stuff_2, e_X11_stuff_3, e_X11_stuff_5, e_X11_stuff_7, e_X11_stuff_10, e_X11_stuff_11, e_X11_stuff_12, e_X11_stuff_15, e_X11_stuff_17, e_X11_stuff_18, e_X11_stuff_19, e_X11_stuff_20, e_X11_stuff_21, e_X11_stuff_22, e_X11_stuff_25, e_X11_stuff_28, e_X11_stuff_29, vi, vl, vr, ix_push, ix_iload, ix_lload, ix_aload, ix_istore, ix_astore, ix_iinc, ix_bin, ix_div, ix_un, ix_i2l, ix_l2i, ix_lbin, ix_lsh, ix_lcmp, ix_dup, ix_dup2, ix_pop, ix_if, ix_cmp, ix_goto, ix_switch, ix_sw, ix_iret, ix_zret, ix_vret, ix_aret, ix_geti, ix_getr, ix_puti, ix_putz, ix_puts, ix_gets, ix_iald, ix_iast, ix_alen, ix_aald, ix_gval, ix_gcod, ix_bald, ix_blen, ix_sald, ix_nret, ix_math2, ix_math1, ix_acopy, ml_113, ml_114, ml_115, ml_116, ml_118, ml_119, ml_120, ml_121, ml_122, ml_123, ml_124, ml_125, ml_126, mv_0, mv_1, mv_2, mv_3, mv_4, mv_5, mB_or, Nat.add_assoc, Int32.reduceLT, Int32.reduceLE, Int32.reduceToNatClampNeg, Int32.reduceSub, Int32.reduceAdd, Nat.reduceAdd, Nat.reduceLeDiff, true_or, or_true, or_false, false_or, not_false_eq_true, not_true_eq_false, false_implies, true_implies, implies_true, and_self, mB_0, mB_01, Classical.not_not, Nat.zero_le, List.getElem?_cons_zero, List.getElem?_cons_succ, List.set_cons_zero, List.set_cons_succ, ix_nl, ix_cs, true_and, and_true, Option.toList_some, Option.toList_none, List.cons_append, List.nil_append]
  exact l_X11_stuff hT 16 0 (by omega)
theorem k_X11_stuff (l : Launch) : ix_Ct l yX11_stuff cX11_stuff 3 (some .int) 1 sh_X11_stuff T_X11_stuff := ix_ct (a_X11_stuff l) rfl (by decide) (fun _ => Nat.le_of_ble_eq_true rfl) (fun x μ Q hok hT => r_X11_stuff x μ Q (ix_ok_at (hok (vr 10 x) (by simp [sh_X11_stuff])) (by decide) (by decide)) hT)
def T_X11_whoIsOn : Nat × Int32 → ix_M → (ix_R → Prop) → Prop := fun (_, c) μ Q => ∃ N, N ≤ 8 ∧ μ 113 1 = nI N ∧ Q (some (vi (mOn (fun b => μ 113 (52 + 4 * b)) c N)), μ)
def sh_X11_whoIsOn (x : Nat × Int32) : List ix_V := [vr 10 x.1, vi x.2]
theorem mo_X11_whoIsOn (x : Nat × Int32) (μ : ix_M) (Q Q' : ix_R → Prop) (h : ∀ r, Q r → Q' r) (hT : T_X11_whoIsOn x μ Q) : T_X11_whoIsOn x μ Q' := by
  obtain ⟨a0, a1⟩ := x
  (obtain ⟨b, h1, h2, h3⟩ := hT; exact ⟨b, h1, h2, h _ h3⟩)
def oc_X11_whoIsOn (n : Nat) : ix_Op := fun k _ ls st μ => match st with
  | .inl a1 :: .inr (.inr (t0, a0)) :: r => t0 = 10 ∧ ix_cs r ≤ 8 ∧ T_X11_whoIsOn (a0, a1) μ (fun q => k (n, ls, q.1.toList ++ r, q.2))
  | _ => False
theorem oc_X11_whoIsOn_s {l : Launch} {cc : ByteArray} {nL : Nat} {own : String} {d : Nat} {rt : Option FieldType} {pc n : Nat} (h : ix_S l cc nL own d rt pc (ix_call 2 sh_X11_whoIsOn T_X11_whoIsOn n)) : ix_S l cc nL own d rt pc (oc_X11_whoIsOn n) := by
  refine h.by (fun k Q ls st μ h => ?_) (fun k k' Q ls st μ hk h => ?_)
  · unfold oc_X11_whoIsOn at h
    split at h
    · rename_i a1 t0 a0 r
      obtain ⟨rfl, h1, h2⟩ := h
      exact ⟨h1, (a0, a1), rfl, _, h2, fun r h => h⟩
    · exact h.elim
  · unfold oc_X11_whoIsOn at h ⊢
    split at h
    · obtain ⟨rfl, h1, h2⟩ := h
      exact ⟨rfl, h1, mo_X11_whoIsOn _ _ _ _ (fun q hq => hk _ hq) h2⟩
    · exact h.elim
def o_X11_whoIsOn : List (Nat × ix_Op) := [
  (0, ix_push (vi 0) 1),
  (1, ix_istore 2 2),
  (2, ix_push (vi 0) 3),
  (3, ix_istore 3 4),
  (4, ix_iload 3 5),
  (5, ix_aload 0 6),
  (6, ix_getr 10 20 (fun _ => 113) 9),
  (9, ix_push (vi 1) 10),
  (10, ix_iald 11),
  (11, ix_cmp (fun x y => y ≤ x) 40 14),
  (14, ix_iload 2 15),
  (15, ix_aload 0 16),
  (16, ix_iload 3 17),
  (17, ix_push (vi 2) 18),
  (18, oc_X11_boatIs 21),
  (21, ix_iload 1 22),
  (22, ix_cmp (fun x y => x = y) 25 31),
  (25, ix_push (vi 1) 26),
  (26, ix_iload 3 27),
  (27, ix_bin (fun x y => x <<< (y &&& 31)) 28),
  (28, ix_goto 32),
  (31, ix_push (vi 0) 32),
  (32, ix_bin (fun x y => x ||| y) 33),
  (33, ix_istore 2 34),
  (34, ix_iinc 3 1 37),
  (37, ix_goto 4),
  (40, ix_iload 2 41),
  (41, ix_iret)]
set_option maxRecDepth 20000 in
theorem a_X11_whoIsOn (l : Launch) : ix_AllS l cX11_whoIsOn 4 RX11 3 (some .int) o_X11_whoIsOn :=
  .cons (ix_s_iconst dX11_whoIsOn_0 (by decide +kernel)) <|
  .cons (ix_s_istore_n dX11_whoIsOn_1 rfl (by decide)) <|
  .cons (ix_s_iconst dX11_whoIsOn_2 (by decide +kernel)) <|
  .cons (ix_s_istore_n dX11_whoIsOn_3 rfl (by decide)) <|
  .cons (ix_s_iload_n dX11_whoIsOn_4 rfl) <|
  .cons (ix_s_aload_n dX11_whoIsOn_5 rfl) <|
  .cons (ix_s_getr (j := 0) tu_X11 rfl (by decide) (by decide) tw_875 rfl ts_10_0_r dX11_whoIsOn_6) <|
  .cons (ix_s_iconst dX11_whoIsOn_9 (by decide +kernel)) <|
  .cons (ix_s_iald dX11_whoIsOn_10) <|
  .cons (ix_s_cmp_ge dX11_whoIsOn_11 (by decide)) <|
  .cons (ix_s_iload_n dX11_whoIsOn_14 rfl) <|
  .cons (ix_s_aload_n dX11_whoIsOn_15 rfl) <|
  .cons (ix_s_iload_n dX11_whoIsOn_16 rfl) <|
  .cons (ix_s_iconst dX11_whoIsOn_17 (by decide +kernel)) <|
  .cons (oc_X11_boatIs_s (ix_s_callv (t := 10) (k_X11_boatIs l) (by decide) (by decide) tw_1083 tw_12 tw_1080 tw_1082 tp_34 ⟨by decide, by decide, by decide +kernel⟩ (by decide) rfl rfl (fun _ => ⟨_, _, rfl, rfl⟩) dX11_whoIsOn_18)) <|
  .cons (ix_s_iload_n dX11_whoIsOn_21 rfl) <|
  .cons (ix_s_cmp_ne dX11_whoIsOn_22 (by decide)) <|
  .cons (ix_s_iconst dX11_whoIsOn_25 (by decide +kernel)) <|
  .cons (ix_s_iload_n dX11_whoIsOn_26 rfl) <|
  .cons (ix_s_ishl dX11_whoIsOn_27) <|
  .cons (ix_s_goto dX11_whoIsOn_28 (by decide)) <|
  .cons (ix_s_iconst dX11_whoIsOn_31 (by decide +kernel)) <|
  .cons (ix_s_ior dX11_whoIsOn_32) <|
  .cons (ix_s_istore_n dX11_whoIsOn_33 rfl (by decide)) <|
  .cons (ix_s_iinc dX11_whoIsOn_34 (by decide +kernel) (by decide)) <|
  .cons (ix_s_goto dX11_whoIsOn_37 (by decide)) <|
  .cons (ix_s_iload_n dX11_whoIsOn_40 rfl) <|
  .cons (ix_s_iret dX11_whoIsOn_41 rfl) <| .nil
theorem e_X11_whoIsOn_0 (Q : ix_R → Prop) (ls : ix_L) (st : List ix_V) (μ : ix_M) : ix_Ev o_X11_whoIsOn Q (0, ls, st, μ) = ix_push (vi 0) 1 (ix_Ev o_X11_whoIsOn Q) Q ls st μ := ix_Ev.eq (a_X11_whoIsOn launch0) rfl ls st μ
theorem e_X11_whoIsOn_1 (Q : ix_R → Prop) (ls : ix_L) (st : List ix_V) (μ : ix_M) : ix_Ev o_X11_whoIsOn Q (1, ls, st, μ) = ix_istore 2 2 (ix_Ev o_X11_whoIsOn Q) Q ls st μ := ix_Ev.eq (a_X11_whoIsOn launch0) rfl ls st μ
theorem e_X11_whoIsOn_2 (Q : ix_R → Prop) (ls : ix_L) (st : List ix_V) (μ : ix_M) : ix_Ev o_X11_whoIsOn Q (2, ls, st, μ) = ix_push (vi 0) 3 (ix_Ev o_X11_whoIsOn Q) Q ls st μ := ix_Ev.eq (a_X11_whoIsOn launch0) rfl ls st μ
theorem e_X11_whoIsOn_3 (Q : ix_R → Prop) (ls : ix_L) (st : List ix_V) (μ : ix_M) : ix_Ev o_X11_whoIsOn Q (3, ls, st, μ) = ix_istore 3 4 (ix_Ev o_X11_whoIsOn Q) Q ls st μ := ix_Ev.eq (a_X11_whoIsOn launch0) rfl ls st μ
theorem e_X11_whoIsOn_4 (Q : ix_R → Prop) (ls : ix_L) (st : List ix_V) (μ : ix_M) : ix_Ev o_X11_whoIsOn Q (4, ls, st, μ) = ix_iload 3 5 (ix_Ev o_X11_whoIsOn Q) Q ls st μ := ix_Ev.eq (a_X11_whoIsOn launch0) rfl ls st μ
theorem e_X11_whoIsOn_5 (Q : ix_R → Prop) (ls : ix_L) (st : List ix_V) (μ : ix_M) : ix_Ev o_X11_whoIsOn Q (5, ls, st, μ) = ix_aload 0 6 (ix_Ev o_X11_whoIsOn Q) Q ls st μ := ix_Ev.eq (a_X11_whoIsOn launch0) rfl ls st μ
theorem e_X11_whoIsOn_6 (Q : ix_R → Prop) (ls : ix_L) (st : List ix_V) (μ : ix_M) : ix_Ev o_X11_whoIsOn Q (6, ls, st, μ) = ix_getr 10 20 (fun _ => 113) 9 (ix_Ev o_X11_whoIsOn Q) Q ls st μ := ix_Ev.eq (a_X11_whoIsOn launch0) rfl ls st μ
theorem e_X11_whoIsOn_9 (Q : ix_R → Prop) (ls : ix_L) (st : List ix_V) (μ : ix_M) : ix_Ev o_X11_whoIsOn Q (9, ls, st, μ) = ix_push (vi 1) 10 (ix_Ev o_X11_whoIsOn Q) Q ls st μ := ix_Ev.eq (a_X11_whoIsOn launch0) rfl ls st μ
theorem e_X11_whoIsOn_10 (Q : ix_R → Prop) (ls : ix_L) (st : List ix_V) (μ : ix_M) : ix_Ev o_X11_whoIsOn Q (10, ls, st, μ) = ix_iald 11 (ix_Ev o_X11_whoIsOn Q) Q ls st μ := ix_Ev.eq (a_X11_whoIsOn launch0) rfl ls st μ
theorem e_X11_whoIsOn_11 (Q : ix_R → Prop) (ls : ix_L) (st : List ix_V) (μ : ix_M) : ix_Ev o_X11_whoIsOn Q (11, ls, st, μ) = ix_cmp (fun x y => y ≤ x) 40 14 (ix_Ev o_X11_whoIsOn Q) Q ls st μ := ix_Ev.eq (a_X11_whoIsOn launch0) rfl ls st μ
theorem e_X11_whoIsOn_14 (Q : ix_R → Prop) (ls : ix_L) (st : List ix_V) (μ : ix_M) : ix_Ev o_X11_whoIsOn Q (14, ls, st, μ) = ix_iload 2 15 (ix_Ev o_X11_whoIsOn Q) Q ls st μ := ix_Ev.eq (a_X11_whoIsOn launch0) rfl ls st μ
theorem e_X11_whoIsOn_15 (Q : ix_R → Prop) (ls : ix_L) (st : List ix_V) (μ : ix_M) : ix_Ev o_X11_whoIsOn Q (15, ls, st, μ) = ix_aload 0 16 (ix_Ev o_X11_whoIsOn Q) Q ls st μ := ix_Ev.eq (a_X11_whoIsOn launch0) rfl ls st μ
theorem e_X11_whoIsOn_16 (Q : ix_R → Prop) (ls : ix_L) (st : List ix_V) (μ : ix_M) : ix_Ev o_X11_whoIsOn Q (16, ls, st, μ) = ix_iload 3 17 (ix_Ev o_X11_whoIsOn Q) Q ls st μ := ix_Ev.eq (a_X11_whoIsOn launch0) rfl ls st μ
theorem e_X11_whoIsOn_17 (Q : ix_R → Prop) (ls : ix_L) (st : List ix_V) (μ : ix_M) : ix_Ev o_X11_whoIsOn Q (17, ls, st, μ) = ix_push (vi 2) 18 (ix_Ev o_X11_whoIsOn Q) Q ls st μ := ix_Ev.eq (a_X11_whoIsOn launch0) rfl ls st μ
theorem e_X11_whoIsOn_18 (Q : ix_R → Prop) (ls : ix_L) (st : List ix_V) (μ : ix_M) : ix_Ev o_X11_whoIsOn Q (18, ls, st, μ) = oc_X11_boatIs 21 (ix_Ev o_X11_whoIsOn Q) Q ls st μ := ix_Ev.eq (a_X11_whoIsOn launch0) rfl ls st μ
theorem e_X11_whoIsOn_21 (Q : ix_R → Prop) (ls : ix_L) (st : List ix_V) (μ : ix_M) : ix_Ev o_X11_whoIsOn Q (21, ls, st, μ) = ix_iload 1 22 (ix_Ev o_X11_whoIsOn Q) Q ls st μ := ix_Ev.eq (a_X11_whoIsOn launch0) rfl ls st μ
theorem e_X11_whoIsOn_22 (Q : ix_R → Prop) (ls : ix_L) (st : List ix_V) (μ : ix_M) : ix_Ev o_X11_whoIsOn Q (22, ls, st, μ) = ix_cmp (fun x y => x = y) 25 31 (ix_Ev o_X11_whoIsOn Q) Q ls st μ := ix_Ev.eq (a_X11_whoIsOn launch0) rfl ls st μ
theorem e_X11_whoIsOn_25 (Q : ix_R → Prop) (ls : ix_L) (st : List ix_V) (μ : ix_M) : ix_Ev o_X11_whoIsOn Q (25, ls, st, μ) = ix_push (vi 1) 26 (ix_Ev o_X11_whoIsOn Q) Q ls st μ := ix_Ev.eq (a_X11_whoIsOn launch0) rfl ls st μ
theorem e_X11_whoIsOn_26 (Q : ix_R → Prop) (ls : ix_L) (st : List ix_V) (μ : ix_M) : ix_Ev o_X11_whoIsOn Q (26, ls, st, μ) = ix_iload 3 27 (ix_Ev o_X11_whoIsOn Q) Q ls st μ := ix_Ev.eq (a_X11_whoIsOn launch0) rfl ls st μ
theorem e_X11_whoIsOn_27 (Q : ix_R → Prop) (ls : ix_L) (st : List ix_V) (μ : ix_M) : ix_Ev o_X11_whoIsOn Q (27, ls, st, μ) = ix_bin (fun x y => x <<< (y &&& 31)) 28 (ix_Ev o_X11_whoIsOn Q) Q ls st μ := ix_Ev.eq (a_X11_whoIsOn launch0) rfl ls st μ
theorem e_X11_whoIsOn_28 (Q : ix_R → Prop) (ls : ix_L) (st : List ix_V) (μ : ix_M) : ix_Ev o_X11_whoIsOn Q (28, ls, st, μ) = ix_goto 32 (ix_Ev o_X11_whoIsOn Q) Q ls st μ := ix_Ev.eq (a_X11_whoIsOn launch0) rfl ls st μ
theorem e_X11_whoIsOn_31 (Q : ix_R → Prop) (ls : ix_L) (st : List ix_V) (μ : ix_M) : ix_Ev o_X11_whoIsOn Q (31, ls, st, μ) = ix_push (vi 0) 32 (ix_Ev o_X11_whoIsOn Q) Q ls st μ := ix_Ev.eq (a_X11_whoIsOn launch0) rfl ls st μ
theorem e_X11_whoIsOn_32 (Q : ix_R → Prop) (ls : ix_L) (st : List ix_V) (μ : ix_M) : ix_Ev o_X11_whoIsOn Q (32, ls, st, μ) = ix_bin (fun x y => x ||| y) 33 (ix_Ev o_X11_whoIsOn Q) Q ls st μ := ix_Ev.eq (a_X11_whoIsOn launch0) rfl ls st μ
theorem e_X11_whoIsOn_33 (Q : ix_R → Prop) (ls : ix_L) (st : List ix_V) (μ : ix_M) : ix_Ev o_X11_whoIsOn Q (33, ls, st, μ) = ix_istore 2 34 (ix_Ev o_X11_whoIsOn Q) Q ls st μ := ix_Ev.eq (a_X11_whoIsOn launch0) rfl ls st μ
theorem e_X11_whoIsOn_34 (Q : ix_R → Prop) (ls : ix_L) (st : List ix_V) (μ : ix_M) : ix_Ev o_X11_whoIsOn Q (34, ls, st, μ) = ix_iinc 3 1 37 (ix_Ev o_X11_whoIsOn Q) Q ls st μ := ix_Ev.eq (a_X11_whoIsOn launch0) rfl ls st μ
theorem e_X11_whoIsOn_37 (Q : ix_R → Prop) (ls : ix_L) (st : List ix_V) (μ : ix_M) : ix_Ev o_X11_whoIsOn Q (37, ls, st, μ) = ix_goto 4 (ix_Ev o_X11_whoIsOn Q) Q ls st μ := ix_Ev.eq (a_X11_whoIsOn launch0) rfl ls st μ
theorem e_X11_whoIsOn_40 (Q : ix_R → Prop) (ls : ix_L) (st : List ix_V) (μ : ix_M) : ix_Ev o_X11_whoIsOn Q (40, ls, st, μ) = ix_iload 2 41 (ix_Ev o_X11_whoIsOn Q) Q ls st μ := ix_Ev.eq (a_X11_whoIsOn launch0) rfl ls st μ
theorem e_X11_whoIsOn_41 (Q : ix_R → Prop) (ls : ix_L) (st : List ix_V) (μ : ix_M) : ix_Ev o_X11_whoIsOn Q (41, ls, st, μ) = ix_iret (ix_Ev o_X11_whoIsOn Q) Q ls st μ := ix_Ev.eq (a_X11_whoIsOn launch0) rfl ls st μ
theorem l_X11_whoIsOn {N : Nat} (hN : N ≤ 8) {c : Int32} {μ : ix_M} (hn : μ 113 1 = nI N) {Q : ix_R → Prop} (hQ : Q (some (vi (mOn (fun b => μ 113 (52 + 4 * b)) c N)), μ)) : ∀ k i : Nat, i + k = N → ix_Ev o_X11_whoIsOn Q (4, [some (vr 10 112), some (vi c), some (vi (mOn (fun b => μ 113 (52 + 4 * b)) c i)), some (vi (nI i))], [], μ) := by
  intro k
  induction k with
  | zero =>
    intro i hi
    have hi : i = N := hi
    subst hi
    have hle : nI i ≤ nI i := Int32.le_refl _
    rw [e_X11_whoIsOn_4]
    simp (decide := true) only [e_X11_whoIsOn_0, e_X11_whoIsOn_1, e_X11_whoIsOn_2, e_X11_whoIsOn_3, e_X11_whoIsOn_5, e_X11_whoIsOn_6, e_X11_whoIsOn_9, e_X11_whoIsOn_10, e_X11_whoIsOn_11, e_X11_whoIsOn_14, e_X11_whoIsOn_15, e_X11_whoIsOn_16, e_X11_whoIsOn_17, e_X11_whoIsOn_18, e_X11_whoIsOn_21, e_X11_whoIsOn_22, e_X11_whoIsOn_25, e_X11_whoIsOn_26, e_X11_whoIsOn_27, e_X11_whoIsOn_28, e_X11_whoIsOn_31, e_X11_whoIsOn_32, e_X11_whoIsOn_33, e_X11_whoIsOn_34, e_X11_whoIsOn_37, e_X11_whoIsOn_40, e_X11_whoIsOn_41, vi, vl, vr, oc_X11_boatIs, T_X11_boatIs, ix_push, ix_iload, ix_lload, ix_aload, ix_istore, ix_astore, ix_iinc, ix_bin, ix_div, ix_un, ix_i2l, ix_l2i, ix_lbin, ix_lsh, ix_lcmp, ix_dup, ix_dup2, ix_pop, ix_if, ix_cmp, ix_goto, ix_switch, ix_sw, ix_iret, ix_zret, ix_vret, ix_aret, ix_geti, ix_getr, ix_puti, ix_putz, ix_puts, ix_gets, ix_iald, ix_iast, ix_alen, ix_aald, ix_gval, ix_gcod, ix_bald, ix_blen, ix_sald, ix_nret, ix_math2, ix_math1, ix_acopy, ml_113, ml_114, ml_115, ml_116, ml_118, ml_119, ml_120, ml_121, ml_122, ml_123, ml_124, ml_125, ml_126, mv_0, mv_1, mv_2, mv_3, mv_4, mv_5, mB_or, Nat.add_assoc, Int32.reduceLT, Int32.reduceLE, Int32.reduceToNatClampNeg, Int32.reduceSub, Int32.reduceAdd, Nat.reduceAdd, Nat.reduceLeDiff, true_or, or_true, or_false, false_or, not_false_eq_true, not_true_eq_false, false_implies, true_implies, implies_true, and_self, mB_0, mB_01, Classical.not_not, Nat.zero_le, List.getElem?_cons_zero, List.getElem?_cons_succ, List.set_cons_zero, List.set_cons_succ, ix_nl, ix_cs, true_and, and_true, Option.toList_some, Option.toList_none, List.cons_append, List.nil_append, hn, hle]
    exact hQ
  | succ k ih =>
    intro i hi
    have hng : ¬ nI N ≤ nI i := nI_ge (by omega) (by omega)
    have hx := bx i (by omega)
    have hi1 : nI i + 1 = nI (i + 1) := nI_1 i
    rw [e_X11_whoIsOn_4]
    simp (decide := true) only [e_X11_whoIsOn_0, e_X11_whoIsOn_1, e_X11_whoIsOn_2, e_X11_whoIsOn_3, e_X11_whoIsOn_5, e_X11_whoIsOn_6, e_X11_whoIsOn_9, e_X11_whoIsOn_10, e_X11_whoIsOn_11, e_X11_whoIsOn_14, e_X11_whoIsOn_15, e_X11_whoIsOn_16, e_X11_whoIsOn_17, e_X11_whoIsOn_18, e_X11_whoIsOn_21, e_X11_whoIsOn_22, e_X11_whoIsOn_25, e_X11_whoIsOn_26, e_X11_whoIsOn_27, e_X11_whoIsOn_28, e_X11_whoIsOn_31, e_X11_whoIsOn_32, e_X11_whoIsOn_33, e_X11_whoIsOn_34, e_X11_whoIsOn_37, e_X11_whoIsOn_40, e_X11_whoIsOn_41, vi, vl, vr, oc_X11_boatIs, T_X11_boatIs, ix_push, ix_iload, ix_lload, ix_aload, ix_istore, ix_astore, ix_iinc, ix_bin, ix_div, ix_un, ix_i2l, ix_l2i, ix_lbin, ix_lsh, ix_lcmp, ix_dup, ix_dup2, ix_pop, ix_if, ix_cmp, ix_goto, ix_switch, ix_sw, ix_iret, ix_zret, ix_vret, ix_aret, ix_geti, ix_getr, ix_puti, ix_putz, ix_puts, ix_gets, ix_iald, ix_iast, ix_alen, ix_aald, ix_gval, ix_gcod, ix_bald, ix_blen, ix_sald, ix_nret, ix_math2, ix_math1, ix_acopy, ml_113, ml_114, ml_115, ml_116, ml_118, ml_119, ml_120, ml_121, ml_122, ml_123, ml_124, ml_125, ml_126, mv_0, mv_1, mv_2, mv_3, mv_4, mv_5, mB_or, Nat.add_assoc, Int32.reduceLT, Int32.reduceLE, Int32.reduceToNatClampNeg, Int32.reduceSub, Int32.reduceAdd, Nat.reduceAdd, Nat.reduceLeDiff, true_or, or_true, or_false, false_or, not_false_eq_true, not_true_eq_false, false_implies, true_implies, implies_true, and_self, mB_0, mB_01, Classical.not_not, Nat.zero_le, List.getElem?_cons_zero, List.getElem?_cons_succ, List.set_cons_zero, List.set_cons_succ, ix_nl, ix_cs, true_and, and_true, Option.toList_some, Option.toList_none, List.cons_append, List.nil_append, hn, hng, hx, hi1]
    have := ih (i + 1) (by omega)
    refine ⟨fun e => ?_, fun e => ?_⟩
    · simp only [mOn, if_pos e] at this
      exact this
    · simp only [mOn, if_neg e] at this
      rw [Int32.or_zero]
      exact this
theorem r_X11_whoIsOn (o : Nat) (c : Int32) (μ : ix_M) (Q : ix_R → Prop) (ok_o : o < ix_N ∧ ix_tag o = 10) (hT : T_X11_whoIsOn (o, c) μ Q) : ix_Ev o_X11_whoIsOn Q (0, [some (vr 10 o), some (vi c), none, none], [], μ) := by
  obtain rfl := ok_10 o ok_o.1 ok_o.2
  obtain ⟨N, hN, hn, hT⟩ := hT
  simp (decide := true) only [e_X11_whoIsOn_0, e_X11_whoIsOn_1, e_X11_whoIsOn_2, e_X11_whoIsOn_3, e_X11_whoIsOn_5, e_X11_whoIsOn_6, e_X11_whoIsOn_9, e_X11_whoIsOn_10, e_X11_whoIsOn_11, e_X11_whoIsOn_14, e_X11_whoIsOn_15, e_X11_whoIsOn_16, e_X11_whoIsOn_17, e_X11_whoIsOn_18, e_X11_whoIsOn_21, e_X11_whoIsOn_22, e_X11_whoIsOn_25, e_X11_whoIsOn_26, e_X11_whoIsOn_27, e_X11_whoIsOn_28, e_X11_whoIsOn_31, e_X11_whoIsOn_32, e_X11_whoIsOn_33, e_X11_whoIsOn_34, e_X11_whoIsOn_37, e_X11_whoIsOn_40, e_X11_whoIsOn_41, vi, vl, vr, oc_X11_boatIs, T_X11_boatIs, ix_push, ix_iload, ix_lload, ix_aload, ix_istore, ix_astore, ix_iinc, ix_bin, ix_div, ix_un, ix_i2l, ix_l2i, ix_lbin, ix_lsh, ix_lcmp, ix_dup, ix_dup2, ix_pop, ix_if, ix_cmp, ix_goto, ix_switch, ix_sw, ix_iret, ix_zret, ix_vret, ix_aret, ix_geti, ix_getr, ix_puti, ix_putz, ix_puts, ix_gets, ix_iald, ix_iast, ix_alen, ix_aald, ix_gval, ix_gcod, ix_bald, ix_blen, ix_sald, ix_nret, ix_math2, ix_math1, ix_acopy, ml_113, ml_114, ml_115, ml_116, ml_118, ml_119, ml_120, ml_121, ml_122, ml_123, ml_124, ml_125, ml_126, mv_0, mv_1, mv_2, mv_3, mv_4, mv_5, mB_or, Nat.add_assoc, Int32.reduceLT, Int32.reduceLE, Int32.reduceToNatClampNeg, Int32.reduceSub, Int32.reduceAdd, Nat.reduceAdd, Nat.reduceLeDiff, true_or, or_true, or_false, false_or, not_false_eq_true, not_true_eq_false, false_implies, true_implies, implies_true, and_self, mB_0, mB_01, Classical.not_not, Nat.zero_le, List.getElem?_cons_zero, List.getElem?_cons_succ, List.set_cons_zero, List.set_cons_succ, ix_nl, ix_cs, true_and, and_true, Option.toList_some, Option.toList_none, List.cons_append, List.nil_append]
  exact l_X11_whoIsOn hN hn hT N 0 (by omega)
theorem k_X11_whoIsOn (l : Launch) : ix_Ct l yX11_whoIsOn cX11_whoIsOn 4 (some .int) 3 sh_X11_whoIsOn T_X11_whoIsOn := ix_ct (a_X11_whoIsOn l) rfl (by decide) (fun _ => Nat.le_of_ble_eq_true rfl) (fun x μ Q hok hT => r_X11_whoIsOn x.1 x.2 μ Q (ix_ok_at (hok (vr 10 x.1) (by simp [sh_X11_whoIsOn])) (by decide) (by decide)) hT)
