/-! ===== calls, class against model: boats ===== -/
theorem km_in (k : Int32) : (∃ K : Nat, K ≤ 69 ∧ k = nI K ∧ ¬ nI K < 0 ∧ ¬ 7 ≤ nI (K / 10) ∧ 0 ≤ nI K ∧ nI K ≤ 69 ∧ nI K / 10 = nI (K / 10) ∧ rem (nI K) 10 = nI (K % 10) ∧ nI K - nI (K / 10) * 10 = nI (K % 10)) ∨ ((k < 0 ∨ 7 ≤ k / 10) ∧ ¬ (0 ≤ k ∧ k ≤ 69)) := by
  have hd : ∀ j : Nat, j < 2 ^ 31 → nI j / 10 = nI (j / 10) := fun j hj => pk_div (d := 10) hj (by decide) (by decide)
  rcases inR k 69 (by decide) with ⟨K, hK, rfl⟩ | ⟨h1, h2⟩
  · have e := hd K (by omega)
    have a := rgN hK (by decide)
    have e2 : rem (nI K) 10 = nI (K % 10) := pk_rem (d := 10) (by omega) (by decide) (by decide)
    refine Or.inl ⟨K, hK, rfl, a.1, nI_ge (a := K / 10) (b := 7) (by omega) (by decide), a.2.2.1, a.2.2.2, e, e2, ?_⟩
    rw [← e]
    exact e2
  · refine Or.inr ⟨?_, h2⟩
    by_cases c : k < 0
    · exact Or.inl c
    · obtain ⟨j, hj, rfl⟩ := nI_of c
      refine Or.inr ?_
      rw [hd j hj]
      have : 69 < j := by
        rcases h1 with h1 | h1
        · exact absurd h1 c
        · exact (nI_ltI (by decide) hj).mp h1
      exact nI_le (a := 7) (b := j / 10) (by omega) (by omega)
theorem ix_upc {μ : ix_M} {a b i j : Nat} {x y : Int32} (h : a ≠ b) : ix_up (ix_up μ a i x) b j y = ix_up (ix_up μ b j y) a i x := by
  funext c k
  simp only [ix_up_ap]
  by_cases h1 : c = a ∧ k = i
  · rw [if_pos h1, if_neg (fun z => h (h1.1.symm.trans z.1)), if_pos h1]
  · rw [if_neg h1, if_neg h1]
theorem Inv.cnt {μ : ix_M} (I : Inv μ) {x : Nat} (hx : x ≤ 8) : Inv (ix_up (ix_up μ 2 7 (nI x)) 113 1 (nI x)) := by
  have e113 : ix_up (ix_up μ 2 7 (nI x)) 113 1 (nI x) 113 = upd (μ 113) (nvI 0 7) (nI x) := by
    rw [ix_up_row, ix_up_ne (by decide)]
    rfl
  have hw : wok 0 7 = true := rfl
  obtain ⟨M, hM, hR⟩ := I.1.1.2
  refine I.wat (L := [2, 113]) ((Fx.rf.up (by simp)).up (by simp)) (fun a ha => ?_) ?_ hM ?_ (fun j hj _ => ?_)
  · simp at ha
    omega
  · rw [e113, nv_upd hw, ← show wv μ 2 = nv (μ 113) from I.1.1.1]
    funext r' i'
    unfold wv setV
    by_cases c : wok r' i' = true
    · rw [if_pos c, ix_up_ne (by simp [wok] at c; omega), ix_up_ap]
      by_cases c2 : r' = 0 ∧ i' = 7
      · rw [if_pos c2, if_pos (by omega)]
      · rw [if_neg c2, if_neg (by omega)]
        exact (if_pos c).symm
    · rw [if_neg c, if_neg (fun z => c (by rw [z.1, z.2]; exact hw))]
      exact (if_neg c).symm
  · rw [e113, nv_upd hw]
    obtain ⟨⟨h1, h2, h3⟩, h4, h5, h6, h7⟩ := hR
    have k0 : ∀ q b, q ≠ 0 → setV 0 7 (nI x) (nv (μ 113)) q b = nv (μ 113) q b := fun q b hq => by
      unfold setV
      rw [if_neg (fun z => hq z.1)]
    refine ⟨⟨⟨x, hx, rfl⟩, h2, fun b hb => ?_⟩, fun b hb => ?_, fun b hb => ?_, fun b hb => ?_, fun b hb => ?_⟩
    · rw [k0 6 b (by decide)]
      exact h3 b hb
    · rw [k0 3 b (by decide)]
      exact h4 b hb
    · rw [k0 4 b (by decide)]
      exact h5 b hb
    · rw [k0 5 b (by decide)]
      exact h6 b hb
    · rw [k0 7 b (by decide)]
      exact h7 b hb
  · rw [e113, upd_ne]
    intro z
    rw [z] at hj
    exact nvI_rst hw hj
theorem nvI_5 (i : Nat) : 51 + 4 * i = nvI 5 i := by simp [nvI]; omega
theorem nvI_6 (i : Nat) : 52 + 4 * i = nvI 6 i := by simp [nvI]; omega
theorem nvI_7 (i : Nat) : 53 + 4 * i = nvI 7 i := by simp [nvI]; omega
def o_X10_boat : List (Nat × ix_Op) := [
  (0, ix_iload 1 1),
  (1, oc_X10_noKindNumber 4),
  (4, ix_if (fun x => x = 0) 7 16),
  (7, ix_iload 2 8),
  (8, ix_push (vi 15) 10),
  (10, oc_X10_outside 13),
  (13, ix_if (fun x => x = 0) 22 16),
  (16, ix_aload 0 17),
  (17, ix_push (vi 1) 18),
  (18, oc_X10_error 21),
  (21, ix_iret),
  (22, ix_aload 0 23),
  (23, ix_getr 9 5 (fun _ => 1) 26),
  (26, ix_getr 5 8 (fun k => k + 1) 29),
  (29, ix_geti 8 7 32),
  (32, ix_push (vi 8) 34),
  (34, ix_cmp (fun x y => x < y) 43 37),
  (37, ix_aload 0 38),
  (38, ix_push (vi 4) 39),
  (39, oc_X10_error 42),
  (42, ix_iret),
  (43, ix_aload 0 44),
  (44, ix_getr 9 5 (fun _ => 1) 47),
  (47, ix_getr 5 8 (fun k => k + 1) 50),
  (50, ix_iload 1 51),
  (51, ix_iload 2 52),
  (52, oc_X9_launch 55),
  (55, ix_iret)]
set_option maxRecDepth 20000 in
theorem a_X10_boat (l : Launch) : ix_AllS l cX10_boat 3 RX10 60 (some .int) o_X10_boat :=
  .cons (ix_s_iload_n dX10_boat_0 rfl) <|
  .cons (oc_X10_noKindNumber_s (ix_s_calls (k_X10_noKindNumber l) (by decide) (by decide) tw_357 tw_1 tw_355 tw_356 ⟨by decide, by decide, by decide +kernel⟩ (fun _ => rfl) dX10_boat_1)) <|
  .cons (ix_s_if_ne dX10_boat_4 (by decide)) <|
  .cons (ix_s_iload_n dX10_boat_7 rfl) <|
  .cons (ix_s_bipush dX10_boat_8 (by decide +kernel)) <|
  .cons (oc_X10_outside_s (ix_s_calls (k_X10_outside l) (by decide) (by decide) tw_291 tw_1 tw_289 tw_290 ⟨by decide, by decide, by decide +kernel⟩ (fun _ => rfl) dX10_boat_10)) <|
  .cons (ix_s_if_eq dX10_boat_13 (by decide)) <|
  .cons (ix_s_aload_n dX10_boat_16 rfl) <|
  .cons (ix_s_iconst dX10_boat_17 (by decide +kernel)) <|
  .cons (oc_X10_error_s (ix_s_callv (t := 9) (k_X10_error l) (by decide) (by decide) tw_295 tw_1 tw_292 tw_294 tp_0 ⟨by decide, by decide, by decide +kernel⟩ (by decide) rfl rfl (fun _ => ⟨_, _, rfl, rfl⟩) dX10_boat_18)) <|
  .cons (ix_s_iret dX10_boat_21 rfl) <|
  .cons (ix_s_aload_n dX10_boat_22 rfl) <|
  .cons (ix_s_getr (j := 0) tu_X10 rfl (by decide) (by decide) tw_251 rfl ts_9_0_r dX10_boat_23) <|
  .cons (ix_s_getr (j := 0) tu_X6 rfl (by decide) (by decide) tw_138 rfl ts_5_0_r dX10_boat_26) <|
  .cons (ix_s_geti (j := 7) tu_X9 rfl (by decide) (by decide) tw_57 rfl ts_8_7_i dX10_boat_29) <|
  .cons (ix_s_bipush dX10_boat_32 (by decide +kernel)) <|
  .cons (ix_s_cmp_lt dX10_boat_34 (by decide)) <|
  .cons (ix_s_aload_n dX10_boat_37 rfl) <|
  .cons (ix_s_iconst dX10_boat_38 (by decide +kernel)) <|
  .cons (oc_X10_error_s (ix_s_callv (t := 9) (k_X10_error l) (by decide) (by decide) tw_295 tw_1 tw_292 tw_294 tp_0 ⟨by decide, by decide, by decide +kernel⟩ (by decide) rfl rfl (fun _ => ⟨_, _, rfl, rfl⟩) dX10_boat_39)) <|
  .cons (ix_s_iret dX10_boat_42 rfl) <|
  .cons (ix_s_aload_n dX10_boat_43 rfl) <|
  .cons (ix_s_getr (j := 0) tu_X10 rfl (by decide) (by decide) tw_251 rfl ts_9_0_r dX10_boat_44) <|
  .cons (ix_s_getr (j := 0) tu_X6 rfl (by decide) (by decide) tw_138 rfl ts_5_0_r dX10_boat_47) <|
  .cons (ix_s_iload_n dX10_boat_50 rfl) <|
  .cons (ix_s_iload_n dX10_boat_51 rfl) <|
  .cons (oc_X9_launch_s (ix_s_callv (t := 8) (k_X9_launch l) (by decide) (by decide) tw_361 tw_3 tw_358 tw_359 tw_360 ⟨by decide, by decide, by decide +kernel⟩ (by decide) rfl rfl (fun _ => ⟨_, _, rfl, rfl⟩) dX10_boat_52)) <|
  .cons (ix_s_iret dX10_boat_55 rfl) <| .nil
theorem e_X10_boat_0 (Q : ix_R → Prop) (ls : ix_L) (st : List ix_V) (μ : ix_M) : ix_Ev o_X10_boat Q (0, ls, st, μ) = ix_iload 1 1 (ix_Ev o_X10_boat Q) Q ls st μ := ix_Ev.eq (a_X10_boat launch0) rfl ls st μ
theorem e_X10_boat_1 (Q : ix_R → Prop) (ls : ix_L) (st : List ix_V) (μ : ix_M) : ix_Ev o_X10_boat Q (1, ls, st, μ) = oc_X10_noKindNumber 4 (ix_Ev o_X10_boat Q) Q ls st μ := ix_Ev.eq (a_X10_boat launch0) rfl ls st μ
theorem e_X10_boat_4 (Q : ix_R → Prop) (ls : ix_L) (st : List ix_V) (μ : ix_M) : ix_Ev o_X10_boat Q (4, ls, st, μ) = ix_if (fun x => x = 0) 7 16 (ix_Ev o_X10_boat Q) Q ls st μ := ix_Ev.eq (a_X10_boat launch0) rfl ls st μ
theorem e_X10_boat_7 (Q : ix_R → Prop) (ls : ix_L) (st : List ix_V) (μ : ix_M) : ix_Ev o_X10_boat Q (7, ls, st, μ) = ix_iload 2 8 (ix_Ev o_X10_boat Q) Q ls st μ := ix_Ev.eq (a_X10_boat launch0) rfl ls st μ
theorem e_X10_boat_8 (Q : ix_R → Prop) (ls : ix_L) (st : List ix_V) (μ : ix_M) : ix_Ev o_X10_boat Q (8, ls, st, μ) = ix_push (vi 15) 10 (ix_Ev o_X10_boat Q) Q ls st μ := ix_Ev.eq (a_X10_boat launch0) rfl ls st μ
theorem e_X10_boat_10 (Q : ix_R → Prop) (ls : ix_L) (st : List ix_V) (μ : ix_M) : ix_Ev o_X10_boat Q (10, ls, st, μ) = oc_X10_outside 13 (ix_Ev o_X10_boat Q) Q ls st μ := ix_Ev.eq (a_X10_boat launch0) rfl ls st μ
theorem e_X10_boat_13 (Q : ix_R → Prop) (ls : ix_L) (st : List ix_V) (μ : ix_M) : ix_Ev o_X10_boat Q (13, ls, st, μ) = ix_if (fun x => x = 0) 22 16 (ix_Ev o_X10_boat Q) Q ls st μ := ix_Ev.eq (a_X10_boat launch0) rfl ls st μ
theorem e_X10_boat_16 (Q : ix_R → Prop) (ls : ix_L) (st : List ix_V) (μ : ix_M) : ix_Ev o_X10_boat Q (16, ls, st, μ) = ix_aload 0 17 (ix_Ev o_X10_boat Q) Q ls st μ := ix_Ev.eq (a_X10_boat launch0) rfl ls st μ
theorem e_X10_boat_17 (Q : ix_R → Prop) (ls : ix_L) (st : List ix_V) (μ : ix_M) : ix_Ev o_X10_boat Q (17, ls, st, μ) = ix_push (vi 1) 18 (ix_Ev o_X10_boat Q) Q ls st μ := ix_Ev.eq (a_X10_boat launch0) rfl ls st μ
theorem e_X10_boat_18 (Q : ix_R → Prop) (ls : ix_L) (st : List ix_V) (μ : ix_M) : ix_Ev o_X10_boat Q (18, ls, st, μ) = oc_X10_error 21 (ix_Ev o_X10_boat Q) Q ls st μ := ix_Ev.eq (a_X10_boat launch0) rfl ls st μ
theorem e_X10_boat_21 (Q : ix_R → Prop) (ls : ix_L) (st : List ix_V) (μ : ix_M) : ix_Ev o_X10_boat Q (21, ls, st, μ) = ix_iret (ix_Ev o_X10_boat Q) Q ls st μ := ix_Ev.eq (a_X10_boat launch0) rfl ls st μ
theorem e_X10_boat_22 (Q : ix_R → Prop) (ls : ix_L) (st : List ix_V) (μ : ix_M) : ix_Ev o_X10_boat Q (22, ls, st, μ) = ix_aload 0 23 (ix_Ev o_X10_boat Q) Q ls st μ := ix_Ev.eq (a_X10_boat launch0) rfl ls st μ
theorem e_X10_boat_23 (Q : ix_R → Prop) (ls : ix_L) (st : List ix_V) (μ : ix_M) : ix_Ev o_X10_boat Q (23, ls, st, μ) = ix_getr 9 5 (fun _ => 1) 26 (ix_Ev o_X10_boat Q) Q ls st μ := ix_Ev.eq (a_X10_boat launch0) rfl ls st μ
theorem e_X10_boat_26 (Q : ix_R → Prop) (ls : ix_L) (st : List ix_V) (μ : ix_M) : ix_Ev o_X10_boat Q (26, ls, st, μ) = ix_getr 5 8 (fun k => k + 1) 29 (ix_Ev o_X10_boat Q) Q ls st μ := ix_Ev.eq (a_X10_boat launch0) rfl ls st μ
theorem e_X10_boat_29 (Q : ix_R → Prop) (ls : ix_L) (st : List ix_V) (μ : ix_M) : ix_Ev o_X10_boat Q (29, ls, st, μ) = ix_geti 8 7 32 (ix_Ev o_X10_boat Q) Q ls st μ := ix_Ev.eq (a_X10_boat launch0) rfl ls st μ
theorem e_X10_boat_32 (Q : ix_R → Prop) (ls : ix_L) (st : List ix_V) (μ : ix_M) : ix_Ev o_X10_boat Q (32, ls, st, μ) = ix_push (vi 8) 34 (ix_Ev o_X10_boat Q) Q ls st μ := ix_Ev.eq (a_X10_boat launch0) rfl ls st μ
theorem e_X10_boat_34 (Q : ix_R → Prop) (ls : ix_L) (st : List ix_V) (μ : ix_M) : ix_Ev o_X10_boat Q (34, ls, st, μ) = ix_cmp (fun x y => x < y) 43 37 (ix_Ev o_X10_boat Q) Q ls st μ := ix_Ev.eq (a_X10_boat launch0) rfl ls st μ
theorem e_X10_boat_37 (Q : ix_R → Prop) (ls : ix_L) (st : List ix_V) (μ : ix_M) : ix_Ev o_X10_boat Q (37, ls, st, μ) = ix_aload 0 38 (ix_Ev o_X10_boat Q) Q ls st μ := ix_Ev.eq (a_X10_boat launch0) rfl ls st μ
theorem e_X10_boat_38 (Q : ix_R → Prop) (ls : ix_L) (st : List ix_V) (μ : ix_M) : ix_Ev o_X10_boat Q (38, ls, st, μ) = ix_push (vi 4) 39 (ix_Ev o_X10_boat Q) Q ls st μ := ix_Ev.eq (a_X10_boat launch0) rfl ls st μ
theorem e_X10_boat_39 (Q : ix_R → Prop) (ls : ix_L) (st : List ix_V) (μ : ix_M) : ix_Ev o_X10_boat Q (39, ls, st, μ) = oc_X10_error 42 (ix_Ev o_X10_boat Q) Q ls st μ := ix_Ev.eq (a_X10_boat launch0) rfl ls st μ
theorem e_X10_boat_42 (Q : ix_R → Prop) (ls : ix_L) (st : List ix_V) (μ : ix_M) : ix_Ev o_X10_boat Q (42, ls, st, μ) = ix_iret (ix_Ev o_X10_boat Q) Q ls st μ := ix_Ev.eq (a_X10_boat launch0) rfl ls st μ
theorem e_X10_boat_43 (Q : ix_R → Prop) (ls : ix_L) (st : List ix_V) (μ : ix_M) : ix_Ev o_X10_boat Q (43, ls, st, μ) = ix_aload 0 44 (ix_Ev o_X10_boat Q) Q ls st μ := ix_Ev.eq (a_X10_boat launch0) rfl ls st μ
theorem e_X10_boat_44 (Q : ix_R → Prop) (ls : ix_L) (st : List ix_V) (μ : ix_M) : ix_Ev o_X10_boat Q (44, ls, st, μ) = ix_getr 9 5 (fun _ => 1) 47 (ix_Ev o_X10_boat Q) Q ls st μ := ix_Ev.eq (a_X10_boat launch0) rfl ls st μ
theorem e_X10_boat_47 (Q : ix_R → Prop) (ls : ix_L) (st : List ix_V) (μ : ix_M) : ix_Ev o_X10_boat Q (47, ls, st, μ) = ix_getr 5 8 (fun k => k + 1) 50 (ix_Ev o_X10_boat Q) Q ls st μ := ix_Ev.eq (a_X10_boat launch0) rfl ls st μ
theorem e_X10_boat_50 (Q : ix_R → Prop) (ls : ix_L) (st : List ix_V) (μ : ix_M) : ix_Ev o_X10_boat Q (50, ls, st, μ) = ix_iload 1 51 (ix_Ev o_X10_boat Q) Q ls st μ := ix_Ev.eq (a_X10_boat launch0) rfl ls st μ
theorem e_X10_boat_51 (Q : ix_R → Prop) (ls : ix_L) (st : List ix_V) (μ : ix_M) : ix_Ev o_X10_boat Q (51, ls, st, μ) = ix_iload 2 52 (ix_Ev o_X10_boat Q) Q ls st μ := ix_Ev.eq (a_X10_boat launch0) rfl ls st μ
theorem e_X10_boat_52 (Q : ix_R → Prop) (ls : ix_L) (st : List ix_V) (μ : ix_M) : ix_Ev o_X10_boat Q (52, ls, st, μ) = oc_X9_launch 55 (ix_Ev o_X10_boat Q) Q ls st μ := ix_Ev.eq (a_X10_boat launch0) rfl ls st μ
theorem e_X10_boat_55 (Q : ix_R → Prop) (ls : ix_L) (st : List ix_V) (μ : ix_M) : ix_Ev o_X10_boat Q (55, ls, st, μ) = ix_iret (ix_Ev o_X10_boat Q) Q ls st μ := ix_Ev.eq (a_X10_boat launch0) rfl ls st μ
def o_X11_boat : List (Nat × ix_Op) := [
  (0, ix_iload 1 1),
  (1, oc_X11_isKindM 4),
  (4, ix_if (fun x => x = 0) 14 7),
  (7, ix_iload 2 8),
  (8, oc_X11_isCell 11),
  (11, ix_if (fun x => x = 0) 14 21),
  (14, ix_aload 0 15),
  (15, ix_push (vi (-1000000001)) 17),
  (17, oc_X11_finding 20),
  (20, ix_iret),
  (21, ix_aload 0 22),
  (22, ix_getr 10 20 (fun _ => 113) 25),
  (25, ix_push (vi 1) 26),
  (26, ix_iald 27),
  (27, ix_push (vi 8) 29),
  (29, ix_cmp (fun x y => x = y) 32 41),
  (32, ix_aload 0 33),
  (33, ix_push (vi (-1000000004)) 35),
  (35, oc_X11_finding 38),
  (38, ix_goto 47),
  (41, ix_aload 0 42),
  (42, ix_iload 1 43),
  (43, ix_iload 2 44),
  (44, oc_X11_comes 47),
  (47, ix_iret)]
set_option maxRecDepth 20000 in
theorem a_X11_boat (l : Launch) : ix_AllS l cX11_boat 3 RX11 60 (some .int) o_X11_boat :=
  .cons (ix_s_iload_n dX11_boat_0 rfl) <|
  .cons (oc_X11_isKindM_s (ix_s_calls (k_X11_isKindM l) (by decide) (by decide) tw_1123 tw_12 tw_1121 tw_1122 ⟨by decide, by decide, by decide +kernel⟩ (fun _ => rfl) dX11_boat_1)) <|
  .cons (ix_s_if_eq dX11_boat_4 (by decide)) <|
  .cons (ix_s_iload_n dX11_boat_7 rfl) <|
  .cons (oc_X11_isCell_s (ix_s_calls (k_X11_isCell l) (by decide) (by decide) tw_1067 tw_12 tw_1065 tw_1066 ⟨by decide, by decide, by decide +kernel⟩ (fun _ => rfl) dX11_boat_8)) <|
  .cons (ix_s_if_ne dX11_boat_11 (by decide)) <|
  .cons (ix_s_aload_n dX11_boat_14 rfl) <|
  .cons (ix_s_ldc tw_961 dX11_boat_15) <|
  .cons (oc_X11_finding_s (ix_s_callv (t := 10) (k_X11_finding l) (by decide) (by decide) tw_965 tw_12 tw_962 tw_964 tp_18 ⟨by decide, by decide, by decide +kernel⟩ (by decide) rfl rfl (fun _ => ⟨_, _, rfl, rfl⟩) dX11_boat_17)) <|
  .cons (ix_s_iret dX11_boat_20 rfl) <|
  .cons (ix_s_aload_n dX11_boat_21 rfl) <|
  .cons (ix_s_getr (j := 0) tu_X11 rfl (by decide) (by decide) tw_875 rfl ts_10_0_r dX11_boat_22) <|
  .cons (ix_s_iconst dX11_boat_25 (by decide +kernel)) <|
  .cons (ix_s_iald dX11_boat_26) <|
  .cons (ix_s_bipush dX11_boat_27 (by decide +kernel)) <|
  .cons (ix_s_cmp_ne dX11_boat_29 (by decide)) <|
  .cons (ix_s_aload_n dX11_boat_32 rfl) <|
  .cons (ix_s_ldc tw_967 dX11_boat_33) <|
  .cons (oc_X11_finding_s (ix_s_callv (t := 10) (k_X11_finding l) (by decide) (by decide) tw_965 tw_12 tw_962 tw_964 tp_18 ⟨by decide, by decide, by decide +kernel⟩ (by decide) rfl rfl (fun _ => ⟨_, _, rfl, rfl⟩) dX11_boat_35)) <|
  .cons (ix_s_goto dX11_boat_38 (by decide)) <|
  .cons (ix_s_aload_n dX11_boat_41 rfl) <|
  .cons (ix_s_iload_n dX11_boat_42 rfl) <|
  .cons (ix_s_iload_n dX11_boat_43 rfl) <|
  .cons (oc_X11_comes_s (ix_s_callv (t := 10) (k_X11_comes l) (by decide) (by decide) tw_1127 tw_12 tw_1124 tw_1126 tp_36 ⟨by decide, by decide, by decide +kernel⟩ (by decide) rfl rfl (fun _ => ⟨_, _, rfl, rfl⟩) dX11_boat_44)) <|
  .cons (ix_s_iret dX11_boat_47 rfl) <| .nil
theorem e_X11_boat_0 (Q : ix_R → Prop) (ls : ix_L) (st : List ix_V) (μ : ix_M) : ix_Ev o_X11_boat Q (0, ls, st, μ) = ix_iload 1 1 (ix_Ev o_X11_boat Q) Q ls st μ := ix_Ev.eq (a_X11_boat launch0) rfl ls st μ
theorem e_X11_boat_1 (Q : ix_R → Prop) (ls : ix_L) (st : List ix_V) (μ : ix_M) : ix_Ev o_X11_boat Q (1, ls, st, μ) = oc_X11_isKindM 4 (ix_Ev o_X11_boat Q) Q ls st μ := ix_Ev.eq (a_X11_boat launch0) rfl ls st μ
theorem e_X11_boat_4 (Q : ix_R → Prop) (ls : ix_L) (st : List ix_V) (μ : ix_M) : ix_Ev o_X11_boat Q (4, ls, st, μ) = ix_if (fun x => x = 0) 14 7 (ix_Ev o_X11_boat Q) Q ls st μ := ix_Ev.eq (a_X11_boat launch0) rfl ls st μ
theorem e_X11_boat_7 (Q : ix_R → Prop) (ls : ix_L) (st : List ix_V) (μ : ix_M) : ix_Ev o_X11_boat Q (7, ls, st, μ) = ix_iload 2 8 (ix_Ev o_X11_boat Q) Q ls st μ := ix_Ev.eq (a_X11_boat launch0) rfl ls st μ
theorem e_X11_boat_8 (Q : ix_R → Prop) (ls : ix_L) (st : List ix_V) (μ : ix_M) : ix_Ev o_X11_boat Q (8, ls, st, μ) = oc_X11_isCell 11 (ix_Ev o_X11_boat Q) Q ls st μ := ix_Ev.eq (a_X11_boat launch0) rfl ls st μ
theorem e_X11_boat_11 (Q : ix_R → Prop) (ls : ix_L) (st : List ix_V) (μ : ix_M) : ix_Ev o_X11_boat Q (11, ls, st, μ) = ix_if (fun x => x = 0) 14 21 (ix_Ev o_X11_boat Q) Q ls st μ := ix_Ev.eq (a_X11_boat launch0) rfl ls st μ
theorem e_X11_boat_14 (Q : ix_R → Prop) (ls : ix_L) (st : List ix_V) (μ : ix_M) : ix_Ev o_X11_boat Q (14, ls, st, μ) = ix_aload 0 15 (ix_Ev o_X11_boat Q) Q ls st μ := ix_Ev.eq (a_X11_boat launch0) rfl ls st μ
theorem e_X11_boat_15 (Q : ix_R → Prop) (ls : ix_L) (st : List ix_V) (μ : ix_M) : ix_Ev o_X11_boat Q (15, ls, st, μ) = ix_push (vi (-1000000001)) 17 (ix_Ev o_X11_boat Q) Q ls st μ := ix_Ev.eq (a_X11_boat launch0) rfl ls st μ
theorem e_X11_boat_17 (Q : ix_R → Prop) (ls : ix_L) (st : List ix_V) (μ : ix_M) : ix_Ev o_X11_boat Q (17, ls, st, μ) = oc_X11_finding 20 (ix_Ev o_X11_boat Q) Q ls st μ := ix_Ev.eq (a_X11_boat launch0) rfl ls st μ
theorem e_X11_boat_20 (Q : ix_R → Prop) (ls : ix_L) (st : List ix_V) (μ : ix_M) : ix_Ev o_X11_boat Q (20, ls, st, μ) = ix_iret (ix_Ev o_X11_boat Q) Q ls st μ := ix_Ev.eq (a_X11_boat launch0) rfl ls st μ
theorem e_X11_boat_21 (Q : ix_R → Prop) (ls : ix_L) (st : List ix_V) (μ : ix_M) : ix_Ev o_X11_boat Q (21, ls, st, μ) = ix_aload 0 22 (ix_Ev o_X11_boat Q) Q ls st μ := ix_Ev.eq (a_X11_boat launch0) rfl ls st μ
theorem e_X11_boat_22 (Q : ix_R → Prop) (ls : ix_L) (st : List ix_V) (μ : ix_M) : ix_Ev o_X11_boat Q (22, ls, st, μ) = ix_getr 10 20 (fun _ => 113) 25 (ix_Ev o_X11_boat Q) Q ls st μ := ix_Ev.eq (a_X11_boat launch0) rfl ls st μ
theorem e_X11_boat_25 (Q : ix_R → Prop) (ls : ix_L) (st : List ix_V) (μ : ix_M) : ix_Ev o_X11_boat Q (25, ls, st, μ) = ix_push (vi 1) 26 (ix_Ev o_X11_boat Q) Q ls st μ := ix_Ev.eq (a_X11_boat launch0) rfl ls st μ
theorem e_X11_boat_26 (Q : ix_R → Prop) (ls : ix_L) (st : List ix_V) (μ : ix_M) : ix_Ev o_X11_boat Q (26, ls, st, μ) = ix_iald 27 (ix_Ev o_X11_boat Q) Q ls st μ := ix_Ev.eq (a_X11_boat launch0) rfl ls st μ
theorem e_X11_boat_27 (Q : ix_R → Prop) (ls : ix_L) (st : List ix_V) (μ : ix_M) : ix_Ev o_X11_boat Q (27, ls, st, μ) = ix_push (vi 8) 29 (ix_Ev o_X11_boat Q) Q ls st μ := ix_Ev.eq (a_X11_boat launch0) rfl ls st μ
theorem e_X11_boat_29 (Q : ix_R → Prop) (ls : ix_L) (st : List ix_V) (μ : ix_M) : ix_Ev o_X11_boat Q (29, ls, st, μ) = ix_cmp (fun x y => x = y) 32 41 (ix_Ev o_X11_boat Q) Q ls st μ := ix_Ev.eq (a_X11_boat launch0) rfl ls st μ
theorem e_X11_boat_32 (Q : ix_R → Prop) (ls : ix_L) (st : List ix_V) (μ : ix_M) : ix_Ev o_X11_boat Q (32, ls, st, μ) = ix_aload 0 33 (ix_Ev o_X11_boat Q) Q ls st μ := ix_Ev.eq (a_X11_boat launch0) rfl ls st μ
theorem e_X11_boat_33 (Q : ix_R → Prop) (ls : ix_L) (st : List ix_V) (μ : ix_M) : ix_Ev o_X11_boat Q (33, ls, st, μ) = ix_push (vi (-1000000004)) 35 (ix_Ev o_X11_boat Q) Q ls st μ := ix_Ev.eq (a_X11_boat launch0) rfl ls st μ
theorem e_X11_boat_35 (Q : ix_R → Prop) (ls : ix_L) (st : List ix_V) (μ : ix_M) : ix_Ev o_X11_boat Q (35, ls, st, μ) = oc_X11_finding 38 (ix_Ev o_X11_boat Q) Q ls st μ := ix_Ev.eq (a_X11_boat launch0) rfl ls st μ
theorem e_X11_boat_38 (Q : ix_R → Prop) (ls : ix_L) (st : List ix_V) (μ : ix_M) : ix_Ev o_X11_boat Q (38, ls, st, μ) = ix_goto 47 (ix_Ev o_X11_boat Q) Q ls st μ := ix_Ev.eq (a_X11_boat launch0) rfl ls st μ
theorem e_X11_boat_41 (Q : ix_R → Prop) (ls : ix_L) (st : List ix_V) (μ : ix_M) : ix_Ev o_X11_boat Q (41, ls, st, μ) = ix_aload 0 42 (ix_Ev o_X11_boat Q) Q ls st μ := ix_Ev.eq (a_X11_boat launch0) rfl ls st μ
theorem e_X11_boat_42 (Q : ix_R → Prop) (ls : ix_L) (st : List ix_V) (μ : ix_M) : ix_Ev o_X11_boat Q (42, ls, st, μ) = ix_iload 1 43 (ix_Ev o_X11_boat Q) Q ls st μ := ix_Ev.eq (a_X11_boat launch0) rfl ls st μ
theorem e_X11_boat_43 (Q : ix_R → Prop) (ls : ix_L) (st : List ix_V) (μ : ix_M) : ix_Ev o_X11_boat Q (43, ls, st, μ) = ix_iload 2 44 (ix_Ev o_X11_boat Q) Q ls st μ := ix_Ev.eq (a_X11_boat launch0) rfl ls st μ
theorem e_X11_boat_44 (Q : ix_R → Prop) (ls : ix_L) (st : List ix_V) (μ : ix_M) : ix_Ev o_X11_boat Q (44, ls, st, μ) = oc_X11_comes 47 (ix_Ev o_X11_boat Q) Q ls st μ := ix_Ev.eq (a_X11_boat launch0) rfl ls st μ
theorem e_X11_boat_47 (Q : ix_R → Prop) (ls : ix_L) (st : List ix_V) (μ : ix_M) : ix_Ev o_X11_boat Q (47, ls, st, μ) = ix_iret (ix_Ev o_X11_boat Q) Q ls st μ := ix_Ev.eq (a_X11_boat launch0) rfl ls st μ
theorem pr_boat (k : Int32) (c : Int32) (μ : ix_M) (I : Inv μ) (Q : ix_R → Prop) (hQ : ∀ vv μ', ix_Ev o_X11_boat (Pst vv) (0, [some (vr 10 112), some (vi k), some (vi c)], [], μ') → Q (some (vi vv), μ')) : ix_Ev o_X10_boat Q (0, [some (vr 9 0), some (vi k), some (vi c)], [], μ) := by
  obtain ⟨N, hN, n1, n2⟩ := I.n
  rcases km_in k with ⟨K, hK, rfl, K1, K2, K3, K4, K5, K6, K7⟩ | ⟨hx1, hx2⟩
  · rcases inR c 15 (by decide) with ⟨C, hC, rfl⟩ | ⟨hx1, hx2⟩
    · obtain ⟨C1, C2, C3, C4⟩ : ¬ nI C < 0 ∧ ¬ (15 : Int32) < nI C ∧ 0 ≤ nI C ∧ nI C ≤ (15 : Int32) := rgN hC (by decide)
      by_cases hn : N = 8
      · subst hn
        have n3 : ¬ nI 8 < 8 := by decide
        have n4 : nI 8 = 8 := rfl
        simp (decide := true) only [e_X10_boat_0, e_X10_boat_1, e_X10_boat_4, e_X10_boat_7, e_X10_boat_8, e_X10_boat_10, e_X10_boat_13, e_X10_boat_16, e_X10_boat_17, e_X10_boat_18, e_X10_boat_21, e_X10_boat_22, e_X10_boat_23, e_X10_boat_26, e_X10_boat_29, e_X10_boat_32, e_X10_boat_34, e_X10_boat_37, e_X10_boat_38, e_X10_boat_39, e_X10_boat_42, e_X10_boat_43, e_X10_boat_44, e_X10_boat_47, e_X10_boat_50, e_X10_boat_51, e_X10_boat_52, e_X10_boat_55, vi, vl, vr, oc_X10_error, T_X10_error, oc_X10_noKindNumber, T_X10_noKindNumber, oc_X10_outside, T_X10_outside, oc_X9_launch, T_X9_launch, ix_push, ix_iload, ix_lload, ix_aload, ix_istore, ix_astore, ix_iinc, ix_bin, ix_div, ix_un, ix_i2l, ix_l2i, ix_lbin, ix_lsh, ix_lcmp, ix_dup, ix_dup2, ix_pop, ix_if, ix_cmp, ix_goto, ix_switch, ix_sw, ix_iret, ix_zret, ix_vret, ix_aret, ix_geti, ix_getr, ix_puti, ix_putz, ix_puts, ix_gets, ix_iald, ix_iast, ix_alen, ix_aald, ix_gval, ix_gcod, ix_bald, ix_blen, ix_sald, ix_nret, ix_math2, ix_math1, ix_acopy, Nat.add_assoc, Int32.reduceLT, Int32.reduceLE, Int32.reduceToNatClampNeg, Int32.reduceSub, Int32.reduceAdd, Nat.reduceAdd, Nat.reduceLeDiff, true_or, or_true, or_false, false_or, not_false_eq_true, not_true_eq_false, false_implies, true_implies, implies_true, and_self, mB_0, mB_01, Classical.not_not, Nat.zero_le, List.getElem?_cons_zero, List.getElem?_cons_succ, List.set_cons_zero, List.set_cons_succ, ix_nl, ix_cs, true_and, and_true, Option.toList_some, Option.toList_none, List.cons_append, List.nil_append, K1, K2, K3, K4, K5, C1, C2, C3, C4, n1, n2, n3, n4, ix_up_ne, ix_up_k, ve_1, ve_2, ve_3, ve_4, ve_5]
        refine hQ _ _ ?_
        simp (decide := true) only [e_X11_boat_0, e_X11_boat_1, e_X11_boat_4, e_X11_boat_7, e_X11_boat_8, e_X11_boat_11, e_X11_boat_14, e_X11_boat_15, e_X11_boat_17, e_X11_boat_20, e_X11_boat_21, e_X11_boat_22, e_X11_boat_25, e_X11_boat_26, e_X11_boat_27, e_X11_boat_29, e_X11_boat_32, e_X11_boat_33, e_X11_boat_35, e_X11_boat_38, e_X11_boat_41, e_X11_boat_42, e_X11_boat_43, e_X11_boat_44, e_X11_boat_47, vi, vl, vr, oc_X11_comes, T_X11_comes, oc_X11_finding, T_X11_finding, oc_X11_isCell, T_X11_isCell, oc_X11_isKindM, T_X11_isKindM, ix_push, ix_iload, ix_lload, ix_aload, ix_istore, ix_astore, ix_iinc, ix_bin, ix_div, ix_un, ix_i2l, ix_l2i, ix_lbin, ix_lsh, ix_lcmp, ix_dup, ix_dup2, ix_pop, ix_if, ix_cmp, ix_goto, ix_switch, ix_sw, ix_iret, ix_zret, ix_vret, ix_aret, ix_geti, ix_getr, ix_puti, ix_putz, ix_puts, ix_gets, ix_iald, ix_iast, ix_alen, ix_aald, ix_gval, ix_gcod, ix_bald, ix_blen, ix_sald, ix_nret, ix_math2, ix_math1, ix_acopy, ml_113, ml_114, ml_115, ml_116, ml_118, ml_119, ml_120, ml_121, ml_122, ml_123, ml_124, ml_125, ml_126, mv_0, mv_1, mv_2, mv_3, mv_4, mv_5, mB_or, Nat.add_assoc, Int32.reduceLT, Int32.reduceLE, Int32.reduceToNatClampNeg, Int32.reduceSub, Int32.reduceAdd, Nat.reduceAdd, Nat.reduceLeDiff, true_or, or_true, or_false, false_or, not_false_eq_true, not_true_eq_false, false_implies, true_implies, implies_true, and_self, mB_0, mB_01, Classical.not_not, Nat.zero_le, List.getElem?_cons_zero, List.getElem?_cons_succ, List.set_cons_zero, List.set_cons_succ, ix_nl, ix_cs, true_and, and_true, Option.toList_some, Option.toList_none, List.cons_append, List.nil_append, K1, K2, K3, K4, K5, C1, C2, C3, C4, n1, n2, n3, n4, ix_up_ne, ix_up_k, ve_1, ve_2, ve_3, ve_4, ve_5]
        repeat' (first | exact I.er 4 (by decide) | refine ⟨fun _ => ?_, fun _ => ?_⟩)
      · have n3 : nI N < 8 := nI_lt (a := N) (b := 8) (by omega) (by decide)
        have n4 : ¬ nI N = 8 := fun z => hn ((nI_eq (b := 8) (by omega) (by decide)).mp z)
        have n5 : (nI N).toNatClampNeg = N := nI_clamp (by omega)
        have n6 : vp_in (nI N) 8 := vp_in_nI (by omega) (by decide)
        have n7 : nI N + 1 = nI (N + 1) := nI_1 N
        simp (decide := true) only [e_X10_boat_0, e_X10_boat_1, e_X10_boat_4, e_X10_boat_7, e_X10_boat_8, e_X10_boat_10, e_X10_boat_13, e_X10_boat_16, e_X10_boat_17, e_X10_boat_18, e_X10_boat_21, e_X10_boat_22, e_X10_boat_23, e_X10_boat_26, e_X10_boat_29, e_X10_boat_32, e_X10_boat_34, e_X10_boat_37, e_X10_boat_38, e_X10_boat_39, e_X10_boat_42, e_X10_boat_43, e_X10_boat_44, e_X10_boat_47, e_X10_boat_50, e_X10_boat_51, e_X10_boat_52, e_X10_boat_55, vi, vl, vr, oc_X10_error, T_X10_error, oc_X10_noKindNumber, T_X10_noKindNumber, oc_X10_outside, T_X10_outside, oc_X9_launch, T_X9_launch, ix_push, ix_iload, ix_lload, ix_aload, ix_istore, ix_astore, ix_iinc, ix_bin, ix_div, ix_un, ix_i2l, ix_l2i, ix_lbin, ix_lsh, ix_lcmp, ix_dup, ix_dup2, ix_pop, ix_if, ix_cmp, ix_goto, ix_switch, ix_sw, ix_iret, ix_zret, ix_vret, ix_aret, ix_geti, ix_getr, ix_puti, ix_putz, ix_puts, ix_gets, ix_iald, ix_iast, ix_alen, ix_aald, ix_gval, ix_gcod, ix_bald, ix_blen, ix_sald, ix_nret, ix_math2, ix_math1, ix_acopy, Nat.add_assoc, Int32.reduceLT, Int32.reduceLE, Int32.reduceToNatClampNeg, Int32.reduceSub, Int32.reduceAdd, Nat.reduceAdd, Nat.reduceLeDiff, true_or, or_true, or_false, false_or, not_false_eq_true, not_true_eq_false, false_implies, true_implies, implies_true, and_self, mB_0, mB_01, Classical.not_not, Nat.zero_le, List.getElem?_cons_zero, List.getElem?_cons_succ, List.set_cons_zero, List.set_cons_succ, ix_nl, ix_cs, true_and, and_true, Option.toList_some, Option.toList_none, List.cons_append, List.nil_append, K1, K2, K3, K4, K5, K6, C1, C2, C3, C4, n1, n2, n3, n4, n5, n6, n7, ix_up_ne, ix_up_k, ve_1, ve_2, ve_3, ve_4, ve_5]
        refine hQ _ _ ?_
        simp (decide := true) only [e_X11_boat_0, e_X11_boat_1, e_X11_boat_4, e_X11_boat_7, e_X11_boat_8, e_X11_boat_11, e_X11_boat_14, e_X11_boat_15, e_X11_boat_17, e_X11_boat_20, e_X11_boat_21, e_X11_boat_22, e_X11_boat_25, e_X11_boat_26, e_X11_boat_27, e_X11_boat_29, e_X11_boat_32, e_X11_boat_33, e_X11_boat_35, e_X11_boat_38, e_X11_boat_41, e_X11_boat_42, e_X11_boat_43, e_X11_boat_44, e_X11_boat_47, vi, vl, vr, oc_X11_comes, T_X11_comes, oc_X11_finding, T_X11_finding, oc_X11_isCell, T_X11_isCell, oc_X11_isKindM, T_X11_isKindM, ix_push, ix_iload, ix_lload, ix_aload, ix_istore, ix_astore, ix_iinc, ix_bin, ix_div, ix_un, ix_i2l, ix_l2i, ix_lbin, ix_lsh, ix_lcmp, ix_dup, ix_dup2, ix_pop, ix_if, ix_cmp, ix_goto, ix_switch, ix_sw, ix_iret, ix_zret, ix_vret, ix_aret, ix_geti, ix_getr, ix_puti, ix_putz, ix_puts, ix_gets, ix_iald, ix_iast, ix_alen, ix_aald, ix_gval, ix_gcod, ix_bald, ix_blen, ix_sald, ix_nret, ix_math2, ix_math1, ix_acopy, ml_113, ml_114, ml_115, ml_116, ml_118, ml_119, ml_120, ml_121, ml_122, ml_123, ml_124, ml_125, ml_126, mv_0, mv_1, mv_2, mv_3, mv_4, mv_5, mB_or, Nat.add_assoc, Int32.reduceLT, Int32.reduceLE, Int32.reduceToNatClampNeg, Int32.reduceSub, Int32.reduceAdd, Nat.reduceAdd, Nat.reduceLeDiff, true_or, or_true, or_false, false_or, not_false_eq_true, not_true_eq_false, false_implies, true_implies, implies_true, and_self, mB_0, mB_01, Classical.not_not, Nat.zero_le, List.getElem?_cons_zero, List.getElem?_cons_succ, List.set_cons_zero, List.set_cons_succ, ix_nl, ix_cs, true_and, and_true, Option.toList_some, Option.toList_none, List.cons_append, List.nil_append, K1, K2, K3, K4, K5, K6, C1, C2, C3, C4, n1, n2, n3, n4, n5, n6, n7, ix_up_ne, ix_up_k, ve_1, ve_2, ve_3, ve_4, ve_5]
        refine ⟨N, by omega, rfl, pst rfl ?_⟩
        refine Eq.mp (congrArg Inv ?_) (((((I.set (r := 4) (i := N) (x := K / 10) (wok_4 (by omega)) (by unfold wrB; omega) rfl rfl rfl).set (r := 5) (i := N) (x := K % 10) (wok_5 (by omega)) (by unfold wrB; omega) rfl (nvI_5 N) rfl).set (r := 6) (i := N) (x := C) (wok_6 (by omega)) (by unfold wrB; omega) rfl (nvI_6 N) rfl).set (r := 7) (i := N) (x := 0) (wok_7 (by omega)) (by unfold wrB; omega) rfl (nvI_7 N) rfl).cnt (x := N + 1) (by omega))
        funext a j
        by_cases h : a = 113
        · subst h
          simp [ix_up_ap]
          rfl
        · simp [ix_up_ap, h]
          rfl
    · have hx1 : c < 0 ∨ (15 : Int32) < c := hx1
      have hx2 : ¬ (0 ≤ c ∧ c ≤ (15 : Int32)) := hx2
      simp (decide := true) only [e_X10_boat_0, e_X10_boat_1, e_X10_boat_4, e_X10_boat_7, e_X10_boat_8, e_X10_boat_10, e_X10_boat_13, e_X10_boat_16, e_X10_boat_17, e_X10_boat_18, e_X10_boat_21, e_X10_boat_22, e_X10_boat_23, e_X10_boat_26, e_X10_boat_29, e_X10_boat_32, e_X10_boat_34, e_X10_boat_37, e_X10_boat_38, e_X10_boat_39, e_X10_boat_42, e_X10_boat_43, e_X10_boat_44, e_X10_boat_47, e_X10_boat_50, e_X10_boat_51, e_X10_boat_52, e_X10_boat_55, vi, vl, vr, oc_X10_error, T_X10_error, oc_X10_noKindNumber, T_X10_noKindNumber, oc_X10_outside, T_X10_outside, oc_X9_launch, T_X9_launch, ix_push, ix_iload, ix_lload, ix_aload, ix_istore, ix_astore, ix_iinc, ix_bin, ix_div, ix_un, ix_i2l, ix_l2i, ix_lbin, ix_lsh, ix_lcmp, ix_dup, ix_dup2, ix_pop, ix_if, ix_cmp, ix_goto, ix_switch, ix_sw, ix_iret, ix_zret, ix_vret, ix_aret, ix_geti, ix_getr, ix_puti, ix_putz, ix_puts, ix_gets, ix_iald, ix_iast, ix_alen, ix_aald, ix_gval, ix_gcod, ix_bald, ix_blen, ix_sald, ix_nret, ix_math2, ix_math1, ix_acopy, Nat.add_assoc, Int32.reduceLT, Int32.reduceLE, Int32.reduceToNatClampNeg, Int32.reduceSub, Int32.reduceAdd, Nat.reduceAdd, Nat.reduceLeDiff, true_or, or_true, or_false, false_or, not_false_eq_true, not_true_eq_false, false_implies, true_implies, implies_true, and_self, mB_0, mB_01, Classical.not_not, Nat.zero_le, List.getElem?_cons_zero, List.getElem?_cons_succ, List.set_cons_zero, List.set_cons_succ, ix_nl, ix_cs, true_and, and_true, Option.toList_some, Option.toList_none, List.cons_append, List.nil_append, K1, K2, K3, K4, K5, hx1, hx2, ix_up_ne, ix_up_k, ve_1, ve_2, ve_3, ve_4, ve_5]
      refine hQ _ _ ?_
      simp (decide := true) only [e_X11_boat_0, e_X11_boat_1, e_X11_boat_4, e_X11_boat_7, e_X11_boat_8, e_X11_boat_11, e_X11_boat_14, e_X11_boat_15, e_X11_boat_17, e_X11_boat_20, e_X11_boat_21, e_X11_boat_22, e_X11_boat_25, e_X11_boat_26, e_X11_boat_27, e_X11_boat_29, e_X11_boat_32, e_X11_boat_33, e_X11_boat_35, e_X11_boat_38, e_X11_boat_41, e_X11_boat_42, e_X11_boat_43, e_X11_boat_44, e_X11_boat_47, vi, vl, vr, oc_X11_comes, T_X11_comes, oc_X11_finding, T_X11_finding, oc_X11_isCell, T_X11_isCell, oc_X11_isKindM, T_X11_isKindM, ix_push, ix_iload, ix_lload, ix_aload, ix_istore, ix_astore, ix_iinc, ix_bin, ix_div, ix_un, ix_i2l, ix_l2i, ix_lbin, ix_lsh, ix_lcmp, ix_dup, ix_dup2, ix_pop, ix_if, ix_cmp, ix_goto, ix_switch, ix_sw, ix_iret, ix_zret, ix_vret, ix_aret, ix_geti, ix_getr, ix_puti, ix_putz, ix_puts, ix_gets, ix_iald, ix_iast, ix_alen, ix_aald, ix_gval, ix_gcod, ix_bald, ix_blen, ix_sald, ix_nret, ix_math2, ix_math1, ix_acopy, ml_113, ml_114, ml_115, ml_116, ml_118, ml_119, ml_120, ml_121, ml_122, ml_123, ml_124, ml_125, ml_126, mv_0, mv_1, mv_2, mv_3, mv_4, mv_5, mB_or, Nat.add_assoc, Int32.reduceLT, Int32.reduceLE, Int32.reduceToNatClampNeg, Int32.reduceSub, Int32.reduceAdd, Nat.reduceAdd, Nat.reduceLeDiff, true_or, or_true, or_false, false_or, not_false_eq_true, not_true_eq_false, false_implies, true_implies, implies_true, and_self, mB_0, mB_01, Classical.not_not, Nat.zero_le, List.getElem?_cons_zero, List.getElem?_cons_succ, List.set_cons_zero, List.set_cons_succ, ix_nl, ix_cs, true_and, and_true, Option.toList_some, Option.toList_none, List.cons_append, List.nil_append, K1, K2, K3, K4, K5, hx1, hx2, ix_up_ne, ix_up_k, ve_1, ve_2, ve_3, ve_4, ve_5]
      repeat' (first | exact I.er 1 (by decide) | refine ⟨fun _ => ?_, fun _ => ?_⟩)
  · simp (decide := true) only [e_X10_boat_0, e_X10_boat_1, e_X10_boat_4, e_X10_boat_7, e_X10_boat_8, e_X10_boat_10, e_X10_boat_13, e_X10_boat_16, e_X10_boat_17, e_X10_boat_18, e_X10_boat_21, e_X10_boat_22, e_X10_boat_23, e_X10_boat_26, e_X10_boat_29, e_X10_boat_32, e_X10_boat_34, e_X10_boat_37, e_X10_boat_38, e_X10_boat_39, e_X10_boat_42, e_X10_boat_43, e_X10_boat_44, e_X10_boat_47, e_X10_boat_50, e_X10_boat_51, e_X10_boat_52, e_X10_boat_55, vi, vl, vr, oc_X10_error, T_X10_error, oc_X10_noKindNumber, T_X10_noKindNumber, oc_X10_outside, T_X10_outside, oc_X9_launch, T_X9_launch, ix_push, ix_iload, ix_lload, ix_aload, ix_istore, ix_astore, ix_iinc, ix_bin, ix_div, ix_un, ix_i2l, ix_l2i, ix_lbin, ix_lsh, ix_lcmp, ix_dup, ix_dup2, ix_pop, ix_if, ix_cmp, ix_goto, ix_switch, ix_sw, ix_iret, ix_zret, ix_vret, ix_aret, ix_geti, ix_getr, ix_puti, ix_putz, ix_puts, ix_gets, ix_iald, ix_iast, ix_alen, ix_aald, ix_gval, ix_gcod, ix_bald, ix_blen, ix_sald, ix_nret, ix_math2, ix_math1, ix_acopy, Nat.add_assoc, Int32.reduceLT, Int32.reduceLE, Int32.reduceToNatClampNeg, Int32.reduceSub, Int32.reduceAdd, Nat.reduceAdd, Nat.reduceLeDiff, true_or, or_true, or_false, false_or, not_false_eq_true, not_true_eq_false, false_implies, true_implies, implies_true, and_self, mB_0, mB_01, Classical.not_not, Nat.zero_le, List.getElem?_cons_zero, List.getElem?_cons_succ, List.set_cons_zero, List.set_cons_succ, ix_nl, ix_cs, true_and, and_true, Option.toList_some, Option.toList_none, List.cons_append, List.nil_append, hx1, hx2, ix_up_ne, ix_up_k, ve_1, ve_2, ve_3, ve_4, ve_5]
    refine hQ _ _ ?_
    simp (decide := true) only [e_X11_boat_0, e_X11_boat_1, e_X11_boat_4, e_X11_boat_7, e_X11_boat_8, e_X11_boat_11, e_X11_boat_14, e_X11_boat_15, e_X11_boat_17, e_X11_boat_20, e_X11_boat_21, e_X11_boat_22, e_X11_boat_25, e_X11_boat_26, e_X11_boat_27, e_X11_boat_29, e_X11_boat_32, e_X11_boat_33, e_X11_boat_35, e_X11_boat_38, e_X11_boat_41, e_X11_boat_42, e_X11_boat_43, e_X11_boat_44, e_X11_boat_47, vi, vl, vr, oc_X11_comes, T_X11_comes, oc_X11_finding, T_X11_finding, oc_X11_isCell, T_X11_isCell, oc_X11_isKindM, T_X11_isKindM, ix_push, ix_iload, ix_lload, ix_aload, ix_istore, ix_astore, ix_iinc, ix_bin, ix_div, ix_un, ix_i2l, ix_l2i, ix_lbin, ix_lsh, ix_lcmp, ix_dup, ix_dup2, ix_pop, ix_if, ix_cmp, ix_goto, ix_switch, ix_sw, ix_iret, ix_zret, ix_vret, ix_aret, ix_geti, ix_getr, ix_puti, ix_putz, ix_puts, ix_gets, ix_iald, ix_iast, ix_alen, ix_aald, ix_gval, ix_gcod, ix_bald, ix_blen, ix_sald, ix_nret, ix_math2, ix_math1, ix_acopy, ml_113, ml_114, ml_115, ml_116, ml_118, ml_119, ml_120, ml_121, ml_122, ml_123, ml_124, ml_125, ml_126, mv_0, mv_1, mv_2, mv_3, mv_4, mv_5, mB_or, Nat.add_assoc, Int32.reduceLT, Int32.reduceLE, Int32.reduceToNatClampNeg, Int32.reduceSub, Int32.reduceAdd, Nat.reduceAdd, Nat.reduceLeDiff, true_or, or_true, or_false, false_or, not_false_eq_true, not_true_eq_false, false_implies, true_implies, implies_true, and_self, mB_0, mB_01, Classical.not_not, Nat.zero_le, List.getElem?_cons_zero, List.getElem?_cons_succ, List.set_cons_zero, List.set_cons_succ, ix_nl, ix_cs, true_and, and_true, Option.toList_some, Option.toList_none, List.cons_append, List.nil_append, hx1, hx2, ix_up_ne, ix_up_k, ve_1, ve_2, ve_3, ve_4, ve_5]
    repeat' (first | exact I.er 1 (by decide) | refine ⟨fun _ => ?_, fun _ => ?_⟩)
def o_X10_change : List (Nat × ix_Op) := [
  (0, ix_aload 0 1),
  (1, ix_iload 1 2),
  (2, oc_X10_noBoat 5),
  (5, ix_if (fun x => x = 0) 8 34),
  (8, ix_iload 2 9),
  (9, ix_push (vi 1) 10),
  (10, oc_X10_outside 13),
  (13, ix_if (fun x => x = 0) 16 34),
  (16, ix_iload 3 17),
  (17, ix_iload 2 18),
  (18, ix_if (fun x => x = 0) 21 26),
  (21, ix_push (vi 15) 23),
  (23, ix_goto 28),
  (26, ix_push (vi 99) 28),
  (28, oc_X10_outside 31),
  (31, ix_if (fun x => x = 0) 40 34),
  (34, ix_aload 0 35),
  (35, ix_push (vi 1) 36),
  (36, oc_X10_error 39),
  (39, ix_iret),
  (40, ix_iload 2 41),
  (41, ix_if (fun x => x = 0) 44 57),
  (44, ix_aload 0 45),
  (45, ix_getr 9 5 (fun _ => 1) 48),
  (48, ix_getr 5 8 (fun k => k + 1) 51),
  (51, ix_getr 8 20 (fun k => k + 6) 54),
  (54, ix_goto 67),
  (57, ix_aload 0 58),
  (58, ix_getr 9 5 (fun _ => 1) 61),
  (61, ix_getr 5 8 (fun k => k + 1) 64),
  (64, ix_getr 8 20 (fun k => k + 7) 67),
  (67, ix_iload 1 68),
  (68, ix_iload 3 69),
  (69, oc_X10_exchange 72),
  (72, ix_iret)]
set_option maxRecDepth 20000 in
theorem a_X10_change (l : Launch) : ix_AllS l cX10_change 4 RX10 60 (some .int) o_X10_change :=
  .cons (ix_s_aload_n dX10_change_0 rfl) <|
  .cons (ix_s_iload_n dX10_change_1 rfl) <|
  .cons (oc_X10_noBoat_s (ix_s_callv (t := 9) (k_X10_noBoat l) (by decide) (by decide) tw_369 tw_1 tw_366 tw_368 tp_1 ⟨by decide, by decide, by decide +kernel⟩ (by decide) rfl rfl (fun _ => ⟨_, _, rfl, rfl⟩) dX10_change_2)) <|
  .cons (ix_s_if_ne dX10_change_5 (by decide)) <|
  .cons (ix_s_iload_n dX10_change_8 rfl) <|
  .cons (ix_s_iconst dX10_change_9 (by decide +kernel)) <|
  .cons (oc_X10_outside_s (ix_s_calls (k_X10_outside l) (by decide) (by decide) tw_291 tw_1 tw_289 tw_290 ⟨by decide, by decide, by decide +kernel⟩ (fun _ => rfl) dX10_change_10)) <|
  .cons (ix_s_if_ne dX10_change_13 (by decide)) <|
  .cons (ix_s_iload_n dX10_change_16 rfl) <|
  .cons (ix_s_iload_n dX10_change_17 rfl) <|
  .cons (ix_s_if_ne dX10_change_18 (by decide)) <|
  .cons (ix_s_bipush dX10_change_21 (by decide +kernel)) <|
  .cons (ix_s_goto dX10_change_23 (by decide)) <|
  .cons (ix_s_bipush dX10_change_26 (by decide +kernel)) <|
  .cons (oc_X10_outside_s (ix_s_calls (k_X10_outside l) (by decide) (by decide) tw_291 tw_1 tw_289 tw_290 ⟨by decide, by decide, by decide +kernel⟩ (fun _ => rfl) dX10_change_28)) <|
  .cons (ix_s_if_eq dX10_change_31 (by decide)) <|
  .cons (ix_s_aload_n dX10_change_34 rfl) <|
  .cons (ix_s_iconst dX10_change_35 (by decide +kernel)) <|
  .cons (oc_X10_error_s (ix_s_callv (t := 9) (k_X10_error l) (by decide) (by decide) tw_295 tw_1 tw_292 tw_294 tp_0 ⟨by decide, by decide, by decide +kernel⟩ (by decide) rfl rfl (fun _ => ⟨_, _, rfl, rfl⟩) dX10_change_36)) <|
  .cons (ix_s_iret dX10_change_39 rfl) <|
  .cons (ix_s_iload_n dX10_change_40 rfl) <|
  .cons (ix_s_if_ne dX10_change_41 (by decide)) <|
  .cons (ix_s_aload_n dX10_change_44 rfl) <|
  .cons (ix_s_getr (j := 0) tu_X10 rfl (by decide) (by decide) tw_251 rfl ts_9_0_r dX10_change_45) <|
  .cons (ix_s_getr (j := 0) tu_X6 rfl (by decide) (by decide) tw_138 rfl ts_5_0_r dX10_change_48) <|
  .cons (ix_s_getr (j := 5) tu_X9 rfl (by decide) (by decide) tw_51 rfl ts_8_5_r dX10_change_51) <|
  .cons (ix_s_goto dX10_change_54 (by decide)) <|
  .cons (ix_s_aload_n dX10_change_57 rfl) <|
  .cons (ix_s_getr (j := 0) tu_X10 rfl (by decide) (by decide) tw_251 rfl ts_9_0_r dX10_change_58) <|
  .cons (ix_s_getr (j := 0) tu_X6 rfl (by decide) (by decide) tw_138 rfl ts_5_0_r dX10_change_61) <|
  .cons (ix_s_getr (j := 6) tu_X9 rfl (by decide) (by decide) tw_54 rfl ts_8_6_r dX10_change_64) <|
  .cons (ix_s_iload_n dX10_change_67 rfl) <|
  .cons (ix_s_iload_n dX10_change_68 rfl) <|
  .cons (oc_X10_exchange_s (ix_s_calls (k_X10_exchange l) (by decide) (by decide) tw_299 tw_1 tw_297 tw_298 ⟨by decide, by decide, by decide +kernel⟩ (fun _ => rfl) dX10_change_69)) <|
  .cons (ix_s_iret dX10_change_72 rfl) <| .nil
theorem e_X10_change_0 (Q : ix_R → Prop) (ls : ix_L) (st : List ix_V) (μ : ix_M) : ix_Ev o_X10_change Q (0, ls, st, μ) = ix_aload 0 1 (ix_Ev o_X10_change Q) Q ls st μ := ix_Ev.eq (a_X10_change launch0) rfl ls st μ
theorem e_X10_change_1 (Q : ix_R → Prop) (ls : ix_L) (st : List ix_V) (μ : ix_M) : ix_Ev o_X10_change Q (1, ls, st, μ) = ix_iload 1 2 (ix_Ev o_X10_change Q) Q ls st μ := ix_Ev.eq (a_X10_change launch0) rfl ls st μ
theorem e_X10_change_2 (Q : ix_R → Prop) (ls : ix_L) (st : List ix_V) (μ : ix_M) : ix_Ev o_X10_change Q (2, ls, st, μ) = oc_X10_noBoat 5 (ix_Ev o_X10_change Q) Q ls st μ := ix_Ev.eq (a_X10_change launch0) rfl ls st μ
theorem e_X10_change_5 (Q : ix_R → Prop) (ls : ix_L) (st : List ix_V) (μ : ix_M) : ix_Ev o_X10_change Q (5, ls, st, μ) = ix_if (fun x => x = 0) 8 34 (ix_Ev o_X10_change Q) Q ls st μ := ix_Ev.eq (a_X10_change launch0) rfl ls st μ
theorem e_X10_change_8 (Q : ix_R → Prop) (ls : ix_L) (st : List ix_V) (μ : ix_M) : ix_Ev o_X10_change Q (8, ls, st, μ) = ix_iload 2 9 (ix_Ev o_X10_change Q) Q ls st μ := ix_Ev.eq (a_X10_change launch0) rfl ls st μ
theorem e_X10_change_9 (Q : ix_R → Prop) (ls : ix_L) (st : List ix_V) (μ : ix_M) : ix_Ev o_X10_change Q (9, ls, st, μ) = ix_push (vi 1) 10 (ix_Ev o_X10_change Q) Q ls st μ := ix_Ev.eq (a_X10_change launch0) rfl ls st μ
theorem e_X10_change_10 (Q : ix_R → Prop) (ls : ix_L) (st : List ix_V) (μ : ix_M) : ix_Ev o_X10_change Q (10, ls, st, μ) = oc_X10_outside 13 (ix_Ev o_X10_change Q) Q ls st μ := ix_Ev.eq (a_X10_change launch0) rfl ls st μ
theorem e_X10_change_13 (Q : ix_R → Prop) (ls : ix_L) (st : List ix_V) (μ : ix_M) : ix_Ev o_X10_change Q (13, ls, st, μ) = ix_if (fun x => x = 0) 16 34 (ix_Ev o_X10_change Q) Q ls st μ := ix_Ev.eq (a_X10_change launch0) rfl ls st μ
theorem e_X10_change_16 (Q : ix_R → Prop) (ls : ix_L) (st : List ix_V) (μ : ix_M) : ix_Ev o_X10_change Q (16, ls, st, μ) = ix_iload 3 17 (ix_Ev o_X10_change Q) Q ls st μ := ix_Ev.eq (a_X10_change launch0) rfl ls st μ
theorem e_X10_change_17 (Q : ix_R → Prop) (ls : ix_L) (st : List ix_V) (μ : ix_M) : ix_Ev o_X10_change Q (17, ls, st, μ) = ix_iload 2 18 (ix_Ev o_X10_change Q) Q ls st μ := ix_Ev.eq (a_X10_change launch0) rfl ls st μ
theorem e_X10_change_18 (Q : ix_R → Prop) (ls : ix_L) (st : List ix_V) (μ : ix_M) : ix_Ev o_X10_change Q (18, ls, st, μ) = ix_if (fun x => x = 0) 21 26 (ix_Ev o_X10_change Q) Q ls st μ := ix_Ev.eq (a_X10_change launch0) rfl ls st μ
theorem e_X10_change_21 (Q : ix_R → Prop) (ls : ix_L) (st : List ix_V) (μ : ix_M) : ix_Ev o_X10_change Q (21, ls, st, μ) = ix_push (vi 15) 23 (ix_Ev o_X10_change Q) Q ls st μ := ix_Ev.eq (a_X10_change launch0) rfl ls st μ
theorem e_X10_change_23 (Q : ix_R → Prop) (ls : ix_L) (st : List ix_V) (μ : ix_M) : ix_Ev o_X10_change Q (23, ls, st, μ) = ix_goto 28 (ix_Ev o_X10_change Q) Q ls st μ := ix_Ev.eq (a_X10_change launch0) rfl ls st μ
theorem e_X10_change_26 (Q : ix_R → Prop) (ls : ix_L) (st : List ix_V) (μ : ix_M) : ix_Ev o_X10_change Q (26, ls, st, μ) = ix_push (vi 99) 28 (ix_Ev o_X10_change Q) Q ls st μ := ix_Ev.eq (a_X10_change launch0) rfl ls st μ
theorem e_X10_change_28 (Q : ix_R → Prop) (ls : ix_L) (st : List ix_V) (μ : ix_M) : ix_Ev o_X10_change Q (28, ls, st, μ) = oc_X10_outside 31 (ix_Ev o_X10_change Q) Q ls st μ := ix_Ev.eq (a_X10_change launch0) rfl ls st μ
theorem e_X10_change_31 (Q : ix_R → Prop) (ls : ix_L) (st : List ix_V) (μ : ix_M) : ix_Ev o_X10_change Q (31, ls, st, μ) = ix_if (fun x => x = 0) 40 34 (ix_Ev o_X10_change Q) Q ls st μ := ix_Ev.eq (a_X10_change launch0) rfl ls st μ
theorem e_X10_change_34 (Q : ix_R → Prop) (ls : ix_L) (st : List ix_V) (μ : ix_M) : ix_Ev o_X10_change Q (34, ls, st, μ) = ix_aload 0 35 (ix_Ev o_X10_change Q) Q ls st μ := ix_Ev.eq (a_X10_change launch0) rfl ls st μ
theorem e_X10_change_35 (Q : ix_R → Prop) (ls : ix_L) (st : List ix_V) (μ : ix_M) : ix_Ev o_X10_change Q (35, ls, st, μ) = ix_push (vi 1) 36 (ix_Ev o_X10_change Q) Q ls st μ := ix_Ev.eq (a_X10_change launch0) rfl ls st μ
theorem e_X10_change_36 (Q : ix_R → Prop) (ls : ix_L) (st : List ix_V) (μ : ix_M) : ix_Ev o_X10_change Q (36, ls, st, μ) = oc_X10_error 39 (ix_Ev o_X10_change Q) Q ls st μ := ix_Ev.eq (a_X10_change launch0) rfl ls st μ
theorem e_X10_change_39 (Q : ix_R → Prop) (ls : ix_L) (st : List ix_V) (μ : ix_M) : ix_Ev o_X10_change Q (39, ls, st, μ) = ix_iret (ix_Ev o_X10_change Q) Q ls st μ := ix_Ev.eq (a_X10_change launch0) rfl ls st μ
theorem e_X10_change_40 (Q : ix_R → Prop) (ls : ix_L) (st : List ix_V) (μ : ix_M) : ix_Ev o_X10_change Q (40, ls, st, μ) = ix_iload 2 41 (ix_Ev o_X10_change Q) Q ls st μ := ix_Ev.eq (a_X10_change launch0) rfl ls st μ
theorem e_X10_change_41 (Q : ix_R → Prop) (ls : ix_L) (st : List ix_V) (μ : ix_M) : ix_Ev o_X10_change Q (41, ls, st, μ) = ix_if (fun x => x = 0) 44 57 (ix_Ev o_X10_change Q) Q ls st μ := ix_Ev.eq (a_X10_change launch0) rfl ls st μ
theorem e_X10_change_44 (Q : ix_R → Prop) (ls : ix_L) (st : List ix_V) (μ : ix_M) : ix_Ev o_X10_change Q (44, ls, st, μ) = ix_aload 0 45 (ix_Ev o_X10_change Q) Q ls st μ := ix_Ev.eq (a_X10_change launch0) rfl ls st μ
theorem e_X10_change_45 (Q : ix_R → Prop) (ls : ix_L) (st : List ix_V) (μ : ix_M) : ix_Ev o_X10_change Q (45, ls, st, μ) = ix_getr 9 5 (fun _ => 1) 48 (ix_Ev o_X10_change Q) Q ls st μ := ix_Ev.eq (a_X10_change launch0) rfl ls st μ
theorem e_X10_change_48 (Q : ix_R → Prop) (ls : ix_L) (st : List ix_V) (μ : ix_M) : ix_Ev o_X10_change Q (48, ls, st, μ) = ix_getr 5 8 (fun k => k + 1) 51 (ix_Ev o_X10_change Q) Q ls st μ := ix_Ev.eq (a_X10_change launch0) rfl ls st μ
theorem e_X10_change_51 (Q : ix_R → Prop) (ls : ix_L) (st : List ix_V) (μ : ix_M) : ix_Ev o_X10_change Q (51, ls, st, μ) = ix_getr 8 20 (fun k => k + 6) 54 (ix_Ev o_X10_change Q) Q ls st μ := ix_Ev.eq (a_X10_change launch0) rfl ls st μ
theorem e_X10_change_54 (Q : ix_R → Prop) (ls : ix_L) (st : List ix_V) (μ : ix_M) : ix_Ev o_X10_change Q (54, ls, st, μ) = ix_goto 67 (ix_Ev o_X10_change Q) Q ls st μ := ix_Ev.eq (a_X10_change launch0) rfl ls st μ
theorem e_X10_change_57 (Q : ix_R → Prop) (ls : ix_L) (st : List ix_V) (μ : ix_M) : ix_Ev o_X10_change Q (57, ls, st, μ) = ix_aload 0 58 (ix_Ev o_X10_change Q) Q ls st μ := ix_Ev.eq (a_X10_change launch0) rfl ls st μ
theorem e_X10_change_58 (Q : ix_R → Prop) (ls : ix_L) (st : List ix_V) (μ : ix_M) : ix_Ev o_X10_change Q (58, ls, st, μ) = ix_getr 9 5 (fun _ => 1) 61 (ix_Ev o_X10_change Q) Q ls st μ := ix_Ev.eq (a_X10_change launch0) rfl ls st μ
theorem e_X10_change_61 (Q : ix_R → Prop) (ls : ix_L) (st : List ix_V) (μ : ix_M) : ix_Ev o_X10_change Q (61, ls, st, μ) = ix_getr 5 8 (fun k => k + 1) 64 (ix_Ev o_X10_change Q) Q ls st μ := ix_Ev.eq (a_X10_change launch0) rfl ls st μ
theorem e_X10_change_64 (Q : ix_R → Prop) (ls : ix_L) (st : List ix_V) (μ : ix_M) : ix_Ev o_X10_change Q (64, ls, st, μ) = ix_getr 8 20 (fun k => k + 7) 67 (ix_Ev o_X10_change Q) Q ls st μ := ix_Ev.eq (a_X10_change launch0) rfl ls st μ
theorem e_X10_change_67 (Q : ix_R → Prop) (ls : ix_L) (st : List ix_V) (μ : ix_M) : ix_Ev o_X10_change Q (67, ls, st, μ) = ix_iload 1 68 (ix_Ev o_X10_change Q) Q ls st μ := ix_Ev.eq (a_X10_change launch0) rfl ls st μ
theorem e_X10_change_68 (Q : ix_R → Prop) (ls : ix_L) (st : List ix_V) (μ : ix_M) : ix_Ev o_X10_change Q (68, ls, st, μ) = ix_iload 3 69 (ix_Ev o_X10_change Q) Q ls st μ := ix_Ev.eq (a_X10_change launch0) rfl ls st μ
theorem e_X10_change_69 (Q : ix_R → Prop) (ls : ix_L) (st : List ix_V) (μ : ix_M) : ix_Ev o_X10_change Q (69, ls, st, μ) = oc_X10_exchange 72 (ix_Ev o_X10_change Q) Q ls st μ := ix_Ev.eq (a_X10_change launch0) rfl ls st μ
theorem e_X10_change_72 (Q : ix_R → Prop) (ls : ix_L) (st : List ix_V) (μ : ix_M) : ix_Ev o_X10_change Q (72, ls, st, μ) = ix_iret (ix_Ev o_X10_change Q) Q ls st μ := ix_Ev.eq (a_X10_change launch0) rfl ls st μ
def o_X11_change : List (Nat × ix_Op) := [
  (0, ix_iload 2 1),
  (1, ix_if (fun x => x = 0) 4 11),
  (4, ix_iload 3 5),
  (5, oc_X11_isCell 8),
  (8, ix_goto 28),
  (11, ix_iload 2 12),
  (12, ix_push (vi 1) 13),
  (13, ix_cmp (fun x y => x = y) 16 27),
  (16, ix_iload 3 17),
  (17, oc_X11_isMost 20),
  (20, ix_if (fun x => x = 0) 27 23),
  (23, ix_push (vi 1) 24),
  (24, ix_goto 28),
  (27, ix_push (vi 0) 28),
  (28, ix_istore 4 30),
  (30, ix_aload 0 31),
  (31, ix_iload 1 32),
  (32, oc_X11_isBoat 35),
  (35, ix_if (fun x => x = 0) 58 38),
  (38, ix_iload 4 40),
  (40, ix_if (fun x => x = 0) 58 43),
  (43, ix_aload 0 44),
  (44, ix_iload 1 45),
  (45, ix_push (vi 2) 46),
  (46, ix_iload 2 47),
  (47, ix_bin (fun x y => x + y) 48),
  (48, oc_X11_boatAt 51),
  (51, ix_iload 3 52),
  (52, oc_X11_turn 55),
  (55, ix_goto 64),
  (58, ix_aload 0 59),
  (59, ix_push (vi (-1000000001)) 61),
  (61, oc_X11_finding 64),
  (64, ix_iret)]
set_option maxRecDepth 20000 in
theorem a_X11_change (l : Launch) : ix_AllS l cX11_change 5 RX11 60 (some .int) o_X11_change :=
  .cons (ix_s_iload_n dX11_change_0 rfl) <|
  .cons (ix_s_if_ne dX11_change_1 (by decide)) <|
  .cons (ix_s_iload_n dX11_change_4 rfl) <|
  .cons (oc_X11_isCell_s (ix_s_calls (k_X11_isCell l) (by decide) (by decide) tw_1067 tw_12 tw_1065 tw_1066 ⟨by decide, by decide, by decide +kernel⟩ (fun _ => rfl) dX11_change_5)) <|
  .cons (ix_s_goto dX11_change_8 (by decide)) <|
  .cons (ix_s_iload_n dX11_change_11 rfl) <|
  .cons (ix_s_iconst dX11_change_12 (by decide +kernel)) <|
  .cons (ix_s_cmp_ne dX11_change_13 (by decide)) <|
  .cons (ix_s_iload_n dX11_change_16 rfl) <|
  .cons (oc_X11_isMost_s (ix_s_calls (k_X11_isMost l) (by decide) (by decide) tw_1064 tw_12 tw_1062 tw_1063 ⟨by decide, by decide, by decide +kernel⟩ (fun _ => rfl) dX11_change_17)) <|
  .cons (ix_s_if_eq dX11_change_20 (by decide)) <|
  .cons (ix_s_iconst dX11_change_23 (by decide +kernel)) <|
  .cons (ix_s_goto dX11_change_24 (by decide)) <|
  .cons (ix_s_iconst dX11_change_27 (by decide +kernel)) <|
  .cons (ix_s_istore dX11_change_28 (by decide)) <|
  .cons (ix_s_aload_n dX11_change_30 rfl) <|
  .cons (ix_s_iload_n dX11_change_31 rfl) <|
  .cons (oc_X11_isBoat_s (ix_s_callv (t := 10) (k_X11_isBoat l) (by decide) (by decide) tw_1135 tw_12 tw_1132 tw_1134 tp_37 ⟨by decide, by decide, by decide +kernel⟩ (by decide) rfl rfl (fun _ => ⟨_, _, rfl, rfl⟩) dX11_change_32)) <|
  .cons (ix_s_if_eq dX11_change_35 (by decide)) <|
  .cons (ix_s_iload dX11_change_38) <|
  .cons (ix_s_if_eq dX11_change_40 (by decide)) <|
  .cons (ix_s_aload_n dX11_change_43 rfl) <|
  .cons (ix_s_iload_n dX11_change_44 rfl) <|
  .cons (ix_s_iconst dX11_change_45 (by decide +kernel)) <|
  .cons (ix_s_iload_n dX11_change_46 rfl) <|
  .cons (ix_s_iadd dX11_change_47) <|
  .cons (oc_X11_boatAt_s (ix_s_calls (k_X11_boatAt l) (by decide) (by decide) tw_1086 tw_12 tw_1084 tw_1085 ⟨by decide, by decide, by decide +kernel⟩ (fun _ => rfl) dX11_change_48)) <|
  .cons (ix_s_iload_n dX11_change_51 rfl) <|
  .cons (oc_X11_turn_s (ix_s_callv (t := 10) (k_X11_turn l) (by decide) (by decide) tw_1071 tw_12 tw_1068 tw_1070 tp_32 ⟨by decide, by decide, by decide +kernel⟩ (by decide) rfl rfl (fun _ => ⟨_, _, rfl, rfl⟩) dX11_change_52)) <|
  .cons (ix_s_goto dX11_change_55 (by decide)) <|
  .cons (ix_s_aload_n dX11_change_58 rfl) <|
  .cons (ix_s_ldc tw_961 dX11_change_59) <|
  .cons (oc_X11_finding_s (ix_s_callv (t := 10) (k_X11_finding l) (by decide) (by decide) tw_965 tw_12 tw_962 tw_964 tp_18 ⟨by decide, by decide, by decide +kernel⟩ (by decide) rfl rfl (fun _ => ⟨_, _, rfl, rfl⟩) dX11_change_61)) <|
  .cons (ix_s_iret dX11_change_64 rfl) <| .nil
theorem e_X11_change_0 (Q : ix_R → Prop) (ls : ix_L) (st : List ix_V) (μ : ix_M) : ix_Ev o_X11_change Q (0, ls, st, μ) = ix_iload 2 1 (ix_Ev o_X11_change Q) Q ls st μ := ix_Ev.eq (a_X11_change launch0) rfl ls st μ
theorem e_X11_change_1 (Q : ix_R → Prop) (ls : ix_L) (st : List ix_V) (μ : ix_M) : ix_Ev o_X11_change Q (1, ls, st, μ) = ix_if (fun x => x = 0) 4 11 (ix_Ev o_X11_change Q) Q ls st μ := ix_Ev.eq (a_X11_change launch0) rfl ls st μ
theorem e_X11_change_4 (Q : ix_R → Prop) (ls : ix_L) (st : List ix_V) (μ : ix_M) : ix_Ev o_X11_change Q (4, ls, st, μ) = ix_iload 3 5 (ix_Ev o_X11_change Q) Q ls st μ := ix_Ev.eq (a_X11_change launch0) rfl ls st μ
theorem e_X11_change_5 (Q : ix_R → Prop) (ls : ix_L) (st : List ix_V) (μ : ix_M) : ix_Ev o_X11_change Q (5, ls, st, μ) = oc_X11_isCell 8 (ix_Ev o_X11_change Q) Q ls st μ := ix_Ev.eq (a_X11_change launch0) rfl ls st μ
theorem e_X11_change_8 (Q : ix_R → Prop) (ls : ix_L) (st : List ix_V) (μ : ix_M) : ix_Ev o_X11_change Q (8, ls, st, μ) = ix_goto 28 (ix_Ev o_X11_change Q) Q ls st μ := ix_Ev.eq (a_X11_change launch0) rfl ls st μ
theorem e_X11_change_11 (Q : ix_R → Prop) (ls : ix_L) (st : List ix_V) (μ : ix_M) : ix_Ev o_X11_change Q (11, ls, st, μ) = ix_iload 2 12 (ix_Ev o_X11_change Q) Q ls st μ := ix_Ev.eq (a_X11_change launch0) rfl ls st μ
theorem e_X11_change_12 (Q : ix_R → Prop) (ls : ix_L) (st : List ix_V) (μ : ix_M) : ix_Ev o_X11_change Q (12, ls, st, μ) = ix_push (vi 1) 13 (ix_Ev o_X11_change Q) Q ls st μ := ix_Ev.eq (a_X11_change launch0) rfl ls st μ
theorem e_X11_change_13 (Q : ix_R → Prop) (ls : ix_L) (st : List ix_V) (μ : ix_M) : ix_Ev o_X11_change Q (13, ls, st, μ) = ix_cmp (fun x y => x = y) 16 27 (ix_Ev o_X11_change Q) Q ls st μ := ix_Ev.eq (a_X11_change launch0) rfl ls st μ
theorem e_X11_change_16 (Q : ix_R → Prop) (ls : ix_L) (st : List ix_V) (μ : ix_M) : ix_Ev o_X11_change Q (16, ls, st, μ) = ix_iload 3 17 (ix_Ev o_X11_change Q) Q ls st μ := ix_Ev.eq (a_X11_change launch0) rfl ls st μ
theorem e_X11_change_17 (Q : ix_R → Prop) (ls : ix_L) (st : List ix_V) (μ : ix_M) : ix_Ev o_X11_change Q (17, ls, st, μ) = oc_X11_isMost 20 (ix_Ev o_X11_change Q) Q ls st μ := ix_Ev.eq (a_X11_change launch0) rfl ls st μ
theorem e_X11_change_20 (Q : ix_R → Prop) (ls : ix_L) (st : List ix_V) (μ : ix_M) : ix_Ev o_X11_change Q (20, ls, st, μ) = ix_if (fun x => x = 0) 27 23 (ix_Ev o_X11_change Q) Q ls st μ := ix_Ev.eq (a_X11_change launch0) rfl ls st μ
theorem e_X11_change_23 (Q : ix_R → Prop) (ls : ix_L) (st : List ix_V) (μ : ix_M) : ix_Ev o_X11_change Q (23, ls, st, μ) = ix_push (vi 1) 24 (ix_Ev o_X11_change Q) Q ls st μ := ix_Ev.eq (a_X11_change launch0) rfl ls st μ
theorem e_X11_change_24 (Q : ix_R → Prop) (ls : ix_L) (st : List ix_V) (μ : ix_M) : ix_Ev o_X11_change Q (24, ls, st, μ) = ix_goto 28 (ix_Ev o_X11_change Q) Q ls st μ := ix_Ev.eq (a_X11_change launch0) rfl ls st μ
theorem e_X11_change_27 (Q : ix_R → Prop) (ls : ix_L) (st : List ix_V) (μ : ix_M) : ix_Ev o_X11_change Q (27, ls, st, μ) = ix_push (vi 0) 28 (ix_Ev o_X11_change Q) Q ls st μ := ix_Ev.eq (a_X11_change launch0) rfl ls st μ
theorem e_X11_change_28 (Q : ix_R → Prop) (ls : ix_L) (st : List ix_V) (μ : ix_M) : ix_Ev o_X11_change Q (28, ls, st, μ) = ix_istore 4 30 (ix_Ev o_X11_change Q) Q ls st μ := ix_Ev.eq (a_X11_change launch0) rfl ls st μ
theorem e_X11_change_30 (Q : ix_R → Prop) (ls : ix_L) (st : List ix_V) (μ : ix_M) : ix_Ev o_X11_change Q (30, ls, st, μ) = ix_aload 0 31 (ix_Ev o_X11_change Q) Q ls st μ := ix_Ev.eq (a_X11_change launch0) rfl ls st μ
theorem e_X11_change_31 (Q : ix_R → Prop) (ls : ix_L) (st : List ix_V) (μ : ix_M) : ix_Ev o_X11_change Q (31, ls, st, μ) = ix_iload 1 32 (ix_Ev o_X11_change Q) Q ls st μ := ix_Ev.eq (a_X11_change launch0) rfl ls st μ
theorem e_X11_change_32 (Q : ix_R → Prop) (ls : ix_L) (st : List ix_V) (μ : ix_M) : ix_Ev o_X11_change Q (32, ls, st, μ) = oc_X11_isBoat 35 (ix_Ev o_X11_change Q) Q ls st μ := ix_Ev.eq (a_X11_change launch0) rfl ls st μ
theorem e_X11_change_35 (Q : ix_R → Prop) (ls : ix_L) (st : List ix_V) (μ : ix_M) : ix_Ev o_X11_change Q (35, ls, st, μ) = ix_if (fun x => x = 0) 58 38 (ix_Ev o_X11_change Q) Q ls st μ := ix_Ev.eq (a_X11_change launch0) rfl ls st μ
theorem e_X11_change_38 (Q : ix_R → Prop) (ls : ix_L) (st : List ix_V) (μ : ix_M) : ix_Ev o_X11_change Q (38, ls, st, μ) = ix_iload 4 40 (ix_Ev o_X11_change Q) Q ls st μ := ix_Ev.eq (a_X11_change launch0) rfl ls st μ
theorem e_X11_change_40 (Q : ix_R → Prop) (ls : ix_L) (st : List ix_V) (μ : ix_M) : ix_Ev o_X11_change Q (40, ls, st, μ) = ix_if (fun x => x = 0) 58 43 (ix_Ev o_X11_change Q) Q ls st μ := ix_Ev.eq (a_X11_change launch0) rfl ls st μ
theorem e_X11_change_43 (Q : ix_R → Prop) (ls : ix_L) (st : List ix_V) (μ : ix_M) : ix_Ev o_X11_change Q (43, ls, st, μ) = ix_aload 0 44 (ix_Ev o_X11_change Q) Q ls st μ := ix_Ev.eq (a_X11_change launch0) rfl ls st μ
theorem e_X11_change_44 (Q : ix_R → Prop) (ls : ix_L) (st : List ix_V) (μ : ix_M) : ix_Ev o_X11_change Q (44, ls, st, μ) = ix_iload 1 45 (ix_Ev o_X11_change Q) Q ls st μ := ix_Ev.eq (a_X11_change launch0) rfl ls st μ
theorem e_X11_change_45 (Q : ix_R → Prop) (ls : ix_L) (st : List ix_V) (μ : ix_M) : ix_Ev o_X11_change Q (45, ls, st, μ) = ix_push (vi 2) 46 (ix_Ev o_X11_change Q) Q ls st μ := ix_Ev.eq (a_X11_change launch0) rfl ls st μ
theorem e_X11_change_46 (Q : ix_R → Prop) (ls : ix_L) (st : List ix_V) (μ : ix_M) : ix_Ev o_X11_change Q (46, ls, st, μ) = ix_iload 2 47 (ix_Ev o_X11_change Q) Q ls st μ := ix_Ev.eq (a_X11_change launch0) rfl ls st μ
theorem e_X11_change_47 (Q : ix_R → Prop) (ls : ix_L) (st : List ix_V) (μ : ix_M) : ix_Ev o_X11_change Q (47, ls, st, μ) = ix_bin (fun x y => x + y) 48 (ix_Ev o_X11_change Q) Q ls st μ := ix_Ev.eq (a_X11_change launch0) rfl ls st μ
theorem e_X11_change_48 (Q : ix_R → Prop) (ls : ix_L) (st : List ix_V) (μ : ix_M) : ix_Ev o_X11_change Q (48, ls, st, μ) = oc_X11_boatAt 51 (ix_Ev o_X11_change Q) Q ls st μ := ix_Ev.eq (a_X11_change launch0) rfl ls st μ
theorem e_X11_change_51 (Q : ix_R → Prop) (ls : ix_L) (st : List ix_V) (μ : ix_M) : ix_Ev o_X11_change Q (51, ls, st, μ) = ix_iload 3 52 (ix_Ev o_X11_change Q) Q ls st μ := ix_Ev.eq (a_X11_change launch0) rfl ls st μ
theorem e_X11_change_52 (Q : ix_R → Prop) (ls : ix_L) (st : List ix_V) (μ : ix_M) : ix_Ev o_X11_change Q (52, ls, st, μ) = oc_X11_turn 55 (ix_Ev o_X11_change Q) Q ls st μ := ix_Ev.eq (a_X11_change launch0) rfl ls st μ
theorem e_X11_change_55 (Q : ix_R → Prop) (ls : ix_L) (st : List ix_V) (μ : ix_M) : ix_Ev o_X11_change Q (55, ls, st, μ) = ix_goto 64 (ix_Ev o_X11_change Q) Q ls st μ := ix_Ev.eq (a_X11_change launch0) rfl ls st μ
theorem e_X11_change_58 (Q : ix_R → Prop) (ls : ix_L) (st : List ix_V) (μ : ix_M) : ix_Ev o_X11_change Q (58, ls, st, μ) = ix_aload 0 59 (ix_Ev o_X11_change Q) Q ls st μ := ix_Ev.eq (a_X11_change launch0) rfl ls st μ
theorem e_X11_change_59 (Q : ix_R → Prop) (ls : ix_L) (st : List ix_V) (μ : ix_M) : ix_Ev o_X11_change Q (59, ls, st, μ) = ix_push (vi (-1000000001)) 61 (ix_Ev o_X11_change Q) Q ls st μ := ix_Ev.eq (a_X11_change launch0) rfl ls st μ
theorem e_X11_change_61 (Q : ix_R → Prop) (ls : ix_L) (st : List ix_V) (μ : ix_M) : ix_Ev o_X11_change Q (61, ls, st, μ) = oc_X11_finding 64 (ix_Ev o_X11_change Q) Q ls st μ := ix_Ev.eq (a_X11_change launch0) rfl ls st μ
theorem e_X11_change_64 (Q : ix_R → Prop) (ls : ix_L) (st : List ix_V) (μ : ix_M) : ix_Ev o_X11_change Q (64, ls, st, μ) = ix_iret (ix_Ev o_X11_change Q) Q ls st μ := ix_Ev.eq (a_X11_change launch0) rfl ls st μ
theorem pr_change (b : Int32) (w : Int32) (v : Int32) (μ : ix_M) (I : Inv μ) (Q : ix_R → Prop) (hQ : ∀ vv μ', ix_Ev o_X11_change (Pst vv) (0, [some (vr 10 112), some (vi b), some (vi w), some (vi v), none], [], μ') → Q (some (vi vv), μ')) : ix_Ev o_X10_change Q (0, [some (vr 9 0), some (vi b), some (vi w), some (vi v)], [], μ) := by
  obtain ⟨N, hN, n1, n2⟩ := I.n
  rcases inB b hN with ⟨B, hB, rfl, B1, B2, B3, B4⟩ | ⟨hx1, hx2⟩
  · have Bc : (nI B).toNatClampNeg = B := nI_clamp (by omega)
    rcases inR w 1 (by decide) with ⟨W, hW, rfl⟩ | ⟨hx1, hx2⟩
    · obtain ⟨W1, W2, W3, W4⟩ : ¬ nI W < 0 ∧ ¬ (1 : Int32) < nI W ∧ 0 ≤ nI W ∧ nI W ≤ (1 : Int32) := rgN hW (by decide)
      have Wc : (nI W).toNatClampNeg = W := nI_clamp (by omega)
      have v1 : vp_in (nI B) (ix_len 8) := vp_in_nI (show B < 8 by omega) (by decide)
      have v2 : vp_in (nI B) (ix_len 9) := vp_in_nI (show B < 8 by omega) (by decide)
      have hx := bx B (by omega)
      obtain rfl | rfl : W = 0 ∨ W = 1 := by omega
      · rcases inR v 15 (by decide) with ⟨V, hV, rfl⟩ | ⟨hx1, hx2⟩
        · obtain ⟨V1, V2, V3, V4⟩ : ¬ nI V < 0 ∧ ¬ (15 : Int32) < nI V ∧ 0 ≤ nI V ∧ nI V ≤ (15 : Int32) := rgN hV (by decide)
          simp (decide := true) only [e_X10_change_0, e_X10_change_1, e_X10_change_2, e_X10_change_5, e_X10_change_8, e_X10_change_9, e_X10_change_10, e_X10_change_13, e_X10_change_16, e_X10_change_17, e_X10_change_18, e_X10_change_21, e_X10_change_23, e_X10_change_26, e_X10_change_28, e_X10_change_31, e_X10_change_34, e_X10_change_35, e_X10_change_36, e_X10_change_39, e_X10_change_40, e_X10_change_41, e_X10_change_44, e_X10_change_45, e_X10_change_48, e_X10_change_51, e_X10_change_54, e_X10_change_57, e_X10_change_58, e_X10_change_61, e_X10_change_64, e_X10_change_67, e_X10_change_68, e_X10_change_69, e_X10_change_72, vi, vl, vr, oc_X10_error, T_X10_error, oc_X10_exchange, T_X10_exchange, oc_X10_noBoat, T_X10_noBoat, oc_X10_outside, T_X10_outside, ix_push, ix_iload, ix_lload, ix_aload, ix_istore, ix_astore, ix_iinc, ix_bin, ix_div, ix_un, ix_i2l, ix_l2i, ix_lbin, ix_lsh, ix_lcmp, ix_dup, ix_dup2, ix_pop, ix_if, ix_cmp, ix_goto, ix_switch, ix_sw, ix_iret, ix_zret, ix_vret, ix_aret, ix_geti, ix_getr, ix_puti, ix_putz, ix_puts, ix_gets, ix_iald, ix_iast, ix_alen, ix_aald, ix_gval, ix_gcod, ix_bald, ix_blen, ix_sald, ix_nret, ix_math2, ix_math1, ix_acopy, Nat.add_assoc, Int32.reduceLT, Int32.reduceLE, Int32.reduceToNatClampNeg, Int32.reduceSub, Int32.reduceAdd, Nat.reduceAdd, Nat.reduceLeDiff, true_or, or_true, or_false, false_or, not_false_eq_true, not_true_eq_false, false_implies, true_implies, implies_true, and_self, mB_0, mB_01, Classical.not_not, Nat.zero_le, List.getElem?_cons_zero, List.getElem?_cons_succ, List.set_cons_zero, List.set_cons_succ, ix_nl, ix_cs, true_and, and_true, Option.toList_some, Option.toList_none, List.cons_append, List.nil_append, n1, n2, B1, B2, B3, B4, Bc, W1, W2, W3, W4, Wc, V1, V2, V3, V4, nz_0, v1, v2, hx, ix_up_ne, ix_up_k, ve_1, ve_2, ve_3, ve_4, ve_5]
          refine hQ _ _ ?_
          simp (decide := true) only [e_X11_change_0, e_X11_change_1, e_X11_change_4, e_X11_change_5, e_X11_change_8, e_X11_change_11, e_X11_change_12, e_X11_change_13, e_X11_change_16, e_X11_change_17, e_X11_change_20, e_X11_change_23, e_X11_change_24, e_X11_change_27, e_X11_change_28, e_X11_change_30, e_X11_change_31, e_X11_change_32, e_X11_change_35, e_X11_change_38, e_X11_change_40, e_X11_change_43, e_X11_change_44, e_X11_change_45, e_X11_change_46, e_X11_change_47, e_X11_change_48, e_X11_change_51, e_X11_change_52, e_X11_change_55, e_X11_change_58, e_X11_change_59, e_X11_change_61, e_X11_change_64, vi, vl, vr, oc_X11_boatAt, T_X11_boatAt, oc_X11_finding, T_X11_finding, oc_X11_isBoat, T_X11_isBoat, oc_X11_isCell, T_X11_isCell, oc_X11_isMost, T_X11_isMost, oc_X11_turn, T_X11_turn, ix_push, ix_iload, ix_lload, ix_aload, ix_istore, ix_astore, ix_iinc, ix_bin, ix_div, ix_un, ix_i2l, ix_l2i, ix_lbin, ix_lsh, ix_lcmp, ix_dup, ix_dup2, ix_pop, ix_if, ix_cmp, ix_goto, ix_switch, ix_sw, ix_iret, ix_zret, ix_vret, ix_aret, ix_geti, ix_getr, ix_puti, ix_putz, ix_puts, ix_gets, ix_iald, ix_iast, ix_alen, ix_aald, ix_gval, ix_gcod, ix_bald, ix_blen, ix_sald, ix_nret, ix_math2, ix_math1, ix_acopy, ml_113, ml_114, ml_115, ml_116, ml_118, ml_119, ml_120, ml_121, ml_122, ml_123, ml_124, ml_125, ml_126, mv_0, mv_1, mv_2, mv_3, mv_4, mv_5, mB_or, Nat.add_assoc, Int32.reduceLT, Int32.reduceLE, Int32.reduceToNatClampNeg, Int32.reduceSub, Int32.reduceAdd, Nat.reduceAdd, Nat.reduceLeDiff, true_or, or_true, or_false, false_or, not_false_eq_true, not_true_eq_false, false_implies, true_implies, implies_true, and_self, mB_0, mB_01, Classical.not_not, Nat.zero_le, List.getElem?_cons_zero, List.getElem?_cons_succ, List.set_cons_zero, List.set_cons_succ, ix_nl, ix_cs, true_and, and_true, Option.toList_some, Option.toList_none, List.cons_append, List.nil_append, n1, n2, B1, B2, B3, B4, Bc, W1, W2, W3, W4, Wc, V1, V2, V3, V4, nz_0, v1, v2, hx, ix_up_ne, ix_up_k, ve_1, ve_2, ve_3, ve_4, ve_5]
          exact pst (I.w6 (by omega)).symm (I.set (r := 6) (wok_6 (by omega)) (by unfold wrB; omega) rfl (nvI_6 B) rfl)
        · have hx1 : v < 0 ∨ (15 : Int32) < v := hx1
          have hx2 : ¬ (0 ≤ v ∧ v ≤ (15 : Int32)) := hx2
          simp (decide := true) only [e_X10_change_0, e_X10_change_1, e_X10_change_2, e_X10_change_5, e_X10_change_8, e_X10_change_9, e_X10_change_10, e_X10_change_13, e_X10_change_16, e_X10_change_17, e_X10_change_18, e_X10_change_21, e_X10_change_23, e_X10_change_26, e_X10_change_28, e_X10_change_31, e_X10_change_34, e_X10_change_35, e_X10_change_36, e_X10_change_39, e_X10_change_40, e_X10_change_41, e_X10_change_44, e_X10_change_45, e_X10_change_48, e_X10_change_51, e_X10_change_54, e_X10_change_57, e_X10_change_58, e_X10_change_61, e_X10_change_64, e_X10_change_67, e_X10_change_68, e_X10_change_69, e_X10_change_72, vi, vl, vr, oc_X10_error, T_X10_error, oc_X10_exchange, T_X10_exchange, oc_X10_noBoat, T_X10_noBoat, oc_X10_outside, T_X10_outside, ix_push, ix_iload, ix_lload, ix_aload, ix_istore, ix_astore, ix_iinc, ix_bin, ix_div, ix_un, ix_i2l, ix_l2i, ix_lbin, ix_lsh, ix_lcmp, ix_dup, ix_dup2, ix_pop, ix_if, ix_cmp, ix_goto, ix_switch, ix_sw, ix_iret, ix_zret, ix_vret, ix_aret, ix_geti, ix_getr, ix_puti, ix_putz, ix_puts, ix_gets, ix_iald, ix_iast, ix_alen, ix_aald, ix_gval, ix_gcod, ix_bald, ix_blen, ix_sald, ix_nret, ix_math2, ix_math1, ix_acopy, Nat.add_assoc, Int32.reduceLT, Int32.reduceLE, Int32.reduceToNatClampNeg, Int32.reduceSub, Int32.reduceAdd, Nat.reduceAdd, Nat.reduceLeDiff, true_or, or_true, or_false, false_or, not_false_eq_true, not_true_eq_false, false_implies, true_implies, implies_true, and_self, mB_0, mB_01, Classical.not_not, Nat.zero_le, List.getElem?_cons_zero, List.getElem?_cons_succ, List.set_cons_zero, List.set_cons_succ, ix_nl, ix_cs, true_and, and_true, Option.toList_some, Option.toList_none, List.cons_append, List.nil_append, n1, n2, B1, B2, B3, B4, Bc, W1, W2, W3, W4, Wc, nz_0, hx1, hx2, ix_up_ne, ix_up_k, ve_1, ve_2, ve_3, ve_4, ve_5]
          refine hQ _ _ ?_
          simp (decide := true) only [e_X11_change_0, e_X11_change_1, e_X11_change_4, e_X11_change_5, e_X11_change_8, e_X11_change_11, e_X11_change_12, e_X11_change_13, e_X11_change_16, e_X11_change_17, e_X11_change_20, e_X11_change_23, e_X11_change_24, e_X11_change_27, e_X11_change_28, e_X11_change_30, e_X11_change_31, e_X11_change_32, e_X11_change_35, e_X11_change_38, e_X11_change_40, e_X11_change_43, e_X11_change_44, e_X11_change_45, e_X11_change_46, e_X11_change_47, e_X11_change_48, e_X11_change_51, e_X11_change_52, e_X11_change_55, e_X11_change_58, e_X11_change_59, e_X11_change_61, e_X11_change_64, vi, vl, vr, oc_X11_boatAt, T_X11_boatAt, oc_X11_finding, T_X11_finding, oc_X11_isBoat, T_X11_isBoat, oc_X11_isCell, T_X11_isCell, oc_X11_isMost, T_X11_isMost, oc_X11_turn, T_X11_turn, ix_push, ix_iload, ix_lload, ix_aload, ix_istore, ix_astore, ix_iinc, ix_bin, ix_div, ix_un, ix_i2l, ix_l2i, ix_lbin, ix_lsh, ix_lcmp, ix_dup, ix_dup2, ix_pop, ix_if, ix_cmp, ix_goto, ix_switch, ix_sw, ix_iret, ix_zret, ix_vret, ix_aret, ix_geti, ix_getr, ix_puti, ix_putz, ix_puts, ix_gets, ix_iald, ix_iast, ix_alen, ix_aald, ix_gval, ix_gcod, ix_bald, ix_blen, ix_sald, ix_nret, ix_math2, ix_math1, ix_acopy, ml_113, ml_114, ml_115, ml_116, ml_118, ml_119, ml_120, ml_121, ml_122, ml_123, ml_124, ml_125, ml_126, mv_0, mv_1, mv_2, mv_3, mv_4, mv_5, mB_or, Nat.add_assoc, Int32.reduceLT, Int32.reduceLE, Int32.reduceToNatClampNeg, Int32.reduceSub, Int32.reduceAdd, Nat.reduceAdd, Nat.reduceLeDiff, true_or, or_true, or_false, false_or, not_false_eq_true, not_true_eq_false, false_implies, true_implies, implies_true, and_self, mB_0, mB_01, Classical.not_not, Nat.zero_le, List.getElem?_cons_zero, List.getElem?_cons_succ, List.set_cons_zero, List.set_cons_succ, ix_nl, ix_cs, true_and, and_true, Option.toList_some, Option.toList_none, List.cons_append, List.nil_append, n1, n2, B1, B2, B3, B4, Bc, W1, W2, W3, W4, Wc, nz_0, hx1, hx2, ix_up_ne, ix_up_k, ve_1, ve_2, ve_3, ve_4, ve_5]
          repeat' (first | exact I.er 1 (by decide) | refine ⟨fun _ => ?_, fun _ => ?_⟩)
      · rcases inR v 99 (by decide) with ⟨V, hV, rfl⟩ | ⟨hx1, hx2⟩
        · obtain ⟨V1, V2, V3, V4⟩ : ¬ nI V < 0 ∧ ¬ (99 : Int32) < nI V ∧ 0 ≤ nI V ∧ nI V ≤ (99 : Int32) := rgN hV (by decide)
          simp (decide := true) only [e_X10_change_0, e_X10_change_1, e_X10_change_2, e_X10_change_5, e_X10_change_8, e_X10_change_9, e_X10_change_10, e_X10_change_13, e_X10_change_16, e_X10_change_17, e_X10_change_18, e_X10_change_21, e_X10_change_23, e_X10_change_26, e_X10_change_28, e_X10_change_31, e_X10_change_34, e_X10_change_35, e_X10_change_36, e_X10_change_39, e_X10_change_40, e_X10_change_41, e_X10_change_44, e_X10_change_45, e_X10_change_48, e_X10_change_51, e_X10_change_54, e_X10_change_57, e_X10_change_58, e_X10_change_61, e_X10_change_64, e_X10_change_67, e_X10_change_68, e_X10_change_69, e_X10_change_72, vi, vl, vr, oc_X10_error, T_X10_error, oc_X10_exchange, T_X10_exchange, oc_X10_noBoat, T_X10_noBoat, oc_X10_outside, T_X10_outside, ix_push, ix_iload, ix_lload, ix_aload, ix_istore, ix_astore, ix_iinc, ix_bin, ix_div, ix_un, ix_i2l, ix_l2i, ix_lbin, ix_lsh, ix_lcmp, ix_dup, ix_dup2, ix_pop, ix_if, ix_cmp, ix_goto, ix_switch, ix_sw, ix_iret, ix_zret, ix_vret, ix_aret, ix_geti, ix_getr, ix_puti, ix_putz, ix_puts, ix_gets, ix_iald, ix_iast, ix_alen, ix_aald, ix_gval, ix_gcod, ix_bald, ix_blen, ix_sald, ix_nret, ix_math2, ix_math1, ix_acopy, Nat.add_assoc, Int32.reduceLT, Int32.reduceLE, Int32.reduceToNatClampNeg, Int32.reduceSub, Int32.reduceAdd, Nat.reduceAdd, Nat.reduceLeDiff, true_or, or_true, or_false, false_or, not_false_eq_true, not_true_eq_false, false_implies, true_implies, implies_true, and_self, mB_0, mB_01, Classical.not_not, Nat.zero_le, List.getElem?_cons_zero, List.getElem?_cons_succ, List.set_cons_zero, List.set_cons_succ, ix_nl, ix_cs, true_and, and_true, Option.toList_some, Option.toList_none, List.cons_append, List.nil_append, n1, n2, B1, B2, B3, B4, Bc, W1, W2, W3, W4, Wc, V1, V2, V3, V4, nz_1, v1, v2, hx, ix_up_ne, ix_up_k, ve_1, ve_2, ve_3, ve_4, ve_5]
          refine hQ _ _ ?_
          simp (decide := true) only [e_X11_change_0, e_X11_change_1, e_X11_change_4, e_X11_change_5, e_X11_change_8, e_X11_change_11, e_X11_change_12, e_X11_change_13, e_X11_change_16, e_X11_change_17, e_X11_change_20, e_X11_change_23, e_X11_change_24, e_X11_change_27, e_X11_change_28, e_X11_change_30, e_X11_change_31, e_X11_change_32, e_X11_change_35, e_X11_change_38, e_X11_change_40, e_X11_change_43, e_X11_change_44, e_X11_change_45, e_X11_change_46, e_X11_change_47, e_X11_change_48, e_X11_change_51, e_X11_change_52, e_X11_change_55, e_X11_change_58, e_X11_change_59, e_X11_change_61, e_X11_change_64, vi, vl, vr, oc_X11_boatAt, T_X11_boatAt, oc_X11_finding, T_X11_finding, oc_X11_isBoat, T_X11_isBoat, oc_X11_isCell, T_X11_isCell, oc_X11_isMost, T_X11_isMost, oc_X11_turn, T_X11_turn, ix_push, ix_iload, ix_lload, ix_aload, ix_istore, ix_astore, ix_iinc, ix_bin, ix_div, ix_un, ix_i2l, ix_l2i, ix_lbin, ix_lsh, ix_lcmp, ix_dup, ix_dup2, ix_pop, ix_if, ix_cmp, ix_goto, ix_switch, ix_sw, ix_iret, ix_zret, ix_vret, ix_aret, ix_geti, ix_getr, ix_puti, ix_putz, ix_puts, ix_gets, ix_iald, ix_iast, ix_alen, ix_aald, ix_gval, ix_gcod, ix_bald, ix_blen, ix_sald, ix_nret, ix_math2, ix_math1, ix_acopy, ml_113, ml_114, ml_115, ml_116, ml_118, ml_119, ml_120, ml_121, ml_122, ml_123, ml_124, ml_125, ml_126, mv_0, mv_1, mv_2, mv_3, mv_4, mv_5, mB_or, Nat.add_assoc, Int32.reduceLT, Int32.reduceLE, Int32.reduceToNatClampNeg, Int32.reduceSub, Int32.reduceAdd, Nat.reduceAdd, Nat.reduceLeDiff, true_or, or_true, or_false, false_or, not_false_eq_true, not_true_eq_false, false_implies, true_implies, implies_true, and_self, mB_0, mB_01, Classical.not_not, Nat.zero_le, List.getElem?_cons_zero, List.getElem?_cons_succ, List.set_cons_zero, List.set_cons_succ, ix_nl, ix_cs, true_and, and_true, Option.toList_some, Option.toList_none, List.cons_append, List.nil_append, n1, n2, B1, B2, B3, B4, Bc, W1, W2, W3, W4, Wc, V1, V2, V3, V4, nz_1, v1, v2, hx, ix_up_ne, ix_up_k, ve_1, ve_2, ve_3, ve_4, ve_5]
          exact pst (I.w7 (by omega)).symm (I.set (r := 7) (wok_7 (by omega)) (by unfold wrB; omega) rfl (nvI_7 B) rfl)
        · have hx1 : v < 0 ∨ (99 : Int32) < v := hx1
          have hx2 : ¬ (0 ≤ v ∧ v ≤ (99 : Int32)) := hx2
          simp (decide := true) only [e_X10_change_0, e_X10_change_1, e_X10_change_2, e_X10_change_5, e_X10_change_8, e_X10_change_9, e_X10_change_10, e_X10_change_13, e_X10_change_16, e_X10_change_17, e_X10_change_18, e_X10_change_21, e_X10_change_23, e_X10_change_26, e_X10_change_28, e_X10_change_31, e_X10_change_34, e_X10_change_35, e_X10_change_36, e_X10_change_39, e_X10_change_40, e_X10_change_41, e_X10_change_44, e_X10_change_45, e_X10_change_48, e_X10_change_51, e_X10_change_54, e_X10_change_57, e_X10_change_58, e_X10_change_61, e_X10_change_64, e_X10_change_67, e_X10_change_68, e_X10_change_69, e_X10_change_72, vi, vl, vr, oc_X10_error, T_X10_error, oc_X10_exchange, T_X10_exchange, oc_X10_noBoat, T_X10_noBoat, oc_X10_outside, T_X10_outside, ix_push, ix_iload, ix_lload, ix_aload, ix_istore, ix_astore, ix_iinc, ix_bin, ix_div, ix_un, ix_i2l, ix_l2i, ix_lbin, ix_lsh, ix_lcmp, ix_dup, ix_dup2, ix_pop, ix_if, ix_cmp, ix_goto, ix_switch, ix_sw, ix_iret, ix_zret, ix_vret, ix_aret, ix_geti, ix_getr, ix_puti, ix_putz, ix_puts, ix_gets, ix_iald, ix_iast, ix_alen, ix_aald, ix_gval, ix_gcod, ix_bald, ix_blen, ix_sald, ix_nret, ix_math2, ix_math1, ix_acopy, Nat.add_assoc, Int32.reduceLT, Int32.reduceLE, Int32.reduceToNatClampNeg, Int32.reduceSub, Int32.reduceAdd, Nat.reduceAdd, Nat.reduceLeDiff, true_or, or_true, or_false, false_or, not_false_eq_true, not_true_eq_false, false_implies, true_implies, implies_true, and_self, mB_0, mB_01, Classical.not_not, Nat.zero_le, List.getElem?_cons_zero, List.getElem?_cons_succ, List.set_cons_zero, List.set_cons_succ, ix_nl, ix_cs, true_and, and_true, Option.toList_some, Option.toList_none, List.cons_append, List.nil_append, n1, n2, B1, B2, B3, B4, Bc, W1, W2, W3, W4, Wc, nz_1, hx1, hx2, ix_up_ne, ix_up_k, ve_1, ve_2, ve_3, ve_4, ve_5]
          refine hQ _ _ ?_
          simp (decide := true) only [e_X11_change_0, e_X11_change_1, e_X11_change_4, e_X11_change_5, e_X11_change_8, e_X11_change_11, e_X11_change_12, e_X11_change_13, e_X11_change_16, e_X11_change_17, e_X11_change_20, e_X11_change_23, e_X11_change_24, e_X11_change_27, e_X11_change_28, e_X11_change_30, e_X11_change_31, e_X11_change_32, e_X11_change_35, e_X11_change_38, e_X11_change_40, e_X11_change_43, e_X11_change_44, e_X11_change_45, e_X11_change_46, e_X11_change_47, e_X11_change_48, e_X11_change_51, e_X11_change_52, e_X11_change_55, e_X11_change_58, e_X11_change_59, e_X11_change_61, e_X11_change_64, vi, vl, vr, oc_X11_boatAt, T_X11_boatAt, oc_X11_finding, T_X11_finding, oc_X11_isBoat, T_X11_isBoat, oc_X11_isCell, T_X11_isCell, oc_X11_isMost, T_X11_isMost, oc_X11_turn, T_X11_turn, ix_push, ix_iload, ix_lload, ix_aload, ix_istore, ix_astore, ix_iinc, ix_bin, ix_div, ix_un, ix_i2l, ix_l2i, ix_lbin, ix_lsh, ix_lcmp, ix_dup, ix_dup2, ix_pop, ix_if, ix_cmp, ix_goto, ix_switch, ix_sw, ix_iret, ix_zret, ix_vret, ix_aret, ix_geti, ix_getr, ix_puti, ix_putz, ix_puts, ix_gets, ix_iald, ix_iast, ix_alen, ix_aald, ix_gval, ix_gcod, ix_bald, ix_blen, ix_sald, ix_nret, ix_math2, ix_math1, ix_acopy, ml_113, ml_114, ml_115, ml_116, ml_118, ml_119, ml_120, ml_121, ml_122, ml_123, ml_124, ml_125, ml_126, mv_0, mv_1, mv_2, mv_3, mv_4, mv_5, mB_or, Nat.add_assoc, Int32.reduceLT, Int32.reduceLE, Int32.reduceToNatClampNeg, Int32.reduceSub, Int32.reduceAdd, Nat.reduceAdd, Nat.reduceLeDiff, true_or, or_true, or_false, false_or, not_false_eq_true, not_true_eq_false, false_implies, true_implies, implies_true, and_self, mB_0, mB_01, Classical.not_not, Nat.zero_le, List.getElem?_cons_zero, List.getElem?_cons_succ, List.set_cons_zero, List.set_cons_succ, ix_nl, ix_cs, true_and, and_true, Option.toList_some, Option.toList_none, List.cons_append, List.nil_append, n1, n2, B1, B2, B3, B4, Bc, W1, W2, W3, W4, Wc, nz_1, hx1, hx2, ix_up_ne, ix_up_k, ve_1, ve_2, ve_3, ve_4, ve_5]
          repeat' (first | exact I.er 1 (by decide) | refine ⟨fun _ => ?_, fun _ => ?_⟩)
    · have hx1 : w < 0 ∨ (1 : Int32) < w := hx1
      have hx2 : ¬ (0 ≤ w ∧ w ≤ (1 : Int32)) := hx2
      have hx3 : ¬ w = 0 := by rintro rfl; exact hx2 (by decide)
      have hx4 : ¬ w = 1 := by rintro rfl; exact hx2 (by decide)
      simp (decide := true) only [e_X10_change_0, e_X10_change_1, e_X10_change_2, e_X10_change_5, e_X10_change_8, e_X10_change_9, e_X10_change_10, e_X10_change_13, e_X10_change_16, e_X10_change_17, e_X10_change_18, e_X10_change_21, e_X10_change_23, e_X10_change_26, e_X10_change_28, e_X10_change_31, e_X10_change_34, e_X10_change_35, e_X10_change_36, e_X10_change_39, e_X10_change_40, e_X10_change_41, e_X10_change_44, e_X10_change_45, e_X10_change_48, e_X10_change_51, e_X10_change_54, e_X10_change_57, e_X10_change_58, e_X10_change_61, e_X10_change_64, e_X10_change_67, e_X10_change_68, e_X10_change_69, e_X10_change_72, vi, vl, vr, oc_X10_error, T_X10_error, oc_X10_exchange, T_X10_exchange, oc_X10_noBoat, T_X10_noBoat, oc_X10_outside, T_X10_outside, ix_push, ix_iload, ix_lload, ix_aload, ix_istore, ix_astore, ix_iinc, ix_bin, ix_div, ix_un, ix_i2l, ix_l2i, ix_lbin, ix_lsh, ix_lcmp, ix_dup, ix_dup2, ix_pop, ix_if, ix_cmp, ix_goto, ix_switch, ix_sw, ix_iret, ix_zret, ix_vret, ix_aret, ix_geti, ix_getr, ix_puti, ix_putz, ix_puts, ix_gets, ix_iald, ix_iast, ix_alen, ix_aald, ix_gval, ix_gcod, ix_bald, ix_blen, ix_sald, ix_nret, ix_math2, ix_math1, ix_acopy, Nat.add_assoc, Int32.reduceLT, Int32.reduceLE, Int32.reduceToNatClampNeg, Int32.reduceSub, Int32.reduceAdd, Nat.reduceAdd, Nat.reduceLeDiff, true_or, or_true, or_false, false_or, not_false_eq_true, not_true_eq_false, false_implies, true_implies, implies_true, and_self, mB_0, mB_01, Classical.not_not, Nat.zero_le, List.getElem?_cons_zero, List.getElem?_cons_succ, List.set_cons_zero, List.set_cons_succ, ix_nl, ix_cs, true_and, and_true, Option.toList_some, Option.toList_none, List.cons_append, List.nil_append, n1, n2, B1, B2, B3, B4, Bc, hx1, hx2, hx3, hx4, ix_up_ne, ix_up_k, ve_1, ve_2, ve_3, ve_4, ve_5]
      refine hQ _ _ ?_
      simp (decide := true) only [e_X11_change_0, e_X11_change_1, e_X11_change_4, e_X11_change_5, e_X11_change_8, e_X11_change_11, e_X11_change_12, e_X11_change_13, e_X11_change_16, e_X11_change_17, e_X11_change_20, e_X11_change_23, e_X11_change_24, e_X11_change_27, e_X11_change_28, e_X11_change_30, e_X11_change_31, e_X11_change_32, e_X11_change_35, e_X11_change_38, e_X11_change_40, e_X11_change_43, e_X11_change_44, e_X11_change_45, e_X11_change_46, e_X11_change_47, e_X11_change_48, e_X11_change_51, e_X11_change_52, e_X11_change_55, e_X11_change_58, e_X11_change_59, e_X11_change_61, e_X11_change_64, vi, vl, vr, oc_X11_boatAt, T_X11_boatAt, oc_X11_finding, T_X11_finding, oc_X11_isBoat, T_X11_isBoat, oc_X11_isCell, T_X11_isCell, oc_X11_isMost, T_X11_isMost, oc_X11_turn, T_X11_turn, ix_push, ix_iload, ix_lload, ix_aload, ix_istore, ix_astore, ix_iinc, ix_bin, ix_div, ix_un, ix_i2l, ix_l2i, ix_lbin, ix_lsh, ix_lcmp, ix_dup, ix_dup2, ix_pop, ix_if, ix_cmp, ix_goto, ix_switch, ix_sw, ix_iret, ix_zret, ix_vret, ix_aret, ix_geti, ix_getr, ix_puti, ix_putz, ix_puts, ix_gets, ix_iald, ix_iast, ix_alen, ix_aald, ix_gval, ix_gcod, ix_bald, ix_blen, ix_sald, ix_nret, ix_math2, ix_math1, ix_acopy, ml_113, ml_114, ml_115, ml_116, ml_118, ml_119, ml_120, ml_121, ml_122, ml_123, ml_124, ml_125, ml_126, mv_0, mv_1, mv_2, mv_3, mv_4, mv_5, mB_or, Nat.add_assoc, Int32.reduceLT, Int32.reduceLE, Int32.reduceToNatClampNeg, Int32.reduceSub, Int32.reduceAdd, Nat.reduceAdd, Nat.reduceLeDiff, true_or, or_true, or_false, false_or, not_false_eq_true, not_true_eq_false, false_implies, true_implies, implies_true, and_self, mB_0, mB_01, Classical.not_not, Nat.zero_le, List.getElem?_cons_zero, List.getElem?_cons_succ, List.set_cons_zero, List.set_cons_succ, ix_nl, ix_cs, true_and, and_true, Option.toList_some, Option.toList_none, List.cons_append, List.nil_append, n1, n2, B1, B2, B3, B4, Bc, hx1, hx2, hx3, hx4, ix_up_ne, ix_up_k, ve_1, ve_2, ve_3, ve_4, ve_5]
      repeat' (first | exact I.er 1 (by decide) | refine ⟨fun _ => ?_, fun _ => ?_⟩)
  · simp (decide := true) only [e_X10_change_0, e_X10_change_1, e_X10_change_2, e_X10_change_5, e_X10_change_8, e_X10_change_9, e_X10_change_10, e_X10_change_13, e_X10_change_16, e_X10_change_17, e_X10_change_18, e_X10_change_21, e_X10_change_23, e_X10_change_26, e_X10_change_28, e_X10_change_31, e_X10_change_34, e_X10_change_35, e_X10_change_36, e_X10_change_39, e_X10_change_40, e_X10_change_41, e_X10_change_44, e_X10_change_45, e_X10_change_48, e_X10_change_51, e_X10_change_54, e_X10_change_57, e_X10_change_58, e_X10_change_61, e_X10_change_64, e_X10_change_67, e_X10_change_68, e_X10_change_69, e_X10_change_72, vi, vl, vr, oc_X10_error, T_X10_error, oc_X10_exchange, T_X10_exchange, oc_X10_noBoat, T_X10_noBoat, oc_X10_outside, T_X10_outside, ix_push, ix_iload, ix_lload, ix_aload, ix_istore, ix_astore, ix_iinc, ix_bin, ix_div, ix_un, ix_i2l, ix_l2i, ix_lbin, ix_lsh, ix_lcmp, ix_dup, ix_dup2, ix_pop, ix_if, ix_cmp, ix_goto, ix_switch, ix_sw, ix_iret, ix_zret, ix_vret, ix_aret, ix_geti, ix_getr, ix_puti, ix_putz, ix_puts, ix_gets, ix_iald, ix_iast, ix_alen, ix_aald, ix_gval, ix_gcod, ix_bald, ix_blen, ix_sald, ix_nret, ix_math2, ix_math1, ix_acopy, Nat.add_assoc, Int32.reduceLT, Int32.reduceLE, Int32.reduceToNatClampNeg, Int32.reduceSub, Int32.reduceAdd, Nat.reduceAdd, Nat.reduceLeDiff, true_or, or_true, or_false, false_or, not_false_eq_true, not_true_eq_false, false_implies, true_implies, implies_true, and_self, mB_0, mB_01, Classical.not_not, Nat.zero_le, List.getElem?_cons_zero, List.getElem?_cons_succ, List.set_cons_zero, List.set_cons_succ, ix_nl, ix_cs, true_and, and_true, Option.toList_some, Option.toList_none, List.cons_append, List.nil_append, n1, n2, hx1, hx2, ix_up_ne, ix_up_k, ve_1, ve_2, ve_3, ve_4, ve_5]
    refine hQ _ _ ?_
    simp (decide := true) only [e_X11_change_0, e_X11_change_1, e_X11_change_4, e_X11_change_5, e_X11_change_8, e_X11_change_11, e_X11_change_12, e_X11_change_13, e_X11_change_16, e_X11_change_17, e_X11_change_20, e_X11_change_23, e_X11_change_24, e_X11_change_27, e_X11_change_28, e_X11_change_30, e_X11_change_31, e_X11_change_32, e_X11_change_35, e_X11_change_38, e_X11_change_40, e_X11_change_43, e_X11_change_44, e_X11_change_45, e_X11_change_46, e_X11_change_47, e_X11_change_48, e_X11_change_51, e_X11_change_52, e_X11_change_55, e_X11_change_58, e_X11_change_59, e_X11_change_61, e_X11_change_64, vi, vl, vr, oc_X11_boatAt, T_X11_boatAt, oc_X11_finding, T_X11_finding, oc_X11_isBoat, T_X11_isBoat, oc_X11_isCell, T_X11_isCell, oc_X11_isMost, T_X11_isMost, oc_X11_turn, T_X11_turn, ix_push, ix_iload, ix_lload, ix_aload, ix_istore, ix_astore, ix_iinc, ix_bin, ix_div, ix_un, ix_i2l, ix_l2i, ix_lbin, ix_lsh, ix_lcmp, ix_dup, ix_dup2, ix_pop, ix_if, ix_cmp, ix_goto, ix_switch, ix_sw, ix_iret, ix_zret, ix_vret, ix_aret, ix_geti, ix_getr, ix_puti, ix_putz, ix_puts, ix_gets, ix_iald, ix_iast, ix_alen, ix_aald, ix_gval, ix_gcod, ix_bald, ix_blen, ix_sald, ix_nret, ix_math2, ix_math1, ix_acopy, ml_113, ml_114, ml_115, ml_116, ml_118, ml_119, ml_120, ml_121, ml_122, ml_123, ml_124, ml_125, ml_126, mv_0, mv_1, mv_2, mv_3, mv_4, mv_5, mB_or, Nat.add_assoc, Int32.reduceLT, Int32.reduceLE, Int32.reduceToNatClampNeg, Int32.reduceSub, Int32.reduceAdd, Nat.reduceAdd, Nat.reduceLeDiff, true_or, or_true, or_false, false_or, not_false_eq_true, not_true_eq_false, false_implies, true_implies, implies_true, and_self, mB_0, mB_01, Classical.not_not, Nat.zero_le, List.getElem?_cons_zero, List.getElem?_cons_succ, List.set_cons_zero, List.set_cons_succ, ix_nl, ix_cs, true_and, and_true, Option.toList_some, Option.toList_none, List.cons_append, List.nil_append, n1, n2, hx1, hx2, ix_up_ne, ix_up_k, ve_1, ve_2, ve_3, ve_4, ve_5]
    repeat' (first | exact I.er 1 (by decide) | refine ⟨fun _ => ?_, fun _ => ?_⟩)
def o_X10_become : List (Nat × ix_Op) := [
  (0, ix_aload 0 1),
  (1, ix_iload 1 2),
  (2, oc_X10_noBoat 5),
  (5, ix_if (fun x => x = 0) 8 15),
  (8, ix_iload 2 9),
  (9, oc_X10_noKindNumber 12),
  (12, ix_if (fun x => x = 0) 21 15),
  (15, ix_aload 0 16),
  (16, ix_push (vi 1) 17),
  (17, oc_X10_error 20),
  (20, ix_iret),
  (21, ix_aload 0 22),
  (22, ix_getr 9 5 (fun _ => 1) 25),
  (25, ix_getr 5 8 (fun k => k + 1) 28),
  (28, ix_getr 8 20 (fun k => k + 5) 31),
  (31, ix_iload 1 32),
  (32, ix_iload 2 33),
  (33, ix_push (vi 10) 35),
  (35, ix_div (fun x y => x - x / y * y) 36),
  (36, ix_iast 37),
  (37, ix_aload 0 38),
  (38, ix_getr 9 5 (fun _ => 1) 41),
  (41, ix_getr 5 8 (fun k => k + 1) 44),
  (44, ix_getr 8 20 (fun k => k + 4) 47),
  (47, ix_iload 1 48),
  (48, ix_iload 2 49),
  (49, ix_push (vi 10) 51),
  (51, ix_div (fun x y => x / y) 52),
  (52, oc_X10_exchange 55),
  (55, ix_iret)]
set_option maxRecDepth 20000 in
theorem a_X10_become (l : Launch) : ix_AllS l cX10_become 3 RX10 60 (some .int) o_X10_become :=
  .cons (ix_s_aload_n dX10_become_0 rfl) <|
  .cons (ix_s_iload_n dX10_become_1 rfl) <|
  .cons (oc_X10_noBoat_s (ix_s_callv (t := 9) (k_X10_noBoat l) (by decide) (by decide) tw_369 tw_1 tw_366 tw_368 tp_1 ⟨by decide, by decide, by decide +kernel⟩ (by decide) rfl rfl (fun _ => ⟨_, _, rfl, rfl⟩) dX10_become_2)) <|
  .cons (ix_s_if_ne dX10_become_5 (by decide)) <|
  .cons (ix_s_iload_n dX10_become_8 rfl) <|
  .cons (oc_X10_noKindNumber_s (ix_s_calls (k_X10_noKindNumber l) (by decide) (by decide) tw_357 tw_1 tw_355 tw_356 ⟨by decide, by decide, by decide +kernel⟩ (fun _ => rfl) dX10_become_9)) <|
  .cons (ix_s_if_eq dX10_become_12 (by decide)) <|
  .cons (ix_s_aload_n dX10_become_15 rfl) <|
  .cons (ix_s_iconst dX10_become_16 (by decide +kernel)) <|
  .cons (oc_X10_error_s (ix_s_callv (t := 9) (k_X10_error l) (by decide) (by decide) tw_295 tw_1 tw_292 tw_294 tp_0 ⟨by decide, by decide, by decide +kernel⟩ (by decide) rfl rfl (fun _ => ⟨_, _, rfl, rfl⟩) dX10_become_17)) <|
  .cons (ix_s_iret dX10_become_20 rfl) <|
  .cons (ix_s_aload_n dX10_become_21 rfl) <|
  .cons (ix_s_getr (j := 0) tu_X10 rfl (by decide) (by decide) tw_251 rfl ts_9_0_r dX10_become_22) <|
  .cons (ix_s_getr (j := 0) tu_X6 rfl (by decide) (by decide) tw_138 rfl ts_5_0_r dX10_become_25) <|
  .cons (ix_s_getr (j := 4) tu_X9 rfl (by decide) (by decide) tw_49 rfl ts_8_4_r dX10_become_28) <|
  .cons (ix_s_iload_n dX10_become_31 rfl) <|
  .cons (ix_s_iload_n dX10_become_32 rfl) <|
  .cons (ix_s_bipush dX10_become_33 (by decide +kernel)) <|
  .cons (ix_s_irem dX10_become_35) <|
  .cons (ix_s_iast dX10_become_36) <|
  .cons (ix_s_aload_n dX10_become_37 rfl) <|
  .cons (ix_s_getr (j := 0) tu_X10 rfl (by decide) (by decide) tw_251 rfl ts_9_0_r dX10_become_38) <|
  .cons (ix_s_getr (j := 0) tu_X6 rfl (by decide) (by decide) tw_138 rfl ts_5_0_r dX10_become_41) <|
  .cons (ix_s_getr (j := 3) tu_X9 rfl (by decide) (by decide) tw_47 rfl ts_8_3_r dX10_become_44) <|
  .cons (ix_s_iload_n dX10_become_47 rfl) <|
  .cons (ix_s_iload_n dX10_become_48 rfl) <|
  .cons (ix_s_bipush dX10_become_49 (by decide +kernel)) <|
  .cons (ix_s_idiv dX10_become_51) <|
  .cons (oc_X10_exchange_s (ix_s_calls (k_X10_exchange l) (by decide) (by decide) tw_299 tw_1 tw_297 tw_298 ⟨by decide, by decide, by decide +kernel⟩ (fun _ => rfl) dX10_become_52)) <|
  .cons (ix_s_iret dX10_become_55 rfl) <| .nil
theorem e_X10_become_0 (Q : ix_R → Prop) (ls : ix_L) (st : List ix_V) (μ : ix_M) : ix_Ev o_X10_become Q (0, ls, st, μ) = ix_aload 0 1 (ix_Ev o_X10_become Q) Q ls st μ := ix_Ev.eq (a_X10_become launch0) rfl ls st μ
theorem e_X10_become_1 (Q : ix_R → Prop) (ls : ix_L) (st : List ix_V) (μ : ix_M) : ix_Ev o_X10_become Q (1, ls, st, μ) = ix_iload 1 2 (ix_Ev o_X10_become Q) Q ls st μ := ix_Ev.eq (a_X10_become launch0) rfl ls st μ
theorem e_X10_become_2 (Q : ix_R → Prop) (ls : ix_L) (st : List ix_V) (μ : ix_M) : ix_Ev o_X10_become Q (2, ls, st, μ) = oc_X10_noBoat 5 (ix_Ev o_X10_become Q) Q ls st μ := ix_Ev.eq (a_X10_become launch0) rfl ls st μ
theorem e_X10_become_5 (Q : ix_R → Prop) (ls : ix_L) (st : List ix_V) (μ : ix_M) : ix_Ev o_X10_become Q (5, ls, st, μ) = ix_if (fun x => x = 0) 8 15 (ix_Ev o_X10_become Q) Q ls st μ := ix_Ev.eq (a_X10_become launch0) rfl ls st μ
theorem e_X10_become_8 (Q : ix_R → Prop) (ls : ix_L) (st : List ix_V) (μ : ix_M) : ix_Ev o_X10_become Q (8, ls, st, μ) = ix_iload 2 9 (ix_Ev o_X10_become Q) Q ls st μ := ix_Ev.eq (a_X10_become launch0) rfl ls st μ
theorem e_X10_become_9 (Q : ix_R → Prop) (ls : ix_L) (st : List ix_V) (μ : ix_M) : ix_Ev o_X10_become Q (9, ls, st, μ) = oc_X10_noKindNumber 12 (ix_Ev o_X10_become Q) Q ls st μ := ix_Ev.eq (a_X10_become launch0) rfl ls st μ
theorem e_X10_become_12 (Q : ix_R → Prop) (ls : ix_L) (st : List ix_V) (μ : ix_M) : ix_Ev o_X10_become Q (12, ls, st, μ) = ix_if (fun x => x = 0) 21 15 (ix_Ev o_X10_become Q) Q ls st μ := ix_Ev.eq (a_X10_become launch0) rfl ls st μ
theorem e_X10_become_15 (Q : ix_R → Prop) (ls : ix_L) (st : List ix_V) (μ : ix_M) : ix_Ev o_X10_become Q (15, ls, st, μ) = ix_aload 0 16 (ix_Ev o_X10_become Q) Q ls st μ := ix_Ev.eq (a_X10_become launch0) rfl ls st μ
theorem e_X10_become_16 (Q : ix_R → Prop) (ls : ix_L) (st : List ix_V) (μ : ix_M) : ix_Ev o_X10_become Q (16, ls, st, μ) = ix_push (vi 1) 17 (ix_Ev o_X10_become Q) Q ls st μ := ix_Ev.eq (a_X10_become launch0) rfl ls st μ
theorem e_X10_become_17 (Q : ix_R → Prop) (ls : ix_L) (st : List ix_V) (μ : ix_M) : ix_Ev o_X10_become Q (17, ls, st, μ) = oc_X10_error 20 (ix_Ev o_X10_become Q) Q ls st μ := ix_Ev.eq (a_X10_become launch0) rfl ls st μ
theorem e_X10_become_20 (Q : ix_R → Prop) (ls : ix_L) (st : List ix_V) (μ : ix_M) : ix_Ev o_X10_become Q (20, ls, st, μ) = ix_iret (ix_Ev o_X10_become Q) Q ls st μ := ix_Ev.eq (a_X10_become launch0) rfl ls st μ
theorem e_X10_become_21 (Q : ix_R → Prop) (ls : ix_L) (st : List ix_V) (μ : ix_M) : ix_Ev o_X10_become Q (21, ls, st, μ) = ix_aload 0 22 (ix_Ev o_X10_become Q) Q ls st μ := ix_Ev.eq (a_X10_become launch0) rfl ls st μ
theorem e_X10_become_22 (Q : ix_R → Prop) (ls : ix_L) (st : List ix_V) (μ : ix_M) : ix_Ev o_X10_become Q (22, ls, st, μ) = ix_getr 9 5 (fun _ => 1) 25 (ix_Ev o_X10_become Q) Q ls st μ := ix_Ev.eq (a_X10_become launch0) rfl ls st μ
theorem e_X10_become_25 (Q : ix_R → Prop) (ls : ix_L) (st : List ix_V) (μ : ix_M) : ix_Ev o_X10_become Q (25, ls, st, μ) = ix_getr 5 8 (fun k => k + 1) 28 (ix_Ev o_X10_become Q) Q ls st μ := ix_Ev.eq (a_X10_become launch0) rfl ls st μ
theorem e_X10_become_28 (Q : ix_R → Prop) (ls : ix_L) (st : List ix_V) (μ : ix_M) : ix_Ev o_X10_become Q (28, ls, st, μ) = ix_getr 8 20 (fun k => k + 5) 31 (ix_Ev o_X10_become Q) Q ls st μ := ix_Ev.eq (a_X10_become launch0) rfl ls st μ
theorem e_X10_become_31 (Q : ix_R → Prop) (ls : ix_L) (st : List ix_V) (μ : ix_M) : ix_Ev o_X10_become Q (31, ls, st, μ) = ix_iload 1 32 (ix_Ev o_X10_become Q) Q ls st μ := ix_Ev.eq (a_X10_become launch0) rfl ls st μ
theorem e_X10_become_32 (Q : ix_R → Prop) (ls : ix_L) (st : List ix_V) (μ : ix_M) : ix_Ev o_X10_become Q (32, ls, st, μ) = ix_iload 2 33 (ix_Ev o_X10_become Q) Q ls st μ := ix_Ev.eq (a_X10_become launch0) rfl ls st μ
theorem e_X10_become_33 (Q : ix_R → Prop) (ls : ix_L) (st : List ix_V) (μ : ix_M) : ix_Ev o_X10_become Q (33, ls, st, μ) = ix_push (vi 10) 35 (ix_Ev o_X10_become Q) Q ls st μ := ix_Ev.eq (a_X10_become launch0) rfl ls st μ
theorem e_X10_become_35 (Q : ix_R → Prop) (ls : ix_L) (st : List ix_V) (μ : ix_M) : ix_Ev o_X10_become Q (35, ls, st, μ) = ix_div (fun x y => x - x / y * y) 36 (ix_Ev o_X10_become Q) Q ls st μ := ix_Ev.eq (a_X10_become launch0) rfl ls st μ
theorem e_X10_become_36 (Q : ix_R → Prop) (ls : ix_L) (st : List ix_V) (μ : ix_M) : ix_Ev o_X10_become Q (36, ls, st, μ) = ix_iast 37 (ix_Ev o_X10_become Q) Q ls st μ := ix_Ev.eq (a_X10_become launch0) rfl ls st μ
theorem e_X10_become_37 (Q : ix_R → Prop) (ls : ix_L) (st : List ix_V) (μ : ix_M) : ix_Ev o_X10_become Q (37, ls, st, μ) = ix_aload 0 38 (ix_Ev o_X10_become Q) Q ls st μ := ix_Ev.eq (a_X10_become launch0) rfl ls st μ
theorem e_X10_become_38 (Q : ix_R → Prop) (ls : ix_L) (st : List ix_V) (μ : ix_M) : ix_Ev o_X10_become Q (38, ls, st, μ) = ix_getr 9 5 (fun _ => 1) 41 (ix_Ev o_X10_become Q) Q ls st μ := ix_Ev.eq (a_X10_become launch0) rfl ls st μ
theorem e_X10_become_41 (Q : ix_R → Prop) (ls : ix_L) (st : List ix_V) (μ : ix_M) : ix_Ev o_X10_become Q (41, ls, st, μ) = ix_getr 5 8 (fun k => k + 1) 44 (ix_Ev o_X10_become Q) Q ls st μ := ix_Ev.eq (a_X10_become launch0) rfl ls st μ
theorem e_X10_become_44 (Q : ix_R → Prop) (ls : ix_L) (st : List ix_V) (μ : ix_M) : ix_Ev o_X10_become Q (44, ls, st, μ) = ix_getr 8 20 (fun k => k + 4) 47 (ix_Ev o_X10_become Q) Q ls st μ := ix_Ev.eq (a_X10_become launch0) rfl ls st μ
theorem e_X10_become_47 (Q : ix_R → Prop) (ls : ix_L) (st : List ix_V) (μ : ix_M) : ix_Ev o_X10_become Q (47, ls, st, μ) = ix_iload 1 48 (ix_Ev o_X10_become Q) Q ls st μ := ix_Ev.eq (a_X10_become launch0) rfl ls st μ
theorem e_X10_become_48 (Q : ix_R → Prop) (ls : ix_L) (st : List ix_V) (μ : ix_M) : ix_Ev o_X10_become Q (48, ls, st, μ) = ix_iload 2 49 (ix_Ev o_X10_become Q) Q ls st μ := ix_Ev.eq (a_X10_become launch0) rfl ls st μ
theorem e_X10_become_49 (Q : ix_R → Prop) (ls : ix_L) (st : List ix_V) (μ : ix_M) : ix_Ev o_X10_become Q (49, ls, st, μ) = ix_push (vi 10) 51 (ix_Ev o_X10_become Q) Q ls st μ := ix_Ev.eq (a_X10_become launch0) rfl ls st μ
theorem e_X10_become_51 (Q : ix_R → Prop) (ls : ix_L) (st : List ix_V) (μ : ix_M) : ix_Ev o_X10_become Q (51, ls, st, μ) = ix_div (fun x y => x / y) 52 (ix_Ev o_X10_become Q) Q ls st μ := ix_Ev.eq (a_X10_become launch0) rfl ls st μ
theorem e_X10_become_52 (Q : ix_R → Prop) (ls : ix_L) (st : List ix_V) (μ : ix_M) : ix_Ev o_X10_become Q (52, ls, st, μ) = oc_X10_exchange 55 (ix_Ev o_X10_become Q) Q ls st μ := ix_Ev.eq (a_X10_become launch0) rfl ls st μ
theorem e_X10_become_55 (Q : ix_R → Prop) (ls : ix_L) (st : List ix_V) (μ : ix_M) : ix_Ev o_X10_become Q (55, ls, st, μ) = ix_iret (ix_Ev o_X10_become Q) Q ls st μ := ix_Ev.eq (a_X10_become launch0) rfl ls st μ
def o_X11_become : List (Nat × ix_Op) := [
  (0, ix_aload 0 1),
  (1, ix_iload 1 2),
  (2, oc_X11_isBoat 5),
  (5, ix_if (fun x => x = 0) 15 8),
  (8, ix_iload 2 9),
  (9, oc_X11_isKindM 12),
  (12, ix_if (fun x => x = 0) 15 22),
  (15, ix_aload 0 16),
  (16, ix_push (vi (-1000000001)) 18),
  (18, oc_X11_finding 21),
  (21, ix_iret),
  (22, ix_aload 0 23),
  (23, ix_getr 10 20 (fun _ => 113) 26),
  (26, ix_iload 1 27),
  (27, ix_push (vi 1) 28),
  (28, oc_X11_boatAt 31),
  (31, ix_iload 2 32),
  (32, ix_push (vi 10) 34),
  (34, ix_div (fun x y => x - x / y * y) 35),
  (35, ix_iast 36),
  (36, ix_aload 0 37),
  (37, ix_iload 1 38),
  (38, ix_push (vi 0) 39),
  (39, oc_X11_boatAt 42),
  (42, ix_iload 2 43),
  (43, ix_push (vi 10) 45),
  (45, ix_div (fun x y => x / y) 46),
  (46, oc_X11_turn 49),
  (49, ix_iret)]
set_option maxRecDepth 20000 in
theorem a_X11_become (l : Launch) : ix_AllS l cX11_become 3 RX11 60 (some .int) o_X11_become :=
  .cons (ix_s_aload_n dX11_become_0 rfl) <|
  .cons (ix_s_iload_n dX11_become_1 rfl) <|
  .cons (oc_X11_isBoat_s (ix_s_callv (t := 10) (k_X11_isBoat l) (by decide) (by decide) tw_1135 tw_12 tw_1132 tw_1134 tp_37 ⟨by decide, by decide, by decide +kernel⟩ (by decide) rfl rfl (fun _ => ⟨_, _, rfl, rfl⟩) dX11_become_2)) <|
  .cons (ix_s_if_eq dX11_become_5 (by decide)) <|
  .cons (ix_s_iload_n dX11_become_8 rfl) <|
  .cons (oc_X11_isKindM_s (ix_s_calls (k_X11_isKindM l) (by decide) (by decide) tw_1123 tw_12 tw_1121 tw_1122 ⟨by decide, by decide, by decide +kernel⟩ (fun _ => rfl) dX11_become_9)) <|
  .cons (ix_s_if_ne dX11_become_12 (by decide)) <|
  .cons (ix_s_aload_n dX11_become_15 rfl) <|
  .cons (ix_s_ldc tw_961 dX11_become_16) <|
  .cons (oc_X11_finding_s (ix_s_callv (t := 10) (k_X11_finding l) (by decide) (by decide) tw_965 tw_12 tw_962 tw_964 tp_18 ⟨by decide, by decide, by decide +kernel⟩ (by decide) rfl rfl (fun _ => ⟨_, _, rfl, rfl⟩) dX11_become_18)) <|
  .cons (ix_s_iret dX11_become_21 rfl) <|
  .cons (ix_s_aload_n dX11_become_22 rfl) <|
  .cons (ix_s_getr (j := 0) tu_X11 rfl (by decide) (by decide) tw_875 rfl ts_10_0_r dX11_become_23) <|
  .cons (ix_s_iload_n dX11_become_26 rfl) <|
  .cons (ix_s_iconst dX11_become_27 (by decide +kernel)) <|
  .cons (oc_X11_boatAt_s (ix_s_calls (k_X11_boatAt l) (by decide) (by decide) tw_1086 tw_12 tw_1084 tw_1085 ⟨by decide, by decide, by decide +kernel⟩ (fun _ => rfl) dX11_become_28)) <|
  .cons (ix_s_iload_n dX11_become_31 rfl) <|
  .cons (ix_s_bipush dX11_become_32 (by decide +kernel)) <|
  .cons (ix_s_irem dX11_become_34) <|
  .cons (ix_s_iast dX11_become_35) <|
  .cons (ix_s_aload_n dX11_become_36 rfl) <|
  .cons (ix_s_iload_n dX11_become_37 rfl) <|
  .cons (ix_s_iconst dX11_become_38 (by decide +kernel)) <|
  .cons (oc_X11_boatAt_s (ix_s_calls (k_X11_boatAt l) (by decide) (by decide) tw_1086 tw_12 tw_1084 tw_1085 ⟨by decide, by decide, by decide +kernel⟩ (fun _ => rfl) dX11_become_39)) <|
  .cons (ix_s_iload_n dX11_become_42 rfl) <|
  .cons (ix_s_bipush dX11_become_43 (by decide +kernel)) <|
  .cons (ix_s_idiv dX11_become_45) <|
  .cons (oc_X11_turn_s (ix_s_callv (t := 10) (k_X11_turn l) (by decide) (by decide) tw_1071 tw_12 tw_1068 tw_1070 tp_32 ⟨by decide, by decide, by decide +kernel⟩ (by decide) rfl rfl (fun _ => ⟨_, _, rfl, rfl⟩) dX11_become_46)) <|
  .cons (ix_s_iret dX11_become_49 rfl) <| .nil
theorem e_X11_become_0 (Q : ix_R → Prop) (ls : ix_L) (st : List ix_V) (μ : ix_M) : ix_Ev o_X11_become Q (0, ls, st, μ) = ix_aload 0 1 (ix_Ev o_X11_become Q) Q ls st μ := ix_Ev.eq (a_X11_become launch0) rfl ls st μ
theorem e_X11_become_1 (Q : ix_R → Prop) (ls : ix_L) (st : List ix_V) (μ : ix_M) : ix_Ev o_X11_become Q (1, ls, st, μ) = ix_iload 1 2 (ix_Ev o_X11_become Q) Q ls st μ := ix_Ev.eq (a_X11_become launch0) rfl ls st μ
theorem e_X11_become_2 (Q : ix_R → Prop) (ls : ix_L) (st : List ix_V) (μ : ix_M) : ix_Ev o_X11_become Q (2, ls, st, μ) = oc_X11_isBoat 5 (ix_Ev o_X11_become Q) Q ls st μ := ix_Ev.eq (a_X11_become launch0) rfl ls st μ
theorem e_X11_become_5 (Q : ix_R → Prop) (ls : ix_L) (st : List ix_V) (μ : ix_M) : ix_Ev o_X11_become Q (5, ls, st, μ) = ix_if (fun x => x = 0) 15 8 (ix_Ev o_X11_become Q) Q ls st μ := ix_Ev.eq (a_X11_become launch0) rfl ls st μ
theorem e_X11_become_8 (Q : ix_R → Prop) (ls : ix_L) (st : List ix_V) (μ : ix_M) : ix_Ev o_X11_become Q (8, ls, st, μ) = ix_iload 2 9 (ix_Ev o_X11_become Q) Q ls st μ := ix_Ev.eq (a_X11_become launch0) rfl ls st μ
theorem e_X11_become_9 (Q : ix_R → Prop) (ls : ix_L) (st : List ix_V) (μ : ix_M) : ix_Ev o_X11_become Q (9, ls, st, μ) = oc_X11_isKindM 12 (ix_Ev o_X11_become Q) Q ls st μ := ix_Ev.eq (a_X11_become launch0) rfl ls st μ
theorem e_X11_become_12 (Q : ix_R → Prop) (ls : ix_L) (st : List ix_V) (μ : ix_M) : ix_Ev o_X11_become Q (12, ls, st, μ) = ix_if (fun x => x = 0) 15 22 (ix_Ev o_X11_become Q) Q ls st μ := ix_Ev.eq (a_X11_become launch0) rfl ls st μ
theorem e_X11_become_15 (Q : ix_R → Prop) (ls : ix_L) (st : List ix_V) (μ : ix_M) : ix_Ev o_X11_become Q (15, ls, st, μ) = ix_aload 0 16 (ix_Ev o_X11_become Q) Q ls st μ := ix_Ev.eq (a_X11_become launch0) rfl ls st μ
theorem e_X11_become_16 (Q : ix_R → Prop) (ls : ix_L) (st : List ix_V) (μ : ix_M) : ix_Ev o_X11_become Q (16, ls, st, μ) = ix_push (vi (-1000000001)) 18 (ix_Ev o_X11_become Q) Q ls st μ := ix_Ev.eq (a_X11_become launch0) rfl ls st μ
theorem e_X11_become_18 (Q : ix_R → Prop) (ls : ix_L) (st : List ix_V) (μ : ix_M) : ix_Ev o_X11_become Q (18, ls, st, μ) = oc_X11_finding 21 (ix_Ev o_X11_become Q) Q ls st μ := ix_Ev.eq (a_X11_become launch0) rfl ls st μ
theorem e_X11_become_21 (Q : ix_R → Prop) (ls : ix_L) (st : List ix_V) (μ : ix_M) : ix_Ev o_X11_become Q (21, ls, st, μ) = ix_iret (ix_Ev o_X11_become Q) Q ls st μ := ix_Ev.eq (a_X11_become launch0) rfl ls st μ
theorem e_X11_become_22 (Q : ix_R → Prop) (ls : ix_L) (st : List ix_V) (μ : ix_M) : ix_Ev o_X11_become Q (22, ls, st, μ) = ix_aload 0 23 (ix_Ev o_X11_become Q) Q ls st μ := ix_Ev.eq (a_X11_become launch0) rfl ls st μ
theorem e_X11_become_23 (Q : ix_R → Prop) (ls : ix_L) (st : List ix_V) (μ : ix_M) : ix_Ev o_X11_become Q (23, ls, st, μ) = ix_getr 10 20 (fun _ => 113) 26 (ix_Ev o_X11_become Q) Q ls st μ := ix_Ev.eq (a_X11_become launch0) rfl ls st μ
theorem e_X11_become_26 (Q : ix_R → Prop) (ls : ix_L) (st : List ix_V) (μ : ix_M) : ix_Ev o_X11_become Q (26, ls, st, μ) = ix_iload 1 27 (ix_Ev o_X11_become Q) Q ls st μ := ix_Ev.eq (a_X11_become launch0) rfl ls st μ
theorem e_X11_become_27 (Q : ix_R → Prop) (ls : ix_L) (st : List ix_V) (μ : ix_M) : ix_Ev o_X11_become Q (27, ls, st, μ) = ix_push (vi 1) 28 (ix_Ev o_X11_become Q) Q ls st μ := ix_Ev.eq (a_X11_become launch0) rfl ls st μ
theorem e_X11_become_28 (Q : ix_R → Prop) (ls : ix_L) (st : List ix_V) (μ : ix_M) : ix_Ev o_X11_become Q (28, ls, st, μ) = oc_X11_boatAt 31 (ix_Ev o_X11_become Q) Q ls st μ := ix_Ev.eq (a_X11_become launch0) rfl ls st μ
theorem e_X11_become_31 (Q : ix_R → Prop) (ls : ix_L) (st : List ix_V) (μ : ix_M) : ix_Ev o_X11_become Q (31, ls, st, μ) = ix_iload 2 32 (ix_Ev o_X11_become Q) Q ls st μ := ix_Ev.eq (a_X11_become launch0) rfl ls st μ
theorem e_X11_become_32 (Q : ix_R → Prop) (ls : ix_L) (st : List ix_V) (μ : ix_M) : ix_Ev o_X11_become Q (32, ls, st, μ) = ix_push (vi 10) 34 (ix_Ev o_X11_become Q) Q ls st μ := ix_Ev.eq (a_X11_become launch0) rfl ls st μ
theorem e_X11_become_34 (Q : ix_R → Prop) (ls : ix_L) (st : List ix_V) (μ : ix_M) : ix_Ev o_X11_become Q (34, ls, st, μ) = ix_div (fun x y => x - x / y * y) 35 (ix_Ev o_X11_become Q) Q ls st μ := ix_Ev.eq (a_X11_become launch0) rfl ls st μ
theorem e_X11_become_35 (Q : ix_R → Prop) (ls : ix_L) (st : List ix_V) (μ : ix_M) : ix_Ev o_X11_become Q (35, ls, st, μ) = ix_iast 36 (ix_Ev o_X11_become Q) Q ls st μ := ix_Ev.eq (a_X11_become launch0) rfl ls st μ
theorem e_X11_become_36 (Q : ix_R → Prop) (ls : ix_L) (st : List ix_V) (μ : ix_M) : ix_Ev o_X11_become Q (36, ls, st, μ) = ix_aload 0 37 (ix_Ev o_X11_become Q) Q ls st μ := ix_Ev.eq (a_X11_become launch0) rfl ls st μ
theorem e_X11_become_37 (Q : ix_R → Prop) (ls : ix_L) (st : List ix_V) (μ : ix_M) : ix_Ev o_X11_become Q (37, ls, st, μ) = ix_iload 1 38 (ix_Ev o_X11_become Q) Q ls st μ := ix_Ev.eq (a_X11_become launch0) rfl ls st μ
theorem e_X11_become_38 (Q : ix_R → Prop) (ls : ix_L) (st : List ix_V) (μ : ix_M) : ix_Ev o_X11_become Q (38, ls, st, μ) = ix_push (vi 0) 39 (ix_Ev o_X11_become Q) Q ls st μ := ix_Ev.eq (a_X11_become launch0) rfl ls st μ
theorem e_X11_become_39 (Q : ix_R → Prop) (ls : ix_L) (st : List ix_V) (μ : ix_M) : ix_Ev o_X11_become Q (39, ls, st, μ) = oc_X11_boatAt 42 (ix_Ev o_X11_become Q) Q ls st μ := ix_Ev.eq (a_X11_become launch0) rfl ls st μ
theorem e_X11_become_42 (Q : ix_R → Prop) (ls : ix_L) (st : List ix_V) (μ : ix_M) : ix_Ev o_X11_become Q (42, ls, st, μ) = ix_iload 2 43 (ix_Ev o_X11_become Q) Q ls st μ := ix_Ev.eq (a_X11_become launch0) rfl ls st μ
theorem e_X11_become_43 (Q : ix_R → Prop) (ls : ix_L) (st : List ix_V) (μ : ix_M) : ix_Ev o_X11_become Q (43, ls, st, μ) = ix_push (vi 10) 45 (ix_Ev o_X11_become Q) Q ls st μ := ix_Ev.eq (a_X11_become launch0) rfl ls st μ
theorem e_X11_become_45 (Q : ix_R → Prop) (ls : ix_L) (st : List ix_V) (μ : ix_M) : ix_Ev o_X11_become Q (45, ls, st, μ) = ix_div (fun x y => x / y) 46 (ix_Ev o_X11_become Q) Q ls st μ := ix_Ev.eq (a_X11_become launch0) rfl ls st μ
theorem e_X11_become_46 (Q : ix_R → Prop) (ls : ix_L) (st : List ix_V) (μ : ix_M) : ix_Ev o_X11_become Q (46, ls, st, μ) = oc_X11_turn 49 (ix_Ev o_X11_become Q) Q ls st μ := ix_Ev.eq (a_X11_become launch0) rfl ls st μ
theorem e_X11_become_49 (Q : ix_R → Prop) (ls : ix_L) (st : List ix_V) (μ : ix_M) : ix_Ev o_X11_become Q (49, ls, st, μ) = ix_iret (ix_Ev o_X11_become Q) Q ls st μ := ix_Ev.eq (a_X11_become launch0) rfl ls st μ
theorem pr_become (b : Int32) (k : Int32) (μ : ix_M) (I : Inv μ) (Q : ix_R → Prop) (hQ : ∀ vv μ', ix_Ev o_X11_become (Pst vv) (0, [some (vr 10 112), some (vi b), some (vi k)], [], μ') → Q (some (vi vv), μ')) : ix_Ev o_X10_become Q (0, [some (vr 9 0), some (vi b), some (vi k)], [], μ) := by
  obtain ⟨N, hN, n1, n2⟩ := I.n
  rcases inB b hN with ⟨B, hB, rfl, B1, B2, B3, B4⟩ | ⟨hx1, hx2⟩
  · have Bc : (nI B).toNatClampNeg = B := nI_clamp (by omega)
    have v1 : vp_in (nI B) (ix_len 6) := vp_in_nI (show B < 8 by omega) (by decide)
    have v2 : vp_in (nI B) (ix_len 7) := vp_in_nI (show B < 8 by omega) (by decide)
    have hx := bx B (by omega)
    rcases km_in k with ⟨K, hK, rfl, K1, K2, K3, K4, K5, K6, K7⟩ | ⟨hx1, hx2⟩
    · simp (decide := true) only [e_X10_become_0, e_X10_become_1, e_X10_become_2, e_X10_become_5, e_X10_become_8, e_X10_become_9, e_X10_become_12, e_X10_become_15, e_X10_become_16, e_X10_become_17, e_X10_become_20, e_X10_become_21, e_X10_become_22, e_X10_become_25, e_X10_become_28, e_X10_become_31, e_X10_become_32, e_X10_become_33, e_X10_become_35, e_X10_become_36, e_X10_become_37, e_X10_become_38, e_X10_become_41, e_X10_become_44, e_X10_become_47, e_X10_become_48, e_X10_become_49, e_X10_become_51, e_X10_become_52, e_X10_become_55, vi, vl, vr, oc_X10_error, T_X10_error, oc_X10_exchange, T_X10_exchange, oc_X10_noBoat, T_X10_noBoat, oc_X10_noKindNumber, T_X10_noKindNumber, ix_push, ix_iload, ix_lload, ix_aload, ix_istore, ix_astore, ix_iinc, ix_bin, ix_div, ix_un, ix_i2l, ix_l2i, ix_lbin, ix_lsh, ix_lcmp, ix_dup, ix_dup2, ix_pop, ix_if, ix_cmp, ix_goto, ix_switch, ix_sw, ix_iret, ix_zret, ix_vret, ix_aret, ix_geti, ix_getr, ix_puti, ix_putz, ix_puts, ix_gets, ix_iald, ix_iast, ix_alen, ix_aald, ix_gval, ix_gcod, ix_bald, ix_blen, ix_sald, ix_nret, ix_math2, ix_math1, ix_acopy, Nat.add_assoc, Int32.reduceLT, Int32.reduceLE, Int32.reduceToNatClampNeg, Int32.reduceSub, Int32.reduceAdd, Nat.reduceAdd, Nat.reduceLeDiff, true_or, or_true, or_false, false_or, not_false_eq_true, not_true_eq_false, false_implies, true_implies, implies_true, and_self, mB_0, mB_01, Classical.not_not, Nat.zero_le, List.getElem?_cons_zero, List.getElem?_cons_succ, List.set_cons_zero, List.set_cons_succ, ix_nl, ix_cs, true_and, and_true, Option.toList_some, Option.toList_none, List.cons_append, List.nil_append, n1, n2, B1, B2, B3, B4, Bc, K1, K2, K3, K4, K5, K7, v1, v2, hx, ix_up_ne, ix_up_k, ve_1, ve_2, ve_3, ve_4, ve_5]
      refine hQ _ _ ?_
      simp (decide := true) only [e_X11_become_0, e_X11_become_1, e_X11_become_2, e_X11_become_5, e_X11_become_8, e_X11_become_9, e_X11_become_12, e_X11_become_15, e_X11_become_16, e_X11_become_18, e_X11_become_21, e_X11_become_22, e_X11_become_23, e_X11_become_26, e_X11_become_27, e_X11_become_28, e_X11_become_31, e_X11_become_32, e_X11_become_34, e_X11_become_35, e_X11_become_36, e_X11_become_37, e_X11_become_38, e_X11_become_39, e_X11_become_42, e_X11_become_43, e_X11_become_45, e_X11_become_46, e_X11_become_49, vi, vl, vr, oc_X11_boatAt, T_X11_boatAt, oc_X11_finding, T_X11_finding, oc_X11_isBoat, T_X11_isBoat, oc_X11_isKindM, T_X11_isKindM, oc_X11_turn, T_X11_turn, ix_push, ix_iload, ix_lload, ix_aload, ix_istore, ix_astore, ix_iinc, ix_bin, ix_div, ix_un, ix_i2l, ix_l2i, ix_lbin, ix_lsh, ix_lcmp, ix_dup, ix_dup2, ix_pop, ix_if, ix_cmp, ix_goto, ix_switch, ix_sw, ix_iret, ix_zret, ix_vret, ix_aret, ix_geti, ix_getr, ix_puti, ix_putz, ix_puts, ix_gets, ix_iald, ix_iast, ix_alen, ix_aald, ix_gval, ix_gcod, ix_bald, ix_blen, ix_sald, ix_nret, ix_math2, ix_math1, ix_acopy, ml_113, ml_114, ml_115, ml_116, ml_118, ml_119, ml_120, ml_121, ml_122, ml_123, ml_124, ml_125, ml_126, mv_0, mv_1, mv_2, mv_3, mv_4, mv_5, mB_or, Nat.add_assoc, Int32.reduceLT, Int32.reduceLE, Int32.reduceToNatClampNeg, Int32.reduceSub, Int32.reduceAdd, Nat.reduceAdd, Nat.reduceLeDiff, true_or, or_true, or_false, false_or, not_false_eq_true, not_true_eq_false, false_implies, true_implies, implies_true, and_self, mB_0, mB_01, Classical.not_not, Nat.zero_le, List.getElem?_cons_zero, List.getElem?_cons_succ, List.set_cons_zero, List.set_cons_succ, ix_nl, ix_cs, true_and, and_true, Option.toList_some, Option.toList_none, List.cons_append, List.nil_append, n1, n2, B1, B2, B3, B4, Bc, K1, K2, K3, K4, K5, K7, v1, v2, hx, ix_up_ne, ix_up_k, ve_1, ve_2, ve_3, ve_4, ve_5]
      refine pst (by rw [ix_up_ap, if_neg (by omega)]; exact (I.w4 (by omega)).symm) ?_
      refine Eq.mp (congrArg Inv ?_) ((I.set (r := 5) (i := B) (x := K % 10) (wok_5 (by omega)) (by unfold wrB; omega) rfl (nvI_5 B) rfl).set (r := 4) (i := B) (x := K / 10) (wok_4 (by omega)) (by unfold wrB; omega) rfl rfl rfl)
      funext a j
      by_cases h : a = 113
      · subst h
        simp [ix_up_ap]
        rfl
      · simp [ix_up_ap, h]
    · simp (decide := true) only [e_X10_become_0, e_X10_become_1, e_X10_become_2, e_X10_become_5, e_X10_become_8, e_X10_become_9, e_X10_become_12, e_X10_become_15, e_X10_become_16, e_X10_become_17, e_X10_become_20, e_X10_become_21, e_X10_become_22, e_X10_become_25, e_X10_become_28, e_X10_become_31, e_X10_become_32, e_X10_become_33, e_X10_become_35, e_X10_become_36, e_X10_become_37, e_X10_become_38, e_X10_become_41, e_X10_become_44, e_X10_become_47, e_X10_become_48, e_X10_become_49, e_X10_become_51, e_X10_become_52, e_X10_become_55, vi, vl, vr, oc_X10_error, T_X10_error, oc_X10_exchange, T_X10_exchange, oc_X10_noBoat, T_X10_noBoat, oc_X10_noKindNumber, T_X10_noKindNumber, ix_push, ix_iload, ix_lload, ix_aload, ix_istore, ix_astore, ix_iinc, ix_bin, ix_div, ix_un, ix_i2l, ix_l2i, ix_lbin, ix_lsh, ix_lcmp, ix_dup, ix_dup2, ix_pop, ix_if, ix_cmp, ix_goto, ix_switch, ix_sw, ix_iret, ix_zret, ix_vret, ix_aret, ix_geti, ix_getr, ix_puti, ix_putz, ix_puts, ix_gets, ix_iald, ix_iast, ix_alen, ix_aald, ix_gval, ix_gcod, ix_bald, ix_blen, ix_sald, ix_nret, ix_math2, ix_math1, ix_acopy, Nat.add_assoc, Int32.reduceLT, Int32.reduceLE, Int32.reduceToNatClampNeg, Int32.reduceSub, Int32.reduceAdd, Nat.reduceAdd, Nat.reduceLeDiff, true_or, or_true, or_false, false_or, not_false_eq_true, not_true_eq_false, false_implies, true_implies, implies_true, and_self, mB_0, mB_01, Classical.not_not, Nat.zero_le, List.getElem?_cons_zero, List.getElem?_cons_succ, List.set_cons_zero, List.set_cons_succ, ix_nl, ix_cs, true_and, and_true, Option.toList_some, Option.toList_none, List.cons_append, List.nil_append, n1, n2, B1, B2, B3, B4, Bc, hx1, hx2, ix_up_ne, ix_up_k, ve_1, ve_2, ve_3, ve_4, ve_5]
      refine hQ _ _ ?_
      simp (decide := true) only [e_X11_become_0, e_X11_become_1, e_X11_become_2, e_X11_become_5, e_X11_become_8, e_X11_become_9, e_X11_become_12, e_X11_become_15, e_X11_become_16, e_X11_become_18, e_X11_become_21, e_X11_become_22, e_X11_become_23, e_X11_become_26, e_X11_become_27, e_X11_become_28, e_X11_become_31, e_X11_become_32, e_X11_become_34, e_X11_become_35, e_X11_become_36, e_X11_become_37, e_X11_become_38, e_X11_become_39, e_X11_become_42, e_X11_become_43, e_X11_become_45, e_X11_become_46, e_X11_become_49, vi, vl, vr, oc_X11_boatAt, T_X11_boatAt, oc_X11_finding, T_X11_finding, oc_X11_isBoat, T_X11_isBoat, oc_X11_isKindM, T_X11_isKindM, oc_X11_turn, T_X11_turn, ix_push, ix_iload, ix_lload, ix_aload, ix_istore, ix_astore, ix_iinc, ix_bin, ix_div, ix_un, ix_i2l, ix_l2i, ix_lbin, ix_lsh, ix_lcmp, ix_dup, ix_dup2, ix_pop, ix_if, ix_cmp, ix_goto, ix_switch, ix_sw, ix_iret, ix_zret, ix_vret, ix_aret, ix_geti, ix_getr, ix_puti, ix_putz, ix_puts, ix_gets, ix_iald, ix_iast, ix_alen, ix_aald, ix_gval, ix_gcod, ix_bald, ix_blen, ix_sald, ix_nret, ix_math2, ix_math1, ix_acopy, ml_113, ml_114, ml_115, ml_116, ml_118, ml_119, ml_120, ml_121, ml_122, ml_123, ml_124, ml_125, ml_126, mv_0, mv_1, mv_2, mv_3, mv_4, mv_5, mB_or, Nat.add_assoc, Int32.reduceLT, Int32.reduceLE, Int32.reduceToNatClampNeg, Int32.reduceSub, Int32.reduceAdd, Nat.reduceAdd, Nat.reduceLeDiff, true_or, or_true, or_false, false_or, not_false_eq_true, not_true_eq_false, false_implies, true_implies, implies_true, and_self, mB_0, mB_01, Classical.not_not, Nat.zero_le, List.getElem?_cons_zero, List.getElem?_cons_succ, List.set_cons_zero, List.set_cons_succ, ix_nl, ix_cs, true_and, and_true, Option.toList_some, Option.toList_none, List.cons_append, List.nil_append, n1, n2, B1, B2, B3, B4, Bc, hx1, hx2, ix_up_ne, ix_up_k, ve_1, ve_2, ve_3, ve_4, ve_5]
      repeat' (first | exact I.er 1 (by decide) | refine ⟨fun _ => ?_, fun _ => ?_⟩)
  · simp (decide := true) only [e_X10_become_0, e_X10_become_1, e_X10_become_2, e_X10_become_5, e_X10_become_8, e_X10_become_9, e_X10_become_12, e_X10_become_15, e_X10_become_16, e_X10_become_17, e_X10_become_20, e_X10_become_21, e_X10_become_22, e_X10_become_25, e_X10_become_28, e_X10_become_31, e_X10_become_32, e_X10_become_33, e_X10_become_35, e_X10_become_36, e_X10_become_37, e_X10_become_38, e_X10_become_41, e_X10_become_44, e_X10_become_47, e_X10_become_48, e_X10_become_49, e_X10_become_51, e_X10_become_52, e_X10_become_55, vi, vl, vr, oc_X10_error, T_X10_error, oc_X10_exchange, T_X10_exchange, oc_X10_noBoat, T_X10_noBoat, oc_X10_noKindNumber, T_X10_noKindNumber, ix_push, ix_iload, ix_lload, ix_aload, ix_istore, ix_astore, ix_iinc, ix_bin, ix_div, ix_un, ix_i2l, ix_l2i, ix_lbin, ix_lsh, ix_lcmp, ix_dup, ix_dup2, ix_pop, ix_if, ix_cmp, ix_goto, ix_switch, ix_sw, ix_iret, ix_zret, ix_vret, ix_aret, ix_geti, ix_getr, ix_puti, ix_putz, ix_puts, ix_gets, ix_iald, ix_iast, ix_alen, ix_aald, ix_gval, ix_gcod, ix_bald, ix_blen, ix_sald, ix_nret, ix_math2, ix_math1, ix_acopy, Nat.add_assoc, Int32.reduceLT, Int32.reduceLE, Int32.reduceToNatClampNeg, Int32.reduceSub, Int32.reduceAdd, Nat.reduceAdd, Nat.reduceLeDiff, true_or, or_true, or_false, false_or, not_false_eq_true, not_true_eq_false, false_implies, true_implies, implies_true, and_self, mB_0, mB_01, Classical.not_not, Nat.zero_le, List.getElem?_cons_zero, List.getElem?_cons_succ, List.set_cons_zero, List.set_cons_succ, ix_nl, ix_cs, true_and, and_true, Option.toList_some, Option.toList_none, List.cons_append, List.nil_append, n1, n2, hx1, hx2, ix_up_ne, ix_up_k, ve_1, ve_2, ve_3, ve_4, ve_5]
    refine hQ _ _ ?_
    simp (decide := true) only [e_X11_become_0, e_X11_become_1, e_X11_become_2, e_X11_become_5, e_X11_become_8, e_X11_become_9, e_X11_become_12, e_X11_become_15, e_X11_become_16, e_X11_become_18, e_X11_become_21, e_X11_become_22, e_X11_become_23, e_X11_become_26, e_X11_become_27, e_X11_become_28, e_X11_become_31, e_X11_become_32, e_X11_become_34, e_X11_become_35, e_X11_become_36, e_X11_become_37, e_X11_become_38, e_X11_become_39, e_X11_become_42, e_X11_become_43, e_X11_become_45, e_X11_become_46, e_X11_become_49, vi, vl, vr, oc_X11_boatAt, T_X11_boatAt, oc_X11_finding, T_X11_finding, oc_X11_isBoat, T_X11_isBoat, oc_X11_isKindM, T_X11_isKindM, oc_X11_turn, T_X11_turn, ix_push, ix_iload, ix_lload, ix_aload, ix_istore, ix_astore, ix_iinc, ix_bin, ix_div, ix_un, ix_i2l, ix_l2i, ix_lbin, ix_lsh, ix_lcmp, ix_dup, ix_dup2, ix_pop, ix_if, ix_cmp, ix_goto, ix_switch, ix_sw, ix_iret, ix_zret, ix_vret, ix_aret, ix_geti, ix_getr, ix_puti, ix_putz, ix_puts, ix_gets, ix_iald, ix_iast, ix_alen, ix_aald, ix_gval, ix_gcod, ix_bald, ix_blen, ix_sald, ix_nret, ix_math2, ix_math1, ix_acopy, ml_113, ml_114, ml_115, ml_116, ml_118, ml_119, ml_120, ml_121, ml_122, ml_123, ml_124, ml_125, ml_126, mv_0, mv_1, mv_2, mv_3, mv_4, mv_5, mB_or, Nat.add_assoc, Int32.reduceLT, Int32.reduceLE, Int32.reduceToNatClampNeg, Int32.reduceSub, Int32.reduceAdd, Nat.reduceAdd, Nat.reduceLeDiff, true_or, or_true, or_false, false_or, not_false_eq_true, not_true_eq_false, false_implies, true_implies, implies_true, and_self, mB_0, mB_01, Classical.not_not, Nat.zero_le, List.getElem?_cons_zero, List.getElem?_cons_succ, List.set_cons_zero, List.set_cons_succ, ix_nl, ix_cs, true_and, and_true, Option.toList_some, Option.toList_none, List.cons_append, List.nil_append, n1, n2, hx1, hx2, ix_up_ne, ix_up_k, ve_1, ve_2, ve_3, ve_4, ve_5]
    repeat' (first | exact I.er 1 (by decide) | refine ⟨fun _ => ?_, fun _ => ?_⟩)
def o_X10_as : List (Nat × ix_Op) := [
  (0, ix_aload 0 1),
  (1, ix_iload 1 2),
  (2, oc_X10_noBoat 5),
  (5, ix_if (fun x => x = 0) 8 17),
  (8, ix_iload 2 9),
  (9, ix_push (vi 6) 11),
  (11, oc_X10_outside 14),
  (14, ix_if (fun x => x = 0) 23 17),
  (17, ix_aload 0 18),
  (18, ix_push (vi 1) 19),
  (19, oc_X10_error 22),
  (22, ix_iret),
  (23, ix_aload 0 24),
  (24, ix_getr 9 5 (fun _ => 1) 27),
  (27, ix_getr 5 8 (fun k => k + 1) 30),
  (30, ix_getr 8 20 (fun k => k + 4) 33),
  (33, ix_iload 1 34),
  (34, ix_iald 35),
  (35, ix_iload 2 36),
  (36, oc_X0_isUnder 39),
  (39, ix_if (fun x => x = 0) 42 48),
  (42, ix_aload 0 43),
  (43, ix_push (vi 5) 44),
  (44, oc_X10_error 47),
  (47, ix_iret),
  (48, ix_aload 0 49),
  (49, ix_getr 9 5 (fun _ => 1) 52),
  (52, ix_getr 5 8 (fun k => k + 1) 55),
  (55, ix_getr 8 20 (fun k => k + 5) 58),
  (58, ix_iload 1 59),
  (59, ix_iald 60),
  (60, ix_iret)]
set_option maxRecDepth 20000 in
theorem a_X10_as (l : Launch) : ix_AllS l cX10_as 3 RX10 60 (some .int) o_X10_as :=
  .cons (ix_s_aload_n dX10_as_0 rfl) <|
  .cons (ix_s_iload_n dX10_as_1 rfl) <|
  .cons (oc_X10_noBoat_s (ix_s_callv (t := 9) (k_X10_noBoat l) (by decide) (by decide) tw_369 tw_1 tw_366 tw_368 tp_1 ⟨by decide, by decide, by decide +kernel⟩ (by decide) rfl rfl (fun _ => ⟨_, _, rfl, rfl⟩) dX10_as_2)) <|
  .cons (ix_s_if_ne dX10_as_5 (by decide)) <|
  .cons (ix_s_iload_n dX10_as_8 rfl) <|
  .cons (ix_s_bipush dX10_as_9 (by decide +kernel)) <|
  .cons (oc_X10_outside_s (ix_s_calls (k_X10_outside l) (by decide) (by decide) tw_291 tw_1 tw_289 tw_290 ⟨by decide, by decide, by decide +kernel⟩ (fun _ => rfl) dX10_as_11)) <|
  .cons (ix_s_if_eq dX10_as_14 (by decide)) <|
  .cons (ix_s_aload_n dX10_as_17 rfl) <|
  .cons (ix_s_iconst dX10_as_18 (by decide +kernel)) <|
  .cons (oc_X10_error_s (ix_s_callv (t := 9) (k_X10_error l) (by decide) (by decide) tw_295 tw_1 tw_292 tw_294 tp_0 ⟨by decide, by decide, by decide +kernel⟩ (by decide) rfl rfl (fun _ => ⟨_, _, rfl, rfl⟩) dX10_as_19)) <|
  .cons (ix_s_iret dX10_as_22 rfl) <|
  .cons (ix_s_aload_n dX10_as_23 rfl) <|
  .cons (ix_s_getr (j := 0) tu_X10 rfl (by decide) (by decide) tw_251 rfl ts_9_0_r dX10_as_24) <|
  .cons (ix_s_getr (j := 0) tu_X6 rfl (by decide) (by decide) tw_138 rfl ts_5_0_r dX10_as_27) <|
  .cons (ix_s_getr (j := 3) tu_X9 rfl (by decide) (by decide) tw_47 rfl ts_8_3_r dX10_as_30) <|
  .cons (ix_s_iload_n dX10_as_33 rfl) <|
  .cons (ix_s_iald dX10_as_34) <|
  .cons (ix_s_iload_n dX10_as_35 rfl) <|
  .cons (oc_X0_isUnder_s (ix_s_calls (k_X0_isUnder l) (by decide) (by decide) tw_425 tw_13 tw_423 tw_424 ⟨by decide, by decide, by decide +kernel⟩ (fun _ => rfl) dX10_as_36)) <|
  .cons (ix_s_if_ne dX10_as_39 (by decide)) <|
  .cons (ix_s_aload_n dX10_as_42 rfl) <|
  .cons (ix_s_iconst dX10_as_43 (by decide +kernel)) <|
  .cons (oc_X10_error_s (ix_s_callv (t := 9) (k_X10_error l) (by decide) (by decide) tw_295 tw_1 tw_292 tw_294 tp_0 ⟨by decide, by decide, by decide +kernel⟩ (by decide) rfl rfl (fun _ => ⟨_, _, rfl, rfl⟩) dX10_as_44)) <|
  .cons (ix_s_iret dX10_as_47 rfl) <|
  .cons (ix_s_aload_n dX10_as_48 rfl) <|
  .cons (ix_s_getr (j := 0) tu_X10 rfl (by decide) (by decide) tw_251 rfl ts_9_0_r dX10_as_49) <|
  .cons (ix_s_getr (j := 0) tu_X6 rfl (by decide) (by decide) tw_138 rfl ts_5_0_r dX10_as_52) <|
  .cons (ix_s_getr (j := 4) tu_X9 rfl (by decide) (by decide) tw_49 rfl ts_8_4_r dX10_as_55) <|
  .cons (ix_s_iload_n dX10_as_58 rfl) <|
  .cons (ix_s_iald dX10_as_59) <|
  .cons (ix_s_iret dX10_as_60 rfl) <| .nil
theorem e_X10_as_0 (Q : ix_R → Prop) (ls : ix_L) (st : List ix_V) (μ : ix_M) : ix_Ev o_X10_as Q (0, ls, st, μ) = ix_aload 0 1 (ix_Ev o_X10_as Q) Q ls st μ := ix_Ev.eq (a_X10_as launch0) rfl ls st μ
theorem e_X10_as_1 (Q : ix_R → Prop) (ls : ix_L) (st : List ix_V) (μ : ix_M) : ix_Ev o_X10_as Q (1, ls, st, μ) = ix_iload 1 2 (ix_Ev o_X10_as Q) Q ls st μ := ix_Ev.eq (a_X10_as launch0) rfl ls st μ
theorem e_X10_as_2 (Q : ix_R → Prop) (ls : ix_L) (st : List ix_V) (μ : ix_M) : ix_Ev o_X10_as Q (2, ls, st, μ) = oc_X10_noBoat 5 (ix_Ev o_X10_as Q) Q ls st μ := ix_Ev.eq (a_X10_as launch0) rfl ls st μ
theorem e_X10_as_5 (Q : ix_R → Prop) (ls : ix_L) (st : List ix_V) (μ : ix_M) : ix_Ev o_X10_as Q (5, ls, st, μ) = ix_if (fun x => x = 0) 8 17 (ix_Ev o_X10_as Q) Q ls st μ := ix_Ev.eq (a_X10_as launch0) rfl ls st μ
theorem e_X10_as_8 (Q : ix_R → Prop) (ls : ix_L) (st : List ix_V) (μ : ix_M) : ix_Ev o_X10_as Q (8, ls, st, μ) = ix_iload 2 9 (ix_Ev o_X10_as Q) Q ls st μ := ix_Ev.eq (a_X10_as launch0) rfl ls st μ
theorem e_X10_as_9 (Q : ix_R → Prop) (ls : ix_L) (st : List ix_V) (μ : ix_M) : ix_Ev o_X10_as Q (9, ls, st, μ) = ix_push (vi 6) 11 (ix_Ev o_X10_as Q) Q ls st μ := ix_Ev.eq (a_X10_as launch0) rfl ls st μ
theorem e_X10_as_11 (Q : ix_R → Prop) (ls : ix_L) (st : List ix_V) (μ : ix_M) : ix_Ev o_X10_as Q (11, ls, st, μ) = oc_X10_outside 14 (ix_Ev o_X10_as Q) Q ls st μ := ix_Ev.eq (a_X10_as launch0) rfl ls st μ
theorem e_X10_as_14 (Q : ix_R → Prop) (ls : ix_L) (st : List ix_V) (μ : ix_M) : ix_Ev o_X10_as Q (14, ls, st, μ) = ix_if (fun x => x = 0) 23 17 (ix_Ev o_X10_as Q) Q ls st μ := ix_Ev.eq (a_X10_as launch0) rfl ls st μ
theorem e_X10_as_17 (Q : ix_R → Prop) (ls : ix_L) (st : List ix_V) (μ : ix_M) : ix_Ev o_X10_as Q (17, ls, st, μ) = ix_aload 0 18 (ix_Ev o_X10_as Q) Q ls st μ := ix_Ev.eq (a_X10_as launch0) rfl ls st μ
theorem e_X10_as_18 (Q : ix_R → Prop) (ls : ix_L) (st : List ix_V) (μ : ix_M) : ix_Ev o_X10_as Q (18, ls, st, μ) = ix_push (vi 1) 19 (ix_Ev o_X10_as Q) Q ls st μ := ix_Ev.eq (a_X10_as launch0) rfl ls st μ
theorem e_X10_as_19 (Q : ix_R → Prop) (ls : ix_L) (st : List ix_V) (μ : ix_M) : ix_Ev o_X10_as Q (19, ls, st, μ) = oc_X10_error 22 (ix_Ev o_X10_as Q) Q ls st μ := ix_Ev.eq (a_X10_as launch0) rfl ls st μ
theorem e_X10_as_22 (Q : ix_R → Prop) (ls : ix_L) (st : List ix_V) (μ : ix_M) : ix_Ev o_X10_as Q (22, ls, st, μ) = ix_iret (ix_Ev o_X10_as Q) Q ls st μ := ix_Ev.eq (a_X10_as launch0) rfl ls st μ
theorem e_X10_as_23 (Q : ix_R → Prop) (ls : ix_L) (st : List ix_V) (μ : ix_M) : ix_Ev o_X10_as Q (23, ls, st, μ) = ix_aload 0 24 (ix_Ev o_X10_as Q) Q ls st μ := ix_Ev.eq (a_X10_as launch0) rfl ls st μ
theorem e_X10_as_24 (Q : ix_R → Prop) (ls : ix_L) (st : List ix_V) (μ : ix_M) : ix_Ev o_X10_as Q (24, ls, st, μ) = ix_getr 9 5 (fun _ => 1) 27 (ix_Ev o_X10_as Q) Q ls st μ := ix_Ev.eq (a_X10_as launch0) rfl ls st μ
theorem e_X10_as_27 (Q : ix_R → Prop) (ls : ix_L) (st : List ix_V) (μ : ix_M) : ix_Ev o_X10_as Q (27, ls, st, μ) = ix_getr 5 8 (fun k => k + 1) 30 (ix_Ev o_X10_as Q) Q ls st μ := ix_Ev.eq (a_X10_as launch0) rfl ls st μ
theorem e_X10_as_30 (Q : ix_R → Prop) (ls : ix_L) (st : List ix_V) (μ : ix_M) : ix_Ev o_X10_as Q (30, ls, st, μ) = ix_getr 8 20 (fun k => k + 4) 33 (ix_Ev o_X10_as Q) Q ls st μ := ix_Ev.eq (a_X10_as launch0) rfl ls st μ
theorem e_X10_as_33 (Q : ix_R → Prop) (ls : ix_L) (st : List ix_V) (μ : ix_M) : ix_Ev o_X10_as Q (33, ls, st, μ) = ix_iload 1 34 (ix_Ev o_X10_as Q) Q ls st μ := ix_Ev.eq (a_X10_as launch0) rfl ls st μ
theorem e_X10_as_34 (Q : ix_R → Prop) (ls : ix_L) (st : List ix_V) (μ : ix_M) : ix_Ev o_X10_as Q (34, ls, st, μ) = ix_iald 35 (ix_Ev o_X10_as Q) Q ls st μ := ix_Ev.eq (a_X10_as launch0) rfl ls st μ
theorem e_X10_as_35 (Q : ix_R → Prop) (ls : ix_L) (st : List ix_V) (μ : ix_M) : ix_Ev o_X10_as Q (35, ls, st, μ) = ix_iload 2 36 (ix_Ev o_X10_as Q) Q ls st μ := ix_Ev.eq (a_X10_as launch0) rfl ls st μ
theorem e_X10_as_36 (Q : ix_R → Prop) (ls : ix_L) (st : List ix_V) (μ : ix_M) : ix_Ev o_X10_as Q (36, ls, st, μ) = oc_X0_isUnder 39 (ix_Ev o_X10_as Q) Q ls st μ := ix_Ev.eq (a_X10_as launch0) rfl ls st μ
theorem e_X10_as_39 (Q : ix_R → Prop) (ls : ix_L) (st : List ix_V) (μ : ix_M) : ix_Ev o_X10_as Q (39, ls, st, μ) = ix_if (fun x => x = 0) 42 48 (ix_Ev o_X10_as Q) Q ls st μ := ix_Ev.eq (a_X10_as launch0) rfl ls st μ
theorem e_X10_as_42 (Q : ix_R → Prop) (ls : ix_L) (st : List ix_V) (μ : ix_M) : ix_Ev o_X10_as Q (42, ls, st, μ) = ix_aload 0 43 (ix_Ev o_X10_as Q) Q ls st μ := ix_Ev.eq (a_X10_as launch0) rfl ls st μ
theorem e_X10_as_43 (Q : ix_R → Prop) (ls : ix_L) (st : List ix_V) (μ : ix_M) : ix_Ev o_X10_as Q (43, ls, st, μ) = ix_push (vi 5) 44 (ix_Ev o_X10_as Q) Q ls st μ := ix_Ev.eq (a_X10_as launch0) rfl ls st μ
theorem e_X10_as_44 (Q : ix_R → Prop) (ls : ix_L) (st : List ix_V) (μ : ix_M) : ix_Ev o_X10_as Q (44, ls, st, μ) = oc_X10_error 47 (ix_Ev o_X10_as Q) Q ls st μ := ix_Ev.eq (a_X10_as launch0) rfl ls st μ
theorem e_X10_as_47 (Q : ix_R → Prop) (ls : ix_L) (st : List ix_V) (μ : ix_M) : ix_Ev o_X10_as Q (47, ls, st, μ) = ix_iret (ix_Ev o_X10_as Q) Q ls st μ := ix_Ev.eq (a_X10_as launch0) rfl ls st μ
theorem e_X10_as_48 (Q : ix_R → Prop) (ls : ix_L) (st : List ix_V) (μ : ix_M) : ix_Ev o_X10_as Q (48, ls, st, μ) = ix_aload 0 49 (ix_Ev o_X10_as Q) Q ls st μ := ix_Ev.eq (a_X10_as launch0) rfl ls st μ
theorem e_X10_as_49 (Q : ix_R → Prop) (ls : ix_L) (st : List ix_V) (μ : ix_M) : ix_Ev o_X10_as Q (49, ls, st, μ) = ix_getr 9 5 (fun _ => 1) 52 (ix_Ev o_X10_as Q) Q ls st μ := ix_Ev.eq (a_X10_as launch0) rfl ls st μ
theorem e_X10_as_52 (Q : ix_R → Prop) (ls : ix_L) (st : List ix_V) (μ : ix_M) : ix_Ev o_X10_as Q (52, ls, st, μ) = ix_getr 5 8 (fun k => k + 1) 55 (ix_Ev o_X10_as Q) Q ls st μ := ix_Ev.eq (a_X10_as launch0) rfl ls st μ
theorem e_X10_as_55 (Q : ix_R → Prop) (ls : ix_L) (st : List ix_V) (μ : ix_M) : ix_Ev o_X10_as Q (55, ls, st, μ) = ix_getr 8 20 (fun k => k + 5) 58 (ix_Ev o_X10_as Q) Q ls st μ := ix_Ev.eq (a_X10_as launch0) rfl ls st μ
theorem e_X10_as_58 (Q : ix_R → Prop) (ls : ix_L) (st : List ix_V) (μ : ix_M) : ix_Ev o_X10_as Q (58, ls, st, μ) = ix_iload 1 59 (ix_Ev o_X10_as Q) Q ls st μ := ix_Ev.eq (a_X10_as launch0) rfl ls st μ
theorem e_X10_as_59 (Q : ix_R → Prop) (ls : ix_L) (st : List ix_V) (μ : ix_M) : ix_Ev o_X10_as Q (59, ls, st, μ) = ix_iald 60 (ix_Ev o_X10_as Q) Q ls st μ := ix_Ev.eq (a_X10_as launch0) rfl ls st μ
theorem e_X10_as_60 (Q : ix_R → Prop) (ls : ix_L) (st : List ix_V) (μ : ix_M) : ix_Ev o_X10_as Q (60, ls, st, μ) = ix_iret (ix_Ev o_X10_as Q) Q ls st μ := ix_Ev.eq (a_X10_as launch0) rfl ls st μ
def o_X11_as : List (Nat × ix_Op) := [
  (0, ix_aload 0 1),
  (1, ix_iload 1 2),
  (2, oc_X11_isBoat 5),
  (5, ix_if (fun x => x = 0) 18 8),
  (8, ix_iload 2 9),
  (9, ix_push (vi 0) 10),
  (10, ix_push (vi 6) 12),
  (12, oc_X11_within 15),
  (15, ix_if (fun x => x = 0) 18 25),
  (18, ix_aload 0 19),
  (19, ix_push (vi (-1000000001)) 21),
  (21, oc_X11_finding 24),
  (24, ix_iret),
  (25, ix_aload 0 26),
  (26, ix_iload 1 27),
  (27, ix_push (vi 0) 28),
  (28, oc_X11_boatIs 31),
  (31, ix_iload 2 32),
  (32, oc_X11_isUnder 35),
  (35, ix_if (fun x => x = 0) 47 38),
  (38, ix_aload 0 39),
  (39, ix_iload 1 40),
  (40, ix_push (vi 1) 41),
  (41, oc_X11_boatIs 44),
  (44, ix_goto 53),
  (47, ix_aload 0 48),
  (48, ix_push (vi (-1000000005)) 50),
  (50, oc_X11_finding 53),
  (53, ix_iret)]
set_option maxRecDepth 20000 in
theorem a_X11_as (l : Launch) : ix_AllS l cX11_as 3 RX11 60 (some .int) o_X11_as :=
  .cons (ix_s_aload_n dX11_as_0 rfl) <|
  .cons (ix_s_iload_n dX11_as_1 rfl) <|
  .cons (oc_X11_isBoat_s (ix_s_callv (t := 10) (k_X11_isBoat l) (by decide) (by decide) tw_1135 tw_12 tw_1132 tw_1134 tp_37 ⟨by decide, by decide, by decide +kernel⟩ (by decide) rfl rfl (fun _ => ⟨_, _, rfl, rfl⟩) dX11_as_2)) <|
  .cons (ix_s_if_eq dX11_as_5 (by decide)) <|
  .cons (ix_s_iload_n dX11_as_8 rfl) <|
  .cons (ix_s_iconst dX11_as_9 (by decide +kernel)) <|
  .cons (ix_s_bipush dX11_as_10 (by decide +kernel)) <|
  .cons (oc_X11_within_s (ix_s_calls (k_X11_within l) (by decide) (by decide) tw_960 tw_12 tw_958 tw_959 ⟨by decide, by decide, by decide +kernel⟩ (fun _ => rfl) dX11_as_12)) <|
  .cons (ix_s_if_ne dX11_as_15 (by decide)) <|
  .cons (ix_s_aload_n dX11_as_18 rfl) <|
  .cons (ix_s_ldc tw_961 dX11_as_19) <|
  .cons (oc_X11_finding_s (ix_s_callv (t := 10) (k_X11_finding l) (by decide) (by decide) tw_965 tw_12 tw_962 tw_964 tp_18 ⟨by decide, by decide, by decide +kernel⟩ (by decide) rfl rfl (fun _ => ⟨_, _, rfl, rfl⟩) dX11_as_21)) <|
  .cons (ix_s_iret dX11_as_24 rfl) <|
  .cons (ix_s_aload_n dX11_as_25 rfl) <|
  .cons (ix_s_iload_n dX11_as_26 rfl) <|
  .cons (ix_s_iconst dX11_as_27 (by decide +kernel)) <|
  .cons (oc_X11_boatIs_s (ix_s_callv (t := 10) (k_X11_boatIs l) (by decide) (by decide) tw_1083 tw_12 tw_1080 tw_1082 tp_34 ⟨by decide, by decide, by decide +kernel⟩ (by decide) rfl rfl (fun _ => ⟨_, _, rfl, rfl⟩) dX11_as_28)) <|
  .cons (ix_s_iload_n dX11_as_31 rfl) <|
  .cons (oc_X11_isUnder_s (ix_s_calls (k_X11_isUnder l) (by decide) (by decide) tw_1174 tw_12 tw_1172 tw_1173 ⟨by decide, by decide, by decide +kernel⟩ (fun _ => rfl) dX11_as_32)) <|
  .cons (ix_s_if_eq dX11_as_35 (by decide)) <|
  .cons (ix_s_aload_n dX11_as_38 rfl) <|
  .cons (ix_s_iload_n dX11_as_39 rfl) <|
  .cons (ix_s_iconst dX11_as_40 (by decide +kernel)) <|
  .cons (oc_X11_boatIs_s (ix_s_callv (t := 10) (k_X11_boatIs l) (by decide) (by decide) tw_1083 tw_12 tw_1080 tw_1082 tp_34 ⟨by decide, by decide, by decide +kernel⟩ (by decide) rfl rfl (fun _ => ⟨_, _, rfl, rfl⟩) dX11_as_41)) <|
  .cons (ix_s_goto dX11_as_44 (by decide)) <|
  .cons (ix_s_aload_n dX11_as_47 rfl) <|
  .cons (ix_s_ldc tw_1178 dX11_as_48) <|
  .cons (oc_X11_finding_s (ix_s_callv (t := 10) (k_X11_finding l) (by decide) (by decide) tw_965 tw_12 tw_962 tw_964 tp_18 ⟨by decide, by decide, by decide +kernel⟩ (by decide) rfl rfl (fun _ => ⟨_, _, rfl, rfl⟩) dX11_as_50)) <|
  .cons (ix_s_iret dX11_as_53 rfl) <| .nil
theorem e_X11_as_0 (Q : ix_R → Prop) (ls : ix_L) (st : List ix_V) (μ : ix_M) : ix_Ev o_X11_as Q (0, ls, st, μ) = ix_aload 0 1 (ix_Ev o_X11_as Q) Q ls st μ := ix_Ev.eq (a_X11_as launch0) rfl ls st μ
theorem e_X11_as_1 (Q : ix_R → Prop) (ls : ix_L) (st : List ix_V) (μ : ix_M) : ix_Ev o_X11_as Q (1, ls, st, μ) = ix_iload 1 2 (ix_Ev o_X11_as Q) Q ls st μ := ix_Ev.eq (a_X11_as launch0) rfl ls st μ
theorem e_X11_as_2 (Q : ix_R → Prop) (ls : ix_L) (st : List ix_V) (μ : ix_M) : ix_Ev o_X11_as Q (2, ls, st, μ) = oc_X11_isBoat 5 (ix_Ev o_X11_as Q) Q ls st μ := ix_Ev.eq (a_X11_as launch0) rfl ls st μ
theorem e_X11_as_5 (Q : ix_R → Prop) (ls : ix_L) (st : List ix_V) (μ : ix_M) : ix_Ev o_X11_as Q (5, ls, st, μ) = ix_if (fun x => x = 0) 18 8 (ix_Ev o_X11_as Q) Q ls st μ := ix_Ev.eq (a_X11_as launch0) rfl ls st μ
theorem e_X11_as_8 (Q : ix_R → Prop) (ls : ix_L) (st : List ix_V) (μ : ix_M) : ix_Ev o_X11_as Q (8, ls, st, μ) = ix_iload 2 9 (ix_Ev o_X11_as Q) Q ls st μ := ix_Ev.eq (a_X11_as launch0) rfl ls st μ
theorem e_X11_as_9 (Q : ix_R → Prop) (ls : ix_L) (st : List ix_V) (μ : ix_M) : ix_Ev o_X11_as Q (9, ls, st, μ) = ix_push (vi 0) 10 (ix_Ev o_X11_as Q) Q ls st μ := ix_Ev.eq (a_X11_as launch0) rfl ls st μ
theorem e_X11_as_10 (Q : ix_R → Prop) (ls : ix_L) (st : List ix_V) (μ : ix_M) : ix_Ev o_X11_as Q (10, ls, st, μ) = ix_push (vi 6) 12 (ix_Ev o_X11_as Q) Q ls st μ := ix_Ev.eq (a_X11_as launch0) rfl ls st μ
theorem e_X11_as_12 (Q : ix_R → Prop) (ls : ix_L) (st : List ix_V) (μ : ix_M) : ix_Ev o_X11_as Q (12, ls, st, μ) = oc_X11_within 15 (ix_Ev o_X11_as Q) Q ls st μ := ix_Ev.eq (a_X11_as launch0) rfl ls st μ
theorem e_X11_as_15 (Q : ix_R → Prop) (ls : ix_L) (st : List ix_V) (μ : ix_M) : ix_Ev o_X11_as Q (15, ls, st, μ) = ix_if (fun x => x = 0) 18 25 (ix_Ev o_X11_as Q) Q ls st μ := ix_Ev.eq (a_X11_as launch0) rfl ls st μ
theorem e_X11_as_18 (Q : ix_R → Prop) (ls : ix_L) (st : List ix_V) (μ : ix_M) : ix_Ev o_X11_as Q (18, ls, st, μ) = ix_aload 0 19 (ix_Ev o_X11_as Q) Q ls st μ := ix_Ev.eq (a_X11_as launch0) rfl ls st μ
theorem e_X11_as_19 (Q : ix_R → Prop) (ls : ix_L) (st : List ix_V) (μ : ix_M) : ix_Ev o_X11_as Q (19, ls, st, μ) = ix_push (vi (-1000000001)) 21 (ix_Ev o_X11_as Q) Q ls st μ := ix_Ev.eq (a_X11_as launch0) rfl ls st μ
theorem e_X11_as_21 (Q : ix_R → Prop) (ls : ix_L) (st : List ix_V) (μ : ix_M) : ix_Ev o_X11_as Q (21, ls, st, μ) = oc_X11_finding 24 (ix_Ev o_X11_as Q) Q ls st μ := ix_Ev.eq (a_X11_as launch0) rfl ls st μ
theorem e_X11_as_24 (Q : ix_R → Prop) (ls : ix_L) (st : List ix_V) (μ : ix_M) : ix_Ev o_X11_as Q (24, ls, st, μ) = ix_iret (ix_Ev o_X11_as Q) Q ls st μ := ix_Ev.eq (a_X11_as launch0) rfl ls st μ
theorem e_X11_as_25 (Q : ix_R → Prop) (ls : ix_L) (st : List ix_V) (μ : ix_M) : ix_Ev o_X11_as Q (25, ls, st, μ) = ix_aload 0 26 (ix_Ev o_X11_as Q) Q ls st μ := ix_Ev.eq (a_X11_as launch0) rfl ls st μ
theorem e_X11_as_26 (Q : ix_R → Prop) (ls : ix_L) (st : List ix_V) (μ : ix_M) : ix_Ev o_X11_as Q (26, ls, st, μ) = ix_iload 1 27 (ix_Ev o_X11_as Q) Q ls st μ := ix_Ev.eq (a_X11_as launch0) rfl ls st μ
theorem e_X11_as_27 (Q : ix_R → Prop) (ls : ix_L) (st : List ix_V) (μ : ix_M) : ix_Ev o_X11_as Q (27, ls, st, μ) = ix_push (vi 0) 28 (ix_Ev o_X11_as Q) Q ls st μ := ix_Ev.eq (a_X11_as launch0) rfl ls st μ
theorem e_X11_as_28 (Q : ix_R → Prop) (ls : ix_L) (st : List ix_V) (μ : ix_M) : ix_Ev o_X11_as Q (28, ls, st, μ) = oc_X11_boatIs 31 (ix_Ev o_X11_as Q) Q ls st μ := ix_Ev.eq (a_X11_as launch0) rfl ls st μ
theorem e_X11_as_31 (Q : ix_R → Prop) (ls : ix_L) (st : List ix_V) (μ : ix_M) : ix_Ev o_X11_as Q (31, ls, st, μ) = ix_iload 2 32 (ix_Ev o_X11_as Q) Q ls st μ := ix_Ev.eq (a_X11_as launch0) rfl ls st μ
theorem e_X11_as_32 (Q : ix_R → Prop) (ls : ix_L) (st : List ix_V) (μ : ix_M) : ix_Ev o_X11_as Q (32, ls, st, μ) = oc_X11_isUnder 35 (ix_Ev o_X11_as Q) Q ls st μ := ix_Ev.eq (a_X11_as launch0) rfl ls st μ
theorem e_X11_as_35 (Q : ix_R → Prop) (ls : ix_L) (st : List ix_V) (μ : ix_M) : ix_Ev o_X11_as Q (35, ls, st, μ) = ix_if (fun x => x = 0) 47 38 (ix_Ev o_X11_as Q) Q ls st μ := ix_Ev.eq (a_X11_as launch0) rfl ls st μ
theorem e_X11_as_38 (Q : ix_R → Prop) (ls : ix_L) (st : List ix_V) (μ : ix_M) : ix_Ev o_X11_as Q (38, ls, st, μ) = ix_aload 0 39 (ix_Ev o_X11_as Q) Q ls st μ := ix_Ev.eq (a_X11_as launch0) rfl ls st μ
theorem e_X11_as_39 (Q : ix_R → Prop) (ls : ix_L) (st : List ix_V) (μ : ix_M) : ix_Ev o_X11_as Q (39, ls, st, μ) = ix_iload 1 40 (ix_Ev o_X11_as Q) Q ls st μ := ix_Ev.eq (a_X11_as launch0) rfl ls st μ
theorem e_X11_as_40 (Q : ix_R → Prop) (ls : ix_L) (st : List ix_V) (μ : ix_M) : ix_Ev o_X11_as Q (40, ls, st, μ) = ix_push (vi 1) 41 (ix_Ev o_X11_as Q) Q ls st μ := ix_Ev.eq (a_X11_as launch0) rfl ls st μ
theorem e_X11_as_41 (Q : ix_R → Prop) (ls : ix_L) (st : List ix_V) (μ : ix_M) : ix_Ev o_X11_as Q (41, ls, st, μ) = oc_X11_boatIs 44 (ix_Ev o_X11_as Q) Q ls st μ := ix_Ev.eq (a_X11_as launch0) rfl ls st μ
theorem e_X11_as_44 (Q : ix_R → Prop) (ls : ix_L) (st : List ix_V) (μ : ix_M) : ix_Ev o_X11_as Q (44, ls, st, μ) = ix_goto 53 (ix_Ev o_X11_as Q) Q ls st μ := ix_Ev.eq (a_X11_as launch0) rfl ls st μ
theorem e_X11_as_47 (Q : ix_R → Prop) (ls : ix_L) (st : List ix_V) (μ : ix_M) : ix_Ev o_X11_as Q (47, ls, st, μ) = ix_aload 0 48 (ix_Ev o_X11_as Q) Q ls st μ := ix_Ev.eq (a_X11_as launch0) rfl ls st μ
theorem e_X11_as_48 (Q : ix_R → Prop) (ls : ix_L) (st : List ix_V) (μ : ix_M) : ix_Ev o_X11_as Q (48, ls, st, μ) = ix_push (vi (-1000000005)) 50 (ix_Ev o_X11_as Q) Q ls st μ := ix_Ev.eq (a_X11_as launch0) rfl ls st μ
theorem e_X11_as_50 (Q : ix_R → Prop) (ls : ix_L) (st : List ix_V) (μ : ix_M) : ix_Ev o_X11_as Q (50, ls, st, μ) = oc_X11_finding 53 (ix_Ev o_X11_as Q) Q ls st μ := ix_Ev.eq (a_X11_as launch0) rfl ls st μ
theorem e_X11_as_53 (Q : ix_R → Prop) (ls : ix_L) (st : List ix_V) (μ : ix_M) : ix_Ev o_X11_as Q (53, ls, st, μ) = ix_iret (ix_Ev o_X11_as Q) Q ls st μ := ix_Ev.eq (a_X11_as launch0) rfl ls st μ
theorem pr_as (b : Int32) (k : Int32) (μ : ix_M) (I : Inv μ) (Q : ix_R → Prop) (hQ : ∀ vv μ', ix_Ev o_X11_as (Pst vv) (0, [some (vr 10 112), some (vi b), some (vi k)], [], μ') → Q (some (vi vv), μ')) : ix_Ev o_X10_as Q (0, [some (vr 9 0), some (vi b), some (vi k)], [], μ) := by
  obtain ⟨N, hN, n1, n2⟩ := I.n
  rcases inB b hN with ⟨B, hB, rfl, B1, B2, B3, B4⟩ | ⟨hx1, hx2⟩
  · have Bc : (nI B).toNatClampNeg = B := nI_clamp (by omega)
    rcases inR k 6 (by decide) with ⟨K, hK, rfl⟩ | ⟨hx1, hx2⟩
    · obtain ⟨K1, K2, K3, K4⟩ : ¬ nI K < 0 ∧ ¬ (6 : Int32) < nI K ∧ 0 ≤ nI K ∧ nI K ≤ (6 : Int32) := rgN hK (by decide)
      have Kc : (nI K).toNatClampNeg = K := nI_clamp (by omega)
      have v1 : vp_in (nI B) (ix_len 6) := vp_in_nI (show B < 8 by omega) (by decide)
      have v2 : vp_in (nI B) (ix_len 7) := vp_in_nI (show B < 8 by omega) (by decide)
      have hx := bx B (by omega)
      obtain ⟨M, hM, hR, -⟩ := I.mi
      obtain ⟨X, hX, eX⟩ := hR.2.2.1 B (by omega)
      rw [nv_4 (μ 113) (i := B) (by omega)] at eX
      simp (decide := true) only [e_X10_as_0, e_X10_as_1, e_X10_as_2, e_X10_as_5, e_X10_as_8, e_X10_as_9, e_X10_as_11, e_X10_as_14, e_X10_as_17, e_X10_as_18, e_X10_as_19, e_X10_as_22, e_X10_as_23, e_X10_as_24, e_X10_as_27, e_X10_as_30, e_X10_as_33, e_X10_as_34, e_X10_as_35, e_X10_as_36, e_X10_as_39, e_X10_as_42, e_X10_as_43, e_X10_as_44, e_X10_as_47, e_X10_as_48, e_X10_as_49, e_X10_as_52, e_X10_as_55, e_X10_as_58, e_X10_as_59, e_X10_as_60, vi, vl, vr, oc_X0_isUnder, T_X0_isUnder, oc_X10_error, T_X10_error, oc_X10_noBoat, T_X10_noBoat, oc_X10_outside, T_X10_outside, ix_push, ix_iload, ix_lload, ix_aload, ix_istore, ix_astore, ix_iinc, ix_bin, ix_div, ix_un, ix_i2l, ix_l2i, ix_lbin, ix_lsh, ix_lcmp, ix_dup, ix_dup2, ix_pop, ix_if, ix_cmp, ix_goto, ix_switch, ix_sw, ix_iret, ix_zret, ix_vret, ix_aret, ix_geti, ix_getr, ix_puti, ix_putz, ix_puts, ix_gets, ix_iald, ix_iast, ix_alen, ix_aald, ix_gval, ix_gcod, ix_bald, ix_blen, ix_sald, ix_nret, ix_math2, ix_math1, ix_acopy, Nat.add_assoc, Int32.reduceLT, Int32.reduceLE, Int32.reduceToNatClampNeg, Int32.reduceSub, Int32.reduceAdd, Nat.reduceAdd, Nat.reduceLeDiff, true_or, or_true, or_false, false_or, not_false_eq_true, not_true_eq_false, false_implies, true_implies, implies_true, and_self, mB_0, mB_01, Classical.not_not, Nat.zero_le, List.getElem?_cons_zero, List.getElem?_cons_succ, List.set_cons_zero, List.set_cons_succ, ix_nl, ix_cs, true_and, and_true, Option.toList_some, Option.toList_none, List.cons_append, List.nil_append, n1, n2, B1, B2, B3, B4, Bc, K1, K2, K3, K4, Kc, v1, v2, ix_up_ne, ix_up_k, ve_1, ve_2, ve_3, ve_4, ve_5]
      rw [I.w4 (by omega), eX]
      refine ⟨fun z => hQ _ _ ?_, fun z => hQ _ _ ?_⟩
      · simp (decide := true) only [e_X11_as_0, e_X11_as_1, e_X11_as_2, e_X11_as_5, e_X11_as_8, e_X11_as_9, e_X11_as_10, e_X11_as_12, e_X11_as_15, e_X11_as_18, e_X11_as_19, e_X11_as_21, e_X11_as_24, e_X11_as_25, e_X11_as_26, e_X11_as_27, e_X11_as_28, e_X11_as_31, e_X11_as_32, e_X11_as_35, e_X11_as_38, e_X11_as_39, e_X11_as_40, e_X11_as_41, e_X11_as_44, e_X11_as_47, e_X11_as_48, e_X11_as_50, e_X11_as_53, vi, vl, vr, oc_X11_boatIs, T_X11_boatIs, oc_X11_finding, T_X11_finding, oc_X11_isBoat, T_X11_isBoat, oc_X11_isUnder, T_X11_isUnder, oc_X11_within, T_X11_within, ix_push, ix_iload, ix_lload, ix_aload, ix_istore, ix_astore, ix_iinc, ix_bin, ix_div, ix_un, ix_i2l, ix_l2i, ix_lbin, ix_lsh, ix_lcmp, ix_dup, ix_dup2, ix_pop, ix_if, ix_cmp, ix_goto, ix_switch, ix_sw, ix_iret, ix_zret, ix_vret, ix_aret, ix_geti, ix_getr, ix_puti, ix_putz, ix_puts, ix_gets, ix_iald, ix_iast, ix_alen, ix_aald, ix_gval, ix_gcod, ix_bald, ix_blen, ix_sald, ix_nret, ix_math2, ix_math1, ix_acopy, ml_113, ml_114, ml_115, ml_116, ml_118, ml_119, ml_120, ml_121, ml_122, ml_123, ml_124, ml_125, ml_126, mv_0, mv_1, mv_2, mv_3, mv_4, mv_5, mB_or, Nat.add_assoc, Int32.reduceLT, Int32.reduceLE, Int32.reduceToNatClampNeg, Int32.reduceSub, Int32.reduceAdd, Nat.reduceAdd, Nat.reduceLeDiff, true_or, or_true, or_false, false_or, not_false_eq_true, not_true_eq_false, false_implies, true_implies, implies_true, and_self, mB_0, mB_01, Classical.not_not, Nat.zero_le, List.getElem?_cons_zero, List.getElem?_cons_succ, List.set_cons_zero, List.set_cons_succ, ix_nl, ix_cs, true_and, and_true, Option.toList_some, Option.toList_none, List.cons_append, List.nil_append, n1, n2, B1, B2, B3, B4, Bc, K1, K2, K3, K4, Kc, hx, eX, ix_up_ne, ix_up_k, ve_1, ve_2, ve_3, ve_4, ve_5]
        refine ⟨⟨X, hX, rfl⟩, fun _ => I.er 5 (by decide), fun y => absurd y z⟩
      · simp (decide := true) only [e_X11_as_0, e_X11_as_1, e_X11_as_2, e_X11_as_5, e_X11_as_8, e_X11_as_9, e_X11_as_10, e_X11_as_12, e_X11_as_15, e_X11_as_18, e_X11_as_19, e_X11_as_21, e_X11_as_24, e_X11_as_25, e_X11_as_26, e_X11_as_27, e_X11_as_28, e_X11_as_31, e_X11_as_32, e_X11_as_35, e_X11_as_38, e_X11_as_39, e_X11_as_40, e_X11_as_41, e_X11_as_44, e_X11_as_47, e_X11_as_48, e_X11_as_50, e_X11_as_53, vi, vl, vr, oc_X11_boatIs, T_X11_boatIs, oc_X11_finding, T_X11_finding, oc_X11_isBoat, T_X11_isBoat, oc_X11_isUnder, T_X11_isUnder, oc_X11_within, T_X11_within, ix_push, ix_iload, ix_lload, ix_aload, ix_istore, ix_astore, ix_iinc, ix_bin, ix_div, ix_un, ix_i2l, ix_l2i, ix_lbin, ix_lsh, ix_lcmp, ix_dup, ix_dup2, ix_pop, ix_if, ix_cmp, ix_goto, ix_switch, ix_sw, ix_iret, ix_zret, ix_vret, ix_aret, ix_geti, ix_getr, ix_puti, ix_putz, ix_puts, ix_gets, ix_iald, ix_iast, ix_alen, ix_aald, ix_gval, ix_gcod, ix_bald, ix_blen, ix_sald, ix_nret, ix_math2, ix_math1, ix_acopy, ml_113, ml_114, ml_115, ml_116, ml_118, ml_119, ml_120, ml_121, ml_122, ml_123, ml_124, ml_125, ml_126, mv_0, mv_1, mv_2, mv_3, mv_4, mv_5, mB_or, Nat.add_assoc, Int32.reduceLT, Int32.reduceLE, Int32.reduceToNatClampNeg, Int32.reduceSub, Int32.reduceAdd, Nat.reduceAdd, Nat.reduceLeDiff, true_or, or_true, or_false, false_or, not_false_eq_true, not_true_eq_false, false_implies, true_implies, implies_true, and_self, mB_0, mB_01, Classical.not_not, Nat.zero_le, List.getElem?_cons_zero, List.getElem?_cons_succ, List.set_cons_zero, List.set_cons_succ, ix_nl, ix_cs, true_and, and_true, Option.toList_some, Option.toList_none, List.cons_append, List.nil_append, n1, n2, B1, B2, B3, B4, Bc, K1, K2, K3, K4, Kc, hx, eX, ix_up_ne, ix_up_k, ve_1, ve_2, ve_3, ve_4, ve_5]
        refine ⟨⟨X, hX, rfl⟩, fun y => absurd z y, fun _ => pst (I.w5 (by omega)).symm I⟩
    · have hx1 : k < 0 ∨ (6 : Int32) < k := hx1
      have hx2 : ¬ (0 ≤ k ∧ k ≤ (6 : Int32)) := hx2
      simp (decide := true) only [e_X10_as_0, e_X10_as_1, e_X10_as_2, e_X10_as_5, e_X10_as_8, e_X10_as_9, e_X10_as_11, e_X10_as_14, e_X10_as_17, e_X10_as_18, e_X10_as_19, e_X10_as_22, e_X10_as_23, e_X10_as_24, e_X10_as_27, e_X10_as_30, e_X10_as_33, e_X10_as_34, e_X10_as_35, e_X10_as_36, e_X10_as_39, e_X10_as_42, e_X10_as_43, e_X10_as_44, e_X10_as_47, e_X10_as_48, e_X10_as_49, e_X10_as_52, e_X10_as_55, e_X10_as_58, e_X10_as_59, e_X10_as_60, vi, vl, vr, oc_X0_isUnder, T_X0_isUnder, oc_X10_error, T_X10_error, oc_X10_noBoat, T_X10_noBoat, oc_X10_outside, T_X10_outside, ix_push, ix_iload, ix_lload, ix_aload, ix_istore, ix_astore, ix_iinc, ix_bin, ix_div, ix_un, ix_i2l, ix_l2i, ix_lbin, ix_lsh, ix_lcmp, ix_dup, ix_dup2, ix_pop, ix_if, ix_cmp, ix_goto, ix_switch, ix_sw, ix_iret, ix_zret, ix_vret, ix_aret, ix_geti, ix_getr, ix_puti, ix_putz, ix_puts, ix_gets, ix_iald, ix_iast, ix_alen, ix_aald, ix_gval, ix_gcod, ix_bald, ix_blen, ix_sald, ix_nret, ix_math2, ix_math1, ix_acopy, Nat.add_assoc, Int32.reduceLT, Int32.reduceLE, Int32.reduceToNatClampNeg, Int32.reduceSub, Int32.reduceAdd, Nat.reduceAdd, Nat.reduceLeDiff, true_or, or_true, or_false, false_or, not_false_eq_true, not_true_eq_false, false_implies, true_implies, implies_true, and_self, mB_0, mB_01, Classical.not_not, Nat.zero_le, List.getElem?_cons_zero, List.getElem?_cons_succ, List.set_cons_zero, List.set_cons_succ, ix_nl, ix_cs, true_and, and_true, Option.toList_some, Option.toList_none, List.cons_append, List.nil_append, n1, n2, B1, B2, B3, B4, Bc, hx1, hx2, ix_up_ne, ix_up_k, ve_1, ve_2, ve_3, ve_4, ve_5]
      refine hQ _ _ ?_
      simp (decide := true) only [e_X11_as_0, e_X11_as_1, e_X11_as_2, e_X11_as_5, e_X11_as_8, e_X11_as_9, e_X11_as_10, e_X11_as_12, e_X11_as_15, e_X11_as_18, e_X11_as_19, e_X11_as_21, e_X11_as_24, e_X11_as_25, e_X11_as_26, e_X11_as_27, e_X11_as_28, e_X11_as_31, e_X11_as_32, e_X11_as_35, e_X11_as_38, e_X11_as_39, e_X11_as_40, e_X11_as_41, e_X11_as_44, e_X11_as_47, e_X11_as_48, e_X11_as_50, e_X11_as_53, vi, vl, vr, oc_X11_boatIs, T_X11_boatIs, oc_X11_finding, T_X11_finding, oc_X11_isBoat, T_X11_isBoat, oc_X11_isUnder, T_X11_isUnder, oc_X11_within, T_X11_within, ix_push, ix_iload, ix_lload, ix_aload, ix_istore, ix_astore, ix_iinc, ix_bin, ix_div, ix_un, ix_i2l, ix_l2i, ix_lbin, ix_lsh, ix_lcmp, ix_dup, ix_dup2, ix_pop, ix_if, ix_cmp, ix_goto, ix_switch, ix_sw, ix_iret, ix_zret, ix_vret, ix_aret, ix_geti, ix_getr, ix_puti, ix_putz, ix_puts, ix_gets, ix_iald, ix_iast, ix_alen, ix_aald, ix_gval, ix_gcod, ix_bald, ix_blen, ix_sald, ix_nret, ix_math2, ix_math1, ix_acopy, ml_113, ml_114, ml_115, ml_116, ml_118, ml_119, ml_120, ml_121, ml_122, ml_123, ml_124, ml_125, ml_126, mv_0, mv_1, mv_2, mv_3, mv_4, mv_5, mB_or, Nat.add_assoc, Int32.reduceLT, Int32.reduceLE, Int32.reduceToNatClampNeg, Int32.reduceSub, Int32.reduceAdd, Nat.reduceAdd, Nat.reduceLeDiff, true_or, or_true, or_false, false_or, not_false_eq_true, not_true_eq_false, false_implies, true_implies, implies_true, and_self, mB_0, mB_01, Classical.not_not, Nat.zero_le, List.getElem?_cons_zero, List.getElem?_cons_succ, List.set_cons_zero, List.set_cons_succ, ix_nl, ix_cs, true_and, and_true, Option.toList_some, Option.toList_none, List.cons_append, List.nil_append, n1, n2, B1, B2, B3, B4, Bc, hx1, hx2, ix_up_ne, ix_up_k, ve_1, ve_2, ve_3, ve_4, ve_5]
      repeat' (first | exact I.er 1 (by decide) | refine ⟨fun _ => ?_, fun _ => ?_⟩)
  · simp (decide := true) only [e_X10_as_0, e_X10_as_1, e_X10_as_2, e_X10_as_5, e_X10_as_8, e_X10_as_9, e_X10_as_11, e_X10_as_14, e_X10_as_17, e_X10_as_18, e_X10_as_19, e_X10_as_22, e_X10_as_23, e_X10_as_24, e_X10_as_27, e_X10_as_30, e_X10_as_33, e_X10_as_34, e_X10_as_35, e_X10_as_36, e_X10_as_39, e_X10_as_42, e_X10_as_43, e_X10_as_44, e_X10_as_47, e_X10_as_48, e_X10_as_49, e_X10_as_52, e_X10_as_55, e_X10_as_58, e_X10_as_59, e_X10_as_60, vi, vl, vr, oc_X0_isUnder, T_X0_isUnder, oc_X10_error, T_X10_error, oc_X10_noBoat, T_X10_noBoat, oc_X10_outside, T_X10_outside, ix_push, ix_iload, ix_lload, ix_aload, ix_istore, ix_astore, ix_iinc, ix_bin, ix_div, ix_un, ix_i2l, ix_l2i, ix_lbin, ix_lsh, ix_lcmp, ix_dup, ix_dup2, ix_pop, ix_if, ix_cmp, ix_goto, ix_switch, ix_sw, ix_iret, ix_zret, ix_vret, ix_aret, ix_geti, ix_getr, ix_puti, ix_putz, ix_puts, ix_gets, ix_iald, ix_iast, ix_alen, ix_aald, ix_gval, ix_gcod, ix_bald, ix_blen, ix_sald, ix_nret, ix_math2, ix_math1, ix_acopy, Nat.add_assoc, Int32.reduceLT, Int32.reduceLE, Int32.reduceToNatClampNeg, Int32.reduceSub, Int32.reduceAdd, Nat.reduceAdd, Nat.reduceLeDiff, true_or, or_true, or_false, false_or, not_false_eq_true, not_true_eq_false, false_implies, true_implies, implies_true, and_self, mB_0, mB_01, Classical.not_not, Nat.zero_le, List.getElem?_cons_zero, List.getElem?_cons_succ, List.set_cons_zero, List.set_cons_succ, ix_nl, ix_cs, true_and, and_true, Option.toList_some, Option.toList_none, List.cons_append, List.nil_append, n1, n2, hx1, hx2, ix_up_ne, ix_up_k, ve_1, ve_2, ve_3, ve_4, ve_5]
    refine hQ _ _ ?_
    simp (decide := true) only [e_X11_as_0, e_X11_as_1, e_X11_as_2, e_X11_as_5, e_X11_as_8, e_X11_as_9, e_X11_as_10, e_X11_as_12, e_X11_as_15, e_X11_as_18, e_X11_as_19, e_X11_as_21, e_X11_as_24, e_X11_as_25, e_X11_as_26, e_X11_as_27, e_X11_as_28, e_X11_as_31, e_X11_as_32, e_X11_as_35, e_X11_as_38, e_X11_as_39, e_X11_as_40, e_X11_as_41, e_X11_as_44, e_X11_as_47, e_X11_as_48, e_X11_as_50, e_X11_as_53, vi, vl, vr, oc_X11_boatIs, T_X11_boatIs, oc_X11_finding, T_X11_finding, oc_X11_isBoat, T_X11_isBoat, oc_X11_isUnder, T_X11_isUnder, oc_X11_within, T_X11_within, ix_push, ix_iload, ix_lload, ix_aload, ix_istore, ix_astore, ix_iinc, ix_bin, ix_div, ix_un, ix_i2l, ix_l2i, ix_lbin, ix_lsh, ix_lcmp, ix_dup, ix_dup2, ix_pop, ix_if, ix_cmp, ix_goto, ix_switch, ix_sw, ix_iret, ix_zret, ix_vret, ix_aret, ix_geti, ix_getr, ix_puti, ix_putz, ix_puts, ix_gets, ix_iald, ix_iast, ix_alen, ix_aald, ix_gval, ix_gcod, ix_bald, ix_blen, ix_sald, ix_nret, ix_math2, ix_math1, ix_acopy, ml_113, ml_114, ml_115, ml_116, ml_118, ml_119, ml_120, ml_121, ml_122, ml_123, ml_124, ml_125, ml_126, mv_0, mv_1, mv_2, mv_3, mv_4, mv_5, mB_or, Nat.add_assoc, Int32.reduceLT, Int32.reduceLE, Int32.reduceToNatClampNeg, Int32.reduceSub, Int32.reduceAdd, Nat.reduceAdd, Nat.reduceLeDiff, true_or, or_true, or_false, false_or, not_false_eq_true, not_true_eq_false, false_implies, true_implies, implies_true, and_self, mB_0, mB_01, Classical.not_not, Nat.zero_le, List.getElem?_cons_zero, List.getElem?_cons_succ, List.set_cons_zero, List.set_cons_succ, ix_nl, ix_cs, true_and, and_true, Option.toList_some, Option.toList_none, List.cons_append, List.nil_append, n1, n2, hx1, hx2, ix_up_ne, ix_up_k, ve_1, ve_2, ve_3, ve_4, ve_5]
    repeat' (first | exact I.er 1 (by decide) | refine ⟨fun _ => ?_, fun _ => ?_⟩)
def o_X10_law : List (Nat × ix_Op) := [
  (0, ix_iload 1 1),
  (1, ix_push (vi 1) 2),
  (2, oc_X10_outside 5),
  (5, ix_if (fun x => x = 0) 14 8),
  (8, ix_aload 0 9),
  (9, ix_push (vi 1) 10),
  (10, oc_X10_error 13),
  (13, ix_iret),
  (14, ix_iload 1 15),
  (15, ix_if (fun x => x = 0) 18 35),
  (18, ix_aload 0 19),
  (19, ix_getr 9 5 (fun _ => 1) 22),
  (22, ix_getr 5 0 (fun k => k + 9) 25),
  (25, ix_iload 2 26),
  (26, ix_iload 3 27),
  (27, ix_iload 4 29),
  (29, oc_X1_settles 32),
  (32, ix_goto 49),
  (35, ix_aload 0 36),
  (36, ix_getr 9 5 (fun _ => 1) 39),
  (39, ix_getr 5 0 (fun k => k + 9) 42),
  (42, ix_iload 2 43),
  (43, ix_iload 3 44),
  (44, ix_iload 4 46),
  (46, oc_X1_loses 49),
  (49, ix_iret)]
set_option maxRecDepth 20000 in
theorem a_X10_law (l : Launch) : ix_AllS l cX10_law 5 RX10 60 (some .int) o_X10_law :=
  .cons (ix_s_iload_n dX10_law_0 rfl) <|
  .cons (ix_s_iconst dX10_law_1 (by decide +kernel)) <|
  .cons (oc_X10_outside_s (ix_s_calls (k_X10_outside l) (by decide) (by decide) tw_291 tw_1 tw_289 tw_290 ⟨by decide, by decide, by decide +kernel⟩ (fun _ => rfl) dX10_law_2)) <|
  .cons (ix_s_if_eq dX10_law_5 (by decide)) <|
  .cons (ix_s_aload_n dX10_law_8 rfl) <|
  .cons (ix_s_iconst dX10_law_9 (by decide +kernel)) <|
  .cons (oc_X10_error_s (ix_s_callv (t := 9) (k_X10_error l) (by decide) (by decide) tw_295 tw_1 tw_292 tw_294 tp_0 ⟨by decide, by decide, by decide +kernel⟩ (by decide) rfl rfl (fun _ => ⟨_, _, rfl, rfl⟩) dX10_law_10)) <|
  .cons (ix_s_iret dX10_law_13 rfl) <|
  .cons (ix_s_iload_n dX10_law_14 rfl) <|
  .cons (ix_s_if_ne dX10_law_15 (by decide)) <|
  .cons (ix_s_aload_n dX10_law_18 rfl) <|
  .cons (ix_s_getr (j := 0) tu_X10 rfl (by decide) (by decide) tw_251 rfl ts_9_0_r dX10_law_19) <|
  .cons (ix_s_getr (j := 1) tu_X6 rfl (by decide) (by decide) tw_140 rfl ts_5_1_r dX10_law_22) <|
  .cons (ix_s_iload_n dX10_law_25 rfl) <|
  .cons (ix_s_iload_n dX10_law_26 rfl) <|
  .cons (ix_s_iload dX10_law_27) <|
  .cons (oc_X1_settles_s (ix_s_callv (t := 0) (k_X1_settles l) (by decide) (by decide) tw_315 tw_4 tw_586 tw_313 tw_314 ⟨by decide, by decide, by decide +kernel⟩ (by decide) rfl rfl (fun _ => ⟨_, _, rfl, rfl⟩) dX10_law_29)) <|
  .cons (ix_s_goto dX10_law_32 (by decide)) <|
  .cons (ix_s_aload_n dX10_law_35 rfl) <|
  .cons (ix_s_getr (j := 0) tu_X10 rfl (by decide) (by decide) tw_251 rfl ts_9_0_r dX10_law_36) <|
  .cons (ix_s_getr (j := 1) tu_X6 rfl (by decide) (by decide) tw_140 rfl ts_5_1_r dX10_law_39) <|
  .cons (ix_s_iload_n dX10_law_42 rfl) <|
  .cons (ix_s_iload_n dX10_law_43 rfl) <|
  .cons (ix_s_iload dX10_law_44) <|
  .cons (oc_X1_loses_s (ix_s_callv (t := 0) (k_X1_loses l) (by decide) (by decide) tw_410 tw_4 tw_587 tw_408 tw_409 ⟨by decide, by decide, by decide +kernel⟩ (by decide) rfl rfl (fun _ => ⟨_, _, rfl, rfl⟩) dX10_law_46)) <|
  .cons (ix_s_iret dX10_law_49 rfl) <| .nil
theorem e_X10_law_0 (Q : ix_R → Prop) (ls : ix_L) (st : List ix_V) (μ : ix_M) : ix_Ev o_X10_law Q (0, ls, st, μ) = ix_iload 1 1 (ix_Ev o_X10_law Q) Q ls st μ := ix_Ev.eq (a_X10_law launch0) rfl ls st μ
theorem e_X10_law_1 (Q : ix_R → Prop) (ls : ix_L) (st : List ix_V) (μ : ix_M) : ix_Ev o_X10_law Q (1, ls, st, μ) = ix_push (vi 1) 2 (ix_Ev o_X10_law Q) Q ls st μ := ix_Ev.eq (a_X10_law launch0) rfl ls st μ
theorem e_X10_law_2 (Q : ix_R → Prop) (ls : ix_L) (st : List ix_V) (μ : ix_M) : ix_Ev o_X10_law Q (2, ls, st, μ) = oc_X10_outside 5 (ix_Ev o_X10_law Q) Q ls st μ := ix_Ev.eq (a_X10_law launch0) rfl ls st μ
theorem e_X10_law_5 (Q : ix_R → Prop) (ls : ix_L) (st : List ix_V) (μ : ix_M) : ix_Ev o_X10_law Q (5, ls, st, μ) = ix_if (fun x => x = 0) 14 8 (ix_Ev o_X10_law Q) Q ls st μ := ix_Ev.eq (a_X10_law launch0) rfl ls st μ
theorem e_X10_law_8 (Q : ix_R → Prop) (ls : ix_L) (st : List ix_V) (μ : ix_M) : ix_Ev o_X10_law Q (8, ls, st, μ) = ix_aload 0 9 (ix_Ev o_X10_law Q) Q ls st μ := ix_Ev.eq (a_X10_law launch0) rfl ls st μ
theorem e_X10_law_9 (Q : ix_R → Prop) (ls : ix_L) (st : List ix_V) (μ : ix_M) : ix_Ev o_X10_law Q (9, ls, st, μ) = ix_push (vi 1) 10 (ix_Ev o_X10_law Q) Q ls st μ := ix_Ev.eq (a_X10_law launch0) rfl ls st μ
theorem e_X10_law_10 (Q : ix_R → Prop) (ls : ix_L) (st : List ix_V) (μ : ix_M) : ix_Ev o_X10_law Q (10, ls, st, μ) = oc_X10_error 13 (ix_Ev o_X10_law Q) Q ls st μ := ix_Ev.eq (a_X10_law launch0) rfl ls st μ
theorem e_X10_law_13 (Q : ix_R → Prop) (ls : ix_L) (st : List ix_V) (μ : ix_M) : ix_Ev o_X10_law Q (13, ls, st, μ) = ix_iret (ix_Ev o_X10_law Q) Q ls st μ := ix_Ev.eq (a_X10_law launch0) rfl ls st μ
theorem e_X10_law_14 (Q : ix_R → Prop) (ls : ix_L) (st : List ix_V) (μ : ix_M) : ix_Ev o_X10_law Q (14, ls, st, μ) = ix_iload 1 15 (ix_Ev o_X10_law Q) Q ls st μ := ix_Ev.eq (a_X10_law launch0) rfl ls st μ
theorem e_X10_law_15 (Q : ix_R → Prop) (ls : ix_L) (st : List ix_V) (μ : ix_M) : ix_Ev o_X10_law Q (15, ls, st, μ) = ix_if (fun x => x = 0) 18 35 (ix_Ev o_X10_law Q) Q ls st μ := ix_Ev.eq (a_X10_law launch0) rfl ls st μ
theorem e_X10_law_18 (Q : ix_R → Prop) (ls : ix_L) (st : List ix_V) (μ : ix_M) : ix_Ev o_X10_law Q (18, ls, st, μ) = ix_aload 0 19 (ix_Ev o_X10_law Q) Q ls st μ := ix_Ev.eq (a_X10_law launch0) rfl ls st μ
theorem e_X10_law_19 (Q : ix_R → Prop) (ls : ix_L) (st : List ix_V) (μ : ix_M) : ix_Ev o_X10_law Q (19, ls, st, μ) = ix_getr 9 5 (fun _ => 1) 22 (ix_Ev o_X10_law Q) Q ls st μ := ix_Ev.eq (a_X10_law launch0) rfl ls st μ
theorem e_X10_law_22 (Q : ix_R → Prop) (ls : ix_L) (st : List ix_V) (μ : ix_M) : ix_Ev o_X10_law Q (22, ls, st, μ) = ix_getr 5 0 (fun k => k + 9) 25 (ix_Ev o_X10_law Q) Q ls st μ := ix_Ev.eq (a_X10_law launch0) rfl ls st μ
theorem e_X10_law_25 (Q : ix_R → Prop) (ls : ix_L) (st : List ix_V) (μ : ix_M) : ix_Ev o_X10_law Q (25, ls, st, μ) = ix_iload 2 26 (ix_Ev o_X10_law Q) Q ls st μ := ix_Ev.eq (a_X10_law launch0) rfl ls st μ
theorem e_X10_law_26 (Q : ix_R → Prop) (ls : ix_L) (st : List ix_V) (μ : ix_M) : ix_Ev o_X10_law Q (26, ls, st, μ) = ix_iload 3 27 (ix_Ev o_X10_law Q) Q ls st μ := ix_Ev.eq (a_X10_law launch0) rfl ls st μ
theorem e_X10_law_27 (Q : ix_R → Prop) (ls : ix_L) (st : List ix_V) (μ : ix_M) : ix_Ev o_X10_law Q (27, ls, st, μ) = ix_iload 4 29 (ix_Ev o_X10_law Q) Q ls st μ := ix_Ev.eq (a_X10_law launch0) rfl ls st μ
theorem e_X10_law_29 (Q : ix_R → Prop) (ls : ix_L) (st : List ix_V) (μ : ix_M) : ix_Ev o_X10_law Q (29, ls, st, μ) = oc_X1_settles 32 (ix_Ev o_X10_law Q) Q ls st μ := ix_Ev.eq (a_X10_law launch0) rfl ls st μ
theorem e_X10_law_32 (Q : ix_R → Prop) (ls : ix_L) (st : List ix_V) (μ : ix_M) : ix_Ev o_X10_law Q (32, ls, st, μ) = ix_goto 49 (ix_Ev o_X10_law Q) Q ls st μ := ix_Ev.eq (a_X10_law launch0) rfl ls st μ
theorem e_X10_law_35 (Q : ix_R → Prop) (ls : ix_L) (st : List ix_V) (μ : ix_M) : ix_Ev o_X10_law Q (35, ls, st, μ) = ix_aload 0 36 (ix_Ev o_X10_law Q) Q ls st μ := ix_Ev.eq (a_X10_law launch0) rfl ls st μ
theorem e_X10_law_36 (Q : ix_R → Prop) (ls : ix_L) (st : List ix_V) (μ : ix_M) : ix_Ev o_X10_law Q (36, ls, st, μ) = ix_getr 9 5 (fun _ => 1) 39 (ix_Ev o_X10_law Q) Q ls st μ := ix_Ev.eq (a_X10_law launch0) rfl ls st μ
theorem e_X10_law_39 (Q : ix_R → Prop) (ls : ix_L) (st : List ix_V) (μ : ix_M) : ix_Ev o_X10_law Q (39, ls, st, μ) = ix_getr 5 0 (fun k => k + 9) 42 (ix_Ev o_X10_law Q) Q ls st μ := ix_Ev.eq (a_X10_law launch0) rfl ls st μ
theorem e_X10_law_42 (Q : ix_R → Prop) (ls : ix_L) (st : List ix_V) (μ : ix_M) : ix_Ev o_X10_law Q (42, ls, st, μ) = ix_iload 2 43 (ix_Ev o_X10_law Q) Q ls st μ := ix_Ev.eq (a_X10_law launch0) rfl ls st μ
theorem e_X10_law_43 (Q : ix_R → Prop) (ls : ix_L) (st : List ix_V) (μ : ix_M) : ix_Ev o_X10_law Q (43, ls, st, μ) = ix_iload 3 44 (ix_Ev o_X10_law Q) Q ls st μ := ix_Ev.eq (a_X10_law launch0) rfl ls st μ
theorem e_X10_law_44 (Q : ix_R → Prop) (ls : ix_L) (st : List ix_V) (μ : ix_M) : ix_Ev o_X10_law Q (44, ls, st, μ) = ix_iload 4 46 (ix_Ev o_X10_law Q) Q ls st μ := ix_Ev.eq (a_X10_law launch0) rfl ls st μ
theorem e_X10_law_46 (Q : ix_R → Prop) (ls : ix_L) (st : List ix_V) (μ : ix_M) : ix_Ev o_X10_law Q (46, ls, st, μ) = oc_X1_loses 49 (ix_Ev o_X10_law Q) Q ls st μ := ix_Ev.eq (a_X10_law launch0) rfl ls st μ
theorem e_X10_law_49 (Q : ix_R → Prop) (ls : ix_L) (st : List ix_V) (μ : ix_M) : ix_Ev o_X10_law Q (49, ls, st, μ) = ix_iret (ix_Ev o_X10_law Q) Q ls st μ := ix_Ev.eq (a_X10_law launch0) rfl ls st μ
def o_X11_law : List (Nat × ix_Op) := [
  (0, ix_iload 1 1),
  (1, ix_push (vi 0) 2),
  (2, ix_push (vi 1) 3),
  (3, oc_X11_within 6),
  (6, ix_if (fun x => x = 0) 21 9),
  (9, ix_aload 0 10),
  (10, ix_iload 1 11),
  (11, ix_iload 2 12),
  (12, ix_iload 3 13),
  (13, ix_iload 4 15),
  (15, oc_X11_given 18),
  (18, ix_goto 27),
  (21, ix_aload 0 22),
  (22, ix_push (vi (-1000000001)) 24),
  (24, oc_X11_finding 27),
  (27, ix_iret)]
set_option maxRecDepth 20000 in
theorem a_X11_law (l : Launch) : ix_AllS l cX11_law 5 RX11 60 (some .int) o_X11_law :=
  .cons (ix_s_iload_n dX11_law_0 rfl) <|
  .cons (ix_s_iconst dX11_law_1 (by decide +kernel)) <|
  .cons (ix_s_iconst dX11_law_2 (by decide +kernel)) <|
  .cons (oc_X11_within_s (ix_s_calls (k_X11_within l) (by decide) (by decide) tw_960 tw_12 tw_958 tw_959 ⟨by decide, by decide, by decide +kernel⟩ (fun _ => rfl) dX11_law_3)) <|
  .cons (ix_s_if_eq dX11_law_6 (by decide)) <|
  .cons (ix_s_aload_n dX11_law_9 rfl) <|
  .cons (ix_s_iload_n dX11_law_10 rfl) <|
  .cons (ix_s_iload_n dX11_law_11 rfl) <|
  .cons (ix_s_iload_n dX11_law_12 rfl) <|
  .cons (ix_s_iload dX11_law_13) <|
  .cons (oc_X11_given_s (ix_s_callv (t := 10) (k_X11_given l) (by decide) (by decide) tw_1041 tw_12 tw_1038 tw_1040 tp_29 ⟨by decide, by decide, by decide +kernel⟩ (by decide) rfl rfl (fun _ => ⟨_, _, rfl, rfl⟩) dX11_law_15)) <|
  .cons (ix_s_goto dX11_law_18 (by decide)) <|
  .cons (ix_s_aload_n dX11_law_21 rfl) <|
  .cons (ix_s_ldc tw_961 dX11_law_22) <|
  .cons (oc_X11_finding_s (ix_s_callv (t := 10) (k_X11_finding l) (by decide) (by decide) tw_965 tw_12 tw_962 tw_964 tp_18 ⟨by decide, by decide, by decide +kernel⟩ (by decide) rfl rfl (fun _ => ⟨_, _, rfl, rfl⟩) dX11_law_24)) <|
  .cons (ix_s_iret dX11_law_27 rfl) <| .nil
theorem e_X11_law_0 (Q : ix_R → Prop) (ls : ix_L) (st : List ix_V) (μ : ix_M) : ix_Ev o_X11_law Q (0, ls, st, μ) = ix_iload 1 1 (ix_Ev o_X11_law Q) Q ls st μ := ix_Ev.eq (a_X11_law launch0) rfl ls st μ
theorem e_X11_law_1 (Q : ix_R → Prop) (ls : ix_L) (st : List ix_V) (μ : ix_M) : ix_Ev o_X11_law Q (1, ls, st, μ) = ix_push (vi 0) 2 (ix_Ev o_X11_law Q) Q ls st μ := ix_Ev.eq (a_X11_law launch0) rfl ls st μ
theorem e_X11_law_2 (Q : ix_R → Prop) (ls : ix_L) (st : List ix_V) (μ : ix_M) : ix_Ev o_X11_law Q (2, ls, st, μ) = ix_push (vi 1) 3 (ix_Ev o_X11_law Q) Q ls st μ := ix_Ev.eq (a_X11_law launch0) rfl ls st μ
theorem e_X11_law_3 (Q : ix_R → Prop) (ls : ix_L) (st : List ix_V) (μ : ix_M) : ix_Ev o_X11_law Q (3, ls, st, μ) = oc_X11_within 6 (ix_Ev o_X11_law Q) Q ls st μ := ix_Ev.eq (a_X11_law launch0) rfl ls st μ
theorem e_X11_law_6 (Q : ix_R → Prop) (ls : ix_L) (st : List ix_V) (μ : ix_M) : ix_Ev o_X11_law Q (6, ls, st, μ) = ix_if (fun x => x = 0) 21 9 (ix_Ev o_X11_law Q) Q ls st μ := ix_Ev.eq (a_X11_law launch0) rfl ls st μ
theorem e_X11_law_9 (Q : ix_R → Prop) (ls : ix_L) (st : List ix_V) (μ : ix_M) : ix_Ev o_X11_law Q (9, ls, st, μ) = ix_aload 0 10 (ix_Ev o_X11_law Q) Q ls st μ := ix_Ev.eq (a_X11_law launch0) rfl ls st μ
theorem e_X11_law_10 (Q : ix_R → Prop) (ls : ix_L) (st : List ix_V) (μ : ix_M) : ix_Ev o_X11_law Q (10, ls, st, μ) = ix_iload 1 11 (ix_Ev o_X11_law Q) Q ls st μ := ix_Ev.eq (a_X11_law launch0) rfl ls st μ
theorem e_X11_law_11 (Q : ix_R → Prop) (ls : ix_L) (st : List ix_V) (μ : ix_M) : ix_Ev o_X11_law Q (11, ls, st, μ) = ix_iload 2 12 (ix_Ev o_X11_law Q) Q ls st μ := ix_Ev.eq (a_X11_law launch0) rfl ls st μ
theorem e_X11_law_12 (Q : ix_R → Prop) (ls : ix_L) (st : List ix_V) (μ : ix_M) : ix_Ev o_X11_law Q (12, ls, st, μ) = ix_iload 3 13 (ix_Ev o_X11_law Q) Q ls st μ := ix_Ev.eq (a_X11_law launch0) rfl ls st μ
theorem e_X11_law_13 (Q : ix_R → Prop) (ls : ix_L) (st : List ix_V) (μ : ix_M) : ix_Ev o_X11_law Q (13, ls, st, μ) = ix_iload 4 15 (ix_Ev o_X11_law Q) Q ls st μ := ix_Ev.eq (a_X11_law launch0) rfl ls st μ
theorem e_X11_law_15 (Q : ix_R → Prop) (ls : ix_L) (st : List ix_V) (μ : ix_M) : ix_Ev o_X11_law Q (15, ls, st, μ) = oc_X11_given 18 (ix_Ev o_X11_law Q) Q ls st μ := ix_Ev.eq (a_X11_law launch0) rfl ls st μ
theorem e_X11_law_18 (Q : ix_R → Prop) (ls : ix_L) (st : List ix_V) (μ : ix_M) : ix_Ev o_X11_law Q (18, ls, st, μ) = ix_goto 27 (ix_Ev o_X11_law Q) Q ls st μ := ix_Ev.eq (a_X11_law launch0) rfl ls st μ
theorem e_X11_law_21 (Q : ix_R → Prop) (ls : ix_L) (st : List ix_V) (μ : ix_M) : ix_Ev o_X11_law Q (21, ls, st, μ) = ix_aload 0 22 (ix_Ev o_X11_law Q) Q ls st μ := ix_Ev.eq (a_X11_law launch0) rfl ls st μ
theorem e_X11_law_22 (Q : ix_R → Prop) (ls : ix_L) (st : List ix_V) (μ : ix_M) : ix_Ev o_X11_law Q (22, ls, st, μ) = ix_push (vi (-1000000001)) 24 (ix_Ev o_X11_law Q) Q ls st μ := ix_Ev.eq (a_X11_law launch0) rfl ls st μ
theorem e_X11_law_24 (Q : ix_R → Prop) (ls : ix_L) (st : List ix_V) (μ : ix_M) : ix_Ev o_X11_law Q (24, ls, st, μ) = oc_X11_finding 27 (ix_Ev o_X11_law Q) Q ls st μ := ix_Ev.eq (a_X11_law launch0) rfl ls st μ
theorem e_X11_law_27 (Q : ix_R → Prop) (ls : ix_L) (st : List ix_V) (μ : ix_M) : ix_Ev o_X11_law Q (27, ls, st, μ) = ix_iret (ix_Ev o_X11_law Q) Q ls st μ := ix_Ev.eq (a_X11_law launch0) rfl ls st μ
theorem pr_law (u : Int32) (a : Int32) (b : Int32) (c : Int32) (μ : ix_M) (I : Inv μ) (Q : ix_R → Prop) (hQ : ∀ vv μ', ix_Ev o_X11_law (Pst vv) (0, [some (vr 10 112), some (vi u), some (vi a), some (vi b), some (vi c)], [], μ') → Q (some (vi vv), μ')) : ix_Ev o_X10_law Q (0, [some (vr 9 0), some (vi u), some (vi a), some (vi b), some (vi c)], [], μ) := by
  rcases inR u 1 (by decide) with ⟨U, hU, rfl⟩ | ⟨hx1, hx2⟩
  · obtain ⟨U1, U2, U3, U4⟩ : ¬ nI U < 0 ∧ ¬ (1 : Int32) < nI U ∧ 0 ≤ nI U ∧ nI U ≤ (1 : Int32) := rgN hU (by decide)
    have Uc : (nI U).toNatClampNeg = U := nI_clamp (by omega)
    obtain rfl | rfl : U = 0 ∨ U = 1 := by omega
    · obtain ⟨ds, d1, d2⟩ := I.1.2.2.2.2.2.1
      simp (decide := true) only [e_X10_law_0, e_X10_law_1, e_X10_law_2, e_X10_law_5, e_X10_law_8, e_X10_law_9, e_X10_law_10, e_X10_law_13, e_X10_law_14, e_X10_law_15, e_X10_law_18, e_X10_law_19, e_X10_law_22, e_X10_law_25, e_X10_law_26, e_X10_law_27, e_X10_law_29, e_X10_law_32, e_X10_law_35, e_X10_law_36, e_X10_law_39, e_X10_law_42, e_X10_law_43, e_X10_law_44, e_X10_law_46, e_X10_law_49, vi, vl, vr, oc_X10_error, T_X10_error, oc_X10_outside, T_X10_outside, oc_X1_loses, T_X1_loses, oc_X1_settles, T_X1_settles, ix_push, ix_iload, ix_lload, ix_aload, ix_istore, ix_astore, ix_iinc, ix_bin, ix_div, ix_un, ix_i2l, ix_l2i, ix_lbin, ix_lsh, ix_lcmp, ix_dup, ix_dup2, ix_pop, ix_if, ix_cmp, ix_goto, ix_switch, ix_sw, ix_iret, ix_zret, ix_vret, ix_aret, ix_geti, ix_getr, ix_puti, ix_putz, ix_puts, ix_gets, ix_iald, ix_iast, ix_alen, ix_aald, ix_gval, ix_gcod, ix_bald, ix_blen, ix_sald, ix_nret, ix_math2, ix_math1, ix_acopy, Nat.add_assoc, Int32.reduceLT, Int32.reduceLE, Int32.reduceToNatClampNeg, Int32.reduceSub, Int32.reduceAdd, Nat.reduceAdd, Nat.reduceLeDiff, true_or, or_true, or_false, false_or, not_false_eq_true, not_true_eq_false, false_implies, true_implies, implies_true, and_self, mB_0, mB_01, Classical.not_not, Nat.zero_le, List.getElem?_cons_zero, List.getElem?_cons_succ, List.set_cons_zero, List.set_cons_succ, ix_nl, ix_cs, true_and, and_true, Option.toList_some, Option.toList_none, List.cons_append, List.nil_append, U1, U2, U3, U4, Uc, nz_0, ix_up_ne, ix_up_k, ve_1, ve_2, ve_3, ve_4, ve_5]
      refine ⟨ds, d1, fun μ1 F1 => hQ _ _ ?_⟩
      have e : μ1 113 = μ 113 := F1 113 (by decide)
      simp (decide := true) only [e_X11_law_0, e_X11_law_1, e_X11_law_2, e_X11_law_3, e_X11_law_6, e_X11_law_9, e_X11_law_10, e_X11_law_11, e_X11_law_12, e_X11_law_13, e_X11_law_15, e_X11_law_18, e_X11_law_21, e_X11_law_22, e_X11_law_24, e_X11_law_27, vi, vl, vr, oc_X11_finding, T_X11_finding, oc_X11_given, T_X11_given, oc_X11_within, T_X11_within, ix_push, ix_iload, ix_lload, ix_aload, ix_istore, ix_astore, ix_iinc, ix_bin, ix_div, ix_un, ix_i2l, ix_l2i, ix_lbin, ix_lsh, ix_lcmp, ix_dup, ix_dup2, ix_pop, ix_if, ix_cmp, ix_goto, ix_switch, ix_sw, ix_iret, ix_zret, ix_vret, ix_aret, ix_geti, ix_getr, ix_puti, ix_putz, ix_puts, ix_gets, ix_iald, ix_iast, ix_alen, ix_aald, ix_gval, ix_gcod, ix_bald, ix_blen, ix_sald, ix_nret, ix_math2, ix_math1, ix_acopy, ml_113, ml_114, ml_115, ml_116, ml_118, ml_119, ml_120, ml_121, ml_122, ml_123, ml_124, ml_125, ml_126, mv_0, mv_1, mv_2, mv_3, mv_4, mv_5, mB_or, Nat.add_assoc, Int32.reduceLT, Int32.reduceLE, Int32.reduceToNatClampNeg, Int32.reduceSub, Int32.reduceAdd, Nat.reduceAdd, Nat.reduceLeDiff, true_or, or_true, or_false, false_or, not_false_eq_true, not_true_eq_false, false_implies, true_implies, implies_true, and_self, mB_0, mB_01, Classical.not_not, Nat.zero_le, List.getElem?_cons_zero, List.getElem?_cons_succ, List.set_cons_zero, List.set_cons_succ, ix_nl, ix_cs, true_and, and_true, Option.toList_some, Option.toList_none, List.cons_append, List.nil_append, U1, U2, U3, U4, Uc, nz_0, ix_up_ne, ix_up_k, ve_1, ve_2, ve_3, ve_4, ve_5]
      exact ⟨0, ds, rfl, by decide, by rw [e]; exact d2, fun μ2 F2 => pst rfl ((I.scr F1 (by decide)).scr F2 (by decide))⟩
    · obtain ⟨ds, d1, d2⟩ := I.1.2.2.2.2.2.2
      simp (decide := true) only [e_X10_law_0, e_X10_law_1, e_X10_law_2, e_X10_law_5, e_X10_law_8, e_X10_law_9, e_X10_law_10, e_X10_law_13, e_X10_law_14, e_X10_law_15, e_X10_law_18, e_X10_law_19, e_X10_law_22, e_X10_law_25, e_X10_law_26, e_X10_law_27, e_X10_law_29, e_X10_law_32, e_X10_law_35, e_X10_law_36, e_X10_law_39, e_X10_law_42, e_X10_law_43, e_X10_law_44, e_X10_law_46, e_X10_law_49, vi, vl, vr, oc_X10_error, T_X10_error, oc_X10_outside, T_X10_outside, oc_X1_loses, T_X1_loses, oc_X1_settles, T_X1_settles, ix_push, ix_iload, ix_lload, ix_aload, ix_istore, ix_astore, ix_iinc, ix_bin, ix_div, ix_un, ix_i2l, ix_l2i, ix_lbin, ix_lsh, ix_lcmp, ix_dup, ix_dup2, ix_pop, ix_if, ix_cmp, ix_goto, ix_switch, ix_sw, ix_iret, ix_zret, ix_vret, ix_aret, ix_geti, ix_getr, ix_puti, ix_putz, ix_puts, ix_gets, ix_iald, ix_iast, ix_alen, ix_aald, ix_gval, ix_gcod, ix_bald, ix_blen, ix_sald, ix_nret, ix_math2, ix_math1, ix_acopy, Nat.add_assoc, Int32.reduceLT, Int32.reduceLE, Int32.reduceToNatClampNeg, Int32.reduceSub, Int32.reduceAdd, Nat.reduceAdd, Nat.reduceLeDiff, true_or, or_true, or_false, false_or, not_false_eq_true, not_true_eq_false, false_implies, true_implies, implies_true, and_self, mB_0, mB_01, Classical.not_not, Nat.zero_le, List.getElem?_cons_zero, List.getElem?_cons_succ, List.set_cons_zero, List.set_cons_succ, ix_nl, ix_cs, true_and, and_true, Option.toList_some, Option.toList_none, List.cons_append, List.nil_append, U1, U2, U3, U4, Uc, nz_1, ix_up_ne, ix_up_k, ve_1, ve_2, ve_3, ve_4, ve_5]
      refine ⟨ds, d1, fun μ1 F1 => hQ _ _ ?_⟩
      have e : μ1 113 = μ 113 := F1 113 (by decide)
      simp (decide := true) only [e_X11_law_0, e_X11_law_1, e_X11_law_2, e_X11_law_3, e_X11_law_6, e_X11_law_9, e_X11_law_10, e_X11_law_11, e_X11_law_12, e_X11_law_13, e_X11_law_15, e_X11_law_18, e_X11_law_21, e_X11_law_22, e_X11_law_24, e_X11_law_27, vi, vl, vr, oc_X11_finding, T_X11_finding, oc_X11_given, T_X11_given, oc_X11_within, T_X11_within, ix_push, ix_iload, ix_lload, ix_aload, ix_istore, ix_astore, ix_iinc, ix_bin, ix_div, ix_un, ix_i2l, ix_l2i, ix_lbin, ix_lsh, ix_lcmp, ix_dup, ix_dup2, ix_pop, ix_if, ix_cmp, ix_goto, ix_switch, ix_sw, ix_iret, ix_zret, ix_vret, ix_aret, ix_geti, ix_getr, ix_puti, ix_putz, ix_puts, ix_gets, ix_iald, ix_iast, ix_alen, ix_aald, ix_gval, ix_gcod, ix_bald, ix_blen, ix_sald, ix_nret, ix_math2, ix_math1, ix_acopy, ml_113, ml_114, ml_115, ml_116, ml_118, ml_119, ml_120, ml_121, ml_122, ml_123, ml_124, ml_125, ml_126, mv_0, mv_1, mv_2, mv_3, mv_4, mv_5, mB_or, Nat.add_assoc, Int32.reduceLT, Int32.reduceLE, Int32.reduceToNatClampNeg, Int32.reduceSub, Int32.reduceAdd, Nat.reduceAdd, Nat.reduceLeDiff, true_or, or_true, or_false, false_or, not_false_eq_true, not_true_eq_false, false_implies, true_implies, implies_true, and_self, mB_0, mB_01, Classical.not_not, Nat.zero_le, List.getElem?_cons_zero, List.getElem?_cons_succ, List.set_cons_zero, List.set_cons_succ, ix_nl, ix_cs, true_and, and_true, Option.toList_some, Option.toList_none, List.cons_append, List.nil_append, U1, U2, U3, U4, Uc, nz_1, ix_up_ne, ix_up_k, ve_1, ve_2, ve_3, ve_4, ve_5]
      exact ⟨1, ds, rfl, by decide, by rw [e]; exact d2, fun μ2 F2 => pst rfl ((I.scr F1 (by decide)).scr F2 (by decide))⟩
  · have hx1 : u < 0 ∨ (1 : Int32) < u := hx1
    have hx2 : ¬ (0 ≤ u ∧ u ≤ (1 : Int32)) := hx2
    have hx3 : ¬ u = 0 := by rintro rfl; exact hx2 (by decide)
    have hx4 : ¬ u = 1 := by rintro rfl; exact hx2 (by decide)
    simp (decide := true) only [e_X10_law_0, e_X10_law_1, e_X10_law_2, e_X10_law_5, e_X10_law_8, e_X10_law_9, e_X10_law_10, e_X10_law_13, e_X10_law_14, e_X10_law_15, e_X10_law_18, e_X10_law_19, e_X10_law_22, e_X10_law_25, e_X10_law_26, e_X10_law_27, e_X10_law_29, e_X10_law_32, e_X10_law_35, e_X10_law_36, e_X10_law_39, e_X10_law_42, e_X10_law_43, e_X10_law_44, e_X10_law_46, e_X10_law_49, vi, vl, vr, oc_X10_error, T_X10_error, oc_X10_outside, T_X10_outside, oc_X1_loses, T_X1_loses, oc_X1_settles, T_X1_settles, ix_push, ix_iload, ix_lload, ix_aload, ix_istore, ix_astore, ix_iinc, ix_bin, ix_div, ix_un, ix_i2l, ix_l2i, ix_lbin, ix_lsh, ix_lcmp, ix_dup, ix_dup2, ix_pop, ix_if, ix_cmp, ix_goto, ix_switch, ix_sw, ix_iret, ix_zret, ix_vret, ix_aret, ix_geti, ix_getr, ix_puti, ix_putz, ix_puts, ix_gets, ix_iald, ix_iast, ix_alen, ix_aald, ix_gval, ix_gcod, ix_bald, ix_blen, ix_sald, ix_nret, ix_math2, ix_math1, ix_acopy, Nat.add_assoc, Int32.reduceLT, Int32.reduceLE, Int32.reduceToNatClampNeg, Int32.reduceSub, Int32.reduceAdd, Nat.reduceAdd, Nat.reduceLeDiff, true_or, or_true, or_false, false_or, not_false_eq_true, not_true_eq_false, false_implies, true_implies, implies_true, and_self, mB_0, mB_01, Classical.not_not, Nat.zero_le, List.getElem?_cons_zero, List.getElem?_cons_succ, List.set_cons_zero, List.set_cons_succ, ix_nl, ix_cs, true_and, and_true, Option.toList_some, Option.toList_none, List.cons_append, List.nil_append, hx1, hx2, hx3, hx4, ix_up_ne, ix_up_k, ve_1, ve_2, ve_3, ve_4, ve_5]
    refine hQ _ _ ?_
    simp (decide := true) only [e_X11_law_0, e_X11_law_1, e_X11_law_2, e_X11_law_3, e_X11_law_6, e_X11_law_9, e_X11_law_10, e_X11_law_11, e_X11_law_12, e_X11_law_13, e_X11_law_15, e_X11_law_18, e_X11_law_21, e_X11_law_22, e_X11_law_24, e_X11_law_27, vi, vl, vr, oc_X11_finding, T_X11_finding, oc_X11_given, T_X11_given, oc_X11_within, T_X11_within, ix_push, ix_iload, ix_lload, ix_aload, ix_istore, ix_astore, ix_iinc, ix_bin, ix_div, ix_un, ix_i2l, ix_l2i, ix_lbin, ix_lsh, ix_lcmp, ix_dup, ix_dup2, ix_pop, ix_if, ix_cmp, ix_goto, ix_switch, ix_sw, ix_iret, ix_zret, ix_vret, ix_aret, ix_geti, ix_getr, ix_puti, ix_putz, ix_puts, ix_gets, ix_iald, ix_iast, ix_alen, ix_aald, ix_gval, ix_gcod, ix_bald, ix_blen, ix_sald, ix_nret, ix_math2, ix_math1, ix_acopy, ml_113, ml_114, ml_115, ml_116, ml_118, ml_119, ml_120, ml_121, ml_122, ml_123, ml_124, ml_125, ml_126, mv_0, mv_1, mv_2, mv_3, mv_4, mv_5, mB_or, Nat.add_assoc, Int32.reduceLT, Int32.reduceLE, Int32.reduceToNatClampNeg, Int32.reduceSub, Int32.reduceAdd, Nat.reduceAdd, Nat.reduceLeDiff, true_or, or_true, or_false, false_or, not_false_eq_true, not_true_eq_false, false_implies, true_implies, implies_true, and_self, mB_0, mB_01, Classical.not_not, Nat.zero_le, List.getElem?_cons_zero, List.getElem?_cons_succ, List.set_cons_zero, List.set_cons_succ, ix_nl, ix_cs, true_and, and_true, Option.toList_some, Option.toList_none, List.cons_append, List.nil_append, hx1, hx2, hx3, hx4, ix_up_ne, ix_up_k, ve_1, ve_2, ve_3, ve_4, ve_5]
    repeat' (first | exact I.er 1 (by decide) | refine ⟨fun _ => ?_, fun _ => ?_⟩)
def o_X10_seed : List (Nat × ix_Op) := [
  (0, ix_aload 0 1),
  (1, ix_getr 9 5 (fun _ => 1) 4),
  (4, ix_geti 5 5 7),
  (7, ix_istore 2 8),
  (8, ix_aload 0 9),
  (9, ix_getr 9 5 (fun _ => 1) 12),
  (12, ix_iload 1 13),
  (13, ix_puti 5 5 16),
  (16, ix_iload 2 17),
  (17, ix_iret)]
set_option maxRecDepth 20000 in
theorem a_X10_seed (l : Launch) : ix_AllS l cX10_seed 3 RX10 60 (some .int) o_X10_seed :=
  .cons (ix_s_aload_n dX10_seed_0 rfl) <|
  .cons (ix_s_getr (j := 0) tu_X10 rfl (by decide) (by decide) tw_251 rfl ts_9_0_r dX10_seed_1) <|
  .cons (ix_s_geti (j := 5) tu_X6 rfl (by decide) (by decide) tw_149 rfl ts_5_5_i dX10_seed_4) <|
  .cons (ix_s_istore_n dX10_seed_7 rfl (by decide)) <|
  .cons (ix_s_aload_n dX10_seed_8 rfl) <|
  .cons (ix_s_getr (j := 0) tu_X10 rfl (by decide) (by decide) tw_251 rfl ts_9_0_r dX10_seed_9) <|
  .cons (ix_s_iload_n dX10_seed_12 rfl) <|
  .cons (ix_s_puti (j := 5) tu_X6 tyX6_ok nmX6 rfl (by decide) (by decide) tw_149 rfl rfl (by decide +kernel) ts_5_5_p dX10_seed_13) <|
  .cons (ix_s_iload_n dX10_seed_16 rfl) <|
  .cons (ix_s_iret dX10_seed_17 rfl) <| .nil
theorem e_X10_seed_0 (Q : ix_R → Prop) (ls : ix_L) (st : List ix_V) (μ : ix_M) : ix_Ev o_X10_seed Q (0, ls, st, μ) = ix_aload 0 1 (ix_Ev o_X10_seed Q) Q ls st μ := ix_Ev.eq (a_X10_seed launch0) rfl ls st μ
theorem e_X10_seed_1 (Q : ix_R → Prop) (ls : ix_L) (st : List ix_V) (μ : ix_M) : ix_Ev o_X10_seed Q (1, ls, st, μ) = ix_getr 9 5 (fun _ => 1) 4 (ix_Ev o_X10_seed Q) Q ls st μ := ix_Ev.eq (a_X10_seed launch0) rfl ls st μ
theorem e_X10_seed_4 (Q : ix_R → Prop) (ls : ix_L) (st : List ix_V) (μ : ix_M) : ix_Ev o_X10_seed Q (4, ls, st, μ) = ix_geti 5 5 7 (ix_Ev o_X10_seed Q) Q ls st μ := ix_Ev.eq (a_X10_seed launch0) rfl ls st μ
theorem e_X10_seed_7 (Q : ix_R → Prop) (ls : ix_L) (st : List ix_V) (μ : ix_M) : ix_Ev o_X10_seed Q (7, ls, st, μ) = ix_istore 2 8 (ix_Ev o_X10_seed Q) Q ls st μ := ix_Ev.eq (a_X10_seed launch0) rfl ls st μ
theorem e_X10_seed_8 (Q : ix_R → Prop) (ls : ix_L) (st : List ix_V) (μ : ix_M) : ix_Ev o_X10_seed Q (8, ls, st, μ) = ix_aload 0 9 (ix_Ev o_X10_seed Q) Q ls st μ := ix_Ev.eq (a_X10_seed launch0) rfl ls st μ
theorem e_X10_seed_9 (Q : ix_R → Prop) (ls : ix_L) (st : List ix_V) (μ : ix_M) : ix_Ev o_X10_seed Q (9, ls, st, μ) = ix_getr 9 5 (fun _ => 1) 12 (ix_Ev o_X10_seed Q) Q ls st μ := ix_Ev.eq (a_X10_seed launch0) rfl ls st μ
theorem e_X10_seed_12 (Q : ix_R → Prop) (ls : ix_L) (st : List ix_V) (μ : ix_M) : ix_Ev o_X10_seed Q (12, ls, st, μ) = ix_iload 1 13 (ix_Ev o_X10_seed Q) Q ls st μ := ix_Ev.eq (a_X10_seed launch0) rfl ls st μ
theorem e_X10_seed_13 (Q : ix_R → Prop) (ls : ix_L) (st : List ix_V) (μ : ix_M) : ix_Ev o_X10_seed Q (13, ls, st, μ) = ix_puti 5 5 16 (ix_Ev o_X10_seed Q) Q ls st μ := ix_Ev.eq (a_X10_seed launch0) rfl ls st μ
theorem e_X10_seed_16 (Q : ix_R → Prop) (ls : ix_L) (st : List ix_V) (μ : ix_M) : ix_Ev o_X10_seed Q (16, ls, st, μ) = ix_iload 2 17 (ix_Ev o_X10_seed Q) Q ls st μ := ix_Ev.eq (a_X10_seed launch0) rfl ls st μ
theorem e_X10_seed_17 (Q : ix_R → Prop) (ls : ix_L) (st : List ix_V) (μ : ix_M) : ix_Ev o_X10_seed Q (17, ls, st, μ) = ix_iret (ix_Ev o_X10_seed Q) Q ls st μ := ix_Ev.eq (a_X10_seed launch0) rfl ls st μ
def o_X11_seed : List (Nat × ix_Op) := [
  (0, ix_aload 0 1),
  (1, ix_push (vi 3) 2),
  (2, ix_iload 1 3),
  (3, oc_X11_turn 6),
  (6, ix_iret)]
set_option maxRecDepth 20000 in
theorem a_X11_seed (l : Launch) : ix_AllS l cX11_seed 2 RX11 60 (some .int) o_X11_seed :=
  .cons (ix_s_aload_n dX11_seed_0 rfl) <|
  .cons (ix_s_iconst dX11_seed_1 (by decide +kernel)) <|
  .cons (ix_s_iload_n dX11_seed_2 rfl) <|
  .cons (oc_X11_turn_s (ix_s_callv (t := 10) (k_X11_turn l) (by decide) (by decide) tw_1071 tw_12 tw_1068 tw_1070 tp_32 ⟨by decide, by decide, by decide +kernel⟩ (by decide) rfl rfl (fun _ => ⟨_, _, rfl, rfl⟩) dX11_seed_3)) <|
  .cons (ix_s_iret dX11_seed_6 rfl) <| .nil
theorem e_X11_seed_0 (Q : ix_R → Prop) (ls : ix_L) (st : List ix_V) (μ : ix_M) : ix_Ev o_X11_seed Q (0, ls, st, μ) = ix_aload 0 1 (ix_Ev o_X11_seed Q) Q ls st μ := ix_Ev.eq (a_X11_seed launch0) rfl ls st μ
theorem e_X11_seed_1 (Q : ix_R → Prop) (ls : ix_L) (st : List ix_V) (μ : ix_M) : ix_Ev o_X11_seed Q (1, ls, st, μ) = ix_push (vi 3) 2 (ix_Ev o_X11_seed Q) Q ls st μ := ix_Ev.eq (a_X11_seed launch0) rfl ls st μ
theorem e_X11_seed_2 (Q : ix_R → Prop) (ls : ix_L) (st : List ix_V) (μ : ix_M) : ix_Ev o_X11_seed Q (2, ls, st, μ) = ix_iload 1 3 (ix_Ev o_X11_seed Q) Q ls st μ := ix_Ev.eq (a_X11_seed launch0) rfl ls st μ
theorem e_X11_seed_3 (Q : ix_R → Prop) (ls : ix_L) (st : List ix_V) (μ : ix_M) : ix_Ev o_X11_seed Q (3, ls, st, μ) = oc_X11_turn 6 (ix_Ev o_X11_seed Q) Q ls st μ := ix_Ev.eq (a_X11_seed launch0) rfl ls st μ
theorem e_X11_seed_6 (Q : ix_R → Prop) (ls : ix_L) (st : List ix_V) (μ : ix_M) : ix_Ev o_X11_seed Q (6, ls, st, μ) = ix_iret (ix_Ev o_X11_seed Q) Q ls st μ := ix_Ev.eq (a_X11_seed launch0) rfl ls st μ
theorem pr_seed (v : Int32) (μ : ix_M) (I : Inv μ) (Q : ix_R → Prop) (hQ : ∀ vv μ', ix_Ev o_X11_seed (Pst vv) (0, [some (vr 10 112), some (vi v)], [], μ') → Q (some (vi vv), μ')) : ix_Ev o_X10_seed Q (0, [some (vr 9 0), some (vi v), none], [], μ) := by
  simp (decide := true) only [e_X10_seed_0, e_X10_seed_1, e_X10_seed_4, e_X10_seed_7, e_X10_seed_8, e_X10_seed_9, e_X10_seed_12, e_X10_seed_13, e_X10_seed_16, e_X10_seed_17, vi, vl, vr, ix_push, ix_iload, ix_lload, ix_aload, ix_istore, ix_astore, ix_iinc, ix_bin, ix_div, ix_un, ix_i2l, ix_l2i, ix_lbin, ix_lsh, ix_lcmp, ix_dup, ix_dup2, ix_pop, ix_if, ix_cmp, ix_goto, ix_switch, ix_sw, ix_iret, ix_zret, ix_vret, ix_aret, ix_geti, ix_getr, ix_puti, ix_putz, ix_puts, ix_gets, ix_iald, ix_iast, ix_alen, ix_aald, ix_gval, ix_gcod, ix_bald, ix_blen, ix_sald, ix_nret, ix_math2, ix_math1, ix_acopy, Nat.add_assoc, Int32.reduceLT, Int32.reduceLE, Int32.reduceToNatClampNeg, Int32.reduceSub, Int32.reduceAdd, Nat.reduceAdd, Nat.reduceLeDiff, true_or, or_true, or_false, false_or, not_false_eq_true, not_true_eq_false, false_implies, true_implies, implies_true, and_self, mB_0, mB_01, Classical.not_not, Nat.zero_le, List.getElem?_cons_zero, List.getElem?_cons_succ, List.set_cons_zero, List.set_cons_succ, ix_nl, ix_cs, true_and, and_true, Option.toList_some, Option.toList_none, List.cons_append, List.nil_append, ix_up_ne, ix_up_k, ve_1, ve_2, ve_3, ve_4, ve_5]
  refine hQ _ _ ?_
  simp (decide := true) only [e_X11_seed_0, e_X11_seed_1, e_X11_seed_2, e_X11_seed_3, e_X11_seed_6, vi, vl, vr, oc_X11_turn, T_X11_turn, ix_push, ix_iload, ix_lload, ix_aload, ix_istore, ix_astore, ix_iinc, ix_bin, ix_div, ix_un, ix_i2l, ix_l2i, ix_lbin, ix_lsh, ix_lcmp, ix_dup, ix_dup2, ix_pop, ix_if, ix_cmp, ix_goto, ix_switch, ix_sw, ix_iret, ix_zret, ix_vret, ix_aret, ix_geti, ix_getr, ix_puti, ix_putz, ix_puts, ix_gets, ix_iald, ix_iast, ix_alen, ix_aald, ix_gval, ix_gcod, ix_bald, ix_blen, ix_sald, ix_nret, ix_math2, ix_math1, ix_acopy, ml_113, ml_114, ml_115, ml_116, ml_118, ml_119, ml_120, ml_121, ml_122, ml_123, ml_124, ml_125, ml_126, mv_0, mv_1, mv_2, mv_3, mv_4, mv_5, mB_or, Nat.add_assoc, Int32.reduceLT, Int32.reduceLE, Int32.reduceToNatClampNeg, Int32.reduceSub, Int32.reduceAdd, Nat.reduceAdd, Nat.reduceLeDiff, true_or, or_true, or_false, false_or, not_false_eq_true, not_true_eq_false, false_implies, true_implies, implies_true, and_self, mB_0, mB_01, Classical.not_not, Nat.zero_le, List.getElem?_cons_zero, List.getElem?_cons_succ, List.set_cons_zero, List.set_cons_succ, ix_nl, ix_cs, true_and, and_true, Option.toList_some, Option.toList_none, List.cons_append, List.nil_append, ix_up_ne, ix_up_k, ve_1, ve_2, ve_3, ve_4, ve_5]
  obtain ⟨s1, s2, s3, s4, s5, s6, s7⟩ := I.1
  refine pst s2.symm ?_
  have e1 : ∀ a, a ≠ 1 → a ≠ 113 → ix_up (ix_up μ 1 5 v) 113 3 v a = μ a := fun a h1 h2 => by rw [ix_up_ne h2, ix_up_ne h1]
  have e2 : ∀ j, j ≠ 3 → ix_up (ix_up μ 1 5 v) 113 3 v 113 j = μ 113 j := fun j h => by rw [ix_up_ap, if_neg (fun z => h z.2), ix_up_ne (by decide)]
  refine I.now (L := [1, 113]) ((Fx.rf.up (by simp)).up (by simp)) (by decide) ⟨CW_fx s1 (fun a h1 h2 => e1 a (by omega) (by omega)) (fun j h1 h2 => e2 j (by unfold rst at h2; omega)), ?_, CT_fx s3 (e1 19 (by decide) (by decide)) (e1 20 (by decide) (by decide)) (fun j hj => e2 j (by omega)), CA_fx s4 (e1 21 (by decide) (by decide)) (e1 22 (by decide) (by decide)) (fun j hj => e2 j (by omega)), CN_fx s5 (e1 23 (by decide) (by decide)) (fun j hj => e2 j (by omega)), CX_fx s6 (e1 12 (by decide) (by decide)) (e1 13 (by decide) (by decide)) (fun j hj => e2 j (by omega)), CX_fx s7 (e1 16 (by decide) (by decide)) (e1 17 (by decide) (by decide)) (fun j hj => e2 j (by omega))⟩ (by decide)
  rw [ix_up_ne (by decide), ix_up_k, ix_up_k]
def o_X10_told : List (Nat × ix_Op) := [
  (0, ix_iload 1 1),
  (1, ix_push (vi 1) 2),
  (2, ix_cmp (fun x y => x < y) 10 5),
  (5, ix_iload 1 6),
  (6, ix_push (vi 5) 7),
  (7, ix_cmp (fun x y => x ≤ y) 16 10),
  (10, ix_aload 0 11),
  (11, ix_push (vi 1) 12),
  (12, oc_X10_error 15),
  (15, ix_iret),
  (16, ix_aload 0 17),
  (17, ix_getr 9 20 (fun _ => 111) 20),
  (20, ix_iload 1 21),
  (21, ix_iald 22),
  (22, ix_iret)]
set_option maxRecDepth 20000 in
theorem a_X10_told (l : Launch) : ix_AllS l cX10_told 2 RX10 60 (some .int) o_X10_told :=
  .cons (ix_s_iload_n dX10_told_0 rfl) <|
  .cons (ix_s_iconst dX10_told_1 (by decide +kernel)) <|
  .cons (ix_s_cmp_lt dX10_told_2 (by decide)) <|
  .cons (ix_s_iload_n dX10_told_5 rfl) <|
  .cons (ix_s_iconst dX10_told_6 (by decide +kernel)) <|
  .cons (ix_s_cmp_le dX10_told_7 (by decide)) <|
  .cons (ix_s_aload_n dX10_told_10 rfl) <|
  .cons (ix_s_iconst dX10_told_11 (by decide +kernel)) <|
  .cons (oc_X10_error_s (ix_s_callv (t := 9) (k_X10_error l) (by decide) (by decide) tw_295 tw_1 tw_292 tw_294 tp_0 ⟨by decide, by decide, by decide +kernel⟩ (by decide) rfl rfl (fun _ => ⟨_, _, rfl, rfl⟩) dX10_told_12)) <|
  .cons (ix_s_iret dX10_told_15 rfl) <|
  .cons (ix_s_aload_n dX10_told_16 rfl) <|
  .cons (ix_s_getr (j := 8) tu_X10 rfl (by decide) (by decide) tw_259 rfl ts_9_8_r dX10_told_17) <|
  .cons (ix_s_iload_n dX10_told_20 rfl) <|
  .cons (ix_s_iald dX10_told_21) <|
  .cons (ix_s_iret dX10_told_22 rfl) <| .nil
theorem e_X10_told_0 (Q : ix_R → Prop) (ls : ix_L) (st : List ix_V) (μ : ix_M) : ix_Ev o_X10_told Q (0, ls, st, μ) = ix_iload 1 1 (ix_Ev o_X10_told Q) Q ls st μ := ix_Ev.eq (a_X10_told launch0) rfl ls st μ
theorem e_X10_told_1 (Q : ix_R → Prop) (ls : ix_L) (st : List ix_V) (μ : ix_M) : ix_Ev o_X10_told Q (1, ls, st, μ) = ix_push (vi 1) 2 (ix_Ev o_X10_told Q) Q ls st μ := ix_Ev.eq (a_X10_told launch0) rfl ls st μ
theorem e_X10_told_2 (Q : ix_R → Prop) (ls : ix_L) (st : List ix_V) (μ : ix_M) : ix_Ev o_X10_told Q (2, ls, st, μ) = ix_cmp (fun x y => x < y) 10 5 (ix_Ev o_X10_told Q) Q ls st μ := ix_Ev.eq (a_X10_told launch0) rfl ls st μ
theorem e_X10_told_5 (Q : ix_R → Prop) (ls : ix_L) (st : List ix_V) (μ : ix_M) : ix_Ev o_X10_told Q (5, ls, st, μ) = ix_iload 1 6 (ix_Ev o_X10_told Q) Q ls st μ := ix_Ev.eq (a_X10_told launch0) rfl ls st μ
theorem e_X10_told_6 (Q : ix_R → Prop) (ls : ix_L) (st : List ix_V) (μ : ix_M) : ix_Ev o_X10_told Q (6, ls, st, μ) = ix_push (vi 5) 7 (ix_Ev o_X10_told Q) Q ls st μ := ix_Ev.eq (a_X10_told launch0) rfl ls st μ
theorem e_X10_told_7 (Q : ix_R → Prop) (ls : ix_L) (st : List ix_V) (μ : ix_M) : ix_Ev o_X10_told Q (7, ls, st, μ) = ix_cmp (fun x y => x ≤ y) 16 10 (ix_Ev o_X10_told Q) Q ls st μ := ix_Ev.eq (a_X10_told launch0) rfl ls st μ
theorem e_X10_told_10 (Q : ix_R → Prop) (ls : ix_L) (st : List ix_V) (μ : ix_M) : ix_Ev o_X10_told Q (10, ls, st, μ) = ix_aload 0 11 (ix_Ev o_X10_told Q) Q ls st μ := ix_Ev.eq (a_X10_told launch0) rfl ls st μ
theorem e_X10_told_11 (Q : ix_R → Prop) (ls : ix_L) (st : List ix_V) (μ : ix_M) : ix_Ev o_X10_told Q (11, ls, st, μ) = ix_push (vi 1) 12 (ix_Ev o_X10_told Q) Q ls st μ := ix_Ev.eq (a_X10_told launch0) rfl ls st μ
theorem e_X10_told_12 (Q : ix_R → Prop) (ls : ix_L) (st : List ix_V) (μ : ix_M) : ix_Ev o_X10_told Q (12, ls, st, μ) = oc_X10_error 15 (ix_Ev o_X10_told Q) Q ls st μ := ix_Ev.eq (a_X10_told launch0) rfl ls st μ
theorem e_X10_told_15 (Q : ix_R → Prop) (ls : ix_L) (st : List ix_V) (μ : ix_M) : ix_Ev o_X10_told Q (15, ls, st, μ) = ix_iret (ix_Ev o_X10_told Q) Q ls st μ := ix_Ev.eq (a_X10_told launch0) rfl ls st μ
theorem e_X10_told_16 (Q : ix_R → Prop) (ls : ix_L) (st : List ix_V) (μ : ix_M) : ix_Ev o_X10_told Q (16, ls, st, μ) = ix_aload 0 17 (ix_Ev o_X10_told Q) Q ls st μ := ix_Ev.eq (a_X10_told launch0) rfl ls st μ
theorem e_X10_told_17 (Q : ix_R → Prop) (ls : ix_L) (st : List ix_V) (μ : ix_M) : ix_Ev o_X10_told Q (17, ls, st, μ) = ix_getr 9 20 (fun _ => 111) 20 (ix_Ev o_X10_told Q) Q ls st μ := ix_Ev.eq (a_X10_told launch0) rfl ls st μ
theorem e_X10_told_20 (Q : ix_R → Prop) (ls : ix_L) (st : List ix_V) (μ : ix_M) : ix_Ev o_X10_told Q (20, ls, st, μ) = ix_iload 1 21 (ix_Ev o_X10_told Q) Q ls st μ := ix_Ev.eq (a_X10_told launch0) rfl ls st μ
theorem e_X10_told_21 (Q : ix_R → Prop) (ls : ix_L) (st : List ix_V) (μ : ix_M) : ix_Ev o_X10_told Q (21, ls, st, μ) = ix_iald 22 (ix_Ev o_X10_told Q) Q ls st μ := ix_Ev.eq (a_X10_told launch0) rfl ls st μ
theorem e_X10_told_22 (Q : ix_R → Prop) (ls : ix_L) (st : List ix_V) (μ : ix_M) : ix_Ev o_X10_told Q (22, ls, st, μ) = ix_iret (ix_Ev o_X10_told Q) Q ls st μ := ix_Ev.eq (a_X10_told launch0) rfl ls st μ
def o_X11_told : List (Nat × ix_Op) := [
  (0, ix_iload 1 1),
  (1, ix_push (vi 1) 2),
  (2, ix_push (vi 5) 3),
  (3, oc_X11_within 6),
  (6, ix_if (fun x => x = 0) 18 9),
  (9, ix_aload 0 10),
  (10, ix_getr 10 20 (fun _ => 116) 13),
  (13, ix_iload 1 14),
  (14, ix_iald 15),
  (15, ix_goto 24),
  (18, ix_aload 0 19),
  (19, ix_push (vi (-1000000001)) 21),
  (21, oc_X11_finding 24),
  (24, ix_iret)]
set_option maxRecDepth 20000 in
theorem a_X11_told (l : Launch) : ix_AllS l cX11_told 2 RX11 60 (some .int) o_X11_told :=
  .cons (ix_s_iload_n dX11_told_0 rfl) <|
  .cons (ix_s_iconst dX11_told_1 (by decide +kernel)) <|
  .cons (ix_s_iconst dX11_told_2 (by decide +kernel)) <|
  .cons (oc_X11_within_s (ix_s_calls (k_X11_within l) (by decide) (by decide) tw_960 tw_12 tw_958 tw_959 ⟨by decide, by decide, by decide +kernel⟩ (fun _ => rfl) dX11_told_3)) <|
  .cons (ix_s_if_eq dX11_told_6 (by decide)) <|
  .cons (ix_s_aload_n dX11_told_9 rfl) <|
  .cons (ix_s_getr (j := 4) tu_X11 rfl (by decide) (by decide) tw_879 rfl ts_10_4_r dX11_told_10) <|
  .cons (ix_s_iload_n dX11_told_13 rfl) <|
  .cons (ix_s_iald dX11_told_14) <|
  .cons (ix_s_goto dX11_told_15 (by decide)) <|
  .cons (ix_s_aload_n dX11_told_18 rfl) <|
  .cons (ix_s_ldc tw_961 dX11_told_19) <|
  .cons (oc_X11_finding_s (ix_s_callv (t := 10) (k_X11_finding l) (by decide) (by decide) tw_965 tw_12 tw_962 tw_964 tp_18 ⟨by decide, by decide, by decide +kernel⟩ (by decide) rfl rfl (fun _ => ⟨_, _, rfl, rfl⟩) dX11_told_21)) <|
  .cons (ix_s_iret dX11_told_24 rfl) <| .nil
theorem e_X11_told_0 (Q : ix_R → Prop) (ls : ix_L) (st : List ix_V) (μ : ix_M) : ix_Ev o_X11_told Q (0, ls, st, μ) = ix_iload 1 1 (ix_Ev o_X11_told Q) Q ls st μ := ix_Ev.eq (a_X11_told launch0) rfl ls st μ
theorem e_X11_told_1 (Q : ix_R → Prop) (ls : ix_L) (st : List ix_V) (μ : ix_M) : ix_Ev o_X11_told Q (1, ls, st, μ) = ix_push (vi 1) 2 (ix_Ev o_X11_told Q) Q ls st μ := ix_Ev.eq (a_X11_told launch0) rfl ls st μ
theorem e_X11_told_2 (Q : ix_R → Prop) (ls : ix_L) (st : List ix_V) (μ : ix_M) : ix_Ev o_X11_told Q (2, ls, st, μ) = ix_push (vi 5) 3 (ix_Ev o_X11_told Q) Q ls st μ := ix_Ev.eq (a_X11_told launch0) rfl ls st μ
theorem e_X11_told_3 (Q : ix_R → Prop) (ls : ix_L) (st : List ix_V) (μ : ix_M) : ix_Ev o_X11_told Q (3, ls, st, μ) = oc_X11_within 6 (ix_Ev o_X11_told Q) Q ls st μ := ix_Ev.eq (a_X11_told launch0) rfl ls st μ
theorem e_X11_told_6 (Q : ix_R → Prop) (ls : ix_L) (st : List ix_V) (μ : ix_M) : ix_Ev o_X11_told Q (6, ls, st, μ) = ix_if (fun x => x = 0) 18 9 (ix_Ev o_X11_told Q) Q ls st μ := ix_Ev.eq (a_X11_told launch0) rfl ls st μ
theorem e_X11_told_9 (Q : ix_R → Prop) (ls : ix_L) (st : List ix_V) (μ : ix_M) : ix_Ev o_X11_told Q (9, ls, st, μ) = ix_aload 0 10 (ix_Ev o_X11_told Q) Q ls st μ := ix_Ev.eq (a_X11_told launch0) rfl ls st μ
theorem e_X11_told_10 (Q : ix_R → Prop) (ls : ix_L) (st : List ix_V) (μ : ix_M) : ix_Ev o_X11_told Q (10, ls, st, μ) = ix_getr 10 20 (fun _ => 116) 13 (ix_Ev o_X11_told Q) Q ls st μ := ix_Ev.eq (a_X11_told launch0) rfl ls st μ
theorem e_X11_told_13 (Q : ix_R → Prop) (ls : ix_L) (st : List ix_V) (μ : ix_M) : ix_Ev o_X11_told Q (13, ls, st, μ) = ix_iload 1 14 (ix_Ev o_X11_told Q) Q ls st μ := ix_Ev.eq (a_X11_told launch0) rfl ls st μ
theorem e_X11_told_14 (Q : ix_R → Prop) (ls : ix_L) (st : List ix_V) (μ : ix_M) : ix_Ev o_X11_told Q (14, ls, st, μ) = ix_iald 15 (ix_Ev o_X11_told Q) Q ls st μ := ix_Ev.eq (a_X11_told launch0) rfl ls st μ
theorem e_X11_told_15 (Q : ix_R → Prop) (ls : ix_L) (st : List ix_V) (μ : ix_M) : ix_Ev o_X11_told Q (15, ls, st, μ) = ix_goto 24 (ix_Ev o_X11_told Q) Q ls st μ := ix_Ev.eq (a_X11_told launch0) rfl ls st μ
theorem e_X11_told_18 (Q : ix_R → Prop) (ls : ix_L) (st : List ix_V) (μ : ix_M) : ix_Ev o_X11_told Q (18, ls, st, μ) = ix_aload 0 19 (ix_Ev o_X11_told Q) Q ls st μ := ix_Ev.eq (a_X11_told launch0) rfl ls st μ
theorem e_X11_told_19 (Q : ix_R → Prop) (ls : ix_L) (st : List ix_V) (μ : ix_M) : ix_Ev o_X11_told Q (19, ls, st, μ) = ix_push (vi (-1000000001)) 21 (ix_Ev o_X11_told Q) Q ls st μ := ix_Ev.eq (a_X11_told launch0) rfl ls st μ
theorem e_X11_told_21 (Q : ix_R → Prop) (ls : ix_L) (st : List ix_V) (μ : ix_M) : ix_Ev o_X11_told Q (21, ls, st, μ) = oc_X11_finding 24 (ix_Ev o_X11_told Q) Q ls st μ := ix_Ev.eq (a_X11_told launch0) rfl ls st μ
theorem e_X11_told_24 (Q : ix_R → Prop) (ls : ix_L) (st : List ix_V) (μ : ix_M) : ix_Ev o_X11_told Q (24, ls, st, μ) = ix_iret (ix_Ev o_X11_told Q) Q ls st μ := ix_Ev.eq (a_X11_told launch0) rfl ls st μ
theorem pr_told (k : Int32) (μ : ix_M) (I : Inv μ) (Q : ix_R → Prop) (hQ : ∀ vv μ', ix_Ev o_X11_told (Pst vv) (0, [some (vr 10 112), some (vi k)], [], μ') → Q (some (vi vv), μ')) : ix_Ev o_X10_told Q (0, [some (vr 9 0), some (vi k)], [], μ) := by
  by_cases h : 1 ≤ k ∧ k ≤ 5
  · have h1 : ¬ k < 1 := Int32.not_lt.mpr h.1
    have h2 : ¬ 5 < k := Int32.not_lt.mpr h.2
    obtain ⟨K, hK, rfl⟩ := nI_of2 (n := 5) (M := 5) rfl (fun z => h1 (by rw [fa_lt] at z ⊢; exact Int.lt_trans z (by decide))) h.2
    have v1 : vp_in (nI K) 6 := vp_in_nI (by omega) (by decide)
    have v3 : ix_len 111 = 6 := rfl
    have v2 : (nI K).toNatClampNeg = K := nI_clamp (by omega)
    simp (decide := true) only [e_X10_told_0, e_X10_told_1, e_X10_told_2, e_X10_told_5, e_X10_told_6, e_X10_told_7, e_X10_told_10, e_X10_told_11, e_X10_told_12, e_X10_told_15, e_X10_told_16, e_X10_told_17, e_X10_told_20, e_X10_told_21, e_X10_told_22, vi, vl, vr, oc_X10_error, T_X10_error, ix_push, ix_iload, ix_lload, ix_aload, ix_istore, ix_astore, ix_iinc, ix_bin, ix_div, ix_un, ix_i2l, ix_l2i, ix_lbin, ix_lsh, ix_lcmp, ix_dup, ix_dup2, ix_pop, ix_if, ix_cmp, ix_goto, ix_switch, ix_sw, ix_iret, ix_zret, ix_vret, ix_aret, ix_geti, ix_getr, ix_puti, ix_putz, ix_puts, ix_gets, ix_iald, ix_iast, ix_alen, ix_aald, ix_gval, ix_gcod, ix_bald, ix_blen, ix_sald, ix_nret, ix_math2, ix_math1, ix_acopy, Nat.add_assoc, Int32.reduceLT, Int32.reduceLE, Int32.reduceToNatClampNeg, Int32.reduceSub, Int32.reduceAdd, Nat.reduceAdd, Nat.reduceLeDiff, true_or, or_true, or_false, false_or, not_false_eq_true, not_true_eq_false, false_implies, true_implies, implies_true, and_self, mB_0, mB_01, Classical.not_not, Nat.zero_le, List.getElem?_cons_zero, List.getElem?_cons_succ, List.set_cons_zero, List.set_cons_succ, ix_nl, ix_cs, true_and, and_true, Option.toList_some, Option.toList_none, List.cons_append, List.nil_append, h1, h2, h, v1, v2, v3, ix_up_ne, ix_up_k, ve_1, ve_2, ve_3, ve_4, ve_5]
    refine hQ _ _ ?_
    simp (decide := true) only [e_X11_told_0, e_X11_told_1, e_X11_told_2, e_X11_told_3, e_X11_told_6, e_X11_told_9, e_X11_told_10, e_X11_told_13, e_X11_told_14, e_X11_told_15, e_X11_told_18, e_X11_told_19, e_X11_told_21, e_X11_told_24, vi, vl, vr, oc_X11_finding, T_X11_finding, oc_X11_within, T_X11_within, ix_push, ix_iload, ix_lload, ix_aload, ix_istore, ix_astore, ix_iinc, ix_bin, ix_div, ix_un, ix_i2l, ix_l2i, ix_lbin, ix_lsh, ix_lcmp, ix_dup, ix_dup2, ix_pop, ix_if, ix_cmp, ix_goto, ix_switch, ix_sw, ix_iret, ix_zret, ix_vret, ix_aret, ix_geti, ix_getr, ix_puti, ix_putz, ix_puts, ix_gets, ix_iald, ix_iast, ix_alen, ix_aald, ix_gval, ix_gcod, ix_bald, ix_blen, ix_sald, ix_nret, ix_math2, ix_math1, ix_acopy, ml_113, ml_114, ml_115, ml_116, ml_118, ml_119, ml_120, ml_121, ml_122, ml_123, ml_124, ml_125, ml_126, mv_0, mv_1, mv_2, mv_3, mv_4, mv_5, mB_or, Nat.add_assoc, Int32.reduceLT, Int32.reduceLE, Int32.reduceToNatClampNeg, Int32.reduceSub, Int32.reduceAdd, Nat.reduceAdd, Nat.reduceLeDiff, true_or, or_true, or_false, false_or, not_false_eq_true, not_true_eq_false, false_implies, true_implies, implies_true, and_self, mB_0, mB_01, Classical.not_not, Nat.zero_le, List.getElem?_cons_zero, List.getElem?_cons_succ, List.set_cons_zero, List.set_cons_succ, ix_nl, ix_cs, true_and, and_true, Option.toList_some, Option.toList_none, List.cons_append, List.nil_append, h1, h2, h, v1, v2, v3, ix_up_ne, ix_up_k, ve_1, ve_2, ve_3, ve_4, ve_5]
    exact pst (I.2.2.2.1 K hK).symm I
  · by_cases c : k < 1
    · simp (decide := true) only [e_X10_told_0, e_X10_told_1, e_X10_told_2, e_X10_told_5, e_X10_told_6, e_X10_told_7, e_X10_told_10, e_X10_told_11, e_X10_told_12, e_X10_told_15, e_X10_told_16, e_X10_told_17, e_X10_told_20, e_X10_told_21, e_X10_told_22, vi, vl, vr, oc_X10_error, T_X10_error, ix_push, ix_iload, ix_lload, ix_aload, ix_istore, ix_astore, ix_iinc, ix_bin, ix_div, ix_un, ix_i2l, ix_l2i, ix_lbin, ix_lsh, ix_lcmp, ix_dup, ix_dup2, ix_pop, ix_if, ix_cmp, ix_goto, ix_switch, ix_sw, ix_iret, ix_zret, ix_vret, ix_aret, ix_geti, ix_getr, ix_puti, ix_putz, ix_puts, ix_gets, ix_iald, ix_iast, ix_alen, ix_aald, ix_gval, ix_gcod, ix_bald, ix_blen, ix_sald, ix_nret, ix_math2, ix_math1, ix_acopy, Nat.add_assoc, Int32.reduceLT, Int32.reduceLE, Int32.reduceToNatClampNeg, Int32.reduceSub, Int32.reduceAdd, Nat.reduceAdd, Nat.reduceLeDiff, true_or, or_true, or_false, false_or, not_false_eq_true, not_true_eq_false, false_implies, true_implies, implies_true, and_self, mB_0, mB_01, Classical.not_not, Nat.zero_le, List.getElem?_cons_zero, List.getElem?_cons_succ, List.set_cons_zero, List.set_cons_succ, ix_nl, ix_cs, true_and, and_true, Option.toList_some, Option.toList_none, List.cons_append, List.nil_append, c, ix_up_ne, ix_up_k, ve_1, ve_2, ve_3, ve_4, ve_5]
      refine hQ _ _ ?_
      simp (decide := true) only [e_X11_told_0, e_X11_told_1, e_X11_told_2, e_X11_told_3, e_X11_told_6, e_X11_told_9, e_X11_told_10, e_X11_told_13, e_X11_told_14, e_X11_told_15, e_X11_told_18, e_X11_told_19, e_X11_told_21, e_X11_told_24, vi, vl, vr, oc_X11_finding, T_X11_finding, oc_X11_within, T_X11_within, ix_push, ix_iload, ix_lload, ix_aload, ix_istore, ix_astore, ix_iinc, ix_bin, ix_div, ix_un, ix_i2l, ix_l2i, ix_lbin, ix_lsh, ix_lcmp, ix_dup, ix_dup2, ix_pop, ix_if, ix_cmp, ix_goto, ix_switch, ix_sw, ix_iret, ix_zret, ix_vret, ix_aret, ix_geti, ix_getr, ix_puti, ix_putz, ix_puts, ix_gets, ix_iald, ix_iast, ix_alen, ix_aald, ix_gval, ix_gcod, ix_bald, ix_blen, ix_sald, ix_nret, ix_math2, ix_math1, ix_acopy, ml_113, ml_114, ml_115, ml_116, ml_118, ml_119, ml_120, ml_121, ml_122, ml_123, ml_124, ml_125, ml_126, mv_0, mv_1, mv_2, mv_3, mv_4, mv_5, mB_or, Nat.add_assoc, Int32.reduceLT, Int32.reduceLE, Int32.reduceToNatClampNeg, Int32.reduceSub, Int32.reduceAdd, Nat.reduceAdd, Nat.reduceLeDiff, true_or, or_true, or_false, false_or, not_false_eq_true, not_true_eq_false, false_implies, true_implies, implies_true, and_self, mB_0, mB_01, Classical.not_not, Nat.zero_le, List.getElem?_cons_zero, List.getElem?_cons_succ, List.set_cons_zero, List.set_cons_succ, ix_nl, ix_cs, true_and, and_true, Option.toList_some, Option.toList_none, List.cons_append, List.nil_append, h, ix_up_ne, ix_up_k, ve_1, ve_2, ve_3, ve_4, ve_5]
      exact I.er 1 (by decide)
    · have c2 : ¬ k ≤ 5 := fun z => h ⟨Int32.not_lt.mp c, z⟩
      simp (decide := true) only [e_X10_told_0, e_X10_told_1, e_X10_told_2, e_X10_told_5, e_X10_told_6, e_X10_told_7, e_X10_told_10, e_X10_told_11, e_X10_told_12, e_X10_told_15, e_X10_told_16, e_X10_told_17, e_X10_told_20, e_X10_told_21, e_X10_told_22, vi, vl, vr, oc_X10_error, T_X10_error, ix_push, ix_iload, ix_lload, ix_aload, ix_istore, ix_astore, ix_iinc, ix_bin, ix_div, ix_un, ix_i2l, ix_l2i, ix_lbin, ix_lsh, ix_lcmp, ix_dup, ix_dup2, ix_pop, ix_if, ix_cmp, ix_goto, ix_switch, ix_sw, ix_iret, ix_zret, ix_vret, ix_aret, ix_geti, ix_getr, ix_puti, ix_putz, ix_puts, ix_gets, ix_iald, ix_iast, ix_alen, ix_aald, ix_gval, ix_gcod, ix_bald, ix_blen, ix_sald, ix_nret, ix_math2, ix_math1, ix_acopy, Nat.add_assoc, Int32.reduceLT, Int32.reduceLE, Int32.reduceToNatClampNeg, Int32.reduceSub, Int32.reduceAdd, Nat.reduceAdd, Nat.reduceLeDiff, true_or, or_true, or_false, false_or, not_false_eq_true, not_true_eq_false, false_implies, true_implies, implies_true, and_self, mB_0, mB_01, Classical.not_not, Nat.zero_le, List.getElem?_cons_zero, List.getElem?_cons_succ, List.set_cons_zero, List.set_cons_succ, ix_nl, ix_cs, true_and, and_true, Option.toList_some, Option.toList_none, List.cons_append, List.nil_append, c, c2, ix_up_ne, ix_up_k, ve_1, ve_2, ve_3, ve_4, ve_5]
      refine hQ _ _ ?_
      simp (decide := true) only [e_X11_told_0, e_X11_told_1, e_X11_told_2, e_X11_told_3, e_X11_told_6, e_X11_told_9, e_X11_told_10, e_X11_told_13, e_X11_told_14, e_X11_told_15, e_X11_told_18, e_X11_told_19, e_X11_told_21, e_X11_told_24, vi, vl, vr, oc_X11_finding, T_X11_finding, oc_X11_within, T_X11_within, ix_push, ix_iload, ix_lload, ix_aload, ix_istore, ix_astore, ix_iinc, ix_bin, ix_div, ix_un, ix_i2l, ix_l2i, ix_lbin, ix_lsh, ix_lcmp, ix_dup, ix_dup2, ix_pop, ix_if, ix_cmp, ix_goto, ix_switch, ix_sw, ix_iret, ix_zret, ix_vret, ix_aret, ix_geti, ix_getr, ix_puti, ix_putz, ix_puts, ix_gets, ix_iald, ix_iast, ix_alen, ix_aald, ix_gval, ix_gcod, ix_bald, ix_blen, ix_sald, ix_nret, ix_math2, ix_math1, ix_acopy, ml_113, ml_114, ml_115, ml_116, ml_118, ml_119, ml_120, ml_121, ml_122, ml_123, ml_124, ml_125, ml_126, mv_0, mv_1, mv_2, mv_3, mv_4, mv_5, mB_or, Nat.add_assoc, Int32.reduceLT, Int32.reduceLE, Int32.reduceToNatClampNeg, Int32.reduceSub, Int32.reduceAdd, Nat.reduceAdd, Nat.reduceLeDiff, true_or, or_true, or_false, false_or, not_false_eq_true, not_true_eq_false, false_implies, true_implies, implies_true, and_self, mB_0, mB_01, Classical.not_not, Nat.zero_le, List.getElem?_cons_zero, List.getElem?_cons_succ, List.set_cons_zero, List.set_cons_succ, ix_nl, ix_cs, true_and, and_true, Option.toList_some, Option.toList_none, List.cons_append, List.nil_append, h, ix_up_ne, ix_up_k, ve_1, ve_2, ve_3, ve_4, ve_5]
      exact I.er 1 (by decide)
