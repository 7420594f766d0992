/-! ===== calls, class against model: the small ones ===== -/
theorem inR (c : Int32) (m : Nat) (hm : m < 2 ^ 31) : (∃ C : Nat, C ≤ m ∧ c = nI C) ∨ ((c < 0 ∨ nI m < c) ∧ ¬ (0 ≤ c ∧ c ≤ nI m)) := by
  by_cases h : c < 0
  · exact Or.inr ⟨Or.inl h, fun z => absurd h (Int32.not_lt.mpr z.1)⟩
  · by_cases h2 : nI m < c
    · exact Or.inr ⟨Or.inr h2, fun z => absurd h2 (Int32.not_lt.mpr z.2)⟩
    · exact Or.inl (nI_of2 (nI_toInt hm) h (Int32.not_lt.mp h2))
theorem inB (b : Int32) {N : Nat} (hN : N ≤ 8) : (∃ B : Nat, B < N ∧ b = nI B ∧ ¬ nI B < 0 ∧ ¬ nI N ≤ nI B ∧ 0 ≤ nI B ∧ nI B ≤ nI N - 1) ∨ ((b < 0 ∨ nI N ≤ b) ∧ ¬ (0 ≤ b ∧ b ≤ nI N - 1)) := by
  have e : (nI N - 1).toInt = (N : Int) - 1 := by
    have e1 : (1 : Int32).toInt = 1 := rfl
    rw [fb_subI] <;> rw [nI_toInt (by omega), e1] <;> omega
  by_cases h : b < 0
  · exact Or.inr ⟨Or.inl h, fun z => absurd h (Int32.not_lt.mpr z.1)⟩
  · by_cases h2 : nI N ≤ b
    · refine Or.inr ⟨Or.inr h2, fun z => ?_⟩
      have z2 := (fa_le _ _).mp z.2
      have z3 := (fa_le _ _).mp h2
      rw [e] at z2
      rw [nI_toInt (by omega)] at z3
      omega
    · obtain ⟨B, hB, rfl⟩ := nI_of h
      have hlt : B < N := by
        have := Int32.not_le.mp h2
        exact (nI_ltI hB (by omega)).mp this
      refine Or.inl ⟨B, hlt, rfl, h, h2, nI_pos' hB, ?_⟩
      rw [fa_le, e, nI_toInt hB]
      omega
theorem rgN {C m : Nat} (h : C ≤ m) (hm : m < 2 ^ 31) : ¬ nI C < 0 ∧ ¬ nI m < nI C ∧ 0 ≤ nI C ∧ nI C ≤ nI m := ⟨nI_pos (by omega), nI_nlt h hm, nI_pos' (by omega), nI_le h hm⟩
abbrev Pst (v : Int32) : ix_R → Prop := fun q => q.1 = some (vi v) ∧ Inv q.2
theorem Inv.er {μ : ix_M} (I : Inv μ) (k : Nat) (hk : k ≤ 5) {v : Int32} : Pst v (some (Sum.inl v), ix_up (ix_up μ 111 k (μ 111 k + 1)) 116 k (μ 116 k + 1)) := ⟨rfl, I.err hk⟩
theorem pst {v v' : Int32} {μ : ix_M} (h : v' = v) (I : Inv μ) : Pst v (some (Sum.inl v'), μ) := ⟨by rw [h], I⟩
theorem ve_1 : vp_in 1 6 := vp_in_nI (by decide) (by decide)
theorem ve_2 : vp_in 2 6 := vp_in_nI (by decide) (by decide)
theorem ve_3 : vp_in 3 6 := vp_in_nI (by decide) (by decide)
theorem ve_4 : vp_in 4 6 := vp_in_nI (by decide) (by decide)
theorem ve_5 : vp_in 5 6 := vp_in_nI (by decide) (by decide)
theorem Inv.w {μ : ix_M} (I : Inv μ) {r i : Nat} (h : wok r i = true) : μ (2 + r) i = μ 113 (nvI r i) := by
  have e := congrFun (congrFun I.1.1.1 r) i
  rw [wv_at h, nv_at h] at e
  exact e
theorem Inv.w3 {μ : ix_M} (I : Inv μ) {i : Nat} (h : i < 6) : μ 5 i = μ 113 (6 + i) := I.w (wok_3 h)
/-- the boats, on both sides -/
theorem Inv.n {μ : ix_M} (I : Inv μ) : ∃ N, N ≤ 8 ∧ μ 2 7 = nI N ∧ μ 113 1 = nI N := by
  obtain ⟨M, hM, h⟩ := I.1.1.2
  obtain ⟨N, hN, e⟩ := h.1.1
  exact ⟨N, hN, (I.w (r := 0) (i := 7) rfl).trans e, e⟩
/-- the water has changed on both sides alike -/
theorem Inv.wat {μ μ' : ix_M} {L : List Nat} (I : Inv μ) (hF : Fx L μ μ') (hL : ∀ a ∈ L, scrB a = true ∨ (2 ≤ a ∧ a ≤ 9) ∨ a = 113) (hv : wv μ' 2 = nv (μ' 113)) {M : Nat} (hM : M ≤ 9999) (hr : WR (nv (μ' 113)) M) (hrst : ∀ j, rst j → j < 256 → μ' 113 j = μ 113 j) : Inv μ' := by
  have hs : ∀ a ∈ L, nowB a = true ∧ a ≠ 0 ∧ a ≠ 112 ∧ a ≠ 97 ∧ a ≠ 121 ∧ (1 ≤ a → a ≤ 23 → a = 14 ∨ a = 18 ∨ (2 ≤ a ∧ a ≤ 9)) := by
    intro a ha
    rcases hL a ha with h | h | h
    · have := scr_now a h
      refine ⟨this.1, this.2.1, this.2.2.1, this.2.2.2.1, this.2.2.2.2.1, fun x y => ?_⟩
      have := this.2.2.2.2.2.2 x y
      omega
    · refine ⟨?_, by omega, by omega, by omega, by omega, fun x y => by omega⟩
      simp [nowB]
      omega
    · subst h
      exact ⟨rfl, by decide, by decide, by decide, by decide, fun x y => by omega⟩
  have hc : ∀ a, 1 ≤ a → a ≤ 23 → a ≠ 14 → a ≠ 18 → ¬ (2 ≤ a ∧ a ≤ 9) → μ' a = μ a := fun a h1 h2 h3 h4 h5 => hF a (fun z => by
    have := (hs a z).2.2.2.2.2 h1 h2
    omega)
  refine I.now hF (fun a ha => (hs a ha).1) ?_ ⟨fun z => (hs _ z).2.1 rfl, fun z => (hs _ z).2.2.1 rfl, fun z => (hs _ z).2.2.2.1 rfl, fun z => (hs _ z).2.2.2.2.1 rfl⟩
  obtain ⟨h1, h3, ⟨n, n1, n2, n3, n4⟩, ⟨m, m1, m2, m3, m4⟩, h6, ⟨ds, d1, d2⟩, dl, d3, d4⟩ := I.1
  have hx : ∀ t ds, (t = 152 ∨ t = 204) → TxtM (μ 113) t ds → TxtM (μ' 113) t ds := fun t ds ht h => ⟨⟨by rw [hrst t (by unfold rst; omega) (by omega)]; exact h.1.1, h.1.2.1, fun j hj => by
    have := h.1.2.1
    rw [hrst _ (by unfold rst; omega) (by omega)]
    exact h.1.2.2 j hj⟩, h.2⟩
  refine ⟨⟨hv, M, hM, hr⟩, ?_, ⟨n, n1, ?_, ?_, fun j hj => ?_⟩, ⟨m, m1, ?_, ?_, fun j hj => ?_⟩, fun j hj => ?_, ⟨ds, d1.fx (hc _ (by omega) (by omega) (by omega) (by omega) (by omega)) (hc _ (by omega) (by omega) (by omega) (by omega) (by omega)), hx _ _ (by omega) d2⟩, dl, d3.fx (hc _ (by omega) (by omega) (by omega) (by omega) (by omega)) (hc _ (by omega) (by omega) (by omega) (by omega) (by omega)), hx _ _ (by omega) d4⟩
  · rw [hc _ (by omega) (by omega) (by omega) (by omega) (by omega), hrst 3 (by unfold rst; omega) (by omega)]
    exact h3
  · rw [hc _ (by omega) (by omega) (by omega) (by omega) (by omega)]
    exact n2
  · rw [hrst _ (by unfold rst; omega) (by omega)]
    exact n3
  · rw [hc _ (by omega) (by omega) (by omega) (by omega) (by omega), hrst _ (by unfold rst; omega) (by omega)]
    exact n4 j hj
  · rw [hc _ (by omega) (by omega) (by omega) (by omega) (by omega)]
    exact m2
  · rw [hrst _ (by unfold rst; omega) (by omega)]
    exact m3
  · rw [hc _ (by omega) (by omega) (by omega) (by omega) (by omega), hrst _ (by unfold rst; omega) (by omega)]
    exact m4 j hj
  · rw [hc _ (by omega) (by omega) (by omega) (by omega) (by omega), hrst _ (by unfold rst; omega) (by omega)]
    exact h6 j hj
/-- what one number of a water may be -/
def wrB (r i x : Nat) : Prop := (r = 3 → x < 5) ∧ (r = 4 → x < 7) ∧ (r = 5 → x < 10) ∧ (r = 6 → x < 16) ∧ (r = 7 → x ≤ 99) ∧ (r = 0 → i = 9)
theorem wr_set {v : WV} {M : Nat} (h : WR v M) {r i x : Nat} (hx : wrB r i x) : WR (setV r i (nI x) v) M := by
  obtain ⟨⟨⟨N, hN, h1⟩, h2, h3⟩, h4, h5, h6, h7⟩ := h
  have e0 : ∀ j, j ≠ 9 → setV r i (nI x) v 0 j = v 0 j := fun j hj => by
    unfold setV
    rw [if_neg (fun z => hj (z.2.trans (hx.2.2.2.2.2 z.1.symm)))]
  have key : ∀ (q : Nat) (P : Int32 → Prop) (b : Nat), P (v q b) → (r = q → P (nI x)) → P (setV r i (nI x) v q b) := fun q P b hp hq => by
    unfold setV
    split
    · rename_i z
      exact hq z.1.symm
    · exact hp
  refine ⟨⟨⟨N, hN, by rw [e0 7 (by decide)]; exact h1⟩, by rw [e0 8 (by decide)]; exact h2, fun b hb => ?_⟩, fun b hb => ?_, fun b hb => ?_, fun b hb => ?_, fun b hb => ?_⟩
  · exact key 6 (fun y => ∃ c : Nat, c < 16 ∧ y = nI c) b (h3 b hb) (fun z => ⟨x, hx.2.2.2.1 z, rfl⟩)
  · exact key 3 (fun y => ∃ c : Nat, c < 5 ∧ y = nI c) b (h4 b hb) (fun z => ⟨x, hx.1 z, rfl⟩)
  · exact key 4 (fun y => ∃ c : Nat, c < 7 ∧ y = nI c) b (h5 b hb) (fun z => ⟨x, hx.2.1 z, rfl⟩)
  · exact key 5 (fun y => ∃ c : Nat, c < 10 ∧ y = nI c) b (h6 b hb) (fun z => ⟨x, hx.2.2.1 z, rfl⟩)
  · exact key 7 (fun y => ∃ c : Nat, c ≤ 99 ∧ y = nI c) b (h7 b hb) (fun z => ⟨x, hx.2.2.2.2.1 z, rfl⟩)
/-- one number of the water, on both sides -/
theorem Inv.set {μ : ix_M} (I : Inv μ) {r i x a k : Nat} (hw : wok r i = true) (hx : wrB r i x) (ha : a = 2 + r) (hk : k = nvI r i) {y : Int32} (hy : y = nI x) : Inv (ix_up (ix_up μ a i y) 113 k y) := by
  subst ha hk hy
  have hr8 : r < 8 := by
    simp [wok] at hw
    omega
  have e113 : ix_up (ix_up μ (2 + r) i (nI x)) 113 (nvI r i) (nI x) 113 = upd (μ 113) (nvI r i) (nI x) := by
    rw [ix_up_row, ix_up_ne (by omega)]
  obtain ⟨M, hM, hR⟩ := I.1.1.2
  refine I.wat (L := [2 + r, 113]) ((Fx.rf.up (by simp)).up (by simp)) (fun a ha => ?_) ?_ hM ?_ (fun j hj _ => ?_)
  · simp at ha
    omega
  · rw [e113, nv_upd hw, ← show wv μ 2 = nv (μ 113) from I.1.1.1]
    funext r' i'
    unfold wv setV
    by_cases c : wok r' i' = true
    · rw [if_pos c, ix_up_ne (by simp [wok] at c; omega), ix_up_ap]
      by_cases c2 : r' = r ∧ i' = i
      · rw [if_pos c2, if_pos (by omega)]
      · rw [if_neg c2, if_neg (by omega)]
        exact (if_pos c).symm
    · rw [if_neg c, if_neg (fun z => c (by rw [z.1, z.2]; exact hw))]
      exact (if_neg c).symm
  · rw [e113, nv_upd hw]
    exact wr_set hR hx
  · rw [e113, upd_ne]
    intro z
    rw [z] at hj
    exact nvI_rst hw hj
/-! the clauses of a state, one by one -/
abbrev CW (μ : ix_M) (s : Nat) (f : Nat → Int32) : Prop := wv μ (s + 1) = nv f ∧ ∃ M, M ≤ 9999 ∧ WR (nv f) M
abbrev CT (μ : ix_M) (s : Nat) (f : Nat → Int32) : Prop := ∃ n, n ≤ 50 ∧ μ (s + 18) 1 = nI n ∧ f 4 = nI n ∧ ∀ j, j < n → μ (s + 19) j = f (82 + j) ∧ ∃ b, b < 256 ∧ f (82 + j) = nI b
abbrev CA (μ : ix_M) (s : Nat) (f : Nat → Int32) : Prop := ∃ n, n ≤ 20 ∧ μ (s + 20) 1 = nI n ∧ f 5 = nI n ∧ ∀ j, j < n → μ (s + 21) j = f (132 + j)
abbrev CN (μ : ix_M) (s : Nat) (f : Nat → Int32) : Prop := ∀ j, j < 6 → μ (s + 22) j = f (12 + j) ∧ ∃ x, x ≤ 99 ∧ f (12 + j) = nI x
abbrev CX (μ : ix_M) (t : Nat) (f : Nat → Int32) (k : Nat) : Prop := ∃ ds, TxtOk μ t ds ∧ TxtM f k ds
theorem CW_fx {μ μ' : ix_M} {s : Nat} {f f' : Nat → Int32} (h : CW μ s f) (hc : ∀ a, s + 1 ≤ a → a ≤ s + 8 → μ' a = μ a) (hf : ∀ j, j < 82 → ¬ rst j → f' j = f j) : CW μ' s f' := by
  have en : nv f' = nv f := by
    funext r i
    unfold nv
    by_cases c : wok r i = true
    · rw [if_pos c, if_pos c, hf _ (nvI_lt c) (nvI_rst c)]
    · rw [if_neg c, if_neg c]
  have ew : wv μ' (s + 1) = wv μ (s + 1) := wv_fx (fun r hr => hc _ (by omega) (by omega))
  unfold CW
  rw [en, ew]
  exact h
theorem CT_fx {μ μ' : ix_M} {s : Nat} {f f' : Nat → Int32} (h : CT μ s f) (h1 : μ' (s + 18) = μ (s + 18)) (h2 : μ' (s + 19) = μ (s + 19)) (hf : ∀ j, j = 4 ∨ (82 ≤ j ∧ j < 132) → f' j = f j) : CT μ' s f' := by
  obtain ⟨n, n1, n2, n3, n4⟩ := h
  exact ⟨n, n1, by rw [h1]; exact n2, by rw [hf 4 (by omega)]; exact n3, fun j hj => by rw [h2, hf _ (by omega)]; exact n4 j hj⟩
theorem CA_fx {μ μ' : ix_M} {s : Nat} {f f' : Nat → Int32} (h : CA μ s f) (h1 : μ' (s + 20) = μ (s + 20)) (h2 : μ' (s + 21) = μ (s + 21)) (hf : ∀ j, j = 5 ∨ (132 ≤ j ∧ j < 152) → f' j = f j) : CA μ' s f' := by
  obtain ⟨n, n1, n2, n3, n4⟩ := h
  exact ⟨n, n1, by rw [h1]; exact n2, by rw [hf 5 (by omega)]; exact n3, fun j hj => by rw [h2, hf _ (by omega)]; exact n4 j hj⟩
theorem CN_fx {μ μ' : ix_M} {s : Nat} {f f' : Nat → Int32} (h : CN μ s f) (h1 : μ' (s + 22) = μ (s + 22)) (hf : ∀ j, 12 ≤ j ∧ j < 18 → f' j = f j) : CN μ' s f' := fun j hj => by
  rw [h1, hf _ (by omega)]
  exact h j hj
theorem CX_fx {μ μ' : ix_M} {t k : Nat} {f f' : Nat → Int32} (h : CX μ t f k) (h1 : μ' (t + 1) = μ (t + 1)) (h2 : μ' (t + 2) = μ (t + 2)) (hf : ∀ j, k ≤ j ∧ j ≤ k + 50 → f' j = f j) : CX μ' t f' k := by
  obtain ⟨ds, d1, ⟨d2, d3, d4⟩, d5⟩ := h
  exact ⟨ds, d1.fx h1 h2, ⟨by rw [hf k (by omega)]; exact d2, d3, fun j hj => by rw [hf _ (by omega)]; exact d4 j hj⟩, d5⟩
def o_X10_ofList : List (Nat × ix_Op) := [
  (0, ix_iload 1 1),
  (1, ix_push (vi 5) 2),
  (2, oc_X10_outside 5),
  (5, ix_if (fun x => x = 0) 14 8),
  (8, ix_aload 0 9),
  (9, ix_push (vi 1) 10),
  (10, oc_X10_error 13),
  (13, ix_iret),
  (14, ix_aload 0 15),
  (15, ix_getr 9 5 (fun _ => 1) 18),
  (18, ix_getr 5 8 (fun k => k + 1) 21),
  (21, ix_getr 8 20 (fun k => k + 3) 24),
  (24, ix_iload 1 25),
  (25, ix_iald 26),
  (26, ix_iret)]
set_option maxRecDepth 20000 in
theorem a_X10_ofList (l : Launch) : ix_AllS l cX10_ofList 2 RX10 20 (some .int) o_X10_ofList :=
  .cons (ix_s_iload_n dX10_ofList_0 rfl) <|
  .cons (ix_s_iconst dX10_ofList_1 (by decide +kernel)) <|
  .cons (oc_X10_outside_s (ix_s_calls (k_X10_outside l) (by decide) (by decide) tw_291 tw_1 tw_289 tw_290 ⟨by decide, by decide, by decide +kernel⟩ (fun _ => rfl) dX10_ofList_2)) <|
  .cons (ix_s_if_eq dX10_ofList_5 (by decide)) <|
  .cons (ix_s_aload_n dX10_ofList_8 rfl) <|
  .cons (ix_s_iconst dX10_ofList_9 (by decide +kernel)) <|
  .cons (oc_X10_error_s (ix_s_callv (t := 9) (k_X10_error l) (by decide) (by decide) tw_295 tw_1 tw_292 tw_294 tp_0 ⟨by decide, by decide, by decide +kernel⟩ (by decide) rfl rfl (fun _ => ⟨_, _, rfl, rfl⟩) dX10_ofList_10)) <|
  .cons (ix_s_iret dX10_ofList_13 rfl) <|
  .cons (ix_s_aload_n dX10_ofList_14 rfl) <|
  .cons (ix_s_getr (j := 0) tu_X10 rfl (by decide) (by decide) tw_251 rfl ts_9_0_r dX10_ofList_15) <|
  .cons (ix_s_getr (j := 0) tu_X6 rfl (by decide) (by decide) tw_138 rfl ts_5_0_r dX10_ofList_18) <|
  .cons (ix_s_getr (j := 2) tu_X9 rfl (by decide) (by decide) tw_45 rfl ts_8_2_r dX10_ofList_21) <|
  .cons (ix_s_iload_n dX10_ofList_24 rfl) <|
  .cons (ix_s_iald dX10_ofList_25) <|
  .cons (ix_s_iret dX10_ofList_26 rfl) <| .nil
theorem e_X10_ofList_0 (Q : ix_R → Prop) (ls : ix_L) (st : List ix_V) (μ : ix_M) : ix_Ev o_X10_ofList Q (0, ls, st, μ) = ix_iload 1 1 (ix_Ev o_X10_ofList Q) Q ls st μ := ix_Ev.eq (a_X10_ofList launch0) rfl ls st μ
theorem e_X10_ofList_1 (Q : ix_R → Prop) (ls : ix_L) (st : List ix_V) (μ : ix_M) : ix_Ev o_X10_ofList Q (1, ls, st, μ) = ix_push (vi 5) 2 (ix_Ev o_X10_ofList Q) Q ls st μ := ix_Ev.eq (a_X10_ofList launch0) rfl ls st μ
theorem e_X10_ofList_2 (Q : ix_R → Prop) (ls : ix_L) (st : List ix_V) (μ : ix_M) : ix_Ev o_X10_ofList Q (2, ls, st, μ) = oc_X10_outside 5 (ix_Ev o_X10_ofList Q) Q ls st μ := ix_Ev.eq (a_X10_ofList launch0) rfl ls st μ
theorem e_X10_ofList_5 (Q : ix_R → Prop) (ls : ix_L) (st : List ix_V) (μ : ix_M) : ix_Ev o_X10_ofList Q (5, ls, st, μ) = ix_if (fun x => x = 0) 14 8 (ix_Ev o_X10_ofList Q) Q ls st μ := ix_Ev.eq (a_X10_ofList launch0) rfl ls st μ
theorem e_X10_ofList_8 (Q : ix_R → Prop) (ls : ix_L) (st : List ix_V) (μ : ix_M) : ix_Ev o_X10_ofList Q (8, ls, st, μ) = ix_aload 0 9 (ix_Ev o_X10_ofList Q) Q ls st μ := ix_Ev.eq (a_X10_ofList launch0) rfl ls st μ
theorem e_X10_ofList_9 (Q : ix_R → Prop) (ls : ix_L) (st : List ix_V) (μ : ix_M) : ix_Ev o_X10_ofList Q (9, ls, st, μ) = ix_push (vi 1) 10 (ix_Ev o_X10_ofList Q) Q ls st μ := ix_Ev.eq (a_X10_ofList launch0) rfl ls st μ
theorem e_X10_ofList_10 (Q : ix_R → Prop) (ls : ix_L) (st : List ix_V) (μ : ix_M) : ix_Ev o_X10_ofList Q (10, ls, st, μ) = oc_X10_error 13 (ix_Ev o_X10_ofList Q) Q ls st μ := ix_Ev.eq (a_X10_ofList launch0) rfl ls st μ
theorem e_X10_ofList_13 (Q : ix_R → Prop) (ls : ix_L) (st : List ix_V) (μ : ix_M) : ix_Ev o_X10_ofList Q (13, ls, st, μ) = ix_iret (ix_Ev o_X10_ofList Q) Q ls st μ := ix_Ev.eq (a_X10_ofList launch0) rfl ls st μ
theorem e_X10_ofList_14 (Q : ix_R → Prop) (ls : ix_L) (st : List ix_V) (μ : ix_M) : ix_Ev o_X10_ofList Q (14, ls, st, μ) = ix_aload 0 15 (ix_Ev o_X10_ofList Q) Q ls st μ := ix_Ev.eq (a_X10_ofList launch0) rfl ls st μ
theorem e_X10_ofList_15 (Q : ix_R → Prop) (ls : ix_L) (st : List ix_V) (μ : ix_M) : ix_Ev o_X10_ofList Q (15, ls, st, μ) = ix_getr 9 5 (fun _ => 1) 18 (ix_Ev o_X10_ofList Q) Q ls st μ := ix_Ev.eq (a_X10_ofList launch0) rfl ls st μ
theorem e_X10_ofList_18 (Q : ix_R → Prop) (ls : ix_L) (st : List ix_V) (μ : ix_M) : ix_Ev o_X10_ofList Q (18, ls, st, μ) = ix_getr 5 8 (fun k => k + 1) 21 (ix_Ev o_X10_ofList Q) Q ls st μ := ix_Ev.eq (a_X10_ofList launch0) rfl ls st μ
theorem e_X10_ofList_21 (Q : ix_R → Prop) (ls : ix_L) (st : List ix_V) (μ : ix_M) : ix_Ev o_X10_ofList Q (21, ls, st, μ) = ix_getr 8 20 (fun k => k + 3) 24 (ix_Ev o_X10_ofList Q) Q ls st μ := ix_Ev.eq (a_X10_ofList launch0) rfl ls st μ
theorem e_X10_ofList_24 (Q : ix_R → Prop) (ls : ix_L) (st : List ix_V) (μ : ix_M) : ix_Ev o_X10_ofList Q (24, ls, st, μ) = ix_iload 1 25 (ix_Ev o_X10_ofList Q) Q ls st μ := ix_Ev.eq (a_X10_ofList launch0) rfl ls st μ
theorem e_X10_ofList_25 (Q : ix_R → Prop) (ls : ix_L) (st : List ix_V) (μ : ix_M) : ix_Ev o_X10_ofList Q (25, ls, st, μ) = ix_iald 26 (ix_Ev o_X10_ofList Q) Q ls st μ := ix_Ev.eq (a_X10_ofList launch0) rfl ls st μ
theorem e_X10_ofList_26 (Q : ix_R → Prop) (ls : ix_L) (st : List ix_V) (μ : ix_M) : ix_Ev o_X10_ofList Q (26, ls, st, μ) = ix_iret (ix_Ev o_X10_ofList Q) Q ls st μ := ix_Ev.eq (a_X10_ofList launch0) rfl ls st μ
def o_X11_ofList : List (Nat × ix_Op) := [
  (0, ix_iload 1 1),
  (1, oc_X11_isPlace 4),
  (4, ix_if (fun x => x = 0) 19 7),
  (7, ix_aload 0 8),
  (8, ix_getr 10 20 (fun _ => 113) 11),
  (11, ix_push (vi 6) 13),
  (13, ix_iload 1 14),
  (14, ix_bin (fun x y => x + y) 15),
  (15, ix_iald 16),
  (16, ix_goto 25),
  (19, ix_aload 0 20),
  (20, ix_push (vi (-1000000001)) 22),
  (22, oc_X11_finding 25),
  (25, ix_iret)]
set_option maxRecDepth 20000 in
theorem a_X11_ofList (l : Launch) : ix_AllS l cX11_ofList 2 RX11 20 (some .int) o_X11_ofList :=
  .cons (ix_s_iload_n dX11_ofList_0 rfl) <|
  .cons (oc_X11_isPlace_s (ix_s_calls (k_X11_isPlace l) (by decide) (by decide) tw_1097 tw_12 tw_1095 tw_1096 ⟨by decide, by decide, by decide +kernel⟩ (fun _ => rfl) dX11_ofList_1)) <|
  .cons (ix_s_if_eq dX11_ofList_4 (by decide)) <|
  .cons (ix_s_aload_n dX11_ofList_7 rfl) <|
  .cons (ix_s_getr (j := 0) tu_X11 rfl (by decide) (by decide) tw_875 rfl ts_10_0_r dX11_ofList_8) <|
  .cons (ix_s_bipush dX11_ofList_11 (by decide +kernel)) <|
  .cons (ix_s_iload_n dX11_ofList_13 rfl) <|
  .cons (ix_s_iadd dX11_ofList_14) <|
  .cons (ix_s_iald dX11_ofList_15) <|
  .cons (ix_s_goto dX11_ofList_16 (by decide)) <|
  .cons (ix_s_aload_n dX11_ofList_19 rfl) <|
  .cons (ix_s_ldc tw_961 dX11_ofList_20) <|
  .cons (oc_X11_finding_s (ix_s_callv (t := 10) (k_X11_finding l) (by decide) (by decide) tw_965 tw_12 tw_962 tw_964 tp_18 ⟨by decide, by decide, by decide +kernel⟩ (by decide) rfl rfl (fun _ => ⟨_, _, rfl, rfl⟩) dX11_ofList_22)) <|
  .cons (ix_s_iret dX11_ofList_25 rfl) <| .nil
theorem e_X11_ofList_0 (Q : ix_R → Prop) (ls : ix_L) (st : List ix_V) (μ : ix_M) : ix_Ev o_X11_ofList Q (0, ls, st, μ) = ix_iload 1 1 (ix_Ev o_X11_ofList Q) Q ls st μ := ix_Ev.eq (a_X11_ofList launch0) rfl ls st μ
theorem e_X11_ofList_1 (Q : ix_R → Prop) (ls : ix_L) (st : List ix_V) (μ : ix_M) : ix_Ev o_X11_ofList Q (1, ls, st, μ) = oc_X11_isPlace 4 (ix_Ev o_X11_ofList Q) Q ls st μ := ix_Ev.eq (a_X11_ofList launch0) rfl ls st μ
theorem e_X11_ofList_4 (Q : ix_R → Prop) (ls : ix_L) (st : List ix_V) (μ : ix_M) : ix_Ev o_X11_ofList Q (4, ls, st, μ) = ix_if (fun x => x = 0) 19 7 (ix_Ev o_X11_ofList Q) Q ls st μ := ix_Ev.eq (a_X11_ofList launch0) rfl ls st μ
theorem e_X11_ofList_7 (Q : ix_R → Prop) (ls : ix_L) (st : List ix_V) (μ : ix_M) : ix_Ev o_X11_ofList Q (7, ls, st, μ) = ix_aload 0 8 (ix_Ev o_X11_ofList Q) Q ls st μ := ix_Ev.eq (a_X11_ofList launch0) rfl ls st μ
theorem e_X11_ofList_8 (Q : ix_R → Prop) (ls : ix_L) (st : List ix_V) (μ : ix_M) : ix_Ev o_X11_ofList Q (8, ls, st, μ) = ix_getr 10 20 (fun _ => 113) 11 (ix_Ev o_X11_ofList Q) Q ls st μ := ix_Ev.eq (a_X11_ofList launch0) rfl ls st μ
theorem e_X11_ofList_11 (Q : ix_R → Prop) (ls : ix_L) (st : List ix_V) (μ : ix_M) : ix_Ev o_X11_ofList Q (11, ls, st, μ) = ix_push (vi 6) 13 (ix_Ev o_X11_ofList Q) Q ls st μ := ix_Ev.eq (a_X11_ofList launch0) rfl ls st μ
theorem e_X11_ofList_13 (Q : ix_R → Prop) (ls : ix_L) (st : List ix_V) (μ : ix_M) : ix_Ev o_X11_ofList Q (13, ls, st, μ) = ix_iload 1 14 (ix_Ev o_X11_ofList Q) Q ls st μ := ix_Ev.eq (a_X11_ofList launch0) rfl ls st μ
theorem e_X11_ofList_14 (Q : ix_R → Prop) (ls : ix_L) (st : List ix_V) (μ : ix_M) : ix_Ev o_X11_ofList Q (14, ls, st, μ) = ix_bin (fun x y => x + y) 15 (ix_Ev o_X11_ofList Q) Q ls st μ := ix_Ev.eq (a_X11_ofList launch0) rfl ls st μ
theorem e_X11_ofList_15 (Q : ix_R → Prop) (ls : ix_L) (st : List ix_V) (μ : ix_M) : ix_Ev o_X11_ofList Q (15, ls, st, μ) = ix_iald 16 (ix_Ev o_X11_ofList Q) Q ls st μ := ix_Ev.eq (a_X11_ofList launch0) rfl ls st μ
theorem e_X11_ofList_16 (Q : ix_R → Prop) (ls : ix_L) (st : List ix_V) (μ : ix_M) : ix_Ev o_X11_ofList Q (16, ls, st, μ) = ix_goto 25 (ix_Ev o_X11_ofList Q) Q ls st μ := ix_Ev.eq (a_X11_ofList launch0) rfl ls st μ
theorem e_X11_ofList_19 (Q : ix_R → Prop) (ls : ix_L) (st : List ix_V) (μ : ix_M) : ix_Ev o_X11_ofList Q (19, ls, st, μ) = ix_aload 0 20 (ix_Ev o_X11_ofList Q) Q ls st μ := ix_Ev.eq (a_X11_ofList launch0) rfl ls st μ
theorem e_X11_ofList_20 (Q : ix_R → Prop) (ls : ix_L) (st : List ix_V) (μ : ix_M) : ix_Ev o_X11_ofList Q (20, ls, st, μ) = ix_push (vi (-1000000001)) 22 (ix_Ev o_X11_ofList Q) Q ls st μ := ix_Ev.eq (a_X11_ofList launch0) rfl ls st μ
theorem e_X11_ofList_22 (Q : ix_R → Prop) (ls : ix_L) (st : List ix_V) (μ : ix_M) : ix_Ev o_X11_ofList Q (22, ls, st, μ) = oc_X11_finding 25 (ix_Ev o_X11_ofList Q) Q ls st μ := ix_Ev.eq (a_X11_ofList launch0) rfl ls st μ
theorem e_X11_ofList_25 (Q : ix_R → Prop) (ls : ix_L) (st : List ix_V) (μ : ix_M) : ix_Ev o_X11_ofList Q (25, ls, st, μ) = ix_iret (ix_Ev o_X11_ofList Q) Q ls st μ := ix_Ev.eq (a_X11_ofList launch0) rfl ls st μ
theorem pr_ofList (p : Int32) (μ : ix_M) (I : Inv μ) (Q : ix_R → Prop) (hQ : ∀ vv μ', ix_Ev o_X11_ofList (Pst vv) (0, [some (vr 10 112), some (vi p)], [], μ') → Q (some (vi vv), μ')) : ix_Ev o_X10_ofList Q (0, [some (vr 9 0), some (vi p)], [], μ) := by
  rcases inR p 5 (by decide) with ⟨P, hP, rfl⟩ | ⟨h1, h2⟩
  · obtain ⟨a1, a2, a3, a4⟩ : ¬ nI P < 0 ∧ ¬ (5 : Int32) < nI P ∧ 0 ≤ nI P ∧ nI P ≤ (5 : Int32) := rgN hP (by decide)
    have e1 : 6 + nI P = nI (6 + P) := nI_add 6 P
    have c1 : (nI P).toNatClampNeg = P := nI_clamp (by omega)
    have c2 : (nI (6 + P)).toNatClampNeg = 6 + P := nI_clamp (by omega)
    have v1 : vp_in (nI P) (ix_len 5) := vp_in_nI (show P < 6 by omega) (by decide)
    have v2 : vp_in (nI (6 + P)) 256 := vp_in_nI (by omega) (by decide)
    simp (decide := true) only [e_X10_ofList_0, e_X10_ofList_1, e_X10_ofList_2, e_X10_ofList_5, e_X10_ofList_8, e_X10_ofList_9, e_X10_ofList_10, e_X10_ofList_13, e_X10_ofList_14, e_X10_ofList_15, e_X10_ofList_18, e_X10_ofList_21, e_X10_ofList_24, e_X10_ofList_25, e_X10_ofList_26, vi, vl, vr, oc_X10_error, T_X10_error, oc_X10_outside, T_X10_outside, ix_push, ix_iload, ix_lload, ix_aload, ix_istore, ix_astore, ix_iinc, ix_bin, ix_div, ix_un, ix_i2l, ix_l2i, ix_lbin, ix_lsh, ix_lcmp, ix_dup, ix_dup2, ix_pop, ix_if, ix_cmp, ix_goto, ix_switch, ix_sw, ix_iret, ix_zret, ix_vret, ix_aret, ix_geti, ix_getr, ix_puti, ix_putz, ix_puts, ix_gets, ix_iald, ix_iast, ix_alen, ix_aald, ix_gval, ix_gcod, ix_bald, ix_blen, ix_sald, ix_nret, ix_math2, ix_math1, ix_acopy, Nat.add_assoc, Int32.reduceLT, Int32.reduceLE, Int32.reduceToNatClampNeg, Int32.reduceSub, Int32.reduceAdd, Nat.reduceAdd, Nat.reduceLeDiff, true_or, or_true, or_false, false_or, not_false_eq_true, not_true_eq_false, false_implies, true_implies, implies_true, and_self, mB_0, mB_01, Classical.not_not, Nat.zero_le, List.getElem?_cons_zero, List.getElem?_cons_succ, List.set_cons_zero, List.set_cons_succ, ix_nl, ix_cs, true_and, and_true, Option.toList_some, Option.toList_none, List.cons_append, List.nil_append, a1, a2, a3, a4, e1, c1, c2, v1, v2, ix_up_ne, ix_up_k, ve_1, ve_2, ve_3, ve_4, ve_5]
    refine hQ _ _ ?_
    simp (decide := true) only [e_X11_ofList_0, e_X11_ofList_1, e_X11_ofList_4, e_X11_ofList_7, e_X11_ofList_8, e_X11_ofList_11, e_X11_ofList_13, e_X11_ofList_14, e_X11_ofList_15, e_X11_ofList_16, e_X11_ofList_19, e_X11_ofList_20, e_X11_ofList_22, e_X11_ofList_25, vi, vl, vr, oc_X11_finding, T_X11_finding, oc_X11_isPlace, T_X11_isPlace, ix_push, ix_iload, ix_lload, ix_aload, ix_istore, ix_astore, ix_iinc, ix_bin, ix_div, ix_un, ix_i2l, ix_l2i, ix_lbin, ix_lsh, ix_lcmp, ix_dup, ix_dup2, ix_pop, ix_if, ix_cmp, ix_goto, ix_switch, ix_sw, ix_iret, ix_zret, ix_vret, ix_aret, ix_geti, ix_getr, ix_puti, ix_putz, ix_puts, ix_gets, ix_iald, ix_iast, ix_alen, ix_aald, ix_gval, ix_gcod, ix_bald, ix_blen, ix_sald, ix_nret, ix_math2, ix_math1, ix_acopy, ml_113, ml_114, ml_115, ml_116, ml_118, ml_119, ml_120, ml_121, ml_122, ml_123, ml_124, ml_125, ml_126, mv_0, mv_1, mv_2, mv_3, mv_4, mv_5, mB_or, Nat.add_assoc, Int32.reduceLT, Int32.reduceLE, Int32.reduceToNatClampNeg, Int32.reduceSub, Int32.reduceAdd, Nat.reduceAdd, Nat.reduceLeDiff, true_or, or_true, or_false, false_or, not_false_eq_true, not_true_eq_false, false_implies, true_implies, implies_true, and_self, mB_0, mB_01, Classical.not_not, Nat.zero_le, List.getElem?_cons_zero, List.getElem?_cons_succ, List.set_cons_zero, List.set_cons_succ, ix_nl, ix_cs, true_and, and_true, Option.toList_some, Option.toList_none, List.cons_append, List.nil_append, a1, a2, a3, a4, e1, c1, c2, v1, v2, ix_up_ne, ix_up_k, ve_1, ve_2, ve_3, ve_4, ve_5]
    exact ⟨by rw [I.w3 (by omega)], I⟩
  · have h1 : p < 0 ∨ (5 : Int32) < p := h1
    have h2 : ¬ (0 ≤ p ∧ p ≤ (5 : Int32)) := h2
    simp (decide := true) only [e_X10_ofList_0, e_X10_ofList_1, e_X10_ofList_2, e_X10_ofList_5, e_X10_ofList_8, e_X10_ofList_9, e_X10_ofList_10, e_X10_ofList_13, e_X10_ofList_14, e_X10_ofList_15, e_X10_ofList_18, e_X10_ofList_21, e_X10_ofList_24, e_X10_ofList_25, e_X10_ofList_26, vi, vl, vr, oc_X10_error, T_X10_error, oc_X10_outside, T_X10_outside, ix_push, ix_iload, ix_lload, ix_aload, ix_istore, ix_astore, ix_iinc, ix_bin, ix_div, ix_un, ix_i2l, ix_l2i, ix_lbin, ix_lsh, ix_lcmp, ix_dup, ix_dup2, ix_pop, ix_if, ix_cmp, ix_goto, ix_switch, ix_sw, ix_iret, ix_zret, ix_vret, ix_aret, ix_geti, ix_getr, ix_puti, ix_putz, ix_puts, ix_gets, ix_iald, ix_iast, ix_alen, ix_aald, ix_gval, ix_gcod, ix_bald, ix_blen, ix_sald, ix_nret, ix_math2, ix_math1, ix_acopy, Nat.add_assoc, Int32.reduceLT, Int32.reduceLE, Int32.reduceToNatClampNeg, Int32.reduceSub, Int32.reduceAdd, Nat.reduceAdd, Nat.reduceLeDiff, true_or, or_true, or_false, false_or, not_false_eq_true, not_true_eq_false, false_implies, true_implies, implies_true, and_self, mB_0, mB_01, Classical.not_not, Nat.zero_le, List.getElem?_cons_zero, List.getElem?_cons_succ, List.set_cons_zero, List.set_cons_succ, ix_nl, ix_cs, true_and, and_true, Option.toList_some, Option.toList_none, List.cons_append, List.nil_append, h1, h2, ix_up_ne, ix_up_k, ve_1, ve_2, ve_3, ve_4, ve_5]
    refine hQ _ _ ?_
    simp (decide := true) only [e_X11_ofList_0, e_X11_ofList_1, e_X11_ofList_4, e_X11_ofList_7, e_X11_ofList_8, e_X11_ofList_11, e_X11_ofList_13, e_X11_ofList_14, e_X11_ofList_15, e_X11_ofList_16, e_X11_ofList_19, e_X11_ofList_20, e_X11_ofList_22, e_X11_ofList_25, vi, vl, vr, oc_X11_finding, T_X11_finding, oc_X11_isPlace, T_X11_isPlace, ix_push, ix_iload, ix_lload, ix_aload, ix_istore, ix_astore, ix_iinc, ix_bin, ix_div, ix_un, ix_i2l, ix_l2i, ix_lbin, ix_lsh, ix_lcmp, ix_dup, ix_dup2, ix_pop, ix_if, ix_cmp, ix_goto, ix_switch, ix_sw, ix_iret, ix_zret, ix_vret, ix_aret, ix_geti, ix_getr, ix_puti, ix_putz, ix_puts, ix_gets, ix_iald, ix_iast, ix_alen, ix_aald, ix_gval, ix_gcod, ix_bald, ix_blen, ix_sald, ix_nret, ix_math2, ix_math1, ix_acopy, ml_113, ml_114, ml_115, ml_116, ml_118, ml_119, ml_120, ml_121, ml_122, ml_123, ml_124, ml_125, ml_126, mv_0, mv_1, mv_2, mv_3, mv_4, mv_5, mB_or, Nat.add_assoc, Int32.reduceLT, Int32.reduceLE, Int32.reduceToNatClampNeg, Int32.reduceSub, Int32.reduceAdd, Nat.reduceAdd, Nat.reduceLeDiff, true_or, or_true, or_false, false_or, not_false_eq_true, not_true_eq_false, false_implies, true_implies, implies_true, and_self, mB_0, mB_01, Classical.not_not, Nat.zero_le, List.getElem?_cons_zero, List.getElem?_cons_succ, List.set_cons_zero, List.set_cons_succ, ix_nl, ix_cs, true_and, and_true, Option.toList_some, Option.toList_none, List.cons_append, List.nil_append, h1, h2, ix_up_ne, ix_up_k, ve_1, ve_2, ve_3, ve_4, ve_5]
    repeat' (first | exact I.er 1 (by decide) | refine ⟨fun _ => ?_, fun _ => ?_⟩)
def o_X10_list : List (Nat × ix_Op) := [
  (0, ix_iload 1 1),
  (1, ix_push (vi 5) 2),
  (2, oc_X10_outside 5),
  (5, ix_if (fun x => x = 0) 8 16),
  (8, ix_iload 2 9),
  (9, ix_push (vi 4) 10),
  (10, oc_X10_outside 13),
  (13, ix_if (fun x => x = 0) 22 16),
  (16, ix_aload 0 17),
  (17, ix_push (vi 1) 18),
  (18, oc_X10_error 21),
  (21, ix_iret),
  (22, ix_aload 0 23),
  (23, ix_getr 9 5 (fun _ => 1) 26),
  (26, ix_getr 5 8 (fun k => k + 1) 29),
  (29, ix_getr 8 20 (fun k => k + 3) 32),
  (32, ix_iload 1 33),
  (33, ix_iload 2 34),
  (34, oc_X10_exchange 37),
  (37, ix_iret)]
set_option maxRecDepth 20000 in
theorem a_X10_list (l : Launch) : ix_AllS l cX10_list 3 RX10 20 (some .int) o_X10_list :=
  .cons (ix_s_iload_n dX10_list_0 rfl) <|
  .cons (ix_s_iconst dX10_list_1 (by decide +kernel)) <|
  .cons (oc_X10_outside_s (ix_s_calls (k_X10_outside l) (by decide) (by decide) tw_291 tw_1 tw_289 tw_290 ⟨by decide, by decide, by decide +kernel⟩ (fun _ => rfl) dX10_list_2)) <|
  .cons (ix_s_if_ne dX10_list_5 (by decide)) <|
  .cons (ix_s_iload_n dX10_list_8 rfl) <|
  .cons (ix_s_iconst dX10_list_9 (by decide +kernel)) <|
  .cons (oc_X10_outside_s (ix_s_calls (k_X10_outside l) (by decide) (by decide) tw_291 tw_1 tw_289 tw_290 ⟨by decide, by decide, by decide +kernel⟩ (fun _ => rfl) dX10_list_10)) <|
  .cons (ix_s_if_eq dX10_list_13 (by decide)) <|
  .cons (ix_s_aload_n dX10_list_16 rfl) <|
  .cons (ix_s_iconst dX10_list_17 (by decide +kernel)) <|
  .cons (oc_X10_error_s (ix_s_callv (t := 9) (k_X10_error l) (by decide) (by decide) tw_295 tw_1 tw_292 tw_294 tp_0 ⟨by decide, by decide, by decide +kernel⟩ (by decide) rfl rfl (fun _ => ⟨_, _, rfl, rfl⟩) dX10_list_18)) <|
  .cons (ix_s_iret dX10_list_21 rfl) <|
  .cons (ix_s_aload_n dX10_list_22 rfl) <|
  .cons (ix_s_getr (j := 0) tu_X10 rfl (by decide) (by decide) tw_251 rfl ts_9_0_r dX10_list_23) <|
  .cons (ix_s_getr (j := 0) tu_X6 rfl (by decide) (by decide) tw_138 rfl ts_5_0_r dX10_list_26) <|
  .cons (ix_s_getr (j := 2) tu_X9 rfl (by decide) (by decide) tw_45 rfl ts_8_2_r dX10_list_29) <|
  .cons (ix_s_iload_n dX10_list_32 rfl) <|
  .cons (ix_s_iload_n dX10_list_33 rfl) <|
  .cons (oc_X10_exchange_s (ix_s_calls (k_X10_exchange l) (by decide) (by decide) tw_299 tw_1 tw_297 tw_298 ⟨by decide, by decide, by decide +kernel⟩ (fun _ => rfl) dX10_list_34)) <|
  .cons (ix_s_iret dX10_list_37 rfl) <| .nil
theorem e_X10_list_0 (Q : ix_R → Prop) (ls : ix_L) (st : List ix_V) (μ : ix_M) : ix_Ev o_X10_list Q (0, ls, st, μ) = ix_iload 1 1 (ix_Ev o_X10_list Q) Q ls st μ := ix_Ev.eq (a_X10_list launch0) rfl ls st μ
theorem e_X10_list_1 (Q : ix_R → Prop) (ls : ix_L) (st : List ix_V) (μ : ix_M) : ix_Ev o_X10_list Q (1, ls, st, μ) = ix_push (vi 5) 2 (ix_Ev o_X10_list Q) Q ls st μ := ix_Ev.eq (a_X10_list launch0) rfl ls st μ
theorem e_X10_list_2 (Q : ix_R → Prop) (ls : ix_L) (st : List ix_V) (μ : ix_M) : ix_Ev o_X10_list Q (2, ls, st, μ) = oc_X10_outside 5 (ix_Ev o_X10_list Q) Q ls st μ := ix_Ev.eq (a_X10_list launch0) rfl ls st μ
theorem e_X10_list_5 (Q : ix_R → Prop) (ls : ix_L) (st : List ix_V) (μ : ix_M) : ix_Ev o_X10_list Q (5, ls, st, μ) = ix_if (fun x => x = 0) 8 16 (ix_Ev o_X10_list Q) Q ls st μ := ix_Ev.eq (a_X10_list launch0) rfl ls st μ
theorem e_X10_list_8 (Q : ix_R → Prop) (ls : ix_L) (st : List ix_V) (μ : ix_M) : ix_Ev o_X10_list Q (8, ls, st, μ) = ix_iload 2 9 (ix_Ev o_X10_list Q) Q ls st μ := ix_Ev.eq (a_X10_list launch0) rfl ls st μ
theorem e_X10_list_9 (Q : ix_R → Prop) (ls : ix_L) (st : List ix_V) (μ : ix_M) : ix_Ev o_X10_list Q (9, ls, st, μ) = ix_push (vi 4) 10 (ix_Ev o_X10_list Q) Q ls st μ := ix_Ev.eq (a_X10_list launch0) rfl ls st μ
theorem e_X10_list_10 (Q : ix_R → Prop) (ls : ix_L) (st : List ix_V) (μ : ix_M) : ix_Ev o_X10_list Q (10, ls, st, μ) = oc_X10_outside 13 (ix_Ev o_X10_list Q) Q ls st μ := ix_Ev.eq (a_X10_list launch0) rfl ls st μ
theorem e_X10_list_13 (Q : ix_R → Prop) (ls : ix_L) (st : List ix_V) (μ : ix_M) : ix_Ev o_X10_list Q (13, ls, st, μ) = ix_if (fun x => x = 0) 22 16 (ix_Ev o_X10_list Q) Q ls st μ := ix_Ev.eq (a_X10_list launch0) rfl ls st μ
theorem e_X10_list_16 (Q : ix_R → Prop) (ls : ix_L) (st : List ix_V) (μ : ix_M) : ix_Ev o_X10_list Q (16, ls, st, μ) = ix_aload 0 17 (ix_Ev o_X10_list Q) Q ls st μ := ix_Ev.eq (a_X10_list launch0) rfl ls st μ
theorem e_X10_list_17 (Q : ix_R → Prop) (ls : ix_L) (st : List ix_V) (μ : ix_M) : ix_Ev o_X10_list Q (17, ls, st, μ) = ix_push (vi 1) 18 (ix_Ev o_X10_list Q) Q ls st μ := ix_Ev.eq (a_X10_list launch0) rfl ls st μ
theorem e_X10_list_18 (Q : ix_R → Prop) (ls : ix_L) (st : List ix_V) (μ : ix_M) : ix_Ev o_X10_list Q (18, ls, st, μ) = oc_X10_error 21 (ix_Ev o_X10_list Q) Q ls st μ := ix_Ev.eq (a_X10_list launch0) rfl ls st μ
theorem e_X10_list_21 (Q : ix_R → Prop) (ls : ix_L) (st : List ix_V) (μ : ix_M) : ix_Ev o_X10_list Q (21, ls, st, μ) = ix_iret (ix_Ev o_X10_list Q) Q ls st μ := ix_Ev.eq (a_X10_list launch0) rfl ls st μ
theorem e_X10_list_22 (Q : ix_R → Prop) (ls : ix_L) (st : List ix_V) (μ : ix_M) : ix_Ev o_X10_list Q (22, ls, st, μ) = ix_aload 0 23 (ix_Ev o_X10_list Q) Q ls st μ := ix_Ev.eq (a_X10_list launch0) rfl ls st μ
theorem e_X10_list_23 (Q : ix_R → Prop) (ls : ix_L) (st : List ix_V) (μ : ix_M) : ix_Ev o_X10_list Q (23, ls, st, μ) = ix_getr 9 5 (fun _ => 1) 26 (ix_Ev o_X10_list Q) Q ls st μ := ix_Ev.eq (a_X10_list launch0) rfl ls st μ
theorem e_X10_list_26 (Q : ix_R → Prop) (ls : ix_L) (st : List ix_V) (μ : ix_M) : ix_Ev o_X10_list Q (26, ls, st, μ) = ix_getr 5 8 (fun k => k + 1) 29 (ix_Ev o_X10_list Q) Q ls st μ := ix_Ev.eq (a_X10_list launch0) rfl ls st μ
theorem e_X10_list_29 (Q : ix_R → Prop) (ls : ix_L) (st : List ix_V) (μ : ix_M) : ix_Ev o_X10_list Q (29, ls, st, μ) = ix_getr 8 20 (fun k => k + 3) 32 (ix_Ev o_X10_list Q) Q ls st μ := ix_Ev.eq (a_X10_list launch0) rfl ls st μ
theorem e_X10_list_32 (Q : ix_R → Prop) (ls : ix_L) (st : List ix_V) (μ : ix_M) : ix_Ev o_X10_list Q (32, ls, st, μ) = ix_iload 1 33 (ix_Ev o_X10_list Q) Q ls st μ := ix_Ev.eq (a_X10_list launch0) rfl ls st μ
theorem e_X10_list_33 (Q : ix_R → Prop) (ls : ix_L) (st : List ix_V) (μ : ix_M) : ix_Ev o_X10_list Q (33, ls, st, μ) = ix_iload 2 34 (ix_Ev o_X10_list Q) Q ls st μ := ix_Ev.eq (a_X10_list launch0) rfl ls st μ
theorem e_X10_list_34 (Q : ix_R → Prop) (ls : ix_L) (st : List ix_V) (μ : ix_M) : ix_Ev o_X10_list Q (34, ls, st, μ) = oc_X10_exchange 37 (ix_Ev o_X10_list Q) Q ls st μ := ix_Ev.eq (a_X10_list launch0) rfl ls st μ
theorem e_X10_list_37 (Q : ix_R → Prop) (ls : ix_L) (st : List ix_V) (μ : ix_M) : ix_Ev o_X10_list Q (37, ls, st, μ) = ix_iret (ix_Ev o_X10_list Q) Q ls st μ := ix_Ev.eq (a_X10_list launch0) rfl ls st μ
def o_X11_list : List (Nat × ix_Op) := [
  (0, ix_iload 1 1),
  (1, oc_X11_isPlace 4),
  (4, ix_if (fun x => x = 0) 28 7),
  (7, ix_iload 2 8),
  (8, ix_push (vi 0) 9),
  (9, ix_push (vi 4) 10),
  (10, oc_X11_within 13),
  (13, ix_if (fun x => x = 0) 28 16),
  (16, ix_aload 0 17),
  (17, ix_push (vi 6) 19),
  (19, ix_iload 1 20),
  (20, ix_bin (fun x y => x + y) 21),
  (21, ix_iload 2 22),
  (22, oc_X11_turn 25),
  (25, ix_goto 34),
  (28, ix_aload 0 29),
  (29, ix_push (vi (-1000000001)) 31),
  (31, oc_X11_finding 34),
  (34, ix_iret)]
set_option maxRecDepth 20000 in
theorem a_X11_list (l : Launch) : ix_AllS l cX11_list 3 RX11 20 (some .int) o_X11_list :=
  .cons (ix_s_iload_n dX11_list_0 rfl) <|
  .cons (oc_X11_isPlace_s (ix_s_calls (k_X11_isPlace l) (by decide) (by decide) tw_1097 tw_12 tw_1095 tw_1096 ⟨by decide, by decide, by decide +kernel⟩ (fun _ => rfl) dX11_list_1)) <|
  .cons (ix_s_if_eq dX11_list_4 (by decide)) <|
  .cons (ix_s_iload_n dX11_list_7 rfl) <|
  .cons (ix_s_iconst dX11_list_8 (by decide +kernel)) <|
  .cons (ix_s_iconst dX11_list_9 (by decide +kernel)) <|
  .cons (oc_X11_within_s (ix_s_calls (k_X11_within l) (by decide) (by decide) tw_960 tw_12 tw_958 tw_959 ⟨by decide, by decide, by decide +kernel⟩ (fun _ => rfl) dX11_list_10)) <|
  .cons (ix_s_if_eq dX11_list_13 (by decide)) <|
  .cons (ix_s_aload_n dX11_list_16 rfl) <|
  .cons (ix_s_bipush dX11_list_17 (by decide +kernel)) <|
  .cons (ix_s_iload_n dX11_list_19 rfl) <|
  .cons (ix_s_iadd dX11_list_20) <|
  .cons (ix_s_iload_n dX11_list_21 rfl) <|
  .cons (oc_X11_turn_s (ix_s_callv (t := 10) (k_X11_turn l) (by decide) (by decide) tw_1071 tw_12 tw_1068 tw_1070 tp_32 ⟨by decide, by decide, by decide +kernel⟩ (by decide) rfl rfl (fun _ => ⟨_, _, rfl, rfl⟩) dX11_list_22)) <|
  .cons (ix_s_goto dX11_list_25 (by decide)) <|
  .cons (ix_s_aload_n dX11_list_28 rfl) <|
  .cons (ix_s_ldc tw_961 dX11_list_29) <|
  .cons (oc_X11_finding_s (ix_s_callv (t := 10) (k_X11_finding l) (by decide) (by decide) tw_965 tw_12 tw_962 tw_964 tp_18 ⟨by decide, by decide, by decide +kernel⟩ (by decide) rfl rfl (fun _ => ⟨_, _, rfl, rfl⟩) dX11_list_31)) <|
  .cons (ix_s_iret dX11_list_34 rfl) <| .nil
theorem e_X11_list_0 (Q : ix_R → Prop) (ls : ix_L) (st : List ix_V) (μ : ix_M) : ix_Ev o_X11_list Q (0, ls, st, μ) = ix_iload 1 1 (ix_Ev o_X11_list Q) Q ls st μ := ix_Ev.eq (a_X11_list launch0) rfl ls st μ
theorem e_X11_list_1 (Q : ix_R → Prop) (ls : ix_L) (st : List ix_V) (μ : ix_M) : ix_Ev o_X11_list Q (1, ls, st, μ) = oc_X11_isPlace 4 (ix_Ev o_X11_list Q) Q ls st μ := ix_Ev.eq (a_X11_list launch0) rfl ls st μ
theorem e_X11_list_4 (Q : ix_R → Prop) (ls : ix_L) (st : List ix_V) (μ : ix_M) : ix_Ev o_X11_list Q (4, ls, st, μ) = ix_if (fun x => x = 0) 28 7 (ix_Ev o_X11_list Q) Q ls st μ := ix_Ev.eq (a_X11_list launch0) rfl ls st μ
theorem e_X11_list_7 (Q : ix_R → Prop) (ls : ix_L) (st : List ix_V) (μ : ix_M) : ix_Ev o_X11_list Q (7, ls, st, μ) = ix_iload 2 8 (ix_Ev o_X11_list Q) Q ls st μ := ix_Ev.eq (a_X11_list launch0) rfl ls st μ
theorem e_X11_list_8 (Q : ix_R → Prop) (ls : ix_L) (st : List ix_V) (μ : ix_M) : ix_Ev o_X11_list Q (8, ls, st, μ) = ix_push (vi 0) 9 (ix_Ev o_X11_list Q) Q ls st μ := ix_Ev.eq (a_X11_list launch0) rfl ls st μ
theorem e_X11_list_9 (Q : ix_R → Prop) (ls : ix_L) (st : List ix_V) (μ : ix_M) : ix_Ev o_X11_list Q (9, ls, st, μ) = ix_push (vi 4) 10 (ix_Ev o_X11_list Q) Q ls st μ := ix_Ev.eq (a_X11_list launch0) rfl ls st μ
theorem e_X11_list_10 (Q : ix_R → Prop) (ls : ix_L) (st : List ix_V) (μ : ix_M) : ix_Ev o_X11_list Q (10, ls, st, μ) = oc_X11_within 13 (ix_Ev o_X11_list Q) Q ls st μ := ix_Ev.eq (a_X11_list launch0) rfl ls st μ
theorem e_X11_list_13 (Q : ix_R → Prop) (ls : ix_L) (st : List ix_V) (μ : ix_M) : ix_Ev o_X11_list Q (13, ls, st, μ) = ix_if (fun x => x = 0) 28 16 (ix_Ev o_X11_list Q) Q ls st μ := ix_Ev.eq (a_X11_list launch0) rfl ls st μ
theorem e_X11_list_16 (Q : ix_R → Prop) (ls : ix_L) (st : List ix_V) (μ : ix_M) : ix_Ev o_X11_list Q (16, ls, st, μ) = ix_aload 0 17 (ix_Ev o_X11_list Q) Q ls st μ := ix_Ev.eq (a_X11_list launch0) rfl ls st μ
theorem e_X11_list_17 (Q : ix_R → Prop) (ls : ix_L) (st : List ix_V) (μ : ix_M) : ix_Ev o_X11_list Q (17, ls, st, μ) = ix_push (vi 6) 19 (ix_Ev o_X11_list Q) Q ls st μ := ix_Ev.eq (a_X11_list launch0) rfl ls st μ
theorem e_X11_list_19 (Q : ix_R → Prop) (ls : ix_L) (st : List ix_V) (μ : ix_M) : ix_Ev o_X11_list Q (19, ls, st, μ) = ix_iload 1 20 (ix_Ev o_X11_list Q) Q ls st μ := ix_Ev.eq (a_X11_list launch0) rfl ls st μ
theorem e_X11_list_20 (Q : ix_R → Prop) (ls : ix_L) (st : List ix_V) (μ : ix_M) : ix_Ev o_X11_list Q (20, ls, st, μ) = ix_bin (fun x y => x + y) 21 (ix_Ev o_X11_list Q) Q ls st μ := ix_Ev.eq (a_X11_list launch0) rfl ls st μ
theorem e_X11_list_21 (Q : ix_R → Prop) (ls : ix_L) (st : List ix_V) (μ : ix_M) : ix_Ev o_X11_list Q (21, ls, st, μ) = ix_iload 2 22 (ix_Ev o_X11_list Q) Q ls st μ := ix_Ev.eq (a_X11_list launch0) rfl ls st μ
theorem e_X11_list_22 (Q : ix_R → Prop) (ls : ix_L) (st : List ix_V) (μ : ix_M) : ix_Ev o_X11_list Q (22, ls, st, μ) = oc_X11_turn 25 (ix_Ev o_X11_list Q) Q ls st μ := ix_Ev.eq (a_X11_list launch0) rfl ls st μ
theorem e_X11_list_25 (Q : ix_R → Prop) (ls : ix_L) (st : List ix_V) (μ : ix_M) : ix_Ev o_X11_list Q (25, ls, st, μ) = ix_goto 34 (ix_Ev o_X11_list Q) Q ls st μ := ix_Ev.eq (a_X11_list launch0) rfl ls st μ
theorem e_X11_list_28 (Q : ix_R → Prop) (ls : ix_L) (st : List ix_V) (μ : ix_M) : ix_Ev o_X11_list Q (28, ls, st, μ) = ix_aload 0 29 (ix_Ev o_X11_list Q) Q ls st μ := ix_Ev.eq (a_X11_list launch0) rfl ls st μ
theorem e_X11_list_29 (Q : ix_R → Prop) (ls : ix_L) (st : List ix_V) (μ : ix_M) : ix_Ev o_X11_list Q (29, ls, st, μ) = ix_push (vi (-1000000001)) 31 (ix_Ev o_X11_list Q) Q ls st μ := ix_Ev.eq (a_X11_list launch0) rfl ls st μ
theorem e_X11_list_31 (Q : ix_R → Prop) (ls : ix_L) (st : List ix_V) (μ : ix_M) : ix_Ev o_X11_list Q (31, ls, st, μ) = oc_X11_finding 34 (ix_Ev o_X11_list Q) Q ls st μ := ix_Ev.eq (a_X11_list launch0) rfl ls st μ
theorem e_X11_list_34 (Q : ix_R → Prop) (ls : ix_L) (st : List ix_V) (μ : ix_M) : ix_Ev o_X11_list Q (34, ls, st, μ) = ix_iret (ix_Ev o_X11_list Q) Q ls st μ := ix_Ev.eq (a_X11_list launch0) rfl ls st μ
theorem pr_list (p : Int32) (w : Int32) (μ : ix_M) (I : Inv μ) (Q : ix_R → Prop) (hQ : ∀ vv μ', ix_Ev o_X11_list (Pst vv) (0, [some (vr 10 112), some (vi p), some (vi w)], [], μ') → Q (some (vi vv), μ')) : ix_Ev o_X10_list Q (0, [some (vr 9 0), some (vi p), some (vi w)], [], μ) := by
  rcases inR p 5 (by decide) with ⟨P, hP, rfl⟩ | ⟨h1, h2⟩
  · obtain ⟨a1, a2, a3, a4⟩ : ¬ nI P < 0 ∧ ¬ (5 : Int32) < nI P ∧ 0 ≤ nI P ∧ nI P ≤ (5 : Int32) := rgN hP (by decide)
    rcases inR w 4 (by decide) with ⟨W, hW, rfl⟩ | ⟨h1, h2⟩
    · obtain ⟨b1, b2, b3, b4⟩ : ¬ nI W < 0 ∧ ¬ (4 : Int32) < nI W ∧ 0 ≤ nI W ∧ nI W ≤ (4 : Int32) := rgN hW (by decide)
      have e1 : 6 + nI P = nI (6 + P) := nI_add 6 P
      have c1 : (nI P).toNatClampNeg = P := nI_clamp (by omega)
      have c2 : (nI (6 + P)).toNatClampNeg = 6 + P := nI_clamp (by omega)
      have v1 : vp_in (nI P) (ix_len 5) := vp_in_nI (show P < 6 by omega) (by decide)
      have v2 : vp_in (nI (6 + P)) 256 := vp_in_nI (by omega) (by decide)
      simp (decide := true) only [e_X10_list_0, e_X10_list_1, e_X10_list_2, e_X10_list_5, e_X10_list_8, e_X10_list_9, e_X10_list_10, e_X10_list_13, e_X10_list_16, e_X10_list_17, e_X10_list_18, e_X10_list_21, e_X10_list_22, e_X10_list_23, e_X10_list_26, e_X10_list_29, e_X10_list_32, e_X10_list_33, e_X10_list_34, e_X10_list_37, vi, vl, vr, oc_X10_error, T_X10_error, oc_X10_exchange, T_X10_exchange, oc_X10_outside, T_X10_outside, ix_push, ix_iload, ix_lload, ix_aload, ix_istore, ix_astore, ix_iinc, ix_bin, ix_div, ix_un, ix_i2l, ix_l2i, ix_lbin, ix_lsh, ix_lcmp, ix_dup, ix_dup2, ix_pop, ix_if, ix_cmp, ix_goto, ix_switch, ix_sw, ix_iret, ix_zret, ix_vret, ix_aret, ix_geti, ix_getr, ix_puti, ix_putz, ix_puts, ix_gets, ix_iald, ix_iast, ix_alen, ix_aald, ix_gval, ix_gcod, ix_bald, ix_blen, ix_sald, ix_nret, ix_math2, ix_math1, ix_acopy, Nat.add_assoc, Int32.reduceLT, Int32.reduceLE, Int32.reduceToNatClampNeg, Int32.reduceSub, Int32.reduceAdd, Nat.reduceAdd, Nat.reduceLeDiff, true_or, or_true, or_false, false_or, not_false_eq_true, not_true_eq_false, false_implies, true_implies, implies_true, and_self, mB_0, mB_01, Classical.not_not, Nat.zero_le, List.getElem?_cons_zero, List.getElem?_cons_succ, List.set_cons_zero, List.set_cons_succ, ix_nl, ix_cs, true_and, and_true, Option.toList_some, Option.toList_none, List.cons_append, List.nil_append, a1, a2, a3, a4, b1, b2, b3, b4, e1, c1, c2, v1, v2, ix_up_ne, ix_up_k, ve_1, ve_2, ve_3, ve_4, ve_5]
      refine hQ _ _ ?_
      simp (decide := true) only [e_X11_list_0, e_X11_list_1, e_X11_list_4, e_X11_list_7, e_X11_list_8, e_X11_list_9, e_X11_list_10, e_X11_list_13, e_X11_list_16, e_X11_list_17, e_X11_list_19, e_X11_list_20, e_X11_list_21, e_X11_list_22, e_X11_list_25, e_X11_list_28, e_X11_list_29, e_X11_list_31, e_X11_list_34, vi, vl, vr, oc_X11_finding, T_X11_finding, oc_X11_isPlace, T_X11_isPlace, oc_X11_turn, T_X11_turn, oc_X11_within, T_X11_within, ix_push, ix_iload, ix_lload, ix_aload, ix_istore, ix_astore, ix_iinc, ix_bin, ix_div, ix_un, ix_i2l, ix_l2i, ix_lbin, ix_lsh, ix_lcmp, ix_dup, ix_dup2, ix_pop, ix_if, ix_cmp, ix_goto, ix_switch, ix_sw, ix_iret, ix_zret, ix_vret, ix_aret, ix_geti, ix_getr, ix_puti, ix_putz, ix_puts, ix_gets, ix_iald, ix_iast, ix_alen, ix_aald, ix_gval, ix_gcod, ix_bald, ix_blen, ix_sald, ix_nret, ix_math2, ix_math1, ix_acopy, ml_113, ml_114, ml_115, ml_116, ml_118, ml_119, ml_120, ml_121, ml_122, ml_123, ml_124, ml_125, ml_126, mv_0, mv_1, mv_2, mv_3, mv_4, mv_5, mB_or, Nat.add_assoc, Int32.reduceLT, Int32.reduceLE, Int32.reduceToNatClampNeg, Int32.reduceSub, Int32.reduceAdd, Nat.reduceAdd, Nat.reduceLeDiff, true_or, or_true, or_false, false_or, not_false_eq_true, not_true_eq_false, false_implies, true_implies, implies_true, and_self, mB_0, mB_01, Classical.not_not, Nat.zero_le, List.getElem?_cons_zero, List.getElem?_cons_succ, List.set_cons_zero, List.set_cons_succ, ix_nl, ix_cs, true_and, and_true, Option.toList_some, Option.toList_none, List.cons_append, List.nil_append, a1, a2, a3, a4, b1, b2, b3, b4, e1, c1, c2, v1, v2, ix_up_ne, ix_up_k, ve_1, ve_2, ve_3, ve_4, ve_5]
      exact ⟨by rw [I.w3 (by omega)], I.set (r := 3) (wok_3 (by omega)) (by unfold wrB; omega) rfl rfl rfl⟩
    · have h1 : w < 0 ∨ (4 : Int32) < w := h1
      have h2 : ¬ (0 ≤ w ∧ w ≤ (4 : Int32)) := h2
      simp (decide := true) only [e_X10_list_0, e_X10_list_1, e_X10_list_2, e_X10_list_5, e_X10_list_8, e_X10_list_9, e_X10_list_10, e_X10_list_13, e_X10_list_16, e_X10_list_17, e_X10_list_18, e_X10_list_21, e_X10_list_22, e_X10_list_23, e_X10_list_26, e_X10_list_29, e_X10_list_32, e_X10_list_33, e_X10_list_34, e_X10_list_37, vi, vl, vr, oc_X10_error, T_X10_error, oc_X10_exchange, T_X10_exchange, oc_X10_outside, T_X10_outside, ix_push, ix_iload, ix_lload, ix_aload, ix_istore, ix_astore, ix_iinc, ix_bin, ix_div, ix_un, ix_i2l, ix_l2i, ix_lbin, ix_lsh, ix_lcmp, ix_dup, ix_dup2, ix_pop, ix_if, ix_cmp, ix_goto, ix_switch, ix_sw, ix_iret, ix_zret, ix_vret, ix_aret, ix_geti, ix_getr, ix_puti, ix_putz, ix_puts, ix_gets, ix_iald, ix_iast, ix_alen, ix_aald, ix_gval, ix_gcod, ix_bald, ix_blen, ix_sald, ix_nret, ix_math2, ix_math1, ix_acopy, Nat.add_assoc, Int32.reduceLT, Int32.reduceLE, Int32.reduceToNatClampNeg, Int32.reduceSub, Int32.reduceAdd, Nat.reduceAdd, Nat.reduceLeDiff, true_or, or_true, or_false, false_or, not_false_eq_true, not_true_eq_false, false_implies, true_implies, implies_true, and_self, mB_0, mB_01, Classical.not_not, Nat.zero_le, List.getElem?_cons_zero, List.getElem?_cons_succ, List.set_cons_zero, List.set_cons_succ, ix_nl, ix_cs, true_and, and_true, Option.toList_some, Option.toList_none, List.cons_append, List.nil_append, a1, a2, a3, a4, h1, h2, ix_up_ne, ix_up_k, ve_1, ve_2, ve_3, ve_4, ve_5]
      refine hQ _ _ ?_
      simp (decide := true) only [e_X11_list_0, e_X11_list_1, e_X11_list_4, e_X11_list_7, e_X11_list_8, e_X11_list_9, e_X11_list_10, e_X11_list_13, e_X11_list_16, e_X11_list_17, e_X11_list_19, e_X11_list_20, e_X11_list_21, e_X11_list_22, e_X11_list_25, e_X11_list_28, e_X11_list_29, e_X11_list_31, e_X11_list_34, vi, vl, vr, oc_X11_finding, T_X11_finding, oc_X11_isPlace, T_X11_isPlace, oc_X11_turn, T_X11_turn, oc_X11_within, T_X11_within, ix_push, ix_iload, ix_lload, ix_aload, ix_istore, ix_astore, ix_iinc, ix_bin, ix_div, ix_un, ix_i2l, ix_l2i, ix_lbin, ix_lsh, ix_lcmp, ix_dup, ix_dup2, ix_pop, ix_if, ix_cmp, ix_goto, ix_switch, ix_sw, ix_iret, ix_zret, ix_vret, ix_aret, ix_geti, ix_getr, ix_puti, ix_putz, ix_puts, ix_gets, ix_iald, ix_iast, ix_alen, ix_aald, ix_gval, ix_gcod, ix_bald, ix_blen, ix_sald, ix_nret, ix_math2, ix_math1, ix_acopy, ml_113, ml_114, ml_115, ml_116, ml_118, ml_119, ml_120, ml_121, ml_122, ml_123, ml_124, ml_125, ml_126, mv_0, mv_1, mv_2, mv_3, mv_4, mv_5, mB_or, Nat.add_assoc, Int32.reduceLT, Int32.reduceLE, Int32.reduceToNatClampNeg, Int32.reduceSub, Int32.reduceAdd, Nat.reduceAdd, Nat.reduceLeDiff, true_or, or_true, or_false, false_or, not_false_eq_true, not_true_eq_false, false_implies, true_implies, implies_true, and_self, mB_0, mB_01, Classical.not_not, Nat.zero_le, List.getElem?_cons_zero, List.getElem?_cons_succ, List.set_cons_zero, List.set_cons_succ, ix_nl, ix_cs, true_and, and_true, Option.toList_some, Option.toList_none, List.cons_append, List.nil_append, a1, a2, a3, a4, h1, h2, ix_up_ne, ix_up_k, ve_1, ve_2, ve_3, ve_4, ve_5]
      repeat' (first | exact I.er 1 (by decide) | refine ⟨fun _ => ?_, fun _ => ?_⟩)
  · have h1 : p < 0 ∨ (5 : Int32) < p := h1
    have h2 : ¬ (0 ≤ p ∧ p ≤ (5 : Int32)) := h2
    simp (decide := true) only [e_X10_list_0, e_X10_list_1, e_X10_list_2, e_X10_list_5, e_X10_list_8, e_X10_list_9, e_X10_list_10, e_X10_list_13, e_X10_list_16, e_X10_list_17, e_X10_list_18, e_X10_list_21, e_X10_list_22, e_X10_list_23, e_X10_list_26, e_X10_list_29, e_X10_list_32, e_X10_list_33, e_X10_list_34, e_X10_list_37, vi, vl, vr, oc_X10_error, T_X10_error, oc_X10_exchange, T_X10_exchange, oc_X10_outside, T_X10_outside, ix_push, ix_iload, ix_lload, ix_aload, ix_istore, ix_astore, ix_iinc, ix_bin, ix_div, ix_un, ix_i2l, ix_l2i, ix_lbin, ix_lsh, ix_lcmp, ix_dup, ix_dup2, ix_pop, ix_if, ix_cmp, ix_goto, ix_switch, ix_sw, ix_iret, ix_zret, ix_vret, ix_aret, ix_geti, ix_getr, ix_puti, ix_putz, ix_puts, ix_gets, ix_iald, ix_iast, ix_alen, ix_aald, ix_gval, ix_gcod, ix_bald, ix_blen, ix_sald, ix_nret, ix_math2, ix_math1, ix_acopy, Nat.add_assoc, Int32.reduceLT, Int32.reduceLE, Int32.reduceToNatClampNeg, Int32.reduceSub, Int32.reduceAdd, Nat.reduceAdd, Nat.reduceLeDiff, true_or, or_true, or_false, false_or, not_false_eq_true, not_true_eq_false, false_implies, true_implies, implies_true, and_self, mB_0, mB_01, Classical.not_not, Nat.zero_le, List.getElem?_cons_zero, List.getElem?_cons_succ, List.set_cons_zero, List.set_cons_succ, ix_nl, ix_cs, true_and, and_true, Option.toList_some, Option.toList_none, List.cons_append, List.nil_append, h1, h2, ix_up_ne, ix_up_k, ve_1, ve_2, ve_3, ve_4, ve_5]
    refine hQ _ _ ?_
    simp (decide := true) only [e_X11_list_0, e_X11_list_1, e_X11_list_4, e_X11_list_7, e_X11_list_8, e_X11_list_9, e_X11_list_10, e_X11_list_13, e_X11_list_16, e_X11_list_17, e_X11_list_19, e_X11_list_20, e_X11_list_21, e_X11_list_22, e_X11_list_25, e_X11_list_28, e_X11_list_29, e_X11_list_31, e_X11_list_34, vi, vl, vr, oc_X11_finding, T_X11_finding, oc_X11_isPlace, T_X11_isPlace, oc_X11_turn, T_X11_turn, oc_X11_within, T_X11_within, ix_push, ix_iload, ix_lload, ix_aload, ix_istore, ix_astore, ix_iinc, ix_bin, ix_div, ix_un, ix_i2l, ix_l2i, ix_lbin, ix_lsh, ix_lcmp, ix_dup, ix_dup2, ix_pop, ix_if, ix_cmp, ix_goto, ix_switch, ix_sw, ix_iret, ix_zret, ix_vret, ix_aret, ix_geti, ix_getr, ix_puti, ix_putz, ix_puts, ix_gets, ix_iald, ix_iast, ix_alen, ix_aald, ix_gval, ix_gcod, ix_bald, ix_blen, ix_sald, ix_nret, ix_math2, ix_math1, ix_acopy, ml_113, ml_114, ml_115, ml_116, ml_118, ml_119, ml_120, ml_121, ml_122, ml_123, ml_124, ml_125, ml_126, mv_0, mv_1, mv_2, mv_3, mv_4, mv_5, mB_or, Nat.add_assoc, Int32.reduceLT, Int32.reduceLE, Int32.reduceToNatClampNeg, Int32.reduceSub, Int32.reduceAdd, Nat.reduceAdd, Nat.reduceLeDiff, true_or, or_true, or_false, false_or, not_false_eq_true, not_true_eq_false, false_implies, true_implies, implies_true, and_self, mB_0, mB_01, Classical.not_not, Nat.zero_le, List.getElem?_cons_zero, List.getElem?_cons_succ, List.set_cons_zero, List.set_cons_succ, ix_nl, ix_cs, true_and, and_true, Option.toList_some, Option.toList_none, List.cons_append, List.nil_append, h1, h2, ix_up_ne, ix_up_k, ve_1, ve_2, ve_3, ve_4, ve_5]
    repeat' (first | exact I.er 1 (by decide) | refine ⟨fun _ => ?_, fun _ => ?_⟩)
