/-! ===== the model: areServed ===== -/
theorem mMax_toInt (x y : Int32) : (mMax x y).toInt = max x.toInt y.toInt := by
  unfold mMax
  by_cases h : x < y
  · rw [if_pos h]
    rw [fa_lt] at h
    omega
  · rw [if_neg h]
    rw [fa_lt] at h
    omega
/-- what the model's row of boats comes to -/
def nF (sv : Nat → Int32) (wa : Int32) (ba : Nat → Int32) (t N : Nat) (n : Nat) : Int32 := match n with
  | 0 => 0
  | n + 1 => if n < N ∧ fr t n = true then mMax (nF sv wa ba t N n) (mMin wa (ba n) + sv (t + 2 ^ n)) else nF sv wa ba t N n
theorem nF_from {sv : Nat → Int32} {wa : Int32} {ba : Nat → Int32} {t N : Nat} (h0 : 0 ≤ (sv t).toInt) : ∀ n, n ≤ N → (mFrom sv wa ba t n).toInt = max (nF sv wa ba t N n).toInt (sv t).toInt
  | 0, _ => by
    show (sv t).toInt = max ((0 : Int32).toInt) (sv t).toInt
    have : (0 : Int32).toInt = 0 := rfl
    omega
  | n + 1, h => by
    have ih := nF_from (wa := wa) (ba := ba) (N := N) h0 n (by omega)
    unfold mFrom nF
    by_cases c : fr t n = true
    · rw [if_pos c, if_pos ⟨by omega, c⟩, mMax_toInt, mMax_toInt, ih]
      omega
    · rw [if_neg c, if_neg (fun z => c z.2), ih]
theorem nF_up {sv : Nat → Int32} {wa : Int32} {ba : Nat → Int32} {t N : Nat} : ∀ k, nF sv wa ba t N (N + k) = nF sv wa ba t N N
  | 0 => rfl
  | k + 1 => by
    show nF sv wa ba t N (N + k + 1) = _
    rw [nF, if_neg (fun z => absurd z.1 (by omega)), nF_up k]
theorem nF_eq {sv : Nat → Int32} {wa : Int32} {ba : Nat → Int32} {t N : Nat} (hN : N ≤ 8) (h0 : 0 ≤ (sv t).toInt) : mMax (nF sv wa ba t N 8) (sv t) = mFrom sv wa ba t N := by
  rw [fa_eq, mMax_toInt, show 8 = N + (8 - N) by omega, nF_up, nF_from h0 N (Nat.le_refl _)]
theorem mFrom_ge {sv : Nat → Int32} {wa : Int32} {ba : Nat → Int32} {t : Nat} : ∀ n, (sv t).toInt ≤ (mFrom sv wa ba t n).toInt
  | 0 => Int.le_refl _
  | n + 1 => by
    have := mFrom_ge (sv := sv) (wa := wa) (ba := ba) (t := t) n
    unfold mFrom
    split
    · rw [mMax_toInt]
      omega
    · exact this
theorem svD_pos (wa ba : Nat → Int32) (n : Nat) : ∀ (k t : Nat), 0 ≤ (svD wa ba n k t).toInt
  | 0, _ => by
    show 0 ≤ (0 : Int32).toInt
    decide
  | k + 1, t => Int.le_trans (svD_pos wa ba n k t) (mFrom_ge n)
abbrev mWa (f : Nat → Int32) : Nat → Int32 := fun w => f (12 + w)
abbrev mBa (f : Nat → Int32) : Nat → Int32 := fun b => f (53 + 4 * b)
def T_X11_areServed : Nat → ix_M → (ix_R → Prop) → Prop := fun _ μ Q => ∃ N : Nat, μ 113 1 = nI N ∧ N ≤ 8 ∧ (∀ t, t < 256 → μ 121 (1536 + t) = 0) ∧ ∀ μ', Fx [121] μ μ' → (∀ k, k ≤ 6 → ∀ t, t < 2 ^ N → μ' 121 (256 * (6 - k) + t) = svD (mWa (μ 113)) (mBa (μ 113)) N k t) → (∀ t, t < 256 → μ' 121 (1536 + t) = 0) → Q (none, μ')
def sh_X11_areServed (x : Nat) : List ix_V := [vr 10 x]
theorem mo_X11_areServed (x : Nat) (μ : ix_M) (Q Q' : ix_R → Prop) (h : ∀ r, Q r → Q' r) (hT : T_X11_areServed x μ Q) : T_X11_areServed x μ Q' := by
  (obtain ⟨N, h1, h2, h3, h4⟩ := hT; exact ⟨N, h1, h2, h3, fun μ' a b c => h _ (h4 μ' a b c)⟩)
def oc_X11_areServed (n : Nat) : ix_Op := fun k _ ls st μ => match st with
  | .inr (.inr (t0, a0)) :: r => t0 = 10 ∧ ix_cs r ≤ 8 ∧ T_X11_areServed a0 μ (fun q => k (n, ls, q.1.toList ++ r, q.2))
  | _ => False
theorem oc_X11_areServed_s {l : Launch} {cc : ByteArray} {nL : Nat} {own : String} {d : Nat} {rt : Option FieldType} {pc n : Nat} (h : ix_S l cc nL own d rt pc (ix_call 1 sh_X11_areServed T_X11_areServed n)) : ix_S l cc nL own d rt pc (oc_X11_areServed n) := by
  refine h.by (fun k Q ls st μ h => ?_) (fun k k' Q ls st μ hk h => ?_)
  · unfold oc_X11_areServed at h
    split at h
    · rename_i t0 a0 r
      obtain ⟨rfl, h1, h2⟩ := h
      exact ⟨h1, a0, rfl, _, h2, fun r h => h⟩
    · exact h.elim
  · unfold oc_X11_areServed at h ⊢
    split at h
    · obtain ⟨rfl, h1, h2⟩ := h
      exact ⟨rfl, h1, mo_X11_areServed _ _ _ _ (fun q hq => hk _ hq) h2⟩
    · exact h.elim
def o_X11_areServed : List (Nat × ix_Op) := [
  (0, ix_push (vi 5) 1),
  (1, ix_istore 1 2),
  (2, ix_iload 1 3),
  (3, ix_if (fun x => x < 0) 90 6),
  (6, ix_push (vi 0) 7),
  (7, ix_istore 2 8),
  (8, ix_iload 2 9),
  (9, ix_push (vi 1) 10),
  (10, ix_aload 0 11),
  (11, ix_getr 10 20 (fun _ => 113) 14),
  (14, ix_push (vi 1) 15),
  (15, ix_iald 16),
  (16, ix_bin (fun x y => x <<< (y &&& 31)) 17),
  (17, ix_cmp (fun x y => y ≤ x) 84 20),
  (20, ix_push (vi 0) 21),
  (21, ix_istore 3 22),
  (22, ix_push (vi 0) 23),
  (23, ix_istore 4 25),
  (25, ix_iload 4 27),
  (27, ix_push (vi 8) 29),
  (29, ix_cmp (fun x y => y < x) 65 32),
  (32, ix_aload 0 33),
  (33, ix_iload 2 34),
  (34, ix_iload 4 36),
  (36, oc_X11_mayHave 39),
  (39, ix_if (fun x => x = 0) 57 42),
  (42, ix_iload 3 43),
  (43, ix_aload 0 44),
  (44, ix_iload 1 45),
  (45, ix_iload 2 46),
  (46, ix_iload 4 48),
  (48, oc_X11_servedWith 51),
  (51, ix_math2 (fun x y => if x < y then y else x) 54),
  (54, ix_goto 58),
  (57, ix_iload 3 58),
  (58, ix_istore 3 59),
  (59, ix_iinc 4 1 62),
  (62, ix_goto 25),
  (65, ix_aload 0 66),
  (66, ix_getr 10 20 (fun _ => 121) 69),
  (69, ix_push (vi 256) 72),
  (72, ix_iload 1 73),
  (73, ix_bin (fun x y => x * y) 74),
  (74, ix_iload 2 75),
  (75, ix_bin (fun x y => x + y) 76),
  (76, ix_iload 3 77),
  (77, ix_iast 78),
  (78, ix_iinc 2 1 81),
  (81, ix_goto 8),
  (84, ix_iinc 1 (-1) 87),
  (87, ix_goto 2),
  (90, ix_vret)]
set_option maxRecDepth 20000 in
theorem a_X11_areServed (l : Launch) : ix_AllS l cX11_areServed 5 RX11 5 none o_X11_areServed :=
  .cons (ix_s_iconst dX11_areServed_0 (by decide +kernel)) <|
  .cons (ix_s_istore_n dX11_areServed_1 rfl (by decide)) <|
  .cons (ix_s_iload_n dX11_areServed_2 rfl) <|
  .cons (ix_s_if_lt dX11_areServed_3 (by decide)) <|
  .cons (ix_s_iconst dX11_areServed_6 (by decide +kernel)) <|
  .cons (ix_s_istore_n dX11_areServed_7 rfl (by decide)) <|
  .cons (ix_s_iload_n dX11_areServed_8 rfl) <|
  .cons (ix_s_iconst dX11_areServed_9 (by decide +kernel)) <|
  .cons (ix_s_aload_n dX11_areServed_10 rfl) <|
  .cons (ix_s_getr (j := 0) tu_X11 rfl (by decide) (by decide) tw_875 rfl ts_10_0_r dX11_areServed_11) <|
  .cons (ix_s_iconst dX11_areServed_14 (by decide +kernel)) <|
  .cons (ix_s_iald dX11_areServed_15) <|
  .cons (ix_s_ishl dX11_areServed_16) <|
  .cons (ix_s_cmp_ge dX11_areServed_17 (by decide)) <|
  .cons (ix_s_iconst dX11_areServed_20 (by decide +kernel)) <|
  .cons (ix_s_istore_n dX11_areServed_21 rfl (by decide)) <|
  .cons (ix_s_iconst dX11_areServed_22 (by decide +kernel)) <|
  .cons (ix_s_istore dX11_areServed_23 (by decide)) <|
  .cons (ix_s_iload dX11_areServed_25) <|
  .cons (ix_s_bipush dX11_areServed_27 (by decide +kernel)) <|
  .cons (ix_s_cmp_gt dX11_areServed_29 (by decide)) <|
  .cons (ix_s_aload_n dX11_areServed_32 rfl) <|
  .cons (ix_s_iload_n dX11_areServed_33 rfl) <|
  .cons (ix_s_iload dX11_areServed_34) <|
  .cons (oc_X11_mayHave_s (ix_s_callv (t := 10) (k_X11_mayHave l) (by decide) (by decide) tw_1285 tw_12 tw_1282 tw_1284 tp_55 ⟨by decide, by decide, by decide +kernel⟩ (by decide) rfl rfl (fun _ => ⟨_, _, rfl, rfl⟩) dX11_areServed_36)) <|
  .cons (ix_s_if_eq dX11_areServed_39 (by decide)) <|
  .cons (ix_s_iload_n dX11_areServed_42 rfl) <|
  .cons (ix_s_aload_n dX11_areServed_43 rfl) <|
  .cons (ix_s_iload_n dX11_areServed_44 rfl) <|
  .cons (ix_s_iload_n dX11_areServed_45 rfl) <|
  .cons (ix_s_iload dX11_areServed_46) <|
  .cons (oc_X11_servedWith_s (ix_s_callv (t := 10) (k_X11_servedWith l) (by decide) (by decide) tw_1289 tw_12 tw_1286 tw_1288 tp_56 ⟨by decide, by decide, by decide +kernel⟩ (by decide) rfl rfl (fun _ => ⟨_, _, rfl, rfl⟩) dX11_areServed_48)) <|
  .cons (ix_s_mmax tw_1057 tw_103 tw_7 tw_104 (by decide) dX11_areServed_51) <|
  .cons (ix_s_goto dX11_areServed_54 (by decide)) <|
  .cons (ix_s_iload_n dX11_areServed_57 rfl) <|
  .cons (ix_s_istore_n dX11_areServed_58 rfl (by decide)) <|
  .cons (ix_s_iinc dX11_areServed_59 (by decide +kernel) (by decide)) <|
  .cons (ix_s_goto dX11_areServed_62 (by decide)) <|
  .cons (ix_s_aload_n dX11_areServed_65 rfl) <|
  .cons (ix_s_getr (j := 16) tu_X11 rfl (by decide) (by decide) tw_891 rfl ts_10_16_r dX11_areServed_66) <|
  .cons (ix_s_sipush dX11_areServed_69 (by decide +kernel)) <|
  .cons (ix_s_iload_n dX11_areServed_72 rfl) <|
  .cons (ix_s_imul dX11_areServed_73) <|
  .cons (ix_s_iload_n dX11_areServed_74 rfl) <|
  .cons (ix_s_iadd dX11_areServed_75) <|
  .cons (ix_s_iload_n dX11_areServed_76 rfl) <|
  .cons (ix_s_iast dX11_areServed_77) <|
  .cons (ix_s_iinc dX11_areServed_78 (by decide +kernel) (by decide)) <|
  .cons (ix_s_goto dX11_areServed_81 (by decide)) <|
  .cons (ix_s_iinc dX11_areServed_84 (by decide +kernel) (by decide)) <|
  .cons (ix_s_goto dX11_areServed_87 (by decide)) <|
  .cons (ix_s_vret dX11_areServed_90 rfl) <| .nil
theorem e_X11_areServed_0 (Q : ix_R → Prop) (ls : ix_L) (st : List ix_V) (μ : ix_M) : ix_Ev o_X11_areServed Q (0, ls, st, μ) = ix_push (vi 5) 1 (ix_Ev o_X11_areServed Q) Q ls st μ := ix_Ev.eq (a_X11_areServed launch0) rfl ls st μ
theorem e_X11_areServed_1 (Q : ix_R → Prop) (ls : ix_L) (st : List ix_V) (μ : ix_M) : ix_Ev o_X11_areServed Q (1, ls, st, μ) = ix_istore 1 2 (ix_Ev o_X11_areServed Q) Q ls st μ := ix_Ev.eq (a_X11_areServed launch0) rfl ls st μ
theorem e_X11_areServed_2 (Q : ix_R → Prop) (ls : ix_L) (st : List ix_V) (μ : ix_M) : ix_Ev o_X11_areServed Q (2, ls, st, μ) = ix_iload 1 3 (ix_Ev o_X11_areServed Q) Q ls st μ := ix_Ev.eq (a_X11_areServed launch0) rfl ls st μ
theorem e_X11_areServed_3 (Q : ix_R → Prop) (ls : ix_L) (st : List ix_V) (μ : ix_M) : ix_Ev o_X11_areServed Q (3, ls, st, μ) = ix_if (fun x => x < 0) 90 6 (ix_Ev o_X11_areServed Q) Q ls st μ := ix_Ev.eq (a_X11_areServed launch0) rfl ls st μ
theorem e_X11_areServed_6 (Q : ix_R → Prop) (ls : ix_L) (st : List ix_V) (μ : ix_M) : ix_Ev o_X11_areServed Q (6, ls, st, μ) = ix_push (vi 0) 7 (ix_Ev o_X11_areServed Q) Q ls st μ := ix_Ev.eq (a_X11_areServed launch0) rfl ls st μ
theorem e_X11_areServed_7 (Q : ix_R → Prop) (ls : ix_L) (st : List ix_V) (μ : ix_M) : ix_Ev o_X11_areServed Q (7, ls, st, μ) = ix_istore 2 8 (ix_Ev o_X11_areServed Q) Q ls st μ := ix_Ev.eq (a_X11_areServed launch0) rfl ls st μ
theorem e_X11_areServed_8 (Q : ix_R → Prop) (ls : ix_L) (st : List ix_V) (μ : ix_M) : ix_Ev o_X11_areServed Q (8, ls, st, μ) = ix_iload 2 9 (ix_Ev o_X11_areServed Q) Q ls st μ := ix_Ev.eq (a_X11_areServed launch0) rfl ls st μ
theorem e_X11_areServed_9 (Q : ix_R → Prop) (ls : ix_L) (st : List ix_V) (μ : ix_M) : ix_Ev o_X11_areServed Q (9, ls, st, μ) = ix_push (vi 1) 10 (ix_Ev o_X11_areServed Q) Q ls st μ := ix_Ev.eq (a_X11_areServed launch0) rfl ls st μ
theorem e_X11_areServed_10 (Q : ix_R → Prop) (ls : ix_L) (st : List ix_V) (μ : ix_M) : ix_Ev o_X11_areServed Q (10, ls, st, μ) = ix_aload 0 11 (ix_Ev o_X11_areServed Q) Q ls st μ := ix_Ev.eq (a_X11_areServed launch0) rfl ls st μ
theorem e_X11_areServed_11 (Q : ix_R → Prop) (ls : ix_L) (st : List ix_V) (μ : ix_M) : ix_Ev o_X11_areServed Q (11, ls, st, μ) = ix_getr 10 20 (fun _ => 113) 14 (ix_Ev o_X11_areServed Q) Q ls st μ := ix_Ev.eq (a_X11_areServed launch0) rfl ls st μ
theorem e_X11_areServed_14 (Q : ix_R → Prop) (ls : ix_L) (st : List ix_V) (μ : ix_M) : ix_Ev o_X11_areServed Q (14, ls, st, μ) = ix_push (vi 1) 15 (ix_Ev o_X11_areServed Q) Q ls st μ := ix_Ev.eq (a_X11_areServed launch0) rfl ls st μ
theorem e_X11_areServed_15 (Q : ix_R → Prop) (ls : ix_L) (st : List ix_V) (μ : ix_M) : ix_Ev o_X11_areServed Q (15, ls, st, μ) = ix_iald 16 (ix_Ev o_X11_areServed Q) Q ls st μ := ix_Ev.eq (a_X11_areServed launch0) rfl ls st μ
theorem e_X11_areServed_16 (Q : ix_R → Prop) (ls : ix_L) (st : List ix_V) (μ : ix_M) : ix_Ev o_X11_areServed Q (16, ls, st, μ) = ix_bin (fun x y => x <<< (y &&& 31)) 17 (ix_Ev o_X11_areServed Q) Q ls st μ := ix_Ev.eq (a_X11_areServed launch0) rfl ls st μ
theorem e_X11_areServed_17 (Q : ix_R → Prop) (ls : ix_L) (st : List ix_V) (μ : ix_M) : ix_Ev o_X11_areServed Q (17, ls, st, μ) = ix_cmp (fun x y => y ≤ x) 84 20 (ix_Ev o_X11_areServed Q) Q ls st μ := ix_Ev.eq (a_X11_areServed launch0) rfl ls st μ
theorem e_X11_areServed_20 (Q : ix_R → Prop) (ls : ix_L) (st : List ix_V) (μ : ix_M) : ix_Ev o_X11_areServed Q (20, ls, st, μ) = ix_push (vi 0) 21 (ix_Ev o_X11_areServed Q) Q ls st μ := ix_Ev.eq (a_X11_areServed launch0) rfl ls st μ
theorem e_X11_areServed_21 (Q : ix_R → Prop) (ls : ix_L) (st : List ix_V) (μ : ix_M) : ix_Ev o_X11_areServed Q (21, ls, st, μ) = ix_istore 3 22 (ix_Ev o_X11_areServed Q) Q ls st μ := ix_Ev.eq (a_X11_areServed launch0) rfl ls st μ
theorem e_X11_areServed_22 (Q : ix_R → Prop) (ls : ix_L) (st : List ix_V) (μ : ix_M) : ix_Ev o_X11_areServed Q (22, ls, st, μ) = ix_push (vi 0) 23 (ix_Ev o_X11_areServed Q) Q ls st μ := ix_Ev.eq (a_X11_areServed launch0) rfl ls st μ
theorem e_X11_areServed_23 (Q : ix_R → Prop) (ls : ix_L) (st : List ix_V) (μ : ix_M) : ix_Ev o_X11_areServed Q (23, ls, st, μ) = ix_istore 4 25 (ix_Ev o_X11_areServed Q) Q ls st μ := ix_Ev.eq (a_X11_areServed launch0) rfl ls st μ
theorem e_X11_areServed_25 (Q : ix_R → Prop) (ls : ix_L) (st : List ix_V) (μ : ix_M) : ix_Ev o_X11_areServed Q (25, ls, st, μ) = ix_iload 4 27 (ix_Ev o_X11_areServed Q) Q ls st μ := ix_Ev.eq (a_X11_areServed launch0) rfl ls st μ
theorem e_X11_areServed_27 (Q : ix_R → Prop) (ls : ix_L) (st : List ix_V) (μ : ix_M) : ix_Ev o_X11_areServed Q (27, ls, st, μ) = ix_push (vi 8) 29 (ix_Ev o_X11_areServed Q) Q ls st μ := ix_Ev.eq (a_X11_areServed launch0) rfl ls st μ
theorem e_X11_areServed_29 (Q : ix_R → Prop) (ls : ix_L) (st : List ix_V) (μ : ix_M) : ix_Ev o_X11_areServed Q (29, ls, st, μ) = ix_cmp (fun x y => y < x) 65 32 (ix_Ev o_X11_areServed Q) Q ls st μ := ix_Ev.eq (a_X11_areServed launch0) rfl ls st μ
theorem e_X11_areServed_32 (Q : ix_R → Prop) (ls : ix_L) (st : List ix_V) (μ : ix_M) : ix_Ev o_X11_areServed Q (32, ls, st, μ) = ix_aload 0 33 (ix_Ev o_X11_areServed Q) Q ls st μ := ix_Ev.eq (a_X11_areServed launch0) rfl ls st μ
theorem e_X11_areServed_33 (Q : ix_R → Prop) (ls : ix_L) (st : List ix_V) (μ : ix_M) : ix_Ev o_X11_areServed Q (33, ls, st, μ) = ix_iload 2 34 (ix_Ev o_X11_areServed Q) Q ls st μ := ix_Ev.eq (a_X11_areServed launch0) rfl ls st μ
theorem e_X11_areServed_34 (Q : ix_R → Prop) (ls : ix_L) (st : List ix_V) (μ : ix_M) : ix_Ev o_X11_areServed Q (34, ls, st, μ) = ix_iload 4 36 (ix_Ev o_X11_areServed Q) Q ls st μ := ix_Ev.eq (a_X11_areServed launch0) rfl ls st μ
theorem e_X11_areServed_36 (Q : ix_R → Prop) (ls : ix_L) (st : List ix_V) (μ : ix_M) : ix_Ev o_X11_areServed Q (36, ls, st, μ) = oc_X11_mayHave 39 (ix_Ev o_X11_areServed Q) Q ls st μ := ix_Ev.eq (a_X11_areServed launch0) rfl ls st μ
theorem e_X11_areServed_39 (Q : ix_R → Prop) (ls : ix_L) (st : List ix_V) (μ : ix_M) : ix_Ev o_X11_areServed Q (39, ls, st, μ) = ix_if (fun x => x = 0) 57 42 (ix_Ev o_X11_areServed Q) Q ls st μ := ix_Ev.eq (a_X11_areServed launch0) rfl ls st μ
theorem e_X11_areServed_42 (Q : ix_R → Prop) (ls : ix_L) (st : List ix_V) (μ : ix_M) : ix_Ev o_X11_areServed Q (42, ls, st, μ) = ix_iload 3 43 (ix_Ev o_X11_areServed Q) Q ls st μ := ix_Ev.eq (a_X11_areServed launch0) rfl ls st μ
theorem e_X11_areServed_43 (Q : ix_R → Prop) (ls : ix_L) (st : List ix_V) (μ : ix_M) : ix_Ev o_X11_areServed Q (43, ls, st, μ) = ix_aload 0 44 (ix_Ev o_X11_areServed Q) Q ls st μ := ix_Ev.eq (a_X11_areServed launch0) rfl ls st μ
theorem e_X11_areServed_44 (Q : ix_R → Prop) (ls : ix_L) (st : List ix_V) (μ : ix_M) : ix_Ev o_X11_areServed Q (44, ls, st, μ) = ix_iload 1 45 (ix_Ev o_X11_areServed Q) Q ls st μ := ix_Ev.eq (a_X11_areServed launch0) rfl ls st μ
theorem e_X11_areServed_45 (Q : ix_R → Prop) (ls : ix_L) (st : List ix_V) (μ : ix_M) : ix_Ev o_X11_areServed Q (45, ls, st, μ) = ix_iload 2 46 (ix_Ev o_X11_areServed Q) Q ls st μ := ix_Ev.eq (a_X11_areServed launch0) rfl ls st μ
theorem e_X11_areServed_46 (Q : ix_R → Prop) (ls : ix_L) (st : List ix_V) (μ : ix_M) : ix_Ev o_X11_areServed Q (46, ls, st, μ) = ix_iload 4 48 (ix_Ev o_X11_areServed Q) Q ls st μ := ix_Ev.eq (a_X11_areServed launch0) rfl ls st μ
theorem e_X11_areServed_48 (Q : ix_R → Prop) (ls : ix_L) (st : List ix_V) (μ : ix_M) : ix_Ev o_X11_areServed Q (48, ls, st, μ) = oc_X11_servedWith 51 (ix_Ev o_X11_areServed Q) Q ls st μ := ix_Ev.eq (a_X11_areServed launch0) rfl ls st μ
theorem e_X11_areServed_51 (Q : ix_R → Prop) (ls : ix_L) (st : List ix_V) (μ : ix_M) : ix_Ev o_X11_areServed Q (51, ls, st, μ) = ix_math2 (fun x y => if x < y then y else x) 54 (ix_Ev o_X11_areServed Q) Q ls st μ := ix_Ev.eq (a_X11_areServed launch0) rfl ls st μ
theorem e_X11_areServed_54 (Q : ix_R → Prop) (ls : ix_L) (st : List ix_V) (μ : ix_M) : ix_Ev o_X11_areServed Q (54, ls, st, μ) = ix_goto 58 (ix_Ev o_X11_areServed Q) Q ls st μ := ix_Ev.eq (a_X11_areServed launch0) rfl ls st μ
theorem e_X11_areServed_57 (Q : ix_R → Prop) (ls : ix_L) (st : List ix_V) (μ : ix_M) : ix_Ev o_X11_areServed Q (57, ls, st, μ) = ix_iload 3 58 (ix_Ev o_X11_areServed Q) Q ls st μ := ix_Ev.eq (a_X11_areServed launch0) rfl ls st μ
theorem e_X11_areServed_58 (Q : ix_R → Prop) (ls : ix_L) (st : List ix_V) (μ : ix_M) : ix_Ev o_X11_areServed Q (58, ls, st, μ) = ix_istore 3 59 (ix_Ev o_X11_areServed Q) Q ls st μ := ix_Ev.eq (a_X11_areServed launch0) rfl ls st μ
theorem e_X11_areServed_59 (Q : ix_R → Prop) (ls : ix_L) (st : List ix_V) (μ : ix_M) : ix_Ev o_X11_areServed Q (59, ls, st, μ) = ix_iinc 4 1 62 (ix_Ev o_X11_areServed Q) Q ls st μ := ix_Ev.eq (a_X11_areServed launch0) rfl ls st μ
theorem e_X11_areServed_62 (Q : ix_R → Prop) (ls : ix_L) (st : List ix_V) (μ : ix_M) : ix_Ev o_X11_areServed Q (62, ls, st, μ) = ix_goto 25 (ix_Ev o_X11_areServed Q) Q ls st μ := ix_Ev.eq (a_X11_areServed launch0) rfl ls st μ
theorem e_X11_areServed_65 (Q : ix_R → Prop) (ls : ix_L) (st : List ix_V) (μ : ix_M) : ix_Ev o_X11_areServed Q (65, ls, st, μ) = ix_aload 0 66 (ix_Ev o_X11_areServed Q) Q ls st μ := ix_Ev.eq (a_X11_areServed launch0) rfl ls st μ
theorem e_X11_areServed_66 (Q : ix_R → Prop) (ls : ix_L) (st : List ix_V) (μ : ix_M) : ix_Ev o_X11_areServed Q (66, ls, st, μ) = ix_getr 10 20 (fun _ => 121) 69 (ix_Ev o_X11_areServed Q) Q ls st μ := ix_Ev.eq (a_X11_areServed launch0) rfl ls st μ
theorem e_X11_areServed_69 (Q : ix_R → Prop) (ls : ix_L) (st : List ix_V) (μ : ix_M) : ix_Ev o_X11_areServed Q (69, ls, st, μ) = ix_push (vi 256) 72 (ix_Ev o_X11_areServed Q) Q ls st μ := ix_Ev.eq (a_X11_areServed launch0) rfl ls st μ
theorem e_X11_areServed_72 (Q : ix_R → Prop) (ls : ix_L) (st : List ix_V) (μ : ix_M) : ix_Ev o_X11_areServed Q (72, ls, st, μ) = ix_iload 1 73 (ix_Ev o_X11_areServed Q) Q ls st μ := ix_Ev.eq (a_X11_areServed launch0) rfl ls st μ
theorem e_X11_areServed_73 (Q : ix_R → Prop) (ls : ix_L) (st : List ix_V) (μ : ix_M) : ix_Ev o_X11_areServed Q (73, ls, st, μ) = ix_bin (fun x y => x * y) 74 (ix_Ev o_X11_areServed Q) Q ls st μ := ix_Ev.eq (a_X11_areServed launch0) rfl ls st μ
theorem e_X11_areServed_74 (Q : ix_R → Prop) (ls : ix_L) (st : List ix_V) (μ : ix_M) : ix_Ev o_X11_areServed Q (74, ls, st, μ) = ix_iload 2 75 (ix_Ev o_X11_areServed Q) Q ls st μ := ix_Ev.eq (a_X11_areServed launch0) rfl ls st μ
theorem e_X11_areServed_75 (Q : ix_R → Prop) (ls : ix_L) (st : List ix_V) (μ : ix_M) : ix_Ev o_X11_areServed Q (75, ls, st, μ) = ix_bin (fun x y => x + y) 76 (ix_Ev o_X11_areServed Q) Q ls st μ := ix_Ev.eq (a_X11_areServed launch0) rfl ls st μ
theorem e_X11_areServed_76 (Q : ix_R → Prop) (ls : ix_L) (st : List ix_V) (μ : ix_M) : ix_Ev o_X11_areServed Q (76, ls, st, μ) = ix_iload 3 77 (ix_Ev o_X11_areServed Q) Q ls st μ := ix_Ev.eq (a_X11_areServed launch0) rfl ls st μ
theorem e_X11_areServed_77 (Q : ix_R → Prop) (ls : ix_L) (st : List ix_V) (μ : ix_M) : ix_Ev o_X11_areServed Q (77, ls, st, μ) = ix_iast 78 (ix_Ev o_X11_areServed Q) Q ls st μ := ix_Ev.eq (a_X11_areServed launch0) rfl ls st μ
theorem e_X11_areServed_78 (Q : ix_R → Prop) (ls : ix_L) (st : List ix_V) (μ : ix_M) : ix_Ev o_X11_areServed Q (78, ls, st, μ) = ix_iinc 2 1 81 (ix_Ev o_X11_areServed Q) Q ls st μ := ix_Ev.eq (a_X11_areServed launch0) rfl ls st μ
theorem e_X11_areServed_81 (Q : ix_R → Prop) (ls : ix_L) (st : List ix_V) (μ : ix_M) : ix_Ev o_X11_areServed Q (81, ls, st, μ) = ix_goto 8 (ix_Ev o_X11_areServed Q) Q ls st μ := ix_Ev.eq (a_X11_areServed launch0) rfl ls st μ
theorem e_X11_areServed_84 (Q : ix_R → Prop) (ls : ix_L) (st : List ix_V) (μ : ix_M) : ix_Ev o_X11_areServed Q (84, ls, st, μ) = ix_iinc 1 (-1) 87 (ix_Ev o_X11_areServed Q) Q ls st μ := ix_Ev.eq (a_X11_areServed launch0) rfl ls st μ
theorem e_X11_areServed_87 (Q : ix_R → Prop) (ls : ix_L) (st : List ix_V) (μ : ix_M) : ix_Ev o_X11_areServed Q (87, ls, st, μ) = ix_goto 2 (ix_Ev o_X11_areServed Q) Q ls st μ := ix_Ev.eq (a_X11_areServed launch0) rfl ls st μ
theorem e_X11_areServed_90 (Q : ix_R → Prop) (ls : ix_L) (st : List ix_V) (μ : ix_M) : ix_Ev o_X11_areServed Q (90, ls, st, μ) = ix_vret (ix_Ev o_X11_areServed Q) Q ls st μ := ix_Ev.eq (a_X11_areServed launch0) rfl ls st μ
theorem l3_X11_areServed {N W T : Nat} {μ1 : ix_M} {Q : ix_R → Prop} (hN : N ≤ 8) (hn : μ1 113 1 = nI N) (hW : W < 6) (hT : T < 2 ^ N) {sv : Nat → Int32} (hsv : sv = fun x => μ1 121 (256 * (W + 1) + x)) (h0 : 0 ≤ (sv T).toInt)
    (K : ∀ x4, ix_Ev o_X11_areServed Q (8, [some (vr 10 112), some (vi (nI W)), some (vi (nI (T + 1))), some (vi (mFrom sv (μ1 113 (12 + W)) (mBa (μ1 113)) T N)), x4], [], ix_up μ1 121 (256 * W + T) (mFrom sv (μ1 113 (12 + W)) (mBa (μ1 113)) T N))) :
    ∀ (j i : Nat), i + j = 8 → ix_Ev o_X11_areServed Q (25, [some (vr 10 112), some (vi (nI W)), some (vi (nI T)), some (vi (nF sv (μ1 113 (12 + W)) (mBa (μ1 113)) T N i)), some (vi (nI i))], [], μ1) := by
  have h256 := p2le N hN
  intro j
  induction j with
  | zero =>
    intro i hi
    have hi : i = 8 := hi
    subst hi
    have hb : nI 8 = 8 := rfl
    have hx : 256 * nI W + nI T = nI (256 * W + T) := by rw [fa_lit 256, show nI 256 * nI W = nI (256 * W) from (Int32.ofNat_mul 256 W).symm, nI_add]
    have c1 : (nI (256 * W + T)).toNatClampNeg = 256 * W + T := nI_clamp (by omega)
    have i1 : vp_in (nI (256 * W + T)) 1792 := vp_in_nI (by omega) (by decide)
    have hT1 : nI T + 1 = nI (T + 1) := nI_1 T
    rw [e_X11_areServed_25]
    simp (decide := true) only [e_X11_areServed_0, e_X11_areServed_1, e_X11_areServed_3, e_X11_areServed_6, e_X11_areServed_7, e_X11_areServed_9, e_X11_areServed_10, e_X11_areServed_11, e_X11_areServed_14, e_X11_areServed_15, e_X11_areServed_16, e_X11_areServed_17, e_X11_areServed_20, e_X11_areServed_21, e_X11_areServed_22, e_X11_areServed_23, e_X11_areServed_27, e_X11_areServed_29, e_X11_areServed_32, e_X11_areServed_33, e_X11_areServed_34, e_X11_areServed_36, e_X11_areServed_39, e_X11_areServed_42, e_X11_areServed_43, e_X11_areServed_44, e_X11_areServed_45, e_X11_areServed_46, e_X11_areServed_48, e_X11_areServed_51, e_X11_areServed_54, e_X11_areServed_57, e_X11_areServed_58, e_X11_areServed_59, e_X11_areServed_62, e_X11_areServed_65, e_X11_areServed_66, e_X11_areServed_69, e_X11_areServed_72, e_X11_areServed_73, e_X11_areServed_74, e_X11_areServed_75, e_X11_areServed_76, e_X11_areServed_77, e_X11_areServed_78, e_X11_areServed_81, e_X11_areServed_84, e_X11_areServed_87, e_X11_areServed_90, vi, vl, vr, oc_X11_mayHave, T_X11_mayHave, oc_X11_servedWith, T_X11_servedWith, ix_push, ix_iload, ix_lload, ix_aload, ix_istore, ix_astore, ix_iinc, ix_bin, ix_div, ix_un, ix_i2l, ix_l2i, ix_lbin, ix_lsh, ix_lcmp, ix_dup, ix_dup2, ix_pop, ix_if, ix_cmp, ix_goto, ix_switch, ix_sw, ix_iret, ix_zret, ix_vret, ix_aret, ix_geti, ix_getr, ix_puti, ix_putz, ix_puts, ix_gets, ix_iald, ix_iast, ix_alen, ix_aald, ix_gval, ix_gcod, ix_bald, ix_blen, ix_sald, ix_nret, ix_math2, ix_math1, ix_acopy, ml_113, ml_114, ml_115, ml_116, ml_118, ml_119, ml_120, ml_121, ml_122, ml_123, ml_124, ml_125, ml_126, mv_0, mv_1, mv_2, mv_3, mv_4, mv_5, mB_or, Nat.add_assoc, Int32.reduceLT, Int32.reduceLE, Int32.reduceToNatClampNeg, Int32.reduceSub, Int32.reduceAdd, Nat.reduceAdd, Nat.reduceLeDiff, true_or, or_true, or_false, false_or, not_false_eq_true, not_true_eq_false, false_implies, true_implies, implies_true, and_self, mB_0, mB_01, Classical.not_not, Nat.zero_le, List.getElem?_cons_zero, List.getElem?_cons_succ, List.set_cons_zero, List.set_cons_succ, ix_nl, ix_cs, true_and, and_true, Option.toList_some, Option.toList_none, List.cons_append, List.nil_append, hb]
    refine ⟨W, T, 8, rfl, hW, rfl, by omega, rfl, Nat.le_refl _, fun z => absurd z (by decide), ?_⟩
    rw [e_X11_areServed_25]
    simp (decide := true) only [e_X11_areServed_0, e_X11_areServed_1, e_X11_areServed_3, e_X11_areServed_6, e_X11_areServed_7, e_X11_areServed_9, e_X11_areServed_10, e_X11_areServed_11, e_X11_areServed_14, e_X11_areServed_15, e_X11_areServed_16, e_X11_areServed_17, e_X11_areServed_20, e_X11_areServed_21, e_X11_areServed_22, e_X11_areServed_23, e_X11_areServed_27, e_X11_areServed_29, e_X11_areServed_32, e_X11_areServed_33, e_X11_areServed_34, e_X11_areServed_36, e_X11_areServed_39, e_X11_areServed_42, e_X11_areServed_43, e_X11_areServed_44, e_X11_areServed_45, e_X11_areServed_46, e_X11_areServed_48, e_X11_areServed_51, e_X11_areServed_54, e_X11_areServed_57, e_X11_areServed_58, e_X11_areServed_59, e_X11_areServed_62, e_X11_areServed_65, e_X11_areServed_66, e_X11_areServed_69, e_X11_areServed_72, e_X11_areServed_73, e_X11_areServed_74, e_X11_areServed_75, e_X11_areServed_76, e_X11_areServed_77, e_X11_areServed_78, e_X11_areServed_81, e_X11_areServed_84, e_X11_areServed_87, e_X11_areServed_90, vi, vl, vr, oc_X11_mayHave, T_X11_mayHave, oc_X11_servedWith, T_X11_servedWith, ix_push, ix_iload, ix_lload, ix_aload, ix_istore, ix_astore, ix_iinc, ix_bin, ix_div, ix_un, ix_i2l, ix_l2i, ix_lbin, ix_lsh, ix_lcmp, ix_dup, ix_dup2, ix_pop, ix_if, ix_cmp, ix_goto, ix_switch, ix_sw, ix_iret, ix_zret, ix_vret, ix_aret, ix_geti, ix_getr, ix_puti, ix_putz, ix_puts, ix_gets, ix_iald, ix_iast, ix_alen, ix_aald, ix_gval, ix_gcod, ix_bald, ix_blen, ix_sald, ix_nret, ix_math2, ix_math1, ix_acopy, ml_113, ml_114, ml_115, ml_116, ml_118, ml_119, ml_120, ml_121, ml_122, ml_123, ml_124, ml_125, ml_126, mv_0, mv_1, mv_2, mv_3, mv_4, mv_5, mB_or, Nat.add_assoc, Int32.reduceLT, Int32.reduceLE, Int32.reduceToNatClampNeg, Int32.reduceSub, Int32.reduceAdd, Nat.reduceAdd, Nat.reduceLeDiff, true_or, or_true, or_false, false_or, not_false_eq_true, not_true_eq_false, false_implies, true_implies, implies_true, and_self, mB_0, mB_01, Classical.not_not, Nat.zero_le, List.getElem?_cons_zero, List.getElem?_cons_succ, List.set_cons_zero, List.set_cons_succ, ix_nl, ix_cs, true_and, and_true, Option.toList_some, Option.toList_none, List.cons_append, List.nil_append, hx, c1, i1, hT1]
    have e : (if nF sv (μ1 113 (12 + W)) (mBa (μ1 113)) T N 8 < μ1 121 (256 * (W + 1) + T) then μ1 121 (256 * (W + 1) + T) else nF sv (μ1 113 (12 + W)) (mBa (μ1 113)) T N 8) = mFrom sv (μ1 113 (12 + W)) (mBa (μ1 113)) T N := by
      have := nF_eq (wa := μ1 113 (12 + W)) (ba := mBa (μ1 113)) hN h0
      rw [← this, hsv]
      rfl
    simp only [if_true, e]
    exact K _
  | succ j ih =>
    intro i hi
    have hg : ¬ (8 : Int32) < nI i := by
      rw [fa_lit 8]
      exact nI_nlt (by omega) (by omega)
    have h8 : ¬ nI i = 8 := fun z => absurd ((nI_eq (b := 8) (by omega) (by decide)).mp z) (by omega)
    have hi1 : nI i + 1 = nI (i + 1) := nI_1 i
    have hfr : (nI T >>> (nI i &&& 31)) &&& 1 = 0 ↔ fr T i = true := mFree_nI (by omega) (by omega)
    have hlt : nI i < nI N ↔ i < N := nI_ltI (by omega) (by omega)
    rw [e_X11_areServed_25]
    simp (decide := true) only [e_X11_areServed_0, e_X11_areServed_1, e_X11_areServed_3, e_X11_areServed_6, e_X11_areServed_7, e_X11_areServed_9, e_X11_areServed_10, e_X11_areServed_11, e_X11_areServed_14, e_X11_areServed_15, e_X11_areServed_16, e_X11_areServed_17, e_X11_areServed_20, e_X11_areServed_21, e_X11_areServed_22, e_X11_areServed_23, e_X11_areServed_27, e_X11_areServed_29, e_X11_areServed_32, e_X11_areServed_33, e_X11_areServed_34, e_X11_areServed_36, e_X11_areServed_39, e_X11_areServed_42, e_X11_areServed_43, e_X11_areServed_44, e_X11_areServed_45, e_X11_areServed_46, e_X11_areServed_48, e_X11_areServed_51, e_X11_areServed_54, e_X11_areServed_57, e_X11_areServed_58, e_X11_areServed_59, e_X11_areServed_62, e_X11_areServed_65, e_X11_areServed_66, e_X11_areServed_69, e_X11_areServed_72, e_X11_areServed_73, e_X11_areServed_74, e_X11_areServed_75, e_X11_areServed_76, e_X11_areServed_77, e_X11_areServed_78, e_X11_areServed_81, e_X11_areServed_84, e_X11_areServed_87, e_X11_areServed_90, vi, vl, vr, oc_X11_mayHave, T_X11_mayHave, oc_X11_servedWith, T_X11_servedWith, ix_push, ix_iload, ix_lload, ix_aload, ix_istore, ix_astore, ix_iinc, ix_bin, ix_div, ix_un, ix_i2l, ix_l2i, ix_lbin, ix_lsh, ix_lcmp, ix_dup, ix_dup2, ix_pop, ix_if, ix_cmp, ix_goto, ix_switch, ix_sw, ix_iret, ix_zret, ix_vret, ix_aret, ix_geti, ix_getr, ix_puti, ix_putz, ix_puts, ix_gets, ix_iald, ix_iast, ix_alen, ix_aald, ix_gval, ix_gcod, ix_bald, ix_blen, ix_sald, ix_nret, ix_math2, ix_math1, ix_acopy, ml_113, ml_114, ml_115, ml_116, ml_118, ml_119, ml_120, ml_121, ml_122, ml_123, ml_124, ml_125, ml_126, mv_0, mv_1, mv_2, mv_3, mv_4, mv_5, mB_or, Nat.add_assoc, Int32.reduceLT, Int32.reduceLE, Int32.reduceToNatClampNeg, Int32.reduceSub, Int32.reduceAdd, Nat.reduceAdd, Nat.reduceLeDiff, true_or, or_true, or_false, false_or, not_false_eq_true, not_true_eq_false, false_implies, true_implies, implies_true, and_self, mB_0, mB_01, Classical.not_not, Nat.zero_le, List.getElem?_cons_zero, List.getElem?_cons_succ, List.set_cons_zero, List.set_cons_succ, ix_nl, ix_cs, true_and, and_true, Option.toList_some, Option.toList_none, List.cons_append, List.nil_append, hg, h8, hi1, hn, hfr, hlt]
    have := ih (i + 1) (by omega)
    refine ⟨fun c => ?_, fun c => ?_⟩
    · rw [nF, if_neg c] at this
      exact this
    · rw [nF, if_pos c] at this
      refine ⟨W, T, i, rfl, hW, rfl, by omega, rfl, by omega, fun _ => c.2, ?_⟩
      simp only [if_neg (show ¬ i = 8 by omega)]
      rw [hsv] at this ⊢
      exact this
def FM (μ μ1 : ix_M) (N k i : Nat) : Prop := Fx [121] μ μ1 ∧ (∀ k', k' ≤ k → ∀ t, t < 2 ^ N → μ1 121 (256 * (6 - k') + t) = svD (mWa (μ 113)) (mBa (μ 113)) N k' t) ∧ (∀ t, t < i → μ1 121 (256 * (6 - (k + 1)) + t) = svD (mWa (μ 113)) (mBa (μ 113)) N (k + 1) t) ∧ ∀ t, t < 256 → μ1 121 (1536 + t) = 0
theorem l2_X11_areServed {N k : Nat} {μ : ix_M} {Q : ix_R → Prop} (hN : N ≤ 8) (hn : μ 113 1 = nI N) (hk : k < 6) (K : ∀ μ1 x2 x3 x4, FM μ μ1 N k (2 ^ N) → ix_Ev o_X11_areServed Q (2, [some (vr 10 112), some (vi (nI (5 - k) + -1)), x2, x3, x4], [], μ1)) : ∀ (j i : Nat) (μ1 : ix_M) (x3 x4 : Option ix_V), i + j = 2 ^ N → FM μ μ1 N k i → ix_Ev o_X11_areServed Q (8, [some (vr 10 112), some (vi (nI (5 - k))), some (vi (nI i)), x3, x4], [], μ1) := by
  have h256 := p2le N hN
  have hs := shl1 N hN
  intro j
  induction j with
  | zero =>
    intro i μ1 x3 x4 hi hI
    have hi : i = 2 ^ N := hi
    subst hi
    have hle : nI (2 ^ N) ≤ nI (2 ^ N) := Int32.le_refl _
    have hb : μ1 113 1 = nI N := by rw [hI.1 113 (by decide)]; exact hn
    rw [e_X11_areServed_8]
    simp (decide := true) only [e_X11_areServed_0, e_X11_areServed_1, e_X11_areServed_3, e_X11_areServed_6, e_X11_areServed_7, e_X11_areServed_9, e_X11_areServed_10, e_X11_areServed_11, e_X11_areServed_14, e_X11_areServed_15, e_X11_areServed_16, e_X11_areServed_17, e_X11_areServed_20, e_X11_areServed_21, e_X11_areServed_22, e_X11_areServed_23, e_X11_areServed_27, e_X11_areServed_29, e_X11_areServed_32, e_X11_areServed_33, e_X11_areServed_34, e_X11_areServed_36, e_X11_areServed_39, e_X11_areServed_42, e_X11_areServed_43, e_X11_areServed_44, e_X11_areServed_45, e_X11_areServed_46, e_X11_areServed_48, e_X11_areServed_51, e_X11_areServed_54, e_X11_areServed_57, e_X11_areServed_58, e_X11_areServed_59, e_X11_areServed_62, e_X11_areServed_65, e_X11_areServed_66, e_X11_areServed_69, e_X11_areServed_72, e_X11_areServed_73, e_X11_areServed_74, e_X11_areServed_75, e_X11_areServed_76, e_X11_areServed_77, e_X11_areServed_78, e_X11_areServed_81, e_X11_areServed_84, e_X11_areServed_87, e_X11_areServed_90, vi, vl, vr, oc_X11_mayHave, T_X11_mayHave, oc_X11_servedWith, T_X11_servedWith, ix_push, ix_iload, ix_lload, ix_aload, ix_istore, ix_astore, ix_iinc, ix_bin, ix_div, ix_un, ix_i2l, ix_l2i, ix_lbin, ix_lsh, ix_lcmp, ix_dup, ix_dup2, ix_pop, ix_if, ix_cmp, ix_goto, ix_switch, ix_sw, ix_iret, ix_zret, ix_vret, ix_aret, ix_geti, ix_getr, ix_puti, ix_putz, ix_puts, ix_gets, ix_iald, ix_iast, ix_alen, ix_aald, ix_gval, ix_gcod, ix_bald, ix_blen, ix_sald, ix_nret, ix_math2, ix_math1, ix_acopy, ml_113, ml_114, ml_115, ml_116, ml_118, ml_119, ml_120, ml_121, ml_122, ml_123, ml_124, ml_125, ml_126, mv_0, mv_1, mv_2, mv_3, mv_4, mv_5, mB_or, Nat.add_assoc, Int32.reduceLT, Int32.reduceLE, Int32.reduceToNatClampNeg, Int32.reduceSub, Int32.reduceAdd, Nat.reduceAdd, Nat.reduceLeDiff, true_or, or_true, or_false, false_or, not_false_eq_true, not_true_eq_false, false_implies, true_implies, implies_true, and_self, mB_0, mB_01, Classical.not_not, Nat.zero_le, List.getElem?_cons_zero, List.getElem?_cons_succ, List.set_cons_zero, List.set_cons_succ, ix_nl, ix_cs, true_and, and_true, Option.toList_some, Option.toList_none, List.cons_append, List.nil_append, hb, hs, hle]
    exact K μ1 _ _ _ hI
  | succ j ih =>
    intro i μ1 x3 x4 hi hI
    have hng : ¬ nI (2 ^ N) ≤ nI i := nI_ge (by omega) (by omega)
    have e113 : μ1 113 = μ 113 := hI.1 113 (by decide)
    have hb : μ1 113 1 = nI N := by rw [e113]; exact hn
    rw [e_X11_areServed_8]
    simp (decide := true) only [e_X11_areServed_0, e_X11_areServed_1, e_X11_areServed_3, e_X11_areServed_6, e_X11_areServed_7, e_X11_areServed_9, e_X11_areServed_10, e_X11_areServed_11, e_X11_areServed_14, e_X11_areServed_15, e_X11_areServed_16, e_X11_areServed_17, e_X11_areServed_20, e_X11_areServed_21, e_X11_areServed_22, e_X11_areServed_23, e_X11_areServed_27, e_X11_areServed_29, e_X11_areServed_32, e_X11_areServed_33, e_X11_areServed_34, e_X11_areServed_36, e_X11_areServed_39, e_X11_areServed_42, e_X11_areServed_43, e_X11_areServed_44, e_X11_areServed_45, e_X11_areServed_46, e_X11_areServed_48, e_X11_areServed_51, e_X11_areServed_54, e_X11_areServed_57, e_X11_areServed_58, e_X11_areServed_59, e_X11_areServed_62, e_X11_areServed_65, e_X11_areServed_66, e_X11_areServed_69, e_X11_areServed_72, e_X11_areServed_73, e_X11_areServed_74, e_X11_areServed_75, e_X11_areServed_76, e_X11_areServed_77, e_X11_areServed_78, e_X11_areServed_81, e_X11_areServed_84, e_X11_areServed_87, e_X11_areServed_90, vi, vl, vr, oc_X11_mayHave, T_X11_mayHave, oc_X11_servedWith, T_X11_servedWith, ix_push, ix_iload, ix_lload, ix_aload, ix_istore, ix_astore, ix_iinc, ix_bin, ix_div, ix_un, ix_i2l, ix_l2i, ix_lbin, ix_lsh, ix_lcmp, ix_dup, ix_dup2, ix_pop, ix_if, ix_cmp, ix_goto, ix_switch, ix_sw, ix_iret, ix_zret, ix_vret, ix_aret, ix_geti, ix_getr, ix_puti, ix_putz, ix_puts, ix_gets, ix_iald, ix_iast, ix_alen, ix_aald, ix_gval, ix_gcod, ix_bald, ix_blen, ix_sald, ix_nret, ix_math2, ix_math1, ix_acopy, ml_113, ml_114, ml_115, ml_116, ml_118, ml_119, ml_120, ml_121, ml_122, ml_123, ml_124, ml_125, ml_126, mv_0, mv_1, mv_2, mv_3, mv_4, mv_5, mB_or, Nat.add_assoc, Int32.reduceLT, Int32.reduceLE, Int32.reduceToNatClampNeg, Int32.reduceSub, Int32.reduceAdd, Nat.reduceAdd, Nat.reduceLeDiff, true_or, or_true, or_false, false_or, not_false_eq_true, not_true_eq_false, false_implies, true_implies, implies_true, and_self, mB_0, mB_01, Classical.not_not, Nat.zero_le, List.getElem?_cons_zero, List.getElem?_cons_succ, List.set_cons_zero, List.set_cons_succ, ix_nl, ix_cs, true_and, and_true, Option.toList_some, Option.toList_none, List.cons_append, List.nil_append, hb, hs, hng]
    have hsv : ∀ x, x < 2 ^ N → μ1 121 (256 * (5 - k + 1) + x) = svD (mWa (μ 113)) (mBa (μ 113)) N k x := fun x hx => by
      rw [← hI.2.1 k (Nat.le_refl _) x hx]
      congr 1
      omega
    refine l3_X11_areServed (W := 5 - k) (T := i) hN hb (by omega) (by omega) rfl (by show 0 ≤ (μ1 121 (256 * (5 - k + 1) + i)).toInt; rw [hsv i (by omega)]; exact svD_pos _ _ _ _ _) (fun x4' => ?_) 8 0 rfl
    have hv : mFrom (fun x => μ1 121 (256 * (5 - k + 1) + x)) (μ1 113 (12 + (5 - k))) (mBa (μ1 113)) i N = svD (mWa (μ 113)) (mBa (μ 113)) N (k + 1) i := by
      rw [e113]
      exact mFrom_cong hN (by omega) hsv N (Nat.le_refl _)
    rw [hv]
    refine ih (i + 1) _ _ _ (by omega) ⟨hI.1.up (by simp), fun k' hk' t ht => ?_, fun t ht => ?_, fun t ht => ?_⟩
    · rw [ix_up_ap, if_neg (by omega)]
      exact hI.2.1 k' hk' t ht
    · rw [ix_up_ap]
      by_cases e : t = i
      · subst e
        rw [if_pos ⟨rfl, by omega⟩]
      · rw [if_neg (by omega)]
        exact hI.2.2.1 t (by omega)
    · rw [ix_up_ap, if_neg (by omega)]
      exact hI.2.2.2 t ht
theorem l1_X11_areServed {N : Nat} {μ : ix_M} {Q : ix_R → Prop} (hN : N ≤ 8) (hn : μ 113 1 = nI N) (hQ : ∀ μ', Fx [121] μ μ' → (∀ k, k ≤ 6 → ∀ t, t < 2 ^ N → μ' 121 (256 * (6 - k) + t) = svD (mWa (μ 113)) (mBa (μ 113)) N k t) → (∀ t, t < 256 → μ' 121 (1536 + t) = 0) → Q (none, μ')) : ∀ (j k : Nat) (μ1 : ix_M) (x2 x3 x4 : Option ix_V), k + j = 6 → FM μ μ1 N k 0 → ∀ w : Int32, w = nI (6 - k) - 1 → ix_Ev o_X11_areServed Q (2, [some (vr 10 112), some (vi w), x2, x3, x4], [], μ1) := by
  intro j
  induction j with
  | zero =>
    intro k μ1 x2 x3 x4 hk hI w hw
    have hk : k = 6 := hk
    subst hk
    have hneg : w < 0 := by rw [hw]; decide
    rw [e_X11_areServed_2]
    simp (decide := true) only [e_X11_areServed_0, e_X11_areServed_1, e_X11_areServed_3, e_X11_areServed_6, e_X11_areServed_7, e_X11_areServed_9, e_X11_areServed_10, e_X11_areServed_11, e_X11_areServed_14, e_X11_areServed_15, e_X11_areServed_16, e_X11_areServed_17, e_X11_areServed_20, e_X11_areServed_21, e_X11_areServed_22, e_X11_areServed_23, e_X11_areServed_27, e_X11_areServed_29, e_X11_areServed_32, e_X11_areServed_33, e_X11_areServed_34, e_X11_areServed_36, e_X11_areServed_39, e_X11_areServed_42, e_X11_areServed_43, e_X11_areServed_44, e_X11_areServed_45, e_X11_areServed_46, e_X11_areServed_48, e_X11_areServed_51, e_X11_areServed_54, e_X11_areServed_57, e_X11_areServed_58, e_X11_areServed_59, e_X11_areServed_62, e_X11_areServed_65, e_X11_areServed_66, e_X11_areServed_69, e_X11_areServed_72, e_X11_areServed_73, e_X11_areServed_74, e_X11_areServed_75, e_X11_areServed_76, e_X11_areServed_77, e_X11_areServed_78, e_X11_areServed_81, e_X11_areServed_84, e_X11_areServed_87, e_X11_areServed_90, vi, vl, vr, oc_X11_mayHave, T_X11_mayHave, oc_X11_servedWith, T_X11_servedWith, ix_push, ix_iload, ix_lload, ix_aload, ix_istore, ix_astore, ix_iinc, ix_bin, ix_div, ix_un, ix_i2l, ix_l2i, ix_lbin, ix_lsh, ix_lcmp, ix_dup, ix_dup2, ix_pop, ix_if, ix_cmp, ix_goto, ix_switch, ix_sw, ix_iret, ix_zret, ix_vret, ix_aret, ix_geti, ix_getr, ix_puti, ix_putz, ix_puts, ix_gets, ix_iald, ix_iast, ix_alen, ix_aald, ix_gval, ix_gcod, ix_bald, ix_blen, ix_sald, ix_nret, ix_math2, ix_math1, ix_acopy, ml_113, ml_114, ml_115, ml_116, ml_118, ml_119, ml_120, ml_121, ml_122, ml_123, ml_124, ml_125, ml_126, mv_0, mv_1, mv_2, mv_3, mv_4, mv_5, mB_or, Nat.add_assoc, Int32.reduceLT, Int32.reduceLE, Int32.reduceToNatClampNeg, Int32.reduceSub, Int32.reduceAdd, Nat.reduceAdd, Nat.reduceLeDiff, true_or, or_true, or_false, false_or, not_false_eq_true, not_true_eq_false, false_implies, true_implies, implies_true, and_self, mB_0, mB_01, Classical.not_not, Nat.zero_le, List.getElem?_cons_zero, List.getElem?_cons_succ, List.set_cons_zero, List.set_cons_succ, ix_nl, ix_cs, true_and, and_true, Option.toList_some, Option.toList_none, List.cons_append, List.nil_append, hneg]
    exact hQ μ1 hI.1 hI.2.1 hI.2.2.2
  | succ j ih =>
    intro k μ1 x2 x3 x4 hk hI w hw
    have hw2 : w = nI (5 - k) := by
      rw [hw, show 6 - k = (5 - k) + 1 by omega]
      exact nI_pred _
    subst hw2
    have hneg : ¬ nI (5 - k) < 0 := nI_pos (by omega)
    rw [e_X11_areServed_2]
    simp (decide := true) only [e_X11_areServed_0, e_X11_areServed_1, e_X11_areServed_3, e_X11_areServed_6, e_X11_areServed_7, e_X11_areServed_9, e_X11_areServed_10, e_X11_areServed_11, e_X11_areServed_14, e_X11_areServed_15, e_X11_areServed_16, e_X11_areServed_17, e_X11_areServed_20, e_X11_areServed_21, e_X11_areServed_22, e_X11_areServed_23, e_X11_areServed_27, e_X11_areServed_29, e_X11_areServed_32, e_X11_areServed_33, e_X11_areServed_34, e_X11_areServed_36, e_X11_areServed_39, e_X11_areServed_42, e_X11_areServed_43, e_X11_areServed_44, e_X11_areServed_45, e_X11_areServed_46, e_X11_areServed_48, e_X11_areServed_51, e_X11_areServed_54, e_X11_areServed_57, e_X11_areServed_58, e_X11_areServed_59, e_X11_areServed_62, e_X11_areServed_65, e_X11_areServed_66, e_X11_areServed_69, e_X11_areServed_72, e_X11_areServed_73, e_X11_areServed_74, e_X11_areServed_75, e_X11_areServed_76, e_X11_areServed_77, e_X11_areServed_78, e_X11_areServed_81, e_X11_areServed_84, e_X11_areServed_87, e_X11_areServed_90, vi, vl, vr, oc_X11_mayHave, T_X11_mayHave, oc_X11_servedWith, T_X11_servedWith, ix_push, ix_iload, ix_lload, ix_aload, ix_istore, ix_astore, ix_iinc, ix_bin, ix_div, ix_un, ix_i2l, ix_l2i, ix_lbin, ix_lsh, ix_lcmp, ix_dup, ix_dup2, ix_pop, ix_if, ix_cmp, ix_goto, ix_switch, ix_sw, ix_iret, ix_zret, ix_vret, ix_aret, ix_geti, ix_getr, ix_puti, ix_putz, ix_puts, ix_gets, ix_iald, ix_iast, ix_alen, ix_aald, ix_gval, ix_gcod, ix_bald, ix_blen, ix_sald, ix_nret, ix_math2, ix_math1, ix_acopy, ml_113, ml_114, ml_115, ml_116, ml_118, ml_119, ml_120, ml_121, ml_122, ml_123, ml_124, ml_125, ml_126, mv_0, mv_1, mv_2, mv_3, mv_4, mv_5, mB_or, Nat.add_assoc, Int32.reduceLT, Int32.reduceLE, Int32.reduceToNatClampNeg, Int32.reduceSub, Int32.reduceAdd, Nat.reduceAdd, Nat.reduceLeDiff, true_or, or_true, or_false, false_or, not_false_eq_true, not_true_eq_false, false_implies, true_implies, implies_true, and_self, mB_0, mB_01, Classical.not_not, Nat.zero_le, List.getElem?_cons_zero, List.getElem?_cons_succ, List.set_cons_zero, List.set_cons_succ, ix_nl, ix_cs, true_and, and_true, Option.toList_some, Option.toList_none, List.cons_append, List.nil_append, hneg]
    refine l2_X11_areServed hN hn (by omega) (fun μ2 x2' x3' x4' hI2 => ?_) (2 ^ N) 0 μ1 _ _ (by omega) hI
    refine ih (k + 1) μ2 x2' x3' x4' (by omega) ⟨hI2.1, fun k' hk' t ht => ?_, fun t ht => absurd ht (by omega), hI2.2.2.2⟩ _ ?_
    · by_cases e : k' = k + 1
      · subst e
        exact hI2.2.2.1 t ht
      · exact hI2.2.1 k' (by omega) t ht
    · rw [show 6 - (k + 1) = 5 - k by omega, Int32.sub_eq_add_neg]
theorem r_X11_areServed (o : Nat) (μ : ix_M) (Q : ix_R → Prop) (ok_o : o < ix_N ∧ ix_tag o = 10) (hT : T_X11_areServed o μ Q) : ix_Ev o_X11_areServed Q (0, [some (vr 10 o), none, none, none, none], [], μ) := by
  obtain rfl := ok_10 o ok_o.1 ok_o.2
  obtain ⟨N, hn, hN, h6, hQ⟩ := hT
  simp (decide := true) only [e_X11_areServed_0, e_X11_areServed_1, e_X11_areServed_3, e_X11_areServed_6, e_X11_areServed_7, e_X11_areServed_9, e_X11_areServed_10, e_X11_areServed_11, e_X11_areServed_14, e_X11_areServed_15, e_X11_areServed_16, e_X11_areServed_17, e_X11_areServed_20, e_X11_areServed_21, e_X11_areServed_22, e_X11_areServed_23, e_X11_areServed_27, e_X11_areServed_29, e_X11_areServed_32, e_X11_areServed_33, e_X11_areServed_34, e_X11_areServed_36, e_X11_areServed_39, e_X11_areServed_42, e_X11_areServed_43, e_X11_areServed_44, e_X11_areServed_45, e_X11_areServed_46, e_X11_areServed_48, e_X11_areServed_51, e_X11_areServed_54, e_X11_areServed_57, e_X11_areServed_58, e_X11_areServed_59, e_X11_areServed_62, e_X11_areServed_65, e_X11_areServed_66, e_X11_areServed_69, e_X11_areServed_72, e_X11_areServed_73, e_X11_areServed_74, e_X11_areServed_75, e_X11_areServed_76, e_X11_areServed_77, e_X11_areServed_78, e_X11_areServed_81, e_X11_areServed_84, e_X11_areServed_87, e_X11_areServed_90, vi, vl, vr, oc_X11_mayHave, T_X11_mayHave, oc_X11_servedWith, T_X11_servedWith, ix_push, ix_iload, ix_lload, ix_aload, ix_istore, ix_astore, ix_iinc, ix_bin, ix_div, ix_un, ix_i2l, ix_l2i, ix_lbin, ix_lsh, ix_lcmp, ix_dup, ix_dup2, ix_pop, ix_if, ix_cmp, ix_goto, ix_switch, ix_sw, ix_iret, ix_zret, ix_vret, ix_aret, ix_geti, ix_getr, ix_puti, ix_putz, ix_puts, ix_gets, ix_iald, ix_iast, ix_alen, ix_aald, ix_gval, ix_gcod, ix_bald, ix_blen, ix_sald, ix_nret, ix_math2, ix_math1, ix_acopy, ml_113, ml_114, ml_115, ml_116, ml_118, ml_119, ml_120, ml_121, ml_122, ml_123, ml_124, ml_125, ml_126, mv_0, mv_1, mv_2, mv_3, mv_4, mv_5, mB_or, Nat.add_assoc, Int32.reduceLT, Int32.reduceLE, Int32.reduceToNatClampNeg, Int32.reduceSub, Int32.reduceAdd, Nat.reduceAdd, Nat.reduceLeDiff, true_or, or_true, or_false, false_or, not_false_eq_true, not_true_eq_false, false_implies, true_implies, implies_true, and_self, mB_0, mB_01, Classical.not_not, Nat.zero_le, List.getElem?_cons_zero, List.getElem?_cons_succ, List.set_cons_zero, List.set_cons_succ, ix_nl, ix_cs, true_and, and_true, Option.toList_some, Option.toList_none, List.cons_append, List.nil_append]
  refine l1_X11_areServed hN hn hQ 6 0 μ none none none rfl ⟨Fx.rf, fun k' hk' t ht => ?_, fun t ht => absurd ht (by omega), h6⟩ 5 rfl
  have : k' = 0 := by omega
  subst this
  exact h6 t (by have := p2le N hN; omega)
theorem k_X11_areServed (l : Launch) : ix_Ct l yX11_areServed cX11_areServed 5 none 5 sh_X11_areServed T_X11_areServed := ix_ct (a_X11_areServed l) rfl (by decide) (fun _ => Nat.le_of_ble_eq_true rfl) (fun x μ Q hok hT => r_X11_areServed x μ Q (ix_ok_at (hok (vr 10 x) (by simp [sh_X11_areServed])) (by decide) (by decide)) hT)
