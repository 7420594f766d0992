/-! ===== Voices ===== -/
def mBody (k a : Int32) : Int32 := if k = 0 then 10 + a else if k = 1 then (if a = 0 then 20 else 0) else if k = 2 then (if a = 1 then 30 else 0) else if k = 3 then (if a = 2 then 40 else 0) else if k = 4 then (if a = 3 then 50 else 0) else if k = 5 then (if a = 1 then 60 else 0) else if k = 6 then (if a = 2 then 70 else if a = 3 then 71 else 0) else 0
def T_X8_bodyOf : Int32 × Int32 → ix_M → (ix_R → Prop) → Prop := fun (k, a) μ Q => Q (some (vi (mBody k a)), μ)
def sh_X8_bodyOf (x : Int32 × Int32) : List ix_V := [vi x.1, vi x.2]
theorem mo_X8_bodyOf (x : Int32 × Int32) (μ : ix_M) (Q Q' : ix_R → Prop) (h : ∀ r, Q r → Q' r) (hT : T_X8_bodyOf x μ Q) : T_X8_bodyOf x μ Q' := by
  obtain ⟨a0, a1⟩ := x
  first | exact h _ hT | exact ⟨hT.1, h _ hT.2⟩ | exact fun r hr => h _ (hT r hr) | exact ⟨hT.1, fun r hr => h _ (hT.2 r hr)⟩ | exact ⟨hT.1, hT.2.1, fun r hr => h _ (hT.2.2 r hr)⟩
def oc_X8_bodyOf (n : Nat) : ix_Op := fun k _ ls st μ => match st with
  | .inl a1 :: .inl a0 :: r => ix_cs r ≤ 8 ∧ T_X8_bodyOf (a0, a1) μ (fun q => k (n, ls, q.1.toList ++ r, q.2))
  | _ => False
theorem oc_X8_bodyOf_s {l : Launch} {cc : ByteArray} {nL : Nat} {own : String} {d : Nat} {rt : Option FieldType} {pc n : Nat} (h : ix_S l cc nL own d rt pc (ix_call 2 sh_X8_bodyOf T_X8_bodyOf n)) : ix_S l cc nL own d rt pc (oc_X8_bodyOf n) := by
  refine h.by (fun k Q ls st μ h => ?_) (fun k k' Q ls st μ hk h => ?_)
  · unfold oc_X8_bodyOf at h
    split at h
    · rename_i a1 a0 r
      obtain ⟨h1, h2⟩ := h
      exact ⟨h1, (a0, a1), rfl, _, h2, fun r h => h⟩
    · exact h.elim
  · unfold oc_X8_bodyOf at h ⊢
    split at h
    · obtain ⟨h1, h2⟩ := h
      exact ⟨h1, mo_X8_bodyOf _ _ _ _ (fun q hq => hk _ hq) h2⟩
    · exact h.elim
def o_X8_bodyOf : List (Nat × ix_Op) := [
  (0, ix_iload 0 1),
  (1, ix_switch [(0, 44), (1, 49), (2, 60), (3, 72), (4, 84), (5, 96), (6, 108)] 130),
  (44, ix_push (vi 10) 46),
  (46, ix_iload 1 47),
  (47, ix_bin (fun x y => x + y) 48),
  (48, ix_iret),
  (49, ix_iload 1 50),
  (50, ix_if (fun x => x = 0) 53 58),
  (53, ix_push (vi 20) 55),
  (55, ix_goto 59),
  (58, ix_push (vi 0) 59),
  (59, ix_iret),
  (60, ix_iload 1 61),
  (61, ix_push (vi 1) 62),
  (62, ix_cmp (fun x y => x = y) 65 70),
  (65, ix_push (vi 30) 67),
  (67, ix_goto 71),
  (70, ix_push (vi 0) 71),
  (71, ix_iret),
  (72, ix_iload 1 73),
  (73, ix_push (vi 2) 74),
  (74, ix_cmp (fun x y => x = y) 77 82),
  (77, ix_push (vi 40) 79),
  (79, ix_goto 83),
  (82, ix_push (vi 0) 83),
  (83, ix_iret),
  (84, ix_iload 1 85),
  (85, ix_push (vi 3) 86),
  (86, ix_cmp (fun x y => x = y) 89 94),
  (89, ix_push (vi 50) 91),
  (91, ix_goto 95),
  (94, ix_push (vi 0) 95),
  (95, ix_iret),
  (96, ix_iload 1 97),
  (97, ix_push (vi 1) 98),
  (98, ix_cmp (fun x y => x = y) 101 106),
  (101, ix_push (vi 60) 103),
  (103, ix_goto 107),
  (106, ix_push (vi 0) 107),
  (107, ix_iret),
  (108, ix_iload 1 109),
  (109, ix_push (vi 2) 110),
  (110, ix_cmp (fun x y => x = y) 113 118),
  (113, ix_push (vi 70) 115),
  (115, ix_goto 129),
  (118, ix_iload 1 119),
  (119, ix_push (vi 3) 120),
  (120, ix_cmp (fun x y => x = y) 123 128),
  (123, ix_push (vi 71) 125),
  (125, ix_goto 129),
  (128, ix_push (vi 0) 129),
  (129, ix_iret),
  (130, ix_push (vi 0) 131),
  (131, ix_iret)]
set_option maxRecDepth 20000 in
theorem a_X8_bodyOf (l : Launch) : ix_AllS l cX8_bodyOf 2 RX8 1 (some .int) o_X8_bodyOf :=
  .cons (ix_s_iload_n dX8_bodyOf_0 rfl) <|
  .cons (ix_s_tab dX8_bodyOf_1 (by decide) (by decide +kernel) (by decide +kernel)) <|
  .cons (ix_s_bipush dX8_bodyOf_44 (by decide +kernel)) <|
  .cons (ix_s_iload_n dX8_bodyOf_46 rfl) <|
  .cons (ix_s_iadd dX8_bodyOf_47) <|
  .cons (ix_s_iret dX8_bodyOf_48 rfl) <|
  .cons (ix_s_iload_n dX8_bodyOf_49 rfl) <|
  .cons (ix_s_if_ne dX8_bodyOf_50 (by decide)) <|
  .cons (ix_s_bipush dX8_bodyOf_53 (by decide +kernel)) <|
  .cons (ix_s_goto dX8_bodyOf_55 (by decide)) <|
  .cons (ix_s_iconst dX8_bodyOf_58 (by decide +kernel)) <|
  .cons (ix_s_iret dX8_bodyOf_59 rfl) <|
  .cons (ix_s_iload_n dX8_bodyOf_60 rfl) <|
  .cons (ix_s_iconst dX8_bodyOf_61 (by decide +kernel)) <|
  .cons (ix_s_cmp_ne dX8_bodyOf_62 (by decide)) <|
  .cons (ix_s_bipush dX8_bodyOf_65 (by decide +kernel)) <|
  .cons (ix_s_goto dX8_bodyOf_67 (by decide)) <|
  .cons (ix_s_iconst dX8_bodyOf_70 (by decide +kernel)) <|
  .cons (ix_s_iret dX8_bodyOf_71 rfl) <|
  .cons (ix_s_iload_n dX8_bodyOf_72 rfl) <|
  .cons (ix_s_iconst dX8_bodyOf_73 (by decide +kernel)) <|
  .cons (ix_s_cmp_ne dX8_bodyOf_74 (by decide)) <|
  .cons (ix_s_bipush dX8_bodyOf_77 (by decide +kernel)) <|
  .cons (ix_s_goto dX8_bodyOf_79 (by decide)) <|
  .cons (ix_s_iconst dX8_bodyOf_82 (by decide +kernel)) <|
  .cons (ix_s_iret dX8_bodyOf_83 rfl) <|
  .cons (ix_s_iload_n dX8_bodyOf_84 rfl) <|
  .cons (ix_s_iconst dX8_bodyOf_85 (by decide +kernel)) <|
  .cons (ix_s_cmp_ne dX8_bodyOf_86 (by decide)) <|
  .cons (ix_s_bipush dX8_bodyOf_89 (by decide +kernel)) <|
  .cons (ix_s_goto dX8_bodyOf_91 (by decide)) <|
  .cons (ix_s_iconst dX8_bodyOf_94 (by decide +kernel)) <|
  .cons (ix_s_iret dX8_bodyOf_95 rfl) <|
  .cons (ix_s_iload_n dX8_bodyOf_96 rfl) <|
  .cons (ix_s_iconst dX8_bodyOf_97 (by decide +kernel)) <|
  .cons (ix_s_cmp_ne dX8_bodyOf_98 (by decide)) <|
  .cons (ix_s_bipush dX8_bodyOf_101 (by decide +kernel)) <|
  .cons (ix_s_goto dX8_bodyOf_103 (by decide)) <|
  .cons (ix_s_iconst dX8_bodyOf_106 (by decide +kernel)) <|
  .cons (ix_s_iret dX8_bodyOf_107 rfl) <|
  .cons (ix_s_iload_n dX8_bodyOf_108 rfl) <|
  .cons (ix_s_iconst dX8_bodyOf_109 (by decide +kernel)) <|
  .cons (ix_s_cmp_ne dX8_bodyOf_110 (by decide)) <|
  .cons (ix_s_bipush dX8_bodyOf_113 (by decide +kernel)) <|
  .cons (ix_s_goto dX8_bodyOf_115 (by decide)) <|
  .cons (ix_s_iload_n dX8_bodyOf_118 rfl) <|
  .cons (ix_s_iconst dX8_bodyOf_119 (by decide +kernel)) <|
  .cons (ix_s_cmp_ne dX8_bodyOf_120 (by decide)) <|
  .cons (ix_s_bipush dX8_bodyOf_123 (by decide +kernel)) <|
  .cons (ix_s_goto dX8_bodyOf_125 (by decide)) <|
  .cons (ix_s_iconst dX8_bodyOf_128 (by decide +kernel)) <|
  .cons (ix_s_iret dX8_bodyOf_129 rfl) <|
  .cons (ix_s_iconst dX8_bodyOf_130 (by decide +kernel)) <|
  .cons (ix_s_iret dX8_bodyOf_131 rfl) <| .nil
theorem e_X8_bodyOf_0 (Q : ix_R → Prop) (ls : ix_L) (st : List ix_V) (μ : ix_M) : ix_Ev o_X8_bodyOf Q (0, ls, st, μ) = ix_iload 0 1 (ix_Ev o_X8_bodyOf Q) Q ls st μ := ix_Ev.eq (a_X8_bodyOf launch0) rfl ls st μ
theorem e_X8_bodyOf_1 (Q : ix_R → Prop) (ls : ix_L) (st : List ix_V) (μ : ix_M) : ix_Ev o_X8_bodyOf Q (1, ls, st, μ) = ix_switch [(0, 44), (1, 49), (2, 60), (3, 72), (4, 84), (5, 96), (6, 108)] 130 (ix_Ev o_X8_bodyOf Q) Q ls st μ := ix_Ev.eq (a_X8_bodyOf launch0) rfl ls st μ
theorem e_X8_bodyOf_44 (Q : ix_R → Prop) (ls : ix_L) (st : List ix_V) (μ : ix_M) : ix_Ev o_X8_bodyOf Q (44, ls, st, μ) = ix_push (vi 10) 46 (ix_Ev o_X8_bodyOf Q) Q ls st μ := ix_Ev.eq (a_X8_bodyOf launch0) rfl ls st μ
theorem e_X8_bodyOf_46 (Q : ix_R → Prop) (ls : ix_L) (st : List ix_V) (μ : ix_M) : ix_Ev o_X8_bodyOf Q (46, ls, st, μ) = ix_iload 1 47 (ix_Ev o_X8_bodyOf Q) Q ls st μ := ix_Ev.eq (a_X8_bodyOf launch0) rfl ls st μ
theorem e_X8_bodyOf_47 (Q : ix_R → Prop) (ls : ix_L) (st : List ix_V) (μ : ix_M) : ix_Ev o_X8_bodyOf Q (47, ls, st, μ) = ix_bin (fun x y => x + y) 48 (ix_Ev o_X8_bodyOf Q) Q ls st μ := ix_Ev.eq (a_X8_bodyOf launch0) rfl ls st μ
theorem e_X8_bodyOf_48 (Q : ix_R → Prop) (ls : ix_L) (st : List ix_V) (μ : ix_M) : ix_Ev o_X8_bodyOf Q (48, ls, st, μ) = ix_iret (ix_Ev o_X8_bodyOf Q) Q ls st μ := ix_Ev.eq (a_X8_bodyOf launch0) rfl ls st μ
theorem e_X8_bodyOf_49 (Q : ix_R → Prop) (ls : ix_L) (st : List ix_V) (μ : ix_M) : ix_Ev o_X8_bodyOf Q (49, ls, st, μ) = ix_iload 1 50 (ix_Ev o_X8_bodyOf Q) Q ls st μ := ix_Ev.eq (a_X8_bodyOf launch0) rfl ls st μ
theorem e_X8_bodyOf_50 (Q : ix_R → Prop) (ls : ix_L) (st : List ix_V) (μ : ix_M) : ix_Ev o_X8_bodyOf Q (50, ls, st, μ) = ix_if (fun x => x = 0) 53 58 (ix_Ev o_X8_bodyOf Q) Q ls st μ := ix_Ev.eq (a_X8_bodyOf launch0) rfl ls st μ
theorem e_X8_bodyOf_53 (Q : ix_R → Prop) (ls : ix_L) (st : List ix_V) (μ : ix_M) : ix_Ev o_X8_bodyOf Q (53, ls, st, μ) = ix_push (vi 20) 55 (ix_Ev o_X8_bodyOf Q) Q ls st μ := ix_Ev.eq (a_X8_bodyOf launch0) rfl ls st μ
theorem e_X8_bodyOf_55 (Q : ix_R → Prop) (ls : ix_L) (st : List ix_V) (μ : ix_M) : ix_Ev o_X8_bodyOf Q (55, ls, st, μ) = ix_goto 59 (ix_Ev o_X8_bodyOf Q) Q ls st μ := ix_Ev.eq (a_X8_bodyOf launch0) rfl ls st μ
theorem e_X8_bodyOf_58 (Q : ix_R → Prop) (ls : ix_L) (st : List ix_V) (μ : ix_M) : ix_Ev o_X8_bodyOf Q (58, ls, st, μ) = ix_push (vi 0) 59 (ix_Ev o_X8_bodyOf Q) Q ls st μ := ix_Ev.eq (a_X8_bodyOf launch0) rfl ls st μ
theorem e_X8_bodyOf_59 (Q : ix_R → Prop) (ls : ix_L) (st : List ix_V) (μ : ix_M) : ix_Ev o_X8_bodyOf Q (59, ls, st, μ) = ix_iret (ix_Ev o_X8_bodyOf Q) Q ls st μ := ix_Ev.eq (a_X8_bodyOf launch0) rfl ls st μ
theorem e_X8_bodyOf_60 (Q : ix_R → Prop) (ls : ix_L) (st : List ix_V) (μ : ix_M) : ix_Ev o_X8_bodyOf Q (60, ls, st, μ) = ix_iload 1 61 (ix_Ev o_X8_bodyOf Q) Q ls st μ := ix_Ev.eq (a_X8_bodyOf launch0) rfl ls st μ
theorem e_X8_bodyOf_61 (Q : ix_R → Prop) (ls : ix_L) (st : List ix_V) (μ : ix_M) : ix_Ev o_X8_bodyOf Q (61, ls, st, μ) = ix_push (vi 1) 62 (ix_Ev o_X8_bodyOf Q) Q ls st μ := ix_Ev.eq (a_X8_bodyOf launch0) rfl ls st μ
theorem e_X8_bodyOf_62 (Q : ix_R → Prop) (ls : ix_L) (st : List ix_V) (μ : ix_M) : ix_Ev o_X8_bodyOf Q (62, ls, st, μ) = ix_cmp (fun x y => x = y) 65 70 (ix_Ev o_X8_bodyOf Q) Q ls st μ := ix_Ev.eq (a_X8_bodyOf launch0) rfl ls st μ
theorem e_X8_bodyOf_65 (Q : ix_R → Prop) (ls : ix_L) (st : List ix_V) (μ : ix_M) : ix_Ev o_X8_bodyOf Q (65, ls, st, μ) = ix_push (vi 30) 67 (ix_Ev o_X8_bodyOf Q) Q ls st μ := ix_Ev.eq (a_X8_bodyOf launch0) rfl ls st μ
theorem e_X8_bodyOf_67 (Q : ix_R → Prop) (ls : ix_L) (st : List ix_V) (μ : ix_M) : ix_Ev o_X8_bodyOf Q (67, ls, st, μ) = ix_goto 71 (ix_Ev o_X8_bodyOf Q) Q ls st μ := ix_Ev.eq (a_X8_bodyOf launch0) rfl ls st μ
theorem e_X8_bodyOf_70 (Q : ix_R → Prop) (ls : ix_L) (st : List ix_V) (μ : ix_M) : ix_Ev o_X8_bodyOf Q (70, ls, st, μ) = ix_push (vi 0) 71 (ix_Ev o_X8_bodyOf Q) Q ls st μ := ix_Ev.eq (a_X8_bodyOf launch0) rfl ls st μ
theorem e_X8_bodyOf_71 (Q : ix_R → Prop) (ls : ix_L) (st : List ix_V) (μ : ix_M) : ix_Ev o_X8_bodyOf Q (71, ls, st, μ) = ix_iret (ix_Ev o_X8_bodyOf Q) Q ls st μ := ix_Ev.eq (a_X8_bodyOf launch0) rfl ls st μ
theorem e_X8_bodyOf_72 (Q : ix_R → Prop) (ls : ix_L) (st : List ix_V) (μ : ix_M) : ix_Ev o_X8_bodyOf Q (72, ls, st, μ) = ix_iload 1 73 (ix_Ev o_X8_bodyOf Q) Q ls st μ := ix_Ev.eq (a_X8_bodyOf launch0) rfl ls st μ
theorem e_X8_bodyOf_73 (Q : ix_R → Prop) (ls : ix_L) (st : List ix_V) (μ : ix_M) : ix_Ev o_X8_bodyOf Q (73, ls, st, μ) = ix_push (vi 2) 74 (ix_Ev o_X8_bodyOf Q) Q ls st μ := ix_Ev.eq (a_X8_bodyOf launch0) rfl ls st μ
theorem e_X8_bodyOf_74 (Q : ix_R → Prop) (ls : ix_L) (st : List ix_V) (μ : ix_M) : ix_Ev o_X8_bodyOf Q (74, ls, st, μ) = ix_cmp (fun x y => x = y) 77 82 (ix_Ev o_X8_bodyOf Q) Q ls st μ := ix_Ev.eq (a_X8_bodyOf launch0) rfl ls st μ
theorem e_X8_bodyOf_77 (Q : ix_R → Prop) (ls : ix_L) (st : List ix_V) (μ : ix_M) : ix_Ev o_X8_bodyOf Q (77, ls, st, μ) = ix_push (vi 40) 79 (ix_Ev o_X8_bodyOf Q) Q ls st μ := ix_Ev.eq (a_X8_bodyOf launch0) rfl ls st μ
theorem e_X8_bodyOf_79 (Q : ix_R → Prop) (ls : ix_L) (st : List ix_V) (μ : ix_M) : ix_Ev o_X8_bodyOf Q (79, ls, st, μ) = ix_goto 83 (ix_Ev o_X8_bodyOf Q) Q ls st μ := ix_Ev.eq (a_X8_bodyOf launch0) rfl ls st μ
theorem e_X8_bodyOf_82 (Q : ix_R → Prop) (ls : ix_L) (st : List ix_V) (μ : ix_M) : ix_Ev o_X8_bodyOf Q (82, ls, st, μ) = ix_push (vi 0) 83 (ix_Ev o_X8_bodyOf Q) Q ls st μ := ix_Ev.eq (a_X8_bodyOf launch0) rfl ls st μ
theorem e_X8_bodyOf_83 (Q : ix_R → Prop) (ls : ix_L) (st : List ix_V) (μ : ix_M) : ix_Ev o_X8_bodyOf Q (83, ls, st, μ) = ix_iret (ix_Ev o_X8_bodyOf Q) Q ls st μ := ix_Ev.eq (a_X8_bodyOf launch0) rfl ls st μ
theorem e_X8_bodyOf_84 (Q : ix_R → Prop) (ls : ix_L) (st : List ix_V) (μ : ix_M) : ix_Ev o_X8_bodyOf Q (84, ls, st, μ) = ix_iload 1 85 (ix_Ev o_X8_bodyOf Q) Q ls st μ := ix_Ev.eq (a_X8_bodyOf launch0) rfl ls st μ
theorem e_X8_bodyOf_85 (Q : ix_R → Prop) (ls : ix_L) (st : List ix_V) (μ : ix_M) : ix_Ev o_X8_bodyOf Q (85, ls, st, μ) = ix_push (vi 3) 86 (ix_Ev o_X8_bodyOf Q) Q ls st μ := ix_Ev.eq (a_X8_bodyOf launch0) rfl ls st μ
theorem e_X8_bodyOf_86 (Q : ix_R → Prop) (ls : ix_L) (st : List ix_V) (μ : ix_M) : ix_Ev o_X8_bodyOf Q (86, ls, st, μ) = ix_cmp (fun x y => x = y) 89 94 (ix_Ev o_X8_bodyOf Q) Q ls st μ := ix_Ev.eq (a_X8_bodyOf launch0) rfl ls st μ
theorem e_X8_bodyOf_89 (Q : ix_R → Prop) (ls : ix_L) (st : List ix_V) (μ : ix_M) : ix_Ev o_X8_bodyOf Q (89, ls, st, μ) = ix_push (vi 50) 91 (ix_Ev o_X8_bodyOf Q) Q ls st μ := ix_Ev.eq (a_X8_bodyOf launch0) rfl ls st μ
theorem e_X8_bodyOf_91 (Q : ix_R → Prop) (ls : ix_L) (st : List ix_V) (μ : ix_M) : ix_Ev o_X8_bodyOf Q (91, ls, st, μ) = ix_goto 95 (ix_Ev o_X8_bodyOf Q) Q ls st μ := ix_Ev.eq (a_X8_bodyOf launch0) rfl ls st μ
theorem e_X8_bodyOf_94 (Q : ix_R → Prop) (ls : ix_L) (st : List ix_V) (μ : ix_M) : ix_Ev o_X8_bodyOf Q (94, ls, st, μ) = ix_push (vi 0) 95 (ix_Ev o_X8_bodyOf Q) Q ls st μ := ix_Ev.eq (a_X8_bodyOf launch0) rfl ls st μ
theorem e_X8_bodyOf_95 (Q : ix_R → Prop) (ls : ix_L) (st : List ix_V) (μ : ix_M) : ix_Ev o_X8_bodyOf Q (95, ls, st, μ) = ix_iret (ix_Ev o_X8_bodyOf Q) Q ls st μ := ix_Ev.eq (a_X8_bodyOf launch0) rfl ls st μ
theorem e_X8_bodyOf_96 (Q : ix_R → Prop) (ls : ix_L) (st : List ix_V) (μ : ix_M) : ix_Ev o_X8_bodyOf Q (96, ls, st, μ) = ix_iload 1 97 (ix_Ev o_X8_bodyOf Q) Q ls st μ := ix_Ev.eq (a_X8_bodyOf launch0) rfl ls st μ
theorem e_X8_bodyOf_97 (Q : ix_R → Prop) (ls : ix_L) (st : List ix_V) (μ : ix_M) : ix_Ev o_X8_bodyOf Q (97, ls, st, μ) = ix_push (vi 1) 98 (ix_Ev o_X8_bodyOf Q) Q ls st μ := ix_Ev.eq (a_X8_bodyOf launch0) rfl ls st μ
theorem e_X8_bodyOf_98 (Q : ix_R → Prop) (ls : ix_L) (st : List ix_V) (μ : ix_M) : ix_Ev o_X8_bodyOf Q (98, ls, st, μ) = ix_cmp (fun x y => x = y) 101 106 (ix_Ev o_X8_bodyOf Q) Q ls st μ := ix_Ev.eq (a_X8_bodyOf launch0) rfl ls st μ
theorem e_X8_bodyOf_101 (Q : ix_R → Prop) (ls : ix_L) (st : List ix_V) (μ : ix_M) : ix_Ev o_X8_bodyOf Q (101, ls, st, μ) = ix_push (vi 60) 103 (ix_Ev o_X8_bodyOf Q) Q ls st μ := ix_Ev.eq (a_X8_bodyOf launch0) rfl ls st μ
theorem e_X8_bodyOf_103 (Q : ix_R → Prop) (ls : ix_L) (st : List ix_V) (μ : ix_M) : ix_Ev o_X8_bodyOf Q (103, ls, st, μ) = ix_goto 107 (ix_Ev o_X8_bodyOf Q) Q ls st μ := ix_Ev.eq (a_X8_bodyOf launch0) rfl ls st μ
theorem e_X8_bodyOf_106 (Q : ix_R → Prop) (ls : ix_L) (st : List ix_V) (μ : ix_M) : ix_Ev o_X8_bodyOf Q (106, ls, st, μ) = ix_push (vi 0) 107 (ix_Ev o_X8_bodyOf Q) Q ls st μ := ix_Ev.eq (a_X8_bodyOf launch0) rfl ls st μ
theorem e_X8_bodyOf_107 (Q : ix_R → Prop) (ls : ix_L) (st : List ix_V) (μ : ix_M) : ix_Ev o_X8_bodyOf Q (107, ls, st, μ) = ix_iret (ix_Ev o_X8_bodyOf Q) Q ls st μ := ix_Ev.eq (a_X8_bodyOf launch0) rfl ls st μ
theorem e_X8_bodyOf_108 (Q : ix_R → Prop) (ls : ix_L) (st : List ix_V) (μ : ix_M) : ix_Ev o_X8_bodyOf Q (108, ls, st, μ) = ix_iload 1 109 (ix_Ev o_X8_bodyOf Q) Q ls st μ := ix_Ev.eq (a_X8_bodyOf launch0) rfl ls st μ
theorem e_X8_bodyOf_109 (Q : ix_R → Prop) (ls : ix_L) (st : List ix_V) (μ : ix_M) : ix_Ev o_X8_bodyOf Q (109, ls, st, μ) = ix_push (vi 2) 110 (ix_Ev o_X8_bodyOf Q) Q ls st μ := ix_Ev.eq (a_X8_bodyOf launch0) rfl ls st μ
theorem e_X8_bodyOf_110 (Q : ix_R → Prop) (ls : ix_L) (st : List ix_V) (μ : ix_M) : ix_Ev o_X8_bodyOf Q (110, ls, st, μ) = ix_cmp (fun x y => x = y) 113 118 (ix_Ev o_X8_bodyOf Q) Q ls st μ := ix_Ev.eq (a_X8_bodyOf launch0) rfl ls st μ
theorem e_X8_bodyOf_113 (Q : ix_R → Prop) (ls : ix_L) (st : List ix_V) (μ : ix_M) : ix_Ev o_X8_bodyOf Q (113, ls, st, μ) = ix_push (vi 70) 115 (ix_Ev o_X8_bodyOf Q) Q ls st μ := ix_Ev.eq (a_X8_bodyOf launch0) rfl ls st μ
theorem e_X8_bodyOf_115 (Q : ix_R → Prop) (ls : ix_L) (st : List ix_V) (μ : ix_M) : ix_Ev o_X8_bodyOf Q (115, ls, st, μ) = ix_goto 129 (ix_Ev o_X8_bodyOf Q) Q ls st μ := ix_Ev.eq (a_X8_bodyOf launch0) rfl ls st μ
theorem e_X8_bodyOf_118 (Q : ix_R → Prop) (ls : ix_L) (st : List ix_V) (μ : ix_M) : ix_Ev o_X8_bodyOf Q (118, ls, st, μ) = ix_iload 1 119 (ix_Ev o_X8_bodyOf Q) Q ls st μ := ix_Ev.eq (a_X8_bodyOf launch0) rfl ls st μ
theorem e_X8_bodyOf_119 (Q : ix_R → Prop) (ls : ix_L) (st : List ix_V) (μ : ix_M) : ix_Ev o_X8_bodyOf Q (119, ls, st, μ) = ix_push (vi 3) 120 (ix_Ev o_X8_bodyOf Q) Q ls st μ := ix_Ev.eq (a_X8_bodyOf launch0) rfl ls st μ
theorem e_X8_bodyOf_120 (Q : ix_R → Prop) (ls : ix_L) (st : List ix_V) (μ : ix_M) : ix_Ev o_X8_bodyOf Q (120, ls, st, μ) = ix_cmp (fun x y => x = y) 123 128 (ix_Ev o_X8_bodyOf Q) Q ls st μ := ix_Ev.eq (a_X8_bodyOf launch0) rfl ls st μ
theorem e_X8_bodyOf_123 (Q : ix_R → Prop) (ls : ix_L) (st : List ix_V) (μ : ix_M) : ix_Ev o_X8_bodyOf Q (123, ls, st, μ) = ix_push (vi 71) 125 (ix_Ev o_X8_bodyOf Q) Q ls st μ := ix_Ev.eq (a_X8_bodyOf launch0) rfl ls st μ
theorem e_X8_bodyOf_125 (Q : ix_R → Prop) (ls : ix_L) (st : List ix_V) (μ : ix_M) : ix_Ev o_X8_bodyOf Q (125, ls, st, μ) = ix_goto 129 (ix_Ev o_X8_bodyOf Q) Q ls st μ := ix_Ev.eq (a_X8_bodyOf launch0) rfl ls st μ
theorem e_X8_bodyOf_128 (Q : ix_R → Prop) (ls : ix_L) (st : List ix_V) (μ : ix_M) : ix_Ev o_X8_bodyOf Q (128, ls, st, μ) = ix_push (vi 0) 129 (ix_Ev o_X8_bodyOf Q) Q ls st μ := ix_Ev.eq (a_X8_bodyOf launch0) rfl ls st μ
theorem e_X8_bodyOf_129 (Q : ix_R → Prop) (ls : ix_L) (st : List ix_V) (μ : ix_M) : ix_Ev o_X8_bodyOf Q (129, ls, st, μ) = ix_iret (ix_Ev o_X8_bodyOf Q) Q ls st μ := ix_Ev.eq (a_X8_bodyOf launch0) rfl ls st μ
theorem e_X8_bodyOf_130 (Q : ix_R → Prop) (ls : ix_L) (st : List ix_V) (μ : ix_M) : ix_Ev o_X8_bodyOf Q (130, ls, st, μ) = ix_push (vi 0) 131 (ix_Ev o_X8_bodyOf Q) Q ls st μ := ix_Ev.eq (a_X8_bodyOf launch0) rfl ls st μ
theorem e_X8_bodyOf_131 (Q : ix_R → Prop) (ls : ix_L) (st : List ix_V) (μ : ix_M) : ix_Ev o_X8_bodyOf Q (131, ls, st, μ) = ix_iret (ix_Ev o_X8_bodyOf Q) Q ls st μ := ix_Ev.eq (a_X8_bodyOf launch0) rfl ls st μ
theorem r_X8_bodyOf (k : Int32) (a : Int32) (μ : ix_M) (Q : ix_R → Prop) (hT : T_X8_bodyOf (k, a) μ Q) : ix_Ev o_X8_bodyOf Q (0, [some (vi k), some (vi a)], [], μ) := by
  simp (decide := true) only [e_X8_bodyOf_0, e_X8_bodyOf_1, e_X8_bodyOf_44, e_X8_bodyOf_46, e_X8_bodyOf_47, e_X8_bodyOf_48, e_X8_bodyOf_49, e_X8_bodyOf_50, e_X8_bodyOf_53, e_X8_bodyOf_55, e_X8_bodyOf_58, e_X8_bodyOf_59, e_X8_bodyOf_60, e_X8_bodyOf_61, e_X8_bodyOf_62, e_X8_bodyOf_65, e_X8_bodyOf_67, e_X8_bodyOf_70, e_X8_bodyOf_71, e_X8_bodyOf_72, e_X8_bodyOf_73, e_X8_bodyOf_74, e_X8_bodyOf_77, e_X8_bodyOf_79, e_X8_bodyOf_82, e_X8_bodyOf_83, e_X8_bodyOf_84, e_X8_bodyOf_85, e_X8_bodyOf_86, e_X8_bodyOf_89, e_X8_bodyOf_91, e_X8_bodyOf_94, e_X8_bodyOf_95, e_X8_bodyOf_96, e_X8_bodyOf_97, e_X8_bodyOf_98, e_X8_bodyOf_101, e_X8_bodyOf_103, e_X8_bodyOf_106, e_X8_bodyOf_107, e_X8_bodyOf_108, e_X8_bodyOf_109, e_X8_bodyOf_110, e_X8_bodyOf_113, e_X8_bodyOf_115, e_X8_bodyOf_118, e_X8_bodyOf_119, e_X8_bodyOf_120, e_X8_bodyOf_123, e_X8_bodyOf_125, e_X8_bodyOf_128, e_X8_bodyOf_129, e_X8_bodyOf_130, e_X8_bodyOf_131, vi, vl, vr, ix_push, ix_iload, ix_lload, ix_aload, ix_istore, ix_astore, ix_iinc, ix_bin, ix_div, ix_un, ix_i2l, ix_l2i, ix_lbin, ix_lsh, ix_lcmp, ix_dup, ix_dup2, ix_pop, ix_if, ix_cmp, ix_goto, ix_switch, ix_sw, ix_iret, ix_zret, ix_vret, ix_aret, ix_geti, ix_getr, ix_puti, ix_putz, ix_puts, ix_gets, ix_iald, ix_iast, ix_alen, ix_aald, ix_gval, ix_gcod, ix_bald, ix_blen, ix_sald, ix_nret, ix_math2, ix_math1, ix_acopy, Nat.add_assoc, Int32.reduceLT, Int32.reduceLE, Int32.reduceToNatClampNeg, Int32.reduceSub, Int32.reduceAdd, Nat.reduceAdd, Nat.reduceLeDiff, true_or, or_true, or_false, false_or, not_false_eq_true, not_true_eq_false, false_implies, true_implies, implies_true, and_self, mB_0, mB_01, Classical.not_not, Nat.zero_le, List.getElem?_cons_zero, List.getElem?_cons_succ, List.set_cons_zero, List.set_cons_succ, ix_nl, ix_cs, true_and, and_true, Option.toList_some, Option.toList_none, List.cons_append, List.nil_append]
  simp only [T_X8_bodyOf, mBody, vi, vl, vr] at hT
  repeat' (first | refine And.intro ?_ ?_ | intro _)
  all_goals (first | exact hT | (simp only [*, if_true, if_false, not_true_eq_false, not_false_eq_true, and_true, true_and, and_false, false_and, or_true, true_or, or_false, false_or, and_self, or_self] at hT; exact hT) | (simp only [← Int32.not_lt, Classical.not_not] at *; simp only [*, if_true, if_false, not_true_eq_false, not_false_eq_true, and_true, true_and, and_false, false_and, or_true, true_or, or_false, false_or, and_self, or_self] at hT; exact hT) | (simp_all; done))
theorem k_X8_bodyOf (l : Launch) : ix_Ct l yX8_bodyOf cX8_bodyOf 2 (some .int) 1 sh_X8_bodyOf T_X8_bodyOf := ix_ct (a_X8_bodyOf l) rfl (by decide) (fun _ => Nat.le_of_ble_eq_true rfl) (fun x μ Q hok hT => r_X8_bodyOf x.1 x.2 μ Q  hT)
def vFind (n : Nat) (k a : Int32) : Option (Int32 × Int32) := match n with
  | 0 => none
  | n + 1 => if k < 0 then none else if 0 < mBody k a then some (mBody k a, k) else vFind n (mAbove k) a
def vPush (tr : List Int32) (b : Int32) : List Int32 := if tr.length < 40 then tr ++ [b] else tr
abbrev VC : Type := Int32 → Int32 → Int32 → List Int32 → Option (Int32 × List Int32)
def vRunG (C : VC) (nb kd mm b ow x : Int32) (tr : List Int32) : Option (Int32 × List Int32) :=
  if b = 10 then some (x + nb, tr)
  else if b = 11 then (match C kd 0 x tr with
    | none => none
    | some r => some (r.1 * 2, r.2))
  else if b = 12 then some (x - mm, tr)
  else if b = 13 then (match C kd 1 x tr with
    | none => none
    | some r => match C kd 2 x r.2 with
      | none => none
      | some r2 => some (r.1 ^^^ r2.1, r2.2))
  else if b = 20 then (match C (mAbove ow) 0 x tr with
    | none => none
    | some r => some (r.1 * 3, r.2))
  else if b = 30 then (match C (mAbove ow) 1 x tr with
    | none => none
    | some r => match C kd 2 1 r.2 with
      | none => none
      | some r2 => some (r.1 - r2.1, r2.2))
  else if b = 40 then (match C (mAbove ow) 2 x tr with
    | none => none
    | some r => some (-r.1, r.2))
  else if b = 50 then (match C (mAbove ow) 3 x tr with
    | none => none
    | some r => match C kd 0 2 r.2 with
      | none => none
      | some r2 => some (r.1 - r2.1, r2.2))
  else if b = 60 then C (mAbove ow) 1 (x + 1) tr
  else if b = 70 then (match C (mAbove ow) 2 x tr with
    | none => none
    | some r => some (r.1 ^^^ nb, r.2))
  else if b = 71 then (match C kd 1 x tr with
    | none => none
    | some r => match C (mAbove ow) 3 x r.2 with
      | none => none
      | some r2 => some (r.1 - r2.1, r2.2))
  else some (0, tr)
def vCall (nb kd mm : Int32) (d : Nat) : VC := fun fm a x tr => match d with
  | 0 => none
  | d + 1 => match vFind 7 fm a with
    | none => some (0, tr)
    | some (b, k) => vRunG (vCall nb kd mm d) nb kd mm b k x (vPush tr b)
def TrC (μ : ix_M) (tr : List Int32) : Prop := μ 94 1 = nI tr.length ∧ tr.length ≤ 40 ∧ ∀ j, j < tr.length → μ 95 j = tr.getD j 0
theorem l95 : ix_len 95 = 40 := by decide +kernel
theorem TrC.ro {μ : ix_M} {tr : List Int32} (h : TrC μ tr) : RowOk μ 94 := by
  unfold RowOk
  have := h.2.1
  rw [h.1, nI_toInt (by omega), l95]
  omega
theorem TrC.push {μ : ix_M} {tr : List Int32} (h : TrC μ tr) (b : Int32) : TrC (rAdd μ 94 b) (vPush tr b) ∧ Fx [94, 95] μ (rAdd μ 94 b) := by
  obtain ⟨h1, h2, h3⟩ := h
  unfold rAdd vPush
  rw [h1, nI_toInt (by omega), l95, nI_clamp (by omega)]
  by_cases c : tr.length < 40
  · rw [if_pos c, if_pos (by omega)]
    refine ⟨⟨?_, ?_, fun j hj => ?_⟩, (Fx.rf.up (by simp)).up (by simp)⟩
    · rw [ix_up_k, nI_1]
      simp
    · simp
      omega
    · rw [ix_up_ne (by decide), ix_up_ap]
      by_cases e : j = tr.length
      · subst e
        simp
      · simp only [List.length_append, List.length_cons, List.length_nil] at hj
        rw [if_neg (by simp [e]), h3 j (by omega)]
        simp only [List.getD_eq_getElem?_getD]
        rw [List.getElem?_append_left (by omega)]
  · rw [if_neg c, if_neg (by omega)]
    exact ⟨⟨h1, h2, h3⟩, Fx.rf⟩
theorem TrC.fx {μ μ' : ix_M} {tr : List Int32} (h : TrC μ tr) (h1 : μ' 94 = μ 94) (h2 : μ' 95 = μ 95) : TrC μ' tr := ⟨by rw [h1]; exact h.1, h.2.1, fun j hj => by rw [h2]; exact h.2.2 j hj⟩
def T_X8_call (d : Nat) : Nat × Int32 × Int32 × Int32 × Int32 → ix_M → (ix_R → Prop) → Prop := fun (o, fm, a, x, op) μ Q => o = 93 ∧ ∃ (n : Nat) (tr : List Int32) (r : Int32 × List Int32), op = nI n ∧ n + d ≤ 30 ∧ TrC μ tr ∧ vCall (μ 93 1) (μ 93 2) (μ 93 3) d fm a x tr = some r ∧ ∀ μ', Fx [94, 95] μ μ' → TrC μ' r.2 → Q (some (vi r.1), μ')
def T_X8_run (d : Nat) : Nat × Int32 × Int32 × Int32 × Int32 → ix_M → (ix_R → Prop) → Prop := fun (o, b, ow, x, op) μ Q => o = 93 ∧ ∃ (n : Nat) (tr : List Int32) (r : Int32 × List Int32), op = nI n ∧ n + d ≤ 30 ∧ TrC μ tr ∧ vRunG (vCall (μ 93 1) (μ 93 2) (μ 93 3) d) (μ 93 1) (μ 93 2) (μ 93 3) b ow x tr = some r ∧ ∀ μ', Fx [94, 95] μ μ' → TrC μ' r.2 → Q (some (vi r.1), μ')
theorem mo_X8_call (d : Nat) : ∀ (x : Nat × Int32 × Int32 × Int32 × Int32) (μ : ix_M) (Q Q' : ix_R → Prop), (∀ r, Q r → Q' r) → T_X8_call d x μ Q → T_X8_call d x μ Q' := by
  rintro ⟨o, b, n, g, row⟩ μ Q Q' h ⟨h0, n, tr, r, h1, h2, h3, h4, h5⟩
  exact ⟨h0, n, tr, r, h1, h2, h3, h4, fun μ' a b => h _ (h5 μ' a b)⟩
theorem mo_X8_run (d : Nat) : ∀ (x : Nat × Int32 × Int32 × Int32 × Int32) (μ : ix_M) (Q Q' : ix_R → Prop), (∀ r, Q r → Q' r) → T_X8_run d x μ Q → T_X8_run d x μ Q' := by
  rintro ⟨o, b, n, g, row⟩ μ Q Q' h ⟨h0, n, tr, r, h1, h2, h3, h4, h5⟩
  exact ⟨h0, n, tr, r, h1, h2, h3, h4, fun μ' a b => h _ (h5 μ' a b)⟩
def sh_X8_call (x : Nat × Int32 × Int32 × Int32 × Int32) : List ix_V := [vr 7 x.1, vi x.2.1, vi x.2.2.1, vi x.2.2.2.1, vi x.2.2.2.2]
def ocr_X8_call (T : Nat × Int32 × Int32 × Int32 × Int32 → ix_M → (ix_R → Prop) → Prop) (n : Nat) : ix_Op := fun k _ ls st μ => match st with
  | .inl a4 :: .inl a3 :: .inl a2 :: .inl a1 :: .inr (.inr (t0, a0)) :: r => t0 = 7 ∧ ix_cs r ≤ 8 ∧ T (a0, a1, a2, a3, a4) μ (fun q => k (n, ls, q.1.toList ++ r, q.2))
  | _ => False
theorem ocr_X8_call_s {T : Nat × Int32 × Int32 × Int32 × Int32 → ix_M → (ix_R → Prop) → Prop} (hm : ∀ x μ Q Q', (∀ r, Q r → Q' r) → T x μ Q → T x μ Q') {l : Launch} {cc : ByteArray} {nL : Nat} {own : String} {d : Nat} {rt : Option FieldType} {pc n : Nat} (h : ix_S l cc nL own d rt pc (ix_call 5 sh_X8_call T n)) : ix_S l cc nL own d rt pc (ocr_X8_call T n) := by
  refine h.by (fun k Q ls st μ h => ?_) (fun k k' Q ls st μ hk h => ?_)
  · unfold ocr_X8_call at h
    split at h
    · rename_i a4 a3 a2 a1 t0 a0 r
      obtain ⟨rfl, h1, h2⟩ := h
      exact ⟨h1, (a0, a1, a2, a3, a4), rfl, _, h2, fun r h => h⟩
    · exact h.elim
  · unfold ocr_X8_call at h ⊢
    split at h
    · obtain ⟨rfl, h1, h2⟩ := h
      exact ⟨rfl, h1, hm _ _ _ _ (fun q hq => hk _ hq) h2⟩
    · exact h.elim
def sh_X8_run (x : Nat × Int32 × Int32 × Int32 × Int32) : List ix_V := [vr 7 x.1, vi x.2.1, vi x.2.2.1, vi x.2.2.2.1, vi x.2.2.2.2]
def ocr_X8_run (T : Nat × Int32 × Int32 × Int32 × Int32 → ix_M → (ix_R → Prop) → Prop) (n : Nat) : ix_Op := fun k _ ls st μ => match st with
  | .inl a4 :: .inl a3 :: .inl a2 :: .inl a1 :: .inr (.inr (t0, a0)) :: r => t0 = 7 ∧ ix_cs r ≤ 8 ∧ T (a0, a1, a2, a3, a4) μ (fun q => k (n, ls, q.1.toList ++ r, q.2))
  | _ => False
theorem ocr_X8_run_s {T : Nat × Int32 × Int32 × Int32 × Int32 → ix_M → (ix_R → Prop) → Prop} (hm : ∀ x μ Q Q', (∀ r, Q r → Q' r) → T x μ Q → T x μ Q') {l : Launch} {cc : ByteArray} {nL : Nat} {own : String} {d : Nat} {rt : Option FieldType} {pc n : Nat} (h : ix_S l cc nL own d rt pc (ix_call 5 sh_X8_run T n)) : ix_S l cc nL own d rt pc (ocr_X8_run T n) := by
  refine h.by (fun k Q ls st μ h => ?_) (fun k k' Q ls st μ hk h => ?_)
  · unfold ocr_X8_run at h
    split at h
    · rename_i a4 a3 a2 a1 t0 a0 r
      obtain ⟨rfl, h1, h2⟩ := h
      exact ⟨h1, (a0, a1, a2, a3, a4), rfl, _, h2, fun r h => h⟩
    · exact h.elim
  · unfold ocr_X8_run at h ⊢
    split at h
    · obtain ⟨rfl, h1, h2⟩ := h
      exact ⟨rfl, h1, hm _ _ _ _ (fun q hq => hk _ hq) h2⟩
    · exact h.elim
def o_X8_call (TX8_run : Nat × Int32 × Int32 × Int32 × Int32 → ix_M → (ix_R → Prop) → Prop) : List (Nat × ix_Op) := [
  (0, ix_iload 1 1),
  (1, ix_istore 5 3),
  (3, ix_push (vi 0) 4),
  (4, ix_istore 6 6),
  (6, ix_iload 6 8),
  (8, ix_push (vi 7) 10),
  (10, ix_cmp (fun x y => y ≤ x) 74 13),
  (13, ix_iload 5 15),
  (15, ix_if (fun x => x < 0) 74 18),
  (18, ix_iload 5 20),
  (20, ix_iload 2 21),
  (21, oc_X8_bodyOf 24),
  (24, ix_istore 7 26),
  (26, ix_iload 7 28),
  (28, ix_if (fun x => x ≤ 0) 61 31),
  (31, ix_iload 4 33),
  (33, ix_push (vi 30) 35),
  (35, ix_cmp (fun x y => y ≤ x) 61 38),
  (38, ix_aload 0 39),
  (39, ix_getr 7 3 (fun _ => 94) 42),
  (42, ix_iload 7 44),
  (44, oc_X4_add 47),
  (47, ix_aload 0 48),
  (48, ix_iload 7 50),
  (50, ix_iload 5 52),
  (52, ix_iload 3 53),
  (53, ix_iload 4 55),
  (55, ix_push (vi 1) 56),
  (56, ix_bin (fun x y => x + y) 57),
  (57, ocr_X8_run TX8_run 60),
  (60, ix_iret),
  (61, ix_iload 5 63),
  (63, oc_X0_above 66),
  (66, ix_istore 5 68),
  (68, ix_iinc 6 1 71),
  (71, ix_goto 6),
  (74, ix_push (vi 0) 75),
  (75, ix_iret)]
set_option maxRecDepth 20000 in
theorem a_X8_call (l : Launch) (d : Nat) (hlev : 2 ≤ d) {TX8_run : Nat × Int32 × Int32 × Int32 × Int32 → ix_M → (ix_R → Prop) → Prop} {d_X8_run : Nat} (h_X8_run : ix_Ct l yX8_run cX8_run 6 (some .int) d_X8_run sh_X8_run TX8_run) (hl_X8_run : d_X8_run < d) (hm_X8_run : ∀ x μ Q Q', (∀ r, Q r → Q' r) → TX8_run x μ Q → TX8_run x μ Q') : ix_AllS l cX8_call 8 RX8 d (some .int) (o_X8_call TX8_run) :=
  .cons (ix_s_iload_n dX8_call_0 rfl) <|
  .cons (ix_s_istore dX8_call_1 (by decide)) <|
  .cons (ix_s_iconst dX8_call_3 (by decide +kernel)) <|
  .cons (ix_s_istore dX8_call_4 (by decide)) <|
  .cons (ix_s_iload dX8_call_6) <|
  .cons (ix_s_bipush dX8_call_8 (by decide +kernel)) <|
  .cons (ix_s_cmp_ge dX8_call_10 (by decide)) <|
  .cons (ix_s_iload dX8_call_13) <|
  .cons (ix_s_if_lt dX8_call_15 (by decide)) <|
  .cons (ix_s_iload dX8_call_18) <|
  .cons (ix_s_iload_n dX8_call_20 rfl) <|
  .cons (oc_X8_bodyOf_s (ix_s_calls (k_X8_bodyOf l) (by omega) (by decide) tw_779 tw_9 tw_777 tw_778 ⟨by decide, by decide, by decide +kernel⟩ (fun _ => rfl) dX8_call_21)) <|
  .cons (ix_s_istore dX8_call_24 (by decide)) <|
  .cons (ix_s_iload dX8_call_26) <|
  .cons (ix_s_if_le dX8_call_28 (by decide)) <|
  .cons (ix_s_iload dX8_call_31) <|
  .cons (ix_s_bipush dX8_call_33 (by decide +kernel)) <|
  .cons (ix_s_cmp_ge dX8_call_35 (by decide)) <|
  .cons (ix_s_aload_n dX8_call_38 rfl) <|
  .cons (ix_s_getr (j := 0) tu_X8 rfl (by decide) (by decide) tw_199 rfl ts_7_0_r dX8_call_39) <|
  .cons (ix_s_iload dX8_call_42) <|
  .cons (oc_X4_add_s (ix_s_callv (t := 3) (k_X4_add l) (by omega) (by decide) tw_436 tw_6 tw_780 tw_434 tw_435 ⟨by decide, by decide, by decide +kernel⟩ (by decide) rfl rfl (fun _ => ⟨_, _, rfl, rfl⟩) dX8_call_44)) <|
  .cons (ix_s_aload_n dX8_call_47 rfl) <|
  .cons (ix_s_iload dX8_call_48) <|
  .cons (ix_s_iload dX8_call_50) <|
  .cons (ix_s_iload_n dX8_call_52 rfl) <|
  .cons (ix_s_iload dX8_call_53) <|
  .cons (ix_s_iconst dX8_call_55 (by decide +kernel)) <|
  .cons (ix_s_iadd dX8_call_56) <|
  .cons (ocr_X8_run_s hm_X8_run (ix_s_callv (t := 7) h_X8_run hl_X8_run (by decide) tw_784 tw_9 tw_781 tw_783 tp_17 ⟨by decide, by decide, by decide +kernel⟩ (by decide) rfl rfl (fun _ => ⟨_, _, rfl, rfl⟩) dX8_call_57)) <|
  .cons (ix_s_iret dX8_call_60 rfl) <|
  .cons (ix_s_iload dX8_call_61) <|
  .cons (oc_X0_above_s (ix_s_calls (k_X0_above l) (by omega) (by decide) tw_428 tw_13 tw_785 tw_427 ⟨by decide, by decide, by decide +kernel⟩ (fun _ => rfl) dX8_call_63)) <|
  .cons (ix_s_istore dX8_call_66 (by decide)) <|
  .cons (ix_s_iinc dX8_call_68 (by decide +kernel) (by decide)) <|
  .cons (ix_s_goto dX8_call_71 (by decide)) <|
  .cons (ix_s_iconst dX8_call_74 (by decide +kernel)) <|
  .cons (ix_s_iret dX8_call_75 rfl) <| .nil
theorem e_X8_call_0 {TX8_run : Nat × Int32 × Int32 × Int32 × Int32 → ix_M → (ix_R → Prop) → Prop} {l : Launch} {d : Nat} (H : ix_AllS l cX8_call 8 RX8 d (some .int) (o_X8_call TX8_run)) (Q : ix_R → Prop) (ls : ix_L) (st : List ix_V) (μ : ix_M) : ix_Ev (o_X8_call TX8_run) Q (0, ls, st, μ) = ix_iload 1 1 (ix_Ev (o_X8_call TX8_run) Q) Q ls st μ := ix_Ev.eq H rfl ls st μ
theorem e_X8_call_1 {TX8_run : Nat × Int32 × Int32 × Int32 × Int32 → ix_M → (ix_R → Prop) → Prop} {l : Launch} {d : Nat} (H : ix_AllS l cX8_call 8 RX8 d (some .int) (o_X8_call TX8_run)) (Q : ix_R → Prop) (ls : ix_L) (st : List ix_V) (μ : ix_M) : ix_Ev (o_X8_call TX8_run) Q (1, ls, st, μ) = ix_istore 5 3 (ix_Ev (o_X8_call TX8_run) Q) Q ls st μ := ix_Ev.eq H rfl ls st μ
theorem e_X8_call_3 {TX8_run : Nat × Int32 × Int32 × Int32 × Int32 → ix_M → (ix_R → Prop) → Prop} {l : Launch} {d : Nat} (H : ix_AllS l cX8_call 8 RX8 d (some .int) (o_X8_call TX8_run)) (Q : ix_R → Prop) (ls : ix_L) (st : List ix_V) (μ : ix_M) : ix_Ev (o_X8_call TX8_run) Q (3, ls, st, μ) = ix_push (vi 0) 4 (ix_Ev (o_X8_call TX8_run) Q) Q ls st μ := ix_Ev.eq H rfl ls st μ
theorem e_X8_call_4 {TX8_run : Nat × Int32 × Int32 × Int32 × Int32 → ix_M → (ix_R → Prop) → Prop} {l : Launch} {d : Nat} (H : ix_AllS l cX8_call 8 RX8 d (some .int) (o_X8_call TX8_run)) (Q : ix_R → Prop) (ls : ix_L) (st : List ix_V) (μ : ix_M) : ix_Ev (o_X8_call TX8_run) Q (4, ls, st, μ) = ix_istore 6 6 (ix_Ev (o_X8_call TX8_run) Q) Q ls st μ := ix_Ev.eq H rfl ls st μ
theorem e_X8_call_6 {TX8_run : Nat × Int32 × Int32 × Int32 × Int32 → ix_M → (ix_R → Prop) → Prop} {l : Launch} {d : Nat} (H : ix_AllS l cX8_call 8 RX8 d (some .int) (o_X8_call TX8_run)) (Q : ix_R → Prop) (ls : ix_L) (st : List ix_V) (μ : ix_M) : ix_Ev (o_X8_call TX8_run) Q (6, ls, st, μ) = ix_iload 6 8 (ix_Ev (o_X8_call TX8_run) Q) Q ls st μ := ix_Ev.eq H rfl ls st μ
theorem e_X8_call_8 {TX8_run : Nat × Int32 × Int32 × Int32 × Int32 → ix_M → (ix_R → Prop) → Prop} {l : Launch} {d : Nat} (H : ix_AllS l cX8_call 8 RX8 d (some .int) (o_X8_call TX8_run)) (Q : ix_R → Prop) (ls : ix_L) (st : List ix_V) (μ : ix_M) : ix_Ev (o_X8_call TX8_run) Q (8, ls, st, μ) = ix_push (vi 7) 10 (ix_Ev (o_X8_call TX8_run) Q) Q ls st μ := ix_Ev.eq H rfl ls st μ
theorem e_X8_call_10 {TX8_run : Nat × Int32 × Int32 × Int32 × Int32 → ix_M → (ix_R → Prop) → Prop} {l : Launch} {d : Nat} (H : ix_AllS l cX8_call 8 RX8 d (some .int) (o_X8_call TX8_run)) (Q : ix_R → Prop) (ls : ix_L) (st : List ix_V) (μ : ix_M) : ix_Ev (o_X8_call TX8_run) Q (10, ls, st, μ) = ix_cmp (fun x y => y ≤ x) 74 13 (ix_Ev (o_X8_call TX8_run) Q) Q ls st μ := ix_Ev.eq H rfl ls st μ
theorem e_X8_call_13 {TX8_run : Nat × Int32 × Int32 × Int32 × Int32 → ix_M → (ix_R → Prop) → Prop} {l : Launch} {d : Nat} (H : ix_AllS l cX8_call 8 RX8 d (some .int) (o_X8_call TX8_run)) (Q : ix_R → Prop) (ls : ix_L) (st : List ix_V) (μ : ix_M) : ix_Ev (o_X8_call TX8_run) Q (13, ls, st, μ) = ix_iload 5 15 (ix_Ev (o_X8_call TX8_run) Q) Q ls st μ := ix_Ev.eq H rfl ls st μ
theorem e_X8_call_15 {TX8_run : Nat × Int32 × Int32 × Int32 × Int32 → ix_M → (ix_R → Prop) → Prop} {l : Launch} {d : Nat} (H : ix_AllS l cX8_call 8 RX8 d (some .int) (o_X8_call TX8_run)) (Q : ix_R → Prop) (ls : ix_L) (st : List ix_V) (μ : ix_M) : ix_Ev (o_X8_call TX8_run) Q (15, ls, st, μ) = ix_if (fun x => x < 0) 74 18 (ix_Ev (o_X8_call TX8_run) Q) Q ls st μ := ix_Ev.eq H rfl ls st μ
theorem e_X8_call_18 {TX8_run : Nat × Int32 × Int32 × Int32 × Int32 → ix_M → (ix_R → Prop) → Prop} {l : Launch} {d : Nat} (H : ix_AllS l cX8_call 8 RX8 d (some .int) (o_X8_call TX8_run)) (Q : ix_R → Prop) (ls : ix_L) (st : List ix_V) (μ : ix_M) : ix_Ev (o_X8_call TX8_run) Q (18, ls, st, μ) = ix_iload 5 20 (ix_Ev (o_X8_call TX8_run) Q) Q ls st μ := ix_Ev.eq H rfl ls st μ
theorem e_X8_call_20 {TX8_run : Nat × Int32 × Int32 × Int32 × Int32 → ix_M → (ix_R → Prop) → Prop} {l : Launch} {d : Nat} (H : ix_AllS l cX8_call 8 RX8 d (some .int) (o_X8_call TX8_run)) (Q : ix_R → Prop) (ls : ix_L) (st : List ix_V) (μ : ix_M) : ix_Ev (o_X8_call TX8_run) Q (20, ls, st, μ) = ix_iload 2 21 (ix_Ev (o_X8_call TX8_run) Q) Q ls st μ := ix_Ev.eq H rfl ls st μ
theorem e_X8_call_21 {TX8_run : Nat × Int32 × Int32 × Int32 × Int32 → ix_M → (ix_R → Prop) → Prop} {l : Launch} {d : Nat} (H : ix_AllS l cX8_call 8 RX8 d (some .int) (o_X8_call TX8_run)) (Q : ix_R → Prop) (ls : ix_L) (st : List ix_V) (μ : ix_M) : ix_Ev (o_X8_call TX8_run) Q (21, ls, st, μ) = oc_X8_bodyOf 24 (ix_Ev (o_X8_call TX8_run) Q) Q ls st μ := ix_Ev.eq H rfl ls st μ
theorem e_X8_call_24 {TX8_run : Nat × Int32 × Int32 × Int32 × Int32 → ix_M → (ix_R → Prop) → Prop} {l : Launch} {d : Nat} (H : ix_AllS l cX8_call 8 RX8 d (some .int) (o_X8_call TX8_run)) (Q : ix_R → Prop) (ls : ix_L) (st : List ix_V) (μ : ix_M) : ix_Ev (o_X8_call TX8_run) Q (24, ls, st, μ) = ix_istore 7 26 (ix_Ev (o_X8_call TX8_run) Q) Q ls st μ := ix_Ev.eq H rfl ls st μ
theorem e_X8_call_26 {TX8_run : Nat × Int32 × Int32 × Int32 × Int32 → ix_M → (ix_R → Prop) → Prop} {l : Launch} {d : Nat} (H : ix_AllS l cX8_call 8 RX8 d (some .int) (o_X8_call TX8_run)) (Q : ix_R → Prop) (ls : ix_L) (st : List ix_V) (μ : ix_M) : ix_Ev (o_X8_call TX8_run) Q (26, ls, st, μ) = ix_iload 7 28 (ix_Ev (o_X8_call TX8_run) Q) Q ls st μ := ix_Ev.eq H rfl ls st μ
theorem e_X8_call_28 {TX8_run : Nat × Int32 × Int32 × Int32 × Int32 → ix_M → (ix_R → Prop) → Prop} {l : Launch} {d : Nat} (H : ix_AllS l cX8_call 8 RX8 d (some .int) (o_X8_call TX8_run)) (Q : ix_R → Prop) (ls : ix_L) (st : List ix_V) (μ : ix_M) : ix_Ev (o_X8_call TX8_run) Q (28, ls, st, μ) = ix_if (fun x => x ≤ 0) 61 31 (ix_Ev (o_X8_call TX8_run) Q) Q ls st μ := ix_Ev.eq H rfl ls st μ
theorem e_X8_call_31 {TX8_run : Nat × Int32 × Int32 × Int32 × Int32 → ix_M → (ix_R → Prop) → Prop} {l : Launch} {d : Nat} (H : ix_AllS l cX8_call 8 RX8 d (some .int) (o_X8_call TX8_run)) (Q : ix_R → Prop) (ls : ix_L) (st : List ix_V) (μ : ix_M) : ix_Ev (o_X8_call TX8_run) Q (31, ls, st, μ) = ix_iload 4 33 (ix_Ev (o_X8_call TX8_run) Q) Q ls st μ := ix_Ev.eq H rfl ls st μ
theorem e_X8_call_33 {TX8_run : Nat × Int32 × Int32 × Int32 × Int32 → ix_M → (ix_R → Prop) → Prop} {l : Launch} {d : Nat} (H : ix_AllS l cX8_call 8 RX8 d (some .int) (o_X8_call TX8_run)) (Q : ix_R → Prop) (ls : ix_L) (st : List ix_V) (μ : ix_M) : ix_Ev (o_X8_call TX8_run) Q (33, ls, st, μ) = ix_push (vi 30) 35 (ix_Ev (o_X8_call TX8_run) Q) Q ls st μ := ix_Ev.eq H rfl ls st μ
theorem e_X8_call_35 {TX8_run : Nat × Int32 × Int32 × Int32 × Int32 → ix_M → (ix_R → Prop) → Prop} {l : Launch} {d : Nat} (H : ix_AllS l cX8_call 8 RX8 d (some .int) (o_X8_call TX8_run)) (Q : ix_R → Prop) (ls : ix_L) (st : List ix_V) (μ : ix_M) : ix_Ev (o_X8_call TX8_run) Q (35, ls, st, μ) = ix_cmp (fun x y => y ≤ x) 61 38 (ix_Ev (o_X8_call TX8_run) Q) Q ls st μ := ix_Ev.eq H rfl ls st μ
theorem e_X8_call_38 {TX8_run : Nat × Int32 × Int32 × Int32 × Int32 → ix_M → (ix_R → Prop) → Prop} {l : Launch} {d : Nat} (H : ix_AllS l cX8_call 8 RX8 d (some .int) (o_X8_call TX8_run)) (Q : ix_R → Prop) (ls : ix_L) (st : List ix_V) (μ : ix_M) : ix_Ev (o_X8_call TX8_run) Q (38, ls, st, μ) = ix_aload 0 39 (ix_Ev (o_X8_call TX8_run) Q) Q ls st μ := ix_Ev.eq H rfl ls st μ
theorem e_X8_call_39 {TX8_run : Nat × Int32 × Int32 × Int32 × Int32 → ix_M → (ix_R → Prop) → Prop} {l : Launch} {d : Nat} (H : ix_AllS l cX8_call 8 RX8 d (some .int) (o_X8_call TX8_run)) (Q : ix_R → Prop) (ls : ix_L) (st : List ix_V) (μ : ix_M) : ix_Ev (o_X8_call TX8_run) Q (39, ls, st, μ) = ix_getr 7 3 (fun _ => 94) 42 (ix_Ev (o_X8_call TX8_run) Q) Q ls st μ := ix_Ev.eq H rfl ls st μ
theorem e_X8_call_42 {TX8_run : Nat × Int32 × Int32 × Int32 × Int32 → ix_M → (ix_R → Prop) → Prop} {l : Launch} {d : Nat} (H : ix_AllS l cX8_call 8 RX8 d (some .int) (o_X8_call TX8_run)) (Q : ix_R → Prop) (ls : ix_L) (st : List ix_V) (μ : ix_M) : ix_Ev (o_X8_call TX8_run) Q (42, ls, st, μ) = ix_iload 7 44 (ix_Ev (o_X8_call TX8_run) Q) Q ls st μ := ix_Ev.eq H rfl ls st μ
theorem e_X8_call_44 {TX8_run : Nat × Int32 × Int32 × Int32 × Int32 → ix_M → (ix_R → Prop) → Prop} {l : Launch} {d : Nat} (H : ix_AllS l cX8_call 8 RX8 d (some .int) (o_X8_call TX8_run)) (Q : ix_R → Prop) (ls : ix_L) (st : List ix_V) (μ : ix_M) : ix_Ev (o_X8_call TX8_run) Q (44, ls, st, μ) = oc_X4_add 47 (ix_Ev (o_X8_call TX8_run) Q) Q ls st μ := ix_Ev.eq H rfl ls st μ
theorem e_X8_call_47 {TX8_run : Nat × Int32 × Int32 × Int32 × Int32 → ix_M → (ix_R → Prop) → Prop} {l : Launch} {d : Nat} (H : ix_AllS l cX8_call 8 RX8 d (some .int) (o_X8_call TX8_run)) (Q : ix_R → Prop) (ls : ix_L) (st : List ix_V) (μ : ix_M) : ix_Ev (o_X8_call TX8_run) Q (47, ls, st, μ) = ix_aload 0 48 (ix_Ev (o_X8_call TX8_run) Q) Q ls st μ := ix_Ev.eq H rfl ls st μ
theorem e_X8_call_48 {TX8_run : Nat × Int32 × Int32 × Int32 × Int32 → ix_M → (ix_R → Prop) → Prop} {l : Launch} {d : Nat} (H : ix_AllS l cX8_call 8 RX8 d (some .int) (o_X8_call TX8_run)) (Q : ix_R → Prop) (ls : ix_L) (st : List ix_V) (μ : ix_M) : ix_Ev (o_X8_call TX8_run) Q (48, ls, st, μ) = ix_iload 7 50 (ix_Ev (o_X8_call TX8_run) Q) Q ls st μ := ix_Ev.eq H rfl ls st μ
theorem e_X8_call_50 {TX8_run : Nat × Int32 × Int32 × Int32 × Int32 → ix_M → (ix_R → Prop) → Prop} {l : Launch} {d : Nat} (H : ix_AllS l cX8_call 8 RX8 d (some .int) (o_X8_call TX8_run)) (Q : ix_R → Prop) (ls : ix_L) (st : List ix_V) (μ : ix_M) : ix_Ev (o_X8_call TX8_run) Q (50, ls, st, μ) = ix_iload 5 52 (ix_Ev (o_X8_call TX8_run) Q) Q ls st μ := ix_Ev.eq H rfl ls st μ
theorem e_X8_call_52 {TX8_run : Nat × Int32 × Int32 × Int32 × Int32 → ix_M → (ix_R → Prop) → Prop} {l : Launch} {d : Nat} (H : ix_AllS l cX8_call 8 RX8 d (some .int) (o_X8_call TX8_run)) (Q : ix_R → Prop) (ls : ix_L) (st : List ix_V) (μ : ix_M) : ix_Ev (o_X8_call TX8_run) Q (52, ls, st, μ) = ix_iload 3 53 (ix_Ev (o_X8_call TX8_run) Q) Q ls st μ := ix_Ev.eq H rfl ls st μ
theorem e_X8_call_53 {TX8_run : Nat × Int32 × Int32 × Int32 × Int32 → ix_M → (ix_R → Prop) → Prop} {l : Launch} {d : Nat} (H : ix_AllS l cX8_call 8 RX8 d (some .int) (o_X8_call TX8_run)) (Q : ix_R → Prop) (ls : ix_L) (st : List ix_V) (μ : ix_M) : ix_Ev (o_X8_call TX8_run) Q (53, ls, st, μ) = ix_iload 4 55 (ix_Ev (o_X8_call TX8_run) Q) Q ls st μ := ix_Ev.eq H rfl ls st μ
theorem e_X8_call_55 {TX8_run : Nat × Int32 × Int32 × Int32 × Int32 → ix_M → (ix_R → Prop) → Prop} {l : Launch} {d : Nat} (H : ix_AllS l cX8_call 8 RX8 d (some .int) (o_X8_call TX8_run)) (Q : ix_R → Prop) (ls : ix_L) (st : List ix_V) (μ : ix_M) : ix_Ev (o_X8_call TX8_run) Q (55, ls, st, μ) = ix_push (vi 1) 56 (ix_Ev (o_X8_call TX8_run) Q) Q ls st μ := ix_Ev.eq H rfl ls st μ
theorem e_X8_call_56 {TX8_run : Nat × Int32 × Int32 × Int32 × Int32 → ix_M → (ix_R → Prop) → Prop} {l : Launch} {d : Nat} (H : ix_AllS l cX8_call 8 RX8 d (some .int) (o_X8_call TX8_run)) (Q : ix_R → Prop) (ls : ix_L) (st : List ix_V) (μ : ix_M) : ix_Ev (o_X8_call TX8_run) Q (56, ls, st, μ) = ix_bin (fun x y => x + y) 57 (ix_Ev (o_X8_call TX8_run) Q) Q ls st μ := ix_Ev.eq H rfl ls st μ
theorem e_X8_call_57 {TX8_run : Nat × Int32 × Int32 × Int32 × Int32 → ix_M → (ix_R → Prop) → Prop} {l : Launch} {d : Nat} (H : ix_AllS l cX8_call 8 RX8 d (some .int) (o_X8_call TX8_run)) (Q : ix_R → Prop) (ls : ix_L) (st : List ix_V) (μ : ix_M) : ix_Ev (o_X8_call TX8_run) Q (57, ls, st, μ) = ocr_X8_run TX8_run 60 (ix_Ev (o_X8_call TX8_run) Q) Q ls st μ := ix_Ev.eq H rfl ls st μ
theorem e_X8_call_60 {TX8_run : Nat × Int32 × Int32 × Int32 × Int32 → ix_M → (ix_R → Prop) → Prop} {l : Launch} {d : Nat} (H : ix_AllS l cX8_call 8 RX8 d (some .int) (o_X8_call TX8_run)) (Q : ix_R → Prop) (ls : ix_L) (st : List ix_V) (μ : ix_M) : ix_Ev (o_X8_call TX8_run) Q (60, ls, st, μ) = ix_iret (ix_Ev (o_X8_call TX8_run) Q) Q ls st μ := ix_Ev.eq H rfl ls st μ
theorem e_X8_call_61 {TX8_run : Nat × Int32 × Int32 × Int32 × Int32 → ix_M → (ix_R → Prop) → Prop} {l : Launch} {d : Nat} (H : ix_AllS l cX8_call 8 RX8 d (some .int) (o_X8_call TX8_run)) (Q : ix_R → Prop) (ls : ix_L) (st : List ix_V) (μ : ix_M) : ix_Ev (o_X8_call TX8_run) Q (61, ls, st, μ) = ix_iload 5 63 (ix_Ev (o_X8_call TX8_run) Q) Q ls st μ := ix_Ev.eq H rfl ls st μ
theorem e_X8_call_63 {TX8_run : Nat × Int32 × Int32 × Int32 × Int32 → ix_M → (ix_R → Prop) → Prop} {l : Launch} {d : Nat} (H : ix_AllS l cX8_call 8 RX8 d (some .int) (o_X8_call TX8_run)) (Q : ix_R → Prop) (ls : ix_L) (st : List ix_V) (μ : ix_M) : ix_Ev (o_X8_call TX8_run) Q (63, ls, st, μ) = oc_X0_above 66 (ix_Ev (o_X8_call TX8_run) Q) Q ls st μ := ix_Ev.eq H rfl ls st μ
theorem e_X8_call_66 {TX8_run : Nat × Int32 × Int32 × Int32 × Int32 → ix_M → (ix_R → Prop) → Prop} {l : Launch} {d : Nat} (H : ix_AllS l cX8_call 8 RX8 d (some .int) (o_X8_call TX8_run)) (Q : ix_R → Prop) (ls : ix_L) (st : List ix_V) (μ : ix_M) : ix_Ev (o_X8_call TX8_run) Q (66, ls, st, μ) = ix_istore 5 68 (ix_Ev (o_X8_call TX8_run) Q) Q ls st μ := ix_Ev.eq H rfl ls st μ
theorem e_X8_call_68 {TX8_run : Nat × Int32 × Int32 × Int32 × Int32 → ix_M → (ix_R → Prop) → Prop} {l : Launch} {d : Nat} (H : ix_AllS l cX8_call 8 RX8 d (some .int) (o_X8_call TX8_run)) (Q : ix_R → Prop) (ls : ix_L) (st : List ix_V) (μ : ix_M) : ix_Ev (o_X8_call TX8_run) Q (68, ls, st, μ) = ix_iinc 6 1 71 (ix_Ev (o_X8_call TX8_run) Q) Q ls st μ := ix_Ev.eq H rfl ls st μ
theorem e_X8_call_71 {TX8_run : Nat × Int32 × Int32 × Int32 × Int32 → ix_M → (ix_R → Prop) → Prop} {l : Launch} {d : Nat} (H : ix_AllS l cX8_call 8 RX8 d (some .int) (o_X8_call TX8_run)) (Q : ix_R → Prop) (ls : ix_L) (st : List ix_V) (μ : ix_M) : ix_Ev (o_X8_call TX8_run) Q (71, ls, st, μ) = ix_goto 6 (ix_Ev (o_X8_call TX8_run) Q) Q ls st μ := ix_Ev.eq H rfl ls st μ
theorem e_X8_call_74 {TX8_run : Nat × Int32 × Int32 × Int32 × Int32 → ix_M → (ix_R → Prop) → Prop} {l : Launch} {d : Nat} (H : ix_AllS l cX8_call 8 RX8 d (some .int) (o_X8_call TX8_run)) (Q : ix_R → Prop) (ls : ix_L) (st : List ix_V) (μ : ix_M) : ix_Ev (o_X8_call TX8_run) Q (74, ls, st, μ) = ix_push (vi 0) 75 (ix_Ev (o_X8_call TX8_run) Q) Q ls st μ := ix_Ev.eq H rfl ls st μ
theorem e_X8_call_75 {TX8_run : Nat × Int32 × Int32 × Int32 × Int32 → ix_M → (ix_R → Prop) → Prop} {l : Launch} {d : Nat} (H : ix_AllS l cX8_call 8 RX8 d (some .int) (o_X8_call TX8_run)) (Q : ix_R → Prop) (ls : ix_L) (st : List ix_V) (μ : ix_M) : ix_Ev (o_X8_call TX8_run) Q (75, ls, st, μ) = ix_iret (ix_Ev (o_X8_call TX8_run) Q) Q ls st μ := ix_Ev.eq H rfl ls st μ
def o_X8_run (TX8_call : Nat × Int32 × Int32 × Int32 × Int32 → ix_M → (ix_R → Prop) → Prop) : List (Nat × ix_Op) := [
  (0, ix_iload 2 1),
  (1, oc_X0_above 4),
  (4, ix_istore 5 6),
  (6, ix_iload 1 7),
  (7, ix_switch [(10, 104), (11, 111), (12, 126), (13, 133), (20, 159), (30, 172), (40, 196), (50, 208), (60, 232), (70, 245), (71, 261)] 285),
  (104, ix_iload 3 105),
  (105, ix_aload 0 106),
  (106, ix_geti 7 1 109),
  (109, ix_bin (fun x y => x + y) 110),
  (110, ix_iret),
  (111, ix_aload 0 112),
  (112, ix_aload 0 113),
  (113, ix_geti 7 2 116),
  (116, ix_push (vi 0) 117),
  (117, ix_iload 3 118),
  (118, ix_iload 4 120),
  (120, ocr_X8_call TX8_call 123),
  (123, ix_push (vi 2) 124),
  (124, ix_bin (fun x y => x * y) 125),
  (125, ix_iret),
  (126, ix_iload 3 127),
  (127, ix_aload 0 128),
  (128, ix_geti 7 3 131),
  (131, ix_bin (fun x y => x - y) 132),
  (132, ix_iret),
  (133, ix_aload 0 134),
  (134, ix_aload 0 135),
  (135, ix_geti 7 2 138),
  (138, ix_push (vi 1) 139),
  (139, ix_iload 3 140),
  (140, ix_iload 4 142),
  (142, ocr_X8_call TX8_call 145),
  (145, ix_aload 0 146),
  (146, ix_aload 0 147),
  (147, ix_geti 7 2 150),
  (150, ix_push (vi 2) 151),
  (151, ix_iload 3 152),
  (152, ix_iload 4 154),
  (154, ocr_X8_call TX8_call 157),
  (157, ix_bin (fun x y => x ^^^ y) 158),
  (158, ix_iret),
  (159, ix_aload 0 160),
  (160, ix_iload 5 162),
  (162, ix_push (vi 0) 163),
  (163, ix_iload 3 164),
  (164, ix_iload 4 166),
  (166, ocr_X8_call TX8_call 169),
  (169, ix_push (vi 3) 170),
  (170, ix_bin (fun x y => x * y) 171),
  (171, ix_iret),
  (172, ix_aload 0 173),
  (173, ix_iload 5 175),
  (175, ix_push (vi 1) 176),
  (176, ix_iload 3 177),
  (177, ix_iload 4 179),
  (179, ocr_X8_call TX8_call 182),
  (182, ix_aload 0 183),
  (183, ix_aload 0 184),
  (184, ix_geti 7 2 187),
  (187, ix_push (vi 2) 188),
  (188, ix_push (vi 1) 189),
  (189, ix_iload 4 191),
  (191, ocr_X8_call TX8_call 194),
  (194, ix_bin (fun x y => x - y) 195),
  (195, ix_iret),
  (196, ix_aload 0 197),
  (197, ix_iload 5 199),
  (199, ix_push (vi 2) 200),
  (200, ix_iload 3 201),
  (201, ix_iload 4 203),
  (203, ocr_X8_call TX8_call 206),
  (206, ix_un (fun x => -x) 207),
  (207, ix_iret),
  (208, ix_aload 0 209),
  (209, ix_iload 5 211),
  (211, ix_push (vi 3) 212),
  (212, ix_iload 3 213),
  (213, ix_iload 4 215),
  (215, ocr_X8_call TX8_call 218),
  (218, ix_aload 0 219),
  (219, ix_aload 0 220),
  (220, ix_geti 7 2 223),
  (223, ix_push (vi 0) 224),
  (224, ix_push (vi 2) 225),
  (225, ix_iload 4 227),
  (227, ocr_X8_call TX8_call 230),
  (230, ix_bin (fun x y => x - y) 231),
  (231, ix_iret),
  (232, ix_aload 0 233),
  (233, ix_iload 5 235),
  (235, ix_push (vi 1) 236),
  (236, ix_iload 3 237),
  (237, ix_push (vi 1) 238),
  (238, ix_bin (fun x y => x + y) 239),
  (239, ix_iload 4 241),
  (241, ocr_X8_call TX8_call 244),
  (244, ix_iret),
  (245, ix_aload 0 246),
  (246, ix_iload 5 248),
  (248, ix_push (vi 2) 249),
  (249, ix_iload 3 250),
  (250, ix_iload 4 252),
  (252, ocr_X8_call TX8_call 255),
  (255, ix_aload 0 256),
  (256, ix_geti 7 1 259),
  (259, ix_bin (fun x y => x ^^^ y) 260),
  (260, ix_iret),
  (261, ix_aload 0 262),
  (262, ix_aload 0 263),
  (263, ix_geti 7 2 266),
  (266, ix_push (vi 1) 267),
  (267, ix_iload 3 268),
  (268, ix_iload 4 270),
  (270, ocr_X8_call TX8_call 273),
  (273, ix_aload 0 274),
  (274, ix_iload 5 276),
  (276, ix_push (vi 3) 277),
  (277, ix_iload 3 278),
  (278, ix_iload 4 280),
  (280, ocr_X8_call TX8_call 283),
  (283, ix_bin (fun x y => x - y) 284),
  (284, ix_iret),
  (285, ix_push (vi 0) 286),
  (286, ix_iret)]
set_option maxRecDepth 20000 in
theorem a_X8_run (l : Launch) (d : Nat) (hlev : 2 ≤ d) {TX8_call : Nat × Int32 × Int32 × Int32 × Int32 → ix_M → (ix_R → Prop) → Prop} {d_X8_call : Nat} (h_X8_call : ix_Ct l yX8_call cX8_call 8 (some .int) d_X8_call sh_X8_call TX8_call) (hl_X8_call : d_X8_call < d) (hm_X8_call : ∀ x μ Q Q', (∀ r, Q r → Q' r) → TX8_call x μ Q → TX8_call x μ Q') : ix_AllS l cX8_run 6 RX8 d (some .int) (o_X8_run TX8_call) :=
  .cons (ix_s_iload_n dX8_run_0 rfl) <|
  .cons (oc_X0_above_s (ix_s_calls (k_X0_above l) (by omega) (by decide) tw_428 tw_13 tw_785 tw_427 ⟨by decide, by decide, by decide +kernel⟩ (fun _ => rfl) dX8_run_1)) <|
  .cons (ix_s_istore dX8_run_4 (by decide)) <|
  .cons (ix_s_iload_n dX8_run_6 rfl) <|
  .cons (ix_s_lkp dX8_run_7 (by decide) (by decide +kernel) rfl (by decide +kernel)) <|
  .cons (ix_s_iload_n dX8_run_104 rfl) <|
  .cons (ix_s_aload_n dX8_run_105 rfl) <|
  .cons (ix_s_geti (j := 1) tu_X8 rfl (by decide) (by decide) tw_201 rfl ts_7_1_i dX8_run_106) <|
  .cons (ix_s_iadd dX8_run_109) <|
  .cons (ix_s_iret dX8_run_110 rfl) <|
  .cons (ix_s_aload_n dX8_run_111 rfl) <|
  .cons (ix_s_aload_n dX8_run_112 rfl) <|
  .cons (ix_s_geti (j := 2) tu_X8 rfl (by decide) (by decide) tw_202 rfl ts_7_2_i dX8_run_113) <|
  .cons (ix_s_iconst dX8_run_116 (by decide +kernel)) <|
  .cons (ix_s_iload_n dX8_run_117 rfl) <|
  .cons (ix_s_iload dX8_run_118) <|
  .cons (ocr_X8_call_s hm_X8_call (ix_s_callv (t := 7) h_X8_call hl_X8_call (by decide) tw_776 tw_9 tw_773 tw_775 tp_16 ⟨by decide, by decide, by decide +kernel⟩ (by decide) rfl rfl (fun _ => ⟨_, _, rfl, rfl⟩) dX8_run_120)) <|
  .cons (ix_s_iconst dX8_run_123 (by decide +kernel)) <|
  .cons (ix_s_imul dX8_run_124) <|
  .cons (ix_s_iret dX8_run_125 rfl) <|
  .cons (ix_s_iload_n dX8_run_126 rfl) <|
  .cons (ix_s_aload_n dX8_run_127 rfl) <|
  .cons (ix_s_geti (j := 3) tu_X8 rfl (by decide) (by decide) tw_203 rfl ts_7_3_i dX8_run_128) <|
  .cons (ix_s_isub dX8_run_131) <|
  .cons (ix_s_iret dX8_run_132 rfl) <|
  .cons (ix_s_aload_n dX8_run_133 rfl) <|
  .cons (ix_s_aload_n dX8_run_134 rfl) <|
  .cons (ix_s_geti (j := 2) tu_X8 rfl (by decide) (by decide) tw_202 rfl ts_7_2_i dX8_run_135) <|
  .cons (ix_s_iconst dX8_run_138 (by decide +kernel)) <|
  .cons (ix_s_iload_n dX8_run_139 rfl) <|
  .cons (ix_s_iload dX8_run_140) <|
  .cons (ocr_X8_call_s hm_X8_call (ix_s_callv (t := 7) h_X8_call hl_X8_call (by decide) tw_776 tw_9 tw_773 tw_775 tp_16 ⟨by decide, by decide, by decide +kernel⟩ (by decide) rfl rfl (fun _ => ⟨_, _, rfl, rfl⟩) dX8_run_142)) <|
  .cons (ix_s_aload_n dX8_run_145 rfl) <|
  .cons (ix_s_aload_n dX8_run_146 rfl) <|
  .cons (ix_s_geti (j := 2) tu_X8 rfl (by decide) (by decide) tw_202 rfl ts_7_2_i dX8_run_147) <|
  .cons (ix_s_iconst dX8_run_150 (by decide +kernel)) <|
  .cons (ix_s_iload_n dX8_run_151 rfl) <|
  .cons (ix_s_iload dX8_run_152) <|
  .cons (ocr_X8_call_s hm_X8_call (ix_s_callv (t := 7) h_X8_call hl_X8_call (by decide) tw_776 tw_9 tw_773 tw_775 tp_16 ⟨by decide, by decide, by decide +kernel⟩ (by decide) rfl rfl (fun _ => ⟨_, _, rfl, rfl⟩) dX8_run_154)) <|
  .cons (ix_s_ixor dX8_run_157) <|
  .cons (ix_s_iret dX8_run_158 rfl) <|
  .cons (ix_s_aload_n dX8_run_159 rfl) <|
  .cons (ix_s_iload dX8_run_160) <|
  .cons (ix_s_iconst dX8_run_162 (by decide +kernel)) <|
  .cons (ix_s_iload_n dX8_run_163 rfl) <|
  .cons (ix_s_iload dX8_run_164) <|
  .cons (ocr_X8_call_s hm_X8_call (ix_s_callv (t := 7) h_X8_call hl_X8_call (by decide) tw_776 tw_9 tw_773 tw_775 tp_16 ⟨by decide, by decide, by decide +kernel⟩ (by decide) rfl rfl (fun _ => ⟨_, _, rfl, rfl⟩) dX8_run_166)) <|
  .cons (ix_s_iconst dX8_run_169 (by decide +kernel)) <|
  .cons (ix_s_imul dX8_run_170) <|
  .cons (ix_s_iret dX8_run_171 rfl) <|
  .cons (ix_s_aload_n dX8_run_172 rfl) <|
  .cons (ix_s_iload dX8_run_173) <|
  .cons (ix_s_iconst dX8_run_175 (by decide +kernel)) <|
  .cons (ix_s_iload_n dX8_run_176 rfl) <|
  .cons (ix_s_iload dX8_run_177) <|
  .cons (ocr_X8_call_s hm_X8_call (ix_s_callv (t := 7) h_X8_call hl_X8_call (by decide) tw_776 tw_9 tw_773 tw_775 tp_16 ⟨by decide, by decide, by decide +kernel⟩ (by decide) rfl rfl (fun _ => ⟨_, _, rfl, rfl⟩) dX8_run_179)) <|
  .cons (ix_s_aload_n dX8_run_182 rfl) <|
  .cons (ix_s_aload_n dX8_run_183 rfl) <|
  .cons (ix_s_geti (j := 2) tu_X8 rfl (by decide) (by decide) tw_202 rfl ts_7_2_i dX8_run_184) <|
  .cons (ix_s_iconst dX8_run_187 (by decide +kernel)) <|
  .cons (ix_s_iconst dX8_run_188 (by decide +kernel)) <|
  .cons (ix_s_iload dX8_run_189) <|
  .cons (ocr_X8_call_s hm_X8_call (ix_s_callv (t := 7) h_X8_call hl_X8_call (by decide) tw_776 tw_9 tw_773 tw_775 tp_16 ⟨by decide, by decide, by decide +kernel⟩ (by decide) rfl rfl (fun _ => ⟨_, _, rfl, rfl⟩) dX8_run_191)) <|
  .cons (ix_s_isub dX8_run_194) <|
  .cons (ix_s_iret dX8_run_195 rfl) <|
  .cons (ix_s_aload_n dX8_run_196 rfl) <|
  .cons (ix_s_iload dX8_run_197) <|
  .cons (ix_s_iconst dX8_run_199 (by decide +kernel)) <|
  .cons (ix_s_iload_n dX8_run_200 rfl) <|
  .cons (ix_s_iload dX8_run_201) <|
  .cons (ocr_X8_call_s hm_X8_call (ix_s_callv (t := 7) h_X8_call hl_X8_call (by decide) tw_776 tw_9 tw_773 tw_775 tp_16 ⟨by decide, by decide, by decide +kernel⟩ (by decide) rfl rfl (fun _ => ⟨_, _, rfl, rfl⟩) dX8_run_203)) <|
  .cons (ix_s_ineg dX8_run_206) <|
  .cons (ix_s_iret dX8_run_207 rfl) <|
  .cons (ix_s_aload_n dX8_run_208 rfl) <|
  .cons (ix_s_iload dX8_run_209) <|
  .cons (ix_s_iconst dX8_run_211 (by decide +kernel)) <|
  .cons (ix_s_iload_n dX8_run_212 rfl) <|
  .cons (ix_s_iload dX8_run_213) <|
  .cons (ocr_X8_call_s hm_X8_call (ix_s_callv (t := 7) h_X8_call hl_X8_call (by decide) tw_776 tw_9 tw_773 tw_775 tp_16 ⟨by decide, by decide, by decide +kernel⟩ (by decide) rfl rfl (fun _ => ⟨_, _, rfl, rfl⟩) dX8_run_215)) <|
  .cons (ix_s_aload_n dX8_run_218 rfl) <|
  .cons (ix_s_aload_n dX8_run_219 rfl) <|
  .cons (ix_s_geti (j := 2) tu_X8 rfl (by decide) (by decide) tw_202 rfl ts_7_2_i dX8_run_220) <|
  .cons (ix_s_iconst dX8_run_223 (by decide +kernel)) <|
  .cons (ix_s_iconst dX8_run_224 (by decide +kernel)) <|
  .cons (ix_s_iload dX8_run_225) <|
  .cons (ocr_X8_call_s hm_X8_call (ix_s_callv (t := 7) h_X8_call hl_X8_call (by decide) tw_776 tw_9 tw_773 tw_775 tp_16 ⟨by decide, by decide, by decide +kernel⟩ (by decide) rfl rfl (fun _ => ⟨_, _, rfl, rfl⟩) dX8_run_227)) <|
  .cons (ix_s_isub dX8_run_230) <|
  .cons (ix_s_iret dX8_run_231 rfl) <|
  .cons (ix_s_aload_n dX8_run_232 rfl) <|
  .cons (ix_s_iload dX8_run_233) <|
  .cons (ix_s_iconst dX8_run_235 (by decide +kernel)) <|
  .cons (ix_s_iload_n dX8_run_236 rfl) <|
  .cons (ix_s_iconst dX8_run_237 (by decide +kernel)) <|
  .cons (ix_s_iadd dX8_run_238) <|
  .cons (ix_s_iload dX8_run_239) <|
  .cons (ocr_X8_call_s hm_X8_call (ix_s_callv (t := 7) h_X8_call hl_X8_call (by decide) tw_776 tw_9 tw_773 tw_775 tp_16 ⟨by decide, by decide, by decide +kernel⟩ (by decide) rfl rfl (fun _ => ⟨_, _, rfl, rfl⟩) dX8_run_241)) <|
  .cons (ix_s_iret dX8_run_244 rfl) <|
  .cons (ix_s_aload_n dX8_run_245 rfl) <|
  .cons (ix_s_iload dX8_run_246) <|
  .cons (ix_s_iconst dX8_run_248 (by decide +kernel)) <|
  .cons (ix_s_iload_n dX8_run_249 rfl) <|
  .cons (ix_s_iload dX8_run_250) <|
  .cons (ocr_X8_call_s hm_X8_call (ix_s_callv (t := 7) h_X8_call hl_X8_call (by decide) tw_776 tw_9 tw_773 tw_775 tp_16 ⟨by decide, by decide, by decide +kernel⟩ (by decide) rfl rfl (fun _ => ⟨_, _, rfl, rfl⟩) dX8_run_252)) <|
  .cons (ix_s_aload_n dX8_run_255 rfl) <|
  .cons (ix_s_geti (j := 1) tu_X8 rfl (by decide) (by decide) tw_201 rfl ts_7_1_i dX8_run_256) <|
  .cons (ix_s_ixor dX8_run_259) <|
  .cons (ix_s_iret dX8_run_260 rfl) <|
  .cons (ix_s_aload_n dX8_run_261 rfl) <|
  .cons (ix_s_aload_n dX8_run_262 rfl) <|
  .cons (ix_s_geti (j := 2) tu_X8 rfl (by decide) (by decide) tw_202 rfl ts_7_2_i dX8_run_263) <|
  .cons (ix_s_iconst dX8_run_266 (by decide +kernel)) <|
  .cons (ix_s_iload_n dX8_run_267 rfl) <|
  .cons (ix_s_iload dX8_run_268) <|
  .cons (ocr_X8_call_s hm_X8_call (ix_s_callv (t := 7) h_X8_call hl_X8_call (by decide) tw_776 tw_9 tw_773 tw_775 tp_16 ⟨by decide, by decide, by decide +kernel⟩ (by decide) rfl rfl (fun _ => ⟨_, _, rfl, rfl⟩) dX8_run_270)) <|
  .cons (ix_s_aload_n dX8_run_273 rfl) <|
  .cons (ix_s_iload dX8_run_274) <|
  .cons (ix_s_iconst dX8_run_276 (by decide +kernel)) <|
  .cons (ix_s_iload_n dX8_run_277 rfl) <|
  .cons (ix_s_iload dX8_run_278) <|
  .cons (ocr_X8_call_s hm_X8_call (ix_s_callv (t := 7) h_X8_call hl_X8_call (by decide) tw_776 tw_9 tw_773 tw_775 tp_16 ⟨by decide, by decide, by decide +kernel⟩ (by decide) rfl rfl (fun _ => ⟨_, _, rfl, rfl⟩) dX8_run_280)) <|
  .cons (ix_s_isub dX8_run_283) <|
  .cons (ix_s_iret dX8_run_284 rfl) <|
  .cons (ix_s_iconst dX8_run_285 (by decide +kernel)) <|
  .cons (ix_s_iret dX8_run_286 rfl) <| .nil
set_option maxRecDepth 20000 in
theorem e_X8_run_0 {TX8_call : Nat × Int32 × Int32 × Int32 × Int32 → ix_M → (ix_R → Prop) → Prop} {l : Launch} {d : Nat} (H : ix_AllS l cX8_run 6 RX8 d (some .int) (o_X8_run TX8_call)) (Q : ix_R → Prop) (ls : ix_L) (st : List ix_V) (μ : ix_M) : ix_Ev (o_X8_run TX8_call) Q (0, ls, st, μ) = ix_iload 2 1 (ix_Ev (o_X8_run TX8_call) Q) Q ls st μ := ix_Ev.eq H rfl ls st μ
set_option maxRecDepth 20000 in
theorem e_X8_run_1 {TX8_call : Nat × Int32 × Int32 × Int32 × Int32 → ix_M → (ix_R → Prop) → Prop} {l : Launch} {d : Nat} (H : ix_AllS l cX8_run 6 RX8 d (some .int) (o_X8_run TX8_call)) (Q : ix_R → Prop) (ls : ix_L) (st : List ix_V) (μ : ix_M) : ix_Ev (o_X8_run TX8_call) Q (1, ls, st, μ) = oc_X0_above 4 (ix_Ev (o_X8_run TX8_call) Q) Q ls st μ := ix_Ev.eq H rfl ls st μ
set_option maxRecDepth 20000 in
theorem e_X8_run_4 {TX8_call : Nat × Int32 × Int32 × Int32 × Int32 → ix_M → (ix_R → Prop) → Prop} {l : Launch} {d : Nat} (H : ix_AllS l cX8_run 6 RX8 d (some .int) (o_X8_run TX8_call)) (Q : ix_R → Prop) (ls : ix_L) (st : List ix_V) (μ : ix_M) : ix_Ev (o_X8_run TX8_call) Q (4, ls, st, μ) = ix_istore 5 6 (ix_Ev (o_X8_run TX8_call) Q) Q ls st μ := ix_Ev.eq H rfl ls st μ
set_option maxRecDepth 20000 in
theorem e_X8_run_6 {TX8_call : Nat × Int32 × Int32 × Int32 × Int32 → ix_M → (ix_R → Prop) → Prop} {l : Launch} {d : Nat} (H : ix_AllS l cX8_run 6 RX8 d (some .int) (o_X8_run TX8_call)) (Q : ix_R → Prop) (ls : ix_L) (st : List ix_V) (μ : ix_M) : ix_Ev (o_X8_run TX8_call) Q (6, ls, st, μ) = ix_iload 1 7 (ix_Ev (o_X8_run TX8_call) Q) Q ls st μ := ix_Ev.eq H rfl ls st μ
set_option maxRecDepth 20000 in
theorem e_X8_run_7 {TX8_call : Nat × Int32 × Int32 × Int32 × Int32 → ix_M → (ix_R → Prop) → Prop} {l : Launch} {d : Nat} (H : ix_AllS l cX8_run 6 RX8 d (some .int) (o_X8_run TX8_call)) (Q : ix_R → Prop) (ls : ix_L) (st : List ix_V) (μ : ix_M) : ix_Ev (o_X8_run TX8_call) Q (7, ls, st, μ) = ix_switch [(10, 104), (11, 111), (12, 126), (13, 133), (20, 159), (30, 172), (40, 196), (50, 208), (60, 232), (70, 245), (71, 261)] 285 (ix_Ev (o_X8_run TX8_call) Q) Q ls st μ := ix_Ev.eq H rfl ls st μ
set_option maxRecDepth 20000 in
theorem e_X8_run_104 {TX8_call : Nat × Int32 × Int32 × Int32 × Int32 → ix_M → (ix_R → Prop) → Prop} {l : Launch} {d : Nat} (H : ix_AllS l cX8_run 6 RX8 d (some .int) (o_X8_run TX8_call)) (Q : ix_R → Prop) (ls : ix_L) (st : List ix_V) (μ : ix_M) : ix_Ev (o_X8_run TX8_call) Q (104, ls, st, μ) = ix_iload 3 105 (ix_Ev (o_X8_run TX8_call) Q) Q ls st μ := ix_Ev.eq H rfl ls st μ
set_option maxRecDepth 20000 in
theorem e_X8_run_105 {TX8_call : Nat × Int32 × Int32 × Int32 × Int32 → ix_M → (ix_R → Prop) → Prop} {l : Launch} {d : Nat} (H : ix_AllS l cX8_run 6 RX8 d (some .int) (o_X8_run TX8_call)) (Q : ix_R → Prop) (ls : ix_L) (st : List ix_V) (μ : ix_M) : ix_Ev (o_X8_run TX8_call) Q (105, ls, st, μ) = ix_aload 0 106 (ix_Ev (o_X8_run TX8_call) Q) Q ls st μ := ix_Ev.eq H rfl ls st μ
set_option maxRecDepth 20000 in
theorem e_X8_run_106 {TX8_call : Nat × Int32 × Int32 × Int32 × Int32 → ix_M → (ix_R → Prop) → Prop} {l : Launch} {d : Nat} (H : ix_AllS l cX8_run 6 RX8 d (some .int) (o_X8_run TX8_call)) (Q : ix_R → Prop) (ls : ix_L) (st : List ix_V) (μ : ix_M) : ix_Ev (o_X8_run TX8_call) Q (106, ls, st, μ) = ix_geti 7 1 109 (ix_Ev (o_X8_run TX8_call) Q) Q ls st μ := ix_Ev.eq H rfl ls st μ
set_option maxRecDepth 20000 in
theorem e_X8_run_109 {TX8_call : Nat × Int32 × Int32 × Int32 × Int32 → ix_M → (ix_R → Prop) → Prop} {l : Launch} {d : Nat} (H : ix_AllS l cX8_run 6 RX8 d (some .int) (o_X8_run TX8_call)) (Q : ix_R → Prop) (ls : ix_L) (st : List ix_V) (μ : ix_M) : ix_Ev (o_X8_run TX8_call) Q (109, ls, st, μ) = ix_bin (fun x y => x + y) 110 (ix_Ev (o_X8_run TX8_call) Q) Q ls st μ := ix_Ev.eq H rfl ls st μ
set_option maxRecDepth 20000 in
theorem e_X8_run_110 {TX8_call : Nat × Int32 × Int32 × Int32 × Int32 → ix_M → (ix_R → Prop) → Prop} {l : Launch} {d : Nat} (H : ix_AllS l cX8_run 6 RX8 d (some .int) (o_X8_run TX8_call)) (Q : ix_R → Prop) (ls : ix_L) (st : List ix_V) (μ : ix_M) : ix_Ev (o_X8_run TX8_call) Q (110, ls, st, μ) = ix_iret (ix_Ev (o_X8_run TX8_call) Q) Q ls st μ := ix_Ev.eq H rfl ls st μ
set_option maxRecDepth 20000 in
theorem e_X8_run_111 {TX8_call : Nat × Int32 × Int32 × Int32 × Int32 → ix_M → (ix_R → Prop) → Prop} {l : Launch} {d : Nat} (H : ix_AllS l cX8_run 6 RX8 d (some .int) (o_X8_run TX8_call)) (Q : ix_R → Prop) (ls : ix_L) (st : List ix_V) (μ : ix_M) : ix_Ev (o_X8_run TX8_call) Q (111, ls, st, μ) = ix_aload 0 112 (ix_Ev (o_X8_run TX8_call) Q) Q ls st μ := ix_Ev.eq H rfl ls st μ
set_option maxRecDepth 20000 in
theorem e_X8_run_112 {TX8_call : Nat × Int32 × Int32 × Int32 × Int32 → ix_M → (ix_R → Prop) → Prop} {l : Launch} {d : Nat} (H : ix_AllS l cX8_run 6 RX8 d (some .int) (o_X8_run TX8_call)) (Q : ix_R → Prop) (ls : ix_L) (st : List ix_V) (μ : ix_M) : ix_Ev (o_X8_run TX8_call) Q (112, ls, st, μ) = ix_aload 0 113 (ix_Ev (o_X8_run TX8_call) Q) Q ls st μ := ix_Ev.eq H rfl ls st μ
set_option maxRecDepth 20000 in
theorem e_X8_run_113 {TX8_call : Nat × Int32 × Int32 × Int32 × Int32 → ix_M → (ix_R → Prop) → Prop} {l : Launch} {d : Nat} (H : ix_AllS l cX8_run 6 RX8 d (some .int) (o_X8_run TX8_call)) (Q : ix_R → Prop) (ls : ix_L) (st : List ix_V) (μ : ix_M) : ix_Ev (o_X8_run TX8_call) Q (113, ls, st, μ) = ix_geti 7 2 116 (ix_Ev (o_X8_run TX8_call) Q) Q ls st μ := ix_Ev.eq H rfl ls st μ
set_option maxRecDepth 20000 in
theorem e_X8_run_116 {TX8_call : Nat × Int32 × Int32 × Int32 × Int32 → ix_M → (ix_R → Prop) → Prop} {l : Launch} {d : Nat} (H : ix_AllS l cX8_run 6 RX8 d (some .int) (o_X8_run TX8_call)) (Q : ix_R → Prop) (ls : ix_L) (st : List ix_V) (μ : ix_M) : ix_Ev (o_X8_run TX8_call) Q (116, ls, st, μ) = ix_push (vi 0) 117 (ix_Ev (o_X8_run TX8_call) Q) Q ls st μ := ix_Ev.eq H rfl ls st μ
set_option maxRecDepth 20000 in
theorem e_X8_run_117 {TX8_call : Nat × Int32 × Int32 × Int32 × Int32 → ix_M → (ix_R → Prop) → Prop} {l : Launch} {d : Nat} (H : ix_AllS l cX8_run 6 RX8 d (some .int) (o_X8_run TX8_call)) (Q : ix_R → Prop) (ls : ix_L) (st : List ix_V) (μ : ix_M) : ix_Ev (o_X8_run TX8_call) Q (117, ls, st, μ) = ix_iload 3 118 (ix_Ev (o_X8_run TX8_call) Q) Q ls st μ := ix_Ev.eq H rfl ls st μ
set_option maxRecDepth 20000 in
theorem e_X8_run_118 {TX8_call : Nat × Int32 × Int32 × Int32 × Int32 → ix_M → (ix_R → Prop) → Prop} {l : Launch} {d : Nat} (H : ix_AllS l cX8_run 6 RX8 d (some .int) (o_X8_run TX8_call)) (Q : ix_R → Prop) (ls : ix_L) (st : List ix_V) (μ : ix_M) : ix_Ev (o_X8_run TX8_call) Q (118, ls, st, μ) = ix_iload 4 120 (ix_Ev (o_X8_run TX8_call) Q) Q ls st μ := ix_Ev.eq H rfl ls st μ
set_option maxRecDepth 20000 in
theorem e_X8_run_120 {TX8_call : Nat × Int32 × Int32 × Int32 × Int32 → ix_M → (ix_R → Prop) → Prop} {l : Launch} {d : Nat} (H : ix_AllS l cX8_run 6 RX8 d (some .int) (o_X8_run TX8_call)) (Q : ix_R → Prop) (ls : ix_L) (st : List ix_V) (μ : ix_M) : ix_Ev (o_X8_run TX8_call) Q (120, ls, st, μ) = ocr_X8_call TX8_call 123 (ix_Ev (o_X8_run TX8_call) Q) Q ls st μ := ix_Ev.eq H rfl ls st μ
set_option maxRecDepth 20000 in
theorem e_X8_run_123 {TX8_call : Nat × Int32 × Int32 × Int32 × Int32 → ix_M → (ix_R → Prop) → Prop} {l : Launch} {d : Nat} (H : ix_AllS l cX8_run 6 RX8 d (some .int) (o_X8_run TX8_call)) (Q : ix_R → Prop) (ls : ix_L) (st : List ix_V) (μ : ix_M) : ix_Ev (o_X8_run TX8_call) Q (123, ls, st, μ) = ix_push (vi 2) 124 (ix_Ev (o_X8_run TX8_call) Q) Q ls st μ := ix_Ev.eq H rfl ls st μ
set_option maxRecDepth 20000 in
theorem e_X8_run_124 {TX8_call : Nat × Int32 × Int32 × Int32 × Int32 → ix_M → (ix_R → Prop) → Prop} {l : Launch} {d : Nat} (H : ix_AllS l cX8_run 6 RX8 d (some .int) (o_X8_run TX8_call)) (Q : ix_R → Prop) (ls : ix_L) (st : List ix_V) (μ : ix_M) : ix_Ev (o_X8_run TX8_call) Q (124, ls, st, μ) = ix_bin (fun x y => x * y) 125 (ix_Ev (o_X8_run TX8_call) Q) Q ls st μ := ix_Ev.eq H rfl ls st μ
set_option maxRecDepth 20000 in
theorem e_X8_run_125 {TX8_call : Nat × Int32 × Int32 × Int32 × Int32 → ix_M → (ix_R → Prop) → Prop} {l : Launch} {d : Nat} (H : ix_AllS l cX8_run 6 RX8 d (some .int) (o_X8_run TX8_call)) (Q : ix_R → Prop) (ls : ix_L) (st : List ix_V) (μ : ix_M) : ix_Ev (o_X8_run TX8_call) Q (125, ls, st, μ) = ix_iret (ix_Ev (o_X8_run TX8_call) Q) Q ls st μ := ix_Ev.eq H rfl ls st μ
set_option maxRecDepth 20000 in
theorem e_X8_run_126 {TX8_call : Nat × Int32 × Int32 × Int32 × Int32 → ix_M → (ix_R → Prop) → Prop} {l : Launch} {d : Nat} (H : ix_AllS l cX8_run 6 RX8 d (some .int) (o_X8_run TX8_call)) (Q : ix_R → Prop) (ls : ix_L) (st : List ix_V) (μ : ix_M) : ix_Ev (o_X8_run TX8_call) Q (126, ls, st, μ) = ix_iload 3 127 (ix_Ev (o_X8_run TX8_call) Q) Q ls st μ := ix_Ev.eq H rfl ls st μ
set_option maxRecDepth 20000 in
theorem e_X8_run_127 {TX8_call : Nat × Int32 × Int32 × Int32 × Int32 → ix_M → (ix_R → Prop) → Prop} {l : Launch} {d : Nat} (H : ix_AllS l cX8_run 6 RX8 d (some .int) (o_X8_run TX8_call)) (Q : ix_R → Prop) (ls : ix_L) (st : List ix_V) (μ : ix_M) : ix_Ev (o_X8_run TX8_call) Q (127, ls, st, μ) = ix_aload 0 128 (ix_Ev (o_X8_run TX8_call) Q) Q ls st μ := ix_Ev.eq H rfl ls st μ
set_option maxRecDepth 20000 in
theorem e_X8_run_128 {TX8_call : Nat × Int32 × Int32 × Int32 × Int32 → ix_M → (ix_R → Prop) → Prop} {l : Launch} {d : Nat} (H : ix_AllS l cX8_run 6 RX8 d (some .int) (o_X8_run TX8_call)) (Q : ix_R → Prop) (ls : ix_L) (st : List ix_V) (μ : ix_M) : ix_Ev (o_X8_run TX8_call) Q (128, ls, st, μ) = ix_geti 7 3 131 (ix_Ev (o_X8_run TX8_call) Q) Q ls st μ := ix_Ev.eq H rfl ls st μ
set_option maxRecDepth 20000 in
theorem e_X8_run_131 {TX8_call : Nat × Int32 × Int32 × Int32 × Int32 → ix_M → (ix_R → Prop) → Prop} {l : Launch} {d : Nat} (H : ix_AllS l cX8_run 6 RX8 d (some .int) (o_X8_run TX8_call)) (Q : ix_R → Prop) (ls : ix_L) (st : List ix_V) (μ : ix_M) : ix_Ev (o_X8_run TX8_call) Q (131, ls, st, μ) = ix_bin (fun x y => x - y) 132 (ix_Ev (o_X8_run TX8_call) Q) Q ls st μ := ix_Ev.eq H rfl ls st μ
set_option maxRecDepth 20000 in
theorem e_X8_run_132 {TX8_call : Nat × Int32 × Int32 × Int32 × Int32 → ix_M → (ix_R → Prop) → Prop} {l : Launch} {d : Nat} (H : ix_AllS l cX8_run 6 RX8 d (some .int) (o_X8_run TX8_call)) (Q : ix_R → Prop) (ls : ix_L) (st : List ix_V) (μ : ix_M) : ix_Ev (o_X8_run TX8_call) Q (132, ls, st, μ) = ix_iret (ix_Ev (o_X8_run TX8_call) Q) Q ls st μ := ix_Ev.eq H rfl ls st μ
set_option maxRecDepth 20000 in
theorem e_X8_run_133 {TX8_call : Nat × Int32 × Int32 × Int32 × Int32 → ix_M → (ix_R → Prop) → Prop} {l : Launch} {d : Nat} (H : ix_AllS l cX8_run 6 RX8 d (some .int) (o_X8_run TX8_call)) (Q : ix_R → Prop) (ls : ix_L) (st : List ix_V) (μ : ix_M) : ix_Ev (o_X8_run TX8_call) Q (133, ls, st, μ) = ix_aload 0 134 (ix_Ev (o_X8_run TX8_call) Q) Q ls st μ := ix_Ev.eq H rfl ls st μ
set_option maxRecDepth 20000 in
theorem e_X8_run_134 {TX8_call : Nat × Int32 × Int32 × Int32 × Int32 → ix_M → (ix_R → Prop) → Prop} {l : Launch} {d : Nat} (H : ix_AllS l cX8_run 6 RX8 d (some .int) (o_X8_run TX8_call)) (Q : ix_R → Prop) (ls : ix_L) (st : List ix_V) (μ : ix_M) : ix_Ev (o_X8_run TX8_call) Q (134, ls, st, μ) = ix_aload 0 135 (ix_Ev (o_X8_run TX8_call) Q) Q ls st μ := ix_Ev.eq H rfl ls st μ
set_option maxRecDepth 20000 in
theorem e_X8_run_135 {TX8_call : Nat × Int32 × Int32 × Int32 × Int32 → ix_M → (ix_R → Prop) → Prop} {l : Launch} {d : Nat} (H : ix_AllS l cX8_run 6 RX8 d (some .int) (o_X8_run TX8_call)) (Q : ix_R → Prop) (ls : ix_L) (st : List ix_V) (μ : ix_M) : ix_Ev (o_X8_run TX8_call) Q (135, ls, st, μ) = ix_geti 7 2 138 (ix_Ev (o_X8_run TX8_call) Q) Q ls st μ := ix_Ev.eq H rfl ls st μ
set_option maxRecDepth 20000 in
theorem e_X8_run_138 {TX8_call : Nat × Int32 × Int32 × Int32 × Int32 → ix_M → (ix_R → Prop) → Prop} {l : Launch} {d : Nat} (H : ix_AllS l cX8_run 6 RX8 d (some .int) (o_X8_run TX8_call)) (Q : ix_R → Prop) (ls : ix_L) (st : List ix_V) (μ : ix_M) : ix_Ev (o_X8_run TX8_call) Q (138, ls, st, μ) = ix_push (vi 1) 139 (ix_Ev (o_X8_run TX8_call) Q) Q ls st μ := ix_Ev.eq H rfl ls st μ
set_option maxRecDepth 20000 in
theorem e_X8_run_139 {TX8_call : Nat × Int32 × Int32 × Int32 × Int32 → ix_M → (ix_R → Prop) → Prop} {l : Launch} {d : Nat} (H : ix_AllS l cX8_run 6 RX8 d (some .int) (o_X8_run TX8_call)) (Q : ix_R → Prop) (ls : ix_L) (st : List ix_V) (μ : ix_M) : ix_Ev (o_X8_run TX8_call) Q (139, ls, st, μ) = ix_iload 3 140 (ix_Ev (o_X8_run TX8_call) Q) Q ls st μ := ix_Ev.eq H rfl ls st μ
set_option maxRecDepth 20000 in
theorem e_X8_run_140 {TX8_call : Nat × Int32 × Int32 × Int32 × Int32 → ix_M → (ix_R → Prop) → Prop} {l : Launch} {d : Nat} (H : ix_AllS l cX8_run 6 RX8 d (some .int) (o_X8_run TX8_call)) (Q : ix_R → Prop) (ls : ix_L) (st : List ix_V) (μ : ix_M) : ix_Ev (o_X8_run TX8_call) Q (140, ls, st, μ) = ix_iload 4 142 (ix_Ev (o_X8_run TX8_call) Q) Q ls st μ := ix_Ev.eq H rfl ls st μ
set_option maxRecDepth 20000 in
theorem e_X8_run_142 {TX8_call : Nat × Int32 × Int32 × Int32 × Int32 → ix_M → (ix_R → Prop) → Prop} {l : Launch} {d : Nat} (H : ix_AllS l cX8_run 6 RX8 d (some .int) (o_X8_run TX8_call)) (Q : ix_R → Prop) (ls : ix_L) (st : List ix_V) (μ : ix_M) : ix_Ev (o_X8_run TX8_call) Q (142, ls, st, μ) = ocr_X8_call TX8_call 145 (ix_Ev (o_X8_run TX8_call) Q) Q ls st μ := ix_Ev.eq H rfl ls st μ
set_option maxRecDepth 20000 in
theorem e_X8_run_145 {TX8_call : Nat × Int32 × Int32 × Int32 × Int32 → ix_M → (ix_R → Prop) → Prop} {l : Launch} {d : Nat} (H : ix_AllS l cX8_run 6 RX8 d (some .int) (o_X8_run TX8_call)) (Q : ix_R → Prop) (ls : ix_L) (st : List ix_V) (μ : ix_M) : ix_Ev (o_X8_run TX8_call) Q (145, ls, st, μ) = ix_aload 0 146 (ix_Ev (o_X8_run TX8_call) Q) Q ls st μ := ix_Ev.eq H rfl ls st μ
set_option maxRecDepth 20000 in
theorem e_X8_run_146 {TX8_call : Nat × Int32 × Int32 × Int32 × Int32 → ix_M → (ix_R → Prop) → Prop} {l : Launch} {d : Nat} (H : ix_AllS l cX8_run 6 RX8 d (some .int) (o_X8_run TX8_call)) (Q : ix_R → Prop) (ls : ix_L) (st : List ix_V) (μ : ix_M) : ix_Ev (o_X8_run TX8_call) Q (146, ls, st, μ) = ix_aload 0 147 (ix_Ev (o_X8_run TX8_call) Q) Q ls st μ := ix_Ev.eq H rfl ls st μ
set_option maxRecDepth 20000 in
theorem e_X8_run_147 {TX8_call : Nat × Int32 × Int32 × Int32 × Int32 → ix_M → (ix_R → Prop) → Prop} {l : Launch} {d : Nat} (H : ix_AllS l cX8_run 6 RX8 d (some .int) (o_X8_run TX8_call)) (Q : ix_R → Prop) (ls : ix_L) (st : List ix_V) (μ : ix_M) : ix_Ev (o_X8_run TX8_call) Q (147, ls, st, μ) = ix_geti 7 2 150 (ix_Ev (o_X8_run TX8_call) Q) Q ls st μ := ix_Ev.eq H rfl ls st μ
set_option maxRecDepth 20000 in
theorem e_X8_run_150 {TX8_call : Nat × Int32 × Int32 × Int32 × Int32 → ix_M → (ix_R → Prop) → Prop} {l : Launch} {d : Nat} (H : ix_AllS l cX8_run 6 RX8 d (some .int) (o_X8_run TX8_call)) (Q : ix_R → Prop) (ls : ix_L) (st : List ix_V) (μ : ix_M) : ix_Ev (o_X8_run TX8_call) Q (150, ls, st, μ) = ix_push (vi 2) 151 (ix_Ev (o_X8_run TX8_call) Q) Q ls st μ := ix_Ev.eq H rfl ls st μ
set_option maxRecDepth 20000 in
theorem e_X8_run_151 {TX8_call : Nat × Int32 × Int32 × Int32 × Int32 → ix_M → (ix_R → Prop) → Prop} {l : Launch} {d : Nat} (H : ix_AllS l cX8_run 6 RX8 d (some .int) (o_X8_run TX8_call)) (Q : ix_R → Prop) (ls : ix_L) (st : List ix_V) (μ : ix_M) : ix_Ev (o_X8_run TX8_call) Q (151, ls, st, μ) = ix_iload 3 152 (ix_Ev (o_X8_run TX8_call) Q) Q ls st μ := ix_Ev.eq H rfl ls st μ
set_option maxRecDepth 20000 in
theorem e_X8_run_152 {TX8_call : Nat × Int32 × Int32 × Int32 × Int32 → ix_M → (ix_R → Prop) → Prop} {l : Launch} {d : Nat} (H : ix_AllS l cX8_run 6 RX8 d (some .int) (o_X8_run TX8_call)) (Q : ix_R → Prop) (ls : ix_L) (st : List ix_V) (μ : ix_M) : ix_Ev (o_X8_run TX8_call) Q (152, ls, st, μ) = ix_iload 4 154 (ix_Ev (o_X8_run TX8_call) Q) Q ls st μ := ix_Ev.eq H rfl ls st μ
set_option maxRecDepth 20000 in
theorem e_X8_run_154 {TX8_call : Nat × Int32 × Int32 × Int32 × Int32 → ix_M → (ix_R → Prop) → Prop} {l : Launch} {d : Nat} (H : ix_AllS l cX8_run 6 RX8 d (some .int) (o_X8_run TX8_call)) (Q : ix_R → Prop) (ls : ix_L) (st : List ix_V) (μ : ix_M) : ix_Ev (o_X8_run TX8_call) Q (154, ls, st, μ) = ocr_X8_call TX8_call 157 (ix_Ev (o_X8_run TX8_call) Q) Q ls st μ := ix_Ev.eq H rfl ls st μ
set_option maxRecDepth 20000 in
theorem e_X8_run_157 {TX8_call : Nat × Int32 × Int32 × Int32 × Int32 → ix_M → (ix_R → Prop) → Prop} {l : Launch} {d : Nat} (H : ix_AllS l cX8_run 6 RX8 d (some .int) (o_X8_run TX8_call)) (Q : ix_R → Prop) (ls : ix_L) (st : List ix_V) (μ : ix_M) : ix_Ev (o_X8_run TX8_call) Q (157, ls, st, μ) = ix_bin (fun x y => x ^^^ y) 158 (ix_Ev (o_X8_run TX8_call) Q) Q ls st μ := ix_Ev.eq H rfl ls st μ
set_option maxRecDepth 20000 in
theorem e_X8_run_158 {TX8_call : Nat × Int32 × Int32 × Int32 × Int32 → ix_M → (ix_R → Prop) → Prop} {l : Launch} {d : Nat} (H : ix_AllS l cX8_run 6 RX8 d (some .int) (o_X8_run TX8_call)) (Q : ix_R → Prop) (ls : ix_L) (st : List ix_V) (μ : ix_M) : ix_Ev (o_X8_run TX8_call) Q (158, ls, st, μ) = ix_iret (ix_Ev (o_X8_run TX8_call) Q) Q ls st μ := ix_Ev.eq H rfl ls st μ
set_option maxRecDepth 20000 in
theorem e_X8_run_159 {TX8_call : Nat × Int32 × Int32 × Int32 × Int32 → ix_M → (ix_R → Prop) → Prop} {l : Launch} {d : Nat} (H : ix_AllS l cX8_run 6 RX8 d (some .int) (o_X8_run TX8_call)) (Q : ix_R → Prop) (ls : ix_L) (st : List ix_V) (μ : ix_M) : ix_Ev (o_X8_run TX8_call) Q (159, ls, st, μ) = ix_aload 0 160 (ix_Ev (o_X8_run TX8_call) Q) Q ls st μ := ix_Ev.eq H rfl ls st μ
set_option maxRecDepth 20000 in
theorem e_X8_run_160 {TX8_call : Nat × Int32 × Int32 × Int32 × Int32 → ix_M → (ix_R → Prop) → Prop} {l : Launch} {d : Nat} (H : ix_AllS l cX8_run 6 RX8 d (some .int) (o_X8_run TX8_call)) (Q : ix_R → Prop) (ls : ix_L) (st : List ix_V) (μ : ix_M) : ix_Ev (o_X8_run TX8_call) Q (160, ls, st, μ) = ix_iload 5 162 (ix_Ev (o_X8_run TX8_call) Q) Q ls st μ := ix_Ev.eq H rfl ls st μ
set_option maxRecDepth 20000 in
theorem e_X8_run_162 {TX8_call : Nat × Int32 × Int32 × Int32 × Int32 → ix_M → (ix_R → Prop) → Prop} {l : Launch} {d : Nat} (H : ix_AllS l cX8_run 6 RX8 d (some .int) (o_X8_run TX8_call)) (Q : ix_R → Prop) (ls : ix_L) (st : List ix_V) (μ : ix_M) : ix_Ev (o_X8_run TX8_call) Q (162, ls, st, μ) = ix_push (vi 0) 163 (ix_Ev (o_X8_run TX8_call) Q) Q ls st μ := ix_Ev.eq H rfl ls st μ
set_option maxRecDepth 20000 in
theorem e_X8_run_163 {TX8_call : Nat × Int32 × Int32 × Int32 × Int32 → ix_M → (ix_R → Prop) → Prop} {l : Launch} {d : Nat} (H : ix_AllS l cX8_run 6 RX8 d (some .int) (o_X8_run TX8_call)) (Q : ix_R → Prop) (ls : ix_L) (st : List ix_V) (μ : ix_M) : ix_Ev (o_X8_run TX8_call) Q (163, ls, st, μ) = ix_iload 3 164 (ix_Ev (o_X8_run TX8_call) Q) Q ls st μ := ix_Ev.eq H rfl ls st μ
set_option maxRecDepth 20000 in
theorem e_X8_run_164 {TX8_call : Nat × Int32 × Int32 × Int32 × Int32 → ix_M → (ix_R → Prop) → Prop} {l : Launch} {d : Nat} (H : ix_AllS l cX8_run 6 RX8 d (some .int) (o_X8_run TX8_call)) (Q : ix_R → Prop) (ls : ix_L) (st : List ix_V) (μ : ix_M) : ix_Ev (o_X8_run TX8_call) Q (164, ls, st, μ) = ix_iload 4 166 (ix_Ev (o_X8_run TX8_call) Q) Q ls st μ := ix_Ev.eq H rfl ls st μ
set_option maxRecDepth 20000 in
theorem e_X8_run_166 {TX8_call : Nat × Int32 × Int32 × Int32 × Int32 → ix_M → (ix_R → Prop) → Prop} {l : Launch} {d : Nat} (H : ix_AllS l cX8_run 6 RX8 d (some .int) (o_X8_run TX8_call)) (Q : ix_R → Prop) (ls : ix_L) (st : List ix_V) (μ : ix_M) : ix_Ev (o_X8_run TX8_call) Q (166, ls, st, μ) = ocr_X8_call TX8_call 169 (ix_Ev (o_X8_run TX8_call) Q) Q ls st μ := ix_Ev.eq H rfl ls st μ
set_option maxRecDepth 20000 in
theorem e_X8_run_169 {TX8_call : Nat × Int32 × Int32 × Int32 × Int32 → ix_M → (ix_R → Prop) → Prop} {l : Launch} {d : Nat} (H : ix_AllS l cX8_run 6 RX8 d (some .int) (o_X8_run TX8_call)) (Q : ix_R → Prop) (ls : ix_L) (st : List ix_V) (μ : ix_M) : ix_Ev (o_X8_run TX8_call) Q (169, ls, st, μ) = ix_push (vi 3) 170 (ix_Ev (o_X8_run TX8_call) Q) Q ls st μ := ix_Ev.eq H rfl ls st μ
set_option maxRecDepth 20000 in
theorem e_X8_run_170 {TX8_call : Nat × Int32 × Int32 × Int32 × Int32 → ix_M → (ix_R → Prop) → Prop} {l : Launch} {d : Nat} (H : ix_AllS l cX8_run 6 RX8 d (some .int) (o_X8_run TX8_call)) (Q : ix_R → Prop) (ls : ix_L) (st : List ix_V) (μ : ix_M) : ix_Ev (o_X8_run TX8_call) Q (170, ls, st, μ) = ix_bin (fun x y => x * y) 171 (ix_Ev (o_X8_run TX8_call) Q) Q ls st μ := ix_Ev.eq H rfl ls st μ
set_option maxRecDepth 20000 in
theorem e_X8_run_171 {TX8_call : Nat × Int32 × Int32 × Int32 × Int32 → ix_M → (ix_R → Prop) → Prop} {l : Launch} {d : Nat} (H : ix_AllS l cX8_run 6 RX8 d (some .int) (o_X8_run TX8_call)) (Q : ix_R → Prop) (ls : ix_L) (st : List ix_V) (μ : ix_M) : ix_Ev (o_X8_run TX8_call) Q (171, ls, st, μ) = ix_iret (ix_Ev (o_X8_run TX8_call) Q) Q ls st μ := ix_Ev.eq H rfl ls st μ
set_option maxRecDepth 20000 in
theorem e_X8_run_172 {TX8_call : Nat × Int32 × Int32 × Int32 × Int32 → ix_M → (ix_R → Prop) → Prop} {l : Launch} {d : Nat} (H : ix_AllS l cX8_run 6 RX8 d (some .int) (o_X8_run TX8_call)) (Q : ix_R → Prop) (ls : ix_L) (st : List ix_V) (μ : ix_M) : ix_Ev (o_X8_run TX8_call) Q (172, ls, st, μ) = ix_aload 0 173 (ix_Ev (o_X8_run TX8_call) Q) Q ls st μ := ix_Ev.eq H rfl ls st μ
set_option maxRecDepth 20000 in
theorem e_X8_run_173 {TX8_call : Nat × Int32 × Int32 × Int32 × Int32 → ix_M → (ix_R → Prop) → Prop} {l : Launch} {d : Nat} (H : ix_AllS l cX8_run 6 RX8 d (some .int) (o_X8_run TX8_call)) (Q : ix_R → Prop) (ls : ix_L) (st : List ix_V) (μ : ix_M) : ix_Ev (o_X8_run TX8_call) Q (173, ls, st, μ) = ix_iload 5 175 (ix_Ev (o_X8_run TX8_call) Q) Q ls st μ := ix_Ev.eq H rfl ls st μ
set_option maxRecDepth 20000 in
theorem e_X8_run_175 {TX8_call : Nat × Int32 × Int32 × Int32 × Int32 → ix_M → (ix_R → Prop) → Prop} {l : Launch} {d : Nat} (H : ix_AllS l cX8_run 6 RX8 d (some .int) (o_X8_run TX8_call)) (Q : ix_R → Prop) (ls : ix_L) (st : List ix_V) (μ : ix_M) : ix_Ev (o_X8_run TX8_call) Q (175, ls, st, μ) = ix_push (vi 1) 176 (ix_Ev (o_X8_run TX8_call) Q) Q ls st μ := ix_Ev.eq H rfl ls st μ
set_option maxRecDepth 20000 in
theorem e_X8_run_176 {TX8_call : Nat × Int32 × Int32 × Int32 × Int32 → ix_M → (ix_R → Prop) → Prop} {l : Launch} {d : Nat} (H : ix_AllS l cX8_run 6 RX8 d (some .int) (o_X8_run TX8_call)) (Q : ix_R → Prop) (ls : ix_L) (st : List ix_V) (μ : ix_M) : ix_Ev (o_X8_run TX8_call) Q (176, ls, st, μ) = ix_iload 3 177 (ix_Ev (o_X8_run TX8_call) Q) Q ls st μ := ix_Ev.eq H rfl ls st μ
set_option maxRecDepth 20000 in
theorem e_X8_run_177 {TX8_call : Nat × Int32 × Int32 × Int32 × Int32 → ix_M → (ix_R → Prop) → Prop} {l : Launch} {d : Nat} (H : ix_AllS l cX8_run 6 RX8 d (some .int) (o_X8_run TX8_call)) (Q : ix_R → Prop) (ls : ix_L) (st : List ix_V) (μ : ix_M) : ix_Ev (o_X8_run TX8_call) Q (177, ls, st, μ) = ix_iload 4 179 (ix_Ev (o_X8_run TX8_call) Q) Q ls st μ := ix_Ev.eq H rfl ls st μ
set_option maxRecDepth 20000 in
theorem e_X8_run_179 {TX8_call : Nat × Int32 × Int32 × Int32 × Int32 → ix_M → (ix_R → Prop) → Prop} {l : Launch} {d : Nat} (H : ix_AllS l cX8_run 6 RX8 d (some .int) (o_X8_run TX8_call)) (Q : ix_R → Prop) (ls : ix_L) (st : List ix_V) (μ : ix_M) : ix_Ev (o_X8_run TX8_call) Q (179, ls, st, μ) = ocr_X8_call TX8_call 182 (ix_Ev (o_X8_run TX8_call) Q) Q ls st μ := ix_Ev.eq H rfl ls st μ
set_option maxRecDepth 20000 in
theorem e_X8_run_182 {TX8_call : Nat × Int32 × Int32 × Int32 × Int32 → ix_M → (ix_R → Prop) → Prop} {l : Launch} {d : Nat} (H : ix_AllS l cX8_run 6 RX8 d (some .int) (o_X8_run TX8_call)) (Q : ix_R → Prop) (ls : ix_L) (st : List ix_V) (μ : ix_M) : ix_Ev (o_X8_run TX8_call) Q (182, ls, st, μ) = ix_aload 0 183 (ix_Ev (o_X8_run TX8_call) Q) Q ls st μ := ix_Ev.eq H rfl ls st μ
set_option maxRecDepth 20000 in
theorem e_X8_run_183 {TX8_call : Nat × Int32 × Int32 × Int32 × Int32 → ix_M → (ix_R → Prop) → Prop} {l : Launch} {d : Nat} (H : ix_AllS l cX8_run 6 RX8 d (some .int) (o_X8_run TX8_call)) (Q : ix_R → Prop) (ls : ix_L) (st : List ix_V) (μ : ix_M) : ix_Ev (o_X8_run TX8_call) Q (183, ls, st, μ) = ix_aload 0 184 (ix_Ev (o_X8_run TX8_call) Q) Q ls st μ := ix_Ev.eq H rfl ls st μ
set_option maxRecDepth 20000 in
theorem e_X8_run_184 {TX8_call : Nat × Int32 × Int32 × Int32 × Int32 → ix_M → (ix_R → Prop) → Prop} {l : Launch} {d : Nat} (H : ix_AllS l cX8_run 6 RX8 d (some .int) (o_X8_run TX8_call)) (Q : ix_R → Prop) (ls : ix_L) (st : List ix_V) (μ : ix_M) : ix_Ev (o_X8_run TX8_call) Q (184, ls, st, μ) = ix_geti 7 2 187 (ix_Ev (o_X8_run TX8_call) Q) Q ls st μ := ix_Ev.eq H rfl ls st μ
set_option maxRecDepth 20000 in
theorem e_X8_run_187 {TX8_call : Nat × Int32 × Int32 × Int32 × Int32 → ix_M → (ix_R → Prop) → Prop} {l : Launch} {d : Nat} (H : ix_AllS l cX8_run 6 RX8 d (some .int) (o_X8_run TX8_call)) (Q : ix_R → Prop) (ls : ix_L) (st : List ix_V) (μ : ix_M) : ix_Ev (o_X8_run TX8_call) Q (187, ls, st, μ) = ix_push (vi 2) 188 (ix_Ev (o_X8_run TX8_call) Q) Q ls st μ := ix_Ev.eq H rfl ls st μ
set_option maxRecDepth 20000 in
theorem e_X8_run_188 {TX8_call : Nat × Int32 × Int32 × Int32 × Int32 → ix_M → (ix_R → Prop) → Prop} {l : Launch} {d : Nat} (H : ix_AllS l cX8_run 6 RX8 d (some .int) (o_X8_run TX8_call)) (Q : ix_R → Prop) (ls : ix_L) (st : List ix_V) (μ : ix_M) : ix_Ev (o_X8_run TX8_call) Q (188, ls, st, μ) = ix_push (vi 1) 189 (ix_Ev (o_X8_run TX8_call) Q) Q ls st μ := ix_Ev.eq H rfl ls st μ
set_option maxRecDepth 20000 in
theorem e_X8_run_189 {TX8_call : Nat × Int32 × Int32 × Int32 × Int32 → ix_M → (ix_R → Prop) → Prop} {l : Launch} {d : Nat} (H : ix_AllS l cX8_run 6 RX8 d (some .int) (o_X8_run TX8_call)) (Q : ix_R → Prop) (ls : ix_L) (st : List ix_V) (μ : ix_M) : ix_Ev (o_X8_run TX8_call) Q (189, ls, st, μ) = ix_iload 4 191 (ix_Ev (o_X8_run TX8_call) Q) Q ls st μ := ix_Ev.eq H rfl ls st μ
set_option maxRecDepth 20000 in
theorem e_X8_run_191 {TX8_call : Nat × Int32 × Int32 × Int32 × Int32 → ix_M → (ix_R → Prop) → Prop} {l : Launch} {d : Nat} (H : ix_AllS l cX8_run 6 RX8 d (some .int) (o_X8_run TX8_call)) (Q : ix_R → Prop) (ls : ix_L) (st : List ix_V) (μ : ix_M) : ix_Ev (o_X8_run TX8_call) Q (191, ls, st, μ) = ocr_X8_call TX8_call 194 (ix_Ev (o_X8_run TX8_call) Q) Q ls st μ := ix_Ev.eq H rfl ls st μ
set_option maxRecDepth 20000 in
theorem e_X8_run_194 {TX8_call : Nat × Int32 × Int32 × Int32 × Int32 → ix_M → (ix_R → Prop) → Prop} {l : Launch} {d : Nat} (H : ix_AllS l cX8_run 6 RX8 d (some .int) (o_X8_run TX8_call)) (Q : ix_R → Prop) (ls : ix_L) (st : List ix_V) (μ : ix_M) : ix_Ev (o_X8_run TX8_call) Q (194, ls, st, μ) = ix_bin (fun x y => x - y) 195 (ix_Ev (o_X8_run TX8_call) Q) Q ls st μ := ix_Ev.eq H rfl ls st μ
set_option maxRecDepth 20000 in
theorem e_X8_run_195 {TX8_call : Nat × Int32 × Int32 × Int32 × Int32 → ix_M → (ix_R → Prop) → Prop} {l : Launch} {d : Nat} (H : ix_AllS l cX8_run 6 RX8 d (some .int) (o_X8_run TX8_call)) (Q : ix_R → Prop) (ls : ix_L) (st : List ix_V) (μ : ix_M) : ix_Ev (o_X8_run TX8_call) Q (195, ls, st, μ) = ix_iret (ix_Ev (o_X8_run TX8_call) Q) Q ls st μ := ix_Ev.eq H rfl ls st μ
set_option maxRecDepth 20000 in
theorem e_X8_run_196 {TX8_call : Nat × Int32 × Int32 × Int32 × Int32 → ix_M → (ix_R → Prop) → Prop} {l : Launch} {d : Nat} (H : ix_AllS l cX8_run 6 RX8 d (some .int) (o_X8_run TX8_call)) (Q : ix_R → Prop) (ls : ix_L) (st : List ix_V) (μ : ix_M) : ix_Ev (o_X8_run TX8_call) Q (196, ls, st, μ) = ix_aload 0 197 (ix_Ev (o_X8_run TX8_call) Q) Q ls st μ := ix_Ev.eq H rfl ls st μ
set_option maxRecDepth 20000 in
theorem e_X8_run_197 {TX8_call : Nat × Int32 × Int32 × Int32 × Int32 → ix_M → (ix_R → Prop) → Prop} {l : Launch} {d : Nat} (H : ix_AllS l cX8_run 6 RX8 d (some .int) (o_X8_run TX8_call)) (Q : ix_R → Prop) (ls : ix_L) (st : List ix_V) (μ : ix_M) : ix_Ev (o_X8_run TX8_call) Q (197, ls, st, μ) = ix_iload 5 199 (ix_Ev (o_X8_run TX8_call) Q) Q ls st μ := ix_Ev.eq H rfl ls st μ
set_option maxRecDepth 20000 in
theorem e_X8_run_199 {TX8_call : Nat × Int32 × Int32 × Int32 × Int32 → ix_M → (ix_R → Prop) → Prop} {l : Launch} {d : Nat} (H : ix_AllS l cX8_run 6 RX8 d (some .int) (o_X8_run TX8_call)) (Q : ix_R → Prop) (ls : ix_L) (st : List ix_V) (μ : ix_M) : ix_Ev (o_X8_run TX8_call) Q (199, ls, st, μ) = ix_push (vi 2) 200 (ix_Ev (o_X8_run TX8_call) Q) Q ls st μ := ix_Ev.eq H rfl ls st μ
set_option maxRecDepth 20000 in
theorem e_X8_run_200 {TX8_call : Nat × Int32 × Int32 × Int32 × Int32 → ix_M → (ix_R → Prop) → Prop} {l : Launch} {d : Nat} (H : ix_AllS l cX8_run 6 RX8 d (some .int) (o_X8_run TX8_call)) (Q : ix_R → Prop) (ls : ix_L) (st : List ix_V) (μ : ix_M) : ix_Ev (o_X8_run TX8_call) Q (200, ls, st, μ) = ix_iload 3 201 (ix_Ev (o_X8_run TX8_call) Q) Q ls st μ := ix_Ev.eq H rfl ls st μ
set_option maxRecDepth 20000 in
theorem e_X8_run_201 {TX8_call : Nat × Int32 × Int32 × Int32 × Int32 → ix_M → (ix_R → Prop) → Prop} {l : Launch} {d : Nat} (H : ix_AllS l cX8_run 6 RX8 d (some .int) (o_X8_run TX8_call)) (Q : ix_R → Prop) (ls : ix_L) (st : List ix_V) (μ : ix_M) : ix_Ev (o_X8_run TX8_call) Q (201, ls, st, μ) = ix_iload 4 203 (ix_Ev (o_X8_run TX8_call) Q) Q ls st μ := ix_Ev.eq H rfl ls st μ
set_option maxRecDepth 20000 in
theorem e_X8_run_203 {TX8_call : Nat × Int32 × Int32 × Int32 × Int32 → ix_M → (ix_R → Prop) → Prop} {l : Launch} {d : Nat} (H : ix_AllS l cX8_run 6 RX8 d (some .int) (o_X8_run TX8_call)) (Q : ix_R → Prop) (ls : ix_L) (st : List ix_V) (μ : ix_M) : ix_Ev (o_X8_run TX8_call) Q (203, ls, st, μ) = ocr_X8_call TX8_call 206 (ix_Ev (o_X8_run TX8_call) Q) Q ls st μ := ix_Ev.eq H rfl ls st μ
set_option maxRecDepth 20000 in
theorem e_X8_run_206 {TX8_call : Nat × Int32 × Int32 × Int32 × Int32 → ix_M → (ix_R → Prop) → Prop} {l : Launch} {d : Nat} (H : ix_AllS l cX8_run 6 RX8 d (some .int) (o_X8_run TX8_call)) (Q : ix_R → Prop) (ls : ix_L) (st : List ix_V) (μ : ix_M) : ix_Ev (o_X8_run TX8_call) Q (206, ls, st, μ) = ix_un (fun x => -x) 207 (ix_Ev (o_X8_run TX8_call) Q) Q ls st μ := ix_Ev.eq H rfl ls st μ
set_option maxRecDepth 20000 in
theorem e_X8_run_207 {TX8_call : Nat × Int32 × Int32 × Int32 × Int32 → ix_M → (ix_R → Prop) → Prop} {l : Launch} {d : Nat} (H : ix_AllS l cX8_run 6 RX8 d (some .int) (o_X8_run TX8_call)) (Q : ix_R → Prop) (ls : ix_L) (st : List ix_V) (μ : ix_M) : ix_Ev (o_X8_run TX8_call) Q (207, ls, st, μ) = ix_iret (ix_Ev (o_X8_run TX8_call) Q) Q ls st μ := ix_Ev.eq H rfl ls st μ
set_option maxRecDepth 20000 in
theorem e_X8_run_208 {TX8_call : Nat × Int32 × Int32 × Int32 × Int32 → ix_M → (ix_R → Prop) → Prop} {l : Launch} {d : Nat} (H : ix_AllS l cX8_run 6 RX8 d (some .int) (o_X8_run TX8_call)) (Q : ix_R → Prop) (ls : ix_L) (st : List ix_V) (μ : ix_M) : ix_Ev (o_X8_run TX8_call) Q (208, ls, st, μ) = ix_aload 0 209 (ix_Ev (o_X8_run TX8_call) Q) Q ls st μ := ix_Ev.eq H rfl ls st μ
set_option maxRecDepth 20000 in
theorem e_X8_run_209 {TX8_call : Nat × Int32 × Int32 × Int32 × Int32 → ix_M → (ix_R → Prop) → Prop} {l : Launch} {d : Nat} (H : ix_AllS l cX8_run 6 RX8 d (some .int) (o_X8_run TX8_call)) (Q : ix_R → Prop) (ls : ix_L) (st : List ix_V) (μ : ix_M) : ix_Ev (o_X8_run TX8_call) Q (209, ls, st, μ) = ix_iload 5 211 (ix_Ev (o_X8_run TX8_call) Q) Q ls st μ := ix_Ev.eq H rfl ls st μ
set_option maxRecDepth 20000 in
theorem e_X8_run_211 {TX8_call : Nat × Int32 × Int32 × Int32 × Int32 → ix_M → (ix_R → Prop) → Prop} {l : Launch} {d : Nat} (H : ix_AllS l cX8_run 6 RX8 d (some .int) (o_X8_run TX8_call)) (Q : ix_R → Prop) (ls : ix_L) (st : List ix_V) (μ : ix_M) : ix_Ev (o_X8_run TX8_call) Q (211, ls, st, μ) = ix_push (vi 3) 212 (ix_Ev (o_X8_run TX8_call) Q) Q ls st μ := ix_Ev.eq H rfl ls st μ
set_option maxRecDepth 20000 in
theorem e_X8_run_212 {TX8_call : Nat × Int32 × Int32 × Int32 × Int32 → ix_M → (ix_R → Prop) → Prop} {l : Launch} {d : Nat} (H : ix_AllS l cX8_run 6 RX8 d (some .int) (o_X8_run TX8_call)) (Q : ix_R → Prop) (ls : ix_L) (st : List ix_V) (μ : ix_M) : ix_Ev (o_X8_run TX8_call) Q (212, ls, st, μ) = ix_iload 3 213 (ix_Ev (o_X8_run TX8_call) Q) Q ls st μ := ix_Ev.eq H rfl ls st μ
set_option maxRecDepth 20000 in
theorem e_X8_run_213 {TX8_call : Nat × Int32 × Int32 × Int32 × Int32 → ix_M → (ix_R → Prop) → Prop} {l : Launch} {d : Nat} (H : ix_AllS l cX8_run 6 RX8 d (some .int) (o_X8_run TX8_call)) (Q : ix_R → Prop) (ls : ix_L) (st : List ix_V) (μ : ix_M) : ix_Ev (o_X8_run TX8_call) Q (213, ls, st, μ) = ix_iload 4 215 (ix_Ev (o_X8_run TX8_call) Q) Q ls st μ := ix_Ev.eq H rfl ls st μ
set_option maxRecDepth 20000 in
theorem e_X8_run_215 {TX8_call : Nat × Int32 × Int32 × Int32 × Int32 → ix_M → (ix_R → Prop) → Prop} {l : Launch} {d : Nat} (H : ix_AllS l cX8_run 6 RX8 d (some .int) (o_X8_run TX8_call)) (Q : ix_R → Prop) (ls : ix_L) (st : List ix_V) (μ : ix_M) : ix_Ev (o_X8_run TX8_call) Q (215, ls, st, μ) = ocr_X8_call TX8_call 218 (ix_Ev (o_X8_run TX8_call) Q) Q ls st μ := ix_Ev.eq H rfl ls st μ
set_option maxRecDepth 20000 in
theorem e_X8_run_218 {TX8_call : Nat × Int32 × Int32 × Int32 × Int32 → ix_M → (ix_R → Prop) → Prop} {l : Launch} {d : Nat} (H : ix_AllS l cX8_run 6 RX8 d (some .int) (o_X8_run TX8_call)) (Q : ix_R → Prop) (ls : ix_L) (st : List ix_V) (μ : ix_M) : ix_Ev (o_X8_run TX8_call) Q (218, ls, st, μ) = ix_aload 0 219 (ix_Ev (o_X8_run TX8_call) Q) Q ls st μ := ix_Ev.eq H rfl ls st μ
set_option maxRecDepth 20000 in
theorem e_X8_run_219 {TX8_call : Nat × Int32 × Int32 × Int32 × Int32 → ix_M → (ix_R → Prop) → Prop} {l : Launch} {d : Nat} (H : ix_AllS l cX8_run 6 RX8 d (some .int) (o_X8_run TX8_call)) (Q : ix_R → Prop) (ls : ix_L) (st : List ix_V) (μ : ix_M) : ix_Ev (o_X8_run TX8_call) Q (219, ls, st, μ) = ix_aload 0 220 (ix_Ev (o_X8_run TX8_call) Q) Q ls st μ := ix_Ev.eq H rfl ls st μ
set_option maxRecDepth 20000 in
theorem e_X8_run_220 {TX8_call : Nat × Int32 × Int32 × Int32 × Int32 → ix_M → (ix_R → Prop) → Prop} {l : Launch} {d : Nat} (H : ix_AllS l cX8_run 6 RX8 d (some .int) (o_X8_run TX8_call)) (Q : ix_R → Prop) (ls : ix_L) (st : List ix_V) (μ : ix_M) : ix_Ev (o_X8_run TX8_call) Q (220, ls, st, μ) = ix_geti 7 2 223 (ix_Ev (o_X8_run TX8_call) Q) Q ls st μ := ix_Ev.eq H rfl ls st μ
set_option maxRecDepth 20000 in
theorem e_X8_run_223 {TX8_call : Nat × Int32 × Int32 × Int32 × Int32 → ix_M → (ix_R → Prop) → Prop} {l : Launch} {d : Nat} (H : ix_AllS l cX8_run 6 RX8 d (some .int) (o_X8_run TX8_call)) (Q : ix_R → Prop) (ls : ix_L) (st : List ix_V) (μ : ix_M) : ix_Ev (o_X8_run TX8_call) Q (223, ls, st, μ) = ix_push (vi 0) 224 (ix_Ev (o_X8_run TX8_call) Q) Q ls st μ := ix_Ev.eq H rfl ls st μ
set_option maxRecDepth 20000 in
theorem e_X8_run_224 {TX8_call : Nat × Int32 × Int32 × Int32 × Int32 → ix_M → (ix_R → Prop) → Prop} {l : Launch} {d : Nat} (H : ix_AllS l cX8_run 6 RX8 d (some .int) (o_X8_run TX8_call)) (Q : ix_R → Prop) (ls : ix_L) (st : List ix_V) (μ : ix_M) : ix_Ev (o_X8_run TX8_call) Q (224, ls, st, μ) = ix_push (vi 2) 225 (ix_Ev (o_X8_run TX8_call) Q) Q ls st μ := ix_Ev.eq H rfl ls st μ
set_option maxRecDepth 20000 in
theorem e_X8_run_225 {TX8_call : Nat × Int32 × Int32 × Int32 × Int32 → ix_M → (ix_R → Prop) → Prop} {l : Launch} {d : Nat} (H : ix_AllS l cX8_run 6 RX8 d (some .int) (o_X8_run TX8_call)) (Q : ix_R → Prop) (ls : ix_L) (st : List ix_V) (μ : ix_M) : ix_Ev (o_X8_run TX8_call) Q (225, ls, st, μ) = ix_iload 4 227 (ix_Ev (o_X8_run TX8_call) Q) Q ls st μ := ix_Ev.eq H rfl ls st μ
set_option maxRecDepth 20000 in
theorem e_X8_run_227 {TX8_call : Nat × Int32 × Int32 × Int32 × Int32 → ix_M → (ix_R → Prop) → Prop} {l : Launch} {d : Nat} (H : ix_AllS l cX8_run 6 RX8 d (some .int) (o_X8_run TX8_call)) (Q : ix_R → Prop) (ls : ix_L) (st : List ix_V) (μ : ix_M) : ix_Ev (o_X8_run TX8_call) Q (227, ls, st, μ) = ocr_X8_call TX8_call 230 (ix_Ev (o_X8_run TX8_call) Q) Q ls st μ := ix_Ev.eq H rfl ls st μ
set_option maxRecDepth 20000 in
theorem e_X8_run_230 {TX8_call : Nat × Int32 × Int32 × Int32 × Int32 → ix_M → (ix_R → Prop) → Prop} {l : Launch} {d : Nat} (H : ix_AllS l cX8_run 6 RX8 d (some .int) (o_X8_run TX8_call)) (Q : ix_R → Prop) (ls : ix_L) (st : List ix_V) (μ : ix_M) : ix_Ev (o_X8_run TX8_call) Q (230, ls, st, μ) = ix_bin (fun x y => x - y) 231 (ix_Ev (o_X8_run TX8_call) Q) Q ls st μ := ix_Ev.eq H rfl ls st μ
set_option maxRecDepth 20000 in
theorem e_X8_run_231 {TX8_call : Nat × Int32 × Int32 × Int32 × Int32 → ix_M → (ix_R → Prop) → Prop} {l : Launch} {d : Nat} (H : ix_AllS l cX8_run 6 RX8 d (some .int) (o_X8_run TX8_call)) (Q : ix_R → Prop) (ls : ix_L) (st : List ix_V) (μ : ix_M) : ix_Ev (o_X8_run TX8_call) Q (231, ls, st, μ) = ix_iret (ix_Ev (o_X8_run TX8_call) Q) Q ls st μ := ix_Ev.eq H rfl ls st μ
set_option maxRecDepth 20000 in
theorem e_X8_run_232 {TX8_call : Nat × Int32 × Int32 × Int32 × Int32 → ix_M → (ix_R → Prop) → Prop} {l : Launch} {d : Nat} (H : ix_AllS l cX8_run 6 RX8 d (some .int) (o_X8_run TX8_call)) (Q : ix_R → Prop) (ls : ix_L) (st : List ix_V) (μ : ix_M) : ix_Ev (o_X8_run TX8_call) Q (232, ls, st, μ) = ix_aload 0 233 (ix_Ev (o_X8_run TX8_call) Q) Q ls st μ := ix_Ev.eq H rfl ls st μ
set_option maxRecDepth 20000 in
theorem e_X8_run_233 {TX8_call : Nat × Int32 × Int32 × Int32 × Int32 → ix_M → (ix_R → Prop) → Prop} {l : Launch} {d : Nat} (H : ix_AllS l cX8_run 6 RX8 d (some .int) (o_X8_run TX8_call)) (Q : ix_R → Prop) (ls : ix_L) (st : List ix_V) (μ : ix_M) : ix_Ev (o_X8_run TX8_call) Q (233, ls, st, μ) = ix_iload 5 235 (ix_Ev (o_X8_run TX8_call) Q) Q ls st μ := ix_Ev.eq H rfl ls st μ
set_option maxRecDepth 20000 in
theorem e_X8_run_235 {TX8_call : Nat × Int32 × Int32 × Int32 × Int32 → ix_M → (ix_R → Prop) → Prop} {l : Launch} {d : Nat} (H : ix_AllS l cX8_run 6 RX8 d (some .int) (o_X8_run TX8_call)) (Q : ix_R → Prop) (ls : ix_L) (st : List ix_V) (μ : ix_M) : ix_Ev (o_X8_run TX8_call) Q (235, ls, st, μ) = ix_push (vi 1) 236 (ix_Ev (o_X8_run TX8_call) Q) Q ls st μ := ix_Ev.eq H rfl ls st μ
set_option maxRecDepth 20000 in
theorem e_X8_run_236 {TX8_call : Nat × Int32 × Int32 × Int32 × Int32 → ix_M → (ix_R → Prop) → Prop} {l : Launch} {d : Nat} (H : ix_AllS l cX8_run 6 RX8 d (some .int) (o_X8_run TX8_call)) (Q : ix_R → Prop) (ls : ix_L) (st : List ix_V) (μ : ix_M) : ix_Ev (o_X8_run TX8_call) Q (236, ls, st, μ) = ix_iload 3 237 (ix_Ev (o_X8_run TX8_call) Q) Q ls st μ := ix_Ev.eq H rfl ls st μ
set_option maxRecDepth 20000 in
theorem e_X8_run_237 {TX8_call : Nat × Int32 × Int32 × Int32 × Int32 → ix_M → (ix_R → Prop) → Prop} {l : Launch} {d : Nat} (H : ix_AllS l cX8_run 6 RX8 d (some .int) (o_X8_run TX8_call)) (Q : ix_R → Prop) (ls : ix_L) (st : List ix_V) (μ : ix_M) : ix_Ev (o_X8_run TX8_call) Q (237, ls, st, μ) = ix_push (vi 1) 238 (ix_Ev (o_X8_run TX8_call) Q) Q ls st μ := ix_Ev.eq H rfl ls st μ
set_option maxRecDepth 20000 in
theorem e_X8_run_238 {TX8_call : Nat × Int32 × Int32 × Int32 × Int32 → ix_M → (ix_R → Prop) → Prop} {l : Launch} {d : Nat} (H : ix_AllS l cX8_run 6 RX8 d (some .int) (o_X8_run TX8_call)) (Q : ix_R → Prop) (ls : ix_L) (st : List ix_V) (μ : ix_M) : ix_Ev (o_X8_run TX8_call) Q (238, ls, st, μ) = ix_bin (fun x y => x + y) 239 (ix_Ev (o_X8_run TX8_call) Q) Q ls st μ := ix_Ev.eq H rfl ls st μ
set_option maxRecDepth 20000 in
theorem e_X8_run_239 {TX8_call : Nat × Int32 × Int32 × Int32 × Int32 → ix_M → (ix_R → Prop) → Prop} {l : Launch} {d : Nat} (H : ix_AllS l cX8_run 6 RX8 d (some .int) (o_X8_run TX8_call)) (Q : ix_R → Prop) (ls : ix_L) (st : List ix_V) (μ : ix_M) : ix_Ev (o_X8_run TX8_call) Q (239, ls, st, μ) = ix_iload 4 241 (ix_Ev (o_X8_run TX8_call) Q) Q ls st μ := ix_Ev.eq H rfl ls st μ
set_option maxRecDepth 20000 in
theorem e_X8_run_241 {TX8_call : Nat × Int32 × Int32 × Int32 × Int32 → ix_M → (ix_R → Prop) → Prop} {l : Launch} {d : Nat} (H : ix_AllS l cX8_run 6 RX8 d (some .int) (o_X8_run TX8_call)) (Q : ix_R → Prop) (ls : ix_L) (st : List ix_V) (μ : ix_M) : ix_Ev (o_X8_run TX8_call) Q (241, ls, st, μ) = ocr_X8_call TX8_call 244 (ix_Ev (o_X8_run TX8_call) Q) Q ls st μ := ix_Ev.eq H rfl ls st μ
set_option maxRecDepth 20000 in
theorem e_X8_run_244 {TX8_call : Nat × Int32 × Int32 × Int32 × Int32 → ix_M → (ix_R → Prop) → Prop} {l : Launch} {d : Nat} (H : ix_AllS l cX8_run 6 RX8 d (some .int) (o_X8_run TX8_call)) (Q : ix_R → Prop) (ls : ix_L) (st : List ix_V) (μ : ix_M) : ix_Ev (o_X8_run TX8_call) Q (244, ls, st, μ) = ix_iret (ix_Ev (o_X8_run TX8_call) Q) Q ls st μ := ix_Ev.eq H rfl ls st μ
set_option maxRecDepth 20000 in
theorem e_X8_run_245 {TX8_call : Nat × Int32 × Int32 × Int32 × Int32 → ix_M → (ix_R → Prop) → Prop} {l : Launch} {d : Nat} (H : ix_AllS l cX8_run 6 RX8 d (some .int) (o_X8_run TX8_call)) (Q : ix_R → Prop) (ls : ix_L) (st : List ix_V) (μ : ix_M) : ix_Ev (o_X8_run TX8_call) Q (245, ls, st, μ) = ix_aload 0 246 (ix_Ev (o_X8_run TX8_call) Q) Q ls st μ := ix_Ev.eq H rfl ls st μ
set_option maxRecDepth 20000 in
theorem e_X8_run_246 {TX8_call : Nat × Int32 × Int32 × Int32 × Int32 → ix_M → (ix_R → Prop) → Prop} {l : Launch} {d : Nat} (H : ix_AllS l cX8_run 6 RX8 d (some .int) (o_X8_run TX8_call)) (Q : ix_R → Prop) (ls : ix_L) (st : List ix_V) (μ : ix_M) : ix_Ev (o_X8_run TX8_call) Q (246, ls, st, μ) = ix_iload 5 248 (ix_Ev (o_X8_run TX8_call) Q) Q ls st μ := ix_Ev.eq H rfl ls st μ
set_option maxRecDepth 20000 in
theorem e_X8_run_248 {TX8_call : Nat × Int32 × Int32 × Int32 × Int32 → ix_M → (ix_R → Prop) → Prop} {l : Launch} {d : Nat} (H : ix_AllS l cX8_run 6 RX8 d (some .int) (o_X8_run TX8_call)) (Q : ix_R → Prop) (ls : ix_L) (st : List ix_V) (μ : ix_M) : ix_Ev (o_X8_run TX8_call) Q (248, ls, st, μ) = ix_push (vi 2) 249 (ix_Ev (o_X8_run TX8_call) Q) Q ls st μ := ix_Ev.eq H rfl ls st μ
set_option maxRecDepth 20000 in
theorem e_X8_run_249 {TX8_call : Nat × Int32 × Int32 × Int32 × Int32 → ix_M → (ix_R → Prop) → Prop} {l : Launch} {d : Nat} (H : ix_AllS l cX8_run 6 RX8 d (some .int) (o_X8_run TX8_call)) (Q : ix_R → Prop) (ls : ix_L) (st : List ix_V) (μ : ix_M) : ix_Ev (o_X8_run TX8_call) Q (249, ls, st, μ) = ix_iload 3 250 (ix_Ev (o_X8_run TX8_call) Q) Q ls st μ := ix_Ev.eq H rfl ls st μ
set_option maxRecDepth 20000 in
theorem e_X8_run_250 {TX8_call : Nat × Int32 × Int32 × Int32 × Int32 → ix_M → (ix_R → Prop) → Prop} {l : Launch} {d : Nat} (H : ix_AllS l cX8_run 6 RX8 d (some .int) (o_X8_run TX8_call)) (Q : ix_R → Prop) (ls : ix_L) (st : List ix_V) (μ : ix_M) : ix_Ev (o_X8_run TX8_call) Q (250, ls, st, μ) = ix_iload 4 252 (ix_Ev (o_X8_run TX8_call) Q) Q ls st μ := ix_Ev.eq H rfl ls st μ
set_option maxRecDepth 20000 in
theorem e_X8_run_252 {TX8_call : Nat × Int32 × Int32 × Int32 × Int32 → ix_M → (ix_R → Prop) → Prop} {l : Launch} {d : Nat} (H : ix_AllS l cX8_run 6 RX8 d (some .int) (o_X8_run TX8_call)) (Q : ix_R → Prop) (ls : ix_L) (st : List ix_V) (μ : ix_M) : ix_Ev (o_X8_run TX8_call) Q (252, ls, st, μ) = ocr_X8_call TX8_call 255 (ix_Ev (o_X8_run TX8_call) Q) Q ls st μ := ix_Ev.eq H rfl ls st μ
set_option maxRecDepth 20000 in
theorem e_X8_run_255 {TX8_call : Nat × Int32 × Int32 × Int32 × Int32 → ix_M → (ix_R → Prop) → Prop} {l : Launch} {d : Nat} (H : ix_AllS l cX8_run 6 RX8 d (some .int) (o_X8_run TX8_call)) (Q : ix_R → Prop) (ls : ix_L) (st : List ix_V) (μ : ix_M) : ix_Ev (o_X8_run TX8_call) Q (255, ls, st, μ) = ix_aload 0 256 (ix_Ev (o_X8_run TX8_call) Q) Q ls st μ := ix_Ev.eq H rfl ls st μ
set_option maxRecDepth 20000 in
theorem e_X8_run_256 {TX8_call : Nat × Int32 × Int32 × Int32 × Int32 → ix_M → (ix_R → Prop) → Prop} {l : Launch} {d : Nat} (H : ix_AllS l cX8_run 6 RX8 d (some .int) (o_X8_run TX8_call)) (Q : ix_R → Prop) (ls : ix_L) (st : List ix_V) (μ : ix_M) : ix_Ev (o_X8_run TX8_call) Q (256, ls, st, μ) = ix_geti 7 1 259 (ix_Ev (o_X8_run TX8_call) Q) Q ls st μ := ix_Ev.eq H rfl ls st μ
set_option maxRecDepth 20000 in
theorem e_X8_run_259 {TX8_call : Nat × Int32 × Int32 × Int32 × Int32 → ix_M → (ix_R → Prop) → Prop} {l : Launch} {d : Nat} (H : ix_AllS l cX8_run 6 RX8 d (some .int) (o_X8_run TX8_call)) (Q : ix_R → Prop) (ls : ix_L) (st : List ix_V) (μ : ix_M) : ix_Ev (o_X8_run TX8_call) Q (259, ls, st, μ) = ix_bin (fun x y => x ^^^ y) 260 (ix_Ev (o_X8_run TX8_call) Q) Q ls st μ := ix_Ev.eq H rfl ls st μ
set_option maxRecDepth 20000 in
theorem e_X8_run_260 {TX8_call : Nat × Int32 × Int32 × Int32 × Int32 → ix_M → (ix_R → Prop) → Prop} {l : Launch} {d : Nat} (H : ix_AllS l cX8_run 6 RX8 d (some .int) (o_X8_run TX8_call)) (Q : ix_R → Prop) (ls : ix_L) (st : List ix_V) (μ : ix_M) : ix_Ev (o_X8_run TX8_call) Q (260, ls, st, μ) = ix_iret (ix_Ev (o_X8_run TX8_call) Q) Q ls st μ := ix_Ev.eq H rfl ls st μ
set_option maxRecDepth 20000 in
theorem e_X8_run_261 {TX8_call : Nat × Int32 × Int32 × Int32 × Int32 → ix_M → (ix_R → Prop) → Prop} {l : Launch} {d : Nat} (H : ix_AllS l cX8_run 6 RX8 d (some .int) (o_X8_run TX8_call)) (Q : ix_R → Prop) (ls : ix_L) (st : List ix_V) (μ : ix_M) : ix_Ev (o_X8_run TX8_call) Q (261, ls, st, μ) = ix_aload 0 262 (ix_Ev (o_X8_run TX8_call) Q) Q ls st μ := ix_Ev.eq H rfl ls st μ
set_option maxRecDepth 20000 in
theorem e_X8_run_262 {TX8_call : Nat × Int32 × Int32 × Int32 × Int32 → ix_M → (ix_R → Prop) → Prop} {l : Launch} {d : Nat} (H : ix_AllS l cX8_run 6 RX8 d (some .int) (o_X8_run TX8_call)) (Q : ix_R → Prop) (ls : ix_L) (st : List ix_V) (μ : ix_M) : ix_Ev (o_X8_run TX8_call) Q (262, ls, st, μ) = ix_aload 0 263 (ix_Ev (o_X8_run TX8_call) Q) Q ls st μ := ix_Ev.eq H rfl ls st μ
set_option maxRecDepth 20000 in
theorem e_X8_run_263 {TX8_call : Nat × Int32 × Int32 × Int32 × Int32 → ix_M → (ix_R → Prop) → Prop} {l : Launch} {d : Nat} (H : ix_AllS l cX8_run 6 RX8 d (some .int) (o_X8_run TX8_call)) (Q : ix_R → Prop) (ls : ix_L) (st : List ix_V) (μ : ix_M) : ix_Ev (o_X8_run TX8_call) Q (263, ls, st, μ) = ix_geti 7 2 266 (ix_Ev (o_X8_run TX8_call) Q) Q ls st μ := ix_Ev.eq H rfl ls st μ
set_option maxRecDepth 20000 in
theorem e_X8_run_266 {TX8_call : Nat × Int32 × Int32 × Int32 × Int32 → ix_M → (ix_R → Prop) → Prop} {l : Launch} {d : Nat} (H : ix_AllS l cX8_run 6 RX8 d (some .int) (o_X8_run TX8_call)) (Q : ix_R → Prop) (ls : ix_L) (st : List ix_V) (μ : ix_M) : ix_Ev (o_X8_run TX8_call) Q (266, ls, st, μ) = ix_push (vi 1) 267 (ix_Ev (o_X8_run TX8_call) Q) Q ls st μ := ix_Ev.eq H rfl ls st μ
set_option maxRecDepth 20000 in
theorem e_X8_run_267 {TX8_call : Nat × Int32 × Int32 × Int32 × Int32 → ix_M → (ix_R → Prop) → Prop} {l : Launch} {d : Nat} (H : ix_AllS l cX8_run 6 RX8 d (some .int) (o_X8_run TX8_call)) (Q : ix_R → Prop) (ls : ix_L) (st : List ix_V) (μ : ix_M) : ix_Ev (o_X8_run TX8_call) Q (267, ls, st, μ) = ix_iload 3 268 (ix_Ev (o_X8_run TX8_call) Q) Q ls st μ := ix_Ev.eq H rfl ls st μ
set_option maxRecDepth 20000 in
theorem e_X8_run_268 {TX8_call : Nat × Int32 × Int32 × Int32 × Int32 → ix_M → (ix_R → Prop) → Prop} {l : Launch} {d : Nat} (H : ix_AllS l cX8_run 6 RX8 d (some .int) (o_X8_run TX8_call)) (Q : ix_R → Prop) (ls : ix_L) (st : List ix_V) (μ : ix_M) : ix_Ev (o_X8_run TX8_call) Q (268, ls, st, μ) = ix_iload 4 270 (ix_Ev (o_X8_run TX8_call) Q) Q ls st μ := ix_Ev.eq H rfl ls st μ
set_option maxRecDepth 20000 in
theorem e_X8_run_270 {TX8_call : Nat × Int32 × Int32 × Int32 × Int32 → ix_M → (ix_R → Prop) → Prop} {l : Launch} {d : Nat} (H : ix_AllS l cX8_run 6 RX8 d (some .int) (o_X8_run TX8_call)) (Q : ix_R → Prop) (ls : ix_L) (st : List ix_V) (μ : ix_M) : ix_Ev (o_X8_run TX8_call) Q (270, ls, st, μ) = ocr_X8_call TX8_call 273 (ix_Ev (o_X8_run TX8_call) Q) Q ls st μ := ix_Ev.eq H rfl ls st μ
set_option maxRecDepth 20000 in
theorem e_X8_run_273 {TX8_call : Nat × Int32 × Int32 × Int32 × Int32 → ix_M → (ix_R → Prop) → Prop} {l : Launch} {d : Nat} (H : ix_AllS l cX8_run 6 RX8 d (some .int) (o_X8_run TX8_call)) (Q : ix_R → Prop) (ls : ix_L) (st : List ix_V) (μ : ix_M) : ix_Ev (o_X8_run TX8_call) Q (273, ls, st, μ) = ix_aload 0 274 (ix_Ev (o_X8_run TX8_call) Q) Q ls st μ := ix_Ev.eq H rfl ls st μ
set_option maxRecDepth 20000 in
theorem e_X8_run_274 {TX8_call : Nat × Int32 × Int32 × Int32 × Int32 → ix_M → (ix_R → Prop) → Prop} {l : Launch} {d : Nat} (H : ix_AllS l cX8_run 6 RX8 d (some .int) (o_X8_run TX8_call)) (Q : ix_R → Prop) (ls : ix_L) (st : List ix_V) (μ : ix_M) : ix_Ev (o_X8_run TX8_call) Q (274, ls, st, μ) = ix_iload 5 276 (ix_Ev (o_X8_run TX8_call) Q) Q ls st μ := ix_Ev.eq H rfl ls st μ
set_option maxRecDepth 20000 in
theorem e_X8_run_276 {TX8_call : Nat × Int32 × Int32 × Int32 × Int32 → ix_M → (ix_R → Prop) → Prop} {l : Launch} {d : Nat} (H : ix_AllS l cX8_run 6 RX8 d (some .int) (o_X8_run TX8_call)) (Q : ix_R → Prop) (ls : ix_L) (st : List ix_V) (μ : ix_M) : ix_Ev (o_X8_run TX8_call) Q (276, ls, st, μ) = ix_push (vi 3) 277 (ix_Ev (o_X8_run TX8_call) Q) Q ls st μ := ix_Ev.eq H rfl ls st μ
set_option maxRecDepth 20000 in
theorem e_X8_run_277 {TX8_call : Nat × Int32 × Int32 × Int32 × Int32 → ix_M → (ix_R → Prop) → Prop} {l : Launch} {d : Nat} (H : ix_AllS l cX8_run 6 RX8 d (some .int) (o_X8_run TX8_call)) (Q : ix_R → Prop) (ls : ix_L) (st : List ix_V) (μ : ix_M) : ix_Ev (o_X8_run TX8_call) Q (277, ls, st, μ) = ix_iload 3 278 (ix_Ev (o_X8_run TX8_call) Q) Q ls st μ := ix_Ev.eq H rfl ls st μ
set_option maxRecDepth 20000 in
theorem e_X8_run_278 {TX8_call : Nat × Int32 × Int32 × Int32 × Int32 → ix_M → (ix_R → Prop) → Prop} {l : Launch} {d : Nat} (H : ix_AllS l cX8_run 6 RX8 d (some .int) (o_X8_run TX8_call)) (Q : ix_R → Prop) (ls : ix_L) (st : List ix_V) (μ : ix_M) : ix_Ev (o_X8_run TX8_call) Q (278, ls, st, μ) = ix_iload 4 280 (ix_Ev (o_X8_run TX8_call) Q) Q ls st μ := ix_Ev.eq H rfl ls st μ
set_option maxRecDepth 20000 in
theorem e_X8_run_280 {TX8_call : Nat × Int32 × Int32 × Int32 × Int32 → ix_M → (ix_R → Prop) → Prop} {l : Launch} {d : Nat} (H : ix_AllS l cX8_run 6 RX8 d (some .int) (o_X8_run TX8_call)) (Q : ix_R → Prop) (ls : ix_L) (st : List ix_V) (μ : ix_M) : ix_Ev (o_X8_run TX8_call) Q (280, ls, st, μ) = ocr_X8_call TX8_call 283 (ix_Ev (o_X8_run TX8_call) Q) Q ls st μ := ix_Ev.eq H rfl ls st μ
set_option maxRecDepth 20000 in
theorem e_X8_run_283 {TX8_call : Nat × Int32 × Int32 × Int32 × Int32 → ix_M → (ix_R → Prop) → Prop} {l : Launch} {d : Nat} (H : ix_AllS l cX8_run 6 RX8 d (some .int) (o_X8_run TX8_call)) (Q : ix_R → Prop) (ls : ix_L) (st : List ix_V) (μ : ix_M) : ix_Ev (o_X8_run TX8_call) Q (283, ls, st, μ) = ix_bin (fun x y => x - y) 284 (ix_Ev (o_X8_run TX8_call) Q) Q ls st μ := ix_Ev.eq H rfl ls st μ
set_option maxRecDepth 20000 in
theorem e_X8_run_284 {TX8_call : Nat × Int32 × Int32 × Int32 × Int32 → ix_M → (ix_R → Prop) → Prop} {l : Launch} {d : Nat} (H : ix_AllS l cX8_run 6 RX8 d (some .int) (o_X8_run TX8_call)) (Q : ix_R → Prop) (ls : ix_L) (st : List ix_V) (μ : ix_M) : ix_Ev (o_X8_run TX8_call) Q (284, ls, st, μ) = ix_iret (ix_Ev (o_X8_run TX8_call) Q) Q ls st μ := ix_Ev.eq H rfl ls st μ
set_option maxRecDepth 20000 in
theorem e_X8_run_285 {TX8_call : Nat × Int32 × Int32 × Int32 × Int32 → ix_M → (ix_R → Prop) → Prop} {l : Launch} {d : Nat} (H : ix_AllS l cX8_run 6 RX8 d (some .int) (o_X8_run TX8_call)) (Q : ix_R → Prop) (ls : ix_L) (st : List ix_V) (μ : ix_M) : ix_Ev (o_X8_run TX8_call) Q (285, ls, st, μ) = ix_push (vi 0) 286 (ix_Ev (o_X8_run TX8_call) Q) Q ls st μ := ix_Ev.eq H rfl ls st μ
set_option maxRecDepth 20000 in
theorem e_X8_run_286 {TX8_call : Nat × Int32 × Int32 × Int32 × Int32 → ix_M → (ix_R → Prop) → Prop} {l : Launch} {d : Nat} (H : ix_AllS l cX8_run 6 RX8 d (some .int) (o_X8_run TX8_call)) (Q : ix_R → Prop) (ls : ix_L) (st : List ix_V) (μ : ix_M) : ix_Ev (o_X8_run TX8_call) Q (286, ls, st, μ) = ix_iret (ix_Ev (o_X8_run TX8_call) Q) Q ls st μ := ix_Ev.eq H rfl ls st μ
theorem l_X8_call {l : Launch} {d dd : Nat} (H : ix_AllS l cX8_call 8 RX8 dd (some .int) (o_X8_call (T_X8_run d))) {fm a x : Int32} {n : Nat} {μ : ix_M} {Q : ix_R → Prop} {tr : List Int32} (hn : n + (d + 1) ≤ 30) (htr : TrC μ tr) : ∀ (j i : Nat) (k : Int32) (r : Int32 × List Int32) (x7 : Option ix_V), i + j = 7 → (match vFind j k a with
    | none => some (0, tr)
    | some (b, k) => vRunG (vCall (μ 93 1) (μ 93 2) (μ 93 3) d) (μ 93 1) (μ 93 2) (μ 93 3) b k x (vPush tr b)) = some r → (∀ μ', Fx [94, 95] μ μ' → TrC μ' r.2 → Q (some (vi r.1), μ')) →
    ix_Ev (o_X8_call (T_X8_run d)) Q (6, [some (vr 7 93), some (vi fm), some (vi a), some (vi x), some (vi (nI n)), some (vi k), some (vi (nI i)), x7], [], μ) := by
  intro j
  induction j with
  | zero =>
    intro i k r x7 hi hr hQ
    have hi : i = 7 := hi
    subst hi
    simp only [vFind] at hr
    cases hr
    rw [e_X8_call_6 H]
    simp (decide := true) only [e_X8_call_0 H, e_X8_call_1 H, e_X8_call_3 H, e_X8_call_4 H, e_X8_call_8 H, e_X8_call_10 H, e_X8_call_13 H, e_X8_call_15 H, e_X8_call_18 H, e_X8_call_20 H, e_X8_call_21 H, e_X8_call_24 H, e_X8_call_26 H, e_X8_call_28 H, e_X8_call_31 H, e_X8_call_33 H, e_X8_call_35 H, e_X8_call_38 H, e_X8_call_39 H, e_X8_call_42 H, e_X8_call_44 H, e_X8_call_47 H, e_X8_call_48 H, e_X8_call_50 H, e_X8_call_52 H, e_X8_call_53 H, e_X8_call_55 H, e_X8_call_56 H, e_X8_call_57 H, e_X8_call_60 H, e_X8_call_61 H, e_X8_call_63 H, e_X8_call_66 H, e_X8_call_68 H, e_X8_call_71 H, e_X8_call_74 H, e_X8_call_75 H, vi, vl, vr, ocr_X8_run, oc_X0_above, T_X0_above, oc_X4_add, T_X4_add, oc_X8_bodyOf, T_X8_bodyOf, ix_push, ix_iload, ix_lload, ix_aload, ix_istore, ix_astore, ix_iinc, ix_bin, ix_div, ix_un, ix_i2l, ix_l2i, ix_lbin, ix_lsh, ix_lcmp, ix_dup, ix_dup2, ix_pop, ix_if, ix_cmp, ix_goto, ix_switch, ix_sw, ix_iret, ix_zret, ix_vret, ix_aret, ix_geti, ix_getr, ix_puti, ix_putz, ix_puts, ix_gets, ix_iald, ix_iast, ix_alen, ix_aald, ix_gval, ix_gcod, ix_bald, ix_blen, ix_sald, ix_nret, ix_math2, ix_math1, ix_acopy, Nat.add_assoc, Int32.reduceLT, Int32.reduceLE, Int32.reduceToNatClampNeg, Int32.reduceSub, Int32.reduceAdd, Nat.reduceAdd, Nat.reduceLeDiff, true_or, or_true, or_false, false_or, not_false_eq_true, not_true_eq_false, false_implies, true_implies, implies_true, and_self, mB_0, mB_01, Classical.not_not, Nat.zero_le, List.getElem?_cons_zero, List.getElem?_cons_succ, List.set_cons_zero, List.set_cons_succ, ix_nl, ix_cs, true_and, and_true, Option.toList_some, Option.toList_none, List.cons_append, List.nil_append]
    exact hQ μ Fx.rf htr
  | succ j ih =>
    intro i k r x7 hi hr hQ
    have hng : ¬ (7 : Int32) ≤ nI i := by
      rw [fa_lit 7]
      exact nI_ge (by omega) (by decide)
    have h30 : ¬ (30 : Int32) ≤ nI n := by
      rw [fa_lit 30]
      exact nI_ge (by omega) (by decide)
    have h30' : nI n < 30 := by
      rw [fa_lit 30]
      exact nI_lt (by omega) (by decide)
    have hi1 : nI i + 1 = nI (i + 1) := nI_1 i
    have hn1 : nI n + 1 = nI (n + 1) := nI_1 n
    rw [e_X8_call_6 H]
    simp (decide := true) only [e_X8_call_0 H, e_X8_call_1 H, e_X8_call_3 H, e_X8_call_4 H, e_X8_call_8 H, e_X8_call_10 H, e_X8_call_13 H, e_X8_call_15 H, e_X8_call_18 H, e_X8_call_20 H, e_X8_call_21 H, e_X8_call_24 H, e_X8_call_26 H, e_X8_call_28 H, e_X8_call_31 H, e_X8_call_33 H, e_X8_call_35 H, e_X8_call_38 H, e_X8_call_39 H, e_X8_call_42 H, e_X8_call_44 H, e_X8_call_47 H, e_X8_call_48 H, e_X8_call_50 H, e_X8_call_52 H, e_X8_call_53 H, e_X8_call_55 H, e_X8_call_56 H, e_X8_call_57 H, e_X8_call_60 H, e_X8_call_61 H, e_X8_call_63 H, e_X8_call_66 H, e_X8_call_68 H, e_X8_call_71 H, e_X8_call_74 H, e_X8_call_75 H, vi, vl, vr, ocr_X8_run, oc_X0_above, T_X0_above, oc_X4_add, T_X4_add, oc_X8_bodyOf, T_X8_bodyOf, ix_push, ix_iload, ix_lload, ix_aload, ix_istore, ix_astore, ix_iinc, ix_bin, ix_div, ix_un, ix_i2l, ix_l2i, ix_lbin, ix_lsh, ix_lcmp, ix_dup, ix_dup2, ix_pop, ix_if, ix_cmp, ix_goto, ix_switch, ix_sw, ix_iret, ix_zret, ix_vret, ix_aret, ix_geti, ix_getr, ix_puti, ix_putz, ix_puts, ix_gets, ix_iald, ix_iast, ix_alen, ix_aald, ix_gval, ix_gcod, ix_bald, ix_blen, ix_sald, ix_nret, ix_math2, ix_math1, ix_acopy, Nat.add_assoc, Int32.reduceLT, Int32.reduceLE, Int32.reduceToNatClampNeg, Int32.reduceSub, Int32.reduceAdd, Nat.reduceAdd, Nat.reduceLeDiff, true_or, or_true, or_false, false_or, not_false_eq_true, not_true_eq_false, false_implies, true_implies, implies_true, and_self, mB_0, mB_01, Classical.not_not, Nat.zero_le, List.getElem?_cons_zero, List.getElem?_cons_succ, List.set_cons_zero, List.set_cons_succ, ix_nl, ix_cs, true_and, and_true, Option.toList_some, Option.toList_none, List.cons_append, List.nil_append, hng, h30, h30', hi1, hn1]
    simp only [vFind] at hr
    refine ⟨fun c => ?_, fun c => ⟨fun c2 => ?_, fun c2 => ⟨htr.ro, ?_⟩⟩⟩
    · rw [if_pos c] at hr
      cases hr
      exact hQ μ Fx.rf htr
    · rw [if_neg c, if_neg (Int32.not_lt.mpr c2)] at hr
      exact ih (i + 1) (mAbove k) r _ (by omega) hr hQ
    · rw [if_neg c, if_pos (Int32.not_le.mp c2)] at hr
      obtain ⟨g1, g2⟩ := htr.push (mBody k a)
      have e93 : rAdd μ 94 (mBody k a) 93 = μ 93 := g2 93 (by decide)
      refine ⟨rfl, n + 1, _, r, rfl, by omega, g1, ?_, fun μ' hF hT => hQ μ' (g2.tr hF) hT⟩
      rw [e93]
      exact hr
theorem r_X8_call (l : Launch) (d dr : Nat) (hrun : ix_Ct l yX8_run cX8_run 6 (some .int) dr sh_X8_run (T_X8_run d)) (hdr : 1 ≤ dr) : ix_Ct l yX8_call cX8_call 8 (some .int) (dr + 1) sh_X8_call (T_X8_call (d + 1)) := by
  have H := a_X8_call l (dr + 1) (by omega) hrun (by omega) (mo_X8_run d)
  refine ix_ct H rfl (by decide) (fun _ => Nat.le_of_ble_eq_true rfl) (fun x μ Q hok hT => ?_)
  obtain ⟨o, fm, a, x, op⟩ := x
  obtain ⟨rfl, n, tr, r, rfl, hn, htr, hr, hQ⟩ := hT
  show ix_Ev (o_X8_call _) Q (0, [some (vr 7 93), some (vi fm), some (vi a), some (vi x), some (vi (nI n)), none, none, none], [], μ)
  simp (decide := true) only [e_X8_call_0 H, e_X8_call_1 H, e_X8_call_3 H, e_X8_call_4 H, e_X8_call_8 H, e_X8_call_10 H, e_X8_call_13 H, e_X8_call_15 H, e_X8_call_18 H, e_X8_call_20 H, e_X8_call_21 H, e_X8_call_24 H, e_X8_call_26 H, e_X8_call_28 H, e_X8_call_31 H, e_X8_call_33 H, e_X8_call_35 H, e_X8_call_38 H, e_X8_call_39 H, e_X8_call_42 H, e_X8_call_44 H, e_X8_call_47 H, e_X8_call_48 H, e_X8_call_50 H, e_X8_call_52 H, e_X8_call_53 H, e_X8_call_55 H, e_X8_call_56 H, e_X8_call_57 H, e_X8_call_60 H, e_X8_call_61 H, e_X8_call_63 H, e_X8_call_66 H, e_X8_call_68 H, e_X8_call_71 H, e_X8_call_74 H, e_X8_call_75 H, vi, vl, vr, ocr_X8_run, oc_X0_above, T_X0_above, oc_X4_add, T_X4_add, oc_X8_bodyOf, T_X8_bodyOf, ix_push, ix_iload, ix_lload, ix_aload, ix_istore, ix_astore, ix_iinc, ix_bin, ix_div, ix_un, ix_i2l, ix_l2i, ix_lbin, ix_lsh, ix_lcmp, ix_dup, ix_dup2, ix_pop, ix_if, ix_cmp, ix_goto, ix_switch, ix_sw, ix_iret, ix_zret, ix_vret, ix_aret, ix_geti, ix_getr, ix_puti, ix_putz, ix_puts, ix_gets, ix_iald, ix_iast, ix_alen, ix_aald, ix_gval, ix_gcod, ix_bald, ix_blen, ix_sald, ix_nret, ix_math2, ix_math1, ix_acopy, Nat.add_assoc, Int32.reduceLT, Int32.reduceLE, Int32.reduceToNatClampNeg, Int32.reduceSub, Int32.reduceAdd, Nat.reduceAdd, Nat.reduceLeDiff, true_or, or_true, or_false, false_or, not_false_eq_true, not_true_eq_false, false_implies, true_implies, implies_true, and_self, mB_0, mB_01, Classical.not_not, Nat.zero_le, List.getElem?_cons_zero, List.getElem?_cons_succ, List.set_cons_zero, List.set_cons_succ, ix_nl, ix_cs, true_and, and_true, Option.toList_some, Option.toList_none, List.cons_append, List.nil_append]
  exact l_X8_call H hn htr 7 0 fm r none rfl hr hQ
set_option maxRecDepth 20000 in
theorem r_X8_run (l : Launch) (d dc : Nat) (hcall : ix_Ct l yX8_call cX8_call 8 (some .int) dc sh_X8_call (T_X8_call d)) (hdc : 1 ≤ dc) : ix_Ct l yX8_run cX8_run 6 (some .int) (dc + 1) sh_X8_run (T_X8_run d) := by
  have H := a_X8_run l (dc + 1) (by omega) hcall (by omega) (mo_X8_call d)
  refine ix_ct H rfl (by decide) (fun _ => Nat.le_of_ble_eq_true rfl) (fun x μ Q hok hT => ?_)
  obtain ⟨o, b, ow, x, op⟩ := x
  obtain ⟨rfl, n, tr, r, rfl, hn, htr, hr, hQ⟩ := hT
  show ix_Ev (o_X8_run _) Q (0, [some (vr 7 93), some (vi b), some (vi ow), some (vi x), some (vi (nI n)), none], [], μ)
  have one : ∀ (fm a x : Int32) (tr : List Int32) (r : Int32 × List Int32) (μ1 : ix_M) (Qc : ix_R → Prop), Fx [94, 95] μ μ1 → TrC μ1 tr → vCall (μ 93 1) (μ 93 2) (μ 93 3) d fm a x tr = some r → (∀ μ2, Fx [94, 95] μ μ2 → TrC μ2 r.2 → Qc (some (vi r.1), μ2)) → T_X8_call d (93, fm, a, x, nI n) μ1 Qc := by
    intro fm a x tr r μ1 Qc hF h1 h2 h3
    have e93 : μ1 93 = μ 93 := hF 93 (by decide)
    exact ⟨rfl, n, tr, r, rfl, hn, h1, by rw [e93]; exact h2, fun μ2 a b => h3 μ2 (hF.tr a) b⟩
  simp (decide := true) only [e_X8_run_0 H, e_X8_run_1 H, e_X8_run_4 H, e_X8_run_6 H, e_X8_run_7 H, e_X8_run_104 H, e_X8_run_105 H, e_X8_run_106 H, e_X8_run_109 H, e_X8_run_110 H, e_X8_run_111 H, e_X8_run_112 H, e_X8_run_113 H, e_X8_run_116 H, e_X8_run_117 H, e_X8_run_118 H, e_X8_run_120 H, e_X8_run_123 H, e_X8_run_124 H, e_X8_run_125 H, e_X8_run_126 H, e_X8_run_127 H, e_X8_run_128 H, e_X8_run_131 H, e_X8_run_132 H, e_X8_run_133 H, e_X8_run_134 H, e_X8_run_135 H, e_X8_run_138 H, e_X8_run_139 H, e_X8_run_140 H, e_X8_run_142 H, e_X8_run_145 H, e_X8_run_146 H, e_X8_run_147 H, e_X8_run_150 H, e_X8_run_151 H, e_X8_run_152 H, e_X8_run_154 H, e_X8_run_157 H, e_X8_run_158 H, e_X8_run_159 H, e_X8_run_160 H, e_X8_run_162 H, e_X8_run_163 H, e_X8_run_164 H, e_X8_run_166 H, e_X8_run_169 H, e_X8_run_170 H, e_X8_run_171 H, e_X8_run_172 H, e_X8_run_173 H, e_X8_run_175 H, e_X8_run_176 H, e_X8_run_177 H, e_X8_run_179 H, e_X8_run_182 H, e_X8_run_183 H, e_X8_run_184 H, e_X8_run_187 H, e_X8_run_188 H, e_X8_run_189 H, e_X8_run_191 H, e_X8_run_194 H, e_X8_run_195 H, e_X8_run_196 H, e_X8_run_197 H, e_X8_run_199 H, e_X8_run_200 H, e_X8_run_201 H, e_X8_run_203 H, e_X8_run_206 H, e_X8_run_207 H, e_X8_run_208 H, e_X8_run_209 H, e_X8_run_211 H, e_X8_run_212 H, e_X8_run_213 H, e_X8_run_215 H, e_X8_run_218 H, e_X8_run_219 H, e_X8_run_220 H, e_X8_run_223 H, e_X8_run_224 H, e_X8_run_225 H, e_X8_run_227 H, e_X8_run_230 H, e_X8_run_231 H, e_X8_run_232 H, e_X8_run_233 H, e_X8_run_235 H, e_X8_run_236 H, e_X8_run_237 H, e_X8_run_238 H, e_X8_run_239 H, e_X8_run_241 H, e_X8_run_244 H, e_X8_run_245 H, e_X8_run_246 H, e_X8_run_248 H, e_X8_run_249 H, e_X8_run_250 H, e_X8_run_252 H, e_X8_run_255 H, e_X8_run_256 H, e_X8_run_259 H, e_X8_run_260 H, e_X8_run_261 H, e_X8_run_262 H, e_X8_run_263 H, e_X8_run_266 H, e_X8_run_267 H, e_X8_run_268 H, e_X8_run_270 H, e_X8_run_273 H, e_X8_run_274 H, e_X8_run_276 H, e_X8_run_277 H, e_X8_run_278 H, e_X8_run_280 H, e_X8_run_283 H, e_X8_run_284 H, e_X8_run_285 H, e_X8_run_286 H, vi, vl, vr, ocr_X8_call, oc_X0_above, T_X0_above, ix_push, ix_iload, ix_lload, ix_aload, ix_istore, ix_astore, ix_iinc, ix_bin, ix_div, ix_un, ix_i2l, ix_l2i, ix_lbin, ix_lsh, ix_lcmp, ix_dup, ix_dup2, ix_pop, ix_if, ix_cmp, ix_goto, ix_switch, ix_sw, ix_iret, ix_zret, ix_vret, ix_aret, ix_geti, ix_getr, ix_puti, ix_putz, ix_puts, ix_gets, ix_iald, ix_iast, ix_alen, ix_aald, ix_gval, ix_gcod, ix_bald, ix_blen, ix_sald, ix_nret, ix_math2, ix_math1, ix_acopy, Nat.add_assoc, Int32.reduceLT, Int32.reduceLE, Int32.reduceToNatClampNeg, Int32.reduceSub, Int32.reduceAdd, Nat.reduceAdd, Nat.reduceLeDiff, true_or, or_true, or_false, false_or, not_false_eq_true, not_true_eq_false, false_implies, true_implies, implies_true, and_self, mB_0, mB_01, Classical.not_not, Nat.zero_le, List.getElem?_cons_zero, List.getElem?_cons_succ, List.set_cons_zero, List.set_cons_succ, ix_nl, ix_cs, true_and, and_true, Option.toList_some, Option.toList_none, List.cons_append, List.nil_append]
  refine ⟨fun e => ?_, fun n10 => ?_⟩
  · subst e
    simp (decide := true) only [vRunG, if_true, if_false] at hr
    cases hr
    exact hQ μ Fx.rf htr
  refine ⟨fun e => ?_, fun n11 => ?_⟩
  · subst e
    simp (decide := true) only [vRunG, if_true, if_false] at hr
    cases hc : vCall (μ 93 1) (μ 93 2) (μ 93 3) d (μ 93 2) 0 x tr with
    | none => rw [hc] at hr; cases hr
    | some r1 =>
      rw [hc] at hr
      cases hr
      exact one _ _ _ tr r1 μ _ Fx.rf htr hc (fun μ2 hF h2 => hQ μ2 hF h2)
  refine ⟨fun e => ?_, fun n12 => ?_⟩
  · subst e
    simp (decide := true) only [vRunG, if_true, if_false] at hr
    cases hr
    exact hQ μ Fx.rf htr
  refine ⟨fun e => ?_, fun n13 => ?_⟩
  · subst e
    simp (decide := true) only [vRunG, if_true, if_false] at hr
    cases hc : vCall (μ 93 1) (μ 93 2) (μ 93 3) d (μ 93 2) 1 x tr with
    | none => rw [hc] at hr; cases hr
    | some r1 =>
      rw [hc] at hr
      simp only at hr
      cases hc2 : vCall (μ 93 1) (μ 93 2) (μ 93 3) d (μ 93 2) 2 x r1.2 with
      | none => rw [hc2] at hr; cases hr
      | some r2 =>
        rw [hc2] at hr
        cases hr
        refine one _ _ _ tr r1 μ _ Fx.rf htr hc (fun μ2 hF h2 => ⟨Nat.le_of_ble_eq_true rfl, ?_⟩)
        have e93 : μ2 93 2 = μ 93 2 := by rw [hF 93 (by decide)]
        show T_X8_call d (93, μ2 93 2, _, _, nI n) μ2 _
        rw [e93]
        exact one _ _ _ _ r2 μ2 _ hF h2 hc2 (fun μ3 hF3 h3 => hQ μ3 hF3 h3)
  refine ⟨fun e => ?_, fun n20 => ?_⟩
  · subst e
    simp (decide := true) only [vRunG, if_true, if_false] at hr
    cases hc : vCall (μ 93 1) (μ 93 2) (μ 93 3) d (mAbove ow) 0 x tr with
    | none => rw [hc] at hr; cases hr
    | some r1 =>
      rw [hc] at hr
      cases hr
      exact one _ _ _ tr r1 μ _ Fx.rf htr hc (fun μ2 hF h2 => hQ μ2 hF h2)
  refine ⟨fun e => ?_, fun n30 => ?_⟩
  · subst e
    simp (decide := true) only [vRunG, if_true, if_false] at hr
    cases hc : vCall (μ 93 1) (μ 93 2) (μ 93 3) d (mAbove ow) 1 x tr with
    | none => rw [hc] at hr; cases hr
    | some r1 =>
      rw [hc] at hr
      simp only at hr
      cases hc2 : vCall (μ 93 1) (μ 93 2) (μ 93 3) d (μ 93 2) 2 1 r1.2 with
      | none => rw [hc2] at hr; cases hr
      | some r2 =>
        rw [hc2] at hr
        cases hr
        refine one _ _ _ tr r1 μ _ Fx.rf htr hc (fun μ2 hF h2 => ⟨Nat.le_of_ble_eq_true rfl, ?_⟩)
        have e93 : μ2 93 2 = μ 93 2 := by rw [hF 93 (by decide)]
        show T_X8_call d (93, μ2 93 2, _, _, nI n) μ2 _
        rw [e93]
        exact one _ _ _ _ r2 μ2 _ hF h2 hc2 (fun μ3 hF3 h3 => hQ μ3 hF3 h3)
  refine ⟨fun e => ?_, fun n40 => ?_⟩
  · subst e
    simp (decide := true) only [vRunG, if_true, if_false] at hr
    cases hc : vCall (μ 93 1) (μ 93 2) (μ 93 3) d (mAbove ow) 2 x tr with
    | none => rw [hc] at hr; cases hr
    | some r1 =>
      rw [hc] at hr
      cases hr
      exact one _ _ _ tr r1 μ _ Fx.rf htr hc (fun μ2 hF h2 => hQ μ2 hF h2)
  refine ⟨fun e => ?_, fun n50 => ?_⟩
  · subst e
    simp (decide := true) only [vRunG, if_true, if_false] at hr
    cases hc : vCall (μ 93 1) (μ 93 2) (μ 93 3) d (mAbove ow) 3 x tr with
    | none => rw [hc] at hr; cases hr
    | some r1 =>
      rw [hc] at hr
      simp only at hr
      cases hc2 : vCall (μ 93 1) (μ 93 2) (μ 93 3) d (μ 93 2) 0 2 r1.2 with
      | none => rw [hc2] at hr; cases hr
      | some r2 =>
        rw [hc2] at hr
        cases hr
        refine one _ _ _ tr r1 μ _ Fx.rf htr hc (fun μ2 hF h2 => ⟨Nat.le_of_ble_eq_true rfl, ?_⟩)
        have e93 : μ2 93 2 = μ 93 2 := by rw [hF 93 (by decide)]
        show T_X8_call d (93, μ2 93 2, _, _, nI n) μ2 _
        rw [e93]
        exact one _ _ _ _ r2 μ2 _ hF h2 hc2 (fun μ3 hF3 h3 => hQ μ3 hF3 h3)
  refine ⟨fun e => ?_, fun n60 => ?_⟩
  · subst e
    simp (decide := true) only [vRunG, if_true, if_false] at hr
    exact one _ _ _ tr r μ _ Fx.rf htr hr (fun μ2 hF h2 => hQ μ2 hF h2)
  refine ⟨fun e => ?_, fun n70 => ?_⟩
  · subst e
    simp (decide := true) only [vRunG, if_true, if_false] at hr
    cases hc : vCall (μ 93 1) (μ 93 2) (μ 93 3) d (mAbove ow) 2 x tr with
    | none => rw [hc] at hr; cases hr
    | some r1 =>
      rw [hc] at hr
      cases hr
      exact one _ _ _ tr r1 μ _ Fx.rf htr hc (fun μ2 hF h2 => by
      have e : μ2 93 1 = μ 93 1 := by rw [hF 93 (by decide)]
      show Q (some (Sum.inl (r1.1 ^^^ μ2 93 1)), μ2)
      rw [e]
      exact hQ μ2 hF h2)
  refine ⟨fun e => ?_, fun n71 => ?_⟩
  · subst e
    simp (decide := true) only [vRunG, if_true, if_false] at hr
    cases hc : vCall (μ 93 1) (μ 93 2) (μ 93 3) d (μ 93 2) 1 x tr with
    | none => rw [hc] at hr; cases hr
    | some r1 =>
      rw [hc] at hr
      simp only at hr
      cases hc2 : vCall (μ 93 1) (μ 93 2) (μ 93 3) d (mAbove ow) 3 x r1.2 with
      | none => rw [hc2] at hr; cases hr
      | some r2 =>
        rw [hc2] at hr
        cases hr
        refine one _ _ _ tr r1 μ _ Fx.rf htr hc (fun μ2 hF h2 => ⟨Nat.le_of_ble_eq_true rfl, ?_⟩)
        exact one _ _ _ _ r2 μ2 _ hF h2 hc2 (fun μ3 hF3 h3 => hQ μ3 hF3 h3)
  simp (decide := true) only [vRunG, if_true, if_false, n10, n11, n12, n13, n20, n30, n40, n50, n60, n70, n71] at hr
  cases hr
  exact hQ μ Fx.rf htr
theorem k_X8_call (l : Launch) : ∀ d, ix_Ct l yX8_call cX8_call 8 (some .int) (2 * d + 1) sh_X8_call (T_X8_call d)
  | 0 => fun E x μ Q _ _ h => by
    obtain ⟨o, fm, a, x, op⟩ := x
    obtain ⟨-, n, tr, r, -, -, -, hr, -⟩ := h
    cases hr
  | d + 1 => r_X8_call l d (2 * d + 2) (r_X8_run l d (2 * d + 1) (k_X8_call l d) (by omega)) (by omega)
theorem kk_X8_call (l : Launch) : ix_Ct l yX8_call cX8_call 8 (some .int) 17 sh_X8_call (T_X8_call 8) := k_X8_call l 8
def sh_X8_begin (x : Nat × Int32 × Int32 × Int32 × Int32 × Int32) : List ix_V := [vr 7 x.1, vi x.2.1, vi x.2.2.1, vi x.2.2.2.1, vi x.2.2.2.2.1, vi x.2.2.2.2.2]
def T_X8_begin : Nat × Int32 × Int32 × Int32 × Int32 × Int32 → ix_M → (ix_R → Prop) → Prop := fun (_, nb, kd, mm, a, x) μ Q => ∃ r, vCall nb kd mm 8 kd a x [] = some r ∧ ∀ μ', Fx [93, 94, 95] μ μ' → TrC μ' r.2 → Q (some (vi r.1), μ')
def o_X8_begin (TX8_call : Nat × Int32 × Int32 × Int32 × Int32 → ix_M → (ix_R → Prop) → Prop) : List (Nat × ix_Op) := [
  (0, ix_aload 0 1),
  (1, ix_iload 1 2),
  (2, ix_puti 7 1 5),
  (5, ix_aload 0 6),
  (6, ix_iload 2 7),
  (7, ix_puti 7 2 10),
  (10, ix_aload 0 11),
  (11, ix_iload 3 12),
  (12, ix_puti 7 3 15),
  (15, ix_aload 0 16),
  (16, ix_getr 7 3 (fun _ => 94) 19),
  (19, oc_X4_clear 22),
  (22, ix_aload 0 23),
  (23, ix_aload 0 24),
  (24, ix_geti 7 2 27),
  (27, ix_iload 4 29),
  (29, ix_iload 5 31),
  (31, ix_push (vi 0) 32),
  (32, ocr_X8_call TX8_call 35),
  (35, ix_iret)]
set_option maxRecDepth 20000 in
theorem a_X8_begin (l : Launch) (d : Nat) (hlev : 18 ≤ d) {TX8_call : Nat × Int32 × Int32 × Int32 × Int32 → ix_M → (ix_R → Prop) → Prop} {d_X8_call : Nat} (h_X8_call : ix_Ct l yX8_call cX8_call 8 (some .int) d_X8_call sh_X8_call TX8_call) (hl_X8_call : d_X8_call < d) (hm_X8_call : ∀ x μ Q Q', (∀ r, Q r → Q' r) → TX8_call x μ Q → TX8_call x μ Q') : ix_AllS l cX8_begin 6 RX8 d (some .int) (o_X8_begin TX8_call) :=
  .cons (ix_s_aload_n dX8_begin_0 rfl) <|
  .cons (ix_s_iload_n dX8_begin_1 rfl) <|
  .cons (ix_s_puti (j := 1) tu_X8 tyX8_ok nmX8 rfl (by decide) (by decide) tw_201 rfl rfl (by decide +kernel) ts_7_1_p dX8_begin_2) <|
  .cons (ix_s_aload_n dX8_begin_5 rfl) <|
  .cons (ix_s_iload_n dX8_begin_6 rfl) <|
  .cons (ix_s_puti (j := 2) tu_X8 tyX8_ok nmX8 rfl (by decide) (by decide) tw_202 rfl rfl (by decide +kernel) ts_7_2_p dX8_begin_7) <|
  .cons (ix_s_aload_n dX8_begin_10 rfl) <|
  .cons (ix_s_iload_n dX8_begin_11 rfl) <|
  .cons (ix_s_puti (j := 3) tu_X8 tyX8_ok nmX8 rfl (by decide) (by decide) tw_203 rfl rfl (by decide +kernel) ts_7_3_p dX8_begin_12) <|
  .cons (ix_s_aload_n dX8_begin_15 rfl) <|
  .cons (ix_s_getr (j := 0) tu_X8 rfl (by decide) (by decide) tw_199 rfl ts_7_0_r dX8_begin_16) <|
  .cons (oc_X4_clear_s (ix_s_callv (t := 3) (k_X4_clear l) (by omega) (by decide) tw_458 tw_6 tw_772 tw_456 tw_457 ⟨by decide, by decide, by decide +kernel⟩ (by decide) rfl rfl (fun _ => ⟨_, _, rfl, rfl⟩) dX8_begin_19)) <|
  .cons (ix_s_aload_n dX8_begin_22 rfl) <|
  .cons (ix_s_aload_n dX8_begin_23 rfl) <|
  .cons (ix_s_geti (j := 2) tu_X8 rfl (by decide) (by decide) tw_202 rfl ts_7_2_i dX8_begin_24) <|
  .cons (ix_s_iload dX8_begin_27) <|
  .cons (ix_s_iload dX8_begin_29) <|
  .cons (ix_s_iconst dX8_begin_31 (by decide +kernel)) <|
  .cons (ocr_X8_call_s hm_X8_call (ix_s_callv (t := 7) h_X8_call hl_X8_call (by decide) tw_776 tw_9 tw_773 tw_775 tp_16 ⟨by decide, by decide, by decide +kernel⟩ (by decide) rfl rfl (fun _ => ⟨_, _, rfl, rfl⟩) dX8_begin_32)) <|
  .cons (ix_s_iret dX8_begin_35 rfl) <| .nil
theorem e_X8_begin_0 {TX8_call : Nat × Int32 × Int32 × Int32 × Int32 → ix_M → (ix_R → Prop) → Prop} {l : Launch} {d : Nat} (H : ix_AllS l cX8_begin 6 RX8 d (some .int) (o_X8_begin TX8_call)) (Q : ix_R → Prop) (ls : ix_L) (st : List ix_V) (μ : ix_M) : ix_Ev (o_X8_begin TX8_call) Q (0, ls, st, μ) = ix_aload 0 1 (ix_Ev (o_X8_begin TX8_call) Q) Q ls st μ := ix_Ev.eq H rfl ls st μ
theorem e_X8_begin_1 {TX8_call : Nat × Int32 × Int32 × Int32 × Int32 → ix_M → (ix_R → Prop) → Prop} {l : Launch} {d : Nat} (H : ix_AllS l cX8_begin 6 RX8 d (some .int) (o_X8_begin TX8_call)) (Q : ix_R → Prop) (ls : ix_L) (st : List ix_V) (μ : ix_M) : ix_Ev (o_X8_begin TX8_call) Q (1, ls, st, μ) = ix_iload 1 2 (ix_Ev (o_X8_begin TX8_call) Q) Q ls st μ := ix_Ev.eq H rfl ls st μ
theorem e_X8_begin_2 {TX8_call : Nat × Int32 × Int32 × Int32 × Int32 → ix_M → (ix_R → Prop) → Prop} {l : Launch} {d : Nat} (H : ix_AllS l cX8_begin 6 RX8 d (some .int) (o_X8_begin TX8_call)) (Q : ix_R → Prop) (ls : ix_L) (st : List ix_V) (μ : ix_M) : ix_Ev (o_X8_begin TX8_call) Q (2, ls, st, μ) = ix_puti 7 1 5 (ix_Ev (o_X8_begin TX8_call) Q) Q ls st μ := ix_Ev.eq H rfl ls st μ
theorem e_X8_begin_5 {TX8_call : Nat × Int32 × Int32 × Int32 × Int32 → ix_M → (ix_R → Prop) → Prop} {l : Launch} {d : Nat} (H : ix_AllS l cX8_begin 6 RX8 d (some .int) (o_X8_begin TX8_call)) (Q : ix_R → Prop) (ls : ix_L) (st : List ix_V) (μ : ix_M) : ix_Ev (o_X8_begin TX8_call) Q (5, ls, st, μ) = ix_aload 0 6 (ix_Ev (o_X8_begin TX8_call) Q) Q ls st μ := ix_Ev.eq H rfl ls st μ
theorem e_X8_begin_6 {TX8_call : Nat × Int32 × Int32 × Int32 × Int32 → ix_M → (ix_R → Prop) → Prop} {l : Launch} {d : Nat} (H : ix_AllS l cX8_begin 6 RX8 d (some .int) (o_X8_begin TX8_call)) (Q : ix_R → Prop) (ls : ix_L) (st : List ix_V) (μ : ix_M) : ix_Ev (o_X8_begin TX8_call) Q (6, ls, st, μ) = ix_iload 2 7 (ix_Ev (o_X8_begin TX8_call) Q) Q ls st μ := ix_Ev.eq H rfl ls st μ
theorem e_X8_begin_7 {TX8_call : Nat × Int32 × Int32 × Int32 × Int32 → ix_M → (ix_R → Prop) → Prop} {l : Launch} {d : Nat} (H : ix_AllS l cX8_begin 6 RX8 d (some .int) (o_X8_begin TX8_call)) (Q : ix_R → Prop) (ls : ix_L) (st : List ix_V) (μ : ix_M) : ix_Ev (o_X8_begin TX8_call) Q (7, ls, st, μ) = ix_puti 7 2 10 (ix_Ev (o_X8_begin TX8_call) Q) Q ls st μ := ix_Ev.eq H rfl ls st μ
theorem e_X8_begin_10 {TX8_call : Nat × Int32 × Int32 × Int32 × Int32 → ix_M → (ix_R → Prop) → Prop} {l : Launch} {d : Nat} (H : ix_AllS l cX8_begin 6 RX8 d (some .int) (o_X8_begin TX8_call)) (Q : ix_R → Prop) (ls : ix_L) (st : List ix_V) (μ : ix_M) : ix_Ev (o_X8_begin TX8_call) Q (10, ls, st, μ) = ix_aload 0 11 (ix_Ev (o_X8_begin TX8_call) Q) Q ls st μ := ix_Ev.eq H rfl ls st μ
theorem e_X8_begin_11 {TX8_call : Nat × Int32 × Int32 × Int32 × Int32 → ix_M → (ix_R → Prop) → Prop} {l : Launch} {d : Nat} (H : ix_AllS l cX8_begin 6 RX8 d (some .int) (o_X8_begin TX8_call)) (Q : ix_R → Prop) (ls : ix_L) (st : List ix_V) (μ : ix_M) : ix_Ev (o_X8_begin TX8_call) Q (11, ls, st, μ) = ix_iload 3 12 (ix_Ev (o_X8_begin TX8_call) Q) Q ls st μ := ix_Ev.eq H rfl ls st μ
theorem e_X8_begin_12 {TX8_call : Nat × Int32 × Int32 × Int32 × Int32 → ix_M → (ix_R → Prop) → Prop} {l : Launch} {d : Nat} (H : ix_AllS l cX8_begin 6 RX8 d (some .int) (o_X8_begin TX8_call)) (Q : ix_R → Prop) (ls : ix_L) (st : List ix_V) (μ : ix_M) : ix_Ev (o_X8_begin TX8_call) Q (12, ls, st, μ) = ix_puti 7 3 15 (ix_Ev (o_X8_begin TX8_call) Q) Q ls st μ := ix_Ev.eq H rfl ls st μ
theorem e_X8_begin_15 {TX8_call : Nat × Int32 × Int32 × Int32 × Int32 → ix_M → (ix_R → Prop) → Prop} {l : Launch} {d : Nat} (H : ix_AllS l cX8_begin 6 RX8 d (some .int) (o_X8_begin TX8_call)) (Q : ix_R → Prop) (ls : ix_L) (st : List ix_V) (μ : ix_M) : ix_Ev (o_X8_begin TX8_call) Q (15, ls, st, μ) = ix_aload 0 16 (ix_Ev (o_X8_begin TX8_call) Q) Q ls st μ := ix_Ev.eq H rfl ls st μ
theorem e_X8_begin_16 {TX8_call : Nat × Int32 × Int32 × Int32 × Int32 → ix_M → (ix_R → Prop) → Prop} {l : Launch} {d : Nat} (H : ix_AllS l cX8_begin 6 RX8 d (some .int) (o_X8_begin TX8_call)) (Q : ix_R → Prop) (ls : ix_L) (st : List ix_V) (μ : ix_M) : ix_Ev (o_X8_begin TX8_call) Q (16, ls, st, μ) = ix_getr 7 3 (fun _ => 94) 19 (ix_Ev (o_X8_begin TX8_call) Q) Q ls st μ := ix_Ev.eq H rfl ls st μ
theorem e_X8_begin_19 {TX8_call : Nat × Int32 × Int32 × Int32 × Int32 → ix_M → (ix_R → Prop) → Prop} {l : Launch} {d : Nat} (H : ix_AllS l cX8_begin 6 RX8 d (some .int) (o_X8_begin TX8_call)) (Q : ix_R → Prop) (ls : ix_L) (st : List ix_V) (μ : ix_M) : ix_Ev (o_X8_begin TX8_call) Q (19, ls, st, μ) = oc_X4_clear 22 (ix_Ev (o_X8_begin TX8_call) Q) Q ls st μ := ix_Ev.eq H rfl ls st μ
theorem e_X8_begin_22 {TX8_call : Nat × Int32 × Int32 × Int32 × Int32 → ix_M → (ix_R → Prop) → Prop} {l : Launch} {d : Nat} (H : ix_AllS l cX8_begin 6 RX8 d (some .int) (o_X8_begin TX8_call)) (Q : ix_R → Prop) (ls : ix_L) (st : List ix_V) (μ : ix_M) : ix_Ev (o_X8_begin TX8_call) Q (22, ls, st, μ) = ix_aload 0 23 (ix_Ev (o_X8_begin TX8_call) Q) Q ls st μ := ix_Ev.eq H rfl ls st μ
theorem e_X8_begin_23 {TX8_call : Nat × Int32 × Int32 × Int32 × Int32 → ix_M → (ix_R → Prop) → Prop} {l : Launch} {d : Nat} (H : ix_AllS l cX8_begin 6 RX8 d (some .int) (o_X8_begin TX8_call)) (Q : ix_R → Prop) (ls : ix_L) (st : List ix_V) (μ : ix_M) : ix_Ev (o_X8_begin TX8_call) Q (23, ls, st, μ) = ix_aload 0 24 (ix_Ev (o_X8_begin TX8_call) Q) Q ls st μ := ix_Ev.eq H rfl ls st μ
theorem e_X8_begin_24 {TX8_call : Nat × Int32 × Int32 × Int32 × Int32 → ix_M → (ix_R → Prop) → Prop} {l : Launch} {d : Nat} (H : ix_AllS l cX8_begin 6 RX8 d (some .int) (o_X8_begin TX8_call)) (Q : ix_R → Prop) (ls : ix_L) (st : List ix_V) (μ : ix_M) : ix_Ev (o_X8_begin TX8_call) Q (24, ls, st, μ) = ix_geti 7 2 27 (ix_Ev (o_X8_begin TX8_call) Q) Q ls st μ := ix_Ev.eq H rfl ls st μ
theorem e_X8_begin_27 {TX8_call : Nat × Int32 × Int32 × Int32 × Int32 → ix_M → (ix_R → Prop) → Prop} {l : Launch} {d : Nat} (H : ix_AllS l cX8_begin 6 RX8 d (some .int) (o_X8_begin TX8_call)) (Q : ix_R → Prop) (ls : ix_L) (st : List ix_V) (μ : ix_M) : ix_Ev (o_X8_begin TX8_call) Q (27, ls, st, μ) = ix_iload 4 29 (ix_Ev (o_X8_begin TX8_call) Q) Q ls st μ := ix_Ev.eq H rfl ls st μ
theorem e_X8_begin_29 {TX8_call : Nat × Int32 × Int32 × Int32 × Int32 → ix_M → (ix_R → Prop) → Prop} {l : Launch} {d : Nat} (H : ix_AllS l cX8_begin 6 RX8 d (some .int) (o_X8_begin TX8_call)) (Q : ix_R → Prop) (ls : ix_L) (st : List ix_V) (μ : ix_M) : ix_Ev (o_X8_begin TX8_call) Q (29, ls, st, μ) = ix_iload 5 31 (ix_Ev (o_X8_begin TX8_call) Q) Q ls st μ := ix_Ev.eq H rfl ls st μ
theorem e_X8_begin_31 {TX8_call : Nat × Int32 × Int32 × Int32 × Int32 → ix_M → (ix_R → Prop) → Prop} {l : Launch} {d : Nat} (H : ix_AllS l cX8_begin 6 RX8 d (some .int) (o_X8_begin TX8_call)) (Q : ix_R → Prop) (ls : ix_L) (st : List ix_V) (μ : ix_M) : ix_Ev (o_X8_begin TX8_call) Q (31, ls, st, μ) = ix_push (vi 0) 32 (ix_Ev (o_X8_begin TX8_call) Q) Q ls st μ := ix_Ev.eq H rfl ls st μ
theorem e_X8_begin_32 {TX8_call : Nat × Int32 × Int32 × Int32 × Int32 → ix_M → (ix_R → Prop) → Prop} {l : Launch} {d : Nat} (H : ix_AllS l cX8_begin 6 RX8 d (some .int) (o_X8_begin TX8_call)) (Q : ix_R → Prop) (ls : ix_L) (st : List ix_V) (μ : ix_M) : ix_Ev (o_X8_begin TX8_call) Q (32, ls, st, μ) = ocr_X8_call TX8_call 35 (ix_Ev (o_X8_begin TX8_call) Q) Q ls st μ := ix_Ev.eq H rfl ls st μ
theorem e_X8_begin_35 {TX8_call : Nat × Int32 × Int32 × Int32 × Int32 → ix_M → (ix_R → Prop) → Prop} {l : Launch} {d : Nat} (H : ix_AllS l cX8_begin 6 RX8 d (some .int) (o_X8_begin TX8_call)) (Q : ix_R → Prop) (ls : ix_L) (st : List ix_V) (μ : ix_M) : ix_Ev (o_X8_begin TX8_call) Q (35, ls, st, μ) = ix_iret (ix_Ev (o_X8_begin TX8_call) Q) Q ls st μ := ix_Ev.eq H rfl ls st μ
theorem k_X8_begin (l : Launch) : ix_Ct l yX8_begin cX8_begin 6 (some .int) 18 sh_X8_begin T_X8_begin := by
  have H := a_X8_begin l 18 (Nat.le_refl _) (kk_X8_call l) (by decide) (mo_X8_call 8)
  refine ix_ct H rfl (by decide) (fun _ => Nat.le_of_ble_eq_true rfl) (fun x μ Q hok hT => ?_)
  obtain ⟨o, nb, kd, mm, a, x⟩ := x
  have ok_o := ix_ok_at (hok (vr 7 o) (by simp [sh_X8_begin])) (by decide) (by decide)
  obtain rfl := ok_7 o ok_o.1 ok_o.2
  obtain ⟨r, hr, hQ⟩ := hT
  show ix_Ev (o_X8_begin _) Q (0, [some (vr 7 93), some (vi nb), some (vi kd), some (vi mm), some (vi a), some (vi x)], [], μ)
  simp (decide := true) only [e_X8_begin_0 H, e_X8_begin_1 H, e_X8_begin_2 H, e_X8_begin_5 H, e_X8_begin_6 H, e_X8_begin_7 H, e_X8_begin_10 H, e_X8_begin_11 H, e_X8_begin_12 H, e_X8_begin_15 H, e_X8_begin_16 H, e_X8_begin_19 H, e_X8_begin_22 H, e_X8_begin_23 H, e_X8_begin_24 H, e_X8_begin_27 H, e_X8_begin_29 H, e_X8_begin_31 H, e_X8_begin_32 H, e_X8_begin_35 H, vi, vl, vr, ocr_X8_call, oc_X4_clear, T_X4_clear, ix_push, ix_iload, ix_lload, ix_aload, ix_istore, ix_astore, ix_iinc, ix_bin, ix_div, ix_un, ix_i2l, ix_l2i, ix_lbin, ix_lsh, ix_lcmp, ix_dup, ix_dup2, ix_pop, ix_if, ix_cmp, ix_goto, ix_switch, ix_sw, ix_iret, ix_zret, ix_vret, ix_aret, ix_geti, ix_getr, ix_puti, ix_putz, ix_puts, ix_gets, ix_iald, ix_iast, ix_alen, ix_aald, ix_gval, ix_gcod, ix_bald, ix_blen, ix_sald, ix_nret, ix_math2, ix_math1, ix_acopy, Nat.add_assoc, Int32.reduceLT, Int32.reduceLE, Int32.reduceToNatClampNeg, Int32.reduceSub, Int32.reduceAdd, Nat.reduceAdd, Nat.reduceLeDiff, true_or, or_true, or_false, false_or, not_false_eq_true, not_true_eq_false, false_implies, true_implies, implies_true, and_self, mB_0, mB_01, Classical.not_not, Nat.zero_le, List.getElem?_cons_zero, List.getElem?_cons_succ, List.set_cons_zero, List.set_cons_succ, ix_nl, ix_cs, true_and, and_true, Option.toList_some, Option.toList_none, List.cons_append, List.nil_append]
  refine ⟨rfl, 0, [], r, rfl, by decide, ⟨by simp [ix_up_ap]; rfl, by decide, fun j hj => absurd hj (by simp)⟩, ?_, fun μ' hF hT => hQ μ' (fun b hb => ?_) hT⟩
  · simp [ix_up_ap, hr]
  · simp only [List.mem_cons, List.not_mem_nil, or_false, not_or] at hb
    rw [hF b (by simp; omega), ix_up_ne (by omega), ix_up_ne (by omega), ix_up_ne (by omega), ix_up_ne (by omega)]
