/-! ===== constructors: IndigoBoats (written by gen/walk3.py) ===== -/
def wBoats (tC : Nat → ClassId) (q : Nat → Nat) (s0 : Nat) : va_W := [(q 0, .inr (9, [.ref (q 1), .ref (q 24), .int 0, .ref (q 47), .ref (q 88), .ref (q 93), .ref (q 96), .ref (q 98), .ref (q 111), .int 0, .int 0])),
  (q 1, .inr (5, [.ref (q 2), .ref (q 10), .ref (q 19), .ref (q 21), .ref (q 23), .int 1])),
  (q 2, .inr (8, [.ref (q 3), .ref (q 4), .ref (q 5), .ref (q 6), .ref (q 7), .ref (q 8), .ref (q 9), .int 0, .int 0, .int 14])),
  (q 3, .inl (tC 0, 16, .inl (dpF 16))),
  (q 4, .inl (tC 0, 16, .inl (fun _ => 0))),
  (q 5, .inl (tC 0, 6, .inl (fun _ => 0))),
  (q 6, .inl (tC 0, 8, .inl (fun _ => 0))),
  (q 7, .inl (tC 0, 8, .inl (fun _ => 0))),
  (q 8, .inl (tC 0, 8, .inl (fun _ => 0))),
  (q 9, .inl (tC 0, 8, .inl (fun _ => 0))),
  (q 10, .inr (0, [.ref (q 11), .ref (q 15)])),
  (q 11, .inr (6, [.ref (q 12), .ref (q 14)])),
  (q 12, .inr (3, [.ref (q 13), .int 0])),
  (q 13, .inl (tC 0, 50, .inl (fun _ => 0))),
  (q 14, .inl (tC 0, 50, .inl (fun _ => 0))),
  (q 15, .inr (6, [.ref (q 16), .ref (q 18)])),
  (q 16, .inr (3, [.ref (q 17), .int 0])),
  (q 17, .inl (tC 0, 50, .inl (fun _ => 0))),
  (q 18, .inl (tC 0, 50, .inl (fun _ => 0))),
  (q 19, .inr (3, [.ref (q 20), .int 0])),
  (q 20, .inl (tC 0, 50, .inl (fun _ => 0))),
  (q 21, .inr (3, [.ref (q 22), .int 0])),
  (q 22, .inl (tC 0, 20, .inl (fun _ => 0))),
  (q 23, .inl (tC 0, 6, .inl (wtF 6))),
  (q 24, .inr (5, [.ref (q 25), .ref (q 33), .ref (q 42), .ref (q 44), .ref (q 46), .int 1])),
  (q 25, .inr (8, [.ref (q 26), .ref (q 27), .ref (q 28), .ref (q 29), .ref (q 30), .ref (q 31), .ref (q 32), .int 0, .int 0, .int 14])),
  (q 26, .inl (tC 0, 16, .inl (dpF 16))),
  (q 27, .inl (tC 0, 16, .inl (fun _ => 0))),
  (q 28, .inl (tC 0, 6, .inl (fun _ => 0))),
  (q 29, .inl (tC 0, 8, .inl (fun _ => 0))),
  (q 30, .inl (tC 0, 8, .inl (fun _ => 0))),
  (q 31, .inl (tC 0, 8, .inl (fun _ => 0))),
  (q 32, .inl (tC 0, 8, .inl (fun _ => 0))),
  (q 33, .inr (0, [.ref (q 34), .ref (q 38)])),
  (q 34, .inr (6, [.ref (q 35), .ref (q 37)])),
  (q 35, .inr (3, [.ref (q 36), .int 0])),
  (q 36, .inl (tC 0, 50, .inl (fun _ => 0))),
  (q 37, .inl (tC 0, 50, .inl (fun _ => 0))),
  (q 38, .inr (6, [.ref (q 39), .ref (q 41)])),
  (q 39, .inr (3, [.ref (q 40), .int 0])),
  (q 40, .inl (tC 0, 50, .inl (fun _ => 0))),
  (q 41, .inl (tC 0, 50, .inl (fun _ => 0))),
  (q 42, .inr (3, [.ref (q 43), .int 0])),
  (q 43, .inl (tC 0, 50, .inl (fun _ => 0))),
  (q 44, .inr (3, [.ref (q 45), .int 0])),
  (q 45, .inl (tC 0, 20, .inl (fun _ => 0))),
  (q 46, .inl (tC 0, 6, .inl (wtF 6))),
  (q 47, .inl (tC 1, 5, .inr (.inr (.inr (.inr (fun i => [some (q 48), some (q 56), some (q 64), some (q 72), some (q 80)].getD i none)))))),
  (q 48, .inr (8, [.ref (q 49), .ref (q 50), .ref (q 51), .ref (q 52), .ref (q 53), .ref (q 54), .ref (q 55), .int 0, .int 0, .int 14])),
  (q 49, .inl (tC 0, 16, .inl (dpF 16))),
  (q 50, .inl (tC 0, 16, .inl (fun _ => 0))),
  (q 51, .inl (tC 0, 6, .inl (fun _ => 0))),
  (q 52, .inl (tC 0, 8, .inl (fun _ => 0))),
  (q 53, .inl (tC 0, 8, .inl (fun _ => 0))),
  (q 54, .inl (tC 0, 8, .inl (fun _ => 0))),
  (q 55, .inl (tC 0, 8, .inl (fun _ => 0))),
  (q 56, .inr (8, [.ref (q 57), .ref (q 58), .ref (q 59), .ref (q 60), .ref (q 61), .ref (q 62), .ref (q 63), .int 0, .int 0, .int 14])),
  (q 57, .inl (tC 0, 16, .inl (dpF 16))),
  (q 58, .inl (tC 0, 16, .inl (fun _ => 0))),
  (q 59, .inl (tC 0, 6, .inl (fun _ => 0))),
  (q 60, .inl (tC 0, 8, .inl (fun _ => 0))),
  (q 61, .inl (tC 0, 8, .inl (fun _ => 0))),
  (q 62, .inl (tC 0, 8, .inl (fun _ => 0))),
  (q 63, .inl (tC 0, 8, .inl (fun _ => 0))),
  (q 64, .inr (8, [.ref (q 65), .ref (q 66), .ref (q 67), .ref (q 68), .ref (q 69), .ref (q 70), .ref (q 71), .int 0, .int 0, .int 14])),
  (q 65, .inl (tC 0, 16, .inl (dpF 16))),
  (q 66, .inl (tC 0, 16, .inl (fun _ => 0))),
  (q 67, .inl (tC 0, 6, .inl (fun _ => 0))),
  (q 68, .inl (tC 0, 8, .inl (fun _ => 0))),
  (q 69, .inl (tC 0, 8, .inl (fun _ => 0))),
  (q 70, .inl (tC 0, 8, .inl (fun _ => 0))),
  (q 71, .inl (tC 0, 8, .inl (fun _ => 0))),
  (q 72, .inr (8, [.ref (q 73), .ref (q 74), .ref (q 75), .ref (q 76), .ref (q 77), .ref (q 78), .ref (q 79), .int 0, .int 0, .int 14])),
  (q 73, .inl (tC 0, 16, .inl (dpF 16))),
  (q 74, .inl (tC 0, 16, .inl (fun _ => 0))),
  (q 75, .inl (tC 0, 6, .inl (fun _ => 0))),
  (q 76, .inl (tC 0, 8, .inl (fun _ => 0))),
  (q 77, .inl (tC 0, 8, .inl (fun _ => 0))),
  (q 78, .inl (tC 0, 8, .inl (fun _ => 0))),
  (q 79, .inl (tC 0, 8, .inl (fun _ => 0))),
  (q 80, .inr (8, [.ref (q 81), .ref (q 82), .ref (q 83), .ref (q 84), .ref (q 85), .ref (q 86), .ref (q 87), .int 0, .int 0, .int 14])),
  (q 81, .inl (tC 0, 16, .inl (dpF 16))),
  (q 82, .inl (tC 0, 16, .inl (fun _ => 0))),
  (q 83, .inl (tC 0, 6, .inl (fun _ => 0))),
  (q 84, .inl (tC 0, 8, .inl (fun _ => 0))),
  (q 85, .inl (tC 0, 8, .inl (fun _ => 0))),
  (q 86, .inl (tC 0, 8, .inl (fun _ => 0))),
  (q 87, .inl (tC 0, 8, .inl (fun _ => 0))),
  (q 88, .inr (2, [.ref (q 89), .ref (q 112), .ref s0, .int 0])),
  (q 89, .inr (6, [.ref (q 90), .ref (q 92)])),
  (q 90, .inr (3, [.ref (q 91), .int 0])),
  (q 91, .inl (tC 0, 50, .inl (fun _ => 0))),
  (q 92, .inl (tC 0, 50, .inl (fun _ => 0))),
  (q 93, .inr (7, [.ref (q 94), .int 0, .int 0, .int 0])),
  (q 94, .inr (3, [.ref (q 95), .int 0])),
  (q 95, .inl (tC 0, 40, .inl (fun _ => 0))),
  (q 96, .inr (1, [.ref (q 97), .ref (q 114), .ref (q 115), .int 0])),
  (q 97, .inl (tC 0, 1792, .inl (fun _ => 0))),
  (q 98, .inl (tC 2, 4, .inr (.inr (.inr (.inr (fun i => [some (q 99), some (q 102), some (q 105), some (q 108)].getD i none)))))),
  (q 99, .inr (4, [.ref (q 100), .int 0])),
  (q 100, .inr (3, [.ref (q 101), .int 0])),
  (q 101, .inl (tC 0, 40, .inl (fun _ => 0))),
  (q 102, .inr (4, [.ref (q 103), .int 0])),
  (q 103, .inr (3, [.ref (q 104), .int 0])),
  (q 104, .inl (tC 0, 40, .inl (fun _ => 0))),
  (q 105, .inr (4, [.ref (q 106), .int 0])),
  (q 106, .inr (3, [.ref (q 107), .int 0])),
  (q 107, .inl (tC 0, 40, .inl (fun _ => 0))),
  (q 108, .inr (4, [.ref (q 109), .int 0])),
  (q 109, .inr (3, [.ref (q 110), .int 0])),
  (q 110, .inl (tC 0, 40, .inl (fun _ => 0))),
  (q 111, .inl (tC 0, 6, .inl (fun _ => 0))),
  (q 112, .inr (3, [.ref (q 113), .int 0])),
  (q 113, .inl (tC 0, 50, .inl (fun _ => 0))),
  (q 114, .inl (tC 0, 6, .inl (fun _ => 0))),
  (q 115, .inl (tC 0, 8, .inl (fun _ => 0)))]
theorem n_Boats (l : Launch) (D : va_G) (tC : Nat → ClassId) (sa : Nat → Nat) : cx_Ct l yX10_init cX10_init 2 6 115 3359 9 [.null, .null, .int 0, .null, .null, .null, .null, .null, .null, .int 0, .int 0] [] [] [] D tC sa (fun h0 w => ∃ q : Nat → Nat, q 0 = h0 ∧ w = wBoats tC q (sa 0)) := by
  refine cx_ct (own := RX10) rfl (by decide) rfl (fun h0 => Nat.le_of_ble_eq_true rfl) (fun p e R s m args below meth c Qw A h0 hC hK hZ hin hend => ?_)
  refine cx_aload_n hC dX10_init_0 rfl 0 rfl ?_
  refine cx_obj hC (ix_tab 25 (by decide +kernel) rfl) (ix_tab 26 (by decide +kernel) rfl) (ix_tab 27 (by decide +kernel) rfl) dX10_init_1 (by decide) (Nat.le_of_ble_eq_true rfl) ?_
  refine cx_aload_n hC dX10_init_4 rfl 0 rfl ?_
  refine cx_new (ci := 5) (fs := [.null, .null, .null, .null, .null, .int 0]) hC tu_X6 tyX6 tyX6_ok (ix_tab 28 (by decide +kernel) rfl) (ix_tab 29 (by decide +kernel) rfl) (ix_tab 2 (by decide +kernel) rfl) rfl (by decide +kernel) (Nat.le_of_ble_eq_true rfl) (Nat.le_of_ble_eq_true rfl) dX10_init_5 (fun a1 => ?_)
  simp only [List.cons_append, List.append_assoc, List.nil_append]
  refine cx_dup hC dX10_init_8 rfl ?_
  refine cx_init hC hK (n_State l D tC sa) cx_Z.nil (by decide) (by decide) (Nat.le_of_ble_eq_true rfl) (Nat.le_of_ble_eq_true rfl) (ix_tab 32 (by decide +kernel) rfl) (ix_tab 2 (by decide +kernel) rfl) (ix_tab 30 (by decide +kernel) rfl) (ix_tab 31 (by decide +kernel) rfl) rfl ⟨by decide +kernel, by decide +kernel, (by decide +kernel : (parseMethodDescriptor yX6_init.desc).map (fun d => d.parameters.length) = some 0)⟩ (Nat.le_of_ble_eq_true rfl) dX10_init_9 (wr := ((h0, .inr (9, [.null, .null, .int 0, .null, .null, .null, .null, .null, .null, .int 0, .int 0])) :: [])) (by simp only [List.cons_append, List.append_assoc, List.nil_append]) rfl (fun w1 h3 => ?_)
  obtain ⟨q2, rfl, rfl⟩ := h3
  simp only [List.cons_append, List.append_assoc, List.nil_append]
  refine cx_putF hC hin tu_X10 tyX10 tyX10_ok nmX10 0 rfl rfl 0 (by decide) (ix_tab 251 (by decide +kernel) rfl) rfl rfl rfl (ty := (.object "IndigoBoats$State")) (by decide +kernel) rfl rfl (Nat.le_of_ble_eq_true rfl) dX10_init_12 (ws' := ((h0, .inr (9, [.ref (q2 0), .null, .int 0, .null, .null, .null, .null, .null, .null, .int 0, .int 0])) :: (wState tC q2))) rfl ?_
  refine cx_aload_n hC dX10_init_15 rfl 0 rfl ?_
  refine cx_new (ci := 5) (fs := [.null, .null, .null, .null, .null, .int 0]) hC tu_X6 tyX6 tyX6_ok (ix_tab 28 (by decide +kernel) rfl) (ix_tab 29 (by decide +kernel) rfl) (ix_tab 2 (by decide +kernel) rfl) rfl (by decide +kernel) (Nat.le_of_ble_eq_true rfl) (Nat.le_of_ble_eq_true rfl) dX10_init_16 (fun a4 => ?_)
  simp only [List.cons_append, List.append_assoc, List.nil_append]
  refine cx_dup hC dX10_init_19 rfl ?_
  refine cx_init hC hK (n_State l D tC sa) cx_Z.nil (by decide) (by decide) (Nat.le_of_ble_eq_true rfl) (Nat.le_of_ble_eq_true rfl) (ix_tab 32 (by decide +kernel) rfl) (ix_tab 2 (by decide +kernel) rfl) (ix_tab 30 (by decide +kernel) rfl) (ix_tab 31 (by decide +kernel) rfl) rfl ⟨by decide +kernel, by decide +kernel, (by decide +kernel : (parseMethodDescriptor yX6_init.desc).map (fun d => d.parameters.length) = some 0)⟩ (Nat.le_of_ble_eq_true rfl) dX10_init_20 (wr := ((h0, .inr (9, [.ref (q2 0), .null, .int 0, .null, .null, .null, .null, .null, .null, .int 0, .int 0])) :: (wState tC q2))) (by simp only [List.cons_append, List.append_assoc, List.nil_append]) rfl (fun w1 h6 => ?_)
  obtain ⟨q5, rfl, rfl⟩ := h6
  simp only [List.cons_append, List.append_assoc, List.nil_append]
  refine cx_putF hC hin tu_X10 tyX10 tyX10_ok nmX10 0 rfl rfl 1 (by decide) (ix_tab 252 (by decide +kernel) rfl) rfl rfl rfl (ty := (.object "IndigoBoats$State")) (by decide +kernel) rfl rfl (Nat.le_of_ble_eq_true rfl) dX10_init_23 (ws' := ((h0, .inr (9, [.ref (q2 0), .ref (q5 0), .int 0, .null, .null, .null, .null, .null, .null, .int 0, .int 0])) :: (wState tC q2 ++ (wState tC q5)))) rfl ?_
  refine cx_aload_n hC dX10_init_26 rfl 0 rfl ?_
  refine cx_iconst (v := 5) hC dX10_init_27 (by decide) ?_
  refine cx_anew (N := 5) (C := "IndigoBoats$Water") hC 1 (hK.2.2.1 _ (List.mem_of_getElem? (i := 0) rfl)) (ix_tab 163 (by decide +kernel) rfl) rfl (by decide) (by decide) (by decide) (Nat.le_of_ble_eq_true rfl) (Nat.le_of_ble_eq_true rfl) dX10_init_28 (fun a7 => ?_)
  simp only [List.cons_append, List.append_assoc, List.nil_append]
  refine cx_putF hC hin tu_X10 tyX10 tyX10_ok nmX10 0 rfl rfl 3 (by decide) (ix_tab 254 (by decide +kernel) rfl) rfl rfl rfl (ty := (.array (.object "IndigoBoats$Water"))) (by decide +kernel) rfl rfl (Nat.le_of_ble_eq_true rfl) dX10_init_31 (ws' := ((h0, .inr (9, [.ref (q2 0), .ref (q5 0), .int 0, .ref a7, .null, .null, .null, .null, .null, .int 0, .int 0])) :: (wState tC q2 ++ (wState tC q5 ++ ((a7, .inl (tC 1, 5, .inr (.inr (.inr (.inr (fun _ => none)))))) :: []))))) rfl ?_
  refine cx_aload_n hC dX10_init_34 rfl 0 rfl ?_
  refine cx_new (ci := 2) (fs := [.null, .null, .null, .int 0]) hC tu_X3 tyX3 tyX3_ok (ix_tab 165 (by decide +kernel) rfl) (ix_tab 166 (by decide +kernel) rfl) (ix_tab 8 (by decide +kernel) rfl) rfl (by decide +kernel) (Nat.le_of_ble_eq_true rfl) (Nat.le_of_ble_eq_true rfl) dX10_init_35 (fun a8 => ?_)
  simp only [List.cons_append, List.append_assoc, List.nil_append]
  refine cx_dup hC dX10_init_38 rfl ?_
  refine cx_initN (host := "IndigoBoats") hC hK (n_Reader l D tC sa) cx_Z.nil (by decide) (by decide) (Nat.le_of_ble_eq_true rfl) (Nat.le_of_ble_eq_true rfl) (ix_tab 169 (by decide +kernel) rfl) (ix_tab 8 (by decide +kernel) rfl) (List.mem_of_getElem? (i := 2) rfl) (ix_tab 168 (by decide +kernel) rfl) rfl ⟨by decide +kernel, by decide +kernel, (by decide +kernel : (parseMethodDescriptor yX3_init.desc).map (fun d => d.parameters.length) = some 0)⟩ (Nat.le_of_ble_eq_true rfl) dX10_init_39 (wr := ((h0, .inr (9, [.ref (q2 0), .ref (q5 0), .int 0, .ref a7, .null, .null, .null, .null, .null, .int 0, .int 0])) :: (wState tC q2 ++ (wState tC q5 ++ ((a7, .inl (tC 1, 5, .inr (.inr (.inr (.inr (fun _ => none)))))) :: []))))) (by simp only [List.cons_append, List.append_assoc, List.nil_append]) rfl (fun w1 h10 => ?_)
  obtain ⟨q9, rfl, rfl⟩ := h10
  simp only [List.cons_append, List.append_assoc, List.nil_append]
  refine cx_putF hC hin tu_X10 tyX10 tyX10_ok nmX10 0 rfl rfl 4 (by decide) (ix_tab 255 (by decide +kernel) rfl) rfl rfl rfl (ty := (.object "IndigoBoats$Reader")) (by decide +kernel) rfl rfl (Nat.le_of_ble_eq_true rfl) dX10_init_42 (ws' := ((h0, .inr (9, [.ref (q2 0), .ref (q5 0), .int 0, .ref a7, .ref (q9 0), .null, .null, .null, .null, .int 0, .int 0])) :: (wState tC q2 ++ (wState tC q5 ++ ((a7, .inl (tC 1, 5, .inr (.inr (.inr (.inr (fun _ => none)))))) :: (wReader tC q9 (sa 0))))))) rfl ?_
  refine cx_aload_n hC dX10_init_45 rfl 0 rfl ?_
  refine cx_new (ci := 7) (fs := [.null, .int 0, .int 0, .int 0]) hC tu_X8 tyX8 tyX8_ok (ix_tab 191 (by decide +kernel) rfl) (ix_tab 192 (by decide +kernel) rfl) (ix_tab 9 (by decide +kernel) rfl) rfl (by decide +kernel) (Nat.le_of_ble_eq_true rfl) (Nat.le_of_ble_eq_true rfl) dX10_init_46 (fun a11 => ?_)
  simp only [List.cons_append, List.append_assoc, List.nil_append]
  refine cx_dup hC dX10_init_49 rfl ?_
  refine cx_initN (host := "IndigoBoats") hC hK (n_Voices l D tC sa) cx_Z.nil (by decide) (by decide) (Nat.le_of_ble_eq_true rfl) (Nat.le_of_ble_eq_true rfl) (ix_tab 195 (by decide +kernel) rfl) (ix_tab 9 (by decide +kernel) rfl) (List.mem_of_getElem? (i := 4) rfl) (ix_tab 194 (by decide +kernel) rfl) rfl ⟨by decide +kernel, by decide +kernel, (by decide +kernel : (parseMethodDescriptor yX8_init.desc).map (fun d => d.parameters.length) = some 0)⟩ (Nat.le_of_ble_eq_true rfl) dX10_init_50 (wr := ((h0, .inr (9, [.ref (q2 0), .ref (q5 0), .int 0, .ref a7, .ref (q9 0), .null, .null, .null, .null, .int 0, .int 0])) :: (wState tC q2 ++ (wState tC q5 ++ ((a7, .inl (tC 1, 5, .inr (.inr (.inr (.inr (fun _ => none)))))) :: (wReader tC q9 (sa 0))))))) (by simp only [List.cons_append, List.append_assoc, List.nil_append]) rfl (fun w1 h13 => ?_)
  obtain ⟨q12, rfl, rfl⟩ := h13
  simp only [List.cons_append, List.append_assoc, List.nil_append]
  refine cx_putF hC hin tu_X10 tyX10 tyX10_ok nmX10 0 rfl rfl 5 (by decide) (ix_tab 256 (by decide +kernel) rfl) rfl rfl rfl (ty := (.object "IndigoBoats$Voices")) (by decide +kernel) rfl rfl (Nat.le_of_ble_eq_true rfl) dX10_init_53 (ws' := ((h0, .inr (9, [.ref (q2 0), .ref (q5 0), .int 0, .ref a7, .ref (q9 0), .ref (q12 0), .null, .null, .null, .int 0, .int 0])) :: (wState tC q2 ++ (wState tC q5 ++ ((a7, .inl (tC 1, 5, .inr (.inr (.inr (.inr (fun _ => none)))))) :: (wReader tC q9 (sa 0) ++ (wVoices tC q12))))))) rfl ?_
  refine cx_aload_n hC dX10_init_56 rfl 0 rfl ?_
  refine cx_new (ci := 1) (fs := [.null, .null, .null, .int 0]) hC tu_X2 tyX2 tyX2_ok (ix_tab 213 (by decide +kernel) rfl) (ix_tab 214 (by decide +kernel) rfl) (ix_tab 10 (by decide +kernel) rfl) rfl (by decide +kernel) (Nat.le_of_ble_eq_true rfl) (Nat.le_of_ble_eq_true rfl) dX10_init_57 (fun a14 => ?_)
  simp only [List.cons_append, List.append_assoc, List.nil_append]
  refine cx_dup hC dX10_init_60 rfl ?_
  refine cx_initN (host := "IndigoBoats") hC hK (n_Matching l D tC sa) cx_Z.nil (by decide) (by decide) (Nat.le_of_ble_eq_true rfl) (Nat.le_of_ble_eq_true rfl) (ix_tab 217 (by decide +kernel) rfl) (ix_tab 10 (by decide +kernel) rfl) (List.mem_of_getElem? (i := 5) rfl) (ix_tab 216 (by decide +kernel) rfl) rfl ⟨by decide +kernel, by decide +kernel, (by decide +kernel : (parseMethodDescriptor yX2_init.desc).map (fun d => d.parameters.length) = some 0)⟩ (Nat.le_of_ble_eq_true rfl) dX10_init_61 (wr := ((h0, .inr (9, [.ref (q2 0), .ref (q5 0), .int 0, .ref a7, .ref (q9 0), .ref (q12 0), .null, .null, .null, .int 0, .int 0])) :: (wState tC q2 ++ (wState tC q5 ++ ((a7, .inl (tC 1, 5, .inr (.inr (.inr (.inr (fun _ => none)))))) :: (wReader tC q9 (sa 0) ++ (wVoices tC q12))))))) (by simp only [List.cons_append, List.append_assoc, List.nil_append]) rfl (fun w1 h16 => ?_)
  obtain ⟨q15, rfl, rfl⟩ := h16
  simp only [List.cons_append, List.append_assoc, List.nil_append]
  refine cx_putF hC hin tu_X10 tyX10 tyX10_ok nmX10 0 rfl rfl 6 (by decide) (ix_tab 257 (by decide +kernel) rfl) rfl rfl rfl (ty := (.object "IndigoBoats$Matching")) (by decide +kernel) rfl rfl (Nat.le_of_ble_eq_true rfl) dX10_init_64 (ws' := ((h0, .inr (9, [.ref (q2 0), .ref (q5 0), .int 0, .ref a7, .ref (q9 0), .ref (q12 0), .ref (q15 0), .null, .null, .int 0, .int 0])) :: (wState tC q2 ++ (wState tC q5 ++ ((a7, .inl (tC 1, 5, .inr (.inr (.inr (.inr (fun _ => none)))))) :: (wReader tC q9 (sa 0) ++ (wVoices tC q12 ++ (wMatch tC q15)))))))) rfl ?_
  refine cx_aload_n hC dX10_init_67 rfl 0 rfl ?_
  refine cx_iconst (v := 4) hC dX10_init_68 (by decide) ?_
  refine cx_anew (N := 4) (C := "IndigoBoats$Sheet") hC 2 (hK.2.2.1 _ (List.mem_of_getElem? (i := 1) rfl)) (ix_tab 232 (by decide +kernel) rfl) rfl (by decide) (by decide) (by decide) (Nat.le_of_ble_eq_true rfl) (Nat.le_of_ble_eq_true rfl) dX10_init_69 (fun a17 => ?_)
  simp only [List.cons_append, List.append_assoc, List.nil_append]
  refine cx_putF hC hin tu_X10 tyX10 tyX10_ok nmX10 0 rfl rfl 7 (by decide) (ix_tab 258 (by decide +kernel) rfl) rfl rfl rfl (ty := (.array (.object "IndigoBoats$Sheet"))) (by decide +kernel) rfl rfl (Nat.le_of_ble_eq_true rfl) dX10_init_72 (ws' := ((h0, .inr (9, [.ref (q2 0), .ref (q5 0), .int 0, .ref a7, .ref (q9 0), .ref (q12 0), .ref (q15 0), .ref a17, .null, .int 0, .int 0])) :: (wState tC q2 ++ (wState tC q5 ++ ((a7, .inl (tC 1, 5, .inr (.inr (.inr (.inr (fun _ => none)))))) :: (wReader tC q9 (sa 0) ++ (wVoices tC q12 ++ (wMatch tC q15 ++ ((a17, .inl (tC 2, 4, .inr (.inr (.inr (.inr (fun _ => none)))))) :: []))))))))) rfl ?_
  refine cx_aload_n hC dX10_init_75 rfl 0 rfl ?_
  refine cx_bipush (v := 6) hC dX10_init_76 (by decide) ?_
  refine cx_newi (N := 6) hC (ix_tab 83 (by decide +kernel) rfl) (by decide) (by decide) (by decide) (Nat.le_of_ble_eq_true rfl) (Nat.le_of_ble_eq_true rfl) dX10_init_78 (fun a18 => ?_)
  simp only [List.cons_append, List.append_assoc, List.nil_append]
  refine cx_putF hC hin tu_X10 tyX10 tyX10_ok nmX10 0 rfl rfl 8 (by decide) (ix_tab 259 (by decide +kernel) rfl) rfl rfl rfl (ty := (.array .int)) (by decide +kernel) rfl rfl (Nat.le_of_ble_eq_true rfl) dX10_init_80 (ws' := ((h0, .inr (9, [.ref (q2 0), .ref (q5 0), .int 0, .ref a7, .ref (q9 0), .ref (q12 0), .ref (q15 0), .ref a17, .ref a18, .int 0, .int 0])) :: (wState tC q2 ++ (wState tC q5 ++ ((a7, .inl (tC 1, 5, .inr (.inr (.inr (.inr (fun _ => none)))))) :: (wReader tC q9 (sa 0) ++ (wVoices tC q12 ++ (wMatch tC q15 ++ ((a17, .inl (tC 2, 4, .inr (.inr (.inr (.inr (fun _ => none)))))) :: ((a18, .inl (tC 0, 6, .inl (fun _ => 0))) :: [])))))))))) rfl ?_
  refine cx_sub [0, 47, 62, 1, 2, 3, 4, 5, 6, 7, 8, 9, 10, 11, 12, 13, 14, 15, 16, 17, 18, 19, 20, 21, 22, 23, 24, 25, 26, 27, 28, 29, 30, 31, 32, 33, 34, 35, 36, 37, 38, 39, 40, 41, 42, 43, 44, 45, 46, 48, 49, 50, 51, 52, 53, 54, 55, 56, 57, 58, 59, 60, 61, 63] (ws' := ((h0, .inr (9, [.ref (q2 0), .ref (q5 0), .int 0, .ref a7, .ref (q9 0), .ref (q12 0), .ref (q15 0), .ref a17, .ref a18, .int 0, .int 0])) :: ((a7, .inl (tC 1, 5, .inr (.inr (.inr (.inr (fun _ => none)))))) :: ((a17, .inl (tC 2, 4, .inr (.inr (.inr (.inr (fun _ => none)))))) :: (wState tC q2 ++ (wState tC q5 ++ (wReader tC q9 (sa 0) ++ (wVoices tC q12 ++ (wMatch tC q15 ++ ((a18, .inl (tC 0, 6, .inl (fun _ => 0))) :: [])))))))))) rfl (by decide +kernel) ?_
  refine cx_iconst (v := 0) hC dX10_init_83 (by decide) ?_
  refine cx_istore_n (lv' := [(1, .int 0), (0, .ref h0)]) hC dX10_init_84 rfl (by decide) rfl ?_
  refine cx_iload_n hC dX10_init_85 rfl 0 rfl ?_
  refine cx_iconst (v := 4) hC dX10_init_86 (by decide) ?_
  refine cx_gt (t := 109) hC dX10_init_87 (by decide) (fun z => absurd z (by decide)) (fun _ => ?_)
  refine cx_aload_n hC dX10_init_90 rfl 1 rfl ?_
  refine cx_get (ci := 9) hC tu_X10 0 rfl rfl 3 (by decide) (ix_tab 254 (by decide +kernel) rfl) rfl (v := .ref a7) rfl dX10_init_91 ?_
  refine cx_iload_n hC dX10_init_94 rfl 0 rfl ?_
  refine cx_new (ci := 8) (fs := [.null, .null, .null, .null, .null, .null, .null, .int 0, .int 0, .int 0]) hC tu_X9 tyX9 tyX9_ok (ix_tab 163 (by decide +kernel) rfl) (ix_tab 35 (by decide +kernel) rfl) (ix_tab 3 (by decide +kernel) rfl) rfl (by decide +kernel) (Nat.le_of_ble_eq_true rfl) (Nat.le_of_ble_eq_true rfl) dX10_init_95 (fun a19 => ?_)
  simp only [List.cons_append, List.append_assoc, List.nil_append]
  refine cx_dup hC dX10_init_98 rfl ?_
  refine cx_init hC hK (n_Water l D tC sa) cx_Z.nil (by decide) (by decide) (Nat.le_of_ble_eq_true rfl) (Nat.le_of_ble_eq_true rfl) (ix_tab 38 (by decide +kernel) rfl) (ix_tab 3 (by decide +kernel) rfl) (ix_tab 234 (by decide +kernel) rfl) (ix_tab 37 (by decide +kernel) rfl) rfl ⟨by decide +kernel, by decide +kernel, (by decide +kernel : (parseMethodDescriptor yX9_init.desc).map (fun d => d.parameters.length) = some 0)⟩ (Nat.le_of_ble_eq_true rfl) dX10_init_99 (wr := ((h0, .inr (9, [.ref (q2 0), .ref (q5 0), .int 0, .ref a7, .ref (q9 0), .ref (q12 0), .ref (q15 0), .ref a17, .ref a18, .int 0, .int 0])) :: ((a7, .inl (tC 1, 5, .inr (.inr (.inr (.inr (fun _ => none)))))) :: ((a17, .inl (tC 2, 4, .inr (.inr (.inr (.inr (fun _ => none)))))) :: (wState tC q2 ++ (wState tC q5 ++ (wReader tC q9 (sa 0) ++ (wVoices tC q12 ++ (wMatch tC q15 ++ ((a18, .inl (tC 0, 6, .inl (fun _ => 0))) :: [])))))))))) (by simp only [List.cons_append, List.append_assoc, List.nil_append]) rfl (fun w1 h21 => ?_)
  obtain ⟨q20, rfl, rfl⟩ := h21
  simp only [List.cons_append, List.append_assoc, List.nil_append]
  refine cx_astq (f' := fun i => [some (q20 0)].getD i none) hC 1 1 64 8 rfl rfl rfl rfl (by unfold vp_in; decide) (cx_up0 (q20 0) (by decide)) dX10_init_102 (ws' := ((h0, .inr (9, [.ref (q2 0), .ref (q5 0), .int 0, .ref a7, .ref (q9 0), .ref (q12 0), .ref (q15 0), .ref a17, .ref a18, .int 0, .int 0])) :: ((a7, .inl (tC 1, 5, .inr (.inr (.inr (.inr (fun i => [some (q20 0)].getD i none)))))) :: ((a17, .inl (tC 2, 4, .inr (.inr (.inr (.inr (fun _ => none)))))) :: (wState tC q2 ++ (wState tC q5 ++ (wReader tC q9 (sa 0) ++ (wVoices tC q12 ++ (wMatch tC q15 ++ ((a18, .inl (tC 0, 6, .inl (fun _ => 0))) :: (wWater tC q20))))))))))) rfl ?_
  refine cx_iinc (v := 1) (lv' := [(1, .int 1), (0, .ref h0)]) hC dX10_init_103 0 rfl (by decide) (by decide) rfl ?_
  refine cx_goto (t := 85) hC dX10_init_106 (by decide) ?_
  refine cx_iload_n hC dX10_init_85 rfl 0 rfl ?_
  refine cx_iconst (v := 4) hC dX10_init_86 (by decide) ?_
  refine cx_gt (t := 109) hC dX10_init_87 (by decide) (fun z => absurd z (by decide)) (fun _ => ?_)
  refine cx_aload_n hC dX10_init_90 rfl 1 rfl ?_
  refine cx_get (ci := 9) hC tu_X10 0 rfl rfl 3 (by decide) (ix_tab 254 (by decide +kernel) rfl) rfl (v := .ref a7) rfl dX10_init_91 ?_
  refine cx_iload_n hC dX10_init_94 rfl 0 rfl ?_
  refine cx_new (ci := 8) (fs := [.null, .null, .null, .null, .null, .null, .null, .int 0, .int 0, .int 0]) hC tu_X9 tyX9 tyX9_ok (ix_tab 163 (by decide +kernel) rfl) (ix_tab 35 (by decide +kernel) rfl) (ix_tab 3 (by decide +kernel) rfl) rfl (by decide +kernel) (Nat.le_of_ble_eq_true rfl) (Nat.le_of_ble_eq_true rfl) dX10_init_95 (fun a22 => ?_)
  simp only [List.cons_append, List.append_assoc, List.nil_append]
  refine cx_dup hC dX10_init_98 rfl ?_
  refine cx_init hC hK (n_Water l D tC sa) cx_Z.nil (by decide) (by decide) (Nat.le_of_ble_eq_true rfl) (Nat.le_of_ble_eq_true rfl) (ix_tab 38 (by decide +kernel) rfl) (ix_tab 3 (by decide +kernel) rfl) (ix_tab 234 (by decide +kernel) rfl) (ix_tab 37 (by decide +kernel) rfl) rfl ⟨by decide +kernel, by decide +kernel, (by decide +kernel : (parseMethodDescriptor yX9_init.desc).map (fun d => d.parameters.length) = some 0)⟩ (Nat.le_of_ble_eq_true rfl) dX10_init_99 (wr := ((h0, .inr (9, [.ref (q2 0), .ref (q5 0), .int 0, .ref a7, .ref (q9 0), .ref (q12 0), .ref (q15 0), .ref a17, .ref a18, .int 0, .int 0])) :: ((a7, .inl (tC 1, 5, .inr (.inr (.inr (.inr (fun i => [some (q20 0)].getD i none)))))) :: ((a17, .inl (tC 2, 4, .inr (.inr (.inr (.inr (fun _ => none)))))) :: (wState tC q2 ++ (wState tC q5 ++ (wReader tC q9 (sa 0) ++ (wVoices tC q12 ++ (wMatch tC q15 ++ ((a18, .inl (tC 0, 6, .inl (fun _ => 0))) :: (wWater tC q20))))))))))) (by simp only [List.cons_append, List.append_assoc, List.nil_append]) rfl (fun w1 h24 => ?_)
  obtain ⟨q23, rfl, rfl⟩ := h24
  simp only [List.cons_append, List.append_assoc, List.nil_append]
  refine cx_astq (f' := fun i => [some (q20 0), some (q23 0)].getD i none) hC 1 1 72 8 rfl rfl rfl rfl (by unfold vp_in; decide) (cx_upA 1 [some (q20 0)] (q23 0) rfl (by decide)) dX10_init_102 (ws' := ((h0, .inr (9, [.ref (q2 0), .ref (q5 0), .int 0, .ref a7, .ref (q9 0), .ref (q12 0), .ref (q15 0), .ref a17, .ref a18, .int 0, .int 0])) :: ((a7, .inl (tC 1, 5, .inr (.inr (.inr (.inr (fun i => [some (q20 0), some (q23 0)].getD i none)))))) :: ((a17, .inl (tC 2, 4, .inr (.inr (.inr (.inr (fun _ => none)))))) :: (wState tC q2 ++ (wState tC q5 ++ (wReader tC q9 (sa 0) ++ (wVoices tC q12 ++ (wMatch tC q15 ++ ((a18, .inl (tC 0, 6, .inl (fun _ => 0))) :: (wWater tC q20 ++ (wWater tC q23)))))))))))) rfl ?_
  refine cx_iinc (v := 2) (lv' := [(1, .int 2), (0, .ref h0)]) hC dX10_init_103 0 rfl (by decide) (by decide) rfl ?_
  refine cx_goto (t := 85) hC dX10_init_106 (by decide) ?_
  refine cx_iload_n hC dX10_init_85 rfl 0 rfl ?_
  refine cx_iconst (v := 4) hC dX10_init_86 (by decide) ?_
  refine cx_gt (t := 109) hC dX10_init_87 (by decide) (fun z => absurd z (by decide)) (fun _ => ?_)
  refine cx_aload_n hC dX10_init_90 rfl 1 rfl ?_
  refine cx_get (ci := 9) hC tu_X10 0 rfl rfl 3 (by decide) (ix_tab 254 (by decide +kernel) rfl) rfl (v := .ref a7) rfl dX10_init_91 ?_
  refine cx_iload_n hC dX10_init_94 rfl 0 rfl ?_
  refine cx_new (ci := 8) (fs := [.null, .null, .null, .null, .null, .null, .null, .int 0, .int 0, .int 0]) hC tu_X9 tyX9 tyX9_ok (ix_tab 163 (by decide +kernel) rfl) (ix_tab 35 (by decide +kernel) rfl) (ix_tab 3 (by decide +kernel) rfl) rfl (by decide +kernel) (Nat.le_of_ble_eq_true rfl) (Nat.le_of_ble_eq_true rfl) dX10_init_95 (fun a25 => ?_)
  simp only [List.cons_append, List.append_assoc, List.nil_append]
  refine cx_dup hC dX10_init_98 rfl ?_
  refine cx_init hC hK (n_Water l D tC sa) cx_Z.nil (by decide) (by decide) (Nat.le_of_ble_eq_true rfl) (Nat.le_of_ble_eq_true rfl) (ix_tab 38 (by decide +kernel) rfl) (ix_tab 3 (by decide +kernel) rfl) (ix_tab 234 (by decide +kernel) rfl) (ix_tab 37 (by decide +kernel) rfl) rfl ⟨by decide +kernel, by decide +kernel, (by decide +kernel : (parseMethodDescriptor yX9_init.desc).map (fun d => d.parameters.length) = some 0)⟩ (Nat.le_of_ble_eq_true rfl) dX10_init_99 (wr := ((h0, .inr (9, [.ref (q2 0), .ref (q5 0), .int 0, .ref a7, .ref (q9 0), .ref (q12 0), .ref (q15 0), .ref a17, .ref a18, .int 0, .int 0])) :: ((a7, .inl (tC 1, 5, .inr (.inr (.inr (.inr (fun i => [some (q20 0), some (q23 0)].getD i none)))))) :: ((a17, .inl (tC 2, 4, .inr (.inr (.inr (.inr (fun _ => none)))))) :: (wState tC q2 ++ (wState tC q5 ++ (wReader tC q9 (sa 0) ++ (wVoices tC q12 ++ (wMatch tC q15 ++ ((a18, .inl (tC 0, 6, .inl (fun _ => 0))) :: (wWater tC q20 ++ (wWater tC q23)))))))))))) (by simp only [List.cons_append, List.append_assoc, List.nil_append]) rfl (fun w1 h27 => ?_)
  obtain ⟨q26, rfl, rfl⟩ := h27
  simp only [List.cons_append, List.append_assoc, List.nil_append]
  refine cx_astq (f' := fun i => [some (q20 0), some (q23 0), some (q26 0)].getD i none) hC 1 1 80 8 rfl rfl rfl rfl (by unfold vp_in; decide) (cx_upA 2 [some (q20 0), some (q23 0)] (q26 0) rfl (by decide)) dX10_init_102 (ws' := ((h0, .inr (9, [.ref (q2 0), .ref (q5 0), .int 0, .ref a7, .ref (q9 0), .ref (q12 0), .ref (q15 0), .ref a17, .ref a18, .int 0, .int 0])) :: ((a7, .inl (tC 1, 5, .inr (.inr (.inr (.inr (fun i => [some (q20 0), some (q23 0), some (q26 0)].getD i none)))))) :: ((a17, .inl (tC 2, 4, .inr (.inr (.inr (.inr (fun _ => none)))))) :: (wState tC q2 ++ (wState tC q5 ++ (wReader tC q9 (sa 0) ++ (wVoices tC q12 ++ (wMatch tC q15 ++ ((a18, .inl (tC 0, 6, .inl (fun _ => 0))) :: (wWater tC q20 ++ (wWater tC q23 ++ (wWater tC q26))))))))))))) rfl ?_
  refine cx_iinc (v := 3) (lv' := [(1, .int 3), (0, .ref h0)]) hC dX10_init_103 0 rfl (by decide) (by decide) rfl ?_
  refine cx_goto (t := 85) hC dX10_init_106 (by decide) ?_
  refine cx_iload_n hC dX10_init_85 rfl 0 rfl ?_
  refine cx_iconst (v := 4) hC dX10_init_86 (by decide) ?_
  refine cx_gt (t := 109) hC dX10_init_87 (by decide) (fun z => absurd z (by decide)) (fun _ => ?_)
  refine cx_aload_n hC dX10_init_90 rfl 1 rfl ?_
  refine cx_get (ci := 9) hC tu_X10 0 rfl rfl 3 (by decide) (ix_tab 254 (by decide +kernel) rfl) rfl (v := .ref a7) rfl dX10_init_91 ?_
  refine cx_iload_n hC dX10_init_94 rfl 0 rfl ?_
  refine cx_new (ci := 8) (fs := [.null, .null, .null, .null, .null, .null, .null, .int 0, .int 0, .int 0]) hC tu_X9 tyX9 tyX9_ok (ix_tab 163 (by decide +kernel) rfl) (ix_tab 35 (by decide +kernel) rfl) (ix_tab 3 (by decide +kernel) rfl) rfl (by decide +kernel) (Nat.le_of_ble_eq_true rfl) (Nat.le_of_ble_eq_true rfl) dX10_init_95 (fun a28 => ?_)
  simp only [List.cons_append, List.append_assoc, List.nil_append]
  refine cx_dup hC dX10_init_98 rfl ?_
  refine cx_init hC hK (n_Water l D tC sa) cx_Z.nil (by decide) (by decide) (Nat.le_of_ble_eq_true rfl) (Nat.le_of_ble_eq_true rfl) (ix_tab 38 (by decide +kernel) rfl) (ix_tab 3 (by decide +kernel) rfl) (ix_tab 234 (by decide +kernel) rfl) (ix_tab 37 (by decide +kernel) rfl) rfl ⟨by decide +kernel, by decide +kernel, (by decide +kernel : (parseMethodDescriptor yX9_init.desc).map (fun d => d.parameters.length) = some 0)⟩ (Nat.le_of_ble_eq_true rfl) dX10_init_99 (wr := ((h0, .inr (9, [.ref (q2 0), .ref (q5 0), .int 0, .ref a7, .ref (q9 0), .ref (q12 0), .ref (q15 0), .ref a17, .ref a18, .int 0, .int 0])) :: ((a7, .inl (tC 1, 5, .inr (.inr (.inr (.inr (fun i => [some (q20 0), some (q23 0), some (q26 0)].getD i none)))))) :: ((a17, .inl (tC 2, 4, .inr (.inr (.inr (.inr (fun _ => none)))))) :: (wState tC q2 ++ (wState tC q5 ++ (wReader tC q9 (sa 0) ++ (wVoices tC q12 ++ (wMatch tC q15 ++ ((a18, .inl (tC 0, 6, .inl (fun _ => 0))) :: (wWater tC q20 ++ (wWater tC q23 ++ (wWater tC q26))))))))))))) (by simp only [List.cons_append, List.append_assoc, List.nil_append]) rfl (fun w1 h30 => ?_)
  obtain ⟨q29, rfl, rfl⟩ := h30
  simp only [List.cons_append, List.append_assoc, List.nil_append]
  refine cx_astq (f' := fun i => [some (q20 0), some (q23 0), some (q26 0), some (q29 0)].getD i none) hC 1 1 88 8 rfl rfl rfl rfl (by unfold vp_in; decide) (cx_upA 3 [some (q20 0), some (q23 0), some (q26 0)] (q29 0) rfl (by decide)) dX10_init_102 (ws' := ((h0, .inr (9, [.ref (q2 0), .ref (q5 0), .int 0, .ref a7, .ref (q9 0), .ref (q12 0), .ref (q15 0), .ref a17, .ref a18, .int 0, .int 0])) :: ((a7, .inl (tC 1, 5, .inr (.inr (.inr (.inr (fun i => [some (q20 0), some (q23 0), some (q26 0), some (q29 0)].getD i none)))))) :: ((a17, .inl (tC 2, 4, .inr (.inr (.inr (.inr (fun _ => none)))))) :: (wState tC q2 ++ (wState tC q5 ++ (wReader tC q9 (sa 0) ++ (wVoices tC q12 ++ (wMatch tC q15 ++ ((a18, .inl (tC 0, 6, .inl (fun _ => 0))) :: (wWater tC q20 ++ (wWater tC q23 ++ (wWater tC q26 ++ (wWater tC q29)))))))))))))) rfl ?_
  refine cx_iinc (v := 4) (lv' := [(1, .int 4), (0, .ref h0)]) hC dX10_init_103 0 rfl (by decide) (by decide) rfl ?_
  refine cx_goto (t := 85) hC dX10_init_106 (by decide) ?_
  refine cx_iload_n hC dX10_init_85 rfl 0 rfl ?_
  refine cx_iconst (v := 4) hC dX10_init_86 (by decide) ?_
  refine cx_gt (t := 109) hC dX10_init_87 (by decide) (fun z => absurd z (by decide)) (fun _ => ?_)
  refine cx_aload_n hC dX10_init_90 rfl 1 rfl ?_
  refine cx_get (ci := 9) hC tu_X10 0 rfl rfl 3 (by decide) (ix_tab 254 (by decide +kernel) rfl) rfl (v := .ref a7) rfl dX10_init_91 ?_
  refine cx_iload_n hC dX10_init_94 rfl 0 rfl ?_
  refine cx_new (ci := 8) (fs := [.null, .null, .null, .null, .null, .null, .null, .int 0, .int 0, .int 0]) hC tu_X9 tyX9 tyX9_ok (ix_tab 163 (by decide +kernel) rfl) (ix_tab 35 (by decide +kernel) rfl) (ix_tab 3 (by decide +kernel) rfl) rfl (by decide +kernel) (Nat.le_of_ble_eq_true rfl) (Nat.le_of_ble_eq_true rfl) dX10_init_95 (fun a31 => ?_)
  simp only [List.cons_append, List.append_assoc, List.nil_append]
  refine cx_dup hC dX10_init_98 rfl ?_
  refine cx_init hC hK (n_Water l D tC sa) cx_Z.nil (by decide) (by decide) (Nat.le_of_ble_eq_true rfl) (Nat.le_of_ble_eq_true rfl) (ix_tab 38 (by decide +kernel) rfl) (ix_tab 3 (by decide +kernel) rfl) (ix_tab 234 (by decide +kernel) rfl) (ix_tab 37 (by decide +kernel) rfl) rfl ⟨by decide +kernel, by decide +kernel, (by decide +kernel : (parseMethodDescriptor yX9_init.desc).map (fun d => d.parameters.length) = some 0)⟩ (Nat.le_of_ble_eq_true rfl) dX10_init_99 (wr := ((h0, .inr (9, [.ref (q2 0), .ref (q5 0), .int 0, .ref a7, .ref (q9 0), .ref (q12 0), .ref (q15 0), .ref a17, .ref a18, .int 0, .int 0])) :: ((a7, .inl (tC 1, 5, .inr (.inr (.inr (.inr (fun i => [some (q20 0), some (q23 0), some (q26 0), some (q29 0)].getD i none)))))) :: ((a17, .inl (tC 2, 4, .inr (.inr (.inr (.inr (fun _ => none)))))) :: (wState tC q2 ++ (wState tC q5 ++ (wReader tC q9 (sa 0) ++ (wVoices tC q12 ++ (wMatch tC q15 ++ ((a18, .inl (tC 0, 6, .inl (fun _ => 0))) :: (wWater tC q20 ++ (wWater tC q23 ++ (wWater tC q26 ++ (wWater tC q29)))))))))))))) (by simp only [List.cons_append, List.append_assoc, List.nil_append]) rfl (fun w1 h33 => ?_)
  obtain ⟨q32, rfl, rfl⟩ := h33
  simp only [List.cons_append, List.append_assoc, List.nil_append]
  refine cx_astq (f' := fun i => [some (q20 0), some (q23 0), some (q26 0), some (q29 0), some (q32 0)].getD i none) hC 1 1 96 8 rfl rfl rfl rfl (by unfold vp_in; decide) (cx_upA 4 [some (q20 0), some (q23 0), some (q26 0), some (q29 0)] (q32 0) rfl (by decide)) dX10_init_102 (ws' := ((h0, .inr (9, [.ref (q2 0), .ref (q5 0), .int 0, .ref a7, .ref (q9 0), .ref (q12 0), .ref (q15 0), .ref a17, .ref a18, .int 0, .int 0])) :: ((a7, .inl (tC 1, 5, .inr (.inr (.inr (.inr (fun i => [some (q20 0), some (q23 0), some (q26 0), some (q29 0), some (q32 0)].getD i none)))))) :: ((a17, .inl (tC 2, 4, .inr (.inr (.inr (.inr (fun _ => none)))))) :: (wState tC q2 ++ (wState tC q5 ++ (wReader tC q9 (sa 0) ++ (wVoices tC q12 ++ (wMatch tC q15 ++ ((a18, .inl (tC 0, 6, .inl (fun _ => 0))) :: (wWater tC q20 ++ (wWater tC q23 ++ (wWater tC q26 ++ (wWater tC q29 ++ (wWater tC q32))))))))))))))) rfl ?_
  refine cx_iinc (v := 5) (lv' := [(1, .int 5), (0, .ref h0)]) hC dX10_init_103 0 rfl (by decide) (by decide) rfl ?_
  refine cx_goto (t := 85) hC dX10_init_106 (by decide) ?_
  refine cx_iload_n hC dX10_init_85 rfl 0 rfl ?_
  refine cx_iconst (v := 4) hC dX10_init_86 (by decide) ?_
  refine cx_gt (t := 109) hC dX10_init_87 (by decide) (fun _ => ?_) (fun z => absurd (by decide) z)
  refine cx_iconst (v := 0) hC dX10_init_109 (by decide) ?_
  refine cx_istore_n (lv' := [(1, .int 0), (0, .ref h0)]) hC dX10_init_110 rfl (by decide) rfl ?_
  refine cx_iload_n hC dX10_init_111 rfl 0 rfl ?_
  refine cx_iconst (v := 4) hC dX10_init_112 (by decide) ?_
  refine cx_ge (t := 135) hC dX10_init_113 (by decide) (fun z => absurd z (by decide)) (fun _ => ?_)
  refine cx_aload_n hC dX10_init_116 rfl 1 rfl ?_
  refine cx_get (ci := 9) hC tu_X10 0 rfl rfl 7 (by decide) (ix_tab 258 (by decide +kernel) rfl) rfl (v := .ref a17) rfl dX10_init_117 ?_
  refine cx_iload_n hC dX10_init_120 rfl 0 rfl ?_
  refine cx_new (ci := 4) (fs := [.null, .int 0]) hC tu_X5 tyX5 tyX5_ok (ix_tab 232 (by decide +kernel) rfl) (ix_tab 235 (by decide +kernel) rfl) (ix_tab 11 (by decide +kernel) rfl) rfl (by decide +kernel) (Nat.le_of_ble_eq_true rfl) (Nat.le_of_ble_eq_true rfl) dX10_init_121 (fun a34 => ?_)
  simp only [List.cons_append, List.append_assoc, List.nil_append]
  refine cx_dup hC dX10_init_124 rfl ?_
  refine cx_initN (host := "IndigoBoats") hC hK (n_Sheet l D tC sa) cx_Z.nil (by decide) (by decide) (Nat.le_of_ble_eq_true rfl) (Nat.le_of_ble_eq_true rfl) (ix_tab 238 (by decide +kernel) rfl) (ix_tab 11 (by decide +kernel) rfl) (List.mem_of_getElem? (i := 6) rfl) (ix_tab 237 (by decide +kernel) rfl) rfl ⟨by decide +kernel, by decide +kernel, (by decide +kernel : (parseMethodDescriptor yX5_init.desc).map (fun d => d.parameters.length) = some 0)⟩ (Nat.le_of_ble_eq_true rfl) dX10_init_125 (wr := ((h0, .inr (9, [.ref (q2 0), .ref (q5 0), .int 0, .ref a7, .ref (q9 0), .ref (q12 0), .ref (q15 0), .ref a17, .ref a18, .int 0, .int 0])) :: ((a7, .inl (tC 1, 5, .inr (.inr (.inr (.inr (fun i => [some (q20 0), some (q23 0), some (q26 0), some (q29 0), some (q32 0)].getD i none)))))) :: ((a17, .inl (tC 2, 4, .inr (.inr (.inr (.inr (fun _ => none)))))) :: (wState tC q2 ++ (wState tC q5 ++ (wReader tC q9 (sa 0) ++ (wVoices tC q12 ++ (wMatch tC q15 ++ ((a18, .inl (tC 0, 6, .inl (fun _ => 0))) :: (wWater tC q20 ++ (wWater tC q23 ++ (wWater tC q26 ++ (wWater tC q29 ++ (wWater tC q32))))))))))))))) (by simp only [List.cons_append, List.append_assoc, List.nil_append]) rfl (fun w1 h36 => ?_)
  obtain ⟨q35, rfl, rfl⟩ := h36
  simp only [List.cons_append, List.append_assoc, List.nil_append]
  refine cx_astq (f' := fun i => [some (q35 0)].getD i none) hC 2 2 104 4 rfl rfl rfl rfl (by unfold vp_in; decide) (cx_up0 (q35 0) (by decide)) dX10_init_128 (ws' := ((h0, .inr (9, [.ref (q2 0), .ref (q5 0), .int 0, .ref a7, .ref (q9 0), .ref (q12 0), .ref (q15 0), .ref a17, .ref a18, .int 0, .int 0])) :: ((a7, .inl (tC 1, 5, .inr (.inr (.inr (.inr (fun i => [some (q20 0), some (q23 0), some (q26 0), some (q29 0), some (q32 0)].getD i none)))))) :: ((a17, .inl (tC 2, 4, .inr (.inr (.inr (.inr (fun i => [some (q35 0)].getD i none)))))) :: (wState tC q2 ++ (wState tC q5 ++ (wReader tC q9 (sa 0) ++ (wVoices tC q12 ++ (wMatch tC q15 ++ ((a18, .inl (tC 0, 6, .inl (fun _ => 0))) :: (wWater tC q20 ++ (wWater tC q23 ++ (wWater tC q26 ++ (wWater tC q29 ++ (wWater tC q32 ++ (wSheet tC q35)))))))))))))))) rfl ?_
  refine cx_iinc (v := 1) (lv' := [(1, .int 1), (0, .ref h0)]) hC dX10_init_129 0 rfl (by decide) (by decide) rfl ?_
  refine cx_goto (t := 111) hC dX10_init_132 (by decide) ?_
  refine cx_iload_n hC dX10_init_111 rfl 0 rfl ?_
  refine cx_iconst (v := 4) hC dX10_init_112 (by decide) ?_
  refine cx_ge (t := 135) hC dX10_init_113 (by decide) (fun z => absurd z (by decide)) (fun _ => ?_)
  refine cx_aload_n hC dX10_init_116 rfl 1 rfl ?_
  refine cx_get (ci := 9) hC tu_X10 0 rfl rfl 7 (by decide) (ix_tab 258 (by decide +kernel) rfl) rfl (v := .ref a17) rfl dX10_init_117 ?_
  refine cx_iload_n hC dX10_init_120 rfl 0 rfl ?_
  refine cx_new (ci := 4) (fs := [.null, .int 0]) hC tu_X5 tyX5 tyX5_ok (ix_tab 232 (by decide +kernel) rfl) (ix_tab 235 (by decide +kernel) rfl) (ix_tab 11 (by decide +kernel) rfl) rfl (by decide +kernel) (Nat.le_of_ble_eq_true rfl) (Nat.le_of_ble_eq_true rfl) dX10_init_121 (fun a37 => ?_)
  simp only [List.cons_append, List.append_assoc, List.nil_append]
  refine cx_dup hC dX10_init_124 rfl ?_
  refine cx_initN (host := "IndigoBoats") hC hK (n_Sheet l D tC sa) cx_Z.nil (by decide) (by decide) (Nat.le_of_ble_eq_true rfl) (Nat.le_of_ble_eq_true rfl) (ix_tab 238 (by decide +kernel) rfl) (ix_tab 11 (by decide +kernel) rfl) (List.mem_of_getElem? (i := 6) rfl) (ix_tab 237 (by decide +kernel) rfl) rfl ⟨by decide +kernel, by decide +kernel, (by decide +kernel : (parseMethodDescriptor yX5_init.desc).map (fun d => d.parameters.length) = some 0)⟩ (Nat.le_of_ble_eq_true rfl) dX10_init_125 (wr := ((h0, .inr (9, [.ref (q2 0), .ref (q5 0), .int 0, .ref a7, .ref (q9 0), .ref (q12 0), .ref (q15 0), .ref a17, .ref a18, .int 0, .int 0])) :: ((a7, .inl (tC 1, 5, .inr (.inr (.inr (.inr (fun i => [some (q20 0), some (q23 0), some (q26 0), some (q29 0), some (q32 0)].getD i none)))))) :: ((a17, .inl (tC 2, 4, .inr (.inr (.inr (.inr (fun i => [some (q35 0)].getD i none)))))) :: (wState tC q2 ++ (wState tC q5 ++ (wReader tC q9 (sa 0) ++ (wVoices tC q12 ++ (wMatch tC q15 ++ ((a18, .inl (tC 0, 6, .inl (fun _ => 0))) :: (wWater tC q20 ++ (wWater tC q23 ++ (wWater tC q26 ++ (wWater tC q29 ++ (wWater tC q32 ++ (wSheet tC q35)))))))))))))))) (by simp only [List.cons_append, List.append_assoc, List.nil_append]) rfl (fun w1 h39 => ?_)
  obtain ⟨q38, rfl, rfl⟩ := h39
  simp only [List.cons_append, List.append_assoc, List.nil_append]
  refine cx_astq (f' := fun i => [some (q35 0), some (q38 0)].getD i none) hC 2 2 107 4 rfl rfl rfl rfl (by unfold vp_in; decide) (cx_upA 1 [some (q35 0)] (q38 0) rfl (by decide)) dX10_init_128 (ws' := ((h0, .inr (9, [.ref (q2 0), .ref (q5 0), .int 0, .ref a7, .ref (q9 0), .ref (q12 0), .ref (q15 0), .ref a17, .ref a18, .int 0, .int 0])) :: ((a7, .inl (tC 1, 5, .inr (.inr (.inr (.inr (fun i => [some (q20 0), some (q23 0), some (q26 0), some (q29 0), some (q32 0)].getD i none)))))) :: ((a17, .inl (tC 2, 4, .inr (.inr (.inr (.inr (fun i => [some (q35 0), some (q38 0)].getD i none)))))) :: (wState tC q2 ++ (wState tC q5 ++ (wReader tC q9 (sa 0) ++ (wVoices tC q12 ++ (wMatch tC q15 ++ ((a18, .inl (tC 0, 6, .inl (fun _ => 0))) :: (wWater tC q20 ++ (wWater tC q23 ++ (wWater tC q26 ++ (wWater tC q29 ++ (wWater tC q32 ++ (wSheet tC q35 ++ (wSheet tC q38))))))))))))))))) rfl ?_
  refine cx_iinc (v := 2) (lv' := [(1, .int 2), (0, .ref h0)]) hC dX10_init_129 0 rfl (by decide) (by decide) rfl ?_
  refine cx_goto (t := 111) hC dX10_init_132 (by decide) ?_
  refine cx_iload_n hC dX10_init_111 rfl 0 rfl ?_
  refine cx_iconst (v := 4) hC dX10_init_112 (by decide) ?_
  refine cx_ge (t := 135) hC dX10_init_113 (by decide) (fun z => absurd z (by decide)) (fun _ => ?_)
  refine cx_aload_n hC dX10_init_116 rfl 1 rfl ?_
  refine cx_get (ci := 9) hC tu_X10 0 rfl rfl 7 (by decide) (ix_tab 258 (by decide +kernel) rfl) rfl (v := .ref a17) rfl dX10_init_117 ?_
  refine cx_iload_n hC dX10_init_120 rfl 0 rfl ?_
  refine cx_new (ci := 4) (fs := [.null, .int 0]) hC tu_X5 tyX5 tyX5_ok (ix_tab 232 (by decide +kernel) rfl) (ix_tab 235 (by decide +kernel) rfl) (ix_tab 11 (by decide +kernel) rfl) rfl (by decide +kernel) (Nat.le_of_ble_eq_true rfl) (Nat.le_of_ble_eq_true rfl) dX10_init_121 (fun a40 => ?_)
  simp only [List.cons_append, List.append_assoc, List.nil_append]
  refine cx_dup hC dX10_init_124 rfl ?_
  refine cx_initN (host := "IndigoBoats") hC hK (n_Sheet l D tC sa) cx_Z.nil (by decide) (by decide) (Nat.le_of_ble_eq_true rfl) (Nat.le_of_ble_eq_true rfl) (ix_tab 238 (by decide +kernel) rfl) (ix_tab 11 (by decide +kernel) rfl) (List.mem_of_getElem? (i := 6) rfl) (ix_tab 237 (by decide +kernel) rfl) rfl ⟨by decide +kernel, by decide +kernel, (by decide +kernel : (parseMethodDescriptor yX5_init.desc).map (fun d => d.parameters.length) = some 0)⟩ (Nat.le_of_ble_eq_true rfl) dX10_init_125 (wr := ((h0, .inr (9, [.ref (q2 0), .ref (q5 0), .int 0, .ref a7, .ref (q9 0), .ref (q12 0), .ref (q15 0), .ref a17, .ref a18, .int 0, .int 0])) :: ((a7, .inl (tC 1, 5, .inr (.inr (.inr (.inr (fun i => [some (q20 0), some (q23 0), some (q26 0), some (q29 0), some (q32 0)].getD i none)))))) :: ((a17, .inl (tC 2, 4, .inr (.inr (.inr (.inr (fun i => [some (q35 0), some (q38 0)].getD i none)))))) :: (wState tC q2 ++ (wState tC q5 ++ (wReader tC q9 (sa 0) ++ (wVoices tC q12 ++ (wMatch tC q15 ++ ((a18, .inl (tC 0, 6, .inl (fun _ => 0))) :: (wWater tC q20 ++ (wWater tC q23 ++ (wWater tC q26 ++ (wWater tC q29 ++ (wWater tC q32 ++ (wSheet tC q35 ++ (wSheet tC q38))))))))))))))))) (by simp only [List.cons_append, List.append_assoc, List.nil_append]) rfl (fun w1 h42 => ?_)
  obtain ⟨q41, rfl, rfl⟩ := h42
  simp only [List.cons_append, List.append_assoc, List.nil_append]
  refine cx_astq (f' := fun i => [some (q35 0), some (q38 0), some (q41 0)].getD i none) hC 2 2 110 4 rfl rfl rfl rfl (by unfold vp_in; decide) (cx_upA 2 [some (q35 0), some (q38 0)] (q41 0) rfl (by decide)) dX10_init_128 (ws' := ((h0, .inr (9, [.ref (q2 0), .ref (q5 0), .int 0, .ref a7, .ref (q9 0), .ref (q12 0), .ref (q15 0), .ref a17, .ref a18, .int 0, .int 0])) :: ((a7, .inl (tC 1, 5, .inr (.inr (.inr (.inr (fun i => [some (q20 0), some (q23 0), some (q26 0), some (q29 0), some (q32 0)].getD i none)))))) :: ((a17, .inl (tC 2, 4, .inr (.inr (.inr (.inr (fun i => [some (q35 0), some (q38 0), some (q41 0)].getD i none)))))) :: (wState tC q2 ++ (wState tC q5 ++ (wReader tC q9 (sa 0) ++ (wVoices tC q12 ++ (wMatch tC q15 ++ ((a18, .inl (tC 0, 6, .inl (fun _ => 0))) :: (wWater tC q20 ++ (wWater tC q23 ++ (wWater tC q26 ++ (wWater tC q29 ++ (wWater tC q32 ++ (wSheet tC q35 ++ (wSheet tC q38 ++ (wSheet tC q41)))))))))))))))))) rfl ?_
  refine cx_iinc (v := 3) (lv' := [(1, .int 3), (0, .ref h0)]) hC dX10_init_129 0 rfl (by decide) (by decide) rfl ?_
  refine cx_goto (t := 111) hC dX10_init_132 (by decide) ?_
  refine cx_iload_n hC dX10_init_111 rfl 0 rfl ?_
  refine cx_iconst (v := 4) hC dX10_init_112 (by decide) ?_
  refine cx_ge (t := 135) hC dX10_init_113 (by decide) (fun z => absurd z (by decide)) (fun _ => ?_)
  refine cx_aload_n hC dX10_init_116 rfl 1 rfl ?_
  refine cx_get (ci := 9) hC tu_X10 0 rfl rfl 7 (by decide) (ix_tab 258 (by decide +kernel) rfl) rfl (v := .ref a17) rfl dX10_init_117 ?_
  refine cx_iload_n hC dX10_init_120 rfl 0 rfl ?_
  refine cx_new (ci := 4) (fs := [.null, .int 0]) hC tu_X5 tyX5 tyX5_ok (ix_tab 232 (by decide +kernel) rfl) (ix_tab 235 (by decide +kernel) rfl) (ix_tab 11 (by decide +kernel) rfl) rfl (by decide +kernel) (Nat.le_of_ble_eq_true rfl) (Nat.le_of_ble_eq_true rfl) dX10_init_121 (fun a43 => ?_)
  simp only [List.cons_append, List.append_assoc, List.nil_append]
  refine cx_dup hC dX10_init_124 rfl ?_
  refine cx_initN (host := "IndigoBoats") hC hK (n_Sheet l D tC sa) cx_Z.nil (by decide) (by decide) (Nat.le_of_ble_eq_true rfl) (Nat.le_of_ble_eq_true rfl) (ix_tab 238 (by decide +kernel) rfl) (ix_tab 11 (by decide +kernel) rfl) (List.mem_of_getElem? (i := 6) rfl) (ix_tab 237 (by decide +kernel) rfl) rfl ⟨by decide +kernel, by decide +kernel, (by decide +kernel : (parseMethodDescriptor yX5_init.desc).map (fun d => d.parameters.length) = some 0)⟩ (Nat.le_of_ble_eq_true rfl) dX10_init_125 (wr := ((h0, .inr (9, [.ref (q2 0), .ref (q5 0), .int 0, .ref a7, .ref (q9 0), .ref (q12 0), .ref (q15 0), .ref a17, .ref a18, .int 0, .int 0])) :: ((a7, .inl (tC 1, 5, .inr (.inr (.inr (.inr (fun i => [some (q20 0), some (q23 0), some (q26 0), some (q29 0), some (q32 0)].getD i none)))))) :: ((a17, .inl (tC 2, 4, .inr (.inr (.inr (.inr (fun i => [some (q35 0), some (q38 0), some (q41 0)].getD i none)))))) :: (wState tC q2 ++ (wState tC q5 ++ (wReader tC q9 (sa 0) ++ (wVoices tC q12 ++ (wMatch tC q15 ++ ((a18, .inl (tC 0, 6, .inl (fun _ => 0))) :: (wWater tC q20 ++ (wWater tC q23 ++ (wWater tC q26 ++ (wWater tC q29 ++ (wWater tC q32 ++ (wSheet tC q35 ++ (wSheet tC q38 ++ (wSheet tC q41)))))))))))))))))) (by simp only [List.cons_append, List.append_assoc, List.nil_append]) rfl (fun w1 h45 => ?_)
  obtain ⟨q44, rfl, rfl⟩ := h45
  simp only [List.cons_append, List.append_assoc, List.nil_append]
  refine cx_astq (f' := fun i => [some (q35 0), some (q38 0), some (q41 0), some (q44 0)].getD i none) hC 2 2 113 4 rfl rfl rfl rfl (by unfold vp_in; decide) (cx_upA 3 [some (q35 0), some (q38 0), some (q41 0)] (q44 0) rfl (by decide)) dX10_init_128 (ws' := ((h0, .inr (9, [.ref (q2 0), .ref (q5 0), .int 0, .ref a7, .ref (q9 0), .ref (q12 0), .ref (q15 0), .ref a17, .ref a18, .int 0, .int 0])) :: ((a7, .inl (tC 1, 5, .inr (.inr (.inr (.inr (fun i => [some (q20 0), some (q23 0), some (q26 0), some (q29 0), some (q32 0)].getD i none)))))) :: ((a17, .inl (tC 2, 4, .inr (.inr (.inr (.inr (fun i => [some (q35 0), some (q38 0), some (q41 0), some (q44 0)].getD i none)))))) :: (wState tC q2 ++ (wState tC q5 ++ (wReader tC q9 (sa 0) ++ (wVoices tC q12 ++ (wMatch tC q15 ++ ((a18, .inl (tC 0, 6, .inl (fun _ => 0))) :: (wWater tC q20 ++ (wWater tC q23 ++ (wWater tC q26 ++ (wWater tC q29 ++ (wWater tC q32 ++ (wSheet tC q35 ++ (wSheet tC q38 ++ (wSheet tC q41 ++ (wSheet tC q44))))))))))))))))))) rfl ?_
  refine cx_iinc (v := 4) (lv' := [(1, .int 4), (0, .ref h0)]) hC dX10_init_129 0 rfl (by decide) (by decide) rfl ?_
  refine cx_goto (t := 111) hC dX10_init_132 (by decide) ?_
  refine cx_iload_n hC dX10_init_111 rfl 0 rfl ?_
  refine cx_iconst (v := 4) hC dX10_init_112 (by decide) ?_
  refine cx_ge (t := 135) hC dX10_init_113 (by decide) (fun _ => ?_) (fun z => absurd (by decide) z)
  refine cx_sub [0, 3, 4, 5, 6, 7, 8, 9, 10, 11, 12, 13, 14, 15, 16, 17, 18, 19, 20, 21, 22, 23, 24, 25, 26, 27, 28, 29, 30, 31, 32, 33, 34, 35, 36, 37, 38, 39, 40, 41, 42, 43, 44, 45, 46, 47, 48, 1, 64, 65, 66, 67, 68, 69, 70, 71, 72, 73, 74, 75, 76, 77, 78, 79, 80, 81, 82, 83, 84, 85, 86, 87, 88, 89, 90, 91, 92, 93, 94, 95, 96, 97, 98, 99, 100, 101, 102, 103, 49, 50, 51, 52, 53, 56, 57, 58, 59, 60, 2, 104, 105, 106, 107, 108, 109, 110, 111, 112, 113, 114, 115, 63, 54, 55, 61, 62] (ws' := wBoats tC (fun i => [h0, q2 0, q2 1, q2 2, q2 3, q2 4, q2 5, q2 6, q2 7, q2 8, q2 9, q2 10, q2 11, q2 12, q2 13, q2 14, q2 15, q2 16, q2 17, q2 18, q2 19, q2 20, q2 21, q2 22, q5 0, q5 1, q5 2, q5 3, q5 4, q5 5, q5 6, q5 7, q5 8, q5 9, q5 10, q5 11, q5 12, q5 13, q5 14, q5 15, q5 16, q5 17, q5 18, q5 19, q5 20, q5 21, q5 22, a7, q20 0, q20 1, q20 2, q20 3, q20 4, q20 5, q20 6, q20 7, q23 0, q23 1, q23 2, q23 3, q23 4, q23 5, q23 6, q23 7, q26 0, q26 1, q26 2, q26 3, q26 4, q26 5, q26 6, q26 7, q29 0, q29 1, q29 2, q29 3, q29 4, q29 5, q29 6, q29 7, q32 0, q32 1, q32 2, q32 3, q32 4, q32 5, q32 6, q32 7, q9 0, q9 1, q9 2, q9 3, q9 4, q12 0, q12 1, q12 2, q15 0, q15 1, a17, q35 0, q35 1, q35 2, q38 0, q38 1, q38 2, q41 0, q41 1, q41 2, q44 0, q44 1, q44 2, a18, q9 5, q9 6, q15 2, q15 3].getD i 0) (sa 0)) rfl (by decide +kernel) ?_
  exact hend _ 135 _ ⟨_, rfl, rfl⟩ dX10_init_135

