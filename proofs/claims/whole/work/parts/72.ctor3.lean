/-! ===== constructors: the smaller ones (written by gen/walk2.py) ===== -/
def dpF (i : Nat) : Nat → Int32 := fun j => if j < i then nI (j % 10) else 0
def wtF (i : Nat) : Nat → Int32 := fun j => if j < i then 10 else 0
theorem dpF_0 : dpF 0 = fun _ => 0 := funext (fun j => by simp [dpF])
theorem wtF_0 : wtF 0 = fun _ => 0 := funext (fun j => by simp [wtF])
theorem cx_lt16 : ∀ i, i < 16 → ¬ (16 : Int32) ≤ nI i := by decide
theorem cx_lt6 : ∀ i, i < 6 → ¬ (6 : Int32) ≤ nI i := by decide
theorem cx_rem : ∀ i, i < 16 → nI i - nI i / 10 * 10 = nI (i % 10) := by decide
theorem dpF_s {i : Nat} (h : i < 16) : upd (dpF i) (nI i).toNatClampNeg (nI i - nI i / 10 * 10) = dpF (i + 1) := by
  rw [cx_rem i h, nI_clamp (by omega)]
  funext j
  by_cases c : j = i
  · subst c
    simp [upd, dpF]
  · by_cases c2 : j < i
    · simp [upd, dpF, c, c2, show j < i + 1 by omega]
    · simp [upd, dpF, c, c2, show ¬ j < i + 1 by omega]
theorem wtF_s {i : Nat} (h : i < 6) : upd (wtF i) (nI i).toNatClampNeg 10 = wtF (i + 1) := by
  rw [nI_clamp (by omega)]
  funext j
  by_cases c : j = i
  · subst c
    simp [upd, wtF]
  · by_cases c2 : j < i
    · simp [upd, wtF, c, c2, show j < i + 1 by omega]
    · simp [upd, wtF, c, c2, show ¬ j < i + 1 by omega]
def wText (tC : Nat → ClassId) (q : Nat → Nat) : va_W := [(q 0, .inr (6, [.ref (q 1), .ref (q 3)])),
  (q 1, .inr (3, [.ref (q 2), .int 0])),
  (q 2, .inl (tC 0, 50, .inl (fun _ => 0))),
  (q 3, .inl (tC 0, 50, .inl (fun _ => 0)))]
theorem n_Text (l : Launch) (D : va_G) (tC : Nat → ClassId) (sa : Nat → Nat) : cx_Ct l yX7_init cX7_init 1 3 3 102 6 [.null, .null] [] [] [] D tC sa (fun h0 w => ∃ q : Nat → Nat, q 0 = h0 ∧ w = wText tC q) := by
  refine cx_ct (own := RX7) rfl (by decide) rfl (fun h0 => Nat.le_of_ble_eq_true rfl) (fun p e R s m args below meth c Qw A h0 hC hK hZ hin hend => ?_)
  refine cx_aload_n hC dX7_init_0 rfl 0 rfl ?_
  refine cx_obj hC (ix_tab 95 (by decide +kernel) rfl) (ix_tab 26 (by decide +kernel) rfl) (ix_tab 27 (by decide +kernel) rfl) dX7_init_1 (by decide) (Nat.le_of_ble_eq_true rfl) ?_
  refine cx_aload_n hC dX7_init_4 rfl 0 rfl ?_
  refine cx_new (ci := 3) (fs := [.null, .int 0]) hC tu_X4 tyX4 tyX4_ok (ix_tab 96 (by decide +kernel) rfl) (ix_tab 97 (by decide +kernel) rfl) (ix_tab 6 (by decide +kernel) rfl) rfl (by decide +kernel) (Nat.le_of_ble_eq_true rfl) (Nat.le_of_ble_eq_true rfl) dX7_init_5 (fun a1 => ?_)
  simp only [List.cons_append, List.append_assoc, List.nil_append]
  refine cx_dup hC dX7_init_8 rfl ?_
  refine cx_bipush (v := (nI 50)) hC dX7_init_9 (by decide) ?_
  refine cx_init hC hK (n_Row l D tC sa 50 (by decide)) cx_Z.nil (by decide) (by decide) (Nat.le_of_ble_eq_true rfl) (Nat.le_of_ble_eq_true rfl) (ix_tab 100 (by decide +kernel) rfl) (ix_tab 6 (by decide +kernel) rfl) (ix_tab 98 (by decide +kernel) rfl) (ix_tab 99 (by decide +kernel) rfl) rfl ⟨by decide +kernel, by decide +kernel, (by decide +kernel : (parseMethodDescriptor yX4_init.desc).map (fun d => d.parameters.length) = some 1)⟩ (Nat.le_of_ble_eq_true rfl) dX7_init_11 (wr := ((h0, .inr (6, [.null, .null])) :: [])) (by simp only [List.cons_append, List.append_assoc, List.nil_append]) rfl (fun w1 h3 => ?_)
  obtain ⟨q2, rfl, rfl⟩ := h3
  simp only [List.cons_append, List.append_assoc, List.nil_append]
  refine cx_putF hC hin tu_X7 tyX7 tyX7_ok nmX7 0 rfl rfl 0 (by decide) (ix_tab 119 (by decide +kernel) rfl) rfl rfl rfl (ty := (.object "IndigoBoats$Row")) (by decide +kernel) rfl rfl (Nat.le_of_ble_eq_true rfl) dX7_init_14 (ws' := ((h0, .inr (6, [.ref (q2 0), .null])) :: (wRow tC 50 q2))) rfl ?_
  refine cx_aload_n hC dX7_init_17 rfl 0 rfl ?_
  refine cx_bipush (v := 50) hC dX7_init_18 (by decide) ?_
  refine cx_newi (N := 50) hC (ix_tab 83 (by decide +kernel) rfl) (by decide) (by decide) (by decide) (Nat.le_of_ble_eq_true rfl) (Nat.le_of_ble_eq_true rfl) dX7_init_20 (fun a4 => ?_)
  simp only [List.cons_append, List.append_assoc, List.nil_append]
  refine cx_putF hC hin tu_X7 tyX7 tyX7_ok nmX7 0 rfl rfl 1 (by decide) (ix_tab 121 (by decide +kernel) rfl) rfl rfl rfl (ty := (.array .int)) (by decide +kernel) rfl rfl (Nat.le_of_ble_eq_true rfl) dX7_init_22 (ws' := ((h0, .inr (6, [.ref (q2 0), .ref a4])) :: (wRow tC 50 q2 ++ ((a4, .inl (tC 0, 50, .inl (fun _ => 0))) :: [])))) rfl ?_
  exact hend _ 25 _ ⟨(fun i => [h0, q2 0, q2 1, a4].getD i 0), rfl, rfl⟩ dX7_init_25

def wLaws (tC : Nat → ClassId) (q : Nat → Nat) : va_W := [(q 0, .inr (0, [.ref (q 1), .ref (q 5)])),
  (q 1, .inr (6, [.ref (q 2), .ref (q 4)])),
  (q 2, .inr (3, [.ref (q 3), .int 0])),
  (q 3, .inl (tC 0, 50, .inl (fun _ => 0))),
  (q 4, .inl (tC 0, 50, .inl (fun _ => 0))),
  (q 5, .inr (6, [.ref (q 6), .ref (q 8)])),
  (q 6, .inr (3, [.ref (q 7), .int 0])),
  (q 7, .inl (tC 0, 50, .inl (fun _ => 0))),
  (q 8, .inl (tC 0, 50, .inl (fun _ => 0)))]
theorem n_Laws (l : Launch) (D : va_G) (tC : Nat → ClassId) (sa : Nat → Nat) : cx_Ct l yX1_init cX1_init 1 4 8 208 0 [.null, .null] [] [] [] D tC sa (fun h0 w => ∃ q : Nat → Nat, q 0 = h0 ∧ w = wLaws tC q) := by
  refine cx_ct (own := RX1) rfl (by decide) rfl (fun h0 => Nat.le_of_ble_eq_true rfl) (fun p e R s m args below meth c Qw A h0 hC hK hZ hin hend => ?_)
  refine cx_aload_n hC dX1_init_0 rfl 0 rfl ?_
  refine cx_obj hC (ix_tab 89 (by decide +kernel) rfl) (ix_tab 26 (by decide +kernel) rfl) (ix_tab 27 (by decide +kernel) rfl) dX1_init_1 (by decide) (Nat.le_of_ble_eq_true rfl) ?_
  refine cx_aload_n hC dX1_init_4 rfl 0 rfl ?_
  refine cx_new (ci := 6) (fs := [.null, .null]) hC tu_X7 tyX7 tyX7_ok (ix_tab 90 (by decide +kernel) rfl) (ix_tab 91 (by decide +kernel) rfl) (ix_tab 5 (by decide +kernel) rfl) rfl (by decide +kernel) (Nat.le_of_ble_eq_true rfl) (Nat.le_of_ble_eq_true rfl) dX1_init_5 (fun a1 => ?_)
  simp only [List.cons_append, List.append_assoc, List.nil_append]
  refine cx_dup hC dX1_init_8 rfl ?_
  refine cx_initN (host := "IndigoBoats") hC hK (n_Text l D tC sa) cx_Z.nil (by decide) (by decide) (Nat.le_of_ble_eq_true rfl) (Nat.le_of_ble_eq_true rfl) (ix_tab 94 (by decide +kernel) rfl) (ix_tab 5 (by decide +kernel) rfl) (List.mem_of_getElem? (i := 1) rfl) (ix_tab 93 (by decide +kernel) rfl) rfl ⟨by decide +kernel, by decide +kernel, (by decide +kernel : (parseMethodDescriptor yX7_init.desc).map (fun d => d.parameters.length) = some 0)⟩ (Nat.le_of_ble_eq_true rfl) dX1_init_9 (wr := ((h0, .inr (0, [.null, .null])) :: [])) (by simp only [List.cons_append, List.append_assoc, List.nil_append]) rfl (fun w1 h3 => ?_)
  obtain ⟨q2, rfl, rfl⟩ := h3
  simp only [List.cons_append, List.append_assoc, List.nil_append]
  refine cx_putF hC hin tu_X1 tyX1 tyX1_ok nmX1 0 rfl rfl 0 (by decide) (ix_tab 127 (by decide +kernel) rfl) rfl rfl rfl (ty := (.object "IndigoBoats$Text")) (by decide +kernel) rfl rfl (Nat.le_of_ble_eq_true rfl) dX1_init_12 (ws' := ((h0, .inr (0, [.ref (q2 0), .null])) :: (wText tC q2))) rfl ?_
  refine cx_aload_n hC dX1_init_15 rfl 0 rfl ?_
  refine cx_new (ci := 6) (fs := [.null, .null]) hC tu_X7 tyX7 tyX7_ok (ix_tab 90 (by decide +kernel) rfl) (ix_tab 91 (by decide +kernel) rfl) (ix_tab 5 (by decide +kernel) rfl) rfl (by decide +kernel) (Nat.le_of_ble_eq_true rfl) (Nat.le_of_ble_eq_true rfl) dX1_init_16 (fun a4 => ?_)
  simp only [List.cons_append, List.append_assoc, List.nil_append]
  refine cx_dup hC dX1_init_19 rfl ?_
  refine cx_initN (host := "IndigoBoats") hC hK (n_Text l D tC sa) cx_Z.nil (by decide) (by decide) (Nat.le_of_ble_eq_true rfl) (Nat.le_of_ble_eq_true rfl) (ix_tab 94 (by decide +kernel) rfl) (ix_tab 5 (by decide +kernel) rfl) (List.mem_of_getElem? (i := 1) rfl) (ix_tab 93 (by decide +kernel) rfl) rfl ⟨by decide +kernel, by decide +kernel, (by decide +kernel : (parseMethodDescriptor yX7_init.desc).map (fun d => d.parameters.length) = some 0)⟩ (Nat.le_of_ble_eq_true rfl) dX1_init_20 (wr := ((h0, .inr (0, [.ref (q2 0), .null])) :: (wText tC q2))) (by simp only [List.cons_append, List.append_assoc, List.nil_append]) rfl (fun w1 h6 => ?_)
  obtain ⟨q5, rfl, rfl⟩ := h6
  simp only [List.cons_append, List.append_assoc, List.nil_append]
  refine cx_putF hC hin tu_X1 tyX1 tyX1_ok nmX1 0 rfl rfl 1 (by decide) (ix_tab 128 (by decide +kernel) rfl) rfl rfl rfl (ty := (.object "IndigoBoats$Text")) (by decide +kernel) rfl rfl (Nat.le_of_ble_eq_true rfl) dX1_init_23 (ws' := ((h0, .inr (0, [.ref (q2 0), .ref (q5 0)])) :: (wText tC q2 ++ (wText tC q5)))) rfl ?_
  exact hend _ 26 _ ⟨(fun i => [h0, q2 0, q2 1, q2 2, q2 3, q5 0, q5 1, q5 2, q5 3].getD i 0), rfl, rfl⟩ dX1_init_26

def wSheet (tC : Nat → ClassId) (q : Nat → Nat) : va_W := [(q 0, .inr (4, [.ref (q 1), .int 0])),
  (q 1, .inr (3, [.ref (q 2), .int 0])),
  (q 2, .inl (tC 0, 40, .inl (fun _ => 0)))]
theorem n_Sheet (l : Launch) (D : va_G) (tC : Nat → ClassId) (sa : Nat → Nat) : cx_Ct l yX5_init cX5_init 1 3 2 42 4 [.null, .int 0] [] [] [] D tC sa (fun h0 w => ∃ q : Nat → Nat, q 0 = h0 ∧ w = wSheet tC q) := by
  refine cx_ct (own := RX5) rfl (by decide) rfl (fun h0 => Nat.le_of_ble_eq_true rfl) (fun p e R s m args below meth c Qw A h0 hC hK hZ hin hend => ?_)
  refine cx_aload_n hC dX5_init_0 rfl 0 rfl ?_
  refine cx_obj hC (ix_tab 239 (by decide +kernel) rfl) (ix_tab 26 (by decide +kernel) rfl) (ix_tab 27 (by decide +kernel) rfl) dX5_init_1 (by decide) (Nat.le_of_ble_eq_true rfl) ?_
  refine cx_aload_n hC dX5_init_4 rfl 0 rfl ?_
  refine cx_new (ci := 3) (fs := [.null, .int 0]) hC tu_X4 tyX4 tyX4_ok (ix_tab 240 (by decide +kernel) rfl) (ix_tab 97 (by decide +kernel) rfl) (ix_tab 6 (by decide +kernel) rfl) rfl (by decide +kernel) (Nat.le_of_ble_eq_true rfl) (Nat.le_of_ble_eq_true rfl) dX5_init_5 (fun a1 => ?_)
  simp only [List.cons_append, List.append_assoc, List.nil_append]
  refine cx_dup hC dX5_init_8 rfl ?_
  refine cx_bipush (v := (nI 40)) hC dX5_init_9 (by decide) ?_
  refine cx_init hC hK (n_Row l D tC sa 40 (by decide)) cx_Z.nil (by decide) (by decide) (Nat.le_of_ble_eq_true rfl) (Nat.le_of_ble_eq_true rfl) (ix_tab 100 (by decide +kernel) rfl) (ix_tab 6 (by decide +kernel) rfl) (ix_tab 241 (by decide +kernel) rfl) (ix_tab 99 (by decide +kernel) rfl) rfl ⟨by decide +kernel, by decide +kernel, (by decide +kernel : (parseMethodDescriptor yX4_init.desc).map (fun d => d.parameters.length) = some 1)⟩ (Nat.le_of_ble_eq_true rfl) dX5_init_11 (wr := ((h0, .inr (4, [.null, .int 0])) :: [])) (by simp only [List.cons_append, List.append_assoc, List.nil_append]) rfl (fun w1 h3 => ?_)
  obtain ⟨q2, rfl, rfl⟩ := h3
  simp only [List.cons_append, List.append_assoc, List.nil_append]
  refine cx_putF hC hin tu_X5 tyX5 tyX5_ok nmX5 0 rfl rfl 0 (by decide) (ix_tab 242 (by decide +kernel) rfl) rfl rfl rfl (ty := (.object "IndigoBoats$Row")) (by decide +kernel) rfl rfl (Nat.le_of_ble_eq_true rfl) dX5_init_14 (ws' := ((h0, .inr (4, [.ref (q2 0), .int 0])) :: (wRow tC 40 q2))) rfl ?_
  exact hend _ 17 _ ⟨(fun i => [h0, q2 0, q2 1].getD i 0), rfl, rfl⟩ dX5_init_17

def wVoices (tC : Nat → ClassId) (q : Nat → Nat) : va_W := [(q 0, .inr (7, [.ref (q 1), .int 0, .int 0, .int 0])),
  (q 1, .inr (3, [.ref (q 2), .int 0])),
  (q 2, .inl (tC 0, 40, .inl (fun _ => 0)))]
theorem n_Voices (l : Launch) (D : va_G) (tC : Nat → ClassId) (sa : Nat → Nat) : cx_Ct l yX8_init cX8_init 1 3 2 42 7 [.null, .int 0, .int 0, .int 0] [] [] [] D tC sa (fun h0 w => ∃ q : Nat → Nat, q 0 = h0 ∧ w = wVoices tC q) := by
  refine cx_ct (own := RX8) rfl (by decide) rfl (fun h0 => Nat.le_of_ble_eq_true rfl) (fun p e R s m args below meth c Qw A h0 hC hK hZ hin hend => ?_)
  refine cx_aload_n hC dX8_init_0 rfl 0 rfl ?_
  refine cx_obj hC (ix_tab 196 (by decide +kernel) rfl) (ix_tab 26 (by decide +kernel) rfl) (ix_tab 27 (by decide +kernel) rfl) dX8_init_1 (by decide) (Nat.le_of_ble_eq_true rfl) ?_
  refine cx_aload_n hC dX8_init_4 rfl 0 rfl ?_
  refine cx_new (ci := 3) (fs := [.null, .int 0]) hC tu_X4 tyX4 tyX4_ok (ix_tab 197 (by decide +kernel) rfl) (ix_tab 97 (by decide +kernel) rfl) (ix_tab 6 (by decide +kernel) rfl) rfl (by decide +kernel) (Nat.le_of_ble_eq_true rfl) (Nat.le_of_ble_eq_true rfl) dX8_init_5 (fun a1 => ?_)
  simp only [List.cons_append, List.append_assoc, List.nil_append]
  refine cx_dup hC dX8_init_8 rfl ?_
  refine cx_bipush (v := (nI 40)) hC dX8_init_9 (by decide) ?_
  refine cx_init hC hK (n_Row l D tC sa 40 (by decide)) cx_Z.nil (by decide) (by decide) (Nat.le_of_ble_eq_true rfl) (Nat.le_of_ble_eq_true rfl) (ix_tab 100 (by decide +kernel) rfl) (ix_tab 6 (by decide +kernel) rfl) (ix_tab 198 (by decide +kernel) rfl) (ix_tab 99 (by decide +kernel) rfl) rfl ⟨by decide +kernel, by decide +kernel, (by decide +kernel : (parseMethodDescriptor yX4_init.desc).map (fun d => d.parameters.length) = some 1)⟩ (Nat.le_of_ble_eq_true rfl) dX8_init_11 (wr := ((h0, .inr (7, [.null, .int 0, .int 0, .int 0])) :: [])) (by simp only [List.cons_append, List.append_assoc, List.nil_append]) rfl (fun w1 h3 => ?_)
  obtain ⟨q2, rfl, rfl⟩ := h3
  simp only [List.cons_append, List.append_assoc, List.nil_append]
  refine cx_putF hC hin tu_X8 tyX8 tyX8_ok nmX8 0 rfl rfl 0 (by decide) (ix_tab 199 (by decide +kernel) rfl) rfl rfl rfl (ty := (.object "IndigoBoats$Row")) (by decide +kernel) rfl rfl (Nat.le_of_ble_eq_true rfl) dX8_init_14 (ws' := ((h0, .inr (7, [.ref (q2 0), .int 0, .int 0, .int 0])) :: (wRow tC 40 q2))) rfl ?_
  exact hend _ 17 _ ⟨(fun i => [h0, q2 0, q2 1].getD i 0), rfl, rfl⟩ dX8_init_17

def wReader (tC : Nat → ClassId) (q : Nat → Nat) (s0 : Nat) : va_W := [(q 0, .inr (2, [.ref (q 1), .ref (q 5), .ref s0, .int 0])),
  (q 1, .inr (6, [.ref (q 2), .ref (q 4)])),
  (q 2, .inr (3, [.ref (q 3), .int 0])),
  (q 3, .inl (tC 0, 50, .inl (fun _ => 0))),
  (q 4, .inl (tC 0, 50, .inl (fun _ => 0))),
  (q 5, .inr (3, [.ref (q 6), .int 0])),
  (q 6, .inl (tC 0, 50, .inl (fun _ => 0)))]
theorem n_Reader (l : Launch) (D : va_G) (tC : Nat → ClassId) (sa : Nat → Nat) : cx_Ct l yX3_init cX3_init 1 4 6 156 2 [.null, .null, .null, .int 0] [] [] [] D tC sa (fun h0 w => ∃ q : Nat → Nat, q 0 = h0 ∧ w = wReader tC q (sa 0)) := by
  refine cx_ct (own := RX3) rfl (by decide) rfl (fun h0 => Nat.le_of_ble_eq_true rfl) (fun p e R s m args below meth c Qw A h0 hC hK hZ hin hend => ?_)
  refine cx_aload_n hC dX3_init_0 rfl 0 rfl ?_
  refine cx_obj hC (ix_tab 170 (by decide +kernel) rfl) (ix_tab 26 (by decide +kernel) rfl) (ix_tab 27 (by decide +kernel) rfl) dX3_init_1 (by decide) (Nat.le_of_ble_eq_true rfl) ?_
  refine cx_aload_n hC dX3_init_4 rfl 0 rfl ?_
  refine cx_new (ci := 6) (fs := [.null, .null]) hC tu_X7 tyX7 tyX7_ok (ix_tab 171 (by decide +kernel) rfl) (ix_tab 91 (by decide +kernel) rfl) (ix_tab 5 (by decide +kernel) rfl) rfl (by decide +kernel) (Nat.le_of_ble_eq_true rfl) (Nat.le_of_ble_eq_true rfl) dX3_init_5 (fun a1 => ?_)
  simp only [List.cons_append, List.append_assoc, List.nil_append]
  refine cx_dup hC dX3_init_8 rfl ?_
  refine cx_initN (host := "IndigoBoats") hC hK (n_Text l D tC sa) cx_Z.nil (by decide) (by decide) (Nat.le_of_ble_eq_true rfl) (Nat.le_of_ble_eq_true rfl) (ix_tab 94 (by decide +kernel) rfl) (ix_tab 5 (by decide +kernel) rfl) (List.mem_of_getElem? (i := 3) rfl) (ix_tab 93 (by decide +kernel) rfl) rfl ⟨by decide +kernel, by decide +kernel, (by decide +kernel : (parseMethodDescriptor yX7_init.desc).map (fun d => d.parameters.length) = some 0)⟩ (Nat.le_of_ble_eq_true rfl) dX3_init_9 (wr := ((h0, .inr (2, [.null, .null, .null, .int 0])) :: [])) (by simp only [List.cons_append, List.append_assoc, List.nil_append]) rfl (fun w1 h3 => ?_)
  obtain ⟨q2, rfl, rfl⟩ := h3
  simp only [List.cons_append, List.append_assoc, List.nil_append]
  refine cx_putF hC hin tu_X3 tyX3 tyX3_ok nmX3 0 rfl rfl 0 (by decide) (ix_tab 176 (by decide +kernel) rfl) rfl rfl rfl (ty := (.object "IndigoBoats$Text")) (by decide +kernel) rfl rfl (Nat.le_of_ble_eq_true rfl) dX3_init_12 (ws' := ((h0, .inr (2, [.ref (q2 0), .null, .null, .int 0])) :: (wText tC q2))) rfl ?_
  refine cx_aload_n hC dX3_init_15 rfl 0 rfl ?_
  refine cx_new (ci := 3) (fs := [.null, .int 0]) hC tu_X4 tyX4 tyX4_ok (ix_tab 173 (by decide +kernel) rfl) (ix_tab 97 (by decide +kernel) rfl) (ix_tab 6 (by decide +kernel) rfl) rfl (by decide +kernel) (Nat.le_of_ble_eq_true rfl) (Nat.le_of_ble_eq_true rfl) dX3_init_16 (fun a4 => ?_)
  simp only [List.cons_append, List.append_assoc, List.nil_append]
  refine cx_dup hC dX3_init_19 rfl ?_
  refine cx_bipush (v := (nI 50)) hC dX3_init_20 (by decide) ?_
  refine cx_init hC hK (n_Row l D tC sa 50 (by decide)) cx_Z.nil (by decide) (by decide) (Nat.le_of_ble_eq_true rfl) (Nat.le_of_ble_eq_true rfl) (ix_tab 100 (by decide +kernel) rfl) (ix_tab 6 (by decide +kernel) rfl) (ix_tab 174 (by decide +kernel) rfl) (ix_tab 99 (by decide +kernel) rfl) rfl ⟨by decide +kernel, by decide +kernel, (by decide +kernel : (parseMethodDescriptor yX4_init.desc).map (fun d => d.parameters.length) = some 1)⟩ (Nat.le_of_ble_eq_true rfl) dX3_init_22 (wr := ((h0, .inr (2, [.ref (q2 0), .null, .null, .int 0])) :: (wText tC q2))) (by simp only [List.cons_append, List.append_assoc, List.nil_append]) rfl (fun w1 h6 => ?_)
  obtain ⟨q5, rfl, rfl⟩ := h6
  simp only [List.cons_append, List.append_assoc, List.nil_append]
  refine cx_putF hC hin tu_X3 tyX3 tyX3_ok nmX3 0 rfl rfl 1 (by decide) (ix_tab 178 (by decide +kernel) rfl) rfl rfl rfl (ty := (.object "IndigoBoats$Row")) (by decide +kernel) rfl rfl (Nat.le_of_ble_eq_true rfl) dX3_init_25 (ws' := ((h0, .inr (2, [.ref (q2 0), .ref (q5 0), .null, .int 0])) :: (wText tC q2 ++ (wRow tC 50 q5)))) rfl ?_
  refine cx_aload_n hC dX3_init_28 rfl 0 rfl ?_
  refine cx_ldcS hC hK.2.2.2.1 dX3_init_29 ?_
  refine cx_put hC tu_X3 tyX3 tyX3_ok nmX3 0 rfl rfl 2 (by decide) (ix_tab 179 (by decide +kernel) rfl) rfl rfl (ty := (.object "java/lang/String")) (by decide +kernel) rfl rfl (Nat.le_of_ble_eq_true rfl) dX3_init_31 (ws' := ((h0, .inr (2, [.ref (q2 0), .ref (q5 0), .ref (sa 0), .int 0])) :: (wText tC q2 ++ (wRow tC 50 q5)))) rfl ?_
  exact hend _ 34 _ ⟨(fun i => [h0, q2 0, q2 1, q2 2, q2 3, q5 0, q5 1].getD i 0), rfl, rfl⟩ dX3_init_34

def wMatch (tC : Nat → ClassId) (q : Nat → Nat) : va_W := [(q 0, .inr (1, [.ref (q 1), .ref (q 2), .ref (q 3), .int 0])),
  (q 1, .inl (tC 0, 1792, .inl (fun _ => 0))),
  (q 2, .inl (tC 0, 6, .inl (fun _ => 0))),
  (q 3, .inl (tC 0, 8, .inl (fun _ => 0)))]
theorem n_Matching (l : Launch) (D : va_G) (tC : Nat → ClassId) (sa : Nat → Nat) : cx_Ct l yX2_init cX2_init 1 2 3 1806 1 [.null, .null, .null, .int 0] [] [] [] D tC sa (fun h0 w => ∃ q : Nat → Nat, q 0 = h0 ∧ w = wMatch tC q) := by
  refine cx_ct (own := RX2) rfl (by decide) rfl (fun h0 => Nat.le_of_ble_eq_true rfl) (fun p e R s m args below meth c Qw A h0 hC hK hZ hin hend => ?_)
  refine cx_aload_n hC dX2_init_0 rfl 0 rfl ?_
  refine cx_obj hC (ix_tab 218 (by decide +kernel) rfl) (ix_tab 26 (by decide +kernel) rfl) (ix_tab 27 (by decide +kernel) rfl) dX2_init_1 (by decide) (Nat.le_of_ble_eq_true rfl) ?_
  refine cx_aload_n hC dX2_init_4 rfl 0 rfl ?_
  refine cx_sipush (v := 1792) hC dX2_init_5 (by decide) ?_
  refine cx_newi (N := 1792) hC (ix_tab 83 (by decide +kernel) rfl) (by decide) (by decide) (by decide) (Nat.le_of_ble_eq_true rfl) (Nat.le_of_ble_eq_true rfl) dX2_init_8 (fun a1 => ?_)
  simp only [List.cons_append, List.append_assoc, List.nil_append]
  refine cx_putF hC hin tu_X2 tyX2 tyX2_ok nmX2 0 rfl rfl 0 (by decide) (ix_tab 219 (by decide +kernel) rfl) rfl rfl rfl (ty := (.array .int)) (by decide +kernel) rfl rfl (Nat.le_of_ble_eq_true rfl) dX2_init_10 (ws' := ((h0, .inr (1, [.ref a1, .null, .null, .int 0])) :: ((a1, .inl (tC 0, 1792, .inl (fun _ => 0))) :: []))) rfl ?_
  refine cx_aload_n hC dX2_init_13 rfl 0 rfl ?_
  refine cx_bipush (v := 6) hC dX2_init_14 (by decide) ?_
  refine cx_newi (N := 6) hC (ix_tab 83 (by decide +kernel) rfl) (by decide) (by decide) (by decide) (Nat.le_of_ble_eq_true rfl) (Nat.le_of_ble_eq_true rfl) dX2_init_16 (fun a2 => ?_)
  simp only [List.cons_append, List.append_assoc, List.nil_append]
  refine cx_putF hC hin tu_X2 tyX2 tyX2_ok nmX2 0 rfl rfl 1 (by decide) (ix_tab 220 (by decide +kernel) rfl) rfl rfl rfl (ty := (.array .int)) (by decide +kernel) rfl rfl (Nat.le_of_ble_eq_true rfl) dX2_init_18 (ws' := ((h0, .inr (1, [.ref a1, .ref a2, .null, .int 0])) :: ((a1, .inl (tC 0, 1792, .inl (fun _ => 0))) :: ((a2, .inl (tC 0, 6, .inl (fun _ => 0))) :: [])))) rfl ?_
  refine cx_aload_n hC dX2_init_21 rfl 0 rfl ?_
  refine cx_bipush (v := 8) hC dX2_init_22 (by decide) ?_
  refine cx_newi (N := 8) hC (ix_tab 83 (by decide +kernel) rfl) (by decide) (by decide) (by decide) (Nat.le_of_ble_eq_true rfl) (Nat.le_of_ble_eq_true rfl) dX2_init_24 (fun a3 => ?_)
  simp only [List.cons_append, List.append_assoc, List.nil_append]
  refine cx_putF hC hin tu_X2 tyX2 tyX2_ok nmX2 0 rfl rfl 2 (by decide) (ix_tab 221 (by decide +kernel) rfl) rfl rfl rfl (ty := (.array .int)) (by decide +kernel) rfl rfl (Nat.le_of_ble_eq_true rfl) dX2_init_26 (ws' := ((h0, .inr (1, [.ref a1, .ref a2, .ref a3, .int 0])) :: ((a1, .inl (tC 0, 1792, .inl (fun _ => 0))) :: ((a2, .inl (tC 0, 6, .inl (fun _ => 0))) :: ((a3, .inl (tC 0, 8, .inl (fun _ => 0))) :: []))))) rfl ?_
  exact hend _ 29 _ ⟨(fun i => [h0, a1, a2, a3].getD i 0), rfl, rfl⟩ dX2_init_29

def wWater (tC : Nat → ClassId) (q : Nat → Nat) : va_W := [(q 0, .inr (8, [.ref (q 1), .ref (q 2), .ref (q 3), .ref (q 4), .ref (q 5), .ref (q 6), .ref (q 7), .int 0, .int 0, .int 14])),
  (q 1, .inl (tC 0, 16, .inl (dpF 16))),
  (q 2, .inl (tC 0, 16, .inl (fun _ => 0))),
  (q 3, .inl (tC 0, 6, .inl (fun _ => 0))),
  (q 4, .inl (tC 0, 8, .inl (fun _ => 0))),
  (q 5, .inl (tC 0, 8, .inl (fun _ => 0))),
  (q 6, .inl (tC 0, 8, .inl (fun _ => 0))),
  (q 7, .inl (tC 0, 8, .inl (fun _ => 0)))]
theorem n_Water (l : Launch) (D : va_G) (tC : Nat → ClassId) (sa : Nat → Nat) : cx_Ct l yX9_init cX9_init 2 2 7 70 8 [.null, .null, .null, .null, .null, .null, .null, .int 0, .int 0, .int 0] [] [] [] D tC sa (fun h0 w => ∃ q : Nat → Nat, q 0 = h0 ∧ w = wWater tC q) := by
  refine cx_ct (own := RX9) rfl (by decide) rfl (fun h0 => Nat.le_of_ble_eq_true rfl) (fun p e R s m args below meth c Qw A h0 hC hK hZ hin hend => ?_)
  refine cx_aload_n hC dX9_init_0 rfl 0 rfl ?_
  refine cx_obj hC (ix_tab 39 (by decide +kernel) rfl) (ix_tab 26 (by decide +kernel) rfl) (ix_tab 27 (by decide +kernel) rfl) dX9_init_1 (by decide) (Nat.le_of_ble_eq_true rfl) ?_
  refine cx_aload_n hC dX9_init_4 rfl 0 rfl ?_
  refine cx_bipush (v := 16) hC dX9_init_5 (by decide) ?_
  refine cx_newi (N := 16) hC (ix_tab 83 (by decide +kernel) rfl) (by decide) (by decide) (by decide) (Nat.le_of_ble_eq_true rfl) (Nat.le_of_ble_eq_true rfl) dX9_init_7 (fun a1 => ?_)
  simp only [List.cons_append, List.append_assoc, List.nil_append]
  refine cx_putF hC hin tu_X9 tyX9 tyX9_ok nmX9 0 rfl rfl 0 (by decide) (ix_tab 40 (by decide +kernel) rfl) rfl rfl rfl (ty := (.array .int)) (by decide +kernel) rfl rfl (Nat.le_of_ble_eq_true rfl) dX9_init_9 (ws' := ((h0, .inr (8, [.ref a1, .null, .null, .null, .null, .null, .null, .int 0, .int 0, .int 0])) :: ((a1, .inl (tC 0, 16, .inl (fun _ => 0))) :: []))) rfl ?_
  refine cx_aload_n hC dX9_init_12 rfl 0 rfl ?_
  refine cx_bipush (v := 16) hC dX9_init_13 (by decide) ?_
  refine cx_newi (N := 16) hC (ix_tab 83 (by decide +kernel) rfl) (by decide) (by decide) (by decide) (Nat.le_of_ble_eq_true rfl) (Nat.le_of_ble_eq_true rfl) dX9_init_15 (fun a2 => ?_)
  simp only [List.cons_append, List.append_assoc, List.nil_append]
  refine cx_putF hC hin tu_X9 tyX9 tyX9_ok nmX9 0 rfl rfl 1 (by decide) (ix_tab 42 (by decide +kernel) rfl) rfl rfl rfl (ty := (.array .int)) (by decide +kernel) rfl rfl (Nat.le_of_ble_eq_true rfl) dX9_init_17 (ws' := ((h0, .inr (8, [.ref a1, .ref a2, .null, .null, .null, .null, .null, .int 0, .int 0, .int 0])) :: ((a1, .inl (tC 0, 16, .inl (fun _ => 0))) :: ((a2, .inl (tC 0, 16, .inl (fun _ => 0))) :: [])))) rfl ?_
  refine cx_aload_n hC dX9_init_20 rfl 0 rfl ?_
  refine cx_bipush (v := 6) hC dX9_init_21 (by decide) ?_
  refine cx_newi (N := 6) hC (ix_tab 83 (by decide +kernel) rfl) (by decide) (by decide) (by decide) (Nat.le_of_ble_eq_true rfl) (Nat.le_of_ble_eq_true rfl) dX9_init_23 (fun a3 => ?_)
  simp only [List.cons_append, List.append_assoc, List.nil_append]
  refine cx_putF hC hin tu_X9 tyX9 tyX9_ok nmX9 0 rfl rfl 2 (by decide) (ix_tab 44 (by decide +kernel) rfl) rfl rfl rfl (ty := (.array .int)) (by decide +kernel) rfl rfl (Nat.le_of_ble_eq_true rfl) dX9_init_25 (ws' := ((h0, .inr (8, [.ref a1, .ref a2, .ref a3, .null, .null, .null, .null, .int 0, .int 0, .int 0])) :: ((a1, .inl (tC 0, 16, .inl (fun _ => 0))) :: ((a2, .inl (tC 0, 16, .inl (fun _ => 0))) :: ((a3, .inl (tC 0, 6, .inl (fun _ => 0))) :: []))))) rfl ?_
  refine cx_aload_n hC dX9_init_28 rfl 0 rfl ?_
  refine cx_bipush (v := 8) hC dX9_init_29 (by decide) ?_
  refine cx_newi (N := 8) hC (ix_tab 83 (by decide +kernel) rfl) (by decide) (by decide) (by decide) (Nat.le_of_ble_eq_true rfl) (Nat.le_of_ble_eq_true rfl) dX9_init_31 (fun a4 => ?_)
  simp only [List.cons_append, List.append_assoc, List.nil_append]
  refine cx_putF hC hin tu_X9 tyX9 tyX9_ok nmX9 0 rfl rfl 3 (by decide) (ix_tab 46 (by decide +kernel) rfl) rfl rfl rfl (ty := (.array .int)) (by decide +kernel) rfl rfl (Nat.le_of_ble_eq_true rfl) dX9_init_33 (ws' := ((h0, .inr (8, [.ref a1, .ref a2, .ref a3, .ref a4, .null, .null, .null, .int 0, .int 0, .int 0])) :: ((a1, .inl (tC 0, 16, .inl (fun _ => 0))) :: ((a2, .inl (tC 0, 16, .inl (fun _ => 0))) :: ((a3, .inl (tC 0, 6, .inl (fun _ => 0))) :: ((a4, .inl (tC 0, 8, .inl (fun _ => 0))) :: [])))))) rfl ?_
  refine cx_aload_n hC dX9_init_36 rfl 0 rfl ?_
  refine cx_bipush (v := 8) hC dX9_init_37 (by decide) ?_
  refine cx_newi (N := 8) hC (ix_tab 83 (by decide +kernel) rfl) (by decide) (by decide) (by decide) (Nat.le_of_ble_eq_true rfl) (Nat.le_of_ble_eq_true rfl) dX9_init_39 (fun a5 => ?_)
  simp only [List.cons_append, List.append_assoc, List.nil_append]
  refine cx_putF hC hin tu_X9 tyX9 tyX9_ok nmX9 0 rfl rfl 4 (by decide) (ix_tab 48 (by decide +kernel) rfl) rfl rfl rfl (ty := (.array .int)) (by decide +kernel) rfl rfl (Nat.le_of_ble_eq_true rfl) dX9_init_41 (ws' := ((h0, .inr (8, [.ref a1, .ref a2, .ref a3, .ref a4, .ref a5, .null, .null, .int 0, .int 0, .int 0])) :: ((a1, .inl (tC 0, 16, .inl (fun _ => 0))) :: ((a2, .inl (tC 0, 16, .inl (fun _ => 0))) :: ((a3, .inl (tC 0, 6, .inl (fun _ => 0))) :: ((a4, .inl (tC 0, 8, .inl (fun _ => 0))) :: ((a5, .inl (tC 0, 8, .inl (fun _ => 0))) :: []))))))) rfl ?_
  refine cx_aload_n hC dX9_init_44 rfl 0 rfl ?_
  refine cx_bipush (v := 8) hC dX9_init_45 (by decide) ?_
  refine cx_newi (N := 8) hC (ix_tab 83 (by decide +kernel) rfl) (by decide) (by decide) (by decide) (Nat.le_of_ble_eq_true rfl) (Nat.le_of_ble_eq_true rfl) dX9_init_47 (fun a6 => ?_)
  simp only [List.cons_append, List.append_assoc, List.nil_append]
  refine cx_putF hC hin tu_X9 tyX9 tyX9_ok nmX9 0 rfl rfl 5 (by decide) (ix_tab 50 (by decide +kernel) rfl) rfl rfl rfl (ty := (.array .int)) (by decide +kernel) rfl rfl (Nat.le_of_ble_eq_true rfl) dX9_init_49 (ws' := ((h0, .inr (8, [.ref a1, .ref a2, .ref a3, .ref a4, .ref a5, .ref a6, .null, .int 0, .int 0, .int 0])) :: ((a1, .inl (tC 0, 16, .inl (fun _ => 0))) :: ((a2, .inl (tC 0, 16, .inl (fun _ => 0))) :: ((a3, .inl (tC 0, 6, .inl (fun _ => 0))) :: ((a4, .inl (tC 0, 8, .inl (fun _ => 0))) :: ((a5, .inl (tC 0, 8, .inl (fun _ => 0))) :: ((a6, .inl (tC 0, 8, .inl (fun _ => 0))) :: [])))))))) rfl ?_
  refine cx_aload_n hC dX9_init_52 rfl 0 rfl ?_
  refine cx_bipush (v := 8) hC dX9_init_53 (by decide) ?_
  refine cx_newi (N := 8) hC (ix_tab 83 (by decide +kernel) rfl) (by decide) (by decide) (by decide) (Nat.le_of_ble_eq_true rfl) (Nat.le_of_ble_eq_true rfl) dX9_init_55 (fun a7 => ?_)
  simp only [List.cons_append, List.append_assoc, List.nil_append]
  refine cx_putF hC hin tu_X9 tyX9 tyX9_ok nmX9 0 rfl rfl 6 (by decide) (ix_tab 52 (by decide +kernel) rfl) rfl rfl rfl (ty := (.array .int)) (by decide +kernel) rfl rfl (Nat.le_of_ble_eq_true rfl) dX9_init_57 (ws' := ((h0, .inr (8, [.ref a1, .ref a2, .ref a3, .ref a4, .ref a5, .ref a6, .ref a7, .int 0, .int 0, .int 0])) :: ((a1, .inl (tC 0, 16, .inl (fun _ => 0))) :: ((a2, .inl (tC 0, 16, .inl (fun _ => 0))) :: ((a3, .inl (tC 0, 6, .inl (fun _ => 0))) :: ((a4, .inl (tC 0, 8, .inl (fun _ => 0))) :: ((a5, .inl (tC 0, 8, .inl (fun _ => 0))) :: ((a6, .inl (tC 0, 8, .inl (fun _ => 0))) :: ((a7, .inl (tC 0, 8, .inl (fun _ => 0))) :: []))))))))) rfl ?_
  refine cx_aload_n hC dX9_init_60 rfl 0 rfl ?_
  refine cx_bipush (v := 14) hC dX9_init_61 (by decide) ?_
  refine cx_put hC tu_X9 tyX9 tyX9_ok nmX9 0 rfl rfl 9 (by decide) (ix_tab 60 (by decide +kernel) rfl) rfl rfl (ty := .int) (by decide +kernel) rfl rfl (Nat.le_of_ble_eq_true rfl) dX9_init_63 (ws' := ((h0, .inr (8, [.ref a1, .ref a2, .ref a3, .ref a4, .ref a5, .ref a6, .ref a7, .int 0, .int 0, .int 14])) :: ((a1, .inl (tC 0, 16, .inl (fun _ => 0))) :: ((a2, .inl (tC 0, 16, .inl (fun _ => 0))) :: ((a3, .inl (tC 0, 6, .inl (fun _ => 0))) :: ((a4, .inl (tC 0, 8, .inl (fun _ => 0))) :: ((a5, .inl (tC 0, 8, .inl (fun _ => 0))) :: ((a6, .inl (tC 0, 8, .inl (fun _ => 0))) :: ((a7, .inl (tC 0, 8, .inl (fun _ => 0))) :: []))))))))) rfl ?_
  refine cx_iconst (v := 0) hC dX9_init_66 (by decide) ?_
  refine cx_istore_n (lv' := [(1, .int 0), (0, .ref h0)]) hC dX9_init_67 rfl (by decide) rfl ?_
  have hloop : ∀ k i, i + k = 16 → cx_J p l e R s m args below meth c Qw D A 2 (68, [(1, .int (nI i)), (0, .ref h0)], [], ((h0, .inr (8, [.ref a1, .ref a2, .ref a3, .ref a4, .ref a5, .ref a6, .ref a7, .int 0, .int 0, .int 14])) :: ((a1, .inl (tC 0, 16, .inl (dpF i))) :: ((a2, .inl (tC 0, 16, .inl (fun _ => 0))) :: ((a3, .inl (tC 0, 6, .inl (fun _ => 0))) :: ((a4, .inl (tC 0, 8, .inl (fun _ => 0))) :: ((a5, .inl (tC 0, 8, .inl (fun _ => 0))) :: ((a6, .inl (tC 0, 8, .inl (fun _ => 0))) :: ((a7, .inl (tC 0, 8, .inl (fun _ => 0))) :: [])))))))), 7, 70) := by
    intro k
    induction k with
    | zero =>
      intro i hi
      obtain rfl : i = 16 := by omega
      refine cx_iload_n hC dX9_init_68 rfl 0 rfl ?_
      refine cx_bipush (v := 16) hC dX9_init_69 (by decide) ?_
      refine cx_ge (t := 90) hC dX9_init_71 (by decide) (fun _ => ?_) (fun z => absurd (by decide) z)
      exact hend _ 90 _ ⟨(fun i => [h0, a1, a2, a3, a4, a5, a6, a7].getD i 0), rfl, rfl⟩ dX9_init_90
    | succ k ih =>
      intro i hi
      have hi2 : i < 16 := by omega
      have hlt := cx_lt16 i hi2
      refine cx_iload_n hC dX9_init_68 rfl 0 rfl ?_
      refine cx_bipush (v := 16) hC dX9_init_69 (by decide) ?_
      refine cx_ge (t := 90) hC dX9_init_71 (by decide) (fun z => absurd z hlt) (fun _ => ?_)
      refine cx_aload_n hC dX9_init_74 rfl 1 rfl ?_
      refine cx_get (ci := 8) hC tu_X9 0 rfl rfl 0 (by decide) (ix_tab 40 (by decide +kernel) rfl) rfl (v := .ref a1) rfl dX9_init_75 ?_
      refine cx_iload_n hC dX9_init_78 rfl 0 rfl ?_
      refine cx_iload_n hC dX9_init_79 rfl 0 rfl ?_
      refine cx_bipush (v := 10) hC dX9_init_80 (by decide) ?_
      refine cx_irem hC dX9_init_82 (by decide) ?_
      refine cx_iast (f' := dpF (i + 1)) hC 1 rfl (vp_in_nI (by omega) (by omega)) (dpF_s hi2) dX9_init_83 (ws' := ((h0, .inr (8, [.ref a1, .ref a2, .ref a3, .ref a4, .ref a5, .ref a6, .ref a7, .int 0, .int 0, .int 14])) :: ((a1, .inl (tC 0, 16, .inl (dpF (i + 1)))) :: ((a2, .inl (tC 0, 16, .inl (fun _ => 0))) :: ((a3, .inl (tC 0, 6, .inl (fun _ => 0))) :: ((a4, .inl (tC 0, 8, .inl (fun _ => 0))) :: ((a5, .inl (tC 0, 8, .inl (fun _ => 0))) :: ((a6, .inl (tC 0, 8, .inl (fun _ => 0))) :: ((a7, .inl (tC 0, 8, .inl (fun _ => 0))) :: []))))))))) rfl ?_
      refine cx_iinc (v := (nI (i + 1))) (lv' := [(1, .int (nI (i + 1))), (0, .ref h0)]) hC dX9_init_84 0 rfl (nI_1 i) (by decide) rfl ?_
      refine cx_goto (t := 68) hC dX9_init_87 (by decide) ?_
      exact ih (i + 1) (by omega)
  have h0l := hloop 16 0 rfl
  rw [dpF_0] at h0l
  exact h0l

def wState (tC : Nat → ClassId) (q : Nat → Nat) : va_W := [(q 0, .inr (5, [.ref (q 1), .ref (q 9), .ref (q 18), .ref (q 20), .ref (q 22), .int 1])),
  (q 1, .inr (8, [.ref (q 2), .ref (q 3), .ref (q 4), .ref (q 5), .ref (q 6), .ref (q 7), .ref (q 8), .int 0, .int 0, .int 14])),
  (q 2, .inl (tC 0, 16, .inl (dpF 16))),
  (q 3, .inl (tC 0, 16, .inl (fun _ => 0))),
  (q 4, .inl (tC 0, 6, .inl (fun _ => 0))),
  (q 5, .inl (tC 0, 8, .inl (fun _ => 0))),
  (q 6, .inl (tC 0, 8, .inl (fun _ => 0))),
  (q 7, .inl (tC 0, 8, .inl (fun _ => 0))),
  (q 8, .inl (tC 0, 8, .inl (fun _ => 0))),
  (q 9, .inr (0, [.ref (q 10), .ref (q 14)])),
  (q 10, .inr (6, [.ref (q 11), .ref (q 13)])),
  (q 11, .inr (3, [.ref (q 12), .int 0])),
  (q 12, .inl (tC 0, 50, .inl (fun _ => 0))),
  (q 13, .inl (tC 0, 50, .inl (fun _ => 0))),
  (q 14, .inr (6, [.ref (q 15), .ref (q 17)])),
  (q 15, .inr (3, [.ref (q 16), .int 0])),
  (q 16, .inl (tC 0, 50, .inl (fun _ => 0))),
  (q 17, .inl (tC 0, 50, .inl (fun _ => 0))),
  (q 18, .inr (3, [.ref (q 19), .int 0])),
  (q 19, .inl (tC 0, 50, .inl (fun _ => 0))),
  (q 20, .inr (3, [.ref (q 21), .int 0])),
  (q 21, .inl (tC 0, 20, .inl (fun _ => 0))),
  (q 22, .inl (tC 0, 6, .inl (wtF 6)))]
theorem n_State (l : Launch) (D : va_G) (tC : Nat → ClassId) (sa : Nat → Nat) : cx_Ct l yX6_init cX6_init 2 5 22 370 5 [.null, .null, .null, .null, .null, .int 0] [] [] [] D tC sa (fun h0 w => ∃ q : Nat → Nat, q 0 = h0 ∧ w = wState tC q) := by
  refine cx_ct (own := RX6) rfl (by decide) rfl (fun h0 => Nat.le_of_ble_eq_true rfl) (fun p e R s m args below meth c Qw A h0 hC hK hZ hin hend => ?_)
  refine cx_aload_n hC dX6_init_0 rfl 0 rfl ?_
  refine cx_obj hC (ix_tab 33 (by decide +kernel) rfl) (ix_tab 26 (by decide +kernel) rfl) (ix_tab 27 (by decide +kernel) rfl) dX6_init_1 (by decide) (Nat.le_of_ble_eq_true rfl) ?_
  refine cx_aload_n hC dX6_init_4 rfl 0 rfl ?_
  refine cx_new (ci := 8) (fs := [.null, .null, .null, .null, .null, .null, .null, .int 0, .int 0, .int 0]) hC tu_X9 tyX9 tyX9_ok (ix_tab 34 (by decide +kernel) rfl) (ix_tab 35 (by decide +kernel) rfl) (ix_tab 3 (by decide +kernel) rfl) rfl (by decide +kernel) (Nat.le_of_ble_eq_true rfl) (Nat.le_of_ble_eq_true rfl) dX6_init_5 (fun a1 => ?_)
  simp only [List.cons_append, List.append_assoc, List.nil_append]
  refine cx_dup hC dX6_init_8 rfl ?_
  refine cx_init hC hK (n_Water l D tC sa) cx_Z.nil (by decide) (by decide) (Nat.le_of_ble_eq_true rfl) (Nat.le_of_ble_eq_true rfl) (ix_tab 38 (by decide +kernel) rfl) (ix_tab 3 (by decide +kernel) rfl) (ix_tab 36 (by decide +kernel) rfl) (ix_tab 37 (by decide +kernel) rfl) rfl ⟨by decide +kernel, by decide +kernel, (by decide +kernel : (parseMethodDescriptor yX9_init.desc).map (fun d => d.parameters.length) = some 0)⟩ (Nat.le_of_ble_eq_true rfl) dX6_init_9 (wr := ((h0, .inr (5, [.null, .null, .null, .null, .null, .int 0])) :: [])) (by simp only [List.cons_append, List.append_assoc, List.nil_append]) rfl (fun w1 h3 => ?_)
  obtain ⟨q2, rfl, rfl⟩ := h3
  simp only [List.cons_append, List.append_assoc, List.nil_append]
  refine cx_putF hC hin tu_X6 tyX6 tyX6_ok nmX6 0 rfl rfl 0 (by decide) (ix_tab 136 (by decide +kernel) rfl) rfl rfl rfl (ty := (.object "IndigoBoats$Water")) (by decide +kernel) rfl rfl (Nat.le_of_ble_eq_true rfl) dX6_init_12 (ws' := ((h0, .inr (5, [.ref (q2 0), .null, .null, .null, .null, .int 0])) :: (wWater tC q2))) rfl ?_
  refine cx_aload_n hC dX6_init_15 rfl 0 rfl ?_
  refine cx_new (ci := 0) (fs := [.null, .null]) hC tu_X1 tyX1 tyX1_ok (ix_tab 84 (by decide +kernel) rfl) (ix_tab 85 (by decide +kernel) rfl) (ix_tab 4 (by decide +kernel) rfl) rfl (by decide +kernel) (Nat.le_of_ble_eq_true rfl) (Nat.le_of_ble_eq_true rfl) dX6_init_16 (fun a4 => ?_)
  simp only [List.cons_append, List.append_assoc, List.nil_append]
  refine cx_dup hC dX6_init_19 rfl ?_
  refine cx_initN (host := "IndigoBoats") hC hK (n_Laws l D tC sa) cx_Z.nil (by decide) (by decide) (Nat.le_of_ble_eq_true rfl) (Nat.le_of_ble_eq_true rfl) (ix_tab 88 (by decide +kernel) rfl) (ix_tab 4 (by decide +kernel) rfl) (List.mem_of_getElem? (i := 0) rfl) (ix_tab 87 (by decide +kernel) rfl) rfl ⟨by decide +kernel, by decide +kernel, (by decide +kernel : (parseMethodDescriptor yX1_init.desc).map (fun d => d.parameters.length) = some 0)⟩ (Nat.le_of_ble_eq_true rfl) dX6_init_20 (wr := ((h0, .inr (5, [.ref (q2 0), .null, .null, .null, .null, .int 0])) :: (wWater tC q2))) (by simp only [List.cons_append, List.append_assoc, List.nil_append]) rfl (fun w1 h6 => ?_)
  obtain ⟨q5, rfl, rfl⟩ := h6
  simp only [List.cons_append, List.append_assoc, List.nil_append]
  refine cx_putF hC hin tu_X6 tyX6 tyX6_ok nmX6 0 rfl rfl 1 (by decide) (ix_tab 139 (by decide +kernel) rfl) rfl rfl rfl (ty := (.object "IndigoBoats$Laws")) (by decide +kernel) rfl rfl (Nat.le_of_ble_eq_true rfl) dX6_init_23 (ws' := ((h0, .inr (5, [.ref (q2 0), .ref (q5 0), .null, .null, .null, .int 0])) :: (wWater tC q2 ++ (wLaws tC q5)))) rfl ?_
  refine cx_aload_n hC dX6_init_26 rfl 0 rfl ?_
  refine cx_new (ci := 3) (fs := [.null, .int 0]) hC tu_X4 tyX4 tyX4_ok (ix_tab 134 (by decide +kernel) rfl) (ix_tab 97 (by decide +kernel) rfl) (ix_tab 6 (by decide +kernel) rfl) rfl (by decide +kernel) (Nat.le_of_ble_eq_true rfl) (Nat.le_of_ble_eq_true rfl) dX6_init_27 (fun a7 => ?_)
  simp only [List.cons_append, List.append_assoc, List.nil_append]
  refine cx_dup hC dX6_init_30 rfl ?_
  refine cx_bipush (v := (nI 50)) hC dX6_init_31 (by decide) ?_
  refine cx_init hC hK (n_Row l D tC sa 50 (by decide)) cx_Z.nil (by decide) (by decide) (Nat.le_of_ble_eq_true rfl) (Nat.le_of_ble_eq_true rfl) (ix_tab 100 (by decide +kernel) rfl) (ix_tab 6 (by decide +kernel) rfl) (ix_tab 135 (by decide +kernel) rfl) (ix_tab 99 (by decide +kernel) rfl) rfl ⟨by decide +kernel, by decide +kernel, (by decide +kernel : (parseMethodDescriptor yX4_init.desc).map (fun d => d.parameters.length) = some 1)⟩ (Nat.le_of_ble_eq_true rfl) dX6_init_33 (wr := ((h0, .inr (5, [.ref (q2 0), .ref (q5 0), .null, .null, .null, .int 0])) :: (wWater tC q2 ++ (wLaws tC q5)))) (by simp only [List.cons_append, List.append_assoc, List.nil_append]) rfl (fun w1 h9 => ?_)
  obtain ⟨q8, rfl, rfl⟩ := h9
  simp only [List.cons_append, List.append_assoc, List.nil_append]
  refine cx_putF hC hin tu_X6 tyX6 tyX6_ok nmX6 0 rfl rfl 2 (by decide) (ix_tab 141 (by decide +kernel) rfl) rfl rfl rfl (ty := (.object "IndigoBoats$Row")) (by decide +kernel) rfl rfl (Nat.le_of_ble_eq_true rfl) dX6_init_36 (ws' := ((h0, .inr (5, [.ref (q2 0), .ref (q5 0), .ref (q8 0), .null, .null, .int 0])) :: (wWater tC q2 ++ (wLaws tC q5 ++ (wRow tC 50 q8))))) rfl ?_
  refine cx_aload_n hC dX6_init_39 rfl 0 rfl ?_
  refine cx_new (ci := 3) (fs := [.null, .int 0]) hC tu_X4 tyX4 tyX4_ok (ix_tab 134 (by decide +kernel) rfl) (ix_tab 97 (by decide +kernel) rfl) (ix_tab 6 (by decide +kernel) rfl) rfl (by decide +kernel) (Nat.le_of_ble_eq_true rfl) (Nat.le_of_ble_eq_true rfl) dX6_init_40 (fun a10 => ?_)
  simp only [List.cons_append, List.append_assoc, List.nil_append]
  refine cx_dup hC dX6_init_43 rfl ?_
  refine cx_bipush (v := (nI 20)) hC dX6_init_44 (by decide) ?_
  refine cx_init hC hK (n_Row l D tC sa 20 (by decide)) cx_Z.nil (by decide) (by decide) (Nat.le_of_ble_eq_true rfl) (Nat.le_of_ble_eq_true rfl) (ix_tab 100 (by decide +kernel) rfl) (ix_tab 6 (by decide +kernel) rfl) (ix_tab 135 (by decide +kernel) rfl) (ix_tab 99 (by decide +kernel) rfl) rfl ⟨by decide +kernel, by decide +kernel, (by decide +kernel : (parseMethodDescriptor yX4_init.desc).map (fun d => d.parameters.length) = some 1)⟩ (Nat.le_of_ble_eq_true rfl) dX6_init_46 (wr := ((h0, .inr (5, [.ref (q2 0), .ref (q5 0), .ref (q8 0), .null, .null, .int 0])) :: (wWater tC q2 ++ (wLaws tC q5 ++ (wRow tC 50 q8))))) (by simp only [List.cons_append, List.append_assoc, List.nil_append]) rfl (fun w1 h12 => ?_)
  obtain ⟨q11, rfl, rfl⟩ := h12
  simp only [List.cons_append, List.append_assoc, List.nil_append]
  refine cx_putF hC hin tu_X6 tyX6 tyX6_ok nmX6 0 rfl rfl 3 (by decide) (ix_tab 143 (by decide +kernel) rfl) rfl rfl rfl (ty := (.object "IndigoBoats$Row")) (by decide +kernel) rfl rfl (Nat.le_of_ble_eq_true rfl) dX6_init_49 (ws' := ((h0, .inr (5, [.ref (q2 0), .ref (q5 0), .ref (q8 0), .ref (q11 0), .null, .int 0])) :: (wWater tC q2 ++ (wLaws tC q5 ++ (wRow tC 50 q8 ++ (wRow tC 20 q11)))))) rfl ?_
  refine cx_aload_n hC dX6_init_52 rfl 0 rfl ?_
  refine cx_bipush (v := 6) hC dX6_init_53 (by decide) ?_
  refine cx_newi (N := 6) hC (ix_tab 83 (by decide +kernel) rfl) (by decide) (by decide) (by decide) (Nat.le_of_ble_eq_true rfl) (Nat.le_of_ble_eq_true rfl) dX6_init_55 (fun a13 => ?_)
  simp only [List.cons_append, List.append_assoc, List.nil_append]
  refine cx_putF hC hin tu_X6 tyX6 tyX6_ok nmX6 0 rfl rfl 4 (by decide) (ix_tab 145 (by decide +kernel) rfl) rfl rfl rfl (ty := (.array .int)) (by decide +kernel) rfl rfl (Nat.le_of_ble_eq_true rfl) dX6_init_57 (ws' := ((h0, .inr (5, [.ref (q2 0), .ref (q5 0), .ref (q8 0), .ref (q11 0), .ref a13, .int 0])) :: (wWater tC q2 ++ (wLaws tC q5 ++ (wRow tC 50 q8 ++ (wRow tC 20 q11 ++ ((a13, .inl (tC 0, 6, .inl (fun _ => 0))) :: []))))))) rfl ?_
  refine cx_aload_n hC dX6_init_60 rfl 0 rfl ?_
  refine cx_iconst (v := 1) hC dX6_init_61 (by decide) ?_
  refine cx_put hC tu_X6 tyX6 tyX6_ok nmX6 0 rfl rfl 5 (by decide) (ix_tab 148 (by decide +kernel) rfl) rfl rfl (ty := .int) (by decide +kernel) rfl rfl (Nat.le_of_ble_eq_true rfl) dX6_init_62 (ws' := ((h0, .inr (5, [.ref (q2 0), .ref (q5 0), .ref (q8 0), .ref (q11 0), .ref a13, .int 1])) :: (wWater tC q2 ++ (wLaws tC q5 ++ (wRow tC 50 q8 ++ (wRow tC 20 q11 ++ ((a13, .inl (tC 0, 6, .inl (fun _ => 0))) :: []))))))) rfl ?_
  refine cx_iconst (v := 0) hC dX6_init_65 (by decide) ?_
  refine cx_istore_n (lv' := [(1, .int 0), (0, .ref h0)]) hC dX6_init_66 rfl (by decide) rfl ?_
  have hloop : ∀ k i, i + k = 6 → cx_J p l e R s m args below meth c Qw D A 2 (67, [(1, .int (nI i)), (0, .ref h0)], [], ((h0, .inr (5, [.ref (q2 0), .ref (q5 0), .ref (q8 0), .ref (q11 0), .ref a13, .int 1])) :: (wWater tC q2 ++ (wLaws tC q5 ++ (wRow tC 50 q8 ++ (wRow tC 20 q11 ++ ((a13, .inl (tC 0, 6, .inl (wtF i))) :: [])))))), 22, 370) := by
    intro k
    induction k with
    | zero =>
      intro i hi
      obtain rfl : i = 6 := by omega
      refine cx_iload_n hC dX6_init_67 rfl 0 rfl ?_
      refine cx_bipush (v := 6) hC dX6_init_68 (by decide) ?_
      refine cx_ge (t := 87) hC dX6_init_70 (by decide) (fun _ => ?_) (fun z => absurd (by decide) z)
      exact hend _ 87 _ ⟨(fun i => [h0, q2 0, q2 1, q2 2, q2 3, q2 4, q2 5, q2 6, q2 7, q5 0, q5 1, q5 2, q5 3, q5 4, q5 5, q5 6, q5 7, q5 8, q8 0, q8 1, q11 0, q11 1, a13].getD i 0), rfl, rfl⟩ dX6_init_87
    | succ k ih =>
      intro i hi
      have hi2 : i < 6 := by omega
      have hlt := cx_lt6 i hi2
      refine cx_iload_n hC dX6_init_67 rfl 0 rfl ?_
      refine cx_bipush (v := 6) hC dX6_init_68 (by decide) ?_
      refine cx_ge (t := 87) hC dX6_init_70 (by decide) (fun z => absurd z hlt) (fun _ => ?_)
      refine cx_aload_n hC dX6_init_73 rfl 1 rfl ?_
      refine cx_get (ci := 5) hC tu_X6 0 rfl rfl 4 (by decide) (ix_tab 145 (by decide +kernel) rfl) rfl (v := .ref a13) rfl dX6_init_74 ?_
      refine cx_iload_n hC dX6_init_77 rfl 0 rfl ?_
      refine cx_bipush (v := 10) hC dX6_init_78 (by decide) ?_
      refine cx_iast (f' := wtF (i + 1)) hC 22 rfl (vp_in_nI (by omega) (by omega)) (wtF_s hi2) dX6_init_80 (ws' := ((h0, .inr (5, [.ref (q2 0), .ref (q5 0), .ref (q8 0), .ref (q11 0), .ref a13, .int 1])) :: (wWater tC q2 ++ (wLaws tC q5 ++ (wRow tC 50 q8 ++ (wRow tC 20 q11 ++ ((a13, .inl (tC 0, 6, .inl (wtF (i + 1)))) :: []))))))) rfl ?_
      refine cx_iinc (v := (nI (i + 1))) (lv' := [(1, .int (nI (i + 1))), (0, .ref h0)]) hC dX6_init_81 0 rfl (nI_1 i) (by decide) rfl ?_
      refine cx_goto (t := 67) hC dX6_init_84 (by decide) ?_
      exact ih (i + 1) (by omega)
  have h0l := hloop 6 0 rfl
  rw [wtF_0] at h0l
  exact h0l

