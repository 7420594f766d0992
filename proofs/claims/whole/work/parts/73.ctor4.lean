/-! ===== constructors: Model (written by gen/walk3.py) ===== -/
theorem cx_up0 {α : Type} {i : Int32} (v : α) (h : i.toNatClampNeg = 0) : va_up (fun _ => (none : Option α)) i.toNatClampNeg (some v) = fun i => [some v].getD i none := by
  rw [h]
  funext j
  cases j with
  | zero => rfl
  | succ j => rfl
theorem cx_upA {α : Type} {i : Int32} (n : Nat) (L : List (Option α)) (v : α) (hL : L.length = n) (h : i.toNatClampNeg = n) : va_up (fun i => L.getD i none) i.toNatClampNeg (some v) = fun i => (L ++ [some v]).getD i none := by
  rw [h, ← hL]
  funext j
  unfold va_up
  by_cases c : j = L.length
  · subst c
    simp
  · rw [if_neg c]
    by_cases c2 : j < L.length
    · simp [List.getD, List.getElem?_append_left c2]
    · show L.getD j none = _
      rw [List.getD_eq_getElem?_getD, List.getD_eq_getElem?_getD, List.getElem?_eq_none (by omega), List.getElem?_eq_none (by simp; omega)]
def nwA : Nat → Int32 := fun j => if j = 3 then 1 else 0
def nwD (i : Nat) : Nat → Int32 := fun j => if 18 ≤ j ∧ j < 18 + i then nI ((j - 18) % 10) else if j = 2 then 14 else if j = 3 then 1 else 0
def nwW (i : Nat) : Nat → Int32 := fun j => if 12 ≤ j ∧ j < 12 + i then 10 else nwD 16 j
theorem nwW_0 : nwW 0 = nwD 16 := funext (fun j => if_neg (by omega))
theorem cx_add18 : ∀ i, i < 16 → (18 : Int32) + nI i = nI (18 + i) := by decide
theorem cx_add12 : ∀ i, i < 6 → (12 : Int32) + nI i = nI (12 + i) := by decide
theorem nwA_s : upd (fun _ => 0) (3 : Int32).toNatClampNeg 1 = nwA := by
  rw [show (3 : Int32).toNatClampNeg = 3 by decide]
  rfl
theorem nwD_0 : upd nwA (2 : Int32).toNatClampNeg 14 = nwD 0 := by
  rw [show (2 : Int32).toNatClampNeg = 2 by decide]
  funext j
  unfold upd nwA nwD
  rw [if_neg (c := 18 ≤ j ∧ j < 18 + 0) (by omega)]
theorem nwD_s {i : Nat} (h : i < 16) : upd (nwD i) (nI (18 + i)).toNatClampNeg (nI i - nI i / 10 * 10) = nwD (i + 1) := by
  rw [cx_rem i h, nI_clamp (by omega)]
  funext j
  by_cases c : j = 18 + i
  · subst c
    simp [upd, nwD]
  · by_cases c2 : 18 ≤ j ∧ j < 18 + i
    · simp [upd, nwD, c, c2, show 18 ≤ j ∧ j < 18 + (i + 1) by omega]
    · simp only [upd, nwD, if_neg c, if_neg c2, if_neg (show ¬ (18 ≤ j ∧ j < 18 + (i + 1)) by omega)]
theorem nwW_s {i : Nat} (h : i < 6) : upd (nwW i) (nI (12 + i)).toNatClampNeg 10 = nwW (i + 1) := by
  rw [nI_clamp (by omega)]
  funext j
  by_cases c : j = 12 + i
  · subst c
    simp [upd, nwW]
  · by_cases c2 : 12 ≤ j ∧ j < 12 + i
    · simp [upd, nwW, c, c2, show 12 ≤ j ∧ j < 12 + (i + 1) by omega]
    · simp only [upd, nwW, if_neg c, if_neg c2, if_neg (show ¬ (12 ≤ j ∧ j < 12 + (i + 1)) by omega)]
def wModel (tC : Nat → ClassId) (q : Nat → Nat) (s1 s2 : Nat) : va_W := [(q 0, .inr (10, [.ref (q 1), .ref (q 2), .ref (q 3), .int 0, .ref (q 4), .int (-1), .int 0, .ref (q 5), .int 0, .int 0, .int 0, .int 0, .ref (q 6), .int 0, .ref (q 7), .ref (q 8), .ref (q 9), .ref (q 10), .int 0, .int 0, .int 0, .int 0, .ref (q 11), .ref (q 12), .ref (q 13), .ref (q 14)])),
  (q 1, .inl (tC 0, 256, .inl (nwW 6))),
  (q 2, .inl (tC 0, 256, .inl (fun _ => 0))),
  (q 3, .inl (tC 0, 256, .inl (fun _ => 0))),
  (q 4, .inl (tC 0, 6, .inl (fun _ => 0))),
  (q 5, .inl (tC 3, 2, .inr (.inr (.inr (.inr (fun i => [some (s1), some (s2)].getD i none)))))),
  (q 6, .inl (tC 0, 60, .inl (fun _ => 0))),
  (q 7, .inl (tC 0, 4, .inl (fun _ => 0))),
  (q 8, .inl (tC 0, 60, .inl (fun _ => 0))),
  (q 9, .inl (tC 0, 1792, .inl (fun _ => 0))),
  (q 10, .inl (tC 0, 40, .inl (fun _ => 0))),
  (q 11, .inl (tC 0, 4, .inl (fun _ => 0))),
  (q 12, .inl (tC 0, 4, .inl (fun _ => 0))),
  (q 13, .inl (tC 0, 160, .inl (fun _ => 0))),
  (q 14, .inl (tC 0, 40, .inl (fun _ => 0)))]
theorem n_Model (l : Launch) (D : va_G) (tC : Nat → ClassId) (sa : Nat → Nat) : cx_Ct l yX11_init cX11_init 2 2 14 2940 10 [.null, .null, .null, .int 0, .null, .int 0, .int 0, .null, .int 0, .int 0, .int 0, .int 0, .null, .int 0, .null, .null, .null, .null, .int 0, .int 0, .int 0, .int 0, .null, .null, .null, .null] [] [] [sa 1, sa 2] D tC sa (fun h0 w => ∃ q : Nat → Nat, q 0 = h0 ∧ w = wModel tC q (sa 1) (sa 2)) := by
  refine cx_ct (own := RX11) rfl (by decide) rfl (fun h0 => Nat.le_of_ble_eq_true rfl) (fun p e R s m args below meth c Qw A h0 hC hK hZ hin hend => ?_)
  refine cx_aload_n hC dX11_init_0 rfl 0 rfl ?_
  refine cx_obj hC (ix_tab 870 (by decide +kernel) rfl) (ix_tab 26 (by decide +kernel) rfl) (ix_tab 27 (by decide +kernel) rfl) dX11_init_1 (by decide) (Nat.le_of_ble_eq_true rfl) ?_
  refine cx_aload_n hC dX11_init_4 rfl 0 rfl ?_
  refine cx_sipush (v := 256) hC dX11_init_5 (by decide) ?_
  refine cx_newi (N := 256) hC (ix_tab 83 (by decide +kernel) rfl) (by decide) (by decide) (by decide) (Nat.le_of_ble_eq_true rfl) (Nat.le_of_ble_eq_true rfl) dX11_init_8 (fun a1 => ?_)
  simp only [List.cons_append, List.append_assoc, List.nil_append]
  refine cx_putF hC hin tu_X11 tyX11 tyX11_ok nmX11 0 rfl rfl 0 (by decide) (ix_tab 875 (by decide +kernel) rfl) rfl rfl rfl (ty := (.array .int)) (by decide +kernel) rfl rfl (Nat.le_of_ble_eq_true rfl) dX11_init_10 (ws' := ((h0, .inr (10, [.ref a1, .null, .null, .int 0, .null, .int 0, .int 0, .null, .int 0, .int 0, .int 0, .int 0, .null, .int 0, .null, .null, .null, .null, .int 0, .int 0, .int 0, .int 0, .null, .null, .null, .null])) :: ((a1, .inl (tC 0, 256, .inl (fun _ => 0))) :: []))) rfl ?_
  refine cx_aload_n hC dX11_init_13 rfl 0 rfl ?_
  refine cx_sipush (v := 256) hC dX11_init_14 (by decide) ?_
  refine cx_newi (N := 256) hC (ix_tab 83 (by decide +kernel) rfl) (by decide) (by decide) (by decide) (Nat.le_of_ble_eq_true rfl) (Nat.le_of_ble_eq_true rfl) dX11_init_17 (fun a2 => ?_)
  simp only [List.cons_append, List.append_assoc, List.nil_append]
  refine cx_putF hC hin tu_X11 tyX11 tyX11_ok nmX11 0 rfl rfl 1 (by decide) (ix_tab 876 (by decide +kernel) rfl) rfl rfl rfl (ty := (.array .int)) (by decide +kernel) rfl rfl (Nat.le_of_ble_eq_true rfl) dX11_init_19 (ws' := ((h0, .inr (10, [.ref a1, .ref a2, .null, .int 0, .null, .int 0, .int 0, .null, .int 0, .int 0, .int 0, .int 0, .null, .int 0, .null, .null, .null, .null, .int 0, .int 0, .int 0, .int 0, .null, .null, .null, .null])) :: ((a1, .inl (tC 0, 256, .inl (fun _ => 0))) :: ((a2, .inl (tC 0, 256, .inl (fun _ => 0))) :: [])))) rfl ?_
  refine cx_aload_n hC dX11_init_22 rfl 0 rfl ?_
  refine cx_sipush (v := 256) hC dX11_init_23 (by decide) ?_
  refine cx_newi (N := 256) hC (ix_tab 83 (by decide +kernel) rfl) (by decide) (by decide) (by decide) (Nat.le_of_ble_eq_true rfl) (Nat.le_of_ble_eq_true rfl) dX11_init_26 (fun a3 => ?_)
  simp only [List.cons_append, List.append_assoc, List.nil_append]
  refine cx_putF hC hin tu_X11 tyX11 tyX11_ok nmX11 0 rfl rfl 2 (by decide) (ix_tab 877 (by decide +kernel) rfl) rfl rfl rfl (ty := (.array .int)) (by decide +kernel) rfl rfl (Nat.le_of_ble_eq_true rfl) dX11_init_28 (ws' := ((h0, .inr (10, [.ref a1, .ref a2, .ref a3, .int 0, .null, .int 0, .int 0, .null, .int 0, .int 0, .int 0, .int 0, .null, .int 0, .null, .null, .null, .null, .int 0, .int 0, .int 0, .int 0, .null, .null, .null, .null])) :: ((a1, .inl (tC 0, 256, .inl (fun _ => 0))) :: ((a2, .inl (tC 0, 256, .inl (fun _ => 0))) :: ((a3, .inl (tC 0, 256, .inl (fun _ => 0))) :: []))))) rfl ?_
  refine cx_aload_n hC dX11_init_31 rfl 0 rfl ?_
  refine cx_bipush (v := 6) hC dX11_init_32 (by decide) ?_
  refine cx_newi (N := 6) hC (ix_tab 83 (by decide +kernel) rfl) (by decide) (by decide) (by decide) (Nat.le_of_ble_eq_true rfl) (Nat.le_of_ble_eq_true rfl) dX11_init_34 (fun a4 => ?_)
  simp only [List.cons_append, List.append_assoc, List.nil_append]
  refine cx_putF hC hin tu_X11 tyX11 tyX11_ok nmX11 0 rfl rfl 4 (by decide) (ix_tab 879 (by decide +kernel) rfl) rfl rfl rfl (ty := (.array .int)) (by decide +kernel) rfl rfl (Nat.le_of_ble_eq_true rfl) dX11_init_36 (ws' := ((h0, .inr (10, [.ref a1, .ref a2, .ref a3, .int 0, .ref a4, .int 0, .int 0, .null, .int 0, .int 0, .int 0, .int 0, .null, .int 0, .null, .null, .null, .null, .int 0, .int 0, .int 0, .int 0, .null, .null, .null, .null])) :: ((a1, .inl (tC 0, 256, .inl (fun _ => 0))) :: ((a2, .inl (tC 0, 256, .inl (fun _ => 0))) :: ((a3, .inl (tC 0, 256, .inl (fun _ => 0))) :: ((a4, .inl (tC 0, 6, .inl (fun _ => 0))) :: [])))))) rfl ?_
  refine cx_aload_n hC dX11_init_39 rfl 0 rfl ?_
  refine cx_iconst (v := (-1)) hC dX11_init_40 (by decide) ?_
  refine cx_put hC tu_X11 tyX11 tyX11_ok nmX11 0 rfl rfl 5 (by decide) (ix_tab 880 (by decide +kernel) rfl) rfl rfl (ty := .int) (by decide +kernel) rfl rfl (Nat.le_of_ble_eq_true rfl) dX11_init_41 (ws' := ((h0, .inr (10, [.ref a1, .ref a2, .ref a3, .int 0, .ref a4, .int (-1), .int 0, .null, .int 0, .int 0, .int 0, .int 0, .null, .int 0, .null, .null, .null, .null, .int 0, .int 0, .int 0, .int 0, .null, .null, .null, .null])) :: ((a1, .inl (tC 0, 256, .inl (fun _ => 0))) :: ((a2, .inl (tC 0, 256, .inl (fun _ => 0))) :: ((a3, .inl (tC 0, 256, .inl (fun _ => 0))) :: ((a4, .inl (tC 0, 6, .inl (fun _ => 0))) :: [])))))) rfl ?_
  refine cx_aload_n hC dX11_init_44 rfl 0 rfl ?_
  refine cx_iconst (v := 2) hC dX11_init_45 (by decide) ?_
  refine cx_anew (N := 2) (C := "java/lang/String") hC 3 (hK.2.2.1 _ (List.mem_of_getElem? (i := 2) rfl)) (ix_tab 871 (by decide +kernel) rfl) rfl (by decide) (by decide) (by decide) (Nat.le_of_ble_eq_true rfl) (Nat.le_of_ble_eq_true rfl) dX11_init_46 (fun a5 => ?_)
  simp only [List.cons_append, List.append_assoc, List.nil_append]
  refine cx_dup hC dX11_init_49 rfl ?_
  refine cx_iconst (v := 0) hC dX11_init_50 (by decide) ?_
  refine cx_ldcS hC hK.2.2.2.2.1 dX11_init_51 ?_
  refine cx_astS (f' := fun i => [some (sa 1)].getD i none) hC 5 (hZ _ (List.mem_of_getElem? (i := 0) rfl)) rfl (by unfold vp_in; decide) (cx_up0 (sa 1) (by decide)) dX11_init_53 (ws' := ((h0, .inr (10, [.ref a1, .ref a2, .ref a3, .int 0, .ref a4, .int (-1), .int 0, .null, .int 0, .int 0, .int 0, .int 0, .null, .int 0, .null, .null, .null, .null, .int 0, .int 0, .int 0, .int 0, .null, .null, .null, .null])) :: ((a1, .inl (tC 0, 256, .inl (fun _ => 0))) :: ((a2, .inl (tC 0, 256, .inl (fun _ => 0))) :: ((a3, .inl (tC 0, 256, .inl (fun _ => 0))) :: ((a4, .inl (tC 0, 6, .inl (fun _ => 0))) :: ((a5, .inl (tC 3, 2, .inr (.inr (.inr (.inr (fun i => [some (sa 1)].getD i none)))))) :: []))))))) rfl ?_
  refine cx_dup hC dX11_init_54 rfl ?_
  refine cx_iconst (v := 1) hC dX11_init_55 (by decide) ?_
  refine cx_ldcS hC hK.2.2.2.2.2 dX11_init_56 ?_
  refine cx_astS (f' := fun i => [some (sa 1), some (sa 2)].getD i none) hC 5 (hZ _ (List.mem_of_getElem? (i := 1) rfl)) rfl (by unfold vp_in; decide) (cx_upA 1 [some (sa 1)] (sa 2) rfl (by decide)) dX11_init_58 (ws' := ((h0, .inr (10, [.ref a1, .ref a2, .ref a3, .int 0, .ref a4, .int (-1), .int 0, .null, .int 0, .int 0, .int 0, .int 0, .null, .int 0, .null, .null, .null, .null, .int 0, .int 0, .int 0, .int 0, .null, .null, .null, .null])) :: ((a1, .inl (tC 0, 256, .inl (fun _ => 0))) :: ((a2, .inl (tC 0, 256, .inl (fun _ => 0))) :: ((a3, .inl (tC 0, 256, .inl (fun _ => 0))) :: ((a4, .inl (tC 0, 6, .inl (fun _ => 0))) :: ((a5, .inl (tC 3, 2, .inr (.inr (.inr (.inr (fun i => [some (sa 1), some (sa 2)].getD i none)))))) :: []))))))) rfl ?_
  refine cx_putF hC hin tu_X11 tyX11 tyX11_ok nmX11 0 rfl rfl 7 (by decide) (ix_tab 882 (by decide +kernel) rfl) rfl rfl rfl (ty := (.array (.object "java/lang/String"))) (by decide +kernel) rfl rfl (Nat.le_of_ble_eq_true rfl) dX11_init_59 (ws' := ((h0, .inr (10, [.ref a1, .ref a2, .ref a3, .int 0, .ref a4, .int (-1), .int 0, .ref a5, .int 0, .int 0, .int 0, .int 0, .null, .int 0, .null, .null, .null, .null, .int 0, .int 0, .int 0, .int 0, .null, .null, .null, .null])) :: ((a1, .inl (tC 0, 256, .inl (fun _ => 0))) :: ((a2, .inl (tC 0, 256, .inl (fun _ => 0))) :: ((a3, .inl (tC 0, 256, .inl (fun _ => 0))) :: ((a4, .inl (tC 0, 6, .inl (fun _ => 0))) :: ((a5, .inl (tC 3, 2, .inr (.inr (.inr (.inr (fun i => [some (sa 1), some (sa 2)].getD i none)))))) :: []))))))) rfl ?_
  refine cx_aload_n hC dX11_init_62 rfl 0 rfl ?_
  refine cx_bipush (v := 60) hC dX11_init_63 (by decide) ?_
  refine cx_newi (N := 60) hC (ix_tab 83 (by decide +kernel) rfl) (by decide) (by decide) (by decide) (Nat.le_of_ble_eq_true rfl) (Nat.le_of_ble_eq_true rfl) dX11_init_65 (fun a6 => ?_)
  simp only [List.cons_append, List.append_assoc, List.nil_append]
  refine cx_putF hC hin tu_X11 tyX11 tyX11_ok nmX11 0 rfl rfl 12 (by decide) (ix_tab 887 (by decide +kernel) rfl) rfl rfl rfl (ty := (.array .int)) (by decide +kernel) rfl rfl (Nat.le_of_ble_eq_true rfl) dX11_init_67 (ws' := ((h0, .inr (10, [.ref a1, .ref a2, .ref a3, .int 0, .ref a4, .int (-1), .int 0, .ref a5, .int 0, .int 0, .int 0, .int 0, .ref a6, .int 0, .null, .null, .null, .null, .int 0, .int 0, .int 0, .int 0, .null, .null, .null, .null])) :: ((a1, .inl (tC 0, 256, .inl (fun _ => 0))) :: ((a2, .inl (tC 0, 256, .inl (fun _ => 0))) :: ((a3, .inl (tC 0, 256, .inl (fun _ => 0))) :: ((a4, .inl (tC 0, 6, .inl (fun _ => 0))) :: ((a5, .inl (tC 3, 2, .inr (.inr (.inr (.inr (fun i => [some (sa 1), some (sa 2)].getD i none)))))) :: ((a6, .inl (tC 0, 60, .inl (fun _ => 0))) :: [])))))))) rfl ?_
  refine cx_aload_n hC dX11_init_70 rfl 0 rfl ?_
  refine cx_iconst (v := 4) hC dX11_init_71 (by decide) ?_
  refine cx_newi (N := 4) hC (ix_tab 83 (by decide +kernel) rfl) (by decide) (by decide) (by decide) (Nat.le_of_ble_eq_true rfl) (Nat.le_of_ble_eq_true rfl) dX11_init_72 (fun a7 => ?_)
  simp only [List.cons_append, List.append_assoc, List.nil_append]
  refine cx_putF hC hin tu_X11 tyX11 tyX11_ok nmX11 0 rfl rfl 14 (by decide) (ix_tab 889 (by decide +kernel) rfl) rfl rfl rfl (ty := (.array .int)) (by decide +kernel) rfl rfl (Nat.le_of_ble_eq_true rfl) dX11_init_74 (ws' := ((h0, .inr (10, [.ref a1, .ref a2, .ref a3, .int 0, .ref a4, .int (-1), .int 0, .ref a5, .int 0, .int 0, .int 0, .int 0, .ref a6, .int 0, .ref a7, .null, .null, .null, .int 0, .int 0, .int 0, .int 0, .null, .null, .null, .null])) :: ((a1, .inl (tC 0, 256, .inl (fun _ => 0))) :: ((a2, .inl (tC 0, 256, .inl (fun _ => 0))) :: ((a3, .inl (tC 0, 256, .inl (fun _ => 0))) :: ((a4, .inl (tC 0, 6, .inl (fun _ => 0))) :: ((a5, .inl (tC 3, 2, .inr (.inr (.inr (.inr (fun i => [some (sa 1), some (sa 2)].getD i none)))))) :: ((a6, .inl (tC 0, 60, .inl (fun _ => 0))) :: ((a7, .inl (tC 0, 4, .inl (fun _ => 0))) :: []))))))))) rfl ?_
  refine cx_aload_n hC dX11_init_77 rfl 0 rfl ?_
  refine cx_bipush (v := 60) hC dX11_init_78 (by decide) ?_
  refine cx_newi (N := 60) hC (ix_tab 83 (by decide +kernel) rfl) (by decide) (by decide) (by decide) (Nat.le_of_ble_eq_true rfl) (Nat.le_of_ble_eq_true rfl) dX11_init_80 (fun a8 => ?_)
  simp only [List.cons_append, List.append_assoc, List.nil_append]
  refine cx_putF hC hin tu_X11 tyX11 tyX11_ok nmX11 0 rfl rfl 15 (by decide) (ix_tab 890 (by decide +kernel) rfl) rfl rfl rfl (ty := (.array .int)) (by decide +kernel) rfl rfl (Nat.le_of_ble_eq_true rfl) dX11_init_82 (ws' := ((h0, .inr (10, [.ref a1, .ref a2, .ref a3, .int 0, .ref a4, .int (-1), .int 0, .ref a5, .int 0, .int 0, .int 0, .int 0, .ref a6, .int 0, .ref a7, .ref a8, .null, .null, .int 0, .int 0, .int 0, .int 0, .null, .null, .null, .null])) :: ((a1, .inl (tC 0, 256, .inl (fun _ => 0))) :: ((a2, .inl (tC 0, 256, .inl (fun _ => 0))) :: ((a3, .inl (tC 0, 256, .inl (fun _ => 0))) :: ((a4, .inl (tC 0, 6, .inl (fun _ => 0))) :: ((a5, .inl (tC 3, 2, .inr (.inr (.inr (.inr (fun i => [some (sa 1), some (sa 2)].getD i none)))))) :: ((a6, .inl (tC 0, 60, .inl (fun _ => 0))) :: ((a7, .inl (tC 0, 4, .inl (fun _ => 0))) :: ((a8, .inl (tC 0, 60, .inl (fun _ => 0))) :: [])))))))))) rfl ?_
  refine cx_aload_n hC dX11_init_85 rfl 0 rfl ?_
  refine cx_sipush (v := 1792) hC dX11_init_86 (by decide) ?_
  refine cx_newi (N := 1792) hC (ix_tab 83 (by decide +kernel) rfl) (by decide) (by decide) (by decide) (Nat.le_of_ble_eq_true rfl) (Nat.le_of_ble_eq_true rfl) dX11_init_89 (fun a9 => ?_)
  simp only [List.cons_append, List.append_assoc, List.nil_append]
  refine cx_putF hC hin tu_X11 tyX11 tyX11_ok nmX11 0 rfl rfl 16 (by decide) (ix_tab 891 (by decide +kernel) rfl) rfl rfl rfl (ty := (.array .int)) (by decide +kernel) rfl rfl (Nat.le_of_ble_eq_true rfl) dX11_init_91 (ws' := ((h0, .inr (10, [.ref a1, .ref a2, .ref a3, .int 0, .ref a4, .int (-1), .int 0, .ref a5, .int 0, .int 0, .int 0, .int 0, .ref a6, .int 0, .ref a7, .ref a8, .ref a9, .null, .int 0, .int 0, .int 0, .int 0, .null, .null, .null, .null])) :: ((a1, .inl (tC 0, 256, .inl (fun _ => 0))) :: ((a2, .inl (tC 0, 256, .inl (fun _ => 0))) :: ((a3, .inl (tC 0, 256, .inl (fun _ => 0))) :: ((a4, .inl (tC 0, 6, .inl (fun _ => 0))) :: ((a5, .inl (tC 3, 2, .inr (.inr (.inr (.inr (fun i => [some (sa 1), some (sa 2)].getD i none)))))) :: ((a6, .inl (tC 0, 60, .inl (fun _ => 0))) :: ((a7, .inl (tC 0, 4, .inl (fun _ => 0))) :: ((a8, .inl (tC 0, 60, .inl (fun _ => 0))) :: ((a9, .inl (tC 0, 1792, .inl (fun _ => 0))) :: []))))))))))) rfl ?_
  refine cx_aload_n hC dX11_init_94 rfl 0 rfl ?_
  refine cx_bipush (v := 40) hC dX11_init_95 (by decide) ?_
  refine cx_newi (N := 40) hC (ix_tab 83 (by decide +kernel) rfl) (by decide) (by decide) (by decide) (Nat.le_of_ble_eq_true rfl) (Nat.le_of_ble_eq_true rfl) dX11_init_97 (fun a10 => ?_)
  simp only [List.cons_append, List.append_assoc, List.nil_append]
  refine cx_putF hC hin tu_X11 tyX11 tyX11_ok nmX11 0 rfl rfl 17 (by decide) (ix_tab 892 (by decide +kernel) rfl) rfl rfl rfl (ty := (.array .int)) (by decide +kernel) rfl rfl (Nat.le_of_ble_eq_true rfl) dX11_init_99 (ws' := ((h0, .inr (10, [.ref a1, .ref a2, .ref a3, .int 0, .ref a4, .int (-1), .int 0, .ref a5, .int 0, .int 0, .int 0, .int 0, .ref a6, .int 0, .ref a7, .ref a8, .ref a9, .ref a10, .int 0, .int 0, .int 0, .int 0, .null, .null, .null, .null])) :: ((a1, .inl (tC 0, 256, .inl (fun _ => 0))) :: ((a2, .inl (tC 0, 256, .inl (fun _ => 0))) :: ((a3, .inl (tC 0, 256, .inl (fun _ => 0))) :: ((a4, .inl (tC 0, 6, .inl (fun _ => 0))) :: ((a5, .inl (tC 3, 2, .inr (.inr (.inr (.inr (fun i => [some (sa 1), some (sa 2)].getD i none)))))) :: ((a6, .inl (tC 0, 60, .inl (fun _ => 0))) :: ((a7, .inl (tC 0, 4, .inl (fun _ => 0))) :: ((a8, .inl (tC 0, 60, .inl (fun _ => 0))) :: ((a9, .inl (tC 0, 1792, .inl (fun _ => 0))) :: ((a10, .inl (tC 0, 40, .inl (fun _ => 0))) :: [])))))))))))) rfl ?_
  refine cx_aload_n hC dX11_init_102 rfl 0 rfl ?_
  refine cx_iconst (v := 4) hC dX11_init_103 (by decide) ?_
  refine cx_newi (N := 4) hC (ix_tab 83 (by decide +kernel) rfl) (by decide) (by decide) (by decide) (Nat.le_of_ble_eq_true rfl) (Nat.le_of_ble_eq_true rfl) dX11_init_104 (fun a11 => ?_)
  simp only [List.cons_append, List.append_assoc, List.nil_append]
  refine cx_putF hC hin tu_X11 tyX11 tyX11_ok nmX11 0 rfl rfl 22 (by decide) (ix_tab 897 (by decide +kernel) rfl) rfl rfl rfl (ty := (.array .int)) (by decide +kernel) rfl rfl (Nat.le_of_ble_eq_true rfl) dX11_init_106 (ws' := ((h0, .inr (10, [.ref a1, .ref a2, .ref a3, .int 0, .ref a4, .int (-1), .int 0, .ref a5, .int 0, .int 0, .int 0, .int 0, .ref a6, .int 0, .ref a7, .ref a8, .ref a9, .ref a10, .int 0, .int 0, .int 0, .int 0, .ref a11, .null, .null, .null])) :: ((a1, .inl (tC 0, 256, .inl (fun _ => 0))) :: ((a2, .inl (tC 0, 256, .inl (fun _ => 0))) :: ((a3, .inl (tC 0, 256, .inl (fun _ => 0))) :: ((a4, .inl (tC 0, 6, .inl (fun _ => 0))) :: ((a5, .inl (tC 3, 2, .inr (.inr (.inr (.inr (fun i => [some (sa 1), some (sa 2)].getD i none)))))) :: ((a6, .inl (tC 0, 60, .inl (fun _ => 0))) :: ((a7, .inl (tC 0, 4, .inl (fun _ => 0))) :: ((a8, .inl (tC 0, 60, .inl (fun _ => 0))) :: ((a9, .inl (tC 0, 1792, .inl (fun _ => 0))) :: ((a10, .inl (tC 0, 40, .inl (fun _ => 0))) :: ((a11, .inl (tC 0, 4, .inl (fun _ => 0))) :: []))))))))))))) rfl ?_
  refine cx_aload_n hC dX11_init_109 rfl 0 rfl ?_
  refine cx_iconst (v := 4) hC dX11_init_110 (by decide) ?_
  refine cx_newi (N := 4) hC (ix_tab 83 (by decide +kernel) rfl) (by decide) (by decide) (by decide) (Nat.le_of_ble_eq_true rfl) (Nat.le_of_ble_eq_true rfl) dX11_init_111 (fun a12 => ?_)
  simp only [List.cons_append, List.append_assoc, List.nil_append]
  refine cx_putF hC hin tu_X11 tyX11 tyX11_ok nmX11 0 rfl rfl 23 (by decide) (ix_tab 898 (by decide +kernel) rfl) rfl rfl rfl (ty := (.array .int)) (by decide +kernel) rfl rfl (Nat.le_of_ble_eq_true rfl) dX11_init_113 (ws' := ((h0, .inr (10, [.ref a1, .ref a2, .ref a3, .int 0, .ref a4, .int (-1), .int 0, .ref a5, .int 0, .int 0, .int 0, .int 0, .ref a6, .int 0, .ref a7, .ref a8, .ref a9, .ref a10, .int 0, .int 0, .int 0, .int 0, .ref a11, .ref a12, .null, .null])) :: ((a1, .inl (tC 0, 256, .inl (fun _ => 0))) :: ((a2, .inl (tC 0, 256, .inl (fun _ => 0))) :: ((a3, .inl (tC 0, 256, .inl (fun _ => 0))) :: ((a4, .inl (tC 0, 6, .inl (fun _ => 0))) :: ((a5, .inl (tC 3, 2, .inr (.inr (.inr (.inr (fun i => [some (sa 1), some (sa 2)].getD i none)))))) :: ((a6, .inl (tC 0, 60, .inl (fun _ => 0))) :: ((a7, .inl (tC 0, 4, .inl (fun _ => 0))) :: ((a8, .inl (tC 0, 60, .inl (fun _ => 0))) :: ((a9, .inl (tC 0, 1792, .inl (fun _ => 0))) :: ((a10, .inl (tC 0, 40, .inl (fun _ => 0))) :: ((a11, .inl (tC 0, 4, .inl (fun _ => 0))) :: ((a12, .inl (tC 0, 4, .inl (fun _ => 0))) :: [])))))))))))))) rfl ?_
  refine cx_aload_n hC dX11_init_116 rfl 0 rfl ?_
  refine cx_sipush (v := 160) hC dX11_init_117 (by decide) ?_
  refine cx_newi (N := 160) hC (ix_tab 83 (by decide +kernel) rfl) (by decide) (by decide) (by decide) (Nat.le_of_ble_eq_true rfl) (Nat.le_of_ble_eq_true rfl) dX11_init_120 (fun a13 => ?_)
  simp only [List.cons_append, List.append_assoc, List.nil_append]
  refine cx_putF hC hin tu_X11 tyX11 tyX11_ok nmX11 0 rfl rfl 24 (by decide) (ix_tab 899 (by decide +kernel) rfl) rfl rfl rfl (ty := (.array .int)) (by decide +kernel) rfl rfl (Nat.le_of_ble_eq_true rfl) dX11_init_122 (ws' := ((h0, .inr (10, [.ref a1, .ref a2, .ref a3, .int 0, .ref a4, .int (-1), .int 0, .ref a5, .int 0, .int 0, .int 0, .int 0, .ref a6, .int 0, .ref a7, .ref a8, .ref a9, .ref a10, .int 0, .int 0, .int 0, .int 0, .ref a11, .ref a12, .ref a13, .null])) :: ((a1, .inl (tC 0, 256, .inl (fun _ => 0))) :: ((a2, .inl (tC 0, 256, .inl (fun _ => 0))) :: ((a3, .inl (tC 0, 256, .inl (fun _ => 0))) :: ((a4, .inl (tC 0, 6, .inl (fun _ => 0))) :: ((a5, .inl (tC 3, 2, .inr (.inr (.inr (.inr (fun i => [some (sa 1), some (sa 2)].getD i none)))))) :: ((a6, .inl (tC 0, 60, .inl (fun _ => 0))) :: ((a7, .inl (tC 0, 4, .inl (fun _ => 0))) :: ((a8, .inl (tC 0, 60, .inl (fun _ => 0))) :: ((a9, .inl (tC 0, 1792, .inl (fun _ => 0))) :: ((a10, .inl (tC 0, 40, .inl (fun _ => 0))) :: ((a11, .inl (tC 0, 4, .inl (fun _ => 0))) :: ((a12, .inl (tC 0, 4, .inl (fun _ => 0))) :: ((a13, .inl (tC 0, 160, .inl (fun _ => 0))) :: []))))))))))))))) rfl ?_
  refine cx_aload_n hC dX11_init_125 rfl 0 rfl ?_
  refine cx_bipush (v := 40) hC dX11_init_126 (by decide) ?_
  refine cx_newi (N := 40) hC (ix_tab 83 (by decide +kernel) rfl) (by decide) (by decide) (by decide) (Nat.le_of_ble_eq_true rfl) (Nat.le_of_ble_eq_true rfl) dX11_init_128 (fun a14 => ?_)
  simp only [List.cons_append, List.append_assoc, List.nil_append]
  refine cx_putF hC hin tu_X11 tyX11 tyX11_ok nmX11 0 rfl rfl 25 (by decide) (ix_tab 900 (by decide +kernel) rfl) rfl rfl rfl (ty := (.array .int)) (by decide +kernel) rfl rfl (Nat.le_of_ble_eq_true rfl) dX11_init_130 (ws' := ((h0, .inr (10, [.ref a1, .ref a2, .ref a3, .int 0, .ref a4, .int (-1), .int 0, .ref a5, .int 0, .int 0, .int 0, .int 0, .ref a6, .int 0, .ref a7, .ref a8, .ref a9, .ref a10, .int 0, .int 0, .int 0, .int 0, .ref a11, .ref a12, .ref a13, .ref a14])) :: ((a1, .inl (tC 0, 256, .inl (fun _ => 0))) :: ((a2, .inl (tC 0, 256, .inl (fun _ => 0))) :: ((a3, .inl (tC 0, 256, .inl (fun _ => 0))) :: ((a4, .inl (tC 0, 6, .inl (fun _ => 0))) :: ((a5, .inl (tC 3, 2, .inr (.inr (.inr (.inr (fun i => [some (sa 1), some (sa 2)].getD i none)))))) :: ((a6, .inl (tC 0, 60, .inl (fun _ => 0))) :: ((a7, .inl (tC 0, 4, .inl (fun _ => 0))) :: ((a8, .inl (tC 0, 60, .inl (fun _ => 0))) :: ((a9, .inl (tC 0, 1792, .inl (fun _ => 0))) :: ((a10, .inl (tC 0, 40, .inl (fun _ => 0))) :: ((a11, .inl (tC 0, 4, .inl (fun _ => 0))) :: ((a12, .inl (tC 0, 4, .inl (fun _ => 0))) :: ((a13, .inl (tC 0, 160, .inl (fun _ => 0))) :: ((a14, .inl (tC 0, 40, .inl (fun _ => 0))) :: [])))))))))))))))) rfl ?_
  refine cx_aload_n hC dX11_init_133 rfl 0 rfl ?_
  refine cx_get (ci := 10) hC tu_X11 0 rfl rfl 0 (by decide) (ix_tab 875 (by decide +kernel) rfl) rfl (v := .ref a1) rfl dX11_init_134 ?_
  refine cx_iconst (v := 3) hC dX11_init_137 (by decide) ?_
  refine cx_iconst (v := 1) hC dX11_init_138 (by decide) ?_
  refine cx_iast (f' := nwA) hC 1 rfl (by unfold vp_in; decide) nwA_s dX11_init_139 (ws' := ((h0, .inr (10, [.ref a1, .ref a2, .ref a3, .int 0, .ref a4, .int (-1), .int 0, .ref a5, .int 0, .int 0, .int 0, .int 0, .ref a6, .int 0, .ref a7, .ref a8, .ref a9, .ref a10, .int 0, .int 0, .int 0, .int 0, .ref a11, .ref a12, .ref a13, .ref a14])) :: ((a1, .inl (tC 0, 256, .inl (nwA))) :: ((a2, .inl (tC 0, 256, .inl (fun _ => 0))) :: ((a3, .inl (tC 0, 256, .inl (fun _ => 0))) :: ((a4, .inl (tC 0, 6, .inl (fun _ => 0))) :: ((a5, .inl (tC 3, 2, .inr (.inr (.inr (.inr (fun i => [some (sa 1), some (sa 2)].getD i none)))))) :: ((a6, .inl (tC 0, 60, .inl (fun _ => 0))) :: ((a7, .inl (tC 0, 4, .inl (fun _ => 0))) :: ((a8, .inl (tC 0, 60, .inl (fun _ => 0))) :: ((a9, .inl (tC 0, 1792, .inl (fun _ => 0))) :: ((a10, .inl (tC 0, 40, .inl (fun _ => 0))) :: ((a11, .inl (tC 0, 4, .inl (fun _ => 0))) :: ((a12, .inl (tC 0, 4, .inl (fun _ => 0))) :: ((a13, .inl (tC 0, 160, .inl (fun _ => 0))) :: ((a14, .inl (tC 0, 40, .inl (fun _ => 0))) :: [])))))))))))))))) rfl ?_
  refine cx_aload_n hC dX11_init_140 rfl 0 rfl ?_
  refine cx_get (ci := 10) hC tu_X11 0 rfl rfl 0 (by decide) (ix_tab 875 (by decide +kernel) rfl) rfl (v := .ref a1) rfl dX11_init_141 ?_
  refine cx_iconst (v := 2) hC dX11_init_144 (by decide) ?_
  refine cx_bipush (v := 14) hC dX11_init_145 (by decide) ?_
  refine cx_iast (f' := nwD 0) hC 1 rfl (by unfold vp_in; decide) nwD_0 dX11_init_147 (ws' := ((h0, .inr (10, [.ref a1, .ref a2, .ref a3, .int 0, .ref a4, .int (-1), .int 0, .ref a5, .int 0, .int 0, .int 0, .int 0, .ref a6, .int 0, .ref a7, .ref a8, .ref a9, .ref a10, .int 0, .int 0, .int 0, .int 0, .ref a11, .ref a12, .ref a13, .ref a14])) :: ((a1, .inl (tC 0, 256, .inl (nwD 0))) :: ((a2, .inl (tC 0, 256, .inl (fun _ => 0))) :: ((a3, .inl (tC 0, 256, .inl (fun _ => 0))) :: ((a4, .inl (tC 0, 6, .inl (fun _ => 0))) :: ((a5, .inl (tC 3, 2, .inr (.inr (.inr (.inr (fun i => [some (sa 1), some (sa 2)].getD i none)))))) :: ((a6, .inl (tC 0, 60, .inl (fun _ => 0))) :: ((a7, .inl (tC 0, 4, .inl (fun _ => 0))) :: ((a8, .inl (tC 0, 60, .inl (fun _ => 0))) :: ((a9, .inl (tC 0, 1792, .inl (fun _ => 0))) :: ((a10, .inl (tC 0, 40, .inl (fun _ => 0))) :: ((a11, .inl (tC 0, 4, .inl (fun _ => 0))) :: ((a12, .inl (tC 0, 4, .inl (fun _ => 0))) :: ((a13, .inl (tC 0, 160, .inl (fun _ => 0))) :: ((a14, .inl (tC 0, 40, .inl (fun _ => 0))) :: [])))))))))))))))) rfl ?_
  refine cx_iconst (v := 0) hC dX11_init_148 (by decide) ?_
  refine cx_istore_n (lv' := [(1, .int 0), (0, .ref h0)]) hC dX11_init_149 rfl (by decide) rfl ?_
  have hloop : ∀ k i, i + k = 16 → cx_J p l e R s m args below meth c Qw D A 2 (150, [(1, .int (nI i)), (0, .ref h0)], [], ((h0, .inr (10, [.ref a1, .ref a2, .ref a3, .int 0, .ref a4, .int (-1), .int 0, .ref a5, .int 0, .int 0, .int 0, .int 0, .ref a6, .int 0, .ref a7, .ref a8, .ref a9, .ref a10, .int 0, .int 0, .int 0, .int 0, .ref a11, .ref a12, .ref a13, .ref a14])) :: ((a1, .inl (tC 0, 256, .inl (nwD i))) :: ((a2, .inl (tC 0, 256, .inl (fun _ => 0))) :: ((a3, .inl (tC 0, 256, .inl (fun _ => 0))) :: ((a4, .inl (tC 0, 6, .inl (fun _ => 0))) :: ((a5, .inl (tC 3, 2, .inr (.inr (.inr (.inr (fun i => [some (sa 1), some (sa 2)].getD i none)))))) :: ((a6, .inl (tC 0, 60, .inl (fun _ => 0))) :: ((a7, .inl (tC 0, 4, .inl (fun _ => 0))) :: ((a8, .inl (tC 0, 60, .inl (fun _ => 0))) :: ((a9, .inl (tC 0, 1792, .inl (fun _ => 0))) :: ((a10, .inl (tC 0, 40, .inl (fun _ => 0))) :: ((a11, .inl (tC 0, 4, .inl (fun _ => 0))) :: ((a12, .inl (tC 0, 4, .inl (fun _ => 0))) :: ((a13, .inl (tC 0, 160, .inl (fun _ => 0))) :: ((a14, .inl (tC 0, 40, .inl (fun _ => 0))) :: []))))))))))))))), 14, 2940) := by
    intro k
    induction k with
    | zero =>
      intro i hi
      obtain rfl : i = 16 := by omega
      refine cx_iload_n hC dX11_init_150 rfl 0 rfl ?_
      refine cx_bipush (v := 16) hC dX11_init_151 (by decide) ?_
      refine cx_ge (t := 175) hC dX11_init_153 (by decide) (fun _ => ?_) (fun z => absurd (by decide) z)
      refine cx_iconst (v := 0) hC dX11_init_175 (by decide) ?_
      refine cx_istore_n (lv' := [(1, .int 0), (0, .ref h0)]) hC dX11_init_176 rfl (by decide) rfl ?_
      have hloop : ∀ k i, i + k = 6 → cx_J p l e R s m args below meth c Qw D A 2 (177, [(1, .int (nI i)), (0, .ref h0)], [], ((h0, .inr (10, [.ref a1, .ref a2, .ref a3, .int 0, .ref a4, .int (-1), .int 0, .ref a5, .int 0, .int 0, .int 0, .int 0, .ref a6, .int 0, .ref a7, .ref a8, .ref a9, .ref a10, .int 0, .int 0, .int 0, .int 0, .ref a11, .ref a12, .ref a13, .ref a14])) :: ((a1, .inl (tC 0, 256, .inl (nwW i))) :: ((a2, .inl (tC 0, 256, .inl (fun _ => 0))) :: ((a3, .inl (tC 0, 256, .inl (fun _ => 0))) :: ((a4, .inl (tC 0, 6, .inl (fun _ => 0))) :: ((a5, .inl (tC 3, 2, .inr (.inr (.inr (.inr (fun i => [some (sa 1), some (sa 2)].getD i none)))))) :: ((a6, .inl (tC 0, 60, .inl (fun _ => 0))) :: ((a7, .inl (tC 0, 4, .inl (fun _ => 0))) :: ((a8, .inl (tC 0, 60, .inl (fun _ => 0))) :: ((a9, .inl (tC 0, 1792, .inl (fun _ => 0))) :: ((a10, .inl (tC 0, 40, .inl (fun _ => 0))) :: ((a11, .inl (tC 0, 4, .inl (fun _ => 0))) :: ((a12, .inl (tC 0, 4, .inl (fun _ => 0))) :: ((a13, .inl (tC 0, 160, .inl (fun _ => 0))) :: ((a14, .inl (tC 0, 40, .inl (fun _ => 0))) :: []))))))))))))))), 14, 2940) := by
        intro k
        induction k with
        | zero =>
          intro i hi
          obtain rfl : i = 6 := by omega
          refine cx_iload_n hC dX11_init_177 rfl 0 rfl ?_
          refine cx_bipush (v := 6) hC dX11_init_178 (by decide) ?_
          refine cx_ge (t := 200) hC dX11_init_180 (by decide) (fun _ => ?_) (fun z => absurd (by decide) z)
          exact hend _ 200 _ ⟨(fun i => [h0, a1, a2, a3, a4, a5, a6, a7, a8, a9, a10, a11, a12, a13, a14].getD i 0), rfl, rfl⟩ dX11_init_200
        | succ k ih =>
          intro i hi
          have hi2 : i < 6 := by omega
          have hlt := cx_lt6 i hi2
          refine cx_iload_n hC dX11_init_177 rfl 0 rfl ?_
          refine cx_bipush (v := 6) hC dX11_init_178 (by decide) ?_
          refine cx_ge (t := 200) hC dX11_init_180 (by decide) (fun z => absurd z hlt) (fun _ => ?_)
          refine cx_aload_n hC dX11_init_183 rfl 1 rfl ?_
          refine cx_get (ci := 10) hC tu_X11 0 rfl rfl 0 (by decide) (ix_tab 875 (by decide +kernel) rfl) rfl (v := .ref a1) rfl dX11_init_184 ?_
          refine cx_bipush (v := 12) hC dX11_init_187 (by decide) ?_
          refine cx_iload_n hC dX11_init_189 rfl 0 rfl ?_
          refine cx_iadd (v := (nI (12 + i))) hC dX11_init_190 (cx_add12 i hi2) ?_
          refine cx_bipush (v := 10) hC dX11_init_191 (by decide) ?_
          refine cx_iast (f' := nwW (i + 1)) hC 1 rfl (vp_in_nI (by omega) (by omega)) (nwW_s hi2) dX11_init_193 (ws' := ((h0, .inr (10, [.ref a1, .ref a2, .ref a3, .int 0, .ref a4, .int (-1), .int 0, .ref a5, .int 0, .int 0, .int 0, .int 0, .ref a6, .int 0, .ref a7, .ref a8, .ref a9, .ref a10, .int 0, .int 0, .int 0, .int 0, .ref a11, .ref a12, .ref a13, .ref a14])) :: ((a1, .inl (tC 0, 256, .inl (nwW (i + 1)))) :: ((a2, .inl (tC 0, 256, .inl (fun _ => 0))) :: ((a3, .inl (tC 0, 256, .inl (fun _ => 0))) :: ((a4, .inl (tC 0, 6, .inl (fun _ => 0))) :: ((a5, .inl (tC 3, 2, .inr (.inr (.inr (.inr (fun i => [some (sa 1), some (sa 2)].getD i none)))))) :: ((a6, .inl (tC 0, 60, .inl (fun _ => 0))) :: ((a7, .inl (tC 0, 4, .inl (fun _ => 0))) :: ((a8, .inl (tC 0, 60, .inl (fun _ => 0))) :: ((a9, .inl (tC 0, 1792, .inl (fun _ => 0))) :: ((a10, .inl (tC 0, 40, .inl (fun _ => 0))) :: ((a11, .inl (tC 0, 4, .inl (fun _ => 0))) :: ((a12, .inl (tC 0, 4, .inl (fun _ => 0))) :: ((a13, .inl (tC 0, 160, .inl (fun _ => 0))) :: ((a14, .inl (tC 0, 40, .inl (fun _ => 0))) :: [])))))))))))))))) rfl ?_
          refine cx_iinc (v := (nI (i + 1))) (lv' := [(1, .int (nI (i + 1))), (0, .ref h0)]) hC dX11_init_194 0 rfl (nI_1 i) (by decide) rfl ?_
          refine cx_goto (t := 177) hC dX11_init_197 (by decide) ?_
          exact ih (i + 1) (by omega)
      have h0l := hloop 6 0 rfl
      rw [nwW_0] at h0l
      exact h0l
    | succ k ih =>
      intro i hi
      have hi2 : i < 16 := by omega
      have hlt := cx_lt16 i hi2
      refine cx_iload_n hC dX11_init_150 rfl 0 rfl ?_
      refine cx_bipush (v := 16) hC dX11_init_151 (by decide) ?_
      refine cx_ge (t := 175) hC dX11_init_153 (by decide) (fun z => absurd z hlt) (fun _ => ?_)
      refine cx_aload_n hC dX11_init_156 rfl 1 rfl ?_
      refine cx_get (ci := 10) hC tu_X11 0 rfl rfl 0 (by decide) (ix_tab 875 (by decide +kernel) rfl) rfl (v := .ref a1) rfl dX11_init_157 ?_
      refine cx_bipush (v := 18) hC dX11_init_160 (by decide) ?_
      refine cx_iload_n hC dX11_init_162 rfl 0 rfl ?_
      refine cx_iadd (v := (nI (18 + i))) hC dX11_init_163 (cx_add18 i hi2) ?_
      refine cx_iload_n hC dX11_init_164 rfl 0 rfl ?_
      refine cx_bipush (v := 10) hC dX11_init_165 (by decide) ?_
      refine cx_irem hC dX11_init_167 (by decide) ?_
      refine cx_iast (f' := nwD (i + 1)) hC 1 rfl (vp_in_nI (by omega) (by omega)) (nwD_s hi2) dX11_init_168 (ws' := ((h0, .inr (10, [.ref a1, .ref a2, .ref a3, .int 0, .ref a4, .int (-1), .int 0, .ref a5, .int 0, .int 0, .int 0, .int 0, .ref a6, .int 0, .ref a7, .ref a8, .ref a9, .ref a10, .int 0, .int 0, .int 0, .int 0, .ref a11, .ref a12, .ref a13, .ref a14])) :: ((a1, .inl (tC 0, 256, .inl (nwD (i + 1)))) :: ((a2, .inl (tC 0, 256, .inl (fun _ => 0))) :: ((a3, .inl (tC 0, 256, .inl (fun _ => 0))) :: ((a4, .inl (tC 0, 6, .inl (fun _ => 0))) :: ((a5, .inl (tC 3, 2, .inr (.inr (.inr (.inr (fun i => [some (sa 1), some (sa 2)].getD i none)))))) :: ((a6, .inl (tC 0, 60, .inl (fun _ => 0))) :: ((a7, .inl (tC 0, 4, .inl (fun _ => 0))) :: ((a8, .inl (tC 0, 60, .inl (fun _ => 0))) :: ((a9, .inl (tC 0, 1792, .inl (fun _ => 0))) :: ((a10, .inl (tC 0, 40, .inl (fun _ => 0))) :: ((a11, .inl (tC 0, 4, .inl (fun _ => 0))) :: ((a12, .inl (tC 0, 4, .inl (fun _ => 0))) :: ((a13, .inl (tC 0, 160, .inl (fun _ => 0))) :: ((a14, .inl (tC 0, 40, .inl (fun _ => 0))) :: [])))))))))))))))) rfl ?_
      refine cx_iinc (v := (nI (i + 1))) (lv' := [(1, .int (nI (i + 1))), (0, .ref h0)]) hC dX11_init_169 0 rfl (nI_1 i) (by decide) rfl ?_
      refine cx_goto (t := 150) hC dX11_init_172 (by decide) ?_
      exact ih (i + 1) (by omega)
  have h0l := hloop 16 0 rfl
  exact h0l

