/-! ===== constructors: Row ===== -/
def wRow (tC : Nat → ClassId) (n : Nat) (q : Nat → Nat) : va_W := [(q 0, .inr (3, [.ref (q 1), .int 0])), (q 1, .inl (tC 0, n, .inl (fun _ => 0)))]
theorem n_Row (l : Launch) (D : va_G) (tC : Nat → ClassId) (sa : Nat → Nat) (n : Nat) (hn : n ≤ 100) : cx_Ct l yX4_init cX4_init 2 2 1 (0 + n) 3 [.null, .int 0] [.int (nI n)] [] [] D tC sa (fun h0 w => ∃ q : Nat → Nat, q 0 = h0 ∧ w = wRow tC n q) := by
  refine cx_ct (own := RX4) rfl (by decide) rfl (fun h0 => Nat.le_of_ble_eq_true rfl) (fun p e R s m args below meth c Qw A h0 hC hK hZ hin hend => ?_)
  have e0 : (if (0 : Int32) < nI n then nI n else 0) = nI n := by
    by_cases c : n = 0
    · subst c
      decide
    · have h : (0 : Int32) < nI n := nI_lt (a := 0) (b := n) (by omega) (by omega)
      rw [if_pos h]
  refine cx_aload_n hC dX4_init_0 rfl 0 rfl ?_
  refine cx_obj hC (ix_tab 101 (by decide +kernel) rfl) (ix_tab 26 (by decide +kernel) rfl) (ix_tab 27 (by decide +kernel) rfl) dX4_init_1 (by decide) (Nat.le_of_ble_eq_true rfl) ?_
  refine cx_aload_n hC dX4_init_4 rfl 0 rfl ?_
  refine cx_iconst (v := 0) hC dX4_init_5 (by decide) ?_
  refine cx_iload_n hC dX4_init_6 rfl 1 rfl ?_
  refine cx_mmax hC (ix_tab 102 (by decide +kernel) rfl) (ix_tab 103 (by decide +kernel) rfl) (ix_tab 7 (by decide +kernel) rfl) (ix_tab 104 (by decide +kernel) rfl) (by decide) (Nat.le_of_ble_eq_true rfl) (by omega) (by omega) dX4_init_7 ?_
  rw [e0]
  refine cx_newi hC (ix_tab 83 (by decide +kernel) rfl) (nI_pos (by omega)) (nI_clamp (by omega)) (by show n * 4 ≤ _; omega) (by omega) (by omega) dX4_init_10 (fun q => ?_)
  refine cx_putF hC hin tu_X4 tyX4 tyX4_ok nmX4 0 rfl rfl 0 (by decide) (ix_tab 105 (by decide +kernel) rfl) rfl rfl rfl (ty := .array .int) (by decide +kernel) rfl rfl (Nat.le_of_ble_eq_true rfl) dX4_init_12 rfl ?_
  exact hend _ 15 _ ⟨fun i => [h0, q].getD i 0, rfl, rfl⟩ dX4_init_15
