/-! ===== words of the specifications ===== -/
def mB (c : Prop) [Decidable c] : Int32 := if c then 1 else 0
theorem mB_0 (c : Prop) [Decidable c] : (mB c = 0) = ¬ c := by
  unfold mB
  by_cases h : c <;> simp [h]
theorem mB_01 (c : Prop) [Decidable c] : (mB c = 0 ∨ mB c = 1) = True := by
  unfold mB
  by_cases h : c <;> simp [h]
theorem mB_t {c : Prop} [Decidable c] (h : c) : mB c = 1 := if_pos h
theorem mB_f {c : Prop} [Decidable c] (h : ¬ c) : mB c = 0 := if_neg h
theorem ix_10 : ((1 : Int32) = 0) = False := by decide
theorem ix_01 : ((0 : Int32) = 1) = False := by decide
theorem ix_q2 : ((2 : Int32) = 0) = False := by decide
theorem ix_q3 : ((3 : Int32) = 0) = False := by decide
theorem ix_q4 : ((4 : Int32) = 0) = False := by decide
theorem ix_q5 : ((5 : Int32) = 0) = False := by decide
theorem ix_q6 : ((6 : Int32) = 0) = False := by decide
theorem ix_q10 : ((10 : Int32) = 0) = False := by decide
theorem ix_q16 : ((16 : Int32) = 0) = False := by decide
theorem ix_q20 : ((20 : Int32) = 0) = False := by decide
theorem ix_c0 : ∀ n, (Sum.inl n : ix_V) = vi n := fun _ => rfl
/-- the same but for some cells -/
def Fx (L : List Nat) (μ μ' : ix_M) : Prop := ∀ a, a ∉ L → μ' a = μ a
theorem Fx.rf {L : List Nat} {μ : ix_M} : Fx L μ μ := fun _ _ => rfl
theorem Fx.tr {L : List Nat} {μ μ' μ'' : ix_M} (h : Fx L μ μ') (h' : Fx L μ' μ'') : Fx L μ μ'' := fun a ha => (h' a ha).trans (h a ha)
theorem Fx.mono {L L' : List Nat} {μ μ' : ix_M} (h : Fx L μ μ') (hl : ∀ a ∈ L, a ∈ L') : Fx L' μ μ' := fun a ha => h a (fun z => ha (hl a z))
theorem Fx.up {L : List Nat} {μ μ' : ix_M} {k j : Nat} {v : Int32} (h : Fx L μ μ') (hk : k ∈ L) : Fx L μ (ix_up μ' k j v) := fun a ha => by
  have hne : a ≠ k := fun e => ha (by rw [e]; exact hk)
  rw [ix_up_ne hne]
  exact h a ha
theorem Fx.at {L : List Nat} {μ μ' : ix_M} (h : Fx L μ μ') {a : Nat} (ha : a ∉ L) (j : Nat) : μ' a j = μ a j := by rw [h a ha]
theorem ix_up_ap (μ : ix_M) (k j : Nat) (v : Int32) (a b : Nat) : ix_up μ k j v a b = if a = k ∧ b = j then v else μ a b := rfl
theorem ix_up_row (μ : ix_M) (k j : Nat) (v : Int32) : ix_up μ k j v k = upd (μ k) j v := by
  funext b
  simp [ix_up, upd]
theorem ix_up_k (μ : ix_M) (k j : Nat) (v : Int32) : ix_up μ k j v k j = v := by simp [ix_up]
theorem vp_inI {i : Int32} {n : Nat} (h1 : 0 ≤ i.toInt) (h2 : i.toInt < n) : vp_in i n := vp_in_iff.mpr ⟨h1, h2⟩
