/-! ===== the abstract machine: memory by cell numbers, values, frames ===== -/
abbrev ix_M : Type := Nat → Nat → Int32
abbrev ix_V : Type := Int32 ⊕ (Int64 ⊕ (Nat × Nat))
abbrev ix_L : Type := List (Option ix_V)
abbrev ix_F : Type := Nat × ix_L × List ix_V × ix_M
abbrev ix_R : Type := Option ix_V × ix_M
abbrev ix_K : Type := ix_F → Prop
abbrev ix_Op : Type := ix_K → (ix_R → Prop) → ix_L → List ix_V → ix_M → Prop
/-- D, addresses of cells, addresses of the three Strings, of their bytes, the array classes, the script -/
abbrev ix_E : Type := va_G × (Nat → Nat) × (Nat → Nat) × (Nat → Nat) × (Nat → ClassId) × (Nat × Nat × (Nat → Int32))
abbrev vi (x : Int32) : ix_V := .inl x
abbrev vl (x : Int64) : ix_V := .inr (.inl x)
abbrev vr (t k : Nat) : ix_V := .inr (.inr (t, k))
def ix_up (μ : ix_M) (k j : Nat) (v : Int32) : ix_M := fun a b => if a = k ∧ b = j then v else μ a b
abbrev ix_N : Nat := 131
def ix_SH : List (Nat × List (Option Nat)) := [
  (9, [some 1, some 24, none, some 47, some 88, some 93, some 96, some 98, some 111, none, none]),
  (5, [some 2, some 10, some 19, some 21, some 23, none]),
  (8, [some 3, some 4, some 5, some 6, some 7, some 8, some 9, none, none, none]),
  (20, [some 16]),
  (20, [some 16]),
  (20, [some 6]),
  (20, [some 8]),
  (20, [some 8]),
  (20, [some 8]),
  (20, [some 8]),
  (0, [some 11, some 15]),
  (6, [some 12, some 14]),
  (3, [some 13, none]),
  (20, [some 50]),
  (20, [some 50]),
  (6, [some 16, some 18]),
  (3, [some 17, none]),
  (20, [some 50]),
  (20, [some 50]),
  (3, [some 20, none]),
  (20, [some 50]),
  (3, [some 22, none]),
  (20, [some 20]),
  (20, [some 6]),
  (5, [some 25, some 33, some 42, some 44, some 46, none]),
  (8, [some 26, some 27, some 28, some 29, some 30, some 31, some 32, none, none, none]),
  (20, [some 16]),
  (20, [some 16]),
  (20, [some 6]),
  (20, [some 8]),
  (20, [some 8]),
  (20, [some 8]),
  (20, [some 8]),
  (0, [some 34, some 38]),
  (6, [some 35, some 37]),
  (3, [some 36, none]),
  (20, [some 50]),
  (20, [some 50]),
  (6, [some 39, some 41]),
  (3, [some 40, none]),
  (20, [some 50]),
  (20, [some 50]),
  (3, [some 43, none]),
  (20, [some 50]),
  (3, [some 45, none]),
  (20, [some 20]),
  (20, [some 6]),
  (21, [some 48, some 56, some 64, some 72, some 80]),
  (8, [some 49, some 50, some 51, some 52, some 53, some 54, some 55, none, none, none]),
  (20, [some 16]),
  (20, [some 16]),
  (20, [some 6]),
  (20, [some 8]),
  (20, [some 8]),
  (20, [some 8]),
  (20, [some 8]),
  (8, [some 57, some 58, some 59, some 60, some 61, some 62, some 63, none, none, none]),
  (20, [some 16]),
  (20, [some 16]),
  (20, [some 6]),
  (20, [some 8]),
  (20, [some 8]),
  (20, [some 8]),
  (20, [some 8]),
  (8, [some 65, some 66, some 67, some 68, some 69, some 70, some 71, none, none, none]),
  (20, [some 16]),
  (20, [some 16]),
  (20, [some 6]),
  (20, [some 8]),
  (20, [some 8]),
  (20, [some 8]),
  (20, [some 8]),
  (8, [some 73, some 74, some 75, some 76, some 77, some 78, some 79, none, none, none]),
  (20, [some 16]),
  (20, [some 16]),
  (20, [some 6]),
  (20, [some 8]),
  (20, [some 8]),
  (20, [some 8]),
  (20, [some 8]),
  (8, [some 81, some 82, some 83, some 84, some 85, some 86, some 87, none, none, none]),
  (20, [some 16]),
  (20, [some 16]),
  (20, [some 6]),
  (20, [some 8]),
  (20, [some 8]),
  (20, [some 8]),
  (20, [some 8]),
  (2, [some 89, some 127, some 1000, none]),
  (6, [some 90, some 92]),
  (3, [some 91, none]),
  (20, [some 50]),
  (20, [some 50]),
  (7, [some 94, none, none, none]),
  (3, [some 95, none]),
  (20, [some 40]),
  (1, [some 97, some 129, some 130, none]),
  (20, [some 1792]),
  (22, [some 99, some 102, some 105, some 108]),
  (4, [some 100, none]),
  (3, [some 101, none]),
  (20, [some 40]),
  (4, [some 103, none]),
  (3, [some 104, none]),
  (20, [some 40]),
  (4, [some 106, none]),
  (3, [some 107, none]),
  (20, [some 40]),
  (4, [some 109, none]),
  (3, [some 110, none]),
  (20, [some 40]),
  (20, [some 6]),
  (10, [some 113, some 114, some 115, none, some 116, none, none, some 117, none, none, none, none, some 118, none, some 119, some 120, some 121, some 122, none, none, none, none, some 123, some 124, some 125, some 126]),
  (20, [some 256]),
  (20, [some 256]),
  (20, [some 256]),
  (20, [some 6]),
  (23, [some 1001, some 1002]),
  (20, [some 60]),
  (20, [some 4]),
  (20, [some 60]),
  (20, [some 1792]),
  (20, [some 40]),
  (20, [some 4]),
  (20, [some 4]),
  (20, [some 160]),
  (20, [some 40]),
  (3, [some 128, none]),
  (20, [some 50]),
  (20, [some 6]),
  (20, [some 8])]
def ix_sh (k : Nat) : Nat × List (Option Nat) := ix_SH.getD k (99, [])
def ix_tag (k : Nat) : Nat := (ix_sh k).1
def ix_len (k : Nat) : Nat := match ix_sh k with
  | (20, some n :: _) => n
  | (_, l) => l.length
def ix_fv (E : ix_E) (μ : ix_M) (k j : Nat) (f : Option Nat) : Value := match f with
  | none => .int (μ k j)
  | some r => if r = 1000 then .ref (E.2.2.1 (μ k j).toNatClampNeg) else .ref (E.2.1 r)
def ix_rv (E : ix_E) (f : Option Nat) : Nat := match f with
  | none => 0
  | some r => if 1000 ≤ r then E.2.2.1 (r - 1000) else E.2.1 r
def ix_ce (E : ix_E) (μ : ix_M) (k : Nat) : va_E :=
  if ix_tag k < 20 then .inr (ix_tag k, (ix_sh k).2.mapIdx (fun j f => ix_fv E μ k j f))
  else if ix_tag k = 20 then .inl (E.2.2.2.2.1 0, ix_len k, .inl (μ k))
  else .inl (E.2.2.2.2.1 (ix_tag k - 20), (ix_sh k).2.length, .inr (.inr (.inr (.inr (fun i => some (ix_rv E ((ix_sh k).2.getD i none)))))))
def ix_w (E : ix_E) (μ : ix_M) : va_W := (List.range ix_N).map (fun k => (E.2.1 k, ix_ce E μ k))
def ix_cv (E : ix_E) (v : ix_V) : Value := match v with
  | .inl x => .int x
  | .inr (.inl x) => .long x
  | .inr (.inr (t, k)) => .ref (if t = 24 then E.2.2.1 k else if t = 25 then E.2.2.2.2.2.1 else if t = 26 then E.2.2.2.1 k else E.2.1 k)
def ix_ok (v : ix_V) : Prop := match v with
  | .inr (.inr (t, k)) => if t = 24 then k < 3 else if t = 25 then True else if t = 26 then k < 3 else k < ix_N ∧ ix_tag k = t
  | _ => True
theorem ix_w_at (E : ix_E) (μ : ix_M) {k : Nat} (h : k < ix_N) : (ix_w E μ)[k]? = some (E.2.1 k, ix_ce E μ k) := by
  unfold ix_w
  rw [List.getElem?_map, List.getElem?_range h]
  rfl
theorem ix_w_len (E : ix_E) (μ : ix_M) : (ix_w E μ).length = ix_N := by simp [ix_w]
theorem ix_w_lt {E : ix_E} {μ : ix_M} {k : Nat} {q : Nat × va_E} (h : (ix_w E μ)[k]? = some q) : k < ix_N := by
  have := (List.getElem?_eq_some_iff.mp h).1
  rwa [ix_w_len] at this
theorem ix_w_inv {E : ix_E} {μ : ix_M} {k : Nat} {q : Nat × va_E} (h : (ix_w E μ)[k]? = some q) : k < ix_N ∧ q = (E.2.1 k, ix_ce E μ k) := by
  have hk := ix_w_lt h
  rw [ix_w_at E μ hk] at h
  exact ⟨hk, (Option.some.inj h).symm⟩
theorem ix_up_ne {μ : ix_M} {k j : Nat} {v : Int32} {a : Nat} (h : a ≠ k) : ix_up μ k j v a = μ a := by
  funext b
  simp [ix_up, h]
theorem ix_ce_ne {E : ix_E} {μ μ' : ix_M} {a : Nat} (h : μ' a = μ a) : ix_ce E μ' a = ix_ce E μ a := by
  unfold ix_ce
  split
  · congr 2
    apply List.ext_getElem?
    intro i
    rw [List.getElem?_mapIdx, List.getElem?_mapIdx]
    cases (ix_sh a).2[i]? with
    | none => rfl
    | some f => cases f with
      | none => simp [ix_fv, h]
      | some r => simp [ix_fv, h]
  · split
    · rw [h]
    · rfl
/-- a cell is set: the world of the new memory -/
theorem ix_w_set {E : ix_E} {μ μ' : ix_M} {k : Nat} {e : va_E} (hk : k < ix_N) (h : ∀ a, a ≠ k → μ' a = μ a) (he : ix_ce E μ' k = e) : (ix_w E μ).set k (E.2.1 k, e) = ix_w E μ' := by
  apply List.ext_getElem?
  intro i
  by_cases hi : i = k
  · subst hi
    rw [List.getElem?_set_self (by rw [ix_w_len]; exact hk), ix_w_at E μ' hk, he]
  · rw [List.getElem?_set_ne (Ne.symm hi)]
    by_cases hN : i < ix_N
    · rw [ix_w_at E μ hN, ix_w_at E μ' hN, ix_ce_ne (h i hi)]
    · rw [List.getElem?_eq_none (by rw [ix_w_len]; omega), List.getElem?_eq_none (by rw [ix_w_len]; omega)]
theorem ix_ce_obj {E : ix_E} {μ : ix_M} {k t : Nat} (ht : ix_tag k = t) (h : t < 20) : ix_ce E μ k = .inr (t, (ix_sh k).2.mapIdx (fun j f => ix_fv E μ k j f)) := by
  unfold ix_ce
  rw [ht, if_pos h]
theorem ix_ce_arr {E : ix_E} {μ : ix_M} {k : Nat} (ht : ix_tag k = 20) : ix_ce E μ k = .inl (E.2.2.2.2.1 0, ix_len k, .inl (μ k)) := by
  unfold ix_ce
  rw [ht, if_neg (by decide), if_pos rfl]
theorem ix_ce_ref {E : ix_E} {μ : ix_M} {k t : Nat} (ht : ix_tag k = t) (h : 20 < t) : ix_ce E μ k = .inl (E.2.2.2.2.1 (t - 20), (ix_sh k).2.length, .inr (.inr (.inr (.inr (fun i => some (ix_rv E ((ix_sh k).2.getD i none))))))) := by
  unfold ix_ce
  rw [ht, if_neg (by omega), if_neg (by omega)]
/-- the words -/
def ix_TB : List Cond := lw_tbl.filter goodWord
theorem ix_TB_in {w : Cond} (h : w ∈ lw_tbl) (hg : goodWord w = true) : w ∈ ix_TB := List.mem_filter.mpr ⟨h, hg⟩
theorem ix_tab {w : Cond} (i : Nat) (h : tables_1[i]? = some w) (hg : goodWord w = true) : w ∈ ix_TB := ix_TB_in (List.mem_append_right _ (List.mem_of_getElem? h)) hg
theorem ix_sel {w : Cond} (i : Nat) (h : (k2_sels lw_privs)[i]? = some w) (hg : goodWord w = true) : w ∈ ix_TB := ix_TB_in (List.mem_append_left _ (List.mem_of_getElem? h)) hg
theorem ix_TB_good {y : MethodName} {cc : ByteArray} {n : Nat} {rt : Option FieldType} (h : Cond.code y cc n rt ∈ ix_TB) : GoodIn ix_TB (Cond.code y cc n rt :: ix_TB) := by
  intro w hw
  rcases List.mem_cons.mp hw with rfl | hw
  · exact ⟨h, good_of_word (List.mem_filter.mp h).2⟩
  · exact ⟨hw, good_of_word (List.mem_filter.mp hw).2⟩
/-- the nest links that methods use -/
def ix_nests : List (String × Nat × MethodName × String) := [("IndigoBoats$Laws", 31, ⟨"IndigoBoats", "held", "(I)I"⟩, "IndigoBoats"), ("IndigoBoats$Water", 90, ⟨"IndigoBoats", "held", "(I)I"⟩, "IndigoBoats"), ("IndigoBoats$Water", 49, ⟨"IndigoBoats", "sum", "([II)I"⟩, "IndigoBoats")]
/-- the cells that methods may write -/
def ix_A (E : ix_E) : Nat → Prop := fun q => ∃ k, k < ix_N ∧ q = E.2.1 k
def ix_tys (E : ix_E) : List (ClassId × FieldType) := [(E.2.2.2.2.1 0, .int), (E.2.2.2.2.1 1, .object "IndigoBoats$Water"), (E.2.2.2.2.1 2, .object "IndigoBoats$Sheet"), (E.2.2.2.2.1 3, .object "java/lang/String")]
/-- what is never written: Strings, a static, the script -/
def ix_RO (E : ix_E) (U : State) (H : Heap) : Prop :=
  vk_S 3 [0, 3, 3] [[], [115, 100, 116], [108, 98, 104]] E.2.2.1 E.2.2.2.1 (ix_A E) U H ∧ va_Z "java/lang/String" "COMPACT_STRINGS" "Z" (.int 1) (ix_A E) U H ∧ va_X E.2.2.2.2.2.1 E.2.2.2.2.2.2.1 E.2.2.2.2.2.2.2 U H ∧ (¬ ix_A E E.2.2.2.2.2.1) ∧ va_Zq "jdk/internal/util/Preconditions" "SIOOBE_FORMATTER" "Ljava/util/function/BiFunction;" (ix_A E) U H
def ix_KV (E : ix_E) (U : State) : Prop :=
  va_K E.1 vwCl (ix_tys E) U ∧ (∀ q ∈ ix_nests, va_Nw (.methodLinkNest q.1 q.2.1 q.2.2.1 q.2.2.2) U) ∧ vk_R "IndigoBoats$Reader" 37 "sdt" (E.2.2.1 1) U ∧ vk_R "IndigoBoats$Reader" 39 "lbh" (E.2.2.1 2) U
def ix_EO (E : ix_E) : Prop := ∀ i j, i < ix_N → j < ix_N → E.2.1 i = E.2.1 j → i = j
def ix_H (E : ix_E) (μ : ix_M) (U : State) : Prop := va_P E.1 vwCl (ix_w E μ) U.heap ∧ ix_KV E U ∧ ix_RO E U U.heap
theorem ix_KV.warm {E : ix_E} {s U : State} (hW : s.WarmedH U.vm) (h : ix_KV E s) : ix_KV E U := by
  obtain ⟨h1, h2, h3, h4⟩ := h
  exact ⟨va_K.moved hW.alike h1, fun q hq => va_Nw.warmM hW (h2 q hq), vk_R.warm hW h3, vk_R.warm hW h4⟩
theorem ix_KV.same {E : ix_E} {s U : State} (hv : U.vm = s.vm) (h : ix_KV E s) : ix_KV E U := by
  obtain ⟨h1, h2, h3, h4⟩ := h
  exact ⟨va_K.moved (u := s) (U := U) (by rw [hv]; exact Vm.Alike.refl _) h1, fun q hq => va_Nw.same rfl hv.symm (h2 q hq), vk_R.same hv h3, vk_R.same hv h4⟩
theorem ix_RO.moved {E : ix_E} {s U : State} {H : Heap} (hvm : s.vm.Alike U.vm) (h : ix_RO E s H) : ix_RO E U H := by
  obtain ⟨h1, h2, h3, h4, h5⟩ := h
  exact ⟨h1.moved hvm, h2.moved hvm, h3.moved hvm, h4, h5.moved hvm⟩
theorem ix_RO.kept {E : ix_E} {U : State} {H H1 : Heap} (h : ix_RO E U H) (hq : ∀ a : Nat, a < H.size → ¬ ix_A E a → H1[a]? = H[a]?) : ix_RO E U H1 := by
  obtain ⟨h1, h2, h3, h4, h5⟩ := h
  refine ⟨h1.kept hq, h2.kept hq, ?_, h4, h5.kept hq⟩
  obtain ⟨scr, g1, g2⟩ := h3
  exact ⟨scr, by rw [hq _ (Array.getElem?_eq_some_iff.mp g1).1 h4]; exact g1, g2⟩
theorem ix_D {E : ix_E} {μ : ix_M} {A : Nat → Prop} (hE : ix_EO E) (hA : ∀ q, ix_A E q → A q) : va_D A (ix_w E μ) := by
  refine ⟨fun i j p q hi hj hpq => ?_, fun k q hk => ?_⟩
  · obtain ⟨hi1, rfl⟩ := ix_w_inv hi
    obtain ⟨hj1, rfl⟩ := ix_w_inv hj
    exact hE i j hi1 hj1 hpq
  · obtain ⟨hk1, rfl⟩ := ix_w_inv hk
    exact hA _ ⟨k, hk1, rfl⟩
/-- locals -/
def ix_al (E : ix_E) (L : ix_L) : List (Nat × Value) := (List.range L.length).filterMap (fun i => match L[i]? with
  | some (some v) => some (i, ix_cv E v)
  | _ => none)
theorem ix_al_in {E : ix_E} {L : ix_L} {i : Nat} {v : ix_V} (h : L[i]? = some (some v)) : (i, ix_cv E v) ∈ ix_al E L := by
  unfold ix_al
  rw [List.mem_filterMap]
  exact ⟨i, List.mem_range.mpr (List.getElem?_eq_some_iff.mp h).1, by rw [h]⟩
def ix_lv (E : ix_E) (ls : Array Slot) (nL : Nat) (L : ix_L) : Prop := L.length = nL ∧ ls.size = nL ∧ lv_wf ls ∧ (∀ (i : Nat) (v : ix_V), L[i]? = some (some v) → ls[i]? = some (.val (ix_cv E v))) ∧ ∀ (i : Nat) (v : ix_V), L[i]? = some (some v) → ix_ok v
theorem ix_al_inv {E : ix_E} {L : ix_L} {q : Nat × Value} (h : q ∈ ix_al E L) : ∃ v, L[q.1]? = some (some v) ∧ q.2 = ix_cv E v := by
  unfold ix_al at h
  rw [List.mem_filterMap] at h
  obtain ⟨i, hi, h⟩ := h
  split at h
  · rename_i v hv
    cases h
    exact ⟨v, hv, rfl⟩
  · cases h
theorem ix_lv.has {E : ix_E} {ls : Array Slot} {nL : Nat} {L : ix_L} (h : ix_lv E ls nL L) : lv_has ls nL (ix_al E L) := by
  refine ⟨h.2.1, h.2.2.1, fun q hq => ?_⟩
  obtain ⟨v, hv, e⟩ := ix_al_inv hq
  rw [e]
  exact h.2.2.2.1 _ _ hv
/-- no long ends at i -/
def ix_nl (L : ix_L) (i : Nat) : Bool := match i with
  | 0 => true
  | j + 1 => match L[j]? with
    | some (some (.inr (.inl _))) => false
    | _ => true
theorem ix_lv.st {E : ix_E} {ls ls' : Array Slot} {nL i : Nat} {L : ix_L} {v : ix_V} (h0 : ix_lv E ls nL L) (hi : i < nL) (hn : ix_nl L i = true) (hv : ix_ok v) (h : lv_has ls' nL ((i, ix_cv E v) :: (ix_al E L).filter (fun q => !(q.1 == i) && !(q.1 + 1 == i && q.2.category == 2)))) : ix_lv E ls' nL (L.set i (some v)) := by
  refine ⟨by rw [List.length_set]; exact h0.1, h.1, h.2.1, fun j w hj => ?_, fun j w hj => ?_⟩
  · by_cases hji : j = i
    · subst hji
      rw [List.getElem?_set_self (by rw [h0.1]; exact hi)] at hj
      cases hj
      exact h.2.2 _ List.mem_cons_self
    · rw [List.getElem?_set_ne (Ne.symm hji)] at hj
      refine h.2.2 (j, ix_cv E w) (List.mem_cons_of_mem _ (List.mem_filter.mpr ⟨ix_al_in hj, ?_⟩))
      simp only [Bool.and_eq_true, Bool.not_eq_true', beq_eq_false_iff_ne, ne_eq, Bool.and_eq_false_iff]
      refine ⟨hji, ?_⟩
      by_cases hj1 : j + 1 = i
      · right
        subst hj1
        simp only [ix_nl, hj] at hn
        rcases w with x | x | ⟨t, k⟩
        · simp [ix_cv, Value.category]
        · simp at hn
        · simp [ix_cv, Value.category]
      · exact Or.inl hj1
  · by_cases hji : j = i
    · subst hji
      rw [List.getElem?_set_self (by rw [h0.1]; exact hi)] at hj
      cases hj
      exact hv
    · rw [List.getElem?_set_ne (Ne.symm hji)] at hj
      exact h0.2.2.2.2 _ _ hj
